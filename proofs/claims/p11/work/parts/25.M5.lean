theorem qm_M_move_0 : decode qm_M_move_c 0 = .ok (.aload_n 0, 1) := by decide +kernel
theorem qm_M_move_1 : decode qm_M_move_c 1 = .ok (.getfield 25, 3) := by decide +kernel
theorem qm_M_move_4 : decode qm_M_move_c 4 = .ok (.iconst 0, 1) := by decide +kernel
theorem qm_M_move_5 : decode qm_M_move_c 5 = .ok (.iaload, 1) := by decide +kernel
theorem qm_M_move_6 : decode qm_M_move_c 6 = .ok (.istore_n 2, 1) := by decide +kernel
theorem qm_M_move_7 : decode qm_M_move_c 7 = .ok (.aload_n 0, 1) := by decide +kernel
theorem qm_M_move_8 : decode qm_M_move_c 8 = .ok (.getfield 25, 3) := by decide +kernel
theorem qm_M_move_11 : decode qm_M_move_c 11 = .ok (.iconst 1, 1) := by decide +kernel
theorem qm_M_move_12 : decode qm_M_move_c 12 = .ok (.iaload, 1) := by decide +kernel
theorem qm_M_move_13 : decode qm_M_move_c 13 = .ok (.istore_n 3, 1) := by decide +kernel
theorem qm_M_move_14 : decode qm_M_move_c 14 = .ok (.aload_n 0, 1) := by decide +kernel
theorem qm_M_move_15 : decode qm_M_move_c 15 = .ok (.iconst 0, 1) := by decide +kernel
theorem qm_M_move_16 : decode qm_M_move_c 16 = .ok (.invokevirtual 106, 3) := by decide +kernel
theorem qm_M_move_19 : decode qm_M_move_c 19 = .ok (.istore 4, 2) := by decide +kernel
theorem qm_M_move_21 : decode qm_M_move_c 21 = .ok (.iload_n 1, 1) := by decide +kernel
theorem qm_M_move_22 : decode qm_M_move_c 22 = .ok (.bipush 12, 2) := by decide +kernel
theorem qm_M_move_24 : decode qm_M_move_c 24 = .ok (.if_icmp .ne 10, 3) := by decide +kernel
theorem qm_M_move_27 : decode qm_M_move_c 27 = .ok (.aload_n 0, 1) := by decide +kernel
theorem qm_M_move_28 : decode qm_M_move_c 28 = .ok (.getfield 44, 3) := by decide +kernel
theorem qm_M_move_31 : decode qm_M_move_c 31 = .ok (.goto 77, 3) := by decide +kernel
theorem qm_M_move_34 : decode qm_M_move_c 34 = .ok (.iload_n 1, 1) := by decide +kernel
theorem qm_M_move_35 : decode qm_M_move_c 35 = .ok (.bipush 16, 2) := by decide +kernel
theorem qm_M_move_37 : decode qm_M_move_c 37 = .ok (.if_icmp .eq 9, 3) := by decide +kernel
theorem qm_M_move_40 : decode qm_M_move_c 40 = .ok (.iload_n 1, 1) := by decide +kernel
theorem qm_M_move_41 : decode qm_M_move_c 41 = .ok (.bipush 17, 2) := by decide +kernel
theorem qm_M_move_43 : decode qm_M_move_c 43 = .ok (.if_icmp .ne 10, 3) := by decide +kernel
theorem qm_M_move_46 : decode qm_M_move_c 46 = .ok (.iload_n 2, 1) := by decide +kernel
theorem qm_M_move_47 : decode qm_M_move_c 47 = .ok (.invokestatic 103, 3) := by decide +kernel
theorem qm_M_move_50 : decode qm_M_move_c 50 = .ok (.goto 58, 3) := by decide +kernel
theorem qm_M_move_53 : decode qm_M_move_c 53 = .ok (.iload_n 1, 1) := by decide +kernel
theorem qm_M_move_54 : decode qm_M_move_c 54 = .ok (.bipush 18, 2) := by decide +kernel
theorem qm_M_move_56 : decode qm_M_move_c 56 = .ok (.if_icmp .ne 8, 3) := by decide +kernel
theorem qm_M_move_59 : decode qm_M_move_c 59 = .ok (.iload_n 2, 1) := by decide +kernel
theorem qm_M_move_60 : decode qm_M_move_c 60 = .ok (.ineg, 1) := by decide +kernel
theorem qm_M_move_61 : decode qm_M_move_c 61 = .ok (.goto 47, 3) := by decide +kernel
theorem qm_M_move_64 : decode qm_M_move_c 64 = .ok (.iload_n 1, 1) := by decide +kernel
theorem qm_M_move_65 : decode qm_M_move_c 65 = .ok (.bipush 19, 2) := by decide +kernel
theorem qm_M_move_67 : decode qm_M_move_c 67 = .ok (.if_icmp .ne 9, 3) := by decide +kernel
theorem qm_M_move_70 : decode qm_M_move_c 70 = .ok (.iload_n 2, 1) := by decide +kernel
theorem qm_M_move_71 : decode qm_M_move_c 71 = .ok (.iconst (-1), 1) := by decide +kernel
theorem qm_M_move_72 : decode qm_M_move_c 72 = .ok (.ixor, 1) := by decide +kernel
theorem qm_M_move_73 : decode qm_M_move_c 73 = .ok (.goto 35, 3) := by decide +kernel
theorem qm_M_move_76 : decode qm_M_move_c 76 = .ok (.iload_n 1, 1) := by decide +kernel
theorem qm_M_move_77 : decode qm_M_move_c 77 = .ok (.bipush 20, 2) := by decide +kernel
theorem qm_M_move_79 : decode qm_M_move_c 79 = .ok (.if_icmp .ne 7, 3) := by decide +kernel
theorem qm_M_move_82 : decode qm_M_move_c 82 = .ok (.iconst 0, 1) := by decide +kernel
theorem qm_M_move_83 : decode qm_M_move_c 83 = .ok (.goto 25, 3) := by decide +kernel
theorem qm_M_move_86 : decode qm_M_move_c 86 = .ok (.iload_n 1, 1) := by decide +kernel
theorem qm_M_move_87 : decode qm_M_move_c 87 = .ok (.bipush 41, 2) := by decide +kernel
theorem qm_M_move_89 : decode qm_M_move_c 89 = .ok (.if_icmp .le 18, 3) := by decide +kernel
theorem qm_M_move_92 : decode qm_M_move_c 92 = .ok (.iload_n 1, 1) := by decide +kernel
theorem qm_M_move_93 : decode qm_M_move_c 93 = .ok (.bipush 44, 2) := by decide +kernel
theorem qm_M_move_95 : decode qm_M_move_c 95 = .ok (.if_icmp .eq 12, 3) := by decide +kernel
theorem qm_M_move_98 : decode qm_M_move_c 98 = .ok (.aload_n 0, 1) := by decide +kernel
theorem qm_M_move_99 : decode qm_M_move_c 99 = .ok (.getfield 31, 3) := by decide +kernel
theorem qm_M_move_102 : decode qm_M_move_c 102 = .ok (.iconst 0, 1) := by decide +kernel
theorem qm_M_move_103 : decode qm_M_move_c 103 = .ok (.iaload, 1) := by decide +kernel
theorem qm_M_move_104 : decode qm_M_move_c 104 = .ok (.goto 4, 3) := by decide +kernel
theorem qm_M_move_107 : decode qm_M_move_c 107 = .ok (.iload_n 2, 1) := by decide +kernel
theorem qm_M_move_108 : decode qm_M_move_c 108 = .ok (.istore 5, 2) := by decide +kernel
theorem qm_M_move_110 : decode qm_M_move_c 110 = .ok (.iload_n 1, 1) := by decide +kernel
theorem qm_M_move_111 : decode qm_M_move_c 111 = .ok (.bipush 13, 2) := by decide +kernel
theorem qm_M_move_113 : decode qm_M_move_c 113 = .ok (.if_icmp .eq 9, 3) := by decide +kernel
theorem qm_M_move_116 : decode qm_M_move_c 116 = .ok (.iload_n 1, 1) := by decide +kernel
theorem qm_M_move_117 : decode qm_M_move_c 117 = .ok (.bipush 22, 2) := by decide +kernel
theorem qm_M_move_119 : decode qm_M_move_c 119 = .ok (.if_icmp .ne 10, 3) := by decide +kernel
theorem qm_M_move_122 : decode qm_M_move_c 122 = .ok (.iload_n 2, 1) := by decide +kernel
theorem qm_M_move_123 : decode qm_M_move_c 123 = .ok (.invokestatic 103, 3) := by decide +kernel
theorem qm_M_move_126 : decode qm_M_move_c 126 = .ok (.goto 5, 3) := by decide +kernel
theorem qm_M_move_129 : decode qm_M_move_c 129 = .ok (.iload 5, 2) := by decide +kernel
theorem qm_M_move_131 : decode qm_M_move_c 131 = .ok (.istore 6, 2) := by decide +kernel
theorem qm_M_move_133 : decode qm_M_move_c 133 = .ok (.iload_n 1, 1) := by decide +kernel
theorem qm_M_move_134 : decode qm_M_move_c 134 = .ok (.bipush 23, 2) := by decide +kernel
theorem qm_M_move_136 : decode qm_M_move_c 136 = .ok (.if_icmp .eq 9, 3) := by decide +kernel
theorem qm_M_move_139 : decode qm_M_move_c 139 = .ok (.iload_n 1, 1) := by decide +kernel
theorem qm_M_move_140 : decode qm_M_move_c 140 = .ok (.bipush 24, 2) := by decide +kernel
theorem qm_M_move_142 : decode qm_M_move_c 142 = .ok (.if_icmp .ne 69, 3) := by decide +kernel
theorem qm_M_move_145 : decode qm_M_move_c 145 = .ok (.iload_n 1, 1) := by decide +kernel
theorem qm_M_move_146 : decode qm_M_move_c 146 = .ok (.bipush 23, 2) := by decide +kernel
theorem qm_M_move_148 : decode qm_M_move_c 148 = .ok (.if_icmp .ne 7, 3) := by decide +kernel
theorem qm_M_move_151 : decode qm_M_move_c 151 = .ok (.iload_n 2, 1) := by decide +kernel
theorem qm_M_move_152 : decode qm_M_move_c 152 = .ok (.goto 7, 3) := by decide +kernel
theorem qm_M_move_155 : decode qm_M_move_c 155 = .ok (.iload_n 2, 1) := by decide +kernel
theorem qm_M_move_156 : decode qm_M_move_c 156 = .ok (.invokestatic 103, 3) := by decide +kernel
theorem qm_M_move_159 : decode qm_M_move_c 159 = .ok (.istore 7, 2) := by decide +kernel
theorem qm_M_move_161 : decode qm_M_move_c 161 = .ok (.iload_n 1, 1) := by decide +kernel
theorem qm_M_move_162 : decode qm_M_move_c 162 = .ok (.bipush 23, 2) := by decide +kernel
theorem qm_M_move_164 : decode qm_M_move_c 164 = .ok (.if_icmp .ne 7, 3) := by decide +kernel
theorem qm_M_move_167 : decode qm_M_move_c 167 = .ok (.iload_n 3, 1) := by decide +kernel
theorem qm_M_move_168 : decode qm_M_move_c 168 = .ok (.goto 7, 3) := by decide +kernel
theorem qm_M_move_171 : decode qm_M_move_c 171 = .ok (.iload_n 3, 1) := by decide +kernel
theorem qm_M_move_172 : decode qm_M_move_c 172 = .ok (.invokestatic 103, 3) := by decide +kernel
theorem qm_M_move_175 : decode qm_M_move_c 175 = .ok (.istore 8, 2) := by decide +kernel
theorem qm_M_move_177 : decode qm_M_move_c 177 = .ok (.aload_n 0, 1) := by decide +kernel
theorem qm_M_move_178 : decode qm_M_move_c 178 = .ok (.iload 7, 2) := by decide +kernel
theorem qm_M_move_180 : decode qm_M_move_c 180 = .ok (.iload 8, 2) := by decide +kernel
theorem qm_M_move_182 : decode qm_M_move_c 182 = .ok (.if_icmp .ge 7, 3) := by decide +kernel
theorem qm_M_move_185 : decode qm_M_move_c 185 = .ok (.iconst (-1), 1) := by decide +kernel
theorem qm_M_move_186 : decode qm_M_move_c 186 = .ok (.goto 15, 3) := by decide +kernel
theorem qm_M_move_189 : decode qm_M_move_c 189 = .ok (.iload 7, 2) := by decide +kernel
theorem qm_M_move_191 : decode qm_M_move_c 191 = .ok (.iload 8, 2) := by decide +kernel
theorem qm_M_move_193 : decode qm_M_move_c 193 = .ok (.if_icmp .ne 7, 3) := by decide +kernel
theorem qm_M_move_196 : decode qm_M_move_c 196 = .ok (.iconst 0, 1) := by decide +kernel
theorem qm_M_move_197 : decode qm_M_move_c 197 = .ok (.goto 4, 3) := by decide +kernel
theorem qm_M_move_200 : decode qm_M_move_c 200 = .ok (.iconst 1, 1) := by decide +kernel
theorem qm_M_move_201 : decode qm_M_move_c 201 = .ok (.iconst 0, 1) := by decide +kernel
theorem qm_M_move_202 : decode qm_M_move_c 202 = .ok (.iload_n 2, 1) := by decide +kernel
theorem qm_M_move_203 : decode qm_M_move_c 203 = .ok (.iload_n 3, 1) := by decide +kernel
theorem qm_M_move_204 : decode qm_M_move_c 204 = .ok (.invokestatic 52, 3) := by decide +kernel
theorem qm_M_move_207 : decode qm_M_move_c 207 = .ok (.invokevirtual 113, 3) := by decide +kernel
theorem qm_M_move_210 : decode qm_M_move_c 210 = .ok (.return_, 1) := by decide +kernel
theorem qm_M_move_211 : decode qm_M_move_c 211 = .ok (.iload_n 1, 1) := by decide +kernel
theorem qm_M_move_212 : decode qm_M_move_c 212 = .ok (.bipush 12, 2) := by decide +kernel
theorem qm_M_move_214 : decode qm_M_move_c 214 = .ok (.if_icmp .eq 92, 3) := by decide +kernel
theorem qm_M_move_217 : decode qm_M_move_c 217 = .ok (.aload_n 0, 1) := by decide +kernel
theorem qm_M_move_218 : decode qm_M_move_c 218 = .ok (.iload 6, 2) := by decide +kernel
theorem qm_M_move_220 : decode qm_M_move_c 220 = .ok (.iload_n 1, 1) := by decide +kernel
theorem qm_M_move_221 : decode qm_M_move_c 221 = .ok (.bipush 17, 2) := by decide +kernel
theorem qm_M_move_223 : decode qm_M_move_c 223 = .ok (.if_icmp .ne 17, 3) := by decide +kernel
theorem qm_M_move_226 : decode qm_M_move_c 226 = .ok (.iload 5, 2) := by decide +kernel
theorem qm_M_move_228 : decode qm_M_move_c 228 = .ok (.iload_n 2, 1) := by decide +kernel
theorem qm_M_move_229 : decode qm_M_move_c 229 = .ok (.if_icmp .eq 7, 3) := by decide +kernel
theorem qm_M_move_232 : decode qm_M_move_c 232 = .ok (.iconst 1, 1) := by decide +kernel
theorem qm_M_move_233 : decode qm_M_move_c 233 = .ok (.goto 24, 3) := by decide +kernel
theorem qm_M_move_236 : decode qm_M_move_c 236 = .ok (.iconst 0, 1) := by decide +kernel
theorem qm_M_move_237 : decode qm_M_move_c 237 = .ok (.goto 20, 3) := by decide +kernel
theorem qm_M_move_240 : decode qm_M_move_c 240 = .ok (.iload_n 1, 1) := by decide +kernel
theorem qm_M_move_241 : decode qm_M_move_c 241 = .ok (.bipush 18, 2) := by decide +kernel
theorem qm_M_move_243 : decode qm_M_move_c 243 = .ok (.if_icmp .ne 13, 3) := by decide +kernel
theorem qm_M_move_246 : decode qm_M_move_c 246 = .ok (.iload_n 2, 1) := by decide +kernel
theorem qm_M_move_247 : decode qm_M_move_c 247 = .ok (.ldc 47, 2) := by decide +kernel
theorem qm_M_move_249 : decode qm_M_move_c 249 = .ok (.if_icmp .ne 7, 3) := by decide +kernel
theorem qm_M_move_252 : decode qm_M_move_c 252 = .ok (.iconst 1, 1) := by decide +kernel
theorem qm_M_move_253 : decode qm_M_move_c 253 = .ok (.goto 4, 3) := by decide +kernel
theorem qm_M_move_256 : decode qm_M_move_c 256 = .ok (.iconst 0, 1) := by decide +kernel
theorem qm_M_move_257 : decode qm_M_move_c 257 = .ok (.iload_n 1, 1) := by decide +kernel
theorem qm_M_move_258 : decode qm_M_move_c 258 = .ok (.bipush 18, 2) := by decide +kernel
theorem qm_M_move_260 : decode qm_M_move_c 260 = .ok (.if_icmp .ne 15, 3) := by decide +kernel
theorem qm_M_move_263 : decode qm_M_move_c 263 = .ok (.iload_n 2, 1) := by decide +kernel
theorem qm_M_move_264 : decode qm_M_move_c 264 = .ok (.ifCond .eq 7, 3) := by decide +kernel
theorem qm_M_move_267 : decode qm_M_move_c 267 = .ok (.iconst 1, 1) := by decide +kernel
theorem qm_M_move_268 : decode qm_M_move_c 268 = .ok (.goto 35, 3) := by decide +kernel
theorem qm_M_move_271 : decode qm_M_move_c 271 = .ok (.iconst 0, 1) := by decide +kernel
theorem qm_M_move_272 : decode qm_M_move_c 272 = .ok (.goto 31, 3) := by decide +kernel
theorem qm_M_move_275 : decode qm_M_move_c 275 = .ok (.iload_n 1, 1) := by decide +kernel
theorem qm_M_move_276 : decode qm_M_move_c 276 = .ok (.bipush 17, 2) := by decide +kernel
theorem qm_M_move_278 : decode qm_M_move_c 278 = .ok (.if_icmp .eq 24, 3) := by decide +kernel
theorem qm_M_move_281 : decode qm_M_move_c 281 = .ok (.iload_n 1, 1) := by decide +kernel
theorem qm_M_move_282 : decode qm_M_move_c 282 = .ok (.bipush 21, 2) := by decide +kernel
theorem qm_M_move_284 : decode qm_M_move_c 284 = .ok (.if_icmp .eq 18, 3) := by decide +kernel
theorem qm_M_move_287 : decode qm_M_move_c 287 = .ok (.iload_n 1, 1) := by decide +kernel
theorem qm_M_move_288 : decode qm_M_move_c 288 = .ok (.bipush 22, 2) := by decide +kernel
theorem qm_M_move_290 : decode qm_M_move_c 290 = .ok (.if_icmp .eq 12, 3) := by decide +kernel
theorem qm_M_move_293 : decode qm_M_move_c 293 = .ok (.iload 4, 2) := by decide +kernel
theorem qm_M_move_295 : decode qm_M_move_c 295 = .ok (.ifCond .eq 7, 3) := by decide +kernel
theorem qm_M_move_298 : decode qm_M_move_c 298 = .ok (.iconst 1, 1) := by decide +kernel
theorem qm_M_move_299 : decode qm_M_move_c 299 = .ok (.goto 4, 3) := by decide +kernel
theorem qm_M_move_302 : decode qm_M_move_c 302 = .ok (.iconst 0, 1) := by decide +kernel
theorem qm_M_move_303 : decode qm_M_move_c 303 = .ok (.invokevirtual 113, 3) := by decide +kernel
theorem qm_M_move_306 : decode qm_M_move_c 306 = .ok (.iload_n 1, 1) := by decide +kernel
theorem qm_M_move_307 : decode qm_M_move_c 307 = .ok (.bipush 44, 2) := by decide +kernel
theorem qm_M_move_309 : decode qm_M_move_c 309 = .ok (.if_icmp .eq 9, 3) := by decide +kernel
theorem qm_M_move_312 : decode qm_M_move_c 312 = .ok (.iload_n 1, 1) := by decide +kernel
theorem qm_M_move_313 : decode qm_M_move_c 313 = .ok (.bipush 45, 2) := by decide +kernel
theorem qm_M_move_315 : decode qm_M_move_c 315 = .ok (.if_icmp .ne 12, 3) := by decide +kernel
theorem qm_M_move_318 : decode qm_M_move_c 318 = .ok (.aload_n 0, 1) := by decide +kernel
theorem qm_M_move_319 : decode qm_M_move_c 319 = .ok (.iload 5, 2) := by decide +kernel
theorem qm_M_move_321 : decode qm_M_move_c 321 = .ok (.invokevirtual 121, 3) := by decide +kernel
theorem qm_M_move_324 : decode qm_M_move_c 324 = .ok (.goto 55, 3) := by decide +kernel
theorem qm_M_move_327 : decode qm_M_move_c 327 = .ok (.iload_n 1, 1) := by decide +kernel
theorem qm_M_move_328 : decode qm_M_move_c 328 = .ok (.bipush 21, 2) := by decide +kernel
theorem qm_M_move_330 : decode qm_M_move_c 330 = .ok (.if_icmp .eq 49, 3) := by decide +kernel
theorem qm_M_move_333 : decode qm_M_move_c 333 = .ok (.iload_n 1, 1) := by decide +kernel
theorem qm_M_move_334 : decode qm_M_move_c 334 = .ok (.bipush 22, 2) := by decide +kernel
theorem qm_M_move_336 : decode qm_M_move_c 336 = .ok (.if_icmp .eq 43, 3) := by decide +kernel
theorem qm_M_move_339 : decode qm_M_move_c 339 = .ok (.aload_n 0, 1) := by decide +kernel
theorem qm_M_move_340 : decode qm_M_move_c 340 = .ok (.iload_n 1, 1) := by decide +kernel
theorem qm_M_move_341 : decode qm_M_move_c 341 = .ok (.bipush 12, 2) := by decide +kernel
theorem qm_M_move_343 : decode qm_M_move_c 343 = .ok (.if_icmp .eq 9, 3) := by decide +kernel
theorem qm_M_move_346 : decode qm_M_move_c 346 = .ok (.iload_n 1, 1) := by decide +kernel
theorem qm_M_move_347 : decode qm_M_move_c 347 = .ok (.bipush 20, 2) := by decide +kernel
theorem qm_M_move_349 : decode qm_M_move_c 349 = .ok (.if_icmp .ne 7, 3) := by decide +kernel
theorem qm_M_move_352 : decode qm_M_move_c 352 = .ok (.iconst 0, 1) := by decide +kernel
theorem qm_M_move_353 : decode qm_M_move_c 353 = .ok (.goto 4, 3) := by decide +kernel
theorem qm_M_move_356 : decode qm_M_move_c 356 = .ok (.iconst 1, 1) := by decide +kernel
theorem qm_M_move_357 : decode qm_M_move_c 357 = .ok (.iload 5, 2) := by decide +kernel
theorem qm_M_move_359 : decode qm_M_move_c 359 = .ok (.iload_n 1, 1) := by decide +kernel
theorem qm_M_move_360 : decode qm_M_move_c 360 = .ok (.bipush 13, 2) := by decide +kernel
theorem qm_M_move_362 : decode qm_M_move_c 362 = .ok (.if_icmp .eq 9, 3) := by decide +kernel
theorem qm_M_move_365 : decode qm_M_move_c 365 = .ok (.iload_n 1, 1) := by decide +kernel
theorem qm_M_move_366 : decode qm_M_move_c 366 = .ok (.bipush 17, 2) := by decide +kernel
theorem qm_M_move_368 : decode qm_M_move_c 368 = .ok (.if_icmp .ne 7, 3) := by decide +kernel
theorem qm_M_move_371 : decode qm_M_move_c 371 = .ok (.iconst 1, 1) := by decide +kernel
theorem qm_M_move_372 : decode qm_M_move_c 372 = .ok (.goto 4, 3) := by decide +kernel
theorem qm_M_move_375 : decode qm_M_move_c 375 = .ok (.iconst 4, 1) := by decide +kernel
theorem qm_M_move_376 : decode qm_M_move_c 376 = .ok (.invokevirtual 117, 3) := by decide +kernel
theorem qm_M_move_379 : decode qm_M_move_c 379 = .ok (.return_, 1) := by decide +kernel
theorem qm_M_reckon_0 : decode qm_M_reckon_c 0 = .ok (.iload_n 3, 1) := by decide +kernel
theorem qm_M_reckon_1 : decode qm_M_reckon_c 1 = .ok (.ldc 47, 2) := by decide +kernel
theorem qm_M_reckon_3 : decode qm_M_reckon_c 3 = .ok (.if_icmp .ne 12, 3) := by decide +kernel
theorem qm_M_reckon_6 : decode qm_M_reckon_c 6 = .ok (.iload_n 2, 1) := by decide +kernel
theorem qm_M_reckon_7 : decode qm_M_reckon_c 7 = .ok (.iconst (-1), 1) := by decide +kernel
theorem qm_M_reckon_8 : decode qm_M_reckon_c 8 = .ok (.if_icmp .ne 7, 3) := by decide +kernel
theorem qm_M_reckon_11 : decode qm_M_reckon_c 11 = .ok (.iconst 1, 1) := by decide +kernel
theorem qm_M_reckon_12 : decode qm_M_reckon_c 12 = .ok (.goto 4, 3) := by decide +kernel
theorem qm_M_reckon_15 : decode qm_M_reckon_c 15 = .ok (.iconst 0, 1) := by decide +kernel
theorem qm_M_reckon_16 : decode qm_M_reckon_c 16 = .ok (.istore 5, 2) := by decide +kernel
theorem qm_M_reckon_18 : decode qm_M_reckon_c 18 = .ok (.iload_n 1, 1) := by decide +kernel
theorem qm_M_reckon_19 : decode qm_M_reckon_c 19 = .ok (.ifCond .ne 11, 3) := by decide +kernel
theorem qm_M_reckon_22 : decode qm_M_reckon_c 22 = .ok (.iload_n 3, 1) := by decide +kernel
theorem qm_M_reckon_23 : decode qm_M_reckon_c 23 = .ok (.i2l, 1) := by decide +kernel
theorem qm_M_reckon_24 : decode qm_M_reckon_c 24 = .ok (.iload_n 2, 1) := by decide +kernel
theorem qm_M_reckon_25 : decode qm_M_reckon_c 25 = .ok (.i2l, 1) := by decide +kernel
theorem qm_M_reckon_26 : decode qm_M_reckon_c 26 = .ok (.ladd, 1) := by decide +kernel
theorem qm_M_reckon_27 : decode qm_M_reckon_c 27 = .ok (.goto 21, 3) := by decide +kernel
theorem qm_M_reckon_30 : decode qm_M_reckon_c 30 = .ok (.iload_n 1, 1) := by decide +kernel
theorem qm_M_reckon_31 : decode qm_M_reckon_c 31 = .ok (.iconst 1, 1) := by decide +kernel
theorem qm_M_reckon_32 : decode qm_M_reckon_c 32 = .ok (.if_icmp .ne 11, 3) := by decide +kernel
theorem qm_M_reckon_35 : decode qm_M_reckon_c 35 = .ok (.iload_n 3, 1) := by decide +kernel
theorem qm_M_reckon_36 : decode qm_M_reckon_c 36 = .ok (.i2l, 1) := by decide +kernel
theorem qm_M_reckon_37 : decode qm_M_reckon_c 37 = .ok (.iload_n 2, 1) := by decide +kernel
theorem qm_M_reckon_38 : decode qm_M_reckon_c 38 = .ok (.i2l, 1) := by decide +kernel
theorem qm_M_reckon_39 : decode qm_M_reckon_c 39 = .ok (.lsub, 1) := by decide +kernel
theorem qm_M_reckon_40 : decode qm_M_reckon_c 40 = .ok (.goto 8, 3) := by decide +kernel
theorem qm_M_reckon_43 : decode qm_M_reckon_c 43 = .ok (.iload_n 3, 1) := by decide +kernel
theorem qm_M_reckon_44 : decode qm_M_reckon_c 44 = .ok (.i2l, 1) := by decide +kernel
theorem qm_M_reckon_45 : decode qm_M_reckon_c 45 = .ok (.iload_n 2, 1) := by decide +kernel
theorem qm_M_reckon_46 : decode qm_M_reckon_c 46 = .ok (.i2l, 1) := by decide +kernel
theorem qm_M_reckon_47 : decode qm_M_reckon_c 47 = .ok (.lmul, 1) := by decide +kernel
theorem qm_M_reckon_48 : decode qm_M_reckon_c 48 = .ok (.lstore 6, 2) := by decide +kernel
theorem qm_M_reckon_50 : decode qm_M_reckon_c 50 = .ok (.lload 6, 2) := by decide +kernel
theorem qm_M_reckon_52 : decode qm_M_reckon_c 52 = .ok (.l2i, 1) := by decide +kernel
theorem qm_M_reckon_53 : decode qm_M_reckon_c 53 = .ok (.istore 8, 2) := by decide +kernel
theorem qm_M_reckon_55 : decode qm_M_reckon_c 55 = .ok (.iload_n 1, 1) := by decide +kernel
theorem qm_M_reckon_56 : decode qm_M_reckon_c 56 = .ok (.iconst 3, 1) := by decide +kernel
theorem qm_M_reckon_57 : decode qm_M_reckon_c 57 = .ok (.if_icmp .ne 21, 3) := by decide +kernel
theorem qm_M_reckon_60 : decode qm_M_reckon_c 60 = .ok (.iload_n 2, 1) := by decide +kernel
theorem qm_M_reckon_61 : decode qm_M_reckon_c 61 = .ok (.ifCond .eq 8, 3) := by decide +kernel
theorem qm_M_reckon_64 : decode qm_M_reckon_c 64 = .ok (.iload 5, 2) := by decide +kernel
theorem qm_M_reckon_66 : decode qm_M_reckon_c 66 = .ok (.ifCond .eq 7, 3) := by decide +kernel
theorem qm_M_reckon_69 : decode qm_M_reckon_c 69 = .ok (.iload_n 3, 1) := by decide +kernel
theorem qm_M_reckon_70 : decode qm_M_reckon_c 70 = .ok (.goto 6, 3) := by decide +kernel
theorem qm_M_reckon_73 : decode qm_M_reckon_c 73 = .ok (.iload_n 3, 1) := by decide +kernel
theorem qm_M_reckon_74 : decode qm_M_reckon_c 74 = .ok (.iload_n 2, 1) := by decide +kernel
theorem qm_M_reckon_75 : decode qm_M_reckon_c 75 = .ok (.idiv, 1) := by decide +kernel
theorem qm_M_reckon_76 : decode qm_M_reckon_c 76 = .ok (.istore 8, 2) := by decide +kernel
theorem qm_M_reckon_78 : decode qm_M_reckon_c 78 = .ok (.iload_n 1, 1) := by decide +kernel
theorem qm_M_reckon_79 : decode qm_M_reckon_c 79 = .ok (.iconst 3, 1) := by decide +kernel
theorem qm_M_reckon_80 : decode qm_M_reckon_c 80 = .ok (.if_icmp .le 32, 3) := by decide +kernel
theorem qm_M_reckon_83 : decode qm_M_reckon_c 83 = .ok (.iload_n 1, 1) := by decide +kernel
theorem qm_M_reckon_84 : decode qm_M_reckon_c 84 = .ok (.iconst 4, 1) := by decide +kernel
theorem qm_M_reckon_85 : decode qm_M_reckon_c 85 = .ok (.if_icmp .ne 9, 3) := by decide +kernel
theorem qm_M_reckon_88 : decode qm_M_reckon_c 88 = .ok (.iload_n 3, 1) := by decide +kernel
theorem qm_M_reckon_89 : decode qm_M_reckon_c 89 = .ok (.iload_n 2, 1) := by decide +kernel
theorem qm_M_reckon_90 : decode qm_M_reckon_c 90 = .ok (.ior, 1) := by decide +kernel
theorem qm_M_reckon_91 : decode qm_M_reckon_c 91 = .ok (.goto 19, 3) := by decide +kernel
theorem qm_M_reckon_94 : decode qm_M_reckon_c 94 = .ok (.iload_n 1, 1) := by decide +kernel
theorem qm_M_reckon_95 : decode qm_M_reckon_c 95 = .ok (.iconst 5, 1) := by decide +kernel
theorem qm_M_reckon_96 : decode qm_M_reckon_c 96 = .ok (.if_icmp .ne 11, 3) := by decide +kernel
theorem qm_M_reckon_99 : decode qm_M_reckon_c 99 = .ok (.iload_n 3, 1) := by decide +kernel
theorem qm_M_reckon_100 : decode qm_M_reckon_c 100 = .ok (.iload_n 2, 1) := by decide +kernel
theorem qm_M_reckon_101 : decode qm_M_reckon_c 101 = .ok (.iconst (-1), 1) := by decide +kernel
theorem qm_M_reckon_102 : decode qm_M_reckon_c 102 = .ok (.ixor, 1) := by decide +kernel
theorem qm_M_reckon_103 : decode qm_M_reckon_c 103 = .ok (.iand, 1) := by decide +kernel
theorem qm_M_reckon_104 : decode qm_M_reckon_c 104 = .ok (.goto 6, 3) := by decide +kernel
theorem qm_M_reckon_107 : decode qm_M_reckon_c 107 = .ok (.iload_n 3, 1) := by decide +kernel
theorem qm_M_reckon_108 : decode qm_M_reckon_c 108 = .ok (.iload_n 2, 1) := by decide +kernel
theorem qm_M_reckon_109 : decode qm_M_reckon_c 109 = .ok (.ixor, 1) := by decide +kernel
theorem qm_M_reckon_110 : decode qm_M_reckon_c 110 = .ok (.istore 8, 2) := by decide +kernel
theorem qm_M_reckon_112 : decode qm_M_reckon_c 112 = .ok (.iload_n 1, 1) := by decide +kernel
theorem qm_M_reckon_113 : decode qm_M_reckon_c 113 = .ok (.iconst 3, 1) := by decide +kernel
theorem qm_M_reckon_114 : decode qm_M_reckon_c 114 = .ok (.if_icmp .ge 20, 3) := by decide +kernel
theorem qm_M_reckon_117 : decode qm_M_reckon_c 117 = .ok (.lload 6, 2) := by decide +kernel
theorem qm_M_reckon_119 : decode qm_M_reckon_c 119 = .ok (.iload 8, 2) := by decide +kernel
theorem qm_M_reckon_121 : decode qm_M_reckon_c 121 = .ok (.i2l, 1) := by decide +kernel
theorem qm_M_reckon_122 : decode qm_M_reckon_c 122 = .ok (.lcmp, 1) := by decide +kernel
theorem qm_M_reckon_123 : decode qm_M_reckon_c 123 = .ok (.ifCond .eq 7, 3) := by decide +kernel
theorem qm_M_reckon_126 : decode qm_M_reckon_c 126 = .ok (.iconst 1, 1) := by decide +kernel
theorem qm_M_reckon_127 : decode qm_M_reckon_c 127 = .ok (.goto 26, 3) := by decide +kernel
theorem qm_M_reckon_130 : decode qm_M_reckon_c 130 = .ok (.iconst 0, 1) := by decide +kernel
theorem qm_M_reckon_131 : decode qm_M_reckon_c 131 = .ok (.goto 22, 3) := by decide +kernel
theorem qm_M_reckon_134 : decode qm_M_reckon_c 134 = .ok (.iload_n 1, 1) := by decide +kernel
theorem qm_M_reckon_135 : decode qm_M_reckon_c 135 = .ok (.iconst 3, 1) := by decide +kernel
theorem qm_M_reckon_136 : decode qm_M_reckon_c 136 = .ok (.if_icmp .ne 16, 3) := by decide +kernel
theorem qm_M_reckon_139 : decode qm_M_reckon_c 139 = .ok (.iload_n 2, 1) := by decide +kernel
theorem qm_M_reckon_140 : decode qm_M_reckon_c 140 = .ok (.ifCond .eq 8, 3) := by decide +kernel
theorem qm_M_reckon_143 : decode qm_M_reckon_c 143 = .ok (.iload 5, 2) := by decide +kernel
theorem qm_M_reckon_145 : decode qm_M_reckon_c 145 = .ok (.ifCond .eq 7, 3) := by decide +kernel
theorem qm_M_reckon_148 : decode qm_M_reckon_c 148 = .ok (.iconst 1, 1) := by decide +kernel
theorem qm_M_reckon_149 : decode qm_M_reckon_c 149 = .ok (.goto 4, 3) := by decide +kernel
theorem qm_M_reckon_152 : decode qm_M_reckon_c 152 = .ok (.iconst 0, 1) := by decide +kernel
theorem qm_M_reckon_153 : decode qm_M_reckon_c 153 = .ok (.istore 9, 2) := by decide +kernel
theorem qm_M_reckon_155 : decode qm_M_reckon_c 155 = .ok (.iload_n 1, 1) := by decide +kernel
theorem qm_M_reckon_156 : decode qm_M_reckon_c 156 = .ok (.ifCond .ne 12, 3) := by decide +kernel
theorem qm_M_reckon_159 : decode qm_M_reckon_c 159 = .ok (.iload 8, 2) := by decide +kernel
theorem qm_M_reckon_161 : decode qm_M_reckon_c 161 = .ok (.iload_n 2, 1) := by decide +kernel
theorem qm_M_reckon_162 : decode qm_M_reckon_c 162 = .ok (.invokestatic 52, 3) := by decide +kernel
theorem qm_M_reckon_165 : decode qm_M_reckon_c 165 = .ok (.goto 34, 3) := by decide +kernel
theorem qm_M_reckon_168 : decode qm_M_reckon_c 168 = .ok (.iload_n 1, 1) := by decide +kernel
theorem qm_M_reckon_169 : decode qm_M_reckon_c 169 = .ok (.iconst 1, 1) := by decide +kernel
theorem qm_M_reckon_170 : decode qm_M_reckon_c 170 = .ok (.if_icmp .ne 11, 3) := by decide +kernel
theorem qm_M_reckon_173 : decode qm_M_reckon_c 173 = .ok (.iload_n 3, 1) := by decide +kernel
theorem qm_M_reckon_174 : decode qm_M_reckon_c 174 = .ok (.iload_n 2, 1) := by decide +kernel
theorem qm_M_reckon_175 : decode qm_M_reckon_c 175 = .ok (.invokestatic 52, 3) := by decide +kernel
theorem qm_M_reckon_178 : decode qm_M_reckon_c 178 = .ok (.goto 21, 3) := by decide +kernel
theorem qm_M_reckon_181 : decode qm_M_reckon_c 181 = .ok (.iload_n 1, 1) := by decide +kernel
theorem qm_M_reckon_182 : decode qm_M_reckon_c 182 = .ok (.iconst 3, 1) := by decide +kernel
theorem qm_M_reckon_183 : decode qm_M_reckon_c 183 = .ok (.if_icmp .le 15, 3) := by decide +kernel
theorem qm_M_reckon_186 : decode qm_M_reckon_c 186 = .ok (.aload_n 0, 1) := by decide +kernel
theorem qm_M_reckon_187 : decode qm_M_reckon_c 187 = .ok (.iconst 0, 1) := by decide +kernel
theorem qm_M_reckon_188 : decode qm_M_reckon_c 188 = .ok (.invokevirtual 106, 3) := by decide +kernel
theorem qm_M_reckon_191 : decode qm_M_reckon_c 191 = .ok (.ifCond .eq 7, 3) := by decide +kernel
theorem qm_M_reckon_194 : decode qm_M_reckon_c 194 = .ok (.iconst 1, 1) := by decide +kernel
theorem qm_M_reckon_195 : decode qm_M_reckon_c 195 = .ok (.goto 4, 3) := by decide +kernel
theorem qm_M_reckon_198 : decode qm_M_reckon_c 198 = .ok (.iconst 0, 1) := by decide +kernel
theorem qm_M_reckon_199 : decode qm_M_reckon_c 199 = .ok (.istore 10, 2) := by decide +kernel
theorem qm_M_reckon_201 : decode qm_M_reckon_c 201 = .ok (.aload_n 0, 1) := by decide +kernel
theorem qm_M_reckon_202 : decode qm_M_reckon_c 202 = .ok (.iload_n 1, 1) := by decide +kernel
theorem qm_M_reckon_203 : decode qm_M_reckon_c 203 = .ok (.iconst 3, 1) := by decide +kernel
theorem qm_M_reckon_204 : decode qm_M_reckon_c 204 = .ok (.if_icmp .ne 11, 3) := by decide +kernel
theorem qm_M_reckon_207 : decode qm_M_reckon_c 207 = .ok (.iload_n 2, 1) := by decide +kernel
theorem qm_M_reckon_208 : decode qm_M_reckon_c 208 = .ok (.ifCond .ne 7, 3) := by decide +kernel
theorem qm_M_reckon_211 : decode qm_M_reckon_c 211 = .ok (.iconst 2, 1) := by decide +kernel
theorem qm_M_reckon_212 : decode qm_M_reckon_c 212 = .ok (.goto 4, 3) := by decide +kernel
theorem qm_M_reckon_215 : decode qm_M_reckon_c 215 = .ok (.iconst 0, 1) := by decide +kernel
theorem qm_M_reckon_216 : decode qm_M_reckon_c 216 = .ok (.putfield 110, 3) := by decide +kernel
theorem qm_M_reckon_219 : decode qm_M_reckon_c 219 = .ok (.aload_n 0, 1) := by decide +kernel
theorem qm_M_reckon_220 : decode qm_M_reckon_c 220 = .ok (.iload 8, 2) := by decide +kernel
theorem qm_M_reckon_222 : decode qm_M_reckon_c 222 = .ok (.iload 9, 2) := by decide +kernel
theorem qm_M_reckon_224 : decode qm_M_reckon_c 224 = .ok (.iload 10, 2) := by decide +kernel
theorem qm_M_reckon_226 : decode qm_M_reckon_c 226 = .ok (.invokevirtual 113, 3) := by decide +kernel
theorem qm_M_reckon_229 : decode qm_M_reckon_c 229 = .ok (.aload_n 0, 1) := by decide +kernel
theorem qm_M_reckon_230 : decode qm_M_reckon_c 230 = .ok (.iload 4, 2) := by decide +kernel
theorem qm_M_reckon_232 : decode qm_M_reckon_c 232 = .ok (.iload 8, 2) := by decide +kernel
theorem qm_M_reckon_234 : decode qm_M_reckon_c 234 = .ok (.iconst 4, 1) := by decide +kernel
theorem qm_M_reckon_235 : decode qm_M_reckon_c 235 = .ok (.invokevirtual 117, 3) := by decide +kernel
theorem qm_M_reckon_238 : decode qm_M_reckon_c 238 = .ok (.return_, 1) := by decide +kernel
theorem qm_M_shift_0 : decode qm_M_shift_c 0 = .ok (.iload_n 1, 1) := by decide +kernel
theorem qm_M_shift_1 : decode qm_M_shift_c 1 = .ok (.bipush 31, 2) := by decide +kernel
theorem qm_M_shift_3 : decode qm_M_shift_c 3 = .ok (.if_icmp .le 7, 3) := by decide +kernel
theorem qm_M_shift_6 : decode qm_M_shift_c 6 = .ok (.iconst 0, 1) := by decide +kernel
theorem qm_M_shift_7 : decode qm_M_shift_c 7 = .ok (.goto 30, 3) := by decide +kernel
theorem qm_M_shift_10 : decode qm_M_shift_c 10 = .ok (.iload_n 1, 1) := by decide +kernel
theorem qm_M_shift_11 : decode qm_M_shift_c 11 = .ok (.ifCond .lt 9, 3) := by decide +kernel
theorem qm_M_shift_14 : decode qm_M_shift_c 14 = .ok (.iload_n 2, 1) := by decide +kernel
theorem qm_M_shift_15 : decode qm_M_shift_c 15 = .ok (.iload_n 1, 1) := by decide +kernel
theorem qm_M_shift_16 : decode qm_M_shift_c 16 = .ok (.ishl, 1) := by decide +kernel
theorem qm_M_shift_17 : decode qm_M_shift_c 17 = .ok (.goto 20, 3) := by decide +kernel
theorem qm_M_shift_20 : decode qm_M_shift_c 20 = .ok (.iload_n 1, 1) := by decide +kernel
theorem qm_M_shift_21 : decode qm_M_shift_c 21 = .ok (.bipush (-31), 2) := by decide +kernel
theorem qm_M_shift_23 : decode qm_M_shift_c 23 = .ok (.if_icmp .ge 10, 3) := by decide +kernel
theorem qm_M_shift_26 : decode qm_M_shift_c 26 = .ok (.iload_n 2, 1) := by decide +kernel
theorem qm_M_shift_27 : decode qm_M_shift_c 27 = .ok (.bipush 31, 2) := by decide +kernel
theorem qm_M_shift_29 : decode qm_M_shift_c 29 = .ok (.ishr, 1) := by decide +kernel
theorem qm_M_shift_30 : decode qm_M_shift_c 30 = .ok (.goto 7, 3) := by decide +kernel
theorem qm_M_shift_33 : decode qm_M_shift_c 33 = .ok (.iload_n 2, 1) := by decide +kernel
theorem qm_M_shift_34 : decode qm_M_shift_c 34 = .ok (.iload_n 1, 1) := by decide +kernel
theorem qm_M_shift_35 : decode qm_M_shift_c 35 = .ok (.ineg, 1) := by decide +kernel
theorem qm_M_shift_36 : decode qm_M_shift_c 36 = .ok (.ishr, 1) := by decide +kernel
theorem qm_M_shift_37 : decode qm_M_shift_c 37 = .ok (.istore_n 3, 1) := by decide +kernel
theorem qm_M_shift_38 : decode qm_M_shift_c 38 = .ok (.iload_n 1, 1) := by decide +kernel
theorem qm_M_shift_39 : decode qm_M_shift_c 39 = .ok (.bipush 31, 2) := by decide +kernel
theorem qm_M_shift_41 : decode qm_M_shift_c 41 = .ok (.if_icmp .le 15, 3) := by decide +kernel
theorem qm_M_shift_44 : decode qm_M_shift_c 44 = .ok (.iload_n 2, 1) := by decide +kernel
theorem qm_M_shift_45 : decode qm_M_shift_c 45 = .ok (.ifCond .eq 7, 3) := by decide +kernel
theorem qm_M_shift_48 : decode qm_M_shift_c 48 = .ok (.iconst 1, 1) := by decide +kernel
theorem qm_M_shift_49 : decode qm_M_shift_c 49 = .ok (.goto 23, 3) := by decide +kernel
theorem qm_M_shift_52 : decode qm_M_shift_c 52 = .ok (.iconst 0, 1) := by decide +kernel
theorem qm_M_shift_53 : decode qm_M_shift_c 53 = .ok (.goto 19, 3) := by decide +kernel
theorem qm_M_shift_56 : decode qm_M_shift_c 56 = .ok (.iload_n 1, 1) := by decide +kernel
theorem qm_M_shift_57 : decode qm_M_shift_c 57 = .ok (.ifCond .le 14, 3) := by decide +kernel
theorem qm_M_shift_60 : decode qm_M_shift_c 60 = .ok (.iload_n 3, 1) := by decide +kernel
theorem qm_M_shift_61 : decode qm_M_shift_c 61 = .ok (.iload_n 1, 1) := by decide +kernel
theorem qm_M_shift_62 : decode qm_M_shift_c 62 = .ok (.ishr, 1) := by decide +kernel
theorem qm_M_shift_63 : decode qm_M_shift_c 63 = .ok (.iload_n 2, 1) := by decide +kernel
theorem qm_M_shift_64 : decode qm_M_shift_c 64 = .ok (.if_icmp .eq 7, 3) := by decide +kernel
theorem qm_M_shift_67 : decode qm_M_shift_c 67 = .ok (.iconst 1, 1) := by decide +kernel
theorem qm_M_shift_68 : decode qm_M_shift_c 68 = .ok (.goto 4, 3) := by decide +kernel
theorem qm_M_shift_71 : decode qm_M_shift_c 71 = .ok (.iconst 0, 1) := by decide +kernel
theorem qm_M_shift_72 : decode qm_M_shift_c 72 = .ok (.istore 4, 2) := by decide +kernel
theorem qm_M_shift_74 : decode qm_M_shift_c 74 = .ok (.aload_n 0, 1) := by decide +kernel
theorem qm_M_shift_75 : decode qm_M_shift_c 75 = .ok (.iload_n 3, 1) := by decide +kernel
theorem qm_M_shift_76 : decode qm_M_shift_c 76 = .ok (.iload 4, 2) := by decide +kernel
theorem qm_M_shift_78 : decode qm_M_shift_c 78 = .ok (.iconst 0, 1) := by decide +kernel
theorem qm_M_shift_79 : decode qm_M_shift_c 79 = .ok (.invokevirtual 113, 3) := by decide +kernel
theorem qm_M_shift_82 : decode qm_M_shift_c 82 = .ok (.aload_n 0, 1) := by decide +kernel
theorem qm_M_shift_83 : decode qm_M_shift_c 83 = .ok (.iconst 2, 1) := by decide +kernel
theorem qm_M_shift_84 : decode qm_M_shift_c 84 = .ok (.iload_n 3, 1) := by decide +kernel
theorem qm_M_shift_85 : decode qm_M_shift_c 85 = .ok (.iconst 4, 1) := by decide +kernel
theorem qm_M_shift_86 : decode qm_M_shift_c 86 = .ok (.invokevirtual 117, 3) := by decide +kernel
theorem qm_M_shift_89 : decode qm_M_shift_c 89 = .ok (.return_, 1) := by decide +kernel
theorem qm_M_go_0 : decode qm_M_go_c 0 = .ok (.iload_n 1, 1) := by decide +kernel
theorem qm_M_go_1 : decode qm_M_go_c 1 = .ok (.bipush 47, 2) := by decide +kernel
theorem qm_M_go_3 : decode qm_M_go_c 3 = .ok (.if_icmp .le 7, 3) := by decide +kernel
theorem qm_M_go_6 : decode qm_M_go_c 6 = .ok (.iconst 1, 1) := by decide +kernel
theorem qm_M_go_7 : decode qm_M_go_c 7 = .ok (.goto 4, 3) := by decide +kernel
theorem qm_M_go_10 : decode qm_M_go_c 10 = .ok (.iconst 0, 1) := by decide +kernel
theorem qm_M_go_11 : decode qm_M_go_c 11 = .ok (.istore_n 2, 1) := by decide +kernel
theorem qm_M_go_12 : decode qm_M_go_c 12 = .ok (.iload_n 2, 1) := by decide +kernel
theorem qm_M_go_13 : decode qm_M_go_c 13 = .ok (.ifCond .eq 20, 3) := by decide +kernel
theorem qm_M_go_16 : decode qm_M_go_c 16 = .ok (.aload_n 0, 1) := by decide +kernel
theorem qm_M_go_17 : decode qm_M_go_c 17 = .ok (.getfield 13, 3) := by decide +kernel
theorem qm_M_go_20 : decode qm_M_go_c 20 = .ok (.bipush 15, 2) := by decide +kernel
theorem qm_M_go_22 : decode qm_M_go_c 22 = .ok (.iaload, 1) := by decide +kernel
theorem qm_M_go_23 : decode qm_M_go_c 23 = .ok (.aload_n 0, 1) := by decide +kernel
theorem qm_M_go_24 : decode qm_M_go_c 24 = .ok (.getfield 25, 3) := by decide +kernel
theorem qm_M_go_27 : decode qm_M_go_c 27 = .ok (.iconst 0, 1) := by decide +kernel
theorem qm_M_go_28 : decode qm_M_go_c 28 = .ok (.iaload, 1) := by decide +kernel
theorem qm_M_go_29 : decode qm_M_go_c 29 = .ok (.iadd, 1) := by decide +kernel
theorem qm_M_go_30 : decode qm_M_go_c 30 = .ok (.goto 9, 3) := by decide +kernel
theorem qm_M_go_33 : decode qm_M_go_c 33 = .ok (.aload_n 0, 1) := by decide +kernel
theorem qm_M_go_34 : decode qm_M_go_c 34 = .ok (.getfield 31, 3) := by decide +kernel
theorem qm_M_go_37 : decode qm_M_go_c 37 = .ok (.iconst 0, 1) := by decide +kernel
theorem qm_M_go_38 : decode qm_M_go_c 38 = .ok (.iaload, 1) := by decide +kernel
theorem qm_M_go_39 : decode qm_M_go_c 39 = .ok (.istore_n 3, 1) := by decide +kernel
theorem qm_M_go_40 : decode qm_M_go_c 40 = .ok (.iload_n 1, 1) := by decide +kernel
theorem qm_M_go_41 : decode qm_M_go_c 41 = .ok (.bipush 47, 2) := by decide +kernel
theorem qm_M_go_43 : decode qm_M_go_c 43 = .ok (.if_icmp .eq 9, 3) := by decide +kernel
theorem qm_M_go_46 : decode qm_M_go_c 46 = .ok (.iload_n 1, 1) := by decide +kernel
theorem qm_M_go_47 : decode qm_M_go_c 47 = .ok (.bipush 49, 2) := by decide +kernel
theorem qm_M_go_49 : decode qm_M_go_c 49 = .ok (.if_icmp .ne 14, 3) := by decide +kernel
theorem qm_M_go_52 : decode qm_M_go_c 52 = .ok (.aload_n 0, 1) := by decide +kernel
theorem qm_M_go_53 : decode qm_M_go_c 53 = .ok (.aload_n 0, 1) := by decide +kernel
theorem qm_M_go_54 : decode qm_M_go_c 54 = .ok (.getfield 13, 3) := by decide +kernel
theorem qm_M_go_57 : decode qm_M_go_c 57 = .ok (.bipush 15, 2) := by decide +kernel
theorem qm_M_go_59 : decode qm_M_go_c 59 = .ok (.iaload, 1) := by decide +kernel
theorem qm_M_go_60 : decode qm_M_go_c 60 = .ok (.invokevirtual 121, 3) := by decide +kernel
theorem qm_M_go_63 : decode qm_M_go_c 63 = .ok (.aload_n 0, 1) := by decide +kernel
theorem qm_M_go_64 : decode qm_M_go_c 64 = .ok (.getfield 13, 3) := by decide +kernel
theorem qm_M_go_67 : decode qm_M_go_c 67 = .ok (.bipush 15, 2) := by decide +kernel
theorem qm_M_go_69 : decode qm_M_go_c 69 = .ok (.iload_n 3, 1) := by decide +kernel
theorem qm_M_go_70 : decode qm_M_go_c 70 = .ok (.iastore, 1) := by decide +kernel
theorem qm_M_go_71 : decode qm_M_go_c 71 = .ok (.return_, 1) := by decide +kernel
set_option maxHeartbeats 4000000 in
set_option maxRecDepth 100000 in
theorem wM_move_201 {l : Launch} {D : va_G} {h : Nat → Nat} {K : Nat → ClassId} {res : qS} {p : Program} {e : Env} {s : State} {m : MethodId} {args : Array Value} {below : List Frame} {meth : Method} {c : Code} {A : Nat → Prop} {ad : Nat → Nat} (C : qC p s m args meth c qm_M_move_c 9 none qR_M ad) (S : qS) (x2 : Int32) (x3 : Int32) (y1 : Int32) (hf : fM_move_201 S x2 x3 y1 = some res) : ∀ (H : Heap) (locs : List Loc) (ls : Array Slot), qG D qCl (mT K) A s (mW h K S) H locs → lv_has ls 9 [(2, .int x2), (3, .int x3)] → W p l e ({ frames := 4, cells := 0, slots := 0, locals := 101 }) s m args below meth c H locs 0 0 (MQ below (qQv D qCl (mT K) (mW h K) A res) args s 0 0 A) (F0 m 201 ls [.int y1, .ref (h 0)]) := by
  intro H locs ls G hl
  unfold fM_move_201 at hf
  refine lv_iconst (v := 0) C.1 C.2.1 qm_M_move_201 (by decide) ?_
  refine lv_iload_n C.1 C.2.1 qm_M_move_202 rfl (lv_at hl 0 rfl) ?_
  refine lv_iload_n C.1 C.2.1 qm_M_move_203 rfl (lv_at hl 1 rfl) ?_
  obtain ⟨q1, c1, hf⟩ := bnd_s hf
  refine q_callSi (wf := (mW h K)) (n := 2) (As := [.int x2, .int x3]) C G hl.1 (kM_below (l := l) c1) qx_M_52 qm_M_below_d ⟨by decide, by decide⟩ ⟨Nat.le_refl _, Nat.le_refl _⟩ rfl rfl (Nat.le_of_ble_eq_true rfl) qm_M_move_204 (fun H locs G => ?_)
  obtain ⟨S2, c2, hf⟩ := bnd_s hf
  refine q_callVv (wf := (mW h K)) (n := 3) (As := [.int y1, .int 0, .int q1.1]) (q0 := 0) (ci := 7) C G hl.1 (kM_mark (l := l) c2) qx_M_113 qm_M_mark_d ⟨by decide, by decide⟩ ⟨Nat.le_refl _, Nat.le_refl _⟩ rfl rfl rfl rfl rfl (Nat.le_of_ble_eq_true rfl) qm_M_move_207 (fun H locs G => ?_)
  exact q_vret (wf := (mW h K)) C G hf qm_M_move_210
set_option maxHeartbeats 4000000 in
set_option maxRecDepth 100000 in
theorem wM_move_175 {l : Launch} {D : va_G} {h : Nat → Nat} {K : Nat → ClassId} {res : qS} {p : Program} {e : Env} {s : State} {m : MethodId} {args : Array Value} {below : List Frame} {meth : Method} {c : Code} {A : Nat → Prop} {ad : Nat → Nat} (C : qC p s m args meth c qm_M_move_c 9 none qR_M ad) (S : qS) (x2 : Int32) (x3 : Int32) (x7 : Int32) (y0 : Int32) (hf : fM_move_175 S x2 x3 x7 y0 = some res) : ∀ (H : Heap) (locs : List Loc) (ls : Array Slot), qG D qCl (mT K) A s (mW h K S) H locs → lv_has ls 9 [(0, .ref (h 0)), (2, .int x2), (3, .int x3), (7, .int x7)] → W p l e ({ frames := 4, cells := 0, slots := 0, locals := 101 }) s m args below meth c H locs 0 0 (MQ below (qQv D qCl (mT K) (mW h K) A res) args s 0 0 A) (F0 m 175 ls [.int y0]) := by
  intro H locs ls G hl
  unfold fM_move_175 at hf
  refine lv_istore (lv' := [(8, .int y0), (0, .ref (h 0)), (2, .int x2), (3, .int x3), (7, .int x7)]) C.1 C.2.1 qm_M_move_175 hl (by decide) rfl (fun ls hl => ?_)
  refine lv_aload_n C.1 C.2.1 qm_M_move_177 rfl (lv_at hl 1 rfl) ?_
  refine lv_iload C.1 C.2.1 qm_M_move_178 (lv_at hl 4 rfl) ?_
  refine lv_iload C.1 C.2.1 qm_M_move_180 (lv_at hl 0 rfl) ?_
  refine lv_icmp_ge (tgt := 189) C.1 C.2.1 qm_M_move_182 (by decide) (fun b1 => ?_) (fun b1 => ?_)
  · have hf := if_t b1 hf
    refine lv_iload C.1 C.2.1 qm_M_move_189 (lv_at hl 4 rfl) ?_
    refine lv_iload C.1 C.2.1 qm_M_move_191 (lv_at hl 0 rfl) ?_
    refine lv_icmp_ne (tgt := 200) C.1 C.2.1 qm_M_move_193 (by decide) (fun b2 => ?_) (fun b2 => ?_)
    · have hf := if_t b2 hf
      refine lv_iconst (v := 1) C.1 C.2.1 qm_M_move_200 (by decide) ?_
      exact wM_move_201 C S x2 x3 1 hf _ _ _ G (lv_sub hl [2, 3] rfl)
    · have hf := if_f (not_not_intro b2) hf
      refine lv_iconst (v := 0) C.1 C.2.1 qm_M_move_196 (by decide) ?_
      refine lv_goto (tgt := 201) C.1 C.2.1 qm_M_move_197 (by decide) ?_
      exact wM_move_201 C S x2 x3 0 hf _ _ _ G (lv_sub hl [2, 3] rfl)
  · have hf := if_f b1 hf
    refine lv_iconst (v := (-1)) C.1 C.2.1 qm_M_move_185 (by decide) ?_
    refine lv_goto (tgt := 201) C.1 C.2.1 qm_M_move_186 (by decide) ?_
    exact wM_move_201 C S x2 x3 (-1) hf _ _ _ G (lv_sub hl [2, 3] rfl)
set_option maxHeartbeats 4000000 in
set_option maxRecDepth 100000 in
theorem wM_move_159 {l : Launch} {D : va_G} {h : Nat → Nat} {K : Nat → ClassId} {res : qS} {p : Program} {e : Env} {s : State} {m : MethodId} {args : Array Value} {below : List Frame} {meth : Method} {c : Code} {A : Nat → Prop} {ad : Nat → Nat} (C : qC p s m args meth c qm_M_move_c 9 none qR_M ad) (S : qS) (x1 : Int32) (x2 : Int32) (x3 : Int32) (y0 : Int32) (hf : fM_move_159 S x1 x2 x3 y0 = some res) : ∀ (H : Heap) (locs : List Loc) (ls : Array Slot), qG D qCl (mT K) A s (mW h K S) H locs → lv_has ls 9 [(0, .ref (h 0)), (1, .int x1), (2, .int x2), (3, .int x3)] → W p l e ({ frames := 4, cells := 0, slots := 0, locals := 101 }) s m args below meth c H locs 0 0 (MQ below (qQv D qCl (mT K) (mW h K) A res) args s 0 0 A) (F0 m 159 ls [.int y0]) := by
  intro H locs ls G hl
  unfold fM_move_159 at hf
  refine lv_istore (lv' := [(7, .int y0), (0, .ref (h 0)), (1, .int x1), (2, .int x2), (3, .int x3)]) C.1 C.2.1 qm_M_move_159 hl (by decide) rfl (fun ls hl => ?_)
  refine lv_iload_n C.1 C.2.1 qm_M_move_161 rfl (lv_at hl 2 rfl) ?_
  refine lv_bipush (v := 23) C.1 C.2.1 qm_M_move_162 (by decide) ?_
  refine lv_icmp_ne (tgt := 171) C.1 C.2.1 qm_M_move_164 (by decide) (fun b1 => ?_) (fun b1 => ?_)
  · have hf := if_t b1 hf
    refine lv_iload_n C.1 C.2.1 qm_M_move_171 rfl (lv_at hl 4 rfl) ?_
    obtain ⟨q2, c2, hf⟩ := bnd_s hf
    refine q_callSi (wf := (mW h K)) (n := 1) (As := [.int x3]) C G hl.1 (kM_signed (l := l) c2) qx_M_103 qm_M_signed_d ⟨by decide, by decide⟩ ⟨Nat.le_refl _, Nat.le_refl _⟩ rfl rfl (Nat.le_of_ble_eq_true rfl) qm_M_move_172 (fun H locs G => ?_)
    exact wM_move_175 C q2.2 x2 x3 y0 q2.1 hf _ _ _ G (lv_sub hl [1, 3, 4, 0] rfl)
  · have hf := if_f (not_not_intro b1) hf
    refine lv_iload_n C.1 C.2.1 qm_M_move_167 rfl (lv_at hl 4 rfl) ?_
    refine lv_goto (tgt := 175) C.1 C.2.1 qm_M_move_168 (by decide) ?_
    exact wM_move_175 C S x2 x3 y0 x3 hf _ _ _ G (lv_sub hl [1, 3, 4, 0] rfl)
set_option maxHeartbeats 4000000 in
set_option maxRecDepth 100000 in
theorem wM_move_145 {l : Launch} {D : va_G} {h : Nat → Nat} {K : Nat → ClassId} {res : qS} {p : Program} {e : Env} {s : State} {m : MethodId} {args : Array Value} {below : List Frame} {meth : Method} {c : Code} {A : Nat → Prop} {ad : Nat → Nat} (C : qC p s m args meth c qm_M_move_c 9 none qR_M ad) (S : qS) (x1 : Int32) (x2 : Int32) (x3 : Int32) (hf : fM_move_145 S x1 x2 x3 = some res) : ∀ (H : Heap) (locs : List Loc) (ls : Array Slot), qG D qCl (mT K) A s (mW h K S) H locs → lv_has ls 9 [(0, .ref (h 0)), (1, .int x1), (2, .int x2), (3, .int x3)] → W p l e ({ frames := 4, cells := 0, slots := 0, locals := 101 }) s m args below meth c H locs 0 0 (MQ below (qQv D qCl (mT K) (mW h K) A res) args s 0 0 A) (F0 m 145 ls []) := by
  intro H locs ls G hl
  unfold fM_move_145 at hf
  refine lv_iload_n C.1 C.2.1 qm_M_move_145 rfl (lv_at hl 1 rfl) ?_
  refine lv_bipush (v := 23) C.1 C.2.1 qm_M_move_146 (by decide) ?_
  refine lv_icmp_ne (tgt := 155) C.1 C.2.1 qm_M_move_148 (by decide) (fun b1 => ?_) (fun b1 => ?_)
  · have hf := if_t b1 hf
    refine lv_iload_n C.1 C.2.1 qm_M_move_155 rfl (lv_at hl 2 rfl) ?_
    obtain ⟨q2, c2, hf⟩ := bnd_s hf
    refine q_callSi (wf := (mW h K)) (n := 1) (As := [.int x2]) C G hl.1 (kM_signed (l := l) c2) qx_M_103 qm_M_signed_d ⟨by decide, by decide⟩ ⟨Nat.le_refl _, Nat.le_refl _⟩ rfl rfl (Nat.le_of_ble_eq_true rfl) qm_M_move_156 (fun H locs G => ?_)
    exact wM_move_159 C q2.2 x1 x2 x3 q2.1 hf _ _ _ G (lv_sub hl [0, 1, 2, 3] rfl)
  · have hf := if_f (not_not_intro b1) hf
    refine lv_iload_n C.1 C.2.1 qm_M_move_151 rfl (lv_at hl 2 rfl) ?_
    refine lv_goto (tgt := 159) C.1 C.2.1 qm_M_move_152 (by decide) ?_
    exact wM_move_159 C S x1 x2 x3 x2 hf _ _ _ G (lv_sub hl [0, 1, 2, 3] rfl)
set_option maxHeartbeats 4000000 in
set_option maxRecDepth 100000 in
theorem wM_move_379 {l : Launch} {D : va_G} {h : Nat → Nat} {K : Nat → ClassId} {res : qS} {p : Program} {e : Env} {s : State} {m : MethodId} {args : Array Value} {below : List Frame} {meth : Method} {c : Code} {A : Nat → Prop} {ad : Nat → Nat} (C : qC p s m args meth c qm_M_move_c 9 none qR_M ad) (S : qS) (hf : fM_move_379 S = some res) : ∀ (H : Heap) (locs : List Loc) (ls : Array Slot), qG D qCl (mT K) A s (mW h K S) H locs → lv_has ls 9 [] → W p l e ({ frames := 4, cells := 0, slots := 0, locals := 101 }) s m args below meth c H locs 0 0 (MQ below (qQv D qCl (mT K) (mW h K) A res) args s 0 0 A) (F0 m 379 ls []) := by
  intro H locs ls G hl
  unfold fM_move_379 at hf
  exact q_vret (wf := (mW h K)) C G hf qm_M_move_379
set_option maxHeartbeats 4000000 in
set_option maxRecDepth 100000 in
theorem wM_move_318 {l : Launch} {D : va_G} {h : Nat → Nat} {K : Nat → ClassId} {res : qS} {p : Program} {e : Env} {s : State} {m : MethodId} {args : Array Value} {below : List Frame} {meth : Method} {c : Code} {A : Nat → Prop} {ad : Nat → Nat} (C : qC p s m args meth c qm_M_move_c 9 none qR_M ad) (S : qS) (x5 : Int32) (hf : fM_move_318 S x5 = some res) : ∀ (H : Heap) (locs : List Loc) (ls : Array Slot), qG D qCl (mT K) A s (mW h K S) H locs → lv_has ls 9 [(0, .ref (h 0)), (5, .int x5)] → W p l e ({ frames := 4, cells := 0, slots := 0, locals := 101 }) s m args below meth c H locs 0 0 (MQ below (qQv D qCl (mT K) (mW h K) A res) args s 0 0 A) (F0 m 318 ls []) := by
  intro H locs ls G hl
  unfold fM_move_318 at hf
  refine lv_aload_n C.1 C.2.1 qm_M_move_318 rfl (lv_at hl 0 rfl) ?_
  refine lv_iload C.1 C.2.1 qm_M_move_319 (lv_at hl 1 rfl) ?_
  obtain ⟨S1, c1, hf⟩ := bnd_s hf
  refine q_callVv (wf := (mW h K)) (n := 1) (As := [.int x5]) (q0 := 0) (ci := 7) C G hl.1 (kM_push (l := l) c1) qx_M_121 qm_M_push_d ⟨by decide, by decide⟩ ⟨Nat.le_refl _, Nat.le_refl _⟩ rfl rfl rfl rfl rfl (Nat.le_of_ble_eq_true rfl) qm_M_move_321 (fun H locs G => ?_)
  refine lv_goto (tgt := 379) C.1 C.2.1 qm_M_move_324 (by decide) ?_
  exact wM_move_379 C S1 hf _ _ _ G (lv_sub hl [] rfl)
set_option maxHeartbeats 4000000 in
set_option maxRecDepth 100000 in
theorem wM_move_376 {l : Launch} {D : va_G} {h : Nat → Nat} {K : Nat → ClassId} {res : qS} {p : Program} {e : Env} {s : State} {m : MethodId} {args : Array Value} {below : List Frame} {meth : Method} {c : Code} {A : Nat → Prop} {ad : Nat → Nat} (C : qC p s m args meth c qm_M_move_c 9 none qR_M ad) (S : qS) (y1 : Int32) (y2 : Int32) (y3 : Int32) (hf : fM_move_376 S y1 y2 y3 = some res) : ∀ (H : Heap) (locs : List Loc) (ls : Array Slot), qG D qCl (mT K) A s (mW h K S) H locs → lv_has ls 9 [] → W p l e ({ frames := 4, cells := 0, slots := 0, locals := 101 }) s m args below meth c H locs 0 0 (MQ below (qQv D qCl (mT K) (mW h K) A res) args s 0 0 A) (F0 m 376 ls [.int y3, .int y2, .int y1, .ref (h 0)]) := by
  intro H locs ls G hl
  unfold fM_move_376 at hf
  obtain ⟨S1, c1, hf⟩ := bnd_s hf
  refine q_callVv (wf := (mW h K)) (n := 3) (As := [.int y1, .int y2, .int y3]) (q0 := 0) (ci := 7) C G hl.1 (kM_give (l := l) c1) qx_M_117 qm_M_give_d ⟨by decide, by decide⟩ ⟨Nat.le_refl _, Nat.le_refl _⟩ rfl rfl rfl rfl rfl (Nat.le_of_ble_eq_true rfl) qm_M_move_376 (fun H locs G => ?_)
  exact wM_move_379 C S1 hf _ _ _ G (lv_sub hl [] rfl)
set_option maxHeartbeats 4000000 in
set_option maxRecDepth 100000 in
theorem wM_move_371 {l : Launch} {D : va_G} {h : Nat → Nat} {K : Nat → ClassId} {res : qS} {p : Program} {e : Env} {s : State} {m : MethodId} {args : Array Value} {below : List Frame} {meth : Method} {c : Code} {A : Nat → Prop} {ad : Nat → Nat} (C : qC p s m args meth c qm_M_move_c 9 none qR_M ad) (S : qS) (y1 : Int32) (y2 : Int32) (hf : fM_move_371 S y1 y2 = some res) : ∀ (H : Heap) (locs : List Loc) (ls : Array Slot), qG D qCl (mT K) A s (mW h K S) H locs → lv_has ls 9 [] → W p l e ({ frames := 4, cells := 0, slots := 0, locals := 101 }) s m args below meth c H locs 0 0 (MQ below (qQv D qCl (mT K) (mW h K) A res) args s 0 0 A) (F0 m 371 ls [.int y2, .int y1, .ref (h 0)]) := by
  intro H locs ls G hl
  unfold fM_move_371 at hf
  refine lv_iconst (v := 1) C.1 C.2.1 qm_M_move_371 (by decide) ?_
  refine lv_goto (tgt := 376) C.1 C.2.1 qm_M_move_372 (by decide) ?_
  exact wM_move_376 C S y1 y2 1 hf _ _ _ G (lv_sub hl [] rfl)
set_option maxHeartbeats 4000000 in
set_option maxRecDepth 100000 in
theorem wM_move_357 {l : Launch} {D : va_G} {h : Nat → Nat} {K : Nat → ClassId} {res : qS} {p : Program} {e : Env} {s : State} {m : MethodId} {args : Array Value} {below : List Frame} {meth : Method} {c : Code} {A : Nat → Prop} {ad : Nat → Nat} (C : qC p s m args meth c qm_M_move_c 9 none qR_M ad) (S : qS) (x1 : Int32) (x5 : Int32) (y1 : Int32) (hf : fM_move_357 S x1 x5 y1 = some res) : ∀ (H : Heap) (locs : List Loc) (ls : Array Slot), qG D qCl (mT K) A s (mW h K S) H locs → lv_has ls 9 [(1, .int x1), (5, .int x5)] → W p l e ({ frames := 4, cells := 0, slots := 0, locals := 101 }) s m args below meth c H locs 0 0 (MQ below (qQv D qCl (mT K) (mW h K) A res) args s 0 0 A) (F0 m 357 ls [.int y1, .ref (h 0)]) := by
  intro H locs ls G hl
  unfold fM_move_357 at hf
  refine lv_iload C.1 C.2.1 qm_M_move_357 (lv_at hl 1 rfl) ?_
  refine lv_iload_n C.1 C.2.1 qm_M_move_359 rfl (lv_at hl 0 rfl) ?_
  refine lv_bipush (v := 13) C.1 C.2.1 qm_M_move_360 (by decide) ?_
  refine lv_icmp_eq (tgt := 371) C.1 C.2.1 qm_M_move_362 (by decide) (fun b1 => ?_) (fun b1 => ?_)
  · have hf := if_t b1 hf
    exact wM_move_371 C S y1 x5 hf _ _ _ G (lv_sub hl [] rfl)
  · have hf := if_f b1 hf
    refine lv_iload_n C.1 C.2.1 qm_M_move_365 rfl (lv_at hl 0 rfl) ?_
    refine lv_bipush (v := 17) C.1 C.2.1 qm_M_move_366 (by decide) ?_
    refine lv_icmp_ne (tgt := 375) C.1 C.2.1 qm_M_move_368 (by decide) (fun b2 => ?_) (fun b2 => ?_)
    · have hf := if_t b2 hf
      refine lv_iconst (v := 4) C.1 C.2.1 qm_M_move_375 (by decide) ?_
      exact wM_move_376 C S y1 x5 4 hf _ _ _ G (lv_sub hl [] rfl)
    · have hf := if_f (not_not_intro b2) hf
      exact wM_move_371 C S y1 x5 hf _ _ _ G (lv_sub hl [] rfl)
set_option maxHeartbeats 4000000 in
set_option maxRecDepth 100000 in
theorem wM_move_352 {l : Launch} {D : va_G} {h : Nat → Nat} {K : Nat → ClassId} {res : qS} {p : Program} {e : Env} {s : State} {m : MethodId} {args : Array Value} {below : List Frame} {meth : Method} {c : Code} {A : Nat → Prop} {ad : Nat → Nat} (C : qC p s m args meth c qm_M_move_c 9 none qR_M ad) (S : qS) (x1 : Int32) (x5 : Int32) (hf : fM_move_352 S x1 x5 = some res) : ∀ (H : Heap) (locs : List Loc) (ls : Array Slot), qG D qCl (mT K) A s (mW h K S) H locs → lv_has ls 9 [(1, .int x1), (5, .int x5)] → W p l e ({ frames := 4, cells := 0, slots := 0, locals := 101 }) s m args below meth c H locs 0 0 (MQ below (qQv D qCl (mT K) (mW h K) A res) args s 0 0 A) (F0 m 352 ls [.ref (h 0)]) := by
  intro H locs ls G hl
  unfold fM_move_352 at hf
  refine lv_iconst (v := 0) C.1 C.2.1 qm_M_move_352 (by decide) ?_
  refine lv_goto (tgt := 357) C.1 C.2.1 qm_M_move_353 (by decide) ?_
  exact wM_move_357 C S x1 x5 0 hf _ _ _ G (lv_sub hl [0, 1] rfl)
set_option maxHeartbeats 4000000 in
set_option maxRecDepth 100000 in
theorem wM_move_306 {l : Launch} {D : va_G} {h : Nat → Nat} {K : Nat → ClassId} {res : qS} {p : Program} {e : Env} {s : State} {m : MethodId} {args : Array Value} {below : List Frame} {meth : Method} {c : Code} {A : Nat → Prop} {ad : Nat → Nat} (C : qC p s m args meth c qm_M_move_c 9 none qR_M ad) (S : qS) (x1 : Int32) (x5 : Int32) (hf : fM_move_306 S x1 x5 = some res) : ∀ (H : Heap) (locs : List Loc) (ls : Array Slot), qG D qCl (mT K) A s (mW h K S) H locs → lv_has ls 9 [(0, .ref (h 0)), (1, .int x1), (5, .int x5)] → W p l e ({ frames := 4, cells := 0, slots := 0, locals := 101 }) s m args below meth c H locs 0 0 (MQ below (qQv D qCl (mT K) (mW h K) A res) args s 0 0 A) (F0 m 306 ls []) := by
  intro H locs ls G hl
  unfold fM_move_306 at hf
  refine lv_iload_n C.1 C.2.1 qm_M_move_306 rfl (lv_at hl 1 rfl) ?_
  refine lv_bipush (v := 44) C.1 C.2.1 qm_M_move_307 (by decide) ?_
  refine lv_icmp_eq (tgt := 318) C.1 C.2.1 qm_M_move_309 (by decide) (fun b1 => ?_) (fun b1 => ?_)
  · have hf := if_t b1 hf
    exact wM_move_318 C S x5 hf _ _ _ G (lv_sub hl [0, 2] rfl)
  · have hf := if_f b1 hf
    refine lv_iload_n C.1 C.2.1 qm_M_move_312 rfl (lv_at hl 1 rfl) ?_
    refine lv_bipush (v := 45) C.1 C.2.1 qm_M_move_313 (by decide) ?_
    refine lv_icmp_ne (tgt := 327) C.1 C.2.1 qm_M_move_315 (by decide) (fun b2 => ?_) (fun b2 => ?_)
    · have hf := if_t b2 hf
      refine lv_iload_n C.1 C.2.1 qm_M_move_327 rfl (lv_at hl 1 rfl) ?_
      refine lv_bipush (v := 21) C.1 C.2.1 qm_M_move_328 (by decide) ?_
      refine lv_icmp_eq (tgt := 379) C.1 C.2.1 qm_M_move_330 (by decide) (fun b3 => ?_) (fun b3 => ?_)
      · have hf := if_t b3 hf
        exact wM_move_379 C S hf _ _ _ G (lv_sub hl [] rfl)
      · have hf := if_f b3 hf
        refine lv_iload_n C.1 C.2.1 qm_M_move_333 rfl (lv_at hl 1 rfl) ?_
        refine lv_bipush (v := 22) C.1 C.2.1 qm_M_move_334 (by decide) ?_
        refine lv_icmp_eq (tgt := 379) C.1 C.2.1 qm_M_move_336 (by decide) (fun b4 => ?_) (fun b4 => ?_)
        · have hf := if_t b4 hf
          exact wM_move_379 C S hf _ _ _ G (lv_sub hl [] rfl)
        · have hf := if_f b4 hf
          refine lv_aload_n C.1 C.2.1 qm_M_move_339 rfl (lv_at hl 0 rfl) ?_
          refine lv_iload_n C.1 C.2.1 qm_M_move_340 rfl (lv_at hl 1 rfl) ?_
          refine lv_bipush (v := 12) C.1 C.2.1 qm_M_move_341 (by decide) ?_
          refine lv_icmp_eq (tgt := 352) C.1 C.2.1 qm_M_move_343 (by decide) (fun b5 => ?_) (fun b5 => ?_)
          · have hf := if_t b5 hf
            exact wM_move_352 C S x1 x5 hf _ _ _ G (lv_sub hl [1, 2] rfl)
          · have hf := if_f b5 hf
            refine lv_iload_n C.1 C.2.1 qm_M_move_346 rfl (lv_at hl 1 rfl) ?_
            refine lv_bipush (v := 20) C.1 C.2.1 qm_M_move_347 (by decide) ?_
            refine lv_icmp_ne (tgt := 356) C.1 C.2.1 qm_M_move_349 (by decide) (fun b6 => ?_) (fun b6 => ?_)
            · have hf := if_t b6 hf
              refine lv_iconst (v := 1) C.1 C.2.1 qm_M_move_356 (by decide) ?_
              exact wM_move_357 C S x1 x5 1 hf _ _ _ G (lv_sub hl [1, 2] rfl)
            · have hf := if_f (not_not_intro b6) hf
              exact wM_move_352 C S x1 x5 hf _ _ _ G (lv_sub hl [1, 2] rfl)
    · have hf := if_f (not_not_intro b2) hf
      exact wM_move_318 C S x5 hf _ _ _ G (lv_sub hl [0, 2] rfl)
set_option maxHeartbeats 4000000 in
set_option maxRecDepth 100000 in
theorem wM_move_303 {l : Launch} {D : va_G} {h : Nat → Nat} {K : Nat → ClassId} {res : qS} {p : Program} {e : Env} {s : State} {m : MethodId} {args : Array Value} {below : List Frame} {meth : Method} {c : Code} {A : Nat → Prop} {ad : Nat → Nat} (C : qC p s m args meth c qm_M_move_c 9 none qR_M ad) (S : qS) (x1 : Int32) (x5 : Int32) (y1 : Int32) (y2 : Int32) (y3 : Int32) (hf : fM_move_303 S x1 x5 y1 y2 y3 = some res) : ∀ (H : Heap) (locs : List Loc) (ls : Array Slot), qG D qCl (mT K) A s (mW h K S) H locs → lv_has ls 9 [(0, .ref (h 0)), (1, .int x1), (5, .int x5)] → W p l e ({ frames := 4, cells := 0, slots := 0, locals := 101 }) s m args below meth c H locs 0 0 (MQ below (qQv D qCl (mT K) (mW h K) A res) args s 0 0 A) (F0 m 303 ls [.int y3, .int y2, .int y1, .ref (h 0)]) := by
  intro H locs ls G hl
  unfold fM_move_303 at hf
  obtain ⟨S1, c1, hf⟩ := bnd_s hf
  refine q_callVv (wf := (mW h K)) (n := 3) (As := [.int y1, .int y2, .int y3]) (q0 := 0) (ci := 7) C G hl.1 (kM_mark (l := l) c1) qx_M_113 qm_M_mark_d ⟨by decide, by decide⟩ ⟨Nat.le_refl _, Nat.le_refl _⟩ rfl rfl rfl rfl rfl (Nat.le_of_ble_eq_true rfl) qm_M_move_303 (fun H locs G => ?_)
  exact wM_move_306 C S1 x1 x5 hf _ _ _ G (lv_sub hl [0, 1, 2] rfl)
set_option maxHeartbeats 4000000 in
set_option maxRecDepth 100000 in
theorem wM_move_302 {l : Launch} {D : va_G} {h : Nat → Nat} {K : Nat → ClassId} {res : qS} {p : Program} {e : Env} {s : State} {m : MethodId} {args : Array Value} {below : List Frame} {meth : Method} {c : Code} {A : Nat → Prop} {ad : Nat → Nat} (C : qC p s m args meth c qm_M_move_c 9 none qR_M ad) (S : qS) (x1 : Int32) (x5 : Int32) (y1 : Int32) (y2 : Int32) (hf : fM_move_302 S x1 x5 y1 y2 = some res) : ∀ (H : Heap) (locs : List Loc) (ls : Array Slot), qG D qCl (mT K) A s (mW h K S) H locs → lv_has ls 9 [(0, .ref (h 0)), (1, .int x1), (5, .int x5)] → W p l e ({ frames := 4, cells := 0, slots := 0, locals := 101 }) s m args below meth c H locs 0 0 (MQ below (qQv D qCl (mT K) (mW h K) A res) args s 0 0 A) (F0 m 302 ls [.int y2, .int y1, .ref (h 0)]) := by
  intro H locs ls G hl
  unfold fM_move_302 at hf
  refine lv_iconst (v := 0) C.1 C.2.1 qm_M_move_302 (by decide) ?_
  exact wM_move_303 C S x1 x5 y1 y2 0 hf _ _ _ G (lv_sub hl [0, 1, 2] rfl)
set_option maxHeartbeats 4000000 in
set_option maxRecDepth 100000 in
theorem wM_move_257 {l : Launch} {D : va_G} {h : Nat → Nat} {K : Nat → ClassId} {res : qS} {p : Program} {e : Env} {s : State} {m : MethodId} {args : Array Value} {below : List Frame} {meth : Method} {c : Code} {A : Nat → Prop} {ad : Nat → Nat} (C : qC p s m args meth c qm_M_move_c 9 none qR_M ad) (S : qS) (x1 : Int32) (x2 : Int32) (x4 : Int32) (x5 : Int32) (y1 : Int32) (y2 : Int32) (hf : fM_move_257 S x1 x2 x4 x5 y1 y2 = some res) : ∀ (H : Heap) (locs : List Loc) (ls : Array Slot), qG D qCl (mT K) A s (mW h K S) H locs → lv_has ls 9 [(0, .ref (h 0)), (1, .int x1), (2, .int x2), (4, .int x4), (5, .int x5)] → W p l e ({ frames := 4, cells := 0, slots := 0, locals := 101 }) s m args below meth c H locs 0 0 (MQ below (qQv D qCl (mT K) (mW h K) A res) args s 0 0 A) (F0 m 257 ls [.int y2, .int y1, .ref (h 0)]) := by
  intro H locs ls G hl
  unfold fM_move_257 at hf
  refine lv_iload_n C.1 C.2.1 qm_M_move_257 rfl (lv_at hl 1 rfl) ?_
  refine lv_bipush (v := 18) C.1 C.2.1 qm_M_move_258 (by decide) ?_
  refine lv_icmp_ne (tgt := 275) C.1 C.2.1 qm_M_move_260 (by decide) (fun b1 => ?_) (fun b1 => ?_)
  · have hf := if_t b1 hf
    refine lv_iload_n C.1 C.2.1 qm_M_move_275 rfl (lv_at hl 1 rfl) ?_
    refine lv_bipush (v := 17) C.1 C.2.1 qm_M_move_276 (by decide) ?_
    refine lv_icmp_eq (tgt := 302) C.1 C.2.1 qm_M_move_278 (by decide) (fun b2 => ?_) (fun b2 => ?_)
    · have hf := if_t b2 hf
      exact wM_move_302 C S x1 x5 y1 y2 hf _ _ _ G (lv_sub hl [0, 1, 4] rfl)
    · have hf := if_f b2 hf
      refine lv_iload_n C.1 C.2.1 qm_M_move_281 rfl (lv_at hl 1 rfl) ?_
      refine lv_bipush (v := 21) C.1 C.2.1 qm_M_move_282 (by decide) ?_
      refine lv_icmp_eq (tgt := 302) C.1 C.2.1 qm_M_move_284 (by decide) (fun b3 => ?_) (fun b3 => ?_)
      · have hf := if_t b3 hf
        exact wM_move_302 C S x1 x5 y1 y2 hf _ _ _ G (lv_sub hl [0, 1, 4] rfl)
      · have hf := if_f b3 hf
        refine lv_iload_n C.1 C.2.1 qm_M_move_287 rfl (lv_at hl 1 rfl) ?_
        refine lv_bipush (v := 22) C.1 C.2.1 qm_M_move_288 (by decide) ?_
        refine lv_icmp_eq (tgt := 302) C.1 C.2.1 qm_M_move_290 (by decide) (fun b4 => ?_) (fun b4 => ?_)
        · have hf := if_t b4 hf
          exact wM_move_302 C S x1 x5 y1 y2 hf _ _ _ G (lv_sub hl [0, 1, 4] rfl)
        · have hf := if_f b4 hf
          refine lv_iload C.1 C.2.1 qm_M_move_293 (lv_at hl 3 rfl) ?_
          refine lv_if_eq (tgt := 302) C.1 C.2.1 qm_M_move_295 (by decide) (fun b5 => ?_) (fun b5 => ?_)
          · have hf := if_t b5 hf
            exact wM_move_302 C S x1 x5 y1 y2 hf _ _ _ G (lv_sub hl [0, 1, 4] rfl)
          · have hf := if_f b5 hf
            refine lv_iconst (v := 1) C.1 C.2.1 qm_M_move_298 (by decide) ?_
            refine lv_goto (tgt := 303) C.1 C.2.1 qm_M_move_299 (by decide) ?_
            exact wM_move_303 C S x1 x5 y1 y2 1 hf _ _ _ G (lv_sub hl [0, 1, 4] rfl)
  · have hf := if_f (not_not_intro b1) hf
    refine lv_iload_n C.1 C.2.1 qm_M_move_263 rfl (lv_at hl 2 rfl) ?_
    refine lv_if_eq (tgt := 271) C.1 C.2.1 qm_M_move_264 (by decide) (fun b6 => ?_) (fun b6 => ?_)
    · have hf := if_t b6 hf
      refine lv_iconst (v := 0) C.1 C.2.1 qm_M_move_271 (by decide) ?_
      refine lv_goto (tgt := 303) C.1 C.2.1 qm_M_move_272 (by decide) ?_
      exact wM_move_303 C S x1 x5 y1 y2 0 hf _ _ _ G (lv_sub hl [0, 1, 4] rfl)
    · have hf := if_f b6 hf
      refine lv_iconst (v := 1) C.1 C.2.1 qm_M_move_267 (by decide) ?_
      refine lv_goto (tgt := 303) C.1 C.2.1 qm_M_move_268 (by decide) ?_
      exact wM_move_303 C S x1 x5 y1 y2 1 hf _ _ _ G (lv_sub hl [0, 1, 4] rfl)
set_option maxHeartbeats 4000000 in
set_option maxRecDepth 100000 in
theorem wM_move_256 {l : Launch} {D : va_G} {h : Nat → Nat} {K : Nat → ClassId} {res : qS} {p : Program} {e : Env} {s : State} {m : MethodId} {args : Array Value} {below : List Frame} {meth : Method} {c : Code} {A : Nat → Prop} {ad : Nat → Nat} (C : qC p s m args meth c qm_M_move_c 9 none qR_M ad) (S : qS) (x1 : Int32) (x2 : Int32) (x4 : Int32) (x5 : Int32) (y1 : Int32) (hf : fM_move_256 S x1 x2 x4 x5 y1 = some res) : ∀ (H : Heap) (locs : List Loc) (ls : Array Slot), qG D qCl (mT K) A s (mW h K S) H locs → lv_has ls 9 [(0, .ref (h 0)), (1, .int x1), (2, .int x2), (4, .int x4), (5, .int x5)] → W p l e ({ frames := 4, cells := 0, slots := 0, locals := 101 }) s m args below meth c H locs 0 0 (MQ below (qQv D qCl (mT K) (mW h K) A res) args s 0 0 A) (F0 m 256 ls [.int y1, .ref (h 0)]) := by
  intro H locs ls G hl
  unfold fM_move_256 at hf
  refine lv_iconst (v := 0) C.1 C.2.1 qm_M_move_256 (by decide) ?_
  exact wM_move_257 C S x1 x2 x4 x5 y1 0 hf _ _ _ G (lv_sub hl [0, 1, 2, 3, 4] rfl)
set_option maxHeartbeats 4000000 in
set_option maxRecDepth 100000 in
theorem wM_move_131 {l : Launch} {D : va_G} {h : Nat → Nat} {K : Nat → ClassId} {res : qS} {p : Program} {e : Env} {s : State} {m : MethodId} {args : Array Value} {below : List Frame} {meth : Method} {c : Code} {A : Nat → Prop} {ad : Nat → Nat} (C : qC p s m args meth c qm_M_move_c 9 none qR_M ad) (S : qS) (x1 : Int32) (x2 : Int32) (x3 : Int32) (x4 : Int32) (x5 : Int32) (y0 : Int32) (hf : fM_move_131 S x1 x2 x3 x4 x5 y0 = some res) : ∀ (H : Heap) (locs : List Loc) (ls : Array Slot), qG D qCl (mT K) A s (mW h K S) H locs → lv_has ls 9 [(0, .ref (h 0)), (1, .int x1), (2, .int x2), (3, .int x3), (4, .int x4), (5, .int x5)] → W p l e ({ frames := 4, cells := 0, slots := 0, locals := 101 }) s m args below meth c H locs 0 0 (MQ below (qQv D qCl (mT K) (mW h K) A res) args s 0 0 A) (F0 m 131 ls [.int y0]) := by
  intro H locs ls G hl
  unfold fM_move_131 at hf
  refine lv_istore (lv' := [(6, .int y0), (0, .ref (h 0)), (1, .int x1), (2, .int x2), (3, .int x3), (4, .int x4), (5, .int x5)]) C.1 C.2.1 qm_M_move_131 hl (by decide) rfl (fun ls hl => ?_)
  refine lv_iload_n C.1 C.2.1 qm_M_move_133 rfl (lv_at hl 2 rfl) ?_
  refine lv_bipush (v := 23) C.1 C.2.1 qm_M_move_134 (by decide) ?_
  refine lv_icmp_eq (tgt := 145) C.1 C.2.1 qm_M_move_136 (by decide) (fun b1 => ?_) (fun b1 => ?_)
  · have hf := if_t b1 hf
    exact wM_move_145 C S x1 x2 x3 hf _ _ _ G (lv_sub hl [1, 2, 3, 4] rfl)
  · have hf := if_f b1 hf
    refine lv_iload_n C.1 C.2.1 qm_M_move_139 rfl (lv_at hl 2 rfl) ?_
    refine lv_bipush (v := 24) C.1 C.2.1 qm_M_move_140 (by decide) ?_
    refine lv_icmp_ne (tgt := 211) C.1 C.2.1 qm_M_move_142 (by decide) (fun b2 => ?_) (fun b2 => ?_)
    · have hf := if_t b2 hf
      refine lv_iload_n C.1 C.2.1 qm_M_move_211 rfl (lv_at hl 2 rfl) ?_
      refine lv_bipush (v := 12) C.1 C.2.1 qm_M_move_212 (by decide) ?_
      refine lv_icmp_eq (tgt := 306) C.1 C.2.1 qm_M_move_214 (by decide) (fun b3 => ?_) (fun b3 => ?_)
      · have hf := if_t b3 hf
        exact wM_move_306 C S x1 x5 hf _ _ _ G (lv_sub hl [1, 2, 6] rfl)
      · have hf := if_f b3 hf
        refine lv_aload_n C.1 C.2.1 qm_M_move_217 rfl (lv_at hl 1 rfl) ?_
        refine lv_iload C.1 C.2.1 qm_M_move_218 (lv_at hl 0 rfl) ?_
        refine lv_iload_n C.1 C.2.1 qm_M_move_220 rfl (lv_at hl 2 rfl) ?_
        refine lv_bipush (v := 17) C.1 C.2.1 qm_M_move_221 (by decide) ?_
        refine lv_icmp_ne (tgt := 240) C.1 C.2.1 qm_M_move_223 (by decide) (fun b4 => ?_) (fun b4 => ?_)
        · have hf := if_t b4 hf
          refine lv_iload_n C.1 C.2.1 qm_M_move_240 rfl (lv_at hl 2 rfl) ?_
          refine lv_bipush (v := 18) C.1 C.2.1 qm_M_move_241 (by decide) ?_
          refine lv_icmp_ne (tgt := 256) C.1 C.2.1 qm_M_move_243 (by decide) (fun b5 => ?_) (fun b5 => ?_)
          · have hf := if_t b5 hf
            exact wM_move_256 C S x1 x2 x4 x5 y0 hf _ _ _ G (lv_sub hl [1, 2, 3, 5, 6] rfl)
          · have hf := if_f (not_not_intro b5) hf
            refine lv_iload_n C.1 C.2.1 qm_M_move_246 rfl (lv_at hl 3 rfl) ?_
            refine lv_ldc (own := "QuadModeModel") (v := (-2147483648)) C.1 C.2.1 C.2.2.2.1 (C.2.2.2.2.1 _ qz_987) qm_M_move_247 ?_
            refine lv_icmp_ne (tgt := 256) C.1 C.2.1 qm_M_move_249 (by decide) (fun b6 => ?_) (fun b6 => ?_)
            · have hf := if_t b6 hf
              exact wM_move_256 C S x1 x2 x4 x5 y0 hf _ _ _ G (lv_sub hl [1, 2, 3, 5, 6] rfl)
            · have hf := if_f (not_not_intro b6) hf
              refine lv_iconst (v := 1) C.1 C.2.1 qm_M_move_252 (by decide) ?_
              refine lv_goto (tgt := 257) C.1 C.2.1 qm_M_move_253 (by decide) ?_
              exact wM_move_257 C S x1 x2 x4 x5 y0 1 hf _ _ _ G (lv_sub hl [1, 2, 3, 5, 6] rfl)
        · have hf := if_f (not_not_intro b4) hf
          refine lv_iload C.1 C.2.1 qm_M_move_226 (lv_at hl 6 rfl) ?_
          refine lv_iload_n C.1 C.2.1 qm_M_move_228 rfl (lv_at hl 3 rfl) ?_
          refine lv_icmp_eq (tgt := 236) C.1 C.2.1 qm_M_move_229 (by decide) (fun b7 => ?_) (fun b7 => ?_)
          · have hf := if_t b7 hf
            refine lv_iconst (v := 0) C.1 C.2.1 qm_M_move_236 (by decide) ?_
            refine lv_goto (tgt := 257) C.1 C.2.1 qm_M_move_237 (by decide) ?_
            exact wM_move_257 C S x1 x2 x4 x5 y0 0 hf _ _ _ G (lv_sub hl [1, 2, 3, 5, 6] rfl)
          · have hf := if_f b7 hf
            refine lv_iconst (v := 1) C.1 C.2.1 qm_M_move_232 (by decide) ?_
            refine lv_goto (tgt := 257) C.1 C.2.1 qm_M_move_233 (by decide) ?_
            exact wM_move_257 C S x1 x2 x4 x5 y0 1 hf _ _ _ G (lv_sub hl [1, 2, 3, 5, 6] rfl)
    · have hf := if_f (not_not_intro b2) hf
      exact wM_move_145 C S x1 x2 x3 hf _ _ _ G (lv_sub hl [1, 2, 3, 4] rfl)
set_option maxHeartbeats 4000000 in
set_option maxRecDepth 100000 in
theorem wM_move_122 {l : Launch} {D : va_G} {h : Nat → Nat} {K : Nat → ClassId} {res : qS} {p : Program} {e : Env} {s : State} {m : MethodId} {args : Array Value} {below : List Frame} {meth : Method} {c : Code} {A : Nat → Prop} {ad : Nat → Nat} (C : qC p s m args meth c qm_M_move_c 9 none qR_M ad) (S : qS) (x1 : Int32) (x2 : Int32) (x3 : Int32) (x4 : Int32) (x5 : Int32) (hf : fM_move_122 S x1 x2 x3 x4 x5 = some res) : ∀ (H : Heap) (locs : List Loc) (ls : Array Slot), qG D qCl (mT K) A s (mW h K S) H locs → lv_has ls 9 [(0, .ref (h 0)), (1, .int x1), (2, .int x2), (3, .int x3), (4, .int x4), (5, .int x5)] → W p l e ({ frames := 4, cells := 0, slots := 0, locals := 101 }) s m args below meth c H locs 0 0 (MQ below (qQv D qCl (mT K) (mW h K) A res) args s 0 0 A) (F0 m 122 ls []) := by
  intro H locs ls G hl
  unfold fM_move_122 at hf
  refine lv_iload_n C.1 C.2.1 qm_M_move_122 rfl (lv_at hl 2 rfl) ?_
  obtain ⟨q1, c1, hf⟩ := bnd_s hf
  refine q_callSi (wf := (mW h K)) (n := 1) (As := [.int x2]) C G hl.1 (kM_signed (l := l) c1) qx_M_103 qm_M_signed_d ⟨by decide, by decide⟩ ⟨Nat.le_refl _, Nat.le_refl _⟩ rfl rfl (Nat.le_of_ble_eq_true rfl) qm_M_move_123 (fun H locs G => ?_)
  refine lv_goto (tgt := 131) C.1 C.2.1 qm_M_move_126 (by decide) ?_
  exact wM_move_131 C q1.2 x1 x2 x3 x4 x5 q1.1 hf _ _ _ G (lv_sub hl [0, 1, 2, 3, 4, 5] rfl)
set_option maxHeartbeats 4000000 in
set_option maxRecDepth 100000 in
theorem wM_move_108 {l : Launch} {D : va_G} {h : Nat → Nat} {K : Nat → ClassId} {res : qS} {p : Program} {e : Env} {s : State} {m : MethodId} {args : Array Value} {below : List Frame} {meth : Method} {c : Code} {A : Nat → Prop} {ad : Nat → Nat} (C : qC p s m args meth c qm_M_move_c 9 none qR_M ad) (S : qS) (x1 : Int32) (x2 : Int32) (x3 : Int32) (x4 : Int32) (y0 : Int32) (hf : fM_move_108 S x1 x2 x3 x4 y0 = some res) : ∀ (H : Heap) (locs : List Loc) (ls : Array Slot), qG D qCl (mT K) A s (mW h K S) H locs → lv_has ls 9 [(0, .ref (h 0)), (1, .int x1), (2, .int x2), (3, .int x3), (4, .int x4)] → W p l e ({ frames := 4, cells := 0, slots := 0, locals := 101 }) s m args below meth c H locs 0 0 (MQ below (qQv D qCl (mT K) (mW h K) A res) args s 0 0 A) (F0 m 108 ls [.int y0]) := by
  intro H locs ls G hl
  unfold fM_move_108 at hf
  refine lv_istore (lv' := [(5, .int y0), (0, .ref (h 0)), (1, .int x1), (2, .int x2), (3, .int x3), (4, .int x4)]) C.1 C.2.1 qm_M_move_108 hl (by decide) rfl (fun ls hl => ?_)
  refine lv_iload_n C.1 C.2.1 qm_M_move_110 rfl (lv_at hl 2 rfl) ?_
  refine lv_bipush (v := 13) C.1 C.2.1 qm_M_move_111 (by decide) ?_
  refine lv_icmp_eq (tgt := 122) C.1 C.2.1 qm_M_move_113 (by decide) (fun b1 => ?_) (fun b1 => ?_)
  · have hf := if_t b1 hf
    exact wM_move_122 C S x1 x2 x3 x4 y0 hf _ _ _ G (lv_sub hl [1, 2, 3, 4, 5, 0] rfl)
  · have hf := if_f b1 hf
    refine lv_iload_n C.1 C.2.1 qm_M_move_116 rfl (lv_at hl 2 rfl) ?_
    refine lv_bipush (v := 22) C.1 C.2.1 qm_M_move_117 (by decide) ?_
    refine lv_icmp_ne (tgt := 129) C.1 C.2.1 qm_M_move_119 (by decide) (fun b2 => ?_) (fun b2 => ?_)
    · have hf := if_t b2 hf
      refine lv_iload C.1 C.2.1 qm_M_move_129 (lv_at hl 0 rfl) ?_
      exact wM_move_131 C S x1 x2 x3 x4 y0 y0 hf _ _ _ G (lv_sub hl [1, 2, 3, 4, 5, 0] rfl)
    · have hf := if_f (not_not_intro b2) hf
      exact wM_move_122 C S x1 x2 x3 x4 y0 hf _ _ _ G (lv_sub hl [1, 2, 3, 4, 5, 0] rfl)
set_option maxHeartbeats 4000000 in
set_option maxRecDepth 100000 in
theorem wM_move_46 {l : Launch} {D : va_G} {h : Nat → Nat} {K : Nat → ClassId} {res : qS} {p : Program} {e : Env} {s : State} {m : MethodId} {args : Array Value} {below : List Frame} {meth : Method} {c : Code} {A : Nat → Prop} {ad : Nat → Nat} (C : qC p s m args meth c qm_M_move_c 9 none qR_M ad) (S : qS) (x1 : Int32) (x2 : Int32) (x3 : Int32) (x4 : Int32) (hf : fM_move_46 S x1 x2 x3 x4 = some res) : ∀ (H : Heap) (locs : List Loc) (ls : Array Slot), qG D qCl (mT K) A s (mW h K S) H locs → lv_has ls 9 [(0, .ref (h 0)), (1, .int x1), (2, .int x2), (3, .int x3), (4, .int x4)] → W p l e ({ frames := 4, cells := 0, slots := 0, locals := 101 }) s m args below meth c H locs 0 0 (MQ below (qQv D qCl (mT K) (mW h K) A res) args s 0 0 A) (F0 m 46 ls []) := by
  intro H locs ls G hl
  unfold fM_move_46 at hf
  refine lv_iload_n C.1 C.2.1 qm_M_move_46 rfl (lv_at hl 2 rfl) ?_
  obtain ⟨q1, c1, hf⟩ := bnd_s hf
  refine q_callSi (wf := (mW h K)) (n := 1) (As := [.int x2]) C G hl.1 (kM_signed (l := l) c1) qx_M_103 qm_M_signed_d ⟨by decide, by decide⟩ ⟨Nat.le_refl _, Nat.le_refl _⟩ rfl rfl (Nat.le_of_ble_eq_true rfl) qm_M_move_47 (fun H locs G => ?_)
  refine lv_goto (tgt := 108) C.1 C.2.1 qm_M_move_50 (by decide) ?_
  exact wM_move_108 C q1.2 x1 x2 x3 x4 q1.1 hf _ _ _ G (lv_sub hl [0, 1, 2, 3, 4] rfl)
set_option maxHeartbeats 4000000 in
set_option maxRecDepth 100000 in
theorem wM_move_107 {l : Launch} {D : va_G} {h : Nat → Nat} {K : Nat → ClassId} {res : qS} {p : Program} {e : Env} {s : State} {m : MethodId} {args : Array Value} {below : List Frame} {meth : Method} {c : Code} {A : Nat → Prop} {ad : Nat → Nat} (C : qC p s m args meth c qm_M_move_c 9 none qR_M ad) (S : qS) (x1 : Int32) (x2 : Int32) (x3 : Int32) (x4 : Int32) (hf : fM_move_107 S x1 x2 x3 x4 = some res) : ∀ (H : Heap) (locs : List Loc) (ls : Array Slot), qG D qCl (mT K) A s (mW h K S) H locs → lv_has ls 9 [(0, .ref (h 0)), (1, .int x1), (2, .int x2), (3, .int x3), (4, .int x4)] → W p l e ({ frames := 4, cells := 0, slots := 0, locals := 101 }) s m args below meth c H locs 0 0 (MQ below (qQv D qCl (mT K) (mW h K) A res) args s 0 0 A) (F0 m 107 ls []) := by
  intro H locs ls G hl
  unfold fM_move_107 at hf
  refine lv_iload_n C.1 C.2.1 qm_M_move_107 rfl (lv_at hl 2 rfl) ?_
  exact wM_move_108 C S x1 x2 x3 x4 x2 hf _ _ _ G (lv_sub hl [0, 1, 2, 3, 4] rfl)
set_option maxHeartbeats 4000000 in
set_option maxRecDepth 100000 in
theorem wM_move {l : Launch} {D : va_G} {h : Nat → Nat} {K : Nat → ClassId} {res : qS} {p : Program} {e : Env} {s : State} {m : MethodId} {args : Array Value} {below : List Frame} {meth : Method} {c : Code} {A : Nat → Prop} {ad : Nat → Nat} (C : qC p s m args meth c qm_M_move_c 9 none qR_M ad) (S : qS) (a1 : Int32) (hf : fM_move S a1 = some res) : ∀ (H : Heap) (locs : List Loc) (ls : Array Slot), qG D qCl (mT K) A s (mW h K S) H locs → lv_has ls 9 [(0, .ref (h 0)), (1, .int a1)] → W p l e ({ frames := 4, cells := 0, slots := 0, locals := 101 }) s m args below meth c H locs 0 0 (MQ below (qQv D qCl (mT K) (mW h K) A res) args s 0 0 A) (F0 m 0 ls []) := by
  intro H locs ls G hl
  unfold fM_move at hf
  refine lv_aload_n C.1 C.2.1 qm_M_move_0 rfl (lv_at hl 0 rfl) ?_
  refine q_get (wf := (mW h K)) (v := .ref (h 6)) C G qi_M 0 rfl rfl 16 (by decide) qz_847 rfl qm_M_move_1 ?_
  refine lv_iconst (v := 0) C.1 C.2.1 qm_M_move_4 (by decide) ?_
  refine q_iald (wf := (mW h K)) C G 6 5 rfl rfl (by decide) qm_M_move_5 ?_
  refine lv_istore_n (lv' := [(2, .int (gA S 5 0)), (0, .ref (h 0)), (1, .int a1)]) C.1 C.2.1 qm_M_move_6 rfl hl (by decide) rfl (fun ls hl => ?_)
  refine lv_aload_n C.1 C.2.1 qm_M_move_7 rfl (lv_at hl 1 rfl) ?_
  refine q_get (wf := (mW h K)) (v := .ref (h 6)) C G qi_M 0 rfl rfl 16 (by decide) qz_847 rfl qm_M_move_8 ?_
  refine lv_iconst (v := 1) C.1 C.2.1 qm_M_move_11 (by decide) ?_
  refine q_iald (wf := (mW h K)) C G 6 5 rfl rfl (by decide) qm_M_move_12 ?_
  refine lv_istore_n (lv' := [(3, .int (gA S 5 1)), (2, .int (gA S 5 0)), (0, .ref (h 0)), (1, .int a1)]) C.1 C.2.1 qm_M_move_13 rfl hl (by decide) rfl (fun ls hl => ?_)
  refine lv_aload_n C.1 C.2.1 qm_M_move_14 rfl (lv_at hl 2 rfl) ?_
  refine lv_iconst (v := 0) C.1 C.2.1 qm_M_move_15 (by decide) ?_
  obtain ⟨q1, c1, hf⟩ := bnd_s hf
  refine q_callVi (wf := (mW h K)) (n := 1) (As := [.int 0]) (q0 := 0) (ci := 7) C G hl.1 (kM_has (l := l) c1) qx_M_106 qm_M_has_d ⟨by decide, by decide⟩ ⟨Nat.le_refl _, Nat.le_refl _⟩ rfl rfl rfl rfl rfl (Nat.le_of_ble_eq_true rfl) qm_M_move_16 (fun H locs G => ?_)
  refine lv_istore (lv' := [(4, .int q1.1), (3, .int (gA S 5 1)), (2, .int (gA S 5 0)), (0, .ref (h 0)), (1, .int a1)]) C.1 C.2.1 qm_M_move_19 hl (by decide) rfl (fun ls hl => ?_)
  refine lv_iload_n C.1 C.2.1 qm_M_move_21 rfl (lv_at hl 4 rfl) ?_
  refine lv_bipush (v := 12) C.1 C.2.1 qm_M_move_22 (by decide) ?_
  refine lv_icmp_ne (tgt := 34) C.1 C.2.1 qm_M_move_24 (by decide) (fun b2 => ?_) (fun b2 => ?_)
  · have hf := if_t b2 hf
    refine lv_iload_n C.1 C.2.1 qm_M_move_34 rfl (lv_at hl 4 rfl) ?_
    refine lv_bipush (v := 16) C.1 C.2.1 qm_M_move_35 (by decide) ?_
    refine lv_icmp_eq (tgt := 46) C.1 C.2.1 qm_M_move_37 (by decide) (fun b3 => ?_) (fun b3 => ?_)
    · have hf := if_t b3 hf
      exact wM_move_46 C q1.2 a1 (gA S 5 0) (gA S 5 1) q1.1 hf _ _ _ G (lv_sub hl [3, 4, 2, 1, 0] rfl)
    · have hf := if_f b3 hf
      refine lv_iload_n C.1 C.2.1 qm_M_move_40 rfl (lv_at hl 4 rfl) ?_
      refine lv_bipush (v := 17) C.1 C.2.1 qm_M_move_41 (by decide) ?_
      refine lv_icmp_ne (tgt := 53) C.1 C.2.1 qm_M_move_43 (by decide) (fun b4 => ?_) (fun b4 => ?_)
      · have hf := if_t b4 hf
        refine lv_iload_n C.1 C.2.1 qm_M_move_53 rfl (lv_at hl 4 rfl) ?_
        refine lv_bipush (v := 18) C.1 C.2.1 qm_M_move_54 (by decide) ?_
        refine lv_icmp_ne (tgt := 64) C.1 C.2.1 qm_M_move_56 (by decide) (fun b5 => ?_) (fun b5 => ?_)
        · have hf := if_t b5 hf
          refine lv_iload_n C.1 C.2.1 qm_M_move_64 rfl (lv_at hl 4 rfl) ?_
          refine lv_bipush (v := 19) C.1 C.2.1 qm_M_move_65 (by decide) ?_
          refine lv_icmp_ne (tgt := 76) C.1 C.2.1 qm_M_move_67 (by decide) (fun b6 => ?_) (fun b6 => ?_)
          · have hf := if_t b6 hf
            refine lv_iload_n C.1 C.2.1 qm_M_move_76 rfl (lv_at hl 4 rfl) ?_
            refine lv_bipush (v := 20) C.1 C.2.1 qm_M_move_77 (by decide) ?_
            refine lv_icmp_ne (tgt := 86) C.1 C.2.1 qm_M_move_79 (by decide) (fun b7 => ?_) (fun b7 => ?_)
            · have hf := if_t b7 hf
              refine lv_iload_n C.1 C.2.1 qm_M_move_86 rfl (lv_at hl 4 rfl) ?_
              refine lv_bipush (v := 41) C.1 C.2.1 qm_M_move_87 (by decide) ?_
              refine lv_icmp_le (tgt := 107) C.1 C.2.1 qm_M_move_89 (by decide) (fun b8 => ?_) (fun b8 => ?_)
              · have hf := if_t b8 hf
                exact wM_move_107 C q1.2 a1 (gA S 5 0) (gA S 5 1) q1.1 hf _ _ _ G (lv_sub hl [3, 4, 2, 1, 0] rfl)
              · have hf := if_f b8 hf
                refine lv_iload_n C.1 C.2.1 qm_M_move_92 rfl (lv_at hl 4 rfl) ?_
                refine lv_bipush (v := 44) C.1 C.2.1 qm_M_move_93 (by decide) ?_
                refine lv_icmp_eq (tgt := 107) C.1 C.2.1 qm_M_move_95 (by decide) (fun b9 => ?_) (fun b9 => ?_)
                · have hf := if_t b9 hf
                  exact wM_move_107 C q1.2 a1 (gA S 5 0) (gA S 5 1) q1.1 hf _ _ _ G (lv_sub hl [3, 4, 2, 1, 0] rfl)
                · have hf := if_f b9 hf
                  refine lv_aload_n C.1 C.2.1 qm_M_move_98 rfl (lv_at hl 3 rfl) ?_
                  refine q_get (wf := (mW h K)) (v := .ref (h 8)) C G qi_M 0 rfl rfl 18 (by decide) qz_849 rfl qm_M_move_99 ?_
                  refine lv_iconst (v := 0) C.1 C.2.1 qm_M_move_102 (by decide) ?_
                  refine q_iald (wf := (mW h K)) C G 8 7 rfl rfl (by decide) qm_M_move_103 ?_
                  refine lv_goto (tgt := 108) C.1 C.2.1 qm_M_move_104 (by decide) ?_
                  exact wM_move_108 C q1.2 a1 (gA S 5 0) (gA S 5 1) q1.1 (gA q1.2 7 0) hf _ _ _ G (lv_sub hl [3, 4, 2, 1, 0] rfl)
            · have hf := if_f (not_not_intro b7) hf
              refine lv_iconst (v := 0) C.1 C.2.1 qm_M_move_82 (by decide) ?_
              refine lv_goto (tgt := 108) C.1 C.2.1 qm_M_move_83 (by decide) ?_
              exact wM_move_108 C q1.2 a1 (gA S 5 0) (gA S 5 1) q1.1 0 hf _ _ _ G (lv_sub hl [3, 4, 2, 1, 0] rfl)
          · have hf := if_f (not_not_intro b6) hf
            refine lv_iload_n C.1 C.2.1 qm_M_move_70 rfl (lv_at hl 2 rfl) ?_
            refine lv_iconst (v := (-1)) C.1 C.2.1 qm_M_move_71 (by decide) ?_
            refine lv_ixor C.1 C.2.1 qm_M_move_72 ?_
            refine lv_goto (tgt := 108) C.1 C.2.1 qm_M_move_73 (by decide) ?_
            exact wM_move_108 C q1.2 a1 (gA S 5 0) (gA S 5 1) q1.1 ((gA S 5 0) ^^^ (-1)) hf _ _ _ G (lv_sub hl [3, 4, 2, 1, 0] rfl)
        · have hf := if_f (not_not_intro b5) hf
          refine lv_iload_n C.1 C.2.1 qm_M_move_59 rfl (lv_at hl 2 rfl) ?_
          refine lv_ineg C.1 C.2.1 qm_M_move_60 ?_
          refine lv_goto (tgt := 108) C.1 C.2.1 qm_M_move_61 (by decide) ?_
          exact wM_move_108 C q1.2 a1 (gA S 5 0) (gA S 5 1) q1.1 (-(gA S 5 0)) hf _ _ _ G (lv_sub hl [3, 4, 2, 1, 0] rfl)
      · have hf := if_f (not_not_intro b4) hf
        exact wM_move_46 C q1.2 a1 (gA S 5 0) (gA S 5 1) q1.1 hf _ _ _ G (lv_sub hl [3, 4, 2, 1, 0] rfl)
  · have hf := if_f (not_not_intro b2) hf
    refine lv_aload_n C.1 C.2.1 qm_M_move_27 rfl (lv_at hl 3 rfl) ?_
    refine q_get (wf := (mW h K)) (v := .int (q1.2.1 1)) C G qi_M 0 rfl rfl 4 (by decide) qz_835 rfl qm_M_move_28 ?_
    refine lv_goto (tgt := 108) C.1 C.2.1 qm_M_move_31 (by decide) ?_
    exact wM_move_108 C q1.2 a1 (gA S 5 0) (gA S 5 1) q1.1 (q1.2.1 1) hf _ _ _ G (lv_sub hl [3, 4, 2, 1, 0] rfl)
theorem kM_move {l : Launch} {ad : Nat → Nat} {D : va_G} {h : Nat → Nat} {K : Nat → ClassId} {res : qS} {S : qS} {a1 : Int32} (hf : fM_move S a1 = some res) : qMv l qm_M_move qm_M_move_c 9 4 101 D qCl (mT K) ad (mW h K) [.ref (h 0), .int a1] S res := qMv_of (by decide) (Nat.le_of_ble_eq_true rfl) (fun _ _ _ _ _ _ _ _ _ _ C G hl => wM_move C S a1 hf _ _ _ G hl)
set_option maxHeartbeats 4000000 in
set_option maxRecDepth 100000 in
theorem wM_reckon_216 {l : Launch} {D : va_G} {h : Nat → Nat} {K : Nat → ClassId} {res : qS} {p : Program} {e : Env} {s : State} {m : MethodId} {args : Array Value} {below : List Frame} {meth : Method} {c : Code} {A : Nat → Prop} {ad : Nat → Nat} (C : qC p s m args meth c qm_M_reckon_c 11 none qR_M ad) (S : qS) (x4 : Int32) (x8 : Int32) (x9 : Int32) (x10 : Int32) (y1 : Int32) (hf : fM_reckon_216 S x4 x8 x9 x10 y1 = some res) : ∀ (H : Heap) (locs : List Loc) (ls : Array Slot), qG D qCl (mT K) A s (mW h K S) H locs → lv_has ls 11 [(0, .ref (h 0)), (4, .int x4), (8, .int x8), (9, .int x9), (10, .int x10)] → W p l e ({ frames := 4, cells := 0, slots := 0, locals := 101 }) s m args below meth c H locs 0 0 (MQ below (qQv D qCl (mT K) (mW h K) A res) args s 0 0 A) (F0 m 216 ls [.int y1, .ref (h 0)]) := by
  intro H locs ls G hl
  unfold fM_reckon_216 at hf
  refine q_put (wf := (mW h K)) (S' := (pI S 10 y1)) C G qi_M qY_M qy_M qn_M 0 rfl rfl 15 (by decide) qz_846 rfl rfl (Nat.le_of_ble_eq_true rfl) rfl qm_M_reckon_216 (fun H locs G => ?_)
  refine lv_aload_n C.1 C.2.1 qm_M_reckon_219 rfl (lv_at hl 0 rfl) ?_
  refine lv_iload C.1 C.2.1 qm_M_reckon_220 (lv_at hl 2 rfl) ?_
  refine lv_iload C.1 C.2.1 qm_M_reckon_222 (lv_at hl 3 rfl) ?_
  refine lv_iload C.1 C.2.1 qm_M_reckon_224 (lv_at hl 4 rfl) ?_
  obtain ⟨S1, c1, hf⟩ := bnd_s hf
  refine q_callVv (wf := (mW h K)) (n := 3) (As := [.int x8, .int x9, .int x10]) (q0 := 0) (ci := 7) C G hl.1 (kM_mark (l := l) c1) qx_M_113 qm_M_mark_d ⟨by decide, by decide⟩ ⟨Nat.le_refl _, Nat.le_refl _⟩ rfl rfl rfl rfl rfl (Nat.le_of_ble_eq_true rfl) qm_M_reckon_226 (fun H locs G => ?_)
  refine lv_aload_n C.1 C.2.1 qm_M_reckon_229 rfl (lv_at hl 0 rfl) ?_
  refine lv_iload C.1 C.2.1 qm_M_reckon_230 (lv_at hl 1 rfl) ?_
  refine lv_iload C.1 C.2.1 qm_M_reckon_232 (lv_at hl 2 rfl) ?_
  refine lv_iconst (v := 4) C.1 C.2.1 qm_M_reckon_234 (by decide) ?_
  obtain ⟨S2, c2, hf⟩ := bnd_s hf
  refine q_callVv (wf := (mW h K)) (n := 3) (As := [.int x4, .int x8, .int 4]) (q0 := 0) (ci := 7) C G hl.1 (kM_give (l := l) c2) qx_M_117 qm_M_give_d ⟨by decide, by decide⟩ ⟨Nat.le_refl _, Nat.le_refl _⟩ rfl rfl rfl rfl rfl (Nat.le_of_ble_eq_true rfl) qm_M_reckon_235 (fun H locs G => ?_)
  exact q_vret (wf := (mW h K)) C G hf qm_M_reckon_238
set_option maxHeartbeats 4000000 in
set_option maxRecDepth 100000 in
theorem wM_reckon_215 {l : Launch} {D : va_G} {h : Nat → Nat} {K : Nat → ClassId} {res : qS} {p : Program} {e : Env} {s : State} {m : MethodId} {args : Array Value} {below : List Frame} {meth : Method} {c : Code} {A : Nat → Prop} {ad : Nat → Nat} (C : qC p s m args meth c qm_M_reckon_c 11 none qR_M ad) (S : qS) (x4 : Int32) (x8 : Int32) (x9 : Int32) (x10 : Int32) (hf : fM_reckon_215 S x4 x8 x9 x10 = some res) : ∀ (H : Heap) (locs : List Loc) (ls : Array Slot), qG D qCl (mT K) A s (mW h K S) H locs → lv_has ls 11 [(0, .ref (h 0)), (4, .int x4), (8, .int x8), (9, .int x9), (10, .int x10)] → W p l e ({ frames := 4, cells := 0, slots := 0, locals := 101 }) s m args below meth c H locs 0 0 (MQ below (qQv D qCl (mT K) (mW h K) A res) args s 0 0 A) (F0 m 215 ls [.ref (h 0)]) := by
  intro H locs ls G hl
  unfold fM_reckon_215 at hf
  refine lv_iconst (v := 0) C.1 C.2.1 qm_M_reckon_215 (by decide) ?_
  exact wM_reckon_216 C S x4 x8 x9 x10 0 hf _ _ _ G (lv_sub hl [0, 1, 2, 3, 4] rfl)
set_option maxHeartbeats 4000000 in
set_option maxRecDepth 100000 in
theorem wM_reckon_199 {l : Launch} {D : va_G} {h : Nat → Nat} {K : Nat → ClassId} {res : qS} {p : Program} {e : Env} {s : State} {m : MethodId} {args : Array Value} {below : List Frame} {meth : Method} {c : Code} {A : Nat → Prop} {ad : Nat → Nat} (C : qC p s m args meth c qm_M_reckon_c 11 none qR_M ad) (S : qS) (x1 : Int32) (x2 : Int32) (x4 : Int32) (x8 : Int32) (x9 : Int32) (y0 : Int32) (hf : fM_reckon_199 S x1 x2 x4 x8 x9 y0 = some res) : ∀ (H : Heap) (locs : List Loc) (ls : Array Slot), qG D qCl (mT K) A s (mW h K S) H locs → lv_has ls 11 [(0, .ref (h 0)), (1, .int x1), (2, .int x2), (4, .int x4), (8, .int x8), (9, .int x9)] → W p l e ({ frames := 4, cells := 0, slots := 0, locals := 101 }) s m args below meth c H locs 0 0 (MQ below (qQv D qCl (mT K) (mW h K) A res) args s 0 0 A) (F0 m 199 ls [.int y0]) := by
  intro H locs ls G hl
  unfold fM_reckon_199 at hf
  refine lv_istore (lv' := [(10, .int y0), (0, .ref (h 0)), (1, .int x1), (2, .int x2), (4, .int x4), (8, .int x8), (9, .int x9)]) C.1 C.2.1 qm_M_reckon_199 hl (by decide) rfl (fun ls hl => ?_)
  refine lv_aload_n C.1 C.2.1 qm_M_reckon_201 rfl (lv_at hl 1 rfl) ?_
  refine lv_iload_n C.1 C.2.1 qm_M_reckon_202 rfl (lv_at hl 2 rfl) ?_
  refine lv_iconst (v := 3) C.1 C.2.1 qm_M_reckon_203 (by decide) ?_
  refine lv_icmp_ne (tgt := 215) C.1 C.2.1 qm_M_reckon_204 (by decide) (fun b1 => ?_) (fun b1 => ?_)
  · have hf := if_t b1 hf
    exact wM_reckon_215 C S x4 x8 x9 y0 hf _ _ _ G (lv_sub hl [1, 4, 5, 6, 0] rfl)
  · have hf := if_f (not_not_intro b1) hf
    refine lv_iload_n C.1 C.2.1 qm_M_reckon_207 rfl (lv_at hl 3 rfl) ?_
    refine lv_if_ne (tgt := 215) C.1 C.2.1 qm_M_reckon_208 (by decide) (fun b2 => ?_) (fun b2 => ?_)
    · have hf := if_t b2 hf
      exact wM_reckon_215 C S x4 x8 x9 y0 hf _ _ _ G (lv_sub hl [1, 4, 5, 6, 0] rfl)
    · have hf := if_f (not_not_intro b2) hf
      refine lv_iconst (v := 2) C.1 C.2.1 qm_M_reckon_211 (by decide) ?_
      refine lv_goto (tgt := 216) C.1 C.2.1 qm_M_reckon_212 (by decide) ?_
      exact wM_reckon_216 C S x4 x8 x9 y0 2 hf _ _ _ G (lv_sub hl [1, 4, 5, 6, 0] rfl)
set_option maxHeartbeats 4000000 in
set_option maxRecDepth 100000 in
theorem wM_reckon_198 {l : Launch} {D : va_G} {h : Nat → Nat} {K : Nat → ClassId} {res : qS} {p : Program} {e : Env} {s : State} {m : MethodId} {args : Array Value} {below : List Frame} {meth : Method} {c : Code} {A : Nat → Prop} {ad : Nat → Nat} (C : qC p s m args meth c qm_M_reckon_c 11 none qR_M ad) (S : qS) (x1 : Int32) (x2 : Int32) (x4 : Int32) (x8 : Int32) (x9 : Int32) (hf : fM_reckon_198 S x1 x2 x4 x8 x9 = some res) : ∀ (H : Heap) (locs : List Loc) (ls : Array Slot), qG D qCl (mT K) A s (mW h K S) H locs → lv_has ls 11 [(0, .ref (h 0)), (1, .int x1), (2, .int x2), (4, .int x4), (8, .int x8), (9, .int x9)] → W p l e ({ frames := 4, cells := 0, slots := 0, locals := 101 }) s m args below meth c H locs 0 0 (MQ below (qQv D qCl (mT K) (mW h K) A res) args s 0 0 A) (F0 m 198 ls []) := by
  intro H locs ls G hl
  unfold fM_reckon_198 at hf
  refine lv_iconst (v := 0) C.1 C.2.1 qm_M_reckon_198 (by decide) ?_
  exact wM_reckon_199 C S x1 x2 x4 x8 x9 0 hf _ _ _ G (lv_sub hl [0, 1, 2, 3, 4, 5] rfl)
set_option maxHeartbeats 4000000 in
set_option maxRecDepth 100000 in
theorem wM_reckon_153 {l : Launch} {D : va_G} {h : Nat → Nat} {K : Nat → ClassId} {res : qS} {p : Program} {e : Env} {s : State} {m : MethodId} {args : Array Value} {below : List Frame} {meth : Method} {c : Code} {A : Nat → Prop} {ad : Nat → Nat} (C : qC p s m args meth c qm_M_reckon_c 11 none qR_M ad) (S : qS) (x1 : Int32) (x2 : Int32) (x3 : Int32) (x4 : Int32) (x8 : Int32) (y0 : Int32) (hf : fM_reckon_153 S x1 x2 x3 x4 x8 y0 = some res) : ∀ (H : Heap) (locs : List Loc) (ls : Array Slot), qG D qCl (mT K) A s (mW h K S) H locs → lv_has ls 11 [(0, .ref (h 0)), (1, .int x1), (2, .int x2), (3, .int x3), (4, .int x4), (8, .int x8)] → W p l e ({ frames := 4, cells := 0, slots := 0, locals := 101 }) s m args below meth c H locs 0 0 (MQ below (qQv D qCl (mT K) (mW h K) A res) args s 0 0 A) (F0 m 153 ls [.int y0]) := by
  intro H locs ls G hl
  unfold fM_reckon_153 at hf
  refine lv_istore (lv' := [(9, .int y0), (0, .ref (h 0)), (1, .int x1), (2, .int x2), (3, .int x3), (4, .int x4), (8, .int x8)]) C.1 C.2.1 qm_M_reckon_153 hl (by decide) rfl (fun ls hl => ?_)
  refine lv_iload_n C.1 C.2.1 qm_M_reckon_155 rfl (lv_at hl 2 rfl) ?_
  refine lv_if_ne (tgt := 168) C.1 C.2.1 qm_M_reckon_156 (by decide) (fun b1 => ?_) (fun b1 => ?_)
  · have hf := if_t b1 hf
    refine lv_iload_n C.1 C.2.1 qm_M_reckon_168 rfl (lv_at hl 2 rfl) ?_
    refine lv_iconst (v := 1) C.1 C.2.1 qm_M_reckon_169 (by decide) ?_
    refine lv_icmp_ne (tgt := 181) C.1 C.2.1 qm_M_reckon_170 (by decide) (fun b2 => ?_) (fun b2 => ?_)
    · have hf := if_t b2 hf
      refine lv_iload_n C.1 C.2.1 qm_M_reckon_181 rfl (lv_at hl 2 rfl) ?_
      refine lv_iconst (v := 3) C.1 C.2.1 qm_M_reckon_182 (by decide) ?_
      refine lv_icmp_le (tgt := 198) C.1 C.2.1 qm_M_reckon_183 (by decide) (fun b3 => ?_) (fun b3 => ?_)
      · have hf := if_t b3 hf
        exact wM_reckon_198 C S x1 x2 x4 x8 y0 hf _ _ _ G (lv_sub hl [1, 2, 3, 5, 6, 0] rfl)
      · have hf := if_f b3 hf
        refine lv_aload_n C.1 C.2.1 qm_M_reckon_186 rfl (lv_at hl 1 rfl) ?_
        refine lv_iconst (v := 0) C.1 C.2.1 qm_M_reckon_187 (by decide) ?_
        obtain ⟨q4, c4, hf⟩ := bnd_s hf
        refine q_callVi (wf := (mW h K)) (n := 1) (As := [.int 0]) (q0 := 0) (ci := 7) C G hl.1 (kM_has (l := l) c4) qx_M_106 qm_M_has_d ⟨by decide, by decide⟩ ⟨Nat.le_refl _, Nat.le_refl _⟩ rfl rfl rfl rfl rfl (Nat.le_of_ble_eq_true rfl) qm_M_reckon_188 (fun H locs G => ?_)
        refine lv_if_eq (tgt := 198) C.1 C.2.1 qm_M_reckon_191 (by decide) (fun b5 => ?_) (fun b5 => ?_)
        · have hf := if_t b5 hf
          exact wM_reckon_198 C q4.2 x1 x2 x4 x8 y0 hf _ _ _ G (lv_sub hl [1, 2, 3, 5, 6, 0] rfl)
        · have hf := if_f b5 hf
          refine lv_iconst (v := 1) C.1 C.2.1 qm_M_reckon_194 (by decide) ?_
          refine lv_goto (tgt := 199) C.1 C.2.1 qm_M_reckon_195 (by decide) ?_
          exact wM_reckon_199 C q4.2 x1 x2 x4 x8 y0 1 hf _ _ _ G (lv_sub hl [1, 2, 3, 5, 6, 0] rfl)
    · have hf := if_f (not_not_intro b2) hf
      refine lv_iload_n C.1 C.2.1 qm_M_reckon_173 rfl (lv_at hl 4 rfl) ?_
      refine lv_iload_n C.1 C.2.1 qm_M_reckon_174 rfl (lv_at hl 3 rfl) ?_
      obtain ⟨q6, c6, hf⟩ := bnd_s hf
      refine q_callSi (wf := (mW h K)) (n := 2) (As := [.int x3, .int x2]) C G hl.1 (kM_below (l := l) c6) qx_M_52 qm_M_below_d ⟨by decide, by decide⟩ ⟨Nat.le_refl _, Nat.le_refl _⟩ rfl rfl (Nat.le_of_ble_eq_true rfl) qm_M_reckon_175 (fun H locs G => ?_)
      refine lv_goto (tgt := 199) C.1 C.2.1 qm_M_reckon_178 (by decide) ?_
      exact wM_reckon_199 C q6.2 x1 x2 x4 x8 y0 q6.1 hf _ _ _ G (lv_sub hl [1, 2, 3, 5, 6, 0] rfl)
  · have hf := if_f (not_not_intro b1) hf
    refine lv_iload C.1 C.2.1 qm_M_reckon_159 (lv_at hl 6 rfl) ?_
    refine lv_iload_n C.1 C.2.1 qm_M_reckon_161 rfl (lv_at hl 3 rfl) ?_
    obtain ⟨q7, c7, hf⟩ := bnd_s hf
    refine q_callSi (wf := (mW h K)) (n := 2) (As := [.int x8, .int x2]) C G hl.1 (kM_below (l := l) c7) qx_M_52 qm_M_below_d ⟨by decide, by decide⟩ ⟨Nat.le_refl _, Nat.le_refl _⟩ rfl rfl (Nat.le_of_ble_eq_true rfl) qm_M_reckon_162 (fun H locs G => ?_)
    refine lv_goto (tgt := 199) C.1 C.2.1 qm_M_reckon_165 (by decide) ?_
    exact wM_reckon_199 C q7.2 x1 x2 x4 x8 y0 q7.1 hf _ _ _ G (lv_sub hl [1, 2, 3, 5, 6, 0] rfl)
set_option maxHeartbeats 4000000 in
set_option maxRecDepth 100000 in
theorem wM_reckon_152 {l : Launch} {D : va_G} {h : Nat → Nat} {K : Nat → ClassId} {res : qS} {p : Program} {e : Env} {s : State} {m : MethodId} {args : Array Value} {below : List Frame} {meth : Method} {c : Code} {A : Nat → Prop} {ad : Nat → Nat} (C : qC p s m args meth c qm_M_reckon_c 11 none qR_M ad) (S : qS) (x1 : Int32) (x2 : Int32) (x3 : Int32) (x4 : Int32) (x8 : Int32) (hf : fM_reckon_152 S x1 x2 x3 x4 x8 = some res) : ∀ (H : Heap) (locs : List Loc) (ls : Array Slot), qG D qCl (mT K) A s (mW h K S) H locs → lv_has ls 11 [(0, .ref (h 0)), (1, .int x1), (2, .int x2), (3, .int x3), (4, .int x4), (8, .int x8)] → W p l e ({ frames := 4, cells := 0, slots := 0, locals := 101 }) s m args below meth c H locs 0 0 (MQ below (qQv D qCl (mT K) (mW h K) A res) args s 0 0 A) (F0 m 152 ls []) := by
  intro H locs ls G hl
  unfold fM_reckon_152 at hf
  refine lv_iconst (v := 0) C.1 C.2.1 qm_M_reckon_152 (by decide) ?_
  exact wM_reckon_153 C S x1 x2 x3 x4 x8 0 hf _ _ _ G (lv_sub hl [0, 1, 2, 3, 4, 5] rfl)
set_option maxHeartbeats 4000000 in
set_option maxRecDepth 100000 in
theorem wM_reckon_148 {l : Launch} {D : va_G} {h : Nat → Nat} {K : Nat → ClassId} {res : qS} {p : Program} {e : Env} {s : State} {m : MethodId} {args : Array Value} {below : List Frame} {meth : Method} {c : Code} {A : Nat → Prop} {ad : Nat → Nat} (C : qC p s m args meth c qm_M_reckon_c 11 none qR_M ad) (S : qS) (x1 : Int32) (x2 : Int32) (x3 : Int32) (x4 : Int32) (x8 : Int32) (hf : fM_reckon_148 S x1 x2 x3 x4 x8 = some res) : ∀ (H : Heap) (locs : List Loc) (ls : Array Slot), qG D qCl (mT K) A s (mW h K S) H locs → lv_has ls 11 [(0, .ref (h 0)), (1, .int x1), (2, .int x2), (3, .int x3), (4, .int x4), (8, .int x8)] → W p l e ({ frames := 4, cells := 0, slots := 0, locals := 101 }) s m args below meth c H locs 0 0 (MQ below (qQv D qCl (mT K) (mW h K) A res) args s 0 0 A) (F0 m 148 ls []) := by
  intro H locs ls G hl
  unfold fM_reckon_148 at hf
  refine lv_iconst (v := 1) C.1 C.2.1 qm_M_reckon_148 (by decide) ?_
  refine lv_goto (tgt := 153) C.1 C.2.1 qm_M_reckon_149 (by decide) ?_
  exact wM_reckon_153 C S x1 x2 x3 x4 x8 1 hf _ _ _ G (lv_sub hl [0, 1, 2, 3, 4, 5] rfl)
set_option maxHeartbeats 4000000 in
set_option maxRecDepth 100000 in
theorem wM_reckon_112 {l : Launch} {D : va_G} {h : Nat → Nat} {K : Nat → ClassId} {res : qS} {p : Program} {e : Env} {s : State} {m : MethodId} {args : Array Value} {below : List Frame} {meth : Method} {c : Code} {A : Nat → Prop} {ad : Nat → Nat} (C : qC p s m args meth c qm_M_reckon_c 11 none qR_M ad) (S : qS) (x1 : Int32) (x2 : Int32) (x3 : Int32) (x4 : Int32) (x5 : Int32) (x6 : Int64) (x8 : Int32) (hf : fM_reckon_112 S x1 x2 x3 x4 x5 x6 x8 = some res) : ∀ (H : Heap) (locs : List Loc) (ls : Array Slot), qG D qCl (mT K) A s (mW h K S) H locs → lv_has ls 11 [(0, .ref (h 0)), (1, .int x1), (2, .int x2), (3, .int x3), (4, .int x4), (5, .int x5), (6, .long x6), (8, .int x8)] → W p l e ({ frames := 4, cells := 0, slots := 0, locals := 101 }) s m args below meth c H locs 0 0 (MQ below (qQv D qCl (mT K) (mW h K) A res) args s 0 0 A) (F0 m 112 ls []) := by
  intro H locs ls G hl
  unfold fM_reckon_112 at hf
  refine lv_iload_n C.1 C.2.1 qm_M_reckon_112 rfl (lv_at hl 1 rfl) ?_
  refine lv_iconst (v := 3) C.1 C.2.1 qm_M_reckon_113 (by decide) ?_
  refine lv_icmp_ge (tgt := 134) C.1 C.2.1 qm_M_reckon_114 (by decide) (fun b1 => ?_) (fun b1 => ?_)
  · have hf := if_t b1 hf
    refine lv_iload_n C.1 C.2.1 qm_M_reckon_134 rfl (lv_at hl 1 rfl) ?_
    refine lv_iconst (v := 3) C.1 C.2.1 qm_M_reckon_135 (by decide) ?_
    refine lv_icmp_ne (tgt := 152) C.1 C.2.1 qm_M_reckon_136 (by decide) (fun b2 => ?_) (fun b2 => ?_)
    · have hf := if_t b2 hf
      exact wM_reckon_152 C S x1 x2 x3 x4 x8 hf _ _ _ G (lv_sub hl [0, 1, 2, 3, 4, 7] rfl)
    · have hf := if_f (not_not_intro b2) hf
      refine lv_iload_n C.1 C.2.1 qm_M_reckon_139 rfl (lv_at hl 2 rfl) ?_
      refine lv_if_eq (tgt := 148) C.1 C.2.1 qm_M_reckon_140 (by decide) (fun b3 => ?_) (fun b3 => ?_)
      · have hf := if_t b3 hf
        exact wM_reckon_148 C S x1 x2 x3 x4 x8 hf _ _ _ G (lv_sub hl [0, 1, 2, 3, 4, 7] rfl)
      · have hf := if_f b3 hf
        refine lv_iload C.1 C.2.1 qm_M_reckon_143 (lv_at hl 5 rfl) ?_
        refine lv_if_eq (tgt := 152) C.1 C.2.1 qm_M_reckon_145 (by decide) (fun b4 => ?_) (fun b4 => ?_)
        · have hf := if_t b4 hf
          exact wM_reckon_152 C S x1 x2 x3 x4 x8 hf _ _ _ G (lv_sub hl [0, 1, 2, 3, 4, 7] rfl)
        · have hf := if_f b4 hf
          exact wM_reckon_148 C S x1 x2 x3 x4 x8 hf _ _ _ G (lv_sub hl [0, 1, 2, 3, 4, 7] rfl)
  · have hf := if_f b1 hf
    refine lv_lload C.1 C.2.1 qm_M_reckon_117 (lv_at hl 6 rfl) ?_
    refine lv_iload C.1 C.2.1 qm_M_reckon_119 (lv_at hl 7 rfl) ?_
    refine lv_i2l (v := x8.toInt64) C.1 C.2.1 qm_M_reckon_121 rfl ?_
    refine W.lcmp C.1 C.2.1 qm_M_reckon_122 ?_
    refine lv_if_eq (tgt := 130) C.1 C.2.1 qm_M_reckon_123 (by decide) (fun b5 => ?_) (fun b5 => ?_)
    · have hf := if_t b5 hf
      refine lv_iconst (v := 0) C.1 C.2.1 qm_M_reckon_130 (by decide) ?_
      refine lv_goto (tgt := 153) C.1 C.2.1 qm_M_reckon_131 (by decide) ?_
      exact wM_reckon_153 C S x1 x2 x3 x4 x8 0 hf _ _ _ G (lv_sub hl [0, 1, 2, 3, 4, 7] rfl)
    · have hf := if_f b5 hf
      refine lv_iconst (v := 1) C.1 C.2.1 qm_M_reckon_126 (by decide) ?_
      refine lv_goto (tgt := 153) C.1 C.2.1 qm_M_reckon_127 (by decide) ?_
      exact wM_reckon_153 C S x1 x2 x3 x4 x8 1 hf _ _ _ G (lv_sub hl [0, 1, 2, 3, 4, 7] rfl)
set_option maxHeartbeats 4000000 in
set_option maxRecDepth 100000 in
theorem wM_reckon_110 {l : Launch} {D : va_G} {h : Nat → Nat} {K : Nat → ClassId} {res : qS} {p : Program} {e : Env} {s : State} {m : MethodId} {args : Array Value} {below : List Frame} {meth : Method} {c : Code} {A : Nat → Prop} {ad : Nat → Nat} (C : qC p s m args meth c qm_M_reckon_c 11 none qR_M ad) (S : qS) (x1 : Int32) (x2 : Int32) (x3 : Int32) (x4 : Int32) (x5 : Int32) (x6 : Int64) (y0 : Int32) (hf : fM_reckon_110 S x1 x2 x3 x4 x5 x6 y0 = some res) : ∀ (H : Heap) (locs : List Loc) (ls : Array Slot), qG D qCl (mT K) A s (mW h K S) H locs → lv_has ls 11 [(0, .ref (h 0)), (1, .int x1), (2, .int x2), (3, .int x3), (4, .int x4), (5, .int x5), (6, .long x6)] → W p l e ({ frames := 4, cells := 0, slots := 0, locals := 101 }) s m args below meth c H locs 0 0 (MQ below (qQv D qCl (mT K) (mW h K) A res) args s 0 0 A) (F0 m 110 ls [.int y0]) := by
  intro H locs ls G hl
  unfold fM_reckon_110 at hf
  refine lv_istore (lv' := [(8, .int y0), (0, .ref (h 0)), (1, .int x1), (2, .int x2), (3, .int x3), (4, .int x4), (5, .int x5), (6, .long x6)]) C.1 C.2.1 qm_M_reckon_110 hl (by decide) rfl (fun ls hl => ?_)
  exact wM_reckon_112 C S x1 x2 x3 x4 x5 x6 y0 hf _ _ _ G (lv_sub hl [1, 2, 3, 4, 5, 6, 7, 0] rfl)
set_option maxHeartbeats 4000000 in
set_option maxRecDepth 100000 in
theorem wM_reckon_78 {l : Launch} {D : va_G} {h : Nat → Nat} {K : Nat → ClassId} {res : qS} {p : Program} {e : Env} {s : State} {m : MethodId} {args : Array Value} {below : List Frame} {meth : Method} {c : Code} {A : Nat → Prop} {ad : Nat → Nat} (C : qC p s m args meth c qm_M_reckon_c 11 none qR_M ad) (S : qS) (x1 : Int32) (x2 : Int32) (x3 : Int32) (x4 : Int32) (x5 : Int32) (x6 : Int64) (x8 : Int32) (hf : fM_reckon_78 S x1 x2 x3 x4 x5 x6 x8 = some res) : ∀ (H : Heap) (locs : List Loc) (ls : Array Slot), qG D qCl (mT K) A s (mW h K S) H locs → lv_has ls 11 [(0, .ref (h 0)), (1, .int x1), (2, .int x2), (3, .int x3), (4, .int x4), (5, .int x5), (6, .long x6), (8, .int x8)] → W p l e ({ frames := 4, cells := 0, slots := 0, locals := 101 }) s m args below meth c H locs 0 0 (MQ below (qQv D qCl (mT K) (mW h K) A res) args s 0 0 A) (F0 m 78 ls []) := by
  intro H locs ls G hl
  unfold fM_reckon_78 at hf
  refine lv_iload_n C.1 C.2.1 qm_M_reckon_78 rfl (lv_at hl 1 rfl) ?_
  refine lv_iconst (v := 3) C.1 C.2.1 qm_M_reckon_79 (by decide) ?_
  refine lv_icmp_le (tgt := 112) C.1 C.2.1 qm_M_reckon_80 (by decide) (fun b1 => ?_) (fun b1 => ?_)
  · have hf := if_t b1 hf
    exact wM_reckon_112 C S x1 x2 x3 x4 x5 x6 x8 hf _ _ _ G (lv_sub hl [0, 1, 2, 3, 4, 5, 6, 7] rfl)
  · have hf := if_f b1 hf
    refine lv_iload_n C.1 C.2.1 qm_M_reckon_83 rfl (lv_at hl 1 rfl) ?_
    refine lv_iconst (v := 4) C.1 C.2.1 qm_M_reckon_84 (by decide) ?_
    refine lv_icmp_ne (tgt := 94) C.1 C.2.1 qm_M_reckon_85 (by decide) (fun b2 => ?_) (fun b2 => ?_)
    · have hf := if_t b2 hf
      refine lv_iload_n C.1 C.2.1 qm_M_reckon_94 rfl (lv_at hl 1 rfl) ?_
      refine lv_iconst (v := 5) C.1 C.2.1 qm_M_reckon_95 (by decide) ?_
      refine lv_icmp_ne (tgt := 107) C.1 C.2.1 qm_M_reckon_96 (by decide) (fun b3 => ?_) (fun b3 => ?_)
      · have hf := if_t b3 hf
        refine lv_iload_n C.1 C.2.1 qm_M_reckon_107 rfl (lv_at hl 3 rfl) ?_
        refine lv_iload_n C.1 C.2.1 qm_M_reckon_108 rfl (lv_at hl 2 rfl) ?_
        refine lv_ixor C.1 C.2.1 qm_M_reckon_109 ?_
        exact wM_reckon_110 C S x1 x2 x3 x4 x5 x6 (x3 ^^^ x2) hf _ _ _ G (lv_sub hl [0, 1, 2, 3, 4, 5, 6] rfl)
      · have hf := if_f (not_not_intro b3) hf
        refine lv_iload_n C.1 C.2.1 qm_M_reckon_99 rfl (lv_at hl 3 rfl) ?_
        refine lv_iload_n C.1 C.2.1 qm_M_reckon_100 rfl (lv_at hl 2 rfl) ?_
        refine lv_iconst (v := (-1)) C.1 C.2.1 qm_M_reckon_101 (by decide) ?_
        refine lv_ixor C.1 C.2.1 qm_M_reckon_102 ?_
        refine lv_iand C.1 C.2.1 qm_M_reckon_103 ?_
        refine lv_goto (tgt := 110) C.1 C.2.1 qm_M_reckon_104 (by decide) ?_
        exact wM_reckon_110 C S x1 x2 x3 x4 x5 x6 (x3 &&& (x2 ^^^ (-1))) hf _ _ _ G (lv_sub hl [0, 1, 2, 3, 4, 5, 6] rfl)
    · have hf := if_f (not_not_intro b2) hf
      refine lv_iload_n C.1 C.2.1 qm_M_reckon_88 rfl (lv_at hl 3 rfl) ?_
      refine lv_iload_n C.1 C.2.1 qm_M_reckon_89 rfl (lv_at hl 2 rfl) ?_
      refine lv_ior C.1 C.2.1 qm_M_reckon_90 ?_
      refine lv_goto (tgt := 110) C.1 C.2.1 qm_M_reckon_91 (by decide) ?_
      exact wM_reckon_110 C S x1 x2 x3 x4 x5 x6 (x3 ||| x2) hf _ _ _ G (lv_sub hl [0, 1, 2, 3, 4, 5, 6] rfl)
set_option maxHeartbeats 4000000 in
set_option maxRecDepth 100000 in
theorem wM_reckon_76 {l : Launch} {D : va_G} {h : Nat → Nat} {K : Nat → ClassId} {res : qS} {p : Program} {e : Env} {s : State} {m : MethodId} {args : Array Value} {below : List Frame} {meth : Method} {c : Code} {A : Nat → Prop} {ad : Nat → Nat} (C : qC p s m args meth c qm_M_reckon_c 11 none qR_M ad) (S : qS) (x1 : Int32) (x2 : Int32) (x3 : Int32) (x4 : Int32) (x5 : Int32) (x6 : Int64) (y0 : Int32) (hf : fM_reckon_76 S x1 x2 x3 x4 x5 x6 y0 = some res) : ∀ (H : Heap) (locs : List Loc) (ls : Array Slot), qG D qCl (mT K) A s (mW h K S) H locs → lv_has ls 11 [(0, .ref (h 0)), (1, .int x1), (2, .int x2), (3, .int x3), (4, .int x4), (5, .int x5), (6, .long x6)] → W p l e ({ frames := 4, cells := 0, slots := 0, locals := 101 }) s m args below meth c H locs 0 0 (MQ below (qQv D qCl (mT K) (mW h K) A res) args s 0 0 A) (F0 m 76 ls [.int y0]) := by
  intro H locs ls G hl
  unfold fM_reckon_76 at hf
  refine lv_istore (lv' := [(8, .int y0), (0, .ref (h 0)), (1, .int x1), (2, .int x2), (3, .int x3), (4, .int x4), (5, .int x5), (6, .long x6)]) C.1 C.2.1 qm_M_reckon_76 hl (by decide) rfl (fun ls hl => ?_)
  exact wM_reckon_78 C S x1 x2 x3 x4 x5 x6 y0 hf _ _ _ G (lv_sub hl [1, 2, 3, 4, 5, 6, 7, 0] rfl)
set_option maxHeartbeats 4000000 in
set_option maxRecDepth 100000 in
theorem wM_reckon_69 {l : Launch} {D : va_G} {h : Nat → Nat} {K : Nat → ClassId} {res : qS} {p : Program} {e : Env} {s : State} {m : MethodId} {args : Array Value} {below : List Frame} {meth : Method} {c : Code} {A : Nat → Prop} {ad : Nat → Nat} (C : qC p s m args meth c qm_M_reckon_c 11 none qR_M ad) (S : qS) (x1 : Int32) (x2 : Int32) (x3 : Int32) (x4 : Int32) (x5 : Int32) (x6 : Int64) (hf : fM_reckon_69 S x1 x2 x3 x4 x5 x6 = some res) : ∀ (H : Heap) (locs : List Loc) (ls : Array Slot), qG D qCl (mT K) A s (mW h K S) H locs → lv_has ls 11 [(0, .ref (h 0)), (1, .int x1), (2, .int x2), (3, .int x3), (4, .int x4), (5, .int x5), (6, .long x6)] → W p l e ({ frames := 4, cells := 0, slots := 0, locals := 101 }) s m args below meth c H locs 0 0 (MQ below (qQv D qCl (mT K) (mW h K) A res) args s 0 0 A) (F0 m 69 ls []) := by
  intro H locs ls G hl
  unfold fM_reckon_69 at hf
  refine lv_iload_n C.1 C.2.1 qm_M_reckon_69 rfl (lv_at hl 3 rfl) ?_
  refine lv_goto (tgt := 76) C.1 C.2.1 qm_M_reckon_70 (by decide) ?_
  exact wM_reckon_76 C S x1 x2 x3 x4 x5 x6 x3 hf _ _ _ G (lv_sub hl [0, 1, 2, 3, 4, 5, 6] rfl)
set_option maxHeartbeats 4000000 in
set_option maxRecDepth 100000 in
theorem wM_reckon_48 {l : Launch} {D : va_G} {h : Nat → Nat} {K : Nat → ClassId} {res : qS} {p : Program} {e : Env} {s : State} {m : MethodId} {args : Array Value} {below : List Frame} {meth : Method} {c : Code} {A : Nat → Prop} {ad : Nat → Nat} (C : qC p s m args meth c qm_M_reckon_c 11 none qR_M ad) (S : qS) (x1 : Int32) (x2 : Int32) (x3 : Int32) (x4 : Int32) (x5 : Int32) (y0 : Int64) (hf : fM_reckon_48 S x1 x2 x3 x4 x5 y0 = some res) : ∀ (H : Heap) (locs : List Loc) (ls : Array Slot), qG D qCl (mT K) A s (mW h K S) H locs → lv_has ls 11 [(0, .ref (h 0)), (1, .int x1), (2, .int x2), (3, .int x3), (4, .int x4), (5, .int x5)] → W p l e ({ frames := 4, cells := 0, slots := 0, locals := 101 }) s m args below meth c H locs 0 0 (MQ below (qQv D qCl (mT K) (mW h K) A res) args s 0 0 A) (F0 m 48 ls [.long y0]) := by
  intro H locs ls G hl
  unfold fM_reckon_48 at hf
  refine lv_lstore (lv' := [(6, .long y0), (0, .ref (h 0)), (1, .int x1), (2, .int x2), (3, .int x3), (4, .int x4), (5, .int x5)]) C.1 C.2.1 qm_M_reckon_48 hl (by decide) rfl (fun ls hl => ?_)
  refine lv_lload C.1 C.2.1 qm_M_reckon_50 (lv_at hl 0 rfl) ?_
  refine lv_l2i (v := y0.toInt32) C.1 C.2.1 qm_M_reckon_52 rfl ?_
  refine lv_istore (lv' := [(8, .int y0.toInt32), (6, .long y0), (0, .ref (h 0)), (1, .int x1), (2, .int x2), (3, .int x3), (4, .int x4), (5, .int x5)]) C.1 C.2.1 qm_M_reckon_53 hl (by decide) rfl (fun ls hl => ?_)
  refine lv_iload_n C.1 C.2.1 qm_M_reckon_55 rfl (lv_at hl 3 rfl) ?_
  refine lv_iconst (v := 3) C.1 C.2.1 qm_M_reckon_56 (by decide) ?_
  refine lv_icmp_ne (tgt := 78) C.1 C.2.1 qm_M_reckon_57 (by decide) (fun b1 => ?_) (fun b1 => ?_)
  · have hf := if_t b1 hf
    exact wM_reckon_78 C S x1 x2 x3 x4 x5 y0 y0.toInt32 hf _ _ _ G (lv_sub hl [2, 3, 4, 5, 6, 7, 1, 0] rfl)
  · have hf := if_f (not_not_intro b1) hf
    refine lv_iload_n C.1 C.2.1 qm_M_reckon_60 rfl (lv_at hl 4 rfl) ?_
    refine lv_if_eq (tgt := 69) C.1 C.2.1 qm_M_reckon_61 (by decide) (fun b2 => ?_) (fun b2 => ?_)
    · have hf := if_t b2 hf
      exact wM_reckon_69 C S x1 x2 x3 x4 x5 y0 hf _ _ _ G (lv_sub hl [2, 3, 4, 5, 6, 7, 1] rfl)
    · have hf := if_f b2 hf
      refine lv_iload C.1 C.2.1 qm_M_reckon_64 (lv_at hl 7 rfl) ?_
      refine lv_if_eq (tgt := 73) C.1 C.2.1 qm_M_reckon_66 (by decide) (fun b3 => ?_) (fun b3 => ?_)
      · have hf := if_t b3 hf
        refine lv_iload_n C.1 C.2.1 qm_M_reckon_73 rfl (lv_at hl 5 rfl) ?_
        refine lv_iload_n C.1 C.2.1 qm_M_reckon_74 rfl (lv_at hl 4 rfl) ?_
        obtain ⟨b4, hf⟩ := chk_s hf
        refine lv_idiv C.1 C.2.1 qm_M_reckon_75 (bne_iff_ne.mp b4) ?_
        exact wM_reckon_76 C S x1 x2 x3 x4 x5 y0 (x3 / x2) hf _ _ _ G (lv_sub hl [2, 3, 4, 5, 6, 7, 1] rfl)
      · have hf := if_f b3 hf
        exact wM_reckon_69 C S x1 x2 x3 x4 x5 y0 hf _ _ _ G (lv_sub hl [2, 3, 4, 5, 6, 7, 1] rfl)
set_option maxHeartbeats 4000000 in
set_option maxRecDepth 100000 in
theorem wM_reckon_16 {l : Launch} {D : va_G} {h : Nat → Nat} {K : Nat → ClassId} {res : qS} {p : Program} {e : Env} {s : State} {m : MethodId} {args : Array Value} {below : List Frame} {meth : Method} {c : Code} {A : Nat → Prop} {ad : Nat → Nat} (C : qC p s m args meth c qm_M_reckon_c 11 none qR_M ad) (S : qS) (x1 : Int32) (x2 : Int32) (x3 : Int32) (x4 : Int32) (y0 : Int32) (hf : fM_reckon_16 S x1 x2 x3 x4 y0 = some res) : ∀ (H : Heap) (locs : List Loc) (ls : Array Slot), qG D qCl (mT K) A s (mW h K S) H locs → lv_has ls 11 [(0, .ref (h 0)), (1, .int x1), (2, .int x2), (3, .int x3), (4, .int x4)] → W p l e ({ frames := 4, cells := 0, slots := 0, locals := 101 }) s m args below meth c H locs 0 0 (MQ below (qQv D qCl (mT K) (mW h K) A res) args s 0 0 A) (F0 m 16 ls [.int y0]) := by
  intro H locs ls G hl
  unfold fM_reckon_16 at hf
  refine lv_istore (lv' := [(5, .int y0), (0, .ref (h 0)), (1, .int x1), (2, .int x2), (3, .int x3), (4, .int x4)]) C.1 C.2.1 qm_M_reckon_16 hl (by decide) rfl (fun ls hl => ?_)
  refine lv_iload_n C.1 C.2.1 qm_M_reckon_18 rfl (lv_at hl 2 rfl) ?_
  refine lv_if_ne (tgt := 30) C.1 C.2.1 qm_M_reckon_19 (by decide) (fun b1 => ?_) (fun b1 => ?_)
  · have hf := if_t b1 hf
    refine lv_iload_n C.1 C.2.1 qm_M_reckon_30 rfl (lv_at hl 2 rfl) ?_
    refine lv_iconst (v := 1) C.1 C.2.1 qm_M_reckon_31 (by decide) ?_
    refine lv_icmp_ne (tgt := 43) C.1 C.2.1 qm_M_reckon_32 (by decide) (fun b2 => ?_) (fun b2 => ?_)
    · have hf := if_t b2 hf
      refine lv_iload_n C.1 C.2.1 qm_M_reckon_43 rfl (lv_at hl 4 rfl) ?_
      refine lv_i2l (v := x3.toInt64) C.1 C.2.1 qm_M_reckon_44 rfl ?_
      refine lv_iload_n C.1 C.2.1 qm_M_reckon_45 rfl (lv_at hl 3 rfl) ?_
      refine lv_i2l (v := x2.toInt64) C.1 C.2.1 qm_M_reckon_46 rfl ?_
      refine lv_lmul C.1 C.2.1 qm_M_reckon_47 ?_
      exact wM_reckon_48 C S x1 x2 x3 x4 y0 (x3.toInt64 * x2.toInt64) hf _ _ _ G (lv_sub hl [1, 2, 3, 4, 5, 0] rfl)
    · have hf := if_f (not_not_intro b2) hf
      refine lv_iload_n C.1 C.2.1 qm_M_reckon_35 rfl (lv_at hl 4 rfl) ?_
      refine lv_i2l (v := x3.toInt64) C.1 C.2.1 qm_M_reckon_36 rfl ?_
      refine lv_iload_n C.1 C.2.1 qm_M_reckon_37 rfl (lv_at hl 3 rfl) ?_
      refine lv_i2l (v := x2.toInt64) C.1 C.2.1 qm_M_reckon_38 rfl ?_
      refine lv_lsub C.1 C.2.1 qm_M_reckon_39 ?_
      refine lv_goto (tgt := 48) C.1 C.2.1 qm_M_reckon_40 (by decide) ?_
      exact wM_reckon_48 C S x1 x2 x3 x4 y0 (x3.toInt64 - x2.toInt64) hf _ _ _ G (lv_sub hl [1, 2, 3, 4, 5, 0] rfl)
  · have hf := if_f (not_not_intro b1) hf
    refine lv_iload_n C.1 C.2.1 qm_M_reckon_22 rfl (lv_at hl 4 rfl) ?_
    refine lv_i2l (v := x3.toInt64) C.1 C.2.1 qm_M_reckon_23 rfl ?_
    refine lv_iload_n C.1 C.2.1 qm_M_reckon_24 rfl (lv_at hl 3 rfl) ?_
    refine lv_i2l (v := x2.toInt64) C.1 C.2.1 qm_M_reckon_25 rfl ?_
    refine lv_ladd C.1 C.2.1 qm_M_reckon_26 ?_
    refine lv_goto (tgt := 48) C.1 C.2.1 qm_M_reckon_27 (by decide) ?_
    exact wM_reckon_48 C S x1 x2 x3 x4 y0 (x3.toInt64 + x2.toInt64) hf _ _ _ G (lv_sub hl [1, 2, 3, 4, 5, 0] rfl)
set_option maxHeartbeats 4000000 in
set_option maxRecDepth 100000 in
theorem wM_reckon_15 {l : Launch} {D : va_G} {h : Nat → Nat} {K : Nat → ClassId} {res : qS} {p : Program} {e : Env} {s : State} {m : MethodId} {args : Array Value} {below : List Frame} {meth : Method} {c : Code} {A : Nat → Prop} {ad : Nat → Nat} (C : qC p s m args meth c qm_M_reckon_c 11 none qR_M ad) (S : qS) (x1 : Int32) (x2 : Int32) (x3 : Int32) (x4 : Int32) (hf : fM_reckon_15 S x1 x2 x3 x4 = some res) : ∀ (H : Heap) (locs : List Loc) (ls : Array Slot), qG D qCl (mT K) A s (mW h K S) H locs → lv_has ls 11 [(0, .ref (h 0)), (1, .int x1), (2, .int x2), (3, .int x3), (4, .int x4)] → W p l e ({ frames := 4, cells := 0, slots := 0, locals := 101 }) s m args below meth c H locs 0 0 (MQ below (qQv D qCl (mT K) (mW h K) A res) args s 0 0 A) (F0 m 15 ls []) := by
  intro H locs ls G hl
  unfold fM_reckon_15 at hf
  refine lv_iconst (v := 0) C.1 C.2.1 qm_M_reckon_15 (by decide) ?_
  exact wM_reckon_16 C S x1 x2 x3 x4 0 hf _ _ _ G (lv_sub hl [0, 1, 2, 3, 4] rfl)
set_option maxHeartbeats 4000000 in
set_option maxRecDepth 100000 in
theorem wM_reckon {l : Launch} {D : va_G} {h : Nat → Nat} {K : Nat → ClassId} {res : qS} {p : Program} {e : Env} {s : State} {m : MethodId} {args : Array Value} {below : List Frame} {meth : Method} {c : Code} {A : Nat → Prop} {ad : Nat → Nat} (C : qC p s m args meth c qm_M_reckon_c 11 none qR_M ad) (S : qS) (a1 : Int32) (a2 : Int32) (a3 : Int32) (a4 : Int32) (hf : fM_reckon S a1 a2 a3 a4 = some res) : ∀ (H : Heap) (locs : List Loc) (ls : Array Slot), qG D qCl (mT K) A s (mW h K S) H locs → lv_has ls 11 [(0, .ref (h 0)), (1, .int a1), (2, .int a2), (3, .int a3), (4, .int a4)] → W p l e ({ frames := 4, cells := 0, slots := 0, locals := 101 }) s m args below meth c H locs 0 0 (MQ below (qQv D qCl (mT K) (mW h K) A res) args s 0 0 A) (F0 m 0 ls []) := by
  intro H locs ls G hl
  unfold fM_reckon at hf
  refine lv_iload_n C.1 C.2.1 qm_M_reckon_0 rfl (lv_at hl 3 rfl) ?_
  refine lv_ldc (own := "QuadModeModel") (v := (-2147483648)) C.1 C.2.1 C.2.2.2.1 (C.2.2.2.2.1 _ qz_987) qm_M_reckon_1 ?_
  refine lv_icmp_ne (tgt := 15) C.1 C.2.1 qm_M_reckon_3 (by decide) (fun b1 => ?_) (fun b1 => ?_)
  · have hf := if_t b1 hf
    exact wM_reckon_15 C S a1 a2 a3 a4 hf _ _ _ G (lv_sub hl [0, 1, 2, 3, 4] rfl)
  · have hf := if_f (not_not_intro b1) hf
    refine lv_iload_n C.1 C.2.1 qm_M_reckon_6 rfl (lv_at hl 2 rfl) ?_
    refine lv_iconst (v := (-1)) C.1 C.2.1 qm_M_reckon_7 (by decide) ?_
    refine lv_icmp_ne (tgt := 15) C.1 C.2.1 qm_M_reckon_8 (by decide) (fun b2 => ?_) (fun b2 => ?_)
    · have hf := if_t b2 hf
      exact wM_reckon_15 C S a1 a2 a3 a4 hf _ _ _ G (lv_sub hl [0, 1, 2, 3, 4] rfl)
    · have hf := if_f (not_not_intro b2) hf
      refine lv_iconst (v := 1) C.1 C.2.1 qm_M_reckon_11 (by decide) ?_
      refine lv_goto (tgt := 16) C.1 C.2.1 qm_M_reckon_12 (by decide) ?_
      exact wM_reckon_16 C S a1 a2 a3 a4 1 hf _ _ _ G (lv_sub hl [0, 1, 2, 3, 4] rfl)
theorem kM_reckon {l : Launch} {ad : Nat → Nat} {D : va_G} {h : Nat → Nat} {K : Nat → ClassId} {res : qS} {S : qS} {a1 : Int32} {a2 : Int32} {a3 : Int32} {a4 : Int32} (hf : fM_reckon S a1 a2 a3 a4 = some res) : qMv l qm_M_reckon qm_M_reckon_c 11 4 101 D qCl (mT K) ad (mW h K) [.ref (h 0), .int a1, .int a2, .int a3, .int a4] S res := qMv_of (by decide) (Nat.le_of_ble_eq_true rfl) (fun _ _ _ _ _ _ _ _ _ _ C G hl => wM_reckon C S a1 a2 a3 a4 hf _ _ _ G hl)
set_option maxHeartbeats 4000000 in
set_option maxRecDepth 100000 in
theorem wM_shift_72 {l : Launch} {D : va_G} {h : Nat → Nat} {K : Nat → ClassId} {res : qS} {p : Program} {e : Env} {s : State} {m : MethodId} {args : Array Value} {below : List Frame} {meth : Method} {c : Code} {A : Nat → Prop} {ad : Nat → Nat} (C : qC p s m args meth c qm_M_shift_c 5 none qR_M ad) (S : qS) (x3 : Int32) (y0 : Int32) (hf : fM_shift_72 S x3 y0 = some res) : ∀ (H : Heap) (locs : List Loc) (ls : Array Slot), qG D qCl (mT K) A s (mW h K S) H locs → lv_has ls 5 [(0, .ref (h 0)), (3, .int x3)] → W p l e ({ frames := 4, cells := 0, slots := 0, locals := 101 }) s m args below meth c H locs 0 0 (MQ below (qQv D qCl (mT K) (mW h K) A res) args s 0 0 A) (F0 m 72 ls [.int y0]) := by
  intro H locs ls G hl
  unfold fM_shift_72 at hf
  refine lv_istore (lv' := [(4, .int y0), (0, .ref (h 0)), (3, .int x3)]) C.1 C.2.1 qm_M_shift_72 hl (by decide) rfl (fun ls hl => ?_)
  refine lv_aload_n C.1 C.2.1 qm_M_shift_74 rfl (lv_at hl 1 rfl) ?_
  refine lv_iload_n C.1 C.2.1 qm_M_shift_75 rfl (lv_at hl 2 rfl) ?_
  refine lv_iload C.1 C.2.1 qm_M_shift_76 (lv_at hl 0 rfl) ?_
  refine lv_iconst (v := 0) C.1 C.2.1 qm_M_shift_78 (by decide) ?_
  obtain ⟨S1, c1, hf⟩ := bnd_s hf
  refine q_callVv (wf := (mW h K)) (n := 3) (As := [.int x3, .int y0, .int 0]) (q0 := 0) (ci := 7) C G hl.1 (kM_mark (l := l) c1) qx_M_113 qm_M_mark_d ⟨by decide, by decide⟩ ⟨Nat.le_refl _, Nat.le_refl _⟩ rfl rfl rfl rfl rfl (Nat.le_of_ble_eq_true rfl) qm_M_shift_79 (fun H locs G => ?_)
  refine lv_aload_n C.1 C.2.1 qm_M_shift_82 rfl (lv_at hl 1 rfl) ?_
  refine lv_iconst (v := 2) C.1 C.2.1 qm_M_shift_83 (by decide) ?_
  refine lv_iload_n C.1 C.2.1 qm_M_shift_84 rfl (lv_at hl 2 rfl) ?_
  refine lv_iconst (v := 4) C.1 C.2.1 qm_M_shift_85 (by decide) ?_
  obtain ⟨S2, c2, hf⟩ := bnd_s hf
  refine q_callVv (wf := (mW h K)) (n := 3) (As := [.int 2, .int x3, .int 4]) (q0 := 0) (ci := 7) C G hl.1 (kM_give (l := l) c2) qx_M_117 qm_M_give_d ⟨by decide, by decide⟩ ⟨Nat.le_refl _, Nat.le_refl _⟩ rfl rfl rfl rfl rfl (Nat.le_of_ble_eq_true rfl) qm_M_shift_86 (fun H locs G => ?_)
  exact q_vret (wf := (mW h K)) C G hf qm_M_shift_89
set_option maxHeartbeats 4000000 in
set_option maxRecDepth 100000 in
theorem wM_shift_71 {l : Launch} {D : va_G} {h : Nat → Nat} {K : Nat → ClassId} {res : qS} {p : Program} {e : Env} {s : State} {m : MethodId} {args : Array Value} {below : List Frame} {meth : Method} {c : Code} {A : Nat → Prop} {ad : Nat → Nat} (C : qC p s m args meth c qm_M_shift_c 5 none qR_M ad) (S : qS) (x3 : Int32) (hf : fM_shift_71 S x3 = some res) : ∀ (H : Heap) (locs : List Loc) (ls : Array Slot), qG D qCl (mT K) A s (mW h K S) H locs → lv_has ls 5 [(0, .ref (h 0)), (3, .int x3)] → W p l e ({ frames := 4, cells := 0, slots := 0, locals := 101 }) s m args below meth c H locs 0 0 (MQ below (qQv D qCl (mT K) (mW h K) A res) args s 0 0 A) (F0 m 71 ls []) := by
  intro H locs ls G hl
  unfold fM_shift_71 at hf
  refine lv_iconst (v := 0) C.1 C.2.1 qm_M_shift_71 (by decide) ?_
  exact wM_shift_72 C S x3 0 hf _ _ _ G (lv_sub hl [0, 1] rfl)
set_option maxHeartbeats 4000000 in
set_option maxRecDepth 100000 in
theorem wM_shift_37 {l : Launch} {D : va_G} {h : Nat → Nat} {K : Nat → ClassId} {res : qS} {p : Program} {e : Env} {s : State} {m : MethodId} {args : Array Value} {below : List Frame} {meth : Method} {c : Code} {A : Nat → Prop} {ad : Nat → Nat} (C : qC p s m args meth c qm_M_shift_c 5 none qR_M ad) (S : qS) (x1 : Int32) (x2 : Int32) (y0 : Int32) (hf : fM_shift_37 S x1 x2 y0 = some res) : ∀ (H : Heap) (locs : List Loc) (ls : Array Slot), qG D qCl (mT K) A s (mW h K S) H locs → lv_has ls 5 [(0, .ref (h 0)), (1, .int x1), (2, .int x2)] → W p l e ({ frames := 4, cells := 0, slots := 0, locals := 101 }) s m args below meth c H locs 0 0 (MQ below (qQv D qCl (mT K) (mW h K) A res) args s 0 0 A) (F0 m 37 ls [.int y0]) := by
  intro H locs ls G hl
  unfold fM_shift_37 at hf
  refine lv_istore_n (lv' := [(3, .int y0), (0, .ref (h 0)), (1, .int x1), (2, .int x2)]) C.1 C.2.1 qm_M_shift_37 rfl hl (by decide) rfl (fun ls hl => ?_)
  refine lv_iload_n C.1 C.2.1 qm_M_shift_38 rfl (lv_at hl 2 rfl) ?_
  refine lv_bipush (v := 31) C.1 C.2.1 qm_M_shift_39 (by decide) ?_
  refine lv_icmp_le (tgt := 56) C.1 C.2.1 qm_M_shift_41 (by decide) (fun b1 => ?_) (fun b1 => ?_)
  · have hf := if_t b1 hf
    refine lv_iload_n C.1 C.2.1 qm_M_shift_56 rfl (lv_at hl 2 rfl) ?_
    refine lv_if_le (tgt := 71) C.1 C.2.1 qm_M_shift_57 (by decide) (fun b2 => ?_) (fun b2 => ?_)
    · have hf := if_t b2 hf
      exact wM_shift_71 C S y0 hf _ _ _ G (lv_sub hl [1, 0] rfl)
    · have hf := if_f b2 hf
      refine lv_iload_n C.1 C.2.1 qm_M_shift_60 rfl (lv_at hl 0 rfl) ?_
      refine lv_iload_n C.1 C.2.1 qm_M_shift_61 rfl (lv_at hl 2 rfl) ?_
      refine lv_ishr C.1 C.2.1 qm_M_shift_62 ?_
      refine lv_iload_n C.1 C.2.1 qm_M_shift_63 rfl (lv_at hl 3 rfl) ?_
      refine lv_icmp_eq (tgt := 71) C.1 C.2.1 qm_M_shift_64 (by decide) (fun b3 => ?_) (fun b3 => ?_)
      · have hf := if_t b3 hf
        exact wM_shift_71 C S y0 hf _ _ _ G (lv_sub hl [1, 0] rfl)
      · have hf := if_f b3 hf
        refine lv_iconst (v := 1) C.1 C.2.1 qm_M_shift_67 (by decide) ?_
        refine lv_goto (tgt := 72) C.1 C.2.1 qm_M_shift_68 (by decide) ?_
        exact wM_shift_72 C S y0 1 hf _ _ _ G (lv_sub hl [1, 0] rfl)
  · have hf := if_f b1 hf
    refine lv_iload_n C.1 C.2.1 qm_M_shift_44 rfl (lv_at hl 3 rfl) ?_
    refine lv_if_eq (tgt := 52) C.1 C.2.1 qm_M_shift_45 (by decide) (fun b4 => ?_) (fun b4 => ?_)
    · have hf := if_t b4 hf
      refine lv_iconst (v := 0) C.1 C.2.1 qm_M_shift_52 (by decide) ?_
      refine lv_goto (tgt := 72) C.1 C.2.1 qm_M_shift_53 (by decide) ?_
      exact wM_shift_72 C S y0 0 hf _ _ _ G (lv_sub hl [1, 0] rfl)
    · have hf := if_f b4 hf
      refine lv_iconst (v := 1) C.1 C.2.1 qm_M_shift_48 (by decide) ?_
      refine lv_goto (tgt := 72) C.1 C.2.1 qm_M_shift_49 (by decide) ?_
      exact wM_shift_72 C S y0 1 hf _ _ _ G (lv_sub hl [1, 0] rfl)
set_option maxHeartbeats 4000000 in
set_option maxRecDepth 100000 in
theorem wM_shift {l : Launch} {D : va_G} {h : Nat → Nat} {K : Nat → ClassId} {res : qS} {p : Program} {e : Env} {s : State} {m : MethodId} {args : Array Value} {below : List Frame} {meth : Method} {c : Code} {A : Nat → Prop} {ad : Nat → Nat} (C : qC p s m args meth c qm_M_shift_c 5 none qR_M ad) (S : qS) (a1 : Int32) (a2 : Int32) (hf : fM_shift S a1 a2 = some res) : ∀ (H : Heap) (locs : List Loc) (ls : Array Slot), qG D qCl (mT K) A s (mW h K S) H locs → lv_has ls 5 [(0, .ref (h 0)), (1, .int a1), (2, .int a2)] → W p l e ({ frames := 4, cells := 0, slots := 0, locals := 101 }) s m args below meth c H locs 0 0 (MQ below (qQv D qCl (mT K) (mW h K) A res) args s 0 0 A) (F0 m 0 ls []) := by
  intro H locs ls G hl
  unfold fM_shift at hf
  refine lv_iload_n C.1 C.2.1 qm_M_shift_0 rfl (lv_at hl 1 rfl) ?_
  refine lv_bipush (v := 31) C.1 C.2.1 qm_M_shift_1 (by decide) ?_
  refine lv_icmp_le (tgt := 10) C.1 C.2.1 qm_M_shift_3 (by decide) (fun b1 => ?_) (fun b1 => ?_)
  · have hf := if_t b1 hf
    refine lv_iload_n C.1 C.2.1 qm_M_shift_10 rfl (lv_at hl 1 rfl) ?_
    refine lv_if_lt (tgt := 20) C.1 C.2.1 qm_M_shift_11 (by decide) (fun b2 => ?_) (fun b2 => ?_)
    · have hf := if_t b2 hf
      refine lv_iload_n C.1 C.2.1 qm_M_shift_20 rfl (lv_at hl 1 rfl) ?_
      refine lv_bipush (v := (-31)) C.1 C.2.1 qm_M_shift_21 (by decide) ?_
      refine lv_icmp_ge (tgt := 33) C.1 C.2.1 qm_M_shift_23 (by decide) (fun b3 => ?_) (fun b3 => ?_)
      · have hf := if_t b3 hf
        refine lv_iload_n C.1 C.2.1 qm_M_shift_33 rfl (lv_at hl 2 rfl) ?_
        refine lv_iload_n C.1 C.2.1 qm_M_shift_34 rfl (lv_at hl 1 rfl) ?_
        refine lv_ineg C.1 C.2.1 qm_M_shift_35 ?_
        refine lv_ishr C.1 C.2.1 qm_M_shift_36 ?_
        exact wM_shift_37 C S a1 a2 (a2 >>> ((-a1) &&& 31)) hf _ _ _ G (lv_sub hl [0, 1, 2] rfl)
      · have hf := if_f b3 hf
        refine lv_iload_n C.1 C.2.1 qm_M_shift_26 rfl (lv_at hl 2 rfl) ?_
        refine lv_bipush (v := 31) C.1 C.2.1 qm_M_shift_27 (by decide) ?_
        refine lv_ishr C.1 C.2.1 qm_M_shift_29 ?_
        refine lv_goto (tgt := 37) C.1 C.2.1 qm_M_shift_30 (by decide) ?_
        exact wM_shift_37 C S a1 a2 (a2 >>> ((31 : Int32) &&& 31)) hf _ _ _ G (lv_sub hl [0, 1, 2] rfl)
    · have hf := if_f b2 hf
      refine lv_iload_n C.1 C.2.1 qm_M_shift_14 rfl (lv_at hl 2 rfl) ?_
      refine lv_iload_n C.1 C.2.1 qm_M_shift_15 rfl (lv_at hl 1 rfl) ?_
      refine lv_ishl C.1 C.2.1 qm_M_shift_16 ?_
      refine lv_goto (tgt := 37) C.1 C.2.1 qm_M_shift_17 (by decide) ?_
      exact wM_shift_37 C S a1 a2 (a2 <<< (a1 &&& 31)) hf _ _ _ G (lv_sub hl [0, 1, 2] rfl)
  · have hf := if_f b1 hf
    refine lv_iconst (v := 0) C.1 C.2.1 qm_M_shift_6 (by decide) ?_
    refine lv_goto (tgt := 37) C.1 C.2.1 qm_M_shift_7 (by decide) ?_
    exact wM_shift_37 C S a1 a2 0 hf _ _ _ G (lv_sub hl [0, 1, 2] rfl)
theorem kM_shift {l : Launch} {ad : Nat → Nat} {D : va_G} {h : Nat → Nat} {K : Nat → ClassId} {res : qS} {S : qS} {a1 : Int32} {a2 : Int32} (hf : fM_shift S a1 a2 = some res) : qMv l qm_M_shift qm_M_shift_c 5 4 101 D qCl (mT K) ad (mW h K) [.ref (h 0), .int a1, .int a2] S res := qMv_of (by decide) (Nat.le_of_ble_eq_true rfl) (fun _ _ _ _ _ _ _ _ _ _ C G hl => wM_shift C S a1 a2 hf _ _ _ G hl)
set_option maxHeartbeats 4000000 in
set_option maxRecDepth 100000 in
theorem wM_go_63 {l : Launch} {D : va_G} {h : Nat → Nat} {K : Nat → ClassId} {res : qS} {p : Program} {e : Env} {s : State} {m : MethodId} {args : Array Value} {below : List Frame} {meth : Method} {c : Code} {A : Nat → Prop} {ad : Nat → Nat} (C : qC p s m args meth c qm_M_go_c 4 none qR_M ad) (S : qS) (x3 : Int32) (hf : fM_go_63 S x3 = some res) : ∀ (H : Heap) (locs : List Loc) (ls : Array Slot), qG D qCl (mT K) A s (mW h K S) H locs → lv_has ls 4 [(0, .ref (h 0)), (3, .int x3)] → W p l e ({ frames := 4, cells := 0, slots := 0, locals := 99 }) s m args below meth c H locs 0 0 (MQ below (qQv D qCl (mT K) (mW h K) A res) args s 0 0 A) (F0 m 63 ls []) := by
  intro H locs ls G hl
  unfold fM_go_63 at hf
  refine lv_aload_n C.1 C.2.1 qm_M_go_63 rfl (lv_at hl 0 rfl) ?_
  refine q_get (wf := (mW h K)) (v := .ref (h 2)) C G qi_M 0 rfl rfl 2 (by decide) qz_833 rfl qm_M_go_64 ?_
  refine lv_bipush (v := 15) C.1 C.2.1 qm_M_go_67 (by decide) ?_
  refine lv_iload_n C.1 C.2.1 qm_M_go_69 rfl (lv_at hl 1 rfl) ?_
  refine q_iast (wf := (mW h K)) (S' := (pA S 1 15 x3)) C G 2 1 rfl rfl (by decide) rfl qm_M_go_70 (fun H locs G => ?_)
  exact q_vret (wf := (mW h K)) C G hf qm_M_go_71
set_option maxHeartbeats 4000000 in
set_option maxRecDepth 100000 in
theorem wM_go_52 {l : Launch} {D : va_G} {h : Nat → Nat} {K : Nat → ClassId} {res : qS} {p : Program} {e : Env} {s : State} {m : MethodId} {args : Array Value} {below : List Frame} {meth : Method} {c : Code} {A : Nat → Prop} {ad : Nat → Nat} (C : qC p s m args meth c qm_M_go_c 4 none qR_M ad) (S : qS) (x3 : Int32) (hf : fM_go_52 S x3 = some res) : ∀ (H : Heap) (locs : List Loc) (ls : Array Slot), qG D qCl (mT K) A s (mW h K S) H locs → lv_has ls 4 [(0, .ref (h 0)), (3, .int x3)] → W p l e ({ frames := 4, cells := 0, slots := 0, locals := 99 }) s m args below meth c H locs 0 0 (MQ below (qQv D qCl (mT K) (mW h K) A res) args s 0 0 A) (F0 m 52 ls []) := by
  intro H locs ls G hl
  unfold fM_go_52 at hf
  refine lv_aload_n C.1 C.2.1 qm_M_go_52 rfl (lv_at hl 0 rfl) ?_
  refine lv_aload_n C.1 C.2.1 qm_M_go_53 rfl (lv_at hl 0 rfl) ?_
  refine q_get (wf := (mW h K)) (v := .ref (h 2)) C G qi_M 0 rfl rfl 2 (by decide) qz_833 rfl qm_M_go_54 ?_
  refine lv_bipush (v := 15) C.1 C.2.1 qm_M_go_57 (by decide) ?_
  refine q_iald (wf := (mW h K)) C G 2 1 rfl rfl (by decide) qm_M_go_59 ?_
  obtain ⟨S1, c1, hf⟩ := bnd_s hf
  refine q_callVv (wf := (mW h K)) (n := 1) (As := [.int (gA S 1 15)]) (q0 := 0) (ci := 7) C G hl.1 (kM_push (l := l) c1) qx_M_121 qm_M_push_d ⟨by decide, by decide⟩ ⟨Nat.le_refl _, Nat.le_refl _⟩ rfl rfl rfl rfl rfl (Nat.le_of_ble_eq_true rfl) qm_M_go_60 (fun H locs G => ?_)
  exact wM_go_63 C S1 x3 hf _ _ _ G (lv_sub hl [0, 1] rfl)
set_option maxHeartbeats 4000000 in
set_option maxRecDepth 100000 in
theorem wM_go_39 {l : Launch} {D : va_G} {h : Nat → Nat} {K : Nat → ClassId} {res : qS} {p : Program} {e : Env} {s : State} {m : MethodId} {args : Array Value} {below : List Frame} {meth : Method} {c : Code} {A : Nat → Prop} {ad : Nat → Nat} (C : qC p s m args meth c qm_M_go_c 4 none qR_M ad) (S : qS) (x1 : Int32) (y0 : Int32) (hf : fM_go_39 S x1 y0 = some res) : ∀ (H : Heap) (locs : List Loc) (ls : Array Slot), qG D qCl (mT K) A s (mW h K S) H locs → lv_has ls 4 [(0, .ref (h 0)), (1, .int x1)] → W p l e ({ frames := 4, cells := 0, slots := 0, locals := 99 }) s m args below meth c H locs 0 0 (MQ below (qQv D qCl (mT K) (mW h K) A res) args s 0 0 A) (F0 m 39 ls [.int y0]) := by
  intro H locs ls G hl
  unfold fM_go_39 at hf
  refine lv_istore_n (lv' := [(3, .int y0), (0, .ref (h 0)), (1, .int x1)]) C.1 C.2.1 qm_M_go_39 rfl hl (by decide) rfl (fun ls hl => ?_)
  refine lv_iload_n C.1 C.2.1 qm_M_go_40 rfl (lv_at hl 2 rfl) ?_
  refine lv_bipush (v := 47) C.1 C.2.1 qm_M_go_41 (by decide) ?_
  refine lv_icmp_eq (tgt := 52) C.1 C.2.1 qm_M_go_43 (by decide) (fun b1 => ?_) (fun b1 => ?_)
  · have hf := if_t b1 hf
    exact wM_go_52 C S y0 hf _ _ _ G (lv_sub hl [1, 0] rfl)
  · have hf := if_f b1 hf
    refine lv_iload_n C.1 C.2.1 qm_M_go_46 rfl (lv_at hl 2 rfl) ?_
    refine lv_bipush (v := 49) C.1 C.2.1 qm_M_go_47 (by decide) ?_
    refine lv_icmp_ne (tgt := 63) C.1 C.2.1 qm_M_go_49 (by decide) (fun b2 => ?_) (fun b2 => ?_)
    · have hf := if_t b2 hf
      exact wM_go_63 C S y0 hf _ _ _ G (lv_sub hl [1, 0] rfl)
    · have hf := if_f (not_not_intro b2) hf
      exact wM_go_52 C S y0 hf _ _ _ G (lv_sub hl [1, 0] rfl)
set_option maxHeartbeats 4000000 in
set_option maxRecDepth 100000 in
theorem wM_go_11 {l : Launch} {D : va_G} {h : Nat → Nat} {K : Nat → ClassId} {res : qS} {p : Program} {e : Env} {s : State} {m : MethodId} {args : Array Value} {below : List Frame} {meth : Method} {c : Code} {A : Nat → Prop} {ad : Nat → Nat} (C : qC p s m args meth c qm_M_go_c 4 none qR_M ad) (S : qS) (x1 : Int32) (y0 : Int32) (hf : fM_go_11 S x1 y0 = some res) : ∀ (H : Heap) (locs : List Loc) (ls : Array Slot), qG D qCl (mT K) A s (mW h K S) H locs → lv_has ls 4 [(0, .ref (h 0)), (1, .int x1)] → W p l e ({ frames := 4, cells := 0, slots := 0, locals := 99 }) s m args below meth c H locs 0 0 (MQ below (qQv D qCl (mT K) (mW h K) A res) args s 0 0 A) (F0 m 11 ls [.int y0]) := by
  intro H locs ls G hl
  unfold fM_go_11 at hf
  refine lv_istore_n (lv' := [(2, .int y0), (0, .ref (h 0)), (1, .int x1)]) C.1 C.2.1 qm_M_go_11 rfl hl (by decide) rfl (fun ls hl => ?_)
  refine lv_iload_n C.1 C.2.1 qm_M_go_12 rfl (lv_at hl 0 rfl) ?_
  refine lv_if_eq (tgt := 33) C.1 C.2.1 qm_M_go_13 (by decide) (fun b1 => ?_) (fun b1 => ?_)
  · have hf := if_t b1 hf
    refine lv_aload_n C.1 C.2.1 qm_M_go_33 rfl (lv_at hl 1 rfl) ?_
    refine q_get (wf := (mW h K)) (v := .ref (h 8)) C G qi_M 0 rfl rfl 18 (by decide) qz_849 rfl qm_M_go_34 ?_
    refine lv_iconst (v := 0) C.1 C.2.1 qm_M_go_37 (by decide) ?_
    refine q_iald (wf := (mW h K)) C G 8 7 rfl rfl (by decide) qm_M_go_38 ?_
    exact wM_go_39 C S x1 (gA S 7 0) hf _ _ _ G (lv_sub hl [1, 2] rfl)
  · have hf := if_f b1 hf
    refine lv_aload_n C.1 C.2.1 qm_M_go_16 rfl (lv_at hl 1 rfl) ?_
    refine q_get (wf := (mW h K)) (v := .ref (h 2)) C G qi_M 0 rfl rfl 2 (by decide) qz_833 rfl qm_M_go_17 ?_
    refine lv_bipush (v := 15) C.1 C.2.1 qm_M_go_20 (by decide) ?_
    refine q_iald (wf := (mW h K)) C G 2 1 rfl rfl (by decide) qm_M_go_22 ?_
    refine lv_aload_n C.1 C.2.1 qm_M_go_23 rfl (lv_at hl 1 rfl) ?_
    refine q_get (wf := (mW h K)) (v := .ref (h 6)) C G qi_M 0 rfl rfl 16 (by decide) qz_847 rfl qm_M_go_24 ?_
    refine lv_iconst (v := 0) C.1 C.2.1 qm_M_go_27 (by decide) ?_
    refine q_iald (wf := (mW h K)) C G 6 5 rfl rfl (by decide) qm_M_go_28 ?_
    refine lv_iadd C.1 C.2.1 qm_M_go_29 ?_
    refine lv_goto (tgt := 39) C.1 C.2.1 qm_M_go_30 (by decide) ?_
    exact wM_go_39 C S x1 ((gA S 1 15) + (gA S 5 0)) hf _ _ _ G (lv_sub hl [1, 2] rfl)
set_option maxHeartbeats 4000000 in
set_option maxRecDepth 100000 in
theorem wM_go {l : Launch} {D : va_G} {h : Nat → Nat} {K : Nat → ClassId} {res : qS} {p : Program} {e : Env} {s : State} {m : MethodId} {args : Array Value} {below : List Frame} {meth : Method} {c : Code} {A : Nat → Prop} {ad : Nat → Nat} (C : qC p s m args meth c qm_M_go_c 4 none qR_M ad) (S : qS) (a1 : Int32) (hf : fM_go S a1 = some res) : ∀ (H : Heap) (locs : List Loc) (ls : Array Slot), qG D qCl (mT K) A s (mW h K S) H locs → lv_has ls 4 [(0, .ref (h 0)), (1, .int a1)] → W p l e ({ frames := 4, cells := 0, slots := 0, locals := 99 }) s m args below meth c H locs 0 0 (MQ below (qQv D qCl (mT K) (mW h K) A res) args s 0 0 A) (F0 m 0 ls []) := by
  intro H locs ls G hl
  unfold fM_go at hf
  refine lv_iload_n C.1 C.2.1 qm_M_go_0 rfl (lv_at hl 1 rfl) ?_
  refine lv_bipush (v := 47) C.1 C.2.1 qm_M_go_1 (by decide) ?_
  refine lv_icmp_le (tgt := 10) C.1 C.2.1 qm_M_go_3 (by decide) (fun b1 => ?_) (fun b1 => ?_)
  · have hf := if_t b1 hf
    refine lv_iconst (v := 0) C.1 C.2.1 qm_M_go_10 (by decide) ?_
    exact wM_go_11 C S a1 0 hf _ _ _ G (lv_sub hl [0, 1] rfl)
  · have hf := if_f b1 hf
    refine lv_iconst (v := 1) C.1 C.2.1 qm_M_go_6 (by decide) ?_
    refine lv_goto (tgt := 11) C.1 C.2.1 qm_M_go_7 (by decide) ?_
    exact wM_go_11 C S a1 1 hf _ _ _ G (lv_sub hl [0, 1] rfl)
theorem kM_go {l : Launch} {ad : Nat → Nat} {D : va_G} {h : Nat → Nat} {K : Nat → ClassId} {res : qS} {S : qS} {a1 : Int32} (hf : fM_go S a1 = some res) : qMv l qm_M_go qm_M_go_c 4 4 99 D qCl (mT K) ad (mW h K) [.ref (h 0), .int a1] S res := qMv_of (by decide) (Nat.le_of_ble_eq_true rfl) (fun _ _ _ _ _ _ _ _ _ _ C G hl => wM_go C S a1 hf _ _ _ G hl)
