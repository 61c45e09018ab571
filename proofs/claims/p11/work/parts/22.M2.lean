theorem qm_M_find_0 : decode qm_M_find_c 0 = .ok (.aload_n 0, 1) := by decide +kernel
theorem qm_M_find_1 : decode qm_M_find_c 1 = .ok (.iconst (-1), 1) := by decide +kernel
theorem qm_M_find_2 : decode qm_M_find_c 2 = .ok (.putfield 48, 3) := by decide +kernel
theorem qm_M_find_5 : decode qm_M_find_c 5 = .ok (.aload_n 0, 1) := by decide +kernel
theorem qm_M_find_6 : decode qm_M_find_c 6 = .ok (.getfield 16, 3) := by decide +kernel
theorem qm_M_find_9 : decode qm_M_find_c 9 = .ok (.bipush 56, 2) := by decide +kernel
theorem qm_M_find_11 : decode qm_M_find_c 11 = .ok (.iaload, 1) := by decide +kernel
theorem qm_M_find_12 : decode qm_M_find_c 12 = .ok (.ifCond .ne 9, 3) := by decide +kernel
theorem qm_M_find_15 : decode qm_M_find_c 15 = .ok (.iload_n 1, 1) := by decide +kernel
theorem qm_M_find_16 : decode qm_M_find_c 16 = .ok (.sipush 2047, 3) := by decide +kernel
theorem qm_M_find_19 : decode qm_M_find_c 19 = .ok (.iand, 1) := by decide +kernel
theorem qm_M_find_20 : decode qm_M_find_c 20 = .ok (.ireturn, 1) := by decide +kernel
theorem qm_M_find_21 : decode qm_M_find_c 21 = .ok (.iload_n 2, 1) := by decide +kernel
theorem qm_M_find_22 : decode qm_M_find_c 22 = .ok (.ifCond .eq 7, 3) := by decide +kernel
theorem qm_M_find_25 : decode qm_M_find_c 25 = .ok (.iconst 4, 1) := by decide +kernel
theorem qm_M_find_26 : decode qm_M_find_c 26 = .ok (.goto 4, 3) := by decide +kernel
theorem qm_M_find_29 : decode qm_M_find_c 29 = .ok (.iconst 0, 1) := by decide +kernel
theorem qm_M_find_30 : decode qm_M_find_c 30 = .ok (.istore 4, 2) := by decide +kernel
theorem qm_M_find_32 : decode qm_M_find_c 32 = .ok (.iload_n 1, 1) := by decide +kernel
theorem qm_M_find_33 : decode qm_M_find_c 33 = .ok (.bipush 30, 2) := by decide +kernel
theorem qm_M_find_35 : decode qm_M_find_c 35 = .ok (.iushr, 1) := by decide +kernel
theorem qm_M_find_36 : decode qm_M_find_c 36 = .ok (.istore 5, 2) := by decide +kernel
theorem qm_M_find_38 : decode qm_M_find_c 38 = .ok (.iload_n 1, 1) := by decide +kernel
theorem qm_M_find_39 : decode qm_M_find_c 39 = .ok (.bipush 6, 2) := by decide +kernel
theorem qm_M_find_41 : decode qm_M_find_c 41 = .ok (.iushr, 1) := by decide +kernel
theorem qm_M_find_42 : decode qm_M_find_c 42 = .ok (.ldc 51, 2) := by decide +kernel
theorem qm_M_find_44 : decode qm_M_find_c 44 = .ok (.iand, 1) := by decide +kernel
theorem qm_M_find_45 : decode qm_M_find_c 45 = .ok (.istore 6, 2) := by decide +kernel
theorem qm_M_find_47 : decode qm_M_find_c 47 = .ok (.iload 5, 2) := by decide +kernel
theorem qm_M_find_49 : decode qm_M_find_c 49 = .ok (.ifCond .ne 18, 3) := by decide +kernel
theorem qm_M_find_52 : decode qm_M_find_c 52 = .ok (.iload 6, 2) := by decide +kernel
theorem qm_M_find_54 : decode qm_M_find_c 54 = .ok (.aload_n 0, 1) := by decide +kernel
theorem qm_M_find_55 : decode qm_M_find_c 55 = .ok (.getfield 16, 3) := by decide +kernel
theorem qm_M_find_58 : decode qm_M_find_c 58 = .ok (.bipush 9, 2) := by decide +kernel
theorem qm_M_find_60 : decode qm_M_find_c 60 = .ok (.iaload, 1) := by decide +kernel
theorem qm_M_find_61 : decode qm_M_find_c 61 = .ok (.invokestatic 52, 3) := by decide +kernel
theorem qm_M_find_64 : decode qm_M_find_c 64 = .ok (.goto 58, 3) := by decide +kernel
theorem qm_M_find_67 : decode qm_M_find_c 67 = .ok (.iload 5, 2) := by decide +kernel
theorem qm_M_find_69 : decode qm_M_find_c 69 = .ok (.iconst 1, 1) := by decide +kernel
theorem qm_M_find_70 : decode qm_M_find_c 70 = .ok (.if_icmp .ne 26, 3) := by decide +kernel
theorem qm_M_find_73 : decode qm_M_find_c 73 = .ok (.iload 6, 2) := by decide +kernel
theorem qm_M_find_75 : decode qm_M_find_c 75 = .ok (.aload_n 0, 1) := by decide +kernel
theorem qm_M_find_76 : decode qm_M_find_c 76 = .ok (.getfield 16, 3) := by decide +kernel
theorem qm_M_find_79 : decode qm_M_find_c 79 = .ok (.bipush 11, 2) := by decide +kernel
theorem qm_M_find_81 : decode qm_M_find_c 81 = .ok (.iaload, 1) := by decide +kernel
theorem qm_M_find_82 : decode qm_M_find_c 82 = .ok (.invokestatic 52, 3) := by decide +kernel
theorem qm_M_find_85 : decode qm_M_find_c 85 = .ok (.ifCond .ne 7, 3) := by decide +kernel
theorem qm_M_find_88 : decode qm_M_find_c 88 = .ok (.iconst 1, 1) := by decide +kernel
theorem qm_M_find_89 : decode qm_M_find_c 89 = .ok (.goto 33, 3) := by decide +kernel
theorem qm_M_find_92 : decode qm_M_find_c 92 = .ok (.iconst 0, 1) := by decide +kernel
theorem qm_M_find_93 : decode qm_M_find_c 93 = .ok (.goto 29, 3) := by decide +kernel
theorem qm_M_find_96 : decode qm_M_find_c 96 = .ok (.iload 5, 2) := by decide +kernel
theorem qm_M_find_98 : decode qm_M_find_c 98 = .ok (.iconst 2, 1) := by decide +kernel
theorem qm_M_find_99 : decode qm_M_find_c 99 = .ok (.if_icmp .ne 22, 3) := by decide +kernel
theorem qm_M_find_102 : decode qm_M_find_c 102 = .ok (.iload 6, 2) := by decide +kernel
theorem qm_M_find_104 : decode qm_M_find_c 104 = .ok (.aload_n 0, 1) := by decide +kernel
theorem qm_M_find_105 : decode qm_M_find_c 105 = .ok (.getfield 16, 3) := by decide +kernel
theorem qm_M_find_108 : decode qm_M_find_c 108 = .ok (.bipush 13, 2) := by decide +kernel
theorem qm_M_find_110 : decode qm_M_find_c 110 = .ok (.iaload, 1) := by decide +kernel
theorem qm_M_find_111 : decode qm_M_find_c 111 = .ok (.invokestatic 52, 3) := by decide +kernel
theorem qm_M_find_114 : decode qm_M_find_c 114 = .ok (.ifCond .eq 7, 3) := by decide +kernel
theorem qm_M_find_117 : decode qm_M_find_c 117 = .ok (.iconst 1, 1) := by decide +kernel
theorem qm_M_find_118 : decode qm_M_find_c 118 = .ok (.goto 4, 3) := by decide +kernel
theorem qm_M_find_121 : decode qm_M_find_c 121 = .ok (.iconst 0, 1) := by decide +kernel
theorem qm_M_find_122 : decode qm_M_find_c 122 = .ok (.istore 7, 2) := by decide +kernel
theorem qm_M_find_124 : decode qm_M_find_c 124 = .ok (.iload 7, 2) := by decide +kernel
theorem qm_M_find_126 : decode qm_M_find_c 126 = .ok (.ifCond .ne 9, 3) := by decide +kernel
theorem qm_M_find_129 : decode qm_M_find_c 129 = .ok (.bipush (-51), 2) := by decide +kernel
theorem qm_M_find_131 : decode qm_M_find_c 131 = .ok (.iload 4, 2) := by decide +kernel
theorem qm_M_find_133 : decode qm_M_find_c 133 = .ok (.isub, 1) := by decide +kernel
theorem qm_M_find_134 : decode qm_M_find_c 134 = .ok (.ireturn, 1) := by decide +kernel
theorem qm_M_find_135 : decode qm_M_find_c 135 = .ok (.aload_n 0, 1) := by decide +kernel
theorem qm_M_find_136 : decode qm_M_find_c 136 = .ok (.aload_n 0, 1) := by decide +kernel
theorem qm_M_find_137 : decode qm_M_find_c 137 = .ok (.getfield 16, 3) := by decide +kernel
theorem qm_M_find_140 : decode qm_M_find_c 140 = .ok (.bipush 12, 2) := by decide +kernel
theorem qm_M_find_142 : decode qm_M_find_c 142 = .ok (.iaload, 1) := by decide +kernel
theorem qm_M_find_143 : decode qm_M_find_c 143 = .ok (.iconst 4, 1) := by decide +kernel
theorem qm_M_find_144 : decode qm_M_find_c 144 = .ok (.iload 6, 2) := by decide +kernel
theorem qm_M_find_146 : decode qm_M_find_c 146 = .ok (.imul, 1) := by decide +kernel
theorem qm_M_find_147 : decode qm_M_find_c 147 = .ok (.iadd, 1) := by decide +kernel
theorem qm_M_find_148 : decode qm_M_find_c 148 = .ok (.sipush 2047, 3) := by decide +kernel
theorem qm_M_find_151 : decode qm_M_find_c 151 = .ok (.iand, 1) := by decide +kernel
theorem qm_M_find_152 : decode qm_M_find_c 152 = .ok (.putfield 48, 3) := by decide +kernel
theorem qm_M_find_155 : decode qm_M_find_c 155 = .ok (.iload 5, 2) := by decide +kernel
theorem qm_M_find_157 : decode qm_M_find_c 157 = .ok (.iconst 2, 1) := by decide +kernel
theorem qm_M_find_158 : decode qm_M_find_c 158 = .ok (.if_icmp .ge 113, 3) := by decide +kernel
theorem qm_M_find_161 : decode qm_M_find_c 161 = .ok (.aload_n 0, 1) := by decide +kernel
theorem qm_M_find_162 : decode qm_M_find_c 162 = .ok (.getfield 16, 3) := by decide +kernel
theorem qm_M_find_165 : decode qm_M_find_c 165 = .ok (.bipush 8, 2) := by decide +kernel
theorem qm_M_find_167 : decode qm_M_find_c 167 = .ok (.iconst 2, 1) := by decide +kernel
theorem qm_M_find_168 : decode qm_M_find_c 168 = .ok (.iload 5, 2) := by decide +kernel
theorem qm_M_find_170 : decode qm_M_find_c 170 = .ok (.imul, 1) := by decide +kernel
theorem qm_M_find_171 : decode qm_M_find_c 171 = .ok (.iadd, 1) := by decide +kernel
theorem qm_M_find_172 : decode qm_M_find_c 172 = .ok (.iaload, 1) := by decide +kernel
theorem qm_M_find_173 : decode qm_M_find_c 173 = .ok (.iconst 4, 1) := by decide +kernel
theorem qm_M_find_174 : decode qm_M_find_c 174 = .ok (.iload 6, 2) := by decide +kernel
theorem qm_M_find_176 : decode qm_M_find_c 176 = .ok (.imul, 1) := by decide +kernel
theorem qm_M_find_177 : decode qm_M_find_c 177 = .ok (.iadd, 1) := by decide +kernel
theorem qm_M_find_178 : decode qm_M_find_c 178 = .ok (.istore 8, 2) := by decide +kernel
theorem qm_M_find_180 : decode qm_M_find_c 180 = .ok (.iload 8, 2) := by decide +kernel
theorem qm_M_find_182 : decode qm_M_find_c 182 = .ok (.bipush 6, 2) := by decide +kernel
theorem qm_M_find_184 : decode qm_M_find_c 184 = .ok (.iushr, 1) := by decide +kernel
theorem qm_M_find_185 : decode qm_M_find_c 185 = .ok (.ldc 51, 2) := by decide +kernel
theorem qm_M_find_187 : decode qm_M_find_c 187 = .ok (.iand, 1) := by decide +kernel
theorem qm_M_find_188 : decode qm_M_find_c 188 = .ok (.istore 9, 2) := by decide +kernel
theorem qm_M_find_190 : decode qm_M_find_c 190 = .ok (.iload 8, 2) := by decide +kernel
theorem qm_M_find_192 : decode qm_M_find_c 192 = .ok (.bipush 30, 2) := by decide +kernel
theorem qm_M_find_194 : decode qm_M_find_c 194 = .ok (.iushr, 1) := by decide +kernel
theorem qm_M_find_195 : decode qm_M_find_c 195 = .ok (.iconst 2, 1) := by decide +kernel
theorem qm_M_find_196 : decode qm_M_find_c 196 = .ok (.if_icmp .ne 18, 3) := by decide +kernel
theorem qm_M_find_199 : decode qm_M_find_c 199 = .ok (.iload 9, 2) := by decide +kernel
theorem qm_M_find_201 : decode qm_M_find_c 201 = .ok (.aload_n 0, 1) := by decide +kernel
theorem qm_M_find_202 : decode qm_M_find_c 202 = .ok (.getfield 16, 3) := by decide +kernel
theorem qm_M_find_205 : decode qm_M_find_c 205 = .ok (.bipush 13, 2) := by decide +kernel
theorem qm_M_find_207 : decode qm_M_find_c 207 = .ok (.iaload, 1) := by decide +kernel
theorem qm_M_find_208 : decode qm_M_find_c 208 = .ok (.invokestatic 52, 3) := by decide +kernel
theorem qm_M_find_211 : decode qm_M_find_c 211 = .ok (.ifCond .ne 9, 3) := by decide +kernel
theorem qm_M_find_214 : decode qm_M_find_c 214 = .ok (.bipush (-53), 2) := by decide +kernel
theorem qm_M_find_216 : decode qm_M_find_c 216 = .ok (.iload 4, 2) := by decide +kernel
theorem qm_M_find_218 : decode qm_M_find_c 218 = .ok (.isub, 1) := by decide +kernel
theorem qm_M_find_219 : decode qm_M_find_c 219 = .ok (.ireturn, 1) := by decide +kernel
theorem qm_M_find_220 : decode qm_M_find_c 220 = .ok (.aload_n 0, 1) := by decide +kernel
theorem qm_M_find_221 : decode qm_M_find_c 221 = .ok (.aload_n 0, 1) := by decide +kernel
theorem qm_M_find_222 : decode qm_M_find_c 222 = .ok (.getfield 16, 3) := by decide +kernel
theorem qm_M_find_225 : decode qm_M_find_c 225 = .ok (.bipush 12, 2) := by decide +kernel
theorem qm_M_find_227 : decode qm_M_find_c 227 = .ok (.iaload, 1) := by decide +kernel
theorem qm_M_find_228 : decode qm_M_find_c 228 = .ok (.iconst 4, 1) := by decide +kernel
theorem qm_M_find_229 : decode qm_M_find_c 229 = .ok (.iload 9, 2) := by decide +kernel
theorem qm_M_find_231 : decode qm_M_find_c 231 = .ok (.imul, 1) := by decide +kernel
theorem qm_M_find_232 : decode qm_M_find_c 232 = .ok (.iadd, 1) := by decide +kernel
theorem qm_M_find_233 : decode qm_M_find_c 233 = .ok (.invokevirtual 56, 3) := by decide +kernel
theorem qm_M_find_236 : decode qm_M_find_c 236 = .ok (.istore 10, 2) := by decide +kernel
theorem qm_M_find_238 : decode qm_M_find_c 238 = .ok (.iload 10, 2) := by decide +kernel
theorem qm_M_find_240 : decode qm_M_find_c 240 = .ok (.ifCond .lt 9, 3) := by decide +kernel
theorem qm_M_find_243 : decode qm_M_find_c 243 = .ok (.bipush (-62), 2) := by decide +kernel
theorem qm_M_find_245 : decode qm_M_find_c 245 = .ok (.iload 4, 2) := by decide +kernel
theorem qm_M_find_247 : decode qm_M_find_c 247 = .ok (.isub, 1) := by decide +kernel
theorem qm_M_find_248 : decode qm_M_find_c 248 = .ok (.ireturn, 1) := by decide +kernel
theorem qm_M_find_249 : decode qm_M_find_c 249 = .ok (.aload_n 0, 1) := by decide +kernel
theorem qm_M_find_250 : decode qm_M_find_c 250 = .ok (.bipush 64, 2) := by decide +kernel
theorem qm_M_find_252 : decode qm_M_find_c 252 = .ok (.iload 10, 2) := by decide +kernel
theorem qm_M_find_254 : decode qm_M_find_c 254 = .ok (.bipush 31, 2) := by decide +kernel
theorem qm_M_find_256 : decode qm_M_find_c 256 = .ok (.iand, 1) := by decide +kernel
theorem qm_M_find_257 : decode qm_M_find_c 257 = .ok (.imul, 1) := by decide +kernel
theorem qm_M_find_258 : decode qm_M_find_c 258 = .ok (.iload 8, 2) := by decide +kernel
theorem qm_M_find_260 : decode qm_M_find_c 260 = .ok (.bipush 63, 2) := by decide +kernel
theorem qm_M_find_262 : decode qm_M_find_c 262 = .ok (.iand, 1) := by decide +kernel
theorem qm_M_find_263 : decode qm_M_find_c 263 = .ok (.iadd, 1) := by decide +kernel
theorem qm_M_find_264 : decode qm_M_find_c 264 = .ok (.sipush 2047, 3) := by decide +kernel
theorem qm_M_find_267 : decode qm_M_find_c 267 = .ok (.iand, 1) := by decide +kernel
theorem qm_M_find_268 : decode qm_M_find_c 268 = .ok (.putfield 48, 3) := by decide +kernel
theorem qm_M_find_271 : decode qm_M_find_c 271 = .ok (.aload_n 0, 1) := by decide +kernel
theorem qm_M_find_272 : decode qm_M_find_c 272 = .ok (.aload_n 0, 1) := by decide +kernel
theorem qm_M_find_273 : decode qm_M_find_c 273 = .ok (.getfield 48, 3) := by decide +kernel
theorem qm_M_find_276 : decode qm_M_find_c 276 = .ok (.invokevirtual 56, 3) := by decide +kernel
theorem qm_M_find_279 : decode qm_M_find_c 279 = .ok (.istore 8, 2) := by decide +kernel
theorem qm_M_find_281 : decode qm_M_find_c 281 = .ok (.iload 8, 2) := by decide +kernel
theorem qm_M_find_283 : decode qm_M_find_c 283 = .ok (.bipush 27, 2) := by decide +kernel
theorem qm_M_find_285 : decode qm_M_find_c 285 = .ok (.ishr, 1) := by decide +kernel
theorem qm_M_find_286 : decode qm_M_find_c 286 = .ok (.iconst 3, 1) := by decide +kernel
theorem qm_M_find_287 : decode qm_M_find_c 287 = .ok (.iand, 1) := by decide +kernel
theorem qm_M_find_288 : decode qm_M_find_c 288 = .ok (.istore 9, 2) := by decide +kernel
theorem qm_M_find_290 : decode qm_M_find_c 290 = .ok (.iload 8, 2) := by decide +kernel
theorem qm_M_find_292 : decode qm_M_find_c 292 = .ok (.bipush 29, 2) := by decide +kernel
theorem qm_M_find_294 : decode qm_M_find_c 294 = .ok (.ishr, 1) := by decide +kernel
theorem qm_M_find_295 : decode qm_M_find_c 295 = .ok (.iconst 3, 1) := by decide +kernel
theorem qm_M_find_296 : decode qm_M_find_c 296 = .ok (.iand, 1) := by decide +kernel
theorem qm_M_find_297 : decode qm_M_find_c 297 = .ok (.istore 10, 2) := by decide +kernel
theorem qm_M_find_299 : decode qm_M_find_c 299 = .ok (.iload_n 2, 1) := by decide +kernel
theorem qm_M_find_300 : decode qm_M_find_c 300 = .ok (.ifCond .eq 19, 3) := by decide +kernel
theorem qm_M_find_303 : decode qm_M_find_c 303 = .ok (.iload 10, 2) := by decide +kernel
theorem qm_M_find_305 : decode qm_M_find_c 305 = .ok (.iload 9, 2) := by decide +kernel
theorem qm_M_find_307 : decode qm_M_find_c 307 = .ok (.if_icmp .gt 18, 3) := by decide +kernel
theorem qm_M_find_310 : decode qm_M_find_c 310 = .ok (.iload_n 3, 1) := by decide +kernel
theorem qm_M_find_311 : decode qm_M_find_c 311 = .ok (.iload 10, 2) := by decide +kernel
theorem qm_M_find_313 : decode qm_M_find_c 313 = .ok (.if_icmp .le 18, 3) := by decide +kernel
theorem qm_M_find_316 : decode qm_M_find_c 316 = .ok (.goto 9, 3) := by decide +kernel
theorem qm_M_find_319 : decode qm_M_find_c 319 = .ok (.iload_n 3, 1) := by decide +kernel
theorem qm_M_find_320 : decode qm_M_find_c 320 = .ok (.iload 9, 2) := by decide +kernel
theorem qm_M_find_322 : decode qm_M_find_c 322 = .ok (.if_icmp .le 9, 3) := by decide +kernel
theorem qm_M_find_325 : decode qm_M_find_c 325 = .ok (.bipush (-50), 2) := by decide +kernel
theorem qm_M_find_327 : decode qm_M_find_c 327 = .ok (.iload 4, 2) := by decide +kernel
theorem qm_M_find_329 : decode qm_M_find_c 329 = .ok (.isub, 1) := by decide +kernel
theorem qm_M_find_330 : decode qm_M_find_c 330 = .ok (.ireturn, 1) := by decide +kernel
theorem qm_M_find_331 : decode qm_M_find_c 331 = .ok (.iload 8, 2) := by decide +kernel
theorem qm_M_find_333 : decode qm_M_find_c 333 = .ok (.ifCond .lt 11, 3) := by decide +kernel
theorem qm_M_find_336 : decode qm_M_find_c 336 = .ok (.bipush (-60), 2) := by decide +kernel
theorem qm_M_find_338 : decode qm_M_find_c 338 = .ok (.iload 4, 2) := by decide +kernel
theorem qm_M_find_340 : decode qm_M_find_c 340 = .ok (.isub, 1) := by decide +kernel
theorem qm_M_find_341 : decode qm_M_find_c 341 = .ok (.goto 16, 3) := by decide +kernel
theorem qm_M_find_344 : decode qm_M_find_c 344 = .ok (.bipush 64, 2) := by decide +kernel
theorem qm_M_find_346 : decode qm_M_find_c 346 = .ok (.iload 8, 2) := by decide +kernel
theorem qm_M_find_348 : decode qm_M_find_c 348 = .ok (.bipush 31, 2) := by decide +kernel
theorem qm_M_find_350 : decode qm_M_find_c 350 = .ok (.iand, 1) := by decide +kernel
theorem qm_M_find_351 : decode qm_M_find_c 351 = .ok (.imul, 1) := by decide +kernel
theorem qm_M_find_352 : decode qm_M_find_c 352 = .ok (.iload_n 1, 1) := by decide +kernel
theorem qm_M_find_353 : decode qm_M_find_c 353 = .ok (.bipush 63, 2) := by decide +kernel
theorem qm_M_find_355 : decode qm_M_find_c 355 = .ok (.iand, 1) := by decide +kernel
theorem qm_M_find_356 : decode qm_M_find_c 356 = .ok (.iadd, 1) := by decide +kernel
theorem qm_M_find_357 : decode qm_M_find_c 357 = .ok (.ireturn, 1) := by decide +kernel
theorem qm_M_wrong_0 : decode qm_M_wrong_c 0 = .ok (.aload_n 0, 1) := by decide +kernel
theorem qm_M_wrong_1 : decode qm_M_wrong_c 1 = .ok (.getfield 60, 3) := by decide +kernel
theorem qm_M_wrong_4 : decode qm_M_wrong_c 4 = .ok (.ifCond .eq 4, 3) := by decide +kernel
theorem qm_M_wrong_7 : decode qm_M_wrong_c 7 = .ok (.return_, 1) := by decide +kernel
theorem qm_M_wrong_8 : decode qm_M_wrong_c 8 = .ok (.aload_n 0, 1) := by decide +kernel
theorem qm_M_wrong_9 : decode qm_M_wrong_c 9 = .ok (.iload_n 1, 1) := by decide +kernel
theorem qm_M_wrong_10 : decode qm_M_wrong_c 10 = .ok (.putfield 60, 3) := by decide +kernel
theorem qm_M_wrong_13 : decode qm_M_wrong_c 13 = .ok (.aload_n 0, 1) := by decide +kernel
theorem qm_M_wrong_14 : decode qm_M_wrong_c 14 = .ok (.iload_n 2, 1) := by decide +kernel
theorem qm_M_wrong_15 : decode qm_M_wrong_c 15 = .ok (.putfield 63, 3) := by decide +kernel
theorem qm_M_wrong_18 : decode qm_M_wrong_c 18 = .ok (.aload_n 0, 1) := by decide +kernel
theorem qm_M_wrong_19 : decode qm_M_wrong_c 19 = .ok (.iload_n 3, 1) := by decide +kernel
theorem qm_M_wrong_20 : decode qm_M_wrong_c 20 = .ok (.putfield 66, 3) := by decide +kernel
theorem qm_M_wrong_23 : decode qm_M_wrong_c 23 = .ok (.return_, 1) := by decide +kernel
theorem qm_M_readByte_0 : decode qm_M_readByte_c 0 = .ok (.aload_n 0, 1) := by decide +kernel
theorem qm_M_readByte_1 : decode qm_M_readByte_c 1 = .ok (.iload_n 1, 1) := by decide +kernel
theorem qm_M_readByte_2 : decode qm_M_readByte_c 2 = .ok (.iconst 0, 1) := by decide +kernel
theorem qm_M_readByte_3 : decode qm_M_readByte_c 3 = .ok (.aload_n 0, 1) := by decide +kernel
theorem qm_M_readByte_4 : decode qm_M_readByte_c 4 = .ok (.invokevirtual 69, 3) := by decide +kernel
theorem qm_M_readByte_7 : decode qm_M_readByte_c 7 = .ok (.invokevirtual 73, 3) := by decide +kernel
theorem qm_M_readByte_10 : decode qm_M_readByte_c 10 = .ok (.istore_n 2, 1) := by decide +kernel
theorem qm_M_readByte_11 : decode qm_M_readByte_c 11 = .ok (.iload_n 2, 1) := by decide +kernel
theorem qm_M_readByte_12 : decode qm_M_readByte_c 12 = .ok (.ifCond .ge 22, 3) := by decide +kernel
theorem qm_M_readByte_15 : decode qm_M_readByte_c 15 = .ok (.aload_n 0, 1) := by decide +kernel
theorem qm_M_readByte_16 : decode qm_M_readByte_c 16 = .ok (.bipush (-10), 2) := by decide +kernel
theorem qm_M_readByte_18 : decode qm_M_readByte_c 18 = .ok (.iload_n 2, 1) := by decide +kernel
theorem qm_M_readByte_19 : decode qm_M_readByte_c 19 = .ok (.isub, 1) := by decide +kernel
theorem qm_M_readByte_20 : decode qm_M_readByte_c 20 = .ok (.bipush 10, 2) := by decide +kernel
theorem qm_M_readByte_22 : decode qm_M_readByte_c 22 = .ok (.idiv, 1) := by decide +kernel
theorem qm_M_readByte_23 : decode qm_M_readByte_c 23 = .ok (.iload_n 1, 1) := by decide +kernel
theorem qm_M_readByte_24 : decode qm_M_readByte_c 24 = .ok (.bipush (-10), 2) := by decide +kernel
theorem qm_M_readByte_26 : decode qm_M_readByte_c 26 = .ok (.iload_n 2, 1) := by decide +kernel
theorem qm_M_readByte_27 : decode qm_M_readByte_c 27 = .ok (.isub, 1) := by decide +kernel
theorem qm_M_readByte_28 : decode qm_M_readByte_c 28 = .ok (.bipush 10, 2) := by decide +kernel
theorem qm_M_readByte_30 : decode qm_M_readByte_c 30 = .ok (.irem, 1) := by decide +kernel
theorem qm_M_readByte_31 : decode qm_M_readByte_c 31 = .ok (.invokevirtual 77, 3) := by decide +kernel
theorem qm_M_readByte_34 : decode qm_M_readByte_c 34 = .ok (.iload_n 2, 1) := by decide +kernel
theorem qm_M_readByte_35 : decode qm_M_readByte_c 35 = .ok (.ifCond .lt 10, 3) := by decide +kernel
theorem qm_M_readByte_38 : decode qm_M_readByte_c 38 = .ok (.aload_n 0, 1) := by decide +kernel
theorem qm_M_readByte_39 : decode qm_M_readByte_c 39 = .ok (.getfield 60, 3) := by decide +kernel
theorem qm_M_readByte_42 : decode qm_M_readByte_c 42 = .ok (.ifCond .eq 7, 3) := by decide +kernel
theorem qm_M_readByte_45 : decode qm_M_readByte_c 45 = .ok (.iconst 0, 1) := by decide +kernel
theorem qm_M_readByte_46 : decode qm_M_readByte_c 46 = .ok (.goto 9, 3) := by decide +kernel
theorem qm_M_readByte_49 : decode qm_M_readByte_c 49 = .ok (.aload_n 0, 1) := by decide +kernel
theorem qm_M_readByte_50 : decode qm_M_readByte_c 50 = .ok (.getfield 7, 3) := by decide +kernel
theorem qm_M_readByte_53 : decode qm_M_readByte_c 53 = .ok (.iload_n 2, 1) := by decide +kernel
theorem qm_M_readByte_54 : decode qm_M_readByte_c 54 = .ok (.iaload, 1) := by decide +kernel
theorem qm_M_readByte_55 : decode qm_M_readByte_c 55 = .ok (.ireturn, 1) := by decide +kernel
theorem qm_M_next_0 : decode qm_M_next_c 0 = .ok (.aload_n 0, 1) := by decide +kernel
theorem qm_M_next_1 : decode qm_M_next_c 1 = .ok (.aload_n 0, 1) := by decide +kernel
theorem qm_M_next_2 : decode qm_M_next_c 2 = .ok (.getfield 13, 3) := by decide +kernel
theorem qm_M_next_5 : decode qm_M_next_c 5 = .ok (.bipush 15, 2) := by decide +kernel
theorem qm_M_next_7 : decode qm_M_next_c 7 = .ok (.iaload, 1) := by decide +kernel
theorem qm_M_next_8 : decode qm_M_next_c 8 = .ok (.invokevirtual 81, 3) := by decide +kernel
theorem qm_M_next_11 : decode qm_M_next_c 11 = .ok (.istore_n 1, 1) := by decide +kernel
theorem qm_M_next_12 : decode qm_M_next_c 12 = .ok (.aload_n 0, 1) := by decide +kernel
theorem qm_M_next_13 : decode qm_M_next_c 13 = .ok (.getfield 13, 3) := by decide +kernel
theorem qm_M_next_16 : decode qm_M_next_c 16 = .ok (.bipush 15, 2) := by decide +kernel
theorem qm_M_next_18 : decode qm_M_next_c 18 = .ok (.dup2, 1) := by decide +kernel
theorem qm_M_next_19 : decode qm_M_next_c 19 = .ok (.iaload, 1) := by decide +kernel
theorem qm_M_next_20 : decode qm_M_next_c 20 = .ok (.iconst 1, 1) := by decide +kernel
theorem qm_M_next_21 : decode qm_M_next_c 21 = .ok (.iadd, 1) := by decide +kernel
theorem qm_M_next_22 : decode qm_M_next_c 22 = .ok (.iastore, 1) := by decide +kernel
theorem qm_M_next_23 : decode qm_M_next_c 23 = .ok (.iload_n 1, 1) := by decide +kernel
theorem qm_M_next_24 : decode qm_M_next_c 24 = .ok (.ireturn, 1) := by decide +kernel
theorem qm_M_shape_0 : decode qm_M_shape_c 0 = .ok (.iload_n 0, 1) := by decide +kernel
theorem qm_M_shape_1 : decode qm_M_shape_c 1 = .ok (.bipush 6, 2) := by decide +kernel
theorem qm_M_shape_3 : decode qm_M_shape_c 3 = .ok (.if_icmp .ge 5, 3) := by decide +kernel
theorem qm_M_shape_6 : decode qm_M_shape_c 6 = .ok (.iconst 0, 1) := by decide +kernel
theorem qm_M_shape_7 : decode qm_M_shape_c 7 = .ok (.ireturn, 1) := by decide +kernel
theorem qm_M_shape_8 : decode qm_M_shape_c 8 = .ok (.iload_n 0, 1) := by decide +kernel
theorem qm_M_shape_9 : decode qm_M_shape_c 9 = .ok (.bipush 10, 2) := by decide +kernel
theorem qm_M_shape_11 : decode qm_M_shape_c 11 = .ok (.if_icmp .lt 15, 3) := by decide +kernel
theorem qm_M_shape_14 : decode qm_M_shape_c 14 = .ok (.iload_n 0, 1) := by decide +kernel
theorem qm_M_shape_15 : decode qm_M_shape_c 15 = .ok (.bipush 21, 2) := by decide +kernel
theorem qm_M_shape_17 : decode qm_M_shape_c 17 = .ok (.if_icmp .eq 9, 3) := by decide +kernel
theorem qm_M_shape_20 : decode qm_M_shape_c 20 = .ok (.iload_n 0, 1) := by decide +kernel
theorem qm_M_shape_21 : decode qm_M_shape_c 21 = .ok (.bipush 44, 2) := by decide +kernel
theorem qm_M_shape_23 : decode qm_M_shape_c 23 = .ok (.if_icmp .ne 6, 3) := by decide +kernel
theorem qm_M_shape_26 : decode qm_M_shape_c 26 = .ok (.bipush 9, 2) := by decide +kernel
theorem qm_M_shape_28 : decode qm_M_shape_c 28 = .ok (.ireturn, 1) := by decide +kernel
theorem qm_M_shape_29 : decode qm_M_shape_c 29 = .ok (.iload_n 0, 1) := by decide +kernel
theorem qm_M_shape_30 : decode qm_M_shape_c 30 = .ok (.bipush 10, 2) := by decide +kernel
theorem qm_M_shape_32 : decode qm_M_shape_c 32 = .ok (.if_icmp .eq 9, 3) := by decide +kernel
theorem qm_M_shape_35 : decode qm_M_shape_c 35 = .ok (.iload_n 0, 1) := by decide +kernel
theorem qm_M_shape_36 : decode qm_M_shape_c 36 = .ok (.bipush 23, 2) := by decide +kernel
theorem qm_M_shape_38 : decode qm_M_shape_c 38 = .ok (.if_icmp .ne 7, 3) := by decide +kernel
theorem qm_M_shape_41 : decode qm_M_shape_c 41 = .ok (.sipush 297, 3) := by decide +kernel
theorem qm_M_shape_44 : decode qm_M_shape_c 44 = .ok (.ireturn, 1) := by decide +kernel
theorem qm_M_shape_45 : decode qm_M_shape_c 45 = .ok (.iload_n 0, 1) := by decide +kernel
theorem qm_M_shape_46 : decode qm_M_shape_c 46 = .ok (.bipush 11, 2) := by decide +kernel
theorem qm_M_shape_48 : decode qm_M_shape_c 48 = .ok (.if_icmp .eq 21, 3) := by decide +kernel
theorem qm_M_shape_51 : decode qm_M_shape_c 51 = .ok (.iload_n 0, 1) := by decide +kernel
theorem qm_M_shape_52 : decode qm_M_shape_c 52 = .ok (.bipush 14, 2) := by decide +kernel
theorem qm_M_shape_54 : decode qm_M_shape_c 54 = .ok (.if_icmp .eq 15, 3) := by decide +kernel
theorem qm_M_shape_57 : decode qm_M_shape_c 57 = .ok (.iload_n 0, 1) := by decide +kernel
theorem qm_M_shape_58 : decode qm_M_shape_c 58 = .ok (.bipush 18, 2) := by decide +kernel
theorem qm_M_shape_60 : decode qm_M_shape_c 60 = .ok (.if_icmp .eq 9, 3) := by decide +kernel
theorem qm_M_shape_63 : decode qm_M_shape_c 63 = .ok (.iload_n 0, 1) := by decide +kernel
theorem qm_M_shape_64 : decode qm_M_shape_c 64 = .ok (.bipush 19, 2) := by decide +kernel
theorem qm_M_shape_66 : decode qm_M_shape_c 66 = .ok (.if_icmp .ne 7, 3) := by decide +kernel
theorem qm_M_shape_69 : decode qm_M_shape_c 69 = .ok (.sipush 329, 3) := by decide +kernel
theorem qm_M_shape_72 : decode qm_M_shape_c 72 = .ok (.ireturn, 1) := by decide +kernel
theorem qm_M_shape_73 : decode qm_M_shape_c 73 = .ok (.iload_n 0, 1) := by decide +kernel
theorem qm_M_shape_74 : decode qm_M_shape_c 74 = .ok (.bipush 12, 2) := by decide +kernel
theorem qm_M_shape_76 : decode qm_M_shape_c 76 = .ok (.if_icmp .eq 9, 3) := by decide +kernel
theorem qm_M_shape_79 : decode qm_M_shape_c 79 = .ok (.iload_n 0, 1) := by decide +kernel
theorem qm_M_shape_80 : decode qm_M_shape_c 80 = .ok (.bipush 20, 2) := by decide +kernel
theorem qm_M_shape_82 : decode qm_M_shape_c 82 = .ok (.if_icmp .ne 6, 3) := by decide +kernel
theorem qm_M_shape_85 : decode qm_M_shape_c 85 = .ok (.bipush 10, 2) := by decide +kernel
theorem qm_M_shape_87 : decode qm_M_shape_c 87 = .ok (.ireturn, 1) := by decide +kernel
theorem qm_M_shape_88 : decode qm_M_shape_c 88 = .ok (.iload_n 0, 1) := by decide +kernel
theorem qm_M_shape_89 : decode qm_M_shape_c 89 = .ok (.bipush 13, 2) := by decide +kernel
theorem qm_M_shape_91 : decode qm_M_shape_c 91 = .ok (.if_icmp .ne 6, 3) := by decide +kernel
theorem qm_M_shape_94 : decode qm_M_shape_c 94 = .ok (.bipush 65, 2) := by decide +kernel
theorem qm_M_shape_96 : decode qm_M_shape_c 96 = .ok (.ireturn, 1) := by decide +kernel
theorem qm_M_shape_97 : decode qm_M_shape_c 97 = .ok (.iload_n 0, 1) := by decide +kernel
theorem qm_M_shape_98 : decode qm_M_shape_c 98 = .ok (.bipush 15, 2) := by decide +kernel
theorem qm_M_shape_100 : decode qm_M_shape_c 100 = .ok (.if_icmp .eq 9, 3) := by decide +kernel
theorem qm_M_shape_103 : decode qm_M_shape_c 103 = .ok (.iload_n 0, 1) := by decide +kernel
theorem qm_M_shape_104 : decode qm_M_shape_c 104 = .ok (.bipush 16, 2) := by decide +kernel
theorem qm_M_shape_106 : decode qm_M_shape_c 106 = .ok (.if_icmp .ne 7, 3) := by decide +kernel
theorem qm_M_shape_109 : decode qm_M_shape_c 109 = .ok (.sipush 321, 3) := by decide +kernel
theorem qm_M_shape_112 : decode qm_M_shape_c 112 = .ok (.ireturn, 1) := by decide +kernel
theorem qm_M_shape_113 : decode qm_M_shape_c 113 = .ok (.iload_n 0, 1) := by decide +kernel
theorem qm_M_shape_114 : decode qm_M_shape_c 114 = .ok (.bipush 17, 2) := by decide +kernel
theorem qm_M_shape_116 : decode qm_M_shape_c 116 = .ok (.if_icmp .ne 6, 3) := by decide +kernel
theorem qm_M_shape_119 : decode qm_M_shape_c 119 = .ok (.bipush 73, 2) := by decide +kernel
theorem qm_M_shape_121 : decode qm_M_shape_c 121 = .ok (.ireturn, 1) := by decide +kernel
theorem qm_M_shape_122 : decode qm_M_shape_c 122 = .ok (.iload_n 0, 1) := by decide +kernel
theorem qm_M_shape_123 : decode qm_M_shape_c 123 = .ok (.bipush 22, 2) := by decide +kernel
theorem qm_M_shape_125 : decode qm_M_shape_c 125 = .ok (.if_icmp .ne 5, 3) := by decide +kernel
theorem qm_M_shape_128 : decode qm_M_shape_c 128 = .ok (.iconst 1, 1) := by decide +kernel
theorem qm_M_shape_129 : decode qm_M_shape_c 129 = .ok (.ireturn, 1) := by decide +kernel
theorem qm_M_shape_130 : decode qm_M_shape_c 130 = .ok (.iload_n 0, 1) := by decide +kernel
theorem qm_M_shape_131 : decode qm_M_shape_c 131 = .ok (.bipush 24, 2) := by decide +kernel
theorem qm_M_shape_133 : decode qm_M_shape_c 133 = .ok (.if_icmp .ne 6, 3) := by decide +kernel
theorem qm_M_shape_136 : decode qm_M_shape_c 136 = .ok (.bipush 33, 2) := by decide +kernel
theorem qm_M_shape_138 : decode qm_M_shape_c 138 = .ok (.ireturn, 1) := by decide +kernel
theorem qm_M_shape_139 : decode qm_M_shape_c 139 = .ok (.iload_n 0, 1) := by decide +kernel
theorem qm_M_shape_140 : decode qm_M_shape_c 140 = .ok (.bipush 27, 2) := by decide +kernel
theorem qm_M_shape_142 : decode qm_M_shape_c 142 = .ok (.if_icmp .ge 6, 3) := by decide +kernel
theorem qm_M_shape_145 : decode qm_M_shape_c 145 = .ok (.bipush 11, 2) := by decide +kernel
theorem qm_M_shape_147 : decode qm_M_shape_c 147 = .ok (.ireturn, 1) := by decide +kernel
theorem qm_M_shape_148 : decode qm_M_shape_c 148 = .ok (.iload_n 0, 1) := by decide +kernel
theorem qm_M_shape_149 : decode qm_M_shape_c 149 = .ok (.bipush 34, 2) := by decide +kernel
theorem qm_M_shape_151 : decode qm_M_shape_c 151 = .ok (.if_icmp .ge 7, 3) := by decide +kernel
theorem qm_M_shape_154 : decode qm_M_shape_c 154 = .ok (.sipush 361, 3) := by decide +kernel
theorem qm_M_shape_157 : decode qm_M_shape_c 157 = .ok (.ireturn, 1) := by decide +kernel
theorem qm_M_shape_158 : decode qm_M_shape_c 158 = .ok (.iload_n 0, 1) := by decide +kernel
theorem qm_M_shape_159 : decode qm_M_shape_c 159 = .ok (.bipush 41, 2) := by decide +kernel
theorem qm_M_shape_161 : decode qm_M_shape_c 161 = .ok (.if_icmp .ge 7, 3) := by decide +kernel
theorem qm_M_shape_164 : decode qm_M_shape_c 164 = .ok (.sipush 10537, 3) := by decide +kernel
theorem qm_M_shape_167 : decode qm_M_shape_c 167 = .ok (.ireturn, 1) := by decide +kernel
theorem qm_M_shape_168 : decode qm_M_shape_c 168 = .ok (.iload_n 0, 1) := by decide +kernel
theorem qm_M_shape_169 : decode qm_M_shape_c 169 = .ok (.bipush 41, 2) := by decide +kernel
theorem qm_M_shape_171 : decode qm_M_shape_c 171 = .ok (.if_icmp .ne 7, 3) := by decide +kernel
theorem qm_M_shape_174 : decode qm_M_shape_c 174 = .ok (.sipush 10529, 3) := by decide +kernel
theorem qm_M_shape_177 : decode qm_M_shape_c 177 = .ok (.ireturn, 1) := by decide +kernel
theorem qm_M_shape_178 : decode qm_M_shape_c 178 = .ok (.iload_n 0, 1) := by decide +kernel
theorem qm_M_shape_179 : decode qm_M_shape_c 179 = .ok (.bipush 44, 2) := by decide +kernel
theorem qm_M_shape_181 : decode qm_M_shape_c 181 = .ok (.if_icmp .ge 20, 3) := by decide +kernel
theorem qm_M_shape_184 : decode qm_M_shape_c 184 = .ok (.iload_n 0, 1) := by decide +kernel
theorem qm_M_shape_185 : decode qm_M_shape_c 185 = .ok (.bipush 42, 2) := by decide +kernel
theorem qm_M_shape_187 : decode qm_M_shape_c 187 = .ok (.if_icmp .ne 8, 3) := by decide +kernel
theorem qm_M_shape_190 : decode qm_M_shape_c 190 = .ok (.bipush 12, 2) := by decide +kernel
theorem qm_M_shape_192 : decode qm_M_shape_c 192 = .ok (.goto 4, 3) := by decide +kernel
theorem qm_M_shape_195 : decode qm_M_shape_c 195 = .ok (.iconst 4, 1) := by decide +kernel
theorem qm_M_shape_196 : decode qm_M_shape_c 196 = .ok (.sipush 320, 3) := by decide +kernel
theorem qm_M_shape_199 : decode qm_M_shape_c 199 = .ok (.iadd, 1) := by decide +kernel
theorem qm_M_shape_200 : decode qm_M_shape_c 200 = .ok (.ireturn, 1) := by decide +kernel
theorem qm_M_shape_201 : decode qm_M_shape_c 201 = .ok (.iload_n 0, 1) := by decide +kernel
theorem qm_M_shape_202 : decode qm_M_shape_c 202 = .ok (.bipush 48, 2) := by decide +kernel
theorem qm_M_shape_204 : decode qm_M_shape_c 204 = .ok (.if_icmp .ge 16, 3) := by decide +kernel
theorem qm_M_shape_207 : decode qm_M_shape_c 207 = .ok (.iload_n 0, 1) := by decide +kernel
theorem qm_M_shape_208 : decode qm_M_shape_c 208 = .ok (.bipush 45, 2) := by decide +kernel
theorem qm_M_shape_210 : decode qm_M_shape_c 210 = .ok (.if_icmp .ne 8, 3) := by decide +kernel
theorem qm_M_shape_213 : decode qm_M_shape_c 213 = .ok (.bipush 12, 2) := by decide +kernel
theorem qm_M_shape_215 : decode qm_M_shape_c 215 = .ok (.goto 4, 3) := by decide +kernel
theorem qm_M_shape_218 : decode qm_M_shape_c 218 = .ok (.iconst 4, 1) := by decide +kernel
theorem qm_M_shape_219 : decode qm_M_shape_c 219 = .ok (.ireturn, 1) := by decide +kernel
theorem qm_M_shape_220 : decode qm_M_shape_c 220 = .ok (.iload_n 0, 1) := by decide +kernel
theorem qm_M_shape_221 : decode qm_M_shape_c 221 = .ok (.bipush 62, 2) := by decide +kernel
theorem qm_M_shape_223 : decode qm_M_shape_c 223 = .ok (.if_icmp .ge 6, 3) := by decide +kernel
theorem qm_M_shape_226 : decode qm_M_shape_c 226 = .ok (.bipush 16, 2) := by decide +kernel
theorem qm_M_shape_228 : decode qm_M_shape_c 228 = .ok (.ireturn, 1) := by decide +kernel
theorem qm_M_shape_229 : decode qm_M_shape_c 229 = .ok (.iload_n 0, 1) := by decide +kernel
theorem qm_M_shape_230 : decode qm_M_shape_c 230 = .ok (.bipush 64, 2) := by decide +kernel
theorem qm_M_shape_232 : decode qm_M_shape_c 232 = .ok (.if_icmp .ge 7, 3) := by decide +kernel
theorem qm_M_shape_235 : decode qm_M_shape_c 235 = .ok (.sipush 521, 3) := by decide +kernel
theorem qm_M_shape_238 : decode qm_M_shape_c 238 = .ok (.ireturn, 1) := by decide +kernel
theorem qm_M_shape_239 : decode qm_M_shape_c 239 = .ok (.iload_n 0, 1) := by decide +kernel
theorem qm_M_shape_240 : decode qm_M_shape_c 240 = .ok (.bipush 66, 2) := by decide +kernel
theorem qm_M_shape_242 : decode qm_M_shape_c 242 = .ok (.if_icmp .ge 7, 3) := by decide +kernel
theorem qm_M_shape_245 : decode qm_M_shape_c 245 = .ok (.sipush 523, 3) := by decide +kernel
theorem qm_M_shape_248 : decode qm_M_shape_c 248 = .ok (.ireturn, 1) := by decide +kernel
theorem qm_M_shape_249 : decode qm_M_shape_c 249 = .ok (.iload_n 0, 1) := by decide +kernel
theorem qm_M_shape_250 : decode qm_M_shape_c 250 = .ok (.bipush 68, 2) := by decide +kernel
theorem qm_M_shape_252 : decode qm_M_shape_c 252 = .ok (.if_icmp .ge 7, 3) := by decide +kernel
theorem qm_M_shape_255 : decode qm_M_shape_c 255 = .ok (.sipush 16745, 3) := by decide +kernel
theorem qm_M_shape_258 : decode qm_M_shape_c 258 = .ok (.ireturn, 1) := by decide +kernel
theorem qm_M_shape_259 : decode qm_M_shape_c 259 = .ok (.iload_n 0, 1) := by decide +kernel
theorem qm_M_shape_260 : decode qm_M_shape_c 260 = .ok (.bipush 68, 2) := by decide +kernel
theorem qm_M_shape_262 : decode qm_M_shape_c 262 = .ok (.if_icmp .ne 9, 3) := by decide +kernel
theorem qm_M_shape_265 : decode qm_M_shape_c 265 = .ok (.sipush 137, 3) := by decide +kernel
theorem qm_M_shape_268 : decode qm_M_shape_c 268 = .ok (.goto 6, 3) := by decide +kernel
theorem qm_M_shape_271 : decode qm_M_shape_c 271 = .ok (.sipush 4385, 3) := by decide +kernel
theorem qm_M_shape_274 : decode qm_M_shape_c 274 = .ok (.ireturn, 1) := by decide +kernel
theorem qm_M_signed_0 : decode qm_M_signed_c 0 = .ok (.iload_n 0, 1) := by decide +kernel
theorem qm_M_signed_1 : decode qm_M_signed_c 1 = .ok (.bipush 24, 2) := by decide +kernel
theorem qm_M_signed_3 : decode qm_M_signed_c 3 = .ok (.ishl, 1) := by decide +kernel
theorem qm_M_signed_4 : decode qm_M_signed_c 4 = .ok (.bipush 24, 2) := by decide +kernel
theorem qm_M_signed_6 : decode qm_M_signed_c 6 = .ok (.ishr, 1) := by decide +kernel
theorem qm_M_signed_7 : decode qm_M_signed_c 7 = .ok (.ireturn, 1) := by decide +kernel
theorem qm_M_readLong_0 : decode qm_M_readLong_c 0 = .ok (.iconst 0, 1) := by decide +kernel
theorem qm_M_readLong_1 : decode qm_M_readLong_c 1 = .ok (.istore_n 2, 1) := by decide +kernel
theorem qm_M_readLong_2 : decode qm_M_readLong_c 2 = .ok (.iconst 0, 1) := by decide +kernel
theorem qm_M_readLong_3 : decode qm_M_readLong_c 3 = .ok (.istore_n 3, 1) := by decide +kernel
theorem qm_M_readLong_4 : decode qm_M_readLong_c 4 = .ok (.iload_n 3, 1) := by decide +kernel
theorem qm_M_readLong_5 : decode qm_M_readLong_c 5 = .ok (.iconst 4, 1) := by decide +kernel
theorem qm_M_readLong_6 : decode qm_M_readLong_c 6 = .ok (.if_icmp .ge 24, 3) := by decide +kernel
theorem qm_M_readLong_9 : decode qm_M_readLong_c 9 = .ok (.iload_n 2, 1) := by decide +kernel
theorem qm_M_readLong_10 : decode qm_M_readLong_c 10 = .ok (.aload_n 0, 1) := by decide +kernel
theorem qm_M_readLong_11 : decode qm_M_readLong_c 11 = .ok (.iload_n 1, 1) := by decide +kernel
theorem qm_M_readLong_12 : decode qm_M_readLong_c 12 = .ok (.iload_n 3, 1) := by decide +kernel
theorem qm_M_readLong_13 : decode qm_M_readLong_c 13 = .ok (.iadd, 1) := by decide +kernel
theorem qm_M_readLong_14 : decode qm_M_readLong_c 14 = .ok (.invokevirtual 81, 3) := by decide +kernel
theorem qm_M_readLong_17 : decode qm_M_readLong_c 17 = .ok (.bipush 8, 2) := by decide +kernel
theorem qm_M_readLong_19 : decode qm_M_readLong_c 19 = .ok (.iload_n 3, 1) := by decide +kernel
theorem qm_M_readLong_20 : decode qm_M_readLong_c 20 = .ok (.imul, 1) := by decide +kernel
theorem qm_M_readLong_21 : decode qm_M_readLong_c 21 = .ok (.ishl, 1) := by decide +kernel
theorem qm_M_readLong_22 : decode qm_M_readLong_c 22 = .ok (.ior, 1) := by decide +kernel
theorem qm_M_readLong_23 : decode qm_M_readLong_c 23 = .ok (.istore_n 2, 1) := by decide +kernel
theorem qm_M_readLong_24 : decode qm_M_readLong_c 24 = .ok (.iinc 3 1, 3) := by decide +kernel
theorem qm_M_readLong_27 : decode qm_M_readLong_c 27 = .ok (.goto (-23), 3) := by decide +kernel
theorem qm_M_readLong_30 : decode qm_M_readLong_c 30 = .ok (.iload_n 2, 1) := by decide +kernel
theorem qm_M_readLong_31 : decode qm_M_readLong_c 31 = .ok (.ireturn, 1) := by decide +kernel
set_option maxHeartbeats 4000000 in
set_option maxRecDepth 100000 in
theorem wM_find_357 {l : Launch} {D : va_G} {h : Nat → Nat} {K : Nat → ClassId} {res : Int32 × qS} {p : Program} {e : Env} {s : State} {m : MethodId} {args : Array Value} {below : List Frame} {meth : Method} {c : Code} {A : Nat → Prop} {ad : Nat → Nat} (C : qC p s m args meth c qm_M_find_c 11 (some .int) qR_M ad) (S : qS) (y0 : Int32) (hf : fM_find_357 S y0 = some res) : ∀ (H : Heap) (locs : List Loc) (ls : Array Slot), qG D qCl (mT K) A s (mW h K S) H locs → lv_has ls 11 [] → W p l e ({ frames := 1, cells := 0, slots := 0, locals := 24 }) s m args below meth c H locs 0 0 (MQ below (qQi D qCl (mT K) (mW h K) A res) args s 0 0 A) (F0 m 357 ls [.int y0]) := by
  intro H locs ls G hl
  unfold fM_find_357 at hf
  exact q_iret (wf := (mW h K)) C G hf qm_M_find_357
set_option maxHeartbeats 4000000 in
set_option maxRecDepth 100000 in
theorem wM_find_331 {l : Launch} {D : va_G} {h : Nat → Nat} {K : Nat → ClassId} {res : Int32 × qS} {p : Program} {e : Env} {s : State} {m : MethodId} {args : Array Value} {below : List Frame} {meth : Method} {c : Code} {A : Nat → Prop} {ad : Nat → Nat} (C : qC p s m args meth c qm_M_find_c 11 (some .int) qR_M ad) (S : qS) (x1 : Int32) (x4 : Int32) (x8 : Int32) (hf : fM_find_331 S x1 x4 x8 = some res) : ∀ (H : Heap) (locs : List Loc) (ls : Array Slot), qG D qCl (mT K) A s (mW h K S) H locs → lv_has ls 11 [(1, .int x1), (4, .int x4), (8, .int x8)] → W p l e ({ frames := 1, cells := 0, slots := 0, locals := 24 }) s m args below meth c H locs 0 0 (MQ below (qQi D qCl (mT K) (mW h K) A res) args s 0 0 A) (F0 m 331 ls []) := by
  intro H locs ls G hl
  unfold fM_find_331 at hf
  refine lv_iload C.1 C.2.1 qm_M_find_331 (lv_at hl 2 rfl) ?_
  refine lv_if_lt (tgt := 344) C.1 C.2.1 qm_M_find_333 (by decide) (fun b1 => ?_) (fun b1 => ?_)
  · have hf := if_t b1 hf
    refine lv_bipush (v := 64) C.1 C.2.1 qm_M_find_344 (by decide) ?_
    refine lv_iload C.1 C.2.1 qm_M_find_346 (lv_at hl 2 rfl) ?_
    refine lv_bipush (v := 31) C.1 C.2.1 qm_M_find_348 (by decide) ?_
    refine lv_iand C.1 C.2.1 qm_M_find_350 ?_
    refine lv_imul C.1 C.2.1 qm_M_find_351 ?_
    refine lv_iload_n C.1 C.2.1 qm_M_find_352 rfl (lv_at hl 0 rfl) ?_
    refine lv_bipush (v := 63) C.1 C.2.1 qm_M_find_353 (by decide) ?_
    refine lv_iand C.1 C.2.1 qm_M_find_355 ?_
    refine lv_iadd C.1 C.2.1 qm_M_find_356 ?_
    exact wM_find_357 C S ((64 * (x8 &&& 31)) + (x1 &&& 63)) hf _ _ _ G (lv_sub hl [] rfl)
  · have hf := if_f b1 hf
    refine lv_bipush (v := (-60)) C.1 C.2.1 qm_M_find_336 (by decide) ?_
    refine lv_iload C.1 C.2.1 qm_M_find_338 (lv_at hl 1 rfl) ?_
    refine lv_isub C.1 C.2.1 qm_M_find_340 ?_
    refine lv_goto (tgt := 357) C.1 C.2.1 qm_M_find_341 (by decide) ?_
    exact wM_find_357 C S ((-60) - x4) hf _ _ _ G (lv_sub hl [] rfl)
set_option maxHeartbeats 4000000 in
set_option maxRecDepth 100000 in
theorem wM_find_325 {l : Launch} {D : va_G} {h : Nat → Nat} {K : Nat → ClassId} {res : Int32 × qS} {p : Program} {e : Env} {s : State} {m : MethodId} {args : Array Value} {below : List Frame} {meth : Method} {c : Code} {A : Nat → Prop} {ad : Nat → Nat} (C : qC p s m args meth c qm_M_find_c 11 (some .int) qR_M ad) (S : qS) (x4 : Int32) (hf : fM_find_325 S x4 = some res) : ∀ (H : Heap) (locs : List Loc) (ls : Array Slot), qG D qCl (mT K) A s (mW h K S) H locs → lv_has ls 11 [(4, .int x4)] → W p l e ({ frames := 1, cells := 0, slots := 0, locals := 24 }) s m args below meth c H locs 0 0 (MQ below (qQi D qCl (mT K) (mW h K) A res) args s 0 0 A) (F0 m 325 ls []) := by
  intro H locs ls G hl
  unfold fM_find_325 at hf
  refine lv_bipush (v := (-50)) C.1 C.2.1 qm_M_find_325 (by decide) ?_
  refine lv_iload C.1 C.2.1 qm_M_find_327 (lv_at hl 0 rfl) ?_
  refine lv_isub C.1 C.2.1 qm_M_find_329 ?_
  exact q_iret (wf := (mW h K)) C G hf qm_M_find_330
set_option maxHeartbeats 4000000 in
set_option maxRecDepth 100000 in
theorem wM_find_271 {l : Launch} {D : va_G} {h : Nat → Nat} {K : Nat → ClassId} {res : Int32 × qS} {p : Program} {e : Env} {s : State} {m : MethodId} {args : Array Value} {below : List Frame} {meth : Method} {c : Code} {A : Nat → Prop} {ad : Nat → Nat} (C : qC p s m args meth c qm_M_find_c 11 (some .int) qR_M ad) (S : qS) (x1 : Int32) (x2 : Int32) (x3 : Int32) (x4 : Int32) (hf : fM_find_271 S x1 x2 x3 x4 = some res) : ∀ (H : Heap) (locs : List Loc) (ls : Array Slot), qG D qCl (mT K) A s (mW h K S) H locs → lv_has ls 11 [(0, .ref (h 0)), (1, .int x1), (2, .int x2), (3, .int x3), (4, .int x4)] → W p l e ({ frames := 1, cells := 0, slots := 0, locals := 24 }) s m args below meth c H locs 0 0 (MQ below (qQi D qCl (mT K) (mW h K) A res) args s 0 0 A) (F0 m 271 ls []) := by
  intro H locs ls G hl
  unfold fM_find_271 at hf
  refine lv_aload_n C.1 C.2.1 qm_M_find_271 rfl (lv_at hl 0 rfl) ?_
  refine lv_aload_n C.1 C.2.1 qm_M_find_272 rfl (lv_at hl 0 rfl) ?_
  refine q_get (wf := (mW h K)) (v := .int (S.1 11)) C G qi_M 0 rfl rfl 19 (by decide) qz_850 rfl qm_M_find_273 ?_
  obtain ⟨q1, c1, hf⟩ := bnd_s hf
  refine q_callVi (wf := (mW h K)) (n := 1) (As := [.int (S.1 11)]) (q0 := 0) (ci := 7) C G hl.1 (kM_bare (l := l) c1) qx_M_56 qm_M_bare_d ⟨by decide, by decide⟩ ⟨Nat.le_refl _, Nat.le_refl _⟩ rfl rfl rfl rfl rfl (Nat.le_of_ble_eq_true rfl) qm_M_find_276 (fun H locs G => ?_)
  refine lv_istore (lv' := [(8, .int q1.1), (0, .ref (h 0)), (1, .int x1), (2, .int x2), (3, .int x3), (4, .int x4)]) C.1 C.2.1 qm_M_find_279 hl (by decide) rfl (fun ls hl => ?_)
  refine lv_iload C.1 C.2.1 qm_M_find_281 (lv_at hl 0 rfl) ?_
  refine lv_bipush (v := 27) C.1 C.2.1 qm_M_find_283 (by decide) ?_
  refine lv_ishr C.1 C.2.1 qm_M_find_285 ?_
  refine lv_iconst (v := 3) C.1 C.2.1 qm_M_find_286 (by decide) ?_
  refine lv_iand C.1 C.2.1 qm_M_find_287 ?_
  refine lv_istore (lv' := [(9, .int ((q1.1 >>> ((27 : Int32) &&& 31)) &&& 3)), (8, .int q1.1), (0, .ref (h 0)), (1, .int x1), (2, .int x2), (3, .int x3), (4, .int x4)]) C.1 C.2.1 qm_M_find_288 hl (by decide) rfl (fun ls hl => ?_)
  refine lv_iload C.1 C.2.1 qm_M_find_290 (lv_at hl 1 rfl) ?_
  refine lv_bipush (v := 29) C.1 C.2.1 qm_M_find_292 (by decide) ?_
  refine lv_ishr C.1 C.2.1 qm_M_find_294 ?_
  refine lv_iconst (v := 3) C.1 C.2.1 qm_M_find_295 (by decide) ?_
  refine lv_iand C.1 C.2.1 qm_M_find_296 ?_
  refine lv_istore (lv' := [(10, .int ((q1.1 >>> ((29 : Int32) &&& 31)) &&& 3)), (9, .int ((q1.1 >>> ((27 : Int32) &&& 31)) &&& 3)), (8, .int q1.1), (0, .ref (h 0)), (1, .int x1), (2, .int x2), (3, .int x3), (4, .int x4)]) C.1 C.2.1 qm_M_find_297 hl (by decide) rfl (fun ls hl => ?_)
  refine lv_iload_n C.1 C.2.1 qm_M_find_299 rfl (lv_at hl 5 rfl) ?_
  refine lv_if_eq (tgt := 319) C.1 C.2.1 qm_M_find_300 (by decide) (fun b2 => ?_) (fun b2 => ?_)
  · have hf := if_t b2 hf
    refine lv_iload_n C.1 C.2.1 qm_M_find_319 rfl (lv_at hl 6 rfl) ?_
    refine lv_iload C.1 C.2.1 qm_M_find_320 (lv_at hl 1 rfl) ?_
    refine lv_icmp_le (tgt := 331) C.1 C.2.1 qm_M_find_322 (by decide) (fun b3 => ?_) (fun b3 => ?_)
    · have hf := if_t b3 hf
      exact wM_find_331 C q1.2 x1 x4 q1.1 hf _ _ _ G (lv_sub hl [4, 7, 2] rfl)
    · have hf := if_f b3 hf
      exact wM_find_325 C q1.2 x4 hf _ _ _ G (lv_sub hl [7] rfl)
  · have hf := if_f b2 hf
    refine lv_iload C.1 C.2.1 qm_M_find_303 (lv_at hl 0 rfl) ?_
    refine lv_iload C.1 C.2.1 qm_M_find_305 (lv_at hl 1 rfl) ?_
    refine lv_icmp_gt (tgt := 325) C.1 C.2.1 qm_M_find_307 (by decide) (fun b4 => ?_) (fun b4 => ?_)
    · have hf := if_t b4 hf
      exact wM_find_325 C q1.2 x4 hf _ _ _ G (lv_sub hl [7] rfl)
    · have hf := if_f b4 hf
      refine lv_iload_n C.1 C.2.1 qm_M_find_310 rfl (lv_at hl 6 rfl) ?_
      refine lv_iload C.1 C.2.1 qm_M_find_311 (lv_at hl 0 rfl) ?_
      refine lv_icmp_le (tgt := 331) C.1 C.2.1 qm_M_find_313 (by decide) (fun b5 => ?_) (fun b5 => ?_)
      · have hf := if_t b5 hf
        exact wM_find_331 C q1.2 x1 x4 q1.1 hf _ _ _ G (lv_sub hl [4, 7, 2] rfl)
      · have hf := if_f b5 hf
        refine lv_goto (tgt := 325) C.1 C.2.1 qm_M_find_316 (by decide) ?_
        exact wM_find_325 C q1.2 x4 hf _ _ _ G (lv_sub hl [7] rfl)
set_option maxHeartbeats 4000000 in
set_option maxRecDepth 100000 in
theorem wM_find_214 {l : Launch} {D : va_G} {h : Nat → Nat} {K : Nat → ClassId} {res : Int32 × qS} {p : Program} {e : Env} {s : State} {m : MethodId} {args : Array Value} {below : List Frame} {meth : Method} {c : Code} {A : Nat → Prop} {ad : Nat → Nat} (C : qC p s m args meth c qm_M_find_c 11 (some .int) qR_M ad) (S : qS) (x4 : Int32) (hf : fM_find_214 S x4 = some res) : ∀ (H : Heap) (locs : List Loc) (ls : Array Slot), qG D qCl (mT K) A s (mW h K S) H locs → lv_has ls 11 [(4, .int x4)] → W p l e ({ frames := 1, cells := 0, slots := 0, locals := 24 }) s m args below meth c H locs 0 0 (MQ below (qQi D qCl (mT K) (mW h K) A res) args s 0 0 A) (F0 m 214 ls []) := by
  intro H locs ls G hl
  unfold fM_find_214 at hf
  refine lv_bipush (v := (-53)) C.1 C.2.1 qm_M_find_214 (by decide) ?_
  refine lv_iload C.1 C.2.1 qm_M_find_216 (lv_at hl 0 rfl) ?_
  refine lv_isub C.1 C.2.1 qm_M_find_218 ?_
  exact q_iret (wf := (mW h K)) C G hf qm_M_find_219
set_option maxHeartbeats 4000000 in
set_option maxRecDepth 100000 in
theorem wM_find_122 {l : Launch} {D : va_G} {h : Nat → Nat} {K : Nat → ClassId} {res : Int32 × qS} {p : Program} {e : Env} {s : State} {m : MethodId} {args : Array Value} {below : List Frame} {meth : Method} {c : Code} {A : Nat → Prop} {ad : Nat → Nat} (C : qC p s m args meth c qm_M_find_c 11 (some .int) qR_M ad) (S : qS) (x1 : Int32) (x2 : Int32) (x3 : Int32) (x4 : Int32) (x5 : Int32) (x6 : Int32) (y0 : Int32) (hf : fM_find_122 S x1 x2 x3 x4 x5 x6 y0 = some res) : ∀ (H : Heap) (locs : List Loc) (ls : Array Slot), qG D qCl (mT K) A s (mW h K S) H locs → lv_has ls 11 [(0, .ref (h 0)), (1, .int x1), (2, .int x2), (3, .int x3), (4, .int x4), (5, .int x5), (6, .int x6)] → W p l e ({ frames := 1, cells := 0, slots := 0, locals := 24 }) s m args below meth c H locs 0 0 (MQ below (qQi D qCl (mT K) (mW h K) A res) args s 0 0 A) (F0 m 122 ls [.int y0]) := by
  intro H locs ls G hl
  unfold fM_find_122 at hf
  refine lv_istore (lv' := [(7, .int y0), (0, .ref (h 0)), (1, .int x1), (2, .int x2), (3, .int x3), (4, .int x4), (5, .int x5), (6, .int x6)]) C.1 C.2.1 qm_M_find_122 hl (by decide) rfl (fun ls hl => ?_)
  refine lv_iload C.1 C.2.1 qm_M_find_124 (lv_at hl 0 rfl) ?_
  refine lv_if_ne (tgt := 135) C.1 C.2.1 qm_M_find_126 (by decide) (fun b1 => ?_) (fun b1 => ?_)
  · have hf := if_t b1 hf
    refine lv_aload_n C.1 C.2.1 qm_M_find_135 rfl (lv_at hl 1 rfl) ?_
    refine lv_aload_n C.1 C.2.1 qm_M_find_136 rfl (lv_at hl 1 rfl) ?_
    refine q_get (wf := (mW h K)) (v := .ref (h 3)) C G qi_M 0 rfl rfl 3 (by decide) qz_834 rfl qm_M_find_137 ?_
    refine lv_bipush (v := 12) C.1 C.2.1 qm_M_find_140 (by decide) ?_
    refine q_iald (wf := (mW h K)) C G 3 2 rfl rfl (by decide) qm_M_find_142 ?_
    refine lv_iconst (v := 4) C.1 C.2.1 qm_M_find_143 (by decide) ?_
    refine lv_iload C.1 C.2.1 qm_M_find_144 (lv_at hl 7 rfl) ?_
    refine lv_imul C.1 C.2.1 qm_M_find_146 ?_
    refine lv_iadd C.1 C.2.1 qm_M_find_147 ?_
    refine lv_sipush (v := 2047) C.1 C.2.1 qm_M_find_148 (by decide) ?_
    refine lv_iand C.1 C.2.1 qm_M_find_151 ?_
    refine q_put (wf := (mW h K)) (S' := (pI S 11 (((gA S 2 12) + (4 * x6)) &&& 2047))) C G qi_M qY_M qy_M qn_M 0 rfl rfl 19 (by decide) qz_850 rfl rfl (Nat.le_of_ble_eq_true rfl) rfl qm_M_find_152 (fun H locs G => ?_)
    refine lv_iload C.1 C.2.1 qm_M_find_155 (lv_at hl 6 rfl) ?_
    refine lv_iconst (v := 2) C.1 C.2.1 qm_M_find_157 (by decide) ?_
    refine lv_icmp_ge (tgt := 271) C.1 C.2.1 qm_M_find_158 (by decide) (fun b2 => ?_) (fun b2 => ?_)
    · have hf := if_t b2 hf
      exact wM_find_271 C (pI S 11 (((gA S 2 12) + (4 * x6)) &&& 2047)) x1 x2 x3 x4 hf _ _ _ G (lv_sub hl [1, 2, 3, 4, 5] rfl)
    · have hf := if_f b2 hf
      refine lv_aload_n C.1 C.2.1 qm_M_find_161 rfl (lv_at hl 1 rfl) ?_
      refine q_get (wf := (mW h K)) (v := .ref (h 3)) C G qi_M 0 rfl rfl 3 (by decide) qz_834 rfl qm_M_find_162 ?_
      refine lv_bipush (v := 8) C.1 C.2.1 qm_M_find_165 (by decide) ?_
      refine lv_iconst (v := 2) C.1 C.2.1 qm_M_find_167 (by decide) ?_
      refine lv_iload C.1 C.2.1 qm_M_find_168 (lv_at hl 6 rfl) ?_
      refine lv_imul C.1 C.2.1 qm_M_find_170 ?_
      refine lv_iadd C.1 C.2.1 qm_M_find_171 ?_
      obtain ⟨b3, hf⟩ := chk_s hf
      refine q_iald (wf := (mW h K)) C G 3 2 rfl rfl b3 qm_M_find_172 ?_
      refine lv_iconst (v := 4) C.1 C.2.1 qm_M_find_173 (by decide) ?_
      refine lv_iload C.1 C.2.1 qm_M_find_174 (lv_at hl 7 rfl) ?_
      refine lv_imul C.1 C.2.1 qm_M_find_176 ?_
      refine lv_iadd C.1 C.2.1 qm_M_find_177 ?_
      refine lv_istore (lv' := [(8, .int ((gA (pI S 11 (((gA S 2 12) + (4 * x6)) &&& 2047)) 2 (8 + (2 * x5))) + (4 * x6))), (7, .int y0), (0, .ref (h 0)), (1, .int x1), (2, .int x2), (3, .int x3), (4, .int x4), (5, .int x5), (6, .int x6)]) C.1 C.2.1 qm_M_find_178 hl (by decide) rfl (fun ls hl => ?_)
      refine lv_iload C.1 C.2.1 qm_M_find_180 (lv_at hl 0 rfl) ?_
      refine lv_bipush (v := 6) C.1 C.2.1 qm_M_find_182 (by decide) ?_
      refine lv_iushr (v := ushr ((gA (pI S 11 (((gA S 2 12) + (4 * x6)) &&& 2047)) 2 (8 + (2 * x5))) + (4 * x6)) 6) C.1 C.2.1 qm_M_find_184 rfl ?_
      refine lv_ldc (own := "QuadModeModel") (v := 16777215) C.1 C.2.1 C.2.2.2.1 (C.2.2.2.2.1 _ qz_983) qm_M_find_185 ?_
      refine lv_iand C.1 C.2.1 qm_M_find_187 ?_
      refine lv_istore (lv' := [(9, .int ((ushr ((gA (pI S 11 (((gA S 2 12) + (4 * x6)) &&& 2047)) 2 (8 + (2 * x5))) + (4 * x6)) 6) &&& 16777215)), (8, .int ((gA (pI S 11 (((gA S 2 12) + (4 * x6)) &&& 2047)) 2 (8 + (2 * x5))) + (4 * x6))), (7, .int y0), (0, .ref (h 0)), (1, .int x1), (2, .int x2), (3, .int x3), (4, .int x4), (5, .int x5), (6, .int x6)]) C.1 C.2.1 qm_M_find_188 hl (by decide) rfl (fun ls hl => ?_)
      refine lv_iload C.1 C.2.1 qm_M_find_190 (lv_at hl 1 rfl) ?_
      refine lv_bipush (v := 30) C.1 C.2.1 qm_M_find_192 (by decide) ?_
      refine lv_iushr (v := ushr ((gA (pI S 11 (((gA S 2 12) + (4 * x6)) &&& 2047)) 2 (8 + (2 * x5))) + (4 * x6)) 30) C.1 C.2.1 qm_M_find_194 rfl ?_
      refine lv_iconst (v := 2) C.1 C.2.1 qm_M_find_195 (by decide) ?_
      refine lv_icmp_ne (tgt := 214) C.1 C.2.1 qm_M_find_196 (by decide) (fun b4 => ?_) (fun b4 => ?_)
      · have hf := if_t b4 hf
        exact wM_find_214 C (pI S 11 (((gA S 2 12) + (4 * x6)) &&& 2047)) x4 hf _ _ _ G (lv_sub hl [7] rfl)
      · have hf := if_f (not_not_intro b4) hf
        refine lv_iload C.1 C.2.1 qm_M_find_199 (lv_at hl 0 rfl) ?_
        refine lv_aload_n C.1 C.2.1 qm_M_find_201 rfl (lv_at hl 3 rfl) ?_
        refine q_get (wf := (mW h K)) (v := .ref (h 3)) C G qi_M 0 rfl rfl 3 (by decide) qz_834 rfl qm_M_find_202 ?_
        refine lv_bipush (v := 13) C.1 C.2.1 qm_M_find_205 (by decide) ?_
        refine q_iald (wf := (mW h K)) C G 3 2 rfl rfl (by decide) qm_M_find_207 ?_
        obtain ⟨q5, c5, hf⟩ := bnd_s hf
        refine q_callSi (wf := (mW h K)) (n := 2) (As := [.int ((ushr ((gA (pI S 11 (((gA S 2 12) + (4 * x6)) &&& 2047)) 2 (8 + (2 * x5))) + (4 * x6)) 6) &&& 16777215), .int (gA (pI S 11 (((gA S 2 12) + (4 * x6)) &&& 2047)) 2 13)]) C G hl.1 (kM_below (l := l) c5) qx_M_52 qm_M_below_d ⟨by decide, by decide⟩ ⟨Nat.le_refl _, Nat.le_refl _⟩ rfl rfl (Nat.le_of_ble_eq_true rfl) qm_M_find_208 (fun H locs G => ?_)
        refine lv_if_ne (tgt := 220) C.1 C.2.1 qm_M_find_211 (by decide) (fun b6 => ?_) (fun b6 => ?_)
        · have hf := if_t b6 hf
          refine lv_aload_n C.1 C.2.1 qm_M_find_220 rfl (lv_at hl 3 rfl) ?_
          refine lv_aload_n C.1 C.2.1 qm_M_find_221 rfl (lv_at hl 3 rfl) ?_
          refine q_get (wf := (mW h K)) (v := .ref (h 3)) C G qi_M 0 rfl rfl 3 (by decide) qz_834 rfl qm_M_find_222 ?_
          refine lv_bipush (v := 12) C.1 C.2.1 qm_M_find_225 (by decide) ?_
          refine q_iald (wf := (mW h K)) C G 3 2 rfl rfl (by decide) qm_M_find_227 ?_
          refine lv_iconst (v := 4) C.1 C.2.1 qm_M_find_228 (by decide) ?_
          refine lv_iload C.1 C.2.1 qm_M_find_229 (lv_at hl 0 rfl) ?_
          refine lv_imul C.1 C.2.1 qm_M_find_231 ?_
          refine lv_iadd C.1 C.2.1 qm_M_find_232 ?_
          obtain ⟨q7, c7, hf⟩ := bnd_s hf
          refine q_callVi (wf := (mW h K)) (n := 1) (As := [.int ((gA q5.2 2 12) + (4 * ((ushr ((gA (pI S 11 (((gA S 2 12) + (4 * x6)) &&& 2047)) 2 (8 + (2 * x5))) + (4 * x6)) 6) &&& 16777215)))]) (q0 := 0) (ci := 7) C G hl.1 (kM_bare (l := l) c7) qx_M_56 qm_M_bare_d ⟨by decide, by decide⟩ ⟨Nat.le_refl _, Nat.le_refl _⟩ rfl rfl rfl rfl rfl (Nat.le_of_ble_eq_true rfl) qm_M_find_233 (fun H locs G => ?_)
          refine lv_istore (lv' := [(10, .int q7.1), (9, .int ((ushr ((gA (pI S 11 (((gA S 2 12) + (4 * x6)) &&& 2047)) 2 (8 + (2 * x5))) + (4 * x6)) 6) &&& 16777215)), (8, .int ((gA (pI S 11 (((gA S 2 12) + (4 * x6)) &&& 2047)) 2 (8 + (2 * x5))) + (4 * x6))), (7, .int y0), (0, .ref (h 0)), (1, .int x1), (2, .int x2), (3, .int x3), (4, .int x4), (5, .int x5), (6, .int x6)]) C.1 C.2.1 qm_M_find_236 hl (by decide) rfl (fun ls hl => ?_)
          refine lv_iload C.1 C.2.1 qm_M_find_238 (lv_at hl 0 rfl) ?_
          refine lv_if_lt (tgt := 249) C.1 C.2.1 qm_M_find_240 (by decide) (fun b8 => ?_) (fun b8 => ?_)
          · have hf := if_t b8 hf
            refine lv_aload_n C.1 C.2.1 qm_M_find_249 rfl (lv_at hl 4 rfl) ?_
            refine lv_bipush (v := 64) C.1 C.2.1 qm_M_find_250 (by decide) ?_
            refine lv_iload C.1 C.2.1 qm_M_find_252 (lv_at hl 0 rfl) ?_
            refine lv_bipush (v := 31) C.1 C.2.1 qm_M_find_254 (by decide) ?_
            refine lv_iand C.1 C.2.1 qm_M_find_256 ?_
            refine lv_imul C.1 C.2.1 qm_M_find_257 ?_
            refine lv_iload C.1 C.2.1 qm_M_find_258 (lv_at hl 2 rfl) ?_
            refine lv_bipush (v := 63) C.1 C.2.1 qm_M_find_260 (by decide) ?_
            refine lv_iand C.1 C.2.1 qm_M_find_262 ?_
            refine lv_iadd C.1 C.2.1 qm_M_find_263 ?_
            refine lv_sipush (v := 2047) C.1 C.2.1 qm_M_find_264 (by decide) ?_
            refine lv_iand C.1 C.2.1 qm_M_find_267 ?_
            refine q_put (wf := (mW h K)) (S' := (pI q7.2 11 (((64 * (q7.1 &&& 31)) + (((gA (pI S 11 (((gA S 2 12) + (4 * x6)) &&& 2047)) 2 (8 + (2 * x5))) + (4 * x6)) &&& 63)) &&& 2047))) C G qi_M qY_M qy_M qn_M 0 rfl rfl 19 (by decide) qz_850 rfl rfl (Nat.le_of_ble_eq_true rfl) rfl qm_M_find_268 (fun H locs G => ?_)
            exact wM_find_271 C (pI q7.2 11 (((64 * (q7.1 &&& 31)) + (((gA (pI S 11 (((gA S 2 12) + (4 * x6)) &&& 2047)) 2 (8 + (2 * x5))) + (4 * x6)) &&& 63)) &&& 2047)) x1 x2 x3 x4 hf _ _ _ G (lv_sub hl [4, 5, 6, 7, 8] rfl)
          · have hf := if_f b8 hf
            refine lv_bipush (v := (-62)) C.1 C.2.1 qm_M_find_243 (by decide) ?_
            refine lv_iload C.1 C.2.1 qm_M_find_245 (lv_at hl 8 rfl) ?_
            refine lv_isub C.1 C.2.1 qm_M_find_247 ?_
            exact q_iret (wf := (mW h K)) C G hf qm_M_find_248
        · have hf := if_f (not_not_intro b6) hf
          exact wM_find_214 C q5.2 x4 hf _ _ _ G (lv_sub hl [7] rfl)
  · have hf := if_f (not_not_intro b1) hf
    refine lv_bipush (v := (-51)) C.1 C.2.1 qm_M_find_129 (by decide) ?_
    refine lv_iload C.1 C.2.1 qm_M_find_131 (lv_at hl 5 rfl) ?_
    refine lv_isub C.1 C.2.1 qm_M_find_133 ?_
    exact q_iret (wf := (mW h K)) C G hf qm_M_find_134
set_option maxHeartbeats 4000000 in
set_option maxRecDepth 100000 in
theorem wM_find_121 {l : Launch} {D : va_G} {h : Nat → Nat} {K : Nat → ClassId} {res : Int32 × qS} {p : Program} {e : Env} {s : State} {m : MethodId} {args : Array Value} {below : List Frame} {meth : Method} {c : Code} {A : Nat → Prop} {ad : Nat → Nat} (C : qC p s m args meth c qm_M_find_c 11 (some .int) qR_M ad) (S : qS) (x1 : Int32) (x2 : Int32) (x3 : Int32) (x4 : Int32) (x5 : Int32) (x6 : Int32) (hf : fM_find_121 S x1 x2 x3 x4 x5 x6 = some res) : ∀ (H : Heap) (locs : List Loc) (ls : Array Slot), qG D qCl (mT K) A s (mW h K S) H locs → lv_has ls 11 [(0, .ref (h 0)), (1, .int x1), (2, .int x2), (3, .int x3), (4, .int x4), (5, .int x5), (6, .int x6)] → W p l e ({ frames := 1, cells := 0, slots := 0, locals := 24 }) s m args below meth c H locs 0 0 (MQ below (qQi D qCl (mT K) (mW h K) A res) args s 0 0 A) (F0 m 121 ls []) := by
  intro H locs ls G hl
  unfold fM_find_121 at hf
  refine lv_iconst (v := 0) C.1 C.2.1 qm_M_find_121 (by decide) ?_
  exact wM_find_122 C S x1 x2 x3 x4 x5 x6 0 hf _ _ _ G (lv_sub hl [0, 1, 2, 3, 4, 5, 6] rfl)
set_option maxHeartbeats 4000000 in
set_option maxRecDepth 100000 in
theorem wM_find_30 {l : Launch} {D : va_G} {h : Nat → Nat} {K : Nat → ClassId} {res : Int32 × qS} {p : Program} {e : Env} {s : State} {m : MethodId} {args : Array Value} {below : List Frame} {meth : Method} {c : Code} {A : Nat → Prop} {ad : Nat → Nat} (C : qC p s m args meth c qm_M_find_c 11 (some .int) qR_M ad) (S : qS) (x1 : Int32) (x2 : Int32) (x3 : Int32) (y0 : Int32) (hf : fM_find_30 S x1 x2 x3 y0 = some res) : ∀ (H : Heap) (locs : List Loc) (ls : Array Slot), qG D qCl (mT K) A s (mW h K S) H locs → lv_has ls 11 [(0, .ref (h 0)), (1, .int x1), (2, .int x2), (3, .int x3)] → W p l e ({ frames := 1, cells := 0, slots := 0, locals := 24 }) s m args below meth c H locs 0 0 (MQ below (qQi D qCl (mT K) (mW h K) A res) args s 0 0 A) (F0 m 30 ls [.int y0]) := by
  intro H locs ls G hl
  unfold fM_find_30 at hf
  refine lv_istore (lv' := [(4, .int y0), (0, .ref (h 0)), (1, .int x1), (2, .int x2), (3, .int x3)]) C.1 C.2.1 qm_M_find_30 hl (by decide) rfl (fun ls hl => ?_)
  refine lv_iload_n C.1 C.2.1 qm_M_find_32 rfl (lv_at hl 2 rfl) ?_
  refine lv_bipush (v := 30) C.1 C.2.1 qm_M_find_33 (by decide) ?_
  refine lv_iushr (v := ushr x1 30) C.1 C.2.1 qm_M_find_35 rfl ?_
  refine lv_istore (lv' := [(5, .int (ushr x1 30)), (4, .int y0), (0, .ref (h 0)), (1, .int x1), (2, .int x2), (3, .int x3)]) C.1 C.2.1 qm_M_find_36 hl (by decide) rfl (fun ls hl => ?_)
  refine lv_iload_n C.1 C.2.1 qm_M_find_38 rfl (lv_at hl 3 rfl) ?_
  refine lv_bipush (v := 6) C.1 C.2.1 qm_M_find_39 (by decide) ?_
  refine lv_iushr (v := ushr x1 6) C.1 C.2.1 qm_M_find_41 rfl ?_
  refine lv_ldc (own := "QuadModeModel") (v := 16777215) C.1 C.2.1 C.2.2.2.1 (C.2.2.2.2.1 _ qz_983) qm_M_find_42 ?_
  refine lv_iand C.1 C.2.1 qm_M_find_44 ?_
  refine lv_istore (lv' := [(6, .int ((ushr x1 6) &&& 16777215)), (5, .int (ushr x1 30)), (4, .int y0), (0, .ref (h 0)), (1, .int x1), (2, .int x2), (3, .int x3)]) C.1 C.2.1 qm_M_find_45 hl (by decide) rfl (fun ls hl => ?_)
  refine lv_iload C.1 C.2.1 qm_M_find_47 (lv_at hl 1 rfl) ?_
  refine lv_if_ne (tgt := 67) C.1 C.2.1 qm_M_find_49 (by decide) (fun b1 => ?_) (fun b1 => ?_)
  · have hf := if_t b1 hf
    refine lv_iload C.1 C.2.1 qm_M_find_67 (lv_at hl 1 rfl) ?_
    refine lv_iconst (v := 1) C.1 C.2.1 qm_M_find_69 (by decide) ?_
    refine lv_icmp_ne (tgt := 96) C.1 C.2.1 qm_M_find_70 (by decide) (fun b2 => ?_) (fun b2 => ?_)
    · have hf := if_t b2 hf
      refine lv_iload C.1 C.2.1 qm_M_find_96 (lv_at hl 1 rfl) ?_
      refine lv_iconst (v := 2) C.1 C.2.1 qm_M_find_98 (by decide) ?_
      refine lv_icmp_ne (tgt := 121) C.1 C.2.1 qm_M_find_99 (by decide) (fun b3 => ?_) (fun b3 => ?_)
      · have hf := if_t b3 hf
        exact wM_find_121 C S x1 x2 x3 y0 (ushr x1 30) ((ushr x1 6) &&& 16777215) hf _ _ _ G (lv_sub hl [3, 4, 5, 6, 2, 1, 0] rfl)
      · have hf := if_f (not_not_intro b3) hf
        refine lv_iload C.1 C.2.1 qm_M_find_102 (lv_at hl 0 rfl) ?_
        refine lv_aload_n C.1 C.2.1 qm_M_find_104 rfl (lv_at hl 3 rfl) ?_
        refine q_get (wf := (mW h K)) (v := .ref (h 3)) C G qi_M 0 rfl rfl 3 (by decide) qz_834 rfl qm_M_find_105 ?_
        refine lv_bipush (v := 13) C.1 C.2.1 qm_M_find_108 (by decide) ?_
        refine q_iald (wf := (mW h K)) C G 3 2 rfl rfl (by decide) qm_M_find_110 ?_
        obtain ⟨q4, c4, hf⟩ := bnd_s hf
        refine q_callSi (wf := (mW h K)) (n := 2) (As := [.int ((ushr x1 6) &&& 16777215), .int (gA S 2 13)]) C G hl.1 (kM_below (l := l) c4) qx_M_52 qm_M_below_d ⟨by decide, by decide⟩ ⟨Nat.le_refl _, Nat.le_refl _⟩ rfl rfl (Nat.le_of_ble_eq_true rfl) qm_M_find_111 (fun H locs G => ?_)
        refine lv_if_eq (tgt := 121) C.1 C.2.1 qm_M_find_114 (by decide) (fun b5 => ?_) (fun b5 => ?_)
        · have hf := if_t b5 hf
          exact wM_find_121 C q4.2 x1 x2 x3 y0 (ushr x1 30) ((ushr x1 6) &&& 16777215) hf _ _ _ G (lv_sub hl [3, 4, 5, 6, 2, 1, 0] rfl)
        · have hf := if_f b5 hf
          refine lv_iconst (v := 1) C.1 C.2.1 qm_M_find_117 (by decide) ?_
          refine lv_goto (tgt := 122) C.1 C.2.1 qm_M_find_118 (by decide) ?_
          exact wM_find_122 C q4.2 x1 x2 x3 y0 (ushr x1 30) ((ushr x1 6) &&& 16777215) 1 hf _ _ _ G (lv_sub hl [3, 4, 5, 6, 2, 1, 0] rfl)
    · have hf := if_f (not_not_intro b2) hf
      refine lv_iload C.1 C.2.1 qm_M_find_73 (lv_at hl 0 rfl) ?_
      refine lv_aload_n C.1 C.2.1 qm_M_find_75 rfl (lv_at hl 3 rfl) ?_
      refine q_get (wf := (mW h K)) (v := .ref (h 3)) C G qi_M 0 rfl rfl 3 (by decide) qz_834 rfl qm_M_find_76 ?_
      refine lv_bipush (v := 11) C.1 C.2.1 qm_M_find_79 (by decide) ?_
      refine q_iald (wf := (mW h K)) C G 3 2 rfl rfl (by decide) qm_M_find_81 ?_
      obtain ⟨q6, c6, hf⟩ := bnd_s hf
      refine q_callSi (wf := (mW h K)) (n := 2) (As := [.int ((ushr x1 6) &&& 16777215), .int (gA S 2 11)]) C G hl.1 (kM_below (l := l) c6) qx_M_52 qm_M_below_d ⟨by decide, by decide⟩ ⟨Nat.le_refl _, Nat.le_refl _⟩ rfl rfl (Nat.le_of_ble_eq_true rfl) qm_M_find_82 (fun H locs G => ?_)
      refine lv_if_ne (tgt := 92) C.1 C.2.1 qm_M_find_85 (by decide) (fun b7 => ?_) (fun b7 => ?_)
      · have hf := if_t b7 hf
        refine lv_iconst (v := 0) C.1 C.2.1 qm_M_find_92 (by decide) ?_
        refine lv_goto (tgt := 122) C.1 C.2.1 qm_M_find_93 (by decide) ?_
        exact wM_find_122 C q6.2 x1 x2 x3 y0 (ushr x1 30) ((ushr x1 6) &&& 16777215) 0 hf _ _ _ G (lv_sub hl [3, 4, 5, 6, 2, 1, 0] rfl)
      · have hf := if_f (not_not_intro b7) hf
        refine lv_iconst (v := 1) C.1 C.2.1 qm_M_find_88 (by decide) ?_
        refine lv_goto (tgt := 122) C.1 C.2.1 qm_M_find_89 (by decide) ?_
        exact wM_find_122 C q6.2 x1 x2 x3 y0 (ushr x1 30) ((ushr x1 6) &&& 16777215) 1 hf _ _ _ G (lv_sub hl [3, 4, 5, 6, 2, 1, 0] rfl)
  · have hf := if_f (not_not_intro b1) hf
    refine lv_iload C.1 C.2.1 qm_M_find_52 (lv_at hl 0 rfl) ?_
    refine lv_aload_n C.1 C.2.1 qm_M_find_54 rfl (lv_at hl 3 rfl) ?_
    refine q_get (wf := (mW h K)) (v := .ref (h 3)) C G qi_M 0 rfl rfl 3 (by decide) qz_834 rfl qm_M_find_55 ?_
    refine lv_bipush (v := 9) C.1 C.2.1 qm_M_find_58 (by decide) ?_
    refine q_iald (wf := (mW h K)) C G 3 2 rfl rfl (by decide) qm_M_find_60 ?_
    obtain ⟨q8, c8, hf⟩ := bnd_s hf
    refine q_callSi (wf := (mW h K)) (n := 2) (As := [.int ((ushr x1 6) &&& 16777215), .int (gA S 2 9)]) C G hl.1 (kM_below (l := l) c8) qx_M_52 qm_M_below_d ⟨by decide, by decide⟩ ⟨Nat.le_refl _, Nat.le_refl _⟩ rfl rfl (Nat.le_of_ble_eq_true rfl) qm_M_find_61 (fun H locs G => ?_)
    refine lv_goto (tgt := 122) C.1 C.2.1 qm_M_find_64 (by decide) ?_
    exact wM_find_122 C q8.2 x1 x2 x3 y0 (ushr x1 30) ((ushr x1 6) &&& 16777215) q8.1 hf _ _ _ G (lv_sub hl [3, 4, 5, 6, 2, 1, 0] rfl)
set_option maxHeartbeats 4000000 in
set_option maxRecDepth 100000 in
theorem wM_find {l : Launch} {D : va_G} {h : Nat → Nat} {K : Nat → ClassId} {res : Int32 × qS} {p : Program} {e : Env} {s : State} {m : MethodId} {args : Array Value} {below : List Frame} {meth : Method} {c : Code} {A : Nat → Prop} {ad : Nat → Nat} (C : qC p s m args meth c qm_M_find_c 11 (some .int) qR_M ad) (S : qS) (a1 : Int32) (a2 : Int32) (a3 : Int32) (hf : fM_find S a1 a2 a3 = some res) : ∀ (H : Heap) (locs : List Loc) (ls : Array Slot), qG D qCl (mT K) A s (mW h K S) H locs → lv_has ls 11 [(0, .ref (h 0)), (1, .int a1), (2, .int a2), (3, .int a3)] → W p l e ({ frames := 1, cells := 0, slots := 0, locals := 24 }) s m args below meth c H locs 0 0 (MQ below (qQi D qCl (mT K) (mW h K) A res) args s 0 0 A) (F0 m 0 ls []) := by
  intro H locs ls G hl
  unfold fM_find at hf
  refine lv_aload_n C.1 C.2.1 qm_M_find_0 rfl (lv_at hl 0 rfl) ?_
  refine lv_iconst (v := (-1)) C.1 C.2.1 qm_M_find_1 (by decide) ?_
  refine q_put (wf := (mW h K)) (S' := (pI S 11 (-1))) C G qi_M qY_M qy_M qn_M 0 rfl rfl 19 (by decide) qz_850 rfl rfl (Nat.le_of_ble_eq_true rfl) rfl qm_M_find_2 (fun H locs G => ?_)
  refine lv_aload_n C.1 C.2.1 qm_M_find_5 rfl (lv_at hl 0 rfl) ?_
  refine q_get (wf := (mW h K)) (v := .ref (h 3)) C G qi_M 0 rfl rfl 3 (by decide) qz_834 rfl qm_M_find_6 ?_
  refine lv_bipush (v := 56) C.1 C.2.1 qm_M_find_9 (by decide) ?_
  refine q_iald (wf := (mW h K)) C G 3 2 rfl rfl (by decide) qm_M_find_11 ?_
  refine lv_if_ne (tgt := 21) C.1 C.2.1 qm_M_find_12 (by decide) (fun b1 => ?_) (fun b1 => ?_)
  · have hf := if_t b1 hf
    refine lv_iload_n C.1 C.2.1 qm_M_find_21 rfl (lv_at hl 2 rfl) ?_
    refine lv_if_eq (tgt := 29) C.1 C.2.1 qm_M_find_22 (by decide) (fun b2 => ?_) (fun b2 => ?_)
    · have hf := if_t b2 hf
      refine lv_iconst (v := 0) C.1 C.2.1 qm_M_find_29 (by decide) ?_
      exact wM_find_30 C (pI S 11 (-1)) a1 a2 a3 0 hf _ _ _ G (lv_sub hl [0, 1, 2, 3] rfl)
    · have hf := if_f b2 hf
      refine lv_iconst (v := 4) C.1 C.2.1 qm_M_find_25 (by decide) ?_
      refine lv_goto (tgt := 30) C.1 C.2.1 qm_M_find_26 (by decide) ?_
      exact wM_find_30 C (pI S 11 (-1)) a1 a2 a3 4 hf _ _ _ G (lv_sub hl [0, 1, 2, 3] rfl)
  · have hf := if_f (not_not_intro b1) hf
    refine lv_iload_n C.1 C.2.1 qm_M_find_15 rfl (lv_at hl 1 rfl) ?_
    refine lv_sipush (v := 2047) C.1 C.2.1 qm_M_find_16 (by decide) ?_
    refine lv_iand C.1 C.2.1 qm_M_find_19 ?_
    exact q_iret (wf := (mW h K)) C G hf qm_M_find_20
theorem kM_find {l : Launch} {ad : Nat → Nat} {D : va_G} {h : Nat → Nat} {K : Nat → ClassId} {res : Int32 × qS} {S : qS} {a1 : Int32} {a2 : Int32} {a3 : Int32} (hf : fM_find S a1 a2 a3 = some res) : qMi l qm_M_find qm_M_find_c 11 .int 1 24 D qCl (mT K) ad (mW h K) [.ref (h 0), .int a1, .int a2, .int a3] S res := qMi_of (by decide) (Nat.le_of_ble_eq_true rfl) (fun _ _ _ _ _ _ _ _ _ _ C G hl => wM_find C S a1 a2 a3 hf _ _ _ G hl)
set_option maxHeartbeats 4000000 in
set_option maxRecDepth 100000 in
theorem wM_wrong {l : Launch} {D : va_G} {h : Nat → Nat} {K : Nat → ClassId} {res : qS} {p : Program} {e : Env} {s : State} {m : MethodId} {args : Array Value} {below : List Frame} {meth : Method} {c : Code} {A : Nat → Prop} {ad : Nat → Nat} (C : qC p s m args meth c qm_M_wrong_c 4 none qR_M ad) (S : qS) (a1 : Int32) (a2 : Int32) (a3 : Int32) (hf : fM_wrong S a1 a2 a3 = some res) : ∀ (H : Heap) (locs : List Loc) (ls : Array Slot), qG D qCl (mT K) A s (mW h K S) H locs → lv_has ls 4 [(0, .ref (h 0)), (1, .int a1), (2, .int a2), (3, .int a3)] → W p l e ({ frames := 0, cells := 0, slots := 0, locals := 0 }) s m args below meth c H locs 0 0 (MQ below (qQv D qCl (mT K) (mW h K) A res) args s 0 0 A) (F0 m 0 ls []) := by
  intro H locs ls G hl
  unfold fM_wrong at hf
  refine lv_aload_n C.1 C.2.1 qm_M_wrong_0 rfl (lv_at hl 0 rfl) ?_
  refine q_get (wf := (mW h K)) (v := .int (S.1 7)) C G qi_M 0 rfl rfl 12 (by decide) qz_843 rfl qm_M_wrong_1 ?_
  refine lv_if_eq (tgt := 8) C.1 C.2.1 qm_M_wrong_4 (by decide) (fun b1 => ?_) (fun b1 => ?_)
  · have hf := if_t b1 hf
    refine lv_aload_n C.1 C.2.1 qm_M_wrong_8 rfl (lv_at hl 0 rfl) ?_
    refine lv_iload_n C.1 C.2.1 qm_M_wrong_9 rfl (lv_at hl 1 rfl) ?_
    refine q_put (wf := (mW h K)) (S' := (pI S 7 a1)) C G qi_M qY_M qy_M qn_M 0 rfl rfl 12 (by decide) qz_843 rfl rfl (Nat.le_of_ble_eq_true rfl) rfl qm_M_wrong_10 (fun H locs G => ?_)
    refine lv_aload_n C.1 C.2.1 qm_M_wrong_13 rfl (lv_at hl 0 rfl) ?_
    refine lv_iload_n C.1 C.2.1 qm_M_wrong_14 rfl (lv_at hl 2 rfl) ?_
    refine q_put (wf := (mW h K)) (S' := (pI (pI S 7 a1) 8 a2)) C G qi_M qY_M qy_M qn_M 0 rfl rfl 13 (by decide) qz_844 rfl rfl (Nat.le_of_ble_eq_true rfl) rfl qm_M_wrong_15 (fun H locs G => ?_)
    refine lv_aload_n C.1 C.2.1 qm_M_wrong_18 rfl (lv_at hl 0 rfl) ?_
    refine lv_iload_n C.1 C.2.1 qm_M_wrong_19 rfl (lv_at hl 3 rfl) ?_
    refine q_put (wf := (mW h K)) (S' := (pI (pI (pI S 7 a1) 8 a2) 9 a3)) C G qi_M qY_M qy_M qn_M 0 rfl rfl 14 (by decide) qz_845 rfl rfl (Nat.le_of_ble_eq_true rfl) rfl qm_M_wrong_20 (fun H locs G => ?_)
    exact q_vret (wf := (mW h K)) C G hf qm_M_wrong_23
  · have hf := if_f b1 hf
    exact q_vret (wf := (mW h K)) C G hf qm_M_wrong_7
theorem kM_wrong {l : Launch} {ad : Nat → Nat} {D : va_G} {h : Nat → Nat} {K : Nat → ClassId} {res : qS} {S : qS} {a1 : Int32} {a2 : Int32} {a3 : Int32} (hf : fM_wrong S a1 a2 a3 = some res) : qMv l qm_M_wrong qm_M_wrong_c 4 0 0 D qCl (mT K) ad (mW h K) [.ref (h 0), .int a1, .int a2, .int a3] S res := qMv_of (by decide) (Nat.le_of_ble_eq_true rfl) (fun _ _ _ _ _ _ _ _ _ _ C G hl => wM_wrong C S a1 a2 a3 hf _ _ _ G hl)
set_option maxHeartbeats 4000000 in
set_option maxRecDepth 100000 in
theorem wM_readByte_55 {l : Launch} {D : va_G} {h : Nat → Nat} {K : Nat → ClassId} {res : Int32 × qS} {p : Program} {e : Env} {s : State} {m : MethodId} {args : Array Value} {below : List Frame} {meth : Method} {c : Code} {A : Nat → Prop} {ad : Nat → Nat} (C : qC p s m args meth c qm_M_readByte_c 3 (some .int) qR_M ad) (S : qS) (y0 : Int32) (hf : fM_readByte_55 S y0 = some res) : ∀ (H : Heap) (locs : List Loc) (ls : Array Slot), qG D qCl (mT K) A s (mW h K S) H locs → lv_has ls 3 [] → W p l e ({ frames := 2, cells := 0, slots := 0, locals := 54 }) s m args below meth c H locs 0 0 (MQ below (qQi D qCl (mT K) (mW h K) A res) args s 0 0 A) (F0 m 55 ls [.int y0]) := by
  intro H locs ls G hl
  unfold fM_readByte_55 at hf
  exact q_iret (wf := (mW h K)) C G hf qm_M_readByte_55
set_option maxHeartbeats 4000000 in
set_option maxRecDepth 100000 in
theorem wM_readByte_45 {l : Launch} {D : va_G} {h : Nat → Nat} {K : Nat → ClassId} {res : Int32 × qS} {p : Program} {e : Env} {s : State} {m : MethodId} {args : Array Value} {below : List Frame} {meth : Method} {c : Code} {A : Nat → Prop} {ad : Nat → Nat} (C : qC p s m args meth c qm_M_readByte_c 3 (some .int) qR_M ad) (S : qS) (hf : fM_readByte_45 S = some res) : ∀ (H : Heap) (locs : List Loc) (ls : Array Slot), qG D qCl (mT K) A s (mW h K S) H locs → lv_has ls 3 [] → W p l e ({ frames := 2, cells := 0, slots := 0, locals := 54 }) s m args below meth c H locs 0 0 (MQ below (qQi D qCl (mT K) (mW h K) A res) args s 0 0 A) (F0 m 45 ls []) := by
  intro H locs ls G hl
  unfold fM_readByte_45 at hf
  refine lv_iconst (v := 0) C.1 C.2.1 qm_M_readByte_45 (by decide) ?_
  refine lv_goto (tgt := 55) C.1 C.2.1 qm_M_readByte_46 (by decide) ?_
  exact wM_readByte_55 C S 0 hf _ _ _ G (lv_sub hl [] rfl)
set_option maxHeartbeats 4000000 in
set_option maxRecDepth 100000 in
theorem wM_readByte_34 {l : Launch} {D : va_G} {h : Nat → Nat} {K : Nat → ClassId} {res : Int32 × qS} {p : Program} {e : Env} {s : State} {m : MethodId} {args : Array Value} {below : List Frame} {meth : Method} {c : Code} {A : Nat → Prop} {ad : Nat → Nat} (C : qC p s m args meth c qm_M_readByte_c 3 (some .int) qR_M ad) (S : qS) (x2 : Int32) (hf : fM_readByte_34 S x2 = some res) : ∀ (H : Heap) (locs : List Loc) (ls : Array Slot), qG D qCl (mT K) A s (mW h K S) H locs → lv_has ls 3 [(0, .ref (h 0)), (2, .int x2)] → W p l e ({ frames := 2, cells := 0, slots := 0, locals := 54 }) s m args below meth c H locs 0 0 (MQ below (qQi D qCl (mT K) (mW h K) A res) args s 0 0 A) (F0 m 34 ls []) := by
  intro H locs ls G hl
  unfold fM_readByte_34 at hf
  refine lv_iload_n C.1 C.2.1 qm_M_readByte_34 rfl (lv_at hl 1 rfl) ?_
  refine lv_if_lt (tgt := 45) C.1 C.2.1 qm_M_readByte_35 (by decide) (fun b1 => ?_) (fun b1 => ?_)
  · have hf := if_t b1 hf
    exact wM_readByte_45 C S hf _ _ _ G (lv_sub hl [] rfl)
  · have hf := if_f b1 hf
    refine lv_aload_n C.1 C.2.1 qm_M_readByte_38 rfl (lv_at hl 0 rfl) ?_
    refine q_get (wf := (mW h K)) (v := .int (S.1 7)) C G qi_M 0 rfl rfl 12 (by decide) qz_843 rfl qm_M_readByte_39 ?_
    refine lv_if_eq (tgt := 49) C.1 C.2.1 qm_M_readByte_42 (by decide) (fun b2 => ?_) (fun b2 => ?_)
    · have hf := if_t b2 hf
      refine lv_aload_n C.1 C.2.1 qm_M_readByte_49 rfl (lv_at hl 0 rfl) ?_
      refine q_get (wf := (mW h K)) (v := .ref (h 1)) C G qi_M 0 rfl rfl 1 (by decide) qz_832 rfl qm_M_readByte_50 ?_
      refine lv_iload_n C.1 C.2.1 qm_M_readByte_53 rfl (lv_at hl 1 rfl) ?_
      obtain ⟨b3, hf⟩ := chk_s hf
      refine q_iald (wf := (mW h K)) C G 1 0 rfl rfl b3 qm_M_readByte_54 ?_
      exact wM_readByte_55 C S (gA S 0 x2) hf _ _ _ G (lv_sub hl [] rfl)
    · have hf := if_f b2 hf
      exact wM_readByte_45 C S hf _ _ _ G (lv_sub hl [] rfl)
set_option maxHeartbeats 4000000 in
set_option maxRecDepth 100000 in
theorem wM_readByte {l : Launch} {D : va_G} {h : Nat → Nat} {K : Nat → ClassId} {res : Int32 × qS} {p : Program} {e : Env} {s : State} {m : MethodId} {args : Array Value} {below : List Frame} {meth : Method} {c : Code} {A : Nat → Prop} {ad : Nat → Nat} (C : qC p s m args meth c qm_M_readByte_c 3 (some .int) qR_M ad) (S : qS) (a1 : Int32) (hf : fM_readByte S a1 = some res) : ∀ (H : Heap) (locs : List Loc) (ls : Array Slot), qG D qCl (mT K) A s (mW h K S) H locs → lv_has ls 3 [(0, .ref (h 0)), (1, .int a1)] → W p l e ({ frames := 2, cells := 0, slots := 0, locals := 54 }) s m args below meth c H locs 0 0 (MQ below (qQi D qCl (mT K) (mW h K) A res) args s 0 0 A) (F0 m 0 ls []) := by
  intro H locs ls G hl
  unfold fM_readByte at hf
  refine lv_aload_n C.1 C.2.1 qm_M_readByte_0 rfl (lv_at hl 0 rfl) ?_
  refine lv_iload_n C.1 C.2.1 qm_M_readByte_1 rfl (lv_at hl 1 rfl) ?_
  refine lv_iconst (v := 0) C.1 C.2.1 qm_M_readByte_2 (by decide) ?_
  refine lv_aload_n C.1 C.2.1 qm_M_readByte_3 rfl (lv_at hl 0 rfl) ?_
  obtain ⟨q1, c1, hf⟩ := bnd_s hf
  refine q_callVi (wf := (mW h K)) (n := 0) (As := []) (q0 := 0) (ci := 7) C G hl.1 (kM_mode (l := l) c1) qx_M_69 qm_M_mode_d ⟨by decide, by decide⟩ ⟨Nat.le_refl _, Nat.le_refl _⟩ rfl rfl rfl rfl rfl (Nat.le_of_ble_eq_true rfl) qm_M_readByte_4 (fun H locs G => ?_)
  obtain ⟨q2, c2, hf⟩ := bnd_s hf
  refine q_callVi (wf := (mW h K)) (n := 3) (As := [.int a1, .int 0, .int q1.1]) (q0 := 0) (ci := 7) C G hl.1 (kM_find (l := l) c2) qx_M_73 qm_M_find_d ⟨by decide, by decide⟩ ⟨Nat.le_refl _, Nat.le_refl _⟩ rfl rfl rfl rfl rfl (Nat.le_of_ble_eq_true rfl) qm_M_readByte_7 (fun H locs G => ?_)
  refine lv_istore_n (lv' := [(2, .int q2.1), (0, .ref (h 0)), (1, .int a1)]) C.1 C.2.1 qm_M_readByte_10 rfl hl (by decide) rfl (fun ls hl => ?_)
  refine lv_iload_n C.1 C.2.1 qm_M_readByte_11 rfl (lv_at hl 0 rfl) ?_
  refine lv_if_ge (tgt := 34) C.1 C.2.1 qm_M_readByte_12 (by decide) (fun b3 => ?_) (fun b3 => ?_)
  · have hf := if_t b3 hf
    exact wM_readByte_34 C q2.2 q2.1 hf _ _ _ G (lv_sub hl [1, 0] rfl)
  · have hf := if_f b3 hf
    refine lv_aload_n C.1 C.2.1 qm_M_readByte_15 rfl (lv_at hl 1 rfl) ?_
    refine lv_bipush (v := (-10)) C.1 C.2.1 qm_M_readByte_16 (by decide) ?_
    refine lv_iload_n C.1 C.2.1 qm_M_readByte_18 rfl (lv_at hl 0 rfl) ?_
    refine lv_isub C.1 C.2.1 qm_M_readByte_19 ?_
    refine lv_bipush (v := 10) C.1 C.2.1 qm_M_readByte_20 (by decide) ?_
    refine lv_idiv C.1 C.2.1 qm_M_readByte_22 (by decide) ?_
    refine lv_iload_n C.1 C.2.1 qm_M_readByte_23 rfl (lv_at hl 2 rfl) ?_
    refine lv_bipush (v := (-10)) C.1 C.2.1 qm_M_readByte_24 (by decide) ?_
    refine lv_iload_n C.1 C.2.1 qm_M_readByte_26 rfl (lv_at hl 0 rfl) ?_
    refine lv_isub C.1 C.2.1 qm_M_readByte_27 ?_
    refine lv_bipush (v := 10) C.1 C.2.1 qm_M_readByte_28 (by decide) ?_
    refine lv_irem C.1 C.2.1 qm_M_readByte_30 (by decide) ?_
    obtain ⟨S4, c4, hf⟩ := bnd_s hf
    refine q_callVv (wf := (mW h K)) (n := 3) (As := [.int (((-10) - q2.1) / 10), .int a1, .int (((-10) - q2.1) - ((-10) - q2.1) / 10 * 10)]) (q0 := 0) (ci := 7) C G hl.1 (kM_wrong (l := l) c4) qx_M_77 qm_M_wrong_d ⟨by decide, by decide⟩ ⟨Nat.le_refl _, Nat.le_refl _⟩ rfl rfl rfl rfl rfl (Nat.le_of_ble_eq_true rfl) qm_M_readByte_31 (fun H locs G => ?_)
    exact wM_readByte_34 C S4 q2.1 hf _ _ _ G (lv_sub hl [1, 0] rfl)
theorem kM_readByte {l : Launch} {ad : Nat → Nat} {D : va_G} {h : Nat → Nat} {K : Nat → ClassId} {res : Int32 × qS} {S : qS} {a1 : Int32} (hf : fM_readByte S a1 = some res) : qMi l qm_M_readByte qm_M_readByte_c 3 .int 2 54 D qCl (mT K) ad (mW h K) [.ref (h 0), .int a1] S res := qMi_of (by decide) (Nat.le_of_ble_eq_true rfl) (fun _ _ _ _ _ _ _ _ _ _ C G hl => wM_readByte C S a1 hf _ _ _ G hl)
set_option maxHeartbeats 4000000 in
set_option maxRecDepth 100000 in
theorem wM_next {l : Launch} {D : va_G} {h : Nat → Nat} {K : Nat → ClassId} {res : Int32 × qS} {p : Program} {e : Env} {s : State} {m : MethodId} {args : Array Value} {below : List Frame} {meth : Method} {c : Code} {A : Nat → Prop} {ad : Nat → Nat} (C : qC p s m args meth c qm_M_next_c 2 (some .int) qR_M ad) (S : qS) (hf : fM_next S = some res) : ∀ (H : Heap) (locs : List Loc) (ls : Array Slot), qG D qCl (mT K) A s (mW h K S) H locs → lv_has ls 2 [(0, .ref (h 0))] → W p l e ({ frames := 3, cells := 0, slots := 0, locals := 76 }) s m args below meth c H locs 0 0 (MQ below (qQi D qCl (mT K) (mW h K) A res) args s 0 0 A) (F0 m 0 ls []) := by
  intro H locs ls G hl
  unfold fM_next at hf
  refine lv_aload_n C.1 C.2.1 qm_M_next_0 rfl (lv_at hl 0 rfl) ?_
  refine lv_aload_n C.1 C.2.1 qm_M_next_1 rfl (lv_at hl 0 rfl) ?_
  refine q_get (wf := (mW h K)) (v := .ref (h 2)) C G qi_M 0 rfl rfl 2 (by decide) qz_833 rfl qm_M_next_2 ?_
  refine lv_bipush (v := 15) C.1 C.2.1 qm_M_next_5 (by decide) ?_
  refine q_iald (wf := (mW h K)) C G 2 1 rfl rfl (by decide) qm_M_next_7 ?_
  obtain ⟨q1, c1, hf⟩ := bnd_s hf
  refine q_callVi (wf := (mW h K)) (n := 1) (As := [.int (gA S 1 15)]) (q0 := 0) (ci := 7) C G hl.1 (kM_readByte (l := l) c1) qx_M_81 qm_M_readByte_d ⟨by decide, by decide⟩ ⟨Nat.le_refl _, Nat.le_refl _⟩ rfl rfl rfl rfl rfl (Nat.le_of_ble_eq_true rfl) qm_M_next_8 (fun H locs G => ?_)
  refine lv_istore_n (lv' := [(1, .int q1.1), (0, .ref (h 0))]) C.1 C.2.1 qm_M_next_11 rfl hl (by decide) rfl (fun ls hl => ?_)
  refine lv_aload_n C.1 C.2.1 qm_M_next_12 rfl (lv_at hl 1 rfl) ?_
  refine q_get (wf := (mW h K)) (v := .ref (h 2)) C G qi_M 0 rfl rfl 2 (by decide) qz_833 rfl qm_M_next_13 ?_
  refine lv_bipush (v := 15) C.1 C.2.1 qm_M_next_16 (by decide) ?_
  refine lv_dup2_11 C.1 C.2.1 qm_M_next_18 rfl rfl ?_
  refine q_iald (wf := (mW h K)) C G 2 1 rfl rfl (by decide) qm_M_next_19 ?_
  refine lv_iconst (v := 1) C.1 C.2.1 qm_M_next_20 (by decide) ?_
  refine lv_iadd C.1 C.2.1 qm_M_next_21 ?_
  refine q_iast (wf := (mW h K)) (S' := (pA q1.2 1 15 ((gA q1.2 1 15) + 1))) C G 2 1 rfl rfl (by decide) rfl qm_M_next_22 (fun H locs G => ?_)
  refine lv_iload_n C.1 C.2.1 qm_M_next_23 rfl (lv_at hl 0 rfl) ?_
  exact q_iret (wf := (mW h K)) C G hf qm_M_next_24
theorem kM_next {l : Launch} {ad : Nat → Nat} {D : va_G} {h : Nat → Nat} {K : Nat → ClassId} {res : Int32 × qS} {S : qS} (hf : fM_next S = some res) : qMi l qm_M_next qm_M_next_c 2 .int 3 76 D qCl (mT K) ad (mW h K) [.ref (h 0)] S res := qMi_of (by decide) (Nat.le_of_ble_eq_true rfl) (fun _ _ _ _ _ _ _ _ _ _ C G hl => wM_next C S hf _ _ _ G hl)
set_option maxHeartbeats 4000000 in
set_option maxRecDepth 100000 in
theorem wM_shape_26 {l : Launch} {D : va_G} {h : Nat → Nat} {K : Nat → ClassId} {res : Int32 × qS} {p : Program} {e : Env} {s : State} {m : MethodId} {args : Array Value} {below : List Frame} {meth : Method} {c : Code} {A : Nat → Prop} {ad : Nat → Nat} (C : qC p s m args meth c qm_M_shape_c 1 (some .int) qR_M ad) (S : qS) (hf : fM_shape_26 S = some res) : ∀ (H : Heap) (locs : List Loc) (ls : Array Slot), qG D qCl (mT K) A s (mW h K S) H locs → lv_has ls 1 [] → W p l e ({ frames := 0, cells := 0, slots := 0, locals := 0 }) s m args below meth c H locs 0 0 (MQ below (qQi D qCl (mT K) (mW h K) A res) args s 0 0 A) (F0 m 26 ls []) := by
  intro H locs ls G hl
  unfold fM_shape_26 at hf
  refine lv_bipush (v := 9) C.1 C.2.1 qm_M_shape_26 (by decide) ?_
  exact q_iret (wf := (mW h K)) C G hf qm_M_shape_28
set_option maxHeartbeats 4000000 in
set_option maxRecDepth 100000 in
theorem wM_shape_41 {l : Launch} {D : va_G} {h : Nat → Nat} {K : Nat → ClassId} {res : Int32 × qS} {p : Program} {e : Env} {s : State} {m : MethodId} {args : Array Value} {below : List Frame} {meth : Method} {c : Code} {A : Nat → Prop} {ad : Nat → Nat} (C : qC p s m args meth c qm_M_shape_c 1 (some .int) qR_M ad) (S : qS) (hf : fM_shape_41 S = some res) : ∀ (H : Heap) (locs : List Loc) (ls : Array Slot), qG D qCl (mT K) A s (mW h K S) H locs → lv_has ls 1 [] → W p l e ({ frames := 0, cells := 0, slots := 0, locals := 0 }) s m args below meth c H locs 0 0 (MQ below (qQi D qCl (mT K) (mW h K) A res) args s 0 0 A) (F0 m 41 ls []) := by
  intro H locs ls G hl
  unfold fM_shape_41 at hf
  refine lv_sipush (v := 297) C.1 C.2.1 qm_M_shape_41 (by decide) ?_
  exact q_iret (wf := (mW h K)) C G hf qm_M_shape_44
set_option maxHeartbeats 4000000 in
set_option maxRecDepth 100000 in
theorem wM_shape_69 {l : Launch} {D : va_G} {h : Nat → Nat} {K : Nat → ClassId} {res : Int32 × qS} {p : Program} {e : Env} {s : State} {m : MethodId} {args : Array Value} {below : List Frame} {meth : Method} {c : Code} {A : Nat → Prop} {ad : Nat → Nat} (C : qC p s m args meth c qm_M_shape_c 1 (some .int) qR_M ad) (S : qS) (hf : fM_shape_69 S = some res) : ∀ (H : Heap) (locs : List Loc) (ls : Array Slot), qG D qCl (mT K) A s (mW h K S) H locs → lv_has ls 1 [] → W p l e ({ frames := 0, cells := 0, slots := 0, locals := 0 }) s m args below meth c H locs 0 0 (MQ below (qQi D qCl (mT K) (mW h K) A res) args s 0 0 A) (F0 m 69 ls []) := by
  intro H locs ls G hl
  unfold fM_shape_69 at hf
  refine lv_sipush (v := 329) C.1 C.2.1 qm_M_shape_69 (by decide) ?_
  exact q_iret (wf := (mW h K)) C G hf qm_M_shape_72
set_option maxHeartbeats 4000000 in
set_option maxRecDepth 100000 in
theorem wM_shape_85 {l : Launch} {D : va_G} {h : Nat → Nat} {K : Nat → ClassId} {res : Int32 × qS} {p : Program} {e : Env} {s : State} {m : MethodId} {args : Array Value} {below : List Frame} {meth : Method} {c : Code} {A : Nat → Prop} {ad : Nat → Nat} (C : qC p s m args meth c qm_M_shape_c 1 (some .int) qR_M ad) (S : qS) (hf : fM_shape_85 S = some res) : ∀ (H : Heap) (locs : List Loc) (ls : Array Slot), qG D qCl (mT K) A s (mW h K S) H locs → lv_has ls 1 [] → W p l e ({ frames := 0, cells := 0, slots := 0, locals := 0 }) s m args below meth c H locs 0 0 (MQ below (qQi D qCl (mT K) (mW h K) A res) args s 0 0 A) (F0 m 85 ls []) := by
  intro H locs ls G hl
  unfold fM_shape_85 at hf
  refine lv_bipush (v := 10) C.1 C.2.1 qm_M_shape_85 (by decide) ?_
  exact q_iret (wf := (mW h K)) C G hf qm_M_shape_87
set_option maxHeartbeats 4000000 in
set_option maxRecDepth 100000 in
theorem wM_shape_109 {l : Launch} {D : va_G} {h : Nat → Nat} {K : Nat → ClassId} {res : Int32 × qS} {p : Program} {e : Env} {s : State} {m : MethodId} {args : Array Value} {below : List Frame} {meth : Method} {c : Code} {A : Nat → Prop} {ad : Nat → Nat} (C : qC p s m args meth c qm_M_shape_c 1 (some .int) qR_M ad) (S : qS) (hf : fM_shape_109 S = some res) : ∀ (H : Heap) (locs : List Loc) (ls : Array Slot), qG D qCl (mT K) A s (mW h K S) H locs → lv_has ls 1 [] → W p l e ({ frames := 0, cells := 0, slots := 0, locals := 0 }) s m args below meth c H locs 0 0 (MQ below (qQi D qCl (mT K) (mW h K) A res) args s 0 0 A) (F0 m 109 ls []) := by
  intro H locs ls G hl
  unfold fM_shape_109 at hf
  refine lv_sipush (v := 321) C.1 C.2.1 qm_M_shape_109 (by decide) ?_
  exact q_iret (wf := (mW h K)) C G hf qm_M_shape_112
set_option maxHeartbeats 4000000 in
set_option maxRecDepth 100000 in
theorem wM_shape_274 {l : Launch} {D : va_G} {h : Nat → Nat} {K : Nat → ClassId} {res : Int32 × qS} {p : Program} {e : Env} {s : State} {m : MethodId} {args : Array Value} {below : List Frame} {meth : Method} {c : Code} {A : Nat → Prop} {ad : Nat → Nat} (C : qC p s m args meth c qm_M_shape_c 1 (some .int) qR_M ad) (S : qS) (y0 : Int32) (hf : fM_shape_274 S y0 = some res) : ∀ (H : Heap) (locs : List Loc) (ls : Array Slot), qG D qCl (mT K) A s (mW h K S) H locs → lv_has ls 1 [] → W p l e ({ frames := 0, cells := 0, slots := 0, locals := 0 }) s m args below meth c H locs 0 0 (MQ below (qQi D qCl (mT K) (mW h K) A res) args s 0 0 A) (F0 m 274 ls [.int y0]) := by
  intro H locs ls G hl
  unfold fM_shape_274 at hf
  exact q_iret (wf := (mW h K)) C G hf qm_M_shape_274
set_option maxHeartbeats 4000000 in
set_option maxRecDepth 100000 in
theorem wM_shape_219 {l : Launch} {D : va_G} {h : Nat → Nat} {K : Nat → ClassId} {res : Int32 × qS} {p : Program} {e : Env} {s : State} {m : MethodId} {args : Array Value} {below : List Frame} {meth : Method} {c : Code} {A : Nat → Prop} {ad : Nat → Nat} (C : qC p s m args meth c qm_M_shape_c 1 (some .int) qR_M ad) (S : qS) (y0 : Int32) (hf : fM_shape_219 S y0 = some res) : ∀ (H : Heap) (locs : List Loc) (ls : Array Slot), qG D qCl (mT K) A s (mW h K S) H locs → lv_has ls 1 [] → W p l e ({ frames := 0, cells := 0, slots := 0, locals := 0 }) s m args below meth c H locs 0 0 (MQ below (qQi D qCl (mT K) (mW h K) A res) args s 0 0 A) (F0 m 219 ls [.int y0]) := by
  intro H locs ls G hl
  unfold fM_shape_219 at hf
  exact q_iret (wf := (mW h K)) C G hf qm_M_shape_219
set_option maxHeartbeats 4000000 in
set_option maxRecDepth 100000 in
theorem wM_shape_196 {l : Launch} {D : va_G} {h : Nat → Nat} {K : Nat → ClassId} {res : Int32 × qS} {p : Program} {e : Env} {s : State} {m : MethodId} {args : Array Value} {below : List Frame} {meth : Method} {c : Code} {A : Nat → Prop} {ad : Nat → Nat} (C : qC p s m args meth c qm_M_shape_c 1 (some .int) qR_M ad) (S : qS) (y0 : Int32) (hf : fM_shape_196 S y0 = some res) : ∀ (H : Heap) (locs : List Loc) (ls : Array Slot), qG D qCl (mT K) A s (mW h K S) H locs → lv_has ls 1 [] → W p l e ({ frames := 0, cells := 0, slots := 0, locals := 0 }) s m args below meth c H locs 0 0 (MQ below (qQi D qCl (mT K) (mW h K) A res) args s 0 0 A) (F0 m 196 ls [.int y0]) := by
  intro H locs ls G hl
  unfold fM_shape_196 at hf
  refine lv_sipush (v := 320) C.1 C.2.1 qm_M_shape_196 (by decide) ?_
  refine lv_iadd C.1 C.2.1 qm_M_shape_199 ?_
  exact q_iret (wf := (mW h K)) C G hf qm_M_shape_200
set_option maxHeartbeats 4000000 in
set_option maxRecDepth 100000 in
theorem wM_shape {l : Launch} {D : va_G} {h : Nat → Nat} {K : Nat → ClassId} {res : Int32 × qS} {p : Program} {e : Env} {s : State} {m : MethodId} {args : Array Value} {below : List Frame} {meth : Method} {c : Code} {A : Nat → Prop} {ad : Nat → Nat} (C : qC p s m args meth c qm_M_shape_c 1 (some .int) qR_M ad) (S : qS) (a0 : Int32) (hf : fM_shape S a0 = some res) : ∀ (H : Heap) (locs : List Loc) (ls : Array Slot), qG D qCl (mT K) A s (mW h K S) H locs → lv_has ls 1 [(0, .int a0)] → W p l e ({ frames := 0, cells := 0, slots := 0, locals := 0 }) s m args below meth c H locs 0 0 (MQ below (qQi D qCl (mT K) (mW h K) A res) args s 0 0 A) (F0 m 0 ls []) := by
  intro H locs ls G hl
  unfold fM_shape at hf
  refine lv_iload_n C.1 C.2.1 qm_M_shape_0 rfl (lv_at hl 0 rfl) ?_
  refine lv_bipush (v := 6) C.1 C.2.1 qm_M_shape_1 (by decide) ?_
  refine lv_icmp_ge (tgt := 8) C.1 C.2.1 qm_M_shape_3 (by decide) (fun b1 => ?_) (fun b1 => ?_)
  · have hf := if_t b1 hf
    refine lv_iload_n C.1 C.2.1 qm_M_shape_8 rfl (lv_at hl 0 rfl) ?_
    refine lv_bipush (v := 10) C.1 C.2.1 qm_M_shape_9 (by decide) ?_
    refine lv_icmp_lt (tgt := 26) C.1 C.2.1 qm_M_shape_11 (by decide) (fun b2 => ?_) (fun b2 => ?_)
    · have hf := if_t b2 hf
      exact wM_shape_26 C S hf _ _ _ G (lv_sub hl [] rfl)
    · have hf := if_f b2 hf
      refine lv_iload_n C.1 C.2.1 qm_M_shape_14 rfl (lv_at hl 0 rfl) ?_
      refine lv_bipush (v := 21) C.1 C.2.1 qm_M_shape_15 (by decide) ?_
      refine lv_icmp_eq (tgt := 26) C.1 C.2.1 qm_M_shape_17 (by decide) (fun b3 => ?_) (fun b3 => ?_)
      · have hf := if_t b3 hf
        exact wM_shape_26 C S hf _ _ _ G (lv_sub hl [] rfl)
      · have hf := if_f b3 hf
        refine lv_iload_n C.1 C.2.1 qm_M_shape_20 rfl (lv_at hl 0 rfl) ?_
        refine lv_bipush (v := 44) C.1 C.2.1 qm_M_shape_21 (by decide) ?_
        refine lv_icmp_ne (tgt := 29) C.1 C.2.1 qm_M_shape_23 (by decide) (fun b4 => ?_) (fun b4 => ?_)
        · have hf := if_t b4 hf
          refine lv_iload_n C.1 C.2.1 qm_M_shape_29 rfl (lv_at hl 0 rfl) ?_
          refine lv_bipush (v := 10) C.1 C.2.1 qm_M_shape_30 (by decide) ?_
          refine lv_icmp_eq (tgt := 41) C.1 C.2.1 qm_M_shape_32 (by decide) (fun b5 => ?_) (fun b5 => ?_)
          · have hf := if_t b5 hf
            exact wM_shape_41 C S hf _ _ _ G (lv_sub hl [] rfl)
          · have hf := if_f b5 hf
            refine lv_iload_n C.1 C.2.1 qm_M_shape_35 rfl (lv_at hl 0 rfl) ?_
            refine lv_bipush (v := 23) C.1 C.2.1 qm_M_shape_36 (by decide) ?_
            refine lv_icmp_ne (tgt := 45) C.1 C.2.1 qm_M_shape_38 (by decide) (fun b6 => ?_) (fun b6 => ?_)
            · have hf := if_t b6 hf
              refine lv_iload_n C.1 C.2.1 qm_M_shape_45 rfl (lv_at hl 0 rfl) ?_
              refine lv_bipush (v := 11) C.1 C.2.1 qm_M_shape_46 (by decide) ?_
              refine lv_icmp_eq (tgt := 69) C.1 C.2.1 qm_M_shape_48 (by decide) (fun b7 => ?_) (fun b7 => ?_)
              · have hf := if_t b7 hf
                exact wM_shape_69 C S hf _ _ _ G (lv_sub hl [] rfl)
              · have hf := if_f b7 hf
                refine lv_iload_n C.1 C.2.1 qm_M_shape_51 rfl (lv_at hl 0 rfl) ?_
                refine lv_bipush (v := 14) C.1 C.2.1 qm_M_shape_52 (by decide) ?_
                refine lv_icmp_eq (tgt := 69) C.1 C.2.1 qm_M_shape_54 (by decide) (fun b8 => ?_) (fun b8 => ?_)
                · have hf := if_t b8 hf
                  exact wM_shape_69 C S hf _ _ _ G (lv_sub hl [] rfl)
                · have hf := if_f b8 hf
                  refine lv_iload_n C.1 C.2.1 qm_M_shape_57 rfl (lv_at hl 0 rfl) ?_
                  refine lv_bipush (v := 18) C.1 C.2.1 qm_M_shape_58 (by decide) ?_
                  refine lv_icmp_eq (tgt := 69) C.1 C.2.1 qm_M_shape_60 (by decide) (fun b9 => ?_) (fun b9 => ?_)
                  · have hf := if_t b9 hf
                    exact wM_shape_69 C S hf _ _ _ G (lv_sub hl [] rfl)
                  · have hf := if_f b9 hf
                    refine lv_iload_n C.1 C.2.1 qm_M_shape_63 rfl (lv_at hl 0 rfl) ?_
                    refine lv_bipush (v := 19) C.1 C.2.1 qm_M_shape_64 (by decide) ?_
                    refine lv_icmp_ne (tgt := 73) C.1 C.2.1 qm_M_shape_66 (by decide) (fun b10 => ?_) (fun b10 => ?_)
                    · have hf := if_t b10 hf
                      refine lv_iload_n C.1 C.2.1 qm_M_shape_73 rfl (lv_at hl 0 rfl) ?_
                      refine lv_bipush (v := 12) C.1 C.2.1 qm_M_shape_74 (by decide) ?_
                      refine lv_icmp_eq (tgt := 85) C.1 C.2.1 qm_M_shape_76 (by decide) (fun b11 => ?_) (fun b11 => ?_)
                      · have hf := if_t b11 hf
                        exact wM_shape_85 C S hf _ _ _ G (lv_sub hl [] rfl)
                      · have hf := if_f b11 hf
                        refine lv_iload_n C.1 C.2.1 qm_M_shape_79 rfl (lv_at hl 0 rfl) ?_
                        refine lv_bipush (v := 20) C.1 C.2.1 qm_M_shape_80 (by decide) ?_
                        refine lv_icmp_ne (tgt := 88) C.1 C.2.1 qm_M_shape_82 (by decide) (fun b12 => ?_) (fun b12 => ?_)
                        · have hf := if_t b12 hf
                          refine lv_iload_n C.1 C.2.1 qm_M_shape_88 rfl (lv_at hl 0 rfl) ?_
                          refine lv_bipush (v := 13) C.1 C.2.1 qm_M_shape_89 (by decide) ?_
                          refine lv_icmp_ne (tgt := 97) C.1 C.2.1 qm_M_shape_91 (by decide) (fun b13 => ?_) (fun b13 => ?_)
                          · have hf := if_t b13 hf
                            refine lv_iload_n C.1 C.2.1 qm_M_shape_97 rfl (lv_at hl 0 rfl) ?_
                            refine lv_bipush (v := 15) C.1 C.2.1 qm_M_shape_98 (by decide) ?_
                            refine lv_icmp_eq (tgt := 109) C.1 C.2.1 qm_M_shape_100 (by decide) (fun b14 => ?_) (fun b14 => ?_)
                            · have hf := if_t b14 hf
                              exact wM_shape_109 C S hf _ _ _ G (lv_sub hl [] rfl)
                            · have hf := if_f b14 hf
                              refine lv_iload_n C.1 C.2.1 qm_M_shape_103 rfl (lv_at hl 0 rfl) ?_
                              refine lv_bipush (v := 16) C.1 C.2.1 qm_M_shape_104 (by decide) ?_
                              refine lv_icmp_ne (tgt := 113) C.1 C.2.1 qm_M_shape_106 (by decide) (fun b15 => ?_) (fun b15 => ?_)
                              · have hf := if_t b15 hf
                                refine lv_iload_n C.1 C.2.1 qm_M_shape_113 rfl (lv_at hl 0 rfl) ?_
                                refine lv_bipush (v := 17) C.1 C.2.1 qm_M_shape_114 (by decide) ?_
                                refine lv_icmp_ne (tgt := 122) C.1 C.2.1 qm_M_shape_116 (by decide) (fun b16 => ?_) (fun b16 => ?_)
                                · have hf := if_t b16 hf
                                  refine lv_iload_n C.1 C.2.1 qm_M_shape_122 rfl (lv_at hl 0 rfl) ?_
                                  refine lv_bipush (v := 22) C.1 C.2.1 qm_M_shape_123 (by decide) ?_
                                  refine lv_icmp_ne (tgt := 130) C.1 C.2.1 qm_M_shape_125 (by decide) (fun b17 => ?_) (fun b17 => ?_)
                                  · have hf := if_t b17 hf
                                    refine lv_iload_n C.1 C.2.1 qm_M_shape_130 rfl (lv_at hl 0 rfl) ?_
                                    refine lv_bipush (v := 24) C.1 C.2.1 qm_M_shape_131 (by decide) ?_
                                    refine lv_icmp_ne (tgt := 139) C.1 C.2.1 qm_M_shape_133 (by decide) (fun b18 => ?_) (fun b18 => ?_)
                                    · have hf := if_t b18 hf
                                      refine lv_iload_n C.1 C.2.1 qm_M_shape_139 rfl (lv_at hl 0 rfl) ?_
                                      refine lv_bipush (v := 27) C.1 C.2.1 qm_M_shape_140 (by decide) ?_
                                      refine lv_icmp_ge (tgt := 148) C.1 C.2.1 qm_M_shape_142 (by decide) (fun b19 => ?_) (fun b19 => ?_)
                                      · have hf := if_t b19 hf
                                        refine lv_iload_n C.1 C.2.1 qm_M_shape_148 rfl (lv_at hl 0 rfl) ?_
                                        refine lv_bipush (v := 34) C.1 C.2.1 qm_M_shape_149 (by decide) ?_
                                        refine lv_icmp_ge (tgt := 158) C.1 C.2.1 qm_M_shape_151 (by decide) (fun b20 => ?_) (fun b20 => ?_)
                                        · have hf := if_t b20 hf
                                          refine lv_iload_n C.1 C.2.1 qm_M_shape_158 rfl (lv_at hl 0 rfl) ?_
                                          refine lv_bipush (v := 41) C.1 C.2.1 qm_M_shape_159 (by decide) ?_
                                          refine lv_icmp_ge (tgt := 168) C.1 C.2.1 qm_M_shape_161 (by decide) (fun b21 => ?_) (fun b21 => ?_)
                                          · have hf := if_t b21 hf
                                            refine lv_iload_n C.1 C.2.1 qm_M_shape_168 rfl (lv_at hl 0 rfl) ?_
                                            refine lv_bipush (v := 41) C.1 C.2.1 qm_M_shape_169 (by decide) ?_
                                            refine lv_icmp_ne (tgt := 178) C.1 C.2.1 qm_M_shape_171 (by decide) (fun b22 => ?_) (fun b22 => ?_)
                                            · have hf := if_t b22 hf
                                              refine lv_iload_n C.1 C.2.1 qm_M_shape_178 rfl (lv_at hl 0 rfl) ?_
                                              refine lv_bipush (v := 44) C.1 C.2.1 qm_M_shape_179 (by decide) ?_
                                              refine lv_icmp_ge (tgt := 201) C.1 C.2.1 qm_M_shape_181 (by decide) (fun b23 => ?_) (fun b23 => ?_)
                                              · have hf := if_t b23 hf
                                                refine lv_iload_n C.1 C.2.1 qm_M_shape_201 rfl (lv_at hl 0 rfl) ?_
                                                refine lv_bipush (v := 48) C.1 C.2.1 qm_M_shape_202 (by decide) ?_
                                                refine lv_icmp_ge (tgt := 220) C.1 C.2.1 qm_M_shape_204 (by decide) (fun b24 => ?_) (fun b24 => ?_)
                                                · have hf := if_t b24 hf
                                                  refine lv_iload_n C.1 C.2.1 qm_M_shape_220 rfl (lv_at hl 0 rfl) ?_
                                                  refine lv_bipush (v := 62) C.1 C.2.1 qm_M_shape_221 (by decide) ?_
                                                  refine lv_icmp_ge (tgt := 229) C.1 C.2.1 qm_M_shape_223 (by decide) (fun b25 => ?_) (fun b25 => ?_)
                                                  · have hf := if_t b25 hf
                                                    refine lv_iload_n C.1 C.2.1 qm_M_shape_229 rfl (lv_at hl 0 rfl) ?_
                                                    refine lv_bipush (v := 64) C.1 C.2.1 qm_M_shape_230 (by decide) ?_
                                                    refine lv_icmp_ge (tgt := 239) C.1 C.2.1 qm_M_shape_232 (by decide) (fun b26 => ?_) (fun b26 => ?_)
                                                    · have hf := if_t b26 hf
                                                      refine lv_iload_n C.1 C.2.1 qm_M_shape_239 rfl (lv_at hl 0 rfl) ?_
                                                      refine lv_bipush (v := 66) C.1 C.2.1 qm_M_shape_240 (by decide) ?_
                                                      refine lv_icmp_ge (tgt := 249) C.1 C.2.1 qm_M_shape_242 (by decide) (fun b27 => ?_) (fun b27 => ?_)
                                                      · have hf := if_t b27 hf
                                                        refine lv_iload_n C.1 C.2.1 qm_M_shape_249 rfl (lv_at hl 0 rfl) ?_
                                                        refine lv_bipush (v := 68) C.1 C.2.1 qm_M_shape_250 (by decide) ?_
                                                        refine lv_icmp_ge (tgt := 259) C.1 C.2.1 qm_M_shape_252 (by decide) (fun b28 => ?_) (fun b28 => ?_)
                                                        · have hf := if_t b28 hf
                                                          refine lv_iload_n C.1 C.2.1 qm_M_shape_259 rfl (lv_at hl 0 rfl) ?_
                                                          refine lv_bipush (v := 68) C.1 C.2.1 qm_M_shape_260 (by decide) ?_
                                                          refine lv_icmp_ne (tgt := 271) C.1 C.2.1 qm_M_shape_262 (by decide) (fun b29 => ?_) (fun b29 => ?_)
                                                          · have hf := if_t b29 hf
                                                            refine lv_sipush (v := 4385) C.1 C.2.1 qm_M_shape_271 (by decide) ?_
                                                            exact wM_shape_274 C S 4385 hf _ _ _ G (lv_sub hl [] rfl)
                                                          · have hf := if_f (not_not_intro b29) hf
                                                            refine lv_sipush (v := 137) C.1 C.2.1 qm_M_shape_265 (by decide) ?_
                                                            refine lv_goto (tgt := 274) C.1 C.2.1 qm_M_shape_268 (by decide) ?_
                                                            exact wM_shape_274 C S 137 hf _ _ _ G (lv_sub hl [] rfl)
                                                        · have hf := if_f b28 hf
                                                          refine lv_sipush (v := 16745) C.1 C.2.1 qm_M_shape_255 (by decide) ?_
                                                          exact q_iret (wf := (mW h K)) C G hf qm_M_shape_258
                                                      · have hf := if_f b27 hf
                                                        refine lv_sipush (v := 523) C.1 C.2.1 qm_M_shape_245 (by decide) ?_
                                                        exact q_iret (wf := (mW h K)) C G hf qm_M_shape_248
                                                    · have hf := if_f b26 hf
                                                      refine lv_sipush (v := 521) C.1 C.2.1 qm_M_shape_235 (by decide) ?_
                                                      exact q_iret (wf := (mW h K)) C G hf qm_M_shape_238
                                                  · have hf := if_f b25 hf
                                                    refine lv_bipush (v := 16) C.1 C.2.1 qm_M_shape_226 (by decide) ?_
                                                    exact q_iret (wf := (mW h K)) C G hf qm_M_shape_228
                                                · have hf := if_f b24 hf
                                                  refine lv_iload_n C.1 C.2.1 qm_M_shape_207 rfl (lv_at hl 0 rfl) ?_
                                                  refine lv_bipush (v := 45) C.1 C.2.1 qm_M_shape_208 (by decide) ?_
                                                  refine lv_icmp_ne (tgt := 218) C.1 C.2.1 qm_M_shape_210 (by decide) (fun b30 => ?_) (fun b30 => ?_)
                                                  · have hf := if_t b30 hf
                                                    refine lv_iconst (v := 4) C.1 C.2.1 qm_M_shape_218 (by decide) ?_
                                                    exact wM_shape_219 C S 4 hf _ _ _ G (lv_sub hl [] rfl)
                                                  · have hf := if_f (not_not_intro b30) hf
                                                    refine lv_bipush (v := 12) C.1 C.2.1 qm_M_shape_213 (by decide) ?_
                                                    refine lv_goto (tgt := 219) C.1 C.2.1 qm_M_shape_215 (by decide) ?_
                                                    exact wM_shape_219 C S 12 hf _ _ _ G (lv_sub hl [] rfl)
                                              · have hf := if_f b23 hf
                                                refine lv_iload_n C.1 C.2.1 qm_M_shape_184 rfl (lv_at hl 0 rfl) ?_
                                                refine lv_bipush (v := 42) C.1 C.2.1 qm_M_shape_185 (by decide) ?_
                                                refine lv_icmp_ne (tgt := 195) C.1 C.2.1 qm_M_shape_187 (by decide) (fun b31 => ?_) (fun b31 => ?_)
                                                · have hf := if_t b31 hf
                                                  refine lv_iconst (v := 4) C.1 C.2.1 qm_M_shape_195 (by decide) ?_
                                                  exact wM_shape_196 C S 4 hf _ _ _ G (lv_sub hl [] rfl)
                                                · have hf := if_f (not_not_intro b31) hf
                                                  refine lv_bipush (v := 12) C.1 C.2.1 qm_M_shape_190 (by decide) ?_
                                                  refine lv_goto (tgt := 196) C.1 C.2.1 qm_M_shape_192 (by decide) ?_
                                                  exact wM_shape_196 C S 12 hf _ _ _ G (lv_sub hl [] rfl)
                                            · have hf := if_f (not_not_intro b22) hf
                                              refine lv_sipush (v := 10529) C.1 C.2.1 qm_M_shape_174 (by decide) ?_
                                              exact q_iret (wf := (mW h K)) C G hf qm_M_shape_177
                                          · have hf := if_f b21 hf
                                            refine lv_sipush (v := 10537) C.1 C.2.1 qm_M_shape_164 (by decide) ?_
                                            exact q_iret (wf := (mW h K)) C G hf qm_M_shape_167
                                        · have hf := if_f b20 hf
                                          refine lv_sipush (v := 361) C.1 C.2.1 qm_M_shape_154 (by decide) ?_
                                          exact q_iret (wf := (mW h K)) C G hf qm_M_shape_157
                                      · have hf := if_f b19 hf
                                        refine lv_bipush (v := 11) C.1 C.2.1 qm_M_shape_145 (by decide) ?_
                                        exact q_iret (wf := (mW h K)) C G hf qm_M_shape_147
                                    · have hf := if_f (not_not_intro b18) hf
                                      refine lv_bipush (v := 33) C.1 C.2.1 qm_M_shape_136 (by decide) ?_
                                      exact q_iret (wf := (mW h K)) C G hf qm_M_shape_138
                                  · have hf := if_f (not_not_intro b17) hf
                                    refine lv_iconst (v := 1) C.1 C.2.1 qm_M_shape_128 (by decide) ?_
                                    exact q_iret (wf := (mW h K)) C G hf qm_M_shape_129
                                · have hf := if_f (not_not_intro b16) hf
                                  refine lv_bipush (v := 73) C.1 C.2.1 qm_M_shape_119 (by decide) ?_
                                  exact q_iret (wf := (mW h K)) C G hf qm_M_shape_121
                              · have hf := if_f (not_not_intro b15) hf
                                exact wM_shape_109 C S hf _ _ _ G (lv_sub hl [] rfl)
                          · have hf := if_f (not_not_intro b13) hf
                            refine lv_bipush (v := 65) C.1 C.2.1 qm_M_shape_94 (by decide) ?_
                            exact q_iret (wf := (mW h K)) C G hf qm_M_shape_96
                        · have hf := if_f (not_not_intro b12) hf
                          exact wM_shape_85 C S hf _ _ _ G (lv_sub hl [] rfl)
                    · have hf := if_f (not_not_intro b10) hf
                      exact wM_shape_69 C S hf _ _ _ G (lv_sub hl [] rfl)
            · have hf := if_f (not_not_intro b6) hf
              exact wM_shape_41 C S hf _ _ _ G (lv_sub hl [] rfl)
        · have hf := if_f (not_not_intro b4) hf
          exact wM_shape_26 C S hf _ _ _ G (lv_sub hl [] rfl)
  · have hf := if_f b1 hf
    refine lv_iconst (v := 0) C.1 C.2.1 qm_M_shape_6 (by decide) ?_
    exact q_iret (wf := (mW h K)) C G hf qm_M_shape_7
theorem kM_shape {l : Launch} {ad : Nat → Nat} {D : va_G} {h : Nat → Nat} {K : Nat → ClassId} {res : Int32 × qS} {S : qS} {a0 : Int32} (hf : fM_shape S a0 = some res) : qMi l qm_M_shape qm_M_shape_c 1 .int 0 0 D qCl (mT K) ad (mW h K) [.int a0] S res := qMi_of (by decide) (Nat.le_of_ble_eq_true rfl) (fun _ _ _ _ _ _ _ _ _ _ C G hl => wM_shape C S a0 hf _ _ _ G hl)
set_option maxHeartbeats 4000000 in
set_option maxRecDepth 100000 in
theorem wM_signed {l : Launch} {D : va_G} {h : Nat → Nat} {K : Nat → ClassId} {res : Int32 × qS} {p : Program} {e : Env} {s : State} {m : MethodId} {args : Array Value} {below : List Frame} {meth : Method} {c : Code} {A : Nat → Prop} {ad : Nat → Nat} (C : qC p s m args meth c qm_M_signed_c 1 (some .int) qR_M ad) (S : qS) (a0 : Int32) (hf : fM_signed S a0 = some res) : ∀ (H : Heap) (locs : List Loc) (ls : Array Slot), qG D qCl (mT K) A s (mW h K S) H locs → lv_has ls 1 [(0, .int a0)] → W p l e ({ frames := 0, cells := 0, slots := 0, locals := 0 }) s m args below meth c H locs 0 0 (MQ below (qQi D qCl (mT K) (mW h K) A res) args s 0 0 A) (F0 m 0 ls []) := by
  intro H locs ls G hl
  unfold fM_signed at hf
  refine lv_iload_n C.1 C.2.1 qm_M_signed_0 rfl (lv_at hl 0 rfl) ?_
  refine lv_bipush (v := 24) C.1 C.2.1 qm_M_signed_1 (by decide) ?_
  refine lv_ishl C.1 C.2.1 qm_M_signed_3 ?_
  refine lv_bipush (v := 24) C.1 C.2.1 qm_M_signed_4 (by decide) ?_
  refine lv_ishr C.1 C.2.1 qm_M_signed_6 ?_
  exact q_iret (wf := (mW h K)) C G hf qm_M_signed_7
theorem kM_signed {l : Launch} {ad : Nat → Nat} {D : va_G} {h : Nat → Nat} {K : Nat → ClassId} {res : Int32 × qS} {S : qS} {a0 : Int32} (hf : fM_signed S a0 = some res) : qMi l qm_M_signed qm_M_signed_c 1 .int 0 0 D qCl (mT K) ad (mW h K) [.int a0] S res := qMi_of (by decide) (Nat.le_of_ble_eq_true rfl) (fun _ _ _ _ _ _ _ _ _ _ C G hl => wM_signed C S a0 hf _ _ _ G hl)
set_option maxHeartbeats 4000000 in
set_option maxRecDepth 100000 in
theorem wM_readLong_4 {l : Launch} {D : va_G} {h : Nat → Nat} {K : Nat → ClassId} {res : Int32 × qS} {p : Program} {e : Env} {s : State} {m : MethodId} {args : Array Value} {below : List Frame} {meth : Method} {c : Code} {A : Nat → Prop} {ad : Nat → Nat} (C : qC p s m args meth c qm_M_readLong_c 4 (some .int) qR_M ad) : ∀ (n : Nat) (S : qS) (x1 : Int32) (x2 : Int32) (x3 : Int32), fM_readLong_4 n S x1 x2 x3 = some res → ∀ (H : Heap) (locs : List Loc) (ls : Array Slot), qG D qCl (mT K) A s (mW h K S) H locs → lv_has ls 4 [(0, .ref (h 0)), (1, .int x1), (2, .int x2), (3, .int x3)] → W p l e ({ frames := 3, cells := 0, slots := 0, locals := 76 }) s m args below meth c H locs 0 0 (MQ below (qQi D qCl (mT K) (mW h K) A res) args s 0 0 A) (F0 m 4 ls []) := by
  intro n
  induction n with
  | zero => intro S x1 x2 x3 hf; cases hf
  | succ n ih =>
    intro S x1 x2 x3 hf H locs ls G hl
    rw [fM_readLong_4] at hf
    refine lv_iload_n C.1 C.2.1 qm_M_readLong_4 rfl (lv_at hl 3 rfl) ?_
    refine lv_iconst (v := 4) C.1 C.2.1 qm_M_readLong_5 (by decide) ?_
    refine lv_icmp_ge (tgt := 30) C.1 C.2.1 qm_M_readLong_6 (by decide) (fun b1 => ?_) (fun b1 => ?_)
    · have hf := if_t b1 hf
      refine lv_iload_n C.1 C.2.1 qm_M_readLong_30 rfl (lv_at hl 2 rfl) ?_
      exact q_iret (wf := (mW h K)) C G hf qm_M_readLong_31
    · have hf := if_f b1 hf
      refine lv_iload_n C.1 C.2.1 qm_M_readLong_9 rfl (lv_at hl 2 rfl) ?_
      refine lv_aload_n C.1 C.2.1 qm_M_readLong_10 rfl (lv_at hl 0 rfl) ?_
      refine lv_iload_n C.1 C.2.1 qm_M_readLong_11 rfl (lv_at hl 1 rfl) ?_
      refine lv_iload_n C.1 C.2.1 qm_M_readLong_12 rfl (lv_at hl 3 rfl) ?_
      refine lv_iadd C.1 C.2.1 qm_M_readLong_13 ?_
      obtain ⟨q2, c2, hf⟩ := bnd_s hf
      refine q_callVi (wf := (mW h K)) (n := 1) (As := [.int (x1 + x3)]) (q0 := 0) (ci := 7) C G hl.1 (kM_readByte (l := l) c2) qx_M_81 qm_M_readByte_d ⟨by decide, by decide⟩ ⟨Nat.le_refl _, Nat.le_refl _⟩ rfl rfl rfl rfl rfl (Nat.le_of_ble_eq_true rfl) qm_M_readLong_14 (fun H locs G => ?_)
      refine lv_bipush (v := 8) C.1 C.2.1 qm_M_readLong_17 (by decide) ?_
      refine lv_iload_n C.1 C.2.1 qm_M_readLong_19 rfl (lv_at hl 3 rfl) ?_
      refine lv_imul C.1 C.2.1 qm_M_readLong_20 ?_
      refine lv_ishl C.1 C.2.1 qm_M_readLong_21 ?_
      refine lv_ior C.1 C.2.1 qm_M_readLong_22 ?_
      refine lv_istore_n (lv' := [(2, .int (x2 ||| (q2.1 <<< ((8 * x3) &&& 31)))), (0, .ref (h 0)), (1, .int x1), (3, .int x3)]) C.1 C.2.1 qm_M_readLong_23 rfl hl (by decide) rfl (fun ls hl => ?_)
      refine lv_iinc (v := x3 + 1) (lv' := [(3, .int (x3 + 1)), (2, .int (x2 ||| (q2.1 <<< ((8 * x3) &&& 31)))), (0, .ref (h 0)), (1, .int x1)]) C.1 C.2.1 qm_M_readLong_24 hl (k := 3) rfl rfl (by decide) rfl (fun ls hl => ?_)
      refine lv_goto (tgt := 4) C.1 C.2.1 qm_M_readLong_27 (by decide) ?_
      exact ih q2.2 x1 (x2 ||| (q2.1 <<< ((8 * x3) &&& 31))) (x3 + 1) hf _ _ _ G (lv_sub hl [2, 3, 1, 0] rfl)
set_option maxHeartbeats 4000000 in
set_option maxRecDepth 100000 in
theorem wM_readLong {l : Launch} {D : va_G} {h : Nat → Nat} {K : Nat → ClassId} {res : Int32 × qS} {p : Program} {e : Env} {s : State} {m : MethodId} {args : Array Value} {below : List Frame} {meth : Method} {c : Code} {A : Nat → Prop} {ad : Nat → Nat} (C : qC p s m args meth c qm_M_readLong_c 4 (some .int) qR_M ad) (S : qS) (a1 : Int32) (hf : fM_readLong S a1 = some res) : ∀ (H : Heap) (locs : List Loc) (ls : Array Slot), qG D qCl (mT K) A s (mW h K S) H locs → lv_has ls 4 [(0, .ref (h 0)), (1, .int a1)] → W p l e ({ frames := 3, cells := 0, slots := 0, locals := 76 }) s m args below meth c H locs 0 0 (MQ below (qQi D qCl (mT K) (mW h K) A res) args s 0 0 A) (F0 m 0 ls []) := by
  intro H locs ls G hl
  unfold fM_readLong at hf
  refine lv_iconst (v := 0) C.1 C.2.1 qm_M_readLong_0 (by decide) ?_
  refine lv_istore_n (lv' := [(2, .int 0), (0, .ref (h 0)), (1, .int a1)]) C.1 C.2.1 qm_M_readLong_1 rfl hl (by decide) rfl (fun ls hl => ?_)
  refine lv_iconst (v := 0) C.1 C.2.1 qm_M_readLong_2 (by decide) ?_
  refine lv_istore_n (lv' := [(3, .int 0), (2, .int 0), (0, .ref (h 0)), (1, .int a1)]) C.1 C.2.1 qm_M_readLong_3 rfl hl (by decide) rfl (fun ls hl => ?_)
  exact wM_readLong_4 C 300 S a1 0 0 hf _ _ _ G (lv_sub hl [2, 3, 1, 0] rfl)
theorem kM_readLong {l : Launch} {ad : Nat → Nat} {D : va_G} {h : Nat → Nat} {K : Nat → ClassId} {res : Int32 × qS} {S : qS} {a1 : Int32} (hf : fM_readLong S a1 = some res) : qMi l qm_M_readLong qm_M_readLong_c 4 .int 3 76 D qCl (mT K) ad (mW h K) [.ref (h 0), .int a1] S res := qMi_of (by decide) (Nat.le_of_ble_eq_true rfl) (fun _ _ _ _ _ _ _ _ _ _ C G hl => wM_readLong C S a1 hf _ _ _ G hl)
