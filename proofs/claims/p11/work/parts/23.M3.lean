theorem qm_M_operand_0 : decode qm_M_operand_c 0 = .ok (.iload_n 2, 1) := by decide +kernel
theorem qm_M_operand_1 : decode qm_M_operand_c 1 = .ok (.bipush 7, 2) := by decide +kernel
theorem qm_M_operand_3 : decode qm_M_operand_c 3 = .ok (.iand, 1) := by decide +kernel
theorem qm_M_operand_4 : decode qm_M_operand_c 4 = .ok (.istore_n 3, 1) := by decide +kernel
theorem qm_M_operand_5 : decode qm_M_operand_c 5 = .ok (.iload_n 2, 1) := by decide +kernel
theorem qm_M_operand_6 : decode qm_M_operand_c 6 = .ok (.bipush 8, 2) := by decide +kernel
theorem qm_M_operand_8 : decode qm_M_operand_c 8 = .ok (.iand, 1) := by decide +kernel
theorem qm_M_operand_9 : decode qm_M_operand_c 9 = .ok (.ifCond .eq 7, 3) := by decide +kernel
theorem qm_M_operand_12 : decode qm_M_operand_c 12 = .ok (.iconst 4, 1) := by decide +kernel
theorem qm_M_operand_13 : decode qm_M_operand_c 13 = .ok (.goto 4, 3) := by decide +kernel
theorem qm_M_operand_16 : decode qm_M_operand_c 16 = .ok (.iconst 1, 1) := by decide +kernel
theorem qm_M_operand_17 : decode qm_M_operand_c 17 = .ok (.istore 4, 2) := by decide +kernel
theorem qm_M_operand_19 : decode qm_M_operand_c 19 = .ok (.aload_n 0, 1) := by decide +kernel
theorem qm_M_operand_20 : decode qm_M_operand_c 20 = .ok (.invokevirtual 100, 3) := by decide +kernel
theorem qm_M_operand_23 : decode qm_M_operand_c 23 = .ok (.istore 5, 2) := by decide +kernel
theorem qm_M_operand_25 : decode qm_M_operand_c 25 = .ok (.iconst (-1), 1) := by decide +kernel
theorem qm_M_operand_26 : decode qm_M_operand_c 26 = .ok (.istore 6, 2) := by decide +kernel
theorem qm_M_operand_28 : decode qm_M_operand_c 28 = .ok (.iload 5, 2) := by decide +kernel
theorem qm_M_operand_30 : decode qm_M_operand_c 30 = .ok (.iconst 4, 1) := by decide +kernel
theorem qm_M_operand_31 : decode qm_M_operand_c 31 = .ok (.ishr, 1) := by decide +kernel
theorem qm_M_operand_32 : decode qm_M_operand_c 32 = .ok (.iconst 4, 1) := by decide +kernel
theorem qm_M_operand_33 : decode qm_M_operand_c 33 = .ok (.if_icmp .ne 52, 3) := by decide +kernel
theorem qm_M_operand_36 : decode qm_M_operand_c 36 = .ok (.iload 5, 2) := by decide +kernel
theorem qm_M_operand_38 : decode qm_M_operand_c 38 = .ok (.bipush 15, 2) := by decide +kernel
theorem qm_M_operand_40 : decode qm_M_operand_c 40 = .ok (.iand, 1) := by decide +kernel
theorem qm_M_operand_41 : decode qm_M_operand_c 41 = .ok (.istore 6, 2) := by decide +kernel
theorem qm_M_operand_43 : decode qm_M_operand_c 43 = .ok (.iload 6, 2) := by decide +kernel
theorem qm_M_operand_45 : decode qm_M_operand_c 45 = .ok (.bipush 15, 2) := by decide +kernel
theorem qm_M_operand_47 : decode qm_M_operand_c 47 = .ok (.if_icmp .ne 10, 3) := by decide +kernel
theorem qm_M_operand_50 : decode qm_M_operand_c 50 = .ok (.aload_n 0, 1) := by decide +kernel
theorem qm_M_operand_51 : decode qm_M_operand_c 51 = .ok (.iconst 3, 1) := by decide +kernel
theorem qm_M_operand_52 : decode qm_M_operand_c 52 = .ok (.iconst 0, 1) := by decide +kernel
theorem qm_M_operand_53 : decode qm_M_operand_c 53 = .ok (.iconst 0, 1) := by decide +kernel
theorem qm_M_operand_54 : decode qm_M_operand_c 54 = .ok (.invokevirtual 77, 3) := by decide +kernel
theorem qm_M_operand_57 : decode qm_M_operand_c 57 = .ok (.aload_n 0, 1) := by decide +kernel
theorem qm_M_operand_58 : decode qm_M_operand_c 58 = .ok (.invokevirtual 100, 3) := by decide +kernel
theorem qm_M_operand_61 : decode qm_M_operand_c 61 = .ok (.istore 5, 2) := by decide +kernel
theorem qm_M_operand_63 : decode qm_M_operand_c 63 = .ok (.iload 5, 2) := by decide +kernel
theorem qm_M_operand_65 : decode qm_M_operand_c 65 = .ok (.bipush 96, 2) := by decide +kernel
theorem qm_M_operand_67 : decode qm_M_operand_c 67 = .ok (.if_icmp .lt 11, 3) := by decide +kernel
theorem qm_M_operand_70 : decode qm_M_operand_c 70 = .ok (.iload 5, 2) := by decide +kernel
theorem qm_M_operand_72 : decode qm_M_operand_c 72 = .ok (.sipush 143, 3) := by decide +kernel
theorem qm_M_operand_75 : decode qm_M_operand_c 75 = .ok (.if_icmp .ne 10, 3) := by decide +kernel
theorem qm_M_operand_78 : decode qm_M_operand_c 78 = .ok (.aload_n 0, 1) := by decide +kernel
theorem qm_M_operand_79 : decode qm_M_operand_c 79 = .ok (.iconst 3, 1) := by decide +kernel
theorem qm_M_operand_80 : decode qm_M_operand_c 80 = .ok (.iconst 0, 1) := by decide +kernel
theorem qm_M_operand_81 : decode qm_M_operand_c 81 = .ok (.iconst 0, 1) := by decide +kernel
theorem qm_M_operand_82 : decode qm_M_operand_c 82 = .ok (.invokevirtual 77, 3) := by decide +kernel
theorem qm_M_operand_85 : decode qm_M_operand_c 85 = .ok (.iload 5, 2) := by decide +kernel
theorem qm_M_operand_87 : decode qm_M_operand_c 87 = .ok (.iconst 4, 1) := by decide +kernel
theorem qm_M_operand_88 : decode qm_M_operand_c 88 = .ok (.ishr, 1) := by decide +kernel
theorem qm_M_operand_89 : decode qm_M_operand_c 89 = .ok (.istore 7, 2) := by decide +kernel
theorem qm_M_operand_91 : decode qm_M_operand_c 91 = .ok (.iload 5, 2) := by decide +kernel
theorem qm_M_operand_93 : decode qm_M_operand_c 93 = .ok (.bipush 15, 2) := by decide +kernel
theorem qm_M_operand_95 : decode qm_M_operand_c 95 = .ok (.iand, 1) := by decide +kernel
theorem qm_M_operand_96 : decode qm_M_operand_c 96 = .ok (.istore 8, 2) := by decide +kernel
theorem qm_M_operand_98 : decode qm_M_operand_c 98 = .ok (.iload 7, 2) := by decide +kernel
theorem qm_M_operand_100 : decode qm_M_operand_c 100 = .ok (.bipush 12, 2) := by decide +kernel
theorem qm_M_operand_102 : decode qm_M_operand_c 102 = .ok (.if_icmp .eq 70, 3) := by decide +kernel
theorem qm_M_operand_105 : decode qm_M_operand_c 105 = .ok (.iload 7, 2) := by decide +kernel
theorem qm_M_operand_107 : decode qm_M_operand_c 107 = .ok (.bipush 13, 2) := by decide +kernel
theorem qm_M_operand_109 : decode qm_M_operand_c 109 = .ok (.if_icmp .eq 63, 3) := by decide +kernel
theorem qm_M_operand_112 : decode qm_M_operand_c 112 = .ok (.iload 7, 2) := by decide +kernel
theorem qm_M_operand_114 : decode qm_M_operand_c 114 = .ok (.iconst 4, 1) := by decide +kernel
theorem qm_M_operand_115 : decode qm_M_operand_c 115 = .ok (.if_icmp .le 17, 3) := by decide +kernel
theorem qm_M_operand_118 : decode qm_M_operand_c 118 = .ok (.iload 7, 2) := by decide +kernel
theorem qm_M_operand_120 : decode qm_M_operand_c 120 = .ok (.bipush 8, 2) := by decide +kernel
theorem qm_M_operand_122 : decode qm_M_operand_c 122 = .ok (.if_icmp .ge 10, 3) := by decide +kernel
theorem qm_M_operand_125 : decode qm_M_operand_c 125 = .ok (.iload 8, 2) := by decide +kernel
theorem qm_M_operand_127 : decode qm_M_operand_c 127 = .ok (.bipush 15, 2) := by decide +kernel
theorem qm_M_operand_129 : decode qm_M_operand_c 129 = .ok (.if_icmp .eq 43, 3) := by decide +kernel
theorem qm_M_operand_132 : decode qm_M_operand_c 132 = .ok (.iload 7, 2) := by decide +kernel
theorem qm_M_operand_134 : decode qm_M_operand_c 134 = .ok (.iconst 4, 1) := by decide +kernel
theorem qm_M_operand_135 : decode qm_M_operand_c 135 = .ok (.if_icmp .ge 8, 3) := by decide +kernel
theorem qm_M_operand_138 : decode qm_M_operand_c 138 = .ok (.iload_n 3, 1) := by decide +kernel
theorem qm_M_operand_139 : decode qm_M_operand_c 139 = .ok (.iconst 1, 1) := by decide +kernel
theorem qm_M_operand_140 : decode qm_M_operand_c 140 = .ok (.if_icmp .ne 32, 3) := by decide +kernel
theorem qm_M_operand_143 : decode qm_M_operand_c 143 = .ok (.iload 7, 2) := by decide +kernel
theorem qm_M_operand_145 : decode qm_M_operand_c 145 = .ok (.iconst 5, 1) := by decide +kernel
theorem qm_M_operand_146 : decode qm_M_operand_c 146 = .ok (.if_icmp .ne 8, 3) := by decide +kernel
theorem qm_M_operand_149 : decode qm_M_operand_c 149 = .ok (.iload_n 3, 1) := by decide +kernel
theorem qm_M_operand_150 : decode qm_M_operand_c 150 = .ok (.iconst 4, 1) := by decide +kernel
theorem qm_M_operand_151 : decode qm_M_operand_c 151 = .ok (.if_icmp .eq 21, 3) := by decide +kernel
theorem qm_M_operand_154 : decode qm_M_operand_c 154 = .ok (.iload 5, 2) := by decide +kernel
theorem qm_M_operand_156 : decode qm_M_operand_c 156 = .ok (.sipush 143, 3) := by decide +kernel
theorem qm_M_operand_159 : decode qm_M_operand_c 159 = .ok (.if_icmp .ne 20, 3) := by decide +kernel
theorem qm_M_operand_162 : decode qm_M_operand_c 162 = .ok (.iload_n 3, 1) := by decide +kernel
theorem qm_M_operand_163 : decode qm_M_operand_c 163 = .ok (.iconst 2, 1) := by decide +kernel
theorem qm_M_operand_164 : decode qm_M_operand_c 164 = .ok (.if_icmp .eq 8, 3) := by decide +kernel
theorem qm_M_operand_167 : decode qm_M_operand_c 167 = .ok (.iload_n 3, 1) := by decide +kernel
theorem qm_M_operand_168 : decode qm_M_operand_c 168 = .ok (.iconst 3, 1) := by decide +kernel
theorem qm_M_operand_169 : decode qm_M_operand_c 169 = .ok (.if_icmp .ne 10, 3) := by decide +kernel
theorem qm_M_operand_172 : decode qm_M_operand_c 172 = .ok (.aload_n 0, 1) := by decide +kernel
theorem qm_M_operand_173 : decode qm_M_operand_c 173 = .ok (.iconst 3, 1) := by decide +kernel
theorem qm_M_operand_174 : decode qm_M_operand_c 174 = .ok (.iconst 0, 1) := by decide +kernel
theorem qm_M_operand_175 : decode qm_M_operand_c 175 = .ok (.iconst 0, 1) := by decide +kernel
theorem qm_M_operand_176 : decode qm_M_operand_c 176 = .ok (.invokevirtual 77, 3) := by decide +kernel
theorem qm_M_operand_179 : decode qm_M_operand_c 179 = .ok (.aload_n 0, 1) := by decide +kernel
theorem qm_M_operand_180 : decode qm_M_operand_c 180 = .ok (.getfield 28, 3) := by decide +kernel
theorem qm_M_operand_183 : decode qm_M_operand_c 183 = .ok (.iload_n 1, 1) := by decide +kernel
theorem qm_M_operand_184 : decode qm_M_operand_c 184 = .ok (.iload 7, 2) := by decide +kernel
theorem qm_M_operand_186 : decode qm_M_operand_c 186 = .ok (.iconst 4, 1) := by decide +kernel
theorem qm_M_operand_187 : decode qm_M_operand_c 187 = .ok (.if_icmp .ge 7, 3) := by decide +kernel
theorem qm_M_operand_190 : decode qm_M_operand_c 190 = .ok (.iconst (-1), 1) := by decide +kernel
theorem qm_M_operand_191 : decode qm_M_operand_c 191 = .ok (.goto 16, 3) := by decide +kernel
theorem qm_M_operand_194 : decode qm_M_operand_c 194 = .ok (.iload 7, 2) := by decide +kernel
theorem qm_M_operand_196 : decode qm_M_operand_c 196 = .ok (.iconst 5, 1) := by decide +kernel
theorem qm_M_operand_197 : decode qm_M_operand_c 197 = .ok (.if_icmp .ne 8, 3) := by decide +kernel
theorem qm_M_operand_200 : decode qm_M_operand_c 200 = .ok (.iload 8, 2) := by decide +kernel
theorem qm_M_operand_202 : decode qm_M_operand_c 202 = .ok (.goto 5, 3) := by decide +kernel
theorem qm_M_operand_205 : decode qm_M_operand_c 205 = .ok (.bipush 16, 2) := by decide +kernel
theorem qm_M_operand_207 : decode qm_M_operand_c 207 = .ok (.iastore, 1) := by decide +kernel
theorem qm_M_operand_208 : decode qm_M_operand_c 208 = .ok (.aload_n 0, 1) := by decide +kernel
theorem qm_M_operand_209 : decode qm_M_operand_c 209 = .ok (.getfield 25, 3) := by decide +kernel
theorem qm_M_operand_212 : decode qm_M_operand_c 212 = .ok (.iload_n 1, 1) := by decide +kernel
theorem qm_M_operand_213 : decode qm_M_operand_c 213 = .ok (.iload 7, 2) := by decide +kernel
theorem qm_M_operand_215 : decode qm_M_operand_c 215 = .ok (.iconst 4, 1) := by decide +kernel
theorem qm_M_operand_216 : decode qm_M_operand_c 216 = .ok (.if_icmp .ge 8, 3) := by decide +kernel
theorem qm_M_operand_219 : decode qm_M_operand_c 219 = .ok (.iload 5, 2) := by decide +kernel
theorem qm_M_operand_221 : decode qm_M_operand_c 221 = .ok (.goto 28, 3) := by decide +kernel
theorem qm_M_operand_224 : decode qm_M_operand_c 224 = .ok (.iload 4, 2) := by decide +kernel
theorem qm_M_operand_226 : decode qm_M_operand_c 226 = .ok (.iconst 4, 1) := by decide +kernel
theorem qm_M_operand_227 : decode qm_M_operand_c 227 = .ok (.if_icmp .ne 12, 3) := by decide +kernel
theorem qm_M_operand_230 : decode qm_M_operand_c 230 = .ok (.aload_n 0, 1) := by decide +kernel
theorem qm_M_operand_231 : decode qm_M_operand_c 231 = .ok (.iload 8, 2) := by decide +kernel
theorem qm_M_operand_233 : decode qm_M_operand_c 233 = .ok (.invokevirtual 84, 3) := by decide +kernel
theorem qm_M_operand_236 : decode qm_M_operand_c 236 = .ok (.goto 13, 3) := by decide +kernel
theorem qm_M_operand_239 : decode qm_M_operand_c 239 = .ok (.aload_n 0, 1) := by decide +kernel
theorem qm_M_operand_240 : decode qm_M_operand_c 240 = .ok (.iload 8, 2) := by decide +kernel
theorem qm_M_operand_242 : decode qm_M_operand_c 242 = .ok (.invokevirtual 84, 3) := by decide +kernel
theorem qm_M_operand_245 : decode qm_M_operand_c 245 = .ok (.sipush 255, 3) := by decide +kernel
theorem qm_M_operand_248 : decode qm_M_operand_c 248 = .ok (.iand, 1) := by decide +kernel
theorem qm_M_operand_249 : decode qm_M_operand_c 249 = .ok (.iastore, 1) := by decide +kernel
theorem qm_M_operand_250 : decode qm_M_operand_c 250 = .ok (.iload 7, 2) := by decide +kernel
theorem qm_M_operand_252 : decode qm_M_operand_c 252 = .ok (.bipush 6, 2) := by decide +kernel
theorem qm_M_operand_254 : decode qm_M_operand_c 254 = .ok (.if_icmp .ge 4, 3) := by decide +kernel
theorem qm_M_operand_257 : decode qm_M_operand_c 257 = .ok (.return_, 1) := by decide +kernel
theorem qm_M_operand_258 : decode qm_M_operand_c 258 = .ok (.iload 7, 2) := by decide +kernel
theorem qm_M_operand_260 : decode qm_M_operand_c 260 = .ok (.bipush 10, 2) := by decide +kernel
theorem qm_M_operand_262 : decode qm_M_operand_c 262 = .ok (.if_icmp .ge 12, 3) := by decide +kernel
theorem qm_M_operand_265 : decode qm_M_operand_c 265 = .ok (.aload_n 0, 1) := by decide +kernel
theorem qm_M_operand_266 : decode qm_M_operand_c 266 = .ok (.iload 8, 2) := by decide +kernel
theorem qm_M_operand_268 : decode qm_M_operand_c 268 = .ok (.invokevirtual 84, 3) := by decide +kernel
theorem qm_M_operand_271 : decode qm_M_operand_c 271 = .ok (.goto 4, 3) := by decide +kernel
theorem qm_M_operand_274 : decode qm_M_operand_c 274 = .ok (.iconst 0, 1) := by decide +kernel
theorem qm_M_operand_275 : decode qm_M_operand_c 275 = .ok (.istore 9, 2) := by decide +kernel
theorem qm_M_operand_277 : decode qm_M_operand_c 277 = .ok (.iload 7, 2) := by decide +kernel
theorem qm_M_operand_279 : decode qm_M_operand_c 279 = .ok (.bipush 7, 2) := by decide +kernel
theorem qm_M_operand_281 : decode qm_M_operand_c 281 = .ok (.if_icmp .ne 10, 3) := by decide +kernel
theorem qm_M_operand_284 : decode qm_M_operand_c 284 = .ok (.iload 9, 2) := by decide +kernel
theorem qm_M_operand_286 : decode qm_M_operand_c 286 = .ok (.iload 4, 2) := by decide +kernel
theorem qm_M_operand_288 : decode qm_M_operand_c 288 = .ok (.isub, 1) := by decide +kernel
theorem qm_M_operand_289 : decode qm_M_operand_c 289 = .ok (.istore 9, 2) := by decide +kernel
theorem qm_M_operand_291 : decode qm_M_operand_c 291 = .ok (.iload 7, 2) := by decide +kernel
theorem qm_M_operand_293 : decode qm_M_operand_c 293 = .ok (.bipush 7, 2) := by decide +kernel
theorem qm_M_operand_295 : decode qm_M_operand_c 295 = .ok (.if_icmp .eq 10, 3) := by decide +kernel
theorem qm_M_operand_298 : decode qm_M_operand_c 298 = .ok (.iload 7, 2) := by decide +kernel
theorem qm_M_operand_300 : decode qm_M_operand_c 300 = .ok (.bipush 8, 2) := by decide +kernel
theorem qm_M_operand_302 : decode qm_M_operand_c 302 = .ok (.if_icmp .ne 26, 3) := by decide +kernel
theorem qm_M_operand_305 : decode qm_M_operand_c 305 = .ok (.aload_n 0, 1) := by decide +kernel
theorem qm_M_operand_306 : decode qm_M_operand_c 306 = .ok (.iload 8, 2) := by decide +kernel
theorem qm_M_operand_308 : decode qm_M_operand_c 308 = .ok (.iload 7, 2) := by decide +kernel
theorem qm_M_operand_310 : decode qm_M_operand_c 310 = .ok (.bipush 7, 2) := by decide +kernel
theorem qm_M_operand_312 : decode qm_M_operand_c 312 = .ok (.if_icmp .ne 8, 3) := by decide +kernel
theorem qm_M_operand_315 : decode qm_M_operand_c 315 = .ok (.iload 9, 2) := by decide +kernel
theorem qm_M_operand_317 : decode qm_M_operand_c 317 = .ok (.goto 8, 3) := by decide +kernel
theorem qm_M_operand_320 : decode qm_M_operand_c 320 = .ok (.iload 9, 2) := by decide +kernel
theorem qm_M_operand_322 : decode qm_M_operand_c 322 = .ok (.iload 4, 2) := by decide +kernel
theorem qm_M_operand_324 : decode qm_M_operand_c 324 = .ok (.iadd, 1) := by decide +kernel
theorem qm_M_operand_325 : decode qm_M_operand_c 325 = .ok (.invokevirtual 90, 3) := by decide +kernel
theorem qm_M_operand_328 : decode qm_M_operand_c 328 = .ok (.iload 7, 2) := by decide +kernel
theorem qm_M_operand_330 : decode qm_M_operand_c 330 = .ok (.bipush 9, 2) := by decide +kernel
theorem qm_M_operand_332 : decode qm_M_operand_c 332 = .ok (.if_icmp .ne 13, 3) := by decide +kernel
theorem qm_M_operand_335 : decode qm_M_operand_c 335 = .ok (.aload_n 0, 1) := by decide +kernel
theorem qm_M_operand_336 : decode qm_M_operand_c 336 = .ok (.iload 8, 2) := by decide +kernel
theorem qm_M_operand_338 : decode qm_M_operand_c 338 = .ok (.iload 9, 2) := by decide +kernel
theorem qm_M_operand_340 : decode qm_M_operand_c 340 = .ok (.iconst 4, 1) := by decide +kernel
theorem qm_M_operand_341 : decode qm_M_operand_c 341 = .ok (.iadd, 1) := by decide +kernel
theorem qm_M_operand_342 : decode qm_M_operand_c 342 = .ok (.invokevirtual 90, 3) := by decide +kernel
theorem qm_M_operand_345 : decode qm_M_operand_c 345 = .ok (.iload 7, 2) := by decide +kernel
theorem qm_M_operand_347 : decode qm_M_operand_c 347 = .ok (.bipush 9, 2) := by decide +kernel
theorem qm_M_operand_349 : decode qm_M_operand_c 349 = .ok (.if_icmp .le 61, 3) := by decide +kernel
theorem qm_M_operand_352 : decode qm_M_operand_c 352 = .ok (.iload 7, 2) := by decide +kernel
theorem qm_M_operand_354 : decode qm_M_operand_c 354 = .ok (.bipush 12, 2) := by decide +kernel
theorem qm_M_operand_356 : decode qm_M_operand_c 356 = .ok (.if_icmp .ge 13, 3) := by decide +kernel
theorem qm_M_operand_359 : decode qm_M_operand_c 359 = .ok (.aload_n 0, 1) := by decide +kernel
theorem qm_M_operand_360 : decode qm_M_operand_c 360 = .ok (.invokevirtual 100, 3) := by decide +kernel
theorem qm_M_operand_363 : decode qm_M_operand_c 363 = .ok (.invokestatic 103, 3) := by decide +kernel
theorem qm_M_operand_366 : decode qm_M_operand_c 366 = .ok (.goto 31, 3) := by decide +kernel
theorem qm_M_operand_369 : decode qm_M_operand_c 369 = .ok (.aload_n 0, 1) := by decide +kernel
theorem qm_M_operand_370 : decode qm_M_operand_c 370 = .ok (.invokevirtual 100, 3) := by decide +kernel
theorem qm_M_operand_373 : decode qm_M_operand_c 373 = .ok (.aload_n 0, 1) := by decide +kernel
theorem qm_M_operand_374 : decode qm_M_operand_c 374 = .ok (.invokevirtual 100, 3) := by decide +kernel
theorem qm_M_operand_377 : decode qm_M_operand_c 377 = .ok (.bipush 8, 2) := by decide +kernel
theorem qm_M_operand_379 : decode qm_M_operand_c 379 = .ok (.ishl, 1) := by decide +kernel
theorem qm_M_operand_380 : decode qm_M_operand_c 380 = .ok (.ior, 1) := by decide +kernel
theorem qm_M_operand_381 : decode qm_M_operand_c 381 = .ok (.aload_n 0, 1) := by decide +kernel
theorem qm_M_operand_382 : decode qm_M_operand_c 382 = .ok (.invokevirtual 100, 3) := by decide +kernel
theorem qm_M_operand_385 : decode qm_M_operand_c 385 = .ok (.bipush 16, 2) := by decide +kernel
theorem qm_M_operand_387 : decode qm_M_operand_c 387 = .ok (.ishl, 1) := by decide +kernel
theorem qm_M_operand_388 : decode qm_M_operand_c 388 = .ok (.ior, 1) := by decide +kernel
theorem qm_M_operand_389 : decode qm_M_operand_c 389 = .ok (.aload_n 0, 1) := by decide +kernel
theorem qm_M_operand_390 : decode qm_M_operand_c 390 = .ok (.invokevirtual 100, 3) := by decide +kernel
theorem qm_M_operand_393 : decode qm_M_operand_c 393 = .ok (.bipush 24, 2) := by decide +kernel
theorem qm_M_operand_395 : decode qm_M_operand_c 395 = .ok (.ishl, 1) := by decide +kernel
theorem qm_M_operand_396 : decode qm_M_operand_c 396 = .ok (.ior, 1) := by decide +kernel
theorem qm_M_operand_397 : decode qm_M_operand_c 397 = .ok (.istore 10, 2) := by decide +kernel
theorem qm_M_operand_399 : decode qm_M_operand_c 399 = .ok (.aload_n 0, 1) := by decide +kernel
theorem qm_M_operand_400 : decode qm_M_operand_c 400 = .ok (.iload 8, 2) := by decide +kernel
theorem qm_M_operand_402 : decode qm_M_operand_c 402 = .ok (.invokevirtual 84, 3) := by decide +kernel
theorem qm_M_operand_405 : decode qm_M_operand_c 405 = .ok (.iload 10, 2) := by decide +kernel
theorem qm_M_operand_407 : decode qm_M_operand_c 407 = .ok (.iadd, 1) := by decide +kernel
theorem qm_M_operand_408 : decode qm_M_operand_c 408 = .ok (.istore 9, 2) := by decide +kernel
theorem qm_M_operand_410 : decode qm_M_operand_c 410 = .ok (.iload 7, 2) := by decide +kernel
theorem qm_M_operand_412 : decode qm_M_operand_c 412 = .ok (.bipush 9, 2) := by decide +kernel
theorem qm_M_operand_414 : decode qm_M_operand_c 414 = .ok (.if_icmp .eq 17, 3) := by decide +kernel
theorem qm_M_operand_417 : decode qm_M_operand_c 417 = .ok (.iload 7, 2) := by decide +kernel
theorem qm_M_operand_419 : decode qm_M_operand_c 419 = .ok (.bipush 11, 2) := by decide +kernel
theorem qm_M_operand_421 : decode qm_M_operand_c 421 = .ok (.if_icmp .eq 10, 3) := by decide +kernel
theorem qm_M_operand_424 : decode qm_M_operand_c 424 = .ok (.iload 7, 2) := by decide +kernel
theorem qm_M_operand_426 : decode qm_M_operand_c 426 = .ok (.bipush 15, 2) := by decide +kernel
theorem qm_M_operand_428 : decode qm_M_operand_c 428 = .ok (.if_icmp .ne 11, 3) := by decide +kernel
theorem qm_M_operand_431 : decode qm_M_operand_c 431 = .ok (.aload_n 0, 1) := by decide +kernel
theorem qm_M_operand_432 : decode qm_M_operand_c 432 = .ok (.iload 9, 2) := by decide +kernel
theorem qm_M_operand_434 : decode qm_M_operand_c 434 = .ok (.invokevirtual 94, 3) := by decide +kernel
theorem qm_M_operand_437 : decode qm_M_operand_c 437 = .ok (.istore 9, 2) := by decide +kernel
theorem qm_M_operand_439 : decode qm_M_operand_c 439 = .ok (.iload 6, 2) := by decide +kernel
theorem qm_M_operand_441 : decode qm_M_operand_c 441 = .ok (.ifCond .lt 17, 3) := by decide +kernel
theorem qm_M_operand_444 : decode qm_M_operand_c 444 = .ok (.iload 9, 2) := by decide +kernel
theorem qm_M_operand_446 : decode qm_M_operand_c 446 = .ok (.iload 4, 2) := by decide +kernel
theorem qm_M_operand_448 : decode qm_M_operand_c 448 = .ok (.aload_n 0, 1) := by decide +kernel
theorem qm_M_operand_449 : decode qm_M_operand_c 449 = .ok (.iload 6, 2) := by decide +kernel
theorem qm_M_operand_451 : decode qm_M_operand_c 451 = .ok (.invokevirtual 84, 3) := by decide +kernel
theorem qm_M_operand_454 : decode qm_M_operand_c 454 = .ok (.imul, 1) := by decide +kernel
theorem qm_M_operand_455 : decode qm_M_operand_c 455 = .ok (.iadd, 1) := by decide +kernel
theorem qm_M_operand_456 : decode qm_M_operand_c 456 = .ok (.istore 9, 2) := by decide +kernel
theorem qm_M_operand_458 : decode qm_M_operand_c 458 = .ok (.aload_n 0, 1) := by decide +kernel
theorem qm_M_operand_459 : decode qm_M_operand_c 459 = .ok (.getfield 31, 3) := by decide +kernel
theorem qm_M_operand_462 : decode qm_M_operand_c 462 = .ok (.iload_n 1, 1) := by decide +kernel
theorem qm_M_operand_463 : decode qm_M_operand_c 463 = .ok (.iload 9, 2) := by decide +kernel
theorem qm_M_operand_465 : decode qm_M_operand_c 465 = .ok (.iastore, 1) := by decide +kernel
theorem qm_M_operand_466 : decode qm_M_operand_c 466 = .ok (.iload_n 3, 1) := by decide +kernel
theorem qm_M_operand_467 : decode qm_M_operand_c 467 = .ok (.iconst 1, 1) := by decide +kernel
theorem qm_M_operand_468 : decode qm_M_operand_c 468 = .ok (.if_icmp .eq 8, 3) := by decide +kernel
theorem qm_M_operand_471 : decode qm_M_operand_c 471 = .ok (.iload_n 3, 1) := by decide +kernel
theorem qm_M_operand_472 : decode qm_M_operand_c 472 = .ok (.iconst 3, 1) := by decide +kernel
theorem qm_M_operand_473 : decode qm_M_operand_c 473 = .ok (.if_icmp .ne 30, 3) := by decide +kernel
theorem qm_M_operand_476 : decode qm_M_operand_c 476 = .ok (.aload_n 0, 1) := by decide +kernel
theorem qm_M_operand_477 : decode qm_M_operand_c 477 = .ok (.getfield 25, 3) := by decide +kernel
theorem qm_M_operand_480 : decode qm_M_operand_c 480 = .ok (.iload_n 1, 1) := by decide +kernel
theorem qm_M_operand_481 : decode qm_M_operand_c 481 = .ok (.iload 4, 2) := by decide +kernel
theorem qm_M_operand_483 : decode qm_M_operand_c 483 = .ok (.iconst 4, 1) := by decide +kernel
theorem qm_M_operand_484 : decode qm_M_operand_c 484 = .ok (.if_icmp .ne 12, 3) := by decide +kernel
theorem qm_M_operand_487 : decode qm_M_operand_c 487 = .ok (.aload_n 0, 1) := by decide +kernel
theorem qm_M_operand_488 : decode qm_M_operand_c 488 = .ok (.iload 9, 2) := by decide +kernel
theorem qm_M_operand_490 : decode qm_M_operand_c 490 = .ok (.invokevirtual 94, 3) := by decide +kernel
theorem qm_M_operand_493 : decode qm_M_operand_c 493 = .ok (.goto 9, 3) := by decide +kernel
theorem qm_M_operand_496 : decode qm_M_operand_c 496 = .ok (.aload_n 0, 1) := by decide +kernel
theorem qm_M_operand_497 : decode qm_M_operand_c 497 = .ok (.iload 9, 2) := by decide +kernel
theorem qm_M_operand_499 : decode qm_M_operand_c 499 = .ok (.invokevirtual 81, 3) := by decide +kernel
theorem qm_M_operand_502 : decode qm_M_operand_c 502 = .ok (.iastore, 1) := by decide +kernel
theorem qm_M_operand_503 : decode qm_M_operand_c 503 = .ok (.return_, 1) := by decide +kernel
theorem qm_M_pop_0 : decode qm_M_pop_c 0 = .ok (.aload_n 0, 1) := by decide +kernel
theorem qm_M_pop_1 : decode qm_M_pop_c 1 = .ok (.aload_n 0, 1) := by decide +kernel
theorem qm_M_pop_2 : decode qm_M_pop_c 2 = .ok (.bipush 14, 2) := by decide +kernel
theorem qm_M_pop_4 : decode qm_M_pop_c 4 = .ok (.invokevirtual 84, 3) := by decide +kernel
theorem qm_M_pop_7 : decode qm_M_pop_c 7 = .ok (.invokevirtual 94, 3) := by decide +kernel
theorem qm_M_pop_10 : decode qm_M_pop_c 10 = .ok (.istore_n 1, 1) := by decide +kernel
theorem qm_M_pop_11 : decode qm_M_pop_c 11 = .ok (.aload_n 0, 1) := by decide +kernel
theorem qm_M_pop_12 : decode qm_M_pop_c 12 = .ok (.bipush 14, 2) := by decide +kernel
theorem qm_M_pop_14 : decode qm_M_pop_c 14 = .ok (.aload_n 0, 1) := by decide +kernel
theorem qm_M_pop_15 : decode qm_M_pop_c 15 = .ok (.bipush 14, 2) := by decide +kernel
theorem qm_M_pop_17 : decode qm_M_pop_c 17 = .ok (.invokevirtual 84, 3) := by decide +kernel
theorem qm_M_pop_20 : decode qm_M_pop_c 20 = .ok (.iconst 4, 1) := by decide +kernel
theorem qm_M_pop_21 : decode qm_M_pop_c 21 = .ok (.iadd, 1) := by decide +kernel
theorem qm_M_pop_22 : decode qm_M_pop_c 22 = .ok (.invokevirtual 90, 3) := by decide +kernel
theorem qm_M_pop_25 : decode qm_M_pop_c 25 = .ok (.iload_n 1, 1) := by decide +kernel
theorem qm_M_pop_26 : decode qm_M_pop_c 26 = .ok (.ireturn, 1) := by decide +kernel
theorem qm_M_endException_0 : decode qm_M_endException_c 0 = .ok (.aload_n 0, 1) := by decide +kernel
theorem qm_M_endException_1 : decode qm_M_endException_c 1 = .ok (.invokevirtual 128, 3) := by decide +kernel
theorem qm_M_endException_4 : decode qm_M_endException_c 4 = .ok (.istore_n 1, 1) := by decide +kernel
theorem qm_M_endException_5 : decode qm_M_endException_c 5 = .ok (.aload_n 0, 1) := by decide +kernel
theorem qm_M_endException_6 : decode qm_M_endException_c 6 = .ok (.invokevirtual 128, 3) := by decide +kernel
theorem qm_M_endException_9 : decode qm_M_endException_c 9 = .ok (.istore_n 2, 1) := by decide +kernel
theorem qm_M_endException_10 : decode qm_M_endException_c 10 = .ok (.iload_n 2, 1) := by decide +kernel
theorem qm_M_endException_11 : decode qm_M_endException_c 11 = .ok (.bipush 24, 2) := by decide +kernel
theorem qm_M_endException_13 : decode qm_M_endException_c 13 = .ok (.ishr, 1) := by decide +kernel
theorem qm_M_endException_14 : decode qm_M_endException_c 14 = .ok (.iconst 3, 1) := by decide +kernel
theorem qm_M_endException_15 : decode qm_M_endException_c 15 = .ok (.iand, 1) := by decide +kernel
theorem qm_M_endException_16 : decode qm_M_endException_c 16 = .ok (.istore_n 3, 1) := by decide +kernel
theorem qm_M_endException_17 : decode qm_M_endException_c 17 = .ok (.iload_n 2, 1) := by decide +kernel
theorem qm_M_endException_18 : decode qm_M_endException_c 18 = .ok (.ldc 132, 2) := by decide +kernel
theorem qm_M_endException_20 : decode qm_M_endException_c 20 = .ok (.iand, 1) := by decide +kernel
theorem qm_M_endException_21 : decode qm_M_endException_c 21 = .ok (.ifCond .ne 21, 3) := by decide +kernel
theorem qm_M_endException_24 : decode qm_M_endException_c 24 = .ok (.iload_n 3, 1) := by decide +kernel
theorem qm_M_endException_25 : decode qm_M_endException_c 25 = .ok (.aload_n 0, 1) := by decide +kernel
theorem qm_M_endException_26 : decode qm_M_endException_c 26 = .ok (.invokevirtual 69, 3) := by decide +kernel
theorem qm_M_endException_29 : decode qm_M_endException_c 29 = .ok (.if_icmp .lt 13, 3) := by decide +kernel
theorem qm_M_endException_32 : decode qm_M_endException_c 32 = .ok (.iload_n 2, 1) := by decide +kernel
theorem qm_M_endException_33 : decode qm_M_endException_c 33 = .ok (.bipush 22, 2) := by decide +kernel
theorem qm_M_endException_35 : decode qm_M_endException_c 35 = .ok (.ishr, 1) := by decide +kernel
theorem qm_M_endException_36 : decode qm_M_endException_c 36 = .ok (.iconst 3, 1) := by decide +kernel
theorem qm_M_endException_37 : decode qm_M_endException_c 37 = .ok (.iand, 1) := by decide +kernel
theorem qm_M_endException_38 : decode qm_M_endException_c 38 = .ok (.iload_n 3, 1) := by decide +kernel
theorem qm_M_endException_39 : decode qm_M_endException_c 39 = .ok (.if_icmp .ge 10, 3) := by decide +kernel
theorem qm_M_endException_42 : decode qm_M_endException_c 42 = .ok (.aload_n 0, 1) := by decide +kernel
theorem qm_M_endException_43 : decode qm_M_endException_c 43 = .ok (.iconst 2, 1) := by decide +kernel
theorem qm_M_endException_44 : decode qm_M_endException_c 44 = .ok (.iconst 0, 1) := by decide +kernel
theorem qm_M_endException_45 : decode qm_M_endException_c 45 = .ok (.iconst 0, 1) := by decide +kernel
theorem qm_M_endException_46 : decode qm_M_endException_c 46 = .ok (.invokevirtual 77, 3) := by decide +kernel
theorem qm_M_endException_49 : decode qm_M_endException_c 49 = .ok (.aload_n 0, 1) := by decide +kernel
theorem qm_M_endException_50 : decode qm_M_endException_c 50 = .ok (.getfield 60, 3) := by decide +kernel
theorem qm_M_endException_53 : decode qm_M_endException_c 53 = .ok (.ifCond .eq 4, 3) := by decide +kernel
theorem qm_M_endException_56 : decode qm_M_endException_c 56 = .ok (.return_, 1) := by decide +kernel
theorem qm_M_endException_57 : decode qm_M_endException_c 57 = .ok (.aload_n 0, 1) := by decide +kernel
theorem qm_M_endException_58 : decode qm_M_endException_c 58 = .ok (.getfield 13, 3) := by decide +kernel
theorem qm_M_endException_61 : decode qm_M_endException_c 61 = .ok (.bipush 15, 2) := by decide +kernel
theorem qm_M_endException_63 : decode qm_M_endException_c 63 = .ok (.iload_n 1, 1) := by decide +kernel
theorem qm_M_endException_64 : decode qm_M_endException_c 64 = .ok (.iastore, 1) := by decide +kernel
theorem qm_M_endException_65 : decode qm_M_endException_c 65 = .ok (.aload_n 0, 1) := by decide +kernel
theorem qm_M_endException_66 : decode qm_M_endException_c 66 = .ok (.iload_n 2, 1) := by decide +kernel
theorem qm_M_endException_67 : decode qm_M_endException_c 67 = .ok (.putfield 44, 3) := by decide +kernel
theorem qm_M_endException_70 : decode qm_M_endException_c 70 = .ok (.return_, 1) := by decide +kernel
theorem qm_M_comeBack_0 : decode qm_M_comeBack_c 0 = .ok (.aload_n 0, 1) := by decide +kernel
theorem qm_M_comeBack_1 : decode qm_M_comeBack_c 1 = .ok (.bipush 14, 2) := by decide +kernel
theorem qm_M_comeBack_3 : decode qm_M_comeBack_c 3 = .ok (.aload_n 0, 1) := by decide +kernel
theorem qm_M_comeBack_4 : decode qm_M_comeBack_c 4 = .ok (.getfield 13, 3) := by decide +kernel
theorem qm_M_comeBack_7 : decode qm_M_comeBack_c 7 = .ok (.bipush 13, 2) := by decide +kernel
theorem qm_M_comeBack_9 : decode qm_M_comeBack_c 9 = .ok (.iaload, 1) := by decide +kernel
theorem qm_M_comeBack_10 : decode qm_M_comeBack_c 10 = .ok (.iconst 4, 1) := by decide +kernel
theorem qm_M_comeBack_11 : decode qm_M_comeBack_c 11 = .ok (.iadd, 1) := by decide +kernel
theorem qm_M_comeBack_12 : decode qm_M_comeBack_c 12 = .ok (.invokevirtual 90, 3) := by decide +kernel
theorem qm_M_comeBack_15 : decode qm_M_comeBack_c 15 = .ok (.aload_n 0, 1) := by decide +kernel
theorem qm_M_comeBack_16 : decode qm_M_comeBack_c 16 = .ok (.invokevirtual 128, 3) := by decide +kernel
theorem qm_M_comeBack_19 : decode qm_M_comeBack_c 19 = .ok (.istore_n 1, 1) := by decide +kernel
theorem qm_M_comeBack_20 : decode qm_M_comeBack_c 20 = .ok (.iload_n 1, 1) := by decide +kernel
theorem qm_M_comeBack_21 : decode qm_M_comeBack_c 21 = .ok (.ldc 131, 2) := by decide +kernel
theorem qm_M_comeBack_23 : decode qm_M_comeBack_c 23 = .ok (.iand, 1) := by decide +kernel
theorem qm_M_comeBack_24 : decode qm_M_comeBack_c 24 = .ok (.ifCond .eq 10, 3) := by decide +kernel
theorem qm_M_comeBack_27 : decode qm_M_comeBack_c 27 = .ok (.aload_n 0, 1) := by decide +kernel
theorem qm_M_comeBack_28 : decode qm_M_comeBack_c 28 = .ok (.iconst 2, 1) := by decide +kernel
theorem qm_M_comeBack_29 : decode qm_M_comeBack_c 29 = .ok (.iconst 0, 1) := by decide +kernel
theorem qm_M_comeBack_30 : decode qm_M_comeBack_c 30 = .ok (.iconst 0, 1) := by decide +kernel
theorem qm_M_comeBack_31 : decode qm_M_comeBack_c 31 = .ok (.invokevirtual 77, 3) := by decide +kernel
theorem qm_M_comeBack_34 : decode qm_M_comeBack_c 34 = .ok (.aload_n 0, 1) := by decide +kernel
theorem qm_M_comeBack_35 : decode qm_M_comeBack_c 35 = .ok (.getfield 13, 3) := by decide +kernel
theorem qm_M_comeBack_38 : decode qm_M_comeBack_c 38 = .ok (.bipush 12, 2) := by decide +kernel
theorem qm_M_comeBack_40 : decode qm_M_comeBack_c 40 = .ok (.aload_n 0, 1) := by decide +kernel
theorem qm_M_comeBack_41 : decode qm_M_comeBack_c 41 = .ok (.invokevirtual 128, 3) := by decide +kernel
theorem qm_M_comeBack_44 : decode qm_M_comeBack_c 44 = .ok (.iastore, 1) := by decide +kernel
theorem qm_M_comeBack_45 : decode qm_M_comeBack_c 45 = .ok (.aload_n 0, 1) := by decide +kernel
theorem qm_M_comeBack_46 : decode qm_M_comeBack_c 46 = .ok (.getfield 13, 3) := by decide +kernel
theorem qm_M_comeBack_49 : decode qm_M_comeBack_c 49 = .ok (.bipush 13, 2) := by decide +kernel
theorem qm_M_comeBack_51 : decode qm_M_comeBack_c 51 = .ok (.aload_n 0, 1) := by decide +kernel
theorem qm_M_comeBack_52 : decode qm_M_comeBack_c 52 = .ok (.invokevirtual 128, 3) := by decide +kernel
theorem qm_M_comeBack_55 : decode qm_M_comeBack_c 55 = .ok (.iastore, 1) := by decide +kernel
theorem qm_M_comeBack_56 : decode qm_M_comeBack_c 56 = .ok (.aload_n 0, 1) := by decide +kernel
theorem qm_M_comeBack_57 : decode qm_M_comeBack_c 57 = .ok (.getfield 13, 3) := by decide +kernel
theorem qm_M_comeBack_60 : decode qm_M_comeBack_c 60 = .ok (.bipush 15, 2) := by decide +kernel
theorem qm_M_comeBack_62 : decode qm_M_comeBack_c 62 = .ok (.aload_n 0, 1) := by decide +kernel
theorem qm_M_comeBack_63 : decode qm_M_comeBack_c 63 = .ok (.invokevirtual 128, 3) := by decide +kernel
theorem qm_M_comeBack_66 : decode qm_M_comeBack_c 66 = .ok (.iastore, 1) := by decide +kernel
theorem qm_M_comeBack_67 : decode qm_M_comeBack_c 67 = .ok (.iconst 0, 1) := by decide +kernel
theorem qm_M_comeBack_68 : decode qm_M_comeBack_c 68 = .ok (.istore_n 2, 1) := by decide +kernel
theorem qm_M_comeBack_69 : decode qm_M_comeBack_c 69 = .ok (.iload_n 2, 1) := by decide +kernel
theorem qm_M_comeBack_70 : decode qm_M_comeBack_c 70 = .ok (.bipush 12, 2) := by decide +kernel
theorem qm_M_comeBack_72 : decode qm_M_comeBack_c 72 = .ok (.if_icmp .ge 31, 3) := by decide +kernel
theorem qm_M_comeBack_75 : decode qm_M_comeBack_c 75 = .ok (.iload_n 1, 1) := by decide +kernel
theorem qm_M_comeBack_76 : decode qm_M_comeBack_c 76 = .ok (.bipush 16, 2) := by decide +kernel
theorem qm_M_comeBack_78 : decode qm_M_comeBack_c 78 = .ok (.iload_n 2, 1) := by decide +kernel
theorem qm_M_comeBack_79 : decode qm_M_comeBack_c 79 = .ok (.iadd, 1) := by decide +kernel
theorem qm_M_comeBack_80 : decode qm_M_comeBack_c 80 = .ok (.ishr, 1) := by decide +kernel
theorem qm_M_comeBack_81 : decode qm_M_comeBack_c 81 = .ok (.iconst 1, 1) := by decide +kernel
theorem qm_M_comeBack_82 : decode qm_M_comeBack_c 82 = .ok (.iand, 1) := by decide +kernel
theorem qm_M_comeBack_83 : decode qm_M_comeBack_c 83 = .ok (.iconst 1, 1) := by decide +kernel
theorem qm_M_comeBack_84 : decode qm_M_comeBack_c 84 = .ok (.if_icmp .ne 13, 3) := by decide +kernel
theorem qm_M_comeBack_87 : decode qm_M_comeBack_c 87 = .ok (.aload_n 0, 1) := by decide +kernel
theorem qm_M_comeBack_88 : decode qm_M_comeBack_c 88 = .ok (.getfield 13, 3) := by decide +kernel
theorem qm_M_comeBack_91 : decode qm_M_comeBack_c 91 = .ok (.iload_n 2, 1) := by decide +kernel
theorem qm_M_comeBack_92 : decode qm_M_comeBack_c 92 = .ok (.aload_n 0, 1) := by decide +kernel
theorem qm_M_comeBack_93 : decode qm_M_comeBack_c 93 = .ok (.invokevirtual 128, 3) := by decide +kernel
theorem qm_M_comeBack_96 : decode qm_M_comeBack_c 96 = .ok (.iastore, 1) := by decide +kernel
theorem qm_M_comeBack_97 : decode qm_M_comeBack_c 97 = .ok (.iinc 2 1, 3) := by decide +kernel
theorem qm_M_comeBack_100 : decode qm_M_comeBack_c 100 = .ok (.goto (-31), 3) := by decide +kernel
theorem qm_M_comeBack_103 : decode qm_M_comeBack_c 103 = .ok (.aload_n 0, 1) := by decide +kernel
theorem qm_M_comeBack_104 : decode qm_M_comeBack_c 104 = .ok (.bipush 14, 2) := by decide +kernel
theorem qm_M_comeBack_106 : decode qm_M_comeBack_c 106 = .ok (.aload_n 0, 1) := by decide +kernel
theorem qm_M_comeBack_107 : decode qm_M_comeBack_c 107 = .ok (.bipush 14, 2) := by decide +kernel
theorem qm_M_comeBack_109 : decode qm_M_comeBack_c 109 = .ok (.invokevirtual 84, 3) := by decide +kernel
theorem qm_M_comeBack_112 : decode qm_M_comeBack_c 112 = .ok (.iload_n 1, 1) := by decide +kernel
theorem qm_M_comeBack_113 : decode qm_M_comeBack_c 113 = .ok (.bipush 30, 2) := by decide +kernel
theorem qm_M_comeBack_115 : decode qm_M_comeBack_c 115 = .ok (.iushr, 1) := by decide +kernel
theorem qm_M_comeBack_116 : decode qm_M_comeBack_c 116 = .ok (.iadd, 1) := by decide +kernel
theorem qm_M_comeBack_117 : decode qm_M_comeBack_c 117 = .ok (.invokevirtual 90, 3) := by decide +kernel
theorem qm_M_comeBack_120 : decode qm_M_comeBack_c 120 = .ok (.iload_n 1, 1) := by decide +kernel
theorem qm_M_comeBack_121 : decode qm_M_comeBack_c 121 = .ok (.bipush 29, 2) := by decide +kernel
theorem qm_M_comeBack_123 : decode qm_M_comeBack_c 123 = .ok (.ishr, 1) := by decide +kernel
theorem qm_M_comeBack_124 : decode qm_M_comeBack_c 124 = .ok (.iconst 1, 1) := by decide +kernel
theorem qm_M_comeBack_125 : decode qm_M_comeBack_c 125 = .ok (.iand, 1) := by decide +kernel
theorem qm_M_comeBack_126 : decode qm_M_comeBack_c 126 = .ok (.iconst 1, 1) := by decide +kernel
theorem qm_M_comeBack_127 : decode qm_M_comeBack_c 127 = .ok (.if_icmp .ne 28, 3) := by decide +kernel
theorem qm_M_comeBack_130 : decode qm_M_comeBack_c 130 = .ok (.aload_n 0, 1) := by decide +kernel
theorem qm_M_comeBack_131 : decode qm_M_comeBack_c 131 = .ok (.invokevirtual 128, 3) := by decide +kernel
theorem qm_M_comeBack_134 : decode qm_M_comeBack_c 134 = .ok (.istore_n 2, 1) := by decide +kernel
theorem qm_M_comeBack_135 : decode qm_M_comeBack_c 135 = .ok (.aload_n 0, 1) := by decide +kernel
theorem qm_M_comeBack_136 : decode qm_M_comeBack_c 136 = .ok (.bipush 14, 2) := by decide +kernel
theorem qm_M_comeBack_138 : decode qm_M_comeBack_c 138 = .ok (.aload_n 0, 1) := by decide +kernel
theorem qm_M_comeBack_139 : decode qm_M_comeBack_c 139 = .ok (.bipush 14, 2) := by decide +kernel
theorem qm_M_comeBack_141 : decode qm_M_comeBack_c 141 = .ok (.invokevirtual 84, 3) := by decide +kernel
theorem qm_M_comeBack_144 : decode qm_M_comeBack_c 144 = .ok (.iconst 4, 1) := by decide +kernel
theorem qm_M_comeBack_145 : decode qm_M_comeBack_c 145 = .ok (.iload_n 2, 1) := by decide +kernel
theorem qm_M_comeBack_146 : decode qm_M_comeBack_c 146 = .ok (.sipush 255, 3) := by decide +kernel
theorem qm_M_comeBack_149 : decode qm_M_comeBack_c 149 = .ok (.iand, 1) := by decide +kernel
theorem qm_M_comeBack_150 : decode qm_M_comeBack_c 150 = .ok (.imul, 1) := by decide +kernel
theorem qm_M_comeBack_151 : decode qm_M_comeBack_c 151 = .ok (.iadd, 1) := by decide +kernel
theorem qm_M_comeBack_152 : decode qm_M_comeBack_c 152 = .ok (.invokevirtual 90, 3) := by decide +kernel
theorem qm_M_comeBack_155 : decode qm_M_comeBack_c 155 = .ok (.aload_n 0, 1) := by decide +kernel
theorem qm_M_comeBack_156 : decode qm_M_comeBack_c 156 = .ok (.aload_n 0, 1) := by decide +kernel
theorem qm_M_comeBack_157 : decode qm_M_comeBack_c 157 = .ok (.getfield 44, 3) := by decide +kernel
theorem qm_M_comeBack_160 : decode qm_M_comeBack_c 160 = .ok (.bipush (-48), 2) := by decide +kernel
theorem qm_M_comeBack_162 : decode qm_M_comeBack_c 162 = .ok (.iand, 1) := by decide +kernel
theorem qm_M_comeBack_163 : decode qm_M_comeBack_c 163 = .ok (.iload_n 1, 1) := by decide +kernel
theorem qm_M_comeBack_164 : decode qm_M_comeBack_c 164 = .ok (.bipush 47, 2) := by decide +kernel
theorem qm_M_comeBack_166 : decode qm_M_comeBack_c 166 = .ok (.iand, 1) := by decide +kernel
theorem qm_M_comeBack_167 : decode qm_M_comeBack_c 167 = .ok (.ior, 1) := by decide +kernel
theorem qm_M_comeBack_168 : decode qm_M_comeBack_c 168 = .ok (.putfield 44, 3) := by decide +kernel
theorem qm_M_comeBack_171 : decode qm_M_comeBack_c 171 = .ok (.return_, 1) := by decide +kernel
set_option maxHeartbeats 4000000 in
set_option maxRecDepth 100000 in
theorem wM_operand_503 {l : Launch} {D : va_G} {h : Nat → Nat} {K : Nat → ClassId} {res : qS} {p : Program} {e : Env} {s : State} {m : MethodId} {args : Array Value} {below : List Frame} {meth : Method} {c : Code} {A : Nat → Prop} {ad : Nat → Nat} (C : qC p s m args meth c qm_M_operand_c 11 none qR_M ad) (S : qS) (hf : fM_operand_503 S = some res) : ∀ (H : Heap) (locs : List Loc) (ls : Array Slot), qG D qCl (mT K) A s (mW h K S) H locs → lv_has ls 11 [] → W p l e ({ frames := 4, cells := 0, slots := 0, locals := 99 }) s m args below meth c H locs 0 0 (MQ below (qQv D qCl (mT K) (mW h K) A res) args s 0 0 A) (F0 m 503 ls []) := by
  intro H locs ls G hl
  unfold fM_operand_503 at hf
  exact q_vret (wf := (mW h K)) C G hf qm_M_operand_503
set_option maxHeartbeats 4000000 in
set_option maxRecDepth 100000 in
theorem wM_operand_502 {l : Launch} {D : va_G} {h : Nat → Nat} {K : Nat → ClassId} {res : qS} {p : Program} {e : Env} {s : State} {m : MethodId} {args : Array Value} {below : List Frame} {meth : Method} {c : Code} {A : Nat → Prop} {ad : Nat → Nat} (C : qC p s m args meth c qm_M_operand_c 11 none qR_M ad) (S : qS) (y1 : Int32) (y2 : Int32) (hf : fM_operand_502 S y1 y2 = some res) : ∀ (H : Heap) (locs : List Loc) (ls : Array Slot), qG D qCl (mT K) A s (mW h K S) H locs → lv_has ls 11 [] → W p l e ({ frames := 4, cells := 0, slots := 0, locals := 99 }) s m args below meth c H locs 0 0 (MQ below (qQv D qCl (mT K) (mW h K) A res) args s 0 0 A) (F0 m 502 ls [.int y2, .int y1, .ref (h 6)]) := by
  intro H locs ls G hl
  unfold fM_operand_502 at hf
  obtain ⟨b1, hf⟩ := chk_s hf
  refine q_iast (wf := (mW h K)) (S' := (pA S 5 y1 y2)) C G 6 5 rfl rfl b1 rfl qm_M_operand_502 (fun H locs G => ?_)
  exact wM_operand_503 C (pA S 5 y1 y2) hf _ _ _ G (lv_sub hl [] rfl)
set_option maxHeartbeats 4000000 in
set_option maxRecDepth 100000 in
theorem wM_operand_476 {l : Launch} {D : va_G} {h : Nat → Nat} {K : Nat → ClassId} {res : qS} {p : Program} {e : Env} {s : State} {m : MethodId} {args : Array Value} {below : List Frame} {meth : Method} {c : Code} {A : Nat → Prop} {ad : Nat → Nat} (C : qC p s m args meth c qm_M_operand_c 11 none qR_M ad) (S : qS) (x1 : Int32) (x4 : Int32) (x9 : Int32) (hf : fM_operand_476 S x1 x4 x9 = some res) : ∀ (H : Heap) (locs : List Loc) (ls : Array Slot), qG D qCl (mT K) A s (mW h K S) H locs → lv_has ls 11 [(0, .ref (h 0)), (1, .int x1), (4, .int x4), (9, .int x9)] → W p l e ({ frames := 4, cells := 0, slots := 0, locals := 99 }) s m args below meth c H locs 0 0 (MQ below (qQv D qCl (mT K) (mW h K) A res) args s 0 0 A) (F0 m 476 ls []) := by
  intro H locs ls G hl
  unfold fM_operand_476 at hf
  refine lv_aload_n C.1 C.2.1 qm_M_operand_476 rfl (lv_at hl 0 rfl) ?_
  refine q_get (wf := (mW h K)) (v := .ref (h 6)) C G qi_M 0 rfl rfl 16 (by decide) qz_847 rfl qm_M_operand_477 ?_
  refine lv_iload_n C.1 C.2.1 qm_M_operand_480 rfl (lv_at hl 1 rfl) ?_
  refine lv_iload C.1 C.2.1 qm_M_operand_481 (lv_at hl 2 rfl) ?_
  refine lv_iconst (v := 4) C.1 C.2.1 qm_M_operand_483 (by decide) ?_
  refine lv_icmp_ne (tgt := 496) C.1 C.2.1 qm_M_operand_484 (by decide) (fun b1 => ?_) (fun b1 => ?_)
  · have hf := if_t b1 hf
    refine lv_aload_n C.1 C.2.1 qm_M_operand_496 rfl (lv_at hl 0 rfl) ?_
    refine lv_iload C.1 C.2.1 qm_M_operand_497 (lv_at hl 3 rfl) ?_
    obtain ⟨q2, c2, hf⟩ := bnd_s hf
    refine q_callVi (wf := (mW h K)) (n := 1) (As := [.int x9]) (q0 := 0) (ci := 7) C G hl.1 (kM_readByte (l := l) c2) qx_M_81 qm_M_readByte_d ⟨by decide, by decide⟩ ⟨Nat.le_refl _, Nat.le_refl _⟩ rfl rfl rfl rfl rfl (Nat.le_of_ble_eq_true rfl) qm_M_operand_499 (fun H locs G => ?_)
    exact wM_operand_502 C q2.2 x1 q2.1 hf _ _ _ G (lv_sub hl [] rfl)
  · have hf := if_f (not_not_intro b1) hf
    refine lv_aload_n C.1 C.2.1 qm_M_operand_487 rfl (lv_at hl 0 rfl) ?_
    refine lv_iload C.1 C.2.1 qm_M_operand_488 (lv_at hl 3 rfl) ?_
    obtain ⟨q3, c3, hf⟩ := bnd_s hf
    refine q_callVi (wf := (mW h K)) (n := 1) (As := [.int x9]) (q0 := 0) (ci := 7) C G hl.1 (kM_readLong (l := l) c3) qx_M_94 qm_M_readLong_d ⟨by decide, by decide⟩ ⟨Nat.le_refl _, Nat.le_refl _⟩ rfl rfl rfl rfl rfl (Nat.le_of_ble_eq_true rfl) qm_M_operand_490 (fun H locs G => ?_)
    refine lv_goto (tgt := 502) C.1 C.2.1 qm_M_operand_493 (by decide) ?_
    exact wM_operand_502 C q3.2 x1 q3.1 hf _ _ _ G (lv_sub hl [] rfl)
set_option maxHeartbeats 4000000 in
set_option maxRecDepth 100000 in
theorem wM_operand_458 {l : Launch} {D : va_G} {h : Nat → Nat} {K : Nat → ClassId} {res : qS} {p : Program} {e : Env} {s : State} {m : MethodId} {args : Array Value} {below : List Frame} {meth : Method} {c : Code} {A : Nat → Prop} {ad : Nat → Nat} (C : qC p s m args meth c qm_M_operand_c 11 none qR_M ad) (S : qS) (x1 : Int32) (x3 : Int32) (x4 : Int32) (x9 : Int32) (hf : fM_operand_458 S x1 x3 x4 x9 = some res) : ∀ (H : Heap) (locs : List Loc) (ls : Array Slot), qG D qCl (mT K) A s (mW h K S) H locs → lv_has ls 11 [(0, .ref (h 0)), (1, .int x1), (3, .int x3), (4, .int x4), (9, .int x9)] → W p l e ({ frames := 4, cells := 0, slots := 0, locals := 99 }) s m args below meth c H locs 0 0 (MQ below (qQv D qCl (mT K) (mW h K) A res) args s 0 0 A) (F0 m 458 ls []) := by
  intro H locs ls G hl
  unfold fM_operand_458 at hf
  refine lv_aload_n C.1 C.2.1 qm_M_operand_458 rfl (lv_at hl 0 rfl) ?_
  refine q_get (wf := (mW h K)) (v := .ref (h 8)) C G qi_M 0 rfl rfl 18 (by decide) qz_849 rfl qm_M_operand_459 ?_
  refine lv_iload_n C.1 C.2.1 qm_M_operand_462 rfl (lv_at hl 1 rfl) ?_
  refine lv_iload C.1 C.2.1 qm_M_operand_463 (lv_at hl 4 rfl) ?_
  obtain ⟨b1, hf⟩ := chk_s hf
  refine q_iast (wf := (mW h K)) (S' := (pA S 7 x1 x9)) C G 8 7 rfl rfl b1 rfl qm_M_operand_465 (fun H locs G => ?_)
  refine lv_iload_n C.1 C.2.1 qm_M_operand_466 rfl (lv_at hl 2 rfl) ?_
  refine lv_iconst (v := 1) C.1 C.2.1 qm_M_operand_467 (by decide) ?_
  refine lv_icmp_eq (tgt := 476) C.1 C.2.1 qm_M_operand_468 (by decide) (fun b2 => ?_) (fun b2 => ?_)
  · have hf := if_t b2 hf
    exact wM_operand_476 C (pA S 7 x1 x9) x1 x4 x9 hf _ _ _ G (lv_sub hl [0, 1, 3, 4] rfl)
  · have hf := if_f b2 hf
    refine lv_iload_n C.1 C.2.1 qm_M_operand_471 rfl (lv_at hl 2 rfl) ?_
    refine lv_iconst (v := 3) C.1 C.2.1 qm_M_operand_472 (by decide) ?_
    refine lv_icmp_ne (tgt := 503) C.1 C.2.1 qm_M_operand_473 (by decide) (fun b3 => ?_) (fun b3 => ?_)
    · have hf := if_t b3 hf
      exact wM_operand_503 C (pA S 7 x1 x9) hf _ _ _ G (lv_sub hl [] rfl)
    · have hf := if_f (not_not_intro b3) hf
      exact wM_operand_476 C (pA S 7 x1 x9) x1 x4 x9 hf _ _ _ G (lv_sub hl [0, 1, 3, 4] rfl)
set_option maxHeartbeats 4000000 in
set_option maxRecDepth 100000 in
theorem wM_operand_439 {l : Launch} {D : va_G} {h : Nat → Nat} {K : Nat → ClassId} {res : qS} {p : Program} {e : Env} {s : State} {m : MethodId} {args : Array Value} {below : List Frame} {meth : Method} {c : Code} {A : Nat → Prop} {ad : Nat → Nat} (C : qC p s m args meth c qm_M_operand_c 11 none qR_M ad) (S : qS) (x1 : Int32) (x3 : Int32) (x4 : Int32) (x6 : Int32) (x9 : Int32) (hf : fM_operand_439 S x1 x3 x4 x6 x9 = some res) : ∀ (H : Heap) (locs : List Loc) (ls : Array Slot), qG D qCl (mT K) A s (mW h K S) H locs → lv_has ls 11 [(0, .ref (h 0)), (1, .int x1), (3, .int x3), (4, .int x4), (6, .int x6), (9, .int x9)] → W p l e ({ frames := 4, cells := 0, slots := 0, locals := 99 }) s m args below meth c H locs 0 0 (MQ below (qQv D qCl (mT K) (mW h K) A res) args s 0 0 A) (F0 m 439 ls []) := by
  intro H locs ls G hl
  unfold fM_operand_439 at hf
  refine lv_iload C.1 C.2.1 qm_M_operand_439 (lv_at hl 4 rfl) ?_
  refine lv_if_lt (tgt := 458) C.1 C.2.1 qm_M_operand_441 (by decide) (fun b1 => ?_) (fun b1 => ?_)
  · have hf := if_t b1 hf
    exact wM_operand_458 C S x1 x3 x4 x9 hf _ _ _ G (lv_sub hl [0, 1, 2, 3, 5] rfl)
  · have hf := if_f b1 hf
    refine lv_iload C.1 C.2.1 qm_M_operand_444 (lv_at hl 5 rfl) ?_
    refine lv_iload C.1 C.2.1 qm_M_operand_446 (lv_at hl 3 rfl) ?_
    refine lv_aload_n C.1 C.2.1 qm_M_operand_448 rfl (lv_at hl 0 rfl) ?_
    refine lv_iload C.1 C.2.1 qm_M_operand_449 (lv_at hl 4 rfl) ?_
    obtain ⟨q2, c2, hf⟩ := bnd_s hf
    refine q_callVi (wf := (mW h K)) (n := 1) (As := [.int x6]) (q0 := 0) (ci := 7) C G hl.1 (kM_get (l := l) c2) qx_M_84 qm_M_get_d ⟨by decide, by decide⟩ ⟨Nat.le_refl _, Nat.le_refl _⟩ rfl rfl rfl rfl rfl (Nat.le_of_ble_eq_true rfl) qm_M_operand_451 (fun H locs G => ?_)
    refine lv_imul C.1 C.2.1 qm_M_operand_454 ?_
    refine lv_iadd C.1 C.2.1 qm_M_operand_455 ?_
    refine lv_istore (lv' := [(9, .int (x9 + (x4 * q2.1))), (0, .ref (h 0)), (1, .int x1), (3, .int x3), (4, .int x4), (6, .int x6)]) C.1 C.2.1 qm_M_operand_456 hl (by decide) rfl (fun ls hl => ?_)
    exact wM_operand_458 C q2.2 x1 x3 x4 (x9 + (x4 * q2.1)) hf _ _ _ G (lv_sub hl [1, 2, 3, 4, 0] rfl)
set_option maxHeartbeats 4000000 in
set_option maxRecDepth 100000 in
theorem wM_operand_431 {l : Launch} {D : va_G} {h : Nat → Nat} {K : Nat → ClassId} {res : qS} {p : Program} {e : Env} {s : State} {m : MethodId} {args : Array Value} {below : List Frame} {meth : Method} {c : Code} {A : Nat → Prop} {ad : Nat → Nat} (C : qC p s m args meth c qm_M_operand_c 11 none qR_M ad) (S : qS) (x1 : Int32) (x3 : Int32) (x4 : Int32) (x6 : Int32) (x9 : Int32) (hf : fM_operand_431 S x1 x3 x4 x6 x9 = some res) : ∀ (H : Heap) (locs : List Loc) (ls : Array Slot), qG D qCl (mT K) A s (mW h K S) H locs → lv_has ls 11 [(0, .ref (h 0)), (1, .int x1), (3, .int x3), (4, .int x4), (6, .int x6), (9, .int x9)] → W p l e ({ frames := 4, cells := 0, slots := 0, locals := 99 }) s m args below meth c H locs 0 0 (MQ below (qQv D qCl (mT K) (mW h K) A res) args s 0 0 A) (F0 m 431 ls []) := by
  intro H locs ls G hl
  unfold fM_operand_431 at hf
  refine lv_aload_n C.1 C.2.1 qm_M_operand_431 rfl (lv_at hl 0 rfl) ?_
  refine lv_iload C.1 C.2.1 qm_M_operand_432 (lv_at hl 5 rfl) ?_
  obtain ⟨q1, c1, hf⟩ := bnd_s hf
  refine q_callVi (wf := (mW h K)) (n := 1) (As := [.int x9]) (q0 := 0) (ci := 7) C G hl.1 (kM_readLong (l := l) c1) qx_M_94 qm_M_readLong_d ⟨by decide, by decide⟩ ⟨Nat.le_refl _, Nat.le_refl _⟩ rfl rfl rfl rfl rfl (Nat.le_of_ble_eq_true rfl) qm_M_operand_434 (fun H locs G => ?_)
  refine lv_istore (lv' := [(9, .int q1.1), (0, .ref (h 0)), (1, .int x1), (3, .int x3), (4, .int x4), (6, .int x6)]) C.1 C.2.1 qm_M_operand_437 hl (by decide) rfl (fun ls hl => ?_)
  exact wM_operand_439 C q1.2 x1 x3 x4 x6 q1.1 hf _ _ _ G (lv_sub hl [1, 2, 3, 4, 5, 0] rfl)
set_option maxHeartbeats 4000000 in
set_option maxRecDepth 100000 in
theorem wM_operand_410 {l : Launch} {D : va_G} {h : Nat → Nat} {K : Nat → ClassId} {res : qS} {p : Program} {e : Env} {s : State} {m : MethodId} {args : Array Value} {below : List Frame} {meth : Method} {c : Code} {A : Nat → Prop} {ad : Nat → Nat} (C : qC p s m args meth c qm_M_operand_c 11 none qR_M ad) (S : qS) (x1 : Int32) (x3 : Int32) (x4 : Int32) (x6 : Int32) (x7 : Int32) (x9 : Int32) (hf : fM_operand_410 S x1 x3 x4 x6 x7 x9 = some res) : ∀ (H : Heap) (locs : List Loc) (ls : Array Slot), qG D qCl (mT K) A s (mW h K S) H locs → lv_has ls 11 [(0, .ref (h 0)), (1, .int x1), (3, .int x3), (4, .int x4), (6, .int x6), (7, .int x7), (9, .int x9)] → W p l e ({ frames := 4, cells := 0, slots := 0, locals := 99 }) s m args below meth c H locs 0 0 (MQ below (qQv D qCl (mT K) (mW h K) A res) args s 0 0 A) (F0 m 410 ls []) := by
  intro H locs ls G hl
  unfold fM_operand_410 at hf
  refine lv_iload C.1 C.2.1 qm_M_operand_410 (lv_at hl 5 rfl) ?_
  refine lv_bipush (v := 9) C.1 C.2.1 qm_M_operand_412 (by decide) ?_
  refine lv_icmp_eq (tgt := 431) C.1 C.2.1 qm_M_operand_414 (by decide) (fun b1 => ?_) (fun b1 => ?_)
  · have hf := if_t b1 hf
    exact wM_operand_431 C S x1 x3 x4 x6 x9 hf _ _ _ G (lv_sub hl [0, 1, 2, 3, 4, 6] rfl)
  · have hf := if_f b1 hf
    refine lv_iload C.1 C.2.1 qm_M_operand_417 (lv_at hl 5 rfl) ?_
    refine lv_bipush (v := 11) C.1 C.2.1 qm_M_operand_419 (by decide) ?_
    refine lv_icmp_eq (tgt := 431) C.1 C.2.1 qm_M_operand_421 (by decide) (fun b2 => ?_) (fun b2 => ?_)
    · have hf := if_t b2 hf
      exact wM_operand_431 C S x1 x3 x4 x6 x9 hf _ _ _ G (lv_sub hl [0, 1, 2, 3, 4, 6] rfl)
    · have hf := if_f b2 hf
      refine lv_iload C.1 C.2.1 qm_M_operand_424 (lv_at hl 5 rfl) ?_
      refine lv_bipush (v := 15) C.1 C.2.1 qm_M_operand_426 (by decide) ?_
      refine lv_icmp_ne (tgt := 439) C.1 C.2.1 qm_M_operand_428 (by decide) (fun b3 => ?_) (fun b3 => ?_)
      · have hf := if_t b3 hf
        exact wM_operand_439 C S x1 x3 x4 x6 x9 hf _ _ _ G (lv_sub hl [0, 1, 2, 3, 4, 6] rfl)
      · have hf := if_f (not_not_intro b3) hf
        exact wM_operand_431 C S x1 x3 x4 x6 x9 hf _ _ _ G (lv_sub hl [0, 1, 2, 3, 4, 6] rfl)
set_option maxHeartbeats 4000000 in
set_option maxRecDepth 100000 in
theorem wM_operand_397 {l : Launch} {D : va_G} {h : Nat → Nat} {K : Nat → ClassId} {res : qS} {p : Program} {e : Env} {s : State} {m : MethodId} {args : Array Value} {below : List Frame} {meth : Method} {c : Code} {A : Nat → Prop} {ad : Nat → Nat} (C : qC p s m args meth c qm_M_operand_c 11 none qR_M ad) (S : qS) (x1 : Int32) (x3 : Int32) (x4 : Int32) (x6 : Int32) (x7 : Int32) (x8 : Int32) (y0 : Int32) (hf : fM_operand_397 S x1 x3 x4 x6 x7 x8 y0 = some res) : ∀ (H : Heap) (locs : List Loc) (ls : Array Slot), qG D qCl (mT K) A s (mW h K S) H locs → lv_has ls 11 [(0, .ref (h 0)), (1, .int x1), (3, .int x3), (4, .int x4), (6, .int x6), (7, .int x7), (8, .int x8)] → W p l e ({ frames := 4, cells := 0, slots := 0, locals := 99 }) s m args below meth c H locs 0 0 (MQ below (qQv D qCl (mT K) (mW h K) A res) args s 0 0 A) (F0 m 397 ls [.int y0]) := by
  intro H locs ls G hl
  unfold fM_operand_397 at hf
  refine lv_istore (lv' := [(10, .int y0), (0, .ref (h 0)), (1, .int x1), (3, .int x3), (4, .int x4), (6, .int x6), (7, .int x7), (8, .int x8)]) C.1 C.2.1 qm_M_operand_397 hl (by decide) rfl (fun ls hl => ?_)
  refine lv_aload_n C.1 C.2.1 qm_M_operand_399 rfl (lv_at hl 1 rfl) ?_
  refine lv_iload C.1 C.2.1 qm_M_operand_400 (lv_at hl 7 rfl) ?_
  obtain ⟨q1, c1, hf⟩ := bnd_s hf
  refine q_callVi (wf := (mW h K)) (n := 1) (As := [.int x8]) (q0 := 0) (ci := 7) C G hl.1 (kM_get (l := l) c1) qx_M_84 qm_M_get_d ⟨by decide, by decide⟩ ⟨Nat.le_refl _, Nat.le_refl _⟩ rfl rfl rfl rfl rfl (Nat.le_of_ble_eq_true rfl) qm_M_operand_402 (fun H locs G => ?_)
  refine lv_iload C.1 C.2.1 qm_M_operand_405 (lv_at hl 0 rfl) ?_
  refine lv_iadd C.1 C.2.1 qm_M_operand_407 ?_
  refine lv_istore (lv' := [(9, .int (q1.1 + y0)), (10, .int y0), (0, .ref (h 0)), (1, .int x1), (3, .int x3), (4, .int x4), (6, .int x6), (7, .int x7), (8, .int x8)]) C.1 C.2.1 qm_M_operand_408 hl (by decide) rfl (fun ls hl => ?_)
  exact wM_operand_410 C q1.2 x1 x3 x4 x6 x7 (q1.1 + y0) hf _ _ _ G (lv_sub hl [2, 3, 4, 5, 6, 7, 0] rfl)
set_option maxHeartbeats 4000000 in
set_option maxRecDepth 100000 in
theorem wM_operand_345 {l : Launch} {D : va_G} {h : Nat → Nat} {K : Nat → ClassId} {res : qS} {p : Program} {e : Env} {s : State} {m : MethodId} {args : Array Value} {below : List Frame} {meth : Method} {c : Code} {A : Nat → Prop} {ad : Nat → Nat} (C : qC p s m args meth c qm_M_operand_c 11 none qR_M ad) (S : qS) (x1 : Int32) (x3 : Int32) (x4 : Int32) (x6 : Int32) (x7 : Int32) (x8 : Int32) (x9 : Int32) (hf : fM_operand_345 S x1 x3 x4 x6 x7 x8 x9 = some res) : ∀ (H : Heap) (locs : List Loc) (ls : Array Slot), qG D qCl (mT K) A s (mW h K S) H locs → lv_has ls 11 [(0, .ref (h 0)), (1, .int x1), (3, .int x3), (4, .int x4), (6, .int x6), (7, .int x7), (8, .int x8), (9, .int x9)] → W p l e ({ frames := 4, cells := 0, slots := 0, locals := 99 }) s m args below meth c H locs 0 0 (MQ below (qQv D qCl (mT K) (mW h K) A res) args s 0 0 A) (F0 m 345 ls []) := by
  intro H locs ls G hl
  unfold fM_operand_345 at hf
  refine lv_iload C.1 C.2.1 qm_M_operand_345 (lv_at hl 5 rfl) ?_
  refine lv_bipush (v := 9) C.1 C.2.1 qm_M_operand_347 (by decide) ?_
  refine lv_icmp_le (tgt := 410) C.1 C.2.1 qm_M_operand_349 (by decide) (fun b1 => ?_) (fun b1 => ?_)
  · have hf := if_t b1 hf
    exact wM_operand_410 C S x1 x3 x4 x6 x7 x9 hf _ _ _ G (lv_sub hl [0, 1, 2, 3, 4, 5, 7] rfl)
  · have hf := if_f b1 hf
    refine lv_iload C.1 C.2.1 qm_M_operand_352 (lv_at hl 5 rfl) ?_
    refine lv_bipush (v := 12) C.1 C.2.1 qm_M_operand_354 (by decide) ?_
    refine lv_icmp_ge (tgt := 369) C.1 C.2.1 qm_M_operand_356 (by decide) (fun b2 => ?_) (fun b2 => ?_)
    · have hf := if_t b2 hf
      refine lv_aload_n C.1 C.2.1 qm_M_operand_369 rfl (lv_at hl 0 rfl) ?_
      obtain ⟨q3, c3, hf⟩ := bnd_s hf
      refine q_callVi (wf := (mW h K)) (n := 0) (As := []) (q0 := 0) (ci := 7) C G hl.1 (kM_next (l := l) c3) qx_M_100 qm_M_next_d ⟨by decide, by decide⟩ ⟨Nat.le_refl _, Nat.le_refl _⟩ rfl rfl rfl rfl rfl (Nat.le_of_ble_eq_true rfl) qm_M_operand_370 (fun H locs G => ?_)
      refine lv_aload_n C.1 C.2.1 qm_M_operand_373 rfl (lv_at hl 0 rfl) ?_
      obtain ⟨q4, c4, hf⟩ := bnd_s hf
      refine q_callVi (wf := (mW h K)) (n := 0) (As := []) (q0 := 0) (ci := 7) C G hl.1 (kM_next (l := l) c4) qx_M_100 qm_M_next_d ⟨by decide, by decide⟩ ⟨Nat.le_refl _, Nat.le_refl _⟩ rfl rfl rfl rfl rfl (Nat.le_of_ble_eq_true rfl) qm_M_operand_374 (fun H locs G => ?_)
      refine lv_bipush (v := 8) C.1 C.2.1 qm_M_operand_377 (by decide) ?_
      refine lv_ishl C.1 C.2.1 qm_M_operand_379 ?_
      refine lv_ior C.1 C.2.1 qm_M_operand_380 ?_
      refine lv_aload_n C.1 C.2.1 qm_M_operand_381 rfl (lv_at hl 0 rfl) ?_
      obtain ⟨q5, c5, hf⟩ := bnd_s hf
      refine q_callVi (wf := (mW h K)) (n := 0) (As := []) (q0 := 0) (ci := 7) C G hl.1 (kM_next (l := l) c5) qx_M_100 qm_M_next_d ⟨by decide, by decide⟩ ⟨Nat.le_refl _, Nat.le_refl _⟩ rfl rfl rfl rfl rfl (Nat.le_of_ble_eq_true rfl) qm_M_operand_382 (fun H locs G => ?_)
      refine lv_bipush (v := 16) C.1 C.2.1 qm_M_operand_385 (by decide) ?_
      refine lv_ishl C.1 C.2.1 qm_M_operand_387 ?_
      refine lv_ior C.1 C.2.1 qm_M_operand_388 ?_
      refine lv_aload_n C.1 C.2.1 qm_M_operand_389 rfl (lv_at hl 0 rfl) ?_
      obtain ⟨q6, c6, hf⟩ := bnd_s hf
      refine q_callVi (wf := (mW h K)) (n := 0) (As := []) (q0 := 0) (ci := 7) C G hl.1 (kM_next (l := l) c6) qx_M_100 qm_M_next_d ⟨by decide, by decide⟩ ⟨Nat.le_refl _, Nat.le_refl _⟩ rfl rfl rfl rfl rfl (Nat.le_of_ble_eq_true rfl) qm_M_operand_390 (fun H locs G => ?_)
      refine lv_bipush (v := 24) C.1 C.2.1 qm_M_operand_393 (by decide) ?_
      refine lv_ishl C.1 C.2.1 qm_M_operand_395 ?_
      refine lv_ior C.1 C.2.1 qm_M_operand_396 ?_
      exact wM_operand_397 C q6.2 x1 x3 x4 x6 x7 x8 (((q3.1 ||| (q4.1 <<< ((8 : Int32) &&& 31))) ||| (q5.1 <<< ((16 : Int32) &&& 31))) ||| (q6.1 <<< ((24 : Int32) &&& 31))) hf _ _ _ G (lv_sub hl [0, 1, 2, 3, 4, 5, 6] rfl)
    · have hf := if_f b2 hf
      refine lv_aload_n C.1 C.2.1 qm_M_operand_359 rfl (lv_at hl 0 rfl) ?_
      obtain ⟨q7, c7, hf⟩ := bnd_s hf
      refine q_callVi (wf := (mW h K)) (n := 0) (As := []) (q0 := 0) (ci := 7) C G hl.1 (kM_next (l := l) c7) qx_M_100 qm_M_next_d ⟨by decide, by decide⟩ ⟨Nat.le_refl _, Nat.le_refl _⟩ rfl rfl rfl rfl rfl (Nat.le_of_ble_eq_true rfl) qm_M_operand_360 (fun H locs G => ?_)
      obtain ⟨q8, c8, hf⟩ := bnd_s hf
      refine q_callSi (wf := (mW h K)) (n := 1) (As := [.int q7.1]) C G hl.1 (kM_signed (l := l) c8) qx_M_103 qm_M_signed_d ⟨by decide, by decide⟩ ⟨Nat.le_refl _, Nat.le_refl _⟩ rfl rfl (Nat.le_of_ble_eq_true rfl) qm_M_operand_363 (fun H locs G => ?_)
      refine lv_goto (tgt := 397) C.1 C.2.1 qm_M_operand_366 (by decide) ?_
      exact wM_operand_397 C q8.2 x1 x3 x4 x6 x7 x8 q8.1 hf _ _ _ G (lv_sub hl [0, 1, 2, 3, 4, 5, 6] rfl)
set_option maxHeartbeats 4000000 in
set_option maxRecDepth 100000 in
theorem wM_operand_328 {l : Launch} {D : va_G} {h : Nat → Nat} {K : Nat → ClassId} {res : qS} {p : Program} {e : Env} {s : State} {m : MethodId} {args : Array Value} {below : List Frame} {meth : Method} {c : Code} {A : Nat → Prop} {ad : Nat → Nat} (C : qC p s m args meth c qm_M_operand_c 11 none qR_M ad) (S : qS) (x1 : Int32) (x3 : Int32) (x4 : Int32) (x6 : Int32) (x7 : Int32) (x8 : Int32) (x9 : Int32) (hf : fM_operand_328 S x1 x3 x4 x6 x7 x8 x9 = some res) : ∀ (H : Heap) (locs : List Loc) (ls : Array Slot), qG D qCl (mT K) A s (mW h K S) H locs → lv_has ls 11 [(0, .ref (h 0)), (1, .int x1), (3, .int x3), (4, .int x4), (6, .int x6), (7, .int x7), (8, .int x8), (9, .int x9)] → W p l e ({ frames := 4, cells := 0, slots := 0, locals := 99 }) s m args below meth c H locs 0 0 (MQ below (qQv D qCl (mT K) (mW h K) A res) args s 0 0 A) (F0 m 328 ls []) := by
  intro H locs ls G hl
  unfold fM_operand_328 at hf
  refine lv_iload C.1 C.2.1 qm_M_operand_328 (lv_at hl 5 rfl) ?_
  refine lv_bipush (v := 9) C.1 C.2.1 qm_M_operand_330 (by decide) ?_
  refine lv_icmp_ne (tgt := 345) C.1 C.2.1 qm_M_operand_332 (by decide) (fun b1 => ?_) (fun b1 => ?_)
  · have hf := if_t b1 hf
    exact wM_operand_345 C S x1 x3 x4 x6 x7 x8 x9 hf _ _ _ G (lv_sub hl [0, 1, 2, 3, 4, 5, 6, 7] rfl)
  · have hf := if_f (not_not_intro b1) hf
    refine lv_aload_n C.1 C.2.1 qm_M_operand_335 rfl (lv_at hl 0 rfl) ?_
    refine lv_iload C.1 C.2.1 qm_M_operand_336 (lv_at hl 6 rfl) ?_
    refine lv_iload C.1 C.2.1 qm_M_operand_338 (lv_at hl 7 rfl) ?_
    refine lv_iconst (v := 4) C.1 C.2.1 qm_M_operand_340 (by decide) ?_
    refine lv_iadd C.1 C.2.1 qm_M_operand_341 ?_
    obtain ⟨S2, c2, hf⟩ := bnd_s hf
    refine q_callVv (wf := (mW h K)) (n := 2) (As := [.int x8, .int (x9 + 4)]) (q0 := 0) (ci := 7) C G hl.1 (kM_put (l := l) c2) qx_M_90 qm_M_put_d ⟨by decide, by decide⟩ ⟨Nat.le_refl _, Nat.le_refl _⟩ rfl rfl rfl rfl rfl (Nat.le_of_ble_eq_true rfl) qm_M_operand_342 (fun H locs G => ?_)
    exact wM_operand_345 C S2 x1 x3 x4 x6 x7 x8 x9 hf _ _ _ G (lv_sub hl [0, 1, 2, 3, 4, 5, 6, 7] rfl)
set_option maxHeartbeats 4000000 in
set_option maxRecDepth 100000 in
theorem wM_operand_325 {l : Launch} {D : va_G} {h : Nat → Nat} {K : Nat → ClassId} {res : qS} {p : Program} {e : Env} {s : State} {m : MethodId} {args : Array Value} {below : List Frame} {meth : Method} {c : Code} {A : Nat → Prop} {ad : Nat → Nat} (C : qC p s m args meth c qm_M_operand_c 11 none qR_M ad) (S : qS) (x1 : Int32) (x3 : Int32) (x4 : Int32) (x6 : Int32) (x7 : Int32) (x8 : Int32) (x9 : Int32) (y1 : Int32) (y2 : Int32) (hf : fM_operand_325 S x1 x3 x4 x6 x7 x8 x9 y1 y2 = some res) : ∀ (H : Heap) (locs : List Loc) (ls : Array Slot), qG D qCl (mT K) A s (mW h K S) H locs → lv_has ls 11 [(0, .ref (h 0)), (1, .int x1), (3, .int x3), (4, .int x4), (6, .int x6), (7, .int x7), (8, .int x8), (9, .int x9)] → W p l e ({ frames := 4, cells := 0, slots := 0, locals := 99 }) s m args below meth c H locs 0 0 (MQ below (qQv D qCl (mT K) (mW h K) A res) args s 0 0 A) (F0 m 325 ls [.int y2, .int y1, .ref (h 0)]) := by
  intro H locs ls G hl
  unfold fM_operand_325 at hf
  obtain ⟨S1, c1, hf⟩ := bnd_s hf
  refine q_callVv (wf := (mW h K)) (n := 2) (As := [.int y1, .int y2]) (q0 := 0) (ci := 7) C G hl.1 (kM_put (l := l) c1) qx_M_90 qm_M_put_d ⟨by decide, by decide⟩ ⟨Nat.le_refl _, Nat.le_refl _⟩ rfl rfl rfl rfl rfl (Nat.le_of_ble_eq_true rfl) qm_M_operand_325 (fun H locs G => ?_)
  exact wM_operand_328 C S1 x1 x3 x4 x6 x7 x8 x9 hf _ _ _ G (lv_sub hl [0, 1, 2, 3, 4, 5, 6, 7] rfl)
set_option maxHeartbeats 4000000 in
set_option maxRecDepth 100000 in
theorem wM_operand_305 {l : Launch} {D : va_G} {h : Nat → Nat} {K : Nat → ClassId} {res : qS} {p : Program} {e : Env} {s : State} {m : MethodId} {args : Array Value} {below : List Frame} {meth : Method} {c : Code} {A : Nat → Prop} {ad : Nat → Nat} (C : qC p s m args meth c qm_M_operand_c 11 none qR_M ad) (S : qS) (x1 : Int32) (x3 : Int32) (x4 : Int32) (x6 : Int32) (x7 : Int32) (x8 : Int32) (x9 : Int32) (hf : fM_operand_305 S x1 x3 x4 x6 x7 x8 x9 = some res) : ∀ (H : Heap) (locs : List Loc) (ls : Array Slot), qG D qCl (mT K) A s (mW h K S) H locs → lv_has ls 11 [(0, .ref (h 0)), (1, .int x1), (3, .int x3), (4, .int x4), (6, .int x6), (7, .int x7), (8, .int x8), (9, .int x9)] → W p l e ({ frames := 4, cells := 0, slots := 0, locals := 99 }) s m args below meth c H locs 0 0 (MQ below (qQv D qCl (mT K) (mW h K) A res) args s 0 0 A) (F0 m 305 ls []) := by
  intro H locs ls G hl
  unfold fM_operand_305 at hf
  refine lv_aload_n C.1 C.2.1 qm_M_operand_305 rfl (lv_at hl 0 rfl) ?_
  refine lv_iload C.1 C.2.1 qm_M_operand_306 (lv_at hl 6 rfl) ?_
  refine lv_iload C.1 C.2.1 qm_M_operand_308 (lv_at hl 5 rfl) ?_
  refine lv_bipush (v := 7) C.1 C.2.1 qm_M_operand_310 (by decide) ?_
  refine lv_icmp_ne (tgt := 320) C.1 C.2.1 qm_M_operand_312 (by decide) (fun b1 => ?_) (fun b1 => ?_)
  · have hf := if_t b1 hf
    refine lv_iload C.1 C.2.1 qm_M_operand_320 (lv_at hl 7 rfl) ?_
    refine lv_iload C.1 C.2.1 qm_M_operand_322 (lv_at hl 3 rfl) ?_
    refine lv_iadd C.1 C.2.1 qm_M_operand_324 ?_
    exact wM_operand_325 C S x1 x3 x4 x6 x7 x8 x9 x8 (x9 + x4) hf _ _ _ G (lv_sub hl [0, 1, 2, 3, 4, 5, 6, 7] rfl)
  · have hf := if_f (not_not_intro b1) hf
    refine lv_iload C.1 C.2.1 qm_M_operand_315 (lv_at hl 7 rfl) ?_
    refine lv_goto (tgt := 325) C.1 C.2.1 qm_M_operand_317 (by decide) ?_
    exact wM_operand_325 C S x1 x3 x4 x6 x7 x8 x9 x8 x9 hf _ _ _ G (lv_sub hl [0, 1, 2, 3, 4, 5, 6, 7] rfl)
set_option maxHeartbeats 4000000 in
set_option maxRecDepth 100000 in
theorem wM_operand_291 {l : Launch} {D : va_G} {h : Nat → Nat} {K : Nat → ClassId} {res : qS} {p : Program} {e : Env} {s : State} {m : MethodId} {args : Array Value} {below : List Frame} {meth : Method} {c : Code} {A : Nat → Prop} {ad : Nat → Nat} (C : qC p s m args meth c qm_M_operand_c 11 none qR_M ad) (S : qS) (x1 : Int32) (x3 : Int32) (x4 : Int32) (x6 : Int32) (x7 : Int32) (x8 : Int32) (x9 : Int32) (hf : fM_operand_291 S x1 x3 x4 x6 x7 x8 x9 = some res) : ∀ (H : Heap) (locs : List Loc) (ls : Array Slot), qG D qCl (mT K) A s (mW h K S) H locs → lv_has ls 11 [(0, .ref (h 0)), (1, .int x1), (3, .int x3), (4, .int x4), (6, .int x6), (7, .int x7), (8, .int x8), (9, .int x9)] → W p l e ({ frames := 4, cells := 0, slots := 0, locals := 99 }) s m args below meth c H locs 0 0 (MQ below (qQv D qCl (mT K) (mW h K) A res) args s 0 0 A) (F0 m 291 ls []) := by
  intro H locs ls G hl
  unfold fM_operand_291 at hf
  refine lv_iload C.1 C.2.1 qm_M_operand_291 (lv_at hl 5 rfl) ?_
  refine lv_bipush (v := 7) C.1 C.2.1 qm_M_operand_293 (by decide) ?_
  refine lv_icmp_eq (tgt := 305) C.1 C.2.1 qm_M_operand_295 (by decide) (fun b1 => ?_) (fun b1 => ?_)
  · have hf := if_t b1 hf
    exact wM_operand_305 C S x1 x3 x4 x6 x7 x8 x9 hf _ _ _ G (lv_sub hl [0, 1, 2, 3, 4, 5, 6, 7] rfl)
  · have hf := if_f b1 hf
    refine lv_iload C.1 C.2.1 qm_M_operand_298 (lv_at hl 5 rfl) ?_
    refine lv_bipush (v := 8) C.1 C.2.1 qm_M_operand_300 (by decide) ?_
    refine lv_icmp_ne (tgt := 328) C.1 C.2.1 qm_M_operand_302 (by decide) (fun b2 => ?_) (fun b2 => ?_)
    · have hf := if_t b2 hf
      exact wM_operand_328 C S x1 x3 x4 x6 x7 x8 x9 hf _ _ _ G (lv_sub hl [0, 1, 2, 3, 4, 5, 6, 7] rfl)
    · have hf := if_f (not_not_intro b2) hf
      exact wM_operand_305 C S x1 x3 x4 x6 x7 x8 x9 hf _ _ _ G (lv_sub hl [0, 1, 2, 3, 4, 5, 6, 7] rfl)
set_option maxHeartbeats 4000000 in
set_option maxRecDepth 100000 in
theorem wM_operand_275 {l : Launch} {D : va_G} {h : Nat → Nat} {K : Nat → ClassId} {res : qS} {p : Program} {e : Env} {s : State} {m : MethodId} {args : Array Value} {below : List Frame} {meth : Method} {c : Code} {A : Nat → Prop} {ad : Nat → Nat} (C : qC p s m args meth c qm_M_operand_c 11 none qR_M ad) (S : qS) (x1 : Int32) (x3 : Int32) (x4 : Int32) (x6 : Int32) (x7 : Int32) (x8 : Int32) (y0 : Int32) (hf : fM_operand_275 S x1 x3 x4 x6 x7 x8 y0 = some res) : ∀ (H : Heap) (locs : List Loc) (ls : Array Slot), qG D qCl (mT K) A s (mW h K S) H locs → lv_has ls 11 [(0, .ref (h 0)), (1, .int x1), (3, .int x3), (4, .int x4), (6, .int x6), (7, .int x7), (8, .int x8)] → W p l e ({ frames := 4, cells := 0, slots := 0, locals := 99 }) s m args below meth c H locs 0 0 (MQ below (qQv D qCl (mT K) (mW h K) A res) args s 0 0 A) (F0 m 275 ls [.int y0]) := by
  intro H locs ls G hl
  unfold fM_operand_275 at hf
  refine lv_istore (lv' := [(9, .int y0), (0, .ref (h 0)), (1, .int x1), (3, .int x3), (4, .int x4), (6, .int x6), (7, .int x7), (8, .int x8)]) C.1 C.2.1 qm_M_operand_275 hl (by decide) rfl (fun ls hl => ?_)
  refine lv_iload C.1 C.2.1 qm_M_operand_277 (lv_at hl 6 rfl) ?_
  refine lv_bipush (v := 7) C.1 C.2.1 qm_M_operand_279 (by decide) ?_
  refine lv_icmp_ne (tgt := 291) C.1 C.2.1 qm_M_operand_281 (by decide) (fun b1 => ?_) (fun b1 => ?_)
  · have hf := if_t b1 hf
    exact wM_operand_291 C S x1 x3 x4 x6 x7 x8 y0 hf _ _ _ G (lv_sub hl [1, 2, 3, 4, 5, 6, 7, 0] rfl)
  · have hf := if_f (not_not_intro b1) hf
    refine lv_iload C.1 C.2.1 qm_M_operand_284 (lv_at hl 0 rfl) ?_
    refine lv_iload C.1 C.2.1 qm_M_operand_286 (lv_at hl 4 rfl) ?_
    refine lv_isub C.1 C.2.1 qm_M_operand_288 ?_
    refine lv_istore (lv' := [(9, .int (y0 - x4)), (0, .ref (h 0)), (1, .int x1), (3, .int x3), (4, .int x4), (6, .int x6), (7, .int x7), (8, .int x8)]) C.1 C.2.1 qm_M_operand_289 hl (by decide) rfl (fun ls hl => ?_)
    exact wM_operand_291 C S x1 x3 x4 x6 x7 x8 (y0 - x4) hf _ _ _ G (lv_sub hl [1, 2, 3, 4, 5, 6, 7, 0] rfl)
set_option maxHeartbeats 4000000 in
set_option maxRecDepth 100000 in
theorem wM_operand_249 {l : Launch} {D : va_G} {h : Nat → Nat} {K : Nat → ClassId} {res : qS} {p : Program} {e : Env} {s : State} {m : MethodId} {args : Array Value} {below : List Frame} {meth : Method} {c : Code} {A : Nat → Prop} {ad : Nat → Nat} (C : qC p s m args meth c qm_M_operand_c 11 none qR_M ad) (S : qS) (x1 : Int32) (x3 : Int32) (x4 : Int32) (x6 : Int32) (x7 : Int32) (x8 : Int32) (y1 : Int32) (y2 : Int32) (hf : fM_operand_249 S x1 x3 x4 x6 x7 x8 y1 y2 = some res) : ∀ (H : Heap) (locs : List Loc) (ls : Array Slot), qG D qCl (mT K) A s (mW h K S) H locs → lv_has ls 11 [(0, .ref (h 0)), (1, .int x1), (3, .int x3), (4, .int x4), (6, .int x6), (7, .int x7), (8, .int x8)] → W p l e ({ frames := 4, cells := 0, slots := 0, locals := 99 }) s m args below meth c H locs 0 0 (MQ below (qQv D qCl (mT K) (mW h K) A res) args s 0 0 A) (F0 m 249 ls [.int y2, .int y1, .ref (h 6)]) := by
  intro H locs ls G hl
  unfold fM_operand_249 at hf
  obtain ⟨b1, hf⟩ := chk_s hf
  refine q_iast (wf := (mW h K)) (S' := (pA S 5 y1 y2)) C G 6 5 rfl rfl b1 rfl qm_M_operand_249 (fun H locs G => ?_)
  refine lv_iload C.1 C.2.1 qm_M_operand_250 (lv_at hl 5 rfl) ?_
  refine lv_bipush (v := 6) C.1 C.2.1 qm_M_operand_252 (by decide) ?_
  refine lv_icmp_ge (tgt := 258) C.1 C.2.1 qm_M_operand_254 (by decide) (fun b2 => ?_) (fun b2 => ?_)
  · have hf := if_t b2 hf
    refine lv_iload C.1 C.2.1 qm_M_operand_258 (lv_at hl 5 rfl) ?_
    refine lv_bipush (v := 10) C.1 C.2.1 qm_M_operand_260 (by decide) ?_
    refine lv_icmp_ge (tgt := 274) C.1 C.2.1 qm_M_operand_262 (by decide) (fun b3 => ?_) (fun b3 => ?_)
    · have hf := if_t b3 hf
      refine lv_iconst (v := 0) C.1 C.2.1 qm_M_operand_274 (by decide) ?_
      exact wM_operand_275 C (pA S 5 y1 y2) x1 x3 x4 x6 x7 x8 0 hf _ _ _ G (lv_sub hl [0, 1, 2, 3, 4, 5, 6] rfl)
    · have hf := if_f b3 hf
      refine lv_aload_n C.1 C.2.1 qm_M_operand_265 rfl (lv_at hl 0 rfl) ?_
      refine lv_iload C.1 C.2.1 qm_M_operand_266 (lv_at hl 6 rfl) ?_
      obtain ⟨q4, c4, hf⟩ := bnd_s hf
      refine q_callVi (wf := (mW h K)) (n := 1) (As := [.int x8]) (q0 := 0) (ci := 7) C G hl.1 (kM_get (l := l) c4) qx_M_84 qm_M_get_d ⟨by decide, by decide⟩ ⟨Nat.le_refl _, Nat.le_refl _⟩ rfl rfl rfl rfl rfl (Nat.le_of_ble_eq_true rfl) qm_M_operand_268 (fun H locs G => ?_)
      refine lv_goto (tgt := 275) C.1 C.2.1 qm_M_operand_271 (by decide) ?_
      exact wM_operand_275 C q4.2 x1 x3 x4 x6 x7 x8 q4.1 hf _ _ _ G (lv_sub hl [0, 1, 2, 3, 4, 5, 6] rfl)
  · have hf := if_f b2 hf
    exact q_vret (wf := (mW h K)) C G hf qm_M_operand_257
set_option maxHeartbeats 4000000 in
set_option maxRecDepth 100000 in
theorem wM_operand_207 {l : Launch} {D : va_G} {h : Nat → Nat} {K : Nat → ClassId} {res : qS} {p : Program} {e : Env} {s : State} {m : MethodId} {args : Array Value} {below : List Frame} {meth : Method} {c : Code} {A : Nat → Prop} {ad : Nat → Nat} (C : qC p s m args meth c qm_M_operand_c 11 none qR_M ad) (S : qS) (x1 : Int32) (x3 : Int32) (x4 : Int32) (x5 : Int32) (x6 : Int32) (x7 : Int32) (x8 : Int32) (y1 : Int32) (y2 : Int32) (hf : fM_operand_207 S x1 x3 x4 x5 x6 x7 x8 y1 y2 = some res) : ∀ (H : Heap) (locs : List Loc) (ls : Array Slot), qG D qCl (mT K) A s (mW h K S) H locs → lv_has ls 11 [(0, .ref (h 0)), (1, .int x1), (3, .int x3), (4, .int x4), (5, .int x5), (6, .int x6), (7, .int x7), (8, .int x8)] → W p l e ({ frames := 4, cells := 0, slots := 0, locals := 99 }) s m args below meth c H locs 0 0 (MQ below (qQv D qCl (mT K) (mW h K) A res) args s 0 0 A) (F0 m 207 ls [.int y2, .int y1, .ref (h 7)]) := by
  intro H locs ls G hl
  unfold fM_operand_207 at hf
  obtain ⟨b1, hf⟩ := chk_s hf
  refine q_iast (wf := (mW h K)) (S' := (pA S 6 y1 y2)) C G 7 6 rfl rfl b1 rfl qm_M_operand_207 (fun H locs G => ?_)
  refine lv_aload_n C.1 C.2.1 qm_M_operand_208 rfl (lv_at hl 0 rfl) ?_
  refine q_get (wf := (mW h K)) (v := .ref (h 6)) C G qi_M 0 rfl rfl 16 (by decide) qz_847 rfl qm_M_operand_209 ?_
  refine lv_iload_n C.1 C.2.1 qm_M_operand_212 rfl (lv_at hl 1 rfl) ?_
  refine lv_iload C.1 C.2.1 qm_M_operand_213 (lv_at hl 6 rfl) ?_
  refine lv_iconst (v := 4) C.1 C.2.1 qm_M_operand_215 (by decide) ?_
  refine lv_icmp_ge (tgt := 224) C.1 C.2.1 qm_M_operand_216 (by decide) (fun b2 => ?_) (fun b2 => ?_)
  · have hf := if_t b2 hf
    refine lv_iload C.1 C.2.1 qm_M_operand_224 (lv_at hl 3 rfl) ?_
    refine lv_iconst (v := 4) C.1 C.2.1 qm_M_operand_226 (by decide) ?_
    refine lv_icmp_ne (tgt := 239) C.1 C.2.1 qm_M_operand_227 (by decide) (fun b3 => ?_) (fun b3 => ?_)
    · have hf := if_t b3 hf
      refine lv_aload_n C.1 C.2.1 qm_M_operand_239 rfl (lv_at hl 0 rfl) ?_
      refine lv_iload C.1 C.2.1 qm_M_operand_240 (lv_at hl 7 rfl) ?_
      obtain ⟨q4, c4, hf⟩ := bnd_s hf
      refine q_callVi (wf := (mW h K)) (n := 1) (As := [.int x8]) (q0 := 0) (ci := 7) C G hl.1 (kM_get (l := l) c4) qx_M_84 qm_M_get_d ⟨by decide, by decide⟩ ⟨Nat.le_refl _, Nat.le_refl _⟩ rfl rfl rfl rfl rfl (Nat.le_of_ble_eq_true rfl) qm_M_operand_242 (fun H locs G => ?_)
      refine lv_sipush (v := 255) C.1 C.2.1 qm_M_operand_245 (by decide) ?_
      refine lv_iand C.1 C.2.1 qm_M_operand_248 ?_
      exact wM_operand_249 C q4.2 x1 x3 x4 x6 x7 x8 x1 (q4.1 &&& 255) hf _ _ _ G (lv_sub hl [0, 1, 2, 3, 5, 6, 7] rfl)
    · have hf := if_f (not_not_intro b3) hf
      refine lv_aload_n C.1 C.2.1 qm_M_operand_230 rfl (lv_at hl 0 rfl) ?_
      refine lv_iload C.1 C.2.1 qm_M_operand_231 (lv_at hl 7 rfl) ?_
      obtain ⟨q5, c5, hf⟩ := bnd_s hf
      refine q_callVi (wf := (mW h K)) (n := 1) (As := [.int x8]) (q0 := 0) (ci := 7) C G hl.1 (kM_get (l := l) c5) qx_M_84 qm_M_get_d ⟨by decide, by decide⟩ ⟨Nat.le_refl _, Nat.le_refl _⟩ rfl rfl rfl rfl rfl (Nat.le_of_ble_eq_true rfl) qm_M_operand_233 (fun H locs G => ?_)
      refine lv_goto (tgt := 249) C.1 C.2.1 qm_M_operand_236 (by decide) ?_
      exact wM_operand_249 C q5.2 x1 x3 x4 x6 x7 x8 x1 q5.1 hf _ _ _ G (lv_sub hl [0, 1, 2, 3, 5, 6, 7] rfl)
  · have hf := if_f b2 hf
    refine lv_iload C.1 C.2.1 qm_M_operand_219 (lv_at hl 4 rfl) ?_
    refine lv_goto (tgt := 249) C.1 C.2.1 qm_M_operand_221 (by decide) ?_
    exact wM_operand_249 C (pA S 6 y1 y2) x1 x3 x4 x6 x7 x8 x1 x5 hf _ _ _ G (lv_sub hl [0, 1, 2, 3, 5, 6, 7] rfl)
set_option maxHeartbeats 4000000 in
set_option maxRecDepth 100000 in
theorem wM_operand_179 {l : Launch} {D : va_G} {h : Nat → Nat} {K : Nat → ClassId} {res : qS} {p : Program} {e : Env} {s : State} {m : MethodId} {args : Array Value} {below : List Frame} {meth : Method} {c : Code} {A : Nat → Prop} {ad : Nat → Nat} (C : qC p s m args meth c qm_M_operand_c 11 none qR_M ad) (S : qS) (x1 : Int32) (x3 : Int32) (x4 : Int32) (x5 : Int32) (x6 : Int32) (x7 : Int32) (x8 : Int32) (hf : fM_operand_179 S x1 x3 x4 x5 x6 x7 x8 = some res) : ∀ (H : Heap) (locs : List Loc) (ls : Array Slot), qG D qCl (mT K) A s (mW h K S) H locs → lv_has ls 11 [(0, .ref (h 0)), (1, .int x1), (3, .int x3), (4, .int x4), (5, .int x5), (6, .int x6), (7, .int x7), (8, .int x8)] → W p l e ({ frames := 4, cells := 0, slots := 0, locals := 99 }) s m args below meth c H locs 0 0 (MQ below (qQv D qCl (mT K) (mW h K) A res) args s 0 0 A) (F0 m 179 ls []) := by
  intro H locs ls G hl
  unfold fM_operand_179 at hf
  refine lv_aload_n C.1 C.2.1 qm_M_operand_179 rfl (lv_at hl 0 rfl) ?_
  refine q_get (wf := (mW h K)) (v := .ref (h 7)) C G qi_M 0 rfl rfl 17 (by decide) qz_848 rfl qm_M_operand_180 ?_
  refine lv_iload_n C.1 C.2.1 qm_M_operand_183 rfl (lv_at hl 1 rfl) ?_
  refine lv_iload C.1 C.2.1 qm_M_operand_184 (lv_at hl 6 rfl) ?_
  refine lv_iconst (v := 4) C.1 C.2.1 qm_M_operand_186 (by decide) ?_
  refine lv_icmp_ge (tgt := 194) C.1 C.2.1 qm_M_operand_187 (by decide) (fun b1 => ?_) (fun b1 => ?_)
  · have hf := if_t b1 hf
    refine lv_iload C.1 C.2.1 qm_M_operand_194 (lv_at hl 6 rfl) ?_
    refine lv_iconst (v := 5) C.1 C.2.1 qm_M_operand_196 (by decide) ?_
    refine lv_icmp_ne (tgt := 205) C.1 C.2.1 qm_M_operand_197 (by decide) (fun b2 => ?_) (fun b2 => ?_)
    · have hf := if_t b2 hf
      refine lv_bipush (v := 16) C.1 C.2.1 qm_M_operand_205 (by decide) ?_
      exact wM_operand_207 C S x1 x3 x4 x5 x6 x7 x8 x1 16 hf _ _ _ G (lv_sub hl [0, 1, 2, 3, 4, 5, 6, 7] rfl)
    · have hf := if_f (not_not_intro b2) hf
      refine lv_iload C.1 C.2.1 qm_M_operand_200 (lv_at hl 7 rfl) ?_
      refine lv_goto (tgt := 207) C.1 C.2.1 qm_M_operand_202 (by decide) ?_
      exact wM_operand_207 C S x1 x3 x4 x5 x6 x7 x8 x1 x8 hf _ _ _ G (lv_sub hl [0, 1, 2, 3, 4, 5, 6, 7] rfl)
  · have hf := if_f b1 hf
    refine lv_iconst (v := (-1)) C.1 C.2.1 qm_M_operand_190 (by decide) ?_
    refine lv_goto (tgt := 207) C.1 C.2.1 qm_M_operand_191 (by decide) ?_
    exact wM_operand_207 C S x1 x3 x4 x5 x6 x7 x8 x1 (-1) hf _ _ _ G (lv_sub hl [0, 1, 2, 3, 4, 5, 6, 7] rfl)
set_option maxHeartbeats 4000000 in
set_option maxRecDepth 100000 in
theorem wM_operand_172 {l : Launch} {D : va_G} {h : Nat → Nat} {K : Nat → ClassId} {res : qS} {p : Program} {e : Env} {s : State} {m : MethodId} {args : Array Value} {below : List Frame} {meth : Method} {c : Code} {A : Nat → Prop} {ad : Nat → Nat} (C : qC p s m args meth c qm_M_operand_c 11 none qR_M ad) (S : qS) (x1 : Int32) (x3 : Int32) (x4 : Int32) (x5 : Int32) (x6 : Int32) (x7 : Int32) (x8 : Int32) (hf : fM_operand_172 S x1 x3 x4 x5 x6 x7 x8 = some res) : ∀ (H : Heap) (locs : List Loc) (ls : Array Slot), qG D qCl (mT K) A s (mW h K S) H locs → lv_has ls 11 [(0, .ref (h 0)), (1, .int x1), (3, .int x3), (4, .int x4), (5, .int x5), (6, .int x6), (7, .int x7), (8, .int x8)] → W p l e ({ frames := 4, cells := 0, slots := 0, locals := 99 }) s m args below meth c H locs 0 0 (MQ below (qQv D qCl (mT K) (mW h K) A res) args s 0 0 A) (F0 m 172 ls []) := by
  intro H locs ls G hl
  unfold fM_operand_172 at hf
  refine lv_aload_n C.1 C.2.1 qm_M_operand_172 rfl (lv_at hl 0 rfl) ?_
  refine lv_iconst (v := 3) C.1 C.2.1 qm_M_operand_173 (by decide) ?_
  refine lv_iconst (v := 0) C.1 C.2.1 qm_M_operand_174 (by decide) ?_
  refine lv_iconst (v := 0) C.1 C.2.1 qm_M_operand_175 (by decide) ?_
  obtain ⟨S1, c1, hf⟩ := bnd_s hf
  refine q_callVv (wf := (mW h K)) (n := 3) (As := [.int 3, .int 0, .int 0]) (q0 := 0) (ci := 7) C G hl.1 (kM_wrong (l := l) c1) qx_M_77 qm_M_wrong_d ⟨by decide, by decide⟩ ⟨Nat.le_refl _, Nat.le_refl _⟩ rfl rfl rfl rfl rfl (Nat.le_of_ble_eq_true rfl) qm_M_operand_176 (fun H locs G => ?_)
  exact wM_operand_179 C S1 x1 x3 x4 x5 x6 x7 x8 hf _ _ _ G (lv_sub hl [0, 1, 2, 3, 4, 5, 6, 7] rfl)
set_option maxHeartbeats 4000000 in
set_option maxRecDepth 100000 in
theorem wM_operand_154 {l : Launch} {D : va_G} {h : Nat → Nat} {K : Nat → ClassId} {res : qS} {p : Program} {e : Env} {s : State} {m : MethodId} {args : Array Value} {below : List Frame} {meth : Method} {c : Code} {A : Nat → Prop} {ad : Nat → Nat} (C : qC p s m args meth c qm_M_operand_c 11 none qR_M ad) (S : qS) (x1 : Int32) (x3 : Int32) (x4 : Int32) (x5 : Int32) (x6 : Int32) (x7 : Int32) (x8 : Int32) (hf : fM_operand_154 S x1 x3 x4 x5 x6 x7 x8 = some res) : ∀ (H : Heap) (locs : List Loc) (ls : Array Slot), qG D qCl (mT K) A s (mW h K S) H locs → lv_has ls 11 [(0, .ref (h 0)), (1, .int x1), (3, .int x3), (4, .int x4), (5, .int x5), (6, .int x6), (7, .int x7), (8, .int x8)] → W p l e ({ frames := 4, cells := 0, slots := 0, locals := 99 }) s m args below meth c H locs 0 0 (MQ below (qQv D qCl (mT K) (mW h K) A res) args s 0 0 A) (F0 m 154 ls []) := by
  intro H locs ls G hl
  unfold fM_operand_154 at hf
  refine lv_iload C.1 C.2.1 qm_M_operand_154 (lv_at hl 4 rfl) ?_
  refine lv_sipush (v := 143) C.1 C.2.1 qm_M_operand_156 (by decide) ?_
  refine lv_icmp_ne (tgt := 179) C.1 C.2.1 qm_M_operand_159 (by decide) (fun b1 => ?_) (fun b1 => ?_)
  · have hf := if_t b1 hf
    exact wM_operand_179 C S x1 x3 x4 x5 x6 x7 x8 hf _ _ _ G (lv_sub hl [0, 1, 2, 3, 4, 5, 6, 7] rfl)
  · have hf := if_f (not_not_intro b1) hf
    refine lv_iload_n C.1 C.2.1 qm_M_operand_162 rfl (lv_at hl 2 rfl) ?_
    refine lv_iconst (v := 2) C.1 C.2.1 qm_M_operand_163 (by decide) ?_
    refine lv_icmp_eq (tgt := 172) C.1 C.2.1 qm_M_operand_164 (by decide) (fun b2 => ?_) (fun b2 => ?_)
    · have hf := if_t b2 hf
      exact wM_operand_172 C S x1 x3 x4 x5 x6 x7 x8 hf _ _ _ G (lv_sub hl [0, 1, 2, 3, 4, 5, 6, 7] rfl)
    · have hf := if_f b2 hf
      refine lv_iload_n C.1 C.2.1 qm_M_operand_167 rfl (lv_at hl 2 rfl) ?_
      refine lv_iconst (v := 3) C.1 C.2.1 qm_M_operand_168 (by decide) ?_
      refine lv_icmp_ne (tgt := 179) C.1 C.2.1 qm_M_operand_169 (by decide) (fun b3 => ?_) (fun b3 => ?_)
      · have hf := if_t b3 hf
        exact wM_operand_179 C S x1 x3 x4 x5 x6 x7 x8 hf _ _ _ G (lv_sub hl [0, 1, 2, 3, 4, 5, 6, 7] rfl)
      · have hf := if_f (not_not_intro b3) hf
        exact wM_operand_172 C S x1 x3 x4 x5 x6 x7 x8 hf _ _ _ G (lv_sub hl [0, 1, 2, 3, 4, 5, 6, 7] rfl)
set_option maxHeartbeats 4000000 in
set_option maxRecDepth 100000 in
theorem wM_operand_143 {l : Launch} {D : va_G} {h : Nat → Nat} {K : Nat → ClassId} {res : qS} {p : Program} {e : Env} {s : State} {m : MethodId} {args : Array Value} {below : List Frame} {meth : Method} {c : Code} {A : Nat → Prop} {ad : Nat → Nat} (C : qC p s m args meth c qm_M_operand_c 11 none qR_M ad) (S : qS) (x1 : Int32) (x3 : Int32) (x4 : Int32) (x5 : Int32) (x6 : Int32) (x7 : Int32) (x8 : Int32) (hf : fM_operand_143 S x1 x3 x4 x5 x6 x7 x8 = some res) : ∀ (H : Heap) (locs : List Loc) (ls : Array Slot), qG D qCl (mT K) A s (mW h K S) H locs → lv_has ls 11 [(0, .ref (h 0)), (1, .int x1), (3, .int x3), (4, .int x4), (5, .int x5), (6, .int x6), (7, .int x7), (8, .int x8)] → W p l e ({ frames := 4, cells := 0, slots := 0, locals := 99 }) s m args below meth c H locs 0 0 (MQ below (qQv D qCl (mT K) (mW h K) A res) args s 0 0 A) (F0 m 143 ls []) := by
  intro H locs ls G hl
  unfold fM_operand_143 at hf
  refine lv_iload C.1 C.2.1 qm_M_operand_143 (lv_at hl 6 rfl) ?_
  refine lv_iconst (v := 5) C.1 C.2.1 qm_M_operand_145 (by decide) ?_
  refine lv_icmp_ne (tgt := 154) C.1 C.2.1 qm_M_operand_146 (by decide) (fun b1 => ?_) (fun b1 => ?_)
  · have hf := if_t b1 hf
    exact wM_operand_154 C S x1 x3 x4 x5 x6 x7 x8 hf _ _ _ G (lv_sub hl [0, 1, 2, 3, 4, 5, 6, 7] rfl)
  · have hf := if_f (not_not_intro b1) hf
    refine lv_iload_n C.1 C.2.1 qm_M_operand_149 rfl (lv_at hl 2 rfl) ?_
    refine lv_iconst (v := 4) C.1 C.2.1 qm_M_operand_150 (by decide) ?_
    refine lv_icmp_eq (tgt := 172) C.1 C.2.1 qm_M_operand_151 (by decide) (fun b2 => ?_) (fun b2 => ?_)
    · have hf := if_t b2 hf
      exact wM_operand_172 C S x1 x3 x4 x5 x6 x7 x8 hf _ _ _ G (lv_sub hl [0, 1, 2, 3, 4, 5, 6, 7] rfl)
    · have hf := if_f b2 hf
      exact wM_operand_154 C S x1 x3 x4 x5 x6 x7 x8 hf _ _ _ G (lv_sub hl [0, 1, 2, 3, 4, 5, 6, 7] rfl)
set_option maxHeartbeats 4000000 in
set_option maxRecDepth 100000 in
theorem wM_operand_132 {l : Launch} {D : va_G} {h : Nat → Nat} {K : Nat → ClassId} {res : qS} {p : Program} {e : Env} {s : State} {m : MethodId} {args : Array Value} {below : List Frame} {meth : Method} {c : Code} {A : Nat → Prop} {ad : Nat → Nat} (C : qC p s m args meth c qm_M_operand_c 11 none qR_M ad) (S : qS) (x1 : Int32) (x3 : Int32) (x4 : Int32) (x5 : Int32) (x6 : Int32) (x7 : Int32) (x8 : Int32) (hf : fM_operand_132 S x1 x3 x4 x5 x6 x7 x8 = some res) : ∀ (H : Heap) (locs : List Loc) (ls : Array Slot), qG D qCl (mT K) A s (mW h K S) H locs → lv_has ls 11 [(0, .ref (h 0)), (1, .int x1), (3, .int x3), (4, .int x4), (5, .int x5), (6, .int x6), (7, .int x7), (8, .int x8)] → W p l e ({ frames := 4, cells := 0, slots := 0, locals := 99 }) s m args below meth c H locs 0 0 (MQ below (qQv D qCl (mT K) (mW h K) A res) args s 0 0 A) (F0 m 132 ls []) := by
  intro H locs ls G hl
  unfold fM_operand_132 at hf
  refine lv_iload C.1 C.2.1 qm_M_operand_132 (lv_at hl 6 rfl) ?_
  refine lv_iconst (v := 4) C.1 C.2.1 qm_M_operand_134 (by decide) ?_
  refine lv_icmp_ge (tgt := 143) C.1 C.2.1 qm_M_operand_135 (by decide) (fun b1 => ?_) (fun b1 => ?_)
  · have hf := if_t b1 hf
    exact wM_operand_143 C S x1 x3 x4 x5 x6 x7 x8 hf _ _ _ G (lv_sub hl [0, 1, 2, 3, 4, 5, 6, 7] rfl)
  · have hf := if_f b1 hf
    refine lv_iload_n C.1 C.2.1 qm_M_operand_138 rfl (lv_at hl 2 rfl) ?_
    refine lv_iconst (v := 1) C.1 C.2.1 qm_M_operand_139 (by decide) ?_
    refine lv_icmp_ne (tgt := 172) C.1 C.2.1 qm_M_operand_140 (by decide) (fun b2 => ?_) (fun b2 => ?_)
    · have hf := if_t b2 hf
      exact wM_operand_172 C S x1 x3 x4 x5 x6 x7 x8 hf _ _ _ G (lv_sub hl [0, 1, 2, 3, 4, 5, 6, 7] rfl)
    · have hf := if_f (not_not_intro b2) hf
      exact wM_operand_143 C S x1 x3 x4 x5 x6 x7 x8 hf _ _ _ G (lv_sub hl [0, 1, 2, 3, 4, 5, 6, 7] rfl)
set_option maxHeartbeats 4000000 in
set_option maxRecDepth 100000 in
theorem wM_operand_85 {l : Launch} {D : va_G} {h : Nat → Nat} {K : Nat → ClassId} {res : qS} {p : Program} {e : Env} {s : State} {m : MethodId} {args : Array Value} {below : List Frame} {meth : Method} {c : Code} {A : Nat → Prop} {ad : Nat → Nat} (C : qC p s m args meth c qm_M_operand_c 11 none qR_M ad) (S : qS) (x1 : Int32) (x3 : Int32) (x4 : Int32) (x5 : Int32) (x6 : Int32) (hf : fM_operand_85 S x1 x3 x4 x5 x6 = some res) : ∀ (H : Heap) (locs : List Loc) (ls : Array Slot), qG D qCl (mT K) A s (mW h K S) H locs → lv_has ls 11 [(0, .ref (h 0)), (1, .int x1), (3, .int x3), (4, .int x4), (5, .int x5), (6, .int x6)] → W p l e ({ frames := 4, cells := 0, slots := 0, locals := 99 }) s m args below meth c H locs 0 0 (MQ below (qQv D qCl (mT K) (mW h K) A res) args s 0 0 A) (F0 m 85 ls []) := by
  intro H locs ls G hl
  unfold fM_operand_85 at hf
  refine lv_iload C.1 C.2.1 qm_M_operand_85 (lv_at hl 4 rfl) ?_
  refine lv_iconst (v := 4) C.1 C.2.1 qm_M_operand_87 (by decide) ?_
  refine lv_ishr C.1 C.2.1 qm_M_operand_88 ?_
  refine lv_istore (lv' := [(7, .int (x5 >>> ((4 : Int32) &&& 31))), (0, .ref (h 0)), (1, .int x1), (3, .int x3), (4, .int x4), (5, .int x5), (6, .int x6)]) C.1 C.2.1 qm_M_operand_89 hl (by decide) rfl (fun ls hl => ?_)
  refine lv_iload C.1 C.2.1 qm_M_operand_91 (lv_at hl 5 rfl) ?_
  refine lv_bipush (v := 15) C.1 C.2.1 qm_M_operand_93 (by decide) ?_
  refine lv_iand C.1 C.2.1 qm_M_operand_95 ?_
  refine lv_istore (lv' := [(8, .int (x5 &&& 15)), (7, .int (x5 >>> ((4 : Int32) &&& 31))), (0, .ref (h 0)), (1, .int x1), (3, .int x3), (4, .int x4), (5, .int x5), (6, .int x6)]) C.1 C.2.1 qm_M_operand_96 hl (by decide) rfl (fun ls hl => ?_)
  refine lv_iload C.1 C.2.1 qm_M_operand_98 (lv_at hl 1 rfl) ?_
  refine lv_bipush (v := 12) C.1 C.2.1 qm_M_operand_100 (by decide) ?_
  refine lv_icmp_eq (tgt := 172) C.1 C.2.1 qm_M_operand_102 (by decide) (fun b1 => ?_) (fun b1 => ?_)
  · have hf := if_t b1 hf
    exact wM_operand_172 C S x1 x3 x4 x5 x6 (x5 >>> ((4 : Int32) &&& 31)) (x5 &&& 15) hf _ _ _ G (lv_sub hl [2, 3, 4, 5, 6, 7, 1, 0] rfl)
  · have hf := if_f b1 hf
    refine lv_iload C.1 C.2.1 qm_M_operand_105 (lv_at hl 1 rfl) ?_
    refine lv_bipush (v := 13) C.1 C.2.1 qm_M_operand_107 (by decide) ?_
    refine lv_icmp_eq (tgt := 172) C.1 C.2.1 qm_M_operand_109 (by decide) (fun b2 => ?_) (fun b2 => ?_)
    · have hf := if_t b2 hf
      exact wM_operand_172 C S x1 x3 x4 x5 x6 (x5 >>> ((4 : Int32) &&& 31)) (x5 &&& 15) hf _ _ _ G (lv_sub hl [2, 3, 4, 5, 6, 7, 1, 0] rfl)
    · have hf := if_f b2 hf
      refine lv_iload C.1 C.2.1 qm_M_operand_112 (lv_at hl 1 rfl) ?_
      refine lv_iconst (v := 4) C.1 C.2.1 qm_M_operand_114 (by decide) ?_
      refine lv_icmp_le (tgt := 132) C.1 C.2.1 qm_M_operand_115 (by decide) (fun b3 => ?_) (fun b3 => ?_)
      · have hf := if_t b3 hf
        exact wM_operand_132 C S x1 x3 x4 x5 x6 (x5 >>> ((4 : Int32) &&& 31)) (x5 &&& 15) hf _ _ _ G (lv_sub hl [2, 3, 4, 5, 6, 7, 1, 0] rfl)
      · have hf := if_f b3 hf
        refine lv_iload C.1 C.2.1 qm_M_operand_118 (lv_at hl 1 rfl) ?_
        refine lv_bipush (v := 8) C.1 C.2.1 qm_M_operand_120 (by decide) ?_
        refine lv_icmp_ge (tgt := 132) C.1 C.2.1 qm_M_operand_122 (by decide) (fun b4 => ?_) (fun b4 => ?_)
        · have hf := if_t b4 hf
          exact wM_operand_132 C S x1 x3 x4 x5 x6 (x5 >>> ((4 : Int32) &&& 31)) (x5 &&& 15) hf _ _ _ G (lv_sub hl [2, 3, 4, 5, 6, 7, 1, 0] rfl)
        · have hf := if_f b4 hf
          refine lv_iload C.1 C.2.1 qm_M_operand_125 (lv_at hl 0 rfl) ?_
          refine lv_bipush (v := 15) C.1 C.2.1 qm_M_operand_127 (by decide) ?_
          refine lv_icmp_eq (tgt := 172) C.1 C.2.1 qm_M_operand_129 (by decide) (fun b5 => ?_) (fun b5 => ?_)
          · have hf := if_t b5 hf
            exact wM_operand_172 C S x1 x3 x4 x5 x6 (x5 >>> ((4 : Int32) &&& 31)) (x5 &&& 15) hf _ _ _ G (lv_sub hl [2, 3, 4, 5, 6, 7, 1, 0] rfl)
          · have hf := if_f b5 hf
            exact wM_operand_132 C S x1 x3 x4 x5 x6 (x5 >>> ((4 : Int32) &&& 31)) (x5 &&& 15) hf _ _ _ G (lv_sub hl [2, 3, 4, 5, 6, 7, 1, 0] rfl)
set_option maxHeartbeats 4000000 in
set_option maxRecDepth 100000 in
theorem wM_operand_78 {l : Launch} {D : va_G} {h : Nat → Nat} {K : Nat → ClassId} {res : qS} {p : Program} {e : Env} {s : State} {m : MethodId} {args : Array Value} {below : List Frame} {meth : Method} {c : Code} {A : Nat → Prop} {ad : Nat → Nat} (C : qC p s m args meth c qm_M_operand_c 11 none qR_M ad) (S : qS) (x1 : Int32) (x3 : Int32) (x4 : Int32) (x5 : Int32) (x6 : Int32) (hf : fM_operand_78 S x1 x3 x4 x5 x6 = some res) : ∀ (H : Heap) (locs : List Loc) (ls : Array Slot), qG D qCl (mT K) A s (mW h K S) H locs → lv_has ls 11 [(0, .ref (h 0)), (1, .int x1), (3, .int x3), (4, .int x4), (5, .int x5), (6, .int x6)] → W p l e ({ frames := 4, cells := 0, slots := 0, locals := 99 }) s m args below meth c H locs 0 0 (MQ below (qQv D qCl (mT K) (mW h K) A res) args s 0 0 A) (F0 m 78 ls []) := by
  intro H locs ls G hl
  unfold fM_operand_78 at hf
  refine lv_aload_n C.1 C.2.1 qm_M_operand_78 rfl (lv_at hl 0 rfl) ?_
  refine lv_iconst (v := 3) C.1 C.2.1 qm_M_operand_79 (by decide) ?_
  refine lv_iconst (v := 0) C.1 C.2.1 qm_M_operand_80 (by decide) ?_
  refine lv_iconst (v := 0) C.1 C.2.1 qm_M_operand_81 (by decide) ?_
  obtain ⟨S1, c1, hf⟩ := bnd_s hf
  refine q_callVv (wf := (mW h K)) (n := 3) (As := [.int 3, .int 0, .int 0]) (q0 := 0) (ci := 7) C G hl.1 (kM_wrong (l := l) c1) qx_M_77 qm_M_wrong_d ⟨by decide, by decide⟩ ⟨Nat.le_refl _, Nat.le_refl _⟩ rfl rfl rfl rfl rfl (Nat.le_of_ble_eq_true rfl) qm_M_operand_82 (fun H locs G => ?_)
  exact wM_operand_85 C S1 x1 x3 x4 x5 x6 hf _ _ _ G (lv_sub hl [0, 1, 2, 3, 4, 5] rfl)
set_option maxHeartbeats 4000000 in
set_option maxRecDepth 100000 in
theorem wM_operand_57 {l : Launch} {D : va_G} {h : Nat → Nat} {K : Nat → ClassId} {res : qS} {p : Program} {e : Env} {s : State} {m : MethodId} {args : Array Value} {below : List Frame} {meth : Method} {c : Code} {A : Nat → Prop} {ad : Nat → Nat} (C : qC p s m args meth c qm_M_operand_c 11 none qR_M ad) (S : qS) (x1 : Int32) (x3 : Int32) (x4 : Int32) (x6 : Int32) (hf : fM_operand_57 S x1 x3 x4 x6 = some res) : ∀ (H : Heap) (locs : List Loc) (ls : Array Slot), qG D qCl (mT K) A s (mW h K S) H locs → lv_has ls 11 [(0, .ref (h 0)), (1, .int x1), (3, .int x3), (4, .int x4), (6, .int x6)] → W p l e ({ frames := 4, cells := 0, slots := 0, locals := 99 }) s m args below meth c H locs 0 0 (MQ below (qQv D qCl (mT K) (mW h K) A res) args s 0 0 A) (F0 m 57 ls []) := by
  intro H locs ls G hl
  unfold fM_operand_57 at hf
  refine lv_aload_n C.1 C.2.1 qm_M_operand_57 rfl (lv_at hl 0 rfl) ?_
  obtain ⟨q1, c1, hf⟩ := bnd_s hf
  refine q_callVi (wf := (mW h K)) (n := 0) (As := []) (q0 := 0) (ci := 7) C G hl.1 (kM_next (l := l) c1) qx_M_100 qm_M_next_d ⟨by decide, by decide⟩ ⟨Nat.le_refl _, Nat.le_refl _⟩ rfl rfl rfl rfl rfl (Nat.le_of_ble_eq_true rfl) qm_M_operand_58 (fun H locs G => ?_)
  refine lv_istore (lv' := [(5, .int q1.1), (0, .ref (h 0)), (1, .int x1), (3, .int x3), (4, .int x4), (6, .int x6)]) C.1 C.2.1 qm_M_operand_61 hl (by decide) rfl (fun ls hl => ?_)
  refine lv_iload C.1 C.2.1 qm_M_operand_63 (lv_at hl 0 rfl) ?_
  refine lv_bipush (v := 96) C.1 C.2.1 qm_M_operand_65 (by decide) ?_
  refine lv_icmp_lt (tgt := 78) C.1 C.2.1 qm_M_operand_67 (by decide) (fun b2 => ?_) (fun b2 => ?_)
  · have hf := if_t b2 hf
    exact wM_operand_78 C q1.2 x1 x3 x4 q1.1 x6 hf _ _ _ G (lv_sub hl [1, 2, 3, 4, 0, 5] rfl)
  · have hf := if_f b2 hf
    refine lv_iload C.1 C.2.1 qm_M_operand_70 (lv_at hl 0 rfl) ?_
    refine lv_sipush (v := 143) C.1 C.2.1 qm_M_operand_72 (by decide) ?_
    refine lv_icmp_ne (tgt := 85) C.1 C.2.1 qm_M_operand_75 (by decide) (fun b3 => ?_) (fun b3 => ?_)
    · have hf := if_t b3 hf
      exact wM_operand_85 C q1.2 x1 x3 x4 q1.1 x6 hf _ _ _ G (lv_sub hl [1, 2, 3, 4, 0, 5] rfl)
    · have hf := if_f (not_not_intro b3) hf
      exact wM_operand_78 C q1.2 x1 x3 x4 q1.1 x6 hf _ _ _ G (lv_sub hl [1, 2, 3, 4, 0, 5] rfl)
set_option maxHeartbeats 4000000 in
set_option maxRecDepth 100000 in
theorem wM_operand_17 {l : Launch} {D : va_G} {h : Nat → Nat} {K : Nat → ClassId} {res : qS} {p : Program} {e : Env} {s : State} {m : MethodId} {args : Array Value} {below : List Frame} {meth : Method} {c : Code} {A : Nat → Prop} {ad : Nat → Nat} (C : qC p s m args meth c qm_M_operand_c 11 none qR_M ad) (S : qS) (x1 : Int32) (x3 : Int32) (y0 : Int32) (hf : fM_operand_17 S x1 x3 y0 = some res) : ∀ (H : Heap) (locs : List Loc) (ls : Array Slot), qG D qCl (mT K) A s (mW h K S) H locs → lv_has ls 11 [(0, .ref (h 0)), (1, .int x1), (3, .int x3)] → W p l e ({ frames := 4, cells := 0, slots := 0, locals := 99 }) s m args below meth c H locs 0 0 (MQ below (qQv D qCl (mT K) (mW h K) A res) args s 0 0 A) (F0 m 17 ls [.int y0]) := by
  intro H locs ls G hl
  unfold fM_operand_17 at hf
  refine lv_istore (lv' := [(4, .int y0), (0, .ref (h 0)), (1, .int x1), (3, .int x3)]) C.1 C.2.1 qm_M_operand_17 hl (by decide) rfl (fun ls hl => ?_)
  refine lv_aload_n C.1 C.2.1 qm_M_operand_19 rfl (lv_at hl 1 rfl) ?_
  obtain ⟨q1, c1, hf⟩ := bnd_s hf
  refine q_callVi (wf := (mW h K)) (n := 0) (As := []) (q0 := 0) (ci := 7) C G hl.1 (kM_next (l := l) c1) qx_M_100 qm_M_next_d ⟨by decide, by decide⟩ ⟨Nat.le_refl _, Nat.le_refl _⟩ rfl rfl rfl rfl rfl (Nat.le_of_ble_eq_true rfl) qm_M_operand_20 (fun H locs G => ?_)
  refine lv_istore (lv' := [(5, .int q1.1), (4, .int y0), (0, .ref (h 0)), (1, .int x1), (3, .int x3)]) C.1 C.2.1 qm_M_operand_23 hl (by decide) rfl (fun ls hl => ?_)
  refine lv_iconst (v := (-1)) C.1 C.2.1 qm_M_operand_25 (by decide) ?_
  refine lv_istore (lv' := [(6, .int (-1)), (5, .int q1.1), (4, .int y0), (0, .ref (h 0)), (1, .int x1), (3, .int x3)]) C.1 C.2.1 qm_M_operand_26 hl (by decide) rfl (fun ls hl => ?_)
  refine lv_iload C.1 C.2.1 qm_M_operand_28 (lv_at hl 1 rfl) ?_
  refine lv_iconst (v := 4) C.1 C.2.1 qm_M_operand_30 (by decide) ?_
  refine lv_ishr C.1 C.2.1 qm_M_operand_31 ?_
  refine lv_iconst (v := 4) C.1 C.2.1 qm_M_operand_32 (by decide) ?_
  refine lv_icmp_ne (tgt := 85) C.1 C.2.1 qm_M_operand_33 (by decide) (fun b2 => ?_) (fun b2 => ?_)
  · have hf := if_t b2 hf
    exact wM_operand_85 C q1.2 x1 x3 y0 q1.1 (-1) hf _ _ _ G (lv_sub hl [3, 4, 5, 2, 1, 0] rfl)
  · have hf := if_f (not_not_intro b2) hf
    refine lv_iload C.1 C.2.1 qm_M_operand_36 (lv_at hl 1 rfl) ?_
    refine lv_bipush (v := 15) C.1 C.2.1 qm_M_operand_38 (by decide) ?_
    refine lv_iand C.1 C.2.1 qm_M_operand_40 ?_
    refine lv_istore (lv' := [(6, .int (q1.1 &&& 15)), (5, .int q1.1), (4, .int y0), (0, .ref (h 0)), (1, .int x1), (3, .int x3)]) C.1 C.2.1 qm_M_operand_41 hl (by decide) rfl (fun ls hl => ?_)
    refine lv_iload C.1 C.2.1 qm_M_operand_43 (lv_at hl 0 rfl) ?_
    refine lv_bipush (v := 15) C.1 C.2.1 qm_M_operand_45 (by decide) ?_
    refine lv_icmp_ne (tgt := 57) C.1 C.2.1 qm_M_operand_47 (by decide) (fun b3 => ?_) (fun b3 => ?_)
    · have hf := if_t b3 hf
      exact wM_operand_57 C q1.2 x1 x3 y0 (q1.1 &&& 15) hf _ _ _ G (lv_sub hl [3, 4, 5, 2, 0] rfl)
    · have hf := if_f (not_not_intro b3) hf
      refine lv_aload_n C.1 C.2.1 qm_M_operand_50 rfl (lv_at hl 3 rfl) ?_
      refine lv_iconst (v := 3) C.1 C.2.1 qm_M_operand_51 (by decide) ?_
      refine lv_iconst (v := 0) C.1 C.2.1 qm_M_operand_52 (by decide) ?_
      refine lv_iconst (v := 0) C.1 C.2.1 qm_M_operand_53 (by decide) ?_
      obtain ⟨S4, c4, hf⟩ := bnd_s hf
      refine q_callVv (wf := (mW h K)) (n := 3) (As := [.int 3, .int 0, .int 0]) (q0 := 0) (ci := 7) C G hl.1 (kM_wrong (l := l) c4) qx_M_77 qm_M_wrong_d ⟨by decide, by decide⟩ ⟨Nat.le_refl _, Nat.le_refl _⟩ rfl rfl rfl rfl rfl (Nat.le_of_ble_eq_true rfl) qm_M_operand_54 (fun H locs G => ?_)
      exact wM_operand_57 C S4 x1 x3 y0 (q1.1 &&& 15) hf _ _ _ G (lv_sub hl [3, 4, 5, 2, 0] rfl)
set_option maxHeartbeats 4000000 in
set_option maxRecDepth 100000 in
theorem wM_operand {l : Launch} {D : va_G} {h : Nat → Nat} {K : Nat → ClassId} {res : qS} {p : Program} {e : Env} {s : State} {m : MethodId} {args : Array Value} {below : List Frame} {meth : Method} {c : Code} {A : Nat → Prop} {ad : Nat → Nat} (C : qC p s m args meth c qm_M_operand_c 11 none qR_M ad) (S : qS) (a1 : Int32) (a2 : Int32) (hf : fM_operand S a1 a2 = some res) : ∀ (H : Heap) (locs : List Loc) (ls : Array Slot), qG D qCl (mT K) A s (mW h K S) H locs → lv_has ls 11 [(0, .ref (h 0)), (1, .int a1), (2, .int a2)] → W p l e ({ frames := 4, cells := 0, slots := 0, locals := 99 }) s m args below meth c H locs 0 0 (MQ below (qQv D qCl (mT K) (mW h K) A res) args s 0 0 A) (F0 m 0 ls []) := by
  intro H locs ls G hl
  unfold fM_operand at hf
  refine lv_iload_n C.1 C.2.1 qm_M_operand_0 rfl (lv_at hl 2 rfl) ?_
  refine lv_bipush (v := 7) C.1 C.2.1 qm_M_operand_1 (by decide) ?_
  refine lv_iand C.1 C.2.1 qm_M_operand_3 ?_
  refine lv_istore_n (lv' := [(3, .int (a2 &&& 7)), (0, .ref (h 0)), (1, .int a1), (2, .int a2)]) C.1 C.2.1 qm_M_operand_4 rfl hl (by decide) rfl (fun ls hl => ?_)
  refine lv_iload_n C.1 C.2.1 qm_M_operand_5 rfl (lv_at hl 3 rfl) ?_
  refine lv_bipush (v := 8) C.1 C.2.1 qm_M_operand_6 (by decide) ?_
  refine lv_iand C.1 C.2.1 qm_M_operand_8 ?_
  refine lv_if_eq (tgt := 16) C.1 C.2.1 qm_M_operand_9 (by decide) (fun b1 => ?_) (fun b1 => ?_)
  · have hf := if_t b1 hf
    refine lv_iconst (v := 1) C.1 C.2.1 qm_M_operand_16 (by decide) ?_
    exact wM_operand_17 C S a1 (a2 &&& 7) 1 hf _ _ _ G (lv_sub hl [1, 2, 0] rfl)
  · have hf := if_f b1 hf
    refine lv_iconst (v := 4) C.1 C.2.1 qm_M_operand_12 (by decide) ?_
    refine lv_goto (tgt := 17) C.1 C.2.1 qm_M_operand_13 (by decide) ?_
    exact wM_operand_17 C S a1 (a2 &&& 7) 4 hf _ _ _ G (lv_sub hl [1, 2, 0] rfl)
theorem kM_operand {l : Launch} {ad : Nat → Nat} {D : va_G} {h : Nat → Nat} {K : Nat → ClassId} {res : qS} {S : qS} {a1 : Int32} {a2 : Int32} (hf : fM_operand S a1 a2 = some res) : qMv l qm_M_operand qm_M_operand_c 11 4 99 D qCl (mT K) ad (mW h K) [.ref (h 0), .int a1, .int a2] S res := qMv_of (by decide) (Nat.le_of_ble_eq_true rfl) (fun _ _ _ _ _ _ _ _ _ _ C G hl => wM_operand C S a1 a2 hf _ _ _ G hl)
set_option maxHeartbeats 4000000 in
set_option maxRecDepth 100000 in
theorem wM_pop {l : Launch} {D : va_G} {h : Nat → Nat} {K : Nat → ClassId} {res : Int32 × qS} {p : Program} {e : Env} {s : State} {m : MethodId} {args : Array Value} {below : List Frame} {meth : Method} {c : Code} {A : Nat → Prop} {ad : Nat → Nat} (C : qC p s m args meth c qm_M_pop_c 2 (some .int) qR_M ad) (S : qS) (hf : fM_pop S = some res) : ∀ (H : Heap) (locs : List Loc) (ls : Array Slot), qG D qCl (mT K) A s (mW h K S) H locs → lv_has ls 2 [(0, .ref (h 0))] → W p l e ({ frames := 4, cells := 0, slots := 0, locals := 99 }) s m args below meth c H locs 0 0 (MQ below (qQi D qCl (mT K) (mW h K) A res) args s 0 0 A) (F0 m 0 ls []) := by
  intro H locs ls G hl
  unfold fM_pop at hf
  refine lv_aload_n C.1 C.2.1 qm_M_pop_0 rfl (lv_at hl 0 rfl) ?_
  refine lv_aload_n C.1 C.2.1 qm_M_pop_1 rfl (lv_at hl 0 rfl) ?_
  refine lv_bipush (v := 14) C.1 C.2.1 qm_M_pop_2 (by decide) ?_
  obtain ⟨q1, c1, hf⟩ := bnd_s hf
  refine q_callVi (wf := (mW h K)) (n := 1) (As := [.int 14]) (q0 := 0) (ci := 7) C G hl.1 (kM_get (l := l) c1) qx_M_84 qm_M_get_d ⟨by decide, by decide⟩ ⟨Nat.le_refl _, Nat.le_refl _⟩ rfl rfl rfl rfl rfl (Nat.le_of_ble_eq_true rfl) qm_M_pop_4 (fun H locs G => ?_)
  obtain ⟨q2, c2, hf⟩ := bnd_s hf
  refine q_callVi (wf := (mW h K)) (n := 1) (As := [.int q1.1]) (q0 := 0) (ci := 7) C G hl.1 (kM_readLong (l := l) c2) qx_M_94 qm_M_readLong_d ⟨by decide, by decide⟩ ⟨Nat.le_refl _, Nat.le_refl _⟩ rfl rfl rfl rfl rfl (Nat.le_of_ble_eq_true rfl) qm_M_pop_7 (fun H locs G => ?_)
  refine lv_istore_n (lv' := [(1, .int q2.1), (0, .ref (h 0))]) C.1 C.2.1 qm_M_pop_10 rfl hl (by decide) rfl (fun ls hl => ?_)
  refine lv_aload_n C.1 C.2.1 qm_M_pop_11 rfl (lv_at hl 1 rfl) ?_
  refine lv_bipush (v := 14) C.1 C.2.1 qm_M_pop_12 (by decide) ?_
  refine lv_aload_n C.1 C.2.1 qm_M_pop_14 rfl (lv_at hl 1 rfl) ?_
  refine lv_bipush (v := 14) C.1 C.2.1 qm_M_pop_15 (by decide) ?_
  obtain ⟨q3, c3, hf⟩ := bnd_s hf
  refine q_callVi (wf := (mW h K)) (n := 1) (As := [.int 14]) (q0 := 0) (ci := 7) C G hl.1 (kM_get (l := l) c3) qx_M_84 qm_M_get_d ⟨by decide, by decide⟩ ⟨Nat.le_refl _, Nat.le_refl _⟩ rfl rfl rfl rfl rfl (Nat.le_of_ble_eq_true rfl) qm_M_pop_17 (fun H locs G => ?_)
  refine lv_iconst (v := 4) C.1 C.2.1 qm_M_pop_20 (by decide) ?_
  refine lv_iadd C.1 C.2.1 qm_M_pop_21 ?_
  obtain ⟨S4, c4, hf⟩ := bnd_s hf
  refine q_callVv (wf := (mW h K)) (n := 2) (As := [.int 14, .int (q3.1 + 4)]) (q0 := 0) (ci := 7) C G hl.1 (kM_put (l := l) c4) qx_M_90 qm_M_put_d ⟨by decide, by decide⟩ ⟨Nat.le_refl _, Nat.le_refl _⟩ rfl rfl rfl rfl rfl (Nat.le_of_ble_eq_true rfl) qm_M_pop_22 (fun H locs G => ?_)
  refine lv_iload_n C.1 C.2.1 qm_M_pop_25 rfl (lv_at hl 0 rfl) ?_
  exact q_iret (wf := (mW h K)) C G hf qm_M_pop_26
theorem kM_pop {l : Launch} {ad : Nat → Nat} {D : va_G} {h : Nat → Nat} {K : Nat → ClassId} {res : Int32 × qS} {S : qS} (hf : fM_pop S = some res) : qMi l qm_M_pop qm_M_pop_c 2 .int 4 99 D qCl (mT K) ad (mW h K) [.ref (h 0)] S res := qMi_of (by decide) (Nat.le_of_ble_eq_true rfl) (fun _ _ _ _ _ _ _ _ _ _ C G hl => wM_pop C S hf _ _ _ G hl)
set_option maxHeartbeats 4000000 in
set_option maxRecDepth 100000 in
theorem wM_endException_49 {l : Launch} {D : va_G} {h : Nat → Nat} {K : Nat → ClassId} {res : qS} {p : Program} {e : Env} {s : State} {m : MethodId} {args : Array Value} {below : List Frame} {meth : Method} {c : Code} {A : Nat → Prop} {ad : Nat → Nat} (C : qC p s m args meth c qm_M_endException_c 4 none qR_M ad) (S : qS) (x1 : Int32) (x2 : Int32) (hf : fM_endException_49 S x1 x2 = some res) : ∀ (H : Heap) (locs : List Loc) (ls : Array Slot), qG D qCl (mT K) A s (mW h K S) H locs → lv_has ls 4 [(0, .ref (h 0)), (1, .int x1), (2, .int x2)] → W p l e ({ frames := 5, cells := 0, slots := 0, locals := 120 }) s m args below meth c H locs 0 0 (MQ below (qQv D qCl (mT K) (mW h K) A res) args s 0 0 A) (F0 m 49 ls []) := by
  intro H locs ls G hl
  unfold fM_endException_49 at hf
  refine lv_aload_n C.1 C.2.1 qm_M_endException_49 rfl (lv_at hl 0 rfl) ?_
  refine q_get (wf := (mW h K)) (v := .int (S.1 7)) C G qi_M 0 rfl rfl 12 (by decide) qz_843 rfl qm_M_endException_50 ?_
  refine lv_if_eq (tgt := 57) C.1 C.2.1 qm_M_endException_53 (by decide) (fun b1 => ?_) (fun b1 => ?_)
  · have hf := if_t b1 hf
    refine lv_aload_n C.1 C.2.1 qm_M_endException_57 rfl (lv_at hl 0 rfl) ?_
    refine q_get (wf := (mW h K)) (v := .ref (h 2)) C G qi_M 0 rfl rfl 2 (by decide) qz_833 rfl qm_M_endException_58 ?_
    refine lv_bipush (v := 15) C.1 C.2.1 qm_M_endException_61 (by decide) ?_
    refine lv_iload_n C.1 C.2.1 qm_M_endException_63 rfl (lv_at hl 1 rfl) ?_
    refine q_iast (wf := (mW h K)) (S' := (pA S 1 15 x1)) C G 2 1 rfl rfl (by decide) rfl qm_M_endException_64 (fun H locs G => ?_)
    refine lv_aload_n C.1 C.2.1 qm_M_endException_65 rfl (lv_at hl 0 rfl) ?_
    refine lv_iload_n C.1 C.2.1 qm_M_endException_66 rfl (lv_at hl 2 rfl) ?_
    refine q_put (wf := (mW h K)) (S' := (pI (pA S 1 15 x1) 1 x2)) C G qi_M qY_M qy_M qn_M 0 rfl rfl 4 (by decide) qz_835 rfl rfl (Nat.le_of_ble_eq_true rfl) rfl qm_M_endException_67 (fun H locs G => ?_)
    exact q_vret (wf := (mW h K)) C G hf qm_M_endException_70
  · have hf := if_f b1 hf
    exact q_vret (wf := (mW h K)) C G hf qm_M_endException_56
set_option maxHeartbeats 4000000 in
set_option maxRecDepth 100000 in
theorem wM_endException_42 {l : Launch} {D : va_G} {h : Nat → Nat} {K : Nat → ClassId} {res : qS} {p : Program} {e : Env} {s : State} {m : MethodId} {args : Array Value} {below : List Frame} {meth : Method} {c : Code} {A : Nat → Prop} {ad : Nat → Nat} (C : qC p s m args meth c qm_M_endException_c 4 none qR_M ad) (S : qS) (x1 : Int32) (x2 : Int32) (hf : fM_endException_42 S x1 x2 = some res) : ∀ (H : Heap) (locs : List Loc) (ls : Array Slot), qG D qCl (mT K) A s (mW h K S) H locs → lv_has ls 4 [(0, .ref (h 0)), (1, .int x1), (2, .int x2)] → W p l e ({ frames := 5, cells := 0, slots := 0, locals := 120 }) s m args below meth c H locs 0 0 (MQ below (qQv D qCl (mT K) (mW h K) A res) args s 0 0 A) (F0 m 42 ls []) := by
  intro H locs ls G hl
  unfold fM_endException_42 at hf
  refine lv_aload_n C.1 C.2.1 qm_M_endException_42 rfl (lv_at hl 0 rfl) ?_
  refine lv_iconst (v := 2) C.1 C.2.1 qm_M_endException_43 (by decide) ?_
  refine lv_iconst (v := 0) C.1 C.2.1 qm_M_endException_44 (by decide) ?_
  refine lv_iconst (v := 0) C.1 C.2.1 qm_M_endException_45 (by decide) ?_
  obtain ⟨S1, c1, hf⟩ := bnd_s hf
  refine q_callVv (wf := (mW h K)) (n := 3) (As := [.int 2, .int 0, .int 0]) (q0 := 0) (ci := 7) C G hl.1 (kM_wrong (l := l) c1) qx_M_77 qm_M_wrong_d ⟨by decide, by decide⟩ ⟨Nat.le_refl _, Nat.le_refl _⟩ rfl rfl rfl rfl rfl (Nat.le_of_ble_eq_true rfl) qm_M_endException_46 (fun H locs G => ?_)
  exact wM_endException_49 C S1 x1 x2 hf _ _ _ G (lv_sub hl [0, 1, 2] rfl)
set_option maxHeartbeats 4000000 in
set_option maxRecDepth 100000 in
theorem wM_endException {l : Launch} {D : va_G} {h : Nat → Nat} {K : Nat → ClassId} {res : qS} {p : Program} {e : Env} {s : State} {m : MethodId} {args : Array Value} {below : List Frame} {meth : Method} {c : Code} {A : Nat → Prop} {ad : Nat → Nat} (C : qC p s m args meth c qm_M_endException_c 4 none qR_M ad) (S : qS) (hf : fM_endException S = some res) : ∀ (H : Heap) (locs : List Loc) (ls : Array Slot), qG D qCl (mT K) A s (mW h K S) H locs → lv_has ls 4 [(0, .ref (h 0))] → W p l e ({ frames := 5, cells := 0, slots := 0, locals := 120 }) s m args below meth c H locs 0 0 (MQ below (qQv D qCl (mT K) (mW h K) A res) args s 0 0 A) (F0 m 0 ls []) := by
  intro H locs ls G hl
  unfold fM_endException at hf
  refine lv_aload_n C.1 C.2.1 qm_M_endException_0 rfl (lv_at hl 0 rfl) ?_
  obtain ⟨q1, c1, hf⟩ := bnd_s hf
  refine q_callVi (wf := (mW h K)) (n := 0) (As := []) (q0 := 0) (ci := 7) C G hl.1 (kM_pop (l := l) c1) qx_M_128 qm_M_pop_d ⟨by decide, by decide⟩ ⟨Nat.le_refl _, Nat.le_refl _⟩ rfl rfl rfl rfl rfl (Nat.le_of_ble_eq_true rfl) qm_M_endException_1 (fun H locs G => ?_)
  refine lv_istore_n (lv' := [(1, .int q1.1), (0, .ref (h 0))]) C.1 C.2.1 qm_M_endException_4 rfl hl (by decide) rfl (fun ls hl => ?_)
  refine lv_aload_n C.1 C.2.1 qm_M_endException_5 rfl (lv_at hl 1 rfl) ?_
  obtain ⟨q2, c2, hf⟩ := bnd_s hf
  refine q_callVi (wf := (mW h K)) (n := 0) (As := []) (q0 := 0) (ci := 7) C G hl.1 (kM_pop (l := l) c2) qx_M_128 qm_M_pop_d ⟨by decide, by decide⟩ ⟨Nat.le_refl _, Nat.le_refl _⟩ rfl rfl rfl rfl rfl (Nat.le_of_ble_eq_true rfl) qm_M_endException_6 (fun H locs G => ?_)
  refine lv_istore_n (lv' := [(2, .int q2.1), (1, .int q1.1), (0, .ref (h 0))]) C.1 C.2.1 qm_M_endException_9 rfl hl (by decide) rfl (fun ls hl => ?_)
  refine lv_iload_n C.1 C.2.1 qm_M_endException_10 rfl (lv_at hl 0 rfl) ?_
  refine lv_bipush (v := 24) C.1 C.2.1 qm_M_endException_11 (by decide) ?_
  refine lv_ishr C.1 C.2.1 qm_M_endException_13 ?_
  refine lv_iconst (v := 3) C.1 C.2.1 qm_M_endException_14 (by decide) ?_
  refine lv_iand C.1 C.2.1 qm_M_endException_15 ?_
  refine lv_istore_n (lv' := [(3, .int ((q2.1 >>> ((24 : Int32) &&& 31)) &&& 3)), (2, .int q2.1), (1, .int q1.1), (0, .ref (h 0))]) C.1 C.2.1 qm_M_endException_16 rfl hl (by decide) rfl (fun ls hl => ?_)
  refine lv_iload_n C.1 C.2.1 qm_M_endException_17 rfl (lv_at hl 1 rfl) ?_
  refine lv_ldc (own := "QuadModeModel") (v := (-62914608)) C.1 C.2.1 C.2.2.2.1 (C.2.2.2.2.1 _ qz_954) qm_M_endException_18 ?_
  refine lv_iand C.1 C.2.1 qm_M_endException_20 ?_
  refine lv_if_ne (tgt := 42) C.1 C.2.1 qm_M_endException_21 (by decide) (fun b3 => ?_) (fun b3 => ?_)
  · have hf := if_t b3 hf
    exact wM_endException_42 C q2.2 q1.1 q2.1 hf _ _ _ G (lv_sub hl [3, 2, 1] rfl)
  · have hf := if_f (not_not_intro b3) hf
    refine lv_iload_n C.1 C.2.1 qm_M_endException_24 rfl (lv_at hl 0 rfl) ?_
    refine lv_aload_n C.1 C.2.1 qm_M_endException_25 rfl (lv_at hl 3 rfl) ?_
    obtain ⟨q4, c4, hf⟩ := bnd_s hf
    refine q_callVi (wf := (mW h K)) (n := 0) (As := []) (q0 := 0) (ci := 7) C G hl.1 (kM_mode (l := l) c4) qx_M_69 qm_M_mode_d ⟨by decide, by decide⟩ ⟨Nat.le_refl _, Nat.le_refl _⟩ rfl rfl rfl rfl rfl (Nat.le_of_ble_eq_true rfl) qm_M_endException_26 (fun H locs G => ?_)
    refine lv_icmp_lt (tgt := 42) C.1 C.2.1 qm_M_endException_29 (by decide) (fun b5 => ?_) (fun b5 => ?_)
    · have hf := if_t b5 hf
      exact wM_endException_42 C q4.2 q1.1 q2.1 hf _ _ _ G (lv_sub hl [3, 2, 1] rfl)
    · have hf := if_f b5 hf
      refine lv_iload_n C.1 C.2.1 qm_M_endException_32 rfl (lv_at hl 1 rfl) ?_
      refine lv_bipush (v := 22) C.1 C.2.1 qm_M_endException_33 (by decide) ?_
      refine lv_ishr C.1 C.2.1 qm_M_endException_35 ?_
      refine lv_iconst (v := 3) C.1 C.2.1 qm_M_endException_36 (by decide) ?_
      refine lv_iand C.1 C.2.1 qm_M_endException_37 ?_
      refine lv_iload_n C.1 C.2.1 qm_M_endException_38 rfl (lv_at hl 0 rfl) ?_
      refine lv_icmp_ge (tgt := 49) C.1 C.2.1 qm_M_endException_39 (by decide) (fun b6 => ?_) (fun b6 => ?_)
      · have hf := if_t b6 hf
        exact wM_endException_49 C q4.2 q1.1 q2.1 hf _ _ _ G (lv_sub hl [3, 2, 1] rfl)
      · have hf := if_f b6 hf
        exact wM_endException_42 C q4.2 q1.1 q2.1 hf _ _ _ G (lv_sub hl [3, 2, 1] rfl)
theorem kM_endException {l : Launch} {ad : Nat → Nat} {D : va_G} {h : Nat → Nat} {K : Nat → ClassId} {res : qS} {S : qS} (hf : fM_endException S = some res) : qMv l qm_M_endException qm_M_endException_c 4 5 120 D qCl (mT K) ad (mW h K) [.ref (h 0)] S res := qMv_of (by decide) (Nat.le_of_ble_eq_true rfl) (fun _ _ _ _ _ _ _ _ _ _ C G hl => wM_endException C S hf _ _ _ G hl)
set_option maxHeartbeats 4000000 in
set_option maxRecDepth 100000 in
theorem wM_comeBack_155 {l : Launch} {D : va_G} {h : Nat → Nat} {K : Nat → ClassId} {res : qS} {p : Program} {e : Env} {s : State} {m : MethodId} {args : Array Value} {below : List Frame} {meth : Method} {c : Code} {A : Nat → Prop} {ad : Nat → Nat} (C : qC p s m args meth c qm_M_comeBack_c 3 none qR_M ad) (S : qS) (x1 : Int32) (hf : fM_comeBack_155 S x1 = some res) : ∀ (H : Heap) (locs : List Loc) (ls : Array Slot), qG D qCl (mT K) A s (mW h K S) H locs → lv_has ls 3 [(0, .ref (h 0)), (1, .int x1)] → W p l e ({ frames := 5, cells := 0, slots := 0, locals := 120 }) s m args below meth c H locs 0 0 (MQ below (qQv D qCl (mT K) (mW h K) A res) args s 0 0 A) (F0 m 155 ls []) := by
  intro H locs ls G hl
  unfold fM_comeBack_155 at hf
  refine lv_aload_n C.1 C.2.1 qm_M_comeBack_155 rfl (lv_at hl 0 rfl) ?_
  refine lv_aload_n C.1 C.2.1 qm_M_comeBack_156 rfl (lv_at hl 0 rfl) ?_
  refine q_get (wf := (mW h K)) (v := .int (S.1 1)) C G qi_M 0 rfl rfl 4 (by decide) qz_835 rfl qm_M_comeBack_157 ?_
  refine lv_bipush (v := (-48)) C.1 C.2.1 qm_M_comeBack_160 (by decide) ?_
  refine lv_iand C.1 C.2.1 qm_M_comeBack_162 ?_
  refine lv_iload_n C.1 C.2.1 qm_M_comeBack_163 rfl (lv_at hl 1 rfl) ?_
  refine lv_bipush (v := 47) C.1 C.2.1 qm_M_comeBack_164 (by decide) ?_
  refine lv_iand C.1 C.2.1 qm_M_comeBack_166 ?_
  refine lv_ior C.1 C.2.1 qm_M_comeBack_167 ?_
  refine q_put (wf := (mW h K)) (S' := (pI S 1 (((S.1 1) &&& (-48)) ||| (x1 &&& 47)))) C G qi_M qY_M qy_M qn_M 0 rfl rfl 4 (by decide) qz_835 rfl rfl (Nat.le_of_ble_eq_true rfl) rfl qm_M_comeBack_168 (fun H locs G => ?_)
  exact q_vret (wf := (mW h K)) C G hf qm_M_comeBack_171
set_option maxHeartbeats 4000000 in
set_option maxRecDepth 100000 in
theorem wM_comeBack_97 {l : Launch} {D : va_G} {h : Nat → Nat} {K : Nat → ClassId} {res : qS} {p : Program} {e : Env} {s : State} {m : MethodId} {args : Array Value} {below : List Frame} {meth : Method} {c : Code} {A : Nat → Prop} {ad : Nat → Nat} (C : qC p s m args meth c qm_M_comeBack_c 3 none qR_M ad) {K69 : qS → Int32 → Int32 → Option (qS)} (hK69 : ∀ (S : qS) (x1 : Int32) (x2 : Int32), K69 S x1 x2 = some res → ∀ (H : Heap) (locs : List Loc) (ls : Array Slot), qG D qCl (mT K) A s (mW h K S) H locs → lv_has ls 3 [(0, .ref (h 0)), (1, .int x1), (2, .int x2)] → W p l e ({ frames := 5, cells := 0, slots := 0, locals := 120 }) s m args below meth c H locs 0 0 (MQ below (qQv D qCl (mT K) (mW h K) A res) args s 0 0 A) (F0 m 69 ls [])) (S : qS) (x1 : Int32) (x2 : Int32) (hf : fM_comeBack_97 K69 S x1 x2 = some res) : ∀ (H : Heap) (locs : List Loc) (ls : Array Slot), qG D qCl (mT K) A s (mW h K S) H locs → lv_has ls 3 [(0, .ref (h 0)), (1, .int x1), (2, .int x2)] → W p l e ({ frames := 5, cells := 0, slots := 0, locals := 120 }) s m args below meth c H locs 0 0 (MQ below (qQv D qCl (mT K) (mW h K) A res) args s 0 0 A) (F0 m 97 ls []) := by
  intro H locs ls G hl
  unfold fM_comeBack_97 at hf
  refine lv_iinc (v := x2 + 1) (lv' := [(2, .int (x2 + 1)), (0, .ref (h 0)), (1, .int x1)]) C.1 C.2.1 qm_M_comeBack_97 hl (k := 2) rfl rfl (by decide) rfl (fun ls hl => ?_)
  refine lv_goto (tgt := 69) C.1 C.2.1 qm_M_comeBack_100 (by decide) ?_
  exact hK69 S x1 (x2 + 1) hf _ _ _ G (lv_sub hl [1, 2, 0] rfl)
set_option maxHeartbeats 4000000 in
set_option maxRecDepth 100000 in
theorem wM_comeBack_69 {l : Launch} {D : va_G} {h : Nat → Nat} {K : Nat → ClassId} {res : qS} {p : Program} {e : Env} {s : State} {m : MethodId} {args : Array Value} {below : List Frame} {meth : Method} {c : Code} {A : Nat → Prop} {ad : Nat → Nat} (C : qC p s m args meth c qm_M_comeBack_c 3 none qR_M ad) : ∀ (n : Nat) (S : qS) (x1 : Int32) (x2 : Int32), fM_comeBack_69 n S x1 x2 = some res → ∀ (H : Heap) (locs : List Loc) (ls : Array Slot), qG D qCl (mT K) A s (mW h K S) H locs → lv_has ls 3 [(0, .ref (h 0)), (1, .int x1), (2, .int x2)] → W p l e ({ frames := 5, cells := 0, slots := 0, locals := 120 }) s m args below meth c H locs 0 0 (MQ below (qQv D qCl (mT K) (mW h K) A res) args s 0 0 A) (F0 m 69 ls []) := by
  intro n
  induction n with
  | zero => intro S x1 x2 hf; cases hf
  | succ n ih =>
    intro S x1 x2 hf H locs ls G hl
    rw [fM_comeBack_69] at hf
    refine lv_iload_n C.1 C.2.1 qm_M_comeBack_69 rfl (lv_at hl 2 rfl) ?_
    refine lv_bipush (v := 12) C.1 C.2.1 qm_M_comeBack_70 (by decide) ?_
    refine lv_icmp_ge (tgt := 103) C.1 C.2.1 qm_M_comeBack_72 (by decide) (fun b1 => ?_) (fun b1 => ?_)
    · have hf := if_t b1 hf
      refine lv_aload_n C.1 C.2.1 qm_M_comeBack_103 rfl (lv_at hl 0 rfl) ?_
      refine lv_bipush (v := 14) C.1 C.2.1 qm_M_comeBack_104 (by decide) ?_
      refine lv_aload_n C.1 C.2.1 qm_M_comeBack_106 rfl (lv_at hl 0 rfl) ?_
      refine lv_bipush (v := 14) C.1 C.2.1 qm_M_comeBack_107 (by decide) ?_
      obtain ⟨q2, c2, hf⟩ := bnd_s hf
      refine q_callVi (wf := (mW h K)) (n := 1) (As := [.int 14]) (q0 := 0) (ci := 7) C G hl.1 (kM_get (l := l) c2) qx_M_84 qm_M_get_d ⟨by decide, by decide⟩ ⟨Nat.le_refl _, Nat.le_refl _⟩ rfl rfl rfl rfl rfl (Nat.le_of_ble_eq_true rfl) qm_M_comeBack_109 (fun H locs G => ?_)
      refine lv_iload_n C.1 C.2.1 qm_M_comeBack_112 rfl (lv_at hl 1 rfl) ?_
      refine lv_bipush (v := 30) C.1 C.2.1 qm_M_comeBack_113 (by decide) ?_
      refine lv_iushr (v := ushr x1 30) C.1 C.2.1 qm_M_comeBack_115 rfl ?_
      refine lv_iadd C.1 C.2.1 qm_M_comeBack_116 ?_
      obtain ⟨S3, c3, hf⟩ := bnd_s hf
      refine q_callVv (wf := (mW h K)) (n := 2) (As := [.int 14, .int (q2.1 + (ushr x1 30))]) (q0 := 0) (ci := 7) C G hl.1 (kM_put (l := l) c3) qx_M_90 qm_M_put_d ⟨by decide, by decide⟩ ⟨Nat.le_refl _, Nat.le_refl _⟩ rfl rfl rfl rfl rfl (Nat.le_of_ble_eq_true rfl) qm_M_comeBack_117 (fun H locs G => ?_)
      refine lv_iload_n C.1 C.2.1 qm_M_comeBack_120 rfl (lv_at hl 1 rfl) ?_
      refine lv_bipush (v := 29) C.1 C.2.1 qm_M_comeBack_121 (by decide) ?_
      refine lv_ishr C.1 C.2.1 qm_M_comeBack_123 ?_
      refine lv_iconst (v := 1) C.1 C.2.1 qm_M_comeBack_124 (by decide) ?_
      refine lv_iand C.1 C.2.1 qm_M_comeBack_125 ?_
      refine lv_iconst (v := 1) C.1 C.2.1 qm_M_comeBack_126 (by decide) ?_
      refine lv_icmp_ne (tgt := 155) C.1 C.2.1 qm_M_comeBack_127 (by decide) (fun b4 => ?_) (fun b4 => ?_)
      · have hf := if_t b4 hf
        exact wM_comeBack_155 C S3 x1 hf _ _ _ G (lv_sub hl [0, 1] rfl)
      · have hf := if_f (not_not_intro b4) hf
        refine lv_aload_n C.1 C.2.1 qm_M_comeBack_130 rfl (lv_at hl 0 rfl) ?_
        obtain ⟨q5, c5, hf⟩ := bnd_s hf
        refine q_callVi (wf := (mW h K)) (n := 0) (As := []) (q0 := 0) (ci := 7) C G hl.1 (kM_pop (l := l) c5) qx_M_128 qm_M_pop_d ⟨by decide, by decide⟩ ⟨Nat.le_refl _, Nat.le_refl _⟩ rfl rfl rfl rfl rfl (Nat.le_of_ble_eq_true rfl) qm_M_comeBack_131 (fun H locs G => ?_)
        refine lv_istore_n (lv' := [(2, .int q5.1), (0, .ref (h 0)), (1, .int x1)]) C.1 C.2.1 qm_M_comeBack_134 rfl hl (by decide) rfl (fun ls hl => ?_)
        refine lv_aload_n C.1 C.2.1 qm_M_comeBack_135 rfl (lv_at hl 1 rfl) ?_
        refine lv_bipush (v := 14) C.1 C.2.1 qm_M_comeBack_136 (by decide) ?_
        refine lv_aload_n C.1 C.2.1 qm_M_comeBack_138 rfl (lv_at hl 1 rfl) ?_
        refine lv_bipush (v := 14) C.1 C.2.1 qm_M_comeBack_139 (by decide) ?_
        obtain ⟨q6, c6, hf⟩ := bnd_s hf
        refine q_callVi (wf := (mW h K)) (n := 1) (As := [.int 14]) (q0 := 0) (ci := 7) C G hl.1 (kM_get (l := l) c6) qx_M_84 qm_M_get_d ⟨by decide, by decide⟩ ⟨Nat.le_refl _, Nat.le_refl _⟩ rfl rfl rfl rfl rfl (Nat.le_of_ble_eq_true rfl) qm_M_comeBack_141 (fun H locs G => ?_)
        refine lv_iconst (v := 4) C.1 C.2.1 qm_M_comeBack_144 (by decide) ?_
        refine lv_iload_n C.1 C.2.1 qm_M_comeBack_145 rfl (lv_at hl 0 rfl) ?_
        refine lv_sipush (v := 255) C.1 C.2.1 qm_M_comeBack_146 (by decide) ?_
        refine lv_iand C.1 C.2.1 qm_M_comeBack_149 ?_
        refine lv_imul C.1 C.2.1 qm_M_comeBack_150 ?_
        refine lv_iadd C.1 C.2.1 qm_M_comeBack_151 ?_
        obtain ⟨S7, c7, hf⟩ := bnd_s hf
        refine q_callVv (wf := (mW h K)) (n := 2) (As := [.int 14, .int (q6.1 + (4 * (q5.1 &&& 255)))]) (q0 := 0) (ci := 7) C G hl.1 (kM_put (l := l) c7) qx_M_90 qm_M_put_d ⟨by decide, by decide⟩ ⟨Nat.le_refl _, Nat.le_refl _⟩ rfl rfl rfl rfl rfl (Nat.le_of_ble_eq_true rfl) qm_M_comeBack_152 (fun H locs G => ?_)
        exact wM_comeBack_155 C S7 x1 hf _ _ _ G (lv_sub hl [1, 2] rfl)
    · have hf := if_f b1 hf
      refine lv_iload_n C.1 C.2.1 qm_M_comeBack_75 rfl (lv_at hl 1 rfl) ?_
      refine lv_bipush (v := 16) C.1 C.2.1 qm_M_comeBack_76 (by decide) ?_
      refine lv_iload_n C.1 C.2.1 qm_M_comeBack_78 rfl (lv_at hl 2 rfl) ?_
      refine lv_iadd C.1 C.2.1 qm_M_comeBack_79 ?_
      refine lv_ishr C.1 C.2.1 qm_M_comeBack_80 ?_
      refine lv_iconst (v := 1) C.1 C.2.1 qm_M_comeBack_81 (by decide) ?_
      refine lv_iand C.1 C.2.1 qm_M_comeBack_82 ?_
      refine lv_iconst (v := 1) C.1 C.2.1 qm_M_comeBack_83 (by decide) ?_
      refine lv_icmp_ne (tgt := 97) C.1 C.2.1 qm_M_comeBack_84 (by decide) (fun b8 => ?_) (fun b8 => ?_)
      · have hf := if_t b8 hf
        exact wM_comeBack_97 C (ih) S x1 x2 hf _ _ _ G (lv_sub hl [0, 1, 2] rfl)
      · have hf := if_f (not_not_intro b8) hf
        refine lv_aload_n C.1 C.2.1 qm_M_comeBack_87 rfl (lv_at hl 0 rfl) ?_
        refine q_get (wf := (mW h K)) (v := .ref (h 2)) C G qi_M 0 rfl rfl 2 (by decide) qz_833 rfl qm_M_comeBack_88 ?_
        refine lv_iload_n C.1 C.2.1 qm_M_comeBack_91 rfl (lv_at hl 2 rfl) ?_
        refine lv_aload_n C.1 C.2.1 qm_M_comeBack_92 rfl (lv_at hl 0 rfl) ?_
        obtain ⟨q9, c9, hf⟩ := bnd_s hf
        refine q_callVi (wf := (mW h K)) (n := 0) (As := []) (q0 := 0) (ci := 7) C G hl.1 (kM_pop (l := l) c9) qx_M_128 qm_M_pop_d ⟨by decide, by decide⟩ ⟨Nat.le_refl _, Nat.le_refl _⟩ rfl rfl rfl rfl rfl (Nat.le_of_ble_eq_true rfl) qm_M_comeBack_93 (fun H locs G => ?_)
        obtain ⟨b10, hf⟩ := chk_s hf
        refine q_iast (wf := (mW h K)) (S' := (pA q9.2 1 x2 q9.1)) C G 2 1 rfl rfl b10 rfl qm_M_comeBack_96 (fun H locs G => ?_)
        exact wM_comeBack_97 C (ih) (pA q9.2 1 x2 q9.1) x1 x2 hf _ _ _ G (lv_sub hl [0, 1, 2] rfl)
set_option maxHeartbeats 4000000 in
set_option maxRecDepth 100000 in
theorem wM_comeBack_34 {l : Launch} {D : va_G} {h : Nat → Nat} {K : Nat → ClassId} {res : qS} {p : Program} {e : Env} {s : State} {m : MethodId} {args : Array Value} {below : List Frame} {meth : Method} {c : Code} {A : Nat → Prop} {ad : Nat → Nat} (C : qC p s m args meth c qm_M_comeBack_c 3 none qR_M ad) (S : qS) (x1 : Int32) (hf : fM_comeBack_34 S x1 = some res) : ∀ (H : Heap) (locs : List Loc) (ls : Array Slot), qG D qCl (mT K) A s (mW h K S) H locs → lv_has ls 3 [(0, .ref (h 0)), (1, .int x1)] → W p l e ({ frames := 5, cells := 0, slots := 0, locals := 120 }) s m args below meth c H locs 0 0 (MQ below (qQv D qCl (mT K) (mW h K) A res) args s 0 0 A) (F0 m 34 ls []) := by
  intro H locs ls G hl
  unfold fM_comeBack_34 at hf
  refine lv_aload_n C.1 C.2.1 qm_M_comeBack_34 rfl (lv_at hl 0 rfl) ?_
  refine q_get (wf := (mW h K)) (v := .ref (h 2)) C G qi_M 0 rfl rfl 2 (by decide) qz_833 rfl qm_M_comeBack_35 ?_
  refine lv_bipush (v := 12) C.1 C.2.1 qm_M_comeBack_38 (by decide) ?_
  refine lv_aload_n C.1 C.2.1 qm_M_comeBack_40 rfl (lv_at hl 0 rfl) ?_
  obtain ⟨q1, c1, hf⟩ := bnd_s hf
  refine q_callVi (wf := (mW h K)) (n := 0) (As := []) (q0 := 0) (ci := 7) C G hl.1 (kM_pop (l := l) c1) qx_M_128 qm_M_pop_d ⟨by decide, by decide⟩ ⟨Nat.le_refl _, Nat.le_refl _⟩ rfl rfl rfl rfl rfl (Nat.le_of_ble_eq_true rfl) qm_M_comeBack_41 (fun H locs G => ?_)
  refine q_iast (wf := (mW h K)) (S' := (pA q1.2 1 12 q1.1)) C G 2 1 rfl rfl (by decide) rfl qm_M_comeBack_44 (fun H locs G => ?_)
  refine lv_aload_n C.1 C.2.1 qm_M_comeBack_45 rfl (lv_at hl 0 rfl) ?_
  refine q_get (wf := (mW h K)) (v := .ref (h 2)) C G qi_M 0 rfl rfl 2 (by decide) qz_833 rfl qm_M_comeBack_46 ?_
  refine lv_bipush (v := 13) C.1 C.2.1 qm_M_comeBack_49 (by decide) ?_
  refine lv_aload_n C.1 C.2.1 qm_M_comeBack_51 rfl (lv_at hl 0 rfl) ?_
  obtain ⟨q2, c2, hf⟩ := bnd_s hf
  refine q_callVi (wf := (mW h K)) (n := 0) (As := []) (q0 := 0) (ci := 7) C G hl.1 (kM_pop (l := l) c2) qx_M_128 qm_M_pop_d ⟨by decide, by decide⟩ ⟨Nat.le_refl _, Nat.le_refl _⟩ rfl rfl rfl rfl rfl (Nat.le_of_ble_eq_true rfl) qm_M_comeBack_52 (fun H locs G => ?_)
  refine q_iast (wf := (mW h K)) (S' := (pA q2.2 1 13 q2.1)) C G 2 1 rfl rfl (by decide) rfl qm_M_comeBack_55 (fun H locs G => ?_)
  refine lv_aload_n C.1 C.2.1 qm_M_comeBack_56 rfl (lv_at hl 0 rfl) ?_
  refine q_get (wf := (mW h K)) (v := .ref (h 2)) C G qi_M 0 rfl rfl 2 (by decide) qz_833 rfl qm_M_comeBack_57 ?_
  refine lv_bipush (v := 15) C.1 C.2.1 qm_M_comeBack_60 (by decide) ?_
  refine lv_aload_n C.1 C.2.1 qm_M_comeBack_62 rfl (lv_at hl 0 rfl) ?_
  obtain ⟨q3, c3, hf⟩ := bnd_s hf
  refine q_callVi (wf := (mW h K)) (n := 0) (As := []) (q0 := 0) (ci := 7) C G hl.1 (kM_pop (l := l) c3) qx_M_128 qm_M_pop_d ⟨by decide, by decide⟩ ⟨Nat.le_refl _, Nat.le_refl _⟩ rfl rfl rfl rfl rfl (Nat.le_of_ble_eq_true rfl) qm_M_comeBack_63 (fun H locs G => ?_)
  refine q_iast (wf := (mW h K)) (S' := (pA q3.2 1 15 q3.1)) C G 2 1 rfl rfl (by decide) rfl qm_M_comeBack_66 (fun H locs G => ?_)
  refine lv_iconst (v := 0) C.1 C.2.1 qm_M_comeBack_67 (by decide) ?_
  refine lv_istore_n (lv' := [(2, .int 0), (0, .ref (h 0)), (1, .int x1)]) C.1 C.2.1 qm_M_comeBack_68 rfl hl (by decide) rfl (fun ls hl => ?_)
  exact wM_comeBack_69 C 300 (pA q3.2 1 15 q3.1) x1 0 hf _ _ _ G (lv_sub hl [1, 2, 0] rfl)
set_option maxHeartbeats 4000000 in
set_option maxRecDepth 100000 in
theorem wM_comeBack {l : Launch} {D : va_G} {h : Nat → Nat} {K : Nat → ClassId} {res : qS} {p : Program} {e : Env} {s : State} {m : MethodId} {args : Array Value} {below : List Frame} {meth : Method} {c : Code} {A : Nat → Prop} {ad : Nat → Nat} (C : qC p s m args meth c qm_M_comeBack_c 3 none qR_M ad) (S : qS) (hf : fM_comeBack S = some res) : ∀ (H : Heap) (locs : List Loc) (ls : Array Slot), qG D qCl (mT K) A s (mW h K S) H locs → lv_has ls 3 [(0, .ref (h 0))] → W p l e ({ frames := 5, cells := 0, slots := 0, locals := 120 }) s m args below meth c H locs 0 0 (MQ below (qQv D qCl (mT K) (mW h K) A res) args s 0 0 A) (F0 m 0 ls []) := by
  intro H locs ls G hl
  unfold fM_comeBack at hf
  refine lv_aload_n C.1 C.2.1 qm_M_comeBack_0 rfl (lv_at hl 0 rfl) ?_
  refine lv_bipush (v := 14) C.1 C.2.1 qm_M_comeBack_1 (by decide) ?_
  refine lv_aload_n C.1 C.2.1 qm_M_comeBack_3 rfl (lv_at hl 0 rfl) ?_
  refine q_get (wf := (mW h K)) (v := .ref (h 2)) C G qi_M 0 rfl rfl 2 (by decide) qz_833 rfl qm_M_comeBack_4 ?_
  refine lv_bipush (v := 13) C.1 C.2.1 qm_M_comeBack_7 (by decide) ?_
  refine q_iald (wf := (mW h K)) C G 2 1 rfl rfl (by decide) qm_M_comeBack_9 ?_
  refine lv_iconst (v := 4) C.1 C.2.1 qm_M_comeBack_10 (by decide) ?_
  refine lv_iadd C.1 C.2.1 qm_M_comeBack_11 ?_
  obtain ⟨S1, c1, hf⟩ := bnd_s hf
  refine q_callVv (wf := (mW h K)) (n := 2) (As := [.int 14, .int ((gA S 1 13) + 4)]) (q0 := 0) (ci := 7) C G hl.1 (kM_put (l := l) c1) qx_M_90 qm_M_put_d ⟨by decide, by decide⟩ ⟨Nat.le_refl _, Nat.le_refl _⟩ rfl rfl rfl rfl rfl (Nat.le_of_ble_eq_true rfl) qm_M_comeBack_12 (fun H locs G => ?_)
  refine lv_aload_n C.1 C.2.1 qm_M_comeBack_15 rfl (lv_at hl 0 rfl) ?_
  obtain ⟨q2, c2, hf⟩ := bnd_s hf
  refine q_callVi (wf := (mW h K)) (n := 0) (As := []) (q0 := 0) (ci := 7) C G hl.1 (kM_pop (l := l) c2) qx_M_128 qm_M_pop_d ⟨by decide, by decide⟩ ⟨Nat.le_refl _, Nat.le_refl _⟩ rfl rfl rfl rfl rfl (Nat.le_of_ble_eq_true rfl) qm_M_comeBack_16 (fun H locs G => ?_)
  refine lv_istore_n (lv' := [(1, .int q2.1), (0, .ref (h 0))]) C.1 C.2.1 qm_M_comeBack_19 rfl hl (by decide) rfl (fun ls hl => ?_)
  refine lv_iload_n C.1 C.2.1 qm_M_comeBack_20 rfl (lv_at hl 0 rfl) ?_
  refine lv_ldc (own := "QuadModeModel") (v := 65488) C.1 C.2.1 C.2.2.2.1 (C.2.2.2.2.1 _ qz_1022) qm_M_comeBack_21 ?_
  refine lv_iand C.1 C.2.1 qm_M_comeBack_23 ?_
  refine lv_if_eq (tgt := 34) C.1 C.2.1 qm_M_comeBack_24 (by decide) (fun b3 => ?_) (fun b3 => ?_)
  · have hf := if_t b3 hf
    exact wM_comeBack_34 C q2.2 q2.1 hf _ _ _ G (lv_sub hl [1, 0] rfl)
  · have hf := if_f b3 hf
    refine lv_aload_n C.1 C.2.1 qm_M_comeBack_27 rfl (lv_at hl 1 rfl) ?_
    refine lv_iconst (v := 2) C.1 C.2.1 qm_M_comeBack_28 (by decide) ?_
    refine lv_iconst (v := 0) C.1 C.2.1 qm_M_comeBack_29 (by decide) ?_
    refine lv_iconst (v := 0) C.1 C.2.1 qm_M_comeBack_30 (by decide) ?_
    obtain ⟨S4, c4, hf⟩ := bnd_s hf
    refine q_callVv (wf := (mW h K)) (n := 3) (As := [.int 2, .int 0, .int 0]) (q0 := 0) (ci := 7) C G hl.1 (kM_wrong (l := l) c4) qx_M_77 qm_M_wrong_d ⟨by decide, by decide⟩ ⟨Nat.le_refl _, Nat.le_refl _⟩ rfl rfl rfl rfl rfl (Nat.le_of_ble_eq_true rfl) qm_M_comeBack_31 (fun H locs G => ?_)
    exact wM_comeBack_34 C S4 q2.1 hf _ _ _ G (lv_sub hl [1, 0] rfl)
theorem kM_comeBack {l : Launch} {ad : Nat → Nat} {D : va_G} {h : Nat → Nat} {K : Nat → ClassId} {res : qS} {S : qS} (hf : fM_comeBack S = some res) : qMv l qm_M_comeBack qm_M_comeBack_c 3 5 120 D qCl (mT K) ad (mW h K) [.ref (h 0)] S res := qMv_of (by decide) (Nat.le_of_ble_eq_true rfl) (fun _ _ _ _ _ _ _ _ _ _ C G hl => wM_comeBack C S hf _ _ _ G hl)
