theorem qm_M_work_0 : decode qm_M_work_c 0 = .ok (.aload_n 0, 1) := by decide +kernel
theorem qm_M_work_1 : decode qm_M_work_c 1 = .ok (.getfield 25, 3) := by decide +kernel
theorem qm_M_work_4 : decode qm_M_work_c 4 = .ok (.iload_n 1, 1) := by decide +kernel
theorem qm_M_work_5 : decode qm_M_work_c 5 = .ok (.bipush 62, 2) := by decide +kernel
theorem qm_M_work_7 : decode qm_M_work_c 7 = .ok (.if_icmp .ge 7, 3) := by decide +kernel
theorem qm_M_work_10 : decode qm_M_work_c 10 = .ok (.iconst 0, 1) := by decide +kernel
theorem qm_M_work_11 : decode qm_M_work_c 11 = .ok (.goto 4, 3) := by decide +kernel
theorem qm_M_work_14 : decode qm_M_work_c 14 = .ok (.iconst 1, 1) := by decide +kernel
theorem qm_M_work_15 : decode qm_M_work_c 15 = .ok (.iaload, 1) := by decide +kernel
theorem qm_M_work_16 : decode qm_M_work_c 16 = .ok (.istore_n 2, 1) := by decide +kernel
theorem qm_M_work_17 : decode qm_M_work_c 17 = .ok (.iload_n 1, 1) := by decide +kernel
theorem qm_M_work_18 : decode qm_M_work_c 18 = .ok (.iconst 2, 1) := by decide +kernel
theorem qm_M_work_19 : decode qm_M_work_c 19 = .ok (.if_icmp .ne 10, 3) := by decide +kernel
theorem qm_M_work_22 : decode qm_M_work_c 22 = .ok (.aload_n 0, 1) := by decide +kernel
theorem qm_M_work_23 : decode qm_M_work_c 23 = .ok (.invokevirtual 136, 3) := by decide +kernel
theorem qm_M_work_26 : decode qm_M_work_c 26 = .ok (.goto 353, 3) := by decide +kernel
theorem qm_M_work_29 : decode qm_M_work_c 29 = .ok (.iload_n 1, 1) := by decide +kernel
theorem qm_M_work_30 : decode qm_M_work_c 30 = .ok (.iconst 3, 1) := by decide +kernel
theorem qm_M_work_31 : decode qm_M_work_c 31 = .ok (.if_icmp .ne 14, 3) := by decide +kernel
theorem qm_M_work_34 : decode qm_M_work_c 34 = .ok (.aload_n 0, 1) := by decide +kernel
theorem qm_M_work_35 : decode qm_M_work_c 35 = .ok (.bipush 6, 2) := by decide +kernel
theorem qm_M_work_37 : decode qm_M_work_c 37 = .ok (.iconst 0, 1) := by decide +kernel
theorem qm_M_work_38 : decode qm_M_work_c 38 = .ok (.iconst 0, 1) := by decide +kernel
theorem qm_M_work_39 : decode qm_M_work_c 39 = .ok (.invokevirtual 77, 3) := by decide +kernel
theorem qm_M_work_42 : decode qm_M_work_c 42 = .ok (.goto 337, 3) := by decide +kernel
theorem qm_M_work_45 : decode qm_M_work_c 45 = .ok (.iload_n 1, 1) := by decide +kernel
theorem qm_M_work_46 : decode qm_M_work_c 46 = .ok (.iconst 4, 1) := by decide +kernel
theorem qm_M_work_47 : decode qm_M_work_c 47 = .ok (.if_icmp .ne 10, 3) := by decide +kernel
theorem qm_M_work_50 : decode qm_M_work_c 50 = .ok (.aload_n 0, 1) := by decide +kernel
theorem qm_M_work_51 : decode qm_M_work_c 51 = .ok (.invokevirtual 139, 3) := by decide +kernel
theorem qm_M_work_54 : decode qm_M_work_c 54 = .ok (.goto 325, 3) := by decide +kernel
theorem qm_M_work_57 : decode qm_M_work_c 57 = .ok (.iload_n 1, 1) := by decide +kernel
theorem qm_M_work_58 : decode qm_M_work_c 58 = .ok (.iconst 5, 1) := by decide +kernel
theorem qm_M_work_59 : decode qm_M_work_c 59 = .ok (.if_icmp .ne 17, 3) := by decide +kernel
theorem qm_M_work_62 : decode qm_M_work_c 62 = .ok (.aload_n 0, 1) := by decide +kernel
theorem qm_M_work_63 : decode qm_M_work_c 63 = .ok (.getfield 13, 3) := by decide +kernel
theorem qm_M_work_66 : decode qm_M_work_c 66 = .ok (.bipush 15, 2) := by decide +kernel
theorem qm_M_work_68 : decode qm_M_work_c 68 = .ok (.aload_n 0, 1) := by decide +kernel
theorem qm_M_work_69 : decode qm_M_work_c 69 = .ok (.invokevirtual 128, 3) := by decide +kernel
theorem qm_M_work_72 : decode qm_M_work_c 72 = .ok (.iastore, 1) := by decide +kernel
theorem qm_M_work_73 : decode qm_M_work_c 73 = .ok (.goto 306, 3) := by decide +kernel
theorem qm_M_work_76 : decode qm_M_work_c 76 = .ok (.iload_n 1, 1) := by decide +kernel
theorem qm_M_work_77 : decode qm_M_work_c 77 = .ok (.bipush 10, 2) := by decide +kernel
theorem qm_M_work_79 : decode qm_M_work_c 79 = .ok (.if_icmp .eq 9, 3) := by decide +kernel
theorem qm_M_work_82 : decode qm_M_work_c 82 = .ok (.iload_n 1, 1) := by decide +kernel
theorem qm_M_work_83 : decode qm_M_work_c 83 = .ok (.bipush 11, 2) := by decide +kernel
theorem qm_M_work_85 : decode qm_M_work_c 85 = .ok (.if_icmp .ne 11, 3) := by decide +kernel
theorem qm_M_work_88 : decode qm_M_work_c 88 = .ok (.aload_n 0, 1) := by decide +kernel
theorem qm_M_work_89 : decode qm_M_work_c 89 = .ok (.iload_n 1, 1) := by decide +kernel
theorem qm_M_work_90 : decode qm_M_work_c 90 = .ok (.invokevirtual 142, 3) := by decide +kernel
theorem qm_M_work_93 : decode qm_M_work_c 93 = .ok (.goto 286, 3) := by decide +kernel
theorem qm_M_work_96 : decode qm_M_work_c 96 = .ok (.iload_n 1, 1) := by decide +kernel
theorem qm_M_work_97 : decode qm_M_work_c 97 = .ok (.bipush 11, 2) := by decide +kernel
theorem qm_M_work_99 : decode qm_M_work_c 99 = .ok (.if_icmp .le 9, 3) := by decide +kernel
theorem qm_M_work_102 : decode qm_M_work_c 102 = .ok (.iload_n 1, 1) := by decide +kernel
theorem qm_M_work_103 : decode qm_M_work_c 103 = .ok (.bipush 25, 2) := by decide +kernel
theorem qm_M_work_105 : decode qm_M_work_c 105 = .ok (.if_icmp .lt 15, 3) := by decide +kernel
theorem qm_M_work_108 : decode qm_M_work_c 108 = .ok (.iload_n 1, 1) := by decide +kernel
theorem qm_M_work_109 : decode qm_M_work_c 109 = .ok (.bipush 41, 2) := by decide +kernel
theorem qm_M_work_111 : decode qm_M_work_c 111 = .ok (.if_icmp .le 17, 3) := by decide +kernel
theorem qm_M_work_114 : decode qm_M_work_c 114 = .ok (.iload_n 1, 1) := by decide +kernel
theorem qm_M_work_115 : decode qm_M_work_c 115 = .ok (.bipush 46, 2) := by decide +kernel
theorem qm_M_work_117 : decode qm_M_work_c 117 = .ok (.if_icmp .ge 11, 3) := by decide +kernel
theorem qm_M_work_120 : decode qm_M_work_c 120 = .ok (.aload_n 0, 1) := by decide +kernel
theorem qm_M_work_121 : decode qm_M_work_c 121 = .ok (.iload_n 1, 1) := by decide +kernel
theorem qm_M_work_122 : decode qm_M_work_c 122 = .ok (.invokevirtual 145, 3) := by decide +kernel
theorem qm_M_work_125 : decode qm_M_work_c 125 = .ok (.goto 254, 3) := by decide +kernel
theorem qm_M_work_128 : decode qm_M_work_c 128 = .ok (.iload_n 1, 1) := by decide +kernel
theorem qm_M_work_129 : decode qm_M_work_c 129 = .ok (.bipush 25, 2) := by decide +kernel
theorem qm_M_work_131 : decode qm_M_work_c 131 = .ok (.if_icmp .eq 9, 3) := by decide +kernel
theorem qm_M_work_134 : decode qm_M_work_c 134 = .ok (.iload_n 1, 1) := by decide +kernel
theorem qm_M_work_135 : decode qm_M_work_c 135 = .ok (.bipush 26, 2) := by decide +kernel
theorem qm_M_work_137 : decode qm_M_work_c 137 = .ok (.if_icmp .ne 22, 3) := by decide +kernel
theorem qm_M_work_140 : decode qm_M_work_c 140 = .ok (.aload_n 0, 1) := by decide +kernel
theorem qm_M_work_141 : decode qm_M_work_c 141 = .ok (.iload_n 1, 1) := by decide +kernel
theorem qm_M_work_142 : decode qm_M_work_c 142 = .ok (.bipush 25, 2) := by decide +kernel
theorem qm_M_work_144 : decode qm_M_work_c 144 = .ok (.isub, 1) := by decide +kernel
theorem qm_M_work_145 : decode qm_M_work_c 145 = .ok (.iconst 1, 1) := by decide +kernel
theorem qm_M_work_146 : decode qm_M_work_c 146 = .ok (.aload_n 0, 1) := by decide +kernel
theorem qm_M_work_147 : decode qm_M_work_c 147 = .ok (.getfield 25, 3) := by decide +kernel
theorem qm_M_work_150 : decode qm_M_work_c 150 = .ok (.iconst 0, 1) := by decide +kernel
theorem qm_M_work_151 : decode qm_M_work_c 151 = .ok (.iaload, 1) := by decide +kernel
theorem qm_M_work_152 : decode qm_M_work_c 152 = .ok (.iconst 0, 1) := by decide +kernel
theorem qm_M_work_153 : decode qm_M_work_c 153 = .ok (.invokevirtual 148, 3) := by decide +kernel
theorem qm_M_work_156 : decode qm_M_work_c 156 = .ok (.goto 223, 3) := by decide +kernel
theorem qm_M_work_159 : decode qm_M_work_c 159 = .ok (.iload_n 1, 1) := by decide +kernel
theorem qm_M_work_160 : decode qm_M_work_c 160 = .ok (.bipush 26, 2) := by decide +kernel
theorem qm_M_work_162 : decode qm_M_work_c 162 = .ok (.if_icmp .le 46, 3) := by decide +kernel
theorem qm_M_work_165 : decode qm_M_work_c 165 = .ok (.iload_n 1, 1) := by decide +kernel
theorem qm_M_work_166 : decode qm_M_work_c 166 = .ok (.bipush 41, 2) := by decide +kernel
theorem qm_M_work_168 : decode qm_M_work_c 168 = .ok (.if_icmp .ge 40, 3) := by decide +kernel
theorem qm_M_work_171 : decode qm_M_work_c 171 = .ok (.aload_n 0, 1) := by decide +kernel
theorem qm_M_work_172 : decode qm_M_work_c 172 = .ok (.iload_n 1, 1) := by decide +kernel
theorem qm_M_work_173 : decode qm_M_work_c 173 = .ok (.bipush 27, 2) := by decide +kernel
theorem qm_M_work_175 : decode qm_M_work_c 175 = .ok (.isub, 1) := by decide +kernel
theorem qm_M_work_176 : decode qm_M_work_c 176 = .ok (.bipush 7, 2) := by decide +kernel
theorem qm_M_work_178 : decode qm_M_work_c 178 = .ok (.irem, 1) := by decide +kernel
theorem qm_M_work_179 : decode qm_M_work_c 179 = .ok (.aload_n 0, 1) := by decide +kernel
theorem qm_M_work_180 : decode qm_M_work_c 180 = .ok (.getfield 25, 3) := by decide +kernel
theorem qm_M_work_183 : decode qm_M_work_c 183 = .ok (.iconst 0, 1) := by decide +kernel
theorem qm_M_work_184 : decode qm_M_work_c 184 = .ok (.iaload, 1) := by decide +kernel
theorem qm_M_work_185 : decode qm_M_work_c 185 = .ok (.aload_n 0, 1) := by decide +kernel
theorem qm_M_work_186 : decode qm_M_work_c 186 = .ok (.getfield 25, 3) := by decide +kernel
theorem qm_M_work_189 : decode qm_M_work_c 189 = .ok (.iconst 1, 1) := by decide +kernel
theorem qm_M_work_190 : decode qm_M_work_c 190 = .ok (.iaload, 1) := by decide +kernel
theorem qm_M_work_191 : decode qm_M_work_c 191 = .ok (.iload_n 1, 1) := by decide +kernel
theorem qm_M_work_192 : decode qm_M_work_c 192 = .ok (.bipush 34, 2) := by decide +kernel
theorem qm_M_work_194 : decode qm_M_work_c 194 = .ok (.if_icmp .ge 7, 3) := by decide +kernel
theorem qm_M_work_197 : decode qm_M_work_c 197 = .ok (.iconst 1, 1) := by decide +kernel
theorem qm_M_work_198 : decode qm_M_work_c 198 = .ok (.goto 4, 3) := by decide +kernel
theorem qm_M_work_201 : decode qm_M_work_c 201 = .ok (.iconst 2, 1) := by decide +kernel
theorem qm_M_work_202 : decode qm_M_work_c 202 = .ok (.invokevirtual 148, 3) := by decide +kernel
theorem qm_M_work_205 : decode qm_M_work_c 205 = .ok (.goto 174, 3) := by decide +kernel
theorem qm_M_work_208 : decode qm_M_work_c 208 = .ok (.iload_n 1, 1) := by decide +kernel
theorem qm_M_work_209 : decode qm_M_work_c 209 = .ok (.bipush 41, 2) := by decide +kernel
theorem qm_M_work_211 : decode qm_M_work_c 211 = .ok (.if_icmp .ne 25, 3) := by decide +kernel
theorem qm_M_work_214 : decode qm_M_work_c 214 = .ok (.aload_n 0, 1) := by decide +kernel
theorem qm_M_work_215 : decode qm_M_work_c 215 = .ok (.aload_n 0, 1) := by decide +kernel
theorem qm_M_work_216 : decode qm_M_work_c 216 = .ok (.getfield 25, 3) := by decide +kernel
theorem qm_M_work_219 : decode qm_M_work_c 219 = .ok (.iconst 0, 1) := by decide +kernel
theorem qm_M_work_220 : decode qm_M_work_c 220 = .ok (.iaload, 1) := by decide +kernel
theorem qm_M_work_221 : decode qm_M_work_c 221 = .ok (.invokestatic 103, 3) := by decide +kernel
theorem qm_M_work_224 : decode qm_M_work_c 224 = .ok (.aload_n 0, 1) := by decide +kernel
theorem qm_M_work_225 : decode qm_M_work_c 225 = .ok (.getfield 25, 3) := by decide +kernel
theorem qm_M_work_228 : decode qm_M_work_c 228 = .ok (.iconst 1, 1) := by decide +kernel
theorem qm_M_work_229 : decode qm_M_work_c 229 = .ok (.iaload, 1) := by decide +kernel
theorem qm_M_work_230 : decode qm_M_work_c 230 = .ok (.invokevirtual 152, 3) := by decide +kernel
theorem qm_M_work_233 : decode qm_M_work_c 233 = .ok (.goto 146, 3) := by decide +kernel
theorem qm_M_work_236 : decode qm_M_work_c 236 = .ok (.iload_n 1, 1) := by decide +kernel
theorem qm_M_work_237 : decode qm_M_work_c 237 = .ok (.bipush 45, 2) := by decide +kernel
theorem qm_M_work_239 : decode qm_M_work_c 239 = .ok (.if_icmp .le 17, 3) := by decide +kernel
theorem qm_M_work_242 : decode qm_M_work_c 242 = .ok (.iload_n 1, 1) := by decide +kernel
theorem qm_M_work_243 : decode qm_M_work_c 243 = .ok (.bipush 50, 2) := by decide +kernel
theorem qm_M_work_245 : decode qm_M_work_c 245 = .ok (.if_icmp .ge 11, 3) := by decide +kernel
theorem qm_M_work_248 : decode qm_M_work_c 248 = .ok (.aload_n 0, 1) := by decide +kernel
theorem qm_M_work_249 : decode qm_M_work_c 249 = .ok (.iload_n 1, 1) := by decide +kernel
theorem qm_M_work_250 : decode qm_M_work_c 250 = .ok (.invokevirtual 155, 3) := by decide +kernel
theorem qm_M_work_253 : decode qm_M_work_c 253 = .ok (.goto 126, 3) := by decide +kernel
theorem qm_M_work_256 : decode qm_M_work_c 256 = .ok (.iload_n 1, 1) := by decide +kernel
theorem qm_M_work_257 : decode qm_M_work_c 257 = .ok (.bipush 49, 2) := by decide +kernel
theorem qm_M_work_259 : decode qm_M_work_c 259 = .ok (.if_icmp .le 66, 3) := by decide +kernel
theorem qm_M_work_262 : decode qm_M_work_c 262 = .ok (.iload_n 1, 1) := by decide +kernel
theorem qm_M_work_263 : decode qm_M_work_c 263 = .ok (.bipush 64, 2) := by decide +kernel
theorem qm_M_work_265 : decode qm_M_work_c 265 = .ok (.if_icmp .ge 60, 3) := by decide +kernel
theorem qm_M_work_268 : decode qm_M_work_c 268 = .ok (.aload_n 0, 1) := by decide +kernel
theorem qm_M_work_269 : decode qm_M_work_c 269 = .ok (.getfield 13, 3) := by decide +kernel
theorem qm_M_work_272 : decode qm_M_work_c 272 = .ok (.bipush 15, 2) := by decide +kernel
theorem qm_M_work_274 : decode qm_M_work_c 274 = .ok (.dup2, 1) := by decide +kernel
theorem qm_M_work_275 : decode qm_M_work_c 275 = .ok (.iaload, 1) := by decide +kernel
theorem qm_M_work_276 : decode qm_M_work_c 276 = .ok (.iload_n 1, 1) := by decide +kernel
theorem qm_M_work_277 : decode qm_M_work_c 277 = .ok (.bipush 62, 2) := by decide +kernel
theorem qm_M_work_279 : decode qm_M_work_c 279 = .ok (.if_icmp .ge 14, 3) := by decide +kernel
theorem qm_M_work_282 : decode qm_M_work_c 282 = .ok (.aload_n 0, 1) := by decide +kernel
theorem qm_M_work_283 : decode qm_M_work_c 283 = .ok (.iload_n 1, 1) := by decide +kernel
theorem qm_M_work_284 : decode qm_M_work_c 284 = .ok (.invokevirtual 158, 3) := by decide +kernel
theorem qm_M_work_287 : decode qm_M_work_c 287 = .ok (.ifCond .eq 32, 3) := by decide +kernel
theorem qm_M_work_290 : decode qm_M_work_c 290 = .ok (.goto 25, 3) := by decide +kernel
theorem qm_M_work_293 : decode qm_M_work_c 293 = .ok (.aload_n 0, 1) := by decide +kernel
theorem qm_M_work_294 : decode qm_M_work_c 294 = .ok (.getfield 25, 3) := by decide +kernel
theorem qm_M_work_297 : decode qm_M_work_c 297 = .ok (.iconst 0, 1) := by decide +kernel
theorem qm_M_work_298 : decode qm_M_work_c 298 = .ok (.iaload, 1) := by decide +kernel
theorem qm_M_work_299 : decode qm_M_work_c 299 = .ok (.iconst 1, 1) := by decide +kernel
theorem qm_M_work_300 : decode qm_M_work_c 300 = .ok (.iand, 1) := by decide +kernel
theorem qm_M_work_301 : decode qm_M_work_c 301 = .ok (.iload_n 1, 1) := by decide +kernel
theorem qm_M_work_302 : decode qm_M_work_c 302 = .ok (.bipush 62, 2) := by decide +kernel
theorem qm_M_work_304 : decode qm_M_work_c 304 = .ok (.if_icmp .ne 7, 3) := by decide +kernel
theorem qm_M_work_307 : decode qm_M_work_c 307 = .ok (.iconst 1, 1) := by decide +kernel
theorem qm_M_work_308 : decode qm_M_work_c 308 = .ok (.goto 4, 3) := by decide +kernel
theorem qm_M_work_311 : decode qm_M_work_c 311 = .ok (.iconst 0, 1) := by decide +kernel
theorem qm_M_work_312 : decode qm_M_work_c 312 = .ok (.if_icmp .ne 7, 3) := by decide +kernel
theorem qm_M_work_315 : decode qm_M_work_c 315 = .ok (.iload_n 2, 1) := by decide +kernel
theorem qm_M_work_316 : decode qm_M_work_c 316 = .ok (.goto 4, 3) := by decide +kernel
theorem qm_M_work_319 : decode qm_M_work_c 319 = .ok (.iconst 0, 1) := by decide +kernel
theorem qm_M_work_320 : decode qm_M_work_c 320 = .ok (.iadd, 1) := by decide +kernel
theorem qm_M_work_321 : decode qm_M_work_c 321 = .ok (.iastore, 1) := by decide +kernel
theorem qm_M_work_322 : decode qm_M_work_c 322 = .ok (.goto 57, 3) := by decide +kernel
theorem qm_M_work_325 : decode qm_M_work_c 325 = .ok (.iload_n 1, 1) := by decide +kernel
theorem qm_M_work_326 : decode qm_M_work_c 326 = .ok (.bipush 63, 2) := by decide +kernel
theorem qm_M_work_328 : decode qm_M_work_c 328 = .ok (.if_icmp .le 17, 3) := by decide +kernel
theorem qm_M_work_331 : decode qm_M_work_c 331 = .ok (.iload_n 1, 1) := by decide +kernel
theorem qm_M_work_332 : decode qm_M_work_c 332 = .ok (.bipush 68, 2) := by decide +kernel
theorem qm_M_work_334 : decode qm_M_work_c 334 = .ok (.if_icmp .ge 11, 3) := by decide +kernel
theorem qm_M_work_337 : decode qm_M_work_c 337 = .ok (.aload_n 0, 1) := by decide +kernel
theorem qm_M_work_338 : decode qm_M_work_c 338 = .ok (.iload_n 1, 1) := by decide +kernel
theorem qm_M_work_339 : decode qm_M_work_c 339 = .ok (.invokevirtual 161, 3) := by decide +kernel
theorem qm_M_work_342 : decode qm_M_work_c 342 = .ok (.goto 37, 3) := by decide +kernel
theorem qm_M_work_345 : decode qm_M_work_c 345 = .ok (.iload_n 1, 1) := by decide +kernel
theorem qm_M_work_346 : decode qm_M_work_c 346 = .ok (.bipush 68, 2) := by decide +kernel
theorem qm_M_work_348 : decode qm_M_work_c 348 = .ok (.if_icmp .ne 10, 3) := by decide +kernel
theorem qm_M_work_351 : decode qm_M_work_c 351 = .ok (.aload_n 0, 1) := by decide +kernel
theorem qm_M_work_352 : decode qm_M_work_c 352 = .ok (.invokevirtual 164, 3) := by decide +kernel
theorem qm_M_work_355 : decode qm_M_work_c 355 = .ok (.goto 24, 3) := by decide +kernel
theorem qm_M_work_358 : decode qm_M_work_c 358 = .ok (.iload_n 1, 1) := by decide +kernel
theorem qm_M_work_359 : decode qm_M_work_c 359 = .ok (.bipush 68, 2) := by decide +kernel
theorem qm_M_work_361 : decode qm_M_work_c 361 = .ok (.if_icmp .le 18, 3) := by decide +kernel
theorem qm_M_work_364 : decode qm_M_work_c 364 = .ok (.aload_n 0, 1) := by decide +kernel
theorem qm_M_work_365 : decode qm_M_work_c 365 = .ok (.iload_n 1, 1) := by decide +kernel
theorem qm_M_work_366 : decode qm_M_work_c 366 = .ok (.bipush 70, 2) := by decide +kernel
theorem qm_M_work_368 : decode qm_M_work_c 368 = .ok (.if_icmp .ne 7, 3) := by decide +kernel
theorem qm_M_work_371 : decode qm_M_work_c 371 = .ok (.iconst 1, 1) := by decide +kernel
theorem qm_M_work_372 : decode qm_M_work_c 372 = .ok (.goto 4, 3) := by decide +kernel
theorem qm_M_work_375 : decode qm_M_work_c 375 = .ok (.iconst 0, 1) := by decide +kernel
theorem qm_M_work_376 : decode qm_M_work_c 376 = .ok (.invokevirtual 167, 3) := by decide +kernel
theorem qm_M_work_379 : decode qm_M_work_c 379 = .ok (.return_, 1) := by decide +kernel
theorem qm_M_bringBack_0 : decode qm_M_bringBack_c 0 = .ok (.iconst 0, 1) := by decide +kernel
theorem qm_M_bringBack_1 : decode qm_M_bringBack_c 1 = .ok (.istore_n 1, 1) := by decide +kernel
theorem qm_M_bringBack_2 : decode qm_M_bringBack_c 2 = .ok (.iload_n 1, 1) := by decide +kernel
theorem qm_M_bringBack_3 : decode qm_M_bringBack_c 3 = .ok (.bipush 16, 2) := by decide +kernel
theorem qm_M_bringBack_5 : decode qm_M_bringBack_c 5 = .ok (.if_icmp .ge 21, 3) := by decide +kernel
theorem qm_M_bringBack_8 : decode qm_M_bringBack_c 8 = .ok (.aload_n 0, 1) := by decide +kernel
theorem qm_M_bringBack_9 : decode qm_M_bringBack_c 9 = .ok (.getfield 13, 3) := by decide +kernel
theorem qm_M_bringBack_12 : decode qm_M_bringBack_c 12 = .ok (.iload_n 1, 1) := by decide +kernel
theorem qm_M_bringBack_13 : decode qm_M_bringBack_c 13 = .ok (.aload_n 0, 1) := by decide +kernel
theorem qm_M_bringBack_14 : decode qm_M_bringBack_c 14 = .ok (.getfield 19, 3) := by decide +kernel
theorem qm_M_bringBack_17 : decode qm_M_bringBack_c 17 = .ok (.iload_n 1, 1) := by decide +kernel
theorem qm_M_bringBack_18 : decode qm_M_bringBack_c 18 = .ok (.iaload, 1) := by decide +kernel
theorem qm_M_bringBack_19 : decode qm_M_bringBack_c 19 = .ok (.iastore, 1) := by decide +kernel
theorem qm_M_bringBack_20 : decode qm_M_bringBack_c 20 = .ok (.iinc 1 1, 3) := by decide +kernel
theorem qm_M_bringBack_23 : decode qm_M_bringBack_c 23 = .ok (.goto (-21), 3) := by decide +kernel
theorem qm_M_bringBack_26 : decode qm_M_bringBack_c 26 = .ok (.iconst 0, 1) := by decide +kernel
theorem qm_M_bringBack_27 : decode qm_M_bringBack_c 27 = .ok (.istore_n 1, 1) := by decide +kernel
theorem qm_M_bringBack_28 : decode qm_M_bringBack_c 28 = .ok (.iload_n 1, 1) := by decide +kernel
theorem qm_M_bringBack_29 : decode qm_M_bringBack_c 29 = .ok (.iconst 4, 1) := by decide +kernel
theorem qm_M_bringBack_30 : decode qm_M_bringBack_c 30 = .ok (.if_icmp .ge 21, 3) := by decide +kernel
theorem qm_M_bringBack_33 : decode qm_M_bringBack_c 33 = .ok (.aload_n 0, 1) := by decide +kernel
theorem qm_M_bringBack_34 : decode qm_M_bringBack_c 34 = .ok (.getfield 16, 3) := by decide +kernel
theorem qm_M_bringBack_37 : decode qm_M_bringBack_c 37 = .ok (.iload_n 1, 1) := by decide +kernel
theorem qm_M_bringBack_38 : decode qm_M_bringBack_c 38 = .ok (.aload_n 0, 1) := by decide +kernel
theorem qm_M_bringBack_39 : decode qm_M_bringBack_c 39 = .ok (.getfield 22, 3) := by decide +kernel
theorem qm_M_bringBack_42 : decode qm_M_bringBack_c 42 = .ok (.iload_n 1, 1) := by decide +kernel
theorem qm_M_bringBack_43 : decode qm_M_bringBack_c 43 = .ok (.iaload, 1) := by decide +kernel
theorem qm_M_bringBack_44 : decode qm_M_bringBack_c 44 = .ok (.iastore, 1) := by decide +kernel
theorem qm_M_bringBack_45 : decode qm_M_bringBack_c 45 = .ok (.iinc 1 1, 3) := by decide +kernel
theorem qm_M_bringBack_48 : decode qm_M_bringBack_c 48 = .ok (.goto (-20), 3) := by decide +kernel
theorem qm_M_bringBack_51 : decode qm_M_bringBack_c 51 = .ok (.aload_n 0, 1) := by decide +kernel
theorem qm_M_bringBack_52 : decode qm_M_bringBack_c 52 = .ok (.aload_n 0, 1) := by decide +kernel
theorem qm_M_bringBack_53 : decode qm_M_bringBack_c 53 = .ok (.getfield 97, 3) := by decide +kernel
theorem qm_M_bringBack_56 : decode qm_M_bringBack_c 56 = .ok (.putfield 44, 3) := by decide +kernel
theorem qm_M_bringBack_59 : decode qm_M_bringBack_c 59 = .ok (.return_, 1) := by decide +kernel
theorem qm_M_raise_0 : decode qm_M_raise_c 0 = .ok (.aload_n 0, 1) := by decide +kernel
theorem qm_M_raise_1 : decode qm_M_raise_c 1 = .ok (.getfield 44, 3) := by decide +kernel
theorem qm_M_raise_4 : decode qm_M_raise_c 4 = .ok (.istore 4, 2) := by decide +kernel
theorem qm_M_raise_6 : decode qm_M_raise_c 6 = .ok (.aload_n 0, 1) := by decide +kernel
theorem qm_M_raise_7 : decode qm_M_raise_c 7 = .ok (.getfield 13, 3) := by decide +kernel
theorem qm_M_raise_10 : decode qm_M_raise_c 10 = .ok (.bipush 15, 2) := by decide +kernel
theorem qm_M_raise_12 : decode qm_M_raise_c 12 = .ok (.iaload, 1) := by decide +kernel
theorem qm_M_raise_13 : decode qm_M_raise_c 13 = .ok (.istore 5, 2) := by decide +kernel
theorem qm_M_raise_15 : decode qm_M_raise_c 15 = .ok (.aload_n 0, 1) := by decide +kernel
theorem qm_M_raise_16 : decode qm_M_raise_c 16 = .ok (.getfield 63, 3) := by decide +kernel
theorem qm_M_raise_19 : decode qm_M_raise_c 19 = .ok (.istore 6, 2) := by decide +kernel
theorem qm_M_raise_21 : decode qm_M_raise_c 21 = .ok (.aload_n 0, 1) := by decide +kernel
theorem qm_M_raise_22 : decode qm_M_raise_c 22 = .ok (.getfield 66, 3) := by decide +kernel
theorem qm_M_raise_25 : decode qm_M_raise_c 25 = .ok (.istore 7, 2) := by decide +kernel
theorem qm_M_raise_27 : decode qm_M_raise_c 27 = .ok (.aload_n 0, 1) := by decide +kernel
theorem qm_M_raise_28 : decode qm_M_raise_c 28 = .ok (.iconst 0, 1) := by decide +kernel
theorem qm_M_raise_29 : decode qm_M_raise_c 29 = .ok (.putfield 60, 3) := by decide +kernel
theorem qm_M_raise_32 : decode qm_M_raise_c 32 = .ok (.aload_n 0, 1) := by decide +kernel
theorem qm_M_raise_33 : decode qm_M_raise_c 33 = .ok (.iload_n 2, 1) := by decide +kernel
theorem qm_M_raise_34 : decode qm_M_raise_c 34 = .ok (.bipush 24, 2) := by decide +kernel
theorem qm_M_raise_36 : decode qm_M_raise_c 36 = .ok (.ishl, 1) := by decide +kernel
theorem qm_M_raise_37 : decode qm_M_raise_c 37 = .ok (.iload 4, 2) := by decide +kernel
theorem qm_M_raise_39 : decode qm_M_raise_c 39 = .ok (.bipush 24, 2) := by decide +kernel
theorem qm_M_raise_41 : decode qm_M_raise_c 41 = .ok (.ishr, 1) := by decide +kernel
theorem qm_M_raise_42 : decode qm_M_raise_c 42 = .ok (.iconst 3, 1) := by decide +kernel
theorem qm_M_raise_43 : decode qm_M_raise_c 43 = .ok (.iand, 1) := by decide +kernel
theorem qm_M_raise_44 : decode qm_M_raise_c 44 = .ok (.bipush 22, 2) := by decide +kernel
theorem qm_M_raise_46 : decode qm_M_raise_c 46 = .ok (.ishl, 1) := by decide +kernel
theorem qm_M_raise_47 : decode qm_M_raise_c 47 = .ok (.ior, 1) := by decide +kernel
theorem qm_M_raise_48 : decode qm_M_raise_c 48 = .ok (.putfield 44, 3) := by decide +kernel
theorem qm_M_raise_51 : decode qm_M_raise_c 51 = .ok (.aload_n 0, 1) := by decide +kernel
theorem qm_M_raise_52 : decode qm_M_raise_c 52 = .ok (.iload 4, 2) := by decide +kernel
theorem qm_M_raise_54 : decode qm_M_raise_c 54 = .ok (.invokevirtual 121, 3) := by decide +kernel
theorem qm_M_raise_57 : decode qm_M_raise_c 57 = .ok (.aload_n 0, 1) := by decide +kernel
theorem qm_M_raise_58 : decode qm_M_raise_c 58 = .ok (.iload 5, 2) := by decide +kernel
theorem qm_M_raise_60 : decode qm_M_raise_c 60 = .ok (.invokevirtual 121, 3) := by decide +kernel
theorem qm_M_raise_63 : decode qm_M_raise_c 63 = .ok (.iload_n 1, 1) := by decide +kernel
theorem qm_M_raise_64 : decode qm_M_raise_c 64 = .ok (.iconst 4, 1) := by decide +kernel
theorem qm_M_raise_65 : decode qm_M_raise_c 65 = .ok (.if_icmp .eq 8, 3) := by decide +kernel
theorem qm_M_raise_68 : decode qm_M_raise_c 68 = .ok (.iload_n 1, 1) := by decide +kernel
theorem qm_M_raise_69 : decode qm_M_raise_c 69 = .ok (.iconst 5, 1) := by decide +kernel
theorem qm_M_raise_70 : decode qm_M_raise_c 70 = .ok (.if_icmp .ne 9, 3) := by decide +kernel
theorem qm_M_raise_73 : decode qm_M_raise_c 73 = .ok (.aload_n 0, 1) := by decide +kernel
theorem qm_M_raise_74 : decode qm_M_raise_c 74 = .ok (.iload 6, 2) := by decide +kernel
theorem qm_M_raise_76 : decode qm_M_raise_c 76 = .ok (.invokevirtual 121, 3) := by decide +kernel
theorem qm_M_raise_79 : decode qm_M_raise_c 79 = .ok (.iload_n 1, 1) := by decide +kernel
theorem qm_M_raise_80 : decode qm_M_raise_c 80 = .ok (.iconst 4, 1) := by decide +kernel
theorem qm_M_raise_81 : decode qm_M_raise_c 81 = .ok (.if_icmp .eq 8, 3) := by decide +kernel
theorem qm_M_raise_84 : decode qm_M_raise_c 84 = .ok (.iload_n 1, 1) := by decide +kernel
theorem qm_M_raise_85 : decode qm_M_raise_c 85 = .ok (.iconst 5, 1) := by decide +kernel
theorem qm_M_raise_86 : decode qm_M_raise_c 86 = .ok (.if_icmp .ne 9, 3) := by decide +kernel
theorem qm_M_raise_89 : decode qm_M_raise_c 89 = .ok (.aload_n 0, 1) := by decide +kernel
theorem qm_M_raise_90 : decode qm_M_raise_c 90 = .ok (.iload 7, 2) := by decide +kernel
theorem qm_M_raise_92 : decode qm_M_raise_c 92 = .ok (.invokevirtual 121, 3) := by decide +kernel
theorem qm_M_raise_95 : decode qm_M_raise_c 95 = .ok (.iload_n 1, 1) := by decide +kernel
theorem qm_M_raise_96 : decode qm_M_raise_c 96 = .ok (.bipush 6, 2) := by decide +kernel
theorem qm_M_raise_98 : decode qm_M_raise_c 98 = .ok (.if_icmp .le 8, 3) := by decide +kernel
theorem qm_M_raise_101 : decode qm_M_raise_c 101 = .ok (.aload_n 0, 1) := by decide +kernel
theorem qm_M_raise_102 : decode qm_M_raise_c 102 = .ok (.iload_n 3, 1) := by decide +kernel
theorem qm_M_raise_103 : decode qm_M_raise_c 103 = .ok (.invokevirtual 121, 3) := by decide +kernel
theorem qm_M_raise_106 : decode qm_M_raise_c 106 = .ok (.aload_n 0, 1) := by decide +kernel
theorem qm_M_raise_107 : decode qm_M_raise_c 107 = .ok (.getfield 60, 3) := by decide +kernel
theorem qm_M_raise_110 : decode qm_M_raise_c 110 = .ok (.ifCond .eq 13, 3) := by decide +kernel
theorem qm_M_raise_113 : decode qm_M_raise_c 113 = .ok (.aload_n 0, 1) := by decide +kernel
theorem qm_M_raise_114 : decode qm_M_raise_c 114 = .ok (.invokevirtual 171, 3) := by decide +kernel
theorem qm_M_raise_117 : decode qm_M_raise_c 117 = .ok (.aload_n 0, 1) := by decide +kernel
theorem qm_M_raise_118 : decode qm_M_raise_c 118 = .ok (.iconst 2, 1) := by decide +kernel
theorem qm_M_raise_119 : decode qm_M_raise_c 119 = .ok (.putfield 174, 3) := by decide +kernel
theorem qm_M_raise_122 : decode qm_M_raise_c 122 = .ok (.return_, 1) := by decide +kernel
theorem qm_M_raise_123 : decode qm_M_raise_c 123 = .ok (.aload_n 0, 1) := by decide +kernel
theorem qm_M_raise_124 : decode qm_M_raise_c 124 = .ok (.getfield 13, 3) := by decide +kernel
theorem qm_M_raise_127 : decode qm_M_raise_c 127 = .ok (.bipush 15, 2) := by decide +kernel
theorem qm_M_raise_129 : decode qm_M_raise_c 129 = .ok (.aload_n 0, 1) := by decide +kernel
theorem qm_M_raise_130 : decode qm_M_raise_c 130 = .ok (.aload_n 0, 1) := by decide +kernel
theorem qm_M_raise_131 : decode qm_M_raise_c 131 = .ok (.getfield 16, 3) := by decide +kernel
theorem qm_M_raise_134 : decode qm_M_raise_c 134 = .ok (.bipush 17, 2) := by decide +kernel
theorem qm_M_raise_136 : decode qm_M_raise_c 136 = .ok (.iaload, 1) := by decide +kernel
theorem qm_M_raise_137 : decode qm_M_raise_c 137 = .ok (.iconst 4, 1) := by decide +kernel
theorem qm_M_raise_138 : decode qm_M_raise_c 138 = .ok (.iload_n 1, 1) := by decide +kernel
theorem qm_M_raise_139 : decode qm_M_raise_c 139 = .ok (.imul, 1) := by decide +kernel
theorem qm_M_raise_140 : decode qm_M_raise_c 140 = .ok (.iadd, 1) := by decide +kernel
theorem qm_M_raise_141 : decode qm_M_raise_c 141 = .ok (.invokevirtual 56, 3) := by decide +kernel
theorem qm_M_raise_144 : decode qm_M_raise_c 144 = .ok (.iastore, 1) := by decide +kernel
theorem qm_M_raise_145 : decode qm_M_raise_c 145 = .ok (.aload_n 0, 1) := by decide +kernel
theorem qm_M_raise_146 : decode qm_M_raise_c 146 = .ok (.iload_n 1, 1) := by decide +kernel
theorem qm_M_raise_147 : decode qm_M_raise_c 147 = .ok (.putfield 177, 3) := by decide +kernel
theorem qm_M_raise_150 : decode qm_M_raise_c 150 = .ok (.aload_n 0, 1) := by decide +kernel
theorem qm_M_raise_151 : decode qm_M_raise_c 151 = .ok (.dup, 1) := by decide +kernel
theorem qm_M_raise_152 : decode qm_M_raise_c 152 = .ok (.getfield 180, 3) := by decide +kernel
theorem qm_M_raise_155 : decode qm_M_raise_c 155 = .ok (.iconst 1, 1) := by decide +kernel
theorem qm_M_raise_156 : decode qm_M_raise_c 156 = .ok (.iadd, 1) := by decide +kernel
theorem qm_M_raise_157 : decode qm_M_raise_c 157 = .ok (.putfield 180, 3) := by decide +kernel
theorem qm_M_raise_160 : decode qm_M_raise_c 160 = .ok (.return_, 1) := by decide +kernel
set_option maxHeartbeats 4000000 in
set_option maxRecDepth 100000 in
theorem wM_work_379 {l : Launch} {D : va_G} {h : Nat → Nat} {K : Nat → ClassId} {res : qS} {p : Program} {e : Env} {s : State} {m : MethodId} {args : Array Value} {below : List Frame} {meth : Method} {c : Code} {A : Nat → Prop} {ad : Nat → Nat} (C : qC p s m args meth c qm_M_work_c 3 none qR_M ad) (S : qS) (hf : fM_work_379 S = some res) : ∀ (H : Heap) (locs : List Loc) (ls : Array Slot), qG D qCl (mT K) A s (mW h K S) H locs → lv_has ls 3 [] → W p l e ({ frames := 6, cells := 0, slots := 0, locals := 143 }) s m args below meth c H locs 0 0 (MQ below (qQv D qCl (mT K) (mW h K) A res) args s 0 0 A) (F0 m 379 ls []) := by
  intro H locs ls G hl
  unfold fM_work_379 at hf
  exact q_vret (wf := (mW h K)) C G hf qm_M_work_379
set_option maxHeartbeats 4000000 in
set_option maxRecDepth 100000 in
theorem wM_work_88 {l : Launch} {D : va_G} {h : Nat → Nat} {K : Nat → ClassId} {res : qS} {p : Program} {e : Env} {s : State} {m : MethodId} {args : Array Value} {below : List Frame} {meth : Method} {c : Code} {A : Nat → Prop} {ad : Nat → Nat} (C : qC p s m args meth c qm_M_work_c 3 none qR_M ad) (S : qS) (x1 : Int32) (hf : fM_work_88 S x1 = some res) : ∀ (H : Heap) (locs : List Loc) (ls : Array Slot), qG D qCl (mT K) A s (mW h K S) H locs → lv_has ls 3 [(0, .ref (h 0)), (1, .int x1)] → W p l e ({ frames := 6, cells := 0, slots := 0, locals := 143 }) s m args below meth c H locs 0 0 (MQ below (qQv D qCl (mT K) (mW h K) A res) args s 0 0 A) (F0 m 88 ls []) := by
  intro H locs ls G hl
  unfold fM_work_88 at hf
  refine lv_aload_n C.1 C.2.1 qm_M_work_88 rfl (lv_at hl 0 rfl) ?_
  refine lv_iload_n C.1 C.2.1 qm_M_work_89 rfl (lv_at hl 1 rfl) ?_
  obtain ⟨S1, c1, hf⟩ := bnd_s hf
  refine q_callVv (wf := (mW h K)) (n := 1) (As := [.int x1]) (q0 := 0) (ci := 7) C G hl.1 (kM_innerOnes (l := l) c1) qx_M_142 qm_M_innerOnes_d ⟨by decide, by decide⟩ ⟨Nat.le_refl _, Nat.le_refl _⟩ rfl rfl rfl rfl rfl (Nat.le_of_ble_eq_true rfl) qm_M_work_90 (fun H locs G => ?_)
  refine lv_goto (tgt := 379) C.1 C.2.1 qm_M_work_93 (by decide) ?_
  exact wM_work_379 C S1 hf _ _ _ G (lv_sub hl [] rfl)
set_option maxHeartbeats 4000000 in
set_option maxRecDepth 100000 in
theorem wM_work_140 {l : Launch} {D : va_G} {h : Nat → Nat} {K : Nat → ClassId} {res : qS} {p : Program} {e : Env} {s : State} {m : MethodId} {args : Array Value} {below : List Frame} {meth : Method} {c : Code} {A : Nat → Prop} {ad : Nat → Nat} (C : qC p s m args meth c qm_M_work_c 3 none qR_M ad) (S : qS) (x1 : Int32) (hf : fM_work_140 S x1 = some res) : ∀ (H : Heap) (locs : List Loc) (ls : Array Slot), qG D qCl (mT K) A s (mW h K S) H locs → lv_has ls 3 [(0, .ref (h 0)), (1, .int x1)] → W p l e ({ frames := 6, cells := 0, slots := 0, locals := 143 }) s m args below meth c H locs 0 0 (MQ below (qQv D qCl (mT K) (mW h K) A res) args s 0 0 A) (F0 m 140 ls []) := by
  intro H locs ls G hl
  unfold fM_work_140 at hf
  refine lv_aload_n C.1 C.2.1 qm_M_work_140 rfl (lv_at hl 0 rfl) ?_
  refine lv_iload_n C.1 C.2.1 qm_M_work_141 rfl (lv_at hl 1 rfl) ?_
  refine lv_bipush (v := 25) C.1 C.2.1 qm_M_work_142 (by decide) ?_
  refine lv_isub C.1 C.2.1 qm_M_work_144 ?_
  refine lv_iconst (v := 1) C.1 C.2.1 qm_M_work_145 (by decide) ?_
  refine lv_aload_n C.1 C.2.1 qm_M_work_146 rfl (lv_at hl 0 rfl) ?_
  refine q_get (wf := (mW h K)) (v := .ref (h 6)) C G qi_M 0 rfl rfl 16 (by decide) qz_847 rfl qm_M_work_147 ?_
  refine lv_iconst (v := 0) C.1 C.2.1 qm_M_work_150 (by decide) ?_
  refine q_iald (wf := (mW h K)) C G 6 5 rfl rfl (by decide) qm_M_work_151 ?_
  refine lv_iconst (v := 0) C.1 C.2.1 qm_M_work_152 (by decide) ?_
  obtain ⟨S1, c1, hf⟩ := bnd_s hf
  refine q_callVv (wf := (mW h K)) (n := 4) (As := [.int (x1 - 25), .int 1, .int (gA S 5 0), .int 0]) (q0 := 0) (ci := 7) C G hl.1 (kM_reckon (l := l) c1) qx_M_148 qm_M_reckon_d ⟨by decide, by decide⟩ ⟨Nat.le_refl _, Nat.le_refl _⟩ rfl rfl rfl rfl rfl (Nat.le_of_ble_eq_true rfl) qm_M_work_153 (fun H locs G => ?_)
  refine lv_goto (tgt := 379) C.1 C.2.1 qm_M_work_156 (by decide) ?_
  exact wM_work_379 C S1 hf _ _ _ G (lv_sub hl [] rfl)
set_option maxHeartbeats 4000000 in
set_option maxRecDepth 100000 in
theorem wM_work_376 {l : Launch} {D : va_G} {h : Nat → Nat} {K : Nat → ClassId} {res : qS} {p : Program} {e : Env} {s : State} {m : MethodId} {args : Array Value} {below : List Frame} {meth : Method} {c : Code} {A : Nat → Prop} {ad : Nat → Nat} (C : qC p s m args meth c qm_M_work_c 3 none qR_M ad) (S : qS) (y1 : Int32) (hf : fM_work_376 S y1 = some res) : ∀ (H : Heap) (locs : List Loc) (ls : Array Slot), qG D qCl (mT K) A s (mW h K S) H locs → lv_has ls 3 [] → W p l e ({ frames := 6, cells := 0, slots := 0, locals := 143 }) s m args below meth c H locs 0 0 (MQ below (qQv D qCl (mT K) (mW h K) A res) args s 0 0 A) (F0 m 376 ls [.int y1, .ref (h 0)]) := by
  intro H locs ls G hl
  unfold fM_work_376 at hf
  obtain ⟨S1, c1, hf⟩ := bnd_s hf
  refine q_callVv (wf := (mW h K)) (n := 1) (As := [.int y1]) (q0 := 0) (ci := 7) C G hl.1 (kM_probe (l := l) c1) qx_M_167 qm_M_probe_d ⟨by decide, by decide⟩ ⟨Nat.le_refl _, Nat.le_refl _⟩ rfl rfl rfl rfl rfl (Nat.le_of_ble_eq_true rfl) qm_M_work_376 (fun H locs G => ?_)
  exact wM_work_379 C S1 hf _ _ _ G (lv_sub hl [] rfl)
set_option maxHeartbeats 4000000 in
set_option maxRecDepth 100000 in
theorem wM_work_345 {l : Launch} {D : va_G} {h : Nat → Nat} {K : Nat → ClassId} {res : qS} {p : Program} {e : Env} {s : State} {m : MethodId} {args : Array Value} {below : List Frame} {meth : Method} {c : Code} {A : Nat → Prop} {ad : Nat → Nat} (C : qC p s m args meth c qm_M_work_c 3 none qR_M ad) (S : qS) (x1 : Int32) (hf : fM_work_345 S x1 = some res) : ∀ (H : Heap) (locs : List Loc) (ls : Array Slot), qG D qCl (mT K) A s (mW h K S) H locs → lv_has ls 3 [(0, .ref (h 0)), (1, .int x1)] → W p l e ({ frames := 6, cells := 0, slots := 0, locals := 143 }) s m args below meth c H locs 0 0 (MQ below (qQv D qCl (mT K) (mW h K) A res) args s 0 0 A) (F0 m 345 ls []) := by
  intro H locs ls G hl
  unfold fM_work_345 at hf
  refine lv_iload_n C.1 C.2.1 qm_M_work_345 rfl (lv_at hl 1 rfl) ?_
  refine lv_bipush (v := 68) C.1 C.2.1 qm_M_work_346 (by decide) ?_
  refine lv_icmp_ne (tgt := 358) C.1 C.2.1 qm_M_work_348 (by decide) (fun b1 => ?_) (fun b1 => ?_)
  · have hf := if_t b1 hf
    refine lv_iload_n C.1 C.2.1 qm_M_work_358 rfl (lv_at hl 1 rfl) ?_
    refine lv_bipush (v := 68) C.1 C.2.1 qm_M_work_359 (by decide) ?_
    refine lv_icmp_le (tgt := 379) C.1 C.2.1 qm_M_work_361 (by decide) (fun b2 => ?_) (fun b2 => ?_)
    · have hf := if_t b2 hf
      exact wM_work_379 C S hf _ _ _ G (lv_sub hl [] rfl)
    · have hf := if_f b2 hf
      refine lv_aload_n C.1 C.2.1 qm_M_work_364 rfl (lv_at hl 0 rfl) ?_
      refine lv_iload_n C.1 C.2.1 qm_M_work_365 rfl (lv_at hl 1 rfl) ?_
      refine lv_bipush (v := 70) C.1 C.2.1 qm_M_work_366 (by decide) ?_
      refine lv_icmp_ne (tgt := 375) C.1 C.2.1 qm_M_work_368 (by decide) (fun b3 => ?_) (fun b3 => ?_)
      · have hf := if_t b3 hf
        refine lv_iconst (v := 0) C.1 C.2.1 qm_M_work_375 (by decide) ?_
        exact wM_work_376 C S 0 hf _ _ _ G (lv_sub hl [] rfl)
      · have hf := if_f (not_not_intro b3) hf
        refine lv_iconst (v := 1) C.1 C.2.1 qm_M_work_371 (by decide) ?_
        refine lv_goto (tgt := 376) C.1 C.2.1 qm_M_work_372 (by decide) ?_
        exact wM_work_376 C S 1 hf _ _ _ G (lv_sub hl [] rfl)
  · have hf := if_f (not_not_intro b1) hf
    refine lv_aload_n C.1 C.2.1 qm_M_work_351 rfl (lv_at hl 0 rfl) ?_
    obtain ⟨S4, c4, hf⟩ := bnd_s hf
    refine q_callVv (wf := (mW h K)) (n := 0) (As := []) (q0 := 0) (ci := 7) C G hl.1 (kM_callFrame (l := l) c4) qx_M_164 qm_M_callFrame_d ⟨by decide, by decide⟩ ⟨Nat.le_refl _, Nat.le_refl _⟩ rfl rfl rfl rfl rfl (Nat.le_of_ble_eq_true rfl) qm_M_work_352 (fun H locs G => ?_)
    refine lv_goto (tgt := 379) C.1 C.2.1 qm_M_work_355 (by decide) ?_
    exact wM_work_379 C S4 hf _ _ _ G (lv_sub hl [] rfl)
set_option maxHeartbeats 4000000 in
set_option maxRecDepth 100000 in
theorem wM_work_325 {l : Launch} {D : va_G} {h : Nat → Nat} {K : Nat → ClassId} {res : qS} {p : Program} {e : Env} {s : State} {m : MethodId} {args : Array Value} {below : List Frame} {meth : Method} {c : Code} {A : Nat → Prop} {ad : Nat → Nat} (C : qC p s m args meth c qm_M_work_c 3 none qR_M ad) (S : qS) (x1 : Int32) (hf : fM_work_325 S x1 = some res) : ∀ (H : Heap) (locs : List Loc) (ls : Array Slot), qG D qCl (mT K) A s (mW h K S) H locs → lv_has ls 3 [(0, .ref (h 0)), (1, .int x1)] → W p l e ({ frames := 6, cells := 0, slots := 0, locals := 143 }) s m args below meth c H locs 0 0 (MQ below (qQv D qCl (mT K) (mW h K) A res) args s 0 0 A) (F0 m 325 ls []) := by
  intro H locs ls G hl
  unfold fM_work_325 at hf
  refine lv_iload_n C.1 C.2.1 qm_M_work_325 rfl (lv_at hl 1 rfl) ?_
  refine lv_bipush (v := 63) C.1 C.2.1 qm_M_work_326 (by decide) ?_
  refine lv_icmp_le (tgt := 345) C.1 C.2.1 qm_M_work_328 (by decide) (fun b1 => ?_) (fun b1 => ?_)
  · have hf := if_t b1 hf
    exact wM_work_345 C S x1 hf _ _ _ G (lv_sub hl [0, 1] rfl)
  · have hf := if_f b1 hf
    refine lv_iload_n C.1 C.2.1 qm_M_work_331 rfl (lv_at hl 1 rfl) ?_
    refine lv_bipush (v := 68) C.1 C.2.1 qm_M_work_332 (by decide) ?_
    refine lv_icmp_ge (tgt := 345) C.1 C.2.1 qm_M_work_334 (by decide) (fun b2 => ?_) (fun b2 => ?_)
    · have hf := if_t b2 hf
      exact wM_work_345 C S x1 hf _ _ _ G (lv_sub hl [0, 1] rfl)
    · have hf := if_f b2 hf
      refine lv_aload_n C.1 C.2.1 qm_M_work_337 rfl (lv_at hl 0 rfl) ?_
      refine lv_iload_n C.1 C.2.1 qm_M_work_338 rfl (lv_at hl 1 rfl) ?_
      obtain ⟨S3, c3, hf⟩ := bnd_s hf
      refine q_callVv (wf := (mW h K)) (n := 1) (As := [.int x1]) (q0 := 0) (ci := 7) C G hl.1 (kM_count (l := l) c3) qx_M_161 qm_M_count_d ⟨by decide, by decide⟩ ⟨Nat.le_refl _, Nat.le_refl _⟩ rfl rfl rfl rfl rfl (Nat.le_of_ble_eq_true rfl) qm_M_work_339 (fun H locs G => ?_)
      refine lv_goto (tgt := 379) C.1 C.2.1 qm_M_work_342 (by decide) ?_
      exact wM_work_379 C S3 hf _ _ _ G (lv_sub hl [] rfl)
set_option maxHeartbeats 4000000 in
set_option maxRecDepth 100000 in
theorem wM_work_320 {l : Launch} {D : va_G} {h : Nat → Nat} {K : Nat → ClassId} {res : qS} {p : Program} {e : Env} {s : State} {m : MethodId} {args : Array Value} {below : List Frame} {meth : Method} {c : Code} {A : Nat → Prop} {ad : Nat → Nat} (C : qC p s m args meth c qm_M_work_c 3 none qR_M ad) (S : qS) (y1 : Int32) (y2 : Int32) (y3 : Int32) (hf : fM_work_320 S y1 y2 y3 = some res) : ∀ (H : Heap) (locs : List Loc) (ls : Array Slot), qG D qCl (mT K) A s (mW h K S) H locs → lv_has ls 3 [] → W p l e ({ frames := 6, cells := 0, slots := 0, locals := 143 }) s m args below meth c H locs 0 0 (MQ below (qQv D qCl (mT K) (mW h K) A res) args s 0 0 A) (F0 m 320 ls [.int y3, .int y2, .int y1, .ref (h 2)]) := by
  intro H locs ls G hl
  unfold fM_work_320 at hf
  refine lv_iadd C.1 C.2.1 qm_M_work_320 ?_
  obtain ⟨b1, hf⟩ := chk_s hf
  refine q_iast (wf := (mW h K)) (S' := (pA S 1 y1 (y2 + y3))) C G 2 1 rfl rfl b1 rfl qm_M_work_321 (fun H locs G => ?_)
  refine lv_goto (tgt := 379) C.1 C.2.1 qm_M_work_322 (by decide) ?_
  exact wM_work_379 C (pA S 1 y1 (y2 + y3)) hf _ _ _ G (lv_sub hl [] rfl)
set_option maxHeartbeats 4000000 in
set_option maxRecDepth 100000 in
theorem wM_work_319 {l : Launch} {D : va_G} {h : Nat → Nat} {K : Nat → ClassId} {res : qS} {p : Program} {e : Env} {s : State} {m : MethodId} {args : Array Value} {below : List Frame} {meth : Method} {c : Code} {A : Nat → Prop} {ad : Nat → Nat} (C : qC p s m args meth c qm_M_work_c 3 none qR_M ad) (S : qS) (y1 : Int32) (y2 : Int32) (hf : fM_work_319 S y1 y2 = some res) : ∀ (H : Heap) (locs : List Loc) (ls : Array Slot), qG D qCl (mT K) A s (mW h K S) H locs → lv_has ls 3 [] → W p l e ({ frames := 6, cells := 0, slots := 0, locals := 143 }) s m args below meth c H locs 0 0 (MQ below (qQv D qCl (mT K) (mW h K) A res) args s 0 0 A) (F0 m 319 ls [.int y2, .int y1, .ref (h 2)]) := by
  intro H locs ls G hl
  unfold fM_work_319 at hf
  refine lv_iconst (v := 0) C.1 C.2.1 qm_M_work_319 (by decide) ?_
  exact wM_work_320 C S y1 y2 0 hf _ _ _ G (lv_sub hl [] rfl)
set_option maxHeartbeats 4000000 in
set_option maxRecDepth 100000 in
theorem wM_work_315 {l : Launch} {D : va_G} {h : Nat → Nat} {K : Nat → ClassId} {res : qS} {p : Program} {e : Env} {s : State} {m : MethodId} {args : Array Value} {below : List Frame} {meth : Method} {c : Code} {A : Nat → Prop} {ad : Nat → Nat} (C : qC p s m args meth c qm_M_work_c 3 none qR_M ad) (S : qS) (x2 : Int32) (y1 : Int32) (y2 : Int32) (hf : fM_work_315 S x2 y1 y2 = some res) : ∀ (H : Heap) (locs : List Loc) (ls : Array Slot), qG D qCl (mT K) A s (mW h K S) H locs → lv_has ls 3 [(2, .int x2)] → W p l e ({ frames := 6, cells := 0, slots := 0, locals := 143 }) s m args below meth c H locs 0 0 (MQ below (qQv D qCl (mT K) (mW h K) A res) args s 0 0 A) (F0 m 315 ls [.int y2, .int y1, .ref (h 2)]) := by
  intro H locs ls G hl
  unfold fM_work_315 at hf
  refine lv_iload_n C.1 C.2.1 qm_M_work_315 rfl (lv_at hl 0 rfl) ?_
  refine lv_goto (tgt := 320) C.1 C.2.1 qm_M_work_316 (by decide) ?_
  exact wM_work_320 C S y1 y2 x2 hf _ _ _ G (lv_sub hl [] rfl)
set_option maxHeartbeats 4000000 in
set_option maxRecDepth 100000 in
theorem wM_work_312 {l : Launch} {D : va_G} {h : Nat → Nat} {K : Nat → ClassId} {res : qS} {p : Program} {e : Env} {s : State} {m : MethodId} {args : Array Value} {below : List Frame} {meth : Method} {c : Code} {A : Nat → Prop} {ad : Nat → Nat} (C : qC p s m args meth c qm_M_work_c 3 none qR_M ad) (S : qS) (x2 : Int32) (y1 : Int32) (y2 : Int32) (y3 : Int32) (y4 : Int32) (hf : fM_work_312 S x2 y1 y2 y3 y4 = some res) : ∀ (H : Heap) (locs : List Loc) (ls : Array Slot), qG D qCl (mT K) A s (mW h K S) H locs → lv_has ls 3 [(2, .int x2)] → W p l e ({ frames := 6, cells := 0, slots := 0, locals := 143 }) s m args below meth c H locs 0 0 (MQ below (qQv D qCl (mT K) (mW h K) A res) args s 0 0 A) (F0 m 312 ls [.int y4, .int y3, .int y2, .int y1, .ref (h 2)]) := by
  intro H locs ls G hl
  unfold fM_work_312 at hf
  refine lv_icmp_ne (tgt := 319) C.1 C.2.1 qm_M_work_312 (by decide) (fun b1 => ?_) (fun b1 => ?_)
  · have hf := if_t b1 hf
    exact wM_work_319 C S y1 y2 hf _ _ _ G (lv_sub hl [] rfl)
  · have hf := if_f (not_not_intro b1) hf
    exact wM_work_315 C S x2 y1 y2 hf _ _ _ G (lv_sub hl [0] rfl)
set_option maxHeartbeats 4000000 in
set_option maxRecDepth 100000 in
theorem wM_work_256 {l : Launch} {D : va_G} {h : Nat → Nat} {K : Nat → ClassId} {res : qS} {p : Program} {e : Env} {s : State} {m : MethodId} {args : Array Value} {below : List Frame} {meth : Method} {c : Code} {A : Nat → Prop} {ad : Nat → Nat} (C : qC p s m args meth c qm_M_work_c 3 none qR_M ad) (S : qS) (x1 : Int32) (x2 : Int32) (hf : fM_work_256 S x1 x2 = some res) : ∀ (H : Heap) (locs : List Loc) (ls : Array Slot), qG D qCl (mT K) A s (mW h K S) H locs → lv_has ls 3 [(0, .ref (h 0)), (1, .int x1), (2, .int x2)] → W p l e ({ frames := 6, cells := 0, slots := 0, locals := 143 }) s m args below meth c H locs 0 0 (MQ below (qQv D qCl (mT K) (mW h K) A res) args s 0 0 A) (F0 m 256 ls []) := by
  intro H locs ls G hl
  unfold fM_work_256 at hf
  refine lv_iload_n C.1 C.2.1 qm_M_work_256 rfl (lv_at hl 1 rfl) ?_
  refine lv_bipush (v := 49) C.1 C.2.1 qm_M_work_257 (by decide) ?_
  refine lv_icmp_le (tgt := 325) C.1 C.2.1 qm_M_work_259 (by decide) (fun b1 => ?_) (fun b1 => ?_)
  · have hf := if_t b1 hf
    exact wM_work_325 C S x1 hf _ _ _ G (lv_sub hl [0, 1] rfl)
  · have hf := if_f b1 hf
    refine lv_iload_n C.1 C.2.1 qm_M_work_262 rfl (lv_at hl 1 rfl) ?_
    refine lv_bipush (v := 64) C.1 C.2.1 qm_M_work_263 (by decide) ?_
    refine lv_icmp_ge (tgt := 325) C.1 C.2.1 qm_M_work_265 (by decide) (fun b2 => ?_) (fun b2 => ?_)
    · have hf := if_t b2 hf
      exact wM_work_325 C S x1 hf _ _ _ G (lv_sub hl [0, 1] rfl)
    · have hf := if_f b2 hf
      refine lv_aload_n C.1 C.2.1 qm_M_work_268 rfl (lv_at hl 0 rfl) ?_
      refine q_get (wf := (mW h K)) (v := .ref (h 2)) C G qi_M 0 rfl rfl 2 (by decide) qz_833 rfl qm_M_work_269 ?_
      refine lv_bipush (v := 15) C.1 C.2.1 qm_M_work_272 (by decide) ?_
      refine lv_dup2_11 C.1 C.2.1 qm_M_work_274 rfl rfl ?_
      refine q_iald (wf := (mW h K)) C G 2 1 rfl rfl (by decide) qm_M_work_275 ?_
      refine lv_iload_n C.1 C.2.1 qm_M_work_276 rfl (lv_at hl 1 rfl) ?_
      refine lv_bipush (v := 62) C.1 C.2.1 qm_M_work_277 (by decide) ?_
      refine lv_icmp_ge (tgt := 293) C.1 C.2.1 qm_M_work_279 (by decide) (fun b3 => ?_) (fun b3 => ?_)
      · have hf := if_t b3 hf
        refine lv_aload_n C.1 C.2.1 qm_M_work_293 rfl (lv_at hl 0 rfl) ?_
        refine q_get (wf := (mW h K)) (v := .ref (h 6)) C G qi_M 0 rfl rfl 16 (by decide) qz_847 rfl qm_M_work_294 ?_
        refine lv_iconst (v := 0) C.1 C.2.1 qm_M_work_297 (by decide) ?_
        refine q_iald (wf := (mW h K)) C G 6 5 rfl rfl (by decide) qm_M_work_298 ?_
        refine lv_iconst (v := 1) C.1 C.2.1 qm_M_work_299 (by decide) ?_
        refine lv_iand C.1 C.2.1 qm_M_work_300 ?_
        refine lv_iload_n C.1 C.2.1 qm_M_work_301 rfl (lv_at hl 1 rfl) ?_
        refine lv_bipush (v := 62) C.1 C.2.1 qm_M_work_302 (by decide) ?_
        refine lv_icmp_ne (tgt := 311) C.1 C.2.1 qm_M_work_304 (by decide) (fun b4 => ?_) (fun b4 => ?_)
        · have hf := if_t b4 hf
          refine lv_iconst (v := 0) C.1 C.2.1 qm_M_work_311 (by decide) ?_
          exact wM_work_312 C S x2 15 (gA S 1 15) ((gA S 5 0) &&& 1) 0 hf _ _ _ G (lv_sub hl [2] rfl)
        · have hf := if_f (not_not_intro b4) hf
          refine lv_iconst (v := 1) C.1 C.2.1 qm_M_work_307 (by decide) ?_
          refine lv_goto (tgt := 312) C.1 C.2.1 qm_M_work_308 (by decide) ?_
          exact wM_work_312 C S x2 15 (gA S 1 15) ((gA S 5 0) &&& 1) 1 hf _ _ _ G (lv_sub hl [2] rfl)
      · have hf := if_f b3 hf
        refine lv_aload_n C.1 C.2.1 qm_M_work_282 rfl (lv_at hl 0 rfl) ?_
        refine lv_iload_n C.1 C.2.1 qm_M_work_283 rfl (lv_at hl 1 rfl) ?_
        obtain ⟨q5, c5, hf⟩ := bnd_s hf
        refine q_callVi (wf := (mW h K)) (n := 1) (As := [.int x1]) (q0 := 0) (ci := 7) C G hl.1 (kM_isMet (l := l) c5) qx_M_158 qm_M_isMet_d ⟨by decide, by decide⟩ ⟨Nat.le_refl _, Nat.le_refl _⟩ rfl rfl rfl rfl rfl (Nat.le_of_ble_eq_true rfl) qm_M_work_284 (fun H locs G => ?_)
        refine lv_if_eq (tgt := 319) C.1 C.2.1 qm_M_work_287 (by decide) (fun b6 => ?_) (fun b6 => ?_)
        · have hf := if_t b6 hf
          exact wM_work_319 C q5.2 15 (gA S 1 15) hf _ _ _ G (lv_sub hl [] rfl)
        · have hf := if_f b6 hf
          refine lv_goto (tgt := 315) C.1 C.2.1 qm_M_work_290 (by decide) ?_
          exact wM_work_315 C q5.2 x2 15 (gA S 1 15) hf _ _ _ G (lv_sub hl [2] rfl)
set_option maxHeartbeats 4000000 in
set_option maxRecDepth 100000 in
theorem wM_work_208 {l : Launch} {D : va_G} {h : Nat → Nat} {K : Nat → ClassId} {res : qS} {p : Program} {e : Env} {s : State} {m : MethodId} {args : Array Value} {below : List Frame} {meth : Method} {c : Code} {A : Nat → Prop} {ad : Nat → Nat} (C : qC p s m args meth c qm_M_work_c 3 none qR_M ad) (S : qS) (x1 : Int32) (x2 : Int32) (hf : fM_work_208 S x1 x2 = some res) : ∀ (H : Heap) (locs : List Loc) (ls : Array Slot), qG D qCl (mT K) A s (mW h K S) H locs → lv_has ls 3 [(0, .ref (h 0)), (1, .int x1), (2, .int x2)] → W p l e ({ frames := 6, cells := 0, slots := 0, locals := 143 }) s m args below meth c H locs 0 0 (MQ below (qQv D qCl (mT K) (mW h K) A res) args s 0 0 A) (F0 m 208 ls []) := by
  intro H locs ls G hl
  unfold fM_work_208 at hf
  refine lv_iload_n C.1 C.2.1 qm_M_work_208 rfl (lv_at hl 1 rfl) ?_
  refine lv_bipush (v := 41) C.1 C.2.1 qm_M_work_209 (by decide) ?_
  refine lv_icmp_ne (tgt := 236) C.1 C.2.1 qm_M_work_211 (by decide) (fun b1 => ?_) (fun b1 => ?_)
  · have hf := if_t b1 hf
    refine lv_iload_n C.1 C.2.1 qm_M_work_236 rfl (lv_at hl 1 rfl) ?_
    refine lv_bipush (v := 45) C.1 C.2.1 qm_M_work_237 (by decide) ?_
    refine lv_icmp_le (tgt := 256) C.1 C.2.1 qm_M_work_239 (by decide) (fun b2 => ?_) (fun b2 => ?_)
    · have hf := if_t b2 hf
      exact wM_work_256 C S x1 x2 hf _ _ _ G (lv_sub hl [0, 1, 2] rfl)
    · have hf := if_f b2 hf
      refine lv_iload_n C.1 C.2.1 qm_M_work_242 rfl (lv_at hl 1 rfl) ?_
      refine lv_bipush (v := 50) C.1 C.2.1 qm_M_work_243 (by decide) ?_
      refine lv_icmp_ge (tgt := 256) C.1 C.2.1 qm_M_work_245 (by decide) (fun b3 => ?_) (fun b3 => ?_)
      · have hf := if_t b3 hf
        exact wM_work_256 C S x1 x2 hf _ _ _ G (lv_sub hl [0, 1, 2] rfl)
      · have hf := if_f b3 hf
        refine lv_aload_n C.1 C.2.1 qm_M_work_248 rfl (lv_at hl 0 rfl) ?_
        refine lv_iload_n C.1 C.2.1 qm_M_work_249 rfl (lv_at hl 1 rfl) ?_
        obtain ⟨S4, c4, hf⟩ := bnd_s hf
        refine q_callVv (wf := (mW h K)) (n := 1) (As := [.int x1]) (q0 := 0) (ci := 7) C G hl.1 (kM_go (l := l) c4) qx_M_155 qm_M_go_d ⟨by decide, by decide⟩ ⟨Nat.le_refl _, Nat.le_refl _⟩ rfl rfl rfl rfl rfl (Nat.le_of_ble_eq_true rfl) qm_M_work_250 (fun H locs G => ?_)
        refine lv_goto (tgt := 379) C.1 C.2.1 qm_M_work_253 (by decide) ?_
        exact wM_work_379 C S4 hf _ _ _ G (lv_sub hl [] rfl)
  · have hf := if_f (not_not_intro b1) hf
    refine lv_aload_n C.1 C.2.1 qm_M_work_214 rfl (lv_at hl 0 rfl) ?_
    refine lv_aload_n C.1 C.2.1 qm_M_work_215 rfl (lv_at hl 0 rfl) ?_
    refine q_get (wf := (mW h K)) (v := .ref (h 6)) C G qi_M 0 rfl rfl 16 (by decide) qz_847 rfl qm_M_work_216 ?_
    refine lv_iconst (v := 0) C.1 C.2.1 qm_M_work_219 (by decide) ?_
    refine q_iald (wf := (mW h K)) C G 6 5 rfl rfl (by decide) qm_M_work_220 ?_
    obtain ⟨q5, c5, hf⟩ := bnd_s hf
    refine q_callSi (wf := (mW h K)) (n := 1) (As := [.int (gA S 5 0)]) C G hl.1 (kM_signed (l := l) c5) qx_M_103 qm_M_signed_d ⟨by decide, by decide⟩ ⟨Nat.le_refl _, Nat.le_refl _⟩ rfl rfl (Nat.le_of_ble_eq_true rfl) qm_M_work_221 (fun H locs G => ?_)
    refine lv_aload_n C.1 C.2.1 qm_M_work_224 rfl (lv_at hl 0 rfl) ?_
    refine q_get (wf := (mW h K)) (v := .ref (h 6)) C G qi_M 0 rfl rfl 16 (by decide) qz_847 rfl qm_M_work_225 ?_
    refine lv_iconst (v := 1) C.1 C.2.1 qm_M_work_228 (by decide) ?_
    refine q_iald (wf := (mW h K)) C G 6 5 rfl rfl (by decide) qm_M_work_229 ?_
    obtain ⟨S6, c6, hf⟩ := bnd_s hf
    refine q_callVv (wf := (mW h K)) (n := 2) (As := [.int q5.1, .int (gA q5.2 5 1)]) (q0 := 0) (ci := 7) C G hl.1 (kM_shift (l := l) c6) qx_M_152 qm_M_shift_d ⟨by decide, by decide⟩ ⟨Nat.le_refl _, Nat.le_refl _⟩ rfl rfl rfl rfl rfl (Nat.le_of_ble_eq_true rfl) qm_M_work_230 (fun H locs G => ?_)
    refine lv_goto (tgt := 379) C.1 C.2.1 qm_M_work_233 (by decide) ?_
    exact wM_work_379 C S6 hf _ _ _ G (lv_sub hl [] rfl)
set_option maxHeartbeats 4000000 in
set_option maxRecDepth 100000 in
theorem wM_work_202 {l : Launch} {D : va_G} {h : Nat → Nat} {K : Nat → ClassId} {res : qS} {p : Program} {e : Env} {s : State} {m : MethodId} {args : Array Value} {below : List Frame} {meth : Method} {c : Code} {A : Nat → Prop} {ad : Nat → Nat} (C : qC p s m args meth c qm_M_work_c 3 none qR_M ad) (S : qS) (y1 : Int32) (y2 : Int32) (y3 : Int32) (y4 : Int32) (hf : fM_work_202 S y1 y2 y3 y4 = some res) : ∀ (H : Heap) (locs : List Loc) (ls : Array Slot), qG D qCl (mT K) A s (mW h K S) H locs → lv_has ls 3 [] → W p l e ({ frames := 6, cells := 0, slots := 0, locals := 143 }) s m args below meth c H locs 0 0 (MQ below (qQv D qCl (mT K) (mW h K) A res) args s 0 0 A) (F0 m 202 ls [.int y4, .int y3, .int y2, .int y1, .ref (h 0)]) := by
  intro H locs ls G hl
  unfold fM_work_202 at hf
  obtain ⟨S1, c1, hf⟩ := bnd_s hf
  refine q_callVv (wf := (mW h K)) (n := 4) (As := [.int y1, .int y2, .int y3, .int y4]) (q0 := 0) (ci := 7) C G hl.1 (kM_reckon (l := l) c1) qx_M_148 qm_M_reckon_d ⟨by decide, by decide⟩ ⟨Nat.le_refl _, Nat.le_refl _⟩ rfl rfl rfl rfl rfl (Nat.le_of_ble_eq_true rfl) qm_M_work_202 (fun H locs G => ?_)
  refine lv_goto (tgt := 379) C.1 C.2.1 qm_M_work_205 (by decide) ?_
  exact wM_work_379 C S1 hf _ _ _ G (lv_sub hl [] rfl)
set_option maxHeartbeats 4000000 in
set_option maxRecDepth 100000 in
theorem wM_work_128 {l : Launch} {D : va_G} {h : Nat → Nat} {K : Nat → ClassId} {res : qS} {p : Program} {e : Env} {s : State} {m : MethodId} {args : Array Value} {below : List Frame} {meth : Method} {c : Code} {A : Nat → Prop} {ad : Nat → Nat} (C : qC p s m args meth c qm_M_work_c 3 none qR_M ad) (S : qS) (x1 : Int32) (x2 : Int32) (hf : fM_work_128 S x1 x2 = some res) : ∀ (H : Heap) (locs : List Loc) (ls : Array Slot), qG D qCl (mT K) A s (mW h K S) H locs → lv_has ls 3 [(0, .ref (h 0)), (1, .int x1), (2, .int x2)] → W p l e ({ frames := 6, cells := 0, slots := 0, locals := 143 }) s m args below meth c H locs 0 0 (MQ below (qQv D qCl (mT K) (mW h K) A res) args s 0 0 A) (F0 m 128 ls []) := by
  intro H locs ls G hl
  unfold fM_work_128 at hf
  refine lv_iload_n C.1 C.2.1 qm_M_work_128 rfl (lv_at hl 1 rfl) ?_
  refine lv_bipush (v := 25) C.1 C.2.1 qm_M_work_129 (by decide) ?_
  refine lv_icmp_eq (tgt := 140) C.1 C.2.1 qm_M_work_131 (by decide) (fun b1 => ?_) (fun b1 => ?_)
  · have hf := if_t b1 hf
    exact wM_work_140 C S x1 hf _ _ _ G (lv_sub hl [0, 1] rfl)
  · have hf := if_f b1 hf
    refine lv_iload_n C.1 C.2.1 qm_M_work_134 rfl (lv_at hl 1 rfl) ?_
    refine lv_bipush (v := 26) C.1 C.2.1 qm_M_work_135 (by decide) ?_
    refine lv_icmp_ne (tgt := 159) C.1 C.2.1 qm_M_work_137 (by decide) (fun b2 => ?_) (fun b2 => ?_)
    · have hf := if_t b2 hf
      refine lv_iload_n C.1 C.2.1 qm_M_work_159 rfl (lv_at hl 1 rfl) ?_
      refine lv_bipush (v := 26) C.1 C.2.1 qm_M_work_160 (by decide) ?_
      refine lv_icmp_le (tgt := 208) C.1 C.2.1 qm_M_work_162 (by decide) (fun b3 => ?_) (fun b3 => ?_)
      · have hf := if_t b3 hf
        exact wM_work_208 C S x1 x2 hf _ _ _ G (lv_sub hl [0, 1, 2] rfl)
      · have hf := if_f b3 hf
        refine lv_iload_n C.1 C.2.1 qm_M_work_165 rfl (lv_at hl 1 rfl) ?_
        refine lv_bipush (v := 41) C.1 C.2.1 qm_M_work_166 (by decide) ?_
        refine lv_icmp_ge (tgt := 208) C.1 C.2.1 qm_M_work_168 (by decide) (fun b4 => ?_) (fun b4 => ?_)
        · have hf := if_t b4 hf
          exact wM_work_208 C S x1 x2 hf _ _ _ G (lv_sub hl [0, 1, 2] rfl)
        · have hf := if_f b4 hf
          refine lv_aload_n C.1 C.2.1 qm_M_work_171 rfl (lv_at hl 0 rfl) ?_
          refine lv_iload_n C.1 C.2.1 qm_M_work_172 rfl (lv_at hl 1 rfl) ?_
          refine lv_bipush (v := 27) C.1 C.2.1 qm_M_work_173 (by decide) ?_
          refine lv_isub C.1 C.2.1 qm_M_work_175 ?_
          refine lv_bipush (v := 7) C.1 C.2.1 qm_M_work_176 (by decide) ?_
          refine lv_irem C.1 C.2.1 qm_M_work_178 (by decide) ?_
          refine lv_aload_n C.1 C.2.1 qm_M_work_179 rfl (lv_at hl 0 rfl) ?_
          refine q_get (wf := (mW h K)) (v := .ref (h 6)) C G qi_M 0 rfl rfl 16 (by decide) qz_847 rfl qm_M_work_180 ?_
          refine lv_iconst (v := 0) C.1 C.2.1 qm_M_work_183 (by decide) ?_
          refine q_iald (wf := (mW h K)) C G 6 5 rfl rfl (by decide) qm_M_work_184 ?_
          refine lv_aload_n C.1 C.2.1 qm_M_work_185 rfl (lv_at hl 0 rfl) ?_
          refine q_get (wf := (mW h K)) (v := .ref (h 6)) C G qi_M 0 rfl rfl 16 (by decide) qz_847 rfl qm_M_work_186 ?_
          refine lv_iconst (v := 1) C.1 C.2.1 qm_M_work_189 (by decide) ?_
          refine q_iald (wf := (mW h K)) C G 6 5 rfl rfl (by decide) qm_M_work_190 ?_
          refine lv_iload_n C.1 C.2.1 qm_M_work_191 rfl (lv_at hl 1 rfl) ?_
          refine lv_bipush (v := 34) C.1 C.2.1 qm_M_work_192 (by decide) ?_
          refine lv_icmp_ge (tgt := 201) C.1 C.2.1 qm_M_work_194 (by decide) (fun b5 => ?_) (fun b5 => ?_)
          · have hf := if_t b5 hf
            refine lv_iconst (v := 2) C.1 C.2.1 qm_M_work_201 (by decide) ?_
            exact wM_work_202 C S ((x1 - 27) - (x1 - 27) / 7 * 7) (gA S 5 0) (gA S 5 1) 2 hf _ _ _ G (lv_sub hl [] rfl)
          · have hf := if_f b5 hf
            refine lv_iconst (v := 1) C.1 C.2.1 qm_M_work_197 (by decide) ?_
            refine lv_goto (tgt := 202) C.1 C.2.1 qm_M_work_198 (by decide) ?_
            exact wM_work_202 C S ((x1 - 27) - (x1 - 27) / 7 * 7) (gA S 5 0) (gA S 5 1) 1 hf _ _ _ G (lv_sub hl [] rfl)
    · have hf := if_f (not_not_intro b2) hf
      exact wM_work_140 C S x1 hf _ _ _ G (lv_sub hl [0, 1] rfl)
set_option maxHeartbeats 4000000 in
set_option maxRecDepth 100000 in
theorem wM_work_120 {l : Launch} {D : va_G} {h : Nat → Nat} {K : Nat → ClassId} {res : qS} {p : Program} {e : Env} {s : State} {m : MethodId} {args : Array Value} {below : List Frame} {meth : Method} {c : Code} {A : Nat → Prop} {ad : Nat → Nat} (C : qC p s m args meth c qm_M_work_c 3 none qR_M ad) (S : qS) (x1 : Int32) (hf : fM_work_120 S x1 = some res) : ∀ (H : Heap) (locs : List Loc) (ls : Array Slot), qG D qCl (mT K) A s (mW h K S) H locs → lv_has ls 3 [(0, .ref (h 0)), (1, .int x1)] → W p l e ({ frames := 6, cells := 0, slots := 0, locals := 143 }) s m args below meth c H locs 0 0 (MQ below (qQv D qCl (mT K) (mW h K) A res) args s 0 0 A) (F0 m 120 ls []) := by
  intro H locs ls G hl
  unfold fM_work_120 at hf
  refine lv_aload_n C.1 C.2.1 qm_M_work_120 rfl (lv_at hl 0 rfl) ?_
  refine lv_iload_n C.1 C.2.1 qm_M_work_121 rfl (lv_at hl 1 rfl) ?_
  obtain ⟨S1, c1, hf⟩ := bnd_s hf
  refine q_callVv (wf := (mW h K)) (n := 1) (As := [.int x1]) (q0 := 0) (ci := 7) C G hl.1 (kM_move (l := l) c1) qx_M_145 qm_M_move_d ⟨by decide, by decide⟩ ⟨Nat.le_refl _, Nat.le_refl _⟩ rfl rfl rfl rfl rfl (Nat.le_of_ble_eq_true rfl) qm_M_work_122 (fun H locs G => ?_)
  refine lv_goto (tgt := 379) C.1 C.2.1 qm_M_work_125 (by decide) ?_
  exact wM_work_379 C S1 hf _ _ _ G (lv_sub hl [] rfl)
set_option maxHeartbeats 4000000 in
set_option maxRecDepth 100000 in
theorem wM_work_108 {l : Launch} {D : va_G} {h : Nat → Nat} {K : Nat → ClassId} {res : qS} {p : Program} {e : Env} {s : State} {m : MethodId} {args : Array Value} {below : List Frame} {meth : Method} {c : Code} {A : Nat → Prop} {ad : Nat → Nat} (C : qC p s m args meth c qm_M_work_c 3 none qR_M ad) (S : qS) (x1 : Int32) (x2 : Int32) (hf : fM_work_108 S x1 x2 = some res) : ∀ (H : Heap) (locs : List Loc) (ls : Array Slot), qG D qCl (mT K) A s (mW h K S) H locs → lv_has ls 3 [(0, .ref (h 0)), (1, .int x1), (2, .int x2)] → W p l e ({ frames := 6, cells := 0, slots := 0, locals := 143 }) s m args below meth c H locs 0 0 (MQ below (qQv D qCl (mT K) (mW h K) A res) args s 0 0 A) (F0 m 108 ls []) := by
  intro H locs ls G hl
  unfold fM_work_108 at hf
  refine lv_iload_n C.1 C.2.1 qm_M_work_108 rfl (lv_at hl 1 rfl) ?_
  refine lv_bipush (v := 41) C.1 C.2.1 qm_M_work_109 (by decide) ?_
  refine lv_icmp_le (tgt := 128) C.1 C.2.1 qm_M_work_111 (by decide) (fun b1 => ?_) (fun b1 => ?_)
  · have hf := if_t b1 hf
    exact wM_work_128 C S x1 x2 hf _ _ _ G (lv_sub hl [0, 1, 2] rfl)
  · have hf := if_f b1 hf
    refine lv_iload_n C.1 C.2.1 qm_M_work_114 rfl (lv_at hl 1 rfl) ?_
    refine lv_bipush (v := 46) C.1 C.2.1 qm_M_work_115 (by decide) ?_
    refine lv_icmp_ge (tgt := 128) C.1 C.2.1 qm_M_work_117 (by decide) (fun b2 => ?_) (fun b2 => ?_)
    · have hf := if_t b2 hf
      exact wM_work_128 C S x1 x2 hf _ _ _ G (lv_sub hl [0, 1, 2] rfl)
    · have hf := if_f b2 hf
      exact wM_work_120 C S x1 hf _ _ _ G (lv_sub hl [0, 1] rfl)
set_option maxHeartbeats 4000000 in
set_option maxRecDepth 100000 in
theorem wM_work_15 {l : Launch} {D : va_G} {h : Nat → Nat} {K : Nat → ClassId} {res : qS} {p : Program} {e : Env} {s : State} {m : MethodId} {args : Array Value} {below : List Frame} {meth : Method} {c : Code} {A : Nat → Prop} {ad : Nat → Nat} (C : qC p s m args meth c qm_M_work_c 3 none qR_M ad) (S : qS) (x1 : Int32) (y1 : Int32) (hf : fM_work_15 S x1 y1 = some res) : ∀ (H : Heap) (locs : List Loc) (ls : Array Slot), qG D qCl (mT K) A s (mW h K S) H locs → lv_has ls 3 [(0, .ref (h 0)), (1, .int x1)] → W p l e ({ frames := 6, cells := 0, slots := 0, locals := 143 }) s m args below meth c H locs 0 0 (MQ below (qQv D qCl (mT K) (mW h K) A res) args s 0 0 A) (F0 m 15 ls [.int y1, .ref (h 6)]) := by
  intro H locs ls G hl
  unfold fM_work_15 at hf
  obtain ⟨b1, hf⟩ := chk_s hf
  refine q_iald (wf := (mW h K)) C G 6 5 rfl rfl b1 qm_M_work_15 ?_
  refine lv_istore_n (lv' := [(2, .int (gA S 5 y1)), (0, .ref (h 0)), (1, .int x1)]) C.1 C.2.1 qm_M_work_16 rfl hl (by decide) rfl (fun ls hl => ?_)
  refine lv_iload_n C.1 C.2.1 qm_M_work_17 rfl (lv_at hl 2 rfl) ?_
  refine lv_iconst (v := 2) C.1 C.2.1 qm_M_work_18 (by decide) ?_
  refine lv_icmp_ne (tgt := 29) C.1 C.2.1 qm_M_work_19 (by decide) (fun b2 => ?_) (fun b2 => ?_)
  · have hf := if_t b2 hf
    refine lv_iload_n C.1 C.2.1 qm_M_work_29 rfl (lv_at hl 2 rfl) ?_
    refine lv_iconst (v := 3) C.1 C.2.1 qm_M_work_30 (by decide) ?_
    refine lv_icmp_ne (tgt := 45) C.1 C.2.1 qm_M_work_31 (by decide) (fun b3 => ?_) (fun b3 => ?_)
    · have hf := if_t b3 hf
      refine lv_iload_n C.1 C.2.1 qm_M_work_45 rfl (lv_at hl 2 rfl) ?_
      refine lv_iconst (v := 4) C.1 C.2.1 qm_M_work_46 (by decide) ?_
      refine lv_icmp_ne (tgt := 57) C.1 C.2.1 qm_M_work_47 (by decide) (fun b4 => ?_) (fun b4 => ?_)
      · have hf := if_t b4 hf
        refine lv_iload_n C.1 C.2.1 qm_M_work_57 rfl (lv_at hl 2 rfl) ?_
        refine lv_iconst (v := 5) C.1 C.2.1 qm_M_work_58 (by decide) ?_
        refine lv_icmp_ne (tgt := 76) C.1 C.2.1 qm_M_work_59 (by decide) (fun b5 => ?_) (fun b5 => ?_)
        · have hf := if_t b5 hf
          refine lv_iload_n C.1 C.2.1 qm_M_work_76 rfl (lv_at hl 2 rfl) ?_
          refine lv_bipush (v := 10) C.1 C.2.1 qm_M_work_77 (by decide) ?_
          refine lv_icmp_eq (tgt := 88) C.1 C.2.1 qm_M_work_79 (by decide) (fun b6 => ?_) (fun b6 => ?_)
          · have hf := if_t b6 hf
            exact wM_work_88 C S x1 hf _ _ _ G (lv_sub hl [1, 2] rfl)
          · have hf := if_f b6 hf
            refine lv_iload_n C.1 C.2.1 qm_M_work_82 rfl (lv_at hl 2 rfl) ?_
            refine lv_bipush (v := 11) C.1 C.2.1 qm_M_work_83 (by decide) ?_
            refine lv_icmp_ne (tgt := 96) C.1 C.2.1 qm_M_work_85 (by decide) (fun b7 => ?_) (fun b7 => ?_)
            · have hf := if_t b7 hf
              refine lv_iload_n C.1 C.2.1 qm_M_work_96 rfl (lv_at hl 2 rfl) ?_
              refine lv_bipush (v := 11) C.1 C.2.1 qm_M_work_97 (by decide) ?_
              refine lv_icmp_le (tgt := 108) C.1 C.2.1 qm_M_work_99 (by decide) (fun b8 => ?_) (fun b8 => ?_)
              · have hf := if_t b8 hf
                exact wM_work_108 C S x1 (gA S 5 y1) hf _ _ _ G (lv_sub hl [1, 2, 0] rfl)
              · have hf := if_f b8 hf
                refine lv_iload_n C.1 C.2.1 qm_M_work_102 rfl (lv_at hl 2 rfl) ?_
                refine lv_bipush (v := 25) C.1 C.2.1 qm_M_work_103 (by decide) ?_
                refine lv_icmp_lt (tgt := 120) C.1 C.2.1 qm_M_work_105 (by decide) (fun b9 => ?_) (fun b9 => ?_)
                · have hf := if_t b9 hf
                  exact wM_work_120 C S x1 hf _ _ _ G (lv_sub hl [1, 2] rfl)
                · have hf := if_f b9 hf
                  exact wM_work_108 C S x1 (gA S 5 y1) hf _ _ _ G (lv_sub hl [1, 2, 0] rfl)
            · have hf := if_f (not_not_intro b7) hf
              exact wM_work_88 C S x1 hf _ _ _ G (lv_sub hl [1, 2] rfl)
        · have hf := if_f (not_not_intro b5) hf
          refine lv_aload_n C.1 C.2.1 qm_M_work_62 rfl (lv_at hl 1 rfl) ?_
          refine q_get (wf := (mW h K)) (v := .ref (h 2)) C G qi_M 0 rfl rfl 2 (by decide) qz_833 rfl qm_M_work_63 ?_
          refine lv_bipush (v := 15) C.1 C.2.1 qm_M_work_66 (by decide) ?_
          refine lv_aload_n C.1 C.2.1 qm_M_work_68 rfl (lv_at hl 1 rfl) ?_
          obtain ⟨q10, c10, hf⟩ := bnd_s hf
          refine q_callVi (wf := (mW h K)) (n := 0) (As := []) (q0 := 0) (ci := 7) C G hl.1 (kM_pop (l := l) c10) qx_M_128 qm_M_pop_d ⟨by decide, by decide⟩ ⟨Nat.le_refl _, Nat.le_refl _⟩ rfl rfl rfl rfl rfl (Nat.le_of_ble_eq_true rfl) qm_M_work_69 (fun H locs G => ?_)
          refine q_iast (wf := (mW h K)) (S' := (pA q10.2 1 15 q10.1)) C G 2 1 rfl rfl (by decide) rfl qm_M_work_72 (fun H locs G => ?_)
          refine lv_goto (tgt := 379) C.1 C.2.1 qm_M_work_73 (by decide) ?_
          exact wM_work_379 C (pA q10.2 1 15 q10.1) hf _ _ _ G (lv_sub hl [] rfl)
      · have hf := if_f (not_not_intro b4) hf
        refine lv_aload_n C.1 C.2.1 qm_M_work_50 rfl (lv_at hl 1 rfl) ?_
        obtain ⟨S11, c11, hf⟩ := bnd_s hf
        refine q_callVv (wf := (mW h K)) (n := 0) (As := []) (q0 := 0) (ci := 7) C G hl.1 (kM_comeBack (l := l) c11) qx_M_139 qm_M_comeBack_d ⟨by decide, by decide⟩ ⟨Nat.le_refl _, Nat.le_refl _⟩ rfl rfl rfl rfl rfl (Nat.le_of_ble_eq_true rfl) qm_M_work_51 (fun H locs G => ?_)
        refine lv_goto (tgt := 379) C.1 C.2.1 qm_M_work_54 (by decide) ?_
        exact wM_work_379 C S11 hf _ _ _ G (lv_sub hl [] rfl)
    · have hf := if_f (not_not_intro b3) hf
      refine lv_aload_n C.1 C.2.1 qm_M_work_34 rfl (lv_at hl 1 rfl) ?_
      refine lv_bipush (v := 6) C.1 C.2.1 qm_M_work_35 (by decide) ?_
      refine lv_iconst (v := 0) C.1 C.2.1 qm_M_work_37 (by decide) ?_
      refine lv_iconst (v := 0) C.1 C.2.1 qm_M_work_38 (by decide) ?_
      obtain ⟨S12, c12, hf⟩ := bnd_s hf
      refine q_callVv (wf := (mW h K)) (n := 3) (As := [.int 6, .int 0, .int 0]) (q0 := 0) (ci := 7) C G hl.1 (kM_wrong (l := l) c12) qx_M_77 qm_M_wrong_d ⟨by decide, by decide⟩ ⟨Nat.le_refl _, Nat.le_refl _⟩ rfl rfl rfl rfl rfl (Nat.le_of_ble_eq_true rfl) qm_M_work_39 (fun H locs G => ?_)
      refine lv_goto (tgt := 379) C.1 C.2.1 qm_M_work_42 (by decide) ?_
      exact wM_work_379 C S12 hf _ _ _ G (lv_sub hl [] rfl)
  · have hf := if_f (not_not_intro b2) hf
    refine lv_aload_n C.1 C.2.1 qm_M_work_22 rfl (lv_at hl 1 rfl) ?_
    obtain ⟨S13, c13, hf⟩ := bnd_s hf
    refine q_callVv (wf := (mW h K)) (n := 0) (As := []) (q0 := 0) (ci := 7) C G hl.1 (kM_endException (l := l) c13) qx_M_136 qm_M_endException_d ⟨by decide, by decide⟩ ⟨Nat.le_refl _, Nat.le_refl _⟩ rfl rfl rfl rfl rfl (Nat.le_of_ble_eq_true rfl) qm_M_work_23 (fun H locs G => ?_)
    refine lv_goto (tgt := 379) C.1 C.2.1 qm_M_work_26 (by decide) ?_
    exact wM_work_379 C S13 hf _ _ _ G (lv_sub hl [] rfl)
set_option maxHeartbeats 4000000 in
set_option maxRecDepth 100000 in
theorem wM_work {l : Launch} {D : va_G} {h : Nat → Nat} {K : Nat → ClassId} {res : qS} {p : Program} {e : Env} {s : State} {m : MethodId} {args : Array Value} {below : List Frame} {meth : Method} {c : Code} {A : Nat → Prop} {ad : Nat → Nat} (C : qC p s m args meth c qm_M_work_c 3 none qR_M ad) (S : qS) (a1 : Int32) (hf : fM_work S a1 = some res) : ∀ (H : Heap) (locs : List Loc) (ls : Array Slot), qG D qCl (mT K) A s (mW h K S) H locs → lv_has ls 3 [(0, .ref (h 0)), (1, .int a1)] → W p l e ({ frames := 6, cells := 0, slots := 0, locals := 143 }) s m args below meth c H locs 0 0 (MQ below (qQv D qCl (mT K) (mW h K) A res) args s 0 0 A) (F0 m 0 ls []) := by
  intro H locs ls G hl
  unfold fM_work at hf
  refine lv_aload_n C.1 C.2.1 qm_M_work_0 rfl (lv_at hl 0 rfl) ?_
  refine q_get (wf := (mW h K)) (v := .ref (h 6)) C G qi_M 0 rfl rfl 16 (by decide) qz_847 rfl qm_M_work_1 ?_
  refine lv_iload_n C.1 C.2.1 qm_M_work_4 rfl (lv_at hl 1 rfl) ?_
  refine lv_bipush (v := 62) C.1 C.2.1 qm_M_work_5 (by decide) ?_
  refine lv_icmp_ge (tgt := 14) C.1 C.2.1 qm_M_work_7 (by decide) (fun b1 => ?_) (fun b1 => ?_)
  · have hf := if_t b1 hf
    refine lv_iconst (v := 1) C.1 C.2.1 qm_M_work_14 (by decide) ?_
    exact wM_work_15 C S a1 1 hf _ _ _ G (lv_sub hl [0, 1] rfl)
  · have hf := if_f b1 hf
    refine lv_iconst (v := 0) C.1 C.2.1 qm_M_work_10 (by decide) ?_
    refine lv_goto (tgt := 15) C.1 C.2.1 qm_M_work_11 (by decide) ?_
    exact wM_work_15 C S a1 0 hf _ _ _ G (lv_sub hl [0, 1] rfl)
theorem kM_work {l : Launch} {ad : Nat → Nat} {D : va_G} {h : Nat → Nat} {K : Nat → ClassId} {res : qS} {S : qS} {a1 : Int32} (hf : fM_work S a1 = some res) : qMv l qm_M_work qm_M_work_c 3 6 143 D qCl (mT K) ad (mW h K) [.ref (h 0), .int a1] S res := qMv_of (by decide) (Nat.le_of_ble_eq_true rfl) (fun _ _ _ _ _ _ _ _ _ _ C G hl => wM_work C S a1 hf _ _ _ G hl)
set_option maxHeartbeats 4000000 in
set_option maxRecDepth 100000 in
theorem wM_bringBack_28 {l : Launch} {D : va_G} {h : Nat → Nat} {K : Nat → ClassId} {res : qS} {p : Program} {e : Env} {s : State} {m : MethodId} {args : Array Value} {below : List Frame} {meth : Method} {c : Code} {A : Nat → Prop} {ad : Nat → Nat} (C : qC p s m args meth c qm_M_bringBack_c 2 none qR_M ad) : ∀ (n : Nat) (S : qS) (x1 : Int32), fM_bringBack_28 n S x1 = some res → ∀ (H : Heap) (locs : List Loc) (ls : Array Slot), qG D qCl (mT K) A s (mW h K S) H locs → lv_has ls 2 [(0, .ref (h 0)), (1, .int x1)] → W p l e ({ frames := 0, cells := 0, slots := 0, locals := 0 }) s m args below meth c H locs 0 0 (MQ below (qQv D qCl (mT K) (mW h K) A res) args s 0 0 A) (F0 m 28 ls []) := by
  intro n
  induction n with
  | zero => intro S x1 hf; cases hf
  | succ n ih =>
    intro S x1 hf H locs ls G hl
    rw [fM_bringBack_28] at hf
    refine lv_iload_n C.1 C.2.1 qm_M_bringBack_28 rfl (lv_at hl 1 rfl) ?_
    refine lv_iconst (v := 4) C.1 C.2.1 qm_M_bringBack_29 (by decide) ?_
    refine lv_icmp_ge (tgt := 51) C.1 C.2.1 qm_M_bringBack_30 (by decide) (fun b1 => ?_) (fun b1 => ?_)
    · have hf := if_t b1 hf
      refine lv_aload_n C.1 C.2.1 qm_M_bringBack_51 rfl (lv_at hl 0 rfl) ?_
      refine lv_aload_n C.1 C.2.1 qm_M_bringBack_52 rfl (lv_at hl 0 rfl) ?_
      refine q_get (wf := (mW h K)) (v := .int (S.1 6)) C G qi_M 0 rfl rfl 11 (by decide) qz_842 rfl qm_M_bringBack_53 ?_
      refine q_put (wf := (mW h K)) (S' := (pI S 1 (S.1 6))) C G qi_M qY_M qy_M qn_M 0 rfl rfl 4 (by decide) qz_835 rfl rfl (Nat.le_of_ble_eq_true rfl) rfl qm_M_bringBack_56 (fun H locs G => ?_)
      exact q_vret (wf := (mW h K)) C G hf qm_M_bringBack_59
    · have hf := if_f b1 hf
      refine lv_aload_n C.1 C.2.1 qm_M_bringBack_33 rfl (lv_at hl 0 rfl) ?_
      refine q_get (wf := (mW h K)) (v := .ref (h 3)) C G qi_M 0 rfl rfl 3 (by decide) qz_834 rfl qm_M_bringBack_34 ?_
      refine lv_iload_n C.1 C.2.1 qm_M_bringBack_37 rfl (lv_at hl 1 rfl) ?_
      refine lv_aload_n C.1 C.2.1 qm_M_bringBack_38 rfl (lv_at hl 0 rfl) ?_
      refine q_get (wf := (mW h K)) (v := .ref (h 5)) C G qi_M 0 rfl rfl 10 (by decide) qz_841 rfl qm_M_bringBack_39 ?_
      refine lv_iload_n C.1 C.2.1 qm_M_bringBack_42 rfl (lv_at hl 1 rfl) ?_
      obtain ⟨b2, hf⟩ := chk_s hf
      refine q_iald (wf := (mW h K)) C G 5 4 rfl rfl b2 qm_M_bringBack_43 ?_
      obtain ⟨b3, hf⟩ := chk_s hf
      refine q_iast (wf := (mW h K)) (S' := (pA S 2 x1 (gA S 4 x1))) C G 3 2 rfl rfl b3 rfl qm_M_bringBack_44 (fun H locs G => ?_)
      refine lv_iinc (v := x1 + 1) (lv' := [(1, .int (x1 + 1)), (0, .ref (h 0))]) C.1 C.2.1 qm_M_bringBack_45 hl (k := 1) rfl rfl (by decide) rfl (fun ls hl => ?_)
      refine lv_goto (tgt := 28) C.1 C.2.1 qm_M_bringBack_48 (by decide) ?_
      exact ih (pA S 2 x1 (gA S 4 x1)) (x1 + 1) hf _ _ _ G (lv_sub hl [1, 0] rfl)
set_option maxHeartbeats 4000000 in
set_option maxRecDepth 100000 in
theorem wM_bringBack_2 {l : Launch} {D : va_G} {h : Nat → Nat} {K : Nat → ClassId} {res : qS} {p : Program} {e : Env} {s : State} {m : MethodId} {args : Array Value} {below : List Frame} {meth : Method} {c : Code} {A : Nat → Prop} {ad : Nat → Nat} (C : qC p s m args meth c qm_M_bringBack_c 2 none qR_M ad) : ∀ (n : Nat) (S : qS) (x1 : Int32), fM_bringBack_2 n S x1 = some res → ∀ (H : Heap) (locs : List Loc) (ls : Array Slot), qG D qCl (mT K) A s (mW h K S) H locs → lv_has ls 2 [(0, .ref (h 0)), (1, .int x1)] → W p l e ({ frames := 0, cells := 0, slots := 0, locals := 0 }) s m args below meth c H locs 0 0 (MQ below (qQv D qCl (mT K) (mW h K) A res) args s 0 0 A) (F0 m 2 ls []) := by
  intro n
  induction n with
  | zero => intro S x1 hf; cases hf
  | succ n ih =>
    intro S x1 hf H locs ls G hl
    rw [fM_bringBack_2] at hf
    refine lv_iload_n C.1 C.2.1 qm_M_bringBack_2 rfl (lv_at hl 1 rfl) ?_
    refine lv_bipush (v := 16) C.1 C.2.1 qm_M_bringBack_3 (by decide) ?_
    refine lv_icmp_ge (tgt := 26) C.1 C.2.1 qm_M_bringBack_5 (by decide) (fun b1 => ?_) (fun b1 => ?_)
    · have hf := if_t b1 hf
      refine lv_iconst (v := 0) C.1 C.2.1 qm_M_bringBack_26 (by decide) ?_
      refine lv_istore_n (lv' := [(1, .int 0), (0, .ref (h 0))]) C.1 C.2.1 qm_M_bringBack_27 rfl hl (by decide) rfl (fun ls hl => ?_)
      exact wM_bringBack_28 C 300 S 0 hf _ _ _ G (lv_sub hl [1, 0] rfl)
    · have hf := if_f b1 hf
      refine lv_aload_n C.1 C.2.1 qm_M_bringBack_8 rfl (lv_at hl 0 rfl) ?_
      refine q_get (wf := (mW h K)) (v := .ref (h 2)) C G qi_M 0 rfl rfl 2 (by decide) qz_833 rfl qm_M_bringBack_9 ?_
      refine lv_iload_n C.1 C.2.1 qm_M_bringBack_12 rfl (lv_at hl 1 rfl) ?_
      refine lv_aload_n C.1 C.2.1 qm_M_bringBack_13 rfl (lv_at hl 0 rfl) ?_
      refine q_get (wf := (mW h K)) (v := .ref (h 4)) C G qi_M 0 rfl rfl 9 (by decide) qz_840 rfl qm_M_bringBack_14 ?_
      refine lv_iload_n C.1 C.2.1 qm_M_bringBack_17 rfl (lv_at hl 1 rfl) ?_
      obtain ⟨b2, hf⟩ := chk_s hf
      refine q_iald (wf := (mW h K)) C G 4 3 rfl rfl b2 qm_M_bringBack_18 ?_
      obtain ⟨b3, hf⟩ := chk_s hf
      refine q_iast (wf := (mW h K)) (S' := (pA S 1 x1 (gA S 3 x1))) C G 2 1 rfl rfl b3 rfl qm_M_bringBack_19 (fun H locs G => ?_)
      refine lv_iinc (v := x1 + 1) (lv' := [(1, .int (x1 + 1)), (0, .ref (h 0))]) C.1 C.2.1 qm_M_bringBack_20 hl (k := 1) rfl rfl (by decide) rfl (fun ls hl => ?_)
      refine lv_goto (tgt := 2) C.1 C.2.1 qm_M_bringBack_23 (by decide) ?_
      exact ih (pA S 1 x1 (gA S 3 x1)) (x1 + 1) hf _ _ _ G (lv_sub hl [1, 0] rfl)
set_option maxHeartbeats 4000000 in
set_option maxRecDepth 100000 in
theorem wM_bringBack {l : Launch} {D : va_G} {h : Nat → Nat} {K : Nat → ClassId} {res : qS} {p : Program} {e : Env} {s : State} {m : MethodId} {args : Array Value} {below : List Frame} {meth : Method} {c : Code} {A : Nat → Prop} {ad : Nat → Nat} (C : qC p s m args meth c qm_M_bringBack_c 2 none qR_M ad) (S : qS) (hf : fM_bringBack S = some res) : ∀ (H : Heap) (locs : List Loc) (ls : Array Slot), qG D qCl (mT K) A s (mW h K S) H locs → lv_has ls 2 [(0, .ref (h 0))] → W p l e ({ frames := 0, cells := 0, slots := 0, locals := 0 }) s m args below meth c H locs 0 0 (MQ below (qQv D qCl (mT K) (mW h K) A res) args s 0 0 A) (F0 m 0 ls []) := by
  intro H locs ls G hl
  unfold fM_bringBack at hf
  refine lv_iconst (v := 0) C.1 C.2.1 qm_M_bringBack_0 (by decide) ?_
  refine lv_istore_n (lv' := [(1, .int 0), (0, .ref (h 0))]) C.1 C.2.1 qm_M_bringBack_1 rfl hl (by decide) rfl (fun ls hl => ?_)
  exact wM_bringBack_2 C 300 S 0 hf _ _ _ G (lv_sub hl [1, 0] rfl)
theorem kM_bringBack {l : Launch} {ad : Nat → Nat} {D : va_G} {h : Nat → Nat} {K : Nat → ClassId} {res : qS} {S : qS} (hf : fM_bringBack S = some res) : qMv l qm_M_bringBack qm_M_bringBack_c 2 0 0 D qCl (mT K) ad (mW h K) [.ref (h 0)] S res := qMv_of (by decide) (Nat.le_of_ble_eq_true rfl) (fun _ _ _ _ _ _ _ _ _ _ C G hl => wM_bringBack C S hf _ _ _ G hl)
set_option maxHeartbeats 4000000 in
set_option maxRecDepth 100000 in
theorem wM_raise_106 {l : Launch} {D : va_G} {h : Nat → Nat} {K : Nat → ClassId} {res : qS} {p : Program} {e : Env} {s : State} {m : MethodId} {args : Array Value} {below : List Frame} {meth : Method} {c : Code} {A : Nat → Prop} {ad : Nat → Nat} (C : qC p s m args meth c qm_M_raise_c 8 none qR_M ad) (S : qS) (x1 : Int32) (hf : fM_raise_106 S x1 = some res) : ∀ (H : Heap) (locs : List Loc) (ls : Array Slot), qG D qCl (mT K) A s (mW h K S) H locs → lv_has ls 8 [(0, .ref (h 0)), (1, .int x1)] → W p l e ({ frames := 4, cells := 0, slots := 0, locals := 99 }) s m args below meth c H locs 0 0 (MQ below (qQv D qCl (mT K) (mW h K) A res) args s 0 0 A) (F0 m 106 ls []) := by
  intro H locs ls G hl
  unfold fM_raise_106 at hf
  refine lv_aload_n C.1 C.2.1 qm_M_raise_106 rfl (lv_at hl 0 rfl) ?_
  refine q_get (wf := (mW h K)) (v := .int (S.1 7)) C G qi_M 0 rfl rfl 12 (by decide) qz_843 rfl qm_M_raise_107 ?_
  refine lv_if_eq (tgt := 123) C.1 C.2.1 qm_M_raise_110 (by decide) (fun b1 => ?_) (fun b1 => ?_)
  · have hf := if_t b1 hf
    refine lv_aload_n C.1 C.2.1 qm_M_raise_123 rfl (lv_at hl 0 rfl) ?_
    refine q_get (wf := (mW h K)) (v := .ref (h 2)) C G qi_M 0 rfl rfl 2 (by decide) qz_833 rfl qm_M_raise_124 ?_
    refine lv_bipush (v := 15) C.1 C.2.1 qm_M_raise_127 (by decide) ?_
    refine lv_aload_n C.1 C.2.1 qm_M_raise_129 rfl (lv_at hl 0 rfl) ?_
    refine lv_aload_n C.1 C.2.1 qm_M_raise_130 rfl (lv_at hl 0 rfl) ?_
    refine q_get (wf := (mW h K)) (v := .ref (h 3)) C G qi_M 0 rfl rfl 3 (by decide) qz_834 rfl qm_M_raise_131 ?_
    refine lv_bipush (v := 17) C.1 C.2.1 qm_M_raise_134 (by decide) ?_
    refine q_iald (wf := (mW h K)) C G 3 2 rfl rfl (by decide) qm_M_raise_136 ?_
    refine lv_iconst (v := 4) C.1 C.2.1 qm_M_raise_137 (by decide) ?_
    refine lv_iload_n C.1 C.2.1 qm_M_raise_138 rfl (lv_at hl 1 rfl) ?_
    refine lv_imul C.1 C.2.1 qm_M_raise_139 ?_
    refine lv_iadd C.1 C.2.1 qm_M_raise_140 ?_
    obtain ⟨q2, c2, hf⟩ := bnd_s hf
    refine q_callVi (wf := (mW h K)) (n := 1) (As := [.int ((gA S 2 17) + (4 * x1))]) (q0 := 0) (ci := 7) C G hl.1 (kM_bare (l := l) c2) qx_M_56 qm_M_bare_d ⟨by decide, by decide⟩ ⟨Nat.le_refl _, Nat.le_refl _⟩ rfl rfl rfl rfl rfl (Nat.le_of_ble_eq_true rfl) qm_M_raise_141 (fun H locs G => ?_)
    refine q_iast (wf := (mW h K)) (S' := (pA q2.2 1 15 q2.1)) C G 2 1 rfl rfl (by decide) rfl qm_M_raise_144 (fun H locs G => ?_)
    refine lv_aload_n C.1 C.2.1 qm_M_raise_145 rfl (lv_at hl 0 rfl) ?_
    refine lv_iload_n C.1 C.2.1 qm_M_raise_146 rfl (lv_at hl 1 rfl) ?_
    refine q_put (wf := (mW h K)) (S' := (pI (pA q2.2 1 15 q2.1) 4 x1)) C G qi_M qY_M qy_M qn_M 0 rfl rfl 7 (by decide) qz_838 rfl rfl (Nat.le_of_ble_eq_true rfl) rfl qm_M_raise_147 (fun H locs G => ?_)
    refine lv_aload_n C.1 C.2.1 qm_M_raise_150 rfl (lv_at hl 0 rfl) ?_
    refine lv_dup C.1 C.2.1 qm_M_raise_151 rfl ?_
    refine q_get (wf := (mW h K)) (v := .int ((pI (pA q2.2 1 15 q2.1) 4 x1).1 5)) C G qi_M 0 rfl rfl 8 (by decide) qz_839 rfl qm_M_raise_152 ?_
    refine lv_iconst (v := 1) C.1 C.2.1 qm_M_raise_155 (by decide) ?_
    refine lv_iadd C.1 C.2.1 qm_M_raise_156 ?_
    refine q_put (wf := (mW h K)) (S' := (pI (pI (pA q2.2 1 15 q2.1) 4 x1) 5 (((pI (pA q2.2 1 15 q2.1) 4 x1).1 5) + 1))) C G qi_M qY_M qy_M qn_M 0 rfl rfl 8 (by decide) qz_839 rfl rfl (Nat.le_of_ble_eq_true rfl) rfl qm_M_raise_157 (fun H locs G => ?_)
    exact q_vret (wf := (mW h K)) C G hf qm_M_raise_160
  · have hf := if_f b1 hf
    refine lv_aload_n C.1 C.2.1 qm_M_raise_113 rfl (lv_at hl 0 rfl) ?_
    obtain ⟨S3, c3, hf⟩ := bnd_s hf
    refine q_callVv (wf := (mW h K)) (n := 0) (As := []) (q0 := 0) (ci := 7) C G hl.1 (kM_bringBack (l := l) c3) qx_M_171 qm_M_bringBack_d ⟨by decide, by decide⟩ ⟨Nat.le_refl _, Nat.le_refl _⟩ rfl rfl rfl rfl rfl (Nat.le_of_ble_eq_true rfl) qm_M_raise_114 (fun H locs G => ?_)
    refine lv_aload_n C.1 C.2.1 qm_M_raise_117 rfl (lv_at hl 0 rfl) ?_
    refine lv_iconst (v := 2) C.1 C.2.1 qm_M_raise_118 (by decide) ?_
    refine q_put (wf := (mW h K)) (S' := (pI S3 2 2)) C G qi_M qY_M qy_M qn_M 0 rfl rfl 5 (by decide) qz_836 rfl rfl (Nat.le_of_ble_eq_true rfl) rfl qm_M_raise_119 (fun H locs G => ?_)
    exact q_vret (wf := (mW h K)) C G hf qm_M_raise_122
set_option maxHeartbeats 4000000 in
set_option maxRecDepth 100000 in
theorem wM_raise_95 {l : Launch} {D : va_G} {h : Nat → Nat} {K : Nat → ClassId} {res : qS} {p : Program} {e : Env} {s : State} {m : MethodId} {args : Array Value} {below : List Frame} {meth : Method} {c : Code} {A : Nat → Prop} {ad : Nat → Nat} (C : qC p s m args meth c qm_M_raise_c 8 none qR_M ad) (S : qS) (x1 : Int32) (x3 : Int32) (hf : fM_raise_95 S x1 x3 = some res) : ∀ (H : Heap) (locs : List Loc) (ls : Array Slot), qG D qCl (mT K) A s (mW h K S) H locs → lv_has ls 8 [(0, .ref (h 0)), (1, .int x1), (3, .int x3)] → W p l e ({ frames := 4, cells := 0, slots := 0, locals := 99 }) s m args below meth c H locs 0 0 (MQ below (qQv D qCl (mT K) (mW h K) A res) args s 0 0 A) (F0 m 95 ls []) := by
  intro H locs ls G hl
  unfold fM_raise_95 at hf
  refine lv_iload_n C.1 C.2.1 qm_M_raise_95 rfl (lv_at hl 1 rfl) ?_
  refine lv_bipush (v := 6) C.1 C.2.1 qm_M_raise_96 (by decide) ?_
  refine lv_icmp_le (tgt := 106) C.1 C.2.1 qm_M_raise_98 (by decide) (fun b1 => ?_) (fun b1 => ?_)
  · have hf := if_t b1 hf
    exact wM_raise_106 C S x1 hf _ _ _ G (lv_sub hl [0, 1] rfl)
  · have hf := if_f b1 hf
    refine lv_aload_n C.1 C.2.1 qm_M_raise_101 rfl (lv_at hl 0 rfl) ?_
    refine lv_iload_n C.1 C.2.1 qm_M_raise_102 rfl (lv_at hl 2 rfl) ?_
    obtain ⟨S2, c2, hf⟩ := bnd_s hf
    refine q_callVv (wf := (mW h K)) (n := 1) (As := [.int x3]) (q0 := 0) (ci := 7) C G hl.1 (kM_push (l := l) c2) qx_M_121 qm_M_push_d ⟨by decide, by decide⟩ ⟨Nat.le_refl _, Nat.le_refl _⟩ rfl rfl rfl rfl rfl (Nat.le_of_ble_eq_true rfl) qm_M_raise_103 (fun H locs G => ?_)
    exact wM_raise_106 C S2 x1 hf _ _ _ G (lv_sub hl [0, 1] rfl)
set_option maxHeartbeats 4000000 in
set_option maxRecDepth 100000 in
theorem wM_raise_89 {l : Launch} {D : va_G} {h : Nat → Nat} {K : Nat → ClassId} {res : qS} {p : Program} {e : Env} {s : State} {m : MethodId} {args : Array Value} {below : List Frame} {meth : Method} {c : Code} {A : Nat → Prop} {ad : Nat → Nat} (C : qC p s m args meth c qm_M_raise_c 8 none qR_M ad) (S : qS) (x1 : Int32) (x3 : Int32) (x7 : Int32) (hf : fM_raise_89 S x1 x3 x7 = some res) : ∀ (H : Heap) (locs : List Loc) (ls : Array Slot), qG D qCl (mT K) A s (mW h K S) H locs → lv_has ls 8 [(0, .ref (h 0)), (1, .int x1), (3, .int x3), (7, .int x7)] → W p l e ({ frames := 4, cells := 0, slots := 0, locals := 99 }) s m args below meth c H locs 0 0 (MQ below (qQv D qCl (mT K) (mW h K) A res) args s 0 0 A) (F0 m 89 ls []) := by
  intro H locs ls G hl
  unfold fM_raise_89 at hf
  refine lv_aload_n C.1 C.2.1 qm_M_raise_89 rfl (lv_at hl 0 rfl) ?_
  refine lv_iload C.1 C.2.1 qm_M_raise_90 (lv_at hl 3 rfl) ?_
  obtain ⟨S1, c1, hf⟩ := bnd_s hf
  refine q_callVv (wf := (mW h K)) (n := 1) (As := [.int x7]) (q0 := 0) (ci := 7) C G hl.1 (kM_push (l := l) c1) qx_M_121 qm_M_push_d ⟨by decide, by decide⟩ ⟨Nat.le_refl _, Nat.le_refl _⟩ rfl rfl rfl rfl rfl (Nat.le_of_ble_eq_true rfl) qm_M_raise_92 (fun H locs G => ?_)
  exact wM_raise_95 C S1 x1 x3 hf _ _ _ G (lv_sub hl [0, 1, 2] rfl)
set_option maxHeartbeats 4000000 in
set_option maxRecDepth 100000 in
theorem wM_raise_79 {l : Launch} {D : va_G} {h : Nat → Nat} {K : Nat → ClassId} {res : qS} {p : Program} {e : Env} {s : State} {m : MethodId} {args : Array Value} {below : List Frame} {meth : Method} {c : Code} {A : Nat → Prop} {ad : Nat → Nat} (C : qC p s m args meth c qm_M_raise_c 8 none qR_M ad) (S : qS) (x1 : Int32) (x3 : Int32) (x7 : Int32) (hf : fM_raise_79 S x1 x3 x7 = some res) : ∀ (H : Heap) (locs : List Loc) (ls : Array Slot), qG D qCl (mT K) A s (mW h K S) H locs → lv_has ls 8 [(0, .ref (h 0)), (1, .int x1), (3, .int x3), (7, .int x7)] → W p l e ({ frames := 4, cells := 0, slots := 0, locals := 99 }) s m args below meth c H locs 0 0 (MQ below (qQv D qCl (mT K) (mW h K) A res) args s 0 0 A) (F0 m 79 ls []) := by
  intro H locs ls G hl
  unfold fM_raise_79 at hf
  refine lv_iload_n C.1 C.2.1 qm_M_raise_79 rfl (lv_at hl 1 rfl) ?_
  refine lv_iconst (v := 4) C.1 C.2.1 qm_M_raise_80 (by decide) ?_
  refine lv_icmp_eq (tgt := 89) C.1 C.2.1 qm_M_raise_81 (by decide) (fun b1 => ?_) (fun b1 => ?_)
  · have hf := if_t b1 hf
    exact wM_raise_89 C S x1 x3 x7 hf _ _ _ G (lv_sub hl [0, 1, 2, 3] rfl)
  · have hf := if_f b1 hf
    refine lv_iload_n C.1 C.2.1 qm_M_raise_84 rfl (lv_at hl 1 rfl) ?_
    refine lv_iconst (v := 5) C.1 C.2.1 qm_M_raise_85 (by decide) ?_
    refine lv_icmp_ne (tgt := 95) C.1 C.2.1 qm_M_raise_86 (by decide) (fun b2 => ?_) (fun b2 => ?_)
    · have hf := if_t b2 hf
      exact wM_raise_95 C S x1 x3 hf _ _ _ G (lv_sub hl [0, 1, 2] rfl)
    · have hf := if_f (not_not_intro b2) hf
      exact wM_raise_89 C S x1 x3 x7 hf _ _ _ G (lv_sub hl [0, 1, 2, 3] rfl)
set_option maxHeartbeats 4000000 in
set_option maxRecDepth 100000 in
theorem wM_raise_73 {l : Launch} {D : va_G} {h : Nat → Nat} {K : Nat → ClassId} {res : qS} {p : Program} {e : Env} {s : State} {m : MethodId} {args : Array Value} {below : List Frame} {meth : Method} {c : Code} {A : Nat → Prop} {ad : Nat → Nat} (C : qC p s m args meth c qm_M_raise_c 8 none qR_M ad) (S : qS) (x1 : Int32) (x3 : Int32) (x6 : Int32) (x7 : Int32) (hf : fM_raise_73 S x1 x3 x6 x7 = some res) : ∀ (H : Heap) (locs : List Loc) (ls : Array Slot), qG D qCl (mT K) A s (mW h K S) H locs → lv_has ls 8 [(0, .ref (h 0)), (1, .int x1), (3, .int x3), (6, .int x6), (7, .int x7)] → W p l e ({ frames := 4, cells := 0, slots := 0, locals := 99 }) s m args below meth c H locs 0 0 (MQ below (qQv D qCl (mT K) (mW h K) A res) args s 0 0 A) (F0 m 73 ls []) := by
  intro H locs ls G hl
  unfold fM_raise_73 at hf
  refine lv_aload_n C.1 C.2.1 qm_M_raise_73 rfl (lv_at hl 0 rfl) ?_
  refine lv_iload C.1 C.2.1 qm_M_raise_74 (lv_at hl 3 rfl) ?_
  obtain ⟨S1, c1, hf⟩ := bnd_s hf
  refine q_callVv (wf := (mW h K)) (n := 1) (As := [.int x6]) (q0 := 0) (ci := 7) C G hl.1 (kM_push (l := l) c1) qx_M_121 qm_M_push_d ⟨by decide, by decide⟩ ⟨Nat.le_refl _, Nat.le_refl _⟩ rfl rfl rfl rfl rfl (Nat.le_of_ble_eq_true rfl) qm_M_raise_76 (fun H locs G => ?_)
  exact wM_raise_79 C S1 x1 x3 x7 hf _ _ _ G (lv_sub hl [0, 1, 2, 4] rfl)
set_option maxHeartbeats 4000000 in
set_option maxRecDepth 100000 in
theorem wM_raise {l : Launch} {D : va_G} {h : Nat → Nat} {K : Nat → ClassId} {res : qS} {p : Program} {e : Env} {s : State} {m : MethodId} {args : Array Value} {below : List Frame} {meth : Method} {c : Code} {A : Nat → Prop} {ad : Nat → Nat} (C : qC p s m args meth c qm_M_raise_c 8 none qR_M ad) (S : qS) (a1 : Int32) (a2 : Int32) (a3 : Int32) (hf : fM_raise S a1 a2 a3 = some res) : ∀ (H : Heap) (locs : List Loc) (ls : Array Slot), qG D qCl (mT K) A s (mW h K S) H locs → lv_has ls 8 [(0, .ref (h 0)), (1, .int a1), (2, .int a2), (3, .int a3)] → W p l e ({ frames := 4, cells := 0, slots := 0, locals := 99 }) s m args below meth c H locs 0 0 (MQ below (qQv D qCl (mT K) (mW h K) A res) args s 0 0 A) (F0 m 0 ls []) := by
  intro H locs ls G hl
  unfold fM_raise at hf
  refine lv_aload_n C.1 C.2.1 qm_M_raise_0 rfl (lv_at hl 0 rfl) ?_
  refine q_get (wf := (mW h K)) (v := .int (S.1 1)) C G qi_M 0 rfl rfl 4 (by decide) qz_835 rfl qm_M_raise_1 ?_
  refine lv_istore (lv' := [(4, .int (S.1 1)), (0, .ref (h 0)), (1, .int a1), (2, .int a2), (3, .int a3)]) C.1 C.2.1 qm_M_raise_4 hl (by decide) rfl (fun ls hl => ?_)
  refine lv_aload_n C.1 C.2.1 qm_M_raise_6 rfl (lv_at hl 1 rfl) ?_
  refine q_get (wf := (mW h K)) (v := .ref (h 2)) C G qi_M 0 rfl rfl 2 (by decide) qz_833 rfl qm_M_raise_7 ?_
  refine lv_bipush (v := 15) C.1 C.2.1 qm_M_raise_10 (by decide) ?_
  refine q_iald (wf := (mW h K)) C G 2 1 rfl rfl (by decide) qm_M_raise_12 ?_
  refine lv_istore (lv' := [(5, .int (gA S 1 15)), (4, .int (S.1 1)), (0, .ref (h 0)), (1, .int a1), (2, .int a2), (3, .int a3)]) C.1 C.2.1 qm_M_raise_13 hl (by decide) rfl (fun ls hl => ?_)
  refine lv_aload_n C.1 C.2.1 qm_M_raise_15 rfl (lv_at hl 2 rfl) ?_
  refine q_get (wf := (mW h K)) (v := .int (S.1 8)) C G qi_M 0 rfl rfl 13 (by decide) qz_844 rfl qm_M_raise_16 ?_
  refine lv_istore (lv' := [(6, .int (S.1 8)), (5, .int (gA S 1 15)), (4, .int (S.1 1)), (0, .ref (h 0)), (1, .int a1), (2, .int a2), (3, .int a3)]) C.1 C.2.1 qm_M_raise_19 hl (by decide) rfl (fun ls hl => ?_)
  refine lv_aload_n C.1 C.2.1 qm_M_raise_21 rfl (lv_at hl 3 rfl) ?_
  refine q_get (wf := (mW h K)) (v := .int (S.1 9)) C G qi_M 0 rfl rfl 14 (by decide) qz_845 rfl qm_M_raise_22 ?_
  refine lv_istore (lv' := [(7, .int (S.1 9)), (6, .int (S.1 8)), (5, .int (gA S 1 15)), (4, .int (S.1 1)), (0, .ref (h 0)), (1, .int a1), (2, .int a2), (3, .int a3)]) C.1 C.2.1 qm_M_raise_25 hl (by decide) rfl (fun ls hl => ?_)
  refine lv_aload_n C.1 C.2.1 qm_M_raise_27 rfl (lv_at hl 4 rfl) ?_
  refine lv_iconst (v := 0) C.1 C.2.1 qm_M_raise_28 (by decide) ?_
  refine q_put (wf := (mW h K)) (S' := (pI S 7 0)) C G qi_M qY_M qy_M qn_M 0 rfl rfl 12 (by decide) qz_843 rfl rfl (Nat.le_of_ble_eq_true rfl) rfl qm_M_raise_29 (fun H locs G => ?_)
  refine lv_aload_n C.1 C.2.1 qm_M_raise_32 rfl (lv_at hl 4 rfl) ?_
  refine lv_iload_n C.1 C.2.1 qm_M_raise_33 rfl (lv_at hl 6 rfl) ?_
  refine lv_bipush (v := 24) C.1 C.2.1 qm_M_raise_34 (by decide) ?_
  refine lv_ishl C.1 C.2.1 qm_M_raise_36 ?_
  refine lv_iload C.1 C.2.1 qm_M_raise_37 (lv_at hl 3 rfl) ?_
  refine lv_bipush (v := 24) C.1 C.2.1 qm_M_raise_39 (by decide) ?_
  refine lv_ishr C.1 C.2.1 qm_M_raise_41 ?_
  refine lv_iconst (v := 3) C.1 C.2.1 qm_M_raise_42 (by decide) ?_
  refine lv_iand C.1 C.2.1 qm_M_raise_43 ?_
  refine lv_bipush (v := 22) C.1 C.2.1 qm_M_raise_44 (by decide) ?_
  refine lv_ishl C.1 C.2.1 qm_M_raise_46 ?_
  refine lv_ior C.1 C.2.1 qm_M_raise_47 ?_
  refine q_put (wf := (mW h K)) (S' := (pI (pI S 7 0) 1 ((a2 <<< ((24 : Int32) &&& 31)) ||| ((((S.1 1) >>> ((24 : Int32) &&& 31)) &&& 3) <<< ((22 : Int32) &&& 31))))) C G qi_M qY_M qy_M qn_M 0 rfl rfl 4 (by decide) qz_835 rfl rfl (Nat.le_of_ble_eq_true rfl) rfl qm_M_raise_48 (fun H locs G => ?_)
  refine lv_aload_n C.1 C.2.1 qm_M_raise_51 rfl (lv_at hl 4 rfl) ?_
  refine lv_iload C.1 C.2.1 qm_M_raise_52 (lv_at hl 3 rfl) ?_
  obtain ⟨S1, c1, hf⟩ := bnd_s hf
  refine q_callVv (wf := (mW h K)) (n := 1) (As := [.int (S.1 1)]) (q0 := 0) (ci := 7) C G hl.1 (kM_push (l := l) c1) qx_M_121 qm_M_push_d ⟨by decide, by decide⟩ ⟨Nat.le_refl _, Nat.le_refl _⟩ rfl rfl rfl rfl rfl (Nat.le_of_ble_eq_true rfl) qm_M_raise_54 (fun H locs G => ?_)
  refine lv_aload_n C.1 C.2.1 qm_M_raise_57 rfl (lv_at hl 4 rfl) ?_
  refine lv_iload C.1 C.2.1 qm_M_raise_58 (lv_at hl 2 rfl) ?_
  obtain ⟨S2, c2, hf⟩ := bnd_s hf
  refine q_callVv (wf := (mW h K)) (n := 1) (As := [.int (gA S 1 15)]) (q0 := 0) (ci := 7) C G hl.1 (kM_push (l := l) c2) qx_M_121 qm_M_push_d ⟨by decide, by decide⟩ ⟨Nat.le_refl _, Nat.le_refl _⟩ rfl rfl rfl rfl rfl (Nat.le_of_ble_eq_true rfl) qm_M_raise_60 (fun H locs G => ?_)
  refine lv_iload_n C.1 C.2.1 qm_M_raise_63 rfl (lv_at hl 5 rfl) ?_
  refine lv_iconst (v := 4) C.1 C.2.1 qm_M_raise_64 (by decide) ?_
  refine lv_icmp_eq (tgt := 73) C.1 C.2.1 qm_M_raise_65 (by decide) (fun b3 => ?_) (fun b3 => ?_)
  · have hf := if_t b3 hf
    exact wM_raise_73 C S2 a1 a3 (S.1 8) (S.1 9) hf _ _ _ G (lv_sub hl [4, 5, 7, 1, 0] rfl)
  · have hf := if_f b3 hf
    refine lv_iload_n C.1 C.2.1 qm_M_raise_68 rfl (lv_at hl 5 rfl) ?_
    refine lv_iconst (v := 5) C.1 C.2.1 qm_M_raise_69 (by decide) ?_
    refine lv_icmp_ne (tgt := 79) C.1 C.2.1 qm_M_raise_70 (by decide) (fun b4 => ?_) (fun b4 => ?_)
    · have hf := if_t b4 hf
      exact wM_raise_79 C S2 a1 a3 (S.1 9) hf _ _ _ G (lv_sub hl [4, 5, 7, 0] rfl)
    · have hf := if_f (not_not_intro b4) hf
      exact wM_raise_73 C S2 a1 a3 (S.1 8) (S.1 9) hf _ _ _ G (lv_sub hl [4, 5, 7, 1, 0] rfl)
theorem kM_raise {l : Launch} {ad : Nat → Nat} {D : va_G} {h : Nat → Nat} {K : Nat → ClassId} {res : qS} {S : qS} {a1 : Int32} {a2 : Int32} {a3 : Int32} (hf : fM_raise S a1 a2 a3 = some res) : qMv l qm_M_raise qm_M_raise_c 8 4 99 D qCl (mT K) ad (mW h K) [.ref (h 0), .int a1, .int a2, .int a3] S res := qMv_of (by decide) (Nat.le_of_ble_eq_true rfl) (fun _ _ _ _ _ _ _ _ _ _ C G hl => wM_raise C S a1 a2 a3 hf _ _ _ G hl)
