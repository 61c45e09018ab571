theorem qm_M_instruction_0 : decode qm_M_instruction_c 0 = .ok (.aload_n 0, 1) := by decide +kernel
theorem qm_M_instruction_1 : decode qm_M_instruction_c 1 = .ok (.invokevirtual 183, 3) := by decide +kernel
theorem qm_M_instruction_4 : decode qm_M_instruction_c 4 = .ok (.aload_n 0, 1) := by decide +kernel
theorem qm_M_instruction_5 : decode qm_M_instruction_c 5 = .ok (.iconst 0, 1) := by decide +kernel
theorem qm_M_instruction_6 : decode qm_M_instruction_c 6 = .ok (.putfield 60, 3) := by decide +kernel
theorem qm_M_instruction_9 : decode qm_M_instruction_c 9 = .ok (.aload_n 0, 1) := by decide +kernel
theorem qm_M_instruction_10 : decode qm_M_instruction_c 10 = .ok (.iconst 0, 1) := by decide +kernel
theorem qm_M_instruction_11 : decode qm_M_instruction_c 11 = .ok (.putfield 110, 3) := by decide +kernel
theorem qm_M_instruction_14 : decode qm_M_instruction_c 14 = .ok (.aload_n 0, 1) := by decide +kernel
theorem qm_M_instruction_15 : decode qm_M_instruction_c 15 = .ok (.invokevirtual 100, 3) := by decide +kernel
theorem qm_M_instruction_18 : decode qm_M_instruction_c 18 = .ok (.istore_n 1, 1) := by decide +kernel
theorem qm_M_instruction_19 : decode qm_M_instruction_c 19 = .ok (.iload_n 1, 1) := by decide +kernel
theorem qm_M_instruction_20 : decode qm_M_instruction_c 20 = .ok (.bipush 70, 2) := by decide +kernel
theorem qm_M_instruction_22 : decode qm_M_instruction_c 22 = .ok (.if_icmp .gt 26, 3) := by decide +kernel
theorem qm_M_instruction_25 : decode qm_M_instruction_c 25 = .ok (.iload_n 1, 1) := by decide +kernel
theorem qm_M_instruction_26 : decode qm_M_instruction_c 26 = .ok (.ifCond .eq 15, 3) := by decide +kernel
theorem qm_M_instruction_29 : decode qm_M_instruction_c 29 = .ok (.iload_n 1, 1) := by decide +kernel
theorem qm_M_instruction_30 : decode qm_M_instruction_c 30 = .ok (.bipush 10, 2) := by decide +kernel
theorem qm_M_instruction_32 : decode qm_M_instruction_c 32 = .ok (.if_icmp .eq 9, 3) := by decide +kernel
theorem qm_M_instruction_35 : decode qm_M_instruction_c 35 = .ok (.iload_n 1, 1) := by decide +kernel
theorem qm_M_instruction_36 : decode qm_M_instruction_c 36 = .ok (.bipush 11, 2) := by decide +kernel
theorem qm_M_instruction_38 : decode qm_M_instruction_c 38 = .ok (.if_icmp .ne 14, 3) := by decide +kernel
theorem qm_M_instruction_41 : decode qm_M_instruction_c 41 = .ok (.aload_n 0, 1) := by decide +kernel
theorem qm_M_instruction_42 : decode qm_M_instruction_c 42 = .ok (.invokevirtual 69, 3) := by decide +kernel
theorem qm_M_instruction_45 : decode qm_M_instruction_c 45 = .ok (.ifCond .eq 7, 3) := by decide +kernel
theorem qm_M_instruction_48 : decode qm_M_instruction_c 48 = .ok (.iconst 1, 1) := by decide +kernel
theorem qm_M_instruction_49 : decode qm_M_instruction_c 49 = .ok (.goto 4, 3) := by decide +kernel
theorem qm_M_instruction_52 : decode qm_M_instruction_c 52 = .ok (.iconst 0, 1) := by decide +kernel
theorem qm_M_instruction_53 : decode qm_M_instruction_c 53 = .ok (.istore_n 2, 1) := by decide +kernel
theorem qm_M_instruction_54 : decode qm_M_instruction_c 54 = .ok (.iload_n 2, 1) := by decide +kernel
theorem qm_M_instruction_55 : decode qm_M_instruction_c 55 = .ok (.ifCond .eq 10, 3) := by decide +kernel
theorem qm_M_instruction_58 : decode qm_M_instruction_c 58 = .ok (.aload_n 0, 1) := by decide +kernel
theorem qm_M_instruction_59 : decode qm_M_instruction_c 59 = .ok (.iconst 1, 1) := by decide +kernel
theorem qm_M_instruction_60 : decode qm_M_instruction_c 60 = .ok (.iconst 0, 1) := by decide +kernel
theorem qm_M_instruction_61 : decode qm_M_instruction_c 61 = .ok (.iconst 0, 1) := by decide +kernel
theorem qm_M_instruction_62 : decode qm_M_instruction_c 62 = .ok (.invokevirtual 77, 3) := by decide +kernel
theorem qm_M_instruction_65 : decode qm_M_instruction_c 65 = .ok (.iload_n 2, 1) := by decide +kernel
theorem qm_M_instruction_66 : decode qm_M_instruction_c 66 = .ok (.ifCond .eq 7, 3) := by decide +kernel
theorem qm_M_instruction_69 : decode qm_M_instruction_c 69 = .ok (.iconst 0, 1) := by decide +kernel
theorem qm_M_instruction_70 : decode qm_M_instruction_c 70 = .ok (.goto 7, 3) := by decide +kernel
theorem qm_M_instruction_73 : decode qm_M_instruction_c 73 = .ok (.iload_n 1, 1) := by decide +kernel
theorem qm_M_instruction_74 : decode qm_M_instruction_c 74 = .ok (.invokestatic 186, 3) := by decide +kernel
theorem qm_M_instruction_77 : decode qm_M_instruction_c 77 = .ok (.istore_n 3, 1) := by decide +kernel
theorem qm_M_instruction_78 : decode qm_M_instruction_c 78 = .ok (.iconst 0, 1) := by decide +kernel
theorem qm_M_instruction_79 : decode qm_M_instruction_c 79 = .ok (.istore 4, 2) := by decide +kernel
theorem qm_M_instruction_81 : decode qm_M_instruction_c 81 = .ok (.iload 4, 2) := by decide +kernel
theorem qm_M_instruction_83 : decode qm_M_instruction_c 83 = .ok (.iconst 3, 1) := by decide +kernel
theorem qm_M_instruction_84 : decode qm_M_instruction_c 84 = .ok (.if_icmp .ge 61, 3) := by decide +kernel
theorem qm_M_instruction_87 : decode qm_M_instruction_c 87 = .ok (.aload_n 0, 1) := by decide +kernel
theorem qm_M_instruction_88 : decode qm_M_instruction_c 88 = .ok (.getfield 60, 3) := by decide +kernel
theorem qm_M_instruction_91 : decode qm_M_instruction_c 91 = .ok (.ifCond .ne 54, 3) := by decide +kernel
theorem qm_M_instruction_94 : decode qm_M_instruction_c 94 = .ok (.iload_n 3, 1) := by decide +kernel
theorem qm_M_instruction_95 : decode qm_M_instruction_c 95 = .ok (.ifCond .le 50, 3) := by decide +kernel
theorem qm_M_instruction_98 : decode qm_M_instruction_c 98 = .ok (.iload_n 3, 1) := by decide +kernel
theorem qm_M_instruction_99 : decode qm_M_instruction_c 99 = .ok (.bipush 32, 2) := by decide +kernel
theorem qm_M_instruction_101 : decode qm_M_instruction_c 101 = .ok (.irem, 1) := by decide +kernel
theorem qm_M_instruction_102 : decode qm_M_instruction_c 102 = .ok (.bipush 16, 2) := by decide +kernel
theorem qm_M_instruction_104 : decode qm_M_instruction_c 104 = .ok (.if_icmp .ne 20, 3) := by decide +kernel
theorem qm_M_instruction_107 : decode qm_M_instruction_c 107 = .ok (.aload_n 0, 1) := by decide +kernel
theorem qm_M_instruction_108 : decode qm_M_instruction_c 108 = .ok (.getfield 25, 3) := by decide +kernel
theorem qm_M_instruction_111 : decode qm_M_instruction_c 111 = .ok (.iload 4, 2) := by decide +kernel
theorem qm_M_instruction_113 : decode qm_M_instruction_c 113 = .ok (.aload_n 0, 1) := by decide +kernel
theorem qm_M_instruction_114 : decode qm_M_instruction_c 114 = .ok (.invokevirtual 100, 3) := by decide +kernel
theorem qm_M_instruction_117 : decode qm_M_instruction_c 117 = .ok (.invokestatic 103, 3) := by decide +kernel
theorem qm_M_instruction_120 : decode qm_M_instruction_c 120 = .ok (.iastore, 1) := by decide +kernel
theorem qm_M_instruction_121 : decode qm_M_instruction_c 121 = .ok (.goto 13, 3) := by decide +kernel
theorem qm_M_instruction_124 : decode qm_M_instruction_c 124 = .ok (.aload_n 0, 1) := by decide +kernel
theorem qm_M_instruction_125 : decode qm_M_instruction_c 125 = .ok (.iload 4, 2) := by decide +kernel
theorem qm_M_instruction_127 : decode qm_M_instruction_c 127 = .ok (.iload_n 3, 1) := by decide +kernel
theorem qm_M_instruction_128 : decode qm_M_instruction_c 128 = .ok (.bipush 32, 2) := by decide +kernel
theorem qm_M_instruction_130 : decode qm_M_instruction_c 130 = .ok (.irem, 1) := by decide +kernel
theorem qm_M_instruction_131 : decode qm_M_instruction_c 131 = .ok (.invokevirtual 189, 3) := by decide +kernel
theorem qm_M_instruction_134 : decode qm_M_instruction_c 134 = .ok (.iload_n 3, 1) := by decide +kernel
theorem qm_M_instruction_135 : decode qm_M_instruction_c 135 = .ok (.bipush 32, 2) := by decide +kernel
theorem qm_M_instruction_137 : decode qm_M_instruction_c 137 = .ok (.idiv, 1) := by decide +kernel
theorem qm_M_instruction_138 : decode qm_M_instruction_c 138 = .ok (.istore_n 3, 1) := by decide +kernel
theorem qm_M_instruction_139 : decode qm_M_instruction_c 139 = .ok (.iinc 4 1, 3) := by decide +kernel
theorem qm_M_instruction_142 : decode qm_M_instruction_c 142 = .ok (.goto (-61), 3) := by decide +kernel
theorem qm_M_instruction_145 : decode qm_M_instruction_c 145 = .ok (.aload_n 0, 1) := by decide +kernel
theorem qm_M_instruction_146 : decode qm_M_instruction_c 146 = .ok (.getfield 60, 3) := by decide +kernel
theorem qm_M_instruction_149 : decode qm_M_instruction_c 149 = .ok (.ifCond .ne 8, 3) := by decide +kernel
theorem qm_M_instruction_152 : decode qm_M_instruction_c 152 = .ok (.aload_n 0, 1) := by decide +kernel
theorem qm_M_instruction_153 : decode qm_M_instruction_c 153 = .ok (.iload_n 1, 1) := by decide +kernel
theorem qm_M_instruction_154 : decode qm_M_instruction_c 154 = .ok (.invokevirtual 192, 3) := by decide +kernel
theorem qm_M_instruction_157 : decode qm_M_instruction_c 157 = .ok (.iload_n 1, 1) := by decide +kernel
theorem qm_M_instruction_158 : decode qm_M_instruction_c 158 = .ok (.ifCond .ne 15, 3) := by decide +kernel
theorem qm_M_instruction_161 : decode qm_M_instruction_c 161 = .ok (.aload_n 0, 1) := by decide +kernel
theorem qm_M_instruction_162 : decode qm_M_instruction_c 162 = .ok (.getfield 60, 3) := by decide +kernel
theorem qm_M_instruction_165 : decode qm_M_instruction_c 165 = .ok (.ifCond .ne 8, 3) := by decide +kernel
theorem qm_M_instruction_168 : decode qm_M_instruction_c 168 = .ok (.aload_n 0, 1) := by decide +kernel
theorem qm_M_instruction_169 : decode qm_M_instruction_c 169 = .ok (.iconst 1, 1) := by decide +kernel
theorem qm_M_instruction_170 : decode qm_M_instruction_c 170 = .ok (.putfield 174, 3) := by decide +kernel
theorem qm_M_instruction_173 : decode qm_M_instruction_c 173 = .ok (.aload_n 0, 1) := by decide +kernel
theorem qm_M_instruction_174 : decode qm_M_instruction_c 174 = .ok (.dup, 1) := by decide +kernel
theorem qm_M_instruction_175 : decode qm_M_instruction_c 175 = .ok (.getfield 195, 3) := by decide +kernel
theorem qm_M_instruction_178 : decode qm_M_instruction_c 178 = .ok (.iconst 1, 1) := by decide +kernel
theorem qm_M_instruction_179 : decode qm_M_instruction_c 179 = .ok (.iadd, 1) := by decide +kernel
theorem qm_M_instruction_180 : decode qm_M_instruction_c 180 = .ok (.putfield 195, 3) := by decide +kernel
theorem qm_M_instruction_183 : decode qm_M_instruction_c 183 = .ok (.aload_n 0, 1) := by decide +kernel
theorem qm_M_instruction_184 : decode qm_M_instruction_c 184 = .ok (.getfield 60, 3) := by decide +kernel
theorem qm_M_instruction_187 : decode qm_M_instruction_c 187 = .ok (.ifCond .eq 20, 3) := by decide +kernel
theorem qm_M_instruction_190 : decode qm_M_instruction_c 190 = .ok (.aload_n 0, 1) := by decide +kernel
theorem qm_M_instruction_191 : decode qm_M_instruction_c 191 = .ok (.invokevirtual 171, 3) := by decide +kernel
theorem qm_M_instruction_194 : decode qm_M_instruction_c 194 = .ok (.aload_n 0, 1) := by decide +kernel
theorem qm_M_instruction_195 : decode qm_M_instruction_c 195 = .ok (.aload_n 0, 1) := by decide +kernel
theorem qm_M_instruction_196 : decode qm_M_instruction_c 196 = .ok (.getfield 60, 3) := by decide +kernel
theorem qm_M_instruction_199 : decode qm_M_instruction_c 199 = .ok (.iconst 0, 1) := by decide +kernel
theorem qm_M_instruction_200 : decode qm_M_instruction_c 200 = .ok (.iconst 0, 1) := by decide +kernel
theorem qm_M_instruction_201 : decode qm_M_instruction_c 201 = .ok (.invokevirtual 198, 3) := by decide +kernel
theorem qm_M_instruction_204 : decode qm_M_instruction_c 204 = .ok (.goto 132, 3) := by decide +kernel
theorem qm_M_instruction_207 : decode qm_M_instruction_c 207 = .ok (.aload_n 0, 1) := by decide +kernel
theorem qm_M_instruction_208 : decode qm_M_instruction_c 208 = .ok (.getfield 110, 3) := by decide +kernel
theorem qm_M_instruction_211 : decode qm_M_instruction_c 211 = .ok (.ifCond .ne 54, 3) := by decide +kernel
theorem qm_M_instruction_214 : decode qm_M_instruction_c 214 = .ok (.aload_n 0, 1) := by decide +kernel
theorem qm_M_instruction_215 : decode qm_M_instruction_c 215 = .ok (.iconst 5, 1) := by decide +kernel
theorem qm_M_instruction_216 : decode qm_M_instruction_c 216 = .ok (.invokevirtual 106, 3) := by decide +kernel
theorem qm_M_instruction_219 : decode qm_M_instruction_c 219 = .ok (.ifCond .eq 46, 3) := by decide +kernel
theorem qm_M_instruction_222 : decode qm_M_instruction_c 222 = .ok (.aload_n 0, 1) := by decide +kernel
theorem qm_M_instruction_223 : decode qm_M_instruction_c 223 = .ok (.iconst 1, 1) := by decide +kernel
theorem qm_M_instruction_224 : decode qm_M_instruction_c 224 = .ok (.invokevirtual 106, 3) := by decide +kernel
theorem qm_M_instruction_227 : decode qm_M_instruction_c 227 = .ok (.ifCond .eq 38, 3) := by decide +kernel
theorem qm_M_instruction_230 : decode qm_M_instruction_c 230 = .ok (.iload_n 1, 1) := by decide +kernel
theorem qm_M_instruction_231 : decode qm_M_instruction_c 231 = .ok (.bipush 16, 2) := by decide +kernel
theorem qm_M_instruction_233 : decode qm_M_instruction_c 233 = .ok (.if_icmp .le 9, 3) := by decide +kernel
theorem qm_M_instruction_236 : decode qm_M_instruction_c 236 = .ok (.iload_n 1, 1) := by decide +kernel
theorem qm_M_instruction_237 : decode qm_M_instruction_c 237 = .ok (.bipush 42, 2) := by decide +kernel
theorem qm_M_instruction_239 : decode qm_M_instruction_c 239 = .ok (.if_icmp .lt 15, 3) := by decide +kernel
theorem qm_M_instruction_242 : decode qm_M_instruction_c 242 = .ok (.iload_n 1, 1) := by decide +kernel
theorem qm_M_instruction_243 : decode qm_M_instruction_c 243 = .ok (.bipush 63, 2) := by decide +kernel
theorem qm_M_instruction_245 : decode qm_M_instruction_c 245 = .ok (.if_icmp .le 20, 3) := by decide +kernel
theorem qm_M_instruction_248 : decode qm_M_instruction_c 248 = .ok (.iload_n 1, 1) := by decide +kernel
theorem qm_M_instruction_249 : decode qm_M_instruction_c 249 = .ok (.bipush 68, 2) := by decide +kernel
theorem qm_M_instruction_251 : decode qm_M_instruction_c 251 = .ok (.if_icmp .ge 14, 3) := by decide +kernel
theorem qm_M_instruction_254 : decode qm_M_instruction_c 254 = .ok (.aload_n 0, 1) := by decide +kernel
theorem qm_M_instruction_255 : decode qm_M_instruction_c 255 = .ok (.bipush 7, 2) := by decide +kernel
theorem qm_M_instruction_257 : decode qm_M_instruction_c 257 = .ok (.iconst 0, 1) := by decide +kernel
theorem qm_M_instruction_258 : decode qm_M_instruction_c 258 = .ok (.iconst 1, 1) := by decide +kernel
theorem qm_M_instruction_259 : decode qm_M_instruction_c 259 = .ok (.invokevirtual 198, 3) := by decide +kernel
theorem qm_M_instruction_262 : decode qm_M_instruction_c 262 = .ok (.goto 74, 3) := by decide +kernel
theorem qm_M_instruction_265 : decode qm_M_instruction_c 265 = .ok (.aload_n 0, 1) := by decide +kernel
theorem qm_M_instruction_266 : decode qm_M_instruction_c 266 = .ok (.getfield 110, 3) := by decide +kernel
theorem qm_M_instruction_269 : decode qm_M_instruction_c 269 = .ok (.ifCond .le 17, 3) := by decide +kernel
theorem qm_M_instruction_272 : decode qm_M_instruction_c 272 = .ok (.aload_n 0, 1) := by decide +kernel
theorem qm_M_instruction_273 : decode qm_M_instruction_c 273 = .ok (.bipush 7, 2) := by decide +kernel
theorem qm_M_instruction_275 : decode qm_M_instruction_c 275 = .ok (.iconst 0, 1) := by decide +kernel
theorem qm_M_instruction_276 : decode qm_M_instruction_c 276 = .ok (.aload_n 0, 1) := by decide +kernel
theorem qm_M_instruction_277 : decode qm_M_instruction_c 277 = .ok (.getfield 110, 3) := by decide +kernel
theorem qm_M_instruction_280 : decode qm_M_instruction_c 280 = .ok (.invokevirtual 198, 3) := by decide +kernel
theorem qm_M_instruction_283 : decode qm_M_instruction_c 283 = .ok (.goto 53, 3) := by decide +kernel
theorem qm_M_instruction_286 : decode qm_M_instruction_c 286 = .ok (.iload_n 1, 1) := by decide +kernel
theorem qm_M_instruction_287 : decode qm_M_instruction_c 287 = .ok (.iconst 5, 1) := by decide +kernel
theorem qm_M_instruction_288 : decode qm_M_instruction_c 288 = .ok (.if_icmp .le 48, 3) := by decide +kernel
theorem qm_M_instruction_291 : decode qm_M_instruction_c 291 = .ok (.iload_n 1, 1) := by decide +kernel
theorem qm_M_instruction_292 : decode qm_M_instruction_c 292 = .ok (.bipush 10, 2) := by decide +kernel
theorem qm_M_instruction_294 : decode qm_M_instruction_c 294 = .ok (.if_icmp .ge 42, 3) := by decide +kernel
theorem qm_M_instruction_297 : decode qm_M_instruction_c 297 = .ok (.iload_n 1, 1) := by decide +kernel
theorem qm_M_instruction_298 : decode qm_M_instruction_c 298 = .ok (.bipush 6, 2) := by decide +kernel
theorem qm_M_instruction_300 : decode qm_M_instruction_c 300 = .ok (.isub, 1) := by decide +kernel
theorem qm_M_instruction_301 : decode qm_M_instruction_c 301 = .ok (.aload_n 0, 1) := by decide +kernel
theorem qm_M_instruction_302 : decode qm_M_instruction_c 302 = .ok (.invokevirtual 69, 3) := by decide +kernel
theorem qm_M_instruction_305 : decode qm_M_instruction_c 305 = .ok (.if_icmp .ge 10, 3) := by decide +kernel
theorem qm_M_instruction_308 : decode qm_M_instruction_c 308 = .ok (.iload_n 1, 1) := by decide +kernel
theorem qm_M_instruction_309 : decode qm_M_instruction_c 309 = .ok (.bipush 6, 2) := by decide +kernel
theorem qm_M_instruction_311 : decode qm_M_instruction_c 311 = .ok (.isub, 1) := by decide +kernel
theorem qm_M_instruction_312 : decode qm_M_instruction_c 312 = .ok (.goto 7, 3) := by decide +kernel
theorem qm_M_instruction_315 : decode qm_M_instruction_c 315 = .ok (.aload_n 0, 1) := by decide +kernel
theorem qm_M_instruction_316 : decode qm_M_instruction_c 316 = .ok (.invokevirtual 69, 3) := by decide +kernel
theorem qm_M_instruction_319 : decode qm_M_instruction_c 319 = .ok (.istore 4, 2) := by decide +kernel
theorem qm_M_instruction_321 : decode qm_M_instruction_c 321 = .ok (.aload_n 0, 1) := by decide +kernel
theorem qm_M_instruction_322 : decode qm_M_instruction_c 322 = .ok (.iload_n 1, 1) := by decide +kernel
theorem qm_M_instruction_323 : decode qm_M_instruction_c 323 = .ok (.iconst 2, 1) := by decide +kernel
theorem qm_M_instruction_324 : decode qm_M_instruction_c 324 = .ok (.iadd, 1) := by decide +kernel
theorem qm_M_instruction_325 : decode qm_M_instruction_c 325 = .ok (.iload 4, 2) := by decide +kernel
theorem qm_M_instruction_327 : decode qm_M_instruction_c 327 = .ok (.aload_n 0, 1) := by decide +kernel
theorem qm_M_instruction_328 : decode qm_M_instruction_c 328 = .ok (.getfield 25, 3) := by decide +kernel
theorem qm_M_instruction_331 : decode qm_M_instruction_c 331 = .ok (.iconst 0, 1) := by decide +kernel
theorem qm_M_instruction_332 : decode qm_M_instruction_c 332 = .ok (.iaload, 1) := by decide +kernel
theorem qm_M_instruction_333 : decode qm_M_instruction_c 333 = .ok (.invokevirtual 198, 3) := by decide +kernel
theorem qm_M_instruction_336 : decode qm_M_instruction_c 336 = .ok (.return_, 1) := by decide +kernel
theorem qm_M_run_0 : decode qm_M_run_c 0 = .ok (.iload_n 1, 1) := by decide +kernel
theorem qm_M_run_1 : decode qm_M_run_c 1 = .ok (.iconst 1, 1) := by decide +kernel
theorem qm_M_run_2 : decode qm_M_run_c 2 = .ok (.if_icmp .lt 10, 3) := by decide +kernel
theorem qm_M_run_5 : decode qm_M_run_c 5 = .ok (.iload_n 1, 1) := by decide +kernel
theorem qm_M_run_6 : decode qm_M_run_c 6 = .ok (.sipush 200, 3) := by decide +kernel
theorem qm_M_run_9 : decode qm_M_run_c 9 = .ok (.if_icmp .le 9, 3) := by decide +kernel
theorem qm_M_run_12 : decode qm_M_run_c 12 = .ok (.aload_n 0, 1) := by decide +kernel
theorem qm_M_run_13 : decode qm_M_run_c 13 = .ok (.iconst 1, 1) := by decide +kernel
theorem qm_M_run_14 : decode qm_M_run_c 14 = .ok (.invokevirtual 203, 3) := by decide +kernel
theorem qm_M_run_17 : decode qm_M_run_c 17 = .ok (.ireturn, 1) := by decide +kernel
theorem qm_M_run_18 : decode qm_M_run_c 18 = .ok (.aload_n 0, 1) := by decide +kernel
theorem qm_M_run_19 : decode qm_M_run_c 19 = .ok (.getfield 174, 3) := by decide +kernel
theorem qm_M_run_22 : decode qm_M_run_c 22 = .ok (.ifCond .eq 9, 3) := by decide +kernel
theorem qm_M_run_25 : decode qm_M_run_c 25 = .ok (.aload_n 0, 1) := by decide +kernel
theorem qm_M_run_26 : decode qm_M_run_c 26 = .ok (.iconst 2, 1) := by decide +kernel
theorem qm_M_run_27 : decode qm_M_run_c 27 = .ok (.invokevirtual 203, 3) := by decide +kernel
theorem qm_M_run_30 : decode qm_M_run_c 30 = .ok (.ireturn, 1) := by decide +kernel
theorem qm_M_run_31 : decode qm_M_run_c 31 = .ok (.aload_n 0, 1) := by decide +kernel
theorem qm_M_run_32 : decode qm_M_run_c 32 = .ok (.iconst 0, 1) := by decide +kernel
theorem qm_M_run_33 : decode qm_M_run_c 33 = .ok (.putfield 40, 3) := by decide +kernel
theorem qm_M_run_36 : decode qm_M_run_c 36 = .ok (.iconst 0, 1) := by decide +kernel
theorem qm_M_run_37 : decode qm_M_run_c 37 = .ok (.istore_n 2, 1) := by decide +kernel
theorem qm_M_run_38 : decode qm_M_run_c 38 = .ok (.iload_n 2, 1) := by decide +kernel
theorem qm_M_run_39 : decode qm_M_run_c 39 = .ok (.iload_n 1, 1) := by decide +kernel
theorem qm_M_run_40 : decode qm_M_run_c 40 = .ok (.if_icmp .ge 20, 3) := by decide +kernel
theorem qm_M_run_43 : decode qm_M_run_c 43 = .ok (.aload_n 0, 1) := by decide +kernel
theorem qm_M_run_44 : decode qm_M_run_c 44 = .ok (.getfield 174, 3) := by decide +kernel
theorem qm_M_run_47 : decode qm_M_run_c 47 = .ok (.ifCond .ne 13, 3) := by decide +kernel
theorem qm_M_run_50 : decode qm_M_run_c 50 = .ok (.aload_n 0, 1) := by decide +kernel
theorem qm_M_run_51 : decode qm_M_run_c 51 = .ok (.invokevirtual 206, 3) := by decide +kernel
theorem qm_M_run_54 : decode qm_M_run_c 54 = .ok (.iinc 2 1, 3) := by decide +kernel
theorem qm_M_run_57 : decode qm_M_run_c 57 = .ok (.goto (-19), 3) := by decide +kernel
theorem qm_M_run_60 : decode qm_M_run_c 60 = .ok (.iload_n 2, 1) := by decide +kernel
theorem qm_M_run_61 : decode qm_M_run_c 61 = .ok (.ireturn, 1) := by decide +kernel
theorem qm_M_reach_0 : decode qm_M_reach_c 0 = .ok (.iload_n 3, 1) := by decide +kernel
theorem qm_M_reach_1 : decode qm_M_reach_c 1 = .ok (.ifCond .lt 8, 3) := by decide +kernel
theorem qm_M_reach_4 : decode qm_M_reach_c 4 = .ok (.iload_n 3, 1) := by decide +kernel
theorem qm_M_reach_5 : decode qm_M_reach_c 5 = .ok (.iconst 3, 1) := by decide +kernel
theorem qm_M_reach_6 : decode qm_M_reach_c 6 = .ok (.if_icmp .le 9, 3) := by decide +kernel
theorem qm_M_reach_9 : decode qm_M_reach_c 9 = .ok (.aload_n 0, 1) := by decide +kernel
theorem qm_M_reach_10 : decode qm_M_reach_c 10 = .ok (.iconst 1, 1) := by decide +kernel
theorem qm_M_reach_11 : decode qm_M_reach_c 11 = .ok (.invokevirtual 203, 3) := by decide +kernel
theorem qm_M_reach_14 : decode qm_M_reach_c 14 = .ok (.ireturn, 1) := by decide +kernel
theorem qm_M_reach_15 : decode qm_M_reach_c 15 = .ok (.aload_n 0, 1) := by decide +kernel
theorem qm_M_reach_16 : decode qm_M_reach_c 16 = .ok (.iconst 0, 1) := by decide +kernel
theorem qm_M_reach_17 : decode qm_M_reach_c 17 = .ok (.putfield 40, 3) := by decide +kernel
theorem qm_M_reach_20 : decode qm_M_reach_c 20 = .ok (.aload_n 0, 1) := by decide +kernel
theorem qm_M_reach_21 : decode qm_M_reach_c 21 = .ok (.iload_n 1, 1) := by decide +kernel
theorem qm_M_reach_22 : decode qm_M_reach_c 22 = .ok (.iload_n 2, 1) := by decide +kernel
theorem qm_M_reach_23 : decode qm_M_reach_c 23 = .ok (.iload_n 3, 1) := by decide +kernel
theorem qm_M_reach_24 : decode qm_M_reach_c 24 = .ok (.invokevirtual 73, 3) := by decide +kernel
theorem qm_M_reach_27 : decode qm_M_reach_c 27 = .ok (.ireturn, 1) := by decide +kernel
theorem qm_M_state_0 : decode qm_M_state_c 0 = .ok (.aload_n 0, 1) := by decide +kernel
theorem qm_M_state_1 : decode qm_M_state_c 1 = .ok (.iconst 0, 1) := by decide +kernel
theorem qm_M_state_2 : decode qm_M_state_c 2 = .ok (.putfield 40, 3) := by decide +kernel
theorem qm_M_state_5 : decode qm_M_state_c 5 = .ok (.iload_n 1, 1) := by decide +kernel
theorem qm_M_state_6 : decode qm_M_state_c 6 = .ok (.ifCond .ne 10, 3) := by decide +kernel
theorem qm_M_state_9 : decode qm_M_state_c 9 = .ok (.aload_n 0, 1) := by decide +kernel
theorem qm_M_state_10 : decode qm_M_state_c 10 = .ok (.getfield 174, 3) := by decide +kernel
theorem qm_M_state_13 : decode qm_M_state_c 13 = .ok (.goto 40, 3) := by decide +kernel
theorem qm_M_state_16 : decode qm_M_state_c 16 = .ok (.iload_n 1, 1) := by decide +kernel
theorem qm_M_state_17 : decode qm_M_state_c 17 = .ok (.iconst 1, 1) := by decide +kernel
theorem qm_M_state_18 : decode qm_M_state_c 18 = .ok (.if_icmp .ne 10, 3) := by decide +kernel
theorem qm_M_state_21 : decode qm_M_state_c 21 = .ok (.aload_n 0, 1) := by decide +kernel
theorem qm_M_state_22 : decode qm_M_state_c 22 = .ok (.getfield 195, 3) := by decide +kernel
theorem qm_M_state_25 : decode qm_M_state_c 25 = .ok (.goto 28, 3) := by decide +kernel
theorem qm_M_state_28 : decode qm_M_state_c 28 = .ok (.iload_n 1, 1) := by decide +kernel
theorem qm_M_state_29 : decode qm_M_state_c 29 = .ok (.iconst 2, 1) := by decide +kernel
theorem qm_M_state_30 : decode qm_M_state_c 30 = .ok (.if_icmp .ne 10, 3) := by decide +kernel
theorem qm_M_state_33 : decode qm_M_state_c 33 = .ok (.aload_n 0, 1) := by decide +kernel
theorem qm_M_state_34 : decode qm_M_state_c 34 = .ok (.getfield 177, 3) := by decide +kernel
theorem qm_M_state_37 : decode qm_M_state_c 37 = .ok (.goto 16, 3) := by decide +kernel
theorem qm_M_state_40 : decode qm_M_state_c 40 = .ok (.iload_n 1, 1) := by decide +kernel
theorem qm_M_state_41 : decode qm_M_state_c 41 = .ok (.iconst 3, 1) := by decide +kernel
theorem qm_M_state_42 : decode qm_M_state_c 42 = .ok (.if_icmp .ne 10, 3) := by decide +kernel
theorem qm_M_state_45 : decode qm_M_state_c 45 = .ok (.aload_n 0, 1) := by decide +kernel
theorem qm_M_state_46 : decode qm_M_state_c 46 = .ok (.getfield 180, 3) := by decide +kernel
theorem qm_M_state_49 : decode qm_M_state_c 49 = .ok (.goto 4, 3) := by decide +kernel
theorem qm_M_state_52 : decode qm_M_state_c 52 = .ok (.iconst (-1), 1) := by decide +kernel
theorem qm_M_state_53 : decode qm_M_state_c 53 = .ok (.ireturn, 1) := by decide +kernel
set_option maxHeartbeats 4000000 in
set_option maxRecDepth 100000 in
theorem wM_instruction_336 {l : Launch} {D : va_G} {h : Nat → Nat} {K : Nat → ClassId} {res : qS} {p : Program} {e : Env} {s : State} {m : MethodId} {args : Array Value} {below : List Frame} {meth : Method} {c : Code} {A : Nat → Prop} {ad : Nat → Nat} (C : qC p s m args meth c qm_M_instruction_c 5 none qR_M ad) (S : qS) (hf : fM_instruction_336 S = some res) : ∀ (H : Heap) (locs : List Loc) (ls : Array Slot), qG D qCl (mT K) A s (mW h K S) H locs → lv_has ls 5 [] → W p l e ({ frames := 7, cells := 0, slots := 0, locals := 165 }) s m args below meth c H locs 0 0 (MQ below (qQv D qCl (mT K) (mW h K) A res) args s 0 0 A) (F0 m 336 ls []) := by
  intro H locs ls G hl
  unfold fM_instruction_336 at hf
  exact q_vret (wf := (mW h K)) C G hf qm_M_instruction_336
set_option maxHeartbeats 4000000 in
set_option maxRecDepth 100000 in
theorem wM_instruction_319 {l : Launch} {D : va_G} {h : Nat → Nat} {K : Nat → ClassId} {res : qS} {p : Program} {e : Env} {s : State} {m : MethodId} {args : Array Value} {below : List Frame} {meth : Method} {c : Code} {A : Nat → Prop} {ad : Nat → Nat} (C : qC p s m args meth c qm_M_instruction_c 5 none qR_M ad) (S : qS) (x1 : Int32) (y0 : Int32) (hf : fM_instruction_319 S x1 y0 = some res) : ∀ (H : Heap) (locs : List Loc) (ls : Array Slot), qG D qCl (mT K) A s (mW h K S) H locs → lv_has ls 5 [(0, .ref (h 0)), (1, .int x1)] → W p l e ({ frames := 7, cells := 0, slots := 0, locals := 165 }) s m args below meth c H locs 0 0 (MQ below (qQv D qCl (mT K) (mW h K) A res) args s 0 0 A) (F0 m 319 ls [.int y0]) := by
  intro H locs ls G hl
  unfold fM_instruction_319 at hf
  refine lv_istore (lv' := [(4, .int y0), (0, .ref (h 0)), (1, .int x1)]) C.1 C.2.1 qm_M_instruction_319 hl (by decide) rfl (fun ls hl => ?_)
  refine lv_aload_n C.1 C.2.1 qm_M_instruction_321 rfl (lv_at hl 1 rfl) ?_
  refine lv_iload_n C.1 C.2.1 qm_M_instruction_322 rfl (lv_at hl 2 rfl) ?_
  refine lv_iconst (v := 2) C.1 C.2.1 qm_M_instruction_323 (by decide) ?_
  refine lv_iadd C.1 C.2.1 qm_M_instruction_324 ?_
  refine lv_iload C.1 C.2.1 qm_M_instruction_325 (lv_at hl 0 rfl) ?_
  refine lv_aload_n C.1 C.2.1 qm_M_instruction_327 rfl (lv_at hl 1 rfl) ?_
  refine q_get (wf := (mW h K)) (v := .ref (h 6)) C G qi_M 0 rfl rfl 16 (by decide) qz_847 rfl qm_M_instruction_328 ?_
  refine lv_iconst (v := 0) C.1 C.2.1 qm_M_instruction_331 (by decide) ?_
  refine q_iald (wf := (mW h K)) C G 6 5 rfl rfl (by decide) qm_M_instruction_332 ?_
  obtain ⟨S1, c1, hf⟩ := bnd_s hf
  refine q_callVv (wf := (mW h K)) (n := 3) (As := [.int (x1 + 2), .int y0, .int (gA S 5 0)]) (q0 := 0) (ci := 7) C G hl.1 (kM_raise (l := l) c1) qx_M_198 qm_M_raise_d ⟨by decide, by decide⟩ ⟨Nat.le_refl _, Nat.le_refl _⟩ rfl rfl rfl rfl rfl (Nat.le_of_ble_eq_true rfl) qm_M_instruction_333 (fun H locs G => ?_)
  exact wM_instruction_336 C S1 hf _ _ _ G (lv_sub hl [] rfl)
set_option maxHeartbeats 4000000 in
set_option maxRecDepth 100000 in
theorem wM_instruction_265 {l : Launch} {D : va_G} {h : Nat → Nat} {K : Nat → ClassId} {res : qS} {p : Program} {e : Env} {s : State} {m : MethodId} {args : Array Value} {below : List Frame} {meth : Method} {c : Code} {A : Nat → Prop} {ad : Nat → Nat} (C : qC p s m args meth c qm_M_instruction_c 5 none qR_M ad) (S : qS) (x1 : Int32) (hf : fM_instruction_265 S x1 = some res) : ∀ (H : Heap) (locs : List Loc) (ls : Array Slot), qG D qCl (mT K) A s (mW h K S) H locs → lv_has ls 5 [(0, .ref (h 0)), (1, .int x1)] → W p l e ({ frames := 7, cells := 0, slots := 0, locals := 165 }) s m args below meth c H locs 0 0 (MQ below (qQv D qCl (mT K) (mW h K) A res) args s 0 0 A) (F0 m 265 ls []) := by
  intro H locs ls G hl
  unfold fM_instruction_265 at hf
  refine lv_aload_n C.1 C.2.1 qm_M_instruction_265 rfl (lv_at hl 0 rfl) ?_
  refine q_get (wf := (mW h K)) (v := .int (S.1 10)) C G qi_M 0 rfl rfl 15 (by decide) qz_846 rfl qm_M_instruction_266 ?_
  refine lv_if_le (tgt := 286) C.1 C.2.1 qm_M_instruction_269 (by decide) (fun b1 => ?_) (fun b1 => ?_)
  · have hf := if_t b1 hf
    refine lv_iload_n C.1 C.2.1 qm_M_instruction_286 rfl (lv_at hl 1 rfl) ?_
    refine lv_iconst (v := 5) C.1 C.2.1 qm_M_instruction_287 (by decide) ?_
    refine lv_icmp_le (tgt := 336) C.1 C.2.1 qm_M_instruction_288 (by decide) (fun b2 => ?_) (fun b2 => ?_)
    · have hf := if_t b2 hf
      exact wM_instruction_336 C S hf _ _ _ G (lv_sub hl [] rfl)
    · have hf := if_f b2 hf
      refine lv_iload_n C.1 C.2.1 qm_M_instruction_291 rfl (lv_at hl 1 rfl) ?_
      refine lv_bipush (v := 10) C.1 C.2.1 qm_M_instruction_292 (by decide) ?_
      refine lv_icmp_ge (tgt := 336) C.1 C.2.1 qm_M_instruction_294 (by decide) (fun b3 => ?_) (fun b3 => ?_)
      · have hf := if_t b3 hf
        exact wM_instruction_336 C S hf _ _ _ G (lv_sub hl [] rfl)
      · have hf := if_f b3 hf
        refine lv_iload_n C.1 C.2.1 qm_M_instruction_297 rfl (lv_at hl 1 rfl) ?_
        refine lv_bipush (v := 6) C.1 C.2.1 qm_M_instruction_298 (by decide) ?_
        refine lv_isub C.1 C.2.1 qm_M_instruction_300 ?_
        refine lv_aload_n C.1 C.2.1 qm_M_instruction_301 rfl (lv_at hl 0 rfl) ?_
        obtain ⟨q4, c4, hf⟩ := bnd_s hf
        refine q_callVi (wf := (mW h K)) (n := 0) (As := []) (q0 := 0) (ci := 7) C G hl.1 (kM_mode (l := l) c4) qx_M_69 qm_M_mode_d ⟨by decide, by decide⟩ ⟨Nat.le_refl _, Nat.le_refl _⟩ rfl rfl rfl rfl rfl (Nat.le_of_ble_eq_true rfl) qm_M_instruction_302 (fun H locs G => ?_)
        refine lv_icmp_ge (tgt := 315) C.1 C.2.1 qm_M_instruction_305 (by decide) (fun b5 => ?_) (fun b5 => ?_)
        · have hf := if_t b5 hf
          refine lv_aload_n C.1 C.2.1 qm_M_instruction_315 rfl (lv_at hl 0 rfl) ?_
          obtain ⟨q6, c6, hf⟩ := bnd_s hf
          refine q_callVi (wf := (mW h K)) (n := 0) (As := []) (q0 := 0) (ci := 7) C G hl.1 (kM_mode (l := l) c6) qx_M_69 qm_M_mode_d ⟨by decide, by decide⟩ ⟨Nat.le_refl _, Nat.le_refl _⟩ rfl rfl rfl rfl rfl (Nat.le_of_ble_eq_true rfl) qm_M_instruction_316 (fun H locs G => ?_)
          exact wM_instruction_319 C q6.2 x1 q6.1 hf _ _ _ G (lv_sub hl [0, 1] rfl)
        · have hf := if_f b5 hf
          refine lv_iload_n C.1 C.2.1 qm_M_instruction_308 rfl (lv_at hl 1 rfl) ?_
          refine lv_bipush (v := 6) C.1 C.2.1 qm_M_instruction_309 (by decide) ?_
          refine lv_isub C.1 C.2.1 qm_M_instruction_311 ?_
          refine lv_goto (tgt := 319) C.1 C.2.1 qm_M_instruction_312 (by decide) ?_
          exact wM_instruction_319 C q4.2 x1 (x1 - 6) hf _ _ _ G (lv_sub hl [0, 1] rfl)
  · have hf := if_f b1 hf
    refine lv_aload_n C.1 C.2.1 qm_M_instruction_272 rfl (lv_at hl 0 rfl) ?_
    refine lv_bipush (v := 7) C.1 C.2.1 qm_M_instruction_273 (by decide) ?_
    refine lv_iconst (v := 0) C.1 C.2.1 qm_M_instruction_275 (by decide) ?_
    refine lv_aload_n C.1 C.2.1 qm_M_instruction_276 rfl (lv_at hl 0 rfl) ?_
    refine q_get (wf := (mW h K)) (v := .int (S.1 10)) C G qi_M 0 rfl rfl 15 (by decide) qz_846 rfl qm_M_instruction_277 ?_
    obtain ⟨S7, c7, hf⟩ := bnd_s hf
    refine q_callVv (wf := (mW h K)) (n := 3) (As := [.int 7, .int 0, .int (S.1 10)]) (q0 := 0) (ci := 7) C G hl.1 (kM_raise (l := l) c7) qx_M_198 qm_M_raise_d ⟨by decide, by decide⟩ ⟨Nat.le_refl _, Nat.le_refl _⟩ rfl rfl rfl rfl rfl (Nat.le_of_ble_eq_true rfl) qm_M_instruction_280 (fun H locs G => ?_)
    refine lv_goto (tgt := 336) C.1 C.2.1 qm_M_instruction_283 (by decide) ?_
    exact wM_instruction_336 C S7 hf _ _ _ G (lv_sub hl [] rfl)
set_option maxHeartbeats 4000000 in
set_option maxRecDepth 100000 in
theorem wM_instruction_254 {l : Launch} {D : va_G} {h : Nat → Nat} {K : Nat → ClassId} {res : qS} {p : Program} {e : Env} {s : State} {m : MethodId} {args : Array Value} {below : List Frame} {meth : Method} {c : Code} {A : Nat → Prop} {ad : Nat → Nat} (C : qC p s m args meth c qm_M_instruction_c 5 none qR_M ad) (S : qS) (hf : fM_instruction_254 S = some res) : ∀ (H : Heap) (locs : List Loc) (ls : Array Slot), qG D qCl (mT K) A s (mW h K S) H locs → lv_has ls 5 [(0, .ref (h 0))] → W p l e ({ frames := 7, cells := 0, slots := 0, locals := 165 }) s m args below meth c H locs 0 0 (MQ below (qQv D qCl (mT K) (mW h K) A res) args s 0 0 A) (F0 m 254 ls []) := by
  intro H locs ls G hl
  unfold fM_instruction_254 at hf
  refine lv_aload_n C.1 C.2.1 qm_M_instruction_254 rfl (lv_at hl 0 rfl) ?_
  refine lv_bipush (v := 7) C.1 C.2.1 qm_M_instruction_255 (by decide) ?_
  refine lv_iconst (v := 0) C.1 C.2.1 qm_M_instruction_257 (by decide) ?_
  refine lv_iconst (v := 1) C.1 C.2.1 qm_M_instruction_258 (by decide) ?_
  obtain ⟨S1, c1, hf⟩ := bnd_s hf
  refine q_callVv (wf := (mW h K)) (n := 3) (As := [.int 7, .int 0, .int 1]) (q0 := 0) (ci := 7) C G hl.1 (kM_raise (l := l) c1) qx_M_198 qm_M_raise_d ⟨by decide, by decide⟩ ⟨Nat.le_refl _, Nat.le_refl _⟩ rfl rfl rfl rfl rfl (Nat.le_of_ble_eq_true rfl) qm_M_instruction_259 (fun H locs G => ?_)
  refine lv_goto (tgt := 336) C.1 C.2.1 qm_M_instruction_262 (by decide) ?_
  exact wM_instruction_336 C S1 hf _ _ _ G (lv_sub hl [] rfl)
set_option maxHeartbeats 4000000 in
set_option maxRecDepth 100000 in
theorem wM_instruction_242 {l : Launch} {D : va_G} {h : Nat → Nat} {K : Nat → ClassId} {res : qS} {p : Program} {e : Env} {s : State} {m : MethodId} {args : Array Value} {below : List Frame} {meth : Method} {c : Code} {A : Nat → Prop} {ad : Nat → Nat} (C : qC p s m args meth c qm_M_instruction_c 5 none qR_M ad) (S : qS) (x1 : Int32) (hf : fM_instruction_242 S x1 = some res) : ∀ (H : Heap) (locs : List Loc) (ls : Array Slot), qG D qCl (mT K) A s (mW h K S) H locs → lv_has ls 5 [(0, .ref (h 0)), (1, .int x1)] → W p l e ({ frames := 7, cells := 0, slots := 0, locals := 165 }) s m args below meth c H locs 0 0 (MQ below (qQv D qCl (mT K) (mW h K) A res) args s 0 0 A) (F0 m 242 ls []) := by
  intro H locs ls G hl
  unfold fM_instruction_242 at hf
  refine lv_iload_n C.1 C.2.1 qm_M_instruction_242 rfl (lv_at hl 1 rfl) ?_
  refine lv_bipush (v := 63) C.1 C.2.1 qm_M_instruction_243 (by decide) ?_
  refine lv_icmp_le (tgt := 265) C.1 C.2.1 qm_M_instruction_245 (by decide) (fun b1 => ?_) (fun b1 => ?_)
  · have hf := if_t b1 hf
    exact wM_instruction_265 C S x1 hf _ _ _ G (lv_sub hl [0, 1] rfl)
  · have hf := if_f b1 hf
    refine lv_iload_n C.1 C.2.1 qm_M_instruction_248 rfl (lv_at hl 1 rfl) ?_
    refine lv_bipush (v := 68) C.1 C.2.1 qm_M_instruction_249 (by decide) ?_
    refine lv_icmp_ge (tgt := 265) C.1 C.2.1 qm_M_instruction_251 (by decide) (fun b2 => ?_) (fun b2 => ?_)
    · have hf := if_t b2 hf
      exact wM_instruction_265 C S x1 hf _ _ _ G (lv_sub hl [0, 1] rfl)
    · have hf := if_f b2 hf
      exact wM_instruction_254 C S hf _ _ _ G (lv_sub hl [0] rfl)
set_option maxHeartbeats 4000000 in
set_option maxRecDepth 100000 in
theorem wM_instruction_173 {l : Launch} {D : va_G} {h : Nat → Nat} {K : Nat → ClassId} {res : qS} {p : Program} {e : Env} {s : State} {m : MethodId} {args : Array Value} {below : List Frame} {meth : Method} {c : Code} {A : Nat → Prop} {ad : Nat → Nat} (C : qC p s m args meth c qm_M_instruction_c 5 none qR_M ad) (S : qS) (x1 : Int32) (hf : fM_instruction_173 S x1 = some res) : ∀ (H : Heap) (locs : List Loc) (ls : Array Slot), qG D qCl (mT K) A s (mW h K S) H locs → lv_has ls 5 [(0, .ref (h 0)), (1, .int x1)] → W p l e ({ frames := 7, cells := 0, slots := 0, locals := 165 }) s m args below meth c H locs 0 0 (MQ below (qQv D qCl (mT K) (mW h K) A res) args s 0 0 A) (F0 m 173 ls []) := by
  intro H locs ls G hl
  unfold fM_instruction_173 at hf
  refine lv_aload_n C.1 C.2.1 qm_M_instruction_173 rfl (lv_at hl 0 rfl) ?_
  refine lv_dup C.1 C.2.1 qm_M_instruction_174 rfl ?_
  refine q_get (wf := (mW h K)) (v := .int (S.1 3)) C G qi_M 0 rfl rfl 6 (by decide) qz_837 rfl qm_M_instruction_175 ?_
  refine lv_iconst (v := 1) C.1 C.2.1 qm_M_instruction_178 (by decide) ?_
  refine lv_iadd C.1 C.2.1 qm_M_instruction_179 ?_
  refine q_put (wf := (mW h K)) (S' := (pI S 3 ((S.1 3) + 1))) C G qi_M qY_M qy_M qn_M 0 rfl rfl 6 (by decide) qz_837 rfl rfl (Nat.le_of_ble_eq_true rfl) rfl qm_M_instruction_180 (fun H locs G => ?_)
  refine lv_aload_n C.1 C.2.1 qm_M_instruction_183 rfl (lv_at hl 0 rfl) ?_
  refine q_get (wf := (mW h K)) (v := .int ((pI S 3 ((S.1 3) + 1)).1 7)) C G qi_M 0 rfl rfl 12 (by decide) qz_843 rfl qm_M_instruction_184 ?_
  refine lv_if_eq (tgt := 207) C.1 C.2.1 qm_M_instruction_187 (by decide) (fun b1 => ?_) (fun b1 => ?_)
  · have hf := if_t b1 hf
    refine lv_aload_n C.1 C.2.1 qm_M_instruction_207 rfl (lv_at hl 0 rfl) ?_
    refine q_get (wf := (mW h K)) (v := .int ((pI S 3 ((S.1 3) + 1)).1 10)) C G qi_M 0 rfl rfl 15 (by decide) qz_846 rfl qm_M_instruction_208 ?_
    refine lv_if_ne (tgt := 265) C.1 C.2.1 qm_M_instruction_211 (by decide) (fun b2 => ?_) (fun b2 => ?_)
    · have hf := if_t b2 hf
      exact wM_instruction_265 C (pI S 3 ((S.1 3) + 1)) x1 hf _ _ _ G (lv_sub hl [0, 1] rfl)
    · have hf := if_f (not_not_intro b2) hf
      refine lv_aload_n C.1 C.2.1 qm_M_instruction_214 rfl (lv_at hl 0 rfl) ?_
      refine lv_iconst (v := 5) C.1 C.2.1 qm_M_instruction_215 (by decide) ?_
      obtain ⟨q3, c3, hf⟩ := bnd_s hf
      refine q_callVi (wf := (mW h K)) (n := 1) (As := [.int 5]) (q0 := 0) (ci := 7) C G hl.1 (kM_has (l := l) c3) qx_M_106 qm_M_has_d ⟨by decide, by decide⟩ ⟨Nat.le_refl _, Nat.le_refl _⟩ rfl rfl rfl rfl rfl (Nat.le_of_ble_eq_true rfl) qm_M_instruction_216 (fun H locs G => ?_)
      refine lv_if_eq (tgt := 265) C.1 C.2.1 qm_M_instruction_219 (by decide) (fun b4 => ?_) (fun b4 => ?_)
      · have hf := if_t b4 hf
        exact wM_instruction_265 C q3.2 x1 hf _ _ _ G (lv_sub hl [0, 1] rfl)
      · have hf := if_f b4 hf
        refine lv_aload_n C.1 C.2.1 qm_M_instruction_222 rfl (lv_at hl 0 rfl) ?_
        refine lv_iconst (v := 1) C.1 C.2.1 qm_M_instruction_223 (by decide) ?_
        obtain ⟨q5, c5, hf⟩ := bnd_s hf
        refine q_callVi (wf := (mW h K)) (n := 1) (As := [.int 1]) (q0 := 0) (ci := 7) C G hl.1 (kM_has (l := l) c5) qx_M_106 qm_M_has_d ⟨by decide, by decide⟩ ⟨Nat.le_refl _, Nat.le_refl _⟩ rfl rfl rfl rfl rfl (Nat.le_of_ble_eq_true rfl) qm_M_instruction_224 (fun H locs G => ?_)
        refine lv_if_eq (tgt := 265) C.1 C.2.1 qm_M_instruction_227 (by decide) (fun b6 => ?_) (fun b6 => ?_)
        · have hf := if_t b6 hf
          exact wM_instruction_265 C q5.2 x1 hf _ _ _ G (lv_sub hl [0, 1] rfl)
        · have hf := if_f b6 hf
          refine lv_iload_n C.1 C.2.1 qm_M_instruction_230 rfl (lv_at hl 1 rfl) ?_
          refine lv_bipush (v := 16) C.1 C.2.1 qm_M_instruction_231 (by decide) ?_
          refine lv_icmp_le (tgt := 242) C.1 C.2.1 qm_M_instruction_233 (by decide) (fun b7 => ?_) (fun b7 => ?_)
          · have hf := if_t b7 hf
            exact wM_instruction_242 C q5.2 x1 hf _ _ _ G (lv_sub hl [0, 1] rfl)
          · have hf := if_f b7 hf
            refine lv_iload_n C.1 C.2.1 qm_M_instruction_236 rfl (lv_at hl 1 rfl) ?_
            refine lv_bipush (v := 42) C.1 C.2.1 qm_M_instruction_237 (by decide) ?_
            refine lv_icmp_lt (tgt := 254) C.1 C.2.1 qm_M_instruction_239 (by decide) (fun b8 => ?_) (fun b8 => ?_)
            · have hf := if_t b8 hf
              exact wM_instruction_254 C q5.2 hf _ _ _ G (lv_sub hl [0] rfl)
            · have hf := if_f b8 hf
              exact wM_instruction_242 C q5.2 x1 hf _ _ _ G (lv_sub hl [0, 1] rfl)
  · have hf := if_f b1 hf
    refine lv_aload_n C.1 C.2.1 qm_M_instruction_190 rfl (lv_at hl 0 rfl) ?_
    obtain ⟨S9, c9, hf⟩ := bnd_s hf
    refine q_callVv (wf := (mW h K)) (n := 0) (As := []) (q0 := 0) (ci := 7) C G hl.1 (kM_bringBack (l := l) c9) qx_M_171 qm_M_bringBack_d ⟨by decide, by decide⟩ ⟨Nat.le_refl _, Nat.le_refl _⟩ rfl rfl rfl rfl rfl (Nat.le_of_ble_eq_true rfl) qm_M_instruction_191 (fun H locs G => ?_)
    refine lv_aload_n C.1 C.2.1 qm_M_instruction_194 rfl (lv_at hl 0 rfl) ?_
    refine lv_aload_n C.1 C.2.1 qm_M_instruction_195 rfl (lv_at hl 0 rfl) ?_
    refine q_get (wf := (mW h K)) (v := .int (S9.1 7)) C G qi_M 0 rfl rfl 12 (by decide) qz_843 rfl qm_M_instruction_196 ?_
    refine lv_iconst (v := 0) C.1 C.2.1 qm_M_instruction_199 (by decide) ?_
    refine lv_iconst (v := 0) C.1 C.2.1 qm_M_instruction_200 (by decide) ?_
    obtain ⟨S10, c10, hf⟩ := bnd_s hf
    refine q_callVv (wf := (mW h K)) (n := 3) (As := [.int (S9.1 7), .int 0, .int 0]) (q0 := 0) (ci := 7) C G hl.1 (kM_raise (l := l) c10) qx_M_198 qm_M_raise_d ⟨by decide, by decide⟩ ⟨Nat.le_refl _, Nat.le_refl _⟩ rfl rfl rfl rfl rfl (Nat.le_of_ble_eq_true rfl) qm_M_instruction_201 (fun H locs G => ?_)
    refine lv_goto (tgt := 336) C.1 C.2.1 qm_M_instruction_204 (by decide) ?_
    exact wM_instruction_336 C S10 hf _ _ _ G (lv_sub hl [] rfl)
set_option maxHeartbeats 4000000 in
set_option maxRecDepth 100000 in
theorem wM_instruction_157 {l : Launch} {D : va_G} {h : Nat → Nat} {K : Nat → ClassId} {res : qS} {p : Program} {e : Env} {s : State} {m : MethodId} {args : Array Value} {below : List Frame} {meth : Method} {c : Code} {A : Nat → Prop} {ad : Nat → Nat} (C : qC p s m args meth c qm_M_instruction_c 5 none qR_M ad) (S : qS) (x1 : Int32) (hf : fM_instruction_157 S x1 = some res) : ∀ (H : Heap) (locs : List Loc) (ls : Array Slot), qG D qCl (mT K) A s (mW h K S) H locs → lv_has ls 5 [(0, .ref (h 0)), (1, .int x1)] → W p l e ({ frames := 7, cells := 0, slots := 0, locals := 165 }) s m args below meth c H locs 0 0 (MQ below (qQv D qCl (mT K) (mW h K) A res) args s 0 0 A) (F0 m 157 ls []) := by
  intro H locs ls G hl
  unfold fM_instruction_157 at hf
  refine lv_iload_n C.1 C.2.1 qm_M_instruction_157 rfl (lv_at hl 1 rfl) ?_
  refine lv_if_ne (tgt := 173) C.1 C.2.1 qm_M_instruction_158 (by decide) (fun b1 => ?_) (fun b1 => ?_)
  · have hf := if_t b1 hf
    exact wM_instruction_173 C S x1 hf _ _ _ G (lv_sub hl [0, 1] rfl)
  · have hf := if_f (not_not_intro b1) hf
    refine lv_aload_n C.1 C.2.1 qm_M_instruction_161 rfl (lv_at hl 0 rfl) ?_
    refine q_get (wf := (mW h K)) (v := .int (S.1 7)) C G qi_M 0 rfl rfl 12 (by decide) qz_843 rfl qm_M_instruction_162 ?_
    refine lv_if_ne (tgt := 173) C.1 C.2.1 qm_M_instruction_165 (by decide) (fun b2 => ?_) (fun b2 => ?_)
    · have hf := if_t b2 hf
      exact wM_instruction_173 C S x1 hf _ _ _ G (lv_sub hl [0, 1] rfl)
    · have hf := if_f (not_not_intro b2) hf
      refine lv_aload_n C.1 C.2.1 qm_M_instruction_168 rfl (lv_at hl 0 rfl) ?_
      refine lv_iconst (v := 1) C.1 C.2.1 qm_M_instruction_169 (by decide) ?_
      refine q_put (wf := (mW h K)) (S' := (pI S 2 1)) C G qi_M qY_M qy_M qn_M 0 rfl rfl 5 (by decide) qz_836 rfl rfl (Nat.le_of_ble_eq_true rfl) rfl qm_M_instruction_170 (fun H locs G => ?_)
      exact wM_instruction_173 C (pI S 2 1) x1 hf _ _ _ G (lv_sub hl [0, 1] rfl)
set_option maxHeartbeats 4000000 in
set_option maxRecDepth 100000 in
theorem wM_instruction_145 {l : Launch} {D : va_G} {h : Nat → Nat} {K : Nat → ClassId} {res : qS} {p : Program} {e : Env} {s : State} {m : MethodId} {args : Array Value} {below : List Frame} {meth : Method} {c : Code} {A : Nat → Prop} {ad : Nat → Nat} (C : qC p s m args meth c qm_M_instruction_c 5 none qR_M ad) (S : qS) (x1 : Int32) (hf : fM_instruction_145 S x1 = some res) : ∀ (H : Heap) (locs : List Loc) (ls : Array Slot), qG D qCl (mT K) A s (mW h K S) H locs → lv_has ls 5 [(0, .ref (h 0)), (1, .int x1)] → W p l e ({ frames := 7, cells := 0, slots := 0, locals := 165 }) s m args below meth c H locs 0 0 (MQ below (qQv D qCl (mT K) (mW h K) A res) args s 0 0 A) (F0 m 145 ls []) := by
  intro H locs ls G hl
  unfold fM_instruction_145 at hf
  refine lv_aload_n C.1 C.2.1 qm_M_instruction_145 rfl (lv_at hl 0 rfl) ?_
  refine q_get (wf := (mW h K)) (v := .int (S.1 7)) C G qi_M 0 rfl rfl 12 (by decide) qz_843 rfl qm_M_instruction_146 ?_
  refine lv_if_ne (tgt := 157) C.1 C.2.1 qm_M_instruction_149 (by decide) (fun b1 => ?_) (fun b1 => ?_)
  · have hf := if_t b1 hf
    exact wM_instruction_157 C S x1 hf _ _ _ G (lv_sub hl [0, 1] rfl)
  · have hf := if_f (not_not_intro b1) hf
    refine lv_aload_n C.1 C.2.1 qm_M_instruction_152 rfl (lv_at hl 0 rfl) ?_
    refine lv_iload_n C.1 C.2.1 qm_M_instruction_153 rfl (lv_at hl 1 rfl) ?_
    obtain ⟨S2, c2, hf⟩ := bnd_s hf
    refine q_callVv (wf := (mW h K)) (n := 1) (As := [.int x1]) (q0 := 0) (ci := 7) C G hl.1 (kM_work (l := l) c2) qx_M_192 qm_M_work_d ⟨by decide, by decide⟩ ⟨Nat.le_refl _, Nat.le_refl _⟩ rfl rfl rfl rfl rfl (Nat.le_of_ble_eq_true rfl) qm_M_instruction_154 (fun H locs G => ?_)
    exact wM_instruction_157 C S2 x1 hf _ _ _ G (lv_sub hl [0, 1] rfl)
set_option maxHeartbeats 4000000 in
set_option maxRecDepth 100000 in
theorem wM_instruction_134 {l : Launch} {D : va_G} {h : Nat → Nat} {K : Nat → ClassId} {res : qS} {p : Program} {e : Env} {s : State} {m : MethodId} {args : Array Value} {below : List Frame} {meth : Method} {c : Code} {A : Nat → Prop} {ad : Nat → Nat} (C : qC p s m args meth c qm_M_instruction_c 5 none qR_M ad) {K81 : qS → Int32 → Int32 → Int32 → Option (qS)} (hK81 : ∀ (S : qS) (x1 : Int32) (x3 : Int32) (x4 : Int32), K81 S x1 x3 x4 = some res → ∀ (H : Heap) (locs : List Loc) (ls : Array Slot), qG D qCl (mT K) A s (mW h K S) H locs → lv_has ls 5 [(0, .ref (h 0)), (1, .int x1), (3, .int x3), (4, .int x4)] → W p l e ({ frames := 7, cells := 0, slots := 0, locals := 165 }) s m args below meth c H locs 0 0 (MQ below (qQv D qCl (mT K) (mW h K) A res) args s 0 0 A) (F0 m 81 ls [])) (S : qS) (x1 : Int32) (x3 : Int32) (x4 : Int32) (hf : fM_instruction_134 K81 S x1 x3 x4 = some res) : ∀ (H : Heap) (locs : List Loc) (ls : Array Slot), qG D qCl (mT K) A s (mW h K S) H locs → lv_has ls 5 [(0, .ref (h 0)), (1, .int x1), (3, .int x3), (4, .int x4)] → W p l e ({ frames := 7, cells := 0, slots := 0, locals := 165 }) s m args below meth c H locs 0 0 (MQ below (qQv D qCl (mT K) (mW h K) A res) args s 0 0 A) (F0 m 134 ls []) := by
  intro H locs ls G hl
  unfold fM_instruction_134 at hf
  refine lv_iload_n C.1 C.2.1 qm_M_instruction_134 rfl (lv_at hl 2 rfl) ?_
  refine lv_bipush (v := 32) C.1 C.2.1 qm_M_instruction_135 (by decide) ?_
  refine lv_idiv C.1 C.2.1 qm_M_instruction_137 (by decide) ?_
  refine lv_istore_n (lv' := [(3, .int (x3 / 32)), (0, .ref (h 0)), (1, .int x1), (4, .int x4)]) C.1 C.2.1 qm_M_instruction_138 rfl hl (by decide) rfl (fun ls hl => ?_)
  refine lv_iinc (v := x4 + 1) (lv' := [(4, .int (x4 + 1)), (3, .int (x3 / 32)), (0, .ref (h 0)), (1, .int x1)]) C.1 C.2.1 qm_M_instruction_139 hl (k := 3) rfl rfl (by decide) rfl (fun ls hl => ?_)
  refine lv_goto (tgt := 81) C.1 C.2.1 qm_M_instruction_142 (by decide) ?_
  exact hK81 S x1 (x3 / 32) (x4 + 1) hf _ _ _ G (lv_sub hl [2, 3, 1, 0] rfl)
set_option maxHeartbeats 4000000 in
set_option maxRecDepth 100000 in
theorem wM_instruction_81 {l : Launch} {D : va_G} {h : Nat → Nat} {K : Nat → ClassId} {res : qS} {p : Program} {e : Env} {s : State} {m : MethodId} {args : Array Value} {below : List Frame} {meth : Method} {c : Code} {A : Nat → Prop} {ad : Nat → Nat} (C : qC p s m args meth c qm_M_instruction_c 5 none qR_M ad) : ∀ (n : Nat) (S : qS) (x1 : Int32) (x3 : Int32) (x4 : Int32), fM_instruction_81 n S x1 x3 x4 = some res → ∀ (H : Heap) (locs : List Loc) (ls : Array Slot), qG D qCl (mT K) A s (mW h K S) H locs → lv_has ls 5 [(0, .ref (h 0)), (1, .int x1), (3, .int x3), (4, .int x4)] → W p l e ({ frames := 7, cells := 0, slots := 0, locals := 165 }) s m args below meth c H locs 0 0 (MQ below (qQv D qCl (mT K) (mW h K) A res) args s 0 0 A) (F0 m 81 ls []) := by
  intro n
  induction n with
  | zero => intro S x1 x3 x4 hf; cases hf
  | succ n ih =>
    intro S x1 x3 x4 hf H locs ls G hl
    rw [fM_instruction_81] at hf
    refine lv_iload C.1 C.2.1 qm_M_instruction_81 (lv_at hl 3 rfl) ?_
    refine lv_iconst (v := 3) C.1 C.2.1 qm_M_instruction_83 (by decide) ?_
    refine lv_icmp_ge (tgt := 145) C.1 C.2.1 qm_M_instruction_84 (by decide) (fun b1 => ?_) (fun b1 => ?_)
    · have hf := if_t b1 hf
      exact wM_instruction_145 C S x1 hf _ _ _ G (lv_sub hl [0, 1] rfl)
    · have hf := if_f b1 hf
      refine lv_aload_n C.1 C.2.1 qm_M_instruction_87 rfl (lv_at hl 0 rfl) ?_
      refine q_get (wf := (mW h K)) (v := .int (S.1 7)) C G qi_M 0 rfl rfl 12 (by decide) qz_843 rfl qm_M_instruction_88 ?_
      refine lv_if_ne (tgt := 145) C.1 C.2.1 qm_M_instruction_91 (by decide) (fun b2 => ?_) (fun b2 => ?_)
      · have hf := if_t b2 hf
        exact wM_instruction_145 C S x1 hf _ _ _ G (lv_sub hl [0, 1] rfl)
      · have hf := if_f (not_not_intro b2) hf
        refine lv_iload_n C.1 C.2.1 qm_M_instruction_94 rfl (lv_at hl 2 rfl) ?_
        refine lv_if_le (tgt := 145) C.1 C.2.1 qm_M_instruction_95 (by decide) (fun b3 => ?_) (fun b3 => ?_)
        · have hf := if_t b3 hf
          exact wM_instruction_145 C S x1 hf _ _ _ G (lv_sub hl [0, 1] rfl)
        · have hf := if_f b3 hf
          refine lv_iload_n C.1 C.2.1 qm_M_instruction_98 rfl (lv_at hl 2 rfl) ?_
          refine lv_bipush (v := 32) C.1 C.2.1 qm_M_instruction_99 (by decide) ?_
          refine lv_irem C.1 C.2.1 qm_M_instruction_101 (by decide) ?_
          refine lv_bipush (v := 16) C.1 C.2.1 qm_M_instruction_102 (by decide) ?_
          refine lv_icmp_ne (tgt := 124) C.1 C.2.1 qm_M_instruction_104 (by decide) (fun b4 => ?_) (fun b4 => ?_)
          · have hf := if_t b4 hf
            refine lv_aload_n C.1 C.2.1 qm_M_instruction_124 rfl (lv_at hl 0 rfl) ?_
            refine lv_iload C.1 C.2.1 qm_M_instruction_125 (lv_at hl 3 rfl) ?_
            refine lv_iload_n C.1 C.2.1 qm_M_instruction_127 rfl (lv_at hl 2 rfl) ?_
            refine lv_bipush (v := 32) C.1 C.2.1 qm_M_instruction_128 (by decide) ?_
            refine lv_irem C.1 C.2.1 qm_M_instruction_130 (by decide) ?_
            obtain ⟨S5, c5, hf⟩ := bnd_s hf
            refine q_callVv (wf := (mW h K)) (n := 2) (As := [.int x4, .int (x3 - x3 / 32 * 32)]) (q0 := 0) (ci := 7) C G hl.1 (kM_operand (l := l) c5) qx_M_189 qm_M_operand_d ⟨by decide, by decide⟩ ⟨Nat.le_refl _, Nat.le_refl _⟩ rfl rfl rfl rfl rfl (Nat.le_of_ble_eq_true rfl) qm_M_instruction_131 (fun H locs G => ?_)
            exact wM_instruction_134 C (ih) S5 x1 x3 x4 hf _ _ _ G (lv_sub hl [0, 1, 2, 3] rfl)
          · have hf := if_f (not_not_intro b4) hf
            refine lv_aload_n C.1 C.2.1 qm_M_instruction_107 rfl (lv_at hl 0 rfl) ?_
            refine q_get (wf := (mW h K)) (v := .ref (h 6)) C G qi_M 0 rfl rfl 16 (by decide) qz_847 rfl qm_M_instruction_108 ?_
            refine lv_iload C.1 C.2.1 qm_M_instruction_111 (lv_at hl 3 rfl) ?_
            refine lv_aload_n C.1 C.2.1 qm_M_instruction_113 rfl (lv_at hl 0 rfl) ?_
            obtain ⟨q6, c6, hf⟩ := bnd_s hf
            refine q_callVi (wf := (mW h K)) (n := 0) (As := []) (q0 := 0) (ci := 7) C G hl.1 (kM_next (l := l) c6) qx_M_100 qm_M_next_d ⟨by decide, by decide⟩ ⟨Nat.le_refl _, Nat.le_refl _⟩ rfl rfl rfl rfl rfl (Nat.le_of_ble_eq_true rfl) qm_M_instruction_114 (fun H locs G => ?_)
            obtain ⟨q7, c7, hf⟩ := bnd_s hf
            refine q_callSi (wf := (mW h K)) (n := 1) (As := [.int q6.1]) C G hl.1 (kM_signed (l := l) c7) qx_M_103 qm_M_signed_d ⟨by decide, by decide⟩ ⟨Nat.le_refl _, Nat.le_refl _⟩ rfl rfl (Nat.le_of_ble_eq_true rfl) qm_M_instruction_117 (fun H locs G => ?_)
            obtain ⟨b8, hf⟩ := chk_s hf
            refine q_iast (wf := (mW h K)) (S' := (pA q7.2 5 x4 q7.1)) C G 6 5 rfl rfl b8 rfl qm_M_instruction_120 (fun H locs G => ?_)
            refine lv_goto (tgt := 134) C.1 C.2.1 qm_M_instruction_121 (by decide) ?_
            exact wM_instruction_134 C (ih) (pA q7.2 5 x4 q7.1) x1 x3 x4 hf _ _ _ G (lv_sub hl [0, 1, 2, 3] rfl)
set_option maxHeartbeats 4000000 in
set_option maxRecDepth 100000 in
theorem wM_instruction_77 {l : Launch} {D : va_G} {h : Nat → Nat} {K : Nat → ClassId} {res : qS} {p : Program} {e : Env} {s : State} {m : MethodId} {args : Array Value} {below : List Frame} {meth : Method} {c : Code} {A : Nat → Prop} {ad : Nat → Nat} (C : qC p s m args meth c qm_M_instruction_c 5 none qR_M ad) (S : qS) (x1 : Int32) (y0 : Int32) (hf : fM_instruction_77 S x1 y0 = some res) : ∀ (H : Heap) (locs : List Loc) (ls : Array Slot), qG D qCl (mT K) A s (mW h K S) H locs → lv_has ls 5 [(0, .ref (h 0)), (1, .int x1)] → W p l e ({ frames := 7, cells := 0, slots := 0, locals := 165 }) s m args below meth c H locs 0 0 (MQ below (qQv D qCl (mT K) (mW h K) A res) args s 0 0 A) (F0 m 77 ls [.int y0]) := by
  intro H locs ls G hl
  unfold fM_instruction_77 at hf
  refine lv_istore_n (lv' := [(3, .int y0), (0, .ref (h 0)), (1, .int x1)]) C.1 C.2.1 qm_M_instruction_77 rfl hl (by decide) rfl (fun ls hl => ?_)
  refine lv_iconst (v := 0) C.1 C.2.1 qm_M_instruction_78 (by decide) ?_
  refine lv_istore (lv' := [(4, .int 0), (3, .int y0), (0, .ref (h 0)), (1, .int x1)]) C.1 C.2.1 qm_M_instruction_79 hl (by decide) rfl (fun ls hl => ?_)
  exact wM_instruction_81 C 300 S x1 y0 0 hf _ _ _ G (lv_sub hl [2, 3, 1, 0] rfl)
set_option maxHeartbeats 4000000 in
set_option maxRecDepth 100000 in
theorem wM_instruction_65 {l : Launch} {D : va_G} {h : Nat → Nat} {K : Nat → ClassId} {res : qS} {p : Program} {e : Env} {s : State} {m : MethodId} {args : Array Value} {below : List Frame} {meth : Method} {c : Code} {A : Nat → Prop} {ad : Nat → Nat} (C : qC p s m args meth c qm_M_instruction_c 5 none qR_M ad) (S : qS) (x1 : Int32) (x2 : Int32) (hf : fM_instruction_65 S x1 x2 = some res) : ∀ (H : Heap) (locs : List Loc) (ls : Array Slot), qG D qCl (mT K) A s (mW h K S) H locs → lv_has ls 5 [(0, .ref (h 0)), (1, .int x1), (2, .int x2)] → W p l e ({ frames := 7, cells := 0, slots := 0, locals := 165 }) s m args below meth c H locs 0 0 (MQ below (qQv D qCl (mT K) (mW h K) A res) args s 0 0 A) (F0 m 65 ls []) := by
  intro H locs ls G hl
  unfold fM_instruction_65 at hf
  refine lv_iload_n C.1 C.2.1 qm_M_instruction_65 rfl (lv_at hl 2 rfl) ?_
  refine lv_if_eq (tgt := 73) C.1 C.2.1 qm_M_instruction_66 (by decide) (fun b1 => ?_) (fun b1 => ?_)
  · have hf := if_t b1 hf
    refine lv_iload_n C.1 C.2.1 qm_M_instruction_73 rfl (lv_at hl 1 rfl) ?_
    obtain ⟨q2, c2, hf⟩ := bnd_s hf
    refine q_callSi (wf := (mW h K)) (n := 1) (As := [.int x1]) C G hl.1 (kM_shape (l := l) c2) qx_M_186 qm_M_shape_d ⟨by decide, by decide⟩ ⟨Nat.le_refl _, Nat.le_refl _⟩ rfl rfl (Nat.le_of_ble_eq_true rfl) qm_M_instruction_74 (fun H locs G => ?_)
    exact wM_instruction_77 C q2.2 x1 q2.1 hf _ _ _ G (lv_sub hl [0, 1] rfl)
  · have hf := if_f b1 hf
    refine lv_iconst (v := 0) C.1 C.2.1 qm_M_instruction_69 (by decide) ?_
    refine lv_goto (tgt := 77) C.1 C.2.1 qm_M_instruction_70 (by decide) ?_
    exact wM_instruction_77 C S x1 0 hf _ _ _ G (lv_sub hl [0, 1] rfl)
set_option maxHeartbeats 4000000 in
set_option maxRecDepth 100000 in
theorem wM_instruction_53 {l : Launch} {D : va_G} {h : Nat → Nat} {K : Nat → ClassId} {res : qS} {p : Program} {e : Env} {s : State} {m : MethodId} {args : Array Value} {below : List Frame} {meth : Method} {c : Code} {A : Nat → Prop} {ad : Nat → Nat} (C : qC p s m args meth c qm_M_instruction_c 5 none qR_M ad) (S : qS) (x1 : Int32) (y0 : Int32) (hf : fM_instruction_53 S x1 y0 = some res) : ∀ (H : Heap) (locs : List Loc) (ls : Array Slot), qG D qCl (mT K) A s (mW h K S) H locs → lv_has ls 5 [(0, .ref (h 0)), (1, .int x1)] → W p l e ({ frames := 7, cells := 0, slots := 0, locals := 165 }) s m args below meth c H locs 0 0 (MQ below (qQv D qCl (mT K) (mW h K) A res) args s 0 0 A) (F0 m 53 ls [.int y0]) := by
  intro H locs ls G hl
  unfold fM_instruction_53 at hf
  refine lv_istore_n (lv' := [(2, .int y0), (0, .ref (h 0)), (1, .int x1)]) C.1 C.2.1 qm_M_instruction_53 rfl hl (by decide) rfl (fun ls hl => ?_)
  refine lv_iload_n C.1 C.2.1 qm_M_instruction_54 rfl (lv_at hl 0 rfl) ?_
  refine lv_if_eq (tgt := 65) C.1 C.2.1 qm_M_instruction_55 (by decide) (fun b1 => ?_) (fun b1 => ?_)
  · have hf := if_t b1 hf
    exact wM_instruction_65 C S x1 y0 hf _ _ _ G (lv_sub hl [1, 2, 0] rfl)
  · have hf := if_f b1 hf
    refine lv_aload_n C.1 C.2.1 qm_M_instruction_58 rfl (lv_at hl 1 rfl) ?_
    refine lv_iconst (v := 1) C.1 C.2.1 qm_M_instruction_59 (by decide) ?_
    refine lv_iconst (v := 0) C.1 C.2.1 qm_M_instruction_60 (by decide) ?_
    refine lv_iconst (v := 0) C.1 C.2.1 qm_M_instruction_61 (by decide) ?_
    obtain ⟨S2, c2, hf⟩ := bnd_s hf
    refine q_callVv (wf := (mW h K)) (n := 3) (As := [.int 1, .int 0, .int 0]) (q0 := 0) (ci := 7) C G hl.1 (kM_wrong (l := l) c2) qx_M_77 qm_M_wrong_d ⟨by decide, by decide⟩ ⟨Nat.le_refl _, Nat.le_refl _⟩ rfl rfl rfl rfl rfl (Nat.le_of_ble_eq_true rfl) qm_M_instruction_62 (fun H locs G => ?_)
    exact wM_instruction_65 C S2 x1 y0 hf _ _ _ G (lv_sub hl [1, 2, 0] rfl)
set_option maxHeartbeats 4000000 in
set_option maxRecDepth 100000 in
theorem wM_instruction_48 {l : Launch} {D : va_G} {h : Nat → Nat} {K : Nat → ClassId} {res : qS} {p : Program} {e : Env} {s : State} {m : MethodId} {args : Array Value} {below : List Frame} {meth : Method} {c : Code} {A : Nat → Prop} {ad : Nat → Nat} (C : qC p s m args meth c qm_M_instruction_c 5 none qR_M ad) (S : qS) (x1 : Int32) (hf : fM_instruction_48 S x1 = some res) : ∀ (H : Heap) (locs : List Loc) (ls : Array Slot), qG D qCl (mT K) A s (mW h K S) H locs → lv_has ls 5 [(0, .ref (h 0)), (1, .int x1)] → W p l e ({ frames := 7, cells := 0, slots := 0, locals := 165 }) s m args below meth c H locs 0 0 (MQ below (qQv D qCl (mT K) (mW h K) A res) args s 0 0 A) (F0 m 48 ls []) := by
  intro H locs ls G hl
  unfold fM_instruction_48 at hf
  refine lv_iconst (v := 1) C.1 C.2.1 qm_M_instruction_48 (by decide) ?_
  refine lv_goto (tgt := 53) C.1 C.2.1 qm_M_instruction_49 (by decide) ?_
  exact wM_instruction_53 C S x1 1 hf _ _ _ G (lv_sub hl [0, 1] rfl)
set_option maxHeartbeats 4000000 in
set_option maxRecDepth 100000 in
theorem wM_instruction_52 {l : Launch} {D : va_G} {h : Nat → Nat} {K : Nat → ClassId} {res : qS} {p : Program} {e : Env} {s : State} {m : MethodId} {args : Array Value} {below : List Frame} {meth : Method} {c : Code} {A : Nat → Prop} {ad : Nat → Nat} (C : qC p s m args meth c qm_M_instruction_c 5 none qR_M ad) (S : qS) (x1 : Int32) (hf : fM_instruction_52 S x1 = some res) : ∀ (H : Heap) (locs : List Loc) (ls : Array Slot), qG D qCl (mT K) A s (mW h K S) H locs → lv_has ls 5 [(0, .ref (h 0)), (1, .int x1)] → W p l e ({ frames := 7, cells := 0, slots := 0, locals := 165 }) s m args below meth c H locs 0 0 (MQ below (qQv D qCl (mT K) (mW h K) A res) args s 0 0 A) (F0 m 52 ls []) := by
  intro H locs ls G hl
  unfold fM_instruction_52 at hf
  refine lv_iconst (v := 0) C.1 C.2.1 qm_M_instruction_52 (by decide) ?_
  exact wM_instruction_53 C S x1 0 hf _ _ _ G (lv_sub hl [0, 1] rfl)
set_option maxHeartbeats 4000000 in
set_option maxRecDepth 100000 in
theorem wM_instruction_41 {l : Launch} {D : va_G} {h : Nat → Nat} {K : Nat → ClassId} {res : qS} {p : Program} {e : Env} {s : State} {m : MethodId} {args : Array Value} {below : List Frame} {meth : Method} {c : Code} {A : Nat → Prop} {ad : Nat → Nat} (C : qC p s m args meth c qm_M_instruction_c 5 none qR_M ad) (S : qS) (x1 : Int32) (hf : fM_instruction_41 S x1 = some res) : ∀ (H : Heap) (locs : List Loc) (ls : Array Slot), qG D qCl (mT K) A s (mW h K S) H locs → lv_has ls 5 [(0, .ref (h 0)), (1, .int x1)] → W p l e ({ frames := 7, cells := 0, slots := 0, locals := 165 }) s m args below meth c H locs 0 0 (MQ below (qQv D qCl (mT K) (mW h K) A res) args s 0 0 A) (F0 m 41 ls []) := by
  intro H locs ls G hl
  unfold fM_instruction_41 at hf
  refine lv_aload_n C.1 C.2.1 qm_M_instruction_41 rfl (lv_at hl 0 rfl) ?_
  obtain ⟨q1, c1, hf⟩ := bnd_s hf
  refine q_callVi (wf := (mW h K)) (n := 0) (As := []) (q0 := 0) (ci := 7) C G hl.1 (kM_mode (l := l) c1) qx_M_69 qm_M_mode_d ⟨by decide, by decide⟩ ⟨Nat.le_refl _, Nat.le_refl _⟩ rfl rfl rfl rfl rfl (Nat.le_of_ble_eq_true rfl) qm_M_instruction_42 (fun H locs G => ?_)
  refine lv_if_eq (tgt := 52) C.1 C.2.1 qm_M_instruction_45 (by decide) (fun b2 => ?_) (fun b2 => ?_)
  · have hf := if_t b2 hf
    exact wM_instruction_52 C q1.2 x1 hf _ _ _ G (lv_sub hl [0, 1] rfl)
  · have hf := if_f b2 hf
    exact wM_instruction_48 C q1.2 x1 hf _ _ _ G (lv_sub hl [0, 1] rfl)
set_option maxHeartbeats 4000000 in
set_option maxRecDepth 100000 in
theorem wM_instruction {l : Launch} {D : va_G} {h : Nat → Nat} {K : Nat → ClassId} {res : qS} {p : Program} {e : Env} {s : State} {m : MethodId} {args : Array Value} {below : List Frame} {meth : Method} {c : Code} {A : Nat → Prop} {ad : Nat → Nat} (C : qC p s m args meth c qm_M_instruction_c 5 none qR_M ad) (S : qS) (hf : fM_instruction S = some res) : ∀ (H : Heap) (locs : List Loc) (ls : Array Slot), qG D qCl (mT K) A s (mW h K S) H locs → lv_has ls 5 [(0, .ref (h 0))] → W p l e ({ frames := 7, cells := 0, slots := 0, locals := 165 }) s m args below meth c H locs 0 0 (MQ below (qQv D qCl (mT K) (mW h K) A res) args s 0 0 A) (F0 m 0 ls []) := by
  intro H locs ls G hl
  unfold fM_instruction at hf
  refine lv_aload_n C.1 C.2.1 qm_M_instruction_0 rfl (lv_at hl 0 rfl) ?_
  obtain ⟨S1, c1, hf⟩ := bnd_s hf
  refine q_callVv (wf := (mW h K)) (n := 0) (As := []) (q0 := 0) (ci := 7) C G hl.1 (kM_keep (l := l) c1) qx_M_183 qm_M_keep_d ⟨by decide, by decide⟩ ⟨Nat.le_refl _, Nat.le_refl _⟩ rfl rfl rfl rfl rfl (Nat.le_of_ble_eq_true rfl) qm_M_instruction_1 (fun H locs G => ?_)
  refine lv_aload_n C.1 C.2.1 qm_M_instruction_4 rfl (lv_at hl 0 rfl) ?_
  refine lv_iconst (v := 0) C.1 C.2.1 qm_M_instruction_5 (by decide) ?_
  refine q_put (wf := (mW h K)) (S' := (pI S1 7 0)) C G qi_M qY_M qy_M qn_M 0 rfl rfl 12 (by decide) qz_843 rfl rfl (Nat.le_of_ble_eq_true rfl) rfl qm_M_instruction_6 (fun H locs G => ?_)
  refine lv_aload_n C.1 C.2.1 qm_M_instruction_9 rfl (lv_at hl 0 rfl) ?_
  refine lv_iconst (v := 0) C.1 C.2.1 qm_M_instruction_10 (by decide) ?_
  refine q_put (wf := (mW h K)) (S' := (pI (pI S1 7 0) 10 0)) C G qi_M qY_M qy_M qn_M 0 rfl rfl 15 (by decide) qz_846 rfl rfl (Nat.le_of_ble_eq_true rfl) rfl qm_M_instruction_11 (fun H locs G => ?_)
  refine lv_aload_n C.1 C.2.1 qm_M_instruction_14 rfl (lv_at hl 0 rfl) ?_
  obtain ⟨q2, c2, hf⟩ := bnd_s hf
  refine q_callVi (wf := (mW h K)) (n := 0) (As := []) (q0 := 0) (ci := 7) C G hl.1 (kM_next (l := l) c2) qx_M_100 qm_M_next_d ⟨by decide, by decide⟩ ⟨Nat.le_refl _, Nat.le_refl _⟩ rfl rfl rfl rfl rfl (Nat.le_of_ble_eq_true rfl) qm_M_instruction_15 (fun H locs G => ?_)
  refine lv_istore_n (lv' := [(1, .int q2.1), (0, .ref (h 0))]) C.1 C.2.1 qm_M_instruction_18 rfl hl (by decide) rfl (fun ls hl => ?_)
  refine lv_iload_n C.1 C.2.1 qm_M_instruction_19 rfl (lv_at hl 0 rfl) ?_
  refine lv_bipush (v := 70) C.1 C.2.1 qm_M_instruction_20 (by decide) ?_
  refine lv_icmp_gt (tgt := 48) C.1 C.2.1 qm_M_instruction_22 (by decide) (fun b3 => ?_) (fun b3 => ?_)
  · have hf := if_t b3 hf
    exact wM_instruction_48 C q2.2 q2.1 hf _ _ _ G (lv_sub hl [1, 0] rfl)
  · have hf := if_f b3 hf
    refine lv_iload_n C.1 C.2.1 qm_M_instruction_25 rfl (lv_at hl 0 rfl) ?_
    refine lv_if_eq (tgt := 41) C.1 C.2.1 qm_M_instruction_26 (by decide) (fun b4 => ?_) (fun b4 => ?_)
    · have hf := if_t b4 hf
      exact wM_instruction_41 C q2.2 q2.1 hf _ _ _ G (lv_sub hl [1, 0] rfl)
    · have hf := if_f b4 hf
      refine lv_iload_n C.1 C.2.1 qm_M_instruction_29 rfl (lv_at hl 0 rfl) ?_
      refine lv_bipush (v := 10) C.1 C.2.1 qm_M_instruction_30 (by decide) ?_
      refine lv_icmp_eq (tgt := 41) C.1 C.2.1 qm_M_instruction_32 (by decide) (fun b5 => ?_) (fun b5 => ?_)
      · have hf := if_t b5 hf
        exact wM_instruction_41 C q2.2 q2.1 hf _ _ _ G (lv_sub hl [1, 0] rfl)
      · have hf := if_f b5 hf
        refine lv_iload_n C.1 C.2.1 qm_M_instruction_35 rfl (lv_at hl 0 rfl) ?_
        refine lv_bipush (v := 11) C.1 C.2.1 qm_M_instruction_36 (by decide) ?_
        refine lv_icmp_ne (tgt := 52) C.1 C.2.1 qm_M_instruction_38 (by decide) (fun b6 => ?_) (fun b6 => ?_)
        · have hf := if_t b6 hf
          exact wM_instruction_52 C q2.2 q2.1 hf _ _ _ G (lv_sub hl [1, 0] rfl)
        · have hf := if_f (not_not_intro b6) hf
          exact wM_instruction_41 C q2.2 q2.1 hf _ _ _ G (lv_sub hl [1, 0] rfl)
theorem kM_instruction {l : Launch} {ad : Nat → Nat} {D : va_G} {h : Nat → Nat} {K : Nat → ClassId} {res : qS} {S : qS} (hf : fM_instruction S = some res) : qMv l qm_M_instruction qm_M_instruction_c 5 7 165 D qCl (mT K) ad (mW h K) [.ref (h 0)] S res := qMv_of (by decide) (Nat.le_of_ble_eq_true rfl) (fun _ _ _ _ _ _ _ _ _ _ C G hl => wM_instruction C S hf _ _ _ G hl)
set_option maxHeartbeats 4000000 in
set_option maxRecDepth 100000 in
theorem wM_run_12 {l : Launch} {D : va_G} {h : Nat → Nat} {K : Nat → ClassId} {res : Int32 × qS} {p : Program} {e : Env} {s : State} {m : MethodId} {args : Array Value} {below : List Frame} {meth : Method} {c : Code} {A : Nat → Prop} {ad : Nat → Nat} (C : qC p s m args meth c qm_M_run_c 3 (some .int) qR_M ad) (S : qS) (hf : fM_run_12 S = some res) : ∀ (H : Heap) (locs : List Loc) (ls : Array Slot), qG D qCl (mT K) A s (mW h K S) H locs → lv_has ls 3 [(0, .ref (h 0))] → W p l e ({ frames := 8, cells := 0, slots := 0, locals := 189 }) s m args below meth c H locs 0 0 (MQ below (qQi D qCl (mT K) (mW h K) A res) args s 0 0 A) (F0 m 12 ls []) := by
  intro H locs ls G hl
  unfold fM_run_12 at hf
  refine lv_aload_n C.1 C.2.1 qm_M_run_12 rfl (lv_at hl 0 rfl) ?_
  refine lv_iconst (v := 1) C.1 C.2.1 qm_M_run_13 (by decide) ?_
  obtain ⟨q1, c1, hf⟩ := bnd_s hf
  refine q_callVi (wf := (mW h K)) (n := 1) (As := [.int 1]) (q0 := 0) (ci := 7) C G hl.1 (kM_fail (l := l) c1) qx_M_203 qm_M_fail_d ⟨by decide, by decide⟩ ⟨Nat.le_refl _, Nat.le_refl _⟩ rfl rfl rfl rfl rfl (Nat.le_of_ble_eq_true rfl) qm_M_run_14 (fun H locs G => ?_)
  exact q_iret (wf := (mW h K)) C G hf qm_M_run_17
set_option maxHeartbeats 4000000 in
set_option maxRecDepth 100000 in
theorem wM_run_60 {l : Launch} {D : va_G} {h : Nat → Nat} {K : Nat → ClassId} {res : Int32 × qS} {p : Program} {e : Env} {s : State} {m : MethodId} {args : Array Value} {below : List Frame} {meth : Method} {c : Code} {A : Nat → Prop} {ad : Nat → Nat} (C : qC p s m args meth c qm_M_run_c 3 (some .int) qR_M ad) (S : qS) (x2 : Int32) (hf : fM_run_60 S x2 = some res) : ∀ (H : Heap) (locs : List Loc) (ls : Array Slot), qG D qCl (mT K) A s (mW h K S) H locs → lv_has ls 3 [(2, .int x2)] → W p l e ({ frames := 8, cells := 0, slots := 0, locals := 189 }) s m args below meth c H locs 0 0 (MQ below (qQi D qCl (mT K) (mW h K) A res) args s 0 0 A) (F0 m 60 ls []) := by
  intro H locs ls G hl
  unfold fM_run_60 at hf
  refine lv_iload_n C.1 C.2.1 qm_M_run_60 rfl (lv_at hl 0 rfl) ?_
  exact q_iret (wf := (mW h K)) C G hf qm_M_run_61
set_option maxHeartbeats 4000000 in
set_option maxRecDepth 100000 in
theorem wM_run_38 {l : Launch} {D : va_G} {h : Nat → Nat} {K : Nat → ClassId} {res : Int32 × qS} {p : Program} {e : Env} {s : State} {m : MethodId} {args : Array Value} {below : List Frame} {meth : Method} {c : Code} {A : Nat → Prop} {ad : Nat → Nat} (C : qC p s m args meth c qm_M_run_c 3 (some .int) qR_M ad) : ∀ (n : Nat) (S : qS) (x1 : Int32) (x2 : Int32), fM_run_38 n S x1 x2 = some res → ∀ (H : Heap) (locs : List Loc) (ls : Array Slot), qG D qCl (mT K) A s (mW h K S) H locs → lv_has ls 3 [(0, .ref (h 0)), (1, .int x1), (2, .int x2)] → W p l e ({ frames := 8, cells := 0, slots := 0, locals := 189 }) s m args below meth c H locs 0 0 (MQ below (qQi D qCl (mT K) (mW h K) A res) args s 0 0 A) (F0 m 38 ls []) := by
  intro n
  induction n with
  | zero => intro S x1 x2 hf; cases hf
  | succ n ih =>
    intro S x1 x2 hf H locs ls G hl
    rw [fM_run_38] at hf
    refine lv_iload_n C.1 C.2.1 qm_M_run_38 rfl (lv_at hl 2 rfl) ?_
    refine lv_iload_n C.1 C.2.1 qm_M_run_39 rfl (lv_at hl 1 rfl) ?_
    refine lv_icmp_ge (tgt := 60) C.1 C.2.1 qm_M_run_40 (by decide) (fun b1 => ?_) (fun b1 => ?_)
    · have hf := if_t b1 hf
      exact wM_run_60 C S x2 hf _ _ _ G (lv_sub hl [2] rfl)
    · have hf := if_f b1 hf
      refine lv_aload_n C.1 C.2.1 qm_M_run_43 rfl (lv_at hl 0 rfl) ?_
      refine q_get (wf := (mW h K)) (v := .int (S.1 2)) C G qi_M 0 rfl rfl 5 (by decide) qz_836 rfl qm_M_run_44 ?_
      refine lv_if_ne (tgt := 60) C.1 C.2.1 qm_M_run_47 (by decide) (fun b2 => ?_) (fun b2 => ?_)
      · have hf := if_t b2 hf
        exact wM_run_60 C S x2 hf _ _ _ G (lv_sub hl [2] rfl)
      · have hf := if_f (not_not_intro b2) hf
        refine lv_aload_n C.1 C.2.1 qm_M_run_50 rfl (lv_at hl 0 rfl) ?_
        obtain ⟨S3, c3, hf⟩ := bnd_s hf
        refine q_callVv (wf := (mW h K)) (n := 0) (As := []) (q0 := 0) (ci := 7) C G hl.1 (kM_instruction (l := l) c3) qx_M_206 qm_M_instruction_d ⟨by decide, by decide⟩ ⟨Nat.le_refl _, Nat.le_refl _⟩ rfl rfl rfl rfl rfl (Nat.le_of_ble_eq_true rfl) qm_M_run_51 (fun H locs G => ?_)
        refine lv_iinc (v := x2 + 1) (lv' := [(2, .int (x2 + 1)), (0, .ref (h 0)), (1, .int x1)]) C.1 C.2.1 qm_M_run_54 hl (k := 2) rfl rfl (by decide) rfl (fun ls hl => ?_)
        refine lv_goto (tgt := 38) C.1 C.2.1 qm_M_run_57 (by decide) ?_
        exact ih S3 x1 (x2 + 1) hf _ _ _ G (lv_sub hl [1, 2, 0] rfl)
set_option maxHeartbeats 4000000 in
set_option maxRecDepth 100000 in
theorem wM_run {l : Launch} {D : va_G} {h : Nat → Nat} {K : Nat → ClassId} {res : Int32 × qS} {p : Program} {e : Env} {s : State} {m : MethodId} {args : Array Value} {below : List Frame} {meth : Method} {c : Code} {A : Nat → Prop} {ad : Nat → Nat} (C : qC p s m args meth c qm_M_run_c 3 (some .int) qR_M ad) (S : qS) (a1 : Int32) (hf : fM_run S a1 = some res) : ∀ (H : Heap) (locs : List Loc) (ls : Array Slot), qG D qCl (mT K) A s (mW h K S) H locs → lv_has ls 3 [(0, .ref (h 0)), (1, .int a1)] → W p l e ({ frames := 8, cells := 0, slots := 0, locals := 189 }) s m args below meth c H locs 0 0 (MQ below (qQi D qCl (mT K) (mW h K) A res) args s 0 0 A) (F0 m 0 ls []) := by
  intro H locs ls G hl
  unfold fM_run at hf
  refine lv_iload_n C.1 C.2.1 qm_M_run_0 rfl (lv_at hl 1 rfl) ?_
  refine lv_iconst (v := 1) C.1 C.2.1 qm_M_run_1 (by decide) ?_
  refine lv_icmp_lt (tgt := 12) C.1 C.2.1 qm_M_run_2 (by decide) (fun b1 => ?_) (fun b1 => ?_)
  · have hf := if_t b1 hf
    exact wM_run_12 C S hf _ _ _ G (lv_sub hl [0] rfl)
  · have hf := if_f b1 hf
    refine lv_iload_n C.1 C.2.1 qm_M_run_5 rfl (lv_at hl 1 rfl) ?_
    refine lv_sipush (v := 200) C.1 C.2.1 qm_M_run_6 (by decide) ?_
    refine lv_icmp_le (tgt := 18) C.1 C.2.1 qm_M_run_9 (by decide) (fun b2 => ?_) (fun b2 => ?_)
    · have hf := if_t b2 hf
      refine lv_aload_n C.1 C.2.1 qm_M_run_18 rfl (lv_at hl 0 rfl) ?_
      refine q_get (wf := (mW h K)) (v := .int (S.1 2)) C G qi_M 0 rfl rfl 5 (by decide) qz_836 rfl qm_M_run_19 ?_
      refine lv_if_eq (tgt := 31) C.1 C.2.1 qm_M_run_22 (by decide) (fun b3 => ?_) (fun b3 => ?_)
      · have hf := if_t b3 hf
        refine lv_aload_n C.1 C.2.1 qm_M_run_31 rfl (lv_at hl 0 rfl) ?_
        refine lv_iconst (v := 0) C.1 C.2.1 qm_M_run_32 (by decide) ?_
        refine q_put (wf := (mW h K)) (S' := (pI S 0 0)) C G qi_M qY_M qy_M qn_M 0 rfl rfl 0 (by decide) qz_831 rfl rfl (Nat.le_of_ble_eq_true rfl) rfl qm_M_run_33 (fun H locs G => ?_)
        refine lv_iconst (v := 0) C.1 C.2.1 qm_M_run_36 (by decide) ?_
        refine lv_istore_n (lv' := [(2, .int 0), (0, .ref (h 0)), (1, .int a1)]) C.1 C.2.1 qm_M_run_37 rfl hl (by decide) rfl (fun ls hl => ?_)
        exact wM_run_38 C 300 (pI S 0 0) a1 0 hf _ _ _ G (lv_sub hl [1, 2, 0] rfl)
      · have hf := if_f b3 hf
        refine lv_aload_n C.1 C.2.1 qm_M_run_25 rfl (lv_at hl 0 rfl) ?_
        refine lv_iconst (v := 2) C.1 C.2.1 qm_M_run_26 (by decide) ?_
        obtain ⟨q4, c4, hf⟩ := bnd_s hf
        refine q_callVi (wf := (mW h K)) (n := 1) (As := [.int 2]) (q0 := 0) (ci := 7) C G hl.1 (kM_fail (l := l) c4) qx_M_203 qm_M_fail_d ⟨by decide, by decide⟩ ⟨Nat.le_refl _, Nat.le_refl _⟩ rfl rfl rfl rfl rfl (Nat.le_of_ble_eq_true rfl) qm_M_run_27 (fun H locs G => ?_)
        exact q_iret (wf := (mW h K)) C G hf qm_M_run_30
    · have hf := if_f b2 hf
      exact wM_run_12 C S hf _ _ _ G (lv_sub hl [0] rfl)
theorem kM_run {l : Launch} {ad : Nat → Nat} {D : va_G} {h : Nat → Nat} {K : Nat → ClassId} {res : Int32 × qS} {S : qS} {a1 : Int32} (hf : fM_run S a1 = some res) : qMi l qm_M_run qm_M_run_c 3 .int 8 189 D qCl (mT K) ad (mW h K) [.ref (h 0), .int a1] S res := qMi_of (by decide) (Nat.le_of_ble_eq_true rfl) (fun _ _ _ _ _ _ _ _ _ _ C G hl => wM_run C S a1 hf _ _ _ G hl)
set_option maxHeartbeats 4000000 in
set_option maxRecDepth 100000 in
theorem wM_reach_9 {l : Launch} {D : va_G} {h : Nat → Nat} {K : Nat → ClassId} {res : Int32 × qS} {p : Program} {e : Env} {s : State} {m : MethodId} {args : Array Value} {below : List Frame} {meth : Method} {c : Code} {A : Nat → Prop} {ad : Nat → Nat} (C : qC p s m args meth c qm_M_reach_c 4 (some .int) qR_M ad) (S : qS) (hf : fM_reach_9 S = some res) : ∀ (H : Heap) (locs : List Loc) (ls : Array Slot), qG D qCl (mT K) A s (mW h K S) H locs → lv_has ls 4 [(0, .ref (h 0))] → W p l e ({ frames := 2, cells := 0, slots := 0, locals := 54 }) s m args below meth c H locs 0 0 (MQ below (qQi D qCl (mT K) (mW h K) A res) args s 0 0 A) (F0 m 9 ls []) := by
  intro H locs ls G hl
  unfold fM_reach_9 at hf
  refine lv_aload_n C.1 C.2.1 qm_M_reach_9 rfl (lv_at hl 0 rfl) ?_
  refine lv_iconst (v := 1) C.1 C.2.1 qm_M_reach_10 (by decide) ?_
  obtain ⟨q1, c1, hf⟩ := bnd_s hf
  refine q_callVi (wf := (mW h K)) (n := 1) (As := [.int 1]) (q0 := 0) (ci := 7) C G hl.1 (kM_fail (l := l) c1) qx_M_203 qm_M_fail_d ⟨by decide, by decide⟩ ⟨Nat.le_refl _, Nat.le_refl _⟩ rfl rfl rfl rfl rfl (Nat.le_of_ble_eq_true rfl) qm_M_reach_11 (fun H locs G => ?_)
  exact q_iret (wf := (mW h K)) C G hf qm_M_reach_14
set_option maxHeartbeats 4000000 in
set_option maxRecDepth 100000 in
theorem wM_reach {l : Launch} {D : va_G} {h : Nat → Nat} {K : Nat → ClassId} {res : Int32 × qS} {p : Program} {e : Env} {s : State} {m : MethodId} {args : Array Value} {below : List Frame} {meth : Method} {c : Code} {A : Nat → Prop} {ad : Nat → Nat} (C : qC p s m args meth c qm_M_reach_c 4 (some .int) qR_M ad) (S : qS) (a1 : Int32) (a2 : Int32) (a3 : Int32) (hf : fM_reach S a1 a2 a3 = some res) : ∀ (H : Heap) (locs : List Loc) (ls : Array Slot), qG D qCl (mT K) A s (mW h K S) H locs → lv_has ls 4 [(0, .ref (h 0)), (1, .int a1), (2, .int a2), (3, .int a3)] → W p l e ({ frames := 2, cells := 0, slots := 0, locals := 54 }) s m args below meth c H locs 0 0 (MQ below (qQi D qCl (mT K) (mW h K) A res) args s 0 0 A) (F0 m 0 ls []) := by
  intro H locs ls G hl
  unfold fM_reach at hf
  refine lv_iload_n C.1 C.2.1 qm_M_reach_0 rfl (lv_at hl 3 rfl) ?_
  refine lv_if_lt (tgt := 9) C.1 C.2.1 qm_M_reach_1 (by decide) (fun b1 => ?_) (fun b1 => ?_)
  · have hf := if_t b1 hf
    exact wM_reach_9 C S hf _ _ _ G (lv_sub hl [0] rfl)
  · have hf := if_f b1 hf
    refine lv_iload_n C.1 C.2.1 qm_M_reach_4 rfl (lv_at hl 3 rfl) ?_
    refine lv_iconst (v := 3) C.1 C.2.1 qm_M_reach_5 (by decide) ?_
    refine lv_icmp_le (tgt := 15) C.1 C.2.1 qm_M_reach_6 (by decide) (fun b2 => ?_) (fun b2 => ?_)
    · have hf := if_t b2 hf
      refine lv_aload_n C.1 C.2.1 qm_M_reach_15 rfl (lv_at hl 0 rfl) ?_
      refine lv_iconst (v := 0) C.1 C.2.1 qm_M_reach_16 (by decide) ?_
      refine q_put (wf := (mW h K)) (S' := (pI S 0 0)) C G qi_M qY_M qy_M qn_M 0 rfl rfl 0 (by decide) qz_831 rfl rfl (Nat.le_of_ble_eq_true rfl) rfl qm_M_reach_17 (fun H locs G => ?_)
      refine lv_aload_n C.1 C.2.1 qm_M_reach_20 rfl (lv_at hl 0 rfl) ?_
      refine lv_iload_n C.1 C.2.1 qm_M_reach_21 rfl (lv_at hl 1 rfl) ?_
      refine lv_iload_n C.1 C.2.1 qm_M_reach_22 rfl (lv_at hl 2 rfl) ?_
      refine lv_iload_n C.1 C.2.1 qm_M_reach_23 rfl (lv_at hl 3 rfl) ?_
      obtain ⟨q3, c3, hf⟩ := bnd_s hf
      refine q_callVi (wf := (mW h K)) (n := 3) (As := [.int a1, .int a2, .int a3]) (q0 := 0) (ci := 7) C G hl.1 (kM_find (l := l) c3) qx_M_73 qm_M_find_d ⟨by decide, by decide⟩ ⟨Nat.le_refl _, Nat.le_refl _⟩ rfl rfl rfl rfl rfl (Nat.le_of_ble_eq_true rfl) qm_M_reach_24 (fun H locs G => ?_)
      exact q_iret (wf := (mW h K)) C G hf qm_M_reach_27
    · have hf := if_f b2 hf
      exact wM_reach_9 C S hf _ _ _ G (lv_sub hl [0] rfl)
theorem kM_reach {l : Launch} {ad : Nat → Nat} {D : va_G} {h : Nat → Nat} {K : Nat → ClassId} {res : Int32 × qS} {S : qS} {a1 : Int32} {a2 : Int32} {a3 : Int32} (hf : fM_reach S a1 a2 a3 = some res) : qMi l qm_M_reach qm_M_reach_c 4 .int 2 54 D qCl (mT K) ad (mW h K) [.ref (h 0), .int a1, .int a2, .int a3] S res := qMi_of (by decide) (Nat.le_of_ble_eq_true rfl) (fun _ _ _ _ _ _ _ _ _ _ C G hl => wM_reach C S a1 a2 a3 hf _ _ _ G hl)
set_option maxHeartbeats 4000000 in
set_option maxRecDepth 100000 in
theorem wM_state_53 {l : Launch} {D : va_G} {h : Nat → Nat} {K : Nat → ClassId} {res : Int32 × qS} {p : Program} {e : Env} {s : State} {m : MethodId} {args : Array Value} {below : List Frame} {meth : Method} {c : Code} {A : Nat → Prop} {ad : Nat → Nat} (C : qC p s m args meth c qm_M_state_c 2 (some .int) qR_M ad) (S : qS) (y0 : Int32) (hf : fM_state_53 S y0 = some res) : ∀ (H : Heap) (locs : List Loc) (ls : Array Slot), qG D qCl (mT K) A s (mW h K S) H locs → lv_has ls 2 [] → W p l e ({ frames := 0, cells := 0, slots := 0, locals := 0 }) s m args below meth c H locs 0 0 (MQ below (qQi D qCl (mT K) (mW h K) A res) args s 0 0 A) (F0 m 53 ls [.int y0]) := by
  intro H locs ls G hl
  unfold fM_state_53 at hf
  exact q_iret (wf := (mW h K)) C G hf qm_M_state_53
set_option maxHeartbeats 4000000 in
set_option maxRecDepth 100000 in
theorem wM_state {l : Launch} {D : va_G} {h : Nat → Nat} {K : Nat → ClassId} {res : Int32 × qS} {p : Program} {e : Env} {s : State} {m : MethodId} {args : Array Value} {below : List Frame} {meth : Method} {c : Code} {A : Nat → Prop} {ad : Nat → Nat} (C : qC p s m args meth c qm_M_state_c 2 (some .int) qR_M ad) (S : qS) (a1 : Int32) (hf : fM_state S a1 = some res) : ∀ (H : Heap) (locs : List Loc) (ls : Array Slot), qG D qCl (mT K) A s (mW h K S) H locs → lv_has ls 2 [(0, .ref (h 0)), (1, .int a1)] → W p l e ({ frames := 0, cells := 0, slots := 0, locals := 0 }) s m args below meth c H locs 0 0 (MQ below (qQi D qCl (mT K) (mW h K) A res) args s 0 0 A) (F0 m 0 ls []) := by
  intro H locs ls G hl
  unfold fM_state at hf
  refine lv_aload_n C.1 C.2.1 qm_M_state_0 rfl (lv_at hl 0 rfl) ?_
  refine lv_iconst (v := 0) C.1 C.2.1 qm_M_state_1 (by decide) ?_
  refine q_put (wf := (mW h K)) (S' := (pI S 0 0)) C G qi_M qY_M qy_M qn_M 0 rfl rfl 0 (by decide) qz_831 rfl rfl (Nat.le_of_ble_eq_true rfl) rfl qm_M_state_2 (fun H locs G => ?_)
  refine lv_iload_n C.1 C.2.1 qm_M_state_5 rfl (lv_at hl 1 rfl) ?_
  refine lv_if_ne (tgt := 16) C.1 C.2.1 qm_M_state_6 (by decide) (fun b1 => ?_) (fun b1 => ?_)
  · have hf := if_t b1 hf
    refine lv_iload_n C.1 C.2.1 qm_M_state_16 rfl (lv_at hl 1 rfl) ?_
    refine lv_iconst (v := 1) C.1 C.2.1 qm_M_state_17 (by decide) ?_
    refine lv_icmp_ne (tgt := 28) C.1 C.2.1 qm_M_state_18 (by decide) (fun b2 => ?_) (fun b2 => ?_)
    · have hf := if_t b2 hf
      refine lv_iload_n C.1 C.2.1 qm_M_state_28 rfl (lv_at hl 1 rfl) ?_
      refine lv_iconst (v := 2) C.1 C.2.1 qm_M_state_29 (by decide) ?_
      refine lv_icmp_ne (tgt := 40) C.1 C.2.1 qm_M_state_30 (by decide) (fun b3 => ?_) (fun b3 => ?_)
      · have hf := if_t b3 hf
        refine lv_iload_n C.1 C.2.1 qm_M_state_40 rfl (lv_at hl 1 rfl) ?_
        refine lv_iconst (v := 3) C.1 C.2.1 qm_M_state_41 (by decide) ?_
        refine lv_icmp_ne (tgt := 52) C.1 C.2.1 qm_M_state_42 (by decide) (fun b4 => ?_) (fun b4 => ?_)
        · have hf := if_t b4 hf
          refine lv_iconst (v := (-1)) C.1 C.2.1 qm_M_state_52 (by decide) ?_
          exact wM_state_53 C (pI S 0 0) (-1) hf _ _ _ G (lv_sub hl [] rfl)
        · have hf := if_f (not_not_intro b4) hf
          refine lv_aload_n C.1 C.2.1 qm_M_state_45 rfl (lv_at hl 0 rfl) ?_
          refine q_get (wf := (mW h K)) (v := .int ((pI S 0 0).1 5)) C G qi_M 0 rfl rfl 8 (by decide) qz_839 rfl qm_M_state_46 ?_
          refine lv_goto (tgt := 53) C.1 C.2.1 qm_M_state_49 (by decide) ?_
          exact wM_state_53 C (pI S 0 0) ((pI S 0 0).1 5) hf _ _ _ G (lv_sub hl [] rfl)
      · have hf := if_f (not_not_intro b3) hf
        refine lv_aload_n C.1 C.2.1 qm_M_state_33 rfl (lv_at hl 0 rfl) ?_
        refine q_get (wf := (mW h K)) (v := .int ((pI S 0 0).1 4)) C G qi_M 0 rfl rfl 7 (by decide) qz_838 rfl qm_M_state_34 ?_
        refine lv_goto (tgt := 53) C.1 C.2.1 qm_M_state_37 (by decide) ?_
        exact wM_state_53 C (pI S 0 0) ((pI S 0 0).1 4) hf _ _ _ G (lv_sub hl [] rfl)
    · have hf := if_f (not_not_intro b2) hf
      refine lv_aload_n C.1 C.2.1 qm_M_state_21 rfl (lv_at hl 0 rfl) ?_
      refine q_get (wf := (mW h K)) (v := .int ((pI S 0 0).1 3)) C G qi_M 0 rfl rfl 6 (by decide) qz_837 rfl qm_M_state_22 ?_
      refine lv_goto (tgt := 53) C.1 C.2.1 qm_M_state_25 (by decide) ?_
      exact wM_state_53 C (pI S 0 0) ((pI S 0 0).1 3) hf _ _ _ G (lv_sub hl [] rfl)
  · have hf := if_f (not_not_intro b1) hf
    refine lv_aload_n C.1 C.2.1 qm_M_state_9 rfl (lv_at hl 0 rfl) ?_
    refine q_get (wf := (mW h K)) (v := .int ((pI S 0 0).1 2)) C G qi_M 0 rfl rfl 5 (by decide) qz_836 rfl qm_M_state_10 ?_
    refine lv_goto (tgt := 53) C.1 C.2.1 qm_M_state_13 (by decide) ?_
    exact wM_state_53 C (pI S 0 0) ((pI S 0 0).1 2) hf _ _ _ G (lv_sub hl [] rfl)
theorem kM_state {l : Launch} {ad : Nat → Nat} {D : va_G} {h : Nat → Nat} {K : Nat → ClassId} {res : Int32 × qS} {S : qS} {a1 : Int32} (hf : fM_state S a1 = some res) : qMi l qm_M_state qm_M_state_c 2 .int 0 0 D qCl (mT K) ad (mW h K) [.ref (h 0), .int a1] S res := qMi_of (by decide) (Nat.le_of_ble_eq_true rfl) (fun _ _ _ _ _ _ _ _ _ _ C G hl => wM_state C S a1 hf _ _ _ G hl)
