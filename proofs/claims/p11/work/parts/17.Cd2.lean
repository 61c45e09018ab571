theorem qm_Cd_enterFrame_0 : decode qm_Cd_enterFrame_c 0 = .ok (.aload_n 0, 1) := by decide +kernel
theorem qm_Cd_enterFrame_1 : decode qm_Cd_enterFrame_c 1 = .ok (.getfield 9, 3) := by decide +kernel
theorem qm_Cd_enterFrame_4 : decode qm_Cd_enterFrame_c 4 = .ok (.aload_n 0, 1) := by decide +kernel
theorem qm_Cd_enterFrame_5 : decode qm_Cd_enterFrame_c 5 = .ok (.getfield 15, 3) := by decide +kernel
theorem qm_Cd_enterFrame_8 : decode qm_Cd_enterFrame_c 8 = .ok (.getfield 96, 3) := by decide +kernel
theorem qm_Cd_enterFrame_11 : decode qm_Cd_enterFrame_c 11 = .ok (.invokevirtual 227, 3) := by decide +kernel
theorem qm_Cd_enterFrame_14 : decode qm_Cd_enterFrame_c 14 = .ok (.aload_n 0, 1) := by decide +kernel
theorem qm_Cd_enterFrame_15 : decode qm_Cd_enterFrame_c 15 = .ok (.getfield 9, 3) := by decide +kernel
theorem qm_Cd_enterFrame_18 : decode qm_Cd_enterFrame_c 18 = .ok (.bipush 14, 2) := by decide +kernel
theorem qm_Cd_enterFrame_20 : decode qm_Cd_enterFrame_c 20 = .ok (.invokevirtual 169, 3) := by decide +kernel
theorem qm_Cd_enterFrame_23 : decode qm_Cd_enterFrame_c 23 = .ok (.istore_n 1, 1) := by decide +kernel
theorem qm_Cd_enterFrame_24 : decode qm_Cd_enterFrame_c 24 = .ok (.aload_n 0, 1) := by decide +kernel
theorem qm_Cd_enterFrame_25 : decode qm_Cd_enterFrame_c 25 = .ok (.getfield 9, 3) := by decide +kernel
theorem qm_Cd_enterFrame_28 : decode qm_Cd_enterFrame_c 28 = .ok (.aload_n 0, 1) := by decide +kernel
theorem qm_Cd_enterFrame_29 : decode qm_Cd_enterFrame_c 29 = .ok (.getfield 19, 3) := by decide +kernel
theorem qm_Cd_enterFrame_32 : decode qm_Cd_enterFrame_c 32 = .ok (.getfield 159, 3) := by decide +kernel
theorem qm_Cd_enterFrame_35 : decode qm_Cd_enterFrame_c 35 = .ok (.iconst 2, 1) := by decide +kernel
theorem qm_Cd_enterFrame_36 : decode qm_Cd_enterFrame_c 36 = .ok (.invokevirtual 233, 3) := by decide +kernel
theorem qm_Cd_enterFrame_39 : decode qm_Cd_enterFrame_c 39 = .ok (.istore_n 2, 1) := by decide +kernel
theorem qm_Cd_enterFrame_40 : decode qm_Cd_enterFrame_c 40 = .ok (.iload_n 2, 1) := by decide +kernel
theorem qm_Cd_enterFrame_41 : decode qm_Cd_enterFrame_c 41 = .ok (.ldc 236, 2) := by decide +kernel
theorem qm_Cd_enterFrame_43 : decode qm_Cd_enterFrame_c 43 = .ok (.iand, 1) := by decide +kernel
theorem qm_Cd_enterFrame_44 : decode qm_Cd_enterFrame_c 44 = .ok (.ifCond .eq 12, 3) := by decide +kernel
theorem qm_Cd_enterFrame_47 : decode qm_Cd_enterFrame_c 47 = .ok (.aload_n 0, 1) := by decide +kernel
theorem qm_Cd_enterFrame_48 : decode qm_Cd_enterFrame_c 48 = .ok (.getfield 9, 3) := by decide +kernel
theorem qm_Cd_enterFrame_51 : decode qm_Cd_enterFrame_c 51 = .ok (.iconst 2, 1) := by decide +kernel
theorem qm_Cd_enterFrame_52 : decode qm_Cd_enterFrame_c 52 = .ok (.invokevirtual 82, 3) := by decide +kernel
theorem qm_Cd_enterFrame_55 : decode qm_Cd_enterFrame_c 55 = .ok (.return_, 1) := by decide +kernel
theorem qm_Cd_enterFrame_56 : decode qm_Cd_enterFrame_c 56 = .ok (.iload_n 1, 1) := by decide +kernel
theorem qm_Cd_enterFrame_57 : decode qm_Cd_enterFrame_c 57 = .ok (.iconst 3, 1) := by decide +kernel
theorem qm_Cd_enterFrame_58 : decode qm_Cd_enterFrame_c 58 = .ok (.iand, 1) := by decide +kernel
theorem qm_Cd_enterFrame_59 : decode qm_Cd_enterFrame_c 59 = .ok (.istore_n 3, 1) := by decide +kernel
theorem qm_Cd_enterFrame_60 : decode qm_Cd_enterFrame_c 60 = .ok (.aload_n 0, 1) := by decide +kernel
theorem qm_Cd_enterFrame_61 : decode qm_Cd_enterFrame_c 61 = .ok (.getfield 9, 3) := by decide +kernel
theorem qm_Cd_enterFrame_64 : decode qm_Cd_enterFrame_c 64 = .ok (.bipush 14, 2) := by decide +kernel
theorem qm_Cd_enterFrame_66 : decode qm_Cd_enterFrame_c 66 = .ok (.iload_n 1, 1) := by decide +kernel
theorem qm_Cd_enterFrame_67 : decode qm_Cd_enterFrame_c 67 = .ok (.iload_n 3, 1) := by decide +kernel
theorem qm_Cd_enterFrame_68 : decode qm_Cd_enterFrame_c 68 = .ok (.isub, 1) := by decide +kernel
theorem qm_Cd_enterFrame_69 : decode qm_Cd_enterFrame_c 69 = .ok (.invokevirtual 92, 3) := by decide +kernel
theorem qm_Cd_enterFrame_72 : decode qm_Cd_enterFrame_c 72 = .ok (.bipush 11, 2) := by decide +kernel
theorem qm_Cd_enterFrame_74 : decode qm_Cd_enterFrame_c 74 = .ok (.istore 4, 2) := by decide +kernel
theorem qm_Cd_enterFrame_76 : decode qm_Cd_enterFrame_c 76 = .ok (.iload 4, 2) := by decide +kernel
theorem qm_Cd_enterFrame_78 : decode qm_Cd_enterFrame_c 78 = .ok (.ifCond .lt 34, 3) := by decide +kernel
theorem qm_Cd_enterFrame_81 : decode qm_Cd_enterFrame_c 81 = .ok (.iload_n 2, 1) := by decide +kernel
theorem qm_Cd_enterFrame_82 : decode qm_Cd_enterFrame_c 82 = .ok (.iload 4, 2) := by decide +kernel
theorem qm_Cd_enterFrame_84 : decode qm_Cd_enterFrame_c 84 = .ok (.iushr, 1) := by decide +kernel
theorem qm_Cd_enterFrame_85 : decode qm_Cd_enterFrame_c 85 = .ok (.iconst 1, 1) := by decide +kernel
theorem qm_Cd_enterFrame_86 : decode qm_Cd_enterFrame_c 86 = .ok (.iand, 1) := by decide +kernel
theorem qm_Cd_enterFrame_87 : decode qm_Cd_enterFrame_c 87 = .ok (.ifCond .eq 19, 3) := by decide +kernel
theorem qm_Cd_enterFrame_90 : decode qm_Cd_enterFrame_c 90 = .ok (.aload_n 0, 1) := by decide +kernel
theorem qm_Cd_enterFrame_91 : decode qm_Cd_enterFrame_c 91 = .ok (.getfield 9, 3) := by decide +kernel
theorem qm_Cd_enterFrame_94 : decode qm_Cd_enterFrame_c 94 = .ok (.aload_n 0, 1) := by decide +kernel
theorem qm_Cd_enterFrame_95 : decode qm_Cd_enterFrame_c 95 = .ok (.getfield 9, 3) := by decide +kernel
theorem qm_Cd_enterFrame_98 : decode qm_Cd_enterFrame_c 98 = .ok (.iload 4, 2) := by decide +kernel
theorem qm_Cd_enterFrame_100 : decode qm_Cd_enterFrame_c 100 = .ok (.invokevirtual 169, 3) := by decide +kernel
theorem qm_Cd_enterFrame_103 : decode qm_Cd_enterFrame_c 103 = .ok (.invokevirtual 227, 3) := by decide +kernel
theorem qm_Cd_enterFrame_106 : decode qm_Cd_enterFrame_c 106 = .ok (.iinc 4 (-1), 3) := by decide +kernel
theorem qm_Cd_enterFrame_109 : decode qm_Cd_enterFrame_c 109 = .ok (.goto (-33), 3) := by decide +kernel
theorem qm_Cd_enterFrame_112 : decode qm_Cd_enterFrame_c 112 = .ok (.aload_n 0, 1) := by decide +kernel
theorem qm_Cd_enterFrame_113 : decode qm_Cd_enterFrame_c 113 = .ok (.getfield 9, 3) := by decide +kernel
theorem qm_Cd_enterFrame_116 : decode qm_Cd_enterFrame_c 116 = .ok (.aload_n 0, 1) := by decide +kernel
theorem qm_Cd_enterFrame_117 : decode qm_Cd_enterFrame_c 117 = .ok (.getfield 9, 3) := by decide +kernel
theorem qm_Cd_enterFrame_120 : decode qm_Cd_enterFrame_c 120 = .ok (.bipush 15, 2) := by decide +kernel
theorem qm_Cd_enterFrame_122 : decode qm_Cd_enterFrame_c 122 = .ok (.invokevirtual 169, 3) := by decide +kernel
theorem qm_Cd_enterFrame_125 : decode qm_Cd_enterFrame_c 125 = .ok (.invokevirtual 227, 3) := by decide +kernel
theorem qm_Cd_enterFrame_128 : decode qm_Cd_enterFrame_c 128 = .ok (.aload_n 0, 1) := by decide +kernel
theorem qm_Cd_enterFrame_129 : decode qm_Cd_enterFrame_c 129 = .ok (.getfield 9, 3) := by decide +kernel
theorem qm_Cd_enterFrame_132 : decode qm_Cd_enterFrame_c 132 = .ok (.aload_n 0, 1) := by decide +kernel
theorem qm_Cd_enterFrame_133 : decode qm_Cd_enterFrame_c 133 = .ok (.getfield 9, 3) := by decide +kernel
theorem qm_Cd_enterFrame_136 : decode qm_Cd_enterFrame_c 136 = .ok (.bipush 13, 2) := by decide +kernel
theorem qm_Cd_enterFrame_138 : decode qm_Cd_enterFrame_c 138 = .ok (.invokevirtual 169, 3) := by decide +kernel
theorem qm_Cd_enterFrame_141 : decode qm_Cd_enterFrame_c 141 = .ok (.invokevirtual 227, 3) := by decide +kernel
theorem qm_Cd_enterFrame_144 : decode qm_Cd_enterFrame_c 144 = .ok (.aload_n 0, 1) := by decide +kernel
theorem qm_Cd_enterFrame_145 : decode qm_Cd_enterFrame_c 145 = .ok (.getfield 9, 3) := by decide +kernel
theorem qm_Cd_enterFrame_148 : decode qm_Cd_enterFrame_c 148 = .ok (.aload_n 0, 1) := by decide +kernel
theorem qm_Cd_enterFrame_149 : decode qm_Cd_enterFrame_c 149 = .ok (.getfield 9, 3) := by decide +kernel
theorem qm_Cd_enterFrame_152 : decode qm_Cd_enterFrame_c 152 = .ok (.bipush 12, 2) := by decide +kernel
theorem qm_Cd_enterFrame_154 : decode qm_Cd_enterFrame_c 154 = .ok (.invokevirtual 169, 3) := by decide +kernel
theorem qm_Cd_enterFrame_157 : decode qm_Cd_enterFrame_c 157 = .ok (.invokevirtual 227, 3) := by decide +kernel
theorem qm_Cd_enterFrame_160 : decode qm_Cd_enterFrame_c 160 = .ok (.aload_n 0, 1) := by decide +kernel
theorem qm_Cd_enterFrame_161 : decode qm_Cd_enterFrame_c 161 = .ok (.getfield 9, 3) := by decide +kernel
theorem qm_Cd_enterFrame_164 : decode qm_Cd_enterFrame_c 164 = .ok (.iload_n 3, 1) := by decide +kernel
theorem qm_Cd_enterFrame_165 : decode qm_Cd_enterFrame_c 165 = .ok (.bipush 30, 2) := by decide +kernel
theorem qm_Cd_enterFrame_167 : decode qm_Cd_enterFrame_c 167 = .ok (.ishl, 1) := by decide +kernel
theorem qm_Cd_enterFrame_168 : decode qm_Cd_enterFrame_c 168 = .ok (.ldc 237, 2) := by decide +kernel
theorem qm_Cd_enterFrame_170 : decode qm_Cd_enterFrame_c 170 = .ok (.ior, 1) := by decide +kernel
theorem qm_Cd_enterFrame_171 : decode qm_Cd_enterFrame_c 171 = .ok (.iload_n 2, 1) := by decide +kernel
theorem qm_Cd_enterFrame_172 : decode qm_Cd_enterFrame_c 172 = .ok (.sipush 4095, 3) := by decide +kernel
theorem qm_Cd_enterFrame_175 : decode qm_Cd_enterFrame_c 175 = .ok (.iand, 1) := by decide +kernel
theorem qm_Cd_enterFrame_176 : decode qm_Cd_enterFrame_c 176 = .ok (.bipush 16, 2) := by decide +kernel
theorem qm_Cd_enterFrame_178 : decode qm_Cd_enterFrame_c 178 = .ok (.ishl, 1) := by decide +kernel
theorem qm_Cd_enterFrame_179 : decode qm_Cd_enterFrame_c 179 = .ok (.ior, 1) := by decide +kernel
theorem qm_Cd_enterFrame_180 : decode qm_Cd_enterFrame_c 180 = .ok (.aload_n 0, 1) := by decide +kernel
theorem qm_Cd_enterFrame_181 : decode qm_Cd_enterFrame_c 181 = .ok (.getfield 9, 3) := by decide +kernel
theorem qm_Cd_enterFrame_184 : decode qm_Cd_enterFrame_c 184 = .ok (.getfield 108, 3) := by decide +kernel
theorem qm_Cd_enterFrame_187 : decode qm_Cd_enterFrame_c 187 = .ok (.ldc 238, 2) := by decide +kernel
theorem qm_Cd_enterFrame_189 : decode qm_Cd_enterFrame_c 189 = .ok (.iand, 1) := by decide +kernel
theorem qm_Cd_enterFrame_190 : decode qm_Cd_enterFrame_c 190 = .ok (.ior, 1) := by decide +kernel
theorem qm_Cd_enterFrame_191 : decode qm_Cd_enterFrame_c 191 = .ok (.invokevirtual 227, 3) := by decide +kernel
theorem qm_Cd_enterFrame_194 : decode qm_Cd_enterFrame_c 194 = .ok (.aload_n 0, 1) := by decide +kernel
theorem qm_Cd_enterFrame_195 : decode qm_Cd_enterFrame_c 195 = .ok (.getfield 9, 3) := by decide +kernel
theorem qm_Cd_enterFrame_198 : decode qm_Cd_enterFrame_c 198 = .ok (.iconst 0, 1) := by decide +kernel
theorem qm_Cd_enterFrame_199 : decode qm_Cd_enterFrame_c 199 = .ok (.invokevirtual 227, 3) := by decide +kernel
theorem qm_Cd_enterFrame_202 : decode qm_Cd_enterFrame_c 202 = .ok (.aload_n 0, 1) := by decide +kernel
theorem qm_Cd_enterFrame_203 : decode qm_Cd_enterFrame_c 203 = .ok (.getfield 9, 3) := by decide +kernel
theorem qm_Cd_enterFrame_206 : decode qm_Cd_enterFrame_c 206 = .ok (.bipush 13, 2) := by decide +kernel
theorem qm_Cd_enterFrame_208 : decode qm_Cd_enterFrame_c 208 = .ok (.aload_n 0, 1) := by decide +kernel
theorem qm_Cd_enterFrame_209 : decode qm_Cd_enterFrame_c 209 = .ok (.getfield 9, 3) := by decide +kernel
theorem qm_Cd_enterFrame_212 : decode qm_Cd_enterFrame_c 212 = .ok (.bipush 14, 2) := by decide +kernel
theorem qm_Cd_enterFrame_214 : decode qm_Cd_enterFrame_c 214 = .ok (.invokevirtual 169, 3) := by decide +kernel
theorem qm_Cd_enterFrame_217 : decode qm_Cd_enterFrame_c 217 = .ok (.invokevirtual 92, 3) := by decide +kernel
theorem qm_Cd_enterFrame_220 : decode qm_Cd_enterFrame_c 220 = .ok (.aload_n 0, 1) := by decide +kernel
theorem qm_Cd_enterFrame_221 : decode qm_Cd_enterFrame_c 221 = .ok (.getfield 9, 3) := by decide +kernel
theorem qm_Cd_enterFrame_224 : decode qm_Cd_enterFrame_c 224 = .ok (.bipush 12, 2) := by decide +kernel
theorem qm_Cd_enterFrame_226 : decode qm_Cd_enterFrame_c 226 = .ok (.iload_n 1, 1) := by decide +kernel
theorem qm_Cd_enterFrame_227 : decode qm_Cd_enterFrame_c 227 = .ok (.invokevirtual 92, 3) := by decide +kernel
theorem qm_Cd_enterFrame_230 : decode qm_Cd_enterFrame_c 230 = .ok (.aload_n 0, 1) := by decide +kernel
theorem qm_Cd_enterFrame_231 : decode qm_Cd_enterFrame_c 231 = .ok (.getfield 9, 3) := by decide +kernel
theorem qm_Cd_enterFrame_234 : decode qm_Cd_enterFrame_c 234 = .ok (.aload_n 0, 1) := by decide +kernel
theorem qm_Cd_enterFrame_235 : decode qm_Cd_enterFrame_c 235 = .ok (.getfield 9, 3) := by decide +kernel
theorem qm_Cd_enterFrame_238 : decode qm_Cd_enterFrame_c 238 = .ok (.getfield 108, 3) := by decide +kernel
theorem qm_Cd_enterFrame_241 : decode qm_Cd_enterFrame_c 241 = .ok (.bipush (-48), 2) := by decide +kernel
theorem qm_Cd_enterFrame_243 : decode qm_Cd_enterFrame_c 243 = .ok (.iand, 1) := by decide +kernel
theorem qm_Cd_enterFrame_244 : decode qm_Cd_enterFrame_c 244 = .ok (.iload_n 2, 1) := by decide +kernel
theorem qm_Cd_enterFrame_245 : decode qm_Cd_enterFrame_c 245 = .ok (.sipush 16384, 3) := by decide +kernel
theorem qm_Cd_enterFrame_248 : decode qm_Cd_enterFrame_c 248 = .ok (.iand, 1) := by decide +kernel
theorem qm_Cd_enterFrame_249 : decode qm_Cd_enterFrame_c 249 = .ok (.ifCond .eq 8, 3) := by decide +kernel
theorem qm_Cd_enterFrame_252 : decode qm_Cd_enterFrame_c 252 = .ok (.bipush 32, 2) := by decide +kernel
theorem qm_Cd_enterFrame_254 : decode qm_Cd_enterFrame_c 254 = .ok (.goto 4, 3) := by decide +kernel
theorem qm_Cd_enterFrame_257 : decode qm_Cd_enterFrame_c 257 = .ok (.iconst 0, 1) := by decide +kernel
theorem qm_Cd_enterFrame_258 : decode qm_Cd_enterFrame_c 258 = .ok (.ior, 1) := by decide +kernel
theorem qm_Cd_enterFrame_259 : decode qm_Cd_enterFrame_c 259 = .ok (.putfield 108, 3) := by decide +kernel
theorem qm_Cd_enterFrame_262 : decode qm_Cd_enterFrame_c 262 = .ok (.aload_n 0, 1) := by decide +kernel
theorem qm_Cd_enterFrame_263 : decode qm_Cd_enterFrame_c 263 = .ok (.getfield 9, 3) := by decide +kernel
theorem qm_Cd_enterFrame_266 : decode qm_Cd_enterFrame_c 266 = .ok (.bipush 15, 2) := by decide +kernel
theorem qm_Cd_enterFrame_268 : decode qm_Cd_enterFrame_c 268 = .ok (.aload_n 0, 1) := by decide +kernel
theorem qm_Cd_enterFrame_269 : decode qm_Cd_enterFrame_c 269 = .ok (.getfield 19, 3) := by decide +kernel
theorem qm_Cd_enterFrame_272 : decode qm_Cd_enterFrame_c 272 = .ok (.getfield 159, 3) := by decide +kernel
theorem qm_Cd_enterFrame_275 : decode qm_Cd_enterFrame_c 275 = .ok (.iconst 2, 1) := by decide +kernel
theorem qm_Cd_enterFrame_276 : decode qm_Cd_enterFrame_c 276 = .ok (.iadd, 1) := by decide +kernel
theorem qm_Cd_enterFrame_277 : decode qm_Cd_enterFrame_c 277 = .ok (.invokevirtual 92, 3) := by decide +kernel
theorem qm_Cd_enterFrame_280 : decode qm_Cd_enterFrame_c 280 = .ok (.return_, 1) := by decide +kernel
theorem qm_Cd_probe_0 : decode qm_Cd_probe_c 0 = .ok (.aload_n 0, 1) := by decide +kernel
theorem qm_Cd_probe_1 : decode qm_Cd_probe_c 1 = .ok (.getfield 9, 3) := by decide +kernel
theorem qm_Cd_probe_4 : decode qm_Cd_probe_c 4 = .ok (.invokevirtual 240, 3) := by decide +kernel
theorem qm_Cd_probe_7 : decode qm_Cd_probe_c 7 = .ok (.aload_n 0, 1) := by decide +kernel
theorem qm_Cd_probe_8 : decode qm_Cd_probe_c 8 = .ok (.getfield 15, 3) := by decide +kernel
theorem qm_Cd_probe_11 : decode qm_Cd_probe_c 11 = .ok (.getfield 96, 3) := by decide +kernel
theorem qm_Cd_probe_14 : decode qm_Cd_probe_c 14 = .ok (.iconst 3, 1) := by decide +kernel
theorem qm_Cd_probe_15 : decode qm_Cd_probe_c 15 = .ok (.iand, 1) := by decide +kernel
theorem qm_Cd_probe_16 : decode qm_Cd_probe_c 16 = .ok (.invokestatic 243, 3) := by decide +kernel
theorem qm_Cd_probe_19 : decode qm_Cd_probe_c 19 = .ok (.istore_n 2, 1) := by decide +kernel
theorem qm_Cd_probe_20 : decode qm_Cd_probe_c 20 = .ok (.aload_n 0, 1) := by decide +kernel
theorem qm_Cd_probe_21 : decode qm_Cd_probe_c 21 = .ok (.getfield 22, 3) := by decide +kernel
theorem qm_Cd_probe_24 : decode qm_Cd_probe_c 24 = .ok (.getfield 159, 3) := by decide +kernel
theorem qm_Cd_probe_27 : decode qm_Cd_probe_c 27 = .ok (.istore_n 3, 1) := by decide +kernel
theorem qm_Cd_probe_28 : decode qm_Cd_probe_c 28 = .ok (.aload_n 0, 1) := by decide +kernel
theorem qm_Cd_probe_29 : decode qm_Cd_probe_c 29 = .ok (.getfield 9, 3) := by decide +kernel
theorem qm_Cd_probe_32 : decode qm_Cd_probe_c 32 = .ok (.iload_n 3, 1) := by decide +kernel
theorem qm_Cd_probe_33 : decode qm_Cd_probe_c 33 = .ok (.iload_n 1, 1) := by decide +kernel
theorem qm_Cd_probe_34 : decode qm_Cd_probe_c 34 = .ok (.iload_n 2, 1) := by decide +kernel
theorem qm_Cd_probe_35 : decode qm_Cd_probe_c 35 = .ok (.invokevirtual 246, 3) := by decide +kernel
theorem qm_Cd_probe_38 : decode qm_Cd_probe_c 38 = .ok (.ifCond .eq 30, 3) := by decide +kernel
theorem qm_Cd_probe_41 : decode qm_Cd_probe_c 41 = .ok (.aload_n 0, 1) := by decide +kernel
theorem qm_Cd_probe_42 : decode qm_Cd_probe_c 42 = .ok (.getfield 9, 3) := by decide +kernel
theorem qm_Cd_probe_45 : decode qm_Cd_probe_c 45 = .ok (.iload_n 3, 1) := by decide +kernel
theorem qm_Cd_probe_46 : decode qm_Cd_probe_c 46 = .ok (.aload_n 0, 1) := by decide +kernel
theorem qm_Cd_probe_47 : decode qm_Cd_probe_c 47 = .ok (.getfield 19, 3) := by decide +kernel
theorem qm_Cd_probe_50 : decode qm_Cd_probe_c 50 = .ok (.getfield 96, 3) := by decide +kernel
theorem qm_Cd_probe_53 : decode qm_Cd_probe_c 53 = .ok (.iadd, 1) := by decide +kernel
theorem qm_Cd_probe_54 : decode qm_Cd_probe_c 54 = .ok (.iconst 1, 1) := by decide +kernel
theorem qm_Cd_probe_55 : decode qm_Cd_probe_c 55 = .ok (.isub, 1) := by decide +kernel
theorem qm_Cd_probe_56 : decode qm_Cd_probe_c 56 = .ok (.iload_n 1, 1) := by decide +kernel
theorem qm_Cd_probe_57 : decode qm_Cd_probe_c 57 = .ok (.iload_n 2, 1) := by decide +kernel
theorem qm_Cd_probe_58 : decode qm_Cd_probe_c 58 = .ok (.invokevirtual 246, 3) := by decide +kernel
theorem qm_Cd_probe_61 : decode qm_Cd_probe_c 61 = .ok (.ifCond .eq 7, 3) := by decide +kernel
theorem qm_Cd_probe_64 : decode qm_Cd_probe_c 64 = .ok (.iconst 1, 1) := by decide +kernel
theorem qm_Cd_probe_65 : decode qm_Cd_probe_c 65 = .ok (.goto 4, 3) := by decide +kernel
theorem qm_Cd_probe_68 : decode qm_Cd_probe_c 68 = .ok (.iconst 0, 1) := by decide +kernel
theorem qm_Cd_probe_69 : decode qm_Cd_probe_c 69 = .ok (.istore 4, 2) := by decide +kernel
theorem qm_Cd_probe_71 : decode qm_Cd_probe_c 71 = .ok (.aload_n 0, 1) := by decide +kernel
theorem qm_Cd_probe_72 : decode qm_Cd_probe_c 72 = .ok (.getfield 9, 3) := by decide +kernel
theorem qm_Cd_probe_75 : decode qm_Cd_probe_c 75 = .ok (.iconst 0, 1) := by decide +kernel
theorem qm_Cd_probe_76 : decode qm_Cd_probe_c 76 = .ok (.iload 4, 2) := by decide +kernel
theorem qm_Cd_probe_78 : decode qm_Cd_probe_c 78 = .ok (.iconst 0, 1) := by decide +kernel
theorem qm_Cd_probe_79 : decode qm_Cd_probe_c 79 = .ok (.iconst 0, 1) := by decide +kernel
theorem qm_Cd_probe_80 : decode qm_Cd_probe_c 80 = .ok (.invokevirtual 197, 3) := by decide +kernel
theorem qm_Cd_probe_83 : decode qm_Cd_probe_c 83 = .ok (.return_, 1) := by decide +kernel
theorem qm_Cd_moved_0 : decode qm_Cd_moved_c 0 = .ok (.iload_n 0, 1) := by decide +kernel
theorem qm_Cd_moved_1 : decode qm_Cd_moved_c 1 = .ok (.tableswitch 59 13 20 #[47, 59, 59, 47, 47, 50, 53, 57], 47) := by decide +kernel
theorem qm_Cd_moved_48 : decode qm_Cd_moved_c 48 = .ok (.iload_n 1, 1) := by decide +kernel
theorem qm_Cd_moved_49 : decode qm_Cd_moved_c 49 = .ok (.i2b, 1) := by decide +kernel
theorem qm_Cd_moved_50 : decode qm_Cd_moved_c 50 = .ok (.ireturn, 1) := by decide +kernel
theorem qm_Cd_moved_51 : decode qm_Cd_moved_c 51 = .ok (.iload_n 1, 1) := by decide +kernel
theorem qm_Cd_moved_52 : decode qm_Cd_moved_c 52 = .ok (.ineg, 1) := by decide +kernel
theorem qm_Cd_moved_53 : decode qm_Cd_moved_c 53 = .ok (.ireturn, 1) := by decide +kernel
theorem qm_Cd_moved_54 : decode qm_Cd_moved_c 54 = .ok (.iload_n 1, 1) := by decide +kernel
theorem qm_Cd_moved_55 : decode qm_Cd_moved_c 55 = .ok (.iconst (-1), 1) := by decide +kernel
theorem qm_Cd_moved_56 : decode qm_Cd_moved_c 56 = .ok (.ixor, 1) := by decide +kernel
theorem qm_Cd_moved_57 : decode qm_Cd_moved_c 57 = .ok (.ireturn, 1) := by decide +kernel
theorem qm_Cd_moved_58 : decode qm_Cd_moved_c 58 = .ok (.iconst 0, 1) := by decide +kernel
theorem qm_Cd_moved_59 : decode qm_Cd_moved_c 59 = .ok (.ireturn, 1) := by decide +kernel
theorem qm_Cd_moved_60 : decode qm_Cd_moved_c 60 = .ok (.iload_n 1, 1) := by decide +kernel
theorem qm_Cd_moved_61 : decode qm_Cd_moved_c 61 = .ok (.ireturn, 1) := by decide +kernel
theorem qm_Cd_move_0 : decode qm_Cd_move_c 0 = .ok (.aload_n 0, 1) := by decide +kernel
theorem qm_Cd_move_1 : decode qm_Cd_move_c 1 = .ok (.getfield 15, 3) := by decide +kernel
theorem qm_Cd_move_4 : decode qm_Cd_move_c 4 = .ok (.getfield 96, 3) := by decide +kernel
theorem qm_Cd_move_7 : decode qm_Cd_move_c 7 = .ok (.istore_n 2, 1) := by decide +kernel
theorem qm_Cd_move_8 : decode qm_Cd_move_c 8 = .ok (.iload_n 1, 1) := by decide +kernel
theorem qm_Cd_move_9 : decode qm_Cd_move_c 9 = .ok (.iload_n 2, 1) := by decide +kernel
theorem qm_Cd_move_10 : decode qm_Cd_move_c 10 = .ok (.invokestatic 187, 3) := by decide +kernel
theorem qm_Cd_move_13 : decode qm_Cd_move_c 13 = .ok (.istore_n 3, 1) := by decide +kernel
theorem qm_Cd_move_14 : decode qm_Cd_move_c 14 = .ok (.iload_n 1, 1) := by decide +kernel
theorem qm_Cd_move_15 : decode qm_Cd_move_c 15 = .ok (.bipush 17, 2) := by decide +kernel
theorem qm_Cd_move_17 : decode qm_Cd_move_c 17 = .ok (.if_icmp .ne 8, 3) := by decide +kernel
theorem qm_Cd_move_20 : decode qm_Cd_move_c 20 = .ok (.iload_n 3, 1) := by decide +kernel
theorem qm_Cd_move_21 : decode qm_Cd_move_c 21 = .ok (.iload_n 2, 1) := by decide +kernel
theorem qm_Cd_move_22 : decode qm_Cd_move_c 22 = .ok (.if_icmp .ne 15, 3) := by decide +kernel
theorem qm_Cd_move_25 : decode qm_Cd_move_c 25 = .ok (.iload_n 1, 1) := by decide +kernel
theorem qm_Cd_move_26 : decode qm_Cd_move_c 26 = .ok (.bipush 18, 2) := by decide +kernel
theorem qm_Cd_move_28 : decode qm_Cd_move_c 28 = .ok (.if_icmp .ne 13, 3) := by decide +kernel
theorem qm_Cd_move_31 : decode qm_Cd_move_c 31 = .ok (.iload_n 2, 1) := by decide +kernel
theorem qm_Cd_move_32 : decode qm_Cd_move_c 32 = .ok (.ldc 193, 2) := by decide +kernel
theorem qm_Cd_move_34 : decode qm_Cd_move_c 34 = .ok (.if_icmp .ne 7, 3) := by decide +kernel
theorem qm_Cd_move_37 : decode qm_Cd_move_c 37 = .ok (.iconst 1, 1) := by decide +kernel
theorem qm_Cd_move_38 : decode qm_Cd_move_c 38 = .ok (.goto 4, 3) := by decide +kernel
theorem qm_Cd_move_41 : decode qm_Cd_move_c 41 = .ok (.iconst 0, 1) := by decide +kernel
theorem qm_Cd_move_42 : decode qm_Cd_move_c 42 = .ok (.istore 4, 2) := by decide +kernel
theorem qm_Cd_move_44 : decode qm_Cd_move_c 44 = .ok (.aload_n 0, 1) := by decide +kernel
theorem qm_Cd_move_45 : decode qm_Cd_move_c 45 = .ok (.getfield 9, 3) := by decide +kernel
theorem qm_Cd_move_48 : decode qm_Cd_move_c 48 = .ok (.iconst 1, 1) := by decide +kernel
theorem qm_Cd_move_49 : decode qm_Cd_move_c 49 = .ok (.invokevirtual 152, 3) := by decide +kernel
theorem qm_Cd_move_52 : decode qm_Cd_move_c 52 = .ok (.istore 5, 2) := by decide +kernel
theorem qm_Cd_move_54 : decode qm_Cd_move_c 54 = .ok (.iload_n 1, 1) := by decide +kernel
theorem qm_Cd_move_55 : decode qm_Cd_move_c 55 = .ok (.bipush 17, 2) := by decide +kernel
theorem qm_Cd_move_57 : decode qm_Cd_move_c 57 = .ok (.if_icmp .ne 9, 3) := by decide +kernel
theorem qm_Cd_move_60 : decode qm_Cd_move_c 60 = .ok (.iconst 0, 1) := by decide +kernel
theorem qm_Cd_move_61 : decode qm_Cd_move_c 61 = .ok (.istore 5, 2) := by decide +kernel
theorem qm_Cd_move_63 : decode qm_Cd_move_c 63 = .ok (.goto 20, 3) := by decide +kernel
theorem qm_Cd_move_66 : decode qm_Cd_move_c 66 = .ok (.iload_n 1, 1) := by decide +kernel
theorem qm_Cd_move_67 : decode qm_Cd_move_c 67 = .ok (.bipush 18, 2) := by decide +kernel
theorem qm_Cd_move_69 : decode qm_Cd_move_c 69 = .ok (.if_icmp .ne 14, 3) := by decide +kernel
theorem qm_Cd_move_72 : decode qm_Cd_move_c 72 = .ok (.iload_n 3, 1) := by decide +kernel
theorem qm_Cd_move_73 : decode qm_Cd_move_c 73 = .ok (.ifCond .eq 7, 3) := by decide +kernel
theorem qm_Cd_move_76 : decode qm_Cd_move_c 76 = .ok (.iconst 1, 1) := by decide +kernel
theorem qm_Cd_move_77 : decode qm_Cd_move_c 77 = .ok (.goto 4, 3) := by decide +kernel
theorem qm_Cd_move_80 : decode qm_Cd_move_c 80 = .ok (.iconst 0, 1) := by decide +kernel
theorem qm_Cd_move_81 : decode qm_Cd_move_c 81 = .ok (.istore 5, 2) := by decide +kernel
theorem qm_Cd_move_83 : decode qm_Cd_move_c 83 = .ok (.aload_n 0, 1) := by decide +kernel
theorem qm_Cd_move_84 : decode qm_Cd_move_c 84 = .ok (.getfield 9, 3) := by decide +kernel
theorem qm_Cd_move_87 : decode qm_Cd_move_c 87 = .ok (.iload_n 3, 1) := by decide +kernel
theorem qm_Cd_move_88 : decode qm_Cd_move_c 88 = .ok (.iload 4, 2) := by decide +kernel
theorem qm_Cd_move_90 : decode qm_Cd_move_c 90 = .ok (.iload 5, 2) := by decide +kernel
theorem qm_Cd_move_92 : decode qm_Cd_move_c 92 = .ok (.invokevirtual 183, 3) := by decide +kernel
theorem qm_Cd_move_95 : decode qm_Cd_move_c 95 = .ok (.aload_n 0, 1) := by decide +kernel
theorem qm_Cd_move_96 : decode qm_Cd_move_c 96 = .ok (.iload_n 1, 1) := by decide +kernel
theorem qm_Cd_move_97 : decode qm_Cd_move_c 97 = .ok (.bipush 20, 2) := by decide +kernel
theorem qm_Cd_move_99 : decode qm_Cd_move_c 99 = .ok (.if_icmp .ne 10, 3) := by decide +kernel
theorem qm_Cd_move_102 : decode qm_Cd_move_c 102 = .ok (.aload_n 0, 1) := by decide +kernel
theorem qm_Cd_move_103 : decode qm_Cd_move_c 103 = .ok (.getfield 15, 3) := by decide +kernel
theorem qm_Cd_move_106 : decode qm_Cd_move_c 106 = .ok (.goto 7, 3) := by decide +kernel
theorem qm_Cd_move_109 : decode qm_Cd_move_c 109 = .ok (.aload_n 0, 1) := by decide +kernel
theorem qm_Cd_move_110 : decode qm_Cd_move_c 110 = .ok (.getfield 19, 3) := by decide +kernel
theorem qm_Cd_move_113 : decode qm_Cd_move_c 113 = .ok (.iload_n 3, 1) := by decide +kernel
theorem qm_Cd_move_114 : decode qm_Cd_move_c 114 = .ok (.invokevirtual 111, 3) := by decide +kernel
theorem qm_Cd_move_117 : decode qm_Cd_move_c 117 = .ok (.return_, 1) := by decide +kernel
theorem qm_Cd_compare_0 : decode qm_Cd_compare_c 0 = .ok (.iload_n 1, 1) := by decide +kernel
theorem qm_Cd_compare_1 : decode qm_Cd_compare_c 1 = .ok (.bipush 22, 2) := by decide +kernel
theorem qm_Cd_compare_3 : decode qm_Cd_compare_c 3 = .ok (.if_icmp .eq 9, 3) := by decide +kernel
theorem qm_Cd_compare_6 : decode qm_Cd_compare_c 6 = .ok (.iload_n 1, 1) := by decide +kernel
theorem qm_Cd_compare_7 : decode qm_Cd_compare_c 7 = .ok (.bipush 24, 2) := by decide +kernel
theorem qm_Cd_compare_9 : decode qm_Cd_compare_c 9 = .ok (.if_icmp .ne 7, 3) := by decide +kernel
theorem qm_Cd_compare_12 : decode qm_Cd_compare_c 12 = .ok (.iconst 1, 1) := by decide +kernel
theorem qm_Cd_compare_13 : decode qm_Cd_compare_c 13 = .ok (.goto 4, 3) := by decide +kernel
theorem qm_Cd_compare_16 : decode qm_Cd_compare_c 16 = .ok (.iconst 0, 1) := by decide +kernel
theorem qm_Cd_compare_17 : decode qm_Cd_compare_c 17 = .ok (.istore_n 2, 1) := by decide +kernel
theorem qm_Cd_compare_18 : decode qm_Cd_compare_c 18 = .ok (.iload_n 2, 1) := by decide +kernel
theorem qm_Cd_compare_19 : decode qm_Cd_compare_c 19 = .ok (.ifCond .eq 14, 3) := by decide +kernel
theorem qm_Cd_compare_22 : decode qm_Cd_compare_c 22 = .ok (.aload_n 0, 1) := by decide +kernel
theorem qm_Cd_compare_23 : decode qm_Cd_compare_c 23 = .ok (.getfield 15, 3) := by decide +kernel
theorem qm_Cd_compare_26 : decode qm_Cd_compare_c 26 = .ok (.getfield 96, 3) := by decide +kernel
theorem qm_Cd_compare_29 : decode qm_Cd_compare_c 29 = .ok (.i2b, 1) := by decide +kernel
theorem qm_Cd_compare_30 : decode qm_Cd_compare_c 30 = .ok (.goto 10, 3) := by decide +kernel
theorem qm_Cd_compare_33 : decode qm_Cd_compare_c 33 = .ok (.aload_n 0, 1) := by decide +kernel
theorem qm_Cd_compare_34 : decode qm_Cd_compare_c 34 = .ok (.getfield 15, 3) := by decide +kernel
theorem qm_Cd_compare_37 : decode qm_Cd_compare_c 37 = .ok (.getfield 96, 3) := by decide +kernel
theorem qm_Cd_compare_40 : decode qm_Cd_compare_c 40 = .ok (.istore_n 3, 1) := by decide +kernel
theorem qm_Cd_compare_41 : decode qm_Cd_compare_c 41 = .ok (.iload_n 1, 1) := by decide +kernel
theorem qm_Cd_compare_42 : decode qm_Cd_compare_c 42 = .ok (.bipush 23, 2) := by decide +kernel
theorem qm_Cd_compare_44 : decode qm_Cd_compare_c 44 = .ok (.if_icmp .ge 14, 3) := by decide +kernel
theorem qm_Cd_compare_47 : decode qm_Cd_compare_c 47 = .ok (.aload_n 0, 1) := by decide +kernel
theorem qm_Cd_compare_48 : decode qm_Cd_compare_c 48 = .ok (.getfield 9, 3) := by decide +kernel
theorem qm_Cd_compare_51 : decode qm_Cd_compare_c 51 = .ok (.iload_n 3, 1) := by decide +kernel
theorem qm_Cd_compare_52 : decode qm_Cd_compare_c 52 = .ok (.iconst 0, 1) := by decide +kernel
theorem qm_Cd_compare_53 : decode qm_Cd_compare_c 53 = .ok (.iconst 0, 1) := by decide +kernel
theorem qm_Cd_compare_54 : decode qm_Cd_compare_c 54 = .ok (.invokevirtual 183, 3) := by decide +kernel
theorem qm_Cd_compare_57 : decode qm_Cd_compare_c 57 = .ok (.return_, 1) := by decide +kernel
theorem qm_Cd_compare_58 : decode qm_Cd_compare_c 58 = .ok (.iload_n 2, 1) := by decide +kernel
theorem qm_Cd_compare_59 : decode qm_Cd_compare_c 59 = .ok (.ifCond .eq 14, 3) := by decide +kernel
theorem qm_Cd_compare_62 : decode qm_Cd_compare_c 62 = .ok (.aload_n 0, 1) := by decide +kernel
theorem qm_Cd_compare_63 : decode qm_Cd_compare_c 63 = .ok (.getfield 19, 3) := by decide +kernel
theorem qm_Cd_compare_66 : decode qm_Cd_compare_c 66 = .ok (.getfield 96, 3) := by decide +kernel
theorem qm_Cd_compare_69 : decode qm_Cd_compare_c 69 = .ok (.i2b, 1) := by decide +kernel
theorem qm_Cd_compare_70 : decode qm_Cd_compare_c 70 = .ok (.goto 10, 3) := by decide +kernel
theorem qm_Cd_compare_73 : decode qm_Cd_compare_c 73 = .ok (.aload_n 0, 1) := by decide +kernel
theorem qm_Cd_compare_74 : decode qm_Cd_compare_c 74 = .ok (.getfield 19, 3) := by decide +kernel
theorem qm_Cd_compare_77 : decode qm_Cd_compare_c 77 = .ok (.getfield 96, 3) := by decide +kernel
theorem qm_Cd_compare_80 : decode qm_Cd_compare_c 80 = .ok (.istore 4, 2) := by decide +kernel
theorem qm_Cd_compare_82 : decode qm_Cd_compare_c 82 = .ok (.aload_n 0, 1) := by decide +kernel
theorem qm_Cd_compare_83 : decode qm_Cd_compare_c 83 = .ok (.getfield 9, 3) := by decide +kernel
theorem qm_Cd_compare_86 : decode qm_Cd_compare_c 86 = .ok (.iload_n 3, 1) := by decide +kernel
theorem qm_Cd_compare_87 : decode qm_Cd_compare_c 87 = .ok (.iload 4, 2) := by decide +kernel
theorem qm_Cd_compare_89 : decode qm_Cd_compare_c 89 = .ok (.if_icmp .ge 7, 3) := by decide +kernel
theorem qm_Cd_compare_92 : decode qm_Cd_compare_c 92 = .ok (.iconst 1, 1) := by decide +kernel
theorem qm_Cd_compare_93 : decode qm_Cd_compare_c 93 = .ok (.goto 4, 3) := by decide +kernel
theorem qm_Cd_compare_96 : decode qm_Cd_compare_c 96 = .ok (.iconst 0, 1) := by decide +kernel
theorem qm_Cd_compare_97 : decode qm_Cd_compare_c 97 = .ok (.iload_n 3, 1) := by decide +kernel
theorem qm_Cd_compare_98 : decode qm_Cd_compare_c 98 = .ok (.iload 4, 2) := by decide +kernel
theorem qm_Cd_compare_100 : decode qm_Cd_compare_c 100 = .ok (.if_icmp .ne 7, 3) := by decide +kernel
theorem qm_Cd_compare_103 : decode qm_Cd_compare_c 103 = .ok (.iconst 1, 1) := by decide +kernel
theorem qm_Cd_compare_104 : decode qm_Cd_compare_c 104 = .ok (.goto 4, 3) := by decide +kernel
theorem qm_Cd_compare_107 : decode qm_Cd_compare_c 107 = .ok (.iconst 0, 1) := by decide +kernel
theorem qm_Cd_compare_108 : decode qm_Cd_compare_c 108 = .ok (.iconst 0, 1) := by decide +kernel
theorem qm_Cd_compare_109 : decode qm_Cd_compare_c 109 = .ok (.iload_n 3, 1) := by decide +kernel
theorem qm_Cd_compare_110 : decode qm_Cd_compare_c 110 = .ok (.iload 4, 2) := by decide +kernel
theorem qm_Cd_compare_112 : decode qm_Cd_compare_c 112 = .ok (.invokestatic 194, 3) := by decide +kernel
theorem qm_Cd_compare_115 : decode qm_Cd_compare_c 115 = .ok (.ifCond .ge 7, 3) := by decide +kernel
theorem qm_Cd_compare_118 : decode qm_Cd_compare_c 118 = .ok (.iconst 1, 1) := by decide +kernel
theorem qm_Cd_compare_119 : decode qm_Cd_compare_c 119 = .ok (.goto 4, 3) := by decide +kernel
theorem qm_Cd_compare_122 : decode qm_Cd_compare_c 122 = .ok (.iconst 0, 1) := by decide +kernel
theorem qm_Cd_compare_123 : decode qm_Cd_compare_c 123 = .ok (.invokevirtual 197, 3) := by decide +kernel
theorem qm_Cd_compare_126 : decode qm_Cd_compare_c 126 = .ok (.return_, 1) := by decide +kernel
theorem qm_Cd_add_0 : decode qm_Cd_add_c 0 = .ok (.iload_n 1, 1) := by decide +kernel
theorem qm_Cd_add_1 : decode qm_Cd_add_c 1 = .ok (.i2l, 1) := by decide +kernel
theorem qm_Cd_add_2 : decode qm_Cd_add_c 2 = .ok (.iload_n 2, 1) := by decide +kernel
theorem qm_Cd_add_3 : decode qm_Cd_add_c 3 = .ok (.i2l, 1) := by decide +kernel
theorem qm_Cd_add_4 : decode qm_Cd_add_c 4 = .ok (.ladd, 1) := by decide +kernel
theorem qm_Cd_add_5 : decode qm_Cd_add_c 5 = .ok (.lstore_n 3, 1) := by decide +kernel
theorem qm_Cd_add_6 : decode qm_Cd_add_c 6 = .ok (.aload_n 0, 1) := by decide +kernel
theorem qm_Cd_add_7 : decode qm_Cd_add_c 7 = .ok (.getfield 9, 3) := by decide +kernel
theorem qm_Cd_add_10 : decode qm_Cd_add_c 10 = .ok (.lload_n 3, 1) := by decide +kernel
theorem qm_Cd_add_11 : decode qm_Cd_add_c 11 = .ok (.l2i, 1) := by decide +kernel
theorem qm_Cd_add_12 : decode qm_Cd_add_c 12 = .ok (.lload_n 3, 1) := by decide +kernel
theorem qm_Cd_add_13 : decode qm_Cd_add_c 13 = .ok (.lload_n 3, 1) := by decide +kernel
theorem qm_Cd_add_14 : decode qm_Cd_add_c 14 = .ok (.l2i, 1) := by decide +kernel
theorem qm_Cd_add_15 : decode qm_Cd_add_c 15 = .ok (.i2l, 1) := by decide +kernel
theorem qm_Cd_add_16 : decode qm_Cd_add_c 16 = .ok (.lcmp, 1) := by decide +kernel
theorem qm_Cd_add_17 : decode qm_Cd_add_c 17 = .ok (.ifCond .eq 7, 3) := by decide +kernel
theorem qm_Cd_add_20 : decode qm_Cd_add_c 20 = .ok (.iconst 1, 1) := by decide +kernel
theorem qm_Cd_add_21 : decode qm_Cd_add_c 21 = .ok (.goto 4, 3) := by decide +kernel
theorem qm_Cd_add_24 : decode qm_Cd_add_c 24 = .ok (.iconst 0, 1) := by decide +kernel
theorem qm_Cd_add_25 : decode qm_Cd_add_c 25 = .ok (.iload_n 1, 1) := by decide +kernel
theorem qm_Cd_add_26 : decode qm_Cd_add_c 26 = .ok (.i2l, 1) := by decide +kernel
theorem qm_Cd_add_27 : decode qm_Cd_add_c 27 = .ok (.ldc2_w 220, 3) := by decide +kernel
theorem qm_Cd_add_30 : decode qm_Cd_add_c 30 = .ok (.land, 1) := by decide +kernel
theorem qm_Cd_add_31 : decode qm_Cd_add_c 31 = .ok (.iload_n 2, 1) := by decide +kernel
theorem qm_Cd_add_32 : decode qm_Cd_add_c 32 = .ok (.i2l, 1) := by decide +kernel
theorem qm_Cd_add_33 : decode qm_Cd_add_c 33 = .ok (.ldc2_w 220, 3) := by decide +kernel
theorem qm_Cd_add_36 : decode qm_Cd_add_c 36 = .ok (.land, 1) := by decide +kernel
theorem qm_Cd_add_37 : decode qm_Cd_add_c 37 = .ok (.ladd, 1) := by decide +kernel
theorem qm_Cd_add_38 : decode qm_Cd_add_c 38 = .ok (.ldc2_w 220, 3) := by decide +kernel
theorem qm_Cd_add_41 : decode qm_Cd_add_c 41 = .ok (.lcmp, 1) := by decide +kernel
theorem qm_Cd_add_42 : decode qm_Cd_add_c 42 = .ok (.ifCond .le 7, 3) := by decide +kernel
theorem qm_Cd_add_45 : decode qm_Cd_add_c 45 = .ok (.iconst 1, 1) := by decide +kernel
theorem qm_Cd_add_46 : decode qm_Cd_add_c 46 = .ok (.goto 4, 3) := by decide +kernel
theorem qm_Cd_add_49 : decode qm_Cd_add_c 49 = .ok (.iconst 0, 1) := by decide +kernel
theorem qm_Cd_add_50 : decode qm_Cd_add_c 50 = .ok (.invokevirtual 183, 3) := by decide +kernel
theorem qm_Cd_add_53 : decode qm_Cd_add_c 53 = .ok (.lload_n 3, 1) := by decide +kernel
theorem qm_Cd_add_54 : decode qm_Cd_add_c 54 = .ok (.l2i, 1) := by decide +kernel
theorem qm_Cd_add_55 : decode qm_Cd_add_c 55 = .ok (.ireturn, 1) := by decide +kernel
theorem qm_Cd_subtract_0 : decode qm_Cd_subtract_c 0 = .ok (.iload_n 1, 1) := by decide +kernel
theorem qm_Cd_subtract_1 : decode qm_Cd_subtract_c 1 = .ok (.i2l, 1) := by decide +kernel
theorem qm_Cd_subtract_2 : decode qm_Cd_subtract_c 2 = .ok (.iload_n 2, 1) := by decide +kernel
theorem qm_Cd_subtract_3 : decode qm_Cd_subtract_c 3 = .ok (.i2l, 1) := by decide +kernel
theorem qm_Cd_subtract_4 : decode qm_Cd_subtract_c 4 = .ok (.lsub, 1) := by decide +kernel
theorem qm_Cd_subtract_5 : decode qm_Cd_subtract_c 5 = .ok (.lstore_n 3, 1) := by decide +kernel
theorem qm_Cd_subtract_6 : decode qm_Cd_subtract_c 6 = .ok (.aload_n 0, 1) := by decide +kernel
theorem qm_Cd_subtract_7 : decode qm_Cd_subtract_c 7 = .ok (.getfield 9, 3) := by decide +kernel
theorem qm_Cd_subtract_10 : decode qm_Cd_subtract_c 10 = .ok (.lload_n 3, 1) := by decide +kernel
theorem qm_Cd_subtract_11 : decode qm_Cd_subtract_c 11 = .ok (.l2i, 1) := by decide +kernel
theorem qm_Cd_subtract_12 : decode qm_Cd_subtract_c 12 = .ok (.lload_n 3, 1) := by decide +kernel
theorem qm_Cd_subtract_13 : decode qm_Cd_subtract_c 13 = .ok (.lload_n 3, 1) := by decide +kernel
theorem qm_Cd_subtract_14 : decode qm_Cd_subtract_c 14 = .ok (.l2i, 1) := by decide +kernel
theorem qm_Cd_subtract_15 : decode qm_Cd_subtract_c 15 = .ok (.i2l, 1) := by decide +kernel
theorem qm_Cd_subtract_16 : decode qm_Cd_subtract_c 16 = .ok (.lcmp, 1) := by decide +kernel
theorem qm_Cd_subtract_17 : decode qm_Cd_subtract_c 17 = .ok (.ifCond .eq 7, 3) := by decide +kernel
theorem qm_Cd_subtract_20 : decode qm_Cd_subtract_c 20 = .ok (.iconst 1, 1) := by decide +kernel
theorem qm_Cd_subtract_21 : decode qm_Cd_subtract_c 21 = .ok (.goto 4, 3) := by decide +kernel
theorem qm_Cd_subtract_24 : decode qm_Cd_subtract_c 24 = .ok (.iconst 0, 1) := by decide +kernel
theorem qm_Cd_subtract_25 : decode qm_Cd_subtract_c 25 = .ok (.iload_n 1, 1) := by decide +kernel
theorem qm_Cd_subtract_26 : decode qm_Cd_subtract_c 26 = .ok (.iload_n 2, 1) := by decide +kernel
theorem qm_Cd_subtract_27 : decode qm_Cd_subtract_c 27 = .ok (.invokestatic 194, 3) := by decide +kernel
theorem qm_Cd_subtract_30 : decode qm_Cd_subtract_c 30 = .ok (.ifCond .ge 7, 3) := by decide +kernel
theorem qm_Cd_subtract_33 : decode qm_Cd_subtract_c 33 = .ok (.iconst 1, 1) := by decide +kernel
theorem qm_Cd_subtract_34 : decode qm_Cd_subtract_c 34 = .ok (.goto 4, 3) := by decide +kernel
theorem qm_Cd_subtract_37 : decode qm_Cd_subtract_c 37 = .ok (.iconst 0, 1) := by decide +kernel
theorem qm_Cd_subtract_38 : decode qm_Cd_subtract_c 38 = .ok (.invokevirtual 183, 3) := by decide +kernel
theorem qm_Cd_subtract_41 : decode qm_Cd_subtract_c 41 = .ok (.lload_n 3, 1) := by decide +kernel
theorem qm_Cd_subtract_42 : decode qm_Cd_subtract_c 42 = .ok (.l2i, 1) := by decide +kernel
theorem qm_Cd_subtract_43 : decode qm_Cd_subtract_c 43 = .ok (.ireturn, 1) := by decide +kernel
theorem qm_Cd_multiply_0 : decode qm_Cd_multiply_c 0 = .ok (.iload_n 1, 1) := by decide +kernel
theorem qm_Cd_multiply_1 : decode qm_Cd_multiply_c 1 = .ok (.i2l, 1) := by decide +kernel
theorem qm_Cd_multiply_2 : decode qm_Cd_multiply_c 2 = .ok (.iload_n 2, 1) := by decide +kernel
theorem qm_Cd_multiply_3 : decode qm_Cd_multiply_c 3 = .ok (.i2l, 1) := by decide +kernel
theorem qm_Cd_multiply_4 : decode qm_Cd_multiply_c 4 = .ok (.lmul, 1) := by decide +kernel
theorem qm_Cd_multiply_5 : decode qm_Cd_multiply_c 5 = .ok (.lstore_n 3, 1) := by decide +kernel
theorem qm_Cd_multiply_6 : decode qm_Cd_multiply_c 6 = .ok (.aload_n 0, 1) := by decide +kernel
theorem qm_Cd_multiply_7 : decode qm_Cd_multiply_c 7 = .ok (.getfield 9, 3) := by decide +kernel
theorem qm_Cd_multiply_10 : decode qm_Cd_multiply_c 10 = .ok (.lload_n 3, 1) := by decide +kernel
theorem qm_Cd_multiply_11 : decode qm_Cd_multiply_c 11 = .ok (.l2i, 1) := by decide +kernel
theorem qm_Cd_multiply_12 : decode qm_Cd_multiply_c 12 = .ok (.lload_n 3, 1) := by decide +kernel
theorem qm_Cd_multiply_13 : decode qm_Cd_multiply_c 13 = .ok (.lload_n 3, 1) := by decide +kernel
theorem qm_Cd_multiply_14 : decode qm_Cd_multiply_c 14 = .ok (.l2i, 1) := by decide +kernel
theorem qm_Cd_multiply_15 : decode qm_Cd_multiply_c 15 = .ok (.i2l, 1) := by decide +kernel
theorem qm_Cd_multiply_16 : decode qm_Cd_multiply_c 16 = .ok (.lcmp, 1) := by decide +kernel
theorem qm_Cd_multiply_17 : decode qm_Cd_multiply_c 17 = .ok (.ifCond .eq 7, 3) := by decide +kernel
theorem qm_Cd_multiply_20 : decode qm_Cd_multiply_c 20 = .ok (.iconst 1, 1) := by decide +kernel
theorem qm_Cd_multiply_21 : decode qm_Cd_multiply_c 21 = .ok (.goto 4, 3) := by decide +kernel
theorem qm_Cd_multiply_24 : decode qm_Cd_multiply_c 24 = .ok (.iconst 0, 1) := by decide +kernel
theorem qm_Cd_multiply_25 : decode qm_Cd_multiply_c 25 = .ok (.iconst 0, 1) := by decide +kernel
theorem qm_Cd_multiply_26 : decode qm_Cd_multiply_c 26 = .ok (.invokevirtual 183, 3) := by decide +kernel
theorem qm_Cd_multiply_29 : decode qm_Cd_multiply_c 29 = .ok (.lload_n 3, 1) := by decide +kernel
theorem qm_Cd_multiply_30 : decode qm_Cd_multiply_c 30 = .ok (.l2i, 1) := by decide +kernel
theorem qm_Cd_multiply_31 : decode qm_Cd_multiply_c 31 = .ok (.ireturn, 1) := by decide +kernel
set_option maxHeartbeats 4000000 in
set_option maxRecDepth 100000 in
theorem wCd_enterFrame_258 {l : Launch} {D : va_G} {h : Nat → Nat} {K : Nat → ClassId} {res : qS} {p : Program} {e : Env} {s : State} {m : MethodId} {args : Array Value} {below : List Frame} {meth : Method} {c : Code} {A : Nat → Prop} {ad : Nat → Nat} (C : qC p s m args meth c qm_Cd_enterFrame_c 5 none qR_Cd ad) (S : qS) (y1 : Int32) (y2 : Int32) (hf : fCd_enterFrame_258 S y1 y2 = some res) : ∀ (H : Heap) (locs : List Loc) (ls : Array Slot), qG D qCl (cT K) A s (cW h K S) H locs → lv_has ls 5 [(0, .ref (h 16))] → W p l e ({ frames := 4, cells := 0, slots := 0, locals := 98 }) s m args below meth c H locs 0 0 (MQ below (qQv D qCl (cT K) (cW h K) A res) args s 0 0 A) (F0 m 258 ls [.int y2, .int y1, .ref (h 5)]) := by
  intro H locs ls G hl
  unfold fCd_enterFrame_258 at hf
  refine lv_ior C.1 C.2.1 qm_Cd_enterFrame_258 ?_
  refine q_putN (host := "QuadMode") (wf := (cW h K)) (S' := (pI S 6 (y1 ||| y2))) C G qi_Co qY_Co qy_Co qn_Co 5 rfl rfl 9 (by decide) (by decide +kernel) rfl rfl (Nat.le_of_ble_eq_true rfl) rfl qm_Cd_enterFrame_259 (fun H locs G => ?_)
  refine lv_aload_n C.1 C.2.1 qm_Cd_enterFrame_262 rfl (lv_at hl 0 rfl) ?_
  refine q_get (wf := (cW h K)) (v := .ref (h 5)) C G qi_Cd 16 rfl rfl 0 (by decide) qz_218 rfl qm_Cd_enterFrame_263 ?_
  refine lv_bipush (v := 15) C.1 C.2.1 qm_Cd_enterFrame_266 (by decide) ?_
  refine lv_aload_n C.1 C.2.1 qm_Cd_enterFrame_268 rfl (lv_at hl 0 rfl) ?_
  refine q_get (wf := (cW h K)) (v := .ref (h 13)) C G qi_Cd 16 rfl rfl 2 (by decide) qz_220 rfl qm_Cd_enterFrame_269 ?_
  refine q_getN (host := "QuadMode") (wf := (cW h K)) (v := .int ((pI S 6 (y1 ||| y2)).1 17)) C G qi_Op 13 rfl rfl 2 (by decide) (by decide +kernel) rfl qm_Cd_enterFrame_272 ?_
  refine lv_iconst (v := 2) C.1 C.2.1 qm_Cd_enterFrame_275 (by decide) ?_
  refine lv_iadd C.1 C.2.1 qm_Cd_enterFrame_276 ?_
  obtain ⟨S1, c1, hf⟩ := bnd_s hf
  refine q_callVv (wf := (cW h K)) (n := 2) (As := [.int 15, .int (((pI S 6 (y1 ||| y2)).1 17) + 2)]) (q0 := 5) (ci := 1) C G hl.1 (kCo_put (l := l) c1) qx_Cd_92 qm_Co_put_d ⟨by decide, by decide⟩ ⟨Nat.le_refl _, Nat.le_refl _⟩ rfl rfl rfl rfl rfl (Nat.le_of_ble_eq_true rfl) qm_Cd_enterFrame_277 (fun H locs G => ?_)
  exact q_vret (wf := (cW h K)) C G hf qm_Cd_enterFrame_280
set_option maxHeartbeats 4000000 in
set_option maxRecDepth 100000 in
theorem wCd_enterFrame_106 {l : Launch} {D : va_G} {h : Nat → Nat} {K : Nat → ClassId} {res : qS} {p : Program} {e : Env} {s : State} {m : MethodId} {args : Array Value} {below : List Frame} {meth : Method} {c : Code} {A : Nat → Prop} {ad : Nat → Nat} (C : qC p s m args meth c qm_Cd_enterFrame_c 5 none qR_Cd ad) {K76 : qS → Int32 → Int32 → Int32 → Int32 → Option (qS)} (hK76 : ∀ (S : qS) (x1 : Int32) (x2 : Int32) (x3 : Int32) (x4 : Int32), K76 S x1 x2 x3 x4 = some res → ∀ (H : Heap) (locs : List Loc) (ls : Array Slot), qG D qCl (cT K) A s (cW h K S) H locs → lv_has ls 5 [(0, .ref (h 16)), (1, .int x1), (2, .int x2), (3, .int x3), (4, .int x4)] → W p l e ({ frames := 4, cells := 0, slots := 0, locals := 98 }) s m args below meth c H locs 0 0 (MQ below (qQv D qCl (cT K) (cW h K) A res) args s 0 0 A) (F0 m 76 ls [])) (S : qS) (x1 : Int32) (x2 : Int32) (x3 : Int32) (x4 : Int32) (hf : fCd_enterFrame_106 K76 S x1 x2 x3 x4 = some res) : ∀ (H : Heap) (locs : List Loc) (ls : Array Slot), qG D qCl (cT K) A s (cW h K S) H locs → lv_has ls 5 [(0, .ref (h 16)), (1, .int x1), (2, .int x2), (3, .int x3), (4, .int x4)] → W p l e ({ frames := 4, cells := 0, slots := 0, locals := 98 }) s m args below meth c H locs 0 0 (MQ below (qQv D qCl (cT K) (cW h K) A res) args s 0 0 A) (F0 m 106 ls []) := by
  intro H locs ls G hl
  unfold fCd_enterFrame_106 at hf
  refine lv_iinc (v := x4 + (-1)) (lv' := [(4, .int (x4 + (-1))), (0, .ref (h 16)), (1, .int x1), (2, .int x2), (3, .int x3)]) C.1 C.2.1 qm_Cd_enterFrame_106 hl (k := 4) rfl rfl (by decide) rfl (fun ls hl => ?_)
  refine lv_goto (tgt := 76) C.1 C.2.1 qm_Cd_enterFrame_109 (by decide) ?_
  exact hK76 S x1 x2 x3 (x4 + (-1)) hf _ _ _ G (lv_sub hl [1, 2, 3, 4, 0] rfl)
set_option maxHeartbeats 4000000 in
set_option maxRecDepth 100000 in
theorem wCd_enterFrame_76 {l : Launch} {D : va_G} {h : Nat → Nat} {K : Nat → ClassId} {res : qS} {p : Program} {e : Env} {s : State} {m : MethodId} {args : Array Value} {below : List Frame} {meth : Method} {c : Code} {A : Nat → Prop} {ad : Nat → Nat} (C : qC p s m args meth c qm_Cd_enterFrame_c 5 none qR_Cd ad) : ∀ (n : Nat) (S : qS) (x1 : Int32) (x2 : Int32) (x3 : Int32) (x4 : Int32), fCd_enterFrame_76 n S x1 x2 x3 x4 = some res → ∀ (H : Heap) (locs : List Loc) (ls : Array Slot), qG D qCl (cT K) A s (cW h K S) H locs → lv_has ls 5 [(0, .ref (h 16)), (1, .int x1), (2, .int x2), (3, .int x3), (4, .int x4)] → W p l e ({ frames := 4, cells := 0, slots := 0, locals := 98 }) s m args below meth c H locs 0 0 (MQ below (qQv D qCl (cT K) (cW h K) A res) args s 0 0 A) (F0 m 76 ls []) := by
  intro n
  induction n with
  | zero => intro S x1 x2 x3 x4 hf; cases hf
  | succ n ih =>
    intro S x1 x2 x3 x4 hf H locs ls G hl
    rw [fCd_enterFrame_76] at hf
    refine lv_iload C.1 C.2.1 qm_Cd_enterFrame_76 (lv_at hl 4 rfl) ?_
    refine lv_if_lt (tgt := 112) C.1 C.2.1 qm_Cd_enterFrame_78 (by decide) (fun b1 => ?_) (fun b1 => ?_)
    · have hf := if_t b1 hf
      refine lv_aload_n C.1 C.2.1 qm_Cd_enterFrame_112 rfl (lv_at hl 0 rfl) ?_
      refine q_get (wf := (cW h K)) (v := .ref (h 5)) C G qi_Cd 16 rfl rfl 0 (by decide) qz_218 rfl qm_Cd_enterFrame_113 ?_
      refine lv_aload_n C.1 C.2.1 qm_Cd_enterFrame_116 rfl (lv_at hl 0 rfl) ?_
      refine q_get (wf := (cW h K)) (v := .ref (h 5)) C G qi_Cd 16 rfl rfl 0 (by decide) qz_218 rfl qm_Cd_enterFrame_117 ?_
      refine lv_bipush (v := 15) C.1 C.2.1 qm_Cd_enterFrame_120 (by decide) ?_
      obtain ⟨q2, c2, hf⟩ := bnd_s hf
      refine q_callVi (wf := (cW h K)) (n := 1) (As := [.int 15]) (q0 := 5) (ci := 1) C G hl.1 (kCo_get (l := l) c2) qx_Cd_169 qm_Co_get_d ⟨by decide, by decide⟩ ⟨Nat.le_refl _, Nat.le_refl _⟩ rfl rfl rfl rfl rfl (Nat.le_of_ble_eq_true rfl) qm_Cd_enterFrame_122 (fun H locs G => ?_)
      obtain ⟨S3, c3, hf⟩ := bnd_s hf
      refine q_callVv (wf := (cW h K)) (n := 1) (As := [.int q2.1]) (q0 := 5) (ci := 1) C G hl.1 (kCo_push (l := l) c3) qx_Cd_227 qm_Co_push_d ⟨by decide, by decide⟩ ⟨Nat.le_refl _, Nat.le_refl _⟩ rfl rfl rfl rfl rfl (Nat.le_of_ble_eq_true rfl) qm_Cd_enterFrame_125 (fun H locs G => ?_)
      refine lv_aload_n C.1 C.2.1 qm_Cd_enterFrame_128 rfl (lv_at hl 0 rfl) ?_
      refine q_get (wf := (cW h K)) (v := .ref (h 5)) C G qi_Cd 16 rfl rfl 0 (by decide) qz_218 rfl qm_Cd_enterFrame_129 ?_
      refine lv_aload_n C.1 C.2.1 qm_Cd_enterFrame_132 rfl (lv_at hl 0 rfl) ?_
      refine q_get (wf := (cW h K)) (v := .ref (h 5)) C G qi_Cd 16 rfl rfl 0 (by decide) qz_218 rfl qm_Cd_enterFrame_133 ?_
      refine lv_bipush (v := 13) C.1 C.2.1 qm_Cd_enterFrame_136 (by decide) ?_
      obtain ⟨q4, c4, hf⟩ := bnd_s hf
      refine q_callVi (wf := (cW h K)) (n := 1) (As := [.int 13]) (q0 := 5) (ci := 1) C G hl.1 (kCo_get (l := l) c4) qx_Cd_169 qm_Co_get_d ⟨by decide, by decide⟩ ⟨Nat.le_refl _, Nat.le_refl _⟩ rfl rfl rfl rfl rfl (Nat.le_of_ble_eq_true rfl) qm_Cd_enterFrame_138 (fun H locs G => ?_)
      obtain ⟨S5, c5, hf⟩ := bnd_s hf
      refine q_callVv (wf := (cW h K)) (n := 1) (As := [.int q4.1]) (q0 := 5) (ci := 1) C G hl.1 (kCo_push (l := l) c5) qx_Cd_227 qm_Co_push_d ⟨by decide, by decide⟩ ⟨Nat.le_refl _, Nat.le_refl _⟩ rfl rfl rfl rfl rfl (Nat.le_of_ble_eq_true rfl) qm_Cd_enterFrame_141 (fun H locs G => ?_)
      refine lv_aload_n C.1 C.2.1 qm_Cd_enterFrame_144 rfl (lv_at hl 0 rfl) ?_
      refine q_get (wf := (cW h K)) (v := .ref (h 5)) C G qi_Cd 16 rfl rfl 0 (by decide) qz_218 rfl qm_Cd_enterFrame_145 ?_
      refine lv_aload_n C.1 C.2.1 qm_Cd_enterFrame_148 rfl (lv_at hl 0 rfl) ?_
      refine q_get (wf := (cW h K)) (v := .ref (h 5)) C G qi_Cd 16 rfl rfl 0 (by decide) qz_218 rfl qm_Cd_enterFrame_149 ?_
      refine lv_bipush (v := 12) C.1 C.2.1 qm_Cd_enterFrame_152 (by decide) ?_
      obtain ⟨q6, c6, hf⟩ := bnd_s hf
      refine q_callVi (wf := (cW h K)) (n := 1) (As := [.int 12]) (q0 := 5) (ci := 1) C G hl.1 (kCo_get (l := l) c6) qx_Cd_169 qm_Co_get_d ⟨by decide, by decide⟩ ⟨Nat.le_refl _, Nat.le_refl _⟩ rfl rfl rfl rfl rfl (Nat.le_of_ble_eq_true rfl) qm_Cd_enterFrame_154 (fun H locs G => ?_)
      obtain ⟨S7, c7, hf⟩ := bnd_s hf
      refine q_callVv (wf := (cW h K)) (n := 1) (As := [.int q6.1]) (q0 := 5) (ci := 1) C G hl.1 (kCo_push (l := l) c7) qx_Cd_227 qm_Co_push_d ⟨by decide, by decide⟩ ⟨Nat.le_refl _, Nat.le_refl _⟩ rfl rfl rfl rfl rfl (Nat.le_of_ble_eq_true rfl) qm_Cd_enterFrame_157 (fun H locs G => ?_)
      refine lv_aload_n C.1 C.2.1 qm_Cd_enterFrame_160 rfl (lv_at hl 0 rfl) ?_
      refine q_get (wf := (cW h K)) (v := .ref (h 5)) C G qi_Cd 16 rfl rfl 0 (by decide) qz_218 rfl qm_Cd_enterFrame_161 ?_
      refine lv_iload_n C.1 C.2.1 qm_Cd_enterFrame_164 rfl (lv_at hl 3 rfl) ?_
      refine lv_bipush (v := 30) C.1 C.2.1 qm_Cd_enterFrame_165 (by decide) ?_
      refine lv_ishl C.1 C.2.1 qm_Cd_enterFrame_167 ?_
      refine lv_ldc (own := "QuadMode$Codes") (v := 536870912) C.1 C.2.1 C.2.2.2.1 (C.2.2.2.2.1 _ qz_655) qm_Cd_enterFrame_168 ?_
      refine lv_ior C.1 C.2.1 qm_Cd_enterFrame_170 ?_
      refine lv_iload_n C.1 C.2.1 qm_Cd_enterFrame_171 rfl (lv_at hl 2 rfl) ?_
      refine lv_sipush (v := 4095) C.1 C.2.1 qm_Cd_enterFrame_172 (by decide) ?_
      refine lv_iand C.1 C.2.1 qm_Cd_enterFrame_175 ?_
      refine lv_bipush (v := 16) C.1 C.2.1 qm_Cd_enterFrame_176 (by decide) ?_
      refine lv_ishl C.1 C.2.1 qm_Cd_enterFrame_178 ?_
      refine lv_ior C.1 C.2.1 qm_Cd_enterFrame_179 ?_
      refine lv_aload_n C.1 C.2.1 qm_Cd_enterFrame_180 rfl (lv_at hl 0 rfl) ?_
      refine q_get (wf := (cW h K)) (v := .ref (h 5)) C G qi_Cd 16 rfl rfl 0 (by decide) qz_218 rfl qm_Cd_enterFrame_181 ?_
      refine q_getN (host := "QuadMode") (wf := (cW h K)) (v := .int (S7.1 6)) C G qi_Co 5 rfl rfl 9 (by decide) (by decide +kernel) rfl qm_Cd_enterFrame_184 ?_
      refine lv_ldc (own := "QuadMode$Codes") (v := 65535) C.1 C.2.1 C.2.2.2.1 (C.2.2.2.2.1 _ qz_708) qm_Cd_enterFrame_187 ?_
      refine lv_iand C.1 C.2.1 qm_Cd_enterFrame_189 ?_
      refine lv_ior C.1 C.2.1 qm_Cd_enterFrame_190 ?_
      obtain ⟨S8, c8, hf⟩ := bnd_s hf
      refine q_callVv (wf := (cW h K)) (n := 1) (As := [.int ((((x3 <<< ((30 : Int32) &&& 31)) ||| 536870912) ||| ((x2 &&& 4095) <<< ((16 : Int32) &&& 31))) ||| ((S7.1 6) &&& 65535))]) (q0 := 5) (ci := 1) C G hl.1 (kCo_push (l := l) c8) qx_Cd_227 qm_Co_push_d ⟨by decide, by decide⟩ ⟨Nat.le_refl _, Nat.le_refl _⟩ rfl rfl rfl rfl rfl (Nat.le_of_ble_eq_true rfl) qm_Cd_enterFrame_191 (fun H locs G => ?_)
      refine lv_aload_n C.1 C.2.1 qm_Cd_enterFrame_194 rfl (lv_at hl 0 rfl) ?_
      refine q_get (wf := (cW h K)) (v := .ref (h 5)) C G qi_Cd 16 rfl rfl 0 (by decide) qz_218 rfl qm_Cd_enterFrame_195 ?_
      refine lv_iconst (v := 0) C.1 C.2.1 qm_Cd_enterFrame_198 (by decide) ?_
      obtain ⟨S9, c9, hf⟩ := bnd_s hf
      refine q_callVv (wf := (cW h K)) (n := 1) (As := [.int 0]) (q0 := 5) (ci := 1) C G hl.1 (kCo_push (l := l) c9) qx_Cd_227 qm_Co_push_d ⟨by decide, by decide⟩ ⟨Nat.le_refl _, Nat.le_refl _⟩ rfl rfl rfl rfl rfl (Nat.le_of_ble_eq_true rfl) qm_Cd_enterFrame_199 (fun H locs G => ?_)
      refine lv_aload_n C.1 C.2.1 qm_Cd_enterFrame_202 rfl (lv_at hl 0 rfl) ?_
      refine q_get (wf := (cW h K)) (v := .ref (h 5)) C G qi_Cd 16 rfl rfl 0 (by decide) qz_218 rfl qm_Cd_enterFrame_203 ?_
      refine lv_bipush (v := 13) C.1 C.2.1 qm_Cd_enterFrame_206 (by decide) ?_
      refine lv_aload_n C.1 C.2.1 qm_Cd_enterFrame_208 rfl (lv_at hl 0 rfl) ?_
      refine q_get (wf := (cW h K)) (v := .ref (h 5)) C G qi_Cd 16 rfl rfl 0 (by decide) qz_218 rfl qm_Cd_enterFrame_209 ?_
      refine lv_bipush (v := 14) C.1 C.2.1 qm_Cd_enterFrame_212 (by decide) ?_
      obtain ⟨q10, c10, hf⟩ := bnd_s hf
      refine q_callVi (wf := (cW h K)) (n := 1) (As := [.int 14]) (q0 := 5) (ci := 1) C G hl.1 (kCo_get (l := l) c10) qx_Cd_169 qm_Co_get_d ⟨by decide, by decide⟩ ⟨Nat.le_refl _, Nat.le_refl _⟩ rfl rfl rfl rfl rfl (Nat.le_of_ble_eq_true rfl) qm_Cd_enterFrame_214 (fun H locs G => ?_)
      obtain ⟨S11, c11, hf⟩ := bnd_s hf
      refine q_callVv (wf := (cW h K)) (n := 2) (As := [.int 13, .int q10.1]) (q0 := 5) (ci := 1) C G hl.1 (kCo_put (l := l) c11) qx_Cd_92 qm_Co_put_d ⟨by decide, by decide⟩ ⟨Nat.le_refl _, Nat.le_refl _⟩ rfl rfl rfl rfl rfl (Nat.le_of_ble_eq_true rfl) qm_Cd_enterFrame_217 (fun H locs G => ?_)
      refine lv_aload_n C.1 C.2.1 qm_Cd_enterFrame_220 rfl (lv_at hl 0 rfl) ?_
      refine q_get (wf := (cW h K)) (v := .ref (h 5)) C G qi_Cd 16 rfl rfl 0 (by decide) qz_218 rfl qm_Cd_enterFrame_221 ?_
      refine lv_bipush (v := 12) C.1 C.2.1 qm_Cd_enterFrame_224 (by decide) ?_
      refine lv_iload_n C.1 C.2.1 qm_Cd_enterFrame_226 rfl (lv_at hl 1 rfl) ?_
      obtain ⟨S12, c12, hf⟩ := bnd_s hf
      refine q_callVv (wf := (cW h K)) (n := 2) (As := [.int 12, .int x1]) (q0 := 5) (ci := 1) C G hl.1 (kCo_put (l := l) c12) qx_Cd_92 qm_Co_put_d ⟨by decide, by decide⟩ ⟨Nat.le_refl _, Nat.le_refl _⟩ rfl rfl rfl rfl rfl (Nat.le_of_ble_eq_true rfl) qm_Cd_enterFrame_227 (fun H locs G => ?_)
      refine lv_aload_n C.1 C.2.1 qm_Cd_enterFrame_230 rfl (lv_at hl 0 rfl) ?_
      refine q_get (wf := (cW h K)) (v := .ref (h 5)) C G qi_Cd 16 rfl rfl 0 (by decide) qz_218 rfl qm_Cd_enterFrame_231 ?_
      refine lv_aload_n C.1 C.2.1 qm_Cd_enterFrame_234 rfl (lv_at hl 0 rfl) ?_
      refine q_get (wf := (cW h K)) (v := .ref (h 5)) C G qi_Cd 16 rfl rfl 0 (by decide) qz_218 rfl qm_Cd_enterFrame_235 ?_
      refine q_getN (host := "QuadMode") (wf := (cW h K)) (v := .int (S12.1 6)) C G qi_Co 5 rfl rfl 9 (by decide) (by decide +kernel) rfl qm_Cd_enterFrame_238 ?_
      refine lv_bipush (v := (-48)) C.1 C.2.1 qm_Cd_enterFrame_241 (by decide) ?_
      refine lv_iand C.1 C.2.1 qm_Cd_enterFrame_243 ?_
      refine lv_iload_n C.1 C.2.1 qm_Cd_enterFrame_244 rfl (lv_at hl 2 rfl) ?_
      refine lv_sipush (v := 16384) C.1 C.2.1 qm_Cd_enterFrame_245 (by decide) ?_
      refine lv_iand C.1 C.2.1 qm_Cd_enterFrame_248 ?_
      refine lv_if_eq (tgt := 257) C.1 C.2.1 qm_Cd_enterFrame_249 (by decide) (fun b13 => ?_) (fun b13 => ?_)
      · have hf := if_t b13 hf
        refine lv_iconst (v := 0) C.1 C.2.1 qm_Cd_enterFrame_257 (by decide) ?_
        exact wCd_enterFrame_258 C S12 ((S12.1 6) &&& (-48)) 0 hf _ _ _ G (lv_sub hl [0] rfl)
      · have hf := if_f b13 hf
        refine lv_bipush (v := 32) C.1 C.2.1 qm_Cd_enterFrame_252 (by decide) ?_
        refine lv_goto (tgt := 258) C.1 C.2.1 qm_Cd_enterFrame_254 (by decide) ?_
        exact wCd_enterFrame_258 C S12 ((S12.1 6) &&& (-48)) 32 hf _ _ _ G (lv_sub hl [0] rfl)
    · have hf := if_f b1 hf
      refine lv_iload_n C.1 C.2.1 qm_Cd_enterFrame_81 rfl (lv_at hl 2 rfl) ?_
      refine lv_iload C.1 C.2.1 qm_Cd_enterFrame_82 (lv_at hl 4 rfl) ?_
      refine lv_iushr (v := ushr x2 x4) C.1 C.2.1 qm_Cd_enterFrame_84 rfl ?_
      refine lv_iconst (v := 1) C.1 C.2.1 qm_Cd_enterFrame_85 (by decide) ?_
      refine lv_iand C.1 C.2.1 qm_Cd_enterFrame_86 ?_
      refine lv_if_eq (tgt := 106) C.1 C.2.1 qm_Cd_enterFrame_87 (by decide) (fun b14 => ?_) (fun b14 => ?_)
      · have hf := if_t b14 hf
        exact wCd_enterFrame_106 C (ih) S x1 x2 x3 x4 hf _ _ _ G (lv_sub hl [0, 1, 2, 3, 4] rfl)
      · have hf := if_f b14 hf
        refine lv_aload_n C.1 C.2.1 qm_Cd_enterFrame_90 rfl (lv_at hl 0 rfl) ?_
        refine q_get (wf := (cW h K)) (v := .ref (h 5)) C G qi_Cd 16 rfl rfl 0 (by decide) qz_218 rfl qm_Cd_enterFrame_91 ?_
        refine lv_aload_n C.1 C.2.1 qm_Cd_enterFrame_94 rfl (lv_at hl 0 rfl) ?_
        refine q_get (wf := (cW h K)) (v := .ref (h 5)) C G qi_Cd 16 rfl rfl 0 (by decide) qz_218 rfl qm_Cd_enterFrame_95 ?_
        refine lv_iload C.1 C.2.1 qm_Cd_enterFrame_98 (lv_at hl 4 rfl) ?_
        obtain ⟨q15, c15, hf⟩ := bnd_s hf
        refine q_callVi (wf := (cW h K)) (n := 1) (As := [.int x4]) (q0 := 5) (ci := 1) C G hl.1 (kCo_get (l := l) c15) qx_Cd_169 qm_Co_get_d ⟨by decide, by decide⟩ ⟨Nat.le_refl _, Nat.le_refl _⟩ rfl rfl rfl rfl rfl (Nat.le_of_ble_eq_true rfl) qm_Cd_enterFrame_100 (fun H locs G => ?_)
        obtain ⟨S16, c16, hf⟩ := bnd_s hf
        refine q_callVv (wf := (cW h K)) (n := 1) (As := [.int q15.1]) (q0 := 5) (ci := 1) C G hl.1 (kCo_push (l := l) c16) qx_Cd_227 qm_Co_push_d ⟨by decide, by decide⟩ ⟨Nat.le_refl _, Nat.le_refl _⟩ rfl rfl rfl rfl rfl (Nat.le_of_ble_eq_true rfl) qm_Cd_enterFrame_103 (fun H locs G => ?_)
        exact wCd_enterFrame_106 C (ih) S16 x1 x2 x3 x4 hf _ _ _ G (lv_sub hl [0, 1, 2, 3, 4] rfl)
set_option maxHeartbeats 4000000 in
set_option maxRecDepth 100000 in
theorem wCd_enterFrame {l : Launch} {D : va_G} {h : Nat → Nat} {K : Nat → ClassId} {res : qS} {p : Program} {e : Env} {s : State} {m : MethodId} {args : Array Value} {below : List Frame} {meth : Method} {c : Code} {A : Nat → Prop} {ad : Nat → Nat} (C : qC p s m args meth c qm_Cd_enterFrame_c 5 none qR_Cd ad) (S : qS) (hf : fCd_enterFrame S = some res) : ∀ (H : Heap) (locs : List Loc) (ls : Array Slot), qG D qCl (cT K) A s (cW h K S) H locs → lv_has ls 5 [(0, .ref (h 16))] → W p l e ({ frames := 4, cells := 0, slots := 0, locals := 98 }) s m args below meth c H locs 0 0 (MQ below (qQv D qCl (cT K) (cW h K) A res) args s 0 0 A) (F0 m 0 ls []) := by
  intro H locs ls G hl
  unfold fCd_enterFrame at hf
  refine lv_aload_n C.1 C.2.1 qm_Cd_enterFrame_0 rfl (lv_at hl 0 rfl) ?_
  refine q_get (wf := (cW h K)) (v := .ref (h 5)) C G qi_Cd 16 rfl rfl 0 (by decide) qz_218 rfl qm_Cd_enterFrame_1 ?_
  refine lv_aload_n C.1 C.2.1 qm_Cd_enterFrame_4 rfl (lv_at hl 0 rfl) ?_
  refine q_get (wf := (cW h K)) (v := .ref (h 12)) C G qi_Cd 16 rfl rfl 1 (by decide) qz_219 rfl qm_Cd_enterFrame_5 ?_
  refine q_getN (host := "QuadMode") (wf := (cW h K)) (v := .int (S.1 14)) C G qi_Op 12 rfl rfl 3 (by decide) (by decide +kernel) rfl qm_Cd_enterFrame_8 ?_
  obtain ⟨S1, c1, hf⟩ := bnd_s hf
  refine q_callVv (wf := (cW h K)) (n := 1) (As := [.int (S.1 14)]) (q0 := 5) (ci := 1) C G hl.1 (kCo_push (l := l) c1) qx_Cd_227 qm_Co_push_d ⟨by decide, by decide⟩ ⟨Nat.le_refl _, Nat.le_refl _⟩ rfl rfl rfl rfl rfl (Nat.le_of_ble_eq_true rfl) qm_Cd_enterFrame_11 (fun H locs G => ?_)
  refine lv_aload_n C.1 C.2.1 qm_Cd_enterFrame_14 rfl (lv_at hl 0 rfl) ?_
  refine q_get (wf := (cW h K)) (v := .ref (h 5)) C G qi_Cd 16 rfl rfl 0 (by decide) qz_218 rfl qm_Cd_enterFrame_15 ?_
  refine lv_bipush (v := 14) C.1 C.2.1 qm_Cd_enterFrame_18 (by decide) ?_
  obtain ⟨q2, c2, hf⟩ := bnd_s hf
  refine q_callVi (wf := (cW h K)) (n := 1) (As := [.int 14]) (q0 := 5) (ci := 1) C G hl.1 (kCo_get (l := l) c2) qx_Cd_169 qm_Co_get_d ⟨by decide, by decide⟩ ⟨Nat.le_refl _, Nat.le_refl _⟩ rfl rfl rfl rfl rfl (Nat.le_of_ble_eq_true rfl) qm_Cd_enterFrame_20 (fun H locs G => ?_)
  refine lv_istore_n (lv' := [(1, .int q2.1), (0, .ref (h 16))]) C.1 C.2.1 qm_Cd_enterFrame_23 rfl hl (by decide) rfl (fun ls hl => ?_)
  refine lv_aload_n C.1 C.2.1 qm_Cd_enterFrame_24 rfl (lv_at hl 1 rfl) ?_
  refine q_get (wf := (cW h K)) (v := .ref (h 5)) C G qi_Cd 16 rfl rfl 0 (by decide) qz_218 rfl qm_Cd_enterFrame_25 ?_
  refine lv_aload_n C.1 C.2.1 qm_Cd_enterFrame_28 rfl (lv_at hl 1 rfl) ?_
  refine q_get (wf := (cW h K)) (v := .ref (h 13)) C G qi_Cd 16 rfl rfl 2 (by decide) qz_220 rfl qm_Cd_enterFrame_29 ?_
  refine q_getN (host := "QuadMode") (wf := (cW h K)) (v := .int (q2.2.1 17)) C G qi_Op 13 rfl rfl 2 (by decide) (by decide +kernel) rfl qm_Cd_enterFrame_32 ?_
  refine lv_iconst (v := 2) C.1 C.2.1 qm_Cd_enterFrame_35 (by decide) ?_
  obtain ⟨q3, c3, hf⟩ := bnd_s hf
  refine q_callVi (wf := (cW h K)) (n := 2) (As := [.int (q2.2.1 17), .int 2]) (q0 := 5) (ci := 1) C G hl.1 (kCo_read (l := l) c3) qx_Cd_233 qm_Co_read_d ⟨by decide, by decide⟩ ⟨Nat.le_refl _, Nat.le_refl _⟩ rfl rfl rfl rfl rfl (Nat.le_of_ble_eq_true rfl) qm_Cd_enterFrame_36 (fun H locs G => ?_)
  refine lv_istore_n (lv' := [(2, .int q3.1), (1, .int q2.1), (0, .ref (h 16))]) C.1 C.2.1 qm_Cd_enterFrame_39 rfl hl (by decide) rfl (fun ls hl => ?_)
  refine lv_iload_n C.1 C.2.1 qm_Cd_enterFrame_40 rfl (lv_at hl 0 rfl) ?_
  refine lv_ldc (own := "QuadMode$Codes") (v := 45056) C.1 C.2.1 C.2.2.2.1 (C.2.2.2.2.1 _ qz_707) qm_Cd_enterFrame_41 ?_
  refine lv_iand C.1 C.2.1 qm_Cd_enterFrame_43 ?_
  refine lv_if_eq (tgt := 56) C.1 C.2.1 qm_Cd_enterFrame_44 (by decide) (fun b4 => ?_) (fun b4 => ?_)
  · have hf := if_t b4 hf
    refine lv_iload_n C.1 C.2.1 qm_Cd_enterFrame_56 rfl (lv_at hl 1 rfl) ?_
    refine lv_iconst (v := 3) C.1 C.2.1 qm_Cd_enterFrame_57 (by decide) ?_
    refine lv_iand C.1 C.2.1 qm_Cd_enterFrame_58 ?_
    refine lv_istore_n (lv' := [(3, .int (q2.1 &&& 3)), (2, .int q3.1), (1, .int q2.1), (0, .ref (h 16))]) C.1 C.2.1 qm_Cd_enterFrame_59 rfl hl (by decide) rfl (fun ls hl => ?_)
    refine lv_aload_n C.1 C.2.1 qm_Cd_enterFrame_60 rfl (lv_at hl 3 rfl) ?_
    refine q_get (wf := (cW h K)) (v := .ref (h 5)) C G qi_Cd 16 rfl rfl 0 (by decide) qz_218 rfl qm_Cd_enterFrame_61 ?_
    refine lv_bipush (v := 14) C.1 C.2.1 qm_Cd_enterFrame_64 (by decide) ?_
    refine lv_iload_n C.1 C.2.1 qm_Cd_enterFrame_66 rfl (lv_at hl 2 rfl) ?_
    refine lv_iload_n C.1 C.2.1 qm_Cd_enterFrame_67 rfl (lv_at hl 0 rfl) ?_
    refine lv_isub C.1 C.2.1 qm_Cd_enterFrame_68 ?_
    obtain ⟨S5, c5, hf⟩ := bnd_s hf
    refine q_callVv (wf := (cW h K)) (n := 2) (As := [.int 14, .int (q2.1 - (q2.1 &&& 3))]) (q0 := 5) (ci := 1) C G hl.1 (kCo_put (l := l) c5) qx_Cd_92 qm_Co_put_d ⟨by decide, by decide⟩ ⟨Nat.le_refl _, Nat.le_refl _⟩ rfl rfl rfl rfl rfl (Nat.le_of_ble_eq_true rfl) qm_Cd_enterFrame_69 (fun H locs G => ?_)
    refine lv_bipush (v := 11) C.1 C.2.1 qm_Cd_enterFrame_72 (by decide) ?_
    refine lv_istore (lv' := [(4, .int 11), (3, .int (q2.1 &&& 3)), (2, .int q3.1), (1, .int q2.1), (0, .ref (h 16))]) C.1 C.2.1 qm_Cd_enterFrame_74 hl (by decide) rfl (fun ls hl => ?_)
    exact wCd_enterFrame_76 C 300 S5 q2.1 q3.1 (q2.1 &&& 3) 11 hf _ _ _ G (lv_sub hl [4, 3, 2, 1, 0] rfl)
  · have hf := if_f b4 hf
    refine lv_aload_n C.1 C.2.1 qm_Cd_enterFrame_47 rfl (lv_at hl 2 rfl) ?_
    refine q_get (wf := (cW h K)) (v := .ref (h 5)) C G qi_Cd 16 rfl rfl 0 (by decide) qz_218 rfl qm_Cd_enterFrame_48 ?_
    refine lv_iconst (v := 2) C.1 C.2.1 qm_Cd_enterFrame_51 (by decide) ?_
    obtain ⟨S6, c6, hf⟩ := bnd_s hf
    refine q_callVv (wf := (cW h K)) (n := 1) (As := [.int 2]) (q0 := 5) (ci := 1) C G hl.1 (kCo_raise (l := l) c6) qx_Cd_82 qm_Co_raise_d ⟨by decide, by decide⟩ ⟨Nat.le_refl _, Nat.le_refl _⟩ rfl rfl rfl rfl rfl (Nat.le_of_ble_eq_true rfl) qm_Cd_enterFrame_52 (fun H locs G => ?_)
    exact q_vret (wf := (cW h K)) C G hf qm_Cd_enterFrame_55
theorem kCd_enterFrame {l : Launch} {ad : Nat → Nat} {D : va_G} {h : Nat → Nat} {K : Nat → ClassId} {res : qS} {S : qS} (hf : fCd_enterFrame S = some res) : qMv l qm_Cd_enterFrame qm_Cd_enterFrame_c 5 4 98 D qCl (cT K) ad (cW h K) [.ref (h 16)] S res := qMv_of (by decide) (Nat.le_of_ble_eq_true rfl) (fun _ _ _ _ _ _ _ _ _ _ C G hl => wCd_enterFrame C S hf _ _ _ G hl)
set_option maxHeartbeats 4000000 in
set_option maxRecDepth 100000 in
theorem wCd_probe_69 {l : Launch} {D : va_G} {h : Nat → Nat} {K : Nat → ClassId} {res : qS} {p : Program} {e : Env} {s : State} {m : MethodId} {args : Array Value} {below : List Frame} {meth : Method} {c : Code} {A : Nat → Prop} {ad : Nat → Nat} (C : qC p s m args meth c qm_Cd_probe_c 5 none qR_Cd ad) (S : qS) (y0 : Int32) (hf : fCd_probe_69 S y0 = some res) : ∀ (H : Heap) (locs : List Loc) (ls : Array Slot), qG D qCl (cT K) A s (cW h K S) H locs → lv_has ls 5 [(0, .ref (h 16))] → W p l e ({ frames := 3, cells := 0, slots := 0, locals := 77 }) s m args below meth c H locs 0 0 (MQ below (qQv D qCl (cT K) (cW h K) A res) args s 0 0 A) (F0 m 69 ls [.int y0]) := by
  intro H locs ls G hl
  unfold fCd_probe_69 at hf
  refine lv_istore (lv' := [(4, .int y0), (0, .ref (h 16))]) C.1 C.2.1 qm_Cd_probe_69 hl (by decide) rfl (fun ls hl => ?_)
  refine lv_aload_n C.1 C.2.1 qm_Cd_probe_71 rfl (lv_at hl 1 rfl) ?_
  refine q_get (wf := (cW h K)) (v := .ref (h 5)) C G qi_Cd 16 rfl rfl 0 (by decide) qz_218 rfl qm_Cd_probe_72 ?_
  refine lv_iconst (v := 0) C.1 C.2.1 qm_Cd_probe_75 (by decide) ?_
  refine lv_iload C.1 C.2.1 qm_Cd_probe_76 (lv_at hl 0 rfl) ?_
  refine lv_iconst (v := 0) C.1 C.2.1 qm_Cd_probe_78 (by decide) ?_
  refine lv_iconst (v := 0) C.1 C.2.1 qm_Cd_probe_79 (by decide) ?_
  obtain ⟨S1, c1, hf⟩ := bnd_s hf
  refine q_callVv (wf := (cW h K)) (n := 4) (As := [.int 0, .int y0, .int 0, .int 0]) (q0 := 5) (ci := 1) C G hl.1 (kCo_setConditions (l := l) c1) qx_Cd_197 qm_Co_setConditions_d ⟨by decide, by decide⟩ ⟨Nat.le_refl _, Nat.le_refl _⟩ rfl rfl rfl rfl rfl (Nat.le_of_ble_eq_true rfl) qm_Cd_probe_80 (fun H locs G => ?_)
  exact q_vret (wf := (cW h K)) C G hf qm_Cd_probe_83
set_option maxHeartbeats 4000000 in
set_option maxRecDepth 100000 in
theorem wCd_probe_68 {l : Launch} {D : va_G} {h : Nat → Nat} {K : Nat → ClassId} {res : qS} {p : Program} {e : Env} {s : State} {m : MethodId} {args : Array Value} {below : List Frame} {meth : Method} {c : Code} {A : Nat → Prop} {ad : Nat → Nat} (C : qC p s m args meth c qm_Cd_probe_c 5 none qR_Cd ad) (S : qS) (hf : fCd_probe_68 S = some res) : ∀ (H : Heap) (locs : List Loc) (ls : Array Slot), qG D qCl (cT K) A s (cW h K S) H locs → lv_has ls 5 [(0, .ref (h 16))] → W p l e ({ frames := 3, cells := 0, slots := 0, locals := 77 }) s m args below meth c H locs 0 0 (MQ below (qQv D qCl (cT K) (cW h K) A res) args s 0 0 A) (F0 m 68 ls []) := by
  intro H locs ls G hl
  unfold fCd_probe_68 at hf
  refine lv_iconst (v := 0) C.1 C.2.1 qm_Cd_probe_68 (by decide) ?_
  exact wCd_probe_69 C S 0 hf _ _ _ G (lv_sub hl [0] rfl)
set_option maxHeartbeats 4000000 in
set_option maxRecDepth 100000 in
theorem wCd_probe {l : Launch} {D : va_G} {h : Nat → Nat} {K : Nat → ClassId} {res : qS} {p : Program} {e : Env} {s : State} {m : MethodId} {args : Array Value} {below : List Frame} {meth : Method} {c : Code} {A : Nat → Prop} {ad : Nat → Nat} (C : qC p s m args meth c qm_Cd_probe_c 5 none qR_Cd ad) (S : qS) (a1 : Int32) (hf : fCd_probe S a1 = some res) : ∀ (H : Heap) (locs : List Loc) (ls : Array Slot), qG D qCl (cT K) A s (cW h K S) H locs → lv_has ls 5 [(0, .ref (h 16)), (1, .int a1)] → W p l e ({ frames := 3, cells := 0, slots := 0, locals := 77 }) s m args below meth c H locs 0 0 (MQ below (qQv D qCl (cT K) (cW h K) A res) args s 0 0 A) (F0 m 0 ls []) := by
  intro H locs ls G hl
  unfold fCd_probe at hf
  refine lv_aload_n C.1 C.2.1 qm_Cd_probe_0 rfl (lv_at hl 0 rfl) ?_
  refine q_get (wf := (cW h K)) (v := .ref (h 5)) C G qi_Cd 16 rfl rfl 0 (by decide) qz_218 rfl qm_Cd_probe_1 ?_
  obtain ⟨q1, c1, hf⟩ := bnd_s hf
  refine q_callVi (wf := (cW h K)) (n := 0) (As := []) (q0 := 5) (ci := 1) C G hl.1 (kCo_previous (l := l) c1) qx_Cd_240 qm_Co_previous_d ⟨by decide, by decide⟩ ⟨Nat.le_refl _, Nat.le_refl _⟩ rfl rfl rfl rfl rfl (Nat.le_of_ble_eq_true rfl) qm_Cd_probe_4 (fun H locs G => ?_)
  refine lv_aload_n C.1 C.2.1 qm_Cd_probe_7 rfl (lv_at hl 0 rfl) ?_
  refine q_get (wf := (cW h K)) (v := .ref (h 12)) C G qi_Cd 16 rfl rfl 1 (by decide) qz_219 rfl qm_Cd_probe_8 ?_
  refine q_getN (host := "QuadMode") (wf := (cW h K)) (v := .int (q1.2.1 14)) C G qi_Op 12 rfl rfl 3 (by decide) (by decide +kernel) rfl qm_Cd_probe_11 ?_
  refine lv_iconst (v := 3) C.1 C.2.1 qm_Cd_probe_14 (by decide) ?_
  refine lv_iand C.1 C.2.1 qm_Cd_probe_15 ?_
  refine q_max C hl.1 ⟨qz_717, qz_718, qz_82, qz_719⟩ (by decide) (Nat.le_of_ble_eq_true rfl) ⟨Nat.le_refl _, Nat.le_refl _⟩ qm_Cd_probe_16 ?_
  refine lv_istore_n (lv' := [(2, .int (if q1.1 < ((q1.2.1 14) &&& 3) then ((q1.2.1 14) &&& 3) else q1.1)), (0, .ref (h 16)), (1, .int a1)]) C.1 C.2.1 qm_Cd_probe_19 rfl hl (by decide) rfl (fun ls hl => ?_)
  refine lv_aload_n C.1 C.2.1 qm_Cd_probe_20 rfl (lv_at hl 1 rfl) ?_
  refine q_get (wf := (cW h K)) (v := .ref (h 14)) C G qi_Cd 16 rfl rfl 3 (by decide) qz_221 rfl qm_Cd_probe_21 ?_
  refine q_getN (host := "QuadMode") (wf := (cW h K)) (v := .int (q1.2.1 21)) C G qi_Op 14 rfl rfl 2 (by decide) (by decide +kernel) rfl qm_Cd_probe_24 ?_
  refine lv_istore_n (lv' := [(3, .int (q1.2.1 21)), (2, .int (if q1.1 < ((q1.2.1 14) &&& 3) then ((q1.2.1 14) &&& 3) else q1.1)), (0, .ref (h 16)), (1, .int a1)]) C.1 C.2.1 qm_Cd_probe_27 rfl hl (by decide) rfl (fun ls hl => ?_)
  refine lv_aload_n C.1 C.2.1 qm_Cd_probe_28 rfl (lv_at hl 2 rfl) ?_
  refine q_get (wf := (cW h K)) (v := .ref (h 5)) C G qi_Cd 16 rfl rfl 0 (by decide) qz_218 rfl qm_Cd_probe_29 ?_
  refine lv_iload_n C.1 C.2.1 qm_Cd_probe_32 rfl (lv_at hl 0 rfl) ?_
  refine lv_iload_n C.1 C.2.1 qm_Cd_probe_33 rfl (lv_at hl 3 rfl) ?_
  refine lv_iload_n C.1 C.2.1 qm_Cd_probe_34 rfl (lv_at hl 1 rfl) ?_
  obtain ⟨q2, c2, hf⟩ := bnd_s hf
  refine q_callVi (wf := (cW h K)) (n := 3) (As := [.int (q1.2.1 21), .int a1, .int (if q1.1 < ((q1.2.1 14) &&& 3) then ((q1.2.1 14) &&& 3) else q1.1)]) (q0 := 5) (ci := 1) C G hl.1 (kCo_admits (l := l) c2) qx_Cd_246 qm_Co_admits_d ⟨by decide, by decide⟩ ⟨Nat.le_refl _, Nat.le_refl _⟩ rfl rfl rfl rfl rfl (Nat.le_of_ble_eq_true rfl) qm_Cd_probe_35 (fun H locs G => ?_)
  refine lv_if_eq (tgt := 68) C.1 C.2.1 qm_Cd_probe_38 (by decide) (fun b3 => ?_) (fun b3 => ?_)
  · have hf := if_t b3 hf
    exact wCd_probe_68 C q2.2 hf _ _ _ G (lv_sub hl [2] rfl)
  · have hf := if_f b3 hf
    refine lv_aload_n C.1 C.2.1 qm_Cd_probe_41 rfl (lv_at hl 2 rfl) ?_
    refine q_get (wf := (cW h K)) (v := .ref (h 5)) C G qi_Cd 16 rfl rfl 0 (by decide) qz_218 rfl qm_Cd_probe_42 ?_
    refine lv_iload_n C.1 C.2.1 qm_Cd_probe_45 rfl (lv_at hl 0 rfl) ?_
    refine lv_aload_n C.1 C.2.1 qm_Cd_probe_46 rfl (lv_at hl 2 rfl) ?_
    refine q_get (wf := (cW h K)) (v := .ref (h 13)) C G qi_Cd 16 rfl rfl 2 (by decide) qz_220 rfl qm_Cd_probe_47 ?_
    refine q_getN (host := "QuadMode") (wf := (cW h K)) (v := .int (q2.2.1 18)) C G qi_Op 13 rfl rfl 3 (by decide) (by decide +kernel) rfl qm_Cd_probe_50 ?_
    refine lv_iadd C.1 C.2.1 qm_Cd_probe_53 ?_
    refine lv_iconst (v := 1) C.1 C.2.1 qm_Cd_probe_54 (by decide) ?_
    refine lv_isub C.1 C.2.1 qm_Cd_probe_55 ?_
    refine lv_iload_n C.1 C.2.1 qm_Cd_probe_56 rfl (lv_at hl 3 rfl) ?_
    refine lv_iload_n C.1 C.2.1 qm_Cd_probe_57 rfl (lv_at hl 1 rfl) ?_
    obtain ⟨q4, c4, hf⟩ := bnd_s hf
    refine q_callVi (wf := (cW h K)) (n := 3) (As := [.int (((q1.2.1 21) + (q2.2.1 18)) - 1), .int a1, .int (if q1.1 < ((q1.2.1 14) &&& 3) then ((q1.2.1 14) &&& 3) else q1.1)]) (q0 := 5) (ci := 1) C G hl.1 (kCo_admits (l := l) c4) qx_Cd_246 qm_Co_admits_d ⟨by decide, by decide⟩ ⟨Nat.le_refl _, Nat.le_refl _⟩ rfl rfl rfl rfl rfl (Nat.le_of_ble_eq_true rfl) qm_Cd_probe_58 (fun H locs G => ?_)
    refine lv_if_eq (tgt := 68) C.1 C.2.1 qm_Cd_probe_61 (by decide) (fun b5 => ?_) (fun b5 => ?_)
    · have hf := if_t b5 hf
      exact wCd_probe_68 C q4.2 hf _ _ _ G (lv_sub hl [2] rfl)
    · have hf := if_f b5 hf
      refine lv_iconst (v := 1) C.1 C.2.1 qm_Cd_probe_64 (by decide) ?_
      refine lv_goto (tgt := 69) C.1 C.2.1 qm_Cd_probe_65 (by decide) ?_
      exact wCd_probe_69 C q4.2 1 hf _ _ _ G (lv_sub hl [2] rfl)
theorem kCd_probe {l : Launch} {ad : Nat → Nat} {D : va_G} {h : Nat → Nat} {K : Nat → ClassId} {res : qS} {S : qS} {a1 : Int32} (hf : fCd_probe S a1 = some res) : qMv l qm_Cd_probe qm_Cd_probe_c 5 3 77 D qCl (cT K) ad (cW h K) [.ref (h 16), .int a1] S res := qMv_of (by decide) (Nat.le_of_ble_eq_true rfl) (fun _ _ _ _ _ _ _ _ _ _ C G hl => wCd_probe C S a1 hf _ _ _ G hl)
set_option maxHeartbeats 4000000 in
set_option maxRecDepth 100000 in
theorem wCd_moved_48 {l : Launch} {D : va_G} {h : Nat → Nat} {K : Nat → ClassId} {res : Int32 × qS} {p : Program} {e : Env} {s : State} {m : MethodId} {args : Array Value} {below : List Frame} {meth : Method} {c : Code} {A : Nat → Prop} {ad : Nat → Nat} (C : qC p s m args meth c qm_Cd_moved_c 2 (some .int) qR_Cd ad) (S : qS) (x1 : Int32) (hf : fCd_moved_48 S x1 = some res) : ∀ (H : Heap) (locs : List Loc) (ls : Array Slot), qG D qCl (cT K) A s (cW h K S) H locs → lv_has ls 2 [(1, .int x1)] → W p l e ({ frames := 0, cells := 0, slots := 0, locals := 0 }) s m args below meth c H locs 0 0 (MQ below (qQi D qCl (cT K) (cW h K) A res) args s 0 0 A) (F0 m 48 ls []) := by
  intro H locs ls G hl
  unfold fCd_moved_48 at hf
  refine lv_iload_n C.1 C.2.1 qm_Cd_moved_48 rfl (lv_at hl 0 rfl) ?_
  refine lv_i2b (v := x1.toInt8.toInt32) C.1 C.2.1 qm_Cd_moved_49 rfl ?_
  exact q_iret (wf := (cW h K)) C G hf qm_Cd_moved_50
set_option maxHeartbeats 4000000 in
set_option maxRecDepth 100000 in
theorem wCd_moved_60 {l : Launch} {D : va_G} {h : Nat → Nat} {K : Nat → ClassId} {res : Int32 × qS} {p : Program} {e : Env} {s : State} {m : MethodId} {args : Array Value} {below : List Frame} {meth : Method} {c : Code} {A : Nat → Prop} {ad : Nat → Nat} (C : qC p s m args meth c qm_Cd_moved_c 2 (some .int) qR_Cd ad) (S : qS) (x1 : Int32) (hf : fCd_moved_60 S x1 = some res) : ∀ (H : Heap) (locs : List Loc) (ls : Array Slot), qG D qCl (cT K) A s (cW h K S) H locs → lv_has ls 2 [(1, .int x1)] → W p l e ({ frames := 0, cells := 0, slots := 0, locals := 0 }) s m args below meth c H locs 0 0 (MQ below (qQi D qCl (cT K) (cW h K) A res) args s 0 0 A) (F0 m 60 ls []) := by
  intro H locs ls G hl
  unfold fCd_moved_60 at hf
  refine lv_iload_n C.1 C.2.1 qm_Cd_moved_60 rfl (lv_at hl 0 rfl) ?_
  exact q_iret (wf := (cW h K)) C G hf qm_Cd_moved_61
set_option maxHeartbeats 4000000 in
set_option maxRecDepth 100000 in
theorem wCd_moved_51 {l : Launch} {D : va_G} {h : Nat → Nat} {K : Nat → ClassId} {res : Int32 × qS} {p : Program} {e : Env} {s : State} {m : MethodId} {args : Array Value} {below : List Frame} {meth : Method} {c : Code} {A : Nat → Prop} {ad : Nat → Nat} (C : qC p s m args meth c qm_Cd_moved_c 2 (some .int) qR_Cd ad) (S : qS) (x1 : Int32) (hf : fCd_moved_51 S x1 = some res) : ∀ (H : Heap) (locs : List Loc) (ls : Array Slot), qG D qCl (cT K) A s (cW h K S) H locs → lv_has ls 2 [(1, .int x1)] → W p l e ({ frames := 0, cells := 0, slots := 0, locals := 0 }) s m args below meth c H locs 0 0 (MQ below (qQi D qCl (cT K) (cW h K) A res) args s 0 0 A) (F0 m 51 ls []) := by
  intro H locs ls G hl
  unfold fCd_moved_51 at hf
  refine lv_iload_n C.1 C.2.1 qm_Cd_moved_51 rfl (lv_at hl 0 rfl) ?_
  refine lv_ineg C.1 C.2.1 qm_Cd_moved_52 ?_
  exact q_iret (wf := (cW h K)) C G hf qm_Cd_moved_53
set_option maxHeartbeats 4000000 in
set_option maxRecDepth 100000 in
theorem wCd_moved_54 {l : Launch} {D : va_G} {h : Nat → Nat} {K : Nat → ClassId} {res : Int32 × qS} {p : Program} {e : Env} {s : State} {m : MethodId} {args : Array Value} {below : List Frame} {meth : Method} {c : Code} {A : Nat → Prop} {ad : Nat → Nat} (C : qC p s m args meth c qm_Cd_moved_c 2 (some .int) qR_Cd ad) (S : qS) (x1 : Int32) (hf : fCd_moved_54 S x1 = some res) : ∀ (H : Heap) (locs : List Loc) (ls : Array Slot), qG D qCl (cT K) A s (cW h K S) H locs → lv_has ls 2 [(1, .int x1)] → W p l e ({ frames := 0, cells := 0, slots := 0, locals := 0 }) s m args below meth c H locs 0 0 (MQ below (qQi D qCl (cT K) (cW h K) A res) args s 0 0 A) (F0 m 54 ls []) := by
  intro H locs ls G hl
  unfold fCd_moved_54 at hf
  refine lv_iload_n C.1 C.2.1 qm_Cd_moved_54 rfl (lv_at hl 0 rfl) ?_
  refine lv_iconst (v := (-1)) C.1 C.2.1 qm_Cd_moved_55 (by decide) ?_
  refine lv_ixor C.1 C.2.1 qm_Cd_moved_56 ?_
  exact q_iret (wf := (cW h K)) C G hf qm_Cd_moved_57
set_option maxHeartbeats 4000000 in
set_option maxRecDepth 100000 in
theorem wCd_moved_58 {l : Launch} {D : va_G} {h : Nat → Nat} {K : Nat → ClassId} {res : Int32 × qS} {p : Program} {e : Env} {s : State} {m : MethodId} {args : Array Value} {below : List Frame} {meth : Method} {c : Code} {A : Nat → Prop} {ad : Nat → Nat} (C : qC p s m args meth c qm_Cd_moved_c 2 (some .int) qR_Cd ad) (S : qS) (hf : fCd_moved_58 S = some res) : ∀ (H : Heap) (locs : List Loc) (ls : Array Slot), qG D qCl (cT K) A s (cW h K S) H locs → lv_has ls 2 [] → W p l e ({ frames := 0, cells := 0, slots := 0, locals := 0 }) s m args below meth c H locs 0 0 (MQ below (qQi D qCl (cT K) (cW h K) A res) args s 0 0 A) (F0 m 58 ls []) := by
  intro H locs ls G hl
  unfold fCd_moved_58 at hf
  refine lv_iconst (v := 0) C.1 C.2.1 qm_Cd_moved_58 (by decide) ?_
  exact q_iret (wf := (cW h K)) C G hf qm_Cd_moved_59
set_option maxHeartbeats 4000000 in
set_option maxRecDepth 100000 in
theorem wCd_moved {l : Launch} {D : va_G} {h : Nat → Nat} {K : Nat → ClassId} {res : Int32 × qS} {p : Program} {e : Env} {s : State} {m : MethodId} {args : Array Value} {below : List Frame} {meth : Method} {c : Code} {A : Nat → Prop} {ad : Nat → Nat} (C : qC p s m args meth c qm_Cd_moved_c 2 (some .int) qR_Cd ad) (S : qS) (a0 : Int32) (a1 : Int32) (hf : fCd_moved S a0 a1 = some res) : ∀ (H : Heap) (locs : List Loc) (ls : Array Slot), qG D qCl (cT K) A s (cW h K S) H locs → lv_has ls 2 [(0, .int a0), (1, .int a1)] → W p l e ({ frames := 0, cells := 0, slots := 0, locals := 0 }) s m args below meth c H locs 0 0 (MQ below (qQi D qCl (cT K) (cW h K) A res) args s 0 0 A) (F0 m 0 ls []) := by
  intro H locs ls G hl
  unfold fCd_moved at hf
  refine lv_iload_n C.1 C.2.1 qm_Cd_moved_0 rfl (lv_at hl 0 rfl) ?_
  by_cases b1 : a0.toInt < 13 ∨ 20 < a0.toInt
  · have hf := if_t b1 hf
    refine lv_tableOut (tgt := 60) C.1 C.2.1 qm_Cd_moved_1 b1 (by decide) ?_
    exact wCd_moved_60 C S a1 hf _ _ _ G (lv_sub hl [1] rfl)
  have hf := if_f b1 hf
  by_cases b1_13 : a0 = 13
  · have hf := if_t b1_13 hf
    refine lv_tableIn (tgt := 48) C.1 C.2.1 qm_Cd_moved_1 (by rw [b1_13]; decide) (by rw [b1_13]; decide) (by rw [b1_13]; rfl) (by decide) ?_
    exact wCd_moved_48 C S a1 hf _ _ _ G (lv_sub hl [1] rfl)
  have hf := if_f b1_13 hf
  by_cases b1_14 : a0 = 14
  · have hf := if_t b1_14 hf
    refine lv_tableIn (tgt := 60) C.1 C.2.1 qm_Cd_moved_1 (by rw [b1_14]; decide) (by rw [b1_14]; decide) (by rw [b1_14]; rfl) (by decide) ?_
    exact wCd_moved_60 C S a1 hf _ _ _ G (lv_sub hl [1] rfl)
  have hf := if_f b1_14 hf
  by_cases b1_15 : a0 = 15
  · have hf := if_t b1_15 hf
    refine lv_tableIn (tgt := 60) C.1 C.2.1 qm_Cd_moved_1 (by rw [b1_15]; decide) (by rw [b1_15]; decide) (by rw [b1_15]; rfl) (by decide) ?_
    exact wCd_moved_60 C S a1 hf _ _ _ G (lv_sub hl [1] rfl)
  have hf := if_f b1_15 hf
  by_cases b1_16 : a0 = 16
  · have hf := if_t b1_16 hf
    refine lv_tableIn (tgt := 48) C.1 C.2.1 qm_Cd_moved_1 (by rw [b1_16]; decide) (by rw [b1_16]; decide) (by rw [b1_16]; rfl) (by decide) ?_
    exact wCd_moved_48 C S a1 hf _ _ _ G (lv_sub hl [1] rfl)
  have hf := if_f b1_16 hf
  by_cases b1_17 : a0 = 17
  · have hf := if_t b1_17 hf
    refine lv_tableIn (tgt := 48) C.1 C.2.1 qm_Cd_moved_1 (by rw [b1_17]; decide) (by rw [b1_17]; decide) (by rw [b1_17]; rfl) (by decide) ?_
    exact wCd_moved_48 C S a1 hf _ _ _ G (lv_sub hl [1] rfl)
  have hf := if_f b1_17 hf
  by_cases b1_18 : a0 = 18
  · have hf := if_t b1_18 hf
    refine lv_tableIn (tgt := 51) C.1 C.2.1 qm_Cd_moved_1 (by rw [b1_18]; decide) (by rw [b1_18]; decide) (by rw [b1_18]; rfl) (by decide) ?_
    exact wCd_moved_51 C S a1 hf _ _ _ G (lv_sub hl [1] rfl)
  have hf := if_f b1_18 hf
  by_cases b1_19 : a0 = 19
  · have hf := if_t b1_19 hf
    refine lv_tableIn (tgt := 54) C.1 C.2.1 qm_Cd_moved_1 (by rw [b1_19]; decide) (by rw [b1_19]; decide) (by rw [b1_19]; rfl) (by decide) ?_
    exact wCd_moved_54 C S a1 hf _ _ _ G (lv_sub hl [1] rfl)
  have hf := if_f b1_19 hf
  by_cases b1_20 : a0 = 20
  · have hf := if_t b1_20 hf
    refine lv_tableIn (tgt := 58) C.1 C.2.1 qm_Cd_moved_1 (by rw [b1_20]; decide) (by rw [b1_20]; decide) (by rw [b1_20]; rfl) (by decide) ?_
    exact wCd_moved_58 C S hf _ _ _ G (lv_sub hl [] rfl)
  have hf := if_f b1_20 hf
  cases hf
theorem kCd_moved {l : Launch} {ad : Nat → Nat} {D : va_G} {h : Nat → Nat} {K : Nat → ClassId} {res : Int32 × qS} {S : qS} {a0 : Int32} {a1 : Int32} (hf : fCd_moved S a0 a1 = some res) : qMi l qm_Cd_moved qm_Cd_moved_c 2 .int 0 0 D qCl (cT K) ad (cW h K) [.int a0, .int a1] S res := qMi_of (by decide) (Nat.le_of_ble_eq_true rfl) (fun _ _ _ _ _ _ _ _ _ _ C G hl => wCd_moved C S a0 a1 hf _ _ _ G hl)
set_option maxHeartbeats 4000000 in
set_option maxRecDepth 100000 in
theorem wCd_move_113 {l : Launch} {D : va_G} {h : Nat → Nat} {K : Nat → ClassId} {res : qS} {p : Program} {e : Env} {s : State} {m : MethodId} {args : Array Value} {below : List Frame} {meth : Method} {c : Code} {A : Nat → Prop} {ad : Nat → Nat} (C : qC p s m args meth c qm_Cd_move_c 6 none qR_Cd ad) (S : qS) (x3 : Int32) (ky1 : Nat) (hf : fCd_move_113 S x3 ky1 = some res) : ky1 < 3 → ∀ (H : Heap) (locs : List Loc) (ls : Array Slot), qG D qCl (cT K) A s (cW h K S) H locs → lv_has ls 6 [(3, .int x3)] → W p l e ({ frames := 4, cells := 0, slots := 0, locals := 99 }) s m args below meth c H locs 0 0 (MQ below (qQv D qCl (cT K) (cW h K) A res) args s 0 0 A) (F0 m 113 ls [.ref (h (12 + ky1)), .ref (h 16)]) := by
  intro hky1 H locs ls G hl
  unfold fCd_move_113 at hf
  refine lv_iload_n C.1 C.2.1 qm_Cd_move_113 rfl (lv_at hl 0 rfl) ?_
  obtain ⟨S1, c1, hf⟩ := bnd_s hf
  refine q_callVv (wf := (cW h K)) (n := 2) (As := [.ref (h (12 + ky1)), .int x3]) (q0 := 16) (ci := 0) C G hl.1 (kCd_store (l := l) c1 hky1) qx_Cd_111 qm_Cd_store_d ⟨by decide, by decide⟩ ⟨Nat.le_refl _, Nat.le_refl _⟩ rfl rfl rfl rfl rfl (Nat.le_of_ble_eq_true rfl) qm_Cd_move_114 (fun H locs G => ?_)
  exact q_vret (wf := (cW h K)) C G hf qm_Cd_move_117
set_option maxHeartbeats 4000000 in
set_option maxRecDepth 100000 in
theorem wCd_move_83 {l : Launch} {D : va_G} {h : Nat → Nat} {K : Nat → ClassId} {res : qS} {p : Program} {e : Env} {s : State} {m : MethodId} {args : Array Value} {below : List Frame} {meth : Method} {c : Code} {A : Nat → Prop} {ad : Nat → Nat} (C : qC p s m args meth c qm_Cd_move_c 6 none qR_Cd ad) (S : qS) (x1 : Int32) (x3 : Int32) (x4 : Int32) (x5 : Int32) (hf : fCd_move_83 S x1 x3 x4 x5 = some res) : ∀ (H : Heap) (locs : List Loc) (ls : Array Slot), qG D qCl (cT K) A s (cW h K S) H locs → lv_has ls 6 [(0, .ref (h 16)), (1, .int x1), (3, .int x3), (4, .int x4), (5, .int x5)] → W p l e ({ frames := 4, cells := 0, slots := 0, locals := 99 }) s m args below meth c H locs 0 0 (MQ below (qQv D qCl (cT K) (cW h K) A res) args s 0 0 A) (F0 m 83 ls []) := by
  intro H locs ls G hl
  unfold fCd_move_83 at hf
  refine lv_aload_n C.1 C.2.1 qm_Cd_move_83 rfl (lv_at hl 0 rfl) ?_
  refine q_get (wf := (cW h K)) (v := .ref (h 5)) C G qi_Cd 16 rfl rfl 0 (by decide) qz_218 rfl qm_Cd_move_84 ?_
  refine lv_iload_n C.1 C.2.1 qm_Cd_move_87 rfl (lv_at hl 2 rfl) ?_
  refine lv_iload C.1 C.2.1 qm_Cd_move_88 (lv_at hl 3 rfl) ?_
  refine lv_iload C.1 C.2.1 qm_Cd_move_90 (lv_at hl 4 rfl) ?_
  obtain ⟨S1, c1, hf⟩ := bnd_s hf
  refine q_callVv (wf := (cW h K)) (n := 3) (As := [.int x3, .int x4, .int x5]) (q0 := 5) (ci := 1) C G hl.1 (kCo_conclude (l := l) c1) qx_Cd_183 qm_Co_conclude_d ⟨by decide, by decide⟩ ⟨Nat.le_refl _, Nat.le_refl _⟩ rfl rfl rfl rfl rfl (Nat.le_of_ble_eq_true rfl) qm_Cd_move_92 (fun H locs G => ?_)
  refine lv_aload_n C.1 C.2.1 qm_Cd_move_95 rfl (lv_at hl 0 rfl) ?_
  refine lv_iload_n C.1 C.2.1 qm_Cd_move_96 rfl (lv_at hl 1 rfl) ?_
  refine lv_bipush (v := 20) C.1 C.2.1 qm_Cd_move_97 (by decide) ?_
  refine lv_icmp_ne (tgt := 109) C.1 C.2.1 qm_Cd_move_99 (by decide) (fun b2 => ?_) (fun b2 => ?_)
  · have hf := if_t b2 hf
    refine lv_aload_n C.1 C.2.1 qm_Cd_move_109 rfl (lv_at hl 0 rfl) ?_
    refine q_get (wf := (cW h K)) (v := .ref (h 13)) C G qi_Cd 16 rfl rfl 2 (by decide) qz_220 rfl qm_Cd_move_110 ?_
    exact wCd_move_113 C S1 x3 1 hf (by decide) _ _ _ G (lv_sub hl [2] rfl)
  · have hf := if_f (not_not_intro b2) hf
    refine lv_aload_n C.1 C.2.1 qm_Cd_move_102 rfl (lv_at hl 0 rfl) ?_
    refine q_get (wf := (cW h K)) (v := .ref (h 12)) C G qi_Cd 16 rfl rfl 1 (by decide) qz_219 rfl qm_Cd_move_103 ?_
    refine lv_goto (tgt := 113) C.1 C.2.1 qm_Cd_move_106 (by decide) ?_
    exact wCd_move_113 C S1 x3 0 hf (by decide) _ _ _ G (lv_sub hl [2] rfl)
set_option maxHeartbeats 4000000 in
set_option maxRecDepth 100000 in
theorem wCd_move_81 {l : Launch} {D : va_G} {h : Nat → Nat} {K : Nat → ClassId} {res : qS} {p : Program} {e : Env} {s : State} {m : MethodId} {args : Array Value} {below : List Frame} {meth : Method} {c : Code} {A : Nat → Prop} {ad : Nat → Nat} (C : qC p s m args meth c qm_Cd_move_c 6 none qR_Cd ad) (S : qS) (x1 : Int32) (x3 : Int32) (x4 : Int32) (y0 : Int32) (hf : fCd_move_81 S x1 x3 x4 y0 = some res) : ∀ (H : Heap) (locs : List Loc) (ls : Array Slot), qG D qCl (cT K) A s (cW h K S) H locs → lv_has ls 6 [(0, .ref (h 16)), (1, .int x1), (3, .int x3), (4, .int x4)] → W p l e ({ frames := 4, cells := 0, slots := 0, locals := 99 }) s m args below meth c H locs 0 0 (MQ below (qQv D qCl (cT K) (cW h K) A res) args s 0 0 A) (F0 m 81 ls [.int y0]) := by
  intro H locs ls G hl
  unfold fCd_move_81 at hf
  refine lv_istore (lv' := [(5, .int y0), (0, .ref (h 16)), (1, .int x1), (3, .int x3), (4, .int x4)]) C.1 C.2.1 qm_Cd_move_81 hl (by decide) rfl (fun ls hl => ?_)
  exact wCd_move_83 C S x1 x3 x4 y0 hf _ _ _ G (lv_sub hl [1, 2, 3, 4, 0] rfl)
set_option maxHeartbeats 4000000 in
set_option maxRecDepth 100000 in
theorem wCd_move_42 {l : Launch} {D : va_G} {h : Nat → Nat} {K : Nat → ClassId} {res : qS} {p : Program} {e : Env} {s : State} {m : MethodId} {args : Array Value} {below : List Frame} {meth : Method} {c : Code} {A : Nat → Prop} {ad : Nat → Nat} (C : qC p s m args meth c qm_Cd_move_c 6 none qR_Cd ad) (S : qS) (x1 : Int32) (x3 : Int32) (y0 : Int32) (hf : fCd_move_42 S x1 x3 y0 = some res) : ∀ (H : Heap) (locs : List Loc) (ls : Array Slot), qG D qCl (cT K) A s (cW h K S) H locs → lv_has ls 6 [(0, .ref (h 16)), (1, .int x1), (3, .int x3)] → W p l e ({ frames := 4, cells := 0, slots := 0, locals := 99 }) s m args below meth c H locs 0 0 (MQ below (qQv D qCl (cT K) (cW h K) A res) args s 0 0 A) (F0 m 42 ls [.int y0]) := by
  intro H locs ls G hl
  unfold fCd_move_42 at hf
  refine lv_istore (lv' := [(4, .int y0), (0, .ref (h 16)), (1, .int x1), (3, .int x3)]) C.1 C.2.1 qm_Cd_move_42 hl (by decide) rfl (fun ls hl => ?_)
  refine lv_aload_n C.1 C.2.1 qm_Cd_move_44 rfl (lv_at hl 1 rfl) ?_
  refine q_get (wf := (cW h K)) (v := .ref (h 5)) C G qi_Cd 16 rfl rfl 0 (by decide) qz_218 rfl qm_Cd_move_45 ?_
  refine lv_iconst (v := 1) C.1 C.2.1 qm_Cd_move_48 (by decide) ?_
  obtain ⟨q1, c1, hf⟩ := bnd_s hf
  refine q_callVi (wf := (cW h K)) (n := 1) (As := [.int 1]) (q0 := 5) (ci := 1) C G hl.1 (kCo_has (l := l) c1) qx_Cd_152 qm_Co_has_d ⟨by decide, by decide⟩ ⟨Nat.le_refl _, Nat.le_refl _⟩ rfl rfl rfl rfl rfl (Nat.le_of_ble_eq_true rfl) qm_Cd_move_49 (fun H locs G => ?_)
  refine lv_istore (lv' := [(5, .int q1.1), (4, .int y0), (0, .ref (h 16)), (1, .int x1), (3, .int x3)]) C.1 C.2.1 qm_Cd_move_52 hl (by decide) rfl (fun ls hl => ?_)
  refine lv_iload_n C.1 C.2.1 qm_Cd_move_54 rfl (lv_at hl 3 rfl) ?_
  refine lv_bipush (v := 17) C.1 C.2.1 qm_Cd_move_55 (by decide) ?_
  refine lv_icmp_ne (tgt := 66) C.1 C.2.1 qm_Cd_move_57 (by decide) (fun b2 => ?_) (fun b2 => ?_)
  · have hf := if_t b2 hf
    refine lv_iload_n C.1 C.2.1 qm_Cd_move_66 rfl (lv_at hl 3 rfl) ?_
    refine lv_bipush (v := 18) C.1 C.2.1 qm_Cd_move_67 (by decide) ?_
    refine lv_icmp_ne (tgt := 83) C.1 C.2.1 qm_Cd_move_69 (by decide) (fun b3 => ?_) (fun b3 => ?_)
    · have hf := if_t b3 hf
      exact wCd_move_83 C q1.2 x1 x3 y0 q1.1 hf _ _ _ G (lv_sub hl [2, 3, 4, 1, 0] rfl)
    · have hf := if_f (not_not_intro b3) hf
      refine lv_iload_n C.1 C.2.1 qm_Cd_move_72 rfl (lv_at hl 4 rfl) ?_
      refine lv_if_eq (tgt := 80) C.1 C.2.1 qm_Cd_move_73 (by decide) (fun b4 => ?_) (fun b4 => ?_)
      · have hf := if_t b4 hf
        refine lv_iconst (v := 0) C.1 C.2.1 qm_Cd_move_80 (by decide) ?_
        exact wCd_move_81 C q1.2 x1 x3 y0 0 hf _ _ _ G (lv_sub hl [2, 3, 4, 1] rfl)
      · have hf := if_f b4 hf
        refine lv_iconst (v := 1) C.1 C.2.1 qm_Cd_move_76 (by decide) ?_
        refine lv_goto (tgt := 81) C.1 C.2.1 qm_Cd_move_77 (by decide) ?_
        exact wCd_move_81 C q1.2 x1 x3 y0 1 hf _ _ _ G (lv_sub hl [2, 3, 4, 1] rfl)
  · have hf := if_f (not_not_intro b2) hf
    refine lv_iconst (v := 0) C.1 C.2.1 qm_Cd_move_60 (by decide) ?_
    refine lv_istore (lv' := [(5, .int 0), (4, .int y0), (0, .ref (h 16)), (1, .int x1), (3, .int x3)]) C.1 C.2.1 qm_Cd_move_61 hl (by decide) rfl (fun ls hl => ?_)
    refine lv_goto (tgt := 83) C.1 C.2.1 qm_Cd_move_63 (by decide) ?_
    exact wCd_move_83 C q1.2 x1 x3 y0 0 hf _ _ _ G (lv_sub hl [2, 3, 4, 1, 0] rfl)
set_option maxHeartbeats 4000000 in
set_option maxRecDepth 100000 in
theorem wCd_move_41 {l : Launch} {D : va_G} {h : Nat → Nat} {K : Nat → ClassId} {res : qS} {p : Program} {e : Env} {s : State} {m : MethodId} {args : Array Value} {below : List Frame} {meth : Method} {c : Code} {A : Nat → Prop} {ad : Nat → Nat} (C : qC p s m args meth c qm_Cd_move_c 6 none qR_Cd ad) (S : qS) (x1 : Int32) (x3 : Int32) (hf : fCd_move_41 S x1 x3 = some res) : ∀ (H : Heap) (locs : List Loc) (ls : Array Slot), qG D qCl (cT K) A s (cW h K S) H locs → lv_has ls 6 [(0, .ref (h 16)), (1, .int x1), (3, .int x3)] → W p l e ({ frames := 4, cells := 0, slots := 0, locals := 99 }) s m args below meth c H locs 0 0 (MQ below (qQv D qCl (cT K) (cW h K) A res) args s 0 0 A) (F0 m 41 ls []) := by
  intro H locs ls G hl
  unfold fCd_move_41 at hf
  refine lv_iconst (v := 0) C.1 C.2.1 qm_Cd_move_41 (by decide) ?_
  exact wCd_move_42 C S x1 x3 0 hf _ _ _ G (lv_sub hl [0, 1, 2] rfl)
set_option maxHeartbeats 4000000 in
set_option maxRecDepth 100000 in
theorem wCd_move_37 {l : Launch} {D : va_G} {h : Nat → Nat} {K : Nat → ClassId} {res : qS} {p : Program} {e : Env} {s : State} {m : MethodId} {args : Array Value} {below : List Frame} {meth : Method} {c : Code} {A : Nat → Prop} {ad : Nat → Nat} (C : qC p s m args meth c qm_Cd_move_c 6 none qR_Cd ad) (S : qS) (x1 : Int32) (x3 : Int32) (hf : fCd_move_37 S x1 x3 = some res) : ∀ (H : Heap) (locs : List Loc) (ls : Array Slot), qG D qCl (cT K) A s (cW h K S) H locs → lv_has ls 6 [(0, .ref (h 16)), (1, .int x1), (3, .int x3)] → W p l e ({ frames := 4, cells := 0, slots := 0, locals := 99 }) s m args below meth c H locs 0 0 (MQ below (qQv D qCl (cT K) (cW h K) A res) args s 0 0 A) (F0 m 37 ls []) := by
  intro H locs ls G hl
  unfold fCd_move_37 at hf
  refine lv_iconst (v := 1) C.1 C.2.1 qm_Cd_move_37 (by decide) ?_
  refine lv_goto (tgt := 42) C.1 C.2.1 qm_Cd_move_38 (by decide) ?_
  exact wCd_move_42 C S x1 x3 1 hf _ _ _ G (lv_sub hl [0, 1, 2] rfl)
set_option maxHeartbeats 4000000 in
set_option maxRecDepth 100000 in
theorem wCd_move_25 {l : Launch} {D : va_G} {h : Nat → Nat} {K : Nat → ClassId} {res : qS} {p : Program} {e : Env} {s : State} {m : MethodId} {args : Array Value} {below : List Frame} {meth : Method} {c : Code} {A : Nat → Prop} {ad : Nat → Nat} (C : qC p s m args meth c qm_Cd_move_c 6 none qR_Cd ad) (S : qS) (x1 : Int32) (x2 : Int32) (x3 : Int32) (hf : fCd_move_25 S x1 x2 x3 = some res) : ∀ (H : Heap) (locs : List Loc) (ls : Array Slot), qG D qCl (cT K) A s (cW h K S) H locs → lv_has ls 6 [(0, .ref (h 16)), (1, .int x1), (2, .int x2), (3, .int x3)] → W p l e ({ frames := 4, cells := 0, slots := 0, locals := 99 }) s m args below meth c H locs 0 0 (MQ below (qQv D qCl (cT K) (cW h K) A res) args s 0 0 A) (F0 m 25 ls []) := by
  intro H locs ls G hl
  unfold fCd_move_25 at hf
  refine lv_iload_n C.1 C.2.1 qm_Cd_move_25 rfl (lv_at hl 1 rfl) ?_
  refine lv_bipush (v := 18) C.1 C.2.1 qm_Cd_move_26 (by decide) ?_
  refine lv_icmp_ne (tgt := 41) C.1 C.2.1 qm_Cd_move_28 (by decide) (fun b1 => ?_) (fun b1 => ?_)
  · have hf := if_t b1 hf
    exact wCd_move_41 C S x1 x3 hf _ _ _ G (lv_sub hl [0, 1, 3] rfl)
  · have hf := if_f (not_not_intro b1) hf
    refine lv_iload_n C.1 C.2.1 qm_Cd_move_31 rfl (lv_at hl 2 rfl) ?_
    refine lv_ldc (own := "QuadMode$Codes") (v := (-2147483648)) C.1 C.2.1 C.2.2.2.1 (C.2.2.2.2.1 _ qz_732) qm_Cd_move_32 ?_
    refine lv_icmp_ne (tgt := 41) C.1 C.2.1 qm_Cd_move_34 (by decide) (fun b2 => ?_) (fun b2 => ?_)
    · have hf := if_t b2 hf
      exact wCd_move_41 C S x1 x3 hf _ _ _ G (lv_sub hl [0, 1, 3] rfl)
    · have hf := if_f (not_not_intro b2) hf
      exact wCd_move_37 C S x1 x3 hf _ _ _ G (lv_sub hl [0, 1, 3] rfl)
set_option maxHeartbeats 4000000 in
set_option maxRecDepth 100000 in
theorem wCd_move {l : Launch} {D : va_G} {h : Nat → Nat} {K : Nat → ClassId} {res : qS} {p : Program} {e : Env} {s : State} {m : MethodId} {args : Array Value} {below : List Frame} {meth : Method} {c : Code} {A : Nat → Prop} {ad : Nat → Nat} (C : qC p s m args meth c qm_Cd_move_c 6 none qR_Cd ad) (S : qS) (a1 : Int32) (hf : fCd_move S a1 = some res) : ∀ (H : Heap) (locs : List Loc) (ls : Array Slot), qG D qCl (cT K) A s (cW h K S) H locs → lv_has ls 6 [(0, .ref (h 16)), (1, .int a1)] → W p l e ({ frames := 4, cells := 0, slots := 0, locals := 99 }) s m args below meth c H locs 0 0 (MQ below (qQv D qCl (cT K) (cW h K) A res) args s 0 0 A) (F0 m 0 ls []) := by
  intro H locs ls G hl
  unfold fCd_move at hf
  refine lv_aload_n C.1 C.2.1 qm_Cd_move_0 rfl (lv_at hl 0 rfl) ?_
  refine q_get (wf := (cW h K)) (v := .ref (h 12)) C G qi_Cd 16 rfl rfl 1 (by decide) qz_219 rfl qm_Cd_move_1 ?_
  refine q_getN (host := "QuadMode") (wf := (cW h K)) (v := .int (S.1 14)) C G qi_Op 12 rfl rfl 3 (by decide) (by decide +kernel) rfl qm_Cd_move_4 ?_
  refine lv_istore_n (lv' := [(2, .int (S.1 14)), (0, .ref (h 16)), (1, .int a1)]) C.1 C.2.1 qm_Cd_move_7 rfl hl (by decide) rfl (fun ls hl => ?_)
  refine lv_iload_n C.1 C.2.1 qm_Cd_move_8 rfl (lv_at hl 2 rfl) ?_
  refine lv_iload_n C.1 C.2.1 qm_Cd_move_9 rfl (lv_at hl 0 rfl) ?_
  obtain ⟨q1, c1, hf⟩ := bnd_s hf
  refine q_callSi (wf := (cW h K)) (n := 2) (As := [.int a1, .int (S.1 14)]) C G hl.1 (kCd_moved (l := l) c1) qx_Cd_187 qm_Cd_moved_d ⟨by decide, by decide⟩ ⟨Nat.le_refl _, Nat.le_refl _⟩ rfl rfl (Nat.le_of_ble_eq_true rfl) qm_Cd_move_10 (fun H locs G => ?_)
  refine lv_istore_n (lv' := [(3, .int q1.1), (2, .int (S.1 14)), (0, .ref (h 16)), (1, .int a1)]) C.1 C.2.1 qm_Cd_move_13 rfl hl (by decide) rfl (fun ls hl => ?_)
  refine lv_iload_n C.1 C.2.1 qm_Cd_move_14 rfl (lv_at hl 3 rfl) ?_
  refine lv_bipush (v := 17) C.1 C.2.1 qm_Cd_move_15 (by decide) ?_
  refine lv_icmp_ne (tgt := 25) C.1 C.2.1 qm_Cd_move_17 (by decide) (fun b2 => ?_) (fun b2 => ?_)
  · have hf := if_t b2 hf
    exact wCd_move_25 C q1.2 a1 (S.1 14) q1.1 hf _ _ _ G (lv_sub hl [2, 3, 1, 0] rfl)
  · have hf := if_f (not_not_intro b2) hf
    refine lv_iload_n C.1 C.2.1 qm_Cd_move_20 rfl (lv_at hl 0 rfl) ?_
    refine lv_iload_n C.1 C.2.1 qm_Cd_move_21 rfl (lv_at hl 1 rfl) ?_
    refine lv_icmp_ne (tgt := 37) C.1 C.2.1 qm_Cd_move_22 (by decide) (fun b3 => ?_) (fun b3 => ?_)
    · have hf := if_t b3 hf
      exact wCd_move_37 C q1.2 a1 q1.1 hf _ _ _ G (lv_sub hl [2, 3, 0] rfl)
    · have hf := if_f (not_not_intro b3) hf
      exact wCd_move_25 C q1.2 a1 (S.1 14) q1.1 hf _ _ _ G (lv_sub hl [2, 3, 1, 0] rfl)
theorem kCd_move {l : Launch} {ad : Nat → Nat} {D : va_G} {h : Nat → Nat} {K : Nat → ClassId} {res : qS} {S : qS} {a1 : Int32} (hf : fCd_move S a1 = some res) : qMv l qm_Cd_move qm_Cd_move_c 6 4 99 D qCl (cT K) ad (cW h K) [.ref (h 16), .int a1] S res := qMv_of (by decide) (Nat.le_of_ble_eq_true rfl) (fun _ _ _ _ _ _ _ _ _ _ C G hl => wCd_move C S a1 hf _ _ _ G hl)
set_option maxHeartbeats 4000000 in
set_option maxRecDepth 100000 in
theorem wCd_compare_123 {l : Launch} {D : va_G} {h : Nat → Nat} {K : Nat → ClassId} {res : qS} {p : Program} {e : Env} {s : State} {m : MethodId} {args : Array Value} {below : List Frame} {meth : Method} {c : Code} {A : Nat → Prop} {ad : Nat → Nat} (C : qC p s m args meth c qm_Cd_compare_c 5 none qR_Cd ad) (S : qS) (y1 : Int32) (y2 : Int32) (y3 : Int32) (y4 : Int32) (hf : fCd_compare_123 S y1 y2 y3 y4 = some res) : ∀ (H : Heap) (locs : List Loc) (ls : Array Slot), qG D qCl (cT K) A s (cW h K S) H locs → lv_has ls 5 [] → W p l e ({ frames := 2, cells := 0, slots := 0, locals := 48 }) s m args below meth c H locs 0 0 (MQ below (qQv D qCl (cT K) (cW h K) A res) args s 0 0 A) (F0 m 123 ls [.int y4, .int y3, .int y2, .int y1, .ref (h 5)]) := by
  intro H locs ls G hl
  unfold fCd_compare_123 at hf
  obtain ⟨S1, c1, hf⟩ := bnd_s hf
  refine q_callVv (wf := (cW h K)) (n := 4) (As := [.int y1, .int y2, .int y3, .int y4]) (q0 := 5) (ci := 1) C G hl.1 (kCo_setConditions (l := l) c1) qx_Cd_197 qm_Co_setConditions_d ⟨by decide, by decide⟩ ⟨Nat.le_refl _, Nat.le_refl _⟩ rfl rfl rfl rfl rfl (Nat.le_of_ble_eq_true rfl) qm_Cd_compare_123 (fun H locs G => ?_)
  exact q_vret (wf := (cW h K)) C G hf qm_Cd_compare_126
set_option maxHeartbeats 4000000 in
set_option maxRecDepth 100000 in
theorem wCd_compare_108 {l : Launch} {D : va_G} {h : Nat → Nat} {K : Nat → ClassId} {res : qS} {p : Program} {e : Env} {s : State} {m : MethodId} {args : Array Value} {below : List Frame} {meth : Method} {c : Code} {A : Nat → Prop} {ad : Nat → Nat} (C : qC p s m args meth c qm_Cd_compare_c 5 none qR_Cd ad) (S : qS) (x3 : Int32) (x4 : Int32) (y1 : Int32) (y2 : Int32) (hf : fCd_compare_108 S x3 x4 y1 y2 = some res) : ∀ (H : Heap) (locs : List Loc) (ls : Array Slot), qG D qCl (cT K) A s (cW h K S) H locs → lv_has ls 5 [(3, .int x3), (4, .int x4)] → W p l e ({ frames := 2, cells := 0, slots := 0, locals := 48 }) s m args below meth c H locs 0 0 (MQ below (qQv D qCl (cT K) (cW h K) A res) args s 0 0 A) (F0 m 108 ls [.int y2, .int y1, .ref (h 5)]) := by
  intro H locs ls G hl
  unfold fCd_compare_108 at hf
  refine lv_iconst (v := 0) C.1 C.2.1 qm_Cd_compare_108 (by decide) ?_
  refine lv_iload_n C.1 C.2.1 qm_Cd_compare_109 rfl (lv_at hl 0 rfl) ?_
  refine lv_iload C.1 C.2.1 qm_Cd_compare_110 (lv_at hl 1 rfl) ?_
  obtain ⟨q1, c1, hf⟩ := bnd_s hf
  refine q_callSi (wf := (cW h K)) (n := 2) (As := [.int x3, .int x4]) C G hl.1 (kJI_compareUnsigned (l := l) c1) qx_Cd_194 qm_JI_compareUnsigned_d ⟨by decide, by decide⟩ ⟨Nat.le_refl _, Nat.le_refl _⟩ rfl rfl (Nat.le_of_ble_eq_true rfl) qm_Cd_compare_112 (fun H locs G => ?_)
  refine lv_if_ge (tgt := 122) C.1 C.2.1 qm_Cd_compare_115 (by decide) (fun b2 => ?_) (fun b2 => ?_)
  · have hf := if_t b2 hf
    refine lv_iconst (v := 0) C.1 C.2.1 qm_Cd_compare_122 (by decide) ?_
    exact wCd_compare_123 C q1.2 y1 y2 0 0 hf _ _ _ G (lv_sub hl [] rfl)
  · have hf := if_f b2 hf
    refine lv_iconst (v := 1) C.1 C.2.1 qm_Cd_compare_118 (by decide) ?_
    refine lv_goto (tgt := 123) C.1 C.2.1 qm_Cd_compare_119 (by decide) ?_
    exact wCd_compare_123 C q1.2 y1 y2 0 1 hf _ _ _ G (lv_sub hl [] rfl)
set_option maxHeartbeats 4000000 in
set_option maxRecDepth 100000 in
theorem wCd_compare_97 {l : Launch} {D : va_G} {h : Nat → Nat} {K : Nat → ClassId} {res : qS} {p : Program} {e : Env} {s : State} {m : MethodId} {args : Array Value} {below : List Frame} {meth : Method} {c : Code} {A : Nat → Prop} {ad : Nat → Nat} (C : qC p s m args meth c qm_Cd_compare_c 5 none qR_Cd ad) (S : qS) (x3 : Int32) (x4 : Int32) (y1 : Int32) (hf : fCd_compare_97 S x3 x4 y1 = some res) : ∀ (H : Heap) (locs : List Loc) (ls : Array Slot), qG D qCl (cT K) A s (cW h K S) H locs → lv_has ls 5 [(3, .int x3), (4, .int x4)] → W p l e ({ frames := 2, cells := 0, slots := 0, locals := 48 }) s m args below meth c H locs 0 0 (MQ below (qQv D qCl (cT K) (cW h K) A res) args s 0 0 A) (F0 m 97 ls [.int y1, .ref (h 5)]) := by
  intro H locs ls G hl
  unfold fCd_compare_97 at hf
  refine lv_iload_n C.1 C.2.1 qm_Cd_compare_97 rfl (lv_at hl 0 rfl) ?_
  refine lv_iload C.1 C.2.1 qm_Cd_compare_98 (lv_at hl 1 rfl) ?_
  refine lv_icmp_ne (tgt := 107) C.1 C.2.1 qm_Cd_compare_100 (by decide) (fun b1 => ?_) (fun b1 => ?_)
  · have hf := if_t b1 hf
    refine lv_iconst (v := 0) C.1 C.2.1 qm_Cd_compare_107 (by decide) ?_
    exact wCd_compare_108 C S x3 x4 y1 0 hf _ _ _ G (lv_sub hl [0, 1] rfl)
  · have hf := if_f (not_not_intro b1) hf
    refine lv_iconst (v := 1) C.1 C.2.1 qm_Cd_compare_103 (by decide) ?_
    refine lv_goto (tgt := 108) C.1 C.2.1 qm_Cd_compare_104 (by decide) ?_
    exact wCd_compare_108 C S x3 x4 y1 1 hf _ _ _ G (lv_sub hl [0, 1] rfl)
set_option maxHeartbeats 4000000 in
set_option maxRecDepth 100000 in
theorem wCd_compare_80 {l : Launch} {D : va_G} {h : Nat → Nat} {K : Nat → ClassId} {res : qS} {p : Program} {e : Env} {s : State} {m : MethodId} {args : Array Value} {below : List Frame} {meth : Method} {c : Code} {A : Nat → Prop} {ad : Nat → Nat} (C : qC p s m args meth c qm_Cd_compare_c 5 none qR_Cd ad) (S : qS) (x3 : Int32) (y0 : Int32) (hf : fCd_compare_80 S x3 y0 = some res) : ∀ (H : Heap) (locs : List Loc) (ls : Array Slot), qG D qCl (cT K) A s (cW h K S) H locs → lv_has ls 5 [(0, .ref (h 16)), (3, .int x3)] → W p l e ({ frames := 2, cells := 0, slots := 0, locals := 48 }) s m args below meth c H locs 0 0 (MQ below (qQv D qCl (cT K) (cW h K) A res) args s 0 0 A) (F0 m 80 ls [.int y0]) := by
  intro H locs ls G hl
  unfold fCd_compare_80 at hf
  refine lv_istore (lv' := [(4, .int y0), (0, .ref (h 16)), (3, .int x3)]) C.1 C.2.1 qm_Cd_compare_80 hl (by decide) rfl (fun ls hl => ?_)
  refine lv_aload_n C.1 C.2.1 qm_Cd_compare_82 rfl (lv_at hl 1 rfl) ?_
  refine q_get (wf := (cW h K)) (v := .ref (h 5)) C G qi_Cd 16 rfl rfl 0 (by decide) qz_218 rfl qm_Cd_compare_83 ?_
  refine lv_iload_n C.1 C.2.1 qm_Cd_compare_86 rfl (lv_at hl 2 rfl) ?_
  refine lv_iload C.1 C.2.1 qm_Cd_compare_87 (lv_at hl 0 rfl) ?_
  refine lv_icmp_ge (tgt := 96) C.1 C.2.1 qm_Cd_compare_89 (by decide) (fun b1 => ?_) (fun b1 => ?_)
  · have hf := if_t b1 hf
    refine lv_iconst (v := 0) C.1 C.2.1 qm_Cd_compare_96 (by decide) ?_
    exact wCd_compare_97 C S x3 y0 0 hf _ _ _ G (lv_sub hl [2, 0] rfl)
  · have hf := if_f b1 hf
    refine lv_iconst (v := 1) C.1 C.2.1 qm_Cd_compare_92 (by decide) ?_
    refine lv_goto (tgt := 97) C.1 C.2.1 qm_Cd_compare_93 (by decide) ?_
    exact wCd_compare_97 C S x3 y0 1 hf _ _ _ G (lv_sub hl [2, 0] rfl)
set_option maxHeartbeats 4000000 in
set_option maxRecDepth 100000 in
theorem wCd_compare_40 {l : Launch} {D : va_G} {h : Nat → Nat} {K : Nat → ClassId} {res : qS} {p : Program} {e : Env} {s : State} {m : MethodId} {args : Array Value} {below : List Frame} {meth : Method} {c : Code} {A : Nat → Prop} {ad : Nat → Nat} (C : qC p s m args meth c qm_Cd_compare_c 5 none qR_Cd ad) (S : qS) (x1 : Int32) (x2 : Int32) (y0 : Int32) (hf : fCd_compare_40 S x1 x2 y0 = some res) : ∀ (H : Heap) (locs : List Loc) (ls : Array Slot), qG D qCl (cT K) A s (cW h K S) H locs → lv_has ls 5 [(0, .ref (h 16)), (1, .int x1), (2, .int x2)] → W p l e ({ frames := 2, cells := 0, slots := 0, locals := 48 }) s m args below meth c H locs 0 0 (MQ below (qQv D qCl (cT K) (cW h K) A res) args s 0 0 A) (F0 m 40 ls [.int y0]) := by
  intro H locs ls G hl
  unfold fCd_compare_40 at hf
  refine lv_istore_n (lv' := [(3, .int y0), (0, .ref (h 16)), (1, .int x1), (2, .int x2)]) C.1 C.2.1 qm_Cd_compare_40 rfl hl (by decide) rfl (fun ls hl => ?_)
  refine lv_iload_n C.1 C.2.1 qm_Cd_compare_41 rfl (lv_at hl 2 rfl) ?_
  refine lv_bipush (v := 23) C.1 C.2.1 qm_Cd_compare_42 (by decide) ?_
  refine lv_icmp_ge (tgt := 58) C.1 C.2.1 qm_Cd_compare_44 (by decide) (fun b1 => ?_) (fun b1 => ?_)
  · have hf := if_t b1 hf
    refine lv_iload_n C.1 C.2.1 qm_Cd_compare_58 rfl (lv_at hl 3 rfl) ?_
    refine lv_if_eq (tgt := 73) C.1 C.2.1 qm_Cd_compare_59 (by decide) (fun b2 => ?_) (fun b2 => ?_)
    · have hf := if_t b2 hf
      refine lv_aload_n C.1 C.2.1 qm_Cd_compare_73 rfl (lv_at hl 1 rfl) ?_
      refine q_get (wf := (cW h K)) (v := .ref (h 13)) C G qi_Cd 16 rfl rfl 2 (by decide) qz_220 rfl qm_Cd_compare_74 ?_
      refine q_getN (host := "QuadMode") (wf := (cW h K)) (v := .int (S.1 18)) C G qi_Op 13 rfl rfl 3 (by decide) (by decide +kernel) rfl qm_Cd_compare_77 ?_
      exact wCd_compare_80 C S y0 (S.1 18) hf _ _ _ G (lv_sub hl [1, 0] rfl)
    · have hf := if_f b2 hf
      refine lv_aload_n C.1 C.2.1 qm_Cd_compare_62 rfl (lv_at hl 1 rfl) ?_
      refine q_get (wf := (cW h K)) (v := .ref (h 13)) C G qi_Cd 16 rfl rfl 2 (by decide) qz_220 rfl qm_Cd_compare_63 ?_
      refine q_getN (host := "QuadMode") (wf := (cW h K)) (v := .int (S.1 18)) C G qi_Op 13 rfl rfl 3 (by decide) (by decide +kernel) rfl qm_Cd_compare_66 ?_
      refine lv_i2b (v := (S.1 18).toInt8.toInt32) C.1 C.2.1 qm_Cd_compare_69 rfl ?_
      refine lv_goto (tgt := 80) C.1 C.2.1 qm_Cd_compare_70 (by decide) ?_
      exact wCd_compare_80 C S y0 ((S.1 18).toInt8.toInt32) hf _ _ _ G (lv_sub hl [1, 0] rfl)
  · have hf := if_f b1 hf
    refine lv_aload_n C.1 C.2.1 qm_Cd_compare_47 rfl (lv_at hl 1 rfl) ?_
    refine q_get (wf := (cW h K)) (v := .ref (h 5)) C G qi_Cd 16 rfl rfl 0 (by decide) qz_218 rfl qm_Cd_compare_48 ?_
    refine lv_iload_n C.1 C.2.1 qm_Cd_compare_51 rfl (lv_at hl 0 rfl) ?_
    refine lv_iconst (v := 0) C.1 C.2.1 qm_Cd_compare_52 (by decide) ?_
    refine lv_iconst (v := 0) C.1 C.2.1 qm_Cd_compare_53 (by decide) ?_
    obtain ⟨S3, c3, hf⟩ := bnd_s hf
    refine q_callVv (wf := (cW h K)) (n := 3) (As := [.int y0, .int 0, .int 0]) (q0 := 5) (ci := 1) C G hl.1 (kCo_conclude (l := l) c3) qx_Cd_183 qm_Co_conclude_d ⟨by decide, by decide⟩ ⟨Nat.le_refl _, Nat.le_refl _⟩ rfl rfl rfl rfl rfl (Nat.le_of_ble_eq_true rfl) qm_Cd_compare_54 (fun H locs G => ?_)
    exact q_vret (wf := (cW h K)) C G hf qm_Cd_compare_57
set_option maxHeartbeats 4000000 in
set_option maxRecDepth 100000 in
theorem wCd_compare_17 {l : Launch} {D : va_G} {h : Nat → Nat} {K : Nat → ClassId} {res : qS} {p : Program} {e : Env} {s : State} {m : MethodId} {args : Array Value} {below : List Frame} {meth : Method} {c : Code} {A : Nat → Prop} {ad : Nat → Nat} (C : qC p s m args meth c qm_Cd_compare_c 5 none qR_Cd ad) (S : qS) (x1 : Int32) (y0 : Int32) (hf : fCd_compare_17 S x1 y0 = some res) : ∀ (H : Heap) (locs : List Loc) (ls : Array Slot), qG D qCl (cT K) A s (cW h K S) H locs → lv_has ls 5 [(0, .ref (h 16)), (1, .int x1)] → W p l e ({ frames := 2, cells := 0, slots := 0, locals := 48 }) s m args below meth c H locs 0 0 (MQ below (qQv D qCl (cT K) (cW h K) A res) args s 0 0 A) (F0 m 17 ls [.int y0]) := by
  intro H locs ls G hl
  unfold fCd_compare_17 at hf
  refine lv_istore_n (lv' := [(2, .int y0), (0, .ref (h 16)), (1, .int x1)]) C.1 C.2.1 qm_Cd_compare_17 rfl hl (by decide) rfl (fun ls hl => ?_)
  refine lv_iload_n C.1 C.2.1 qm_Cd_compare_18 rfl (lv_at hl 0 rfl) ?_
  refine lv_if_eq (tgt := 33) C.1 C.2.1 qm_Cd_compare_19 (by decide) (fun b1 => ?_) (fun b1 => ?_)
  · have hf := if_t b1 hf
    refine lv_aload_n C.1 C.2.1 qm_Cd_compare_33 rfl (lv_at hl 1 rfl) ?_
    refine q_get (wf := (cW h K)) (v := .ref (h 12)) C G qi_Cd 16 rfl rfl 1 (by decide) qz_219 rfl qm_Cd_compare_34 ?_
    refine q_getN (host := "QuadMode") (wf := (cW h K)) (v := .int (S.1 14)) C G qi_Op 12 rfl rfl 3 (by decide) (by decide +kernel) rfl qm_Cd_compare_37 ?_
    exact wCd_compare_40 C S x1 y0 (S.1 14) hf _ _ _ G (lv_sub hl [1, 2, 0] rfl)
  · have hf := if_f b1 hf
    refine lv_aload_n C.1 C.2.1 qm_Cd_compare_22 rfl (lv_at hl 1 rfl) ?_
    refine q_get (wf := (cW h K)) (v := .ref (h 12)) C G qi_Cd 16 rfl rfl 1 (by decide) qz_219 rfl qm_Cd_compare_23 ?_
    refine q_getN (host := "QuadMode") (wf := (cW h K)) (v := .int (S.1 14)) C G qi_Op 12 rfl rfl 3 (by decide) (by decide +kernel) rfl qm_Cd_compare_26 ?_
    refine lv_i2b (v := (S.1 14).toInt8.toInt32) C.1 C.2.1 qm_Cd_compare_29 rfl ?_
    refine lv_goto (tgt := 40) C.1 C.2.1 qm_Cd_compare_30 (by decide) ?_
    exact wCd_compare_40 C S x1 y0 ((S.1 14).toInt8.toInt32) hf _ _ _ G (lv_sub hl [1, 2, 0] rfl)
set_option maxHeartbeats 4000000 in
set_option maxRecDepth 100000 in
theorem wCd_compare_12 {l : Launch} {D : va_G} {h : Nat → Nat} {K : Nat → ClassId} {res : qS} {p : Program} {e : Env} {s : State} {m : MethodId} {args : Array Value} {below : List Frame} {meth : Method} {c : Code} {A : Nat → Prop} {ad : Nat → Nat} (C : qC p s m args meth c qm_Cd_compare_c 5 none qR_Cd ad) (S : qS) (x1 : Int32) (hf : fCd_compare_12 S x1 = some res) : ∀ (H : Heap) (locs : List Loc) (ls : Array Slot), qG D qCl (cT K) A s (cW h K S) H locs → lv_has ls 5 [(0, .ref (h 16)), (1, .int x1)] → W p l e ({ frames := 2, cells := 0, slots := 0, locals := 48 }) s m args below meth c H locs 0 0 (MQ below (qQv D qCl (cT K) (cW h K) A res) args s 0 0 A) (F0 m 12 ls []) := by
  intro H locs ls G hl
  unfold fCd_compare_12 at hf
  refine lv_iconst (v := 1) C.1 C.2.1 qm_Cd_compare_12 (by decide) ?_
  refine lv_goto (tgt := 17) C.1 C.2.1 qm_Cd_compare_13 (by decide) ?_
  exact wCd_compare_17 C S x1 1 hf _ _ _ G (lv_sub hl [0, 1] rfl)
set_option maxHeartbeats 4000000 in
set_option maxRecDepth 100000 in
theorem wCd_compare {l : Launch} {D : va_G} {h : Nat → Nat} {K : Nat → ClassId} {res : qS} {p : Program} {e : Env} {s : State} {m : MethodId} {args : Array Value} {below : List Frame} {meth : Method} {c : Code} {A : Nat → Prop} {ad : Nat → Nat} (C : qC p s m args meth c qm_Cd_compare_c 5 none qR_Cd ad) (S : qS) (a1 : Int32) (hf : fCd_compare S a1 = some res) : ∀ (H : Heap) (locs : List Loc) (ls : Array Slot), qG D qCl (cT K) A s (cW h K S) H locs → lv_has ls 5 [(0, .ref (h 16)), (1, .int a1)] → W p l e ({ frames := 2, cells := 0, slots := 0, locals := 48 }) s m args below meth c H locs 0 0 (MQ below (qQv D qCl (cT K) (cW h K) A res) args s 0 0 A) (F0 m 0 ls []) := by
  intro H locs ls G hl
  unfold fCd_compare at hf
  refine lv_iload_n C.1 C.2.1 qm_Cd_compare_0 rfl (lv_at hl 1 rfl) ?_
  refine lv_bipush (v := 22) C.1 C.2.1 qm_Cd_compare_1 (by decide) ?_
  refine lv_icmp_eq (tgt := 12) C.1 C.2.1 qm_Cd_compare_3 (by decide) (fun b1 => ?_) (fun b1 => ?_)
  · have hf := if_t b1 hf
    exact wCd_compare_12 C S a1 hf _ _ _ G (lv_sub hl [0, 1] rfl)
  · have hf := if_f b1 hf
    refine lv_iload_n C.1 C.2.1 qm_Cd_compare_6 rfl (lv_at hl 1 rfl) ?_
    refine lv_bipush (v := 24) C.1 C.2.1 qm_Cd_compare_7 (by decide) ?_
    refine lv_icmp_ne (tgt := 16) C.1 C.2.1 qm_Cd_compare_9 (by decide) (fun b2 => ?_) (fun b2 => ?_)
    · have hf := if_t b2 hf
      refine lv_iconst (v := 0) C.1 C.2.1 qm_Cd_compare_16 (by decide) ?_
      exact wCd_compare_17 C S a1 0 hf _ _ _ G (lv_sub hl [0, 1] rfl)
    · have hf := if_f (not_not_intro b2) hf
      exact wCd_compare_12 C S a1 hf _ _ _ G (lv_sub hl [0, 1] rfl)
theorem kCd_compare {l : Launch} {ad : Nat → Nat} {D : va_G} {h : Nat → Nat} {K : Nat → ClassId} {res : qS} {S : qS} {a1 : Int32} (hf : fCd_compare S a1 = some res) : qMv l qm_Cd_compare qm_Cd_compare_c 5 2 48 D qCl (cT K) ad (cW h K) [.ref (h 16), .int a1] S res := qMv_of (by decide) (Nat.le_of_ble_eq_true rfl) (fun _ _ _ _ _ _ _ _ _ _ C G hl => wCd_compare C S a1 hf _ _ _ G hl)
set_option maxHeartbeats 4000000 in
set_option maxRecDepth 100000 in
theorem wCd_add_50 {l : Launch} {D : va_G} {h : Nat → Nat} {K : Nat → ClassId} {res : Int32 × qS} {p : Program} {e : Env} {s : State} {m : MethodId} {args : Array Value} {below : List Frame} {meth : Method} {c : Code} {A : Nat → Prop} {ad : Nat → Nat} (C : qC p s m args meth c qm_Cd_add_c 5 (some .int) qR_Cd ad) (S : qS) (x3 : Int64) (y1 : Int32) (y2 : Int32) (y3 : Int32) (hf : fCd_add_50 S x3 y1 y2 y3 = some res) : ∀ (H : Heap) (locs : List Loc) (ls : Array Slot), qG D qCl (cT K) A s (cW h K S) H locs → lv_has ls 5 [(3, .long x3)] → W p l e ({ frames := 2, cells := 0, slots := 0, locals := 48 }) s m args below meth c H locs 0 0 (MQ below (qQi D qCl (cT K) (cW h K) A res) args s 0 0 A) (F0 m 50 ls [.int y3, .int y2, .int y1, .ref (h 5)]) := by
  intro H locs ls G hl
  unfold fCd_add_50 at hf
  obtain ⟨S1, c1, hf⟩ := bnd_s hf
  refine q_callVv (wf := (cW h K)) (n := 3) (As := [.int y1, .int y2, .int y3]) (q0 := 5) (ci := 1) C G hl.1 (kCo_conclude (l := l) c1) qx_Cd_183 qm_Co_conclude_d ⟨by decide, by decide⟩ ⟨Nat.le_refl _, Nat.le_refl _⟩ rfl rfl rfl rfl rfl (Nat.le_of_ble_eq_true rfl) qm_Cd_add_50 (fun H locs G => ?_)
  refine lv_lload_n C.1 C.2.1 qm_Cd_add_53 rfl (lv_at hl 0 rfl) ?_
  refine lv_l2i (v := x3.toInt32) C.1 C.2.1 qm_Cd_add_54 rfl ?_
  exact q_iret (wf := (cW h K)) C G hf qm_Cd_add_55
set_option maxHeartbeats 4000000 in
set_option maxRecDepth 100000 in
theorem wCd_add_25 {l : Launch} {D : va_G} {h : Nat → Nat} {K : Nat → ClassId} {res : Int32 × qS} {p : Program} {e : Env} {s : State} {m : MethodId} {args : Array Value} {below : List Frame} {meth : Method} {c : Code} {A : Nat → Prop} {ad : Nat → Nat} (C : qC p s m args meth c qm_Cd_add_c 5 (some .int) qR_Cd ad) (S : qS) (x1 : Int32) (x2 : Int32) (x3 : Int64) (y1 : Int32) (y2 : Int32) (hf : fCd_add_25 S x1 x2 x3 y1 y2 = some res) : ∀ (H : Heap) (locs : List Loc) (ls : Array Slot), qG D qCl (cT K) A s (cW h K S) H locs → lv_has ls 5 [(1, .int x1), (2, .int x2), (3, .long x3)] → W p l e ({ frames := 2, cells := 0, slots := 0, locals := 48 }) s m args below meth c H locs 0 0 (MQ below (qQi D qCl (cT K) (cW h K) A res) args s 0 0 A) (F0 m 25 ls [.int y2, .int y1, .ref (h 5)]) := by
  intro H locs ls G hl
  unfold fCd_add_25 at hf
  refine lv_iload_n C.1 C.2.1 qm_Cd_add_25 rfl (lv_at hl 0 rfl) ?_
  refine lv_i2l (v := x1.toInt64) C.1 C.2.1 qm_Cd_add_26 rfl ?_
  refine lv_ldc2 (own := "QuadMode$Codes") (v := 4294967295) C.1 C.2.1 C.2.2.2.1 (C.2.2.2.2.1 _ qz_756) qm_Cd_add_27 ?_
  refine lv_land C.1 C.2.1 qm_Cd_add_30 ?_
  refine lv_iload_n C.1 C.2.1 qm_Cd_add_31 rfl (lv_at hl 1 rfl) ?_
  refine lv_i2l (v := x2.toInt64) C.1 C.2.1 qm_Cd_add_32 rfl ?_
  refine lv_ldc2 (own := "QuadMode$Codes") (v := 4294967295) C.1 C.2.1 C.2.2.2.1 (C.2.2.2.2.1 _ qz_756) qm_Cd_add_33 ?_
  refine lv_land C.1 C.2.1 qm_Cd_add_36 ?_
  refine lv_ladd C.1 C.2.1 qm_Cd_add_37 ?_
  refine lv_ldc2 (own := "QuadMode$Codes") (v := 4294967295) C.1 C.2.1 C.2.2.2.1 (C.2.2.2.2.1 _ qz_756) qm_Cd_add_38 ?_
  refine W.lcmp C.1 C.2.1 qm_Cd_add_41 ?_
  refine lv_if_le (tgt := 49) C.1 C.2.1 qm_Cd_add_42 (by decide) (fun b1 => ?_) (fun b1 => ?_)
  · have hf := if_t b1 hf
    refine lv_iconst (v := 0) C.1 C.2.1 qm_Cd_add_49 (by decide) ?_
    exact wCd_add_50 C S x3 y1 y2 0 hf _ _ _ G (lv_sub hl [2] rfl)
  · have hf := if_f b1 hf
    refine lv_iconst (v := 1) C.1 C.2.1 qm_Cd_add_45 (by decide) ?_
    refine lv_goto (tgt := 50) C.1 C.2.1 qm_Cd_add_46 (by decide) ?_
    exact wCd_add_50 C S x3 y1 y2 1 hf _ _ _ G (lv_sub hl [2] rfl)
set_option maxHeartbeats 4000000 in
set_option maxRecDepth 100000 in
theorem wCd_add {l : Launch} {D : va_G} {h : Nat → Nat} {K : Nat → ClassId} {res : Int32 × qS} {p : Program} {e : Env} {s : State} {m : MethodId} {args : Array Value} {below : List Frame} {meth : Method} {c : Code} {A : Nat → Prop} {ad : Nat → Nat} (C : qC p s m args meth c qm_Cd_add_c 5 (some .int) qR_Cd ad) (S : qS) (a1 : Int32) (a2 : Int32) (hf : fCd_add S a1 a2 = some res) : ∀ (H : Heap) (locs : List Loc) (ls : Array Slot), qG D qCl (cT K) A s (cW h K S) H locs → lv_has ls 5 [(0, .ref (h 16)), (1, .int a1), (2, .int a2)] → W p l e ({ frames := 2, cells := 0, slots := 0, locals := 48 }) s m args below meth c H locs 0 0 (MQ below (qQi D qCl (cT K) (cW h K) A res) args s 0 0 A) (F0 m 0 ls []) := by
  intro H locs ls G hl
  unfold fCd_add at hf
  refine lv_iload_n C.1 C.2.1 qm_Cd_add_0 rfl (lv_at hl 1 rfl) ?_
  refine lv_i2l (v := a1.toInt64) C.1 C.2.1 qm_Cd_add_1 rfl ?_
  refine lv_iload_n C.1 C.2.1 qm_Cd_add_2 rfl (lv_at hl 2 rfl) ?_
  refine lv_i2l (v := a2.toInt64) C.1 C.2.1 qm_Cd_add_3 rfl ?_
  refine lv_ladd C.1 C.2.1 qm_Cd_add_4 ?_
  refine lv_lstore_n (lv' := [(3, .long (a1.toInt64 + a2.toInt64)), (0, .ref (h 16)), (1, .int a1), (2, .int a2)]) C.1 C.2.1 qm_Cd_add_5 rfl hl (by decide) rfl (fun ls hl => ?_)
  refine lv_aload_n C.1 C.2.1 qm_Cd_add_6 rfl (lv_at hl 1 rfl) ?_
  refine q_get (wf := (cW h K)) (v := .ref (h 5)) C G qi_Cd 16 rfl rfl 0 (by decide) qz_218 rfl qm_Cd_add_7 ?_
  refine lv_lload_n C.1 C.2.1 qm_Cd_add_10 rfl (lv_at hl 0 rfl) ?_
  refine lv_l2i (v := (a1.toInt64 + a2.toInt64).toInt32) C.1 C.2.1 qm_Cd_add_11 rfl ?_
  refine lv_lload_n C.1 C.2.1 qm_Cd_add_12 rfl (lv_at hl 0 rfl) ?_
  refine lv_lload_n C.1 C.2.1 qm_Cd_add_13 rfl (lv_at hl 0 rfl) ?_
  refine lv_l2i (v := (a1.toInt64 + a2.toInt64).toInt32) C.1 C.2.1 qm_Cd_add_14 rfl ?_
  refine lv_i2l (v := ((a1.toInt64 + a2.toInt64).toInt32).toInt64) C.1 C.2.1 qm_Cd_add_15 rfl ?_
  refine W.lcmp C.1 C.2.1 qm_Cd_add_16 ?_
  refine lv_if_eq (tgt := 24) C.1 C.2.1 qm_Cd_add_17 (by decide) (fun b1 => ?_) (fun b1 => ?_)
  · have hf := if_t b1 hf
    refine lv_iconst (v := 0) C.1 C.2.1 qm_Cd_add_24 (by decide) ?_
    exact wCd_add_25 C S a1 a2 (a1.toInt64 + a2.toInt64) ((a1.toInt64 + a2.toInt64).toInt32) 0 hf _ _ _ G (lv_sub hl [2, 3, 0] rfl)
  · have hf := if_f b1 hf
    refine lv_iconst (v := 1) C.1 C.2.1 qm_Cd_add_20 (by decide) ?_
    refine lv_goto (tgt := 25) C.1 C.2.1 qm_Cd_add_21 (by decide) ?_
    exact wCd_add_25 C S a1 a2 (a1.toInt64 + a2.toInt64) ((a1.toInt64 + a2.toInt64).toInt32) 1 hf _ _ _ G (lv_sub hl [2, 3, 0] rfl)
theorem kCd_add {l : Launch} {ad : Nat → Nat} {D : va_G} {h : Nat → Nat} {K : Nat → ClassId} {res : Int32 × qS} {S : qS} {a1 : Int32} {a2 : Int32} (hf : fCd_add S a1 a2 = some res) : qMi l qm_Cd_add qm_Cd_add_c 5 .int 2 48 D qCl (cT K) ad (cW h K) [.ref (h 16), .int a1, .int a2] S res := qMi_of (by decide) (Nat.le_of_ble_eq_true rfl) (fun _ _ _ _ _ _ _ _ _ _ C G hl => wCd_add C S a1 a2 hf _ _ _ G hl)
set_option maxHeartbeats 4000000 in
set_option maxRecDepth 100000 in
theorem wCd_subtract_38 {l : Launch} {D : va_G} {h : Nat → Nat} {K : Nat → ClassId} {res : Int32 × qS} {p : Program} {e : Env} {s : State} {m : MethodId} {args : Array Value} {below : List Frame} {meth : Method} {c : Code} {A : Nat → Prop} {ad : Nat → Nat} (C : qC p s m args meth c qm_Cd_subtract_c 5 (some .int) qR_Cd ad) (S : qS) (x3 : Int64) (y1 : Int32) (y2 : Int32) (y3 : Int32) (hf : fCd_subtract_38 S x3 y1 y2 y3 = some res) : ∀ (H : Heap) (locs : List Loc) (ls : Array Slot), qG D qCl (cT K) A s (cW h K S) H locs → lv_has ls 5 [(3, .long x3)] → W p l e ({ frames := 2, cells := 0, slots := 0, locals := 48 }) s m args below meth c H locs 0 0 (MQ below (qQi D qCl (cT K) (cW h K) A res) args s 0 0 A) (F0 m 38 ls [.int y3, .int y2, .int y1, .ref (h 5)]) := by
  intro H locs ls G hl
  unfold fCd_subtract_38 at hf
  obtain ⟨S1, c1, hf⟩ := bnd_s hf
  refine q_callVv (wf := (cW h K)) (n := 3) (As := [.int y1, .int y2, .int y3]) (q0 := 5) (ci := 1) C G hl.1 (kCo_conclude (l := l) c1) qx_Cd_183 qm_Co_conclude_d ⟨by decide, by decide⟩ ⟨Nat.le_refl _, Nat.le_refl _⟩ rfl rfl rfl rfl rfl (Nat.le_of_ble_eq_true rfl) qm_Cd_subtract_38 (fun H locs G => ?_)
  refine lv_lload_n C.1 C.2.1 qm_Cd_subtract_41 rfl (lv_at hl 0 rfl) ?_
  refine lv_l2i (v := x3.toInt32) C.1 C.2.1 qm_Cd_subtract_42 rfl ?_
  exact q_iret (wf := (cW h K)) C G hf qm_Cd_subtract_43
set_option maxHeartbeats 4000000 in
set_option maxRecDepth 100000 in
theorem wCd_subtract_25 {l : Launch} {D : va_G} {h : Nat → Nat} {K : Nat → ClassId} {res : Int32 × qS} {p : Program} {e : Env} {s : State} {m : MethodId} {args : Array Value} {below : List Frame} {meth : Method} {c : Code} {A : Nat → Prop} {ad : Nat → Nat} (C : qC p s m args meth c qm_Cd_subtract_c 5 (some .int) qR_Cd ad) (S : qS) (x1 : Int32) (x2 : Int32) (x3 : Int64) (y1 : Int32) (y2 : Int32) (hf : fCd_subtract_25 S x1 x2 x3 y1 y2 = some res) : ∀ (H : Heap) (locs : List Loc) (ls : Array Slot), qG D qCl (cT K) A s (cW h K S) H locs → lv_has ls 5 [(1, .int x1), (2, .int x2), (3, .long x3)] → W p l e ({ frames := 2, cells := 0, slots := 0, locals := 48 }) s m args below meth c H locs 0 0 (MQ below (qQi D qCl (cT K) (cW h K) A res) args s 0 0 A) (F0 m 25 ls [.int y2, .int y1, .ref (h 5)]) := by
  intro H locs ls G hl
  unfold fCd_subtract_25 at hf
  refine lv_iload_n C.1 C.2.1 qm_Cd_subtract_25 rfl (lv_at hl 0 rfl) ?_
  refine lv_iload_n C.1 C.2.1 qm_Cd_subtract_26 rfl (lv_at hl 1 rfl) ?_
  obtain ⟨q1, c1, hf⟩ := bnd_s hf
  refine q_callSi (wf := (cW h K)) (n := 2) (As := [.int x1, .int x2]) C G hl.1 (kJI_compareUnsigned (l := l) c1) qx_Cd_194 qm_JI_compareUnsigned_d ⟨by decide, by decide⟩ ⟨Nat.le_refl _, Nat.le_refl _⟩ rfl rfl (Nat.le_of_ble_eq_true rfl) qm_Cd_subtract_27 (fun H locs G => ?_)
  refine lv_if_ge (tgt := 37) C.1 C.2.1 qm_Cd_subtract_30 (by decide) (fun b2 => ?_) (fun b2 => ?_)
  · have hf := if_t b2 hf
    refine lv_iconst (v := 0) C.1 C.2.1 qm_Cd_subtract_37 (by decide) ?_
    exact wCd_subtract_38 C q1.2 x3 y1 y2 0 hf _ _ _ G (lv_sub hl [2] rfl)
  · have hf := if_f b2 hf
    refine lv_iconst (v := 1) C.1 C.2.1 qm_Cd_subtract_33 (by decide) ?_
    refine lv_goto (tgt := 38) C.1 C.2.1 qm_Cd_subtract_34 (by decide) ?_
    exact wCd_subtract_38 C q1.2 x3 y1 y2 1 hf _ _ _ G (lv_sub hl [2] rfl)
set_option maxHeartbeats 4000000 in
set_option maxRecDepth 100000 in
theorem wCd_subtract {l : Launch} {D : va_G} {h : Nat → Nat} {K : Nat → ClassId} {res : Int32 × qS} {p : Program} {e : Env} {s : State} {m : MethodId} {args : Array Value} {below : List Frame} {meth : Method} {c : Code} {A : Nat → Prop} {ad : Nat → Nat} (C : qC p s m args meth c qm_Cd_subtract_c 5 (some .int) qR_Cd ad) (S : qS) (a1 : Int32) (a2 : Int32) (hf : fCd_subtract S a1 a2 = some res) : ∀ (H : Heap) (locs : List Loc) (ls : Array Slot), qG D qCl (cT K) A s (cW h K S) H locs → lv_has ls 5 [(0, .ref (h 16)), (1, .int a1), (2, .int a2)] → W p l e ({ frames := 2, cells := 0, slots := 0, locals := 48 }) s m args below meth c H locs 0 0 (MQ below (qQi D qCl (cT K) (cW h K) A res) args s 0 0 A) (F0 m 0 ls []) := by
  intro H locs ls G hl
  unfold fCd_subtract at hf
  refine lv_iload_n C.1 C.2.1 qm_Cd_subtract_0 rfl (lv_at hl 1 rfl) ?_
  refine lv_i2l (v := a1.toInt64) C.1 C.2.1 qm_Cd_subtract_1 rfl ?_
  refine lv_iload_n C.1 C.2.1 qm_Cd_subtract_2 rfl (lv_at hl 2 rfl) ?_
  refine lv_i2l (v := a2.toInt64) C.1 C.2.1 qm_Cd_subtract_3 rfl ?_
  refine lv_lsub C.1 C.2.1 qm_Cd_subtract_4 ?_
  refine lv_lstore_n (lv' := [(3, .long (a1.toInt64 - a2.toInt64)), (0, .ref (h 16)), (1, .int a1), (2, .int a2)]) C.1 C.2.1 qm_Cd_subtract_5 rfl hl (by decide) rfl (fun ls hl => ?_)
  refine lv_aload_n C.1 C.2.1 qm_Cd_subtract_6 rfl (lv_at hl 1 rfl) ?_
  refine q_get (wf := (cW h K)) (v := .ref (h 5)) C G qi_Cd 16 rfl rfl 0 (by decide) qz_218 rfl qm_Cd_subtract_7 ?_
  refine lv_lload_n C.1 C.2.1 qm_Cd_subtract_10 rfl (lv_at hl 0 rfl) ?_
  refine lv_l2i (v := (a1.toInt64 - a2.toInt64).toInt32) C.1 C.2.1 qm_Cd_subtract_11 rfl ?_
  refine lv_lload_n C.1 C.2.1 qm_Cd_subtract_12 rfl (lv_at hl 0 rfl) ?_
  refine lv_lload_n C.1 C.2.1 qm_Cd_subtract_13 rfl (lv_at hl 0 rfl) ?_
  refine lv_l2i (v := (a1.toInt64 - a2.toInt64).toInt32) C.1 C.2.1 qm_Cd_subtract_14 rfl ?_
  refine lv_i2l (v := ((a1.toInt64 - a2.toInt64).toInt32).toInt64) C.1 C.2.1 qm_Cd_subtract_15 rfl ?_
  refine W.lcmp C.1 C.2.1 qm_Cd_subtract_16 ?_
  refine lv_if_eq (tgt := 24) C.1 C.2.1 qm_Cd_subtract_17 (by decide) (fun b1 => ?_) (fun b1 => ?_)
  · have hf := if_t b1 hf
    refine lv_iconst (v := 0) C.1 C.2.1 qm_Cd_subtract_24 (by decide) ?_
    exact wCd_subtract_25 C S a1 a2 (a1.toInt64 - a2.toInt64) ((a1.toInt64 - a2.toInt64).toInt32) 0 hf _ _ _ G (lv_sub hl [2, 3, 0] rfl)
  · have hf := if_f b1 hf
    refine lv_iconst (v := 1) C.1 C.2.1 qm_Cd_subtract_20 (by decide) ?_
    refine lv_goto (tgt := 25) C.1 C.2.1 qm_Cd_subtract_21 (by decide) ?_
    exact wCd_subtract_25 C S a1 a2 (a1.toInt64 - a2.toInt64) ((a1.toInt64 - a2.toInt64).toInt32) 1 hf _ _ _ G (lv_sub hl [2, 3, 0] rfl)
theorem kCd_subtract {l : Launch} {ad : Nat → Nat} {D : va_G} {h : Nat → Nat} {K : Nat → ClassId} {res : Int32 × qS} {S : qS} {a1 : Int32} {a2 : Int32} (hf : fCd_subtract S a1 a2 = some res) : qMi l qm_Cd_subtract qm_Cd_subtract_c 5 .int 2 48 D qCl (cT K) ad (cW h K) [.ref (h 16), .int a1, .int a2] S res := qMi_of (by decide) (Nat.le_of_ble_eq_true rfl) (fun _ _ _ _ _ _ _ _ _ _ C G hl => wCd_subtract C S a1 a2 hf _ _ _ G hl)
set_option maxHeartbeats 4000000 in
set_option maxRecDepth 100000 in
theorem wCd_multiply_25 {l : Launch} {D : va_G} {h : Nat → Nat} {K : Nat → ClassId} {res : Int32 × qS} {p : Program} {e : Env} {s : State} {m : MethodId} {args : Array Value} {below : List Frame} {meth : Method} {c : Code} {A : Nat → Prop} {ad : Nat → Nat} (C : qC p s m args meth c qm_Cd_multiply_c 5 (some .int) qR_Cd ad) (S : qS) (x3 : Int64) (y1 : Int32) (y2 : Int32) (hf : fCd_multiply_25 S x3 y1 y2 = some res) : ∀ (H : Heap) (locs : List Loc) (ls : Array Slot), qG D qCl (cT K) A s (cW h K S) H locs → lv_has ls 5 [(3, .long x3)] → W p l e ({ frames := 2, cells := 0, slots := 0, locals := 48 }) s m args below meth c H locs 0 0 (MQ below (qQi D qCl (cT K) (cW h K) A res) args s 0 0 A) (F0 m 25 ls [.int y2, .int y1, .ref (h 5)]) := by
  intro H locs ls G hl
  unfold fCd_multiply_25 at hf
  refine lv_iconst (v := 0) C.1 C.2.1 qm_Cd_multiply_25 (by decide) ?_
  obtain ⟨S1, c1, hf⟩ := bnd_s hf
  refine q_callVv (wf := (cW h K)) (n := 3) (As := [.int y1, .int y2, .int 0]) (q0 := 5) (ci := 1) C G hl.1 (kCo_conclude (l := l) c1) qx_Cd_183 qm_Co_conclude_d ⟨by decide, by decide⟩ ⟨Nat.le_refl _, Nat.le_refl _⟩ rfl rfl rfl rfl rfl (Nat.le_of_ble_eq_true rfl) qm_Cd_multiply_26 (fun H locs G => ?_)
  refine lv_lload_n C.1 C.2.1 qm_Cd_multiply_29 rfl (lv_at hl 0 rfl) ?_
  refine lv_l2i (v := x3.toInt32) C.1 C.2.1 qm_Cd_multiply_30 rfl ?_
  exact q_iret (wf := (cW h K)) C G hf qm_Cd_multiply_31
set_option maxHeartbeats 4000000 in
set_option maxRecDepth 100000 in
theorem wCd_multiply {l : Launch} {D : va_G} {h : Nat → Nat} {K : Nat → ClassId} {res : Int32 × qS} {p : Program} {e : Env} {s : State} {m : MethodId} {args : Array Value} {below : List Frame} {meth : Method} {c : Code} {A : Nat → Prop} {ad : Nat → Nat} (C : qC p s m args meth c qm_Cd_multiply_c 5 (some .int) qR_Cd ad) (S : qS) (a1 : Int32) (a2 : Int32) (hf : fCd_multiply S a1 a2 = some res) : ∀ (H : Heap) (locs : List Loc) (ls : Array Slot), qG D qCl (cT K) A s (cW h K S) H locs → lv_has ls 5 [(0, .ref (h 16)), (1, .int a1), (2, .int a2)] → W p l e ({ frames := 2, cells := 0, slots := 0, locals := 48 }) s m args below meth c H locs 0 0 (MQ below (qQi D qCl (cT K) (cW h K) A res) args s 0 0 A) (F0 m 0 ls []) := by
  intro H locs ls G hl
  unfold fCd_multiply at hf
  refine lv_iload_n C.1 C.2.1 qm_Cd_multiply_0 rfl (lv_at hl 1 rfl) ?_
  refine lv_i2l (v := a1.toInt64) C.1 C.2.1 qm_Cd_multiply_1 rfl ?_
  refine lv_iload_n C.1 C.2.1 qm_Cd_multiply_2 rfl (lv_at hl 2 rfl) ?_
  refine lv_i2l (v := a2.toInt64) C.1 C.2.1 qm_Cd_multiply_3 rfl ?_
  refine lv_lmul C.1 C.2.1 qm_Cd_multiply_4 ?_
  refine lv_lstore_n (lv' := [(3, .long (a1.toInt64 * a2.toInt64)), (0, .ref (h 16)), (1, .int a1), (2, .int a2)]) C.1 C.2.1 qm_Cd_multiply_5 rfl hl (by decide) rfl (fun ls hl => ?_)
  refine lv_aload_n C.1 C.2.1 qm_Cd_multiply_6 rfl (lv_at hl 1 rfl) ?_
  refine q_get (wf := (cW h K)) (v := .ref (h 5)) C G qi_Cd 16 rfl rfl 0 (by decide) qz_218 rfl qm_Cd_multiply_7 ?_
  refine lv_lload_n C.1 C.2.1 qm_Cd_multiply_10 rfl (lv_at hl 0 rfl) ?_
  refine lv_l2i (v := (a1.toInt64 * a2.toInt64).toInt32) C.1 C.2.1 qm_Cd_multiply_11 rfl ?_
  refine lv_lload_n C.1 C.2.1 qm_Cd_multiply_12 rfl (lv_at hl 0 rfl) ?_
  refine lv_lload_n C.1 C.2.1 qm_Cd_multiply_13 rfl (lv_at hl 0 rfl) ?_
  refine lv_l2i (v := (a1.toInt64 * a2.toInt64).toInt32) C.1 C.2.1 qm_Cd_multiply_14 rfl ?_
  refine lv_i2l (v := ((a1.toInt64 * a2.toInt64).toInt32).toInt64) C.1 C.2.1 qm_Cd_multiply_15 rfl ?_
  refine W.lcmp C.1 C.2.1 qm_Cd_multiply_16 ?_
  refine lv_if_eq (tgt := 24) C.1 C.2.1 qm_Cd_multiply_17 (by decide) (fun b1 => ?_) (fun b1 => ?_)
  · have hf := if_t b1 hf
    refine lv_iconst (v := 0) C.1 C.2.1 qm_Cd_multiply_24 (by decide) ?_
    exact wCd_multiply_25 C S (a1.toInt64 * a2.toInt64) ((a1.toInt64 * a2.toInt64).toInt32) 0 hf _ _ _ G (lv_sub hl [0] rfl)
  · have hf := if_f b1 hf
    refine lv_iconst (v := 1) C.1 C.2.1 qm_Cd_multiply_20 (by decide) ?_
    refine lv_goto (tgt := 25) C.1 C.2.1 qm_Cd_multiply_21 (by decide) ?_
    exact wCd_multiply_25 C S (a1.toInt64 * a2.toInt64) ((a1.toInt64 * a2.toInt64).toInt32) 1 hf _ _ _ G (lv_sub hl [0] rfl)
theorem kCd_multiply {l : Launch} {ad : Nat → Nat} {D : va_G} {h : Nat → Nat} {K : Nat → ClassId} {res : Int32 × qS} {S : qS} {a1 : Int32} {a2 : Int32} (hf : fCd_multiply S a1 a2 = some res) : qMi l qm_Cd_multiply qm_Cd_multiply_c 5 .int 2 48 D qCl (cT K) ad (cW h K) [.ref (h 16), .int a1, .int a2] S res := qMi_of (by decide) (Nat.le_of_ble_eq_true rfl) (fun _ _ _ _ _ _ _ _ _ _ C G hl => wCd_multiply C S a1 a2 hf _ _ _ G hl)
