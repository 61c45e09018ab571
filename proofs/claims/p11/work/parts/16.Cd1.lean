theorem qm_Cd_isAllowed_0 : decode qm_Cd_isAllowed_c 0 = .ok (.iload_n 1, 1) := by decide +kernel
theorem qm_Cd_isAllowed_1 : decode qm_Cd_isAllowed_c 1 = .ok (.ifCond .eq 15, 3) := by decide +kernel
theorem qm_Cd_isAllowed_4 : decode qm_Cd_isAllowed_c 4 = .ok (.iload_n 1, 1) := by decide +kernel
theorem qm_Cd_isAllowed_5 : decode qm_Cd_isAllowed_c 5 = .ok (.bipush 10, 2) := by decide +kernel
theorem qm_Cd_isAllowed_7 : decode qm_Cd_isAllowed_c 7 = .ok (.if_icmp .eq 9, 3) := by decide +kernel
theorem qm_Cd_isAllowed_10 : decode qm_Cd_isAllowed_c 10 = .ok (.iload_n 1, 1) := by decide +kernel
theorem qm_Cd_isAllowed_11 : decode qm_Cd_isAllowed_c 11 = .ok (.bipush 11, 2) := by decide +kernel
theorem qm_Cd_isAllowed_13 : decode qm_Cd_isAllowed_c 13 = .ok (.if_icmp .ne 7, 3) := by decide +kernel
theorem qm_Cd_isAllowed_16 : decode qm_Cd_isAllowed_c 16 = .ok (.iconst 1, 1) := by decide +kernel
theorem qm_Cd_isAllowed_17 : decode qm_Cd_isAllowed_c 17 = .ok (.goto 4, 3) := by decide +kernel
theorem qm_Cd_isAllowed_20 : decode qm_Cd_isAllowed_c 20 = .ok (.iconst 0, 1) := by decide +kernel
theorem qm_Cd_isAllowed_21 : decode qm_Cd_isAllowed_c 21 = .ok (.istore_n 2, 1) := by decide +kernel
theorem qm_Cd_isAllowed_22 : decode qm_Cd_isAllowed_c 22 = .ok (.iload_n 1, 1) := by decide +kernel
theorem qm_Cd_isAllowed_23 : decode qm_Cd_isAllowed_c 23 = .ok (.bipush 70, 2) := by decide +kernel
theorem qm_Cd_isAllowed_25 : decode qm_Cd_isAllowed_c 25 = .ok (.if_icmp .gt 21, 3) := by decide +kernel
theorem qm_Cd_isAllowed_28 : decode qm_Cd_isAllowed_c 28 = .ok (.iload_n 2, 1) := by decide +kernel
theorem qm_Cd_isAllowed_29 : decode qm_Cd_isAllowed_c 29 = .ok (.ifCond .eq 13, 3) := by decide +kernel
theorem qm_Cd_isAllowed_32 : decode qm_Cd_isAllowed_c 32 = .ok (.aload_n 0, 1) := by decide +kernel
theorem qm_Cd_isAllowed_33 : decode qm_Cd_isAllowed_c 33 = .ok (.getfield 9, 3) := by decide +kernel
theorem qm_Cd_isAllowed_36 : decode qm_Cd_isAllowed_c 36 = .ok (.invokevirtual 25, 3) := by decide +kernel
theorem qm_Cd_isAllowed_39 : decode qm_Cd_isAllowed_c 39 = .ok (.ifCond .ne 7, 3) := by decide +kernel
theorem qm_Cd_isAllowed_42 : decode qm_Cd_isAllowed_c 42 = .ok (.iconst 1, 1) := by decide +kernel
theorem qm_Cd_isAllowed_43 : decode qm_Cd_isAllowed_c 43 = .ok (.goto 4, 3) := by decide +kernel
theorem qm_Cd_isAllowed_46 : decode qm_Cd_isAllowed_c 46 = .ok (.iconst 0, 1) := by decide +kernel
theorem qm_Cd_isAllowed_47 : decode qm_Cd_isAllowed_c 47 = .ok (.ireturn, 1) := by decide +kernel
theorem qm_Cd_shapeOf_0 : decode qm_Cd_shapeOf_c 0 = .ok (.iload_n 1, 1) := by decide +kernel
theorem qm_Cd_shapeOf_1 : decode qm_Cd_shapeOf_c 1 = .ok (.tableswitch 341 6 70 #[275, 275, 275, 275, 278, 281, 284, 287, 281, 290, 290, 293, 281, 281, 284, 275, 296, 278, 299, 302, 302, 305, 305, 305, 305, 305, 305, 305, 308, 308, 308, 308, 308, 308, 308, 311, 314, 317, 275, 320, 323, 323, 341, 341, 341, 341, 341, 341, 341, 341, 341, 341, 341, 341, 341, 341, 326, 326, 329, 329, 332, 332, 335, 338, 338], 275) := by decide +kernel
theorem qm_Cd_shapeOf_276 : decode qm_Cd_shapeOf_c 276 = .ok (.ldc 31, 2) := by decide +kernel
theorem qm_Cd_shapeOf_278 : decode qm_Cd_shapeOf_c 278 = .ok (.areturn, 1) := by decide +kernel
theorem qm_Cd_shapeOf_279 : decode qm_Cd_shapeOf_c 279 = .ok (.ldc 33, 2) := by decide +kernel
theorem qm_Cd_shapeOf_281 : decode qm_Cd_shapeOf_c 281 = .ok (.areturn, 1) := by decide +kernel
theorem qm_Cd_shapeOf_282 : decode qm_Cd_shapeOf_c 282 = .ok (.ldc 35, 2) := by decide +kernel
theorem qm_Cd_shapeOf_284 : decode qm_Cd_shapeOf_c 284 = .ok (.areturn, 1) := by decide +kernel
theorem qm_Cd_shapeOf_285 : decode qm_Cd_shapeOf_c 285 = .ok (.ldc 37, 2) := by decide +kernel
theorem qm_Cd_shapeOf_287 : decode qm_Cd_shapeOf_c 287 = .ok (.areturn, 1) := by decide +kernel
theorem qm_Cd_shapeOf_288 : decode qm_Cd_shapeOf_c 288 = .ok (.ldc 39, 2) := by decide +kernel
theorem qm_Cd_shapeOf_290 : decode qm_Cd_shapeOf_c 290 = .ok (.areturn, 1) := by decide +kernel
theorem qm_Cd_shapeOf_291 : decode qm_Cd_shapeOf_c 291 = .ok (.ldc 41, 2) := by decide +kernel
theorem qm_Cd_shapeOf_293 : decode qm_Cd_shapeOf_c 293 = .ok (.areturn, 1) := by decide +kernel
theorem qm_Cd_shapeOf_294 : decode qm_Cd_shapeOf_c 294 = .ok (.ldc 43, 2) := by decide +kernel
theorem qm_Cd_shapeOf_296 : decode qm_Cd_shapeOf_c 296 = .ok (.areturn, 1) := by decide +kernel
theorem qm_Cd_shapeOf_297 : decode qm_Cd_shapeOf_c 297 = .ok (.ldc 45, 2) := by decide +kernel
theorem qm_Cd_shapeOf_299 : decode qm_Cd_shapeOf_c 299 = .ok (.areturn, 1) := by decide +kernel
theorem qm_Cd_shapeOf_300 : decode qm_Cd_shapeOf_c 300 = .ok (.ldc 47, 2) := by decide +kernel
theorem qm_Cd_shapeOf_302 : decode qm_Cd_shapeOf_c 302 = .ok (.areturn, 1) := by decide +kernel
theorem qm_Cd_shapeOf_303 : decode qm_Cd_shapeOf_c 303 = .ok (.ldc 49, 2) := by decide +kernel
theorem qm_Cd_shapeOf_305 : decode qm_Cd_shapeOf_c 305 = .ok (.areturn, 1) := by decide +kernel
theorem qm_Cd_shapeOf_306 : decode qm_Cd_shapeOf_c 306 = .ok (.ldc 51, 2) := by decide +kernel
theorem qm_Cd_shapeOf_308 : decode qm_Cd_shapeOf_c 308 = .ok (.areturn, 1) := by decide +kernel
theorem qm_Cd_shapeOf_309 : decode qm_Cd_shapeOf_c 309 = .ok (.ldc 53, 2) := by decide +kernel
theorem qm_Cd_shapeOf_311 : decode qm_Cd_shapeOf_c 311 = .ok (.areturn, 1) := by decide +kernel
theorem qm_Cd_shapeOf_312 : decode qm_Cd_shapeOf_c 312 = .ok (.ldc 55, 2) := by decide +kernel
theorem qm_Cd_shapeOf_314 : decode qm_Cd_shapeOf_c 314 = .ok (.areturn, 1) := by decide +kernel
theorem qm_Cd_shapeOf_315 : decode qm_Cd_shapeOf_c 315 = .ok (.ldc 57, 2) := by decide +kernel
theorem qm_Cd_shapeOf_317 : decode qm_Cd_shapeOf_c 317 = .ok (.areturn, 1) := by decide +kernel
theorem qm_Cd_shapeOf_318 : decode qm_Cd_shapeOf_c 318 = .ok (.ldc 59, 2) := by decide +kernel
theorem qm_Cd_shapeOf_320 : decode qm_Cd_shapeOf_c 320 = .ok (.areturn, 1) := by decide +kernel
theorem qm_Cd_shapeOf_321 : decode qm_Cd_shapeOf_c 321 = .ok (.ldc 61, 2) := by decide +kernel
theorem qm_Cd_shapeOf_323 : decode qm_Cd_shapeOf_c 323 = .ok (.areturn, 1) := by decide +kernel
theorem qm_Cd_shapeOf_324 : decode qm_Cd_shapeOf_c 324 = .ok (.ldc 63, 2) := by decide +kernel
theorem qm_Cd_shapeOf_326 : decode qm_Cd_shapeOf_c 326 = .ok (.areturn, 1) := by decide +kernel
theorem qm_Cd_shapeOf_327 : decode qm_Cd_shapeOf_c 327 = .ok (.ldc 65, 2) := by decide +kernel
theorem qm_Cd_shapeOf_329 : decode qm_Cd_shapeOf_c 329 = .ok (.areturn, 1) := by decide +kernel
theorem qm_Cd_shapeOf_330 : decode qm_Cd_shapeOf_c 330 = .ok (.ldc 67, 2) := by decide +kernel
theorem qm_Cd_shapeOf_332 : decode qm_Cd_shapeOf_c 332 = .ok (.areturn, 1) := by decide +kernel
theorem qm_Cd_shapeOf_333 : decode qm_Cd_shapeOf_c 333 = .ok (.ldc 69, 2) := by decide +kernel
theorem qm_Cd_shapeOf_335 : decode qm_Cd_shapeOf_c 335 = .ok (.areturn, 1) := by decide +kernel
theorem qm_Cd_shapeOf_336 : decode qm_Cd_shapeOf_c 336 = .ok (.ldc 71, 2) := by decide +kernel
theorem qm_Cd_shapeOf_338 : decode qm_Cd_shapeOf_c 338 = .ok (.areturn, 1) := by decide +kernel
theorem qm_Cd_shapeOf_339 : decode qm_Cd_shapeOf_c 339 = .ok (.ldc 73, 2) := by decide +kernel
theorem qm_Cd_shapeOf_341 : decode qm_Cd_shapeOf_c 341 = .ok (.areturn, 1) := by decide +kernel
theorem qm_Cd_shapeOf_342 : decode qm_Cd_shapeOf_c 342 = .ok (.iload_n 1, 1) := by decide +kernel
theorem qm_Cd_shapeOf_343 : decode qm_Cd_shapeOf_c 343 = .ok (.bipush 48, 2) := by decide +kernel
theorem qm_Cd_shapeOf_345 : decode qm_Cd_shapeOf_c 345 = .ok (.if_icmp .lt 14, 3) := by decide +kernel
theorem qm_Cd_shapeOf_348 : decode qm_Cd_shapeOf_c 348 = .ok (.iload_n 1, 1) := by decide +kernel
theorem qm_Cd_shapeOf_349 : decode qm_Cd_shapeOf_c 349 = .ok (.bipush 61, 2) := by decide +kernel
theorem qm_Cd_shapeOf_351 : decode qm_Cd_shapeOf_c 351 = .ok (.if_icmp .gt 8, 3) := by decide +kernel
theorem qm_Cd_shapeOf_354 : decode qm_Cd_shapeOf_c 354 = .ok (.ldc 75, 2) := by decide +kernel
theorem qm_Cd_shapeOf_356 : decode qm_Cd_shapeOf_c 356 = .ok (.goto 5, 3) := by decide +kernel
theorem qm_Cd_shapeOf_359 : decode qm_Cd_shapeOf_c 359 = .ok (.ldc 77, 2) := by decide +kernel
theorem qm_Cd_shapeOf_361 : decode qm_Cd_shapeOf_c 361 = .ok (.areturn, 1) := by decide +kernel
theorem qm_Cd_leaveException_0 : decode qm_Cd_leaveException_c 0 = .ok (.aload_n 0, 1) := by decide +kernel
theorem qm_Cd_leaveException_1 : decode qm_Cd_leaveException_c 1 = .ok (.getfield 9, 3) := by decide +kernel
theorem qm_Cd_leaveException_4 : decode qm_Cd_leaveException_c 4 = .ok (.invokevirtual 89, 3) := by decide +kernel
theorem qm_Cd_leaveException_7 : decode qm_Cd_leaveException_c 7 = .ok (.istore_n 1, 1) := by decide +kernel
theorem qm_Cd_leaveException_8 : decode qm_Cd_leaveException_c 8 = .ok (.aload_n 0, 1) := by decide +kernel
theorem qm_Cd_leaveException_9 : decode qm_Cd_leaveException_c 9 = .ok (.getfield 9, 3) := by decide +kernel
theorem qm_Cd_leaveException_12 : decode qm_Cd_leaveException_c 12 = .ok (.invokevirtual 89, 3) := by decide +kernel
theorem qm_Cd_leaveException_15 : decode qm_Cd_leaveException_c 15 = .ok (.istore_n 2, 1) := by decide +kernel
theorem qm_Cd_leaveException_16 : decode qm_Cd_leaveException_c 16 = .ok (.iload_n 2, 1) := by decide +kernel
theorem qm_Cd_leaveException_17 : decode qm_Cd_leaveException_c 17 = .ok (.bipush 24, 2) := by decide +kernel
theorem qm_Cd_leaveException_19 : decode qm_Cd_leaveException_c 19 = .ok (.iushr, 1) := by decide +kernel
theorem qm_Cd_leaveException_20 : decode qm_Cd_leaveException_c 20 = .ok (.iconst 3, 1) := by decide +kernel
theorem qm_Cd_leaveException_21 : decode qm_Cd_leaveException_c 21 = .ok (.iand, 1) := by decide +kernel
theorem qm_Cd_leaveException_22 : decode qm_Cd_leaveException_c 22 = .ok (.istore_n 3, 1) := by decide +kernel
theorem qm_Cd_leaveException_23 : decode qm_Cd_leaveException_c 23 = .ok (.iload_n 2, 1) := by decide +kernel
theorem qm_Cd_leaveException_24 : decode qm_Cd_leaveException_c 24 = .ok (.bipush 22, 2) := by decide +kernel
theorem qm_Cd_leaveException_26 : decode qm_Cd_leaveException_c 26 = .ok (.iushr, 1) := by decide +kernel
theorem qm_Cd_leaveException_27 : decode qm_Cd_leaveException_c 27 = .ok (.iconst 3, 1) := by decide +kernel
theorem qm_Cd_leaveException_28 : decode qm_Cd_leaveException_c 28 = .ok (.iand, 1) := by decide +kernel
theorem qm_Cd_leaveException_29 : decode qm_Cd_leaveException_c 29 = .ok (.istore 4, 2) := by decide +kernel
theorem qm_Cd_leaveException_31 : decode qm_Cd_leaveException_c 31 = .ok (.iload_n 2, 1) := by decide +kernel
theorem qm_Cd_leaveException_32 : decode qm_Cd_leaveException_c 32 = .ok (.ldc 173, 2) := by decide +kernel
theorem qm_Cd_leaveException_34 : decode qm_Cd_leaveException_c 34 = .ok (.iand, 1) := by decide +kernel
theorem qm_Cd_leaveException_35 : decode qm_Cd_leaveException_c 35 = .ok (.ifCond .ne 20, 3) := by decide +kernel
theorem qm_Cd_leaveException_38 : decode qm_Cd_leaveException_c 38 = .ok (.iload_n 3, 1) := by decide +kernel
theorem qm_Cd_leaveException_39 : decode qm_Cd_leaveException_c 39 = .ok (.aload_n 0, 1) := by decide +kernel
theorem qm_Cd_leaveException_40 : decode qm_Cd_leaveException_c 40 = .ok (.getfield 9, 3) := by decide +kernel
theorem qm_Cd_leaveException_43 : decode qm_Cd_leaveException_c 43 = .ok (.invokevirtual 25, 3) := by decide +kernel
theorem qm_Cd_leaveException_46 : decode qm_Cd_leaveException_c 46 = .ok (.if_icmp .lt 9, 3) := by decide +kernel
theorem qm_Cd_leaveException_49 : decode qm_Cd_leaveException_c 49 = .ok (.iload 4, 2) := by decide +kernel
theorem qm_Cd_leaveException_51 : decode qm_Cd_leaveException_c 51 = .ok (.iload_n 3, 1) := by decide +kernel
theorem qm_Cd_leaveException_52 : decode qm_Cd_leaveException_c 52 = .ok (.if_icmp .ge 12, 3) := by decide +kernel
theorem qm_Cd_leaveException_55 : decode qm_Cd_leaveException_c 55 = .ok (.aload_n 0, 1) := by decide +kernel
theorem qm_Cd_leaveException_56 : decode qm_Cd_leaveException_c 56 = .ok (.getfield 9, 3) := by decide +kernel
theorem qm_Cd_leaveException_59 : decode qm_Cd_leaveException_c 59 = .ok (.iconst 2, 1) := by decide +kernel
theorem qm_Cd_leaveException_60 : decode qm_Cd_leaveException_c 60 = .ok (.invokevirtual 82, 3) := by decide +kernel
theorem qm_Cd_leaveException_63 : decode qm_Cd_leaveException_c 63 = .ok (.return_, 1) := by decide +kernel
theorem qm_Cd_leaveException_64 : decode qm_Cd_leaveException_c 64 = .ok (.aload_n 0, 1) := by decide +kernel
theorem qm_Cd_leaveException_65 : decode qm_Cd_leaveException_c 65 = .ok (.getfield 9, 3) := by decide +kernel
theorem qm_Cd_leaveException_68 : decode qm_Cd_leaveException_c 68 = .ok (.bipush 15, 2) := by decide +kernel
theorem qm_Cd_leaveException_70 : decode qm_Cd_leaveException_c 70 = .ok (.iload_n 1, 1) := by decide +kernel
theorem qm_Cd_leaveException_71 : decode qm_Cd_leaveException_c 71 = .ok (.invokevirtual 92, 3) := by decide +kernel
theorem qm_Cd_leaveException_74 : decode qm_Cd_leaveException_c 74 = .ok (.aload_n 0, 1) := by decide +kernel
theorem qm_Cd_leaveException_75 : decode qm_Cd_leaveException_c 75 = .ok (.getfield 9, 3) := by decide +kernel
theorem qm_Cd_leaveException_78 : decode qm_Cd_leaveException_c 78 = .ok (.iload_n 2, 1) := by decide +kernel
theorem qm_Cd_leaveException_79 : decode qm_Cd_leaveException_c 79 = .ok (.putfield 108, 3) := by decide +kernel
theorem qm_Cd_leaveException_82 : decode qm_Cd_leaveException_c 82 = .ok (.return_, 1) := by decide +kernel
theorem qm_Cd_leaveFrame_0 : decode qm_Cd_leaveFrame_c 0 = .ok (.aload_n 0, 1) := by decide +kernel
theorem qm_Cd_leaveFrame_1 : decode qm_Cd_leaveFrame_c 1 = .ok (.getfield 9, 3) := by decide +kernel
theorem qm_Cd_leaveFrame_4 : decode qm_Cd_leaveFrame_c 4 = .ok (.bipush 14, 2) := by decide +kernel
theorem qm_Cd_leaveFrame_6 : decode qm_Cd_leaveFrame_c 6 = .ok (.aload_n 0, 1) := by decide +kernel
theorem qm_Cd_leaveFrame_7 : decode qm_Cd_leaveFrame_c 7 = .ok (.getfield 9, 3) := by decide +kernel
theorem qm_Cd_leaveFrame_10 : decode qm_Cd_leaveFrame_c 10 = .ok (.bipush 13, 2) := by decide +kernel
theorem qm_Cd_leaveFrame_12 : decode qm_Cd_leaveFrame_c 12 = .ok (.invokevirtual 169, 3) := by decide +kernel
theorem qm_Cd_leaveFrame_15 : decode qm_Cd_leaveFrame_c 15 = .ok (.iconst 4, 1) := by decide +kernel
theorem qm_Cd_leaveFrame_16 : decode qm_Cd_leaveFrame_c 16 = .ok (.iadd, 1) := by decide +kernel
theorem qm_Cd_leaveFrame_17 : decode qm_Cd_leaveFrame_c 17 = .ok (.invokevirtual 92, 3) := by decide +kernel
theorem qm_Cd_leaveFrame_20 : decode qm_Cd_leaveFrame_c 20 = .ok (.aload_n 0, 1) := by decide +kernel
theorem qm_Cd_leaveFrame_21 : decode qm_Cd_leaveFrame_c 21 = .ok (.getfield 9, 3) := by decide +kernel
theorem qm_Cd_leaveFrame_24 : decode qm_Cd_leaveFrame_c 24 = .ok (.invokevirtual 89, 3) := by decide +kernel
theorem qm_Cd_leaveFrame_27 : decode qm_Cd_leaveFrame_c 27 = .ok (.istore_n 1, 1) := by decide +kernel
theorem qm_Cd_leaveFrame_28 : decode qm_Cd_leaveFrame_c 28 = .ok (.iload_n 1, 1) := by decide +kernel
theorem qm_Cd_leaveFrame_29 : decode qm_Cd_leaveFrame_c 29 = .ok (.ldc 239, 2) := by decide +kernel
theorem qm_Cd_leaveFrame_31 : decode qm_Cd_leaveFrame_c 31 = .ok (.iand, 1) := by decide +kernel
theorem qm_Cd_leaveFrame_32 : decode qm_Cd_leaveFrame_c 32 = .ok (.ifCond .eq 12, 3) := by decide +kernel
theorem qm_Cd_leaveFrame_35 : decode qm_Cd_leaveFrame_c 35 = .ok (.aload_n 0, 1) := by decide +kernel
theorem qm_Cd_leaveFrame_36 : decode qm_Cd_leaveFrame_c 36 = .ok (.getfield 9, 3) := by decide +kernel
theorem qm_Cd_leaveFrame_39 : decode qm_Cd_leaveFrame_c 39 = .ok (.iconst 2, 1) := by decide +kernel
theorem qm_Cd_leaveFrame_40 : decode qm_Cd_leaveFrame_c 40 = .ok (.invokevirtual 82, 3) := by decide +kernel
theorem qm_Cd_leaveFrame_43 : decode qm_Cd_leaveFrame_c 43 = .ok (.return_, 1) := by decide +kernel
theorem qm_Cd_leaveFrame_44 : decode qm_Cd_leaveFrame_c 44 = .ok (.aload_n 0, 1) := by decide +kernel
theorem qm_Cd_leaveFrame_45 : decode qm_Cd_leaveFrame_c 45 = .ok (.getfield 9, 3) := by decide +kernel
theorem qm_Cd_leaveFrame_48 : decode qm_Cd_leaveFrame_c 48 = .ok (.bipush 12, 2) := by decide +kernel
theorem qm_Cd_leaveFrame_50 : decode qm_Cd_leaveFrame_c 50 = .ok (.aload_n 0, 1) := by decide +kernel
theorem qm_Cd_leaveFrame_51 : decode qm_Cd_leaveFrame_c 51 = .ok (.getfield 9, 3) := by decide +kernel
theorem qm_Cd_leaveFrame_54 : decode qm_Cd_leaveFrame_c 54 = .ok (.invokevirtual 89, 3) := by decide +kernel
theorem qm_Cd_leaveFrame_57 : decode qm_Cd_leaveFrame_c 57 = .ok (.invokevirtual 92, 3) := by decide +kernel
theorem qm_Cd_leaveFrame_60 : decode qm_Cd_leaveFrame_c 60 = .ok (.aload_n 0, 1) := by decide +kernel
theorem qm_Cd_leaveFrame_61 : decode qm_Cd_leaveFrame_c 61 = .ok (.getfield 9, 3) := by decide +kernel
theorem qm_Cd_leaveFrame_64 : decode qm_Cd_leaveFrame_c 64 = .ok (.bipush 13, 2) := by decide +kernel
theorem qm_Cd_leaveFrame_66 : decode qm_Cd_leaveFrame_c 66 = .ok (.aload_n 0, 1) := by decide +kernel
theorem qm_Cd_leaveFrame_67 : decode qm_Cd_leaveFrame_c 67 = .ok (.getfield 9, 3) := by decide +kernel
theorem qm_Cd_leaveFrame_70 : decode qm_Cd_leaveFrame_c 70 = .ok (.invokevirtual 89, 3) := by decide +kernel
theorem qm_Cd_leaveFrame_73 : decode qm_Cd_leaveFrame_c 73 = .ok (.invokevirtual 92, 3) := by decide +kernel
theorem qm_Cd_leaveFrame_76 : decode qm_Cd_leaveFrame_c 76 = .ok (.aload_n 0, 1) := by decide +kernel
theorem qm_Cd_leaveFrame_77 : decode qm_Cd_leaveFrame_c 77 = .ok (.getfield 9, 3) := by decide +kernel
theorem qm_Cd_leaveFrame_80 : decode qm_Cd_leaveFrame_c 80 = .ok (.bipush 15, 2) := by decide +kernel
theorem qm_Cd_leaveFrame_82 : decode qm_Cd_leaveFrame_c 82 = .ok (.aload_n 0, 1) := by decide +kernel
theorem qm_Cd_leaveFrame_83 : decode qm_Cd_leaveFrame_c 83 = .ok (.getfield 9, 3) := by decide +kernel
theorem qm_Cd_leaveFrame_86 : decode qm_Cd_leaveFrame_c 86 = .ok (.invokevirtual 89, 3) := by decide +kernel
theorem qm_Cd_leaveFrame_89 : decode qm_Cd_leaveFrame_c 89 = .ok (.invokevirtual 92, 3) := by decide +kernel
theorem qm_Cd_leaveFrame_92 : decode qm_Cd_leaveFrame_c 92 = .ok (.iconst 0, 1) := by decide +kernel
theorem qm_Cd_leaveFrame_93 : decode qm_Cd_leaveFrame_c 93 = .ok (.istore_n 2, 1) := by decide +kernel
theorem qm_Cd_leaveFrame_94 : decode qm_Cd_leaveFrame_c 94 = .ok (.iload_n 2, 1) := by decide +kernel
theorem qm_Cd_leaveFrame_95 : decode qm_Cd_leaveFrame_c 95 = .ok (.bipush 12, 2) := by decide +kernel
theorem qm_Cd_leaveFrame_97 : decode qm_Cd_leaveFrame_c 97 = .ok (.if_icmp .ge 35, 3) := by decide +kernel
theorem qm_Cd_leaveFrame_100 : decode qm_Cd_leaveFrame_c 100 = .ok (.iload_n 1, 1) := by decide +kernel
theorem qm_Cd_leaveFrame_101 : decode qm_Cd_leaveFrame_c 101 = .ok (.bipush 16, 2) := by decide +kernel
theorem qm_Cd_leaveFrame_103 : decode qm_Cd_leaveFrame_c 103 = .ok (.iload_n 2, 1) := by decide +kernel
theorem qm_Cd_leaveFrame_104 : decode qm_Cd_leaveFrame_c 104 = .ok (.iadd, 1) := by decide +kernel
theorem qm_Cd_leaveFrame_105 : decode qm_Cd_leaveFrame_c 105 = .ok (.iushr, 1) := by decide +kernel
theorem qm_Cd_leaveFrame_106 : decode qm_Cd_leaveFrame_c 106 = .ok (.iconst 1, 1) := by decide +kernel
theorem qm_Cd_leaveFrame_107 : decode qm_Cd_leaveFrame_c 107 = .ok (.iand, 1) := by decide +kernel
theorem qm_Cd_leaveFrame_108 : decode qm_Cd_leaveFrame_c 108 = .ok (.ifCond .eq 18, 3) := by decide +kernel
theorem qm_Cd_leaveFrame_111 : decode qm_Cd_leaveFrame_c 111 = .ok (.aload_n 0, 1) := by decide +kernel
theorem qm_Cd_leaveFrame_112 : decode qm_Cd_leaveFrame_c 112 = .ok (.getfield 9, 3) := by decide +kernel
theorem qm_Cd_leaveFrame_115 : decode qm_Cd_leaveFrame_c 115 = .ok (.iload_n 2, 1) := by decide +kernel
theorem qm_Cd_leaveFrame_116 : decode qm_Cd_leaveFrame_c 116 = .ok (.aload_n 0, 1) := by decide +kernel
theorem qm_Cd_leaveFrame_117 : decode qm_Cd_leaveFrame_c 117 = .ok (.getfield 9, 3) := by decide +kernel
theorem qm_Cd_leaveFrame_120 : decode qm_Cd_leaveFrame_c 120 = .ok (.invokevirtual 89, 3) := by decide +kernel
theorem qm_Cd_leaveFrame_123 : decode qm_Cd_leaveFrame_c 123 = .ok (.invokevirtual 92, 3) := by decide +kernel
theorem qm_Cd_leaveFrame_126 : decode qm_Cd_leaveFrame_c 126 = .ok (.iinc 2 1, 3) := by decide +kernel
theorem qm_Cd_leaveFrame_129 : decode qm_Cd_leaveFrame_c 129 = .ok (.goto (-35), 3) := by decide +kernel
theorem qm_Cd_leaveFrame_132 : decode qm_Cd_leaveFrame_c 132 = .ok (.aload_n 0, 1) := by decide +kernel
theorem qm_Cd_leaveFrame_133 : decode qm_Cd_leaveFrame_c 133 = .ok (.getfield 9, 3) := by decide +kernel
theorem qm_Cd_leaveFrame_136 : decode qm_Cd_leaveFrame_c 136 = .ok (.bipush 14, 2) := by decide +kernel
theorem qm_Cd_leaveFrame_138 : decode qm_Cd_leaveFrame_c 138 = .ok (.aload_n 0, 1) := by decide +kernel
theorem qm_Cd_leaveFrame_139 : decode qm_Cd_leaveFrame_c 139 = .ok (.getfield 9, 3) := by decide +kernel
theorem qm_Cd_leaveFrame_142 : decode qm_Cd_leaveFrame_c 142 = .ok (.bipush 14, 2) := by decide +kernel
theorem qm_Cd_leaveFrame_144 : decode qm_Cd_leaveFrame_c 144 = .ok (.invokevirtual 169, 3) := by decide +kernel
theorem qm_Cd_leaveFrame_147 : decode qm_Cd_leaveFrame_c 147 = .ok (.iload_n 1, 1) := by decide +kernel
theorem qm_Cd_leaveFrame_148 : decode qm_Cd_leaveFrame_c 148 = .ok (.bipush 30, 2) := by decide +kernel
theorem qm_Cd_leaveFrame_150 : decode qm_Cd_leaveFrame_c 150 = .ok (.iushr, 1) := by decide +kernel
theorem qm_Cd_leaveFrame_151 : decode qm_Cd_leaveFrame_c 151 = .ok (.iadd, 1) := by decide +kernel
theorem qm_Cd_leaveFrame_152 : decode qm_Cd_leaveFrame_c 152 = .ok (.invokevirtual 92, 3) := by decide +kernel
theorem qm_Cd_leaveFrame_155 : decode qm_Cd_leaveFrame_c 155 = .ok (.iload_n 1, 1) := by decide +kernel
theorem qm_Cd_leaveFrame_156 : decode qm_Cd_leaveFrame_c 156 = .ok (.ldc 237, 2) := by decide +kernel
theorem qm_Cd_leaveFrame_158 : decode qm_Cd_leaveFrame_c 158 = .ok (.iand, 1) := by decide +kernel
theorem qm_Cd_leaveFrame_159 : decode qm_Cd_leaveFrame_c 159 = .ok (.ifCond .eq 37, 3) := by decide +kernel
theorem qm_Cd_leaveFrame_162 : decode qm_Cd_leaveFrame_c 162 = .ok (.aload_n 0, 1) := by decide +kernel
theorem qm_Cd_leaveFrame_163 : decode qm_Cd_leaveFrame_c 163 = .ok (.getfield 9, 3) := by decide +kernel
theorem qm_Cd_leaveFrame_166 : decode qm_Cd_leaveFrame_c 166 = .ok (.invokevirtual 89, 3) := by decide +kernel
theorem qm_Cd_leaveFrame_169 : decode qm_Cd_leaveFrame_c 169 = .ok (.sipush 255, 3) := by decide +kernel
theorem qm_Cd_leaveFrame_172 : decode qm_Cd_leaveFrame_c 172 = .ok (.iand, 1) := by decide +kernel
theorem qm_Cd_leaveFrame_173 : decode qm_Cd_leaveFrame_c 173 = .ok (.istore_n 2, 1) := by decide +kernel
theorem qm_Cd_leaveFrame_174 : decode qm_Cd_leaveFrame_c 174 = .ok (.aload_n 0, 1) := by decide +kernel
theorem qm_Cd_leaveFrame_175 : decode qm_Cd_leaveFrame_c 175 = .ok (.getfield 9, 3) := by decide +kernel
theorem qm_Cd_leaveFrame_178 : decode qm_Cd_leaveFrame_c 178 = .ok (.bipush 14, 2) := by decide +kernel
theorem qm_Cd_leaveFrame_180 : decode qm_Cd_leaveFrame_c 180 = .ok (.aload_n 0, 1) := by decide +kernel
theorem qm_Cd_leaveFrame_181 : decode qm_Cd_leaveFrame_c 181 = .ok (.getfield 9, 3) := by decide +kernel
theorem qm_Cd_leaveFrame_184 : decode qm_Cd_leaveFrame_c 184 = .ok (.bipush 14, 2) := by decide +kernel
theorem qm_Cd_leaveFrame_186 : decode qm_Cd_leaveFrame_c 186 = .ok (.invokevirtual 169, 3) := by decide +kernel
theorem qm_Cd_leaveFrame_189 : decode qm_Cd_leaveFrame_c 189 = .ok (.iconst 4, 1) := by decide +kernel
theorem qm_Cd_leaveFrame_190 : decode qm_Cd_leaveFrame_c 190 = .ok (.iload_n 2, 1) := by decide +kernel
theorem qm_Cd_leaveFrame_191 : decode qm_Cd_leaveFrame_c 191 = .ok (.imul, 1) := by decide +kernel
theorem qm_Cd_leaveFrame_192 : decode qm_Cd_leaveFrame_c 192 = .ok (.iadd, 1) := by decide +kernel
theorem qm_Cd_leaveFrame_193 : decode qm_Cd_leaveFrame_c 193 = .ok (.invokevirtual 92, 3) := by decide +kernel
theorem qm_Cd_leaveFrame_196 : decode qm_Cd_leaveFrame_c 196 = .ok (.aload_n 0, 1) := by decide +kernel
theorem qm_Cd_leaveFrame_197 : decode qm_Cd_leaveFrame_c 197 = .ok (.getfield 9, 3) := by decide +kernel
theorem qm_Cd_leaveFrame_200 : decode qm_Cd_leaveFrame_c 200 = .ok (.aload_n 0, 1) := by decide +kernel
theorem qm_Cd_leaveFrame_201 : decode qm_Cd_leaveFrame_c 201 = .ok (.getfield 9, 3) := by decide +kernel
theorem qm_Cd_leaveFrame_204 : decode qm_Cd_leaveFrame_c 204 = .ok (.getfield 108, 3) := by decide +kernel
theorem qm_Cd_leaveFrame_207 : decode qm_Cd_leaveFrame_c 207 = .ok (.bipush (-48), 2) := by decide +kernel
theorem qm_Cd_leaveFrame_209 : decode qm_Cd_leaveFrame_c 209 = .ok (.iand, 1) := by decide +kernel
theorem qm_Cd_leaveFrame_210 : decode qm_Cd_leaveFrame_c 210 = .ok (.iload_n 1, 1) := by decide +kernel
theorem qm_Cd_leaveFrame_211 : decode qm_Cd_leaveFrame_c 211 = .ok (.bipush 47, 2) := by decide +kernel
theorem qm_Cd_leaveFrame_213 : decode qm_Cd_leaveFrame_c 213 = .ok (.iand, 1) := by decide +kernel
theorem qm_Cd_leaveFrame_214 : decode qm_Cd_leaveFrame_c 214 = .ok (.ior, 1) := by decide +kernel
theorem qm_Cd_leaveFrame_215 : decode qm_Cd_leaveFrame_c 215 = .ok (.putfield 108, 3) := by decide +kernel
theorem qm_Cd_leaveFrame_218 : decode qm_Cd_leaveFrame_c 218 = .ok (.return_, 1) := by decide +kernel
theorem qm_Cd_giveInner_0 : decode qm_Cd_giveInner_c 0 = .ok (.aload_n 0, 1) := by decide +kernel
theorem qm_Cd_giveInner_1 : decode qm_Cd_giveInner_c 1 = .ok (.getfield 9, 3) := by decide +kernel
theorem qm_Cd_giveInner_4 : decode qm_Cd_giveInner_c 4 = .ok (.iload_n 1, 1) := by decide +kernel
theorem qm_Cd_giveInner_5 : decode qm_Cd_giveInner_c 5 = .ok (.invokevirtual 174, 3) := by decide +kernel
theorem qm_Cd_giveInner_8 : decode qm_Cd_giveInner_c 8 = .ok (.ifCond .eq 18, 3) := by decide +kernel
theorem qm_Cd_giveInner_11 : decode qm_Cd_giveInner_c 11 = .ok (.iload_n 1, 1) := by decide +kernel
theorem qm_Cd_giveInner_12 : decode qm_Cd_giveInner_c 12 = .ok (.bipush 56, 2) := by decide +kernel
theorem qm_Cd_giveInner_14 : decode qm_Cd_giveInner_c 14 = .ok (.if_icmp .ne 21, 3) := by decide +kernel
theorem qm_Cd_giveInner_17 : decode qm_Cd_giveInner_c 17 = .ok (.iload_n 2, 1) := by decide +kernel
theorem qm_Cd_giveInner_18 : decode qm_Cd_giveInner_c 18 = .ok (.ifCond .eq 17, 3) := by decide +kernel
theorem qm_Cd_giveInner_21 : decode qm_Cd_giveInner_c 21 = .ok (.iload_n 2, 1) := by decide +kernel
theorem qm_Cd_giveInner_22 : decode qm_Cd_giveInner_c 22 = .ok (.iconst 1, 1) := by decide +kernel
theorem qm_Cd_giveInner_23 : decode qm_Cd_giveInner_c 23 = .ok (.if_icmp .eq 12, 3) := by decide +kernel
theorem qm_Cd_giveInner_26 : decode qm_Cd_giveInner_c 26 = .ok (.aload_n 0, 1) := by decide +kernel
theorem qm_Cd_giveInner_27 : decode qm_Cd_giveInner_c 27 = .ok (.getfield 9, 3) := by decide +kernel
theorem qm_Cd_giveInner_30 : decode qm_Cd_giveInner_c 30 = .ok (.iconst 2, 1) := by decide +kernel
theorem qm_Cd_giveInner_31 : decode qm_Cd_giveInner_c 31 = .ok (.invokevirtual 82, 3) := by decide +kernel
theorem qm_Cd_giveInner_34 : decode qm_Cd_giveInner_c 34 = .ok (.return_, 1) := by decide +kernel
theorem qm_Cd_giveInner_35 : decode qm_Cd_giveInner_c 35 = .ok (.aload_n 0, 1) := by decide +kernel
theorem qm_Cd_giveInner_36 : decode qm_Cd_giveInner_c 36 = .ok (.getfield 9, 3) := by decide +kernel
theorem qm_Cd_giveInner_39 : decode qm_Cd_giveInner_c 39 = .ok (.iload_n 1, 1) := by decide +kernel
theorem qm_Cd_giveInner_40 : decode qm_Cd_giveInner_c 40 = .ok (.iload_n 2, 1) := by decide +kernel
theorem qm_Cd_giveInner_41 : decode qm_Cd_giveInner_c 41 = .ok (.invokevirtual 177, 3) := by decide +kernel
theorem qm_Cd_giveInner_44 : decode qm_Cd_giveInner_c 44 = .ok (.return_, 1) := by decide +kernel
theorem qm_Cd_store_0 : decode qm_Cd_store_c 0 = .ok (.aload_n 1, 1) := by decide +kernel
theorem qm_Cd_store_1 : decode qm_Cd_store_c 1 = .ok (.getfield 156, 3) := by decide +kernel
theorem qm_Cd_store_4 : decode qm_Cd_store_c 4 = .ok (.iconst (-1), 1) := by decide +kernel
theorem qm_Cd_store_5 : decode qm_Cd_store_c 5 = .ok (.if_icmp .ne 22, 3) := by decide +kernel
theorem qm_Cd_store_8 : decode qm_Cd_store_c 8 = .ok (.aload_n 0, 1) := by decide +kernel
theorem qm_Cd_store_9 : decode qm_Cd_store_c 9 = .ok (.getfield 9, 3) := by decide +kernel
theorem qm_Cd_store_12 : decode qm_Cd_store_c 12 = .ok (.aload_n 1, 1) := by decide +kernel
theorem qm_Cd_store_13 : decode qm_Cd_store_c 13 = .ok (.getfield 159, 3) := by decide +kernel
theorem qm_Cd_store_16 : decode qm_Cd_store_c 16 = .ok (.iload_n 2, 1) := by decide +kernel
theorem qm_Cd_store_17 : decode qm_Cd_store_c 17 = .ok (.aload_n 1, 1) := by decide +kernel
theorem qm_Cd_store_18 : decode qm_Cd_store_c 18 = .ok (.getfield 162, 3) := by decide +kernel
theorem qm_Cd_store_21 : decode qm_Cd_store_c 21 = .ok (.invokevirtual 165, 3) := by decide +kernel
theorem qm_Cd_store_24 : decode qm_Cd_store_c 24 = .ok (.goto 58, 3) := by decide +kernel
theorem qm_Cd_store_27 : decode qm_Cd_store_c 27 = .ok (.aload_n 1, 1) := by decide +kernel
theorem qm_Cd_store_28 : decode qm_Cd_store_c 28 = .ok (.getfield 162, 3) := by decide +kernel
theorem qm_Cd_store_31 : decode qm_Cd_store_c 31 = .ok (.iconst 1, 1) := by decide +kernel
theorem qm_Cd_store_32 : decode qm_Cd_store_c 32 = .ok (.if_icmp .ne 38, 3) := by decide +kernel
theorem qm_Cd_store_35 : decode qm_Cd_store_c 35 = .ok (.aload_n 0, 1) := by decide +kernel
theorem qm_Cd_store_36 : decode qm_Cd_store_c 36 = .ok (.getfield 9, 3) := by decide +kernel
theorem qm_Cd_store_39 : decode qm_Cd_store_c 39 = .ok (.aload_n 1, 1) := by decide +kernel
theorem qm_Cd_store_40 : decode qm_Cd_store_c 40 = .ok (.getfield 156, 3) := by decide +kernel
theorem qm_Cd_store_43 : decode qm_Cd_store_c 43 = .ok (.aload_n 0, 1) := by decide +kernel
theorem qm_Cd_store_44 : decode qm_Cd_store_c 44 = .ok (.getfield 9, 3) := by decide +kernel
theorem qm_Cd_store_47 : decode qm_Cd_store_c 47 = .ok (.aload_n 1, 1) := by decide +kernel
theorem qm_Cd_store_48 : decode qm_Cd_store_c 48 = .ok (.getfield 156, 3) := by decide +kernel
theorem qm_Cd_store_51 : decode qm_Cd_store_c 51 = .ok (.invokevirtual 169, 3) := by decide +kernel
theorem qm_Cd_store_54 : decode qm_Cd_store_c 54 = .ok (.sipush (-256), 3) := by decide +kernel
theorem qm_Cd_store_57 : decode qm_Cd_store_c 57 = .ok (.iand, 1) := by decide +kernel
theorem qm_Cd_store_58 : decode qm_Cd_store_c 58 = .ok (.iload_n 2, 1) := by decide +kernel
theorem qm_Cd_store_59 : decode qm_Cd_store_c 59 = .ok (.sipush 255, 3) := by decide +kernel
theorem qm_Cd_store_62 : decode qm_Cd_store_c 62 = .ok (.iand, 1) := by decide +kernel
theorem qm_Cd_store_63 : decode qm_Cd_store_c 63 = .ok (.ior, 1) := by decide +kernel
theorem qm_Cd_store_64 : decode qm_Cd_store_c 64 = .ok (.invokevirtual 92, 3) := by decide +kernel
theorem qm_Cd_store_67 : decode qm_Cd_store_c 67 = .ok (.goto 15, 3) := by decide +kernel
theorem qm_Cd_store_70 : decode qm_Cd_store_c 70 = .ok (.aload_n 0, 1) := by decide +kernel
theorem qm_Cd_store_71 : decode qm_Cd_store_c 71 = .ok (.getfield 9, 3) := by decide +kernel
theorem qm_Cd_store_74 : decode qm_Cd_store_c 74 = .ok (.aload_n 1, 1) := by decide +kernel
theorem qm_Cd_store_75 : decode qm_Cd_store_c 75 = .ok (.getfield 156, 3) := by decide +kernel
theorem qm_Cd_store_78 : decode qm_Cd_store_c 78 = .ok (.iload_n 2, 1) := by decide +kernel
theorem qm_Cd_store_79 : decode qm_Cd_store_c 79 = .ok (.invokevirtual 92, 3) := by decide +kernel
theorem qm_Cd_store_82 : decode qm_Cd_store_c 82 = .ok (.return_, 1) := by decide +kernel
theorem qm_Cd_takeInner_0 : decode qm_Cd_takeInner_c 0 = .ok (.aload_n 0, 1) := by decide +kernel
theorem qm_Cd_takeInner_1 : decode qm_Cd_takeInner_c 1 = .ok (.getfield 9, 3) := by decide +kernel
theorem qm_Cd_takeInner_4 : decode qm_Cd_takeInner_c 4 = .ok (.iload_n 1, 1) := by decide +kernel
theorem qm_Cd_takeInner_5 : decode qm_Cd_takeInner_c 5 = .ok (.invokevirtual 174, 3) := by decide +kernel
theorem qm_Cd_takeInner_8 : decode qm_Cd_takeInner_c 8 = .ok (.ifCond .ne 12, 3) := by decide +kernel
theorem qm_Cd_takeInner_11 : decode qm_Cd_takeInner_c 11 = .ok (.aload_n 0, 1) := by decide +kernel
theorem qm_Cd_takeInner_12 : decode qm_Cd_takeInner_c 12 = .ok (.getfield 9, 3) := by decide +kernel
theorem qm_Cd_takeInner_15 : decode qm_Cd_takeInner_c 15 = .ok (.iconst 2, 1) := by decide +kernel
theorem qm_Cd_takeInner_16 : decode qm_Cd_takeInner_c 16 = .ok (.invokevirtual 82, 3) := by decide +kernel
theorem qm_Cd_takeInner_19 : decode qm_Cd_takeInner_c 19 = .ok (.return_, 1) := by decide +kernel
theorem qm_Cd_takeInner_20 : decode qm_Cd_takeInner_c 20 = .ok (.aload_n 0, 1) := by decide +kernel
theorem qm_Cd_takeInner_21 : decode qm_Cd_takeInner_c 21 = .ok (.getfield 9, 3) := by decide +kernel
theorem qm_Cd_takeInner_24 : decode qm_Cd_takeInner_c 24 = .ok (.iload_n 1, 1) := by decide +kernel
theorem qm_Cd_takeInner_25 : decode qm_Cd_takeInner_c 25 = .ok (.invokevirtual 180, 3) := by decide +kernel
theorem qm_Cd_takeInner_28 : decode qm_Cd_takeInner_c 28 = .ok (.istore_n 2, 1) := by decide +kernel
theorem qm_Cd_takeInner_29 : decode qm_Cd_takeInner_c 29 = .ok (.aload_n 0, 1) := by decide +kernel
theorem qm_Cd_takeInner_30 : decode qm_Cd_takeInner_c 30 = .ok (.getfield 9, 3) := by decide +kernel
theorem qm_Cd_takeInner_33 : decode qm_Cd_takeInner_c 33 = .ok (.iload_n 2, 1) := by decide +kernel
theorem qm_Cd_takeInner_34 : decode qm_Cd_takeInner_c 34 = .ok (.iconst 0, 1) := by decide +kernel
theorem qm_Cd_takeInner_35 : decode qm_Cd_takeInner_c 35 = .ok (.iconst 0, 1) := by decide +kernel
theorem qm_Cd_takeInner_36 : decode qm_Cd_takeInner_c 36 = .ok (.invokevirtual 183, 3) := by decide +kernel
theorem qm_Cd_takeInner_39 : decode qm_Cd_takeInner_c 39 = .ok (.aload_n 0, 1) := by decide +kernel
theorem qm_Cd_takeInner_40 : decode qm_Cd_takeInner_c 40 = .ok (.aload_n 0, 1) := by decide +kernel
theorem qm_Cd_takeInner_41 : decode qm_Cd_takeInner_c 41 = .ok (.getfield 19, 3) := by decide +kernel
theorem qm_Cd_takeInner_44 : decode qm_Cd_takeInner_c 44 = .ok (.iload_n 2, 1) := by decide +kernel
theorem qm_Cd_takeInner_45 : decode qm_Cd_takeInner_c 45 = .ok (.invokevirtual 111, 3) := by decide +kernel
theorem qm_Cd_takeInner_48 : decode qm_Cd_takeInner_c 48 = .ok (.return_, 1) := by decide +kernel
theorem qm_Cd_shift_0 : decode qm_Cd_shift_c 0 = .ok (.iconst 0, 1) := by decide +kernel
theorem qm_Cd_shift_1 : decode qm_Cd_shift_c 1 = .ok (.istore_n 3, 1) := by decide +kernel
theorem qm_Cd_shift_2 : decode qm_Cd_shift_c 2 = .ok (.iconst 0, 1) := by decide +kernel
theorem qm_Cd_shift_3 : decode qm_Cd_shift_c 3 = .ok (.istore 4, 2) := by decide +kernel
theorem qm_Cd_shift_5 : decode qm_Cd_shift_c 5 = .ok (.iload_n 1, 1) := by decide +kernel
theorem qm_Cd_shift_6 : decode qm_Cd_shift_c 6 = .ok (.ifCond .ge 16, 3) := by decide +kernel
theorem qm_Cd_shift_9 : decode qm_Cd_shift_c 9 = .ok (.iload_n 2, 1) := by decide +kernel
theorem qm_Cd_shift_10 : decode qm_Cd_shift_c 10 = .ok (.iload_n 1, 1) := by decide +kernel
theorem qm_Cd_shift_11 : decode qm_Cd_shift_c 11 = .ok (.ineg, 1) := by decide +kernel
theorem qm_Cd_shift_12 : decode qm_Cd_shift_c 12 = .ok (.bipush 31, 2) := by decide +kernel
theorem qm_Cd_shift_14 : decode qm_Cd_shift_c 14 = .ok (.invokestatic 222, 3) := by decide +kernel
theorem qm_Cd_shift_17 : decode qm_Cd_shift_c 17 = .ok (.ishr, 1) := by decide +kernel
theorem qm_Cd_shift_18 : decode qm_Cd_shift_c 18 = .ok (.istore_n 3, 1) := by decide +kernel
theorem qm_Cd_shift_19 : decode qm_Cd_shift_c 19 = .ok (.goto 44, 3) := by decide +kernel
theorem qm_Cd_shift_22 : decode qm_Cd_shift_c 22 = .ok (.iload_n 1, 1) := by decide +kernel
theorem qm_Cd_shift_23 : decode qm_Cd_shift_c 23 = .ok (.bipush 31, 2) := by decide +kernel
theorem qm_Cd_shift_25 : decode qm_Cd_shift_c 25 = .ok (.if_icmp .le 17, 3) := by decide +kernel
theorem qm_Cd_shift_28 : decode qm_Cd_shift_c 28 = .ok (.iload_n 2, 1) := by decide +kernel
theorem qm_Cd_shift_29 : decode qm_Cd_shift_c 29 = .ok (.ifCond .eq 7, 3) := by decide +kernel
theorem qm_Cd_shift_32 : decode qm_Cd_shift_c 32 = .ok (.iconst 1, 1) := by decide +kernel
theorem qm_Cd_shift_33 : decode qm_Cd_shift_c 33 = .ok (.goto 4, 3) := by decide +kernel
theorem qm_Cd_shift_36 : decode qm_Cd_shift_c 36 = .ok (.iconst 0, 1) := by decide +kernel
theorem qm_Cd_shift_37 : decode qm_Cd_shift_c 37 = .ok (.istore 4, 2) := by decide +kernel
theorem qm_Cd_shift_39 : decode qm_Cd_shift_c 39 = .ok (.goto 24, 3) := by decide +kernel
theorem qm_Cd_shift_42 : decode qm_Cd_shift_c 42 = .ok (.iload_n 2, 1) := by decide +kernel
theorem qm_Cd_shift_43 : decode qm_Cd_shift_c 43 = .ok (.iload_n 1, 1) := by decide +kernel
theorem qm_Cd_shift_44 : decode qm_Cd_shift_c 44 = .ok (.ishl, 1) := by decide +kernel
theorem qm_Cd_shift_45 : decode qm_Cd_shift_c 45 = .ok (.istore_n 3, 1) := by decide +kernel
theorem qm_Cd_shift_46 : decode qm_Cd_shift_c 46 = .ok (.iload_n 2, 1) := by decide +kernel
theorem qm_Cd_shift_47 : decode qm_Cd_shift_c 47 = .ok (.i2l, 1) := by decide +kernel
theorem qm_Cd_shift_48 : decode qm_Cd_shift_c 48 = .ok (.iload_n 1, 1) := by decide +kernel
theorem qm_Cd_shift_49 : decode qm_Cd_shift_c 49 = .ok (.lshl, 1) := by decide +kernel
theorem qm_Cd_shift_50 : decode qm_Cd_shift_c 50 = .ok (.iload_n 3, 1) := by decide +kernel
theorem qm_Cd_shift_51 : decode qm_Cd_shift_c 51 = .ok (.i2l, 1) := by decide +kernel
theorem qm_Cd_shift_52 : decode qm_Cd_shift_c 52 = .ok (.lcmp, 1) := by decide +kernel
theorem qm_Cd_shift_53 : decode qm_Cd_shift_c 53 = .ok (.ifCond .eq 7, 3) := by decide +kernel
theorem qm_Cd_shift_56 : decode qm_Cd_shift_c 56 = .ok (.iconst 1, 1) := by decide +kernel
theorem qm_Cd_shift_57 : decode qm_Cd_shift_c 57 = .ok (.goto 4, 3) := by decide +kernel
theorem qm_Cd_shift_60 : decode qm_Cd_shift_c 60 = .ok (.iconst 0, 1) := by decide +kernel
theorem qm_Cd_shift_61 : decode qm_Cd_shift_c 61 = .ok (.istore 4, 2) := by decide +kernel
theorem qm_Cd_shift_63 : decode qm_Cd_shift_c 63 = .ok (.aload_n 0, 1) := by decide +kernel
theorem qm_Cd_shift_64 : decode qm_Cd_shift_c 64 = .ok (.getfield 9, 3) := by decide +kernel
theorem qm_Cd_shift_67 : decode qm_Cd_shift_c 67 = .ok (.iload_n 3, 1) := by decide +kernel
theorem qm_Cd_shift_68 : decode qm_Cd_shift_c 68 = .ok (.iload 4, 2) := by decide +kernel
theorem qm_Cd_shift_70 : decode qm_Cd_shift_c 70 = .ok (.iconst 0, 1) := by decide +kernel
theorem qm_Cd_shift_71 : decode qm_Cd_shift_c 71 = .ok (.invokevirtual 183, 3) := by decide +kernel
theorem qm_Cd_shift_74 : decode qm_Cd_shift_c 74 = .ok (.aload_n 0, 1) := by decide +kernel
theorem qm_Cd_shift_75 : decode qm_Cd_shift_c 75 = .ok (.aload_n 0, 1) := by decide +kernel
theorem qm_Cd_shift_76 : decode qm_Cd_shift_c 76 = .ok (.getfield 22, 3) := by decide +kernel
theorem qm_Cd_shift_79 : decode qm_Cd_shift_c 79 = .ok (.iload_n 3, 1) := by decide +kernel
theorem qm_Cd_shift_80 : decode qm_Cd_shift_c 80 = .ok (.invokevirtual 111, 3) := by decide +kernel
theorem qm_Cd_shift_83 : decode qm_Cd_shift_c 83 = .ok (.return_, 1) := by decide +kernel
set_option maxHeartbeats 4000000 in
set_option maxRecDepth 100000 in
theorem wCd_isAllowed_47 {l : Launch} {D : va_G} {h : Nat → Nat} {K : Nat → ClassId} {res : Int32 × qS} {p : Program} {e : Env} {s : State} {m : MethodId} {args : Array Value} {below : List Frame} {meth : Method} {c : Code} {A : Nat → Prop} {ad : Nat → Nat} (C : qC p s m args meth c qm_Cd_isAllowed_c 3 (some .boolean) qR_Cd ad) (S : qS) (y0 : Int32) (hf : fCd_isAllowed_47 S y0 = some res) : ∀ (H : Heap) (locs : List Loc) (ls : Array Slot), qG D qCl (cT K) A s (cW h K S) H locs → lv_has ls 3 [] → W p l e ({ frames := 1, cells := 0, slots := 0, locals := 20 }) s m args below meth c H locs 0 0 (MQ below (qQi D qCl (cT K) (cW h K) A res) args s 0 0 A) (F0 m 47 ls [.int y0]) := by
  intro H locs ls G hl
  unfold fCd_isAllowed_47 at hf
  exact q_zret (wf := (cW h K)) C G hf qm_Cd_isAllowed_47
set_option maxHeartbeats 4000000 in
set_option maxRecDepth 100000 in
theorem wCd_isAllowed_46 {l : Launch} {D : va_G} {h : Nat → Nat} {K : Nat → ClassId} {res : Int32 × qS} {p : Program} {e : Env} {s : State} {m : MethodId} {args : Array Value} {below : List Frame} {meth : Method} {c : Code} {A : Nat → Prop} {ad : Nat → Nat} (C : qC p s m args meth c qm_Cd_isAllowed_c 3 (some .boolean) qR_Cd ad) (S : qS) (hf : fCd_isAllowed_46 S = some res) : ∀ (H : Heap) (locs : List Loc) (ls : Array Slot), qG D qCl (cT K) A s (cW h K S) H locs → lv_has ls 3 [] → W p l e ({ frames := 1, cells := 0, slots := 0, locals := 20 }) s m args below meth c H locs 0 0 (MQ below (qQi D qCl (cT K) (cW h K) A res) args s 0 0 A) (F0 m 46 ls []) := by
  intro H locs ls G hl
  unfold fCd_isAllowed_46 at hf
  refine lv_iconst (v := 0) C.1 C.2.1 qm_Cd_isAllowed_46 (by decide) ?_
  exact wCd_isAllowed_47 C S 0 hf _ _ _ G (lv_sub hl [] rfl)
set_option maxHeartbeats 4000000 in
set_option maxRecDepth 100000 in
theorem wCd_isAllowed_42 {l : Launch} {D : va_G} {h : Nat → Nat} {K : Nat → ClassId} {res : Int32 × qS} {p : Program} {e : Env} {s : State} {m : MethodId} {args : Array Value} {below : List Frame} {meth : Method} {c : Code} {A : Nat → Prop} {ad : Nat → Nat} (C : qC p s m args meth c qm_Cd_isAllowed_c 3 (some .boolean) qR_Cd ad) (S : qS) (hf : fCd_isAllowed_42 S = some res) : ∀ (H : Heap) (locs : List Loc) (ls : Array Slot), qG D qCl (cT K) A s (cW h K S) H locs → lv_has ls 3 [] → W p l e ({ frames := 1, cells := 0, slots := 0, locals := 20 }) s m args below meth c H locs 0 0 (MQ below (qQi D qCl (cT K) (cW h K) A res) args s 0 0 A) (F0 m 42 ls []) := by
  intro H locs ls G hl
  unfold fCd_isAllowed_42 at hf
  refine lv_iconst (v := 1) C.1 C.2.1 qm_Cd_isAllowed_42 (by decide) ?_
  refine lv_goto (tgt := 47) C.1 C.2.1 qm_Cd_isAllowed_43 (by decide) ?_
  exact wCd_isAllowed_47 C S 1 hf _ _ _ G (lv_sub hl [] rfl)
set_option maxHeartbeats 4000000 in
set_option maxRecDepth 100000 in
theorem wCd_isAllowed_21 {l : Launch} {D : va_G} {h : Nat → Nat} {K : Nat → ClassId} {res : Int32 × qS} {p : Program} {e : Env} {s : State} {m : MethodId} {args : Array Value} {below : List Frame} {meth : Method} {c : Code} {A : Nat → Prop} {ad : Nat → Nat} (C : qC p s m args meth c qm_Cd_isAllowed_c 3 (some .boolean) qR_Cd ad) (S : qS) (x1 : Int32) (y0 : Int32) (hf : fCd_isAllowed_21 S x1 y0 = some res) : ∀ (H : Heap) (locs : List Loc) (ls : Array Slot), qG D qCl (cT K) A s (cW h K S) H locs → lv_has ls 3 [(0, .ref (h 16)), (1, .int x1)] → W p l e ({ frames := 1, cells := 0, slots := 0, locals := 20 }) s m args below meth c H locs 0 0 (MQ below (qQi D qCl (cT K) (cW h K) A res) args s 0 0 A) (F0 m 21 ls [.int y0]) := by
  intro H locs ls G hl
  unfold fCd_isAllowed_21 at hf
  refine lv_istore_n (lv' := [(2, .int y0), (0, .ref (h 16)), (1, .int x1)]) C.1 C.2.1 qm_Cd_isAllowed_21 rfl hl (by decide) rfl (fun ls hl => ?_)
  refine lv_iload_n C.1 C.2.1 qm_Cd_isAllowed_22 rfl (lv_at hl 2 rfl) ?_
  refine lv_bipush (v := 70) C.1 C.2.1 qm_Cd_isAllowed_23 (by decide) ?_
  refine lv_icmp_gt (tgt := 46) C.1 C.2.1 qm_Cd_isAllowed_25 (by decide) (fun b1 => ?_) (fun b1 => ?_)
  · have hf := if_t b1 hf
    exact wCd_isAllowed_46 C S hf _ _ _ G (lv_sub hl [] rfl)
  · have hf := if_f b1 hf
    refine lv_iload_n C.1 C.2.1 qm_Cd_isAllowed_28 rfl (lv_at hl 0 rfl) ?_
    refine lv_if_eq (tgt := 42) C.1 C.2.1 qm_Cd_isAllowed_29 (by decide) (fun b2 => ?_) (fun b2 => ?_)
    · have hf := if_t b2 hf
      exact wCd_isAllowed_42 C S hf _ _ _ G (lv_sub hl [] rfl)
    · have hf := if_f b2 hf
      refine lv_aload_n C.1 C.2.1 qm_Cd_isAllowed_32 rfl (lv_at hl 1 rfl) ?_
      refine q_get (wf := (cW h K)) (v := .ref (h 5)) C G qi_Cd 16 rfl rfl 0 (by decide) qz_218 rfl qm_Cd_isAllowed_33 ?_
      obtain ⟨q3, c3, hf⟩ := bnd_s hf
      refine q_callVi (wf := (cW h K)) (n := 0) (As := []) (q0 := 5) (ci := 1) C G hl.1 (kCo_mode (l := l) c3) qx_Cd_25 qm_Co_mode_d ⟨by decide, by decide⟩ ⟨Nat.le_refl _, Nat.le_refl _⟩ rfl rfl rfl rfl rfl (Nat.le_of_ble_eq_true rfl) qm_Cd_isAllowed_36 (fun H locs G => ?_)
      refine lv_if_ne (tgt := 46) C.1 C.2.1 qm_Cd_isAllowed_39 (by decide) (fun b4 => ?_) (fun b4 => ?_)
      · have hf := if_t b4 hf
        exact wCd_isAllowed_46 C q3.2 hf _ _ _ G (lv_sub hl [] rfl)
      · have hf := if_f (not_not_intro b4) hf
        exact wCd_isAllowed_42 C q3.2 hf _ _ _ G (lv_sub hl [] rfl)
set_option maxHeartbeats 4000000 in
set_option maxRecDepth 100000 in
theorem wCd_isAllowed_16 {l : Launch} {D : va_G} {h : Nat → Nat} {K : Nat → ClassId} {res : Int32 × qS} {p : Program} {e : Env} {s : State} {m : MethodId} {args : Array Value} {below : List Frame} {meth : Method} {c : Code} {A : Nat → Prop} {ad : Nat → Nat} (C : qC p s m args meth c qm_Cd_isAllowed_c 3 (some .boolean) qR_Cd ad) (S : qS) (x1 : Int32) (hf : fCd_isAllowed_16 S x1 = some res) : ∀ (H : Heap) (locs : List Loc) (ls : Array Slot), qG D qCl (cT K) A s (cW h K S) H locs → lv_has ls 3 [(0, .ref (h 16)), (1, .int x1)] → W p l e ({ frames := 1, cells := 0, slots := 0, locals := 20 }) s m args below meth c H locs 0 0 (MQ below (qQi D qCl (cT K) (cW h K) A res) args s 0 0 A) (F0 m 16 ls []) := by
  intro H locs ls G hl
  unfold fCd_isAllowed_16 at hf
  refine lv_iconst (v := 1) C.1 C.2.1 qm_Cd_isAllowed_16 (by decide) ?_
  refine lv_goto (tgt := 21) C.1 C.2.1 qm_Cd_isAllowed_17 (by decide) ?_
  exact wCd_isAllowed_21 C S x1 1 hf _ _ _ G (lv_sub hl [0, 1] rfl)
set_option maxHeartbeats 4000000 in
set_option maxRecDepth 100000 in
theorem wCd_isAllowed {l : Launch} {D : va_G} {h : Nat → Nat} {K : Nat → ClassId} {res : Int32 × qS} {p : Program} {e : Env} {s : State} {m : MethodId} {args : Array Value} {below : List Frame} {meth : Method} {c : Code} {A : Nat → Prop} {ad : Nat → Nat} (C : qC p s m args meth c qm_Cd_isAllowed_c 3 (some .boolean) qR_Cd ad) (S : qS) (a1 : Int32) (hf : fCd_isAllowed S a1 = some res) : ∀ (H : Heap) (locs : List Loc) (ls : Array Slot), qG D qCl (cT K) A s (cW h K S) H locs → lv_has ls 3 [(0, .ref (h 16)), (1, .int a1)] → W p l e ({ frames := 1, cells := 0, slots := 0, locals := 20 }) s m args below meth c H locs 0 0 (MQ below (qQi D qCl (cT K) (cW h K) A res) args s 0 0 A) (F0 m 0 ls []) := by
  intro H locs ls G hl
  unfold fCd_isAllowed at hf
  refine lv_iload_n C.1 C.2.1 qm_Cd_isAllowed_0 rfl (lv_at hl 1 rfl) ?_
  refine lv_if_eq (tgt := 16) C.1 C.2.1 qm_Cd_isAllowed_1 (by decide) (fun b1 => ?_) (fun b1 => ?_)
  · have hf := if_t b1 hf
    exact wCd_isAllowed_16 C S a1 hf _ _ _ G (lv_sub hl [0, 1] rfl)
  · have hf := if_f b1 hf
    refine lv_iload_n C.1 C.2.1 qm_Cd_isAllowed_4 rfl (lv_at hl 1 rfl) ?_
    refine lv_bipush (v := 10) C.1 C.2.1 qm_Cd_isAllowed_5 (by decide) ?_
    refine lv_icmp_eq (tgt := 16) C.1 C.2.1 qm_Cd_isAllowed_7 (by decide) (fun b2 => ?_) (fun b2 => ?_)
    · have hf := if_t b2 hf
      exact wCd_isAllowed_16 C S a1 hf _ _ _ G (lv_sub hl [0, 1] rfl)
    · have hf := if_f b2 hf
      refine lv_iload_n C.1 C.2.1 qm_Cd_isAllowed_10 rfl (lv_at hl 1 rfl) ?_
      refine lv_bipush (v := 11) C.1 C.2.1 qm_Cd_isAllowed_11 (by decide) ?_
      refine lv_icmp_ne (tgt := 20) C.1 C.2.1 qm_Cd_isAllowed_13 (by decide) (fun b3 => ?_) (fun b3 => ?_)
      · have hf := if_t b3 hf
        refine lv_iconst (v := 0) C.1 C.2.1 qm_Cd_isAllowed_20 (by decide) ?_
        exact wCd_isAllowed_21 C S a1 0 hf _ _ _ G (lv_sub hl [0, 1] rfl)
      · have hf := if_f (not_not_intro b3) hf
        exact wCd_isAllowed_16 C S a1 hf _ _ _ G (lv_sub hl [0, 1] rfl)
theorem kCd_isAllowed {l : Launch} {ad : Nat → Nat} {D : va_G} {h : Nat → Nat} {K : Nat → ClassId} {res : Int32 × qS} {S : qS} {a1 : Int32} (hf : fCd_isAllowed S a1 = some res) : qMi l qm_Cd_isAllowed qm_Cd_isAllowed_c 3 .boolean 1 20 D qCl (cT K) ad (cW h K) [.ref (h 16), .int a1] S res := qMi_of (by decide) (Nat.le_of_ble_eq_true rfl) (fun _ _ _ _ _ _ _ _ _ _ C G hl => wCd_isAllowed C S a1 hf _ _ _ G hl)
set_option maxHeartbeats 4000000 in
set_option maxRecDepth 100000 in
theorem wCd_shapeOf_276 {l : Launch} {D : va_G} {h : Nat → Nat} {K : Nat → ClassId} {res : Nat × qS} {p : Program} {e : Env} {s : State} {m : MethodId} {args : Array Value} {below : List Frame} {meth : Method} {c : Code} {A : Nat → Prop} {ad : Nat → Nat} (C : qC p s m args meth c qm_Cd_shapeOf_c 2 (some (.object "java/lang/String")) qR_Cd ad) (S : qS) (hf : fCd_shapeOf_276 S = some res) : ∀ (H : Heap) (locs : List Loc) (ls : Array Slot), qG D qCl (cT K) A s (cW h K S) H locs → lv_has ls 2 [] → W p l e ({ frames := 0, cells := 0, slots := 0, locals := 0 }) s m args below meth c H locs 0 0 (MQ below (qQs D qCl (cT K) ad (cW h K) A res) args s 0 0 A) (F0 m 276 ls []) := by
  intro H locs ls G hl
  unfold fCd_shapeOf_276 at hf
  refine va_ldcS C.1 C.2.1 C.2.2.2.1 (C.2.2.2.2.2.2.2.2 0 (by decide)) qm_Cd_shapeOf_276 ?_
  exact q_sret (wf := (cW h K)) C G hf qm_Cd_shapeOf_278
set_option maxHeartbeats 4000000 in
set_option maxRecDepth 100000 in
theorem wCd_shapeOf_279 {l : Launch} {D : va_G} {h : Nat → Nat} {K : Nat → ClassId} {res : Nat × qS} {p : Program} {e : Env} {s : State} {m : MethodId} {args : Array Value} {below : List Frame} {meth : Method} {c : Code} {A : Nat → Prop} {ad : Nat → Nat} (C : qC p s m args meth c qm_Cd_shapeOf_c 2 (some (.object "java/lang/String")) qR_Cd ad) (S : qS) (hf : fCd_shapeOf_279 S = some res) : ∀ (H : Heap) (locs : List Loc) (ls : Array Slot), qG D qCl (cT K) A s (cW h K S) H locs → lv_has ls 2 [] → W p l e ({ frames := 0, cells := 0, slots := 0, locals := 0 }) s m args below meth c H locs 0 0 (MQ below (qQs D qCl (cT K) ad (cW h K) A res) args s 0 0 A) (F0 m 279 ls []) := by
  intro H locs ls G hl
  unfold fCd_shapeOf_279 at hf
  refine va_ldcS C.1 C.2.1 C.2.2.2.1 (C.2.2.2.2.2.2.2.2 1 (by decide)) qm_Cd_shapeOf_279 ?_
  exact q_sret (wf := (cW h K)) C G hf qm_Cd_shapeOf_281
set_option maxHeartbeats 4000000 in
set_option maxRecDepth 100000 in
theorem wCd_shapeOf_282 {l : Launch} {D : va_G} {h : Nat → Nat} {K : Nat → ClassId} {res : Nat × qS} {p : Program} {e : Env} {s : State} {m : MethodId} {args : Array Value} {below : List Frame} {meth : Method} {c : Code} {A : Nat → Prop} {ad : Nat → Nat} (C : qC p s m args meth c qm_Cd_shapeOf_c 2 (some (.object "java/lang/String")) qR_Cd ad) (S : qS) (hf : fCd_shapeOf_282 S = some res) : ∀ (H : Heap) (locs : List Loc) (ls : Array Slot), qG D qCl (cT K) A s (cW h K S) H locs → lv_has ls 2 [] → W p l e ({ frames := 0, cells := 0, slots := 0, locals := 0 }) s m args below meth c H locs 0 0 (MQ below (qQs D qCl (cT K) ad (cW h K) A res) args s 0 0 A) (F0 m 282 ls []) := by
  intro H locs ls G hl
  unfold fCd_shapeOf_282 at hf
  refine va_ldcS C.1 C.2.1 C.2.2.2.1 (C.2.2.2.2.2.2.2.2 2 (by decide)) qm_Cd_shapeOf_282 ?_
  exact q_sret (wf := (cW h K)) C G hf qm_Cd_shapeOf_284
set_option maxHeartbeats 4000000 in
set_option maxRecDepth 100000 in
theorem wCd_shapeOf_285 {l : Launch} {D : va_G} {h : Nat → Nat} {K : Nat → ClassId} {res : Nat × qS} {p : Program} {e : Env} {s : State} {m : MethodId} {args : Array Value} {below : List Frame} {meth : Method} {c : Code} {A : Nat → Prop} {ad : Nat → Nat} (C : qC p s m args meth c qm_Cd_shapeOf_c 2 (some (.object "java/lang/String")) qR_Cd ad) (S : qS) (hf : fCd_shapeOf_285 S = some res) : ∀ (H : Heap) (locs : List Loc) (ls : Array Slot), qG D qCl (cT K) A s (cW h K S) H locs → lv_has ls 2 [] → W p l e ({ frames := 0, cells := 0, slots := 0, locals := 0 }) s m args below meth c H locs 0 0 (MQ below (qQs D qCl (cT K) ad (cW h K) A res) args s 0 0 A) (F0 m 285 ls []) := by
  intro H locs ls G hl
  unfold fCd_shapeOf_285 at hf
  refine va_ldcS C.1 C.2.1 C.2.2.2.1 (C.2.2.2.2.2.2.2.2 3 (by decide)) qm_Cd_shapeOf_285 ?_
  exact q_sret (wf := (cW h K)) C G hf qm_Cd_shapeOf_287
set_option maxHeartbeats 4000000 in
set_option maxRecDepth 100000 in
theorem wCd_shapeOf_288 {l : Launch} {D : va_G} {h : Nat → Nat} {K : Nat → ClassId} {res : Nat × qS} {p : Program} {e : Env} {s : State} {m : MethodId} {args : Array Value} {below : List Frame} {meth : Method} {c : Code} {A : Nat → Prop} {ad : Nat → Nat} (C : qC p s m args meth c qm_Cd_shapeOf_c 2 (some (.object "java/lang/String")) qR_Cd ad) (S : qS) (hf : fCd_shapeOf_288 S = some res) : ∀ (H : Heap) (locs : List Loc) (ls : Array Slot), qG D qCl (cT K) A s (cW h K S) H locs → lv_has ls 2 [] → W p l e ({ frames := 0, cells := 0, slots := 0, locals := 0 }) s m args below meth c H locs 0 0 (MQ below (qQs D qCl (cT K) ad (cW h K) A res) args s 0 0 A) (F0 m 288 ls []) := by
  intro H locs ls G hl
  unfold fCd_shapeOf_288 at hf
  refine va_ldcS C.1 C.2.1 C.2.2.2.1 (C.2.2.2.2.2.2.2.2 4 (by decide)) qm_Cd_shapeOf_288 ?_
  exact q_sret (wf := (cW h K)) C G hf qm_Cd_shapeOf_290
set_option maxHeartbeats 4000000 in
set_option maxRecDepth 100000 in
theorem wCd_shapeOf_291 {l : Launch} {D : va_G} {h : Nat → Nat} {K : Nat → ClassId} {res : Nat × qS} {p : Program} {e : Env} {s : State} {m : MethodId} {args : Array Value} {below : List Frame} {meth : Method} {c : Code} {A : Nat → Prop} {ad : Nat → Nat} (C : qC p s m args meth c qm_Cd_shapeOf_c 2 (some (.object "java/lang/String")) qR_Cd ad) (S : qS) (hf : fCd_shapeOf_291 S = some res) : ∀ (H : Heap) (locs : List Loc) (ls : Array Slot), qG D qCl (cT K) A s (cW h K S) H locs → lv_has ls 2 [] → W p l e ({ frames := 0, cells := 0, slots := 0, locals := 0 }) s m args below meth c H locs 0 0 (MQ below (qQs D qCl (cT K) ad (cW h K) A res) args s 0 0 A) (F0 m 291 ls []) := by
  intro H locs ls G hl
  unfold fCd_shapeOf_291 at hf
  refine va_ldcS C.1 C.2.1 C.2.2.2.1 (C.2.2.2.2.2.2.2.2 5 (by decide)) qm_Cd_shapeOf_291 ?_
  exact q_sret (wf := (cW h K)) C G hf qm_Cd_shapeOf_293
set_option maxHeartbeats 4000000 in
set_option maxRecDepth 100000 in
theorem wCd_shapeOf_294 {l : Launch} {D : va_G} {h : Nat → Nat} {K : Nat → ClassId} {res : Nat × qS} {p : Program} {e : Env} {s : State} {m : MethodId} {args : Array Value} {below : List Frame} {meth : Method} {c : Code} {A : Nat → Prop} {ad : Nat → Nat} (C : qC p s m args meth c qm_Cd_shapeOf_c 2 (some (.object "java/lang/String")) qR_Cd ad) (S : qS) (hf : fCd_shapeOf_294 S = some res) : ∀ (H : Heap) (locs : List Loc) (ls : Array Slot), qG D qCl (cT K) A s (cW h K S) H locs → lv_has ls 2 [] → W p l e ({ frames := 0, cells := 0, slots := 0, locals := 0 }) s m args below meth c H locs 0 0 (MQ below (qQs D qCl (cT K) ad (cW h K) A res) args s 0 0 A) (F0 m 294 ls []) := by
  intro H locs ls G hl
  unfold fCd_shapeOf_294 at hf
  refine va_ldcS C.1 C.2.1 C.2.2.2.1 (C.2.2.2.2.2.2.2.2 6 (by decide)) qm_Cd_shapeOf_294 ?_
  exact q_sret (wf := (cW h K)) C G hf qm_Cd_shapeOf_296
set_option maxHeartbeats 4000000 in
set_option maxRecDepth 100000 in
theorem wCd_shapeOf_297 {l : Launch} {D : va_G} {h : Nat → Nat} {K : Nat → ClassId} {res : Nat × qS} {p : Program} {e : Env} {s : State} {m : MethodId} {args : Array Value} {below : List Frame} {meth : Method} {c : Code} {A : Nat → Prop} {ad : Nat → Nat} (C : qC p s m args meth c qm_Cd_shapeOf_c 2 (some (.object "java/lang/String")) qR_Cd ad) (S : qS) (hf : fCd_shapeOf_297 S = some res) : ∀ (H : Heap) (locs : List Loc) (ls : Array Slot), qG D qCl (cT K) A s (cW h K S) H locs → lv_has ls 2 [] → W p l e ({ frames := 0, cells := 0, slots := 0, locals := 0 }) s m args below meth c H locs 0 0 (MQ below (qQs D qCl (cT K) ad (cW h K) A res) args s 0 0 A) (F0 m 297 ls []) := by
  intro H locs ls G hl
  unfold fCd_shapeOf_297 at hf
  refine va_ldcS C.1 C.2.1 C.2.2.2.1 (C.2.2.2.2.2.2.2.2 7 (by decide)) qm_Cd_shapeOf_297 ?_
  exact q_sret (wf := (cW h K)) C G hf qm_Cd_shapeOf_299
set_option maxHeartbeats 4000000 in
set_option maxRecDepth 100000 in
theorem wCd_shapeOf_300 {l : Launch} {D : va_G} {h : Nat → Nat} {K : Nat → ClassId} {res : Nat × qS} {p : Program} {e : Env} {s : State} {m : MethodId} {args : Array Value} {below : List Frame} {meth : Method} {c : Code} {A : Nat → Prop} {ad : Nat → Nat} (C : qC p s m args meth c qm_Cd_shapeOf_c 2 (some (.object "java/lang/String")) qR_Cd ad) (S : qS) (hf : fCd_shapeOf_300 S = some res) : ∀ (H : Heap) (locs : List Loc) (ls : Array Slot), qG D qCl (cT K) A s (cW h K S) H locs → lv_has ls 2 [] → W p l e ({ frames := 0, cells := 0, slots := 0, locals := 0 }) s m args below meth c H locs 0 0 (MQ below (qQs D qCl (cT K) ad (cW h K) A res) args s 0 0 A) (F0 m 300 ls []) := by
  intro H locs ls G hl
  unfold fCd_shapeOf_300 at hf
  refine va_ldcS C.1 C.2.1 C.2.2.2.1 (C.2.2.2.2.2.2.2.2 8 (by decide)) qm_Cd_shapeOf_300 ?_
  exact q_sret (wf := (cW h K)) C G hf qm_Cd_shapeOf_302
set_option maxHeartbeats 4000000 in
set_option maxRecDepth 100000 in
theorem wCd_shapeOf_303 {l : Launch} {D : va_G} {h : Nat → Nat} {K : Nat → ClassId} {res : Nat × qS} {p : Program} {e : Env} {s : State} {m : MethodId} {args : Array Value} {below : List Frame} {meth : Method} {c : Code} {A : Nat → Prop} {ad : Nat → Nat} (C : qC p s m args meth c qm_Cd_shapeOf_c 2 (some (.object "java/lang/String")) qR_Cd ad) (S : qS) (hf : fCd_shapeOf_303 S = some res) : ∀ (H : Heap) (locs : List Loc) (ls : Array Slot), qG D qCl (cT K) A s (cW h K S) H locs → lv_has ls 2 [] → W p l e ({ frames := 0, cells := 0, slots := 0, locals := 0 }) s m args below meth c H locs 0 0 (MQ below (qQs D qCl (cT K) ad (cW h K) A res) args s 0 0 A) (F0 m 303 ls []) := by
  intro H locs ls G hl
  unfold fCd_shapeOf_303 at hf
  refine va_ldcS C.1 C.2.1 C.2.2.2.1 (C.2.2.2.2.2.2.2.2 9 (by decide)) qm_Cd_shapeOf_303 ?_
  exact q_sret (wf := (cW h K)) C G hf qm_Cd_shapeOf_305
set_option maxHeartbeats 4000000 in
set_option maxRecDepth 100000 in
theorem wCd_shapeOf_306 {l : Launch} {D : va_G} {h : Nat → Nat} {K : Nat → ClassId} {res : Nat × qS} {p : Program} {e : Env} {s : State} {m : MethodId} {args : Array Value} {below : List Frame} {meth : Method} {c : Code} {A : Nat → Prop} {ad : Nat → Nat} (C : qC p s m args meth c qm_Cd_shapeOf_c 2 (some (.object "java/lang/String")) qR_Cd ad) (S : qS) (hf : fCd_shapeOf_306 S = some res) : ∀ (H : Heap) (locs : List Loc) (ls : Array Slot), qG D qCl (cT K) A s (cW h K S) H locs → lv_has ls 2 [] → W p l e ({ frames := 0, cells := 0, slots := 0, locals := 0 }) s m args below meth c H locs 0 0 (MQ below (qQs D qCl (cT K) ad (cW h K) A res) args s 0 0 A) (F0 m 306 ls []) := by
  intro H locs ls G hl
  unfold fCd_shapeOf_306 at hf
  refine va_ldcS C.1 C.2.1 C.2.2.2.1 (C.2.2.2.2.2.2.2.2 10 (by decide)) qm_Cd_shapeOf_306 ?_
  exact q_sret (wf := (cW h K)) C G hf qm_Cd_shapeOf_308
set_option maxHeartbeats 4000000 in
set_option maxRecDepth 100000 in
theorem wCd_shapeOf_309 {l : Launch} {D : va_G} {h : Nat → Nat} {K : Nat → ClassId} {res : Nat × qS} {p : Program} {e : Env} {s : State} {m : MethodId} {args : Array Value} {below : List Frame} {meth : Method} {c : Code} {A : Nat → Prop} {ad : Nat → Nat} (C : qC p s m args meth c qm_Cd_shapeOf_c 2 (some (.object "java/lang/String")) qR_Cd ad) (S : qS) (hf : fCd_shapeOf_309 S = some res) : ∀ (H : Heap) (locs : List Loc) (ls : Array Slot), qG D qCl (cT K) A s (cW h K S) H locs → lv_has ls 2 [] → W p l e ({ frames := 0, cells := 0, slots := 0, locals := 0 }) s m args below meth c H locs 0 0 (MQ below (qQs D qCl (cT K) ad (cW h K) A res) args s 0 0 A) (F0 m 309 ls []) := by
  intro H locs ls G hl
  unfold fCd_shapeOf_309 at hf
  refine va_ldcS C.1 C.2.1 C.2.2.2.1 (C.2.2.2.2.2.2.2.2 11 (by decide)) qm_Cd_shapeOf_309 ?_
  exact q_sret (wf := (cW h K)) C G hf qm_Cd_shapeOf_311
set_option maxHeartbeats 4000000 in
set_option maxRecDepth 100000 in
theorem wCd_shapeOf_312 {l : Launch} {D : va_G} {h : Nat → Nat} {K : Nat → ClassId} {res : Nat × qS} {p : Program} {e : Env} {s : State} {m : MethodId} {args : Array Value} {below : List Frame} {meth : Method} {c : Code} {A : Nat → Prop} {ad : Nat → Nat} (C : qC p s m args meth c qm_Cd_shapeOf_c 2 (some (.object "java/lang/String")) qR_Cd ad) (S : qS) (hf : fCd_shapeOf_312 S = some res) : ∀ (H : Heap) (locs : List Loc) (ls : Array Slot), qG D qCl (cT K) A s (cW h K S) H locs → lv_has ls 2 [] → W p l e ({ frames := 0, cells := 0, slots := 0, locals := 0 }) s m args below meth c H locs 0 0 (MQ below (qQs D qCl (cT K) ad (cW h K) A res) args s 0 0 A) (F0 m 312 ls []) := by
  intro H locs ls G hl
  unfold fCd_shapeOf_312 at hf
  refine va_ldcS C.1 C.2.1 C.2.2.2.1 (C.2.2.2.2.2.2.2.2 12 (by decide)) qm_Cd_shapeOf_312 ?_
  exact q_sret (wf := (cW h K)) C G hf qm_Cd_shapeOf_314
set_option maxHeartbeats 4000000 in
set_option maxRecDepth 100000 in
theorem wCd_shapeOf_315 {l : Launch} {D : va_G} {h : Nat → Nat} {K : Nat → ClassId} {res : Nat × qS} {p : Program} {e : Env} {s : State} {m : MethodId} {args : Array Value} {below : List Frame} {meth : Method} {c : Code} {A : Nat → Prop} {ad : Nat → Nat} (C : qC p s m args meth c qm_Cd_shapeOf_c 2 (some (.object "java/lang/String")) qR_Cd ad) (S : qS) (hf : fCd_shapeOf_315 S = some res) : ∀ (H : Heap) (locs : List Loc) (ls : Array Slot), qG D qCl (cT K) A s (cW h K S) H locs → lv_has ls 2 [] → W p l e ({ frames := 0, cells := 0, slots := 0, locals := 0 }) s m args below meth c H locs 0 0 (MQ below (qQs D qCl (cT K) ad (cW h K) A res) args s 0 0 A) (F0 m 315 ls []) := by
  intro H locs ls G hl
  unfold fCd_shapeOf_315 at hf
  refine va_ldcS C.1 C.2.1 C.2.2.2.1 (C.2.2.2.2.2.2.2.2 13 (by decide)) qm_Cd_shapeOf_315 ?_
  exact q_sret (wf := (cW h K)) C G hf qm_Cd_shapeOf_317
set_option maxHeartbeats 4000000 in
set_option maxRecDepth 100000 in
theorem wCd_shapeOf_318 {l : Launch} {D : va_G} {h : Nat → Nat} {K : Nat → ClassId} {res : Nat × qS} {p : Program} {e : Env} {s : State} {m : MethodId} {args : Array Value} {below : List Frame} {meth : Method} {c : Code} {A : Nat → Prop} {ad : Nat → Nat} (C : qC p s m args meth c qm_Cd_shapeOf_c 2 (some (.object "java/lang/String")) qR_Cd ad) (S : qS) (hf : fCd_shapeOf_318 S = some res) : ∀ (H : Heap) (locs : List Loc) (ls : Array Slot), qG D qCl (cT K) A s (cW h K S) H locs → lv_has ls 2 [] → W p l e ({ frames := 0, cells := 0, slots := 0, locals := 0 }) s m args below meth c H locs 0 0 (MQ below (qQs D qCl (cT K) ad (cW h K) A res) args s 0 0 A) (F0 m 318 ls []) := by
  intro H locs ls G hl
  unfold fCd_shapeOf_318 at hf
  refine va_ldcS C.1 C.2.1 C.2.2.2.1 (C.2.2.2.2.2.2.2.2 14 (by decide)) qm_Cd_shapeOf_318 ?_
  exact q_sret (wf := (cW h K)) C G hf qm_Cd_shapeOf_320
set_option maxHeartbeats 4000000 in
set_option maxRecDepth 100000 in
theorem wCd_shapeOf_321 {l : Launch} {D : va_G} {h : Nat → Nat} {K : Nat → ClassId} {res : Nat × qS} {p : Program} {e : Env} {s : State} {m : MethodId} {args : Array Value} {below : List Frame} {meth : Method} {c : Code} {A : Nat → Prop} {ad : Nat → Nat} (C : qC p s m args meth c qm_Cd_shapeOf_c 2 (some (.object "java/lang/String")) qR_Cd ad) (S : qS) (hf : fCd_shapeOf_321 S = some res) : ∀ (H : Heap) (locs : List Loc) (ls : Array Slot), qG D qCl (cT K) A s (cW h K S) H locs → lv_has ls 2 [] → W p l e ({ frames := 0, cells := 0, slots := 0, locals := 0 }) s m args below meth c H locs 0 0 (MQ below (qQs D qCl (cT K) ad (cW h K) A res) args s 0 0 A) (F0 m 321 ls []) := by
  intro H locs ls G hl
  unfold fCd_shapeOf_321 at hf
  refine va_ldcS C.1 C.2.1 C.2.2.2.1 (C.2.2.2.2.2.2.2.2 15 (by decide)) qm_Cd_shapeOf_321 ?_
  exact q_sret (wf := (cW h K)) C G hf qm_Cd_shapeOf_323
set_option maxHeartbeats 4000000 in
set_option maxRecDepth 100000 in
theorem wCd_shapeOf_324 {l : Launch} {D : va_G} {h : Nat → Nat} {K : Nat → ClassId} {res : Nat × qS} {p : Program} {e : Env} {s : State} {m : MethodId} {args : Array Value} {below : List Frame} {meth : Method} {c : Code} {A : Nat → Prop} {ad : Nat → Nat} (C : qC p s m args meth c qm_Cd_shapeOf_c 2 (some (.object "java/lang/String")) qR_Cd ad) (S : qS) (hf : fCd_shapeOf_324 S = some res) : ∀ (H : Heap) (locs : List Loc) (ls : Array Slot), qG D qCl (cT K) A s (cW h K S) H locs → lv_has ls 2 [] → W p l e ({ frames := 0, cells := 0, slots := 0, locals := 0 }) s m args below meth c H locs 0 0 (MQ below (qQs D qCl (cT K) ad (cW h K) A res) args s 0 0 A) (F0 m 324 ls []) := by
  intro H locs ls G hl
  unfold fCd_shapeOf_324 at hf
  refine va_ldcS C.1 C.2.1 C.2.2.2.1 (C.2.2.2.2.2.2.2.2 16 (by decide)) qm_Cd_shapeOf_324 ?_
  exact q_sret (wf := (cW h K)) C G hf qm_Cd_shapeOf_326
set_option maxHeartbeats 4000000 in
set_option maxRecDepth 100000 in
theorem wCd_shapeOf_361 {l : Launch} {D : va_G} {h : Nat → Nat} {K : Nat → ClassId} {res : Nat × qS} {p : Program} {e : Env} {s : State} {m : MethodId} {args : Array Value} {below : List Frame} {meth : Method} {c : Code} {A : Nat → Prop} {ad : Nat → Nat} (C : qC p s m args meth c qm_Cd_shapeOf_c 2 (some (.object "java/lang/String")) qR_Cd ad) (S : qS) (jy0 : Nat) (hf : fCd_shapeOf_361 S jy0 = some res) : ∀ (H : Heap) (locs : List Loc) (ls : Array Slot), qG D qCl (cT K) A s (cW h K S) H locs → lv_has ls 2 [] → W p l e ({ frames := 0, cells := 0, slots := 0, locals := 0 }) s m args below meth c H locs 0 0 (MQ below (qQs D qCl (cT K) ad (cW h K) A res) args s 0 0 A) (F0 m 361 ls [.ref (ad jy0)]) := by
  intro H locs ls G hl
  unfold fCd_shapeOf_361 at hf
  exact q_sret (wf := (cW h K)) C G hf qm_Cd_shapeOf_361
set_option maxHeartbeats 4000000 in
set_option maxRecDepth 100000 in
theorem wCd_shapeOf_359 {l : Launch} {D : va_G} {h : Nat → Nat} {K : Nat → ClassId} {res : Nat × qS} {p : Program} {e : Env} {s : State} {m : MethodId} {args : Array Value} {below : List Frame} {meth : Method} {c : Code} {A : Nat → Prop} {ad : Nat → Nat} (C : qC p s m args meth c qm_Cd_shapeOf_c 2 (some (.object "java/lang/String")) qR_Cd ad) (S : qS) (hf : fCd_shapeOf_359 S = some res) : ∀ (H : Heap) (locs : List Loc) (ls : Array Slot), qG D qCl (cT K) A s (cW h K S) H locs → lv_has ls 2 [] → W p l e ({ frames := 0, cells := 0, slots := 0, locals := 0 }) s m args below meth c H locs 0 0 (MQ below (qQs D qCl (cT K) ad (cW h K) A res) args s 0 0 A) (F0 m 359 ls []) := by
  intro H locs ls G hl
  unfold fCd_shapeOf_359 at hf
  refine va_ldcS C.1 C.2.1 C.2.2.2.1 (C.2.2.2.2.2.2.2.2 23 (by decide)) qm_Cd_shapeOf_359 ?_
  exact wCd_shapeOf_361 C S 23 hf _ _ _ G (lv_sub hl [] rfl)
set_option maxHeartbeats 4000000 in
set_option maxRecDepth 100000 in
theorem wCd_shapeOf_342 {l : Launch} {D : va_G} {h : Nat → Nat} {K : Nat → ClassId} {res : Nat × qS} {p : Program} {e : Env} {s : State} {m : MethodId} {args : Array Value} {below : List Frame} {meth : Method} {c : Code} {A : Nat → Prop} {ad : Nat → Nat} (C : qC p s m args meth c qm_Cd_shapeOf_c 2 (some (.object "java/lang/String")) qR_Cd ad) (S : qS) (x1 : Int32) (hf : fCd_shapeOf_342 S x1 = some res) : ∀ (H : Heap) (locs : List Loc) (ls : Array Slot), qG D qCl (cT K) A s (cW h K S) H locs → lv_has ls 2 [(1, .int x1)] → W p l e ({ frames := 0, cells := 0, slots := 0, locals := 0 }) s m args below meth c H locs 0 0 (MQ below (qQs D qCl (cT K) ad (cW h K) A res) args s 0 0 A) (F0 m 342 ls []) := by
  intro H locs ls G hl
  unfold fCd_shapeOf_342 at hf
  refine lv_iload_n C.1 C.2.1 qm_Cd_shapeOf_342 rfl (lv_at hl 0 rfl) ?_
  refine lv_bipush (v := 48) C.1 C.2.1 qm_Cd_shapeOf_343 (by decide) ?_
  refine lv_icmp_lt (tgt := 359) C.1 C.2.1 qm_Cd_shapeOf_345 (by decide) (fun b1 => ?_) (fun b1 => ?_)
  · have hf := if_t b1 hf
    exact wCd_shapeOf_359 C S hf _ _ _ G (lv_sub hl [] rfl)
  · have hf := if_f b1 hf
    refine lv_iload_n C.1 C.2.1 qm_Cd_shapeOf_348 rfl (lv_at hl 0 rfl) ?_
    refine lv_bipush (v := 61) C.1 C.2.1 qm_Cd_shapeOf_349 (by decide) ?_
    refine lv_icmp_gt (tgt := 359) C.1 C.2.1 qm_Cd_shapeOf_351 (by decide) (fun b2 => ?_) (fun b2 => ?_)
    · have hf := if_t b2 hf
      exact wCd_shapeOf_359 C S hf _ _ _ G (lv_sub hl [] rfl)
    · have hf := if_f b2 hf
      refine va_ldcS C.1 C.2.1 C.2.2.2.1 (C.2.2.2.2.2.2.2.2 22 (by decide)) qm_Cd_shapeOf_354 ?_
      refine lv_goto (tgt := 361) C.1 C.2.1 qm_Cd_shapeOf_356 (by decide) ?_
      exact wCd_shapeOf_361 C S 22 hf _ _ _ G (lv_sub hl [] rfl)
set_option maxHeartbeats 4000000 in
set_option maxRecDepth 100000 in
theorem wCd_shapeOf_327 {l : Launch} {D : va_G} {h : Nat → Nat} {K : Nat → ClassId} {res : Nat × qS} {p : Program} {e : Env} {s : State} {m : MethodId} {args : Array Value} {below : List Frame} {meth : Method} {c : Code} {A : Nat → Prop} {ad : Nat → Nat} (C : qC p s m args meth c qm_Cd_shapeOf_c 2 (some (.object "java/lang/String")) qR_Cd ad) (S : qS) (hf : fCd_shapeOf_327 S = some res) : ∀ (H : Heap) (locs : List Loc) (ls : Array Slot), qG D qCl (cT K) A s (cW h K S) H locs → lv_has ls 2 [] → W p l e ({ frames := 0, cells := 0, slots := 0, locals := 0 }) s m args below meth c H locs 0 0 (MQ below (qQs D qCl (cT K) ad (cW h K) A res) args s 0 0 A) (F0 m 327 ls []) := by
  intro H locs ls G hl
  unfold fCd_shapeOf_327 at hf
  refine va_ldcS C.1 C.2.1 C.2.2.2.1 (C.2.2.2.2.2.2.2.2 17 (by decide)) qm_Cd_shapeOf_327 ?_
  exact q_sret (wf := (cW h K)) C G hf qm_Cd_shapeOf_329
set_option maxHeartbeats 4000000 in
set_option maxRecDepth 100000 in
theorem wCd_shapeOf_330 {l : Launch} {D : va_G} {h : Nat → Nat} {K : Nat → ClassId} {res : Nat × qS} {p : Program} {e : Env} {s : State} {m : MethodId} {args : Array Value} {below : List Frame} {meth : Method} {c : Code} {A : Nat → Prop} {ad : Nat → Nat} (C : qC p s m args meth c qm_Cd_shapeOf_c 2 (some (.object "java/lang/String")) qR_Cd ad) (S : qS) (hf : fCd_shapeOf_330 S = some res) : ∀ (H : Heap) (locs : List Loc) (ls : Array Slot), qG D qCl (cT K) A s (cW h K S) H locs → lv_has ls 2 [] → W p l e ({ frames := 0, cells := 0, slots := 0, locals := 0 }) s m args below meth c H locs 0 0 (MQ below (qQs D qCl (cT K) ad (cW h K) A res) args s 0 0 A) (F0 m 330 ls []) := by
  intro H locs ls G hl
  unfold fCd_shapeOf_330 at hf
  refine va_ldcS C.1 C.2.1 C.2.2.2.1 (C.2.2.2.2.2.2.2.2 18 (by decide)) qm_Cd_shapeOf_330 ?_
  exact q_sret (wf := (cW h K)) C G hf qm_Cd_shapeOf_332
set_option maxHeartbeats 4000000 in
set_option maxRecDepth 100000 in
theorem wCd_shapeOf_333 {l : Launch} {D : va_G} {h : Nat → Nat} {K : Nat → ClassId} {res : Nat × qS} {p : Program} {e : Env} {s : State} {m : MethodId} {args : Array Value} {below : List Frame} {meth : Method} {c : Code} {A : Nat → Prop} {ad : Nat → Nat} (C : qC p s m args meth c qm_Cd_shapeOf_c 2 (some (.object "java/lang/String")) qR_Cd ad) (S : qS) (hf : fCd_shapeOf_333 S = some res) : ∀ (H : Heap) (locs : List Loc) (ls : Array Slot), qG D qCl (cT K) A s (cW h K S) H locs → lv_has ls 2 [] → W p l e ({ frames := 0, cells := 0, slots := 0, locals := 0 }) s m args below meth c H locs 0 0 (MQ below (qQs D qCl (cT K) ad (cW h K) A res) args s 0 0 A) (F0 m 333 ls []) := by
  intro H locs ls G hl
  unfold fCd_shapeOf_333 at hf
  refine va_ldcS C.1 C.2.1 C.2.2.2.1 (C.2.2.2.2.2.2.2.2 19 (by decide)) qm_Cd_shapeOf_333 ?_
  exact q_sret (wf := (cW h K)) C G hf qm_Cd_shapeOf_335
set_option maxHeartbeats 4000000 in
set_option maxRecDepth 100000 in
theorem wCd_shapeOf_336 {l : Launch} {D : va_G} {h : Nat → Nat} {K : Nat → ClassId} {res : Nat × qS} {p : Program} {e : Env} {s : State} {m : MethodId} {args : Array Value} {below : List Frame} {meth : Method} {c : Code} {A : Nat → Prop} {ad : Nat → Nat} (C : qC p s m args meth c qm_Cd_shapeOf_c 2 (some (.object "java/lang/String")) qR_Cd ad) (S : qS) (hf : fCd_shapeOf_336 S = some res) : ∀ (H : Heap) (locs : List Loc) (ls : Array Slot), qG D qCl (cT K) A s (cW h K S) H locs → lv_has ls 2 [] → W p l e ({ frames := 0, cells := 0, slots := 0, locals := 0 }) s m args below meth c H locs 0 0 (MQ below (qQs D qCl (cT K) ad (cW h K) A res) args s 0 0 A) (F0 m 336 ls []) := by
  intro H locs ls G hl
  unfold fCd_shapeOf_336 at hf
  refine va_ldcS C.1 C.2.1 C.2.2.2.1 (C.2.2.2.2.2.2.2.2 20 (by decide)) qm_Cd_shapeOf_336 ?_
  exact q_sret (wf := (cW h K)) C G hf qm_Cd_shapeOf_338
set_option maxHeartbeats 4000000 in
set_option maxRecDepth 100000 in
theorem wCd_shapeOf_339 {l : Launch} {D : va_G} {h : Nat → Nat} {K : Nat → ClassId} {res : Nat × qS} {p : Program} {e : Env} {s : State} {m : MethodId} {args : Array Value} {below : List Frame} {meth : Method} {c : Code} {A : Nat → Prop} {ad : Nat → Nat} (C : qC p s m args meth c qm_Cd_shapeOf_c 2 (some (.object "java/lang/String")) qR_Cd ad) (S : qS) (hf : fCd_shapeOf_339 S = some res) : ∀ (H : Heap) (locs : List Loc) (ls : Array Slot), qG D qCl (cT K) A s (cW h K S) H locs → lv_has ls 2 [] → W p l e ({ frames := 0, cells := 0, slots := 0, locals := 0 }) s m args below meth c H locs 0 0 (MQ below (qQs D qCl (cT K) ad (cW h K) A res) args s 0 0 A) (F0 m 339 ls []) := by
  intro H locs ls G hl
  unfold fCd_shapeOf_339 at hf
  refine va_ldcS C.1 C.2.1 C.2.2.2.1 (C.2.2.2.2.2.2.2.2 21 (by decide)) qm_Cd_shapeOf_339 ?_
  exact q_sret (wf := (cW h K)) C G hf qm_Cd_shapeOf_341
set_option maxHeartbeats 4000000 in
set_option maxRecDepth 100000 in
theorem wCd_shapeOf {l : Launch} {D : va_G} {h : Nat → Nat} {K : Nat → ClassId} {res : Nat × qS} {p : Program} {e : Env} {s : State} {m : MethodId} {args : Array Value} {below : List Frame} {meth : Method} {c : Code} {A : Nat → Prop} {ad : Nat → Nat} (C : qC p s m args meth c qm_Cd_shapeOf_c 2 (some (.object "java/lang/String")) qR_Cd ad) (S : qS) (a1 : Int32) (hf : fCd_shapeOf S a1 = some res) : ∀ (H : Heap) (locs : List Loc) (ls : Array Slot), qG D qCl (cT K) A s (cW h K S) H locs → lv_has ls 2 [(0, .ref (h 16)), (1, .int a1)] → W p l e ({ frames := 0, cells := 0, slots := 0, locals := 0 }) s m args below meth c H locs 0 0 (MQ below (qQs D qCl (cT K) ad (cW h K) A res) args s 0 0 A) (F0 m 0 ls []) := by
  intro H locs ls G hl
  unfold fCd_shapeOf at hf
  refine lv_iload_n C.1 C.2.1 qm_Cd_shapeOf_0 rfl (lv_at hl 1 rfl) ?_
  by_cases b1 : a1.toInt < 6 ∨ 70 < a1.toInt
  · have hf := if_t b1 hf
    refine lv_tableOut (tgt := 342) C.1 C.2.1 qm_Cd_shapeOf_1 b1 (by decide) ?_
    exact wCd_shapeOf_342 C S a1 hf _ _ _ G (lv_sub hl [1] rfl)
  have hf := if_f b1 hf
  by_cases b1_6 : a1 = 6
  · have hf := if_t b1_6 hf
    refine lv_tableIn (tgt := 276) C.1 C.2.1 qm_Cd_shapeOf_1 (by rw [b1_6]; decide) (by rw [b1_6]; decide) (by rw [b1_6]; rfl) (by decide) ?_
    exact wCd_shapeOf_276 C S hf _ _ _ G (lv_sub hl [] rfl)
  have hf := if_f b1_6 hf
  by_cases b1_7 : a1 = 7
  · have hf := if_t b1_7 hf
    refine lv_tableIn (tgt := 276) C.1 C.2.1 qm_Cd_shapeOf_1 (by rw [b1_7]; decide) (by rw [b1_7]; decide) (by rw [b1_7]; rfl) (by decide) ?_
    exact wCd_shapeOf_276 C S hf _ _ _ G (lv_sub hl [] rfl)
  have hf := if_f b1_7 hf
  by_cases b1_8 : a1 = 8
  · have hf := if_t b1_8 hf
    refine lv_tableIn (tgt := 276) C.1 C.2.1 qm_Cd_shapeOf_1 (by rw [b1_8]; decide) (by rw [b1_8]; decide) (by rw [b1_8]; rfl) (by decide) ?_
    exact wCd_shapeOf_276 C S hf _ _ _ G (lv_sub hl [] rfl)
  have hf := if_f b1_8 hf
  by_cases b1_9 : a1 = 9
  · have hf := if_t b1_9 hf
    refine lv_tableIn (tgt := 276) C.1 C.2.1 qm_Cd_shapeOf_1 (by rw [b1_9]; decide) (by rw [b1_9]; decide) (by rw [b1_9]; rfl) (by decide) ?_
    exact wCd_shapeOf_276 C S hf _ _ _ G (lv_sub hl [] rfl)
  have hf := if_f b1_9 hf
  by_cases b1_10 : a1 = 10
  · have hf := if_t b1_10 hf
    refine lv_tableIn (tgt := 279) C.1 C.2.1 qm_Cd_shapeOf_1 (by rw [b1_10]; decide) (by rw [b1_10]; decide) (by rw [b1_10]; rfl) (by decide) ?_
    exact wCd_shapeOf_279 C S hf _ _ _ G (lv_sub hl [] rfl)
  have hf := if_f b1_10 hf
  by_cases b1_11 : a1 = 11
  · have hf := if_t b1_11 hf
    refine lv_tableIn (tgt := 282) C.1 C.2.1 qm_Cd_shapeOf_1 (by rw [b1_11]; decide) (by rw [b1_11]; decide) (by rw [b1_11]; rfl) (by decide) ?_
    exact wCd_shapeOf_282 C S hf _ _ _ G (lv_sub hl [] rfl)
  have hf := if_f b1_11 hf
  by_cases b1_12 : a1 = 12
  · have hf := if_t b1_12 hf
    refine lv_tableIn (tgt := 285) C.1 C.2.1 qm_Cd_shapeOf_1 (by rw [b1_12]; decide) (by rw [b1_12]; decide) (by rw [b1_12]; rfl) (by decide) ?_
    exact wCd_shapeOf_285 C S hf _ _ _ G (lv_sub hl [] rfl)
  have hf := if_f b1_12 hf
  by_cases b1_13 : a1 = 13
  · have hf := if_t b1_13 hf
    refine lv_tableIn (tgt := 288) C.1 C.2.1 qm_Cd_shapeOf_1 (by rw [b1_13]; decide) (by rw [b1_13]; decide) (by rw [b1_13]; rfl) (by decide) ?_
    exact wCd_shapeOf_288 C S hf _ _ _ G (lv_sub hl [] rfl)
  have hf := if_f b1_13 hf
  by_cases b1_14 : a1 = 14
  · have hf := if_t b1_14 hf
    refine lv_tableIn (tgt := 282) C.1 C.2.1 qm_Cd_shapeOf_1 (by rw [b1_14]; decide) (by rw [b1_14]; decide) (by rw [b1_14]; rfl) (by decide) ?_
    exact wCd_shapeOf_282 C S hf _ _ _ G (lv_sub hl [] rfl)
  have hf := if_f b1_14 hf
  by_cases b1_15 : a1 = 15
  · have hf := if_t b1_15 hf
    refine lv_tableIn (tgt := 291) C.1 C.2.1 qm_Cd_shapeOf_1 (by rw [b1_15]; decide) (by rw [b1_15]; decide) (by rw [b1_15]; rfl) (by decide) ?_
    exact wCd_shapeOf_291 C S hf _ _ _ G (lv_sub hl [] rfl)
  have hf := if_f b1_15 hf
  by_cases b1_16 : a1 = 16
  · have hf := if_t b1_16 hf
    refine lv_tableIn (tgt := 291) C.1 C.2.1 qm_Cd_shapeOf_1 (by rw [b1_16]; decide) (by rw [b1_16]; decide) (by rw [b1_16]; rfl) (by decide) ?_
    exact wCd_shapeOf_291 C S hf _ _ _ G (lv_sub hl [] rfl)
  have hf := if_f b1_16 hf
  by_cases b1_17 : a1 = 17
  · have hf := if_t b1_17 hf
    refine lv_tableIn (tgt := 294) C.1 C.2.1 qm_Cd_shapeOf_1 (by rw [b1_17]; decide) (by rw [b1_17]; decide) (by rw [b1_17]; rfl) (by decide) ?_
    exact wCd_shapeOf_294 C S hf _ _ _ G (lv_sub hl [] rfl)
  have hf := if_f b1_17 hf
  by_cases b1_18 : a1 = 18
  · have hf := if_t b1_18 hf
    refine lv_tableIn (tgt := 282) C.1 C.2.1 qm_Cd_shapeOf_1 (by rw [b1_18]; decide) (by rw [b1_18]; decide) (by rw [b1_18]; rfl) (by decide) ?_
    exact wCd_shapeOf_282 C S hf _ _ _ G (lv_sub hl [] rfl)
  have hf := if_f b1_18 hf
  by_cases b1_19 : a1 = 19
  · have hf := if_t b1_19 hf
    refine lv_tableIn (tgt := 282) C.1 C.2.1 qm_Cd_shapeOf_1 (by rw [b1_19]; decide) (by rw [b1_19]; decide) (by rw [b1_19]; rfl) (by decide) ?_
    exact wCd_shapeOf_282 C S hf _ _ _ G (lv_sub hl [] rfl)
  have hf := if_f b1_19 hf
  by_cases b1_20 : a1 = 20
  · have hf := if_t b1_20 hf
    refine lv_tableIn (tgt := 285) C.1 C.2.1 qm_Cd_shapeOf_1 (by rw [b1_20]; decide) (by rw [b1_20]; decide) (by rw [b1_20]; rfl) (by decide) ?_
    exact wCd_shapeOf_285 C S hf _ _ _ G (lv_sub hl [] rfl)
  have hf := if_f b1_20 hf
  by_cases b1_21 : a1 = 21
  · have hf := if_t b1_21 hf
    refine lv_tableIn (tgt := 276) C.1 C.2.1 qm_Cd_shapeOf_1 (by rw [b1_21]; decide) (by rw [b1_21]; decide) (by rw [b1_21]; rfl) (by decide) ?_
    exact wCd_shapeOf_276 C S hf _ _ _ G (lv_sub hl [] rfl)
  have hf := if_f b1_21 hf
  by_cases b1_22 : a1 = 22
  · have hf := if_t b1_22 hf
    refine lv_tableIn (tgt := 297) C.1 C.2.1 qm_Cd_shapeOf_1 (by rw [b1_22]; decide) (by rw [b1_22]; decide) (by rw [b1_22]; rfl) (by decide) ?_
    exact wCd_shapeOf_297 C S hf _ _ _ G (lv_sub hl [] rfl)
  have hf := if_f b1_22 hf
  by_cases b1_23 : a1 = 23
  · have hf := if_t b1_23 hf
    refine lv_tableIn (tgt := 279) C.1 C.2.1 qm_Cd_shapeOf_1 (by rw [b1_23]; decide) (by rw [b1_23]; decide) (by rw [b1_23]; rfl) (by decide) ?_
    exact wCd_shapeOf_279 C S hf _ _ _ G (lv_sub hl [] rfl)
  have hf := if_f b1_23 hf
  by_cases b1_24 : a1 = 24
  · have hf := if_t b1_24 hf
    refine lv_tableIn (tgt := 300) C.1 C.2.1 qm_Cd_shapeOf_1 (by rw [b1_24]; decide) (by rw [b1_24]; decide) (by rw [b1_24]; rfl) (by decide) ?_
    exact wCd_shapeOf_300 C S hf _ _ _ G (lv_sub hl [] rfl)
  have hf := if_f b1_24 hf
  by_cases b1_25 : a1 = 25
  · have hf := if_t b1_25 hf
    refine lv_tableIn (tgt := 303) C.1 C.2.1 qm_Cd_shapeOf_1 (by rw [b1_25]; decide) (by rw [b1_25]; decide) (by rw [b1_25]; rfl) (by decide) ?_
    exact wCd_shapeOf_303 C S hf _ _ _ G (lv_sub hl [] rfl)
  have hf := if_f b1_25 hf
  by_cases b1_26 : a1 = 26
  · have hf := if_t b1_26 hf
    refine lv_tableIn (tgt := 303) C.1 C.2.1 qm_Cd_shapeOf_1 (by rw [b1_26]; decide) (by rw [b1_26]; decide) (by rw [b1_26]; rfl) (by decide) ?_
    exact wCd_shapeOf_303 C S hf _ _ _ G (lv_sub hl [] rfl)
  have hf := if_f b1_26 hf
  by_cases b1_27 : a1 = 27
  · have hf := if_t b1_27 hf
    refine lv_tableIn (tgt := 306) C.1 C.2.1 qm_Cd_shapeOf_1 (by rw [b1_27]; decide) (by rw [b1_27]; decide) (by rw [b1_27]; rfl) (by decide) ?_
    exact wCd_shapeOf_306 C S hf _ _ _ G (lv_sub hl [] rfl)
  have hf := if_f b1_27 hf
  by_cases b1_28 : a1 = 28
  · have hf := if_t b1_28 hf
    refine lv_tableIn (tgt := 306) C.1 C.2.1 qm_Cd_shapeOf_1 (by rw [b1_28]; decide) (by rw [b1_28]; decide) (by rw [b1_28]; rfl) (by decide) ?_
    exact wCd_shapeOf_306 C S hf _ _ _ G (lv_sub hl [] rfl)
  have hf := if_f b1_28 hf
  by_cases b1_29 : a1 = 29
  · have hf := if_t b1_29 hf
    refine lv_tableIn (tgt := 306) C.1 C.2.1 qm_Cd_shapeOf_1 (by rw [b1_29]; decide) (by rw [b1_29]; decide) (by rw [b1_29]; rfl) (by decide) ?_
    exact wCd_shapeOf_306 C S hf _ _ _ G (lv_sub hl [] rfl)
  have hf := if_f b1_29 hf
  by_cases b1_30 : a1 = 30
  · have hf := if_t b1_30 hf
    refine lv_tableIn (tgt := 306) C.1 C.2.1 qm_Cd_shapeOf_1 (by rw [b1_30]; decide) (by rw [b1_30]; decide) (by rw [b1_30]; rfl) (by decide) ?_
    exact wCd_shapeOf_306 C S hf _ _ _ G (lv_sub hl [] rfl)
  have hf := if_f b1_30 hf
  by_cases b1_31 : a1 = 31
  · have hf := if_t b1_31 hf
    refine lv_tableIn (tgt := 306) C.1 C.2.1 qm_Cd_shapeOf_1 (by rw [b1_31]; decide) (by rw [b1_31]; decide) (by rw [b1_31]; rfl) (by decide) ?_
    exact wCd_shapeOf_306 C S hf _ _ _ G (lv_sub hl [] rfl)
  have hf := if_f b1_31 hf
  by_cases b1_32 : a1 = 32
  · have hf := if_t b1_32 hf
    refine lv_tableIn (tgt := 306) C.1 C.2.1 qm_Cd_shapeOf_1 (by rw [b1_32]; decide) (by rw [b1_32]; decide) (by rw [b1_32]; rfl) (by decide) ?_
    exact wCd_shapeOf_306 C S hf _ _ _ G (lv_sub hl [] rfl)
  have hf := if_f b1_32 hf
  by_cases b1_33 : a1 = 33
  · have hf := if_t b1_33 hf
    refine lv_tableIn (tgt := 306) C.1 C.2.1 qm_Cd_shapeOf_1 (by rw [b1_33]; decide) (by rw [b1_33]; decide) (by rw [b1_33]; rfl) (by decide) ?_
    exact wCd_shapeOf_306 C S hf _ _ _ G (lv_sub hl [] rfl)
  have hf := if_f b1_33 hf
  by_cases b1_34 : a1 = 34
  · have hf := if_t b1_34 hf
    refine lv_tableIn (tgt := 309) C.1 C.2.1 qm_Cd_shapeOf_1 (by rw [b1_34]; decide) (by rw [b1_34]; decide) (by rw [b1_34]; rfl) (by decide) ?_
    exact wCd_shapeOf_309 C S hf _ _ _ G (lv_sub hl [] rfl)
  have hf := if_f b1_34 hf
  by_cases b1_35 : a1 = 35
  · have hf := if_t b1_35 hf
    refine lv_tableIn (tgt := 309) C.1 C.2.1 qm_Cd_shapeOf_1 (by rw [b1_35]; decide) (by rw [b1_35]; decide) (by rw [b1_35]; rfl) (by decide) ?_
    exact wCd_shapeOf_309 C S hf _ _ _ G (lv_sub hl [] rfl)
  have hf := if_f b1_35 hf
  by_cases b1_36 : a1 = 36
  · have hf := if_t b1_36 hf
    refine lv_tableIn (tgt := 309) C.1 C.2.1 qm_Cd_shapeOf_1 (by rw [b1_36]; decide) (by rw [b1_36]; decide) (by rw [b1_36]; rfl) (by decide) ?_
    exact wCd_shapeOf_309 C S hf _ _ _ G (lv_sub hl [] rfl)
  have hf := if_f b1_36 hf
  by_cases b1_37 : a1 = 37
  · have hf := if_t b1_37 hf
    refine lv_tableIn (tgt := 309) C.1 C.2.1 qm_Cd_shapeOf_1 (by rw [b1_37]; decide) (by rw [b1_37]; decide) (by rw [b1_37]; rfl) (by decide) ?_
    exact wCd_shapeOf_309 C S hf _ _ _ G (lv_sub hl [] rfl)
  have hf := if_f b1_37 hf
  by_cases b1_38 : a1 = 38
  · have hf := if_t b1_38 hf
    refine lv_tableIn (tgt := 309) C.1 C.2.1 qm_Cd_shapeOf_1 (by rw [b1_38]; decide) (by rw [b1_38]; decide) (by rw [b1_38]; rfl) (by decide) ?_
    exact wCd_shapeOf_309 C S hf _ _ _ G (lv_sub hl [] rfl)
  have hf := if_f b1_38 hf
  by_cases b1_39 : a1 = 39
  · have hf := if_t b1_39 hf
    refine lv_tableIn (tgt := 309) C.1 C.2.1 qm_Cd_shapeOf_1 (by rw [b1_39]; decide) (by rw [b1_39]; decide) (by rw [b1_39]; rfl) (by decide) ?_
    exact wCd_shapeOf_309 C S hf _ _ _ G (lv_sub hl [] rfl)
  have hf := if_f b1_39 hf
  by_cases b1_40 : a1 = 40
  · have hf := if_t b1_40 hf
    refine lv_tableIn (tgt := 309) C.1 C.2.1 qm_Cd_shapeOf_1 (by rw [b1_40]; decide) (by rw [b1_40]; decide) (by rw [b1_40]; rfl) (by decide) ?_
    exact wCd_shapeOf_309 C S hf _ _ _ G (lv_sub hl [] rfl)
  have hf := if_f b1_40 hf
  by_cases b1_41 : a1 = 41
  · have hf := if_t b1_41 hf
    refine lv_tableIn (tgt := 312) C.1 C.2.1 qm_Cd_shapeOf_1 (by rw [b1_41]; decide) (by rw [b1_41]; decide) (by rw [b1_41]; rfl) (by decide) ?_
    exact wCd_shapeOf_312 C S hf _ _ _ G (lv_sub hl [] rfl)
  have hf := if_f b1_41 hf
  by_cases b1_42 : a1 = 42
  · have hf := if_t b1_42 hf
    refine lv_tableIn (tgt := 315) C.1 C.2.1 qm_Cd_shapeOf_1 (by rw [b1_42]; decide) (by rw [b1_42]; decide) (by rw [b1_42]; rfl) (by decide) ?_
    exact wCd_shapeOf_315 C S hf _ _ _ G (lv_sub hl [] rfl)
  have hf := if_f b1_42 hf
  by_cases b1_43 : a1 = 43
  · have hf := if_t b1_43 hf
    refine lv_tableIn (tgt := 318) C.1 C.2.1 qm_Cd_shapeOf_1 (by rw [b1_43]; decide) (by rw [b1_43]; decide) (by rw [b1_43]; rfl) (by decide) ?_
    exact wCd_shapeOf_318 C S hf _ _ _ G (lv_sub hl [] rfl)
  have hf := if_f b1_43 hf
  by_cases b1_44 : a1 = 44
  · have hf := if_t b1_44 hf
    refine lv_tableIn (tgt := 276) C.1 C.2.1 qm_Cd_shapeOf_1 (by rw [b1_44]; decide) (by rw [b1_44]; decide) (by rw [b1_44]; rfl) (by decide) ?_
    exact wCd_shapeOf_276 C S hf _ _ _ G (lv_sub hl [] rfl)
  have hf := if_f b1_44 hf
  by_cases b1_45 : a1 = 45
  · have hf := if_t b1_45 hf
    refine lv_tableIn (tgt := 321) C.1 C.2.1 qm_Cd_shapeOf_1 (by rw [b1_45]; decide) (by rw [b1_45]; decide) (by rw [b1_45]; rfl) (by decide) ?_
    exact wCd_shapeOf_321 C S hf _ _ _ G (lv_sub hl [] rfl)
  have hf := if_f b1_45 hf
  by_cases b1_46 : a1 = 46
  · have hf := if_t b1_46 hf
    refine lv_tableIn (tgt := 324) C.1 C.2.1 qm_Cd_shapeOf_1 (by rw [b1_46]; decide) (by rw [b1_46]; decide) (by rw [b1_46]; rfl) (by decide) ?_
    exact wCd_shapeOf_324 C S hf _ _ _ G (lv_sub hl [] rfl)
  have hf := if_f b1_46 hf
  by_cases b1_47 : a1 = 47
  · have hf := if_t b1_47 hf
    refine lv_tableIn (tgt := 324) C.1 C.2.1 qm_Cd_shapeOf_1 (by rw [b1_47]; decide) (by rw [b1_47]; decide) (by rw [b1_47]; rfl) (by decide) ?_
    exact wCd_shapeOf_324 C S hf _ _ _ G (lv_sub hl [] rfl)
  have hf := if_f b1_47 hf
  by_cases b1_48 : a1 = 48
  · have hf := if_t b1_48 hf
    refine lv_tableIn (tgt := 342) C.1 C.2.1 qm_Cd_shapeOf_1 (by rw [b1_48]; decide) (by rw [b1_48]; decide) (by rw [b1_48]; rfl) (by decide) ?_
    exact wCd_shapeOf_342 C S a1 hf _ _ _ G (lv_sub hl [1] rfl)
  have hf := if_f b1_48 hf
  by_cases b1_49 : a1 = 49
  · have hf := if_t b1_49 hf
    refine lv_tableIn (tgt := 342) C.1 C.2.1 qm_Cd_shapeOf_1 (by rw [b1_49]; decide) (by rw [b1_49]; decide) (by rw [b1_49]; rfl) (by decide) ?_
    exact wCd_shapeOf_342 C S a1 hf _ _ _ G (lv_sub hl [1] rfl)
  have hf := if_f b1_49 hf
  by_cases b1_50 : a1 = 50
  · have hf := if_t b1_50 hf
    refine lv_tableIn (tgt := 342) C.1 C.2.1 qm_Cd_shapeOf_1 (by rw [b1_50]; decide) (by rw [b1_50]; decide) (by rw [b1_50]; rfl) (by decide) ?_
    exact wCd_shapeOf_342 C S a1 hf _ _ _ G (lv_sub hl [1] rfl)
  have hf := if_f b1_50 hf
  by_cases b1_51 : a1 = 51
  · have hf := if_t b1_51 hf
    refine lv_tableIn (tgt := 342) C.1 C.2.1 qm_Cd_shapeOf_1 (by rw [b1_51]; decide) (by rw [b1_51]; decide) (by rw [b1_51]; rfl) (by decide) ?_
    exact wCd_shapeOf_342 C S a1 hf _ _ _ G (lv_sub hl [1] rfl)
  have hf := if_f b1_51 hf
  by_cases b1_52 : a1 = 52
  · have hf := if_t b1_52 hf
    refine lv_tableIn (tgt := 342) C.1 C.2.1 qm_Cd_shapeOf_1 (by rw [b1_52]; decide) (by rw [b1_52]; decide) (by rw [b1_52]; rfl) (by decide) ?_
    exact wCd_shapeOf_342 C S a1 hf _ _ _ G (lv_sub hl [1] rfl)
  have hf := if_f b1_52 hf
  by_cases b1_53 : a1 = 53
  · have hf := if_t b1_53 hf
    refine lv_tableIn (tgt := 342) C.1 C.2.1 qm_Cd_shapeOf_1 (by rw [b1_53]; decide) (by rw [b1_53]; decide) (by rw [b1_53]; rfl) (by decide) ?_
    exact wCd_shapeOf_342 C S a1 hf _ _ _ G (lv_sub hl [1] rfl)
  have hf := if_f b1_53 hf
  by_cases b1_54 : a1 = 54
  · have hf := if_t b1_54 hf
    refine lv_tableIn (tgt := 342) C.1 C.2.1 qm_Cd_shapeOf_1 (by rw [b1_54]; decide) (by rw [b1_54]; decide) (by rw [b1_54]; rfl) (by decide) ?_
    exact wCd_shapeOf_342 C S a1 hf _ _ _ G (lv_sub hl [1] rfl)
  have hf := if_f b1_54 hf
  by_cases b1_55 : a1 = 55
  · have hf := if_t b1_55 hf
    refine lv_tableIn (tgt := 342) C.1 C.2.1 qm_Cd_shapeOf_1 (by rw [b1_55]; decide) (by rw [b1_55]; decide) (by rw [b1_55]; rfl) (by decide) ?_
    exact wCd_shapeOf_342 C S a1 hf _ _ _ G (lv_sub hl [1] rfl)
  have hf := if_f b1_55 hf
  by_cases b1_56 : a1 = 56
  · have hf := if_t b1_56 hf
    refine lv_tableIn (tgt := 342) C.1 C.2.1 qm_Cd_shapeOf_1 (by rw [b1_56]; decide) (by rw [b1_56]; decide) (by rw [b1_56]; rfl) (by decide) ?_
    exact wCd_shapeOf_342 C S a1 hf _ _ _ G (lv_sub hl [1] rfl)
  have hf := if_f b1_56 hf
  by_cases b1_57 : a1 = 57
  · have hf := if_t b1_57 hf
    refine lv_tableIn (tgt := 342) C.1 C.2.1 qm_Cd_shapeOf_1 (by rw [b1_57]; decide) (by rw [b1_57]; decide) (by rw [b1_57]; rfl) (by decide) ?_
    exact wCd_shapeOf_342 C S a1 hf _ _ _ G (lv_sub hl [1] rfl)
  have hf := if_f b1_57 hf
  by_cases b1_58 : a1 = 58
  · have hf := if_t b1_58 hf
    refine lv_tableIn (tgt := 342) C.1 C.2.1 qm_Cd_shapeOf_1 (by rw [b1_58]; decide) (by rw [b1_58]; decide) (by rw [b1_58]; rfl) (by decide) ?_
    exact wCd_shapeOf_342 C S a1 hf _ _ _ G (lv_sub hl [1] rfl)
  have hf := if_f b1_58 hf
  by_cases b1_59 : a1 = 59
  · have hf := if_t b1_59 hf
    refine lv_tableIn (tgt := 342) C.1 C.2.1 qm_Cd_shapeOf_1 (by rw [b1_59]; decide) (by rw [b1_59]; decide) (by rw [b1_59]; rfl) (by decide) ?_
    exact wCd_shapeOf_342 C S a1 hf _ _ _ G (lv_sub hl [1] rfl)
  have hf := if_f b1_59 hf
  by_cases b1_60 : a1 = 60
  · have hf := if_t b1_60 hf
    refine lv_tableIn (tgt := 342) C.1 C.2.1 qm_Cd_shapeOf_1 (by rw [b1_60]; decide) (by rw [b1_60]; decide) (by rw [b1_60]; rfl) (by decide) ?_
    exact wCd_shapeOf_342 C S a1 hf _ _ _ G (lv_sub hl [1] rfl)
  have hf := if_f b1_60 hf
  by_cases b1_61 : a1 = 61
  · have hf := if_t b1_61 hf
    refine lv_tableIn (tgt := 342) C.1 C.2.1 qm_Cd_shapeOf_1 (by rw [b1_61]; decide) (by rw [b1_61]; decide) (by rw [b1_61]; rfl) (by decide) ?_
    exact wCd_shapeOf_342 C S a1 hf _ _ _ G (lv_sub hl [1] rfl)
  have hf := if_f b1_61 hf
  by_cases b1_62 : a1 = 62
  · have hf := if_t b1_62 hf
    refine lv_tableIn (tgt := 327) C.1 C.2.1 qm_Cd_shapeOf_1 (by rw [b1_62]; decide) (by rw [b1_62]; decide) (by rw [b1_62]; rfl) (by decide) ?_
    exact wCd_shapeOf_327 C S hf _ _ _ G (lv_sub hl [] rfl)
  have hf := if_f b1_62 hf
  by_cases b1_63 : a1 = 63
  · have hf := if_t b1_63 hf
    refine lv_tableIn (tgt := 327) C.1 C.2.1 qm_Cd_shapeOf_1 (by rw [b1_63]; decide) (by rw [b1_63]; decide) (by rw [b1_63]; rfl) (by decide) ?_
    exact wCd_shapeOf_327 C S hf _ _ _ G (lv_sub hl [] rfl)
  have hf := if_f b1_63 hf
  by_cases b1_64 : a1 = 64
  · have hf := if_t b1_64 hf
    refine lv_tableIn (tgt := 330) C.1 C.2.1 qm_Cd_shapeOf_1 (by rw [b1_64]; decide) (by rw [b1_64]; decide) (by rw [b1_64]; rfl) (by decide) ?_
    exact wCd_shapeOf_330 C S hf _ _ _ G (lv_sub hl [] rfl)
  have hf := if_f b1_64 hf
  by_cases b1_65 : a1 = 65
  · have hf := if_t b1_65 hf
    refine lv_tableIn (tgt := 330) C.1 C.2.1 qm_Cd_shapeOf_1 (by rw [b1_65]; decide) (by rw [b1_65]; decide) (by rw [b1_65]; rfl) (by decide) ?_
    exact wCd_shapeOf_330 C S hf _ _ _ G (lv_sub hl [] rfl)
  have hf := if_f b1_65 hf
  by_cases b1_66 : a1 = 66
  · have hf := if_t b1_66 hf
    refine lv_tableIn (tgt := 333) C.1 C.2.1 qm_Cd_shapeOf_1 (by rw [b1_66]; decide) (by rw [b1_66]; decide) (by rw [b1_66]; rfl) (by decide) ?_
    exact wCd_shapeOf_333 C S hf _ _ _ G (lv_sub hl [] rfl)
  have hf := if_f b1_66 hf
  by_cases b1_67 : a1 = 67
  · have hf := if_t b1_67 hf
    refine lv_tableIn (tgt := 333) C.1 C.2.1 qm_Cd_shapeOf_1 (by rw [b1_67]; decide) (by rw [b1_67]; decide) (by rw [b1_67]; rfl) (by decide) ?_
    exact wCd_shapeOf_333 C S hf _ _ _ G (lv_sub hl [] rfl)
  have hf := if_f b1_67 hf
  by_cases b1_68 : a1 = 68
  · have hf := if_t b1_68 hf
    refine lv_tableIn (tgt := 336) C.1 C.2.1 qm_Cd_shapeOf_1 (by rw [b1_68]; decide) (by rw [b1_68]; decide) (by rw [b1_68]; rfl) (by decide) ?_
    exact wCd_shapeOf_336 C S hf _ _ _ G (lv_sub hl [] rfl)
  have hf := if_f b1_68 hf
  by_cases b1_69 : a1 = 69
  · have hf := if_t b1_69 hf
    refine lv_tableIn (tgt := 339) C.1 C.2.1 qm_Cd_shapeOf_1 (by rw [b1_69]; decide) (by rw [b1_69]; decide) (by rw [b1_69]; rfl) (by decide) ?_
    exact wCd_shapeOf_339 C S hf _ _ _ G (lv_sub hl [] rfl)
  have hf := if_f b1_69 hf
  by_cases b1_70 : a1 = 70
  · have hf := if_t b1_70 hf
    refine lv_tableIn (tgt := 339) C.1 C.2.1 qm_Cd_shapeOf_1 (by rw [b1_70]; decide) (by rw [b1_70]; decide) (by rw [b1_70]; rfl) (by decide) ?_
    exact wCd_shapeOf_339 C S hf _ _ _ G (lv_sub hl [] rfl)
  have hf := if_f b1_70 hf
  cases hf
theorem kCd_shapeOf {l : Launch} {ad : Nat → Nat} {D : va_G} {h : Nat → Nat} {K : Nat → ClassId} {res : Nat × qS} {S : qS} {a1 : Int32} (hf : fCd_shapeOf S a1 = some res) : qMs l qm_Cd_shapeOf qm_Cd_shapeOf_c 2 0 0 D qCl (cT K) ad (cW h K) [.ref (h 16), .int a1] S res := qMs_of (by decide) (Nat.le_of_ble_eq_true rfl) (fun _ _ _ _ _ _ _ _ _ _ C G hl => wCd_shapeOf C S a1 hf _ _ _ G hl)
set_option maxHeartbeats 4000000 in
set_option maxRecDepth 100000 in
theorem wCd_leaveException_55 {l : Launch} {D : va_G} {h : Nat → Nat} {K : Nat → ClassId} {res : qS} {p : Program} {e : Env} {s : State} {m : MethodId} {args : Array Value} {below : List Frame} {meth : Method} {c : Code} {A : Nat → Prop} {ad : Nat → Nat} (C : qC p s m args meth c qm_Cd_leaveException_c 5 none qR_Cd ad) (S : qS) (hf : fCd_leaveException_55 S = some res) : ∀ (H : Heap) (locs : List Loc) (ls : Array Slot), qG D qCl (cT K) A s (cW h K S) H locs → lv_has ls 5 [(0, .ref (h 16))] → W p l e ({ frames := 4, cells := 0, slots := 0, locals := 99 }) s m args below meth c H locs 0 0 (MQ below (qQv D qCl (cT K) (cW h K) A res) args s 0 0 A) (F0 m 55 ls []) := by
  intro H locs ls G hl
  unfold fCd_leaveException_55 at hf
  refine lv_aload_n C.1 C.2.1 qm_Cd_leaveException_55 rfl (lv_at hl 0 rfl) ?_
  refine q_get (wf := (cW h K)) (v := .ref (h 5)) C G qi_Cd 16 rfl rfl 0 (by decide) qz_218 rfl qm_Cd_leaveException_56 ?_
  refine lv_iconst (v := 2) C.1 C.2.1 qm_Cd_leaveException_59 (by decide) ?_
  obtain ⟨S1, c1, hf⟩ := bnd_s hf
  refine q_callVv (wf := (cW h K)) (n := 1) (As := [.int 2]) (q0 := 5) (ci := 1) C G hl.1 (kCo_raise (l := l) c1) qx_Cd_82 qm_Co_raise_d ⟨by decide, by decide⟩ ⟨Nat.le_refl _, Nat.le_refl _⟩ rfl rfl rfl rfl rfl (Nat.le_of_ble_eq_true rfl) qm_Cd_leaveException_60 (fun H locs G => ?_)
  exact q_vret (wf := (cW h K)) C G hf qm_Cd_leaveException_63
set_option maxHeartbeats 4000000 in
set_option maxRecDepth 100000 in
theorem wCd_leaveException {l : Launch} {D : va_G} {h : Nat → Nat} {K : Nat → ClassId} {res : qS} {p : Program} {e : Env} {s : State} {m : MethodId} {args : Array Value} {below : List Frame} {meth : Method} {c : Code} {A : Nat → Prop} {ad : Nat → Nat} (C : qC p s m args meth c qm_Cd_leaveException_c 5 none qR_Cd ad) (S : qS) (hf : fCd_leaveException S = some res) : ∀ (H : Heap) (locs : List Loc) (ls : Array Slot), qG D qCl (cT K) A s (cW h K S) H locs → lv_has ls 5 [(0, .ref (h 16))] → W p l e ({ frames := 4, cells := 0, slots := 0, locals := 99 }) s m args below meth c H locs 0 0 (MQ below (qQv D qCl (cT K) (cW h K) A res) args s 0 0 A) (F0 m 0 ls []) := by
  intro H locs ls G hl
  unfold fCd_leaveException at hf
  refine lv_aload_n C.1 C.2.1 qm_Cd_leaveException_0 rfl (lv_at hl 0 rfl) ?_
  refine q_get (wf := (cW h K)) (v := .ref (h 5)) C G qi_Cd 16 rfl rfl 0 (by decide) qz_218 rfl qm_Cd_leaveException_1 ?_
  obtain ⟨q1, c1, hf⟩ := bnd_s hf
  refine q_callVi (wf := (cW h K)) (n := 0) (As := []) (q0 := 5) (ci := 1) C G hl.1 (kCo_pop (l := l) c1) qx_Cd_89 qm_Co_pop_d ⟨by decide, by decide⟩ ⟨Nat.le_refl _, Nat.le_refl _⟩ rfl rfl rfl rfl rfl (Nat.le_of_ble_eq_true rfl) qm_Cd_leaveException_4 (fun H locs G => ?_)
  refine lv_istore_n (lv' := [(1, .int q1.1), (0, .ref (h 16))]) C.1 C.2.1 qm_Cd_leaveException_7 rfl hl (by decide) rfl (fun ls hl => ?_)
  refine lv_aload_n C.1 C.2.1 qm_Cd_leaveException_8 rfl (lv_at hl 1 rfl) ?_
  refine q_get (wf := (cW h K)) (v := .ref (h 5)) C G qi_Cd 16 rfl rfl 0 (by decide) qz_218 rfl qm_Cd_leaveException_9 ?_
  obtain ⟨q2, c2, hf⟩ := bnd_s hf
  refine q_callVi (wf := (cW h K)) (n := 0) (As := []) (q0 := 5) (ci := 1) C G hl.1 (kCo_pop (l := l) c2) qx_Cd_89 qm_Co_pop_d ⟨by decide, by decide⟩ ⟨Nat.le_refl _, Nat.le_refl _⟩ rfl rfl rfl rfl rfl (Nat.le_of_ble_eq_true rfl) qm_Cd_leaveException_12 (fun H locs G => ?_)
  refine lv_istore_n (lv' := [(2, .int q2.1), (1, .int q1.1), (0, .ref (h 16))]) C.1 C.2.1 qm_Cd_leaveException_15 rfl hl (by decide) rfl (fun ls hl => ?_)
  refine lv_iload_n C.1 C.2.1 qm_Cd_leaveException_16 rfl (lv_at hl 0 rfl) ?_
  refine lv_bipush (v := 24) C.1 C.2.1 qm_Cd_leaveException_17 (by decide) ?_
  refine lv_iushr (v := ushr q2.1 24) C.1 C.2.1 qm_Cd_leaveException_19 rfl ?_
  refine lv_iconst (v := 3) C.1 C.2.1 qm_Cd_leaveException_20 (by decide) ?_
  refine lv_iand C.1 C.2.1 qm_Cd_leaveException_21 ?_
  refine lv_istore_n (lv' := [(3, .int ((ushr q2.1 24) &&& 3)), (2, .int q2.1), (1, .int q1.1), (0, .ref (h 16))]) C.1 C.2.1 qm_Cd_leaveException_22 rfl hl (by decide) rfl (fun ls hl => ?_)
  refine lv_iload_n C.1 C.2.1 qm_Cd_leaveException_23 rfl (lv_at hl 1 rfl) ?_
  refine lv_bipush (v := 22) C.1 C.2.1 qm_Cd_leaveException_24 (by decide) ?_
  refine lv_iushr (v := ushr q2.1 22) C.1 C.2.1 qm_Cd_leaveException_26 rfl ?_
  refine lv_iconst (v := 3) C.1 C.2.1 qm_Cd_leaveException_27 (by decide) ?_
  refine lv_iand C.1 C.2.1 qm_Cd_leaveException_28 ?_
  refine lv_istore (lv' := [(4, .int ((ushr q2.1 22) &&& 3)), (3, .int ((ushr q2.1 24) &&& 3)), (2, .int q2.1), (1, .int q1.1), (0, .ref (h 16))]) C.1 C.2.1 qm_Cd_leaveException_29 hl (by decide) rfl (fun ls hl => ?_)
  refine lv_iload_n C.1 C.2.1 qm_Cd_leaveException_31 rfl (lv_at hl 2 rfl) ?_
  refine lv_ldc (own := "QuadMode$Codes") (v := (-62914608)) C.1 C.2.1 C.2.2.2.1 (C.2.2.2.2.1 _ qz_646) qm_Cd_leaveException_32 ?_
  refine lv_iand C.1 C.2.1 qm_Cd_leaveException_34 ?_
  refine lv_if_ne (tgt := 55) C.1 C.2.1 qm_Cd_leaveException_35 (by decide) (fun b3 => ?_) (fun b3 => ?_)
  · have hf := if_t b3 hf
    exact wCd_leaveException_55 C q2.2 hf _ _ _ G (lv_sub hl [4] rfl)
  · have hf := if_f (not_not_intro b3) hf
    refine lv_iload_n C.1 C.2.1 qm_Cd_leaveException_38 rfl (lv_at hl 1 rfl) ?_
    refine lv_aload_n C.1 C.2.1 qm_Cd_leaveException_39 rfl (lv_at hl 4 rfl) ?_
    refine q_get (wf := (cW h K)) (v := .ref (h 5)) C G qi_Cd 16 rfl rfl 0 (by decide) qz_218 rfl qm_Cd_leaveException_40 ?_
    obtain ⟨q4, c4, hf⟩ := bnd_s hf
    refine q_callVi (wf := (cW h K)) (n := 0) (As := []) (q0 := 5) (ci := 1) C G hl.1 (kCo_mode (l := l) c4) qx_Cd_25 qm_Co_mode_d ⟨by decide, by decide⟩ ⟨Nat.le_refl _, Nat.le_refl _⟩ rfl rfl rfl rfl rfl (Nat.le_of_ble_eq_true rfl) qm_Cd_leaveException_43 (fun H locs G => ?_)
    refine lv_icmp_lt (tgt := 55) C.1 C.2.1 qm_Cd_leaveException_46 (by decide) (fun b5 => ?_) (fun b5 => ?_)
    · have hf := if_t b5 hf
      exact wCd_leaveException_55 C q4.2 hf _ _ _ G (lv_sub hl [4] rfl)
    · have hf := if_f b5 hf
      refine lv_iload C.1 C.2.1 qm_Cd_leaveException_49 (lv_at hl 0 rfl) ?_
      refine lv_iload_n C.1 C.2.1 qm_Cd_leaveException_51 rfl (lv_at hl 1 rfl) ?_
      refine lv_icmp_ge (tgt := 64) C.1 C.2.1 qm_Cd_leaveException_52 (by decide) (fun b6 => ?_) (fun b6 => ?_)
      · have hf := if_t b6 hf
        refine lv_aload_n C.1 C.2.1 qm_Cd_leaveException_64 rfl (lv_at hl 4 rfl) ?_
        refine q_get (wf := (cW h K)) (v := .ref (h 5)) C G qi_Cd 16 rfl rfl 0 (by decide) qz_218 rfl qm_Cd_leaveException_65 ?_
        refine lv_bipush (v := 15) C.1 C.2.1 qm_Cd_leaveException_68 (by decide) ?_
        refine lv_iload_n C.1 C.2.1 qm_Cd_leaveException_70 rfl (lv_at hl 3 rfl) ?_
        obtain ⟨S7, c7, hf⟩ := bnd_s hf
        refine q_callVv (wf := (cW h K)) (n := 2) (As := [.int 15, .int q1.1]) (q0 := 5) (ci := 1) C G hl.1 (kCo_put (l := l) c7) qx_Cd_92 qm_Co_put_d ⟨by decide, by decide⟩ ⟨Nat.le_refl _, Nat.le_refl _⟩ rfl rfl rfl rfl rfl (Nat.le_of_ble_eq_true rfl) qm_Cd_leaveException_71 (fun H locs G => ?_)
        refine lv_aload_n C.1 C.2.1 qm_Cd_leaveException_74 rfl (lv_at hl 4 rfl) ?_
        refine q_get (wf := (cW h K)) (v := .ref (h 5)) C G qi_Cd 16 rfl rfl 0 (by decide) qz_218 rfl qm_Cd_leaveException_75 ?_
        refine lv_iload_n C.1 C.2.1 qm_Cd_leaveException_78 rfl (lv_at hl 2 rfl) ?_
        refine q_putN (host := "QuadMode") (wf := (cW h K)) (S' := (pI S7 6 q2.1)) C G qi_Co qY_Co qy_Co qn_Co 5 rfl rfl 9 (by decide) (by decide +kernel) rfl rfl (Nat.le_of_ble_eq_true rfl) rfl qm_Cd_leaveException_79 (fun H locs G => ?_)
        exact q_vret (wf := (cW h K)) C G hf qm_Cd_leaveException_82
      · have hf := if_f b6 hf
        exact wCd_leaveException_55 C q4.2 hf _ _ _ G (lv_sub hl [4] rfl)
theorem kCd_leaveException {l : Launch} {ad : Nat → Nat} {D : va_G} {h : Nat → Nat} {K : Nat → ClassId} {res : qS} {S : qS} (hf : fCd_leaveException S = some res) : qMv l qm_Cd_leaveException qm_Cd_leaveException_c 5 4 99 D qCl (cT K) ad (cW h K) [.ref (h 16)] S res := qMv_of (by decide) (Nat.le_of_ble_eq_true rfl) (fun _ _ _ _ _ _ _ _ _ _ C G hl => wCd_leaveException C S hf _ _ _ G hl)
set_option maxHeartbeats 4000000 in
set_option maxRecDepth 100000 in
theorem wCd_leaveFrame_196 {l : Launch} {D : va_G} {h : Nat → Nat} {K : Nat → ClassId} {res : qS} {p : Program} {e : Env} {s : State} {m : MethodId} {args : Array Value} {below : List Frame} {meth : Method} {c : Code} {A : Nat → Prop} {ad : Nat → Nat} (C : qC p s m args meth c qm_Cd_leaveFrame_c 3 none qR_Cd ad) (S : qS) (x1 : Int32) (hf : fCd_leaveFrame_196 S x1 = some res) : ∀ (H : Heap) (locs : List Loc) (ls : Array Slot), qG D qCl (cT K) A s (cW h K S) H locs → lv_has ls 3 [(0, .ref (h 16)), (1, .int x1)] → W p l e ({ frames := 4, cells := 0, slots := 0, locals := 99 }) s m args below meth c H locs 0 0 (MQ below (qQv D qCl (cT K) (cW h K) A res) args s 0 0 A) (F0 m 196 ls []) := by
  intro H locs ls G hl
  unfold fCd_leaveFrame_196 at hf
  refine lv_aload_n C.1 C.2.1 qm_Cd_leaveFrame_196 rfl (lv_at hl 0 rfl) ?_
  refine q_get (wf := (cW h K)) (v := .ref (h 5)) C G qi_Cd 16 rfl rfl 0 (by decide) qz_218 rfl qm_Cd_leaveFrame_197 ?_
  refine lv_aload_n C.1 C.2.1 qm_Cd_leaveFrame_200 rfl (lv_at hl 0 rfl) ?_
  refine q_get (wf := (cW h K)) (v := .ref (h 5)) C G qi_Cd 16 rfl rfl 0 (by decide) qz_218 rfl qm_Cd_leaveFrame_201 ?_
  refine q_getN (host := "QuadMode") (wf := (cW h K)) (v := .int (S.1 6)) C G qi_Co 5 rfl rfl 9 (by decide) (by decide +kernel) rfl qm_Cd_leaveFrame_204 ?_
  refine lv_bipush (v := (-48)) C.1 C.2.1 qm_Cd_leaveFrame_207 (by decide) ?_
  refine lv_iand C.1 C.2.1 qm_Cd_leaveFrame_209 ?_
  refine lv_iload_n C.1 C.2.1 qm_Cd_leaveFrame_210 rfl (lv_at hl 1 rfl) ?_
  refine lv_bipush (v := 47) C.1 C.2.1 qm_Cd_leaveFrame_211 (by decide) ?_
  refine lv_iand C.1 C.2.1 qm_Cd_leaveFrame_213 ?_
  refine lv_ior C.1 C.2.1 qm_Cd_leaveFrame_214 ?_
  refine q_putN (host := "QuadMode") (wf := (cW h K)) (S' := (pI S 6 (((S.1 6) &&& (-48)) ||| (x1 &&& 47)))) C G qi_Co qY_Co qy_Co qn_Co 5 rfl rfl 9 (by decide) (by decide +kernel) rfl rfl (Nat.le_of_ble_eq_true rfl) rfl qm_Cd_leaveFrame_215 (fun H locs G => ?_)
  exact q_vret (wf := (cW h K)) C G hf qm_Cd_leaveFrame_218
set_option maxHeartbeats 4000000 in
set_option maxRecDepth 100000 in
theorem wCd_leaveFrame_126 {l : Launch} {D : va_G} {h : Nat → Nat} {K : Nat → ClassId} {res : qS} {p : Program} {e : Env} {s : State} {m : MethodId} {args : Array Value} {below : List Frame} {meth : Method} {c : Code} {A : Nat → Prop} {ad : Nat → Nat} (C : qC p s m args meth c qm_Cd_leaveFrame_c 3 none qR_Cd ad) {K94 : qS → Int32 → Int32 → Option (qS)} (hK94 : ∀ (S : qS) (x1 : Int32) (x2 : Int32), K94 S x1 x2 = some res → ∀ (H : Heap) (locs : List Loc) (ls : Array Slot), qG D qCl (cT K) A s (cW h K S) H locs → lv_has ls 3 [(0, .ref (h 16)), (1, .int x1), (2, .int x2)] → W p l e ({ frames := 4, cells := 0, slots := 0, locals := 99 }) s m args below meth c H locs 0 0 (MQ below (qQv D qCl (cT K) (cW h K) A res) args s 0 0 A) (F0 m 94 ls [])) (S : qS) (x1 : Int32) (x2 : Int32) (hf : fCd_leaveFrame_126 K94 S x1 x2 = some res) : ∀ (H : Heap) (locs : List Loc) (ls : Array Slot), qG D qCl (cT K) A s (cW h K S) H locs → lv_has ls 3 [(0, .ref (h 16)), (1, .int x1), (2, .int x2)] → W p l e ({ frames := 4, cells := 0, slots := 0, locals := 99 }) s m args below meth c H locs 0 0 (MQ below (qQv D qCl (cT K) (cW h K) A res) args s 0 0 A) (F0 m 126 ls []) := by
  intro H locs ls G hl
  unfold fCd_leaveFrame_126 at hf
  refine lv_iinc (v := x2 + 1) (lv' := [(2, .int (x2 + 1)), (0, .ref (h 16)), (1, .int x1)]) C.1 C.2.1 qm_Cd_leaveFrame_126 hl (k := 2) rfl rfl (by decide) rfl (fun ls hl => ?_)
  refine lv_goto (tgt := 94) C.1 C.2.1 qm_Cd_leaveFrame_129 (by decide) ?_
  exact hK94 S x1 (x2 + 1) hf _ _ _ G (lv_sub hl [1, 2, 0] rfl)
set_option maxHeartbeats 4000000 in
set_option maxRecDepth 100000 in
theorem wCd_leaveFrame_94 {l : Launch} {D : va_G} {h : Nat → Nat} {K : Nat → ClassId} {res : qS} {p : Program} {e : Env} {s : State} {m : MethodId} {args : Array Value} {below : List Frame} {meth : Method} {c : Code} {A : Nat → Prop} {ad : Nat → Nat} (C : qC p s m args meth c qm_Cd_leaveFrame_c 3 none qR_Cd ad) : ∀ (n : Nat) (S : qS) (x1 : Int32) (x2 : Int32), fCd_leaveFrame_94 n S x1 x2 = some res → ∀ (H : Heap) (locs : List Loc) (ls : Array Slot), qG D qCl (cT K) A s (cW h K S) H locs → lv_has ls 3 [(0, .ref (h 16)), (1, .int x1), (2, .int x2)] → W p l e ({ frames := 4, cells := 0, slots := 0, locals := 99 }) s m args below meth c H locs 0 0 (MQ below (qQv D qCl (cT K) (cW h K) A res) args s 0 0 A) (F0 m 94 ls []) := by
  intro n
  induction n with
  | zero => intro S x1 x2 hf; cases hf
  | succ n ih =>
    intro S x1 x2 hf H locs ls G hl
    rw [fCd_leaveFrame_94] at hf
    refine lv_iload_n C.1 C.2.1 qm_Cd_leaveFrame_94 rfl (lv_at hl 2 rfl) ?_
    refine lv_bipush (v := 12) C.1 C.2.1 qm_Cd_leaveFrame_95 (by decide) ?_
    refine lv_icmp_ge (tgt := 132) C.1 C.2.1 qm_Cd_leaveFrame_97 (by decide) (fun b1 => ?_) (fun b1 => ?_)
    · have hf := if_t b1 hf
      refine lv_aload_n C.1 C.2.1 qm_Cd_leaveFrame_132 rfl (lv_at hl 0 rfl) ?_
      refine q_get (wf := (cW h K)) (v := .ref (h 5)) C G qi_Cd 16 rfl rfl 0 (by decide) qz_218 rfl qm_Cd_leaveFrame_133 ?_
      refine lv_bipush (v := 14) C.1 C.2.1 qm_Cd_leaveFrame_136 (by decide) ?_
      refine lv_aload_n C.1 C.2.1 qm_Cd_leaveFrame_138 rfl (lv_at hl 0 rfl) ?_
      refine q_get (wf := (cW h K)) (v := .ref (h 5)) C G qi_Cd 16 rfl rfl 0 (by decide) qz_218 rfl qm_Cd_leaveFrame_139 ?_
      refine lv_bipush (v := 14) C.1 C.2.1 qm_Cd_leaveFrame_142 (by decide) ?_
      obtain ⟨q2, c2, hf⟩ := bnd_s hf
      refine q_callVi (wf := (cW h K)) (n := 1) (As := [.int 14]) (q0 := 5) (ci := 1) C G hl.1 (kCo_get (l := l) c2) qx_Cd_169 qm_Co_get_d ⟨by decide, by decide⟩ ⟨Nat.le_refl _, Nat.le_refl _⟩ rfl rfl rfl rfl rfl (Nat.le_of_ble_eq_true rfl) qm_Cd_leaveFrame_144 (fun H locs G => ?_)
      refine lv_iload_n C.1 C.2.1 qm_Cd_leaveFrame_147 rfl (lv_at hl 1 rfl) ?_
      refine lv_bipush (v := 30) C.1 C.2.1 qm_Cd_leaveFrame_148 (by decide) ?_
      refine lv_iushr (v := ushr x1 30) C.1 C.2.1 qm_Cd_leaveFrame_150 rfl ?_
      refine lv_iadd C.1 C.2.1 qm_Cd_leaveFrame_151 ?_
      obtain ⟨S3, c3, hf⟩ := bnd_s hf
      refine q_callVv (wf := (cW h K)) (n := 2) (As := [.int 14, .int (q2.1 + (ushr x1 30))]) (q0 := 5) (ci := 1) C G hl.1 (kCo_put (l := l) c3) qx_Cd_92 qm_Co_put_d ⟨by decide, by decide⟩ ⟨Nat.le_refl _, Nat.le_refl _⟩ rfl rfl rfl rfl rfl (Nat.le_of_ble_eq_true rfl) qm_Cd_leaveFrame_152 (fun H locs G => ?_)
      refine lv_iload_n C.1 C.2.1 qm_Cd_leaveFrame_155 rfl (lv_at hl 1 rfl) ?_
      refine lv_ldc (own := "QuadMode$Codes") (v := 536870912) C.1 C.2.1 C.2.2.2.1 (C.2.2.2.2.1 _ qz_655) qm_Cd_leaveFrame_156 ?_
      refine lv_iand C.1 C.2.1 qm_Cd_leaveFrame_158 ?_
      refine lv_if_eq (tgt := 196) C.1 C.2.1 qm_Cd_leaveFrame_159 (by decide) (fun b4 => ?_) (fun b4 => ?_)
      · have hf := if_t b4 hf
        exact wCd_leaveFrame_196 C S3 x1 hf _ _ _ G (lv_sub hl [0, 1] rfl)
      · have hf := if_f b4 hf
        refine lv_aload_n C.1 C.2.1 qm_Cd_leaveFrame_162 rfl (lv_at hl 0 rfl) ?_
        refine q_get (wf := (cW h K)) (v := .ref (h 5)) C G qi_Cd 16 rfl rfl 0 (by decide) qz_218 rfl qm_Cd_leaveFrame_163 ?_
        obtain ⟨q5, c5, hf⟩ := bnd_s hf
        refine q_callVi (wf := (cW h K)) (n := 0) (As := []) (q0 := 5) (ci := 1) C G hl.1 (kCo_pop (l := l) c5) qx_Cd_89 qm_Co_pop_d ⟨by decide, by decide⟩ ⟨Nat.le_refl _, Nat.le_refl _⟩ rfl rfl rfl rfl rfl (Nat.le_of_ble_eq_true rfl) qm_Cd_leaveFrame_166 (fun H locs G => ?_)
        refine lv_sipush (v := 255) C.1 C.2.1 qm_Cd_leaveFrame_169 (by decide) ?_
        refine lv_iand C.1 C.2.1 qm_Cd_leaveFrame_172 ?_
        refine lv_istore_n (lv' := [(2, .int (q5.1 &&& 255)), (0, .ref (h 16)), (1, .int x1)]) C.1 C.2.1 qm_Cd_leaveFrame_173 rfl hl (by decide) rfl (fun ls hl => ?_)
        refine lv_aload_n C.1 C.2.1 qm_Cd_leaveFrame_174 rfl (lv_at hl 1 rfl) ?_
        refine q_get (wf := (cW h K)) (v := .ref (h 5)) C G qi_Cd 16 rfl rfl 0 (by decide) qz_218 rfl qm_Cd_leaveFrame_175 ?_
        refine lv_bipush (v := 14) C.1 C.2.1 qm_Cd_leaveFrame_178 (by decide) ?_
        refine lv_aload_n C.1 C.2.1 qm_Cd_leaveFrame_180 rfl (lv_at hl 1 rfl) ?_
        refine q_get (wf := (cW h K)) (v := .ref (h 5)) C G qi_Cd 16 rfl rfl 0 (by decide) qz_218 rfl qm_Cd_leaveFrame_181 ?_
        refine lv_bipush (v := 14) C.1 C.2.1 qm_Cd_leaveFrame_184 (by decide) ?_
        obtain ⟨q6, c6, hf⟩ := bnd_s hf
        refine q_callVi (wf := (cW h K)) (n := 1) (As := [.int 14]) (q0 := 5) (ci := 1) C G hl.1 (kCo_get (l := l) c6) qx_Cd_169 qm_Co_get_d ⟨by decide, by decide⟩ ⟨Nat.le_refl _, Nat.le_refl _⟩ rfl rfl rfl rfl rfl (Nat.le_of_ble_eq_true rfl) qm_Cd_leaveFrame_186 (fun H locs G => ?_)
        refine lv_iconst (v := 4) C.1 C.2.1 qm_Cd_leaveFrame_189 (by decide) ?_
        refine lv_iload_n C.1 C.2.1 qm_Cd_leaveFrame_190 rfl (lv_at hl 0 rfl) ?_
        refine lv_imul C.1 C.2.1 qm_Cd_leaveFrame_191 ?_
        refine lv_iadd C.1 C.2.1 qm_Cd_leaveFrame_192 ?_
        obtain ⟨S7, c7, hf⟩ := bnd_s hf
        refine q_callVv (wf := (cW h K)) (n := 2) (As := [.int 14, .int (q6.1 + (4 * (q5.1 &&& 255)))]) (q0 := 5) (ci := 1) C G hl.1 (kCo_put (l := l) c7) qx_Cd_92 qm_Co_put_d ⟨by decide, by decide⟩ ⟨Nat.le_refl _, Nat.le_refl _⟩ rfl rfl rfl rfl rfl (Nat.le_of_ble_eq_true rfl) qm_Cd_leaveFrame_193 (fun H locs G => ?_)
        exact wCd_leaveFrame_196 C S7 x1 hf _ _ _ G (lv_sub hl [1, 2] rfl)
    · have hf := if_f b1 hf
      refine lv_iload_n C.1 C.2.1 qm_Cd_leaveFrame_100 rfl (lv_at hl 1 rfl) ?_
      refine lv_bipush (v := 16) C.1 C.2.1 qm_Cd_leaveFrame_101 (by decide) ?_
      refine lv_iload_n C.1 C.2.1 qm_Cd_leaveFrame_103 rfl (lv_at hl 2 rfl) ?_
      refine lv_iadd C.1 C.2.1 qm_Cd_leaveFrame_104 ?_
      refine lv_iushr (v := ushr x1 (16 + x2)) C.1 C.2.1 qm_Cd_leaveFrame_105 rfl ?_
      refine lv_iconst (v := 1) C.1 C.2.1 qm_Cd_leaveFrame_106 (by decide) ?_
      refine lv_iand C.1 C.2.1 qm_Cd_leaveFrame_107 ?_
      refine lv_if_eq (tgt := 126) C.1 C.2.1 qm_Cd_leaveFrame_108 (by decide) (fun b8 => ?_) (fun b8 => ?_)
      · have hf := if_t b8 hf
        exact wCd_leaveFrame_126 C (ih) S x1 x2 hf _ _ _ G (lv_sub hl [0, 1, 2] rfl)
      · have hf := if_f b8 hf
        refine lv_aload_n C.1 C.2.1 qm_Cd_leaveFrame_111 rfl (lv_at hl 0 rfl) ?_
        refine q_get (wf := (cW h K)) (v := .ref (h 5)) C G qi_Cd 16 rfl rfl 0 (by decide) qz_218 rfl qm_Cd_leaveFrame_112 ?_
        refine lv_iload_n C.1 C.2.1 qm_Cd_leaveFrame_115 rfl (lv_at hl 2 rfl) ?_
        refine lv_aload_n C.1 C.2.1 qm_Cd_leaveFrame_116 rfl (lv_at hl 0 rfl) ?_
        refine q_get (wf := (cW h K)) (v := .ref (h 5)) C G qi_Cd 16 rfl rfl 0 (by decide) qz_218 rfl qm_Cd_leaveFrame_117 ?_
        obtain ⟨q9, c9, hf⟩ := bnd_s hf
        refine q_callVi (wf := (cW h K)) (n := 0) (As := []) (q0 := 5) (ci := 1) C G hl.1 (kCo_pop (l := l) c9) qx_Cd_89 qm_Co_pop_d ⟨by decide, by decide⟩ ⟨Nat.le_refl _, Nat.le_refl _⟩ rfl rfl rfl rfl rfl (Nat.le_of_ble_eq_true rfl) qm_Cd_leaveFrame_120 (fun H locs G => ?_)
        obtain ⟨S10, c10, hf⟩ := bnd_s hf
        refine q_callVv (wf := (cW h K)) (n := 2) (As := [.int x2, .int q9.1]) (q0 := 5) (ci := 1) C G hl.1 (kCo_put (l := l) c10) qx_Cd_92 qm_Co_put_d ⟨by decide, by decide⟩ ⟨Nat.le_refl _, Nat.le_refl _⟩ rfl rfl rfl rfl rfl (Nat.le_of_ble_eq_true rfl) qm_Cd_leaveFrame_123 (fun H locs G => ?_)
        exact wCd_leaveFrame_126 C (ih) S10 x1 x2 hf _ _ _ G (lv_sub hl [0, 1, 2] rfl)
set_option maxHeartbeats 4000000 in
set_option maxRecDepth 100000 in
theorem wCd_leaveFrame {l : Launch} {D : va_G} {h : Nat → Nat} {K : Nat → ClassId} {res : qS} {p : Program} {e : Env} {s : State} {m : MethodId} {args : Array Value} {below : List Frame} {meth : Method} {c : Code} {A : Nat → Prop} {ad : Nat → Nat} (C : qC p s m args meth c qm_Cd_leaveFrame_c 3 none qR_Cd ad) (S : qS) (hf : fCd_leaveFrame S = some res) : ∀ (H : Heap) (locs : List Loc) (ls : Array Slot), qG D qCl (cT K) A s (cW h K S) H locs → lv_has ls 3 [(0, .ref (h 16))] → W p l e ({ frames := 4, cells := 0, slots := 0, locals := 99 }) s m args below meth c H locs 0 0 (MQ below (qQv D qCl (cT K) (cW h K) A res) args s 0 0 A) (F0 m 0 ls []) := by
  intro H locs ls G hl
  unfold fCd_leaveFrame at hf
  refine lv_aload_n C.1 C.2.1 qm_Cd_leaveFrame_0 rfl (lv_at hl 0 rfl) ?_
  refine q_get (wf := (cW h K)) (v := .ref (h 5)) C G qi_Cd 16 rfl rfl 0 (by decide) qz_218 rfl qm_Cd_leaveFrame_1 ?_
  refine lv_bipush (v := 14) C.1 C.2.1 qm_Cd_leaveFrame_4 (by decide) ?_
  refine lv_aload_n C.1 C.2.1 qm_Cd_leaveFrame_6 rfl (lv_at hl 0 rfl) ?_
  refine q_get (wf := (cW h K)) (v := .ref (h 5)) C G qi_Cd 16 rfl rfl 0 (by decide) qz_218 rfl qm_Cd_leaveFrame_7 ?_
  refine lv_bipush (v := 13) C.1 C.2.1 qm_Cd_leaveFrame_10 (by decide) ?_
  obtain ⟨q1, c1, hf⟩ := bnd_s hf
  refine q_callVi (wf := (cW h K)) (n := 1) (As := [.int 13]) (q0 := 5) (ci := 1) C G hl.1 (kCo_get (l := l) c1) qx_Cd_169 qm_Co_get_d ⟨by decide, by decide⟩ ⟨Nat.le_refl _, Nat.le_refl _⟩ rfl rfl rfl rfl rfl (Nat.le_of_ble_eq_true rfl) qm_Cd_leaveFrame_12 (fun H locs G => ?_)
  refine lv_iconst (v := 4) C.1 C.2.1 qm_Cd_leaveFrame_15 (by decide) ?_
  refine lv_iadd C.1 C.2.1 qm_Cd_leaveFrame_16 ?_
  obtain ⟨S2, c2, hf⟩ := bnd_s hf
  refine q_callVv (wf := (cW h K)) (n := 2) (As := [.int 14, .int (q1.1 + 4)]) (q0 := 5) (ci := 1) C G hl.1 (kCo_put (l := l) c2) qx_Cd_92 qm_Co_put_d ⟨by decide, by decide⟩ ⟨Nat.le_refl _, Nat.le_refl _⟩ rfl rfl rfl rfl rfl (Nat.le_of_ble_eq_true rfl) qm_Cd_leaveFrame_17 (fun H locs G => ?_)
  refine lv_aload_n C.1 C.2.1 qm_Cd_leaveFrame_20 rfl (lv_at hl 0 rfl) ?_
  refine q_get (wf := (cW h K)) (v := .ref (h 5)) C G qi_Cd 16 rfl rfl 0 (by decide) qz_218 rfl qm_Cd_leaveFrame_21 ?_
  obtain ⟨q3, c3, hf⟩ := bnd_s hf
  refine q_callVi (wf := (cW h K)) (n := 0) (As := []) (q0 := 5) (ci := 1) C G hl.1 (kCo_pop (l := l) c3) qx_Cd_89 qm_Co_pop_d ⟨by decide, by decide⟩ ⟨Nat.le_refl _, Nat.le_refl _⟩ rfl rfl rfl rfl rfl (Nat.le_of_ble_eq_true rfl) qm_Cd_leaveFrame_24 (fun H locs G => ?_)
  refine lv_istore_n (lv' := [(1, .int q3.1), (0, .ref (h 16))]) C.1 C.2.1 qm_Cd_leaveFrame_27 rfl hl (by decide) rfl (fun ls hl => ?_)
  refine lv_iload_n C.1 C.2.1 qm_Cd_leaveFrame_28 rfl (lv_at hl 0 rfl) ?_
  refine lv_ldc (own := "QuadMode$Codes") (v := 65488) C.1 C.2.1 C.2.2.2.1 (C.2.2.2.2.1 _ qz_654) qm_Cd_leaveFrame_29 ?_
  refine lv_iand C.1 C.2.1 qm_Cd_leaveFrame_31 ?_
  refine lv_if_eq (tgt := 44) C.1 C.2.1 qm_Cd_leaveFrame_32 (by decide) (fun b4 => ?_) (fun b4 => ?_)
  · have hf := if_t b4 hf
    refine lv_aload_n C.1 C.2.1 qm_Cd_leaveFrame_44 rfl (lv_at hl 1 rfl) ?_
    refine q_get (wf := (cW h K)) (v := .ref (h 5)) C G qi_Cd 16 rfl rfl 0 (by decide) qz_218 rfl qm_Cd_leaveFrame_45 ?_
    refine lv_bipush (v := 12) C.1 C.2.1 qm_Cd_leaveFrame_48 (by decide) ?_
    refine lv_aload_n C.1 C.2.1 qm_Cd_leaveFrame_50 rfl (lv_at hl 1 rfl) ?_
    refine q_get (wf := (cW h K)) (v := .ref (h 5)) C G qi_Cd 16 rfl rfl 0 (by decide) qz_218 rfl qm_Cd_leaveFrame_51 ?_
    obtain ⟨q5, c5, hf⟩ := bnd_s hf
    refine q_callVi (wf := (cW h K)) (n := 0) (As := []) (q0 := 5) (ci := 1) C G hl.1 (kCo_pop (l := l) c5) qx_Cd_89 qm_Co_pop_d ⟨by decide, by decide⟩ ⟨Nat.le_refl _, Nat.le_refl _⟩ rfl rfl rfl rfl rfl (Nat.le_of_ble_eq_true rfl) qm_Cd_leaveFrame_54 (fun H locs G => ?_)
    obtain ⟨S6, c6, hf⟩ := bnd_s hf
    refine q_callVv (wf := (cW h K)) (n := 2) (As := [.int 12, .int q5.1]) (q0 := 5) (ci := 1) C G hl.1 (kCo_put (l := l) c6) qx_Cd_92 qm_Co_put_d ⟨by decide, by decide⟩ ⟨Nat.le_refl _, Nat.le_refl _⟩ rfl rfl rfl rfl rfl (Nat.le_of_ble_eq_true rfl) qm_Cd_leaveFrame_57 (fun H locs G => ?_)
    refine lv_aload_n C.1 C.2.1 qm_Cd_leaveFrame_60 rfl (lv_at hl 1 rfl) ?_
    refine q_get (wf := (cW h K)) (v := .ref (h 5)) C G qi_Cd 16 rfl rfl 0 (by decide) qz_218 rfl qm_Cd_leaveFrame_61 ?_
    refine lv_bipush (v := 13) C.1 C.2.1 qm_Cd_leaveFrame_64 (by decide) ?_
    refine lv_aload_n C.1 C.2.1 qm_Cd_leaveFrame_66 rfl (lv_at hl 1 rfl) ?_
    refine q_get (wf := (cW h K)) (v := .ref (h 5)) C G qi_Cd 16 rfl rfl 0 (by decide) qz_218 rfl qm_Cd_leaveFrame_67 ?_
    obtain ⟨q7, c7, hf⟩ := bnd_s hf
    refine q_callVi (wf := (cW h K)) (n := 0) (As := []) (q0 := 5) (ci := 1) C G hl.1 (kCo_pop (l := l) c7) qx_Cd_89 qm_Co_pop_d ⟨by decide, by decide⟩ ⟨Nat.le_refl _, Nat.le_refl _⟩ rfl rfl rfl rfl rfl (Nat.le_of_ble_eq_true rfl) qm_Cd_leaveFrame_70 (fun H locs G => ?_)
    obtain ⟨S8, c8, hf⟩ := bnd_s hf
    refine q_callVv (wf := (cW h K)) (n := 2) (As := [.int 13, .int q7.1]) (q0 := 5) (ci := 1) C G hl.1 (kCo_put (l := l) c8) qx_Cd_92 qm_Co_put_d ⟨by decide, by decide⟩ ⟨Nat.le_refl _, Nat.le_refl _⟩ rfl rfl rfl rfl rfl (Nat.le_of_ble_eq_true rfl) qm_Cd_leaveFrame_73 (fun H locs G => ?_)
    refine lv_aload_n C.1 C.2.1 qm_Cd_leaveFrame_76 rfl (lv_at hl 1 rfl) ?_
    refine q_get (wf := (cW h K)) (v := .ref (h 5)) C G qi_Cd 16 rfl rfl 0 (by decide) qz_218 rfl qm_Cd_leaveFrame_77 ?_
    refine lv_bipush (v := 15) C.1 C.2.1 qm_Cd_leaveFrame_80 (by decide) ?_
    refine lv_aload_n C.1 C.2.1 qm_Cd_leaveFrame_82 rfl (lv_at hl 1 rfl) ?_
    refine q_get (wf := (cW h K)) (v := .ref (h 5)) C G qi_Cd 16 rfl rfl 0 (by decide) qz_218 rfl qm_Cd_leaveFrame_83 ?_
    obtain ⟨q9, c9, hf⟩ := bnd_s hf
    refine q_callVi (wf := (cW h K)) (n := 0) (As := []) (q0 := 5) (ci := 1) C G hl.1 (kCo_pop (l := l) c9) qx_Cd_89 qm_Co_pop_d ⟨by decide, by decide⟩ ⟨Nat.le_refl _, Nat.le_refl _⟩ rfl rfl rfl rfl rfl (Nat.le_of_ble_eq_true rfl) qm_Cd_leaveFrame_86 (fun H locs G => ?_)
    obtain ⟨S10, c10, hf⟩ := bnd_s hf
    refine q_callVv (wf := (cW h K)) (n := 2) (As := [.int 15, .int q9.1]) (q0 := 5) (ci := 1) C G hl.1 (kCo_put (l := l) c10) qx_Cd_92 qm_Co_put_d ⟨by decide, by decide⟩ ⟨Nat.le_refl _, Nat.le_refl _⟩ rfl rfl rfl rfl rfl (Nat.le_of_ble_eq_true rfl) qm_Cd_leaveFrame_89 (fun H locs G => ?_)
    refine lv_iconst (v := 0) C.1 C.2.1 qm_Cd_leaveFrame_92 (by decide) ?_
    refine lv_istore_n (lv' := [(2, .int 0), (1, .int q3.1), (0, .ref (h 16))]) C.1 C.2.1 qm_Cd_leaveFrame_93 rfl hl (by decide) rfl (fun ls hl => ?_)
    exact wCd_leaveFrame_94 C 300 S10 q3.1 0 hf _ _ _ G (lv_sub hl [2, 1, 0] rfl)
  · have hf := if_f b4 hf
    refine lv_aload_n C.1 C.2.1 qm_Cd_leaveFrame_35 rfl (lv_at hl 1 rfl) ?_
    refine q_get (wf := (cW h K)) (v := .ref (h 5)) C G qi_Cd 16 rfl rfl 0 (by decide) qz_218 rfl qm_Cd_leaveFrame_36 ?_
    refine lv_iconst (v := 2) C.1 C.2.1 qm_Cd_leaveFrame_39 (by decide) ?_
    obtain ⟨S11, c11, hf⟩ := bnd_s hf
    refine q_callVv (wf := (cW h K)) (n := 1) (As := [.int 2]) (q0 := 5) (ci := 1) C G hl.1 (kCo_raise (l := l) c11) qx_Cd_82 qm_Co_raise_d ⟨by decide, by decide⟩ ⟨Nat.le_refl _, Nat.le_refl _⟩ rfl rfl rfl rfl rfl (Nat.le_of_ble_eq_true rfl) qm_Cd_leaveFrame_40 (fun H locs G => ?_)
    exact q_vret (wf := (cW h K)) C G hf qm_Cd_leaveFrame_43
theorem kCd_leaveFrame {l : Launch} {ad : Nat → Nat} {D : va_G} {h : Nat → Nat} {K : Nat → ClassId} {res : qS} {S : qS} (hf : fCd_leaveFrame S = some res) : qMv l qm_Cd_leaveFrame qm_Cd_leaveFrame_c 3 4 99 D qCl (cT K) ad (cW h K) [.ref (h 16)] S res := qMv_of (by decide) (Nat.le_of_ble_eq_true rfl) (fun _ _ _ _ _ _ _ _ _ _ C G hl => wCd_leaveFrame C S hf _ _ _ G hl)
set_option maxHeartbeats 4000000 in
set_option maxRecDepth 100000 in
theorem wCd_giveInner_26 {l : Launch} {D : va_G} {h : Nat → Nat} {K : Nat → ClassId} {res : qS} {p : Program} {e : Env} {s : State} {m : MethodId} {args : Array Value} {below : List Frame} {meth : Method} {c : Code} {A : Nat → Prop} {ad : Nat → Nat} (C : qC p s m args meth c qm_Cd_giveInner_c 3 none qR_Cd ad) (S : qS) (hf : fCd_giveInner_26 S = some res) : ∀ (H : Heap) (locs : List Loc) (ls : Array Slot), qG D qCl (cT K) A s (cW h K S) H locs → lv_has ls 3 [(0, .ref (h 16))] → W p l e ({ frames := 2, cells := 0, slots := 0, locals := 43 }) s m args below meth c H locs 0 0 (MQ below (qQv D qCl (cT K) (cW h K) A res) args s 0 0 A) (F0 m 26 ls []) := by
  intro H locs ls G hl
  unfold fCd_giveInner_26 at hf
  refine lv_aload_n C.1 C.2.1 qm_Cd_giveInner_26 rfl (lv_at hl 0 rfl) ?_
  refine q_get (wf := (cW h K)) (v := .ref (h 5)) C G qi_Cd 16 rfl rfl 0 (by decide) qz_218 rfl qm_Cd_giveInner_27 ?_
  refine lv_iconst (v := 2) C.1 C.2.1 qm_Cd_giveInner_30 (by decide) ?_
  obtain ⟨S1, c1, hf⟩ := bnd_s hf
  refine q_callVv (wf := (cW h K)) (n := 1) (As := [.int 2]) (q0 := 5) (ci := 1) C G hl.1 (kCo_raise (l := l) c1) qx_Cd_82 qm_Co_raise_d ⟨by decide, by decide⟩ ⟨Nat.le_refl _, Nat.le_refl _⟩ rfl rfl rfl rfl rfl (Nat.le_of_ble_eq_true rfl) qm_Cd_giveInner_31 (fun H locs G => ?_)
  exact q_vret (wf := (cW h K)) C G hf qm_Cd_giveInner_34
set_option maxHeartbeats 4000000 in
set_option maxRecDepth 100000 in
theorem wCd_giveInner_35 {l : Launch} {D : va_G} {h : Nat → Nat} {K : Nat → ClassId} {res : qS} {p : Program} {e : Env} {s : State} {m : MethodId} {args : Array Value} {below : List Frame} {meth : Method} {c : Code} {A : Nat → Prop} {ad : Nat → Nat} (C : qC p s m args meth c qm_Cd_giveInner_c 3 none qR_Cd ad) (S : qS) (x1 : Int32) (x2 : Int32) (hf : fCd_giveInner_35 S x1 x2 = some res) : ∀ (H : Heap) (locs : List Loc) (ls : Array Slot), qG D qCl (cT K) A s (cW h K S) H locs → lv_has ls 3 [(0, .ref (h 16)), (1, .int x1), (2, .int x2)] → W p l e ({ frames := 2, cells := 0, slots := 0, locals := 43 }) s m args below meth c H locs 0 0 (MQ below (qQv D qCl (cT K) (cW h K) A res) args s 0 0 A) (F0 m 35 ls []) := by
  intro H locs ls G hl
  unfold fCd_giveInner_35 at hf
  refine lv_aload_n C.1 C.2.1 qm_Cd_giveInner_35 rfl (lv_at hl 0 rfl) ?_
  refine q_get (wf := (cW h K)) (v := .ref (h 5)) C G qi_Cd 16 rfl rfl 0 (by decide) qz_218 rfl qm_Cd_giveInner_36 ?_
  refine lv_iload_n C.1 C.2.1 qm_Cd_giveInner_39 rfl (lv_at hl 1 rfl) ?_
  refine lv_iload_n C.1 C.2.1 qm_Cd_giveInner_40 rfl (lv_at hl 2 rfl) ?_
  obtain ⟨S1, c1, hf⟩ := bnd_s hf
  refine q_callVv (wf := (cW h K)) (n := 2) (As := [.int x1, .int x2]) (q0 := 5) (ci := 1) C G hl.1 (kCo_putInner (l := l) c1) qx_Cd_177 qm_Co_putInner_d ⟨by decide, by decide⟩ ⟨Nat.le_refl _, Nat.le_refl _⟩ rfl rfl rfl rfl rfl (Nat.le_of_ble_eq_true rfl) qm_Cd_giveInner_41 (fun H locs G => ?_)
  exact q_vret (wf := (cW h K)) C G hf qm_Cd_giveInner_44
set_option maxHeartbeats 4000000 in
set_option maxRecDepth 100000 in
theorem wCd_giveInner {l : Launch} {D : va_G} {h : Nat → Nat} {K : Nat → ClassId} {res : qS} {p : Program} {e : Env} {s : State} {m : MethodId} {args : Array Value} {below : List Frame} {meth : Method} {c : Code} {A : Nat → Prop} {ad : Nat → Nat} (C : qC p s m args meth c qm_Cd_giveInner_c 3 none qR_Cd ad) (S : qS) (a1 : Int32) (a2 : Int32) (hf : fCd_giveInner S a1 a2 = some res) : ∀ (H : Heap) (locs : List Loc) (ls : Array Slot), qG D qCl (cT K) A s (cW h K S) H locs → lv_has ls 3 [(0, .ref (h 16)), (1, .int a1), (2, .int a2)] → W p l e ({ frames := 2, cells := 0, slots := 0, locals := 43 }) s m args below meth c H locs 0 0 (MQ below (qQv D qCl (cT K) (cW h K) A res) args s 0 0 A) (F0 m 0 ls []) := by
  intro H locs ls G hl
  unfold fCd_giveInner at hf
  refine lv_aload_n C.1 C.2.1 qm_Cd_giveInner_0 rfl (lv_at hl 0 rfl) ?_
  refine q_get (wf := (cW h K)) (v := .ref (h 5)) C G qi_Cd 16 rfl rfl 0 (by decide) qz_218 rfl qm_Cd_giveInner_1 ?_
  refine lv_iload_n C.1 C.2.1 qm_Cd_giveInner_4 rfl (lv_at hl 1 rfl) ?_
  obtain ⟨q1, c1, hf⟩ := bnd_s hf
  refine q_callVi (wf := (cW h K)) (n := 1) (As := [.int a1]) (q0 := 5) (ci := 1) C G hl.1 (kCo_hasInner (l := l) c1) qx_Cd_174 qm_Co_hasInner_d ⟨by decide, by decide⟩ ⟨Nat.le_refl _, Nat.le_refl _⟩ rfl rfl rfl rfl rfl (Nat.le_of_ble_eq_true rfl) qm_Cd_giveInner_5 (fun H locs G => ?_)
  refine lv_if_eq (tgt := 26) C.1 C.2.1 qm_Cd_giveInner_8 (by decide) (fun b2 => ?_) (fun b2 => ?_)
  · have hf := if_t b2 hf
    exact wCd_giveInner_26 C q1.2 hf _ _ _ G (lv_sub hl [0] rfl)
  · have hf := if_f b2 hf
    refine lv_iload_n C.1 C.2.1 qm_Cd_giveInner_11 rfl (lv_at hl 1 rfl) ?_
    refine lv_bipush (v := 56) C.1 C.2.1 qm_Cd_giveInner_12 (by decide) ?_
    refine lv_icmp_ne (tgt := 35) C.1 C.2.1 qm_Cd_giveInner_14 (by decide) (fun b3 => ?_) (fun b3 => ?_)
    · have hf := if_t b3 hf
      exact wCd_giveInner_35 C q1.2 a1 a2 hf _ _ _ G (lv_sub hl [0, 1, 2] rfl)
    · have hf := if_f (not_not_intro b3) hf
      refine lv_iload_n C.1 C.2.1 qm_Cd_giveInner_17 rfl (lv_at hl 2 rfl) ?_
      refine lv_if_eq (tgt := 35) C.1 C.2.1 qm_Cd_giveInner_18 (by decide) (fun b4 => ?_) (fun b4 => ?_)
      · have hf := if_t b4 hf
        exact wCd_giveInner_35 C q1.2 a1 a2 hf _ _ _ G (lv_sub hl [0, 1, 2] rfl)
      · have hf := if_f b4 hf
        refine lv_iload_n C.1 C.2.1 qm_Cd_giveInner_21 rfl (lv_at hl 2 rfl) ?_
        refine lv_iconst (v := 1) C.1 C.2.1 qm_Cd_giveInner_22 (by decide) ?_
        refine lv_icmp_eq (tgt := 35) C.1 C.2.1 qm_Cd_giveInner_23 (by decide) (fun b5 => ?_) (fun b5 => ?_)
        · have hf := if_t b5 hf
          exact wCd_giveInner_35 C q1.2 a1 a2 hf _ _ _ G (lv_sub hl [0, 1, 2] rfl)
        · have hf := if_f b5 hf
          exact wCd_giveInner_26 C q1.2 hf _ _ _ G (lv_sub hl [0] rfl)
theorem kCd_giveInner {l : Launch} {ad : Nat → Nat} {D : va_G} {h : Nat → Nat} {K : Nat → ClassId} {res : qS} {S : qS} {a1 : Int32} {a2 : Int32} (hf : fCd_giveInner S a1 a2 = some res) : qMv l qm_Cd_giveInner qm_Cd_giveInner_c 3 2 43 D qCl (cT K) ad (cW h K) [.ref (h 16), .int a1, .int a2] S res := qMv_of (by decide) (Nat.le_of_ble_eq_true rfl) (fun _ _ _ _ _ _ _ _ _ _ C G hl => wCd_giveInner C S a1 a2 hf _ _ _ G hl)
set_option maxHeartbeats 4000000 in
set_option maxRecDepth 100000 in
theorem wCd_store_82 {l : Launch} {D : va_G} {h : Nat → Nat} {K : Nat → ClassId} {res : qS} {p : Program} {e : Env} {s : State} {m : MethodId} {args : Array Value} {below : List Frame} {meth : Method} {c : Code} {A : Nat → Prop} {ad : Nat → Nat} (C : qC p s m args meth c qm_Cd_store_c 3 none qR_Cd ad) (S : qS) (hf : fCd_store_82 S = some res) : ∀ (H : Heap) (locs : List Loc) (ls : Array Slot), qG D qCl (cT K) A s (cW h K S) H locs → lv_has ls 3 [] → W p l e ({ frames := 3, cells := 0, slots := 0, locals := 77 }) s m args below meth c H locs 0 0 (MQ below (qQv D qCl (cT K) (cW h K) A res) args s 0 0 A) (F0 m 82 ls []) := by
  intro H locs ls G hl
  unfold fCd_store_82 at hf
  exact q_vret (wf := (cW h K)) C G hf qm_Cd_store_82
set_option maxHeartbeats 4000000 in
set_option maxRecDepth 100000 in
theorem wCd_store {l : Launch} {D : va_G} {h : Nat → Nat} {K : Nat → ClassId} {res : qS} {p : Program} {e : Env} {s : State} {m : MethodId} {args : Array Value} {below : List Frame} {meth : Method} {c : Code} {A : Nat → Prop} {ad : Nat → Nat} (C : qC p s m args meth c qm_Cd_store_c 3 none qR_Cd ad) (S : qS) (k1 : Nat) (a2 : Int32) (hf : fCd_store S k1 a2 = some res) : k1 < 3 → ∀ (H : Heap) (locs : List Loc) (ls : Array Slot), qG D qCl (cT K) A s (cW h K S) H locs → lv_has ls 3 [(0, .ref (h 16)), (1, .ref (h (12 + k1))), (2, .int a2)] → W p l e ({ frames := 3, cells := 0, slots := 0, locals := 77 }) s m args below meth c H locs 0 0 (MQ below (qQv D qCl (cT K) (cW h K) A res) args s 0 0 A) (F0 m 0 ls []) := by
  intro hk1 H locs ls G hl
  unfold fCd_store at hf
  refine lv_aload_n C.1 C.2.1 qm_Cd_store_0 rfl (lv_at hl 1 rfl) ?_
  refine q_getN (host := "QuadMode") (wf := (cW h K)) (v := .int (S.1 (12 + 4 * k1))) C G qi_Op (12 + k1) (cW_op k1 hk1) rfl 1 (by decide) (by decide +kernel) rfl qm_Cd_store_1 ?_
  refine lv_iconst (v := (-1)) C.1 C.2.1 qm_Cd_store_4 (by decide) ?_
  refine lv_icmp_ne (tgt := 27) C.1 C.2.1 qm_Cd_store_5 (by decide) (fun b1 => ?_) (fun b1 => ?_)
  · have hf := if_t b1 hf
    refine lv_aload_n C.1 C.2.1 qm_Cd_store_27 rfl (lv_at hl 1 rfl) ?_
    refine q_getN (host := "QuadMode") (wf := (cW h K)) (v := .int (S.1 (11 + 4 * k1))) C G qi_Op (12 + k1) (cW_op k1 hk1) rfl 0 (by decide) (by decide +kernel) rfl qm_Cd_store_28 ?_
    refine lv_iconst (v := 1) C.1 C.2.1 qm_Cd_store_31 (by decide) ?_
    refine lv_icmp_ne (tgt := 70) C.1 C.2.1 qm_Cd_store_32 (by decide) (fun b2 => ?_) (fun b2 => ?_)
    · have hf := if_t b2 hf
      refine lv_aload_n C.1 C.2.1 qm_Cd_store_70 rfl (lv_at hl 0 rfl) ?_
      refine q_get (wf := (cW h K)) (v := .ref (h 5)) C G qi_Cd 16 rfl rfl 0 (by decide) qz_218 rfl qm_Cd_store_71 ?_
      refine lv_aload_n C.1 C.2.1 qm_Cd_store_74 rfl (lv_at hl 1 rfl) ?_
      refine q_getN (host := "QuadMode") (wf := (cW h K)) (v := .int (S.1 (12 + 4 * k1))) C G qi_Op (12 + k1) (cW_op k1 hk1) rfl 1 (by decide) (by decide +kernel) rfl qm_Cd_store_75 ?_
      refine lv_iload_n C.1 C.2.1 qm_Cd_store_78 rfl (lv_at hl 2 rfl) ?_
      obtain ⟨S3, c3, hf⟩ := bnd_s hf
      refine q_callVv (wf := (cW h K)) (n := 2) (As := [.int (S.1 (12 + 4 * k1)), .int a2]) (q0 := 5) (ci := 1) C G hl.1 (kCo_put (l := l) c3) qx_Cd_92 qm_Co_put_d ⟨by decide, by decide⟩ ⟨Nat.le_refl _, Nat.le_refl _⟩ rfl rfl rfl rfl rfl (Nat.le_of_ble_eq_true rfl) qm_Cd_store_79 (fun H locs G => ?_)
      exact wCd_store_82 C S3 hf _ _ _ G (lv_sub hl [] rfl)
    · have hf := if_f (not_not_intro b2) hf
      refine lv_aload_n C.1 C.2.1 qm_Cd_store_35 rfl (lv_at hl 0 rfl) ?_
      refine q_get (wf := (cW h K)) (v := .ref (h 5)) C G qi_Cd 16 rfl rfl 0 (by decide) qz_218 rfl qm_Cd_store_36 ?_
      refine lv_aload_n C.1 C.2.1 qm_Cd_store_39 rfl (lv_at hl 1 rfl) ?_
      refine q_getN (host := "QuadMode") (wf := (cW h K)) (v := .int (S.1 (12 + 4 * k1))) C G qi_Op (12 + k1) (cW_op k1 hk1) rfl 1 (by decide) (by decide +kernel) rfl qm_Cd_store_40 ?_
      refine lv_aload_n C.1 C.2.1 qm_Cd_store_43 rfl (lv_at hl 0 rfl) ?_
      refine q_get (wf := (cW h K)) (v := .ref (h 5)) C G qi_Cd 16 rfl rfl 0 (by decide) qz_218 rfl qm_Cd_store_44 ?_
      refine lv_aload_n C.1 C.2.1 qm_Cd_store_47 rfl (lv_at hl 1 rfl) ?_
      refine q_getN (host := "QuadMode") (wf := (cW h K)) (v := .int (S.1 (12 + 4 * k1))) C G qi_Op (12 + k1) (cW_op k1 hk1) rfl 1 (by decide) (by decide +kernel) rfl qm_Cd_store_48 ?_
      obtain ⟨q4, c4, hf⟩ := bnd_s hf
      refine q_callVi (wf := (cW h K)) (n := 1) (As := [.int (S.1 (12 + 4 * k1))]) (q0 := 5) (ci := 1) C G hl.1 (kCo_get (l := l) c4) qx_Cd_169 qm_Co_get_d ⟨by decide, by decide⟩ ⟨Nat.le_refl _, Nat.le_refl _⟩ rfl rfl rfl rfl rfl (Nat.le_of_ble_eq_true rfl) qm_Cd_store_51 (fun H locs G => ?_)
      refine lv_sipush (v := (-256)) C.1 C.2.1 qm_Cd_store_54 (by decide) ?_
      refine lv_iand C.1 C.2.1 qm_Cd_store_57 ?_
      refine lv_iload_n C.1 C.2.1 qm_Cd_store_58 rfl (lv_at hl 2 rfl) ?_
      refine lv_sipush (v := 255) C.1 C.2.1 qm_Cd_store_59 (by decide) ?_
      refine lv_iand C.1 C.2.1 qm_Cd_store_62 ?_
      refine lv_ior C.1 C.2.1 qm_Cd_store_63 ?_
      obtain ⟨S5, c5, hf⟩ := bnd_s hf
      refine q_callVv (wf := (cW h K)) (n := 2) (As := [.int (S.1 (12 + 4 * k1)), .int ((q4.1 &&& (-256)) ||| (a2 &&& 255))]) (q0 := 5) (ci := 1) C G hl.1 (kCo_put (l := l) c5) qx_Cd_92 qm_Co_put_d ⟨by decide, by decide⟩ ⟨Nat.le_refl _, Nat.le_refl _⟩ rfl rfl rfl rfl rfl (Nat.le_of_ble_eq_true rfl) qm_Cd_store_64 (fun H locs G => ?_)
      refine lv_goto (tgt := 82) C.1 C.2.1 qm_Cd_store_67 (by decide) ?_
      exact wCd_store_82 C S5 hf _ _ _ G (lv_sub hl [] rfl)
  · have hf := if_f (not_not_intro b1) hf
    refine lv_aload_n C.1 C.2.1 qm_Cd_store_8 rfl (lv_at hl 0 rfl) ?_
    refine q_get (wf := (cW h K)) (v := .ref (h 5)) C G qi_Cd 16 rfl rfl 0 (by decide) qz_218 rfl qm_Cd_store_9 ?_
    refine lv_aload_n C.1 C.2.1 qm_Cd_store_12 rfl (lv_at hl 1 rfl) ?_
    refine q_getN (host := "QuadMode") (wf := (cW h K)) (v := .int (S.1 (13 + 4 * k1))) C G qi_Op (12 + k1) (cW_op k1 hk1) rfl 2 (by decide) (by decide +kernel) rfl qm_Cd_store_13 ?_
    refine lv_iload_n C.1 C.2.1 qm_Cd_store_16 rfl (lv_at hl 2 rfl) ?_
    refine lv_aload_n C.1 C.2.1 qm_Cd_store_17 rfl (lv_at hl 1 rfl) ?_
    refine q_getN (host := "QuadMode") (wf := (cW h K)) (v := .int (S.1 (11 + 4 * k1))) C G qi_Op (12 + k1) (cW_op k1 hk1) rfl 0 (by decide) (by decide +kernel) rfl qm_Cd_store_18 ?_
    obtain ⟨S6, c6, hf⟩ := bnd_s hf
    refine q_callVv (wf := (cW h K)) (n := 3) (As := [.int (S.1 (13 + 4 * k1)), .int a2, .int (S.1 (11 + 4 * k1))]) (q0 := 5) (ci := 1) C G hl.1 (kCo_write (l := l) c6) qx_Cd_165 qm_Co_write_d ⟨by decide, by decide⟩ ⟨Nat.le_refl _, Nat.le_refl _⟩ rfl rfl rfl rfl rfl (Nat.le_of_ble_eq_true rfl) qm_Cd_store_21 (fun H locs G => ?_)
    refine lv_goto (tgt := 82) C.1 C.2.1 qm_Cd_store_24 (by decide) ?_
    exact wCd_store_82 C S6 hf _ _ _ G (lv_sub hl [] rfl)
theorem kCd_store {l : Launch} {ad : Nat → Nat} {D : va_G} {h : Nat → Nat} {K : Nat → ClassId} {res : qS} {S : qS} {k1 : Nat} {a2 : Int32} (hf : fCd_store S k1 a2 = some res) (hk1 : k1 < 3) : qMv l qm_Cd_store qm_Cd_store_c 3 3 77 D qCl (cT K) ad (cW h K) [.ref (h 16), .ref (h (12 + k1)), .int a2] S res := qMv_of (by decide) (Nat.le_of_ble_eq_true rfl) (fun _ _ _ _ _ _ _ _ _ _ C G hl => wCd_store C S k1 a2 hf hk1 _ _ _ G hl)
set_option maxHeartbeats 4000000 in
set_option maxRecDepth 100000 in
theorem wCd_takeInner {l : Launch} {D : va_G} {h : Nat → Nat} {K : Nat → ClassId} {res : qS} {p : Program} {e : Env} {s : State} {m : MethodId} {args : Array Value} {below : List Frame} {meth : Method} {c : Code} {A : Nat → Prop} {ad : Nat → Nat} (C : qC p s m args meth c qm_Cd_takeInner_c 3 none qR_Cd ad) (S : qS) (a1 : Int32) (hf : fCd_takeInner S a1 = some res) : ∀ (H : Heap) (locs : List Loc) (ls : Array Slot), qG D qCl (cT K) A s (cW h K S) H locs → lv_has ls 3 [(0, .ref (h 16)), (1, .int a1)] → W p l e ({ frames := 4, cells := 0, slots := 0, locals := 99 }) s m args below meth c H locs 0 0 (MQ below (qQv D qCl (cT K) (cW h K) A res) args s 0 0 A) (F0 m 0 ls []) := by
  intro H locs ls G hl
  unfold fCd_takeInner at hf
  refine lv_aload_n C.1 C.2.1 qm_Cd_takeInner_0 rfl (lv_at hl 0 rfl) ?_
  refine q_get (wf := (cW h K)) (v := .ref (h 5)) C G qi_Cd 16 rfl rfl 0 (by decide) qz_218 rfl qm_Cd_takeInner_1 ?_
  refine lv_iload_n C.1 C.2.1 qm_Cd_takeInner_4 rfl (lv_at hl 1 rfl) ?_
  obtain ⟨q1, c1, hf⟩ := bnd_s hf
  refine q_callVi (wf := (cW h K)) (n := 1) (As := [.int a1]) (q0 := 5) (ci := 1) C G hl.1 (kCo_hasInner (l := l) c1) qx_Cd_174 qm_Co_hasInner_d ⟨by decide, by decide⟩ ⟨Nat.le_refl _, Nat.le_refl _⟩ rfl rfl rfl rfl rfl (Nat.le_of_ble_eq_true rfl) qm_Cd_takeInner_5 (fun H locs G => ?_)
  refine lv_if_ne (tgt := 20) C.1 C.2.1 qm_Cd_takeInner_8 (by decide) (fun b2 => ?_) (fun b2 => ?_)
  · have hf := if_t b2 hf
    refine lv_aload_n C.1 C.2.1 qm_Cd_takeInner_20 rfl (lv_at hl 0 rfl) ?_
    refine q_get (wf := (cW h K)) (v := .ref (h 5)) C G qi_Cd 16 rfl rfl 0 (by decide) qz_218 rfl qm_Cd_takeInner_21 ?_
    refine lv_iload_n C.1 C.2.1 qm_Cd_takeInner_24 rfl (lv_at hl 1 rfl) ?_
    obtain ⟨q3, c3, hf⟩ := bnd_s hf
    refine q_callVi (wf := (cW h K)) (n := 1) (As := [.int a1]) (q0 := 5) (ci := 1) C G hl.1 (kCo_getInner (l := l) c3) qx_Cd_180 qm_Co_getInner_d ⟨by decide, by decide⟩ ⟨Nat.le_refl _, Nat.le_refl _⟩ rfl rfl rfl rfl rfl (Nat.le_of_ble_eq_true rfl) qm_Cd_takeInner_25 (fun H locs G => ?_)
    refine lv_istore_n (lv' := [(2, .int q3.1), (0, .ref (h 16)), (1, .int a1)]) C.1 C.2.1 qm_Cd_takeInner_28 rfl hl (by decide) rfl (fun ls hl => ?_)
    refine lv_aload_n C.1 C.2.1 qm_Cd_takeInner_29 rfl (lv_at hl 1 rfl) ?_
    refine q_get (wf := (cW h K)) (v := .ref (h 5)) C G qi_Cd 16 rfl rfl 0 (by decide) qz_218 rfl qm_Cd_takeInner_30 ?_
    refine lv_iload_n C.1 C.2.1 qm_Cd_takeInner_33 rfl (lv_at hl 0 rfl) ?_
    refine lv_iconst (v := 0) C.1 C.2.1 qm_Cd_takeInner_34 (by decide) ?_
    refine lv_iconst (v := 0) C.1 C.2.1 qm_Cd_takeInner_35 (by decide) ?_
    obtain ⟨S4, c4, hf⟩ := bnd_s hf
    refine q_callVv (wf := (cW h K)) (n := 3) (As := [.int q3.1, .int 0, .int 0]) (q0 := 5) (ci := 1) C G hl.1 (kCo_conclude (l := l) c4) qx_Cd_183 qm_Co_conclude_d ⟨by decide, by decide⟩ ⟨Nat.le_refl _, Nat.le_refl _⟩ rfl rfl rfl rfl rfl (Nat.le_of_ble_eq_true rfl) qm_Cd_takeInner_36 (fun H locs G => ?_)
    refine lv_aload_n C.1 C.2.1 qm_Cd_takeInner_39 rfl (lv_at hl 1 rfl) ?_
    refine lv_aload_n C.1 C.2.1 qm_Cd_takeInner_40 rfl (lv_at hl 1 rfl) ?_
    refine q_get (wf := (cW h K)) (v := .ref (h 13)) C G qi_Cd 16 rfl rfl 2 (by decide) qz_220 rfl qm_Cd_takeInner_41 ?_
    refine lv_iload_n C.1 C.2.1 qm_Cd_takeInner_44 rfl (lv_at hl 0 rfl) ?_
    obtain ⟨S5, c5, hf⟩ := bnd_s hf
    refine q_callVv (wf := (cW h K)) (n := 2) (As := [.ref (h 13), .int q3.1]) (q0 := 16) (ci := 0) C G hl.1 (kCd_store (l := l) c5 (by decide)) qx_Cd_111 qm_Cd_store_d ⟨by decide, by decide⟩ ⟨Nat.le_refl _, Nat.le_refl _⟩ rfl rfl rfl rfl rfl (Nat.le_of_ble_eq_true rfl) qm_Cd_takeInner_45 (fun H locs G => ?_)
    exact q_vret (wf := (cW h K)) C G hf qm_Cd_takeInner_48
  · have hf := if_f (not_not_intro b2) hf
    refine lv_aload_n C.1 C.2.1 qm_Cd_takeInner_11 rfl (lv_at hl 0 rfl) ?_
    refine q_get (wf := (cW h K)) (v := .ref (h 5)) C G qi_Cd 16 rfl rfl 0 (by decide) qz_218 rfl qm_Cd_takeInner_12 ?_
    refine lv_iconst (v := 2) C.1 C.2.1 qm_Cd_takeInner_15 (by decide) ?_
    obtain ⟨S6, c6, hf⟩ := bnd_s hf
    refine q_callVv (wf := (cW h K)) (n := 1) (As := [.int 2]) (q0 := 5) (ci := 1) C G hl.1 (kCo_raise (l := l) c6) qx_Cd_82 qm_Co_raise_d ⟨by decide, by decide⟩ ⟨Nat.le_refl _, Nat.le_refl _⟩ rfl rfl rfl rfl rfl (Nat.le_of_ble_eq_true rfl) qm_Cd_takeInner_16 (fun H locs G => ?_)
    exact q_vret (wf := (cW h K)) C G hf qm_Cd_takeInner_19
theorem kCd_takeInner {l : Launch} {ad : Nat → Nat} {D : va_G} {h : Nat → Nat} {K : Nat → ClassId} {res : qS} {S : qS} {a1 : Int32} (hf : fCd_takeInner S a1 = some res) : qMv l qm_Cd_takeInner qm_Cd_takeInner_c 3 4 99 D qCl (cT K) ad (cW h K) [.ref (h 16), .int a1] S res := qMv_of (by decide) (Nat.le_of_ble_eq_true rfl) (fun _ _ _ _ _ _ _ _ _ _ C G hl => wCd_takeInner C S a1 hf _ _ _ G hl)
set_option maxHeartbeats 4000000 in
set_option maxRecDepth 100000 in
theorem wCd_shift_63 {l : Launch} {D : va_G} {h : Nat → Nat} {K : Nat → ClassId} {res : qS} {p : Program} {e : Env} {s : State} {m : MethodId} {args : Array Value} {below : List Frame} {meth : Method} {c : Code} {A : Nat → Prop} {ad : Nat → Nat} (C : qC p s m args meth c qm_Cd_shift_c 5 none qR_Cd ad) (S : qS) (x3 : Int32) (x4 : Int32) (hf : fCd_shift_63 S x3 x4 = some res) : ∀ (H : Heap) (locs : List Loc) (ls : Array Slot), qG D qCl (cT K) A s (cW h K S) H locs → lv_has ls 5 [(0, .ref (h 16)), (3, .int x3), (4, .int x4)] → W p l e ({ frames := 4, cells := 0, slots := 0, locals := 99 }) s m args below meth c H locs 0 0 (MQ below (qQv D qCl (cT K) (cW h K) A res) args s 0 0 A) (F0 m 63 ls []) := by
  intro H locs ls G hl
  unfold fCd_shift_63 at hf
  refine lv_aload_n C.1 C.2.1 qm_Cd_shift_63 rfl (lv_at hl 0 rfl) ?_
  refine q_get (wf := (cW h K)) (v := .ref (h 5)) C G qi_Cd 16 rfl rfl 0 (by decide) qz_218 rfl qm_Cd_shift_64 ?_
  refine lv_iload_n C.1 C.2.1 qm_Cd_shift_67 rfl (lv_at hl 1 rfl) ?_
  refine lv_iload C.1 C.2.1 qm_Cd_shift_68 (lv_at hl 2 rfl) ?_
  refine lv_iconst (v := 0) C.1 C.2.1 qm_Cd_shift_70 (by decide) ?_
  obtain ⟨S1, c1, hf⟩ := bnd_s hf
  refine q_callVv (wf := (cW h K)) (n := 3) (As := [.int x3, .int x4, .int 0]) (q0 := 5) (ci := 1) C G hl.1 (kCo_conclude (l := l) c1) qx_Cd_183 qm_Co_conclude_d ⟨by decide, by decide⟩ ⟨Nat.le_refl _, Nat.le_refl _⟩ rfl rfl rfl rfl rfl (Nat.le_of_ble_eq_true rfl) qm_Cd_shift_71 (fun H locs G => ?_)
  refine lv_aload_n C.1 C.2.1 qm_Cd_shift_74 rfl (lv_at hl 0 rfl) ?_
  refine lv_aload_n C.1 C.2.1 qm_Cd_shift_75 rfl (lv_at hl 0 rfl) ?_
  refine q_get (wf := (cW h K)) (v := .ref (h 14)) C G qi_Cd 16 rfl rfl 3 (by decide) qz_221 rfl qm_Cd_shift_76 ?_
  refine lv_iload_n C.1 C.2.1 qm_Cd_shift_79 rfl (lv_at hl 1 rfl) ?_
  obtain ⟨S2, c2, hf⟩ := bnd_s hf
  refine q_callVv (wf := (cW h K)) (n := 2) (As := [.ref (h 14), .int x3]) (q0 := 16) (ci := 0) C G hl.1 (kCd_store (l := l) c2 (by decide)) qx_Cd_111 qm_Cd_store_d ⟨by decide, by decide⟩ ⟨Nat.le_refl _, Nat.le_refl _⟩ rfl rfl rfl rfl rfl (Nat.le_of_ble_eq_true rfl) qm_Cd_shift_80 (fun H locs G => ?_)
  exact q_vret (wf := (cW h K)) C G hf qm_Cd_shift_83
set_option maxHeartbeats 4000000 in
set_option maxRecDepth 100000 in
theorem wCd_shift_61 {l : Launch} {D : va_G} {h : Nat → Nat} {K : Nat → ClassId} {res : qS} {p : Program} {e : Env} {s : State} {m : MethodId} {args : Array Value} {below : List Frame} {meth : Method} {c : Code} {A : Nat → Prop} {ad : Nat → Nat} (C : qC p s m args meth c qm_Cd_shift_c 5 none qR_Cd ad) (S : qS) (x3 : Int32) (y0 : Int32) (hf : fCd_shift_61 S x3 y0 = some res) : ∀ (H : Heap) (locs : List Loc) (ls : Array Slot), qG D qCl (cT K) A s (cW h K S) H locs → lv_has ls 5 [(0, .ref (h 16)), (3, .int x3)] → W p l e ({ frames := 4, cells := 0, slots := 0, locals := 99 }) s m args below meth c H locs 0 0 (MQ below (qQv D qCl (cT K) (cW h K) A res) args s 0 0 A) (F0 m 61 ls [.int y0]) := by
  intro H locs ls G hl
  unfold fCd_shift_61 at hf
  refine lv_istore (lv' := [(4, .int y0), (0, .ref (h 16)), (3, .int x3)]) C.1 C.2.1 qm_Cd_shift_61 hl (by decide) rfl (fun ls hl => ?_)
  exact wCd_shift_63 C S x3 y0 hf _ _ _ G (lv_sub hl [1, 2, 0] rfl)
set_option maxHeartbeats 4000000 in
set_option maxRecDepth 100000 in
theorem wCd_shift_37 {l : Launch} {D : va_G} {h : Nat → Nat} {K : Nat → ClassId} {res : qS} {p : Program} {e : Env} {s : State} {m : MethodId} {args : Array Value} {below : List Frame} {meth : Method} {c : Code} {A : Nat → Prop} {ad : Nat → Nat} (C : qC p s m args meth c qm_Cd_shift_c 5 none qR_Cd ad) (S : qS) (x3 : Int32) (y0 : Int32) (hf : fCd_shift_37 S x3 y0 = some res) : ∀ (H : Heap) (locs : List Loc) (ls : Array Slot), qG D qCl (cT K) A s (cW h K S) H locs → lv_has ls 5 [(0, .ref (h 16)), (3, .int x3)] → W p l e ({ frames := 4, cells := 0, slots := 0, locals := 99 }) s m args below meth c H locs 0 0 (MQ below (qQv D qCl (cT K) (cW h K) A res) args s 0 0 A) (F0 m 37 ls [.int y0]) := by
  intro H locs ls G hl
  unfold fCd_shift_37 at hf
  refine lv_istore (lv' := [(4, .int y0), (0, .ref (h 16)), (3, .int x3)]) C.1 C.2.1 qm_Cd_shift_37 hl (by decide) rfl (fun ls hl => ?_)
  refine lv_goto (tgt := 63) C.1 C.2.1 qm_Cd_shift_39 (by decide) ?_
  exact wCd_shift_63 C S x3 y0 hf _ _ _ G (lv_sub hl [1, 2, 0] rfl)
set_option maxHeartbeats 4000000 in
set_option maxRecDepth 100000 in
theorem wCd_shift {l : Launch} {D : va_G} {h : Nat → Nat} {K : Nat → ClassId} {res : qS} {p : Program} {e : Env} {s : State} {m : MethodId} {args : Array Value} {below : List Frame} {meth : Method} {c : Code} {A : Nat → Prop} {ad : Nat → Nat} (C : qC p s m args meth c qm_Cd_shift_c 5 none qR_Cd ad) (S : qS) (a1 : Int32) (a2 : Int32) (hf : fCd_shift S a1 a2 = some res) : ∀ (H : Heap) (locs : List Loc) (ls : Array Slot), qG D qCl (cT K) A s (cW h K S) H locs → lv_has ls 5 [(0, .ref (h 16)), (1, .int a1), (2, .int a2)] → W p l e ({ frames := 4, cells := 0, slots := 0, locals := 99 }) s m args below meth c H locs 0 0 (MQ below (qQv D qCl (cT K) (cW h K) A res) args s 0 0 A) (F0 m 0 ls []) := by
  intro H locs ls G hl
  unfold fCd_shift at hf
  refine lv_iconst (v := 0) C.1 C.2.1 qm_Cd_shift_0 (by decide) ?_
  refine lv_istore_n (lv' := [(3, .int 0), (0, .ref (h 16)), (1, .int a1), (2, .int a2)]) C.1 C.2.1 qm_Cd_shift_1 rfl hl (by decide) rfl (fun ls hl => ?_)
  refine lv_iconst (v := 0) C.1 C.2.1 qm_Cd_shift_2 (by decide) ?_
  refine lv_istore (lv' := [(4, .int 0), (3, .int 0), (0, .ref (h 16)), (1, .int a1), (2, .int a2)]) C.1 C.2.1 qm_Cd_shift_3 hl (by decide) rfl (fun ls hl => ?_)
  refine lv_iload_n C.1 C.2.1 qm_Cd_shift_5 rfl (lv_at hl 3 rfl) ?_
  refine lv_if_ge (tgt := 22) C.1 C.2.1 qm_Cd_shift_6 (by decide) (fun b1 => ?_) (fun b1 => ?_)
  · have hf := if_t b1 hf
    refine lv_iload_n C.1 C.2.1 qm_Cd_shift_22 rfl (lv_at hl 3 rfl) ?_
    refine lv_bipush (v := 31) C.1 C.2.1 qm_Cd_shift_23 (by decide) ?_
    refine lv_icmp_le (tgt := 42) C.1 C.2.1 qm_Cd_shift_25 (by decide) (fun b2 => ?_) (fun b2 => ?_)
    · have hf := if_t b2 hf
      refine lv_iload_n C.1 C.2.1 qm_Cd_shift_42 rfl (lv_at hl 4 rfl) ?_
      refine lv_iload_n C.1 C.2.1 qm_Cd_shift_43 rfl (lv_at hl 3 rfl) ?_
      refine lv_ishl C.1 C.2.1 qm_Cd_shift_44 ?_
      refine lv_istore_n (lv' := [(3, .int (a2 <<< (a1 &&& 31))), (4, .int 0), (0, .ref (h 16)), (1, .int a1), (2, .int a2)]) C.1 C.2.1 qm_Cd_shift_45 rfl hl (by decide) rfl (fun ls hl => ?_)
      refine lv_iload_n C.1 C.2.1 qm_Cd_shift_46 rfl (lv_at hl 4 rfl) ?_
      refine lv_i2l (v := a2.toInt64) C.1 C.2.1 qm_Cd_shift_47 rfl ?_
      refine lv_iload_n C.1 C.2.1 qm_Cd_shift_48 rfl (lv_at hl 3 rfl) ?_
      refine lv_lshl (v := a2.toInt64 <<< (a1.toInt64 &&& 63)) C.1 C.2.1 qm_Cd_shift_49 rfl ?_
      refine lv_iload_n C.1 C.2.1 qm_Cd_shift_50 rfl (lv_at hl 0 rfl) ?_
      refine lv_i2l (v := (a2 <<< (a1 &&& 31)).toInt64) C.1 C.2.1 qm_Cd_shift_51 rfl ?_
      refine W.lcmp C.1 C.2.1 qm_Cd_shift_52 ?_
      refine lv_if_eq (tgt := 60) C.1 C.2.1 qm_Cd_shift_53 (by decide) (fun b3 => ?_) (fun b3 => ?_)
      · have hf := if_t b3 hf
        refine lv_iconst (v := 0) C.1 C.2.1 qm_Cd_shift_60 (by decide) ?_
        exact wCd_shift_61 C S (a2 <<< (a1 &&& 31)) 0 hf _ _ _ G (lv_sub hl [2, 0] rfl)
      · have hf := if_f b3 hf
        refine lv_iconst (v := 1) C.1 C.2.1 qm_Cd_shift_56 (by decide) ?_
        refine lv_goto (tgt := 61) C.1 C.2.1 qm_Cd_shift_57 (by decide) ?_
        exact wCd_shift_61 C S (a2 <<< (a1 &&& 31)) 1 hf _ _ _ G (lv_sub hl [2, 0] rfl)
    · have hf := if_f b2 hf
      refine lv_iload_n C.1 C.2.1 qm_Cd_shift_28 rfl (lv_at hl 4 rfl) ?_
      refine lv_if_eq (tgt := 36) C.1 C.2.1 qm_Cd_shift_29 (by decide) (fun b4 => ?_) (fun b4 => ?_)
      · have hf := if_t b4 hf
        refine lv_iconst (v := 0) C.1 C.2.1 qm_Cd_shift_36 (by decide) ?_
        exact wCd_shift_37 C S 0 0 hf _ _ _ G (lv_sub hl [2, 1] rfl)
      · have hf := if_f b4 hf
        refine lv_iconst (v := 1) C.1 C.2.1 qm_Cd_shift_32 (by decide) ?_
        refine lv_goto (tgt := 37) C.1 C.2.1 qm_Cd_shift_33 (by decide) ?_
        exact wCd_shift_37 C S 0 1 hf _ _ _ G (lv_sub hl [2, 1] rfl)
  · have hf := if_f b1 hf
    refine lv_iload_n C.1 C.2.1 qm_Cd_shift_9 rfl (lv_at hl 4 rfl) ?_
    refine lv_iload_n C.1 C.2.1 qm_Cd_shift_10 rfl (lv_at hl 3 rfl) ?_
    refine lv_ineg C.1 C.2.1 qm_Cd_shift_11 ?_
    refine lv_bipush (v := 31) C.1 C.2.1 qm_Cd_shift_12 (by decide) ?_
    refine q_min C hl.1 ⟨qz_694, qz_695, qz_82, qz_696⟩ (by decide) (Nat.le_of_ble_eq_true rfl) ⟨Nat.le_refl _, Nat.le_refl _⟩ qm_Cd_shift_14 ?_
    refine lv_ishr C.1 C.2.1 qm_Cd_shift_17 ?_
    refine lv_istore_n (lv' := [(3, .int (a2 >>> ((if 31 < (-a1) then 31 else (-a1)) &&& 31))), (4, .int 0), (0, .ref (h 16)), (1, .int a1), (2, .int a2)]) C.1 C.2.1 qm_Cd_shift_18 rfl hl (by decide) rfl (fun ls hl => ?_)
    refine lv_goto (tgt := 63) C.1 C.2.1 qm_Cd_shift_19 (by decide) ?_
    exact wCd_shift_63 C S (a2 >>> ((if 31 < (-a1) then 31 else (-a1)) &&& 31)) 0 hf _ _ _ G (lv_sub hl [2, 0, 1] rfl)
theorem kCd_shift {l : Launch} {ad : Nat → Nat} {D : va_G} {h : Nat → Nat} {K : Nat → ClassId} {res : qS} {S : qS} {a1 : Int32} {a2 : Int32} (hf : fCd_shift S a1 a2 = some res) : qMv l qm_Cd_shift qm_Cd_shift_c 5 4 99 D qCl (cT K) ad (cW h K) [.ref (h 16), .int a1, .int a2] S res := qMv_of (by decide) (Nat.le_of_ble_eq_true rfl) (fun _ _ _ _ _ _ _ _ _ _ C G hl => wCd_shift C S a1 a2 hf _ _ _ G hl)
