theorem qm_Pg_pageOf_0 : decode qm_Pg_pageOf_c 0 = .ok (.iload_n 0, 1) := by decide +kernel
theorem qm_Pg_pageOf_1 : decode qm_Pg_pageOf_c 1 = .ok (.bipush 6, 2) := by decide +kernel
theorem qm_Pg_pageOf_3 : decode qm_Pg_pageOf_c 3 = .ok (.iushr, 1) := by decide +kernel
theorem qm_Pg_pageOf_4 : decode qm_Pg_pageOf_c 4 = .ok (.ldc 58, 2) := by decide +kernel
theorem qm_Pg_pageOf_6 : decode qm_Pg_pageOf_c 6 = .ok (.iand, 1) := by decide +kernel
theorem qm_Pg_pageOf_7 : decode qm_Pg_pageOf_c 7 = .ok (.ireturn, 1) := by decide +kernel
theorem qm_Pg_isThere_0 : decode qm_Pg_isThere_c 0 = .ok (.iload_n 1, 1) := by decide +kernel
theorem qm_Pg_isThere_1 : decode qm_Pg_isThere_c 1 = .ok (.iconst 2, 1) := by decide +kernel
theorem qm_Pg_isThere_2 : decode qm_Pg_isThere_c 2 = .ok (.if_icmp .le 5, 3) := by decide +kernel
theorem qm_Pg_isThere_5 : decode qm_Pg_isThere_c 5 = .ok (.iconst 0, 1) := by decide +kernel
theorem qm_Pg_isThere_6 : decode qm_Pg_isThere_c 6 = .ok (.ireturn, 1) := by decide +kernel
theorem qm_Pg_isThere_7 : decode qm_Pg_isThere_c 7 = .ok (.aload_n 0, 1) := by decide +kernel
theorem qm_Pg_isThere_8 : decode qm_Pg_isThere_c 8 = .ok (.getfield 15, 3) := by decide +kernel
theorem qm_Pg_isThere_11 : decode qm_Pg_isThere_c 11 = .ok (.iload_n 1, 1) := by decide +kernel
theorem qm_Pg_isThere_12 : decode qm_Pg_isThere_c 12 = .ok (.iconst 2, 1) := by decide +kernel
theorem qm_Pg_isThere_13 : decode qm_Pg_isThere_c 13 = .ok (.if_icmp .ne 8, 3) := by decide +kernel
theorem qm_Pg_isThere_16 : decode qm_Pg_isThere_c 16 = .ok (.bipush 13, 2) := by decide +kernel
theorem qm_Pg_isThere_18 : decode qm_Pg_isThere_c 18 = .ok (.goto 15, 3) := by decide +kernel
theorem qm_Pg_isThere_21 : decode qm_Pg_isThere_c 21 = .ok (.iload_n 1, 1) := by decide +kernel
theorem qm_Pg_isThere_22 : decode qm_Pg_isThere_c 22 = .ok (.iconst 1, 1) := by decide +kernel
theorem qm_Pg_isThere_23 : decode qm_Pg_isThere_c 23 = .ok (.if_icmp .ne 8, 3) := by decide +kernel
theorem qm_Pg_isThere_26 : decode qm_Pg_isThere_c 26 = .ok (.bipush 11, 2) := by decide +kernel
theorem qm_Pg_isThere_28 : decode qm_Pg_isThere_c 28 = .ok (.goto 5, 3) := by decide +kernel
theorem qm_Pg_isThere_31 : decode qm_Pg_isThere_c 31 = .ok (.bipush 9, 2) := by decide +kernel
theorem qm_Pg_isThere_33 : decode qm_Pg_isThere_c 33 = .ok (.iaload, 1) := by decide +kernel
theorem qm_Pg_isThere_34 : decode qm_Pg_isThere_c 34 = .ok (.istore_n 3, 1) := by decide +kernel
theorem qm_Pg_isThere_35 : decode qm_Pg_isThere_c 35 = .ok (.iload_n 3, 1) := by decide +kernel
theorem qm_Pg_isThere_36 : decode qm_Pg_isThere_c 36 = .ok (.ifCond .lt 8, 3) := by decide +kernel
theorem qm_Pg_isThere_39 : decode qm_Pg_isThere_c 39 = .ok (.iload_n 2, 1) := by decide +kernel
theorem qm_Pg_isThere_40 : decode qm_Pg_isThere_c 40 = .ok (.iload_n 3, 1) := by decide +kernel
theorem qm_Pg_isThere_41 : decode qm_Pg_isThere_c 41 = .ok (.if_icmp .ge 7, 3) := by decide +kernel
theorem qm_Pg_isThere_44 : decode qm_Pg_isThere_c 44 = .ok (.iconst 1, 1) := by decide +kernel
theorem qm_Pg_isThere_45 : decode qm_Pg_isThere_c 45 = .ok (.goto 4, 3) := by decide +kernel
theorem qm_Pg_isThere_48 : decode qm_Pg_isThere_c 48 = .ok (.iconst 0, 1) := by decide +kernel
theorem qm_Pg_isThere_49 : decode qm_Pg_isThere_c 49 = .ok (.istore 4, 2) := by decide +kernel
theorem qm_Pg_isThere_51 : decode qm_Pg_isThere_c 51 = .ok (.iload 4, 2) := by decide +kernel
theorem qm_Pg_isThere_53 : decode qm_Pg_isThere_c 53 = .ok (.iload_n 1, 1) := by decide +kernel
theorem qm_Pg_isThere_54 : decode qm_Pg_isThere_c 54 = .ok (.iconst 1, 1) := by decide +kernel
theorem qm_Pg_isThere_55 : decode qm_Pg_isThere_c 55 = .ok (.if_icmp .eq 7, 3) := by decide +kernel
theorem qm_Pg_isThere_58 : decode qm_Pg_isThere_c 58 = .ok (.iconst 1, 1) := by decide +kernel
theorem qm_Pg_isThere_59 : decode qm_Pg_isThere_c 59 = .ok (.goto 4, 3) := by decide +kernel
theorem qm_Pg_isThere_62 : decode qm_Pg_isThere_c 62 = .ok (.iconst 0, 1) := by decide +kernel
theorem qm_Pg_isThere_63 : decode qm_Pg_isThere_c 63 = .ok (.if_icmp .ne 7, 3) := by decide +kernel
theorem qm_Pg_isThere_66 : decode qm_Pg_isThere_c 66 = .ok (.iconst 1, 1) := by decide +kernel
theorem qm_Pg_isThere_67 : decode qm_Pg_isThere_c 67 = .ok (.goto 4, 3) := by decide +kernel
theorem qm_Pg_isThere_70 : decode qm_Pg_isThere_c 70 = .ok (.iconst 0, 1) := by decide +kernel
theorem qm_Pg_isThere_71 : decode qm_Pg_isThere_c 71 = .ok (.ireturn, 1) := by decide +kernel
theorem qm_Pg_refusal_0 : decode qm_Pg_refusal_c 0 = .ok (.bipush (-10), 2) := by decide +kernel
theorem qm_Pg_refusal_2 : decode qm_Pg_refusal_c 2 = .ok (.bipush 10, 2) := by decide +kernel
theorem qm_Pg_refusal_4 : decode qm_Pg_refusal_c 4 = .ok (.iload_n 0, 1) := by decide +kernel
theorem qm_Pg_refusal_5 : decode qm_Pg_refusal_c 5 = .ok (.imul, 1) := by decide +kernel
theorem qm_Pg_refusal_6 : decode qm_Pg_refusal_c 6 = .ok (.isub, 1) := by decide +kernel
theorem qm_Pg_refusal_7 : decode qm_Pg_refusal_c 7 = .ok (.iload_n 1, 1) := by decide +kernel
theorem qm_Pg_refusal_8 : decode qm_Pg_refusal_c 8 = .ok (.isub, 1) := by decide +kernel
theorem qm_Pg_refusal_9 : decode qm_Pg_refusal_c 9 = .ok (.ireturn, 1) := by decide +kernel
theorem qm_Pg_isValid_0 : decode qm_Pg_isValid_c 0 = .ok (.iload_n 0, 1) := by decide +kernel
theorem qm_Pg_isValid_1 : decode qm_Pg_isValid_c 1 = .ok (.ifCond .ge 7, 3) := by decide +kernel
theorem qm_Pg_isValid_4 : decode qm_Pg_isValid_c 4 = .ok (.iconst 1, 1) := by decide +kernel
theorem qm_Pg_isValid_5 : decode qm_Pg_isValid_c 5 = .ok (.goto 4, 3) := by decide +kernel
theorem qm_Pg_isValid_8 : decode qm_Pg_isValid_c 8 = .ok (.iconst 0, 1) := by decide +kernel
theorem qm_Pg_isValid_9 : decode qm_Pg_isValid_c 9 = .ok (.ireturn, 1) := by decide +kernel
theorem qm_Pg_inFrame_0 : decode qm_Pg_inFrame_c 0 = .ok (.bipush 64, 2) := by decide +kernel
theorem qm_Pg_inFrame_2 : decode qm_Pg_inFrame_c 2 = .ok (.iload_n 0, 1) := by decide +kernel
theorem qm_Pg_inFrame_3 : decode qm_Pg_inFrame_c 3 = .ok (.bipush 31, 2) := by decide +kernel
theorem qm_Pg_inFrame_5 : decode qm_Pg_inFrame_c 5 = .ok (.iand, 1) := by decide +kernel
theorem qm_Pg_inFrame_6 : decode qm_Pg_inFrame_c 6 = .ok (.imul, 1) := by decide +kernel
theorem qm_Pg_inFrame_7 : decode qm_Pg_inFrame_c 7 = .ok (.iload_n 1, 1) := by decide +kernel
theorem qm_Pg_inFrame_8 : decode qm_Pg_inFrame_c 8 = .ok (.bipush 63, 2) := by decide +kernel
theorem qm_Pg_inFrame_10 : decode qm_Pg_inFrame_c 10 = .ok (.iand, 1) := by decide +kernel
theorem qm_Pg_inFrame_11 : decode qm_Pg_inFrame_c 11 = .ok (.iadd, 1) := by decide +kernel
theorem qm_Pg_inFrame_12 : decode qm_Pg_inFrame_c 12 = .ok (.ireturn, 1) := by decide +kernel
theorem qm_Pg_grants_0 : decode qm_Pg_grants_c 0 = .ok (.iload_n 0, 1) := by decide +kernel
theorem qm_Pg_grants_1 : decode qm_Pg_grants_c 1 = .ok (.bipush 27, 2) := by decide +kernel
theorem qm_Pg_grants_3 : decode qm_Pg_grants_c 3 = .ok (.iushr, 1) := by decide +kernel
theorem qm_Pg_grants_4 : decode qm_Pg_grants_c 4 = .ok (.iconst 3, 1) := by decide +kernel
theorem qm_Pg_grants_5 : decode qm_Pg_grants_c 5 = .ok (.iand, 1) := by decide +kernel
theorem qm_Pg_grants_6 : decode qm_Pg_grants_c 6 = .ok (.istore_n 3, 1) := by decide +kernel
theorem qm_Pg_grants_7 : decode qm_Pg_grants_c 7 = .ok (.iload_n 0, 1) := by decide +kernel
theorem qm_Pg_grants_8 : decode qm_Pg_grants_c 8 = .ok (.bipush 29, 2) := by decide +kernel
theorem qm_Pg_grants_10 : decode qm_Pg_grants_c 10 = .ok (.iushr, 1) := by decide +kernel
theorem qm_Pg_grants_11 : decode qm_Pg_grants_c 11 = .ok (.iconst 3, 1) := by decide +kernel
theorem qm_Pg_grants_12 : decode qm_Pg_grants_c 12 = .ok (.iand, 1) := by decide +kernel
theorem qm_Pg_grants_13 : decode qm_Pg_grants_c 13 = .ok (.istore 4, 2) := by decide +kernel
theorem qm_Pg_grants_15 : decode qm_Pg_grants_c 15 = .ok (.iload_n 1, 1) := by decide +kernel
theorem qm_Pg_grants_16 : decode qm_Pg_grants_c 16 = .ok (.ifCond .eq 23, 3) := by decide +kernel
theorem qm_Pg_grants_19 : decode qm_Pg_grants_c 19 = .ok (.iload_n 2, 1) := by decide +kernel
theorem qm_Pg_grants_20 : decode qm_Pg_grants_c 20 = .ok (.iload 4, 2) := by decide +kernel
theorem qm_Pg_grants_22 : decode qm_Pg_grants_c 22 = .ok (.if_icmp .gt 13, 3) := by decide +kernel
theorem qm_Pg_grants_25 : decode qm_Pg_grants_c 25 = .ok (.iload 4, 2) := by decide +kernel
theorem qm_Pg_grants_27 : decode qm_Pg_grants_c 27 = .ok (.iload_n 3, 1) := by decide +kernel
theorem qm_Pg_grants_28 : decode qm_Pg_grants_c 28 = .ok (.if_icmp .gt 7, 3) := by decide +kernel
theorem qm_Pg_grants_31 : decode qm_Pg_grants_c 31 = .ok (.iconst 1, 1) := by decide +kernel
theorem qm_Pg_grants_32 : decode qm_Pg_grants_c 32 = .ok (.goto 17, 3) := by decide +kernel
theorem qm_Pg_grants_35 : decode qm_Pg_grants_c 35 = .ok (.iconst 0, 1) := by decide +kernel
theorem qm_Pg_grants_36 : decode qm_Pg_grants_c 36 = .ok (.goto 13, 3) := by decide +kernel
theorem qm_Pg_grants_39 : decode qm_Pg_grants_c 39 = .ok (.iload_n 2, 1) := by decide +kernel
theorem qm_Pg_grants_40 : decode qm_Pg_grants_c 40 = .ok (.iload_n 3, 1) := by decide +kernel
theorem qm_Pg_grants_41 : decode qm_Pg_grants_c 41 = .ok (.if_icmp .gt 7, 3) := by decide +kernel
theorem qm_Pg_grants_44 : decode qm_Pg_grants_c 44 = .ok (.iconst 1, 1) := by decide +kernel
theorem qm_Pg_grants_45 : decode qm_Pg_grants_c 45 = .ok (.goto 4, 3) := by decide +kernel
theorem qm_Pg_grants_48 : decode qm_Pg_grants_c 48 = .ok (.iconst 0, 1) := by decide +kernel
theorem qm_Pg_grants_49 : decode qm_Pg_grants_c 49 = .ok (.ireturn, 1) := by decide +kernel
theorem qm_Pg_locate_0 : decode qm_Pg_locate_c 0 = .ok (.aload_n 0, 1) := by decide +kernel
theorem qm_Pg_locate_1 : decode qm_Pg_locate_c 1 = .ok (.iconst (-1), 1) := by decide +kernel
theorem qm_Pg_locate_2 : decode qm_Pg_locate_c 2 = .ok (.putfield 19, 3) := by decide +kernel
theorem qm_Pg_locate_5 : decode qm_Pg_locate_c 5 = .ok (.aload_n 0, 1) := by decide +kernel
theorem qm_Pg_locate_6 : decode qm_Pg_locate_c 6 = .ok (.getfield 15, 3) := by decide +kernel
theorem qm_Pg_locate_9 : decode qm_Pg_locate_c 9 = .ok (.bipush 56, 2) := by decide +kernel
theorem qm_Pg_locate_11 : decode qm_Pg_locate_c 11 = .ok (.iaload, 1) := by decide +kernel
theorem qm_Pg_locate_12 : decode qm_Pg_locate_c 12 = .ok (.ifCond .ne 9, 3) := by decide +kernel
theorem qm_Pg_locate_15 : decode qm_Pg_locate_c 15 = .ok (.iload_n 1, 1) := by decide +kernel
theorem qm_Pg_locate_16 : decode qm_Pg_locate_c 16 = .ok (.sipush 2047, 3) := by decide +kernel
theorem qm_Pg_locate_19 : decode qm_Pg_locate_c 19 = .ok (.iand, 1) := by decide +kernel
theorem qm_Pg_locate_20 : decode qm_Pg_locate_c 20 = .ok (.ireturn, 1) := by decide +kernel
theorem qm_Pg_locate_21 : decode qm_Pg_locate_c 21 = .ok (.iload_n 2, 1) := by decide +kernel
theorem qm_Pg_locate_22 : decode qm_Pg_locate_c 22 = .ok (.ifCond .eq 7, 3) := by decide +kernel
theorem qm_Pg_locate_25 : decode qm_Pg_locate_c 25 = .ok (.iconst 4, 1) := by decide +kernel
theorem qm_Pg_locate_26 : decode qm_Pg_locate_c 26 = .ok (.goto 4, 3) := by decide +kernel
theorem qm_Pg_locate_29 : decode qm_Pg_locate_c 29 = .ok (.iconst 0, 1) := by decide +kernel
theorem qm_Pg_locate_30 : decode qm_Pg_locate_c 30 = .ok (.istore 4, 2) := by decide +kernel
theorem qm_Pg_locate_32 : decode qm_Pg_locate_c 32 = .ok (.iload_n 1, 1) := by decide +kernel
theorem qm_Pg_locate_33 : decode qm_Pg_locate_c 33 = .ok (.bipush 30, 2) := by decide +kernel
theorem qm_Pg_locate_35 : decode qm_Pg_locate_c 35 = .ok (.iushr, 1) := by decide +kernel
theorem qm_Pg_locate_36 : decode qm_Pg_locate_c 36 = .ok (.istore 5, 2) := by decide +kernel
theorem qm_Pg_locate_38 : decode qm_Pg_locate_c 38 = .ok (.iload_n 1, 1) := by decide +kernel
theorem qm_Pg_locate_39 : decode qm_Pg_locate_c 39 = .ok (.invokestatic 25, 3) := by decide +kernel
theorem qm_Pg_locate_42 : decode qm_Pg_locate_c 42 = .ok (.istore 6, 2) := by decide +kernel
theorem qm_Pg_locate_44 : decode qm_Pg_locate_c 44 = .ok (.aload_n 0, 1) := by decide +kernel
theorem qm_Pg_locate_45 : decode qm_Pg_locate_c 45 = .ok (.iload 5, 2) := by decide +kernel
theorem qm_Pg_locate_47 : decode qm_Pg_locate_c 47 = .ok (.iload 6, 2) := by decide +kernel
theorem qm_Pg_locate_49 : decode qm_Pg_locate_c 49 = .ok (.invokevirtual 29, 3) := by decide +kernel
theorem qm_Pg_locate_52 : decode qm_Pg_locate_c 52 = .ok (.ifCond .ne 12, 3) := by decide +kernel
theorem qm_Pg_locate_55 : decode qm_Pg_locate_c 55 = .ok (.iconst 4, 1) := by decide +kernel
theorem qm_Pg_locate_56 : decode qm_Pg_locate_c 56 = .ok (.iconst 1, 1) := by decide +kernel
theorem qm_Pg_locate_57 : decode qm_Pg_locate_c 57 = .ok (.iload 4, 2) := by decide +kernel
theorem qm_Pg_locate_59 : decode qm_Pg_locate_c 59 = .ok (.iadd, 1) := by decide +kernel
theorem qm_Pg_locate_60 : decode qm_Pg_locate_c 60 = .ok (.invokestatic 33, 3) := by decide +kernel
theorem qm_Pg_locate_63 : decode qm_Pg_locate_c 63 = .ok (.ireturn, 1) := by decide +kernel
theorem qm_Pg_locate_64 : decode qm_Pg_locate_c 64 = .ok (.aload_n 0, 1) := by decide +kernel
theorem qm_Pg_locate_65 : decode qm_Pg_locate_c 65 = .ok (.getfield 15, 3) := by decide +kernel
theorem qm_Pg_locate_68 : decode qm_Pg_locate_c 68 = .ok (.bipush 12, 2) := by decide +kernel
theorem qm_Pg_locate_70 : decode qm_Pg_locate_c 70 = .ok (.iaload, 1) := by decide +kernel
theorem qm_Pg_locate_71 : decode qm_Pg_locate_c 71 = .ok (.iconst 4, 1) := by decide +kernel
theorem qm_Pg_locate_72 : decode qm_Pg_locate_c 72 = .ok (.iload 6, 2) := by decide +kernel
theorem qm_Pg_locate_74 : decode qm_Pg_locate_c 74 = .ok (.imul, 1) := by decide +kernel
theorem qm_Pg_locate_75 : decode qm_Pg_locate_c 75 = .ok (.iadd, 1) := by decide +kernel
theorem qm_Pg_locate_76 : decode qm_Pg_locate_c 76 = .ok (.istore 7, 2) := by decide +kernel
theorem qm_Pg_locate_78 : decode qm_Pg_locate_c 78 = .ok (.iload 5, 2) := by decide +kernel
theorem qm_Pg_locate_80 : decode qm_Pg_locate_c 80 = .ok (.iconst 2, 1) := by decide +kernel
theorem qm_Pg_locate_81 : decode qm_Pg_locate_c 81 = .ok (.if_icmp .eq 108, 3) := by decide +kernel
theorem qm_Pg_locate_84 : decode qm_Pg_locate_c 84 = .ok (.aload_n 0, 1) := by decide +kernel
theorem qm_Pg_locate_85 : decode qm_Pg_locate_c 85 = .ok (.getfield 15, 3) := by decide +kernel
theorem qm_Pg_locate_88 : decode qm_Pg_locate_c 88 = .ok (.iload 5, 2) := by decide +kernel
theorem qm_Pg_locate_90 : decode qm_Pg_locate_c 90 = .ok (.ifCond .ne 8, 3) := by decide +kernel
theorem qm_Pg_locate_93 : decode qm_Pg_locate_c 93 = .ok (.bipush 8, 2) := by decide +kernel
theorem qm_Pg_locate_95 : decode qm_Pg_locate_c 95 = .ok (.goto 5, 3) := by decide +kernel
theorem qm_Pg_locate_98 : decode qm_Pg_locate_c 98 = .ok (.bipush 10, 2) := by decide +kernel
theorem qm_Pg_locate_100 : decode qm_Pg_locate_c 100 = .ok (.iaload, 1) := by decide +kernel
theorem qm_Pg_locate_101 : decode qm_Pg_locate_c 101 = .ok (.iconst 4, 1) := by decide +kernel
theorem qm_Pg_locate_102 : decode qm_Pg_locate_c 102 = .ok (.iload 6, 2) := by decide +kernel
theorem qm_Pg_locate_104 : decode qm_Pg_locate_c 104 = .ok (.imul, 1) := by decide +kernel
theorem qm_Pg_locate_105 : decode qm_Pg_locate_c 105 = .ok (.iadd, 1) := by decide +kernel
theorem qm_Pg_locate_106 : decode qm_Pg_locate_c 106 = .ok (.istore 8, 2) := by decide +kernel
theorem qm_Pg_locate_108 : decode qm_Pg_locate_c 108 = .ok (.iload 8, 2) := by decide +kernel
theorem qm_Pg_locate_110 : decode qm_Pg_locate_c 110 = .ok (.bipush 30, 2) := by decide +kernel
theorem qm_Pg_locate_112 : decode qm_Pg_locate_c 112 = .ok (.iushr, 1) := by decide +kernel
theorem qm_Pg_locate_113 : decode qm_Pg_locate_c 113 = .ok (.iconst 2, 1) := by decide +kernel
theorem qm_Pg_locate_114 : decode qm_Pg_locate_c 114 = .ok (.if_icmp .ne 16, 3) := by decide +kernel
theorem qm_Pg_locate_117 : decode qm_Pg_locate_c 117 = .ok (.aload_n 0, 1) := by decide +kernel
theorem qm_Pg_locate_118 : decode qm_Pg_locate_c 118 = .ok (.iconst 2, 1) := by decide +kernel
theorem qm_Pg_locate_119 : decode qm_Pg_locate_c 119 = .ok (.iload 8, 2) := by decide +kernel
theorem qm_Pg_locate_121 : decode qm_Pg_locate_c 121 = .ok (.invokestatic 25, 3) := by decide +kernel
theorem qm_Pg_locate_124 : decode qm_Pg_locate_c 124 = .ok (.invokevirtual 29, 3) := by decide +kernel
theorem qm_Pg_locate_127 : decode qm_Pg_locate_c 127 = .ok (.ifCond .ne 12, 3) := by decide +kernel
theorem qm_Pg_locate_130 : decode qm_Pg_locate_c 130 = .ok (.iconst 4, 1) := by decide +kernel
theorem qm_Pg_locate_131 : decode qm_Pg_locate_c 131 = .ok (.iconst 3, 1) := by decide +kernel
theorem qm_Pg_locate_132 : decode qm_Pg_locate_c 132 = .ok (.iload 4, 2) := by decide +kernel
theorem qm_Pg_locate_134 : decode qm_Pg_locate_c 134 = .ok (.iadd, 1) := by decide +kernel
theorem qm_Pg_locate_135 : decode qm_Pg_locate_c 135 = .ok (.invokestatic 33, 3) := by decide +kernel
theorem qm_Pg_locate_138 : decode qm_Pg_locate_c 138 = .ok (.ireturn, 1) := by decide +kernel
theorem qm_Pg_locate_139 : decode qm_Pg_locate_c 139 = .ok (.aload_n 0, 1) := by decide +kernel
theorem qm_Pg_locate_140 : decode qm_Pg_locate_c 140 = .ok (.getfield 9, 3) := by decide +kernel
theorem qm_Pg_locate_143 : decode qm_Pg_locate_c 143 = .ok (.aload_n 0, 1) := by decide +kernel
theorem qm_Pg_locate_144 : decode qm_Pg_locate_c 144 = .ok (.getfield 15, 3) := by decide +kernel
theorem qm_Pg_locate_147 : decode qm_Pg_locate_c 147 = .ok (.bipush 12, 2) := by decide +kernel
theorem qm_Pg_locate_149 : decode qm_Pg_locate_c 149 = .ok (.iaload, 1) := by decide +kernel
theorem qm_Pg_locate_150 : decode qm_Pg_locate_c 150 = .ok (.iconst 4, 1) := by decide +kernel
theorem qm_Pg_locate_151 : decode qm_Pg_locate_c 151 = .ok (.iload 8, 2) := by decide +kernel
theorem qm_Pg_locate_153 : decode qm_Pg_locate_c 153 = .ok (.invokestatic 25, 3) := by decide +kernel
theorem qm_Pg_locate_156 : decode qm_Pg_locate_c 156 = .ok (.imul, 1) := by decide +kernel
theorem qm_Pg_locate_157 : decode qm_Pg_locate_c 157 = .ok (.iadd, 1) := by decide +kernel
theorem qm_Pg_locate_158 : decode qm_Pg_locate_c 158 = .ok (.invokevirtual 37, 3) := by decide +kernel
theorem qm_Pg_locate_161 : decode qm_Pg_locate_c 161 = .ok (.istore 9, 2) := by decide +kernel
theorem qm_Pg_locate_163 : decode qm_Pg_locate_c 163 = .ok (.iload 9, 2) := by decide +kernel
theorem qm_Pg_locate_165 : decode qm_Pg_locate_c 165 = .ok (.invokestatic 40, 3) := by decide +kernel
theorem qm_Pg_locate_168 : decode qm_Pg_locate_c 168 = .ok (.ifCond .ne 12, 3) := by decide +kernel
theorem qm_Pg_locate_171 : decode qm_Pg_locate_c 171 = .ok (.iconst 5, 1) := by decide +kernel
theorem qm_Pg_locate_172 : decode qm_Pg_locate_c 172 = .ok (.iconst 2, 1) := by decide +kernel
theorem qm_Pg_locate_173 : decode qm_Pg_locate_c 173 = .ok (.iload 4, 2) := by decide +kernel
theorem qm_Pg_locate_175 : decode qm_Pg_locate_c 175 = .ok (.iadd, 1) := by decide +kernel
theorem qm_Pg_locate_176 : decode qm_Pg_locate_c 176 = .ok (.invokestatic 33, 3) := by decide +kernel
theorem qm_Pg_locate_179 : decode qm_Pg_locate_c 179 = .ok (.ireturn, 1) := by decide +kernel
theorem qm_Pg_locate_180 : decode qm_Pg_locate_c 180 = .ok (.iload 9, 2) := by decide +kernel
theorem qm_Pg_locate_182 : decode qm_Pg_locate_c 182 = .ok (.iload 8, 2) := by decide +kernel
theorem qm_Pg_locate_184 : decode qm_Pg_locate_c 184 = .ok (.invokestatic 44, 3) := by decide +kernel
theorem qm_Pg_locate_187 : decode qm_Pg_locate_c 187 = .ok (.istore 7, 2) := by decide +kernel
theorem qm_Pg_locate_189 : decode qm_Pg_locate_c 189 = .ok (.aload_n 0, 1) := by decide +kernel
theorem qm_Pg_locate_190 : decode qm_Pg_locate_c 190 = .ok (.getfield 9, 3) := by decide +kernel
theorem qm_Pg_locate_193 : decode qm_Pg_locate_c 193 = .ok (.iload 7, 2) := by decide +kernel
theorem qm_Pg_locate_195 : decode qm_Pg_locate_c 195 = .ok (.invokevirtual 37, 3) := by decide +kernel
theorem qm_Pg_locate_198 : decode qm_Pg_locate_c 198 = .ok (.istore 8, 2) := by decide +kernel
theorem qm_Pg_locate_200 : decode qm_Pg_locate_c 200 = .ok (.iload 8, 2) := by decide +kernel
theorem qm_Pg_locate_202 : decode qm_Pg_locate_c 202 = .ok (.iload_n 2, 1) := by decide +kernel
theorem qm_Pg_locate_203 : decode qm_Pg_locate_c 203 = .ok (.iload_n 3, 1) := by decide +kernel
theorem qm_Pg_locate_204 : decode qm_Pg_locate_c 204 = .ok (.invokestatic 47, 3) := by decide +kernel
theorem qm_Pg_locate_207 : decode qm_Pg_locate_c 207 = .ok (.ifCond .ne 10, 3) := by decide +kernel
theorem qm_Pg_locate_210 : decode qm_Pg_locate_c 210 = .ok (.iconst 4, 1) := by decide +kernel
theorem qm_Pg_locate_211 : decode qm_Pg_locate_c 211 = .ok (.iload 4, 2) := by decide +kernel
theorem qm_Pg_locate_213 : decode qm_Pg_locate_c 213 = .ok (.invokestatic 33, 3) := by decide +kernel
theorem qm_Pg_locate_216 : decode qm_Pg_locate_c 216 = .ok (.ireturn, 1) := by decide +kernel
theorem qm_Pg_locate_217 : decode qm_Pg_locate_c 217 = .ok (.iload 8, 2) := by decide +kernel
theorem qm_Pg_locate_219 : decode qm_Pg_locate_c 219 = .ok (.invokestatic 40, 3) := by decide +kernel
theorem qm_Pg_locate_222 : decode qm_Pg_locate_c 222 = .ok (.ifCond .ne 10, 3) := by decide +kernel
theorem qm_Pg_locate_225 : decode qm_Pg_locate_c 225 = .ok (.iconst 5, 1) := by decide +kernel
theorem qm_Pg_locate_226 : decode qm_Pg_locate_c 226 = .ok (.iload 4, 2) := by decide +kernel
theorem qm_Pg_locate_228 : decode qm_Pg_locate_c 228 = .ok (.invokestatic 33, 3) := by decide +kernel
theorem qm_Pg_locate_231 : decode qm_Pg_locate_c 231 = .ok (.ireturn, 1) := by decide +kernel
theorem qm_Pg_locate_232 : decode qm_Pg_locate_c 232 = .ok (.aload_n 0, 1) := by decide +kernel
theorem qm_Pg_locate_233 : decode qm_Pg_locate_c 233 = .ok (.iload 7, 2) := by decide +kernel
theorem qm_Pg_locate_235 : decode qm_Pg_locate_c 235 = .ok (.sipush 2047, 3) := by decide +kernel
theorem qm_Pg_locate_238 : decode qm_Pg_locate_c 238 = .ok (.iand, 1) := by decide +kernel
theorem qm_Pg_locate_239 : decode qm_Pg_locate_c 239 = .ok (.putfield 19, 3) := by decide +kernel
theorem qm_Pg_locate_242 : decode qm_Pg_locate_c 242 = .ok (.iload 8, 2) := by decide +kernel
theorem qm_Pg_locate_244 : decode qm_Pg_locate_c 244 = .ok (.iload_n 1, 1) := by decide +kernel
theorem qm_Pg_locate_245 : decode qm_Pg_locate_c 245 = .ok (.invokestatic 44, 3) := by decide +kernel
theorem qm_Pg_locate_248 : decode qm_Pg_locate_c 248 = .ok (.ireturn, 1) := by decide +kernel
theorem qm_Pg_faultOf_0 : decode qm_Pg_faultOf_c 0 = .ok (.bipush (-10), 2) := by decide +kernel
theorem qm_Pg_faultOf_2 : decode qm_Pg_faultOf_c 2 = .ok (.iload_n 0, 1) := by decide +kernel
theorem qm_Pg_faultOf_3 : decode qm_Pg_faultOf_c 3 = .ok (.isub, 1) := by decide +kernel
theorem qm_Pg_faultOf_4 : decode qm_Pg_faultOf_c 4 = .ok (.bipush 10, 2) := by decide +kernel
theorem qm_Pg_faultOf_6 : decode qm_Pg_faultOf_c 6 = .ok (.idiv, 1) := by decide +kernel
theorem qm_Pg_faultOf_7 : decode qm_Pg_faultOf_c 7 = .ok (.ireturn, 1) := by decide +kernel
theorem qm_Pg_flagOf_0 : decode qm_Pg_flagOf_c 0 = .ok (.bipush (-10), 2) := by decide +kernel
theorem qm_Pg_flagOf_2 : decode qm_Pg_flagOf_c 2 = .ok (.iload_n 0, 1) := by decide +kernel
theorem qm_Pg_flagOf_3 : decode qm_Pg_flagOf_c 3 = .ok (.isub, 1) := by decide +kernel
theorem qm_Pg_flagOf_4 : decode qm_Pg_flagOf_c 4 = .ok (.bipush 10, 2) := by decide +kernel
theorem qm_Pg_flagOf_6 : decode qm_Pg_flagOf_c 6 = .ok (.irem, 1) := by decide +kernel
theorem qm_Pg_flagOf_7 : decode qm_Pg_flagOf_c 7 = .ok (.ireturn, 1) := by decide +kernel
theorem qm_Pg_markModified_0 : decode qm_Pg_markModified_c 0 = .ok (.aload_n 0, 1) := by decide +kernel
theorem qm_Pg_markModified_1 : decode qm_Pg_markModified_c 1 = .ok (.getfield 9, 3) := by decide +kernel
theorem qm_Pg_markModified_4 : decode qm_Pg_markModified_c 4 = .ok (.iload_n 1, 1) := by decide +kernel
theorem qm_Pg_markModified_5 : decode qm_Pg_markModified_c 5 = .ok (.iconst 3, 1) := by decide +kernel
theorem qm_Pg_markModified_6 : decode qm_Pg_markModified_c 6 = .ok (.iadd, 1) := by decide +kernel
theorem qm_Pg_markModified_7 : decode qm_Pg_markModified_c 7 = .ok (.aload_n 0, 1) := by decide +kernel
theorem qm_Pg_markModified_8 : decode qm_Pg_markModified_c 8 = .ok (.getfield 9, 3) := by decide +kernel
theorem qm_Pg_markModified_11 : decode qm_Pg_markModified_c 11 = .ok (.iload_n 1, 1) := by decide +kernel
theorem qm_Pg_markModified_12 : decode qm_Pg_markModified_c 12 = .ok (.iconst 3, 1) := by decide +kernel
theorem qm_Pg_markModified_13 : decode qm_Pg_markModified_c 13 = .ok (.iadd, 1) := by decide +kernel
theorem qm_Pg_markModified_14 : decode qm_Pg_markModified_c 14 = .ok (.invokevirtual 51, 3) := by decide +kernel
theorem qm_Pg_markModified_17 : decode qm_Pg_markModified_c 17 = .ok (.iconst 4, 1) := by decide +kernel
theorem qm_Pg_markModified_18 : decode qm_Pg_markModified_c 18 = .ok (.ior, 1) := by decide +kernel
theorem qm_Pg_markModified_19 : decode qm_Pg_markModified_c 19 = .ok (.invokevirtual 54, 3) := by decide +kernel
theorem qm_Pg_markModified_22 : decode qm_Pg_markModified_c 22 = .ok (.return_, 1) := by decide +kernel
set_option maxHeartbeats 4000000 in
set_option maxRecDepth 100000 in
theorem wPg_pageOf {l : Launch} {D : va_G} {h : Nat → Nat} {K : Nat → ClassId} {res : Int32 × qS} {p : Program} {e : Env} {s : State} {m : MethodId} {args : Array Value} {below : List Frame} {meth : Method} {c : Code} {A : Nat → Prop} {ad : Nat → Nat} (C : qC p s m args meth c qm_Pg_pageOf_c 1 (some .int) qR_Pg ad) (S : qS) (a0 : Int32) (hf : fPg_pageOf S a0 = some res) : ∀ (H : Heap) (locs : List Loc) (ls : Array Slot), qG D qCl (cT K) A s (cW h K S) H locs → lv_has ls 1 [(0, .int a0)] → W p l e ({ frames := 0, cells := 0, slots := 0, locals := 0 }) s m args below meth c H locs 0 0 (MQ below (qQi D qCl (cT K) (cW h K) A res) args s 0 0 A) (F0 m 0 ls []) := by
  intro H locs ls G hl
  unfold fPg_pageOf at hf
  refine lv_iload_n C.1 C.2.1 qm_Pg_pageOf_0 rfl (lv_at hl 0 rfl) ?_
  refine lv_bipush (v := 6) C.1 C.2.1 qm_Pg_pageOf_1 (by decide) ?_
  refine lv_iushr (v := ushr a0 6) C.1 C.2.1 qm_Pg_pageOf_3 rfl ?_
  refine lv_ldc (own := "QuadMode$Pages") (v := 16777215) C.1 C.2.1 C.2.2.2.1 (C.2.2.2.2.1 _ qz_488) qm_Pg_pageOf_4 ?_
  refine lv_iand C.1 C.2.1 qm_Pg_pageOf_6 ?_
  exact q_iret (wf := (cW h K)) C G hf qm_Pg_pageOf_7
theorem kPg_pageOf {l : Launch} {ad : Nat → Nat} {D : va_G} {h : Nat → Nat} {K : Nat → ClassId} {res : Int32 × qS} {S : qS} {a0 : Int32} (hf : fPg_pageOf S a0 = some res) : qMi l qm_Pg_pageOf qm_Pg_pageOf_c 1 .int 0 0 D qCl (cT K) ad (cW h K) [.int a0] S res := qMi_of (by decide) (Nat.le_of_ble_eq_true rfl) (fun _ _ _ _ _ _ _ _ _ _ C G hl => wPg_pageOf C S a0 hf _ _ _ G hl)
set_option maxHeartbeats 4000000 in
set_option maxRecDepth 100000 in
theorem wPg_isThere_71 {l : Launch} {D : va_G} {h : Nat → Nat} {K : Nat → ClassId} {res : Int32 × qS} {p : Program} {e : Env} {s : State} {m : MethodId} {args : Array Value} {below : List Frame} {meth : Method} {c : Code} {A : Nat → Prop} {ad : Nat → Nat} (C : qC p s m args meth c qm_Pg_isThere_c 5 (some .boolean) qR_Pg ad) (S : qS) (y0 : Int32) (hf : fPg_isThere_71 S y0 = some res) : ∀ (H : Heap) (locs : List Loc) (ls : Array Slot), qG D qCl (cT K) A s (cW h K S) H locs → lv_has ls 5 [] → W p l e ({ frames := 0, cells := 0, slots := 0, locals := 0 }) s m args below meth c H locs 0 0 (MQ below (qQi D qCl (cT K) (cW h K) A res) args s 0 0 A) (F0 m 71 ls [.int y0]) := by
  intro H locs ls G hl
  unfold fPg_isThere_71 at hf
  exact q_zret (wf := (cW h K)) C G hf qm_Pg_isThere_71
set_option maxHeartbeats 4000000 in
set_option maxRecDepth 100000 in
theorem wPg_isThere_63 {l : Launch} {D : va_G} {h : Nat → Nat} {K : Nat → ClassId} {res : Int32 × qS} {p : Program} {e : Env} {s : State} {m : MethodId} {args : Array Value} {below : List Frame} {meth : Method} {c : Code} {A : Nat → Prop} {ad : Nat → Nat} (C : qC p s m args meth c qm_Pg_isThere_c 5 (some .boolean) qR_Pg ad) (S : qS) (y0 : Int32) (y1 : Int32) (hf : fPg_isThere_63 S y0 y1 = some res) : ∀ (H : Heap) (locs : List Loc) (ls : Array Slot), qG D qCl (cT K) A s (cW h K S) H locs → lv_has ls 5 [] → W p l e ({ frames := 0, cells := 0, slots := 0, locals := 0 }) s m args below meth c H locs 0 0 (MQ below (qQi D qCl (cT K) (cW h K) A res) args s 0 0 A) (F0 m 63 ls [.int y1, .int y0]) := by
  intro H locs ls G hl
  unfold fPg_isThere_63 at hf
  refine lv_icmp_ne (tgt := 70) C.1 C.2.1 qm_Pg_isThere_63 (by decide) (fun b1 => ?_) (fun b1 => ?_)
  · have hf := if_t b1 hf
    refine lv_iconst (v := 0) C.1 C.2.1 qm_Pg_isThere_70 (by decide) ?_
    exact wPg_isThere_71 C S 0 hf _ _ _ G (lv_sub hl [] rfl)
  · have hf := if_f (not_not_intro b1) hf
    refine lv_iconst (v := 1) C.1 C.2.1 qm_Pg_isThere_66 (by decide) ?_
    refine lv_goto (tgt := 71) C.1 C.2.1 qm_Pg_isThere_67 (by decide) ?_
    exact wPg_isThere_71 C S 1 hf _ _ _ G (lv_sub hl [] rfl)
set_option maxHeartbeats 4000000 in
set_option maxRecDepth 100000 in
theorem wPg_isThere_49 {l : Launch} {D : va_G} {h : Nat → Nat} {K : Nat → ClassId} {res : Int32 × qS} {p : Program} {e : Env} {s : State} {m : MethodId} {args : Array Value} {below : List Frame} {meth : Method} {c : Code} {A : Nat → Prop} {ad : Nat → Nat} (C : qC p s m args meth c qm_Pg_isThere_c 5 (some .boolean) qR_Pg ad) (S : qS) (x1 : Int32) (y0 : Int32) (hf : fPg_isThere_49 S x1 y0 = some res) : ∀ (H : Heap) (locs : List Loc) (ls : Array Slot), qG D qCl (cT K) A s (cW h K S) H locs → lv_has ls 5 [(1, .int x1)] → W p l e ({ frames := 0, cells := 0, slots := 0, locals := 0 }) s m args below meth c H locs 0 0 (MQ below (qQi D qCl (cT K) (cW h K) A res) args s 0 0 A) (F0 m 49 ls [.int y0]) := by
  intro H locs ls G hl
  unfold fPg_isThere_49 at hf
  refine lv_istore (lv' := [(4, .int y0), (1, .int x1)]) C.1 C.2.1 qm_Pg_isThere_49 hl (by decide) rfl (fun ls hl => ?_)
  refine lv_iload C.1 C.2.1 qm_Pg_isThere_51 (lv_at hl 0 rfl) ?_
  refine lv_iload_n C.1 C.2.1 qm_Pg_isThere_53 rfl (lv_at hl 1 rfl) ?_
  refine lv_iconst (v := 1) C.1 C.2.1 qm_Pg_isThere_54 (by decide) ?_
  refine lv_icmp_eq (tgt := 62) C.1 C.2.1 qm_Pg_isThere_55 (by decide) (fun b1 => ?_) (fun b1 => ?_)
  · have hf := if_t b1 hf
    refine lv_iconst (v := 0) C.1 C.2.1 qm_Pg_isThere_62 (by decide) ?_
    exact wPg_isThere_63 C S y0 0 hf _ _ _ G (lv_sub hl [] rfl)
  · have hf := if_f b1 hf
    refine lv_iconst (v := 1) C.1 C.2.1 qm_Pg_isThere_58 (by decide) ?_
    refine lv_goto (tgt := 63) C.1 C.2.1 qm_Pg_isThere_59 (by decide) ?_
    exact wPg_isThere_63 C S y0 1 hf _ _ _ G (lv_sub hl [] rfl)
set_option maxHeartbeats 4000000 in
set_option maxRecDepth 100000 in
theorem wPg_isThere_44 {l : Launch} {D : va_G} {h : Nat → Nat} {K : Nat → ClassId} {res : Int32 × qS} {p : Program} {e : Env} {s : State} {m : MethodId} {args : Array Value} {below : List Frame} {meth : Method} {c : Code} {A : Nat → Prop} {ad : Nat → Nat} (C : qC p s m args meth c qm_Pg_isThere_c 5 (some .boolean) qR_Pg ad) (S : qS) (x1 : Int32) (hf : fPg_isThere_44 S x1 = some res) : ∀ (H : Heap) (locs : List Loc) (ls : Array Slot), qG D qCl (cT K) A s (cW h K S) H locs → lv_has ls 5 [(1, .int x1)] → W p l e ({ frames := 0, cells := 0, slots := 0, locals := 0 }) s m args below meth c H locs 0 0 (MQ below (qQi D qCl (cT K) (cW h K) A res) args s 0 0 A) (F0 m 44 ls []) := by
  intro H locs ls G hl
  unfold fPg_isThere_44 at hf
  refine lv_iconst (v := 1) C.1 C.2.1 qm_Pg_isThere_44 (by decide) ?_
  refine lv_goto (tgt := 49) C.1 C.2.1 qm_Pg_isThere_45 (by decide) ?_
  exact wPg_isThere_49 C S x1 1 hf _ _ _ G (lv_sub hl [0] rfl)
set_option maxHeartbeats 4000000 in
set_option maxRecDepth 100000 in
theorem wPg_isThere_33 {l : Launch} {D : va_G} {h : Nat → Nat} {K : Nat → ClassId} {res : Int32 × qS} {p : Program} {e : Env} {s : State} {m : MethodId} {args : Array Value} {below : List Frame} {meth : Method} {c : Code} {A : Nat → Prop} {ad : Nat → Nat} (C : qC p s m args meth c qm_Pg_isThere_c 5 (some .boolean) qR_Pg ad) (S : qS) (x1 : Int32) (x2 : Int32) (y1 : Int32) (hf : fPg_isThere_33 S x1 x2 y1 = some res) : ∀ (H : Heap) (locs : List Loc) (ls : Array Slot), qG D qCl (cT K) A s (cW h K S) H locs → lv_has ls 5 [(1, .int x1), (2, .int x2)] → W p l e ({ frames := 0, cells := 0, slots := 0, locals := 0 }) s m args below meth c H locs 0 0 (MQ below (qQi D qCl (cT K) (cW h K) A res) args s 0 0 A) (F0 m 33 ls [.int y1, .ref (h 3)]) := by
  intro H locs ls G hl
  unfold fPg_isThere_33 at hf
  obtain ⟨b1, hf⟩ := chk_s hf
  refine q_iald (wf := (cW h K)) C G 3 1 rfl rfl b1 qm_Pg_isThere_33 ?_
  refine lv_istore_n (lv' := [(3, .int (gA S 1 y1)), (1, .int x1), (2, .int x2)]) C.1 C.2.1 qm_Pg_isThere_34 rfl hl (by decide) rfl (fun ls hl => ?_)
  refine lv_iload_n C.1 C.2.1 qm_Pg_isThere_35 rfl (lv_at hl 0 rfl) ?_
  refine lv_if_lt (tgt := 44) C.1 C.2.1 qm_Pg_isThere_36 (by decide) (fun b2 => ?_) (fun b2 => ?_)
  · have hf := if_t b2 hf
    exact wPg_isThere_44 C S x1 hf _ _ _ G (lv_sub hl [1] rfl)
  · have hf := if_f b2 hf
    refine lv_iload_n C.1 C.2.1 qm_Pg_isThere_39 rfl (lv_at hl 2 rfl) ?_
    refine lv_iload_n C.1 C.2.1 qm_Pg_isThere_40 rfl (lv_at hl 0 rfl) ?_
    refine lv_icmp_ge (tgt := 48) C.1 C.2.1 qm_Pg_isThere_41 (by decide) (fun b3 => ?_) (fun b3 => ?_)
    · have hf := if_t b3 hf
      refine lv_iconst (v := 0) C.1 C.2.1 qm_Pg_isThere_48 (by decide) ?_
      exact wPg_isThere_49 C S x1 0 hf _ _ _ G (lv_sub hl [1] rfl)
    · have hf := if_f b3 hf
      exact wPg_isThere_44 C S x1 hf _ _ _ G (lv_sub hl [1] rfl)
set_option maxHeartbeats 4000000 in
set_option maxRecDepth 100000 in
theorem wPg_isThere {l : Launch} {D : va_G} {h : Nat → Nat} {K : Nat → ClassId} {res : Int32 × qS} {p : Program} {e : Env} {s : State} {m : MethodId} {args : Array Value} {below : List Frame} {meth : Method} {c : Code} {A : Nat → Prop} {ad : Nat → Nat} (C : qC p s m args meth c qm_Pg_isThere_c 5 (some .boolean) qR_Pg ad) (S : qS) (a1 : Int32) (a2 : Int32) (hf : fPg_isThere S a1 a2 = some res) : ∀ (H : Heap) (locs : List Loc) (ls : Array Slot), qG D qCl (cT K) A s (cW h K S) H locs → lv_has ls 5 [(0, .ref (h 4)), (1, .int a1), (2, .int a2)] → W p l e ({ frames := 0, cells := 0, slots := 0, locals := 0 }) s m args below meth c H locs 0 0 (MQ below (qQi D qCl (cT K) (cW h K) A res) args s 0 0 A) (F0 m 0 ls []) := by
  intro H locs ls G hl
  unfold fPg_isThere at hf
  refine lv_iload_n C.1 C.2.1 qm_Pg_isThere_0 rfl (lv_at hl 1 rfl) ?_
  refine lv_iconst (v := 2) C.1 C.2.1 qm_Pg_isThere_1 (by decide) ?_
  refine lv_icmp_le (tgt := 7) C.1 C.2.1 qm_Pg_isThere_2 (by decide) (fun b1 => ?_) (fun b1 => ?_)
  · have hf := if_t b1 hf
    refine lv_aload_n C.1 C.2.1 qm_Pg_isThere_7 rfl (lv_at hl 0 rfl) ?_
    refine q_get (wf := (cW h K)) (v := .ref (h 3)) C G qi_Pg 4 rfl rfl 1 (by decide) qz_110 rfl qm_Pg_isThere_8 ?_
    refine lv_iload_n C.1 C.2.1 qm_Pg_isThere_11 rfl (lv_at hl 1 rfl) ?_
    refine lv_iconst (v := 2) C.1 C.2.1 qm_Pg_isThere_12 (by decide) ?_
    refine lv_icmp_ne (tgt := 21) C.1 C.2.1 qm_Pg_isThere_13 (by decide) (fun b2 => ?_) (fun b2 => ?_)
    · have hf := if_t b2 hf
      refine lv_iload_n C.1 C.2.1 qm_Pg_isThere_21 rfl (lv_at hl 1 rfl) ?_
      refine lv_iconst (v := 1) C.1 C.2.1 qm_Pg_isThere_22 (by decide) ?_
      refine lv_icmp_ne (tgt := 31) C.1 C.2.1 qm_Pg_isThere_23 (by decide) (fun b3 => ?_) (fun b3 => ?_)
      · have hf := if_t b3 hf
        refine lv_bipush (v := 9) C.1 C.2.1 qm_Pg_isThere_31 (by decide) ?_
        exact wPg_isThere_33 C S a1 a2 9 hf _ _ _ G (lv_sub hl [1, 2] rfl)
      · have hf := if_f (not_not_intro b3) hf
        refine lv_bipush (v := 11) C.1 C.2.1 qm_Pg_isThere_26 (by decide) ?_
        refine lv_goto (tgt := 33) C.1 C.2.1 qm_Pg_isThere_28 (by decide) ?_
        exact wPg_isThere_33 C S a1 a2 11 hf _ _ _ G (lv_sub hl [1, 2] rfl)
    · have hf := if_f (not_not_intro b2) hf
      refine lv_bipush (v := 13) C.1 C.2.1 qm_Pg_isThere_16 (by decide) ?_
      refine lv_goto (tgt := 33) C.1 C.2.1 qm_Pg_isThere_18 (by decide) ?_
      exact wPg_isThere_33 C S a1 a2 13 hf _ _ _ G (lv_sub hl [1, 2] rfl)
  · have hf := if_f b1 hf
    refine lv_iconst (v := 0) C.1 C.2.1 qm_Pg_isThere_5 (by decide) ?_
    exact q_zret (wf := (cW h K)) C G hf qm_Pg_isThere_6
theorem kPg_isThere {l : Launch} {ad : Nat → Nat} {D : va_G} {h : Nat → Nat} {K : Nat → ClassId} {res : Int32 × qS} {S : qS} {a1 : Int32} {a2 : Int32} (hf : fPg_isThere S a1 a2 = some res) : qMi l qm_Pg_isThere qm_Pg_isThere_c 5 .boolean 0 0 D qCl (cT K) ad (cW h K) [.ref (h 4), .int a1, .int a2] S res := qMi_of (by decide) (Nat.le_of_ble_eq_true rfl) (fun _ _ _ _ _ _ _ _ _ _ C G hl => wPg_isThere C S a1 a2 hf _ _ _ G hl)
set_option maxHeartbeats 4000000 in
set_option maxRecDepth 100000 in
theorem wPg_refusal {l : Launch} {D : va_G} {h : Nat → Nat} {K : Nat → ClassId} {res : Int32 × qS} {p : Program} {e : Env} {s : State} {m : MethodId} {args : Array Value} {below : List Frame} {meth : Method} {c : Code} {A : Nat → Prop} {ad : Nat → Nat} (C : qC p s m args meth c qm_Pg_refusal_c 2 (some .int) qR_Pg ad) (S : qS) (a0 : Int32) (a1 : Int32) (hf : fPg_refusal S a0 a1 = some res) : ∀ (H : Heap) (locs : List Loc) (ls : Array Slot), qG D qCl (cT K) A s (cW h K S) H locs → lv_has ls 2 [(0, .int a0), (1, .int a1)] → W p l e ({ frames := 0, cells := 0, slots := 0, locals := 0 }) s m args below meth c H locs 0 0 (MQ below (qQi D qCl (cT K) (cW h K) A res) args s 0 0 A) (F0 m 0 ls []) := by
  intro H locs ls G hl
  unfold fPg_refusal at hf
  refine lv_bipush (v := (-10)) C.1 C.2.1 qm_Pg_refusal_0 (by decide) ?_
  refine lv_bipush (v := 10) C.1 C.2.1 qm_Pg_refusal_2 (by decide) ?_
  refine lv_iload_n C.1 C.2.1 qm_Pg_refusal_4 rfl (lv_at hl 0 rfl) ?_
  refine lv_imul C.1 C.2.1 qm_Pg_refusal_5 ?_
  refine lv_isub C.1 C.2.1 qm_Pg_refusal_6 ?_
  refine lv_iload_n C.1 C.2.1 qm_Pg_refusal_7 rfl (lv_at hl 1 rfl) ?_
  refine lv_isub C.1 C.2.1 qm_Pg_refusal_8 ?_
  exact q_iret (wf := (cW h K)) C G hf qm_Pg_refusal_9
theorem kPg_refusal {l : Launch} {ad : Nat → Nat} {D : va_G} {h : Nat → Nat} {K : Nat → ClassId} {res : Int32 × qS} {S : qS} {a0 : Int32} {a1 : Int32} (hf : fPg_refusal S a0 a1 = some res) : qMi l qm_Pg_refusal qm_Pg_refusal_c 2 .int 0 0 D qCl (cT K) ad (cW h K) [.int a0, .int a1] S res := qMi_of (by decide) (Nat.le_of_ble_eq_true rfl) (fun _ _ _ _ _ _ _ _ _ _ C G hl => wPg_refusal C S a0 a1 hf _ _ _ G hl)
set_option maxHeartbeats 4000000 in
set_option maxRecDepth 100000 in
theorem wPg_isValid_9 {l : Launch} {D : va_G} {h : Nat → Nat} {K : Nat → ClassId} {res : Int32 × qS} {p : Program} {e : Env} {s : State} {m : MethodId} {args : Array Value} {below : List Frame} {meth : Method} {c : Code} {A : Nat → Prop} {ad : Nat → Nat} (C : qC p s m args meth c qm_Pg_isValid_c 1 (some .boolean) qR_Pg ad) (S : qS) (y0 : Int32) (hf : fPg_isValid_9 S y0 = some res) : ∀ (H : Heap) (locs : List Loc) (ls : Array Slot), qG D qCl (cT K) A s (cW h K S) H locs → lv_has ls 1 [] → W p l e ({ frames := 0, cells := 0, slots := 0, locals := 0 }) s m args below meth c H locs 0 0 (MQ below (qQi D qCl (cT K) (cW h K) A res) args s 0 0 A) (F0 m 9 ls [.int y0]) := by
  intro H locs ls G hl
  unfold fPg_isValid_9 at hf
  exact q_zret (wf := (cW h K)) C G hf qm_Pg_isValid_9
set_option maxHeartbeats 4000000 in
set_option maxRecDepth 100000 in
theorem wPg_isValid {l : Launch} {D : va_G} {h : Nat → Nat} {K : Nat → ClassId} {res : Int32 × qS} {p : Program} {e : Env} {s : State} {m : MethodId} {args : Array Value} {below : List Frame} {meth : Method} {c : Code} {A : Nat → Prop} {ad : Nat → Nat} (C : qC p s m args meth c qm_Pg_isValid_c 1 (some .boolean) qR_Pg ad) (S : qS) (a0 : Int32) (hf : fPg_isValid S a0 = some res) : ∀ (H : Heap) (locs : List Loc) (ls : Array Slot), qG D qCl (cT K) A s (cW h K S) H locs → lv_has ls 1 [(0, .int a0)] → W p l e ({ frames := 0, cells := 0, slots := 0, locals := 0 }) s m args below meth c H locs 0 0 (MQ below (qQi D qCl (cT K) (cW h K) A res) args s 0 0 A) (F0 m 0 ls []) := by
  intro H locs ls G hl
  unfold fPg_isValid at hf
  refine lv_iload_n C.1 C.2.1 qm_Pg_isValid_0 rfl (lv_at hl 0 rfl) ?_
  refine lv_if_ge (tgt := 8) C.1 C.2.1 qm_Pg_isValid_1 (by decide) (fun b1 => ?_) (fun b1 => ?_)
  · have hf := if_t b1 hf
    refine lv_iconst (v := 0) C.1 C.2.1 qm_Pg_isValid_8 (by decide) ?_
    exact wPg_isValid_9 C S 0 hf _ _ _ G (lv_sub hl [] rfl)
  · have hf := if_f b1 hf
    refine lv_iconst (v := 1) C.1 C.2.1 qm_Pg_isValid_4 (by decide) ?_
    refine lv_goto (tgt := 9) C.1 C.2.1 qm_Pg_isValid_5 (by decide) ?_
    exact wPg_isValid_9 C S 1 hf _ _ _ G (lv_sub hl [] rfl)
theorem kPg_isValid {l : Launch} {ad : Nat → Nat} {D : va_G} {h : Nat → Nat} {K : Nat → ClassId} {res : Int32 × qS} {S : qS} {a0 : Int32} (hf : fPg_isValid S a0 = some res) : qMi l qm_Pg_isValid qm_Pg_isValid_c 1 .boolean 0 0 D qCl (cT K) ad (cW h K) [.int a0] S res := qMi_of (by decide) (Nat.le_of_ble_eq_true rfl) (fun _ _ _ _ _ _ _ _ _ _ C G hl => wPg_isValid C S a0 hf _ _ _ G hl)
set_option maxHeartbeats 4000000 in
set_option maxRecDepth 100000 in
theorem wPg_inFrame {l : Launch} {D : va_G} {h : Nat → Nat} {K : Nat → ClassId} {res : Int32 × qS} {p : Program} {e : Env} {s : State} {m : MethodId} {args : Array Value} {below : List Frame} {meth : Method} {c : Code} {A : Nat → Prop} {ad : Nat → Nat} (C : qC p s m args meth c qm_Pg_inFrame_c 2 (some .int) qR_Pg ad) (S : qS) (a0 : Int32) (a1 : Int32) (hf : fPg_inFrame S a0 a1 = some res) : ∀ (H : Heap) (locs : List Loc) (ls : Array Slot), qG D qCl (cT K) A s (cW h K S) H locs → lv_has ls 2 [(0, .int a0), (1, .int a1)] → W p l e ({ frames := 0, cells := 0, slots := 0, locals := 0 }) s m args below meth c H locs 0 0 (MQ below (qQi D qCl (cT K) (cW h K) A res) args s 0 0 A) (F0 m 0 ls []) := by
  intro H locs ls G hl
  unfold fPg_inFrame at hf
  refine lv_bipush (v := 64) C.1 C.2.1 qm_Pg_inFrame_0 (by decide) ?_
  refine lv_iload_n C.1 C.2.1 qm_Pg_inFrame_2 rfl (lv_at hl 0 rfl) ?_
  refine lv_bipush (v := 31) C.1 C.2.1 qm_Pg_inFrame_3 (by decide) ?_
  refine lv_iand C.1 C.2.1 qm_Pg_inFrame_5 ?_
  refine lv_imul C.1 C.2.1 qm_Pg_inFrame_6 ?_
  refine lv_iload_n C.1 C.2.1 qm_Pg_inFrame_7 rfl (lv_at hl 1 rfl) ?_
  refine lv_bipush (v := 63) C.1 C.2.1 qm_Pg_inFrame_8 (by decide) ?_
  refine lv_iand C.1 C.2.1 qm_Pg_inFrame_10 ?_
  refine lv_iadd C.1 C.2.1 qm_Pg_inFrame_11 ?_
  exact q_iret (wf := (cW h K)) C G hf qm_Pg_inFrame_12
theorem kPg_inFrame {l : Launch} {ad : Nat → Nat} {D : va_G} {h : Nat → Nat} {K : Nat → ClassId} {res : Int32 × qS} {S : qS} {a0 : Int32} {a1 : Int32} (hf : fPg_inFrame S a0 a1 = some res) : qMi l qm_Pg_inFrame qm_Pg_inFrame_c 2 .int 0 0 D qCl (cT K) ad (cW h K) [.int a0, .int a1] S res := qMi_of (by decide) (Nat.le_of_ble_eq_true rfl) (fun _ _ _ _ _ _ _ _ _ _ C G hl => wPg_inFrame C S a0 a1 hf _ _ _ G hl)
set_option maxHeartbeats 4000000 in
set_option maxRecDepth 100000 in
theorem wPg_grants_49 {l : Launch} {D : va_G} {h : Nat → Nat} {K : Nat → ClassId} {res : Int32 × qS} {p : Program} {e : Env} {s : State} {m : MethodId} {args : Array Value} {below : List Frame} {meth : Method} {c : Code} {A : Nat → Prop} {ad : Nat → Nat} (C : qC p s m args meth c qm_Pg_grants_c 5 (some .boolean) qR_Pg ad) (S : qS) (y0 : Int32) (hf : fPg_grants_49 S y0 = some res) : ∀ (H : Heap) (locs : List Loc) (ls : Array Slot), qG D qCl (cT K) A s (cW h K S) H locs → lv_has ls 5 [] → W p l e ({ frames := 0, cells := 0, slots := 0, locals := 0 }) s m args below meth c H locs 0 0 (MQ below (qQi D qCl (cT K) (cW h K) A res) args s 0 0 A) (F0 m 49 ls [.int y0]) := by
  intro H locs ls G hl
  unfold fPg_grants_49 at hf
  exact q_zret (wf := (cW h K)) C G hf qm_Pg_grants_49
set_option maxHeartbeats 4000000 in
set_option maxRecDepth 100000 in
theorem wPg_grants_35 {l : Launch} {D : va_G} {h : Nat → Nat} {K : Nat → ClassId} {res : Int32 × qS} {p : Program} {e : Env} {s : State} {m : MethodId} {args : Array Value} {below : List Frame} {meth : Method} {c : Code} {A : Nat → Prop} {ad : Nat → Nat} (C : qC p s m args meth c qm_Pg_grants_c 5 (some .boolean) qR_Pg ad) (S : qS) (hf : fPg_grants_35 S = some res) : ∀ (H : Heap) (locs : List Loc) (ls : Array Slot), qG D qCl (cT K) A s (cW h K S) H locs → lv_has ls 5 [] → W p l e ({ frames := 0, cells := 0, slots := 0, locals := 0 }) s m args below meth c H locs 0 0 (MQ below (qQi D qCl (cT K) (cW h K) A res) args s 0 0 A) (F0 m 35 ls []) := by
  intro H locs ls G hl
  unfold fPg_grants_35 at hf
  refine lv_iconst (v := 0) C.1 C.2.1 qm_Pg_grants_35 (by decide) ?_
  refine lv_goto (tgt := 49) C.1 C.2.1 qm_Pg_grants_36 (by decide) ?_
  exact wPg_grants_49 C S 0 hf _ _ _ G (lv_sub hl [] rfl)
set_option maxHeartbeats 4000000 in
set_option maxRecDepth 100000 in
theorem wPg_grants {l : Launch} {D : va_G} {h : Nat → Nat} {K : Nat → ClassId} {res : Int32 × qS} {p : Program} {e : Env} {s : State} {m : MethodId} {args : Array Value} {below : List Frame} {meth : Method} {c : Code} {A : Nat → Prop} {ad : Nat → Nat} (C : qC p s m args meth c qm_Pg_grants_c 5 (some .boolean) qR_Pg ad) (S : qS) (a0 : Int32) (a1 : Int32) (a2 : Int32) (hf : fPg_grants S a0 a1 a2 = some res) : ∀ (H : Heap) (locs : List Loc) (ls : Array Slot), qG D qCl (cT K) A s (cW h K S) H locs → lv_has ls 5 [(0, .int a0), (1, .int a1), (2, .int a2)] → W p l e ({ frames := 0, cells := 0, slots := 0, locals := 0 }) s m args below meth c H locs 0 0 (MQ below (qQi D qCl (cT K) (cW h K) A res) args s 0 0 A) (F0 m 0 ls []) := by
  intro H locs ls G hl
  unfold fPg_grants at hf
  refine lv_iload_n C.1 C.2.1 qm_Pg_grants_0 rfl (lv_at hl 0 rfl) ?_
  refine lv_bipush (v := 27) C.1 C.2.1 qm_Pg_grants_1 (by decide) ?_
  refine lv_iushr (v := ushr a0 27) C.1 C.2.1 qm_Pg_grants_3 rfl ?_
  refine lv_iconst (v := 3) C.1 C.2.1 qm_Pg_grants_4 (by decide) ?_
  refine lv_iand C.1 C.2.1 qm_Pg_grants_5 ?_
  refine lv_istore_n (lv' := [(3, .int ((ushr a0 27) &&& 3)), (0, .int a0), (1, .int a1), (2, .int a2)]) C.1 C.2.1 qm_Pg_grants_6 rfl hl (by decide) rfl (fun ls hl => ?_)
  refine lv_iload_n C.1 C.2.1 qm_Pg_grants_7 rfl (lv_at hl 1 rfl) ?_
  refine lv_bipush (v := 29) C.1 C.2.1 qm_Pg_grants_8 (by decide) ?_
  refine lv_iushr (v := ushr a0 29) C.1 C.2.1 qm_Pg_grants_10 rfl ?_
  refine lv_iconst (v := 3) C.1 C.2.1 qm_Pg_grants_11 (by decide) ?_
  refine lv_iand C.1 C.2.1 qm_Pg_grants_12 ?_
  refine lv_istore (lv' := [(4, .int ((ushr a0 29) &&& 3)), (3, .int ((ushr a0 27) &&& 3)), (0, .int a0), (1, .int a1), (2, .int a2)]) C.1 C.2.1 qm_Pg_grants_13 hl (by decide) rfl (fun ls hl => ?_)
  refine lv_iload_n C.1 C.2.1 qm_Pg_grants_15 rfl (lv_at hl 3 rfl) ?_
  refine lv_if_eq (tgt := 39) C.1 C.2.1 qm_Pg_grants_16 (by decide) (fun b1 => ?_) (fun b1 => ?_)
  · have hf := if_t b1 hf
    refine lv_iload_n C.1 C.2.1 qm_Pg_grants_39 rfl (lv_at hl 4 rfl) ?_
    refine lv_iload_n C.1 C.2.1 qm_Pg_grants_40 rfl (lv_at hl 1 rfl) ?_
    refine lv_icmp_gt (tgt := 48) C.1 C.2.1 qm_Pg_grants_41 (by decide) (fun b2 => ?_) (fun b2 => ?_)
    · have hf := if_t b2 hf
      refine lv_iconst (v := 0) C.1 C.2.1 qm_Pg_grants_48 (by decide) ?_
      exact wPg_grants_49 C S 0 hf _ _ _ G (lv_sub hl [] rfl)
    · have hf := if_f b2 hf
      refine lv_iconst (v := 1) C.1 C.2.1 qm_Pg_grants_44 (by decide) ?_
      refine lv_goto (tgt := 49) C.1 C.2.1 qm_Pg_grants_45 (by decide) ?_
      exact wPg_grants_49 C S 1 hf _ _ _ G (lv_sub hl [] rfl)
  · have hf := if_f b1 hf
    refine lv_iload_n C.1 C.2.1 qm_Pg_grants_19 rfl (lv_at hl 4 rfl) ?_
    refine lv_iload C.1 C.2.1 qm_Pg_grants_20 (lv_at hl 0 rfl) ?_
    refine lv_icmp_gt (tgt := 35) C.1 C.2.1 qm_Pg_grants_22 (by decide) (fun b3 => ?_) (fun b3 => ?_)
    · have hf := if_t b3 hf
      exact wPg_grants_35 C S hf _ _ _ G (lv_sub hl [] rfl)
    · have hf := if_f b3 hf
      refine lv_iload C.1 C.2.1 qm_Pg_grants_25 (lv_at hl 0 rfl) ?_
      refine lv_iload_n C.1 C.2.1 qm_Pg_grants_27 rfl (lv_at hl 1 rfl) ?_
      refine lv_icmp_gt (tgt := 35) C.1 C.2.1 qm_Pg_grants_28 (by decide) (fun b4 => ?_) (fun b4 => ?_)
      · have hf := if_t b4 hf
        exact wPg_grants_35 C S hf _ _ _ G (lv_sub hl [] rfl)
      · have hf := if_f b4 hf
        refine lv_iconst (v := 1) C.1 C.2.1 qm_Pg_grants_31 (by decide) ?_
        refine lv_goto (tgt := 49) C.1 C.2.1 qm_Pg_grants_32 (by decide) ?_
        exact wPg_grants_49 C S 1 hf _ _ _ G (lv_sub hl [] rfl)
theorem kPg_grants {l : Launch} {ad : Nat → Nat} {D : va_G} {h : Nat → Nat} {K : Nat → ClassId} {res : Int32 × qS} {S : qS} {a0 : Int32} {a1 : Int32} {a2 : Int32} (hf : fPg_grants S a0 a1 a2 = some res) : qMi l qm_Pg_grants qm_Pg_grants_c 5 .boolean 0 0 D qCl (cT K) ad (cW h K) [.int a0, .int a1, .int a2] S res := qMi_of (by decide) (Nat.le_of_ble_eq_true rfl) (fun _ _ _ _ _ _ _ _ _ _ C G hl => wPg_grants C S a0 a1 a2 hf _ _ _ G hl)
set_option maxHeartbeats 4000000 in
set_option maxRecDepth 100000 in
theorem wPg_locate_189 {l : Launch} {D : va_G} {h : Nat → Nat} {K : Nat → ClassId} {res : Int32 × qS} {p : Program} {e : Env} {s : State} {m : MethodId} {args : Array Value} {below : List Frame} {meth : Method} {c : Code} {A : Nat → Prop} {ad : Nat → Nat} (C : qC p s m args meth c qm_Pg_locate_c 10 (some .int) qR_Pg ad) (S : qS) (x1 : Int32) (x2 : Int32) (x3 : Int32) (x4 : Int32) (x7 : Int32) (hf : fPg_locate_189 S x1 x2 x3 x4 x7 = some res) : ∀ (H : Heap) (locs : List Loc) (ls : Array Slot), qG D qCl (cT K) A s (cW h K S) H locs → lv_has ls 10 [(0, .ref (h 4)), (1, .int x1), (2, .int x2), (3, .int x3), (4, .int x4), (7, .int x7)] → W p l e ({ frames := 1, cells := 0, slots := 0, locals := 24 }) s m args below meth c H locs 0 0 (MQ below (qQi D qCl (cT K) (cW h K) A res) args s 0 0 A) (F0 m 189 ls []) := by
  intro H locs ls G hl
  unfold fPg_locate_189 at hf
  refine lv_aload_n C.1 C.2.1 qm_Pg_locate_189 rfl (lv_at hl 0 rfl) ?_
  refine q_get (wf := (cW h K)) (v := .ref (h 1)) C G qi_Pg 4 rfl rfl 0 (by decide) qz_109 rfl qm_Pg_locate_190 ?_
  refine lv_iload C.1 C.2.1 qm_Pg_locate_193 (lv_at hl 5 rfl) ?_
  obtain ⟨q1, c1, hf⟩ := bnd_s hf
  refine q_callVi (wf := (cW h K)) (n := 1) (As := [.int x7]) (q0 := 1) (ci := 5) C G hl.1 (kSt_longAt (l := l) c1) qx_Pg_37 qm_St_longAt_d ⟨by decide, by decide⟩ ⟨Nat.le_refl _, Nat.le_refl _⟩ rfl rfl rfl rfl rfl (Nat.le_of_ble_eq_true rfl) qm_Pg_locate_195 (fun H locs G => ?_)
  refine lv_istore (lv' := [(8, .int q1.1), (0, .ref (h 4)), (1, .int x1), (2, .int x2), (3, .int x3), (4, .int x4), (7, .int x7)]) C.1 C.2.1 qm_Pg_locate_198 hl (by decide) rfl (fun ls hl => ?_)
  refine lv_iload C.1 C.2.1 qm_Pg_locate_200 (lv_at hl 0 rfl) ?_
  refine lv_iload_n C.1 C.2.1 qm_Pg_locate_202 rfl (lv_at hl 3 rfl) ?_
  refine lv_iload_n C.1 C.2.1 qm_Pg_locate_203 rfl (lv_at hl 4 rfl) ?_
  obtain ⟨q2, c2, hf⟩ := bnd_s hf
  refine q_callSi (wf := (cW h K)) (n := 3) (As := [.int q1.1, .int x2, .int x3]) C G hl.1 (kPg_grants (l := l) c2) qx_Pg_47 qm_Pg_grants_d ⟨by decide, by decide⟩ ⟨Nat.le_refl _, Nat.le_refl _⟩ rfl rfl (Nat.le_of_ble_eq_true rfl) qm_Pg_locate_204 (fun H locs G => ?_)
  refine lv_if_ne (tgt := 217) C.1 C.2.1 qm_Pg_locate_207 (by decide) (fun b3 => ?_) (fun b3 => ?_)
  · have hf := if_t b3 hf
    refine lv_iload C.1 C.2.1 qm_Pg_locate_217 (lv_at hl 0 rfl) ?_
    obtain ⟨q4, c4, hf⟩ := bnd_s hf
    refine q_callSi (wf := (cW h K)) (n := 1) (As := [.int q1.1]) C G hl.1 (kPg_isValid (l := l) c4) qx_Pg_40 qm_Pg_isValid_d ⟨by decide, by decide⟩ ⟨Nat.le_refl _, Nat.le_refl _⟩ rfl rfl (Nat.le_of_ble_eq_true rfl) qm_Pg_locate_219 (fun H locs G => ?_)
    refine lv_if_ne (tgt := 232) C.1 C.2.1 qm_Pg_locate_222 (by decide) (fun b5 => ?_) (fun b5 => ?_)
    · have hf := if_t b5 hf
      refine lv_aload_n C.1 C.2.1 qm_Pg_locate_232 rfl (lv_at hl 1 rfl) ?_
      refine lv_iload C.1 C.2.1 qm_Pg_locate_233 (lv_at hl 6 rfl) ?_
      refine lv_sipush (v := 2047) C.1 C.2.1 qm_Pg_locate_235 (by decide) ?_
      refine lv_iand C.1 C.2.1 qm_Pg_locate_238 ?_
      refine q_put (wf := (cW h K)) (S' := (pI q4.2 4 (x7 &&& 2047))) C G qi_Pg qY_Pg qy_Pg qn_Pg 4 rfl rfl 2 (by decide) qz_111 rfl rfl (Nat.le_of_ble_eq_true rfl) rfl qm_Pg_locate_239 (fun H locs G => ?_)
      refine lv_iload C.1 C.2.1 qm_Pg_locate_242 (lv_at hl 0 rfl) ?_
      refine lv_iload_n C.1 C.2.1 qm_Pg_locate_244 rfl (lv_at hl 2 rfl) ?_
      obtain ⟨q6, c6, hf⟩ := bnd_s hf
      refine q_callSi (wf := (cW h K)) (n := 2) (As := [.int q1.1, .int x1]) C G hl.1 (kPg_inFrame (l := l) c6) qx_Pg_44 qm_Pg_inFrame_d ⟨by decide, by decide⟩ ⟨Nat.le_refl _, Nat.le_refl _⟩ rfl rfl (Nat.le_of_ble_eq_true rfl) qm_Pg_locate_245 (fun H locs G => ?_)
      exact q_iret (wf := (cW h K)) C G hf qm_Pg_locate_248
    · have hf := if_f (not_not_intro b5) hf
      refine lv_iconst (v := 5) C.1 C.2.1 qm_Pg_locate_225 (by decide) ?_
      refine lv_iload C.1 C.2.1 qm_Pg_locate_226 (lv_at hl 5 rfl) ?_
      obtain ⟨q7, c7, hf⟩ := bnd_s hf
      refine q_callSi (wf := (cW h K)) (n := 2) (As := [.int 5, .int x4]) C G hl.1 (kPg_refusal (l := l) c7) qx_Pg_33 qm_Pg_refusal_d ⟨by decide, by decide⟩ ⟨Nat.le_refl _, Nat.le_refl _⟩ rfl rfl (Nat.le_of_ble_eq_true rfl) qm_Pg_locate_228 (fun H locs G => ?_)
      exact q_iret (wf := (cW h K)) C G hf qm_Pg_locate_231
  · have hf := if_f (not_not_intro b3) hf
    refine lv_iconst (v := 4) C.1 C.2.1 qm_Pg_locate_210 (by decide) ?_
    refine lv_iload C.1 C.2.1 qm_Pg_locate_211 (lv_at hl 5 rfl) ?_
    obtain ⟨q8, c8, hf⟩ := bnd_s hf
    refine q_callSi (wf := (cW h K)) (n := 2) (As := [.int 4, .int x4]) C G hl.1 (kPg_refusal (l := l) c8) qx_Pg_33 qm_Pg_refusal_d ⟨by decide, by decide⟩ ⟨Nat.le_refl _, Nat.le_refl _⟩ rfl rfl (Nat.le_of_ble_eq_true rfl) qm_Pg_locate_213 (fun H locs G => ?_)
    exact q_iret (wf := (cW h K)) C G hf qm_Pg_locate_216
set_option maxHeartbeats 4000000 in
set_option maxRecDepth 100000 in
theorem wPg_locate_130 {l : Launch} {D : va_G} {h : Nat → Nat} {K : Nat → ClassId} {res : Int32 × qS} {p : Program} {e : Env} {s : State} {m : MethodId} {args : Array Value} {below : List Frame} {meth : Method} {c : Code} {A : Nat → Prop} {ad : Nat → Nat} (C : qC p s m args meth c qm_Pg_locate_c 10 (some .int) qR_Pg ad) (S : qS) (x4 : Int32) (hf : fPg_locate_130 S x4 = some res) : ∀ (H : Heap) (locs : List Loc) (ls : Array Slot), qG D qCl (cT K) A s (cW h K S) H locs → lv_has ls 10 [(4, .int x4)] → W p l e ({ frames := 1, cells := 0, slots := 0, locals := 24 }) s m args below meth c H locs 0 0 (MQ below (qQi D qCl (cT K) (cW h K) A res) args s 0 0 A) (F0 m 130 ls []) := by
  intro H locs ls G hl
  unfold fPg_locate_130 at hf
  refine lv_iconst (v := 4) C.1 C.2.1 qm_Pg_locate_130 (by decide) ?_
  refine lv_iconst (v := 3) C.1 C.2.1 qm_Pg_locate_131 (by decide) ?_
  refine lv_iload C.1 C.2.1 qm_Pg_locate_132 (lv_at hl 0 rfl) ?_
  refine lv_iadd C.1 C.2.1 qm_Pg_locate_134 ?_
  obtain ⟨q1, c1, hf⟩ := bnd_s hf
  refine q_callSi (wf := (cW h K)) (n := 2) (As := [.int 4, .int (3 + x4)]) C G hl.1 (kPg_refusal (l := l) c1) qx_Pg_33 qm_Pg_refusal_d ⟨by decide, by decide⟩ ⟨Nat.le_refl _, Nat.le_refl _⟩ rfl rfl (Nat.le_of_ble_eq_true rfl) qm_Pg_locate_135 (fun H locs G => ?_)
  exact q_iret (wf := (cW h K)) C G hf qm_Pg_locate_138
set_option maxHeartbeats 4000000 in
set_option maxRecDepth 100000 in
theorem wPg_locate_100 {l : Launch} {D : va_G} {h : Nat → Nat} {K : Nat → ClassId} {res : Int32 × qS} {p : Program} {e : Env} {s : State} {m : MethodId} {args : Array Value} {below : List Frame} {meth : Method} {c : Code} {A : Nat → Prop} {ad : Nat → Nat} (C : qC p s m args meth c qm_Pg_locate_c 10 (some .int) qR_Pg ad) (S : qS) (x1 : Int32) (x2 : Int32) (x3 : Int32) (x4 : Int32) (x6 : Int32) (y1 : Int32) (hf : fPg_locate_100 S x1 x2 x3 x4 x6 y1 = some res) : ∀ (H : Heap) (locs : List Loc) (ls : Array Slot), qG D qCl (cT K) A s (cW h K S) H locs → lv_has ls 10 [(0, .ref (h 4)), (1, .int x1), (2, .int x2), (3, .int x3), (4, .int x4), (6, .int x6)] → W p l e ({ frames := 1, cells := 0, slots := 0, locals := 24 }) s m args below meth c H locs 0 0 (MQ below (qQi D qCl (cT K) (cW h K) A res) args s 0 0 A) (F0 m 100 ls [.int y1, .ref (h 3)]) := by
  intro H locs ls G hl
  unfold fPg_locate_100 at hf
  obtain ⟨b1, hf⟩ := chk_s hf
  refine q_iald (wf := (cW h K)) C G 3 1 rfl rfl b1 qm_Pg_locate_100 ?_
  refine lv_iconst (v := 4) C.1 C.2.1 qm_Pg_locate_101 (by decide) ?_
  refine lv_iload C.1 C.2.1 qm_Pg_locate_102 (lv_at hl 5 rfl) ?_
  refine lv_imul C.1 C.2.1 qm_Pg_locate_104 ?_
  refine lv_iadd C.1 C.2.1 qm_Pg_locate_105 ?_
  refine lv_istore (lv' := [(8, .int ((gA S 1 y1) + (4 * x6))), (0, .ref (h 4)), (1, .int x1), (2, .int x2), (3, .int x3), (4, .int x4), (6, .int x6)]) C.1 C.2.1 qm_Pg_locate_106 hl (by decide) rfl (fun ls hl => ?_)
  refine lv_iload C.1 C.2.1 qm_Pg_locate_108 (lv_at hl 0 rfl) ?_
  refine lv_bipush (v := 30) C.1 C.2.1 qm_Pg_locate_110 (by decide) ?_
  refine lv_iushr (v := ushr ((gA S 1 y1) + (4 * x6)) 30) C.1 C.2.1 qm_Pg_locate_112 rfl ?_
  refine lv_iconst (v := 2) C.1 C.2.1 qm_Pg_locate_113 (by decide) ?_
  refine lv_icmp_ne (tgt := 130) C.1 C.2.1 qm_Pg_locate_114 (by decide) (fun b2 => ?_) (fun b2 => ?_)
  · have hf := if_t b2 hf
    exact wPg_locate_130 C S x4 hf _ _ _ G (lv_sub hl [5] rfl)
  · have hf := if_f (not_not_intro b2) hf
    refine lv_aload_n C.1 C.2.1 qm_Pg_locate_117 rfl (lv_at hl 1 rfl) ?_
    refine lv_iconst (v := 2) C.1 C.2.1 qm_Pg_locate_118 (by decide) ?_
    refine lv_iload C.1 C.2.1 qm_Pg_locate_119 (lv_at hl 0 rfl) ?_
    obtain ⟨q3, c3, hf⟩ := bnd_s hf
    refine q_callSi (wf := (cW h K)) (n := 1) (As := [.int ((gA S 1 y1) + (4 * x6))]) C G hl.1 (kPg_pageOf (l := l) c3) qx_Pg_25 qm_Pg_pageOf_d ⟨by decide, by decide⟩ ⟨Nat.le_refl _, Nat.le_refl _⟩ rfl rfl (Nat.le_of_ble_eq_true rfl) qm_Pg_locate_121 (fun H locs G => ?_)
    obtain ⟨q4, c4, hf⟩ := bnd_s hf
    refine q_callVi (wf := (cW h K)) (n := 2) (As := [.int 2, .int q3.1]) (q0 := 4) (ci := 3) C G hl.1 (kPg_isThere (l := l) c4) qx_Pg_29 qm_Pg_isThere_d ⟨by decide, by decide⟩ ⟨Nat.le_refl _, Nat.le_refl _⟩ rfl rfl rfl rfl rfl (Nat.le_of_ble_eq_true rfl) qm_Pg_locate_124 (fun H locs G => ?_)
    refine lv_if_ne (tgt := 139) C.1 C.2.1 qm_Pg_locate_127 (by decide) (fun b5 => ?_) (fun b5 => ?_)
    · have hf := if_t b5 hf
      refine lv_aload_n C.1 C.2.1 qm_Pg_locate_139 rfl (lv_at hl 1 rfl) ?_
      refine q_get (wf := (cW h K)) (v := .ref (h 1)) C G qi_Pg 4 rfl rfl 0 (by decide) qz_109 rfl qm_Pg_locate_140 ?_
      refine lv_aload_n C.1 C.2.1 qm_Pg_locate_143 rfl (lv_at hl 1 rfl) ?_
      refine q_get (wf := (cW h K)) (v := .ref (h 3)) C G qi_Pg 4 rfl rfl 1 (by decide) qz_110 rfl qm_Pg_locate_144 ?_
      refine lv_bipush (v := 12) C.1 C.2.1 qm_Pg_locate_147 (by decide) ?_
      refine q_iald (wf := (cW h K)) C G 3 1 rfl rfl (by decide) qm_Pg_locate_149 ?_
      refine lv_iconst (v := 4) C.1 C.2.1 qm_Pg_locate_150 (by decide) ?_
      refine lv_iload C.1 C.2.1 qm_Pg_locate_151 (lv_at hl 0 rfl) ?_
      obtain ⟨q6, c6, hf⟩ := bnd_s hf
      refine q_callSi (wf := (cW h K)) (n := 1) (As := [.int ((gA S 1 y1) + (4 * x6))]) C G hl.1 (kPg_pageOf (l := l) c6) qx_Pg_25 qm_Pg_pageOf_d ⟨by decide, by decide⟩ ⟨Nat.le_refl _, Nat.le_refl _⟩ rfl rfl (Nat.le_of_ble_eq_true rfl) qm_Pg_locate_153 (fun H locs G => ?_)
      refine lv_imul C.1 C.2.1 qm_Pg_locate_156 ?_
      refine lv_iadd C.1 C.2.1 qm_Pg_locate_157 ?_
      obtain ⟨q7, c7, hf⟩ := bnd_s hf
      refine q_callVi (wf := (cW h K)) (n := 1) (As := [.int ((gA q4.2 1 12) + (4 * q6.1))]) (q0 := 1) (ci := 5) C G hl.1 (kSt_longAt (l := l) c7) qx_Pg_37 qm_St_longAt_d ⟨by decide, by decide⟩ ⟨Nat.le_refl _, Nat.le_refl _⟩ rfl rfl rfl rfl rfl (Nat.le_of_ble_eq_true rfl) qm_Pg_locate_158 (fun H locs G => ?_)
      refine lv_istore (lv' := [(9, .int q7.1), (8, .int ((gA S 1 y1) + (4 * x6))), (0, .ref (h 4)), (1, .int x1), (2, .int x2), (3, .int x3), (4, .int x4), (6, .int x6)]) C.1 C.2.1 qm_Pg_locate_161 hl (by decide) rfl (fun ls hl => ?_)
      refine lv_iload C.1 C.2.1 qm_Pg_locate_163 (lv_at hl 0 rfl) ?_
      obtain ⟨q8, c8, hf⟩ := bnd_s hf
      refine q_callSi (wf := (cW h K)) (n := 1) (As := [.int q7.1]) C G hl.1 (kPg_isValid (l := l) c8) qx_Pg_40 qm_Pg_isValid_d ⟨by decide, by decide⟩ ⟨Nat.le_refl _, Nat.le_refl _⟩ rfl rfl (Nat.le_of_ble_eq_true rfl) qm_Pg_locate_165 (fun H locs G => ?_)
      refine lv_if_ne (tgt := 180) C.1 C.2.1 qm_Pg_locate_168 (by decide) (fun b9 => ?_) (fun b9 => ?_)
      · have hf := if_t b9 hf
        refine lv_iload C.1 C.2.1 qm_Pg_locate_180 (lv_at hl 0 rfl) ?_
        refine lv_iload C.1 C.2.1 qm_Pg_locate_182 (lv_at hl 1 rfl) ?_
        obtain ⟨q10, c10, hf⟩ := bnd_s hf
        refine q_callSi (wf := (cW h K)) (n := 2) (As := [.int q7.1, .int ((gA S 1 y1) + (4 * x6))]) C G hl.1 (kPg_inFrame (l := l) c10) qx_Pg_44 qm_Pg_inFrame_d ⟨by decide, by decide⟩ ⟨Nat.le_refl _, Nat.le_refl _⟩ rfl rfl (Nat.le_of_ble_eq_true rfl) qm_Pg_locate_184 (fun H locs G => ?_)
        refine lv_istore (lv' := [(7, .int q10.1), (9, .int q7.1), (8, .int ((gA S 1 y1) + (4 * x6))), (0, .ref (h 4)), (1, .int x1), (2, .int x2), (3, .int x3), (4, .int x4), (6, .int x6)]) C.1 C.2.1 qm_Pg_locate_187 hl (by decide) rfl (fun ls hl => ?_)
        exact wPg_locate_189 C q10.2 x1 x2 x3 x4 q10.1 hf _ _ _ G (lv_sub hl [3, 4, 5, 6, 7, 0] rfl)
      · have hf := if_f (not_not_intro b9) hf
        refine lv_iconst (v := 5) C.1 C.2.1 qm_Pg_locate_171 (by decide) ?_
        refine lv_iconst (v := 2) C.1 C.2.1 qm_Pg_locate_172 (by decide) ?_
        refine lv_iload C.1 C.2.1 qm_Pg_locate_173 (lv_at hl 6 rfl) ?_
        refine lv_iadd C.1 C.2.1 qm_Pg_locate_175 ?_
        obtain ⟨q11, c11, hf⟩ := bnd_s hf
        refine q_callSi (wf := (cW h K)) (n := 2) (As := [.int 5, .int (2 + x4)]) C G hl.1 (kPg_refusal (l := l) c11) qx_Pg_33 qm_Pg_refusal_d ⟨by decide, by decide⟩ ⟨Nat.le_refl _, Nat.le_refl _⟩ rfl rfl (Nat.le_of_ble_eq_true rfl) qm_Pg_locate_176 (fun H locs G => ?_)
        exact q_iret (wf := (cW h K)) C G hf qm_Pg_locate_179
    · have hf := if_f (not_not_intro b5) hf
      exact wPg_locate_130 C q4.2 x4 hf _ _ _ G (lv_sub hl [5] rfl)
set_option maxHeartbeats 4000000 in
set_option maxRecDepth 100000 in
theorem wPg_locate_30 {l : Launch} {D : va_G} {h : Nat → Nat} {K : Nat → ClassId} {res : Int32 × qS} {p : Program} {e : Env} {s : State} {m : MethodId} {args : Array Value} {below : List Frame} {meth : Method} {c : Code} {A : Nat → Prop} {ad : Nat → Nat} (C : qC p s m args meth c qm_Pg_locate_c 10 (some .int) qR_Pg ad) (S : qS) (x1 : Int32) (x2 : Int32) (x3 : Int32) (y0 : Int32) (hf : fPg_locate_30 S x1 x2 x3 y0 = some res) : ∀ (H : Heap) (locs : List Loc) (ls : Array Slot), qG D qCl (cT K) A s (cW h K S) H locs → lv_has ls 10 [(0, .ref (h 4)), (1, .int x1), (2, .int x2), (3, .int x3)] → W p l e ({ frames := 1, cells := 0, slots := 0, locals := 24 }) s m args below meth c H locs 0 0 (MQ below (qQi D qCl (cT K) (cW h K) A res) args s 0 0 A) (F0 m 30 ls [.int y0]) := by
  intro H locs ls G hl
  unfold fPg_locate_30 at hf
  refine lv_istore (lv' := [(4, .int y0), (0, .ref (h 4)), (1, .int x1), (2, .int x2), (3, .int x3)]) C.1 C.2.1 qm_Pg_locate_30 hl (by decide) rfl (fun ls hl => ?_)
  refine lv_iload_n C.1 C.2.1 qm_Pg_locate_32 rfl (lv_at hl 2 rfl) ?_
  refine lv_bipush (v := 30) C.1 C.2.1 qm_Pg_locate_33 (by decide) ?_
  refine lv_iushr (v := ushr x1 30) C.1 C.2.1 qm_Pg_locate_35 rfl ?_
  refine lv_istore (lv' := [(5, .int (ushr x1 30)), (4, .int y0), (0, .ref (h 4)), (1, .int x1), (2, .int x2), (3, .int x3)]) C.1 C.2.1 qm_Pg_locate_36 hl (by decide) rfl (fun ls hl => ?_)
  refine lv_iload_n C.1 C.2.1 qm_Pg_locate_38 rfl (lv_at hl 3 rfl) ?_
  obtain ⟨q1, c1, hf⟩ := bnd_s hf
  refine q_callSi (wf := (cW h K)) (n := 1) (As := [.int x1]) C G hl.1 (kPg_pageOf (l := l) c1) qx_Pg_25 qm_Pg_pageOf_d ⟨by decide, by decide⟩ ⟨Nat.le_refl _, Nat.le_refl _⟩ rfl rfl (Nat.le_of_ble_eq_true rfl) qm_Pg_locate_39 (fun H locs G => ?_)
  refine lv_istore (lv' := [(6, .int q1.1), (5, .int (ushr x1 30)), (4, .int y0), (0, .ref (h 4)), (1, .int x1), (2, .int x2), (3, .int x3)]) C.1 C.2.1 qm_Pg_locate_42 hl (by decide) rfl (fun ls hl => ?_)
  refine lv_aload_n C.1 C.2.1 qm_Pg_locate_44 rfl (lv_at hl 3 rfl) ?_
  refine lv_iload C.1 C.2.1 qm_Pg_locate_45 (lv_at hl 1 rfl) ?_
  refine lv_iload C.1 C.2.1 qm_Pg_locate_47 (lv_at hl 0 rfl) ?_
  obtain ⟨q2, c2, hf⟩ := bnd_s hf
  refine q_callVi (wf := (cW h K)) (n := 2) (As := [.int (ushr x1 30), .int q1.1]) (q0 := 4) (ci := 3) C G hl.1 (kPg_isThere (l := l) c2) qx_Pg_29 qm_Pg_isThere_d ⟨by decide, by decide⟩ ⟨Nat.le_refl _, Nat.le_refl _⟩ rfl rfl rfl rfl rfl (Nat.le_of_ble_eq_true rfl) qm_Pg_locate_49 (fun H locs G => ?_)
  refine lv_if_ne (tgt := 64) C.1 C.2.1 qm_Pg_locate_52 (by decide) (fun b3 => ?_) (fun b3 => ?_)
  · have hf := if_t b3 hf
    refine lv_aload_n C.1 C.2.1 qm_Pg_locate_64 rfl (lv_at hl 3 rfl) ?_
    refine q_get (wf := (cW h K)) (v := .ref (h 3)) C G qi_Pg 4 rfl rfl 1 (by decide) qz_110 rfl qm_Pg_locate_65 ?_
    refine lv_bipush (v := 12) C.1 C.2.1 qm_Pg_locate_68 (by decide) ?_
    refine q_iald (wf := (cW h K)) C G 3 1 rfl rfl (by decide) qm_Pg_locate_70 ?_
    refine lv_iconst (v := 4) C.1 C.2.1 qm_Pg_locate_71 (by decide) ?_
    refine lv_iload C.1 C.2.1 qm_Pg_locate_72 (lv_at hl 0 rfl) ?_
    refine lv_imul C.1 C.2.1 qm_Pg_locate_74 ?_
    refine lv_iadd C.1 C.2.1 qm_Pg_locate_75 ?_
    refine lv_istore (lv' := [(7, .int ((gA q2.2 1 12) + (4 * q1.1))), (6, .int q1.1), (5, .int (ushr x1 30)), (4, .int y0), (0, .ref (h 4)), (1, .int x1), (2, .int x2), (3, .int x3)]) C.1 C.2.1 qm_Pg_locate_76 hl (by decide) rfl (fun ls hl => ?_)
    refine lv_iload C.1 C.2.1 qm_Pg_locate_78 (lv_at hl 2 rfl) ?_
    refine lv_iconst (v := 2) C.1 C.2.1 qm_Pg_locate_80 (by decide) ?_
    refine lv_icmp_eq (tgt := 189) C.1 C.2.1 qm_Pg_locate_81 (by decide) (fun b4 => ?_) (fun b4 => ?_)
    · have hf := if_t b4 hf
      exact wPg_locate_189 C q2.2 x1 x2 x3 y0 ((gA q2.2 1 12) + (4 * q1.1)) hf _ _ _ G (lv_sub hl [4, 5, 6, 7, 3, 0] rfl)
    · have hf := if_f b4 hf
      refine lv_aload_n C.1 C.2.1 qm_Pg_locate_84 rfl (lv_at hl 4 rfl) ?_
      refine q_get (wf := (cW h K)) (v := .ref (h 3)) C G qi_Pg 4 rfl rfl 1 (by decide) qz_110 rfl qm_Pg_locate_85 ?_
      refine lv_iload C.1 C.2.1 qm_Pg_locate_88 (lv_at hl 2 rfl) ?_
      refine lv_if_ne (tgt := 98) C.1 C.2.1 qm_Pg_locate_90 (by decide) (fun b5 => ?_) (fun b5 => ?_)
      · have hf := if_t b5 hf
        refine lv_bipush (v := 10) C.1 C.2.1 qm_Pg_locate_98 (by decide) ?_
        exact wPg_locate_100 C q2.2 x1 x2 x3 y0 q1.1 10 hf _ _ _ G (lv_sub hl [4, 5, 6, 7, 3, 1] rfl)
      · have hf := if_f (not_not_intro b5) hf
        refine lv_bipush (v := 8) C.1 C.2.1 qm_Pg_locate_93 (by decide) ?_
        refine lv_goto (tgt := 100) C.1 C.2.1 qm_Pg_locate_95 (by decide) ?_
        exact wPg_locate_100 C q2.2 x1 x2 x3 y0 q1.1 8 hf _ _ _ G (lv_sub hl [4, 5, 6, 7, 3, 1] rfl)
  · have hf := if_f (not_not_intro b3) hf
    refine lv_iconst (v := 4) C.1 C.2.1 qm_Pg_locate_55 (by decide) ?_
    refine lv_iconst (v := 1) C.1 C.2.1 qm_Pg_locate_56 (by decide) ?_
    refine lv_iload C.1 C.2.1 qm_Pg_locate_57 (lv_at hl 2 rfl) ?_
    refine lv_iadd C.1 C.2.1 qm_Pg_locate_59 ?_
    obtain ⟨q6, c6, hf⟩ := bnd_s hf
    refine q_callSi (wf := (cW h K)) (n := 2) (As := [.int 4, .int (1 + y0)]) C G hl.1 (kPg_refusal (l := l) c6) qx_Pg_33 qm_Pg_refusal_d ⟨by decide, by decide⟩ ⟨Nat.le_refl _, Nat.le_refl _⟩ rfl rfl (Nat.le_of_ble_eq_true rfl) qm_Pg_locate_60 (fun H locs G => ?_)
    exact q_iret (wf := (cW h K)) C G hf qm_Pg_locate_63
set_option maxHeartbeats 4000000 in
set_option maxRecDepth 100000 in
theorem wPg_locate {l : Launch} {D : va_G} {h : Nat → Nat} {K : Nat → ClassId} {res : Int32 × qS} {p : Program} {e : Env} {s : State} {m : MethodId} {args : Array Value} {below : List Frame} {meth : Method} {c : Code} {A : Nat → Prop} {ad : Nat → Nat} (C : qC p s m args meth c qm_Pg_locate_c 10 (some .int) qR_Pg ad) (S : qS) (a1 : Int32) (a2 : Int32) (a3 : Int32) (hf : fPg_locate S a1 a2 a3 = some res) : ∀ (H : Heap) (locs : List Loc) (ls : Array Slot), qG D qCl (cT K) A s (cW h K S) H locs → lv_has ls 10 [(0, .ref (h 4)), (1, .int a1), (2, .int a2), (3, .int a3)] → W p l e ({ frames := 1, cells := 0, slots := 0, locals := 24 }) s m args below meth c H locs 0 0 (MQ below (qQi D qCl (cT K) (cW h K) A res) args s 0 0 A) (F0 m 0 ls []) := by
  intro H locs ls G hl
  unfold fPg_locate at hf
  refine lv_aload_n C.1 C.2.1 qm_Pg_locate_0 rfl (lv_at hl 0 rfl) ?_
  refine lv_iconst (v := (-1)) C.1 C.2.1 qm_Pg_locate_1 (by decide) ?_
  refine q_put (wf := (cW h K)) (S' := (pI S 4 (-1))) C G qi_Pg qY_Pg qy_Pg qn_Pg 4 rfl rfl 2 (by decide) qz_111 rfl rfl (Nat.le_of_ble_eq_true rfl) rfl qm_Pg_locate_2 (fun H locs G => ?_)
  refine lv_aload_n C.1 C.2.1 qm_Pg_locate_5 rfl (lv_at hl 0 rfl) ?_
  refine q_get (wf := (cW h K)) (v := .ref (h 3)) C G qi_Pg 4 rfl rfl 1 (by decide) qz_110 rfl qm_Pg_locate_6 ?_
  refine lv_bipush (v := 56) C.1 C.2.1 qm_Pg_locate_9 (by decide) ?_
  refine q_iald (wf := (cW h K)) C G 3 1 rfl rfl (by decide) qm_Pg_locate_11 ?_
  refine lv_if_ne (tgt := 21) C.1 C.2.1 qm_Pg_locate_12 (by decide) (fun b1 => ?_) (fun b1 => ?_)
  · have hf := if_t b1 hf
    refine lv_iload_n C.1 C.2.1 qm_Pg_locate_21 rfl (lv_at hl 2 rfl) ?_
    refine lv_if_eq (tgt := 29) C.1 C.2.1 qm_Pg_locate_22 (by decide) (fun b2 => ?_) (fun b2 => ?_)
    · have hf := if_t b2 hf
      refine lv_iconst (v := 0) C.1 C.2.1 qm_Pg_locate_29 (by decide) ?_
      exact wPg_locate_30 C (pI S 4 (-1)) a1 a2 a3 0 hf _ _ _ G (lv_sub hl [0, 1, 2, 3] rfl)
    · have hf := if_f b2 hf
      refine lv_iconst (v := 4) C.1 C.2.1 qm_Pg_locate_25 (by decide) ?_
      refine lv_goto (tgt := 30) C.1 C.2.1 qm_Pg_locate_26 (by decide) ?_
      exact wPg_locate_30 C (pI S 4 (-1)) a1 a2 a3 4 hf _ _ _ G (lv_sub hl [0, 1, 2, 3] rfl)
  · have hf := if_f (not_not_intro b1) hf
    refine lv_iload_n C.1 C.2.1 qm_Pg_locate_15 rfl (lv_at hl 1 rfl) ?_
    refine lv_sipush (v := 2047) C.1 C.2.1 qm_Pg_locate_16 (by decide) ?_
    refine lv_iand C.1 C.2.1 qm_Pg_locate_19 ?_
    exact q_iret (wf := (cW h K)) C G hf qm_Pg_locate_20
theorem kPg_locate {l : Launch} {ad : Nat → Nat} {D : va_G} {h : Nat → Nat} {K : Nat → ClassId} {res : Int32 × qS} {S : qS} {a1 : Int32} {a2 : Int32} {a3 : Int32} (hf : fPg_locate S a1 a2 a3 = some res) : qMi l qm_Pg_locate qm_Pg_locate_c 10 .int 1 24 D qCl (cT K) ad (cW h K) [.ref (h 4), .int a1, .int a2, .int a3] S res := qMi_of (by decide) (Nat.le_of_ble_eq_true rfl) (fun _ _ _ _ _ _ _ _ _ _ C G hl => wPg_locate C S a1 a2 a3 hf _ _ _ G hl)
set_option maxHeartbeats 4000000 in
set_option maxRecDepth 100000 in
theorem wPg_faultOf {l : Launch} {D : va_G} {h : Nat → Nat} {K : Nat → ClassId} {res : Int32 × qS} {p : Program} {e : Env} {s : State} {m : MethodId} {args : Array Value} {below : List Frame} {meth : Method} {c : Code} {A : Nat → Prop} {ad : Nat → Nat} (C : qC p s m args meth c qm_Pg_faultOf_c 1 (some .int) qR_Pg ad) (S : qS) (a0 : Int32) (hf : fPg_faultOf S a0 = some res) : ∀ (H : Heap) (locs : List Loc) (ls : Array Slot), qG D qCl (cT K) A s (cW h K S) H locs → lv_has ls 1 [(0, .int a0)] → W p l e ({ frames := 0, cells := 0, slots := 0, locals := 0 }) s m args below meth c H locs 0 0 (MQ below (qQi D qCl (cT K) (cW h K) A res) args s 0 0 A) (F0 m 0 ls []) := by
  intro H locs ls G hl
  unfold fPg_faultOf at hf
  refine lv_bipush (v := (-10)) C.1 C.2.1 qm_Pg_faultOf_0 (by decide) ?_
  refine lv_iload_n C.1 C.2.1 qm_Pg_faultOf_2 rfl (lv_at hl 0 rfl) ?_
  refine lv_isub C.1 C.2.1 qm_Pg_faultOf_3 ?_
  refine lv_bipush (v := 10) C.1 C.2.1 qm_Pg_faultOf_4 (by decide) ?_
  refine lv_idiv C.1 C.2.1 qm_Pg_faultOf_6 (by decide) ?_
  exact q_iret (wf := (cW h K)) C G hf qm_Pg_faultOf_7
theorem kPg_faultOf {l : Launch} {ad : Nat → Nat} {D : va_G} {h : Nat → Nat} {K : Nat → ClassId} {res : Int32 × qS} {S : qS} {a0 : Int32} (hf : fPg_faultOf S a0 = some res) : qMi l qm_Pg_faultOf qm_Pg_faultOf_c 1 .int 0 0 D qCl (cT K) ad (cW h K) [.int a0] S res := qMi_of (by decide) (Nat.le_of_ble_eq_true rfl) (fun _ _ _ _ _ _ _ _ _ _ C G hl => wPg_faultOf C S a0 hf _ _ _ G hl)
set_option maxHeartbeats 4000000 in
set_option maxRecDepth 100000 in
theorem wPg_flagOf {l : Launch} {D : va_G} {h : Nat → Nat} {K : Nat → ClassId} {res : Int32 × qS} {p : Program} {e : Env} {s : State} {m : MethodId} {args : Array Value} {below : List Frame} {meth : Method} {c : Code} {A : Nat → Prop} {ad : Nat → Nat} (C : qC p s m args meth c qm_Pg_flagOf_c 1 (some .int) qR_Pg ad) (S : qS) (a0 : Int32) (hf : fPg_flagOf S a0 = some res) : ∀ (H : Heap) (locs : List Loc) (ls : Array Slot), qG D qCl (cT K) A s (cW h K S) H locs → lv_has ls 1 [(0, .int a0)] → W p l e ({ frames := 0, cells := 0, slots := 0, locals := 0 }) s m args below meth c H locs 0 0 (MQ below (qQi D qCl (cT K) (cW h K) A res) args s 0 0 A) (F0 m 0 ls []) := by
  intro H locs ls G hl
  unfold fPg_flagOf at hf
  refine lv_bipush (v := (-10)) C.1 C.2.1 qm_Pg_flagOf_0 (by decide) ?_
  refine lv_iload_n C.1 C.2.1 qm_Pg_flagOf_2 rfl (lv_at hl 0 rfl) ?_
  refine lv_isub C.1 C.2.1 qm_Pg_flagOf_3 ?_
  refine lv_bipush (v := 10) C.1 C.2.1 qm_Pg_flagOf_4 (by decide) ?_
  refine lv_irem C.1 C.2.1 qm_Pg_flagOf_6 (by decide) ?_
  exact q_iret (wf := (cW h K)) C G hf qm_Pg_flagOf_7
theorem kPg_flagOf {l : Launch} {ad : Nat → Nat} {D : va_G} {h : Nat → Nat} {K : Nat → ClassId} {res : Int32 × qS} {S : qS} {a0 : Int32} (hf : fPg_flagOf S a0 = some res) : qMi l qm_Pg_flagOf qm_Pg_flagOf_c 1 .int 0 0 D qCl (cT K) ad (cW h K) [.int a0] S res := qMi_of (by decide) (Nat.le_of_ble_eq_true rfl) (fun _ _ _ _ _ _ _ _ _ _ C G hl => wPg_flagOf C S a0 hf _ _ _ G hl)
set_option maxHeartbeats 4000000 in
set_option maxRecDepth 100000 in
theorem wPg_markModified {l : Launch} {D : va_G} {h : Nat → Nat} {K : Nat → ClassId} {res : qS} {p : Program} {e : Env} {s : State} {m : MethodId} {args : Array Value} {below : List Frame} {meth : Method} {c : Code} {A : Nat → Prop} {ad : Nat → Nat} (C : qC p s m args meth c qm_Pg_markModified_c 2 none qR_Pg ad) (S : qS) (a1 : Int32) (hf : fPg_markModified S a1 = some res) : ∀ (H : Heap) (locs : List Loc) (ls : Array Slot), qG D qCl (cT K) A s (cW h K S) H locs → lv_has ls 2 [(0, .ref (h 4)), (1, .int a1)] → W p l e ({ frames := 1, cells := 0, slots := 0, locals := 22 }) s m args below meth c H locs 0 0 (MQ below (qQv D qCl (cT K) (cW h K) A res) args s 0 0 A) (F0 m 0 ls []) := by
  intro H locs ls G hl
  unfold fPg_markModified at hf
  refine lv_aload_n C.1 C.2.1 qm_Pg_markModified_0 rfl (lv_at hl 0 rfl) ?_
  refine q_get (wf := (cW h K)) (v := .ref (h 1)) C G qi_Pg 4 rfl rfl 0 (by decide) qz_109 rfl qm_Pg_markModified_1 ?_
  refine lv_iload_n C.1 C.2.1 qm_Pg_markModified_4 rfl (lv_at hl 1 rfl) ?_
  refine lv_iconst (v := 3) C.1 C.2.1 qm_Pg_markModified_5 (by decide) ?_
  refine lv_iadd C.1 C.2.1 qm_Pg_markModified_6 ?_
  refine lv_aload_n C.1 C.2.1 qm_Pg_markModified_7 rfl (lv_at hl 0 rfl) ?_
  refine q_get (wf := (cW h K)) (v := .ref (h 1)) C G qi_Pg 4 rfl rfl 0 (by decide) qz_109 rfl qm_Pg_markModified_8 ?_
  refine lv_iload_n C.1 C.2.1 qm_Pg_markModified_11 rfl (lv_at hl 1 rfl) ?_
  refine lv_iconst (v := 3) C.1 C.2.1 qm_Pg_markModified_12 (by decide) ?_
  refine lv_iadd C.1 C.2.1 qm_Pg_markModified_13 ?_
  obtain ⟨q1, c1, hf⟩ := bnd_s hf
  refine q_callVi (wf := (cW h K)) (n := 1) (As := [.int (a1 + 3)]) (q0 := 1) (ci := 5) C G hl.1 (kSt_byteAt (l := l) c1) qx_Pg_51 qm_St_byteAt_d ⟨by decide, by decide⟩ ⟨Nat.le_refl _, Nat.le_refl _⟩ rfl rfl rfl rfl rfl (Nat.le_of_ble_eq_true rfl) qm_Pg_markModified_14 (fun H locs G => ?_)
  refine lv_iconst (v := 4) C.1 C.2.1 qm_Pg_markModified_17 (by decide) ?_
  refine lv_ior C.1 C.2.1 qm_Pg_markModified_18 ?_
  obtain ⟨S2, c2, hf⟩ := bnd_s hf
  refine q_callVv (wf := (cW h K)) (n := 2) (As := [.int (a1 + 3), .int (q1.1 ||| 4)]) (q0 := 1) (ci := 5) C G hl.1 (kSt_putByte (l := l) c2) qx_Pg_54 qm_St_putByte_d ⟨by decide, by decide⟩ ⟨Nat.le_refl _, Nat.le_refl _⟩ rfl rfl rfl rfl rfl (Nat.le_of_ble_eq_true rfl) qm_Pg_markModified_19 (fun H locs G => ?_)
  exact q_vret (wf := (cW h K)) C G hf qm_Pg_markModified_22
theorem kPg_markModified {l : Launch} {ad : Nat → Nat} {D : va_G} {h : Nat → Nat} {K : Nat → ClassId} {res : qS} {S : qS} {a1 : Int32} (hf : fPg_markModified S a1 = some res) : qMv l qm_Pg_markModified qm_Pg_markModified_c 2 1 22 D qCl (cT K) ad (cW h K) [.ref (h 4), .int a1] S res := qMv_of (by decide) (Nat.le_of_ble_eq_true rfl) (fun _ _ _ _ _ _ _ _ _ _ C G hl => wPg_markModified C S a1 hf _ _ _ G hl)
