theorem qm_Sp_isNoWay_0 : decode qm_Sp_isNoWay_c 0 = .ok (.iload_n 0, 1) := by decide +kernel
theorem qm_Sp_isNoWay_1 : decode qm_Sp_isNoWay_c 1 = .ok (.bipush 11, 2) := by decide +kernel
theorem qm_Sp_isNoWay_3 : decode qm_Sp_isNoWay_c 3 = .ok (.if_icmp .le 13, 3) := by decide +kernel
theorem qm_Sp_isNoWay_6 : decode qm_Sp_isNoWay_c 6 = .ok (.iload_n 0, 1) := by decide +kernel
theorem qm_Sp_isNoWay_7 : decode qm_Sp_isNoWay_c 7 = .ok (.bipush 14, 2) := by decide +kernel
theorem qm_Sp_isNoWay_9 : decode qm_Sp_isNoWay_c 9 = .ok (.if_icmp .ge 7, 3) := by decide +kernel
theorem qm_Sp_isNoWay_12 : decode qm_Sp_isNoWay_c 12 = .ok (.iconst 1, 1) := by decide +kernel
theorem qm_Sp_isNoWay_13 : decode qm_Sp_isNoWay_c 13 = .ok (.goto 4, 3) := by decide +kernel
theorem qm_Sp_isNoWay_16 : decode qm_Sp_isNoWay_c 16 = .ok (.iconst 0, 1) := by decide +kernel
theorem qm_Sp_isNoWay_17 : decode qm_Sp_isNoWay_c 17 = .ok (.ireturn, 1) := by decide +kernel
theorem qm_Sp_isAddress_0 : decode qm_Sp_isAddress_c 0 = .ok (.iload_n 0, 1) := by decide +kernel
theorem qm_Sp_isAddress_1 : decode qm_Sp_isAddress_c 1 = .ok (.bipush 97, 2) := by decide +kernel
theorem qm_Sp_isAddress_3 : decode qm_Sp_isAddress_c 3 = .ok (.if_icmp .eq 9, 3) := by decide +kernel
theorem qm_Sp_isAddress_6 : decode qm_Sp_isAddress_c 6 = .ok (.iload_n 0, 1) := by decide +kernel
theorem qm_Sp_isAddress_7 : decode qm_Sp_isAddress_c 7 = .ok (.bipush 65, 2) := by decide +kernel
theorem qm_Sp_isAddress_9 : decode qm_Sp_isAddress_c 9 = .ok (.if_icmp .ne 7, 3) := by decide +kernel
theorem qm_Sp_isAddress_12 : decode qm_Sp_isAddress_c 12 = .ok (.iconst 1, 1) := by decide +kernel
theorem qm_Sp_isAddress_13 : decode qm_Sp_isAddress_c 13 = .ok (.goto 4, 3) := by decide +kernel
theorem qm_Sp_isAddress_16 : decode qm_Sp_isAddress_c 16 = .ok (.iconst 0, 1) := by decide +kernel
theorem qm_Sp_isAddress_17 : decode qm_Sp_isAddress_c 17 = .ok (.ireturn, 1) := by decide +kernel
theorem qm_Sp_suits_0 : decode qm_Sp_suits_c 0 = .ok (.iload_n 0, 1) := by decide +kernel
theorem qm_Sp_suits_1 : decode qm_Sp_suits_c 1 = .ok (.iconst 4, 1) := by decide +kernel
theorem qm_Sp_suits_2 : decode qm_Sp_suits_c 2 = .ok (.if_icmp .ge 21, 3) := by decide +kernel
theorem qm_Sp_suits_5 : decode qm_Sp_suits_c 5 = .ok (.iload_n 2, 1) := by decide +kernel
theorem qm_Sp_suits_6 : decode qm_Sp_suits_c 6 = .ok (.bipush 114, 2) := by decide +kernel
theorem qm_Sp_suits_8 : decode qm_Sp_suits_c 8 = .ok (.if_icmp .eq 9, 3) := by decide +kernel
theorem qm_Sp_suits_11 : decode qm_Sp_suits_c 11 = .ok (.iload_n 2, 1) := by decide +kernel
theorem qm_Sp_suits_12 : decode qm_Sp_suits_c 12 = .ok (.bipush 82, 2) := by decide +kernel
theorem qm_Sp_suits_14 : decode qm_Sp_suits_c 14 = .ok (.if_icmp .ne 7, 3) := by decide +kernel
theorem qm_Sp_suits_17 : decode qm_Sp_suits_c 17 = .ok (.iconst 1, 1) := by decide +kernel
theorem qm_Sp_suits_18 : decode qm_Sp_suits_c 18 = .ok (.goto 4, 3) := by decide +kernel
theorem qm_Sp_suits_21 : decode qm_Sp_suits_c 21 = .ok (.iconst 0, 1) := by decide +kernel
theorem qm_Sp_suits_22 : decode qm_Sp_suits_c 22 = .ok (.ireturn, 1) := by decide +kernel
theorem qm_Sp_suits_23 : decode qm_Sp_suits_c 23 = .ok (.iload_n 0, 1) := by decide +kernel
theorem qm_Sp_suits_24 : decode qm_Sp_suits_c 24 = .ok (.invokestatic 63, 3) := by decide +kernel
theorem qm_Sp_suits_27 : decode qm_Sp_suits_c 27 = .ok (.ifCond .ne 15, 3) := by decide +kernel
theorem qm_Sp_suits_30 : decode qm_Sp_suits_c 30 = .ok (.iload_n 0, 1) := by decide +kernel
theorem qm_Sp_suits_31 : decode qm_Sp_suits_c 31 = .ok (.bipush 7, 2) := by decide +kernel
theorem qm_Sp_suits_33 : decode qm_Sp_suits_c 33 = .ok (.if_icmp .gt 11, 3) := by decide +kernel
theorem qm_Sp_suits_36 : decode qm_Sp_suits_c 36 = .ok (.iload_n 1, 1) := by decide +kernel
theorem qm_Sp_suits_37 : decode qm_Sp_suits_c 37 = .ok (.bipush 15, 2) := by decide +kernel
theorem qm_Sp_suits_39 : decode qm_Sp_suits_c 39 = .ok (.if_icmp .ne 5, 3) := by decide +kernel
theorem qm_Sp_suits_42 : decode qm_Sp_suits_c 42 = .ok (.iconst 0, 1) := by decide +kernel
theorem qm_Sp_suits_43 : decode qm_Sp_suits_c 43 = .ok (.ireturn, 1) := by decide +kernel
theorem qm_Sp_suits_44 : decode qm_Sp_suits_c 44 = .ok (.iload_n 0, 1) := by decide +kernel
theorem qm_Sp_suits_45 : decode qm_Sp_suits_c 45 = .ok (.iconst 5, 1) := by decide +kernel
theorem qm_Sp_suits_46 : decode qm_Sp_suits_c 46 = .ok (.if_icmp .ne 16, 3) := by decide +kernel
theorem qm_Sp_suits_49 : decode qm_Sp_suits_c 49 = .ok (.iload_n 2, 1) := by decide +kernel
theorem qm_Sp_suits_50 : decode qm_Sp_suits_c 50 = .ok (.invokestatic 67, 3) := by decide +kernel
theorem qm_Sp_suits_53 : decode qm_Sp_suits_c 53 = .ok (.ifCond .ne 7, 3) := by decide +kernel
theorem qm_Sp_suits_56 : decode qm_Sp_suits_c 56 = .ok (.iconst 1, 1) := by decide +kernel
theorem qm_Sp_suits_57 : decode qm_Sp_suits_c 57 = .ok (.goto 4, 3) := by decide +kernel
theorem qm_Sp_suits_60 : decode qm_Sp_suits_c 60 = .ok (.iconst 0, 1) := by decide +kernel
theorem qm_Sp_suits_61 : decode qm_Sp_suits_c 61 = .ok (.ireturn, 1) := by decide +kernel
theorem qm_Sp_suits_62 : decode qm_Sp_suits_c 62 = .ok (.iload_n 0, 1) := by decide +kernel
theorem qm_Sp_suits_63 : decode qm_Sp_suits_c 63 = .ok (.bipush 8, 2) := by decide +kernel
theorem qm_Sp_suits_65 : decode qm_Sp_suits_c 65 = .ok (.if_icmp .ne 28, 3) := by decide +kernel
theorem qm_Sp_suits_68 : decode qm_Sp_suits_c 68 = .ok (.iload_n 1, 1) := by decide +kernel
theorem qm_Sp_suits_69 : decode qm_Sp_suits_c 69 = .ok (.bipush 15, 2) := by decide +kernel
theorem qm_Sp_suits_71 : decode qm_Sp_suits_c 71 = .ok (.if_icmp .ne 22, 3) := by decide +kernel
theorem qm_Sp_suits_74 : decode qm_Sp_suits_c 74 = .ok (.iload_n 2, 1) := by decide +kernel
theorem qm_Sp_suits_75 : decode qm_Sp_suits_c 75 = .ok (.bipush 114, 2) := by decide +kernel
theorem qm_Sp_suits_77 : decode qm_Sp_suits_c 77 = .ok (.if_icmp .eq 16, 3) := by decide +kernel
theorem qm_Sp_suits_80 : decode qm_Sp_suits_c 80 = .ok (.iload_n 2, 1) := by decide +kernel
theorem qm_Sp_suits_81 : decode qm_Sp_suits_c 81 = .ok (.bipush 82, 2) := by decide +kernel
theorem qm_Sp_suits_83 : decode qm_Sp_suits_c 83 = .ok (.if_icmp .eq 10, 3) := by decide +kernel
theorem qm_Sp_suits_86 : decode qm_Sp_suits_c 86 = .ok (.iload_n 2, 1) := by decide +kernel
theorem qm_Sp_suits_87 : decode qm_Sp_suits_c 87 = .ok (.invokestatic 67, 3) := by decide +kernel
theorem qm_Sp_suits_90 : decode qm_Sp_suits_c 90 = .ok (.ifCond .eq 7, 3) := by decide +kernel
theorem qm_Sp_suits_93 : decode qm_Sp_suits_c 93 = .ok (.iconst 1, 1) := by decide +kernel
theorem qm_Sp_suits_94 : decode qm_Sp_suits_c 94 = .ok (.goto 4, 3) := by decide +kernel
theorem qm_Sp_suits_97 : decode qm_Sp_suits_c 97 = .ok (.iconst 0, 1) := by decide +kernel
theorem qm_Sp_suits_98 : decode qm_Sp_suits_c 98 = .ok (.ireturn, 1) := by decide +kernel
theorem qm_Sp_suitsBehindIndexed_0 : decode qm_Sp_suitsBehindIndexed_c 0 = .ok (.iload_n 0, 1) := by decide +kernel
theorem qm_Sp_suitsBehindIndexed_1 : decode qm_Sp_suitsBehindIndexed_c 1 = .ok (.bipush 6, 2) := by decide +kernel
theorem qm_Sp_suitsBehindIndexed_3 : decode qm_Sp_suitsBehindIndexed_c 3 = .ok (.if_icmp .lt 26, 3) := by decide +kernel
theorem qm_Sp_suitsBehindIndexed_6 : decode qm_Sp_suitsBehindIndexed_c 6 = .ok (.iload_n 0, 1) := by decide +kernel
theorem qm_Sp_suitsBehindIndexed_7 : decode qm_Sp_suitsBehindIndexed_c 7 = .ok (.invokestatic 63, 3) := by decide +kernel
theorem qm_Sp_suitsBehindIndexed_10 : decode qm_Sp_suitsBehindIndexed_c 10 = .ok (.ifCond .ne 19, 3) := by decide +kernel
theorem qm_Sp_suitsBehindIndexed_13 : decode qm_Sp_suitsBehindIndexed_c 13 = .ok (.iload_n 0, 1) := by decide +kernel
theorem qm_Sp_suitsBehindIndexed_14 : decode qm_Sp_suitsBehindIndexed_c 14 = .ok (.bipush 8, 2) := by decide +kernel
theorem qm_Sp_suitsBehindIndexed_16 : decode qm_Sp_suitsBehindIndexed_c 16 = .ok (.if_icmp .gt 9, 3) := by decide +kernel
theorem qm_Sp_suitsBehindIndexed_19 : decode qm_Sp_suitsBehindIndexed_c 19 = .ok (.iload_n 1, 1) := by decide +kernel
theorem qm_Sp_suitsBehindIndexed_20 : decode qm_Sp_suitsBehindIndexed_c 20 = .ok (.bipush 15, 2) := by decide +kernel
theorem qm_Sp_suitsBehindIndexed_22 : decode qm_Sp_suitsBehindIndexed_c 22 = .ok (.if_icmp .eq 7, 3) := by decide +kernel
theorem qm_Sp_suitsBehindIndexed_25 : decode qm_Sp_suitsBehindIndexed_c 25 = .ok (.iconst 1, 1) := by decide +kernel
theorem qm_Sp_suitsBehindIndexed_26 : decode qm_Sp_suitsBehindIndexed_c 26 = .ok (.goto 4, 3) := by decide +kernel
theorem qm_Sp_suitsBehindIndexed_29 : decode qm_Sp_suitsBehindIndexed_c 29 = .ok (.iconst 0, 1) := by decide +kernel
theorem qm_Sp_suitsBehindIndexed_30 : decode qm_Sp_suitsBehindIndexed_c 30 = .ok (.ireturn, 1) := by decide +kernel
theorem qm_Sp_addressBy_0 : decode qm_Sp_addressBy_c 0 = .ok (.aload_n 0, 1) := by decide +kernel
theorem qm_Sp_addressBy_1 : decode qm_Sp_addressBy_c 1 = .ok (.getfield 9, 3) := by decide +kernel
theorem qm_Sp_addressBy_4 : decode qm_Sp_addressBy_c 4 = .ok (.iload_n 2, 1) := by decide +kernel
theorem qm_Sp_addressBy_5 : decode qm_Sp_addressBy_c 5 = .ok (.invokevirtual 41, 3) := by decide +kernel
theorem qm_Sp_addressBy_8 : decode qm_Sp_addressBy_c 8 = .ok (.istore 4, 2) := by decide +kernel
theorem qm_Sp_addressBy_10 : decode qm_Sp_addressBy_c 10 = .ok (.iload_n 1, 1) := by decide +kernel
theorem qm_Sp_addressBy_11 : decode qm_Sp_addressBy_c 11 = .ok (.tableswitch 87 6 9 #[29, 32, 49, 64], 29) := by decide +kernel
theorem qm_Sp_addressBy_40 : decode qm_Sp_addressBy_c 40 = .ok (.iload 4, 2) := by decide +kernel
theorem qm_Sp_addressBy_42 : decode qm_Sp_addressBy_c 42 = .ok (.ireturn, 1) := by decide +kernel
theorem qm_Sp_addressBy_43 : decode qm_Sp_addressBy_c 43 = .ok (.aload_n 0, 1) := by decide +kernel
theorem qm_Sp_addressBy_44 : decode qm_Sp_addressBy_c 44 = .ok (.getfield 9, 3) := by decide +kernel
theorem qm_Sp_addressBy_47 : decode qm_Sp_addressBy_c 47 = .ok (.iload_n 2, 1) := by decide +kernel
theorem qm_Sp_addressBy_48 : decode qm_Sp_addressBy_c 48 = .ok (.iload 4, 2) := by decide +kernel
theorem qm_Sp_addressBy_50 : decode qm_Sp_addressBy_c 50 = .ok (.iload_n 3, 1) := by decide +kernel
theorem qm_Sp_addressBy_51 : decode qm_Sp_addressBy_c 51 = .ok (.isub, 1) := by decide +kernel
theorem qm_Sp_addressBy_52 : decode qm_Sp_addressBy_c 52 = .ok (.invokevirtual 70, 3) := by decide +kernel
theorem qm_Sp_addressBy_55 : decode qm_Sp_addressBy_c 55 = .ok (.iload 4, 2) := by decide +kernel
theorem qm_Sp_addressBy_57 : decode qm_Sp_addressBy_c 57 = .ok (.iload_n 3, 1) := by decide +kernel
theorem qm_Sp_addressBy_58 : decode qm_Sp_addressBy_c 58 = .ok (.isub, 1) := by decide +kernel
theorem qm_Sp_addressBy_59 : decode qm_Sp_addressBy_c 59 = .ok (.ireturn, 1) := by decide +kernel
theorem qm_Sp_addressBy_60 : decode qm_Sp_addressBy_c 60 = .ok (.aload_n 0, 1) := by decide +kernel
theorem qm_Sp_addressBy_61 : decode qm_Sp_addressBy_c 61 = .ok (.getfield 9, 3) := by decide +kernel
theorem qm_Sp_addressBy_64 : decode qm_Sp_addressBy_c 64 = .ok (.iload_n 2, 1) := by decide +kernel
theorem qm_Sp_addressBy_65 : decode qm_Sp_addressBy_c 65 = .ok (.iload 4, 2) := by decide +kernel
theorem qm_Sp_addressBy_67 : decode qm_Sp_addressBy_c 67 = .ok (.iload_n 3, 1) := by decide +kernel
theorem qm_Sp_addressBy_68 : decode qm_Sp_addressBy_c 68 = .ok (.iadd, 1) := by decide +kernel
theorem qm_Sp_addressBy_69 : decode qm_Sp_addressBy_c 69 = .ok (.invokevirtual 70, 3) := by decide +kernel
theorem qm_Sp_addressBy_72 : decode qm_Sp_addressBy_c 72 = .ok (.iload 4, 2) := by decide +kernel
theorem qm_Sp_addressBy_74 : decode qm_Sp_addressBy_c 74 = .ok (.ireturn, 1) := by decide +kernel
theorem qm_Sp_addressBy_75 : decode qm_Sp_addressBy_c 75 = .ok (.aload_n 0, 1) := by decide +kernel
theorem qm_Sp_addressBy_76 : decode qm_Sp_addressBy_c 76 = .ok (.getfield 9, 3) := by decide +kernel
theorem qm_Sp_addressBy_79 : decode qm_Sp_addressBy_c 79 = .ok (.iload_n 2, 1) := by decide +kernel
theorem qm_Sp_addressBy_80 : decode qm_Sp_addressBy_c 80 = .ok (.iload 4, 2) := by decide +kernel
theorem qm_Sp_addressBy_82 : decode qm_Sp_addressBy_c 82 = .ok (.iconst 4, 1) := by decide +kernel
theorem qm_Sp_addressBy_83 : decode qm_Sp_addressBy_c 83 = .ok (.iadd, 1) := by decide +kernel
theorem qm_Sp_addressBy_84 : decode qm_Sp_addressBy_c 84 = .ok (.invokevirtual 70, 3) := by decide +kernel
theorem qm_Sp_addressBy_87 : decode qm_Sp_addressBy_c 87 = .ok (.aload_n 0, 1) := by decide +kernel
theorem qm_Sp_addressBy_88 : decode qm_Sp_addressBy_c 88 = .ok (.getfield 9, 3) := by decide +kernel
theorem qm_Sp_addressBy_91 : decode qm_Sp_addressBy_c 91 = .ok (.iload 4, 2) := by decide +kernel
theorem qm_Sp_addressBy_93 : decode qm_Sp_addressBy_c 93 = .ok (.iconst 4, 1) := by decide +kernel
theorem qm_Sp_addressBy_94 : decode qm_Sp_addressBy_c 94 = .ok (.invokevirtual 59, 3) := by decide +kernel
theorem qm_Sp_addressBy_97 : decode qm_Sp_addressBy_c 97 = .ok (.ireturn, 1) := by decide +kernel
theorem qm_Sp_addressBy_98 : decode qm_Sp_addressBy_c 98 = .ok (.iload_n 1, 1) := by decide +kernel
theorem qm_Sp_addressBy_99 : decode qm_Sp_addressBy_c 99 = .ok (.bipush 14, 2) := by decide +kernel
theorem qm_Sp_addressBy_101 : decode qm_Sp_addressBy_c 101 = .ok (.if_icmp .ge 15, 3) := by decide +kernel
theorem qm_Sp_addressBy_104 : decode qm_Sp_addressBy_c 104 = .ok (.aload_n 0, 1) := by decide +kernel
theorem qm_Sp_addressBy_105 : decode qm_Sp_addressBy_c 105 = .ok (.getfield 9, 3) := by decide +kernel
theorem qm_Sp_addressBy_108 : decode qm_Sp_addressBy_c 108 = .ok (.iconst 1, 1) := by decide +kernel
theorem qm_Sp_addressBy_109 : decode qm_Sp_addressBy_c 109 = .ok (.invokevirtual 24, 3) := by decide +kernel
theorem qm_Sp_addressBy_112 : decode qm_Sp_addressBy_c 112 = .ok (.i2b, 1) := by decide +kernel
theorem qm_Sp_addressBy_113 : decode qm_Sp_addressBy_c 113 = .ok (.goto 11, 3) := by decide +kernel
theorem qm_Sp_addressBy_116 : decode qm_Sp_addressBy_c 116 = .ok (.aload_n 0, 1) := by decide +kernel
theorem qm_Sp_addressBy_117 : decode qm_Sp_addressBy_c 117 = .ok (.getfield 9, 3) := by decide +kernel
theorem qm_Sp_addressBy_120 : decode qm_Sp_addressBy_c 120 = .ok (.iconst 4, 1) := by decide +kernel
theorem qm_Sp_addressBy_121 : decode qm_Sp_addressBy_c 121 = .ok (.invokevirtual 24, 3) := by decide +kernel
theorem qm_Sp_addressBy_124 : decode qm_Sp_addressBy_c 124 = .ok (.istore 5, 2) := by decide +kernel
theorem qm_Sp_addressBy_126 : decode qm_Sp_addressBy_c 126 = .ok (.aload_n 0, 1) := by decide +kernel
theorem qm_Sp_addressBy_127 : decode qm_Sp_addressBy_c 127 = .ok (.getfield 9, 3) := by decide +kernel
theorem qm_Sp_addressBy_130 : decode qm_Sp_addressBy_c 130 = .ok (.iload_n 2, 1) := by decide +kernel
theorem qm_Sp_addressBy_131 : decode qm_Sp_addressBy_c 131 = .ok (.invokevirtual 41, 3) := by decide +kernel
theorem qm_Sp_addressBy_134 : decode qm_Sp_addressBy_c 134 = .ok (.iload 5, 2) := by decide +kernel
theorem qm_Sp_addressBy_136 : decode qm_Sp_addressBy_c 136 = .ok (.iadd, 1) := by decide +kernel
theorem qm_Sp_addressBy_137 : decode qm_Sp_addressBy_c 137 = .ok (.istore 6, 2) := by decide +kernel
theorem qm_Sp_addressBy_139 : decode qm_Sp_addressBy_c 139 = .ok (.iload_n 1, 1) := by decide +kernel
theorem qm_Sp_addressBy_140 : decode qm_Sp_addressBy_c 140 = .ok (.bipush 10, 2) := by decide +kernel
theorem qm_Sp_addressBy_142 : decode qm_Sp_addressBy_c 142 = .ok (.if_icmp .eq 9, 3) := by decide +kernel
theorem qm_Sp_addressBy_145 : decode qm_Sp_addressBy_c 145 = .ok (.iload_n 1, 1) := by decide +kernel
theorem qm_Sp_addressBy_146 : decode qm_Sp_addressBy_c 146 = .ok (.bipush 14, 2) := by decide +kernel
theorem qm_Sp_addressBy_148 : decode qm_Sp_addressBy_c 148 = .ok (.if_icmp .ne 8, 3) := by decide +kernel
theorem qm_Sp_addressBy_151 : decode qm_Sp_addressBy_c 151 = .ok (.iload 6, 2) := by decide +kernel
theorem qm_Sp_addressBy_153 : decode qm_Sp_addressBy_c 153 = .ok (.goto 13, 3) := by decide +kernel
theorem qm_Sp_addressBy_156 : decode qm_Sp_addressBy_c 156 = .ok (.aload_n 0, 1) := by decide +kernel
theorem qm_Sp_addressBy_157 : decode qm_Sp_addressBy_c 157 = .ok (.getfield 9, 3) := by decide +kernel
theorem qm_Sp_addressBy_160 : decode qm_Sp_addressBy_c 160 = .ok (.iload 6, 2) := by decide +kernel
theorem qm_Sp_addressBy_162 : decode qm_Sp_addressBy_c 162 = .ok (.iconst 4, 1) := by decide +kernel
theorem qm_Sp_addressBy_163 : decode qm_Sp_addressBy_c 163 = .ok (.invokevirtual 59, 3) := by decide +kernel
theorem qm_Sp_addressBy_166 : decode qm_Sp_addressBy_c 166 = .ok (.ireturn, 1) := by decide +kernel
theorem qm_Sp_isRead_0 : decode qm_Sp_isRead_c 0 = .ok (.iload_n 0, 1) := by decide +kernel
theorem qm_Sp_isRead_1 : decode qm_Sp_isRead_c 1 = .ok (.bipush 114, 2) := by decide +kernel
theorem qm_Sp_isRead_3 : decode qm_Sp_isRead_c 3 = .ok (.if_icmp .eq 21, 3) := by decide +kernel
theorem qm_Sp_isRead_6 : decode qm_Sp_isRead_c 6 = .ok (.iload_n 0, 1) := by decide +kernel
theorem qm_Sp_isRead_7 : decode qm_Sp_isRead_c 7 = .ok (.bipush 82, 2) := by decide +kernel
theorem qm_Sp_isRead_9 : decode qm_Sp_isRead_c 9 = .ok (.if_icmp .eq 15, 3) := by decide +kernel
theorem qm_Sp_isRead_12 : decode qm_Sp_isRead_c 12 = .ok (.iload_n 0, 1) := by decide +kernel
theorem qm_Sp_isRead_13 : decode qm_Sp_isRead_c 13 = .ok (.bipush 109, 2) := by decide +kernel
theorem qm_Sp_isRead_15 : decode qm_Sp_isRead_c 15 = .ok (.if_icmp .eq 9, 3) := by decide +kernel
theorem qm_Sp_isRead_18 : decode qm_Sp_isRead_c 18 = .ok (.iload_n 0, 1) := by decide +kernel
theorem qm_Sp_isRead_19 : decode qm_Sp_isRead_c 19 = .ok (.bipush 77, 2) := by decide +kernel
theorem qm_Sp_isRead_21 : decode qm_Sp_isRead_c 21 = .ok (.if_icmp .ne 7, 3) := by decide +kernel
theorem qm_Sp_isRead_24 : decode qm_Sp_isRead_c 24 = .ok (.iconst 1, 1) := by decide +kernel
theorem qm_Sp_isRead_25 : decode qm_Sp_isRead_c 25 = .ok (.goto 4, 3) := by decide +kernel
theorem qm_Sp_isRead_28 : decode qm_Sp_isRead_c 28 = .ok (.iconst 0, 1) := by decide +kernel
theorem qm_Sp_isRead_29 : decode qm_Sp_isRead_c 29 = .ok (.ireturn, 1) := by decide +kernel
theorem qm_Sp_find_0 : decode qm_Sp_find_c 0 = .ok (.aload_n 1, 1) := by decide +kernel
theorem qm_Sp_find_1 : decode qm_Sp_find_c 1 = .ok (.iconst (-1), 1) := by decide +kernel
theorem qm_Sp_find_2 : decode qm_Sp_find_c 2 = .ok (.putfield 15, 3) := by decide +kernel
theorem qm_Sp_find_5 : decode qm_Sp_find_c 5 = .ok (.aload_n 1, 1) := by decide +kernel
theorem qm_Sp_find_6 : decode qm_Sp_find_c 6 = .ok (.iload_n 2, 1) := by decide +kernel
theorem qm_Sp_find_7 : decode qm_Sp_find_c 7 = .ok (.bipush 97, 2) := by decide +kernel
theorem qm_Sp_find_9 : decode qm_Sp_find_c 9 = .ok (.if_icmp .ge 7, 3) := by decide +kernel
theorem qm_Sp_find_12 : decode qm_Sp_find_c 12 = .ok (.iconst 4, 1) := by decide +kernel
theorem qm_Sp_find_13 : decode qm_Sp_find_c 13 = .ok (.goto 4, 3) := by decide +kernel
theorem qm_Sp_find_16 : decode qm_Sp_find_c 16 = .ok (.iconst 1, 1) := by decide +kernel
theorem qm_Sp_find_17 : decode qm_Sp_find_c 17 = .ok (.putfield 21, 3) := by decide +kernel
theorem qm_Sp_find_20 : decode qm_Sp_find_c 20 = .ok (.iload_n 2, 1) := by decide +kernel
theorem qm_Sp_find_21 : decode qm_Sp_find_c 21 = .ok (.bipush 100, 2) := by decide +kernel
theorem qm_Sp_find_23 : decode qm_Sp_find_c 23 = .ok (.if_icmp .ne 17, 3) := by decide +kernel
theorem qm_Sp_find_26 : decode qm_Sp_find_c 26 = .ok (.aload_n 1, 1) := by decide +kernel
theorem qm_Sp_find_27 : decode qm_Sp_find_c 27 = .ok (.aload_n 0, 1) := by decide +kernel
theorem qm_Sp_find_28 : decode qm_Sp_find_c 28 = .ok (.getfield 9, 3) := by decide +kernel
theorem qm_Sp_find_31 : decode qm_Sp_find_c 31 = .ok (.iconst 1, 1) := by decide +kernel
theorem qm_Sp_find_32 : decode qm_Sp_find_c 32 = .ok (.invokevirtual 24, 3) := by decide +kernel
theorem qm_Sp_find_35 : decode qm_Sp_find_c 35 = .ok (.i2b, 1) := by decide +kernel
theorem qm_Sp_find_36 : decode qm_Sp_find_c 36 = .ok (.putfield 30, 3) := by decide +kernel
theorem qm_Sp_find_39 : decode qm_Sp_find_c 39 = .ok (.return_, 1) := by decide +kernel
theorem qm_Sp_find_40 : decode qm_Sp_find_c 40 = .ok (.aload_n 0, 1) := by decide +kernel
theorem qm_Sp_find_41 : decode qm_Sp_find_c 41 = .ok (.getfield 9, 3) := by decide +kernel
theorem qm_Sp_find_44 : decode qm_Sp_find_c 44 = .ok (.iconst 1, 1) := by decide +kernel
theorem qm_Sp_find_45 : decode qm_Sp_find_c 45 = .ok (.invokevirtual 24, 3) := by decide +kernel
theorem qm_Sp_find_48 : decode qm_Sp_find_c 48 = .ok (.istore_n 3, 1) := by decide +kernel
theorem qm_Sp_find_49 : decode qm_Sp_find_c 49 = .ok (.iload_n 3, 1) := by decide +kernel
theorem qm_Sp_find_50 : decode qm_Sp_find_c 50 = .ok (.iconst 4, 1) := by decide +kernel
theorem qm_Sp_find_51 : decode qm_Sp_find_c 51 = .ok (.iushr, 1) := by decide +kernel
theorem qm_Sp_find_52 : decode qm_Sp_find_c 52 = .ok (.istore 4, 2) := by decide +kernel
theorem qm_Sp_find_54 : decode qm_Sp_find_c 54 = .ok (.iload_n 3, 1) := by decide +kernel
theorem qm_Sp_find_55 : decode qm_Sp_find_c 55 = .ok (.bipush 15, 2) := by decide +kernel
theorem qm_Sp_find_57 : decode qm_Sp_find_c 57 = .ok (.iand, 1) := by decide +kernel
theorem qm_Sp_find_58 : decode qm_Sp_find_c 58 = .ok (.istore 5, 2) := by decide +kernel
theorem qm_Sp_find_60 : decode qm_Sp_find_c 60 = .ok (.iload 4, 2) := by decide +kernel
theorem qm_Sp_find_62 : decode qm_Sp_find_c 62 = .ok (.iload 5, 2) := by decide +kernel
theorem qm_Sp_find_64 : decode qm_Sp_find_c 64 = .ok (.iload_n 2, 1) := by decide +kernel
theorem qm_Sp_find_65 : decode qm_Sp_find_c 65 = .ok (.invokestatic 33, 3) := by decide +kernel
theorem qm_Sp_find_68 : decode qm_Sp_find_c 68 = .ok (.ifCond .ne 14, 3) := by decide +kernel
theorem qm_Sp_find_71 : decode qm_Sp_find_c 71 = .ok (.aload_n 0, 1) := by decide +kernel
theorem qm_Sp_find_72 : decode qm_Sp_find_c 72 = .ok (.getfield 9, 3) := by decide +kernel
theorem qm_Sp_find_75 : decode qm_Sp_find_c 75 = .ok (.iconst 3, 1) := by decide +kernel
theorem qm_Sp_find_76 : decode qm_Sp_find_c 76 = .ok (.invokevirtual 37, 3) := by decide +kernel
theorem qm_Sp_find_79 : decode qm_Sp_find_c 79 = .ok (.goto 199, 3) := by decide +kernel
theorem qm_Sp_find_82 : decode qm_Sp_find_c 82 = .ok (.iload 4, 2) := by decide +kernel
theorem qm_Sp_find_84 : decode qm_Sp_find_c 84 = .ok (.iconst 4, 1) := by decide +kernel
theorem qm_Sp_find_85 : decode qm_Sp_find_c 85 = .ok (.if_icmp .ge 11, 3) := by decide +kernel
theorem qm_Sp_find_88 : decode qm_Sp_find_c 88 = .ok (.aload_n 1, 1) := by decide +kernel
theorem qm_Sp_find_89 : decode qm_Sp_find_c 89 = .ok (.iload_n 3, 1) := by decide +kernel
theorem qm_Sp_find_90 : decode qm_Sp_find_c 90 = .ok (.putfield 30, 3) := by decide +kernel
theorem qm_Sp_find_93 : decode qm_Sp_find_c 93 = .ok (.goto 185, 3) := by decide +kernel
theorem qm_Sp_find_96 : decode qm_Sp_find_c 96 = .ok (.iload 4, 2) := by decide +kernel
theorem qm_Sp_find_98 : decode qm_Sp_find_c 98 = .ok (.iconst 5, 1) := by decide +kernel
theorem qm_Sp_find_99 : decode qm_Sp_find_c 99 = .ok (.if_icmp .ne 49, 3) := by decide +kernel
theorem qm_Sp_find_102 : decode qm_Sp_find_c 102 = .ok (.aload_n 1, 1) := by decide +kernel
theorem qm_Sp_find_103 : decode qm_Sp_find_c 103 = .ok (.iload 5, 2) := by decide +kernel
theorem qm_Sp_find_105 : decode qm_Sp_find_c 105 = .ok (.putfield 15, 3) := by decide +kernel
theorem qm_Sp_find_108 : decode qm_Sp_find_c 108 = .ok (.aload_n 1, 1) := by decide +kernel
theorem qm_Sp_find_109 : decode qm_Sp_find_c 109 = .ok (.aload_n 1, 1) := by decide +kernel
theorem qm_Sp_find_110 : decode qm_Sp_find_c 110 = .ok (.getfield 21, 3) := by decide +kernel
theorem qm_Sp_find_113 : decode qm_Sp_find_c 113 = .ok (.iconst 1, 1) := by decide +kernel
theorem qm_Sp_find_114 : decode qm_Sp_find_c 114 = .ok (.if_icmp .ne 19, 3) := by decide +kernel
theorem qm_Sp_find_117 : decode qm_Sp_find_c 117 = .ok (.aload_n 0, 1) := by decide +kernel
theorem qm_Sp_find_118 : decode qm_Sp_find_c 118 = .ok (.getfield 9, 3) := by decide +kernel
theorem qm_Sp_find_121 : decode qm_Sp_find_c 121 = .ok (.iload 5, 2) := by decide +kernel
theorem qm_Sp_find_123 : decode qm_Sp_find_c 123 = .ok (.invokevirtual 41, 3) := by decide +kernel
theorem qm_Sp_find_126 : decode qm_Sp_find_c 126 = .ok (.sipush 255, 3) := by decide +kernel
theorem qm_Sp_find_129 : decode qm_Sp_find_c 129 = .ok (.iand, 1) := by decide +kernel
theorem qm_Sp_find_130 : decode qm_Sp_find_c 130 = .ok (.goto 12, 3) := by decide +kernel
theorem qm_Sp_find_133 : decode qm_Sp_find_c 133 = .ok (.aload_n 0, 1) := by decide +kernel
theorem qm_Sp_find_134 : decode qm_Sp_find_c 134 = .ok (.getfield 9, 3) := by decide +kernel
theorem qm_Sp_find_137 : decode qm_Sp_find_c 137 = .ok (.iload 5, 2) := by decide +kernel
theorem qm_Sp_find_139 : decode qm_Sp_find_c 139 = .ok (.invokevirtual 41, 3) := by decide +kernel
theorem qm_Sp_find_142 : decode qm_Sp_find_c 142 = .ok (.putfield 30, 3) := by decide +kernel
theorem qm_Sp_find_145 : decode qm_Sp_find_c 145 = .ok (.goto 133, 3) := by decide +kernel
theorem qm_Sp_find_148 : decode qm_Sp_find_c 148 = .ok (.iload 4, 2) := by decide +kernel
theorem qm_Sp_find_150 : decode qm_Sp_find_c 150 = .ok (.iconst 4, 1) := by decide +kernel
theorem qm_Sp_find_151 : decode qm_Sp_find_c 151 = .ok (.if_icmp .ne 14, 3) := by decide +kernel
theorem qm_Sp_find_154 : decode qm_Sp_find_c 154 = .ok (.aload_n 0, 1) := by decide +kernel
theorem qm_Sp_find_155 : decode qm_Sp_find_c 155 = .ok (.getfield 9, 3) := by decide +kernel
theorem qm_Sp_find_158 : decode qm_Sp_find_c 158 = .ok (.iconst 1, 1) := by decide +kernel
theorem qm_Sp_find_159 : decode qm_Sp_find_c 159 = .ok (.invokevirtual 24, 3) := by decide +kernel
theorem qm_Sp_find_162 : decode qm_Sp_find_c 162 = .ok (.goto 4, 3) := by decide +kernel
theorem qm_Sp_find_165 : decode qm_Sp_find_c 165 = .ok (.iload_n 3, 1) := by decide +kernel
theorem qm_Sp_find_166 : decode qm_Sp_find_c 166 = .ok (.istore 6, 2) := by decide +kernel
theorem qm_Sp_find_168 : decode qm_Sp_find_c 168 = .ok (.iload 4, 2) := by decide +kernel
theorem qm_Sp_find_170 : decode qm_Sp_find_c 170 = .ok (.iconst 4, 1) := by decide +kernel
theorem qm_Sp_find_171 : decode qm_Sp_find_c 171 = .ok (.if_icmp .ne 27, 3) := by decide +kernel
theorem qm_Sp_find_174 : decode qm_Sp_find_c 174 = .ok (.iload 6, 2) := by decide +kernel
theorem qm_Sp_find_176 : decode qm_Sp_find_c 176 = .ok (.iconst 4, 1) := by decide +kernel
theorem qm_Sp_find_177 : decode qm_Sp_find_c 177 = .ok (.iushr, 1) := by decide +kernel
theorem qm_Sp_find_178 : decode qm_Sp_find_c 178 = .ok (.iload 6, 2) := by decide +kernel
theorem qm_Sp_find_180 : decode qm_Sp_find_c 180 = .ok (.bipush 15, 2) := by decide +kernel
theorem qm_Sp_find_182 : decode qm_Sp_find_c 182 = .ok (.iand, 1) := by decide +kernel
theorem qm_Sp_find_183 : decode qm_Sp_find_c 183 = .ok (.invokestatic 44, 3) := by decide +kernel
theorem qm_Sp_find_186 : decode qm_Sp_find_c 186 = .ok (.ifCond .ne 12, 3) := by decide +kernel
theorem qm_Sp_find_189 : decode qm_Sp_find_c 189 = .ok (.aload_n 0, 1) := by decide +kernel
theorem qm_Sp_find_190 : decode qm_Sp_find_c 190 = .ok (.getfield 9, 3) := by decide +kernel
theorem qm_Sp_find_193 : decode qm_Sp_find_c 193 = .ok (.iconst 3, 1) := by decide +kernel
theorem qm_Sp_find_194 : decode qm_Sp_find_c 194 = .ok (.invokevirtual 37, 3) := by decide +kernel
theorem qm_Sp_find_197 : decode qm_Sp_find_c 197 = .ok (.return_, 1) := by decide +kernel
theorem qm_Sp_find_198 : decode qm_Sp_find_c 198 = .ok (.aload_n 1, 1) := by decide +kernel
theorem qm_Sp_find_199 : decode qm_Sp_find_c 199 = .ok (.aload_n 0, 1) := by decide +kernel
theorem qm_Sp_find_200 : decode qm_Sp_find_c 200 = .ok (.iload 6, 2) := by decide +kernel
theorem qm_Sp_find_202 : decode qm_Sp_find_c 202 = .ok (.iconst 4, 1) := by decide +kernel
theorem qm_Sp_find_203 : decode qm_Sp_find_c 203 = .ok (.iushr, 1) := by decide +kernel
theorem qm_Sp_find_204 : decode qm_Sp_find_c 204 = .ok (.iload 6, 2) := by decide +kernel
theorem qm_Sp_find_206 : decode qm_Sp_find_c 206 = .ok (.bipush 15, 2) := by decide +kernel
theorem qm_Sp_find_208 : decode qm_Sp_find_c 208 = .ok (.iand, 1) := by decide +kernel
theorem qm_Sp_find_209 : decode qm_Sp_find_c 209 = .ok (.aload_n 1, 1) := by decide +kernel
theorem qm_Sp_find_210 : decode qm_Sp_find_c 210 = .ok (.getfield 21, 3) := by decide +kernel
theorem qm_Sp_find_213 : decode qm_Sp_find_c 213 = .ok (.invokevirtual 48, 3) := by decide +kernel
theorem qm_Sp_find_216 : decode qm_Sp_find_c 216 = .ok (.putfield 52, 3) := by decide +kernel
theorem qm_Sp_find_219 : decode qm_Sp_find_c 219 = .ok (.iload 4, 2) := by decide +kernel
theorem qm_Sp_find_221 : decode qm_Sp_find_c 221 = .ok (.iconst 4, 1) := by decide +kernel
theorem qm_Sp_find_222 : decode qm_Sp_find_c 222 = .ok (.if_icmp .ne 26, 3) := by decide +kernel
theorem qm_Sp_find_225 : decode qm_Sp_find_c 225 = .ok (.aload_n 1, 1) := by decide +kernel
theorem qm_Sp_find_226 : decode qm_Sp_find_c 226 = .ok (.dup, 1) := by decide +kernel
theorem qm_Sp_find_227 : decode qm_Sp_find_c 227 = .ok (.getfield 52, 3) := by decide +kernel
theorem qm_Sp_find_230 : decode qm_Sp_find_c 230 = .ok (.aload_n 1, 1) := by decide +kernel
theorem qm_Sp_find_231 : decode qm_Sp_find_c 231 = .ok (.getfield 21, 3) := by decide +kernel
theorem qm_Sp_find_234 : decode qm_Sp_find_c 234 = .ok (.aload_n 0, 1) := by decide +kernel
theorem qm_Sp_find_235 : decode qm_Sp_find_c 235 = .ok (.getfield 9, 3) := by decide +kernel
theorem qm_Sp_find_238 : decode qm_Sp_find_c 238 = .ok (.iload 5, 2) := by decide +kernel
theorem qm_Sp_find_240 : decode qm_Sp_find_c 240 = .ok (.invokevirtual 41, 3) := by decide +kernel
theorem qm_Sp_find_243 : decode qm_Sp_find_c 243 = .ok (.imul, 1) := by decide +kernel
theorem qm_Sp_find_244 : decode qm_Sp_find_c 244 = .ok (.iadd, 1) := by decide +kernel
theorem qm_Sp_find_245 : decode qm_Sp_find_c 245 = .ok (.putfield 52, 3) := by decide +kernel
theorem qm_Sp_find_248 : decode qm_Sp_find_c 248 = .ok (.aload_n 1, 1) := by decide +kernel
theorem qm_Sp_find_249 : decode qm_Sp_find_c 249 = .ok (.iload_n 2, 1) := by decide +kernel
theorem qm_Sp_find_250 : decode qm_Sp_find_c 250 = .ok (.invokestatic 55, 3) := by decide +kernel
theorem qm_Sp_find_253 : decode qm_Sp_find_c 253 = .ok (.ifCond .eq 21, 3) := by decide +kernel
theorem qm_Sp_find_256 : decode qm_Sp_find_c 256 = .ok (.aload_n 0, 1) := by decide +kernel
theorem qm_Sp_find_257 : decode qm_Sp_find_c 257 = .ok (.getfield 9, 3) := by decide +kernel
theorem qm_Sp_find_260 : decode qm_Sp_find_c 260 = .ok (.aload_n 1, 1) := by decide +kernel
theorem qm_Sp_find_261 : decode qm_Sp_find_c 261 = .ok (.getfield 52, 3) := by decide +kernel
theorem qm_Sp_find_264 : decode qm_Sp_find_c 264 = .ok (.aload_n 1, 1) := by decide +kernel
theorem qm_Sp_find_265 : decode qm_Sp_find_c 265 = .ok (.getfield 21, 3) := by decide +kernel
theorem qm_Sp_find_268 : decode qm_Sp_find_c 268 = .ok (.invokevirtual 59, 3) := by decide +kernel
theorem qm_Sp_find_271 : decode qm_Sp_find_c 271 = .ok (.goto 4, 3) := by decide +kernel
theorem qm_Sp_find_274 : decode qm_Sp_find_c 274 = .ok (.iconst 0, 1) := by decide +kernel
theorem qm_Sp_find_275 : decode qm_Sp_find_c 275 = .ok (.putfield 30, 3) := by decide +kernel
theorem qm_Sp_find_278 : decode qm_Sp_find_c 278 = .ok (.return_, 1) := by decide +kernel
set_option maxHeartbeats 4000000 in
set_option maxRecDepth 100000 in
theorem wSp_isNoWay_17 {l : Launch} {D : va_G} {h : Nat → Nat} {K : Nat → ClassId} {res : Int32 × qS} {p : Program} {e : Env} {s : State} {m : MethodId} {args : Array Value} {below : List Frame} {meth : Method} {c : Code} {A : Nat → Prop} {ad : Nat → Nat} (C : qC p s m args meth c qm_Sp_isNoWay_c 1 (some .boolean) qR_Sp ad) (S : qS) (y0 : Int32) (hf : fSp_isNoWay_17 S y0 = some res) : ∀ (H : Heap) (locs : List Loc) (ls : Array Slot), qG D qCl (cT K) A s (cW h K S) H locs → lv_has ls 1 [] → W p l e ({ frames := 0, cells := 0, slots := 0, locals := 0 }) s m args below meth c H locs 0 0 (MQ below (qQi D qCl (cT K) (cW h K) A res) args s 0 0 A) (F0 m 17 ls [.int y0]) := by
  intro H locs ls G hl
  unfold fSp_isNoWay_17 at hf
  exact q_zret (wf := (cW h K)) C G hf qm_Sp_isNoWay_17
set_option maxHeartbeats 4000000 in
set_option maxRecDepth 100000 in
theorem wSp_isNoWay_16 {l : Launch} {D : va_G} {h : Nat → Nat} {K : Nat → ClassId} {res : Int32 × qS} {p : Program} {e : Env} {s : State} {m : MethodId} {args : Array Value} {below : List Frame} {meth : Method} {c : Code} {A : Nat → Prop} {ad : Nat → Nat} (C : qC p s m args meth c qm_Sp_isNoWay_c 1 (some .boolean) qR_Sp ad) (S : qS) (hf : fSp_isNoWay_16 S = some res) : ∀ (H : Heap) (locs : List Loc) (ls : Array Slot), qG D qCl (cT K) A s (cW h K S) H locs → lv_has ls 1 [] → W p l e ({ frames := 0, cells := 0, slots := 0, locals := 0 }) s m args below meth c H locs 0 0 (MQ below (qQi D qCl (cT K) (cW h K) A res) args s 0 0 A) (F0 m 16 ls []) := by
  intro H locs ls G hl
  unfold fSp_isNoWay_16 at hf
  refine lv_iconst (v := 0) C.1 C.2.1 qm_Sp_isNoWay_16 (by decide) ?_
  exact wSp_isNoWay_17 C S 0 hf _ _ _ G (lv_sub hl [] rfl)
set_option maxHeartbeats 4000000 in
set_option maxRecDepth 100000 in
theorem wSp_isNoWay {l : Launch} {D : va_G} {h : Nat → Nat} {K : Nat → ClassId} {res : Int32 × qS} {p : Program} {e : Env} {s : State} {m : MethodId} {args : Array Value} {below : List Frame} {meth : Method} {c : Code} {A : Nat → Prop} {ad : Nat → Nat} (C : qC p s m args meth c qm_Sp_isNoWay_c 1 (some .boolean) qR_Sp ad) (S : qS) (a0 : Int32) (hf : fSp_isNoWay S a0 = some res) : ∀ (H : Heap) (locs : List Loc) (ls : Array Slot), qG D qCl (cT K) A s (cW h K S) H locs → lv_has ls 1 [(0, .int a0)] → W p l e ({ frames := 0, cells := 0, slots := 0, locals := 0 }) s m args below meth c H locs 0 0 (MQ below (qQi D qCl (cT K) (cW h K) A res) args s 0 0 A) (F0 m 0 ls []) := by
  intro H locs ls G hl
  unfold fSp_isNoWay at hf
  refine lv_iload_n C.1 C.2.1 qm_Sp_isNoWay_0 rfl (lv_at hl 0 rfl) ?_
  refine lv_bipush (v := 11) C.1 C.2.1 qm_Sp_isNoWay_1 (by decide) ?_
  refine lv_icmp_le (tgt := 16) C.1 C.2.1 qm_Sp_isNoWay_3 (by decide) (fun b1 => ?_) (fun b1 => ?_)
  · have hf := if_t b1 hf
    exact wSp_isNoWay_16 C S hf _ _ _ G (lv_sub hl [] rfl)
  · have hf := if_f b1 hf
    refine lv_iload_n C.1 C.2.1 qm_Sp_isNoWay_6 rfl (lv_at hl 0 rfl) ?_
    refine lv_bipush (v := 14) C.1 C.2.1 qm_Sp_isNoWay_7 (by decide) ?_
    refine lv_icmp_ge (tgt := 16) C.1 C.2.1 qm_Sp_isNoWay_9 (by decide) (fun b2 => ?_) (fun b2 => ?_)
    · have hf := if_t b2 hf
      exact wSp_isNoWay_16 C S hf _ _ _ G (lv_sub hl [] rfl)
    · have hf := if_f b2 hf
      refine lv_iconst (v := 1) C.1 C.2.1 qm_Sp_isNoWay_12 (by decide) ?_
      refine lv_goto (tgt := 17) C.1 C.2.1 qm_Sp_isNoWay_13 (by decide) ?_
      exact wSp_isNoWay_17 C S 1 hf _ _ _ G (lv_sub hl [] rfl)
theorem kSp_isNoWay {l : Launch} {ad : Nat → Nat} {D : va_G} {h : Nat → Nat} {K : Nat → ClassId} {res : Int32 × qS} {S : qS} {a0 : Int32} (hf : fSp_isNoWay S a0 = some res) : qMi l qm_Sp_isNoWay qm_Sp_isNoWay_c 1 .boolean 0 0 D qCl (cT K) ad (cW h K) [.int a0] S res := qMi_of (by decide) (Nat.le_of_ble_eq_true rfl) (fun _ _ _ _ _ _ _ _ _ _ C G hl => wSp_isNoWay C S a0 hf _ _ _ G hl)
set_option maxHeartbeats 4000000 in
set_option maxRecDepth 100000 in
theorem wSp_isAddress_17 {l : Launch} {D : va_G} {h : Nat → Nat} {K : Nat → ClassId} {res : Int32 × qS} {p : Program} {e : Env} {s : State} {m : MethodId} {args : Array Value} {below : List Frame} {meth : Method} {c : Code} {A : Nat → Prop} {ad : Nat → Nat} (C : qC p s m args meth c qm_Sp_isAddress_c 1 (some .boolean) qR_Sp ad) (S : qS) (y0 : Int32) (hf : fSp_isAddress_17 S y0 = some res) : ∀ (H : Heap) (locs : List Loc) (ls : Array Slot), qG D qCl (cT K) A s (cW h K S) H locs → lv_has ls 1 [] → W p l e ({ frames := 0, cells := 0, slots := 0, locals := 0 }) s m args below meth c H locs 0 0 (MQ below (qQi D qCl (cT K) (cW h K) A res) args s 0 0 A) (F0 m 17 ls [.int y0]) := by
  intro H locs ls G hl
  unfold fSp_isAddress_17 at hf
  exact q_zret (wf := (cW h K)) C G hf qm_Sp_isAddress_17
set_option maxHeartbeats 4000000 in
set_option maxRecDepth 100000 in
theorem wSp_isAddress_12 {l : Launch} {D : va_G} {h : Nat → Nat} {K : Nat → ClassId} {res : Int32 × qS} {p : Program} {e : Env} {s : State} {m : MethodId} {args : Array Value} {below : List Frame} {meth : Method} {c : Code} {A : Nat → Prop} {ad : Nat → Nat} (C : qC p s m args meth c qm_Sp_isAddress_c 1 (some .boolean) qR_Sp ad) (S : qS) (hf : fSp_isAddress_12 S = some res) : ∀ (H : Heap) (locs : List Loc) (ls : Array Slot), qG D qCl (cT K) A s (cW h K S) H locs → lv_has ls 1 [] → W p l e ({ frames := 0, cells := 0, slots := 0, locals := 0 }) s m args below meth c H locs 0 0 (MQ below (qQi D qCl (cT K) (cW h K) A res) args s 0 0 A) (F0 m 12 ls []) := by
  intro H locs ls G hl
  unfold fSp_isAddress_12 at hf
  refine lv_iconst (v := 1) C.1 C.2.1 qm_Sp_isAddress_12 (by decide) ?_
  refine lv_goto (tgt := 17) C.1 C.2.1 qm_Sp_isAddress_13 (by decide) ?_
  exact wSp_isAddress_17 C S 1 hf _ _ _ G (lv_sub hl [] rfl)
set_option maxHeartbeats 4000000 in
set_option maxRecDepth 100000 in
theorem wSp_isAddress {l : Launch} {D : va_G} {h : Nat → Nat} {K : Nat → ClassId} {res : Int32 × qS} {p : Program} {e : Env} {s : State} {m : MethodId} {args : Array Value} {below : List Frame} {meth : Method} {c : Code} {A : Nat → Prop} {ad : Nat → Nat} (C : qC p s m args meth c qm_Sp_isAddress_c 1 (some .boolean) qR_Sp ad) (S : qS) (a0 : Int32) (hf : fSp_isAddress S a0 = some res) : ∀ (H : Heap) (locs : List Loc) (ls : Array Slot), qG D qCl (cT K) A s (cW h K S) H locs → lv_has ls 1 [(0, .int a0)] → W p l e ({ frames := 0, cells := 0, slots := 0, locals := 0 }) s m args below meth c H locs 0 0 (MQ below (qQi D qCl (cT K) (cW h K) A res) args s 0 0 A) (F0 m 0 ls []) := by
  intro H locs ls G hl
  unfold fSp_isAddress at hf
  refine lv_iload_n C.1 C.2.1 qm_Sp_isAddress_0 rfl (lv_at hl 0 rfl) ?_
  refine lv_bipush (v := 97) C.1 C.2.1 qm_Sp_isAddress_1 (by decide) ?_
  refine lv_icmp_eq (tgt := 12) C.1 C.2.1 qm_Sp_isAddress_3 (by decide) (fun b1 => ?_) (fun b1 => ?_)
  · have hf := if_t b1 hf
    exact wSp_isAddress_12 C S hf _ _ _ G (lv_sub hl [] rfl)
  · have hf := if_f b1 hf
    refine lv_iload_n C.1 C.2.1 qm_Sp_isAddress_6 rfl (lv_at hl 0 rfl) ?_
    refine lv_bipush (v := 65) C.1 C.2.1 qm_Sp_isAddress_7 (by decide) ?_
    refine lv_icmp_ne (tgt := 16) C.1 C.2.1 qm_Sp_isAddress_9 (by decide) (fun b2 => ?_) (fun b2 => ?_)
    · have hf := if_t b2 hf
      refine lv_iconst (v := 0) C.1 C.2.1 qm_Sp_isAddress_16 (by decide) ?_
      exact wSp_isAddress_17 C S 0 hf _ _ _ G (lv_sub hl [] rfl)
    · have hf := if_f (not_not_intro b2) hf
      exact wSp_isAddress_12 C S hf _ _ _ G (lv_sub hl [] rfl)
theorem kSp_isAddress {l : Launch} {ad : Nat → Nat} {D : va_G} {h : Nat → Nat} {K : Nat → ClassId} {res : Int32 × qS} {S : qS} {a0 : Int32} (hf : fSp_isAddress S a0 = some res) : qMi l qm_Sp_isAddress qm_Sp_isAddress_c 1 .boolean 0 0 D qCl (cT K) ad (cW h K) [.int a0] S res := qMi_of (by decide) (Nat.le_of_ble_eq_true rfl) (fun _ _ _ _ _ _ _ _ _ _ C G hl => wSp_isAddress C S a0 hf _ _ _ G hl)
set_option maxHeartbeats 4000000 in
set_option maxRecDepth 100000 in
theorem wSp_suits_42 {l : Launch} {D : va_G} {h : Nat → Nat} {K : Nat → ClassId} {res : Int32 × qS} {p : Program} {e : Env} {s : State} {m : MethodId} {args : Array Value} {below : List Frame} {meth : Method} {c : Code} {A : Nat → Prop} {ad : Nat → Nat} (C : qC p s m args meth c qm_Sp_suits_c 3 (some .boolean) qR_Sp ad) (S : qS) (hf : fSp_suits_42 S = some res) : ∀ (H : Heap) (locs : List Loc) (ls : Array Slot), qG D qCl (cT K) A s (cW h K S) H locs → lv_has ls 3 [] → W p l e ({ frames := 1, cells := 0, slots := 0, locals := 20 }) s m args below meth c H locs 0 0 (MQ below (qQi D qCl (cT K) (cW h K) A res) args s 0 0 A) (F0 m 42 ls []) := by
  intro H locs ls G hl
  unfold fSp_suits_42 at hf
  refine lv_iconst (v := 0) C.1 C.2.1 qm_Sp_suits_42 (by decide) ?_
  exact q_zret (wf := (cW h K)) C G hf qm_Sp_suits_43
set_option maxHeartbeats 4000000 in
set_option maxRecDepth 100000 in
theorem wSp_suits_98 {l : Launch} {D : va_G} {h : Nat → Nat} {K : Nat → ClassId} {res : Int32 × qS} {p : Program} {e : Env} {s : State} {m : MethodId} {args : Array Value} {below : List Frame} {meth : Method} {c : Code} {A : Nat → Prop} {ad : Nat → Nat} (C : qC p s m args meth c qm_Sp_suits_c 3 (some .boolean) qR_Sp ad) (S : qS) (y0 : Int32) (hf : fSp_suits_98 S y0 = some res) : ∀ (H : Heap) (locs : List Loc) (ls : Array Slot), qG D qCl (cT K) A s (cW h K S) H locs → lv_has ls 3 [] → W p l e ({ frames := 1, cells := 0, slots := 0, locals := 20 }) s m args below meth c H locs 0 0 (MQ below (qQi D qCl (cT K) (cW h K) A res) args s 0 0 A) (F0 m 98 ls [.int y0]) := by
  intro H locs ls G hl
  unfold fSp_suits_98 at hf
  exact q_zret (wf := (cW h K)) C G hf qm_Sp_suits_98
set_option maxHeartbeats 4000000 in
set_option maxRecDepth 100000 in
theorem wSp_suits_93 {l : Launch} {D : va_G} {h : Nat → Nat} {K : Nat → ClassId} {res : Int32 × qS} {p : Program} {e : Env} {s : State} {m : MethodId} {args : Array Value} {below : List Frame} {meth : Method} {c : Code} {A : Nat → Prop} {ad : Nat → Nat} (C : qC p s m args meth c qm_Sp_suits_c 3 (some .boolean) qR_Sp ad) (S : qS) (hf : fSp_suits_93 S = some res) : ∀ (H : Heap) (locs : List Loc) (ls : Array Slot), qG D qCl (cT K) A s (cW h K S) H locs → lv_has ls 3 [] → W p l e ({ frames := 1, cells := 0, slots := 0, locals := 20 }) s m args below meth c H locs 0 0 (MQ below (qQi D qCl (cT K) (cW h K) A res) args s 0 0 A) (F0 m 93 ls []) := by
  intro H locs ls G hl
  unfold fSp_suits_93 at hf
  refine lv_iconst (v := 1) C.1 C.2.1 qm_Sp_suits_93 (by decide) ?_
  refine lv_goto (tgt := 98) C.1 C.2.1 qm_Sp_suits_94 (by decide) ?_
  exact wSp_suits_98 C S 1 hf _ _ _ G (lv_sub hl [] rfl)
set_option maxHeartbeats 4000000 in
set_option maxRecDepth 100000 in
theorem wSp_suits_61 {l : Launch} {D : va_G} {h : Nat → Nat} {K : Nat → ClassId} {res : Int32 × qS} {p : Program} {e : Env} {s : State} {m : MethodId} {args : Array Value} {below : List Frame} {meth : Method} {c : Code} {A : Nat → Prop} {ad : Nat → Nat} (C : qC p s m args meth c qm_Sp_suits_c 3 (some .boolean) qR_Sp ad) (S : qS) (y0 : Int32) (hf : fSp_suits_61 S y0 = some res) : ∀ (H : Heap) (locs : List Loc) (ls : Array Slot), qG D qCl (cT K) A s (cW h K S) H locs → lv_has ls 3 [] → W p l e ({ frames := 1, cells := 0, slots := 0, locals := 20 }) s m args below meth c H locs 0 0 (MQ below (qQi D qCl (cT K) (cW h K) A res) args s 0 0 A) (F0 m 61 ls [.int y0]) := by
  intro H locs ls G hl
  unfold fSp_suits_61 at hf
  exact q_zret (wf := (cW h K)) C G hf qm_Sp_suits_61
set_option maxHeartbeats 4000000 in
set_option maxRecDepth 100000 in
theorem wSp_suits_44 {l : Launch} {D : va_G} {h : Nat → Nat} {K : Nat → ClassId} {res : Int32 × qS} {p : Program} {e : Env} {s : State} {m : MethodId} {args : Array Value} {below : List Frame} {meth : Method} {c : Code} {A : Nat → Prop} {ad : Nat → Nat} (C : qC p s m args meth c qm_Sp_suits_c 3 (some .boolean) qR_Sp ad) (S : qS) (x0 : Int32) (x1 : Int32) (x2 : Int32) (hf : fSp_suits_44 S x0 x1 x2 = some res) : ∀ (H : Heap) (locs : List Loc) (ls : Array Slot), qG D qCl (cT K) A s (cW h K S) H locs → lv_has ls 3 [(0, .int x0), (1, .int x1), (2, .int x2)] → W p l e ({ frames := 1, cells := 0, slots := 0, locals := 20 }) s m args below meth c H locs 0 0 (MQ below (qQi D qCl (cT K) (cW h K) A res) args s 0 0 A) (F0 m 44 ls []) := by
  intro H locs ls G hl
  unfold fSp_suits_44 at hf
  refine lv_iload_n C.1 C.2.1 qm_Sp_suits_44 rfl (lv_at hl 0 rfl) ?_
  refine lv_iconst (v := 5) C.1 C.2.1 qm_Sp_suits_45 (by decide) ?_
  refine lv_icmp_ne (tgt := 62) C.1 C.2.1 qm_Sp_suits_46 (by decide) (fun b1 => ?_) (fun b1 => ?_)
  · have hf := if_t b1 hf
    refine lv_iload_n C.1 C.2.1 qm_Sp_suits_62 rfl (lv_at hl 0 rfl) ?_
    refine lv_bipush (v := 8) C.1 C.2.1 qm_Sp_suits_63 (by decide) ?_
    refine lv_icmp_ne (tgt := 93) C.1 C.2.1 qm_Sp_suits_65 (by decide) (fun b2 => ?_) (fun b2 => ?_)
    · have hf := if_t b2 hf
      exact wSp_suits_93 C S hf _ _ _ G (lv_sub hl [] rfl)
    · have hf := if_f (not_not_intro b2) hf
      refine lv_iload_n C.1 C.2.1 qm_Sp_suits_68 rfl (lv_at hl 1 rfl) ?_
      refine lv_bipush (v := 15) C.1 C.2.1 qm_Sp_suits_69 (by decide) ?_
      refine lv_icmp_ne (tgt := 93) C.1 C.2.1 qm_Sp_suits_71 (by decide) (fun b3 => ?_) (fun b3 => ?_)
      · have hf := if_t b3 hf
        exact wSp_suits_93 C S hf _ _ _ G (lv_sub hl [] rfl)
      · have hf := if_f (not_not_intro b3) hf
        refine lv_iload_n C.1 C.2.1 qm_Sp_suits_74 rfl (lv_at hl 2 rfl) ?_
        refine lv_bipush (v := 114) C.1 C.2.1 qm_Sp_suits_75 (by decide) ?_
        refine lv_icmp_eq (tgt := 93) C.1 C.2.1 qm_Sp_suits_77 (by decide) (fun b4 => ?_) (fun b4 => ?_)
        · have hf := if_t b4 hf
          exact wSp_suits_93 C S hf _ _ _ G (lv_sub hl [] rfl)
        · have hf := if_f b4 hf
          refine lv_iload_n C.1 C.2.1 qm_Sp_suits_80 rfl (lv_at hl 2 rfl) ?_
          refine lv_bipush (v := 82) C.1 C.2.1 qm_Sp_suits_81 (by decide) ?_
          refine lv_icmp_eq (tgt := 93) C.1 C.2.1 qm_Sp_suits_83 (by decide) (fun b5 => ?_) (fun b5 => ?_)
          · have hf := if_t b5 hf
            exact wSp_suits_93 C S hf _ _ _ G (lv_sub hl [] rfl)
          · have hf := if_f b5 hf
            refine lv_iload_n C.1 C.2.1 qm_Sp_suits_86 rfl (lv_at hl 2 rfl) ?_
            obtain ⟨q6, c6, hf⟩ := bnd_s hf
            refine q_callSi (wf := (cW h K)) (n := 1) (As := [.int x2]) C G hl.1 (kSp_isAddress (l := l) c6) qx_Sp_67 qm_Sp_isAddress_d ⟨by decide, by decide⟩ ⟨Nat.le_refl _, Nat.le_refl _⟩ rfl rfl (Nat.le_of_ble_eq_true rfl) qm_Sp_suits_87 (fun H locs G => ?_)
            refine lv_if_eq (tgt := 97) C.1 C.2.1 qm_Sp_suits_90 (by decide) (fun b7 => ?_) (fun b7 => ?_)
            · have hf := if_t b7 hf
              refine lv_iconst (v := 0) C.1 C.2.1 qm_Sp_suits_97 (by decide) ?_
              exact wSp_suits_98 C q6.2 0 hf _ _ _ G (lv_sub hl [] rfl)
            · have hf := if_f b7 hf
              exact wSp_suits_93 C q6.2 hf _ _ _ G (lv_sub hl [] rfl)
  · have hf := if_f (not_not_intro b1) hf
    refine lv_iload_n C.1 C.2.1 qm_Sp_suits_49 rfl (lv_at hl 2 rfl) ?_
    obtain ⟨q8, c8, hf⟩ := bnd_s hf
    refine q_callSi (wf := (cW h K)) (n := 1) (As := [.int x2]) C G hl.1 (kSp_isAddress (l := l) c8) qx_Sp_67 qm_Sp_isAddress_d ⟨by decide, by decide⟩ ⟨Nat.le_refl _, Nat.le_refl _⟩ rfl rfl (Nat.le_of_ble_eq_true rfl) qm_Sp_suits_50 (fun H locs G => ?_)
    refine lv_if_ne (tgt := 60) C.1 C.2.1 qm_Sp_suits_53 (by decide) (fun b9 => ?_) (fun b9 => ?_)
    · have hf := if_t b9 hf
      refine lv_iconst (v := 0) C.1 C.2.1 qm_Sp_suits_60 (by decide) ?_
      exact wSp_suits_61 C q8.2 0 hf _ _ _ G (lv_sub hl [] rfl)
    · have hf := if_f (not_not_intro b9) hf
      refine lv_iconst (v := 1) C.1 C.2.1 qm_Sp_suits_56 (by decide) ?_
      refine lv_goto (tgt := 61) C.1 C.2.1 qm_Sp_suits_57 (by decide) ?_
      exact wSp_suits_61 C q8.2 1 hf _ _ _ G (lv_sub hl [] rfl)
set_option maxHeartbeats 4000000 in
set_option maxRecDepth 100000 in
theorem wSp_suits_22 {l : Launch} {D : va_G} {h : Nat → Nat} {K : Nat → ClassId} {res : Int32 × qS} {p : Program} {e : Env} {s : State} {m : MethodId} {args : Array Value} {below : List Frame} {meth : Method} {c : Code} {A : Nat → Prop} {ad : Nat → Nat} (C : qC p s m args meth c qm_Sp_suits_c 3 (some .boolean) qR_Sp ad) (S : qS) (y0 : Int32) (hf : fSp_suits_22 S y0 = some res) : ∀ (H : Heap) (locs : List Loc) (ls : Array Slot), qG D qCl (cT K) A s (cW h K S) H locs → lv_has ls 3 [] → W p l e ({ frames := 1, cells := 0, slots := 0, locals := 20 }) s m args below meth c H locs 0 0 (MQ below (qQi D qCl (cT K) (cW h K) A res) args s 0 0 A) (F0 m 22 ls [.int y0]) := by
  intro H locs ls G hl
  unfold fSp_suits_22 at hf
  exact q_zret (wf := (cW h K)) C G hf qm_Sp_suits_22
set_option maxHeartbeats 4000000 in
set_option maxRecDepth 100000 in
theorem wSp_suits_17 {l : Launch} {D : va_G} {h : Nat → Nat} {K : Nat → ClassId} {res : Int32 × qS} {p : Program} {e : Env} {s : State} {m : MethodId} {args : Array Value} {below : List Frame} {meth : Method} {c : Code} {A : Nat → Prop} {ad : Nat → Nat} (C : qC p s m args meth c qm_Sp_suits_c 3 (some .boolean) qR_Sp ad) (S : qS) (hf : fSp_suits_17 S = some res) : ∀ (H : Heap) (locs : List Loc) (ls : Array Slot), qG D qCl (cT K) A s (cW h K S) H locs → lv_has ls 3 [] → W p l e ({ frames := 1, cells := 0, slots := 0, locals := 20 }) s m args below meth c H locs 0 0 (MQ below (qQi D qCl (cT K) (cW h K) A res) args s 0 0 A) (F0 m 17 ls []) := by
  intro H locs ls G hl
  unfold fSp_suits_17 at hf
  refine lv_iconst (v := 1) C.1 C.2.1 qm_Sp_suits_17 (by decide) ?_
  refine lv_goto (tgt := 22) C.1 C.2.1 qm_Sp_suits_18 (by decide) ?_
  exact wSp_suits_22 C S 1 hf _ _ _ G (lv_sub hl [] rfl)
set_option maxHeartbeats 4000000 in
set_option maxRecDepth 100000 in
theorem wSp_suits {l : Launch} {D : va_G} {h : Nat → Nat} {K : Nat → ClassId} {res : Int32 × qS} {p : Program} {e : Env} {s : State} {m : MethodId} {args : Array Value} {below : List Frame} {meth : Method} {c : Code} {A : Nat → Prop} {ad : Nat → Nat} (C : qC p s m args meth c qm_Sp_suits_c 3 (some .boolean) qR_Sp ad) (S : qS) (a0 : Int32) (a1 : Int32) (a2 : Int32) (hf : fSp_suits S a0 a1 a2 = some res) : ∀ (H : Heap) (locs : List Loc) (ls : Array Slot), qG D qCl (cT K) A s (cW h K S) H locs → lv_has ls 3 [(0, .int a0), (1, .int a1), (2, .int a2)] → W p l e ({ frames := 1, cells := 0, slots := 0, locals := 20 }) s m args below meth c H locs 0 0 (MQ below (qQi D qCl (cT K) (cW h K) A res) args s 0 0 A) (F0 m 0 ls []) := by
  intro H locs ls G hl
  unfold fSp_suits at hf
  refine lv_iload_n C.1 C.2.1 qm_Sp_suits_0 rfl (lv_at hl 0 rfl) ?_
  refine lv_iconst (v := 4) C.1 C.2.1 qm_Sp_suits_1 (by decide) ?_
  refine lv_icmp_ge (tgt := 23) C.1 C.2.1 qm_Sp_suits_2 (by decide) (fun b1 => ?_) (fun b1 => ?_)
  · have hf := if_t b1 hf
    refine lv_iload_n C.1 C.2.1 qm_Sp_suits_23 rfl (lv_at hl 0 rfl) ?_
    obtain ⟨q2, c2, hf⟩ := bnd_s hf
    refine q_callSi (wf := (cW h K)) (n := 1) (As := [.int a0]) C G hl.1 (kSp_isNoWay (l := l) c2) qx_Sp_63 qm_Sp_isNoWay_d ⟨by decide, by decide⟩ ⟨Nat.le_refl _, Nat.le_refl _⟩ rfl rfl (Nat.le_of_ble_eq_true rfl) qm_Sp_suits_24 (fun H locs G => ?_)
    refine lv_if_ne (tgt := 42) C.1 C.2.1 qm_Sp_suits_27 (by decide) (fun b3 => ?_) (fun b3 => ?_)
    · have hf := if_t b3 hf
      exact wSp_suits_42 C q2.2 hf _ _ _ G (lv_sub hl [] rfl)
    · have hf := if_f (not_not_intro b3) hf
      refine lv_iload_n C.1 C.2.1 qm_Sp_suits_30 rfl (lv_at hl 0 rfl) ?_
      refine lv_bipush (v := 7) C.1 C.2.1 qm_Sp_suits_31 (by decide) ?_
      refine lv_icmp_gt (tgt := 44) C.1 C.2.1 qm_Sp_suits_33 (by decide) (fun b4 => ?_) (fun b4 => ?_)
      · have hf := if_t b4 hf
        exact wSp_suits_44 C q2.2 a0 a1 a2 hf _ _ _ G (lv_sub hl [0, 1, 2] rfl)
      · have hf := if_f b4 hf
        refine lv_iload_n C.1 C.2.1 qm_Sp_suits_36 rfl (lv_at hl 1 rfl) ?_
        refine lv_bipush (v := 15) C.1 C.2.1 qm_Sp_suits_37 (by decide) ?_
        refine lv_icmp_ne (tgt := 44) C.1 C.2.1 qm_Sp_suits_39 (by decide) (fun b5 => ?_) (fun b5 => ?_)
        · have hf := if_t b5 hf
          exact wSp_suits_44 C q2.2 a0 a1 a2 hf _ _ _ G (lv_sub hl [0, 1, 2] rfl)
        · have hf := if_f (not_not_intro b5) hf
          exact wSp_suits_42 C q2.2 hf _ _ _ G (lv_sub hl [] rfl)
  · have hf := if_f b1 hf
    refine lv_iload_n C.1 C.2.1 qm_Sp_suits_5 rfl (lv_at hl 2 rfl) ?_
    refine lv_bipush (v := 114) C.1 C.2.1 qm_Sp_suits_6 (by decide) ?_
    refine lv_icmp_eq (tgt := 17) C.1 C.2.1 qm_Sp_suits_8 (by decide) (fun b6 => ?_) (fun b6 => ?_)
    · have hf := if_t b6 hf
      exact wSp_suits_17 C S hf _ _ _ G (lv_sub hl [] rfl)
    · have hf := if_f b6 hf
      refine lv_iload_n C.1 C.2.1 qm_Sp_suits_11 rfl (lv_at hl 2 rfl) ?_
      refine lv_bipush (v := 82) C.1 C.2.1 qm_Sp_suits_12 (by decide) ?_
      refine lv_icmp_ne (tgt := 21) C.1 C.2.1 qm_Sp_suits_14 (by decide) (fun b7 => ?_) (fun b7 => ?_)
      · have hf := if_t b7 hf
        refine lv_iconst (v := 0) C.1 C.2.1 qm_Sp_suits_21 (by decide) ?_
        exact wSp_suits_22 C S 0 hf _ _ _ G (lv_sub hl [] rfl)
      · have hf := if_f (not_not_intro b7) hf
        exact wSp_suits_17 C S hf _ _ _ G (lv_sub hl [] rfl)
theorem kSp_suits {l : Launch} {ad : Nat → Nat} {D : va_G} {h : Nat → Nat} {K : Nat → ClassId} {res : Int32 × qS} {S : qS} {a0 : Int32} {a1 : Int32} {a2 : Int32} (hf : fSp_suits S a0 a1 a2 = some res) : qMi l qm_Sp_suits qm_Sp_suits_c 3 .boolean 1 20 D qCl (cT K) ad (cW h K) [.int a0, .int a1, .int a2] S res := qMi_of (by decide) (Nat.le_of_ble_eq_true rfl) (fun _ _ _ _ _ _ _ _ _ _ C G hl => wSp_suits C S a0 a1 a2 hf _ _ _ G hl)
set_option maxHeartbeats 4000000 in
set_option maxRecDepth 100000 in
theorem wSp_suitsBehindIndexed_30 {l : Launch} {D : va_G} {h : Nat → Nat} {K : Nat → ClassId} {res : Int32 × qS} {p : Program} {e : Env} {s : State} {m : MethodId} {args : Array Value} {below : List Frame} {meth : Method} {c : Code} {A : Nat → Prop} {ad : Nat → Nat} (C : qC p s m args meth c qm_Sp_suitsBehindIndexed_c 2 (some .boolean) qR_Sp ad) (S : qS) (y0 : Int32) (hf : fSp_suitsBehindIndexed_30 S y0 = some res) : ∀ (H : Heap) (locs : List Loc) (ls : Array Slot), qG D qCl (cT K) A s (cW h K S) H locs → lv_has ls 2 [] → W p l e ({ frames := 1, cells := 0, slots := 0, locals := 20 }) s m args below meth c H locs 0 0 (MQ below (qQi D qCl (cT K) (cW h K) A res) args s 0 0 A) (F0 m 30 ls [.int y0]) := by
  intro H locs ls G hl
  unfold fSp_suitsBehindIndexed_30 at hf
  exact q_zret (wf := (cW h K)) C G hf qm_Sp_suitsBehindIndexed_30
set_option maxHeartbeats 4000000 in
set_option maxRecDepth 100000 in
theorem wSp_suitsBehindIndexed_29 {l : Launch} {D : va_G} {h : Nat → Nat} {K : Nat → ClassId} {res : Int32 × qS} {p : Program} {e : Env} {s : State} {m : MethodId} {args : Array Value} {below : List Frame} {meth : Method} {c : Code} {A : Nat → Prop} {ad : Nat → Nat} (C : qC p s m args meth c qm_Sp_suitsBehindIndexed_c 2 (some .boolean) qR_Sp ad) (S : qS) (hf : fSp_suitsBehindIndexed_29 S = some res) : ∀ (H : Heap) (locs : List Loc) (ls : Array Slot), qG D qCl (cT K) A s (cW h K S) H locs → lv_has ls 2 [] → W p l e ({ frames := 1, cells := 0, slots := 0, locals := 20 }) s m args below meth c H locs 0 0 (MQ below (qQi D qCl (cT K) (cW h K) A res) args s 0 0 A) (F0 m 29 ls []) := by
  intro H locs ls G hl
  unfold fSp_suitsBehindIndexed_29 at hf
  refine lv_iconst (v := 0) C.1 C.2.1 qm_Sp_suitsBehindIndexed_29 (by decide) ?_
  exact wSp_suitsBehindIndexed_30 C S 0 hf _ _ _ G (lv_sub hl [] rfl)
set_option maxHeartbeats 4000000 in
set_option maxRecDepth 100000 in
theorem wSp_suitsBehindIndexed_25 {l : Launch} {D : va_G} {h : Nat → Nat} {K : Nat → ClassId} {res : Int32 × qS} {p : Program} {e : Env} {s : State} {m : MethodId} {args : Array Value} {below : List Frame} {meth : Method} {c : Code} {A : Nat → Prop} {ad : Nat → Nat} (C : qC p s m args meth c qm_Sp_suitsBehindIndexed_c 2 (some .boolean) qR_Sp ad) (S : qS) (hf : fSp_suitsBehindIndexed_25 S = some res) : ∀ (H : Heap) (locs : List Loc) (ls : Array Slot), qG D qCl (cT K) A s (cW h K S) H locs → lv_has ls 2 [] → W p l e ({ frames := 1, cells := 0, slots := 0, locals := 20 }) s m args below meth c H locs 0 0 (MQ below (qQi D qCl (cT K) (cW h K) A res) args s 0 0 A) (F0 m 25 ls []) := by
  intro H locs ls G hl
  unfold fSp_suitsBehindIndexed_25 at hf
  refine lv_iconst (v := 1) C.1 C.2.1 qm_Sp_suitsBehindIndexed_25 (by decide) ?_
  refine lv_goto (tgt := 30) C.1 C.2.1 qm_Sp_suitsBehindIndexed_26 (by decide) ?_
  exact wSp_suitsBehindIndexed_30 C S 1 hf _ _ _ G (lv_sub hl [] rfl)
set_option maxHeartbeats 4000000 in
set_option maxRecDepth 100000 in
theorem wSp_suitsBehindIndexed {l : Launch} {D : va_G} {h : Nat → Nat} {K : Nat → ClassId} {res : Int32 × qS} {p : Program} {e : Env} {s : State} {m : MethodId} {args : Array Value} {below : List Frame} {meth : Method} {c : Code} {A : Nat → Prop} {ad : Nat → Nat} (C : qC p s m args meth c qm_Sp_suitsBehindIndexed_c 2 (some .boolean) qR_Sp ad) (S : qS) (a0 : Int32) (a1 : Int32) (hf : fSp_suitsBehindIndexed S a0 a1 = some res) : ∀ (H : Heap) (locs : List Loc) (ls : Array Slot), qG D qCl (cT K) A s (cW h K S) H locs → lv_has ls 2 [(0, .int a0), (1, .int a1)] → W p l e ({ frames := 1, cells := 0, slots := 0, locals := 20 }) s m args below meth c H locs 0 0 (MQ below (qQi D qCl (cT K) (cW h K) A res) args s 0 0 A) (F0 m 0 ls []) := by
  intro H locs ls G hl
  unfold fSp_suitsBehindIndexed at hf
  refine lv_iload_n C.1 C.2.1 qm_Sp_suitsBehindIndexed_0 rfl (lv_at hl 0 rfl) ?_
  refine lv_bipush (v := 6) C.1 C.2.1 qm_Sp_suitsBehindIndexed_1 (by decide) ?_
  refine lv_icmp_lt (tgt := 29) C.1 C.2.1 qm_Sp_suitsBehindIndexed_3 (by decide) (fun b1 => ?_) (fun b1 => ?_)
  · have hf := if_t b1 hf
    exact wSp_suitsBehindIndexed_29 C S hf _ _ _ G (lv_sub hl [] rfl)
  · have hf := if_f b1 hf
    refine lv_iload_n C.1 C.2.1 qm_Sp_suitsBehindIndexed_6 rfl (lv_at hl 0 rfl) ?_
    obtain ⟨q2, c2, hf⟩ := bnd_s hf
    refine q_callSi (wf := (cW h K)) (n := 1) (As := [.int a0]) C G hl.1 (kSp_isNoWay (l := l) c2) qx_Sp_63 qm_Sp_isNoWay_d ⟨by decide, by decide⟩ ⟨Nat.le_refl _, Nat.le_refl _⟩ rfl rfl (Nat.le_of_ble_eq_true rfl) qm_Sp_suitsBehindIndexed_7 (fun H locs G => ?_)
    refine lv_if_ne (tgt := 29) C.1 C.2.1 qm_Sp_suitsBehindIndexed_10 (by decide) (fun b3 => ?_) (fun b3 => ?_)
    · have hf := if_t b3 hf
      exact wSp_suitsBehindIndexed_29 C q2.2 hf _ _ _ G (lv_sub hl [] rfl)
    · have hf := if_f (not_not_intro b3) hf
      refine lv_iload_n C.1 C.2.1 qm_Sp_suitsBehindIndexed_13 rfl (lv_at hl 0 rfl) ?_
      refine lv_bipush (v := 8) C.1 C.2.1 qm_Sp_suitsBehindIndexed_14 (by decide) ?_
      refine lv_icmp_gt (tgt := 25) C.1 C.2.1 qm_Sp_suitsBehindIndexed_16 (by decide) (fun b4 => ?_) (fun b4 => ?_)
      · have hf := if_t b4 hf
        exact wSp_suitsBehindIndexed_25 C q2.2 hf _ _ _ G (lv_sub hl [] rfl)
      · have hf := if_f b4 hf
        refine lv_iload_n C.1 C.2.1 qm_Sp_suitsBehindIndexed_19 rfl (lv_at hl 1 rfl) ?_
        refine lv_bipush (v := 15) C.1 C.2.1 qm_Sp_suitsBehindIndexed_20 (by decide) ?_
        refine lv_icmp_eq (tgt := 29) C.1 C.2.1 qm_Sp_suitsBehindIndexed_22 (by decide) (fun b5 => ?_) (fun b5 => ?_)
        · have hf := if_t b5 hf
          exact wSp_suitsBehindIndexed_29 C q2.2 hf _ _ _ G (lv_sub hl [] rfl)
        · have hf := if_f b5 hf
          exact wSp_suitsBehindIndexed_25 C q2.2 hf _ _ _ G (lv_sub hl [] rfl)
theorem kSp_suitsBehindIndexed {l : Launch} {ad : Nat → Nat} {D : va_G} {h : Nat → Nat} {K : Nat → ClassId} {res : Int32 × qS} {S : qS} {a0 : Int32} {a1 : Int32} (hf : fSp_suitsBehindIndexed S a0 a1 = some res) : qMi l qm_Sp_suitsBehindIndexed qm_Sp_suitsBehindIndexed_c 2 .boolean 1 20 D qCl (cT K) ad (cW h K) [.int a0, .int a1] S res := qMi_of (by decide) (Nat.le_of_ble_eq_true rfl) (fun _ _ _ _ _ _ _ _ _ _ C G hl => wSp_suitsBehindIndexed C S a0 a1 hf _ _ _ G hl)
set_option maxHeartbeats 4000000 in
set_option maxRecDepth 100000 in
theorem wSp_addressBy_40 {l : Launch} {D : va_G} {h : Nat → Nat} {K : Nat → ClassId} {res : Int32 × qS} {p : Program} {e : Env} {s : State} {m : MethodId} {args : Array Value} {below : List Frame} {meth : Method} {c : Code} {A : Nat → Prop} {ad : Nat → Nat} (C : qC p s m args meth c qm_Sp_addressBy_c 7 (some .int) qR_Sp ad) (S : qS) (x4 : Int32) (hf : fSp_addressBy_40 S x4 = some res) : ∀ (H : Heap) (locs : List Loc) (ls : Array Slot), qG D qCl (cT K) A s (cW h K S) H locs → lv_has ls 7 [(4, .int x4)] → W p l e ({ frames := 4, cells := 0, slots := 0, locals := 100 }) s m args below meth c H locs 0 0 (MQ below (qQi D qCl (cT K) (cW h K) A res) args s 0 0 A) (F0 m 40 ls []) := by
  intro H locs ls G hl
  unfold fSp_addressBy_40 at hf
  refine lv_iload C.1 C.2.1 qm_Sp_addressBy_40 (lv_at hl 0 rfl) ?_
  exact q_iret (wf := (cW h K)) C G hf qm_Sp_addressBy_42
set_option maxHeartbeats 4000000 in
set_option maxRecDepth 100000 in
theorem wSp_addressBy_43 {l : Launch} {D : va_G} {h : Nat → Nat} {K : Nat → ClassId} {res : Int32 × qS} {p : Program} {e : Env} {s : State} {m : MethodId} {args : Array Value} {below : List Frame} {meth : Method} {c : Code} {A : Nat → Prop} {ad : Nat → Nat} (C : qC p s m args meth c qm_Sp_addressBy_c 7 (some .int) qR_Sp ad) (S : qS) (x2 : Int32) (x3 : Int32) (x4 : Int32) (hf : fSp_addressBy_43 S x2 x3 x4 = some res) : ∀ (H : Heap) (locs : List Loc) (ls : Array Slot), qG D qCl (cT K) A s (cW h K S) H locs → lv_has ls 7 [(0, .ref (h 15)), (2, .int x2), (3, .int x3), (4, .int x4)] → W p l e ({ frames := 4, cells := 0, slots := 0, locals := 100 }) s m args below meth c H locs 0 0 (MQ below (qQi D qCl (cT K) (cW h K) A res) args s 0 0 A) (F0 m 43 ls []) := by
  intro H locs ls G hl
  unfold fSp_addressBy_43 at hf
  refine lv_aload_n C.1 C.2.1 qm_Sp_addressBy_43 rfl (lv_at hl 0 rfl) ?_
  refine q_get (wf := (cW h K)) (v := .ref (h 5)) C G qi_Sp 15 rfl rfl 0 (by decide) qz_208 rfl qm_Sp_addressBy_44 ?_
  refine lv_iload_n C.1 C.2.1 qm_Sp_addressBy_47 rfl (lv_at hl 1 rfl) ?_
  refine lv_iload C.1 C.2.1 qm_Sp_addressBy_48 (lv_at hl 3 rfl) ?_
  refine lv_iload_n C.1 C.2.1 qm_Sp_addressBy_50 rfl (lv_at hl 2 rfl) ?_
  refine lv_isub C.1 C.2.1 qm_Sp_addressBy_51 ?_
  obtain ⟨S1, c1, hf⟩ := bnd_s hf
  refine q_callVv (wf := (cW h K)) (n := 2) (As := [.int x2, .int (x4 - x3)]) (q0 := 5) (ci := 1) C G hl.1 (kCo_put (l := l) c1) qx_Sp_70 qm_Co_put_d ⟨by decide, by decide⟩ ⟨Nat.le_refl _, Nat.le_refl _⟩ rfl rfl rfl rfl rfl (Nat.le_of_ble_eq_true rfl) qm_Sp_addressBy_52 (fun H locs G => ?_)
  refine lv_iload C.1 C.2.1 qm_Sp_addressBy_55 (lv_at hl 3 rfl) ?_
  refine lv_iload_n C.1 C.2.1 qm_Sp_addressBy_57 rfl (lv_at hl 2 rfl) ?_
  refine lv_isub C.1 C.2.1 qm_Sp_addressBy_58 ?_
  exact q_iret (wf := (cW h K)) C G hf qm_Sp_addressBy_59
set_option maxHeartbeats 4000000 in
set_option maxRecDepth 100000 in
theorem wSp_addressBy_60 {l : Launch} {D : va_G} {h : Nat → Nat} {K : Nat → ClassId} {res : Int32 × qS} {p : Program} {e : Env} {s : State} {m : MethodId} {args : Array Value} {below : List Frame} {meth : Method} {c : Code} {A : Nat → Prop} {ad : Nat → Nat} (C : qC p s m args meth c qm_Sp_addressBy_c 7 (some .int) qR_Sp ad) (S : qS) (x2 : Int32) (x3 : Int32) (x4 : Int32) (hf : fSp_addressBy_60 S x2 x3 x4 = some res) : ∀ (H : Heap) (locs : List Loc) (ls : Array Slot), qG D qCl (cT K) A s (cW h K S) H locs → lv_has ls 7 [(0, .ref (h 15)), (2, .int x2), (3, .int x3), (4, .int x4)] → W p l e ({ frames := 4, cells := 0, slots := 0, locals := 100 }) s m args below meth c H locs 0 0 (MQ below (qQi D qCl (cT K) (cW h K) A res) args s 0 0 A) (F0 m 60 ls []) := by
  intro H locs ls G hl
  unfold fSp_addressBy_60 at hf
  refine lv_aload_n C.1 C.2.1 qm_Sp_addressBy_60 rfl (lv_at hl 0 rfl) ?_
  refine q_get (wf := (cW h K)) (v := .ref (h 5)) C G qi_Sp 15 rfl rfl 0 (by decide) qz_208 rfl qm_Sp_addressBy_61 ?_
  refine lv_iload_n C.1 C.2.1 qm_Sp_addressBy_64 rfl (lv_at hl 1 rfl) ?_
  refine lv_iload C.1 C.2.1 qm_Sp_addressBy_65 (lv_at hl 3 rfl) ?_
  refine lv_iload_n C.1 C.2.1 qm_Sp_addressBy_67 rfl (lv_at hl 2 rfl) ?_
  refine lv_iadd C.1 C.2.1 qm_Sp_addressBy_68 ?_
  obtain ⟨S1, c1, hf⟩ := bnd_s hf
  refine q_callVv (wf := (cW h K)) (n := 2) (As := [.int x2, .int (x4 + x3)]) (q0 := 5) (ci := 1) C G hl.1 (kCo_put (l := l) c1) qx_Sp_70 qm_Co_put_d ⟨by decide, by decide⟩ ⟨Nat.le_refl _, Nat.le_refl _⟩ rfl rfl rfl rfl rfl (Nat.le_of_ble_eq_true rfl) qm_Sp_addressBy_69 (fun H locs G => ?_)
  refine lv_iload C.1 C.2.1 qm_Sp_addressBy_72 (lv_at hl 3 rfl) ?_
  exact q_iret (wf := (cW h K)) C G hf qm_Sp_addressBy_74
set_option maxHeartbeats 4000000 in
set_option maxRecDepth 100000 in
theorem wSp_addressBy_75 {l : Launch} {D : va_G} {h : Nat → Nat} {K : Nat → ClassId} {res : Int32 × qS} {p : Program} {e : Env} {s : State} {m : MethodId} {args : Array Value} {below : List Frame} {meth : Method} {c : Code} {A : Nat → Prop} {ad : Nat → Nat} (C : qC p s m args meth c qm_Sp_addressBy_c 7 (some .int) qR_Sp ad) (S : qS) (x2 : Int32) (x4 : Int32) (hf : fSp_addressBy_75 S x2 x4 = some res) : ∀ (H : Heap) (locs : List Loc) (ls : Array Slot), qG D qCl (cT K) A s (cW h K S) H locs → lv_has ls 7 [(0, .ref (h 15)), (2, .int x2), (4, .int x4)] → W p l e ({ frames := 4, cells := 0, slots := 0, locals := 100 }) s m args below meth c H locs 0 0 (MQ below (qQi D qCl (cT K) (cW h K) A res) args s 0 0 A) (F0 m 75 ls []) := by
  intro H locs ls G hl
  unfold fSp_addressBy_75 at hf
  refine lv_aload_n C.1 C.2.1 qm_Sp_addressBy_75 rfl (lv_at hl 0 rfl) ?_
  refine q_get (wf := (cW h K)) (v := .ref (h 5)) C G qi_Sp 15 rfl rfl 0 (by decide) qz_208 rfl qm_Sp_addressBy_76 ?_
  refine lv_iload_n C.1 C.2.1 qm_Sp_addressBy_79 rfl (lv_at hl 1 rfl) ?_
  refine lv_iload C.1 C.2.1 qm_Sp_addressBy_80 (lv_at hl 2 rfl) ?_
  refine lv_iconst (v := 4) C.1 C.2.1 qm_Sp_addressBy_82 (by decide) ?_
  refine lv_iadd C.1 C.2.1 qm_Sp_addressBy_83 ?_
  obtain ⟨S1, c1, hf⟩ := bnd_s hf
  refine q_callVv (wf := (cW h K)) (n := 2) (As := [.int x2, .int (x4 + 4)]) (q0 := 5) (ci := 1) C G hl.1 (kCo_put (l := l) c1) qx_Sp_70 qm_Co_put_d ⟨by decide, by decide⟩ ⟨Nat.le_refl _, Nat.le_refl _⟩ rfl rfl rfl rfl rfl (Nat.le_of_ble_eq_true rfl) qm_Sp_addressBy_84 (fun H locs G => ?_)
  refine lv_aload_n C.1 C.2.1 qm_Sp_addressBy_87 rfl (lv_at hl 0 rfl) ?_
  refine q_get (wf := (cW h K)) (v := .ref (h 5)) C G qi_Sp 15 rfl rfl 0 (by decide) qz_208 rfl qm_Sp_addressBy_88 ?_
  refine lv_iload C.1 C.2.1 qm_Sp_addressBy_91 (lv_at hl 2 rfl) ?_
  refine lv_iconst (v := 4) C.1 C.2.1 qm_Sp_addressBy_93 (by decide) ?_
  obtain ⟨q2, c2, hf⟩ := bnd_s hf
  refine q_callVi (wf := (cW h K)) (n := 2) (As := [.int x4, .int 4]) (q0 := 5) (ci := 1) C G hl.1 (kCo_read (l := l) c2) qx_Sp_59 qm_Co_read_d ⟨by decide, by decide⟩ ⟨Nat.le_refl _, Nat.le_refl _⟩ rfl rfl rfl rfl rfl (Nat.le_of_ble_eq_true rfl) qm_Sp_addressBy_94 (fun H locs G => ?_)
  exact q_iret (wf := (cW h K)) C G hf qm_Sp_addressBy_97
set_option maxHeartbeats 4000000 in
set_option maxRecDepth 100000 in
theorem wSp_addressBy_166 {l : Launch} {D : va_G} {h : Nat → Nat} {K : Nat → ClassId} {res : Int32 × qS} {p : Program} {e : Env} {s : State} {m : MethodId} {args : Array Value} {below : List Frame} {meth : Method} {c : Code} {A : Nat → Prop} {ad : Nat → Nat} (C : qC p s m args meth c qm_Sp_addressBy_c 7 (some .int) qR_Sp ad) (S : qS) (y0 : Int32) (hf : fSp_addressBy_166 S y0 = some res) : ∀ (H : Heap) (locs : List Loc) (ls : Array Slot), qG D qCl (cT K) A s (cW h K S) H locs → lv_has ls 7 [] → W p l e ({ frames := 4, cells := 0, slots := 0, locals := 100 }) s m args below meth c H locs 0 0 (MQ below (qQi D qCl (cT K) (cW h K) A res) args s 0 0 A) (F0 m 166 ls [.int y0]) := by
  intro H locs ls G hl
  unfold fSp_addressBy_166 at hf
  exact q_iret (wf := (cW h K)) C G hf qm_Sp_addressBy_166
set_option maxHeartbeats 4000000 in
set_option maxRecDepth 100000 in
theorem wSp_addressBy_151 {l : Launch} {D : va_G} {h : Nat → Nat} {K : Nat → ClassId} {res : Int32 × qS} {p : Program} {e : Env} {s : State} {m : MethodId} {args : Array Value} {below : List Frame} {meth : Method} {c : Code} {A : Nat → Prop} {ad : Nat → Nat} (C : qC p s m args meth c qm_Sp_addressBy_c 7 (some .int) qR_Sp ad) (S : qS) (x6 : Int32) (hf : fSp_addressBy_151 S x6 = some res) : ∀ (H : Heap) (locs : List Loc) (ls : Array Slot), qG D qCl (cT K) A s (cW h K S) H locs → lv_has ls 7 [(6, .int x6)] → W p l e ({ frames := 4, cells := 0, slots := 0, locals := 100 }) s m args below meth c H locs 0 0 (MQ below (qQi D qCl (cT K) (cW h K) A res) args s 0 0 A) (F0 m 151 ls []) := by
  intro H locs ls G hl
  unfold fSp_addressBy_151 at hf
  refine lv_iload C.1 C.2.1 qm_Sp_addressBy_151 (lv_at hl 0 rfl) ?_
  refine lv_goto (tgt := 166) C.1 C.2.1 qm_Sp_addressBy_153 (by decide) ?_
  exact wSp_addressBy_166 C S x6 hf _ _ _ G (lv_sub hl [] rfl)
set_option maxHeartbeats 4000000 in
set_option maxRecDepth 100000 in
theorem wSp_addressBy_124 {l : Launch} {D : va_G} {h : Nat → Nat} {K : Nat → ClassId} {res : Int32 × qS} {p : Program} {e : Env} {s : State} {m : MethodId} {args : Array Value} {below : List Frame} {meth : Method} {c : Code} {A : Nat → Prop} {ad : Nat → Nat} (C : qC p s m args meth c qm_Sp_addressBy_c 7 (some .int) qR_Sp ad) (S : qS) (x1 : Int32) (x2 : Int32) (y0 : Int32) (hf : fSp_addressBy_124 S x1 x2 y0 = some res) : ∀ (H : Heap) (locs : List Loc) (ls : Array Slot), qG D qCl (cT K) A s (cW h K S) H locs → lv_has ls 7 [(0, .ref (h 15)), (1, .int x1), (2, .int x2)] → W p l e ({ frames := 4, cells := 0, slots := 0, locals := 100 }) s m args below meth c H locs 0 0 (MQ below (qQi D qCl (cT K) (cW h K) A res) args s 0 0 A) (F0 m 124 ls [.int y0]) := by
  intro H locs ls G hl
  unfold fSp_addressBy_124 at hf
  refine lv_istore (lv' := [(5, .int y0), (0, .ref (h 15)), (1, .int x1), (2, .int x2)]) C.1 C.2.1 qm_Sp_addressBy_124 hl (by decide) rfl (fun ls hl => ?_)
  refine lv_aload_n C.1 C.2.1 qm_Sp_addressBy_126 rfl (lv_at hl 1 rfl) ?_
  refine q_get (wf := (cW h K)) (v := .ref (h 5)) C G qi_Sp 15 rfl rfl 0 (by decide) qz_208 rfl qm_Sp_addressBy_127 ?_
  refine lv_iload_n C.1 C.2.1 qm_Sp_addressBy_130 rfl (lv_at hl 3 rfl) ?_
  obtain ⟨q1, c1, hf⟩ := bnd_s hf
  refine q_callVi (wf := (cW h K)) (n := 1) (As := [.int x2]) (q0 := 5) (ci := 1) C G hl.1 (kCo_get (l := l) c1) qx_Sp_41 qm_Co_get_d ⟨by decide, by decide⟩ ⟨Nat.le_refl _, Nat.le_refl _⟩ rfl rfl rfl rfl rfl (Nat.le_of_ble_eq_true rfl) qm_Sp_addressBy_131 (fun H locs G => ?_)
  refine lv_iload C.1 C.2.1 qm_Sp_addressBy_134 (lv_at hl 0 rfl) ?_
  refine lv_iadd C.1 C.2.1 qm_Sp_addressBy_136 ?_
  refine lv_istore (lv' := [(6, .int (q1.1 + y0)), (5, .int y0), (0, .ref (h 15)), (1, .int x1), (2, .int x2)]) C.1 C.2.1 qm_Sp_addressBy_137 hl (by decide) rfl (fun ls hl => ?_)
  refine lv_iload_n C.1 C.2.1 qm_Sp_addressBy_139 rfl (lv_at hl 3 rfl) ?_
  refine lv_bipush (v := 10) C.1 C.2.1 qm_Sp_addressBy_140 (by decide) ?_
  refine lv_icmp_eq (tgt := 151) C.1 C.2.1 qm_Sp_addressBy_142 (by decide) (fun b2 => ?_) (fun b2 => ?_)
  · have hf := if_t b2 hf
    exact wSp_addressBy_151 C q1.2 (q1.1 + y0) hf _ _ _ G (lv_sub hl [0] rfl)
  · have hf := if_f b2 hf
    refine lv_iload_n C.1 C.2.1 qm_Sp_addressBy_145 rfl (lv_at hl 3 rfl) ?_
    refine lv_bipush (v := 14) C.1 C.2.1 qm_Sp_addressBy_146 (by decide) ?_
    refine lv_icmp_ne (tgt := 156) C.1 C.2.1 qm_Sp_addressBy_148 (by decide) (fun b3 => ?_) (fun b3 => ?_)
    · have hf := if_t b3 hf
      refine lv_aload_n C.1 C.2.1 qm_Sp_addressBy_156 rfl (lv_at hl 2 rfl) ?_
      refine q_get (wf := (cW h K)) (v := .ref (h 5)) C G qi_Sp 15 rfl rfl 0 (by decide) qz_208 rfl qm_Sp_addressBy_157 ?_
      refine lv_iload C.1 C.2.1 qm_Sp_addressBy_160 (lv_at hl 0 rfl) ?_
      refine lv_iconst (v := 4) C.1 C.2.1 qm_Sp_addressBy_162 (by decide) ?_
      obtain ⟨q4, c4, hf⟩ := bnd_s hf
      refine q_callVi (wf := (cW h K)) (n := 2) (As := [.int (q1.1 + y0), .int 4]) (q0 := 5) (ci := 1) C G hl.1 (kCo_read (l := l) c4) qx_Sp_59 qm_Co_read_d ⟨by decide, by decide⟩ ⟨Nat.le_refl _, Nat.le_refl _⟩ rfl rfl rfl rfl rfl (Nat.le_of_ble_eq_true rfl) qm_Sp_addressBy_163 (fun H locs G => ?_)
      exact wSp_addressBy_166 C q4.2 q4.1 hf _ _ _ G (lv_sub hl [] rfl)
    · have hf := if_f (not_not_intro b3) hf
      exact wSp_addressBy_151 C q1.2 (q1.1 + y0) hf _ _ _ G (lv_sub hl [0] rfl)
set_option maxHeartbeats 4000000 in
set_option maxRecDepth 100000 in
theorem wSp_addressBy_98 {l : Launch} {D : va_G} {h : Nat → Nat} {K : Nat → ClassId} {res : Int32 × qS} {p : Program} {e : Env} {s : State} {m : MethodId} {args : Array Value} {below : List Frame} {meth : Method} {c : Code} {A : Nat → Prop} {ad : Nat → Nat} (C : qC p s m args meth c qm_Sp_addressBy_c 7 (some .int) qR_Sp ad) (S : qS) (x1 : Int32) (x2 : Int32) (hf : fSp_addressBy_98 S x1 x2 = some res) : ∀ (H : Heap) (locs : List Loc) (ls : Array Slot), qG D qCl (cT K) A s (cW h K S) H locs → lv_has ls 7 [(0, .ref (h 15)), (1, .int x1), (2, .int x2)] → W p l e ({ frames := 4, cells := 0, slots := 0, locals := 100 }) s m args below meth c H locs 0 0 (MQ below (qQi D qCl (cT K) (cW h K) A res) args s 0 0 A) (F0 m 98 ls []) := by
  intro H locs ls G hl
  unfold fSp_addressBy_98 at hf
  refine lv_iload_n C.1 C.2.1 qm_Sp_addressBy_98 rfl (lv_at hl 1 rfl) ?_
  refine lv_bipush (v := 14) C.1 C.2.1 qm_Sp_addressBy_99 (by decide) ?_
  refine lv_icmp_ge (tgt := 116) C.1 C.2.1 qm_Sp_addressBy_101 (by decide) (fun b1 => ?_) (fun b1 => ?_)
  · have hf := if_t b1 hf
    refine lv_aload_n C.1 C.2.1 qm_Sp_addressBy_116 rfl (lv_at hl 0 rfl) ?_
    refine q_get (wf := (cW h K)) (v := .ref (h 5)) C G qi_Sp 15 rfl rfl 0 (by decide) qz_208 rfl qm_Sp_addressBy_117 ?_
    refine lv_iconst (v := 4) C.1 C.2.1 qm_Sp_addressBy_120 (by decide) ?_
    obtain ⟨q2, c2, hf⟩ := bnd_s hf
    refine q_callVi (wf := (cW h K)) (n := 1) (As := [.int 4]) (q0 := 5) (ci := 1) C G hl.1 (kCo_fetch (l := l) c2) qx_Sp_24 qm_Co_fetch_d ⟨by decide, by decide⟩ ⟨Nat.le_refl _, Nat.le_refl _⟩ rfl rfl rfl rfl rfl (Nat.le_of_ble_eq_true rfl) qm_Sp_addressBy_121 (fun H locs G => ?_)
    exact wSp_addressBy_124 C q2.2 x1 x2 q2.1 hf _ _ _ G (lv_sub hl [0, 1, 2] rfl)
  · have hf := if_f b1 hf
    refine lv_aload_n C.1 C.2.1 qm_Sp_addressBy_104 rfl (lv_at hl 0 rfl) ?_
    refine q_get (wf := (cW h K)) (v := .ref (h 5)) C G qi_Sp 15 rfl rfl 0 (by decide) qz_208 rfl qm_Sp_addressBy_105 ?_
    refine lv_iconst (v := 1) C.1 C.2.1 qm_Sp_addressBy_108 (by decide) ?_
    obtain ⟨q3, c3, hf⟩ := bnd_s hf
    refine q_callVi (wf := (cW h K)) (n := 1) (As := [.int 1]) (q0 := 5) (ci := 1) C G hl.1 (kCo_fetch (l := l) c3) qx_Sp_24 qm_Co_fetch_d ⟨by decide, by decide⟩ ⟨Nat.le_refl _, Nat.le_refl _⟩ rfl rfl rfl rfl rfl (Nat.le_of_ble_eq_true rfl) qm_Sp_addressBy_109 (fun H locs G => ?_)
    refine lv_i2b (v := q3.1.toInt8.toInt32) C.1 C.2.1 qm_Sp_addressBy_112 rfl ?_
    refine lv_goto (tgt := 124) C.1 C.2.1 qm_Sp_addressBy_113 (by decide) ?_
    exact wSp_addressBy_124 C q3.2 x1 x2 q3.1.toInt8.toInt32 hf _ _ _ G (lv_sub hl [0, 1, 2] rfl)
set_option maxHeartbeats 4000000 in
set_option maxRecDepth 100000 in
theorem wSp_addressBy {l : Launch} {D : va_G} {h : Nat → Nat} {K : Nat → ClassId} {res : Int32 × qS} {p : Program} {e : Env} {s : State} {m : MethodId} {args : Array Value} {below : List Frame} {meth : Method} {c : Code} {A : Nat → Prop} {ad : Nat → Nat} (C : qC p s m args meth c qm_Sp_addressBy_c 7 (some .int) qR_Sp ad) (S : qS) (a1 : Int32) (a2 : Int32) (a3 : Int32) (hf : fSp_addressBy S a1 a2 a3 = some res) : ∀ (H : Heap) (locs : List Loc) (ls : Array Slot), qG D qCl (cT K) A s (cW h K S) H locs → lv_has ls 7 [(0, .ref (h 15)), (1, .int a1), (2, .int a2), (3, .int a3)] → W p l e ({ frames := 4, cells := 0, slots := 0, locals := 100 }) s m args below meth c H locs 0 0 (MQ below (qQi D qCl (cT K) (cW h K) A res) args s 0 0 A) (F0 m 0 ls []) := by
  intro H locs ls G hl
  unfold fSp_addressBy at hf
  refine lv_aload_n C.1 C.2.1 qm_Sp_addressBy_0 rfl (lv_at hl 0 rfl) ?_
  refine q_get (wf := (cW h K)) (v := .ref (h 5)) C G qi_Sp 15 rfl rfl 0 (by decide) qz_208 rfl qm_Sp_addressBy_1 ?_
  refine lv_iload_n C.1 C.2.1 qm_Sp_addressBy_4 rfl (lv_at hl 2 rfl) ?_
  obtain ⟨q1, c1, hf⟩ := bnd_s hf
  refine q_callVi (wf := (cW h K)) (n := 1) (As := [.int a2]) (q0 := 5) (ci := 1) C G hl.1 (kCo_get (l := l) c1) qx_Sp_41 qm_Co_get_d ⟨by decide, by decide⟩ ⟨Nat.le_refl _, Nat.le_refl _⟩ rfl rfl rfl rfl rfl (Nat.le_of_ble_eq_true rfl) qm_Sp_addressBy_5 (fun H locs G => ?_)
  refine lv_istore (lv' := [(4, .int q1.1), (0, .ref (h 15)), (1, .int a1), (2, .int a2), (3, .int a3)]) C.1 C.2.1 qm_Sp_addressBy_8 hl (by decide) rfl (fun ls hl => ?_)
  refine lv_iload_n C.1 C.2.1 qm_Sp_addressBy_10 rfl (lv_at hl 2 rfl) ?_
  by_cases b2 : a1.toInt < 6 ∨ 9 < a1.toInt
  · have hf := if_t b2 hf
    refine lv_tableOut (tgt := 98) C.1 C.2.1 qm_Sp_addressBy_11 b2 (by decide) ?_
    exact wSp_addressBy_98 C q1.2 a1 a2 hf _ _ _ G (lv_sub hl [1, 2, 3] rfl)
  have hf := if_f b2 hf
  by_cases b2_6 : a1 = 6
  · have hf := if_t b2_6 hf
    refine lv_tableIn (tgt := 40) C.1 C.2.1 qm_Sp_addressBy_11 (by rw [b2_6]; decide) (by rw [b2_6]; decide) (by rw [b2_6]; rfl) (by decide) ?_
    exact wSp_addressBy_40 C q1.2 q1.1 hf _ _ _ G (lv_sub hl [0] rfl)
  have hf := if_f b2_6 hf
  by_cases b2_7 : a1 = 7
  · have hf := if_t b2_7 hf
    refine lv_tableIn (tgt := 43) C.1 C.2.1 qm_Sp_addressBy_11 (by rw [b2_7]; decide) (by rw [b2_7]; decide) (by rw [b2_7]; rfl) (by decide) ?_
    exact wSp_addressBy_43 C q1.2 a2 a3 q1.1 hf _ _ _ G (lv_sub hl [1, 3, 4, 0] rfl)
  have hf := if_f b2_7 hf
  by_cases b2_8 : a1 = 8
  · have hf := if_t b2_8 hf
    refine lv_tableIn (tgt := 60) C.1 C.2.1 qm_Sp_addressBy_11 (by rw [b2_8]; decide) (by rw [b2_8]; decide) (by rw [b2_8]; rfl) (by decide) ?_
    exact wSp_addressBy_60 C q1.2 a2 a3 q1.1 hf _ _ _ G (lv_sub hl [1, 3, 4, 0] rfl)
  have hf := if_f b2_8 hf
  by_cases b2_9 : a1 = 9
  · have hf := if_t b2_9 hf
    refine lv_tableIn (tgt := 75) C.1 C.2.1 qm_Sp_addressBy_11 (by rw [b2_9]; decide) (by rw [b2_9]; decide) (by rw [b2_9]; rfl) (by decide) ?_
    exact wSp_addressBy_75 C q1.2 a2 q1.1 hf _ _ _ G (lv_sub hl [1, 3, 0] rfl)
  have hf := if_f b2_9 hf
  cases hf
theorem kSp_addressBy {l : Launch} {ad : Nat → Nat} {D : va_G} {h : Nat → Nat} {K : Nat → ClassId} {res : Int32 × qS} {S : qS} {a1 : Int32} {a2 : Int32} {a3 : Int32} (hf : fSp_addressBy S a1 a2 a3 = some res) : qMi l qm_Sp_addressBy qm_Sp_addressBy_c 7 .int 4 100 D qCl (cT K) ad (cW h K) [.ref (h 15), .int a1, .int a2, .int a3] S res := qMi_of (by decide) (Nat.le_of_ble_eq_true rfl) (fun _ _ _ _ _ _ _ _ _ _ C G hl => wSp_addressBy C S a1 a2 a3 hf _ _ _ G hl)
set_option maxHeartbeats 4000000 in
set_option maxRecDepth 100000 in
theorem wSp_isRead_29 {l : Launch} {D : va_G} {h : Nat → Nat} {K : Nat → ClassId} {res : Int32 × qS} {p : Program} {e : Env} {s : State} {m : MethodId} {args : Array Value} {below : List Frame} {meth : Method} {c : Code} {A : Nat → Prop} {ad : Nat → Nat} (C : qC p s m args meth c qm_Sp_isRead_c 1 (some .boolean) qR_Sp ad) (S : qS) (y0 : Int32) (hf : fSp_isRead_29 S y0 = some res) : ∀ (H : Heap) (locs : List Loc) (ls : Array Slot), qG D qCl (cT K) A s (cW h K S) H locs → lv_has ls 1 [] → W p l e ({ frames := 0, cells := 0, slots := 0, locals := 0 }) s m args below meth c H locs 0 0 (MQ below (qQi D qCl (cT K) (cW h K) A res) args s 0 0 A) (F0 m 29 ls [.int y0]) := by
  intro H locs ls G hl
  unfold fSp_isRead_29 at hf
  exact q_zret (wf := (cW h K)) C G hf qm_Sp_isRead_29
set_option maxHeartbeats 4000000 in
set_option maxRecDepth 100000 in
theorem wSp_isRead_24 {l : Launch} {D : va_G} {h : Nat → Nat} {K : Nat → ClassId} {res : Int32 × qS} {p : Program} {e : Env} {s : State} {m : MethodId} {args : Array Value} {below : List Frame} {meth : Method} {c : Code} {A : Nat → Prop} {ad : Nat → Nat} (C : qC p s m args meth c qm_Sp_isRead_c 1 (some .boolean) qR_Sp ad) (S : qS) (hf : fSp_isRead_24 S = some res) : ∀ (H : Heap) (locs : List Loc) (ls : Array Slot), qG D qCl (cT K) A s (cW h K S) H locs → lv_has ls 1 [] → W p l e ({ frames := 0, cells := 0, slots := 0, locals := 0 }) s m args below meth c H locs 0 0 (MQ below (qQi D qCl (cT K) (cW h K) A res) args s 0 0 A) (F0 m 24 ls []) := by
  intro H locs ls G hl
  unfold fSp_isRead_24 at hf
  refine lv_iconst (v := 1) C.1 C.2.1 qm_Sp_isRead_24 (by decide) ?_
  refine lv_goto (tgt := 29) C.1 C.2.1 qm_Sp_isRead_25 (by decide) ?_
  exact wSp_isRead_29 C S 1 hf _ _ _ G (lv_sub hl [] rfl)
set_option maxHeartbeats 4000000 in
set_option maxRecDepth 100000 in
theorem wSp_isRead {l : Launch} {D : va_G} {h : Nat → Nat} {K : Nat → ClassId} {res : Int32 × qS} {p : Program} {e : Env} {s : State} {m : MethodId} {args : Array Value} {below : List Frame} {meth : Method} {c : Code} {A : Nat → Prop} {ad : Nat → Nat} (C : qC p s m args meth c qm_Sp_isRead_c 1 (some .boolean) qR_Sp ad) (S : qS) (a0 : Int32) (hf : fSp_isRead S a0 = some res) : ∀ (H : Heap) (locs : List Loc) (ls : Array Slot), qG D qCl (cT K) A s (cW h K S) H locs → lv_has ls 1 [(0, .int a0)] → W p l e ({ frames := 0, cells := 0, slots := 0, locals := 0 }) s m args below meth c H locs 0 0 (MQ below (qQi D qCl (cT K) (cW h K) A res) args s 0 0 A) (F0 m 0 ls []) := by
  intro H locs ls G hl
  unfold fSp_isRead at hf
  refine lv_iload_n C.1 C.2.1 qm_Sp_isRead_0 rfl (lv_at hl 0 rfl) ?_
  refine lv_bipush (v := 114) C.1 C.2.1 qm_Sp_isRead_1 (by decide) ?_
  refine lv_icmp_eq (tgt := 24) C.1 C.2.1 qm_Sp_isRead_3 (by decide) (fun b1 => ?_) (fun b1 => ?_)
  · have hf := if_t b1 hf
    exact wSp_isRead_24 C S hf _ _ _ G (lv_sub hl [] rfl)
  · have hf := if_f b1 hf
    refine lv_iload_n C.1 C.2.1 qm_Sp_isRead_6 rfl (lv_at hl 0 rfl) ?_
    refine lv_bipush (v := 82) C.1 C.2.1 qm_Sp_isRead_7 (by decide) ?_
    refine lv_icmp_eq (tgt := 24) C.1 C.2.1 qm_Sp_isRead_9 (by decide) (fun b2 => ?_) (fun b2 => ?_)
    · have hf := if_t b2 hf
      exact wSp_isRead_24 C S hf _ _ _ G (lv_sub hl [] rfl)
    · have hf := if_f b2 hf
      refine lv_iload_n C.1 C.2.1 qm_Sp_isRead_12 rfl (lv_at hl 0 rfl) ?_
      refine lv_bipush (v := 109) C.1 C.2.1 qm_Sp_isRead_13 (by decide) ?_
      refine lv_icmp_eq (tgt := 24) C.1 C.2.1 qm_Sp_isRead_15 (by decide) (fun b3 => ?_) (fun b3 => ?_)
      · have hf := if_t b3 hf
        exact wSp_isRead_24 C S hf _ _ _ G (lv_sub hl [] rfl)
      · have hf := if_f b3 hf
        refine lv_iload_n C.1 C.2.1 qm_Sp_isRead_18 rfl (lv_at hl 0 rfl) ?_
        refine lv_bipush (v := 77) C.1 C.2.1 qm_Sp_isRead_19 (by decide) ?_
        refine lv_icmp_ne (tgt := 28) C.1 C.2.1 qm_Sp_isRead_21 (by decide) (fun b4 => ?_) (fun b4 => ?_)
        · have hf := if_t b4 hf
          refine lv_iconst (v := 0) C.1 C.2.1 qm_Sp_isRead_28 (by decide) ?_
          exact wSp_isRead_29 C S 0 hf _ _ _ G (lv_sub hl [] rfl)
        · have hf := if_f (not_not_intro b4) hf
          exact wSp_isRead_24 C S hf _ _ _ G (lv_sub hl [] rfl)
theorem kSp_isRead {l : Launch} {ad : Nat → Nat} {D : va_G} {h : Nat → Nat} {K : Nat → ClassId} {res : Int32 × qS} {S : qS} {a0 : Int32} (hf : fSp_isRead S a0 = some res) : qMi l qm_Sp_isRead qm_Sp_isRead_c 1 .boolean 0 0 D qCl (cT K) ad (cW h K) [.int a0] S res := qMi_of (by decide) (Nat.le_of_ble_eq_true rfl) (fun _ _ _ _ _ _ _ _ _ _ C G hl => wSp_isRead C S a0 hf _ _ _ G hl)
set_option maxHeartbeats 4000000 in
set_option maxRecDepth 100000 in
theorem wSp_find_278 {l : Launch} {D : va_G} {h : Nat → Nat} {K : Nat → ClassId} {res : qS} {p : Program} {e : Env} {s : State} {m : MethodId} {args : Array Value} {below : List Frame} {meth : Method} {c : Code} {A : Nat → Prop} {ad : Nat → Nat} (C : qC p s m args meth c qm_Sp_find_c 7 none qR_Sp ad) (S : qS) (hf : fSp_find_278 S = some res) : ∀ (H : Heap) (locs : List Loc) (ls : Array Slot), qG D qCl (cT K) A s (cW h K S) H locs → lv_has ls 7 [] → W p l e ({ frames := 5, cells := 0, slots := 0, locals := 126 }) s m args below meth c H locs 0 0 (MQ below (qQv D qCl (cT K) (cW h K) A res) args s 0 0 A) (F0 m 278 ls []) := by
  intro H locs ls G hl
  unfold fSp_find_278 at hf
  exact q_vret (wf := (cW h K)) C G hf qm_Sp_find_278
set_option maxHeartbeats 4000000 in
set_option maxRecDepth 100000 in
theorem wSp_find_275 {l : Launch} {D : va_G} {h : Nat → Nat} {K : Nat → ClassId} {res : qS} {p : Program} {e : Env} {s : State} {m : MethodId} {args : Array Value} {below : List Frame} {meth : Method} {c : Code} {A : Nat → Prop} {ad : Nat → Nat} (C : qC p s m args meth c qm_Sp_find_c 7 none qR_Sp ad) (S : qS) (ky0 : Nat) (y1 : Int32) (hf : fSp_find_275 S ky0 y1 = some res) : ky0 < 3 → ∀ (H : Heap) (locs : List Loc) (ls : Array Slot), qG D qCl (cT K) A s (cW h K S) H locs → lv_has ls 7 [] → W p l e ({ frames := 5, cells := 0, slots := 0, locals := 126 }) s m args below meth c H locs 0 0 (MQ below (qQv D qCl (cT K) (cW h K) A res) args s 0 0 A) (F0 m 275 ls [.int y1, .ref (h (12 + ky0))]) := by
  intro hky0 H locs ls G hl
  unfold fSp_find_275 at hf
  refine q_putN (host := "QuadMode") (wf := (cW h K)) (S' := (pI S (14 + 4 * ky0) y1)) C G qi_Op qY_Op qy_Op qn_Op (12 + ky0) (cW_op ky0 hky0) rfl 3 (by decide) (by decide +kernel) rfl rfl (Nat.le_of_ble_eq_true rfl) (cW_op3 ky0 hky0 y1) qm_Sp_find_275 (fun H locs G => ?_)
  exact wSp_find_278 C (pI S (14 + 4 * ky0) y1) hf _ _ _ G (lv_sub hl [] rfl)
set_option maxHeartbeats 4000000 in
set_option maxRecDepth 100000 in
theorem wSp_find_248 {l : Launch} {D : va_G} {h : Nat → Nat} {K : Nat → ClassId} {res : qS} {p : Program} {e : Env} {s : State} {m : MethodId} {args : Array Value} {below : List Frame} {meth : Method} {c : Code} {A : Nat → Prop} {ad : Nat → Nat} (C : qC p s m args meth c qm_Sp_find_c 7 none qR_Sp ad) (S : qS) (k1 : Nat) (x2 : Int32) (hf : fSp_find_248 S k1 x2 = some res) : k1 < 3 → ∀ (H : Heap) (locs : List Loc) (ls : Array Slot), qG D qCl (cT K) A s (cW h K S) H locs → lv_has ls 7 [(0, .ref (h 15)), (1, .ref (h (12 + k1))), (2, .int x2)] → W p l e ({ frames := 5, cells := 0, slots := 0, locals := 126 }) s m args below meth c H locs 0 0 (MQ below (qQv D qCl (cT K) (cW h K) A res) args s 0 0 A) (F0 m 248 ls []) := by
  intro hk1 H locs ls G hl
  unfold fSp_find_248 at hf
  refine lv_aload_n C.1 C.2.1 qm_Sp_find_248 rfl (lv_at hl 1 rfl) ?_
  refine lv_iload_n C.1 C.2.1 qm_Sp_find_249 rfl (lv_at hl 2 rfl) ?_
  obtain ⟨q1, c1, hf⟩ := bnd_s hf
  refine q_callSi (wf := (cW h K)) (n := 1) (As := [.int x2]) C G hl.1 (kSp_isRead (l := l) c1) qx_Sp_55 qm_Sp_isRead_d ⟨by decide, by decide⟩ ⟨Nat.le_refl _, Nat.le_refl _⟩ rfl rfl (Nat.le_of_ble_eq_true rfl) qm_Sp_find_250 (fun H locs G => ?_)
  refine lv_if_eq (tgt := 274) C.1 C.2.1 qm_Sp_find_253 (by decide) (fun b2 => ?_) (fun b2 => ?_)
  · have hf := if_t b2 hf
    refine lv_iconst (v := 0) C.1 C.2.1 qm_Sp_find_274 (by decide) ?_
    exact wSp_find_275 C q1.2 k1 0 hf hk1 _ _ _ G (lv_sub hl [] rfl)
  · have hf := if_f b2 hf
    refine lv_aload_n C.1 C.2.1 qm_Sp_find_256 rfl (lv_at hl 0 rfl) ?_
    refine q_get (wf := (cW h K)) (v := .ref (h 5)) C G qi_Sp 15 rfl rfl 0 (by decide) qz_208 rfl qm_Sp_find_257 ?_
    refine lv_aload_n C.1 C.2.1 qm_Sp_find_260 rfl (lv_at hl 1 rfl) ?_
    refine q_getN (host := "QuadMode") (wf := (cW h K)) (v := .int (q1.2.1 (13 + 4 * k1))) C G qi_Op (12 + k1) (cW_op k1 hk1) rfl 2 (by decide) (by decide +kernel) rfl qm_Sp_find_261 ?_
    refine lv_aload_n C.1 C.2.1 qm_Sp_find_264 rfl (lv_at hl 1 rfl) ?_
    refine q_getN (host := "QuadMode") (wf := (cW h K)) (v := .int (q1.2.1 (11 + 4 * k1))) C G qi_Op (12 + k1) (cW_op k1 hk1) rfl 0 (by decide) (by decide +kernel) rfl qm_Sp_find_265 ?_
    obtain ⟨q3, c3, hf⟩ := bnd_s hf
    refine q_callVi (wf := (cW h K)) (n := 2) (As := [.int (q1.2.1 (13 + 4 * k1)), .int (q1.2.1 (11 + 4 * k1))]) (q0 := 5) (ci := 1) C G hl.1 (kCo_read (l := l) c3) qx_Sp_59 qm_Co_read_d ⟨by decide, by decide⟩ ⟨Nat.le_refl _, Nat.le_refl _⟩ rfl rfl rfl rfl rfl (Nat.le_of_ble_eq_true rfl) qm_Sp_find_268 (fun H locs G => ?_)
    refine lv_goto (tgt := 275) C.1 C.2.1 qm_Sp_find_271 (by decide) ?_
    exact wSp_find_275 C q3.2 k1 q3.1 hf hk1 _ _ _ G (lv_sub hl [] rfl)
set_option maxHeartbeats 4000000 in
set_option maxRecDepth 100000 in
theorem wSp_find_198 {l : Launch} {D : va_G} {h : Nat → Nat} {K : Nat → ClassId} {res : qS} {p : Program} {e : Env} {s : State} {m : MethodId} {args : Array Value} {below : List Frame} {meth : Method} {c : Code} {A : Nat → Prop} {ad : Nat → Nat} (C : qC p s m args meth c qm_Sp_find_c 7 none qR_Sp ad) (S : qS) (k1 : Nat) (x2 : Int32) (x4 : Int32) (x5 : Int32) (x6 : Int32) (hf : fSp_find_198 S k1 x2 x4 x5 x6 = some res) : k1 < 3 → ∀ (H : Heap) (locs : List Loc) (ls : Array Slot), qG D qCl (cT K) A s (cW h K S) H locs → lv_has ls 7 [(0, .ref (h 15)), (1, .ref (h (12 + k1))), (2, .int x2), (4, .int x4), (5, .int x5), (6, .int x6)] → W p l e ({ frames := 5, cells := 0, slots := 0, locals := 126 }) s m args below meth c H locs 0 0 (MQ below (qQv D qCl (cT K) (cW h K) A res) args s 0 0 A) (F0 m 198 ls []) := by
  intro hk1 H locs ls G hl
  unfold fSp_find_198 at hf
  refine lv_aload_n C.1 C.2.1 qm_Sp_find_198 rfl (lv_at hl 1 rfl) ?_
  refine lv_aload_n C.1 C.2.1 qm_Sp_find_199 rfl (lv_at hl 0 rfl) ?_
  refine lv_iload C.1 C.2.1 qm_Sp_find_200 (lv_at hl 5 rfl) ?_
  refine lv_iconst (v := 4) C.1 C.2.1 qm_Sp_find_202 (by decide) ?_
  refine lv_iushr (v := ushr x6 4) C.1 C.2.1 qm_Sp_find_203 rfl ?_
  refine lv_iload C.1 C.2.1 qm_Sp_find_204 (lv_at hl 5 rfl) ?_
  refine lv_bipush (v := 15) C.1 C.2.1 qm_Sp_find_206 (by decide) ?_
  refine lv_iand C.1 C.2.1 qm_Sp_find_208 ?_
  refine lv_aload_n C.1 C.2.1 qm_Sp_find_209 rfl (lv_at hl 1 rfl) ?_
  refine q_getN (host := "QuadMode") (wf := (cW h K)) (v := .int (S.1 (11 + 4 * k1))) C G qi_Op (12 + k1) (cW_op k1 hk1) rfl 0 (by decide) (by decide +kernel) rfl qm_Sp_find_210 ?_
  obtain ⟨q1, c1, hf⟩ := bnd_s hf
  refine q_callVi (wf := (cW h K)) (n := 3) (As := [.int (ushr x6 4), .int (x6 &&& 15), .int (S.1 (11 + 4 * k1))]) (q0 := 15) (ci := 4) C G hl.1 (kSp_addressBy (l := l) c1) qx_Sp_48 qm_Sp_addressBy_d ⟨by decide, by decide⟩ ⟨Nat.le_refl _, Nat.le_refl _⟩ rfl rfl rfl rfl rfl (Nat.le_of_ble_eq_true rfl) qm_Sp_find_213 (fun H locs G => ?_)
  refine q_putN (host := "QuadMode") (wf := (cW h K)) (S' := (pI q1.2 (13 + 4 * k1) q1.1)) C G qi_Op qY_Op qy_Op qn_Op (12 + k1) (cW_op k1 hk1) rfl 2 (by decide) (by decide +kernel) rfl rfl (Nat.le_of_ble_eq_true rfl) (cW_op2 k1 hk1 q1.1) qm_Sp_find_216 (fun H locs G => ?_)
  refine lv_iload C.1 C.2.1 qm_Sp_find_219 (lv_at hl 3 rfl) ?_
  refine lv_iconst (v := 4) C.1 C.2.1 qm_Sp_find_221 (by decide) ?_
  refine lv_icmp_ne (tgt := 248) C.1 C.2.1 qm_Sp_find_222 (by decide) (fun b2 => ?_) (fun b2 => ?_)
  · have hf := if_t b2 hf
    exact wSp_find_248 C (pI q1.2 (13 + 4 * k1) q1.1) k1 x2 hf hk1 _ _ _ G (lv_sub hl [0, 1, 2] rfl)
  · have hf := if_f (not_not_intro b2) hf
    refine lv_aload_n C.1 C.2.1 qm_Sp_find_225 rfl (lv_at hl 1 rfl) ?_
    refine lv_dup C.1 C.2.1 qm_Sp_find_226 rfl ?_
    refine q_getN (host := "QuadMode") (wf := (cW h K)) (v := .int ((pI q1.2 (13 + 4 * k1) q1.1).1 (13 + 4 * k1))) C G qi_Op (12 + k1) (cW_op k1 hk1) rfl 2 (by decide) (by decide +kernel) rfl qm_Sp_find_227 ?_
    refine lv_aload_n C.1 C.2.1 qm_Sp_find_230 rfl (lv_at hl 1 rfl) ?_
    refine q_getN (host := "QuadMode") (wf := (cW h K)) (v := .int ((pI q1.2 (13 + 4 * k1) q1.1).1 (11 + 4 * k1))) C G qi_Op (12 + k1) (cW_op k1 hk1) rfl 0 (by decide) (by decide +kernel) rfl qm_Sp_find_231 ?_
    refine lv_aload_n C.1 C.2.1 qm_Sp_find_234 rfl (lv_at hl 0 rfl) ?_
    refine q_get (wf := (cW h K)) (v := .ref (h 5)) C G qi_Sp 15 rfl rfl 0 (by decide) qz_208 rfl qm_Sp_find_235 ?_
    refine lv_iload C.1 C.2.1 qm_Sp_find_238 (lv_at hl 4 rfl) ?_
    obtain ⟨q3, c3, hf⟩ := bnd_s hf
    refine q_callVi (wf := (cW h K)) (n := 1) (As := [.int x5]) (q0 := 5) (ci := 1) C G hl.1 (kCo_get (l := l) c3) qx_Sp_41 qm_Co_get_d ⟨by decide, by decide⟩ ⟨Nat.le_refl _, Nat.le_refl _⟩ rfl rfl rfl rfl rfl (Nat.le_of_ble_eq_true rfl) qm_Sp_find_240 (fun H locs G => ?_)
    refine lv_imul C.1 C.2.1 qm_Sp_find_243 ?_
    refine lv_iadd C.1 C.2.1 qm_Sp_find_244 ?_
    refine q_putN (host := "QuadMode") (wf := (cW h K)) (S' := (pI q3.2 (13 + 4 * k1) (((pI q1.2 (13 + 4 * k1) q1.1).1 (13 + 4 * k1)) + (((pI q1.2 (13 + 4 * k1) q1.1).1 (11 + 4 * k1)) * q3.1)))) C G qi_Op qY_Op qy_Op qn_Op (12 + k1) (cW_op k1 hk1) rfl 2 (by decide) (by decide +kernel) rfl rfl (Nat.le_of_ble_eq_true rfl) (cW_op2 k1 hk1 (((pI q1.2 (13 + 4 * k1) q1.1).1 (13 + 4 * k1)) + (((pI q1.2 (13 + 4 * k1) q1.1).1 (11 + 4 * k1)) * q3.1))) qm_Sp_find_245 (fun H locs G => ?_)
    exact wSp_find_248 C (pI q3.2 (13 + 4 * k1) (((pI q1.2 (13 + 4 * k1) q1.1).1 (13 + 4 * k1)) + (((pI q1.2 (13 + 4 * k1) q1.1).1 (11 + 4 * k1)) * q3.1))) k1 x2 hf hk1 _ _ _ G (lv_sub hl [0, 1, 2] rfl)
set_option maxHeartbeats 4000000 in
set_option maxRecDepth 100000 in
theorem wSp_find_166 {l : Launch} {D : va_G} {h : Nat → Nat} {K : Nat → ClassId} {res : qS} {p : Program} {e : Env} {s : State} {m : MethodId} {args : Array Value} {below : List Frame} {meth : Method} {c : Code} {A : Nat → Prop} {ad : Nat → Nat} (C : qC p s m args meth c qm_Sp_find_c 7 none qR_Sp ad) (S : qS) (k1 : Nat) (x2 : Int32) (x4 : Int32) (x5 : Int32) (y0 : Int32) (hf : fSp_find_166 S k1 x2 x4 x5 y0 = some res) : k1 < 3 → ∀ (H : Heap) (locs : List Loc) (ls : Array Slot), qG D qCl (cT K) A s (cW h K S) H locs → lv_has ls 7 [(0, .ref (h 15)), (1, .ref (h (12 + k1))), (2, .int x2), (4, .int x4), (5, .int x5)] → W p l e ({ frames := 5, cells := 0, slots := 0, locals := 126 }) s m args below meth c H locs 0 0 (MQ below (qQv D qCl (cT K) (cW h K) A res) args s 0 0 A) (F0 m 166 ls [.int y0]) := by
  intro hk1 H locs ls G hl
  unfold fSp_find_166 at hf
  refine lv_istore (lv' := [(6, .int y0), (0, .ref (h 15)), (1, .ref (h (12 + k1))), (2, .int x2), (4, .int x4), (5, .int x5)]) C.1 C.2.1 qm_Sp_find_166 hl (by decide) rfl (fun ls hl => ?_)
  refine lv_iload C.1 C.2.1 qm_Sp_find_168 (lv_at hl 4 rfl) ?_
  refine lv_iconst (v := 4) C.1 C.2.1 qm_Sp_find_170 (by decide) ?_
  refine lv_icmp_ne (tgt := 198) C.1 C.2.1 qm_Sp_find_171 (by decide) (fun b1 => ?_) (fun b1 => ?_)
  · have hf := if_t b1 hf
    exact wSp_find_198 C S k1 x2 x4 x5 y0 hf hk1 _ _ _ G (lv_sub hl [1, 2, 3, 4, 5, 0] rfl)
  · have hf := if_f (not_not_intro b1) hf
    refine lv_iload C.1 C.2.1 qm_Sp_find_174 (lv_at hl 0 rfl) ?_
    refine lv_iconst (v := 4) C.1 C.2.1 qm_Sp_find_176 (by decide) ?_
    refine lv_iushr (v := ushr y0 4) C.1 C.2.1 qm_Sp_find_177 rfl ?_
    refine lv_iload C.1 C.2.1 qm_Sp_find_178 (lv_at hl 0 rfl) ?_
    refine lv_bipush (v := 15) C.1 C.2.1 qm_Sp_find_180 (by decide) ?_
    refine lv_iand C.1 C.2.1 qm_Sp_find_182 ?_
    obtain ⟨q2, c2, hf⟩ := bnd_s hf
    refine q_callSi (wf := (cW h K)) (n := 2) (As := [.int (ushr y0 4), .int (y0 &&& 15)]) C G hl.1 (kSp_suitsBehindIndexed (l := l) c2) qx_Sp_44 qm_Sp_suitsBehindIndexed_d ⟨by decide, by decide⟩ ⟨Nat.le_refl _, Nat.le_refl _⟩ rfl rfl (Nat.le_of_ble_eq_true rfl) qm_Sp_find_183 (fun H locs G => ?_)
    refine lv_if_ne (tgt := 198) C.1 C.2.1 qm_Sp_find_186 (by decide) (fun b3 => ?_) (fun b3 => ?_)
    · have hf := if_t b3 hf
      exact wSp_find_198 C q2.2 k1 x2 x4 x5 y0 hf hk1 _ _ _ G (lv_sub hl [1, 2, 3, 4, 5, 0] rfl)
    · have hf := if_f (not_not_intro b3) hf
      refine lv_aload_n C.1 C.2.1 qm_Sp_find_189 rfl (lv_at hl 1 rfl) ?_
      refine q_get (wf := (cW h K)) (v := .ref (h 5)) C G qi_Sp 15 rfl rfl 0 (by decide) qz_208 rfl qm_Sp_find_190 ?_
      refine lv_iconst (v := 3) C.1 C.2.1 qm_Sp_find_193 (by decide) ?_
      obtain ⟨S4, c4, hf⟩ := bnd_s hf
      refine q_callVv (wf := (cW h K)) (n := 1) (As := [.int 3]) (q0 := 5) (ci := 1) C G hl.1 (kCo_raise (l := l) c4) qx_Sp_37 qm_Co_raise_d ⟨by decide, by decide⟩ ⟨Nat.le_refl _, Nat.le_refl _⟩ rfl rfl rfl rfl rfl (Nat.le_of_ble_eq_true rfl) qm_Sp_find_194 (fun H locs G => ?_)
      exact q_vret (wf := (cW h K)) C G hf qm_Sp_find_197
set_option maxHeartbeats 4000000 in
set_option maxRecDepth 100000 in
theorem wSp_find_142 {l : Launch} {D : va_G} {h : Nat → Nat} {K : Nat → ClassId} {res : qS} {p : Program} {e : Env} {s : State} {m : MethodId} {args : Array Value} {below : List Frame} {meth : Method} {c : Code} {A : Nat → Prop} {ad : Nat → Nat} (C : qC p s m args meth c qm_Sp_find_c 7 none qR_Sp ad) (S : qS) (ky0 : Nat) (y1 : Int32) (hf : fSp_find_142 S ky0 y1 = some res) : ky0 < 3 → ∀ (H : Heap) (locs : List Loc) (ls : Array Slot), qG D qCl (cT K) A s (cW h K S) H locs → lv_has ls 7 [] → W p l e ({ frames := 5, cells := 0, slots := 0, locals := 126 }) s m args below meth c H locs 0 0 (MQ below (qQv D qCl (cT K) (cW h K) A res) args s 0 0 A) (F0 m 142 ls [.int y1, .ref (h (12 + ky0))]) := by
  intro hky0 H locs ls G hl
  unfold fSp_find_142 at hf
  refine q_putN (host := "QuadMode") (wf := (cW h K)) (S' := (pI S (14 + 4 * ky0) y1)) C G qi_Op qY_Op qy_Op qn_Op (12 + ky0) (cW_op ky0 hky0) rfl 3 (by decide) (by decide +kernel) rfl rfl (Nat.le_of_ble_eq_true rfl) (cW_op3 ky0 hky0 y1) qm_Sp_find_142 (fun H locs G => ?_)
  refine lv_goto (tgt := 278) C.1 C.2.1 qm_Sp_find_145 (by decide) ?_
  exact wSp_find_278 C (pI S (14 + 4 * ky0) y1) hf _ _ _ G (lv_sub hl [] rfl)
set_option maxHeartbeats 4000000 in
set_option maxRecDepth 100000 in
theorem wSp_find_17 {l : Launch} {D : va_G} {h : Nat → Nat} {K : Nat → ClassId} {res : qS} {p : Program} {e : Env} {s : State} {m : MethodId} {args : Array Value} {below : List Frame} {meth : Method} {c : Code} {A : Nat → Prop} {ad : Nat → Nat} (C : qC p s m args meth c qm_Sp_find_c 7 none qR_Sp ad) (S : qS) (k1 : Nat) (x2 : Int32) (ky0 : Nat) (y1 : Int32) (hf : fSp_find_17 S k1 x2 ky0 y1 = some res) : k1 < 3 → ky0 < 3 → ∀ (H : Heap) (locs : List Loc) (ls : Array Slot), qG D qCl (cT K) A s (cW h K S) H locs → lv_has ls 7 [(0, .ref (h 15)), (1, .ref (h (12 + k1))), (2, .int x2)] → W p l e ({ frames := 5, cells := 0, slots := 0, locals := 126 }) s m args below meth c H locs 0 0 (MQ below (qQv D qCl (cT K) (cW h K) A res) args s 0 0 A) (F0 m 17 ls [.int y1, .ref (h (12 + ky0))]) := by
  intro hk1 hky0 H locs ls G hl
  unfold fSp_find_17 at hf
  refine q_putN (host := "QuadMode") (wf := (cW h K)) (S' := (pI S (11 + 4 * ky0) y1)) C G qi_Op qY_Op qy_Op qn_Op (12 + ky0) (cW_op ky0 hky0) rfl 0 (by decide) (by decide +kernel) rfl rfl (Nat.le_of_ble_eq_true rfl) (cW_op0 ky0 hky0 y1) qm_Sp_find_17 (fun H locs G => ?_)
  refine lv_iload_n C.1 C.2.1 qm_Sp_find_20 rfl (lv_at hl 2 rfl) ?_
  refine lv_bipush (v := 100) C.1 C.2.1 qm_Sp_find_21 (by decide) ?_
  refine lv_icmp_ne (tgt := 40) C.1 C.2.1 qm_Sp_find_23 (by decide) (fun b1 => ?_) (fun b1 => ?_)
  · have hf := if_t b1 hf
    refine lv_aload_n C.1 C.2.1 qm_Sp_find_40 rfl (lv_at hl 0 rfl) ?_
    refine q_get (wf := (cW h K)) (v := .ref (h 5)) C G qi_Sp 15 rfl rfl 0 (by decide) qz_208 rfl qm_Sp_find_41 ?_
    refine lv_iconst (v := 1) C.1 C.2.1 qm_Sp_find_44 (by decide) ?_
    obtain ⟨q2, c2, hf⟩ := bnd_s hf
    refine q_callVi (wf := (cW h K)) (n := 1) (As := [.int 1]) (q0 := 5) (ci := 1) C G hl.1 (kCo_fetch (l := l) c2) qx_Sp_24 qm_Co_fetch_d ⟨by decide, by decide⟩ ⟨Nat.le_refl _, Nat.le_refl _⟩ rfl rfl rfl rfl rfl (Nat.le_of_ble_eq_true rfl) qm_Sp_find_45 (fun H locs G => ?_)
    refine lv_istore_n (lv' := [(3, .int q2.1), (0, .ref (h 15)), (1, .ref (h (12 + k1))), (2, .int x2)]) C.1 C.2.1 qm_Sp_find_48 rfl hl (by decide) rfl (fun ls hl => ?_)
    refine lv_iload_n C.1 C.2.1 qm_Sp_find_49 rfl (lv_at hl 0 rfl) ?_
    refine lv_iconst (v := 4) C.1 C.2.1 qm_Sp_find_50 (by decide) ?_
    refine lv_iushr (v := ushr q2.1 4) C.1 C.2.1 qm_Sp_find_51 rfl ?_
    refine lv_istore (lv' := [(4, .int (ushr q2.1 4)), (3, .int q2.1), (0, .ref (h 15)), (1, .ref (h (12 + k1))), (2, .int x2)]) C.1 C.2.1 qm_Sp_find_52 hl (by decide) rfl (fun ls hl => ?_)
    refine lv_iload_n C.1 C.2.1 qm_Sp_find_54 rfl (lv_at hl 1 rfl) ?_
    refine lv_bipush (v := 15) C.1 C.2.1 qm_Sp_find_55 (by decide) ?_
    refine lv_iand C.1 C.2.1 qm_Sp_find_57 ?_
    refine lv_istore (lv' := [(5, .int (q2.1 &&& 15)), (4, .int (ushr q2.1 4)), (3, .int q2.1), (0, .ref (h 15)), (1, .ref (h (12 + k1))), (2, .int x2)]) C.1 C.2.1 qm_Sp_find_58 hl (by decide) rfl (fun ls hl => ?_)
    refine lv_iload C.1 C.2.1 qm_Sp_find_60 (lv_at hl 1 rfl) ?_
    refine lv_iload C.1 C.2.1 qm_Sp_find_62 (lv_at hl 0 rfl) ?_
    refine lv_iload_n C.1 C.2.1 qm_Sp_find_64 rfl (lv_at hl 5 rfl) ?_
    obtain ⟨q3, c3, hf⟩ := bnd_s hf
    refine q_callSi (wf := (cW h K)) (n := 3) (As := [.int (ushr q2.1 4), .int (q2.1 &&& 15), .int x2]) C G hl.1 (kSp_suits (l := l) c3) qx_Sp_33 qm_Sp_suits_d ⟨by decide, by decide⟩ ⟨Nat.le_refl _, Nat.le_refl _⟩ rfl rfl (Nat.le_of_ble_eq_true rfl) qm_Sp_find_65 (fun H locs G => ?_)
    refine lv_if_ne (tgt := 82) C.1 C.2.1 qm_Sp_find_68 (by decide) (fun b4 => ?_) (fun b4 => ?_)
    · have hf := if_t b4 hf
      refine lv_iload C.1 C.2.1 qm_Sp_find_82 (lv_at hl 1 rfl) ?_
      refine lv_iconst (v := 4) C.1 C.2.1 qm_Sp_find_84 (by decide) ?_
      refine lv_icmp_ge (tgt := 96) C.1 C.2.1 qm_Sp_find_85 (by decide) (fun b5 => ?_) (fun b5 => ?_)
      · have hf := if_t b5 hf
        refine lv_iload C.1 C.2.1 qm_Sp_find_96 (lv_at hl 1 rfl) ?_
        refine lv_iconst (v := 5) C.1 C.2.1 qm_Sp_find_98 (by decide) ?_
        refine lv_icmp_ne (tgt := 148) C.1 C.2.1 qm_Sp_find_99 (by decide) (fun b6 => ?_) (fun b6 => ?_)
        · have hf := if_t b6 hf
          refine lv_iload C.1 C.2.1 qm_Sp_find_148 (lv_at hl 1 rfl) ?_
          refine lv_iconst (v := 4) C.1 C.2.1 qm_Sp_find_150 (by decide) ?_
          refine lv_icmp_ne (tgt := 165) C.1 C.2.1 qm_Sp_find_151 (by decide) (fun b7 => ?_) (fun b7 => ?_)
          · have hf := if_t b7 hf
            refine lv_iload_n C.1 C.2.1 qm_Sp_find_165 rfl (lv_at hl 2 rfl) ?_
            exact wSp_find_166 C q3.2 k1 x2 (ushr q2.1 4) (q2.1 &&& 15) q2.1 hf hk1 _ _ _ G (lv_sub hl [3, 4, 5, 1, 0] rfl)
          · have hf := if_f (not_not_intro b7) hf
            refine lv_aload_n C.1 C.2.1 qm_Sp_find_154 rfl (lv_at hl 3 rfl) ?_
            refine q_get (wf := (cW h K)) (v := .ref (h 5)) C G qi_Sp 15 rfl rfl 0 (by decide) qz_208 rfl qm_Sp_find_155 ?_
            refine lv_iconst (v := 1) C.1 C.2.1 qm_Sp_find_158 (by decide) ?_
            obtain ⟨q8, c8, hf⟩ := bnd_s hf
            refine q_callVi (wf := (cW h K)) (n := 1) (As := [.int 1]) (q0 := 5) (ci := 1) C G hl.1 (kCo_fetch (l := l) c8) qx_Sp_24 qm_Co_fetch_d ⟨by decide, by decide⟩ ⟨Nat.le_refl _, Nat.le_refl _⟩ rfl rfl rfl rfl rfl (Nat.le_of_ble_eq_true rfl) qm_Sp_find_159 (fun H locs G => ?_)
            refine lv_goto (tgt := 166) C.1 C.2.1 qm_Sp_find_162 (by decide) ?_
            exact wSp_find_166 C q8.2 k1 x2 (ushr q2.1 4) (q2.1 &&& 15) q8.1 hf hk1 _ _ _ G (lv_sub hl [3, 4, 5, 1, 0] rfl)
        · have hf := if_f (not_not_intro b6) hf
          refine lv_aload_n C.1 C.2.1 qm_Sp_find_102 rfl (lv_at hl 4 rfl) ?_
          refine lv_iload C.1 C.2.1 qm_Sp_find_103 (lv_at hl 0 rfl) ?_
          refine q_putN (host := "QuadMode") (wf := (cW h K)) (S' := (pI q3.2 (12 + 4 * k1) (q2.1 &&& 15))) C G qi_Op qY_Op qy_Op qn_Op (12 + k1) (cW_op k1 hk1) rfl 1 (by decide) (by decide +kernel) rfl rfl (Nat.le_of_ble_eq_true rfl) (cW_op1 k1 hk1 (q2.1 &&& 15)) qm_Sp_find_105 (fun H locs G => ?_)
          refine lv_aload_n C.1 C.2.1 qm_Sp_find_108 rfl (lv_at hl 4 rfl) ?_
          refine lv_aload_n C.1 C.2.1 qm_Sp_find_109 rfl (lv_at hl 4 rfl) ?_
          refine q_getN (host := "QuadMode") (wf := (cW h K)) (v := .int ((pI q3.2 (12 + 4 * k1) (q2.1 &&& 15)).1 (11 + 4 * k1))) C G qi_Op (12 + k1) (cW_op k1 hk1) rfl 0 (by decide) (by decide +kernel) rfl qm_Sp_find_110 ?_
          refine lv_iconst (v := 1) C.1 C.2.1 qm_Sp_find_113 (by decide) ?_
          refine lv_icmp_ne (tgt := 133) C.1 C.2.1 qm_Sp_find_114 (by decide) (fun b9 => ?_) (fun b9 => ?_)
          · have hf := if_t b9 hf
            refine lv_aload_n C.1 C.2.1 qm_Sp_find_133 rfl (lv_at hl 3 rfl) ?_
            refine q_get (wf := (cW h K)) (v := .ref (h 5)) C G qi_Sp 15 rfl rfl 0 (by decide) qz_208 rfl qm_Sp_find_134 ?_
            refine lv_iload C.1 C.2.1 qm_Sp_find_137 (lv_at hl 0 rfl) ?_
            obtain ⟨q10, c10, hf⟩ := bnd_s hf
            refine q_callVi (wf := (cW h K)) (n := 1) (As := [.int (q2.1 &&& 15)]) (q0 := 5) (ci := 1) C G hl.1 (kCo_get (l := l) c10) qx_Sp_41 qm_Co_get_d ⟨by decide, by decide⟩ ⟨Nat.le_refl _, Nat.le_refl _⟩ rfl rfl rfl rfl rfl (Nat.le_of_ble_eq_true rfl) qm_Sp_find_139 (fun H locs G => ?_)
            exact wSp_find_142 C q10.2 k1 q10.1 hf hk1 _ _ _ G (lv_sub hl [] rfl)
          · have hf := if_f (not_not_intro b9) hf
            refine lv_aload_n C.1 C.2.1 qm_Sp_find_117 rfl (lv_at hl 3 rfl) ?_
            refine q_get (wf := (cW h K)) (v := .ref (h 5)) C G qi_Sp 15 rfl rfl 0 (by decide) qz_208 rfl qm_Sp_find_118 ?_
            refine lv_iload C.1 C.2.1 qm_Sp_find_121 (lv_at hl 0 rfl) ?_
            obtain ⟨q11, c11, hf⟩ := bnd_s hf
            refine q_callVi (wf := (cW h K)) (n := 1) (As := [.int (q2.1 &&& 15)]) (q0 := 5) (ci := 1) C G hl.1 (kCo_get (l := l) c11) qx_Sp_41 qm_Co_get_d ⟨by decide, by decide⟩ ⟨Nat.le_refl _, Nat.le_refl _⟩ rfl rfl rfl rfl rfl (Nat.le_of_ble_eq_true rfl) qm_Sp_find_123 (fun H locs G => ?_)
            refine lv_sipush (v := 255) C.1 C.2.1 qm_Sp_find_126 (by decide) ?_
            refine lv_iand C.1 C.2.1 qm_Sp_find_129 ?_
            refine lv_goto (tgt := 142) C.1 C.2.1 qm_Sp_find_130 (by decide) ?_
            exact wSp_find_142 C q11.2 k1 (q11.1 &&& 255) hf hk1 _ _ _ G (lv_sub hl [] rfl)
      · have hf := if_f b5 hf
        refine lv_aload_n C.1 C.2.1 qm_Sp_find_88 rfl (lv_at hl 4 rfl) ?_
        refine lv_iload_n C.1 C.2.1 qm_Sp_find_89 rfl (lv_at hl 2 rfl) ?_
        refine q_putN (host := "QuadMode") (wf := (cW h K)) (S' := (pI q3.2 (14 + 4 * k1) q2.1)) C G qi_Op qY_Op qy_Op qn_Op (12 + k1) (cW_op k1 hk1) rfl 3 (by decide) (by decide +kernel) rfl rfl (Nat.le_of_ble_eq_true rfl) (cW_op3 k1 hk1 q2.1) qm_Sp_find_90 (fun H locs G => ?_)
        refine lv_goto (tgt := 278) C.1 C.2.1 qm_Sp_find_93 (by decide) ?_
        exact wSp_find_278 C (pI q3.2 (14 + 4 * k1) q2.1) hf _ _ _ G (lv_sub hl [] rfl)
    · have hf := if_f (not_not_intro b4) hf
      refine lv_aload_n C.1 C.2.1 qm_Sp_find_71 rfl (lv_at hl 3 rfl) ?_
      refine q_get (wf := (cW h K)) (v := .ref (h 5)) C G qi_Sp 15 rfl rfl 0 (by decide) qz_208 rfl qm_Sp_find_72 ?_
      refine lv_iconst (v := 3) C.1 C.2.1 qm_Sp_find_75 (by decide) ?_
      obtain ⟨S12, c12, hf⟩ := bnd_s hf
      refine q_callVv (wf := (cW h K)) (n := 1) (As := [.int 3]) (q0 := 5) (ci := 1) C G hl.1 (kCo_raise (l := l) c12) qx_Sp_37 qm_Co_raise_d ⟨by decide, by decide⟩ ⟨Nat.le_refl _, Nat.le_refl _⟩ rfl rfl rfl rfl rfl (Nat.le_of_ble_eq_true rfl) qm_Sp_find_76 (fun H locs G => ?_)
      refine lv_goto (tgt := 278) C.1 C.2.1 qm_Sp_find_79 (by decide) ?_
      exact wSp_find_278 C S12 hf _ _ _ G (lv_sub hl [] rfl)
  · have hf := if_f (not_not_intro b1) hf
    refine lv_aload_n C.1 C.2.1 qm_Sp_find_26 rfl (lv_at hl 1 rfl) ?_
    refine lv_aload_n C.1 C.2.1 qm_Sp_find_27 rfl (lv_at hl 0 rfl) ?_
    refine q_get (wf := (cW h K)) (v := .ref (h 5)) C G qi_Sp 15 rfl rfl 0 (by decide) qz_208 rfl qm_Sp_find_28 ?_
    refine lv_iconst (v := 1) C.1 C.2.1 qm_Sp_find_31 (by decide) ?_
    obtain ⟨q13, c13, hf⟩ := bnd_s hf
    refine q_callVi (wf := (cW h K)) (n := 1) (As := [.int 1]) (q0 := 5) (ci := 1) C G hl.1 (kCo_fetch (l := l) c13) qx_Sp_24 qm_Co_fetch_d ⟨by decide, by decide⟩ ⟨Nat.le_refl _, Nat.le_refl _⟩ rfl rfl rfl rfl rfl (Nat.le_of_ble_eq_true rfl) qm_Sp_find_32 (fun H locs G => ?_)
    refine lv_i2b (v := q13.1.toInt8.toInt32) C.1 C.2.1 qm_Sp_find_35 rfl ?_
    refine q_putN (host := "QuadMode") (wf := (cW h K)) (S' := (pI q13.2 (14 + 4 * k1) q13.1.toInt8.toInt32)) C G qi_Op qY_Op qy_Op qn_Op (12 + k1) (cW_op k1 hk1) rfl 3 (by decide) (by decide +kernel) rfl rfl (Nat.le_of_ble_eq_true rfl) (cW_op3 k1 hk1 q13.1.toInt8.toInt32) qm_Sp_find_36 (fun H locs G => ?_)
    exact q_vret (wf := (cW h K)) C G hf qm_Sp_find_39
set_option maxHeartbeats 4000000 in
set_option maxRecDepth 100000 in
theorem wSp_find {l : Launch} {D : va_G} {h : Nat → Nat} {K : Nat → ClassId} {res : qS} {p : Program} {e : Env} {s : State} {m : MethodId} {args : Array Value} {below : List Frame} {meth : Method} {c : Code} {A : Nat → Prop} {ad : Nat → Nat} (C : qC p s m args meth c qm_Sp_find_c 7 none qR_Sp ad) (S : qS) (k1 : Nat) (a2 : Int32) (hf : fSp_find S k1 a2 = some res) : k1 < 3 → ∀ (H : Heap) (locs : List Loc) (ls : Array Slot), qG D qCl (cT K) A s (cW h K S) H locs → lv_has ls 7 [(0, .ref (h 15)), (1, .ref (h (12 + k1))), (2, .int a2)] → W p l e ({ frames := 5, cells := 0, slots := 0, locals := 126 }) s m args below meth c H locs 0 0 (MQ below (qQv D qCl (cT K) (cW h K) A res) args s 0 0 A) (F0 m 0 ls []) := by
  intro hk1 H locs ls G hl
  unfold fSp_find at hf
  refine lv_aload_n C.1 C.2.1 qm_Sp_find_0 rfl (lv_at hl 1 rfl) ?_
  refine lv_iconst (v := (-1)) C.1 C.2.1 qm_Sp_find_1 (by decide) ?_
  refine q_putN (host := "QuadMode") (wf := (cW h K)) (S' := (pI S (12 + 4 * k1) (-1))) C G qi_Op qY_Op qy_Op qn_Op (12 + k1) (cW_op k1 hk1) rfl 1 (by decide) (by decide +kernel) rfl rfl (Nat.le_of_ble_eq_true rfl) (cW_op1 k1 hk1 (-1)) qm_Sp_find_2 (fun H locs G => ?_)
  refine lv_aload_n C.1 C.2.1 qm_Sp_find_5 rfl (lv_at hl 1 rfl) ?_
  refine lv_iload_n C.1 C.2.1 qm_Sp_find_6 rfl (lv_at hl 2 rfl) ?_
  refine lv_bipush (v := 97) C.1 C.2.1 qm_Sp_find_7 (by decide) ?_
  refine lv_icmp_ge (tgt := 16) C.1 C.2.1 qm_Sp_find_9 (by decide) (fun b1 => ?_) (fun b1 => ?_)
  · have hf := if_t b1 hf
    refine lv_iconst (v := 1) C.1 C.2.1 qm_Sp_find_16 (by decide) ?_
    exact wSp_find_17 C (pI S (12 + 4 * k1) (-1)) k1 a2 k1 1 hf hk1 hk1 _ _ _ G (lv_sub hl [0, 1, 2] rfl)
  · have hf := if_f b1 hf
    refine lv_iconst (v := 4) C.1 C.2.1 qm_Sp_find_12 (by decide) ?_
    refine lv_goto (tgt := 17) C.1 C.2.1 qm_Sp_find_13 (by decide) ?_
    exact wSp_find_17 C (pI S (12 + 4 * k1) (-1)) k1 a2 k1 4 hf hk1 hk1 _ _ _ G (lv_sub hl [0, 1, 2] rfl)
theorem kSp_find {l : Launch} {ad : Nat → Nat} {D : va_G} {h : Nat → Nat} {K : Nat → ClassId} {res : qS} {S : qS} {k1 : Nat} {a2 : Int32} (hf : fSp_find S k1 a2 = some res) (hk1 : k1 < 3) : qMv l qm_Sp_find qm_Sp_find_c 7 5 126 D qCl (cT K) ad (cW h K) [.ref (h 15), .ref (h (12 + k1)), .int a2] S res := qMv_of (by decide) (Nat.le_of_ble_eq_true rfl) (fun _ _ _ _ _ _ _ _ _ _ C G hl => wSp_find C S k1 a2 hf hk1 _ _ _ G hl)
