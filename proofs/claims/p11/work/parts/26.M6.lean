theorem qm_M_isMet_0 : decode qm_M_isMet_c 0 = .ok (.iload_n 1, 1) := by decide +kernel
theorem qm_M_isMet_1 : decode qm_M_isMet_c 1 = .ok (.bipush 50, 2) := by decide +kernel
theorem qm_M_isMet_3 : decode qm_M_isMet_c 3 = .ok (.isub, 1) := by decide +kernel
theorem qm_M_isMet_4 : decode qm_M_isMet_c 4 = .ok (.iconst 2, 1) := by decide +kernel
theorem qm_M_isMet_5 : decode qm_M_isMet_c 5 = .ok (.idiv, 1) := by decide +kernel
theorem qm_M_isMet_6 : decode qm_M_isMet_c 6 = .ok (.istore_n 2, 1) := by decide +kernel
theorem qm_M_isMet_7 : decode qm_M_isMet_c 7 = .ok (.aload_n 0, 1) := by decide +kernel
theorem qm_M_isMet_8 : decode qm_M_isMet_c 8 = .ok (.iconst 3, 1) := by decide +kernel
theorem qm_M_isMet_9 : decode qm_M_isMet_c 9 = .ok (.invokevirtual 106, 3) := by decide +kernel
theorem qm_M_isMet_12 : decode qm_M_isMet_c 12 = .ok (.istore_n 3, 1) := by decide +kernel
theorem qm_M_isMet_13 : decode qm_M_isMet_c 13 = .ok (.aload_n 0, 1) := by decide +kernel
theorem qm_M_isMet_14 : decode qm_M_isMet_c 14 = .ok (.iconst 2, 1) := by decide +kernel
theorem qm_M_isMet_15 : decode qm_M_isMet_c 15 = .ok (.invokevirtual 106, 3) := by decide +kernel
theorem qm_M_isMet_18 : decode qm_M_isMet_c 18 = .ok (.istore 4, 2) := by decide +kernel
theorem qm_M_isMet_20 : decode qm_M_isMet_c 20 = .ok (.iload_n 2, 1) := by decide +kernel
theorem qm_M_isMet_21 : decode qm_M_isMet_c 21 = .ok (.ifCond .ne 8, 3) := by decide +kernel
theorem qm_M_isMet_24 : decode qm_M_isMet_c 24 = .ok (.iload 4, 2) := by decide +kernel
theorem qm_M_isMet_26 : decode qm_M_isMet_c 26 = .ok (.goto 78, 3) := by decide +kernel
theorem qm_M_isMet_29 : decode qm_M_isMet_c 29 = .ok (.iload_n 2, 1) := by decide +kernel
theorem qm_M_isMet_30 : decode qm_M_isMet_c 30 = .ok (.iconst 1, 1) := by decide +kernel
theorem qm_M_isMet_31 : decode qm_M_isMet_c 31 = .ok (.if_icmp .ne 20, 3) := by decide +kernel
theorem qm_M_isMet_34 : decode qm_M_isMet_c 34 = .ok (.iload_n 3, 1) := by decide +kernel
theorem qm_M_isMet_35 : decode qm_M_isMet_c 35 = .ok (.ifCond .ne 8, 3) := by decide +kernel
theorem qm_M_isMet_38 : decode qm_M_isMet_c 38 = .ok (.iload 4, 2) := by decide +kernel
theorem qm_M_isMet_40 : decode qm_M_isMet_c 40 = .ok (.ifCond .eq 7, 3) := by decide +kernel
theorem qm_M_isMet_43 : decode qm_M_isMet_c 43 = .ok (.iconst 1, 1) := by decide +kernel
theorem qm_M_isMet_44 : decode qm_M_isMet_c 44 = .ok (.goto 60, 3) := by decide +kernel
theorem qm_M_isMet_47 : decode qm_M_isMet_c 47 = .ok (.iconst 0, 1) := by decide +kernel
theorem qm_M_isMet_48 : decode qm_M_isMet_c 48 = .ok (.goto 56, 3) := by decide +kernel
theorem qm_M_isMet_51 : decode qm_M_isMet_c 51 = .ok (.iload_n 2, 1) := by decide +kernel
theorem qm_M_isMet_52 : decode qm_M_isMet_c 52 = .ok (.iconst 2, 1) := by decide +kernel
theorem qm_M_isMet_53 : decode qm_M_isMet_c 53 = .ok (.if_icmp .ne 7, 3) := by decide +kernel
theorem qm_M_isMet_56 : decode qm_M_isMet_c 56 = .ok (.iload_n 3, 1) := by decide +kernel
theorem qm_M_isMet_57 : decode qm_M_isMet_c 57 = .ok (.goto 47, 3) := by decide +kernel
theorem qm_M_isMet_60 : decode qm_M_isMet_c 60 = .ok (.iload_n 2, 1) := by decide +kernel
theorem qm_M_isMet_61 : decode qm_M_isMet_c 61 = .ok (.iconst 3, 1) := by decide +kernel
theorem qm_M_isMet_62 : decode qm_M_isMet_c 62 = .ok (.if_icmp .ne 24, 3) := by decide +kernel
theorem qm_M_isMet_65 : decode qm_M_isMet_c 65 = .ok (.aload_n 0, 1) := by decide +kernel
theorem qm_M_isMet_66 : decode qm_M_isMet_c 66 = .ok (.iconst 0, 1) := by decide +kernel
theorem qm_M_isMet_67 : decode qm_M_isMet_c 67 = .ok (.invokevirtual 106, 3) := by decide +kernel
theorem qm_M_isMet_70 : decode qm_M_isMet_c 70 = .ok (.ifCond .ne 8, 3) := by decide +kernel
theorem qm_M_isMet_73 : decode qm_M_isMet_c 73 = .ok (.iload 4, 2) := by decide +kernel
theorem qm_M_isMet_75 : decode qm_M_isMet_c 75 = .ok (.ifCond .eq 7, 3) := by decide +kernel
theorem qm_M_isMet_78 : decode qm_M_isMet_c 78 = .ok (.iconst 1, 1) := by decide +kernel
theorem qm_M_isMet_79 : decode qm_M_isMet_c 79 = .ok (.goto 25, 3) := by decide +kernel
theorem qm_M_isMet_82 : decode qm_M_isMet_c 82 = .ok (.iconst 0, 1) := by decide +kernel
theorem qm_M_isMet_83 : decode qm_M_isMet_c 83 = .ok (.goto 21, 3) := by decide +kernel
theorem qm_M_isMet_86 : decode qm_M_isMet_c 86 = .ok (.iload_n 2, 1) := by decide +kernel
theorem qm_M_isMet_87 : decode qm_M_isMet_c 87 = .ok (.iconst 4, 1) := by decide +kernel
theorem qm_M_isMet_88 : decode qm_M_isMet_c 88 = .ok (.if_icmp .ne 11, 3) := by decide +kernel
theorem qm_M_isMet_91 : decode qm_M_isMet_c 91 = .ok (.aload_n 0, 1) := by decide +kernel
theorem qm_M_isMet_92 : decode qm_M_isMet_c 92 = .ok (.iconst 1, 1) := by decide +kernel
theorem qm_M_isMet_93 : decode qm_M_isMet_c 93 = .ok (.invokevirtual 106, 3) := by decide +kernel
theorem qm_M_isMet_96 : decode qm_M_isMet_c 96 = .ok (.goto 8, 3) := by decide +kernel
theorem qm_M_isMet_99 : decode qm_M_isMet_c 99 = .ok (.aload_n 0, 1) := by decide +kernel
theorem qm_M_isMet_100 : decode qm_M_isMet_c 100 = .ok (.iconst 0, 1) := by decide +kernel
theorem qm_M_isMet_101 : decode qm_M_isMet_c 101 = .ok (.invokevirtual 106, 3) := by decide +kernel
theorem qm_M_isMet_104 : decode qm_M_isMet_c 104 = .ok (.istore 5, 2) := by decide +kernel
theorem qm_M_isMet_106 : decode qm_M_isMet_c 106 = .ok (.iload 5, 2) := by decide +kernel
theorem qm_M_isMet_108 : decode qm_M_isMet_c 108 = .ok (.iload_n 1, 1) := by decide +kernel
theorem qm_M_isMet_109 : decode qm_M_isMet_c 109 = .ok (.bipush 50, 2) := by decide +kernel
theorem qm_M_isMet_111 : decode qm_M_isMet_c 111 = .ok (.isub, 1) := by decide +kernel
theorem qm_M_isMet_112 : decode qm_M_isMet_c 112 = .ok (.iconst 2, 1) := by decide +kernel
theorem qm_M_isMet_113 : decode qm_M_isMet_c 113 = .ok (.irem, 1) := by decide +kernel
theorem qm_M_isMet_114 : decode qm_M_isMet_c 114 = .ok (.iconst 1, 1) := by decide +kernel
theorem qm_M_isMet_115 : decode qm_M_isMet_c 115 = .ok (.if_icmp .ne 7, 3) := by decide +kernel
theorem qm_M_isMet_118 : decode qm_M_isMet_c 118 = .ok (.iconst 1, 1) := by decide +kernel
theorem qm_M_isMet_119 : decode qm_M_isMet_c 119 = .ok (.goto 4, 3) := by decide +kernel
theorem qm_M_isMet_122 : decode qm_M_isMet_c 122 = .ok (.iconst 0, 1) := by decide +kernel
theorem qm_M_isMet_123 : decode qm_M_isMet_c 123 = .ok (.if_icmp .ne 7, 3) := by decide +kernel
theorem qm_M_isMet_126 : decode qm_M_isMet_c 126 = .ok (.iconst 1, 1) := by decide +kernel
theorem qm_M_isMet_127 : decode qm_M_isMet_c 127 = .ok (.goto 4, 3) := by decide +kernel
theorem qm_M_isMet_130 : decode qm_M_isMet_c 130 = .ok (.iconst 0, 1) := by decide +kernel
theorem qm_M_isMet_131 : decode qm_M_isMet_c 131 = .ok (.ireturn, 1) := by decide +kernel
theorem qm_M_count_0 : decode qm_M_count_c 0 = .ok (.iload_n 1, 1) := by decide +kernel
theorem qm_M_count_1 : decode qm_M_count_c 1 = .ok (.bipush 66, 2) := by decide +kernel
theorem qm_M_count_3 : decode qm_M_count_c 3 = .ok (.if_icmp .ge 7, 3) := by decide +kernel
theorem qm_M_count_6 : decode qm_M_count_c 6 = .ok (.iconst 0, 1) := by decide +kernel
theorem qm_M_count_7 : decode qm_M_count_c 7 = .ok (.goto 4, 3) := by decide +kernel
theorem qm_M_count_10 : decode qm_M_count_c 10 = .ok (.iconst 1, 1) := by decide +kernel
theorem qm_M_count_11 : decode qm_M_count_c 11 = .ok (.istore_n 2, 1) := by decide +kernel
theorem qm_M_count_12 : decode qm_M_count_c 12 = .ok (.iload_n 1, 1) := by decide +kernel
theorem qm_M_count_13 : decode qm_M_count_c 13 = .ok (.bipush 66, 2) := by decide +kernel
theorem qm_M_count_15 : decode qm_M_count_c 15 = .ok (.if_icmp .ge 14, 3) := by decide +kernel
theorem qm_M_count_18 : decode qm_M_count_c 18 = .ok (.aload_n 0, 1) := by decide +kernel
theorem qm_M_count_19 : decode qm_M_count_c 19 = .ok (.getfield 25, 3) := by decide +kernel
theorem qm_M_count_22 : decode qm_M_count_c 22 = .ok (.iconst 0, 1) := by decide +kernel
theorem qm_M_count_23 : decode qm_M_count_c 23 = .ok (.iaload, 1) := by decide +kernel
theorem qm_M_count_24 : decode qm_M_count_c 24 = .ok (.iconst 1, 1) := by decide +kernel
theorem qm_M_count_25 : decode qm_M_count_c 25 = .ok (.isub, 1) := by decide +kernel
theorem qm_M_count_26 : decode qm_M_count_c 26 = .ok (.goto 11, 3) := by decide +kernel
theorem qm_M_count_29 : decode qm_M_count_c 29 = .ok (.aload_n 0, 1) := by decide +kernel
theorem qm_M_count_30 : decode qm_M_count_c 30 = .ok (.getfield 25, 3) := by decide +kernel
theorem qm_M_count_33 : decode qm_M_count_c 33 = .ok (.iconst 1, 1) := by decide +kernel
theorem qm_M_count_34 : decode qm_M_count_c 34 = .ok (.iaload, 1) := by decide +kernel
theorem qm_M_count_35 : decode qm_M_count_c 35 = .ok (.iconst 1, 1) := by decide +kernel
theorem qm_M_count_36 : decode qm_M_count_c 36 = .ok (.iadd, 1) := by decide +kernel
theorem qm_M_count_37 : decode qm_M_count_c 37 = .ok (.istore_n 3, 1) := by decide +kernel
theorem qm_M_count_38 : decode qm_M_count_c 38 = .ok (.aload_n 0, 1) := by decide +kernel
theorem qm_M_count_39 : decode qm_M_count_c 39 = .ok (.iload_n 3, 1) := by decide +kernel
theorem qm_M_count_40 : decode qm_M_count_c 40 = .ok (.iload_n 1, 1) := by decide +kernel
theorem qm_M_count_41 : decode qm_M_count_c 41 = .ok (.bipush 66, 2) := by decide +kernel
theorem qm_M_count_43 : decode qm_M_count_c 43 = .ok (.if_icmp .ge 17, 3) := by decide +kernel
theorem qm_M_count_46 : decode qm_M_count_c 46 = .ok (.iload_n 3, 1) := by decide +kernel
theorem qm_M_count_47 : decode qm_M_count_c 47 = .ok (.ldc 120, 2) := by decide +kernel
theorem qm_M_count_49 : decode qm_M_count_c 49 = .ok (.if_icmp .ne 7, 3) := by decide +kernel
theorem qm_M_count_52 : decode qm_M_count_c 52 = .ok (.iconst 1, 1) := by decide +kernel
theorem qm_M_count_53 : decode qm_M_count_c 53 = .ok (.goto 18, 3) := by decide +kernel
theorem qm_M_count_56 : decode qm_M_count_c 56 = .ok (.iconst 0, 1) := by decide +kernel
theorem qm_M_count_57 : decode qm_M_count_c 57 = .ok (.goto 14, 3) := by decide +kernel
theorem qm_M_count_60 : decode qm_M_count_c 60 = .ok (.iload_n 3, 1) := by decide +kernel
theorem qm_M_count_61 : decode qm_M_count_c 61 = .ok (.ldc 47, 2) := by decide +kernel
theorem qm_M_count_63 : decode qm_M_count_c 63 = .ok (.if_icmp .ne 7, 3) := by decide +kernel
theorem qm_M_count_66 : decode qm_M_count_c 66 = .ok (.iconst 1, 1) := by decide +kernel
theorem qm_M_count_67 : decode qm_M_count_c 67 = .ok (.goto 4, 3) := by decide +kernel
theorem qm_M_count_70 : decode qm_M_count_c 70 = .ok (.iconst 0, 1) := by decide +kernel
theorem qm_M_count_71 : decode qm_M_count_c 71 = .ok (.aload_n 0, 1) := by decide +kernel
theorem qm_M_count_72 : decode qm_M_count_c 72 = .ok (.iconst 0, 1) := by decide +kernel
theorem qm_M_count_73 : decode qm_M_count_c 73 = .ok (.invokevirtual 106, 3) := by decide +kernel
theorem qm_M_count_76 : decode qm_M_count_c 76 = .ok (.invokevirtual 113, 3) := by decide +kernel
theorem qm_M_count_79 : decode qm_M_count_c 79 = .ok (.aload_n 0, 1) := by decide +kernel
theorem qm_M_count_80 : decode qm_M_count_c 80 = .ok (.iload_n 2, 1) := by decide +kernel
theorem qm_M_count_81 : decode qm_M_count_c 81 = .ok (.iload_n 3, 1) := by decide +kernel
theorem qm_M_count_82 : decode qm_M_count_c 82 = .ok (.iconst 4, 1) := by decide +kernel
theorem qm_M_count_83 : decode qm_M_count_c 83 = .ok (.invokevirtual 117, 3) := by decide +kernel
theorem qm_M_count_86 : decode qm_M_count_c 86 = .ok (.iload_n 1, 1) := by decide +kernel
theorem qm_M_count_87 : decode qm_M_count_c 87 = .ok (.bipush 64, 2) := by decide +kernel
theorem qm_M_count_89 : decode qm_M_count_c 89 = .ok (.if_icmp .ne 15, 3) := by decide +kernel
theorem qm_M_count_92 : decode qm_M_count_c 92 = .ok (.iload_n 3, 1) := by decide +kernel
theorem qm_M_count_93 : decode qm_M_count_c 93 = .ok (.ifCond .le 7, 3) := by decide +kernel
theorem qm_M_count_96 : decode qm_M_count_c 96 = .ok (.iconst 1, 1) := by decide +kernel
theorem qm_M_count_97 : decode qm_M_count_c 97 = .ok (.goto 64, 3) := by decide +kernel
theorem qm_M_count_100 : decode qm_M_count_c 100 = .ok (.iconst 0, 1) := by decide +kernel
theorem qm_M_count_101 : decode qm_M_count_c 101 = .ok (.goto 60, 3) := by decide +kernel
theorem qm_M_count_104 : decode qm_M_count_c 104 = .ok (.iload_n 1, 1) := by decide +kernel
theorem qm_M_count_105 : decode qm_M_count_c 105 = .ok (.bipush 65, 2) := by decide +kernel
theorem qm_M_count_107 : decode qm_M_count_c 107 = .ok (.if_icmp .ne 15, 3) := by decide +kernel
theorem qm_M_count_110 : decode qm_M_count_c 110 = .ok (.iload_n 3, 1) := by decide +kernel
theorem qm_M_count_111 : decode qm_M_count_c 111 = .ok (.ifCond .lt 7, 3) := by decide +kernel
theorem qm_M_count_114 : decode qm_M_count_c 114 = .ok (.iconst 1, 1) := by decide +kernel
theorem qm_M_count_115 : decode qm_M_count_c 115 = .ok (.goto 46, 3) := by decide +kernel
theorem qm_M_count_118 : decode qm_M_count_c 118 = .ok (.iconst 0, 1) := by decide +kernel
theorem qm_M_count_119 : decode qm_M_count_c 119 = .ok (.goto 42, 3) := by decide +kernel
theorem qm_M_count_122 : decode qm_M_count_c 122 = .ok (.iload_n 1, 1) := by decide +kernel
theorem qm_M_count_123 : decode qm_M_count_c 123 = .ok (.bipush 66, 2) := by decide +kernel
theorem qm_M_count_125 : decode qm_M_count_c 125 = .ok (.if_icmp .ne 21, 3) := by decide +kernel
theorem qm_M_count_128 : decode qm_M_count_c 128 = .ok (.iload_n 3, 1) := by decide +kernel
theorem qm_M_count_129 : decode qm_M_count_c 129 = .ok (.aload_n 0, 1) := by decide +kernel
theorem qm_M_count_130 : decode qm_M_count_c 130 = .ok (.getfield 25, 3) := by decide +kernel
theorem qm_M_count_133 : decode qm_M_count_c 133 = .ok (.iconst 0, 1) := by decide +kernel
theorem qm_M_count_134 : decode qm_M_count_c 134 = .ok (.iaload, 1) := by decide +kernel
theorem qm_M_count_135 : decode qm_M_count_c 135 = .ok (.if_icmp .ge 7, 3) := by decide +kernel
theorem qm_M_count_138 : decode qm_M_count_c 138 = .ok (.iconst 1, 1) := by decide +kernel
theorem qm_M_count_139 : decode qm_M_count_c 139 = .ok (.goto 22, 3) := by decide +kernel
theorem qm_M_count_142 : decode qm_M_count_c 142 = .ok (.iconst 0, 1) := by decide +kernel
theorem qm_M_count_143 : decode qm_M_count_c 143 = .ok (.goto 18, 3) := by decide +kernel
theorem qm_M_count_146 : decode qm_M_count_c 146 = .ok (.iload_n 3, 1) := by decide +kernel
theorem qm_M_count_147 : decode qm_M_count_c 147 = .ok (.aload_n 0, 1) := by decide +kernel
theorem qm_M_count_148 : decode qm_M_count_c 148 = .ok (.getfield 25, 3) := by decide +kernel
theorem qm_M_count_151 : decode qm_M_count_c 151 = .ok (.iconst 0, 1) := by decide +kernel
theorem qm_M_count_152 : decode qm_M_count_c 152 = .ok (.iaload, 1) := by decide +kernel
theorem qm_M_count_153 : decode qm_M_count_c 153 = .ok (.if_icmp .gt 7, 3) := by decide +kernel
theorem qm_M_count_156 : decode qm_M_count_c 156 = .ok (.iconst 1, 1) := by decide +kernel
theorem qm_M_count_157 : decode qm_M_count_c 157 = .ok (.goto 4, 3) := by decide +kernel
theorem qm_M_count_160 : decode qm_M_count_c 160 = .ok (.iconst 0, 1) := by decide +kernel
theorem qm_M_count_161 : decode qm_M_count_c 161 = .ok (.istore 4, 2) := by decide +kernel
theorem qm_M_count_163 : decode qm_M_count_c 163 = .ok (.iload 4, 2) := by decide +kernel
theorem qm_M_count_165 : decode qm_M_count_c 165 = .ok (.ifCond .eq 21, 3) := by decide +kernel
theorem qm_M_count_168 : decode qm_M_count_c 168 = .ok (.aload_n 0, 1) := by decide +kernel
theorem qm_M_count_169 : decode qm_M_count_c 169 = .ok (.getfield 13, 3) := by decide +kernel
theorem qm_M_count_172 : decode qm_M_count_c 172 = .ok (.bipush 15, 2) := by decide +kernel
theorem qm_M_count_174 : decode qm_M_count_c 174 = .ok (.dup2, 1) := by decide +kernel
theorem qm_M_count_175 : decode qm_M_count_c 175 = .ok (.iaload, 1) := by decide +kernel
theorem qm_M_count_176 : decode qm_M_count_c 176 = .ok (.aload_n 0, 1) := by decide +kernel
theorem qm_M_count_177 : decode qm_M_count_c 177 = .ok (.getfield 25, 3) := by decide +kernel
theorem qm_M_count_180 : decode qm_M_count_c 180 = .ok (.iload_n 2, 1) := by decide +kernel
theorem qm_M_count_181 : decode qm_M_count_c 181 = .ok (.iconst 1, 1) := by decide +kernel
theorem qm_M_count_182 : decode qm_M_count_c 182 = .ok (.iadd, 1) := by decide +kernel
theorem qm_M_count_183 : decode qm_M_count_c 183 = .ok (.iaload, 1) := by decide +kernel
theorem qm_M_count_184 : decode qm_M_count_c 184 = .ok (.iadd, 1) := by decide +kernel
theorem qm_M_count_185 : decode qm_M_count_c 185 = .ok (.iastore, 1) := by decide +kernel
theorem qm_M_count_186 : decode qm_M_count_c 186 = .ok (.return_, 1) := by decide +kernel
theorem qm_M_callFrame_0 : decode qm_M_callFrame_c 0 = .ok (.aload_n 0, 1) := by decide +kernel
theorem qm_M_callFrame_1 : decode qm_M_callFrame_c 1 = .ok (.aload_n 0, 1) := by decide +kernel
theorem qm_M_callFrame_2 : decode qm_M_callFrame_c 2 = .ok (.getfield 25, 3) := by decide +kernel
theorem qm_M_callFrame_5 : decode qm_M_callFrame_c 5 = .ok (.iconst 0, 1) := by decide +kernel
theorem qm_M_callFrame_6 : decode qm_M_callFrame_c 6 = .ok (.iaload, 1) := by decide +kernel
theorem qm_M_callFrame_7 : decode qm_M_callFrame_c 7 = .ok (.invokevirtual 121, 3) := by decide +kernel
theorem qm_M_callFrame_10 : decode qm_M_callFrame_c 10 = .ok (.aload_n 0, 1) := by decide +kernel
theorem qm_M_callFrame_11 : decode qm_M_callFrame_c 11 = .ok (.bipush 14, 2) := by decide +kernel
theorem qm_M_callFrame_13 : decode qm_M_callFrame_c 13 = .ok (.invokevirtual 84, 3) := by decide +kernel
theorem qm_M_callFrame_16 : decode qm_M_callFrame_c 16 = .ok (.istore_n 1, 1) := by decide +kernel
theorem qm_M_callFrame_17 : decode qm_M_callFrame_c 17 = .ok (.aload_n 0, 1) := by decide +kernel
theorem qm_M_callFrame_18 : decode qm_M_callFrame_c 18 = .ok (.aload_n 0, 1) := by decide +kernel
theorem qm_M_callFrame_19 : decode qm_M_callFrame_c 19 = .ok (.getfield 31, 3) := by decide +kernel
theorem qm_M_callFrame_22 : decode qm_M_callFrame_c 22 = .ok (.iconst 1, 1) := by decide +kernel
theorem qm_M_callFrame_23 : decode qm_M_callFrame_c 23 = .ok (.iaload, 1) := by decide +kernel
theorem qm_M_callFrame_24 : decode qm_M_callFrame_c 24 = .ok (.invokevirtual 81, 3) := by decide +kernel
theorem qm_M_callFrame_27 : decode qm_M_callFrame_c 27 = .ok (.aload_n 0, 1) := by decide +kernel
theorem qm_M_callFrame_28 : decode qm_M_callFrame_c 28 = .ok (.aload_n 0, 1) := by decide +kernel
theorem qm_M_callFrame_29 : decode qm_M_callFrame_c 29 = .ok (.getfield 31, 3) := by decide +kernel
theorem qm_M_callFrame_32 : decode qm_M_callFrame_c 32 = .ok (.iconst 1, 1) := by decide +kernel
theorem qm_M_callFrame_33 : decode qm_M_callFrame_c 33 = .ok (.iaload, 1) := by decide +kernel
theorem qm_M_callFrame_34 : decode qm_M_callFrame_c 34 = .ok (.iconst 1, 1) := by decide +kernel
theorem qm_M_callFrame_35 : decode qm_M_callFrame_c 35 = .ok (.iadd, 1) := by decide +kernel
theorem qm_M_callFrame_36 : decode qm_M_callFrame_c 36 = .ok (.invokevirtual 81, 3) := by decide +kernel
theorem qm_M_callFrame_39 : decode qm_M_callFrame_c 39 = .ok (.bipush 8, 2) := by decide +kernel
theorem qm_M_callFrame_41 : decode qm_M_callFrame_c 41 = .ok (.ishl, 1) := by decide +kernel
theorem qm_M_callFrame_42 : decode qm_M_callFrame_c 42 = .ok (.ior, 1) := by decide +kernel
theorem qm_M_callFrame_43 : decode qm_M_callFrame_c 43 = .ok (.istore_n 2, 1) := by decide +kernel
theorem qm_M_callFrame_44 : decode qm_M_callFrame_c 44 = .ok (.iload_n 2, 1) := by decide +kernel
theorem qm_M_callFrame_45 : decode qm_M_callFrame_c 45 = .ok (.ldc 125, 2) := by decide +kernel
theorem qm_M_callFrame_47 : decode qm_M_callFrame_c 47 = .ok (.iand, 1) := by decide +kernel
theorem qm_M_callFrame_48 : decode qm_M_callFrame_c 48 = .ok (.ifCond .eq 10, 3) := by decide +kernel
theorem qm_M_callFrame_51 : decode qm_M_callFrame_c 51 = .ok (.aload_n 0, 1) := by decide +kernel
theorem qm_M_callFrame_52 : decode qm_M_callFrame_c 52 = .ok (.iconst 2, 1) := by decide +kernel
theorem qm_M_callFrame_53 : decode qm_M_callFrame_c 53 = .ok (.iconst 0, 1) := by decide +kernel
theorem qm_M_callFrame_54 : decode qm_M_callFrame_c 54 = .ok (.iconst 0, 1) := by decide +kernel
theorem qm_M_callFrame_55 : decode qm_M_callFrame_c 55 = .ok (.invokevirtual 77, 3) := by decide +kernel
theorem qm_M_callFrame_58 : decode qm_M_callFrame_c 58 = .ok (.iload_n 1, 1) := by decide +kernel
theorem qm_M_callFrame_59 : decode qm_M_callFrame_c 59 = .ok (.iconst 3, 1) := by decide +kernel
theorem qm_M_callFrame_60 : decode qm_M_callFrame_c 60 = .ok (.iand, 1) := by decide +kernel
theorem qm_M_callFrame_61 : decode qm_M_callFrame_c 61 = .ok (.istore_n 3, 1) := by decide +kernel
theorem qm_M_callFrame_62 : decode qm_M_callFrame_c 62 = .ok (.aload_n 0, 1) := by decide +kernel
theorem qm_M_callFrame_63 : decode qm_M_callFrame_c 63 = .ok (.bipush 14, 2) := by decide +kernel
theorem qm_M_callFrame_65 : decode qm_M_callFrame_c 65 = .ok (.iload_n 1, 1) := by decide +kernel
theorem qm_M_callFrame_66 : decode qm_M_callFrame_c 66 = .ok (.iload_n 3, 1) := by decide +kernel
theorem qm_M_callFrame_67 : decode qm_M_callFrame_c 67 = .ok (.isub, 1) := by decide +kernel
theorem qm_M_callFrame_68 : decode qm_M_callFrame_c 68 = .ok (.invokevirtual 90, 3) := by decide +kernel
theorem qm_M_callFrame_71 : decode qm_M_callFrame_c 71 = .ok (.bipush 11, 2) := by decide +kernel
theorem qm_M_callFrame_73 : decode qm_M_callFrame_c 73 = .ok (.istore 4, 2) := by decide +kernel
theorem qm_M_callFrame_75 : decode qm_M_callFrame_c 75 = .ok (.iload 4, 2) := by decide +kernel
theorem qm_M_callFrame_77 : decode qm_M_callFrame_c 77 = .ok (.ifCond .lt 30, 3) := by decide +kernel
theorem qm_M_callFrame_80 : decode qm_M_callFrame_c 80 = .ok (.iload_n 2, 1) := by decide +kernel
theorem qm_M_callFrame_81 : decode qm_M_callFrame_c 81 = .ok (.iload 4, 2) := by decide +kernel
theorem qm_M_callFrame_83 : decode qm_M_callFrame_c 83 = .ok (.ishr, 1) := by decide +kernel
theorem qm_M_callFrame_84 : decode qm_M_callFrame_c 84 = .ok (.iconst 1, 1) := by decide +kernel
theorem qm_M_callFrame_85 : decode qm_M_callFrame_c 85 = .ok (.iand, 1) := by decide +kernel
theorem qm_M_callFrame_86 : decode qm_M_callFrame_c 86 = .ok (.iconst 1, 1) := by decide +kernel
theorem qm_M_callFrame_87 : decode qm_M_callFrame_c 87 = .ok (.if_icmp .ne 14, 3) := by decide +kernel
theorem qm_M_callFrame_90 : decode qm_M_callFrame_c 90 = .ok (.aload_n 0, 1) := by decide +kernel
theorem qm_M_callFrame_91 : decode qm_M_callFrame_c 91 = .ok (.aload_n 0, 1) := by decide +kernel
theorem qm_M_callFrame_92 : decode qm_M_callFrame_c 92 = .ok (.getfield 13, 3) := by decide +kernel
theorem qm_M_callFrame_95 : decode qm_M_callFrame_c 95 = .ok (.iload 4, 2) := by decide +kernel
theorem qm_M_callFrame_97 : decode qm_M_callFrame_c 97 = .ok (.iaload, 1) := by decide +kernel
theorem qm_M_callFrame_98 : decode qm_M_callFrame_c 98 = .ok (.invokevirtual 121, 3) := by decide +kernel
theorem qm_M_callFrame_101 : decode qm_M_callFrame_c 101 = .ok (.iinc 4 (-1), 3) := by decide +kernel
theorem qm_M_callFrame_104 : decode qm_M_callFrame_c 104 = .ok (.goto (-29), 3) := by decide +kernel
theorem qm_M_callFrame_107 : decode qm_M_callFrame_c 107 = .ok (.aload_n 0, 1) := by decide +kernel
theorem qm_M_callFrame_108 : decode qm_M_callFrame_c 108 = .ok (.aload_n 0, 1) := by decide +kernel
theorem qm_M_callFrame_109 : decode qm_M_callFrame_c 109 = .ok (.getfield 13, 3) := by decide +kernel
theorem qm_M_callFrame_112 : decode qm_M_callFrame_c 112 = .ok (.bipush 15, 2) := by decide +kernel
theorem qm_M_callFrame_114 : decode qm_M_callFrame_c 114 = .ok (.iaload, 1) := by decide +kernel
theorem qm_M_callFrame_115 : decode qm_M_callFrame_c 115 = .ok (.invokevirtual 121, 3) := by decide +kernel
theorem qm_M_callFrame_118 : decode qm_M_callFrame_c 118 = .ok (.aload_n 0, 1) := by decide +kernel
theorem qm_M_callFrame_119 : decode qm_M_callFrame_c 119 = .ok (.aload_n 0, 1) := by decide +kernel
theorem qm_M_callFrame_120 : decode qm_M_callFrame_c 120 = .ok (.getfield 13, 3) := by decide +kernel
theorem qm_M_callFrame_123 : decode qm_M_callFrame_c 123 = .ok (.bipush 13, 2) := by decide +kernel
theorem qm_M_callFrame_125 : decode qm_M_callFrame_c 125 = .ok (.iaload, 1) := by decide +kernel
theorem qm_M_callFrame_126 : decode qm_M_callFrame_c 126 = .ok (.invokevirtual 121, 3) := by decide +kernel
theorem qm_M_callFrame_129 : decode qm_M_callFrame_c 129 = .ok (.aload_n 0, 1) := by decide +kernel
theorem qm_M_callFrame_130 : decode qm_M_callFrame_c 130 = .ok (.aload_n 0, 1) := by decide +kernel
theorem qm_M_callFrame_131 : decode qm_M_callFrame_c 131 = .ok (.getfield 13, 3) := by decide +kernel
theorem qm_M_callFrame_134 : decode qm_M_callFrame_c 134 = .ok (.bipush 12, 2) := by decide +kernel
theorem qm_M_callFrame_136 : decode qm_M_callFrame_c 136 = .ok (.iaload, 1) := by decide +kernel
theorem qm_M_callFrame_137 : decode qm_M_callFrame_c 137 = .ok (.invokevirtual 121, 3) := by decide +kernel
theorem qm_M_callFrame_140 : decode qm_M_callFrame_c 140 = .ok (.aload_n 0, 1) := by decide +kernel
theorem qm_M_callFrame_141 : decode qm_M_callFrame_c 141 = .ok (.iload_n 3, 1) := by decide +kernel
theorem qm_M_callFrame_142 : decode qm_M_callFrame_c 142 = .ok (.bipush 30, 2) := by decide +kernel
theorem qm_M_callFrame_144 : decode qm_M_callFrame_c 144 = .ok (.ishl, 1) := by decide +kernel
theorem qm_M_callFrame_145 : decode qm_M_callFrame_c 145 = .ok (.ldc 126, 2) := by decide +kernel
theorem qm_M_callFrame_147 : decode qm_M_callFrame_c 147 = .ok (.ior, 1) := by decide +kernel
theorem qm_M_callFrame_148 : decode qm_M_callFrame_c 148 = .ok (.iload_n 2, 1) := by decide +kernel
theorem qm_M_callFrame_149 : decode qm_M_callFrame_c 149 = .ok (.sipush 4095, 3) := by decide +kernel
theorem qm_M_callFrame_152 : decode qm_M_callFrame_c 152 = .ok (.iand, 1) := by decide +kernel
theorem qm_M_callFrame_153 : decode qm_M_callFrame_c 153 = .ok (.bipush 16, 2) := by decide +kernel
theorem qm_M_callFrame_155 : decode qm_M_callFrame_c 155 = .ok (.ishl, 1) := by decide +kernel
theorem qm_M_callFrame_156 : decode qm_M_callFrame_c 156 = .ok (.ior, 1) := by decide +kernel
theorem qm_M_callFrame_157 : decode qm_M_callFrame_c 157 = .ok (.aload_n 0, 1) := by decide +kernel
theorem qm_M_callFrame_158 : decode qm_M_callFrame_c 158 = .ok (.getfield 44, 3) := by decide +kernel
theorem qm_M_callFrame_161 : decode qm_M_callFrame_c 161 = .ok (.ldc 127, 2) := by decide +kernel
theorem qm_M_callFrame_163 : decode qm_M_callFrame_c 163 = .ok (.iand, 1) := by decide +kernel
theorem qm_M_callFrame_164 : decode qm_M_callFrame_c 164 = .ok (.ior, 1) := by decide +kernel
theorem qm_M_callFrame_165 : decode qm_M_callFrame_c 165 = .ok (.invokevirtual 121, 3) := by decide +kernel
theorem qm_M_callFrame_168 : decode qm_M_callFrame_c 168 = .ok (.aload_n 0, 1) := by decide +kernel
theorem qm_M_callFrame_169 : decode qm_M_callFrame_c 169 = .ok (.iconst 0, 1) := by decide +kernel
theorem qm_M_callFrame_170 : decode qm_M_callFrame_c 170 = .ok (.invokevirtual 121, 3) := by decide +kernel
theorem qm_M_callFrame_173 : decode qm_M_callFrame_c 173 = .ok (.aload_n 0, 1) := by decide +kernel
theorem qm_M_callFrame_174 : decode qm_M_callFrame_c 174 = .ok (.getfield 13, 3) := by decide +kernel
theorem qm_M_callFrame_177 : decode qm_M_callFrame_c 177 = .ok (.bipush 13, 2) := by decide +kernel
theorem qm_M_callFrame_179 : decode qm_M_callFrame_c 179 = .ok (.aload_n 0, 1) := by decide +kernel
theorem qm_M_callFrame_180 : decode qm_M_callFrame_c 180 = .ok (.bipush 14, 2) := by decide +kernel
theorem qm_M_callFrame_182 : decode qm_M_callFrame_c 182 = .ok (.invokevirtual 84, 3) := by decide +kernel
theorem qm_M_callFrame_185 : decode qm_M_callFrame_c 185 = .ok (.iastore, 1) := by decide +kernel
theorem qm_M_callFrame_186 : decode qm_M_callFrame_c 186 = .ok (.aload_n 0, 1) := by decide +kernel
theorem qm_M_callFrame_187 : decode qm_M_callFrame_c 187 = .ok (.getfield 13, 3) := by decide +kernel
theorem qm_M_callFrame_190 : decode qm_M_callFrame_c 190 = .ok (.bipush 12, 2) := by decide +kernel
theorem qm_M_callFrame_192 : decode qm_M_callFrame_c 192 = .ok (.iload_n 1, 1) := by decide +kernel
theorem qm_M_callFrame_193 : decode qm_M_callFrame_c 193 = .ok (.iastore, 1) := by decide +kernel
theorem qm_M_callFrame_194 : decode qm_M_callFrame_c 194 = .ok (.aload_n 0, 1) := by decide +kernel
theorem qm_M_callFrame_195 : decode qm_M_callFrame_c 195 = .ok (.aload_n 0, 1) := by decide +kernel
theorem qm_M_callFrame_196 : decode qm_M_callFrame_c 196 = .ok (.getfield 44, 3) := by decide +kernel
theorem qm_M_callFrame_199 : decode qm_M_callFrame_c 199 = .ok (.bipush (-48), 2) := by decide +kernel
theorem qm_M_callFrame_201 : decode qm_M_callFrame_c 201 = .ok (.iand, 1) := by decide +kernel
theorem qm_M_callFrame_202 : decode qm_M_callFrame_c 202 = .ok (.iload_n 2, 1) := by decide +kernel
theorem qm_M_callFrame_203 : decode qm_M_callFrame_c 203 = .ok (.bipush 14, 2) := by decide +kernel
theorem qm_M_callFrame_205 : decode qm_M_callFrame_c 205 = .ok (.ishr, 1) := by decide +kernel
theorem qm_M_callFrame_206 : decode qm_M_callFrame_c 206 = .ok (.iconst 1, 1) := by decide +kernel
theorem qm_M_callFrame_207 : decode qm_M_callFrame_c 207 = .ok (.iand, 1) := by decide +kernel
theorem qm_M_callFrame_208 : decode qm_M_callFrame_c 208 = .ok (.iconst 5, 1) := by decide +kernel
theorem qm_M_callFrame_209 : decode qm_M_callFrame_c 209 = .ok (.ishl, 1) := by decide +kernel
theorem qm_M_callFrame_210 : decode qm_M_callFrame_c 210 = .ok (.ior, 1) := by decide +kernel
theorem qm_M_callFrame_211 : decode qm_M_callFrame_c 211 = .ok (.putfield 44, 3) := by decide +kernel
theorem qm_M_callFrame_214 : decode qm_M_callFrame_c 214 = .ok (.aload_n 0, 1) := by decide +kernel
theorem qm_M_callFrame_215 : decode qm_M_callFrame_c 215 = .ok (.getfield 13, 3) := by decide +kernel
theorem qm_M_callFrame_218 : decode qm_M_callFrame_c 218 = .ok (.bipush 15, 2) := by decide +kernel
theorem qm_M_callFrame_220 : decode qm_M_callFrame_c 220 = .ok (.aload_n 0, 1) := by decide +kernel
theorem qm_M_callFrame_221 : decode qm_M_callFrame_c 221 = .ok (.getfield 31, 3) := by decide +kernel
theorem qm_M_callFrame_224 : decode qm_M_callFrame_c 224 = .ok (.iconst 1, 1) := by decide +kernel
theorem qm_M_callFrame_225 : decode qm_M_callFrame_c 225 = .ok (.iaload, 1) := by decide +kernel
theorem qm_M_callFrame_226 : decode qm_M_callFrame_c 226 = .ok (.iconst 2, 1) := by decide +kernel
theorem qm_M_callFrame_227 : decode qm_M_callFrame_c 227 = .ok (.iadd, 1) := by decide +kernel
theorem qm_M_callFrame_228 : decode qm_M_callFrame_c 228 = .ok (.iastore, 1) := by decide +kernel
theorem qm_M_callFrame_229 : decode qm_M_callFrame_c 229 = .ok (.return_, 1) := by decide +kernel
theorem qm_M_probe_0 : decode qm_M_probe_c 0 = .ok (.aload_n 0, 1) := by decide +kernel
theorem qm_M_probe_1 : decode qm_M_probe_c 1 = .ok (.getfield 25, 3) := by decide +kernel
theorem qm_M_probe_4 : decode qm_M_probe_c 4 = .ok (.iconst 0, 1) := by decide +kernel
theorem qm_M_probe_5 : decode qm_M_probe_c 5 = .ok (.iaload, 1) := by decide +kernel
theorem qm_M_probe_6 : decode qm_M_probe_c 6 = .ok (.iconst 3, 1) := by decide +kernel
theorem qm_M_probe_7 : decode qm_M_probe_c 7 = .ok (.iand, 1) := by decide +kernel
theorem qm_M_probe_8 : decode qm_M_probe_c 8 = .ok (.istore_n 2, 1) := by decide +kernel
theorem qm_M_probe_9 : decode qm_M_probe_c 9 = .ok (.aload_n 0, 1) := by decide +kernel
theorem qm_M_probe_10 : decode qm_M_probe_c 10 = .ok (.getfield 44, 3) := by decide +kernel
theorem qm_M_probe_13 : decode qm_M_probe_c 13 = .ok (.bipush 22, 2) := by decide +kernel
theorem qm_M_probe_15 : decode qm_M_probe_c 15 = .ok (.ishr, 1) := by decide +kernel
theorem qm_M_probe_16 : decode qm_M_probe_c 16 = .ok (.iconst 3, 1) := by decide +kernel
theorem qm_M_probe_17 : decode qm_M_probe_c 17 = .ok (.iand, 1) := by decide +kernel
theorem qm_M_probe_18 : decode qm_M_probe_c 18 = .ok (.istore_n 3, 1) := by decide +kernel
theorem qm_M_probe_19 : decode qm_M_probe_c 19 = .ok (.iload_n 3, 1) := by decide +kernel
theorem qm_M_probe_20 : decode qm_M_probe_c 20 = .ok (.iload_n 2, 1) := by decide +kernel
theorem qm_M_probe_21 : decode qm_M_probe_c 21 = .ok (.if_icmp .le 7, 3) := by decide +kernel
theorem qm_M_probe_24 : decode qm_M_probe_c 24 = .ok (.iload_n 3, 1) := by decide +kernel
theorem qm_M_probe_25 : decode qm_M_probe_c 25 = .ok (.goto 4, 3) := by decide +kernel
theorem qm_M_probe_28 : decode qm_M_probe_c 28 = .ok (.iload_n 2, 1) := by decide +kernel
theorem qm_M_probe_29 : decode qm_M_probe_c 29 = .ok (.istore_n 2, 1) := by decide +kernel
theorem qm_M_probe_30 : decode qm_M_probe_c 30 = .ok (.iconst 1, 1) := by decide +kernel
theorem qm_M_probe_31 : decode qm_M_probe_c 31 = .ok (.istore 4, 2) := by decide +kernel
theorem qm_M_probe_33 : decode qm_M_probe_c 33 = .ok (.iconst 0, 1) := by decide +kernel
theorem qm_M_probe_34 : decode qm_M_probe_c 34 = .ok (.istore 5, 2) := by decide +kernel
theorem qm_M_probe_36 : decode qm_M_probe_c 36 = .ok (.iload 5, 2) := by decide +kernel
theorem qm_M_probe_38 : decode qm_M_probe_c 38 = .ok (.iconst 2, 1) := by decide +kernel
theorem qm_M_probe_39 : decode qm_M_probe_c 39 = .ok (.if_icmp .ge 120, 3) := by decide +kernel
theorem qm_M_probe_42 : decode qm_M_probe_c 42 = .ok (.iload 4, 2) := by decide +kernel
theorem qm_M_probe_44 : decode qm_M_probe_c 44 = .ok (.ifCond .eq 115, 3) := by decide +kernel
theorem qm_M_probe_47 : decode qm_M_probe_c 47 = .ok (.iload 5, 2) := by decide +kernel
theorem qm_M_probe_49 : decode qm_M_probe_c 49 = .ok (.ifCond .ne 12, 3) := by decide +kernel
theorem qm_M_probe_52 : decode qm_M_probe_c 52 = .ok (.aload_n 0, 1) := by decide +kernel
theorem qm_M_probe_53 : decode qm_M_probe_c 53 = .ok (.getfield 31, 3) := by decide +kernel
theorem qm_M_probe_56 : decode qm_M_probe_c 56 = .ok (.iconst 2, 1) := by decide +kernel
theorem qm_M_probe_57 : decode qm_M_probe_c 57 = .ok (.iaload, 1) := by decide +kernel
theorem qm_M_probe_58 : decode qm_M_probe_c 58 = .ok (.goto 18, 3) := by decide +kernel
theorem qm_M_probe_61 : decode qm_M_probe_c 61 = .ok (.aload_n 0, 1) := by decide +kernel
theorem qm_M_probe_62 : decode qm_M_probe_c 62 = .ok (.getfield 31, 3) := by decide +kernel
theorem qm_M_probe_65 : decode qm_M_probe_c 65 = .ok (.iconst 2, 1) := by decide +kernel
theorem qm_M_probe_66 : decode qm_M_probe_c 66 = .ok (.iaload, 1) := by decide +kernel
theorem qm_M_probe_67 : decode qm_M_probe_c 67 = .ok (.aload_n 0, 1) := by decide +kernel
theorem qm_M_probe_68 : decode qm_M_probe_c 68 = .ok (.getfield 25, 3) := by decide +kernel
theorem qm_M_probe_71 : decode qm_M_probe_c 71 = .ok (.iconst 1, 1) := by decide +kernel
theorem qm_M_probe_72 : decode qm_M_probe_c 72 = .ok (.iaload, 1) := by decide +kernel
theorem qm_M_probe_73 : decode qm_M_probe_c 73 = .ok (.iadd, 1) := by decide +kernel
theorem qm_M_probe_74 : decode qm_M_probe_c 74 = .ok (.iconst 1, 1) := by decide +kernel
theorem qm_M_probe_75 : decode qm_M_probe_c 75 = .ok (.isub, 1) := by decide +kernel
theorem qm_M_probe_76 : decode qm_M_probe_c 76 = .ok (.istore 6, 2) := by decide +kernel
theorem qm_M_probe_78 : decode qm_M_probe_c 78 = .ok (.aload_n 0, 1) := by decide +kernel
theorem qm_M_probe_79 : decode qm_M_probe_c 79 = .ok (.iload 6, 2) := by decide +kernel
theorem qm_M_probe_81 : decode qm_M_probe_c 81 = .ok (.iload_n 1, 1) := by decide +kernel
theorem qm_M_probe_82 : decode qm_M_probe_c 82 = .ok (.iload_n 2, 1) := by decide +kernel
theorem qm_M_probe_83 : decode qm_M_probe_c 83 = .ok (.invokevirtual 73, 3) := by decide +kernel
theorem qm_M_probe_86 : decode qm_M_probe_c 86 = .ok (.istore 7, 2) := by decide +kernel
theorem qm_M_probe_88 : decode qm_M_probe_c 88 = .ok (.iload 7, 2) := by decide +kernel
theorem qm_M_probe_90 : decode qm_M_probe_c 90 = .ok (.ifCond .ge 11, 3) := by decide +kernel
theorem qm_M_probe_93 : decode qm_M_probe_c 93 = .ok (.bipush (-10), 2) := by decide +kernel
theorem qm_M_probe_95 : decode qm_M_probe_c 95 = .ok (.iload 7, 2) := by decide +kernel
theorem qm_M_probe_97 : decode qm_M_probe_c 97 = .ok (.isub, 1) := by decide +kernel
theorem qm_M_probe_98 : decode qm_M_probe_c 98 = .ok (.goto 4, 3) := by decide +kernel
theorem qm_M_probe_101 : decode qm_M_probe_c 101 = .ok (.iconst 0, 1) := by decide +kernel
theorem qm_M_probe_102 : decode qm_M_probe_c 102 = .ok (.istore 8, 2) := by decide +kernel
theorem qm_M_probe_104 : decode qm_M_probe_c 104 = .ok (.iload 8, 2) := by decide +kernel
theorem qm_M_probe_106 : decode qm_M_probe_c 106 = .ok (.bipush 51, 2) := by decide +kernel
theorem qm_M_probe_108 : decode qm_M_probe_c 108 = .ok (.if_icmp .le 26, 3) := by decide +kernel
theorem qm_M_probe_111 : decode qm_M_probe_c 111 = .ok (.iload 8, 2) := by decide +kernel
theorem qm_M_probe_113 : decode qm_M_probe_c 113 = .ok (.bipush 10, 2) := by decide +kernel
theorem qm_M_probe_115 : decode qm_M_probe_c 115 = .ok (.irem, 1) := by decide +kernel
theorem qm_M_probe_116 : decode qm_M_probe_c 116 = .ok (.iconst 4, 1) := by decide +kernel
theorem qm_M_probe_117 : decode qm_M_probe_c 117 = .ok (.irem, 1) := by decide +kernel
theorem qm_M_probe_118 : decode qm_M_probe_c 118 = .ok (.iconst 2, 1) := by decide +kernel
theorem qm_M_probe_119 : decode qm_M_probe_c 119 = .ok (.if_icmp .ne 15, 3) := by decide +kernel
theorem qm_M_probe_122 : decode qm_M_probe_c 122 = .ok (.aload_n 0, 1) := by decide +kernel
theorem qm_M_probe_123 : decode qm_M_probe_c 123 = .ok (.iconst 5, 1) := by decide +kernel
theorem qm_M_probe_124 : decode qm_M_probe_c 124 = .ok (.iload 6, 2) := by decide +kernel
theorem qm_M_probe_126 : decode qm_M_probe_c 126 = .ok (.iload 8, 2) := by decide +kernel
theorem qm_M_probe_128 : decode qm_M_probe_c 128 = .ok (.bipush 10, 2) := by decide +kernel
theorem qm_M_probe_130 : decode qm_M_probe_c 130 = .ok (.irem, 1) := by decide +kernel
theorem qm_M_probe_131 : decode qm_M_probe_c 131 = .ok (.invokevirtual 77, 3) := by decide +kernel
theorem qm_M_probe_134 : decode qm_M_probe_c 134 = .ok (.iload 8, 2) := by decide +kernel
theorem qm_M_probe_136 : decode qm_M_probe_c 136 = .ok (.ifCond .eq 10, 3) := by decide +kernel
theorem qm_M_probe_139 : decode qm_M_probe_c 139 = .ok (.iload 8, 2) := by decide +kernel
theorem qm_M_probe_141 : decode qm_M_probe_c 141 = .ok (.bipush 50, 2) := by decide +kernel
theorem qm_M_probe_143 : decode qm_M_probe_c 143 = .ok (.if_icmp .lt 7, 3) := by decide +kernel
theorem qm_M_probe_146 : decode qm_M_probe_c 146 = .ok (.iconst 1, 1) := by decide +kernel
theorem qm_M_probe_147 : decode qm_M_probe_c 147 = .ok (.goto 4, 3) := by decide +kernel
theorem qm_M_probe_150 : decode qm_M_probe_c 150 = .ok (.iconst 0, 1) := by decide +kernel
theorem qm_M_probe_151 : decode qm_M_probe_c 151 = .ok (.istore 4, 2) := by decide +kernel
theorem qm_M_probe_153 : decode qm_M_probe_c 153 = .ok (.iinc 5 1, 3) := by decide +kernel
theorem qm_M_probe_156 : decode qm_M_probe_c 156 = .ok (.goto (-120), 3) := by decide +kernel
theorem qm_M_probe_159 : decode qm_M_probe_c 159 = .ok (.aload_n 0, 1) := by decide +kernel
theorem qm_M_probe_160 : decode qm_M_probe_c 160 = .ok (.iload 4, 2) := by decide +kernel
theorem qm_M_probe_162 : decode qm_M_probe_c 162 = .ok (.ifCond .eq 7, 3) := by decide +kernel
theorem qm_M_probe_165 : decode qm_M_probe_c 165 = .ok (.iconst 0, 1) := by decide +kernel
theorem qm_M_probe_166 : decode qm_M_probe_c 166 = .ok (.goto 4, 3) := by decide +kernel
theorem qm_M_probe_169 : decode qm_M_probe_c 169 = .ok (.iconst 1, 1) := by decide +kernel
theorem qm_M_probe_170 : decode qm_M_probe_c 170 = .ok (.iconst 0, 1) := by decide +kernel
theorem qm_M_probe_171 : decode qm_M_probe_c 171 = .ok (.iconst 0, 1) := by decide +kernel
theorem qm_M_probe_172 : decode qm_M_probe_c 172 = .ok (.invokevirtual 113, 3) := by decide +kernel
theorem qm_M_probe_175 : decode qm_M_probe_c 175 = .ok (.return_, 1) := by decide +kernel
set_option maxHeartbeats 4000000 in
set_option maxRecDepth 100000 in
theorem wM_isMet_131 {l : Launch} {D : va_G} {h : Nat → Nat} {K : Nat → ClassId} {res : Int32 × qS} {p : Program} {e : Env} {s : State} {m : MethodId} {args : Array Value} {below : List Frame} {meth : Method} {c : Code} {A : Nat → Prop} {ad : Nat → Nat} (C : qC p s m args meth c qm_M_isMet_c 6 (some .boolean) qR_M ad) (S : qS) (y0 : Int32) (hf : fM_isMet_131 S y0 = some res) : ∀ (H : Heap) (locs : List Loc) (ls : Array Slot), qG D qCl (mT K) A s (mW h K S) H locs → lv_has ls 6 [] → W p l e ({ frames := 1, cells := 0, slots := 0, locals := 21 }) s m args below meth c H locs 0 0 (MQ below (qQi D qCl (mT K) (mW h K) A res) args s 0 0 A) (F0 m 131 ls [.int y0]) := by
  intro H locs ls G hl
  unfold fM_isMet_131 at hf
  exact q_zret (wf := (mW h K)) C G hf qm_M_isMet_131
set_option maxHeartbeats 4000000 in
set_option maxRecDepth 100000 in
theorem wM_isMet_123 {l : Launch} {D : va_G} {h : Nat → Nat} {K : Nat → ClassId} {res : Int32 × qS} {p : Program} {e : Env} {s : State} {m : MethodId} {args : Array Value} {below : List Frame} {meth : Method} {c : Code} {A : Nat → Prop} {ad : Nat → Nat} (C : qC p s m args meth c qm_M_isMet_c 6 (some .boolean) qR_M ad) (S : qS) (y0 : Int32) (y1 : Int32) (hf : fM_isMet_123 S y0 y1 = some res) : ∀ (H : Heap) (locs : List Loc) (ls : Array Slot), qG D qCl (mT K) A s (mW h K S) H locs → lv_has ls 6 [] → W p l e ({ frames := 1, cells := 0, slots := 0, locals := 21 }) s m args below meth c H locs 0 0 (MQ below (qQi D qCl (mT K) (mW h K) A res) args s 0 0 A) (F0 m 123 ls [.int y1, .int y0]) := by
  intro H locs ls G hl
  unfold fM_isMet_123 at hf
  refine lv_icmp_ne (tgt := 130) C.1 C.2.1 qm_M_isMet_123 (by decide) (fun b1 => ?_) (fun b1 => ?_)
  · have hf := if_t b1 hf
    refine lv_iconst (v := 0) C.1 C.2.1 qm_M_isMet_130 (by decide) ?_
    exact wM_isMet_131 C S 0 hf _ _ _ G (lv_sub hl [] rfl)
  · have hf := if_f (not_not_intro b1) hf
    refine lv_iconst (v := 1) C.1 C.2.1 qm_M_isMet_126 (by decide) ?_
    refine lv_goto (tgt := 131) C.1 C.2.1 qm_M_isMet_127 (by decide) ?_
    exact wM_isMet_131 C S 1 hf _ _ _ G (lv_sub hl [] rfl)
set_option maxHeartbeats 4000000 in
set_option maxRecDepth 100000 in
theorem wM_isMet_104 {l : Launch} {D : va_G} {h : Nat → Nat} {K : Nat → ClassId} {res : Int32 × qS} {p : Program} {e : Env} {s : State} {m : MethodId} {args : Array Value} {below : List Frame} {meth : Method} {c : Code} {A : Nat → Prop} {ad : Nat → Nat} (C : qC p s m args meth c qm_M_isMet_c 6 (some .boolean) qR_M ad) (S : qS) (x1 : Int32) (y0 : Int32) (hf : fM_isMet_104 S x1 y0 = some res) : ∀ (H : Heap) (locs : List Loc) (ls : Array Slot), qG D qCl (mT K) A s (mW h K S) H locs → lv_has ls 6 [(1, .int x1)] → W p l e ({ frames := 1, cells := 0, slots := 0, locals := 21 }) s m args below meth c H locs 0 0 (MQ below (qQi D qCl (mT K) (mW h K) A res) args s 0 0 A) (F0 m 104 ls [.int y0]) := by
  intro H locs ls G hl
  unfold fM_isMet_104 at hf
  refine lv_istore (lv' := [(5, .int y0), (1, .int x1)]) C.1 C.2.1 qm_M_isMet_104 hl (by decide) rfl (fun ls hl => ?_)
  refine lv_iload C.1 C.2.1 qm_M_isMet_106 (lv_at hl 0 rfl) ?_
  refine lv_iload_n C.1 C.2.1 qm_M_isMet_108 rfl (lv_at hl 1 rfl) ?_
  refine lv_bipush (v := 50) C.1 C.2.1 qm_M_isMet_109 (by decide) ?_
  refine lv_isub C.1 C.2.1 qm_M_isMet_111 ?_
  refine lv_iconst (v := 2) C.1 C.2.1 qm_M_isMet_112 (by decide) ?_
  refine lv_irem C.1 C.2.1 qm_M_isMet_113 (by decide) ?_
  refine lv_iconst (v := 1) C.1 C.2.1 qm_M_isMet_114 (by decide) ?_
  refine lv_icmp_ne (tgt := 122) C.1 C.2.1 qm_M_isMet_115 (by decide) (fun b1 => ?_) (fun b1 => ?_)
  · have hf := if_t b1 hf
    refine lv_iconst (v := 0) C.1 C.2.1 qm_M_isMet_122 (by decide) ?_
    exact wM_isMet_123 C S y0 0 hf _ _ _ G (lv_sub hl [] rfl)
  · have hf := if_f (not_not_intro b1) hf
    refine lv_iconst (v := 1) C.1 C.2.1 qm_M_isMet_118 (by decide) ?_
    refine lv_goto (tgt := 123) C.1 C.2.1 qm_M_isMet_119 (by decide) ?_
    exact wM_isMet_123 C S y0 1 hf _ _ _ G (lv_sub hl [] rfl)
set_option maxHeartbeats 4000000 in
set_option maxRecDepth 100000 in
theorem wM_isMet_78 {l : Launch} {D : va_G} {h : Nat → Nat} {K : Nat → ClassId} {res : Int32 × qS} {p : Program} {e : Env} {s : State} {m : MethodId} {args : Array Value} {below : List Frame} {meth : Method} {c : Code} {A : Nat → Prop} {ad : Nat → Nat} (C : qC p s m args meth c qm_M_isMet_c 6 (some .boolean) qR_M ad) (S : qS) (x1 : Int32) (hf : fM_isMet_78 S x1 = some res) : ∀ (H : Heap) (locs : List Loc) (ls : Array Slot), qG D qCl (mT K) A s (mW h K S) H locs → lv_has ls 6 [(1, .int x1)] → W p l e ({ frames := 1, cells := 0, slots := 0, locals := 21 }) s m args below meth c H locs 0 0 (MQ below (qQi D qCl (mT K) (mW h K) A res) args s 0 0 A) (F0 m 78 ls []) := by
  intro H locs ls G hl
  unfold fM_isMet_78 at hf
  refine lv_iconst (v := 1) C.1 C.2.1 qm_M_isMet_78 (by decide) ?_
  refine lv_goto (tgt := 104) C.1 C.2.1 qm_M_isMet_79 (by decide) ?_
  exact wM_isMet_104 C S x1 1 hf _ _ _ G (lv_sub hl [0] rfl)
set_option maxHeartbeats 4000000 in
set_option maxRecDepth 100000 in
theorem wM_isMet_43 {l : Launch} {D : va_G} {h : Nat → Nat} {K : Nat → ClassId} {res : Int32 × qS} {p : Program} {e : Env} {s : State} {m : MethodId} {args : Array Value} {below : List Frame} {meth : Method} {c : Code} {A : Nat → Prop} {ad : Nat → Nat} (C : qC p s m args meth c qm_M_isMet_c 6 (some .boolean) qR_M ad) (S : qS) (x1 : Int32) (hf : fM_isMet_43 S x1 = some res) : ∀ (H : Heap) (locs : List Loc) (ls : Array Slot), qG D qCl (mT K) A s (mW h K S) H locs → lv_has ls 6 [(1, .int x1)] → W p l e ({ frames := 1, cells := 0, slots := 0, locals := 21 }) s m args below meth c H locs 0 0 (MQ below (qQi D qCl (mT K) (mW h K) A res) args s 0 0 A) (F0 m 43 ls []) := by
  intro H locs ls G hl
  unfold fM_isMet_43 at hf
  refine lv_iconst (v := 1) C.1 C.2.1 qm_M_isMet_43 (by decide) ?_
  refine lv_goto (tgt := 104) C.1 C.2.1 qm_M_isMet_44 (by decide) ?_
  exact wM_isMet_104 C S x1 1 hf _ _ _ G (lv_sub hl [0] rfl)
set_option maxHeartbeats 4000000 in
set_option maxRecDepth 100000 in
theorem wM_isMet {l : Launch} {D : va_G} {h : Nat → Nat} {K : Nat → ClassId} {res : Int32 × qS} {p : Program} {e : Env} {s : State} {m : MethodId} {args : Array Value} {below : List Frame} {meth : Method} {c : Code} {A : Nat → Prop} {ad : Nat → Nat} (C : qC p s m args meth c qm_M_isMet_c 6 (some .boolean) qR_M ad) (S : qS) (a1 : Int32) (hf : fM_isMet S a1 = some res) : ∀ (H : Heap) (locs : List Loc) (ls : Array Slot), qG D qCl (mT K) A s (mW h K S) H locs → lv_has ls 6 [(0, .ref (h 0)), (1, .int a1)] → W p l e ({ frames := 1, cells := 0, slots := 0, locals := 21 }) s m args below meth c H locs 0 0 (MQ below (qQi D qCl (mT K) (mW h K) A res) args s 0 0 A) (F0 m 0 ls []) := by
  intro H locs ls G hl
  unfold fM_isMet at hf
  refine lv_iload_n C.1 C.2.1 qm_M_isMet_0 rfl (lv_at hl 1 rfl) ?_
  refine lv_bipush (v := 50) C.1 C.2.1 qm_M_isMet_1 (by decide) ?_
  refine lv_isub C.1 C.2.1 qm_M_isMet_3 ?_
  refine lv_iconst (v := 2) C.1 C.2.1 qm_M_isMet_4 (by decide) ?_
  refine lv_idiv C.1 C.2.1 qm_M_isMet_5 (by decide) ?_
  refine lv_istore_n (lv' := [(2, .int ((a1 - 50) / 2)), (0, .ref (h 0)), (1, .int a1)]) C.1 C.2.1 qm_M_isMet_6 rfl hl (by decide) rfl (fun ls hl => ?_)
  refine lv_aload_n C.1 C.2.1 qm_M_isMet_7 rfl (lv_at hl 1 rfl) ?_
  refine lv_iconst (v := 3) C.1 C.2.1 qm_M_isMet_8 (by decide) ?_
  obtain ⟨q1, c1, hf⟩ := bnd_s hf
  refine q_callVi (wf := (mW h K)) (n := 1) (As := [.int 3]) (q0 := 0) (ci := 7) C G hl.1 (kM_has (l := l) c1) qx_M_106 qm_M_has_d ⟨by decide, by decide⟩ ⟨Nat.le_refl _, Nat.le_refl _⟩ rfl rfl rfl rfl rfl (Nat.le_of_ble_eq_true rfl) qm_M_isMet_9 (fun H locs G => ?_)
  refine lv_istore_n (lv' := [(3, .int q1.1), (2, .int ((a1 - 50) / 2)), (0, .ref (h 0)), (1, .int a1)]) C.1 C.2.1 qm_M_isMet_12 rfl hl (by decide) rfl (fun ls hl => ?_)
  refine lv_aload_n C.1 C.2.1 qm_M_isMet_13 rfl (lv_at hl 2 rfl) ?_
  refine lv_iconst (v := 2) C.1 C.2.1 qm_M_isMet_14 (by decide) ?_
  obtain ⟨q2, c2, hf⟩ := bnd_s hf
  refine q_callVi (wf := (mW h K)) (n := 1) (As := [.int 2]) (q0 := 0) (ci := 7) C G hl.1 (kM_has (l := l) c2) qx_M_106 qm_M_has_d ⟨by decide, by decide⟩ ⟨Nat.le_refl _, Nat.le_refl _⟩ rfl rfl rfl rfl rfl (Nat.le_of_ble_eq_true rfl) qm_M_isMet_15 (fun H locs G => ?_)
  refine lv_istore (lv' := [(4, .int q2.1), (3, .int q1.1), (2, .int ((a1 - 50) / 2)), (0, .ref (h 0)), (1, .int a1)]) C.1 C.2.1 qm_M_isMet_18 hl (by decide) rfl (fun ls hl => ?_)
  refine lv_iload_n C.1 C.2.1 qm_M_isMet_20 rfl (lv_at hl 2 rfl) ?_
  refine lv_if_ne (tgt := 29) C.1 C.2.1 qm_M_isMet_21 (by decide) (fun b3 => ?_) (fun b3 => ?_)
  · have hf := if_t b3 hf
    refine lv_iload_n C.1 C.2.1 qm_M_isMet_29 rfl (lv_at hl 2 rfl) ?_
    refine lv_iconst (v := 1) C.1 C.2.1 qm_M_isMet_30 (by decide) ?_
    refine lv_icmp_ne (tgt := 51) C.1 C.2.1 qm_M_isMet_31 (by decide) (fun b4 => ?_) (fun b4 => ?_)
    · have hf := if_t b4 hf
      refine lv_iload_n C.1 C.2.1 qm_M_isMet_51 rfl (lv_at hl 2 rfl) ?_
      refine lv_iconst (v := 2) C.1 C.2.1 qm_M_isMet_52 (by decide) ?_
      refine lv_icmp_ne (tgt := 60) C.1 C.2.1 qm_M_isMet_53 (by decide) (fun b5 => ?_) (fun b5 => ?_)
      · have hf := if_t b5 hf
        refine lv_iload_n C.1 C.2.1 qm_M_isMet_60 rfl (lv_at hl 2 rfl) ?_
        refine lv_iconst (v := 3) C.1 C.2.1 qm_M_isMet_61 (by decide) ?_
        refine lv_icmp_ne (tgt := 86) C.1 C.2.1 qm_M_isMet_62 (by decide) (fun b6 => ?_) (fun b6 => ?_)
        · have hf := if_t b6 hf
          refine lv_iload_n C.1 C.2.1 qm_M_isMet_86 rfl (lv_at hl 2 rfl) ?_
          refine lv_iconst (v := 4) C.1 C.2.1 qm_M_isMet_87 (by decide) ?_
          refine lv_icmp_ne (tgt := 99) C.1 C.2.1 qm_M_isMet_88 (by decide) (fun b7 => ?_) (fun b7 => ?_)
          · have hf := if_t b7 hf
            refine lv_aload_n C.1 C.2.1 qm_M_isMet_99 rfl (lv_at hl 3 rfl) ?_
            refine lv_iconst (v := 0) C.1 C.2.1 qm_M_isMet_100 (by decide) ?_
            obtain ⟨q8, c8, hf⟩ := bnd_s hf
            refine q_callVi (wf := (mW h K)) (n := 1) (As := [.int 0]) (q0 := 0) (ci := 7) C G hl.1 (kM_has (l := l) c8) qx_M_106 qm_M_has_d ⟨by decide, by decide⟩ ⟨Nat.le_refl _, Nat.le_refl _⟩ rfl rfl rfl rfl rfl (Nat.le_of_ble_eq_true rfl) qm_M_isMet_101 (fun H locs G => ?_)
            exact wM_isMet_104 C q8.2 a1 q8.1 hf _ _ _ G (lv_sub hl [4] rfl)
          · have hf := if_f (not_not_intro b7) hf
            refine lv_aload_n C.1 C.2.1 qm_M_isMet_91 rfl (lv_at hl 3 rfl) ?_
            refine lv_iconst (v := 1) C.1 C.2.1 qm_M_isMet_92 (by decide) ?_
            obtain ⟨q9, c9, hf⟩ := bnd_s hf
            refine q_callVi (wf := (mW h K)) (n := 1) (As := [.int 1]) (q0 := 0) (ci := 7) C G hl.1 (kM_has (l := l) c9) qx_M_106 qm_M_has_d ⟨by decide, by decide⟩ ⟨Nat.le_refl _, Nat.le_refl _⟩ rfl rfl rfl rfl rfl (Nat.le_of_ble_eq_true rfl) qm_M_isMet_93 (fun H locs G => ?_)
            refine lv_goto (tgt := 104) C.1 C.2.1 qm_M_isMet_96 (by decide) ?_
            exact wM_isMet_104 C q9.2 a1 q9.1 hf _ _ _ G (lv_sub hl [4] rfl)
        · have hf := if_f (not_not_intro b6) hf
          refine lv_aload_n C.1 C.2.1 qm_M_isMet_65 rfl (lv_at hl 3 rfl) ?_
          refine lv_iconst (v := 0) C.1 C.2.1 qm_M_isMet_66 (by decide) ?_
          obtain ⟨q10, c10, hf⟩ := bnd_s hf
          refine q_callVi (wf := (mW h K)) (n := 1) (As := [.int 0]) (q0 := 0) (ci := 7) C G hl.1 (kM_has (l := l) c10) qx_M_106 qm_M_has_d ⟨by decide, by decide⟩ ⟨Nat.le_refl _, Nat.le_refl _⟩ rfl rfl rfl rfl rfl (Nat.le_of_ble_eq_true rfl) qm_M_isMet_67 (fun H locs G => ?_)
          refine lv_if_ne (tgt := 78) C.1 C.2.1 qm_M_isMet_70 (by decide) (fun b11 => ?_) (fun b11 => ?_)
          · have hf := if_t b11 hf
            exact wM_isMet_78 C q10.2 a1 hf _ _ _ G (lv_sub hl [4] rfl)
          · have hf := if_f (not_not_intro b11) hf
            refine lv_iload C.1 C.2.1 qm_M_isMet_73 (lv_at hl 0 rfl) ?_
            refine lv_if_eq (tgt := 82) C.1 C.2.1 qm_M_isMet_75 (by decide) (fun b12 => ?_) (fun b12 => ?_)
            · have hf := if_t b12 hf
              refine lv_iconst (v := 0) C.1 C.2.1 qm_M_isMet_82 (by decide) ?_
              refine lv_goto (tgt := 104) C.1 C.2.1 qm_M_isMet_83 (by decide) ?_
              exact wM_isMet_104 C q10.2 a1 0 hf _ _ _ G (lv_sub hl [4] rfl)
            · have hf := if_f b12 hf
              exact wM_isMet_78 C q10.2 a1 hf _ _ _ G (lv_sub hl [4] rfl)
      · have hf := if_f (not_not_intro b5) hf
        refine lv_iload_n C.1 C.2.1 qm_M_isMet_56 rfl (lv_at hl 1 rfl) ?_
        refine lv_goto (tgt := 104) C.1 C.2.1 qm_M_isMet_57 (by decide) ?_
        exact wM_isMet_104 C q2.2 a1 q1.1 hf _ _ _ G (lv_sub hl [4] rfl)
    · have hf := if_f (not_not_intro b4) hf
      refine lv_iload_n C.1 C.2.1 qm_M_isMet_34 rfl (lv_at hl 1 rfl) ?_
      refine lv_if_ne (tgt := 43) C.1 C.2.1 qm_M_isMet_35 (by decide) (fun b13 => ?_) (fun b13 => ?_)
      · have hf := if_t b13 hf
        exact wM_isMet_43 C q2.2 a1 hf _ _ _ G (lv_sub hl [4] rfl)
      · have hf := if_f (not_not_intro b13) hf
        refine lv_iload C.1 C.2.1 qm_M_isMet_38 (lv_at hl 0 rfl) ?_
        refine lv_if_eq (tgt := 47) C.1 C.2.1 qm_M_isMet_40 (by decide) (fun b14 => ?_) (fun b14 => ?_)
        · have hf := if_t b14 hf
          refine lv_iconst (v := 0) C.1 C.2.1 qm_M_isMet_47 (by decide) ?_
          refine lv_goto (tgt := 104) C.1 C.2.1 qm_M_isMet_48 (by decide) ?_
          exact wM_isMet_104 C q2.2 a1 0 hf _ _ _ G (lv_sub hl [4] rfl)
        · have hf := if_f b14 hf
          exact wM_isMet_43 C q2.2 a1 hf _ _ _ G (lv_sub hl [4] rfl)
  · have hf := if_f (not_not_intro b3) hf
    refine lv_iload C.1 C.2.1 qm_M_isMet_24 (lv_at hl 0 rfl) ?_
    refine lv_goto (tgt := 104) C.1 C.2.1 qm_M_isMet_26 (by decide) ?_
    exact wM_isMet_104 C q2.2 a1 q2.1 hf _ _ _ G (lv_sub hl [4] rfl)
theorem kM_isMet {l : Launch} {ad : Nat → Nat} {D : va_G} {h : Nat → Nat} {K : Nat → ClassId} {res : Int32 × qS} {S : qS} {a1 : Int32} (hf : fM_isMet S a1 = some res) : qMi l qm_M_isMet qm_M_isMet_c 6 .boolean 1 21 D qCl (mT K) ad (mW h K) [.ref (h 0), .int a1] S res := qMi_of (by decide) (Nat.le_of_ble_eq_true rfl) (fun _ _ _ _ _ _ _ _ _ _ C G hl => wM_isMet C S a1 hf _ _ _ G hl)
set_option maxHeartbeats 4000000 in
set_option maxRecDepth 100000 in
theorem wM_count_186 {l : Launch} {D : va_G} {h : Nat → Nat} {K : Nat → ClassId} {res : qS} {p : Program} {e : Env} {s : State} {m : MethodId} {args : Array Value} {below : List Frame} {meth : Method} {c : Code} {A : Nat → Prop} {ad : Nat → Nat} (C : qC p s m args meth c qm_M_count_c 5 none qR_M ad) (S : qS) (hf : fM_count_186 S = some res) : ∀ (H : Heap) (locs : List Loc) (ls : Array Slot), qG D qCl (mT K) A s (mW h K S) H locs → lv_has ls 5 [] → W p l e ({ frames := 4, cells := 0, slots := 0, locals := 101 }) s m args below meth c H locs 0 0 (MQ below (qQv D qCl (mT K) (mW h K) A res) args s 0 0 A) (F0 m 186 ls []) := by
  intro H locs ls G hl
  unfold fM_count_186 at hf
  exact q_vret (wf := (mW h K)) C G hf qm_M_count_186
set_option maxHeartbeats 4000000 in
set_option maxRecDepth 100000 in
theorem wM_count_161 {l : Launch} {D : va_G} {h : Nat → Nat} {K : Nat → ClassId} {res : qS} {p : Program} {e : Env} {s : State} {m : MethodId} {args : Array Value} {below : List Frame} {meth : Method} {c : Code} {A : Nat → Prop} {ad : Nat → Nat} (C : qC p s m args meth c qm_M_count_c 5 none qR_M ad) (S : qS) (x2 : Int32) (y0 : Int32) (hf : fM_count_161 S x2 y0 = some res) : ∀ (H : Heap) (locs : List Loc) (ls : Array Slot), qG D qCl (mT K) A s (mW h K S) H locs → lv_has ls 5 [(0, .ref (h 0)), (2, .int x2)] → W p l e ({ frames := 4, cells := 0, slots := 0, locals := 101 }) s m args below meth c H locs 0 0 (MQ below (qQv D qCl (mT K) (mW h K) A res) args s 0 0 A) (F0 m 161 ls [.int y0]) := by
  intro H locs ls G hl
  unfold fM_count_161 at hf
  refine lv_istore (lv' := [(4, .int y0), (0, .ref (h 0)), (2, .int x2)]) C.1 C.2.1 qm_M_count_161 hl (by decide) rfl (fun ls hl => ?_)
  refine lv_iload C.1 C.2.1 qm_M_count_163 (lv_at hl 0 rfl) ?_
  refine lv_if_eq (tgt := 186) C.1 C.2.1 qm_M_count_165 (by decide) (fun b1 => ?_) (fun b1 => ?_)
  · have hf := if_t b1 hf
    exact wM_count_186 C S hf _ _ _ G (lv_sub hl [] rfl)
  · have hf := if_f b1 hf
    refine lv_aload_n C.1 C.2.1 qm_M_count_168 rfl (lv_at hl 1 rfl) ?_
    refine q_get (wf := (mW h K)) (v := .ref (h 2)) C G qi_M 0 rfl rfl 2 (by decide) qz_833 rfl qm_M_count_169 ?_
    refine lv_bipush (v := 15) C.1 C.2.1 qm_M_count_172 (by decide) ?_
    refine lv_dup2_11 C.1 C.2.1 qm_M_count_174 rfl rfl ?_
    refine q_iald (wf := (mW h K)) C G 2 1 rfl rfl (by decide) qm_M_count_175 ?_
    refine lv_aload_n C.1 C.2.1 qm_M_count_176 rfl (lv_at hl 1 rfl) ?_
    refine q_get (wf := (mW h K)) (v := .ref (h 6)) C G qi_M 0 rfl rfl 16 (by decide) qz_847 rfl qm_M_count_177 ?_
    refine lv_iload_n C.1 C.2.1 qm_M_count_180 rfl (lv_at hl 2 rfl) ?_
    refine lv_iconst (v := 1) C.1 C.2.1 qm_M_count_181 (by decide) ?_
    refine lv_iadd C.1 C.2.1 qm_M_count_182 ?_
    obtain ⟨b2, hf⟩ := chk_s hf
    refine q_iald (wf := (mW h K)) C G 6 5 rfl rfl b2 qm_M_count_183 ?_
    refine lv_iadd C.1 C.2.1 qm_M_count_184 ?_
    refine q_iast (wf := (mW h K)) (S' := (pA S 1 15 ((gA S 1 15) + (gA S 5 (x2 + 1))))) C G 2 1 rfl rfl (by decide) rfl qm_M_count_185 (fun H locs G => ?_)
    exact wM_count_186 C (pA S 1 15 ((gA S 1 15) + (gA S 5 (x2 + 1)))) hf _ _ _ G (lv_sub hl [] rfl)
set_option maxHeartbeats 4000000 in
set_option maxRecDepth 100000 in
theorem wM_count_71 {l : Launch} {D : va_G} {h : Nat → Nat} {K : Nat → ClassId} {res : qS} {p : Program} {e : Env} {s : State} {m : MethodId} {args : Array Value} {below : List Frame} {meth : Method} {c : Code} {A : Nat → Prop} {ad : Nat → Nat} (C : qC p s m args meth c qm_M_count_c 5 none qR_M ad) (S : qS) (x1 : Int32) (x2 : Int32) (x3 : Int32) (y1 : Int32) (y2 : Int32) (hf : fM_count_71 S x1 x2 x3 y1 y2 = some res) : ∀ (H : Heap) (locs : List Loc) (ls : Array Slot), qG D qCl (mT K) A s (mW h K S) H locs → lv_has ls 5 [(0, .ref (h 0)), (1, .int x1), (2, .int x2), (3, .int x3)] → W p l e ({ frames := 4, cells := 0, slots := 0, locals := 101 }) s m args below meth c H locs 0 0 (MQ below (qQv D qCl (mT K) (mW h K) A res) args s 0 0 A) (F0 m 71 ls [.int y2, .int y1, .ref (h 0)]) := by
  intro H locs ls G hl
  unfold fM_count_71 at hf
  refine lv_aload_n C.1 C.2.1 qm_M_count_71 rfl (lv_at hl 0 rfl) ?_
  refine lv_iconst (v := 0) C.1 C.2.1 qm_M_count_72 (by decide) ?_
  obtain ⟨q1, c1, hf⟩ := bnd_s hf
  refine q_callVi (wf := (mW h K)) (n := 1) (As := [.int 0]) (q0 := 0) (ci := 7) C G hl.1 (kM_has (l := l) c1) qx_M_106 qm_M_has_d ⟨by decide, by decide⟩ ⟨Nat.le_refl _, Nat.le_refl _⟩ rfl rfl rfl rfl rfl (Nat.le_of_ble_eq_true rfl) qm_M_count_73 (fun H locs G => ?_)
  obtain ⟨S2, c2, hf⟩ := bnd_s hf
  refine q_callVv (wf := (mW h K)) (n := 3) (As := [.int y1, .int y2, .int q1.1]) (q0 := 0) (ci := 7) C G hl.1 (kM_mark (l := l) c2) qx_M_113 qm_M_mark_d ⟨by decide, by decide⟩ ⟨Nat.le_refl _, Nat.le_refl _⟩ rfl rfl rfl rfl rfl (Nat.le_of_ble_eq_true rfl) qm_M_count_76 (fun H locs G => ?_)
  refine lv_aload_n C.1 C.2.1 qm_M_count_79 rfl (lv_at hl 0 rfl) ?_
  refine lv_iload_n C.1 C.2.1 qm_M_count_80 rfl (lv_at hl 2 rfl) ?_
  refine lv_iload_n C.1 C.2.1 qm_M_count_81 rfl (lv_at hl 3 rfl) ?_
  refine lv_iconst (v := 4) C.1 C.2.1 qm_M_count_82 (by decide) ?_
  obtain ⟨S3, c3, hf⟩ := bnd_s hf
  refine q_callVv (wf := (mW h K)) (n := 3) (As := [.int x2, .int x3, .int 4]) (q0 := 0) (ci := 7) C G hl.1 (kM_give (l := l) c3) qx_M_117 qm_M_give_d ⟨by decide, by decide⟩ ⟨Nat.le_refl _, Nat.le_refl _⟩ rfl rfl rfl rfl rfl (Nat.le_of_ble_eq_true rfl) qm_M_count_83 (fun H locs G => ?_)
  refine lv_iload_n C.1 C.2.1 qm_M_count_86 rfl (lv_at hl 1 rfl) ?_
  refine lv_bipush (v := 64) C.1 C.2.1 qm_M_count_87 (by decide) ?_
  refine lv_icmp_ne (tgt := 104) C.1 C.2.1 qm_M_count_89 (by decide) (fun b4 => ?_) (fun b4 => ?_)
  · have hf := if_t b4 hf
    refine lv_iload_n C.1 C.2.1 qm_M_count_104 rfl (lv_at hl 1 rfl) ?_
    refine lv_bipush (v := 65) C.1 C.2.1 qm_M_count_105 (by decide) ?_
    refine lv_icmp_ne (tgt := 122) C.1 C.2.1 qm_M_count_107 (by decide) (fun b5 => ?_) (fun b5 => ?_)
    · have hf := if_t b5 hf
      refine lv_iload_n C.1 C.2.1 qm_M_count_122 rfl (lv_at hl 1 rfl) ?_
      refine lv_bipush (v := 66) C.1 C.2.1 qm_M_count_123 (by decide) ?_
      refine lv_icmp_ne (tgt := 146) C.1 C.2.1 qm_M_count_125 (by decide) (fun b6 => ?_) (fun b6 => ?_)
      · have hf := if_t b6 hf
        refine lv_iload_n C.1 C.2.1 qm_M_count_146 rfl (lv_at hl 3 rfl) ?_
        refine lv_aload_n C.1 C.2.1 qm_M_count_147 rfl (lv_at hl 0 rfl) ?_
        refine q_get (wf := (mW h K)) (v := .ref (h 6)) C G qi_M 0 rfl rfl 16 (by decide) qz_847 rfl qm_M_count_148 ?_
        refine lv_iconst (v := 0) C.1 C.2.1 qm_M_count_151 (by decide) ?_
        refine q_iald (wf := (mW h K)) C G 6 5 rfl rfl (by decide) qm_M_count_152 ?_
        refine lv_icmp_gt (tgt := 160) C.1 C.2.1 qm_M_count_153 (by decide) (fun b7 => ?_) (fun b7 => ?_)
        · have hf := if_t b7 hf
          refine lv_iconst (v := 0) C.1 C.2.1 qm_M_count_160 (by decide) ?_
          exact wM_count_161 C S3 x2 0 hf _ _ _ G (lv_sub hl [0, 2] rfl)
        · have hf := if_f b7 hf
          refine lv_iconst (v := 1) C.1 C.2.1 qm_M_count_156 (by decide) ?_
          refine lv_goto (tgt := 161) C.1 C.2.1 qm_M_count_157 (by decide) ?_
          exact wM_count_161 C S3 x2 1 hf _ _ _ G (lv_sub hl [0, 2] rfl)
      · have hf := if_f (not_not_intro b6) hf
        refine lv_iload_n C.1 C.2.1 qm_M_count_128 rfl (lv_at hl 3 rfl) ?_
        refine lv_aload_n C.1 C.2.1 qm_M_count_129 rfl (lv_at hl 0 rfl) ?_
        refine q_get (wf := (mW h K)) (v := .ref (h 6)) C G qi_M 0 rfl rfl 16 (by decide) qz_847 rfl qm_M_count_130 ?_
        refine lv_iconst (v := 0) C.1 C.2.1 qm_M_count_133 (by decide) ?_
        refine q_iald (wf := (mW h K)) C G 6 5 rfl rfl (by decide) qm_M_count_134 ?_
        refine lv_icmp_ge (tgt := 142) C.1 C.2.1 qm_M_count_135 (by decide) (fun b8 => ?_) (fun b8 => ?_)
        · have hf := if_t b8 hf
          refine lv_iconst (v := 0) C.1 C.2.1 qm_M_count_142 (by decide) ?_
          refine lv_goto (tgt := 161) C.1 C.2.1 qm_M_count_143 (by decide) ?_
          exact wM_count_161 C S3 x2 0 hf _ _ _ G (lv_sub hl [0, 2] rfl)
        · have hf := if_f b8 hf
          refine lv_iconst (v := 1) C.1 C.2.1 qm_M_count_138 (by decide) ?_
          refine lv_goto (tgt := 161) C.1 C.2.1 qm_M_count_139 (by decide) ?_
          exact wM_count_161 C S3 x2 1 hf _ _ _ G (lv_sub hl [0, 2] rfl)
    · have hf := if_f (not_not_intro b5) hf
      refine lv_iload_n C.1 C.2.1 qm_M_count_110 rfl (lv_at hl 3 rfl) ?_
      refine lv_if_lt (tgt := 118) C.1 C.2.1 qm_M_count_111 (by decide) (fun b9 => ?_) (fun b9 => ?_)
      · have hf := if_t b9 hf
        refine lv_iconst (v := 0) C.1 C.2.1 qm_M_count_118 (by decide) ?_
        refine lv_goto (tgt := 161) C.1 C.2.1 qm_M_count_119 (by decide) ?_
        exact wM_count_161 C S3 x2 0 hf _ _ _ G (lv_sub hl [0, 2] rfl)
      · have hf := if_f b9 hf
        refine lv_iconst (v := 1) C.1 C.2.1 qm_M_count_114 (by decide) ?_
        refine lv_goto (tgt := 161) C.1 C.2.1 qm_M_count_115 (by decide) ?_
        exact wM_count_161 C S3 x2 1 hf _ _ _ G (lv_sub hl [0, 2] rfl)
  · have hf := if_f (not_not_intro b4) hf
    refine lv_iload_n C.1 C.2.1 qm_M_count_92 rfl (lv_at hl 3 rfl) ?_
    refine lv_if_le (tgt := 100) C.1 C.2.1 qm_M_count_93 (by decide) (fun b10 => ?_) (fun b10 => ?_)
    · have hf := if_t b10 hf
      refine lv_iconst (v := 0) C.1 C.2.1 qm_M_count_100 (by decide) ?_
      refine lv_goto (tgt := 161) C.1 C.2.1 qm_M_count_101 (by decide) ?_
      exact wM_count_161 C S3 x2 0 hf _ _ _ G (lv_sub hl [0, 2] rfl)
    · have hf := if_f b10 hf
      refine lv_iconst (v := 1) C.1 C.2.1 qm_M_count_96 (by decide) ?_
      refine lv_goto (tgt := 161) C.1 C.2.1 qm_M_count_97 (by decide) ?_
      exact wM_count_161 C S3 x2 1 hf _ _ _ G (lv_sub hl [0, 2] rfl)
set_option maxHeartbeats 4000000 in
set_option maxRecDepth 100000 in
theorem wM_count_37 {l : Launch} {D : va_G} {h : Nat → Nat} {K : Nat → ClassId} {res : qS} {p : Program} {e : Env} {s : State} {m : MethodId} {args : Array Value} {below : List Frame} {meth : Method} {c : Code} {A : Nat → Prop} {ad : Nat → Nat} (C : qC p s m args meth c qm_M_count_c 5 none qR_M ad) (S : qS) (x1 : Int32) (x2 : Int32) (y0 : Int32) (hf : fM_count_37 S x1 x2 y0 = some res) : ∀ (H : Heap) (locs : List Loc) (ls : Array Slot), qG D qCl (mT K) A s (mW h K S) H locs → lv_has ls 5 [(0, .ref (h 0)), (1, .int x1), (2, .int x2)] → W p l e ({ frames := 4, cells := 0, slots := 0, locals := 101 }) s m args below meth c H locs 0 0 (MQ below (qQv D qCl (mT K) (mW h K) A res) args s 0 0 A) (F0 m 37 ls [.int y0]) := by
  intro H locs ls G hl
  unfold fM_count_37 at hf
  refine lv_istore_n (lv' := [(3, .int y0), (0, .ref (h 0)), (1, .int x1), (2, .int x2)]) C.1 C.2.1 qm_M_count_37 rfl hl (by decide) rfl (fun ls hl => ?_)
  refine lv_aload_n C.1 C.2.1 qm_M_count_38 rfl (lv_at hl 1 rfl) ?_
  refine lv_iload_n C.1 C.2.1 qm_M_count_39 rfl (lv_at hl 0 rfl) ?_
  refine lv_iload_n C.1 C.2.1 qm_M_count_40 rfl (lv_at hl 2 rfl) ?_
  refine lv_bipush (v := 66) C.1 C.2.1 qm_M_count_41 (by decide) ?_
  refine lv_icmp_ge (tgt := 60) C.1 C.2.1 qm_M_count_43 (by decide) (fun b1 => ?_) (fun b1 => ?_)
  · have hf := if_t b1 hf
    refine lv_iload_n C.1 C.2.1 qm_M_count_60 rfl (lv_at hl 0 rfl) ?_
    refine lv_ldc (own := "QuadModeModel") (v := (-2147483648)) C.1 C.2.1 C.2.2.2.1 (C.2.2.2.2.1 _ qz_987) qm_M_count_61 ?_
    refine lv_icmp_ne (tgt := 70) C.1 C.2.1 qm_M_count_63 (by decide) (fun b2 => ?_) (fun b2 => ?_)
    · have hf := if_t b2 hf
      refine lv_iconst (v := 0) C.1 C.2.1 qm_M_count_70 (by decide) ?_
      exact wM_count_71 C S x1 x2 y0 y0 0 hf _ _ _ G (lv_sub hl [1, 2, 3, 0] rfl)
    · have hf := if_f (not_not_intro b2) hf
      refine lv_iconst (v := 1) C.1 C.2.1 qm_M_count_66 (by decide) ?_
      refine lv_goto (tgt := 71) C.1 C.2.1 qm_M_count_67 (by decide) ?_
      exact wM_count_71 C S x1 x2 y0 y0 1 hf _ _ _ G (lv_sub hl [1, 2, 3, 0] rfl)
  · have hf := if_f b1 hf
    refine lv_iload_n C.1 C.2.1 qm_M_count_46 rfl (lv_at hl 0 rfl) ?_
    refine lv_ldc (own := "QuadModeModel") (v := 2147483647) C.1 C.2.1 C.2.2.2.1 (C.2.2.2.2.1 _ qz_1071) qm_M_count_47 ?_
    refine lv_icmp_ne (tgt := 56) C.1 C.2.1 qm_M_count_49 (by decide) (fun b3 => ?_) (fun b3 => ?_)
    · have hf := if_t b3 hf
      refine lv_iconst (v := 0) C.1 C.2.1 qm_M_count_56 (by decide) ?_
      refine lv_goto (tgt := 71) C.1 C.2.1 qm_M_count_57 (by decide) ?_
      exact wM_count_71 C S x1 x2 y0 y0 0 hf _ _ _ G (lv_sub hl [1, 2, 3, 0] rfl)
    · have hf := if_f (not_not_intro b3) hf
      refine lv_iconst (v := 1) C.1 C.2.1 qm_M_count_52 (by decide) ?_
      refine lv_goto (tgt := 71) C.1 C.2.1 qm_M_count_53 (by decide) ?_
      exact wM_count_71 C S x1 x2 y0 y0 1 hf _ _ _ G (lv_sub hl [1, 2, 3, 0] rfl)
set_option maxHeartbeats 4000000 in
set_option maxRecDepth 100000 in
theorem wM_count_11 {l : Launch} {D : va_G} {h : Nat → Nat} {K : Nat → ClassId} {res : qS} {p : Program} {e : Env} {s : State} {m : MethodId} {args : Array Value} {below : List Frame} {meth : Method} {c : Code} {A : Nat → Prop} {ad : Nat → Nat} (C : qC p s m args meth c qm_M_count_c 5 none qR_M ad) (S : qS) (x1 : Int32) (y0 : Int32) (hf : fM_count_11 S x1 y0 = some res) : ∀ (H : Heap) (locs : List Loc) (ls : Array Slot), qG D qCl (mT K) A s (mW h K S) H locs → lv_has ls 5 [(0, .ref (h 0)), (1, .int x1)] → W p l e ({ frames := 4, cells := 0, slots := 0, locals := 101 }) s m args below meth c H locs 0 0 (MQ below (qQv D qCl (mT K) (mW h K) A res) args s 0 0 A) (F0 m 11 ls [.int y0]) := by
  intro H locs ls G hl
  unfold fM_count_11 at hf
  refine lv_istore_n (lv' := [(2, .int y0), (0, .ref (h 0)), (1, .int x1)]) C.1 C.2.1 qm_M_count_11 rfl hl (by decide) rfl (fun ls hl => ?_)
  refine lv_iload_n C.1 C.2.1 qm_M_count_12 rfl (lv_at hl 2 rfl) ?_
  refine lv_bipush (v := 66) C.1 C.2.1 qm_M_count_13 (by decide) ?_
  refine lv_icmp_ge (tgt := 29) C.1 C.2.1 qm_M_count_15 (by decide) (fun b1 => ?_) (fun b1 => ?_)
  · have hf := if_t b1 hf
    refine lv_aload_n C.1 C.2.1 qm_M_count_29 rfl (lv_at hl 1 rfl) ?_
    refine q_get (wf := (mW h K)) (v := .ref (h 6)) C G qi_M 0 rfl rfl 16 (by decide) qz_847 rfl qm_M_count_30 ?_
    refine lv_iconst (v := 1) C.1 C.2.1 qm_M_count_33 (by decide) ?_
    refine q_iald (wf := (mW h K)) C G 6 5 rfl rfl (by decide) qm_M_count_34 ?_
    refine lv_iconst (v := 1) C.1 C.2.1 qm_M_count_35 (by decide) ?_
    refine lv_iadd C.1 C.2.1 qm_M_count_36 ?_
    exact wM_count_37 C S x1 y0 ((gA S 5 1) + 1) hf _ _ _ G (lv_sub hl [1, 2, 0] rfl)
  · have hf := if_f b1 hf
    refine lv_aload_n C.1 C.2.1 qm_M_count_18 rfl (lv_at hl 1 rfl) ?_
    refine q_get (wf := (mW h K)) (v := .ref (h 6)) C G qi_M 0 rfl rfl 16 (by decide) qz_847 rfl qm_M_count_19 ?_
    refine lv_iconst (v := 0) C.1 C.2.1 qm_M_count_22 (by decide) ?_
    refine q_iald (wf := (mW h K)) C G 6 5 rfl rfl (by decide) qm_M_count_23 ?_
    refine lv_iconst (v := 1) C.1 C.2.1 qm_M_count_24 (by decide) ?_
    refine lv_isub C.1 C.2.1 qm_M_count_25 ?_
    refine lv_goto (tgt := 37) C.1 C.2.1 qm_M_count_26 (by decide) ?_
    exact wM_count_37 C S x1 y0 ((gA S 5 0) - 1) hf _ _ _ G (lv_sub hl [1, 2, 0] rfl)
set_option maxHeartbeats 4000000 in
set_option maxRecDepth 100000 in
theorem wM_count {l : Launch} {D : va_G} {h : Nat → Nat} {K : Nat → ClassId} {res : qS} {p : Program} {e : Env} {s : State} {m : MethodId} {args : Array Value} {below : List Frame} {meth : Method} {c : Code} {A : Nat → Prop} {ad : Nat → Nat} (C : qC p s m args meth c qm_M_count_c 5 none qR_M ad) (S : qS) (a1 : Int32) (hf : fM_count S a1 = some res) : ∀ (H : Heap) (locs : List Loc) (ls : Array Slot), qG D qCl (mT K) A s (mW h K S) H locs → lv_has ls 5 [(0, .ref (h 0)), (1, .int a1)] → W p l e ({ frames := 4, cells := 0, slots := 0, locals := 101 }) s m args below meth c H locs 0 0 (MQ below (qQv D qCl (mT K) (mW h K) A res) args s 0 0 A) (F0 m 0 ls []) := by
  intro H locs ls G hl
  unfold fM_count at hf
  refine lv_iload_n C.1 C.2.1 qm_M_count_0 rfl (lv_at hl 1 rfl) ?_
  refine lv_bipush (v := 66) C.1 C.2.1 qm_M_count_1 (by decide) ?_
  refine lv_icmp_ge (tgt := 10) C.1 C.2.1 qm_M_count_3 (by decide) (fun b1 => ?_) (fun b1 => ?_)
  · have hf := if_t b1 hf
    refine lv_iconst (v := 1) C.1 C.2.1 qm_M_count_10 (by decide) ?_
    exact wM_count_11 C S a1 1 hf _ _ _ G (lv_sub hl [0, 1] rfl)
  · have hf := if_f b1 hf
    refine lv_iconst (v := 0) C.1 C.2.1 qm_M_count_6 (by decide) ?_
    refine lv_goto (tgt := 11) C.1 C.2.1 qm_M_count_7 (by decide) ?_
    exact wM_count_11 C S a1 0 hf _ _ _ G (lv_sub hl [0, 1] rfl)
theorem kM_count {l : Launch} {ad : Nat → Nat} {D : va_G} {h : Nat → Nat} {K : Nat → ClassId} {res : qS} {S : qS} {a1 : Int32} (hf : fM_count S a1 = some res) : qMv l qm_M_count qm_M_count_c 5 4 101 D qCl (mT K) ad (mW h K) [.ref (h 0), .int a1] S res := qMv_of (by decide) (Nat.le_of_ble_eq_true rfl) (fun _ _ _ _ _ _ _ _ _ _ C G hl => wM_count C S a1 hf _ _ _ G hl)
set_option maxHeartbeats 4000000 in
set_option maxRecDepth 100000 in
theorem wM_callFrame_101 {l : Launch} {D : va_G} {h : Nat → Nat} {K : Nat → ClassId} {res : qS} {p : Program} {e : Env} {s : State} {m : MethodId} {args : Array Value} {below : List Frame} {meth : Method} {c : Code} {A : Nat → Prop} {ad : Nat → Nat} (C : qC p s m args meth c qm_M_callFrame_c 5 none qR_M ad) {K75 : qS → Int32 → Int32 → Int32 → Int32 → Option (qS)} (hK75 : ∀ (S : qS) (x1 : Int32) (x2 : Int32) (x3 : Int32) (x4 : Int32), K75 S x1 x2 x3 x4 = some res → ∀ (H : Heap) (locs : List Loc) (ls : Array Slot), qG D qCl (mT K) A s (mW h K S) H locs → lv_has ls 5 [(0, .ref (h 0)), (1, .int x1), (2, .int x2), (3, .int x3), (4, .int x4)] → W p l e ({ frames := 4, cells := 0, slots := 0, locals := 99 }) s m args below meth c H locs 0 0 (MQ below (qQv D qCl (mT K) (mW h K) A res) args s 0 0 A) (F0 m 75 ls [])) (S : qS) (x1 : Int32) (x2 : Int32) (x3 : Int32) (x4 : Int32) (hf : fM_callFrame_101 K75 S x1 x2 x3 x4 = some res) : ∀ (H : Heap) (locs : List Loc) (ls : Array Slot), qG D qCl (mT K) A s (mW h K S) H locs → lv_has ls 5 [(0, .ref (h 0)), (1, .int x1), (2, .int x2), (3, .int x3), (4, .int x4)] → W p l e ({ frames := 4, cells := 0, slots := 0, locals := 99 }) s m args below meth c H locs 0 0 (MQ below (qQv D qCl (mT K) (mW h K) A res) args s 0 0 A) (F0 m 101 ls []) := by
  intro H locs ls G hl
  unfold fM_callFrame_101 at hf
  refine lv_iinc (v := x4 + (-1)) (lv' := [(4, .int (x4 + (-1))), (0, .ref (h 0)), (1, .int x1), (2, .int x2), (3, .int x3)]) C.1 C.2.1 qm_M_callFrame_101 hl (k := 4) rfl rfl (by decide) rfl (fun ls hl => ?_)
  refine lv_goto (tgt := 75) C.1 C.2.1 qm_M_callFrame_104 (by decide) ?_
  exact hK75 S x1 x2 x3 (x4 + (-1)) hf _ _ _ G (lv_sub hl [1, 2, 3, 4, 0] rfl)
set_option maxHeartbeats 4000000 in
set_option maxRecDepth 100000 in
theorem wM_callFrame_75 {l : Launch} {D : va_G} {h : Nat → Nat} {K : Nat → ClassId} {res : qS} {p : Program} {e : Env} {s : State} {m : MethodId} {args : Array Value} {below : List Frame} {meth : Method} {c : Code} {A : Nat → Prop} {ad : Nat → Nat} (C : qC p s m args meth c qm_M_callFrame_c 5 none qR_M ad) : ∀ (n : Nat) (S : qS) (x1 : Int32) (x2 : Int32) (x3 : Int32) (x4 : Int32), fM_callFrame_75 n S x1 x2 x3 x4 = some res → ∀ (H : Heap) (locs : List Loc) (ls : Array Slot), qG D qCl (mT K) A s (mW h K S) H locs → lv_has ls 5 [(0, .ref (h 0)), (1, .int x1), (2, .int x2), (3, .int x3), (4, .int x4)] → W p l e ({ frames := 4, cells := 0, slots := 0, locals := 99 }) s m args below meth c H locs 0 0 (MQ below (qQv D qCl (mT K) (mW h K) A res) args s 0 0 A) (F0 m 75 ls []) := by
  intro n
  induction n with
  | zero => intro S x1 x2 x3 x4 hf; cases hf
  | succ n ih =>
    intro S x1 x2 x3 x4 hf H locs ls G hl
    rw [fM_callFrame_75] at hf
    refine lv_iload C.1 C.2.1 qm_M_callFrame_75 (lv_at hl 4 rfl) ?_
    refine lv_if_lt (tgt := 107) C.1 C.2.1 qm_M_callFrame_77 (by decide) (fun b1 => ?_) (fun b1 => ?_)
    · have hf := if_t b1 hf
      refine lv_aload_n C.1 C.2.1 qm_M_callFrame_107 rfl (lv_at hl 0 rfl) ?_
      refine lv_aload_n C.1 C.2.1 qm_M_callFrame_108 rfl (lv_at hl 0 rfl) ?_
      refine q_get (wf := (mW h K)) (v := .ref (h 2)) C G qi_M 0 rfl rfl 2 (by decide) qz_833 rfl qm_M_callFrame_109 ?_
      refine lv_bipush (v := 15) C.1 C.2.1 qm_M_callFrame_112 (by decide) ?_
      refine q_iald (wf := (mW h K)) C G 2 1 rfl rfl (by decide) qm_M_callFrame_114 ?_
      obtain ⟨S2, c2, hf⟩ := bnd_s hf
      refine q_callVv (wf := (mW h K)) (n := 1) (As := [.int (gA S 1 15)]) (q0 := 0) (ci := 7) C G hl.1 (kM_push (l := l) c2) qx_M_121 qm_M_push_d ⟨by decide, by decide⟩ ⟨Nat.le_refl _, Nat.le_refl _⟩ rfl rfl rfl rfl rfl (Nat.le_of_ble_eq_true rfl) qm_M_callFrame_115 (fun H locs G => ?_)
      refine lv_aload_n C.1 C.2.1 qm_M_callFrame_118 rfl (lv_at hl 0 rfl) ?_
      refine lv_aload_n C.1 C.2.1 qm_M_callFrame_119 rfl (lv_at hl 0 rfl) ?_
      refine q_get (wf := (mW h K)) (v := .ref (h 2)) C G qi_M 0 rfl rfl 2 (by decide) qz_833 rfl qm_M_callFrame_120 ?_
      refine lv_bipush (v := 13) C.1 C.2.1 qm_M_callFrame_123 (by decide) ?_
      refine q_iald (wf := (mW h K)) C G 2 1 rfl rfl (by decide) qm_M_callFrame_125 ?_
      obtain ⟨S3, c3, hf⟩ := bnd_s hf
      refine q_callVv (wf := (mW h K)) (n := 1) (As := [.int (gA S2 1 13)]) (q0 := 0) (ci := 7) C G hl.1 (kM_push (l := l) c3) qx_M_121 qm_M_push_d ⟨by decide, by decide⟩ ⟨Nat.le_refl _, Nat.le_refl _⟩ rfl rfl rfl rfl rfl (Nat.le_of_ble_eq_true rfl) qm_M_callFrame_126 (fun H locs G => ?_)
      refine lv_aload_n C.1 C.2.1 qm_M_callFrame_129 rfl (lv_at hl 0 rfl) ?_
      refine lv_aload_n C.1 C.2.1 qm_M_callFrame_130 rfl (lv_at hl 0 rfl) ?_
      refine q_get (wf := (mW h K)) (v := .ref (h 2)) C G qi_M 0 rfl rfl 2 (by decide) qz_833 rfl qm_M_callFrame_131 ?_
      refine lv_bipush (v := 12) C.1 C.2.1 qm_M_callFrame_134 (by decide) ?_
      refine q_iald (wf := (mW h K)) C G 2 1 rfl rfl (by decide) qm_M_callFrame_136 ?_
      obtain ⟨S4, c4, hf⟩ := bnd_s hf
      refine q_callVv (wf := (mW h K)) (n := 1) (As := [.int (gA S3 1 12)]) (q0 := 0) (ci := 7) C G hl.1 (kM_push (l := l) c4) qx_M_121 qm_M_push_d ⟨by decide, by decide⟩ ⟨Nat.le_refl _, Nat.le_refl _⟩ rfl rfl rfl rfl rfl (Nat.le_of_ble_eq_true rfl) qm_M_callFrame_137 (fun H locs G => ?_)
      refine lv_aload_n C.1 C.2.1 qm_M_callFrame_140 rfl (lv_at hl 0 rfl) ?_
      refine lv_iload_n C.1 C.2.1 qm_M_callFrame_141 rfl (lv_at hl 3 rfl) ?_
      refine lv_bipush (v := 30) C.1 C.2.1 qm_M_callFrame_142 (by decide) ?_
      refine lv_ishl C.1 C.2.1 qm_M_callFrame_144 ?_
      refine lv_ldc (own := "QuadModeModel") (v := 536870912) C.1 C.2.1 C.2.2.2.1 (C.2.2.2.2.1 _ qz_1077) qm_M_callFrame_145 ?_
      refine lv_ior C.1 C.2.1 qm_M_callFrame_147 ?_
      refine lv_iload_n C.1 C.2.1 qm_M_callFrame_148 rfl (lv_at hl 2 rfl) ?_
      refine lv_sipush (v := 4095) C.1 C.2.1 qm_M_callFrame_149 (by decide) ?_
      refine lv_iand C.1 C.2.1 qm_M_callFrame_152 ?_
      refine lv_bipush (v := 16) C.1 C.2.1 qm_M_callFrame_153 (by decide) ?_
      refine lv_ishl C.1 C.2.1 qm_M_callFrame_155 ?_
      refine lv_ior C.1 C.2.1 qm_M_callFrame_156 ?_
      refine lv_aload_n C.1 C.2.1 qm_M_callFrame_157 rfl (lv_at hl 0 rfl) ?_
      refine q_get (wf := (mW h K)) (v := .int (S4.1 1)) C G qi_M 0 rfl rfl 4 (by decide) qz_835 rfl qm_M_callFrame_158 ?_
      refine lv_ldc (own := "QuadModeModel") (v := 65535) C.1 C.2.1 C.2.2.2.1 (C.2.2.2.2.1 _ qz_1078) qm_M_callFrame_161 ?_
      refine lv_iand C.1 C.2.1 qm_M_callFrame_163 ?_
      refine lv_ior C.1 C.2.1 qm_M_callFrame_164 ?_
      obtain ⟨S5, c5, hf⟩ := bnd_s hf
      refine q_callVv (wf := (mW h K)) (n := 1) (As := [.int ((((x3 <<< ((30 : Int32) &&& 31)) ||| 536870912) ||| ((x2 &&& 4095) <<< ((16 : Int32) &&& 31))) ||| ((S4.1 1) &&& 65535))]) (q0 := 0) (ci := 7) C G hl.1 (kM_push (l := l) c5) qx_M_121 qm_M_push_d ⟨by decide, by decide⟩ ⟨Nat.le_refl _, Nat.le_refl _⟩ rfl rfl rfl rfl rfl (Nat.le_of_ble_eq_true rfl) qm_M_callFrame_165 (fun H locs G => ?_)
      refine lv_aload_n C.1 C.2.1 qm_M_callFrame_168 rfl (lv_at hl 0 rfl) ?_
      refine lv_iconst (v := 0) C.1 C.2.1 qm_M_callFrame_169 (by decide) ?_
      obtain ⟨S6, c6, hf⟩ := bnd_s hf
      refine q_callVv (wf := (mW h K)) (n := 1) (As := [.int 0]) (q0 := 0) (ci := 7) C G hl.1 (kM_push (l := l) c6) qx_M_121 qm_M_push_d ⟨by decide, by decide⟩ ⟨Nat.le_refl _, Nat.le_refl _⟩ rfl rfl rfl rfl rfl (Nat.le_of_ble_eq_true rfl) qm_M_callFrame_170 (fun H locs G => ?_)
      refine lv_aload_n C.1 C.2.1 qm_M_callFrame_173 rfl (lv_at hl 0 rfl) ?_
      refine q_get (wf := (mW h K)) (v := .ref (h 2)) C G qi_M 0 rfl rfl 2 (by decide) qz_833 rfl qm_M_callFrame_174 ?_
      refine lv_bipush (v := 13) C.1 C.2.1 qm_M_callFrame_177 (by decide) ?_
      refine lv_aload_n C.1 C.2.1 qm_M_callFrame_179 rfl (lv_at hl 0 rfl) ?_
      refine lv_bipush (v := 14) C.1 C.2.1 qm_M_callFrame_180 (by decide) ?_
      obtain ⟨q7, c7, hf⟩ := bnd_s hf
      refine q_callVi (wf := (mW h K)) (n := 1) (As := [.int 14]) (q0 := 0) (ci := 7) C G hl.1 (kM_get (l := l) c7) qx_M_84 qm_M_get_d ⟨by decide, by decide⟩ ⟨Nat.le_refl _, Nat.le_refl _⟩ rfl rfl rfl rfl rfl (Nat.le_of_ble_eq_true rfl) qm_M_callFrame_182 (fun H locs G => ?_)
      refine q_iast (wf := (mW h K)) (S' := (pA q7.2 1 13 q7.1)) C G 2 1 rfl rfl (by decide) rfl qm_M_callFrame_185 (fun H locs G => ?_)
      refine lv_aload_n C.1 C.2.1 qm_M_callFrame_186 rfl (lv_at hl 0 rfl) ?_
      refine q_get (wf := (mW h K)) (v := .ref (h 2)) C G qi_M 0 rfl rfl 2 (by decide) qz_833 rfl qm_M_callFrame_187 ?_
      refine lv_bipush (v := 12) C.1 C.2.1 qm_M_callFrame_190 (by decide) ?_
      refine lv_iload_n C.1 C.2.1 qm_M_callFrame_192 rfl (lv_at hl 1 rfl) ?_
      refine q_iast (wf := (mW h K)) (S' := (pA (pA q7.2 1 13 q7.1) 1 12 x1)) C G 2 1 rfl rfl (by decide) rfl qm_M_callFrame_193 (fun H locs G => ?_)
      refine lv_aload_n C.1 C.2.1 qm_M_callFrame_194 rfl (lv_at hl 0 rfl) ?_
      refine lv_aload_n C.1 C.2.1 qm_M_callFrame_195 rfl (lv_at hl 0 rfl) ?_
      refine q_get (wf := (mW h K)) (v := .int ((pA (pA q7.2 1 13 q7.1) 1 12 x1).1 1)) C G qi_M 0 rfl rfl 4 (by decide) qz_835 rfl qm_M_callFrame_196 ?_
      refine lv_bipush (v := (-48)) C.1 C.2.1 qm_M_callFrame_199 (by decide) ?_
      refine lv_iand C.1 C.2.1 qm_M_callFrame_201 ?_
      refine lv_iload_n C.1 C.2.1 qm_M_callFrame_202 rfl (lv_at hl 2 rfl) ?_
      refine lv_bipush (v := 14) C.1 C.2.1 qm_M_callFrame_203 (by decide) ?_
      refine lv_ishr C.1 C.2.1 qm_M_callFrame_205 ?_
      refine lv_iconst (v := 1) C.1 C.2.1 qm_M_callFrame_206 (by decide) ?_
      refine lv_iand C.1 C.2.1 qm_M_callFrame_207 ?_
      refine lv_iconst (v := 5) C.1 C.2.1 qm_M_callFrame_208 (by decide) ?_
      refine lv_ishl C.1 C.2.1 qm_M_callFrame_209 ?_
      refine lv_ior C.1 C.2.1 qm_M_callFrame_210 ?_
      refine q_put (wf := (mW h K)) (S' := (pI (pA (pA q7.2 1 13 q7.1) 1 12 x1) 1 ((((pA (pA q7.2 1 13 q7.1) 1 12 x1).1 1) &&& (-48)) ||| (((x2 >>> ((14 : Int32) &&& 31)) &&& 1) <<< ((5 : Int32) &&& 31))))) C G qi_M qY_M qy_M qn_M 0 rfl rfl 4 (by decide) qz_835 rfl rfl (Nat.le_of_ble_eq_true rfl) rfl qm_M_callFrame_211 (fun H locs G => ?_)
      refine lv_aload_n C.1 C.2.1 qm_M_callFrame_214 rfl (lv_at hl 0 rfl) ?_
      refine q_get (wf := (mW h K)) (v := .ref (h 2)) C G qi_M 0 rfl rfl 2 (by decide) qz_833 rfl qm_M_callFrame_215 ?_
      refine lv_bipush (v := 15) C.1 C.2.1 qm_M_callFrame_218 (by decide) ?_
      refine lv_aload_n C.1 C.2.1 qm_M_callFrame_220 rfl (lv_at hl 0 rfl) ?_
      refine q_get (wf := (mW h K)) (v := .ref (h 8)) C G qi_M 0 rfl rfl 18 (by decide) qz_849 rfl qm_M_callFrame_221 ?_
      refine lv_iconst (v := 1) C.1 C.2.1 qm_M_callFrame_224 (by decide) ?_
      refine q_iald (wf := (mW h K)) C G 8 7 rfl rfl (by decide) qm_M_callFrame_225 ?_
      refine lv_iconst (v := 2) C.1 C.2.1 qm_M_callFrame_226 (by decide) ?_
      refine lv_iadd C.1 C.2.1 qm_M_callFrame_227 ?_
      refine q_iast (wf := (mW h K)) (S' := (pA (pI (pA (pA q7.2 1 13 q7.1) 1 12 x1) 1 ((((pA (pA q7.2 1 13 q7.1) 1 12 x1).1 1) &&& (-48)) ||| (((x2 >>> ((14 : Int32) &&& 31)) &&& 1) <<< ((5 : Int32) &&& 31)))) 1 15 ((gA (pI (pA (pA q7.2 1 13 q7.1) 1 12 x1) 1 ((((pA (pA q7.2 1 13 q7.1) 1 12 x1).1 1) &&& (-48)) ||| (((x2 >>> ((14 : Int32) &&& 31)) &&& 1) <<< ((5 : Int32) &&& 31)))) 7 1) + 2))) C G 2 1 rfl rfl (by decide) rfl qm_M_callFrame_228 (fun H locs G => ?_)
      exact q_vret (wf := (mW h K)) C G hf qm_M_callFrame_229
    · have hf := if_f b1 hf
      refine lv_iload_n C.1 C.2.1 qm_M_callFrame_80 rfl (lv_at hl 2 rfl) ?_
      refine lv_iload C.1 C.2.1 qm_M_callFrame_81 (lv_at hl 4 rfl) ?_
      refine lv_ishr C.1 C.2.1 qm_M_callFrame_83 ?_
      refine lv_iconst (v := 1) C.1 C.2.1 qm_M_callFrame_84 (by decide) ?_
      refine lv_iand C.1 C.2.1 qm_M_callFrame_85 ?_
      refine lv_iconst (v := 1) C.1 C.2.1 qm_M_callFrame_86 (by decide) ?_
      refine lv_icmp_ne (tgt := 101) C.1 C.2.1 qm_M_callFrame_87 (by decide) (fun b8 => ?_) (fun b8 => ?_)
      · have hf := if_t b8 hf
        exact wM_callFrame_101 C (ih) S x1 x2 x3 x4 hf _ _ _ G (lv_sub hl [0, 1, 2, 3, 4] rfl)
      · have hf := if_f (not_not_intro b8) hf
        refine lv_aload_n C.1 C.2.1 qm_M_callFrame_90 rfl (lv_at hl 0 rfl) ?_
        refine lv_aload_n C.1 C.2.1 qm_M_callFrame_91 rfl (lv_at hl 0 rfl) ?_
        refine q_get (wf := (mW h K)) (v := .ref (h 2)) C G qi_M 0 rfl rfl 2 (by decide) qz_833 rfl qm_M_callFrame_92 ?_
        refine lv_iload C.1 C.2.1 qm_M_callFrame_95 (lv_at hl 4 rfl) ?_
        obtain ⟨b9, hf⟩ := chk_s hf
        refine q_iald (wf := (mW h K)) C G 2 1 rfl rfl b9 qm_M_callFrame_97 ?_
        obtain ⟨S10, c10, hf⟩ := bnd_s hf
        refine q_callVv (wf := (mW h K)) (n := 1) (As := [.int (gA S 1 x4)]) (q0 := 0) (ci := 7) C G hl.1 (kM_push (l := l) c10) qx_M_121 qm_M_push_d ⟨by decide, by decide⟩ ⟨Nat.le_refl _, Nat.le_refl _⟩ rfl rfl rfl rfl rfl (Nat.le_of_ble_eq_true rfl) qm_M_callFrame_98 (fun H locs G => ?_)
        exact wM_callFrame_101 C (ih) S10 x1 x2 x3 x4 hf _ _ _ G (lv_sub hl [0, 1, 2, 3, 4] rfl)
set_option maxHeartbeats 4000000 in
set_option maxRecDepth 100000 in
theorem wM_callFrame_58 {l : Launch} {D : va_G} {h : Nat → Nat} {K : Nat → ClassId} {res : qS} {p : Program} {e : Env} {s : State} {m : MethodId} {args : Array Value} {below : List Frame} {meth : Method} {c : Code} {A : Nat → Prop} {ad : Nat → Nat} (C : qC p s m args meth c qm_M_callFrame_c 5 none qR_M ad) (S : qS) (x1 : Int32) (x2 : Int32) (hf : fM_callFrame_58 S x1 x2 = some res) : ∀ (H : Heap) (locs : List Loc) (ls : Array Slot), qG D qCl (mT K) A s (mW h K S) H locs → lv_has ls 5 [(0, .ref (h 0)), (1, .int x1), (2, .int x2)] → W p l e ({ frames := 4, cells := 0, slots := 0, locals := 99 }) s m args below meth c H locs 0 0 (MQ below (qQv D qCl (mT K) (mW h K) A res) args s 0 0 A) (F0 m 58 ls []) := by
  intro H locs ls G hl
  unfold fM_callFrame_58 at hf
  refine lv_iload_n C.1 C.2.1 qm_M_callFrame_58 rfl (lv_at hl 1 rfl) ?_
  refine lv_iconst (v := 3) C.1 C.2.1 qm_M_callFrame_59 (by decide) ?_
  refine lv_iand C.1 C.2.1 qm_M_callFrame_60 ?_
  refine lv_istore_n (lv' := [(3, .int (x1 &&& 3)), (0, .ref (h 0)), (1, .int x1), (2, .int x2)]) C.1 C.2.1 qm_M_callFrame_61 rfl hl (by decide) rfl (fun ls hl => ?_)
  refine lv_aload_n C.1 C.2.1 qm_M_callFrame_62 rfl (lv_at hl 1 rfl) ?_
  refine lv_bipush (v := 14) C.1 C.2.1 qm_M_callFrame_63 (by decide) ?_
  refine lv_iload_n C.1 C.2.1 qm_M_callFrame_65 rfl (lv_at hl 2 rfl) ?_
  refine lv_iload_n C.1 C.2.1 qm_M_callFrame_66 rfl (lv_at hl 0 rfl) ?_
  refine lv_isub C.1 C.2.1 qm_M_callFrame_67 ?_
  obtain ⟨S1, c1, hf⟩ := bnd_s hf
  refine q_callVv (wf := (mW h K)) (n := 2) (As := [.int 14, .int (x1 - (x1 &&& 3))]) (q0 := 0) (ci := 7) C G hl.1 (kM_put (l := l) c1) qx_M_90 qm_M_put_d ⟨by decide, by decide⟩ ⟨Nat.le_refl _, Nat.le_refl _⟩ rfl rfl rfl rfl rfl (Nat.le_of_ble_eq_true rfl) qm_M_callFrame_68 (fun H locs G => ?_)
  refine lv_bipush (v := 11) C.1 C.2.1 qm_M_callFrame_71 (by decide) ?_
  refine lv_istore (lv' := [(4, .int 11), (3, .int (x1 &&& 3)), (0, .ref (h 0)), (1, .int x1), (2, .int x2)]) C.1 C.2.1 qm_M_callFrame_73 hl (by decide) rfl (fun ls hl => ?_)
  exact wM_callFrame_75 C 300 S1 x1 x2 (x1 &&& 3) 11 hf _ _ _ G (lv_sub hl [2, 3, 4, 1, 0] rfl)
set_option maxHeartbeats 4000000 in
set_option maxRecDepth 100000 in
theorem wM_callFrame {l : Launch} {D : va_G} {h : Nat → Nat} {K : Nat → ClassId} {res : qS} {p : Program} {e : Env} {s : State} {m : MethodId} {args : Array Value} {below : List Frame} {meth : Method} {c : Code} {A : Nat → Prop} {ad : Nat → Nat} (C : qC p s m args meth c qm_M_callFrame_c 5 none qR_M ad) (S : qS) (hf : fM_callFrame S = some res) : ∀ (H : Heap) (locs : List Loc) (ls : Array Slot), qG D qCl (mT K) A s (mW h K S) H locs → lv_has ls 5 [(0, .ref (h 0))] → W p l e ({ frames := 4, cells := 0, slots := 0, locals := 99 }) s m args below meth c H locs 0 0 (MQ below (qQv D qCl (mT K) (mW h K) A res) args s 0 0 A) (F0 m 0 ls []) := by
  intro H locs ls G hl
  unfold fM_callFrame at hf
  refine lv_aload_n C.1 C.2.1 qm_M_callFrame_0 rfl (lv_at hl 0 rfl) ?_
  refine lv_aload_n C.1 C.2.1 qm_M_callFrame_1 rfl (lv_at hl 0 rfl) ?_
  refine q_get (wf := (mW h K)) (v := .ref (h 6)) C G qi_M 0 rfl rfl 16 (by decide) qz_847 rfl qm_M_callFrame_2 ?_
  refine lv_iconst (v := 0) C.1 C.2.1 qm_M_callFrame_5 (by decide) ?_
  refine q_iald (wf := (mW h K)) C G 6 5 rfl rfl (by decide) qm_M_callFrame_6 ?_
  obtain ⟨S1, c1, hf⟩ := bnd_s hf
  refine q_callVv (wf := (mW h K)) (n := 1) (As := [.int (gA S 5 0)]) (q0 := 0) (ci := 7) C G hl.1 (kM_push (l := l) c1) qx_M_121 qm_M_push_d ⟨by decide, by decide⟩ ⟨Nat.le_refl _, Nat.le_refl _⟩ rfl rfl rfl rfl rfl (Nat.le_of_ble_eq_true rfl) qm_M_callFrame_7 (fun H locs G => ?_)
  refine lv_aload_n C.1 C.2.1 qm_M_callFrame_10 rfl (lv_at hl 0 rfl) ?_
  refine lv_bipush (v := 14) C.1 C.2.1 qm_M_callFrame_11 (by decide) ?_
  obtain ⟨q2, c2, hf⟩ := bnd_s hf
  refine q_callVi (wf := (mW h K)) (n := 1) (As := [.int 14]) (q0 := 0) (ci := 7) C G hl.1 (kM_get (l := l) c2) qx_M_84 qm_M_get_d ⟨by decide, by decide⟩ ⟨Nat.le_refl _, Nat.le_refl _⟩ rfl rfl rfl rfl rfl (Nat.le_of_ble_eq_true rfl) qm_M_callFrame_13 (fun H locs G => ?_)
  refine lv_istore_n (lv' := [(1, .int q2.1), (0, .ref (h 0))]) C.1 C.2.1 qm_M_callFrame_16 rfl hl (by decide) rfl (fun ls hl => ?_)
  refine lv_aload_n C.1 C.2.1 qm_M_callFrame_17 rfl (lv_at hl 1 rfl) ?_
  refine lv_aload_n C.1 C.2.1 qm_M_callFrame_18 rfl (lv_at hl 1 rfl) ?_
  refine q_get (wf := (mW h K)) (v := .ref (h 8)) C G qi_M 0 rfl rfl 18 (by decide) qz_849 rfl qm_M_callFrame_19 ?_
  refine lv_iconst (v := 1) C.1 C.2.1 qm_M_callFrame_22 (by decide) ?_
  refine q_iald (wf := (mW h K)) C G 8 7 rfl rfl (by decide) qm_M_callFrame_23 ?_
  obtain ⟨q3, c3, hf⟩ := bnd_s hf
  refine q_callVi (wf := (mW h K)) (n := 1) (As := [.int (gA q2.2 7 1)]) (q0 := 0) (ci := 7) C G hl.1 (kM_readByte (l := l) c3) qx_M_81 qm_M_readByte_d ⟨by decide, by decide⟩ ⟨Nat.le_refl _, Nat.le_refl _⟩ rfl rfl rfl rfl rfl (Nat.le_of_ble_eq_true rfl) qm_M_callFrame_24 (fun H locs G => ?_)
  refine lv_aload_n C.1 C.2.1 qm_M_callFrame_27 rfl (lv_at hl 1 rfl) ?_
  refine lv_aload_n C.1 C.2.1 qm_M_callFrame_28 rfl (lv_at hl 1 rfl) ?_
  refine q_get (wf := (mW h K)) (v := .ref (h 8)) C G qi_M 0 rfl rfl 18 (by decide) qz_849 rfl qm_M_callFrame_29 ?_
  refine lv_iconst (v := 1) C.1 C.2.1 qm_M_callFrame_32 (by decide) ?_
  refine q_iald (wf := (mW h K)) C G 8 7 rfl rfl (by decide) qm_M_callFrame_33 ?_
  refine lv_iconst (v := 1) C.1 C.2.1 qm_M_callFrame_34 (by decide) ?_
  refine lv_iadd C.1 C.2.1 qm_M_callFrame_35 ?_
  obtain ⟨q4, c4, hf⟩ := bnd_s hf
  refine q_callVi (wf := (mW h K)) (n := 1) (As := [.int ((gA q3.2 7 1) + 1)]) (q0 := 0) (ci := 7) C G hl.1 (kM_readByte (l := l) c4) qx_M_81 qm_M_readByte_d ⟨by decide, by decide⟩ ⟨Nat.le_refl _, Nat.le_refl _⟩ rfl rfl rfl rfl rfl (Nat.le_of_ble_eq_true rfl) qm_M_callFrame_36 (fun H locs G => ?_)
  refine lv_bipush (v := 8) C.1 C.2.1 qm_M_callFrame_39 (by decide) ?_
  refine lv_ishl C.1 C.2.1 qm_M_callFrame_41 ?_
  refine lv_ior C.1 C.2.1 qm_M_callFrame_42 ?_
  refine lv_istore_n (lv' := [(2, .int (q3.1 ||| (q4.1 <<< ((8 : Int32) &&& 31)))), (1, .int q2.1), (0, .ref (h 0))]) C.1 C.2.1 qm_M_callFrame_43 rfl hl (by decide) rfl (fun ls hl => ?_)
  refine lv_iload_n C.1 C.2.1 qm_M_callFrame_44 rfl (lv_at hl 0 rfl) ?_
  refine lv_ldc (own := "QuadModeModel") (v := 45056) C.1 C.2.1 C.2.2.2.1 (C.2.2.2.2.1 _ qz_1076) qm_M_callFrame_45 ?_
  refine lv_iand C.1 C.2.1 qm_M_callFrame_47 ?_
  refine lv_if_eq (tgt := 58) C.1 C.2.1 qm_M_callFrame_48 (by decide) (fun b5 => ?_) (fun b5 => ?_)
  · have hf := if_t b5 hf
    exact wM_callFrame_58 C q4.2 q2.1 (q3.1 ||| (q4.1 <<< ((8 : Int32) &&& 31))) hf _ _ _ G (lv_sub hl [2, 1, 0] rfl)
  · have hf := if_f b5 hf
    refine lv_aload_n C.1 C.2.1 qm_M_callFrame_51 rfl (lv_at hl 2 rfl) ?_
    refine lv_iconst (v := 2) C.1 C.2.1 qm_M_callFrame_52 (by decide) ?_
    refine lv_iconst (v := 0) C.1 C.2.1 qm_M_callFrame_53 (by decide) ?_
    refine lv_iconst (v := 0) C.1 C.2.1 qm_M_callFrame_54 (by decide) ?_
    obtain ⟨S6, c6, hf⟩ := bnd_s hf
    refine q_callVv (wf := (mW h K)) (n := 3) (As := [.int 2, .int 0, .int 0]) (q0 := 0) (ci := 7) C G hl.1 (kM_wrong (l := l) c6) qx_M_77 qm_M_wrong_d ⟨by decide, by decide⟩ ⟨Nat.le_refl _, Nat.le_refl _⟩ rfl rfl rfl rfl rfl (Nat.le_of_ble_eq_true rfl) qm_M_callFrame_55 (fun H locs G => ?_)
    exact wM_callFrame_58 C S6 q2.1 (q3.1 ||| (q4.1 <<< ((8 : Int32) &&& 31))) hf _ _ _ G (lv_sub hl [2, 1, 0] rfl)
theorem kM_callFrame {l : Launch} {ad : Nat → Nat} {D : va_G} {h : Nat → Nat} {K : Nat → ClassId} {res : qS} {S : qS} (hf : fM_callFrame S = some res) : qMv l qm_M_callFrame qm_M_callFrame_c 5 4 99 D qCl (mT K) ad (mW h K) [.ref (h 0)] S res := qMv_of (by decide) (Nat.le_of_ble_eq_true rfl) (fun _ _ _ _ _ _ _ _ _ _ C G hl => wM_callFrame C S hf _ _ _ G hl)
set_option maxHeartbeats 4000000 in
set_option maxRecDepth 100000 in
theorem wM_probe_170 {l : Launch} {D : va_G} {h : Nat → Nat} {K : Nat → ClassId} {res : qS} {p : Program} {e : Env} {s : State} {m : MethodId} {args : Array Value} {below : List Frame} {meth : Method} {c : Code} {A : Nat → Prop} {ad : Nat → Nat} (C : qC p s m args meth c qm_M_probe_c 9 none qR_M ad) (S : qS) (y1 : Int32) (hf : fM_probe_170 S y1 = some res) : ∀ (H : Heap) (locs : List Loc) (ls : Array Slot), qG D qCl (mT K) A s (mW h K S) H locs → lv_has ls 9 [] → W p l e ({ frames := 2, cells := 0, slots := 0, locals := 54 }) s m args below meth c H locs 0 0 (MQ below (qQv D qCl (mT K) (mW h K) A res) args s 0 0 A) (F0 m 170 ls [.int y1, .ref (h 0)]) := by
  intro H locs ls G hl
  unfold fM_probe_170 at hf
  refine lv_iconst (v := 0) C.1 C.2.1 qm_M_probe_170 (by decide) ?_
  refine lv_iconst (v := 0) C.1 C.2.1 qm_M_probe_171 (by decide) ?_
  obtain ⟨S1, c1, hf⟩ := bnd_s hf
  refine q_callVv (wf := (mW h K)) (n := 3) (As := [.int y1, .int 0, .int 0]) (q0 := 0) (ci := 7) C G hl.1 (kM_mark (l := l) c1) qx_M_113 qm_M_mark_d ⟨by decide, by decide⟩ ⟨Nat.le_refl _, Nat.le_refl _⟩ rfl rfl rfl rfl rfl (Nat.le_of_ble_eq_true rfl) qm_M_probe_172 (fun H locs G => ?_)
  exact q_vret (wf := (mW h K)) C G hf qm_M_probe_175
set_option maxHeartbeats 4000000 in
set_option maxRecDepth 100000 in
theorem wM_probe_159 {l : Launch} {D : va_G} {h : Nat → Nat} {K : Nat → ClassId} {res : qS} {p : Program} {e : Env} {s : State} {m : MethodId} {args : Array Value} {below : List Frame} {meth : Method} {c : Code} {A : Nat → Prop} {ad : Nat → Nat} (C : qC p s m args meth c qm_M_probe_c 9 none qR_M ad) (S : qS) (x4 : Int32) (hf : fM_probe_159 S x4 = some res) : ∀ (H : Heap) (locs : List Loc) (ls : Array Slot), qG D qCl (mT K) A s (mW h K S) H locs → lv_has ls 9 [(0, .ref (h 0)), (4, .int x4)] → W p l e ({ frames := 2, cells := 0, slots := 0, locals := 54 }) s m args below meth c H locs 0 0 (MQ below (qQv D qCl (mT K) (mW h K) A res) args s 0 0 A) (F0 m 159 ls []) := by
  intro H locs ls G hl
  unfold fM_probe_159 at hf
  refine lv_aload_n C.1 C.2.1 qm_M_probe_159 rfl (lv_at hl 0 rfl) ?_
  refine lv_iload C.1 C.2.1 qm_M_probe_160 (lv_at hl 1 rfl) ?_
  refine lv_if_eq (tgt := 169) C.1 C.2.1 qm_M_probe_162 (by decide) (fun b1 => ?_) (fun b1 => ?_)
  · have hf := if_t b1 hf
    refine lv_iconst (v := 1) C.1 C.2.1 qm_M_probe_169 (by decide) ?_
    exact wM_probe_170 C S 1 hf _ _ _ G (lv_sub hl [] rfl)
  · have hf := if_f b1 hf
    refine lv_iconst (v := 0) C.1 C.2.1 qm_M_probe_165 (by decide) ?_
    refine lv_goto (tgt := 170) C.1 C.2.1 qm_M_probe_166 (by decide) ?_
    exact wM_probe_170 C S 0 hf _ _ _ G (lv_sub hl [] rfl)
set_option maxHeartbeats 4000000 in
set_option maxRecDepth 100000 in
theorem wM_probe_151 {l : Launch} {D : va_G} {h : Nat → Nat} {K : Nat → ClassId} {res : qS} {p : Program} {e : Env} {s : State} {m : MethodId} {args : Array Value} {below : List Frame} {meth : Method} {c : Code} {A : Nat → Prop} {ad : Nat → Nat} (C : qC p s m args meth c qm_M_probe_c 9 none qR_M ad) {K36 : qS → Int32 → Int32 → Int32 → Int32 → Option (qS)} (hK36 : ∀ (S : qS) (x1 : Int32) (x2 : Int32) (x4 : Int32) (x5 : Int32), K36 S x1 x2 x4 x5 = some res → ∀ (H : Heap) (locs : List Loc) (ls : Array Slot), qG D qCl (mT K) A s (mW h K S) H locs → lv_has ls 9 [(0, .ref (h 0)), (1, .int x1), (2, .int x2), (4, .int x4), (5, .int x5)] → W p l e ({ frames := 2, cells := 0, slots := 0, locals := 54 }) s m args below meth c H locs 0 0 (MQ below (qQv D qCl (mT K) (mW h K) A res) args s 0 0 A) (F0 m 36 ls [])) (S : qS) (x1 : Int32) (x2 : Int32) (x5 : Int32) (y0 : Int32) (hf : fM_probe_151 K36 S x1 x2 x5 y0 = some res) : ∀ (H : Heap) (locs : List Loc) (ls : Array Slot), qG D qCl (mT K) A s (mW h K S) H locs → lv_has ls 9 [(0, .ref (h 0)), (1, .int x1), (2, .int x2), (5, .int x5)] → W p l e ({ frames := 2, cells := 0, slots := 0, locals := 54 }) s m args below meth c H locs 0 0 (MQ below (qQv D qCl (mT K) (mW h K) A res) args s 0 0 A) (F0 m 151 ls [.int y0]) := by
  intro H locs ls G hl
  unfold fM_probe_151 at hf
  refine lv_istore (lv' := [(4, .int y0), (0, .ref (h 0)), (1, .int x1), (2, .int x2), (5, .int x5)]) C.1 C.2.1 qm_M_probe_151 hl (by decide) rfl (fun ls hl => ?_)
  refine lv_iinc (v := x5 + 1) (lv' := [(5, .int (x5 + 1)), (4, .int y0), (0, .ref (h 0)), (1, .int x1), (2, .int x2)]) C.1 C.2.1 qm_M_probe_153 hl (k := 4) rfl rfl (by decide) rfl (fun ls hl => ?_)
  refine lv_goto (tgt := 36) C.1 C.2.1 qm_M_probe_156 (by decide) ?_
  exact hK36 S x1 x2 y0 (x5 + 1) hf _ _ _ G (lv_sub hl [2, 3, 4, 1, 0] rfl)
set_option maxHeartbeats 4000000 in
set_option maxRecDepth 100000 in
theorem wM_probe_146 {l : Launch} {D : va_G} {h : Nat → Nat} {K : Nat → ClassId} {res : qS} {p : Program} {e : Env} {s : State} {m : MethodId} {args : Array Value} {below : List Frame} {meth : Method} {c : Code} {A : Nat → Prop} {ad : Nat → Nat} (C : qC p s m args meth c qm_M_probe_c 9 none qR_M ad) {K36 : qS → Int32 → Int32 → Int32 → Int32 → Option (qS)} (hK36 : ∀ (S : qS) (x1 : Int32) (x2 : Int32) (x4 : Int32) (x5 : Int32), K36 S x1 x2 x4 x5 = some res → ∀ (H : Heap) (locs : List Loc) (ls : Array Slot), qG D qCl (mT K) A s (mW h K S) H locs → lv_has ls 9 [(0, .ref (h 0)), (1, .int x1), (2, .int x2), (4, .int x4), (5, .int x5)] → W p l e ({ frames := 2, cells := 0, slots := 0, locals := 54 }) s m args below meth c H locs 0 0 (MQ below (qQv D qCl (mT K) (mW h K) A res) args s 0 0 A) (F0 m 36 ls [])) (S : qS) (x1 : Int32) (x2 : Int32) (x5 : Int32) (hf : fM_probe_146 K36 S x1 x2 x5 = some res) : ∀ (H : Heap) (locs : List Loc) (ls : Array Slot), qG D qCl (mT K) A s (mW h K S) H locs → lv_has ls 9 [(0, .ref (h 0)), (1, .int x1), (2, .int x2), (5, .int x5)] → W p l e ({ frames := 2, cells := 0, slots := 0, locals := 54 }) s m args below meth c H locs 0 0 (MQ below (qQv D qCl (mT K) (mW h K) A res) args s 0 0 A) (F0 m 146 ls []) := by
  intro H locs ls G hl
  unfold fM_probe_146 at hf
  refine lv_iconst (v := 1) C.1 C.2.1 qm_M_probe_146 (by decide) ?_
  refine lv_goto (tgt := 151) C.1 C.2.1 qm_M_probe_147 (by decide) ?_
  exact wM_probe_151 C hK36 S x1 x2 x5 1 hf _ _ _ G (lv_sub hl [0, 1, 2, 3] rfl)
set_option maxHeartbeats 4000000 in
set_option maxRecDepth 100000 in
theorem wM_probe_134 {l : Launch} {D : va_G} {h : Nat → Nat} {K : Nat → ClassId} {res : qS} {p : Program} {e : Env} {s : State} {m : MethodId} {args : Array Value} {below : List Frame} {meth : Method} {c : Code} {A : Nat → Prop} {ad : Nat → Nat} (C : qC p s m args meth c qm_M_probe_c 9 none qR_M ad) {K36 : qS → Int32 → Int32 → Int32 → Int32 → Option (qS)} (hK36 : ∀ (S : qS) (x1 : Int32) (x2 : Int32) (x4 : Int32) (x5 : Int32), K36 S x1 x2 x4 x5 = some res → ∀ (H : Heap) (locs : List Loc) (ls : Array Slot), qG D qCl (mT K) A s (mW h K S) H locs → lv_has ls 9 [(0, .ref (h 0)), (1, .int x1), (2, .int x2), (4, .int x4), (5, .int x5)] → W p l e ({ frames := 2, cells := 0, slots := 0, locals := 54 }) s m args below meth c H locs 0 0 (MQ below (qQv D qCl (mT K) (mW h K) A res) args s 0 0 A) (F0 m 36 ls [])) (S : qS) (x1 : Int32) (x2 : Int32) (x5 : Int32) (x8 : Int32) (hf : fM_probe_134 K36 S x1 x2 x5 x8 = some res) : ∀ (H : Heap) (locs : List Loc) (ls : Array Slot), qG D qCl (mT K) A s (mW h K S) H locs → lv_has ls 9 [(0, .ref (h 0)), (1, .int x1), (2, .int x2), (5, .int x5), (8, .int x8)] → W p l e ({ frames := 2, cells := 0, slots := 0, locals := 54 }) s m args below meth c H locs 0 0 (MQ below (qQv D qCl (mT K) (mW h K) A res) args s 0 0 A) (F0 m 134 ls []) := by
  intro H locs ls G hl
  unfold fM_probe_134 at hf
  refine lv_iload C.1 C.2.1 qm_M_probe_134 (lv_at hl 4 rfl) ?_
  refine lv_if_eq (tgt := 146) C.1 C.2.1 qm_M_probe_136 (by decide) (fun b1 => ?_) (fun b1 => ?_)
  · have hf := if_t b1 hf
    exact wM_probe_146 C hK36 S x1 x2 x5 hf _ _ _ G (lv_sub hl [0, 1, 2, 3] rfl)
  · have hf := if_f b1 hf
    refine lv_iload C.1 C.2.1 qm_M_probe_139 (lv_at hl 4 rfl) ?_
    refine lv_bipush (v := 50) C.1 C.2.1 qm_M_probe_141 (by decide) ?_
    refine lv_icmp_lt (tgt := 150) C.1 C.2.1 qm_M_probe_143 (by decide) (fun b2 => ?_) (fun b2 => ?_)
    · have hf := if_t b2 hf
      refine lv_iconst (v := 0) C.1 C.2.1 qm_M_probe_150 (by decide) ?_
      exact wM_probe_151 C hK36 S x1 x2 x5 0 hf _ _ _ G (lv_sub hl [0, 1, 2, 3] rfl)
    · have hf := if_f b2 hf
      exact wM_probe_146 C hK36 S x1 x2 x5 hf _ _ _ G (lv_sub hl [0, 1, 2, 3] rfl)
set_option maxHeartbeats 4000000 in
set_option maxRecDepth 100000 in
theorem wM_probe_102 {l : Launch} {D : va_G} {h : Nat → Nat} {K : Nat → ClassId} {res : qS} {p : Program} {e : Env} {s : State} {m : MethodId} {args : Array Value} {below : List Frame} {meth : Method} {c : Code} {A : Nat → Prop} {ad : Nat → Nat} (C : qC p s m args meth c qm_M_probe_c 9 none qR_M ad) {K36 : qS → Int32 → Int32 → Int32 → Int32 → Option (qS)} (hK36 : ∀ (S : qS) (x1 : Int32) (x2 : Int32) (x4 : Int32) (x5 : Int32), K36 S x1 x2 x4 x5 = some res → ∀ (H : Heap) (locs : List Loc) (ls : Array Slot), qG D qCl (mT K) A s (mW h K S) H locs → lv_has ls 9 [(0, .ref (h 0)), (1, .int x1), (2, .int x2), (4, .int x4), (5, .int x5)] → W p l e ({ frames := 2, cells := 0, slots := 0, locals := 54 }) s m args below meth c H locs 0 0 (MQ below (qQv D qCl (mT K) (mW h K) A res) args s 0 0 A) (F0 m 36 ls [])) (S : qS) (x1 : Int32) (x2 : Int32) (x5 : Int32) (x6 : Int32) (y0 : Int32) (hf : fM_probe_102 K36 S x1 x2 x5 x6 y0 = some res) : ∀ (H : Heap) (locs : List Loc) (ls : Array Slot), qG D qCl (mT K) A s (mW h K S) H locs → lv_has ls 9 [(0, .ref (h 0)), (1, .int x1), (2, .int x2), (5, .int x5), (6, .int x6)] → W p l e ({ frames := 2, cells := 0, slots := 0, locals := 54 }) s m args below meth c H locs 0 0 (MQ below (qQv D qCl (mT K) (mW h K) A res) args s 0 0 A) (F0 m 102 ls [.int y0]) := by
  intro H locs ls G hl
  unfold fM_probe_102 at hf
  refine lv_istore (lv' := [(8, .int y0), (0, .ref (h 0)), (1, .int x1), (2, .int x2), (5, .int x5), (6, .int x6)]) C.1 C.2.1 qm_M_probe_102 hl (by decide) rfl (fun ls hl => ?_)
  refine lv_iload C.1 C.2.1 qm_M_probe_104 (lv_at hl 0 rfl) ?_
  refine lv_bipush (v := 51) C.1 C.2.1 qm_M_probe_106 (by decide) ?_
  refine lv_icmp_le (tgt := 134) C.1 C.2.1 qm_M_probe_108 (by decide) (fun b1 => ?_) (fun b1 => ?_)
  · have hf := if_t b1 hf
    exact wM_probe_134 C hK36 S x1 x2 x5 y0 hf _ _ _ G (lv_sub hl [1, 2, 3, 4, 0] rfl)
  · have hf := if_f b1 hf
    refine lv_iload C.1 C.2.1 qm_M_probe_111 (lv_at hl 0 rfl) ?_
    refine lv_bipush (v := 10) C.1 C.2.1 qm_M_probe_113 (by decide) ?_
    refine lv_irem C.1 C.2.1 qm_M_probe_115 (by decide) ?_
    refine lv_iconst (v := 4) C.1 C.2.1 qm_M_probe_116 (by decide) ?_
    refine lv_irem C.1 C.2.1 qm_M_probe_117 (by decide) ?_
    refine lv_iconst (v := 2) C.1 C.2.1 qm_M_probe_118 (by decide) ?_
    refine lv_icmp_ne (tgt := 134) C.1 C.2.1 qm_M_probe_119 (by decide) (fun b2 => ?_) (fun b2 => ?_)
    · have hf := if_t b2 hf
      exact wM_probe_134 C hK36 S x1 x2 x5 y0 hf _ _ _ G (lv_sub hl [1, 2, 3, 4, 0] rfl)
    · have hf := if_f (not_not_intro b2) hf
      refine lv_aload_n C.1 C.2.1 qm_M_probe_122 rfl (lv_at hl 1 rfl) ?_
      refine lv_iconst (v := 5) C.1 C.2.1 qm_M_probe_123 (by decide) ?_
      refine lv_iload C.1 C.2.1 qm_M_probe_124 (lv_at hl 5 rfl) ?_
      refine lv_iload C.1 C.2.1 qm_M_probe_126 (lv_at hl 0 rfl) ?_
      refine lv_bipush (v := 10) C.1 C.2.1 qm_M_probe_128 (by decide) ?_
      refine lv_irem C.1 C.2.1 qm_M_probe_130 (by decide) ?_
      obtain ⟨S3, c3, hf⟩ := bnd_s hf
      refine q_callVv (wf := (mW h K)) (n := 3) (As := [.int 5, .int x6, .int (y0 - y0 / 10 * 10)]) (q0 := 0) (ci := 7) C G hl.1 (kM_wrong (l := l) c3) qx_M_77 qm_M_wrong_d ⟨by decide, by decide⟩ ⟨Nat.le_refl _, Nat.le_refl _⟩ rfl rfl rfl rfl rfl (Nat.le_of_ble_eq_true rfl) qm_M_probe_131 (fun H locs G => ?_)
      exact wM_probe_134 C hK36 S3 x1 x2 x5 y0 hf _ _ _ G (lv_sub hl [1, 2, 3, 4, 0] rfl)
set_option maxHeartbeats 4000000 in
set_option maxRecDepth 100000 in
theorem wM_probe_76 {l : Launch} {D : va_G} {h : Nat → Nat} {K : Nat → ClassId} {res : qS} {p : Program} {e : Env} {s : State} {m : MethodId} {args : Array Value} {below : List Frame} {meth : Method} {c : Code} {A : Nat → Prop} {ad : Nat → Nat} (C : qC p s m args meth c qm_M_probe_c 9 none qR_M ad) {K36 : qS → Int32 → Int32 → Int32 → Int32 → Option (qS)} (hK36 : ∀ (S : qS) (x1 : Int32) (x2 : Int32) (x4 : Int32) (x5 : Int32), K36 S x1 x2 x4 x5 = some res → ∀ (H : Heap) (locs : List Loc) (ls : Array Slot), qG D qCl (mT K) A s (mW h K S) H locs → lv_has ls 9 [(0, .ref (h 0)), (1, .int x1), (2, .int x2), (4, .int x4), (5, .int x5)] → W p l e ({ frames := 2, cells := 0, slots := 0, locals := 54 }) s m args below meth c H locs 0 0 (MQ below (qQv D qCl (mT K) (mW h K) A res) args s 0 0 A) (F0 m 36 ls [])) (S : qS) (x1 : Int32) (x2 : Int32) (x5 : Int32) (y0 : Int32) (hf : fM_probe_76 K36 S x1 x2 x5 y0 = some res) : ∀ (H : Heap) (locs : List Loc) (ls : Array Slot), qG D qCl (mT K) A s (mW h K S) H locs → lv_has ls 9 [(0, .ref (h 0)), (1, .int x1), (2, .int x2), (5, .int x5)] → W p l e ({ frames := 2, cells := 0, slots := 0, locals := 54 }) s m args below meth c H locs 0 0 (MQ below (qQv D qCl (mT K) (mW h K) A res) args s 0 0 A) (F0 m 76 ls [.int y0]) := by
  intro H locs ls G hl
  unfold fM_probe_76 at hf
  refine lv_istore (lv' := [(6, .int y0), (0, .ref (h 0)), (1, .int x1), (2, .int x2), (5, .int x5)]) C.1 C.2.1 qm_M_probe_76 hl (by decide) rfl (fun ls hl => ?_)
  refine lv_aload_n C.1 C.2.1 qm_M_probe_78 rfl (lv_at hl 1 rfl) ?_
  refine lv_iload C.1 C.2.1 qm_M_probe_79 (lv_at hl 0 rfl) ?_
  refine lv_iload_n C.1 C.2.1 qm_M_probe_81 rfl (lv_at hl 2 rfl) ?_
  refine lv_iload_n C.1 C.2.1 qm_M_probe_82 rfl (lv_at hl 3 rfl) ?_
  obtain ⟨q1, c1, hf⟩ := bnd_s hf
  refine q_callVi (wf := (mW h K)) (n := 3) (As := [.int y0, .int x1, .int x2]) (q0 := 0) (ci := 7) C G hl.1 (kM_find (l := l) c1) qx_M_73 qm_M_find_d ⟨by decide, by decide⟩ ⟨Nat.le_refl _, Nat.le_refl _⟩ rfl rfl rfl rfl rfl (Nat.le_of_ble_eq_true rfl) qm_M_probe_83 (fun H locs G => ?_)
  refine lv_istore (lv' := [(7, .int q1.1), (6, .int y0), (0, .ref (h 0)), (1, .int x1), (2, .int x2), (5, .int x5)]) C.1 C.2.1 qm_M_probe_86 hl (by decide) rfl (fun ls hl => ?_)
  refine lv_iload C.1 C.2.1 qm_M_probe_88 (lv_at hl 0 rfl) ?_
  refine lv_if_ge (tgt := 101) C.1 C.2.1 qm_M_probe_90 (by decide) (fun b2 => ?_) (fun b2 => ?_)
  · have hf := if_t b2 hf
    refine lv_iconst (v := 0) C.1 C.2.1 qm_M_probe_101 (by decide) ?_
    exact wM_probe_102 C hK36 q1.2 x1 x2 x5 y0 0 hf _ _ _ G (lv_sub hl [2, 3, 4, 5, 1] rfl)
  · have hf := if_f b2 hf
    refine lv_bipush (v := (-10)) C.1 C.2.1 qm_M_probe_93 (by decide) ?_
    refine lv_iload C.1 C.2.1 qm_M_probe_95 (lv_at hl 0 rfl) ?_
    refine lv_isub C.1 C.2.1 qm_M_probe_97 ?_
    refine lv_goto (tgt := 102) C.1 C.2.1 qm_M_probe_98 (by decide) ?_
    exact wM_probe_102 C hK36 q1.2 x1 x2 x5 y0 ((-10) - q1.1) hf _ _ _ G (lv_sub hl [2, 3, 4, 5, 1] rfl)
set_option maxHeartbeats 4000000 in
set_option maxRecDepth 100000 in
theorem wM_probe_36 {l : Launch} {D : va_G} {h : Nat → Nat} {K : Nat → ClassId} {res : qS} {p : Program} {e : Env} {s : State} {m : MethodId} {args : Array Value} {below : List Frame} {meth : Method} {c : Code} {A : Nat → Prop} {ad : Nat → Nat} (C : qC p s m args meth c qm_M_probe_c 9 none qR_M ad) : ∀ (n : Nat) (S : qS) (x1 : Int32) (x2 : Int32) (x4 : Int32) (x5 : Int32), fM_probe_36 n S x1 x2 x4 x5 = some res → ∀ (H : Heap) (locs : List Loc) (ls : Array Slot), qG D qCl (mT K) A s (mW h K S) H locs → lv_has ls 9 [(0, .ref (h 0)), (1, .int x1), (2, .int x2), (4, .int x4), (5, .int x5)] → W p l e ({ frames := 2, cells := 0, slots := 0, locals := 54 }) s m args below meth c H locs 0 0 (MQ below (qQv D qCl (mT K) (mW h K) A res) args s 0 0 A) (F0 m 36 ls []) := by
  intro n
  induction n with
  | zero => intro S x1 x2 x4 x5 hf; cases hf
  | succ n ih =>
    intro S x1 x2 x4 x5 hf H locs ls G hl
    rw [fM_probe_36] at hf
    refine lv_iload C.1 C.2.1 qm_M_probe_36 (lv_at hl 4 rfl) ?_
    refine lv_iconst (v := 2) C.1 C.2.1 qm_M_probe_38 (by decide) ?_
    refine lv_icmp_ge (tgt := 159) C.1 C.2.1 qm_M_probe_39 (by decide) (fun b1 => ?_) (fun b1 => ?_)
    · have hf := if_t b1 hf
      exact wM_probe_159 C S x4 hf _ _ _ G (lv_sub hl [0, 3] rfl)
    · have hf := if_f b1 hf
      refine lv_iload C.1 C.2.1 qm_M_probe_42 (lv_at hl 3 rfl) ?_
      refine lv_if_eq (tgt := 159) C.1 C.2.1 qm_M_probe_44 (by decide) (fun b2 => ?_) (fun b2 => ?_)
      · have hf := if_t b2 hf
        exact wM_probe_159 C S x4 hf _ _ _ G (lv_sub hl [0, 3] rfl)
      · have hf := if_f b2 hf
        refine lv_iload C.1 C.2.1 qm_M_probe_47 (lv_at hl 4 rfl) ?_
        refine lv_if_ne (tgt := 61) C.1 C.2.1 qm_M_probe_49 (by decide) (fun b3 => ?_) (fun b3 => ?_)
        · have hf := if_t b3 hf
          refine lv_aload_n C.1 C.2.1 qm_M_probe_61 rfl (lv_at hl 0 rfl) ?_
          refine q_get (wf := (mW h K)) (v := .ref (h 8)) C G qi_M 0 rfl rfl 18 (by decide) qz_849 rfl qm_M_probe_62 ?_
          refine lv_iconst (v := 2) C.1 C.2.1 qm_M_probe_65 (by decide) ?_
          refine q_iald (wf := (mW h K)) C G 8 7 rfl rfl (by decide) qm_M_probe_66 ?_
          refine lv_aload_n C.1 C.2.1 qm_M_probe_67 rfl (lv_at hl 0 rfl) ?_
          refine q_get (wf := (mW h K)) (v := .ref (h 6)) C G qi_M 0 rfl rfl 16 (by decide) qz_847 rfl qm_M_probe_68 ?_
          refine lv_iconst (v := 1) C.1 C.2.1 qm_M_probe_71 (by decide) ?_
          refine q_iald (wf := (mW h K)) C G 6 5 rfl rfl (by decide) qm_M_probe_72 ?_
          refine lv_iadd C.1 C.2.1 qm_M_probe_73 ?_
          refine lv_iconst (v := 1) C.1 C.2.1 qm_M_probe_74 (by decide) ?_
          refine lv_isub C.1 C.2.1 qm_M_probe_75 ?_
          exact wM_probe_76 C (ih) S x1 x2 x5 (((gA S 7 2) + (gA S 5 1)) - 1) hf _ _ _ G (lv_sub hl [0, 1, 2, 4] rfl)
        · have hf := if_f (not_not_intro b3) hf
          refine lv_aload_n C.1 C.2.1 qm_M_probe_52 rfl (lv_at hl 0 rfl) ?_
          refine q_get (wf := (mW h K)) (v := .ref (h 8)) C G qi_M 0 rfl rfl 18 (by decide) qz_849 rfl qm_M_probe_53 ?_
          refine lv_iconst (v := 2) C.1 C.2.1 qm_M_probe_56 (by decide) ?_
          refine q_iald (wf := (mW h K)) C G 8 7 rfl rfl (by decide) qm_M_probe_57 ?_
          refine lv_goto (tgt := 76) C.1 C.2.1 qm_M_probe_58 (by decide) ?_
          exact wM_probe_76 C (ih) S x1 x2 x5 (gA S 7 2) hf _ _ _ G (lv_sub hl [0, 1, 2, 4] rfl)
set_option maxHeartbeats 4000000 in
set_option maxRecDepth 100000 in
theorem wM_probe_29 {l : Launch} {D : va_G} {h : Nat → Nat} {K : Nat → ClassId} {res : qS} {p : Program} {e : Env} {s : State} {m : MethodId} {args : Array Value} {below : List Frame} {meth : Method} {c : Code} {A : Nat → Prop} {ad : Nat → Nat} (C : qC p s m args meth c qm_M_probe_c 9 none qR_M ad) (S : qS) (x1 : Int32) (y0 : Int32) (hf : fM_probe_29 S x1 y0 = some res) : ∀ (H : Heap) (locs : List Loc) (ls : Array Slot), qG D qCl (mT K) A s (mW h K S) H locs → lv_has ls 9 [(0, .ref (h 0)), (1, .int x1)] → W p l e ({ frames := 2, cells := 0, slots := 0, locals := 54 }) s m args below meth c H locs 0 0 (MQ below (qQv D qCl (mT K) (mW h K) A res) args s 0 0 A) (F0 m 29 ls [.int y0]) := by
  intro H locs ls G hl
  unfold fM_probe_29 at hf
  refine lv_istore_n (lv' := [(2, .int y0), (0, .ref (h 0)), (1, .int x1)]) C.1 C.2.1 qm_M_probe_29 rfl hl (by decide) rfl (fun ls hl => ?_)
  refine lv_iconst (v := 1) C.1 C.2.1 qm_M_probe_30 (by decide) ?_
  refine lv_istore (lv' := [(4, .int 1), (2, .int y0), (0, .ref (h 0)), (1, .int x1)]) C.1 C.2.1 qm_M_probe_31 hl (by decide) rfl (fun ls hl => ?_)
  refine lv_iconst (v := 0) C.1 C.2.1 qm_M_probe_33 (by decide) ?_
  refine lv_istore (lv' := [(5, .int 0), (4, .int 1), (2, .int y0), (0, .ref (h 0)), (1, .int x1)]) C.1 C.2.1 qm_M_probe_34 hl (by decide) rfl (fun ls hl => ?_)
  exact wM_probe_36 C 300 S x1 y0 1 0 hf _ _ _ G (lv_sub hl [3, 4, 2, 1, 0] rfl)
set_option maxHeartbeats 4000000 in
set_option maxRecDepth 100000 in
theorem wM_probe {l : Launch} {D : va_G} {h : Nat → Nat} {K : Nat → ClassId} {res : qS} {p : Program} {e : Env} {s : State} {m : MethodId} {args : Array Value} {below : List Frame} {meth : Method} {c : Code} {A : Nat → Prop} {ad : Nat → Nat} (C : qC p s m args meth c qm_M_probe_c 9 none qR_M ad) (S : qS) (a1 : Int32) (hf : fM_probe S a1 = some res) : ∀ (H : Heap) (locs : List Loc) (ls : Array Slot), qG D qCl (mT K) A s (mW h K S) H locs → lv_has ls 9 [(0, .ref (h 0)), (1, .int a1)] → W p l e ({ frames := 2, cells := 0, slots := 0, locals := 54 }) s m args below meth c H locs 0 0 (MQ below (qQv D qCl (mT K) (mW h K) A res) args s 0 0 A) (F0 m 0 ls []) := by
  intro H locs ls G hl
  unfold fM_probe at hf
  refine lv_aload_n C.1 C.2.1 qm_M_probe_0 rfl (lv_at hl 0 rfl) ?_
  refine q_get (wf := (mW h K)) (v := .ref (h 6)) C G qi_M 0 rfl rfl 16 (by decide) qz_847 rfl qm_M_probe_1 ?_
  refine lv_iconst (v := 0) C.1 C.2.1 qm_M_probe_4 (by decide) ?_
  refine q_iald (wf := (mW h K)) C G 6 5 rfl rfl (by decide) qm_M_probe_5 ?_
  refine lv_iconst (v := 3) C.1 C.2.1 qm_M_probe_6 (by decide) ?_
  refine lv_iand C.1 C.2.1 qm_M_probe_7 ?_
  refine lv_istore_n (lv' := [(2, .int ((gA S 5 0) &&& 3)), (0, .ref (h 0)), (1, .int a1)]) C.1 C.2.1 qm_M_probe_8 rfl hl (by decide) rfl (fun ls hl => ?_)
  refine lv_aload_n C.1 C.2.1 qm_M_probe_9 rfl (lv_at hl 1 rfl) ?_
  refine q_get (wf := (mW h K)) (v := .int (S.1 1)) C G qi_M 0 rfl rfl 4 (by decide) qz_835 rfl qm_M_probe_10 ?_
  refine lv_bipush (v := 22) C.1 C.2.1 qm_M_probe_13 (by decide) ?_
  refine lv_ishr C.1 C.2.1 qm_M_probe_15 ?_
  refine lv_iconst (v := 3) C.1 C.2.1 qm_M_probe_16 (by decide) ?_
  refine lv_iand C.1 C.2.1 qm_M_probe_17 ?_
  refine lv_istore_n (lv' := [(3, .int (((S.1 1) >>> ((22 : Int32) &&& 31)) &&& 3)), (2, .int ((gA S 5 0) &&& 3)), (0, .ref (h 0)), (1, .int a1)]) C.1 C.2.1 qm_M_probe_18 rfl hl (by decide) rfl (fun ls hl => ?_)
  refine lv_iload_n C.1 C.2.1 qm_M_probe_19 rfl (lv_at hl 0 rfl) ?_
  refine lv_iload_n C.1 C.2.1 qm_M_probe_20 rfl (lv_at hl 1 rfl) ?_
  refine lv_icmp_le (tgt := 28) C.1 C.2.1 qm_M_probe_21 (by decide) (fun b1 => ?_) (fun b1 => ?_)
  · have hf := if_t b1 hf
    refine lv_iload_n C.1 C.2.1 qm_M_probe_28 rfl (lv_at hl 1 rfl) ?_
    exact wM_probe_29 C S a1 ((gA S 5 0) &&& 3) hf _ _ _ G (lv_sub hl [2, 3] rfl)
  · have hf := if_f b1 hf
    refine lv_iload_n C.1 C.2.1 qm_M_probe_24 rfl (lv_at hl 0 rfl) ?_
    refine lv_goto (tgt := 29) C.1 C.2.1 qm_M_probe_25 (by decide) ?_
    exact wM_probe_29 C S a1 (((S.1 1) >>> ((22 : Int32) &&& 31)) &&& 3) hf _ _ _ G (lv_sub hl [2, 3] rfl)
theorem kM_probe {l : Launch} {ad : Nat → Nat} {D : va_G} {h : Nat → Nat} {K : Nat → ClassId} {res : qS} {S : qS} {a1 : Int32} (hf : fM_probe S a1 = some res) : qMv l qm_M_probe qm_M_probe_c 9 2 54 D qCl (mT K) ad (mW h K) [.ref (h 0), .int a1] S res := qMv_of (by decide) (Nat.le_of_ble_eq_true rfl) (fun _ _ _ _ _ _ _ _ _ _ C G hl => wM_probe C S a1 hf _ _ _ G hl)
