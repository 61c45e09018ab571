theorem qm_Cd_count_0 : decode qm_Cd_count_c 0 = .ok (.iload_n 1, 1) := by decide +kernel
theorem qm_Cd_count_1 : decode qm_Cd_count_c 1 = .ok (.bipush 66, 2) := by decide +kernel
theorem qm_Cd_count_3 : decode qm_Cd_count_c 3 = .ok (.if_icmp .ge 7, 3) := by decide +kernel
theorem qm_Cd_count_6 : decode qm_Cd_count_c 6 = .ok (.iconst 1, 1) := by decide +kernel
theorem qm_Cd_count_7 : decode qm_Cd_count_c 7 = .ok (.goto 4, 3) := by decide +kernel
theorem qm_Cd_count_10 : decode qm_Cd_count_c 10 = .ok (.iconst 0, 1) := by decide +kernel
theorem qm_Cd_count_11 : decode qm_Cd_count_c 11 = .ok (.istore_n 2, 1) := by decide +kernel
theorem qm_Cd_count_12 : decode qm_Cd_count_c 12 = .ok (.iload_n 2, 1) := by decide +kernel
theorem qm_Cd_count_13 : decode qm_Cd_count_c 13 = .ok (.ifCond .eq 10, 3) := by decide +kernel
theorem qm_Cd_count_16 : decode qm_Cd_count_c 16 = .ok (.aload_n 0, 1) := by decide +kernel
theorem qm_Cd_count_17 : decode qm_Cd_count_c 17 = .ok (.getfield 15, 3) := by decide +kernel
theorem qm_Cd_count_20 : decode qm_Cd_count_c 20 = .ok (.goto 7, 3) := by decide +kernel
theorem qm_Cd_count_23 : decode qm_Cd_count_c 23 = .ok (.aload_n 0, 1) := by decide +kernel
theorem qm_Cd_count_24 : decode qm_Cd_count_c 24 = .ok (.getfield 19, 3) := by decide +kernel
theorem qm_Cd_count_27 : decode qm_Cd_count_c 27 = .ok (.astore_n 3, 1) := by decide +kernel
theorem qm_Cd_count_28 : decode qm_Cd_count_c 28 = .ok (.iload_n 2, 1) := by decide +kernel
theorem qm_Cd_count_29 : decode qm_Cd_count_c 29 = .ok (.ifCond .eq 13, 3) := by decide +kernel
theorem qm_Cd_count_32 : decode qm_Cd_count_c 32 = .ok (.aload_n 3, 1) := by decide +kernel
theorem qm_Cd_count_33 : decode qm_Cd_count_c 33 = .ok (.getfield 96, 3) := by decide +kernel
theorem qm_Cd_count_36 : decode qm_Cd_count_c 36 = .ok (.i2l, 1) := by decide +kernel
theorem qm_Cd_count_37 : decode qm_Cd_count_c 37 = .ok (.lconst 1, 1) := by decide +kernel
theorem qm_Cd_count_38 : decode qm_Cd_count_c 38 = .ok (.lsub, 1) := by decide +kernel
theorem qm_Cd_count_39 : decode qm_Cd_count_c 39 = .ok (.goto 10, 3) := by decide +kernel
theorem qm_Cd_count_42 : decode qm_Cd_count_c 42 = .ok (.aload_n 3, 1) := by decide +kernel
theorem qm_Cd_count_43 : decode qm_Cd_count_c 43 = .ok (.getfield 96, 3) := by decide +kernel
theorem qm_Cd_count_46 : decode qm_Cd_count_c 46 = .ok (.i2l, 1) := by decide +kernel
theorem qm_Cd_count_47 : decode qm_Cd_count_c 47 = .ok (.lconst 1, 1) := by decide +kernel
theorem qm_Cd_count_48 : decode qm_Cd_count_c 48 = .ok (.ladd, 1) := by decide +kernel
theorem qm_Cd_count_49 : decode qm_Cd_count_c 49 = .ok (.lstore 4, 2) := by decide +kernel
theorem qm_Cd_count_51 : decode qm_Cd_count_c 51 = .ok (.lload 4, 2) := by decide +kernel
theorem qm_Cd_count_53 : decode qm_Cd_count_c 53 = .ok (.l2i, 1) := by decide +kernel
theorem qm_Cd_count_54 : decode qm_Cd_count_c 54 = .ok (.istore 6, 2) := by decide +kernel
theorem qm_Cd_count_56 : decode qm_Cd_count_c 56 = .ok (.aload_n 0, 1) := by decide +kernel
theorem qm_Cd_count_57 : decode qm_Cd_count_c 57 = .ok (.getfield 9, 3) := by decide +kernel
theorem qm_Cd_count_60 : decode qm_Cd_count_c 60 = .ok (.iload 6, 2) := by decide +kernel
theorem qm_Cd_count_62 : decode qm_Cd_count_c 62 = .ok (.lload 4, 2) := by decide +kernel
theorem qm_Cd_count_64 : decode qm_Cd_count_c 64 = .ok (.iload 6, 2) := by decide +kernel
theorem qm_Cd_count_66 : decode qm_Cd_count_c 66 = .ok (.i2l, 1) := by decide +kernel
theorem qm_Cd_count_67 : decode qm_Cd_count_c 67 = .ok (.lcmp, 1) := by decide +kernel
theorem qm_Cd_count_68 : decode qm_Cd_count_c 68 = .ok (.ifCond .eq 7, 3) := by decide +kernel
theorem qm_Cd_count_71 : decode qm_Cd_count_c 71 = .ok (.iconst 1, 1) := by decide +kernel
theorem qm_Cd_count_72 : decode qm_Cd_count_c 72 = .ok (.goto 4, 3) := by decide +kernel
theorem qm_Cd_count_75 : decode qm_Cd_count_c 75 = .ok (.iconst 0, 1) := by decide +kernel
theorem qm_Cd_count_76 : decode qm_Cd_count_c 76 = .ok (.aload_n 0, 1) := by decide +kernel
theorem qm_Cd_count_77 : decode qm_Cd_count_c 77 = .ok (.getfield 9, 3) := by decide +kernel
theorem qm_Cd_count_80 : decode qm_Cd_count_c 80 = .ok (.iconst 1, 1) := by decide +kernel
theorem qm_Cd_count_81 : decode qm_Cd_count_c 81 = .ok (.invokevirtual 152, 3) := by decide +kernel
theorem qm_Cd_count_84 : decode qm_Cd_count_c 84 = .ok (.invokevirtual 183, 3) := by decide +kernel
theorem qm_Cd_count_87 : decode qm_Cd_count_c 87 = .ok (.aload_n 0, 1) := by decide +kernel
theorem qm_Cd_count_88 : decode qm_Cd_count_c 88 = .ok (.aload_n 3, 1) := by decide +kernel
theorem qm_Cd_count_89 : decode qm_Cd_count_c 89 = .ok (.iload 6, 2) := by decide +kernel
theorem qm_Cd_count_91 : decode qm_Cd_count_c 91 = .ok (.invokevirtual 111, 3) := by decide +kernel
theorem qm_Cd_count_94 : decode qm_Cd_count_c 94 = .ok (.iload_n 2, 1) := by decide +kernel
theorem qm_Cd_count_95 : decode qm_Cd_count_c 95 = .ok (.ifCond .eq 16, 3) := by decide +kernel
theorem qm_Cd_count_98 : decode qm_Cd_count_c 98 = .ok (.iload 6, 2) := by decide +kernel
theorem qm_Cd_count_100 : decode qm_Cd_count_c 100 = .ok (.ifCond .le 7, 3) := by decide +kernel
theorem qm_Cd_count_103 : decode qm_Cd_count_c 103 = .ok (.iconst 1, 1) := by decide +kernel
theorem qm_Cd_count_104 : decode qm_Cd_count_c 104 = .ok (.goto 24, 3) := by decide +kernel
theorem qm_Cd_count_107 : decode qm_Cd_count_c 107 = .ok (.iconst 0, 1) := by decide +kernel
theorem qm_Cd_count_108 : decode qm_Cd_count_c 108 = .ok (.goto 20, 3) := by decide +kernel
theorem qm_Cd_count_111 : decode qm_Cd_count_c 111 = .ok (.iload 6, 2) := by decide +kernel
theorem qm_Cd_count_113 : decode qm_Cd_count_c 113 = .ok (.aload_n 0, 1) := by decide +kernel
theorem qm_Cd_count_114 : decode qm_Cd_count_c 114 = .ok (.getfield 15, 3) := by decide +kernel
theorem qm_Cd_count_117 : decode qm_Cd_count_c 117 = .ok (.getfield 96, 3) := by decide +kernel
theorem qm_Cd_count_120 : decode qm_Cd_count_c 120 = .ok (.if_icmp .ge 7, 3) := by decide +kernel
theorem qm_Cd_count_123 : decode qm_Cd_count_c 123 = .ok (.iconst 1, 1) := by decide +kernel
theorem qm_Cd_count_124 : decode qm_Cd_count_c 124 = .ok (.goto 4, 3) := by decide +kernel
theorem qm_Cd_count_127 : decode qm_Cd_count_c 127 = .ok (.iconst 0, 1) := by decide +kernel
theorem qm_Cd_count_128 : decode qm_Cd_count_c 128 = .ok (.istore 7, 2) := by decide +kernel
theorem qm_Cd_count_130 : decode qm_Cd_count_c 130 = .ok (.iload_n 1, 1) := by decide +kernel
theorem qm_Cd_count_131 : decode qm_Cd_count_c 131 = .ok (.iconst 1, 1) := by decide +kernel
theorem qm_Cd_count_132 : decode qm_Cd_count_c 132 = .ok (.iand, 1) := by decide +kernel
theorem qm_Cd_count_133 : decode qm_Cd_count_c 133 = .ok (.iconst 1, 1) := by decide +kernel
theorem qm_Cd_count_134 : decode qm_Cd_count_c 134 = .ok (.if_icmp .ne 27, 3) := by decide +kernel
theorem qm_Cd_count_137 : decode qm_Cd_count_c 137 = .ok (.iload 6, 2) := by decide +kernel
theorem qm_Cd_count_139 : decode qm_Cd_count_c 139 = .ok (.iload_n 2, 1) := by decide +kernel
theorem qm_Cd_count_140 : decode qm_Cd_count_c 140 = .ok (.ifCond .eq 7, 3) := by decide +kernel
theorem qm_Cd_count_143 : decode qm_Cd_count_c 143 = .ok (.iconst 0, 1) := by decide +kernel
theorem qm_Cd_count_144 : decode qm_Cd_count_c 144 = .ok (.goto 10, 3) := by decide +kernel
theorem qm_Cd_count_147 : decode qm_Cd_count_c 147 = .ok (.aload_n 0, 1) := by decide +kernel
theorem qm_Cd_count_148 : decode qm_Cd_count_c 148 = .ok (.getfield 15, 3) := by decide +kernel
theorem qm_Cd_count_151 : decode qm_Cd_count_c 151 = .ok (.getfield 96, 3) := by decide +kernel
theorem qm_Cd_count_154 : decode qm_Cd_count_c 154 = .ok (.if_icmp .ne 7, 3) := by decide +kernel
theorem qm_Cd_count_157 : decode qm_Cd_count_c 157 = .ok (.iconst 1, 1) := by decide +kernel
theorem qm_Cd_count_158 : decode qm_Cd_count_c 158 = .ok (.goto 4, 3) := by decide +kernel
theorem qm_Cd_count_161 : decode qm_Cd_count_c 161 = .ok (.iconst 0, 1) := by decide +kernel
theorem qm_Cd_count_162 : decode qm_Cd_count_c 162 = .ok (.istore 8, 2) := by decide +kernel
theorem qm_Cd_count_164 : decode qm_Cd_count_c 164 = .ok (.iload 7, 2) := by decide +kernel
theorem qm_Cd_count_166 : decode qm_Cd_count_c 166 = .ok (.ifCond .ne 8, 3) := by decide +kernel
theorem qm_Cd_count_169 : decode qm_Cd_count_c 169 = .ok (.iload 8, 2) := by decide +kernel
theorem qm_Cd_count_171 : decode qm_Cd_count_c 171 = .ok (.ifCond .eq 43, 3) := by decide +kernel
theorem qm_Cd_count_174 : decode qm_Cd_count_c 174 = .ok (.aload_n 0, 1) := by decide +kernel
theorem qm_Cd_count_175 : decode qm_Cd_count_c 175 = .ok (.getfield 9, 3) := by decide +kernel
theorem qm_Cd_count_178 : decode qm_Cd_count_c 178 = .ok (.bipush 15, 2) := by decide +kernel
theorem qm_Cd_count_180 : decode qm_Cd_count_c 180 = .ok (.aload_n 0, 1) := by decide +kernel
theorem qm_Cd_count_181 : decode qm_Cd_count_c 181 = .ok (.getfield 9, 3) := by decide +kernel
theorem qm_Cd_count_184 : decode qm_Cd_count_c 184 = .ok (.bipush 15, 2) := by decide +kernel
theorem qm_Cd_count_186 : decode qm_Cd_count_c 186 = .ok (.invokevirtual 169, 3) := by decide +kernel
theorem qm_Cd_count_189 : decode qm_Cd_count_c 189 = .ok (.iload_n 2, 1) := by decide +kernel
theorem qm_Cd_count_190 : decode qm_Cd_count_c 190 = .ok (.ifCond .eq 13, 3) := by decide +kernel
theorem qm_Cd_count_193 : decode qm_Cd_count_c 193 = .ok (.aload_n 0, 1) := by decide +kernel
theorem qm_Cd_count_194 : decode qm_Cd_count_c 194 = .ok (.getfield 19, 3) := by decide +kernel
theorem qm_Cd_count_197 : decode qm_Cd_count_c 197 = .ok (.getfield 96, 3) := by decide +kernel
theorem qm_Cd_count_200 : decode qm_Cd_count_c 200 = .ok (.goto 10, 3) := by decide +kernel
theorem qm_Cd_count_203 : decode qm_Cd_count_c 203 = .ok (.aload_n 0, 1) := by decide +kernel
theorem qm_Cd_count_204 : decode qm_Cd_count_c 204 = .ok (.getfield 22, 3) := by decide +kernel
theorem qm_Cd_count_207 : decode qm_Cd_count_c 207 = .ok (.getfield 96, 3) := by decide +kernel
theorem qm_Cd_count_210 : decode qm_Cd_count_c 210 = .ok (.iadd, 1) := by decide +kernel
theorem qm_Cd_count_211 : decode qm_Cd_count_c 211 = .ok (.invokevirtual 92, 3) := by decide +kernel
theorem qm_Cd_count_214 : decode qm_Cd_count_c 214 = .ok (.return_, 1) := by decide +kernel
theorem qm_Cd_noteOverflow_0 : decode qm_Cd_noteOverflow_c 0 = .ok (.iload_n 1, 1) := by decide +kernel
theorem qm_Cd_noteOverflow_1 : decode qm_Cd_noteOverflow_c 1 = .ok (.bipush 17, 2) := by decide +kernel
theorem qm_Cd_noteOverflow_3 : decode qm_Cd_noteOverflow_c 3 = .ok (.if_icmp .lt 9, 3) := by decide +kernel
theorem qm_Cd_noteOverflow_6 : decode qm_Cd_noteOverflow_c 6 = .ok (.iload_n 1, 1) := by decide +kernel
theorem qm_Cd_noteOverflow_7 : decode qm_Cd_noteOverflow_c 7 = .ok (.bipush 41, 2) := by decide +kernel
theorem qm_Cd_noteOverflow_9 : decode qm_Cd_noteOverflow_c 9 = .ok (.if_icmp .le 15, 3) := by decide +kernel
theorem qm_Cd_noteOverflow_12 : decode qm_Cd_noteOverflow_c 12 = .ok (.iload_n 1, 1) := by decide +kernel
theorem qm_Cd_noteOverflow_13 : decode qm_Cd_noteOverflow_c 13 = .ok (.bipush 64, 2) := by decide +kernel
theorem qm_Cd_noteOverflow_15 : decode qm_Cd_noteOverflow_c 15 = .ok (.if_icmp .lt 13, 3) := by decide +kernel
theorem qm_Cd_noteOverflow_18 : decode qm_Cd_noteOverflow_c 18 = .ok (.iload_n 1, 1) := by decide +kernel
theorem qm_Cd_noteOverflow_19 : decode qm_Cd_noteOverflow_c 19 = .ok (.bipush 67, 2) := by decide +kernel
theorem qm_Cd_noteOverflow_21 : decode qm_Cd_noteOverflow_c 21 = .ok (.if_icmp .gt 7, 3) := by decide +kernel
theorem qm_Cd_noteOverflow_24 : decode qm_Cd_noteOverflow_c 24 = .ok (.iconst 1, 1) := by decide +kernel
theorem qm_Cd_noteOverflow_25 : decode qm_Cd_noteOverflow_c 25 = .ok (.goto 4, 3) := by decide +kernel
theorem qm_Cd_noteOverflow_28 : decode qm_Cd_noteOverflow_c 28 = .ok (.iconst 0, 1) := by decide +kernel
theorem qm_Cd_noteOverflow_29 : decode qm_Cd_noteOverflow_c 29 = .ok (.istore_n 2, 1) := by decide +kernel
theorem qm_Cd_noteOverflow_30 : decode qm_Cd_noteOverflow_c 30 = .ok (.iload_n 2, 1) := by decide +kernel
theorem qm_Cd_noteOverflow_31 : decode qm_Cd_noteOverflow_c 31 = .ok (.ifCond .eq 44, 3) := by decide +kernel
theorem qm_Cd_noteOverflow_34 : decode qm_Cd_noteOverflow_c 34 = .ok (.aload_n 0, 1) := by decide +kernel
theorem qm_Cd_noteOverflow_35 : decode qm_Cd_noteOverflow_c 35 = .ok (.getfield 9, 3) := by decide +kernel
theorem qm_Cd_noteOverflow_38 : decode qm_Cd_noteOverflow_c 38 = .ok (.getfield 149, 3) := by decide +kernel
theorem qm_Cd_noteOverflow_41 : decode qm_Cd_noteOverflow_c 41 = .ok (.ifCond .ne 34, 3) := by decide +kernel
theorem qm_Cd_noteOverflow_44 : decode qm_Cd_noteOverflow_c 44 = .ok (.aload_n 0, 1) := by decide +kernel
theorem qm_Cd_noteOverflow_45 : decode qm_Cd_noteOverflow_c 45 = .ok (.getfield 9, 3) := by decide +kernel
theorem qm_Cd_noteOverflow_48 : decode qm_Cd_noteOverflow_c 48 = .ok (.bipush 32, 2) := by decide +kernel
theorem qm_Cd_noteOverflow_50 : decode qm_Cd_noteOverflow_c 50 = .ok (.invokevirtual 152, 3) := by decide +kernel
theorem qm_Cd_noteOverflow_53 : decode qm_Cd_noteOverflow_c 53 = .ok (.ifCond .eq 22, 3) := by decide +kernel
theorem qm_Cd_noteOverflow_56 : decode qm_Cd_noteOverflow_c 56 = .ok (.aload_n 0, 1) := by decide +kernel
theorem qm_Cd_noteOverflow_57 : decode qm_Cd_noteOverflow_c 57 = .ok (.getfield 9, 3) := by decide +kernel
theorem qm_Cd_noteOverflow_60 : decode qm_Cd_noteOverflow_c 60 = .ok (.iconst 2, 1) := by decide +kernel
theorem qm_Cd_noteOverflow_61 : decode qm_Cd_noteOverflow_c 61 = .ok (.invokevirtual 152, 3) := by decide +kernel
theorem qm_Cd_noteOverflow_64 : decode qm_Cd_noteOverflow_c 64 = .ok (.ifCond .eq 11, 3) := by decide +kernel
theorem qm_Cd_noteOverflow_67 : decode qm_Cd_noteOverflow_c 67 = .ok (.aload_n 0, 1) := by decide +kernel
theorem qm_Cd_noteOverflow_68 : decode qm_Cd_noteOverflow_c 68 = .ok (.getfield 9, 3) := by decide +kernel
theorem qm_Cd_noteOverflow_71 : decode qm_Cd_noteOverflow_c 71 = .ok (.iconst 1, 1) := by decide +kernel
theorem qm_Cd_noteOverflow_72 : decode qm_Cd_noteOverflow_c 72 = .ok (.putfield 149, 3) := by decide +kernel
theorem qm_Cd_noteOverflow_75 : decode qm_Cd_noteOverflow_c 75 = .ok (.return_, 1) := by decide +kernel
theorem qm_Cd_execute_0 : decode qm_Cd_execute_c 0 = .ok (.iload_n 1, 1) := by decide +kernel
theorem qm_Cd_execute_1 : decode qm_Cd_execute_c 1 = .ok (.lookupswitch 244 #[(2, 99), (3, 106), (4, 118), (5, 125), (10, 144), (11, 165), (12, 179), (41, 197), (68, 219), (69, 226), (70, 226)], 99) := by decide +kernel
theorem qm_Cd_execute_100 : decode qm_Cd_execute_c 100 = .ok (.aload_n 0, 1) := by decide +kernel
theorem qm_Cd_execute_101 : decode qm_Cd_execute_c 101 = .ok (.invokevirtual 79, 3) := by decide +kernel
theorem qm_Cd_execute_104 : decode qm_Cd_execute_c 104 = .ok (.goto 272, 3) := by decide +kernel
theorem qm_Cd_execute_107 : decode qm_Cd_execute_c 107 = .ok (.aload_n 0, 1) := by decide +kernel
theorem qm_Cd_execute_108 : decode qm_Cd_execute_c 108 = .ok (.getfield 9, 3) := by decide +kernel
theorem qm_Cd_execute_111 : decode qm_Cd_execute_c 111 = .ok (.bipush 6, 2) := by decide +kernel
theorem qm_Cd_execute_113 : decode qm_Cd_execute_c 113 = .ok (.invokevirtual 82, 3) := by decide +kernel
theorem qm_Cd_execute_116 : decode qm_Cd_execute_c 116 = .ok (.goto 260, 3) := by decide +kernel
theorem qm_Cd_execute_119 : decode qm_Cd_execute_c 119 = .ok (.aload_n 0, 1) := by decide +kernel
theorem qm_Cd_execute_120 : decode qm_Cd_execute_c 120 = .ok (.invokevirtual 86, 3) := by decide +kernel
theorem qm_Cd_execute_123 : decode qm_Cd_execute_c 123 = .ok (.goto 253, 3) := by decide +kernel
theorem qm_Cd_execute_126 : decode qm_Cd_execute_c 126 = .ok (.aload_n 0, 1) := by decide +kernel
theorem qm_Cd_execute_127 : decode qm_Cd_execute_c 127 = .ok (.getfield 9, 3) := by decide +kernel
theorem qm_Cd_execute_130 : decode qm_Cd_execute_c 130 = .ok (.bipush 15, 2) := by decide +kernel
theorem qm_Cd_execute_132 : decode qm_Cd_execute_c 132 = .ok (.aload_n 0, 1) := by decide +kernel
theorem qm_Cd_execute_133 : decode qm_Cd_execute_c 133 = .ok (.getfield 9, 3) := by decide +kernel
theorem qm_Cd_execute_136 : decode qm_Cd_execute_c 136 = .ok (.invokevirtual 89, 3) := by decide +kernel
theorem qm_Cd_execute_139 : decode qm_Cd_execute_c 139 = .ok (.invokevirtual 92, 3) := by decide +kernel
theorem qm_Cd_execute_142 : decode qm_Cd_execute_c 142 = .ok (.goto 234, 3) := by decide +kernel
theorem qm_Cd_execute_145 : decode qm_Cd_execute_c 145 = .ok (.aload_n 0, 1) := by decide +kernel
theorem qm_Cd_execute_146 : decode qm_Cd_execute_c 146 = .ok (.aload_n 0, 1) := by decide +kernel
theorem qm_Cd_execute_147 : decode qm_Cd_execute_c 147 = .ok (.getfield 19, 3) := by decide +kernel
theorem qm_Cd_execute_150 : decode qm_Cd_execute_c 150 = .ok (.getfield 96, 3) := by decide +kernel
theorem qm_Cd_execute_153 : decode qm_Cd_execute_c 153 = .ok (.aload_n 0, 1) := by decide +kernel
theorem qm_Cd_execute_154 : decode qm_Cd_execute_c 154 = .ok (.getfield 15, 3) := by decide +kernel
theorem qm_Cd_execute_157 : decode qm_Cd_execute_c 157 = .ok (.getfield 96, 3) := by decide +kernel
theorem qm_Cd_execute_160 : decode qm_Cd_execute_c 160 = .ok (.invokevirtual 102, 3) := by decide +kernel
theorem qm_Cd_execute_163 : decode qm_Cd_execute_c 163 = .ok (.goto 213, 3) := by decide +kernel
theorem qm_Cd_execute_166 : decode qm_Cd_execute_c 166 = .ok (.aload_n 0, 1) := by decide +kernel
theorem qm_Cd_execute_167 : decode qm_Cd_execute_c 167 = .ok (.aload_n 0, 1) := by decide +kernel
theorem qm_Cd_execute_168 : decode qm_Cd_execute_c 168 = .ok (.getfield 15, 3) := by decide +kernel
theorem qm_Cd_execute_171 : decode qm_Cd_execute_c 171 = .ok (.getfield 96, 3) := by decide +kernel
theorem qm_Cd_execute_174 : decode qm_Cd_execute_c 174 = .ok (.invokevirtual 105, 3) := by decide +kernel
theorem qm_Cd_execute_177 : decode qm_Cd_execute_c 177 = .ok (.goto 199, 3) := by decide +kernel
theorem qm_Cd_execute_180 : decode qm_Cd_execute_c 180 = .ok (.aload_n 0, 1) := by decide +kernel
theorem qm_Cd_execute_181 : decode qm_Cd_execute_c 181 = .ok (.aload_n 0, 1) := by decide +kernel
theorem qm_Cd_execute_182 : decode qm_Cd_execute_c 182 = .ok (.getfield 15, 3) := by decide +kernel
theorem qm_Cd_execute_185 : decode qm_Cd_execute_c 185 = .ok (.aload_n 0, 1) := by decide +kernel
theorem qm_Cd_execute_186 : decode qm_Cd_execute_c 186 = .ok (.getfield 9, 3) := by decide +kernel
theorem qm_Cd_execute_189 : decode qm_Cd_execute_c 189 = .ok (.getfield 108, 3) := by decide +kernel
theorem qm_Cd_execute_192 : decode qm_Cd_execute_c 192 = .ok (.invokevirtual 111, 3) := by decide +kernel
theorem qm_Cd_execute_195 : decode qm_Cd_execute_c 195 = .ok (.goto 181, 3) := by decide +kernel
theorem qm_Cd_execute_198 : decode qm_Cd_execute_c 198 = .ok (.aload_n 0, 1) := by decide +kernel
theorem qm_Cd_execute_199 : decode qm_Cd_execute_c 199 = .ok (.aload_n 0, 1) := by decide +kernel
theorem qm_Cd_execute_200 : decode qm_Cd_execute_c 200 = .ok (.getfield 15, 3) := by decide +kernel
theorem qm_Cd_execute_203 : decode qm_Cd_execute_c 203 = .ok (.getfield 96, 3) := by decide +kernel
theorem qm_Cd_execute_206 : decode qm_Cd_execute_c 206 = .ok (.i2b, 1) := by decide +kernel
theorem qm_Cd_execute_207 : decode qm_Cd_execute_c 207 = .ok (.aload_n 0, 1) := by decide +kernel
theorem qm_Cd_execute_208 : decode qm_Cd_execute_c 208 = .ok (.getfield 19, 3) := by decide +kernel
theorem qm_Cd_execute_211 : decode qm_Cd_execute_c 211 = .ok (.getfield 96, 3) := by decide +kernel
theorem qm_Cd_execute_214 : decode qm_Cd_execute_c 214 = .ok (.invokevirtual 115, 3) := by decide +kernel
theorem qm_Cd_execute_217 : decode qm_Cd_execute_c 217 = .ok (.goto 159, 3) := by decide +kernel
theorem qm_Cd_execute_220 : decode qm_Cd_execute_c 220 = .ok (.aload_n 0, 1) := by decide +kernel
theorem qm_Cd_execute_221 : decode qm_Cd_execute_c 221 = .ok (.invokevirtual 118, 3) := by decide +kernel
theorem qm_Cd_execute_224 : decode qm_Cd_execute_c 224 = .ok (.goto 152, 3) := by decide +kernel
theorem qm_Cd_execute_227 : decode qm_Cd_execute_c 227 = .ok (.aload_n 0, 1) := by decide +kernel
theorem qm_Cd_execute_228 : decode qm_Cd_execute_c 228 = .ok (.iload_n 1, 1) := by decide +kernel
theorem qm_Cd_execute_229 : decode qm_Cd_execute_c 229 = .ok (.bipush 70, 2) := by decide +kernel
theorem qm_Cd_execute_231 : decode qm_Cd_execute_c 231 = .ok (.if_icmp .ne 7, 3) := by decide +kernel
theorem qm_Cd_execute_234 : decode qm_Cd_execute_c 234 = .ok (.iconst 1, 1) := by decide +kernel
theorem qm_Cd_execute_235 : decode qm_Cd_execute_c 235 = .ok (.goto 4, 3) := by decide +kernel
theorem qm_Cd_execute_238 : decode qm_Cd_execute_c 238 = .ok (.iconst 0, 1) := by decide +kernel
theorem qm_Cd_execute_239 : decode qm_Cd_execute_c 239 = .ok (.invokevirtual 121, 3) := by decide +kernel
theorem qm_Cd_execute_242 : decode qm_Cd_execute_c 242 = .ok (.goto 134, 3) := by decide +kernel
theorem qm_Cd_execute_245 : decode qm_Cd_execute_c 245 = .ok (.iload_n 1, 1) := by decide +kernel
theorem qm_Cd_execute_246 : decode qm_Cd_execute_c 246 = .ok (.bipush 13, 2) := by decide +kernel
theorem qm_Cd_execute_248 : decode qm_Cd_execute_c 248 = .ok (.if_icmp .lt 17, 3) := by decide +kernel
theorem qm_Cd_execute_251 : decode qm_Cd_execute_c 251 = .ok (.iload_n 1, 1) := by decide +kernel
theorem qm_Cd_execute_252 : decode qm_Cd_execute_c 252 = .ok (.bipush 20, 2) := by decide +kernel
theorem qm_Cd_execute_254 : decode qm_Cd_execute_c 254 = .ok (.if_icmp .gt 11, 3) := by decide +kernel
theorem qm_Cd_execute_257 : decode qm_Cd_execute_c 257 = .ok (.aload_n 0, 1) := by decide +kernel
theorem qm_Cd_execute_258 : decode qm_Cd_execute_c 258 = .ok (.iload_n 1, 1) := by decide +kernel
theorem qm_Cd_execute_259 : decode qm_Cd_execute_c 259 = .ok (.invokevirtual 125, 3) := by decide +kernel
theorem qm_Cd_execute_262 : decode qm_Cd_execute_c 262 = .ok (.goto 114, 3) := by decide +kernel
theorem qm_Cd_execute_265 : decode qm_Cd_execute_c 265 = .ok (.iload_n 1, 1) := by decide +kernel
theorem qm_Cd_execute_266 : decode qm_Cd_execute_c 266 = .ok (.bipush 20, 2) := by decide +kernel
theorem qm_Cd_execute_268 : decode qm_Cd_execute_c 268 = .ok (.if_icmp .le 17, 3) := by decide +kernel
theorem qm_Cd_execute_271 : decode qm_Cd_execute_c 271 = .ok (.iload_n 1, 1) := by decide +kernel
theorem qm_Cd_execute_272 : decode qm_Cd_execute_c 272 = .ok (.bipush 24, 2) := by decide +kernel
theorem qm_Cd_execute_274 : decode qm_Cd_execute_c 274 = .ok (.if_icmp .gt 11, 3) := by decide +kernel
theorem qm_Cd_execute_277 : decode qm_Cd_execute_c 277 = .ok (.aload_n 0, 1) := by decide +kernel
theorem qm_Cd_execute_278 : decode qm_Cd_execute_c 278 = .ok (.iload_n 1, 1) := by decide +kernel
theorem qm_Cd_execute_279 : decode qm_Cd_execute_c 279 = .ok (.invokevirtual 128, 3) := by decide +kernel
theorem qm_Cd_execute_282 : decode qm_Cd_execute_c 282 = .ok (.goto 94, 3) := by decide +kernel
theorem qm_Cd_execute_285 : decode qm_Cd_execute_c 285 = .ok (.iload_n 1, 1) := by decide +kernel
theorem qm_Cd_execute_286 : decode qm_Cd_execute_c 286 = .ok (.bipush 24, 2) := by decide +kernel
theorem qm_Cd_execute_288 : decode qm_Cd_execute_c 288 = .ok (.if_icmp .le 17, 3) := by decide +kernel
theorem qm_Cd_execute_291 : decode qm_Cd_execute_c 291 = .ok (.iload_n 1, 1) := by decide +kernel
theorem qm_Cd_execute_292 : decode qm_Cd_execute_c 292 = .ok (.bipush 41, 2) := by decide +kernel
theorem qm_Cd_execute_294 : decode qm_Cd_execute_c 294 = .ok (.if_icmp .ge 11, 3) := by decide +kernel
theorem qm_Cd_execute_297 : decode qm_Cd_execute_c 297 = .ok (.aload_n 0, 1) := by decide +kernel
theorem qm_Cd_execute_298 : decode qm_Cd_execute_c 298 = .ok (.iload_n 1, 1) := by decide +kernel
theorem qm_Cd_execute_299 : decode qm_Cd_execute_c 299 = .ok (.invokevirtual 131, 3) := by decide +kernel
theorem qm_Cd_execute_302 : decode qm_Cd_execute_c 302 = .ok (.goto 74, 3) := by decide +kernel
theorem qm_Cd_execute_305 : decode qm_Cd_execute_c 305 = .ok (.iload_n 1, 1) := by decide +kernel
theorem qm_Cd_execute_306 : decode qm_Cd_execute_c 306 = .ok (.bipush 41, 2) := by decide +kernel
theorem qm_Cd_execute_308 : decode qm_Cd_execute_c 308 = .ok (.if_icmp .le 17, 3) := by decide +kernel
theorem qm_Cd_execute_311 : decode qm_Cd_execute_c 311 = .ok (.iload_n 1, 1) := by decide +kernel
theorem qm_Cd_execute_312 : decode qm_Cd_execute_c 312 = .ok (.bipush 45, 2) := by decide +kernel
theorem qm_Cd_execute_314 : decode qm_Cd_execute_c 314 = .ok (.if_icmp .gt 11, 3) := by decide +kernel
theorem qm_Cd_execute_317 : decode qm_Cd_execute_c 317 = .ok (.aload_n 0, 1) := by decide +kernel
theorem qm_Cd_execute_318 : decode qm_Cd_execute_c 318 = .ok (.iload_n 1, 1) := by decide +kernel
theorem qm_Cd_execute_319 : decode qm_Cd_execute_c 319 = .ok (.invokevirtual 134, 3) := by decide +kernel
theorem qm_Cd_execute_322 : decode qm_Cd_execute_c 322 = .ok (.goto 54, 3) := by decide +kernel
theorem qm_Cd_execute_325 : decode qm_Cd_execute_c 325 = .ok (.iload_n 1, 1) := by decide +kernel
theorem qm_Cd_execute_326 : decode qm_Cd_execute_c 326 = .ok (.bipush 45, 2) := by decide +kernel
theorem qm_Cd_execute_328 : decode qm_Cd_execute_c 328 = .ok (.if_icmp .le 17, 3) := by decide +kernel
theorem qm_Cd_execute_331 : decode qm_Cd_execute_c 331 = .ok (.iload_n 1, 1) := by decide +kernel
theorem qm_Cd_execute_332 : decode qm_Cd_execute_c 332 = .ok (.bipush 49, 2) := by decide +kernel
theorem qm_Cd_execute_334 : decode qm_Cd_execute_c 334 = .ok (.if_icmp .gt 11, 3) := by decide +kernel
theorem qm_Cd_execute_337 : decode qm_Cd_execute_c 337 = .ok (.aload_n 0, 1) := by decide +kernel
theorem qm_Cd_execute_338 : decode qm_Cd_execute_c 338 = .ok (.iload_n 1, 1) := by decide +kernel
theorem qm_Cd_execute_339 : decode qm_Cd_execute_c 339 = .ok (.invokevirtual 137, 3) := by decide +kernel
theorem qm_Cd_execute_342 : decode qm_Cd_execute_c 342 = .ok (.goto 34, 3) := by decide +kernel
theorem qm_Cd_execute_345 : decode qm_Cd_execute_c 345 = .ok (.iload_n 1, 1) := by decide +kernel
theorem qm_Cd_execute_346 : decode qm_Cd_execute_c 346 = .ok (.bipush 49, 2) := by decide +kernel
theorem qm_Cd_execute_348 : decode qm_Cd_execute_c 348 = .ok (.if_icmp .le 17, 3) := by decide +kernel
theorem qm_Cd_execute_351 : decode qm_Cd_execute_c 351 = .ok (.iload_n 1, 1) := by decide +kernel
theorem qm_Cd_execute_352 : decode qm_Cd_execute_c 352 = .ok (.bipush 63, 2) := by decide +kernel
theorem qm_Cd_execute_354 : decode qm_Cd_execute_c 354 = .ok (.if_icmp .gt 11, 3) := by decide +kernel
theorem qm_Cd_execute_357 : decode qm_Cd_execute_c 357 = .ok (.aload_n 0, 1) := by decide +kernel
theorem qm_Cd_execute_358 : decode qm_Cd_execute_c 358 = .ok (.iload_n 1, 1) := by decide +kernel
theorem qm_Cd_execute_359 : decode qm_Cd_execute_c 359 = .ok (.invokevirtual 140, 3) := by decide +kernel
theorem qm_Cd_execute_362 : decode qm_Cd_execute_c 362 = .ok (.goto 14, 3) := by decide +kernel
theorem qm_Cd_execute_365 : decode qm_Cd_execute_c 365 = .ok (.iload_n 1, 1) := by decide +kernel
theorem qm_Cd_execute_366 : decode qm_Cd_execute_c 366 = .ok (.bipush 63, 2) := by decide +kernel
theorem qm_Cd_execute_368 : decode qm_Cd_execute_c 368 = .ok (.if_icmp .le 8, 3) := by decide +kernel
theorem qm_Cd_execute_371 : decode qm_Cd_execute_c 371 = .ok (.aload_n 0, 1) := by decide +kernel
theorem qm_Cd_execute_372 : decode qm_Cd_execute_c 372 = .ok (.iload_n 1, 1) := by decide +kernel
theorem qm_Cd_execute_373 : decode qm_Cd_execute_c 373 = .ok (.invokevirtual 143, 3) := by decide +kernel
theorem qm_Cd_execute_376 : decode qm_Cd_execute_c 376 = .ok (.aload_n 0, 1) := by decide +kernel
theorem qm_Cd_execute_377 : decode qm_Cd_execute_c 377 = .ok (.iload_n 1, 1) := by decide +kernel
theorem qm_Cd_execute_378 : decode qm_Cd_execute_c 378 = .ok (.invokevirtual 146, 3) := by decide +kernel
theorem qm_Cd_execute_381 : decode qm_Cd_execute_c 381 = .ok (.return_, 1) := by decide +kernel
set_option maxHeartbeats 4000000 in
set_option maxRecDepth 100000 in
theorem wCd_count_214 {l : Launch} {D : va_G} {h : Nat → Nat} {K : Nat → ClassId} {res : qS} {p : Program} {e : Env} {s : State} {m : MethodId} {args : Array Value} {below : List Frame} {meth : Method} {c : Code} {A : Nat → Prop} {ad : Nat → Nat} (C : qC p s m args meth c qm_Cd_count_c 9 none qR_Cd ad) (S : qS) (hf : fCd_count_214 S = some res) : ∀ (H : Heap) (locs : List Loc) (ls : Array Slot), qG D qCl (cT K) A s (cW h K S) H locs → lv_has ls 9 [] → W p l e ({ frames := 4, cells := 0, slots := 0, locals := 99 }) s m args below meth c H locs 0 0 (MQ below (qQv D qCl (cT K) (cW h K) A res) args s 0 0 A) (F0 m 214 ls []) := by
  intro H locs ls G hl
  unfold fCd_count_214 at hf
  exact q_vret (wf := (cW h K)) C G hf qm_Cd_count_214
set_option maxHeartbeats 4000000 in
set_option maxRecDepth 100000 in
theorem wCd_count_210 {l : Launch} {D : va_G} {h : Nat → Nat} {K : Nat → ClassId} {res : qS} {p : Program} {e : Env} {s : State} {m : MethodId} {args : Array Value} {below : List Frame} {meth : Method} {c : Code} {A : Nat → Prop} {ad : Nat → Nat} (C : qC p s m args meth c qm_Cd_count_c 9 none qR_Cd ad) (S : qS) (y1 : Int32) (y2 : Int32) (y3 : Int32) (hf : fCd_count_210 S y1 y2 y3 = some res) : ∀ (H : Heap) (locs : List Loc) (ls : Array Slot), qG D qCl (cT K) A s (cW h K S) H locs → lv_has ls 9 [] → W p l e ({ frames := 4, cells := 0, slots := 0, locals := 99 }) s m args below meth c H locs 0 0 (MQ below (qQv D qCl (cT K) (cW h K) A res) args s 0 0 A) (F0 m 210 ls [.int y3, .int y2, .int y1, .ref (h 5)]) := by
  intro H locs ls G hl
  unfold fCd_count_210 at hf
  refine lv_iadd C.1 C.2.1 qm_Cd_count_210 ?_
  obtain ⟨S1, c1, hf⟩ := bnd_s hf
  refine q_callVv (wf := (cW h K)) (n := 2) (As := [.int y1, .int (y2 + y3)]) (q0 := 5) (ci := 1) C G hl.1 (kCo_put (l := l) c1) qx_Cd_92 qm_Co_put_d ⟨by decide, by decide⟩ ⟨Nat.le_refl _, Nat.le_refl _⟩ rfl rfl rfl rfl rfl (Nat.le_of_ble_eq_true rfl) qm_Cd_count_211 (fun H locs G => ?_)
  exact wCd_count_214 C S1 hf _ _ _ G (lv_sub hl [] rfl)
set_option maxHeartbeats 4000000 in
set_option maxRecDepth 100000 in
theorem wCd_count_174 {l : Launch} {D : va_G} {h : Nat → Nat} {K : Nat → ClassId} {res : qS} {p : Program} {e : Env} {s : State} {m : MethodId} {args : Array Value} {below : List Frame} {meth : Method} {c : Code} {A : Nat → Prop} {ad : Nat → Nat} (C : qC p s m args meth c qm_Cd_count_c 9 none qR_Cd ad) (S : qS) (x2 : Int32) (hf : fCd_count_174 S x2 = some res) : ∀ (H : Heap) (locs : List Loc) (ls : Array Slot), qG D qCl (cT K) A s (cW h K S) H locs → lv_has ls 9 [(0, .ref (h 16)), (2, .int x2)] → W p l e ({ frames := 4, cells := 0, slots := 0, locals := 99 }) s m args below meth c H locs 0 0 (MQ below (qQv D qCl (cT K) (cW h K) A res) args s 0 0 A) (F0 m 174 ls []) := by
  intro H locs ls G hl
  unfold fCd_count_174 at hf
  refine lv_aload_n C.1 C.2.1 qm_Cd_count_174 rfl (lv_at hl 0 rfl) ?_
  refine q_get (wf := (cW h K)) (v := .ref (h 5)) C G qi_Cd 16 rfl rfl 0 (by decide) qz_218 rfl qm_Cd_count_175 ?_
  refine lv_bipush (v := 15) C.1 C.2.1 qm_Cd_count_178 (by decide) ?_
  refine lv_aload_n C.1 C.2.1 qm_Cd_count_180 rfl (lv_at hl 0 rfl) ?_
  refine q_get (wf := (cW h K)) (v := .ref (h 5)) C G qi_Cd 16 rfl rfl 0 (by decide) qz_218 rfl qm_Cd_count_181 ?_
  refine lv_bipush (v := 15) C.1 C.2.1 qm_Cd_count_184 (by decide) ?_
  obtain ⟨q1, c1, hf⟩ := bnd_s hf
  refine q_callVi (wf := (cW h K)) (n := 1) (As := [.int 15]) (q0 := 5) (ci := 1) C G hl.1 (kCo_get (l := l) c1) qx_Cd_169 qm_Co_get_d ⟨by decide, by decide⟩ ⟨Nat.le_refl _, Nat.le_refl _⟩ rfl rfl rfl rfl rfl (Nat.le_of_ble_eq_true rfl) qm_Cd_count_186 (fun H locs G => ?_)
  refine lv_iload_n C.1 C.2.1 qm_Cd_count_189 rfl (lv_at hl 1 rfl) ?_
  refine lv_if_eq (tgt := 203) C.1 C.2.1 qm_Cd_count_190 (by decide) (fun b2 => ?_) (fun b2 => ?_)
  · have hf := if_t b2 hf
    refine lv_aload_n C.1 C.2.1 qm_Cd_count_203 rfl (lv_at hl 0 rfl) ?_
    refine q_get (wf := (cW h K)) (v := .ref (h 14)) C G qi_Cd 16 rfl rfl 3 (by decide) qz_221 rfl qm_Cd_count_204 ?_
    refine q_getN (host := "QuadMode") (wf := (cW h K)) (v := .int (q1.2.1 22)) C G qi_Op 14 rfl rfl 3 (by decide) (by decide +kernel) rfl qm_Cd_count_207 ?_
    exact wCd_count_210 C q1.2 15 q1.1 (q1.2.1 22) hf _ _ _ G (lv_sub hl [] rfl)
  · have hf := if_f b2 hf
    refine lv_aload_n C.1 C.2.1 qm_Cd_count_193 rfl (lv_at hl 0 rfl) ?_
    refine q_get (wf := (cW h K)) (v := .ref (h 13)) C G qi_Cd 16 rfl rfl 2 (by decide) qz_220 rfl qm_Cd_count_194 ?_
    refine q_getN (host := "QuadMode") (wf := (cW h K)) (v := .int (q1.2.1 18)) C G qi_Op 13 rfl rfl 3 (by decide) (by decide +kernel) rfl qm_Cd_count_197 ?_
    refine lv_goto (tgt := 210) C.1 C.2.1 qm_Cd_count_200 (by decide) ?_
    exact wCd_count_210 C q1.2 15 q1.1 (q1.2.1 18) hf _ _ _ G (lv_sub hl [] rfl)
set_option maxHeartbeats 4000000 in
set_option maxRecDepth 100000 in
theorem wCd_count_162 {l : Launch} {D : va_G} {h : Nat → Nat} {K : Nat → ClassId} {res : qS} {p : Program} {e : Env} {s : State} {m : MethodId} {args : Array Value} {below : List Frame} {meth : Method} {c : Code} {A : Nat → Prop} {ad : Nat → Nat} (C : qC p s m args meth c qm_Cd_count_c 9 none qR_Cd ad) (S : qS) (x2 : Int32) (x7 : Int32) (y0 : Int32) (hf : fCd_count_162 S x2 x7 y0 = some res) : ∀ (H : Heap) (locs : List Loc) (ls : Array Slot), qG D qCl (cT K) A s (cW h K S) H locs → lv_has ls 9 [(0, .ref (h 16)), (2, .int x2), (7, .int x7)] → W p l e ({ frames := 4, cells := 0, slots := 0, locals := 99 }) s m args below meth c H locs 0 0 (MQ below (qQv D qCl (cT K) (cW h K) A res) args s 0 0 A) (F0 m 162 ls [.int y0]) := by
  intro H locs ls G hl
  unfold fCd_count_162 at hf
  refine lv_istore (lv' := [(8, .int y0), (0, .ref (h 16)), (2, .int x2), (7, .int x7)]) C.1 C.2.1 qm_Cd_count_162 hl (by decide) rfl (fun ls hl => ?_)
  refine lv_iload C.1 C.2.1 qm_Cd_count_164 (lv_at hl 3 rfl) ?_
  refine lv_if_ne (tgt := 174) C.1 C.2.1 qm_Cd_count_166 (by decide) (fun b1 => ?_) (fun b1 => ?_)
  · have hf := if_t b1 hf
    exact wCd_count_174 C S x2 hf _ _ _ G (lv_sub hl [1, 2] rfl)
  · have hf := if_f (not_not_intro b1) hf
    refine lv_iload C.1 C.2.1 qm_Cd_count_169 (lv_at hl 0 rfl) ?_
    refine lv_if_eq (tgt := 214) C.1 C.2.1 qm_Cd_count_171 (by decide) (fun b2 => ?_) (fun b2 => ?_)
    · have hf := if_t b2 hf
      exact wCd_count_214 C S hf _ _ _ G (lv_sub hl [] rfl)
    · have hf := if_f b2 hf
      exact wCd_count_174 C S x2 hf _ _ _ G (lv_sub hl [1, 2] rfl)
set_option maxHeartbeats 4000000 in
set_option maxRecDepth 100000 in
theorem wCd_count_161 {l : Launch} {D : va_G} {h : Nat → Nat} {K : Nat → ClassId} {res : qS} {p : Program} {e : Env} {s : State} {m : MethodId} {args : Array Value} {below : List Frame} {meth : Method} {c : Code} {A : Nat → Prop} {ad : Nat → Nat} (C : qC p s m args meth c qm_Cd_count_c 9 none qR_Cd ad) (S : qS) (x2 : Int32) (x7 : Int32) (hf : fCd_count_161 S x2 x7 = some res) : ∀ (H : Heap) (locs : List Loc) (ls : Array Slot), qG D qCl (cT K) A s (cW h K S) H locs → lv_has ls 9 [(0, .ref (h 16)), (2, .int x2), (7, .int x7)] → W p l e ({ frames := 4, cells := 0, slots := 0, locals := 99 }) s m args below meth c H locs 0 0 (MQ below (qQv D qCl (cT K) (cW h K) A res) args s 0 0 A) (F0 m 161 ls []) := by
  intro H locs ls G hl
  unfold fCd_count_161 at hf
  refine lv_iconst (v := 0) C.1 C.2.1 qm_Cd_count_161 (by decide) ?_
  exact wCd_count_162 C S x2 x7 0 hf _ _ _ G (lv_sub hl [0, 1, 2] rfl)
set_option maxHeartbeats 4000000 in
set_option maxRecDepth 100000 in
theorem wCd_count_154 {l : Launch} {D : va_G} {h : Nat → Nat} {K : Nat → ClassId} {res : qS} {p : Program} {e : Env} {s : State} {m : MethodId} {args : Array Value} {below : List Frame} {meth : Method} {c : Code} {A : Nat → Prop} {ad : Nat → Nat} (C : qC p s m args meth c qm_Cd_count_c 9 none qR_Cd ad) (S : qS) (x2 : Int32) (x7 : Int32) (y0 : Int32) (y1 : Int32) (hf : fCd_count_154 S x2 x7 y0 y1 = some res) : ∀ (H : Heap) (locs : List Loc) (ls : Array Slot), qG D qCl (cT K) A s (cW h K S) H locs → lv_has ls 9 [(0, .ref (h 16)), (2, .int x2), (7, .int x7)] → W p l e ({ frames := 4, cells := 0, slots := 0, locals := 99 }) s m args below meth c H locs 0 0 (MQ below (qQv D qCl (cT K) (cW h K) A res) args s 0 0 A) (F0 m 154 ls [.int y1, .int y0]) := by
  intro H locs ls G hl
  unfold fCd_count_154 at hf
  refine lv_icmp_ne (tgt := 161) C.1 C.2.1 qm_Cd_count_154 (by decide) (fun b1 => ?_) (fun b1 => ?_)
  · have hf := if_t b1 hf
    exact wCd_count_161 C S x2 x7 hf _ _ _ G (lv_sub hl [0, 1, 2] rfl)
  · have hf := if_f (not_not_intro b1) hf
    refine lv_iconst (v := 1) C.1 C.2.1 qm_Cd_count_157 (by decide) ?_
    refine lv_goto (tgt := 162) C.1 C.2.1 qm_Cd_count_158 (by decide) ?_
    exact wCd_count_162 C S x2 x7 1 hf _ _ _ G (lv_sub hl [0, 1, 2] rfl)
set_option maxHeartbeats 4000000 in
set_option maxRecDepth 100000 in
theorem wCd_count_128 {l : Launch} {D : va_G} {h : Nat → Nat} {K : Nat → ClassId} {res : qS} {p : Program} {e : Env} {s : State} {m : MethodId} {args : Array Value} {below : List Frame} {meth : Method} {c : Code} {A : Nat → Prop} {ad : Nat → Nat} (C : qC p s m args meth c qm_Cd_count_c 9 none qR_Cd ad) (S : qS) (x1 : Int32) (x2 : Int32) (x6 : Int32) (y0 : Int32) (hf : fCd_count_128 S x1 x2 x6 y0 = some res) : ∀ (H : Heap) (locs : List Loc) (ls : Array Slot), qG D qCl (cT K) A s (cW h K S) H locs → lv_has ls 9 [(0, .ref (h 16)), (1, .int x1), (2, .int x2), (6, .int x6)] → W p l e ({ frames := 4, cells := 0, slots := 0, locals := 99 }) s m args below meth c H locs 0 0 (MQ below (qQv D qCl (cT K) (cW h K) A res) args s 0 0 A) (F0 m 128 ls [.int y0]) := by
  intro H locs ls G hl
  unfold fCd_count_128 at hf
  refine lv_istore (lv' := [(7, .int y0), (0, .ref (h 16)), (1, .int x1), (2, .int x2), (6, .int x6)]) C.1 C.2.1 qm_Cd_count_128 hl (by decide) rfl (fun ls hl => ?_)
  refine lv_iload_n C.1 C.2.1 qm_Cd_count_130 rfl (lv_at hl 2 rfl) ?_
  refine lv_iconst (v := 1) C.1 C.2.1 qm_Cd_count_131 (by decide) ?_
  refine lv_iand C.1 C.2.1 qm_Cd_count_132 ?_
  refine lv_iconst (v := 1) C.1 C.2.1 qm_Cd_count_133 (by decide) ?_
  refine lv_icmp_ne (tgt := 161) C.1 C.2.1 qm_Cd_count_134 (by decide) (fun b1 => ?_) (fun b1 => ?_)
  · have hf := if_t b1 hf
    exact wCd_count_161 C S x2 y0 hf _ _ _ G (lv_sub hl [1, 3, 0] rfl)
  · have hf := if_f (not_not_intro b1) hf
    refine lv_iload C.1 C.2.1 qm_Cd_count_137 (lv_at hl 4 rfl) ?_
    refine lv_iload_n C.1 C.2.1 qm_Cd_count_139 rfl (lv_at hl 3 rfl) ?_
    refine lv_if_eq (tgt := 147) C.1 C.2.1 qm_Cd_count_140 (by decide) (fun b2 => ?_) (fun b2 => ?_)
    · have hf := if_t b2 hf
      refine lv_aload_n C.1 C.2.1 qm_Cd_count_147 rfl (lv_at hl 1 rfl) ?_
      refine q_get (wf := (cW h K)) (v := .ref (h 12)) C G qi_Cd 16 rfl rfl 1 (by decide) qz_219 rfl qm_Cd_count_148 ?_
      refine q_getN (host := "QuadMode") (wf := (cW h K)) (v := .int (S.1 14)) C G qi_Op 12 rfl rfl 3 (by decide) (by decide +kernel) rfl qm_Cd_count_151 ?_
      exact wCd_count_154 C S x2 y0 x6 (S.1 14) hf _ _ _ G (lv_sub hl [1, 3, 0] rfl)
    · have hf := if_f b2 hf
      refine lv_iconst (v := 0) C.1 C.2.1 qm_Cd_count_143 (by decide) ?_
      refine lv_goto (tgt := 154) C.1 C.2.1 qm_Cd_count_144 (by decide) ?_
      exact wCd_count_154 C S x2 y0 x6 0 hf _ _ _ G (lv_sub hl [1, 3, 0] rfl)
set_option maxHeartbeats 4000000 in
set_option maxRecDepth 100000 in
theorem wCd_count_76 {l : Launch} {D : va_G} {h : Nat → Nat} {K : Nat → ClassId} {res : qS} {p : Program} {e : Env} {s : State} {m : MethodId} {args : Array Value} {below : List Frame} {meth : Method} {c : Code} {A : Nat → Prop} {ad : Nat → Nat} (C : qC p s m args meth c qm_Cd_count_c 9 none qR_Cd ad) (S : qS) (x1 : Int32) (x2 : Int32) (k3 : Nat) (x6 : Int32) (y1 : Int32) (y2 : Int32) (hf : fCd_count_76 S x1 x2 k3 x6 y1 y2 = some res) : k3 < 3 → ∀ (H : Heap) (locs : List Loc) (ls : Array Slot), qG D qCl (cT K) A s (cW h K S) H locs → lv_has ls 9 [(0, .ref (h 16)), (1, .int x1), (2, .int x2), (3, .ref (h (12 + k3))), (6, .int x6)] → W p l e ({ frames := 4, cells := 0, slots := 0, locals := 99 }) s m args below meth c H locs 0 0 (MQ below (qQv D qCl (cT K) (cW h K) A res) args s 0 0 A) (F0 m 76 ls [.int y2, .int y1, .ref (h 5)]) := by
  intro hk3 H locs ls G hl
  unfold fCd_count_76 at hf
  refine lv_aload_n C.1 C.2.1 qm_Cd_count_76 rfl (lv_at hl 0 rfl) ?_
  refine q_get (wf := (cW h K)) (v := .ref (h 5)) C G qi_Cd 16 rfl rfl 0 (by decide) qz_218 rfl qm_Cd_count_77 ?_
  refine lv_iconst (v := 1) C.1 C.2.1 qm_Cd_count_80 (by decide) ?_
  obtain ⟨q1, c1, hf⟩ := bnd_s hf
  refine q_callVi (wf := (cW h K)) (n := 1) (As := [.int 1]) (q0 := 5) (ci := 1) C G hl.1 (kCo_has (l := l) c1) qx_Cd_152 qm_Co_has_d ⟨by decide, by decide⟩ ⟨Nat.le_refl _, Nat.le_refl _⟩ rfl rfl rfl rfl rfl (Nat.le_of_ble_eq_true rfl) qm_Cd_count_81 (fun H locs G => ?_)
  obtain ⟨S2, c2, hf⟩ := bnd_s hf
  refine q_callVv (wf := (cW h K)) (n := 3) (As := [.int y1, .int y2, .int q1.1]) (q0 := 5) (ci := 1) C G hl.1 (kCo_conclude (l := l) c2) qx_Cd_183 qm_Co_conclude_d ⟨by decide, by decide⟩ ⟨Nat.le_refl _, Nat.le_refl _⟩ rfl rfl rfl rfl rfl (Nat.le_of_ble_eq_true rfl) qm_Cd_count_84 (fun H locs G => ?_)
  refine lv_aload_n C.1 C.2.1 qm_Cd_count_87 rfl (lv_at hl 0 rfl) ?_
  refine lv_aload_n C.1 C.2.1 qm_Cd_count_88 rfl (lv_at hl 3 rfl) ?_
  refine lv_iload C.1 C.2.1 qm_Cd_count_89 (lv_at hl 4 rfl) ?_
  obtain ⟨S3, c3, hf⟩ := bnd_s hf
  refine q_callVv (wf := (cW h K)) (n := 2) (As := [.ref (h (12 + k3)), .int x6]) (q0 := 16) (ci := 0) C G hl.1 (kCd_store (l := l) c3 hk3) qx_Cd_111 qm_Cd_store_d ⟨by decide, by decide⟩ ⟨Nat.le_refl _, Nat.le_refl _⟩ rfl rfl rfl rfl rfl (Nat.le_of_ble_eq_true rfl) qm_Cd_count_91 (fun H locs G => ?_)
  refine lv_iload_n C.1 C.2.1 qm_Cd_count_94 rfl (lv_at hl 2 rfl) ?_
  refine lv_if_eq (tgt := 111) C.1 C.2.1 qm_Cd_count_95 (by decide) (fun b4 => ?_) (fun b4 => ?_)
  · have hf := if_t b4 hf
    refine lv_iload C.1 C.2.1 qm_Cd_count_111 (lv_at hl 4 rfl) ?_
    refine lv_aload_n C.1 C.2.1 qm_Cd_count_113 rfl (lv_at hl 0 rfl) ?_
    refine q_get (wf := (cW h K)) (v := .ref (h 12)) C G qi_Cd 16 rfl rfl 1 (by decide) qz_219 rfl qm_Cd_count_114 ?_
    refine q_getN (host := "QuadMode") (wf := (cW h K)) (v := .int (S3.1 14)) C G qi_Op 12 rfl rfl 3 (by decide) (by decide +kernel) rfl qm_Cd_count_117 ?_
    refine lv_icmp_ge (tgt := 127) C.1 C.2.1 qm_Cd_count_120 (by decide) (fun b5 => ?_) (fun b5 => ?_)
    · have hf := if_t b5 hf
      refine lv_iconst (v := 0) C.1 C.2.1 qm_Cd_count_127 (by decide) ?_
      exact wCd_count_128 C S3 x1 x2 x6 0 hf _ _ _ G (lv_sub hl [0, 1, 2, 4] rfl)
    · have hf := if_f b5 hf
      refine lv_iconst (v := 1) C.1 C.2.1 qm_Cd_count_123 (by decide) ?_
      refine lv_goto (tgt := 128) C.1 C.2.1 qm_Cd_count_124 (by decide) ?_
      exact wCd_count_128 C S3 x1 x2 x6 1 hf _ _ _ G (lv_sub hl [0, 1, 2, 4] rfl)
  · have hf := if_f b4 hf
    refine lv_iload C.1 C.2.1 qm_Cd_count_98 (lv_at hl 4 rfl) ?_
    refine lv_if_le (tgt := 107) C.1 C.2.1 qm_Cd_count_100 (by decide) (fun b6 => ?_) (fun b6 => ?_)
    · have hf := if_t b6 hf
      refine lv_iconst (v := 0) C.1 C.2.1 qm_Cd_count_107 (by decide) ?_
      refine lv_goto (tgt := 128) C.1 C.2.1 qm_Cd_count_108 (by decide) ?_
      exact wCd_count_128 C S3 x1 x2 x6 0 hf _ _ _ G (lv_sub hl [0, 1, 2, 4] rfl)
    · have hf := if_f b6 hf
      refine lv_iconst (v := 1) C.1 C.2.1 qm_Cd_count_103 (by decide) ?_
      refine lv_goto (tgt := 128) C.1 C.2.1 qm_Cd_count_104 (by decide) ?_
      exact wCd_count_128 C S3 x1 x2 x6 1 hf _ _ _ G (lv_sub hl [0, 1, 2, 4] rfl)
set_option maxHeartbeats 4000000 in
set_option maxRecDepth 100000 in
theorem wCd_count_49 {l : Launch} {D : va_G} {h : Nat → Nat} {K : Nat → ClassId} {res : qS} {p : Program} {e : Env} {s : State} {m : MethodId} {args : Array Value} {below : List Frame} {meth : Method} {c : Code} {A : Nat → Prop} {ad : Nat → Nat} (C : qC p s m args meth c qm_Cd_count_c 9 none qR_Cd ad) (S : qS) (x1 : Int32) (x2 : Int32) (k3 : Nat) (y0 : Int64) (hf : fCd_count_49 S x1 x2 k3 y0 = some res) : k3 < 3 → ∀ (H : Heap) (locs : List Loc) (ls : Array Slot), qG D qCl (cT K) A s (cW h K S) H locs → lv_has ls 9 [(0, .ref (h 16)), (1, .int x1), (2, .int x2), (3, .ref (h (12 + k3)))] → W p l e ({ frames := 4, cells := 0, slots := 0, locals := 99 }) s m args below meth c H locs 0 0 (MQ below (qQv D qCl (cT K) (cW h K) A res) args s 0 0 A) (F0 m 49 ls [.long y0]) := by
  intro hk3 H locs ls G hl
  unfold fCd_count_49 at hf
  refine lv_lstore (lv' := [(4, .long y0), (0, .ref (h 16)), (1, .int x1), (2, .int x2), (3, .ref (h (12 + k3)))]) C.1 C.2.1 qm_Cd_count_49 hl (by decide) rfl (fun ls hl => ?_)
  refine lv_lload C.1 C.2.1 qm_Cd_count_51 (lv_at hl 0 rfl) ?_
  refine lv_l2i (v := y0.toInt32) C.1 C.2.1 qm_Cd_count_53 rfl ?_
  refine lv_istore (lv' := [(6, .int y0.toInt32), (4, .long y0), (0, .ref (h 16)), (1, .int x1), (2, .int x2), (3, .ref (h (12 + k3)))]) C.1 C.2.1 qm_Cd_count_54 hl (by decide) rfl (fun ls hl => ?_)
  refine lv_aload_n C.1 C.2.1 qm_Cd_count_56 rfl (lv_at hl 2 rfl) ?_
  refine q_get (wf := (cW h K)) (v := .ref (h 5)) C G qi_Cd 16 rfl rfl 0 (by decide) qz_218 rfl qm_Cd_count_57 ?_
  refine lv_iload C.1 C.2.1 qm_Cd_count_60 (lv_at hl 0 rfl) ?_
  refine lv_lload C.1 C.2.1 qm_Cd_count_62 (lv_at hl 1 rfl) ?_
  refine lv_iload C.1 C.2.1 qm_Cd_count_64 (lv_at hl 0 rfl) ?_
  refine lv_i2l (v := y0.toInt32.toInt64) C.1 C.2.1 qm_Cd_count_66 rfl ?_
  refine W.lcmp C.1 C.2.1 qm_Cd_count_67 ?_
  refine lv_if_eq (tgt := 75) C.1 C.2.1 qm_Cd_count_68 (by decide) (fun b1 => ?_) (fun b1 => ?_)
  · have hf := if_t b1 hf
    refine lv_iconst (v := 0) C.1 C.2.1 qm_Cd_count_75 (by decide) ?_
    exact wCd_count_76 C S x1 x2 k3 y0.toInt32 y0.toInt32 0 hf hk3 _ _ _ G (lv_sub hl [2, 3, 4, 5, 0] rfl)
  · have hf := if_f b1 hf
    refine lv_iconst (v := 1) C.1 C.2.1 qm_Cd_count_71 (by decide) ?_
    refine lv_goto (tgt := 76) C.1 C.2.1 qm_Cd_count_72 (by decide) ?_
    exact wCd_count_76 C S x1 x2 k3 y0.toInt32 y0.toInt32 1 hf hk3 _ _ _ G (lv_sub hl [2, 3, 4, 5, 0] rfl)
set_option maxHeartbeats 4000000 in
set_option maxRecDepth 100000 in
theorem wCd_count_27 {l : Launch} {D : va_G} {h : Nat → Nat} {K : Nat → ClassId} {res : qS} {p : Program} {e : Env} {s : State} {m : MethodId} {args : Array Value} {below : List Frame} {meth : Method} {c : Code} {A : Nat → Prop} {ad : Nat → Nat} (C : qC p s m args meth c qm_Cd_count_c 9 none qR_Cd ad) (S : qS) (x1 : Int32) (x2 : Int32) (ky0 : Nat) (hf : fCd_count_27 S x1 x2 ky0 = some res) : ky0 < 3 → ∀ (H : Heap) (locs : List Loc) (ls : Array Slot), qG D qCl (cT K) A s (cW h K S) H locs → lv_has ls 9 [(0, .ref (h 16)), (1, .int x1), (2, .int x2)] → W p l e ({ frames := 4, cells := 0, slots := 0, locals := 99 }) s m args below meth c H locs 0 0 (MQ below (qQv D qCl (cT K) (cW h K) A res) args s 0 0 A) (F0 m 27 ls [.ref (h (12 + ky0))]) := by
  intro hky0 H locs ls G hl
  unfold fCd_count_27 at hf
  refine lv_astore_n (lv' := [(3, .ref (h (12 + ky0))), (0, .ref (h 16)), (1, .int x1), (2, .int x2)]) C.1 C.2.1 qm_Cd_count_27 rfl hl (by decide) rfl (fun ls hl => ?_)
  refine lv_iload_n C.1 C.2.1 qm_Cd_count_28 rfl (lv_at hl 3 rfl) ?_
  refine lv_if_eq (tgt := 42) C.1 C.2.1 qm_Cd_count_29 (by decide) (fun b1 => ?_) (fun b1 => ?_)
  · have hf := if_t b1 hf
    refine lv_aload_n C.1 C.2.1 qm_Cd_count_42 rfl (lv_at hl 0 rfl) ?_
    refine q_getN (host := "QuadMode") (wf := (cW h K)) (v := .int (S.1 (14 + 4 * ky0))) C G qi_Op (12 + ky0) (cW_op ky0 hky0) rfl 3 (by decide) (by decide +kernel) rfl qm_Cd_count_43 ?_
    refine lv_i2l (v := (S.1 (14 + 4 * ky0)).toInt64) C.1 C.2.1 qm_Cd_count_46 rfl ?_
    refine lv_lconst (v := 1) C.1 C.2.1 qm_Cd_count_47 (by decide) ?_
    refine lv_ladd C.1 C.2.1 qm_Cd_count_48 ?_
    exact wCd_count_49 C S x1 x2 ky0 (((S.1 (14 + 4 * ky0)).toInt64) + 1) hf hky0 _ _ _ G (lv_sub hl [1, 2, 3, 0] rfl)
  · have hf := if_f b1 hf
    refine lv_aload_n C.1 C.2.1 qm_Cd_count_32 rfl (lv_at hl 0 rfl) ?_
    refine q_getN (host := "QuadMode") (wf := (cW h K)) (v := .int (S.1 (14 + 4 * ky0))) C G qi_Op (12 + ky0) (cW_op ky0 hky0) rfl 3 (by decide) (by decide +kernel) rfl qm_Cd_count_33 ?_
    refine lv_i2l (v := (S.1 (14 + 4 * ky0)).toInt64) C.1 C.2.1 qm_Cd_count_36 rfl ?_
    refine lv_lconst (v := 1) C.1 C.2.1 qm_Cd_count_37 (by decide) ?_
    refine lv_lsub C.1 C.2.1 qm_Cd_count_38 ?_
    refine lv_goto (tgt := 49) C.1 C.2.1 qm_Cd_count_39 (by decide) ?_
    exact wCd_count_49 C S x1 x2 ky0 (((S.1 (14 + 4 * ky0)).toInt64) - 1) hf hky0 _ _ _ G (lv_sub hl [1, 2, 3, 0] rfl)
set_option maxHeartbeats 4000000 in
set_option maxRecDepth 100000 in
theorem wCd_count_11 {l : Launch} {D : va_G} {h : Nat → Nat} {K : Nat → ClassId} {res : qS} {p : Program} {e : Env} {s : State} {m : MethodId} {args : Array Value} {below : List Frame} {meth : Method} {c : Code} {A : Nat → Prop} {ad : Nat → Nat} (C : qC p s m args meth c qm_Cd_count_c 9 none qR_Cd ad) (S : qS) (x1 : Int32) (y0 : Int32) (hf : fCd_count_11 S x1 y0 = some res) : ∀ (H : Heap) (locs : List Loc) (ls : Array Slot), qG D qCl (cT K) A s (cW h K S) H locs → lv_has ls 9 [(0, .ref (h 16)), (1, .int x1)] → W p l e ({ frames := 4, cells := 0, slots := 0, locals := 99 }) s m args below meth c H locs 0 0 (MQ below (qQv D qCl (cT K) (cW h K) A res) args s 0 0 A) (F0 m 11 ls [.int y0]) := by
  intro H locs ls G hl
  unfold fCd_count_11 at hf
  refine lv_istore_n (lv' := [(2, .int y0), (0, .ref (h 16)), (1, .int x1)]) C.1 C.2.1 qm_Cd_count_11 rfl hl (by decide) rfl (fun ls hl => ?_)
  refine lv_iload_n C.1 C.2.1 qm_Cd_count_12 rfl (lv_at hl 0 rfl) ?_
  refine lv_if_eq (tgt := 23) C.1 C.2.1 qm_Cd_count_13 (by decide) (fun b1 => ?_) (fun b1 => ?_)
  · have hf := if_t b1 hf
    refine lv_aload_n C.1 C.2.1 qm_Cd_count_23 rfl (lv_at hl 1 rfl) ?_
    refine q_get (wf := (cW h K)) (v := .ref (h 13)) C G qi_Cd 16 rfl rfl 2 (by decide) qz_220 rfl qm_Cd_count_24 ?_
    exact wCd_count_27 C S x1 y0 1 hf (by decide) _ _ _ G (lv_sub hl [1, 2, 0] rfl)
  · have hf := if_f b1 hf
    refine lv_aload_n C.1 C.2.1 qm_Cd_count_16 rfl (lv_at hl 1 rfl) ?_
    refine q_get (wf := (cW h K)) (v := .ref (h 12)) C G qi_Cd 16 rfl rfl 1 (by decide) qz_219 rfl qm_Cd_count_17 ?_
    refine lv_goto (tgt := 27) C.1 C.2.1 qm_Cd_count_20 (by decide) ?_
    exact wCd_count_27 C S x1 y0 0 hf (by decide) _ _ _ G (lv_sub hl [1, 2, 0] rfl)
set_option maxHeartbeats 4000000 in
set_option maxRecDepth 100000 in
theorem wCd_count {l : Launch} {D : va_G} {h : Nat → Nat} {K : Nat → ClassId} {res : qS} {p : Program} {e : Env} {s : State} {m : MethodId} {args : Array Value} {below : List Frame} {meth : Method} {c : Code} {A : Nat → Prop} {ad : Nat → Nat} (C : qC p s m args meth c qm_Cd_count_c 9 none qR_Cd ad) (S : qS) (a1 : Int32) (hf : fCd_count S a1 = some res) : ∀ (H : Heap) (locs : List Loc) (ls : Array Slot), qG D qCl (cT K) A s (cW h K S) H locs → lv_has ls 9 [(0, .ref (h 16)), (1, .int a1)] → W p l e ({ frames := 4, cells := 0, slots := 0, locals := 99 }) s m args below meth c H locs 0 0 (MQ below (qQv D qCl (cT K) (cW h K) A res) args s 0 0 A) (F0 m 0 ls []) := by
  intro H locs ls G hl
  unfold fCd_count at hf
  refine lv_iload_n C.1 C.2.1 qm_Cd_count_0 rfl (lv_at hl 1 rfl) ?_
  refine lv_bipush (v := 66) C.1 C.2.1 qm_Cd_count_1 (by decide) ?_
  refine lv_icmp_ge (tgt := 10) C.1 C.2.1 qm_Cd_count_3 (by decide) (fun b1 => ?_) (fun b1 => ?_)
  · have hf := if_t b1 hf
    refine lv_iconst (v := 0) C.1 C.2.1 qm_Cd_count_10 (by decide) ?_
    exact wCd_count_11 C S a1 0 hf _ _ _ G (lv_sub hl [0, 1] rfl)
  · have hf := if_f b1 hf
    refine lv_iconst (v := 1) C.1 C.2.1 qm_Cd_count_6 (by decide) ?_
    refine lv_goto (tgt := 11) C.1 C.2.1 qm_Cd_count_7 (by decide) ?_
    exact wCd_count_11 C S a1 1 hf _ _ _ G (lv_sub hl [0, 1] rfl)
theorem kCd_count {l : Launch} {ad : Nat → Nat} {D : va_G} {h : Nat → Nat} {K : Nat → ClassId} {res : qS} {S : qS} {a1 : Int32} (hf : fCd_count S a1 = some res) : qMv l qm_Cd_count qm_Cd_count_c 9 4 99 D qCl (cT K) ad (cW h K) [.ref (h 16), .int a1] S res := qMv_of (by decide) (Nat.le_of_ble_eq_true rfl) (fun _ _ _ _ _ _ _ _ _ _ C G hl => wCd_count C S a1 hf _ _ _ G hl)
set_option maxHeartbeats 4000000 in
set_option maxRecDepth 100000 in
theorem wCd_noteOverflow_75 {l : Launch} {D : va_G} {h : Nat → Nat} {K : Nat → ClassId} {res : qS} {p : Program} {e : Env} {s : State} {m : MethodId} {args : Array Value} {below : List Frame} {meth : Method} {c : Code} {A : Nat → Prop} {ad : Nat → Nat} (C : qC p s m args meth c qm_Cd_noteOverflow_c 3 none qR_Cd ad) (S : qS) (hf : fCd_noteOverflow_75 S = some res) : ∀ (H : Heap) (locs : List Loc) (ls : Array Slot), qG D qCl (cT K) A s (cW h K S) H locs → lv_has ls 3 [] → W p l e ({ frames := 1, cells := 0, slots := 0, locals := 21 }) s m args below meth c H locs 0 0 (MQ below (qQv D qCl (cT K) (cW h K) A res) args s 0 0 A) (F0 m 75 ls []) := by
  intro H locs ls G hl
  unfold fCd_noteOverflow_75 at hf
  exact q_vret (wf := (cW h K)) C G hf qm_Cd_noteOverflow_75
set_option maxHeartbeats 4000000 in
set_option maxRecDepth 100000 in
theorem wCd_noteOverflow_29 {l : Launch} {D : va_G} {h : Nat → Nat} {K : Nat → ClassId} {res : qS} {p : Program} {e : Env} {s : State} {m : MethodId} {args : Array Value} {below : List Frame} {meth : Method} {c : Code} {A : Nat → Prop} {ad : Nat → Nat} (C : qC p s m args meth c qm_Cd_noteOverflow_c 3 none qR_Cd ad) (S : qS) (y0 : Int32) (hf : fCd_noteOverflow_29 S y0 = some res) : ∀ (H : Heap) (locs : List Loc) (ls : Array Slot), qG D qCl (cT K) A s (cW h K S) H locs → lv_has ls 3 [(0, .ref (h 16))] → W p l e ({ frames := 1, cells := 0, slots := 0, locals := 21 }) s m args below meth c H locs 0 0 (MQ below (qQv D qCl (cT K) (cW h K) A res) args s 0 0 A) (F0 m 29 ls [.int y0]) := by
  intro H locs ls G hl
  unfold fCd_noteOverflow_29 at hf
  refine lv_istore_n (lv' := [(2, .int y0), (0, .ref (h 16))]) C.1 C.2.1 qm_Cd_noteOverflow_29 rfl hl (by decide) rfl (fun ls hl => ?_)
  refine lv_iload_n C.1 C.2.1 qm_Cd_noteOverflow_30 rfl (lv_at hl 0 rfl) ?_
  refine lv_if_eq (tgt := 75) C.1 C.2.1 qm_Cd_noteOverflow_31 (by decide) (fun b1 => ?_) (fun b1 => ?_)
  · have hf := if_t b1 hf
    exact wCd_noteOverflow_75 C S hf _ _ _ G (lv_sub hl [] rfl)
  · have hf := if_f b1 hf
    refine lv_aload_n C.1 C.2.1 qm_Cd_noteOverflow_34 rfl (lv_at hl 1 rfl) ?_
    refine q_get (wf := (cW h K)) (v := .ref (h 5)) C G qi_Cd 16 rfl rfl 0 (by decide) qz_218 rfl qm_Cd_noteOverflow_35 ?_
    refine q_getN (host := "QuadMode") (wf := (cW h K)) (v := .int (S.1 10)) C G qi_Co 5 rfl rfl 13 (by decide) (by decide +kernel) rfl qm_Cd_noteOverflow_38 ?_
    refine lv_if_ne (tgt := 75) C.1 C.2.1 qm_Cd_noteOverflow_41 (by decide) (fun b2 => ?_) (fun b2 => ?_)
    · have hf := if_t b2 hf
      exact wCd_noteOverflow_75 C S hf _ _ _ G (lv_sub hl [] rfl)
    · have hf := if_f (not_not_intro b2) hf
      refine lv_aload_n C.1 C.2.1 qm_Cd_noteOverflow_44 rfl (lv_at hl 1 rfl) ?_
      refine q_get (wf := (cW h K)) (v := .ref (h 5)) C G qi_Cd 16 rfl rfl 0 (by decide) qz_218 rfl qm_Cd_noteOverflow_45 ?_
      refine lv_bipush (v := 32) C.1 C.2.1 qm_Cd_noteOverflow_48 (by decide) ?_
      obtain ⟨q3, c3, hf⟩ := bnd_s hf
      refine q_callVi (wf := (cW h K)) (n := 1) (As := [.int 32]) (q0 := 5) (ci := 1) C G hl.1 (kCo_has (l := l) c3) qx_Cd_152 qm_Co_has_d ⟨by decide, by decide⟩ ⟨Nat.le_refl _, Nat.le_refl _⟩ rfl rfl rfl rfl rfl (Nat.le_of_ble_eq_true rfl) qm_Cd_noteOverflow_50 (fun H locs G => ?_)
      refine lv_if_eq (tgt := 75) C.1 C.2.1 qm_Cd_noteOverflow_53 (by decide) (fun b4 => ?_) (fun b4 => ?_)
      · have hf := if_t b4 hf
        exact wCd_noteOverflow_75 C q3.2 hf _ _ _ G (lv_sub hl [] rfl)
      · have hf := if_f b4 hf
        refine lv_aload_n C.1 C.2.1 qm_Cd_noteOverflow_56 rfl (lv_at hl 1 rfl) ?_
        refine q_get (wf := (cW h K)) (v := .ref (h 5)) C G qi_Cd 16 rfl rfl 0 (by decide) qz_218 rfl qm_Cd_noteOverflow_57 ?_
        refine lv_iconst (v := 2) C.1 C.2.1 qm_Cd_noteOverflow_60 (by decide) ?_
        obtain ⟨q5, c5, hf⟩ := bnd_s hf
        refine q_callVi (wf := (cW h K)) (n := 1) (As := [.int 2]) (q0 := 5) (ci := 1) C G hl.1 (kCo_has (l := l) c5) qx_Cd_152 qm_Co_has_d ⟨by decide, by decide⟩ ⟨Nat.le_refl _, Nat.le_refl _⟩ rfl rfl rfl rfl rfl (Nat.le_of_ble_eq_true rfl) qm_Cd_noteOverflow_61 (fun H locs G => ?_)
        refine lv_if_eq (tgt := 75) C.1 C.2.1 qm_Cd_noteOverflow_64 (by decide) (fun b6 => ?_) (fun b6 => ?_)
        · have hf := if_t b6 hf
          exact wCd_noteOverflow_75 C q5.2 hf _ _ _ G (lv_sub hl [] rfl)
        · have hf := if_f b6 hf
          refine lv_aload_n C.1 C.2.1 qm_Cd_noteOverflow_67 rfl (lv_at hl 1 rfl) ?_
          refine q_get (wf := (cW h K)) (v := .ref (h 5)) C G qi_Cd 16 rfl rfl 0 (by decide) qz_218 rfl qm_Cd_noteOverflow_68 ?_
          refine lv_iconst (v := 1) C.1 C.2.1 qm_Cd_noteOverflow_71 (by decide) ?_
          refine q_putN (host := "QuadMode") (wf := (cW h K)) (S' := (pI q5.2 10 1)) C G qi_Co qY_Co qy_Co qn_Co 5 rfl rfl 13 (by decide) (by decide +kernel) rfl rfl (Nat.le_of_ble_eq_true rfl) rfl qm_Cd_noteOverflow_72 (fun H locs G => ?_)
          exact wCd_noteOverflow_75 C (pI q5.2 10 1) hf _ _ _ G (lv_sub hl [] rfl)
set_option maxHeartbeats 4000000 in
set_option maxRecDepth 100000 in
theorem wCd_noteOverflow_28 {l : Launch} {D : va_G} {h : Nat → Nat} {K : Nat → ClassId} {res : qS} {p : Program} {e : Env} {s : State} {m : MethodId} {args : Array Value} {below : List Frame} {meth : Method} {c : Code} {A : Nat → Prop} {ad : Nat → Nat} (C : qC p s m args meth c qm_Cd_noteOverflow_c 3 none qR_Cd ad) (S : qS) (hf : fCd_noteOverflow_28 S = some res) : ∀ (H : Heap) (locs : List Loc) (ls : Array Slot), qG D qCl (cT K) A s (cW h K S) H locs → lv_has ls 3 [(0, .ref (h 16))] → W p l e ({ frames := 1, cells := 0, slots := 0, locals := 21 }) s m args below meth c H locs 0 0 (MQ below (qQv D qCl (cT K) (cW h K) A res) args s 0 0 A) (F0 m 28 ls []) := by
  intro H locs ls G hl
  unfold fCd_noteOverflow_28 at hf
  refine lv_iconst (v := 0) C.1 C.2.1 qm_Cd_noteOverflow_28 (by decide) ?_
  exact wCd_noteOverflow_29 C S 0 hf _ _ _ G (lv_sub hl [0] rfl)
set_option maxHeartbeats 4000000 in
set_option maxRecDepth 100000 in
theorem wCd_noteOverflow_24 {l : Launch} {D : va_G} {h : Nat → Nat} {K : Nat → ClassId} {res : qS} {p : Program} {e : Env} {s : State} {m : MethodId} {args : Array Value} {below : List Frame} {meth : Method} {c : Code} {A : Nat → Prop} {ad : Nat → Nat} (C : qC p s m args meth c qm_Cd_noteOverflow_c 3 none qR_Cd ad) (S : qS) (hf : fCd_noteOverflow_24 S = some res) : ∀ (H : Heap) (locs : List Loc) (ls : Array Slot), qG D qCl (cT K) A s (cW h K S) H locs → lv_has ls 3 [(0, .ref (h 16))] → W p l e ({ frames := 1, cells := 0, slots := 0, locals := 21 }) s m args below meth c H locs 0 0 (MQ below (qQv D qCl (cT K) (cW h K) A res) args s 0 0 A) (F0 m 24 ls []) := by
  intro H locs ls G hl
  unfold fCd_noteOverflow_24 at hf
  refine lv_iconst (v := 1) C.1 C.2.1 qm_Cd_noteOverflow_24 (by decide) ?_
  refine lv_goto (tgt := 29) C.1 C.2.1 qm_Cd_noteOverflow_25 (by decide) ?_
  exact wCd_noteOverflow_29 C S 1 hf _ _ _ G (lv_sub hl [0] rfl)
set_option maxHeartbeats 4000000 in
set_option maxRecDepth 100000 in
theorem wCd_noteOverflow_12 {l : Launch} {D : va_G} {h : Nat → Nat} {K : Nat → ClassId} {res : qS} {p : Program} {e : Env} {s : State} {m : MethodId} {args : Array Value} {below : List Frame} {meth : Method} {c : Code} {A : Nat → Prop} {ad : Nat → Nat} (C : qC p s m args meth c qm_Cd_noteOverflow_c 3 none qR_Cd ad) (S : qS) (x1 : Int32) (hf : fCd_noteOverflow_12 S x1 = some res) : ∀ (H : Heap) (locs : List Loc) (ls : Array Slot), qG D qCl (cT K) A s (cW h K S) H locs → lv_has ls 3 [(0, .ref (h 16)), (1, .int x1)] → W p l e ({ frames := 1, cells := 0, slots := 0, locals := 21 }) s m args below meth c H locs 0 0 (MQ below (qQv D qCl (cT K) (cW h K) A res) args s 0 0 A) (F0 m 12 ls []) := by
  intro H locs ls G hl
  unfold fCd_noteOverflow_12 at hf
  refine lv_iload_n C.1 C.2.1 qm_Cd_noteOverflow_12 rfl (lv_at hl 1 rfl) ?_
  refine lv_bipush (v := 64) C.1 C.2.1 qm_Cd_noteOverflow_13 (by decide) ?_
  refine lv_icmp_lt (tgt := 28) C.1 C.2.1 qm_Cd_noteOverflow_15 (by decide) (fun b1 => ?_) (fun b1 => ?_)
  · have hf := if_t b1 hf
    exact wCd_noteOverflow_28 C S hf _ _ _ G (lv_sub hl [0] rfl)
  · have hf := if_f b1 hf
    refine lv_iload_n C.1 C.2.1 qm_Cd_noteOverflow_18 rfl (lv_at hl 1 rfl) ?_
    refine lv_bipush (v := 67) C.1 C.2.1 qm_Cd_noteOverflow_19 (by decide) ?_
    refine lv_icmp_gt (tgt := 28) C.1 C.2.1 qm_Cd_noteOverflow_21 (by decide) (fun b2 => ?_) (fun b2 => ?_)
    · have hf := if_t b2 hf
      exact wCd_noteOverflow_28 C S hf _ _ _ G (lv_sub hl [0] rfl)
    · have hf := if_f b2 hf
      exact wCd_noteOverflow_24 C S hf _ _ _ G (lv_sub hl [0] rfl)
set_option maxHeartbeats 4000000 in
set_option maxRecDepth 100000 in
theorem wCd_noteOverflow {l : Launch} {D : va_G} {h : Nat → Nat} {K : Nat → ClassId} {res : qS} {p : Program} {e : Env} {s : State} {m : MethodId} {args : Array Value} {below : List Frame} {meth : Method} {c : Code} {A : Nat → Prop} {ad : Nat → Nat} (C : qC p s m args meth c qm_Cd_noteOverflow_c 3 none qR_Cd ad) (S : qS) (a1 : Int32) (hf : fCd_noteOverflow S a1 = some res) : ∀ (H : Heap) (locs : List Loc) (ls : Array Slot), qG D qCl (cT K) A s (cW h K S) H locs → lv_has ls 3 [(0, .ref (h 16)), (1, .int a1)] → W p l e ({ frames := 1, cells := 0, slots := 0, locals := 21 }) s m args below meth c H locs 0 0 (MQ below (qQv D qCl (cT K) (cW h K) A res) args s 0 0 A) (F0 m 0 ls []) := by
  intro H locs ls G hl
  unfold fCd_noteOverflow at hf
  refine lv_iload_n C.1 C.2.1 qm_Cd_noteOverflow_0 rfl (lv_at hl 1 rfl) ?_
  refine lv_bipush (v := 17) C.1 C.2.1 qm_Cd_noteOverflow_1 (by decide) ?_
  refine lv_icmp_lt (tgt := 12) C.1 C.2.1 qm_Cd_noteOverflow_3 (by decide) (fun b1 => ?_) (fun b1 => ?_)
  · have hf := if_t b1 hf
    exact wCd_noteOverflow_12 C S a1 hf _ _ _ G (lv_sub hl [0, 1] rfl)
  · have hf := if_f b1 hf
    refine lv_iload_n C.1 C.2.1 qm_Cd_noteOverflow_6 rfl (lv_at hl 1 rfl) ?_
    refine lv_bipush (v := 41) C.1 C.2.1 qm_Cd_noteOverflow_7 (by decide) ?_
    refine lv_icmp_le (tgt := 24) C.1 C.2.1 qm_Cd_noteOverflow_9 (by decide) (fun b2 => ?_) (fun b2 => ?_)
    · have hf := if_t b2 hf
      exact wCd_noteOverflow_24 C S hf _ _ _ G (lv_sub hl [0] rfl)
    · have hf := if_f b2 hf
      exact wCd_noteOverflow_12 C S a1 hf _ _ _ G (lv_sub hl [0, 1] rfl)
theorem kCd_noteOverflow {l : Launch} {ad : Nat → Nat} {D : va_G} {h : Nat → Nat} {K : Nat → ClassId} {res : qS} {S : qS} {a1 : Int32} (hf : fCd_noteOverflow S a1 = some res) : qMv l qm_Cd_noteOverflow qm_Cd_noteOverflow_c 3 1 21 D qCl (cT K) ad (cW h K) [.ref (h 16), .int a1] S res := qMv_of (by decide) (Nat.le_of_ble_eq_true rfl) (fun _ _ _ _ _ _ _ _ _ _ C G hl => wCd_noteOverflow C S a1 hf _ _ _ G hl)
set_option maxHeartbeats 4000000 in
set_option maxRecDepth 100000 in
theorem wCd_execute_376 {l : Launch} {D : va_G} {h : Nat → Nat} {K : Nat → ClassId} {res : qS} {p : Program} {e : Env} {s : State} {m : MethodId} {args : Array Value} {below : List Frame} {meth : Method} {c : Code} {A : Nat → Prop} {ad : Nat → Nat} (C : qC p s m args meth c qm_Cd_execute_c 2 none qR_Cd ad) (S : qS) (x1 : Int32) (hf : fCd_execute_376 S x1 = some res) : ∀ (H : Heap) (locs : List Loc) (ls : Array Slot), qG D qCl (cT K) A s (cW h K S) H locs → lv_has ls 2 [(0, .ref (h 16)), (1, .int x1)] → W p l e ({ frames := 5, cells := 0, slots := 0, locals := 127 }) s m args below meth c H locs 0 0 (MQ below (qQv D qCl (cT K) (cW h K) A res) args s 0 0 A) (F0 m 376 ls []) := by
  intro H locs ls G hl
  unfold fCd_execute_376 at hf
  refine lv_aload_n C.1 C.2.1 qm_Cd_execute_376 rfl (lv_at hl 0 rfl) ?_
  refine lv_iload_n C.1 C.2.1 qm_Cd_execute_377 rfl (lv_at hl 1 rfl) ?_
  obtain ⟨S1, c1, hf⟩ := bnd_s hf
  refine q_callVv (wf := (cW h K)) (n := 1) (As := [.int x1]) (q0 := 16) (ci := 0) C G hl.1 (kCd_noteOverflow (l := l) c1) qx_Cd_146 qm_Cd_noteOverflow_d ⟨by decide, by decide⟩ ⟨Nat.le_refl _, Nat.le_refl _⟩ rfl rfl rfl rfl rfl (Nat.le_of_ble_eq_true rfl) qm_Cd_execute_378 (fun H locs G => ?_)
  exact q_vret (wf := (cW h K)) C G hf qm_Cd_execute_381
set_option maxHeartbeats 4000000 in
set_option maxRecDepth 100000 in
theorem wCd_execute_100 {l : Launch} {D : va_G} {h : Nat → Nat} {K : Nat → ClassId} {res : qS} {p : Program} {e : Env} {s : State} {m : MethodId} {args : Array Value} {below : List Frame} {meth : Method} {c : Code} {A : Nat → Prop} {ad : Nat → Nat} (C : qC p s m args meth c qm_Cd_execute_c 2 none qR_Cd ad) (S : qS) (x1 : Int32) (hf : fCd_execute_100 S x1 = some res) : ∀ (H : Heap) (locs : List Loc) (ls : Array Slot), qG D qCl (cT K) A s (cW h K S) H locs → lv_has ls 2 [(0, .ref (h 16)), (1, .int x1)] → W p l e ({ frames := 5, cells := 0, slots := 0, locals := 127 }) s m args below meth c H locs 0 0 (MQ below (qQv D qCl (cT K) (cW h K) A res) args s 0 0 A) (F0 m 100 ls []) := by
  intro H locs ls G hl
  unfold fCd_execute_100 at hf
  refine lv_aload_n C.1 C.2.1 qm_Cd_execute_100 rfl (lv_at hl 0 rfl) ?_
  obtain ⟨S1, c1, hf⟩ := bnd_s hf
  refine q_callVv (wf := (cW h K)) (n := 0) (As := []) (q0 := 16) (ci := 0) C G hl.1 (kCd_leaveException (l := l) c1) qx_Cd_79 qm_Cd_leaveException_d ⟨by decide, by decide⟩ ⟨Nat.le_refl _, Nat.le_refl _⟩ rfl rfl rfl rfl rfl (Nat.le_of_ble_eq_true rfl) qm_Cd_execute_101 (fun H locs G => ?_)
  refine lv_goto (tgt := 376) C.1 C.2.1 qm_Cd_execute_104 (by decide) ?_
  exact wCd_execute_376 C S1 x1 hf _ _ _ G (lv_sub hl [0, 1] rfl)
set_option maxHeartbeats 4000000 in
set_option maxRecDepth 100000 in
theorem wCd_execute_107 {l : Launch} {D : va_G} {h : Nat → Nat} {K : Nat → ClassId} {res : qS} {p : Program} {e : Env} {s : State} {m : MethodId} {args : Array Value} {below : List Frame} {meth : Method} {c : Code} {A : Nat → Prop} {ad : Nat → Nat} (C : qC p s m args meth c qm_Cd_execute_c 2 none qR_Cd ad) (S : qS) (x1 : Int32) (hf : fCd_execute_107 S x1 = some res) : ∀ (H : Heap) (locs : List Loc) (ls : Array Slot), qG D qCl (cT K) A s (cW h K S) H locs → lv_has ls 2 [(0, .ref (h 16)), (1, .int x1)] → W p l e ({ frames := 5, cells := 0, slots := 0, locals := 127 }) s m args below meth c H locs 0 0 (MQ below (qQv D qCl (cT K) (cW h K) A res) args s 0 0 A) (F0 m 107 ls []) := by
  intro H locs ls G hl
  unfold fCd_execute_107 at hf
  refine lv_aload_n C.1 C.2.1 qm_Cd_execute_107 rfl (lv_at hl 0 rfl) ?_
  refine q_get (wf := (cW h K)) (v := .ref (h 5)) C G qi_Cd 16 rfl rfl 0 (by decide) qz_218 rfl qm_Cd_execute_108 ?_
  refine lv_bipush (v := 6) C.1 C.2.1 qm_Cd_execute_111 (by decide) ?_
  obtain ⟨S1, c1, hf⟩ := bnd_s hf
  refine q_callVv (wf := (cW h K)) (n := 1) (As := [.int 6]) (q0 := 5) (ci := 1) C G hl.1 (kCo_raise (l := l) c1) qx_Cd_82 qm_Co_raise_d ⟨by decide, by decide⟩ ⟨Nat.le_refl _, Nat.le_refl _⟩ rfl rfl rfl rfl rfl (Nat.le_of_ble_eq_true rfl) qm_Cd_execute_113 (fun H locs G => ?_)
  refine lv_goto (tgt := 376) C.1 C.2.1 qm_Cd_execute_116 (by decide) ?_
  exact wCd_execute_376 C S1 x1 hf _ _ _ G (lv_sub hl [0, 1] rfl)
set_option maxHeartbeats 4000000 in
set_option maxRecDepth 100000 in
theorem wCd_execute_119 {l : Launch} {D : va_G} {h : Nat → Nat} {K : Nat → ClassId} {res : qS} {p : Program} {e : Env} {s : State} {m : MethodId} {args : Array Value} {below : List Frame} {meth : Method} {c : Code} {A : Nat → Prop} {ad : Nat → Nat} (C : qC p s m args meth c qm_Cd_execute_c 2 none qR_Cd ad) (S : qS) (x1 : Int32) (hf : fCd_execute_119 S x1 = some res) : ∀ (H : Heap) (locs : List Loc) (ls : Array Slot), qG D qCl (cT K) A s (cW h K S) H locs → lv_has ls 2 [(0, .ref (h 16)), (1, .int x1)] → W p l e ({ frames := 5, cells := 0, slots := 0, locals := 127 }) s m args below meth c H locs 0 0 (MQ below (qQv D qCl (cT K) (cW h K) A res) args s 0 0 A) (F0 m 119 ls []) := by
  intro H locs ls G hl
  unfold fCd_execute_119 at hf
  refine lv_aload_n C.1 C.2.1 qm_Cd_execute_119 rfl (lv_at hl 0 rfl) ?_
  obtain ⟨S1, c1, hf⟩ := bnd_s hf
  refine q_callVv (wf := (cW h K)) (n := 0) (As := []) (q0 := 16) (ci := 0) C G hl.1 (kCd_leaveFrame (l := l) c1) qx_Cd_86 qm_Cd_leaveFrame_d ⟨by decide, by decide⟩ ⟨Nat.le_refl _, Nat.le_refl _⟩ rfl rfl rfl rfl rfl (Nat.le_of_ble_eq_true rfl) qm_Cd_execute_120 (fun H locs G => ?_)
  refine lv_goto (tgt := 376) C.1 C.2.1 qm_Cd_execute_123 (by decide) ?_
  exact wCd_execute_376 C S1 x1 hf _ _ _ G (lv_sub hl [0, 1] rfl)
set_option maxHeartbeats 4000000 in
set_option maxRecDepth 100000 in
theorem wCd_execute_126 {l : Launch} {D : va_G} {h : Nat → Nat} {K : Nat → ClassId} {res : qS} {p : Program} {e : Env} {s : State} {m : MethodId} {args : Array Value} {below : List Frame} {meth : Method} {c : Code} {A : Nat → Prop} {ad : Nat → Nat} (C : qC p s m args meth c qm_Cd_execute_c 2 none qR_Cd ad) (S : qS) (x1 : Int32) (hf : fCd_execute_126 S x1 = some res) : ∀ (H : Heap) (locs : List Loc) (ls : Array Slot), qG D qCl (cT K) A s (cW h K S) H locs → lv_has ls 2 [(0, .ref (h 16)), (1, .int x1)] → W p l e ({ frames := 5, cells := 0, slots := 0, locals := 127 }) s m args below meth c H locs 0 0 (MQ below (qQv D qCl (cT K) (cW h K) A res) args s 0 0 A) (F0 m 126 ls []) := by
  intro H locs ls G hl
  unfold fCd_execute_126 at hf
  refine lv_aload_n C.1 C.2.1 qm_Cd_execute_126 rfl (lv_at hl 0 rfl) ?_
  refine q_get (wf := (cW h K)) (v := .ref (h 5)) C G qi_Cd 16 rfl rfl 0 (by decide) qz_218 rfl qm_Cd_execute_127 ?_
  refine lv_bipush (v := 15) C.1 C.2.1 qm_Cd_execute_130 (by decide) ?_
  refine lv_aload_n C.1 C.2.1 qm_Cd_execute_132 rfl (lv_at hl 0 rfl) ?_
  refine q_get (wf := (cW h K)) (v := .ref (h 5)) C G qi_Cd 16 rfl rfl 0 (by decide) qz_218 rfl qm_Cd_execute_133 ?_
  obtain ⟨q1, c1, hf⟩ := bnd_s hf
  refine q_callVi (wf := (cW h K)) (n := 0) (As := []) (q0 := 5) (ci := 1) C G hl.1 (kCo_pop (l := l) c1) qx_Cd_89 qm_Co_pop_d ⟨by decide, by decide⟩ ⟨Nat.le_refl _, Nat.le_refl _⟩ rfl rfl rfl rfl rfl (Nat.le_of_ble_eq_true rfl) qm_Cd_execute_136 (fun H locs G => ?_)
  obtain ⟨S2, c2, hf⟩ := bnd_s hf
  refine q_callVv (wf := (cW h K)) (n := 2) (As := [.int 15, .int q1.1]) (q0 := 5) (ci := 1) C G hl.1 (kCo_put (l := l) c2) qx_Cd_92 qm_Co_put_d ⟨by decide, by decide⟩ ⟨Nat.le_refl _, Nat.le_refl _⟩ rfl rfl rfl rfl rfl (Nat.le_of_ble_eq_true rfl) qm_Cd_execute_139 (fun H locs G => ?_)
  refine lv_goto (tgt := 376) C.1 C.2.1 qm_Cd_execute_142 (by decide) ?_
  exact wCd_execute_376 C S2 x1 hf _ _ _ G (lv_sub hl [0, 1] rfl)
set_option maxHeartbeats 4000000 in
set_option maxRecDepth 100000 in
theorem wCd_execute_145 {l : Launch} {D : va_G} {h : Nat → Nat} {K : Nat → ClassId} {res : qS} {p : Program} {e : Env} {s : State} {m : MethodId} {args : Array Value} {below : List Frame} {meth : Method} {c : Code} {A : Nat → Prop} {ad : Nat → Nat} (C : qC p s m args meth c qm_Cd_execute_c 2 none qR_Cd ad) (S : qS) (x1 : Int32) (hf : fCd_execute_145 S x1 = some res) : ∀ (H : Heap) (locs : List Loc) (ls : Array Slot), qG D qCl (cT K) A s (cW h K S) H locs → lv_has ls 2 [(0, .ref (h 16)), (1, .int x1)] → W p l e ({ frames := 5, cells := 0, slots := 0, locals := 127 }) s m args below meth c H locs 0 0 (MQ below (qQv D qCl (cT K) (cW h K) A res) args s 0 0 A) (F0 m 145 ls []) := by
  intro H locs ls G hl
  unfold fCd_execute_145 at hf
  refine lv_aload_n C.1 C.2.1 qm_Cd_execute_145 rfl (lv_at hl 0 rfl) ?_
  refine lv_aload_n C.1 C.2.1 qm_Cd_execute_146 rfl (lv_at hl 0 rfl) ?_
  refine q_get (wf := (cW h K)) (v := .ref (h 13)) C G qi_Cd 16 rfl rfl 2 (by decide) qz_220 rfl qm_Cd_execute_147 ?_
  refine q_getN (host := "QuadMode") (wf := (cW h K)) (v := .int (S.1 18)) C G qi_Op 13 rfl rfl 3 (by decide) (by decide +kernel) rfl qm_Cd_execute_150 ?_
  refine lv_aload_n C.1 C.2.1 qm_Cd_execute_153 rfl (lv_at hl 0 rfl) ?_
  refine q_get (wf := (cW h K)) (v := .ref (h 12)) C G qi_Cd 16 rfl rfl 1 (by decide) qz_219 rfl qm_Cd_execute_154 ?_
  refine q_getN (host := "QuadMode") (wf := (cW h K)) (v := .int (S.1 14)) C G qi_Op 12 rfl rfl 3 (by decide) (by decide +kernel) rfl qm_Cd_execute_157 ?_
  obtain ⟨S1, c1, hf⟩ := bnd_s hf
  refine q_callVv (wf := (cW h K)) (n := 2) (As := [.int (S.1 18), .int (S.1 14)]) (q0 := 16) (ci := 0) C G hl.1 (kCd_giveInner (l := l) c1) qx_Cd_102 qm_Cd_giveInner_d ⟨by decide, by decide⟩ ⟨Nat.le_refl _, Nat.le_refl _⟩ rfl rfl rfl rfl rfl (Nat.le_of_ble_eq_true rfl) qm_Cd_execute_160 (fun H locs G => ?_)
  refine lv_goto (tgt := 376) C.1 C.2.1 qm_Cd_execute_163 (by decide) ?_
  exact wCd_execute_376 C S1 x1 hf _ _ _ G (lv_sub hl [0, 1] rfl)
set_option maxHeartbeats 4000000 in
set_option maxRecDepth 100000 in
theorem wCd_execute_166 {l : Launch} {D : va_G} {h : Nat → Nat} {K : Nat → ClassId} {res : qS} {p : Program} {e : Env} {s : State} {m : MethodId} {args : Array Value} {below : List Frame} {meth : Method} {c : Code} {A : Nat → Prop} {ad : Nat → Nat} (C : qC p s m args meth c qm_Cd_execute_c 2 none qR_Cd ad) (S : qS) (x1 : Int32) (hf : fCd_execute_166 S x1 = some res) : ∀ (H : Heap) (locs : List Loc) (ls : Array Slot), qG D qCl (cT K) A s (cW h K S) H locs → lv_has ls 2 [(0, .ref (h 16)), (1, .int x1)] → W p l e ({ frames := 5, cells := 0, slots := 0, locals := 127 }) s m args below meth c H locs 0 0 (MQ below (qQv D qCl (cT K) (cW h K) A res) args s 0 0 A) (F0 m 166 ls []) := by
  intro H locs ls G hl
  unfold fCd_execute_166 at hf
  refine lv_aload_n C.1 C.2.1 qm_Cd_execute_166 rfl (lv_at hl 0 rfl) ?_
  refine lv_aload_n C.1 C.2.1 qm_Cd_execute_167 rfl (lv_at hl 0 rfl) ?_
  refine q_get (wf := (cW h K)) (v := .ref (h 12)) C G qi_Cd 16 rfl rfl 1 (by decide) qz_219 rfl qm_Cd_execute_168 ?_
  refine q_getN (host := "QuadMode") (wf := (cW h K)) (v := .int (S.1 14)) C G qi_Op 12 rfl rfl 3 (by decide) (by decide +kernel) rfl qm_Cd_execute_171 ?_
  obtain ⟨S1, c1, hf⟩ := bnd_s hf
  refine q_callVv (wf := (cW h K)) (n := 1) (As := [.int (S.1 14)]) (q0 := 16) (ci := 0) C G hl.1 (kCd_takeInner (l := l) c1) qx_Cd_105 qm_Cd_takeInner_d ⟨by decide, by decide⟩ ⟨Nat.le_refl _, Nat.le_refl _⟩ rfl rfl rfl rfl rfl (Nat.le_of_ble_eq_true rfl) qm_Cd_execute_174 (fun H locs G => ?_)
  refine lv_goto (tgt := 376) C.1 C.2.1 qm_Cd_execute_177 (by decide) ?_
  exact wCd_execute_376 C S1 x1 hf _ _ _ G (lv_sub hl [0, 1] rfl)
set_option maxHeartbeats 4000000 in
set_option maxRecDepth 100000 in
theorem wCd_execute_180 {l : Launch} {D : va_G} {h : Nat → Nat} {K : Nat → ClassId} {res : qS} {p : Program} {e : Env} {s : State} {m : MethodId} {args : Array Value} {below : List Frame} {meth : Method} {c : Code} {A : Nat → Prop} {ad : Nat → Nat} (C : qC p s m args meth c qm_Cd_execute_c 2 none qR_Cd ad) (S : qS) (x1 : Int32) (hf : fCd_execute_180 S x1 = some res) : ∀ (H : Heap) (locs : List Loc) (ls : Array Slot), qG D qCl (cT K) A s (cW h K S) H locs → lv_has ls 2 [(0, .ref (h 16)), (1, .int x1)] → W p l e ({ frames := 5, cells := 0, slots := 0, locals := 127 }) s m args below meth c H locs 0 0 (MQ below (qQv D qCl (cT K) (cW h K) A res) args s 0 0 A) (F0 m 180 ls []) := by
  intro H locs ls G hl
  unfold fCd_execute_180 at hf
  refine lv_aload_n C.1 C.2.1 qm_Cd_execute_180 rfl (lv_at hl 0 rfl) ?_
  refine lv_aload_n C.1 C.2.1 qm_Cd_execute_181 rfl (lv_at hl 0 rfl) ?_
  refine q_get (wf := (cW h K)) (v := .ref (h 12)) C G qi_Cd 16 rfl rfl 1 (by decide) qz_219 rfl qm_Cd_execute_182 ?_
  refine lv_aload_n C.1 C.2.1 qm_Cd_execute_185 rfl (lv_at hl 0 rfl) ?_
  refine q_get (wf := (cW h K)) (v := .ref (h 5)) C G qi_Cd 16 rfl rfl 0 (by decide) qz_218 rfl qm_Cd_execute_186 ?_
  refine q_getN (host := "QuadMode") (wf := (cW h K)) (v := .int (S.1 6)) C G qi_Co 5 rfl rfl 9 (by decide) (by decide +kernel) rfl qm_Cd_execute_189 ?_
  obtain ⟨S1, c1, hf⟩ := bnd_s hf
  refine q_callVv (wf := (cW h K)) (n := 2) (As := [.ref (h 12), .int (S.1 6)]) (q0 := 16) (ci := 0) C G hl.1 (kCd_store (l := l) c1 (by decide)) qx_Cd_111 qm_Cd_store_d ⟨by decide, by decide⟩ ⟨Nat.le_refl _, Nat.le_refl _⟩ rfl rfl rfl rfl rfl (Nat.le_of_ble_eq_true rfl) qm_Cd_execute_192 (fun H locs G => ?_)
  refine lv_goto (tgt := 376) C.1 C.2.1 qm_Cd_execute_195 (by decide) ?_
  exact wCd_execute_376 C S1 x1 hf _ _ _ G (lv_sub hl [0, 1] rfl)
set_option maxHeartbeats 4000000 in
set_option maxRecDepth 100000 in
theorem wCd_execute_198 {l : Launch} {D : va_G} {h : Nat → Nat} {K : Nat → ClassId} {res : qS} {p : Program} {e : Env} {s : State} {m : MethodId} {args : Array Value} {below : List Frame} {meth : Method} {c : Code} {A : Nat → Prop} {ad : Nat → Nat} (C : qC p s m args meth c qm_Cd_execute_c 2 none qR_Cd ad) (S : qS) (x1 : Int32) (hf : fCd_execute_198 S x1 = some res) : ∀ (H : Heap) (locs : List Loc) (ls : Array Slot), qG D qCl (cT K) A s (cW h K S) H locs → lv_has ls 2 [(0, .ref (h 16)), (1, .int x1)] → W p l e ({ frames := 5, cells := 0, slots := 0, locals := 127 }) s m args below meth c H locs 0 0 (MQ below (qQv D qCl (cT K) (cW h K) A res) args s 0 0 A) (F0 m 198 ls []) := by
  intro H locs ls G hl
  unfold fCd_execute_198 at hf
  refine lv_aload_n C.1 C.2.1 qm_Cd_execute_198 rfl (lv_at hl 0 rfl) ?_
  refine lv_aload_n C.1 C.2.1 qm_Cd_execute_199 rfl (lv_at hl 0 rfl) ?_
  refine q_get (wf := (cW h K)) (v := .ref (h 12)) C G qi_Cd 16 rfl rfl 1 (by decide) qz_219 rfl qm_Cd_execute_200 ?_
  refine q_getN (host := "QuadMode") (wf := (cW h K)) (v := .int (S.1 14)) C G qi_Op 12 rfl rfl 3 (by decide) (by decide +kernel) rfl qm_Cd_execute_203 ?_
  refine lv_i2b (v := (S.1 14).toInt8.toInt32) C.1 C.2.1 qm_Cd_execute_206 rfl ?_
  refine lv_aload_n C.1 C.2.1 qm_Cd_execute_207 rfl (lv_at hl 0 rfl) ?_
  refine q_get (wf := (cW h K)) (v := .ref (h 13)) C G qi_Cd 16 rfl rfl 2 (by decide) qz_220 rfl qm_Cd_execute_208 ?_
  refine q_getN (host := "QuadMode") (wf := (cW h K)) (v := .int (S.1 18)) C G qi_Op 13 rfl rfl 3 (by decide) (by decide +kernel) rfl qm_Cd_execute_211 ?_
  obtain ⟨S1, c1, hf⟩ := bnd_s hf
  refine q_callVv (wf := (cW h K)) (n := 2) (As := [.int ((S.1 14).toInt8.toInt32), .int (S.1 18)]) (q0 := 16) (ci := 0) C G hl.1 (kCd_shift (l := l) c1) qx_Cd_115 qm_Cd_shift_d ⟨by decide, by decide⟩ ⟨Nat.le_refl _, Nat.le_refl _⟩ rfl rfl rfl rfl rfl (Nat.le_of_ble_eq_true rfl) qm_Cd_execute_214 (fun H locs G => ?_)
  refine lv_goto (tgt := 376) C.1 C.2.1 qm_Cd_execute_217 (by decide) ?_
  exact wCd_execute_376 C S1 x1 hf _ _ _ G (lv_sub hl [0, 1] rfl)
set_option maxHeartbeats 4000000 in
set_option maxRecDepth 100000 in
theorem wCd_execute_220 {l : Launch} {D : va_G} {h : Nat → Nat} {K : Nat → ClassId} {res : qS} {p : Program} {e : Env} {s : State} {m : MethodId} {args : Array Value} {below : List Frame} {meth : Method} {c : Code} {A : Nat → Prop} {ad : Nat → Nat} (C : qC p s m args meth c qm_Cd_execute_c 2 none qR_Cd ad) (S : qS) (x1 : Int32) (hf : fCd_execute_220 S x1 = some res) : ∀ (H : Heap) (locs : List Loc) (ls : Array Slot), qG D qCl (cT K) A s (cW h K S) H locs → lv_has ls 2 [(0, .ref (h 16)), (1, .int x1)] → W p l e ({ frames := 5, cells := 0, slots := 0, locals := 127 }) s m args below meth c H locs 0 0 (MQ below (qQv D qCl (cT K) (cW h K) A res) args s 0 0 A) (F0 m 220 ls []) := by
  intro H locs ls G hl
  unfold fCd_execute_220 at hf
  refine lv_aload_n C.1 C.2.1 qm_Cd_execute_220 rfl (lv_at hl 0 rfl) ?_
  obtain ⟨S1, c1, hf⟩ := bnd_s hf
  refine q_callVv (wf := (cW h K)) (n := 0) (As := []) (q0 := 16) (ci := 0) C G hl.1 (kCd_enterFrame (l := l) c1) qx_Cd_118 qm_Cd_enterFrame_d ⟨by decide, by decide⟩ ⟨Nat.le_refl _, Nat.le_refl _⟩ rfl rfl rfl rfl rfl (Nat.le_of_ble_eq_true rfl) qm_Cd_execute_221 (fun H locs G => ?_)
  refine lv_goto (tgt := 376) C.1 C.2.1 qm_Cd_execute_224 (by decide) ?_
  exact wCd_execute_376 C S1 x1 hf _ _ _ G (lv_sub hl [0, 1] rfl)
set_option maxHeartbeats 4000000 in
set_option maxRecDepth 100000 in
theorem wCd_execute_239 {l : Launch} {D : va_G} {h : Nat → Nat} {K : Nat → ClassId} {res : qS} {p : Program} {e : Env} {s : State} {m : MethodId} {args : Array Value} {below : List Frame} {meth : Method} {c : Code} {A : Nat → Prop} {ad : Nat → Nat} (C : qC p s m args meth c qm_Cd_execute_c 2 none qR_Cd ad) (S : qS) (x1 : Int32) (y1 : Int32) (hf : fCd_execute_239 S x1 y1 = some res) : ∀ (H : Heap) (locs : List Loc) (ls : Array Slot), qG D qCl (cT K) A s (cW h K S) H locs → lv_has ls 2 [(0, .ref (h 16)), (1, .int x1)] → W p l e ({ frames := 5, cells := 0, slots := 0, locals := 127 }) s m args below meth c H locs 0 0 (MQ below (qQv D qCl (cT K) (cW h K) A res) args s 0 0 A) (F0 m 239 ls [.int y1, .ref (h 16)]) := by
  intro H locs ls G hl
  unfold fCd_execute_239 at hf
  obtain ⟨S1, c1, hf⟩ := bnd_s hf
  refine q_callVv (wf := (cW h K)) (n := 1) (As := [.int y1]) (q0 := 16) (ci := 0) C G hl.1 (kCd_probe (l := l) c1) qx_Cd_121 qm_Cd_probe_d ⟨by decide, by decide⟩ ⟨Nat.le_refl _, Nat.le_refl _⟩ rfl rfl rfl rfl rfl (Nat.le_of_ble_eq_true rfl) qm_Cd_execute_239 (fun H locs G => ?_)
  refine lv_goto (tgt := 376) C.1 C.2.1 qm_Cd_execute_242 (by decide) ?_
  exact wCd_execute_376 C S1 x1 hf _ _ _ G (lv_sub hl [0, 1] rfl)
set_option maxHeartbeats 4000000 in
set_option maxRecDepth 100000 in
theorem wCd_execute_227 {l : Launch} {D : va_G} {h : Nat → Nat} {K : Nat → ClassId} {res : qS} {p : Program} {e : Env} {s : State} {m : MethodId} {args : Array Value} {below : List Frame} {meth : Method} {c : Code} {A : Nat → Prop} {ad : Nat → Nat} (C : qC p s m args meth c qm_Cd_execute_c 2 none qR_Cd ad) (S : qS) (x1 : Int32) (hf : fCd_execute_227 S x1 = some res) : ∀ (H : Heap) (locs : List Loc) (ls : Array Slot), qG D qCl (cT K) A s (cW h K S) H locs → lv_has ls 2 [(0, .ref (h 16)), (1, .int x1)] → W p l e ({ frames := 5, cells := 0, slots := 0, locals := 127 }) s m args below meth c H locs 0 0 (MQ below (qQv D qCl (cT K) (cW h K) A res) args s 0 0 A) (F0 m 227 ls []) := by
  intro H locs ls G hl
  unfold fCd_execute_227 at hf
  refine lv_aload_n C.1 C.2.1 qm_Cd_execute_227 rfl (lv_at hl 0 rfl) ?_
  refine lv_iload_n C.1 C.2.1 qm_Cd_execute_228 rfl (lv_at hl 1 rfl) ?_
  refine lv_bipush (v := 70) C.1 C.2.1 qm_Cd_execute_229 (by decide) ?_
  refine lv_icmp_ne (tgt := 238) C.1 C.2.1 qm_Cd_execute_231 (by decide) (fun b1 => ?_) (fun b1 => ?_)
  · have hf := if_t b1 hf
    refine lv_iconst (v := 0) C.1 C.2.1 qm_Cd_execute_238 (by decide) ?_
    exact wCd_execute_239 C S x1 0 hf _ _ _ G (lv_sub hl [0, 1] rfl)
  · have hf := if_f (not_not_intro b1) hf
    refine lv_iconst (v := 1) C.1 C.2.1 qm_Cd_execute_234 (by decide) ?_
    refine lv_goto (tgt := 239) C.1 C.2.1 qm_Cd_execute_235 (by decide) ?_
    exact wCd_execute_239 C S x1 1 hf _ _ _ G (lv_sub hl [0, 1] rfl)
set_option maxHeartbeats 4000000 in
set_option maxRecDepth 100000 in
theorem wCd_execute_365 {l : Launch} {D : va_G} {h : Nat → Nat} {K : Nat → ClassId} {res : qS} {p : Program} {e : Env} {s : State} {m : MethodId} {args : Array Value} {below : List Frame} {meth : Method} {c : Code} {A : Nat → Prop} {ad : Nat → Nat} (C : qC p s m args meth c qm_Cd_execute_c 2 none qR_Cd ad) (S : qS) (x1 : Int32) (hf : fCd_execute_365 S x1 = some res) : ∀ (H : Heap) (locs : List Loc) (ls : Array Slot), qG D qCl (cT K) A s (cW h K S) H locs → lv_has ls 2 [(0, .ref (h 16)), (1, .int x1)] → W p l e ({ frames := 5, cells := 0, slots := 0, locals := 127 }) s m args below meth c H locs 0 0 (MQ below (qQv D qCl (cT K) (cW h K) A res) args s 0 0 A) (F0 m 365 ls []) := by
  intro H locs ls G hl
  unfold fCd_execute_365 at hf
  refine lv_iload_n C.1 C.2.1 qm_Cd_execute_365 rfl (lv_at hl 1 rfl) ?_
  refine lv_bipush (v := 63) C.1 C.2.1 qm_Cd_execute_366 (by decide) ?_
  refine lv_icmp_le (tgt := 376) C.1 C.2.1 qm_Cd_execute_368 (by decide) (fun b1 => ?_) (fun b1 => ?_)
  · have hf := if_t b1 hf
    exact wCd_execute_376 C S x1 hf _ _ _ G (lv_sub hl [0, 1] rfl)
  · have hf := if_f b1 hf
    refine lv_aload_n C.1 C.2.1 qm_Cd_execute_371 rfl (lv_at hl 0 rfl) ?_
    refine lv_iload_n C.1 C.2.1 qm_Cd_execute_372 rfl (lv_at hl 1 rfl) ?_
    obtain ⟨S2, c2, hf⟩ := bnd_s hf
    refine q_callVv (wf := (cW h K)) (n := 1) (As := [.int x1]) (q0 := 16) (ci := 0) C G hl.1 (kCd_count (l := l) c2) qx_Cd_143 qm_Cd_count_d ⟨by decide, by decide⟩ ⟨Nat.le_refl _, Nat.le_refl _⟩ rfl rfl rfl rfl rfl (Nat.le_of_ble_eq_true rfl) qm_Cd_execute_373 (fun H locs G => ?_)
    exact wCd_execute_376 C S2 x1 hf _ _ _ G (lv_sub hl [0, 1] rfl)
set_option maxHeartbeats 4000000 in
set_option maxRecDepth 100000 in
theorem wCd_execute_345 {l : Launch} {D : va_G} {h : Nat → Nat} {K : Nat → ClassId} {res : qS} {p : Program} {e : Env} {s : State} {m : MethodId} {args : Array Value} {below : List Frame} {meth : Method} {c : Code} {A : Nat → Prop} {ad : Nat → Nat} (C : qC p s m args meth c qm_Cd_execute_c 2 none qR_Cd ad) (S : qS) (x1 : Int32) (hf : fCd_execute_345 S x1 = some res) : ∀ (H : Heap) (locs : List Loc) (ls : Array Slot), qG D qCl (cT K) A s (cW h K S) H locs → lv_has ls 2 [(0, .ref (h 16)), (1, .int x1)] → W p l e ({ frames := 5, cells := 0, slots := 0, locals := 127 }) s m args below meth c H locs 0 0 (MQ below (qQv D qCl (cT K) (cW h K) A res) args s 0 0 A) (F0 m 345 ls []) := by
  intro H locs ls G hl
  unfold fCd_execute_345 at hf
  refine lv_iload_n C.1 C.2.1 qm_Cd_execute_345 rfl (lv_at hl 1 rfl) ?_
  refine lv_bipush (v := 49) C.1 C.2.1 qm_Cd_execute_346 (by decide) ?_
  refine lv_icmp_le (tgt := 365) C.1 C.2.1 qm_Cd_execute_348 (by decide) (fun b1 => ?_) (fun b1 => ?_)
  · have hf := if_t b1 hf
    exact wCd_execute_365 C S x1 hf _ _ _ G (lv_sub hl [0, 1] rfl)
  · have hf := if_f b1 hf
    refine lv_iload_n C.1 C.2.1 qm_Cd_execute_351 rfl (lv_at hl 1 rfl) ?_
    refine lv_bipush (v := 63) C.1 C.2.1 qm_Cd_execute_352 (by decide) ?_
    refine lv_icmp_gt (tgt := 365) C.1 C.2.1 qm_Cd_execute_354 (by decide) (fun b2 => ?_) (fun b2 => ?_)
    · have hf := if_t b2 hf
      exact wCd_execute_365 C S x1 hf _ _ _ G (lv_sub hl [0, 1] rfl)
    · have hf := if_f b2 hf
      refine lv_aload_n C.1 C.2.1 qm_Cd_execute_357 rfl (lv_at hl 0 rfl) ?_
      refine lv_iload_n C.1 C.2.1 qm_Cd_execute_358 rfl (lv_at hl 1 rfl) ?_
      obtain ⟨S3, c3, hf⟩ := bnd_s hf
      refine q_callVv (wf := (cW h K)) (n := 1) (As := [.int x1]) (q0 := 16) (ci := 0) C G hl.1 (kCd_branch (l := l) c3) qx_Cd_140 qm_Cd_branch_d ⟨by decide, by decide⟩ ⟨Nat.le_refl _, Nat.le_refl _⟩ rfl rfl rfl rfl rfl (Nat.le_of_ble_eq_true rfl) qm_Cd_execute_359 (fun H locs G => ?_)
      refine lv_goto (tgt := 376) C.1 C.2.1 qm_Cd_execute_362 (by decide) ?_
      exact wCd_execute_376 C S3 x1 hf _ _ _ G (lv_sub hl [0, 1] rfl)
set_option maxHeartbeats 4000000 in
set_option maxRecDepth 100000 in
theorem wCd_execute_325 {l : Launch} {D : va_G} {h : Nat → Nat} {K : Nat → ClassId} {res : qS} {p : Program} {e : Env} {s : State} {m : MethodId} {args : Array Value} {below : List Frame} {meth : Method} {c : Code} {A : Nat → Prop} {ad : Nat → Nat} (C : qC p s m args meth c qm_Cd_execute_c 2 none qR_Cd ad) (S : qS) (x1 : Int32) (hf : fCd_execute_325 S x1 = some res) : ∀ (H : Heap) (locs : List Loc) (ls : Array Slot), qG D qCl (cT K) A s (cW h K S) H locs → lv_has ls 2 [(0, .ref (h 16)), (1, .int x1)] → W p l e ({ frames := 5, cells := 0, slots := 0, locals := 127 }) s m args below meth c H locs 0 0 (MQ below (qQv D qCl (cT K) (cW h K) A res) args s 0 0 A) (F0 m 325 ls []) := by
  intro H locs ls G hl
  unfold fCd_execute_325 at hf
  refine lv_iload_n C.1 C.2.1 qm_Cd_execute_325 rfl (lv_at hl 1 rfl) ?_
  refine lv_bipush (v := 45) C.1 C.2.1 qm_Cd_execute_326 (by decide) ?_
  refine lv_icmp_le (tgt := 345) C.1 C.2.1 qm_Cd_execute_328 (by decide) (fun b1 => ?_) (fun b1 => ?_)
  · have hf := if_t b1 hf
    exact wCd_execute_345 C S x1 hf _ _ _ G (lv_sub hl [0, 1] rfl)
  · have hf := if_f b1 hf
    refine lv_iload_n C.1 C.2.1 qm_Cd_execute_331 rfl (lv_at hl 1 rfl) ?_
    refine lv_bipush (v := 49) C.1 C.2.1 qm_Cd_execute_332 (by decide) ?_
    refine lv_icmp_gt (tgt := 345) C.1 C.2.1 qm_Cd_execute_334 (by decide) (fun b2 => ?_) (fun b2 => ?_)
    · have hf := if_t b2 hf
      exact wCd_execute_345 C S x1 hf _ _ _ G (lv_sub hl [0, 1] rfl)
    · have hf := if_f b2 hf
      refine lv_aload_n C.1 C.2.1 qm_Cd_execute_337 rfl (lv_at hl 0 rfl) ?_
      refine lv_iload_n C.1 C.2.1 qm_Cd_execute_338 rfl (lv_at hl 1 rfl) ?_
      obtain ⟨S3, c3, hf⟩ := bnd_s hf
      refine q_callVv (wf := (cW h K)) (n := 1) (As := [.int x1]) (q0 := 16) (ci := 0) C G hl.1 (kCd_go (l := l) c3) qx_Cd_137 qm_Cd_go_d ⟨by decide, by decide⟩ ⟨Nat.le_refl _, Nat.le_refl _⟩ rfl rfl rfl rfl rfl (Nat.le_of_ble_eq_true rfl) qm_Cd_execute_339 (fun H locs G => ?_)
      refine lv_goto (tgt := 376) C.1 C.2.1 qm_Cd_execute_342 (by decide) ?_
      exact wCd_execute_376 C S3 x1 hf _ _ _ G (lv_sub hl [0, 1] rfl)
set_option maxHeartbeats 4000000 in
set_option maxRecDepth 100000 in
theorem wCd_execute_305 {l : Launch} {D : va_G} {h : Nat → Nat} {K : Nat → ClassId} {res : qS} {p : Program} {e : Env} {s : State} {m : MethodId} {args : Array Value} {below : List Frame} {meth : Method} {c : Code} {A : Nat → Prop} {ad : Nat → Nat} (C : qC p s m args meth c qm_Cd_execute_c 2 none qR_Cd ad) (S : qS) (x1 : Int32) (hf : fCd_execute_305 S x1 = some res) : ∀ (H : Heap) (locs : List Loc) (ls : Array Slot), qG D qCl (cT K) A s (cW h K S) H locs → lv_has ls 2 [(0, .ref (h 16)), (1, .int x1)] → W p l e ({ frames := 5, cells := 0, slots := 0, locals := 127 }) s m args below meth c H locs 0 0 (MQ below (qQv D qCl (cT K) (cW h K) A res) args s 0 0 A) (F0 m 305 ls []) := by
  intro H locs ls G hl
  unfold fCd_execute_305 at hf
  refine lv_iload_n C.1 C.2.1 qm_Cd_execute_305 rfl (lv_at hl 1 rfl) ?_
  refine lv_bipush (v := 41) C.1 C.2.1 qm_Cd_execute_306 (by decide) ?_
  refine lv_icmp_le (tgt := 325) C.1 C.2.1 qm_Cd_execute_308 (by decide) (fun b1 => ?_) (fun b1 => ?_)
  · have hf := if_t b1 hf
    exact wCd_execute_325 C S x1 hf _ _ _ G (lv_sub hl [0, 1] rfl)
  · have hf := if_f b1 hf
    refine lv_iload_n C.1 C.2.1 qm_Cd_execute_311 rfl (lv_at hl 1 rfl) ?_
    refine lv_bipush (v := 45) C.1 C.2.1 qm_Cd_execute_312 (by decide) ?_
    refine lv_icmp_gt (tgt := 325) C.1 C.2.1 qm_Cd_execute_314 (by decide) (fun b2 => ?_) (fun b2 => ?_)
    · have hf := if_t b2 hf
      exact wCd_execute_325 C S x1 hf _ _ _ G (lv_sub hl [0, 1] rfl)
    · have hf := if_f b2 hf
      refine lv_aload_n C.1 C.2.1 qm_Cd_execute_317 rfl (lv_at hl 0 rfl) ?_
      refine lv_iload_n C.1 C.2.1 qm_Cd_execute_318 rfl (lv_at hl 1 rfl) ?_
      obtain ⟨S3, c3, hf⟩ := bnd_s hf
      refine q_callVv (wf := (cW h K)) (n := 1) (As := [.int x1]) (q0 := 16) (ci := 0) C G hl.1 (kCd_handAddress (l := l) c3) qx_Cd_134 qm_Cd_handAddress_d ⟨by decide, by decide⟩ ⟨Nat.le_refl _, Nat.le_refl _⟩ rfl rfl rfl rfl rfl (Nat.le_of_ble_eq_true rfl) qm_Cd_execute_319 (fun H locs G => ?_)
      refine lv_goto (tgt := 376) C.1 C.2.1 qm_Cd_execute_322 (by decide) ?_
      exact wCd_execute_376 C S3 x1 hf _ _ _ G (lv_sub hl [0, 1] rfl)
set_option maxHeartbeats 4000000 in
set_option maxRecDepth 100000 in
theorem wCd_execute_285 {l : Launch} {D : va_G} {h : Nat → Nat} {K : Nat → ClassId} {res : qS} {p : Program} {e : Env} {s : State} {m : MethodId} {args : Array Value} {below : List Frame} {meth : Method} {c : Code} {A : Nat → Prop} {ad : Nat → Nat} (C : qC p s m args meth c qm_Cd_execute_c 2 none qR_Cd ad) (S : qS) (x1 : Int32) (hf : fCd_execute_285 S x1 = some res) : ∀ (H : Heap) (locs : List Loc) (ls : Array Slot), qG D qCl (cT K) A s (cW h K S) H locs → lv_has ls 2 [(0, .ref (h 16)), (1, .int x1)] → W p l e ({ frames := 5, cells := 0, slots := 0, locals := 127 }) s m args below meth c H locs 0 0 (MQ below (qQv D qCl (cT K) (cW h K) A res) args s 0 0 A) (F0 m 285 ls []) := by
  intro H locs ls G hl
  unfold fCd_execute_285 at hf
  refine lv_iload_n C.1 C.2.1 qm_Cd_execute_285 rfl (lv_at hl 1 rfl) ?_
  refine lv_bipush (v := 24) C.1 C.2.1 qm_Cd_execute_286 (by decide) ?_
  refine lv_icmp_le (tgt := 305) C.1 C.2.1 qm_Cd_execute_288 (by decide) (fun b1 => ?_) (fun b1 => ?_)
  · have hf := if_t b1 hf
    exact wCd_execute_305 C S x1 hf _ _ _ G (lv_sub hl [0, 1] rfl)
  · have hf := if_f b1 hf
    refine lv_iload_n C.1 C.2.1 qm_Cd_execute_291 rfl (lv_at hl 1 rfl) ?_
    refine lv_bipush (v := 41) C.1 C.2.1 qm_Cd_execute_292 (by decide) ?_
    refine lv_icmp_ge (tgt := 305) C.1 C.2.1 qm_Cd_execute_294 (by decide) (fun b2 => ?_) (fun b2 => ?_)
    · have hf := if_t b2 hf
      exact wCd_execute_305 C S x1 hf _ _ _ G (lv_sub hl [0, 1] rfl)
    · have hf := if_f b2 hf
      refine lv_aload_n C.1 C.2.1 qm_Cd_execute_297 rfl (lv_at hl 0 rfl) ?_
      refine lv_iload_n C.1 C.2.1 qm_Cd_execute_298 rfl (lv_at hl 1 rfl) ?_
      obtain ⟨S3, c3, hf⟩ := bnd_s hf
      refine q_callVv (wf := (cW h K)) (n := 1) (As := [.int x1]) (q0 := 16) (ci := 0) C G hl.1 (kCd_calculate (l := l) c3) qx_Cd_131 qm_Cd_calculate_d ⟨by decide, by decide⟩ ⟨Nat.le_refl _, Nat.le_refl _⟩ rfl rfl rfl rfl rfl (Nat.le_of_ble_eq_true rfl) qm_Cd_execute_299 (fun H locs G => ?_)
      refine lv_goto (tgt := 376) C.1 C.2.1 qm_Cd_execute_302 (by decide) ?_
      exact wCd_execute_376 C S3 x1 hf _ _ _ G (lv_sub hl [0, 1] rfl)
set_option maxHeartbeats 4000000 in
set_option maxRecDepth 100000 in
theorem wCd_execute_265 {l : Launch} {D : va_G} {h : Nat → Nat} {K : Nat → ClassId} {res : qS} {p : Program} {e : Env} {s : State} {m : MethodId} {args : Array Value} {below : List Frame} {meth : Method} {c : Code} {A : Nat → Prop} {ad : Nat → Nat} (C : qC p s m args meth c qm_Cd_execute_c 2 none qR_Cd ad) (S : qS) (x1 : Int32) (hf : fCd_execute_265 S x1 = some res) : ∀ (H : Heap) (locs : List Loc) (ls : Array Slot), qG D qCl (cT K) A s (cW h K S) H locs → lv_has ls 2 [(0, .ref (h 16)), (1, .int x1)] → W p l e ({ frames := 5, cells := 0, slots := 0, locals := 127 }) s m args below meth c H locs 0 0 (MQ below (qQv D qCl (cT K) (cW h K) A res) args s 0 0 A) (F0 m 265 ls []) := by
  intro H locs ls G hl
  unfold fCd_execute_265 at hf
  refine lv_iload_n C.1 C.2.1 qm_Cd_execute_265 rfl (lv_at hl 1 rfl) ?_
  refine lv_bipush (v := 20) C.1 C.2.1 qm_Cd_execute_266 (by decide) ?_
  refine lv_icmp_le (tgt := 285) C.1 C.2.1 qm_Cd_execute_268 (by decide) (fun b1 => ?_) (fun b1 => ?_)
  · have hf := if_t b1 hf
    exact wCd_execute_285 C S x1 hf _ _ _ G (lv_sub hl [0, 1] rfl)
  · have hf := if_f b1 hf
    refine lv_iload_n C.1 C.2.1 qm_Cd_execute_271 rfl (lv_at hl 1 rfl) ?_
    refine lv_bipush (v := 24) C.1 C.2.1 qm_Cd_execute_272 (by decide) ?_
    refine lv_icmp_gt (tgt := 285) C.1 C.2.1 qm_Cd_execute_274 (by decide) (fun b2 => ?_) (fun b2 => ?_)
    · have hf := if_t b2 hf
      exact wCd_execute_285 C S x1 hf _ _ _ G (lv_sub hl [0, 1] rfl)
    · have hf := if_f b2 hf
      refine lv_aload_n C.1 C.2.1 qm_Cd_execute_277 rfl (lv_at hl 0 rfl) ?_
      refine lv_iload_n C.1 C.2.1 qm_Cd_execute_278 rfl (lv_at hl 1 rfl) ?_
      obtain ⟨S3, c3, hf⟩ := bnd_s hf
      refine q_callVv (wf := (cW h K)) (n := 1) (As := [.int x1]) (q0 := 16) (ci := 0) C G hl.1 (kCd_compare (l := l) c3) qx_Cd_128 qm_Cd_compare_d ⟨by decide, by decide⟩ ⟨Nat.le_refl _, Nat.le_refl _⟩ rfl rfl rfl rfl rfl (Nat.le_of_ble_eq_true rfl) qm_Cd_execute_279 (fun H locs G => ?_)
      refine lv_goto (tgt := 376) C.1 C.2.1 qm_Cd_execute_282 (by decide) ?_
      exact wCd_execute_376 C S3 x1 hf _ _ _ G (lv_sub hl [0, 1] rfl)
set_option maxHeartbeats 4000000 in
set_option maxRecDepth 100000 in
theorem wCd_execute_245 {l : Launch} {D : va_G} {h : Nat → Nat} {K : Nat → ClassId} {res : qS} {p : Program} {e : Env} {s : State} {m : MethodId} {args : Array Value} {below : List Frame} {meth : Method} {c : Code} {A : Nat → Prop} {ad : Nat → Nat} (C : qC p s m args meth c qm_Cd_execute_c 2 none qR_Cd ad) (S : qS) (x1 : Int32) (hf : fCd_execute_245 S x1 = some res) : ∀ (H : Heap) (locs : List Loc) (ls : Array Slot), qG D qCl (cT K) A s (cW h K S) H locs → lv_has ls 2 [(0, .ref (h 16)), (1, .int x1)] → W p l e ({ frames := 5, cells := 0, slots := 0, locals := 127 }) s m args below meth c H locs 0 0 (MQ below (qQv D qCl (cT K) (cW h K) A res) args s 0 0 A) (F0 m 245 ls []) := by
  intro H locs ls G hl
  unfold fCd_execute_245 at hf
  refine lv_iload_n C.1 C.2.1 qm_Cd_execute_245 rfl (lv_at hl 1 rfl) ?_
  refine lv_bipush (v := 13) C.1 C.2.1 qm_Cd_execute_246 (by decide) ?_
  refine lv_icmp_lt (tgt := 265) C.1 C.2.1 qm_Cd_execute_248 (by decide) (fun b1 => ?_) (fun b1 => ?_)
  · have hf := if_t b1 hf
    exact wCd_execute_265 C S x1 hf _ _ _ G (lv_sub hl [0, 1] rfl)
  · have hf := if_f b1 hf
    refine lv_iload_n C.1 C.2.1 qm_Cd_execute_251 rfl (lv_at hl 1 rfl) ?_
    refine lv_bipush (v := 20) C.1 C.2.1 qm_Cd_execute_252 (by decide) ?_
    refine lv_icmp_gt (tgt := 265) C.1 C.2.1 qm_Cd_execute_254 (by decide) (fun b2 => ?_) (fun b2 => ?_)
    · have hf := if_t b2 hf
      exact wCd_execute_265 C S x1 hf _ _ _ G (lv_sub hl [0, 1] rfl)
    · have hf := if_f b2 hf
      refine lv_aload_n C.1 C.2.1 qm_Cd_execute_257 rfl (lv_at hl 0 rfl) ?_
      refine lv_iload_n C.1 C.2.1 qm_Cd_execute_258 rfl (lv_at hl 1 rfl) ?_
      obtain ⟨S3, c3, hf⟩ := bnd_s hf
      refine q_callVv (wf := (cW h K)) (n := 1) (As := [.int x1]) (q0 := 16) (ci := 0) C G hl.1 (kCd_move (l := l) c3) qx_Cd_125 qm_Cd_move_d ⟨by decide, by decide⟩ ⟨Nat.le_refl _, Nat.le_refl _⟩ rfl rfl rfl rfl rfl (Nat.le_of_ble_eq_true rfl) qm_Cd_execute_259 (fun H locs G => ?_)
      refine lv_goto (tgt := 376) C.1 C.2.1 qm_Cd_execute_262 (by decide) ?_
      exact wCd_execute_376 C S3 x1 hf _ _ _ G (lv_sub hl [0, 1] rfl)
set_option maxHeartbeats 4000000 in
set_option maxRecDepth 100000 in
theorem wCd_execute {l : Launch} {D : va_G} {h : Nat → Nat} {K : Nat → ClassId} {res : qS} {p : Program} {e : Env} {s : State} {m : MethodId} {args : Array Value} {below : List Frame} {meth : Method} {c : Code} {A : Nat → Prop} {ad : Nat → Nat} (C : qC p s m args meth c qm_Cd_execute_c 2 none qR_Cd ad) (S : qS) (a1 : Int32) (hf : fCd_execute S a1 = some res) : ∀ (H : Heap) (locs : List Loc) (ls : Array Slot), qG D qCl (cT K) A s (cW h K S) H locs → lv_has ls 2 [(0, .ref (h 16)), (1, .int a1)] → W p l e ({ frames := 5, cells := 0, slots := 0, locals := 127 }) s m args below meth c H locs 0 0 (MQ below (qQv D qCl (cT K) (cW h K) A res) args s 0 0 A) (F0 m 0 ls []) := by
  intro H locs ls G hl
  unfold fCd_execute at hf
  refine lv_iload_n C.1 C.2.1 qm_Cd_execute_0 rfl (lv_at hl 1 rfl) ?_
  by_cases b1_2 : a1 = 2
  · have hf := if_t b1_2 hf
    refine lv_lookup (tgt := 100) (off := 99) C.1 C.2.1 qm_Cd_execute_1 (by decide) (by rw [b1_2]; rfl) (by decide) ?_
    exact wCd_execute_100 C S a1 hf _ _ _ G (lv_sub hl [0, 1] rfl)
  have hf := if_f b1_2 hf
  by_cases b1_3 : a1 = 3
  · have hf := if_t b1_3 hf
    refine lv_lookup (tgt := 107) (off := 106) C.1 C.2.1 qm_Cd_execute_1 (by decide) (by rw [b1_3]; rfl) (by decide) ?_
    exact wCd_execute_107 C S a1 hf _ _ _ G (lv_sub hl [0, 1] rfl)
  have hf := if_f b1_3 hf
  by_cases b1_4 : a1 = 4
  · have hf := if_t b1_4 hf
    refine lv_lookup (tgt := 119) (off := 118) C.1 C.2.1 qm_Cd_execute_1 (by decide) (by rw [b1_4]; rfl) (by decide) ?_
    exact wCd_execute_119 C S a1 hf _ _ _ G (lv_sub hl [0, 1] rfl)
  have hf := if_f b1_4 hf
  by_cases b1_5 : a1 = 5
  · have hf := if_t b1_5 hf
    refine lv_lookup (tgt := 126) (off := 125) C.1 C.2.1 qm_Cd_execute_1 (by decide) (by rw [b1_5]; rfl) (by decide) ?_
    exact wCd_execute_126 C S a1 hf _ _ _ G (lv_sub hl [0, 1] rfl)
  have hf := if_f b1_5 hf
  by_cases b1_10 : a1 = 10
  · have hf := if_t b1_10 hf
    refine lv_lookup (tgt := 145) (off := 144) C.1 C.2.1 qm_Cd_execute_1 (by decide) (by rw [b1_10]; rfl) (by decide) ?_
    exact wCd_execute_145 C S a1 hf _ _ _ G (lv_sub hl [0, 1] rfl)
  have hf := if_f b1_10 hf
  by_cases b1_11 : a1 = 11
  · have hf := if_t b1_11 hf
    refine lv_lookup (tgt := 166) (off := 165) C.1 C.2.1 qm_Cd_execute_1 (by decide) (by rw [b1_11]; rfl) (by decide) ?_
    exact wCd_execute_166 C S a1 hf _ _ _ G (lv_sub hl [0, 1] rfl)
  have hf := if_f b1_11 hf
  by_cases b1_12 : a1 = 12
  · have hf := if_t b1_12 hf
    refine lv_lookup (tgt := 180) (off := 179) C.1 C.2.1 qm_Cd_execute_1 (by decide) (by rw [b1_12]; rfl) (by decide) ?_
    exact wCd_execute_180 C S a1 hf _ _ _ G (lv_sub hl [0, 1] rfl)
  have hf := if_f b1_12 hf
  by_cases b1_41 : a1 = 41
  · have hf := if_t b1_41 hf
    refine lv_lookup (tgt := 198) (off := 197) C.1 C.2.1 qm_Cd_execute_1 (by decide) (by rw [b1_41]; rfl) (by decide) ?_
    exact wCd_execute_198 C S a1 hf _ _ _ G (lv_sub hl [0, 1] rfl)
  have hf := if_f b1_41 hf
  by_cases b1_68 : a1 = 68
  · have hf := if_t b1_68 hf
    refine lv_lookup (tgt := 220) (off := 219) C.1 C.2.1 qm_Cd_execute_1 (by decide) (by rw [b1_68]; rfl) (by decide) ?_
    exact wCd_execute_220 C S a1 hf _ _ _ G (lv_sub hl [0, 1] rfl)
  have hf := if_f b1_68 hf
  by_cases b1_69 : a1 = 69
  · have hf := if_t b1_69 hf
    refine lv_lookup (tgt := 227) (off := 226) C.1 C.2.1 qm_Cd_execute_1 (by decide) (by rw [b1_69]; rfl) (by decide) ?_
    exact wCd_execute_227 C S a1 hf _ _ _ G (lv_sub hl [0, 1] rfl)
  have hf := if_f b1_69 hf
  by_cases b1_70 : a1 = 70
  · have hf := if_t b1_70 hf
    refine lv_lookup (tgt := 227) (off := 226) C.1 C.2.1 qm_Cd_execute_1 (by decide) (by rw [b1_70]; rfl) (by decide) ?_
    exact wCd_execute_227 C S a1 hf _ _ _ G (lv_sub hl [0, 1] rfl)
  have hf := if_f b1_70 hf
  refine lv_lookup (tgt := 245) (off := 244) C.1 C.2.1 qm_Cd_execute_1 (by decide) (by show Op.lookupswitch.offset [(2, 99), (3, 106), (4, 118), (5, 125), (10, 144), (11, 165), (12, 179), (41, 197), (68, 219), (69, 226), (70, 226)] 244 _ = _; rw [lv_osw b1_2 (by decide), lv_osw b1_3 (by decide), lv_osw b1_4 (by decide), lv_osw b1_5 (by decide), lv_osw b1_10 (by decide), lv_osw b1_11 (by decide), lv_osw b1_12 (by decide), lv_osw b1_41 (by decide), lv_osw b1_68 (by decide), lv_osw b1_69 (by decide), lv_osw b1_70 (by decide)]; rfl) (by decide) ?_
  exact wCd_execute_245 C S a1 hf _ _ _ G (lv_sub hl [0, 1] rfl)
theorem kCd_execute {l : Launch} {ad : Nat → Nat} {D : va_G} {h : Nat → Nat} {K : Nat → ClassId} {res : qS} {S : qS} {a1 : Int32} (hf : fCd_execute S a1 = some res) : qMv l qm_Cd_execute qm_Cd_execute_c 2 5 127 D qCl (cT K) ad (cW h K) [.ref (h 16), .int a1] S res := qMv_of (by decide) (Nat.le_of_ble_eq_true rfl) (fun _ _ _ _ _ _ _ _ _ _ C G hl => wCd_execute C S a1 hf _ _ _ G hl)
