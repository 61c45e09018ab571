theorem qm_M_mark_0 : decode qm_M_mark_c 0 = .ok (.aload_n 0, 1) := by decide +kernel
theorem qm_M_mark_1 : decode qm_M_mark_c 1 = .ok (.aload_n 0, 1) := by decide +kernel
theorem qm_M_mark_2 : decode qm_M_mark_c 2 = .ok (.getfield 44, 3) := by decide +kernel
theorem qm_M_mark_5 : decode qm_M_mark_c 5 = .ok (.bipush (-16), 2) := by decide +kernel
theorem qm_M_mark_7 : decode qm_M_mark_c 7 = .ok (.iand, 1) := by decide +kernel
theorem qm_M_mark_8 : decode qm_M_mark_c 8 = .ok (.iload_n 1, 1) := by decide +kernel
theorem qm_M_mark_9 : decode qm_M_mark_c 9 = .ok (.ifCond .ge 8, 3) := by decide +kernel
theorem qm_M_mark_12 : decode qm_M_mark_c 12 = .ok (.bipush 8, 2) := by decide +kernel
theorem qm_M_mark_14 : decode qm_M_mark_c 14 = .ok (.goto 4, 3) := by decide +kernel
theorem qm_M_mark_17 : decode qm_M_mark_c 17 = .ok (.iconst 0, 1) := by decide +kernel
theorem qm_M_mark_18 : decode qm_M_mark_c 18 = .ok (.ior, 1) := by decide +kernel
theorem qm_M_mark_19 : decode qm_M_mark_c 19 = .ok (.iload_n 1, 1) := by decide +kernel
theorem qm_M_mark_20 : decode qm_M_mark_c 20 = .ok (.ifCond .ne 7, 3) := by decide +kernel
theorem qm_M_mark_23 : decode qm_M_mark_c 23 = .ok (.iconst 4, 1) := by decide +kernel
theorem qm_M_mark_24 : decode qm_M_mark_c 24 = .ok (.goto 4, 3) := by decide +kernel
theorem qm_M_mark_27 : decode qm_M_mark_c 27 = .ok (.iconst 0, 1) := by decide +kernel
theorem qm_M_mark_28 : decode qm_M_mark_c 28 = .ok (.ior, 1) := by decide +kernel
theorem qm_M_mark_29 : decode qm_M_mark_c 29 = .ok (.iload_n 2, 1) := by decide +kernel
theorem qm_M_mark_30 : decode qm_M_mark_c 30 = .ok (.ifCond .eq 7, 3) := by decide +kernel
theorem qm_M_mark_33 : decode qm_M_mark_c 33 = .ok (.iconst 2, 1) := by decide +kernel
theorem qm_M_mark_34 : decode qm_M_mark_c 34 = .ok (.goto 4, 3) := by decide +kernel
theorem qm_M_mark_37 : decode qm_M_mark_c 37 = .ok (.iconst 0, 1) := by decide +kernel
theorem qm_M_mark_38 : decode qm_M_mark_c 38 = .ok (.ior, 1) := by decide +kernel
theorem qm_M_mark_39 : decode qm_M_mark_c 39 = .ok (.iload_n 3, 1) := by decide +kernel
theorem qm_M_mark_40 : decode qm_M_mark_c 40 = .ok (.ifCond .eq 7, 3) := by decide +kernel
theorem qm_M_mark_43 : decode qm_M_mark_c 43 = .ok (.iconst 1, 1) := by decide +kernel
theorem qm_M_mark_44 : decode qm_M_mark_c 44 = .ok (.goto 4, 3) := by decide +kernel
theorem qm_M_mark_47 : decode qm_M_mark_c 47 = .ok (.iconst 0, 1) := by decide +kernel
theorem qm_M_mark_48 : decode qm_M_mark_c 48 = .ok (.ior, 1) := by decide +kernel
theorem qm_M_mark_49 : decode qm_M_mark_c 49 = .ok (.putfield 44, 3) := by decide +kernel
theorem qm_M_mark_52 : decode qm_M_mark_c 52 = .ok (.return_, 1) := by decide +kernel
theorem qm_M_write_0 : decode qm_M_write_c 0 = .ok (.iconst 0, 1) := by decide +kernel
theorem qm_M_write_1 : decode qm_M_write_c 1 = .ok (.istore 4, 2) := by decide +kernel
theorem qm_M_write_3 : decode qm_M_write_c 3 = .ok (.iload 4, 2) := by decide +kernel
theorem qm_M_write_5 : decode qm_M_write_c 5 = .ok (.iload_n 3, 1) := by decide +kernel
theorem qm_M_write_6 : decode qm_M_write_c 6 = .ok (.if_icmp .ge 84, 3) := by decide +kernel
theorem qm_M_write_9 : decode qm_M_write_c 9 = .ok (.aload_n 0, 1) := by decide +kernel
theorem qm_M_write_10 : decode qm_M_write_c 10 = .ok (.getfield 34, 3) := by decide +kernel
theorem qm_M_write_13 : decode qm_M_write_c 13 = .ok (.iload 4, 2) := by decide +kernel
theorem qm_M_write_15 : decode qm_M_write_c 15 = .ok (.aload_n 0, 1) := by decide +kernel
theorem qm_M_write_16 : decode qm_M_write_c 16 = .ok (.iload_n 1, 1) := by decide +kernel
theorem qm_M_write_17 : decode qm_M_write_c 17 = .ok (.iload 4, 2) := by decide +kernel
theorem qm_M_write_19 : decode qm_M_write_c 19 = .ok (.iadd, 1) := by decide +kernel
theorem qm_M_write_20 : decode qm_M_write_c 20 = .ok (.iconst 1, 1) := by decide +kernel
theorem qm_M_write_21 : decode qm_M_write_c 21 = .ok (.aload_n 0, 1) := by decide +kernel
theorem qm_M_write_22 : decode qm_M_write_c 22 = .ok (.invokevirtual 69, 3) := by decide +kernel
theorem qm_M_write_25 : decode qm_M_write_c 25 = .ok (.invokevirtual 73, 3) := by decide +kernel
theorem qm_M_write_28 : decode qm_M_write_c 28 = .ok (.iastore, 1) := by decide +kernel
theorem qm_M_write_29 : decode qm_M_write_c 29 = .ok (.aload_n 0, 1) := by decide +kernel
theorem qm_M_write_30 : decode qm_M_write_c 30 = .ok (.getfield 37, 3) := by decide +kernel
theorem qm_M_write_33 : decode qm_M_write_c 33 = .ok (.iload 4, 2) := by decide +kernel
theorem qm_M_write_35 : decode qm_M_write_c 35 = .ok (.aload_n 0, 1) := by decide +kernel
theorem qm_M_write_36 : decode qm_M_write_c 36 = .ok (.getfield 48, 3) := by decide +kernel
theorem qm_M_write_39 : decode qm_M_write_c 39 = .ok (.iastore, 1) := by decide +kernel
theorem qm_M_write_40 : decode qm_M_write_c 40 = .ok (.aload_n 0, 1) := by decide +kernel
theorem qm_M_write_41 : decode qm_M_write_c 41 = .ok (.getfield 34, 3) := by decide +kernel
theorem qm_M_write_44 : decode qm_M_write_c 44 = .ok (.iload 4, 2) := by decide +kernel
theorem qm_M_write_46 : decode qm_M_write_c 46 = .ok (.iaload, 1) := by decide +kernel
theorem qm_M_write_47 : decode qm_M_write_c 47 = .ok (.ifCond .ge 37, 3) := by decide +kernel
theorem qm_M_write_50 : decode qm_M_write_c 50 = .ok (.aload_n 0, 1) := by decide +kernel
theorem qm_M_write_51 : decode qm_M_write_c 51 = .ok (.bipush (-10), 2) := by decide +kernel
theorem qm_M_write_53 : decode qm_M_write_c 53 = .ok (.aload_n 0, 1) := by decide +kernel
theorem qm_M_write_54 : decode qm_M_write_c 54 = .ok (.getfield 34, 3) := by decide +kernel
theorem qm_M_write_57 : decode qm_M_write_c 57 = .ok (.iload 4, 2) := by decide +kernel
theorem qm_M_write_59 : decode qm_M_write_c 59 = .ok (.iaload, 1) := by decide +kernel
theorem qm_M_write_60 : decode qm_M_write_c 60 = .ok (.isub, 1) := by decide +kernel
theorem qm_M_write_61 : decode qm_M_write_c 61 = .ok (.bipush 10, 2) := by decide +kernel
theorem qm_M_write_63 : decode qm_M_write_c 63 = .ok (.idiv, 1) := by decide +kernel
theorem qm_M_write_64 : decode qm_M_write_c 64 = .ok (.iload_n 1, 1) := by decide +kernel
theorem qm_M_write_65 : decode qm_M_write_c 65 = .ok (.iload 4, 2) := by decide +kernel
theorem qm_M_write_67 : decode qm_M_write_c 67 = .ok (.iadd, 1) := by decide +kernel
theorem qm_M_write_68 : decode qm_M_write_c 68 = .ok (.bipush (-10), 2) := by decide +kernel
theorem qm_M_write_70 : decode qm_M_write_c 70 = .ok (.aload_n 0, 1) := by decide +kernel
theorem qm_M_write_71 : decode qm_M_write_c 71 = .ok (.getfield 34, 3) := by decide +kernel
theorem qm_M_write_74 : decode qm_M_write_c 74 = .ok (.iload 4, 2) := by decide +kernel
theorem qm_M_write_76 : decode qm_M_write_c 76 = .ok (.iaload, 1) := by decide +kernel
theorem qm_M_write_77 : decode qm_M_write_c 77 = .ok (.isub, 1) := by decide +kernel
theorem qm_M_write_78 : decode qm_M_write_c 78 = .ok (.bipush 10, 2) := by decide +kernel
theorem qm_M_write_80 : decode qm_M_write_c 80 = .ok (.irem, 1) := by decide +kernel
theorem qm_M_write_81 : decode qm_M_write_c 81 = .ok (.invokevirtual 77, 3) := by decide +kernel
theorem qm_M_write_84 : decode qm_M_write_c 84 = .ok (.iinc 4 1, 3) := by decide +kernel
theorem qm_M_write_87 : decode qm_M_write_c 87 = .ok (.goto (-84), 3) := by decide +kernel
theorem qm_M_write_90 : decode qm_M_write_c 90 = .ok (.iconst 0, 1) := by decide +kernel
theorem qm_M_write_91 : decode qm_M_write_c 91 = .ok (.istore 4, 2) := by decide +kernel
theorem qm_M_write_93 : decode qm_M_write_c 93 = .ok (.iload 4, 2) := by decide +kernel
theorem qm_M_write_95 : decode qm_M_write_c 95 = .ok (.iload_n 3, 1) := by decide +kernel
theorem qm_M_write_96 : decode qm_M_write_c 96 = .ok (.if_icmp .ge 71, 3) := by decide +kernel
theorem qm_M_write_99 : decode qm_M_write_c 99 = .ok (.aload_n 0, 1) := by decide +kernel
theorem qm_M_write_100 : decode qm_M_write_c 100 = .ok (.getfield 60, 3) := by decide +kernel
theorem qm_M_write_103 : decode qm_M_write_c 103 = .ok (.ifCond .ne 64, 3) := by decide +kernel
theorem qm_M_write_106 : decode qm_M_write_c 106 = .ok (.aload_n 0, 1) := by decide +kernel
theorem qm_M_write_107 : decode qm_M_write_c 107 = .ok (.getfield 37, 3) := by decide +kernel
theorem qm_M_write_110 : decode qm_M_write_c 110 = .ok (.iload 4, 2) := by decide +kernel
theorem qm_M_write_112 : decode qm_M_write_c 112 = .ok (.iaload, 1) := by decide +kernel
theorem qm_M_write_113 : decode qm_M_write_c 113 = .ok (.ifCond .lt 25, 3) := by decide +kernel
theorem qm_M_write_116 : decode qm_M_write_c 116 = .ok (.aload_n 0, 1) := by decide +kernel
theorem qm_M_write_117 : decode qm_M_write_c 117 = .ok (.getfield 7, 3) := by decide +kernel
theorem qm_M_write_120 : decode qm_M_write_c 120 = .ok (.aload_n 0, 1) := by decide +kernel
theorem qm_M_write_121 : decode qm_M_write_c 121 = .ok (.getfield 37, 3) := by decide +kernel
theorem qm_M_write_124 : decode qm_M_write_c 124 = .ok (.iload 4, 2) := by decide +kernel
theorem qm_M_write_126 : decode qm_M_write_c 126 = .ok (.iaload, 1) := by decide +kernel
theorem qm_M_write_127 : decode qm_M_write_c 127 = .ok (.iconst 3, 1) := by decide +kernel
theorem qm_M_write_128 : decode qm_M_write_c 128 = .ok (.iadd, 1) := by decide +kernel
theorem qm_M_write_129 : decode qm_M_write_c 129 = .ok (.sipush 2047, 3) := by decide +kernel
theorem qm_M_write_132 : decode qm_M_write_c 132 = .ok (.iand, 1) := by decide +kernel
theorem qm_M_write_133 : decode qm_M_write_c 133 = .ok (.dup2, 1) := by decide +kernel
theorem qm_M_write_134 : decode qm_M_write_c 134 = .ok (.iaload, 1) := by decide +kernel
theorem qm_M_write_135 : decode qm_M_write_c 135 = .ok (.iconst 4, 1) := by decide +kernel
theorem qm_M_write_136 : decode qm_M_write_c 136 = .ok (.ior, 1) := by decide +kernel
theorem qm_M_write_137 : decode qm_M_write_c 137 = .ok (.iastore, 1) := by decide +kernel
theorem qm_M_write_138 : decode qm_M_write_c 138 = .ok (.aload_n 0, 1) := by decide +kernel
theorem qm_M_write_139 : decode qm_M_write_c 139 = .ok (.getfield 7, 3) := by decide +kernel
theorem qm_M_write_142 : decode qm_M_write_c 142 = .ok (.aload_n 0, 1) := by decide +kernel
theorem qm_M_write_143 : decode qm_M_write_c 143 = .ok (.getfield 34, 3) := by decide +kernel
theorem qm_M_write_146 : decode qm_M_write_c 146 = .ok (.iload 4, 2) := by decide +kernel
theorem qm_M_write_148 : decode qm_M_write_c 148 = .ok (.iaload, 1) := by decide +kernel
theorem qm_M_write_149 : decode qm_M_write_c 149 = .ok (.iload_n 2, 1) := by decide +kernel
theorem qm_M_write_150 : decode qm_M_write_c 150 = .ok (.bipush 8, 2) := by decide +kernel
theorem qm_M_write_152 : decode qm_M_write_c 152 = .ok (.iload 4, 2) := by decide +kernel
theorem qm_M_write_154 : decode qm_M_write_c 154 = .ok (.imul, 1) := by decide +kernel
theorem qm_M_write_155 : decode qm_M_write_c 155 = .ok (.ishr, 1) := by decide +kernel
theorem qm_M_write_156 : decode qm_M_write_c 156 = .ok (.sipush 255, 3) := by decide +kernel
theorem qm_M_write_159 : decode qm_M_write_c 159 = .ok (.iand, 1) := by decide +kernel
theorem qm_M_write_160 : decode qm_M_write_c 160 = .ok (.iastore, 1) := by decide +kernel
theorem qm_M_write_161 : decode qm_M_write_c 161 = .ok (.iinc 4 1, 3) := by decide +kernel
theorem qm_M_write_164 : decode qm_M_write_c 164 = .ok (.goto (-71), 3) := by decide +kernel
theorem qm_M_write_167 : decode qm_M_write_c 167 = .ok (.return_, 1) := by decide +kernel
theorem qm_M_give_0 : decode qm_M_give_c 0 = .ok (.aload_n 0, 1) := by decide +kernel
theorem qm_M_give_1 : decode qm_M_give_c 1 = .ok (.getfield 28, 3) := by decide +kernel
theorem qm_M_give_4 : decode qm_M_give_c 4 = .ok (.iload_n 1, 1) := by decide +kernel
theorem qm_M_give_5 : decode qm_M_give_c 5 = .ok (.iaload, 1) := by decide +kernel
theorem qm_M_give_6 : decode qm_M_give_c 6 = .ok (.bipush 16, 2) := by decide +kernel
theorem qm_M_give_8 : decode qm_M_give_c 8 = .ok (.if_icmp .ne 18, 3) := by decide +kernel
theorem qm_M_give_11 : decode qm_M_give_c 11 = .ok (.aload_n 0, 1) := by decide +kernel
theorem qm_M_give_12 : decode qm_M_give_c 12 = .ok (.aload_n 0, 1) := by decide +kernel
theorem qm_M_give_13 : decode qm_M_give_c 13 = .ok (.getfield 31, 3) := by decide +kernel
theorem qm_M_give_16 : decode qm_M_give_c 16 = .ok (.iload_n 1, 1) := by decide +kernel
theorem qm_M_give_17 : decode qm_M_give_c 17 = .ok (.iaload, 1) := by decide +kernel
theorem qm_M_give_18 : decode qm_M_give_c 18 = .ok (.iload_n 2, 1) := by decide +kernel
theorem qm_M_give_19 : decode qm_M_give_c 19 = .ok (.iload_n 3, 1) := by decide +kernel
theorem qm_M_give_20 : decode qm_M_give_c 20 = .ok (.invokevirtual 87, 3) := by decide +kernel
theorem qm_M_give_23 : decode qm_M_give_c 23 = .ok (.goto 42, 3) := by decide +kernel
theorem qm_M_give_26 : decode qm_M_give_c 26 = .ok (.aload_n 0, 1) := by decide +kernel
theorem qm_M_give_27 : decode qm_M_give_c 27 = .ok (.aload_n 0, 1) := by decide +kernel
theorem qm_M_give_28 : decode qm_M_give_c 28 = .ok (.getfield 28, 3) := by decide +kernel
theorem qm_M_give_31 : decode qm_M_give_c 31 = .ok (.iload_n 1, 1) := by decide +kernel
theorem qm_M_give_32 : decode qm_M_give_c 32 = .ok (.iaload, 1) := by decide +kernel
theorem qm_M_give_33 : decode qm_M_give_c 33 = .ok (.iload_n 3, 1) := by decide +kernel
theorem qm_M_give_34 : decode qm_M_give_c 34 = .ok (.iconst 4, 1) := by decide +kernel
theorem qm_M_give_35 : decode qm_M_give_c 35 = .ok (.if_icmp .ne 7, 3) := by decide +kernel
theorem qm_M_give_38 : decode qm_M_give_c 38 = .ok (.iload_n 2, 1) := by decide +kernel
theorem qm_M_give_39 : decode qm_M_give_c 39 = .ok (.goto 23, 3) := by decide +kernel
theorem qm_M_give_42 : decode qm_M_give_c 42 = .ok (.aload_n 0, 1) := by decide +kernel
theorem qm_M_give_43 : decode qm_M_give_c 43 = .ok (.aload_n 0, 1) := by decide +kernel
theorem qm_M_give_44 : decode qm_M_give_c 44 = .ok (.getfield 28, 3) := by decide +kernel
theorem qm_M_give_47 : decode qm_M_give_c 47 = .ok (.iload_n 1, 1) := by decide +kernel
theorem qm_M_give_48 : decode qm_M_give_c 48 = .ok (.iaload, 1) := by decide +kernel
theorem qm_M_give_49 : decode qm_M_give_c 49 = .ok (.invokevirtual 84, 3) := by decide +kernel
theorem qm_M_give_52 : decode qm_M_give_c 52 = .ok (.sipush (-256), 3) := by decide +kernel
theorem qm_M_give_55 : decode qm_M_give_c 55 = .ok (.iand, 1) := by decide +kernel
theorem qm_M_give_56 : decode qm_M_give_c 56 = .ok (.iload_n 2, 1) := by decide +kernel
theorem qm_M_give_57 : decode qm_M_give_c 57 = .ok (.sipush 255, 3) := by decide +kernel
theorem qm_M_give_60 : decode qm_M_give_c 60 = .ok (.iand, 1) := by decide +kernel
theorem qm_M_give_61 : decode qm_M_give_c 61 = .ok (.ior, 1) := by decide +kernel
theorem qm_M_give_62 : decode qm_M_give_c 62 = .ok (.invokevirtual 90, 3) := by decide +kernel
theorem qm_M_give_65 : decode qm_M_give_c 65 = .ok (.return_, 1) := by decide +kernel
theorem qm_M_innerOnes_0 : decode qm_M_innerOnes_c 0 = .ok (.aload_n 0, 1) := by decide +kernel
theorem qm_M_innerOnes_1 : decode qm_M_innerOnes_c 1 = .ok (.getfield 25, 3) := by decide +kernel
theorem qm_M_innerOnes_4 : decode qm_M_innerOnes_c 4 = .ok (.iload_n 1, 1) := by decide +kernel
theorem qm_M_innerOnes_5 : decode qm_M_innerOnes_c 5 = .ok (.bipush 10, 2) := by decide +kernel
theorem qm_M_innerOnes_7 : decode qm_M_innerOnes_c 7 = .ok (.if_icmp .ne 7, 3) := by decide +kernel
theorem qm_M_innerOnes_10 : decode qm_M_innerOnes_c 10 = .ok (.iconst 1, 1) := by decide +kernel
theorem qm_M_innerOnes_11 : decode qm_M_innerOnes_c 11 = .ok (.goto 4, 3) := by decide +kernel
theorem qm_M_innerOnes_14 : decode qm_M_innerOnes_c 14 = .ok (.iconst 0, 1) := by decide +kernel
theorem qm_M_innerOnes_15 : decode qm_M_innerOnes_c 15 = .ok (.iaload, 1) := by decide +kernel
theorem qm_M_innerOnes_16 : decode qm_M_innerOnes_c 16 = .ok (.istore_n 2, 1) := by decide +kernel
theorem qm_M_innerOnes_17 : decode qm_M_innerOnes_c 17 = .ok (.iload_n 2, 1) := by decide +kernel
theorem qm_M_innerOnes_18 : decode qm_M_innerOnes_c 18 = .ok (.invokestatic 133, 3) := by decide +kernel
theorem qm_M_innerOnes_21 : decode qm_M_innerOnes_c 21 = .ok (.ifCond .eq 38, 3) := by decide +kernel
theorem qm_M_innerOnes_24 : decode qm_M_innerOnes_c 24 = .ok (.iload_n 1, 1) := by decide +kernel
theorem qm_M_innerOnes_25 : decode qm_M_innerOnes_c 25 = .ok (.bipush 11, 2) := by decide +kernel
theorem qm_M_innerOnes_27 : decode qm_M_innerOnes_c 27 = .ok (.if_icmp .eq 28, 3) := by decide +kernel
theorem qm_M_innerOnes_30 : decode qm_M_innerOnes_c 30 = .ok (.iload_n 2, 1) := by decide +kernel
theorem qm_M_innerOnes_31 : decode qm_M_innerOnes_c 31 = .ok (.bipush 56, 2) := by decide +kernel
theorem qm_M_innerOnes_33 : decode qm_M_innerOnes_c 33 = .ok (.if_icmp .ne 22, 3) := by decide +kernel
theorem qm_M_innerOnes_36 : decode qm_M_innerOnes_c 36 = .ok (.aload_n 0, 1) := by decide +kernel
theorem qm_M_innerOnes_37 : decode qm_M_innerOnes_c 37 = .ok (.getfield 25, 3) := by decide +kernel
theorem qm_M_innerOnes_40 : decode qm_M_innerOnes_c 40 = .ok (.iconst 0, 1) := by decide +kernel
theorem qm_M_innerOnes_41 : decode qm_M_innerOnes_c 41 = .ok (.iaload, 1) := by decide +kernel
theorem qm_M_innerOnes_42 : decode qm_M_innerOnes_c 42 = .ok (.ifCond .eq 13, 3) := by decide +kernel
theorem qm_M_innerOnes_45 : decode qm_M_innerOnes_c 45 = .ok (.aload_n 0, 1) := by decide +kernel
theorem qm_M_innerOnes_46 : decode qm_M_innerOnes_c 46 = .ok (.getfield 25, 3) := by decide +kernel
theorem qm_M_innerOnes_49 : decode qm_M_innerOnes_c 49 = .ok (.iconst 0, 1) := by decide +kernel
theorem qm_M_innerOnes_50 : decode qm_M_innerOnes_c 50 = .ok (.iaload, 1) := by decide +kernel
theorem qm_M_innerOnes_51 : decode qm_M_innerOnes_c 51 = .ok (.iconst 1, 1) := by decide +kernel
theorem qm_M_innerOnes_52 : decode qm_M_innerOnes_c 52 = .ok (.if_icmp .ne 7, 3) := by decide +kernel
theorem qm_M_innerOnes_55 : decode qm_M_innerOnes_c 55 = .ok (.iconst 1, 1) := by decide +kernel
theorem qm_M_innerOnes_56 : decode qm_M_innerOnes_c 56 = .ok (.goto 4, 3) := by decide +kernel
theorem qm_M_innerOnes_59 : decode qm_M_innerOnes_c 59 = .ok (.iconst 0, 1) := by decide +kernel
theorem qm_M_innerOnes_60 : decode qm_M_innerOnes_c 60 = .ok (.istore_n 3, 1) := by decide +kernel
theorem qm_M_innerOnes_61 : decode qm_M_innerOnes_c 61 = .ok (.iload_n 3, 1) := by decide +kernel
theorem qm_M_innerOnes_62 : decode qm_M_innerOnes_c 62 = .ok (.ifCond .ne 10, 3) := by decide +kernel
theorem qm_M_innerOnes_65 : decode qm_M_innerOnes_c 65 = .ok (.aload_n 0, 1) := by decide +kernel
theorem qm_M_innerOnes_66 : decode qm_M_innerOnes_c 66 = .ok (.iconst 2, 1) := by decide +kernel
theorem qm_M_innerOnes_67 : decode qm_M_innerOnes_c 67 = .ok (.iconst 0, 1) := by decide +kernel
theorem qm_M_innerOnes_68 : decode qm_M_innerOnes_c 68 = .ok (.iconst 0, 1) := by decide +kernel
theorem qm_M_innerOnes_69 : decode qm_M_innerOnes_c 69 = .ok (.invokevirtual 77, 3) := by decide +kernel
theorem qm_M_innerOnes_72 : decode qm_M_innerOnes_c 72 = .ok (.aload_n 0, 1) := by decide +kernel
theorem qm_M_innerOnes_73 : decode qm_M_innerOnes_c 73 = .ok (.getfield 60, 3) := by decide +kernel
theorem qm_M_innerOnes_76 : decode qm_M_innerOnes_c 76 = .ok (.ifCond .eq 4, 3) := by decide +kernel
theorem qm_M_innerOnes_79 : decode qm_M_innerOnes_c 79 = .ok (.return_, 1) := by decide +kernel
theorem qm_M_innerOnes_80 : decode qm_M_innerOnes_c 80 = .ok (.iload_n 1, 1) := by decide +kernel
theorem qm_M_innerOnes_81 : decode qm_M_innerOnes_c 81 = .ok (.bipush 10, 2) := by decide +kernel
theorem qm_M_innerOnes_83 : decode qm_M_innerOnes_c 83 = .ok (.if_icmp .ne 15, 3) := by decide +kernel
theorem qm_M_innerOnes_86 : decode qm_M_innerOnes_c 86 = .ok (.aload_n 0, 1) := by decide +kernel
theorem qm_M_innerOnes_87 : decode qm_M_innerOnes_c 87 = .ok (.getfield 16, 3) := by decide +kernel
theorem qm_M_innerOnes_90 : decode qm_M_innerOnes_c 90 = .ok (.iload_n 2, 1) := by decide +kernel
theorem qm_M_innerOnes_91 : decode qm_M_innerOnes_c 91 = .ok (.aload_n 0, 1) := by decide +kernel
theorem qm_M_innerOnes_92 : decode qm_M_innerOnes_c 92 = .ok (.getfield 25, 3) := by decide +kernel
theorem qm_M_innerOnes_95 : decode qm_M_innerOnes_c 95 = .ok (.iconst 0, 1) := by decide +kernel
theorem qm_M_innerOnes_96 : decode qm_M_innerOnes_c 96 = .ok (.iaload, 1) := by decide +kernel
theorem qm_M_innerOnes_97 : decode qm_M_innerOnes_c 97 = .ok (.iastore, 1) := by decide +kernel
theorem qm_M_innerOnes_98 : decode qm_M_innerOnes_c 98 = .ok (.aload_n 0, 1) := by decide +kernel
theorem qm_M_innerOnes_99 : decode qm_M_innerOnes_c 99 = .ok (.getfield 16, 3) := by decide +kernel
theorem qm_M_innerOnes_102 : decode qm_M_innerOnes_c 102 = .ok (.iload_n 2, 1) := by decide +kernel
theorem qm_M_innerOnes_103 : decode qm_M_innerOnes_c 103 = .ok (.iaload, 1) := by decide +kernel
theorem qm_M_innerOnes_104 : decode qm_M_innerOnes_c 104 = .ok (.istore 4, 2) := by decide +kernel
theorem qm_M_innerOnes_106 : decode qm_M_innerOnes_c 106 = .ok (.iload_n 1, 1) := by decide +kernel
theorem qm_M_innerOnes_107 : decode qm_M_innerOnes_c 107 = .ok (.bipush 11, 2) := by decide +kernel
theorem qm_M_innerOnes_109 : decode qm_M_innerOnes_c 109 = .ok (.if_icmp .ne 11, 3) := by decide +kernel
theorem qm_M_innerOnes_112 : decode qm_M_innerOnes_c 112 = .ok (.aload_n 0, 1) := by decide +kernel
theorem qm_M_innerOnes_113 : decode qm_M_innerOnes_c 113 = .ok (.iload 4, 2) := by decide +kernel
theorem qm_M_innerOnes_115 : decode qm_M_innerOnes_c 115 = .ok (.iconst 0, 1) := by decide +kernel
theorem qm_M_innerOnes_116 : decode qm_M_innerOnes_c 116 = .ok (.iconst 0, 1) := by decide +kernel
theorem qm_M_innerOnes_117 : decode qm_M_innerOnes_c 117 = .ok (.invokevirtual 113, 3) := by decide +kernel
theorem qm_M_innerOnes_120 : decode qm_M_innerOnes_c 120 = .ok (.iload_n 1, 1) := by decide +kernel
theorem qm_M_innerOnes_121 : decode qm_M_innerOnes_c 121 = .ok (.bipush 11, 2) := by decide +kernel
theorem qm_M_innerOnes_123 : decode qm_M_innerOnes_c 123 = .ok (.if_icmp .ne 11, 3) := by decide +kernel
theorem qm_M_innerOnes_126 : decode qm_M_innerOnes_c 126 = .ok (.aload_n 0, 1) := by decide +kernel
theorem qm_M_innerOnes_127 : decode qm_M_innerOnes_c 127 = .ok (.iconst 1, 1) := by decide +kernel
theorem qm_M_innerOnes_128 : decode qm_M_innerOnes_c 128 = .ok (.iload 4, 2) := by decide +kernel
theorem qm_M_innerOnes_130 : decode qm_M_innerOnes_c 130 = .ok (.iconst 4, 1) := by decide +kernel
theorem qm_M_innerOnes_131 : decode qm_M_innerOnes_c 131 = .ok (.invokevirtual 117, 3) := by decide +kernel
theorem qm_M_innerOnes_134 : decode qm_M_innerOnes_c 134 = .ok (.return_, 1) := by decide +kernel
theorem qm_M_has_0 : decode qm_M_has_c 0 = .ok (.aload_n 0, 1) := by decide +kernel
theorem qm_M_has_1 : decode qm_M_has_c 1 = .ok (.getfield 44, 3) := by decide +kernel
theorem qm_M_has_4 : decode qm_M_has_c 4 = .ok (.iload_n 1, 1) := by decide +kernel
theorem qm_M_has_5 : decode qm_M_has_c 5 = .ok (.ishr, 1) := by decide +kernel
theorem qm_M_has_6 : decode qm_M_has_c 6 = .ok (.iconst 1, 1) := by decide +kernel
theorem qm_M_has_7 : decode qm_M_has_c 7 = .ok (.iand, 1) := by decide +kernel
theorem qm_M_has_8 : decode qm_M_has_c 8 = .ok (.iconst 1, 1) := by decide +kernel
theorem qm_M_has_9 : decode qm_M_has_c 9 = .ok (.if_icmp .ne 7, 3) := by decide +kernel
theorem qm_M_has_12 : decode qm_M_has_c 12 = .ok (.iconst 1, 1) := by decide +kernel
theorem qm_M_has_13 : decode qm_M_has_c 13 = .ok (.goto 4, 3) := by decide +kernel
theorem qm_M_has_16 : decode qm_M_has_c 16 = .ok (.iconst 0, 1) := by decide +kernel
theorem qm_M_has_17 : decode qm_M_has_c 17 = .ok (.ireturn, 1) := by decide +kernel
theorem qm_M_push_0 : decode qm_M_push_c 0 = .ok (.aload_n 0, 1) := by decide +kernel
theorem qm_M_push_1 : decode qm_M_push_c 1 = .ok (.aload_n 0, 1) := by decide +kernel
theorem qm_M_push_2 : decode qm_M_push_c 2 = .ok (.bipush 14, 2) := by decide +kernel
theorem qm_M_push_4 : decode qm_M_push_c 4 = .ok (.invokevirtual 84, 3) := by decide +kernel
theorem qm_M_push_7 : decode qm_M_push_c 7 = .ok (.iconst 4, 1) := by decide +kernel
theorem qm_M_push_8 : decode qm_M_push_c 8 = .ok (.isub, 1) := by decide +kernel
theorem qm_M_push_9 : decode qm_M_push_c 9 = .ok (.iload_n 1, 1) := by decide +kernel
theorem qm_M_push_10 : decode qm_M_push_c 10 = .ok (.iconst 4, 1) := by decide +kernel
theorem qm_M_push_11 : decode qm_M_push_c 11 = .ok (.invokevirtual 87, 3) := by decide +kernel
theorem qm_M_push_14 : decode qm_M_push_c 14 = .ok (.aload_n 0, 1) := by decide +kernel
theorem qm_M_push_15 : decode qm_M_push_c 15 = .ok (.getfield 60, 3) := by decide +kernel
theorem qm_M_push_18 : decode qm_M_push_c 18 = .ok (.ifCond .ne 17, 3) := by decide +kernel
theorem qm_M_push_21 : decode qm_M_push_c 21 = .ok (.aload_n 0, 1) := by decide +kernel
theorem qm_M_push_22 : decode qm_M_push_c 22 = .ok (.bipush 14, 2) := by decide +kernel
theorem qm_M_push_24 : decode qm_M_push_c 24 = .ok (.aload_n 0, 1) := by decide +kernel
theorem qm_M_push_25 : decode qm_M_push_c 25 = .ok (.bipush 14, 2) := by decide +kernel
theorem qm_M_push_27 : decode qm_M_push_c 27 = .ok (.invokevirtual 84, 3) := by decide +kernel
theorem qm_M_push_30 : decode qm_M_push_c 30 = .ok (.iconst 4, 1) := by decide +kernel
theorem qm_M_push_31 : decode qm_M_push_c 31 = .ok (.isub, 1) := by decide +kernel
theorem qm_M_push_32 : decode qm_M_push_c 32 = .ok (.invokevirtual 90, 3) := by decide +kernel
theorem qm_M_push_35 : decode qm_M_push_c 35 = .ok (.return_, 1) := by decide +kernel
set_option maxHeartbeats 4000000 in
set_option maxRecDepth 100000 in
theorem wM_mark_48 {l : Launch} {D : va_G} {h : Nat → Nat} {K : Nat → ClassId} {res : qS} {p : Program} {e : Env} {s : State} {m : MethodId} {args : Array Value} {below : List Frame} {meth : Method} {c : Code} {A : Nat → Prop} {ad : Nat → Nat} (C : qC p s m args meth c qm_M_mark_c 4 none qR_M ad) (S : qS) (y1 : Int32) (y2 : Int32) (hf : fM_mark_48 S y1 y2 = some res) : ∀ (H : Heap) (locs : List Loc) (ls : Array Slot), qG D qCl (mT K) A s (mW h K S) H locs → lv_has ls 4 [] → W p l e ({ frames := 0, cells := 0, slots := 0, locals := 0 }) s m args below meth c H locs 0 0 (MQ below (qQv D qCl (mT K) (mW h K) A res) args s 0 0 A) (F0 m 48 ls [.int y2, .int y1, .ref (h 0)]) := by
  intro H locs ls G hl
  unfold fM_mark_48 at hf
  refine lv_ior C.1 C.2.1 qm_M_mark_48 ?_
  refine q_put (wf := (mW h K)) (S' := (pI S 1 (y1 ||| y2))) C G qi_M qY_M qy_M qn_M 0 rfl rfl 4 (by decide) qz_835 rfl rfl (Nat.le_of_ble_eq_true rfl) rfl qm_M_mark_49 (fun H locs G => ?_)
  exact q_vret (wf := (mW h K)) C G hf qm_M_mark_52
set_option maxHeartbeats 4000000 in
set_option maxRecDepth 100000 in
theorem wM_mark_38 {l : Launch} {D : va_G} {h : Nat → Nat} {K : Nat → ClassId} {res : qS} {p : Program} {e : Env} {s : State} {m : MethodId} {args : Array Value} {below : List Frame} {meth : Method} {c : Code} {A : Nat → Prop} {ad : Nat → Nat} (C : qC p s m args meth c qm_M_mark_c 4 none qR_M ad) (S : qS) (x3 : Int32) (y1 : Int32) (y2 : Int32) (hf : fM_mark_38 S x3 y1 y2 = some res) : ∀ (H : Heap) (locs : List Loc) (ls : Array Slot), qG D qCl (mT K) A s (mW h K S) H locs → lv_has ls 4 [(3, .int x3)] → W p l e ({ frames := 0, cells := 0, slots := 0, locals := 0 }) s m args below meth c H locs 0 0 (MQ below (qQv D qCl (mT K) (mW h K) A res) args s 0 0 A) (F0 m 38 ls [.int y2, .int y1, .ref (h 0)]) := by
  intro H locs ls G hl
  unfold fM_mark_38 at hf
  refine lv_ior C.1 C.2.1 qm_M_mark_38 ?_
  refine lv_iload_n C.1 C.2.1 qm_M_mark_39 rfl (lv_at hl 0 rfl) ?_
  refine lv_if_eq (tgt := 47) C.1 C.2.1 qm_M_mark_40 (by decide) (fun b1 => ?_) (fun b1 => ?_)
  · have hf := if_t b1 hf
    refine lv_iconst (v := 0) C.1 C.2.1 qm_M_mark_47 (by decide) ?_
    exact wM_mark_48 C S (y1 ||| y2) 0 hf _ _ _ G (lv_sub hl [] rfl)
  · have hf := if_f b1 hf
    refine lv_iconst (v := 1) C.1 C.2.1 qm_M_mark_43 (by decide) ?_
    refine lv_goto (tgt := 48) C.1 C.2.1 qm_M_mark_44 (by decide) ?_
    exact wM_mark_48 C S (y1 ||| y2) 1 hf _ _ _ G (lv_sub hl [] rfl)
set_option maxHeartbeats 4000000 in
set_option maxRecDepth 100000 in
theorem wM_mark_28 {l : Launch} {D : va_G} {h : Nat → Nat} {K : Nat → ClassId} {res : qS} {p : Program} {e : Env} {s : State} {m : MethodId} {args : Array Value} {below : List Frame} {meth : Method} {c : Code} {A : Nat → Prop} {ad : Nat → Nat} (C : qC p s m args meth c qm_M_mark_c 4 none qR_M ad) (S : qS) (x2 : Int32) (x3 : Int32) (y1 : Int32) (y2 : Int32) (hf : fM_mark_28 S x2 x3 y1 y2 = some res) : ∀ (H : Heap) (locs : List Loc) (ls : Array Slot), qG D qCl (mT K) A s (mW h K S) H locs → lv_has ls 4 [(2, .int x2), (3, .int x3)] → W p l e ({ frames := 0, cells := 0, slots := 0, locals := 0 }) s m args below meth c H locs 0 0 (MQ below (qQv D qCl (mT K) (mW h K) A res) args s 0 0 A) (F0 m 28 ls [.int y2, .int y1, .ref (h 0)]) := by
  intro H locs ls G hl
  unfold fM_mark_28 at hf
  refine lv_ior C.1 C.2.1 qm_M_mark_28 ?_
  refine lv_iload_n C.1 C.2.1 qm_M_mark_29 rfl (lv_at hl 0 rfl) ?_
  refine lv_if_eq (tgt := 37) C.1 C.2.1 qm_M_mark_30 (by decide) (fun b1 => ?_) (fun b1 => ?_)
  · have hf := if_t b1 hf
    refine lv_iconst (v := 0) C.1 C.2.1 qm_M_mark_37 (by decide) ?_
    exact wM_mark_38 C S x3 (y1 ||| y2) 0 hf _ _ _ G (lv_sub hl [1] rfl)
  · have hf := if_f b1 hf
    refine lv_iconst (v := 2) C.1 C.2.1 qm_M_mark_33 (by decide) ?_
    refine lv_goto (tgt := 38) C.1 C.2.1 qm_M_mark_34 (by decide) ?_
    exact wM_mark_38 C S x3 (y1 ||| y2) 2 hf _ _ _ G (lv_sub hl [1] rfl)
set_option maxHeartbeats 4000000 in
set_option maxRecDepth 100000 in
theorem wM_mark_18 {l : Launch} {D : va_G} {h : Nat → Nat} {K : Nat → ClassId} {res : qS} {p : Program} {e : Env} {s : State} {m : MethodId} {args : Array Value} {below : List Frame} {meth : Method} {c : Code} {A : Nat → Prop} {ad : Nat → Nat} (C : qC p s m args meth c qm_M_mark_c 4 none qR_M ad) (S : qS) (x1 : Int32) (x2 : Int32) (x3 : Int32) (y1 : Int32) (y2 : Int32) (hf : fM_mark_18 S x1 x2 x3 y1 y2 = some res) : ∀ (H : Heap) (locs : List Loc) (ls : Array Slot), qG D qCl (mT K) A s (mW h K S) H locs → lv_has ls 4 [(1, .int x1), (2, .int x2), (3, .int x3)] → W p l e ({ frames := 0, cells := 0, slots := 0, locals := 0 }) s m args below meth c H locs 0 0 (MQ below (qQv D qCl (mT K) (mW h K) A res) args s 0 0 A) (F0 m 18 ls [.int y2, .int y1, .ref (h 0)]) := by
  intro H locs ls G hl
  unfold fM_mark_18 at hf
  refine lv_ior C.1 C.2.1 qm_M_mark_18 ?_
  refine lv_iload_n C.1 C.2.1 qm_M_mark_19 rfl (lv_at hl 0 rfl) ?_
  refine lv_if_ne (tgt := 27) C.1 C.2.1 qm_M_mark_20 (by decide) (fun b1 => ?_) (fun b1 => ?_)
  · have hf := if_t b1 hf
    refine lv_iconst (v := 0) C.1 C.2.1 qm_M_mark_27 (by decide) ?_
    exact wM_mark_28 C S x2 x3 (y1 ||| y2) 0 hf _ _ _ G (lv_sub hl [1, 2] rfl)
  · have hf := if_f (not_not_intro b1) hf
    refine lv_iconst (v := 4) C.1 C.2.1 qm_M_mark_23 (by decide) ?_
    refine lv_goto (tgt := 28) C.1 C.2.1 qm_M_mark_24 (by decide) ?_
    exact wM_mark_28 C S x2 x3 (y1 ||| y2) 4 hf _ _ _ G (lv_sub hl [1, 2] rfl)
set_option maxHeartbeats 4000000 in
set_option maxRecDepth 100000 in
theorem wM_mark {l : Launch} {D : va_G} {h : Nat → Nat} {K : Nat → ClassId} {res : qS} {p : Program} {e : Env} {s : State} {m : MethodId} {args : Array Value} {below : List Frame} {meth : Method} {c : Code} {A : Nat → Prop} {ad : Nat → Nat} (C : qC p s m args meth c qm_M_mark_c 4 none qR_M ad) (S : qS) (a1 : Int32) (a2 : Int32) (a3 : Int32) (hf : fM_mark S a1 a2 a3 = some res) : ∀ (H : Heap) (locs : List Loc) (ls : Array Slot), qG D qCl (mT K) A s (mW h K S) H locs → lv_has ls 4 [(0, .ref (h 0)), (1, .int a1), (2, .int a2), (3, .int a3)] → W p l e ({ frames := 0, cells := 0, slots := 0, locals := 0 }) s m args below meth c H locs 0 0 (MQ below (qQv D qCl (mT K) (mW h K) A res) args s 0 0 A) (F0 m 0 ls []) := by
  intro H locs ls G hl
  unfold fM_mark at hf
  refine lv_aload_n C.1 C.2.1 qm_M_mark_0 rfl (lv_at hl 0 rfl) ?_
  refine lv_aload_n C.1 C.2.1 qm_M_mark_1 rfl (lv_at hl 0 rfl) ?_
  refine q_get (wf := (mW h K)) (v := .int (S.1 1)) C G qi_M 0 rfl rfl 4 (by decide) qz_835 rfl qm_M_mark_2 ?_
  refine lv_bipush (v := (-16)) C.1 C.2.1 qm_M_mark_5 (by decide) ?_
  refine lv_iand C.1 C.2.1 qm_M_mark_7 ?_
  refine lv_iload_n C.1 C.2.1 qm_M_mark_8 rfl (lv_at hl 1 rfl) ?_
  refine lv_if_ge (tgt := 17) C.1 C.2.1 qm_M_mark_9 (by decide) (fun b1 => ?_) (fun b1 => ?_)
  · have hf := if_t b1 hf
    refine lv_iconst (v := 0) C.1 C.2.1 qm_M_mark_17 (by decide) ?_
    exact wM_mark_18 C S a1 a2 a3 ((S.1 1) &&& (-16)) 0 hf _ _ _ G (lv_sub hl [1, 2, 3] rfl)
  · have hf := if_f b1 hf
    refine lv_bipush (v := 8) C.1 C.2.1 qm_M_mark_12 (by decide) ?_
    refine lv_goto (tgt := 18) C.1 C.2.1 qm_M_mark_14 (by decide) ?_
    exact wM_mark_18 C S a1 a2 a3 ((S.1 1) &&& (-16)) 8 hf _ _ _ G (lv_sub hl [1, 2, 3] rfl)
theorem kM_mark {l : Launch} {ad : Nat → Nat} {D : va_G} {h : Nat → Nat} {K : Nat → ClassId} {res : qS} {S : qS} {a1 : Int32} {a2 : Int32} {a3 : Int32} (hf : fM_mark S a1 a2 a3 = some res) : qMv l qm_M_mark qm_M_mark_c 4 0 0 D qCl (mT K) ad (mW h K) [.ref (h 0), .int a1, .int a2, .int a3] S res := qMv_of (by decide) (Nat.le_of_ble_eq_true rfl) (fun _ _ _ _ _ _ _ _ _ _ C G hl => wM_mark C S a1 a2 a3 hf _ _ _ G hl)
set_option maxHeartbeats 4000000 in
set_option maxRecDepth 100000 in
theorem wM_write_167 {l : Launch} {D : va_G} {h : Nat → Nat} {K : Nat → ClassId} {res : qS} {p : Program} {e : Env} {s : State} {m : MethodId} {args : Array Value} {below : List Frame} {meth : Method} {c : Code} {A : Nat → Prop} {ad : Nat → Nat} (C : qC p s m args meth c qm_M_write_c 5 none qR_M ad) (S : qS) (hf : fM_write_167 S = some res) : ∀ (H : Heap) (locs : List Loc) (ls : Array Slot), qG D qCl (mT K) A s (mW h K S) H locs → lv_has ls 5 [] → W p l e ({ frames := 2, cells := 0, slots := 0, locals := 54 }) s m args below meth c H locs 0 0 (MQ below (qQv D qCl (mT K) (mW h K) A res) args s 0 0 A) (F0 m 167 ls []) := by
  intro H locs ls G hl
  unfold fM_write_167 at hf
  exact q_vret (wf := (mW h K)) C G hf qm_M_write_167
set_option maxHeartbeats 4000000 in
set_option maxRecDepth 100000 in
theorem wM_write_138 {l : Launch} {D : va_G} {h : Nat → Nat} {K : Nat → ClassId} {res : qS} {p : Program} {e : Env} {s : State} {m : MethodId} {args : Array Value} {below : List Frame} {meth : Method} {c : Code} {A : Nat → Prop} {ad : Nat → Nat} (C : qC p s m args meth c qm_M_write_c 5 none qR_M ad) {K93 : qS → Int32 → Int32 → Int32 → Option (qS)} (hK93 : ∀ (S : qS) (x2 : Int32) (x3 : Int32) (x4 : Int32), K93 S x2 x3 x4 = some res → ∀ (H : Heap) (locs : List Loc) (ls : Array Slot), qG D qCl (mT K) A s (mW h K S) H locs → lv_has ls 5 [(0, .ref (h 0)), (2, .int x2), (3, .int x3), (4, .int x4)] → W p l e ({ frames := 2, cells := 0, slots := 0, locals := 54 }) s m args below meth c H locs 0 0 (MQ below (qQv D qCl (mT K) (mW h K) A res) args s 0 0 A) (F0 m 93 ls [])) (S : qS) (x2 : Int32) (x3 : Int32) (x4 : Int32) (hf : fM_write_138 K93 S x2 x3 x4 = some res) : ∀ (H : Heap) (locs : List Loc) (ls : Array Slot), qG D qCl (mT K) A s (mW h K S) H locs → lv_has ls 5 [(0, .ref (h 0)), (2, .int x2), (3, .int x3), (4, .int x4)] → W p l e ({ frames := 2, cells := 0, slots := 0, locals := 54 }) s m args below meth c H locs 0 0 (MQ below (qQv D qCl (mT K) (mW h K) A res) args s 0 0 A) (F0 m 138 ls []) := by
  intro H locs ls G hl
  unfold fM_write_138 at hf
  refine lv_aload_n C.1 C.2.1 qm_M_write_138 rfl (lv_at hl 0 rfl) ?_
  refine q_get (wf := (mW h K)) (v := .ref (h 1)) C G qi_M 0 rfl rfl 1 (by decide) qz_832 rfl qm_M_write_139 ?_
  refine lv_aload_n C.1 C.2.1 qm_M_write_142 rfl (lv_at hl 0 rfl) ?_
  refine q_get (wf := (mW h K)) (v := .ref (h 9)) C G qi_M 0 rfl rfl 20 (by decide) qz_851 rfl qm_M_write_143 ?_
  refine lv_iload C.1 C.2.1 qm_M_write_146 (lv_at hl 3 rfl) ?_
  obtain ⟨b1, hf⟩ := chk_s hf
  refine q_iald (wf := (mW h K)) C G 9 8 rfl rfl b1 qm_M_write_148 ?_
  refine lv_iload_n C.1 C.2.1 qm_M_write_149 rfl (lv_at hl 1 rfl) ?_
  refine lv_bipush (v := 8) C.1 C.2.1 qm_M_write_150 (by decide) ?_
  refine lv_iload C.1 C.2.1 qm_M_write_152 (lv_at hl 3 rfl) ?_
  refine lv_imul C.1 C.2.1 qm_M_write_154 ?_
  refine lv_ishr C.1 C.2.1 qm_M_write_155 ?_
  refine lv_sipush (v := 255) C.1 C.2.1 qm_M_write_156 (by decide) ?_
  refine lv_iand C.1 C.2.1 qm_M_write_159 ?_
  obtain ⟨b2, hf⟩ := chk_s hf
  refine q_iast (wf := (mW h K)) (S' := (pA S 0 (gA S 8 x4) ((x2 >>> ((8 * x4) &&& 31)) &&& 255))) C G 1 0 rfl rfl b2 rfl qm_M_write_160 (fun H locs G => ?_)
  refine lv_iinc (v := x4 + 1) (lv' := [(4, .int (x4 + 1)), (0, .ref (h 0)), (2, .int x2), (3, .int x3)]) C.1 C.2.1 qm_M_write_161 hl (k := 3) rfl rfl (by decide) rfl (fun ls hl => ?_)
  refine lv_goto (tgt := 93) C.1 C.2.1 qm_M_write_164 (by decide) ?_
  exact hK93 (pA S 0 (gA S 8 x4) ((x2 >>> ((8 * x4) &&& 31)) &&& 255)) x2 x3 (x4 + 1) hf _ _ _ G (lv_sub hl [1, 2, 3, 0] rfl)
set_option maxHeartbeats 4000000 in
set_option maxRecDepth 100000 in
theorem wM_write_93 {l : Launch} {D : va_G} {h : Nat → Nat} {K : Nat → ClassId} {res : qS} {p : Program} {e : Env} {s : State} {m : MethodId} {args : Array Value} {below : List Frame} {meth : Method} {c : Code} {A : Nat → Prop} {ad : Nat → Nat} (C : qC p s m args meth c qm_M_write_c 5 none qR_M ad) : ∀ (n : Nat) (S : qS) (x2 : Int32) (x3 : Int32) (x4 : Int32), fM_write_93 n S x2 x3 x4 = some res → ∀ (H : Heap) (locs : List Loc) (ls : Array Slot), qG D qCl (mT K) A s (mW h K S) H locs → lv_has ls 5 [(0, .ref (h 0)), (2, .int x2), (3, .int x3), (4, .int x4)] → W p l e ({ frames := 2, cells := 0, slots := 0, locals := 54 }) s m args below meth c H locs 0 0 (MQ below (qQv D qCl (mT K) (mW h K) A res) args s 0 0 A) (F0 m 93 ls []) := by
  intro n
  induction n with
  | zero => intro S x2 x3 x4 hf; cases hf
  | succ n ih =>
    intro S x2 x3 x4 hf H locs ls G hl
    rw [fM_write_93] at hf
    refine lv_iload C.1 C.2.1 qm_M_write_93 (lv_at hl 3 rfl) ?_
    refine lv_iload_n C.1 C.2.1 qm_M_write_95 rfl (lv_at hl 2 rfl) ?_
    refine lv_icmp_ge (tgt := 167) C.1 C.2.1 qm_M_write_96 (by decide) (fun b1 => ?_) (fun b1 => ?_)
    · have hf := if_t b1 hf
      exact wM_write_167 C S hf _ _ _ G (lv_sub hl [] rfl)
    · have hf := if_f b1 hf
      refine lv_aload_n C.1 C.2.1 qm_M_write_99 rfl (lv_at hl 0 rfl) ?_
      refine q_get (wf := (mW h K)) (v := .int (S.1 7)) C G qi_M 0 rfl rfl 12 (by decide) qz_843 rfl qm_M_write_100 ?_
      refine lv_if_ne (tgt := 167) C.1 C.2.1 qm_M_write_103 (by decide) (fun b2 => ?_) (fun b2 => ?_)
      · have hf := if_t b2 hf
        exact wM_write_167 C S hf _ _ _ G (lv_sub hl [] rfl)
      · have hf := if_f (not_not_intro b2) hf
        refine lv_aload_n C.1 C.2.1 qm_M_write_106 rfl (lv_at hl 0 rfl) ?_
        refine q_get (wf := (mW h K)) (v := .ref (h 10)) C G qi_M 0 rfl rfl 21 (by decide) qz_852 rfl qm_M_write_107 ?_
        refine lv_iload C.1 C.2.1 qm_M_write_110 (lv_at hl 3 rfl) ?_
        obtain ⟨b3, hf⟩ := chk_s hf
        refine q_iald (wf := (mW h K)) C G 10 9 rfl rfl b3 qm_M_write_112 ?_
        refine lv_if_lt (tgt := 138) C.1 C.2.1 qm_M_write_113 (by decide) (fun b4 => ?_) (fun b4 => ?_)
        · have hf := if_t b4 hf
          exact wM_write_138 C (ih) S x2 x3 x4 hf _ _ _ G (lv_sub hl [0, 1, 2, 3] rfl)
        · have hf := if_f b4 hf
          refine lv_aload_n C.1 C.2.1 qm_M_write_116 rfl (lv_at hl 0 rfl) ?_
          refine q_get (wf := (mW h K)) (v := .ref (h 1)) C G qi_M 0 rfl rfl 1 (by decide) qz_832 rfl qm_M_write_117 ?_
          refine lv_aload_n C.1 C.2.1 qm_M_write_120 rfl (lv_at hl 0 rfl) ?_
          refine q_get (wf := (mW h K)) (v := .ref (h 10)) C G qi_M 0 rfl rfl 21 (by decide) qz_852 rfl qm_M_write_121 ?_
          refine lv_iload C.1 C.2.1 qm_M_write_124 (lv_at hl 3 rfl) ?_
          obtain ⟨b5, hf⟩ := chk_s hf
          refine q_iald (wf := (mW h K)) C G 10 9 rfl rfl b5 qm_M_write_126 ?_
          refine lv_iconst (v := 3) C.1 C.2.1 qm_M_write_127 (by decide) ?_
          refine lv_iadd C.1 C.2.1 qm_M_write_128 ?_
          refine lv_sipush (v := 2047) C.1 C.2.1 qm_M_write_129 (by decide) ?_
          refine lv_iand C.1 C.2.1 qm_M_write_132 ?_
          refine lv_dup2_11 C.1 C.2.1 qm_M_write_133 rfl rfl ?_
          obtain ⟨b6, hf⟩ := chk_s hf
          refine q_iald (wf := (mW h K)) C G 1 0 rfl rfl b6 qm_M_write_134 ?_
          refine lv_iconst (v := 4) C.1 C.2.1 qm_M_write_135 (by decide) ?_
          refine lv_ior C.1 C.2.1 qm_M_write_136 ?_
          obtain ⟨b7, hf⟩ := chk_s hf
          refine q_iast (wf := (mW h K)) (S' := (pA S 0 (((gA S 9 x4) + 3) &&& 2047) ((gA S 0 (((gA S 9 x4) + 3) &&& 2047)) ||| 4))) C G 1 0 rfl rfl b7 rfl qm_M_write_137 (fun H locs G => ?_)
          exact wM_write_138 C (ih) (pA S 0 (((gA S 9 x4) + 3) &&& 2047) ((gA S 0 (((gA S 9 x4) + 3) &&& 2047)) ||| 4)) x2 x3 x4 hf _ _ _ G (lv_sub hl [0, 1, 2, 3] rfl)
set_option maxHeartbeats 4000000 in
set_option maxRecDepth 100000 in
theorem wM_write_84 {l : Launch} {D : va_G} {h : Nat → Nat} {K : Nat → ClassId} {res : qS} {p : Program} {e : Env} {s : State} {m : MethodId} {args : Array Value} {below : List Frame} {meth : Method} {c : Code} {A : Nat → Prop} {ad : Nat → Nat} (C : qC p s m args meth c qm_M_write_c 5 none qR_M ad) {K3 : qS → Int32 → Int32 → Int32 → Int32 → Option (qS)} (hK3 : ∀ (S : qS) (x1 : Int32) (x2 : Int32) (x3 : Int32) (x4 : Int32), K3 S x1 x2 x3 x4 = some res → ∀ (H : Heap) (locs : List Loc) (ls : Array Slot), qG D qCl (mT K) A s (mW h K S) H locs → lv_has ls 5 [(0, .ref (h 0)), (1, .int x1), (2, .int x2), (3, .int x3), (4, .int x4)] → W p l e ({ frames := 2, cells := 0, slots := 0, locals := 54 }) s m args below meth c H locs 0 0 (MQ below (qQv D qCl (mT K) (mW h K) A res) args s 0 0 A) (F0 m 3 ls [])) (S : qS) (x1 : Int32) (x2 : Int32) (x3 : Int32) (x4 : Int32) (hf : fM_write_84 K3 S x1 x2 x3 x4 = some res) : ∀ (H : Heap) (locs : List Loc) (ls : Array Slot), qG D qCl (mT K) A s (mW h K S) H locs → lv_has ls 5 [(0, .ref (h 0)), (1, .int x1), (2, .int x2), (3, .int x3), (4, .int x4)] → W p l e ({ frames := 2, cells := 0, slots := 0, locals := 54 }) s m args below meth c H locs 0 0 (MQ below (qQv D qCl (mT K) (mW h K) A res) args s 0 0 A) (F0 m 84 ls []) := by
  intro H locs ls G hl
  unfold fM_write_84 at hf
  refine lv_iinc (v := x4 + 1) (lv' := [(4, .int (x4 + 1)), (0, .ref (h 0)), (1, .int x1), (2, .int x2), (3, .int x3)]) C.1 C.2.1 qm_M_write_84 hl (k := 4) rfl rfl (by decide) rfl (fun ls hl => ?_)
  refine lv_goto (tgt := 3) C.1 C.2.1 qm_M_write_87 (by decide) ?_
  exact hK3 S x1 x2 x3 (x4 + 1) hf _ _ _ G (lv_sub hl [1, 2, 3, 4, 0] rfl)
set_option maxHeartbeats 4000000 in
set_option maxRecDepth 100000 in
theorem wM_write_3 {l : Launch} {D : va_G} {h : Nat → Nat} {K : Nat → ClassId} {res : qS} {p : Program} {e : Env} {s : State} {m : MethodId} {args : Array Value} {below : List Frame} {meth : Method} {c : Code} {A : Nat → Prop} {ad : Nat → Nat} (C : qC p s m args meth c qm_M_write_c 5 none qR_M ad) : ∀ (n : Nat) (S : qS) (x1 : Int32) (x2 : Int32) (x3 : Int32) (x4 : Int32), fM_write_3 n S x1 x2 x3 x4 = some res → ∀ (H : Heap) (locs : List Loc) (ls : Array Slot), qG D qCl (mT K) A s (mW h K S) H locs → lv_has ls 5 [(0, .ref (h 0)), (1, .int x1), (2, .int x2), (3, .int x3), (4, .int x4)] → W p l e ({ frames := 2, cells := 0, slots := 0, locals := 54 }) s m args below meth c H locs 0 0 (MQ below (qQv D qCl (mT K) (mW h K) A res) args s 0 0 A) (F0 m 3 ls []) := by
  intro n
  induction n with
  | zero => intro S x1 x2 x3 x4 hf; cases hf
  | succ n ih =>
    intro S x1 x2 x3 x4 hf H locs ls G hl
    rw [fM_write_3] at hf
    refine lv_iload C.1 C.2.1 qm_M_write_3 (lv_at hl 4 rfl) ?_
    refine lv_iload_n C.1 C.2.1 qm_M_write_5 rfl (lv_at hl 3 rfl) ?_
    refine lv_icmp_ge (tgt := 90) C.1 C.2.1 qm_M_write_6 (by decide) (fun b1 => ?_) (fun b1 => ?_)
    · have hf := if_t b1 hf
      refine lv_iconst (v := 0) C.1 C.2.1 qm_M_write_90 (by decide) ?_
      refine lv_istore (lv' := [(4, .int 0), (0, .ref (h 0)), (1, .int x1), (2, .int x2), (3, .int x3)]) C.1 C.2.1 qm_M_write_91 hl (by decide) rfl (fun ls hl => ?_)
      exact wM_write_93 C 300 S x2 x3 0 hf _ _ _ G (lv_sub hl [1, 3, 4, 0] rfl)
    · have hf := if_f b1 hf
      refine lv_aload_n C.1 C.2.1 qm_M_write_9 rfl (lv_at hl 0 rfl) ?_
      refine q_get (wf := (mW h K)) (v := .ref (h 9)) C G qi_M 0 rfl rfl 20 (by decide) qz_851 rfl qm_M_write_10 ?_
      refine lv_iload C.1 C.2.1 qm_M_write_13 (lv_at hl 4 rfl) ?_
      refine lv_aload_n C.1 C.2.1 qm_M_write_15 rfl (lv_at hl 0 rfl) ?_
      refine lv_iload_n C.1 C.2.1 qm_M_write_16 rfl (lv_at hl 1 rfl) ?_
      refine lv_iload C.1 C.2.1 qm_M_write_17 (lv_at hl 4 rfl) ?_
      refine lv_iadd C.1 C.2.1 qm_M_write_19 ?_
      refine lv_iconst (v := 1) C.1 C.2.1 qm_M_write_20 (by decide) ?_
      refine lv_aload_n C.1 C.2.1 qm_M_write_21 rfl (lv_at hl 0 rfl) ?_
      obtain ⟨q2, c2, hf⟩ := bnd_s hf
      refine q_callVi (wf := (mW h K)) (n := 0) (As := []) (q0 := 0) (ci := 7) C G hl.1 (kM_mode (l := l) c2) qx_M_69 qm_M_mode_d ⟨by decide, by decide⟩ ⟨Nat.le_refl _, Nat.le_refl _⟩ rfl rfl rfl rfl rfl (Nat.le_of_ble_eq_true rfl) qm_M_write_22 (fun H locs G => ?_)
      obtain ⟨q3, c3, hf⟩ := bnd_s hf
      refine q_callVi (wf := (mW h K)) (n := 3) (As := [.int (x1 + x4), .int 1, .int q2.1]) (q0 := 0) (ci := 7) C G hl.1 (kM_find (l := l) c3) qx_M_73 qm_M_find_d ⟨by decide, by decide⟩ ⟨Nat.le_refl _, Nat.le_refl _⟩ rfl rfl rfl rfl rfl (Nat.le_of_ble_eq_true rfl) qm_M_write_25 (fun H locs G => ?_)
      obtain ⟨b4, hf⟩ := chk_s hf
      refine q_iast (wf := (mW h K)) (S' := (pA q3.2 8 x4 q3.1)) C G 9 8 rfl rfl b4 rfl qm_M_write_28 (fun H locs G => ?_)
      refine lv_aload_n C.1 C.2.1 qm_M_write_29 rfl (lv_at hl 0 rfl) ?_
      refine q_get (wf := (mW h K)) (v := .ref (h 10)) C G qi_M 0 rfl rfl 21 (by decide) qz_852 rfl qm_M_write_30 ?_
      refine lv_iload C.1 C.2.1 qm_M_write_33 (lv_at hl 4 rfl) ?_
      refine lv_aload_n C.1 C.2.1 qm_M_write_35 rfl (lv_at hl 0 rfl) ?_
      refine q_get (wf := (mW h K)) (v := .int ((pA q3.2 8 x4 q3.1).1 11)) C G qi_M 0 rfl rfl 19 (by decide) qz_850 rfl qm_M_write_36 ?_
      obtain ⟨b5, hf⟩ := chk_s hf
      refine q_iast (wf := (mW h K)) (S' := (pA (pA q3.2 8 x4 q3.1) 9 x4 ((pA q3.2 8 x4 q3.1).1 11))) C G 10 9 rfl rfl b5 rfl qm_M_write_39 (fun H locs G => ?_)
      refine lv_aload_n C.1 C.2.1 qm_M_write_40 rfl (lv_at hl 0 rfl) ?_
      refine q_get (wf := (mW h K)) (v := .ref (h 9)) C G qi_M 0 rfl rfl 20 (by decide) qz_851 rfl qm_M_write_41 ?_
      refine lv_iload C.1 C.2.1 qm_M_write_44 (lv_at hl 4 rfl) ?_
      obtain ⟨b6, hf⟩ := chk_s hf
      refine q_iald (wf := (mW h K)) C G 9 8 rfl rfl b6 qm_M_write_46 ?_
      refine lv_if_ge (tgt := 84) C.1 C.2.1 qm_M_write_47 (by decide) (fun b7 => ?_) (fun b7 => ?_)
      · have hf := if_t b7 hf
        exact wM_write_84 C (ih) (pA (pA q3.2 8 x4 q3.1) 9 x4 ((pA q3.2 8 x4 q3.1).1 11)) x1 x2 x3 x4 hf _ _ _ G (lv_sub hl [0, 1, 2, 3, 4] rfl)
      · have hf := if_f b7 hf
        refine lv_aload_n C.1 C.2.1 qm_M_write_50 rfl (lv_at hl 0 rfl) ?_
        refine lv_bipush (v := (-10)) C.1 C.2.1 qm_M_write_51 (by decide) ?_
        refine lv_aload_n C.1 C.2.1 qm_M_write_53 rfl (lv_at hl 0 rfl) ?_
        refine q_get (wf := (mW h K)) (v := .ref (h 9)) C G qi_M 0 rfl rfl 20 (by decide) qz_851 rfl qm_M_write_54 ?_
        refine lv_iload C.1 C.2.1 qm_M_write_57 (lv_at hl 4 rfl) ?_
        obtain ⟨b8, hf⟩ := chk_s hf
        refine q_iald (wf := (mW h K)) C G 9 8 rfl rfl b8 qm_M_write_59 ?_
        refine lv_isub C.1 C.2.1 qm_M_write_60 ?_
        refine lv_bipush (v := 10) C.1 C.2.1 qm_M_write_61 (by decide) ?_
        refine lv_idiv C.1 C.2.1 qm_M_write_63 (by decide) ?_
        refine lv_iload_n C.1 C.2.1 qm_M_write_64 rfl (lv_at hl 1 rfl) ?_
        refine lv_iload C.1 C.2.1 qm_M_write_65 (lv_at hl 4 rfl) ?_
        refine lv_iadd C.1 C.2.1 qm_M_write_67 ?_
        refine lv_bipush (v := (-10)) C.1 C.2.1 qm_M_write_68 (by decide) ?_
        refine lv_aload_n C.1 C.2.1 qm_M_write_70 rfl (lv_at hl 0 rfl) ?_
        refine q_get (wf := (mW h K)) (v := .ref (h 9)) C G qi_M 0 rfl rfl 20 (by decide) qz_851 rfl qm_M_write_71 ?_
        refine lv_iload C.1 C.2.1 qm_M_write_74 (lv_at hl 4 rfl) ?_
        obtain ⟨b9, hf⟩ := chk_s hf
        refine q_iald (wf := (mW h K)) C G 9 8 rfl rfl b9 qm_M_write_76 ?_
        refine lv_isub C.1 C.2.1 qm_M_write_77 ?_
        refine lv_bipush (v := 10) C.1 C.2.1 qm_M_write_78 (by decide) ?_
        refine lv_irem C.1 C.2.1 qm_M_write_80 (by decide) ?_
        obtain ⟨S10, c10, hf⟩ := bnd_s hf
        refine q_callVv (wf := (mW h K)) (n := 3) (As := [.int (((-10) - (gA (pA (pA q3.2 8 x4 q3.1) 9 x4 ((pA q3.2 8 x4 q3.1).1 11)) 8 x4)) / 10), .int (x1 + x4), .int (((-10) - (gA (pA (pA q3.2 8 x4 q3.1) 9 x4 ((pA q3.2 8 x4 q3.1).1 11)) 8 x4)) - ((-10) - (gA (pA (pA q3.2 8 x4 q3.1) 9 x4 ((pA q3.2 8 x4 q3.1).1 11)) 8 x4)) / 10 * 10)]) (q0 := 0) (ci := 7) C G hl.1 (kM_wrong (l := l) c10) qx_M_77 qm_M_wrong_d ⟨by decide, by decide⟩ ⟨Nat.le_refl _, Nat.le_refl _⟩ rfl rfl rfl rfl rfl (Nat.le_of_ble_eq_true rfl) qm_M_write_81 (fun H locs G => ?_)
        exact wM_write_84 C (ih) S10 x1 x2 x3 x4 hf _ _ _ G (lv_sub hl [0, 1, 2, 3, 4] rfl)
set_option maxHeartbeats 4000000 in
set_option maxRecDepth 100000 in
theorem wM_write {l : Launch} {D : va_G} {h : Nat → Nat} {K : Nat → ClassId} {res : qS} {p : Program} {e : Env} {s : State} {m : MethodId} {args : Array Value} {below : List Frame} {meth : Method} {c : Code} {A : Nat → Prop} {ad : Nat → Nat} (C : qC p s m args meth c qm_M_write_c 5 none qR_M ad) (S : qS) (a1 : Int32) (a2 : Int32) (a3 : Int32) (hf : fM_write S a1 a2 a3 = some res) : ∀ (H : Heap) (locs : List Loc) (ls : Array Slot), qG D qCl (mT K) A s (mW h K S) H locs → lv_has ls 5 [(0, .ref (h 0)), (1, .int a1), (2, .int a2), (3, .int a3)] → W p l e ({ frames := 2, cells := 0, slots := 0, locals := 54 }) s m args below meth c H locs 0 0 (MQ below (qQv D qCl (mT K) (mW h K) A res) args s 0 0 A) (F0 m 0 ls []) := by
  intro H locs ls G hl
  unfold fM_write at hf
  refine lv_iconst (v := 0) C.1 C.2.1 qm_M_write_0 (by decide) ?_
  refine lv_istore (lv' := [(4, .int 0), (0, .ref (h 0)), (1, .int a1), (2, .int a2), (3, .int a3)]) C.1 C.2.1 qm_M_write_1 hl (by decide) rfl (fun ls hl => ?_)
  exact wM_write_3 C 300 S a1 a2 a3 0 hf _ _ _ G (lv_sub hl [1, 2, 3, 4, 0] rfl)
theorem kM_write {l : Launch} {ad : Nat → Nat} {D : va_G} {h : Nat → Nat} {K : Nat → ClassId} {res : qS} {S : qS} {a1 : Int32} {a2 : Int32} {a3 : Int32} (hf : fM_write S a1 a2 a3 = some res) : qMv l qm_M_write qm_M_write_c 5 2 54 D qCl (mT K) ad (mW h K) [.ref (h 0), .int a1, .int a2, .int a3] S res := qMv_of (by decide) (Nat.le_of_ble_eq_true rfl) (fun _ _ _ _ _ _ _ _ _ _ C G hl => wM_write C S a1 a2 a3 hf _ _ _ G hl)
set_option maxHeartbeats 4000000 in
set_option maxRecDepth 100000 in
theorem wM_give_65 {l : Launch} {D : va_G} {h : Nat → Nat} {K : Nat → ClassId} {res : qS} {p : Program} {e : Env} {s : State} {m : MethodId} {args : Array Value} {below : List Frame} {meth : Method} {c : Code} {A : Nat → Prop} {ad : Nat → Nat} (C : qC p s m args meth c qm_M_give_c 4 none qR_M ad) (S : qS) (hf : fM_give_65 S = some res) : ∀ (H : Heap) (locs : List Loc) (ls : Array Slot), qG D qCl (mT K) A s (mW h K S) H locs → lv_has ls 4 [] → W p l e ({ frames := 3, cells := 0, slots := 0, locals := 78 }) s m args below meth c H locs 0 0 (MQ below (qQv D qCl (mT K) (mW h K) A res) args s 0 0 A) (F0 m 65 ls []) := by
  intro H locs ls G hl
  unfold fM_give_65 at hf
  exact q_vret (wf := (mW h K)) C G hf qm_M_give_65
set_option maxHeartbeats 4000000 in
set_option maxRecDepth 100000 in
theorem wM_give_62 {l : Launch} {D : va_G} {h : Nat → Nat} {K : Nat → ClassId} {res : qS} {p : Program} {e : Env} {s : State} {m : MethodId} {args : Array Value} {below : List Frame} {meth : Method} {c : Code} {A : Nat → Prop} {ad : Nat → Nat} (C : qC p s m args meth c qm_M_give_c 4 none qR_M ad) (S : qS) (y1 : Int32) (y2 : Int32) (hf : fM_give_62 S y1 y2 = some res) : ∀ (H : Heap) (locs : List Loc) (ls : Array Slot), qG D qCl (mT K) A s (mW h K S) H locs → lv_has ls 4 [] → W p l e ({ frames := 3, cells := 0, slots := 0, locals := 78 }) s m args below meth c H locs 0 0 (MQ below (qQv D qCl (mT K) (mW h K) A res) args s 0 0 A) (F0 m 62 ls [.int y2, .int y1, .ref (h 0)]) := by
  intro H locs ls G hl
  unfold fM_give_62 at hf
  obtain ⟨S1, c1, hf⟩ := bnd_s hf
  refine q_callVv (wf := (mW h K)) (n := 2) (As := [.int y1, .int y2]) (q0 := 0) (ci := 7) C G hl.1 (kM_put (l := l) c1) qx_M_90 qm_M_put_d ⟨by decide, by decide⟩ ⟨Nat.le_refl _, Nat.le_refl _⟩ rfl rfl rfl rfl rfl (Nat.le_of_ble_eq_true rfl) qm_M_give_62 (fun H locs G => ?_)
  exact wM_give_65 C S1 hf _ _ _ G (lv_sub hl [] rfl)
set_option maxHeartbeats 4000000 in
set_option maxRecDepth 100000 in
theorem wM_give {l : Launch} {D : va_G} {h : Nat → Nat} {K : Nat → ClassId} {res : qS} {p : Program} {e : Env} {s : State} {m : MethodId} {args : Array Value} {below : List Frame} {meth : Method} {c : Code} {A : Nat → Prop} {ad : Nat → Nat} (C : qC p s m args meth c qm_M_give_c 4 none qR_M ad) (S : qS) (a1 : Int32) (a2 : Int32) (a3 : Int32) (hf : fM_give S a1 a2 a3 = some res) : ∀ (H : Heap) (locs : List Loc) (ls : Array Slot), qG D qCl (mT K) A s (mW h K S) H locs → lv_has ls 4 [(0, .ref (h 0)), (1, .int a1), (2, .int a2), (3, .int a3)] → W p l e ({ frames := 3, cells := 0, slots := 0, locals := 78 }) s m args below meth c H locs 0 0 (MQ below (qQv D qCl (mT K) (mW h K) A res) args s 0 0 A) (F0 m 0 ls []) := by
  intro H locs ls G hl
  unfold fM_give at hf
  refine lv_aload_n C.1 C.2.1 qm_M_give_0 rfl (lv_at hl 0 rfl) ?_
  refine q_get (wf := (mW h K)) (v := .ref (h 7)) C G qi_M 0 rfl rfl 17 (by decide) qz_848 rfl qm_M_give_1 ?_
  refine lv_iload_n C.1 C.2.1 qm_M_give_4 rfl (lv_at hl 1 rfl) ?_
  obtain ⟨b1, hf⟩ := chk_s hf
  refine q_iald (wf := (mW h K)) C G 7 6 rfl rfl b1 qm_M_give_5 ?_
  refine lv_bipush (v := 16) C.1 C.2.1 qm_M_give_6 (by decide) ?_
  refine lv_icmp_ne (tgt := 26) C.1 C.2.1 qm_M_give_8 (by decide) (fun b2 => ?_) (fun b2 => ?_)
  · have hf := if_t b2 hf
    refine lv_aload_n C.1 C.2.1 qm_M_give_26 rfl (lv_at hl 0 rfl) ?_
    refine lv_aload_n C.1 C.2.1 qm_M_give_27 rfl (lv_at hl 0 rfl) ?_
    refine q_get (wf := (mW h K)) (v := .ref (h 7)) C G qi_M 0 rfl rfl 17 (by decide) qz_848 rfl qm_M_give_28 ?_
    refine lv_iload_n C.1 C.2.1 qm_M_give_31 rfl (lv_at hl 1 rfl) ?_
    obtain ⟨b3, hf⟩ := chk_s hf
    refine q_iald (wf := (mW h K)) C G 7 6 rfl rfl b3 qm_M_give_32 ?_
    refine lv_iload_n C.1 C.2.1 qm_M_give_33 rfl (lv_at hl 3 rfl) ?_
    refine lv_iconst (v := 4) C.1 C.2.1 qm_M_give_34 (by decide) ?_
    refine lv_icmp_ne (tgt := 42) C.1 C.2.1 qm_M_give_35 (by decide) (fun b4 => ?_) (fun b4 => ?_)
    · have hf := if_t b4 hf
      refine lv_aload_n C.1 C.2.1 qm_M_give_42 rfl (lv_at hl 0 rfl) ?_
      refine lv_aload_n C.1 C.2.1 qm_M_give_43 rfl (lv_at hl 0 rfl) ?_
      refine q_get (wf := (mW h K)) (v := .ref (h 7)) C G qi_M 0 rfl rfl 17 (by decide) qz_848 rfl qm_M_give_44 ?_
      refine lv_iload_n C.1 C.2.1 qm_M_give_47 rfl (lv_at hl 1 rfl) ?_
      obtain ⟨b5, hf⟩ := chk_s hf
      refine q_iald (wf := (mW h K)) C G 7 6 rfl rfl b5 qm_M_give_48 ?_
      obtain ⟨q6, c6, hf⟩ := bnd_s hf
      refine q_callVi (wf := (mW h K)) (n := 1) (As := [.int (gA S 6 a1)]) (q0 := 0) (ci := 7) C G hl.1 (kM_get (l := l) c6) qx_M_84 qm_M_get_d ⟨by decide, by decide⟩ ⟨Nat.le_refl _, Nat.le_refl _⟩ rfl rfl rfl rfl rfl (Nat.le_of_ble_eq_true rfl) qm_M_give_49 (fun H locs G => ?_)
      refine lv_sipush (v := (-256)) C.1 C.2.1 qm_M_give_52 (by decide) ?_
      refine lv_iand C.1 C.2.1 qm_M_give_55 ?_
      refine lv_iload_n C.1 C.2.1 qm_M_give_56 rfl (lv_at hl 2 rfl) ?_
      refine lv_sipush (v := 255) C.1 C.2.1 qm_M_give_57 (by decide) ?_
      refine lv_iand C.1 C.2.1 qm_M_give_60 ?_
      refine lv_ior C.1 C.2.1 qm_M_give_61 ?_
      exact wM_give_62 C q6.2 (gA S 6 a1) ((q6.1 &&& (-256)) ||| (a2 &&& 255)) hf _ _ _ G (lv_sub hl [] rfl)
    · have hf := if_f (not_not_intro b4) hf
      refine lv_iload_n C.1 C.2.1 qm_M_give_38 rfl (lv_at hl 2 rfl) ?_
      refine lv_goto (tgt := 62) C.1 C.2.1 qm_M_give_39 (by decide) ?_
      exact wM_give_62 C S (gA S 6 a1) a2 hf _ _ _ G (lv_sub hl [] rfl)
  · have hf := if_f (not_not_intro b2) hf
    refine lv_aload_n C.1 C.2.1 qm_M_give_11 rfl (lv_at hl 0 rfl) ?_
    refine lv_aload_n C.1 C.2.1 qm_M_give_12 rfl (lv_at hl 0 rfl) ?_
    refine q_get (wf := (mW h K)) (v := .ref (h 8)) C G qi_M 0 rfl rfl 18 (by decide) qz_849 rfl qm_M_give_13 ?_
    refine lv_iload_n C.1 C.2.1 qm_M_give_16 rfl (lv_at hl 1 rfl) ?_
    obtain ⟨b7, hf⟩ := chk_s hf
    refine q_iald (wf := (mW h K)) C G 8 7 rfl rfl b7 qm_M_give_17 ?_
    refine lv_iload_n C.1 C.2.1 qm_M_give_18 rfl (lv_at hl 2 rfl) ?_
    refine lv_iload_n C.1 C.2.1 qm_M_give_19 rfl (lv_at hl 3 rfl) ?_
    obtain ⟨S8, c8, hf⟩ := bnd_s hf
    refine q_callVv (wf := (mW h K)) (n := 3) (As := [.int (gA S 7 a1), .int a2, .int a3]) (q0 := 0) (ci := 7) C G hl.1 (kM_write (l := l) c8) qx_M_87 qm_M_write_d ⟨by decide, by decide⟩ ⟨Nat.le_refl _, Nat.le_refl _⟩ rfl rfl rfl rfl rfl (Nat.le_of_ble_eq_true rfl) qm_M_give_20 (fun H locs G => ?_)
    refine lv_goto (tgt := 65) C.1 C.2.1 qm_M_give_23 (by decide) ?_
    exact wM_give_65 C S8 hf _ _ _ G (lv_sub hl [] rfl)
theorem kM_give {l : Launch} {ad : Nat → Nat} {D : va_G} {h : Nat → Nat} {K : Nat → ClassId} {res : qS} {S : qS} {a1 : Int32} {a2 : Int32} {a3 : Int32} (hf : fM_give S a1 a2 a3 = some res) : qMv l qm_M_give qm_M_give_c 4 3 78 D qCl (mT K) ad (mW h K) [.ref (h 0), .int a1, .int a2, .int a3] S res := qMv_of (by decide) (Nat.le_of_ble_eq_true rfl) (fun _ _ _ _ _ _ _ _ _ _ C G hl => wM_give C S a1 a2 a3 hf _ _ _ G hl)
set_option maxHeartbeats 4000000 in
set_option maxRecDepth 100000 in
theorem wM_innerOnes_134 {l : Launch} {D : va_G} {h : Nat → Nat} {K : Nat → ClassId} {res : qS} {p : Program} {e : Env} {s : State} {m : MethodId} {args : Array Value} {below : List Frame} {meth : Method} {c : Code} {A : Nat → Prop} {ad : Nat → Nat} (C : qC p s m args meth c qm_M_innerOnes_c 5 none qR_M ad) (S : qS) (hf : fM_innerOnes_134 S = some res) : ∀ (H : Heap) (locs : List Loc) (ls : Array Slot), qG D qCl (mT K) A s (mW h K S) H locs → lv_has ls 5 [] → W p l e ({ frames := 4, cells := 0, slots := 0, locals := 101 }) s m args below meth c H locs 0 0 (MQ below (qQv D qCl (mT K) (mW h K) A res) args s 0 0 A) (F0 m 134 ls []) := by
  intro H locs ls G hl
  unfold fM_innerOnes_134 at hf
  exact q_vret (wf := (mW h K)) C G hf qm_M_innerOnes_134
set_option maxHeartbeats 4000000 in
set_option maxRecDepth 100000 in
theorem wM_innerOnes_120 {l : Launch} {D : va_G} {h : Nat → Nat} {K : Nat → ClassId} {res : qS} {p : Program} {e : Env} {s : State} {m : MethodId} {args : Array Value} {below : List Frame} {meth : Method} {c : Code} {A : Nat → Prop} {ad : Nat → Nat} (C : qC p s m args meth c qm_M_innerOnes_c 5 none qR_M ad) (S : qS) (x1 : Int32) (x4 : Int32) (hf : fM_innerOnes_120 S x1 x4 = some res) : ∀ (H : Heap) (locs : List Loc) (ls : Array Slot), qG D qCl (mT K) A s (mW h K S) H locs → lv_has ls 5 [(0, .ref (h 0)), (1, .int x1), (4, .int x4)] → W p l e ({ frames := 4, cells := 0, slots := 0, locals := 101 }) s m args below meth c H locs 0 0 (MQ below (qQv D qCl (mT K) (mW h K) A res) args s 0 0 A) (F0 m 120 ls []) := by
  intro H locs ls G hl
  unfold fM_innerOnes_120 at hf
  refine lv_iload_n C.1 C.2.1 qm_M_innerOnes_120 rfl (lv_at hl 1 rfl) ?_
  refine lv_bipush (v := 11) C.1 C.2.1 qm_M_innerOnes_121 (by decide) ?_
  refine lv_icmp_ne (tgt := 134) C.1 C.2.1 qm_M_innerOnes_123 (by decide) (fun b1 => ?_) (fun b1 => ?_)
  · have hf := if_t b1 hf
    exact wM_innerOnes_134 C S hf _ _ _ G (lv_sub hl [] rfl)
  · have hf := if_f (not_not_intro b1) hf
    refine lv_aload_n C.1 C.2.1 qm_M_innerOnes_126 rfl (lv_at hl 0 rfl) ?_
    refine lv_iconst (v := 1) C.1 C.2.1 qm_M_innerOnes_127 (by decide) ?_
    refine lv_iload C.1 C.2.1 qm_M_innerOnes_128 (lv_at hl 2 rfl) ?_
    refine lv_iconst (v := 4) C.1 C.2.1 qm_M_innerOnes_130 (by decide) ?_
    obtain ⟨S2, c2, hf⟩ := bnd_s hf
    refine q_callVv (wf := (mW h K)) (n := 3) (As := [.int 1, .int x4, .int 4]) (q0 := 0) (ci := 7) C G hl.1 (kM_give (l := l) c2) qx_M_117 qm_M_give_d ⟨by decide, by decide⟩ ⟨Nat.le_refl _, Nat.le_refl _⟩ rfl rfl rfl rfl rfl (Nat.le_of_ble_eq_true rfl) qm_M_innerOnes_131 (fun H locs G => ?_)
    exact wM_innerOnes_134 C S2 hf _ _ _ G (lv_sub hl [] rfl)
set_option maxHeartbeats 4000000 in
set_option maxRecDepth 100000 in
theorem wM_innerOnes_98 {l : Launch} {D : va_G} {h : Nat → Nat} {K : Nat → ClassId} {res : qS} {p : Program} {e : Env} {s : State} {m : MethodId} {args : Array Value} {below : List Frame} {meth : Method} {c : Code} {A : Nat → Prop} {ad : Nat → Nat} (C : qC p s m args meth c qm_M_innerOnes_c 5 none qR_M ad) (S : qS) (x1 : Int32) (x2 : Int32) (hf : fM_innerOnes_98 S x1 x2 = some res) : ∀ (H : Heap) (locs : List Loc) (ls : Array Slot), qG D qCl (mT K) A s (mW h K S) H locs → lv_has ls 5 [(0, .ref (h 0)), (1, .int x1), (2, .int x2)] → W p l e ({ frames := 4, cells := 0, slots := 0, locals := 101 }) s m args below meth c H locs 0 0 (MQ below (qQv D qCl (mT K) (mW h K) A res) args s 0 0 A) (F0 m 98 ls []) := by
  intro H locs ls G hl
  unfold fM_innerOnes_98 at hf
  refine lv_aload_n C.1 C.2.1 qm_M_innerOnes_98 rfl (lv_at hl 0 rfl) ?_
  refine q_get (wf := (mW h K)) (v := .ref (h 3)) C G qi_M 0 rfl rfl 3 (by decide) qz_834 rfl qm_M_innerOnes_99 ?_
  refine lv_iload_n C.1 C.2.1 qm_M_innerOnes_102 rfl (lv_at hl 2 rfl) ?_
  obtain ⟨b1, hf⟩ := chk_s hf
  refine q_iald (wf := (mW h K)) C G 3 2 rfl rfl b1 qm_M_innerOnes_103 ?_
  refine lv_istore (lv' := [(4, .int (gA S 2 x2)), (0, .ref (h 0)), (1, .int x1), (2, .int x2)]) C.1 C.2.1 qm_M_innerOnes_104 hl (by decide) rfl (fun ls hl => ?_)
  refine lv_iload_n C.1 C.2.1 qm_M_innerOnes_106 rfl (lv_at hl 2 rfl) ?_
  refine lv_bipush (v := 11) C.1 C.2.1 qm_M_innerOnes_107 (by decide) ?_
  refine lv_icmp_ne (tgt := 120) C.1 C.2.1 qm_M_innerOnes_109 (by decide) (fun b2 => ?_) (fun b2 => ?_)
  · have hf := if_t b2 hf
    exact wM_innerOnes_120 C S x1 (gA S 2 x2) hf _ _ _ G (lv_sub hl [1, 2, 0] rfl)
  · have hf := if_f (not_not_intro b2) hf
    refine lv_aload_n C.1 C.2.1 qm_M_innerOnes_112 rfl (lv_at hl 1 rfl) ?_
    refine lv_iload C.1 C.2.1 qm_M_innerOnes_113 (lv_at hl 0 rfl) ?_
    refine lv_iconst (v := 0) C.1 C.2.1 qm_M_innerOnes_115 (by decide) ?_
    refine lv_iconst (v := 0) C.1 C.2.1 qm_M_innerOnes_116 (by decide) ?_
    obtain ⟨S3, c3, hf⟩ := bnd_s hf
    refine q_callVv (wf := (mW h K)) (n := 3) (As := [.int (gA S 2 x2), .int 0, .int 0]) (q0 := 0) (ci := 7) C G hl.1 (kM_mark (l := l) c3) qx_M_113 qm_M_mark_d ⟨by decide, by decide⟩ ⟨Nat.le_refl _, Nat.le_refl _⟩ rfl rfl rfl rfl rfl (Nat.le_of_ble_eq_true rfl) qm_M_innerOnes_117 (fun H locs G => ?_)
    exact wM_innerOnes_120 C S3 x1 (gA S 2 x2) hf _ _ _ G (lv_sub hl [1, 2, 0] rfl)
set_option maxHeartbeats 4000000 in
set_option maxRecDepth 100000 in
theorem wM_innerOnes_72 {l : Launch} {D : va_G} {h : Nat → Nat} {K : Nat → ClassId} {res : qS} {p : Program} {e : Env} {s : State} {m : MethodId} {args : Array Value} {below : List Frame} {meth : Method} {c : Code} {A : Nat → Prop} {ad : Nat → Nat} (C : qC p s m args meth c qm_M_innerOnes_c 5 none qR_M ad) (S : qS) (x1 : Int32) (x2 : Int32) (hf : fM_innerOnes_72 S x1 x2 = some res) : ∀ (H : Heap) (locs : List Loc) (ls : Array Slot), qG D qCl (mT K) A s (mW h K S) H locs → lv_has ls 5 [(0, .ref (h 0)), (1, .int x1), (2, .int x2)] → W p l e ({ frames := 4, cells := 0, slots := 0, locals := 101 }) s m args below meth c H locs 0 0 (MQ below (qQv D qCl (mT K) (mW h K) A res) args s 0 0 A) (F0 m 72 ls []) := by
  intro H locs ls G hl
  unfold fM_innerOnes_72 at hf
  refine lv_aload_n C.1 C.2.1 qm_M_innerOnes_72 rfl (lv_at hl 0 rfl) ?_
  refine q_get (wf := (mW h K)) (v := .int (S.1 7)) C G qi_M 0 rfl rfl 12 (by decide) qz_843 rfl qm_M_innerOnes_73 ?_
  refine lv_if_eq (tgt := 80) C.1 C.2.1 qm_M_innerOnes_76 (by decide) (fun b1 => ?_) (fun b1 => ?_)
  · have hf := if_t b1 hf
    refine lv_iload_n C.1 C.2.1 qm_M_innerOnes_80 rfl (lv_at hl 1 rfl) ?_
    refine lv_bipush (v := 10) C.1 C.2.1 qm_M_innerOnes_81 (by decide) ?_
    refine lv_icmp_ne (tgt := 98) C.1 C.2.1 qm_M_innerOnes_83 (by decide) (fun b2 => ?_) (fun b2 => ?_)
    · have hf := if_t b2 hf
      exact wM_innerOnes_98 C S x1 x2 hf _ _ _ G (lv_sub hl [0, 1, 2] rfl)
    · have hf := if_f (not_not_intro b2) hf
      refine lv_aload_n C.1 C.2.1 qm_M_innerOnes_86 rfl (lv_at hl 0 rfl) ?_
      refine q_get (wf := (mW h K)) (v := .ref (h 3)) C G qi_M 0 rfl rfl 3 (by decide) qz_834 rfl qm_M_innerOnes_87 ?_
      refine lv_iload_n C.1 C.2.1 qm_M_innerOnes_90 rfl (lv_at hl 2 rfl) ?_
      refine lv_aload_n C.1 C.2.1 qm_M_innerOnes_91 rfl (lv_at hl 0 rfl) ?_
      refine q_get (wf := (mW h K)) (v := .ref (h 6)) C G qi_M 0 rfl rfl 16 (by decide) qz_847 rfl qm_M_innerOnes_92 ?_
      refine lv_iconst (v := 0) C.1 C.2.1 qm_M_innerOnes_95 (by decide) ?_
      refine q_iald (wf := (mW h K)) C G 6 5 rfl rfl (by decide) qm_M_innerOnes_96 ?_
      obtain ⟨b3, hf⟩ := chk_s hf
      refine q_iast (wf := (mW h K)) (S' := (pA S 2 x2 (gA S 5 0))) C G 3 2 rfl rfl b3 rfl qm_M_innerOnes_97 (fun H locs G => ?_)
      exact wM_innerOnes_98 C (pA S 2 x2 (gA S 5 0)) x1 x2 hf _ _ _ G (lv_sub hl [0, 1, 2] rfl)
  · have hf := if_f b1 hf
    exact q_vret (wf := (mW h K)) C G hf qm_M_innerOnes_79
set_option maxHeartbeats 4000000 in
set_option maxRecDepth 100000 in
theorem wM_innerOnes_60 {l : Launch} {D : va_G} {h : Nat → Nat} {K : Nat → ClassId} {res : qS} {p : Program} {e : Env} {s : State} {m : MethodId} {args : Array Value} {below : List Frame} {meth : Method} {c : Code} {A : Nat → Prop} {ad : Nat → Nat} (C : qC p s m args meth c qm_M_innerOnes_c 5 none qR_M ad) (S : qS) (x1 : Int32) (x2 : Int32) (y0 : Int32) (hf : fM_innerOnes_60 S x1 x2 y0 = some res) : ∀ (H : Heap) (locs : List Loc) (ls : Array Slot), qG D qCl (mT K) A s (mW h K S) H locs → lv_has ls 5 [(0, .ref (h 0)), (1, .int x1), (2, .int x2)] → W p l e ({ frames := 4, cells := 0, slots := 0, locals := 101 }) s m args below meth c H locs 0 0 (MQ below (qQv D qCl (mT K) (mW h K) A res) args s 0 0 A) (F0 m 60 ls [.int y0]) := by
  intro H locs ls G hl
  unfold fM_innerOnes_60 at hf
  refine lv_istore_n (lv' := [(3, .int y0), (0, .ref (h 0)), (1, .int x1), (2, .int x2)]) C.1 C.2.1 qm_M_innerOnes_60 rfl hl (by decide) rfl (fun ls hl => ?_)
  refine lv_iload_n C.1 C.2.1 qm_M_innerOnes_61 rfl (lv_at hl 0 rfl) ?_
  refine lv_if_ne (tgt := 72) C.1 C.2.1 qm_M_innerOnes_62 (by decide) (fun b1 => ?_) (fun b1 => ?_)
  · have hf := if_t b1 hf
    exact wM_innerOnes_72 C S x1 x2 hf _ _ _ G (lv_sub hl [1, 2, 3] rfl)
  · have hf := if_f (not_not_intro b1) hf
    refine lv_aload_n C.1 C.2.1 qm_M_innerOnes_65 rfl (lv_at hl 1 rfl) ?_
    refine lv_iconst (v := 2) C.1 C.2.1 qm_M_innerOnes_66 (by decide) ?_
    refine lv_iconst (v := 0) C.1 C.2.1 qm_M_innerOnes_67 (by decide) ?_
    refine lv_iconst (v := 0) C.1 C.2.1 qm_M_innerOnes_68 (by decide) ?_
    obtain ⟨S2, c2, hf⟩ := bnd_s hf
    refine q_callVv (wf := (mW h K)) (n := 3) (As := [.int 2, .int 0, .int 0]) (q0 := 0) (ci := 7) C G hl.1 (kM_wrong (l := l) c2) qx_M_77 qm_M_wrong_d ⟨by decide, by decide⟩ ⟨Nat.le_refl _, Nat.le_refl _⟩ rfl rfl rfl rfl rfl (Nat.le_of_ble_eq_true rfl) qm_M_innerOnes_69 (fun H locs G => ?_)
    exact wM_innerOnes_72 C S2 x1 x2 hf _ _ _ G (lv_sub hl [1, 2, 3] rfl)
set_option maxHeartbeats 4000000 in
set_option maxRecDepth 100000 in
theorem wM_innerOnes_59 {l : Launch} {D : va_G} {h : Nat → Nat} {K : Nat → ClassId} {res : qS} {p : Program} {e : Env} {s : State} {m : MethodId} {args : Array Value} {below : List Frame} {meth : Method} {c : Code} {A : Nat → Prop} {ad : Nat → Nat} (C : qC p s m args meth c qm_M_innerOnes_c 5 none qR_M ad) (S : qS) (x1 : Int32) (x2 : Int32) (hf : fM_innerOnes_59 S x1 x2 = some res) : ∀ (H : Heap) (locs : List Loc) (ls : Array Slot), qG D qCl (mT K) A s (mW h K S) H locs → lv_has ls 5 [(0, .ref (h 0)), (1, .int x1), (2, .int x2)] → W p l e ({ frames := 4, cells := 0, slots := 0, locals := 101 }) s m args below meth c H locs 0 0 (MQ below (qQv D qCl (mT K) (mW h K) A res) args s 0 0 A) (F0 m 59 ls []) := by
  intro H locs ls G hl
  unfold fM_innerOnes_59 at hf
  refine lv_iconst (v := 0) C.1 C.2.1 qm_M_innerOnes_59 (by decide) ?_
  exact wM_innerOnes_60 C S x1 x2 0 hf _ _ _ G (lv_sub hl [0, 1, 2] rfl)
set_option maxHeartbeats 4000000 in
set_option maxRecDepth 100000 in
theorem wM_innerOnes_55 {l : Launch} {D : va_G} {h : Nat → Nat} {K : Nat → ClassId} {res : qS} {p : Program} {e : Env} {s : State} {m : MethodId} {args : Array Value} {below : List Frame} {meth : Method} {c : Code} {A : Nat → Prop} {ad : Nat → Nat} (C : qC p s m args meth c qm_M_innerOnes_c 5 none qR_M ad) (S : qS) (x1 : Int32) (x2 : Int32) (hf : fM_innerOnes_55 S x1 x2 = some res) : ∀ (H : Heap) (locs : List Loc) (ls : Array Slot), qG D qCl (mT K) A s (mW h K S) H locs → lv_has ls 5 [(0, .ref (h 0)), (1, .int x1), (2, .int x2)] → W p l e ({ frames := 4, cells := 0, slots := 0, locals := 101 }) s m args below meth c H locs 0 0 (MQ below (qQv D qCl (mT K) (mW h K) A res) args s 0 0 A) (F0 m 55 ls []) := by
  intro H locs ls G hl
  unfold fM_innerOnes_55 at hf
  refine lv_iconst (v := 1) C.1 C.2.1 qm_M_innerOnes_55 (by decide) ?_
  refine lv_goto (tgt := 60) C.1 C.2.1 qm_M_innerOnes_56 (by decide) ?_
  exact wM_innerOnes_60 C S x1 x2 1 hf _ _ _ G (lv_sub hl [0, 1, 2] rfl)
set_option maxHeartbeats 4000000 in
set_option maxRecDepth 100000 in
theorem wM_innerOnes_15 {l : Launch} {D : va_G} {h : Nat → Nat} {K : Nat → ClassId} {res : qS} {p : Program} {e : Env} {s : State} {m : MethodId} {args : Array Value} {below : List Frame} {meth : Method} {c : Code} {A : Nat → Prop} {ad : Nat → Nat} (C : qC p s m args meth c qm_M_innerOnes_c 5 none qR_M ad) (S : qS) (x1 : Int32) (y1 : Int32) (hf : fM_innerOnes_15 S x1 y1 = some res) : ∀ (H : Heap) (locs : List Loc) (ls : Array Slot), qG D qCl (mT K) A s (mW h K S) H locs → lv_has ls 5 [(0, .ref (h 0)), (1, .int x1)] → W p l e ({ frames := 4, cells := 0, slots := 0, locals := 101 }) s m args below meth c H locs 0 0 (MQ below (qQv D qCl (mT K) (mW h K) A res) args s 0 0 A) (F0 m 15 ls [.int y1, .ref (h 6)]) := by
  intro H locs ls G hl
  unfold fM_innerOnes_15 at hf
  obtain ⟨b1, hf⟩ := chk_s hf
  refine q_iald (wf := (mW h K)) C G 6 5 rfl rfl b1 qm_M_innerOnes_15 ?_
  refine lv_istore_n (lv' := [(2, .int (gA S 5 y1)), (0, .ref (h 0)), (1, .int x1)]) C.1 C.2.1 qm_M_innerOnes_16 rfl hl (by decide) rfl (fun ls hl => ?_)
  refine lv_iload_n C.1 C.2.1 qm_M_innerOnes_17 rfl (lv_at hl 0 rfl) ?_
  obtain ⟨q2, c2, hf⟩ := bnd_s hf
  refine q_callSi (wf := (mW h K)) (n := 1) (As := [.int (gA S 5 y1)]) C G hl.1 (kM_isInner (l := l) c2) qx_M_133 qm_M_isInner_d ⟨by decide, by decide⟩ ⟨Nat.le_refl _, Nat.le_refl _⟩ rfl rfl (Nat.le_of_ble_eq_true rfl) qm_M_innerOnes_18 (fun H locs G => ?_)
  refine lv_if_eq (tgt := 59) C.1 C.2.1 qm_M_innerOnes_21 (by decide) (fun b3 => ?_) (fun b3 => ?_)
  · have hf := if_t b3 hf
    exact wM_innerOnes_59 C q2.2 x1 (gA S 5 y1) hf _ _ _ G (lv_sub hl [1, 2, 0] rfl)
  · have hf := if_f b3 hf
    refine lv_iload_n C.1 C.2.1 qm_M_innerOnes_24 rfl (lv_at hl 2 rfl) ?_
    refine lv_bipush (v := 11) C.1 C.2.1 qm_M_innerOnes_25 (by decide) ?_
    refine lv_icmp_eq (tgt := 55) C.1 C.2.1 qm_M_innerOnes_27 (by decide) (fun b4 => ?_) (fun b4 => ?_)
    · have hf := if_t b4 hf
      exact wM_innerOnes_55 C q2.2 x1 (gA S 5 y1) hf _ _ _ G (lv_sub hl [1, 2, 0] rfl)
    · have hf := if_f b4 hf
      refine lv_iload_n C.1 C.2.1 qm_M_innerOnes_30 rfl (lv_at hl 0 rfl) ?_
      refine lv_bipush (v := 56) C.1 C.2.1 qm_M_innerOnes_31 (by decide) ?_
      refine lv_icmp_ne (tgt := 55) C.1 C.2.1 qm_M_innerOnes_33 (by decide) (fun b5 => ?_) (fun b5 => ?_)
      · have hf := if_t b5 hf
        exact wM_innerOnes_55 C q2.2 x1 (gA S 5 y1) hf _ _ _ G (lv_sub hl [1, 2, 0] rfl)
      · have hf := if_f (not_not_intro b5) hf
        refine lv_aload_n C.1 C.2.1 qm_M_innerOnes_36 rfl (lv_at hl 1 rfl) ?_
        refine q_get (wf := (mW h K)) (v := .ref (h 6)) C G qi_M 0 rfl rfl 16 (by decide) qz_847 rfl qm_M_innerOnes_37 ?_
        refine lv_iconst (v := 0) C.1 C.2.1 qm_M_innerOnes_40 (by decide) ?_
        refine q_iald (wf := (mW h K)) C G 6 5 rfl rfl (by decide) qm_M_innerOnes_41 ?_
        refine lv_if_eq (tgt := 55) C.1 C.2.1 qm_M_innerOnes_42 (by decide) (fun b6 => ?_) (fun b6 => ?_)
        · have hf := if_t b6 hf
          exact wM_innerOnes_55 C q2.2 x1 (gA S 5 y1) hf _ _ _ G (lv_sub hl [1, 2, 0] rfl)
        · have hf := if_f b6 hf
          refine lv_aload_n C.1 C.2.1 qm_M_innerOnes_45 rfl (lv_at hl 1 rfl) ?_
          refine q_get (wf := (mW h K)) (v := .ref (h 6)) C G qi_M 0 rfl rfl 16 (by decide) qz_847 rfl qm_M_innerOnes_46 ?_
          refine lv_iconst (v := 0) C.1 C.2.1 qm_M_innerOnes_49 (by decide) ?_
          refine q_iald (wf := (mW h K)) C G 6 5 rfl rfl (by decide) qm_M_innerOnes_50 ?_
          refine lv_iconst (v := 1) C.1 C.2.1 qm_M_innerOnes_51 (by decide) ?_
          refine lv_icmp_ne (tgt := 59) C.1 C.2.1 qm_M_innerOnes_52 (by decide) (fun b7 => ?_) (fun b7 => ?_)
          · have hf := if_t b7 hf
            exact wM_innerOnes_59 C q2.2 x1 (gA S 5 y1) hf _ _ _ G (lv_sub hl [1, 2, 0] rfl)
          · have hf := if_f (not_not_intro b7) hf
            exact wM_innerOnes_55 C q2.2 x1 (gA S 5 y1) hf _ _ _ G (lv_sub hl [1, 2, 0] rfl)
set_option maxHeartbeats 4000000 in
set_option maxRecDepth 100000 in
theorem wM_innerOnes {l : Launch} {D : va_G} {h : Nat → Nat} {K : Nat → ClassId} {res : qS} {p : Program} {e : Env} {s : State} {m : MethodId} {args : Array Value} {below : List Frame} {meth : Method} {c : Code} {A : Nat → Prop} {ad : Nat → Nat} (C : qC p s m args meth c qm_M_innerOnes_c 5 none qR_M ad) (S : qS) (a1 : Int32) (hf : fM_innerOnes S a1 = some res) : ∀ (H : Heap) (locs : List Loc) (ls : Array Slot), qG D qCl (mT K) A s (mW h K S) H locs → lv_has ls 5 [(0, .ref (h 0)), (1, .int a1)] → W p l e ({ frames := 4, cells := 0, slots := 0, locals := 101 }) s m args below meth c H locs 0 0 (MQ below (qQv D qCl (mT K) (mW h K) A res) args s 0 0 A) (F0 m 0 ls []) := by
  intro H locs ls G hl
  unfold fM_innerOnes at hf
  refine lv_aload_n C.1 C.2.1 qm_M_innerOnes_0 rfl (lv_at hl 0 rfl) ?_
  refine q_get (wf := (mW h K)) (v := .ref (h 6)) C G qi_M 0 rfl rfl 16 (by decide) qz_847 rfl qm_M_innerOnes_1 ?_
  refine lv_iload_n C.1 C.2.1 qm_M_innerOnes_4 rfl (lv_at hl 1 rfl) ?_
  refine lv_bipush (v := 10) C.1 C.2.1 qm_M_innerOnes_5 (by decide) ?_
  refine lv_icmp_ne (tgt := 14) C.1 C.2.1 qm_M_innerOnes_7 (by decide) (fun b1 => ?_) (fun b1 => ?_)
  · have hf := if_t b1 hf
    refine lv_iconst (v := 0) C.1 C.2.1 qm_M_innerOnes_14 (by decide) ?_
    exact wM_innerOnes_15 C S a1 0 hf _ _ _ G (lv_sub hl [0, 1] rfl)
  · have hf := if_f (not_not_intro b1) hf
    refine lv_iconst (v := 1) C.1 C.2.1 qm_M_innerOnes_10 (by decide) ?_
    refine lv_goto (tgt := 15) C.1 C.2.1 qm_M_innerOnes_11 (by decide) ?_
    exact wM_innerOnes_15 C S a1 1 hf _ _ _ G (lv_sub hl [0, 1] rfl)
theorem kM_innerOnes {l : Launch} {ad : Nat → Nat} {D : va_G} {h : Nat → Nat} {K : Nat → ClassId} {res : qS} {S : qS} {a1 : Int32} (hf : fM_innerOnes S a1 = some res) : qMv l qm_M_innerOnes qm_M_innerOnes_c 5 4 101 D qCl (mT K) ad (mW h K) [.ref (h 0), .int a1] S res := qMv_of (by decide) (Nat.le_of_ble_eq_true rfl) (fun _ _ _ _ _ _ _ _ _ _ C G hl => wM_innerOnes C S a1 hf _ _ _ G hl)
set_option maxHeartbeats 4000000 in
set_option maxRecDepth 100000 in
theorem wM_has_17 {l : Launch} {D : va_G} {h : Nat → Nat} {K : Nat → ClassId} {res : Int32 × qS} {p : Program} {e : Env} {s : State} {m : MethodId} {args : Array Value} {below : List Frame} {meth : Method} {c : Code} {A : Nat → Prop} {ad : Nat → Nat} (C : qC p s m args meth c qm_M_has_c 2 (some .boolean) qR_M ad) (S : qS) (y0 : Int32) (hf : fM_has_17 S y0 = some res) : ∀ (H : Heap) (locs : List Loc) (ls : Array Slot), qG D qCl (mT K) A s (mW h K S) H locs → lv_has ls 2 [] → W p l e ({ frames := 0, cells := 0, slots := 0, locals := 0 }) s m args below meth c H locs 0 0 (MQ below (qQi D qCl (mT K) (mW h K) A res) args s 0 0 A) (F0 m 17 ls [.int y0]) := by
  intro H locs ls G hl
  unfold fM_has_17 at hf
  exact q_zret (wf := (mW h K)) C G hf qm_M_has_17
set_option maxHeartbeats 4000000 in
set_option maxRecDepth 100000 in
theorem wM_has {l : Launch} {D : va_G} {h : Nat → Nat} {K : Nat → ClassId} {res : Int32 × qS} {p : Program} {e : Env} {s : State} {m : MethodId} {args : Array Value} {below : List Frame} {meth : Method} {c : Code} {A : Nat → Prop} {ad : Nat → Nat} (C : qC p s m args meth c qm_M_has_c 2 (some .boolean) qR_M ad) (S : qS) (a1 : Int32) (hf : fM_has S a1 = some res) : ∀ (H : Heap) (locs : List Loc) (ls : Array Slot), qG D qCl (mT K) A s (mW h K S) H locs → lv_has ls 2 [(0, .ref (h 0)), (1, .int a1)] → W p l e ({ frames := 0, cells := 0, slots := 0, locals := 0 }) s m args below meth c H locs 0 0 (MQ below (qQi D qCl (mT K) (mW h K) A res) args s 0 0 A) (F0 m 0 ls []) := by
  intro H locs ls G hl
  unfold fM_has at hf
  refine lv_aload_n C.1 C.2.1 qm_M_has_0 rfl (lv_at hl 0 rfl) ?_
  refine q_get (wf := (mW h K)) (v := .int (S.1 1)) C G qi_M 0 rfl rfl 4 (by decide) qz_835 rfl qm_M_has_1 ?_
  refine lv_iload_n C.1 C.2.1 qm_M_has_4 rfl (lv_at hl 1 rfl) ?_
  refine lv_ishr C.1 C.2.1 qm_M_has_5 ?_
  refine lv_iconst (v := 1) C.1 C.2.1 qm_M_has_6 (by decide) ?_
  refine lv_iand C.1 C.2.1 qm_M_has_7 ?_
  refine lv_iconst (v := 1) C.1 C.2.1 qm_M_has_8 (by decide) ?_
  refine lv_icmp_ne (tgt := 16) C.1 C.2.1 qm_M_has_9 (by decide) (fun b1 => ?_) (fun b1 => ?_)
  · have hf := if_t b1 hf
    refine lv_iconst (v := 0) C.1 C.2.1 qm_M_has_16 (by decide) ?_
    exact wM_has_17 C S 0 hf _ _ _ G (lv_sub hl [] rfl)
  · have hf := if_f (not_not_intro b1) hf
    refine lv_iconst (v := 1) C.1 C.2.1 qm_M_has_12 (by decide) ?_
    refine lv_goto (tgt := 17) C.1 C.2.1 qm_M_has_13 (by decide) ?_
    exact wM_has_17 C S 1 hf _ _ _ G (lv_sub hl [] rfl)
theorem kM_has {l : Launch} {ad : Nat → Nat} {D : va_G} {h : Nat → Nat} {K : Nat → ClassId} {res : Int32 × qS} {S : qS} {a1 : Int32} (hf : fM_has S a1 = some res) : qMi l qm_M_has qm_M_has_c 2 .boolean 0 0 D qCl (mT K) ad (mW h K) [.ref (h 0), .int a1] S res := qMi_of (by decide) (Nat.le_of_ble_eq_true rfl) (fun _ _ _ _ _ _ _ _ _ _ C G hl => wM_has C S a1 hf _ _ _ G hl)
set_option maxHeartbeats 4000000 in
set_option maxRecDepth 100000 in
theorem wM_push_35 {l : Launch} {D : va_G} {h : Nat → Nat} {K : Nat → ClassId} {res : qS} {p : Program} {e : Env} {s : State} {m : MethodId} {args : Array Value} {below : List Frame} {meth : Method} {c : Code} {A : Nat → Prop} {ad : Nat → Nat} (C : qC p s m args meth c qm_M_push_c 2 none qR_M ad) (S : qS) (hf : fM_push_35 S = some res) : ∀ (H : Heap) (locs : List Loc) (ls : Array Slot), qG D qCl (mT K) A s (mW h K S) H locs → lv_has ls 2 [] → W p l e ({ frames := 3, cells := 0, slots := 0, locals := 78 }) s m args below meth c H locs 0 0 (MQ below (qQv D qCl (mT K) (mW h K) A res) args s 0 0 A) (F0 m 35 ls []) := by
  intro H locs ls G hl
  unfold fM_push_35 at hf
  exact q_vret (wf := (mW h K)) C G hf qm_M_push_35
set_option maxHeartbeats 4000000 in
set_option maxRecDepth 100000 in
theorem wM_push {l : Launch} {D : va_G} {h : Nat → Nat} {K : Nat → ClassId} {res : qS} {p : Program} {e : Env} {s : State} {m : MethodId} {args : Array Value} {below : List Frame} {meth : Method} {c : Code} {A : Nat → Prop} {ad : Nat → Nat} (C : qC p s m args meth c qm_M_push_c 2 none qR_M ad) (S : qS) (a1 : Int32) (hf : fM_push S a1 = some res) : ∀ (H : Heap) (locs : List Loc) (ls : Array Slot), qG D qCl (mT K) A s (mW h K S) H locs → lv_has ls 2 [(0, .ref (h 0)), (1, .int a1)] → W p l e ({ frames := 3, cells := 0, slots := 0, locals := 78 }) s m args below meth c H locs 0 0 (MQ below (qQv D qCl (mT K) (mW h K) A res) args s 0 0 A) (F0 m 0 ls []) := by
  intro H locs ls G hl
  unfold fM_push at hf
  refine lv_aload_n C.1 C.2.1 qm_M_push_0 rfl (lv_at hl 0 rfl) ?_
  refine lv_aload_n C.1 C.2.1 qm_M_push_1 rfl (lv_at hl 0 rfl) ?_
  refine lv_bipush (v := 14) C.1 C.2.1 qm_M_push_2 (by decide) ?_
  obtain ⟨q1, c1, hf⟩ := bnd_s hf
  refine q_callVi (wf := (mW h K)) (n := 1) (As := [.int 14]) (q0 := 0) (ci := 7) C G hl.1 (kM_get (l := l) c1) qx_M_84 qm_M_get_d ⟨by decide, by decide⟩ ⟨Nat.le_refl _, Nat.le_refl _⟩ rfl rfl rfl rfl rfl (Nat.le_of_ble_eq_true rfl) qm_M_push_4 (fun H locs G => ?_)
  refine lv_iconst (v := 4) C.1 C.2.1 qm_M_push_7 (by decide) ?_
  refine lv_isub C.1 C.2.1 qm_M_push_8 ?_
  refine lv_iload_n C.1 C.2.1 qm_M_push_9 rfl (lv_at hl 1 rfl) ?_
  refine lv_iconst (v := 4) C.1 C.2.1 qm_M_push_10 (by decide) ?_
  obtain ⟨S2, c2, hf⟩ := bnd_s hf
  refine q_callVv (wf := (mW h K)) (n := 3) (As := [.int (q1.1 - 4), .int a1, .int 4]) (q0 := 0) (ci := 7) C G hl.1 (kM_write (l := l) c2) qx_M_87 qm_M_write_d ⟨by decide, by decide⟩ ⟨Nat.le_refl _, Nat.le_refl _⟩ rfl rfl rfl rfl rfl (Nat.le_of_ble_eq_true rfl) qm_M_push_11 (fun H locs G => ?_)
  refine lv_aload_n C.1 C.2.1 qm_M_push_14 rfl (lv_at hl 0 rfl) ?_
  refine q_get (wf := (mW h K)) (v := .int (S2.1 7)) C G qi_M 0 rfl rfl 12 (by decide) qz_843 rfl qm_M_push_15 ?_
  refine lv_if_ne (tgt := 35) C.1 C.2.1 qm_M_push_18 (by decide) (fun b3 => ?_) (fun b3 => ?_)
  · have hf := if_t b3 hf
    exact wM_push_35 C S2 hf _ _ _ G (lv_sub hl [] rfl)
  · have hf := if_f (not_not_intro b3) hf
    refine lv_aload_n C.1 C.2.1 qm_M_push_21 rfl (lv_at hl 0 rfl) ?_
    refine lv_bipush (v := 14) C.1 C.2.1 qm_M_push_22 (by decide) ?_
    refine lv_aload_n C.1 C.2.1 qm_M_push_24 rfl (lv_at hl 0 rfl) ?_
    refine lv_bipush (v := 14) C.1 C.2.1 qm_M_push_25 (by decide) ?_
    obtain ⟨q4, c4, hf⟩ := bnd_s hf
    refine q_callVi (wf := (mW h K)) (n := 1) (As := [.int 14]) (q0 := 0) (ci := 7) C G hl.1 (kM_get (l := l) c4) qx_M_84 qm_M_get_d ⟨by decide, by decide⟩ ⟨Nat.le_refl _, Nat.le_refl _⟩ rfl rfl rfl rfl rfl (Nat.le_of_ble_eq_true rfl) qm_M_push_27 (fun H locs G => ?_)
    refine lv_iconst (v := 4) C.1 C.2.1 qm_M_push_30 (by decide) ?_
    refine lv_isub C.1 C.2.1 qm_M_push_31 ?_
    obtain ⟨S5, c5, hf⟩ := bnd_s hf
    refine q_callVv (wf := (mW h K)) (n := 2) (As := [.int 14, .int (q4.1 - 4)]) (q0 := 0) (ci := 7) C G hl.1 (kM_put (l := l) c5) qx_M_90 qm_M_put_d ⟨by decide, by decide⟩ ⟨Nat.le_refl _, Nat.le_refl _⟩ rfl rfl rfl rfl rfl (Nat.le_of_ble_eq_true rfl) qm_M_push_32 (fun H locs G => ?_)
    exact wM_push_35 C S5 hf _ _ _ G (lv_sub hl [] rfl)
theorem kM_push {l : Launch} {ad : Nat → Nat} {D : va_G} {h : Nat → Nat} {K : Nat → ClassId} {res : qS} {S : qS} {a1 : Int32} (hf : fM_push S a1 = some res) : qMv l qm_M_push qm_M_push_c 2 3 78 D qCl (mT K) ad (mW h K) [.ref (h 0), .int a1] S res := qMv_of (by decide) (Nat.le_of_ble_eq_true rfl) (fun _ _ _ _ _ _ _ _ _ _ C G hl => wM_push C S a1 hf _ _ _ G hl)
