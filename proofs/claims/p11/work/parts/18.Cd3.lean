theorem qm_Cd_divide_0 : decode qm_Cd_divide_c 0 = .ok (.iload_n 2, 1) := by decide +kernel
theorem qm_Cd_divide_1 : decode qm_Cd_divide_c 1 = .ok (.ifCond .ne 11, 3) := by decide +kernel
theorem qm_Cd_divide_4 : decode qm_Cd_divide_c 4 = .ok (.aload_n 0, 1) := by decide +kernel
theorem qm_Cd_divide_5 : decode qm_Cd_divide_c 5 = .ok (.getfield 9, 3) := by decide +kernel
theorem qm_Cd_divide_8 : decode qm_Cd_divide_c 8 = .ok (.iconst 2, 1) := by decide +kernel
theorem qm_Cd_divide_9 : decode qm_Cd_divide_c 9 = .ok (.putfield 149, 3) := by decide +kernel
theorem qm_Cd_divide_12 : decode qm_Cd_divide_c 12 = .ok (.iload_n 2, 1) := by decide +kernel
theorem qm_Cd_divide_13 : decode qm_Cd_divide_c 13 = .ok (.ifCond .eq 14, 3) := by decide +kernel
theorem qm_Cd_divide_16 : decode qm_Cd_divide_c 16 = .ok (.iload_n 1, 1) := by decide +kernel
theorem qm_Cd_divide_17 : decode qm_Cd_divide_c 17 = .ok (.ldc 193, 2) := by decide +kernel
theorem qm_Cd_divide_19 : decode qm_Cd_divide_c 19 = .ok (.if_icmp .ne 12, 3) := by decide +kernel
theorem qm_Cd_divide_22 : decode qm_Cd_divide_c 22 = .ok (.iload_n 2, 1) := by decide +kernel
theorem qm_Cd_divide_23 : decode qm_Cd_divide_c 23 = .ok (.iconst (-1), 1) := by decide +kernel
theorem qm_Cd_divide_24 : decode qm_Cd_divide_c 24 = .ok (.if_icmp .ne 7, 3) := by decide +kernel
theorem qm_Cd_divide_27 : decode qm_Cd_divide_c 27 = .ok (.iconst 1, 1) := by decide +kernel
theorem qm_Cd_divide_28 : decode qm_Cd_divide_c 28 = .ok (.goto 4, 3) := by decide +kernel
theorem qm_Cd_divide_31 : decode qm_Cd_divide_c 31 = .ok (.iconst 0, 1) := by decide +kernel
theorem qm_Cd_divide_32 : decode qm_Cd_divide_c 32 = .ok (.istore_n 3, 1) := by decide +kernel
theorem qm_Cd_divide_33 : decode qm_Cd_divide_c 33 = .ok (.iload_n 3, 1) := by decide +kernel
theorem qm_Cd_divide_34 : decode qm_Cd_divide_c 34 = .ok (.ifCond .eq 7, 3) := by decide +kernel
theorem qm_Cd_divide_37 : decode qm_Cd_divide_c 37 = .ok (.iload_n 1, 1) := by decide +kernel
theorem qm_Cd_divide_38 : decode qm_Cd_divide_c 38 = .ok (.goto 6, 3) := by decide +kernel
theorem qm_Cd_divide_41 : decode qm_Cd_divide_c 41 = .ok (.iload_n 1, 1) := by decide +kernel
theorem qm_Cd_divide_42 : decode qm_Cd_divide_c 42 = .ok (.iload_n 2, 1) := by decide +kernel
theorem qm_Cd_divide_43 : decode qm_Cd_divide_c 43 = .ok (.idiv, 1) := by decide +kernel
theorem qm_Cd_divide_44 : decode qm_Cd_divide_c 44 = .ok (.istore 4, 2) := by decide +kernel
theorem qm_Cd_divide_46 : decode qm_Cd_divide_c 46 = .ok (.aload_n 0, 1) := by decide +kernel
theorem qm_Cd_divide_47 : decode qm_Cd_divide_c 47 = .ok (.getfield 9, 3) := by decide +kernel
theorem qm_Cd_divide_50 : decode qm_Cd_divide_c 50 = .ok (.iload 4, 2) := by decide +kernel
theorem qm_Cd_divide_52 : decode qm_Cd_divide_c 52 = .ok (.iload_n 3, 1) := by decide +kernel
theorem qm_Cd_divide_53 : decode qm_Cd_divide_c 53 = .ok (.iconst 0, 1) := by decide +kernel
theorem qm_Cd_divide_54 : decode qm_Cd_divide_c 54 = .ok (.invokevirtual 183, 3) := by decide +kernel
theorem qm_Cd_divide_57 : decode qm_Cd_divide_c 57 = .ok (.iload 4, 2) := by decide +kernel
theorem qm_Cd_divide_59 : decode qm_Cd_divide_c 59 = .ok (.ireturn, 1) := by decide +kernel
theorem qm_Cd_bits_0 : decode qm_Cd_bits_c 0 = .ok (.aload_n 0, 1) := by decide +kernel
theorem qm_Cd_bits_1 : decode qm_Cd_bits_c 1 = .ok (.getfield 9, 3) := by decide +kernel
theorem qm_Cd_bits_4 : decode qm_Cd_bits_c 4 = .ok (.iload_n 1, 1) := by decide +kernel
theorem qm_Cd_bits_5 : decode qm_Cd_bits_c 5 = .ok (.iconst 0, 1) := by decide +kernel
theorem qm_Cd_bits_6 : decode qm_Cd_bits_c 6 = .ok (.aload_n 0, 1) := by decide +kernel
theorem qm_Cd_bits_7 : decode qm_Cd_bits_c 7 = .ok (.getfield 9, 3) := by decide +kernel
theorem qm_Cd_bits_10 : decode qm_Cd_bits_c 10 = .ok (.iconst 1, 1) := by decide +kernel
theorem qm_Cd_bits_11 : decode qm_Cd_bits_c 11 = .ok (.invokevirtual 152, 3) := by decide +kernel
theorem qm_Cd_bits_14 : decode qm_Cd_bits_c 14 = .ok (.invokevirtual 183, 3) := by decide +kernel
theorem qm_Cd_bits_17 : decode qm_Cd_bits_c 17 = .ok (.iload_n 1, 1) := by decide +kernel
theorem qm_Cd_bits_18 : decode qm_Cd_bits_c 18 = .ok (.ireturn, 1) := by decide +kernel
theorem qm_Cd_calculated_0 : decode qm_Cd_calculated_c 0 = .ok (.iload_n 1, 1) := by decide +kernel
theorem qm_Cd_calculated_1 : decode qm_Cd_calculated_c 1 = .ok (.tableswitch 85 27 32 #[39, 46, 53, 60, 67, 75], 39) := by decide +kernel
theorem qm_Cd_calculated_40 : decode qm_Cd_calculated_c 40 = .ok (.aload_n 0, 1) := by decide +kernel
theorem qm_Cd_calculated_41 : decode qm_Cd_calculated_c 41 = .ok (.iload_n 3, 1) := by decide +kernel
theorem qm_Cd_calculated_42 : decode qm_Cd_calculated_c 42 = .ok (.iload_n 2, 1) := by decide +kernel
theorem qm_Cd_calculated_43 : decode qm_Cd_calculated_c 43 = .ok (.invokevirtual 201, 3) := by decide +kernel
theorem qm_Cd_calculated_46 : decode qm_Cd_calculated_c 46 = .ok (.ireturn, 1) := by decide +kernel
theorem qm_Cd_calculated_47 : decode qm_Cd_calculated_c 47 = .ok (.aload_n 0, 1) := by decide +kernel
theorem qm_Cd_calculated_48 : decode qm_Cd_calculated_c 48 = .ok (.iload_n 3, 1) := by decide +kernel
theorem qm_Cd_calculated_49 : decode qm_Cd_calculated_c 49 = .ok (.iload_n 2, 1) := by decide +kernel
theorem qm_Cd_calculated_50 : decode qm_Cd_calculated_c 50 = .ok (.invokevirtual 204, 3) := by decide +kernel
theorem qm_Cd_calculated_53 : decode qm_Cd_calculated_c 53 = .ok (.ireturn, 1) := by decide +kernel
theorem qm_Cd_calculated_54 : decode qm_Cd_calculated_c 54 = .ok (.aload_n 0, 1) := by decide +kernel
theorem qm_Cd_calculated_55 : decode qm_Cd_calculated_c 55 = .ok (.iload_n 3, 1) := by decide +kernel
theorem qm_Cd_calculated_56 : decode qm_Cd_calculated_c 56 = .ok (.iload_n 2, 1) := by decide +kernel
theorem qm_Cd_calculated_57 : decode qm_Cd_calculated_c 57 = .ok (.invokevirtual 211, 3) := by decide +kernel
theorem qm_Cd_calculated_60 : decode qm_Cd_calculated_c 60 = .ok (.ireturn, 1) := by decide +kernel
theorem qm_Cd_calculated_61 : decode qm_Cd_calculated_c 61 = .ok (.aload_n 0, 1) := by decide +kernel
theorem qm_Cd_calculated_62 : decode qm_Cd_calculated_c 62 = .ok (.iload_n 3, 1) := by decide +kernel
theorem qm_Cd_calculated_63 : decode qm_Cd_calculated_c 63 = .ok (.iload_n 2, 1) := by decide +kernel
theorem qm_Cd_calculated_64 : decode qm_Cd_calculated_c 64 = .ok (.invokevirtual 214, 3) := by decide +kernel
theorem qm_Cd_calculated_67 : decode qm_Cd_calculated_c 67 = .ok (.ireturn, 1) := by decide +kernel
theorem qm_Cd_calculated_68 : decode qm_Cd_calculated_c 68 = .ok (.aload_n 0, 1) := by decide +kernel
theorem qm_Cd_calculated_69 : decode qm_Cd_calculated_c 69 = .ok (.iload_n 3, 1) := by decide +kernel
theorem qm_Cd_calculated_70 : decode qm_Cd_calculated_c 70 = .ok (.iload_n 2, 1) := by decide +kernel
theorem qm_Cd_calculated_71 : decode qm_Cd_calculated_c 71 = .ok (.ior, 1) := by decide +kernel
theorem qm_Cd_calculated_72 : decode qm_Cd_calculated_c 72 = .ok (.invokevirtual 217, 3) := by decide +kernel
theorem qm_Cd_calculated_75 : decode qm_Cd_calculated_c 75 = .ok (.ireturn, 1) := by decide +kernel
theorem qm_Cd_calculated_76 : decode qm_Cd_calculated_c 76 = .ok (.aload_n 0, 1) := by decide +kernel
theorem qm_Cd_calculated_77 : decode qm_Cd_calculated_c 77 = .ok (.iload_n 3, 1) := by decide +kernel
theorem qm_Cd_calculated_78 : decode qm_Cd_calculated_c 78 = .ok (.iload_n 2, 1) := by decide +kernel
theorem qm_Cd_calculated_79 : decode qm_Cd_calculated_c 79 = .ok (.iconst (-1), 1) := by decide +kernel
theorem qm_Cd_calculated_80 : decode qm_Cd_calculated_c 80 = .ok (.ixor, 1) := by decide +kernel
theorem qm_Cd_calculated_81 : decode qm_Cd_calculated_c 81 = .ok (.iand, 1) := by decide +kernel
theorem qm_Cd_calculated_82 : decode qm_Cd_calculated_c 82 = .ok (.invokevirtual 217, 3) := by decide +kernel
theorem qm_Cd_calculated_85 : decode qm_Cd_calculated_c 85 = .ok (.ireturn, 1) := by decide +kernel
theorem qm_Cd_calculated_86 : decode qm_Cd_calculated_c 86 = .ok (.aload_n 0, 1) := by decide +kernel
theorem qm_Cd_calculated_87 : decode qm_Cd_calculated_c 87 = .ok (.iload_n 3, 1) := by decide +kernel
theorem qm_Cd_calculated_88 : decode qm_Cd_calculated_c 88 = .ok (.iload_n 2, 1) := by decide +kernel
theorem qm_Cd_calculated_89 : decode qm_Cd_calculated_c 89 = .ok (.ixor, 1) := by decide +kernel
theorem qm_Cd_calculated_90 : decode qm_Cd_calculated_c 90 = .ok (.invokevirtual 217, 3) := by decide +kernel
theorem qm_Cd_calculated_93 : decode qm_Cd_calculated_c 93 = .ok (.ireturn, 1) := by decide +kernel
theorem qm_Cd_calculate_0 : decode qm_Cd_calculate_c 0 = .ok (.iload_n 1, 1) := by decide +kernel
theorem qm_Cd_calculate_1 : decode qm_Cd_calculate_c 1 = .ok (.bipush 27, 2) := by decide +kernel
theorem qm_Cd_calculate_3 : decode qm_Cd_calculate_c 3 = .ok (.if_icmp .ge 49, 3) := by decide +kernel
theorem qm_Cd_calculate_6 : decode qm_Cd_calculate_c 6 = .ok (.iload_n 1, 1) := by decide +kernel
theorem qm_Cd_calculate_7 : decode qm_Cd_calculate_c 7 = .ok (.bipush 25, 2) := by decide +kernel
theorem qm_Cd_calculate_9 : decode qm_Cd_calculate_c 9 = .ok (.if_icmp .ne 18, 3) := by decide +kernel
theorem qm_Cd_calculate_12 : decode qm_Cd_calculate_c 12 = .ok (.aload_n 0, 1) := by decide +kernel
theorem qm_Cd_calculate_13 : decode qm_Cd_calculate_c 13 = .ok (.aload_n 0, 1) := by decide +kernel
theorem qm_Cd_calculate_14 : decode qm_Cd_calculate_c 14 = .ok (.getfield 15, 3) := by decide +kernel
theorem qm_Cd_calculate_17 : decode qm_Cd_calculate_c 17 = .ok (.getfield 96, 3) := by decide +kernel
theorem qm_Cd_calculate_20 : decode qm_Cd_calculate_c 20 = .ok (.iconst 1, 1) := by decide +kernel
theorem qm_Cd_calculate_21 : decode qm_Cd_calculate_c 21 = .ok (.invokevirtual 201, 3) := by decide +kernel
theorem qm_Cd_calculate_24 : decode qm_Cd_calculate_c 24 = .ok (.goto 15, 3) := by decide +kernel
theorem qm_Cd_calculate_27 : decode qm_Cd_calculate_c 27 = .ok (.aload_n 0, 1) := by decide +kernel
theorem qm_Cd_calculate_28 : decode qm_Cd_calculate_c 28 = .ok (.aload_n 0, 1) := by decide +kernel
theorem qm_Cd_calculate_29 : decode qm_Cd_calculate_c 29 = .ok (.getfield 15, 3) := by decide +kernel
theorem qm_Cd_calculate_32 : decode qm_Cd_calculate_c 32 = .ok (.getfield 96, 3) := by decide +kernel
theorem qm_Cd_calculate_35 : decode qm_Cd_calculate_c 35 = .ok (.iconst 1, 1) := by decide +kernel
theorem qm_Cd_calculate_36 : decode qm_Cd_calculate_c 36 = .ok (.invokevirtual 204, 3) := by decide +kernel
theorem qm_Cd_calculate_39 : decode qm_Cd_calculate_c 39 = .ok (.istore_n 2, 1) := by decide +kernel
theorem qm_Cd_calculate_40 : decode qm_Cd_calculate_c 40 = .ok (.aload_n 0, 1) := by decide +kernel
theorem qm_Cd_calculate_41 : decode qm_Cd_calculate_c 41 = .ok (.aload_n 0, 1) := by decide +kernel
theorem qm_Cd_calculate_42 : decode qm_Cd_calculate_c 42 = .ok (.getfield 15, 3) := by decide +kernel
theorem qm_Cd_calculate_45 : decode qm_Cd_calculate_c 45 = .ok (.iload_n 2, 1) := by decide +kernel
theorem qm_Cd_calculate_46 : decode qm_Cd_calculate_c 46 = .ok (.invokevirtual 111, 3) := by decide +kernel
theorem qm_Cd_calculate_49 : decode qm_Cd_calculate_c 49 = .ok (.goto 69, 3) := by decide +kernel
theorem qm_Cd_calculate_52 : decode qm_Cd_calculate_c 52 = .ok (.iload_n 1, 1) := by decide +kernel
theorem qm_Cd_calculate_53 : decode qm_Cd_calculate_c 53 = .ok (.bipush 34, 2) := by decide +kernel
theorem qm_Cd_calculate_55 : decode qm_Cd_calculate_c 55 = .ok (.if_icmp .ge 33, 3) := by decide +kernel
theorem qm_Cd_calculate_58 : decode qm_Cd_calculate_c 58 = .ok (.aload_n 0, 1) := by decide +kernel
theorem qm_Cd_calculate_59 : decode qm_Cd_calculate_c 59 = .ok (.aload_n 0, 1) := by decide +kernel
theorem qm_Cd_calculate_60 : decode qm_Cd_calculate_c 60 = .ok (.getfield 19, 3) := by decide +kernel
theorem qm_Cd_calculate_63 : decode qm_Cd_calculate_c 63 = .ok (.aload_n 0, 1) := by decide +kernel
theorem qm_Cd_calculate_64 : decode qm_Cd_calculate_c 64 = .ok (.iload_n 1, 1) := by decide +kernel
theorem qm_Cd_calculate_65 : decode qm_Cd_calculate_c 65 = .ok (.aload_n 0, 1) := by decide +kernel
theorem qm_Cd_calculate_66 : decode qm_Cd_calculate_c 66 = .ok (.getfield 15, 3) := by decide +kernel
theorem qm_Cd_calculate_69 : decode qm_Cd_calculate_c 69 = .ok (.getfield 96, 3) := by decide +kernel
theorem qm_Cd_calculate_72 : decode qm_Cd_calculate_c 72 = .ok (.aload_n 0, 1) := by decide +kernel
theorem qm_Cd_calculate_73 : decode qm_Cd_calculate_c 73 = .ok (.getfield 19, 3) := by decide +kernel
theorem qm_Cd_calculate_76 : decode qm_Cd_calculate_c 76 = .ok (.getfield 96, 3) := by decide +kernel
theorem qm_Cd_calculate_79 : decode qm_Cd_calculate_c 79 = .ok (.invokevirtual 207, 3) := by decide +kernel
theorem qm_Cd_calculate_82 : decode qm_Cd_calculate_c 82 = .ok (.invokevirtual 111, 3) := by decide +kernel
theorem qm_Cd_calculate_85 : decode qm_Cd_calculate_c 85 = .ok (.goto 33, 3) := by decide +kernel
theorem qm_Cd_calculate_88 : decode qm_Cd_calculate_c 88 = .ok (.aload_n 0, 1) := by decide +kernel
theorem qm_Cd_calculate_89 : decode qm_Cd_calculate_c 89 = .ok (.aload_n 0, 1) := by decide +kernel
theorem qm_Cd_calculate_90 : decode qm_Cd_calculate_c 90 = .ok (.getfield 22, 3) := by decide +kernel
theorem qm_Cd_calculate_93 : decode qm_Cd_calculate_c 93 = .ok (.aload_n 0, 1) := by decide +kernel
theorem qm_Cd_calculate_94 : decode qm_Cd_calculate_c 94 = .ok (.iload_n 1, 1) := by decide +kernel
theorem qm_Cd_calculate_95 : decode qm_Cd_calculate_c 95 = .ok (.bipush 7, 2) := by decide +kernel
theorem qm_Cd_calculate_97 : decode qm_Cd_calculate_c 97 = .ok (.isub, 1) := by decide +kernel
theorem qm_Cd_calculate_98 : decode qm_Cd_calculate_c 98 = .ok (.aload_n 0, 1) := by decide +kernel
theorem qm_Cd_calculate_99 : decode qm_Cd_calculate_c 99 = .ok (.getfield 15, 3) := by decide +kernel
theorem qm_Cd_calculate_102 : decode qm_Cd_calculate_c 102 = .ok (.getfield 96, 3) := by decide +kernel
theorem qm_Cd_calculate_105 : decode qm_Cd_calculate_c 105 = .ok (.aload_n 0, 1) := by decide +kernel
theorem qm_Cd_calculate_106 : decode qm_Cd_calculate_c 106 = .ok (.getfield 19, 3) := by decide +kernel
theorem qm_Cd_calculate_109 : decode qm_Cd_calculate_c 109 = .ok (.getfield 96, 3) := by decide +kernel
theorem qm_Cd_calculate_112 : decode qm_Cd_calculate_c 112 = .ok (.invokevirtual 207, 3) := by decide +kernel
theorem qm_Cd_calculate_115 : decode qm_Cd_calculate_c 115 = .ok (.invokevirtual 111, 3) := by decide +kernel
theorem qm_Cd_calculate_118 : decode qm_Cd_calculate_c 118 = .ok (.return_, 1) := by decide +kernel
theorem qm_Cd_handAddress_0 : decode qm_Cd_handAddress_c 0 = .ok (.iload_n 1, 1) := by decide +kernel
theorem qm_Cd_handAddress_1 : decode qm_Cd_handAddress_c 1 = .ok (.bipush 44, 2) := by decide +kernel
theorem qm_Cd_handAddress_3 : decode qm_Cd_handAddress_c 3 = .ok (.if_icmp .ne 13, 3) := by decide +kernel
theorem qm_Cd_handAddress_6 : decode qm_Cd_handAddress_c 6 = .ok (.aload_n 0, 1) := by decide +kernel
theorem qm_Cd_handAddress_7 : decode qm_Cd_handAddress_c 7 = .ok (.getfield 15, 3) := by decide +kernel
theorem qm_Cd_handAddress_10 : decode qm_Cd_handAddress_c 10 = .ok (.getfield 96, 3) := by decide +kernel
theorem qm_Cd_handAddress_13 : decode qm_Cd_handAddress_c 13 = .ok (.goto 10, 3) := by decide +kernel
theorem qm_Cd_handAddress_16 : decode qm_Cd_handAddress_c 16 = .ok (.aload_n 0, 1) := by decide +kernel
theorem qm_Cd_handAddress_17 : decode qm_Cd_handAddress_c 17 = .ok (.getfield 15, 3) := by decide +kernel
theorem qm_Cd_handAddress_20 : decode qm_Cd_handAddress_c 20 = .ok (.getfield 159, 3) := by decide +kernel
theorem qm_Cd_handAddress_23 : decode qm_Cd_handAddress_c 23 = .ok (.istore_n 2, 1) := by decide +kernel
theorem qm_Cd_handAddress_24 : decode qm_Cd_handAddress_c 24 = .ok (.aload_n 0, 1) := by decide +kernel
theorem qm_Cd_handAddress_25 : decode qm_Cd_handAddress_c 25 = .ok (.getfield 9, 3) := by decide +kernel
theorem qm_Cd_handAddress_28 : decode qm_Cd_handAddress_c 28 = .ok (.iload_n 2, 1) := by decide +kernel
theorem qm_Cd_handAddress_29 : decode qm_Cd_handAddress_c 29 = .ok (.iconst 0, 1) := by decide +kernel
theorem qm_Cd_handAddress_30 : decode qm_Cd_handAddress_c 30 = .ok (.aload_n 0, 1) := by decide +kernel
theorem qm_Cd_handAddress_31 : decode qm_Cd_handAddress_c 31 = .ok (.getfield 9, 3) := by decide +kernel
theorem qm_Cd_handAddress_34 : decode qm_Cd_handAddress_c 34 = .ok (.iconst 1, 1) := by decide +kernel
theorem qm_Cd_handAddress_35 : decode qm_Cd_handAddress_c 35 = .ok (.invokevirtual 152, 3) := by decide +kernel
theorem qm_Cd_handAddress_38 : decode qm_Cd_handAddress_c 38 = .ok (.invokevirtual 183, 3) := by decide +kernel
theorem qm_Cd_handAddress_41 : decode qm_Cd_handAddress_c 41 = .ok (.iload_n 1, 1) := by decide +kernel
theorem qm_Cd_handAddress_42 : decode qm_Cd_handAddress_c 42 = .ok (.bipush 44, 2) := by decide +kernel
theorem qm_Cd_handAddress_44 : decode qm_Cd_handAddress_c 44 = .ok (.if_icmp .ge 15, 3) := by decide +kernel
theorem qm_Cd_handAddress_47 : decode qm_Cd_handAddress_c 47 = .ok (.aload_n 0, 1) := by decide +kernel
theorem qm_Cd_handAddress_48 : decode qm_Cd_handAddress_c 48 = .ok (.aload_n 0, 1) := by decide +kernel
theorem qm_Cd_handAddress_49 : decode qm_Cd_handAddress_c 49 = .ok (.getfield 19, 3) := by decide +kernel
theorem qm_Cd_handAddress_52 : decode qm_Cd_handAddress_c 52 = .ok (.iload_n 2, 1) := by decide +kernel
theorem qm_Cd_handAddress_53 : decode qm_Cd_handAddress_c 53 = .ok (.invokevirtual 111, 3) := by decide +kernel
theorem qm_Cd_handAddress_56 : decode qm_Cd_handAddress_c 56 = .ok (.goto 11, 3) := by decide +kernel
theorem qm_Cd_handAddress_59 : decode qm_Cd_handAddress_c 59 = .ok (.aload_n 0, 1) := by decide +kernel
theorem qm_Cd_handAddress_60 : decode qm_Cd_handAddress_c 60 = .ok (.getfield 9, 3) := by decide +kernel
theorem qm_Cd_handAddress_63 : decode qm_Cd_handAddress_c 63 = .ok (.iload_n 2, 1) := by decide +kernel
theorem qm_Cd_handAddress_64 : decode qm_Cd_handAddress_c 64 = .ok (.invokevirtual 227, 3) := by decide +kernel
theorem qm_Cd_handAddress_67 : decode qm_Cd_handAddress_c 67 = .ok (.return_, 1) := by decide +kernel
theorem qm_Cd_go_0 : decode qm_Cd_go_c 0 = .ok (.aload_n 0, 1) := by decide +kernel
theorem qm_Cd_go_1 : decode qm_Cd_go_c 1 = .ok (.getfield 9, 3) := by decide +kernel
theorem qm_Cd_go_4 : decode qm_Cd_go_c 4 = .ok (.bipush 15, 2) := by decide +kernel
theorem qm_Cd_go_6 : decode qm_Cd_go_c 6 = .ok (.invokevirtual 169, 3) := by decide +kernel
theorem qm_Cd_go_9 : decode qm_Cd_go_c 9 = .ok (.istore_n 2, 1) := by decide +kernel
theorem qm_Cd_go_10 : decode qm_Cd_go_c 10 = .ok (.iload_n 1, 1) := by decide +kernel
theorem qm_Cd_go_11 : decode qm_Cd_go_c 11 = .ok (.bipush 47, 2) := by decide +kernel
theorem qm_Cd_go_13 : decode qm_Cd_go_c 13 = .ok (.if_icmp .eq 9, 3) := by decide +kernel
theorem qm_Cd_go_16 : decode qm_Cd_go_c 16 = .ok (.iload_n 1, 1) := by decide +kernel
theorem qm_Cd_go_17 : decode qm_Cd_go_c 17 = .ok (.bipush 49, 2) := by decide +kernel
theorem qm_Cd_go_19 : decode qm_Cd_go_c 19 = .ok (.if_icmp .ne 11, 3) := by decide +kernel
theorem qm_Cd_go_22 : decode qm_Cd_go_c 22 = .ok (.aload_n 0, 1) := by decide +kernel
theorem qm_Cd_go_23 : decode qm_Cd_go_c 23 = .ok (.getfield 9, 3) := by decide +kernel
theorem qm_Cd_go_26 : decode qm_Cd_go_c 26 = .ok (.iload_n 2, 1) := by decide +kernel
theorem qm_Cd_go_27 : decode qm_Cd_go_c 27 = .ok (.invokevirtual 227, 3) := by decide +kernel
theorem qm_Cd_go_30 : decode qm_Cd_go_c 30 = .ok (.aload_n 0, 1) := by decide +kernel
theorem qm_Cd_go_31 : decode qm_Cd_go_c 31 = .ok (.getfield 9, 3) := by decide +kernel
theorem qm_Cd_go_34 : decode qm_Cd_go_c 34 = .ok (.bipush 15, 2) := by decide +kernel
theorem qm_Cd_go_36 : decode qm_Cd_go_c 36 = .ok (.iload_n 1, 1) := by decide +kernel
theorem qm_Cd_go_37 : decode qm_Cd_go_c 37 = .ok (.bipush 48, 2) := by decide +kernel
theorem qm_Cd_go_39 : decode qm_Cd_go_c 39 = .ok (.if_icmp .ge 13, 3) := by decide +kernel
theorem qm_Cd_go_42 : decode qm_Cd_go_c 42 = .ok (.aload_n 0, 1) := by decide +kernel
theorem qm_Cd_go_43 : decode qm_Cd_go_c 43 = .ok (.getfield 15, 3) := by decide +kernel
theorem qm_Cd_go_46 : decode qm_Cd_go_c 46 = .ok (.getfield 159, 3) := by decide +kernel
theorem qm_Cd_go_49 : decode qm_Cd_go_c 49 = .ok (.goto 12, 3) := by decide +kernel
theorem qm_Cd_go_52 : decode qm_Cd_go_c 52 = .ok (.iload_n 2, 1) := by decide +kernel
theorem qm_Cd_go_53 : decode qm_Cd_go_c 53 = .ok (.aload_n 0, 1) := by decide +kernel
theorem qm_Cd_go_54 : decode qm_Cd_go_c 54 = .ok (.getfield 15, 3) := by decide +kernel
theorem qm_Cd_go_57 : decode qm_Cd_go_c 57 = .ok (.getfield 96, 3) := by decide +kernel
theorem qm_Cd_go_60 : decode qm_Cd_go_c 60 = .ok (.iadd, 1) := by decide +kernel
theorem qm_Cd_go_61 : decode qm_Cd_go_c 61 = .ok (.invokevirtual 92, 3) := by decide +kernel
theorem qm_Cd_go_64 : decode qm_Cd_go_c 64 = .ok (.return_, 1) := by decide +kernel
theorem qm_Cd_holds_0 : decode qm_Cd_holds_c 0 = .ok (.iload_n 1, 1) := by decide +kernel
theorem qm_Cd_holds_1 : decode qm_Cd_holds_c 1 = .ok (.tableswitch 197 50 59 #[55, 55, 83, 83, 112, 112, 141, 141, 169, 169], 55) := by decide +kernel
theorem qm_Cd_holds_56 : decode qm_Cd_holds_c 56 = .ok (.aload_n 0, 1) := by decide +kernel
theorem qm_Cd_holds_57 : decode qm_Cd_holds_c 57 = .ok (.getfield 9, 3) := by decide +kernel
theorem qm_Cd_holds_60 : decode qm_Cd_holds_c 60 = .ok (.iconst 4, 1) := by decide +kernel
theorem qm_Cd_holds_61 : decode qm_Cd_holds_c 61 = .ok (.invokevirtual 152, 3) := by decide +kernel
theorem qm_Cd_holds_64 : decode qm_Cd_holds_c 64 = .ok (.iload_n 1, 1) := by decide +kernel
theorem qm_Cd_holds_65 : decode qm_Cd_holds_c 65 = .ok (.bipush 51, 2) := by decide +kernel
theorem qm_Cd_holds_67 : decode qm_Cd_holds_c 67 = .ok (.if_icmp .ne 7, 3) := by decide +kernel
theorem qm_Cd_holds_70 : decode qm_Cd_holds_c 70 = .ok (.iconst 1, 1) := by decide +kernel
theorem qm_Cd_holds_71 : decode qm_Cd_holds_c 71 = .ok (.goto 4, 3) := by decide +kernel
theorem qm_Cd_holds_74 : decode qm_Cd_holds_c 74 = .ok (.iconst 0, 1) := by decide +kernel
theorem qm_Cd_holds_75 : decode qm_Cd_holds_c 75 = .ok (.if_icmp .ne 7, 3) := by decide +kernel
theorem qm_Cd_holds_78 : decode qm_Cd_holds_c 78 = .ok (.iconst 1, 1) := by decide +kernel
theorem qm_Cd_holds_79 : decode qm_Cd_holds_c 79 = .ok (.goto 4, 3) := by decide +kernel
theorem qm_Cd_holds_82 : decode qm_Cd_holds_c 82 = .ok (.iconst 0, 1) := by decide +kernel
theorem qm_Cd_holds_83 : decode qm_Cd_holds_c 83 = .ok (.ireturn, 1) := by decide +kernel
theorem qm_Cd_holds_84 : decode qm_Cd_holds_c 84 = .ok (.aload_n 0, 1) := by decide +kernel
theorem qm_Cd_holds_85 : decode qm_Cd_holds_c 85 = .ok (.getfield 9, 3) := by decide +kernel
theorem qm_Cd_holds_88 : decode qm_Cd_holds_c 88 = .ok (.bipush 12, 2) := by decide +kernel
theorem qm_Cd_holds_90 : decode qm_Cd_holds_c 90 = .ok (.invokevirtual 152, 3) := by decide +kernel
theorem qm_Cd_holds_93 : decode qm_Cd_holds_c 93 = .ok (.iload_n 1, 1) := by decide +kernel
theorem qm_Cd_holds_94 : decode qm_Cd_holds_c 94 = .ok (.bipush 53, 2) := by decide +kernel
theorem qm_Cd_holds_96 : decode qm_Cd_holds_c 96 = .ok (.if_icmp .ne 7, 3) := by decide +kernel
theorem qm_Cd_holds_99 : decode qm_Cd_holds_c 99 = .ok (.iconst 1, 1) := by decide +kernel
theorem qm_Cd_holds_100 : decode qm_Cd_holds_c 100 = .ok (.goto 4, 3) := by decide +kernel
theorem qm_Cd_holds_103 : decode qm_Cd_holds_c 103 = .ok (.iconst 0, 1) := by decide +kernel
theorem qm_Cd_holds_104 : decode qm_Cd_holds_c 104 = .ok (.if_icmp .ne 7, 3) := by decide +kernel
theorem qm_Cd_holds_107 : decode qm_Cd_holds_c 107 = .ok (.iconst 1, 1) := by decide +kernel
theorem qm_Cd_holds_108 : decode qm_Cd_holds_c 108 = .ok (.goto 4, 3) := by decide +kernel
theorem qm_Cd_holds_111 : decode qm_Cd_holds_c 111 = .ok (.iconst 0, 1) := by decide +kernel
theorem qm_Cd_holds_112 : decode qm_Cd_holds_c 112 = .ok (.ireturn, 1) := by decide +kernel
theorem qm_Cd_holds_113 : decode qm_Cd_holds_c 113 = .ok (.aload_n 0, 1) := by decide +kernel
theorem qm_Cd_holds_114 : decode qm_Cd_holds_c 114 = .ok (.getfield 9, 3) := by decide +kernel
theorem qm_Cd_holds_117 : decode qm_Cd_holds_c 117 = .ok (.bipush 8, 2) := by decide +kernel
theorem qm_Cd_holds_119 : decode qm_Cd_holds_c 119 = .ok (.invokevirtual 152, 3) := by decide +kernel
theorem qm_Cd_holds_122 : decode qm_Cd_holds_c 122 = .ok (.iload_n 1, 1) := by decide +kernel
theorem qm_Cd_holds_123 : decode qm_Cd_holds_c 123 = .ok (.bipush 55, 2) := by decide +kernel
theorem qm_Cd_holds_125 : decode qm_Cd_holds_c 125 = .ok (.if_icmp .ne 7, 3) := by decide +kernel
theorem qm_Cd_holds_128 : decode qm_Cd_holds_c 128 = .ok (.iconst 1, 1) := by decide +kernel
theorem qm_Cd_holds_129 : decode qm_Cd_holds_c 129 = .ok (.goto 4, 3) := by decide +kernel
theorem qm_Cd_holds_132 : decode qm_Cd_holds_c 132 = .ok (.iconst 0, 1) := by decide +kernel
theorem qm_Cd_holds_133 : decode qm_Cd_holds_c 133 = .ok (.if_icmp .ne 7, 3) := by decide +kernel
theorem qm_Cd_holds_136 : decode qm_Cd_holds_c 136 = .ok (.iconst 1, 1) := by decide +kernel
theorem qm_Cd_holds_137 : decode qm_Cd_holds_c 137 = .ok (.goto 4, 3) := by decide +kernel
theorem qm_Cd_holds_140 : decode qm_Cd_holds_c 140 = .ok (.iconst 0, 1) := by decide +kernel
theorem qm_Cd_holds_141 : decode qm_Cd_holds_c 141 = .ok (.ireturn, 1) := by decide +kernel
theorem qm_Cd_holds_142 : decode qm_Cd_holds_c 142 = .ok (.aload_n 0, 1) := by decide +kernel
theorem qm_Cd_holds_143 : decode qm_Cd_holds_c 143 = .ok (.getfield 9, 3) := by decide +kernel
theorem qm_Cd_holds_146 : decode qm_Cd_holds_c 146 = .ok (.iconst 5, 1) := by decide +kernel
theorem qm_Cd_holds_147 : decode qm_Cd_holds_c 147 = .ok (.invokevirtual 152, 3) := by decide +kernel
theorem qm_Cd_holds_150 : decode qm_Cd_holds_c 150 = .ok (.iload_n 1, 1) := by decide +kernel
theorem qm_Cd_holds_151 : decode qm_Cd_holds_c 151 = .ok (.bipush 57, 2) := by decide +kernel
theorem qm_Cd_holds_153 : decode qm_Cd_holds_c 153 = .ok (.if_icmp .ne 7, 3) := by decide +kernel
theorem qm_Cd_holds_156 : decode qm_Cd_holds_c 156 = .ok (.iconst 1, 1) := by decide +kernel
theorem qm_Cd_holds_157 : decode qm_Cd_holds_c 157 = .ok (.goto 4, 3) := by decide +kernel
theorem qm_Cd_holds_160 : decode qm_Cd_holds_c 160 = .ok (.iconst 0, 1) := by decide +kernel
theorem qm_Cd_holds_161 : decode qm_Cd_holds_c 161 = .ok (.if_icmp .ne 7, 3) := by decide +kernel
theorem qm_Cd_holds_164 : decode qm_Cd_holds_c 164 = .ok (.iconst 1, 1) := by decide +kernel
theorem qm_Cd_holds_165 : decode qm_Cd_holds_c 165 = .ok (.goto 4, 3) := by decide +kernel
theorem qm_Cd_holds_168 : decode qm_Cd_holds_c 168 = .ok (.iconst 0, 1) := by decide +kernel
theorem qm_Cd_holds_169 : decode qm_Cd_holds_c 169 = .ok (.ireturn, 1) := by decide +kernel
theorem qm_Cd_holds_170 : decode qm_Cd_holds_c 170 = .ok (.aload_n 0, 1) := by decide +kernel
theorem qm_Cd_holds_171 : decode qm_Cd_holds_c 171 = .ok (.getfield 9, 3) := by decide +kernel
theorem qm_Cd_holds_174 : decode qm_Cd_holds_c 174 = .ok (.iconst 2, 1) := by decide +kernel
theorem qm_Cd_holds_175 : decode qm_Cd_holds_c 175 = .ok (.invokevirtual 152, 3) := by decide +kernel
theorem qm_Cd_holds_178 : decode qm_Cd_holds_c 178 = .ok (.iload_n 1, 1) := by decide +kernel
theorem qm_Cd_holds_179 : decode qm_Cd_holds_c 179 = .ok (.bipush 59, 2) := by decide +kernel
theorem qm_Cd_holds_181 : decode qm_Cd_holds_c 181 = .ok (.if_icmp .ne 7, 3) := by decide +kernel
theorem qm_Cd_holds_184 : decode qm_Cd_holds_c 184 = .ok (.iconst 1, 1) := by decide +kernel
theorem qm_Cd_holds_185 : decode qm_Cd_holds_c 185 = .ok (.goto 4, 3) := by decide +kernel
theorem qm_Cd_holds_188 : decode qm_Cd_holds_c 188 = .ok (.iconst 0, 1) := by decide +kernel
theorem qm_Cd_holds_189 : decode qm_Cd_holds_c 189 = .ok (.if_icmp .ne 7, 3) := by decide +kernel
theorem qm_Cd_holds_192 : decode qm_Cd_holds_c 192 = .ok (.iconst 1, 1) := by decide +kernel
theorem qm_Cd_holds_193 : decode qm_Cd_holds_c 193 = .ok (.goto 4, 3) := by decide +kernel
theorem qm_Cd_holds_196 : decode qm_Cd_holds_c 196 = .ok (.iconst 0, 1) := by decide +kernel
theorem qm_Cd_holds_197 : decode qm_Cd_holds_c 197 = .ok (.ireturn, 1) := by decide +kernel
theorem qm_Cd_holds_198 : decode qm_Cd_holds_c 198 = .ok (.aload_n 0, 1) := by decide +kernel
theorem qm_Cd_holds_199 : decode qm_Cd_holds_c 199 = .ok (.getfield 9, 3) := by decide +kernel
theorem qm_Cd_holds_202 : decode qm_Cd_holds_c 202 = .ok (.iconst 1, 1) := by decide +kernel
theorem qm_Cd_holds_203 : decode qm_Cd_holds_c 203 = .ok (.invokevirtual 152, 3) := by decide +kernel
theorem qm_Cd_holds_206 : decode qm_Cd_holds_c 206 = .ok (.iload_n 1, 1) := by decide +kernel
theorem qm_Cd_holds_207 : decode qm_Cd_holds_c 207 = .ok (.bipush 61, 2) := by decide +kernel
theorem qm_Cd_holds_209 : decode qm_Cd_holds_c 209 = .ok (.if_icmp .ne 7, 3) := by decide +kernel
theorem qm_Cd_holds_212 : decode qm_Cd_holds_c 212 = .ok (.iconst 1, 1) := by decide +kernel
theorem qm_Cd_holds_213 : decode qm_Cd_holds_c 213 = .ok (.goto 4, 3) := by decide +kernel
theorem qm_Cd_holds_216 : decode qm_Cd_holds_c 216 = .ok (.iconst 0, 1) := by decide +kernel
theorem qm_Cd_holds_217 : decode qm_Cd_holds_c 217 = .ok (.if_icmp .ne 7, 3) := by decide +kernel
theorem qm_Cd_holds_220 : decode qm_Cd_holds_c 220 = .ok (.iconst 1, 1) := by decide +kernel
theorem qm_Cd_holds_221 : decode qm_Cd_holds_c 221 = .ok (.goto 4, 3) := by decide +kernel
theorem qm_Cd_holds_224 : decode qm_Cd_holds_c 224 = .ok (.iconst 0, 1) := by decide +kernel
theorem qm_Cd_holds_225 : decode qm_Cd_holds_c 225 = .ok (.ireturn, 1) := by decide +kernel
theorem qm_Cd_branch_0 : decode qm_Cd_branch_c 0 = .ok (.iload_n 1, 1) := by decide +kernel
theorem qm_Cd_branch_1 : decode qm_Cd_branch_c 1 = .ok (.bipush 61, 2) := by decide +kernel
theorem qm_Cd_branch_3 : decode qm_Cd_branch_c 3 = .ok (.if_icmp .le 7, 3) := by decide +kernel
theorem qm_Cd_branch_6 : decode qm_Cd_branch_c 6 = .ok (.iconst 1, 1) := by decide +kernel
theorem qm_Cd_branch_7 : decode qm_Cd_branch_c 7 = .ok (.goto 4, 3) := by decide +kernel
theorem qm_Cd_branch_10 : decode qm_Cd_branch_c 10 = .ok (.iconst 0, 1) := by decide +kernel
theorem qm_Cd_branch_11 : decode qm_Cd_branch_c 11 = .ok (.istore_n 2, 1) := by decide +kernel
theorem qm_Cd_branch_12 : decode qm_Cd_branch_c 12 = .ok (.iload_n 2, 1) := by decide +kernel
theorem qm_Cd_branch_13 : decode qm_Cd_branch_c 13 = .ok (.ifCond .eq 34, 3) := by decide +kernel
theorem qm_Cd_branch_16 : decode qm_Cd_branch_c 16 = .ok (.aload_n 0, 1) := by decide +kernel
theorem qm_Cd_branch_17 : decode qm_Cd_branch_c 17 = .ok (.getfield 15, 3) := by decide +kernel
theorem qm_Cd_branch_20 : decode qm_Cd_branch_c 20 = .ok (.getfield 96, 3) := by decide +kernel
theorem qm_Cd_branch_23 : decode qm_Cd_branch_c 23 = .ok (.iconst 1, 1) := by decide +kernel
theorem qm_Cd_branch_24 : decode qm_Cd_branch_c 24 = .ok (.iand, 1) := by decide +kernel
theorem qm_Cd_branch_25 : decode qm_Cd_branch_c 25 = .ok (.iload_n 1, 1) := by decide +kernel
theorem qm_Cd_branch_26 : decode qm_Cd_branch_c 26 = .ok (.bipush 62, 2) := by decide +kernel
theorem qm_Cd_branch_28 : decode qm_Cd_branch_c 28 = .ok (.if_icmp .ne 7, 3) := by decide +kernel
theorem qm_Cd_branch_31 : decode qm_Cd_branch_c 31 = .ok (.iconst 1, 1) := by decide +kernel
theorem qm_Cd_branch_32 : decode qm_Cd_branch_c 32 = .ok (.goto 4, 3) := by decide +kernel
theorem qm_Cd_branch_35 : decode qm_Cd_branch_c 35 = .ok (.iconst 0, 1) := by decide +kernel
theorem qm_Cd_branch_36 : decode qm_Cd_branch_c 36 = .ok (.if_icmp .ne 7, 3) := by decide +kernel
theorem qm_Cd_branch_39 : decode qm_Cd_branch_c 39 = .ok (.iconst 1, 1) := by decide +kernel
theorem qm_Cd_branch_40 : decode qm_Cd_branch_c 40 = .ok (.goto 12, 3) := by decide +kernel
theorem qm_Cd_branch_43 : decode qm_Cd_branch_c 43 = .ok (.iconst 0, 1) := by decide +kernel
theorem qm_Cd_branch_44 : decode qm_Cd_branch_c 44 = .ok (.goto 8, 3) := by decide +kernel
theorem qm_Cd_branch_47 : decode qm_Cd_branch_c 47 = .ok (.aload_n 0, 1) := by decide +kernel
theorem qm_Cd_branch_48 : decode qm_Cd_branch_c 48 = .ok (.iload_n 1, 1) := by decide +kernel
theorem qm_Cd_branch_49 : decode qm_Cd_branch_c 49 = .ok (.invokevirtual 230, 3) := by decide +kernel
theorem qm_Cd_branch_52 : decode qm_Cd_branch_c 52 = .ok (.istore_n 3, 1) := by decide +kernel
theorem qm_Cd_branch_53 : decode qm_Cd_branch_c 53 = .ok (.iload_n 3, 1) := by decide +kernel
theorem qm_Cd_branch_54 : decode qm_Cd_branch_c 54 = .ok (.ifCond .eq 43, 3) := by decide +kernel
theorem qm_Cd_branch_57 : decode qm_Cd_branch_c 57 = .ok (.aload_n 0, 1) := by decide +kernel
theorem qm_Cd_branch_58 : decode qm_Cd_branch_c 58 = .ok (.getfield 9, 3) := by decide +kernel
theorem qm_Cd_branch_61 : decode qm_Cd_branch_c 61 = .ok (.bipush 15, 2) := by decide +kernel
theorem qm_Cd_branch_63 : decode qm_Cd_branch_c 63 = .ok (.aload_n 0, 1) := by decide +kernel
theorem qm_Cd_branch_64 : decode qm_Cd_branch_c 64 = .ok (.getfield 9, 3) := by decide +kernel
theorem qm_Cd_branch_67 : decode qm_Cd_branch_c 67 = .ok (.bipush 15, 2) := by decide +kernel
theorem qm_Cd_branch_69 : decode qm_Cd_branch_c 69 = .ok (.invokevirtual 169, 3) := by decide +kernel
theorem qm_Cd_branch_72 : decode qm_Cd_branch_c 72 = .ok (.iload_n 2, 1) := by decide +kernel
theorem qm_Cd_branch_73 : decode qm_Cd_branch_c 73 = .ok (.ifCond .eq 13, 3) := by decide +kernel
theorem qm_Cd_branch_76 : decode qm_Cd_branch_c 76 = .ok (.aload_n 0, 1) := by decide +kernel
theorem qm_Cd_branch_77 : decode qm_Cd_branch_c 77 = .ok (.getfield 19, 3) := by decide +kernel
theorem qm_Cd_branch_80 : decode qm_Cd_branch_c 80 = .ok (.getfield 96, 3) := by decide +kernel
theorem qm_Cd_branch_83 : decode qm_Cd_branch_c 83 = .ok (.goto 10, 3) := by decide +kernel
theorem qm_Cd_branch_86 : decode qm_Cd_branch_c 86 = .ok (.aload_n 0, 1) := by decide +kernel
theorem qm_Cd_branch_87 : decode qm_Cd_branch_c 87 = .ok (.getfield 15, 3) := by decide +kernel
theorem qm_Cd_branch_90 : decode qm_Cd_branch_c 90 = .ok (.getfield 96, 3) := by decide +kernel
theorem qm_Cd_branch_93 : decode qm_Cd_branch_c 93 = .ok (.iadd, 1) := by decide +kernel
theorem qm_Cd_branch_94 : decode qm_Cd_branch_c 94 = .ok (.invokevirtual 92, 3) := by decide +kernel
theorem qm_Cd_branch_97 : decode qm_Cd_branch_c 97 = .ok (.return_, 1) := by decide +kernel
set_option maxHeartbeats 4000000 in
set_option maxRecDepth 100000 in
theorem wCd_divide_44 {l : Launch} {D : va_G} {h : Nat → Nat} {K : Nat → ClassId} {res : Int32 × qS} {p : Program} {e : Env} {s : State} {m : MethodId} {args : Array Value} {below : List Frame} {meth : Method} {c : Code} {A : Nat → Prop} {ad : Nat → Nat} (C : qC p s m args meth c qm_Cd_divide_c 5 (some .int) qR_Cd ad) (S : qS) (x3 : Int32) (y0 : Int32) (hf : fCd_divide_44 S x3 y0 = some res) : ∀ (H : Heap) (locs : List Loc) (ls : Array Slot), qG D qCl (cT K) A s (cW h K S) H locs → lv_has ls 5 [(0, .ref (h 16)), (3, .int x3)] → W p l e ({ frames := 2, cells := 0, slots := 0, locals := 48 }) s m args below meth c H locs 0 0 (MQ below (qQi D qCl (cT K) (cW h K) A res) args s 0 0 A) (F0 m 44 ls [.int y0]) := by
  intro H locs ls G hl
  unfold fCd_divide_44 at hf
  refine lv_istore (lv' := [(4, .int y0), (0, .ref (h 16)), (3, .int x3)]) C.1 C.2.1 qm_Cd_divide_44 hl (by decide) rfl (fun ls hl => ?_)
  refine lv_aload_n C.1 C.2.1 qm_Cd_divide_46 rfl (lv_at hl 1 rfl) ?_
  refine q_get (wf := (cW h K)) (v := .ref (h 5)) C G qi_Cd 16 rfl rfl 0 (by decide) qz_218 rfl qm_Cd_divide_47 ?_
  refine lv_iload C.1 C.2.1 qm_Cd_divide_50 (lv_at hl 0 rfl) ?_
  refine lv_iload_n C.1 C.2.1 qm_Cd_divide_52 rfl (lv_at hl 2 rfl) ?_
  refine lv_iconst (v := 0) C.1 C.2.1 qm_Cd_divide_53 (by decide) ?_
  obtain ⟨S1, c1, hf⟩ := bnd_s hf
  refine q_callVv (wf := (cW h K)) (n := 3) (As := [.int y0, .int x3, .int 0]) (q0 := 5) (ci := 1) C G hl.1 (kCo_conclude (l := l) c1) qx_Cd_183 qm_Co_conclude_d ⟨by decide, by decide⟩ ⟨Nat.le_refl _, Nat.le_refl _⟩ rfl rfl rfl rfl rfl (Nat.le_of_ble_eq_true rfl) qm_Cd_divide_54 (fun H locs G => ?_)
  refine lv_iload C.1 C.2.1 qm_Cd_divide_57 (lv_at hl 0 rfl) ?_
  exact q_iret (wf := (cW h K)) C G hf qm_Cd_divide_59
set_option maxHeartbeats 4000000 in
set_option maxRecDepth 100000 in
theorem wCd_divide_32 {l : Launch} {D : va_G} {h : Nat → Nat} {K : Nat → ClassId} {res : Int32 × qS} {p : Program} {e : Env} {s : State} {m : MethodId} {args : Array Value} {below : List Frame} {meth : Method} {c : Code} {A : Nat → Prop} {ad : Nat → Nat} (C : qC p s m args meth c qm_Cd_divide_c 5 (some .int) qR_Cd ad) (S : qS) (x1 : Int32) (x2 : Int32) (y0 : Int32) (hf : fCd_divide_32 S x1 x2 y0 = some res) : ∀ (H : Heap) (locs : List Loc) (ls : Array Slot), qG D qCl (cT K) A s (cW h K S) H locs → lv_has ls 5 [(0, .ref (h 16)), (1, .int x1), (2, .int x2)] → W p l e ({ frames := 2, cells := 0, slots := 0, locals := 48 }) s m args below meth c H locs 0 0 (MQ below (qQi D qCl (cT K) (cW h K) A res) args s 0 0 A) (F0 m 32 ls [.int y0]) := by
  intro H locs ls G hl
  unfold fCd_divide_32 at hf
  refine lv_istore_n (lv' := [(3, .int y0), (0, .ref (h 16)), (1, .int x1), (2, .int x2)]) C.1 C.2.1 qm_Cd_divide_32 rfl hl (by decide) rfl (fun ls hl => ?_)
  refine lv_iload_n C.1 C.2.1 qm_Cd_divide_33 rfl (lv_at hl 0 rfl) ?_
  refine lv_if_eq (tgt := 41) C.1 C.2.1 qm_Cd_divide_34 (by decide) (fun b1 => ?_) (fun b1 => ?_)
  · have hf := if_t b1 hf
    refine lv_iload_n C.1 C.2.1 qm_Cd_divide_41 rfl (lv_at hl 2 rfl) ?_
    refine lv_iload_n C.1 C.2.1 qm_Cd_divide_42 rfl (lv_at hl 3 rfl) ?_
    obtain ⟨b2, hf⟩ := chk_s hf
    refine lv_idiv C.1 C.2.1 qm_Cd_divide_43 (bne_iff_ne.mp b2) ?_
    exact wCd_divide_44 C S y0 (x1 / x2) hf _ _ _ G (lv_sub hl [1, 0] rfl)
  · have hf := if_f b1 hf
    refine lv_iload_n C.1 C.2.1 qm_Cd_divide_37 rfl (lv_at hl 2 rfl) ?_
    refine lv_goto (tgt := 44) C.1 C.2.1 qm_Cd_divide_38 (by decide) ?_
    exact wCd_divide_44 C S y0 x1 hf _ _ _ G (lv_sub hl [1, 0] rfl)
set_option maxHeartbeats 4000000 in
set_option maxRecDepth 100000 in
theorem wCd_divide_27 {l : Launch} {D : va_G} {h : Nat → Nat} {K : Nat → ClassId} {res : Int32 × qS} {p : Program} {e : Env} {s : State} {m : MethodId} {args : Array Value} {below : List Frame} {meth : Method} {c : Code} {A : Nat → Prop} {ad : Nat → Nat} (C : qC p s m args meth c qm_Cd_divide_c 5 (some .int) qR_Cd ad) (S : qS) (x1 : Int32) (x2 : Int32) (hf : fCd_divide_27 S x1 x2 = some res) : ∀ (H : Heap) (locs : List Loc) (ls : Array Slot), qG D qCl (cT K) A s (cW h K S) H locs → lv_has ls 5 [(0, .ref (h 16)), (1, .int x1), (2, .int x2)] → W p l e ({ frames := 2, cells := 0, slots := 0, locals := 48 }) s m args below meth c H locs 0 0 (MQ below (qQi D qCl (cT K) (cW h K) A res) args s 0 0 A) (F0 m 27 ls []) := by
  intro H locs ls G hl
  unfold fCd_divide_27 at hf
  refine lv_iconst (v := 1) C.1 C.2.1 qm_Cd_divide_27 (by decide) ?_
  refine lv_goto (tgt := 32) C.1 C.2.1 qm_Cd_divide_28 (by decide) ?_
  exact wCd_divide_32 C S x1 x2 1 hf _ _ _ G (lv_sub hl [0, 1, 2] rfl)
set_option maxHeartbeats 4000000 in
set_option maxRecDepth 100000 in
theorem wCd_divide_31 {l : Launch} {D : va_G} {h : Nat → Nat} {K : Nat → ClassId} {res : Int32 × qS} {p : Program} {e : Env} {s : State} {m : MethodId} {args : Array Value} {below : List Frame} {meth : Method} {c : Code} {A : Nat → Prop} {ad : Nat → Nat} (C : qC p s m args meth c qm_Cd_divide_c 5 (some .int) qR_Cd ad) (S : qS) (x1 : Int32) (x2 : Int32) (hf : fCd_divide_31 S x1 x2 = some res) : ∀ (H : Heap) (locs : List Loc) (ls : Array Slot), qG D qCl (cT K) A s (cW h K S) H locs → lv_has ls 5 [(0, .ref (h 16)), (1, .int x1), (2, .int x2)] → W p l e ({ frames := 2, cells := 0, slots := 0, locals := 48 }) s m args below meth c H locs 0 0 (MQ below (qQi D qCl (cT K) (cW h K) A res) args s 0 0 A) (F0 m 31 ls []) := by
  intro H locs ls G hl
  unfold fCd_divide_31 at hf
  refine lv_iconst (v := 0) C.1 C.2.1 qm_Cd_divide_31 (by decide) ?_
  exact wCd_divide_32 C S x1 x2 0 hf _ _ _ G (lv_sub hl [0, 1, 2] rfl)
set_option maxHeartbeats 4000000 in
set_option maxRecDepth 100000 in
theorem wCd_divide_12 {l : Launch} {D : va_G} {h : Nat → Nat} {K : Nat → ClassId} {res : Int32 × qS} {p : Program} {e : Env} {s : State} {m : MethodId} {args : Array Value} {below : List Frame} {meth : Method} {c : Code} {A : Nat → Prop} {ad : Nat → Nat} (C : qC p s m args meth c qm_Cd_divide_c 5 (some .int) qR_Cd ad) (S : qS) (x1 : Int32) (x2 : Int32) (hf : fCd_divide_12 S x1 x2 = some res) : ∀ (H : Heap) (locs : List Loc) (ls : Array Slot), qG D qCl (cT K) A s (cW h K S) H locs → lv_has ls 5 [(0, .ref (h 16)), (1, .int x1), (2, .int x2)] → W p l e ({ frames := 2, cells := 0, slots := 0, locals := 48 }) s m args below meth c H locs 0 0 (MQ below (qQi D qCl (cT K) (cW h K) A res) args s 0 0 A) (F0 m 12 ls []) := by
  intro H locs ls G hl
  unfold fCd_divide_12 at hf
  refine lv_iload_n C.1 C.2.1 qm_Cd_divide_12 rfl (lv_at hl 2 rfl) ?_
  refine lv_if_eq (tgt := 27) C.1 C.2.1 qm_Cd_divide_13 (by decide) (fun b1 => ?_) (fun b1 => ?_)
  · have hf := if_t b1 hf
    exact wCd_divide_27 C S x1 x2 hf _ _ _ G (lv_sub hl [0, 1, 2] rfl)
  · have hf := if_f b1 hf
    refine lv_iload_n C.1 C.2.1 qm_Cd_divide_16 rfl (lv_at hl 1 rfl) ?_
    refine lv_ldc (own := "QuadMode$Codes") (v := (-2147483648)) C.1 C.2.1 C.2.2.2.1 (C.2.2.2.2.1 _ qz_732) qm_Cd_divide_17 ?_
    refine lv_icmp_ne (tgt := 31) C.1 C.2.1 qm_Cd_divide_19 (by decide) (fun b2 => ?_) (fun b2 => ?_)
    · have hf := if_t b2 hf
      exact wCd_divide_31 C S x1 x2 hf _ _ _ G (lv_sub hl [0, 1, 2] rfl)
    · have hf := if_f (not_not_intro b2) hf
      refine lv_iload_n C.1 C.2.1 qm_Cd_divide_22 rfl (lv_at hl 2 rfl) ?_
      refine lv_iconst (v := (-1)) C.1 C.2.1 qm_Cd_divide_23 (by decide) ?_
      refine lv_icmp_ne (tgt := 31) C.1 C.2.1 qm_Cd_divide_24 (by decide) (fun b3 => ?_) (fun b3 => ?_)
      · have hf := if_t b3 hf
        exact wCd_divide_31 C S x1 x2 hf _ _ _ G (lv_sub hl [0, 1, 2] rfl)
      · have hf := if_f (not_not_intro b3) hf
        exact wCd_divide_27 C S x1 x2 hf _ _ _ G (lv_sub hl [0, 1, 2] rfl)
set_option maxHeartbeats 4000000 in
set_option maxRecDepth 100000 in
theorem wCd_divide {l : Launch} {D : va_G} {h : Nat → Nat} {K : Nat → ClassId} {res : Int32 × qS} {p : Program} {e : Env} {s : State} {m : MethodId} {args : Array Value} {below : List Frame} {meth : Method} {c : Code} {A : Nat → Prop} {ad : Nat → Nat} (C : qC p s m args meth c qm_Cd_divide_c 5 (some .int) qR_Cd ad) (S : qS) (a1 : Int32) (a2 : Int32) (hf : fCd_divide S a1 a2 = some res) : ∀ (H : Heap) (locs : List Loc) (ls : Array Slot), qG D qCl (cT K) A s (cW h K S) H locs → lv_has ls 5 [(0, .ref (h 16)), (1, .int a1), (2, .int a2)] → W p l e ({ frames := 2, cells := 0, slots := 0, locals := 48 }) s m args below meth c H locs 0 0 (MQ below (qQi D qCl (cT K) (cW h K) A res) args s 0 0 A) (F0 m 0 ls []) := by
  intro H locs ls G hl
  unfold fCd_divide at hf
  refine lv_iload_n C.1 C.2.1 qm_Cd_divide_0 rfl (lv_at hl 2 rfl) ?_
  refine lv_if_ne (tgt := 12) C.1 C.2.1 qm_Cd_divide_1 (by decide) (fun b1 => ?_) (fun b1 => ?_)
  · have hf := if_t b1 hf
    exact wCd_divide_12 C S a1 a2 hf _ _ _ G (lv_sub hl [0, 1, 2] rfl)
  · have hf := if_f (not_not_intro b1) hf
    refine lv_aload_n C.1 C.2.1 qm_Cd_divide_4 rfl (lv_at hl 0 rfl) ?_
    refine q_get (wf := (cW h K)) (v := .ref (h 5)) C G qi_Cd 16 rfl rfl 0 (by decide) qz_218 rfl qm_Cd_divide_5 ?_
    refine lv_iconst (v := 2) C.1 C.2.1 qm_Cd_divide_8 (by decide) ?_
    refine q_putN (host := "QuadMode") (wf := (cW h K)) (S' := (pI S 10 2)) C G qi_Co qY_Co qy_Co qn_Co 5 rfl rfl 13 (by decide) (by decide +kernel) rfl rfl (Nat.le_of_ble_eq_true rfl) rfl qm_Cd_divide_9 (fun H locs G => ?_)
    exact wCd_divide_12 C (pI S 10 2) a1 a2 hf _ _ _ G (lv_sub hl [0, 1, 2] rfl)
theorem kCd_divide {l : Launch} {ad : Nat → Nat} {D : va_G} {h : Nat → Nat} {K : Nat → ClassId} {res : Int32 × qS} {S : qS} {a1 : Int32} {a2 : Int32} (hf : fCd_divide S a1 a2 = some res) : qMi l qm_Cd_divide qm_Cd_divide_c 5 .int 2 48 D qCl (cT K) ad (cW h K) [.ref (h 16), .int a1, .int a2] S res := qMi_of (by decide) (Nat.le_of_ble_eq_true rfl) (fun _ _ _ _ _ _ _ _ _ _ C G hl => wCd_divide C S a1 a2 hf _ _ _ G hl)
set_option maxHeartbeats 4000000 in
set_option maxRecDepth 100000 in
theorem wCd_bits {l : Launch} {D : va_G} {h : Nat → Nat} {K : Nat → ClassId} {res : Int32 × qS} {p : Program} {e : Env} {s : State} {m : MethodId} {args : Array Value} {below : List Frame} {meth : Method} {c : Code} {A : Nat → Prop} {ad : Nat → Nat} (C : qC p s m args meth c qm_Cd_bits_c 2 (some .int) qR_Cd ad) (S : qS) (a1 : Int32) (hf : fCd_bits S a1 = some res) : ∀ (H : Heap) (locs : List Loc) (ls : Array Slot), qG D qCl (cT K) A s (cW h K S) H locs → lv_has ls 2 [(0, .ref (h 16)), (1, .int a1)] → W p l e ({ frames := 2, cells := 0, slots := 0, locals := 48 }) s m args below meth c H locs 0 0 (MQ below (qQi D qCl (cT K) (cW h K) A res) args s 0 0 A) (F0 m 0 ls []) := by
  intro H locs ls G hl
  unfold fCd_bits at hf
  refine lv_aload_n C.1 C.2.1 qm_Cd_bits_0 rfl (lv_at hl 0 rfl) ?_
  refine q_get (wf := (cW h K)) (v := .ref (h 5)) C G qi_Cd 16 rfl rfl 0 (by decide) qz_218 rfl qm_Cd_bits_1 ?_
  refine lv_iload_n C.1 C.2.1 qm_Cd_bits_4 rfl (lv_at hl 1 rfl) ?_
  refine lv_iconst (v := 0) C.1 C.2.1 qm_Cd_bits_5 (by decide) ?_
  refine lv_aload_n C.1 C.2.1 qm_Cd_bits_6 rfl (lv_at hl 0 rfl) ?_
  refine q_get (wf := (cW h K)) (v := .ref (h 5)) C G qi_Cd 16 rfl rfl 0 (by decide) qz_218 rfl qm_Cd_bits_7 ?_
  refine lv_iconst (v := 1) C.1 C.2.1 qm_Cd_bits_10 (by decide) ?_
  obtain ⟨q1, c1, hf⟩ := bnd_s hf
  refine q_callVi (wf := (cW h K)) (n := 1) (As := [.int 1]) (q0 := 5) (ci := 1) C G hl.1 (kCo_has (l := l) c1) qx_Cd_152 qm_Co_has_d ⟨by decide, by decide⟩ ⟨Nat.le_refl _, Nat.le_refl _⟩ rfl rfl rfl rfl rfl (Nat.le_of_ble_eq_true rfl) qm_Cd_bits_11 (fun H locs G => ?_)
  obtain ⟨S2, c2, hf⟩ := bnd_s hf
  refine q_callVv (wf := (cW h K)) (n := 3) (As := [.int a1, .int 0, .int q1.1]) (q0 := 5) (ci := 1) C G hl.1 (kCo_conclude (l := l) c2) qx_Cd_183 qm_Co_conclude_d ⟨by decide, by decide⟩ ⟨Nat.le_refl _, Nat.le_refl _⟩ rfl rfl rfl rfl rfl (Nat.le_of_ble_eq_true rfl) qm_Cd_bits_14 (fun H locs G => ?_)
  refine lv_iload_n C.1 C.2.1 qm_Cd_bits_17 rfl (lv_at hl 1 rfl) ?_
  exact q_iret (wf := (cW h K)) C G hf qm_Cd_bits_18
theorem kCd_bits {l : Launch} {ad : Nat → Nat} {D : va_G} {h : Nat → Nat} {K : Nat → ClassId} {res : Int32 × qS} {S : qS} {a1 : Int32} (hf : fCd_bits S a1 = some res) : qMi l qm_Cd_bits qm_Cd_bits_c 2 .int 2 48 D qCl (cT K) ad (cW h K) [.ref (h 16), .int a1] S res := qMi_of (by decide) (Nat.le_of_ble_eq_true rfl) (fun _ _ _ _ _ _ _ _ _ _ C G hl => wCd_bits C S a1 hf _ _ _ G hl)
set_option maxHeartbeats 4000000 in
set_option maxRecDepth 100000 in
theorem wCd_calculated_40 {l : Launch} {D : va_G} {h : Nat → Nat} {K : Nat → ClassId} {res : Int32 × qS} {p : Program} {e : Env} {s : State} {m : MethodId} {args : Array Value} {below : List Frame} {meth : Method} {c : Code} {A : Nat → Prop} {ad : Nat → Nat} (C : qC p s m args meth c qm_Cd_calculated_c 4 (some .int) qR_Cd ad) (S : qS) (x2 : Int32) (x3 : Int32) (hf : fCd_calculated_40 S x2 x3 = some res) : ∀ (H : Heap) (locs : List Loc) (ls : Array Slot), qG D qCl (cT K) A s (cW h K S) H locs → lv_has ls 4 [(0, .ref (h 16)), (2, .int x2), (3, .int x3)] → W p l e ({ frames := 3, cells := 0, slots := 0, locals := 72 }) s m args below meth c H locs 0 0 (MQ below (qQi D qCl (cT K) (cW h K) A res) args s 0 0 A) (F0 m 40 ls []) := by
  intro H locs ls G hl
  unfold fCd_calculated_40 at hf
  refine lv_aload_n C.1 C.2.1 qm_Cd_calculated_40 rfl (lv_at hl 0 rfl) ?_
  refine lv_iload_n C.1 C.2.1 qm_Cd_calculated_41 rfl (lv_at hl 2 rfl) ?_
  refine lv_iload_n C.1 C.2.1 qm_Cd_calculated_42 rfl (lv_at hl 1 rfl) ?_
  obtain ⟨q1, c1, hf⟩ := bnd_s hf
  refine q_callVi (wf := (cW h K)) (n := 2) (As := [.int x3, .int x2]) (q0 := 16) (ci := 0) C G hl.1 (kCd_add (l := l) c1) qx_Cd_201 qm_Cd_add_d ⟨by decide, by decide⟩ ⟨Nat.le_refl _, Nat.le_refl _⟩ rfl rfl rfl rfl rfl (Nat.le_of_ble_eq_true rfl) qm_Cd_calculated_43 (fun H locs G => ?_)
  exact q_iret (wf := (cW h K)) C G hf qm_Cd_calculated_46
set_option maxHeartbeats 4000000 in
set_option maxRecDepth 100000 in
theorem wCd_calculated_47 {l : Launch} {D : va_G} {h : Nat → Nat} {K : Nat → ClassId} {res : Int32 × qS} {p : Program} {e : Env} {s : State} {m : MethodId} {args : Array Value} {below : List Frame} {meth : Method} {c : Code} {A : Nat → Prop} {ad : Nat → Nat} (C : qC p s m args meth c qm_Cd_calculated_c 4 (some .int) qR_Cd ad) (S : qS) (x2 : Int32) (x3 : Int32) (hf : fCd_calculated_47 S x2 x3 = some res) : ∀ (H : Heap) (locs : List Loc) (ls : Array Slot), qG D qCl (cT K) A s (cW h K S) H locs → lv_has ls 4 [(0, .ref (h 16)), (2, .int x2), (3, .int x3)] → W p l e ({ frames := 3, cells := 0, slots := 0, locals := 72 }) s m args below meth c H locs 0 0 (MQ below (qQi D qCl (cT K) (cW h K) A res) args s 0 0 A) (F0 m 47 ls []) := by
  intro H locs ls G hl
  unfold fCd_calculated_47 at hf
  refine lv_aload_n C.1 C.2.1 qm_Cd_calculated_47 rfl (lv_at hl 0 rfl) ?_
  refine lv_iload_n C.1 C.2.1 qm_Cd_calculated_48 rfl (lv_at hl 2 rfl) ?_
  refine lv_iload_n C.1 C.2.1 qm_Cd_calculated_49 rfl (lv_at hl 1 rfl) ?_
  obtain ⟨q1, c1, hf⟩ := bnd_s hf
  refine q_callVi (wf := (cW h K)) (n := 2) (As := [.int x3, .int x2]) (q0 := 16) (ci := 0) C G hl.1 (kCd_subtract (l := l) c1) qx_Cd_204 qm_Cd_subtract_d ⟨by decide, by decide⟩ ⟨Nat.le_refl _, Nat.le_refl _⟩ rfl rfl rfl rfl rfl (Nat.le_of_ble_eq_true rfl) qm_Cd_calculated_50 (fun H locs G => ?_)
  exact q_iret (wf := (cW h K)) C G hf qm_Cd_calculated_53
set_option maxHeartbeats 4000000 in
set_option maxRecDepth 100000 in
theorem wCd_calculated_54 {l : Launch} {D : va_G} {h : Nat → Nat} {K : Nat → ClassId} {res : Int32 × qS} {p : Program} {e : Env} {s : State} {m : MethodId} {args : Array Value} {below : List Frame} {meth : Method} {c : Code} {A : Nat → Prop} {ad : Nat → Nat} (C : qC p s m args meth c qm_Cd_calculated_c 4 (some .int) qR_Cd ad) (S : qS) (x2 : Int32) (x3 : Int32) (hf : fCd_calculated_54 S x2 x3 = some res) : ∀ (H : Heap) (locs : List Loc) (ls : Array Slot), qG D qCl (cT K) A s (cW h K S) H locs → lv_has ls 4 [(0, .ref (h 16)), (2, .int x2), (3, .int x3)] → W p l e ({ frames := 3, cells := 0, slots := 0, locals := 72 }) s m args below meth c H locs 0 0 (MQ below (qQi D qCl (cT K) (cW h K) A res) args s 0 0 A) (F0 m 54 ls []) := by
  intro H locs ls G hl
  unfold fCd_calculated_54 at hf
  refine lv_aload_n C.1 C.2.1 qm_Cd_calculated_54 rfl (lv_at hl 0 rfl) ?_
  refine lv_iload_n C.1 C.2.1 qm_Cd_calculated_55 rfl (lv_at hl 2 rfl) ?_
  refine lv_iload_n C.1 C.2.1 qm_Cd_calculated_56 rfl (lv_at hl 1 rfl) ?_
  obtain ⟨q1, c1, hf⟩ := bnd_s hf
  refine q_callVi (wf := (cW h K)) (n := 2) (As := [.int x3, .int x2]) (q0 := 16) (ci := 0) C G hl.1 (kCd_multiply (l := l) c1) qx_Cd_211 qm_Cd_multiply_d ⟨by decide, by decide⟩ ⟨Nat.le_refl _, Nat.le_refl _⟩ rfl rfl rfl rfl rfl (Nat.le_of_ble_eq_true rfl) qm_Cd_calculated_57 (fun H locs G => ?_)
  exact q_iret (wf := (cW h K)) C G hf qm_Cd_calculated_60
set_option maxHeartbeats 4000000 in
set_option maxRecDepth 100000 in
theorem wCd_calculated_61 {l : Launch} {D : va_G} {h : Nat → Nat} {K : Nat → ClassId} {res : Int32 × qS} {p : Program} {e : Env} {s : State} {m : MethodId} {args : Array Value} {below : List Frame} {meth : Method} {c : Code} {A : Nat → Prop} {ad : Nat → Nat} (C : qC p s m args meth c qm_Cd_calculated_c 4 (some .int) qR_Cd ad) (S : qS) (x2 : Int32) (x3 : Int32) (hf : fCd_calculated_61 S x2 x3 = some res) : ∀ (H : Heap) (locs : List Loc) (ls : Array Slot), qG D qCl (cT K) A s (cW h K S) H locs → lv_has ls 4 [(0, .ref (h 16)), (2, .int x2), (3, .int x3)] → W p l e ({ frames := 3, cells := 0, slots := 0, locals := 72 }) s m args below meth c H locs 0 0 (MQ below (qQi D qCl (cT K) (cW h K) A res) args s 0 0 A) (F0 m 61 ls []) := by
  intro H locs ls G hl
  unfold fCd_calculated_61 at hf
  refine lv_aload_n C.1 C.2.1 qm_Cd_calculated_61 rfl (lv_at hl 0 rfl) ?_
  refine lv_iload_n C.1 C.2.1 qm_Cd_calculated_62 rfl (lv_at hl 2 rfl) ?_
  refine lv_iload_n C.1 C.2.1 qm_Cd_calculated_63 rfl (lv_at hl 1 rfl) ?_
  obtain ⟨q1, c1, hf⟩ := bnd_s hf
  refine q_callVi (wf := (cW h K)) (n := 2) (As := [.int x3, .int x2]) (q0 := 16) (ci := 0) C G hl.1 (kCd_divide (l := l) c1) qx_Cd_214 qm_Cd_divide_d ⟨by decide, by decide⟩ ⟨Nat.le_refl _, Nat.le_refl _⟩ rfl rfl rfl rfl rfl (Nat.le_of_ble_eq_true rfl) qm_Cd_calculated_64 (fun H locs G => ?_)
  exact q_iret (wf := (cW h K)) C G hf qm_Cd_calculated_67
set_option maxHeartbeats 4000000 in
set_option maxRecDepth 100000 in
theorem wCd_calculated_68 {l : Launch} {D : va_G} {h : Nat → Nat} {K : Nat → ClassId} {res : Int32 × qS} {p : Program} {e : Env} {s : State} {m : MethodId} {args : Array Value} {below : List Frame} {meth : Method} {c : Code} {A : Nat → Prop} {ad : Nat → Nat} (C : qC p s m args meth c qm_Cd_calculated_c 4 (some .int) qR_Cd ad) (S : qS) (x2 : Int32) (x3 : Int32) (hf : fCd_calculated_68 S x2 x3 = some res) : ∀ (H : Heap) (locs : List Loc) (ls : Array Slot), qG D qCl (cT K) A s (cW h K S) H locs → lv_has ls 4 [(0, .ref (h 16)), (2, .int x2), (3, .int x3)] → W p l e ({ frames := 3, cells := 0, slots := 0, locals := 72 }) s m args below meth c H locs 0 0 (MQ below (qQi D qCl (cT K) (cW h K) A res) args s 0 0 A) (F0 m 68 ls []) := by
  intro H locs ls G hl
  unfold fCd_calculated_68 at hf
  refine lv_aload_n C.1 C.2.1 qm_Cd_calculated_68 rfl (lv_at hl 0 rfl) ?_
  refine lv_iload_n C.1 C.2.1 qm_Cd_calculated_69 rfl (lv_at hl 2 rfl) ?_
  refine lv_iload_n C.1 C.2.1 qm_Cd_calculated_70 rfl (lv_at hl 1 rfl) ?_
  refine lv_ior C.1 C.2.1 qm_Cd_calculated_71 ?_
  obtain ⟨q1, c1, hf⟩ := bnd_s hf
  refine q_callVi (wf := (cW h K)) (n := 1) (As := [.int (x3 ||| x2)]) (q0 := 16) (ci := 0) C G hl.1 (kCd_bits (l := l) c1) qx_Cd_217 qm_Cd_bits_d ⟨by decide, by decide⟩ ⟨Nat.le_refl _, Nat.le_refl _⟩ rfl rfl rfl rfl rfl (Nat.le_of_ble_eq_true rfl) qm_Cd_calculated_72 (fun H locs G => ?_)
  exact q_iret (wf := (cW h K)) C G hf qm_Cd_calculated_75
set_option maxHeartbeats 4000000 in
set_option maxRecDepth 100000 in
theorem wCd_calculated_76 {l : Launch} {D : va_G} {h : Nat → Nat} {K : Nat → ClassId} {res : Int32 × qS} {p : Program} {e : Env} {s : State} {m : MethodId} {args : Array Value} {below : List Frame} {meth : Method} {c : Code} {A : Nat → Prop} {ad : Nat → Nat} (C : qC p s m args meth c qm_Cd_calculated_c 4 (some .int) qR_Cd ad) (S : qS) (x2 : Int32) (x3 : Int32) (hf : fCd_calculated_76 S x2 x3 = some res) : ∀ (H : Heap) (locs : List Loc) (ls : Array Slot), qG D qCl (cT K) A s (cW h K S) H locs → lv_has ls 4 [(0, .ref (h 16)), (2, .int x2), (3, .int x3)] → W p l e ({ frames := 3, cells := 0, slots := 0, locals := 72 }) s m args below meth c H locs 0 0 (MQ below (qQi D qCl (cT K) (cW h K) A res) args s 0 0 A) (F0 m 76 ls []) := by
  intro H locs ls G hl
  unfold fCd_calculated_76 at hf
  refine lv_aload_n C.1 C.2.1 qm_Cd_calculated_76 rfl (lv_at hl 0 rfl) ?_
  refine lv_iload_n C.1 C.2.1 qm_Cd_calculated_77 rfl (lv_at hl 2 rfl) ?_
  refine lv_iload_n C.1 C.2.1 qm_Cd_calculated_78 rfl (lv_at hl 1 rfl) ?_
  refine lv_iconst (v := (-1)) C.1 C.2.1 qm_Cd_calculated_79 (by decide) ?_
  refine lv_ixor C.1 C.2.1 qm_Cd_calculated_80 ?_
  refine lv_iand C.1 C.2.1 qm_Cd_calculated_81 ?_
  obtain ⟨q1, c1, hf⟩ := bnd_s hf
  refine q_callVi (wf := (cW h K)) (n := 1) (As := [.int (x3 &&& (x2 ^^^ (-1)))]) (q0 := 16) (ci := 0) C G hl.1 (kCd_bits (l := l) c1) qx_Cd_217 qm_Cd_bits_d ⟨by decide, by decide⟩ ⟨Nat.le_refl _, Nat.le_refl _⟩ rfl rfl rfl rfl rfl (Nat.le_of_ble_eq_true rfl) qm_Cd_calculated_82 (fun H locs G => ?_)
  exact q_iret (wf := (cW h K)) C G hf qm_Cd_calculated_85
set_option maxHeartbeats 4000000 in
set_option maxRecDepth 100000 in
theorem wCd_calculated_86 {l : Launch} {D : va_G} {h : Nat → Nat} {K : Nat → ClassId} {res : Int32 × qS} {p : Program} {e : Env} {s : State} {m : MethodId} {args : Array Value} {below : List Frame} {meth : Method} {c : Code} {A : Nat → Prop} {ad : Nat → Nat} (C : qC p s m args meth c qm_Cd_calculated_c 4 (some .int) qR_Cd ad) (S : qS) (x2 : Int32) (x3 : Int32) (hf : fCd_calculated_86 S x2 x3 = some res) : ∀ (H : Heap) (locs : List Loc) (ls : Array Slot), qG D qCl (cT K) A s (cW h K S) H locs → lv_has ls 4 [(0, .ref (h 16)), (2, .int x2), (3, .int x3)] → W p l e ({ frames := 3, cells := 0, slots := 0, locals := 72 }) s m args below meth c H locs 0 0 (MQ below (qQi D qCl (cT K) (cW h K) A res) args s 0 0 A) (F0 m 86 ls []) := by
  intro H locs ls G hl
  unfold fCd_calculated_86 at hf
  refine lv_aload_n C.1 C.2.1 qm_Cd_calculated_86 rfl (lv_at hl 0 rfl) ?_
  refine lv_iload_n C.1 C.2.1 qm_Cd_calculated_87 rfl (lv_at hl 2 rfl) ?_
  refine lv_iload_n C.1 C.2.1 qm_Cd_calculated_88 rfl (lv_at hl 1 rfl) ?_
  refine lv_ixor C.1 C.2.1 qm_Cd_calculated_89 ?_
  obtain ⟨q1, c1, hf⟩ := bnd_s hf
  refine q_callVi (wf := (cW h K)) (n := 1) (As := [.int (x3 ^^^ x2)]) (q0 := 16) (ci := 0) C G hl.1 (kCd_bits (l := l) c1) qx_Cd_217 qm_Cd_bits_d ⟨by decide, by decide⟩ ⟨Nat.le_refl _, Nat.le_refl _⟩ rfl rfl rfl rfl rfl (Nat.le_of_ble_eq_true rfl) qm_Cd_calculated_90 (fun H locs G => ?_)
  exact q_iret (wf := (cW h K)) C G hf qm_Cd_calculated_93
set_option maxHeartbeats 4000000 in
set_option maxRecDepth 100000 in
theorem wCd_calculated {l : Launch} {D : va_G} {h : Nat → Nat} {K : Nat → ClassId} {res : Int32 × qS} {p : Program} {e : Env} {s : State} {m : MethodId} {args : Array Value} {below : List Frame} {meth : Method} {c : Code} {A : Nat → Prop} {ad : Nat → Nat} (C : qC p s m args meth c qm_Cd_calculated_c 4 (some .int) qR_Cd ad) (S : qS) (a1 : Int32) (a2 : Int32) (a3 : Int32) (hf : fCd_calculated S a1 a2 a3 = some res) : ∀ (H : Heap) (locs : List Loc) (ls : Array Slot), qG D qCl (cT K) A s (cW h K S) H locs → lv_has ls 4 [(0, .ref (h 16)), (1, .int a1), (2, .int a2), (3, .int a3)] → W p l e ({ frames := 3, cells := 0, slots := 0, locals := 72 }) s m args below meth c H locs 0 0 (MQ below (qQi D qCl (cT K) (cW h K) A res) args s 0 0 A) (F0 m 0 ls []) := by
  intro H locs ls G hl
  unfold fCd_calculated at hf
  refine lv_iload_n C.1 C.2.1 qm_Cd_calculated_0 rfl (lv_at hl 1 rfl) ?_
  by_cases b1 : a1.toInt < 27 ∨ 32 < a1.toInt
  · have hf := if_t b1 hf
    refine lv_tableOut (tgt := 86) C.1 C.2.1 qm_Cd_calculated_1 b1 (by decide) ?_
    exact wCd_calculated_86 C S a2 a3 hf _ _ _ G (lv_sub hl [0, 2, 3] rfl)
  have hf := if_f b1 hf
  by_cases b1_27 : a1 = 27
  · have hf := if_t b1_27 hf
    refine lv_tableIn (tgt := 40) C.1 C.2.1 qm_Cd_calculated_1 (by rw [b1_27]; decide) (by rw [b1_27]; decide) (by rw [b1_27]; rfl) (by decide) ?_
    exact wCd_calculated_40 C S a2 a3 hf _ _ _ G (lv_sub hl [0, 2, 3] rfl)
  have hf := if_f b1_27 hf
  by_cases b1_28 : a1 = 28
  · have hf := if_t b1_28 hf
    refine lv_tableIn (tgt := 47) C.1 C.2.1 qm_Cd_calculated_1 (by rw [b1_28]; decide) (by rw [b1_28]; decide) (by rw [b1_28]; rfl) (by decide) ?_
    exact wCd_calculated_47 C S a2 a3 hf _ _ _ G (lv_sub hl [0, 2, 3] rfl)
  have hf := if_f b1_28 hf
  by_cases b1_29 : a1 = 29
  · have hf := if_t b1_29 hf
    refine lv_tableIn (tgt := 54) C.1 C.2.1 qm_Cd_calculated_1 (by rw [b1_29]; decide) (by rw [b1_29]; decide) (by rw [b1_29]; rfl) (by decide) ?_
    exact wCd_calculated_54 C S a2 a3 hf _ _ _ G (lv_sub hl [0, 2, 3] rfl)
  have hf := if_f b1_29 hf
  by_cases b1_30 : a1 = 30
  · have hf := if_t b1_30 hf
    refine lv_tableIn (tgt := 61) C.1 C.2.1 qm_Cd_calculated_1 (by rw [b1_30]; decide) (by rw [b1_30]; decide) (by rw [b1_30]; rfl) (by decide) ?_
    exact wCd_calculated_61 C S a2 a3 hf _ _ _ G (lv_sub hl [0, 2, 3] rfl)
  have hf := if_f b1_30 hf
  by_cases b1_31 : a1 = 31
  · have hf := if_t b1_31 hf
    refine lv_tableIn (tgt := 68) C.1 C.2.1 qm_Cd_calculated_1 (by rw [b1_31]; decide) (by rw [b1_31]; decide) (by rw [b1_31]; rfl) (by decide) ?_
    exact wCd_calculated_68 C S a2 a3 hf _ _ _ G (lv_sub hl [0, 2, 3] rfl)
  have hf := if_f b1_31 hf
  by_cases b1_32 : a1 = 32
  · have hf := if_t b1_32 hf
    refine lv_tableIn (tgt := 76) C.1 C.2.1 qm_Cd_calculated_1 (by rw [b1_32]; decide) (by rw [b1_32]; decide) (by rw [b1_32]; rfl) (by decide) ?_
    exact wCd_calculated_76 C S a2 a3 hf _ _ _ G (lv_sub hl [0, 2, 3] rfl)
  have hf := if_f b1_32 hf
  cases hf
theorem kCd_calculated {l : Launch} {ad : Nat → Nat} {D : va_G} {h : Nat → Nat} {K : Nat → ClassId} {res : Int32 × qS} {S : qS} {a1 : Int32} {a2 : Int32} {a3 : Int32} (hf : fCd_calculated S a1 a2 a3 = some res) : qMi l qm_Cd_calculated qm_Cd_calculated_c 4 .int 3 72 D qCl (cT K) ad (cW h K) [.ref (h 16), .int a1, .int a2, .int a3] S res := qMi_of (by decide) (Nat.le_of_ble_eq_true rfl) (fun _ _ _ _ _ _ _ _ _ _ C G hl => wCd_calculated C S a1 a2 a3 hf _ _ _ G hl)
set_option maxHeartbeats 4000000 in
set_option maxRecDepth 100000 in
theorem wCd_calculate_118 {l : Launch} {D : va_G} {h : Nat → Nat} {K : Nat → ClassId} {res : qS} {p : Program} {e : Env} {s : State} {m : MethodId} {args : Array Value} {below : List Frame} {meth : Method} {c : Code} {A : Nat → Prop} {ad : Nat → Nat} (C : qC p s m args meth c qm_Cd_calculate_c 3 none qR_Cd ad) (S : qS) (hf : fCd_calculate_118 S = some res) : ∀ (H : Heap) (locs : List Loc) (ls : Array Slot), qG D qCl (cT K) A s (cW h K S) H locs → lv_has ls 3 [] → W p l e ({ frames := 4, cells := 0, slots := 0, locals := 99 }) s m args below meth c H locs 0 0 (MQ below (qQv D qCl (cT K) (cW h K) A res) args s 0 0 A) (F0 m 118 ls []) := by
  intro H locs ls G hl
  unfold fCd_calculate_118 at hf
  exact q_vret (wf := (cW h K)) C G hf qm_Cd_calculate_118
set_option maxHeartbeats 4000000 in
set_option maxRecDepth 100000 in
theorem wCd_calculate_39 {l : Launch} {D : va_G} {h : Nat → Nat} {K : Nat → ClassId} {res : qS} {p : Program} {e : Env} {s : State} {m : MethodId} {args : Array Value} {below : List Frame} {meth : Method} {c : Code} {A : Nat → Prop} {ad : Nat → Nat} (C : qC p s m args meth c qm_Cd_calculate_c 3 none qR_Cd ad) (S : qS) (y0 : Int32) (hf : fCd_calculate_39 S y0 = some res) : ∀ (H : Heap) (locs : List Loc) (ls : Array Slot), qG D qCl (cT K) A s (cW h K S) H locs → lv_has ls 3 [(0, .ref (h 16))] → W p l e ({ frames := 4, cells := 0, slots := 0, locals := 99 }) s m args below meth c H locs 0 0 (MQ below (qQv D qCl (cT K) (cW h K) A res) args s 0 0 A) (F0 m 39 ls [.int y0]) := by
  intro H locs ls G hl
  unfold fCd_calculate_39 at hf
  refine lv_istore_n (lv' := [(2, .int y0), (0, .ref (h 16))]) C.1 C.2.1 qm_Cd_calculate_39 rfl hl (by decide) rfl (fun ls hl => ?_)
  refine lv_aload_n C.1 C.2.1 qm_Cd_calculate_40 rfl (lv_at hl 1 rfl) ?_
  refine lv_aload_n C.1 C.2.1 qm_Cd_calculate_41 rfl (lv_at hl 1 rfl) ?_
  refine q_get (wf := (cW h K)) (v := .ref (h 12)) C G qi_Cd 16 rfl rfl 1 (by decide) qz_219 rfl qm_Cd_calculate_42 ?_
  refine lv_iload_n C.1 C.2.1 qm_Cd_calculate_45 rfl (lv_at hl 0 rfl) ?_
  obtain ⟨S1, c1, hf⟩ := bnd_s hf
  refine q_callVv (wf := (cW h K)) (n := 2) (As := [.ref (h 12), .int y0]) (q0 := 16) (ci := 0) C G hl.1 (kCd_store (l := l) c1 (by decide)) qx_Cd_111 qm_Cd_store_d ⟨by decide, by decide⟩ ⟨Nat.le_refl _, Nat.le_refl _⟩ rfl rfl rfl rfl rfl (Nat.le_of_ble_eq_true rfl) qm_Cd_calculate_46 (fun H locs G => ?_)
  refine lv_goto (tgt := 118) C.1 C.2.1 qm_Cd_calculate_49 (by decide) ?_
  exact wCd_calculate_118 C S1 hf _ _ _ G (lv_sub hl [] rfl)
set_option maxHeartbeats 4000000 in
set_option maxRecDepth 100000 in
theorem wCd_calculate {l : Launch} {D : va_G} {h : Nat → Nat} {K : Nat → ClassId} {res : qS} {p : Program} {e : Env} {s : State} {m : MethodId} {args : Array Value} {below : List Frame} {meth : Method} {c : Code} {A : Nat → Prop} {ad : Nat → Nat} (C : qC p s m args meth c qm_Cd_calculate_c 3 none qR_Cd ad) (S : qS) (a1 : Int32) (hf : fCd_calculate S a1 = some res) : ∀ (H : Heap) (locs : List Loc) (ls : Array Slot), qG D qCl (cT K) A s (cW h K S) H locs → lv_has ls 3 [(0, .ref (h 16)), (1, .int a1)] → W p l e ({ frames := 4, cells := 0, slots := 0, locals := 99 }) s m args below meth c H locs 0 0 (MQ below (qQv D qCl (cT K) (cW h K) A res) args s 0 0 A) (F0 m 0 ls []) := by
  intro H locs ls G hl
  unfold fCd_calculate at hf
  refine lv_iload_n C.1 C.2.1 qm_Cd_calculate_0 rfl (lv_at hl 1 rfl) ?_
  refine lv_bipush (v := 27) C.1 C.2.1 qm_Cd_calculate_1 (by decide) ?_
  refine lv_icmp_ge (tgt := 52) C.1 C.2.1 qm_Cd_calculate_3 (by decide) (fun b1 => ?_) (fun b1 => ?_)
  · have hf := if_t b1 hf
    refine lv_iload_n C.1 C.2.1 qm_Cd_calculate_52 rfl (lv_at hl 1 rfl) ?_
    refine lv_bipush (v := 34) C.1 C.2.1 qm_Cd_calculate_53 (by decide) ?_
    refine lv_icmp_ge (tgt := 88) C.1 C.2.1 qm_Cd_calculate_55 (by decide) (fun b2 => ?_) (fun b2 => ?_)
    · have hf := if_t b2 hf
      refine lv_aload_n C.1 C.2.1 qm_Cd_calculate_88 rfl (lv_at hl 0 rfl) ?_
      refine lv_aload_n C.1 C.2.1 qm_Cd_calculate_89 rfl (lv_at hl 0 rfl) ?_
      refine q_get (wf := (cW h K)) (v := .ref (h 14)) C G qi_Cd 16 rfl rfl 3 (by decide) qz_221 rfl qm_Cd_calculate_90 ?_
      refine lv_aload_n C.1 C.2.1 qm_Cd_calculate_93 rfl (lv_at hl 0 rfl) ?_
      refine lv_iload_n C.1 C.2.1 qm_Cd_calculate_94 rfl (lv_at hl 1 rfl) ?_
      refine lv_bipush (v := 7) C.1 C.2.1 qm_Cd_calculate_95 (by decide) ?_
      refine lv_isub C.1 C.2.1 qm_Cd_calculate_97 ?_
      refine lv_aload_n C.1 C.2.1 qm_Cd_calculate_98 rfl (lv_at hl 0 rfl) ?_
      refine q_get (wf := (cW h K)) (v := .ref (h 12)) C G qi_Cd 16 rfl rfl 1 (by decide) qz_219 rfl qm_Cd_calculate_99 ?_
      refine q_getN (host := "QuadMode") (wf := (cW h K)) (v := .int (S.1 14)) C G qi_Op 12 rfl rfl 3 (by decide) (by decide +kernel) rfl qm_Cd_calculate_102 ?_
      refine lv_aload_n C.1 C.2.1 qm_Cd_calculate_105 rfl (lv_at hl 0 rfl) ?_
      refine q_get (wf := (cW h K)) (v := .ref (h 13)) C G qi_Cd 16 rfl rfl 2 (by decide) qz_220 rfl qm_Cd_calculate_106 ?_
      refine q_getN (host := "QuadMode") (wf := (cW h K)) (v := .int (S.1 18)) C G qi_Op 13 rfl rfl 3 (by decide) (by decide +kernel) rfl qm_Cd_calculate_109 ?_
      obtain ⟨q3, c3, hf⟩ := bnd_s hf
      refine q_callVi (wf := (cW h K)) (n := 3) (As := [.int (a1 - 7), .int (S.1 14), .int (S.1 18)]) (q0 := 16) (ci := 0) C G hl.1 (kCd_calculated (l := l) c3) qx_Cd_207 qm_Cd_calculated_d ⟨by decide, by decide⟩ ⟨Nat.le_refl _, Nat.le_refl _⟩ rfl rfl rfl rfl rfl (Nat.le_of_ble_eq_true rfl) qm_Cd_calculate_112 (fun H locs G => ?_)
      obtain ⟨S4, c4, hf⟩ := bnd_s hf
      refine q_callVv (wf := (cW h K)) (n := 2) (As := [.ref (h 14), .int q3.1]) (q0 := 16) (ci := 0) C G hl.1 (kCd_store (l := l) c4 (by decide)) qx_Cd_111 qm_Cd_store_d ⟨by decide, by decide⟩ ⟨Nat.le_refl _, Nat.le_refl _⟩ rfl rfl rfl rfl rfl (Nat.le_of_ble_eq_true rfl) qm_Cd_calculate_115 (fun H locs G => ?_)
      exact wCd_calculate_118 C S4 hf _ _ _ G (lv_sub hl [] rfl)
    · have hf := if_f b2 hf
      refine lv_aload_n C.1 C.2.1 qm_Cd_calculate_58 rfl (lv_at hl 0 rfl) ?_
      refine lv_aload_n C.1 C.2.1 qm_Cd_calculate_59 rfl (lv_at hl 0 rfl) ?_
      refine q_get (wf := (cW h K)) (v := .ref (h 13)) C G qi_Cd 16 rfl rfl 2 (by decide) qz_220 rfl qm_Cd_calculate_60 ?_
      refine lv_aload_n C.1 C.2.1 qm_Cd_calculate_63 rfl (lv_at hl 0 rfl) ?_
      refine lv_iload_n C.1 C.2.1 qm_Cd_calculate_64 rfl (lv_at hl 1 rfl) ?_
      refine lv_aload_n C.1 C.2.1 qm_Cd_calculate_65 rfl (lv_at hl 0 rfl) ?_
      refine q_get (wf := (cW h K)) (v := .ref (h 12)) C G qi_Cd 16 rfl rfl 1 (by decide) qz_219 rfl qm_Cd_calculate_66 ?_
      refine q_getN (host := "QuadMode") (wf := (cW h K)) (v := .int (S.1 14)) C G qi_Op 12 rfl rfl 3 (by decide) (by decide +kernel) rfl qm_Cd_calculate_69 ?_
      refine lv_aload_n C.1 C.2.1 qm_Cd_calculate_72 rfl (lv_at hl 0 rfl) ?_
      refine q_get (wf := (cW h K)) (v := .ref (h 13)) C G qi_Cd 16 rfl rfl 2 (by decide) qz_220 rfl qm_Cd_calculate_73 ?_
      refine q_getN (host := "QuadMode") (wf := (cW h K)) (v := .int (S.1 18)) C G qi_Op 13 rfl rfl 3 (by decide) (by decide +kernel) rfl qm_Cd_calculate_76 ?_
      obtain ⟨q5, c5, hf⟩ := bnd_s hf
      refine q_callVi (wf := (cW h K)) (n := 3) (As := [.int a1, .int (S.1 14), .int (S.1 18)]) (q0 := 16) (ci := 0) C G hl.1 (kCd_calculated (l := l) c5) qx_Cd_207 qm_Cd_calculated_d ⟨by decide, by decide⟩ ⟨Nat.le_refl _, Nat.le_refl _⟩ rfl rfl rfl rfl rfl (Nat.le_of_ble_eq_true rfl) qm_Cd_calculate_79 (fun H locs G => ?_)
      obtain ⟨S6, c6, hf⟩ := bnd_s hf
      refine q_callVv (wf := (cW h K)) (n := 2) (As := [.ref (h 13), .int q5.1]) (q0 := 16) (ci := 0) C G hl.1 (kCd_store (l := l) c6 (by decide)) qx_Cd_111 qm_Cd_store_d ⟨by decide, by decide⟩ ⟨Nat.le_refl _, Nat.le_refl _⟩ rfl rfl rfl rfl rfl (Nat.le_of_ble_eq_true rfl) qm_Cd_calculate_82 (fun H locs G => ?_)
      refine lv_goto (tgt := 118) C.1 C.2.1 qm_Cd_calculate_85 (by decide) ?_
      exact wCd_calculate_118 C S6 hf _ _ _ G (lv_sub hl [] rfl)
  · have hf := if_f b1 hf
    refine lv_iload_n C.1 C.2.1 qm_Cd_calculate_6 rfl (lv_at hl 1 rfl) ?_
    refine lv_bipush (v := 25) C.1 C.2.1 qm_Cd_calculate_7 (by decide) ?_
    refine lv_icmp_ne (tgt := 27) C.1 C.2.1 qm_Cd_calculate_9 (by decide) (fun b7 => ?_) (fun b7 => ?_)
    · have hf := if_t b7 hf
      refine lv_aload_n C.1 C.2.1 qm_Cd_calculate_27 rfl (lv_at hl 0 rfl) ?_
      refine lv_aload_n C.1 C.2.1 qm_Cd_calculate_28 rfl (lv_at hl 0 rfl) ?_
      refine q_get (wf := (cW h K)) (v := .ref (h 12)) C G qi_Cd 16 rfl rfl 1 (by decide) qz_219 rfl qm_Cd_calculate_29 ?_
      refine q_getN (host := "QuadMode") (wf := (cW h K)) (v := .int (S.1 14)) C G qi_Op 12 rfl rfl 3 (by decide) (by decide +kernel) rfl qm_Cd_calculate_32 ?_
      refine lv_iconst (v := 1) C.1 C.2.1 qm_Cd_calculate_35 (by decide) ?_
      obtain ⟨q8, c8, hf⟩ := bnd_s hf
      refine q_callVi (wf := (cW h K)) (n := 2) (As := [.int (S.1 14), .int 1]) (q0 := 16) (ci := 0) C G hl.1 (kCd_subtract (l := l) c8) qx_Cd_204 qm_Cd_subtract_d ⟨by decide, by decide⟩ ⟨Nat.le_refl _, Nat.le_refl _⟩ rfl rfl rfl rfl rfl (Nat.le_of_ble_eq_true rfl) qm_Cd_calculate_36 (fun H locs G => ?_)
      exact wCd_calculate_39 C q8.2 q8.1 hf _ _ _ G (lv_sub hl [0] rfl)
    · have hf := if_f (not_not_intro b7) hf
      refine lv_aload_n C.1 C.2.1 qm_Cd_calculate_12 rfl (lv_at hl 0 rfl) ?_
      refine lv_aload_n C.1 C.2.1 qm_Cd_calculate_13 rfl (lv_at hl 0 rfl) ?_
      refine q_get (wf := (cW h K)) (v := .ref (h 12)) C G qi_Cd 16 rfl rfl 1 (by decide) qz_219 rfl qm_Cd_calculate_14 ?_
      refine q_getN (host := "QuadMode") (wf := (cW h K)) (v := .int (S.1 14)) C G qi_Op 12 rfl rfl 3 (by decide) (by decide +kernel) rfl qm_Cd_calculate_17 ?_
      refine lv_iconst (v := 1) C.1 C.2.1 qm_Cd_calculate_20 (by decide) ?_
      obtain ⟨q9, c9, hf⟩ := bnd_s hf
      refine q_callVi (wf := (cW h K)) (n := 2) (As := [.int (S.1 14), .int 1]) (q0 := 16) (ci := 0) C G hl.1 (kCd_add (l := l) c9) qx_Cd_201 qm_Cd_add_d ⟨by decide, by decide⟩ ⟨Nat.le_refl _, Nat.le_refl _⟩ rfl rfl rfl rfl rfl (Nat.le_of_ble_eq_true rfl) qm_Cd_calculate_21 (fun H locs G => ?_)
      refine lv_goto (tgt := 39) C.1 C.2.1 qm_Cd_calculate_24 (by decide) ?_
      exact wCd_calculate_39 C q9.2 q9.1 hf _ _ _ G (lv_sub hl [0] rfl)
theorem kCd_calculate {l : Launch} {ad : Nat → Nat} {D : va_G} {h : Nat → Nat} {K : Nat → ClassId} {res : qS} {S : qS} {a1 : Int32} (hf : fCd_calculate S a1 = some res) : qMv l qm_Cd_calculate qm_Cd_calculate_c 3 4 99 D qCl (cT K) ad (cW h K) [.ref (h 16), .int a1] S res := qMv_of (by decide) (Nat.le_of_ble_eq_true rfl) (fun _ _ _ _ _ _ _ _ _ _ C G hl => wCd_calculate C S a1 hf _ _ _ G hl)
set_option maxHeartbeats 4000000 in
set_option maxRecDepth 100000 in
theorem wCd_handAddress_67 {l : Launch} {D : va_G} {h : Nat → Nat} {K : Nat → ClassId} {res : qS} {p : Program} {e : Env} {s : State} {m : MethodId} {args : Array Value} {below : List Frame} {meth : Method} {c : Code} {A : Nat → Prop} {ad : Nat → Nat} (C : qC p s m args meth c qm_Cd_handAddress_c 3 none qR_Cd ad) (S : qS) (hf : fCd_handAddress_67 S = some res) : ∀ (H : Heap) (locs : List Loc) (ls : Array Slot), qG D qCl (cT K) A s (cW h K S) H locs → lv_has ls 3 [] → W p l e ({ frames := 4, cells := 0, slots := 0, locals := 99 }) s m args below meth c H locs 0 0 (MQ below (qQv D qCl (cT K) (cW h K) A res) args s 0 0 A) (F0 m 67 ls []) := by
  intro H locs ls G hl
  unfold fCd_handAddress_67 at hf
  exact q_vret (wf := (cW h K)) C G hf qm_Cd_handAddress_67
set_option maxHeartbeats 4000000 in
set_option maxRecDepth 100000 in
theorem wCd_handAddress_23 {l : Launch} {D : va_G} {h : Nat → Nat} {K : Nat → ClassId} {res : qS} {p : Program} {e : Env} {s : State} {m : MethodId} {args : Array Value} {below : List Frame} {meth : Method} {c : Code} {A : Nat → Prop} {ad : Nat → Nat} (C : qC p s m args meth c qm_Cd_handAddress_c 3 none qR_Cd ad) (S : qS) (x1 : Int32) (y0 : Int32) (hf : fCd_handAddress_23 S x1 y0 = some res) : ∀ (H : Heap) (locs : List Loc) (ls : Array Slot), qG D qCl (cT K) A s (cW h K S) H locs → lv_has ls 3 [(0, .ref (h 16)), (1, .int x1)] → W p l e ({ frames := 4, cells := 0, slots := 0, locals := 99 }) s m args below meth c H locs 0 0 (MQ below (qQv D qCl (cT K) (cW h K) A res) args s 0 0 A) (F0 m 23 ls [.int y0]) := by
  intro H locs ls G hl
  unfold fCd_handAddress_23 at hf
  refine lv_istore_n (lv' := [(2, .int y0), (0, .ref (h 16)), (1, .int x1)]) C.1 C.2.1 qm_Cd_handAddress_23 rfl hl (by decide) rfl (fun ls hl => ?_)
  refine lv_aload_n C.1 C.2.1 qm_Cd_handAddress_24 rfl (lv_at hl 1 rfl) ?_
  refine q_get (wf := (cW h K)) (v := .ref (h 5)) C G qi_Cd 16 rfl rfl 0 (by decide) qz_218 rfl qm_Cd_handAddress_25 ?_
  refine lv_iload_n C.1 C.2.1 qm_Cd_handAddress_28 rfl (lv_at hl 0 rfl) ?_
  refine lv_iconst (v := 0) C.1 C.2.1 qm_Cd_handAddress_29 (by decide) ?_
  refine lv_aload_n C.1 C.2.1 qm_Cd_handAddress_30 rfl (lv_at hl 1 rfl) ?_
  refine q_get (wf := (cW h K)) (v := .ref (h 5)) C G qi_Cd 16 rfl rfl 0 (by decide) qz_218 rfl qm_Cd_handAddress_31 ?_
  refine lv_iconst (v := 1) C.1 C.2.1 qm_Cd_handAddress_34 (by decide) ?_
  obtain ⟨q1, c1, hf⟩ := bnd_s hf
  refine q_callVi (wf := (cW h K)) (n := 1) (As := [.int 1]) (q0 := 5) (ci := 1) C G hl.1 (kCo_has (l := l) c1) qx_Cd_152 qm_Co_has_d ⟨by decide, by decide⟩ ⟨Nat.le_refl _, Nat.le_refl _⟩ rfl rfl rfl rfl rfl (Nat.le_of_ble_eq_true rfl) qm_Cd_handAddress_35 (fun H locs G => ?_)
  obtain ⟨S2, c2, hf⟩ := bnd_s hf
  refine q_callVv (wf := (cW h K)) (n := 3) (As := [.int y0, .int 0, .int q1.1]) (q0 := 5) (ci := 1) C G hl.1 (kCo_conclude (l := l) c2) qx_Cd_183 qm_Co_conclude_d ⟨by decide, by decide⟩ ⟨Nat.le_refl _, Nat.le_refl _⟩ rfl rfl rfl rfl rfl (Nat.le_of_ble_eq_true rfl) qm_Cd_handAddress_38 (fun H locs G => ?_)
  refine lv_iload_n C.1 C.2.1 qm_Cd_handAddress_41 rfl (lv_at hl 2 rfl) ?_
  refine lv_bipush (v := 44) C.1 C.2.1 qm_Cd_handAddress_42 (by decide) ?_
  refine lv_icmp_ge (tgt := 59) C.1 C.2.1 qm_Cd_handAddress_44 (by decide) (fun b3 => ?_) (fun b3 => ?_)
  · have hf := if_t b3 hf
    refine lv_aload_n C.1 C.2.1 qm_Cd_handAddress_59 rfl (lv_at hl 1 rfl) ?_
    refine q_get (wf := (cW h K)) (v := .ref (h 5)) C G qi_Cd 16 rfl rfl 0 (by decide) qz_218 rfl qm_Cd_handAddress_60 ?_
    refine lv_iload_n C.1 C.2.1 qm_Cd_handAddress_63 rfl (lv_at hl 0 rfl) ?_
    obtain ⟨S4, c4, hf⟩ := bnd_s hf
    refine q_callVv (wf := (cW h K)) (n := 1) (As := [.int y0]) (q0 := 5) (ci := 1) C G hl.1 (kCo_push (l := l) c4) qx_Cd_227 qm_Co_push_d ⟨by decide, by decide⟩ ⟨Nat.le_refl _, Nat.le_refl _⟩ rfl rfl rfl rfl rfl (Nat.le_of_ble_eq_true rfl) qm_Cd_handAddress_64 (fun H locs G => ?_)
    exact wCd_handAddress_67 C S4 hf _ _ _ G (lv_sub hl [] rfl)
  · have hf := if_f b3 hf
    refine lv_aload_n C.1 C.2.1 qm_Cd_handAddress_47 rfl (lv_at hl 1 rfl) ?_
    refine lv_aload_n C.1 C.2.1 qm_Cd_handAddress_48 rfl (lv_at hl 1 rfl) ?_
    refine q_get (wf := (cW h K)) (v := .ref (h 13)) C G qi_Cd 16 rfl rfl 2 (by decide) qz_220 rfl qm_Cd_handAddress_49 ?_
    refine lv_iload_n C.1 C.2.1 qm_Cd_handAddress_52 rfl (lv_at hl 0 rfl) ?_
    obtain ⟨S5, c5, hf⟩ := bnd_s hf
    refine q_callVv (wf := (cW h K)) (n := 2) (As := [.ref (h 13), .int y0]) (q0 := 16) (ci := 0) C G hl.1 (kCd_store (l := l) c5 (by decide)) qx_Cd_111 qm_Cd_store_d ⟨by decide, by decide⟩ ⟨Nat.le_refl _, Nat.le_refl _⟩ rfl rfl rfl rfl rfl (Nat.le_of_ble_eq_true rfl) qm_Cd_handAddress_53 (fun H locs G => ?_)
    refine lv_goto (tgt := 67) C.1 C.2.1 qm_Cd_handAddress_56 (by decide) ?_
    exact wCd_handAddress_67 C S5 hf _ _ _ G (lv_sub hl [] rfl)
set_option maxHeartbeats 4000000 in
set_option maxRecDepth 100000 in
theorem wCd_handAddress {l : Launch} {D : va_G} {h : Nat → Nat} {K : Nat → ClassId} {res : qS} {p : Program} {e : Env} {s : State} {m : MethodId} {args : Array Value} {below : List Frame} {meth : Method} {c : Code} {A : Nat → Prop} {ad : Nat → Nat} (C : qC p s m args meth c qm_Cd_handAddress_c 3 none qR_Cd ad) (S : qS) (a1 : Int32) (hf : fCd_handAddress S a1 = some res) : ∀ (H : Heap) (locs : List Loc) (ls : Array Slot), qG D qCl (cT K) A s (cW h K S) H locs → lv_has ls 3 [(0, .ref (h 16)), (1, .int a1)] → W p l e ({ frames := 4, cells := 0, slots := 0, locals := 99 }) s m args below meth c H locs 0 0 (MQ below (qQv D qCl (cT K) (cW h K) A res) args s 0 0 A) (F0 m 0 ls []) := by
  intro H locs ls G hl
  unfold fCd_handAddress at hf
  refine lv_iload_n C.1 C.2.1 qm_Cd_handAddress_0 rfl (lv_at hl 1 rfl) ?_
  refine lv_bipush (v := 44) C.1 C.2.1 qm_Cd_handAddress_1 (by decide) ?_
  refine lv_icmp_ne (tgt := 16) C.1 C.2.1 qm_Cd_handAddress_3 (by decide) (fun b1 => ?_) (fun b1 => ?_)
  · have hf := if_t b1 hf
    refine lv_aload_n C.1 C.2.1 qm_Cd_handAddress_16 rfl (lv_at hl 0 rfl) ?_
    refine q_get (wf := (cW h K)) (v := .ref (h 12)) C G qi_Cd 16 rfl rfl 1 (by decide) qz_219 rfl qm_Cd_handAddress_17 ?_
    refine q_getN (host := "QuadMode") (wf := (cW h K)) (v := .int (S.1 13)) C G qi_Op 12 rfl rfl 2 (by decide) (by decide +kernel) rfl qm_Cd_handAddress_20 ?_
    exact wCd_handAddress_23 C S a1 (S.1 13) hf _ _ _ G (lv_sub hl [0, 1] rfl)
  · have hf := if_f (not_not_intro b1) hf
    refine lv_aload_n C.1 C.2.1 qm_Cd_handAddress_6 rfl (lv_at hl 0 rfl) ?_
    refine q_get (wf := (cW h K)) (v := .ref (h 12)) C G qi_Cd 16 rfl rfl 1 (by decide) qz_219 rfl qm_Cd_handAddress_7 ?_
    refine q_getN (host := "QuadMode") (wf := (cW h K)) (v := .int (S.1 14)) C G qi_Op 12 rfl rfl 3 (by decide) (by decide +kernel) rfl qm_Cd_handAddress_10 ?_
    refine lv_goto (tgt := 23) C.1 C.2.1 qm_Cd_handAddress_13 (by decide) ?_
    exact wCd_handAddress_23 C S a1 (S.1 14) hf _ _ _ G (lv_sub hl [0, 1] rfl)
theorem kCd_handAddress {l : Launch} {ad : Nat → Nat} {D : va_G} {h : Nat → Nat} {K : Nat → ClassId} {res : qS} {S : qS} {a1 : Int32} (hf : fCd_handAddress S a1 = some res) : qMv l qm_Cd_handAddress qm_Cd_handAddress_c 3 4 99 D qCl (cT K) ad (cW h K) [.ref (h 16), .int a1] S res := qMv_of (by decide) (Nat.le_of_ble_eq_true rfl) (fun _ _ _ _ _ _ _ _ _ _ C G hl => wCd_handAddress C S a1 hf _ _ _ G hl)
set_option maxHeartbeats 4000000 in
set_option maxRecDepth 100000 in
theorem wCd_go_61 {l : Launch} {D : va_G} {h : Nat → Nat} {K : Nat → ClassId} {res : qS} {p : Program} {e : Env} {s : State} {m : MethodId} {args : Array Value} {below : List Frame} {meth : Method} {c : Code} {A : Nat → Prop} {ad : Nat → Nat} (C : qC p s m args meth c qm_Cd_go_c 3 none qR_Cd ad) (S : qS) (y1 : Int32) (y2 : Int32) (hf : fCd_go_61 S y1 y2 = some res) : ∀ (H : Heap) (locs : List Loc) (ls : Array Slot), qG D qCl (cT K) A s (cW h K S) H locs → lv_has ls 3 [] → W p l e ({ frames := 4, cells := 0, slots := 0, locals := 98 }) s m args below meth c H locs 0 0 (MQ below (qQv D qCl (cT K) (cW h K) A res) args s 0 0 A) (F0 m 61 ls [.int y2, .int y1, .ref (h 5)]) := by
  intro H locs ls G hl
  unfold fCd_go_61 at hf
  obtain ⟨S1, c1, hf⟩ := bnd_s hf
  refine q_callVv (wf := (cW h K)) (n := 2) (As := [.int y1, .int y2]) (q0 := 5) (ci := 1) C G hl.1 (kCo_put (l := l) c1) qx_Cd_92 qm_Co_put_d ⟨by decide, by decide⟩ ⟨Nat.le_refl _, Nat.le_refl _⟩ rfl rfl rfl rfl rfl (Nat.le_of_ble_eq_true rfl) qm_Cd_go_61 (fun H locs G => ?_)
  exact q_vret (wf := (cW h K)) C G hf qm_Cd_go_64
set_option maxHeartbeats 4000000 in
set_option maxRecDepth 100000 in
theorem wCd_go_30 {l : Launch} {D : va_G} {h : Nat → Nat} {K : Nat → ClassId} {res : qS} {p : Program} {e : Env} {s : State} {m : MethodId} {args : Array Value} {below : List Frame} {meth : Method} {c : Code} {A : Nat → Prop} {ad : Nat → Nat} (C : qC p s m args meth c qm_Cd_go_c 3 none qR_Cd ad) (S : qS) (x1 : Int32) (x2 : Int32) (hf : fCd_go_30 S x1 x2 = some res) : ∀ (H : Heap) (locs : List Loc) (ls : Array Slot), qG D qCl (cT K) A s (cW h K S) H locs → lv_has ls 3 [(0, .ref (h 16)), (1, .int x1), (2, .int x2)] → W p l e ({ frames := 4, cells := 0, slots := 0, locals := 98 }) s m args below meth c H locs 0 0 (MQ below (qQv D qCl (cT K) (cW h K) A res) args s 0 0 A) (F0 m 30 ls []) := by
  intro H locs ls G hl
  unfold fCd_go_30 at hf
  refine lv_aload_n C.1 C.2.1 qm_Cd_go_30 rfl (lv_at hl 0 rfl) ?_
  refine q_get (wf := (cW h K)) (v := .ref (h 5)) C G qi_Cd 16 rfl rfl 0 (by decide) qz_218 rfl qm_Cd_go_31 ?_
  refine lv_bipush (v := 15) C.1 C.2.1 qm_Cd_go_34 (by decide) ?_
  refine lv_iload_n C.1 C.2.1 qm_Cd_go_36 rfl (lv_at hl 1 rfl) ?_
  refine lv_bipush (v := 48) C.1 C.2.1 qm_Cd_go_37 (by decide) ?_
  refine lv_icmp_ge (tgt := 52) C.1 C.2.1 qm_Cd_go_39 (by decide) (fun b1 => ?_) (fun b1 => ?_)
  · have hf := if_t b1 hf
    refine lv_iload_n C.1 C.2.1 qm_Cd_go_52 rfl (lv_at hl 2 rfl) ?_
    refine lv_aload_n C.1 C.2.1 qm_Cd_go_53 rfl (lv_at hl 0 rfl) ?_
    refine q_get (wf := (cW h K)) (v := .ref (h 12)) C G qi_Cd 16 rfl rfl 1 (by decide) qz_219 rfl qm_Cd_go_54 ?_
    refine q_getN (host := "QuadMode") (wf := (cW h K)) (v := .int (S.1 14)) C G qi_Op 12 rfl rfl 3 (by decide) (by decide +kernel) rfl qm_Cd_go_57 ?_
    refine lv_iadd C.1 C.2.1 qm_Cd_go_60 ?_
    exact wCd_go_61 C S 15 (x2 + (S.1 14)) hf _ _ _ G (lv_sub hl [] rfl)
  · have hf := if_f b1 hf
    refine lv_aload_n C.1 C.2.1 qm_Cd_go_42 rfl (lv_at hl 0 rfl) ?_
    refine q_get (wf := (cW h K)) (v := .ref (h 12)) C G qi_Cd 16 rfl rfl 1 (by decide) qz_219 rfl qm_Cd_go_43 ?_
    refine q_getN (host := "QuadMode") (wf := (cW h K)) (v := .int (S.1 13)) C G qi_Op 12 rfl rfl 2 (by decide) (by decide +kernel) rfl qm_Cd_go_46 ?_
    refine lv_goto (tgt := 61) C.1 C.2.1 qm_Cd_go_49 (by decide) ?_
    exact wCd_go_61 C S 15 (S.1 13) hf _ _ _ G (lv_sub hl [] rfl)
set_option maxHeartbeats 4000000 in
set_option maxRecDepth 100000 in
theorem wCd_go_22 {l : Launch} {D : va_G} {h : Nat → Nat} {K : Nat → ClassId} {res : qS} {p : Program} {e : Env} {s : State} {m : MethodId} {args : Array Value} {below : List Frame} {meth : Method} {c : Code} {A : Nat → Prop} {ad : Nat → Nat} (C : qC p s m args meth c qm_Cd_go_c 3 none qR_Cd ad) (S : qS) (x1 : Int32) (x2 : Int32) (hf : fCd_go_22 S x1 x2 = some res) : ∀ (H : Heap) (locs : List Loc) (ls : Array Slot), qG D qCl (cT K) A s (cW h K S) H locs → lv_has ls 3 [(0, .ref (h 16)), (1, .int x1), (2, .int x2)] → W p l e ({ frames := 4, cells := 0, slots := 0, locals := 98 }) s m args below meth c H locs 0 0 (MQ below (qQv D qCl (cT K) (cW h K) A res) args s 0 0 A) (F0 m 22 ls []) := by
  intro H locs ls G hl
  unfold fCd_go_22 at hf
  refine lv_aload_n C.1 C.2.1 qm_Cd_go_22 rfl (lv_at hl 0 rfl) ?_
  refine q_get (wf := (cW h K)) (v := .ref (h 5)) C G qi_Cd 16 rfl rfl 0 (by decide) qz_218 rfl qm_Cd_go_23 ?_
  refine lv_iload_n C.1 C.2.1 qm_Cd_go_26 rfl (lv_at hl 2 rfl) ?_
  obtain ⟨S1, c1, hf⟩ := bnd_s hf
  refine q_callVv (wf := (cW h K)) (n := 1) (As := [.int x2]) (q0 := 5) (ci := 1) C G hl.1 (kCo_push (l := l) c1) qx_Cd_227 qm_Co_push_d ⟨by decide, by decide⟩ ⟨Nat.le_refl _, Nat.le_refl _⟩ rfl rfl rfl rfl rfl (Nat.le_of_ble_eq_true rfl) qm_Cd_go_27 (fun H locs G => ?_)
  exact wCd_go_30 C S1 x1 x2 hf _ _ _ G (lv_sub hl [0, 1, 2] rfl)
set_option maxHeartbeats 4000000 in
set_option maxRecDepth 100000 in
theorem wCd_go {l : Launch} {D : va_G} {h : Nat → Nat} {K : Nat → ClassId} {res : qS} {p : Program} {e : Env} {s : State} {m : MethodId} {args : Array Value} {below : List Frame} {meth : Method} {c : Code} {A : Nat → Prop} {ad : Nat → Nat} (C : qC p s m args meth c qm_Cd_go_c 3 none qR_Cd ad) (S : qS) (a1 : Int32) (hf : fCd_go S a1 = some res) : ∀ (H : Heap) (locs : List Loc) (ls : Array Slot), qG D qCl (cT K) A s (cW h K S) H locs → lv_has ls 3 [(0, .ref (h 16)), (1, .int a1)] → W p l e ({ frames := 4, cells := 0, slots := 0, locals := 98 }) s m args below meth c H locs 0 0 (MQ below (qQv D qCl (cT K) (cW h K) A res) args s 0 0 A) (F0 m 0 ls []) := by
  intro H locs ls G hl
  unfold fCd_go at hf
  refine lv_aload_n C.1 C.2.1 qm_Cd_go_0 rfl (lv_at hl 0 rfl) ?_
  refine q_get (wf := (cW h K)) (v := .ref (h 5)) C G qi_Cd 16 rfl rfl 0 (by decide) qz_218 rfl qm_Cd_go_1 ?_
  refine lv_bipush (v := 15) C.1 C.2.1 qm_Cd_go_4 (by decide) ?_
  obtain ⟨q1, c1, hf⟩ := bnd_s hf
  refine q_callVi (wf := (cW h K)) (n := 1) (As := [.int 15]) (q0 := 5) (ci := 1) C G hl.1 (kCo_get (l := l) c1) qx_Cd_169 qm_Co_get_d ⟨by decide, by decide⟩ ⟨Nat.le_refl _, Nat.le_refl _⟩ rfl rfl rfl rfl rfl (Nat.le_of_ble_eq_true rfl) qm_Cd_go_6 (fun H locs G => ?_)
  refine lv_istore_n (lv' := [(2, .int q1.1), (0, .ref (h 16)), (1, .int a1)]) C.1 C.2.1 qm_Cd_go_9 rfl hl (by decide) rfl (fun ls hl => ?_)
  refine lv_iload_n C.1 C.2.1 qm_Cd_go_10 rfl (lv_at hl 2 rfl) ?_
  refine lv_bipush (v := 47) C.1 C.2.1 qm_Cd_go_11 (by decide) ?_
  refine lv_icmp_eq (tgt := 22) C.1 C.2.1 qm_Cd_go_13 (by decide) (fun b2 => ?_) (fun b2 => ?_)
  · have hf := if_t b2 hf
    exact wCd_go_22 C q1.2 a1 q1.1 hf _ _ _ G (lv_sub hl [1, 2, 0] rfl)
  · have hf := if_f b2 hf
    refine lv_iload_n C.1 C.2.1 qm_Cd_go_16 rfl (lv_at hl 2 rfl) ?_
    refine lv_bipush (v := 49) C.1 C.2.1 qm_Cd_go_17 (by decide) ?_
    refine lv_icmp_ne (tgt := 30) C.1 C.2.1 qm_Cd_go_19 (by decide) (fun b3 => ?_) (fun b3 => ?_)
    · have hf := if_t b3 hf
      exact wCd_go_30 C q1.2 a1 q1.1 hf _ _ _ G (lv_sub hl [1, 2, 0] rfl)
    · have hf := if_f (not_not_intro b3) hf
      exact wCd_go_22 C q1.2 a1 q1.1 hf _ _ _ G (lv_sub hl [1, 2, 0] rfl)
theorem kCd_go {l : Launch} {ad : Nat → Nat} {D : va_G} {h : Nat → Nat} {K : Nat → ClassId} {res : qS} {S : qS} {a1 : Int32} (hf : fCd_go S a1 = some res) : qMv l qm_Cd_go qm_Cd_go_c 3 4 98 D qCl (cT K) ad (cW h K) [.ref (h 16), .int a1] S res := qMv_of (by decide) (Nat.le_of_ble_eq_true rfl) (fun _ _ _ _ _ _ _ _ _ _ C G hl => wCd_go C S a1 hf _ _ _ G hl)
set_option maxHeartbeats 4000000 in
set_option maxRecDepth 100000 in
theorem wCd_holds_83 {l : Launch} {D : va_G} {h : Nat → Nat} {K : Nat → ClassId} {res : Int32 × qS} {p : Program} {e : Env} {s : State} {m : MethodId} {args : Array Value} {below : List Frame} {meth : Method} {c : Code} {A : Nat → Prop} {ad : Nat → Nat} (C : qC p s m args meth c qm_Cd_holds_c 2 (some .boolean) qR_Cd ad) (S : qS) (y0 : Int32) (hf : fCd_holds_83 S y0 = some res) : ∀ (H : Heap) (locs : List Loc) (ls : Array Slot), qG D qCl (cT K) A s (cW h K S) H locs → lv_has ls 2 [] → W p l e ({ frames := 1, cells := 0, slots := 0, locals := 21 }) s m args below meth c H locs 0 0 (MQ below (qQi D qCl (cT K) (cW h K) A res) args s 0 0 A) (F0 m 83 ls [.int y0]) := by
  intro H locs ls G hl
  unfold fCd_holds_83 at hf
  exact q_zret (wf := (cW h K)) C G hf qm_Cd_holds_83
set_option maxHeartbeats 4000000 in
set_option maxRecDepth 100000 in
theorem wCd_holds_75 {l : Launch} {D : va_G} {h : Nat → Nat} {K : Nat → ClassId} {res : Int32 × qS} {p : Program} {e : Env} {s : State} {m : MethodId} {args : Array Value} {below : List Frame} {meth : Method} {c : Code} {A : Nat → Prop} {ad : Nat → Nat} (C : qC p s m args meth c qm_Cd_holds_c 2 (some .boolean) qR_Cd ad) (S : qS) (y0 : Int32) (y1 : Int32) (hf : fCd_holds_75 S y0 y1 = some res) : ∀ (H : Heap) (locs : List Loc) (ls : Array Slot), qG D qCl (cT K) A s (cW h K S) H locs → lv_has ls 2 [] → W p l e ({ frames := 1, cells := 0, slots := 0, locals := 21 }) s m args below meth c H locs 0 0 (MQ below (qQi D qCl (cT K) (cW h K) A res) args s 0 0 A) (F0 m 75 ls [.int y1, .int y0]) := by
  intro H locs ls G hl
  unfold fCd_holds_75 at hf
  refine lv_icmp_ne (tgt := 82) C.1 C.2.1 qm_Cd_holds_75 (by decide) (fun b1 => ?_) (fun b1 => ?_)
  · have hf := if_t b1 hf
    refine lv_iconst (v := 0) C.1 C.2.1 qm_Cd_holds_82 (by decide) ?_
    exact wCd_holds_83 C S 0 hf _ _ _ G (lv_sub hl [] rfl)
  · have hf := if_f (not_not_intro b1) hf
    refine lv_iconst (v := 1) C.1 C.2.1 qm_Cd_holds_78 (by decide) ?_
    refine lv_goto (tgt := 83) C.1 C.2.1 qm_Cd_holds_79 (by decide) ?_
    exact wCd_holds_83 C S 1 hf _ _ _ G (lv_sub hl [] rfl)
set_option maxHeartbeats 4000000 in
set_option maxRecDepth 100000 in
theorem wCd_holds_56 {l : Launch} {D : va_G} {h : Nat → Nat} {K : Nat → ClassId} {res : Int32 × qS} {p : Program} {e : Env} {s : State} {m : MethodId} {args : Array Value} {below : List Frame} {meth : Method} {c : Code} {A : Nat → Prop} {ad : Nat → Nat} (C : qC p s m args meth c qm_Cd_holds_c 2 (some .boolean) qR_Cd ad) (S : qS) (x1 : Int32) (hf : fCd_holds_56 S x1 = some res) : ∀ (H : Heap) (locs : List Loc) (ls : Array Slot), qG D qCl (cT K) A s (cW h K S) H locs → lv_has ls 2 [(0, .ref (h 16)), (1, .int x1)] → W p l e ({ frames := 1, cells := 0, slots := 0, locals := 21 }) s m args below meth c H locs 0 0 (MQ below (qQi D qCl (cT K) (cW h K) A res) args s 0 0 A) (F0 m 56 ls []) := by
  intro H locs ls G hl
  unfold fCd_holds_56 at hf
  refine lv_aload_n C.1 C.2.1 qm_Cd_holds_56 rfl (lv_at hl 0 rfl) ?_
  refine q_get (wf := (cW h K)) (v := .ref (h 5)) C G qi_Cd 16 rfl rfl 0 (by decide) qz_218 rfl qm_Cd_holds_57 ?_
  refine lv_iconst (v := 4) C.1 C.2.1 qm_Cd_holds_60 (by decide) ?_
  obtain ⟨q1, c1, hf⟩ := bnd_s hf
  refine q_callVi (wf := (cW h K)) (n := 1) (As := [.int 4]) (q0 := 5) (ci := 1) C G hl.1 (kCo_has (l := l) c1) qx_Cd_152 qm_Co_has_d ⟨by decide, by decide⟩ ⟨Nat.le_refl _, Nat.le_refl _⟩ rfl rfl rfl rfl rfl (Nat.le_of_ble_eq_true rfl) qm_Cd_holds_61 (fun H locs G => ?_)
  refine lv_iload_n C.1 C.2.1 qm_Cd_holds_64 rfl (lv_at hl 1 rfl) ?_
  refine lv_bipush (v := 51) C.1 C.2.1 qm_Cd_holds_65 (by decide) ?_
  refine lv_icmp_ne (tgt := 74) C.1 C.2.1 qm_Cd_holds_67 (by decide) (fun b2 => ?_) (fun b2 => ?_)
  · have hf := if_t b2 hf
    refine lv_iconst (v := 0) C.1 C.2.1 qm_Cd_holds_74 (by decide) ?_
    exact wCd_holds_75 C q1.2 q1.1 0 hf _ _ _ G (lv_sub hl [] rfl)
  · have hf := if_f (not_not_intro b2) hf
    refine lv_iconst (v := 1) C.1 C.2.1 qm_Cd_holds_70 (by decide) ?_
    refine lv_goto (tgt := 75) C.1 C.2.1 qm_Cd_holds_71 (by decide) ?_
    exact wCd_holds_75 C q1.2 q1.1 1 hf _ _ _ G (lv_sub hl [] rfl)
set_option maxHeartbeats 4000000 in
set_option maxRecDepth 100000 in
theorem wCd_holds_112 {l : Launch} {D : va_G} {h : Nat → Nat} {K : Nat → ClassId} {res : Int32 × qS} {p : Program} {e : Env} {s : State} {m : MethodId} {args : Array Value} {below : List Frame} {meth : Method} {c : Code} {A : Nat → Prop} {ad : Nat → Nat} (C : qC p s m args meth c qm_Cd_holds_c 2 (some .boolean) qR_Cd ad) (S : qS) (y0 : Int32) (hf : fCd_holds_112 S y0 = some res) : ∀ (H : Heap) (locs : List Loc) (ls : Array Slot), qG D qCl (cT K) A s (cW h K S) H locs → lv_has ls 2 [] → W p l e ({ frames := 1, cells := 0, slots := 0, locals := 21 }) s m args below meth c H locs 0 0 (MQ below (qQi D qCl (cT K) (cW h K) A res) args s 0 0 A) (F0 m 112 ls [.int y0]) := by
  intro H locs ls G hl
  unfold fCd_holds_112 at hf
  exact q_zret (wf := (cW h K)) C G hf qm_Cd_holds_112
set_option maxHeartbeats 4000000 in
set_option maxRecDepth 100000 in
theorem wCd_holds_104 {l : Launch} {D : va_G} {h : Nat → Nat} {K : Nat → ClassId} {res : Int32 × qS} {p : Program} {e : Env} {s : State} {m : MethodId} {args : Array Value} {below : List Frame} {meth : Method} {c : Code} {A : Nat → Prop} {ad : Nat → Nat} (C : qC p s m args meth c qm_Cd_holds_c 2 (some .boolean) qR_Cd ad) (S : qS) (y0 : Int32) (y1 : Int32) (hf : fCd_holds_104 S y0 y1 = some res) : ∀ (H : Heap) (locs : List Loc) (ls : Array Slot), qG D qCl (cT K) A s (cW h K S) H locs → lv_has ls 2 [] → W p l e ({ frames := 1, cells := 0, slots := 0, locals := 21 }) s m args below meth c H locs 0 0 (MQ below (qQi D qCl (cT K) (cW h K) A res) args s 0 0 A) (F0 m 104 ls [.int y1, .int y0]) := by
  intro H locs ls G hl
  unfold fCd_holds_104 at hf
  refine lv_icmp_ne (tgt := 111) C.1 C.2.1 qm_Cd_holds_104 (by decide) (fun b1 => ?_) (fun b1 => ?_)
  · have hf := if_t b1 hf
    refine lv_iconst (v := 0) C.1 C.2.1 qm_Cd_holds_111 (by decide) ?_
    exact wCd_holds_112 C S 0 hf _ _ _ G (lv_sub hl [] rfl)
  · have hf := if_f (not_not_intro b1) hf
    refine lv_iconst (v := 1) C.1 C.2.1 qm_Cd_holds_107 (by decide) ?_
    refine lv_goto (tgt := 112) C.1 C.2.1 qm_Cd_holds_108 (by decide) ?_
    exact wCd_holds_112 C S 1 hf _ _ _ G (lv_sub hl [] rfl)
set_option maxHeartbeats 4000000 in
set_option maxRecDepth 100000 in
theorem wCd_holds_84 {l : Launch} {D : va_G} {h : Nat → Nat} {K : Nat → ClassId} {res : Int32 × qS} {p : Program} {e : Env} {s : State} {m : MethodId} {args : Array Value} {below : List Frame} {meth : Method} {c : Code} {A : Nat → Prop} {ad : Nat → Nat} (C : qC p s m args meth c qm_Cd_holds_c 2 (some .boolean) qR_Cd ad) (S : qS) (x1 : Int32) (hf : fCd_holds_84 S x1 = some res) : ∀ (H : Heap) (locs : List Loc) (ls : Array Slot), qG D qCl (cT K) A s (cW h K S) H locs → lv_has ls 2 [(0, .ref (h 16)), (1, .int x1)] → W p l e ({ frames := 1, cells := 0, slots := 0, locals := 21 }) s m args below meth c H locs 0 0 (MQ below (qQi D qCl (cT K) (cW h K) A res) args s 0 0 A) (F0 m 84 ls []) := by
  intro H locs ls G hl
  unfold fCd_holds_84 at hf
  refine lv_aload_n C.1 C.2.1 qm_Cd_holds_84 rfl (lv_at hl 0 rfl) ?_
  refine q_get (wf := (cW h K)) (v := .ref (h 5)) C G qi_Cd 16 rfl rfl 0 (by decide) qz_218 rfl qm_Cd_holds_85 ?_
  refine lv_bipush (v := 12) C.1 C.2.1 qm_Cd_holds_88 (by decide) ?_
  obtain ⟨q1, c1, hf⟩ := bnd_s hf
  refine q_callVi (wf := (cW h K)) (n := 1) (As := [.int 12]) (q0 := 5) (ci := 1) C G hl.1 (kCo_has (l := l) c1) qx_Cd_152 qm_Co_has_d ⟨by decide, by decide⟩ ⟨Nat.le_refl _, Nat.le_refl _⟩ rfl rfl rfl rfl rfl (Nat.le_of_ble_eq_true rfl) qm_Cd_holds_90 (fun H locs G => ?_)
  refine lv_iload_n C.1 C.2.1 qm_Cd_holds_93 rfl (lv_at hl 1 rfl) ?_
  refine lv_bipush (v := 53) C.1 C.2.1 qm_Cd_holds_94 (by decide) ?_
  refine lv_icmp_ne (tgt := 103) C.1 C.2.1 qm_Cd_holds_96 (by decide) (fun b2 => ?_) (fun b2 => ?_)
  · have hf := if_t b2 hf
    refine lv_iconst (v := 0) C.1 C.2.1 qm_Cd_holds_103 (by decide) ?_
    exact wCd_holds_104 C q1.2 q1.1 0 hf _ _ _ G (lv_sub hl [] rfl)
  · have hf := if_f (not_not_intro b2) hf
    refine lv_iconst (v := 1) C.1 C.2.1 qm_Cd_holds_99 (by decide) ?_
    refine lv_goto (tgt := 104) C.1 C.2.1 qm_Cd_holds_100 (by decide) ?_
    exact wCd_holds_104 C q1.2 q1.1 1 hf _ _ _ G (lv_sub hl [] rfl)
set_option maxHeartbeats 4000000 in
set_option maxRecDepth 100000 in
theorem wCd_holds_141 {l : Launch} {D : va_G} {h : Nat → Nat} {K : Nat → ClassId} {res : Int32 × qS} {p : Program} {e : Env} {s : State} {m : MethodId} {args : Array Value} {below : List Frame} {meth : Method} {c : Code} {A : Nat → Prop} {ad : Nat → Nat} (C : qC p s m args meth c qm_Cd_holds_c 2 (some .boolean) qR_Cd ad) (S : qS) (y0 : Int32) (hf : fCd_holds_141 S y0 = some res) : ∀ (H : Heap) (locs : List Loc) (ls : Array Slot), qG D qCl (cT K) A s (cW h K S) H locs → lv_has ls 2 [] → W p l e ({ frames := 1, cells := 0, slots := 0, locals := 21 }) s m args below meth c H locs 0 0 (MQ below (qQi D qCl (cT K) (cW h K) A res) args s 0 0 A) (F0 m 141 ls [.int y0]) := by
  intro H locs ls G hl
  unfold fCd_holds_141 at hf
  exact q_zret (wf := (cW h K)) C G hf qm_Cd_holds_141
set_option maxHeartbeats 4000000 in
set_option maxRecDepth 100000 in
theorem wCd_holds_133 {l : Launch} {D : va_G} {h : Nat → Nat} {K : Nat → ClassId} {res : Int32 × qS} {p : Program} {e : Env} {s : State} {m : MethodId} {args : Array Value} {below : List Frame} {meth : Method} {c : Code} {A : Nat → Prop} {ad : Nat → Nat} (C : qC p s m args meth c qm_Cd_holds_c 2 (some .boolean) qR_Cd ad) (S : qS) (y0 : Int32) (y1 : Int32) (hf : fCd_holds_133 S y0 y1 = some res) : ∀ (H : Heap) (locs : List Loc) (ls : Array Slot), qG D qCl (cT K) A s (cW h K S) H locs → lv_has ls 2 [] → W p l e ({ frames := 1, cells := 0, slots := 0, locals := 21 }) s m args below meth c H locs 0 0 (MQ below (qQi D qCl (cT K) (cW h K) A res) args s 0 0 A) (F0 m 133 ls [.int y1, .int y0]) := by
  intro H locs ls G hl
  unfold fCd_holds_133 at hf
  refine lv_icmp_ne (tgt := 140) C.1 C.2.1 qm_Cd_holds_133 (by decide) (fun b1 => ?_) (fun b1 => ?_)
  · have hf := if_t b1 hf
    refine lv_iconst (v := 0) C.1 C.2.1 qm_Cd_holds_140 (by decide) ?_
    exact wCd_holds_141 C S 0 hf _ _ _ G (lv_sub hl [] rfl)
  · have hf := if_f (not_not_intro b1) hf
    refine lv_iconst (v := 1) C.1 C.2.1 qm_Cd_holds_136 (by decide) ?_
    refine lv_goto (tgt := 141) C.1 C.2.1 qm_Cd_holds_137 (by decide) ?_
    exact wCd_holds_141 C S 1 hf _ _ _ G (lv_sub hl [] rfl)
set_option maxHeartbeats 4000000 in
set_option maxRecDepth 100000 in
theorem wCd_holds_113 {l : Launch} {D : va_G} {h : Nat → Nat} {K : Nat → ClassId} {res : Int32 × qS} {p : Program} {e : Env} {s : State} {m : MethodId} {args : Array Value} {below : List Frame} {meth : Method} {c : Code} {A : Nat → Prop} {ad : Nat → Nat} (C : qC p s m args meth c qm_Cd_holds_c 2 (some .boolean) qR_Cd ad) (S : qS) (x1 : Int32) (hf : fCd_holds_113 S x1 = some res) : ∀ (H : Heap) (locs : List Loc) (ls : Array Slot), qG D qCl (cT K) A s (cW h K S) H locs → lv_has ls 2 [(0, .ref (h 16)), (1, .int x1)] → W p l e ({ frames := 1, cells := 0, slots := 0, locals := 21 }) s m args below meth c H locs 0 0 (MQ below (qQi D qCl (cT K) (cW h K) A res) args s 0 0 A) (F0 m 113 ls []) := by
  intro H locs ls G hl
  unfold fCd_holds_113 at hf
  refine lv_aload_n C.1 C.2.1 qm_Cd_holds_113 rfl (lv_at hl 0 rfl) ?_
  refine q_get (wf := (cW h K)) (v := .ref (h 5)) C G qi_Cd 16 rfl rfl 0 (by decide) qz_218 rfl qm_Cd_holds_114 ?_
  refine lv_bipush (v := 8) C.1 C.2.1 qm_Cd_holds_117 (by decide) ?_
  obtain ⟨q1, c1, hf⟩ := bnd_s hf
  refine q_callVi (wf := (cW h K)) (n := 1) (As := [.int 8]) (q0 := 5) (ci := 1) C G hl.1 (kCo_has (l := l) c1) qx_Cd_152 qm_Co_has_d ⟨by decide, by decide⟩ ⟨Nat.le_refl _, Nat.le_refl _⟩ rfl rfl rfl rfl rfl (Nat.le_of_ble_eq_true rfl) qm_Cd_holds_119 (fun H locs G => ?_)
  refine lv_iload_n C.1 C.2.1 qm_Cd_holds_122 rfl (lv_at hl 1 rfl) ?_
  refine lv_bipush (v := 55) C.1 C.2.1 qm_Cd_holds_123 (by decide) ?_
  refine lv_icmp_ne (tgt := 132) C.1 C.2.1 qm_Cd_holds_125 (by decide) (fun b2 => ?_) (fun b2 => ?_)
  · have hf := if_t b2 hf
    refine lv_iconst (v := 0) C.1 C.2.1 qm_Cd_holds_132 (by decide) ?_
    exact wCd_holds_133 C q1.2 q1.1 0 hf _ _ _ G (lv_sub hl [] rfl)
  · have hf := if_f (not_not_intro b2) hf
    refine lv_iconst (v := 1) C.1 C.2.1 qm_Cd_holds_128 (by decide) ?_
    refine lv_goto (tgt := 133) C.1 C.2.1 qm_Cd_holds_129 (by decide) ?_
    exact wCd_holds_133 C q1.2 q1.1 1 hf _ _ _ G (lv_sub hl [] rfl)
set_option maxHeartbeats 4000000 in
set_option maxRecDepth 100000 in
theorem wCd_holds_169 {l : Launch} {D : va_G} {h : Nat → Nat} {K : Nat → ClassId} {res : Int32 × qS} {p : Program} {e : Env} {s : State} {m : MethodId} {args : Array Value} {below : List Frame} {meth : Method} {c : Code} {A : Nat → Prop} {ad : Nat → Nat} (C : qC p s m args meth c qm_Cd_holds_c 2 (some .boolean) qR_Cd ad) (S : qS) (y0 : Int32) (hf : fCd_holds_169 S y0 = some res) : ∀ (H : Heap) (locs : List Loc) (ls : Array Slot), qG D qCl (cT K) A s (cW h K S) H locs → lv_has ls 2 [] → W p l e ({ frames := 1, cells := 0, slots := 0, locals := 21 }) s m args below meth c H locs 0 0 (MQ below (qQi D qCl (cT K) (cW h K) A res) args s 0 0 A) (F0 m 169 ls [.int y0]) := by
  intro H locs ls G hl
  unfold fCd_holds_169 at hf
  exact q_zret (wf := (cW h K)) C G hf qm_Cd_holds_169
set_option maxHeartbeats 4000000 in
set_option maxRecDepth 100000 in
theorem wCd_holds_161 {l : Launch} {D : va_G} {h : Nat → Nat} {K : Nat → ClassId} {res : Int32 × qS} {p : Program} {e : Env} {s : State} {m : MethodId} {args : Array Value} {below : List Frame} {meth : Method} {c : Code} {A : Nat → Prop} {ad : Nat → Nat} (C : qC p s m args meth c qm_Cd_holds_c 2 (some .boolean) qR_Cd ad) (S : qS) (y0 : Int32) (y1 : Int32) (hf : fCd_holds_161 S y0 y1 = some res) : ∀ (H : Heap) (locs : List Loc) (ls : Array Slot), qG D qCl (cT K) A s (cW h K S) H locs → lv_has ls 2 [] → W p l e ({ frames := 1, cells := 0, slots := 0, locals := 21 }) s m args below meth c H locs 0 0 (MQ below (qQi D qCl (cT K) (cW h K) A res) args s 0 0 A) (F0 m 161 ls [.int y1, .int y0]) := by
  intro H locs ls G hl
  unfold fCd_holds_161 at hf
  refine lv_icmp_ne (tgt := 168) C.1 C.2.1 qm_Cd_holds_161 (by decide) (fun b1 => ?_) (fun b1 => ?_)
  · have hf := if_t b1 hf
    refine lv_iconst (v := 0) C.1 C.2.1 qm_Cd_holds_168 (by decide) ?_
    exact wCd_holds_169 C S 0 hf _ _ _ G (lv_sub hl [] rfl)
  · have hf := if_f (not_not_intro b1) hf
    refine lv_iconst (v := 1) C.1 C.2.1 qm_Cd_holds_164 (by decide) ?_
    refine lv_goto (tgt := 169) C.1 C.2.1 qm_Cd_holds_165 (by decide) ?_
    exact wCd_holds_169 C S 1 hf _ _ _ G (lv_sub hl [] rfl)
set_option maxHeartbeats 4000000 in
set_option maxRecDepth 100000 in
theorem wCd_holds_142 {l : Launch} {D : va_G} {h : Nat → Nat} {K : Nat → ClassId} {res : Int32 × qS} {p : Program} {e : Env} {s : State} {m : MethodId} {args : Array Value} {below : List Frame} {meth : Method} {c : Code} {A : Nat → Prop} {ad : Nat → Nat} (C : qC p s m args meth c qm_Cd_holds_c 2 (some .boolean) qR_Cd ad) (S : qS) (x1 : Int32) (hf : fCd_holds_142 S x1 = some res) : ∀ (H : Heap) (locs : List Loc) (ls : Array Slot), qG D qCl (cT K) A s (cW h K S) H locs → lv_has ls 2 [(0, .ref (h 16)), (1, .int x1)] → W p l e ({ frames := 1, cells := 0, slots := 0, locals := 21 }) s m args below meth c H locs 0 0 (MQ below (qQi D qCl (cT K) (cW h K) A res) args s 0 0 A) (F0 m 142 ls []) := by
  intro H locs ls G hl
  unfold fCd_holds_142 at hf
  refine lv_aload_n C.1 C.2.1 qm_Cd_holds_142 rfl (lv_at hl 0 rfl) ?_
  refine q_get (wf := (cW h K)) (v := .ref (h 5)) C G qi_Cd 16 rfl rfl 0 (by decide) qz_218 rfl qm_Cd_holds_143 ?_
  refine lv_iconst (v := 5) C.1 C.2.1 qm_Cd_holds_146 (by decide) ?_
  obtain ⟨q1, c1, hf⟩ := bnd_s hf
  refine q_callVi (wf := (cW h K)) (n := 1) (As := [.int 5]) (q0 := 5) (ci := 1) C G hl.1 (kCo_has (l := l) c1) qx_Cd_152 qm_Co_has_d ⟨by decide, by decide⟩ ⟨Nat.le_refl _, Nat.le_refl _⟩ rfl rfl rfl rfl rfl (Nat.le_of_ble_eq_true rfl) qm_Cd_holds_147 (fun H locs G => ?_)
  refine lv_iload_n C.1 C.2.1 qm_Cd_holds_150 rfl (lv_at hl 1 rfl) ?_
  refine lv_bipush (v := 57) C.1 C.2.1 qm_Cd_holds_151 (by decide) ?_
  refine lv_icmp_ne (tgt := 160) C.1 C.2.1 qm_Cd_holds_153 (by decide) (fun b2 => ?_) (fun b2 => ?_)
  · have hf := if_t b2 hf
    refine lv_iconst (v := 0) C.1 C.2.1 qm_Cd_holds_160 (by decide) ?_
    exact wCd_holds_161 C q1.2 q1.1 0 hf _ _ _ G (lv_sub hl [] rfl)
  · have hf := if_f (not_not_intro b2) hf
    refine lv_iconst (v := 1) C.1 C.2.1 qm_Cd_holds_156 (by decide) ?_
    refine lv_goto (tgt := 161) C.1 C.2.1 qm_Cd_holds_157 (by decide) ?_
    exact wCd_holds_161 C q1.2 q1.1 1 hf _ _ _ G (lv_sub hl [] rfl)
set_option maxHeartbeats 4000000 in
set_option maxRecDepth 100000 in
theorem wCd_holds_197 {l : Launch} {D : va_G} {h : Nat → Nat} {K : Nat → ClassId} {res : Int32 × qS} {p : Program} {e : Env} {s : State} {m : MethodId} {args : Array Value} {below : List Frame} {meth : Method} {c : Code} {A : Nat → Prop} {ad : Nat → Nat} (C : qC p s m args meth c qm_Cd_holds_c 2 (some .boolean) qR_Cd ad) (S : qS) (y0 : Int32) (hf : fCd_holds_197 S y0 = some res) : ∀ (H : Heap) (locs : List Loc) (ls : Array Slot), qG D qCl (cT K) A s (cW h K S) H locs → lv_has ls 2 [] → W p l e ({ frames := 1, cells := 0, slots := 0, locals := 21 }) s m args below meth c H locs 0 0 (MQ below (qQi D qCl (cT K) (cW h K) A res) args s 0 0 A) (F0 m 197 ls [.int y0]) := by
  intro H locs ls G hl
  unfold fCd_holds_197 at hf
  exact q_zret (wf := (cW h K)) C G hf qm_Cd_holds_197
set_option maxHeartbeats 4000000 in
set_option maxRecDepth 100000 in
theorem wCd_holds_189 {l : Launch} {D : va_G} {h : Nat → Nat} {K : Nat → ClassId} {res : Int32 × qS} {p : Program} {e : Env} {s : State} {m : MethodId} {args : Array Value} {below : List Frame} {meth : Method} {c : Code} {A : Nat → Prop} {ad : Nat → Nat} (C : qC p s m args meth c qm_Cd_holds_c 2 (some .boolean) qR_Cd ad) (S : qS) (y0 : Int32) (y1 : Int32) (hf : fCd_holds_189 S y0 y1 = some res) : ∀ (H : Heap) (locs : List Loc) (ls : Array Slot), qG D qCl (cT K) A s (cW h K S) H locs → lv_has ls 2 [] → W p l e ({ frames := 1, cells := 0, slots := 0, locals := 21 }) s m args below meth c H locs 0 0 (MQ below (qQi D qCl (cT K) (cW h K) A res) args s 0 0 A) (F0 m 189 ls [.int y1, .int y0]) := by
  intro H locs ls G hl
  unfold fCd_holds_189 at hf
  refine lv_icmp_ne (tgt := 196) C.1 C.2.1 qm_Cd_holds_189 (by decide) (fun b1 => ?_) (fun b1 => ?_)
  · have hf := if_t b1 hf
    refine lv_iconst (v := 0) C.1 C.2.1 qm_Cd_holds_196 (by decide) ?_
    exact wCd_holds_197 C S 0 hf _ _ _ G (lv_sub hl [] rfl)
  · have hf := if_f (not_not_intro b1) hf
    refine lv_iconst (v := 1) C.1 C.2.1 qm_Cd_holds_192 (by decide) ?_
    refine lv_goto (tgt := 197) C.1 C.2.1 qm_Cd_holds_193 (by decide) ?_
    exact wCd_holds_197 C S 1 hf _ _ _ G (lv_sub hl [] rfl)
set_option maxHeartbeats 4000000 in
set_option maxRecDepth 100000 in
theorem wCd_holds_170 {l : Launch} {D : va_G} {h : Nat → Nat} {K : Nat → ClassId} {res : Int32 × qS} {p : Program} {e : Env} {s : State} {m : MethodId} {args : Array Value} {below : List Frame} {meth : Method} {c : Code} {A : Nat → Prop} {ad : Nat → Nat} (C : qC p s m args meth c qm_Cd_holds_c 2 (some .boolean) qR_Cd ad) (S : qS) (x1 : Int32) (hf : fCd_holds_170 S x1 = some res) : ∀ (H : Heap) (locs : List Loc) (ls : Array Slot), qG D qCl (cT K) A s (cW h K S) H locs → lv_has ls 2 [(0, .ref (h 16)), (1, .int x1)] → W p l e ({ frames := 1, cells := 0, slots := 0, locals := 21 }) s m args below meth c H locs 0 0 (MQ below (qQi D qCl (cT K) (cW h K) A res) args s 0 0 A) (F0 m 170 ls []) := by
  intro H locs ls G hl
  unfold fCd_holds_170 at hf
  refine lv_aload_n C.1 C.2.1 qm_Cd_holds_170 rfl (lv_at hl 0 rfl) ?_
  refine q_get (wf := (cW h K)) (v := .ref (h 5)) C G qi_Cd 16 rfl rfl 0 (by decide) qz_218 rfl qm_Cd_holds_171 ?_
  refine lv_iconst (v := 2) C.1 C.2.1 qm_Cd_holds_174 (by decide) ?_
  obtain ⟨q1, c1, hf⟩ := bnd_s hf
  refine q_callVi (wf := (cW h K)) (n := 1) (As := [.int 2]) (q0 := 5) (ci := 1) C G hl.1 (kCo_has (l := l) c1) qx_Cd_152 qm_Co_has_d ⟨by decide, by decide⟩ ⟨Nat.le_refl _, Nat.le_refl _⟩ rfl rfl rfl rfl rfl (Nat.le_of_ble_eq_true rfl) qm_Cd_holds_175 (fun H locs G => ?_)
  refine lv_iload_n C.1 C.2.1 qm_Cd_holds_178 rfl (lv_at hl 1 rfl) ?_
  refine lv_bipush (v := 59) C.1 C.2.1 qm_Cd_holds_179 (by decide) ?_
  refine lv_icmp_ne (tgt := 188) C.1 C.2.1 qm_Cd_holds_181 (by decide) (fun b2 => ?_) (fun b2 => ?_)
  · have hf := if_t b2 hf
    refine lv_iconst (v := 0) C.1 C.2.1 qm_Cd_holds_188 (by decide) ?_
    exact wCd_holds_189 C q1.2 q1.1 0 hf _ _ _ G (lv_sub hl [] rfl)
  · have hf := if_f (not_not_intro b2) hf
    refine lv_iconst (v := 1) C.1 C.2.1 qm_Cd_holds_184 (by decide) ?_
    refine lv_goto (tgt := 189) C.1 C.2.1 qm_Cd_holds_185 (by decide) ?_
    exact wCd_holds_189 C q1.2 q1.1 1 hf _ _ _ G (lv_sub hl [] rfl)
set_option maxHeartbeats 4000000 in
set_option maxRecDepth 100000 in
theorem wCd_holds_225 {l : Launch} {D : va_G} {h : Nat → Nat} {K : Nat → ClassId} {res : Int32 × qS} {p : Program} {e : Env} {s : State} {m : MethodId} {args : Array Value} {below : List Frame} {meth : Method} {c : Code} {A : Nat → Prop} {ad : Nat → Nat} (C : qC p s m args meth c qm_Cd_holds_c 2 (some .boolean) qR_Cd ad) (S : qS) (y0 : Int32) (hf : fCd_holds_225 S y0 = some res) : ∀ (H : Heap) (locs : List Loc) (ls : Array Slot), qG D qCl (cT K) A s (cW h K S) H locs → lv_has ls 2 [] → W p l e ({ frames := 1, cells := 0, slots := 0, locals := 21 }) s m args below meth c H locs 0 0 (MQ below (qQi D qCl (cT K) (cW h K) A res) args s 0 0 A) (F0 m 225 ls [.int y0]) := by
  intro H locs ls G hl
  unfold fCd_holds_225 at hf
  exact q_zret (wf := (cW h K)) C G hf qm_Cd_holds_225
set_option maxHeartbeats 4000000 in
set_option maxRecDepth 100000 in
theorem wCd_holds_217 {l : Launch} {D : va_G} {h : Nat → Nat} {K : Nat → ClassId} {res : Int32 × qS} {p : Program} {e : Env} {s : State} {m : MethodId} {args : Array Value} {below : List Frame} {meth : Method} {c : Code} {A : Nat → Prop} {ad : Nat → Nat} (C : qC p s m args meth c qm_Cd_holds_c 2 (some .boolean) qR_Cd ad) (S : qS) (y0 : Int32) (y1 : Int32) (hf : fCd_holds_217 S y0 y1 = some res) : ∀ (H : Heap) (locs : List Loc) (ls : Array Slot), qG D qCl (cT K) A s (cW h K S) H locs → lv_has ls 2 [] → W p l e ({ frames := 1, cells := 0, slots := 0, locals := 21 }) s m args below meth c H locs 0 0 (MQ below (qQi D qCl (cT K) (cW h K) A res) args s 0 0 A) (F0 m 217 ls [.int y1, .int y0]) := by
  intro H locs ls G hl
  unfold fCd_holds_217 at hf
  refine lv_icmp_ne (tgt := 224) C.1 C.2.1 qm_Cd_holds_217 (by decide) (fun b1 => ?_) (fun b1 => ?_)
  · have hf := if_t b1 hf
    refine lv_iconst (v := 0) C.1 C.2.1 qm_Cd_holds_224 (by decide) ?_
    exact wCd_holds_225 C S 0 hf _ _ _ G (lv_sub hl [] rfl)
  · have hf := if_f (not_not_intro b1) hf
    refine lv_iconst (v := 1) C.1 C.2.1 qm_Cd_holds_220 (by decide) ?_
    refine lv_goto (tgt := 225) C.1 C.2.1 qm_Cd_holds_221 (by decide) ?_
    exact wCd_holds_225 C S 1 hf _ _ _ G (lv_sub hl [] rfl)
set_option maxHeartbeats 4000000 in
set_option maxRecDepth 100000 in
theorem wCd_holds_198 {l : Launch} {D : va_G} {h : Nat → Nat} {K : Nat → ClassId} {res : Int32 × qS} {p : Program} {e : Env} {s : State} {m : MethodId} {args : Array Value} {below : List Frame} {meth : Method} {c : Code} {A : Nat → Prop} {ad : Nat → Nat} (C : qC p s m args meth c qm_Cd_holds_c 2 (some .boolean) qR_Cd ad) (S : qS) (x1 : Int32) (hf : fCd_holds_198 S x1 = some res) : ∀ (H : Heap) (locs : List Loc) (ls : Array Slot), qG D qCl (cT K) A s (cW h K S) H locs → lv_has ls 2 [(0, .ref (h 16)), (1, .int x1)] → W p l e ({ frames := 1, cells := 0, slots := 0, locals := 21 }) s m args below meth c H locs 0 0 (MQ below (qQi D qCl (cT K) (cW h K) A res) args s 0 0 A) (F0 m 198 ls []) := by
  intro H locs ls G hl
  unfold fCd_holds_198 at hf
  refine lv_aload_n C.1 C.2.1 qm_Cd_holds_198 rfl (lv_at hl 0 rfl) ?_
  refine q_get (wf := (cW h K)) (v := .ref (h 5)) C G qi_Cd 16 rfl rfl 0 (by decide) qz_218 rfl qm_Cd_holds_199 ?_
  refine lv_iconst (v := 1) C.1 C.2.1 qm_Cd_holds_202 (by decide) ?_
  obtain ⟨q1, c1, hf⟩ := bnd_s hf
  refine q_callVi (wf := (cW h K)) (n := 1) (As := [.int 1]) (q0 := 5) (ci := 1) C G hl.1 (kCo_has (l := l) c1) qx_Cd_152 qm_Co_has_d ⟨by decide, by decide⟩ ⟨Nat.le_refl _, Nat.le_refl _⟩ rfl rfl rfl rfl rfl (Nat.le_of_ble_eq_true rfl) qm_Cd_holds_203 (fun H locs G => ?_)
  refine lv_iload_n C.1 C.2.1 qm_Cd_holds_206 rfl (lv_at hl 1 rfl) ?_
  refine lv_bipush (v := 61) C.1 C.2.1 qm_Cd_holds_207 (by decide) ?_
  refine lv_icmp_ne (tgt := 216) C.1 C.2.1 qm_Cd_holds_209 (by decide) (fun b2 => ?_) (fun b2 => ?_)
  · have hf := if_t b2 hf
    refine lv_iconst (v := 0) C.1 C.2.1 qm_Cd_holds_216 (by decide) ?_
    exact wCd_holds_217 C q1.2 q1.1 0 hf _ _ _ G (lv_sub hl [] rfl)
  · have hf := if_f (not_not_intro b2) hf
    refine lv_iconst (v := 1) C.1 C.2.1 qm_Cd_holds_212 (by decide) ?_
    refine lv_goto (tgt := 217) C.1 C.2.1 qm_Cd_holds_213 (by decide) ?_
    exact wCd_holds_217 C q1.2 q1.1 1 hf _ _ _ G (lv_sub hl [] rfl)
set_option maxHeartbeats 4000000 in
set_option maxRecDepth 100000 in
theorem wCd_holds {l : Launch} {D : va_G} {h : Nat → Nat} {K : Nat → ClassId} {res : Int32 × qS} {p : Program} {e : Env} {s : State} {m : MethodId} {args : Array Value} {below : List Frame} {meth : Method} {c : Code} {A : Nat → Prop} {ad : Nat → Nat} (C : qC p s m args meth c qm_Cd_holds_c 2 (some .boolean) qR_Cd ad) (S : qS) (a1 : Int32) (hf : fCd_holds S a1 = some res) : ∀ (H : Heap) (locs : List Loc) (ls : Array Slot), qG D qCl (cT K) A s (cW h K S) H locs → lv_has ls 2 [(0, .ref (h 16)), (1, .int a1)] → W p l e ({ frames := 1, cells := 0, slots := 0, locals := 21 }) s m args below meth c H locs 0 0 (MQ below (qQi D qCl (cT K) (cW h K) A res) args s 0 0 A) (F0 m 0 ls []) := by
  intro H locs ls G hl
  unfold fCd_holds at hf
  refine lv_iload_n C.1 C.2.1 qm_Cd_holds_0 rfl (lv_at hl 1 rfl) ?_
  by_cases b1 : a1.toInt < 50 ∨ 59 < a1.toInt
  · have hf := if_t b1 hf
    refine lv_tableOut (tgt := 198) C.1 C.2.1 qm_Cd_holds_1 b1 (by decide) ?_
    exact wCd_holds_198 C S a1 hf _ _ _ G (lv_sub hl [0, 1] rfl)
  have hf := if_f b1 hf
  by_cases b1_50 : a1 = 50
  · have hf := if_t b1_50 hf
    refine lv_tableIn (tgt := 56) C.1 C.2.1 qm_Cd_holds_1 (by rw [b1_50]; decide) (by rw [b1_50]; decide) (by rw [b1_50]; rfl) (by decide) ?_
    exact wCd_holds_56 C S a1 hf _ _ _ G (lv_sub hl [0, 1] rfl)
  have hf := if_f b1_50 hf
  by_cases b1_51 : a1 = 51
  · have hf := if_t b1_51 hf
    refine lv_tableIn (tgt := 56) C.1 C.2.1 qm_Cd_holds_1 (by rw [b1_51]; decide) (by rw [b1_51]; decide) (by rw [b1_51]; rfl) (by decide) ?_
    exact wCd_holds_56 C S a1 hf _ _ _ G (lv_sub hl [0, 1] rfl)
  have hf := if_f b1_51 hf
  by_cases b1_52 : a1 = 52
  · have hf := if_t b1_52 hf
    refine lv_tableIn (tgt := 84) C.1 C.2.1 qm_Cd_holds_1 (by rw [b1_52]; decide) (by rw [b1_52]; decide) (by rw [b1_52]; rfl) (by decide) ?_
    exact wCd_holds_84 C S a1 hf _ _ _ G (lv_sub hl [0, 1] rfl)
  have hf := if_f b1_52 hf
  by_cases b1_53 : a1 = 53
  · have hf := if_t b1_53 hf
    refine lv_tableIn (tgt := 84) C.1 C.2.1 qm_Cd_holds_1 (by rw [b1_53]; decide) (by rw [b1_53]; decide) (by rw [b1_53]; rfl) (by decide) ?_
    exact wCd_holds_84 C S a1 hf _ _ _ G (lv_sub hl [0, 1] rfl)
  have hf := if_f b1_53 hf
  by_cases b1_54 : a1 = 54
  · have hf := if_t b1_54 hf
    refine lv_tableIn (tgt := 113) C.1 C.2.1 qm_Cd_holds_1 (by rw [b1_54]; decide) (by rw [b1_54]; decide) (by rw [b1_54]; rfl) (by decide) ?_
    exact wCd_holds_113 C S a1 hf _ _ _ G (lv_sub hl [0, 1] rfl)
  have hf := if_f b1_54 hf
  by_cases b1_55 : a1 = 55
  · have hf := if_t b1_55 hf
    refine lv_tableIn (tgt := 113) C.1 C.2.1 qm_Cd_holds_1 (by rw [b1_55]; decide) (by rw [b1_55]; decide) (by rw [b1_55]; rfl) (by decide) ?_
    exact wCd_holds_113 C S a1 hf _ _ _ G (lv_sub hl [0, 1] rfl)
  have hf := if_f b1_55 hf
  by_cases b1_56 : a1 = 56
  · have hf := if_t b1_56 hf
    refine lv_tableIn (tgt := 142) C.1 C.2.1 qm_Cd_holds_1 (by rw [b1_56]; decide) (by rw [b1_56]; decide) (by rw [b1_56]; rfl) (by decide) ?_
    exact wCd_holds_142 C S a1 hf _ _ _ G (lv_sub hl [0, 1] rfl)
  have hf := if_f b1_56 hf
  by_cases b1_57 : a1 = 57
  · have hf := if_t b1_57 hf
    refine lv_tableIn (tgt := 142) C.1 C.2.1 qm_Cd_holds_1 (by rw [b1_57]; decide) (by rw [b1_57]; decide) (by rw [b1_57]; rfl) (by decide) ?_
    exact wCd_holds_142 C S a1 hf _ _ _ G (lv_sub hl [0, 1] rfl)
  have hf := if_f b1_57 hf
  by_cases b1_58 : a1 = 58
  · have hf := if_t b1_58 hf
    refine lv_tableIn (tgt := 170) C.1 C.2.1 qm_Cd_holds_1 (by rw [b1_58]; decide) (by rw [b1_58]; decide) (by rw [b1_58]; rfl) (by decide) ?_
    exact wCd_holds_170 C S a1 hf _ _ _ G (lv_sub hl [0, 1] rfl)
  have hf := if_f b1_58 hf
  by_cases b1_59 : a1 = 59
  · have hf := if_t b1_59 hf
    refine lv_tableIn (tgt := 170) C.1 C.2.1 qm_Cd_holds_1 (by rw [b1_59]; decide) (by rw [b1_59]; decide) (by rw [b1_59]; rfl) (by decide) ?_
    exact wCd_holds_170 C S a1 hf _ _ _ G (lv_sub hl [0, 1] rfl)
  have hf := if_f b1_59 hf
  cases hf
theorem kCd_holds {l : Launch} {ad : Nat → Nat} {D : va_G} {h : Nat → Nat} {K : Nat → ClassId} {res : Int32 × qS} {S : qS} {a1 : Int32} (hf : fCd_holds S a1 = some res) : qMi l qm_Cd_holds qm_Cd_holds_c 2 .boolean 1 21 D qCl (cT K) ad (cW h K) [.ref (h 16), .int a1] S res := qMi_of (by decide) (Nat.le_of_ble_eq_true rfl) (fun _ _ _ _ _ _ _ _ _ _ C G hl => wCd_holds C S a1 hf _ _ _ G hl)
set_option maxHeartbeats 4000000 in
set_option maxRecDepth 100000 in
theorem wCd_branch_97 {l : Launch} {D : va_G} {h : Nat → Nat} {K : Nat → ClassId} {res : qS} {p : Program} {e : Env} {s : State} {m : MethodId} {args : Array Value} {below : List Frame} {meth : Method} {c : Code} {A : Nat → Prop} {ad : Nat → Nat} (C : qC p s m args meth c qm_Cd_branch_c 4 none qR_Cd ad) (S : qS) (hf : fCd_branch_97 S = some res) : ∀ (H : Heap) (locs : List Loc) (ls : Array Slot), qG D qCl (cT K) A s (cW h K S) H locs → lv_has ls 4 [] → W p l e ({ frames := 2, cells := 0, slots := 0, locals := 42 }) s m args below meth c H locs 0 0 (MQ below (qQv D qCl (cT K) (cW h K) A res) args s 0 0 A) (F0 m 97 ls []) := by
  intro H locs ls G hl
  unfold fCd_branch_97 at hf
  exact q_vret (wf := (cW h K)) C G hf qm_Cd_branch_97
set_option maxHeartbeats 4000000 in
set_option maxRecDepth 100000 in
theorem wCd_branch_93 {l : Launch} {D : va_G} {h : Nat → Nat} {K : Nat → ClassId} {res : qS} {p : Program} {e : Env} {s : State} {m : MethodId} {args : Array Value} {below : List Frame} {meth : Method} {c : Code} {A : Nat → Prop} {ad : Nat → Nat} (C : qC p s m args meth c qm_Cd_branch_c 4 none qR_Cd ad) (S : qS) (y1 : Int32) (y2 : Int32) (y3 : Int32) (hf : fCd_branch_93 S y1 y2 y3 = some res) : ∀ (H : Heap) (locs : List Loc) (ls : Array Slot), qG D qCl (cT K) A s (cW h K S) H locs → lv_has ls 4 [] → W p l e ({ frames := 2, cells := 0, slots := 0, locals := 42 }) s m args below meth c H locs 0 0 (MQ below (qQv D qCl (cT K) (cW h K) A res) args s 0 0 A) (F0 m 93 ls [.int y3, .int y2, .int y1, .ref (h 5)]) := by
  intro H locs ls G hl
  unfold fCd_branch_93 at hf
  refine lv_iadd C.1 C.2.1 qm_Cd_branch_93 ?_
  obtain ⟨S1, c1, hf⟩ := bnd_s hf
  refine q_callVv (wf := (cW h K)) (n := 2) (As := [.int y1, .int (y2 + y3)]) (q0 := 5) (ci := 1) C G hl.1 (kCo_put (l := l) c1) qx_Cd_92 qm_Co_put_d ⟨by decide, by decide⟩ ⟨Nat.le_refl _, Nat.le_refl _⟩ rfl rfl rfl rfl rfl (Nat.le_of_ble_eq_true rfl) qm_Cd_branch_94 (fun H locs G => ?_)
  exact wCd_branch_97 C S1 hf _ _ _ G (lv_sub hl [] rfl)
set_option maxHeartbeats 4000000 in
set_option maxRecDepth 100000 in
theorem wCd_branch_52 {l : Launch} {D : va_G} {h : Nat → Nat} {K : Nat → ClassId} {res : qS} {p : Program} {e : Env} {s : State} {m : MethodId} {args : Array Value} {below : List Frame} {meth : Method} {c : Code} {A : Nat → Prop} {ad : Nat → Nat} (C : qC p s m args meth c qm_Cd_branch_c 4 none qR_Cd ad) (S : qS) (x2 : Int32) (y0 : Int32) (hf : fCd_branch_52 S x2 y0 = some res) : ∀ (H : Heap) (locs : List Loc) (ls : Array Slot), qG D qCl (cT K) A s (cW h K S) H locs → lv_has ls 4 [(0, .ref (h 16)), (2, .int x2)] → W p l e ({ frames := 2, cells := 0, slots := 0, locals := 42 }) s m args below meth c H locs 0 0 (MQ below (qQv D qCl (cT K) (cW h K) A res) args s 0 0 A) (F0 m 52 ls [.int y0]) := by
  intro H locs ls G hl
  unfold fCd_branch_52 at hf
  refine lv_istore_n (lv' := [(3, .int y0), (0, .ref (h 16)), (2, .int x2)]) C.1 C.2.1 qm_Cd_branch_52 rfl hl (by decide) rfl (fun ls hl => ?_)
  refine lv_iload_n C.1 C.2.1 qm_Cd_branch_53 rfl (lv_at hl 0 rfl) ?_
  refine lv_if_eq (tgt := 97) C.1 C.2.1 qm_Cd_branch_54 (by decide) (fun b1 => ?_) (fun b1 => ?_)
  · have hf := if_t b1 hf
    exact wCd_branch_97 C S hf _ _ _ G (lv_sub hl [] rfl)
  · have hf := if_f b1 hf
    refine lv_aload_n C.1 C.2.1 qm_Cd_branch_57 rfl (lv_at hl 1 rfl) ?_
    refine q_get (wf := (cW h K)) (v := .ref (h 5)) C G qi_Cd 16 rfl rfl 0 (by decide) qz_218 rfl qm_Cd_branch_58 ?_
    refine lv_bipush (v := 15) C.1 C.2.1 qm_Cd_branch_61 (by decide) ?_
    refine lv_aload_n C.1 C.2.1 qm_Cd_branch_63 rfl (lv_at hl 1 rfl) ?_
    refine q_get (wf := (cW h K)) (v := .ref (h 5)) C G qi_Cd 16 rfl rfl 0 (by decide) qz_218 rfl qm_Cd_branch_64 ?_
    refine lv_bipush (v := 15) C.1 C.2.1 qm_Cd_branch_67 (by decide) ?_
    obtain ⟨q2, c2, hf⟩ := bnd_s hf
    refine q_callVi (wf := (cW h K)) (n := 1) (As := [.int 15]) (q0 := 5) (ci := 1) C G hl.1 (kCo_get (l := l) c2) qx_Cd_169 qm_Co_get_d ⟨by decide, by decide⟩ ⟨Nat.le_refl _, Nat.le_refl _⟩ rfl rfl rfl rfl rfl (Nat.le_of_ble_eq_true rfl) qm_Cd_branch_69 (fun H locs G => ?_)
    refine lv_iload_n C.1 C.2.1 qm_Cd_branch_72 rfl (lv_at hl 2 rfl) ?_
    refine lv_if_eq (tgt := 86) C.1 C.2.1 qm_Cd_branch_73 (by decide) (fun b3 => ?_) (fun b3 => ?_)
    · have hf := if_t b3 hf
      refine lv_aload_n C.1 C.2.1 qm_Cd_branch_86 rfl (lv_at hl 1 rfl) ?_
      refine q_get (wf := (cW h K)) (v := .ref (h 12)) C G qi_Cd 16 rfl rfl 1 (by decide) qz_219 rfl qm_Cd_branch_87 ?_
      refine q_getN (host := "QuadMode") (wf := (cW h K)) (v := .int (q2.2.1 14)) C G qi_Op 12 rfl rfl 3 (by decide) (by decide +kernel) rfl qm_Cd_branch_90 ?_
      exact wCd_branch_93 C q2.2 15 q2.1 (q2.2.1 14) hf _ _ _ G (lv_sub hl [] rfl)
    · have hf := if_f b3 hf
      refine lv_aload_n C.1 C.2.1 qm_Cd_branch_76 rfl (lv_at hl 1 rfl) ?_
      refine q_get (wf := (cW h K)) (v := .ref (h 13)) C G qi_Cd 16 rfl rfl 2 (by decide) qz_220 rfl qm_Cd_branch_77 ?_
      refine q_getN (host := "QuadMode") (wf := (cW h K)) (v := .int (q2.2.1 18)) C G qi_Op 13 rfl rfl 3 (by decide) (by decide +kernel) rfl qm_Cd_branch_80 ?_
      refine lv_goto (tgt := 93) C.1 C.2.1 qm_Cd_branch_83 (by decide) ?_
      exact wCd_branch_93 C q2.2 15 q2.1 (q2.2.1 18) hf _ _ _ G (lv_sub hl [] rfl)
set_option maxHeartbeats 4000000 in
set_option maxRecDepth 100000 in
theorem wCd_branch_36 {l : Launch} {D : va_G} {h : Nat → Nat} {K : Nat → ClassId} {res : qS} {p : Program} {e : Env} {s : State} {m : MethodId} {args : Array Value} {below : List Frame} {meth : Method} {c : Code} {A : Nat → Prop} {ad : Nat → Nat} (C : qC p s m args meth c qm_Cd_branch_c 4 none qR_Cd ad) (S : qS) (x2 : Int32) (y0 : Int32) (y1 : Int32) (hf : fCd_branch_36 S x2 y0 y1 = some res) : ∀ (H : Heap) (locs : List Loc) (ls : Array Slot), qG D qCl (cT K) A s (cW h K S) H locs → lv_has ls 4 [(0, .ref (h 16)), (2, .int x2)] → W p l e ({ frames := 2, cells := 0, slots := 0, locals := 42 }) s m args below meth c H locs 0 0 (MQ below (qQv D qCl (cT K) (cW h K) A res) args s 0 0 A) (F0 m 36 ls [.int y1, .int y0]) := by
  intro H locs ls G hl
  unfold fCd_branch_36 at hf
  refine lv_icmp_ne (tgt := 43) C.1 C.2.1 qm_Cd_branch_36 (by decide) (fun b1 => ?_) (fun b1 => ?_)
  · have hf := if_t b1 hf
    refine lv_iconst (v := 0) C.1 C.2.1 qm_Cd_branch_43 (by decide) ?_
    refine lv_goto (tgt := 52) C.1 C.2.1 qm_Cd_branch_44 (by decide) ?_
    exact wCd_branch_52 C S x2 0 hf _ _ _ G (lv_sub hl [0, 1] rfl)
  · have hf := if_f (not_not_intro b1) hf
    refine lv_iconst (v := 1) C.1 C.2.1 qm_Cd_branch_39 (by decide) ?_
    refine lv_goto (tgt := 52) C.1 C.2.1 qm_Cd_branch_40 (by decide) ?_
    exact wCd_branch_52 C S x2 1 hf _ _ _ G (lv_sub hl [0, 1] rfl)
set_option maxHeartbeats 4000000 in
set_option maxRecDepth 100000 in
theorem wCd_branch_11 {l : Launch} {D : va_G} {h : Nat → Nat} {K : Nat → ClassId} {res : qS} {p : Program} {e : Env} {s : State} {m : MethodId} {args : Array Value} {below : List Frame} {meth : Method} {c : Code} {A : Nat → Prop} {ad : Nat → Nat} (C : qC p s m args meth c qm_Cd_branch_c 4 none qR_Cd ad) (S : qS) (x1 : Int32) (y0 : Int32) (hf : fCd_branch_11 S x1 y0 = some res) : ∀ (H : Heap) (locs : List Loc) (ls : Array Slot), qG D qCl (cT K) A s (cW h K S) H locs → lv_has ls 4 [(0, .ref (h 16)), (1, .int x1)] → W p l e ({ frames := 2, cells := 0, slots := 0, locals := 42 }) s m args below meth c H locs 0 0 (MQ below (qQv D qCl (cT K) (cW h K) A res) args s 0 0 A) (F0 m 11 ls [.int y0]) := by
  intro H locs ls G hl
  unfold fCd_branch_11 at hf
  refine lv_istore_n (lv' := [(2, .int y0), (0, .ref (h 16)), (1, .int x1)]) C.1 C.2.1 qm_Cd_branch_11 rfl hl (by decide) rfl (fun ls hl => ?_)
  refine lv_iload_n C.1 C.2.1 qm_Cd_branch_12 rfl (lv_at hl 0 rfl) ?_
  refine lv_if_eq (tgt := 47) C.1 C.2.1 qm_Cd_branch_13 (by decide) (fun b1 => ?_) (fun b1 => ?_)
  · have hf := if_t b1 hf
    refine lv_aload_n C.1 C.2.1 qm_Cd_branch_47 rfl (lv_at hl 1 rfl) ?_
    refine lv_iload_n C.1 C.2.1 qm_Cd_branch_48 rfl (lv_at hl 2 rfl) ?_
    obtain ⟨q2, c2, hf⟩ := bnd_s hf
    refine q_callVi (wf := (cW h K)) (n := 1) (As := [.int x1]) (q0 := 16) (ci := 0) C G hl.1 (kCd_holds (l := l) c2) qx_Cd_230 qm_Cd_holds_d ⟨by decide, by decide⟩ ⟨Nat.le_refl _, Nat.le_refl _⟩ rfl rfl rfl rfl rfl (Nat.le_of_ble_eq_true rfl) qm_Cd_branch_49 (fun H locs G => ?_)
    exact wCd_branch_52 C q2.2 y0 q2.1 hf _ _ _ G (lv_sub hl [1, 0] rfl)
  · have hf := if_f b1 hf
    refine lv_aload_n C.1 C.2.1 qm_Cd_branch_16 rfl (lv_at hl 1 rfl) ?_
    refine q_get (wf := (cW h K)) (v := .ref (h 12)) C G qi_Cd 16 rfl rfl 1 (by decide) qz_219 rfl qm_Cd_branch_17 ?_
    refine q_getN (host := "QuadMode") (wf := (cW h K)) (v := .int (S.1 14)) C G qi_Op 12 rfl rfl 3 (by decide) (by decide +kernel) rfl qm_Cd_branch_20 ?_
    refine lv_iconst (v := 1) C.1 C.2.1 qm_Cd_branch_23 (by decide) ?_
    refine lv_iand C.1 C.2.1 qm_Cd_branch_24 ?_
    refine lv_iload_n C.1 C.2.1 qm_Cd_branch_25 rfl (lv_at hl 2 rfl) ?_
    refine lv_bipush (v := 62) C.1 C.2.1 qm_Cd_branch_26 (by decide) ?_
    refine lv_icmp_ne (tgt := 35) C.1 C.2.1 qm_Cd_branch_28 (by decide) (fun b3 => ?_) (fun b3 => ?_)
    · have hf := if_t b3 hf
      refine lv_iconst (v := 0) C.1 C.2.1 qm_Cd_branch_35 (by decide) ?_
      exact wCd_branch_36 C S y0 ((S.1 14) &&& 1) 0 hf _ _ _ G (lv_sub hl [1, 0] rfl)
    · have hf := if_f (not_not_intro b3) hf
      refine lv_iconst (v := 1) C.1 C.2.1 qm_Cd_branch_31 (by decide) ?_
      refine lv_goto (tgt := 36) C.1 C.2.1 qm_Cd_branch_32 (by decide) ?_
      exact wCd_branch_36 C S y0 ((S.1 14) &&& 1) 1 hf _ _ _ G (lv_sub hl [1, 0] rfl)
set_option maxHeartbeats 4000000 in
set_option maxRecDepth 100000 in
theorem wCd_branch {l : Launch} {D : va_G} {h : Nat → Nat} {K : Nat → ClassId} {res : qS} {p : Program} {e : Env} {s : State} {m : MethodId} {args : Array Value} {below : List Frame} {meth : Method} {c : Code} {A : Nat → Prop} {ad : Nat → Nat} (C : qC p s m args meth c qm_Cd_branch_c 4 none qR_Cd ad) (S : qS) (a1 : Int32) (hf : fCd_branch S a1 = some res) : ∀ (H : Heap) (locs : List Loc) (ls : Array Slot), qG D qCl (cT K) A s (cW h K S) H locs → lv_has ls 4 [(0, .ref (h 16)), (1, .int a1)] → W p l e ({ frames := 2, cells := 0, slots := 0, locals := 42 }) s m args below meth c H locs 0 0 (MQ below (qQv D qCl (cT K) (cW h K) A res) args s 0 0 A) (F0 m 0 ls []) := by
  intro H locs ls G hl
  unfold fCd_branch at hf
  refine lv_iload_n C.1 C.2.1 qm_Cd_branch_0 rfl (lv_at hl 1 rfl) ?_
  refine lv_bipush (v := 61) C.1 C.2.1 qm_Cd_branch_1 (by decide) ?_
  refine lv_icmp_le (tgt := 10) C.1 C.2.1 qm_Cd_branch_3 (by decide) (fun b1 => ?_) (fun b1 => ?_)
  · have hf := if_t b1 hf
    refine lv_iconst (v := 0) C.1 C.2.1 qm_Cd_branch_10 (by decide) ?_
    exact wCd_branch_11 C S a1 0 hf _ _ _ G (lv_sub hl [0, 1] rfl)
  · have hf := if_f b1 hf
    refine lv_iconst (v := 1) C.1 C.2.1 qm_Cd_branch_6 (by decide) ?_
    refine lv_goto (tgt := 11) C.1 C.2.1 qm_Cd_branch_7 (by decide) ?_
    exact wCd_branch_11 C S a1 1 hf _ _ _ G (lv_sub hl [0, 1] rfl)
theorem kCd_branch {l : Launch} {ad : Nat → Nat} {D : va_G} {h : Nat → Nat} {K : Nat → ClassId} {res : qS} {S : qS} {a1 : Int32} (hf : fCd_branch S a1 = some res) : qMv l qm_Cd_branch qm_Cd_branch_c 4 2 42 D qCl (cT K) ad (cW h K) [.ref (h 16), .int a1] S res := qMv_of (by decide) (Nat.le_of_ble_eq_true rfl) (fun _ _ _ _ _ _ _ _ _ _ C G hl => wCd_branch C S a1 hf _ _ _ G hl)
