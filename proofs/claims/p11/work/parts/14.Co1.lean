theorem qm_Co_mode_0 : decode qm_Co_mode_c 0 = .ok (.aload_n 0, 1) := by decide +kernel
theorem qm_Co_mode_1 : decode qm_Co_mode_c 1 = .ok (.getfield 38, 3) := by decide +kernel
theorem qm_Co_mode_4 : decode qm_Co_mode_c 4 = .ok (.bipush 24, 2) := by decide +kernel
theorem qm_Co_mode_6 : decode qm_Co_mode_c 6 = .ok (.iushr, 1) := by decide +kernel
theorem qm_Co_mode_7 : decode qm_Co_mode_c 7 = .ok (.iconst 3, 1) := by decide +kernel
theorem qm_Co_mode_8 : decode qm_Co_mode_c 8 = .ok (.iand, 1) := by decide +kernel
theorem qm_Co_mode_9 : decode qm_Co_mode_c 9 = .ok (.ireturn, 1) := by decide +kernel
theorem qm_Co_put_0 : decode qm_Co_put_c 0 = .ok (.iload_n 1, 1) := by decide +kernel
theorem qm_Co_put_1 : decode qm_Co_put_c 1 = .ok (.bipush 14, 2) := by decide +kernel
theorem qm_Co_put_3 : decode qm_Co_put_c 3 = .ok (.if_icmp .ne 16, 3) := by decide +kernel
theorem qm_Co_put_6 : decode qm_Co_put_c 6 = .ok (.aload_n 0, 1) := by decide +kernel
theorem qm_Co_put_7 : decode qm_Co_put_c 7 = .ok (.getfield 35, 3) := by decide +kernel
theorem qm_Co_put_10 : decode qm_Co_put_c 10 = .ok (.aload_n 0, 1) := by decide +kernel
theorem qm_Co_put_11 : decode qm_Co_put_c 11 = .ok (.invokevirtual 42, 3) := by decide +kernel
theorem qm_Co_put_14 : decode qm_Co_put_c 14 = .ok (.iload_n 2, 1) := by decide +kernel
theorem qm_Co_put_15 : decode qm_Co_put_c 15 = .ok (.iastore, 1) := by decide +kernel
theorem qm_Co_put_16 : decode qm_Co_put_c 16 = .ok (.goto 13, 3) := by decide +kernel
theorem qm_Co_put_19 : decode qm_Co_put_c 19 = .ok (.aload_n 0, 1) := by decide +kernel
theorem qm_Co_put_20 : decode qm_Co_put_c 20 = .ok (.getfield 9, 3) := by decide +kernel
theorem qm_Co_put_23 : decode qm_Co_put_c 23 = .ok (.iload_n 1, 1) := by decide +kernel
theorem qm_Co_put_24 : decode qm_Co_put_c 24 = .ok (.bipush 15, 2) := by decide +kernel
theorem qm_Co_put_26 : decode qm_Co_put_c 26 = .ok (.iand, 1) := by decide +kernel
theorem qm_Co_put_27 : decode qm_Co_put_c 27 = .ok (.iload_n 2, 1) := by decide +kernel
theorem qm_Co_put_28 : decode qm_Co_put_c 28 = .ok (.iastore, 1) := by decide +kernel
theorem qm_Co_put_29 : decode qm_Co_put_c 29 = .ok (.return_, 1) := by decide +kernel
theorem qm_Co_get_0 : decode qm_Co_get_c 0 = .ok (.iload_n 1, 1) := by decide +kernel
theorem qm_Co_get_1 : decode qm_Co_get_c 1 = .ok (.bipush 14, 2) := by decide +kernel
theorem qm_Co_get_3 : decode qm_Co_get_c 3 = .ok (.if_icmp .ne 15, 3) := by decide +kernel
theorem qm_Co_get_6 : decode qm_Co_get_c 6 = .ok (.aload_n 0, 1) := by decide +kernel
theorem qm_Co_get_7 : decode qm_Co_get_c 7 = .ok (.getfield 35, 3) := by decide +kernel
theorem qm_Co_get_10 : decode qm_Co_get_c 10 = .ok (.aload_n 0, 1) := by decide +kernel
theorem qm_Co_get_11 : decode qm_Co_get_c 11 = .ok (.invokevirtual 42, 3) := by decide +kernel
theorem qm_Co_get_14 : decode qm_Co_get_c 14 = .ok (.iaload, 1) := by decide +kernel
theorem qm_Co_get_15 : decode qm_Co_get_c 15 = .ok (.goto 12, 3) := by decide +kernel
theorem qm_Co_get_18 : decode qm_Co_get_c 18 = .ok (.aload_n 0, 1) := by decide +kernel
theorem qm_Co_get_19 : decode qm_Co_get_c 19 = .ok (.getfield 9, 3) := by decide +kernel
theorem qm_Co_get_22 : decode qm_Co_get_c 22 = .ok (.iload_n 1, 1) := by decide +kernel
theorem qm_Co_get_23 : decode qm_Co_get_c 23 = .ok (.bipush 15, 2) := by decide +kernel
theorem qm_Co_get_25 : decode qm_Co_get_c 25 = .ok (.iand, 1) := by decide +kernel
theorem qm_Co_get_26 : decode qm_Co_get_c 26 = .ok (.iaload, 1) := by decide +kernel
theorem qm_Co_get_27 : decode qm_Co_get_c 27 = .ok (.ireturn, 1) := by decide +kernel
theorem qm_Co_hasInner_0 : decode qm_Co_hasInner_c 0 = .ok (.iload_n 1, 1) := by decide +kernel
theorem qm_Co_hasInner_1 : decode qm_Co_hasInner_c 1 = .ok (.ifCond .lt 8, 3) := by decide +kernel
theorem qm_Co_hasInner_4 : decode qm_Co_hasInner_c 4 = .ok (.iload_n 1, 1) := by decide +kernel
theorem qm_Co_hasInner_5 : decode qm_Co_hasInner_c 5 = .ok (.iconst 4, 1) := by decide +kernel
theorem qm_Co_hasInner_6 : decode qm_Co_hasInner_c 6 = .ok (.if_icmp .lt 27, 3) := by decide +kernel
theorem qm_Co_hasInner_9 : decode qm_Co_hasInner_c 9 = .ok (.iload_n 1, 1) := by decide +kernel
theorem qm_Co_hasInner_10 : decode qm_Co_hasInner_c 10 = .ok (.bipush 8, 2) := by decide +kernel
theorem qm_Co_hasInner_12 : decode qm_Co_hasInner_c 12 = .ok (.if_icmp .lt 9, 3) := by decide +kernel
theorem qm_Co_hasInner_15 : decode qm_Co_hasInner_c 15 = .ok (.iload_n 1, 1) := by decide +kernel
theorem qm_Co_hasInner_16 : decode qm_Co_hasInner_c 16 = .ok (.bipush 13, 2) := by decide +kernel
theorem qm_Co_hasInner_18 : decode qm_Co_hasInner_c 18 = .ok (.if_icmp .le 15, 3) := by decide +kernel
theorem qm_Co_hasInner_21 : decode qm_Co_hasInner_c 21 = .ok (.iload_n 1, 1) := by decide +kernel
theorem qm_Co_hasInner_22 : decode qm_Co_hasInner_c 22 = .ok (.bipush 17, 2) := by decide +kernel
theorem qm_Co_hasInner_24 : decode qm_Co_hasInner_c 24 = .ok (.if_icmp .eq 9, 3) := by decide +kernel
theorem qm_Co_hasInner_27 : decode qm_Co_hasInner_c 27 = .ok (.iload_n 1, 1) := by decide +kernel
theorem qm_Co_hasInner_28 : decode qm_Co_hasInner_c 28 = .ok (.bipush 56, 2) := by decide +kernel
theorem qm_Co_hasInner_30 : decode qm_Co_hasInner_c 30 = .ok (.if_icmp .ne 7, 3) := by decide +kernel
theorem qm_Co_hasInner_33 : decode qm_Co_hasInner_c 33 = .ok (.iconst 1, 1) := by decide +kernel
theorem qm_Co_hasInner_34 : decode qm_Co_hasInner_c 34 = .ok (.goto 4, 3) := by decide +kernel
theorem qm_Co_hasInner_37 : decode qm_Co_hasInner_c 37 = .ok (.iconst 0, 1) := by decide +kernel
theorem qm_Co_hasInner_38 : decode qm_Co_hasInner_c 38 = .ok (.ireturn, 1) := by decide +kernel
theorem qm_Co_putInner_0 : decode qm_Co_putInner_c 0 = .ok (.aload_n 0, 1) := by decide +kernel
theorem qm_Co_putInner_1 : decode qm_Co_putInner_c 1 = .ok (.iload_n 1, 1) := by decide +kernel
theorem qm_Co_putInner_2 : decode qm_Co_putInner_c 2 = .ok (.invokevirtual 46, 3) := by decide +kernel
theorem qm_Co_putInner_5 : decode qm_Co_putInner_c 5 = .ok (.ifCond .eq 10, 3) := by decide +kernel
theorem qm_Co_putInner_8 : decode qm_Co_putInner_c 8 = .ok (.aload_n 0, 1) := by decide +kernel
theorem qm_Co_putInner_9 : decode qm_Co_putInner_c 9 = .ok (.getfield 35, 3) := by decide +kernel
theorem qm_Co_putInner_12 : decode qm_Co_putInner_c 12 = .ok (.iload_n 1, 1) := by decide +kernel
theorem qm_Co_putInner_13 : decode qm_Co_putInner_c 13 = .ok (.iload_n 2, 1) := by decide +kernel
theorem qm_Co_putInner_14 : decode qm_Co_putInner_c 14 = .ok (.iastore, 1) := by decide +kernel
theorem qm_Co_putInner_15 : decode qm_Co_putInner_c 15 = .ok (.return_, 1) := by decide +kernel
theorem qm_Co_getInner_0 : decode qm_Co_getInner_c 0 = .ok (.aload_n 0, 1) := by decide +kernel
theorem qm_Co_getInner_1 : decode qm_Co_getInner_c 1 = .ok (.iload_n 1, 1) := by decide +kernel
theorem qm_Co_getInner_2 : decode qm_Co_getInner_c 2 = .ok (.invokevirtual 46, 3) := by decide +kernel
theorem qm_Co_getInner_5 : decode qm_Co_getInner_c 5 = .ok (.ifCond .eq 12, 3) := by decide +kernel
theorem qm_Co_getInner_8 : decode qm_Co_getInner_c 8 = .ok (.aload_n 0, 1) := by decide +kernel
theorem qm_Co_getInner_9 : decode qm_Co_getInner_c 9 = .ok (.getfield 35, 3) := by decide +kernel
theorem qm_Co_getInner_12 : decode qm_Co_getInner_c 12 = .ok (.iload_n 1, 1) := by decide +kernel
theorem qm_Co_getInner_13 : decode qm_Co_getInner_c 13 = .ok (.iaload, 1) := by decide +kernel
theorem qm_Co_getInner_14 : decode qm_Co_getInner_c 14 = .ok (.goto 4, 3) := by decide +kernel
theorem qm_Co_getInner_17 : decode qm_Co_getInner_c 17 = .ok (.iconst 0, 1) := by decide +kernel
theorem qm_Co_getInner_18 : decode qm_Co_getInner_c 18 = .ok (.ireturn, 1) := by decide +kernel
theorem qm_Co_keep_0 : decode qm_Co_keep_c 0 = .ok (.aload_n 0, 1) := by decide +kernel
theorem qm_Co_keep_1 : decode qm_Co_keep_c 1 = .ok (.iconst 0, 1) := by decide +kernel
theorem qm_Co_keep_2 : decode qm_Co_keep_c 2 = .ok (.putfield 54, 3) := by decide +kernel
theorem qm_Co_keep_5 : decode qm_Co_keep_c 5 = .ok (.aload_n 0, 1) := by decide +kernel
theorem qm_Co_keep_6 : decode qm_Co_keep_c 6 = .ok (.iconst 0, 1) := by decide +kernel
theorem qm_Co_keep_7 : decode qm_Co_keep_c 7 = .ok (.putfield 57, 3) := by decide +kernel
theorem qm_Co_keep_10 : decode qm_Co_keep_c 10 = .ok (.aload_n 0, 1) := by decide +kernel
theorem qm_Co_keep_11 : decode qm_Co_keep_c 11 = .ok (.aload_n 0, 1) := by decide +kernel
theorem qm_Co_keep_12 : decode qm_Co_keep_c 12 = .ok (.getfield 38, 3) := by decide +kernel
theorem qm_Co_keep_15 : decode qm_Co_keep_c 15 = .ok (.putfield 60, 3) := by decide +kernel
theorem qm_Co_keep_18 : decode qm_Co_keep_c 18 = .ok (.aload_n 0, 1) := by decide +kernel
theorem qm_Co_keep_19 : decode qm_Co_keep_c 19 = .ok (.getfield 9, 3) := by decide +kernel
theorem qm_Co_keep_22 : decode qm_Co_keep_c 22 = .ok (.iconst 0, 1) := by decide +kernel
theorem qm_Co_keep_23 : decode qm_Co_keep_c 23 = .ok (.aload_n 0, 1) := by decide +kernel
theorem qm_Co_keep_24 : decode qm_Co_keep_c 24 = .ok (.getfield 15, 3) := by decide +kernel
theorem qm_Co_keep_27 : decode qm_Co_keep_c 27 = .ok (.iconst 0, 1) := by decide +kernel
theorem qm_Co_keep_28 : decode qm_Co_keep_c 28 = .ok (.bipush 16, 2) := by decide +kernel
theorem qm_Co_keep_30 : decode qm_Co_keep_c 30 = .ok (.invokestatic 63, 3) := by decide +kernel
theorem qm_Co_keep_33 : decode qm_Co_keep_c 33 = .ok (.aload_n 0, 1) := by decide +kernel
theorem qm_Co_keep_34 : decode qm_Co_keep_c 34 = .ok (.getfield 35, 3) := by decide +kernel
theorem qm_Co_keep_37 : decode qm_Co_keep_c 37 = .ok (.iconst 0, 1) := by decide +kernel
theorem qm_Co_keep_38 : decode qm_Co_keep_c 38 = .ok (.aload_n 0, 1) := by decide +kernel
theorem qm_Co_keep_39 : decode qm_Co_keep_c 39 = .ok (.getfield 18, 3) := by decide +kernel
theorem qm_Co_keep_42 : decode qm_Co_keep_c 42 = .ok (.iconst 0, 1) := by decide +kernel
theorem qm_Co_keep_43 : decode qm_Co_keep_c 43 = .ok (.iconst 4, 1) := by decide +kernel
theorem qm_Co_keep_44 : decode qm_Co_keep_c 44 = .ok (.invokestatic 63, 3) := by decide +kernel
theorem qm_Co_keep_47 : decode qm_Co_keep_c 47 = .ok (.return_, 1) := by decide +kernel
theorem qm_Co_refuse_0 : decode qm_Co_refuse_c 0 = .ok (.aload_n 0, 1) := by decide +kernel
theorem qm_Co_refuse_1 : decode qm_Co_refuse_c 1 = .ok (.getfield 54, 3) := by decide +kernel
theorem qm_Co_refuse_4 : decode qm_Co_refuse_c 4 = .ok (.ifCond .ne 24, 3) := by decide +kernel
theorem qm_Co_refuse_7 : decode qm_Co_refuse_c 7 = .ok (.aload_n 0, 1) := by decide +kernel
theorem qm_Co_refuse_8 : decode qm_Co_refuse_c 8 = .ok (.iload_n 1, 1) := by decide +kernel
theorem qm_Co_refuse_9 : decode qm_Co_refuse_c 9 = .ok (.invokestatic 69, 3) := by decide +kernel
theorem qm_Co_refuse_12 : decode qm_Co_refuse_c 12 = .ok (.putfield 54, 3) := by decide +kernel
theorem qm_Co_refuse_15 : decode qm_Co_refuse_c 15 = .ok (.aload_n 0, 1) := by decide +kernel
theorem qm_Co_refuse_16 : decode qm_Co_refuse_c 16 = .ok (.iload_n 1, 1) := by decide +kernel
theorem qm_Co_refuse_17 : decode qm_Co_refuse_c 17 = .ok (.invokestatic 75, 3) := by decide +kernel
theorem qm_Co_refuse_20 : decode qm_Co_refuse_c 20 = .ok (.putfield 78, 3) := by decide +kernel
theorem qm_Co_refuse_23 : decode qm_Co_refuse_c 23 = .ok (.aload_n 0, 1) := by decide +kernel
theorem qm_Co_refuse_24 : decode qm_Co_refuse_c 24 = .ok (.iload_n 2, 1) := by decide +kernel
theorem qm_Co_refuse_25 : decode qm_Co_refuse_c 25 = .ok (.putfield 81, 3) := by decide +kernel
theorem qm_Co_refuse_28 : decode qm_Co_refuse_c 28 = .ok (.return_, 1) := by decide +kernel
theorem qm_Co_read_0 : decode qm_Co_read_c 0 = .ok (.iconst 0, 1) := by decide +kernel
theorem qm_Co_read_1 : decode qm_Co_read_c 1 = .ok (.istore_n 3, 1) := by decide +kernel
theorem qm_Co_read_2 : decode qm_Co_read_c 2 = .ok (.iconst 0, 1) := by decide +kernel
theorem qm_Co_read_3 : decode qm_Co_read_c 3 = .ok (.istore 4, 2) := by decide +kernel
theorem qm_Co_read_5 : decode qm_Co_read_c 5 = .ok (.iload 4, 2) := by decide +kernel
theorem qm_Co_read_7 : decode qm_Co_read_c 7 = .ok (.iload_n 2, 1) := by decide +kernel
theorem qm_Co_read_8 : decode qm_Co_read_c 8 = .ok (.if_icmp .ge 70, 3) := by decide +kernel
theorem qm_Co_read_11 : decode qm_Co_read_c 11 = .ok (.aload_n 0, 1) := by decide +kernel
theorem qm_Co_read_12 : decode qm_Co_read_c 12 = .ok (.getfield 54, 3) := by decide +kernel
theorem qm_Co_read_15 : decode qm_Co_read_c 15 = .ok (.ifCond .ne 63, 3) := by decide +kernel
theorem qm_Co_read_18 : decode qm_Co_read_c 18 = .ok (.aload_n 0, 1) := by decide +kernel
theorem qm_Co_read_19 : decode qm_Co_read_c 19 = .ok (.getfield 31, 3) := by decide +kernel
theorem qm_Co_read_22 : decode qm_Co_read_c 22 = .ok (.iload_n 1, 1) := by decide +kernel
theorem qm_Co_read_23 : decode qm_Co_read_c 23 = .ok (.iload 4, 2) := by decide +kernel
theorem qm_Co_read_25 : decode qm_Co_read_c 25 = .ok (.iadd, 1) := by decide +kernel
theorem qm_Co_read_26 : decode qm_Co_read_c 26 = .ok (.iconst 0, 1) := by decide +kernel
theorem qm_Co_read_27 : decode qm_Co_read_c 27 = .ok (.aload_n 0, 1) := by decide +kernel
theorem qm_Co_read_28 : decode qm_Co_read_c 28 = .ok (.invokevirtual 42, 3) := by decide +kernel
theorem qm_Co_read_31 : decode qm_Co_read_c 31 = .ok (.invokevirtual 84, 3) := by decide +kernel
theorem qm_Co_read_34 : decode qm_Co_read_c 34 = .ok (.istore 5, 2) := by decide +kernel
theorem qm_Co_read_36 : decode qm_Co_read_c 36 = .ok (.iload 5, 2) := by decide +kernel
theorem qm_Co_read_38 : decode qm_Co_read_c 38 = .ok (.ifCond .ge 16, 3) := by decide +kernel
theorem qm_Co_read_41 : decode qm_Co_read_c 41 = .ok (.aload_n 0, 1) := by decide +kernel
theorem qm_Co_read_42 : decode qm_Co_read_c 42 = .ok (.iload 5, 2) := by decide +kernel
theorem qm_Co_read_44 : decode qm_Co_read_c 44 = .ok (.iload_n 1, 1) := by decide +kernel
theorem qm_Co_read_45 : decode qm_Co_read_c 45 = .ok (.iload 4, 2) := by decide +kernel
theorem qm_Co_read_47 : decode qm_Co_read_c 47 = .ok (.iadd, 1) := by decide +kernel
theorem qm_Co_read_48 : decode qm_Co_read_c 48 = .ok (.invokevirtual 88, 3) := by decide +kernel
theorem qm_Co_read_51 : decode qm_Co_read_c 51 = .ok (.goto 21, 3) := by decide +kernel
theorem qm_Co_read_54 : decode qm_Co_read_c 54 = .ok (.iload_n 3, 1) := by decide +kernel
theorem qm_Co_read_55 : decode qm_Co_read_c 55 = .ok (.aload_n 0, 1) := by decide +kernel
theorem qm_Co_read_56 : decode qm_Co_read_c 56 = .ok (.getfield 27, 3) := by decide +kernel
theorem qm_Co_read_59 : decode qm_Co_read_c 59 = .ok (.iload 5, 2) := by decide +kernel
theorem qm_Co_read_61 : decode qm_Co_read_c 61 = .ok (.invokevirtual 92, 3) := by decide +kernel
theorem qm_Co_read_64 : decode qm_Co_read_c 64 = .ok (.bipush 8, 2) := by decide +kernel
theorem qm_Co_read_66 : decode qm_Co_read_c 66 = .ok (.iload 4, 2) := by decide +kernel
theorem qm_Co_read_68 : decode qm_Co_read_c 68 = .ok (.imul, 1) := by decide +kernel
theorem qm_Co_read_69 : decode qm_Co_read_c 69 = .ok (.ishl, 1) := by decide +kernel
theorem qm_Co_read_70 : decode qm_Co_read_c 70 = .ok (.ior, 1) := by decide +kernel
theorem qm_Co_read_71 : decode qm_Co_read_c 71 = .ok (.istore_n 3, 1) := by decide +kernel
theorem qm_Co_read_72 : decode qm_Co_read_c 72 = .ok (.iinc 4 1, 3) := by decide +kernel
theorem qm_Co_read_75 : decode qm_Co_read_c 75 = .ok (.goto (-70), 3) := by decide +kernel
theorem qm_Co_read_78 : decode qm_Co_read_c 78 = .ok (.iload_n 3, 1) := by decide +kernel
theorem qm_Co_read_79 : decode qm_Co_read_c 79 = .ok (.ireturn, 1) := by decide +kernel
theorem qm_Co_fetch_0 : decode qm_Co_fetch_c 0 = .ok (.aload_n 0, 1) := by decide +kernel
theorem qm_Co_fetch_1 : decode qm_Co_fetch_c 1 = .ok (.aload_n 0, 1) := by decide +kernel
theorem qm_Co_fetch_2 : decode qm_Co_fetch_c 2 = .ok (.bipush 15, 2) := by decide +kernel
theorem qm_Co_fetch_4 : decode qm_Co_fetch_c 4 = .ok (.invokevirtual 107, 3) := by decide +kernel
theorem qm_Co_fetch_7 : decode qm_Co_fetch_c 7 = .ok (.iload_n 1, 1) := by decide +kernel
theorem qm_Co_fetch_8 : decode qm_Co_fetch_c 8 = .ok (.invokevirtual 110, 3) := by decide +kernel
theorem qm_Co_fetch_11 : decode qm_Co_fetch_c 11 = .ok (.istore_n 2, 1) := by decide +kernel
theorem qm_Co_fetch_12 : decode qm_Co_fetch_c 12 = .ok (.aload_n 0, 1) := by decide +kernel
theorem qm_Co_fetch_13 : decode qm_Co_fetch_c 13 = .ok (.bipush 15, 2) := by decide +kernel
theorem qm_Co_fetch_15 : decode qm_Co_fetch_c 15 = .ok (.aload_n 0, 1) := by decide +kernel
theorem qm_Co_fetch_16 : decode qm_Co_fetch_c 16 = .ok (.bipush 15, 2) := by decide +kernel
theorem qm_Co_fetch_18 : decode qm_Co_fetch_c 18 = .ok (.invokevirtual 107, 3) := by decide +kernel
theorem qm_Co_fetch_21 : decode qm_Co_fetch_c 21 = .ok (.iload_n 1, 1) := by decide +kernel
theorem qm_Co_fetch_22 : decode qm_Co_fetch_c 22 = .ok (.iadd, 1) := by decide +kernel
theorem qm_Co_fetch_23 : decode qm_Co_fetch_c 23 = .ok (.invokevirtual 114, 3) := by decide +kernel
theorem qm_Co_fetch_26 : decode qm_Co_fetch_c 26 = .ok (.iload_n 2, 1) := by decide +kernel
theorem qm_Co_fetch_27 : decode qm_Co_fetch_c 27 = .ok (.ireturn, 1) := by decide +kernel
theorem qm_Co_raise_0 : decode qm_Co_raise_c 0 = .ok (.aload_n 0, 1) := by decide +kernel
theorem qm_Co_raise_1 : decode qm_Co_raise_c 1 = .ok (.getfield 54, 3) := by decide +kernel
theorem qm_Co_raise_4 : decode qm_Co_raise_c 4 = .ok (.ifCond .ne 8, 3) := by decide +kernel
theorem qm_Co_raise_7 : decode qm_Co_raise_c 7 = .ok (.aload_n 0, 1) := by decide +kernel
theorem qm_Co_raise_8 : decode qm_Co_raise_c 8 = .ok (.iload_n 1, 1) := by decide +kernel
theorem qm_Co_raise_9 : decode qm_Co_raise_c 9 = .ok (.putfield 54, 3) := by decide +kernel
theorem qm_Co_raise_12 : decode qm_Co_raise_c 12 = .ok (.return_, 1) := by decide +kernel
theorem qm_Co_pop_0 : decode qm_Co_pop_c 0 = .ok (.aload_n 0, 1) := by decide +kernel
theorem qm_Co_pop_1 : decode qm_Co_pop_c 1 = .ok (.aload_n 0, 1) := by decide +kernel
theorem qm_Co_pop_2 : decode qm_Co_pop_c 2 = .ok (.bipush 14, 2) := by decide +kernel
theorem qm_Co_pop_4 : decode qm_Co_pop_c 4 = .ok (.invokevirtual 107, 3) := by decide +kernel
theorem qm_Co_pop_7 : decode qm_Co_pop_c 7 = .ok (.iconst 4, 1) := by decide +kernel
theorem qm_Co_pop_8 : decode qm_Co_pop_c 8 = .ok (.invokevirtual 110, 3) := by decide +kernel
theorem qm_Co_pop_11 : decode qm_Co_pop_c 11 = .ok (.istore_n 1, 1) := by decide +kernel
theorem qm_Co_pop_12 : decode qm_Co_pop_c 12 = .ok (.aload_n 0, 1) := by decide +kernel
theorem qm_Co_pop_13 : decode qm_Co_pop_c 13 = .ok (.bipush 14, 2) := by decide +kernel
theorem qm_Co_pop_15 : decode qm_Co_pop_c 15 = .ok (.aload_n 0, 1) := by decide +kernel
theorem qm_Co_pop_16 : decode qm_Co_pop_c 16 = .ok (.bipush 14, 2) := by decide +kernel
theorem qm_Co_pop_18 : decode qm_Co_pop_c 18 = .ok (.invokevirtual 107, 3) := by decide +kernel
theorem qm_Co_pop_21 : decode qm_Co_pop_c 21 = .ok (.iconst 4, 1) := by decide +kernel
theorem qm_Co_pop_22 : decode qm_Co_pop_c 22 = .ok (.iadd, 1) := by decide +kernel
theorem qm_Co_pop_23 : decode qm_Co_pop_c 23 = .ok (.invokevirtual 114, 3) := by decide +kernel
theorem qm_Co_pop_26 : decode qm_Co_pop_c 26 = .ok (.iload_n 1, 1) := by decide +kernel
theorem qm_Co_pop_27 : decode qm_Co_pop_c 27 = .ok (.ireturn, 1) := by decide +kernel
theorem qm_Co_setConditions_0 : decode qm_Co_setConditions_c 0 = .ok (.iload_n 1, 1) := by decide +kernel
theorem qm_Co_setConditions_1 : decode qm_Co_setConditions_c 1 = .ok (.ifCond .eq 8, 3) := by decide +kernel
theorem qm_Co_setConditions_4 : decode qm_Co_setConditions_c 4 = .ok (.bipush 8, 2) := by decide +kernel
theorem qm_Co_setConditions_6 : decode qm_Co_setConditions_c 6 = .ok (.goto 4, 3) := by decide +kernel
theorem qm_Co_setConditions_9 : decode qm_Co_setConditions_c 9 = .ok (.iconst 0, 1) := by decide +kernel
theorem qm_Co_setConditions_10 : decode qm_Co_setConditions_c 10 = .ok (.iload_n 2, 1) := by decide +kernel
theorem qm_Co_setConditions_11 : decode qm_Co_setConditions_c 11 = .ok (.ifCond .eq 7, 3) := by decide +kernel
theorem qm_Co_setConditions_14 : decode qm_Co_setConditions_c 14 = .ok (.iconst 4, 1) := by decide +kernel
theorem qm_Co_setConditions_15 : decode qm_Co_setConditions_c 15 = .ok (.goto 4, 3) := by decide +kernel
theorem qm_Co_setConditions_18 : decode qm_Co_setConditions_c 18 = .ok (.iconst 0, 1) := by decide +kernel
theorem qm_Co_setConditions_19 : decode qm_Co_setConditions_c 19 = .ok (.ior, 1) := by decide +kernel
theorem qm_Co_setConditions_20 : decode qm_Co_setConditions_c 20 = .ok (.iload_n 3, 1) := by decide +kernel
theorem qm_Co_setConditions_21 : decode qm_Co_setConditions_c 21 = .ok (.ifCond .eq 7, 3) := by decide +kernel
theorem qm_Co_setConditions_24 : decode qm_Co_setConditions_c 24 = .ok (.iconst 2, 1) := by decide +kernel
theorem qm_Co_setConditions_25 : decode qm_Co_setConditions_c 25 = .ok (.goto 4, 3) := by decide +kernel
theorem qm_Co_setConditions_28 : decode qm_Co_setConditions_c 28 = .ok (.iconst 0, 1) := by decide +kernel
theorem qm_Co_setConditions_29 : decode qm_Co_setConditions_c 29 = .ok (.ior, 1) := by decide +kernel
theorem qm_Co_setConditions_30 : decode qm_Co_setConditions_c 30 = .ok (.iload 4, 2) := by decide +kernel
theorem qm_Co_setConditions_32 : decode qm_Co_setConditions_c 32 = .ok (.ifCond .eq 7, 3) := by decide +kernel
theorem qm_Co_setConditions_35 : decode qm_Co_setConditions_c 35 = .ok (.iconst 1, 1) := by decide +kernel
theorem qm_Co_setConditions_36 : decode qm_Co_setConditions_c 36 = .ok (.goto 4, 3) := by decide +kernel
theorem qm_Co_setConditions_39 : decode qm_Co_setConditions_c 39 = .ok (.iconst 0, 1) := by decide +kernel
theorem qm_Co_setConditions_40 : decode qm_Co_setConditions_c 40 = .ok (.ior, 1) := by decide +kernel
theorem qm_Co_setConditions_41 : decode qm_Co_setConditions_c 41 = .ok (.istore 5, 2) := by decide +kernel
theorem qm_Co_setConditions_43 : decode qm_Co_setConditions_c 43 = .ok (.aload_n 0, 1) := by decide +kernel
theorem qm_Co_setConditions_44 : decode qm_Co_setConditions_c 44 = .ok (.aload_n 0, 1) := by decide +kernel
theorem qm_Co_setConditions_45 : decode qm_Co_setConditions_c 45 = .ok (.getfield 38, 3) := by decide +kernel
theorem qm_Co_setConditions_48 : decode qm_Co_setConditions_c 48 = .ok (.bipush (-16), 2) := by decide +kernel
theorem qm_Co_setConditions_50 : decode qm_Co_setConditions_c 50 = .ok (.iand, 1) := by decide +kernel
theorem qm_Co_setConditions_51 : decode qm_Co_setConditions_c 51 = .ok (.iload 5, 2) := by decide +kernel
theorem qm_Co_setConditions_53 : decode qm_Co_setConditions_c 53 = .ok (.ior, 1) := by decide +kernel
theorem qm_Co_setConditions_54 : decode qm_Co_setConditions_c 54 = .ok (.putfield 38, 3) := by decide +kernel
theorem qm_Co_setConditions_57 : decode qm_Co_setConditions_c 57 = .ok (.return_, 1) := by decide +kernel
theorem qm_Co_conclude_0 : decode qm_Co_conclude_c 0 = .ok (.aload_n 0, 1) := by decide +kernel
theorem qm_Co_conclude_1 : decode qm_Co_conclude_c 1 = .ok (.iload_n 1, 1) := by decide +kernel
theorem qm_Co_conclude_2 : decode qm_Co_conclude_c 2 = .ok (.ifCond .ge 7, 3) := by decide +kernel
theorem qm_Co_conclude_5 : decode qm_Co_conclude_c 5 = .ok (.iconst 1, 1) := by decide +kernel
theorem qm_Co_conclude_6 : decode qm_Co_conclude_c 6 = .ok (.goto 4, 3) := by decide +kernel
theorem qm_Co_conclude_9 : decode qm_Co_conclude_c 9 = .ok (.iconst 0, 1) := by decide +kernel
theorem qm_Co_conclude_10 : decode qm_Co_conclude_c 10 = .ok (.iload_n 1, 1) := by decide +kernel
theorem qm_Co_conclude_11 : decode qm_Co_conclude_c 11 = .ok (.ifCond .ne 7, 3) := by decide +kernel
theorem qm_Co_conclude_14 : decode qm_Co_conclude_c 14 = .ok (.iconst 1, 1) := by decide +kernel
theorem qm_Co_conclude_15 : decode qm_Co_conclude_c 15 = .ok (.goto 4, 3) := by decide +kernel
theorem qm_Co_conclude_18 : decode qm_Co_conclude_c 18 = .ok (.iconst 0, 1) := by decide +kernel
theorem qm_Co_conclude_19 : decode qm_Co_conclude_c 19 = .ok (.iload_n 2, 1) := by decide +kernel
theorem qm_Co_conclude_20 : decode qm_Co_conclude_c 20 = .ok (.iload_n 3, 1) := by decide +kernel
theorem qm_Co_conclude_21 : decode qm_Co_conclude_c 21 = .ok (.invokevirtual 50, 3) := by decide +kernel
theorem qm_Co_conclude_24 : decode qm_Co_conclude_c 24 = .ok (.return_, 1) := by decide +kernel
theorem qm_Co_write_0 : decode qm_Co_write_c 0 = .ok (.iconst 0, 1) := by decide +kernel
theorem qm_Co_write_1 : decode qm_Co_write_c 1 = .ok (.istore 4, 2) := by decide +kernel
theorem qm_Co_write_3 : decode qm_Co_write_c 3 = .ok (.iload 4, 2) := by decide +kernel
theorem qm_Co_write_5 : decode qm_Co_write_c 5 = .ok (.iload_n 3, 1) := by decide +kernel
theorem qm_Co_write_6 : decode qm_Co_write_c 6 = .ok (.if_icmp .ge 84, 3) := by decide +kernel
theorem qm_Co_write_9 : decode qm_Co_write_c 9 = .ok (.iload 4, 2) := by decide +kernel
theorem qm_Co_write_11 : decode qm_Co_write_c 11 = .ok (.iconst 4, 1) := by decide +kernel
theorem qm_Co_write_12 : decode qm_Co_write_c 12 = .ok (.if_icmp .ge 78, 3) := by decide +kernel
theorem qm_Co_write_15 : decode qm_Co_write_c 15 = .ok (.aload_n 0, 1) := by decide +kernel
theorem qm_Co_write_16 : decode qm_Co_write_c 16 = .ok (.getfield 54, 3) := by decide +kernel
theorem qm_Co_write_19 : decode qm_Co_write_c 19 = .ok (.ifCond .ne 71, 3) := by decide +kernel
theorem qm_Co_write_22 : decode qm_Co_write_c 22 = .ok (.aload_n 0, 1) := by decide +kernel
theorem qm_Co_write_23 : decode qm_Co_write_c 23 = .ok (.getfield 21, 3) := by decide +kernel
theorem qm_Co_write_26 : decode qm_Co_write_c 26 = .ok (.iload 4, 2) := by decide +kernel
theorem qm_Co_write_28 : decode qm_Co_write_c 28 = .ok (.aload_n 0, 1) := by decide +kernel
theorem qm_Co_write_29 : decode qm_Co_write_c 29 = .ok (.getfield 31, 3) := by decide +kernel
theorem qm_Co_write_32 : decode qm_Co_write_c 32 = .ok (.iload_n 1, 1) := by decide +kernel
theorem qm_Co_write_33 : decode qm_Co_write_c 33 = .ok (.iload 4, 2) := by decide +kernel
theorem qm_Co_write_35 : decode qm_Co_write_c 35 = .ok (.iadd, 1) := by decide +kernel
theorem qm_Co_write_36 : decode qm_Co_write_c 36 = .ok (.iconst 1, 1) := by decide +kernel
theorem qm_Co_write_37 : decode qm_Co_write_c 37 = .ok (.aload_n 0, 1) := by decide +kernel
theorem qm_Co_write_38 : decode qm_Co_write_c 38 = .ok (.invokevirtual 42, 3) := by decide +kernel
theorem qm_Co_write_41 : decode qm_Co_write_c 41 = .ok (.invokevirtual 84, 3) := by decide +kernel
theorem qm_Co_write_44 : decode qm_Co_write_c 44 = .ok (.iastore, 1) := by decide +kernel
theorem qm_Co_write_45 : decode qm_Co_write_c 45 = .ok (.aload_n 0, 1) := by decide +kernel
theorem qm_Co_write_46 : decode qm_Co_write_c 46 = .ok (.getfield 24, 3) := by decide +kernel
theorem qm_Co_write_49 : decode qm_Co_write_c 49 = .ok (.iload 4, 2) := by decide +kernel
theorem qm_Co_write_51 : decode qm_Co_write_c 51 = .ok (.aload_n 0, 1) := by decide +kernel
theorem qm_Co_write_52 : decode qm_Co_write_c 52 = .ok (.getfield 31, 3) := by decide +kernel
theorem qm_Co_write_55 : decode qm_Co_write_c 55 = .ok (.getfield 97, 3) := by decide +kernel
theorem qm_Co_write_58 : decode qm_Co_write_c 58 = .ok (.iastore, 1) := by decide +kernel
theorem qm_Co_write_59 : decode qm_Co_write_c 59 = .ok (.aload_n 0, 1) := by decide +kernel
theorem qm_Co_write_60 : decode qm_Co_write_c 60 = .ok (.getfield 21, 3) := by decide +kernel
theorem qm_Co_write_63 : decode qm_Co_write_c 63 = .ok (.iload 4, 2) := by decide +kernel
theorem qm_Co_write_65 : decode qm_Co_write_c 65 = .ok (.iaload, 1) := by decide +kernel
theorem qm_Co_write_66 : decode qm_Co_write_c 66 = .ok (.ifCond .ge 18, 3) := by decide +kernel
theorem qm_Co_write_69 : decode qm_Co_write_c 69 = .ok (.aload_n 0, 1) := by decide +kernel
theorem qm_Co_write_70 : decode qm_Co_write_c 70 = .ok (.aload_n 0, 1) := by decide +kernel
theorem qm_Co_write_71 : decode qm_Co_write_c 71 = .ok (.getfield 21, 3) := by decide +kernel
theorem qm_Co_write_74 : decode qm_Co_write_c 74 = .ok (.iload 4, 2) := by decide +kernel
theorem qm_Co_write_76 : decode qm_Co_write_c 76 = .ok (.iaload, 1) := by decide +kernel
theorem qm_Co_write_77 : decode qm_Co_write_c 77 = .ok (.iload_n 1, 1) := by decide +kernel
theorem qm_Co_write_78 : decode qm_Co_write_c 78 = .ok (.iload 4, 2) := by decide +kernel
theorem qm_Co_write_80 : decode qm_Co_write_c 80 = .ok (.iadd, 1) := by decide +kernel
theorem qm_Co_write_81 : decode qm_Co_write_c 81 = .ok (.invokevirtual 88, 3) := by decide +kernel
theorem qm_Co_write_84 : decode qm_Co_write_c 84 = .ok (.iinc 4 1, 3) := by decide +kernel
theorem qm_Co_write_87 : decode qm_Co_write_c 87 = .ok (.goto (-84), 3) := by decide +kernel
theorem qm_Co_write_90 : decode qm_Co_write_c 90 = .ok (.iconst 0, 1) := by decide +kernel
theorem qm_Co_write_91 : decode qm_Co_write_c 91 = .ok (.istore 4, 2) := by decide +kernel
theorem qm_Co_write_93 : decode qm_Co_write_c 93 = .ok (.iload 4, 2) := by decide +kernel
theorem qm_Co_write_95 : decode qm_Co_write_c 95 = .ok (.iload_n 3, 1) := by decide +kernel
theorem qm_Co_write_96 : decode qm_Co_write_c 96 = .ok (.if_icmp .ge 67, 3) := by decide +kernel
theorem qm_Co_write_99 : decode qm_Co_write_c 99 = .ok (.iload 4, 2) := by decide +kernel
theorem qm_Co_write_101 : decode qm_Co_write_c 101 = .ok (.iconst 4, 1) := by decide +kernel
theorem qm_Co_write_102 : decode qm_Co_write_c 102 = .ok (.if_icmp .ge 61, 3) := by decide +kernel
theorem qm_Co_write_105 : decode qm_Co_write_c 105 = .ok (.aload_n 0, 1) := by decide +kernel
theorem qm_Co_write_106 : decode qm_Co_write_c 106 = .ok (.getfield 54, 3) := by decide +kernel
theorem qm_Co_write_109 : decode qm_Co_write_c 109 = .ok (.ifCond .ne 54, 3) := by decide +kernel
theorem qm_Co_write_112 : decode qm_Co_write_c 112 = .ok (.aload_n 0, 1) := by decide +kernel
theorem qm_Co_write_113 : decode qm_Co_write_c 113 = .ok (.getfield 24, 3) := by decide +kernel
theorem qm_Co_write_116 : decode qm_Co_write_c 116 = .ok (.iload 4, 2) := by decide +kernel
theorem qm_Co_write_118 : decode qm_Co_write_c 118 = .ok (.iaload, 1) := by decide +kernel
theorem qm_Co_write_119 : decode qm_Co_write_c 119 = .ok (.ifCond .lt 17, 3) := by decide +kernel
theorem qm_Co_write_122 : decode qm_Co_write_c 122 = .ok (.aload_n 0, 1) := by decide +kernel
theorem qm_Co_write_123 : decode qm_Co_write_c 123 = .ok (.getfield 31, 3) := by decide +kernel
theorem qm_Co_write_126 : decode qm_Co_write_c 126 = .ok (.aload_n 0, 1) := by decide +kernel
theorem qm_Co_write_127 : decode qm_Co_write_c 127 = .ok (.getfield 24, 3) := by decide +kernel
theorem qm_Co_write_130 : decode qm_Co_write_c 130 = .ok (.iload 4, 2) := by decide +kernel
theorem qm_Co_write_132 : decode qm_Co_write_c 132 = .ok (.iaload, 1) := by decide +kernel
theorem qm_Co_write_133 : decode qm_Co_write_c 133 = .ok (.invokevirtual 100, 3) := by decide +kernel
theorem qm_Co_write_136 : decode qm_Co_write_c 136 = .ok (.aload_n 0, 1) := by decide +kernel
theorem qm_Co_write_137 : decode qm_Co_write_c 137 = .ok (.getfield 27, 3) := by decide +kernel
theorem qm_Co_write_140 : decode qm_Co_write_c 140 = .ok (.aload_n 0, 1) := by decide +kernel
theorem qm_Co_write_141 : decode qm_Co_write_c 141 = .ok (.getfield 21, 3) := by decide +kernel
theorem qm_Co_write_144 : decode qm_Co_write_c 144 = .ok (.iload 4, 2) := by decide +kernel
theorem qm_Co_write_146 : decode qm_Co_write_c 146 = .ok (.iaload, 1) := by decide +kernel
theorem qm_Co_write_147 : decode qm_Co_write_c 147 = .ok (.iload_n 2, 1) := by decide +kernel
theorem qm_Co_write_148 : decode qm_Co_write_c 148 = .ok (.bipush 8, 2) := by decide +kernel
theorem qm_Co_write_150 : decode qm_Co_write_c 150 = .ok (.iload 4, 2) := by decide +kernel
theorem qm_Co_write_152 : decode qm_Co_write_c 152 = .ok (.imul, 1) := by decide +kernel
theorem qm_Co_write_153 : decode qm_Co_write_c 153 = .ok (.iushr, 1) := by decide +kernel
theorem qm_Co_write_154 : decode qm_Co_write_c 154 = .ok (.invokevirtual 104, 3) := by decide +kernel
theorem qm_Co_write_157 : decode qm_Co_write_c 157 = .ok (.iinc 4 1, 3) := by decide +kernel
theorem qm_Co_write_160 : decode qm_Co_write_c 160 = .ok (.goto (-67), 3) := by decide +kernel
theorem qm_Co_write_163 : decode qm_Co_write_c 163 = .ok (.return_, 1) := by decide +kernel
theorem qm_Co_push_0 : decode qm_Co_push_c 0 = .ok (.aload_n 0, 1) := by decide +kernel
theorem qm_Co_push_1 : decode qm_Co_push_c 1 = .ok (.aload_n 0, 1) := by decide +kernel
theorem qm_Co_push_2 : decode qm_Co_push_c 2 = .ok (.bipush 14, 2) := by decide +kernel
theorem qm_Co_push_4 : decode qm_Co_push_c 4 = .ok (.invokevirtual 107, 3) := by decide +kernel
theorem qm_Co_push_7 : decode qm_Co_push_c 7 = .ok (.iconst 4, 1) := by decide +kernel
theorem qm_Co_push_8 : decode qm_Co_push_c 8 = .ok (.isub, 1) := by decide +kernel
theorem qm_Co_push_9 : decode qm_Co_push_c 9 = .ok (.iload_n 1, 1) := by decide +kernel
theorem qm_Co_push_10 : decode qm_Co_push_c 10 = .ok (.iconst 4, 1) := by decide +kernel
theorem qm_Co_push_11 : decode qm_Co_push_c 11 = .ok (.invokevirtual 117, 3) := by decide +kernel
theorem qm_Co_push_14 : decode qm_Co_push_c 14 = .ok (.aload_n 0, 1) := by decide +kernel
theorem qm_Co_push_15 : decode qm_Co_push_c 15 = .ok (.bipush 14, 2) := by decide +kernel
theorem qm_Co_push_17 : decode qm_Co_push_c 17 = .ok (.aload_n 0, 1) := by decide +kernel
theorem qm_Co_push_18 : decode qm_Co_push_c 18 = .ok (.bipush 14, 2) := by decide +kernel
theorem qm_Co_push_20 : decode qm_Co_push_c 20 = .ok (.invokevirtual 107, 3) := by decide +kernel
theorem qm_Co_push_23 : decode qm_Co_push_c 23 = .ok (.iconst 4, 1) := by decide +kernel
theorem qm_Co_push_24 : decode qm_Co_push_c 24 = .ok (.isub, 1) := by decide +kernel
theorem qm_Co_push_25 : decode qm_Co_push_c 25 = .ok (.invokevirtual 114, 3) := by decide +kernel
theorem qm_Co_push_28 : decode qm_Co_push_c 28 = .ok (.return_, 1) := by decide +kernel
theorem qm_Co_previous_0 : decode qm_Co_previous_c 0 = .ok (.aload_n 0, 1) := by decide +kernel
theorem qm_Co_previous_1 : decode qm_Co_previous_c 1 = .ok (.getfield 38, 3) := by decide +kernel
theorem qm_Co_previous_4 : decode qm_Co_previous_c 4 = .ok (.bipush 22, 2) := by decide +kernel
theorem qm_Co_previous_6 : decode qm_Co_previous_c 6 = .ok (.iushr, 1) := by decide +kernel
theorem qm_Co_previous_7 : decode qm_Co_previous_c 7 = .ok (.iconst 3, 1) := by decide +kernel
theorem qm_Co_previous_8 : decode qm_Co_previous_c 8 = .ok (.iand, 1) := by decide +kernel
theorem qm_Co_previous_9 : decode qm_Co_previous_c 9 = .ok (.ireturn, 1) := by decide +kernel
theorem qm_Co_admits_0 : decode qm_Co_admits_c 0 = .ok (.aload_n 0, 1) := by decide +kernel
theorem qm_Co_admits_1 : decode qm_Co_admits_c 1 = .ok (.getfield 31, 3) := by decide +kernel
theorem qm_Co_admits_4 : decode qm_Co_admits_c 4 = .ok (.iload_n 1, 1) := by decide +kernel
theorem qm_Co_admits_5 : decode qm_Co_admits_c 5 = .ok (.iload_n 2, 1) := by decide +kernel
theorem qm_Co_admits_6 : decode qm_Co_admits_c 6 = .ok (.iload_n 3, 1) := by decide +kernel
theorem qm_Co_admits_7 : decode qm_Co_admits_c 7 = .ok (.invokevirtual 84, 3) := by decide +kernel
theorem qm_Co_admits_10 : decode qm_Co_admits_c 10 = .ok (.istore 4, 2) := by decide +kernel
theorem qm_Co_admits_12 : decode qm_Co_admits_c 12 = .ok (.iload 4, 2) := by decide +kernel
theorem qm_Co_admits_14 : decode qm_Co_admits_c 14 = .ok (.ifCond .lt 5, 3) := by decide +kernel
theorem qm_Co_admits_17 : decode qm_Co_admits_c 17 = .ok (.iconst 1, 1) := by decide +kernel
theorem qm_Co_admits_18 : decode qm_Co_admits_c 18 = .ok (.ireturn, 1) := by decide +kernel
theorem qm_Co_admits_19 : decode qm_Co_admits_c 19 = .ok (.iload 4, 2) := by decide +kernel
theorem qm_Co_admits_21 : decode qm_Co_admits_c 21 = .ok (.invokestatic 69, 3) := by decide +kernel
theorem qm_Co_admits_24 : decode qm_Co_admits_c 24 = .ok (.iconst 4, 1) := by decide +kernel
theorem qm_Co_admits_25 : decode qm_Co_admits_c 25 = .ok (.if_icmp .ne 5, 3) := by decide +kernel
theorem qm_Co_admits_28 : decode qm_Co_admits_c 28 = .ok (.iconst 0, 1) := by decide +kernel
theorem qm_Co_admits_29 : decode qm_Co_admits_c 29 = .ok (.ireturn, 1) := by decide +kernel
theorem qm_Co_admits_30 : decode qm_Co_admits_c 30 = .ok (.iload 4, 2) := by decide +kernel
theorem qm_Co_admits_32 : decode qm_Co_admits_c 32 = .ok (.invokestatic 75, 3) := by decide +kernel
theorem qm_Co_admits_35 : decode qm_Co_admits_c 35 = .ok (.iconst 2, 1) := by decide +kernel
theorem qm_Co_admits_36 : decode qm_Co_admits_c 36 = .ok (.iand, 1) := by decide +kernel
theorem qm_Co_admits_37 : decode qm_Co_admits_c 37 = .ok (.ifCond .eq 10, 3) := by decide +kernel
theorem qm_Co_admits_40 : decode qm_Co_admits_c 40 = .ok (.aload_n 0, 1) := by decide +kernel
theorem qm_Co_admits_41 : decode qm_Co_admits_c 41 = .ok (.iload 4, 2) := by decide +kernel
theorem qm_Co_admits_43 : decode qm_Co_admits_c 43 = .ok (.iload_n 1, 1) := by decide +kernel
theorem qm_Co_admits_44 : decode qm_Co_admits_c 44 = .ok (.invokevirtual 88, 3) := by decide +kernel
theorem qm_Co_admits_47 : decode qm_Co_admits_c 47 = .ok (.iconst 1, 1) := by decide +kernel
theorem qm_Co_admits_48 : decode qm_Co_admits_c 48 = .ok (.ireturn, 1) := by decide +kernel
theorem qm_Co_has_0 : decode qm_Co_has_c 0 = .ok (.aload_n 0, 1) := by decide +kernel
theorem qm_Co_has_1 : decode qm_Co_has_c 1 = .ok (.getfield 38, 3) := by decide +kernel
theorem qm_Co_has_4 : decode qm_Co_has_c 4 = .ok (.iload_n 1, 1) := by decide +kernel
theorem qm_Co_has_5 : decode qm_Co_has_c 5 = .ok (.iand, 1) := by decide +kernel
theorem qm_Co_has_6 : decode qm_Co_has_c 6 = .ok (.ifCond .eq 7, 3) := by decide +kernel
theorem qm_Co_has_9 : decode qm_Co_has_c 9 = .ok (.iconst 1, 1) := by decide +kernel
theorem qm_Co_has_10 : decode qm_Co_has_c 10 = .ok (.goto 4, 3) := by decide +kernel
theorem qm_Co_has_13 : decode qm_Co_has_c 13 = .ok (.iconst 0, 1) := by decide +kernel
theorem qm_Co_has_14 : decode qm_Co_has_c 14 = .ok (.ireturn, 1) := by decide +kernel
theorem qm_Co_takeBack_0 : decode qm_Co_takeBack_c 0 = .ok (.aload_n 0, 1) := by decide +kernel
theorem qm_Co_takeBack_1 : decode qm_Co_takeBack_c 1 = .ok (.aload_n 0, 1) := by decide +kernel
theorem qm_Co_takeBack_2 : decode qm_Co_takeBack_c 2 = .ok (.getfield 60, 3) := by decide +kernel
theorem qm_Co_takeBack_5 : decode qm_Co_takeBack_c 5 = .ok (.putfield 38, 3) := by decide +kernel
theorem qm_Co_takeBack_8 : decode qm_Co_takeBack_c 8 = .ok (.aload_n 0, 1) := by decide +kernel
theorem qm_Co_takeBack_9 : decode qm_Co_takeBack_c 9 = .ok (.getfield 15, 3) := by decide +kernel
theorem qm_Co_takeBack_12 : decode qm_Co_takeBack_c 12 = .ok (.iconst 0, 1) := by decide +kernel
theorem qm_Co_takeBack_13 : decode qm_Co_takeBack_c 13 = .ok (.aload_n 0, 1) := by decide +kernel
theorem qm_Co_takeBack_14 : decode qm_Co_takeBack_c 14 = .ok (.getfield 9, 3) := by decide +kernel
theorem qm_Co_takeBack_17 : decode qm_Co_takeBack_c 17 = .ok (.iconst 0, 1) := by decide +kernel
theorem qm_Co_takeBack_18 : decode qm_Co_takeBack_c 18 = .ok (.bipush 16, 2) := by decide +kernel
theorem qm_Co_takeBack_20 : decode qm_Co_takeBack_c 20 = .ok (.invokestatic 63, 3) := by decide +kernel
theorem qm_Co_takeBack_23 : decode qm_Co_takeBack_c 23 = .ok (.aload_n 0, 1) := by decide +kernel
theorem qm_Co_takeBack_24 : decode qm_Co_takeBack_c 24 = .ok (.getfield 18, 3) := by decide +kernel
theorem qm_Co_takeBack_27 : decode qm_Co_takeBack_c 27 = .ok (.iconst 0, 1) := by decide +kernel
theorem qm_Co_takeBack_28 : decode qm_Co_takeBack_c 28 = .ok (.aload_n 0, 1) := by decide +kernel
theorem qm_Co_takeBack_29 : decode qm_Co_takeBack_c 29 = .ok (.getfield 35, 3) := by decide +kernel
theorem qm_Co_takeBack_32 : decode qm_Co_takeBack_c 32 = .ok (.iconst 0, 1) := by decide +kernel
theorem qm_Co_takeBack_33 : decode qm_Co_takeBack_c 33 = .ok (.iconst 4, 1) := by decide +kernel
theorem qm_Co_takeBack_34 : decode qm_Co_takeBack_c 34 = .ok (.invokestatic 63, 3) := by decide +kernel
theorem qm_Co_takeBack_37 : decode qm_Co_takeBack_c 37 = .ok (.return_, 1) := by decide +kernel
set_option maxHeartbeats 4000000 in
set_option maxRecDepth 100000 in
theorem wCo_mode {l : Launch} {D : va_G} {h : Nat → Nat} {K : Nat → ClassId} {res : Int32 × qS} {p : Program} {e : Env} {s : State} {m : MethodId} {args : Array Value} {below : List Frame} {meth : Method} {c : Code} {A : Nat → Prop} {ad : Nat → Nat} (C : qC p s m args meth c qm_Co_mode_c 1 (some .int) qR_Co ad) (S : qS) (hf : fCo_mode S = some res) : ∀ (H : Heap) (locs : List Loc) (ls : Array Slot), qG D qCl (cT K) A s (cW h K S) H locs → lv_has ls 1 [(0, .ref (h 5))] → W p l e ({ frames := 0, cells := 0, slots := 0, locals := 0 }) s m args below meth c H locs 0 0 (MQ below (qQi D qCl (cT K) (cW h K) A res) args s 0 0 A) (F0 m 0 ls []) := by
  intro H locs ls G hl
  unfold fCo_mode at hf
  refine lv_aload_n C.1 C.2.1 qm_Co_mode_0 rfl (lv_at hl 0 rfl) ?_
  refine q_get (wf := (cW h K)) (v := .int (S.1 6)) C G qi_Co 5 rfl rfl 9 (by decide) qz_136 rfl qm_Co_mode_1 ?_
  refine lv_bipush (v := 24) C.1 C.2.1 qm_Co_mode_4 (by decide) ?_
  refine lv_iushr (v := ushr (S.1 6) 24) C.1 C.2.1 qm_Co_mode_6 rfl ?_
  refine lv_iconst (v := 3) C.1 C.2.1 qm_Co_mode_7 (by decide) ?_
  refine lv_iand C.1 C.2.1 qm_Co_mode_8 ?_
  exact q_iret (wf := (cW h K)) C G hf qm_Co_mode_9
theorem kCo_mode {l : Launch} {ad : Nat → Nat} {D : va_G} {h : Nat → Nat} {K : Nat → ClassId} {res : Int32 × qS} {S : qS} (hf : fCo_mode S = some res) : qMi l qm_Co_mode qm_Co_mode_c 1 .int 0 0 D qCl (cT K) ad (cW h K) [.ref (h 5)] S res := qMi_of (by decide) (Nat.le_of_ble_eq_true rfl) (fun _ _ _ _ _ _ _ _ _ _ C G hl => wCo_mode C S hf _ _ _ G hl)
set_option maxHeartbeats 4000000 in
set_option maxRecDepth 100000 in
theorem wCo_put_29 {l : Launch} {D : va_G} {h : Nat → Nat} {K : Nat → ClassId} {res : qS} {p : Program} {e : Env} {s : State} {m : MethodId} {args : Array Value} {below : List Frame} {meth : Method} {c : Code} {A : Nat → Prop} {ad : Nat → Nat} (C : qC p s m args meth c qm_Co_put_c 3 none qR_Co ad) (S : qS) (hf : fCo_put_29 S = some res) : ∀ (H : Heap) (locs : List Loc) (ls : Array Slot), qG D qCl (cT K) A s (cW h K S) H locs → lv_has ls 3 [] → W p l e ({ frames := 1, cells := 0, slots := 0, locals := 20 }) s m args below meth c H locs 0 0 (MQ below (qQv D qCl (cT K) (cW h K) A res) args s 0 0 A) (F0 m 29 ls []) := by
  intro H locs ls G hl
  unfold fCo_put_29 at hf
  exact q_vret (wf := (cW h K)) C G hf qm_Co_put_29
set_option maxHeartbeats 4000000 in
set_option maxRecDepth 100000 in
theorem wCo_put {l : Launch} {D : va_G} {h : Nat → Nat} {K : Nat → ClassId} {res : qS} {p : Program} {e : Env} {s : State} {m : MethodId} {args : Array Value} {below : List Frame} {meth : Method} {c : Code} {A : Nat → Prop} {ad : Nat → Nat} (C : qC p s m args meth c qm_Co_put_c 3 none qR_Co ad) (S : qS) (a1 : Int32) (a2 : Int32) (hf : fCo_put S a1 a2 = some res) : ∀ (H : Heap) (locs : List Loc) (ls : Array Slot), qG D qCl (cT K) A s (cW h K S) H locs → lv_has ls 3 [(0, .ref (h 5)), (1, .int a1), (2, .int a2)] → W p l e ({ frames := 1, cells := 0, slots := 0, locals := 20 }) s m args below meth c H locs 0 0 (MQ below (qQv D qCl (cT K) (cW h K) A res) args s 0 0 A) (F0 m 0 ls []) := by
  intro H locs ls G hl
  unfold fCo_put at hf
  refine lv_iload_n C.1 C.2.1 qm_Co_put_0 rfl (lv_at hl 1 rfl) ?_
  refine lv_bipush (v := 14) C.1 C.2.1 qm_Co_put_1 (by decide) ?_
  refine lv_icmp_ne (tgt := 19) C.1 C.2.1 qm_Co_put_3 (by decide) (fun b1 => ?_) (fun b1 => ?_)
  · have hf := if_t b1 hf
    refine lv_aload_n C.1 C.2.1 qm_Co_put_19 rfl (lv_at hl 0 rfl) ?_
    refine q_get (wf := (cW h K)) (v := .ref (h 6)) C G qi_Co 5 rfl rfl 3 (by decide) qz_130 rfl qm_Co_put_20 ?_
    refine lv_iload_n C.1 C.2.1 qm_Co_put_23 rfl (lv_at hl 1 rfl) ?_
    refine lv_bipush (v := 15) C.1 C.2.1 qm_Co_put_24 (by decide) ?_
    refine lv_iand C.1 C.2.1 qm_Co_put_26 ?_
    refine lv_iload_n C.1 C.2.1 qm_Co_put_27 rfl (lv_at hl 2 rfl) ?_
    obtain ⟨b2, hf⟩ := chk_s hf
    refine q_iast (wf := (cW h K)) (S' := (pA S 2 (a1 &&& 15) a2)) C G 6 2 rfl rfl b2 rfl qm_Co_put_28 (fun H locs G => ?_)
    exact wCo_put_29 C (pA S 2 (a1 &&& 15) a2) hf _ _ _ G (lv_sub hl [] rfl)
  · have hf := if_f (not_not_intro b1) hf
    refine lv_aload_n C.1 C.2.1 qm_Co_put_6 rfl (lv_at hl 0 rfl) ?_
    refine q_get (wf := (cW h K)) (v := .ref (h 3)) C G qi_Co 5 rfl rfl 2 (by decide) qz_129 rfl qm_Co_put_7 ?_
    refine lv_aload_n C.1 C.2.1 qm_Co_put_10 rfl (lv_at hl 0 rfl) ?_
    obtain ⟨q3, c3, hf⟩ := bnd_s hf
    refine q_callVi (wf := (cW h K)) (n := 0) (As := []) (q0 := 5) (ci := 1) C G hl.1 (kCo_mode (l := l) c3) qx_Co_42 qm_Co_mode_d ⟨by decide, by decide⟩ ⟨Nat.le_refl _, Nat.le_refl _⟩ rfl rfl rfl rfl rfl (Nat.le_of_ble_eq_true rfl) qm_Co_put_11 (fun H locs G => ?_)
    refine lv_iload_n C.1 C.2.1 qm_Co_put_14 rfl (lv_at hl 2 rfl) ?_
    obtain ⟨b4, hf⟩ := chk_s hf
    refine q_iast (wf := (cW h K)) (S' := (pA q3.2 1 q3.1 a2)) C G 3 1 rfl rfl b4 rfl qm_Co_put_15 (fun H locs G => ?_)
    refine lv_goto (tgt := 29) C.1 C.2.1 qm_Co_put_16 (by decide) ?_
    exact wCo_put_29 C (pA q3.2 1 q3.1 a2) hf _ _ _ G (lv_sub hl [] rfl)
theorem kCo_put {l : Launch} {ad : Nat → Nat} {D : va_G} {h : Nat → Nat} {K : Nat → ClassId} {res : qS} {S : qS} {a1 : Int32} {a2 : Int32} (hf : fCo_put S a1 a2 = some res) : qMv l qm_Co_put qm_Co_put_c 3 1 20 D qCl (cT K) ad (cW h K) [.ref (h 5), .int a1, .int a2] S res := qMv_of (by decide) (Nat.le_of_ble_eq_true rfl) (fun _ _ _ _ _ _ _ _ _ _ C G hl => wCo_put C S a1 a2 hf _ _ _ G hl)
set_option maxHeartbeats 4000000 in
set_option maxRecDepth 100000 in
theorem wCo_get_27 {l : Launch} {D : va_G} {h : Nat → Nat} {K : Nat → ClassId} {res : Int32 × qS} {p : Program} {e : Env} {s : State} {m : MethodId} {args : Array Value} {below : List Frame} {meth : Method} {c : Code} {A : Nat → Prop} {ad : Nat → Nat} (C : qC p s m args meth c qm_Co_get_c 2 (some .int) qR_Co ad) (S : qS) (y0 : Int32) (hf : fCo_get_27 S y0 = some res) : ∀ (H : Heap) (locs : List Loc) (ls : Array Slot), qG D qCl (cT K) A s (cW h K S) H locs → lv_has ls 2 [] → W p l e ({ frames := 1, cells := 0, slots := 0, locals := 20 }) s m args below meth c H locs 0 0 (MQ below (qQi D qCl (cT K) (cW h K) A res) args s 0 0 A) (F0 m 27 ls [.int y0]) := by
  intro H locs ls G hl
  unfold fCo_get_27 at hf
  exact q_iret (wf := (cW h K)) C G hf qm_Co_get_27
set_option maxHeartbeats 4000000 in
set_option maxRecDepth 100000 in
theorem wCo_get {l : Launch} {D : va_G} {h : Nat → Nat} {K : Nat → ClassId} {res : Int32 × qS} {p : Program} {e : Env} {s : State} {m : MethodId} {args : Array Value} {below : List Frame} {meth : Method} {c : Code} {A : Nat → Prop} {ad : Nat → Nat} (C : qC p s m args meth c qm_Co_get_c 2 (some .int) qR_Co ad) (S : qS) (a1 : Int32) (hf : fCo_get S a1 = some res) : ∀ (H : Heap) (locs : List Loc) (ls : Array Slot), qG D qCl (cT K) A s (cW h K S) H locs → lv_has ls 2 [(0, .ref (h 5)), (1, .int a1)] → W p l e ({ frames := 1, cells := 0, slots := 0, locals := 20 }) s m args below meth c H locs 0 0 (MQ below (qQi D qCl (cT K) (cW h K) A res) args s 0 0 A) (F0 m 0 ls []) := by
  intro H locs ls G hl
  unfold fCo_get at hf
  refine lv_iload_n C.1 C.2.1 qm_Co_get_0 rfl (lv_at hl 1 rfl) ?_
  refine lv_bipush (v := 14) C.1 C.2.1 qm_Co_get_1 (by decide) ?_
  refine lv_icmp_ne (tgt := 18) C.1 C.2.1 qm_Co_get_3 (by decide) (fun b1 => ?_) (fun b1 => ?_)
  · have hf := if_t b1 hf
    refine lv_aload_n C.1 C.2.1 qm_Co_get_18 rfl (lv_at hl 0 rfl) ?_
    refine q_get (wf := (cW h K)) (v := .ref (h 6)) C G qi_Co 5 rfl rfl 3 (by decide) qz_130 rfl qm_Co_get_19 ?_
    refine lv_iload_n C.1 C.2.1 qm_Co_get_22 rfl (lv_at hl 1 rfl) ?_
    refine lv_bipush (v := 15) C.1 C.2.1 qm_Co_get_23 (by decide) ?_
    refine lv_iand C.1 C.2.1 qm_Co_get_25 ?_
    obtain ⟨b2, hf⟩ := chk_s hf
    refine q_iald (wf := (cW h K)) C G 6 2 rfl rfl b2 qm_Co_get_26 ?_
    exact wCo_get_27 C S (gA S 2 (a1 &&& 15)) hf _ _ _ G (lv_sub hl [] rfl)
  · have hf := if_f (not_not_intro b1) hf
    refine lv_aload_n C.1 C.2.1 qm_Co_get_6 rfl (lv_at hl 0 rfl) ?_
    refine q_get (wf := (cW h K)) (v := .ref (h 3)) C G qi_Co 5 rfl rfl 2 (by decide) qz_129 rfl qm_Co_get_7 ?_
    refine lv_aload_n C.1 C.2.1 qm_Co_get_10 rfl (lv_at hl 0 rfl) ?_
    obtain ⟨q3, c3, hf⟩ := bnd_s hf
    refine q_callVi (wf := (cW h K)) (n := 0) (As := []) (q0 := 5) (ci := 1) C G hl.1 (kCo_mode (l := l) c3) qx_Co_42 qm_Co_mode_d ⟨by decide, by decide⟩ ⟨Nat.le_refl _, Nat.le_refl _⟩ rfl rfl rfl rfl rfl (Nat.le_of_ble_eq_true rfl) qm_Co_get_11 (fun H locs G => ?_)
    obtain ⟨b4, hf⟩ := chk_s hf
    refine q_iald (wf := (cW h K)) C G 3 1 rfl rfl b4 qm_Co_get_14 ?_
    refine lv_goto (tgt := 27) C.1 C.2.1 qm_Co_get_15 (by decide) ?_
    exact wCo_get_27 C q3.2 (gA q3.2 1 q3.1) hf _ _ _ G (lv_sub hl [] rfl)
theorem kCo_get {l : Launch} {ad : Nat → Nat} {D : va_G} {h : Nat → Nat} {K : Nat → ClassId} {res : Int32 × qS} {S : qS} {a1 : Int32} (hf : fCo_get S a1 = some res) : qMi l qm_Co_get qm_Co_get_c 2 .int 1 20 D qCl (cT K) ad (cW h K) [.ref (h 5), .int a1] S res := qMi_of (by decide) (Nat.le_of_ble_eq_true rfl) (fun _ _ _ _ _ _ _ _ _ _ C G hl => wCo_get C S a1 hf _ _ _ G hl)
set_option maxHeartbeats 4000000 in
set_option maxRecDepth 100000 in
theorem wCo_hasInner_38 {l : Launch} {D : va_G} {h : Nat → Nat} {K : Nat → ClassId} {res : Int32 × qS} {p : Program} {e : Env} {s : State} {m : MethodId} {args : Array Value} {below : List Frame} {meth : Method} {c : Code} {A : Nat → Prop} {ad : Nat → Nat} (C : qC p s m args meth c qm_Co_hasInner_c 2 (some .boolean) qR_Co ad) (S : qS) (y0 : Int32) (hf : fCo_hasInner_38 S y0 = some res) : ∀ (H : Heap) (locs : List Loc) (ls : Array Slot), qG D qCl (cT K) A s (cW h K S) H locs → lv_has ls 2 [] → W p l e ({ frames := 0, cells := 0, slots := 0, locals := 0 }) s m args below meth c H locs 0 0 (MQ below (qQi D qCl (cT K) (cW h K) A res) args s 0 0 A) (F0 m 38 ls [.int y0]) := by
  intro H locs ls G hl
  unfold fCo_hasInner_38 at hf
  exact q_zret (wf := (cW h K)) C G hf qm_Co_hasInner_38
set_option maxHeartbeats 4000000 in
set_option maxRecDepth 100000 in
theorem wCo_hasInner_33 {l : Launch} {D : va_G} {h : Nat → Nat} {K : Nat → ClassId} {res : Int32 × qS} {p : Program} {e : Env} {s : State} {m : MethodId} {args : Array Value} {below : List Frame} {meth : Method} {c : Code} {A : Nat → Prop} {ad : Nat → Nat} (C : qC p s m args meth c qm_Co_hasInner_c 2 (some .boolean) qR_Co ad) (S : qS) (hf : fCo_hasInner_33 S = some res) : ∀ (H : Heap) (locs : List Loc) (ls : Array Slot), qG D qCl (cT K) A s (cW h K S) H locs → lv_has ls 2 [] → W p l e ({ frames := 0, cells := 0, slots := 0, locals := 0 }) s m args below meth c H locs 0 0 (MQ below (qQi D qCl (cT K) (cW h K) A res) args s 0 0 A) (F0 m 33 ls []) := by
  intro H locs ls G hl
  unfold fCo_hasInner_33 at hf
  refine lv_iconst (v := 1) C.1 C.2.1 qm_Co_hasInner_33 (by decide) ?_
  refine lv_goto (tgt := 38) C.1 C.2.1 qm_Co_hasInner_34 (by decide) ?_
  exact wCo_hasInner_38 C S 1 hf _ _ _ G (lv_sub hl [] rfl)
set_option maxHeartbeats 4000000 in
set_option maxRecDepth 100000 in
theorem wCo_hasInner_21 {l : Launch} {D : va_G} {h : Nat → Nat} {K : Nat → ClassId} {res : Int32 × qS} {p : Program} {e : Env} {s : State} {m : MethodId} {args : Array Value} {below : List Frame} {meth : Method} {c : Code} {A : Nat → Prop} {ad : Nat → Nat} (C : qC p s m args meth c qm_Co_hasInner_c 2 (some .boolean) qR_Co ad) (S : qS) (x1 : Int32) (hf : fCo_hasInner_21 S x1 = some res) : ∀ (H : Heap) (locs : List Loc) (ls : Array Slot), qG D qCl (cT K) A s (cW h K S) H locs → lv_has ls 2 [(1, .int x1)] → W p l e ({ frames := 0, cells := 0, slots := 0, locals := 0 }) s m args below meth c H locs 0 0 (MQ below (qQi D qCl (cT K) (cW h K) A res) args s 0 0 A) (F0 m 21 ls []) := by
  intro H locs ls G hl
  unfold fCo_hasInner_21 at hf
  refine lv_iload_n C.1 C.2.1 qm_Co_hasInner_21 rfl (lv_at hl 0 rfl) ?_
  refine lv_bipush (v := 17) C.1 C.2.1 qm_Co_hasInner_22 (by decide) ?_
  refine lv_icmp_eq (tgt := 33) C.1 C.2.1 qm_Co_hasInner_24 (by decide) (fun b1 => ?_) (fun b1 => ?_)
  · have hf := if_t b1 hf
    exact wCo_hasInner_33 C S hf _ _ _ G (lv_sub hl [] rfl)
  · have hf := if_f b1 hf
    refine lv_iload_n C.1 C.2.1 qm_Co_hasInner_27 rfl (lv_at hl 0 rfl) ?_
    refine lv_bipush (v := 56) C.1 C.2.1 qm_Co_hasInner_28 (by decide) ?_
    refine lv_icmp_ne (tgt := 37) C.1 C.2.1 qm_Co_hasInner_30 (by decide) (fun b2 => ?_) (fun b2 => ?_)
    · have hf := if_t b2 hf
      refine lv_iconst (v := 0) C.1 C.2.1 qm_Co_hasInner_37 (by decide) ?_
      exact wCo_hasInner_38 C S 0 hf _ _ _ G (lv_sub hl [] rfl)
    · have hf := if_f (not_not_intro b2) hf
      exact wCo_hasInner_33 C S hf _ _ _ G (lv_sub hl [] rfl)
set_option maxHeartbeats 4000000 in
set_option maxRecDepth 100000 in
theorem wCo_hasInner_9 {l : Launch} {D : va_G} {h : Nat → Nat} {K : Nat → ClassId} {res : Int32 × qS} {p : Program} {e : Env} {s : State} {m : MethodId} {args : Array Value} {below : List Frame} {meth : Method} {c : Code} {A : Nat → Prop} {ad : Nat → Nat} (C : qC p s m args meth c qm_Co_hasInner_c 2 (some .boolean) qR_Co ad) (S : qS) (x1 : Int32) (hf : fCo_hasInner_9 S x1 = some res) : ∀ (H : Heap) (locs : List Loc) (ls : Array Slot), qG D qCl (cT K) A s (cW h K S) H locs → lv_has ls 2 [(1, .int x1)] → W p l e ({ frames := 0, cells := 0, slots := 0, locals := 0 }) s m args below meth c H locs 0 0 (MQ below (qQi D qCl (cT K) (cW h K) A res) args s 0 0 A) (F0 m 9 ls []) := by
  intro H locs ls G hl
  unfold fCo_hasInner_9 at hf
  refine lv_iload_n C.1 C.2.1 qm_Co_hasInner_9 rfl (lv_at hl 0 rfl) ?_
  refine lv_bipush (v := 8) C.1 C.2.1 qm_Co_hasInner_10 (by decide) ?_
  refine lv_icmp_lt (tgt := 21) C.1 C.2.1 qm_Co_hasInner_12 (by decide) (fun b1 => ?_) (fun b1 => ?_)
  · have hf := if_t b1 hf
    exact wCo_hasInner_21 C S x1 hf _ _ _ G (lv_sub hl [0] rfl)
  · have hf := if_f b1 hf
    refine lv_iload_n C.1 C.2.1 qm_Co_hasInner_15 rfl (lv_at hl 0 rfl) ?_
    refine lv_bipush (v := 13) C.1 C.2.1 qm_Co_hasInner_16 (by decide) ?_
    refine lv_icmp_le (tgt := 33) C.1 C.2.1 qm_Co_hasInner_18 (by decide) (fun b2 => ?_) (fun b2 => ?_)
    · have hf := if_t b2 hf
      exact wCo_hasInner_33 C S hf _ _ _ G (lv_sub hl [] rfl)
    · have hf := if_f b2 hf
      exact wCo_hasInner_21 C S x1 hf _ _ _ G (lv_sub hl [0] rfl)
set_option maxHeartbeats 4000000 in
set_option maxRecDepth 100000 in
theorem wCo_hasInner {l : Launch} {D : va_G} {h : Nat → Nat} {K : Nat → ClassId} {res : Int32 × qS} {p : Program} {e : Env} {s : State} {m : MethodId} {args : Array Value} {below : List Frame} {meth : Method} {c : Code} {A : Nat → Prop} {ad : Nat → Nat} (C : qC p s m args meth c qm_Co_hasInner_c 2 (some .boolean) qR_Co ad) (S : qS) (a1 : Int32) (hf : fCo_hasInner S a1 = some res) : ∀ (H : Heap) (locs : List Loc) (ls : Array Slot), qG D qCl (cT K) A s (cW h K S) H locs → lv_has ls 2 [(0, .ref (h 5)), (1, .int a1)] → W p l e ({ frames := 0, cells := 0, slots := 0, locals := 0 }) s m args below meth c H locs 0 0 (MQ below (qQi D qCl (cT K) (cW h K) A res) args s 0 0 A) (F0 m 0 ls []) := by
  intro H locs ls G hl
  unfold fCo_hasInner at hf
  refine lv_iload_n C.1 C.2.1 qm_Co_hasInner_0 rfl (lv_at hl 1 rfl) ?_
  refine lv_if_lt (tgt := 9) C.1 C.2.1 qm_Co_hasInner_1 (by decide) (fun b1 => ?_) (fun b1 => ?_)
  · have hf := if_t b1 hf
    exact wCo_hasInner_9 C S a1 hf _ _ _ G (lv_sub hl [1] rfl)
  · have hf := if_f b1 hf
    refine lv_iload_n C.1 C.2.1 qm_Co_hasInner_4 rfl (lv_at hl 1 rfl) ?_
    refine lv_iconst (v := 4) C.1 C.2.1 qm_Co_hasInner_5 (by decide) ?_
    refine lv_icmp_lt (tgt := 33) C.1 C.2.1 qm_Co_hasInner_6 (by decide) (fun b2 => ?_) (fun b2 => ?_)
    · have hf := if_t b2 hf
      exact wCo_hasInner_33 C S hf _ _ _ G (lv_sub hl [] rfl)
    · have hf := if_f b2 hf
      exact wCo_hasInner_9 C S a1 hf _ _ _ G (lv_sub hl [1] rfl)
theorem kCo_hasInner {l : Launch} {ad : Nat → Nat} {D : va_G} {h : Nat → Nat} {K : Nat → ClassId} {res : Int32 × qS} {S : qS} {a1 : Int32} (hf : fCo_hasInner S a1 = some res) : qMi l qm_Co_hasInner qm_Co_hasInner_c 2 .boolean 0 0 D qCl (cT K) ad (cW h K) [.ref (h 5), .int a1] S res := qMi_of (by decide) (Nat.le_of_ble_eq_true rfl) (fun _ _ _ _ _ _ _ _ _ _ C G hl => wCo_hasInner C S a1 hf _ _ _ G hl)
set_option maxHeartbeats 4000000 in
set_option maxRecDepth 100000 in
theorem wCo_putInner_15 {l : Launch} {D : va_G} {h : Nat → Nat} {K : Nat → ClassId} {res : qS} {p : Program} {e : Env} {s : State} {m : MethodId} {args : Array Value} {below : List Frame} {meth : Method} {c : Code} {A : Nat → Prop} {ad : Nat → Nat} (C : qC p s m args meth c qm_Co_putInner_c 3 none qR_Co ad) (S : qS) (hf : fCo_putInner_15 S = some res) : ∀ (H : Heap) (locs : List Loc) (ls : Array Slot), qG D qCl (cT K) A s (cW h K S) H locs → lv_has ls 3 [] → W p l e ({ frames := 1, cells := 0, slots := 0, locals := 21 }) s m args below meth c H locs 0 0 (MQ below (qQv D qCl (cT K) (cW h K) A res) args s 0 0 A) (F0 m 15 ls []) := by
  intro H locs ls G hl
  unfold fCo_putInner_15 at hf
  exact q_vret (wf := (cW h K)) C G hf qm_Co_putInner_15
set_option maxHeartbeats 4000000 in
set_option maxRecDepth 100000 in
theorem wCo_putInner {l : Launch} {D : va_G} {h : Nat → Nat} {K : Nat → ClassId} {res : qS} {p : Program} {e : Env} {s : State} {m : MethodId} {args : Array Value} {below : List Frame} {meth : Method} {c : Code} {A : Nat → Prop} {ad : Nat → Nat} (C : qC p s m args meth c qm_Co_putInner_c 3 none qR_Co ad) (S : qS) (a1 : Int32) (a2 : Int32) (hf : fCo_putInner S a1 a2 = some res) : ∀ (H : Heap) (locs : List Loc) (ls : Array Slot), qG D qCl (cT K) A s (cW h K S) H locs → lv_has ls 3 [(0, .ref (h 5)), (1, .int a1), (2, .int a2)] → W p l e ({ frames := 1, cells := 0, slots := 0, locals := 21 }) s m args below meth c H locs 0 0 (MQ below (qQv D qCl (cT K) (cW h K) A res) args s 0 0 A) (F0 m 0 ls []) := by
  intro H locs ls G hl
  unfold fCo_putInner at hf
  refine lv_aload_n C.1 C.2.1 qm_Co_putInner_0 rfl (lv_at hl 0 rfl) ?_
  refine lv_iload_n C.1 C.2.1 qm_Co_putInner_1 rfl (lv_at hl 1 rfl) ?_
  obtain ⟨q1, c1, hf⟩ := bnd_s hf
  refine q_callVi (wf := (cW h K)) (n := 1) (As := [.int a1]) (q0 := 5) (ci := 1) C G hl.1 (kCo_hasInner (l := l) c1) qx_Co_46 qm_Co_hasInner_d ⟨by decide, by decide⟩ ⟨Nat.le_refl _, Nat.le_refl _⟩ rfl rfl rfl rfl rfl (Nat.le_of_ble_eq_true rfl) qm_Co_putInner_2 (fun H locs G => ?_)
  refine lv_if_eq (tgt := 15) C.1 C.2.1 qm_Co_putInner_5 (by decide) (fun b2 => ?_) (fun b2 => ?_)
  · have hf := if_t b2 hf
    exact wCo_putInner_15 C q1.2 hf _ _ _ G (lv_sub hl [] rfl)
  · have hf := if_f b2 hf
    refine lv_aload_n C.1 C.2.1 qm_Co_putInner_8 rfl (lv_at hl 0 rfl) ?_
    refine q_get (wf := (cW h K)) (v := .ref (h 3)) C G qi_Co 5 rfl rfl 2 (by decide) qz_129 rfl qm_Co_putInner_9 ?_
    refine lv_iload_n C.1 C.2.1 qm_Co_putInner_12 rfl (lv_at hl 1 rfl) ?_
    refine lv_iload_n C.1 C.2.1 qm_Co_putInner_13 rfl (lv_at hl 2 rfl) ?_
    obtain ⟨b3, hf⟩ := chk_s hf
    refine q_iast (wf := (cW h K)) (S' := (pA q1.2 1 a1 a2)) C G 3 1 rfl rfl b3 rfl qm_Co_putInner_14 (fun H locs G => ?_)
    exact wCo_putInner_15 C (pA q1.2 1 a1 a2) hf _ _ _ G (lv_sub hl [] rfl)
theorem kCo_putInner {l : Launch} {ad : Nat → Nat} {D : va_G} {h : Nat → Nat} {K : Nat → ClassId} {res : qS} {S : qS} {a1 : Int32} {a2 : Int32} (hf : fCo_putInner S a1 a2 = some res) : qMv l qm_Co_putInner qm_Co_putInner_c 3 1 21 D qCl (cT K) ad (cW h K) [.ref (h 5), .int a1, .int a2] S res := qMv_of (by decide) (Nat.le_of_ble_eq_true rfl) (fun _ _ _ _ _ _ _ _ _ _ C G hl => wCo_putInner C S a1 a2 hf _ _ _ G hl)
set_option maxHeartbeats 4000000 in
set_option maxRecDepth 100000 in
theorem wCo_getInner_18 {l : Launch} {D : va_G} {h : Nat → Nat} {K : Nat → ClassId} {res : Int32 × qS} {p : Program} {e : Env} {s : State} {m : MethodId} {args : Array Value} {below : List Frame} {meth : Method} {c : Code} {A : Nat → Prop} {ad : Nat → Nat} (C : qC p s m args meth c qm_Co_getInner_c 2 (some .int) qR_Co ad) (S : qS) (y0 : Int32) (hf : fCo_getInner_18 S y0 = some res) : ∀ (H : Heap) (locs : List Loc) (ls : Array Slot), qG D qCl (cT K) A s (cW h K S) H locs → lv_has ls 2 [] → W p l e ({ frames := 1, cells := 0, slots := 0, locals := 21 }) s m args below meth c H locs 0 0 (MQ below (qQi D qCl (cT K) (cW h K) A res) args s 0 0 A) (F0 m 18 ls [.int y0]) := by
  intro H locs ls G hl
  unfold fCo_getInner_18 at hf
  exact q_iret (wf := (cW h K)) C G hf qm_Co_getInner_18
set_option maxHeartbeats 4000000 in
set_option maxRecDepth 100000 in
theorem wCo_getInner {l : Launch} {D : va_G} {h : Nat → Nat} {K : Nat → ClassId} {res : Int32 × qS} {p : Program} {e : Env} {s : State} {m : MethodId} {args : Array Value} {below : List Frame} {meth : Method} {c : Code} {A : Nat → Prop} {ad : Nat → Nat} (C : qC p s m args meth c qm_Co_getInner_c 2 (some .int) qR_Co ad) (S : qS) (a1 : Int32) (hf : fCo_getInner S a1 = some res) : ∀ (H : Heap) (locs : List Loc) (ls : Array Slot), qG D qCl (cT K) A s (cW h K S) H locs → lv_has ls 2 [(0, .ref (h 5)), (1, .int a1)] → W p l e ({ frames := 1, cells := 0, slots := 0, locals := 21 }) s m args below meth c H locs 0 0 (MQ below (qQi D qCl (cT K) (cW h K) A res) args s 0 0 A) (F0 m 0 ls []) := by
  intro H locs ls G hl
  unfold fCo_getInner at hf
  refine lv_aload_n C.1 C.2.1 qm_Co_getInner_0 rfl (lv_at hl 0 rfl) ?_
  refine lv_iload_n C.1 C.2.1 qm_Co_getInner_1 rfl (lv_at hl 1 rfl) ?_
  obtain ⟨q1, c1, hf⟩ := bnd_s hf
  refine q_callVi (wf := (cW h K)) (n := 1) (As := [.int a1]) (q0 := 5) (ci := 1) C G hl.1 (kCo_hasInner (l := l) c1) qx_Co_46 qm_Co_hasInner_d ⟨by decide, by decide⟩ ⟨Nat.le_refl _, Nat.le_refl _⟩ rfl rfl rfl rfl rfl (Nat.le_of_ble_eq_true rfl) qm_Co_getInner_2 (fun H locs G => ?_)
  refine lv_if_eq (tgt := 17) C.1 C.2.1 qm_Co_getInner_5 (by decide) (fun b2 => ?_) (fun b2 => ?_)
  · have hf := if_t b2 hf
    refine lv_iconst (v := 0) C.1 C.2.1 qm_Co_getInner_17 (by decide) ?_
    exact wCo_getInner_18 C q1.2 0 hf _ _ _ G (lv_sub hl [] rfl)
  · have hf := if_f b2 hf
    refine lv_aload_n C.1 C.2.1 qm_Co_getInner_8 rfl (lv_at hl 0 rfl) ?_
    refine q_get (wf := (cW h K)) (v := .ref (h 3)) C G qi_Co 5 rfl rfl 2 (by decide) qz_129 rfl qm_Co_getInner_9 ?_
    refine lv_iload_n C.1 C.2.1 qm_Co_getInner_12 rfl (lv_at hl 1 rfl) ?_
    obtain ⟨b3, hf⟩ := chk_s hf
    refine q_iald (wf := (cW h K)) C G 3 1 rfl rfl b3 qm_Co_getInner_13 ?_
    refine lv_goto (tgt := 18) C.1 C.2.1 qm_Co_getInner_14 (by decide) ?_
    exact wCo_getInner_18 C q1.2 (gA q1.2 1 a1) hf _ _ _ G (lv_sub hl [] rfl)
theorem kCo_getInner {l : Launch} {ad : Nat → Nat} {D : va_G} {h : Nat → Nat} {K : Nat → ClassId} {res : Int32 × qS} {S : qS} {a1 : Int32} (hf : fCo_getInner S a1 = some res) : qMi l qm_Co_getInner qm_Co_getInner_c 2 .int 1 21 D qCl (cT K) ad (cW h K) [.ref (h 5), .int a1] S res := qMi_of (by decide) (Nat.le_of_ble_eq_true rfl) (fun _ _ _ _ _ _ _ _ _ _ C G hl => wCo_getInner C S a1 hf _ _ _ G hl)
set_option maxHeartbeats 4000000 in
set_option maxRecDepth 100000 in
theorem wCo_keep {l : Launch} {D : va_G} {h : Nat → Nat} {K : Nat → ClassId} {res : qS} {p : Program} {e : Env} {s : State} {m : MethodId} {args : Array Value} {below : List Frame} {meth : Method} {c : Code} {A : Nat → Prop} {ad : Nat → Nat} (C : qC p s m args meth c qm_Co_keep_c 1 none qR_Co ad) (S : qS) (hf : fCo_keep S = some res) : ∀ (H : Heap) (locs : List Loc) (ls : Array Slot), qG D qCl (cT K) A s (cW h K S) H locs → lv_has ls 1 [(0, .ref (h 5))] → W p l e ({ frames := 1, cells := 0, slots := 0, locals := 60 }) s m args below meth c H locs 0 0 (MQ below (qQv D qCl (cT K) (cW h K) A res) args s 0 0 A) (F0 m 0 ls []) := by
  intro H locs ls G hl
  unfold fCo_keep at hf
  refine lv_aload_n C.1 C.2.1 qm_Co_keep_0 rfl (lv_at hl 0 rfl) ?_
  refine lv_iconst (v := 0) C.1 C.2.1 qm_Co_keep_1 (by decide) ?_
  refine q_put (wf := (cW h K)) (S' := (pI S 7 0)) C G qi_Co qY_Co qy_Co qn_Co 5 rfl rfl 10 (by decide) qz_139 rfl rfl (Nat.le_of_ble_eq_true rfl) rfl qm_Co_keep_2 (fun H locs G => ?_)
  refine lv_aload_n C.1 C.2.1 qm_Co_keep_5 rfl (lv_at hl 0 rfl) ?_
  refine lv_iconst (v := 0) C.1 C.2.1 qm_Co_keep_6 (by decide) ?_
  refine q_put (wf := (cW h K)) (S' := (pI (pI S 7 0) 10 0)) C G qi_Co qY_Co qy_Co qn_Co 5 rfl rfl 13 (by decide) qz_146 rfl rfl (Nat.le_of_ble_eq_true rfl) rfl qm_Co_keep_7 (fun H locs G => ?_)
  refine lv_aload_n C.1 C.2.1 qm_Co_keep_10 rfl (lv_at hl 0 rfl) ?_
  refine lv_aload_n C.1 C.2.1 qm_Co_keep_11 rfl (lv_at hl 0 rfl) ?_
  refine q_get (wf := (cW h K)) (v := .int ((pI (pI S 7 0) 10 0).1 6)) C G qi_Co 5 rfl rfl 9 (by decide) qz_136 rfl qm_Co_keep_12 ?_
  refine q_put (wf := (cW h K)) (S' := (pI (pI (pI S 7 0) 10 0) 5 ((pI (pI S 7 0) 10 0).1 6))) C G qi_Co qY_Co qy_Co qn_Co 5 rfl rfl 8 (by decide) qz_135 rfl rfl (Nat.le_of_ble_eq_true rfl) rfl qm_Co_keep_15 (fun H locs G => ?_)
  refine lv_aload_n C.1 C.2.1 qm_Co_keep_18 rfl (lv_at hl 0 rfl) ?_
  refine q_get (wf := (cW h K)) (v := .ref (h 6)) C G qi_Co 5 rfl rfl 3 (by decide) qz_130 rfl qm_Co_keep_19 ?_
  refine lv_iconst (v := 0) C.1 C.2.1 qm_Co_keep_22 (by decide) ?_
  refine lv_aload_n C.1 C.2.1 qm_Co_keep_23 rfl (lv_at hl 0 rfl) ?_
  refine q_get (wf := (cW h K)) (v := .ref (h 7)) C G qi_Co 5 rfl rfl 4 (by decide) qz_131 rfl qm_Co_keep_24 ?_
  refine lv_iconst (v := 0) C.1 C.2.1 qm_Co_keep_27 (by decide) ?_
  refine lv_bipush (v := 16) C.1 C.2.1 qm_Co_keep_28 (by decide) ?_
  refine q_copy (wf := (cW h K)) (S' := (cpA (pI (pI (pI S 7 0) 10 0) 5 ((pI (pI S 7 0) 10 0).1 6)) 2 0 3 0 16)) C G hl.1 ⟨qz_469, qz_471, qz_470, qz_77⟩ 6 7 2 3 rfl rfl rfl rfl (by decide) (by decide) (by decide) (by decide) (by decide) rfl (by decide) (Nat.le_of_ble_eq_true rfl) qm_Co_keep_30 (fun H locs G => ?_)
  refine lv_aload_n C.1 C.2.1 qm_Co_keep_33 rfl (lv_at hl 0 rfl) ?_
  refine q_get (wf := (cW h K)) (v := .ref (h 3)) C G qi_Co 5 rfl rfl 2 (by decide) qz_129 rfl qm_Co_keep_34 ?_
  refine lv_iconst (v := 0) C.1 C.2.1 qm_Co_keep_37 (by decide) ?_
  refine lv_aload_n C.1 C.2.1 qm_Co_keep_38 rfl (lv_at hl 0 rfl) ?_
  refine q_get (wf := (cW h K)) (v := .ref (h 8)) C G qi_Co 5 rfl rfl 5 (by decide) qz_132 rfl qm_Co_keep_39 ?_
  refine lv_iconst (v := 0) C.1 C.2.1 qm_Co_keep_42 (by decide) ?_
  refine lv_iconst (v := 4) C.1 C.2.1 qm_Co_keep_43 (by decide) ?_
  refine q_copy (wf := (cW h K)) (S' := (cpA (cpA (pI (pI (pI S 7 0) 10 0) 5 ((pI (pI S 7 0) 10 0).1 6)) 2 0 3 0 16) 1 0 4 0 4)) C G hl.1 ⟨qz_469, qz_471, qz_470, qz_77⟩ 3 8 1 4 rfl rfl rfl rfl (by decide) (by decide) (by decide) (by decide) (by decide) rfl (by decide) (Nat.le_of_ble_eq_true rfl) qm_Co_keep_44 (fun H locs G => ?_)
  exact q_vret (wf := (cW h K)) C G hf qm_Co_keep_47
theorem kCo_keep {l : Launch} {ad : Nat → Nat} {D : va_G} {h : Nat → Nat} {K : Nat → ClassId} {res : qS} {S : qS} (hf : fCo_keep S = some res) : qMv l qm_Co_keep qm_Co_keep_c 1 1 60 D qCl (cT K) ad (cW h K) [.ref (h 5)] S res := qMv_of (by decide) (Nat.le_of_ble_eq_true rfl) (fun _ _ _ _ _ _ _ _ _ _ C G hl => wCo_keep C S hf _ _ _ G hl)
set_option maxHeartbeats 4000000 in
set_option maxRecDepth 100000 in
theorem wCo_refuse_28 {l : Launch} {D : va_G} {h : Nat → Nat} {K : Nat → ClassId} {res : qS} {p : Program} {e : Env} {s : State} {m : MethodId} {args : Array Value} {below : List Frame} {meth : Method} {c : Code} {A : Nat → Prop} {ad : Nat → Nat} (C : qC p s m args meth c qm_Co_refuse_c 3 none qR_Co ad) (S : qS) (hf : fCo_refuse_28 S = some res) : ∀ (H : Heap) (locs : List Loc) (ls : Array Slot), qG D qCl (cT K) A s (cW h K S) H locs → lv_has ls 3 [] → W p l e ({ frames := 1, cells := 0, slots := 0, locals := 20 }) s m args below meth c H locs 0 0 (MQ below (qQv D qCl (cT K) (cW h K) A res) args s 0 0 A) (F0 m 28 ls []) := by
  intro H locs ls G hl
  unfold fCo_refuse_28 at hf
  exact q_vret (wf := (cW h K)) C G hf qm_Co_refuse_28
set_option maxHeartbeats 4000000 in
set_option maxRecDepth 100000 in
theorem wCo_refuse {l : Launch} {D : va_G} {h : Nat → Nat} {K : Nat → ClassId} {res : qS} {p : Program} {e : Env} {s : State} {m : MethodId} {args : Array Value} {below : List Frame} {meth : Method} {c : Code} {A : Nat → Prop} {ad : Nat → Nat} (C : qC p s m args meth c qm_Co_refuse_c 3 none qR_Co ad) (S : qS) (a1 : Int32) (a2 : Int32) (hf : fCo_refuse S a1 a2 = some res) : ∀ (H : Heap) (locs : List Loc) (ls : Array Slot), qG D qCl (cT K) A s (cW h K S) H locs → lv_has ls 3 [(0, .ref (h 5)), (1, .int a1), (2, .int a2)] → W p l e ({ frames := 1, cells := 0, slots := 0, locals := 20 }) s m args below meth c H locs 0 0 (MQ below (qQv D qCl (cT K) (cW h K) A res) args s 0 0 A) (F0 m 0 ls []) := by
  intro H locs ls G hl
  unfold fCo_refuse at hf
  refine lv_aload_n C.1 C.2.1 qm_Co_refuse_0 rfl (lv_at hl 0 rfl) ?_
  refine q_get (wf := (cW h K)) (v := .int (S.1 7)) C G qi_Co 5 rfl rfl 10 (by decide) qz_139 rfl qm_Co_refuse_1 ?_
  refine lv_if_ne (tgt := 28) C.1 C.2.1 qm_Co_refuse_4 (by decide) (fun b1 => ?_) (fun b1 => ?_)
  · have hf := if_t b1 hf
    exact wCo_refuse_28 C S hf _ _ _ G (lv_sub hl [] rfl)
  · have hf := if_f (not_not_intro b1) hf
    refine lv_aload_n C.1 C.2.1 qm_Co_refuse_7 rfl (lv_at hl 0 rfl) ?_
    refine lv_iload_n C.1 C.2.1 qm_Co_refuse_8 rfl (lv_at hl 1 rfl) ?_
    obtain ⟨q2, c2, hf⟩ := bnd_s hf
    refine q_callSi (wf := (cW h K)) (n := 1) (As := [.int a1]) C G hl.1 (kPg_faultOf (l := l) c2) qx_Co_69 qm_Pg_faultOf_d ⟨by decide, by decide⟩ ⟨Nat.le_refl _, Nat.le_refl _⟩ rfl rfl (Nat.le_of_ble_eq_true rfl) qm_Co_refuse_9 (fun H locs G => ?_)
    refine q_put (wf := (cW h K)) (S' := (pI q2.2 7 q2.1)) C G qi_Co qY_Co qy_Co qn_Co 5 rfl rfl 10 (by decide) qz_139 rfl rfl (Nat.le_of_ble_eq_true rfl) rfl qm_Co_refuse_12 (fun H locs G => ?_)
    refine lv_aload_n C.1 C.2.1 qm_Co_refuse_15 rfl (lv_at hl 0 rfl) ?_
    refine lv_iload_n C.1 C.2.1 qm_Co_refuse_16 rfl (lv_at hl 1 rfl) ?_
    obtain ⟨q3, c3, hf⟩ := bnd_s hf
    refine q_callSi (wf := (cW h K)) (n := 1) (As := [.int a1]) C G hl.1 (kPg_flagOf (l := l) c3) qx_Co_75 qm_Pg_flagOf_d ⟨by decide, by decide⟩ ⟨Nat.le_refl _, Nat.le_refl _⟩ rfl rfl (Nat.le_of_ble_eq_true rfl) qm_Co_refuse_17 (fun H locs G => ?_)
    refine q_put (wf := (cW h K)) (S' := (pI q3.2 9 q3.1)) C G qi_Co qY_Co qy_Co qn_Co 5 rfl rfl 12 (by decide) qz_144 rfl rfl (Nat.le_of_ble_eq_true rfl) rfl qm_Co_refuse_20 (fun H locs G => ?_)
    refine lv_aload_n C.1 C.2.1 qm_Co_refuse_23 rfl (lv_at hl 0 rfl) ?_
    refine lv_iload_n C.1 C.2.1 qm_Co_refuse_24 rfl (lv_at hl 2 rfl) ?_
    refine q_put (wf := (cW h K)) (S' := (pI (pI q3.2 9 q3.1) 8 a2)) C G qi_Co qY_Co qy_Co qn_Co 5 rfl rfl 11 (by decide) qz_142 rfl rfl (Nat.le_of_ble_eq_true rfl) rfl qm_Co_refuse_25 (fun H locs G => ?_)
    exact wCo_refuse_28 C (pI (pI q3.2 9 q3.1) 8 a2) hf _ _ _ G (lv_sub hl [] rfl)
theorem kCo_refuse {l : Launch} {ad : Nat → Nat} {D : va_G} {h : Nat → Nat} {K : Nat → ClassId} {res : qS} {S : qS} {a1 : Int32} {a2 : Int32} (hf : fCo_refuse S a1 a2 = some res) : qMv l qm_Co_refuse qm_Co_refuse_c 3 1 20 D qCl (cT K) ad (cW h K) [.ref (h 5), .int a1, .int a2] S res := qMv_of (by decide) (Nat.le_of_ble_eq_true rfl) (fun _ _ _ _ _ _ _ _ _ _ C G hl => wCo_refuse C S a1 a2 hf _ _ _ G hl)
set_option maxHeartbeats 4000000 in
set_option maxRecDepth 100000 in
theorem wCo_read_78 {l : Launch} {D : va_G} {h : Nat → Nat} {K : Nat → ClassId} {res : Int32 × qS} {p : Program} {e : Env} {s : State} {m : MethodId} {args : Array Value} {below : List Frame} {meth : Method} {c : Code} {A : Nat → Prop} {ad : Nat → Nat} (C : qC p s m args meth c qm_Co_read_c 6 (some .int) qR_Co ad) (S : qS) (x3 : Int32) (hf : fCo_read_78 S x3 = some res) : ∀ (H : Heap) (locs : List Loc) (ls : Array Slot), qG D qCl (cT K) A s (cW h K S) H locs → lv_has ls 6 [(3, .int x3)] → W p l e ({ frames := 2, cells := 0, slots := 0, locals := 53 }) s m args below meth c H locs 0 0 (MQ below (qQi D qCl (cT K) (cW h K) A res) args s 0 0 A) (F0 m 78 ls []) := by
  intro H locs ls G hl
  unfold fCo_read_78 at hf
  refine lv_iload_n C.1 C.2.1 qm_Co_read_78 rfl (lv_at hl 0 rfl) ?_
  exact q_iret (wf := (cW h K)) C G hf qm_Co_read_79
set_option maxHeartbeats 4000000 in
set_option maxRecDepth 100000 in
theorem wCo_read_72 {l : Launch} {D : va_G} {h : Nat → Nat} {K : Nat → ClassId} {res : Int32 × qS} {p : Program} {e : Env} {s : State} {m : MethodId} {args : Array Value} {below : List Frame} {meth : Method} {c : Code} {A : Nat → Prop} {ad : Nat → Nat} (C : qC p s m args meth c qm_Co_read_c 6 (some .int) qR_Co ad) {K5 : qS → Int32 → Int32 → Int32 → Int32 → Option (Int32 × qS)} (hK5 : ∀ (S : qS) (x1 : Int32) (x2 : Int32) (x3 : Int32) (x4 : Int32), K5 S x1 x2 x3 x4 = some res → ∀ (H : Heap) (locs : List Loc) (ls : Array Slot), qG D qCl (cT K) A s (cW h K S) H locs → lv_has ls 6 [(0, .ref (h 5)), (1, .int x1), (2, .int x2), (3, .int x3), (4, .int x4)] → W p l e ({ frames := 2, cells := 0, slots := 0, locals := 53 }) s m args below meth c H locs 0 0 (MQ below (qQi D qCl (cT K) (cW h K) A res) args s 0 0 A) (F0 m 5 ls [])) (S : qS) (x1 : Int32) (x2 : Int32) (x3 : Int32) (x4 : Int32) (hf : fCo_read_72 K5 S x1 x2 x3 x4 = some res) : ∀ (H : Heap) (locs : List Loc) (ls : Array Slot), qG D qCl (cT K) A s (cW h K S) H locs → lv_has ls 6 [(0, .ref (h 5)), (1, .int x1), (2, .int x2), (3, .int x3), (4, .int x4)] → W p l e ({ frames := 2, cells := 0, slots := 0, locals := 53 }) s m args below meth c H locs 0 0 (MQ below (qQi D qCl (cT K) (cW h K) A res) args s 0 0 A) (F0 m 72 ls []) := by
  intro H locs ls G hl
  unfold fCo_read_72 at hf
  refine lv_iinc (v := x4 + 1) (lv' := [(4, .int (x4 + 1)), (0, .ref (h 5)), (1, .int x1), (2, .int x2), (3, .int x3)]) C.1 C.2.1 qm_Co_read_72 hl (k := 4) rfl rfl (by decide) rfl (fun ls hl => ?_)
  refine lv_goto (tgt := 5) C.1 C.2.1 qm_Co_read_75 (by decide) ?_
  exact hK5 S x1 x2 x3 (x4 + 1) hf _ _ _ G (lv_sub hl [1, 2, 3, 4, 0] rfl)
set_option maxHeartbeats 4000000 in
set_option maxRecDepth 100000 in
theorem wCo_read_5 {l : Launch} {D : va_G} {h : Nat → Nat} {K : Nat → ClassId} {res : Int32 × qS} {p : Program} {e : Env} {s : State} {m : MethodId} {args : Array Value} {below : List Frame} {meth : Method} {c : Code} {A : Nat → Prop} {ad : Nat → Nat} (C : qC p s m args meth c qm_Co_read_c 6 (some .int) qR_Co ad) : ∀ (n : Nat) (S : qS) (x1 : Int32) (x2 : Int32) (x3 : Int32) (x4 : Int32), fCo_read_5 n S x1 x2 x3 x4 = some res → ∀ (H : Heap) (locs : List Loc) (ls : Array Slot), qG D qCl (cT K) A s (cW h K S) H locs → lv_has ls 6 [(0, .ref (h 5)), (1, .int x1), (2, .int x2), (3, .int x3), (4, .int x4)] → W p l e ({ frames := 2, cells := 0, slots := 0, locals := 53 }) s m args below meth c H locs 0 0 (MQ below (qQi D qCl (cT K) (cW h K) A res) args s 0 0 A) (F0 m 5 ls []) := by
  intro n
  induction n with
  | zero => intro S x1 x2 x3 x4 hf; cases hf
  | succ n ih =>
    intro S x1 x2 x3 x4 hf H locs ls G hl
    rw [fCo_read_5] at hf
    refine lv_iload C.1 C.2.1 qm_Co_read_5 (lv_at hl 4 rfl) ?_
    refine lv_iload_n C.1 C.2.1 qm_Co_read_7 rfl (lv_at hl 2 rfl) ?_
    refine lv_icmp_ge (tgt := 78) C.1 C.2.1 qm_Co_read_8 (by decide) (fun b1 => ?_) (fun b1 => ?_)
    · have hf := if_t b1 hf
      exact wCo_read_78 C S x3 hf _ _ _ G (lv_sub hl [3] rfl)
    · have hf := if_f b1 hf
      refine lv_aload_n C.1 C.2.1 qm_Co_read_11 rfl (lv_at hl 0 rfl) ?_
      refine q_get (wf := (cW h K)) (v := .int (S.1 7)) C G qi_Co 5 rfl rfl 10 (by decide) qz_139 rfl qm_Co_read_12 ?_
      refine lv_if_ne (tgt := 78) C.1 C.2.1 qm_Co_read_15 (by decide) (fun b2 => ?_) (fun b2 => ?_)
      · have hf := if_t b2 hf
        exact wCo_read_78 C S x3 hf _ _ _ G (lv_sub hl [3] rfl)
      · have hf := if_f (not_not_intro b2) hf
        refine lv_aload_n C.1 C.2.1 qm_Co_read_18 rfl (lv_at hl 0 rfl) ?_
        refine q_get (wf := (cW h K)) (v := .ref (h 4)) C G qi_Co 5 rfl rfl 1 (by decide) qz_128 rfl qm_Co_read_19 ?_
        refine lv_iload_n C.1 C.2.1 qm_Co_read_22 rfl (lv_at hl 1 rfl) ?_
        refine lv_iload C.1 C.2.1 qm_Co_read_23 (lv_at hl 4 rfl) ?_
        refine lv_iadd C.1 C.2.1 qm_Co_read_25 ?_
        refine lv_iconst (v := 0) C.1 C.2.1 qm_Co_read_26 (by decide) ?_
        refine lv_aload_n C.1 C.2.1 qm_Co_read_27 rfl (lv_at hl 0 rfl) ?_
        obtain ⟨q3, c3, hf⟩ := bnd_s hf
        refine q_callVi (wf := (cW h K)) (n := 0) (As := []) (q0 := 5) (ci := 1) C G hl.1 (kCo_mode (l := l) c3) qx_Co_42 qm_Co_mode_d ⟨by decide, by decide⟩ ⟨Nat.le_refl _, Nat.le_refl _⟩ rfl rfl rfl rfl rfl (Nat.le_of_ble_eq_true rfl) qm_Co_read_28 (fun H locs G => ?_)
        obtain ⟨q4, c4, hf⟩ := bnd_s hf
        refine q_callVi (wf := (cW h K)) (n := 3) (As := [.int (x1 + x4), .int 0, .int q3.1]) (q0 := 4) (ci := 3) C G hl.1 (kPg_locate (l := l) c4) qx_Co_84 qm_Pg_locate_d ⟨by decide, by decide⟩ ⟨Nat.le_refl _, Nat.le_refl _⟩ rfl rfl rfl rfl rfl (Nat.le_of_ble_eq_true rfl) qm_Co_read_31 (fun H locs G => ?_)
        refine lv_istore (lv' := [(5, .int q4.1), (0, .ref (h 5)), (1, .int x1), (2, .int x2), (3, .int x3), (4, .int x4)]) C.1 C.2.1 qm_Co_read_34 hl (by decide) rfl (fun ls hl => ?_)
        refine lv_iload C.1 C.2.1 qm_Co_read_36 (lv_at hl 0 rfl) ?_
        refine lv_if_ge (tgt := 54) C.1 C.2.1 qm_Co_read_38 (by decide) (fun b5 => ?_) (fun b5 => ?_)
        · have hf := if_t b5 hf
          refine lv_iload_n C.1 C.2.1 qm_Co_read_54 rfl (lv_at hl 4 rfl) ?_
          refine lv_aload_n C.1 C.2.1 qm_Co_read_55 rfl (lv_at hl 1 rfl) ?_
          refine q_get (wf := (cW h K)) (v := .ref (h 1)) C G qi_Co 5 rfl rfl 0 (by decide) qz_127 rfl qm_Co_read_56 ?_
          refine lv_iload C.1 C.2.1 qm_Co_read_59 (lv_at hl 0 rfl) ?_
          obtain ⟨q6, c6, hf⟩ := bnd_s hf
          refine q_callVi (wf := (cW h K)) (n := 1) (As := [.int q4.1]) (q0 := 1) (ci := 5) C G hl.1 (kSt_byteAt (l := l) c6) qx_Co_92 qm_St_byteAt_d ⟨by decide, by decide⟩ ⟨Nat.le_refl _, Nat.le_refl _⟩ rfl rfl rfl rfl rfl (Nat.le_of_ble_eq_true rfl) qm_Co_read_61 (fun H locs G => ?_)
          refine lv_bipush (v := 8) C.1 C.2.1 qm_Co_read_64 (by decide) ?_
          refine lv_iload C.1 C.2.1 qm_Co_read_66 (lv_at hl 5 rfl) ?_
          refine lv_imul C.1 C.2.1 qm_Co_read_68 ?_
          refine lv_ishl C.1 C.2.1 qm_Co_read_69 ?_
          refine lv_ior C.1 C.2.1 qm_Co_read_70 ?_
          refine lv_istore_n (lv' := [(3, .int (x3 ||| (q6.1 <<< ((8 * x4) &&& 31)))), (5, .int q4.1), (0, .ref (h 5)), (1, .int x1), (2, .int x2), (4, .int x4)]) C.1 C.2.1 qm_Co_read_71 rfl hl (by decide) rfl (fun ls hl => ?_)
          exact wCo_read_72 C (ih) q6.2 x1 x2 (x3 ||| (q6.1 <<< ((8 * x4) &&& 31))) x4 hf _ _ _ G (lv_sub hl [2, 3, 4, 0, 5] rfl)
        · have hf := if_f b5 hf
          refine lv_aload_n C.1 C.2.1 qm_Co_read_41 rfl (lv_at hl 1 rfl) ?_
          refine lv_iload C.1 C.2.1 qm_Co_read_42 (lv_at hl 0 rfl) ?_
          refine lv_iload_n C.1 C.2.1 qm_Co_read_44 rfl (lv_at hl 2 rfl) ?_
          refine lv_iload C.1 C.2.1 qm_Co_read_45 (lv_at hl 5 rfl) ?_
          refine lv_iadd C.1 C.2.1 qm_Co_read_47 ?_
          obtain ⟨S7, c7, hf⟩ := bnd_s hf
          refine q_callVv (wf := (cW h K)) (n := 2) (As := [.int q4.1, .int (x1 + x4)]) (q0 := 5) (ci := 1) C G hl.1 (kCo_refuse (l := l) c7) qx_Co_88 qm_Co_refuse_d ⟨by decide, by decide⟩ ⟨Nat.le_refl _, Nat.le_refl _⟩ rfl rfl rfl rfl rfl (Nat.le_of_ble_eq_true rfl) qm_Co_read_48 (fun H locs G => ?_)
          refine lv_goto (tgt := 72) C.1 C.2.1 qm_Co_read_51 (by decide) ?_
          exact wCo_read_72 C (ih) S7 x1 x2 x3 x4 hf _ _ _ G (lv_sub hl [1, 2, 3, 4, 5] rfl)
set_option maxHeartbeats 4000000 in
set_option maxRecDepth 100000 in
theorem wCo_read {l : Launch} {D : va_G} {h : Nat → Nat} {K : Nat → ClassId} {res : Int32 × qS} {p : Program} {e : Env} {s : State} {m : MethodId} {args : Array Value} {below : List Frame} {meth : Method} {c : Code} {A : Nat → Prop} {ad : Nat → Nat} (C : qC p s m args meth c qm_Co_read_c 6 (some .int) qR_Co ad) (S : qS) (a1 : Int32) (a2 : Int32) (hf : fCo_read S a1 a2 = some res) : ∀ (H : Heap) (locs : List Loc) (ls : Array Slot), qG D qCl (cT K) A s (cW h K S) H locs → lv_has ls 6 [(0, .ref (h 5)), (1, .int a1), (2, .int a2)] → W p l e ({ frames := 2, cells := 0, slots := 0, locals := 53 }) s m args below meth c H locs 0 0 (MQ below (qQi D qCl (cT K) (cW h K) A res) args s 0 0 A) (F0 m 0 ls []) := by
  intro H locs ls G hl
  unfold fCo_read at hf
  refine lv_iconst (v := 0) C.1 C.2.1 qm_Co_read_0 (by decide) ?_
  refine lv_istore_n (lv' := [(3, .int 0), (0, .ref (h 5)), (1, .int a1), (2, .int a2)]) C.1 C.2.1 qm_Co_read_1 rfl hl (by decide) rfl (fun ls hl => ?_)
  refine lv_iconst (v := 0) C.1 C.2.1 qm_Co_read_2 (by decide) ?_
  refine lv_istore (lv' := [(4, .int 0), (3, .int 0), (0, .ref (h 5)), (1, .int a1), (2, .int a2)]) C.1 C.2.1 qm_Co_read_3 hl (by decide) rfl (fun ls hl => ?_)
  exact wCo_read_5 C 300 S a1 a2 0 0 hf _ _ _ G (lv_sub hl [2, 3, 4, 1, 0] rfl)
theorem kCo_read {l : Launch} {ad : Nat → Nat} {D : va_G} {h : Nat → Nat} {K : Nat → ClassId} {res : Int32 × qS} {S : qS} {a1 : Int32} {a2 : Int32} (hf : fCo_read S a1 a2 = some res) : qMi l qm_Co_read qm_Co_read_c 6 .int 2 53 D qCl (cT K) ad (cW h K) [.ref (h 5), .int a1, .int a2] S res := qMi_of (by decide) (Nat.le_of_ble_eq_true rfl) (fun _ _ _ _ _ _ _ _ _ _ C G hl => wCo_read C S a1 a2 hf _ _ _ G hl)
set_option maxHeartbeats 4000000 in
set_option maxRecDepth 100000 in
theorem wCo_fetch {l : Launch} {D : va_G} {h : Nat → Nat} {K : Nat → ClassId} {res : Int32 × qS} {p : Program} {e : Env} {s : State} {m : MethodId} {args : Array Value} {below : List Frame} {meth : Method} {c : Code} {A : Nat → Prop} {ad : Nat → Nat} (C : qC p s m args meth c qm_Co_fetch_c 3 (some .int) qR_Co ad) (S : qS) (a1 : Int32) (hf : fCo_fetch S a1 = some res) : ∀ (H : Heap) (locs : List Loc) (ls : Array Slot), qG D qCl (cT K) A s (cW h K S) H locs → lv_has ls 3 [(0, .ref (h 5)), (1, .int a1)] → W p l e ({ frames := 3, cells := 0, slots := 0, locals := 78 }) s m args below meth c H locs 0 0 (MQ below (qQi D qCl (cT K) (cW h K) A res) args s 0 0 A) (F0 m 0 ls []) := by
  intro H locs ls G hl
  unfold fCo_fetch at hf
  refine lv_aload_n C.1 C.2.1 qm_Co_fetch_0 rfl (lv_at hl 0 rfl) ?_
  refine lv_aload_n C.1 C.2.1 qm_Co_fetch_1 rfl (lv_at hl 0 rfl) ?_
  refine lv_bipush (v := 15) C.1 C.2.1 qm_Co_fetch_2 (by decide) ?_
  obtain ⟨q1, c1, hf⟩ := bnd_s hf
  refine q_callVi (wf := (cW h K)) (n := 1) (As := [.int 15]) (q0 := 5) (ci := 1) C G hl.1 (kCo_get (l := l) c1) qx_Co_107 qm_Co_get_d ⟨by decide, by decide⟩ ⟨Nat.le_refl _, Nat.le_refl _⟩ rfl rfl rfl rfl rfl (Nat.le_of_ble_eq_true rfl) qm_Co_fetch_4 (fun H locs G => ?_)
  refine lv_iload_n C.1 C.2.1 qm_Co_fetch_7 rfl (lv_at hl 1 rfl) ?_
  obtain ⟨q2, c2, hf⟩ := bnd_s hf
  refine q_callVi (wf := (cW h K)) (n := 2) (As := [.int q1.1, .int a1]) (q0 := 5) (ci := 1) C G hl.1 (kCo_read (l := l) c2) qx_Co_110 qm_Co_read_d ⟨by decide, by decide⟩ ⟨Nat.le_refl _, Nat.le_refl _⟩ rfl rfl rfl rfl rfl (Nat.le_of_ble_eq_true rfl) qm_Co_fetch_8 (fun H locs G => ?_)
  refine lv_istore_n (lv' := [(2, .int q2.1), (0, .ref (h 5)), (1, .int a1)]) C.1 C.2.1 qm_Co_fetch_11 rfl hl (by decide) rfl (fun ls hl => ?_)
  refine lv_aload_n C.1 C.2.1 qm_Co_fetch_12 rfl (lv_at hl 1 rfl) ?_
  refine lv_bipush (v := 15) C.1 C.2.1 qm_Co_fetch_13 (by decide) ?_
  refine lv_aload_n C.1 C.2.1 qm_Co_fetch_15 rfl (lv_at hl 1 rfl) ?_
  refine lv_bipush (v := 15) C.1 C.2.1 qm_Co_fetch_16 (by decide) ?_
  obtain ⟨q3, c3, hf⟩ := bnd_s hf
  refine q_callVi (wf := (cW h K)) (n := 1) (As := [.int 15]) (q0 := 5) (ci := 1) C G hl.1 (kCo_get (l := l) c3) qx_Co_107 qm_Co_get_d ⟨by decide, by decide⟩ ⟨Nat.le_refl _, Nat.le_refl _⟩ rfl rfl rfl rfl rfl (Nat.le_of_ble_eq_true rfl) qm_Co_fetch_18 (fun H locs G => ?_)
  refine lv_iload_n C.1 C.2.1 qm_Co_fetch_21 rfl (lv_at hl 2 rfl) ?_
  refine lv_iadd C.1 C.2.1 qm_Co_fetch_22 ?_
  obtain ⟨S4, c4, hf⟩ := bnd_s hf
  refine q_callVv (wf := (cW h K)) (n := 2) (As := [.int 15, .int (q3.1 + a1)]) (q0 := 5) (ci := 1) C G hl.1 (kCo_put (l := l) c4) qx_Co_114 qm_Co_put_d ⟨by decide, by decide⟩ ⟨Nat.le_refl _, Nat.le_refl _⟩ rfl rfl rfl rfl rfl (Nat.le_of_ble_eq_true rfl) qm_Co_fetch_23 (fun H locs G => ?_)
  refine lv_iload_n C.1 C.2.1 qm_Co_fetch_26 rfl (lv_at hl 0 rfl) ?_
  exact q_iret (wf := (cW h K)) C G hf qm_Co_fetch_27
theorem kCo_fetch {l : Launch} {ad : Nat → Nat} {D : va_G} {h : Nat → Nat} {K : Nat → ClassId} {res : Int32 × qS} {S : qS} {a1 : Int32} (hf : fCo_fetch S a1 = some res) : qMi l qm_Co_fetch qm_Co_fetch_c 3 .int 3 78 D qCl (cT K) ad (cW h K) [.ref (h 5), .int a1] S res := qMi_of (by decide) (Nat.le_of_ble_eq_true rfl) (fun _ _ _ _ _ _ _ _ _ _ C G hl => wCo_fetch C S a1 hf _ _ _ G hl)
set_option maxHeartbeats 4000000 in
set_option maxRecDepth 100000 in
theorem wCo_raise_12 {l : Launch} {D : va_G} {h : Nat → Nat} {K : Nat → ClassId} {res : qS} {p : Program} {e : Env} {s : State} {m : MethodId} {args : Array Value} {below : List Frame} {meth : Method} {c : Code} {A : Nat → Prop} {ad : Nat → Nat} (C : qC p s m args meth c qm_Co_raise_c 2 none qR_Co ad) (S : qS) (hf : fCo_raise_12 S = some res) : ∀ (H : Heap) (locs : List Loc) (ls : Array Slot), qG D qCl (cT K) A s (cW h K S) H locs → lv_has ls 2 [] → W p l e ({ frames := 0, cells := 0, slots := 0, locals := 0 }) s m args below meth c H locs 0 0 (MQ below (qQv D qCl (cT K) (cW h K) A res) args s 0 0 A) (F0 m 12 ls []) := by
  intro H locs ls G hl
  unfold fCo_raise_12 at hf
  exact q_vret (wf := (cW h K)) C G hf qm_Co_raise_12
set_option maxHeartbeats 4000000 in
set_option maxRecDepth 100000 in
theorem wCo_raise {l : Launch} {D : va_G} {h : Nat → Nat} {K : Nat → ClassId} {res : qS} {p : Program} {e : Env} {s : State} {m : MethodId} {args : Array Value} {below : List Frame} {meth : Method} {c : Code} {A : Nat → Prop} {ad : Nat → Nat} (C : qC p s m args meth c qm_Co_raise_c 2 none qR_Co ad) (S : qS) (a1 : Int32) (hf : fCo_raise S a1 = some res) : ∀ (H : Heap) (locs : List Loc) (ls : Array Slot), qG D qCl (cT K) A s (cW h K S) H locs → lv_has ls 2 [(0, .ref (h 5)), (1, .int a1)] → W p l e ({ frames := 0, cells := 0, slots := 0, locals := 0 }) s m args below meth c H locs 0 0 (MQ below (qQv D qCl (cT K) (cW h K) A res) args s 0 0 A) (F0 m 0 ls []) := by
  intro H locs ls G hl
  unfold fCo_raise at hf
  refine lv_aload_n C.1 C.2.1 qm_Co_raise_0 rfl (lv_at hl 0 rfl) ?_
  refine q_get (wf := (cW h K)) (v := .int (S.1 7)) C G qi_Co 5 rfl rfl 10 (by decide) qz_139 rfl qm_Co_raise_1 ?_
  refine lv_if_ne (tgt := 12) C.1 C.2.1 qm_Co_raise_4 (by decide) (fun b1 => ?_) (fun b1 => ?_)
  · have hf := if_t b1 hf
    exact wCo_raise_12 C S hf _ _ _ G (lv_sub hl [] rfl)
  · have hf := if_f (not_not_intro b1) hf
    refine lv_aload_n C.1 C.2.1 qm_Co_raise_7 rfl (lv_at hl 0 rfl) ?_
    refine lv_iload_n C.1 C.2.1 qm_Co_raise_8 rfl (lv_at hl 1 rfl) ?_
    refine q_put (wf := (cW h K)) (S' := (pI S 7 a1)) C G qi_Co qY_Co qy_Co qn_Co 5 rfl rfl 10 (by decide) qz_139 rfl rfl (Nat.le_of_ble_eq_true rfl) rfl qm_Co_raise_9 (fun H locs G => ?_)
    exact wCo_raise_12 C (pI S 7 a1) hf _ _ _ G (lv_sub hl [] rfl)
theorem kCo_raise {l : Launch} {ad : Nat → Nat} {D : va_G} {h : Nat → Nat} {K : Nat → ClassId} {res : qS} {S : qS} {a1 : Int32} (hf : fCo_raise S a1 = some res) : qMv l qm_Co_raise qm_Co_raise_c 2 0 0 D qCl (cT K) ad (cW h K) [.ref (h 5), .int a1] S res := qMv_of (by decide) (Nat.le_of_ble_eq_true rfl) (fun _ _ _ _ _ _ _ _ _ _ C G hl => wCo_raise C S a1 hf _ _ _ G hl)
set_option maxHeartbeats 4000000 in
set_option maxRecDepth 100000 in
theorem wCo_pop {l : Launch} {D : va_G} {h : Nat → Nat} {K : Nat → ClassId} {res : Int32 × qS} {p : Program} {e : Env} {s : State} {m : MethodId} {args : Array Value} {below : List Frame} {meth : Method} {c : Code} {A : Nat → Prop} {ad : Nat → Nat} (C : qC p s m args meth c qm_Co_pop_c 2 (some .int) qR_Co ad) (S : qS) (hf : fCo_pop S = some res) : ∀ (H : Heap) (locs : List Loc) (ls : Array Slot), qG D qCl (cT K) A s (cW h K S) H locs → lv_has ls 2 [(0, .ref (h 5))] → W p l e ({ frames := 3, cells := 0, slots := 0, locals := 78 }) s m args below meth c H locs 0 0 (MQ below (qQi D qCl (cT K) (cW h K) A res) args s 0 0 A) (F0 m 0 ls []) := by
  intro H locs ls G hl
  unfold fCo_pop at hf
  refine lv_aload_n C.1 C.2.1 qm_Co_pop_0 rfl (lv_at hl 0 rfl) ?_
  refine lv_aload_n C.1 C.2.1 qm_Co_pop_1 rfl (lv_at hl 0 rfl) ?_
  refine lv_bipush (v := 14) C.1 C.2.1 qm_Co_pop_2 (by decide) ?_
  obtain ⟨q1, c1, hf⟩ := bnd_s hf
  refine q_callVi (wf := (cW h K)) (n := 1) (As := [.int 14]) (q0 := 5) (ci := 1) C G hl.1 (kCo_get (l := l) c1) qx_Co_107 qm_Co_get_d ⟨by decide, by decide⟩ ⟨Nat.le_refl _, Nat.le_refl _⟩ rfl rfl rfl rfl rfl (Nat.le_of_ble_eq_true rfl) qm_Co_pop_4 (fun H locs G => ?_)
  refine lv_iconst (v := 4) C.1 C.2.1 qm_Co_pop_7 (by decide) ?_
  obtain ⟨q2, c2, hf⟩ := bnd_s hf
  refine q_callVi (wf := (cW h K)) (n := 2) (As := [.int q1.1, .int 4]) (q0 := 5) (ci := 1) C G hl.1 (kCo_read (l := l) c2) qx_Co_110 qm_Co_read_d ⟨by decide, by decide⟩ ⟨Nat.le_refl _, Nat.le_refl _⟩ rfl rfl rfl rfl rfl (Nat.le_of_ble_eq_true rfl) qm_Co_pop_8 (fun H locs G => ?_)
  refine lv_istore_n (lv' := [(1, .int q2.1), (0, .ref (h 5))]) C.1 C.2.1 qm_Co_pop_11 rfl hl (by decide) rfl (fun ls hl => ?_)
  refine lv_aload_n C.1 C.2.1 qm_Co_pop_12 rfl (lv_at hl 1 rfl) ?_
  refine lv_bipush (v := 14) C.1 C.2.1 qm_Co_pop_13 (by decide) ?_
  refine lv_aload_n C.1 C.2.1 qm_Co_pop_15 rfl (lv_at hl 1 rfl) ?_
  refine lv_bipush (v := 14) C.1 C.2.1 qm_Co_pop_16 (by decide) ?_
  obtain ⟨q3, c3, hf⟩ := bnd_s hf
  refine q_callVi (wf := (cW h K)) (n := 1) (As := [.int 14]) (q0 := 5) (ci := 1) C G hl.1 (kCo_get (l := l) c3) qx_Co_107 qm_Co_get_d ⟨by decide, by decide⟩ ⟨Nat.le_refl _, Nat.le_refl _⟩ rfl rfl rfl rfl rfl (Nat.le_of_ble_eq_true rfl) qm_Co_pop_18 (fun H locs G => ?_)
  refine lv_iconst (v := 4) C.1 C.2.1 qm_Co_pop_21 (by decide) ?_
  refine lv_iadd C.1 C.2.1 qm_Co_pop_22 ?_
  obtain ⟨S4, c4, hf⟩ := bnd_s hf
  refine q_callVv (wf := (cW h K)) (n := 2) (As := [.int 14, .int (q3.1 + 4)]) (q0 := 5) (ci := 1) C G hl.1 (kCo_put (l := l) c4) qx_Co_114 qm_Co_put_d ⟨by decide, by decide⟩ ⟨Nat.le_refl _, Nat.le_refl _⟩ rfl rfl rfl rfl rfl (Nat.le_of_ble_eq_true rfl) qm_Co_pop_23 (fun H locs G => ?_)
  refine lv_iload_n C.1 C.2.1 qm_Co_pop_26 rfl (lv_at hl 0 rfl) ?_
  exact q_iret (wf := (cW h K)) C G hf qm_Co_pop_27
theorem kCo_pop {l : Launch} {ad : Nat → Nat} {D : va_G} {h : Nat → Nat} {K : Nat → ClassId} {res : Int32 × qS} {S : qS} (hf : fCo_pop S = some res) : qMi l qm_Co_pop qm_Co_pop_c 2 .int 3 78 D qCl (cT K) ad (cW h K) [.ref (h 5)] S res := qMi_of (by decide) (Nat.le_of_ble_eq_true rfl) (fun _ _ _ _ _ _ _ _ _ _ C G hl => wCo_pop C S hf _ _ _ G hl)
set_option maxHeartbeats 4000000 in
set_option maxRecDepth 100000 in
theorem wCo_setConditions_40 {l : Launch} {D : va_G} {h : Nat → Nat} {K : Nat → ClassId} {res : qS} {p : Program} {e : Env} {s : State} {m : MethodId} {args : Array Value} {below : List Frame} {meth : Method} {c : Code} {A : Nat → Prop} {ad : Nat → Nat} (C : qC p s m args meth c qm_Co_setConditions_c 6 none qR_Co ad) (S : qS) (y0 : Int32) (y1 : Int32) (hf : fCo_setConditions_40 S y0 y1 = some res) : ∀ (H : Heap) (locs : List Loc) (ls : Array Slot), qG D qCl (cT K) A s (cW h K S) H locs → lv_has ls 6 [(0, .ref (h 5))] → W p l e ({ frames := 0, cells := 0, slots := 0, locals := 0 }) s m args below meth c H locs 0 0 (MQ below (qQv D qCl (cT K) (cW h K) A res) args s 0 0 A) (F0 m 40 ls [.int y1, .int y0]) := by
  intro H locs ls G hl
  unfold fCo_setConditions_40 at hf
  refine lv_ior C.1 C.2.1 qm_Co_setConditions_40 ?_
  refine lv_istore (lv' := [(5, .int (y0 ||| y1)), (0, .ref (h 5))]) C.1 C.2.1 qm_Co_setConditions_41 hl (by decide) rfl (fun ls hl => ?_)
  refine lv_aload_n C.1 C.2.1 qm_Co_setConditions_43 rfl (lv_at hl 1 rfl) ?_
  refine lv_aload_n C.1 C.2.1 qm_Co_setConditions_44 rfl (lv_at hl 1 rfl) ?_
  refine q_get (wf := (cW h K)) (v := .int (S.1 6)) C G qi_Co 5 rfl rfl 9 (by decide) qz_136 rfl qm_Co_setConditions_45 ?_
  refine lv_bipush (v := (-16)) C.1 C.2.1 qm_Co_setConditions_48 (by decide) ?_
  refine lv_iand C.1 C.2.1 qm_Co_setConditions_50 ?_
  refine lv_iload C.1 C.2.1 qm_Co_setConditions_51 (lv_at hl 0 rfl) ?_
  refine lv_ior C.1 C.2.1 qm_Co_setConditions_53 ?_
  refine q_put (wf := (cW h K)) (S' := (pI S 6 (((S.1 6) &&& (-16)) ||| (y0 ||| y1)))) C G qi_Co qY_Co qy_Co qn_Co 5 rfl rfl 9 (by decide) qz_136 rfl rfl (Nat.le_of_ble_eq_true rfl) rfl qm_Co_setConditions_54 (fun H locs G => ?_)
  exact q_vret (wf := (cW h K)) C G hf qm_Co_setConditions_57
set_option maxHeartbeats 4000000 in
set_option maxRecDepth 100000 in
theorem wCo_setConditions_29 {l : Launch} {D : va_G} {h : Nat → Nat} {K : Nat → ClassId} {res : qS} {p : Program} {e : Env} {s : State} {m : MethodId} {args : Array Value} {below : List Frame} {meth : Method} {c : Code} {A : Nat → Prop} {ad : Nat → Nat} (C : qC p s m args meth c qm_Co_setConditions_c 6 none qR_Co ad) (S : qS) (x4 : Int32) (y0 : Int32) (y1 : Int32) (hf : fCo_setConditions_29 S x4 y0 y1 = some res) : ∀ (H : Heap) (locs : List Loc) (ls : Array Slot), qG D qCl (cT K) A s (cW h K S) H locs → lv_has ls 6 [(0, .ref (h 5)), (4, .int x4)] → W p l e ({ frames := 0, cells := 0, slots := 0, locals := 0 }) s m args below meth c H locs 0 0 (MQ below (qQv D qCl (cT K) (cW h K) A res) args s 0 0 A) (F0 m 29 ls [.int y1, .int y0]) := by
  intro H locs ls G hl
  unfold fCo_setConditions_29 at hf
  refine lv_ior C.1 C.2.1 qm_Co_setConditions_29 ?_
  refine lv_iload C.1 C.2.1 qm_Co_setConditions_30 (lv_at hl 1 rfl) ?_
  refine lv_if_eq (tgt := 39) C.1 C.2.1 qm_Co_setConditions_32 (by decide) (fun b1 => ?_) (fun b1 => ?_)
  · have hf := if_t b1 hf
    refine lv_iconst (v := 0) C.1 C.2.1 qm_Co_setConditions_39 (by decide) ?_
    exact wCo_setConditions_40 C S (y0 ||| y1) 0 hf _ _ _ G (lv_sub hl [0] rfl)
  · have hf := if_f b1 hf
    refine lv_iconst (v := 1) C.1 C.2.1 qm_Co_setConditions_35 (by decide) ?_
    refine lv_goto (tgt := 40) C.1 C.2.1 qm_Co_setConditions_36 (by decide) ?_
    exact wCo_setConditions_40 C S (y0 ||| y1) 1 hf _ _ _ G (lv_sub hl [0] rfl)
set_option maxHeartbeats 4000000 in
set_option maxRecDepth 100000 in
theorem wCo_setConditions_19 {l : Launch} {D : va_G} {h : Nat → Nat} {K : Nat → ClassId} {res : qS} {p : Program} {e : Env} {s : State} {m : MethodId} {args : Array Value} {below : List Frame} {meth : Method} {c : Code} {A : Nat → Prop} {ad : Nat → Nat} (C : qC p s m args meth c qm_Co_setConditions_c 6 none qR_Co ad) (S : qS) (x3 : Int32) (x4 : Int32) (y0 : Int32) (y1 : Int32) (hf : fCo_setConditions_19 S x3 x4 y0 y1 = some res) : ∀ (H : Heap) (locs : List Loc) (ls : Array Slot), qG D qCl (cT K) A s (cW h K S) H locs → lv_has ls 6 [(0, .ref (h 5)), (3, .int x3), (4, .int x4)] → W p l e ({ frames := 0, cells := 0, slots := 0, locals := 0 }) s m args below meth c H locs 0 0 (MQ below (qQv D qCl (cT K) (cW h K) A res) args s 0 0 A) (F0 m 19 ls [.int y1, .int y0]) := by
  intro H locs ls G hl
  unfold fCo_setConditions_19 at hf
  refine lv_ior C.1 C.2.1 qm_Co_setConditions_19 ?_
  refine lv_iload_n C.1 C.2.1 qm_Co_setConditions_20 rfl (lv_at hl 1 rfl) ?_
  refine lv_if_eq (tgt := 28) C.1 C.2.1 qm_Co_setConditions_21 (by decide) (fun b1 => ?_) (fun b1 => ?_)
  · have hf := if_t b1 hf
    refine lv_iconst (v := 0) C.1 C.2.1 qm_Co_setConditions_28 (by decide) ?_
    exact wCo_setConditions_29 C S x4 (y0 ||| y1) 0 hf _ _ _ G (lv_sub hl [0, 2] rfl)
  · have hf := if_f b1 hf
    refine lv_iconst (v := 2) C.1 C.2.1 qm_Co_setConditions_24 (by decide) ?_
    refine lv_goto (tgt := 29) C.1 C.2.1 qm_Co_setConditions_25 (by decide) ?_
    exact wCo_setConditions_29 C S x4 (y0 ||| y1) 2 hf _ _ _ G (lv_sub hl [0, 2] rfl)
set_option maxHeartbeats 4000000 in
set_option maxRecDepth 100000 in
theorem wCo_setConditions_10 {l : Launch} {D : va_G} {h : Nat → Nat} {K : Nat → ClassId} {res : qS} {p : Program} {e : Env} {s : State} {m : MethodId} {args : Array Value} {below : List Frame} {meth : Method} {c : Code} {A : Nat → Prop} {ad : Nat → Nat} (C : qC p s m args meth c qm_Co_setConditions_c 6 none qR_Co ad) (S : qS) (x2 : Int32) (x3 : Int32) (x4 : Int32) (y0 : Int32) (hf : fCo_setConditions_10 S x2 x3 x4 y0 = some res) : ∀ (H : Heap) (locs : List Loc) (ls : Array Slot), qG D qCl (cT K) A s (cW h K S) H locs → lv_has ls 6 [(0, .ref (h 5)), (2, .int x2), (3, .int x3), (4, .int x4)] → W p l e ({ frames := 0, cells := 0, slots := 0, locals := 0 }) s m args below meth c H locs 0 0 (MQ below (qQv D qCl (cT K) (cW h K) A res) args s 0 0 A) (F0 m 10 ls [.int y0]) := by
  intro H locs ls G hl
  unfold fCo_setConditions_10 at hf
  refine lv_iload_n C.1 C.2.1 qm_Co_setConditions_10 rfl (lv_at hl 1 rfl) ?_
  refine lv_if_eq (tgt := 18) C.1 C.2.1 qm_Co_setConditions_11 (by decide) (fun b1 => ?_) (fun b1 => ?_)
  · have hf := if_t b1 hf
    refine lv_iconst (v := 0) C.1 C.2.1 qm_Co_setConditions_18 (by decide) ?_
    exact wCo_setConditions_19 C S x3 x4 y0 0 hf _ _ _ G (lv_sub hl [0, 2, 3] rfl)
  · have hf := if_f b1 hf
    refine lv_iconst (v := 4) C.1 C.2.1 qm_Co_setConditions_14 (by decide) ?_
    refine lv_goto (tgt := 19) C.1 C.2.1 qm_Co_setConditions_15 (by decide) ?_
    exact wCo_setConditions_19 C S x3 x4 y0 4 hf _ _ _ G (lv_sub hl [0, 2, 3] rfl)
set_option maxHeartbeats 4000000 in
set_option maxRecDepth 100000 in
theorem wCo_setConditions {l : Launch} {D : va_G} {h : Nat → Nat} {K : Nat → ClassId} {res : qS} {p : Program} {e : Env} {s : State} {m : MethodId} {args : Array Value} {below : List Frame} {meth : Method} {c : Code} {A : Nat → Prop} {ad : Nat → Nat} (C : qC p s m args meth c qm_Co_setConditions_c 6 none qR_Co ad) (S : qS) (a1 : Int32) (a2 : Int32) (a3 : Int32) (a4 : Int32) (hf : fCo_setConditions S a1 a2 a3 a4 = some res) : ∀ (H : Heap) (locs : List Loc) (ls : Array Slot), qG D qCl (cT K) A s (cW h K S) H locs → lv_has ls 6 [(0, .ref (h 5)), (1, .int a1), (2, .int a2), (3, .int a3), (4, .int a4)] → W p l e ({ frames := 0, cells := 0, slots := 0, locals := 0 }) s m args below meth c H locs 0 0 (MQ below (qQv D qCl (cT K) (cW h K) A res) args s 0 0 A) (F0 m 0 ls []) := by
  intro H locs ls G hl
  unfold fCo_setConditions at hf
  refine lv_iload_n C.1 C.2.1 qm_Co_setConditions_0 rfl (lv_at hl 1 rfl) ?_
  refine lv_if_eq (tgt := 9) C.1 C.2.1 qm_Co_setConditions_1 (by decide) (fun b1 => ?_) (fun b1 => ?_)
  · have hf := if_t b1 hf
    refine lv_iconst (v := 0) C.1 C.2.1 qm_Co_setConditions_9 (by decide) ?_
    exact wCo_setConditions_10 C S a2 a3 a4 0 hf _ _ _ G (lv_sub hl [0, 2, 3, 4] rfl)
  · have hf := if_f b1 hf
    refine lv_bipush (v := 8) C.1 C.2.1 qm_Co_setConditions_4 (by decide) ?_
    refine lv_goto (tgt := 10) C.1 C.2.1 qm_Co_setConditions_6 (by decide) ?_
    exact wCo_setConditions_10 C S a2 a3 a4 8 hf _ _ _ G (lv_sub hl [0, 2, 3, 4] rfl)
theorem kCo_setConditions {l : Launch} {ad : Nat → Nat} {D : va_G} {h : Nat → Nat} {K : Nat → ClassId} {res : qS} {S : qS} {a1 : Int32} {a2 : Int32} {a3 : Int32} {a4 : Int32} (hf : fCo_setConditions S a1 a2 a3 a4 = some res) : qMv l qm_Co_setConditions qm_Co_setConditions_c 6 0 0 D qCl (cT K) ad (cW h K) [.ref (h 5), .int a1, .int a2, .int a3, .int a4] S res := qMv_of (by decide) (Nat.le_of_ble_eq_true rfl) (fun _ _ _ _ _ _ _ _ _ _ C G hl => wCo_setConditions C S a1 a2 a3 a4 hf _ _ _ G hl)
set_option maxHeartbeats 4000000 in
set_option maxRecDepth 100000 in
theorem wCo_conclude_19 {l : Launch} {D : va_G} {h : Nat → Nat} {K : Nat → ClassId} {res : qS} {p : Program} {e : Env} {s : State} {m : MethodId} {args : Array Value} {below : List Frame} {meth : Method} {c : Code} {A : Nat → Prop} {ad : Nat → Nat} (C : qC p s m args meth c qm_Co_conclude_c 4 none qR_Co ad) (S : qS) (x2 : Int32) (x3 : Int32) (y1 : Int32) (y2 : Int32) (hf : fCo_conclude_19 S x2 x3 y1 y2 = some res) : ∀ (H : Heap) (locs : List Loc) (ls : Array Slot), qG D qCl (cT K) A s (cW h K S) H locs → lv_has ls 4 [(2, .int x2), (3, .int x3)] → W p l e ({ frames := 1, cells := 0, slots := 0, locals := 25 }) s m args below meth c H locs 0 0 (MQ below (qQv D qCl (cT K) (cW h K) A res) args s 0 0 A) (F0 m 19 ls [.int y2, .int y1, .ref (h 5)]) := by
  intro H locs ls G hl
  unfold fCo_conclude_19 at hf
  refine lv_iload_n C.1 C.2.1 qm_Co_conclude_19 rfl (lv_at hl 0 rfl) ?_
  refine lv_iload_n C.1 C.2.1 qm_Co_conclude_20 rfl (lv_at hl 1 rfl) ?_
  obtain ⟨S1, c1, hf⟩ := bnd_s hf
  refine q_callVv (wf := (cW h K)) (n := 4) (As := [.int y1, .int y2, .int x2, .int x3]) (q0 := 5) (ci := 1) C G hl.1 (kCo_setConditions (l := l) c1) qx_Co_50 qm_Co_setConditions_d ⟨by decide, by decide⟩ ⟨Nat.le_refl _, Nat.le_refl _⟩ rfl rfl rfl rfl rfl (Nat.le_of_ble_eq_true rfl) qm_Co_conclude_21 (fun H locs G => ?_)
  exact q_vret (wf := (cW h K)) C G hf qm_Co_conclude_24
set_option maxHeartbeats 4000000 in
set_option maxRecDepth 100000 in
theorem wCo_conclude_10 {l : Launch} {D : va_G} {h : Nat → Nat} {K : Nat → ClassId} {res : qS} {p : Program} {e : Env} {s : State} {m : MethodId} {args : Array Value} {below : List Frame} {meth : Method} {c : Code} {A : Nat → Prop} {ad : Nat → Nat} (C : qC p s m args meth c qm_Co_conclude_c 4 none qR_Co ad) (S : qS) (x1 : Int32) (x2 : Int32) (x3 : Int32) (y1 : Int32) (hf : fCo_conclude_10 S x1 x2 x3 y1 = some res) : ∀ (H : Heap) (locs : List Loc) (ls : Array Slot), qG D qCl (cT K) A s (cW h K S) H locs → lv_has ls 4 [(1, .int x1), (2, .int x2), (3, .int x3)] → W p l e ({ frames := 1, cells := 0, slots := 0, locals := 25 }) s m args below meth c H locs 0 0 (MQ below (qQv D qCl (cT K) (cW h K) A res) args s 0 0 A) (F0 m 10 ls [.int y1, .ref (h 5)]) := by
  intro H locs ls G hl
  unfold fCo_conclude_10 at hf
  refine lv_iload_n C.1 C.2.1 qm_Co_conclude_10 rfl (lv_at hl 0 rfl) ?_
  refine lv_if_ne (tgt := 18) C.1 C.2.1 qm_Co_conclude_11 (by decide) (fun b1 => ?_) (fun b1 => ?_)
  · have hf := if_t b1 hf
    refine lv_iconst (v := 0) C.1 C.2.1 qm_Co_conclude_18 (by decide) ?_
    exact wCo_conclude_19 C S x2 x3 y1 0 hf _ _ _ G (lv_sub hl [1, 2] rfl)
  · have hf := if_f (not_not_intro b1) hf
    refine lv_iconst (v := 1) C.1 C.2.1 qm_Co_conclude_14 (by decide) ?_
    refine lv_goto (tgt := 19) C.1 C.2.1 qm_Co_conclude_15 (by decide) ?_
    exact wCo_conclude_19 C S x2 x3 y1 1 hf _ _ _ G (lv_sub hl [1, 2] rfl)
set_option maxHeartbeats 4000000 in
set_option maxRecDepth 100000 in
theorem wCo_conclude {l : Launch} {D : va_G} {h : Nat → Nat} {K : Nat → ClassId} {res : qS} {p : Program} {e : Env} {s : State} {m : MethodId} {args : Array Value} {below : List Frame} {meth : Method} {c : Code} {A : Nat → Prop} {ad : Nat → Nat} (C : qC p s m args meth c qm_Co_conclude_c 4 none qR_Co ad) (S : qS) (a1 : Int32) (a2 : Int32) (a3 : Int32) (hf : fCo_conclude S a1 a2 a3 = some res) : ∀ (H : Heap) (locs : List Loc) (ls : Array Slot), qG D qCl (cT K) A s (cW h K S) H locs → lv_has ls 4 [(0, .ref (h 5)), (1, .int a1), (2, .int a2), (3, .int a3)] → W p l e ({ frames := 1, cells := 0, slots := 0, locals := 25 }) s m args below meth c H locs 0 0 (MQ below (qQv D qCl (cT K) (cW h K) A res) args s 0 0 A) (F0 m 0 ls []) := by
  intro H locs ls G hl
  unfold fCo_conclude at hf
  refine lv_aload_n C.1 C.2.1 qm_Co_conclude_0 rfl (lv_at hl 0 rfl) ?_
  refine lv_iload_n C.1 C.2.1 qm_Co_conclude_1 rfl (lv_at hl 1 rfl) ?_
  refine lv_if_ge (tgt := 9) C.1 C.2.1 qm_Co_conclude_2 (by decide) (fun b1 => ?_) (fun b1 => ?_)
  · have hf := if_t b1 hf
    refine lv_iconst (v := 0) C.1 C.2.1 qm_Co_conclude_9 (by decide) ?_
    exact wCo_conclude_10 C S a1 a2 a3 0 hf _ _ _ G (lv_sub hl [1, 2, 3] rfl)
  · have hf := if_f b1 hf
    refine lv_iconst (v := 1) C.1 C.2.1 qm_Co_conclude_5 (by decide) ?_
    refine lv_goto (tgt := 10) C.1 C.2.1 qm_Co_conclude_6 (by decide) ?_
    exact wCo_conclude_10 C S a1 a2 a3 1 hf _ _ _ G (lv_sub hl [1, 2, 3] rfl)
theorem kCo_conclude {l : Launch} {ad : Nat → Nat} {D : va_G} {h : Nat → Nat} {K : Nat → ClassId} {res : qS} {S : qS} {a1 : Int32} {a2 : Int32} {a3 : Int32} (hf : fCo_conclude S a1 a2 a3 = some res) : qMv l qm_Co_conclude qm_Co_conclude_c 4 1 25 D qCl (cT K) ad (cW h K) [.ref (h 5), .int a1, .int a2, .int a3] S res := qMv_of (by decide) (Nat.le_of_ble_eq_true rfl) (fun _ _ _ _ _ _ _ _ _ _ C G hl => wCo_conclude C S a1 a2 a3 hf _ _ _ G hl)
set_option maxHeartbeats 4000000 in
set_option maxRecDepth 100000 in
theorem wCo_write_163 {l : Launch} {D : va_G} {h : Nat → Nat} {K : Nat → ClassId} {res : qS} {p : Program} {e : Env} {s : State} {m : MethodId} {args : Array Value} {below : List Frame} {meth : Method} {c : Code} {A : Nat → Prop} {ad : Nat → Nat} (C : qC p s m args meth c qm_Co_write_c 5 none qR_Co ad) (S : qS) (hf : fCo_write_163 S = some res) : ∀ (H : Heap) (locs : List Loc) (ls : Array Slot), qG D qCl (cT K) A s (cW h K S) H locs → lv_has ls 5 [] → W p l e ({ frames := 2, cells := 0, slots := 0, locals := 53 }) s m args below meth c H locs 0 0 (MQ below (qQv D qCl (cT K) (cW h K) A res) args s 0 0 A) (F0 m 163 ls []) := by
  intro H locs ls G hl
  unfold fCo_write_163 at hf
  exact q_vret (wf := (cW h K)) C G hf qm_Co_write_163
set_option maxHeartbeats 4000000 in
set_option maxRecDepth 100000 in
theorem wCo_write_136 {l : Launch} {D : va_G} {h : Nat → Nat} {K : Nat → ClassId} {res : qS} {p : Program} {e : Env} {s : State} {m : MethodId} {args : Array Value} {below : List Frame} {meth : Method} {c : Code} {A : Nat → Prop} {ad : Nat → Nat} (C : qC p s m args meth c qm_Co_write_c 5 none qR_Co ad) {K93 : qS → Int32 → Int32 → Int32 → Option (qS)} (hK93 : ∀ (S : qS) (x2 : Int32) (x3 : Int32) (x4 : Int32), K93 S x2 x3 x4 = some res → ∀ (H : Heap) (locs : List Loc) (ls : Array Slot), qG D qCl (cT K) A s (cW h K S) H locs → lv_has ls 5 [(0, .ref (h 5)), (2, .int x2), (3, .int x3), (4, .int x4)] → W p l e ({ frames := 2, cells := 0, slots := 0, locals := 53 }) s m args below meth c H locs 0 0 (MQ below (qQv D qCl (cT K) (cW h K) A res) args s 0 0 A) (F0 m 93 ls [])) (S : qS) (x2 : Int32) (x3 : Int32) (x4 : Int32) (hf : fCo_write_136 K93 S x2 x3 x4 = some res) : ∀ (H : Heap) (locs : List Loc) (ls : Array Slot), qG D qCl (cT K) A s (cW h K S) H locs → lv_has ls 5 [(0, .ref (h 5)), (2, .int x2), (3, .int x3), (4, .int x4)] → W p l e ({ frames := 2, cells := 0, slots := 0, locals := 53 }) s m args below meth c H locs 0 0 (MQ below (qQv D qCl (cT K) (cW h K) A res) args s 0 0 A) (F0 m 136 ls []) := by
  intro H locs ls G hl
  unfold fCo_write_136 at hf
  refine lv_aload_n C.1 C.2.1 qm_Co_write_136 rfl (lv_at hl 0 rfl) ?_
  refine q_get (wf := (cW h K)) (v := .ref (h 1)) C G qi_Co 5 rfl rfl 0 (by decide) qz_127 rfl qm_Co_write_137 ?_
  refine lv_aload_n C.1 C.2.1 qm_Co_write_140 rfl (lv_at hl 0 rfl) ?_
  refine q_get (wf := (cW h K)) (v := .ref (h 9)) C G qi_Co 5 rfl rfl 6 (by decide) qz_133 rfl qm_Co_write_141 ?_
  refine lv_iload C.1 C.2.1 qm_Co_write_144 (lv_at hl 3 rfl) ?_
  obtain ⟨b1, hf⟩ := chk_s hf
  refine q_iald (wf := (cW h K)) C G 9 5 rfl rfl b1 qm_Co_write_146 ?_
  refine lv_iload_n C.1 C.2.1 qm_Co_write_147 rfl (lv_at hl 1 rfl) ?_
  refine lv_bipush (v := 8) C.1 C.2.1 qm_Co_write_148 (by decide) ?_
  refine lv_iload C.1 C.2.1 qm_Co_write_150 (lv_at hl 3 rfl) ?_
  refine lv_imul C.1 C.2.1 qm_Co_write_152 ?_
  refine lv_iushr (v := ushr x2 (8 * x4)) C.1 C.2.1 qm_Co_write_153 rfl ?_
  obtain ⟨S2, c2, hf⟩ := bnd_s hf
  refine q_callVv (wf := (cW h K)) (n := 2) (As := [.int (gA S 5 x4), .int (ushr x2 (8 * x4))]) (q0 := 1) (ci := 5) C G hl.1 (kSt_putByte (l := l) c2) qx_Co_104 qm_St_putByte_d ⟨by decide, by decide⟩ ⟨Nat.le_refl _, Nat.le_refl _⟩ rfl rfl rfl rfl rfl (Nat.le_of_ble_eq_true rfl) qm_Co_write_154 (fun H locs G => ?_)
  refine lv_iinc (v := x4 + 1) (lv' := [(4, .int (x4 + 1)), (0, .ref (h 5)), (2, .int x2), (3, .int x3)]) C.1 C.2.1 qm_Co_write_157 hl (k := 3) rfl rfl (by decide) rfl (fun ls hl => ?_)
  refine lv_goto (tgt := 93) C.1 C.2.1 qm_Co_write_160 (by decide) ?_
  exact hK93 S2 x2 x3 (x4 + 1) hf _ _ _ G (lv_sub hl [1, 2, 3, 0] rfl)
set_option maxHeartbeats 4000000 in
set_option maxRecDepth 100000 in
theorem wCo_write_93 {l : Launch} {D : va_G} {h : Nat → Nat} {K : Nat → ClassId} {res : qS} {p : Program} {e : Env} {s : State} {m : MethodId} {args : Array Value} {below : List Frame} {meth : Method} {c : Code} {A : Nat → Prop} {ad : Nat → Nat} (C : qC p s m args meth c qm_Co_write_c 5 none qR_Co ad) : ∀ (n : Nat) (S : qS) (x2 : Int32) (x3 : Int32) (x4 : Int32), fCo_write_93 n S x2 x3 x4 = some res → ∀ (H : Heap) (locs : List Loc) (ls : Array Slot), qG D qCl (cT K) A s (cW h K S) H locs → lv_has ls 5 [(0, .ref (h 5)), (2, .int x2), (3, .int x3), (4, .int x4)] → W p l e ({ frames := 2, cells := 0, slots := 0, locals := 53 }) s m args below meth c H locs 0 0 (MQ below (qQv D qCl (cT K) (cW h K) A res) args s 0 0 A) (F0 m 93 ls []) := by
  intro n
  induction n with
  | zero => intro S x2 x3 x4 hf; cases hf
  | succ n ih =>
    intro S x2 x3 x4 hf H locs ls G hl
    rw [fCo_write_93] at hf
    refine lv_iload C.1 C.2.1 qm_Co_write_93 (lv_at hl 3 rfl) ?_
    refine lv_iload_n C.1 C.2.1 qm_Co_write_95 rfl (lv_at hl 2 rfl) ?_
    refine lv_icmp_ge (tgt := 163) C.1 C.2.1 qm_Co_write_96 (by decide) (fun b1 => ?_) (fun b1 => ?_)
    · have hf := if_t b1 hf
      exact wCo_write_163 C S hf _ _ _ G (lv_sub hl [] rfl)
    · have hf := if_f b1 hf
      refine lv_iload C.1 C.2.1 qm_Co_write_99 (lv_at hl 3 rfl) ?_
      refine lv_iconst (v := 4) C.1 C.2.1 qm_Co_write_101 (by decide) ?_
      refine lv_icmp_ge (tgt := 163) C.1 C.2.1 qm_Co_write_102 (by decide) (fun b2 => ?_) (fun b2 => ?_)
      · have hf := if_t b2 hf
        exact wCo_write_163 C S hf _ _ _ G (lv_sub hl [] rfl)
      · have hf := if_f b2 hf
        refine lv_aload_n C.1 C.2.1 qm_Co_write_105 rfl (lv_at hl 0 rfl) ?_
        refine q_get (wf := (cW h K)) (v := .int (S.1 7)) C G qi_Co 5 rfl rfl 10 (by decide) qz_139 rfl qm_Co_write_106 ?_
        refine lv_if_ne (tgt := 163) C.1 C.2.1 qm_Co_write_109 (by decide) (fun b3 => ?_) (fun b3 => ?_)
        · have hf := if_t b3 hf
          exact wCo_write_163 C S hf _ _ _ G (lv_sub hl [] rfl)
        · have hf := if_f (not_not_intro b3) hf
          refine lv_aload_n C.1 C.2.1 qm_Co_write_112 rfl (lv_at hl 0 rfl) ?_
          refine q_get (wf := (cW h K)) (v := .ref (h 10)) C G qi_Co 5 rfl rfl 7 (by decide) qz_134 rfl qm_Co_write_113 ?_
          refine lv_iload C.1 C.2.1 qm_Co_write_116 (lv_at hl 3 rfl) ?_
          obtain ⟨b4, hf⟩ := chk_s hf
          refine q_iald (wf := (cW h K)) C G 10 6 rfl rfl b4 qm_Co_write_118 ?_
          refine lv_if_lt (tgt := 136) C.1 C.2.1 qm_Co_write_119 (by decide) (fun b5 => ?_) (fun b5 => ?_)
          · have hf := if_t b5 hf
            exact wCo_write_136 C (ih) S x2 x3 x4 hf _ _ _ G (lv_sub hl [0, 1, 2, 3] rfl)
          · have hf := if_f b5 hf
            refine lv_aload_n C.1 C.2.1 qm_Co_write_122 rfl (lv_at hl 0 rfl) ?_
            refine q_get (wf := (cW h K)) (v := .ref (h 4)) C G qi_Co 5 rfl rfl 1 (by decide) qz_128 rfl qm_Co_write_123 ?_
            refine lv_aload_n C.1 C.2.1 qm_Co_write_126 rfl (lv_at hl 0 rfl) ?_
            refine q_get (wf := (cW h K)) (v := .ref (h 10)) C G qi_Co 5 rfl rfl 7 (by decide) qz_134 rfl qm_Co_write_127 ?_
            refine lv_iload C.1 C.2.1 qm_Co_write_130 (lv_at hl 3 rfl) ?_
            obtain ⟨b6, hf⟩ := chk_s hf
            refine q_iald (wf := (cW h K)) C G 10 6 rfl rfl b6 qm_Co_write_132 ?_
            obtain ⟨S7, c7, hf⟩ := bnd_s hf
            refine q_callVv (wf := (cW h K)) (n := 1) (As := [.int (gA S 6 x4)]) (q0 := 4) (ci := 3) C G hl.1 (kPg_markModified (l := l) c7) qx_Co_100 qm_Pg_markModified_d ⟨by decide, by decide⟩ ⟨Nat.le_refl _, Nat.le_refl _⟩ rfl rfl rfl rfl rfl (Nat.le_of_ble_eq_true rfl) qm_Co_write_133 (fun H locs G => ?_)
            exact wCo_write_136 C (ih) S7 x2 x3 x4 hf _ _ _ G (lv_sub hl [0, 1, 2, 3] rfl)
set_option maxHeartbeats 4000000 in
set_option maxRecDepth 100000 in
theorem wCo_write_90 {l : Launch} {D : va_G} {h : Nat → Nat} {K : Nat → ClassId} {res : qS} {p : Program} {e : Env} {s : State} {m : MethodId} {args : Array Value} {below : List Frame} {meth : Method} {c : Code} {A : Nat → Prop} {ad : Nat → Nat} (C : qC p s m args meth c qm_Co_write_c 5 none qR_Co ad) (S : qS) (x2 : Int32) (x3 : Int32) (hf : fCo_write_90 S x2 x3 = some res) : ∀ (H : Heap) (locs : List Loc) (ls : Array Slot), qG D qCl (cT K) A s (cW h K S) H locs → lv_has ls 5 [(0, .ref (h 5)), (2, .int x2), (3, .int x3)] → W p l e ({ frames := 2, cells := 0, slots := 0, locals := 53 }) s m args below meth c H locs 0 0 (MQ below (qQv D qCl (cT K) (cW h K) A res) args s 0 0 A) (F0 m 90 ls []) := by
  intro H locs ls G hl
  unfold fCo_write_90 at hf
  refine lv_iconst (v := 0) C.1 C.2.1 qm_Co_write_90 (by decide) ?_
  refine lv_istore (lv' := [(4, .int 0), (0, .ref (h 5)), (2, .int x2), (3, .int x3)]) C.1 C.2.1 qm_Co_write_91 hl (by decide) rfl (fun ls hl => ?_)
  exact wCo_write_93 C 300 S x2 x3 0 hf _ _ _ G (lv_sub hl [1, 2, 3, 0] rfl)
set_option maxHeartbeats 4000000 in
set_option maxRecDepth 100000 in
theorem wCo_write_84 {l : Launch} {D : va_G} {h : Nat → Nat} {K : Nat → ClassId} {res : qS} {p : Program} {e : Env} {s : State} {m : MethodId} {args : Array Value} {below : List Frame} {meth : Method} {c : Code} {A : Nat → Prop} {ad : Nat → Nat} (C : qC p s m args meth c qm_Co_write_c 5 none qR_Co ad) {K3 : qS → Int32 → Int32 → Int32 → Int32 → Option (qS)} (hK3 : ∀ (S : qS) (x1 : Int32) (x2 : Int32) (x3 : Int32) (x4 : Int32), K3 S x1 x2 x3 x4 = some res → ∀ (H : Heap) (locs : List Loc) (ls : Array Slot), qG D qCl (cT K) A s (cW h K S) H locs → lv_has ls 5 [(0, .ref (h 5)), (1, .int x1), (2, .int x2), (3, .int x3), (4, .int x4)] → W p l e ({ frames := 2, cells := 0, slots := 0, locals := 53 }) s m args below meth c H locs 0 0 (MQ below (qQv D qCl (cT K) (cW h K) A res) args s 0 0 A) (F0 m 3 ls [])) (S : qS) (x1 : Int32) (x2 : Int32) (x3 : Int32) (x4 : Int32) (hf : fCo_write_84 K3 S x1 x2 x3 x4 = some res) : ∀ (H : Heap) (locs : List Loc) (ls : Array Slot), qG D qCl (cT K) A s (cW h K S) H locs → lv_has ls 5 [(0, .ref (h 5)), (1, .int x1), (2, .int x2), (3, .int x3), (4, .int x4)] → W p l e ({ frames := 2, cells := 0, slots := 0, locals := 53 }) s m args below meth c H locs 0 0 (MQ below (qQv D qCl (cT K) (cW h K) A res) args s 0 0 A) (F0 m 84 ls []) := by
  intro H locs ls G hl
  unfold fCo_write_84 at hf
  refine lv_iinc (v := x4 + 1) (lv' := [(4, .int (x4 + 1)), (0, .ref (h 5)), (1, .int x1), (2, .int x2), (3, .int x3)]) C.1 C.2.1 qm_Co_write_84 hl (k := 4) rfl rfl (by decide) rfl (fun ls hl => ?_)
  refine lv_goto (tgt := 3) C.1 C.2.1 qm_Co_write_87 (by decide) ?_
  exact hK3 S x1 x2 x3 (x4 + 1) hf _ _ _ G (lv_sub hl [1, 2, 3, 4, 0] rfl)
set_option maxHeartbeats 4000000 in
set_option maxRecDepth 100000 in
theorem wCo_write_3 {l : Launch} {D : va_G} {h : Nat → Nat} {K : Nat → ClassId} {res : qS} {p : Program} {e : Env} {s : State} {m : MethodId} {args : Array Value} {below : List Frame} {meth : Method} {c : Code} {A : Nat → Prop} {ad : Nat → Nat} (C : qC p s m args meth c qm_Co_write_c 5 none qR_Co ad) : ∀ (n : Nat) (S : qS) (x1 : Int32) (x2 : Int32) (x3 : Int32) (x4 : Int32), fCo_write_3 n S x1 x2 x3 x4 = some res → ∀ (H : Heap) (locs : List Loc) (ls : Array Slot), qG D qCl (cT K) A s (cW h K S) H locs → lv_has ls 5 [(0, .ref (h 5)), (1, .int x1), (2, .int x2), (3, .int x3), (4, .int x4)] → W p l e ({ frames := 2, cells := 0, slots := 0, locals := 53 }) s m args below meth c H locs 0 0 (MQ below (qQv D qCl (cT K) (cW h K) A res) args s 0 0 A) (F0 m 3 ls []) := by
  intro n
  induction n with
  | zero => intro S x1 x2 x3 x4 hf; cases hf
  | succ n ih =>
    intro S x1 x2 x3 x4 hf H locs ls G hl
    rw [fCo_write_3] at hf
    refine lv_iload C.1 C.2.1 qm_Co_write_3 (lv_at hl 4 rfl) ?_
    refine lv_iload_n C.1 C.2.1 qm_Co_write_5 rfl (lv_at hl 3 rfl) ?_
    refine lv_icmp_ge (tgt := 90) C.1 C.2.1 qm_Co_write_6 (by decide) (fun b1 => ?_) (fun b1 => ?_)
    · have hf := if_t b1 hf
      exact wCo_write_90 C S x2 x3 hf _ _ _ G (lv_sub hl [0, 2, 3] rfl)
    · have hf := if_f b1 hf
      refine lv_iload C.1 C.2.1 qm_Co_write_9 (lv_at hl 4 rfl) ?_
      refine lv_iconst (v := 4) C.1 C.2.1 qm_Co_write_11 (by decide) ?_
      refine lv_icmp_ge (tgt := 90) C.1 C.2.1 qm_Co_write_12 (by decide) (fun b2 => ?_) (fun b2 => ?_)
      · have hf := if_t b2 hf
        exact wCo_write_90 C S x2 x3 hf _ _ _ G (lv_sub hl [0, 2, 3] rfl)
      · have hf := if_f b2 hf
        refine lv_aload_n C.1 C.2.1 qm_Co_write_15 rfl (lv_at hl 0 rfl) ?_
        refine q_get (wf := (cW h K)) (v := .int (S.1 7)) C G qi_Co 5 rfl rfl 10 (by decide) qz_139 rfl qm_Co_write_16 ?_
        refine lv_if_ne (tgt := 90) C.1 C.2.1 qm_Co_write_19 (by decide) (fun b3 => ?_) (fun b3 => ?_)
        · have hf := if_t b3 hf
          exact wCo_write_90 C S x2 x3 hf _ _ _ G (lv_sub hl [0, 2, 3] rfl)
        · have hf := if_f (not_not_intro b3) hf
          refine lv_aload_n C.1 C.2.1 qm_Co_write_22 rfl (lv_at hl 0 rfl) ?_
          refine q_get (wf := (cW h K)) (v := .ref (h 9)) C G qi_Co 5 rfl rfl 6 (by decide) qz_133 rfl qm_Co_write_23 ?_
          refine lv_iload C.1 C.2.1 qm_Co_write_26 (lv_at hl 4 rfl) ?_
          refine lv_aload_n C.1 C.2.1 qm_Co_write_28 rfl (lv_at hl 0 rfl) ?_
          refine q_get (wf := (cW h K)) (v := .ref (h 4)) C G qi_Co 5 rfl rfl 1 (by decide) qz_128 rfl qm_Co_write_29 ?_
          refine lv_iload_n C.1 C.2.1 qm_Co_write_32 rfl (lv_at hl 1 rfl) ?_
          refine lv_iload C.1 C.2.1 qm_Co_write_33 (lv_at hl 4 rfl) ?_
          refine lv_iadd C.1 C.2.1 qm_Co_write_35 ?_
          refine lv_iconst (v := 1) C.1 C.2.1 qm_Co_write_36 (by decide) ?_
          refine lv_aload_n C.1 C.2.1 qm_Co_write_37 rfl (lv_at hl 0 rfl) ?_
          obtain ⟨q4, c4, hf⟩ := bnd_s hf
          refine q_callVi (wf := (cW h K)) (n := 0) (As := []) (q0 := 5) (ci := 1) C G hl.1 (kCo_mode (l := l) c4) qx_Co_42 qm_Co_mode_d ⟨by decide, by decide⟩ ⟨Nat.le_refl _, Nat.le_refl _⟩ rfl rfl rfl rfl rfl (Nat.le_of_ble_eq_true rfl) qm_Co_write_38 (fun H locs G => ?_)
          obtain ⟨q5, c5, hf⟩ := bnd_s hf
          refine q_callVi (wf := (cW h K)) (n := 3) (As := [.int (x1 + x4), .int 1, .int q4.1]) (q0 := 4) (ci := 3) C G hl.1 (kPg_locate (l := l) c5) qx_Co_84 qm_Pg_locate_d ⟨by decide, by decide⟩ ⟨Nat.le_refl _, Nat.le_refl _⟩ rfl rfl rfl rfl rfl (Nat.le_of_ble_eq_true rfl) qm_Co_write_41 (fun H locs G => ?_)
          obtain ⟨b6, hf⟩ := chk_s hf
          refine q_iast (wf := (cW h K)) (S' := (pA q5.2 5 x4 q5.1)) C G 9 5 rfl rfl b6 rfl qm_Co_write_44 (fun H locs G => ?_)
          refine lv_aload_n C.1 C.2.1 qm_Co_write_45 rfl (lv_at hl 0 rfl) ?_
          refine q_get (wf := (cW h K)) (v := .ref (h 10)) C G qi_Co 5 rfl rfl 7 (by decide) qz_134 rfl qm_Co_write_46 ?_
          refine lv_iload C.1 C.2.1 qm_Co_write_49 (lv_at hl 4 rfl) ?_
          refine lv_aload_n C.1 C.2.1 qm_Co_write_51 rfl (lv_at hl 0 rfl) ?_
          refine q_get (wf := (cW h K)) (v := .ref (h 4)) C G qi_Co 5 rfl rfl 1 (by decide) qz_128 rfl qm_Co_write_52 ?_
          refine q_getN (host := "QuadMode") (wf := (cW h K)) (v := .int ((pA q5.2 5 x4 q5.1).1 4)) C G qi_Pg 4 rfl rfl 2 (by decide) (by decide +kernel) rfl qm_Co_write_55 ?_
          obtain ⟨b7, hf⟩ := chk_s hf
          refine q_iast (wf := (cW h K)) (S' := (pA (pA q5.2 5 x4 q5.1) 6 x4 ((pA q5.2 5 x4 q5.1).1 4))) C G 10 6 rfl rfl b7 rfl qm_Co_write_58 (fun H locs G => ?_)
          refine lv_aload_n C.1 C.2.1 qm_Co_write_59 rfl (lv_at hl 0 rfl) ?_
          refine q_get (wf := (cW h K)) (v := .ref (h 9)) C G qi_Co 5 rfl rfl 6 (by decide) qz_133 rfl qm_Co_write_60 ?_
          refine lv_iload C.1 C.2.1 qm_Co_write_63 (lv_at hl 4 rfl) ?_
          obtain ⟨b8, hf⟩ := chk_s hf
          refine q_iald (wf := (cW h K)) C G 9 5 rfl rfl b8 qm_Co_write_65 ?_
          refine lv_if_ge (tgt := 84) C.1 C.2.1 qm_Co_write_66 (by decide) (fun b9 => ?_) (fun b9 => ?_)
          · have hf := if_t b9 hf
            exact wCo_write_84 C (ih) (pA (pA q5.2 5 x4 q5.1) 6 x4 ((pA q5.2 5 x4 q5.1).1 4)) x1 x2 x3 x4 hf _ _ _ G (lv_sub hl [0, 1, 2, 3, 4] rfl)
          · have hf := if_f b9 hf
            refine lv_aload_n C.1 C.2.1 qm_Co_write_69 rfl (lv_at hl 0 rfl) ?_
            refine lv_aload_n C.1 C.2.1 qm_Co_write_70 rfl (lv_at hl 0 rfl) ?_
            refine q_get (wf := (cW h K)) (v := .ref (h 9)) C G qi_Co 5 rfl rfl 6 (by decide) qz_133 rfl qm_Co_write_71 ?_
            refine lv_iload C.1 C.2.1 qm_Co_write_74 (lv_at hl 4 rfl) ?_
            obtain ⟨b10, hf⟩ := chk_s hf
            refine q_iald (wf := (cW h K)) C G 9 5 rfl rfl b10 qm_Co_write_76 ?_
            refine lv_iload_n C.1 C.2.1 qm_Co_write_77 rfl (lv_at hl 1 rfl) ?_
            refine lv_iload C.1 C.2.1 qm_Co_write_78 (lv_at hl 4 rfl) ?_
            refine lv_iadd C.1 C.2.1 qm_Co_write_80 ?_
            obtain ⟨S11, c11, hf⟩ := bnd_s hf
            refine q_callVv (wf := (cW h K)) (n := 2) (As := [.int (gA (pA (pA q5.2 5 x4 q5.1) 6 x4 ((pA q5.2 5 x4 q5.1).1 4)) 5 x4), .int (x1 + x4)]) (q0 := 5) (ci := 1) C G hl.1 (kCo_refuse (l := l) c11) qx_Co_88 qm_Co_refuse_d ⟨by decide, by decide⟩ ⟨Nat.le_refl _, Nat.le_refl _⟩ rfl rfl rfl rfl rfl (Nat.le_of_ble_eq_true rfl) qm_Co_write_81 (fun H locs G => ?_)
            exact wCo_write_84 C (ih) S11 x1 x2 x3 x4 hf _ _ _ G (lv_sub hl [0, 1, 2, 3, 4] rfl)
set_option maxHeartbeats 4000000 in
set_option maxRecDepth 100000 in
theorem wCo_write {l : Launch} {D : va_G} {h : Nat → Nat} {K : Nat → ClassId} {res : qS} {p : Program} {e : Env} {s : State} {m : MethodId} {args : Array Value} {below : List Frame} {meth : Method} {c : Code} {A : Nat → Prop} {ad : Nat → Nat} (C : qC p s m args meth c qm_Co_write_c 5 none qR_Co ad) (S : qS) (a1 : Int32) (a2 : Int32) (a3 : Int32) (hf : fCo_write S a1 a2 a3 = some res) : ∀ (H : Heap) (locs : List Loc) (ls : Array Slot), qG D qCl (cT K) A s (cW h K S) H locs → lv_has ls 5 [(0, .ref (h 5)), (1, .int a1), (2, .int a2), (3, .int a3)] → W p l e ({ frames := 2, cells := 0, slots := 0, locals := 53 }) s m args below meth c H locs 0 0 (MQ below (qQv D qCl (cT K) (cW h K) A res) args s 0 0 A) (F0 m 0 ls []) := by
  intro H locs ls G hl
  unfold fCo_write at hf
  refine lv_iconst (v := 0) C.1 C.2.1 qm_Co_write_0 (by decide) ?_
  refine lv_istore (lv' := [(4, .int 0), (0, .ref (h 5)), (1, .int a1), (2, .int a2), (3, .int a3)]) C.1 C.2.1 qm_Co_write_1 hl (by decide) rfl (fun ls hl => ?_)
  exact wCo_write_3 C 300 S a1 a2 a3 0 hf _ _ _ G (lv_sub hl [1, 2, 3, 4, 0] rfl)
theorem kCo_write {l : Launch} {ad : Nat → Nat} {D : va_G} {h : Nat → Nat} {K : Nat → ClassId} {res : qS} {S : qS} {a1 : Int32} {a2 : Int32} {a3 : Int32} (hf : fCo_write S a1 a2 a3 = some res) : qMv l qm_Co_write qm_Co_write_c 5 2 53 D qCl (cT K) ad (cW h K) [.ref (h 5), .int a1, .int a2, .int a3] S res := qMv_of (by decide) (Nat.le_of_ble_eq_true rfl) (fun _ _ _ _ _ _ _ _ _ _ C G hl => wCo_write C S a1 a2 a3 hf _ _ _ G hl)
set_option maxHeartbeats 4000000 in
set_option maxRecDepth 100000 in
theorem wCo_push {l : Launch} {D : va_G} {h : Nat → Nat} {K : Nat → ClassId} {res : qS} {p : Program} {e : Env} {s : State} {m : MethodId} {args : Array Value} {below : List Frame} {meth : Method} {c : Code} {A : Nat → Prop} {ad : Nat → Nat} (C : qC p s m args meth c qm_Co_push_c 2 none qR_Co ad) (S : qS) (a1 : Int32) (hf : fCo_push S a1 = some res) : ∀ (H : Heap) (locs : List Loc) (ls : Array Slot), qG D qCl (cT K) A s (cW h K S) H locs → lv_has ls 2 [(0, .ref (h 5)), (1, .int a1)] → W p l e ({ frames := 3, cells := 0, slots := 0, locals := 77 }) s m args below meth c H locs 0 0 (MQ below (qQv D qCl (cT K) (cW h K) A res) args s 0 0 A) (F0 m 0 ls []) := by
  intro H locs ls G hl
  unfold fCo_push at hf
  refine lv_aload_n C.1 C.2.1 qm_Co_push_0 rfl (lv_at hl 0 rfl) ?_
  refine lv_aload_n C.1 C.2.1 qm_Co_push_1 rfl (lv_at hl 0 rfl) ?_
  refine lv_bipush (v := 14) C.1 C.2.1 qm_Co_push_2 (by decide) ?_
  obtain ⟨q1, c1, hf⟩ := bnd_s hf
  refine q_callVi (wf := (cW h K)) (n := 1) (As := [.int 14]) (q0 := 5) (ci := 1) C G hl.1 (kCo_get (l := l) c1) qx_Co_107 qm_Co_get_d ⟨by decide, by decide⟩ ⟨Nat.le_refl _, Nat.le_refl _⟩ rfl rfl rfl rfl rfl (Nat.le_of_ble_eq_true rfl) qm_Co_push_4 (fun H locs G => ?_)
  refine lv_iconst (v := 4) C.1 C.2.1 qm_Co_push_7 (by decide) ?_
  refine lv_isub C.1 C.2.1 qm_Co_push_8 ?_
  refine lv_iload_n C.1 C.2.1 qm_Co_push_9 rfl (lv_at hl 1 rfl) ?_
  refine lv_iconst (v := 4) C.1 C.2.1 qm_Co_push_10 (by decide) ?_
  obtain ⟨S2, c2, hf⟩ := bnd_s hf
  refine q_callVv (wf := (cW h K)) (n := 3) (As := [.int (q1.1 - 4), .int a1, .int 4]) (q0 := 5) (ci := 1) C G hl.1 (kCo_write (l := l) c2) qx_Co_117 qm_Co_write_d ⟨by decide, by decide⟩ ⟨Nat.le_refl _, Nat.le_refl _⟩ rfl rfl rfl rfl rfl (Nat.le_of_ble_eq_true rfl) qm_Co_push_11 (fun H locs G => ?_)
  refine lv_aload_n C.1 C.2.1 qm_Co_push_14 rfl (lv_at hl 0 rfl) ?_
  refine lv_bipush (v := 14) C.1 C.2.1 qm_Co_push_15 (by decide) ?_
  refine lv_aload_n C.1 C.2.1 qm_Co_push_17 rfl (lv_at hl 0 rfl) ?_
  refine lv_bipush (v := 14) C.1 C.2.1 qm_Co_push_18 (by decide) ?_
  obtain ⟨q3, c3, hf⟩ := bnd_s hf
  refine q_callVi (wf := (cW h K)) (n := 1) (As := [.int 14]) (q0 := 5) (ci := 1) C G hl.1 (kCo_get (l := l) c3) qx_Co_107 qm_Co_get_d ⟨by decide, by decide⟩ ⟨Nat.le_refl _, Nat.le_refl _⟩ rfl rfl rfl rfl rfl (Nat.le_of_ble_eq_true rfl) qm_Co_push_20 (fun H locs G => ?_)
  refine lv_iconst (v := 4) C.1 C.2.1 qm_Co_push_23 (by decide) ?_
  refine lv_isub C.1 C.2.1 qm_Co_push_24 ?_
  obtain ⟨S4, c4, hf⟩ := bnd_s hf
  refine q_callVv (wf := (cW h K)) (n := 2) (As := [.int 14, .int (q3.1 - 4)]) (q0 := 5) (ci := 1) C G hl.1 (kCo_put (l := l) c4) qx_Co_114 qm_Co_put_d ⟨by decide, by decide⟩ ⟨Nat.le_refl _, Nat.le_refl _⟩ rfl rfl rfl rfl rfl (Nat.le_of_ble_eq_true rfl) qm_Co_push_25 (fun H locs G => ?_)
  exact q_vret (wf := (cW h K)) C G hf qm_Co_push_28
theorem kCo_push {l : Launch} {ad : Nat → Nat} {D : va_G} {h : Nat → Nat} {K : Nat → ClassId} {res : qS} {S : qS} {a1 : Int32} (hf : fCo_push S a1 = some res) : qMv l qm_Co_push qm_Co_push_c 2 3 77 D qCl (cT K) ad (cW h K) [.ref (h 5), .int a1] S res := qMv_of (by decide) (Nat.le_of_ble_eq_true rfl) (fun _ _ _ _ _ _ _ _ _ _ C G hl => wCo_push C S a1 hf _ _ _ G hl)
set_option maxHeartbeats 4000000 in
set_option maxRecDepth 100000 in
theorem wCo_previous {l : Launch} {D : va_G} {h : Nat → Nat} {K : Nat → ClassId} {res : Int32 × qS} {p : Program} {e : Env} {s : State} {m : MethodId} {args : Array Value} {below : List Frame} {meth : Method} {c : Code} {A : Nat → Prop} {ad : Nat → Nat} (C : qC p s m args meth c qm_Co_previous_c 1 (some .int) qR_Co ad) (S : qS) (hf : fCo_previous S = some res) : ∀ (H : Heap) (locs : List Loc) (ls : Array Slot), qG D qCl (cT K) A s (cW h K S) H locs → lv_has ls 1 [(0, .ref (h 5))] → W p l e ({ frames := 0, cells := 0, slots := 0, locals := 0 }) s m args below meth c H locs 0 0 (MQ below (qQi D qCl (cT K) (cW h K) A res) args s 0 0 A) (F0 m 0 ls []) := by
  intro H locs ls G hl
  unfold fCo_previous at hf
  refine lv_aload_n C.1 C.2.1 qm_Co_previous_0 rfl (lv_at hl 0 rfl) ?_
  refine q_get (wf := (cW h K)) (v := .int (S.1 6)) C G qi_Co 5 rfl rfl 9 (by decide) qz_136 rfl qm_Co_previous_1 ?_
  refine lv_bipush (v := 22) C.1 C.2.1 qm_Co_previous_4 (by decide) ?_
  refine lv_iushr (v := ushr (S.1 6) 22) C.1 C.2.1 qm_Co_previous_6 rfl ?_
  refine lv_iconst (v := 3) C.1 C.2.1 qm_Co_previous_7 (by decide) ?_
  refine lv_iand C.1 C.2.1 qm_Co_previous_8 ?_
  exact q_iret (wf := (cW h K)) C G hf qm_Co_previous_9
theorem kCo_previous {l : Launch} {ad : Nat → Nat} {D : va_G} {h : Nat → Nat} {K : Nat → ClassId} {res : Int32 × qS} {S : qS} (hf : fCo_previous S = some res) : qMi l qm_Co_previous qm_Co_previous_c 1 .int 0 0 D qCl (cT K) ad (cW h K) [.ref (h 5)] S res := qMi_of (by decide) (Nat.le_of_ble_eq_true rfl) (fun _ _ _ _ _ _ _ _ _ _ C G hl => wCo_previous C S hf _ _ _ G hl)
set_option maxHeartbeats 4000000 in
set_option maxRecDepth 100000 in
theorem wCo_admits_47 {l : Launch} {D : va_G} {h : Nat → Nat} {K : Nat → ClassId} {res : Int32 × qS} {p : Program} {e : Env} {s : State} {m : MethodId} {args : Array Value} {below : List Frame} {meth : Method} {c : Code} {A : Nat → Prop} {ad : Nat → Nat} (C : qC p s m args meth c qm_Co_admits_c 5 (some .boolean) qR_Co ad) (S : qS) (hf : fCo_admits_47 S = some res) : ∀ (H : Heap) (locs : List Loc) (ls : Array Slot), qG D qCl (cT K) A s (cW h K S) H locs → lv_has ls 5 [] → W p l e ({ frames := 2, cells := 0, slots := 0, locals := 53 }) s m args below meth c H locs 0 0 (MQ below (qQi D qCl (cT K) (cW h K) A res) args s 0 0 A) (F0 m 47 ls []) := by
  intro H locs ls G hl
  unfold fCo_admits_47 at hf
  refine lv_iconst (v := 1) C.1 C.2.1 qm_Co_admits_47 (by decide) ?_
  exact q_zret (wf := (cW h K)) C G hf qm_Co_admits_48
set_option maxHeartbeats 4000000 in
set_option maxRecDepth 100000 in
theorem wCo_admits {l : Launch} {D : va_G} {h : Nat → Nat} {K : Nat → ClassId} {res : Int32 × qS} {p : Program} {e : Env} {s : State} {m : MethodId} {args : Array Value} {below : List Frame} {meth : Method} {c : Code} {A : Nat → Prop} {ad : Nat → Nat} (C : qC p s m args meth c qm_Co_admits_c 5 (some .boolean) qR_Co ad) (S : qS) (a1 : Int32) (a2 : Int32) (a3 : Int32) (hf : fCo_admits S a1 a2 a3 = some res) : ∀ (H : Heap) (locs : List Loc) (ls : Array Slot), qG D qCl (cT K) A s (cW h K S) H locs → lv_has ls 5 [(0, .ref (h 5)), (1, .int a1), (2, .int a2), (3, .int a3)] → W p l e ({ frames := 2, cells := 0, slots := 0, locals := 53 }) s m args below meth c H locs 0 0 (MQ below (qQi D qCl (cT K) (cW h K) A res) args s 0 0 A) (F0 m 0 ls []) := by
  intro H locs ls G hl
  unfold fCo_admits at hf
  refine lv_aload_n C.1 C.2.1 qm_Co_admits_0 rfl (lv_at hl 0 rfl) ?_
  refine q_get (wf := (cW h K)) (v := .ref (h 4)) C G qi_Co 5 rfl rfl 1 (by decide) qz_128 rfl qm_Co_admits_1 ?_
  refine lv_iload_n C.1 C.2.1 qm_Co_admits_4 rfl (lv_at hl 1 rfl) ?_
  refine lv_iload_n C.1 C.2.1 qm_Co_admits_5 rfl (lv_at hl 2 rfl) ?_
  refine lv_iload_n C.1 C.2.1 qm_Co_admits_6 rfl (lv_at hl 3 rfl) ?_
  obtain ⟨q1, c1, hf⟩ := bnd_s hf
  refine q_callVi (wf := (cW h K)) (n := 3) (As := [.int a1, .int a2, .int a3]) (q0 := 4) (ci := 3) C G hl.1 (kPg_locate (l := l) c1) qx_Co_84 qm_Pg_locate_d ⟨by decide, by decide⟩ ⟨Nat.le_refl _, Nat.le_refl _⟩ rfl rfl rfl rfl rfl (Nat.le_of_ble_eq_true rfl) qm_Co_admits_7 (fun H locs G => ?_)
  refine lv_istore (lv' := [(4, .int q1.1), (0, .ref (h 5)), (1, .int a1), (2, .int a2), (3, .int a3)]) C.1 C.2.1 qm_Co_admits_10 hl (by decide) rfl (fun ls hl => ?_)
  refine lv_iload C.1 C.2.1 qm_Co_admits_12 (lv_at hl 0 rfl) ?_
  refine lv_if_lt (tgt := 19) C.1 C.2.1 qm_Co_admits_14 (by decide) (fun b2 => ?_) (fun b2 => ?_)
  · have hf := if_t b2 hf
    refine lv_iload C.1 C.2.1 qm_Co_admits_19 (lv_at hl 0 rfl) ?_
    obtain ⟨q3, c3, hf⟩ := bnd_s hf
    refine q_callSi (wf := (cW h K)) (n := 1) (As := [.int q1.1]) C G hl.1 (kPg_faultOf (l := l) c3) qx_Co_69 qm_Pg_faultOf_d ⟨by decide, by decide⟩ ⟨Nat.le_refl _, Nat.le_refl _⟩ rfl rfl (Nat.le_of_ble_eq_true rfl) qm_Co_admits_21 (fun H locs G => ?_)
    refine lv_iconst (v := 4) C.1 C.2.1 qm_Co_admits_24 (by decide) ?_
    refine lv_icmp_ne (tgt := 30) C.1 C.2.1 qm_Co_admits_25 (by decide) (fun b4 => ?_) (fun b4 => ?_)
    · have hf := if_t b4 hf
      refine lv_iload C.1 C.2.1 qm_Co_admits_30 (lv_at hl 0 rfl) ?_
      obtain ⟨q5, c5, hf⟩ := bnd_s hf
      refine q_callSi (wf := (cW h K)) (n := 1) (As := [.int q1.1]) C G hl.1 (kPg_flagOf (l := l) c5) qx_Co_75 qm_Pg_flagOf_d ⟨by decide, by decide⟩ ⟨Nat.le_refl _, Nat.le_refl _⟩ rfl rfl (Nat.le_of_ble_eq_true rfl) qm_Co_admits_32 (fun H locs G => ?_)
      refine lv_iconst (v := 2) C.1 C.2.1 qm_Co_admits_35 (by decide) ?_
      refine lv_iand C.1 C.2.1 qm_Co_admits_36 ?_
      refine lv_if_eq (tgt := 47) C.1 C.2.1 qm_Co_admits_37 (by decide) (fun b6 => ?_) (fun b6 => ?_)
      · have hf := if_t b6 hf
        exact wCo_admits_47 C q5.2 hf _ _ _ G (lv_sub hl [] rfl)
      · have hf := if_f b6 hf
        refine lv_aload_n C.1 C.2.1 qm_Co_admits_40 rfl (lv_at hl 1 rfl) ?_
        refine lv_iload C.1 C.2.1 qm_Co_admits_41 (lv_at hl 0 rfl) ?_
        refine lv_iload_n C.1 C.2.1 qm_Co_admits_43 rfl (lv_at hl 2 rfl) ?_
        obtain ⟨S7, c7, hf⟩ := bnd_s hf
        refine q_callVv (wf := (cW h K)) (n := 2) (As := [.int q1.1, .int a1]) (q0 := 5) (ci := 1) C G hl.1 (kCo_refuse (l := l) c7) qx_Co_88 qm_Co_refuse_d ⟨by decide, by decide⟩ ⟨Nat.le_refl _, Nat.le_refl _⟩ rfl rfl rfl rfl rfl (Nat.le_of_ble_eq_true rfl) qm_Co_admits_44 (fun H locs G => ?_)
        exact wCo_admits_47 C S7 hf _ _ _ G (lv_sub hl [] rfl)
    · have hf := if_f (not_not_intro b4) hf
      refine lv_iconst (v := 0) C.1 C.2.1 qm_Co_admits_28 (by decide) ?_
      exact q_zret (wf := (cW h K)) C G hf qm_Co_admits_29
  · have hf := if_f b2 hf
    refine lv_iconst (v := 1) C.1 C.2.1 qm_Co_admits_17 (by decide) ?_
    exact q_zret (wf := (cW h K)) C G hf qm_Co_admits_18
theorem kCo_admits {l : Launch} {ad : Nat → Nat} {D : va_G} {h : Nat → Nat} {K : Nat → ClassId} {res : Int32 × qS} {S : qS} {a1 : Int32} {a2 : Int32} {a3 : Int32} (hf : fCo_admits S a1 a2 a3 = some res) : qMi l qm_Co_admits qm_Co_admits_c 5 .boolean 2 53 D qCl (cT K) ad (cW h K) [.ref (h 5), .int a1, .int a2, .int a3] S res := qMi_of (by decide) (Nat.le_of_ble_eq_true rfl) (fun _ _ _ _ _ _ _ _ _ _ C G hl => wCo_admits C S a1 a2 a3 hf _ _ _ G hl)
set_option maxHeartbeats 4000000 in
set_option maxRecDepth 100000 in
theorem wCo_has_14 {l : Launch} {D : va_G} {h : Nat → Nat} {K : Nat → ClassId} {res : Int32 × qS} {p : Program} {e : Env} {s : State} {m : MethodId} {args : Array Value} {below : List Frame} {meth : Method} {c : Code} {A : Nat → Prop} {ad : Nat → Nat} (C : qC p s m args meth c qm_Co_has_c 2 (some .boolean) qR_Co ad) (S : qS) (y0 : Int32) (hf : fCo_has_14 S y0 = some res) : ∀ (H : Heap) (locs : List Loc) (ls : Array Slot), qG D qCl (cT K) A s (cW h K S) H locs → lv_has ls 2 [] → W p l e ({ frames := 0, cells := 0, slots := 0, locals := 0 }) s m args below meth c H locs 0 0 (MQ below (qQi D qCl (cT K) (cW h K) A res) args s 0 0 A) (F0 m 14 ls [.int y0]) := by
  intro H locs ls G hl
  unfold fCo_has_14 at hf
  exact q_zret (wf := (cW h K)) C G hf qm_Co_has_14
set_option maxHeartbeats 4000000 in
set_option maxRecDepth 100000 in
theorem wCo_has {l : Launch} {D : va_G} {h : Nat → Nat} {K : Nat → ClassId} {res : Int32 × qS} {p : Program} {e : Env} {s : State} {m : MethodId} {args : Array Value} {below : List Frame} {meth : Method} {c : Code} {A : Nat → Prop} {ad : Nat → Nat} (C : qC p s m args meth c qm_Co_has_c 2 (some .boolean) qR_Co ad) (S : qS) (a1 : Int32) (hf : fCo_has S a1 = some res) : ∀ (H : Heap) (locs : List Loc) (ls : Array Slot), qG D qCl (cT K) A s (cW h K S) H locs → lv_has ls 2 [(0, .ref (h 5)), (1, .int a1)] → W p l e ({ frames := 0, cells := 0, slots := 0, locals := 0 }) s m args below meth c H locs 0 0 (MQ below (qQi D qCl (cT K) (cW h K) A res) args s 0 0 A) (F0 m 0 ls []) := by
  intro H locs ls G hl
  unfold fCo_has at hf
  refine lv_aload_n C.1 C.2.1 qm_Co_has_0 rfl (lv_at hl 0 rfl) ?_
  refine q_get (wf := (cW h K)) (v := .int (S.1 6)) C G qi_Co 5 rfl rfl 9 (by decide) qz_136 rfl qm_Co_has_1 ?_
  refine lv_iload_n C.1 C.2.1 qm_Co_has_4 rfl (lv_at hl 1 rfl) ?_
  refine lv_iand C.1 C.2.1 qm_Co_has_5 ?_
  refine lv_if_eq (tgt := 13) C.1 C.2.1 qm_Co_has_6 (by decide) (fun b1 => ?_) (fun b1 => ?_)
  · have hf := if_t b1 hf
    refine lv_iconst (v := 0) C.1 C.2.1 qm_Co_has_13 (by decide) ?_
    exact wCo_has_14 C S 0 hf _ _ _ G (lv_sub hl [] rfl)
  · have hf := if_f b1 hf
    refine lv_iconst (v := 1) C.1 C.2.1 qm_Co_has_9 (by decide) ?_
    refine lv_goto (tgt := 14) C.1 C.2.1 qm_Co_has_10 (by decide) ?_
    exact wCo_has_14 C S 1 hf _ _ _ G (lv_sub hl [] rfl)
theorem kCo_has {l : Launch} {ad : Nat → Nat} {D : va_G} {h : Nat → Nat} {K : Nat → ClassId} {res : Int32 × qS} {S : qS} {a1 : Int32} (hf : fCo_has S a1 = some res) : qMi l qm_Co_has qm_Co_has_c 2 .boolean 0 0 D qCl (cT K) ad (cW h K) [.ref (h 5), .int a1] S res := qMi_of (by decide) (Nat.le_of_ble_eq_true rfl) (fun _ _ _ _ _ _ _ _ _ _ C G hl => wCo_has C S a1 hf _ _ _ G hl)
set_option maxHeartbeats 4000000 in
set_option maxRecDepth 100000 in
theorem wCo_takeBack {l : Launch} {D : va_G} {h : Nat → Nat} {K : Nat → ClassId} {res : qS} {p : Program} {e : Env} {s : State} {m : MethodId} {args : Array Value} {below : List Frame} {meth : Method} {c : Code} {A : Nat → Prop} {ad : Nat → Nat} (C : qC p s m args meth c qm_Co_takeBack_c 1 none qR_Co ad) (S : qS) (hf : fCo_takeBack S = some res) : ∀ (H : Heap) (locs : List Loc) (ls : Array Slot), qG D qCl (cT K) A s (cW h K S) H locs → lv_has ls 1 [(0, .ref (h 5))] → W p l e ({ frames := 1, cells := 0, slots := 0, locals := 60 }) s m args below meth c H locs 0 0 (MQ below (qQv D qCl (cT K) (cW h K) A res) args s 0 0 A) (F0 m 0 ls []) := by
  intro H locs ls G hl
  unfold fCo_takeBack at hf
  refine lv_aload_n C.1 C.2.1 qm_Co_takeBack_0 rfl (lv_at hl 0 rfl) ?_
  refine lv_aload_n C.1 C.2.1 qm_Co_takeBack_1 rfl (lv_at hl 0 rfl) ?_
  refine q_get (wf := (cW h K)) (v := .int (S.1 5)) C G qi_Co 5 rfl rfl 8 (by decide) qz_135 rfl qm_Co_takeBack_2 ?_
  refine q_put (wf := (cW h K)) (S' := (pI S 6 (S.1 5))) C G qi_Co qY_Co qy_Co qn_Co 5 rfl rfl 9 (by decide) qz_136 rfl rfl (Nat.le_of_ble_eq_true rfl) rfl qm_Co_takeBack_5 (fun H locs G => ?_)
  refine lv_aload_n C.1 C.2.1 qm_Co_takeBack_8 rfl (lv_at hl 0 rfl) ?_
  refine q_get (wf := (cW h K)) (v := .ref (h 7)) C G qi_Co 5 rfl rfl 4 (by decide) qz_131 rfl qm_Co_takeBack_9 ?_
  refine lv_iconst (v := 0) C.1 C.2.1 qm_Co_takeBack_12 (by decide) ?_
  refine lv_aload_n C.1 C.2.1 qm_Co_takeBack_13 rfl (lv_at hl 0 rfl) ?_
  refine q_get (wf := (cW h K)) (v := .ref (h 6)) C G qi_Co 5 rfl rfl 3 (by decide) qz_130 rfl qm_Co_takeBack_14 ?_
  refine lv_iconst (v := 0) C.1 C.2.1 qm_Co_takeBack_17 (by decide) ?_
  refine lv_bipush (v := 16) C.1 C.2.1 qm_Co_takeBack_18 (by decide) ?_
  refine q_copy (wf := (cW h K)) (S' := (cpA (pI S 6 (S.1 5)) 3 0 2 0 16)) C G hl.1 ⟨qz_469, qz_471, qz_470, qz_77⟩ 7 6 3 2 rfl rfl rfl rfl (by decide) (by decide) (by decide) (by decide) (by decide) rfl (by decide) (Nat.le_of_ble_eq_true rfl) qm_Co_takeBack_20 (fun H locs G => ?_)
  refine lv_aload_n C.1 C.2.1 qm_Co_takeBack_23 rfl (lv_at hl 0 rfl) ?_
  refine q_get (wf := (cW h K)) (v := .ref (h 8)) C G qi_Co 5 rfl rfl 5 (by decide) qz_132 rfl qm_Co_takeBack_24 ?_
  refine lv_iconst (v := 0) C.1 C.2.1 qm_Co_takeBack_27 (by decide) ?_
  refine lv_aload_n C.1 C.2.1 qm_Co_takeBack_28 rfl (lv_at hl 0 rfl) ?_
  refine q_get (wf := (cW h K)) (v := .ref (h 3)) C G qi_Co 5 rfl rfl 2 (by decide) qz_129 rfl qm_Co_takeBack_29 ?_
  refine lv_iconst (v := 0) C.1 C.2.1 qm_Co_takeBack_32 (by decide) ?_
  refine lv_iconst (v := 4) C.1 C.2.1 qm_Co_takeBack_33 (by decide) ?_
  refine q_copy (wf := (cW h K)) (S' := (cpA (cpA (pI S 6 (S.1 5)) 3 0 2 0 16) 4 0 1 0 4)) C G hl.1 ⟨qz_469, qz_471, qz_470, qz_77⟩ 8 3 4 1 rfl rfl rfl rfl (by decide) (by decide) (by decide) (by decide) (by decide) rfl (by decide) (Nat.le_of_ble_eq_true rfl) qm_Co_takeBack_34 (fun H locs G => ?_)
  exact q_vret (wf := (cW h K)) C G hf qm_Co_takeBack_37
theorem kCo_takeBack {l : Launch} {ad : Nat → Nat} {D : va_G} {h : Nat → Nat} {K : Nat → ClassId} {res : qS} {S : qS} (hf : fCo_takeBack S = some res) : qMv l qm_Co_takeBack qm_Co_takeBack_c 1 1 60 D qCl (cT K) ad (cW h K) [.ref (h 5)] S res := qMv_of (by decide) (Nat.le_of_ble_eq_true rfl) (fun _ _ _ _ _ _ _ _ _ _ C G hl => wCo_takeBack C S hf _ _ _ G hl)
