theorem qm_M_thrown_0 : decode qm_M_thrown_c 0 = .ok (.aload_n 0, 1) := by decide +kernel
theorem qm_M_thrown_1 : decode qm_M_thrown_c 1 = .ok (.getfield 40, 3) := by decide +kernel
theorem qm_M_thrown_4 : decode qm_M_thrown_c 4 = .ok (.ireturn, 1) := by decide +kernel
theorem qm_M_fill_0 : decode qm_M_fill_c 0 = .ok (.aload_n 0, 1) := by decide +kernel
theorem qm_M_fill_1 : decode qm_M_fill_c 1 = .ok (.iconst 0, 1) := by decide +kernel
theorem qm_M_fill_2 : decode qm_M_fill_c 2 = .ok (.putfield 40, 3) := by decide +kernel
theorem qm_M_fill_5 : decode qm_M_fill_c 5 = .ok (.iconst 0, 1) := by decide +kernel
theorem qm_M_fill_6 : decode qm_M_fill_c 6 = .ok (.istore 4, 2) := by decide +kernel
theorem qm_M_fill_8 : decode qm_M_fill_c 8 = .ok (.iload 4, 2) := by decide +kernel
theorem qm_M_fill_10 : decode qm_M_fill_c 10 = .ok (.bipush 8, 2) := by decide +kernel
theorem qm_M_fill_12 : decode qm_M_fill_c 12 = .ok (.if_icmp .ge 34, 3) := by decide +kernel
theorem qm_M_fill_15 : decode qm_M_fill_c 15 = .ok (.aload_n 0, 1) := by decide +kernel
theorem qm_M_fill_16 : decode qm_M_fill_c 16 = .ok (.getfield 7, 3) := by decide +kernel
theorem qm_M_fill_19 : decode qm_M_fill_c 19 = .ok (.iload_n 1, 1) := by decide +kernel
theorem qm_M_fill_20 : decode qm_M_fill_c 20 = .ok (.iload 4, 2) := by decide +kernel
theorem qm_M_fill_22 : decode qm_M_fill_c 22 = .ok (.iadd, 1) := by decide +kernel
theorem qm_M_fill_23 : decode qm_M_fill_c 23 = .ok (.sipush 2047, 3) := by decide +kernel
theorem qm_M_fill_26 : decode qm_M_fill_c 26 = .ok (.iand, 1) := by decide +kernel
theorem qm_M_fill_27 : decode qm_M_fill_c 27 = .ok (.lload_n 2, 1) := by decide +kernel
theorem qm_M_fill_28 : decode qm_M_fill_c 28 = .ok (.bipush 8, 2) := by decide +kernel
theorem qm_M_fill_30 : decode qm_M_fill_c 30 = .ok (.iload 4, 2) := by decide +kernel
theorem qm_M_fill_32 : decode qm_M_fill_c 32 = .ok (.imul, 1) := by decide +kernel
theorem qm_M_fill_33 : decode qm_M_fill_c 33 = .ok (.lshr, 1) := by decide +kernel
theorem qm_M_fill_34 : decode qm_M_fill_c 34 = .ok (.ldc2_w 201, 3) := by decide +kernel
theorem qm_M_fill_37 : decode qm_M_fill_c 37 = .ok (.land, 1) := by decide +kernel
theorem qm_M_fill_38 : decode qm_M_fill_c 38 = .ok (.l2i, 1) := by decide +kernel
theorem qm_M_fill_39 : decode qm_M_fill_c 39 = .ok (.iastore, 1) := by decide +kernel
theorem qm_M_fill_40 : decode qm_M_fill_c 40 = .ok (.iinc 4 1, 3) := by decide +kernel
theorem qm_M_fill_43 : decode qm_M_fill_c 43 = .ok (.goto (-35), 3) := by decide +kernel
theorem qm_M_fill_46 : decode qm_M_fill_c 46 = .ok (.return_, 1) := by decide +kernel
theorem qm_M_bare_0 : decode qm_M_bare_c 0 = .ok (.iload_n 1, 1) := by decide +kernel
theorem qm_M_bare_1 : decode qm_M_bare_c 1 = .ok (.sipush 2047, 3) := by decide +kernel
theorem qm_M_bare_4 : decode qm_M_bare_c 4 = .ok (.iand, 1) := by decide +kernel
theorem qm_M_bare_5 : decode qm_M_bare_c 5 = .ok (.istore_n 2, 1) := by decide +kernel
theorem qm_M_bare_6 : decode qm_M_bare_c 6 = .ok (.iconst 0, 1) := by decide +kernel
theorem qm_M_bare_7 : decode qm_M_bare_c 7 = .ok (.istore_n 3, 1) := by decide +kernel
theorem qm_M_bare_8 : decode qm_M_bare_c 8 = .ok (.iconst 3, 1) := by decide +kernel
theorem qm_M_bare_9 : decode qm_M_bare_c 9 = .ok (.istore 4, 2) := by decide +kernel
theorem qm_M_bare_11 : decode qm_M_bare_c 11 = .ok (.iload 4, 2) := by decide +kernel
theorem qm_M_bare_13 : decode qm_M_bare_c 13 = .ok (.ifCond .lt 28, 3) := by decide +kernel
theorem qm_M_bare_16 : decode qm_M_bare_c 16 = .ok (.iload_n 3, 1) := by decide +kernel
theorem qm_M_bare_17 : decode qm_M_bare_c 17 = .ok (.bipush 8, 2) := by decide +kernel
theorem qm_M_bare_19 : decode qm_M_bare_c 19 = .ok (.ishl, 1) := by decide +kernel
theorem qm_M_bare_20 : decode qm_M_bare_c 20 = .ok (.aload_n 0, 1) := by decide +kernel
theorem qm_M_bare_21 : decode qm_M_bare_c 21 = .ok (.getfield 7, 3) := by decide +kernel
theorem qm_M_bare_24 : decode qm_M_bare_c 24 = .ok (.iload_n 2, 1) := by decide +kernel
theorem qm_M_bare_25 : decode qm_M_bare_c 25 = .ok (.iload 4, 2) := by decide +kernel
theorem qm_M_bare_27 : decode qm_M_bare_c 27 = .ok (.iadd, 1) := by decide +kernel
theorem qm_M_bare_28 : decode qm_M_bare_c 28 = .ok (.sipush 2047, 3) := by decide +kernel
theorem qm_M_bare_31 : decode qm_M_bare_c 31 = .ok (.iand, 1) := by decide +kernel
theorem qm_M_bare_32 : decode qm_M_bare_c 32 = .ok (.iaload, 1) := by decide +kernel
theorem qm_M_bare_33 : decode qm_M_bare_c 33 = .ok (.ior, 1) := by decide +kernel
theorem qm_M_bare_34 : decode qm_M_bare_c 34 = .ok (.istore_n 3, 1) := by decide +kernel
theorem qm_M_bare_35 : decode qm_M_bare_c 35 = .ok (.iinc 4 (-1), 3) := by decide +kernel
theorem qm_M_bare_38 : decode qm_M_bare_c 38 = .ok (.goto (-27), 3) := by decide +kernel
theorem qm_M_bare_41 : decode qm_M_bare_c 41 = .ok (.iload_n 3, 1) := by decide +kernel
theorem qm_M_bare_42 : decode qm_M_bare_c 42 = .ok (.ireturn, 1) := by decide +kernel
theorem qm_M_look_0 : decode qm_M_look_c 0 = .ok (.aload_n 0, 1) := by decide +kernel
theorem qm_M_look_1 : decode qm_M_look_c 1 = .ok (.iconst 0, 1) := by decide +kernel
theorem qm_M_look_2 : decode qm_M_look_c 2 = .ok (.putfield 40, 3) := by decide +kernel
theorem qm_M_look_5 : decode qm_M_look_c 5 = .ok (.aload_n 0, 1) := by decide +kernel
theorem qm_M_look_6 : decode qm_M_look_c 6 = .ok (.iload_n 1, 1) := by decide +kernel
theorem qm_M_look_7 : decode qm_M_look_c 7 = .ok (.invokevirtual 56, 3) := by decide +kernel
theorem qm_M_look_10 : decode qm_M_look_c 10 = .ok (.ireturn, 1) := by decide +kernel
theorem qm_M_mode_0 : decode qm_M_mode_c 0 = .ok (.aload_n 0, 1) := by decide +kernel
theorem qm_M_mode_1 : decode qm_M_mode_c 1 = .ok (.getfield 44, 3) := by decide +kernel
theorem qm_M_mode_4 : decode qm_M_mode_c 4 = .ok (.bipush 24, 2) := by decide +kernel
theorem qm_M_mode_6 : decode qm_M_mode_c 6 = .ok (.ishr, 1) := by decide +kernel
theorem qm_M_mode_7 : decode qm_M_mode_c 7 = .ok (.iconst 3, 1) := by decide +kernel
theorem qm_M_mode_8 : decode qm_M_mode_c 8 = .ok (.iand, 1) := by decide +kernel
theorem qm_M_mode_9 : decode qm_M_mode_c 9 = .ok (.ireturn, 1) := by decide +kernel
theorem qm_M_put_0 : decode qm_M_put_c 0 = .ok (.iload_n 1, 1) := by decide +kernel
theorem qm_M_put_1 : decode qm_M_put_c 1 = .ok (.bipush 14, 2) := by decide +kernel
theorem qm_M_put_3 : decode qm_M_put_c 3 = .ok (.if_icmp .ne 16, 3) := by decide +kernel
theorem qm_M_put_6 : decode qm_M_put_c 6 = .ok (.aload_n 0, 1) := by decide +kernel
theorem qm_M_put_7 : decode qm_M_put_c 7 = .ok (.getfield 16, 3) := by decide +kernel
theorem qm_M_put_10 : decode qm_M_put_c 10 = .ok (.aload_n 0, 1) := by decide +kernel
theorem qm_M_put_11 : decode qm_M_put_c 11 = .ok (.invokevirtual 69, 3) := by decide +kernel
theorem qm_M_put_14 : decode qm_M_put_c 14 = .ok (.iload_n 2, 1) := by decide +kernel
theorem qm_M_put_15 : decode qm_M_put_c 15 = .ok (.iastore, 1) := by decide +kernel
theorem qm_M_put_16 : decode qm_M_put_c 16 = .ok (.goto 10, 3) := by decide +kernel
theorem qm_M_put_19 : decode qm_M_put_c 19 = .ok (.aload_n 0, 1) := by decide +kernel
theorem qm_M_put_20 : decode qm_M_put_c 20 = .ok (.getfield 13, 3) := by decide +kernel
theorem qm_M_put_23 : decode qm_M_put_c 23 = .ok (.iload_n 1, 1) := by decide +kernel
theorem qm_M_put_24 : decode qm_M_put_c 24 = .ok (.iload_n 2, 1) := by decide +kernel
theorem qm_M_put_25 : decode qm_M_put_c 25 = .ok (.iastore, 1) := by decide +kernel
theorem qm_M_put_26 : decode qm_M_put_c 26 = .ok (.return_, 1) := by decide +kernel
theorem qm_M_set_0 : decode qm_M_set_c 0 = .ok (.aload_n 0, 1) := by decide +kernel
theorem qm_M_set_1 : decode qm_M_set_c 1 = .ok (.iload_n 1, 1) := by decide +kernel
theorem qm_M_set_2 : decode qm_M_set_c 2 = .ok (.ifCond .lt 9, 3) := by decide +kernel
theorem qm_M_set_5 : decode qm_M_set_c 5 = .ok (.iload_n 1, 1) := by decide +kernel
theorem qm_M_set_6 : decode qm_M_set_c 6 = .ok (.bipush 15, 2) := by decide +kernel
theorem qm_M_set_8 : decode qm_M_set_c 8 = .ok (.if_icmp .le 7, 3) := by decide +kernel
theorem qm_M_set_11 : decode qm_M_set_c 11 = .ok (.iconst 1, 1) := by decide +kernel
theorem qm_M_set_12 : decode qm_M_set_c 12 = .ok (.goto 4, 3) := by decide +kernel
theorem qm_M_set_15 : decode qm_M_set_c 15 = .ok (.iconst 0, 1) := by decide +kernel
theorem qm_M_set_16 : decode qm_M_set_c 16 = .ok (.putfield 40, 3) := by decide +kernel
theorem qm_M_set_19 : decode qm_M_set_c 19 = .ok (.aload_n 0, 1) := by decide +kernel
theorem qm_M_set_20 : decode qm_M_set_c 20 = .ok (.getfield 40, 3) := by decide +kernel
theorem qm_M_set_23 : decode qm_M_set_c 23 = .ok (.ifCond .ne 9, 3) := by decide +kernel
theorem qm_M_set_26 : decode qm_M_set_c 26 = .ok (.aload_n 0, 1) := by decide +kernel
theorem qm_M_set_27 : decode qm_M_set_c 27 = .ok (.iload_n 1, 1) := by decide +kernel
theorem qm_M_set_28 : decode qm_M_set_c 28 = .ok (.iload_n 2, 1) := by decide +kernel
theorem qm_M_set_29 : decode qm_M_set_c 29 = .ok (.invokevirtual 90, 3) := by decide +kernel
theorem qm_M_set_32 : decode qm_M_set_c 32 = .ok (.return_, 1) := by decide +kernel
theorem qm_M_fail_0 : decode qm_M_fail_c 0 = .ok (.aload_n 0, 1) := by decide +kernel
theorem qm_M_fail_1 : decode qm_M_fail_c 1 = .ok (.iload_n 1, 1) := by decide +kernel
theorem qm_M_fail_2 : decode qm_M_fail_c 2 = .ok (.putfield 40, 3) := by decide +kernel
theorem qm_M_fail_5 : decode qm_M_fail_c 5 = .ok (.iconst 0, 1) := by decide +kernel
theorem qm_M_fail_6 : decode qm_M_fail_c 6 = .ok (.ireturn, 1) := by decide +kernel
theorem qm_M_get_0 : decode qm_M_get_c 0 = .ok (.iload_n 1, 1) := by decide +kernel
theorem qm_M_get_1 : decode qm_M_get_c 1 = .ok (.bipush 14, 2) := by decide +kernel
theorem qm_M_get_3 : decode qm_M_get_c 3 = .ok (.if_icmp .ne 15, 3) := by decide +kernel
theorem qm_M_get_6 : decode qm_M_get_c 6 = .ok (.aload_n 0, 1) := by decide +kernel
theorem qm_M_get_7 : decode qm_M_get_c 7 = .ok (.getfield 16, 3) := by decide +kernel
theorem qm_M_get_10 : decode qm_M_get_c 10 = .ok (.aload_n 0, 1) := by decide +kernel
theorem qm_M_get_11 : decode qm_M_get_c 11 = .ok (.invokevirtual 69, 3) := by decide +kernel
theorem qm_M_get_14 : decode qm_M_get_c 14 = .ok (.iaload, 1) := by decide +kernel
theorem qm_M_get_15 : decode qm_M_get_c 15 = .ok (.goto 9, 3) := by decide +kernel
theorem qm_M_get_18 : decode qm_M_get_c 18 = .ok (.aload_n 0, 1) := by decide +kernel
theorem qm_M_get_19 : decode qm_M_get_c 19 = .ok (.getfield 13, 3) := by decide +kernel
theorem qm_M_get_22 : decode qm_M_get_c 22 = .ok (.iload_n 1, 1) := by decide +kernel
theorem qm_M_get_23 : decode qm_M_get_c 23 = .ok (.iaload, 1) := by decide +kernel
theorem qm_M_get_24 : decode qm_M_get_c 24 = .ok (.ireturn, 1) := by decide +kernel
theorem qm_M_register_0 : decode qm_M_register_c 0 = .ok (.iload_n 1, 1) := by decide +kernel
theorem qm_M_register_1 : decode qm_M_register_c 1 = .ok (.ifCond .lt 9, 3) := by decide +kernel
theorem qm_M_register_4 : decode qm_M_register_c 4 = .ok (.iload_n 1, 1) := by decide +kernel
theorem qm_M_register_5 : decode qm_M_register_c 5 = .ok (.bipush 15, 2) := by decide +kernel
theorem qm_M_register_7 : decode qm_M_register_c 7 = .ok (.if_icmp .le 9, 3) := by decide +kernel
theorem qm_M_register_10 : decode qm_M_register_c 10 = .ok (.aload_n 0, 1) := by decide +kernel
theorem qm_M_register_11 : decode qm_M_register_c 11 = .ok (.iconst 1, 1) := by decide +kernel
theorem qm_M_register_12 : decode qm_M_register_c 12 = .ok (.invokevirtual 203, 3) := by decide +kernel
theorem qm_M_register_15 : decode qm_M_register_c 15 = .ok (.ireturn, 1) := by decide +kernel
theorem qm_M_register_16 : decode qm_M_register_c 16 = .ok (.aload_n 0, 1) := by decide +kernel
theorem qm_M_register_17 : decode qm_M_register_c 17 = .ok (.iconst 0, 1) := by decide +kernel
theorem qm_M_register_18 : decode qm_M_register_c 18 = .ok (.putfield 40, 3) := by decide +kernel
theorem qm_M_register_21 : decode qm_M_register_c 21 = .ok (.aload_n 0, 1) := by decide +kernel
theorem qm_M_register_22 : decode qm_M_register_c 22 = .ok (.iload_n 1, 1) := by decide +kernel
theorem qm_M_register_23 : decode qm_M_register_c 23 = .ok (.invokevirtual 84, 3) := by decide +kernel
theorem qm_M_register_26 : decode qm_M_register_c 26 = .ok (.ireturn, 1) := by decide +kernel
theorem qm_M_isInner_0 : decode qm_M_isInner_c 0 = .ok (.iload_n 0, 1) := by decide +kernel
theorem qm_M_isInner_1 : decode qm_M_isInner_c 1 = .ok (.ifCond .lt 8, 3) := by decide +kernel
theorem qm_M_isInner_4 : decode qm_M_isInner_c 4 = .ok (.iload_n 0, 1) := by decide +kernel
theorem qm_M_isInner_5 : decode qm_M_isInner_c 5 = .ok (.iconst 4, 1) := by decide +kernel
theorem qm_M_isInner_6 : decode qm_M_isInner_c 6 = .ok (.if_icmp .lt 27, 3) := by decide +kernel
theorem qm_M_isInner_9 : decode qm_M_isInner_c 9 = .ok (.iload_n 0, 1) := by decide +kernel
theorem qm_M_isInner_10 : decode qm_M_isInner_c 10 = .ok (.bipush 7, 2) := by decide +kernel
theorem qm_M_isInner_12 : decode qm_M_isInner_c 12 = .ok (.if_icmp .le 9, 3) := by decide +kernel
theorem qm_M_isInner_15 : decode qm_M_isInner_c 15 = .ok (.iload_n 0, 1) := by decide +kernel
theorem qm_M_isInner_16 : decode qm_M_isInner_c 16 = .ok (.bipush 14, 2) := by decide +kernel
theorem qm_M_isInner_18 : decode qm_M_isInner_c 18 = .ok (.if_icmp .lt 15, 3) := by decide +kernel
theorem qm_M_isInner_21 : decode qm_M_isInner_c 21 = .ok (.iload_n 0, 1) := by decide +kernel
theorem qm_M_isInner_22 : decode qm_M_isInner_c 22 = .ok (.bipush 17, 2) := by decide +kernel
theorem qm_M_isInner_24 : decode qm_M_isInner_c 24 = .ok (.if_icmp .eq 9, 3) := by decide +kernel
theorem qm_M_isInner_27 : decode qm_M_isInner_c 27 = .ok (.iload_n 0, 1) := by decide +kernel
theorem qm_M_isInner_28 : decode qm_M_isInner_c 28 = .ok (.bipush 56, 2) := by decide +kernel
theorem qm_M_isInner_30 : decode qm_M_isInner_c 30 = .ok (.if_icmp .ne 7, 3) := by decide +kernel
theorem qm_M_isInner_33 : decode qm_M_isInner_c 33 = .ok (.iconst 1, 1) := by decide +kernel
theorem qm_M_isInner_34 : decode qm_M_isInner_c 34 = .ok (.goto 4, 3) := by decide +kernel
theorem qm_M_isInner_37 : decode qm_M_isInner_c 37 = .ok (.iconst 0, 1) := by decide +kernel
theorem qm_M_isInner_38 : decode qm_M_isInner_c 38 = .ok (.ireturn, 1) := by decide +kernel
theorem qm_M_setInner_0 : decode qm_M_setInner_c 0 = .ok (.aload_n 0, 1) := by decide +kernel
theorem qm_M_setInner_1 : decode qm_M_setInner_c 1 = .ok (.iload_n 1, 1) := by decide +kernel
theorem qm_M_setInner_2 : decode qm_M_setInner_c 2 = .ok (.invokestatic 133, 3) := by decide +kernel
theorem qm_M_setInner_5 : decode qm_M_setInner_c 5 = .ok (.ifCond .eq 7, 3) := by decide +kernel
theorem qm_M_setInner_8 : decode qm_M_setInner_c 8 = .ok (.iconst 0, 1) := by decide +kernel
theorem qm_M_setInner_9 : decode qm_M_setInner_c 9 = .ok (.goto 4, 3) := by decide +kernel
theorem qm_M_setInner_12 : decode qm_M_setInner_c 12 = .ok (.iconst 1, 1) := by decide +kernel
theorem qm_M_setInner_13 : decode qm_M_setInner_c 13 = .ok (.putfield 40, 3) := by decide +kernel
theorem qm_M_setInner_16 : decode qm_M_setInner_c 16 = .ok (.aload_n 0, 1) := by decide +kernel
theorem qm_M_setInner_17 : decode qm_M_setInner_c 17 = .ok (.getfield 40, 3) := by decide +kernel
theorem qm_M_setInner_20 : decode qm_M_setInner_c 20 = .ok (.ifCond .ne 24, 3) := by decide +kernel
theorem qm_M_setInner_23 : decode qm_M_setInner_c 23 = .ok (.aload_n 0, 1) := by decide +kernel
theorem qm_M_setInner_24 : decode qm_M_setInner_c 24 = .ok (.getfield 16, 3) := by decide +kernel
theorem qm_M_setInner_27 : decode qm_M_setInner_c 27 = .ok (.iload_n 1, 1) := by decide +kernel
theorem qm_M_setInner_28 : decode qm_M_setInner_c 28 = .ok (.iload_n 1, 1) := by decide +kernel
theorem qm_M_setInner_29 : decode qm_M_setInner_c 29 = .ok (.bipush 56, 2) := by decide +kernel
theorem qm_M_setInner_31 : decode qm_M_setInner_c 31 = .ok (.if_icmp .ne 11, 3) := by decide +kernel
theorem qm_M_setInner_34 : decode qm_M_setInner_c 34 = .ok (.iload_n 2, 1) := by decide +kernel
theorem qm_M_setInner_35 : decode qm_M_setInner_c 35 = .ok (.ifCond .eq 7, 3) := by decide +kernel
theorem qm_M_setInner_38 : decode qm_M_setInner_c 38 = .ok (.iconst 1, 1) := by decide +kernel
theorem qm_M_setInner_39 : decode qm_M_setInner_c 39 = .ok (.goto 4, 3) := by decide +kernel
theorem qm_M_setInner_42 : decode qm_M_setInner_c 42 = .ok (.iload_n 2, 1) := by decide +kernel
theorem qm_M_setInner_43 : decode qm_M_setInner_c 43 = .ok (.iastore, 1) := by decide +kernel
theorem qm_M_setInner_44 : decode qm_M_setInner_c 44 = .ok (.return_, 1) := by decide +kernel
theorem qm_M_inner_0 : decode qm_M_inner_c 0 = .ok (.iload_n 1, 1) := by decide +kernel
theorem qm_M_inner_1 : decode qm_M_inner_c 1 = .ok (.invokestatic 133, 3) := by decide +kernel
theorem qm_M_inner_4 : decode qm_M_inner_c 4 = .ok (.ifCond .ne 9, 3) := by decide +kernel
theorem qm_M_inner_7 : decode qm_M_inner_c 7 = .ok (.aload_n 0, 1) := by decide +kernel
theorem qm_M_inner_8 : decode qm_M_inner_c 8 = .ok (.iconst 1, 1) := by decide +kernel
theorem qm_M_inner_9 : decode qm_M_inner_c 9 = .ok (.invokevirtual 203, 3) := by decide +kernel
theorem qm_M_inner_12 : decode qm_M_inner_c 12 = .ok (.ireturn, 1) := by decide +kernel
theorem qm_M_inner_13 : decode qm_M_inner_c 13 = .ok (.aload_n 0, 1) := by decide +kernel
theorem qm_M_inner_14 : decode qm_M_inner_c 14 = .ok (.iconst 0, 1) := by decide +kernel
theorem qm_M_inner_15 : decode qm_M_inner_c 15 = .ok (.putfield 40, 3) := by decide +kernel
theorem qm_M_inner_18 : decode qm_M_inner_c 18 = .ok (.aload_n 0, 1) := by decide +kernel
theorem qm_M_inner_19 : decode qm_M_inner_c 19 = .ok (.getfield 16, 3) := by decide +kernel
theorem qm_M_inner_22 : decode qm_M_inner_c 22 = .ok (.iload_n 1, 1) := by decide +kernel
theorem qm_M_inner_23 : decode qm_M_inner_c 23 = .ok (.iaload, 1) := by decide +kernel
theorem qm_M_inner_24 : decode qm_M_inner_c 24 = .ok (.ireturn, 1) := by decide +kernel
theorem qm_M_begin_0 : decode qm_M_begin_c 0 = .ok (.aload_n 0, 1) := by decide +kernel
theorem qm_M_begin_1 : decode qm_M_begin_c 1 = .ok (.iload_n 1, 1) := by decide +kernel
theorem qm_M_begin_2 : decode qm_M_begin_c 2 = .ok (.ldc 132, 2) := by decide +kernel
theorem qm_M_begin_4 : decode qm_M_begin_c 4 = .ok (.iand, 1) := by decide +kernel
theorem qm_M_begin_5 : decode qm_M_begin_c 5 = .ok (.ifCond .eq 7, 3) := by decide +kernel
theorem qm_M_begin_8 : decode qm_M_begin_c 8 = .ok (.iconst 1, 1) := by decide +kernel
theorem qm_M_begin_9 : decode qm_M_begin_c 9 = .ok (.goto 4, 3) := by decide +kernel
theorem qm_M_begin_12 : decode qm_M_begin_c 12 = .ok (.iconst 0, 1) := by decide +kernel
theorem qm_M_begin_13 : decode qm_M_begin_c 13 = .ok (.putfield 40, 3) := by decide +kernel
theorem qm_M_begin_16 : decode qm_M_begin_c 16 = .ok (.aload_n 0, 1) := by decide +kernel
theorem qm_M_begin_17 : decode qm_M_begin_c 17 = .ok (.getfield 40, 3) := by decide +kernel
theorem qm_M_begin_20 : decode qm_M_begin_c 20 = .ok (.ifCond .ne 8, 3) := by decide +kernel
theorem qm_M_begin_23 : decode qm_M_begin_c 23 = .ok (.aload_n 0, 1) := by decide +kernel
theorem qm_M_begin_24 : decode qm_M_begin_c 24 = .ok (.iload_n 1, 1) := by decide +kernel
theorem qm_M_begin_25 : decode qm_M_begin_c 25 = .ok (.putfield 44, 3) := by decide +kernel
theorem qm_M_begin_28 : decode qm_M_begin_c 28 = .ok (.aload_n 0, 1) := by decide +kernel
theorem qm_M_begin_29 : decode qm_M_begin_c 29 = .ok (.getfield 40, 3) := by decide +kernel
theorem qm_M_begin_32 : decode qm_M_begin_c 32 = .ok (.ifCond .ne 8, 3) := by decide +kernel
theorem qm_M_begin_35 : decode qm_M_begin_c 35 = .ok (.aload_n 0, 1) := by decide +kernel
theorem qm_M_begin_36 : decode qm_M_begin_c 36 = .ok (.iconst 0, 1) := by decide +kernel
theorem qm_M_begin_37 : decode qm_M_begin_c 37 = .ok (.putfield 174, 3) := by decide +kernel
theorem qm_M_begin_40 : decode qm_M_begin_c 40 = .ok (.return_, 1) := by decide +kernel
theorem qm_M_status_0 : decode qm_M_status_c 0 = .ok (.aload_n 0, 1) := by decide +kernel
theorem qm_M_status_1 : decode qm_M_status_c 1 = .ok (.iconst 0, 1) := by decide +kernel
theorem qm_M_status_2 : decode qm_M_status_c 2 = .ok (.putfield 40, 3) := by decide +kernel
theorem qm_M_status_5 : decode qm_M_status_c 5 = .ok (.aload_n 0, 1) := by decide +kernel
theorem qm_M_status_6 : decode qm_M_status_c 6 = .ok (.getfield 44, 3) := by decide +kernel
theorem qm_M_status_9 : decode qm_M_status_c 9 = .ok (.ireturn, 1) := by decide +kernel
theorem qm_M_keep_0 : decode qm_M_keep_c 0 = .ok (.iconst 0, 1) := by decide +kernel
theorem qm_M_keep_1 : decode qm_M_keep_c 1 = .ok (.istore_n 1, 1) := by decide +kernel
theorem qm_M_keep_2 : decode qm_M_keep_c 2 = .ok (.iload_n 1, 1) := by decide +kernel
theorem qm_M_keep_3 : decode qm_M_keep_c 3 = .ok (.bipush 16, 2) := by decide +kernel
theorem qm_M_keep_5 : decode qm_M_keep_c 5 = .ok (.if_icmp .ge 21, 3) := by decide +kernel
theorem qm_M_keep_8 : decode qm_M_keep_c 8 = .ok (.aload_n 0, 1) := by decide +kernel
theorem qm_M_keep_9 : decode qm_M_keep_c 9 = .ok (.getfield 19, 3) := by decide +kernel
theorem qm_M_keep_12 : decode qm_M_keep_c 12 = .ok (.iload_n 1, 1) := by decide +kernel
theorem qm_M_keep_13 : decode qm_M_keep_c 13 = .ok (.aload_n 0, 1) := by decide +kernel
theorem qm_M_keep_14 : decode qm_M_keep_c 14 = .ok (.getfield 13, 3) := by decide +kernel
theorem qm_M_keep_17 : decode qm_M_keep_c 17 = .ok (.iload_n 1, 1) := by decide +kernel
theorem qm_M_keep_18 : decode qm_M_keep_c 18 = .ok (.iaload, 1) := by decide +kernel
theorem qm_M_keep_19 : decode qm_M_keep_c 19 = .ok (.iastore, 1) := by decide +kernel
theorem qm_M_keep_20 : decode qm_M_keep_c 20 = .ok (.iinc 1 1, 3) := by decide +kernel
theorem qm_M_keep_23 : decode qm_M_keep_c 23 = .ok (.goto (-21), 3) := by decide +kernel
theorem qm_M_keep_26 : decode qm_M_keep_c 26 = .ok (.iconst 0, 1) := by decide +kernel
theorem qm_M_keep_27 : decode qm_M_keep_c 27 = .ok (.istore_n 1, 1) := by decide +kernel
theorem qm_M_keep_28 : decode qm_M_keep_c 28 = .ok (.iload_n 1, 1) := by decide +kernel
theorem qm_M_keep_29 : decode qm_M_keep_c 29 = .ok (.iconst 4, 1) := by decide +kernel
theorem qm_M_keep_30 : decode qm_M_keep_c 30 = .ok (.if_icmp .ge 21, 3) := by decide +kernel
theorem qm_M_keep_33 : decode qm_M_keep_c 33 = .ok (.aload_n 0, 1) := by decide +kernel
theorem qm_M_keep_34 : decode qm_M_keep_c 34 = .ok (.getfield 22, 3) := by decide +kernel
theorem qm_M_keep_37 : decode qm_M_keep_c 37 = .ok (.iload_n 1, 1) := by decide +kernel
theorem qm_M_keep_38 : decode qm_M_keep_c 38 = .ok (.aload_n 0, 1) := by decide +kernel
theorem qm_M_keep_39 : decode qm_M_keep_c 39 = .ok (.getfield 16, 3) := by decide +kernel
theorem qm_M_keep_42 : decode qm_M_keep_c 42 = .ok (.iload_n 1, 1) := by decide +kernel
theorem qm_M_keep_43 : decode qm_M_keep_c 43 = .ok (.iaload, 1) := by decide +kernel
theorem qm_M_keep_44 : decode qm_M_keep_c 44 = .ok (.iastore, 1) := by decide +kernel
theorem qm_M_keep_45 : decode qm_M_keep_c 45 = .ok (.iinc 1 1, 3) := by decide +kernel
theorem qm_M_keep_48 : decode qm_M_keep_c 48 = .ok (.goto (-20), 3) := by decide +kernel
theorem qm_M_keep_51 : decode qm_M_keep_c 51 = .ok (.aload_n 0, 1) := by decide +kernel
theorem qm_M_keep_52 : decode qm_M_keep_c 52 = .ok (.aload_n 0, 1) := by decide +kernel
theorem qm_M_keep_53 : decode qm_M_keep_c 53 = .ok (.getfield 44, 3) := by decide +kernel
theorem qm_M_keep_56 : decode qm_M_keep_c 56 = .ok (.putfield 97, 3) := by decide +kernel
theorem qm_M_keep_59 : decode qm_M_keep_c 59 = .ok (.return_, 1) := by decide +kernel
theorem qm_M_below_0 : decode qm_M_below_c 0 = .ok (.iload_n 0, 1) := by decide +kernel
theorem qm_M_below_1 : decode qm_M_below_c 1 = .ok (.ldc 47, 2) := by decide +kernel
theorem qm_M_below_3 : decode qm_M_below_c 3 = .ok (.ixor, 1) := by decide +kernel
theorem qm_M_below_4 : decode qm_M_below_c 4 = .ok (.iload_n 1, 1) := by decide +kernel
theorem qm_M_below_5 : decode qm_M_below_c 5 = .ok (.ldc 47, 2) := by decide +kernel
theorem qm_M_below_7 : decode qm_M_below_c 7 = .ok (.ixor, 1) := by decide +kernel
theorem qm_M_below_8 : decode qm_M_below_c 8 = .ok (.if_icmp .ge 7, 3) := by decide +kernel
theorem qm_M_below_11 : decode qm_M_below_c 11 = .ok (.iconst 1, 1) := by decide +kernel
theorem qm_M_below_12 : decode qm_M_below_c 12 = .ok (.goto 4, 3) := by decide +kernel
theorem qm_M_below_15 : decode qm_M_below_c 15 = .ok (.iconst 0, 1) := by decide +kernel
theorem qm_M_below_16 : decode qm_M_below_c 16 = .ok (.ireturn, 1) := by decide +kernel
set_option maxHeartbeats 4000000 in
set_option maxRecDepth 100000 in
theorem wM_thrown {l : Launch} {D : va_G} {h : Nat → Nat} {K : Nat → ClassId} {res : Int32 × qS} {p : Program} {e : Env} {s : State} {m : MethodId} {args : Array Value} {below : List Frame} {meth : Method} {c : Code} {A : Nat → Prop} {ad : Nat → Nat} (C : qC p s m args meth c qm_M_thrown_c 1 (some .int) qR_M ad) (S : qS) (hf : fM_thrown S = some res) : ∀ (H : Heap) (locs : List Loc) (ls : Array Slot), qG D qCl (mT K) A s (mW h K S) H locs → lv_has ls 1 [(0, .ref (h 0))] → W p l e ({ frames := 0, cells := 0, slots := 0, locals := 0 }) s m args below meth c H locs 0 0 (MQ below (qQi D qCl (mT K) (mW h K) A res) args s 0 0 A) (F0 m 0 ls []) := by
  intro H locs ls G hl
  unfold fM_thrown at hf
  refine lv_aload_n C.1 C.2.1 qm_M_thrown_0 rfl (lv_at hl 0 rfl) ?_
  refine q_get (wf := (mW h K)) (v := .int (S.1 0)) C G qi_M 0 rfl rfl 0 (by decide) qz_831 rfl qm_M_thrown_1 ?_
  exact q_iret (wf := (mW h K)) C G hf qm_M_thrown_4
theorem kM_thrown {l : Launch} {ad : Nat → Nat} {D : va_G} {h : Nat → Nat} {K : Nat → ClassId} {res : Int32 × qS} {S : qS} (hf : fM_thrown S = some res) : qMi l qm_M_thrown qm_M_thrown_c 1 .int 0 0 D qCl (mT K) ad (mW h K) [.ref (h 0)] S res := qMi_of (by decide) (Nat.le_of_ble_eq_true rfl) (fun _ _ _ _ _ _ _ _ _ _ C G hl => wM_thrown C S hf _ _ _ G hl)
set_option maxHeartbeats 4000000 in
set_option maxRecDepth 100000 in
theorem wM_fill_8 {l : Launch} {D : va_G} {h : Nat → Nat} {K : Nat → ClassId} {res : qS} {p : Program} {e : Env} {s : State} {m : MethodId} {args : Array Value} {below : List Frame} {meth : Method} {c : Code} {A : Nat → Prop} {ad : Nat → Nat} (C : qC p s m args meth c qm_M_fill_c 5 none qR_M ad) : ∀ (n : Nat) (S : qS) (x1 : Int32) (x2 : Int64) (x4 : Int32), fM_fill_8 n S x1 x2 x4 = some res → ∀ (H : Heap) (locs : List Loc) (ls : Array Slot), qG D qCl (mT K) A s (mW h K S) H locs → lv_has ls 5 [(0, .ref (h 0)), (1, .int x1), (2, .long x2), (4, .int x4)] → W p l e ({ frames := 0, cells := 0, slots := 0, locals := 0 }) s m args below meth c H locs 0 0 (MQ below (qQv D qCl (mT K) (mW h K) A res) args s 0 0 A) (F0 m 8 ls []) := by
  intro n
  induction n with
  | zero => intro S x1 x2 x4 hf; cases hf
  | succ n ih =>
    intro S x1 x2 x4 hf H locs ls G hl
    rw [fM_fill_8] at hf
    refine lv_iload C.1 C.2.1 qm_M_fill_8 (lv_at hl 3 rfl) ?_
    refine lv_bipush (v := 8) C.1 C.2.1 qm_M_fill_10 (by decide) ?_
    refine lv_icmp_ge (tgt := 46) C.1 C.2.1 qm_M_fill_12 (by decide) (fun b1 => ?_) (fun b1 => ?_)
    · have hf := if_t b1 hf
      exact q_vret (wf := (mW h K)) C G hf qm_M_fill_46
    · have hf := if_f b1 hf
      refine lv_aload_n C.1 C.2.1 qm_M_fill_15 rfl (lv_at hl 0 rfl) ?_
      refine q_get (wf := (mW h K)) (v := .ref (h 1)) C G qi_M 0 rfl rfl 1 (by decide) qz_832 rfl qm_M_fill_16 ?_
      refine lv_iload_n C.1 C.2.1 qm_M_fill_19 rfl (lv_at hl 1 rfl) ?_
      refine lv_iload C.1 C.2.1 qm_M_fill_20 (lv_at hl 3 rfl) ?_
      refine lv_iadd C.1 C.2.1 qm_M_fill_22 ?_
      refine lv_sipush (v := 2047) C.1 C.2.1 qm_M_fill_23 (by decide) ?_
      refine lv_iand C.1 C.2.1 qm_M_fill_26 ?_
      refine lv_lload_n C.1 C.2.1 qm_M_fill_27 rfl (lv_at hl 2 rfl) ?_
      refine lv_bipush (v := 8) C.1 C.2.1 qm_M_fill_28 (by decide) ?_
      refine lv_iload C.1 C.2.1 qm_M_fill_30 (lv_at hl 3 rfl) ?_
      refine lv_imul C.1 C.2.1 qm_M_fill_32 ?_
      refine lv_lshr (v := x2 >>> ((8 * x4).toInt64 &&& 63)) C.1 C.2.1 qm_M_fill_33 rfl ?_
      refine lv_ldc2 (own := "QuadModeModel") (v := 255) C.1 C.2.1 C.2.2.2.1 (C.2.2.2.2.1 _ qz_906) qm_M_fill_34 ?_
      refine lv_land C.1 C.2.1 qm_M_fill_37 ?_
      refine lv_l2i (v := ((x2 >>> ((8 * x4).toInt64 &&& 63)) &&& 255).toInt32) C.1 C.2.1 qm_M_fill_38 rfl ?_
      obtain ⟨b2, hf⟩ := chk_s hf
      refine q_iast (wf := (mW h K)) (S' := (pA S 0 ((x1 + x4) &&& 2047) (((x2 >>> ((8 * x4).toInt64 &&& 63)) &&& 255).toInt32))) C G 1 0 rfl rfl b2 rfl qm_M_fill_39 (fun H locs G => ?_)
      refine lv_iinc (v := x4 + 1) (lv' := [(4, .int (x4 + 1)), (0, .ref (h 0)), (1, .int x1), (2, .long x2)]) C.1 C.2.1 qm_M_fill_40 hl (k := 3) rfl rfl (by decide) rfl (fun ls hl => ?_)
      refine lv_goto (tgt := 8) C.1 C.2.1 qm_M_fill_43 (by decide) ?_
      exact ih (pA S 0 ((x1 + x4) &&& 2047) (((x2 >>> ((8 * x4).toInt64 &&& 63)) &&& 255).toInt32)) x1 x2 (x4 + 1) hf _ _ _ G (lv_sub hl [1, 2, 3, 0] rfl)
set_option maxHeartbeats 4000000 in
set_option maxRecDepth 100000 in
theorem wM_fill {l : Launch} {D : va_G} {h : Nat → Nat} {K : Nat → ClassId} {res : qS} {p : Program} {e : Env} {s : State} {m : MethodId} {args : Array Value} {below : List Frame} {meth : Method} {c : Code} {A : Nat → Prop} {ad : Nat → Nat} (C : qC p s m args meth c qm_M_fill_c 5 none qR_M ad) (S : qS) (a1 : Int32) (a2 : Int64) (hf : fM_fill S a1 a2 = some res) : ∀ (H : Heap) (locs : List Loc) (ls : Array Slot), qG D qCl (mT K) A s (mW h K S) H locs → lv_has ls 5 [(0, .ref (h 0)), (1, .int a1), (2, .long a2)] → W p l e ({ frames := 0, cells := 0, slots := 0, locals := 0 }) s m args below meth c H locs 0 0 (MQ below (qQv D qCl (mT K) (mW h K) A res) args s 0 0 A) (F0 m 0 ls []) := by
  intro H locs ls G hl
  unfold fM_fill at hf
  refine lv_aload_n C.1 C.2.1 qm_M_fill_0 rfl (lv_at hl 0 rfl) ?_
  refine lv_iconst (v := 0) C.1 C.2.1 qm_M_fill_1 (by decide) ?_
  refine q_put (wf := (mW h K)) (S' := (pI S 0 0)) C G qi_M qY_M qy_M qn_M 0 rfl rfl 0 (by decide) qz_831 rfl rfl (Nat.le_of_ble_eq_true rfl) rfl qm_M_fill_2 (fun H locs G => ?_)
  refine lv_iconst (v := 0) C.1 C.2.1 qm_M_fill_5 (by decide) ?_
  refine lv_istore (lv' := [(4, .int 0), (0, .ref (h 0)), (1, .int a1), (2, .long a2)]) C.1 C.2.1 qm_M_fill_6 hl (by decide) rfl (fun ls hl => ?_)
  exact wM_fill_8 C 300 (pI S 0 0) a1 a2 0 hf _ _ _ G (lv_sub hl [1, 2, 3, 0] rfl)
theorem kM_fill {l : Launch} {ad : Nat → Nat} {D : va_G} {h : Nat → Nat} {K : Nat → ClassId} {res : qS} {S : qS} {a1 : Int32} {a2 : Int64} (hf : fM_fill S a1 a2 = some res) : qMv l qm_M_fill qm_M_fill_c 5 0 0 D qCl (mT K) ad (mW h K) [.ref (h 0), .int a1, .long a2] S res := qMv_of (by decide) (Nat.le_of_ble_eq_true rfl) (fun _ _ _ _ _ _ _ _ _ _ C G hl => wM_fill C S a1 a2 hf _ _ _ G hl)
set_option maxHeartbeats 4000000 in
set_option maxRecDepth 100000 in
theorem wM_bare_11 {l : Launch} {D : va_G} {h : Nat → Nat} {K : Nat → ClassId} {res : Int32 × qS} {p : Program} {e : Env} {s : State} {m : MethodId} {args : Array Value} {below : List Frame} {meth : Method} {c : Code} {A : Nat → Prop} {ad : Nat → Nat} (C : qC p s m args meth c qm_M_bare_c 5 (some .int) qR_M ad) : ∀ (n : Nat) (S : qS) (x2 : Int32) (x3 : Int32) (x4 : Int32), fM_bare_11 n S x2 x3 x4 = some res → ∀ (H : Heap) (locs : List Loc) (ls : Array Slot), qG D qCl (mT K) A s (mW h K S) H locs → lv_has ls 5 [(0, .ref (h 0)), (2, .int x2), (3, .int x3), (4, .int x4)] → W p l e ({ frames := 0, cells := 0, slots := 0, locals := 0 }) s m args below meth c H locs 0 0 (MQ below (qQi D qCl (mT K) (mW h K) A res) args s 0 0 A) (F0 m 11 ls []) := by
  intro n
  induction n with
  | zero => intro S x2 x3 x4 hf; cases hf
  | succ n ih =>
    intro S x2 x3 x4 hf H locs ls G hl
    rw [fM_bare_11] at hf
    refine lv_iload C.1 C.2.1 qm_M_bare_11 (lv_at hl 3 rfl) ?_
    refine lv_if_lt (tgt := 41) C.1 C.2.1 qm_M_bare_13 (by decide) (fun b1 => ?_) (fun b1 => ?_)
    · have hf := if_t b1 hf
      refine lv_iload_n C.1 C.2.1 qm_M_bare_41 rfl (lv_at hl 2 rfl) ?_
      exact q_iret (wf := (mW h K)) C G hf qm_M_bare_42
    · have hf := if_f b1 hf
      refine lv_iload_n C.1 C.2.1 qm_M_bare_16 rfl (lv_at hl 2 rfl) ?_
      refine lv_bipush (v := 8) C.1 C.2.1 qm_M_bare_17 (by decide) ?_
      refine lv_ishl C.1 C.2.1 qm_M_bare_19 ?_
      refine lv_aload_n C.1 C.2.1 qm_M_bare_20 rfl (lv_at hl 0 rfl) ?_
      refine q_get (wf := (mW h K)) (v := .ref (h 1)) C G qi_M 0 rfl rfl 1 (by decide) qz_832 rfl qm_M_bare_21 ?_
      refine lv_iload_n C.1 C.2.1 qm_M_bare_24 rfl (lv_at hl 1 rfl) ?_
      refine lv_iload C.1 C.2.1 qm_M_bare_25 (lv_at hl 3 rfl) ?_
      refine lv_iadd C.1 C.2.1 qm_M_bare_27 ?_
      refine lv_sipush (v := 2047) C.1 C.2.1 qm_M_bare_28 (by decide) ?_
      refine lv_iand C.1 C.2.1 qm_M_bare_31 ?_
      obtain ⟨b2, hf⟩ := chk_s hf
      refine q_iald (wf := (mW h K)) C G 1 0 rfl rfl b2 qm_M_bare_32 ?_
      refine lv_ior C.1 C.2.1 qm_M_bare_33 ?_
      refine lv_istore_n (lv' := [(3, .int ((x3 <<< ((8 : Int32) &&& 31)) ||| (gA S 0 ((x2 + x4) &&& 2047)))), (0, .ref (h 0)), (2, .int x2), (4, .int x4)]) C.1 C.2.1 qm_M_bare_34 rfl hl (by decide) rfl (fun ls hl => ?_)
      refine lv_iinc (v := x4 + (-1)) (lv' := [(4, .int (x4 + (-1))), (3, .int ((x3 <<< ((8 : Int32) &&& 31)) ||| (gA S 0 ((x2 + x4) &&& 2047)))), (0, .ref (h 0)), (2, .int x2)]) C.1 C.2.1 qm_M_bare_35 hl (k := 3) rfl rfl (by decide) rfl (fun ls hl => ?_)
      refine lv_goto (tgt := 11) C.1 C.2.1 qm_M_bare_38 (by decide) ?_
      exact ih S x2 ((x3 <<< ((8 : Int32) &&& 31)) ||| (gA S 0 ((x2 + x4) &&& 2047))) (x4 + (-1)) hf _ _ _ G (lv_sub hl [2, 3, 1, 0] rfl)
set_option maxHeartbeats 4000000 in
set_option maxRecDepth 100000 in
theorem wM_bare {l : Launch} {D : va_G} {h : Nat → Nat} {K : Nat → ClassId} {res : Int32 × qS} {p : Program} {e : Env} {s : State} {m : MethodId} {args : Array Value} {below : List Frame} {meth : Method} {c : Code} {A : Nat → Prop} {ad : Nat → Nat} (C : qC p s m args meth c qm_M_bare_c 5 (some .int) qR_M ad) (S : qS) (a1 : Int32) (hf : fM_bare S a1 = some res) : ∀ (H : Heap) (locs : List Loc) (ls : Array Slot), qG D qCl (mT K) A s (mW h K S) H locs → lv_has ls 5 [(0, .ref (h 0)), (1, .int a1)] → W p l e ({ frames := 0, cells := 0, slots := 0, locals := 0 }) s m args below meth c H locs 0 0 (MQ below (qQi D qCl (mT K) (mW h K) A res) args s 0 0 A) (F0 m 0 ls []) := by
  intro H locs ls G hl
  unfold fM_bare at hf
  refine lv_iload_n C.1 C.2.1 qm_M_bare_0 rfl (lv_at hl 1 rfl) ?_
  refine lv_sipush (v := 2047) C.1 C.2.1 qm_M_bare_1 (by decide) ?_
  refine lv_iand C.1 C.2.1 qm_M_bare_4 ?_
  refine lv_istore_n (lv' := [(2, .int (a1 &&& 2047)), (0, .ref (h 0)), (1, .int a1)]) C.1 C.2.1 qm_M_bare_5 rfl hl (by decide) rfl (fun ls hl => ?_)
  refine lv_iconst (v := 0) C.1 C.2.1 qm_M_bare_6 (by decide) ?_
  refine lv_istore_n (lv' := [(3, .int 0), (2, .int (a1 &&& 2047)), (0, .ref (h 0)), (1, .int a1)]) C.1 C.2.1 qm_M_bare_7 rfl hl (by decide) rfl (fun ls hl => ?_)
  refine lv_iconst (v := 3) C.1 C.2.1 qm_M_bare_8 (by decide) ?_
  refine lv_istore (lv' := [(4, .int 3), (3, .int 0), (2, .int (a1 &&& 2047)), (0, .ref (h 0)), (1, .int a1)]) C.1 C.2.1 qm_M_bare_9 hl (by decide) rfl (fun ls hl => ?_)
  exact wM_bare_11 C 300 S (a1 &&& 2047) 0 3 hf _ _ _ G (lv_sub hl [3, 2, 1, 0] rfl)
theorem kM_bare {l : Launch} {ad : Nat → Nat} {D : va_G} {h : Nat → Nat} {K : Nat → ClassId} {res : Int32 × qS} {S : qS} {a1 : Int32} (hf : fM_bare S a1 = some res) : qMi l qm_M_bare qm_M_bare_c 5 .int 0 0 D qCl (mT K) ad (mW h K) [.ref (h 0), .int a1] S res := qMi_of (by decide) (Nat.le_of_ble_eq_true rfl) (fun _ _ _ _ _ _ _ _ _ _ C G hl => wM_bare C S a1 hf _ _ _ G hl)
set_option maxHeartbeats 4000000 in
set_option maxRecDepth 100000 in
theorem wM_look {l : Launch} {D : va_G} {h : Nat → Nat} {K : Nat → ClassId} {res : Int32 × qS} {p : Program} {e : Env} {s : State} {m : MethodId} {args : Array Value} {below : List Frame} {meth : Method} {c : Code} {A : Nat → Prop} {ad : Nat → Nat} (C : qC p s m args meth c qm_M_look_c 2 (some .int) qR_M ad) (S : qS) (a1 : Int32) (hf : fM_look S a1 = some res) : ∀ (H : Heap) (locs : List Loc) (ls : Array Slot), qG D qCl (mT K) A s (mW h K S) H locs → lv_has ls 2 [(0, .ref (h 0)), (1, .int a1)] → W p l e ({ frames := 1, cells := 0, slots := 0, locals := 24 }) s m args below meth c H locs 0 0 (MQ below (qQi D qCl (mT K) (mW h K) A res) args s 0 0 A) (F0 m 0 ls []) := by
  intro H locs ls G hl
  unfold fM_look at hf
  refine lv_aload_n C.1 C.2.1 qm_M_look_0 rfl (lv_at hl 0 rfl) ?_
  refine lv_iconst (v := 0) C.1 C.2.1 qm_M_look_1 (by decide) ?_
  refine q_put (wf := (mW h K)) (S' := (pI S 0 0)) C G qi_M qY_M qy_M qn_M 0 rfl rfl 0 (by decide) qz_831 rfl rfl (Nat.le_of_ble_eq_true rfl) rfl qm_M_look_2 (fun H locs G => ?_)
  refine lv_aload_n C.1 C.2.1 qm_M_look_5 rfl (lv_at hl 0 rfl) ?_
  refine lv_iload_n C.1 C.2.1 qm_M_look_6 rfl (lv_at hl 1 rfl) ?_
  obtain ⟨q1, c1, hf⟩ := bnd_s hf
  refine q_callVi (wf := (mW h K)) (n := 1) (As := [.int a1]) (q0 := 0) (ci := 7) C G hl.1 (kM_bare (l := l) c1) qx_M_56 qm_M_bare_d ⟨by decide, by decide⟩ ⟨Nat.le_refl _, Nat.le_refl _⟩ rfl rfl rfl rfl rfl (Nat.le_of_ble_eq_true rfl) qm_M_look_7 (fun H locs G => ?_)
  exact q_iret (wf := (mW h K)) C G hf qm_M_look_10
theorem kM_look {l : Launch} {ad : Nat → Nat} {D : va_G} {h : Nat → Nat} {K : Nat → ClassId} {res : Int32 × qS} {S : qS} {a1 : Int32} (hf : fM_look S a1 = some res) : qMi l qm_M_look qm_M_look_c 2 .int 1 24 D qCl (mT K) ad (mW h K) [.ref (h 0), .int a1] S res := qMi_of (by decide) (Nat.le_of_ble_eq_true rfl) (fun _ _ _ _ _ _ _ _ _ _ C G hl => wM_look C S a1 hf _ _ _ G hl)
set_option maxHeartbeats 4000000 in
set_option maxRecDepth 100000 in
theorem wM_mode {l : Launch} {D : va_G} {h : Nat → Nat} {K : Nat → ClassId} {res : Int32 × qS} {p : Program} {e : Env} {s : State} {m : MethodId} {args : Array Value} {below : List Frame} {meth : Method} {c : Code} {A : Nat → Prop} {ad : Nat → Nat} (C : qC p s m args meth c qm_M_mode_c 1 (some .int) qR_M ad) (S : qS) (hf : fM_mode S = some res) : ∀ (H : Heap) (locs : List Loc) (ls : Array Slot), qG D qCl (mT K) A s (mW h K S) H locs → lv_has ls 1 [(0, .ref (h 0))] → W p l e ({ frames := 0, cells := 0, slots := 0, locals := 0 }) s m args below meth c H locs 0 0 (MQ below (qQi D qCl (mT K) (mW h K) A res) args s 0 0 A) (F0 m 0 ls []) := by
  intro H locs ls G hl
  unfold fM_mode at hf
  refine lv_aload_n C.1 C.2.1 qm_M_mode_0 rfl (lv_at hl 0 rfl) ?_
  refine q_get (wf := (mW h K)) (v := .int (S.1 1)) C G qi_M 0 rfl rfl 4 (by decide) qz_835 rfl qm_M_mode_1 ?_
  refine lv_bipush (v := 24) C.1 C.2.1 qm_M_mode_4 (by decide) ?_
  refine lv_ishr C.1 C.2.1 qm_M_mode_6 ?_
  refine lv_iconst (v := 3) C.1 C.2.1 qm_M_mode_7 (by decide) ?_
  refine lv_iand C.1 C.2.1 qm_M_mode_8 ?_
  exact q_iret (wf := (mW h K)) C G hf qm_M_mode_9
theorem kM_mode {l : Launch} {ad : Nat → Nat} {D : va_G} {h : Nat → Nat} {K : Nat → ClassId} {res : Int32 × qS} {S : qS} (hf : fM_mode S = some res) : qMi l qm_M_mode qm_M_mode_c 1 .int 0 0 D qCl (mT K) ad (mW h K) [.ref (h 0)] S res := qMi_of (by decide) (Nat.le_of_ble_eq_true rfl) (fun _ _ _ _ _ _ _ _ _ _ C G hl => wM_mode C S hf _ _ _ G hl)
set_option maxHeartbeats 4000000 in
set_option maxRecDepth 100000 in
theorem wM_put_26 {l : Launch} {D : va_G} {h : Nat → Nat} {K : Nat → ClassId} {res : qS} {p : Program} {e : Env} {s : State} {m : MethodId} {args : Array Value} {below : List Frame} {meth : Method} {c : Code} {A : Nat → Prop} {ad : Nat → Nat} (C : qC p s m args meth c qm_M_put_c 3 none qR_M ad) (S : qS) (hf : fM_put_26 S = some res) : ∀ (H : Heap) (locs : List Loc) (ls : Array Slot), qG D qCl (mT K) A s (mW h K S) H locs → lv_has ls 3 [] → W p l e ({ frames := 1, cells := 0, slots := 0, locals := 20 }) s m args below meth c H locs 0 0 (MQ below (qQv D qCl (mT K) (mW h K) A res) args s 0 0 A) (F0 m 26 ls []) := by
  intro H locs ls G hl
  unfold fM_put_26 at hf
  exact q_vret (wf := (mW h K)) C G hf qm_M_put_26
set_option maxHeartbeats 4000000 in
set_option maxRecDepth 100000 in
theorem wM_put {l : Launch} {D : va_G} {h : Nat → Nat} {K : Nat → ClassId} {res : qS} {p : Program} {e : Env} {s : State} {m : MethodId} {args : Array Value} {below : List Frame} {meth : Method} {c : Code} {A : Nat → Prop} {ad : Nat → Nat} (C : qC p s m args meth c qm_M_put_c 3 none qR_M ad) (S : qS) (a1 : Int32) (a2 : Int32) (hf : fM_put S a1 a2 = some res) : ∀ (H : Heap) (locs : List Loc) (ls : Array Slot), qG D qCl (mT K) A s (mW h K S) H locs → lv_has ls 3 [(0, .ref (h 0)), (1, .int a1), (2, .int a2)] → W p l e ({ frames := 1, cells := 0, slots := 0, locals := 20 }) s m args below meth c H locs 0 0 (MQ below (qQv D qCl (mT K) (mW h K) A res) args s 0 0 A) (F0 m 0 ls []) := by
  intro H locs ls G hl
  unfold fM_put at hf
  refine lv_iload_n C.1 C.2.1 qm_M_put_0 rfl (lv_at hl 1 rfl) ?_
  refine lv_bipush (v := 14) C.1 C.2.1 qm_M_put_1 (by decide) ?_
  refine lv_icmp_ne (tgt := 19) C.1 C.2.1 qm_M_put_3 (by decide) (fun b1 => ?_) (fun b1 => ?_)
  · have hf := if_t b1 hf
    refine lv_aload_n C.1 C.2.1 qm_M_put_19 rfl (lv_at hl 0 rfl) ?_
    refine q_get (wf := (mW h K)) (v := .ref (h 2)) C G qi_M 0 rfl rfl 2 (by decide) qz_833 rfl qm_M_put_20 ?_
    refine lv_iload_n C.1 C.2.1 qm_M_put_23 rfl (lv_at hl 1 rfl) ?_
    refine lv_iload_n C.1 C.2.1 qm_M_put_24 rfl (lv_at hl 2 rfl) ?_
    obtain ⟨b2, hf⟩ := chk_s hf
    refine q_iast (wf := (mW h K)) (S' := (pA S 1 a1 a2)) C G 2 1 rfl rfl b2 rfl qm_M_put_25 (fun H locs G => ?_)
    exact wM_put_26 C (pA S 1 a1 a2) hf _ _ _ G (lv_sub hl [] rfl)
  · have hf := if_f (not_not_intro b1) hf
    refine lv_aload_n C.1 C.2.1 qm_M_put_6 rfl (lv_at hl 0 rfl) ?_
    refine q_get (wf := (mW h K)) (v := .ref (h 3)) C G qi_M 0 rfl rfl 3 (by decide) qz_834 rfl qm_M_put_7 ?_
    refine lv_aload_n C.1 C.2.1 qm_M_put_10 rfl (lv_at hl 0 rfl) ?_
    obtain ⟨q3, c3, hf⟩ := bnd_s hf
    refine q_callVi (wf := (mW h K)) (n := 0) (As := []) (q0 := 0) (ci := 7) C G hl.1 (kM_mode (l := l) c3) qx_M_69 qm_M_mode_d ⟨by decide, by decide⟩ ⟨Nat.le_refl _, Nat.le_refl _⟩ rfl rfl rfl rfl rfl (Nat.le_of_ble_eq_true rfl) qm_M_put_11 (fun H locs G => ?_)
    refine lv_iload_n C.1 C.2.1 qm_M_put_14 rfl (lv_at hl 2 rfl) ?_
    obtain ⟨b4, hf⟩ := chk_s hf
    refine q_iast (wf := (mW h K)) (S' := (pA q3.2 2 q3.1 a2)) C G 3 2 rfl rfl b4 rfl qm_M_put_15 (fun H locs G => ?_)
    refine lv_goto (tgt := 26) C.1 C.2.1 qm_M_put_16 (by decide) ?_
    exact wM_put_26 C (pA q3.2 2 q3.1 a2) hf _ _ _ G (lv_sub hl [] rfl)
theorem kM_put {l : Launch} {ad : Nat → Nat} {D : va_G} {h : Nat → Nat} {K : Nat → ClassId} {res : qS} {S : qS} {a1 : Int32} {a2 : Int32} (hf : fM_put S a1 a2 = some res) : qMv l qm_M_put qm_M_put_c 3 1 20 D qCl (mT K) ad (mW h K) [.ref (h 0), .int a1, .int a2] S res := qMv_of (by decide) (Nat.le_of_ble_eq_true rfl) (fun _ _ _ _ _ _ _ _ _ _ C G hl => wM_put C S a1 a2 hf _ _ _ G hl)
set_option maxHeartbeats 4000000 in
set_option maxRecDepth 100000 in
theorem wM_set_32 {l : Launch} {D : va_G} {h : Nat → Nat} {K : Nat → ClassId} {res : qS} {p : Program} {e : Env} {s : State} {m : MethodId} {args : Array Value} {below : List Frame} {meth : Method} {c : Code} {A : Nat → Prop} {ad : Nat → Nat} (C : qC p s m args meth c qm_M_set_c 3 none qR_M ad) (S : qS) (hf : fM_set_32 S = some res) : ∀ (H : Heap) (locs : List Loc) (ls : Array Slot), qG D qCl (mT K) A s (mW h K S) H locs → lv_has ls 3 [] → W p l e ({ frames := 2, cells := 0, slots := 0, locals := 42 }) s m args below meth c H locs 0 0 (MQ below (qQv D qCl (mT K) (mW h K) A res) args s 0 0 A) (F0 m 32 ls []) := by
  intro H locs ls G hl
  unfold fM_set_32 at hf
  exact q_vret (wf := (mW h K)) C G hf qm_M_set_32
set_option maxHeartbeats 4000000 in
set_option maxRecDepth 100000 in
theorem wM_set_16 {l : Launch} {D : va_G} {h : Nat → Nat} {K : Nat → ClassId} {res : qS} {p : Program} {e : Env} {s : State} {m : MethodId} {args : Array Value} {below : List Frame} {meth : Method} {c : Code} {A : Nat → Prop} {ad : Nat → Nat} (C : qC p s m args meth c qm_M_set_c 3 none qR_M ad) (S : qS) (x1 : Int32) (x2 : Int32) (y1 : Int32) (hf : fM_set_16 S x1 x2 y1 = some res) : ∀ (H : Heap) (locs : List Loc) (ls : Array Slot), qG D qCl (mT K) A s (mW h K S) H locs → lv_has ls 3 [(0, .ref (h 0)), (1, .int x1), (2, .int x2)] → W p l e ({ frames := 2, cells := 0, slots := 0, locals := 42 }) s m args below meth c H locs 0 0 (MQ below (qQv D qCl (mT K) (mW h K) A res) args s 0 0 A) (F0 m 16 ls [.int y1, .ref (h 0)]) := by
  intro H locs ls G hl
  unfold fM_set_16 at hf
  refine q_put (wf := (mW h K)) (S' := (pI S 0 y1)) C G qi_M qY_M qy_M qn_M 0 rfl rfl 0 (by decide) qz_831 rfl rfl (Nat.le_of_ble_eq_true rfl) rfl qm_M_set_16 (fun H locs G => ?_)
  refine lv_aload_n C.1 C.2.1 qm_M_set_19 rfl (lv_at hl 0 rfl) ?_
  refine q_get (wf := (mW h K)) (v := .int ((pI S 0 y1).1 0)) C G qi_M 0 rfl rfl 0 (by decide) qz_831 rfl qm_M_set_20 ?_
  refine lv_if_ne (tgt := 32) C.1 C.2.1 qm_M_set_23 (by decide) (fun b1 => ?_) (fun b1 => ?_)
  · have hf := if_t b1 hf
    exact wM_set_32 C (pI S 0 y1) hf _ _ _ G (lv_sub hl [] rfl)
  · have hf := if_f (not_not_intro b1) hf
    refine lv_aload_n C.1 C.2.1 qm_M_set_26 rfl (lv_at hl 0 rfl) ?_
    refine lv_iload_n C.1 C.2.1 qm_M_set_27 rfl (lv_at hl 1 rfl) ?_
    refine lv_iload_n C.1 C.2.1 qm_M_set_28 rfl (lv_at hl 2 rfl) ?_
    obtain ⟨S2, c2, hf⟩ := bnd_s hf
    refine q_callVv (wf := (mW h K)) (n := 2) (As := [.int x1, .int x2]) (q0 := 0) (ci := 7) C G hl.1 (kM_put (l := l) c2) qx_M_90 qm_M_put_d ⟨by decide, by decide⟩ ⟨Nat.le_refl _, Nat.le_refl _⟩ rfl rfl rfl rfl rfl (Nat.le_of_ble_eq_true rfl) qm_M_set_29 (fun H locs G => ?_)
    exact wM_set_32 C S2 hf _ _ _ G (lv_sub hl [] rfl)
set_option maxHeartbeats 4000000 in
set_option maxRecDepth 100000 in
theorem wM_set_11 {l : Launch} {D : va_G} {h : Nat → Nat} {K : Nat → ClassId} {res : qS} {p : Program} {e : Env} {s : State} {m : MethodId} {args : Array Value} {below : List Frame} {meth : Method} {c : Code} {A : Nat → Prop} {ad : Nat → Nat} (C : qC p s m args meth c qm_M_set_c 3 none qR_M ad) (S : qS) (x1 : Int32) (x2 : Int32) (hf : fM_set_11 S x1 x2 = some res) : ∀ (H : Heap) (locs : List Loc) (ls : Array Slot), qG D qCl (mT K) A s (mW h K S) H locs → lv_has ls 3 [(0, .ref (h 0)), (1, .int x1), (2, .int x2)] → W p l e ({ frames := 2, cells := 0, slots := 0, locals := 42 }) s m args below meth c H locs 0 0 (MQ below (qQv D qCl (mT K) (mW h K) A res) args s 0 0 A) (F0 m 11 ls [.ref (h 0)]) := by
  intro H locs ls G hl
  unfold fM_set_11 at hf
  refine lv_iconst (v := 1) C.1 C.2.1 qm_M_set_11 (by decide) ?_
  refine lv_goto (tgt := 16) C.1 C.2.1 qm_M_set_12 (by decide) ?_
  exact wM_set_16 C S x1 x2 1 hf _ _ _ G (lv_sub hl [0, 1, 2] rfl)
set_option maxHeartbeats 4000000 in
set_option maxRecDepth 100000 in
theorem wM_set {l : Launch} {D : va_G} {h : Nat → Nat} {K : Nat → ClassId} {res : qS} {p : Program} {e : Env} {s : State} {m : MethodId} {args : Array Value} {below : List Frame} {meth : Method} {c : Code} {A : Nat → Prop} {ad : Nat → Nat} (C : qC p s m args meth c qm_M_set_c 3 none qR_M ad) (S : qS) (a1 : Int32) (a2 : Int32) (hf : fM_set S a1 a2 = some res) : ∀ (H : Heap) (locs : List Loc) (ls : Array Slot), qG D qCl (mT K) A s (mW h K S) H locs → lv_has ls 3 [(0, .ref (h 0)), (1, .int a1), (2, .int a2)] → W p l e ({ frames := 2, cells := 0, slots := 0, locals := 42 }) s m args below meth c H locs 0 0 (MQ below (qQv D qCl (mT K) (mW h K) A res) args s 0 0 A) (F0 m 0 ls []) := by
  intro H locs ls G hl
  unfold fM_set at hf
  refine lv_aload_n C.1 C.2.1 qm_M_set_0 rfl (lv_at hl 0 rfl) ?_
  refine lv_iload_n C.1 C.2.1 qm_M_set_1 rfl (lv_at hl 1 rfl) ?_
  refine lv_if_lt (tgt := 11) C.1 C.2.1 qm_M_set_2 (by decide) (fun b1 => ?_) (fun b1 => ?_)
  · have hf := if_t b1 hf
    exact wM_set_11 C S a1 a2 hf _ _ _ G (lv_sub hl [0, 1, 2] rfl)
  · have hf := if_f b1 hf
    refine lv_iload_n C.1 C.2.1 qm_M_set_5 rfl (lv_at hl 1 rfl) ?_
    refine lv_bipush (v := 15) C.1 C.2.1 qm_M_set_6 (by decide) ?_
    refine lv_icmp_le (tgt := 15) C.1 C.2.1 qm_M_set_8 (by decide) (fun b2 => ?_) (fun b2 => ?_)
    · have hf := if_t b2 hf
      refine lv_iconst (v := 0) C.1 C.2.1 qm_M_set_15 (by decide) ?_
      exact wM_set_16 C S a1 a2 0 hf _ _ _ G (lv_sub hl [0, 1, 2] rfl)
    · have hf := if_f b2 hf
      exact wM_set_11 C S a1 a2 hf _ _ _ G (lv_sub hl [0, 1, 2] rfl)
theorem kM_set {l : Launch} {ad : Nat → Nat} {D : va_G} {h : Nat → Nat} {K : Nat → ClassId} {res : qS} {S : qS} {a1 : Int32} {a2 : Int32} (hf : fM_set S a1 a2 = some res) : qMv l qm_M_set qm_M_set_c 3 2 42 D qCl (mT K) ad (mW h K) [.ref (h 0), .int a1, .int a2] S res := qMv_of (by decide) (Nat.le_of_ble_eq_true rfl) (fun _ _ _ _ _ _ _ _ _ _ C G hl => wM_set C S a1 a2 hf _ _ _ G hl)
set_option maxHeartbeats 4000000 in
set_option maxRecDepth 100000 in
theorem wM_fail {l : Launch} {D : va_G} {h : Nat → Nat} {K : Nat → ClassId} {res : Int32 × qS} {p : Program} {e : Env} {s : State} {m : MethodId} {args : Array Value} {below : List Frame} {meth : Method} {c : Code} {A : Nat → Prop} {ad : Nat → Nat} (C : qC p s m args meth c qm_M_fail_c 2 (some .int) qR_M ad) (S : qS) (a1 : Int32) (hf : fM_fail S a1 = some res) : ∀ (H : Heap) (locs : List Loc) (ls : Array Slot), qG D qCl (mT K) A s (mW h K S) H locs → lv_has ls 2 [(0, .ref (h 0)), (1, .int a1)] → W p l e ({ frames := 0, cells := 0, slots := 0, locals := 0 }) s m args below meth c H locs 0 0 (MQ below (qQi D qCl (mT K) (mW h K) A res) args s 0 0 A) (F0 m 0 ls []) := by
  intro H locs ls G hl
  unfold fM_fail at hf
  refine lv_aload_n C.1 C.2.1 qm_M_fail_0 rfl (lv_at hl 0 rfl) ?_
  refine lv_iload_n C.1 C.2.1 qm_M_fail_1 rfl (lv_at hl 1 rfl) ?_
  refine q_put (wf := (mW h K)) (S' := (pI S 0 a1)) C G qi_M qY_M qy_M qn_M 0 rfl rfl 0 (by decide) qz_831 rfl rfl (Nat.le_of_ble_eq_true rfl) rfl qm_M_fail_2 (fun H locs G => ?_)
  refine lv_iconst (v := 0) C.1 C.2.1 qm_M_fail_5 (by decide) ?_
  exact q_iret (wf := (mW h K)) C G hf qm_M_fail_6
theorem kM_fail {l : Launch} {ad : Nat → Nat} {D : va_G} {h : Nat → Nat} {K : Nat → ClassId} {res : Int32 × qS} {S : qS} {a1 : Int32} (hf : fM_fail S a1 = some res) : qMi l qm_M_fail qm_M_fail_c 2 .int 0 0 D qCl (mT K) ad (mW h K) [.ref (h 0), .int a1] S res := qMi_of (by decide) (Nat.le_of_ble_eq_true rfl) (fun _ _ _ _ _ _ _ _ _ _ C G hl => wM_fail C S a1 hf _ _ _ G hl)
set_option maxHeartbeats 4000000 in
set_option maxRecDepth 100000 in
theorem wM_get_24 {l : Launch} {D : va_G} {h : Nat → Nat} {K : Nat → ClassId} {res : Int32 × qS} {p : Program} {e : Env} {s : State} {m : MethodId} {args : Array Value} {below : List Frame} {meth : Method} {c : Code} {A : Nat → Prop} {ad : Nat → Nat} (C : qC p s m args meth c qm_M_get_c 2 (some .int) qR_M ad) (S : qS) (y0 : Int32) (hf : fM_get_24 S y0 = some res) : ∀ (H : Heap) (locs : List Loc) (ls : Array Slot), qG D qCl (mT K) A s (mW h K S) H locs → lv_has ls 2 [] → W p l e ({ frames := 1, cells := 0, slots := 0, locals := 20 }) s m args below meth c H locs 0 0 (MQ below (qQi D qCl (mT K) (mW h K) A res) args s 0 0 A) (F0 m 24 ls [.int y0]) := by
  intro H locs ls G hl
  unfold fM_get_24 at hf
  exact q_iret (wf := (mW h K)) C G hf qm_M_get_24
set_option maxHeartbeats 4000000 in
set_option maxRecDepth 100000 in
theorem wM_get {l : Launch} {D : va_G} {h : Nat → Nat} {K : Nat → ClassId} {res : Int32 × qS} {p : Program} {e : Env} {s : State} {m : MethodId} {args : Array Value} {below : List Frame} {meth : Method} {c : Code} {A : Nat → Prop} {ad : Nat → Nat} (C : qC p s m args meth c qm_M_get_c 2 (some .int) qR_M ad) (S : qS) (a1 : Int32) (hf : fM_get S a1 = some res) : ∀ (H : Heap) (locs : List Loc) (ls : Array Slot), qG D qCl (mT K) A s (mW h K S) H locs → lv_has ls 2 [(0, .ref (h 0)), (1, .int a1)] → W p l e ({ frames := 1, cells := 0, slots := 0, locals := 20 }) s m args below meth c H locs 0 0 (MQ below (qQi D qCl (mT K) (mW h K) A res) args s 0 0 A) (F0 m 0 ls []) := by
  intro H locs ls G hl
  unfold fM_get at hf
  refine lv_iload_n C.1 C.2.1 qm_M_get_0 rfl (lv_at hl 1 rfl) ?_
  refine lv_bipush (v := 14) C.1 C.2.1 qm_M_get_1 (by decide) ?_
  refine lv_icmp_ne (tgt := 18) C.1 C.2.1 qm_M_get_3 (by decide) (fun b1 => ?_) (fun b1 => ?_)
  · have hf := if_t b1 hf
    refine lv_aload_n C.1 C.2.1 qm_M_get_18 rfl (lv_at hl 0 rfl) ?_
    refine q_get (wf := (mW h K)) (v := .ref (h 2)) C G qi_M 0 rfl rfl 2 (by decide) qz_833 rfl qm_M_get_19 ?_
    refine lv_iload_n C.1 C.2.1 qm_M_get_22 rfl (lv_at hl 1 rfl) ?_
    obtain ⟨b2, hf⟩ := chk_s hf
    refine q_iald (wf := (mW h K)) C G 2 1 rfl rfl b2 qm_M_get_23 ?_
    exact wM_get_24 C S (gA S 1 a1) hf _ _ _ G (lv_sub hl [] rfl)
  · have hf := if_f (not_not_intro b1) hf
    refine lv_aload_n C.1 C.2.1 qm_M_get_6 rfl (lv_at hl 0 rfl) ?_
    refine q_get (wf := (mW h K)) (v := .ref (h 3)) C G qi_M 0 rfl rfl 3 (by decide) qz_834 rfl qm_M_get_7 ?_
    refine lv_aload_n C.1 C.2.1 qm_M_get_10 rfl (lv_at hl 0 rfl) ?_
    obtain ⟨q3, c3, hf⟩ := bnd_s hf
    refine q_callVi (wf := (mW h K)) (n := 0) (As := []) (q0 := 0) (ci := 7) C G hl.1 (kM_mode (l := l) c3) qx_M_69 qm_M_mode_d ⟨by decide, by decide⟩ ⟨Nat.le_refl _, Nat.le_refl _⟩ rfl rfl rfl rfl rfl (Nat.le_of_ble_eq_true rfl) qm_M_get_11 (fun H locs G => ?_)
    obtain ⟨b4, hf⟩ := chk_s hf
    refine q_iald (wf := (mW h K)) C G 3 2 rfl rfl b4 qm_M_get_14 ?_
    refine lv_goto (tgt := 24) C.1 C.2.1 qm_M_get_15 (by decide) ?_
    exact wM_get_24 C q3.2 (gA q3.2 2 q3.1) hf _ _ _ G (lv_sub hl [] rfl)
theorem kM_get {l : Launch} {ad : Nat → Nat} {D : va_G} {h : Nat → Nat} {K : Nat → ClassId} {res : Int32 × qS} {S : qS} {a1 : Int32} (hf : fM_get S a1 = some res) : qMi l qm_M_get qm_M_get_c 2 .int 1 20 D qCl (mT K) ad (mW h K) [.ref (h 0), .int a1] S res := qMi_of (by decide) (Nat.le_of_ble_eq_true rfl) (fun _ _ _ _ _ _ _ _ _ _ C G hl => wM_get C S a1 hf _ _ _ G hl)
set_option maxHeartbeats 4000000 in
set_option maxRecDepth 100000 in
theorem wM_register_10 {l : Launch} {D : va_G} {h : Nat → Nat} {K : Nat → ClassId} {res : Int32 × qS} {p : Program} {e : Env} {s : State} {m : MethodId} {args : Array Value} {below : List Frame} {meth : Method} {c : Code} {A : Nat → Prop} {ad : Nat → Nat} (C : qC p s m args meth c qm_M_register_c 2 (some .int) qR_M ad) (S : qS) (hf : fM_register_10 S = some res) : ∀ (H : Heap) (locs : List Loc) (ls : Array Slot), qG D qCl (mT K) A s (mW h K S) H locs → lv_has ls 2 [(0, .ref (h 0))] → W p l e ({ frames := 2, cells := 0, slots := 0, locals := 41 }) s m args below meth c H locs 0 0 (MQ below (qQi D qCl (mT K) (mW h K) A res) args s 0 0 A) (F0 m 10 ls []) := by
  intro H locs ls G hl
  unfold fM_register_10 at hf
  refine lv_aload_n C.1 C.2.1 qm_M_register_10 rfl (lv_at hl 0 rfl) ?_
  refine lv_iconst (v := 1) C.1 C.2.1 qm_M_register_11 (by decide) ?_
  obtain ⟨q1, c1, hf⟩ := bnd_s hf
  refine q_callVi (wf := (mW h K)) (n := 1) (As := [.int 1]) (q0 := 0) (ci := 7) C G hl.1 (kM_fail (l := l) c1) qx_M_203 qm_M_fail_d ⟨by decide, by decide⟩ ⟨Nat.le_refl _, Nat.le_refl _⟩ rfl rfl rfl rfl rfl (Nat.le_of_ble_eq_true rfl) qm_M_register_12 (fun H locs G => ?_)
  exact q_iret (wf := (mW h K)) C G hf qm_M_register_15
set_option maxHeartbeats 4000000 in
set_option maxRecDepth 100000 in
theorem wM_register {l : Launch} {D : va_G} {h : Nat → Nat} {K : Nat → ClassId} {res : Int32 × qS} {p : Program} {e : Env} {s : State} {m : MethodId} {args : Array Value} {below : List Frame} {meth : Method} {c : Code} {A : Nat → Prop} {ad : Nat → Nat} (C : qC p s m args meth c qm_M_register_c 2 (some .int) qR_M ad) (S : qS) (a1 : Int32) (hf : fM_register S a1 = some res) : ∀ (H : Heap) (locs : List Loc) (ls : Array Slot), qG D qCl (mT K) A s (mW h K S) H locs → lv_has ls 2 [(0, .ref (h 0)), (1, .int a1)] → W p l e ({ frames := 2, cells := 0, slots := 0, locals := 41 }) s m args below meth c H locs 0 0 (MQ below (qQi D qCl (mT K) (mW h K) A res) args s 0 0 A) (F0 m 0 ls []) := by
  intro H locs ls G hl
  unfold fM_register at hf
  refine lv_iload_n C.1 C.2.1 qm_M_register_0 rfl (lv_at hl 1 rfl) ?_
  refine lv_if_lt (tgt := 10) C.1 C.2.1 qm_M_register_1 (by decide) (fun b1 => ?_) (fun b1 => ?_)
  · have hf := if_t b1 hf
    exact wM_register_10 C S hf _ _ _ G (lv_sub hl [0] rfl)
  · have hf := if_f b1 hf
    refine lv_iload_n C.1 C.2.1 qm_M_register_4 rfl (lv_at hl 1 rfl) ?_
    refine lv_bipush (v := 15) C.1 C.2.1 qm_M_register_5 (by decide) ?_
    refine lv_icmp_le (tgt := 16) C.1 C.2.1 qm_M_register_7 (by decide) (fun b2 => ?_) (fun b2 => ?_)
    · have hf := if_t b2 hf
      refine lv_aload_n C.1 C.2.1 qm_M_register_16 rfl (lv_at hl 0 rfl) ?_
      refine lv_iconst (v := 0) C.1 C.2.1 qm_M_register_17 (by decide) ?_
      refine q_put (wf := (mW h K)) (S' := (pI S 0 0)) C G qi_M qY_M qy_M qn_M 0 rfl rfl 0 (by decide) qz_831 rfl rfl (Nat.le_of_ble_eq_true rfl) rfl qm_M_register_18 (fun H locs G => ?_)
      refine lv_aload_n C.1 C.2.1 qm_M_register_21 rfl (lv_at hl 0 rfl) ?_
      refine lv_iload_n C.1 C.2.1 qm_M_register_22 rfl (lv_at hl 1 rfl) ?_
      obtain ⟨q3, c3, hf⟩ := bnd_s hf
      refine q_callVi (wf := (mW h K)) (n := 1) (As := [.int a1]) (q0 := 0) (ci := 7) C G hl.1 (kM_get (l := l) c3) qx_M_84 qm_M_get_d ⟨by decide, by decide⟩ ⟨Nat.le_refl _, Nat.le_refl _⟩ rfl rfl rfl rfl rfl (Nat.le_of_ble_eq_true rfl) qm_M_register_23 (fun H locs G => ?_)
      exact q_iret (wf := (mW h K)) C G hf qm_M_register_26
    · have hf := if_f b2 hf
      exact wM_register_10 C S hf _ _ _ G (lv_sub hl [0] rfl)
theorem kM_register {l : Launch} {ad : Nat → Nat} {D : va_G} {h : Nat → Nat} {K : Nat → ClassId} {res : Int32 × qS} {S : qS} {a1 : Int32} (hf : fM_register S a1 = some res) : qMi l qm_M_register qm_M_register_c 2 .int 2 41 D qCl (mT K) ad (mW h K) [.ref (h 0), .int a1] S res := qMi_of (by decide) (Nat.le_of_ble_eq_true rfl) (fun _ _ _ _ _ _ _ _ _ _ C G hl => wM_register C S a1 hf _ _ _ G hl)
set_option maxHeartbeats 4000000 in
set_option maxRecDepth 100000 in
theorem wM_isInner_38 {l : Launch} {D : va_G} {h : Nat → Nat} {K : Nat → ClassId} {res : Int32 × qS} {p : Program} {e : Env} {s : State} {m : MethodId} {args : Array Value} {below : List Frame} {meth : Method} {c : Code} {A : Nat → Prop} {ad : Nat → Nat} (C : qC p s m args meth c qm_M_isInner_c 1 (some .boolean) qR_M ad) (S : qS) (y0 : Int32) (hf : fM_isInner_38 S y0 = some res) : ∀ (H : Heap) (locs : List Loc) (ls : Array Slot), qG D qCl (mT K) A s (mW h K S) H locs → lv_has ls 1 [] → W p l e ({ frames := 0, cells := 0, slots := 0, locals := 0 }) s m args below meth c H locs 0 0 (MQ below (qQi D qCl (mT K) (mW h K) A res) args s 0 0 A) (F0 m 38 ls [.int y0]) := by
  intro H locs ls G hl
  unfold fM_isInner_38 at hf
  exact q_zret (wf := (mW h K)) C G hf qm_M_isInner_38
set_option maxHeartbeats 4000000 in
set_option maxRecDepth 100000 in
theorem wM_isInner_33 {l : Launch} {D : va_G} {h : Nat → Nat} {K : Nat → ClassId} {res : Int32 × qS} {p : Program} {e : Env} {s : State} {m : MethodId} {args : Array Value} {below : List Frame} {meth : Method} {c : Code} {A : Nat → Prop} {ad : Nat → Nat} (C : qC p s m args meth c qm_M_isInner_c 1 (some .boolean) qR_M ad) (S : qS) (hf : fM_isInner_33 S = some res) : ∀ (H : Heap) (locs : List Loc) (ls : Array Slot), qG D qCl (mT K) A s (mW h K S) H locs → lv_has ls 1 [] → W p l e ({ frames := 0, cells := 0, slots := 0, locals := 0 }) s m args below meth c H locs 0 0 (MQ below (qQi D qCl (mT K) (mW h K) A res) args s 0 0 A) (F0 m 33 ls []) := by
  intro H locs ls G hl
  unfold fM_isInner_33 at hf
  refine lv_iconst (v := 1) C.1 C.2.1 qm_M_isInner_33 (by decide) ?_
  refine lv_goto (tgt := 38) C.1 C.2.1 qm_M_isInner_34 (by decide) ?_
  exact wM_isInner_38 C S 1 hf _ _ _ G (lv_sub hl [] rfl)
set_option maxHeartbeats 4000000 in
set_option maxRecDepth 100000 in
theorem wM_isInner_21 {l : Launch} {D : va_G} {h : Nat → Nat} {K : Nat → ClassId} {res : Int32 × qS} {p : Program} {e : Env} {s : State} {m : MethodId} {args : Array Value} {below : List Frame} {meth : Method} {c : Code} {A : Nat → Prop} {ad : Nat → Nat} (C : qC p s m args meth c qm_M_isInner_c 1 (some .boolean) qR_M ad) (S : qS) (x0 : Int32) (hf : fM_isInner_21 S x0 = some res) : ∀ (H : Heap) (locs : List Loc) (ls : Array Slot), qG D qCl (mT K) A s (mW h K S) H locs → lv_has ls 1 [(0, .int x0)] → W p l e ({ frames := 0, cells := 0, slots := 0, locals := 0 }) s m args below meth c H locs 0 0 (MQ below (qQi D qCl (mT K) (mW h K) A res) args s 0 0 A) (F0 m 21 ls []) := by
  intro H locs ls G hl
  unfold fM_isInner_21 at hf
  refine lv_iload_n C.1 C.2.1 qm_M_isInner_21 rfl (lv_at hl 0 rfl) ?_
  refine lv_bipush (v := 17) C.1 C.2.1 qm_M_isInner_22 (by decide) ?_
  refine lv_icmp_eq (tgt := 33) C.1 C.2.1 qm_M_isInner_24 (by decide) (fun b1 => ?_) (fun b1 => ?_)
  · have hf := if_t b1 hf
    exact wM_isInner_33 C S hf _ _ _ G (lv_sub hl [] rfl)
  · have hf := if_f b1 hf
    refine lv_iload_n C.1 C.2.1 qm_M_isInner_27 rfl (lv_at hl 0 rfl) ?_
    refine lv_bipush (v := 56) C.1 C.2.1 qm_M_isInner_28 (by decide) ?_
    refine lv_icmp_ne (tgt := 37) C.1 C.2.1 qm_M_isInner_30 (by decide) (fun b2 => ?_) (fun b2 => ?_)
    · have hf := if_t b2 hf
      refine lv_iconst (v := 0) C.1 C.2.1 qm_M_isInner_37 (by decide) ?_
      exact wM_isInner_38 C S 0 hf _ _ _ G (lv_sub hl [] rfl)
    · have hf := if_f (not_not_intro b2) hf
      exact wM_isInner_33 C S hf _ _ _ G (lv_sub hl [] rfl)
set_option maxHeartbeats 4000000 in
set_option maxRecDepth 100000 in
theorem wM_isInner_9 {l : Launch} {D : va_G} {h : Nat → Nat} {K : Nat → ClassId} {res : Int32 × qS} {p : Program} {e : Env} {s : State} {m : MethodId} {args : Array Value} {below : List Frame} {meth : Method} {c : Code} {A : Nat → Prop} {ad : Nat → Nat} (C : qC p s m args meth c qm_M_isInner_c 1 (some .boolean) qR_M ad) (S : qS) (x0 : Int32) (hf : fM_isInner_9 S x0 = some res) : ∀ (H : Heap) (locs : List Loc) (ls : Array Slot), qG D qCl (mT K) A s (mW h K S) H locs → lv_has ls 1 [(0, .int x0)] → W p l e ({ frames := 0, cells := 0, slots := 0, locals := 0 }) s m args below meth c H locs 0 0 (MQ below (qQi D qCl (mT K) (mW h K) A res) args s 0 0 A) (F0 m 9 ls []) := by
  intro H locs ls G hl
  unfold fM_isInner_9 at hf
  refine lv_iload_n C.1 C.2.1 qm_M_isInner_9 rfl (lv_at hl 0 rfl) ?_
  refine lv_bipush (v := 7) C.1 C.2.1 qm_M_isInner_10 (by decide) ?_
  refine lv_icmp_le (tgt := 21) C.1 C.2.1 qm_M_isInner_12 (by decide) (fun b1 => ?_) (fun b1 => ?_)
  · have hf := if_t b1 hf
    exact wM_isInner_21 C S x0 hf _ _ _ G (lv_sub hl [0] rfl)
  · have hf := if_f b1 hf
    refine lv_iload_n C.1 C.2.1 qm_M_isInner_15 rfl (lv_at hl 0 rfl) ?_
    refine lv_bipush (v := 14) C.1 C.2.1 qm_M_isInner_16 (by decide) ?_
    refine lv_icmp_lt (tgt := 33) C.1 C.2.1 qm_M_isInner_18 (by decide) (fun b2 => ?_) (fun b2 => ?_)
    · have hf := if_t b2 hf
      exact wM_isInner_33 C S hf _ _ _ G (lv_sub hl [] rfl)
    · have hf := if_f b2 hf
      exact wM_isInner_21 C S x0 hf _ _ _ G (lv_sub hl [0] rfl)
set_option maxHeartbeats 4000000 in
set_option maxRecDepth 100000 in
theorem wM_isInner {l : Launch} {D : va_G} {h : Nat → Nat} {K : Nat → ClassId} {res : Int32 × qS} {p : Program} {e : Env} {s : State} {m : MethodId} {args : Array Value} {below : List Frame} {meth : Method} {c : Code} {A : Nat → Prop} {ad : Nat → Nat} (C : qC p s m args meth c qm_M_isInner_c 1 (some .boolean) qR_M ad) (S : qS) (a0 : Int32) (hf : fM_isInner S a0 = some res) : ∀ (H : Heap) (locs : List Loc) (ls : Array Slot), qG D qCl (mT K) A s (mW h K S) H locs → lv_has ls 1 [(0, .int a0)] → W p l e ({ frames := 0, cells := 0, slots := 0, locals := 0 }) s m args below meth c H locs 0 0 (MQ below (qQi D qCl (mT K) (mW h K) A res) args s 0 0 A) (F0 m 0 ls []) := by
  intro H locs ls G hl
  unfold fM_isInner at hf
  refine lv_iload_n C.1 C.2.1 qm_M_isInner_0 rfl (lv_at hl 0 rfl) ?_
  refine lv_if_lt (tgt := 9) C.1 C.2.1 qm_M_isInner_1 (by decide) (fun b1 => ?_) (fun b1 => ?_)
  · have hf := if_t b1 hf
    exact wM_isInner_9 C S a0 hf _ _ _ G (lv_sub hl [0] rfl)
  · have hf := if_f b1 hf
    refine lv_iload_n C.1 C.2.1 qm_M_isInner_4 rfl (lv_at hl 0 rfl) ?_
    refine lv_iconst (v := 4) C.1 C.2.1 qm_M_isInner_5 (by decide) ?_
    refine lv_icmp_lt (tgt := 33) C.1 C.2.1 qm_M_isInner_6 (by decide) (fun b2 => ?_) (fun b2 => ?_)
    · have hf := if_t b2 hf
      exact wM_isInner_33 C S hf _ _ _ G (lv_sub hl [] rfl)
    · have hf := if_f b2 hf
      exact wM_isInner_9 C S a0 hf _ _ _ G (lv_sub hl [0] rfl)
theorem kM_isInner {l : Launch} {ad : Nat → Nat} {D : va_G} {h : Nat → Nat} {K : Nat → ClassId} {res : Int32 × qS} {S : qS} {a0 : Int32} (hf : fM_isInner S a0 = some res) : qMi l qm_M_isInner qm_M_isInner_c 1 .boolean 0 0 D qCl (mT K) ad (mW h K) [.int a0] S res := qMi_of (by decide) (Nat.le_of_ble_eq_true rfl) (fun _ _ _ _ _ _ _ _ _ _ C G hl => wM_isInner C S a0 hf _ _ _ G hl)
set_option maxHeartbeats 4000000 in
set_option maxRecDepth 100000 in
theorem wM_setInner_44 {l : Launch} {D : va_G} {h : Nat → Nat} {K : Nat → ClassId} {res : qS} {p : Program} {e : Env} {s : State} {m : MethodId} {args : Array Value} {below : List Frame} {meth : Method} {c : Code} {A : Nat → Prop} {ad : Nat → Nat} (C : qC p s m args meth c qm_M_setInner_c 3 none qR_M ad) (S : qS) (hf : fM_setInner_44 S = some res) : ∀ (H : Heap) (locs : List Loc) (ls : Array Slot), qG D qCl (mT K) A s (mW h K S) H locs → lv_has ls 3 [] → W p l e ({ frames := 1, cells := 0, slots := 0, locals := 20 }) s m args below meth c H locs 0 0 (MQ below (qQv D qCl (mT K) (mW h K) A res) args s 0 0 A) (F0 m 44 ls []) := by
  intro H locs ls G hl
  unfold fM_setInner_44 at hf
  exact q_vret (wf := (mW h K)) C G hf qm_M_setInner_44
set_option maxHeartbeats 4000000 in
set_option maxRecDepth 100000 in
theorem wM_setInner_43 {l : Launch} {D : va_G} {h : Nat → Nat} {K : Nat → ClassId} {res : qS} {p : Program} {e : Env} {s : State} {m : MethodId} {args : Array Value} {below : List Frame} {meth : Method} {c : Code} {A : Nat → Prop} {ad : Nat → Nat} (C : qC p s m args meth c qm_M_setInner_c 3 none qR_M ad) (S : qS) (y1 : Int32) (y2 : Int32) (hf : fM_setInner_43 S y1 y2 = some res) : ∀ (H : Heap) (locs : List Loc) (ls : Array Slot), qG D qCl (mT K) A s (mW h K S) H locs → lv_has ls 3 [] → W p l e ({ frames := 1, cells := 0, slots := 0, locals := 20 }) s m args below meth c H locs 0 0 (MQ below (qQv D qCl (mT K) (mW h K) A res) args s 0 0 A) (F0 m 43 ls [.int y2, .int y1, .ref (h 3)]) := by
  intro H locs ls G hl
  unfold fM_setInner_43 at hf
  obtain ⟨b1, hf⟩ := chk_s hf
  refine q_iast (wf := (mW h K)) (S' := (pA S 2 y1 y2)) C G 3 2 rfl rfl b1 rfl qm_M_setInner_43 (fun H locs G => ?_)
  exact wM_setInner_44 C (pA S 2 y1 y2) hf _ _ _ G (lv_sub hl [] rfl)
set_option maxHeartbeats 4000000 in
set_option maxRecDepth 100000 in
theorem wM_setInner_42 {l : Launch} {D : va_G} {h : Nat → Nat} {K : Nat → ClassId} {res : qS} {p : Program} {e : Env} {s : State} {m : MethodId} {args : Array Value} {below : List Frame} {meth : Method} {c : Code} {A : Nat → Prop} {ad : Nat → Nat} (C : qC p s m args meth c qm_M_setInner_c 3 none qR_M ad) (S : qS) (x2 : Int32) (y1 : Int32) (hf : fM_setInner_42 S x2 y1 = some res) : ∀ (H : Heap) (locs : List Loc) (ls : Array Slot), qG D qCl (mT K) A s (mW h K S) H locs → lv_has ls 3 [(2, .int x2)] → W p l e ({ frames := 1, cells := 0, slots := 0, locals := 20 }) s m args below meth c H locs 0 0 (MQ below (qQv D qCl (mT K) (mW h K) A res) args s 0 0 A) (F0 m 42 ls [.int y1, .ref (h 3)]) := by
  intro H locs ls G hl
  unfold fM_setInner_42 at hf
  refine lv_iload_n C.1 C.2.1 qm_M_setInner_42 rfl (lv_at hl 0 rfl) ?_
  exact wM_setInner_43 C S y1 x2 hf _ _ _ G (lv_sub hl [] rfl)
set_option maxHeartbeats 4000000 in
set_option maxRecDepth 100000 in
theorem wM_setInner_13 {l : Launch} {D : va_G} {h : Nat → Nat} {K : Nat → ClassId} {res : qS} {p : Program} {e : Env} {s : State} {m : MethodId} {args : Array Value} {below : List Frame} {meth : Method} {c : Code} {A : Nat → Prop} {ad : Nat → Nat} (C : qC p s m args meth c qm_M_setInner_c 3 none qR_M ad) (S : qS) (x1 : Int32) (x2 : Int32) (y1 : Int32) (hf : fM_setInner_13 S x1 x2 y1 = some res) : ∀ (H : Heap) (locs : List Loc) (ls : Array Slot), qG D qCl (mT K) A s (mW h K S) H locs → lv_has ls 3 [(0, .ref (h 0)), (1, .int x1), (2, .int x2)] → W p l e ({ frames := 1, cells := 0, slots := 0, locals := 20 }) s m args below meth c H locs 0 0 (MQ below (qQv D qCl (mT K) (mW h K) A res) args s 0 0 A) (F0 m 13 ls [.int y1, .ref (h 0)]) := by
  intro H locs ls G hl
  unfold fM_setInner_13 at hf
  refine q_put (wf := (mW h K)) (S' := (pI S 0 y1)) C G qi_M qY_M qy_M qn_M 0 rfl rfl 0 (by decide) qz_831 rfl rfl (Nat.le_of_ble_eq_true rfl) rfl qm_M_setInner_13 (fun H locs G => ?_)
  refine lv_aload_n C.1 C.2.1 qm_M_setInner_16 rfl (lv_at hl 0 rfl) ?_
  refine q_get (wf := (mW h K)) (v := .int ((pI S 0 y1).1 0)) C G qi_M 0 rfl rfl 0 (by decide) qz_831 rfl qm_M_setInner_17 ?_
  refine lv_if_ne (tgt := 44) C.1 C.2.1 qm_M_setInner_20 (by decide) (fun b1 => ?_) (fun b1 => ?_)
  · have hf := if_t b1 hf
    exact wM_setInner_44 C (pI S 0 y1) hf _ _ _ G (lv_sub hl [] rfl)
  · have hf := if_f (not_not_intro b1) hf
    refine lv_aload_n C.1 C.2.1 qm_M_setInner_23 rfl (lv_at hl 0 rfl) ?_
    refine q_get (wf := (mW h K)) (v := .ref (h 3)) C G qi_M 0 rfl rfl 3 (by decide) qz_834 rfl qm_M_setInner_24 ?_
    refine lv_iload_n C.1 C.2.1 qm_M_setInner_27 rfl (lv_at hl 1 rfl) ?_
    refine lv_iload_n C.1 C.2.1 qm_M_setInner_28 rfl (lv_at hl 1 rfl) ?_
    refine lv_bipush (v := 56) C.1 C.2.1 qm_M_setInner_29 (by decide) ?_
    refine lv_icmp_ne (tgt := 42) C.1 C.2.1 qm_M_setInner_31 (by decide) (fun b2 => ?_) (fun b2 => ?_)
    · have hf := if_t b2 hf
      exact wM_setInner_42 C (pI S 0 y1) x2 x1 hf _ _ _ G (lv_sub hl [2] rfl)
    · have hf := if_f (not_not_intro b2) hf
      refine lv_iload_n C.1 C.2.1 qm_M_setInner_34 rfl (lv_at hl 2 rfl) ?_
      refine lv_if_eq (tgt := 42) C.1 C.2.1 qm_M_setInner_35 (by decide) (fun b3 => ?_) (fun b3 => ?_)
      · have hf := if_t b3 hf
        exact wM_setInner_42 C (pI S 0 y1) x2 x1 hf _ _ _ G (lv_sub hl [2] rfl)
      · have hf := if_f b3 hf
        refine lv_iconst (v := 1) C.1 C.2.1 qm_M_setInner_38 (by decide) ?_
        refine lv_goto (tgt := 43) C.1 C.2.1 qm_M_setInner_39 (by decide) ?_
        exact wM_setInner_43 C (pI S 0 y1) x1 1 hf _ _ _ G (lv_sub hl [] rfl)
set_option maxHeartbeats 4000000 in
set_option maxRecDepth 100000 in
theorem wM_setInner {l : Launch} {D : va_G} {h : Nat → Nat} {K : Nat → ClassId} {res : qS} {p : Program} {e : Env} {s : State} {m : MethodId} {args : Array Value} {below : List Frame} {meth : Method} {c : Code} {A : Nat → Prop} {ad : Nat → Nat} (C : qC p s m args meth c qm_M_setInner_c 3 none qR_M ad) (S : qS) (a1 : Int32) (a2 : Int32) (hf : fM_setInner S a1 a2 = some res) : ∀ (H : Heap) (locs : List Loc) (ls : Array Slot), qG D qCl (mT K) A s (mW h K S) H locs → lv_has ls 3 [(0, .ref (h 0)), (1, .int a1), (2, .int a2)] → W p l e ({ frames := 1, cells := 0, slots := 0, locals := 20 }) s m args below meth c H locs 0 0 (MQ below (qQv D qCl (mT K) (mW h K) A res) args s 0 0 A) (F0 m 0 ls []) := by
  intro H locs ls G hl
  unfold fM_setInner at hf
  refine lv_aload_n C.1 C.2.1 qm_M_setInner_0 rfl (lv_at hl 0 rfl) ?_
  refine lv_iload_n C.1 C.2.1 qm_M_setInner_1 rfl (lv_at hl 1 rfl) ?_
  obtain ⟨q1, c1, hf⟩ := bnd_s hf
  refine q_callSi (wf := (mW h K)) (n := 1) (As := [.int a1]) C G hl.1 (kM_isInner (l := l) c1) qx_M_133 qm_M_isInner_d ⟨by decide, by decide⟩ ⟨Nat.le_refl _, Nat.le_refl _⟩ rfl rfl (Nat.le_of_ble_eq_true rfl) qm_M_setInner_2 (fun H locs G => ?_)
  refine lv_if_eq (tgt := 12) C.1 C.2.1 qm_M_setInner_5 (by decide) (fun b2 => ?_) (fun b2 => ?_)
  · have hf := if_t b2 hf
    refine lv_iconst (v := 1) C.1 C.2.1 qm_M_setInner_12 (by decide) ?_
    exact wM_setInner_13 C q1.2 a1 a2 1 hf _ _ _ G (lv_sub hl [0, 1, 2] rfl)
  · have hf := if_f b2 hf
    refine lv_iconst (v := 0) C.1 C.2.1 qm_M_setInner_8 (by decide) ?_
    refine lv_goto (tgt := 13) C.1 C.2.1 qm_M_setInner_9 (by decide) ?_
    exact wM_setInner_13 C q1.2 a1 a2 0 hf _ _ _ G (lv_sub hl [0, 1, 2] rfl)
theorem kM_setInner {l : Launch} {ad : Nat → Nat} {D : va_G} {h : Nat → Nat} {K : Nat → ClassId} {res : qS} {S : qS} {a1 : Int32} {a2 : Int32} (hf : fM_setInner S a1 a2 = some res) : qMv l qm_M_setInner qm_M_setInner_c 3 1 20 D qCl (mT K) ad (mW h K) [.ref (h 0), .int a1, .int a2] S res := qMv_of (by decide) (Nat.le_of_ble_eq_true rfl) (fun _ _ _ _ _ _ _ _ _ _ C G hl => wM_setInner C S a1 a2 hf _ _ _ G hl)
set_option maxHeartbeats 4000000 in
set_option maxRecDepth 100000 in
theorem wM_inner {l : Launch} {D : va_G} {h : Nat → Nat} {K : Nat → ClassId} {res : Int32 × qS} {p : Program} {e : Env} {s : State} {m : MethodId} {args : Array Value} {below : List Frame} {meth : Method} {c : Code} {A : Nat → Prop} {ad : Nat → Nat} (C : qC p s m args meth c qm_M_inner_c 2 (some .int) qR_M ad) (S : qS) (a1 : Int32) (hf : fM_inner S a1 = some res) : ∀ (H : Heap) (locs : List Loc) (ls : Array Slot), qG D qCl (mT K) A s (mW h K S) H locs → lv_has ls 2 [(0, .ref (h 0)), (1, .int a1)] → W p l e ({ frames := 1, cells := 0, slots := 0, locals := 21 }) s m args below meth c H locs 0 0 (MQ below (qQi D qCl (mT K) (mW h K) A res) args s 0 0 A) (F0 m 0 ls []) := by
  intro H locs ls G hl
  unfold fM_inner at hf
  refine lv_iload_n C.1 C.2.1 qm_M_inner_0 rfl (lv_at hl 1 rfl) ?_
  obtain ⟨q1, c1, hf⟩ := bnd_s hf
  refine q_callSi (wf := (mW h K)) (n := 1) (As := [.int a1]) C G hl.1 (kM_isInner (l := l) c1) qx_M_133 qm_M_isInner_d ⟨by decide, by decide⟩ ⟨Nat.le_refl _, Nat.le_refl _⟩ rfl rfl (Nat.le_of_ble_eq_true rfl) qm_M_inner_1 (fun H locs G => ?_)
  refine lv_if_ne (tgt := 13) C.1 C.2.1 qm_M_inner_4 (by decide) (fun b2 => ?_) (fun b2 => ?_)
  · have hf := if_t b2 hf
    refine lv_aload_n C.1 C.2.1 qm_M_inner_13 rfl (lv_at hl 0 rfl) ?_
    refine lv_iconst (v := 0) C.1 C.2.1 qm_M_inner_14 (by decide) ?_
    refine q_put (wf := (mW h K)) (S' := (pI q1.2 0 0)) C G qi_M qY_M qy_M qn_M 0 rfl rfl 0 (by decide) qz_831 rfl rfl (Nat.le_of_ble_eq_true rfl) rfl qm_M_inner_15 (fun H locs G => ?_)
    refine lv_aload_n C.1 C.2.1 qm_M_inner_18 rfl (lv_at hl 0 rfl) ?_
    refine q_get (wf := (mW h K)) (v := .ref (h 3)) C G qi_M 0 rfl rfl 3 (by decide) qz_834 rfl qm_M_inner_19 ?_
    refine lv_iload_n C.1 C.2.1 qm_M_inner_22 rfl (lv_at hl 1 rfl) ?_
    obtain ⟨b3, hf⟩ := chk_s hf
    refine q_iald (wf := (mW h K)) C G 3 2 rfl rfl b3 qm_M_inner_23 ?_
    exact q_iret (wf := (mW h K)) C G hf qm_M_inner_24
  · have hf := if_f (not_not_intro b2) hf
    refine lv_aload_n C.1 C.2.1 qm_M_inner_7 rfl (lv_at hl 0 rfl) ?_
    refine lv_iconst (v := 1) C.1 C.2.1 qm_M_inner_8 (by decide) ?_
    obtain ⟨q4, c4, hf⟩ := bnd_s hf
    refine q_callVi (wf := (mW h K)) (n := 1) (As := [.int 1]) (q0 := 0) (ci := 7) C G hl.1 (kM_fail (l := l) c4) qx_M_203 qm_M_fail_d ⟨by decide, by decide⟩ ⟨Nat.le_refl _, Nat.le_refl _⟩ rfl rfl rfl rfl rfl (Nat.le_of_ble_eq_true rfl) qm_M_inner_9 (fun H locs G => ?_)
    exact q_iret (wf := (mW h K)) C G hf qm_M_inner_12
theorem kM_inner {l : Launch} {ad : Nat → Nat} {D : va_G} {h : Nat → Nat} {K : Nat → ClassId} {res : Int32 × qS} {S : qS} {a1 : Int32} (hf : fM_inner S a1 = some res) : qMi l qm_M_inner qm_M_inner_c 2 .int 1 21 D qCl (mT K) ad (mW h K) [.ref (h 0), .int a1] S res := qMi_of (by decide) (Nat.le_of_ble_eq_true rfl) (fun _ _ _ _ _ _ _ _ _ _ C G hl => wM_inner C S a1 hf _ _ _ G hl)
set_option maxHeartbeats 4000000 in
set_option maxRecDepth 100000 in
theorem wM_begin_40 {l : Launch} {D : va_G} {h : Nat → Nat} {K : Nat → ClassId} {res : qS} {p : Program} {e : Env} {s : State} {m : MethodId} {args : Array Value} {below : List Frame} {meth : Method} {c : Code} {A : Nat → Prop} {ad : Nat → Nat} (C : qC p s m args meth c qm_M_begin_c 2 none qR_M ad) (S : qS) (hf : fM_begin_40 S = some res) : ∀ (H : Heap) (locs : List Loc) (ls : Array Slot), qG D qCl (mT K) A s (mW h K S) H locs → lv_has ls 2 [] → W p l e ({ frames := 0, cells := 0, slots := 0, locals := 0 }) s m args below meth c H locs 0 0 (MQ below (qQv D qCl (mT K) (mW h K) A res) args s 0 0 A) (F0 m 40 ls []) := by
  intro H locs ls G hl
  unfold fM_begin_40 at hf
  exact q_vret (wf := (mW h K)) C G hf qm_M_begin_40
set_option maxHeartbeats 4000000 in
set_option maxRecDepth 100000 in
theorem wM_begin_28 {l : Launch} {D : va_G} {h : Nat → Nat} {K : Nat → ClassId} {res : qS} {p : Program} {e : Env} {s : State} {m : MethodId} {args : Array Value} {below : List Frame} {meth : Method} {c : Code} {A : Nat → Prop} {ad : Nat → Nat} (C : qC p s m args meth c qm_M_begin_c 2 none qR_M ad) (S : qS) (hf : fM_begin_28 S = some res) : ∀ (H : Heap) (locs : List Loc) (ls : Array Slot), qG D qCl (mT K) A s (mW h K S) H locs → lv_has ls 2 [(0, .ref (h 0))] → W p l e ({ frames := 0, cells := 0, slots := 0, locals := 0 }) s m args below meth c H locs 0 0 (MQ below (qQv D qCl (mT K) (mW h K) A res) args s 0 0 A) (F0 m 28 ls []) := by
  intro H locs ls G hl
  unfold fM_begin_28 at hf
  refine lv_aload_n C.1 C.2.1 qm_M_begin_28 rfl (lv_at hl 0 rfl) ?_
  refine q_get (wf := (mW h K)) (v := .int (S.1 0)) C G qi_M 0 rfl rfl 0 (by decide) qz_831 rfl qm_M_begin_29 ?_
  refine lv_if_ne (tgt := 40) C.1 C.2.1 qm_M_begin_32 (by decide) (fun b1 => ?_) (fun b1 => ?_)
  · have hf := if_t b1 hf
    exact wM_begin_40 C S hf _ _ _ G (lv_sub hl [] rfl)
  · have hf := if_f (not_not_intro b1) hf
    refine lv_aload_n C.1 C.2.1 qm_M_begin_35 rfl (lv_at hl 0 rfl) ?_
    refine lv_iconst (v := 0) C.1 C.2.1 qm_M_begin_36 (by decide) ?_
    refine q_put (wf := (mW h K)) (S' := (pI S 2 0)) C G qi_M qY_M qy_M qn_M 0 rfl rfl 5 (by decide) qz_836 rfl rfl (Nat.le_of_ble_eq_true rfl) rfl qm_M_begin_37 (fun H locs G => ?_)
    exact wM_begin_40 C (pI S 2 0) hf _ _ _ G (lv_sub hl [] rfl)
set_option maxHeartbeats 4000000 in
set_option maxRecDepth 100000 in
theorem wM_begin_13 {l : Launch} {D : va_G} {h : Nat → Nat} {K : Nat → ClassId} {res : qS} {p : Program} {e : Env} {s : State} {m : MethodId} {args : Array Value} {below : List Frame} {meth : Method} {c : Code} {A : Nat → Prop} {ad : Nat → Nat} (C : qC p s m args meth c qm_M_begin_c 2 none qR_M ad) (S : qS) (x1 : Int32) (y1 : Int32) (hf : fM_begin_13 S x1 y1 = some res) : ∀ (H : Heap) (locs : List Loc) (ls : Array Slot), qG D qCl (mT K) A s (mW h K S) H locs → lv_has ls 2 [(0, .ref (h 0)), (1, .int x1)] → W p l e ({ frames := 0, cells := 0, slots := 0, locals := 0 }) s m args below meth c H locs 0 0 (MQ below (qQv D qCl (mT K) (mW h K) A res) args s 0 0 A) (F0 m 13 ls [.int y1, .ref (h 0)]) := by
  intro H locs ls G hl
  unfold fM_begin_13 at hf
  refine q_put (wf := (mW h K)) (S' := (pI S 0 y1)) C G qi_M qY_M qy_M qn_M 0 rfl rfl 0 (by decide) qz_831 rfl rfl (Nat.le_of_ble_eq_true rfl) rfl qm_M_begin_13 (fun H locs G => ?_)
  refine lv_aload_n C.1 C.2.1 qm_M_begin_16 rfl (lv_at hl 0 rfl) ?_
  refine q_get (wf := (mW h K)) (v := .int ((pI S 0 y1).1 0)) C G qi_M 0 rfl rfl 0 (by decide) qz_831 rfl qm_M_begin_17 ?_
  refine lv_if_ne (tgt := 28) C.1 C.2.1 qm_M_begin_20 (by decide) (fun b1 => ?_) (fun b1 => ?_)
  · have hf := if_t b1 hf
    exact wM_begin_28 C (pI S 0 y1) hf _ _ _ G (lv_sub hl [0] rfl)
  · have hf := if_f (not_not_intro b1) hf
    refine lv_aload_n C.1 C.2.1 qm_M_begin_23 rfl (lv_at hl 0 rfl) ?_
    refine lv_iload_n C.1 C.2.1 qm_M_begin_24 rfl (lv_at hl 1 rfl) ?_
    refine q_put (wf := (mW h K)) (S' := (pI (pI S 0 y1) 1 x1)) C G qi_M qY_M qy_M qn_M 0 rfl rfl 4 (by decide) qz_835 rfl rfl (Nat.le_of_ble_eq_true rfl) rfl qm_M_begin_25 (fun H locs G => ?_)
    exact wM_begin_28 C (pI (pI S 0 y1) 1 x1) hf _ _ _ G (lv_sub hl [0] rfl)
set_option maxHeartbeats 4000000 in
set_option maxRecDepth 100000 in
theorem wM_begin {l : Launch} {D : va_G} {h : Nat → Nat} {K : Nat → ClassId} {res : qS} {p : Program} {e : Env} {s : State} {m : MethodId} {args : Array Value} {below : List Frame} {meth : Method} {c : Code} {A : Nat → Prop} {ad : Nat → Nat} (C : qC p s m args meth c qm_M_begin_c 2 none qR_M ad) (S : qS) (a1 : Int32) (hf : fM_begin S a1 = some res) : ∀ (H : Heap) (locs : List Loc) (ls : Array Slot), qG D qCl (mT K) A s (mW h K S) H locs → lv_has ls 2 [(0, .ref (h 0)), (1, .int a1)] → W p l e ({ frames := 0, cells := 0, slots := 0, locals := 0 }) s m args below meth c H locs 0 0 (MQ below (qQv D qCl (mT K) (mW h K) A res) args s 0 0 A) (F0 m 0 ls []) := by
  intro H locs ls G hl
  unfold fM_begin at hf
  refine lv_aload_n C.1 C.2.1 qm_M_begin_0 rfl (lv_at hl 0 rfl) ?_
  refine lv_iload_n C.1 C.2.1 qm_M_begin_1 rfl (lv_at hl 1 rfl) ?_
  refine lv_ldc (own := "QuadModeModel") (v := (-62914608)) C.1 C.2.1 C.2.2.2.1 (C.2.2.2.2.1 _ qz_954) qm_M_begin_2 ?_
  refine lv_iand C.1 C.2.1 qm_M_begin_4 ?_
  refine lv_if_eq (tgt := 12) C.1 C.2.1 qm_M_begin_5 (by decide) (fun b1 => ?_) (fun b1 => ?_)
  · have hf := if_t b1 hf
    refine lv_iconst (v := 0) C.1 C.2.1 qm_M_begin_12 (by decide) ?_
    exact wM_begin_13 C S a1 0 hf _ _ _ G (lv_sub hl [0, 1] rfl)
  · have hf := if_f b1 hf
    refine lv_iconst (v := 1) C.1 C.2.1 qm_M_begin_8 (by decide) ?_
    refine lv_goto (tgt := 13) C.1 C.2.1 qm_M_begin_9 (by decide) ?_
    exact wM_begin_13 C S a1 1 hf _ _ _ G (lv_sub hl [0, 1] rfl)
theorem kM_begin {l : Launch} {ad : Nat → Nat} {D : va_G} {h : Nat → Nat} {K : Nat → ClassId} {res : qS} {S : qS} {a1 : Int32} (hf : fM_begin S a1 = some res) : qMv l qm_M_begin qm_M_begin_c 2 0 0 D qCl (mT K) ad (mW h K) [.ref (h 0), .int a1] S res := qMv_of (by decide) (Nat.le_of_ble_eq_true rfl) (fun _ _ _ _ _ _ _ _ _ _ C G hl => wM_begin C S a1 hf _ _ _ G hl)
set_option maxHeartbeats 4000000 in
set_option maxRecDepth 100000 in
theorem wM_status {l : Launch} {D : va_G} {h : Nat → Nat} {K : Nat → ClassId} {res : Int32 × qS} {p : Program} {e : Env} {s : State} {m : MethodId} {args : Array Value} {below : List Frame} {meth : Method} {c : Code} {A : Nat → Prop} {ad : Nat → Nat} (C : qC p s m args meth c qm_M_status_c 1 (some .int) qR_M ad) (S : qS) (hf : fM_status S = some res) : ∀ (H : Heap) (locs : List Loc) (ls : Array Slot), qG D qCl (mT K) A s (mW h K S) H locs → lv_has ls 1 [(0, .ref (h 0))] → W p l e ({ frames := 0, cells := 0, slots := 0, locals := 0 }) s m args below meth c H locs 0 0 (MQ below (qQi D qCl (mT K) (mW h K) A res) args s 0 0 A) (F0 m 0 ls []) := by
  intro H locs ls G hl
  unfold fM_status at hf
  refine lv_aload_n C.1 C.2.1 qm_M_status_0 rfl (lv_at hl 0 rfl) ?_
  refine lv_iconst (v := 0) C.1 C.2.1 qm_M_status_1 (by decide) ?_
  refine q_put (wf := (mW h K)) (S' := (pI S 0 0)) C G qi_M qY_M qy_M qn_M 0 rfl rfl 0 (by decide) qz_831 rfl rfl (Nat.le_of_ble_eq_true rfl) rfl qm_M_status_2 (fun H locs G => ?_)
  refine lv_aload_n C.1 C.2.1 qm_M_status_5 rfl (lv_at hl 0 rfl) ?_
  refine q_get (wf := (mW h K)) (v := .int ((pI S 0 0).1 1)) C G qi_M 0 rfl rfl 4 (by decide) qz_835 rfl qm_M_status_6 ?_
  exact q_iret (wf := (mW h K)) C G hf qm_M_status_9
theorem kM_status {l : Launch} {ad : Nat → Nat} {D : va_G} {h : Nat → Nat} {K : Nat → ClassId} {res : Int32 × qS} {S : qS} (hf : fM_status S = some res) : qMi l qm_M_status qm_M_status_c 1 .int 0 0 D qCl (mT K) ad (mW h K) [.ref (h 0)] S res := qMi_of (by decide) (Nat.le_of_ble_eq_true rfl) (fun _ _ _ _ _ _ _ _ _ _ C G hl => wM_status C S hf _ _ _ G hl)
set_option maxHeartbeats 4000000 in
set_option maxRecDepth 100000 in
theorem wM_keep_28 {l : Launch} {D : va_G} {h : Nat → Nat} {K : Nat → ClassId} {res : qS} {p : Program} {e : Env} {s : State} {m : MethodId} {args : Array Value} {below : List Frame} {meth : Method} {c : Code} {A : Nat → Prop} {ad : Nat → Nat} (C : qC p s m args meth c qm_M_keep_c 2 none qR_M ad) : ∀ (n : Nat) (S : qS) (x1 : Int32), fM_keep_28 n S x1 = some res → ∀ (H : Heap) (locs : List Loc) (ls : Array Slot), qG D qCl (mT K) A s (mW h K S) H locs → lv_has ls 2 [(0, .ref (h 0)), (1, .int x1)] → W p l e ({ frames := 0, cells := 0, slots := 0, locals := 0 }) s m args below meth c H locs 0 0 (MQ below (qQv D qCl (mT K) (mW h K) A res) args s 0 0 A) (F0 m 28 ls []) := by
  intro n
  induction n with
  | zero => intro S x1 hf; cases hf
  | succ n ih =>
    intro S x1 hf H locs ls G hl
    rw [fM_keep_28] at hf
    refine lv_iload_n C.1 C.2.1 qm_M_keep_28 rfl (lv_at hl 1 rfl) ?_
    refine lv_iconst (v := 4) C.1 C.2.1 qm_M_keep_29 (by decide) ?_
    refine lv_icmp_ge (tgt := 51) C.1 C.2.1 qm_M_keep_30 (by decide) (fun b1 => ?_) (fun b1 => ?_)
    · have hf := if_t b1 hf
      refine lv_aload_n C.1 C.2.1 qm_M_keep_51 rfl (lv_at hl 0 rfl) ?_
      refine lv_aload_n C.1 C.2.1 qm_M_keep_52 rfl (lv_at hl 0 rfl) ?_
      refine q_get (wf := (mW h K)) (v := .int (S.1 1)) C G qi_M 0 rfl rfl 4 (by decide) qz_835 rfl qm_M_keep_53 ?_
      refine q_put (wf := (mW h K)) (S' := (pI S 6 (S.1 1))) C G qi_M qY_M qy_M qn_M 0 rfl rfl 11 (by decide) qz_842 rfl rfl (Nat.le_of_ble_eq_true rfl) rfl qm_M_keep_56 (fun H locs G => ?_)
      exact q_vret (wf := (mW h K)) C G hf qm_M_keep_59
    · have hf := if_f b1 hf
      refine lv_aload_n C.1 C.2.1 qm_M_keep_33 rfl (lv_at hl 0 rfl) ?_
      refine q_get (wf := (mW h K)) (v := .ref (h 5)) C G qi_M 0 rfl rfl 10 (by decide) qz_841 rfl qm_M_keep_34 ?_
      refine lv_iload_n C.1 C.2.1 qm_M_keep_37 rfl (lv_at hl 1 rfl) ?_
      refine lv_aload_n C.1 C.2.1 qm_M_keep_38 rfl (lv_at hl 0 rfl) ?_
      refine q_get (wf := (mW h K)) (v := .ref (h 3)) C G qi_M 0 rfl rfl 3 (by decide) qz_834 rfl qm_M_keep_39 ?_
      refine lv_iload_n C.1 C.2.1 qm_M_keep_42 rfl (lv_at hl 1 rfl) ?_
      obtain ⟨b2, hf⟩ := chk_s hf
      refine q_iald (wf := (mW h K)) C G 3 2 rfl rfl b2 qm_M_keep_43 ?_
      obtain ⟨b3, hf⟩ := chk_s hf
      refine q_iast (wf := (mW h K)) (S' := (pA S 4 x1 (gA S 2 x1))) C G 5 4 rfl rfl b3 rfl qm_M_keep_44 (fun H locs G => ?_)
      refine lv_iinc (v := x1 + 1) (lv' := [(1, .int (x1 + 1)), (0, .ref (h 0))]) C.1 C.2.1 qm_M_keep_45 hl (k := 1) rfl rfl (by decide) rfl (fun ls hl => ?_)
      refine lv_goto (tgt := 28) C.1 C.2.1 qm_M_keep_48 (by decide) ?_
      exact ih (pA S 4 x1 (gA S 2 x1)) (x1 + 1) hf _ _ _ G (lv_sub hl [1, 0] rfl)
set_option maxHeartbeats 4000000 in
set_option maxRecDepth 100000 in
theorem wM_keep_2 {l : Launch} {D : va_G} {h : Nat → Nat} {K : Nat → ClassId} {res : qS} {p : Program} {e : Env} {s : State} {m : MethodId} {args : Array Value} {below : List Frame} {meth : Method} {c : Code} {A : Nat → Prop} {ad : Nat → Nat} (C : qC p s m args meth c qm_M_keep_c 2 none qR_M ad) : ∀ (n : Nat) (S : qS) (x1 : Int32), fM_keep_2 n S x1 = some res → ∀ (H : Heap) (locs : List Loc) (ls : Array Slot), qG D qCl (mT K) A s (mW h K S) H locs → lv_has ls 2 [(0, .ref (h 0)), (1, .int x1)] → W p l e ({ frames := 0, cells := 0, slots := 0, locals := 0 }) s m args below meth c H locs 0 0 (MQ below (qQv D qCl (mT K) (mW h K) A res) args s 0 0 A) (F0 m 2 ls []) := by
  intro n
  induction n with
  | zero => intro S x1 hf; cases hf
  | succ n ih =>
    intro S x1 hf H locs ls G hl
    rw [fM_keep_2] at hf
    refine lv_iload_n C.1 C.2.1 qm_M_keep_2 rfl (lv_at hl 1 rfl) ?_
    refine lv_bipush (v := 16) C.1 C.2.1 qm_M_keep_3 (by decide) ?_
    refine lv_icmp_ge (tgt := 26) C.1 C.2.1 qm_M_keep_5 (by decide) (fun b1 => ?_) (fun b1 => ?_)
    · have hf := if_t b1 hf
      refine lv_iconst (v := 0) C.1 C.2.1 qm_M_keep_26 (by decide) ?_
      refine lv_istore_n (lv' := [(1, .int 0), (0, .ref (h 0))]) C.1 C.2.1 qm_M_keep_27 rfl hl (by decide) rfl (fun ls hl => ?_)
      exact wM_keep_28 C 300 S 0 hf _ _ _ G (lv_sub hl [1, 0] rfl)
    · have hf := if_f b1 hf
      refine lv_aload_n C.1 C.2.1 qm_M_keep_8 rfl (lv_at hl 0 rfl) ?_
      refine q_get (wf := (mW h K)) (v := .ref (h 4)) C G qi_M 0 rfl rfl 9 (by decide) qz_840 rfl qm_M_keep_9 ?_
      refine lv_iload_n C.1 C.2.1 qm_M_keep_12 rfl (lv_at hl 1 rfl) ?_
      refine lv_aload_n C.1 C.2.1 qm_M_keep_13 rfl (lv_at hl 0 rfl) ?_
      refine q_get (wf := (mW h K)) (v := .ref (h 2)) C G qi_M 0 rfl rfl 2 (by decide) qz_833 rfl qm_M_keep_14 ?_
      refine lv_iload_n C.1 C.2.1 qm_M_keep_17 rfl (lv_at hl 1 rfl) ?_
      obtain ⟨b2, hf⟩ := chk_s hf
      refine q_iald (wf := (mW h K)) C G 2 1 rfl rfl b2 qm_M_keep_18 ?_
      obtain ⟨b3, hf⟩ := chk_s hf
      refine q_iast (wf := (mW h K)) (S' := (pA S 3 x1 (gA S 1 x1))) C G 4 3 rfl rfl b3 rfl qm_M_keep_19 (fun H locs G => ?_)
      refine lv_iinc (v := x1 + 1) (lv' := [(1, .int (x1 + 1)), (0, .ref (h 0))]) C.1 C.2.1 qm_M_keep_20 hl (k := 1) rfl rfl (by decide) rfl (fun ls hl => ?_)
      refine lv_goto (tgt := 2) C.1 C.2.1 qm_M_keep_23 (by decide) ?_
      exact ih (pA S 3 x1 (gA S 1 x1)) (x1 + 1) hf _ _ _ G (lv_sub hl [1, 0] rfl)
set_option maxHeartbeats 4000000 in
set_option maxRecDepth 100000 in
theorem wM_keep {l : Launch} {D : va_G} {h : Nat → Nat} {K : Nat → ClassId} {res : qS} {p : Program} {e : Env} {s : State} {m : MethodId} {args : Array Value} {below : List Frame} {meth : Method} {c : Code} {A : Nat → Prop} {ad : Nat → Nat} (C : qC p s m args meth c qm_M_keep_c 2 none qR_M ad) (S : qS) (hf : fM_keep S = some res) : ∀ (H : Heap) (locs : List Loc) (ls : Array Slot), qG D qCl (mT K) A s (mW h K S) H locs → lv_has ls 2 [(0, .ref (h 0))] → W p l e ({ frames := 0, cells := 0, slots := 0, locals := 0 }) s m args below meth c H locs 0 0 (MQ below (qQv D qCl (mT K) (mW h K) A res) args s 0 0 A) (F0 m 0 ls []) := by
  intro H locs ls G hl
  unfold fM_keep at hf
  refine lv_iconst (v := 0) C.1 C.2.1 qm_M_keep_0 (by decide) ?_
  refine lv_istore_n (lv' := [(1, .int 0), (0, .ref (h 0))]) C.1 C.2.1 qm_M_keep_1 rfl hl (by decide) rfl (fun ls hl => ?_)
  exact wM_keep_2 C 300 S 0 hf _ _ _ G (lv_sub hl [1, 0] rfl)
theorem kM_keep {l : Launch} {ad : Nat → Nat} {D : va_G} {h : Nat → Nat} {K : Nat → ClassId} {res : qS} {S : qS} (hf : fM_keep S = some res) : qMv l qm_M_keep qm_M_keep_c 2 0 0 D qCl (mT K) ad (mW h K) [.ref (h 0)] S res := qMv_of (by decide) (Nat.le_of_ble_eq_true rfl) (fun _ _ _ _ _ _ _ _ _ _ C G hl => wM_keep C S hf _ _ _ G hl)
set_option maxHeartbeats 4000000 in
set_option maxRecDepth 100000 in
theorem wM_below_16 {l : Launch} {D : va_G} {h : Nat → Nat} {K : Nat → ClassId} {res : Int32 × qS} {p : Program} {e : Env} {s : State} {m : MethodId} {args : Array Value} {below : List Frame} {meth : Method} {c : Code} {A : Nat → Prop} {ad : Nat → Nat} (C : qC p s m args meth c qm_M_below_c 2 (some .boolean) qR_M ad) (S : qS) (y0 : Int32) (hf : fM_below_16 S y0 = some res) : ∀ (H : Heap) (locs : List Loc) (ls : Array Slot), qG D qCl (mT K) A s (mW h K S) H locs → lv_has ls 2 [] → W p l e ({ frames := 0, cells := 0, slots := 0, locals := 0 }) s m args below meth c H locs 0 0 (MQ below (qQi D qCl (mT K) (mW h K) A res) args s 0 0 A) (F0 m 16 ls [.int y0]) := by
  intro H locs ls G hl
  unfold fM_below_16 at hf
  exact q_zret (wf := (mW h K)) C G hf qm_M_below_16
set_option maxHeartbeats 4000000 in
set_option maxRecDepth 100000 in
theorem wM_below {l : Launch} {D : va_G} {h : Nat → Nat} {K : Nat → ClassId} {res : Int32 × qS} {p : Program} {e : Env} {s : State} {m : MethodId} {args : Array Value} {below : List Frame} {meth : Method} {c : Code} {A : Nat → Prop} {ad : Nat → Nat} (C : qC p s m args meth c qm_M_below_c 2 (some .boolean) qR_M ad) (S : qS) (a0 : Int32) (a1 : Int32) (hf : fM_below S a0 a1 = some res) : ∀ (H : Heap) (locs : List Loc) (ls : Array Slot), qG D qCl (mT K) A s (mW h K S) H locs → lv_has ls 2 [(0, .int a0), (1, .int a1)] → W p l e ({ frames := 0, cells := 0, slots := 0, locals := 0 }) s m args below meth c H locs 0 0 (MQ below (qQi D qCl (mT K) (mW h K) A res) args s 0 0 A) (F0 m 0 ls []) := by
  intro H locs ls G hl
  unfold fM_below at hf
  refine lv_iload_n C.1 C.2.1 qm_M_below_0 rfl (lv_at hl 0 rfl) ?_
  refine lv_ldc (own := "QuadModeModel") (v := (-2147483648)) C.1 C.2.1 C.2.2.2.1 (C.2.2.2.2.1 _ qz_987) qm_M_below_1 ?_
  refine lv_ixor C.1 C.2.1 qm_M_below_3 ?_
  refine lv_iload_n C.1 C.2.1 qm_M_below_4 rfl (lv_at hl 1 rfl) ?_
  refine lv_ldc (own := "QuadModeModel") (v := (-2147483648)) C.1 C.2.1 C.2.2.2.1 (C.2.2.2.2.1 _ qz_987) qm_M_below_5 ?_
  refine lv_ixor C.1 C.2.1 qm_M_below_7 ?_
  refine lv_icmp_ge (tgt := 15) C.1 C.2.1 qm_M_below_8 (by decide) (fun b1 => ?_) (fun b1 => ?_)
  · have hf := if_t b1 hf
    refine lv_iconst (v := 0) C.1 C.2.1 qm_M_below_15 (by decide) ?_
    exact wM_below_16 C S 0 hf _ _ _ G (lv_sub hl [] rfl)
  · have hf := if_f b1 hf
    refine lv_iconst (v := 1) C.1 C.2.1 qm_M_below_11 (by decide) ?_
    refine lv_goto (tgt := 16) C.1 C.2.1 qm_M_below_12 (by decide) ?_
    exact wM_below_16 C S 1 hf _ _ _ G (lv_sub hl [] rfl)
theorem kM_below {l : Launch} {ad : Nat → Nat} {D : va_G} {h : Nat → Nat} {K : Nat → ClassId} {res : Int32 × qS} {S : qS} {a0 : Int32} {a1 : Int32} (hf : fM_below S a0 a1 = some res) : qMi l qm_M_below qm_M_below_c 2 .boolean 0 0 D qCl (mT K) ad (mW h K) [.int a0, .int a1] S res := qMi_of (by decide) (Nat.le_of_ble_eq_true rfl) (fun _ _ _ _ _ _ _ _ _ _ C G hl => wM_below C S a0 a1 hf _ _ _ G hl)
