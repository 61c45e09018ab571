theorem q_alenop {p : Program} {l : Launch} {e : Env} {R : Room} {s : State} {m : MethodId} {args : Array Value} {below : List Frame} {meth : Method} {c : Code} {H : Heap} {locs : List Loc} {cells slots : Nat} {Q : State → Prop} {cc : ByteArray} {nL : Nat} {ret : Option FieldType} {own : String} {D : va_G} {A : Nat → Prop} {S : qS} {pc : Nat} {ls : Array Slot} {rest : List Value} {ad : Nat → Nat} {h : Nat → Nat} {K : Nat → ClassId} (C : qC p s m args meth c cc nL ret own ad) (G : qG D qCl (cT K) A s (cW h K S) H locs) (hdg : decode cc pc = .ok (.arraylength, 1))
    (kk : W p l e R s m args below meth c H locs cells slots Q (F0 m (pc + 1) ls (.int 3 :: rest))) : W p l e R s m args below meth c H locs cells slots Q (F0 m pc ls (.ref (h 11) :: rest)) := va_alen C.1 C.2.1 G.1 G.2.1 11 7 rfl rfl rfl hdg kk
theorem qm_X_fill_0 : decode qm_X_fill_c 0 = .ok (.iconst 0, 1) := by decide +kernel
theorem qm_X_fill_1 : decode qm_X_fill_c 1 = .ok (.istore 4, 2) := by decide +kernel
theorem qm_X_fill_3 : decode qm_X_fill_c 3 = .ok (.iload 4, 2) := by decide +kernel
theorem qm_X_fill_5 : decode qm_X_fill_c 5 = .ok (.bipush 8, 2) := by decide +kernel
theorem qm_X_fill_7 : decode qm_X_fill_c 7 = .ok (.if_icmp .ge 28, 3) := by decide +kernel
theorem qm_X_fill_10 : decode qm_X_fill_c 10 = .ok (.aload_n 0, 1) := by decide +kernel
theorem qm_X_fill_11 : decode qm_X_fill_c 11 = .ok (.getfield 10, 3) := by decide +kernel
theorem qm_X_fill_14 : decode qm_X_fill_c 14 = .ok (.iload_n 1, 1) := by decide +kernel
theorem qm_X_fill_15 : decode qm_X_fill_c 15 = .ok (.iload 4, 2) := by decide +kernel
theorem qm_X_fill_17 : decode qm_X_fill_c 17 = .ok (.iadd, 1) := by decide +kernel
theorem qm_X_fill_18 : decode qm_X_fill_c 18 = .ok (.lload_n 2, 1) := by decide +kernel
theorem qm_X_fill_19 : decode qm_X_fill_c 19 = .ok (.bipush 8, 2) := by decide +kernel
theorem qm_X_fill_21 : decode qm_X_fill_c 21 = .ok (.iload 4, 2) := by decide +kernel
theorem qm_X_fill_23 : decode qm_X_fill_c 23 = .ok (.imul, 1) := by decide +kernel
theorem qm_X_fill_24 : decode qm_X_fill_c 24 = .ok (.lushr, 1) := by decide +kernel
theorem qm_X_fill_25 : decode qm_X_fill_c 25 = .ok (.l2i, 1) := by decide +kernel
theorem qm_X_fill_26 : decode qm_X_fill_c 26 = .ok (.invokevirtual 63, 3) := by decide +kernel
theorem qm_X_fill_29 : decode qm_X_fill_c 29 = .ok (.iinc 4 1, 3) := by decide +kernel
theorem qm_X_fill_32 : decode qm_X_fill_c 32 = .ok (.goto (-29), 3) := by decide +kernel
theorem qm_X_fill_35 : decode qm_X_fill_c 35 = .ok (.return_, 1) := by decide +kernel
theorem qm_X_look_0 : decode qm_X_look_c 0 = .ok (.aload_n 0, 1) := by decide +kernel
theorem qm_X_look_1 : decode qm_X_look_c 1 = .ok (.getfield 10, 3) := by decide +kernel
theorem qm_X_look_4 : decode qm_X_look_c 4 = .ok (.iload_n 1, 1) := by decide +kernel
theorem qm_X_look_5 : decode qm_X_look_c 5 = .ok (.invokevirtual 67, 3) := by decide +kernel
theorem qm_X_look_8 : decode qm_X_look_c 8 = .ok (.ireturn, 1) := by decide +kernel
theorem qm_X_set_0 : decode qm_X_set_c 0 = .ok (.iload_n 1, 1) := by decide +kernel
theorem qm_X_set_1 : decode qm_X_set_c 1 = .ok (.ifCond .lt 9, 3) := by decide +kernel
theorem qm_X_set_4 : decode qm_X_set_c 4 = .ok (.iload_n 1, 1) := by decide +kernel
theorem qm_X_set_5 : decode qm_X_set_c 5 = .ok (.bipush 16, 2) := by decide +kernel
theorem qm_X_set_7 : decode qm_X_set_c 7 = .ok (.if_icmp .lt 13, 3) := by decide +kernel
theorem qm_X_set_10 : decode qm_X_set_c 10 = .ok (.new 71, 3) := by decide +kernel
theorem qm_X_set_13 : decode qm_X_set_c 13 = .ok (.dup, 1) := by decide +kernel
theorem qm_X_set_14 : decode qm_X_set_c 14 = .ok (.ldc 73, 2) := by decide +kernel
theorem qm_X_set_16 : decode qm_X_set_c 16 = .ok (.invokespecial 75, 3) := by decide +kernel
theorem qm_X_set_19 : decode qm_X_set_c 19 = .ok (.athrow, 1) := by decide +kernel
theorem qm_X_set_20 : decode qm_X_set_c 20 = .ok (.aload_n 0, 1) := by decide +kernel
theorem qm_X_set_21 : decode qm_X_set_c 21 = .ok (.getfield 34, 3) := by decide +kernel
theorem qm_X_set_24 : decode qm_X_set_c 24 = .ok (.iload_n 1, 1) := by decide +kernel
theorem qm_X_set_25 : decode qm_X_set_c 25 = .ok (.iload_n 2, 1) := by decide +kernel
theorem qm_X_set_26 : decode qm_X_set_c 26 = .ok (.invokevirtual 78, 3) := by decide +kernel
theorem qm_X_set_29 : decode qm_X_set_c 29 = .ok (.return_, 1) := by decide +kernel
theorem qm_X_register_0 : decode qm_X_register_c 0 = .ok (.iload_n 1, 1) := by decide +kernel
theorem qm_X_register_1 : decode qm_X_register_c 1 = .ok (.ifCond .lt 9, 3) := by decide +kernel
theorem qm_X_register_4 : decode qm_X_register_c 4 = .ok (.iload_n 1, 1) := by decide +kernel
theorem qm_X_register_5 : decode qm_X_register_c 5 = .ok (.bipush 16, 2) := by decide +kernel
theorem qm_X_register_7 : decode qm_X_register_c 7 = .ok (.if_icmp .lt 13, 3) := by decide +kernel
theorem qm_X_register_10 : decode qm_X_register_c 10 = .ok (.new 71, 3) := by decide +kernel
theorem qm_X_register_13 : decode qm_X_register_c 13 = .ok (.dup, 1) := by decide +kernel
theorem qm_X_register_14 : decode qm_X_register_c 14 = .ok (.ldc 73, 2) := by decide +kernel
theorem qm_X_register_16 : decode qm_X_register_c 16 = .ok (.invokespecial 75, 3) := by decide +kernel
theorem qm_X_register_19 : decode qm_X_register_c 19 = .ok (.athrow, 1) := by decide +kernel
theorem qm_X_register_20 : decode qm_X_register_c 20 = .ok (.aload_n 0, 1) := by decide +kernel
theorem qm_X_register_21 : decode qm_X_register_c 21 = .ok (.getfield 34, 3) := by decide +kernel
theorem qm_X_register_24 : decode qm_X_register_c 24 = .ok (.iload_n 1, 1) := by decide +kernel
theorem qm_X_register_25 : decode qm_X_register_c 25 = .ok (.invokevirtual 81, 3) := by decide +kernel
theorem qm_X_register_28 : decode qm_X_register_c 28 = .ok (.ireturn, 1) := by decide +kernel
theorem qm_X_setInner_0 : decode qm_X_setInner_c 0 = .ok (.aload_n 0, 1) := by decide +kernel
theorem qm_X_setInner_1 : decode qm_X_setInner_c 1 = .ok (.getfield 34, 3) := by decide +kernel
theorem qm_X_setInner_4 : decode qm_X_setInner_c 4 = .ok (.iload_n 1, 1) := by decide +kernel
theorem qm_X_setInner_5 : decode qm_X_setInner_c 5 = .ok (.invokevirtual 84, 3) := by decide +kernel
theorem qm_X_setInner_8 : decode qm_X_setInner_c 8 = .ok (.ifCond .ne 13, 3) := by decide +kernel
theorem qm_X_setInner_11 : decode qm_X_setInner_c 11 = .ok (.new 71, 3) := by decide +kernel
theorem qm_X_setInner_14 : decode qm_X_setInner_c 14 = .ok (.dup, 1) := by decide +kernel
theorem qm_X_setInner_15 : decode qm_X_setInner_c 15 = .ok (.ldc 88, 2) := by decide +kernel
theorem qm_X_setInner_17 : decode qm_X_setInner_c 17 = .ok (.invokespecial 75, 3) := by decide +kernel
theorem qm_X_setInner_20 : decode qm_X_setInner_c 20 = .ok (.athrow, 1) := by decide +kernel
theorem qm_X_setInner_21 : decode qm_X_setInner_c 21 = .ok (.aload_n 0, 1) := by decide +kernel
theorem qm_X_setInner_22 : decode qm_X_setInner_c 22 = .ok (.getfield 34, 3) := by decide +kernel
theorem qm_X_setInner_25 : decode qm_X_setInner_c 25 = .ok (.iload_n 1, 1) := by decide +kernel
theorem qm_X_setInner_26 : decode qm_X_setInner_c 26 = .ok (.iload_n 1, 1) := by decide +kernel
theorem qm_X_setInner_27 : decode qm_X_setInner_c 27 = .ok (.bipush 56, 2) := by decide +kernel
theorem qm_X_setInner_29 : decode qm_X_setInner_c 29 = .ok (.if_icmp .ne 11, 3) := by decide +kernel
theorem qm_X_setInner_32 : decode qm_X_setInner_c 32 = .ok (.iload_n 2, 1) := by decide +kernel
theorem qm_X_setInner_33 : decode qm_X_setInner_c 33 = .ok (.ifCond .eq 7, 3) := by decide +kernel
theorem qm_X_setInner_36 : decode qm_X_setInner_c 36 = .ok (.iconst 1, 1) := by decide +kernel
theorem qm_X_setInner_37 : decode qm_X_setInner_c 37 = .ok (.goto 4, 3) := by decide +kernel
theorem qm_X_setInner_40 : decode qm_X_setInner_c 40 = .ok (.iload_n 2, 1) := by decide +kernel
theorem qm_X_setInner_41 : decode qm_X_setInner_c 41 = .ok (.invokevirtual 90, 3) := by decide +kernel
theorem qm_X_setInner_44 : decode qm_X_setInner_c 44 = .ok (.return_, 1) := by decide +kernel
theorem qm_X_inner_0 : decode qm_X_inner_c 0 = .ok (.aload_n 0, 1) := by decide +kernel
theorem qm_X_inner_1 : decode qm_X_inner_c 1 = .ok (.getfield 34, 3) := by decide +kernel
theorem qm_X_inner_4 : decode qm_X_inner_c 4 = .ok (.iload_n 1, 1) := by decide +kernel
theorem qm_X_inner_5 : decode qm_X_inner_c 5 = .ok (.invokevirtual 84, 3) := by decide +kernel
theorem qm_X_inner_8 : decode qm_X_inner_c 8 = .ok (.ifCond .ne 13, 3) := by decide +kernel
theorem qm_X_inner_11 : decode qm_X_inner_c 11 = .ok (.new 71, 3) := by decide +kernel
theorem qm_X_inner_14 : decode qm_X_inner_c 14 = .ok (.dup, 1) := by decide +kernel
theorem qm_X_inner_15 : decode qm_X_inner_c 15 = .ok (.ldc 88, 2) := by decide +kernel
theorem qm_X_inner_17 : decode qm_X_inner_c 17 = .ok (.invokespecial 75, 3) := by decide +kernel
theorem qm_X_inner_20 : decode qm_X_inner_c 20 = .ok (.athrow, 1) := by decide +kernel
theorem qm_X_inner_21 : decode qm_X_inner_c 21 = .ok (.aload_n 0, 1) := by decide +kernel
theorem qm_X_inner_22 : decode qm_X_inner_c 22 = .ok (.getfield 34, 3) := by decide +kernel
theorem qm_X_inner_25 : decode qm_X_inner_c 25 = .ok (.iload_n 1, 1) := by decide +kernel
theorem qm_X_inner_26 : decode qm_X_inner_c 26 = .ok (.invokevirtual 93, 3) := by decide +kernel
theorem qm_X_inner_29 : decode qm_X_inner_c 29 = .ok (.ireturn, 1) := by decide +kernel
theorem qm_X_begin_0 : decode qm_X_begin_c 0 = .ok (.iload_n 1, 1) := by decide +kernel
theorem qm_X_begin_1 : decode qm_X_begin_c 1 = .ok (.ldc 96, 2) := by decide +kernel
theorem qm_X_begin_3 : decode qm_X_begin_c 3 = .ok (.iand, 1) := by decide +kernel
theorem qm_X_begin_4 : decode qm_X_begin_c 4 = .ok (.ifCond .eq 13, 3) := by decide +kernel
theorem qm_X_begin_7 : decode qm_X_begin_c 7 = .ok (.new 97, 3) := by decide +kernel
theorem qm_X_begin_10 : decode qm_X_begin_c 10 = .ok (.dup, 1) := by decide +kernel
theorem qm_X_begin_11 : decode qm_X_begin_c 11 = .ok (.ldc 99, 2) := by decide +kernel
theorem qm_X_begin_13 : decode qm_X_begin_c 13 = .ok (.invokespecial 101, 3) := by decide +kernel
theorem qm_X_begin_16 : decode qm_X_begin_c 16 = .ok (.athrow, 1) := by decide +kernel
theorem qm_X_begin_17 : decode qm_X_begin_c 17 = .ok (.aload_n 0, 1) := by decide +kernel
theorem qm_X_begin_18 : decode qm_X_begin_c 18 = .ok (.getfield 34, 3) := by decide +kernel
theorem qm_X_begin_21 : decode qm_X_begin_c 21 = .ok (.iload_n 1, 1) := by decide +kernel
theorem qm_X_begin_22 : decode qm_X_begin_c 22 = .ok (.putfield 102, 3) := by decide +kernel
theorem qm_X_begin_25 : decode qm_X_begin_c 25 = .ok (.aload_n 0, 1) := by decide +kernel
theorem qm_X_begin_26 : decode qm_X_begin_c 26 = .ok (.iconst 0, 1) := by decide +kernel
theorem qm_X_begin_27 : decode qm_X_begin_c 27 = .ok (.putfield 106, 3) := by decide +kernel
theorem qm_X_begin_30 : decode qm_X_begin_c 30 = .ok (.return_, 1) := by decide +kernel
theorem qm_X_status_0 : decode qm_X_status_c 0 = .ok (.aload_n 0, 1) := by decide +kernel
theorem qm_X_status_1 : decode qm_X_status_c 1 = .ok (.getfield 34, 3) := by decide +kernel
theorem qm_X_status_4 : decode qm_X_status_c 4 = .ok (.getfield 102, 3) := by decide +kernel
theorem qm_X_status_7 : decode qm_X_status_c 7 = .ok (.ireturn, 1) := by decide +kernel
theorem qm_X_except_0 : decode qm_X_except_c 0 = .ok (.aload_n 0, 1) := by decide +kernel
theorem qm_X_except_1 : decode qm_X_except_c 1 = .ok (.iload_n 1, 1) := by decide +kernel
theorem qm_X_except_2 : decode qm_X_except_c 2 = .ok (.putfield 128, 3) := by decide +kernel
theorem qm_X_except_5 : decode qm_X_except_c 5 = .ok (.aload_n 0, 1) := by decide +kernel
theorem qm_X_except_6 : decode qm_X_except_c 6 = .ok (.dup, 1) := by decide +kernel
theorem qm_X_except_7 : decode qm_X_except_c 7 = .ok (.getfield 131, 3) := by decide +kernel
theorem qm_X_except_10 : decode qm_X_except_c 10 = .ok (.iconst 1, 1) := by decide +kernel
theorem qm_X_except_11 : decode qm_X_except_c 11 = .ok (.iadd, 1) := by decide +kernel
theorem qm_X_except_12 : decode qm_X_except_c 12 = .ok (.putfield 131, 3) := by decide +kernel
theorem qm_X_except_15 : decode qm_X_except_c 15 = .ok (.aload_n 0, 1) := by decide +kernel
theorem qm_X_except_16 : decode qm_X_except_c 16 = .ok (.getfield 34, 3) := by decide +kernel
theorem qm_X_except_19 : decode qm_X_except_c 19 = .ok (.iconst 0, 1) := by decide +kernel
theorem qm_X_except_20 : decode qm_X_except_c 20 = .ok (.putfield 157, 3) := by decide +kernel
theorem qm_X_except_23 : decode qm_X_except_c 23 = .ok (.aload_n 0, 1) := by decide +kernel
theorem qm_X_except_24 : decode qm_X_except_c 24 = .ok (.getfield 34, 3) := by decide +kernel
theorem qm_X_except_27 : decode qm_X_except_c 27 = .ok (.getfield 102, 3) := by decide +kernel
theorem qm_X_except_30 : decode qm_X_except_c 30 = .ok (.istore 6, 2) := by decide +kernel
theorem qm_X_except_32 : decode qm_X_except_c 32 = .ok (.aload_n 0, 1) := by decide +kernel
theorem qm_X_except_33 : decode qm_X_except_c 33 = .ok (.getfield 34, 3) := by decide +kernel
theorem qm_X_except_36 : decode qm_X_except_c 36 = .ok (.invokevirtual 187, 3) := by decide +kernel
theorem qm_X_except_39 : decode qm_X_except_c 39 = .ok (.istore 7, 2) := by decide +kernel
theorem qm_X_except_41 : decode qm_X_except_c 41 = .ok (.aload_n 0, 1) := by decide +kernel
theorem qm_X_except_42 : decode qm_X_except_c 42 = .ok (.getfield 34, 3) := by decide +kernel
theorem qm_X_except_45 : decode qm_X_except_c 45 = .ok (.iload_n 2, 1) := by decide +kernel
theorem qm_X_except_46 : decode qm_X_except_c 46 = .ok (.bipush 24, 2) := by decide +kernel
theorem qm_X_except_48 : decode qm_X_except_c 48 = .ok (.ishl, 1) := by decide +kernel
theorem qm_X_except_49 : decode qm_X_except_c 49 = .ok (.iload 7, 2) := by decide +kernel
theorem qm_X_except_51 : decode qm_X_except_c 51 = .ok (.bipush 22, 2) := by decide +kernel
theorem qm_X_except_53 : decode qm_X_except_c 53 = .ok (.ishl, 1) := by decide +kernel
theorem qm_X_except_54 : decode qm_X_except_c 54 = .ok (.ior, 1) := by decide +kernel
theorem qm_X_except_55 : decode qm_X_except_c 55 = .ok (.putfield 102, 3) := by decide +kernel
theorem qm_X_except_58 : decode qm_X_except_c 58 = .ok (.aload_n 0, 1) := by decide +kernel
theorem qm_X_except_59 : decode qm_X_except_c 59 = .ok (.getfield 34, 3) := by decide +kernel
theorem qm_X_except_62 : decode qm_X_except_c 62 = .ok (.iload 6, 2) := by decide +kernel
theorem qm_X_except_64 : decode qm_X_except_c 64 = .ok (.invokevirtual 202, 3) := by decide +kernel
theorem qm_X_except_67 : decode qm_X_except_c 67 = .ok (.aload_n 0, 1) := by decide +kernel
theorem qm_X_except_68 : decode qm_X_except_c 68 = .ok (.getfield 34, 3) := by decide +kernel
theorem qm_X_except_71 : decode qm_X_except_c 71 = .ok (.aload_n 0, 1) := by decide +kernel
theorem qm_X_except_72 : decode qm_X_except_c 72 = .ok (.getfield 34, 3) := by decide +kernel
theorem qm_X_except_75 : decode qm_X_except_c 75 = .ok (.bipush 15, 2) := by decide +kernel
theorem qm_X_except_77 : decode qm_X_except_c 77 = .ok (.invokevirtual 81, 3) := by decide +kernel
theorem qm_X_except_80 : decode qm_X_except_c 80 = .ok (.invokevirtual 202, 3) := by decide +kernel
theorem qm_X_except_83 : decode qm_X_except_c 83 = .ok (.iload_n 3, 1) := by decide +kernel
theorem qm_X_except_84 : decode qm_X_except_c 84 = .ok (.ifCond .le 12, 3) := by decide +kernel
theorem qm_X_except_87 : decode qm_X_except_c 87 = .ok (.aload_n 0, 1) := by decide +kernel
theorem qm_X_except_88 : decode qm_X_except_c 88 = .ok (.getfield 34, 3) := by decide +kernel
theorem qm_X_except_91 : decode qm_X_except_c 91 = .ok (.iload 4, 2) := by decide +kernel
theorem qm_X_except_93 : decode qm_X_except_c 93 = .ok (.invokevirtual 202, 3) := by decide +kernel
theorem qm_X_except_96 : decode qm_X_except_c 96 = .ok (.iload_n 3, 1) := by decide +kernel
theorem qm_X_except_97 : decode qm_X_except_c 97 = .ok (.iconst 1, 1) := by decide +kernel
theorem qm_X_except_98 : decode qm_X_except_c 98 = .ok (.if_icmp .le 12, 3) := by decide +kernel
theorem qm_X_except_101 : decode qm_X_except_c 101 = .ok (.aload_n 0, 1) := by decide +kernel
theorem qm_X_except_102 : decode qm_X_except_c 102 = .ok (.getfield 34, 3) := by decide +kernel
theorem qm_X_except_105 : decode qm_X_except_c 105 = .ok (.iload 5, 2) := by decide +kernel
theorem qm_X_except_107 : decode qm_X_except_c 107 = .ok (.invokevirtual 202, 3) := by decide +kernel
theorem qm_X_except_110 : decode qm_X_except_c 110 = .ok (.aload_n 0, 1) := by decide +kernel
theorem qm_X_except_111 : decode qm_X_except_c 111 = .ok (.getfield 34, 3) := by decide +kernel
theorem qm_X_except_114 : decode qm_X_except_c 114 = .ok (.getfield 157, 3) := by decide +kernel
theorem qm_X_except_117 : decode qm_X_except_c 117 = .ok (.ifCond .eq 16, 3) := by decide +kernel
theorem qm_X_except_120 : decode qm_X_except_c 120 = .ok (.aload_n 0, 1) := by decide +kernel
theorem qm_X_except_121 : decode qm_X_except_c 121 = .ok (.getfield 34, 3) := by decide +kernel
theorem qm_X_except_124 : decode qm_X_except_c 124 = .ok (.invokevirtual 174, 3) := by decide +kernel
theorem qm_X_except_127 : decode qm_X_except_c 127 = .ok (.aload_n 0, 1) := by decide +kernel
theorem qm_X_except_128 : decode qm_X_except_c 128 = .ok (.iconst 2, 1) := by decide +kernel
theorem qm_X_except_129 : decode qm_X_except_c 129 = .ok (.putfield 106, 3) := by decide +kernel
theorem qm_X_except_132 : decode qm_X_except_c 132 = .ok (.return_, 1) := by decide +kernel
theorem qm_X_except_133 : decode qm_X_except_c 133 = .ok (.aload_n 0, 1) := by decide +kernel
theorem qm_X_except_134 : decode qm_X_except_c 134 = .ok (.getfield 34, 3) := by decide +kernel
theorem qm_X_except_137 : decode qm_X_except_c 137 = .ok (.bipush 15, 2) := by decide +kernel
theorem qm_X_except_139 : decode qm_X_except_c 139 = .ok (.aload_n 0, 1) := by decide +kernel
theorem qm_X_except_140 : decode qm_X_except_c 140 = .ok (.getfield 10, 3) := by decide +kernel
theorem qm_X_except_143 : decode qm_X_except_c 143 = .ok (.aload_n 0, 1) := by decide +kernel
theorem qm_X_except_144 : decode qm_X_except_c 144 = .ok (.getfield 16, 3) := by decide +kernel
theorem qm_X_except_147 : decode qm_X_except_c 147 = .ok (.bipush 17, 2) := by decide +kernel
theorem qm_X_except_149 : decode qm_X_except_c 149 = .ok (.iaload, 1) := by decide +kernel
theorem qm_X_except_150 : decode qm_X_except_c 150 = .ok (.iconst 4, 1) := by decide +kernel
theorem qm_X_except_151 : decode qm_X_except_c 151 = .ok (.iload_n 1, 1) := by decide +kernel
theorem qm_X_except_152 : decode qm_X_except_c 152 = .ok (.imul, 1) := by decide +kernel
theorem qm_X_except_153 : decode qm_X_except_c 153 = .ok (.iadd, 1) := by decide +kernel
theorem qm_X_except_154 : decode qm_X_except_c 154 = .ok (.invokevirtual 67, 3) := by decide +kernel
theorem qm_X_except_157 : decode qm_X_except_c 157 = .ok (.invokevirtual 78, 3) := by decide +kernel
theorem qm_X_except_160 : decode qm_X_except_c 160 = .ok (.return_, 1) := by decide +kernel
theorem qm_X_settle_0 : decode qm_X_settle_c 0 = .ok (.aload_n 0, 1) := by decide +kernel
theorem qm_X_settle_1 : decode qm_X_settle_c 1 = .ok (.getfield 34, 3) := by decide +kernel
theorem qm_X_settle_4 : decode qm_X_settle_c 4 = .ok (.getfield 157, 3) := by decide +kernel
theorem qm_X_settle_7 : decode qm_X_settle_c 7 = .ok (.ifCond .eq 76, 3) := by decide +kernel
theorem qm_X_settle_10 : decode qm_X_settle_c 10 = .ok (.aload_n 0, 1) := by decide +kernel
theorem qm_X_settle_11 : decode qm_X_settle_c 11 = .ok (.getfield 34, 3) := by decide +kernel
theorem qm_X_settle_14 : decode qm_X_settle_c 14 = .ok (.invokevirtual 174, 3) := by decide +kernel
theorem qm_X_settle_17 : decode qm_X_settle_c 17 = .ok (.aload_n 0, 1) := by decide +kernel
theorem qm_X_settle_18 : decode qm_X_settle_c 18 = .ok (.getfield 34, 3) := by decide +kernel
theorem qm_X_settle_21 : decode qm_X_settle_c 21 = .ok (.getfield 157, 3) := by decide +kernel
theorem qm_X_settle_24 : decode qm_X_settle_c 24 = .ok (.iconst 4, 1) := by decide +kernel
theorem qm_X_settle_25 : decode qm_X_settle_c 25 = .ok (.if_icmp .eq 14, 3) := by decide +kernel
theorem qm_X_settle_28 : decode qm_X_settle_c 28 = .ok (.aload_n 0, 1) := by decide +kernel
theorem qm_X_settle_29 : decode qm_X_settle_c 29 = .ok (.getfield 34, 3) := by decide +kernel
theorem qm_X_settle_32 : decode qm_X_settle_c 32 = .ok (.getfield 157, 3) := by decide +kernel
theorem qm_X_settle_35 : decode qm_X_settle_c 35 = .ok (.iconst 5, 1) := by decide +kernel
theorem qm_X_settle_36 : decode qm_X_settle_c 36 = .ok (.if_icmp .ne 7, 3) := by decide +kernel
theorem qm_X_settle_39 : decode qm_X_settle_c 39 = .ok (.iconst 1, 1) := by decide +kernel
theorem qm_X_settle_40 : decode qm_X_settle_c 40 = .ok (.goto 4, 3) := by decide +kernel
theorem qm_X_settle_43 : decode qm_X_settle_c 43 = .ok (.iconst 0, 1) := by decide +kernel
theorem qm_X_settle_44 : decode qm_X_settle_c 44 = .ok (.istore_n 2, 1) := by decide +kernel
theorem qm_X_settle_45 : decode qm_X_settle_c 45 = .ok (.aload_n 0, 1) := by decide +kernel
theorem qm_X_settle_46 : decode qm_X_settle_c 46 = .ok (.aload_n 0, 1) := by decide +kernel
theorem qm_X_settle_47 : decode qm_X_settle_c 47 = .ok (.getfield 34, 3) := by decide +kernel
theorem qm_X_settle_50 : decode qm_X_settle_c 50 = .ok (.getfield 157, 3) := by decide +kernel
theorem qm_X_settle_53 : decode qm_X_settle_c 53 = .ok (.iconst 0, 1) := by decide +kernel
theorem qm_X_settle_54 : decode qm_X_settle_c 54 = .ok (.iload_n 2, 1) := by decide +kernel
theorem qm_X_settle_55 : decode qm_X_settle_c 55 = .ok (.ifCond .eq 7, 3) := by decide +kernel
theorem qm_X_settle_58 : decode qm_X_settle_c 58 = .ok (.iconst 2, 1) := by decide +kernel
theorem qm_X_settle_59 : decode qm_X_settle_c 59 = .ok (.goto 4, 3) := by decide +kernel
theorem qm_X_settle_62 : decode qm_X_settle_c 62 = .ok (.iconst 0, 1) := by decide +kernel
theorem qm_X_settle_63 : decode qm_X_settle_c 63 = .ok (.aload_n 0, 1) := by decide +kernel
theorem qm_X_settle_64 : decode qm_X_settle_c 64 = .ok (.getfield 34, 3) := by decide +kernel
theorem qm_X_settle_67 : decode qm_X_settle_c 67 = .ok (.getfield 177, 3) := by decide +kernel
theorem qm_X_settle_70 : decode qm_X_settle_c 70 = .ok (.aload_n 0, 1) := by decide +kernel
theorem qm_X_settle_71 : decode qm_X_settle_c 71 = .ok (.getfield 34, 3) := by decide +kernel
theorem qm_X_settle_74 : decode qm_X_settle_c 74 = .ok (.getfield 180, 3) := by decide +kernel
theorem qm_X_settle_77 : decode qm_X_settle_c 77 = .ok (.invokevirtual 183, 3) := by decide +kernel
theorem qm_X_settle_80 : decode qm_X_settle_c 80 = .ok (.goto 91, 3) := by decide +kernel
theorem qm_X_settle_83 : decode qm_X_settle_c 83 = .ok (.iload_n 1, 1) := by decide +kernel
theorem qm_X_settle_84 : decode qm_X_settle_c 84 = .ok (.ifCond .ne 11, 3) := by decide +kernel
theorem qm_X_settle_87 : decode qm_X_settle_c 87 = .ok (.aload_n 0, 1) := by decide +kernel
theorem qm_X_settle_88 : decode qm_X_settle_c 88 = .ok (.iconst 1, 1) := by decide +kernel
theorem qm_X_settle_89 : decode qm_X_settle_c 89 = .ok (.putfield 106, 3) := by decide +kernel
theorem qm_X_settle_92 : decode qm_X_settle_c 92 = .ok (.goto 79, 3) := by decide +kernel
theorem qm_X_settle_95 : decode qm_X_settle_c 95 = .ok (.iload_n 1, 1) := by decide +kernel
theorem qm_X_settle_96 : decode qm_X_settle_c 96 = .ok (.bipush 6, 2) := by decide +kernel
theorem qm_X_settle_98 : decode qm_X_settle_c 98 = .ok (.if_icmp .lt 47, 3) := by decide +kernel
theorem qm_X_settle_101 : decode qm_X_settle_c 101 = .ok (.iload_n 1, 1) := by decide +kernel
theorem qm_X_settle_102 : decode qm_X_settle_c 102 = .ok (.bipush 9, 2) := by decide +kernel
theorem qm_X_settle_104 : decode qm_X_settle_c 104 = .ok (.if_icmp .gt 41, 3) := by decide +kernel
theorem qm_X_settle_107 : decode qm_X_settle_c 107 = .ok (.iload_n 1, 1) := by decide +kernel
theorem qm_X_settle_108 : decode qm_X_settle_c 108 = .ok (.bipush 6, 2) := by decide +kernel
theorem qm_X_settle_110 : decode qm_X_settle_c 110 = .ok (.isub, 1) := by decide +kernel
theorem qm_X_settle_111 : decode qm_X_settle_c 111 = .ok (.istore_n 2, 1) := by decide +kernel
theorem qm_X_settle_112 : decode qm_X_settle_c 112 = .ok (.aload_n 0, 1) := by decide +kernel
theorem qm_X_settle_113 : decode qm_X_settle_c 113 = .ok (.bipush 8, 2) := by decide +kernel
theorem qm_X_settle_115 : decode qm_X_settle_c 115 = .ok (.iload_n 2, 1) := by decide +kernel
theorem qm_X_settle_116 : decode qm_X_settle_c 116 = .ok (.iadd, 1) := by decide +kernel
theorem qm_X_settle_117 : decode qm_X_settle_c 117 = .ok (.iload_n 2, 1) := by decide +kernel
theorem qm_X_settle_118 : decode qm_X_settle_c 118 = .ok (.aload_n 0, 1) := by decide +kernel
theorem qm_X_settle_119 : decode qm_X_settle_c 119 = .ok (.getfield 34, 3) := by decide +kernel
theorem qm_X_settle_122 : decode qm_X_settle_c 122 = .ok (.invokevirtual 187, 3) := by decide +kernel
theorem qm_X_settle_125 : decode qm_X_settle_c 125 = .ok (.invokestatic 190, 3) := by decide +kernel
theorem qm_X_settle_128 : decode qm_X_settle_c 128 = .ok (.iconst 1, 1) := by decide +kernel
theorem qm_X_settle_129 : decode qm_X_settle_c 129 = .ok (.aload_n 0, 1) := by decide +kernel
theorem qm_X_settle_130 : decode qm_X_settle_c 130 = .ok (.getfield 41, 3) := by decide +kernel
theorem qm_X_settle_133 : decode qm_X_settle_c 133 = .ok (.iconst 0, 1) := by decide +kernel
theorem qm_X_settle_134 : decode qm_X_settle_c 134 = .ok (.aaload, 1) := by decide +kernel
theorem qm_X_settle_135 : decode qm_X_settle_c 135 = .ok (.getfield 196, 3) := by decide +kernel
theorem qm_X_settle_138 : decode qm_X_settle_c 138 = .ok (.iconst 0, 1) := by decide +kernel
theorem qm_X_settle_139 : decode qm_X_settle_c 139 = .ok (.invokevirtual 183, 3) := by decide +kernel
theorem qm_X_settle_142 : decode qm_X_settle_c 142 = .ok (.goto 29, 3) := by decide +kernel
theorem qm_X_settle_145 : decode qm_X_settle_c 145 = .ok (.aload_n 0, 1) := by decide +kernel
theorem qm_X_settle_146 : decode qm_X_settle_c 146 = .ok (.getfield 34, 3) := by decide +kernel
theorem qm_X_settle_149 : decode qm_X_settle_c 149 = .ok (.getfield 199, 3) := by decide +kernel
theorem qm_X_settle_152 : decode qm_X_settle_c 152 = .ok (.ifCond .eq 19, 3) := by decide +kernel
theorem qm_X_settle_155 : decode qm_X_settle_c 155 = .ok (.aload_n 0, 1) := by decide +kernel
theorem qm_X_settle_156 : decode qm_X_settle_c 156 = .ok (.bipush 7, 2) := by decide +kernel
theorem qm_X_settle_158 : decode qm_X_settle_c 158 = .ok (.iconst 0, 1) := by decide +kernel
theorem qm_X_settle_159 : decode qm_X_settle_c 159 = .ok (.iconst 1, 1) := by decide +kernel
theorem qm_X_settle_160 : decode qm_X_settle_c 160 = .ok (.aload_n 0, 1) := by decide +kernel
theorem qm_X_settle_161 : decode qm_X_settle_c 161 = .ok (.getfield 34, 3) := by decide +kernel
theorem qm_X_settle_164 : decode qm_X_settle_c 164 = .ok (.getfield 199, 3) := by decide +kernel
theorem qm_X_settle_167 : decode qm_X_settle_c 167 = .ok (.iconst 0, 1) := by decide +kernel
theorem qm_X_settle_168 : decode qm_X_settle_c 168 = .ok (.invokevirtual 183, 3) := by decide +kernel
theorem qm_X_settle_171 : decode qm_X_settle_c 171 = .ok (.return_, 1) := by decide +kernel
theorem qm_X_step_0 : decode qm_X_step_c 0 = .ok (.aload_n 0, 1) := by decide +kernel
theorem qm_X_step_1 : decode qm_X_step_c 1 = .ok (.getfield 34, 3) := by decide +kernel
theorem qm_X_step_4 : decode qm_X_step_c 4 = .ok (.invokevirtual 134, 3) := by decide +kernel
theorem qm_X_step_7 : decode qm_X_step_c 7 = .ok (.aload_n 0, 1) := by decide +kernel
theorem qm_X_step_8 : decode qm_X_step_c 8 = .ok (.getfield 34, 3) := by decide +kernel
theorem qm_X_step_11 : decode qm_X_step_c 11 = .ok (.iconst 1, 1) := by decide +kernel
theorem qm_X_step_12 : decode qm_X_step_c 12 = .ok (.invokevirtual 137, 3) := by decide +kernel
theorem qm_X_step_15 : decode qm_X_step_c 15 = .ok (.istore_n 1, 1) := by decide +kernel
theorem qm_X_step_16 : decode qm_X_step_c 16 = .ok (.aload_n 0, 1) := by decide +kernel
theorem qm_X_step_17 : decode qm_X_step_c 17 = .ok (.getfield 59, 3) := by decide +kernel
theorem qm_X_step_20 : decode qm_X_step_c 20 = .ok (.iload_n 1, 1) := by decide +kernel
theorem qm_X_step_21 : decode qm_X_step_c 21 = .ok (.invokevirtual 140, 3) := by decide +kernel
theorem qm_X_step_24 : decode qm_X_step_c 24 = .ok (.ifCond .ne 11, 3) := by decide +kernel
theorem qm_X_step_27 : decode qm_X_step_c 27 = .ok (.aload_n 0, 1) := by decide +kernel
theorem qm_X_step_28 : decode qm_X_step_c 28 = .ok (.getfield 34, 3) := by decide +kernel
theorem qm_X_step_31 : decode qm_X_step_c 31 = .ok (.iconst 1, 1) := by decide +kernel
theorem qm_X_step_32 : decode qm_X_step_c 32 = .ok (.invokevirtual 143, 3) := by decide +kernel
theorem qm_X_step_35 : decode qm_X_step_c 35 = .ok (.aload_n 0, 1) := by decide +kernel
theorem qm_X_step_36 : decode qm_X_step_c 36 = .ok (.getfield 59, 3) := by decide +kernel
theorem qm_X_step_39 : decode qm_X_step_c 39 = .ok (.iload_n 1, 1) := by decide +kernel
theorem qm_X_step_40 : decode qm_X_step_c 40 = .ok (.invokevirtual 147, 3) := by decide +kernel
theorem qm_X_step_43 : decode qm_X_step_c 43 = .ok (.astore_n 2, 1) := by decide +kernel
theorem qm_X_step_44 : decode qm_X_step_c 44 = .ok (.iconst 0, 1) := by decide +kernel
theorem qm_X_step_45 : decode qm_X_step_c 45 = .ok (.istore_n 3, 1) := by decide +kernel
theorem qm_X_step_46 : decode qm_X_step_c 46 = .ok (.iload_n 3, 1) := by decide +kernel
theorem qm_X_step_47 : decode qm_X_step_c 47 = .ok (.aload_n 2, 1) := by decide +kernel
theorem qm_X_step_48 : decode qm_X_step_c 48 = .ok (.invokevirtual 151, 3) := by decide +kernel
theorem qm_X_step_51 : decode qm_X_step_c 51 = .ok (.if_icmp .ge 46, 3) := by decide +kernel
theorem qm_X_step_54 : decode qm_X_step_c 54 = .ok (.iload_n 3, 1) := by decide +kernel
theorem qm_X_step_55 : decode qm_X_step_c 55 = .ok (.aload_n 0, 1) := by decide +kernel
theorem qm_X_step_56 : decode qm_X_step_c 56 = .ok (.getfield 41, 3) := by decide +kernel
theorem qm_X_step_59 : decode qm_X_step_c 59 = .ok (.arraylength, 1) := by decide +kernel
theorem qm_X_step_60 : decode qm_X_step_c 60 = .ok (.if_icmp .ge 37, 3) := by decide +kernel
theorem qm_X_step_63 : decode qm_X_step_c 63 = .ok (.aload_n 0, 1) := by decide +kernel
theorem qm_X_step_64 : decode qm_X_step_c 64 = .ok (.getfield 34, 3) := by decide +kernel
theorem qm_X_step_67 : decode qm_X_step_c 67 = .ok (.getfield 157, 3) := by decide +kernel
theorem qm_X_step_70 : decode qm_X_step_c 70 = .ok (.ifCond .ne 27, 3) := by decide +kernel
theorem qm_X_step_73 : decode qm_X_step_c 73 = .ok (.aload_n 0, 1) := by decide +kernel
theorem qm_X_step_74 : decode qm_X_step_c 74 = .ok (.getfield 50, 3) := by decide +kernel
theorem qm_X_step_77 : decode qm_X_step_c 77 = .ok (.aload_n 0, 1) := by decide +kernel
theorem qm_X_step_78 : decode qm_X_step_c 78 = .ok (.getfield 41, 3) := by decide +kernel
theorem qm_X_step_81 : decode qm_X_step_c 81 = .ok (.iload_n 3, 1) := by decide +kernel
theorem qm_X_step_82 : decode qm_X_step_c 82 = .ok (.aaload, 1) := by decide +kernel
theorem qm_X_step_83 : decode qm_X_step_c 83 = .ok (.aload_n 2, 1) := by decide +kernel
theorem qm_X_step_84 : decode qm_X_step_c 84 = .ok (.iload_n 3, 1) := by decide +kernel
theorem qm_X_step_85 : decode qm_X_step_c 85 = .ok (.invokevirtual 160, 3) := by decide +kernel
theorem qm_X_step_88 : decode qm_X_step_c 88 = .ok (.invokevirtual 164, 3) := by decide +kernel
theorem qm_X_step_91 : decode qm_X_step_c 91 = .ok (.iinc 3 1, 3) := by decide +kernel
theorem qm_X_step_94 : decode qm_X_step_c 94 = .ok (.goto (-48), 3) := by decide +kernel
theorem qm_X_step_97 : decode qm_X_step_c 97 = .ok (.aload_n 0, 1) := by decide +kernel
theorem qm_X_step_98 : decode qm_X_step_c 98 = .ok (.getfield 34, 3) := by decide +kernel
theorem qm_X_step_101 : decode qm_X_step_c 101 = .ok (.getfield 157, 3) := by decide +kernel
theorem qm_X_step_104 : decode qm_X_step_c 104 = .ok (.ifCond .ne 11, 3) := by decide +kernel
theorem qm_X_step_107 : decode qm_X_step_c 107 = .ok (.aload_n 0, 1) := by decide +kernel
theorem qm_X_step_108 : decode qm_X_step_c 108 = .ok (.getfield 59, 3) := by decide +kernel
theorem qm_X_step_111 : decode qm_X_step_c 111 = .ok (.iload_n 1, 1) := by decide +kernel
theorem qm_X_step_112 : decode qm_X_step_c 112 = .ok (.invokevirtual 168, 3) := by decide +kernel
theorem qm_X_step_115 : decode qm_X_step_c 115 = .ok (.aload_n 0, 1) := by decide +kernel
theorem qm_X_step_116 : decode qm_X_step_c 116 = .ok (.iload_n 1, 1) := by decide +kernel
theorem qm_X_step_117 : decode qm_X_step_c 117 = .ok (.invokevirtual 171, 3) := by decide +kernel
theorem qm_X_step_120 : decode qm_X_step_c 120 = .ok (.return_, 1) := by decide +kernel
theorem qm_X_run_0 : decode qm_X_run_c 0 = .ok (.iload_n 1, 1) := by decide +kernel
theorem qm_X_run_1 : decode qm_X_run_c 1 = .ok (.iconst 1, 1) := by decide +kernel
theorem qm_X_run_2 : decode qm_X_run_c 2 = .ok (.if_icmp .lt 10, 3) := by decide +kernel
theorem qm_X_run_5 : decode qm_X_run_c 5 = .ok (.iload_n 1, 1) := by decide +kernel
theorem qm_X_run_6 : decode qm_X_run_c 6 = .ok (.sipush 200, 3) := by decide +kernel
theorem qm_X_run_9 : decode qm_X_run_c 9 = .ok (.if_icmp .le 13, 3) := by decide +kernel
theorem qm_X_run_12 : decode qm_X_run_c 12 = .ok (.new 97, 3) := by decide +kernel
theorem qm_X_run_15 : decode qm_X_run_c 15 = .ok (.dup, 1) := by decide +kernel
theorem qm_X_run_16 : decode qm_X_run_c 16 = .ok (.ldc 109, 2) := by decide +kernel
theorem qm_X_run_18 : decode qm_X_run_c 18 = .ok (.invokespecial 101, 3) := by decide +kernel
theorem qm_X_run_21 : decode qm_X_run_c 21 = .ok (.athrow, 1) := by decide +kernel
theorem qm_X_run_22 : decode qm_X_run_c 22 = .ok (.aload_n 0, 1) := by decide +kernel
theorem qm_X_run_23 : decode qm_X_run_c 23 = .ok (.getfield 106, 3) := by decide +kernel
theorem qm_X_run_26 : decode qm_X_run_c 26 = .ok (.ifCond .eq 13, 3) := by decide +kernel
theorem qm_X_run_29 : decode qm_X_run_c 29 = .ok (.new 111, 3) := by decide +kernel
theorem qm_X_run_32 : decode qm_X_run_c 32 = .ok (.dup, 1) := by decide +kernel
theorem qm_X_run_33 : decode qm_X_run_c 33 = .ok (.ldc 113, 2) := by decide +kernel
theorem qm_X_run_35 : decode qm_X_run_c 35 = .ok (.invokespecial 115, 3) := by decide +kernel
theorem qm_X_run_38 : decode qm_X_run_c 38 = .ok (.athrow, 1) := by decide +kernel
theorem qm_X_run_39 : decode qm_X_run_c 39 = .ok (.iconst 0, 1) := by decide +kernel
theorem qm_X_run_40 : decode qm_X_run_c 40 = .ok (.istore_n 2, 1) := by decide +kernel
theorem qm_X_run_41 : decode qm_X_run_c 41 = .ok (.iload_n 2, 1) := by decide +kernel
theorem qm_X_run_42 : decode qm_X_run_c 42 = .ok (.iload_n 1, 1) := by decide +kernel
theorem qm_X_run_43 : decode qm_X_run_c 43 = .ok (.if_icmp .ge 20, 3) := by decide +kernel
theorem qm_X_run_46 : decode qm_X_run_c 46 = .ok (.aload_n 0, 1) := by decide +kernel
theorem qm_X_run_47 : decode qm_X_run_c 47 = .ok (.getfield 106, 3) := by decide +kernel
theorem qm_X_run_50 : decode qm_X_run_c 50 = .ok (.ifCond .ne 13, 3) := by decide +kernel
theorem qm_X_run_53 : decode qm_X_run_c 53 = .ok (.aload_n 0, 1) := by decide +kernel
theorem qm_X_run_54 : decode qm_X_run_c 54 = .ok (.invokevirtual 116, 3) := by decide +kernel
theorem qm_X_run_57 : decode qm_X_run_c 57 = .ok (.iinc 2 1, 3) := by decide +kernel
theorem qm_X_run_60 : decode qm_X_run_c 60 = .ok (.goto (-19), 3) := by decide +kernel
theorem qm_X_run_63 : decode qm_X_run_c 63 = .ok (.aload_n 0, 1) := by decide +kernel
theorem qm_X_run_64 : decode qm_X_run_c 64 = .ok (.dup, 1) := by decide +kernel
theorem qm_X_run_65 : decode qm_X_run_c 65 = .ok (.getfield 119, 3) := by decide +kernel
theorem qm_X_run_68 : decode qm_X_run_c 68 = .ok (.iload_n 2, 1) := by decide +kernel
theorem qm_X_run_69 : decode qm_X_run_c 69 = .ok (.iadd, 1) := by decide +kernel
theorem qm_X_run_70 : decode qm_X_run_c 70 = .ok (.putfield 119, 3) := by decide +kernel
theorem qm_X_run_73 : decode qm_X_run_c 73 = .ok (.iload_n 2, 1) := by decide +kernel
theorem qm_X_run_74 : decode qm_X_run_c 74 = .ok (.ireturn, 1) := by decide +kernel
theorem qm_X_reach_0 : decode qm_X_reach_c 0 = .ok (.iload_n 3, 1) := by decide +kernel
theorem qm_X_reach_1 : decode qm_X_reach_c 1 = .ok (.ifCond .lt 8, 3) := by decide +kernel
theorem qm_X_reach_4 : decode qm_X_reach_c 4 = .ok (.iload_n 3, 1) := by decide +kernel
theorem qm_X_reach_5 : decode qm_X_reach_c 5 = .ok (.iconst 4, 1) := by decide +kernel
theorem qm_X_reach_6 : decode qm_X_reach_c 6 = .ok (.if_icmp .lt 13, 3) := by decide +kernel
theorem qm_X_reach_9 : decode qm_X_reach_c 9 = .ok (.new 97, 3) := by decide +kernel
theorem qm_X_reach_12 : decode qm_X_reach_c 12 = .ok (.dup, 1) := by decide +kernel
theorem qm_X_reach_13 : decode qm_X_reach_c 13 = .ok (.ldc 122, 2) := by decide +kernel
theorem qm_X_reach_15 : decode qm_X_reach_c 15 = .ok (.invokespecial 101, 3) := by decide +kernel
theorem qm_X_reach_18 : decode qm_X_reach_c 18 = .ok (.athrow, 1) := by decide +kernel
theorem qm_X_reach_19 : decode qm_X_reach_c 19 = .ok (.aload_n 0, 1) := by decide +kernel
theorem qm_X_reach_20 : decode qm_X_reach_c 20 = .ok (.getfield 25, 3) := by decide +kernel
theorem qm_X_reach_23 : decode qm_X_reach_c 23 = .ok (.iload_n 1, 1) := by decide +kernel
theorem qm_X_reach_24 : decode qm_X_reach_c 24 = .ok (.iload_n 2, 1) := by decide +kernel
theorem qm_X_reach_25 : decode qm_X_reach_c 25 = .ok (.iload_n 3, 1) := by decide +kernel
theorem qm_X_reach_26 : decode qm_X_reach_c 26 = .ok (.invokevirtual 124, 3) := by decide +kernel
theorem qm_X_reach_29 : decode qm_X_reach_c 29 = .ok (.ireturn, 1) := by decide +kernel
theorem qm_X_state_0 : decode qm_X_state_c 0 = .ok (.iload_n 1, 1) := by decide +kernel
theorem qm_X_state_1 : decode qm_X_state_c 1 = .ok (.tableswitch 51 0 3 #[31, 36, 41, 46], 31) := by decide +kernel
theorem qm_X_state_32 : decode qm_X_state_c 32 = .ok (.aload_n 0, 1) := by decide +kernel
theorem qm_X_state_33 : decode qm_X_state_c 33 = .ok (.getfield 106, 3) := by decide +kernel
theorem qm_X_state_36 : decode qm_X_state_c 36 = .ok (.ireturn, 1) := by decide +kernel
theorem qm_X_state_37 : decode qm_X_state_c 37 = .ok (.aload_n 0, 1) := by decide +kernel
theorem qm_X_state_38 : decode qm_X_state_c 38 = .ok (.getfield 119, 3) := by decide +kernel
theorem qm_X_state_41 : decode qm_X_state_c 41 = .ok (.ireturn, 1) := by decide +kernel
theorem qm_X_state_42 : decode qm_X_state_c 42 = .ok (.aload_n 0, 1) := by decide +kernel
theorem qm_X_state_43 : decode qm_X_state_c 43 = .ok (.getfield 128, 3) := by decide +kernel
theorem qm_X_state_46 : decode qm_X_state_c 46 = .ok (.ireturn, 1) := by decide +kernel
theorem qm_X_state_47 : decode qm_X_state_c 47 = .ok (.aload_n 0, 1) := by decide +kernel
theorem qm_X_state_48 : decode qm_X_state_c 48 = .ok (.getfield 131, 3) := by decide +kernel
theorem qm_X_state_51 : decode qm_X_state_c 51 = .ok (.ireturn, 1) := by decide +kernel
theorem qm_X_state_52 : decode qm_X_state_c 52 = .ok (.iconst (-1), 1) := by decide +kernel
theorem qm_X_state_53 : decode qm_X_state_c 53 = .ok (.ireturn, 1) := by decide +kernel
set_option maxHeartbeats 4000000 in
set_option maxRecDepth 100000 in
theorem wX_fill_3 {l : Launch} {D : va_G} {h : Nat → Nat} {K : Nat → ClassId} {res : qS} {p : Program} {e : Env} {s : State} {m : MethodId} {args : Array Value} {below : List Frame} {meth : Method} {c : Code} {A : Nat → Prop} {ad : Nat → Nat} (C : qC p s m args meth c qm_X_fill_c 5 none qR_X ad) : ∀ (n : Nat) (S : qS) (x1 : Int32) (x2 : Int64) (x4 : Int32), fX_fill_3 n S x1 x2 x4 = some res → ∀ (H : Heap) (locs : List Loc) (ls : Array Slot), qG D qCl (cT K) A s (cW h K S) H locs → lv_has ls 5 [(0, .ref (h 0)), (1, .int x1), (2, .long x2), (4, .int x4)] → W p l e ({ frames := 1, cells := 0, slots := 0, locals := 22 }) s m args below meth c H locs 0 0 (MQ below (qQv D qCl (cT K) (cW h K) A res) args s 0 0 A) (F0 m 3 ls []) := by
  intro n
  induction n with
  | zero => intro S x1 x2 x4 hf; cases hf
  | succ n ih =>
    intro S x1 x2 x4 hf H locs ls G hl
    rw [fX_fill_3] at hf
    refine lv_iload C.1 C.2.1 qm_X_fill_3 (lv_at hl 3 rfl) ?_
    refine lv_bipush (v := 8) C.1 C.2.1 qm_X_fill_5 (by decide) ?_
    refine lv_icmp_ge (tgt := 35) C.1 C.2.1 qm_X_fill_7 (by decide) (fun b1 => ?_) (fun b1 => ?_)
    · have hf := if_t b1 hf
      exact q_vret (wf := (cW h K)) C G hf qm_X_fill_35
    · have hf := if_f b1 hf
      refine lv_aload_n C.1 C.2.1 qm_X_fill_10 rfl (lv_at hl 0 rfl) ?_
      refine q_get (wf := (cW h K)) (v := .ref (h 1)) C G qi_X 0 rfl rfl 0 (by decide) qz_231 rfl qm_X_fill_11 ?_
      refine lv_iload_n C.1 C.2.1 qm_X_fill_14 rfl (lv_at hl 1 rfl) ?_
      refine lv_iload C.1 C.2.1 qm_X_fill_15 (lv_at hl 3 rfl) ?_
      refine lv_iadd C.1 C.2.1 qm_X_fill_17 ?_
      refine lv_lload_n C.1 C.2.1 qm_X_fill_18 rfl (lv_at hl 2 rfl) ?_
      refine lv_bipush (v := 8) C.1 C.2.1 qm_X_fill_19 (by decide) ?_
      refine lv_iload C.1 C.2.1 qm_X_fill_21 (lv_at hl 3 rfl) ?_
      refine lv_imul C.1 C.2.1 qm_X_fill_23 ?_
      refine lv_lushr (v := ushrL x2 (8 * x4)) C.1 C.2.1 qm_X_fill_24 rfl ?_
      refine lv_l2i (v := (ushrL x2 (8 * x4)).toInt32) C.1 C.2.1 qm_X_fill_25 rfl ?_
      obtain ⟨S2, c2, hf⟩ := bnd_s hf
      refine q_callVv (wf := (cW h K)) (n := 2) (As := [.int (x1 + x4), .int ((ushrL x2 (8 * x4)).toInt32)]) (q0 := 1) (ci := 5) C G hl.1 (kSt_putByte (l := l) c2) qx_X_63 qm_St_putByte_d ⟨by decide, by decide⟩ ⟨Nat.le_refl _, Nat.le_refl _⟩ rfl rfl rfl rfl rfl (Nat.le_of_ble_eq_true rfl) qm_X_fill_26 (fun H locs G => ?_)
      refine lv_iinc (v := x4 + 1) (lv' := [(4, .int (x4 + 1)), (0, .ref (h 0)), (1, .int x1), (2, .long x2)]) C.1 C.2.1 qm_X_fill_29 hl (k := 3) rfl rfl (by decide) rfl (fun ls hl => ?_)
      refine lv_goto (tgt := 3) C.1 C.2.1 qm_X_fill_32 (by decide) ?_
      exact ih S2 x1 x2 (x4 + 1) hf _ _ _ G (lv_sub hl [1, 2, 3, 0] rfl)
set_option maxHeartbeats 4000000 in
set_option maxRecDepth 100000 in
theorem wX_fill {l : Launch} {D : va_G} {h : Nat → Nat} {K : Nat → ClassId} {res : qS} {p : Program} {e : Env} {s : State} {m : MethodId} {args : Array Value} {below : List Frame} {meth : Method} {c : Code} {A : Nat → Prop} {ad : Nat → Nat} (C : qC p s m args meth c qm_X_fill_c 5 none qR_X ad) (S : qS) (a1 : Int32) (a2 : Int64) (hf : fX_fill S a1 a2 = some res) : ∀ (H : Heap) (locs : List Loc) (ls : Array Slot), qG D qCl (cT K) A s (cW h K S) H locs → lv_has ls 5 [(0, .ref (h 0)), (1, .int a1), (2, .long a2)] → W p l e ({ frames := 1, cells := 0, slots := 0, locals := 22 }) s m args below meth c H locs 0 0 (MQ below (qQv D qCl (cT K) (cW h K) A res) args s 0 0 A) (F0 m 0 ls []) := by
  intro H locs ls G hl
  unfold fX_fill at hf
  refine lv_iconst (v := 0) C.1 C.2.1 qm_X_fill_0 (by decide) ?_
  refine lv_istore (lv' := [(4, .int 0), (0, .ref (h 0)), (1, .int a1), (2, .long a2)]) C.1 C.2.1 qm_X_fill_1 hl (by decide) rfl (fun ls hl => ?_)
  exact wX_fill_3 C 300 S a1 a2 0 hf _ _ _ G (lv_sub hl [1, 2, 3, 0] rfl)
theorem kX_fill {l : Launch} {ad : Nat → Nat} {D : va_G} {h : Nat → Nat} {K : Nat → ClassId} {res : qS} {S : qS} {a1 : Int32} {a2 : Int64} (hf : fX_fill S a1 a2 = some res) : qMv l qm_X_fill qm_X_fill_c 5 1 22 D qCl (cT K) ad (cW h K) [.ref (h 0), .int a1, .long a2] S res := qMv_of (by decide) (Nat.le_of_ble_eq_true rfl) (fun _ _ _ _ _ _ _ _ _ _ C G hl => wX_fill C S a1 a2 hf _ _ _ G hl)
set_option maxHeartbeats 4000000 in
set_option maxRecDepth 100000 in
theorem wX_look {l : Launch} {D : va_G} {h : Nat → Nat} {K : Nat → ClassId} {res : Int32 × qS} {p : Program} {e : Env} {s : State} {m : MethodId} {args : Array Value} {below : List Frame} {meth : Method} {c : Code} {A : Nat → Prop} {ad : Nat → Nat} (C : qC p s m args meth c qm_X_look_c 2 (some .int) qR_X ad) (S : qS) (a1 : Int32) (hf : fX_look S a1 = some res) : ∀ (H : Heap) (locs : List Loc) (ls : Array Slot), qG D qCl (cT K) A s (cW h K S) H locs → lv_has ls 2 [(0, .ref (h 0)), (1, .int a1)] → W p l e ({ frames := 1, cells := 0, slots := 0, locals := 21 }) s m args below meth c H locs 0 0 (MQ below (qQi D qCl (cT K) (cW h K) A res) args s 0 0 A) (F0 m 0 ls []) := by
  intro H locs ls G hl
  unfold fX_look at hf
  refine lv_aload_n C.1 C.2.1 qm_X_look_0 rfl (lv_at hl 0 rfl) ?_
  refine q_get (wf := (cW h K)) (v := .ref (h 1)) C G qi_X 0 rfl rfl 0 (by decide) qz_231 rfl qm_X_look_1 ?_
  refine lv_iload_n C.1 C.2.1 qm_X_look_4 rfl (lv_at hl 1 rfl) ?_
  obtain ⟨q1, c1, hf⟩ := bnd_s hf
  refine q_callVi (wf := (cW h K)) (n := 1) (As := [.int a1]) (q0 := 1) (ci := 5) C G hl.1 (kSt_longAt (l := l) c1) qx_X_67 qm_St_longAt_d ⟨by decide, by decide⟩ ⟨Nat.le_refl _, Nat.le_refl _⟩ rfl rfl rfl rfl rfl (Nat.le_of_ble_eq_true rfl) qm_X_look_5 (fun H locs G => ?_)
  exact q_iret (wf := (cW h K)) C G hf qm_X_look_8
theorem kX_look {l : Launch} {ad : Nat → Nat} {D : va_G} {h : Nat → Nat} {K : Nat → ClassId} {res : Int32 × qS} {S : qS} {a1 : Int32} (hf : fX_look S a1 = some res) : qMi l qm_X_look qm_X_look_c 2 .int 1 21 D qCl (cT K) ad (cW h K) [.ref (h 0), .int a1] S res := qMi_of (by decide) (Nat.le_of_ble_eq_true rfl) (fun _ _ _ _ _ _ _ _ _ _ C G hl => wX_look C S a1 hf _ _ _ G hl)
set_option maxHeartbeats 4000000 in
set_option maxRecDepth 100000 in
theorem wX_set_10 {l : Launch} {D : va_G} {h : Nat → Nat} {K : Nat → ClassId} {res : qS} {p : Program} {e : Env} {s : State} {m : MethodId} {args : Array Value} {below : List Frame} {meth : Method} {c : Code} {A : Nat → Prop} {ad : Nat → Nat} (C : qC p s m args meth c qm_X_set_c 3 none qR_X ad) (S : qS) (hf : fX_set_10 S = some res) : ∀ (H : Heap) (locs : List Loc) (ls : Array Slot), qG D qCl (cT K) A s (cW h K S) H locs → lv_has ls 3 [] → W p l e ({ frames := 2, cells := 0, slots := 0, locals := 42 }) s m args below meth c H locs 0 0 (MQ below (qQv D qCl (cT K) (cW h K) A res) args s 0 0 A) (F0 m 10 ls []) := by
  intro H locs ls G hl
  unfold fX_set_10 at hf
  cases hf
set_option maxHeartbeats 4000000 in
set_option maxRecDepth 100000 in
theorem wX_set {l : Launch} {D : va_G} {h : Nat → Nat} {K : Nat → ClassId} {res : qS} {p : Program} {e : Env} {s : State} {m : MethodId} {args : Array Value} {below : List Frame} {meth : Method} {c : Code} {A : Nat → Prop} {ad : Nat → Nat} (C : qC p s m args meth c qm_X_set_c 3 none qR_X ad) (S : qS) (a1 : Int32) (a2 : Int32) (hf : fX_set S a1 a2 = some res) : ∀ (H : Heap) (locs : List Loc) (ls : Array Slot), qG D qCl (cT K) A s (cW h K S) H locs → lv_has ls 3 [(0, .ref (h 0)), (1, .int a1), (2, .int a2)] → W p l e ({ frames := 2, cells := 0, slots := 0, locals := 42 }) s m args below meth c H locs 0 0 (MQ below (qQv D qCl (cT K) (cW h K) A res) args s 0 0 A) (F0 m 0 ls []) := by
  intro H locs ls G hl
  unfold fX_set at hf
  refine lv_iload_n C.1 C.2.1 qm_X_set_0 rfl (lv_at hl 1 rfl) ?_
  refine lv_if_lt (tgt := 10) C.1 C.2.1 qm_X_set_1 (by decide) (fun b1 => ?_) (fun b1 => ?_)
  · have hf := if_t b1 hf
    exact wX_set_10 C S hf _ _ _ G (lv_sub hl [] rfl)
  · have hf := if_f b1 hf
    refine lv_iload_n C.1 C.2.1 qm_X_set_4 rfl (lv_at hl 1 rfl) ?_
    refine lv_bipush (v := 16) C.1 C.2.1 qm_X_set_5 (by decide) ?_
    refine lv_icmp_lt (tgt := 20) C.1 C.2.1 qm_X_set_7 (by decide) (fun b2 => ?_) (fun b2 => ?_)
    · have hf := if_t b2 hf
      refine lv_aload_n C.1 C.2.1 qm_X_set_20 rfl (lv_at hl 0 rfl) ?_
      refine q_get (wf := (cW h K)) (v := .ref (h 5)) C G qi_X 0 rfl rfl 3 (by decide) qz_234 rfl qm_X_set_21 ?_
      refine lv_iload_n C.1 C.2.1 qm_X_set_24 rfl (lv_at hl 1 rfl) ?_
      refine lv_iload_n C.1 C.2.1 qm_X_set_25 rfl (lv_at hl 2 rfl) ?_
      obtain ⟨S3, c3, hf⟩ := bnd_s hf
      refine q_callVv (wf := (cW h K)) (n := 2) (As := [.int a1, .int a2]) (q0 := 5) (ci := 1) C G hl.1 (kCo_put (l := l) c3) qx_X_78 qm_Co_put_d ⟨by decide, by decide⟩ ⟨Nat.le_refl _, Nat.le_refl _⟩ rfl rfl rfl rfl rfl (Nat.le_of_ble_eq_true rfl) qm_X_set_26 (fun H locs G => ?_)
      exact q_vret (wf := (cW h K)) C G hf qm_X_set_29
    · have hf := if_f b2 hf
      exact wX_set_10 C S hf _ _ _ G (lv_sub hl [] rfl)
theorem kX_set {l : Launch} {ad : Nat → Nat} {D : va_G} {h : Nat → Nat} {K : Nat → ClassId} {res : qS} {S : qS} {a1 : Int32} {a2 : Int32} (hf : fX_set S a1 a2 = some res) : qMv l qm_X_set qm_X_set_c 3 2 42 D qCl (cT K) ad (cW h K) [.ref (h 0), .int a1, .int a2] S res := qMv_of (by decide) (Nat.le_of_ble_eq_true rfl) (fun _ _ _ _ _ _ _ _ _ _ C G hl => wX_set C S a1 a2 hf _ _ _ G hl)
set_option maxHeartbeats 4000000 in
set_option maxRecDepth 100000 in
theorem wX_register_10 {l : Launch} {D : va_G} {h : Nat → Nat} {K : Nat → ClassId} {res : Int32 × qS} {p : Program} {e : Env} {s : State} {m : MethodId} {args : Array Value} {below : List Frame} {meth : Method} {c : Code} {A : Nat → Prop} {ad : Nat → Nat} (C : qC p s m args meth c qm_X_register_c 2 (some .int) qR_X ad) (S : qS) (hf : fX_register_10 S = some res) : ∀ (H : Heap) (locs : List Loc) (ls : Array Slot), qG D qCl (cT K) A s (cW h K S) H locs → lv_has ls 2 [] → W p l e ({ frames := 2, cells := 0, slots := 0, locals := 41 }) s m args below meth c H locs 0 0 (MQ below (qQi D qCl (cT K) (cW h K) A res) args s 0 0 A) (F0 m 10 ls []) := by
  intro H locs ls G hl
  unfold fX_register_10 at hf
  cases hf
set_option maxHeartbeats 4000000 in
set_option maxRecDepth 100000 in
theorem wX_register {l : Launch} {D : va_G} {h : Nat → Nat} {K : Nat → ClassId} {res : Int32 × qS} {p : Program} {e : Env} {s : State} {m : MethodId} {args : Array Value} {below : List Frame} {meth : Method} {c : Code} {A : Nat → Prop} {ad : Nat → Nat} (C : qC p s m args meth c qm_X_register_c 2 (some .int) qR_X ad) (S : qS) (a1 : Int32) (hf : fX_register S a1 = some res) : ∀ (H : Heap) (locs : List Loc) (ls : Array Slot), qG D qCl (cT K) A s (cW h K S) H locs → lv_has ls 2 [(0, .ref (h 0)), (1, .int a1)] → W p l e ({ frames := 2, cells := 0, slots := 0, locals := 41 }) s m args below meth c H locs 0 0 (MQ below (qQi D qCl (cT K) (cW h K) A res) args s 0 0 A) (F0 m 0 ls []) := by
  intro H locs ls G hl
  unfold fX_register at hf
  refine lv_iload_n C.1 C.2.1 qm_X_register_0 rfl (lv_at hl 1 rfl) ?_
  refine lv_if_lt (tgt := 10) C.1 C.2.1 qm_X_register_1 (by decide) (fun b1 => ?_) (fun b1 => ?_)
  · have hf := if_t b1 hf
    exact wX_register_10 C S hf _ _ _ G (lv_sub hl [] rfl)
  · have hf := if_f b1 hf
    refine lv_iload_n C.1 C.2.1 qm_X_register_4 rfl (lv_at hl 1 rfl) ?_
    refine lv_bipush (v := 16) C.1 C.2.1 qm_X_register_5 (by decide) ?_
    refine lv_icmp_lt (tgt := 20) C.1 C.2.1 qm_X_register_7 (by decide) (fun b2 => ?_) (fun b2 => ?_)
    · have hf := if_t b2 hf
      refine lv_aload_n C.1 C.2.1 qm_X_register_20 rfl (lv_at hl 0 rfl) ?_
      refine q_get (wf := (cW h K)) (v := .ref (h 5)) C G qi_X 0 rfl rfl 3 (by decide) qz_234 rfl qm_X_register_21 ?_
      refine lv_iload_n C.1 C.2.1 qm_X_register_24 rfl (lv_at hl 1 rfl) ?_
      obtain ⟨q3, c3, hf⟩ := bnd_s hf
      refine q_callVi (wf := (cW h K)) (n := 1) (As := [.int a1]) (q0 := 5) (ci := 1) C G hl.1 (kCo_get (l := l) c3) qx_X_81 qm_Co_get_d ⟨by decide, by decide⟩ ⟨Nat.le_refl _, Nat.le_refl _⟩ rfl rfl rfl rfl rfl (Nat.le_of_ble_eq_true rfl) qm_X_register_25 (fun H locs G => ?_)
      exact q_iret (wf := (cW h K)) C G hf qm_X_register_28
    · have hf := if_f b2 hf
      exact wX_register_10 C S hf _ _ _ G (lv_sub hl [] rfl)
theorem kX_register {l : Launch} {ad : Nat → Nat} {D : va_G} {h : Nat → Nat} {K : Nat → ClassId} {res : Int32 × qS} {S : qS} {a1 : Int32} (hf : fX_register S a1 = some res) : qMi l qm_X_register qm_X_register_c 2 .int 2 41 D qCl (cT K) ad (cW h K) [.ref (h 0), .int a1] S res := qMi_of (by decide) (Nat.le_of_ble_eq_true rfl) (fun _ _ _ _ _ _ _ _ _ _ C G hl => wX_register C S a1 hf _ _ _ G hl)
set_option maxHeartbeats 4000000 in
set_option maxRecDepth 100000 in
theorem wX_setInner_41 {l : Launch} {D : va_G} {h : Nat → Nat} {K : Nat → ClassId} {res : qS} {p : Program} {e : Env} {s : State} {m : MethodId} {args : Array Value} {below : List Frame} {meth : Method} {c : Code} {A : Nat → Prop} {ad : Nat → Nat} (C : qC p s m args meth c qm_X_setInner_c 3 none qR_X ad) (S : qS) (y1 : Int32) (y2 : Int32) (hf : fX_setInner_41 S y1 y2 = some res) : ∀ (H : Heap) (locs : List Loc) (ls : Array Slot), qG D qCl (cT K) A s (cW h K S) H locs → lv_has ls 3 [] → W p l e ({ frames := 2, cells := 0, slots := 0, locals := 43 }) s m args below meth c H locs 0 0 (MQ below (qQv D qCl (cT K) (cW h K) A res) args s 0 0 A) (F0 m 41 ls [.int y2, .int y1, .ref (h 5)]) := by
  intro H locs ls G hl
  unfold fX_setInner_41 at hf
  obtain ⟨S1, c1, hf⟩ := bnd_s hf
  refine q_callVv (wf := (cW h K)) (n := 2) (As := [.int y1, .int y2]) (q0 := 5) (ci := 1) C G hl.1 (kCo_putInner (l := l) c1) qx_X_90 qm_Co_putInner_d ⟨by decide, by decide⟩ ⟨Nat.le_refl _, Nat.le_refl _⟩ rfl rfl rfl rfl rfl (Nat.le_of_ble_eq_true rfl) qm_X_setInner_41 (fun H locs G => ?_)
  exact q_vret (wf := (cW h K)) C G hf qm_X_setInner_44
set_option maxHeartbeats 4000000 in
set_option maxRecDepth 100000 in
theorem wX_setInner_40 {l : Launch} {D : va_G} {h : Nat → Nat} {K : Nat → ClassId} {res : qS} {p : Program} {e : Env} {s : State} {m : MethodId} {args : Array Value} {below : List Frame} {meth : Method} {c : Code} {A : Nat → Prop} {ad : Nat → Nat} (C : qC p s m args meth c qm_X_setInner_c 3 none qR_X ad) (S : qS) (x2 : Int32) (y1 : Int32) (hf : fX_setInner_40 S x2 y1 = some res) : ∀ (H : Heap) (locs : List Loc) (ls : Array Slot), qG D qCl (cT K) A s (cW h K S) H locs → lv_has ls 3 [(2, .int x2)] → W p l e ({ frames := 2, cells := 0, slots := 0, locals := 43 }) s m args below meth c H locs 0 0 (MQ below (qQv D qCl (cT K) (cW h K) A res) args s 0 0 A) (F0 m 40 ls [.int y1, .ref (h 5)]) := by
  intro H locs ls G hl
  unfold fX_setInner_40 at hf
  refine lv_iload_n C.1 C.2.1 qm_X_setInner_40 rfl (lv_at hl 0 rfl) ?_
  exact wX_setInner_41 C S y1 x2 hf _ _ _ G (lv_sub hl [] rfl)
set_option maxHeartbeats 4000000 in
set_option maxRecDepth 100000 in
theorem wX_setInner {l : Launch} {D : va_G} {h : Nat → Nat} {K : Nat → ClassId} {res : qS} {p : Program} {e : Env} {s : State} {m : MethodId} {args : Array Value} {below : List Frame} {meth : Method} {c : Code} {A : Nat → Prop} {ad : Nat → Nat} (C : qC p s m args meth c qm_X_setInner_c 3 none qR_X ad) (S : qS) (a1 : Int32) (a2 : Int32) (hf : fX_setInner S a1 a2 = some res) : ∀ (H : Heap) (locs : List Loc) (ls : Array Slot), qG D qCl (cT K) A s (cW h K S) H locs → lv_has ls 3 [(0, .ref (h 0)), (1, .int a1), (2, .int a2)] → W p l e ({ frames := 2, cells := 0, slots := 0, locals := 43 }) s m args below meth c H locs 0 0 (MQ below (qQv D qCl (cT K) (cW h K) A res) args s 0 0 A) (F0 m 0 ls []) := by
  intro H locs ls G hl
  unfold fX_setInner at hf
  refine lv_aload_n C.1 C.2.1 qm_X_setInner_0 rfl (lv_at hl 0 rfl) ?_
  refine q_get (wf := (cW h K)) (v := .ref (h 5)) C G qi_X 0 rfl rfl 3 (by decide) qz_234 rfl qm_X_setInner_1 ?_
  refine lv_iload_n C.1 C.2.1 qm_X_setInner_4 rfl (lv_at hl 1 rfl) ?_
  obtain ⟨q1, c1, hf⟩ := bnd_s hf
  refine q_callVi (wf := (cW h K)) (n := 1) (As := [.int a1]) (q0 := 5) (ci := 1) C G hl.1 (kCo_hasInner (l := l) c1) qx_X_84 qm_Co_hasInner_d ⟨by decide, by decide⟩ ⟨Nat.le_refl _, Nat.le_refl _⟩ rfl rfl rfl rfl rfl (Nat.le_of_ble_eq_true rfl) qm_X_setInner_5 (fun H locs G => ?_)
  refine lv_if_ne (tgt := 21) C.1 C.2.1 qm_X_setInner_8 (by decide) (fun b2 => ?_) (fun b2 => ?_)
  · have hf := if_t b2 hf
    refine lv_aload_n C.1 C.2.1 qm_X_setInner_21 rfl (lv_at hl 0 rfl) ?_
    refine q_get (wf := (cW h K)) (v := .ref (h 5)) C G qi_X 0 rfl rfl 3 (by decide) qz_234 rfl qm_X_setInner_22 ?_
    refine lv_iload_n C.1 C.2.1 qm_X_setInner_25 rfl (lv_at hl 1 rfl) ?_
    refine lv_iload_n C.1 C.2.1 qm_X_setInner_26 rfl (lv_at hl 1 rfl) ?_
    refine lv_bipush (v := 56) C.1 C.2.1 qm_X_setInner_27 (by decide) ?_
    refine lv_icmp_ne (tgt := 40) C.1 C.2.1 qm_X_setInner_29 (by decide) (fun b3 => ?_) (fun b3 => ?_)
    · have hf := if_t b3 hf
      exact wX_setInner_40 C q1.2 a2 a1 hf _ _ _ G (lv_sub hl [2] rfl)
    · have hf := if_f (not_not_intro b3) hf
      refine lv_iload_n C.1 C.2.1 qm_X_setInner_32 rfl (lv_at hl 2 rfl) ?_
      refine lv_if_eq (tgt := 40) C.1 C.2.1 qm_X_setInner_33 (by decide) (fun b4 => ?_) (fun b4 => ?_)
      · have hf := if_t b4 hf
        exact wX_setInner_40 C q1.2 a2 a1 hf _ _ _ G (lv_sub hl [2] rfl)
      · have hf := if_f b4 hf
        refine lv_iconst (v := 1) C.1 C.2.1 qm_X_setInner_36 (by decide) ?_
        refine lv_goto (tgt := 41) C.1 C.2.1 qm_X_setInner_37 (by decide) ?_
        exact wX_setInner_41 C q1.2 a1 1 hf _ _ _ G (lv_sub hl [] rfl)
  · have hf := if_f (not_not_intro b2) hf
    cases hf
theorem kX_setInner {l : Launch} {ad : Nat → Nat} {D : va_G} {h : Nat → Nat} {K : Nat → ClassId} {res : qS} {S : qS} {a1 : Int32} {a2 : Int32} (hf : fX_setInner S a1 a2 = some res) : qMv l qm_X_setInner qm_X_setInner_c 3 2 43 D qCl (cT K) ad (cW h K) [.ref (h 0), .int a1, .int a2] S res := qMv_of (by decide) (Nat.le_of_ble_eq_true rfl) (fun _ _ _ _ _ _ _ _ _ _ C G hl => wX_setInner C S a1 a2 hf _ _ _ G hl)
set_option maxHeartbeats 4000000 in
set_option maxRecDepth 100000 in
theorem wX_inner {l : Launch} {D : va_G} {h : Nat → Nat} {K : Nat → ClassId} {res : Int32 × qS} {p : Program} {e : Env} {s : State} {m : MethodId} {args : Array Value} {below : List Frame} {meth : Method} {c : Code} {A : Nat → Prop} {ad : Nat → Nat} (C : qC p s m args meth c qm_X_inner_c 2 (some .int) qR_X ad) (S : qS) (a1 : Int32) (hf : fX_inner S a1 = some res) : ∀ (H : Heap) (locs : List Loc) (ls : Array Slot), qG D qCl (cT K) A s (cW h K S) H locs → lv_has ls 2 [(0, .ref (h 0)), (1, .int a1)] → W p l e ({ frames := 2, cells := 0, slots := 0, locals := 42 }) s m args below meth c H locs 0 0 (MQ below (qQi D qCl (cT K) (cW h K) A res) args s 0 0 A) (F0 m 0 ls []) := by
  intro H locs ls G hl
  unfold fX_inner at hf
  refine lv_aload_n C.1 C.2.1 qm_X_inner_0 rfl (lv_at hl 0 rfl) ?_
  refine q_get (wf := (cW h K)) (v := .ref (h 5)) C G qi_X 0 rfl rfl 3 (by decide) qz_234 rfl qm_X_inner_1 ?_
  refine lv_iload_n C.1 C.2.1 qm_X_inner_4 rfl (lv_at hl 1 rfl) ?_
  obtain ⟨q1, c1, hf⟩ := bnd_s hf
  refine q_callVi (wf := (cW h K)) (n := 1) (As := [.int a1]) (q0 := 5) (ci := 1) C G hl.1 (kCo_hasInner (l := l) c1) qx_X_84 qm_Co_hasInner_d ⟨by decide, by decide⟩ ⟨Nat.le_refl _, Nat.le_refl _⟩ rfl rfl rfl rfl rfl (Nat.le_of_ble_eq_true rfl) qm_X_inner_5 (fun H locs G => ?_)
  refine lv_if_ne (tgt := 21) C.1 C.2.1 qm_X_inner_8 (by decide) (fun b2 => ?_) (fun b2 => ?_)
  · have hf := if_t b2 hf
    refine lv_aload_n C.1 C.2.1 qm_X_inner_21 rfl (lv_at hl 0 rfl) ?_
    refine q_get (wf := (cW h K)) (v := .ref (h 5)) C G qi_X 0 rfl rfl 3 (by decide) qz_234 rfl qm_X_inner_22 ?_
    refine lv_iload_n C.1 C.2.1 qm_X_inner_25 rfl (lv_at hl 1 rfl) ?_
    obtain ⟨q3, c3, hf⟩ := bnd_s hf
    refine q_callVi (wf := (cW h K)) (n := 1) (As := [.int a1]) (q0 := 5) (ci := 1) C G hl.1 (kCo_getInner (l := l) c3) qx_X_93 qm_Co_getInner_d ⟨by decide, by decide⟩ ⟨Nat.le_refl _, Nat.le_refl _⟩ rfl rfl rfl rfl rfl (Nat.le_of_ble_eq_true rfl) qm_X_inner_26 (fun H locs G => ?_)
    exact q_iret (wf := (cW h K)) C G hf qm_X_inner_29
  · have hf := if_f (not_not_intro b2) hf
    cases hf
theorem kX_inner {l : Launch} {ad : Nat → Nat} {D : va_G} {h : Nat → Nat} {K : Nat → ClassId} {res : Int32 × qS} {S : qS} {a1 : Int32} (hf : fX_inner S a1 = some res) : qMi l qm_X_inner qm_X_inner_c 2 .int 2 42 D qCl (cT K) ad (cW h K) [.ref (h 0), .int a1] S res := qMi_of (by decide) (Nat.le_of_ble_eq_true rfl) (fun _ _ _ _ _ _ _ _ _ _ C G hl => wX_inner C S a1 hf _ _ _ G hl)
set_option maxHeartbeats 4000000 in
set_option maxRecDepth 100000 in
theorem wX_begin {l : Launch} {D : va_G} {h : Nat → Nat} {K : Nat → ClassId} {res : qS} {p : Program} {e : Env} {s : State} {m : MethodId} {args : Array Value} {below : List Frame} {meth : Method} {c : Code} {A : Nat → Prop} {ad : Nat → Nat} (C : qC p s m args meth c qm_X_begin_c 2 none qR_X ad) (S : qS) (a1 : Int32) (hf : fX_begin S a1 = some res) : ∀ (H : Heap) (locs : List Loc) (ls : Array Slot), qG D qCl (cT K) A s (cW h K S) H locs → lv_has ls 2 [(0, .ref (h 0)), (1, .int a1)] → W p l e ({ frames := 0, cells := 0, slots := 0, locals := 0 }) s m args below meth c H locs 0 0 (MQ below (qQv D qCl (cT K) (cW h K) A res) args s 0 0 A) (F0 m 0 ls []) := by
  intro H locs ls G hl
  unfold fX_begin at hf
  refine lv_iload_n C.1 C.2.1 qm_X_begin_0 rfl (lv_at hl 1 rfl) ?_
  refine lv_ldc (own := "QuadMode") (v := (-62914608)) C.1 C.2.1 C.2.2.2.1 (C.2.2.2.2.1 _ qz_419) qm_X_begin_1 ?_
  refine lv_iand C.1 C.2.1 qm_X_begin_3 ?_
  refine lv_if_eq (tgt := 17) C.1 C.2.1 qm_X_begin_4 (by decide) (fun b1 => ?_) (fun b1 => ?_)
  · have hf := if_t b1 hf
    refine lv_aload_n C.1 C.2.1 qm_X_begin_17 rfl (lv_at hl 0 rfl) ?_
    refine q_get (wf := (cW h K)) (v := .ref (h 5)) C G qi_X 0 rfl rfl 3 (by decide) qz_234 rfl qm_X_begin_18 ?_
    refine lv_iload_n C.1 C.2.1 qm_X_begin_21 rfl (lv_at hl 1 rfl) ?_
    refine q_putN (host := "QuadMode") (wf := (cW h K)) (S' := (pI S 6 a1)) C G qi_Co qY_Co qy_Co qn_Co 5 rfl rfl 9 (by decide) (by decide +kernel) rfl rfl (Nat.le_of_ble_eq_true rfl) rfl qm_X_begin_22 (fun H locs G => ?_)
    refine lv_aload_n C.1 C.2.1 qm_X_begin_25 rfl (lv_at hl 0 rfl) ?_
    refine lv_iconst (v := 0) C.1 C.2.1 qm_X_begin_26 (by decide) ?_
    refine q_put (wf := (cW h K)) (S' := (pI (pI S 6 a1) 0 0)) C G qi_X qY_X qy_X qn_X 0 rfl rfl 7 (by decide) qz_238 rfl rfl (Nat.le_of_ble_eq_true rfl) rfl qm_X_begin_27 (fun H locs G => ?_)
    exact q_vret (wf := (cW h K)) C G hf qm_X_begin_30
  · have hf := if_f b1 hf
    cases hf
theorem kX_begin {l : Launch} {ad : Nat → Nat} {D : va_G} {h : Nat → Nat} {K : Nat → ClassId} {res : qS} {S : qS} {a1 : Int32} (hf : fX_begin S a1 = some res) : qMv l qm_X_begin qm_X_begin_c 2 0 0 D qCl (cT K) ad (cW h K) [.ref (h 0), .int a1] S res := qMv_of (by decide) (Nat.le_of_ble_eq_true rfl) (fun _ _ _ _ _ _ _ _ _ _ C G hl => wX_begin C S a1 hf _ _ _ G hl)
set_option maxHeartbeats 4000000 in
set_option maxRecDepth 100000 in
theorem wX_status {l : Launch} {D : va_G} {h : Nat → Nat} {K : Nat → ClassId} {res : Int32 × qS} {p : Program} {e : Env} {s : State} {m : MethodId} {args : Array Value} {below : List Frame} {meth : Method} {c : Code} {A : Nat → Prop} {ad : Nat → Nat} (C : qC p s m args meth c qm_X_status_c 1 (some .int) qR_X ad) (S : qS) (hf : fX_status S = some res) : ∀ (H : Heap) (locs : List Loc) (ls : Array Slot), qG D qCl (cT K) A s (cW h K S) H locs → lv_has ls 1 [(0, .ref (h 0))] → W p l e ({ frames := 0, cells := 0, slots := 0, locals := 0 }) s m args below meth c H locs 0 0 (MQ below (qQi D qCl (cT K) (cW h K) A res) args s 0 0 A) (F0 m 0 ls []) := by
  intro H locs ls G hl
  unfold fX_status at hf
  refine lv_aload_n C.1 C.2.1 qm_X_status_0 rfl (lv_at hl 0 rfl) ?_
  refine q_get (wf := (cW h K)) (v := .ref (h 5)) C G qi_X 0 rfl rfl 3 (by decide) qz_234 rfl qm_X_status_1 ?_
  refine q_getN (host := "QuadMode") (wf := (cW h K)) (v := .int (S.1 6)) C G qi_Co 5 rfl rfl 9 (by decide) (by decide +kernel) rfl qm_X_status_4 ?_
  exact q_iret (wf := (cW h K)) C G hf qm_X_status_7
theorem kX_status {l : Launch} {ad : Nat → Nat} {D : va_G} {h : Nat → Nat} {K : Nat → ClassId} {res : Int32 × qS} {S : qS} (hf : fX_status S = some res) : qMi l qm_X_status qm_X_status_c 1 .int 0 0 D qCl (cT K) ad (cW h K) [.ref (h 0)] S res := qMi_of (by decide) (Nat.le_of_ble_eq_true rfl) (fun _ _ _ _ _ _ _ _ _ _ C G hl => wX_status C S hf _ _ _ G hl)
set_option maxHeartbeats 4000000 in
set_option maxRecDepth 100000 in
theorem wX_except_110 {l : Launch} {D : va_G} {h : Nat → Nat} {K : Nat → ClassId} {res : qS} {p : Program} {e : Env} {s : State} {m : MethodId} {args : Array Value} {below : List Frame} {meth : Method} {c : Code} {A : Nat → Prop} {ad : Nat → Nat} (C : qC p s m args meth c qm_X_except_c 8 none qR_X ad) (S : qS) (x1 : Int32) (hf : fX_except_110 S x1 = some res) : ∀ (H : Heap) (locs : List Loc) (ls : Array Slot), qG D qCl (cT K) A s (cW h K S) H locs → lv_has ls 8 [(0, .ref (h 0)), (1, .int x1)] → W p l e ({ frames := 4, cells := 0, slots := 0, locals := 98 }) s m args below meth c H locs 0 0 (MQ below (qQv D qCl (cT K) (cW h K) A res) args s 0 0 A) (F0 m 110 ls []) := by
  intro H locs ls G hl
  unfold fX_except_110 at hf
  refine lv_aload_n C.1 C.2.1 qm_X_except_110 rfl (lv_at hl 0 rfl) ?_
  refine q_get (wf := (cW h K)) (v := .ref (h 5)) C G qi_X 0 rfl rfl 3 (by decide) qz_234 rfl qm_X_except_111 ?_
  refine q_getN (host := "QuadMode") (wf := (cW h K)) (v := .int (S.1 7)) C G qi_Co 5 rfl rfl 10 (by decide) (by decide +kernel) rfl qm_X_except_114 ?_
  refine lv_if_eq (tgt := 133) C.1 C.2.1 qm_X_except_117 (by decide) (fun b1 => ?_) (fun b1 => ?_)
  · have hf := if_t b1 hf
    refine lv_aload_n C.1 C.2.1 qm_X_except_133 rfl (lv_at hl 0 rfl) ?_
    refine q_get (wf := (cW h K)) (v := .ref (h 5)) C G qi_X 0 rfl rfl 3 (by decide) qz_234 rfl qm_X_except_134 ?_
    refine lv_bipush (v := 15) C.1 C.2.1 qm_X_except_137 (by decide) ?_
    refine lv_aload_n C.1 C.2.1 qm_X_except_139 rfl (lv_at hl 0 rfl) ?_
    refine q_get (wf := (cW h K)) (v := .ref (h 1)) C G qi_X 0 rfl rfl 0 (by decide) qz_231 rfl qm_X_except_140 ?_
    refine lv_aload_n C.1 C.2.1 qm_X_except_143 rfl (lv_at hl 0 rfl) ?_
    refine q_get (wf := (cW h K)) (v := .ref (h 3)) C G qi_X 0 rfl rfl 1 (by decide) qz_232 rfl qm_X_except_144 ?_
    refine lv_bipush (v := 17) C.1 C.2.1 qm_X_except_147 (by decide) ?_
    refine q_iald (wf := (cW h K)) C G 3 1 rfl rfl (by decide) qm_X_except_149 ?_
    refine lv_iconst (v := 4) C.1 C.2.1 qm_X_except_150 (by decide) ?_
    refine lv_iload_n C.1 C.2.1 qm_X_except_151 rfl (lv_at hl 1 rfl) ?_
    refine lv_imul C.1 C.2.1 qm_X_except_152 ?_
    refine lv_iadd C.1 C.2.1 qm_X_except_153 ?_
    obtain ⟨q2, c2, hf⟩ := bnd_s hf
    refine q_callVi (wf := (cW h K)) (n := 1) (As := [.int ((gA S 1 17) + (4 * x1))]) (q0 := 1) (ci := 5) C G hl.1 (kSt_longAt (l := l) c2) qx_X_67 qm_St_longAt_d ⟨by decide, by decide⟩ ⟨Nat.le_refl _, Nat.le_refl _⟩ rfl rfl rfl rfl rfl (Nat.le_of_ble_eq_true rfl) qm_X_except_154 (fun H locs G => ?_)
    obtain ⟨S3, c3, hf⟩ := bnd_s hf
    refine q_callVv (wf := (cW h K)) (n := 2) (As := [.int 15, .int q2.1]) (q0 := 5) (ci := 1) C G hl.1 (kCo_put (l := l) c3) qx_X_78 qm_Co_put_d ⟨by decide, by decide⟩ ⟨Nat.le_refl _, Nat.le_refl _⟩ rfl rfl rfl rfl rfl (Nat.le_of_ble_eq_true rfl) qm_X_except_157 (fun H locs G => ?_)
    exact q_vret (wf := (cW h K)) C G hf qm_X_except_160
  · have hf := if_f b1 hf
    refine lv_aload_n C.1 C.2.1 qm_X_except_120 rfl (lv_at hl 0 rfl) ?_
    refine q_get (wf := (cW h K)) (v := .ref (h 5)) C G qi_X 0 rfl rfl 3 (by decide) qz_234 rfl qm_X_except_121 ?_
    obtain ⟨S4, c4, hf⟩ := bnd_s hf
    refine q_callVv (wf := (cW h K)) (n := 0) (As := []) (q0 := 5) (ci := 1) C G hl.1 (kCo_takeBack (l := l) c4) qx_X_174 qm_Co_takeBack_d ⟨by decide, by decide⟩ ⟨Nat.le_refl _, Nat.le_refl _⟩ rfl rfl rfl rfl rfl (Nat.le_of_ble_eq_true rfl) qm_X_except_124 (fun H locs G => ?_)
    refine lv_aload_n C.1 C.2.1 qm_X_except_127 rfl (lv_at hl 0 rfl) ?_
    refine lv_iconst (v := 2) C.1 C.2.1 qm_X_except_128 (by decide) ?_
    refine q_put (wf := (cW h K)) (S' := (pI S4 0 2)) C G qi_X qY_X qy_X qn_X 0 rfl rfl 7 (by decide) qz_238 rfl rfl (Nat.le_of_ble_eq_true rfl) rfl qm_X_except_129 (fun H locs G => ?_)
    exact q_vret (wf := (cW h K)) C G hf qm_X_except_132
set_option maxHeartbeats 4000000 in
set_option maxRecDepth 100000 in
theorem wX_except_96 {l : Launch} {D : va_G} {h : Nat → Nat} {K : Nat → ClassId} {res : qS} {p : Program} {e : Env} {s : State} {m : MethodId} {args : Array Value} {below : List Frame} {meth : Method} {c : Code} {A : Nat → Prop} {ad : Nat → Nat} (C : qC p s m args meth c qm_X_except_c 8 none qR_X ad) (S : qS) (x1 : Int32) (x3 : Int32) (x5 : Int32) (hf : fX_except_96 S x1 x3 x5 = some res) : ∀ (H : Heap) (locs : List Loc) (ls : Array Slot), qG D qCl (cT K) A s (cW h K S) H locs → lv_has ls 8 [(0, .ref (h 0)), (1, .int x1), (3, .int x3), (5, .int x5)] → W p l e ({ frames := 4, cells := 0, slots := 0, locals := 98 }) s m args below meth c H locs 0 0 (MQ below (qQv D qCl (cT K) (cW h K) A res) args s 0 0 A) (F0 m 96 ls []) := by
  intro H locs ls G hl
  unfold fX_except_96 at hf
  refine lv_iload_n C.1 C.2.1 qm_X_except_96 rfl (lv_at hl 2 rfl) ?_
  refine lv_iconst (v := 1) C.1 C.2.1 qm_X_except_97 (by decide) ?_
  refine lv_icmp_le (tgt := 110) C.1 C.2.1 qm_X_except_98 (by decide) (fun b1 => ?_) (fun b1 => ?_)
  · have hf := if_t b1 hf
    exact wX_except_110 C S x1 hf _ _ _ G (lv_sub hl [0, 1] rfl)
  · have hf := if_f b1 hf
    refine lv_aload_n C.1 C.2.1 qm_X_except_101 rfl (lv_at hl 0 rfl) ?_
    refine q_get (wf := (cW h K)) (v := .ref (h 5)) C G qi_X 0 rfl rfl 3 (by decide) qz_234 rfl qm_X_except_102 ?_
    refine lv_iload C.1 C.2.1 qm_X_except_105 (lv_at hl 3 rfl) ?_
    obtain ⟨S2, c2, hf⟩ := bnd_s hf
    refine q_callVv (wf := (cW h K)) (n := 1) (As := [.int x5]) (q0 := 5) (ci := 1) C G hl.1 (kCo_push (l := l) c2) qx_X_202 qm_Co_push_d ⟨by decide, by decide⟩ ⟨Nat.le_refl _, Nat.le_refl _⟩ rfl rfl rfl rfl rfl (Nat.le_of_ble_eq_true rfl) qm_X_except_107 (fun H locs G => ?_)
    exact wX_except_110 C S2 x1 hf _ _ _ G (lv_sub hl [0, 1] rfl)
set_option maxHeartbeats 4000000 in
set_option maxRecDepth 100000 in
theorem wX_except {l : Launch} {D : va_G} {h : Nat → Nat} {K : Nat → ClassId} {res : qS} {p : Program} {e : Env} {s : State} {m : MethodId} {args : Array Value} {below : List Frame} {meth : Method} {c : Code} {A : Nat → Prop} {ad : Nat → Nat} (C : qC p s m args meth c qm_X_except_c 8 none qR_X ad) (S : qS) (a1 : Int32) (a2 : Int32) (a3 : Int32) (a4 : Int32) (a5 : Int32) (hf : fX_except S a1 a2 a3 a4 a5 = some res) : ∀ (H : Heap) (locs : List Loc) (ls : Array Slot), qG D qCl (cT K) A s (cW h K S) H locs → lv_has ls 8 [(0, .ref (h 0)), (1, .int a1), (2, .int a2), (3, .int a3), (4, .int a4), (5, .int a5)] → W p l e ({ frames := 4, cells := 0, slots := 0, locals := 98 }) s m args below meth c H locs 0 0 (MQ below (qQv D qCl (cT K) (cW h K) A res) args s 0 0 A) (F0 m 0 ls []) := by
  intro H locs ls G hl
  unfold fX_except at hf
  refine lv_aload_n C.1 C.2.1 qm_X_except_0 rfl (lv_at hl 0 rfl) ?_
  refine lv_iload_n C.1 C.2.1 qm_X_except_1 rfl (lv_at hl 1 rfl) ?_
  refine q_put (wf := (cW h K)) (S' := (pI S 2 a1)) C G qi_X qY_X qy_X qn_X 0 rfl rfl 9 (by decide) qz_240 rfl rfl (Nat.le_of_ble_eq_true rfl) rfl qm_X_except_2 (fun H locs G => ?_)
  refine lv_aload_n C.1 C.2.1 qm_X_except_5 rfl (lv_at hl 0 rfl) ?_
  refine lv_dup C.1 C.2.1 qm_X_except_6 rfl ?_
  refine q_get (wf := (cW h K)) (v := .int ((pI S 2 a1).1 3)) C G qi_X 0 rfl rfl 10 (by decide) qz_241 rfl qm_X_except_7 ?_
  refine lv_iconst (v := 1) C.1 C.2.1 qm_X_except_10 (by decide) ?_
  refine lv_iadd C.1 C.2.1 qm_X_except_11 ?_
  refine q_put (wf := (cW h K)) (S' := (pI (pI S 2 a1) 3 (((pI S 2 a1).1 3) + 1))) C G qi_X qY_X qy_X qn_X 0 rfl rfl 10 (by decide) qz_241 rfl rfl (Nat.le_of_ble_eq_true rfl) rfl qm_X_except_12 (fun H locs G => ?_)
  refine lv_aload_n C.1 C.2.1 qm_X_except_15 rfl (lv_at hl 0 rfl) ?_
  refine q_get (wf := (cW h K)) (v := .ref (h 5)) C G qi_X 0 rfl rfl 3 (by decide) qz_234 rfl qm_X_except_16 ?_
  refine lv_iconst (v := 0) C.1 C.2.1 qm_X_except_19 (by decide) ?_
  refine q_putN (host := "QuadMode") (wf := (cW h K)) (S' := (pI (pI (pI S 2 a1) 3 (((pI S 2 a1).1 3) + 1)) 7 0)) C G qi_Co qY_Co qy_Co qn_Co 5 rfl rfl 10 (by decide) (by decide +kernel) rfl rfl (Nat.le_of_ble_eq_true rfl) rfl qm_X_except_20 (fun H locs G => ?_)
  refine lv_aload_n C.1 C.2.1 qm_X_except_23 rfl (lv_at hl 0 rfl) ?_
  refine q_get (wf := (cW h K)) (v := .ref (h 5)) C G qi_X 0 rfl rfl 3 (by decide) qz_234 rfl qm_X_except_24 ?_
  refine q_getN (host := "QuadMode") (wf := (cW h K)) (v := .int ((pI (pI (pI S 2 a1) 3 (((pI S 2 a1).1 3) + 1)) 7 0).1 6)) C G qi_Co 5 rfl rfl 9 (by decide) (by decide +kernel) rfl qm_X_except_27 ?_
  refine lv_istore (lv' := [(6, .int ((pI (pI (pI S 2 a1) 3 (((pI S 2 a1).1 3) + 1)) 7 0).1 6)), (0, .ref (h 0)), (1, .int a1), (2, .int a2), (3, .int a3), (4, .int a4), (5, .int a5)]) C.1 C.2.1 qm_X_except_30 hl (by decide) rfl (fun ls hl => ?_)
  refine lv_aload_n C.1 C.2.1 qm_X_except_32 rfl (lv_at hl 1 rfl) ?_
  refine q_get (wf := (cW h K)) (v := .ref (h 5)) C G qi_X 0 rfl rfl 3 (by decide) qz_234 rfl qm_X_except_33 ?_
  obtain ⟨q1, c1, hf⟩ := bnd_s hf
  refine q_callVi (wf := (cW h K)) (n := 0) (As := []) (q0 := 5) (ci := 1) C G hl.1 (kCo_mode (l := l) c1) qx_X_187 qm_Co_mode_d ⟨by decide, by decide⟩ ⟨Nat.le_refl _, Nat.le_refl _⟩ rfl rfl rfl rfl rfl (Nat.le_of_ble_eq_true rfl) qm_X_except_36 (fun H locs G => ?_)
  refine lv_istore (lv' := [(7, .int q1.1), (6, .int ((pI (pI (pI S 2 a1) 3 (((pI S 2 a1).1 3) + 1)) 7 0).1 6)), (0, .ref (h 0)), (1, .int a1), (2, .int a2), (3, .int a3), (4, .int a4), (5, .int a5)]) C.1 C.2.1 qm_X_except_39 hl (by decide) rfl (fun ls hl => ?_)
  refine lv_aload_n C.1 C.2.1 qm_X_except_41 rfl (lv_at hl 2 rfl) ?_
  refine q_get (wf := (cW h K)) (v := .ref (h 5)) C G qi_X 0 rfl rfl 3 (by decide) qz_234 rfl qm_X_except_42 ?_
  refine lv_iload_n C.1 C.2.1 qm_X_except_45 rfl (lv_at hl 4 rfl) ?_
  refine lv_bipush (v := 24) C.1 C.2.1 qm_X_except_46 (by decide) ?_
  refine lv_ishl C.1 C.2.1 qm_X_except_48 ?_
  refine lv_iload C.1 C.2.1 qm_X_except_49 (lv_at hl 0 rfl) ?_
  refine lv_bipush (v := 22) C.1 C.2.1 qm_X_except_51 (by decide) ?_
  refine lv_ishl C.1 C.2.1 qm_X_except_53 ?_
  refine lv_ior C.1 C.2.1 qm_X_except_54 ?_
  refine q_putN (host := "QuadMode") (wf := (cW h K)) (S' := (pI q1.2 6 ((a2 <<< ((24 : Int32) &&& 31)) ||| (q1.1 <<< ((22 : Int32) &&& 31))))) C G qi_Co qY_Co qy_Co qn_Co 5 rfl rfl 9 (by decide) (by decide +kernel) rfl rfl (Nat.le_of_ble_eq_true rfl) rfl qm_X_except_55 (fun H locs G => ?_)
  refine lv_aload_n C.1 C.2.1 qm_X_except_58 rfl (lv_at hl 2 rfl) ?_
  refine q_get (wf := (cW h K)) (v := .ref (h 5)) C G qi_X 0 rfl rfl 3 (by decide) qz_234 rfl qm_X_except_59 ?_
  refine lv_iload C.1 C.2.1 qm_X_except_62 (lv_at hl 1 rfl) ?_
  obtain ⟨S2, c2, hf⟩ := bnd_s hf
  refine q_callVv (wf := (cW h K)) (n := 1) (As := [.int ((pI (pI (pI S 2 a1) 3 (((pI S 2 a1).1 3) + 1)) 7 0).1 6)]) (q0 := 5) (ci := 1) C G hl.1 (kCo_push (l := l) c2) qx_X_202 qm_Co_push_d ⟨by decide, by decide⟩ ⟨Nat.le_refl _, Nat.le_refl _⟩ rfl rfl rfl rfl rfl (Nat.le_of_ble_eq_true rfl) qm_X_except_64 (fun H locs G => ?_)
  refine lv_aload_n C.1 C.2.1 qm_X_except_67 rfl (lv_at hl 2 rfl) ?_
  refine q_get (wf := (cW h K)) (v := .ref (h 5)) C G qi_X 0 rfl rfl 3 (by decide) qz_234 rfl qm_X_except_68 ?_
  refine lv_aload_n C.1 C.2.1 qm_X_except_71 rfl (lv_at hl 2 rfl) ?_
  refine q_get (wf := (cW h K)) (v := .ref (h 5)) C G qi_X 0 rfl rfl 3 (by decide) qz_234 rfl qm_X_except_72 ?_
  refine lv_bipush (v := 15) C.1 C.2.1 qm_X_except_75 (by decide) ?_
  obtain ⟨q3, c3, hf⟩ := bnd_s hf
  refine q_callVi (wf := (cW h K)) (n := 1) (As := [.int 15]) (q0 := 5) (ci := 1) C G hl.1 (kCo_get (l := l) c3) qx_X_81 qm_Co_get_d ⟨by decide, by decide⟩ ⟨Nat.le_refl _, Nat.le_refl _⟩ rfl rfl rfl rfl rfl (Nat.le_of_ble_eq_true rfl) qm_X_except_77 (fun H locs G => ?_)
  obtain ⟨S4, c4, hf⟩ := bnd_s hf
  refine q_callVv (wf := (cW h K)) (n := 1) (As := [.int q3.1]) (q0 := 5) (ci := 1) C G hl.1 (kCo_push (l := l) c4) qx_X_202 qm_Co_push_d ⟨by decide, by decide⟩ ⟨Nat.le_refl _, Nat.le_refl _⟩ rfl rfl rfl rfl rfl (Nat.le_of_ble_eq_true rfl) qm_X_except_80 (fun H locs G => ?_)
  refine lv_iload_n C.1 C.2.1 qm_X_except_83 rfl (lv_at hl 5 rfl) ?_
  refine lv_if_le (tgt := 96) C.1 C.2.1 qm_X_except_84 (by decide) (fun b5 => ?_) (fun b5 => ?_)
  · have hf := if_t b5 hf
    exact wX_except_96 C S4 a1 a3 a5 hf _ _ _ G (lv_sub hl [2, 3, 5, 7] rfl)
  · have hf := if_f b5 hf
    refine lv_aload_n C.1 C.2.1 qm_X_except_87 rfl (lv_at hl 2 rfl) ?_
    refine q_get (wf := (cW h K)) (v := .ref (h 5)) C G qi_X 0 rfl rfl 3 (by decide) qz_234 rfl qm_X_except_88 ?_
    refine lv_iload C.1 C.2.1 qm_X_except_91 (lv_at hl 6 rfl) ?_
    obtain ⟨S6, c6, hf⟩ := bnd_s hf
    refine q_callVv (wf := (cW h K)) (n := 1) (As := [.int a4]) (q0 := 5) (ci := 1) C G hl.1 (kCo_push (l := l) c6) qx_X_202 qm_Co_push_d ⟨by decide, by decide⟩ ⟨Nat.le_refl _, Nat.le_refl _⟩ rfl rfl rfl rfl rfl (Nat.le_of_ble_eq_true rfl) qm_X_except_93 (fun H locs G => ?_)
    exact wX_except_96 C S6 a1 a3 a5 hf _ _ _ G (lv_sub hl [2, 3, 5, 7] rfl)
theorem kX_except {l : Launch} {ad : Nat → Nat} {D : va_G} {h : Nat → Nat} {K : Nat → ClassId} {res : qS} {S : qS} {a1 : Int32} {a2 : Int32} {a3 : Int32} {a4 : Int32} {a5 : Int32} (hf : fX_except S a1 a2 a3 a4 a5 = some res) : qMv l qm_X_except qm_X_except_c 8 4 98 D qCl (cT K) ad (cW h K) [.ref (h 0), .int a1, .int a2, .int a3, .int a4, .int a5] S res := qMv_of (by decide) (Nat.le_of_ble_eq_true rfl) (fun _ _ _ _ _ _ _ _ _ _ C G hl => wX_except C S a1 a2 a3 a4 a5 hf _ _ _ G hl)
set_option maxHeartbeats 4000000 in
set_option maxRecDepth 100000 in
theorem wX_settle_171 {l : Launch} {D : va_G} {h : Nat → Nat} {K : Nat → ClassId} {res : qS} {p : Program} {e : Env} {s : State} {m : MethodId} {args : Array Value} {below : List Frame} {meth : Method} {c : Code} {A : Nat → Prop} {ad : Nat → Nat} (C : qC p s m args meth c qm_X_settle_c 3 none qR_X ad) (S : qS) (hf : fX_settle_171 S = some res) : ∀ (H : Heap) (locs : List Loc) (ls : Array Slot), qG D qCl (cT K) A s (cW h K S) H locs → lv_has ls 3 [] → W p l e ({ frames := 5, cells := 0, slots := 0, locals := 125 }) s m args below meth c H locs 0 0 (MQ below (qQv D qCl (cT K) (cW h K) A res) args s 0 0 A) (F0 m 171 ls []) := by
  intro H locs ls G hl
  unfold fX_settle_171 at hf
  exact q_vret (wf := (cW h K)) C G hf qm_X_settle_171
set_option maxHeartbeats 4000000 in
set_option maxRecDepth 100000 in
theorem wX_settle_145 {l : Launch} {D : va_G} {h : Nat → Nat} {K : Nat → ClassId} {res : qS} {p : Program} {e : Env} {s : State} {m : MethodId} {args : Array Value} {below : List Frame} {meth : Method} {c : Code} {A : Nat → Prop} {ad : Nat → Nat} (C : qC p s m args meth c qm_X_settle_c 3 none qR_X ad) (S : qS) (hf : fX_settle_145 S = some res) : ∀ (H : Heap) (locs : List Loc) (ls : Array Slot), qG D qCl (cT K) A s (cW h K S) H locs → lv_has ls 3 [(0, .ref (h 0))] → W p l e ({ frames := 5, cells := 0, slots := 0, locals := 125 }) s m args below meth c H locs 0 0 (MQ below (qQv D qCl (cT K) (cW h K) A res) args s 0 0 A) (F0 m 145 ls []) := by
  intro H locs ls G hl
  unfold fX_settle_145 at hf
  refine lv_aload_n C.1 C.2.1 qm_X_settle_145 rfl (lv_at hl 0 rfl) ?_
  refine q_get (wf := (cW h K)) (v := .ref (h 5)) C G qi_X 0 rfl rfl 3 (by decide) qz_234 rfl qm_X_settle_146 ?_
  refine q_getN (host := "QuadMode") (wf := (cW h K)) (v := .int (S.1 10)) C G qi_Co 5 rfl rfl 13 (by decide) (by decide +kernel) rfl qm_X_settle_149 ?_
  refine lv_if_eq (tgt := 171) C.1 C.2.1 qm_X_settle_152 (by decide) (fun b1 => ?_) (fun b1 => ?_)
  · have hf := if_t b1 hf
    exact wX_settle_171 C S hf _ _ _ G (lv_sub hl [] rfl)
  · have hf := if_f b1 hf
    refine lv_aload_n C.1 C.2.1 qm_X_settle_155 rfl (lv_at hl 0 rfl) ?_
    refine lv_bipush (v := 7) C.1 C.2.1 qm_X_settle_156 (by decide) ?_
    refine lv_iconst (v := 0) C.1 C.2.1 qm_X_settle_158 (by decide) ?_
    refine lv_iconst (v := 1) C.1 C.2.1 qm_X_settle_159 (by decide) ?_
    refine lv_aload_n C.1 C.2.1 qm_X_settle_160 rfl (lv_at hl 0 rfl) ?_
    refine q_get (wf := (cW h K)) (v := .ref (h 5)) C G qi_X 0 rfl rfl 3 (by decide) qz_234 rfl qm_X_settle_161 ?_
    refine q_getN (host := "QuadMode") (wf := (cW h K)) (v := .int (S.1 10)) C G qi_Co 5 rfl rfl 13 (by decide) (by decide +kernel) rfl qm_X_settle_164 ?_
    refine lv_iconst (v := 0) C.1 C.2.1 qm_X_settle_167 (by decide) ?_
    obtain ⟨S2, c2, hf⟩ := bnd_s hf
    refine q_callVv (wf := (cW h K)) (n := 5) (As := [.int 7, .int 0, .int 1, .int (S.1 10), .int 0]) (q0 := 0) (ci := 6) C G hl.1 (kX_except (l := l) c2) qx_X_183 qm_X_except_d ⟨by decide, by decide⟩ ⟨Nat.le_refl _, Nat.le_refl _⟩ rfl rfl rfl rfl rfl (Nat.le_of_ble_eq_true rfl) qm_X_settle_168 (fun H locs G => ?_)
    exact wX_settle_171 C S2 hf _ _ _ G (lv_sub hl [] rfl)
set_option maxHeartbeats 4000000 in
set_option maxRecDepth 100000 in
theorem wX_settle_63 {l : Launch} {D : va_G} {h : Nat → Nat} {K : Nat → ClassId} {res : qS} {p : Program} {e : Env} {s : State} {m : MethodId} {args : Array Value} {below : List Frame} {meth : Method} {c : Code} {A : Nat → Prop} {ad : Nat → Nat} (C : qC p s m args meth c qm_X_settle_c 3 none qR_X ad) (S : qS) (y1 : Int32) (y2 : Int32) (y3 : Int32) (hf : fX_settle_63 S y1 y2 y3 = some res) : ∀ (H : Heap) (locs : List Loc) (ls : Array Slot), qG D qCl (cT K) A s (cW h K S) H locs → lv_has ls 3 [(0, .ref (h 0))] → W p l e ({ frames := 5, cells := 0, slots := 0, locals := 125 }) s m args below meth c H locs 0 0 (MQ below (qQv D qCl (cT K) (cW h K) A res) args s 0 0 A) (F0 m 63 ls [.int y3, .int y2, .int y1, .ref (h 0)]) := by
  intro H locs ls G hl
  unfold fX_settle_63 at hf
  refine lv_aload_n C.1 C.2.1 qm_X_settle_63 rfl (lv_at hl 0 rfl) ?_
  refine q_get (wf := (cW h K)) (v := .ref (h 5)) C G qi_X 0 rfl rfl 3 (by decide) qz_234 rfl qm_X_settle_64 ?_
  refine q_getN (host := "QuadMode") (wf := (cW h K)) (v := .int (S.1 8)) C G qi_Co 5 rfl rfl 11 (by decide) (by decide +kernel) rfl qm_X_settle_67 ?_
  refine lv_aload_n C.1 C.2.1 qm_X_settle_70 rfl (lv_at hl 0 rfl) ?_
  refine q_get (wf := (cW h K)) (v := .ref (h 5)) C G qi_X 0 rfl rfl 3 (by decide) qz_234 rfl qm_X_settle_71 ?_
  refine q_getN (host := "QuadMode") (wf := (cW h K)) (v := .int (S.1 9)) C G qi_Co 5 rfl rfl 12 (by decide) (by decide +kernel) rfl qm_X_settle_74 ?_
  obtain ⟨S1, c1, hf⟩ := bnd_s hf
  refine q_callVv (wf := (cW h K)) (n := 5) (As := [.int y1, .int y2, .int y3, .int (S.1 8), .int (S.1 9)]) (q0 := 0) (ci := 6) C G hl.1 (kX_except (l := l) c1) qx_X_183 qm_X_except_d ⟨by decide, by decide⟩ ⟨Nat.le_refl _, Nat.le_refl _⟩ rfl rfl rfl rfl rfl (Nat.le_of_ble_eq_true rfl) qm_X_settle_77 (fun H locs G => ?_)
  refine lv_goto (tgt := 171) C.1 C.2.1 qm_X_settle_80 (by decide) ?_
  exact wX_settle_171 C S1 hf _ _ _ G (lv_sub hl [] rfl)
set_option maxHeartbeats 4000000 in
set_option maxRecDepth 100000 in
theorem wX_settle_44 {l : Launch} {D : va_G} {h : Nat → Nat} {K : Nat → ClassId} {res : qS} {p : Program} {e : Env} {s : State} {m : MethodId} {args : Array Value} {below : List Frame} {meth : Method} {c : Code} {A : Nat → Prop} {ad : Nat → Nat} (C : qC p s m args meth c qm_X_settle_c 3 none qR_X ad) (S : qS) (y0 : Int32) (hf : fX_settle_44 S y0 = some res) : ∀ (H : Heap) (locs : List Loc) (ls : Array Slot), qG D qCl (cT K) A s (cW h K S) H locs → lv_has ls 3 [(0, .ref (h 0))] → W p l e ({ frames := 5, cells := 0, slots := 0, locals := 125 }) s m args below meth c H locs 0 0 (MQ below (qQv D qCl (cT K) (cW h K) A res) args s 0 0 A) (F0 m 44 ls [.int y0]) := by
  intro H locs ls G hl
  unfold fX_settle_44 at hf
  refine lv_istore_n (lv' := [(2, .int y0), (0, .ref (h 0))]) C.1 C.2.1 qm_X_settle_44 rfl hl (by decide) rfl (fun ls hl => ?_)
  refine lv_aload_n C.1 C.2.1 qm_X_settle_45 rfl (lv_at hl 1 rfl) ?_
  refine lv_aload_n C.1 C.2.1 qm_X_settle_46 rfl (lv_at hl 1 rfl) ?_
  refine q_get (wf := (cW h K)) (v := .ref (h 5)) C G qi_X 0 rfl rfl 3 (by decide) qz_234 rfl qm_X_settle_47 ?_
  refine q_getN (host := "QuadMode") (wf := (cW h K)) (v := .int (S.1 7)) C G qi_Co 5 rfl rfl 10 (by decide) (by decide +kernel) rfl qm_X_settle_50 ?_
  refine lv_iconst (v := 0) C.1 C.2.1 qm_X_settle_53 (by decide) ?_
  refine lv_iload_n C.1 C.2.1 qm_X_settle_54 rfl (lv_at hl 0 rfl) ?_
  refine lv_if_eq (tgt := 62) C.1 C.2.1 qm_X_settle_55 (by decide) (fun b1 => ?_) (fun b1 => ?_)
  · have hf := if_t b1 hf
    refine lv_iconst (v := 0) C.1 C.2.1 qm_X_settle_62 (by decide) ?_
    exact wX_settle_63 C S (S.1 7) 0 0 hf _ _ _ G (lv_sub hl [1] rfl)
  · have hf := if_f b1 hf
    refine lv_iconst (v := 2) C.1 C.2.1 qm_X_settle_58 (by decide) ?_
    refine lv_goto (tgt := 63) C.1 C.2.1 qm_X_settle_59 (by decide) ?_
    exact wX_settle_63 C S (S.1 7) 0 2 hf _ _ _ G (lv_sub hl [1] rfl)
set_option maxHeartbeats 4000000 in
set_option maxRecDepth 100000 in
theorem wX_settle_39 {l : Launch} {D : va_G} {h : Nat → Nat} {K : Nat → ClassId} {res : qS} {p : Program} {e : Env} {s : State} {m : MethodId} {args : Array Value} {below : List Frame} {meth : Method} {c : Code} {A : Nat → Prop} {ad : Nat → Nat} (C : qC p s m args meth c qm_X_settle_c 3 none qR_X ad) (S : qS) (hf : fX_settle_39 S = some res) : ∀ (H : Heap) (locs : List Loc) (ls : Array Slot), qG D qCl (cT K) A s (cW h K S) H locs → lv_has ls 3 [(0, .ref (h 0))] → W p l e ({ frames := 5, cells := 0, slots := 0, locals := 125 }) s m args below meth c H locs 0 0 (MQ below (qQv D qCl (cT K) (cW h K) A res) args s 0 0 A) (F0 m 39 ls []) := by
  intro H locs ls G hl
  unfold fX_settle_39 at hf
  refine lv_iconst (v := 1) C.1 C.2.1 qm_X_settle_39 (by decide) ?_
  refine lv_goto (tgt := 44) C.1 C.2.1 qm_X_settle_40 (by decide) ?_
  exact wX_settle_44 C S 1 hf _ _ _ G (lv_sub hl [0] rfl)
set_option maxHeartbeats 4000000 in
set_option maxRecDepth 100000 in
theorem wX_settle {l : Launch} {D : va_G} {h : Nat → Nat} {K : Nat → ClassId} {res : qS} {p : Program} {e : Env} {s : State} {m : MethodId} {args : Array Value} {below : List Frame} {meth : Method} {c : Code} {A : Nat → Prop} {ad : Nat → Nat} (C : qC p s m args meth c qm_X_settle_c 3 none qR_X ad) (S : qS) (a1 : Int32) (hf : fX_settle S a1 = some res) : ∀ (H : Heap) (locs : List Loc) (ls : Array Slot), qG D qCl (cT K) A s (cW h K S) H locs → lv_has ls 3 [(0, .ref (h 0)), (1, .int a1)] → W p l e ({ frames := 5, cells := 0, slots := 0, locals := 125 }) s m args below meth c H locs 0 0 (MQ below (qQv D qCl (cT K) (cW h K) A res) args s 0 0 A) (F0 m 0 ls []) := by
  intro H locs ls G hl
  unfold fX_settle at hf
  refine lv_aload_n C.1 C.2.1 qm_X_settle_0 rfl (lv_at hl 0 rfl) ?_
  refine q_get (wf := (cW h K)) (v := .ref (h 5)) C G qi_X 0 rfl rfl 3 (by decide) qz_234 rfl qm_X_settle_1 ?_
  refine q_getN (host := "QuadMode") (wf := (cW h K)) (v := .int (S.1 7)) C G qi_Co 5 rfl rfl 10 (by decide) (by decide +kernel) rfl qm_X_settle_4 ?_
  refine lv_if_eq (tgt := 83) C.1 C.2.1 qm_X_settle_7 (by decide) (fun b1 => ?_) (fun b1 => ?_)
  · have hf := if_t b1 hf
    refine lv_iload_n C.1 C.2.1 qm_X_settle_83 rfl (lv_at hl 1 rfl) ?_
    refine lv_if_ne (tgt := 95) C.1 C.2.1 qm_X_settle_84 (by decide) (fun b2 => ?_) (fun b2 => ?_)
    · have hf := if_t b2 hf
      refine lv_iload_n C.1 C.2.1 qm_X_settle_95 rfl (lv_at hl 1 rfl) ?_
      refine lv_bipush (v := 6) C.1 C.2.1 qm_X_settle_96 (by decide) ?_
      refine lv_icmp_lt (tgt := 145) C.1 C.2.1 qm_X_settle_98 (by decide) (fun b3 => ?_) (fun b3 => ?_)
      · have hf := if_t b3 hf
        exact wX_settle_145 C S hf _ _ _ G (lv_sub hl [0] rfl)
      · have hf := if_f b3 hf
        refine lv_iload_n C.1 C.2.1 qm_X_settle_101 rfl (lv_at hl 1 rfl) ?_
        refine lv_bipush (v := 9) C.1 C.2.1 qm_X_settle_102 (by decide) ?_
        refine lv_icmp_gt (tgt := 145) C.1 C.2.1 qm_X_settle_104 (by decide) (fun b4 => ?_) (fun b4 => ?_)
        · have hf := if_t b4 hf
          exact wX_settle_145 C S hf _ _ _ G (lv_sub hl [0] rfl)
        · have hf := if_f b4 hf
          refine lv_iload_n C.1 C.2.1 qm_X_settle_107 rfl (lv_at hl 1 rfl) ?_
          refine lv_bipush (v := 6) C.1 C.2.1 qm_X_settle_108 (by decide) ?_
          refine lv_isub C.1 C.2.1 qm_X_settle_110 ?_
          refine lv_istore_n (lv' := [(2, .int (a1 - 6)), (0, .ref (h 0)), (1, .int a1)]) C.1 C.2.1 qm_X_settle_111 rfl hl (by decide) rfl (fun ls hl => ?_)
          refine lv_aload_n C.1 C.2.1 qm_X_settle_112 rfl (lv_at hl 1 rfl) ?_
          refine lv_bipush (v := 8) C.1 C.2.1 qm_X_settle_113 (by decide) ?_
          refine lv_iload_n C.1 C.2.1 qm_X_settle_115 rfl (lv_at hl 0 rfl) ?_
          refine lv_iadd C.1 C.2.1 qm_X_settle_116 ?_
          refine lv_iload_n C.1 C.2.1 qm_X_settle_117 rfl (lv_at hl 0 rfl) ?_
          refine lv_aload_n C.1 C.2.1 qm_X_settle_118 rfl (lv_at hl 1 rfl) ?_
          refine q_get (wf := (cW h K)) (v := .ref (h 5)) C G qi_X 0 rfl rfl 3 (by decide) qz_234 rfl qm_X_settle_119 ?_
          obtain ⟨q5, c5, hf⟩ := bnd_s hf
          refine q_callVi (wf := (cW h K)) (n := 0) (As := []) (q0 := 5) (ci := 1) C G hl.1 (kCo_mode (l := l) c5) qx_X_187 qm_Co_mode_d ⟨by decide, by decide⟩ ⟨Nat.le_refl _, Nat.le_refl _⟩ rfl rfl rfl rfl rfl (Nat.le_of_ble_eq_true rfl) qm_X_settle_122 (fun H locs G => ?_)
          refine q_min C hl.1 ⟨qz_815, qz_695, qz_82, qz_696⟩ (by decide) (Nat.le_of_ble_eq_true rfl) ⟨Nat.le_refl _, Nat.le_refl _⟩ qm_X_settle_125 ?_
          refine lv_iconst (v := 1) C.1 C.2.1 qm_X_settle_128 (by decide) ?_
          refine lv_aload_n C.1 C.2.1 qm_X_settle_129 rfl (lv_at hl 1 rfl) ?_
          refine q_get (wf := (cW h K)) (v := .ref (h 11)) C G qi_X 0 rfl rfl 4 (by decide) qz_235 rfl qm_X_settle_130 ?_
          refine lv_iconst (v := 0) C.1 C.2.1 qm_X_settle_133 (by decide) ?_
          refine q_aald (n := 12) C G (by decide) (by decide) qm_X_settle_134 ?_
          refine q_getN (host := "QuadMode") (wf := (cW h K)) (v := .int (q5.2.1 14)) C G qi_Op 12 rfl rfl 3 (by decide) (by decide +kernel) rfl qm_X_settle_135 ?_
          refine lv_iconst (v := 0) C.1 C.2.1 qm_X_settle_138 (by decide) ?_
          obtain ⟨S6, c6, hf⟩ := bnd_s hf
          refine q_callVv (wf := (cW h K)) (n := 5) (As := [.int (8 + (a1 - 6)), .int (if q5.1 < (a1 - 6) then q5.1 else (a1 - 6)), .int 1, .int (q5.2.1 14), .int 0]) (q0 := 0) (ci := 6) C G hl.1 (kX_except (l := l) c6) qx_X_183 qm_X_except_d ⟨by decide, by decide⟩ ⟨Nat.le_refl _, Nat.le_refl _⟩ rfl rfl rfl rfl rfl (Nat.le_of_ble_eq_true rfl) qm_X_settle_139 (fun H locs G => ?_)
          refine lv_goto (tgt := 171) C.1 C.2.1 qm_X_settle_142 (by decide) ?_
          exact wX_settle_171 C S6 hf _ _ _ G (lv_sub hl [] rfl)
    · have hf := if_f (not_not_intro b2) hf
      refine lv_aload_n C.1 C.2.1 qm_X_settle_87 rfl (lv_at hl 0 rfl) ?_
      refine lv_iconst (v := 1) C.1 C.2.1 qm_X_settle_88 (by decide) ?_
      refine q_put (wf := (cW h K)) (S' := (pI S 0 1)) C G qi_X qY_X qy_X qn_X 0 rfl rfl 7 (by decide) qz_238 rfl rfl (Nat.le_of_ble_eq_true rfl) rfl qm_X_settle_89 (fun H locs G => ?_)
      refine lv_goto (tgt := 171) C.1 C.2.1 qm_X_settle_92 (by decide) ?_
      exact wX_settle_171 C (pI S 0 1) hf _ _ _ G (lv_sub hl [] rfl)
  · have hf := if_f b1 hf
    refine lv_aload_n C.1 C.2.1 qm_X_settle_10 rfl (lv_at hl 0 rfl) ?_
    refine q_get (wf := (cW h K)) (v := .ref (h 5)) C G qi_X 0 rfl rfl 3 (by decide) qz_234 rfl qm_X_settle_11 ?_
    obtain ⟨S7, c7, hf⟩ := bnd_s hf
    refine q_callVv (wf := (cW h K)) (n := 0) (As := []) (q0 := 5) (ci := 1) C G hl.1 (kCo_takeBack (l := l) c7) qx_X_174 qm_Co_takeBack_d ⟨by decide, by decide⟩ ⟨Nat.le_refl _, Nat.le_refl _⟩ rfl rfl rfl rfl rfl (Nat.le_of_ble_eq_true rfl) qm_X_settle_14 (fun H locs G => ?_)
    refine lv_aload_n C.1 C.2.1 qm_X_settle_17 rfl (lv_at hl 0 rfl) ?_
    refine q_get (wf := (cW h K)) (v := .ref (h 5)) C G qi_X 0 rfl rfl 3 (by decide) qz_234 rfl qm_X_settle_18 ?_
    refine q_getN (host := "QuadMode") (wf := (cW h K)) (v := .int (S7.1 7)) C G qi_Co 5 rfl rfl 10 (by decide) (by decide +kernel) rfl qm_X_settle_21 ?_
    refine lv_iconst (v := 4) C.1 C.2.1 qm_X_settle_24 (by decide) ?_
    refine lv_icmp_eq (tgt := 39) C.1 C.2.1 qm_X_settle_25 (by decide) (fun b8 => ?_) (fun b8 => ?_)
    · have hf := if_t b8 hf
      exact wX_settle_39 C S7 hf _ _ _ G (lv_sub hl [0] rfl)
    · have hf := if_f b8 hf
      refine lv_aload_n C.1 C.2.1 qm_X_settle_28 rfl (lv_at hl 0 rfl) ?_
      refine q_get (wf := (cW h K)) (v := .ref (h 5)) C G qi_X 0 rfl rfl 3 (by decide) qz_234 rfl qm_X_settle_29 ?_
      refine q_getN (host := "QuadMode") (wf := (cW h K)) (v := .int (S7.1 7)) C G qi_Co 5 rfl rfl 10 (by decide) (by decide +kernel) rfl qm_X_settle_32 ?_
      refine lv_iconst (v := 5) C.1 C.2.1 qm_X_settle_35 (by decide) ?_
      refine lv_icmp_ne (tgt := 43) C.1 C.2.1 qm_X_settle_36 (by decide) (fun b9 => ?_) (fun b9 => ?_)
      · have hf := if_t b9 hf
        refine lv_iconst (v := 0) C.1 C.2.1 qm_X_settle_43 (by decide) ?_
        exact wX_settle_44 C S7 0 hf _ _ _ G (lv_sub hl [0] rfl)
      · have hf := if_f (not_not_intro b9) hf
        exact wX_settle_39 C S7 hf _ _ _ G (lv_sub hl [0] rfl)
theorem kX_settle {l : Launch} {ad : Nat → Nat} {D : va_G} {h : Nat → Nat} {K : Nat → ClassId} {res : qS} {S : qS} {a1 : Int32} (hf : fX_settle S a1 = some res) : qMv l qm_X_settle qm_X_settle_c 3 5 125 D qCl (cT K) ad (cW h K) [.ref (h 0), .int a1] S res := qMv_of (by decide) (Nat.le_of_ble_eq_true rfl) (fun _ _ _ _ _ _ _ _ _ _ C G hl => wX_settle C S a1 hf _ _ _ G hl)
set_option maxHeartbeats 4000000 in
set_option maxRecDepth 100000 in
theorem wX_step_115 {l : Launch} {D : va_G} {h : Nat → Nat} {K : Nat → ClassId} {res : qS} {p : Program} {e : Env} {s : State} {m : MethodId} {args : Array Value} {below : List Frame} {meth : Method} {c : Code} {A : Nat → Prop} {ad : Nat → Nat} (C : qC p s m args meth c qm_X_step_c 4 none qR_X ad) {av : Nat → Nat} (Z : qZ ad av A s s.heap) (S : qS) (x1 : Int32) (hf : fX_step_115 S x1 = some res) : ∀ (H : Heap) (locs : List Loc) (ls : Array Slot), qG D qCl (cT K) A s (cW h K S) H locs → lv_has ls 4 [(0, .ref (h 0)), (1, .int x1)] → W p l e ({ frames := 6, cells := 0, slots := 0, locals := 152 }) s m args below meth c H locs 0 0 (MQ below (qQv D qCl (cT K) (cW h K) A res) args s 0 0 A) (F0 m 115 ls []) := by
  intro H locs ls G hl
  unfold fX_step_115 at hf
  refine lv_aload_n C.1 C.2.1 qm_X_step_115 rfl (lv_at hl 0 rfl) ?_
  refine lv_iload_n C.1 C.2.1 qm_X_step_116 rfl (lv_at hl 1 rfl) ?_
  obtain ⟨S1, c1, hf⟩ := bnd_s hf
  refine q_callVv (wf := (cW h K)) (n := 1) (As := [.int x1]) (q0 := 0) (ci := 6) C G hl.1 (kX_settle (l := l) c1) qx_X_171 qm_X_settle_d ⟨by decide, by decide⟩ ⟨Nat.le_refl _, Nat.le_refl _⟩ rfl rfl rfl rfl rfl (Nat.le_of_ble_eq_true rfl) qm_X_step_117 (fun H locs G => ?_)
  exact q_vret (wf := (cW h K)) C G hf qm_X_step_120
set_option maxHeartbeats 4000000 in
set_option maxRecDepth 100000 in
theorem wX_step_97 {l : Launch} {D : va_G} {h : Nat → Nat} {K : Nat → ClassId} {res : qS} {p : Program} {e : Env} {s : State} {m : MethodId} {args : Array Value} {below : List Frame} {meth : Method} {c : Code} {A : Nat → Prop} {ad : Nat → Nat} (C : qC p s m args meth c qm_X_step_c 4 none qR_X ad) {av : Nat → Nat} (Z : qZ ad av A s s.heap) (S : qS) (x1 : Int32) (hf : fX_step_97 S x1 = some res) : ∀ (H : Heap) (locs : List Loc) (ls : Array Slot), qG D qCl (cT K) A s (cW h K S) H locs → lv_has ls 4 [(0, .ref (h 0)), (1, .int x1)] → W p l e ({ frames := 6, cells := 0, slots := 0, locals := 152 }) s m args below meth c H locs 0 0 (MQ below (qQv D qCl (cT K) (cW h K) A res) args s 0 0 A) (F0 m 97 ls []) := by
  intro H locs ls G hl
  unfold fX_step_97 at hf
  refine lv_aload_n C.1 C.2.1 qm_X_step_97 rfl (lv_at hl 0 rfl) ?_
  refine q_get (wf := (cW h K)) (v := .ref (h 5)) C G qi_X 0 rfl rfl 3 (by decide) qz_234 rfl qm_X_step_98 ?_
  refine q_getN (host := "QuadMode") (wf := (cW h K)) (v := .int (S.1 7)) C G qi_Co 5 rfl rfl 10 (by decide) (by decide +kernel) rfl qm_X_step_101 ?_
  refine lv_if_ne (tgt := 115) C.1 C.2.1 qm_X_step_104 (by decide) (fun b1 => ?_) (fun b1 => ?_)
  · have hf := if_t b1 hf
    exact wX_step_115 C Z S x1 hf _ _ _ G (lv_sub hl [0, 1] rfl)
  · have hf := if_f (not_not_intro b1) hf
    refine lv_aload_n C.1 C.2.1 qm_X_step_107 rfl (lv_at hl 0 rfl) ?_
    refine q_get (wf := (cW h K)) (v := .ref (h 16)) C G qi_X 0 rfl rfl 6 (by decide) qz_237 rfl qm_X_step_108 ?_
    refine lv_iload_n C.1 C.2.1 qm_X_step_111 rfl (lv_at hl 1 rfl) ?_
    obtain ⟨S2, c2, hf⟩ := bnd_s hf
    refine q_callVv (wf := (cW h K)) (n := 1) (As := [.int x1]) (q0 := 16) (ci := 0) C G hl.1 (kCd_execute (l := l) c2) qx_X_168 qm_Cd_execute_d ⟨by decide, by decide⟩ ⟨Nat.le_refl _, Nat.le_refl _⟩ rfl rfl rfl rfl rfl (Nat.le_of_ble_eq_true rfl) qm_X_step_112 (fun H locs G => ?_)
    exact wX_step_115 C Z S2 x1 hf _ _ _ G (lv_sub hl [0, 1] rfl)
set_option maxHeartbeats 4000000 in
set_option maxRecDepth 100000 in
theorem wX_step_46 {l : Launch} {D : va_G} {h : Nat → Nat} {K : Nat → ClassId} {res : qS} {p : Program} {e : Env} {s : State} {m : MethodId} {args : Array Value} {below : List Frame} {meth : Method} {c : Code} {A : Nat → Prop} {ad : Nat → Nat} (C : qC p s m args meth c qm_X_step_c 4 none qR_X ad) {av : Nat → Nat} (Z : qZ ad av A s s.heap) : ∀ (n : Nat) (S : qS) (x1 : Int32) (j2 : Nat) (x3 : Int32), fX_step_46 n S x1 j2 x3 = some res → ∀ (H : Heap) (locs : List Loc) (ls : Array Slot), qG D qCl (cT K) A s (cW h K S) H locs → lv_has ls 4 [(0, .ref (h 0)), (1, .int x1), (2, .ref (ad j2)), (3, .int x3)] → W p l e ({ frames := 6, cells := 0, slots := 0, locals := 152 }) s m args below meth c H locs 0 0 (MQ below (qQv D qCl (cT K) (cW h K) A res) args s 0 0 A) (F0 m 46 ls []) := by
  intro n
  induction n with
  | zero => intro S x1 j2 x3 hf; cases hf
  | succ n ih =>
    intro S x1 j2 x3 hf H locs ls G hl
    rw [fX_step_46] at hf
    refine lv_iload_n C.1 C.2.1 qm_X_step_46 rfl (lv_at hl 3 rfl) ?_
    refine lv_aload_n C.1 C.2.1 qm_X_step_47 rfl (lv_at hl 2 rfl) ?_
    obtain ⟨b1, hf⟩ := chk_s hf
    refine q_slen (wf := (cW h K)) C Z G hl.1 b1 ⟨by decide, by decide⟩ ⟨Nat.le_refl _, Nat.le_refl _⟩ (Nat.le_of_ble_eq_true rfl) qm_X_step_48 ?_
    refine lv_icmp_ge (tgt := 97) C.1 C.2.1 qm_X_step_51 (by decide) (fun b2 => ?_) (fun b2 => ?_)
    · have hf := if_t b2 hf
      exact wX_step_97 C Z S x1 hf _ _ _ G (lv_sub hl [0, 1] rfl)
    · have hf := if_f b2 hf
      refine lv_iload_n C.1 C.2.1 qm_X_step_54 rfl (lv_at hl 3 rfl) ?_
      refine lv_aload_n C.1 C.2.1 qm_X_step_55 rfl (lv_at hl 0 rfl) ?_
      refine q_get (wf := (cW h K)) (v := .ref (h 11)) C G qi_X 0 rfl rfl 4 (by decide) qz_235 rfl qm_X_step_56 ?_
      refine q_alenop C G qm_X_step_59 ?_
      refine lv_icmp_ge (tgt := 97) C.1 C.2.1 qm_X_step_60 (by decide) (fun b3 => ?_) (fun b3 => ?_)
      · have hf := if_t b3 hf
        exact wX_step_97 C Z S x1 hf _ _ _ G (lv_sub hl [0, 1] rfl)
      · have hf := if_f b3 hf
        refine lv_aload_n C.1 C.2.1 qm_X_step_63 rfl (lv_at hl 0 rfl) ?_
        refine q_get (wf := (cW h K)) (v := .ref (h 5)) C G qi_X 0 rfl rfl 3 (by decide) qz_234 rfl qm_X_step_64 ?_
        refine q_getN (host := "QuadMode") (wf := (cW h K)) (v := .int (S.1 7)) C G qi_Co 5 rfl rfl 10 (by decide) (by decide +kernel) rfl qm_X_step_67 ?_
        refine lv_if_ne (tgt := 97) C.1 C.2.1 qm_X_step_70 (by decide) (fun b4 => ?_) (fun b4 => ?_)
        · have hf := if_t b4 hf
          exact wX_step_97 C Z S x1 hf _ _ _ G (lv_sub hl [0, 1] rfl)
        · have hf := if_f (not_not_intro b4) hf
          refine lv_aload_n C.1 C.2.1 qm_X_step_73 rfl (lv_at hl 0 rfl) ?_
          refine q_get (wf := (cW h K)) (v := .ref (h 15)) C G qi_X 0 rfl rfl 5 (by decide) qz_236 rfl qm_X_step_74 ?_
          refine lv_aload_n C.1 C.2.1 qm_X_step_77 rfl (lv_at hl 0 rfl) ?_
          refine q_get (wf := (cW h K)) (v := .ref (h 11)) C G qi_X 0 rfl rfl 4 (by decide) qz_235 rfl qm_X_step_78 ?_
          refine lv_iload_n C.1 C.2.1 qm_X_step_81 rfl (lv_at hl 3 rfl) ?_
          obtain ⟨b5, hf⟩ := chk_s hf
          refine q_aald (n := 12 + x3.toNatClampNeg) C G b5 rfl qm_X_step_82 ?_
          refine lv_aload_n C.1 C.2.1 qm_X_step_83 rfl (lv_at hl 2 rfl) ?_
          refine lv_iload_n C.1 C.2.1 qm_X_step_84 rfl (lv_at hl 3 rfl) ?_
          obtain ⟨b6, hf⟩ := chk_s hf
          refine q_schr (wf := (cW h K)) C Z G hl.1 b6 ⟨by decide, by decide⟩ ⟨Nat.le_refl _, Nat.le_refl _⟩ (Nat.le_of_ble_eq_true rfl) qm_X_step_85 ?_
          obtain ⟨S7, c7, hf⟩ := bnd_s hf
          refine q_callVv (wf := (cW h K)) (n := 2) (As := [.ref (h (12 + x3.toNatClampNeg)), .int (schr j2 x3)]) (q0 := 15) (ci := 4) C G hl.1 (kSp_find (l := l) c7 (inb_lt b5)) qx_X_164 qm_Sp_find_d ⟨by decide, by decide⟩ ⟨Nat.le_refl _, Nat.le_refl _⟩ rfl rfl rfl rfl rfl (Nat.le_of_ble_eq_true rfl) qm_X_step_88 (fun H locs G => ?_)
          refine lv_iinc (v := x3 + 1) (lv' := [(3, .int (x3 + 1)), (0, .ref (h 0)), (1, .int x1), (2, .ref (ad j2))]) C.1 C.2.1 qm_X_step_91 hl (k := 3) rfl rfl (by decide) rfl (fun ls hl => ?_)
          refine lv_goto (tgt := 46) C.1 C.2.1 qm_X_step_94 (by decide) ?_
          exact ih S7 x1 j2 (x3 + 1) hf _ _ _ G (lv_sub hl [1, 2, 3, 0] rfl)
set_option maxHeartbeats 4000000 in
set_option maxRecDepth 100000 in
theorem wX_step_35 {l : Launch} {D : va_G} {h : Nat → Nat} {K : Nat → ClassId} {res : qS} {p : Program} {e : Env} {s : State} {m : MethodId} {args : Array Value} {below : List Frame} {meth : Method} {c : Code} {A : Nat → Prop} {ad : Nat → Nat} (C : qC p s m args meth c qm_X_step_c 4 none qR_X ad) {av : Nat → Nat} (Z : qZ ad av A s s.heap) (S : qS) (x1 : Int32) (hf : fX_step_35 S x1 = some res) : ∀ (H : Heap) (locs : List Loc) (ls : Array Slot), qG D qCl (cT K) A s (cW h K S) H locs → lv_has ls 4 [(0, .ref (h 0)), (1, .int x1)] → W p l e ({ frames := 6, cells := 0, slots := 0, locals := 152 }) s m args below meth c H locs 0 0 (MQ below (qQv D qCl (cT K) (cW h K) A res) args s 0 0 A) (F0 m 35 ls []) := by
  intro H locs ls G hl
  unfold fX_step_35 at hf
  refine lv_aload_n C.1 C.2.1 qm_X_step_35 rfl (lv_at hl 0 rfl) ?_
  refine q_get (wf := (cW h K)) (v := .ref (h 16)) C G qi_X 0 rfl rfl 6 (by decide) qz_237 rfl qm_X_step_36 ?_
  refine lv_iload_n C.1 C.2.1 qm_X_step_39 rfl (lv_at hl 1 rfl) ?_
  obtain ⟨q1, c1, hf⟩ := bnd_s hf
  refine q_callVs (wf := (cW h K)) (n := 1) (As := [.int x1]) (q0 := 16) (ci := 0) C G hl.1 (kCd_shapeOf (l := l) c1) qx_X_147 qm_Cd_shapeOf_d ⟨by decide, by decide⟩ ⟨Nat.le_refl _, Nat.le_refl _⟩ rfl rfl rfl rfl rfl (Nat.le_of_ble_eq_true rfl) qm_X_step_40 (fun H locs G => ?_)
  refine lv_astore_n (lv' := [(2, .ref (ad q1.1)), (0, .ref (h 0)), (1, .int x1)]) C.1 C.2.1 qm_X_step_43 rfl hl (by decide) rfl (fun ls hl => ?_)
  refine lv_iconst (v := 0) C.1 C.2.1 qm_X_step_44 (by decide) ?_
  refine lv_istore_n (lv' := [(3, .int 0), (2, .ref (ad q1.1)), (0, .ref (h 0)), (1, .int x1)]) C.1 C.2.1 qm_X_step_45 rfl hl (by decide) rfl (fun ls hl => ?_)
  exact wX_step_46 C Z 300 q1.2 x1 q1.1 0 hf _ _ _ G (lv_sub hl [2, 3, 1, 0] rfl)
set_option maxHeartbeats 4000000 in
set_option maxRecDepth 100000 in
theorem wX_step {l : Launch} {D : va_G} {h : Nat → Nat} {K : Nat → ClassId} {res : qS} {p : Program} {e : Env} {s : State} {m : MethodId} {args : Array Value} {below : List Frame} {meth : Method} {c : Code} {A : Nat → Prop} {ad : Nat → Nat} (C : qC p s m args meth c qm_X_step_c 4 none qR_X ad) {av : Nat → Nat} (Z : qZ ad av A s s.heap) (S : qS) (hf : fX_step S = some res) : ∀ (H : Heap) (locs : List Loc) (ls : Array Slot), qG D qCl (cT K) A s (cW h K S) H locs → lv_has ls 4 [(0, .ref (h 0))] → W p l e ({ frames := 6, cells := 0, slots := 0, locals := 152 }) s m args below meth c H locs 0 0 (MQ below (qQv D qCl (cT K) (cW h K) A res) args s 0 0 A) (F0 m 0 ls []) := by
  intro H locs ls G hl
  unfold fX_step at hf
  refine lv_aload_n C.1 C.2.1 qm_X_step_0 rfl (lv_at hl 0 rfl) ?_
  refine q_get (wf := (cW h K)) (v := .ref (h 5)) C G qi_X 0 rfl rfl 3 (by decide) qz_234 rfl qm_X_step_1 ?_
  obtain ⟨S1, c1, hf⟩ := bnd_s hf
  refine q_callVv (wf := (cW h K)) (n := 0) (As := []) (q0 := 5) (ci := 1) C G hl.1 (kCo_keep (l := l) c1) qx_X_134 qm_Co_keep_d ⟨by decide, by decide⟩ ⟨Nat.le_refl _, Nat.le_refl _⟩ rfl rfl rfl rfl rfl (Nat.le_of_ble_eq_true rfl) qm_X_step_4 (fun H locs G => ?_)
  refine lv_aload_n C.1 C.2.1 qm_X_step_7 rfl (lv_at hl 0 rfl) ?_
  refine q_get (wf := (cW h K)) (v := .ref (h 5)) C G qi_X 0 rfl rfl 3 (by decide) qz_234 rfl qm_X_step_8 ?_
  refine lv_iconst (v := 1) C.1 C.2.1 qm_X_step_11 (by decide) ?_
  obtain ⟨q2, c2, hf⟩ := bnd_s hf
  refine q_callVi (wf := (cW h K)) (n := 1) (As := [.int 1]) (q0 := 5) (ci := 1) C G hl.1 (kCo_fetch (l := l) c2) qx_X_137 qm_Co_fetch_d ⟨by decide, by decide⟩ ⟨Nat.le_refl _, Nat.le_refl _⟩ rfl rfl rfl rfl rfl (Nat.le_of_ble_eq_true rfl) qm_X_step_12 (fun H locs G => ?_)
  refine lv_istore_n (lv' := [(1, .int q2.1), (0, .ref (h 0))]) C.1 C.2.1 qm_X_step_15 rfl hl (by decide) rfl (fun ls hl => ?_)
  refine lv_aload_n C.1 C.2.1 qm_X_step_16 rfl (lv_at hl 1 rfl) ?_
  refine q_get (wf := (cW h K)) (v := .ref (h 16)) C G qi_X 0 rfl rfl 6 (by decide) qz_237 rfl qm_X_step_17 ?_
  refine lv_iload_n C.1 C.2.1 qm_X_step_20 rfl (lv_at hl 0 rfl) ?_
  obtain ⟨q3, c3, hf⟩ := bnd_s hf
  refine q_callVi (wf := (cW h K)) (n := 1) (As := [.int q2.1]) (q0 := 16) (ci := 0) C G hl.1 (kCd_isAllowed (l := l) c3) qx_X_140 qm_Cd_isAllowed_d ⟨by decide, by decide⟩ ⟨Nat.le_refl _, Nat.le_refl _⟩ rfl rfl rfl rfl rfl (Nat.le_of_ble_eq_true rfl) qm_X_step_21 (fun H locs G => ?_)
  refine lv_if_ne (tgt := 35) C.1 C.2.1 qm_X_step_24 (by decide) (fun b4 => ?_) (fun b4 => ?_)
  · have hf := if_t b4 hf
    exact wX_step_35 C Z q3.2 q2.1 hf _ _ _ G (lv_sub hl [1, 0] rfl)
  · have hf := if_f (not_not_intro b4) hf
    refine lv_aload_n C.1 C.2.1 qm_X_step_27 rfl (lv_at hl 1 rfl) ?_
    refine q_get (wf := (cW h K)) (v := .ref (h 5)) C G qi_X 0 rfl rfl 3 (by decide) qz_234 rfl qm_X_step_28 ?_
    refine lv_iconst (v := 1) C.1 C.2.1 qm_X_step_31 (by decide) ?_
    obtain ⟨S5, c5, hf⟩ := bnd_s hf
    refine q_callVv (wf := (cW h K)) (n := 1) (As := [.int 1]) (q0 := 5) (ci := 1) C G hl.1 (kCo_raise (l := l) c5) qx_X_143 qm_Co_raise_d ⟨by decide, by decide⟩ ⟨Nat.le_refl _, Nat.le_refl _⟩ rfl rfl rfl rfl rfl (Nat.le_of_ble_eq_true rfl) qm_X_step_32 (fun H locs G => ?_)
    exact wX_step_35 C Z S5 q2.1 hf _ _ _ G (lv_sub hl [1, 0] rfl)
theorem kX_step {l : Launch} {ad av : Nat → Nat} {D : va_G} {h : Nat → Nat} {K : Nat → ClassId} {res : qS} {S : qS} (hf : fX_step S = some res) : qMvZ l qm_X_step qm_X_step_c 4 6 152 D qCl (cT K) ad av (cW h K) [.ref (h 0)] S res := qMvZ_of (by decide) (Nat.le_of_ble_eq_true rfl) (fun _ _ _ _ _ _ _ _ _ _ C Z G hl => wX_step C Z S hf _ _ _ G hl)
set_option maxHeartbeats 4000000 in
set_option maxRecDepth 100000 in
theorem wX_run_12 {l : Launch} {D : va_G} {h : Nat → Nat} {K : Nat → ClassId} {res : Int32 × qS} {p : Program} {e : Env} {s : State} {m : MethodId} {args : Array Value} {below : List Frame} {meth : Method} {c : Code} {A : Nat → Prop} {ad : Nat → Nat} (C : qC p s m args meth c qm_X_run_c 3 (some .int) qR_X ad) {av : Nat → Nat} (Z : qZ ad av A s s.heap) (S : qS) (hf : fX_run_12 S = some res) : ∀ (H : Heap) (locs : List Loc) (ls : Array Slot), qG D qCl (cT K) A s (cW h K S) H locs → lv_has ls 3 [] → W p l e ({ frames := 7, cells := 0, slots := 0, locals := 175 }) s m args below meth c H locs 0 0 (MQ below (qQi D qCl (cT K) (cW h K) A res) args s 0 0 A) (F0 m 12 ls []) := by
  intro H locs ls G hl
  unfold fX_run_12 at hf
  cases hf
set_option maxHeartbeats 4000000 in
set_option maxRecDepth 100000 in
theorem wX_run_63 {l : Launch} {D : va_G} {h : Nat → Nat} {K : Nat → ClassId} {res : Int32 × qS} {p : Program} {e : Env} {s : State} {m : MethodId} {args : Array Value} {below : List Frame} {meth : Method} {c : Code} {A : Nat → Prop} {ad : Nat → Nat} (C : qC p s m args meth c qm_X_run_c 3 (some .int) qR_X ad) {av : Nat → Nat} (Z : qZ ad av A s s.heap) (S : qS) (x2 : Int32) (hf : fX_run_63 S x2 = some res) : ∀ (H : Heap) (locs : List Loc) (ls : Array Slot), qG D qCl (cT K) A s (cW h K S) H locs → lv_has ls 3 [(0, .ref (h 0)), (2, .int x2)] → W p l e ({ frames := 7, cells := 0, slots := 0, locals := 175 }) s m args below meth c H locs 0 0 (MQ below (qQi D qCl (cT K) (cW h K) A res) args s 0 0 A) (F0 m 63 ls []) := by
  intro H locs ls G hl
  unfold fX_run_63 at hf
  refine lv_aload_n C.1 C.2.1 qm_X_run_63 rfl (lv_at hl 0 rfl) ?_
  refine lv_dup C.1 C.2.1 qm_X_run_64 rfl ?_
  refine q_get (wf := (cW h K)) (v := .int (S.1 1)) C G qi_X 0 rfl rfl 8 (by decide) qz_239 rfl qm_X_run_65 ?_
  refine lv_iload_n C.1 C.2.1 qm_X_run_68 rfl (lv_at hl 1 rfl) ?_
  refine lv_iadd C.1 C.2.1 qm_X_run_69 ?_
  refine q_put (wf := (cW h K)) (S' := (pI S 1 ((S.1 1) + x2))) C G qi_X qY_X qy_X qn_X 0 rfl rfl 8 (by decide) qz_239 rfl rfl (Nat.le_of_ble_eq_true rfl) rfl qm_X_run_70 (fun H locs G => ?_)
  refine lv_iload_n C.1 C.2.1 qm_X_run_73 rfl (lv_at hl 1 rfl) ?_
  exact q_iret (wf := (cW h K)) C G hf qm_X_run_74
set_option maxHeartbeats 4000000 in
set_option maxRecDepth 100000 in
theorem wX_run_41 {l : Launch} {D : va_G} {h : Nat → Nat} {K : Nat → ClassId} {res : Int32 × qS} {p : Program} {e : Env} {s : State} {m : MethodId} {args : Array Value} {below : List Frame} {meth : Method} {c : Code} {A : Nat → Prop} {ad : Nat → Nat} (C : qC p s m args meth c qm_X_run_c 3 (some .int) qR_X ad) {av : Nat → Nat} (Z : qZ ad av A s s.heap) : ∀ (n : Nat) (S : qS) (x1 : Int32) (x2 : Int32), fX_run_41 n S x1 x2 = some res → ∀ (H : Heap) (locs : List Loc) (ls : Array Slot), qG D qCl (cT K) A s (cW h K S) H locs → lv_has ls 3 [(0, .ref (h 0)), (1, .int x1), (2, .int x2)] → W p l e ({ frames := 7, cells := 0, slots := 0, locals := 175 }) s m args below meth c H locs 0 0 (MQ below (qQi D qCl (cT K) (cW h K) A res) args s 0 0 A) (F0 m 41 ls []) := by
  intro n
  induction n with
  | zero => intro S x1 x2 hf; cases hf
  | succ n ih =>
    intro S x1 x2 hf H locs ls G hl
    rw [fX_run_41] at hf
    refine lv_iload_n C.1 C.2.1 qm_X_run_41 rfl (lv_at hl 2 rfl) ?_
    refine lv_iload_n C.1 C.2.1 qm_X_run_42 rfl (lv_at hl 1 rfl) ?_
    refine lv_icmp_ge (tgt := 63) C.1 C.2.1 qm_X_run_43 (by decide) (fun b1 => ?_) (fun b1 => ?_)
    · have hf := if_t b1 hf
      exact wX_run_63 C Z S x2 hf _ _ _ G (lv_sub hl [0, 2] rfl)
    · have hf := if_f b1 hf
      refine lv_aload_n C.1 C.2.1 qm_X_run_46 rfl (lv_at hl 0 rfl) ?_
      refine q_get (wf := (cW h K)) (v := .int (S.1 0)) C G qi_X 0 rfl rfl 7 (by decide) qz_238 rfl qm_X_run_47 ?_
      refine lv_if_ne (tgt := 63) C.1 C.2.1 qm_X_run_50 (by decide) (fun b2 => ?_) (fun b2 => ?_)
      · have hf := if_t b2 hf
        exact wX_run_63 C Z S x2 hf _ _ _ G (lv_sub hl [0, 2] rfl)
      · have hf := if_f (not_not_intro b2) hf
        refine lv_aload_n C.1 C.2.1 qm_X_run_53 rfl (lv_at hl 0 rfl) ?_
        obtain ⟨S3, c3, hf⟩ := bnd_s hf
        refine q_callVvZ (wf := (cW h K)) (n := 0) (As := []) (q0 := 0) (ci := 6) C Z G hl.1 (kX_step (l := l) c3) qx_X_116 qm_X_step_d ⟨by decide, by decide⟩ ⟨Nat.le_refl _, Nat.le_refl _⟩ rfl rfl rfl rfl rfl (Nat.le_of_ble_eq_true rfl) qm_X_run_54 (fun H locs G => ?_)
        refine lv_iinc (v := x2 + 1) (lv' := [(2, .int (x2 + 1)), (0, .ref (h 0)), (1, .int x1)]) C.1 C.2.1 qm_X_run_57 hl (k := 2) rfl rfl (by decide) rfl (fun ls hl => ?_)
        refine lv_goto (tgt := 41) C.1 C.2.1 qm_X_run_60 (by decide) ?_
        exact ih S3 x1 (x2 + 1) hf _ _ _ G (lv_sub hl [1, 2, 0] rfl)
set_option maxHeartbeats 4000000 in
set_option maxRecDepth 100000 in
theorem wX_run {l : Launch} {D : va_G} {h : Nat → Nat} {K : Nat → ClassId} {res : Int32 × qS} {p : Program} {e : Env} {s : State} {m : MethodId} {args : Array Value} {below : List Frame} {meth : Method} {c : Code} {A : Nat → Prop} {ad : Nat → Nat} (C : qC p s m args meth c qm_X_run_c 3 (some .int) qR_X ad) {av : Nat → Nat} (Z : qZ ad av A s s.heap) (S : qS) (a1 : Int32) (hf : fX_run S a1 = some res) : ∀ (H : Heap) (locs : List Loc) (ls : Array Slot), qG D qCl (cT K) A s (cW h K S) H locs → lv_has ls 3 [(0, .ref (h 0)), (1, .int a1)] → W p l e ({ frames := 7, cells := 0, slots := 0, locals := 175 }) s m args below meth c H locs 0 0 (MQ below (qQi D qCl (cT K) (cW h K) A res) args s 0 0 A) (F0 m 0 ls []) := by
  intro H locs ls G hl
  unfold fX_run at hf
  refine lv_iload_n C.1 C.2.1 qm_X_run_0 rfl (lv_at hl 1 rfl) ?_
  refine lv_iconst (v := 1) C.1 C.2.1 qm_X_run_1 (by decide) ?_
  refine lv_icmp_lt (tgt := 12) C.1 C.2.1 qm_X_run_2 (by decide) (fun b1 => ?_) (fun b1 => ?_)
  · have hf := if_t b1 hf
    exact wX_run_12 C Z S hf _ _ _ G (lv_sub hl [] rfl)
  · have hf := if_f b1 hf
    refine lv_iload_n C.1 C.2.1 qm_X_run_5 rfl (lv_at hl 1 rfl) ?_
    refine lv_sipush (v := 200) C.1 C.2.1 qm_X_run_6 (by decide) ?_
    refine lv_icmp_le (tgt := 22) C.1 C.2.1 qm_X_run_9 (by decide) (fun b2 => ?_) (fun b2 => ?_)
    · have hf := if_t b2 hf
      refine lv_aload_n C.1 C.2.1 qm_X_run_22 rfl (lv_at hl 0 rfl) ?_
      refine q_get (wf := (cW h K)) (v := .int (S.1 0)) C G qi_X 0 rfl rfl 7 (by decide) qz_238 rfl qm_X_run_23 ?_
      refine lv_if_eq (tgt := 39) C.1 C.2.1 qm_X_run_26 (by decide) (fun b3 => ?_) (fun b3 => ?_)
      · have hf := if_t b3 hf
        refine lv_iconst (v := 0) C.1 C.2.1 qm_X_run_39 (by decide) ?_
        refine lv_istore_n (lv' := [(2, .int 0), (0, .ref (h 0)), (1, .int a1)]) C.1 C.2.1 qm_X_run_40 rfl hl (by decide) rfl (fun ls hl => ?_)
        exact wX_run_41 C Z 300 S a1 0 hf _ _ _ G (lv_sub hl [1, 2, 0] rfl)
      · have hf := if_f b3 hf
        cases hf
    · have hf := if_f b2 hf
      exact wX_run_12 C Z S hf _ _ _ G (lv_sub hl [] rfl)
theorem kX_run {l : Launch} {ad av : Nat → Nat} {D : va_G} {h : Nat → Nat} {K : Nat → ClassId} {res : Int32 × qS} {S : qS} {a1 : Int32} (hf : fX_run S a1 = some res) : qMiZ l qm_X_run qm_X_run_c 3 .int 7 175 D qCl (cT K) ad av (cW h K) [.ref (h 0), .int a1] S res := qMiZ_of (by decide) (Nat.le_of_ble_eq_true rfl) (fun _ _ _ _ _ _ _ _ _ _ C Z G hl => wX_run C Z S a1 hf _ _ _ G hl)
set_option maxHeartbeats 4000000 in
set_option maxRecDepth 100000 in
theorem wX_reach_9 {l : Launch} {D : va_G} {h : Nat → Nat} {K : Nat → ClassId} {res : Int32 × qS} {p : Program} {e : Env} {s : State} {m : MethodId} {args : Array Value} {below : List Frame} {meth : Method} {c : Code} {A : Nat → Prop} {ad : Nat → Nat} (C : qC p s m args meth c qm_X_reach_c 4 (some .int) qR_X ad) (S : qS) (hf : fX_reach_9 S = some res) : ∀ (H : Heap) (locs : List Loc) (ls : Array Slot), qG D qCl (cT K) A s (cW h K S) H locs → lv_has ls 4 [] → W p l e ({ frames := 2, cells := 0, slots := 0, locals := 53 }) s m args below meth c H locs 0 0 (MQ below (qQi D qCl (cT K) (cW h K) A res) args s 0 0 A) (F0 m 9 ls []) := by
  intro H locs ls G hl
  unfold fX_reach_9 at hf
  cases hf
set_option maxHeartbeats 4000000 in
set_option maxRecDepth 100000 in
theorem wX_reach {l : Launch} {D : va_G} {h : Nat → Nat} {K : Nat → ClassId} {res : Int32 × qS} {p : Program} {e : Env} {s : State} {m : MethodId} {args : Array Value} {below : List Frame} {meth : Method} {c : Code} {A : Nat → Prop} {ad : Nat → Nat} (C : qC p s m args meth c qm_X_reach_c 4 (some .int) qR_X ad) (S : qS) (a1 : Int32) (a2 : Int32) (a3 : Int32) (hf : fX_reach S a1 a2 a3 = some res) : ∀ (H : Heap) (locs : List Loc) (ls : Array Slot), qG D qCl (cT K) A s (cW h K S) H locs → lv_has ls 4 [(0, .ref (h 0)), (1, .int a1), (2, .int a2), (3, .int a3)] → W p l e ({ frames := 2, cells := 0, slots := 0, locals := 53 }) s m args below meth c H locs 0 0 (MQ below (qQi D qCl (cT K) (cW h K) A res) args s 0 0 A) (F0 m 0 ls []) := by
  intro H locs ls G hl
  unfold fX_reach at hf
  refine lv_iload_n C.1 C.2.1 qm_X_reach_0 rfl (lv_at hl 3 rfl) ?_
  refine lv_if_lt (tgt := 9) C.1 C.2.1 qm_X_reach_1 (by decide) (fun b1 => ?_) (fun b1 => ?_)
  · have hf := if_t b1 hf
    exact wX_reach_9 C S hf _ _ _ G (lv_sub hl [] rfl)
  · have hf := if_f b1 hf
    refine lv_iload_n C.1 C.2.1 qm_X_reach_4 rfl (lv_at hl 3 rfl) ?_
    refine lv_iconst (v := 4) C.1 C.2.1 qm_X_reach_5 (by decide) ?_
    refine lv_icmp_lt (tgt := 19) C.1 C.2.1 qm_X_reach_6 (by decide) (fun b2 => ?_) (fun b2 => ?_)
    · have hf := if_t b2 hf
      refine lv_aload_n C.1 C.2.1 qm_X_reach_19 rfl (lv_at hl 0 rfl) ?_
      refine q_get (wf := (cW h K)) (v := .ref (h 4)) C G qi_X 0 rfl rfl 2 (by decide) qz_233 rfl qm_X_reach_20 ?_
      refine lv_iload_n C.1 C.2.1 qm_X_reach_23 rfl (lv_at hl 1 rfl) ?_
      refine lv_iload_n C.1 C.2.1 qm_X_reach_24 rfl (lv_at hl 2 rfl) ?_
      refine lv_iload_n C.1 C.2.1 qm_X_reach_25 rfl (lv_at hl 3 rfl) ?_
      obtain ⟨q3, c3, hf⟩ := bnd_s hf
      refine q_callVi (wf := (cW h K)) (n := 3) (As := [.int a1, .int a2, .int a3]) (q0 := 4) (ci := 3) C G hl.1 (kPg_locate (l := l) c3) qx_X_124 qm_Pg_locate_d ⟨by decide, by decide⟩ ⟨Nat.le_refl _, Nat.le_refl _⟩ rfl rfl rfl rfl rfl (Nat.le_of_ble_eq_true rfl) qm_X_reach_26 (fun H locs G => ?_)
      exact q_iret (wf := (cW h K)) C G hf qm_X_reach_29
    · have hf := if_f b2 hf
      exact wX_reach_9 C S hf _ _ _ G (lv_sub hl [] rfl)
theorem kX_reach {l : Launch} {ad : Nat → Nat} {D : va_G} {h : Nat → Nat} {K : Nat → ClassId} {res : Int32 × qS} {S : qS} {a1 : Int32} {a2 : Int32} {a3 : Int32} (hf : fX_reach S a1 a2 a3 = some res) : qMi l qm_X_reach qm_X_reach_c 4 .int 2 53 D qCl (cT K) ad (cW h K) [.ref (h 0), .int a1, .int a2, .int a3] S res := qMi_of (by decide) (Nat.le_of_ble_eq_true rfl) (fun _ _ _ _ _ _ _ _ _ _ C G hl => wX_reach C S a1 a2 a3 hf _ _ _ G hl)
set_option maxHeartbeats 4000000 in
set_option maxRecDepth 100000 in
theorem wX_state_32 {l : Launch} {D : va_G} {h : Nat → Nat} {K : Nat → ClassId} {res : Int32 × qS} {p : Program} {e : Env} {s : State} {m : MethodId} {args : Array Value} {below : List Frame} {meth : Method} {c : Code} {A : Nat → Prop} {ad : Nat → Nat} (C : qC p s m args meth c qm_X_state_c 2 (some .int) qR_X ad) (S : qS) (hf : fX_state_32 S = some res) : ∀ (H : Heap) (locs : List Loc) (ls : Array Slot), qG D qCl (cT K) A s (cW h K S) H locs → lv_has ls 2 [(0, .ref (h 0))] → W p l e ({ frames := 0, cells := 0, slots := 0, locals := 0 }) s m args below meth c H locs 0 0 (MQ below (qQi D qCl (cT K) (cW h K) A res) args s 0 0 A) (F0 m 32 ls []) := by
  intro H locs ls G hl
  unfold fX_state_32 at hf
  refine lv_aload_n C.1 C.2.1 qm_X_state_32 rfl (lv_at hl 0 rfl) ?_
  refine q_get (wf := (cW h K)) (v := .int (S.1 0)) C G qi_X 0 rfl rfl 7 (by decide) qz_238 rfl qm_X_state_33 ?_
  exact q_iret (wf := (cW h K)) C G hf qm_X_state_36
set_option maxHeartbeats 4000000 in
set_option maxRecDepth 100000 in
theorem wX_state_37 {l : Launch} {D : va_G} {h : Nat → Nat} {K : Nat → ClassId} {res : Int32 × qS} {p : Program} {e : Env} {s : State} {m : MethodId} {args : Array Value} {below : List Frame} {meth : Method} {c : Code} {A : Nat → Prop} {ad : Nat → Nat} (C : qC p s m args meth c qm_X_state_c 2 (some .int) qR_X ad) (S : qS) (hf : fX_state_37 S = some res) : ∀ (H : Heap) (locs : List Loc) (ls : Array Slot), qG D qCl (cT K) A s (cW h K S) H locs → lv_has ls 2 [(0, .ref (h 0))] → W p l e ({ frames := 0, cells := 0, slots := 0, locals := 0 }) s m args below meth c H locs 0 0 (MQ below (qQi D qCl (cT K) (cW h K) A res) args s 0 0 A) (F0 m 37 ls []) := by
  intro H locs ls G hl
  unfold fX_state_37 at hf
  refine lv_aload_n C.1 C.2.1 qm_X_state_37 rfl (lv_at hl 0 rfl) ?_
  refine q_get (wf := (cW h K)) (v := .int (S.1 1)) C G qi_X 0 rfl rfl 8 (by decide) qz_239 rfl qm_X_state_38 ?_
  exact q_iret (wf := (cW h K)) C G hf qm_X_state_41
set_option maxHeartbeats 4000000 in
set_option maxRecDepth 100000 in
theorem wX_state_42 {l : Launch} {D : va_G} {h : Nat → Nat} {K : Nat → ClassId} {res : Int32 × qS} {p : Program} {e : Env} {s : State} {m : MethodId} {args : Array Value} {below : List Frame} {meth : Method} {c : Code} {A : Nat → Prop} {ad : Nat → Nat} (C : qC p s m args meth c qm_X_state_c 2 (some .int) qR_X ad) (S : qS) (hf : fX_state_42 S = some res) : ∀ (H : Heap) (locs : List Loc) (ls : Array Slot), qG D qCl (cT K) A s (cW h K S) H locs → lv_has ls 2 [(0, .ref (h 0))] → W p l e ({ frames := 0, cells := 0, slots := 0, locals := 0 }) s m args below meth c H locs 0 0 (MQ below (qQi D qCl (cT K) (cW h K) A res) args s 0 0 A) (F0 m 42 ls []) := by
  intro H locs ls G hl
  unfold fX_state_42 at hf
  refine lv_aload_n C.1 C.2.1 qm_X_state_42 rfl (lv_at hl 0 rfl) ?_
  refine q_get (wf := (cW h K)) (v := .int (S.1 2)) C G qi_X 0 rfl rfl 9 (by decide) qz_240 rfl qm_X_state_43 ?_
  exact q_iret (wf := (cW h K)) C G hf qm_X_state_46
set_option maxHeartbeats 4000000 in
set_option maxRecDepth 100000 in
theorem wX_state_47 {l : Launch} {D : va_G} {h : Nat → Nat} {K : Nat → ClassId} {res : Int32 × qS} {p : Program} {e : Env} {s : State} {m : MethodId} {args : Array Value} {below : List Frame} {meth : Method} {c : Code} {A : Nat → Prop} {ad : Nat → Nat} (C : qC p s m args meth c qm_X_state_c 2 (some .int) qR_X ad) (S : qS) (hf : fX_state_47 S = some res) : ∀ (H : Heap) (locs : List Loc) (ls : Array Slot), qG D qCl (cT K) A s (cW h K S) H locs → lv_has ls 2 [(0, .ref (h 0))] → W p l e ({ frames := 0, cells := 0, slots := 0, locals := 0 }) s m args below meth c H locs 0 0 (MQ below (qQi D qCl (cT K) (cW h K) A res) args s 0 0 A) (F0 m 47 ls []) := by
  intro H locs ls G hl
  unfold fX_state_47 at hf
  refine lv_aload_n C.1 C.2.1 qm_X_state_47 rfl (lv_at hl 0 rfl) ?_
  refine q_get (wf := (cW h K)) (v := .int (S.1 3)) C G qi_X 0 rfl rfl 10 (by decide) qz_241 rfl qm_X_state_48 ?_
  exact q_iret (wf := (cW h K)) C G hf qm_X_state_51
set_option maxHeartbeats 4000000 in
set_option maxRecDepth 100000 in
theorem wX_state_52 {l : Launch} {D : va_G} {h : Nat → Nat} {K : Nat → ClassId} {res : Int32 × qS} {p : Program} {e : Env} {s : State} {m : MethodId} {args : Array Value} {below : List Frame} {meth : Method} {c : Code} {A : Nat → Prop} {ad : Nat → Nat} (C : qC p s m args meth c qm_X_state_c 2 (some .int) qR_X ad) (S : qS) (hf : fX_state_52 S = some res) : ∀ (H : Heap) (locs : List Loc) (ls : Array Slot), qG D qCl (cT K) A s (cW h K S) H locs → lv_has ls 2 [] → W p l e ({ frames := 0, cells := 0, slots := 0, locals := 0 }) s m args below meth c H locs 0 0 (MQ below (qQi D qCl (cT K) (cW h K) A res) args s 0 0 A) (F0 m 52 ls []) := by
  intro H locs ls G hl
  unfold fX_state_52 at hf
  refine lv_iconst (v := (-1)) C.1 C.2.1 qm_X_state_52 (by decide) ?_
  exact q_iret (wf := (cW h K)) C G hf qm_X_state_53
set_option maxHeartbeats 4000000 in
set_option maxRecDepth 100000 in
theorem wX_state {l : Launch} {D : va_G} {h : Nat → Nat} {K : Nat → ClassId} {res : Int32 × qS} {p : Program} {e : Env} {s : State} {m : MethodId} {args : Array Value} {below : List Frame} {meth : Method} {c : Code} {A : Nat → Prop} {ad : Nat → Nat} (C : qC p s m args meth c qm_X_state_c 2 (some .int) qR_X ad) (S : qS) (a1 : Int32) (hf : fX_state S a1 = some res) : ∀ (H : Heap) (locs : List Loc) (ls : Array Slot), qG D qCl (cT K) A s (cW h K S) H locs → lv_has ls 2 [(0, .ref (h 0)), (1, .int a1)] → W p l e ({ frames := 0, cells := 0, slots := 0, locals := 0 }) s m args below meth c H locs 0 0 (MQ below (qQi D qCl (cT K) (cW h K) A res) args s 0 0 A) (F0 m 0 ls []) := by
  intro H locs ls G hl
  unfold fX_state at hf
  refine lv_iload_n C.1 C.2.1 qm_X_state_0 rfl (lv_at hl 1 rfl) ?_
  by_cases b1 : a1.toInt < 0 ∨ 3 < a1.toInt
  · have hf := if_t b1 hf
    refine lv_tableOut (tgt := 52) C.1 C.2.1 qm_X_state_1 b1 (by decide) ?_
    exact wX_state_52 C S hf _ _ _ G (lv_sub hl [] rfl)
  have hf := if_f b1 hf
  by_cases b1_0 : a1 = 0
  · have hf := if_t b1_0 hf
    refine lv_tableIn (tgt := 32) C.1 C.2.1 qm_X_state_1 (by rw [b1_0]; decide) (by rw [b1_0]; decide) (by rw [b1_0]; rfl) (by decide) ?_
    exact wX_state_32 C S hf _ _ _ G (lv_sub hl [0] rfl)
  have hf := if_f b1_0 hf
  by_cases b1_1 : a1 = 1
  · have hf := if_t b1_1 hf
    refine lv_tableIn (tgt := 37) C.1 C.2.1 qm_X_state_1 (by rw [b1_1]; decide) (by rw [b1_1]; decide) (by rw [b1_1]; rfl) (by decide) ?_
    exact wX_state_37 C S hf _ _ _ G (lv_sub hl [0] rfl)
  have hf := if_f b1_1 hf
  by_cases b1_2 : a1 = 2
  · have hf := if_t b1_2 hf
    refine lv_tableIn (tgt := 42) C.1 C.2.1 qm_X_state_1 (by rw [b1_2]; decide) (by rw [b1_2]; decide) (by rw [b1_2]; rfl) (by decide) ?_
    exact wX_state_42 C S hf _ _ _ G (lv_sub hl [0] rfl)
  have hf := if_f b1_2 hf
  by_cases b1_3 : a1 = 3
  · have hf := if_t b1_3 hf
    refine lv_tableIn (tgt := 47) C.1 C.2.1 qm_X_state_1 (by rw [b1_3]; decide) (by rw [b1_3]; decide) (by rw [b1_3]; rfl) (by decide) ?_
    exact wX_state_47 C S hf _ _ _ G (lv_sub hl [0] rfl)
  have hf := if_f b1_3 hf
  cases hf
theorem kX_state {l : Launch} {ad : Nat → Nat} {D : va_G} {h : Nat → Nat} {K : Nat → ClassId} {res : Int32 × qS} {S : qS} {a1 : Int32} (hf : fX_state S a1 = some res) : qMi l qm_X_state qm_X_state_c 2 .int 0 0 D qCl (cT K) ad (cW h K) [.ref (h 0), .int a1] S res := qMi_of (by decide) (Nat.le_of_ble_eq_true rfl) (fun _ _ _ _ _ _ _ _ _ _ C G hl => wX_state C S a1 hf _ _ _ G hl)
