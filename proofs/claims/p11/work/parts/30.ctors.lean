/-! Constructors: they make the two worlds. -/
def qS0 : qS := (fun _ => 0, fun _ _ => 0)
abbrev qm_St_init_c : ByteArray := prog_7_method_1_code
def qm_St_init : MethodName := ⟨qR_St, "<init>", "()V"⟩
theorem qm_St_init_d : qm_St_init.cls ≠ "java/lang/invoke/MethodHandle" ∧ qm_St_init.cls ≠ "java/lang/invoke/VarHandle" ∧ (parseMethodDescriptor qm_St_init.desc).map (fun d => d.parameters.length) = some 0 := by decide +kernel
theorem qm_St_init_0 : decode qm_St_init_c 0 = .ok (.aload_n 0, 1) := by decide +kernel
theorem qm_St_init_1 : decode qm_St_init_c 1 = .ok (.invokespecial 3, 3) := by decide +kernel
theorem qm_St_init_4 : decode qm_St_init_c 4 = .ok (.aload_n 0, 1) := by decide +kernel
theorem qm_St_init_5 : decode qm_St_init_c 5 = .ok (.sipush 2048, 3) := by decide +kernel
theorem qm_St_init_8 : decode qm_St_init_c 8 = .ok (.newarray .byte, 2) := by decide +kernel
theorem qm_St_init_10 : decode qm_St_init_c 10 = .ok (.putfield 9, 3) := by decide +kernel
theorem qm_St_init_13 : decode qm_St_init_c 13 = .ok (.return_, 1) := by decide +kernel
abbrev qm_Op_init_c : ByteArray := prog_4_method_1_code
def qm_Op_init : MethodName := ⟨qR_Op, "<init>", "()V"⟩
theorem qm_Op_init_d : qm_Op_init.cls ≠ "java/lang/invoke/MethodHandle" ∧ qm_Op_init.cls ≠ "java/lang/invoke/VarHandle" ∧ (parseMethodDescriptor qm_Op_init.desc).map (fun d => d.parameters.length) = some 0 := by decide +kernel
theorem qm_Op_init_0 : decode qm_Op_init_c 0 = .ok (.aload_n 0, 1) := by decide +kernel
theorem qm_Op_init_1 : decode qm_Op_init_c 1 = .ok (.invokespecial 1, 3) := by decide +kernel
theorem qm_Op_init_4 : decode qm_Op_init_c 4 = .ok (.return_, 1) := by decide +kernel
abbrev qm_Pg_init_c : ByteArray := prog_5_method_1_code
def qm_Pg_init : MethodName := ⟨qR_Pg, "<init>", "(LQuadMode$Storage;[I)V"⟩
theorem qm_Pg_init_d : qm_Pg_init.cls ≠ "java/lang/invoke/MethodHandle" ∧ qm_Pg_init.cls ≠ "java/lang/invoke/VarHandle" ∧ (parseMethodDescriptor qm_Pg_init.desc).map (fun d => d.parameters.length) = some 2 := by decide +kernel
theorem qm_Pg_init_0 : decode qm_Pg_init_c 0 = .ok (.aload_n 0, 1) := by decide +kernel
theorem qm_Pg_init_1 : decode qm_Pg_init_c 1 = .ok (.invokespecial 3, 3) := by decide +kernel
theorem qm_Pg_init_4 : decode qm_Pg_init_c 4 = .ok (.aload_n 0, 1) := by decide +kernel
theorem qm_Pg_init_5 : decode qm_Pg_init_c 5 = .ok (.aload_n 1, 1) := by decide +kernel
theorem qm_Pg_init_6 : decode qm_Pg_init_c 6 = .ok (.putfield 9, 3) := by decide +kernel
theorem qm_Pg_init_9 : decode qm_Pg_init_c 9 = .ok (.aload_n 0, 1) := by decide +kernel
theorem qm_Pg_init_10 : decode qm_Pg_init_c 10 = .ok (.aload_n 2, 1) := by decide +kernel
theorem qm_Pg_init_11 : decode qm_Pg_init_c 11 = .ok (.putfield 15, 3) := by decide +kernel
theorem qm_Pg_init_14 : decode qm_Pg_init_c 14 = .ok (.return_, 1) := by decide +kernel
abbrev qm_Co_init_c : ByteArray := prog_3_method_1_code
def qm_Co_init : MethodName := ⟨qR_Co, "<init>", "(LQuadMode$Storage;LQuadMode$Pages;[I)V"⟩
theorem qm_Co_init_d : qm_Co_init.cls ≠ "java/lang/invoke/MethodHandle" ∧ qm_Co_init.cls ≠ "java/lang/invoke/VarHandle" ∧ (parseMethodDescriptor qm_Co_init.desc).map (fun d => d.parameters.length) = some 3 := by decide +kernel
theorem qm_Co_init_0 : decode qm_Co_init_c 0 = .ok (.aload_n 0, 1) := by decide +kernel
theorem qm_Co_init_1 : decode qm_Co_init_c 1 = .ok (.invokespecial 3, 3) := by decide +kernel
theorem qm_Co_init_4 : decode qm_Co_init_c 4 = .ok (.aload_n 0, 1) := by decide +kernel
theorem qm_Co_init_5 : decode qm_Co_init_c 5 = .ok (.bipush 16, 2) := by decide +kernel
theorem qm_Co_init_7 : decode qm_Co_init_c 7 = .ok (.newarray .int, 2) := by decide +kernel
theorem qm_Co_init_9 : decode qm_Co_init_c 9 = .ok (.putfield 9, 3) := by decide +kernel
theorem qm_Co_init_12 : decode qm_Co_init_c 12 = .ok (.aload_n 0, 1) := by decide +kernel
theorem qm_Co_init_13 : decode qm_Co_init_c 13 = .ok (.bipush 16, 2) := by decide +kernel
theorem qm_Co_init_15 : decode qm_Co_init_c 15 = .ok (.newarray .int, 2) := by decide +kernel
theorem qm_Co_init_17 : decode qm_Co_init_c 17 = .ok (.putfield 15, 3) := by decide +kernel
theorem qm_Co_init_20 : decode qm_Co_init_c 20 = .ok (.aload_n 0, 1) := by decide +kernel
theorem qm_Co_init_21 : decode qm_Co_init_c 21 = .ok (.iconst 4, 1) := by decide +kernel
theorem qm_Co_init_22 : decode qm_Co_init_c 22 = .ok (.newarray .int, 2) := by decide +kernel
theorem qm_Co_init_24 : decode qm_Co_init_c 24 = .ok (.putfield 18, 3) := by decide +kernel
theorem qm_Co_init_27 : decode qm_Co_init_c 27 = .ok (.aload_n 0, 1) := by decide +kernel
theorem qm_Co_init_28 : decode qm_Co_init_c 28 = .ok (.iconst 4, 1) := by decide +kernel
theorem qm_Co_init_29 : decode qm_Co_init_c 29 = .ok (.newarray .int, 2) := by decide +kernel
theorem qm_Co_init_31 : decode qm_Co_init_c 31 = .ok (.putfield 21, 3) := by decide +kernel
theorem qm_Co_init_34 : decode qm_Co_init_c 34 = .ok (.aload_n 0, 1) := by decide +kernel
theorem qm_Co_init_35 : decode qm_Co_init_c 35 = .ok (.iconst 4, 1) := by decide +kernel
theorem qm_Co_init_36 : decode qm_Co_init_c 36 = .ok (.newarray .int, 2) := by decide +kernel
theorem qm_Co_init_38 : decode qm_Co_init_c 38 = .ok (.putfield 24, 3) := by decide +kernel
theorem qm_Co_init_41 : decode qm_Co_init_c 41 = .ok (.aload_n 0, 1) := by decide +kernel
theorem qm_Co_init_42 : decode qm_Co_init_c 42 = .ok (.aload_n 1, 1) := by decide +kernel
theorem qm_Co_init_43 : decode qm_Co_init_c 43 = .ok (.putfield 27, 3) := by decide +kernel
theorem qm_Co_init_46 : decode qm_Co_init_c 46 = .ok (.aload_n 0, 1) := by decide +kernel
theorem qm_Co_init_47 : decode qm_Co_init_c 47 = .ok (.aload_n 2, 1) := by decide +kernel
theorem qm_Co_init_48 : decode qm_Co_init_c 48 = .ok (.putfield 31, 3) := by decide +kernel
theorem qm_Co_init_51 : decode qm_Co_init_c 51 = .ok (.aload_n 0, 1) := by decide +kernel
theorem qm_Co_init_52 : decode qm_Co_init_c 52 = .ok (.aload_n 3, 1) := by decide +kernel
theorem qm_Co_init_53 : decode qm_Co_init_c 53 = .ok (.putfield 35, 3) := by decide +kernel
theorem qm_Co_init_56 : decode qm_Co_init_c 56 = .ok (.return_, 1) := by decide +kernel
abbrev qm_Sp_init_c : ByteArray := prog_6_method_1_code
def qm_Sp_init : MethodName := ⟨qR_Sp, "<init>", "(LQuadMode$Core;)V"⟩
theorem qm_Sp_init_d : qm_Sp_init.cls ≠ "java/lang/invoke/MethodHandle" ∧ qm_Sp_init.cls ≠ "java/lang/invoke/VarHandle" ∧ (parseMethodDescriptor qm_Sp_init.desc).map (fun d => d.parameters.length) = some 1 := by decide +kernel
theorem qm_Sp_init_0 : decode qm_Sp_init_c 0 = .ok (.aload_n 0, 1) := by decide +kernel
theorem qm_Sp_init_1 : decode qm_Sp_init_c 1 = .ok (.invokespecial 3, 3) := by decide +kernel
theorem qm_Sp_init_4 : decode qm_Sp_init_c 4 = .ok (.aload_n 0, 1) := by decide +kernel
theorem qm_Sp_init_5 : decode qm_Sp_init_c 5 = .ok (.aload_n 1, 1) := by decide +kernel
theorem qm_Sp_init_6 : decode qm_Sp_init_c 6 = .ok (.putfield 9, 3) := by decide +kernel
theorem qm_Sp_init_9 : decode qm_Sp_init_c 9 = .ok (.return_, 1) := by decide +kernel
abbrev qm_Cd_init_c : ByteArray := prog_2_method_1_code
def qm_Cd_init : MethodName := ⟨qR_Cd, "<init>", "(LQuadMode$Core;LQuadMode$Operand;LQuadMode$Operand;LQuadMode$Operand;)V"⟩
theorem qm_Cd_init_d : qm_Cd_init.cls ≠ "java/lang/invoke/MethodHandle" ∧ qm_Cd_init.cls ≠ "java/lang/invoke/VarHandle" ∧ (parseMethodDescriptor qm_Cd_init.desc).map (fun d => d.parameters.length) = some 4 := by decide +kernel
theorem qm_Cd_init_0 : decode qm_Cd_init_c 0 = .ok (.aload_n 0, 1) := by decide +kernel
theorem qm_Cd_init_1 : decode qm_Cd_init_c 1 = .ok (.invokespecial 3, 3) := by decide +kernel
theorem qm_Cd_init_4 : decode qm_Cd_init_c 4 = .ok (.aload_n 0, 1) := by decide +kernel
theorem qm_Cd_init_5 : decode qm_Cd_init_c 5 = .ok (.aload_n 1, 1) := by decide +kernel
theorem qm_Cd_init_6 : decode qm_Cd_init_c 6 = .ok (.putfield 9, 3) := by decide +kernel
theorem qm_Cd_init_9 : decode qm_Cd_init_c 9 = .ok (.aload_n 0, 1) := by decide +kernel
theorem qm_Cd_init_10 : decode qm_Cd_init_c 10 = .ok (.aload_n 2, 1) := by decide +kernel
theorem qm_Cd_init_11 : decode qm_Cd_init_c 11 = .ok (.putfield 15, 3) := by decide +kernel
theorem qm_Cd_init_14 : decode qm_Cd_init_c 14 = .ok (.aload_n 0, 1) := by decide +kernel
theorem qm_Cd_init_15 : decode qm_Cd_init_c 15 = .ok (.aload_n 3, 1) := by decide +kernel
theorem qm_Cd_init_16 : decode qm_Cd_init_c 16 = .ok (.putfield 19, 3) := by decide +kernel
theorem qm_Cd_init_19 : decode qm_Cd_init_c 19 = .ok (.aload_n 0, 1) := by decide +kernel
theorem qm_Cd_init_20 : decode qm_Cd_init_c 20 = .ok (.aload 4, 2) := by decide +kernel
theorem qm_Cd_init_22 : decode qm_Cd_init_c 22 = .ok (.putfield 22, 3) := by decide +kernel
theorem qm_Cd_init_25 : decode qm_Cd_init_c 25 = .ok (.return_, 1) := by decide +kernel
abbrev qm_X_init_c : ByteArray := prog_1_method_1_code
def qm_X_init : MethodName := ⟨qR_X, "<init>", "()V"⟩
theorem qm_X_init_d : qm_X_init.cls ≠ "java/lang/invoke/MethodHandle" ∧ qm_X_init.cls ≠ "java/lang/invoke/VarHandle" ∧ (parseMethodDescriptor qm_X_init.desc).map (fun d => d.parameters.length) = some 0 := by decide +kernel
theorem qm_X_init_0 : decode qm_X_init_c 0 = .ok (.aload_n 0, 1) := by decide +kernel
theorem qm_X_init_1 : decode qm_X_init_c 1 = .ok (.invokespecial 1, 3) := by decide +kernel
theorem qm_X_init_4 : decode qm_X_init_c 4 = .ok (.aload_n 0, 1) := by decide +kernel
theorem qm_X_init_5 : decode qm_X_init_c 5 = .ok (.new 7, 3) := by decide +kernel
theorem qm_X_init_8 : decode qm_X_init_c 8 = .ok (.dup, 1) := by decide +kernel
theorem qm_X_init_9 : decode qm_X_init_c 9 = .ok (.invokespecial 9, 3) := by decide +kernel
theorem qm_X_init_12 : decode qm_X_init_c 12 = .ok (.putfield 10, 3) := by decide +kernel
theorem qm_X_init_15 : decode qm_X_init_c 15 = .ok (.aload_n 0, 1) := by decide +kernel
theorem qm_X_init_16 : decode qm_X_init_c 16 = .ok (.bipush 57, 2) := by decide +kernel
theorem qm_X_init_18 : decode qm_X_init_c 18 = .ok (.newarray .int, 2) := by decide +kernel
theorem qm_X_init_20 : decode qm_X_init_c 20 = .ok (.putfield 16, 3) := by decide +kernel
theorem qm_X_init_23 : decode qm_X_init_c 23 = .ok (.aload_n 0, 1) := by decide +kernel
theorem qm_X_init_24 : decode qm_X_init_c 24 = .ok (.new 20, 3) := by decide +kernel
theorem qm_X_init_27 : decode qm_X_init_c 27 = .ok (.dup, 1) := by decide +kernel
theorem qm_X_init_28 : decode qm_X_init_c 28 = .ok (.aload_n 0, 1) := by decide +kernel
theorem qm_X_init_29 : decode qm_X_init_c 29 = .ok (.getfield 10, 3) := by decide +kernel
theorem qm_X_init_32 : decode qm_X_init_c 32 = .ok (.aload_n 0, 1) := by decide +kernel
theorem qm_X_init_33 : decode qm_X_init_c 33 = .ok (.getfield 16, 3) := by decide +kernel
theorem qm_X_init_36 : decode qm_X_init_c 36 = .ok (.invokespecial 22, 3) := by decide +kernel
theorem qm_X_init_39 : decode qm_X_init_c 39 = .ok (.putfield 25, 3) := by decide +kernel
theorem qm_X_init_42 : decode qm_X_init_c 42 = .ok (.aload_n 0, 1) := by decide +kernel
theorem qm_X_init_43 : decode qm_X_init_c 43 = .ok (.new 29, 3) := by decide +kernel
theorem qm_X_init_46 : decode qm_X_init_c 46 = .ok (.dup, 1) := by decide +kernel
theorem qm_X_init_47 : decode qm_X_init_c 47 = .ok (.aload_n 0, 1) := by decide +kernel
theorem qm_X_init_48 : decode qm_X_init_c 48 = .ok (.getfield 10, 3) := by decide +kernel
theorem qm_X_init_51 : decode qm_X_init_c 51 = .ok (.aload_n 0, 1) := by decide +kernel
theorem qm_X_init_52 : decode qm_X_init_c 52 = .ok (.getfield 25, 3) := by decide +kernel
theorem qm_X_init_55 : decode qm_X_init_c 55 = .ok (.aload_n 0, 1) := by decide +kernel
theorem qm_X_init_56 : decode qm_X_init_c 56 = .ok (.getfield 16, 3) := by decide +kernel
theorem qm_X_init_59 : decode qm_X_init_c 59 = .ok (.invokespecial 31, 3) := by decide +kernel
theorem qm_X_init_62 : decode qm_X_init_c 62 = .ok (.putfield 34, 3) := by decide +kernel
theorem qm_X_init_65 : decode qm_X_init_c 65 = .ok (.aload_n 0, 1) := by decide +kernel
theorem qm_X_init_66 : decode qm_X_init_c 66 = .ok (.iconst 3, 1) := by decide +kernel
theorem qm_X_init_67 : decode qm_X_init_c 67 = .ok (.anewarray 38, 3) := by decide +kernel
theorem qm_X_init_70 : decode qm_X_init_c 70 = .ok (.dup, 1) := by decide +kernel
theorem qm_X_init_71 : decode qm_X_init_c 71 = .ok (.iconst 0, 1) := by decide +kernel
theorem qm_X_init_72 : decode qm_X_init_c 72 = .ok (.new 38, 3) := by decide +kernel
theorem qm_X_init_75 : decode qm_X_init_c 75 = .ok (.dup, 1) := by decide +kernel
theorem qm_X_init_76 : decode qm_X_init_c 76 = .ok (.invokespecial 40, 3) := by decide +kernel
theorem qm_X_init_79 : decode qm_X_init_c 79 = .ok (.aastore, 1) := by decide +kernel
theorem qm_X_init_80 : decode qm_X_init_c 80 = .ok (.dup, 1) := by decide +kernel
theorem qm_X_init_81 : decode qm_X_init_c 81 = .ok (.iconst 1, 1) := by decide +kernel
theorem qm_X_init_82 : decode qm_X_init_c 82 = .ok (.new 38, 3) := by decide +kernel
theorem qm_X_init_85 : decode qm_X_init_c 85 = .ok (.dup, 1) := by decide +kernel
theorem qm_X_init_86 : decode qm_X_init_c 86 = .ok (.invokespecial 40, 3) := by decide +kernel
theorem qm_X_init_89 : decode qm_X_init_c 89 = .ok (.aastore, 1) := by decide +kernel
theorem qm_X_init_90 : decode qm_X_init_c 90 = .ok (.dup, 1) := by decide +kernel
theorem qm_X_init_91 : decode qm_X_init_c 91 = .ok (.iconst 2, 1) := by decide +kernel
theorem qm_X_init_92 : decode qm_X_init_c 92 = .ok (.new 38, 3) := by decide +kernel
theorem qm_X_init_95 : decode qm_X_init_c 95 = .ok (.dup, 1) := by decide +kernel
theorem qm_X_init_96 : decode qm_X_init_c 96 = .ok (.invokespecial 40, 3) := by decide +kernel
theorem qm_X_init_99 : decode qm_X_init_c 99 = .ok (.aastore, 1) := by decide +kernel
theorem qm_X_init_100 : decode qm_X_init_c 100 = .ok (.putfield 41, 3) := by decide +kernel
theorem qm_X_init_103 : decode qm_X_init_c 103 = .ok (.aload_n 0, 1) := by decide +kernel
theorem qm_X_init_104 : decode qm_X_init_c 104 = .ok (.new 45, 3) := by decide +kernel
theorem qm_X_init_107 : decode qm_X_init_c 107 = .ok (.dup, 1) := by decide +kernel
theorem qm_X_init_108 : decode qm_X_init_c 108 = .ok (.aload_n 0, 1) := by decide +kernel
theorem qm_X_init_109 : decode qm_X_init_c 109 = .ok (.getfield 34, 3) := by decide +kernel
theorem qm_X_init_112 : decode qm_X_init_c 112 = .ok (.invokespecial 47, 3) := by decide +kernel
theorem qm_X_init_115 : decode qm_X_init_c 115 = .ok (.putfield 50, 3) := by decide +kernel
theorem qm_X_init_118 : decode qm_X_init_c 118 = .ok (.aload_n 0, 1) := by decide +kernel
theorem qm_X_init_119 : decode qm_X_init_c 119 = .ok (.new 54, 3) := by decide +kernel
theorem qm_X_init_122 : decode qm_X_init_c 122 = .ok (.dup, 1) := by decide +kernel
theorem qm_X_init_123 : decode qm_X_init_c 123 = .ok (.aload_n 0, 1) := by decide +kernel
theorem qm_X_init_124 : decode qm_X_init_c 124 = .ok (.getfield 34, 3) := by decide +kernel
theorem qm_X_init_127 : decode qm_X_init_c 127 = .ok (.aload_n 0, 1) := by decide +kernel
theorem qm_X_init_128 : decode qm_X_init_c 128 = .ok (.getfield 41, 3) := by decide +kernel
theorem qm_X_init_131 : decode qm_X_init_c 131 = .ok (.iconst 0, 1) := by decide +kernel
theorem qm_X_init_132 : decode qm_X_init_c 132 = .ok (.aaload, 1) := by decide +kernel
theorem qm_X_init_133 : decode qm_X_init_c 133 = .ok (.aload_n 0, 1) := by decide +kernel
theorem qm_X_init_134 : decode qm_X_init_c 134 = .ok (.getfield 41, 3) := by decide +kernel
theorem qm_X_init_137 : decode qm_X_init_c 137 = .ok (.iconst 1, 1) := by decide +kernel
theorem qm_X_init_138 : decode qm_X_init_c 138 = .ok (.aaload, 1) := by decide +kernel
theorem qm_X_init_139 : decode qm_X_init_c 139 = .ok (.aload_n 0, 1) := by decide +kernel
theorem qm_X_init_140 : decode qm_X_init_c 140 = .ok (.getfield 41, 3) := by decide +kernel
theorem qm_X_init_143 : decode qm_X_init_c 143 = .ok (.iconst 2, 1) := by decide +kernel
theorem qm_X_init_144 : decode qm_X_init_c 144 = .ok (.aaload, 1) := by decide +kernel
theorem qm_X_init_145 : decode qm_X_init_c 145 = .ok (.invokespecial 56, 3) := by decide +kernel
theorem qm_X_init_148 : decode qm_X_init_c 148 = .ok (.putfield 59, 3) := by decide +kernel
theorem qm_X_init_151 : decode qm_X_init_c 151 = .ok (.return_, 1) := by decide +kernel
abbrev qm_M_init_c : ByteArray := prog_9_method_1_code
def qm_M_init : MethodName := ⟨qR_M, "<init>", "()V"⟩
theorem qm_M_init_d : qm_M_init.cls ≠ "java/lang/invoke/MethodHandle" ∧ qm_M_init.cls ≠ "java/lang/invoke/VarHandle" ∧ (parseMethodDescriptor qm_M_init.desc).map (fun d => d.parameters.length) = some 0 := by decide +kernel
theorem qm_M_init_0 : decode qm_M_init_c 0 = .ok (.aload_n 0, 1) := by decide +kernel
theorem qm_M_init_1 : decode qm_M_init_c 1 = .ok (.invokespecial 1, 3) := by decide +kernel
theorem qm_M_init_4 : decode qm_M_init_c 4 = .ok (.aload_n 0, 1) := by decide +kernel
theorem qm_M_init_5 : decode qm_M_init_c 5 = .ok (.sipush 2048, 3) := by decide +kernel
theorem qm_M_init_8 : decode qm_M_init_c 8 = .ok (.newarray .int, 2) := by decide +kernel
theorem qm_M_init_10 : decode qm_M_init_c 10 = .ok (.putfield 7, 3) := by decide +kernel
theorem qm_M_init_13 : decode qm_M_init_c 13 = .ok (.aload_n 0, 1) := by decide +kernel
theorem qm_M_init_14 : decode qm_M_init_c 14 = .ok (.bipush 16, 2) := by decide +kernel
theorem qm_M_init_16 : decode qm_M_init_c 16 = .ok (.newarray .int, 2) := by decide +kernel
theorem qm_M_init_18 : decode qm_M_init_c 18 = .ok (.putfield 13, 3) := by decide +kernel
theorem qm_M_init_21 : decode qm_M_init_c 21 = .ok (.aload_n 0, 1) := by decide +kernel
theorem qm_M_init_22 : decode qm_M_init_c 22 = .ok (.bipush 57, 2) := by decide +kernel
theorem qm_M_init_24 : decode qm_M_init_c 24 = .ok (.newarray .int, 2) := by decide +kernel
theorem qm_M_init_26 : decode qm_M_init_c 26 = .ok (.putfield 16, 3) := by decide +kernel
theorem qm_M_init_29 : decode qm_M_init_c 29 = .ok (.aload_n 0, 1) := by decide +kernel
theorem qm_M_init_30 : decode qm_M_init_c 30 = .ok (.bipush 16, 2) := by decide +kernel
theorem qm_M_init_32 : decode qm_M_init_c 32 = .ok (.newarray .int, 2) := by decide +kernel
theorem qm_M_init_34 : decode qm_M_init_c 34 = .ok (.putfield 19, 3) := by decide +kernel
theorem qm_M_init_37 : decode qm_M_init_c 37 = .ok (.aload_n 0, 1) := by decide +kernel
theorem qm_M_init_38 : decode qm_M_init_c 38 = .ok (.iconst 4, 1) := by decide +kernel
theorem qm_M_init_39 : decode qm_M_init_c 39 = .ok (.newarray .int, 2) := by decide +kernel
theorem qm_M_init_41 : decode qm_M_init_c 41 = .ok (.putfield 22, 3) := by decide +kernel
theorem qm_M_init_44 : decode qm_M_init_c 44 = .ok (.aload_n 0, 1) := by decide +kernel
theorem qm_M_init_45 : decode qm_M_init_c 45 = .ok (.iconst 3, 1) := by decide +kernel
theorem qm_M_init_46 : decode qm_M_init_c 46 = .ok (.newarray .int, 2) := by decide +kernel
theorem qm_M_init_48 : decode qm_M_init_c 48 = .ok (.putfield 25, 3) := by decide +kernel
theorem qm_M_init_51 : decode qm_M_init_c 51 = .ok (.aload_n 0, 1) := by decide +kernel
theorem qm_M_init_52 : decode qm_M_init_c 52 = .ok (.iconst 3, 1) := by decide +kernel
theorem qm_M_init_53 : decode qm_M_init_c 53 = .ok (.newarray .int, 2) := by decide +kernel
theorem qm_M_init_55 : decode qm_M_init_c 55 = .ok (.putfield 28, 3) := by decide +kernel
theorem qm_M_init_58 : decode qm_M_init_c 58 = .ok (.aload_n 0, 1) := by decide +kernel
theorem qm_M_init_59 : decode qm_M_init_c 59 = .ok (.iconst 3, 1) := by decide +kernel
theorem qm_M_init_60 : decode qm_M_init_c 60 = .ok (.newarray .int, 2) := by decide +kernel
theorem qm_M_init_62 : decode qm_M_init_c 62 = .ok (.putfield 31, 3) := by decide +kernel
theorem qm_M_init_65 : decode qm_M_init_c 65 = .ok (.aload_n 0, 1) := by decide +kernel
theorem qm_M_init_66 : decode qm_M_init_c 66 = .ok (.iconst 4, 1) := by decide +kernel
theorem qm_M_init_67 : decode qm_M_init_c 67 = .ok (.newarray .int, 2) := by decide +kernel
theorem qm_M_init_69 : decode qm_M_init_c 69 = .ok (.putfield 34, 3) := by decide +kernel
theorem qm_M_init_72 : decode qm_M_init_c 72 = .ok (.aload_n 0, 1) := by decide +kernel
theorem qm_M_init_73 : decode qm_M_init_c 73 = .ok (.iconst 4, 1) := by decide +kernel
theorem qm_M_init_74 : decode qm_M_init_c 74 = .ok (.newarray .int, 2) := by decide +kernel
theorem qm_M_init_76 : decode qm_M_init_c 76 = .ok (.putfield 37, 3) := by decide +kernel
theorem qm_M_init_79 : decode qm_M_init_c 79 = .ok (.return_, 1) := by decide +kernel
theorem qk_64 : Cond.initialized "QuadMode$Storage" ∈ qw := qw_in 64 (by decide +kernel) (by decide +kernel)
theorem qk_65 : Cond.initialized "QuadMode$Pages" ∈ qw := qw_in 65 (by decide +kernel) (by decide +kernel)
theorem qk_66 : Cond.initialized "QuadMode$Core" ∈ qw := qw_in 66 (by decide +kernel) (by decide +kernel)
theorem qk_67 : Cond.initialized "QuadMode$Operand" ∈ qw := qw_in 67 (by decide +kernel) (by decide +kernel)
theorem qk_68 : Cond.initialized "QuadMode$Specifiers" ∈ qw := qw_in 68 (by decide +kernel) (by decide +kernel)
theorem qk_69 : Cond.initialized "QuadMode$Codes" ∈ qw := qw_in 69 (by decide +kernel) (by decide +kernel)
theorem qk_89 : Cond.methodLink "QuadMode" 1 objectInit ∈ qw := qw_in 89 (by decide +kernel) (by decide +kernel)
theorem qk_90 : Cond.instanceMethod objectInit ∈ qw := qw_in 90 (by decide +kernel) (by decide +kernel)
theorem qk_91 : Cond.code objectInit ⟨#[0xb1]⟩ 1 none ∈ qw := qw_in 91 (by decide +kernel) (by decide +kernel)
theorem qk_92 : Cond.classLink "QuadMode" 7 "QuadMode$Storage" ∈ qw := qw_in 92 (by decide +kernel) (by decide +kernel)
theorem qk_93 : Cond.instantiable "QuadMode$Storage" 1 ∈ qw := qw_in 93 (by decide +kernel) (by decide +kernel)
theorem qk_95 : Cond.instanceMethod qm_St_init ∈ qw := qw_in 95 (by decide +kernel) (by decide +kernel)
theorem qk_96 : Cond.code qm_St_init qm_St_init_c 1 none ∈ qw := qw_in 96 (by decide +kernel) (by decide +kernel)
theorem qk_97 : Cond.methodLink "QuadMode$Storage" 3 objectInit ∈ qw := qw_in 97 (by decide +kernel) (by decide +kernel)
theorem qk_98 : Cond.fieldLink "QuadMode$Storage" 9 "QuadMode$Storage" "cells" "[B" ∈ qw := qw_in 98 (by decide +kernel) (by decide +kernel)
theorem qk_102 : Cond.arrayClass .byte ∈ qw := qw_in 102 (by decide +kernel) (by decide +kernel)
theorem qk_103 : Cond.classLink "QuadMode" 20 "QuadMode$Pages" ∈ qw := qw_in 103 (by decide +kernel) (by decide +kernel)
theorem qk_104 : Cond.instantiable "QuadMode$Pages" 3 ∈ qw := qw_in 104 (by decide +kernel) (by decide +kernel)
theorem qk_105 : Cond.methodLink "QuadMode" 22 qm_Pg_init ∈ qw := qw_in 105 (by decide +kernel) (by decide +kernel)
theorem qk_106 : Cond.instanceMethod qm_Pg_init ∈ qw := qw_in 106 (by decide +kernel) (by decide +kernel)
theorem qk_107 : Cond.code qm_Pg_init qm_Pg_init_c 3 none ∈ qw := qw_in 107 (by decide +kernel) (by decide +kernel)
theorem qk_108 : Cond.methodLink "QuadMode$Pages" 3 objectInit ∈ qw := qw_in 108 (by decide +kernel) (by decide +kernel)
theorem qk_109 : Cond.fieldLink "QuadMode$Pages" 9 "QuadMode$Pages" "storage" "LQuadMode$Storage;" ∈ qw := qw_in 109 (by decide +kernel) (by decide +kernel)
theorem qk_110 : Cond.fieldLink "QuadMode$Pages" 15 "QuadMode$Pages" "inner" "[I" ∈ qw := qw_in 110 (by decide +kernel) (by decide +kernel)
theorem qk_120 : Cond.arrayClass .int ∈ qw := qw_in 120 (by decide +kernel) (by decide +kernel)
theorem qk_121 : Cond.classLink "QuadMode" 29 "QuadMode$Core" ∈ qw := qw_in 121 (by decide +kernel) (by decide +kernel)
theorem qk_122 : Cond.instantiable "QuadMode$Core" 14 ∈ qw := qw_in 122 (by decide +kernel) (by decide +kernel)
theorem qk_123 : Cond.methodLink "QuadMode" 31 qm_Co_init ∈ qw := qw_in 123 (by decide +kernel) (by decide +kernel)
theorem qk_124 : Cond.instanceMethod qm_Co_init ∈ qw := qw_in 124 (by decide +kernel) (by decide +kernel)
theorem qk_125 : Cond.code qm_Co_init qm_Co_init_c 4 none ∈ qw := qw_in 125 (by decide +kernel) (by decide +kernel)
theorem qk_126 : Cond.methodLink "QuadMode$Core" 3 objectInit ∈ qw := qw_in 126 (by decide +kernel) (by decide +kernel)
theorem qk_127 : Cond.fieldLink "QuadMode$Core" 27 "QuadMode$Core" "storage" "LQuadMode$Storage;" ∈ qw := qw_in 127 (by decide +kernel) (by decide +kernel)
theorem qk_128 : Cond.fieldLink "QuadMode$Core" 31 "QuadMode$Core" "pages" "LQuadMode$Pages;" ∈ qw := qw_in 128 (by decide +kernel) (by decide +kernel)
theorem qk_129 : Cond.fieldLink "QuadMode$Core" 35 "QuadMode$Core" "inner" "[I" ∈ qw := qw_in 129 (by decide +kernel) (by decide +kernel)
theorem qk_130 : Cond.fieldLink "QuadMode$Core" 9 "QuadMode$Core" "registers" "[I" ∈ qw := qw_in 130 (by decide +kernel) (by decide +kernel)
theorem qk_131 : Cond.fieldLink "QuadMode$Core" 15 "QuadMode$Core" "keptRegisters" "[I" ∈ qw := qw_in 131 (by decide +kernel) (by decide +kernel)
theorem qk_132 : Cond.fieldLink "QuadMode$Core" 18 "QuadMode$Core" "keptStacks" "[I" ∈ qw := qw_in 132 (by decide +kernel) (by decide +kernel)
theorem qk_133 : Cond.fieldLink "QuadMode$Core" 21 "QuadMode$Core" "places" "[I" ∈ qw := qw_in 133 (by decide +kernel) (by decide +kernel)
theorem qk_134 : Cond.fieldLink "QuadMode$Core" 24 "QuadMode$Core" "entries" "[I" ∈ qw := qw_in 134 (by decide +kernel) (by decide +kernel)
theorem qk_177 : Cond.classLink "QuadMode" 38 "QuadMode$Operand" ∈ qw := qw_in 177 (by decide +kernel) (by decide +kernel)
theorem qk_179 : Cond.instantiable "QuadMode$Operand" 4 ∈ qw := qw_in 179 (by decide +kernel) (by decide +kernel)
theorem qk_181 : Cond.instanceMethod qm_Op_init ∈ qw := qw_in 181 (by decide +kernel) (by decide +kernel)
theorem qk_182 : Cond.code qm_Op_init qm_Op_init_c 1 none ∈ qw := qw_in 182 (by decide +kernel) (by decide +kernel)
theorem qk_183 : Cond.methodLink "QuadMode$Operand" 1 objectInit ∈ qw := qw_in 183 (by decide +kernel) (by decide +kernel)
theorem qk_202 : Cond.classLink "QuadMode" 45 "QuadMode$Specifiers" ∈ qw := qw_in 202 (by decide +kernel) (by decide +kernel)
theorem qk_203 : Cond.instantiable "QuadMode$Specifiers" 1 ∈ qw := qw_in 203 (by decide +kernel) (by decide +kernel)
theorem qk_204 : Cond.methodLink "QuadMode" 47 qm_Sp_init ∈ qw := qw_in 204 (by decide +kernel) (by decide +kernel)
theorem qk_205 : Cond.instanceMethod qm_Sp_init ∈ qw := qw_in 205 (by decide +kernel) (by decide +kernel)
theorem qk_206 : Cond.code qm_Sp_init qm_Sp_init_c 2 none ∈ qw := qw_in 206 (by decide +kernel) (by decide +kernel)
theorem qk_207 : Cond.methodLink "QuadMode$Specifiers" 3 objectInit ∈ qw := qw_in 207 (by decide +kernel) (by decide +kernel)
theorem qk_208 : Cond.fieldLink "QuadMode$Specifiers" 9 "QuadMode$Specifiers" "core" "LQuadMode$Core;" ∈ qw := qw_in 208 (by decide +kernel) (by decide +kernel)
theorem qk_212 : Cond.classLink "QuadMode" 54 "QuadMode$Codes" ∈ qw := qw_in 212 (by decide +kernel) (by decide +kernel)
theorem qk_213 : Cond.instantiable "QuadMode$Codes" 4 ∈ qw := qw_in 213 (by decide +kernel) (by decide +kernel)
theorem qk_214 : Cond.methodLink "QuadMode" 56 qm_Cd_init ∈ qw := qw_in 214 (by decide +kernel) (by decide +kernel)
theorem qk_215 : Cond.instanceMethod qm_Cd_init ∈ qw := qw_in 215 (by decide +kernel) (by decide +kernel)
theorem qk_216 : Cond.code qm_Cd_init qm_Cd_init_c 5 none ∈ qw := qw_in 216 (by decide +kernel) (by decide +kernel)
theorem qk_217 : Cond.methodLink "QuadMode$Codes" 3 objectInit ∈ qw := qw_in 217 (by decide +kernel) (by decide +kernel)
theorem qk_218 : Cond.fieldLink "QuadMode$Codes" 9 "QuadMode$Codes" "core" "LQuadMode$Core;" ∈ qw := qw_in 218 (by decide +kernel) (by decide +kernel)
theorem qk_219 : Cond.fieldLink "QuadMode$Codes" 15 "QuadMode$Codes" "first" "LQuadMode$Operand;" ∈ qw := qw_in 219 (by decide +kernel) (by decide +kernel)
theorem qk_220 : Cond.fieldLink "QuadMode$Codes" 19 "QuadMode$Codes" "second" "LQuadMode$Operand;" ∈ qw := qw_in 220 (by decide +kernel) (by decide +kernel)
theorem qk_221 : Cond.fieldLink "QuadMode$Codes" 22 "QuadMode$Codes" "third" "LQuadMode$Operand;" ∈ qw := qw_in 221 (by decide +kernel) (by decide +kernel)
theorem qk_231 : Cond.fieldLink "QuadMode" 10 "QuadMode" "storage" "LQuadMode$Storage;" ∈ qw := qw_in 231 (by decide +kernel) (by decide +kernel)
theorem qk_232 : Cond.fieldLink "QuadMode" 16 "QuadMode" "inner" "[I" ∈ qw := qw_in 232 (by decide +kernel) (by decide +kernel)
theorem qk_233 : Cond.fieldLink "QuadMode" 25 "QuadMode" "pages" "LQuadMode$Pages;" ∈ qw := qw_in 233 (by decide +kernel) (by decide +kernel)
theorem qk_234 : Cond.fieldLink "QuadMode" 34 "QuadMode" "core" "LQuadMode$Core;" ∈ qw := qw_in 234 (by decide +kernel) (by decide +kernel)
theorem qk_235 : Cond.fieldLink "QuadMode" 41 "QuadMode" "operands" "[LQuadMode$Operand;" ∈ qw := qw_in 235 (by decide +kernel) (by decide +kernel)
theorem qk_236 : Cond.fieldLink "QuadMode" 50 "QuadMode" "specifiers" "LQuadMode$Specifiers;" ∈ qw := qw_in 236 (by decide +kernel) (by decide +kernel)
theorem qk_237 : Cond.fieldLink "QuadMode" 59 "QuadMode" "codes" "LQuadMode$Codes;" ∈ qw := qw_in 237 (by decide +kernel) (by decide +kernel)
theorem qk_830 : Cond.methodLink "QuadModeModel" 1 objectInit ∈ qw := qw_in 830 (by decide +kernel) (by decide +kernel)
theorem qk_832 : Cond.fieldLink "QuadModeModel" 7 "QuadModeModel" "storage" "[I" ∈ qw := qw_in 832 (by decide +kernel) (by decide +kernel)
theorem qk_833 : Cond.fieldLink "QuadModeModel" 13 "QuadModeModel" "registers" "[I" ∈ qw := qw_in 833 (by decide +kernel) (by decide +kernel)
theorem qk_834 : Cond.fieldLink "QuadModeModel" 16 "QuadModeModel" "inner" "[I" ∈ qw := qw_in 834 (by decide +kernel) (by decide +kernel)
theorem qk_840 : Cond.fieldLink "QuadModeModel" 19 "QuadModeModel" "oldRegisters" "[I" ∈ qw := qw_in 840 (by decide +kernel) (by decide +kernel)
theorem qk_841 : Cond.fieldLink "QuadModeModel" 22 "QuadModeModel" "oldInner" "[I" ∈ qw := qw_in 841 (by decide +kernel) (by decide +kernel)
theorem qk_847 : Cond.fieldLink "QuadModeModel" 25 "QuadModeModel" "value" "[I" ∈ qw := qw_in 847 (by decide +kernel) (by decide +kernel)
theorem qk_848 : Cond.fieldLink "QuadModeModel" 28 "QuadModeModel" "where" "[I" ∈ qw := qw_in 848 (by decide +kernel) (by decide +kernel)
theorem qk_849 : Cond.fieldLink "QuadModeModel" 31 "QuadModeModel" "at" "[I" ∈ qw := qw_in 849 (by decide +kernel) (by decide +kernel)
theorem qk_851 : Cond.fieldLink "QuadModeModel" 34 "QuadModeModel" "places" "[I" ∈ qw := qw_in 851 (by decide +kernel) (by decide +kernel)
theorem qk_852 : Cond.fieldLink "QuadModeModel" 37 "QuadModeModel" "entries" "[I" ∈ qw := qw_in 852 (by decide +kernel) (by decide +kernel)
def qX (U : State) : Prop := va_AO "QuadMode$Operand" U ∧ va_Nw (.methodLinkNest "QuadMode" 9 qm_St_init "QuadMode") U ∧ va_Nw (.methodLinkNest "QuadMode" 40 qm_Op_init "QuadMode") U
set_option maxHeartbeats 4000000 in
set_option maxRecDepth 100000 in
theorem kc_St (l : Launch) (D : va_G) (sz : Nat) (h0 : Nat) : Met l qm_St_init (.code qm_St_init qm_St_init_c 1 none :: qw) ({ frames := 1, cells := 1, slots := 2048, locals := 12 }) (va_Pc [.ref h0] (fun U => U.heap.size = sz ∧ va_P D qCl [(h0, .inr (5, [.null]))] U.heap ∧ va_K D qCl [] U ∧ va_D (fun _ => True) [(h0, .inr (5, [.null]))])) (va_Qv (fun _ : Unit => True) (fun (_ : Unit) t => ∃ (q8 : Nat), ∃ (k8 : ClassId), va_P D qCl [(h0, .inr (5, [.ref q8])), (q8, .inl (k8, 2048, .inl (fun _ => 0)))] t.heap ∧ va_K D qCl [(k8, .byte)] t ∧ va_D (va_A [(h0, .inr (5, [.null]))] sz) [(h0, .inr (5, [.ref q8])), (q8, .inl (k8, 2048, .inl (fun _ => 0)))]) (va_A [(h0, .inr (5, [.null]))] sz)) 1 2048 (va_A [(h0, .inr (5, [.null]))] sz) := by
  refine Met.ofW (cc := qm_St_init_c) (maxL := 1) (ret := none) (by decide) rfl ?_
  intro p e s m args below meth c s₁ B hml hv
  obtain ⟨rfl, hsz, hP, hK, hD0⟩ := hv
  have hx := B.exec
  have hb := B.bytes
  have hr := B.returns
  have hts : ∀ w ∈ qw, w.before _ s = true := fun w h => atoms_spec (ws := .code qm_St_init qm_St_init_c 1 none :: qw) B.pre w (List.mem_cons_of_mem _ h)
  have hown : s.vm.findClass qR_St = some m.cls := findClass_of_methodNamed B.named
  have hlocks := B.notSynchronized
  have hin : meth.name = "<init>" := (name_of_methodNamed B.named B.method).1
  subst hsz
  have hD := hD0.self (sz := s.heap.size)
  generalize hAe : va_A [(h0, .inr (5, [.null]))] s.heap.size = A at hD ⊢
  have hA : ∀ q : Nat, s.heap.size ≤ q → A q := fun q h => by rw [← hAe]; exact Or.inr h
  have hS : va_S A s.heap s.heap [] := va_S.rf
  have hl := lv_entry [.ref h0] (n := 1) (Nat.le_of_ble_eq_true rfl)
  rw [lg_entry_eq]
  generalize (lg_sl [.ref h0] ++ List.replicate (1 - (lg_sl [.ref h0]).length) Slot.unset).toArray = ls at hl ⊢
  have hl : lv_has ls 1 [(0, .ref h0)] := hl
  refine lv_aload_n hx hb qm_St_init_0 rfl (lv_at hl 0 rfl) ?_
  refine W.objInit hx hb hown (hts _ qk_97) (hts _ qk_90) (hts _ qk_91) rfl (by rw [hml]; exact hl.1) rfl qm_St_init_1 (Nat.le_of_ble_eq_true rfl) (Nat.le_of_ble_eq_true rfl) ?_
  refine W.eq (g2 := F0 m 4 ls []) rfl ?_
  refine lv_aload_n hx hb qm_St_init_4 rfl (lv_at hl 0 rfl) ?_
  refine lv_sipush (v := 2048) hx hb qm_St_init_5 (by decide) ?_
  refine va_newa (atype := .byte) (ty := .byte) (N' := 2048) (a0 := (2048, .inl (fun _ => 0))) hx hb (hts _ qk_102) rfl hK hP hD hS hA (fun _ => rfl) (by decide) (by decide) (by decide) (by decide) (by decide) qm_St_init_8 (fun q8 k8 H hK hP hD hS => ?_)
  have hP : va_P D qCl [(h0, .inr (5, [.null])), (q8, .inl (k8, 2048, .inl (fun _ => 0)))] H := hP
  have hD : va_D A [(h0, .inr (5, [.null])), (q8, .inl (k8, 2048, .inl (fun _ => 0)))] := hD
  have hK : va_K D qCl [(k8, .byte)] s := hK
  refine W.widen (k := 1) (n := 2048) (by decide) (by decide) ?_
  refine va_putF (D := D) (ci := 5) (v := .ref q8) (ty := .array .byte) (C := qR_St) (T := qT_St) (N := 1) hx hb hts qi_St qY_St qy_St qn_St hown hK hP hD hS 0 rfl rfl 0 (by decide) (hts _ qk_98) (fun _ h9 => h9) rfl hin rfl (by decide +kernel) rfl rfl (Nat.le_of_ble_eq_true rfl) qm_St_init_10 (fun H locs hP hD hS => ?_)
  have hP : va_P D qCl [(h0, .inr (5, [.ref q8])), (q8, .inl (k8, 2048, .inl (fun _ => 0)))] H := hP
  have hD : va_D A [(h0, .inr (5, [.ref q8])), (q8, .inl (k8, 2048, .inl (fun _ => 0)))] := hD
  have hK : va_K D qCl [(k8, .byte)] s := hK
  have hP9 := hP.sub (ws' := [(h0, .inr (5, [.ref q8])), (q8, .inl (k8, 2048, .inl (fun _ => 0)))]) [0, 1] rfl
  have hD9 := hD.sub (ws' := [(h0, .inr (5, [.ref q8])), (q8, .inl (k8, 2048, .inl (fun _ => 0)))]) [0, 1] (by decide) rfl
  have hK9 := hK.sub (tys' := [(k8, .byte)]) [0] rfl
  exact W.vret hx hb hr (fun t ht hW => ⟨⟨(), rfl, trivial, q8, k8, by rw [ht]; exact hP9, va_K.moved hW.alike hK9, hD9⟩, hS.F ht⟩) hS.2.2 qm_St_init_13
set_option maxHeartbeats 4000000 in
set_option maxRecDepth 100000 in
theorem kc_Op (l : Launch) (D : va_G) (sz : Nat) (h0 : Nat) : Met l qm_Op_init (.code qm_Op_init qm_Op_init_c 1 none :: qw) ({ frames := 1, cells := 0, slots := 0, locals := 12 }) (va_Pc [.ref h0] (fun U => U.heap.size = sz ∧ va_P D qCl [(h0, .inr (2, [.int 0, .int 0, .int 0, .int 0]))] U.heap ∧ va_K D qCl [] U ∧ va_D (fun _ => True) [(h0, .inr (2, [.int 0, .int 0, .int 0, .int 0]))])) (va_Qv (fun _ : Unit => True) (fun (_ : Unit) t => va_P D qCl [(h0, .inr (2, [.int 0, .int 0, .int 0, .int 0]))] t.heap ∧ va_K D qCl [] t ∧ va_D (va_A [(h0, .inr (2, [.int 0, .int 0, .int 0, .int 0]))] sz) [(h0, .inr (2, [.int 0, .int 0, .int 0, .int 0]))]) (va_A [(h0, .inr (2, [.int 0, .int 0, .int 0, .int 0]))] sz)) 0 0 (va_A [(h0, .inr (2, [.int 0, .int 0, .int 0, .int 0]))] sz) := by
  refine Met.ofW (cc := qm_Op_init_c) (maxL := 1) (ret := none) (by decide) rfl ?_
  intro p e s m args below meth c s₁ B hml hv
  obtain ⟨rfl, hsz, hP, hK, hD0⟩ := hv
  have hx := B.exec
  have hb := B.bytes
  have hr := B.returns
  have hts : ∀ w ∈ qw, w.before _ s = true := fun w h => atoms_spec (ws := .code qm_Op_init qm_Op_init_c 1 none :: qw) B.pre w (List.mem_cons_of_mem _ h)
  have hown : s.vm.findClass qR_Op = some m.cls := findClass_of_methodNamed B.named
  have hlocks := B.notSynchronized
  have hin : meth.name = "<init>" := (name_of_methodNamed B.named B.method).1
  subst hsz
  have hD := hD0.self (sz := s.heap.size)
  generalize hAe : va_A [(h0, .inr (2, [.int 0, .int 0, .int 0, .int 0]))] s.heap.size = A at hD ⊢
  have hA : ∀ q : Nat, s.heap.size ≤ q → A q := fun q h => by rw [← hAe]; exact Or.inr h
  have hS : va_S A s.heap s.heap [] := va_S.rf
  have hl := lv_entry [.ref h0] (n := 1) (Nat.le_of_ble_eq_true rfl)
  rw [lg_entry_eq]
  generalize (lg_sl [.ref h0] ++ List.replicate (1 - (lg_sl [.ref h0]).length) Slot.unset).toArray = ls at hl ⊢
  have hl : lv_has ls 1 [(0, .ref h0)] := hl
  refine lv_aload_n hx hb qm_Op_init_0 rfl (lv_at hl 0 rfl) ?_
  refine W.objInit hx hb hown (hts _ qk_183) (hts _ qk_90) (hts _ qk_91) rfl (by rw [hml]; exact hl.1) rfl qm_Op_init_1 (Nat.le_of_ble_eq_true rfl) (Nat.le_of_ble_eq_true rfl) ?_
  refine W.eq (g2 := F0 m 4 ls []) rfl ?_
  have hP9 := hP.sub (ws' := [(h0, .inr (2, [.int 0, .int 0, .int 0, .int 0]))]) [0] rfl
  have hD9 := hD.sub (ws' := [(h0, .inr (2, [.int 0, .int 0, .int 0, .int 0]))]) [0] (by decide) rfl
  have hK9 := hK.sub (tys' := []) [] rfl
  exact W.vret hx hb hr (fun t ht hW => ⟨⟨(), rfl, trivial, by rw [ht]; exact hP9, va_K.moved hW.alike hK9, hD9⟩, hS.F ht⟩) hS.2.2 qm_Op_init_4
set_option maxHeartbeats 4000000 in
set_option maxRecDepth 100000 in
theorem kc_Pg (l : Launch) (D : va_G) (sz : Nat) (h0 : Nat) (a1 : Nat) (a2 : Nat) : Met l qm_Pg_init (.code qm_Pg_init qm_Pg_init_c 3 none :: qw) ({ frames := 1, cells := 0, slots := 0, locals := 12 }) (va_Pc [.ref h0, .ref a1, .ref a2] (fun U => U.heap.size = sz ∧ va_P D qCl [(h0, .inr (3, [.null, .null, .int 0]))] U.heap ∧ va_K D qCl [] U ∧ va_D (fun _ => True) [(h0, .inr (3, [.null, .null, .int 0]))])) (va_Qv (fun _ : Unit => True) (fun (_ : Unit) t => va_P D qCl [(h0, .inr (3, [.ref a1, .ref a2, .int 0]))] t.heap ∧ va_K D qCl [] t ∧ va_D (va_A [(h0, .inr (3, [.null, .null, .int 0]))] sz) [(h0, .inr (3, [.ref a1, .ref a2, .int 0]))]) (va_A [(h0, .inr (3, [.null, .null, .int 0]))] sz)) 0 0 (va_A [(h0, .inr (3, [.null, .null, .int 0]))] sz) := by
  refine Met.ofW (cc := qm_Pg_init_c) (maxL := 3) (ret := none) (by decide) rfl ?_
  intro p e s m args below meth c s₁ B hml hv
  obtain ⟨rfl, hsz, hP, hK, hD0⟩ := hv
  have hx := B.exec
  have hb := B.bytes
  have hr := B.returns
  have hts : ∀ w ∈ qw, w.before _ s = true := fun w h => atoms_spec (ws := .code qm_Pg_init qm_Pg_init_c 3 none :: qw) B.pre w (List.mem_cons_of_mem _ h)
  have hown : s.vm.findClass qR_Pg = some m.cls := findClass_of_methodNamed B.named
  have hlocks := B.notSynchronized
  have hin : meth.name = "<init>" := (name_of_methodNamed B.named B.method).1
  subst hsz
  have hD := hD0.self (sz := s.heap.size)
  generalize hAe : va_A [(h0, .inr (3, [.null, .null, .int 0]))] s.heap.size = A at hD ⊢
  have hA : ∀ q : Nat, s.heap.size ≤ q → A q := fun q h => by rw [← hAe]; exact Or.inr h
  have hS : va_S A s.heap s.heap [] := va_S.rf
  have hl := lv_entry [.ref h0, .ref a1, .ref a2] (n := 3) (Nat.le_of_ble_eq_true rfl)
  rw [lg_entry_eq]
  generalize (lg_sl [.ref h0, .ref a1, .ref a2] ++ List.replicate (3 - (lg_sl [.ref h0, .ref a1, .ref a2]).length) Slot.unset).toArray = ls at hl ⊢
  have hl : lv_has ls 3 [(0, .ref h0), (1, .ref a1), (2, .ref a2)] := hl
  refine lv_aload_n hx hb qm_Pg_init_0 rfl (lv_at hl 0 rfl) ?_
  refine W.objInit hx hb hown (hts _ qk_108) (hts _ qk_90) (hts _ qk_91) rfl (by rw [hml]; exact hl.1) rfl qm_Pg_init_1 (Nat.le_of_ble_eq_true rfl) (Nat.le_of_ble_eq_true rfl) ?_
  refine W.eq (g2 := F0 m 4 ls []) rfl ?_
  refine lv_aload_n hx hb qm_Pg_init_4 rfl (lv_at hl 0 rfl) ?_
  refine lv_aload_n hx hb qm_Pg_init_5 rfl (lv_at hl 1 rfl) ?_
  refine va_putF (D := D) (ci := 3) (v := .ref a1) (ty := .object "QuadMode$Storage") (C := qR_Pg) (T := qT_Pg) (N := 3) hx hb hts qi_Pg qY_Pg qy_Pg qn_Pg hown hK hP hD hS 0 rfl rfl 0 (by decide) (hts _ qk_109) (fun _ h9 => h9) rfl hin rfl (by decide +kernel) rfl rfl (Nat.le_of_ble_eq_true rfl) qm_Pg_init_6 (fun H locs hP hD hS => ?_)
  have hP : va_P D qCl [(h0, .inr (3, [.ref a1, .null, .int 0]))] H := hP
  have hD : va_D A [(h0, .inr (3, [.ref a1, .null, .int 0]))] := hD
  have hK : va_K D qCl [] s := hK
  refine lv_aload_n hx hb qm_Pg_init_9 rfl (lv_at hl 0 rfl) ?_
  refine lv_aload_n hx hb qm_Pg_init_10 rfl (lv_at hl 2 rfl) ?_
  refine va_putF (D := D) (ci := 3) (v := .ref a2) (ty := .array .int) (C := qR_Pg) (T := qT_Pg) (N := 3) hx hb hts qi_Pg qY_Pg qy_Pg qn_Pg hown hK hP hD hS 0 rfl rfl 1 (by decide) (hts _ qk_110) (fun _ h9 => h9) rfl hin rfl (by decide +kernel) rfl rfl (Nat.le_of_ble_eq_true rfl) qm_Pg_init_11 (fun H locs hP hD hS => ?_)
  have hP : va_P D qCl [(h0, .inr (3, [.ref a1, .ref a2, .int 0]))] H := hP
  have hD : va_D A [(h0, .inr (3, [.ref a1, .ref a2, .int 0]))] := hD
  have hK : va_K D qCl [] s := hK
  have hP9 := hP.sub (ws' := [(h0, .inr (3, [.ref a1, .ref a2, .int 0]))]) [0] rfl
  have hD9 := hD.sub (ws' := [(h0, .inr (3, [.ref a1, .ref a2, .int 0]))]) [0] (by decide) rfl
  have hK9 := hK.sub (tys' := []) [] rfl
  exact W.vret hx hb hr (fun t ht hW => ⟨⟨(), rfl, trivial, by rw [ht]; exact hP9, va_K.moved hW.alike hK9, hD9⟩, hS.F ht⟩) hS.2.2 qm_Pg_init_14
set_option maxHeartbeats 4000000 in
set_option maxRecDepth 100000 in
theorem kc_Co (l : Launch) (D : va_G) (sz : Nat) (h0 : Nat) (a1 : Nat) (a2 : Nat) (a3 : Nat) : Met l qm_Co_init (.code qm_Co_init qm_Co_init_c 4 none :: qw) ({ frames := 1, cells := 5, slots := 44, locals := 12 }) (va_Pc [.ref h0, .ref a1, .ref a2, .ref a3] (fun U => U.heap.size = sz ∧ va_P D qCl [(h0, .inr (1, [.null, .null, .null, .null, .null, .null, .null, .null, .int 0, .int 0, .int 0, .int 0, .int 0, .int 0]))] U.heap ∧ va_K D qCl [] U ∧ va_D (fun _ => True) [(h0, .inr (1, [.null, .null, .null, .null, .null, .null, .null, .null, .int 0, .int 0, .int 0, .int 0, .int 0, .int 0]))])) (va_Qv (fun _ : Unit => True) (fun (_ : Unit) t => ∃ (q7 q15 q22 q29 q36 : Nat), ∃ (k7 k15 k22 k29 k36 : ClassId), va_P D qCl [(h0, .inr (1, [.ref a1, .ref a2, .ref a3, .ref q7, .ref q15, .ref q22, .ref q29, .ref q36, .int 0, .int 0, .int 0, .int 0, .int 0, .int 0])), (q7, .inl (k7, 16, .inl (fun _ => 0))), (q15, .inl (k15, 16, .inl (fun _ => 0))), (q22, .inl (k22, 4, .inl (fun _ => 0))), (q29, .inl (k29, 4, .inl (fun _ => 0))), (q36, .inl (k36, 4, .inl (fun _ => 0)))] t.heap ∧ va_K D qCl [(k7, .int), (k15, .int), (k22, .int), (k29, .int), (k36, .int)] t ∧ va_D (va_A [(h0, .inr (1, [.null, .null, .null, .null, .null, .null, .null, .null, .int 0, .int 0, .int 0, .int 0, .int 0, .int 0]))] sz) [(h0, .inr (1, [.ref a1, .ref a2, .ref a3, .ref q7, .ref q15, .ref q22, .ref q29, .ref q36, .int 0, .int 0, .int 0, .int 0, .int 0, .int 0])), (q7, .inl (k7, 16, .inl (fun _ => 0))), (q15, .inl (k15, 16, .inl (fun _ => 0))), (q22, .inl (k22, 4, .inl (fun _ => 0))), (q29, .inl (k29, 4, .inl (fun _ => 0))), (q36, .inl (k36, 4, .inl (fun _ => 0)))]) (va_A [(h0, .inr (1, [.null, .null, .null, .null, .null, .null, .null, .null, .int 0, .int 0, .int 0, .int 0, .int 0, .int 0]))] sz)) 5 44 (va_A [(h0, .inr (1, [.null, .null, .null, .null, .null, .null, .null, .null, .int 0, .int 0, .int 0, .int 0, .int 0, .int 0]))] sz) := by
  refine Met.ofW (cc := qm_Co_init_c) (maxL := 4) (ret := none) (by decide) rfl ?_
  intro p e s m args below meth c s₁ B hml hv
  obtain ⟨rfl, hsz, hP, hK, hD0⟩ := hv
  have hx := B.exec
  have hb := B.bytes
  have hr := B.returns
  have hts : ∀ w ∈ qw, w.before _ s = true := fun w h => atoms_spec (ws := .code qm_Co_init qm_Co_init_c 4 none :: qw) B.pre w (List.mem_cons_of_mem _ h)
  have hown : s.vm.findClass qR_Co = some m.cls := findClass_of_methodNamed B.named
  have hlocks := B.notSynchronized
  have hin : meth.name = "<init>" := (name_of_methodNamed B.named B.method).1
  subst hsz
  have hD := hD0.self (sz := s.heap.size)
  generalize hAe : va_A [(h0, .inr (1, [.null, .null, .null, .null, .null, .null, .null, .null, .int 0, .int 0, .int 0, .int 0, .int 0, .int 0]))] s.heap.size = A at hD ⊢
  have hA : ∀ q : Nat, s.heap.size ≤ q → A q := fun q h => by rw [← hAe]; exact Or.inr h
  have hS : va_S A s.heap s.heap [] := va_S.rf
  have hl := lv_entry [.ref h0, .ref a1, .ref a2, .ref a3] (n := 4) (Nat.le_of_ble_eq_true rfl)
  rw [lg_entry_eq]
  generalize (lg_sl [.ref h0, .ref a1, .ref a2, .ref a3] ++ List.replicate (4 - (lg_sl [.ref h0, .ref a1, .ref a2, .ref a3]).length) Slot.unset).toArray = ls at hl ⊢
  have hl : lv_has ls 4 [(0, .ref h0), (1, .ref a1), (2, .ref a2), (3, .ref a3)] := hl
  refine lv_aload_n hx hb qm_Co_init_0 rfl (lv_at hl 0 rfl) ?_
  refine W.objInit hx hb hown (hts _ qk_126) (hts _ qk_90) (hts _ qk_91) rfl (by rw [hml]; exact hl.1) rfl qm_Co_init_1 (Nat.le_of_ble_eq_true rfl) (Nat.le_of_ble_eq_true rfl) ?_
  refine W.eq (g2 := F0 m 4 ls []) rfl ?_
  refine lv_aload_n hx hb qm_Co_init_4 rfl (lv_at hl 0 rfl) ?_
  refine lv_bipush (v := 16) hx hb qm_Co_init_5 (by decide) ?_
  refine va_newa (atype := .int) (ty := .int) (N' := 16) (a0 := (16, .inl (fun _ => 0))) hx hb (hts _ qk_120) rfl hK hP hD hS hA (fun _ => rfl) (by decide) (by decide) (by decide) (by decide) (by decide) qm_Co_init_7 (fun q7 k7 H hK hP hD hS => ?_)
  have hP : va_P D qCl [(h0, .inr (1, [.null, .null, .null, .null, .null, .null, .null, .null, .int 0, .int 0, .int 0, .int 0, .int 0, .int 0])), (q7, .inl (k7, 16, .inl (fun _ => 0)))] H := hP
  have hD : va_D A [(h0, .inr (1, [.null, .null, .null, .null, .null, .null, .null, .null, .int 0, .int 0, .int 0, .int 0, .int 0, .int 0])), (q7, .inl (k7, 16, .inl (fun _ => 0)))] := hD
  have hK : va_K D qCl [(k7, .int)] s := hK
  refine W.widen (k := 1) (n := 16) (by decide) (by decide) ?_
  refine va_putF (D := D) (ci := 1) (v := .ref q7) (ty := .array .int) (C := qR_Co) (T := qT_Co) (N := 14) hx hb hts qi_Co qY_Co qy_Co qn_Co hown hK hP hD hS 0 rfl rfl 3 (by decide) (hts _ qk_130) (fun _ h9 => h9) rfl hin rfl (by decide +kernel) rfl rfl (Nat.le_of_ble_eq_true rfl) qm_Co_init_9 (fun H locs hP hD hS => ?_)
  have hP : va_P D qCl [(h0, .inr (1, [.null, .null, .null, .ref q7, .null, .null, .null, .null, .int 0, .int 0, .int 0, .int 0, .int 0, .int 0])), (q7, .inl (k7, 16, .inl (fun _ => 0)))] H := hP
  have hD : va_D A [(h0, .inr (1, [.null, .null, .null, .ref q7, .null, .null, .null, .null, .int 0, .int 0, .int 0, .int 0, .int 0, .int 0])), (q7, .inl (k7, 16, .inl (fun _ => 0)))] := hD
  have hK : va_K D qCl [(k7, .int)] s := hK
  refine lv_aload_n hx hb qm_Co_init_12 rfl (lv_at hl 0 rfl) ?_
  refine lv_bipush (v := 16) hx hb qm_Co_init_13 (by decide) ?_
  refine va_newa (atype := .int) (ty := .int) (N' := 16) (a0 := (16, .inl (fun _ => 0))) hx hb (hts _ qk_120) rfl hK hP hD hS hA (fun _ => rfl) (by decide) (by decide) (by decide) (by decide) (by decide) qm_Co_init_15 (fun q15 k15 H hK hP hD hS => ?_)
  have hP : va_P D qCl [(h0, .inr (1, [.null, .null, .null, .ref q7, .null, .null, .null, .null, .int 0, .int 0, .int 0, .int 0, .int 0, .int 0])), (q7, .inl (k7, 16, .inl (fun _ => 0))), (q15, .inl (k15, 16, .inl (fun _ => 0)))] H := hP
  have hD : va_D A [(h0, .inr (1, [.null, .null, .null, .ref q7, .null, .null, .null, .null, .int 0, .int 0, .int 0, .int 0, .int 0, .int 0])), (q7, .inl (k7, 16, .inl (fun _ => 0))), (q15, .inl (k15, 16, .inl (fun _ => 0)))] := hD
  have hK : va_K D qCl [(k7, .int), (k15, .int)] s := hK
  refine W.widen (k := 2) (n := 32) (by decide) (by decide) ?_
  refine va_putF (D := D) (ci := 1) (v := .ref q15) (ty := .array .int) (C := qR_Co) (T := qT_Co) (N := 14) hx hb hts qi_Co qY_Co qy_Co qn_Co hown hK hP hD hS 0 rfl rfl 4 (by decide) (hts _ qk_131) (fun _ h9 => h9) rfl hin rfl (by decide +kernel) rfl rfl (Nat.le_of_ble_eq_true rfl) qm_Co_init_17 (fun H locs hP hD hS => ?_)
  have hP : va_P D qCl [(h0, .inr (1, [.null, .null, .null, .ref q7, .ref q15, .null, .null, .null, .int 0, .int 0, .int 0, .int 0, .int 0, .int 0])), (q7, .inl (k7, 16, .inl (fun _ => 0))), (q15, .inl (k15, 16, .inl (fun _ => 0)))] H := hP
  have hD : va_D A [(h0, .inr (1, [.null, .null, .null, .ref q7, .ref q15, .null, .null, .null, .int 0, .int 0, .int 0, .int 0, .int 0, .int 0])), (q7, .inl (k7, 16, .inl (fun _ => 0))), (q15, .inl (k15, 16, .inl (fun _ => 0)))] := hD
  have hK : va_K D qCl [(k7, .int), (k15, .int)] s := hK
  refine lv_aload_n hx hb qm_Co_init_20 rfl (lv_at hl 0 rfl) ?_
  refine lv_iconst (v := 4) hx hb qm_Co_init_21 (by decide) ?_
  refine va_newa (atype := .int) (ty := .int) (N' := 4) (a0 := (4, .inl (fun _ => 0))) hx hb (hts _ qk_120) rfl hK hP hD hS hA (fun _ => rfl) (by decide) (by decide) (by decide) (by decide) (by decide) qm_Co_init_22 (fun q22 k22 H hK hP hD hS => ?_)
  have hP : va_P D qCl [(h0, .inr (1, [.null, .null, .null, .ref q7, .ref q15, .null, .null, .null, .int 0, .int 0, .int 0, .int 0, .int 0, .int 0])), (q7, .inl (k7, 16, .inl (fun _ => 0))), (q15, .inl (k15, 16, .inl (fun _ => 0))), (q22, .inl (k22, 4, .inl (fun _ => 0)))] H := hP
  have hD : va_D A [(h0, .inr (1, [.null, .null, .null, .ref q7, .ref q15, .null, .null, .null, .int 0, .int 0, .int 0, .int 0, .int 0, .int 0])), (q7, .inl (k7, 16, .inl (fun _ => 0))), (q15, .inl (k15, 16, .inl (fun _ => 0))), (q22, .inl (k22, 4, .inl (fun _ => 0)))] := hD
  have hK : va_K D qCl [(k7, .int), (k15, .int), (k22, .int)] s := hK
  refine W.widen (k := 3) (n := 36) (by decide) (by decide) ?_
  refine va_putF (D := D) (ci := 1) (v := .ref q22) (ty := .array .int) (C := qR_Co) (T := qT_Co) (N := 14) hx hb hts qi_Co qY_Co qy_Co qn_Co hown hK hP hD hS 0 rfl rfl 5 (by decide) (hts _ qk_132) (fun _ h9 => h9) rfl hin rfl (by decide +kernel) rfl rfl (Nat.le_of_ble_eq_true rfl) qm_Co_init_24 (fun H locs hP hD hS => ?_)
  have hP : va_P D qCl [(h0, .inr (1, [.null, .null, .null, .ref q7, .ref q15, .ref q22, .null, .null, .int 0, .int 0, .int 0, .int 0, .int 0, .int 0])), (q7, .inl (k7, 16, .inl (fun _ => 0))), (q15, .inl (k15, 16, .inl (fun _ => 0))), (q22, .inl (k22, 4, .inl (fun _ => 0)))] H := hP
  have hD : va_D A [(h0, .inr (1, [.null, .null, .null, .ref q7, .ref q15, .ref q22, .null, .null, .int 0, .int 0, .int 0, .int 0, .int 0, .int 0])), (q7, .inl (k7, 16, .inl (fun _ => 0))), (q15, .inl (k15, 16, .inl (fun _ => 0))), (q22, .inl (k22, 4, .inl (fun _ => 0)))] := hD
  have hK : va_K D qCl [(k7, .int), (k15, .int), (k22, .int)] s := hK
  refine lv_aload_n hx hb qm_Co_init_27 rfl (lv_at hl 0 rfl) ?_
  refine lv_iconst (v := 4) hx hb qm_Co_init_28 (by decide) ?_
  refine va_newa (atype := .int) (ty := .int) (N' := 4) (a0 := (4, .inl (fun _ => 0))) hx hb (hts _ qk_120) rfl hK hP hD hS hA (fun _ => rfl) (by decide) (by decide) (by decide) (by decide) (by decide) qm_Co_init_29 (fun q29 k29 H hK hP hD hS => ?_)
  have hP : va_P D qCl [(h0, .inr (1, [.null, .null, .null, .ref q7, .ref q15, .ref q22, .null, .null, .int 0, .int 0, .int 0, .int 0, .int 0, .int 0])), (q7, .inl (k7, 16, .inl (fun _ => 0))), (q15, .inl (k15, 16, .inl (fun _ => 0))), (q22, .inl (k22, 4, .inl (fun _ => 0))), (q29, .inl (k29, 4, .inl (fun _ => 0)))] H := hP
  have hD : va_D A [(h0, .inr (1, [.null, .null, .null, .ref q7, .ref q15, .ref q22, .null, .null, .int 0, .int 0, .int 0, .int 0, .int 0, .int 0])), (q7, .inl (k7, 16, .inl (fun _ => 0))), (q15, .inl (k15, 16, .inl (fun _ => 0))), (q22, .inl (k22, 4, .inl (fun _ => 0))), (q29, .inl (k29, 4, .inl (fun _ => 0)))] := hD
  have hK : va_K D qCl [(k7, .int), (k15, .int), (k22, .int), (k29, .int)] s := hK
  refine W.widen (k := 4) (n := 40) (by decide) (by decide) ?_
  refine va_putF (D := D) (ci := 1) (v := .ref q29) (ty := .array .int) (C := qR_Co) (T := qT_Co) (N := 14) hx hb hts qi_Co qY_Co qy_Co qn_Co hown hK hP hD hS 0 rfl rfl 6 (by decide) (hts _ qk_133) (fun _ h9 => h9) rfl hin rfl (by decide +kernel) rfl rfl (Nat.le_of_ble_eq_true rfl) qm_Co_init_31 (fun H locs hP hD hS => ?_)
  have hP : va_P D qCl [(h0, .inr (1, [.null, .null, .null, .ref q7, .ref q15, .ref q22, .ref q29, .null, .int 0, .int 0, .int 0, .int 0, .int 0, .int 0])), (q7, .inl (k7, 16, .inl (fun _ => 0))), (q15, .inl (k15, 16, .inl (fun _ => 0))), (q22, .inl (k22, 4, .inl (fun _ => 0))), (q29, .inl (k29, 4, .inl (fun _ => 0)))] H := hP
  have hD : va_D A [(h0, .inr (1, [.null, .null, .null, .ref q7, .ref q15, .ref q22, .ref q29, .null, .int 0, .int 0, .int 0, .int 0, .int 0, .int 0])), (q7, .inl (k7, 16, .inl (fun _ => 0))), (q15, .inl (k15, 16, .inl (fun _ => 0))), (q22, .inl (k22, 4, .inl (fun _ => 0))), (q29, .inl (k29, 4, .inl (fun _ => 0)))] := hD
  have hK : va_K D qCl [(k7, .int), (k15, .int), (k22, .int), (k29, .int)] s := hK
  refine lv_aload_n hx hb qm_Co_init_34 rfl (lv_at hl 0 rfl) ?_
  refine lv_iconst (v := 4) hx hb qm_Co_init_35 (by decide) ?_
  refine va_newa (atype := .int) (ty := .int) (N' := 4) (a0 := (4, .inl (fun _ => 0))) hx hb (hts _ qk_120) rfl hK hP hD hS hA (fun _ => rfl) (by decide) (by decide) (by decide) (by decide) (by decide) qm_Co_init_36 (fun q36 k36 H hK hP hD hS => ?_)
  have hP : va_P D qCl [(h0, .inr (1, [.null, .null, .null, .ref q7, .ref q15, .ref q22, .ref q29, .null, .int 0, .int 0, .int 0, .int 0, .int 0, .int 0])), (q7, .inl (k7, 16, .inl (fun _ => 0))), (q15, .inl (k15, 16, .inl (fun _ => 0))), (q22, .inl (k22, 4, .inl (fun _ => 0))), (q29, .inl (k29, 4, .inl (fun _ => 0))), (q36, .inl (k36, 4, .inl (fun _ => 0)))] H := hP
  have hD : va_D A [(h0, .inr (1, [.null, .null, .null, .ref q7, .ref q15, .ref q22, .ref q29, .null, .int 0, .int 0, .int 0, .int 0, .int 0, .int 0])), (q7, .inl (k7, 16, .inl (fun _ => 0))), (q15, .inl (k15, 16, .inl (fun _ => 0))), (q22, .inl (k22, 4, .inl (fun _ => 0))), (q29, .inl (k29, 4, .inl (fun _ => 0))), (q36, .inl (k36, 4, .inl (fun _ => 0)))] := hD
  have hK : va_K D qCl [(k7, .int), (k15, .int), (k22, .int), (k29, .int), (k36, .int)] s := hK
  refine W.widen (k := 5) (n := 44) (by decide) (by decide) ?_
  refine va_putF (D := D) (ci := 1) (v := .ref q36) (ty := .array .int) (C := qR_Co) (T := qT_Co) (N := 14) hx hb hts qi_Co qY_Co qy_Co qn_Co hown hK hP hD hS 0 rfl rfl 7 (by decide) (hts _ qk_134) (fun _ h9 => h9) rfl hin rfl (by decide +kernel) rfl rfl (Nat.le_of_ble_eq_true rfl) qm_Co_init_38 (fun H locs hP hD hS => ?_)
  have hP : va_P D qCl [(h0, .inr (1, [.null, .null, .null, .ref q7, .ref q15, .ref q22, .ref q29, .ref q36, .int 0, .int 0, .int 0, .int 0, .int 0, .int 0])), (q7, .inl (k7, 16, .inl (fun _ => 0))), (q15, .inl (k15, 16, .inl (fun _ => 0))), (q22, .inl (k22, 4, .inl (fun _ => 0))), (q29, .inl (k29, 4, .inl (fun _ => 0))), (q36, .inl (k36, 4, .inl (fun _ => 0)))] H := hP
  have hD : va_D A [(h0, .inr (1, [.null, .null, .null, .ref q7, .ref q15, .ref q22, .ref q29, .ref q36, .int 0, .int 0, .int 0, .int 0, .int 0, .int 0])), (q7, .inl (k7, 16, .inl (fun _ => 0))), (q15, .inl (k15, 16, .inl (fun _ => 0))), (q22, .inl (k22, 4, .inl (fun _ => 0))), (q29, .inl (k29, 4, .inl (fun _ => 0))), (q36, .inl (k36, 4, .inl (fun _ => 0)))] := hD
  have hK : va_K D qCl [(k7, .int), (k15, .int), (k22, .int), (k29, .int), (k36, .int)] s := hK
  refine lv_aload_n hx hb qm_Co_init_41 rfl (lv_at hl 0 rfl) ?_
  refine lv_aload_n hx hb qm_Co_init_42 rfl (lv_at hl 1 rfl) ?_
  refine va_putF (D := D) (ci := 1) (v := .ref a1) (ty := .object "QuadMode$Storage") (C := qR_Co) (T := qT_Co) (N := 14) hx hb hts qi_Co qY_Co qy_Co qn_Co hown hK hP hD hS 0 rfl rfl 0 (by decide) (hts _ qk_127) (fun _ h9 => h9) rfl hin rfl (by decide +kernel) rfl rfl (Nat.le_of_ble_eq_true rfl) qm_Co_init_43 (fun H locs hP hD hS => ?_)
  have hP : va_P D qCl [(h0, .inr (1, [.ref a1, .null, .null, .ref q7, .ref q15, .ref q22, .ref q29, .ref q36, .int 0, .int 0, .int 0, .int 0, .int 0, .int 0])), (q7, .inl (k7, 16, .inl (fun _ => 0))), (q15, .inl (k15, 16, .inl (fun _ => 0))), (q22, .inl (k22, 4, .inl (fun _ => 0))), (q29, .inl (k29, 4, .inl (fun _ => 0))), (q36, .inl (k36, 4, .inl (fun _ => 0)))] H := hP
  have hD : va_D A [(h0, .inr (1, [.ref a1, .null, .null, .ref q7, .ref q15, .ref q22, .ref q29, .ref q36, .int 0, .int 0, .int 0, .int 0, .int 0, .int 0])), (q7, .inl (k7, 16, .inl (fun _ => 0))), (q15, .inl (k15, 16, .inl (fun _ => 0))), (q22, .inl (k22, 4, .inl (fun _ => 0))), (q29, .inl (k29, 4, .inl (fun _ => 0))), (q36, .inl (k36, 4, .inl (fun _ => 0)))] := hD
  have hK : va_K D qCl [(k7, .int), (k15, .int), (k22, .int), (k29, .int), (k36, .int)] s := hK
  refine lv_aload_n hx hb qm_Co_init_46 rfl (lv_at hl 0 rfl) ?_
  refine lv_aload_n hx hb qm_Co_init_47 rfl (lv_at hl 2 rfl) ?_
  refine va_putF (D := D) (ci := 1) (v := .ref a2) (ty := .object "QuadMode$Pages") (C := qR_Co) (T := qT_Co) (N := 14) hx hb hts qi_Co qY_Co qy_Co qn_Co hown hK hP hD hS 0 rfl rfl 1 (by decide) (hts _ qk_128) (fun _ h9 => h9) rfl hin rfl (by decide +kernel) rfl rfl (Nat.le_of_ble_eq_true rfl) qm_Co_init_48 (fun H locs hP hD hS => ?_)
  have hP : va_P D qCl [(h0, .inr (1, [.ref a1, .ref a2, .null, .ref q7, .ref q15, .ref q22, .ref q29, .ref q36, .int 0, .int 0, .int 0, .int 0, .int 0, .int 0])), (q7, .inl (k7, 16, .inl (fun _ => 0))), (q15, .inl (k15, 16, .inl (fun _ => 0))), (q22, .inl (k22, 4, .inl (fun _ => 0))), (q29, .inl (k29, 4, .inl (fun _ => 0))), (q36, .inl (k36, 4, .inl (fun _ => 0)))] H := hP
  have hD : va_D A [(h0, .inr (1, [.ref a1, .ref a2, .null, .ref q7, .ref q15, .ref q22, .ref q29, .ref q36, .int 0, .int 0, .int 0, .int 0, .int 0, .int 0])), (q7, .inl (k7, 16, .inl (fun _ => 0))), (q15, .inl (k15, 16, .inl (fun _ => 0))), (q22, .inl (k22, 4, .inl (fun _ => 0))), (q29, .inl (k29, 4, .inl (fun _ => 0))), (q36, .inl (k36, 4, .inl (fun _ => 0)))] := hD
  have hK : va_K D qCl [(k7, .int), (k15, .int), (k22, .int), (k29, .int), (k36, .int)] s := hK
  refine lv_aload_n hx hb qm_Co_init_51 rfl (lv_at hl 0 rfl) ?_
  refine lv_aload_n hx hb qm_Co_init_52 rfl (lv_at hl 3 rfl) ?_
  refine va_putF (D := D) (ci := 1) (v := .ref a3) (ty := .array .int) (C := qR_Co) (T := qT_Co) (N := 14) hx hb hts qi_Co qY_Co qy_Co qn_Co hown hK hP hD hS 0 rfl rfl 2 (by decide) (hts _ qk_129) (fun _ h9 => h9) rfl hin rfl (by decide +kernel) rfl rfl (Nat.le_of_ble_eq_true rfl) qm_Co_init_53 (fun H locs hP hD hS => ?_)
  have hP : va_P D qCl [(h0, .inr (1, [.ref a1, .ref a2, .ref a3, .ref q7, .ref q15, .ref q22, .ref q29, .ref q36, .int 0, .int 0, .int 0, .int 0, .int 0, .int 0])), (q7, .inl (k7, 16, .inl (fun _ => 0))), (q15, .inl (k15, 16, .inl (fun _ => 0))), (q22, .inl (k22, 4, .inl (fun _ => 0))), (q29, .inl (k29, 4, .inl (fun _ => 0))), (q36, .inl (k36, 4, .inl (fun _ => 0)))] H := hP
  have hD : va_D A [(h0, .inr (1, [.ref a1, .ref a2, .ref a3, .ref q7, .ref q15, .ref q22, .ref q29, .ref q36, .int 0, .int 0, .int 0, .int 0, .int 0, .int 0])), (q7, .inl (k7, 16, .inl (fun _ => 0))), (q15, .inl (k15, 16, .inl (fun _ => 0))), (q22, .inl (k22, 4, .inl (fun _ => 0))), (q29, .inl (k29, 4, .inl (fun _ => 0))), (q36, .inl (k36, 4, .inl (fun _ => 0)))] := hD
  have hK : va_K D qCl [(k7, .int), (k15, .int), (k22, .int), (k29, .int), (k36, .int)] s := hK
  have hP9 := hP.sub (ws' := [(h0, .inr (1, [.ref a1, .ref a2, .ref a3, .ref q7, .ref q15, .ref q22, .ref q29, .ref q36, .int 0, .int 0, .int 0, .int 0, .int 0, .int 0])), (q7, .inl (k7, 16, .inl (fun _ => 0))), (q15, .inl (k15, 16, .inl (fun _ => 0))), (q22, .inl (k22, 4, .inl (fun _ => 0))), (q29, .inl (k29, 4, .inl (fun _ => 0))), (q36, .inl (k36, 4, .inl (fun _ => 0)))]) [0, 1, 2, 3, 4, 5] rfl
  have hD9 := hD.sub (ws' := [(h0, .inr (1, [.ref a1, .ref a2, .ref a3, .ref q7, .ref q15, .ref q22, .ref q29, .ref q36, .int 0, .int 0, .int 0, .int 0, .int 0, .int 0])), (q7, .inl (k7, 16, .inl (fun _ => 0))), (q15, .inl (k15, 16, .inl (fun _ => 0))), (q22, .inl (k22, 4, .inl (fun _ => 0))), (q29, .inl (k29, 4, .inl (fun _ => 0))), (q36, .inl (k36, 4, .inl (fun _ => 0)))]) [0, 1, 2, 3, 4, 5] (by decide) rfl
  have hK9 := hK.sub (tys' := [(k7, .int), (k15, .int), (k22, .int), (k29, .int), (k36, .int)]) [0, 1, 2, 3, 4] rfl
  exact W.vret hx hb hr (fun t ht hW => ⟨⟨(), rfl, trivial, q7, q15, q22, q29, q36, k7, k15, k22, k29, k36, by rw [ht]; exact hP9, va_K.moved hW.alike hK9, hD9⟩, hS.F ht⟩) hS.2.2 qm_Co_init_56
set_option maxHeartbeats 4000000 in
set_option maxRecDepth 100000 in
theorem kc_Sp (l : Launch) (D : va_G) (sz : Nat) (h0 : Nat) (a1 : Nat) : Met l qm_Sp_init (.code qm_Sp_init qm_Sp_init_c 2 none :: qw) ({ frames := 1, cells := 0, slots := 0, locals := 12 }) (va_Pc [.ref h0, .ref a1] (fun U => U.heap.size = sz ∧ va_P D qCl [(h0, .inr (4, [.null]))] U.heap ∧ va_K D qCl [] U ∧ va_D (fun _ => True) [(h0, .inr (4, [.null]))])) (va_Qv (fun _ : Unit => True) (fun (_ : Unit) t => va_P D qCl [(h0, .inr (4, [.ref a1]))] t.heap ∧ va_K D qCl [] t ∧ va_D (va_A [(h0, .inr (4, [.null]))] sz) [(h0, .inr (4, [.ref a1]))]) (va_A [(h0, .inr (4, [.null]))] sz)) 0 0 (va_A [(h0, .inr (4, [.null]))] sz) := by
  refine Met.ofW (cc := qm_Sp_init_c) (maxL := 2) (ret := none) (by decide) rfl ?_
  intro p e s m args below meth c s₁ B hml hv
  obtain ⟨rfl, hsz, hP, hK, hD0⟩ := hv
  have hx := B.exec
  have hb := B.bytes
  have hr := B.returns
  have hts : ∀ w ∈ qw, w.before _ s = true := fun w h => atoms_spec (ws := .code qm_Sp_init qm_Sp_init_c 2 none :: qw) B.pre w (List.mem_cons_of_mem _ h)
  have hown : s.vm.findClass qR_Sp = some m.cls := findClass_of_methodNamed B.named
  have hlocks := B.notSynchronized
  have hin : meth.name = "<init>" := (name_of_methodNamed B.named B.method).1
  subst hsz
  have hD := hD0.self (sz := s.heap.size)
  generalize hAe : va_A [(h0, .inr (4, [.null]))] s.heap.size = A at hD ⊢
  have hA : ∀ q : Nat, s.heap.size ≤ q → A q := fun q h => by rw [← hAe]; exact Or.inr h
  have hS : va_S A s.heap s.heap [] := va_S.rf
  have hl := lv_entry [.ref h0, .ref a1] (n := 2) (Nat.le_of_ble_eq_true rfl)
  rw [lg_entry_eq]
  generalize (lg_sl [.ref h0, .ref a1] ++ List.replicate (2 - (lg_sl [.ref h0, .ref a1]).length) Slot.unset).toArray = ls at hl ⊢
  have hl : lv_has ls 2 [(0, .ref h0), (1, .ref a1)] := hl
  refine lv_aload_n hx hb qm_Sp_init_0 rfl (lv_at hl 0 rfl) ?_
  refine W.objInit hx hb hown (hts _ qk_207) (hts _ qk_90) (hts _ qk_91) rfl (by rw [hml]; exact hl.1) rfl qm_Sp_init_1 (Nat.le_of_ble_eq_true rfl) (Nat.le_of_ble_eq_true rfl) ?_
  refine W.eq (g2 := F0 m 4 ls []) rfl ?_
  refine lv_aload_n hx hb qm_Sp_init_4 rfl (lv_at hl 0 rfl) ?_
  refine lv_aload_n hx hb qm_Sp_init_5 rfl (lv_at hl 1 rfl) ?_
  refine va_putF (D := D) (ci := 4) (v := .ref a1) (ty := .object "QuadMode$Core") (C := qR_Sp) (T := qT_Sp) (N := 1) hx hb hts qi_Sp qY_Sp qy_Sp qn_Sp hown hK hP hD hS 0 rfl rfl 0 (by decide) (hts _ qk_208) (fun _ h9 => h9) rfl hin rfl (by decide +kernel) rfl rfl (Nat.le_of_ble_eq_true rfl) qm_Sp_init_6 (fun H locs hP hD hS => ?_)
  have hP : va_P D qCl [(h0, .inr (4, [.ref a1]))] H := hP
  have hD : va_D A [(h0, .inr (4, [.ref a1]))] := hD
  have hK : va_K D qCl [] s := hK
  have hP9 := hP.sub (ws' := [(h0, .inr (4, [.ref a1]))]) [0] rfl
  have hD9 := hD.sub (ws' := [(h0, .inr (4, [.ref a1]))]) [0] (by decide) rfl
  have hK9 := hK.sub (tys' := []) [] rfl
  exact W.vret hx hb hr (fun t ht hW => ⟨⟨(), rfl, trivial, by rw [ht]; exact hP9, va_K.moved hW.alike hK9, hD9⟩, hS.F ht⟩) hS.2.2 qm_Sp_init_9
set_option maxHeartbeats 4000000 in
set_option maxRecDepth 100000 in
theorem kc_Cd (l : Launch) (D : va_G) (sz : Nat) (h0 : Nat) (a1 : Nat) (a2 : Nat) (a3 : Nat) (a4 : Nat) : Met l qm_Cd_init (.code qm_Cd_init qm_Cd_init_c 5 none :: qw) ({ frames := 1, cells := 0, slots := 0, locals := 12 }) (va_Pc [.ref h0, .ref a1, .ref a2, .ref a3, .ref a4] (fun U => U.heap.size = sz ∧ va_P D qCl [(h0, .inr (0, [.null, .null, .null, .null]))] U.heap ∧ va_K D qCl [] U ∧ va_D (fun _ => True) [(h0, .inr (0, [.null, .null, .null, .null]))])) (va_Qv (fun _ : Unit => True) (fun (_ : Unit) t => va_P D qCl [(h0, .inr (0, [.ref a1, .ref a2, .ref a3, .ref a4]))] t.heap ∧ va_K D qCl [] t ∧ va_D (va_A [(h0, .inr (0, [.null, .null, .null, .null]))] sz) [(h0, .inr (0, [.ref a1, .ref a2, .ref a3, .ref a4]))]) (va_A [(h0, .inr (0, [.null, .null, .null, .null]))] sz)) 0 0 (va_A [(h0, .inr (0, [.null, .null, .null, .null]))] sz) := by
  refine Met.ofW (cc := qm_Cd_init_c) (maxL := 5) (ret := none) (by decide) rfl ?_
  intro p e s m args below meth c s₁ B hml hv
  obtain ⟨rfl, hsz, hP, hK, hD0⟩ := hv
  have hx := B.exec
  have hb := B.bytes
  have hr := B.returns
  have hts : ∀ w ∈ qw, w.before _ s = true := fun w h => atoms_spec (ws := .code qm_Cd_init qm_Cd_init_c 5 none :: qw) B.pre w (List.mem_cons_of_mem _ h)
  have hown : s.vm.findClass qR_Cd = some m.cls := findClass_of_methodNamed B.named
  have hlocks := B.notSynchronized
  have hin : meth.name = "<init>" := (name_of_methodNamed B.named B.method).1
  subst hsz
  have hD := hD0.self (sz := s.heap.size)
  generalize hAe : va_A [(h0, .inr (0, [.null, .null, .null, .null]))] s.heap.size = A at hD ⊢
  have hA : ∀ q : Nat, s.heap.size ≤ q → A q := fun q h => by rw [← hAe]; exact Or.inr h
  have hS : va_S A s.heap s.heap [] := va_S.rf
  have hl := lv_entry [.ref h0, .ref a1, .ref a2, .ref a3, .ref a4] (n := 5) (Nat.le_of_ble_eq_true rfl)
  rw [lg_entry_eq]
  generalize (lg_sl [.ref h0, .ref a1, .ref a2, .ref a3, .ref a4] ++ List.replicate (5 - (lg_sl [.ref h0, .ref a1, .ref a2, .ref a3, .ref a4]).length) Slot.unset).toArray = ls at hl ⊢
  have hl : lv_has ls 5 [(0, .ref h0), (1, .ref a1), (2, .ref a2), (3, .ref a3), (4, .ref a4)] := hl
  refine lv_aload_n hx hb qm_Cd_init_0 rfl (lv_at hl 0 rfl) ?_
  refine W.objInit hx hb hown (hts _ qk_217) (hts _ qk_90) (hts _ qk_91) rfl (by rw [hml]; exact hl.1) rfl qm_Cd_init_1 (Nat.le_of_ble_eq_true rfl) (Nat.le_of_ble_eq_true rfl) ?_
  refine W.eq (g2 := F0 m 4 ls []) rfl ?_
  refine lv_aload_n hx hb qm_Cd_init_4 rfl (lv_at hl 0 rfl) ?_
  refine lv_aload_n hx hb qm_Cd_init_5 rfl (lv_at hl 1 rfl) ?_
  refine va_putF (D := D) (ci := 0) (v := .ref a1) (ty := .object "QuadMode$Core") (C := qR_Cd) (T := qT_Cd) (N := 4) hx hb hts qi_Cd qY_Cd qy_Cd qn_Cd hown hK hP hD hS 0 rfl rfl 0 (by decide) (hts _ qk_218) (fun _ h9 => h9) rfl hin rfl (by decide +kernel) rfl rfl (Nat.le_of_ble_eq_true rfl) qm_Cd_init_6 (fun H locs hP hD hS => ?_)
  have hP : va_P D qCl [(h0, .inr (0, [.ref a1, .null, .null, .null]))] H := hP
  have hD : va_D A [(h0, .inr (0, [.ref a1, .null, .null, .null]))] := hD
  have hK : va_K D qCl [] s := hK
  refine lv_aload_n hx hb qm_Cd_init_9 rfl (lv_at hl 0 rfl) ?_
  refine lv_aload_n hx hb qm_Cd_init_10 rfl (lv_at hl 2 rfl) ?_
  refine va_putF (D := D) (ci := 0) (v := .ref a2) (ty := .object "QuadMode$Operand") (C := qR_Cd) (T := qT_Cd) (N := 4) hx hb hts qi_Cd qY_Cd qy_Cd qn_Cd hown hK hP hD hS 0 rfl rfl 1 (by decide) (hts _ qk_219) (fun _ h9 => h9) rfl hin rfl (by decide +kernel) rfl rfl (Nat.le_of_ble_eq_true rfl) qm_Cd_init_11 (fun H locs hP hD hS => ?_)
  have hP : va_P D qCl [(h0, .inr (0, [.ref a1, .ref a2, .null, .null]))] H := hP
  have hD : va_D A [(h0, .inr (0, [.ref a1, .ref a2, .null, .null]))] := hD
  have hK : va_K D qCl [] s := hK
  refine lv_aload_n hx hb qm_Cd_init_14 rfl (lv_at hl 0 rfl) ?_
  refine lv_aload_n hx hb qm_Cd_init_15 rfl (lv_at hl 3 rfl) ?_
  refine va_putF (D := D) (ci := 0) (v := .ref a3) (ty := .object "QuadMode$Operand") (C := qR_Cd) (T := qT_Cd) (N := 4) hx hb hts qi_Cd qY_Cd qy_Cd qn_Cd hown hK hP hD hS 0 rfl rfl 2 (by decide) (hts _ qk_220) (fun _ h9 => h9) rfl hin rfl (by decide +kernel) rfl rfl (Nat.le_of_ble_eq_true rfl) qm_Cd_init_16 (fun H locs hP hD hS => ?_)
  have hP : va_P D qCl [(h0, .inr (0, [.ref a1, .ref a2, .ref a3, .null]))] H := hP
  have hD : va_D A [(h0, .inr (0, [.ref a1, .ref a2, .ref a3, .null]))] := hD
  have hK : va_K D qCl [] s := hK
  refine lv_aload_n hx hb qm_Cd_init_19 rfl (lv_at hl 0 rfl) ?_
  refine lv_aload hx hb qm_Cd_init_20 (lv_at hl 4 rfl) ?_
  refine va_putF (D := D) (ci := 0) (v := .ref a4) (ty := .object "QuadMode$Operand") (C := qR_Cd) (T := qT_Cd) (N := 4) hx hb hts qi_Cd qY_Cd qy_Cd qn_Cd hown hK hP hD hS 0 rfl rfl 3 (by decide) (hts _ qk_221) (fun _ h9 => h9) rfl hin rfl (by decide +kernel) rfl rfl (Nat.le_of_ble_eq_true rfl) qm_Cd_init_22 (fun H locs hP hD hS => ?_)
  have hP : va_P D qCl [(h0, .inr (0, [.ref a1, .ref a2, .ref a3, .ref a4]))] H := hP
  have hD : va_D A [(h0, .inr (0, [.ref a1, .ref a2, .ref a3, .ref a4]))] := hD
  have hK : va_K D qCl [] s := hK
  have hP9 := hP.sub (ws' := [(h0, .inr (0, [.ref a1, .ref a2, .ref a3, .ref a4]))]) [0] rfl
  have hD9 := hD.sub (ws' := [(h0, .inr (0, [.ref a1, .ref a2, .ref a3, .ref a4]))]) [0] (by decide) rfl
  have hK9 := hK.sub (tys' := []) [] rfl
  exact W.vret hx hb hr (fun t ht hW => ⟨⟨(), rfl, trivial, by rw [ht]; exact hP9, va_K.moved hW.alike hK9, hD9⟩, hS.F ht⟩) hS.2.2 qm_Cd_init_25
set_option maxHeartbeats 4000000 in
set_option maxRecDepth 100000 in
theorem kc_X (l : Launch) (D : va_G) (sz : Nat) (h0 : Nat) : Met l qm_X_init (.code qm_X_init qm_X_init_c 1 none :: qw) ({ frames := 2, cells := 16, slots := 2187, locals := 36 }) (va_Pc [.ref h0] (fun U => U.heap.size = sz ∧ va_P D qCl [(h0, .inr (6, [.null, .null, .null, .null, .null, .null, .null, .int 0, .int 0, .int 0, .int 0]))] U.heap ∧ va_K D qCl [] U ∧ va_D (fun _ => True) [(h0, .inr (6, [.null, .null, .null, .null, .null, .null, .null, .int 0, .int 0, .int 0, .int 0]))] ∧ qX U)) (va_Qv (fun _ : Unit => True) (fun (_ : Unit) t => ∃ (h : Nat → Nat) (K : Nat → ClassId), h 0 = h0 ∧ va_P D qCl (cW h K qS0) t.heap ∧ va_K D qCl (cT K) t ∧ va_D (va_A [(h0, .inr (6, [.null, .null, .null, .null, .null, .null, .null, .int 0, .int 0, .int 0, .int 0]))] sz) (cW h K qS0)) (va_A [(h0, .inr (6, [.null, .null, .null, .null, .null, .null, .null, .int 0, .int 0, .int 0, .int 0]))] sz)) 16 2187 (va_A [(h0, .inr (6, [.null, .null, .null, .null, .null, .null, .null, .int 0, .int 0, .int 0, .int 0]))] sz) := by
  refine Met.ofW (cc := qm_X_init_c) (maxL := 1) (ret := none) (by decide) rfl ?_
  intro p e s m args below meth c s₁ B hml hv
  obtain ⟨rfl, hsz, hP, hK, hD0, hX⟩ := hv
  have hx := B.exec
  have hb := B.bytes
  have hr := B.returns
  have hts : ∀ w ∈ qw, w.before _ s = true := fun w h => atoms_spec (ws := .code qm_X_init qm_X_init_c 1 none :: qw) B.pre w (List.mem_cons_of_mem _ h)
  have hown : s.vm.findClass qR_X = some m.cls := findClass_of_methodNamed B.named
  have hlocks := B.notSynchronized
  have hin : meth.name = "<init>" := (name_of_methodNamed B.named B.method).1
  subst hsz
  have hD := hD0.self (sz := s.heap.size)
  generalize hAe : va_A [(h0, .inr (6, [.null, .null, .null, .null, .null, .null, .null, .int 0, .int 0, .int 0, .int 0]))] s.heap.size = A at hD ⊢
  have hA : ∀ q : Nat, s.heap.size ≤ q → A q := fun q h => by rw [← hAe]; exact Or.inr h
  have hS : va_S A s.heap s.heap [] := va_S.rf
  have hl := lv_entry [.ref h0] (n := 1) (Nat.le_of_ble_eq_true rfl)
  rw [lg_entry_eq]
  generalize (lg_sl [.ref h0] ++ List.replicate (1 - (lg_sl [.ref h0]).length) Slot.unset).toArray = ls at hl ⊢
  have hl : lv_has ls 1 [(0, .ref h0)] := hl
  obtain ⟨hao, hn9, hn40⟩ := hX
  refine lv_aload_n hx hb qm_X_init_0 rfl (lv_at hl 0 rfl) ?_
  refine W.objInit hx hb hown (hts _ qk_89) (hts _ qk_90) (hts _ qk_91) rfl (by rw [hml]; exact hl.1) rfl qm_X_init_1 (Nat.le_of_ble_eq_true rfl) (Nat.le_of_ble_eq_true rfl) ?_
  refine W.eq (g2 := F0 m 4 ls []) rfl ?_
  refine lv_aload_n hx hb qm_X_init_4 rfl (lv_at hl 0 rfl) ?_
  refine va_new (ci := 5) (fs := [.null]) (C := qR_St) (T := qT_St) (N := 1) hx hb hts qi_St qY_St qy_St hown (hts _ qk_92) (hts _ qk_93) (hts _ qk_64) hK hP hD hS hA rfl (fun j hj => by rcases (show j = 0 by omega) with rfl <;> rfl) (by decide) (by decide) qm_X_init_5 (fun q5 H hP hD hS => ?_)
  have hP : va_P D qCl [(h0, .inr (6, [.null, .null, .null, .null, .null, .null, .null, .int 0, .int 0, .int 0, .int 0])), (q5, .inr (5, [.null]))] H := hP
  have hD : va_D A [(h0, .inr (6, [.null, .null, .null, .null, .null, .null, .null, .int 0, .int 0, .int 0, .int 0])), (q5, .inr (5, [.null]))] := hD
  have hK : va_K D qCl [] s := hK
  refine W.widen (k := 1) (n := 1) (by decide) (by decide) ?_
  refine lv_dup hx hb qm_X_init_8 rfl ?_
  have hPc := hP.sub (ws' := [(q5, .inr (5, [.null]))]) [1] rfl
  have hDc := hD.sub (ws' := [(q5, .inr (5, [.null]))]) [1] (by decide) rfl
  have hKc := hK.sub (tys' := []) [] rfl
  have hFc := va_free (wc := [(q5, .inr (5, [.null]))]) hD hS hA [1] rfl
  have hcw := va_cnB (R := ({ frames := 2, cells := 16, slots := 2187, locals := 36 })) (rm := ({ frames := 1, cells := 1, slots := 2048, locals := 12 })) (own := "QuadMode") (index := 9) (host := "QuadMode") (bytes := qm_St_init_c) (ret := none) 0 hts (qw_gc qk_96) rfl rfl rfl hn9 (hts _ qk_64) qm_St_init_d ⟨by decide, by decide⟩
  refine va_callv (va_runIN (As := []) (rest := [.ref q5, .ref h0]) ⟨hx, hb, hml, hown, hts⟩ (kc_St l D H.size q5) ⟨hcw, rfl, hts _ qk_95⟩ ⟨fun a U g mk q => by obtain ⟨q0, q1, qP, qK, qD⟩ := q; exact ⟨q0, q1, qP, va_K.moved (u := U) (U := U.calling g mk a) (Vm.Alike.refl U.vm) qK, qD⟩, fun U hU hW => ⟨rfl, by rw [hU], by rw [hU]; exact hPc, va_K.moved hW.alike hKc, hDc.weaken (fun _ _ _ _ => trivial)⟩⟩ rfl rfl hl.1 rfl (lv_room (Nat.le_of_ble_eq_true rfl)) qm_X_init_9 ⟨by decide, by decide⟩) hS (fun q _ h => hFc q h) hFc (fun u t H1 locs ht hvm hw hB hz1 hk1 hS => ?_)
  obtain ⟨q8_9, k8_9, hP1, hK1, hD1⟩ := hB
  rw [ht] at hP1
  have hK1 := va_K.moved hvm.symm hK1
  obtain ⟨hP, hD⟩ := va_join (wr := [(h0, .inr (6, [.null, .null, .null, .null, .null, .null, .null, .int 0, .int 0, .int 0, .int 0]))]) (w1 := [(q5, .inr (5, [.ref q8_9])), (q8_9, .inl (k8_9, 2048, .inl (fun _ => 0)))]) hP hD [1] [0] rfl rfl (by decide) (by decide) hk1 hFc hP1 hD1
  have hK := (hK.sub (tys' := []) [] rfl).app hK1
  generalize H1 = H at hP hS ⊢
  have hP : va_P D qCl [(h0, .inr (6, [.null, .null, .null, .null, .null, .null, .null, .int 0, .int 0, .int 0, .int 0])), (q5, .inr (5, [.ref q8_9])), (q8_9, .inl (k8_9, 2048, .inl (fun _ => 0)))] H := hP
  have hD : va_D A [(h0, .inr (6, [.null, .null, .null, .null, .null, .null, .null, .int 0, .int 0, .int 0, .int 0])), (q5, .inr (5, [.ref q8_9])), (q8_9, .inl (k8_9, 2048, .inl (fun _ => 0)))] := hD
  have hK : va_K D qCl [(k8_9, .byte)] s := hK
  refine W.widen (k := 2) (n := 2049) (by decide) (by decide) ?_
  refine va_putF (D := D) (ci := 6) (v := .ref q5) (ty := .object "QuadMode$Storage") (C := qR_X) (T := qT_X) (N := 11) hx hb hts qi_X qY_X qy_X qn_X hown hK hP hD hS 0 rfl rfl 0 (by decide) (hts _ qk_231) (fun _ h9 => h9) rfl hin rfl (by decide +kernel) rfl rfl (Nat.le_of_ble_eq_true rfl) qm_X_init_12 (fun H locs hP hD hS => ?_)
  have hP : va_P D qCl [(h0, .inr (6, [.ref q5, .null, .null, .null, .null, .null, .null, .int 0, .int 0, .int 0, .int 0])), (q5, .inr (5, [.ref q8_9])), (q8_9, .inl (k8_9, 2048, .inl (fun _ => 0)))] H := hP
  have hD : va_D A [(h0, .inr (6, [.ref q5, .null, .null, .null, .null, .null, .null, .int 0, .int 0, .int 0, .int 0])), (q5, .inr (5, [.ref q8_9])), (q8_9, .inl (k8_9, 2048, .inl (fun _ => 0)))] := hD
  have hK : va_K D qCl [(k8_9, .byte)] s := hK
  refine lv_aload_n hx hb qm_X_init_15 rfl (lv_at hl 0 rfl) ?_
  refine lv_bipush (v := 57) hx hb qm_X_init_16 (by decide) ?_
  refine va_newa (atype := .int) (ty := .int) (N' := 57) (a0 := (57, .inl (fun _ => 0))) hx hb (hts _ qk_120) rfl hK hP hD hS hA (fun _ => rfl) (by decide) (by decide) (by decide) (by decide) (by decide) qm_X_init_18 (fun q18 k18 H hK hP hD hS => ?_)
  have hP : va_P D qCl [(h0, .inr (6, [.ref q5, .null, .null, .null, .null, .null, .null, .int 0, .int 0, .int 0, .int 0])), (q5, .inr (5, [.ref q8_9])), (q8_9, .inl (k8_9, 2048, .inl (fun _ => 0))), (q18, .inl (k18, 57, .inl (fun _ => 0)))] H := hP
  have hD : va_D A [(h0, .inr (6, [.ref q5, .null, .null, .null, .null, .null, .null, .int 0, .int 0, .int 0, .int 0])), (q5, .inr (5, [.ref q8_9])), (q8_9, .inl (k8_9, 2048, .inl (fun _ => 0))), (q18, .inl (k18, 57, .inl (fun _ => 0)))] := hD
  have hK : va_K D qCl [(k8_9, .byte), (k18, .int)] s := hK
  refine W.widen (k := 3) (n := 2106) (by decide) (by decide) ?_
  refine va_putF (D := D) (ci := 6) (v := .ref q18) (ty := .array .int) (C := qR_X) (T := qT_X) (N := 11) hx hb hts qi_X qY_X qy_X qn_X hown hK hP hD hS 0 rfl rfl 1 (by decide) (hts _ qk_232) (fun _ h9 => h9) rfl hin rfl (by decide +kernel) rfl rfl (Nat.le_of_ble_eq_true rfl) qm_X_init_20 (fun H locs hP hD hS => ?_)
  have hP : va_P D qCl [(h0, .inr (6, [.ref q5, .ref q18, .null, .null, .null, .null, .null, .int 0, .int 0, .int 0, .int 0])), (q5, .inr (5, [.ref q8_9])), (q8_9, .inl (k8_9, 2048, .inl (fun _ => 0))), (q18, .inl (k18, 57, .inl (fun _ => 0)))] H := hP
  have hD : va_D A [(h0, .inr (6, [.ref q5, .ref q18, .null, .null, .null, .null, .null, .int 0, .int 0, .int 0, .int 0])), (q5, .inr (5, [.ref q8_9])), (q8_9, .inl (k8_9, 2048, .inl (fun _ => 0))), (q18, .inl (k18, 57, .inl (fun _ => 0)))] := hD
  have hK : va_K D qCl [(k8_9, .byte), (k18, .int)] s := hK
  refine lv_aload_n hx hb qm_X_init_23 rfl (lv_at hl 0 rfl) ?_
  refine va_new (ci := 3) (fs := [.null, .null, .int 0]) (C := qR_Pg) (T := qT_Pg) (N := 3) hx hb hts qi_Pg qY_Pg qy_Pg hown (hts _ qk_103) (hts _ qk_104) (hts _ qk_65) hK hP hD hS hA rfl (fun j hj => by rcases (show j = 0 ∨ j = 1 ∨ j = 2 by omega) with rfl | rfl | rfl <;> rfl) (by decide) (by decide) qm_X_init_24 (fun q24 H hP hD hS => ?_)
  have hP : va_P D qCl [(h0, .inr (6, [.ref q5, .ref q18, .null, .null, .null, .null, .null, .int 0, .int 0, .int 0, .int 0])), (q5, .inr (5, [.ref q8_9])), (q8_9, .inl (k8_9, 2048, .inl (fun _ => 0))), (q18, .inl (k18, 57, .inl (fun _ => 0))), (q24, .inr (3, [.null, .null, .int 0]))] H := hP
  have hD : va_D A [(h0, .inr (6, [.ref q5, .ref q18, .null, .null, .null, .null, .null, .int 0, .int 0, .int 0, .int 0])), (q5, .inr (5, [.ref q8_9])), (q8_9, .inl (k8_9, 2048, .inl (fun _ => 0))), (q18, .inl (k18, 57, .inl (fun _ => 0))), (q24, .inr (3, [.null, .null, .int 0]))] := hD
  have hK : va_K D qCl [(k8_9, .byte), (k18, .int)] s := hK
  refine W.widen (k := 4) (n := 2109) (by decide) (by decide) ?_
  refine lv_dup hx hb qm_X_init_27 rfl ?_
  refine lv_aload_n hx hb qm_X_init_28 rfl (lv_at hl 0 rfl) ?_
  refine va_get (D := D) (ci := 6) (v := .ref q5) (C := qR_X) (T := qT_X) (N := 11) hx hb hts qi_X hown hK hP 0 rfl rfl 0 (by decide) (hts _ qk_231) (fun _ h9 => h9) rfl qm_X_init_29 ?_
  refine lv_aload_n hx hb qm_X_init_32 rfl (lv_at hl 0 rfl) ?_
  refine va_get (D := D) (ci := 6) (v := .ref q18) (C := qR_X) (T := qT_X) (N := 11) hx hb hts qi_X hown hK hP 0 rfl rfl 1 (by decide) (hts _ qk_232) (fun _ h9 => h9) rfl qm_X_init_33 ?_
  have hPc := hP.sub (ws' := [(q24, .inr (3, [.null, .null, .int 0]))]) [4] rfl
  have hDc := hD.sub (ws' := [(q24, .inr (3, [.null, .null, .int 0]))]) [4] (by decide) rfl
  have hKc := hK.sub (tys' := []) [] rfl
  have hFc := va_free (wc := [(q24, .inr (3, [.null, .null, .int 0]))]) hD hS hA [4] rfl
  refine va_callv (va_runI (As := [.ref q5, .ref q18]) (rest := [.ref q24, .ref h0]) ⟨hx, hb, hml, hown, hts⟩ (kc_Pg l D H.size q24 q5 q18) (cwI 2 hts (qw_gc qk_107) rfl rfl rfl (hts _ qk_65) (hts _ qk_105) (hts _ qk_106) rfl qm_Pg_init_d ⟨by decide, by decide⟩) ⟨fun a U g mk q => by obtain ⟨q0, q1, qP, qK, qD⟩ := q; exact ⟨q0, q1, qP, va_K.moved (u := U) (U := U.calling g mk a) (Vm.Alike.refl U.vm) qK, qD⟩, fun U hU hW => ⟨rfl, by rw [hU], by rw [hU]; exact hPc, va_K.moved hW.alike hKc, hDc.weaken (fun _ _ _ _ => trivial)⟩⟩ rfl rfl hl.1 rfl (lv_room (Nat.le_of_ble_eq_true rfl)) qm_X_init_36 ⟨by decide, by decide⟩) hS (fun q _ h => hFc q h) hFc (fun u t H1 locs ht hvm hw hB hz1 hk1 hS => ?_)
  obtain ⟨hP1, hK1, hD1⟩ := hB
  rw [ht] at hP1
  have hK1 := va_K.moved hvm.symm hK1
  obtain ⟨hP, hD⟩ := va_join (wr := [(h0, .inr (6, [.ref q5, .ref q18, .null, .null, .null, .null, .null, .int 0, .int 0, .int 0, .int 0])), (q5, .inr (5, [.ref q8_9])), (q8_9, .inl (k8_9, 2048, .inl (fun _ => 0))), (q18, .inl (k18, 57, .inl (fun _ => 0)))]) (w1 := [(q24, .inr (3, [.ref q5, .ref q18, .int 0]))]) hP hD [4] [0, 1, 2, 3] rfl rfl (by decide) (by decide) hk1 hFc hP1 hD1
  have hK := (hK.sub (tys' := [(k8_9, .byte), (k18, .int)]) [0, 1] rfl).app hK1
  generalize H1 = H at hP hS ⊢
  have hP : va_P D qCl [(h0, .inr (6, [.ref q5, .ref q18, .null, .null, .null, .null, .null, .int 0, .int 0, .int 0, .int 0])), (q5, .inr (5, [.ref q8_9])), (q8_9, .inl (k8_9, 2048, .inl (fun _ => 0))), (q18, .inl (k18, 57, .inl (fun _ => 0))), (q24, .inr (3, [.ref q5, .ref q18, .int 0]))] H := hP
  have hD : va_D A [(h0, .inr (6, [.ref q5, .ref q18, .null, .null, .null, .null, .null, .int 0, .int 0, .int 0, .int 0])), (q5, .inr (5, [.ref q8_9])), (q8_9, .inl (k8_9, 2048, .inl (fun _ => 0))), (q18, .inl (k18, 57, .inl (fun _ => 0))), (q24, .inr (3, [.ref q5, .ref q18, .int 0]))] := hD
  have hK : va_K D qCl [(k8_9, .byte), (k18, .int)] s := hK
  refine W.widen (k := 4) (n := 2109) (by decide) (by decide) ?_
  refine va_putF (D := D) (ci := 6) (v := .ref q24) (ty := .object "QuadMode$Pages") (C := qR_X) (T := qT_X) (N := 11) hx hb hts qi_X qY_X qy_X qn_X hown hK hP hD hS 0 rfl rfl 2 (by decide) (hts _ qk_233) (fun _ h9 => h9) rfl hin rfl (by decide +kernel) rfl rfl (Nat.le_of_ble_eq_true rfl) qm_X_init_39 (fun H locs hP hD hS => ?_)
  have hP : va_P D qCl [(h0, .inr (6, [.ref q5, .ref q18, .ref q24, .null, .null, .null, .null, .int 0, .int 0, .int 0, .int 0])), (q5, .inr (5, [.ref q8_9])), (q8_9, .inl (k8_9, 2048, .inl (fun _ => 0))), (q18, .inl (k18, 57, .inl (fun _ => 0))), (q24, .inr (3, [.ref q5, .ref q18, .int 0]))] H := hP
  have hD : va_D A [(h0, .inr (6, [.ref q5, .ref q18, .ref q24, .null, .null, .null, .null, .int 0, .int 0, .int 0, .int 0])), (q5, .inr (5, [.ref q8_9])), (q8_9, .inl (k8_9, 2048, .inl (fun _ => 0))), (q18, .inl (k18, 57, .inl (fun _ => 0))), (q24, .inr (3, [.ref q5, .ref q18, .int 0]))] := hD
  have hK : va_K D qCl [(k8_9, .byte), (k18, .int)] s := hK
  refine lv_aload_n hx hb qm_X_init_42 rfl (lv_at hl 0 rfl) ?_
  refine va_new (ci := 1) (fs := [.null, .null, .null, .null, .null, .null, .null, .null, .int 0, .int 0, .int 0, .int 0, .int 0, .int 0]) (C := qR_Co) (T := qT_Co) (N := 14) hx hb hts qi_Co qY_Co qy_Co hown (hts _ qk_121) (hts _ qk_122) (hts _ qk_66) hK hP hD hS hA rfl (fun j hj => by rcases (show j = 0 ∨ j = 1 ∨ j = 2 ∨ j = 3 ∨ j = 4 ∨ j = 5 ∨ j = 6 ∨ j = 7 ∨ j = 8 ∨ j = 9 ∨ j = 10 ∨ j = 11 ∨ j = 12 ∨ j = 13 by omega) with rfl | rfl | rfl | rfl | rfl | rfl | rfl | rfl | rfl | rfl | rfl | rfl | rfl | rfl <;> rfl) (by decide) (by decide) qm_X_init_43 (fun q43 H hP hD hS => ?_)
  have hP : va_P D qCl [(h0, .inr (6, [.ref q5, .ref q18, .ref q24, .null, .null, .null, .null, .int 0, .int 0, .int 0, .int 0])), (q5, .inr (5, [.ref q8_9])), (q8_9, .inl (k8_9, 2048, .inl (fun _ => 0))), (q18, .inl (k18, 57, .inl (fun _ => 0))), (q24, .inr (3, [.ref q5, .ref q18, .int 0])), (q43, .inr (1, [.null, .null, .null, .null, .null, .null, .null, .null, .int 0, .int 0, .int 0, .int 0, .int 0, .int 0]))] H := hP
  have hD : va_D A [(h0, .inr (6, [.ref q5, .ref q18, .ref q24, .null, .null, .null, .null, .int 0, .int 0, .int 0, .int 0])), (q5, .inr (5, [.ref q8_9])), (q8_9, .inl (k8_9, 2048, .inl (fun _ => 0))), (q18, .inl (k18, 57, .inl (fun _ => 0))), (q24, .inr (3, [.ref q5, .ref q18, .int 0])), (q43, .inr (1, [.null, .null, .null, .null, .null, .null, .null, .null, .int 0, .int 0, .int 0, .int 0, .int 0, .int 0]))] := hD
  have hK : va_K D qCl [(k8_9, .byte), (k18, .int)] s := hK
  refine W.widen (k := 5) (n := 2123) (by decide) (by decide) ?_
  refine lv_dup hx hb qm_X_init_46 rfl ?_
  refine lv_aload_n hx hb qm_X_init_47 rfl (lv_at hl 0 rfl) ?_
  refine va_get (D := D) (ci := 6) (v := .ref q5) (C := qR_X) (T := qT_X) (N := 11) hx hb hts qi_X hown hK hP 0 rfl rfl 0 (by decide) (hts _ qk_231) (fun _ h9 => h9) rfl qm_X_init_48 ?_
  refine lv_aload_n hx hb qm_X_init_51 rfl (lv_at hl 0 rfl) ?_
  refine va_get (D := D) (ci := 6) (v := .ref q24) (C := qR_X) (T := qT_X) (N := 11) hx hb hts qi_X hown hK hP 0 rfl rfl 2 (by decide) (hts _ qk_233) (fun _ h9 => h9) rfl qm_X_init_52 ?_
  refine lv_aload_n hx hb qm_X_init_55 rfl (lv_at hl 0 rfl) ?_
  refine va_get (D := D) (ci := 6) (v := .ref q18) (C := qR_X) (T := qT_X) (N := 11) hx hb hts qi_X hown hK hP 0 rfl rfl 1 (by decide) (hts _ qk_232) (fun _ h9 => h9) rfl qm_X_init_56 ?_
  have hPc := hP.sub (ws' := [(q43, .inr (1, [.null, .null, .null, .null, .null, .null, .null, .null, .int 0, .int 0, .int 0, .int 0, .int 0, .int 0]))]) [5] rfl
  have hDc := hD.sub (ws' := [(q43, .inr (1, [.null, .null, .null, .null, .null, .null, .null, .null, .int 0, .int 0, .int 0, .int 0, .int 0, .int 0]))]) [5] (by decide) rfl
  have hKc := hK.sub (tys' := []) [] rfl
  have hFc := va_free (wc := [(q43, .inr (1, [.null, .null, .null, .null, .null, .null, .null, .null, .int 0, .int 0, .int 0, .int 0, .int 0, .int 0]))]) hD hS hA [5] rfl
  refine va_callv (va_runI (As := [.ref q5, .ref q24, .ref q18]) (rest := [.ref q43, .ref h0]) ⟨hx, hb, hml, hown, hts⟩ (kc_Co l D H.size q43 q5 q24 q18) (cwI 3 hts (qw_gc qk_125) rfl rfl rfl (hts _ qk_66) (hts _ qk_123) (hts _ qk_124) rfl qm_Co_init_d ⟨by decide, by decide⟩) ⟨fun a U g mk q => by obtain ⟨q0, q1, qP, qK, qD⟩ := q; exact ⟨q0, q1, qP, va_K.moved (u := U) (U := U.calling g mk a) (Vm.Alike.refl U.vm) qK, qD⟩, fun U hU hW => ⟨rfl, by rw [hU], by rw [hU]; exact hPc, va_K.moved hW.alike hKc, hDc.weaken (fun _ _ _ _ => trivial)⟩⟩ rfl rfl hl.1 rfl (lv_room (Nat.le_of_ble_eq_true rfl)) qm_X_init_59 ⟨by decide, by decide⟩) hS (fun q _ h => hFc q h) hFc (fun u t H1 locs ht hvm hw hB hz1 hk1 hS => ?_)
  obtain ⟨q7_59, q15_59, q22_59, q29_59, q36_59, k7_59, k15_59, k22_59, k29_59, k36_59, hP1, hK1, hD1⟩ := hB
  rw [ht] at hP1
  have hK1 := va_K.moved hvm.symm hK1
  obtain ⟨hP, hD⟩ := va_join (wr := [(h0, .inr (6, [.ref q5, .ref q18, .ref q24, .null, .null, .null, .null, .int 0, .int 0, .int 0, .int 0])), (q5, .inr (5, [.ref q8_9])), (q8_9, .inl (k8_9, 2048, .inl (fun _ => 0))), (q18, .inl (k18, 57, .inl (fun _ => 0))), (q24, .inr (3, [.ref q5, .ref q18, .int 0]))]) (w1 := [(q43, .inr (1, [.ref q5, .ref q24, .ref q18, .ref q7_59, .ref q15_59, .ref q22_59, .ref q29_59, .ref q36_59, .int 0, .int 0, .int 0, .int 0, .int 0, .int 0])), (q7_59, .inl (k7_59, 16, .inl (fun _ => 0))), (q15_59, .inl (k15_59, 16, .inl (fun _ => 0))), (q22_59, .inl (k22_59, 4, .inl (fun _ => 0))), (q29_59, .inl (k29_59, 4, .inl (fun _ => 0))), (q36_59, .inl (k36_59, 4, .inl (fun _ => 0)))]) hP hD [5] [0, 1, 2, 3, 4] rfl rfl (by decide) (by decide) hk1 hFc hP1 hD1
  have hK := (hK.sub (tys' := [(k8_9, .byte), (k18, .int)]) [0, 1] rfl).app hK1
  generalize H1 = H at hP hS ⊢
  have hP : va_P D qCl [(h0, .inr (6, [.ref q5, .ref q18, .ref q24, .null, .null, .null, .null, .int 0, .int 0, .int 0, .int 0])), (q5, .inr (5, [.ref q8_9])), (q8_9, .inl (k8_9, 2048, .inl (fun _ => 0))), (q18, .inl (k18, 57, .inl (fun _ => 0))), (q24, .inr (3, [.ref q5, .ref q18, .int 0])), (q43, .inr (1, [.ref q5, .ref q24, .ref q18, .ref q7_59, .ref q15_59, .ref q22_59, .ref q29_59, .ref q36_59, .int 0, .int 0, .int 0, .int 0, .int 0, .int 0])), (q7_59, .inl (k7_59, 16, .inl (fun _ => 0))), (q15_59, .inl (k15_59, 16, .inl (fun _ => 0))), (q22_59, .inl (k22_59, 4, .inl (fun _ => 0))), (q29_59, .inl (k29_59, 4, .inl (fun _ => 0))), (q36_59, .inl (k36_59, 4, .inl (fun _ => 0)))] H := hP
  have hD : va_D A [(h0, .inr (6, [.ref q5, .ref q18, .ref q24, .null, .null, .null, .null, .int 0, .int 0, .int 0, .int 0])), (q5, .inr (5, [.ref q8_9])), (q8_9, .inl (k8_9, 2048, .inl (fun _ => 0))), (q18, .inl (k18, 57, .inl (fun _ => 0))), (q24, .inr (3, [.ref q5, .ref q18, .int 0])), (q43, .inr (1, [.ref q5, .ref q24, .ref q18, .ref q7_59, .ref q15_59, .ref q22_59, .ref q29_59, .ref q36_59, .int 0, .int 0, .int 0, .int 0, .int 0, .int 0])), (q7_59, .inl (k7_59, 16, .inl (fun _ => 0))), (q15_59, .inl (k15_59, 16, .inl (fun _ => 0))), (q22_59, .inl (k22_59, 4, .inl (fun _ => 0))), (q29_59, .inl (k29_59, 4, .inl (fun _ => 0))), (q36_59, .inl (k36_59, 4, .inl (fun _ => 0)))] := hD
  have hK : va_K D qCl [(k8_9, .byte), (k18, .int), (k7_59, .int), (k15_59, .int), (k22_59, .int), (k29_59, .int), (k36_59, .int)] s := hK
  refine W.widen (k := 10) (n := 2167) (by decide) (by decide) ?_
  refine va_putF (D := D) (ci := 6) (v := .ref q43) (ty := .object "QuadMode$Core") (C := qR_X) (T := qT_X) (N := 11) hx hb hts qi_X qY_X qy_X qn_X hown hK hP hD hS 0 rfl rfl 3 (by decide) (hts _ qk_234) (fun _ h9 => h9) rfl hin rfl (by decide +kernel) rfl rfl (Nat.le_of_ble_eq_true rfl) qm_X_init_62 (fun H locs hP hD hS => ?_)
  have hP : va_P D qCl [(h0, .inr (6, [.ref q5, .ref q18, .ref q24, .ref q43, .null, .null, .null, .int 0, .int 0, .int 0, .int 0])), (q5, .inr (5, [.ref q8_9])), (q8_9, .inl (k8_9, 2048, .inl (fun _ => 0))), (q18, .inl (k18, 57, .inl (fun _ => 0))), (q24, .inr (3, [.ref q5, .ref q18, .int 0])), (q43, .inr (1, [.ref q5, .ref q24, .ref q18, .ref q7_59, .ref q15_59, .ref q22_59, .ref q29_59, .ref q36_59, .int 0, .int 0, .int 0, .int 0, .int 0, .int 0])), (q7_59, .inl (k7_59, 16, .inl (fun _ => 0))), (q15_59, .inl (k15_59, 16, .inl (fun _ => 0))), (q22_59, .inl (k22_59, 4, .inl (fun _ => 0))), (q29_59, .inl (k29_59, 4, .inl (fun _ => 0))), (q36_59, .inl (k36_59, 4, .inl (fun _ => 0)))] H := hP
  have hD : va_D A [(h0, .inr (6, [.ref q5, .ref q18, .ref q24, .ref q43, .null, .null, .null, .int 0, .int 0, .int 0, .int 0])), (q5, .inr (5, [.ref q8_9])), (q8_9, .inl (k8_9, 2048, .inl (fun _ => 0))), (q18, .inl (k18, 57, .inl (fun _ => 0))), (q24, .inr (3, [.ref q5, .ref q18, .int 0])), (q43, .inr (1, [.ref q5, .ref q24, .ref q18, .ref q7_59, .ref q15_59, .ref q22_59, .ref q29_59, .ref q36_59, .int 0, .int 0, .int 0, .int 0, .int 0, .int 0])), (q7_59, .inl (k7_59, 16, .inl (fun _ => 0))), (q15_59, .inl (k15_59, 16, .inl (fun _ => 0))), (q22_59, .inl (k22_59, 4, .inl (fun _ => 0))), (q29_59, .inl (k29_59, 4, .inl (fun _ => 0))), (q36_59, .inl (k36_59, 4, .inl (fun _ => 0)))] := hD
  have hK : va_K D qCl [(k8_9, .byte), (k18, .int), (k7_59, .int), (k15_59, .int), (k22_59, .int), (k29_59, .int), (k36_59, .int)] s := hK
  refine lv_aload_n hx hb qm_X_init_65 rfl (lv_at hl 0 rfl) ?_
  refine lv_iconst (v := 3) hx hb qm_X_init_66 (by decide) ?_
  refine va_newq (N' := 3) hx hb hown (hts _ qk_177) hao hK hP hD hS hA (by decide) (by decide) (by decide) (by decide) (by decide) qm_X_init_67 (fun q67 k67 H hK hP hD hS => ?_)
  have hP : va_P D qCl [(h0, .inr (6, [.ref q5, .ref q18, .ref q24, .ref q43, .null, .null, .null, .int 0, .int 0, .int 0, .int 0])), (q5, .inr (5, [.ref q8_9])), (q8_9, .inl (k8_9, 2048, .inl (fun _ => 0))), (q18, .inl (k18, 57, .inl (fun _ => 0))), (q24, .inr (3, [.ref q5, .ref q18, .int 0])), (q43, .inr (1, [.ref q5, .ref q24, .ref q18, .ref q7_59, .ref q15_59, .ref q22_59, .ref q29_59, .ref q36_59, .int 0, .int 0, .int 0, .int 0, .int 0, .int 0])), (q7_59, .inl (k7_59, 16, .inl (fun _ => 0))), (q15_59, .inl (k15_59, 16, .inl (fun _ => 0))), (q22_59, .inl (k22_59, 4, .inl (fun _ => 0))), (q29_59, .inl (k29_59, 4, .inl (fun _ => 0))), (q36_59, .inl (k36_59, 4, .inl (fun _ => 0))), (q67, .inl (k67, 3, .inr (.inr (.inr (.inr (fun _ => none))))))] H := hP
  have hD : va_D A [(h0, .inr (6, [.ref q5, .ref q18, .ref q24, .ref q43, .null, .null, .null, .int 0, .int 0, .int 0, .int 0])), (q5, .inr (5, [.ref q8_9])), (q8_9, .inl (k8_9, 2048, .inl (fun _ => 0))), (q18, .inl (k18, 57, .inl (fun _ => 0))), (q24, .inr (3, [.ref q5, .ref q18, .int 0])), (q43, .inr (1, [.ref q5, .ref q24, .ref q18, .ref q7_59, .ref q15_59, .ref q22_59, .ref q29_59, .ref q36_59, .int 0, .int 0, .int 0, .int 0, .int 0, .int 0])), (q7_59, .inl (k7_59, 16, .inl (fun _ => 0))), (q15_59, .inl (k15_59, 16, .inl (fun _ => 0))), (q22_59, .inl (k22_59, 4, .inl (fun _ => 0))), (q29_59, .inl (k29_59, 4, .inl (fun _ => 0))), (q36_59, .inl (k36_59, 4, .inl (fun _ => 0))), (q67, .inl (k67, 3, .inr (.inr (.inr (.inr (fun _ => none))))))] := hD
  have hK : va_K D qCl [(k8_9, .byte), (k18, .int), (k7_59, .int), (k15_59, .int), (k22_59, .int), (k29_59, .int), (k36_59, .int), (k67, .object "QuadMode$Operand")] s := hK
  refine W.widen (k := 11) (n := 2170) (by decide) (by decide) ?_
  refine lv_dup hx hb qm_X_init_70 rfl ?_
  refine lv_iconst (v := 0) hx hb qm_X_init_71 (by decide) ?_
  refine va_new (ci := 2) (fs := [.int 0, .int 0, .int 0, .int 0]) (C := qR_Op) (T := qT_Op) (N := 4) hx hb hts qi_Op qY_Op qy_Op hown (hts _ qk_177) (hts _ qk_179) (hts _ qk_67) hK hP hD hS hA rfl (fun j hj => by rcases (show j = 0 ∨ j = 1 ∨ j = 2 ∨ j = 3 by omega) with rfl | rfl | rfl | rfl <;> rfl) (by decide) (by decide) qm_X_init_72 (fun q72 H hP hD hS => ?_)
  have hP : va_P D qCl [(h0, .inr (6, [.ref q5, .ref q18, .ref q24, .ref q43, .null, .null, .null, .int 0, .int 0, .int 0, .int 0])), (q5, .inr (5, [.ref q8_9])), (q8_9, .inl (k8_9, 2048, .inl (fun _ => 0))), (q18, .inl (k18, 57, .inl (fun _ => 0))), (q24, .inr (3, [.ref q5, .ref q18, .int 0])), (q43, .inr (1, [.ref q5, .ref q24, .ref q18, .ref q7_59, .ref q15_59, .ref q22_59, .ref q29_59, .ref q36_59, .int 0, .int 0, .int 0, .int 0, .int 0, .int 0])), (q7_59, .inl (k7_59, 16, .inl (fun _ => 0))), (q15_59, .inl (k15_59, 16, .inl (fun _ => 0))), (q22_59, .inl (k22_59, 4, .inl (fun _ => 0))), (q29_59, .inl (k29_59, 4, .inl (fun _ => 0))), (q36_59, .inl (k36_59, 4, .inl (fun _ => 0))), (q67, .inl (k67, 3, .inr (.inr (.inr (.inr (fun _ => none)))))), (q72, .inr (2, [.int 0, .int 0, .int 0, .int 0]))] H := hP
  have hD : va_D A [(h0, .inr (6, [.ref q5, .ref q18, .ref q24, .ref q43, .null, .null, .null, .int 0, .int 0, .int 0, .int 0])), (q5, .inr (5, [.ref q8_9])), (q8_9, .inl (k8_9, 2048, .inl (fun _ => 0))), (q18, .inl (k18, 57, .inl (fun _ => 0))), (q24, .inr (3, [.ref q5, .ref q18, .int 0])), (q43, .inr (1, [.ref q5, .ref q24, .ref q18, .ref q7_59, .ref q15_59, .ref q22_59, .ref q29_59, .ref q36_59, .int 0, .int 0, .int 0, .int 0, .int 0, .int 0])), (q7_59, .inl (k7_59, 16, .inl (fun _ => 0))), (q15_59, .inl (k15_59, 16, .inl (fun _ => 0))), (q22_59, .inl (k22_59, 4, .inl (fun _ => 0))), (q29_59, .inl (k29_59, 4, .inl (fun _ => 0))), (q36_59, .inl (k36_59, 4, .inl (fun _ => 0))), (q67, .inl (k67, 3, .inr (.inr (.inr (.inr (fun _ => none)))))), (q72, .inr (2, [.int 0, .int 0, .int 0, .int 0]))] := hD
  have hK : va_K D qCl [(k8_9, .byte), (k18, .int), (k7_59, .int), (k15_59, .int), (k22_59, .int), (k29_59, .int), (k36_59, .int), (k67, .object "QuadMode$Operand")] s := hK
  refine W.widen (k := 12) (n := 2174) (by decide) (by decide) ?_
  refine lv_dup hx hb qm_X_init_75 rfl ?_
  have hPc := hP.sub (ws' := [(q72, .inr (2, [.int 0, .int 0, .int 0, .int 0]))]) [12] rfl
  have hDc := hD.sub (ws' := [(q72, .inr (2, [.int 0, .int 0, .int 0, .int 0]))]) [12] (by decide) rfl
  have hKc := hK.sub (tys' := []) [] rfl
  have hFc := va_free (wc := [(q72, .inr (2, [.int 0, .int 0, .int 0, .int 0]))]) hD hS hA [12] rfl
  have hcw := va_cnB (R := ({ frames := 2, cells := 16, slots := 2187, locals := 36 })) (rm := ({ frames := 1, cells := 0, slots := 0, locals := 12 })) (own := "QuadMode") (index := 40) (host := "QuadMode") (bytes := qm_Op_init_c) (ret := none) 0 hts (qw_gc qk_182) rfl rfl rfl hn40 (hts _ qk_67) qm_Op_init_d ⟨by decide, by decide⟩
  refine va_callv (va_runIN (As := []) (rest := [.ref q72, .int 0, .ref q67, .ref q67, .ref h0]) ⟨hx, hb, hml, hown, hts⟩ (kc_Op l D H.size q72) ⟨hcw, rfl, hts _ qk_181⟩ ⟨fun a U g mk q => by obtain ⟨q0, q1, qP, qK, qD⟩ := q; exact ⟨q0, q1, qP, va_K.moved (u := U) (U := U.calling g mk a) (Vm.Alike.refl U.vm) qK, qD⟩, fun U hU hW => ⟨rfl, by rw [hU], by rw [hU]; exact hPc, va_K.moved hW.alike hKc, hDc.weaken (fun _ _ _ _ => trivial)⟩⟩ rfl rfl hl.1 rfl (lv_room (Nat.le_of_ble_eq_true rfl)) qm_X_init_76 ⟨by decide, by decide⟩) hS (fun q _ h => hFc q h) hFc (fun u t H1 locs ht hvm hw hB hz1 hk1 hS => ?_)
  obtain ⟨hP1, hK1, hD1⟩ := hB
  rw [ht] at hP1
  have hK1 := va_K.moved hvm.symm hK1
  obtain ⟨hP, hD⟩ := va_join (wr := [(h0, .inr (6, [.ref q5, .ref q18, .ref q24, .ref q43, .null, .null, .null, .int 0, .int 0, .int 0, .int 0])), (q5, .inr (5, [.ref q8_9])), (q8_9, .inl (k8_9, 2048, .inl (fun _ => 0))), (q18, .inl (k18, 57, .inl (fun _ => 0))), (q24, .inr (3, [.ref q5, .ref q18, .int 0])), (q43, .inr (1, [.ref q5, .ref q24, .ref q18, .ref q7_59, .ref q15_59, .ref q22_59, .ref q29_59, .ref q36_59, .int 0, .int 0, .int 0, .int 0, .int 0, .int 0])), (q7_59, .inl (k7_59, 16, .inl (fun _ => 0))), (q15_59, .inl (k15_59, 16, .inl (fun _ => 0))), (q22_59, .inl (k22_59, 4, .inl (fun _ => 0))), (q29_59, .inl (k29_59, 4, .inl (fun _ => 0))), (q36_59, .inl (k36_59, 4, .inl (fun _ => 0))), (q67, .inl (k67, 3, .inr (.inr (.inr (.inr (fun _ => none))))))]) (w1 := [(q72, .inr (2, [.int 0, .int 0, .int 0, .int 0]))]) hP hD [12] [0, 1, 2, 3, 4, 5, 6, 7, 8, 9, 10, 11] rfl rfl (by decide) (by decide) hk1 hFc hP1 hD1
  have hK := (hK.sub (tys' := [(k8_9, .byte), (k18, .int), (k7_59, .int), (k15_59, .int), (k22_59, .int), (k29_59, .int), (k36_59, .int), (k67, .object "QuadMode$Operand")]) [0, 1, 2, 3, 4, 5, 6, 7] rfl).app hK1
  generalize H1 = H at hP hS ⊢
  have hP : va_P D qCl [(h0, .inr (6, [.ref q5, .ref q18, .ref q24, .ref q43, .null, .null, .null, .int 0, .int 0, .int 0, .int 0])), (q5, .inr (5, [.ref q8_9])), (q8_9, .inl (k8_9, 2048, .inl (fun _ => 0))), (q18, .inl (k18, 57, .inl (fun _ => 0))), (q24, .inr (3, [.ref q5, .ref q18, .int 0])), (q43, .inr (1, [.ref q5, .ref q24, .ref q18, .ref q7_59, .ref q15_59, .ref q22_59, .ref q29_59, .ref q36_59, .int 0, .int 0, .int 0, .int 0, .int 0, .int 0])), (q7_59, .inl (k7_59, 16, .inl (fun _ => 0))), (q15_59, .inl (k15_59, 16, .inl (fun _ => 0))), (q22_59, .inl (k22_59, 4, .inl (fun _ => 0))), (q29_59, .inl (k29_59, 4, .inl (fun _ => 0))), (q36_59, .inl (k36_59, 4, .inl (fun _ => 0))), (q67, .inl (k67, 3, .inr (.inr (.inr (.inr (fun _ => none)))))), (q72, .inr (2, [.int 0, .int 0, .int 0, .int 0]))] H := hP
  have hD : va_D A [(h0, .inr (6, [.ref q5, .ref q18, .ref q24, .ref q43, .null, .null, .null, .int 0, .int 0, .int 0, .int 0])), (q5, .inr (5, [.ref q8_9])), (q8_9, .inl (k8_9, 2048, .inl (fun _ => 0))), (q18, .inl (k18, 57, .inl (fun _ => 0))), (q24, .inr (3, [.ref q5, .ref q18, .int 0])), (q43, .inr (1, [.ref q5, .ref q24, .ref q18, .ref q7_59, .ref q15_59, .ref q22_59, .ref q29_59, .ref q36_59, .int 0, .int 0, .int 0, .int 0, .int 0, .int 0])), (q7_59, .inl (k7_59, 16, .inl (fun _ => 0))), (q15_59, .inl (k15_59, 16, .inl (fun _ => 0))), (q22_59, .inl (k22_59, 4, .inl (fun _ => 0))), (q29_59, .inl (k29_59, 4, .inl (fun _ => 0))), (q36_59, .inl (k36_59, 4, .inl (fun _ => 0))), (q67, .inl (k67, 3, .inr (.inr (.inr (.inr (fun _ => none)))))), (q72, .inr (2, [.int 0, .int 0, .int 0, .int 0]))] := hD
  have hK : va_K D qCl [(k8_9, .byte), (k18, .int), (k7_59, .int), (k15_59, .int), (k22_59, .int), (k29_59, .int), (k36_59, .int), (k67, .object "QuadMode$Operand")] s := hK
  refine W.widen (k := 12) (n := 2174) (by decide) (by decide) ?_
  refine va_astq hx hb hK hP hD hS 11 7 12 2 rfl rfl rfl rfl (vp_in_iff.mpr (by decide)) qm_X_init_79 (fun H locs hP hD hS => ?_)
  have hP : va_P D qCl [(h0, .inr (6, [.ref q5, .ref q18, .ref q24, .ref q43, .null, .null, .null, .int 0, .int 0, .int 0, .int 0])), (q5, .inr (5, [.ref q8_9])), (q8_9, .inl (k8_9, 2048, .inl (fun _ => 0))), (q18, .inl (k18, 57, .inl (fun _ => 0))), (q24, .inr (3, [.ref q5, .ref q18, .int 0])), (q43, .inr (1, [.ref q5, .ref q24, .ref q18, .ref q7_59, .ref q15_59, .ref q22_59, .ref q29_59, .ref q36_59, .int 0, .int 0, .int 0, .int 0, .int 0, .int 0])), (q7_59, .inl (k7_59, 16, .inl (fun _ => 0))), (q15_59, .inl (k15_59, 16, .inl (fun _ => 0))), (q22_59, .inl (k22_59, 4, .inl (fun _ => 0))), (q29_59, .inl (k29_59, 4, .inl (fun _ => 0))), (q36_59, .inl (k36_59, 4, .inl (fun _ => 0))), (q67, .inl (k67, 3, .inr (.inr (.inr (.inr (va_up (fun _ => none) 0 (some q72))))))), (q72, .inr (2, [.int 0, .int 0, .int 0, .int 0]))] H := hP
  have hD : va_D A [(h0, .inr (6, [.ref q5, .ref q18, .ref q24, .ref q43, .null, .null, .null, .int 0, .int 0, .int 0, .int 0])), (q5, .inr (5, [.ref q8_9])), (q8_9, .inl (k8_9, 2048, .inl (fun _ => 0))), (q18, .inl (k18, 57, .inl (fun _ => 0))), (q24, .inr (3, [.ref q5, .ref q18, .int 0])), (q43, .inr (1, [.ref q5, .ref q24, .ref q18, .ref q7_59, .ref q15_59, .ref q22_59, .ref q29_59, .ref q36_59, .int 0, .int 0, .int 0, .int 0, .int 0, .int 0])), (q7_59, .inl (k7_59, 16, .inl (fun _ => 0))), (q15_59, .inl (k15_59, 16, .inl (fun _ => 0))), (q22_59, .inl (k22_59, 4, .inl (fun _ => 0))), (q29_59, .inl (k29_59, 4, .inl (fun _ => 0))), (q36_59, .inl (k36_59, 4, .inl (fun _ => 0))), (q67, .inl (k67, 3, .inr (.inr (.inr (.inr (va_up (fun _ => none) 0 (some q72))))))), (q72, .inr (2, [.int 0, .int 0, .int 0, .int 0]))] := hD
  have hK : va_K D qCl [(k8_9, .byte), (k18, .int), (k7_59, .int), (k15_59, .int), (k22_59, .int), (k29_59, .int), (k36_59, .int), (k67, .object "QuadMode$Operand")] s := hK
  refine lv_dup hx hb qm_X_init_80 rfl ?_
  refine lv_iconst (v := 1) hx hb qm_X_init_81 (by decide) ?_
  refine va_new (ci := 2) (fs := [.int 0, .int 0, .int 0, .int 0]) (C := qR_Op) (T := qT_Op) (N := 4) hx hb hts qi_Op qY_Op qy_Op hown (hts _ qk_177) (hts _ qk_179) (hts _ qk_67) hK hP hD hS hA rfl (fun j hj => by rcases (show j = 0 ∨ j = 1 ∨ j = 2 ∨ j = 3 by omega) with rfl | rfl | rfl | rfl <;> rfl) (by decide) (by decide) qm_X_init_82 (fun q82 H hP hD hS => ?_)
  have hP : va_P D qCl [(h0, .inr (6, [.ref q5, .ref q18, .ref q24, .ref q43, .null, .null, .null, .int 0, .int 0, .int 0, .int 0])), (q5, .inr (5, [.ref q8_9])), (q8_9, .inl (k8_9, 2048, .inl (fun _ => 0))), (q18, .inl (k18, 57, .inl (fun _ => 0))), (q24, .inr (3, [.ref q5, .ref q18, .int 0])), (q43, .inr (1, [.ref q5, .ref q24, .ref q18, .ref q7_59, .ref q15_59, .ref q22_59, .ref q29_59, .ref q36_59, .int 0, .int 0, .int 0, .int 0, .int 0, .int 0])), (q7_59, .inl (k7_59, 16, .inl (fun _ => 0))), (q15_59, .inl (k15_59, 16, .inl (fun _ => 0))), (q22_59, .inl (k22_59, 4, .inl (fun _ => 0))), (q29_59, .inl (k29_59, 4, .inl (fun _ => 0))), (q36_59, .inl (k36_59, 4, .inl (fun _ => 0))), (q67, .inl (k67, 3, .inr (.inr (.inr (.inr (va_up (fun _ => none) 0 (some q72))))))), (q72, .inr (2, [.int 0, .int 0, .int 0, .int 0])), (q82, .inr (2, [.int 0, .int 0, .int 0, .int 0]))] H := hP
  have hD : va_D A [(h0, .inr (6, [.ref q5, .ref q18, .ref q24, .ref q43, .null, .null, .null, .int 0, .int 0, .int 0, .int 0])), (q5, .inr (5, [.ref q8_9])), (q8_9, .inl (k8_9, 2048, .inl (fun _ => 0))), (q18, .inl (k18, 57, .inl (fun _ => 0))), (q24, .inr (3, [.ref q5, .ref q18, .int 0])), (q43, .inr (1, [.ref q5, .ref q24, .ref q18, .ref q7_59, .ref q15_59, .ref q22_59, .ref q29_59, .ref q36_59, .int 0, .int 0, .int 0, .int 0, .int 0, .int 0])), (q7_59, .inl (k7_59, 16, .inl (fun _ => 0))), (q15_59, .inl (k15_59, 16, .inl (fun _ => 0))), (q22_59, .inl (k22_59, 4, .inl (fun _ => 0))), (q29_59, .inl (k29_59, 4, .inl (fun _ => 0))), (q36_59, .inl (k36_59, 4, .inl (fun _ => 0))), (q67, .inl (k67, 3, .inr (.inr (.inr (.inr (va_up (fun _ => none) 0 (some q72))))))), (q72, .inr (2, [.int 0, .int 0, .int 0, .int 0])), (q82, .inr (2, [.int 0, .int 0, .int 0, .int 0]))] := hD
  have hK : va_K D qCl [(k8_9, .byte), (k18, .int), (k7_59, .int), (k15_59, .int), (k22_59, .int), (k29_59, .int), (k36_59, .int), (k67, .object "QuadMode$Operand")] s := hK
  refine W.widen (k := 13) (n := 2178) (by decide) (by decide) ?_
  refine lv_dup hx hb qm_X_init_85 rfl ?_
  have hPc := hP.sub (ws' := [(q82, .inr (2, [.int 0, .int 0, .int 0, .int 0]))]) [13] rfl
  have hDc := hD.sub (ws' := [(q82, .inr (2, [.int 0, .int 0, .int 0, .int 0]))]) [13] (by decide) rfl
  have hKc := hK.sub (tys' := []) [] rfl
  have hFc := va_free (wc := [(q82, .inr (2, [.int 0, .int 0, .int 0, .int 0]))]) hD hS hA [13] rfl
  have hcw := va_cnB (R := ({ frames := 2, cells := 16, slots := 2187, locals := 36 })) (rm := ({ frames := 1, cells := 0, slots := 0, locals := 12 })) (own := "QuadMode") (index := 40) (host := "QuadMode") (bytes := qm_Op_init_c) (ret := none) 0 hts (qw_gc qk_182) rfl rfl rfl hn40 (hts _ qk_67) qm_Op_init_d ⟨by decide, by decide⟩
  refine va_callv (va_runIN (As := []) (rest := [.ref q82, .int 1, .ref q67, .ref q67, .ref h0]) ⟨hx, hb, hml, hown, hts⟩ (kc_Op l D H.size q82) ⟨hcw, rfl, hts _ qk_181⟩ ⟨fun a U g mk q => by obtain ⟨q0, q1, qP, qK, qD⟩ := q; exact ⟨q0, q1, qP, va_K.moved (u := U) (U := U.calling g mk a) (Vm.Alike.refl U.vm) qK, qD⟩, fun U hU hW => ⟨rfl, by rw [hU], by rw [hU]; exact hPc, va_K.moved hW.alike hKc, hDc.weaken (fun _ _ _ _ => trivial)⟩⟩ rfl rfl hl.1 rfl (lv_room (Nat.le_of_ble_eq_true rfl)) qm_X_init_86 ⟨by decide, by decide⟩) hS (fun q _ h => hFc q h) hFc (fun u t H1 locs ht hvm hw hB hz1 hk1 hS => ?_)
  obtain ⟨hP1, hK1, hD1⟩ := hB
  rw [ht] at hP1
  have hK1 := va_K.moved hvm.symm hK1
  obtain ⟨hP, hD⟩ := va_join (wr := [(h0, .inr (6, [.ref q5, .ref q18, .ref q24, .ref q43, .null, .null, .null, .int 0, .int 0, .int 0, .int 0])), (q5, .inr (5, [.ref q8_9])), (q8_9, .inl (k8_9, 2048, .inl (fun _ => 0))), (q18, .inl (k18, 57, .inl (fun _ => 0))), (q24, .inr (3, [.ref q5, .ref q18, .int 0])), (q43, .inr (1, [.ref q5, .ref q24, .ref q18, .ref q7_59, .ref q15_59, .ref q22_59, .ref q29_59, .ref q36_59, .int 0, .int 0, .int 0, .int 0, .int 0, .int 0])), (q7_59, .inl (k7_59, 16, .inl (fun _ => 0))), (q15_59, .inl (k15_59, 16, .inl (fun _ => 0))), (q22_59, .inl (k22_59, 4, .inl (fun _ => 0))), (q29_59, .inl (k29_59, 4, .inl (fun _ => 0))), (q36_59, .inl (k36_59, 4, .inl (fun _ => 0))), (q67, .inl (k67, 3, .inr (.inr (.inr (.inr (va_up (fun _ => none) 0 (some q72))))))), (q72, .inr (2, [.int 0, .int 0, .int 0, .int 0]))]) (w1 := [(q82, .inr (2, [.int 0, .int 0, .int 0, .int 0]))]) hP hD [13] [0, 1, 2, 3, 4, 5, 6, 7, 8, 9, 10, 11, 12] rfl rfl (by decide) (by decide) hk1 hFc hP1 hD1
  have hK := (hK.sub (tys' := [(k8_9, .byte), (k18, .int), (k7_59, .int), (k15_59, .int), (k22_59, .int), (k29_59, .int), (k36_59, .int), (k67, .object "QuadMode$Operand")]) [0, 1, 2, 3, 4, 5, 6, 7] rfl).app hK1
  generalize H1 = H at hP hS ⊢
  have hP : va_P D qCl [(h0, .inr (6, [.ref q5, .ref q18, .ref q24, .ref q43, .null, .null, .null, .int 0, .int 0, .int 0, .int 0])), (q5, .inr (5, [.ref q8_9])), (q8_9, .inl (k8_9, 2048, .inl (fun _ => 0))), (q18, .inl (k18, 57, .inl (fun _ => 0))), (q24, .inr (3, [.ref q5, .ref q18, .int 0])), (q43, .inr (1, [.ref q5, .ref q24, .ref q18, .ref q7_59, .ref q15_59, .ref q22_59, .ref q29_59, .ref q36_59, .int 0, .int 0, .int 0, .int 0, .int 0, .int 0])), (q7_59, .inl (k7_59, 16, .inl (fun _ => 0))), (q15_59, .inl (k15_59, 16, .inl (fun _ => 0))), (q22_59, .inl (k22_59, 4, .inl (fun _ => 0))), (q29_59, .inl (k29_59, 4, .inl (fun _ => 0))), (q36_59, .inl (k36_59, 4, .inl (fun _ => 0))), (q67, .inl (k67, 3, .inr (.inr (.inr (.inr (va_up (fun _ => none) 0 (some q72))))))), (q72, .inr (2, [.int 0, .int 0, .int 0, .int 0])), (q82, .inr (2, [.int 0, .int 0, .int 0, .int 0]))] H := hP
  have hD : va_D A [(h0, .inr (6, [.ref q5, .ref q18, .ref q24, .ref q43, .null, .null, .null, .int 0, .int 0, .int 0, .int 0])), (q5, .inr (5, [.ref q8_9])), (q8_9, .inl (k8_9, 2048, .inl (fun _ => 0))), (q18, .inl (k18, 57, .inl (fun _ => 0))), (q24, .inr (3, [.ref q5, .ref q18, .int 0])), (q43, .inr (1, [.ref q5, .ref q24, .ref q18, .ref q7_59, .ref q15_59, .ref q22_59, .ref q29_59, .ref q36_59, .int 0, .int 0, .int 0, .int 0, .int 0, .int 0])), (q7_59, .inl (k7_59, 16, .inl (fun _ => 0))), (q15_59, .inl (k15_59, 16, .inl (fun _ => 0))), (q22_59, .inl (k22_59, 4, .inl (fun _ => 0))), (q29_59, .inl (k29_59, 4, .inl (fun _ => 0))), (q36_59, .inl (k36_59, 4, .inl (fun _ => 0))), (q67, .inl (k67, 3, .inr (.inr (.inr (.inr (va_up (fun _ => none) 0 (some q72))))))), (q72, .inr (2, [.int 0, .int 0, .int 0, .int 0])), (q82, .inr (2, [.int 0, .int 0, .int 0, .int 0]))] := hD
  have hK : va_K D qCl [(k8_9, .byte), (k18, .int), (k7_59, .int), (k15_59, .int), (k22_59, .int), (k29_59, .int), (k36_59, .int), (k67, .object "QuadMode$Operand")] s := hK
  refine W.widen (k := 13) (n := 2178) (by decide) (by decide) ?_
  refine va_astq hx hb hK hP hD hS 11 7 13 2 rfl rfl rfl rfl (vp_in_iff.mpr (by decide)) qm_X_init_89 (fun H locs hP hD hS => ?_)
  have hP : va_P D qCl [(h0, .inr (6, [.ref q5, .ref q18, .ref q24, .ref q43, .null, .null, .null, .int 0, .int 0, .int 0, .int 0])), (q5, .inr (5, [.ref q8_9])), (q8_9, .inl (k8_9, 2048, .inl (fun _ => 0))), (q18, .inl (k18, 57, .inl (fun _ => 0))), (q24, .inr (3, [.ref q5, .ref q18, .int 0])), (q43, .inr (1, [.ref q5, .ref q24, .ref q18, .ref q7_59, .ref q15_59, .ref q22_59, .ref q29_59, .ref q36_59, .int 0, .int 0, .int 0, .int 0, .int 0, .int 0])), (q7_59, .inl (k7_59, 16, .inl (fun _ => 0))), (q15_59, .inl (k15_59, 16, .inl (fun _ => 0))), (q22_59, .inl (k22_59, 4, .inl (fun _ => 0))), (q29_59, .inl (k29_59, 4, .inl (fun _ => 0))), (q36_59, .inl (k36_59, 4, .inl (fun _ => 0))), (q67, .inl (k67, 3, .inr (.inr (.inr (.inr (va_up (va_up (fun _ => none) 0 (some q72)) 1 (some q82))))))), (q72, .inr (2, [.int 0, .int 0, .int 0, .int 0])), (q82, .inr (2, [.int 0, .int 0, .int 0, .int 0]))] H := hP
  have hD : va_D A [(h0, .inr (6, [.ref q5, .ref q18, .ref q24, .ref q43, .null, .null, .null, .int 0, .int 0, .int 0, .int 0])), (q5, .inr (5, [.ref q8_9])), (q8_9, .inl (k8_9, 2048, .inl (fun _ => 0))), (q18, .inl (k18, 57, .inl (fun _ => 0))), (q24, .inr (3, [.ref q5, .ref q18, .int 0])), (q43, .inr (1, [.ref q5, .ref q24, .ref q18, .ref q7_59, .ref q15_59, .ref q22_59, .ref q29_59, .ref q36_59, .int 0, .int 0, .int 0, .int 0, .int 0, .int 0])), (q7_59, .inl (k7_59, 16, .inl (fun _ => 0))), (q15_59, .inl (k15_59, 16, .inl (fun _ => 0))), (q22_59, .inl (k22_59, 4, .inl (fun _ => 0))), (q29_59, .inl (k29_59, 4, .inl (fun _ => 0))), (q36_59, .inl (k36_59, 4, .inl (fun _ => 0))), (q67, .inl (k67, 3, .inr (.inr (.inr (.inr (va_up (va_up (fun _ => none) 0 (some q72)) 1 (some q82))))))), (q72, .inr (2, [.int 0, .int 0, .int 0, .int 0])), (q82, .inr (2, [.int 0, .int 0, .int 0, .int 0]))] := hD
  have hK : va_K D qCl [(k8_9, .byte), (k18, .int), (k7_59, .int), (k15_59, .int), (k22_59, .int), (k29_59, .int), (k36_59, .int), (k67, .object "QuadMode$Operand")] s := hK
  refine lv_dup hx hb qm_X_init_90 rfl ?_
  refine lv_iconst (v := 2) hx hb qm_X_init_91 (by decide) ?_
  refine va_new (ci := 2) (fs := [.int 0, .int 0, .int 0, .int 0]) (C := qR_Op) (T := qT_Op) (N := 4) hx hb hts qi_Op qY_Op qy_Op hown (hts _ qk_177) (hts _ qk_179) (hts _ qk_67) hK hP hD hS hA rfl (fun j hj => by rcases (show j = 0 ∨ j = 1 ∨ j = 2 ∨ j = 3 by omega) with rfl | rfl | rfl | rfl <;> rfl) (by decide) (by decide) qm_X_init_92 (fun q92 H hP hD hS => ?_)
  have hP : va_P D qCl [(h0, .inr (6, [.ref q5, .ref q18, .ref q24, .ref q43, .null, .null, .null, .int 0, .int 0, .int 0, .int 0])), (q5, .inr (5, [.ref q8_9])), (q8_9, .inl (k8_9, 2048, .inl (fun _ => 0))), (q18, .inl (k18, 57, .inl (fun _ => 0))), (q24, .inr (3, [.ref q5, .ref q18, .int 0])), (q43, .inr (1, [.ref q5, .ref q24, .ref q18, .ref q7_59, .ref q15_59, .ref q22_59, .ref q29_59, .ref q36_59, .int 0, .int 0, .int 0, .int 0, .int 0, .int 0])), (q7_59, .inl (k7_59, 16, .inl (fun _ => 0))), (q15_59, .inl (k15_59, 16, .inl (fun _ => 0))), (q22_59, .inl (k22_59, 4, .inl (fun _ => 0))), (q29_59, .inl (k29_59, 4, .inl (fun _ => 0))), (q36_59, .inl (k36_59, 4, .inl (fun _ => 0))), (q67, .inl (k67, 3, .inr (.inr (.inr (.inr (va_up (va_up (fun _ => none) 0 (some q72)) 1 (some q82))))))), (q72, .inr (2, [.int 0, .int 0, .int 0, .int 0])), (q82, .inr (2, [.int 0, .int 0, .int 0, .int 0])), (q92, .inr (2, [.int 0, .int 0, .int 0, .int 0]))] H := hP
  have hD : va_D A [(h0, .inr (6, [.ref q5, .ref q18, .ref q24, .ref q43, .null, .null, .null, .int 0, .int 0, .int 0, .int 0])), (q5, .inr (5, [.ref q8_9])), (q8_9, .inl (k8_9, 2048, .inl (fun _ => 0))), (q18, .inl (k18, 57, .inl (fun _ => 0))), (q24, .inr (3, [.ref q5, .ref q18, .int 0])), (q43, .inr (1, [.ref q5, .ref q24, .ref q18, .ref q7_59, .ref q15_59, .ref q22_59, .ref q29_59, .ref q36_59, .int 0, .int 0, .int 0, .int 0, .int 0, .int 0])), (q7_59, .inl (k7_59, 16, .inl (fun _ => 0))), (q15_59, .inl (k15_59, 16, .inl (fun _ => 0))), (q22_59, .inl (k22_59, 4, .inl (fun _ => 0))), (q29_59, .inl (k29_59, 4, .inl (fun _ => 0))), (q36_59, .inl (k36_59, 4, .inl (fun _ => 0))), (q67, .inl (k67, 3, .inr (.inr (.inr (.inr (va_up (va_up (fun _ => none) 0 (some q72)) 1 (some q82))))))), (q72, .inr (2, [.int 0, .int 0, .int 0, .int 0])), (q82, .inr (2, [.int 0, .int 0, .int 0, .int 0])), (q92, .inr (2, [.int 0, .int 0, .int 0, .int 0]))] := hD
  have hK : va_K D qCl [(k8_9, .byte), (k18, .int), (k7_59, .int), (k15_59, .int), (k22_59, .int), (k29_59, .int), (k36_59, .int), (k67, .object "QuadMode$Operand")] s := hK
  refine W.widen (k := 14) (n := 2182) (by decide) (by decide) ?_
  refine lv_dup hx hb qm_X_init_95 rfl ?_
  have hPc := hP.sub (ws' := [(q92, .inr (2, [.int 0, .int 0, .int 0, .int 0]))]) [14] rfl
  have hDc := hD.sub (ws' := [(q92, .inr (2, [.int 0, .int 0, .int 0, .int 0]))]) [14] (by decide) rfl
  have hKc := hK.sub (tys' := []) [] rfl
  have hFc := va_free (wc := [(q92, .inr (2, [.int 0, .int 0, .int 0, .int 0]))]) hD hS hA [14] rfl
  have hcw := va_cnB (R := ({ frames := 2, cells := 16, slots := 2187, locals := 36 })) (rm := ({ frames := 1, cells := 0, slots := 0, locals := 12 })) (own := "QuadMode") (index := 40) (host := "QuadMode") (bytes := qm_Op_init_c) (ret := none) 0 hts (qw_gc qk_182) rfl rfl rfl hn40 (hts _ qk_67) qm_Op_init_d ⟨by decide, by decide⟩
  refine va_callv (va_runIN (As := []) (rest := [.ref q92, .int 2, .ref q67, .ref q67, .ref h0]) ⟨hx, hb, hml, hown, hts⟩ (kc_Op l D H.size q92) ⟨hcw, rfl, hts _ qk_181⟩ ⟨fun a U g mk q => by obtain ⟨q0, q1, qP, qK, qD⟩ := q; exact ⟨q0, q1, qP, va_K.moved (u := U) (U := U.calling g mk a) (Vm.Alike.refl U.vm) qK, qD⟩, fun U hU hW => ⟨rfl, by rw [hU], by rw [hU]; exact hPc, va_K.moved hW.alike hKc, hDc.weaken (fun _ _ _ _ => trivial)⟩⟩ rfl rfl hl.1 rfl (lv_room (Nat.le_of_ble_eq_true rfl)) qm_X_init_96 ⟨by decide, by decide⟩) hS (fun q _ h => hFc q h) hFc (fun u t H1 locs ht hvm hw hB hz1 hk1 hS => ?_)
  obtain ⟨hP1, hK1, hD1⟩ := hB
  rw [ht] at hP1
  have hK1 := va_K.moved hvm.symm hK1
  obtain ⟨hP, hD⟩ := va_join (wr := [(h0, .inr (6, [.ref q5, .ref q18, .ref q24, .ref q43, .null, .null, .null, .int 0, .int 0, .int 0, .int 0])), (q5, .inr (5, [.ref q8_9])), (q8_9, .inl (k8_9, 2048, .inl (fun _ => 0))), (q18, .inl (k18, 57, .inl (fun _ => 0))), (q24, .inr (3, [.ref q5, .ref q18, .int 0])), (q43, .inr (1, [.ref q5, .ref q24, .ref q18, .ref q7_59, .ref q15_59, .ref q22_59, .ref q29_59, .ref q36_59, .int 0, .int 0, .int 0, .int 0, .int 0, .int 0])), (q7_59, .inl (k7_59, 16, .inl (fun _ => 0))), (q15_59, .inl (k15_59, 16, .inl (fun _ => 0))), (q22_59, .inl (k22_59, 4, .inl (fun _ => 0))), (q29_59, .inl (k29_59, 4, .inl (fun _ => 0))), (q36_59, .inl (k36_59, 4, .inl (fun _ => 0))), (q67, .inl (k67, 3, .inr (.inr (.inr (.inr (va_up (va_up (fun _ => none) 0 (some q72)) 1 (some q82))))))), (q72, .inr (2, [.int 0, .int 0, .int 0, .int 0])), (q82, .inr (2, [.int 0, .int 0, .int 0, .int 0]))]) (w1 := [(q92, .inr (2, [.int 0, .int 0, .int 0, .int 0]))]) hP hD [14] [0, 1, 2, 3, 4, 5, 6, 7, 8, 9, 10, 11, 12, 13] rfl rfl (by decide) (by decide) hk1 hFc hP1 hD1
  have hK := (hK.sub (tys' := [(k8_9, .byte), (k18, .int), (k7_59, .int), (k15_59, .int), (k22_59, .int), (k29_59, .int), (k36_59, .int), (k67, .object "QuadMode$Operand")]) [0, 1, 2, 3, 4, 5, 6, 7] rfl).app hK1
  generalize H1 = H at hP hS ⊢
  have hP : va_P D qCl [(h0, .inr (6, [.ref q5, .ref q18, .ref q24, .ref q43, .null, .null, .null, .int 0, .int 0, .int 0, .int 0])), (q5, .inr (5, [.ref q8_9])), (q8_9, .inl (k8_9, 2048, .inl (fun _ => 0))), (q18, .inl (k18, 57, .inl (fun _ => 0))), (q24, .inr (3, [.ref q5, .ref q18, .int 0])), (q43, .inr (1, [.ref q5, .ref q24, .ref q18, .ref q7_59, .ref q15_59, .ref q22_59, .ref q29_59, .ref q36_59, .int 0, .int 0, .int 0, .int 0, .int 0, .int 0])), (q7_59, .inl (k7_59, 16, .inl (fun _ => 0))), (q15_59, .inl (k15_59, 16, .inl (fun _ => 0))), (q22_59, .inl (k22_59, 4, .inl (fun _ => 0))), (q29_59, .inl (k29_59, 4, .inl (fun _ => 0))), (q36_59, .inl (k36_59, 4, .inl (fun _ => 0))), (q67, .inl (k67, 3, .inr (.inr (.inr (.inr (va_up (va_up (fun _ => none) 0 (some q72)) 1 (some q82))))))), (q72, .inr (2, [.int 0, .int 0, .int 0, .int 0])), (q82, .inr (2, [.int 0, .int 0, .int 0, .int 0])), (q92, .inr (2, [.int 0, .int 0, .int 0, .int 0]))] H := hP
  have hD : va_D A [(h0, .inr (6, [.ref q5, .ref q18, .ref q24, .ref q43, .null, .null, .null, .int 0, .int 0, .int 0, .int 0])), (q5, .inr (5, [.ref q8_9])), (q8_9, .inl (k8_9, 2048, .inl (fun _ => 0))), (q18, .inl (k18, 57, .inl (fun _ => 0))), (q24, .inr (3, [.ref q5, .ref q18, .int 0])), (q43, .inr (1, [.ref q5, .ref q24, .ref q18, .ref q7_59, .ref q15_59, .ref q22_59, .ref q29_59, .ref q36_59, .int 0, .int 0, .int 0, .int 0, .int 0, .int 0])), (q7_59, .inl (k7_59, 16, .inl (fun _ => 0))), (q15_59, .inl (k15_59, 16, .inl (fun _ => 0))), (q22_59, .inl (k22_59, 4, .inl (fun _ => 0))), (q29_59, .inl (k29_59, 4, .inl (fun _ => 0))), (q36_59, .inl (k36_59, 4, .inl (fun _ => 0))), (q67, .inl (k67, 3, .inr (.inr (.inr (.inr (va_up (va_up (fun _ => none) 0 (some q72)) 1 (some q82))))))), (q72, .inr (2, [.int 0, .int 0, .int 0, .int 0])), (q82, .inr (2, [.int 0, .int 0, .int 0, .int 0])), (q92, .inr (2, [.int 0, .int 0, .int 0, .int 0]))] := hD
  have hK : va_K D qCl [(k8_9, .byte), (k18, .int), (k7_59, .int), (k15_59, .int), (k22_59, .int), (k29_59, .int), (k36_59, .int), (k67, .object "QuadMode$Operand")] s := hK
  refine W.widen (k := 14) (n := 2182) (by decide) (by decide) ?_
  refine va_astq hx hb hK hP hD hS 11 7 14 2 rfl rfl rfl rfl (vp_in_iff.mpr (by decide)) qm_X_init_99 (fun H locs hP hD hS => ?_)
  have hP : va_P D qCl [(h0, .inr (6, [.ref q5, .ref q18, .ref q24, .ref q43, .null, .null, .null, .int 0, .int 0, .int 0, .int 0])), (q5, .inr (5, [.ref q8_9])), (q8_9, .inl (k8_9, 2048, .inl (fun _ => 0))), (q18, .inl (k18, 57, .inl (fun _ => 0))), (q24, .inr (3, [.ref q5, .ref q18, .int 0])), (q43, .inr (1, [.ref q5, .ref q24, .ref q18, .ref q7_59, .ref q15_59, .ref q22_59, .ref q29_59, .ref q36_59, .int 0, .int 0, .int 0, .int 0, .int 0, .int 0])), (q7_59, .inl (k7_59, 16, .inl (fun _ => 0))), (q15_59, .inl (k15_59, 16, .inl (fun _ => 0))), (q22_59, .inl (k22_59, 4, .inl (fun _ => 0))), (q29_59, .inl (k29_59, 4, .inl (fun _ => 0))), (q36_59, .inl (k36_59, 4, .inl (fun _ => 0))), (q67, .inl (k67, 3, .inr (.inr (.inr (.inr (va_up (va_up (va_up (fun _ => none) 0 (some q72)) 1 (some q82)) 2 (some q92))))))), (q72, .inr (2, [.int 0, .int 0, .int 0, .int 0])), (q82, .inr (2, [.int 0, .int 0, .int 0, .int 0])), (q92, .inr (2, [.int 0, .int 0, .int 0, .int 0]))] H := hP
  have hD : va_D A [(h0, .inr (6, [.ref q5, .ref q18, .ref q24, .ref q43, .null, .null, .null, .int 0, .int 0, .int 0, .int 0])), (q5, .inr (5, [.ref q8_9])), (q8_9, .inl (k8_9, 2048, .inl (fun _ => 0))), (q18, .inl (k18, 57, .inl (fun _ => 0))), (q24, .inr (3, [.ref q5, .ref q18, .int 0])), (q43, .inr (1, [.ref q5, .ref q24, .ref q18, .ref q7_59, .ref q15_59, .ref q22_59, .ref q29_59, .ref q36_59, .int 0, .int 0, .int 0, .int 0, .int 0, .int 0])), (q7_59, .inl (k7_59, 16, .inl (fun _ => 0))), (q15_59, .inl (k15_59, 16, .inl (fun _ => 0))), (q22_59, .inl (k22_59, 4, .inl (fun _ => 0))), (q29_59, .inl (k29_59, 4, .inl (fun _ => 0))), (q36_59, .inl (k36_59, 4, .inl (fun _ => 0))), (q67, .inl (k67, 3, .inr (.inr (.inr (.inr (va_up (va_up (va_up (fun _ => none) 0 (some q72)) 1 (some q82)) 2 (some q92))))))), (q72, .inr (2, [.int 0, .int 0, .int 0, .int 0])), (q82, .inr (2, [.int 0, .int 0, .int 0, .int 0])), (q92, .inr (2, [.int 0, .int 0, .int 0, .int 0]))] := hD
  have hK : va_K D qCl [(k8_9, .byte), (k18, .int), (k7_59, .int), (k15_59, .int), (k22_59, .int), (k29_59, .int), (k36_59, .int), (k67, .object "QuadMode$Operand")] s := hK
  refine va_putF (D := D) (ci := 6) (v := .ref q67) (ty := .array (.object "QuadMode$Operand")) (C := qR_X) (T := qT_X) (N := 11) hx hb hts qi_X qY_X qy_X qn_X hown hK hP hD hS 0 rfl rfl 4 (by decide) (hts _ qk_235) (fun _ h9 => h9) rfl hin rfl (by decide +kernel) rfl rfl (Nat.le_of_ble_eq_true rfl) qm_X_init_100 (fun H locs hP hD hS => ?_)
  have hP : va_P D qCl [(h0, .inr (6, [.ref q5, .ref q18, .ref q24, .ref q43, .ref q67, .null, .null, .int 0, .int 0, .int 0, .int 0])), (q5, .inr (5, [.ref q8_9])), (q8_9, .inl (k8_9, 2048, .inl (fun _ => 0))), (q18, .inl (k18, 57, .inl (fun _ => 0))), (q24, .inr (3, [.ref q5, .ref q18, .int 0])), (q43, .inr (1, [.ref q5, .ref q24, .ref q18, .ref q7_59, .ref q15_59, .ref q22_59, .ref q29_59, .ref q36_59, .int 0, .int 0, .int 0, .int 0, .int 0, .int 0])), (q7_59, .inl (k7_59, 16, .inl (fun _ => 0))), (q15_59, .inl (k15_59, 16, .inl (fun _ => 0))), (q22_59, .inl (k22_59, 4, .inl (fun _ => 0))), (q29_59, .inl (k29_59, 4, .inl (fun _ => 0))), (q36_59, .inl (k36_59, 4, .inl (fun _ => 0))), (q67, .inl (k67, 3, .inr (.inr (.inr (.inr (va_up (va_up (va_up (fun _ => none) 0 (some q72)) 1 (some q82)) 2 (some q92))))))), (q72, .inr (2, [.int 0, .int 0, .int 0, .int 0])), (q82, .inr (2, [.int 0, .int 0, .int 0, .int 0])), (q92, .inr (2, [.int 0, .int 0, .int 0, .int 0]))] H := hP
  have hD : va_D A [(h0, .inr (6, [.ref q5, .ref q18, .ref q24, .ref q43, .ref q67, .null, .null, .int 0, .int 0, .int 0, .int 0])), (q5, .inr (5, [.ref q8_9])), (q8_9, .inl (k8_9, 2048, .inl (fun _ => 0))), (q18, .inl (k18, 57, .inl (fun _ => 0))), (q24, .inr (3, [.ref q5, .ref q18, .int 0])), (q43, .inr (1, [.ref q5, .ref q24, .ref q18, .ref q7_59, .ref q15_59, .ref q22_59, .ref q29_59, .ref q36_59, .int 0, .int 0, .int 0, .int 0, .int 0, .int 0])), (q7_59, .inl (k7_59, 16, .inl (fun _ => 0))), (q15_59, .inl (k15_59, 16, .inl (fun _ => 0))), (q22_59, .inl (k22_59, 4, .inl (fun _ => 0))), (q29_59, .inl (k29_59, 4, .inl (fun _ => 0))), (q36_59, .inl (k36_59, 4, .inl (fun _ => 0))), (q67, .inl (k67, 3, .inr (.inr (.inr (.inr (va_up (va_up (va_up (fun _ => none) 0 (some q72)) 1 (some q82)) 2 (some q92))))))), (q72, .inr (2, [.int 0, .int 0, .int 0, .int 0])), (q82, .inr (2, [.int 0, .int 0, .int 0, .int 0])), (q92, .inr (2, [.int 0, .int 0, .int 0, .int 0]))] := hD
  have hK : va_K D qCl [(k8_9, .byte), (k18, .int), (k7_59, .int), (k15_59, .int), (k22_59, .int), (k29_59, .int), (k36_59, .int), (k67, .object "QuadMode$Operand")] s := hK
  refine lv_aload_n hx hb qm_X_init_103 rfl (lv_at hl 0 rfl) ?_
  refine va_new (ci := 4) (fs := [.null]) (C := qR_Sp) (T := qT_Sp) (N := 1) hx hb hts qi_Sp qY_Sp qy_Sp hown (hts _ qk_202) (hts _ qk_203) (hts _ qk_68) hK hP hD hS hA rfl (fun j hj => by rcases (show j = 0 by omega) with rfl <;> rfl) (by decide) (by decide) qm_X_init_104 (fun q104 H hP hD hS => ?_)
  have hP : va_P D qCl [(h0, .inr (6, [.ref q5, .ref q18, .ref q24, .ref q43, .ref q67, .null, .null, .int 0, .int 0, .int 0, .int 0])), (q5, .inr (5, [.ref q8_9])), (q8_9, .inl (k8_9, 2048, .inl (fun _ => 0))), (q18, .inl (k18, 57, .inl (fun _ => 0))), (q24, .inr (3, [.ref q5, .ref q18, .int 0])), (q43, .inr (1, [.ref q5, .ref q24, .ref q18, .ref q7_59, .ref q15_59, .ref q22_59, .ref q29_59, .ref q36_59, .int 0, .int 0, .int 0, .int 0, .int 0, .int 0])), (q7_59, .inl (k7_59, 16, .inl (fun _ => 0))), (q15_59, .inl (k15_59, 16, .inl (fun _ => 0))), (q22_59, .inl (k22_59, 4, .inl (fun _ => 0))), (q29_59, .inl (k29_59, 4, .inl (fun _ => 0))), (q36_59, .inl (k36_59, 4, .inl (fun _ => 0))), (q67, .inl (k67, 3, .inr (.inr (.inr (.inr (va_up (va_up (va_up (fun _ => none) 0 (some q72)) 1 (some q82)) 2 (some q92))))))), (q72, .inr (2, [.int 0, .int 0, .int 0, .int 0])), (q82, .inr (2, [.int 0, .int 0, .int 0, .int 0])), (q92, .inr (2, [.int 0, .int 0, .int 0, .int 0])), (q104, .inr (4, [.null]))] H := hP
  have hD : va_D A [(h0, .inr (6, [.ref q5, .ref q18, .ref q24, .ref q43, .ref q67, .null, .null, .int 0, .int 0, .int 0, .int 0])), (q5, .inr (5, [.ref q8_9])), (q8_9, .inl (k8_9, 2048, .inl (fun _ => 0))), (q18, .inl (k18, 57, .inl (fun _ => 0))), (q24, .inr (3, [.ref q5, .ref q18, .int 0])), (q43, .inr (1, [.ref q5, .ref q24, .ref q18, .ref q7_59, .ref q15_59, .ref q22_59, .ref q29_59, .ref q36_59, .int 0, .int 0, .int 0, .int 0, .int 0, .int 0])), (q7_59, .inl (k7_59, 16, .inl (fun _ => 0))), (q15_59, .inl (k15_59, 16, .inl (fun _ => 0))), (q22_59, .inl (k22_59, 4, .inl (fun _ => 0))), (q29_59, .inl (k29_59, 4, .inl (fun _ => 0))), (q36_59, .inl (k36_59, 4, .inl (fun _ => 0))), (q67, .inl (k67, 3, .inr (.inr (.inr (.inr (va_up (va_up (va_up (fun _ => none) 0 (some q72)) 1 (some q82)) 2 (some q92))))))), (q72, .inr (2, [.int 0, .int 0, .int 0, .int 0])), (q82, .inr (2, [.int 0, .int 0, .int 0, .int 0])), (q92, .inr (2, [.int 0, .int 0, .int 0, .int 0])), (q104, .inr (4, [.null]))] := hD
  have hK : va_K D qCl [(k8_9, .byte), (k18, .int), (k7_59, .int), (k15_59, .int), (k22_59, .int), (k29_59, .int), (k36_59, .int), (k67, .object "QuadMode$Operand")] s := hK
  refine W.widen (k := 15) (n := 2183) (by decide) (by decide) ?_
  refine lv_dup hx hb qm_X_init_107 rfl ?_
  refine lv_aload_n hx hb qm_X_init_108 rfl (lv_at hl 0 rfl) ?_
  refine va_get (D := D) (ci := 6) (v := .ref q43) (C := qR_X) (T := qT_X) (N := 11) hx hb hts qi_X hown hK hP 0 rfl rfl 3 (by decide) (hts _ qk_234) (fun _ h9 => h9) rfl qm_X_init_109 ?_
  have hPc := hP.sub (ws' := [(q104, .inr (4, [.null]))]) [15] rfl
  have hDc := hD.sub (ws' := [(q104, .inr (4, [.null]))]) [15] (by decide) rfl
  have hKc := hK.sub (tys' := []) [] rfl
  have hFc := va_free (wc := [(q104, .inr (4, [.null]))]) hD hS hA [15] rfl
  refine va_callv (va_runI (As := [.ref q43]) (rest := [.ref q104, .ref h0]) ⟨hx, hb, hml, hown, hts⟩ (kc_Sp l D H.size q104 q43) (cwI 1 hts (qw_gc qk_206) rfl rfl rfl (hts _ qk_68) (hts _ qk_204) (hts _ qk_205) rfl qm_Sp_init_d ⟨by decide, by decide⟩) ⟨fun a U g mk q => by obtain ⟨q0, q1, qP, qK, qD⟩ := q; exact ⟨q0, q1, qP, va_K.moved (u := U) (U := U.calling g mk a) (Vm.Alike.refl U.vm) qK, qD⟩, fun U hU hW => ⟨rfl, by rw [hU], by rw [hU]; exact hPc, va_K.moved hW.alike hKc, hDc.weaken (fun _ _ _ _ => trivial)⟩⟩ rfl rfl hl.1 rfl (lv_room (Nat.le_of_ble_eq_true rfl)) qm_X_init_112 ⟨by decide, by decide⟩) hS (fun q _ h => hFc q h) hFc (fun u t H1 locs ht hvm hw hB hz1 hk1 hS => ?_)
  obtain ⟨hP1, hK1, hD1⟩ := hB
  rw [ht] at hP1
  have hK1 := va_K.moved hvm.symm hK1
  obtain ⟨hP, hD⟩ := va_join (wr := [(h0, .inr (6, [.ref q5, .ref q18, .ref q24, .ref q43, .ref q67, .null, .null, .int 0, .int 0, .int 0, .int 0])), (q5, .inr (5, [.ref q8_9])), (q8_9, .inl (k8_9, 2048, .inl (fun _ => 0))), (q18, .inl (k18, 57, .inl (fun _ => 0))), (q24, .inr (3, [.ref q5, .ref q18, .int 0])), (q43, .inr (1, [.ref q5, .ref q24, .ref q18, .ref q7_59, .ref q15_59, .ref q22_59, .ref q29_59, .ref q36_59, .int 0, .int 0, .int 0, .int 0, .int 0, .int 0])), (q7_59, .inl (k7_59, 16, .inl (fun _ => 0))), (q15_59, .inl (k15_59, 16, .inl (fun _ => 0))), (q22_59, .inl (k22_59, 4, .inl (fun _ => 0))), (q29_59, .inl (k29_59, 4, .inl (fun _ => 0))), (q36_59, .inl (k36_59, 4, .inl (fun _ => 0))), (q67, .inl (k67, 3, .inr (.inr (.inr (.inr (va_up (va_up (va_up (fun _ => none) 0 (some q72)) 1 (some q82)) 2 (some q92))))))), (q72, .inr (2, [.int 0, .int 0, .int 0, .int 0])), (q82, .inr (2, [.int 0, .int 0, .int 0, .int 0])), (q92, .inr (2, [.int 0, .int 0, .int 0, .int 0]))]) (w1 := [(q104, .inr (4, [.ref q43]))]) hP hD [15] [0, 1, 2, 3, 4, 5, 6, 7, 8, 9, 10, 11, 12, 13, 14] rfl rfl (by decide) (by decide) hk1 hFc hP1 hD1
  have hK := (hK.sub (tys' := [(k8_9, .byte), (k18, .int), (k7_59, .int), (k15_59, .int), (k22_59, .int), (k29_59, .int), (k36_59, .int), (k67, .object "QuadMode$Operand")]) [0, 1, 2, 3, 4, 5, 6, 7] rfl).app hK1
  generalize H1 = H at hP hS ⊢
  have hP : va_P D qCl [(h0, .inr (6, [.ref q5, .ref q18, .ref q24, .ref q43, .ref q67, .null, .null, .int 0, .int 0, .int 0, .int 0])), (q5, .inr (5, [.ref q8_9])), (q8_9, .inl (k8_9, 2048, .inl (fun _ => 0))), (q18, .inl (k18, 57, .inl (fun _ => 0))), (q24, .inr (3, [.ref q5, .ref q18, .int 0])), (q43, .inr (1, [.ref q5, .ref q24, .ref q18, .ref q7_59, .ref q15_59, .ref q22_59, .ref q29_59, .ref q36_59, .int 0, .int 0, .int 0, .int 0, .int 0, .int 0])), (q7_59, .inl (k7_59, 16, .inl (fun _ => 0))), (q15_59, .inl (k15_59, 16, .inl (fun _ => 0))), (q22_59, .inl (k22_59, 4, .inl (fun _ => 0))), (q29_59, .inl (k29_59, 4, .inl (fun _ => 0))), (q36_59, .inl (k36_59, 4, .inl (fun _ => 0))), (q67, .inl (k67, 3, .inr (.inr (.inr (.inr (va_up (va_up (va_up (fun _ => none) 0 (some q72)) 1 (some q82)) 2 (some q92))))))), (q72, .inr (2, [.int 0, .int 0, .int 0, .int 0])), (q82, .inr (2, [.int 0, .int 0, .int 0, .int 0])), (q92, .inr (2, [.int 0, .int 0, .int 0, .int 0])), (q104, .inr (4, [.ref q43]))] H := hP
  have hD : va_D A [(h0, .inr (6, [.ref q5, .ref q18, .ref q24, .ref q43, .ref q67, .null, .null, .int 0, .int 0, .int 0, .int 0])), (q5, .inr (5, [.ref q8_9])), (q8_9, .inl (k8_9, 2048, .inl (fun _ => 0))), (q18, .inl (k18, 57, .inl (fun _ => 0))), (q24, .inr (3, [.ref q5, .ref q18, .int 0])), (q43, .inr (1, [.ref q5, .ref q24, .ref q18, .ref q7_59, .ref q15_59, .ref q22_59, .ref q29_59, .ref q36_59, .int 0, .int 0, .int 0, .int 0, .int 0, .int 0])), (q7_59, .inl (k7_59, 16, .inl (fun _ => 0))), (q15_59, .inl (k15_59, 16, .inl (fun _ => 0))), (q22_59, .inl (k22_59, 4, .inl (fun _ => 0))), (q29_59, .inl (k29_59, 4, .inl (fun _ => 0))), (q36_59, .inl (k36_59, 4, .inl (fun _ => 0))), (q67, .inl (k67, 3, .inr (.inr (.inr (.inr (va_up (va_up (va_up (fun _ => none) 0 (some q72)) 1 (some q82)) 2 (some q92))))))), (q72, .inr (2, [.int 0, .int 0, .int 0, .int 0])), (q82, .inr (2, [.int 0, .int 0, .int 0, .int 0])), (q92, .inr (2, [.int 0, .int 0, .int 0, .int 0])), (q104, .inr (4, [.ref q43]))] := hD
  have hK : va_K D qCl [(k8_9, .byte), (k18, .int), (k7_59, .int), (k15_59, .int), (k22_59, .int), (k29_59, .int), (k36_59, .int), (k67, .object "QuadMode$Operand")] s := hK
  refine W.widen (k := 15) (n := 2183) (by decide) (by decide) ?_
  refine va_putF (D := D) (ci := 6) (v := .ref q104) (ty := .object "QuadMode$Specifiers") (C := qR_X) (T := qT_X) (N := 11) hx hb hts qi_X qY_X qy_X qn_X hown hK hP hD hS 0 rfl rfl 5 (by decide) (hts _ qk_236) (fun _ h9 => h9) rfl hin rfl (by decide +kernel) rfl rfl (Nat.le_of_ble_eq_true rfl) qm_X_init_115 (fun H locs hP hD hS => ?_)
  have hP : va_P D qCl [(h0, .inr (6, [.ref q5, .ref q18, .ref q24, .ref q43, .ref q67, .ref q104, .null, .int 0, .int 0, .int 0, .int 0])), (q5, .inr (5, [.ref q8_9])), (q8_9, .inl (k8_9, 2048, .inl (fun _ => 0))), (q18, .inl (k18, 57, .inl (fun _ => 0))), (q24, .inr (3, [.ref q5, .ref q18, .int 0])), (q43, .inr (1, [.ref q5, .ref q24, .ref q18, .ref q7_59, .ref q15_59, .ref q22_59, .ref q29_59, .ref q36_59, .int 0, .int 0, .int 0, .int 0, .int 0, .int 0])), (q7_59, .inl (k7_59, 16, .inl (fun _ => 0))), (q15_59, .inl (k15_59, 16, .inl (fun _ => 0))), (q22_59, .inl (k22_59, 4, .inl (fun _ => 0))), (q29_59, .inl (k29_59, 4, .inl (fun _ => 0))), (q36_59, .inl (k36_59, 4, .inl (fun _ => 0))), (q67, .inl (k67, 3, .inr (.inr (.inr (.inr (va_up (va_up (va_up (fun _ => none) 0 (some q72)) 1 (some q82)) 2 (some q92))))))), (q72, .inr (2, [.int 0, .int 0, .int 0, .int 0])), (q82, .inr (2, [.int 0, .int 0, .int 0, .int 0])), (q92, .inr (2, [.int 0, .int 0, .int 0, .int 0])), (q104, .inr (4, [.ref q43]))] H := hP
  have hD : va_D A [(h0, .inr (6, [.ref q5, .ref q18, .ref q24, .ref q43, .ref q67, .ref q104, .null, .int 0, .int 0, .int 0, .int 0])), (q5, .inr (5, [.ref q8_9])), (q8_9, .inl (k8_9, 2048, .inl (fun _ => 0))), (q18, .inl (k18, 57, .inl (fun _ => 0))), (q24, .inr (3, [.ref q5, .ref q18, .int 0])), (q43, .inr (1, [.ref q5, .ref q24, .ref q18, .ref q7_59, .ref q15_59, .ref q22_59, .ref q29_59, .ref q36_59, .int 0, .int 0, .int 0, .int 0, .int 0, .int 0])), (q7_59, .inl (k7_59, 16, .inl (fun _ => 0))), (q15_59, .inl (k15_59, 16, .inl (fun _ => 0))), (q22_59, .inl (k22_59, 4, .inl (fun _ => 0))), (q29_59, .inl (k29_59, 4, .inl (fun _ => 0))), (q36_59, .inl (k36_59, 4, .inl (fun _ => 0))), (q67, .inl (k67, 3, .inr (.inr (.inr (.inr (va_up (va_up (va_up (fun _ => none) 0 (some q72)) 1 (some q82)) 2 (some q92))))))), (q72, .inr (2, [.int 0, .int 0, .int 0, .int 0])), (q82, .inr (2, [.int 0, .int 0, .int 0, .int 0])), (q92, .inr (2, [.int 0, .int 0, .int 0, .int 0])), (q104, .inr (4, [.ref q43]))] := hD
  have hK : va_K D qCl [(k8_9, .byte), (k18, .int), (k7_59, .int), (k15_59, .int), (k22_59, .int), (k29_59, .int), (k36_59, .int), (k67, .object "QuadMode$Operand")] s := hK
  refine lv_aload_n hx hb qm_X_init_118 rfl (lv_at hl 0 rfl) ?_
  refine va_new (ci := 0) (fs := [.null, .null, .null, .null]) (C := qR_Cd) (T := qT_Cd) (N := 4) hx hb hts qi_Cd qY_Cd qy_Cd hown (hts _ qk_212) (hts _ qk_213) (hts _ qk_69) hK hP hD hS hA rfl (fun j hj => by rcases (show j = 0 ∨ j = 1 ∨ j = 2 ∨ j = 3 by omega) with rfl | rfl | rfl | rfl <;> rfl) (by decide) (by decide) qm_X_init_119 (fun q119 H hP hD hS => ?_)
  have hP : va_P D qCl [(h0, .inr (6, [.ref q5, .ref q18, .ref q24, .ref q43, .ref q67, .ref q104, .null, .int 0, .int 0, .int 0, .int 0])), (q5, .inr (5, [.ref q8_9])), (q8_9, .inl (k8_9, 2048, .inl (fun _ => 0))), (q18, .inl (k18, 57, .inl (fun _ => 0))), (q24, .inr (3, [.ref q5, .ref q18, .int 0])), (q43, .inr (1, [.ref q5, .ref q24, .ref q18, .ref q7_59, .ref q15_59, .ref q22_59, .ref q29_59, .ref q36_59, .int 0, .int 0, .int 0, .int 0, .int 0, .int 0])), (q7_59, .inl (k7_59, 16, .inl (fun _ => 0))), (q15_59, .inl (k15_59, 16, .inl (fun _ => 0))), (q22_59, .inl (k22_59, 4, .inl (fun _ => 0))), (q29_59, .inl (k29_59, 4, .inl (fun _ => 0))), (q36_59, .inl (k36_59, 4, .inl (fun _ => 0))), (q67, .inl (k67, 3, .inr (.inr (.inr (.inr (va_up (va_up (va_up (fun _ => none) 0 (some q72)) 1 (some q82)) 2 (some q92))))))), (q72, .inr (2, [.int 0, .int 0, .int 0, .int 0])), (q82, .inr (2, [.int 0, .int 0, .int 0, .int 0])), (q92, .inr (2, [.int 0, .int 0, .int 0, .int 0])), (q104, .inr (4, [.ref q43])), (q119, .inr (0, [.null, .null, .null, .null]))] H := hP
  have hD : va_D A [(h0, .inr (6, [.ref q5, .ref q18, .ref q24, .ref q43, .ref q67, .ref q104, .null, .int 0, .int 0, .int 0, .int 0])), (q5, .inr (5, [.ref q8_9])), (q8_9, .inl (k8_9, 2048, .inl (fun _ => 0))), (q18, .inl (k18, 57, .inl (fun _ => 0))), (q24, .inr (3, [.ref q5, .ref q18, .int 0])), (q43, .inr (1, [.ref q5, .ref q24, .ref q18, .ref q7_59, .ref q15_59, .ref q22_59, .ref q29_59, .ref q36_59, .int 0, .int 0, .int 0, .int 0, .int 0, .int 0])), (q7_59, .inl (k7_59, 16, .inl (fun _ => 0))), (q15_59, .inl (k15_59, 16, .inl (fun _ => 0))), (q22_59, .inl (k22_59, 4, .inl (fun _ => 0))), (q29_59, .inl (k29_59, 4, .inl (fun _ => 0))), (q36_59, .inl (k36_59, 4, .inl (fun _ => 0))), (q67, .inl (k67, 3, .inr (.inr (.inr (.inr (va_up (va_up (va_up (fun _ => none) 0 (some q72)) 1 (some q82)) 2 (some q92))))))), (q72, .inr (2, [.int 0, .int 0, .int 0, .int 0])), (q82, .inr (2, [.int 0, .int 0, .int 0, .int 0])), (q92, .inr (2, [.int 0, .int 0, .int 0, .int 0])), (q104, .inr (4, [.ref q43])), (q119, .inr (0, [.null, .null, .null, .null]))] := hD
  have hK : va_K D qCl [(k8_9, .byte), (k18, .int), (k7_59, .int), (k15_59, .int), (k22_59, .int), (k29_59, .int), (k36_59, .int), (k67, .object "QuadMode$Operand")] s := hK
  refine W.widen (k := 16) (n := 2187) (by decide) (by decide) ?_
  refine lv_dup hx hb qm_X_init_122 rfl ?_
  refine lv_aload_n hx hb qm_X_init_123 rfl (lv_at hl 0 rfl) ?_
  refine va_get (D := D) (ci := 6) (v := .ref q43) (C := qR_X) (T := qT_X) (N := 11) hx hb hts qi_X hown hK hP 0 rfl rfl 3 (by decide) (hts _ qk_234) (fun _ h9 => h9) rfl qm_X_init_124 ?_
  refine lv_aload_n hx hb qm_X_init_127 rfl (lv_at hl 0 rfl) ?_
  refine va_get (D := D) (ci := 6) (v := .ref q67) (C := qR_X) (T := qT_X) (N := 11) hx hb hts qi_X hown hK hP 0 rfl rfl 4 (by decide) (hts _ qk_235) (fun _ h9 => h9) rfl qm_X_init_128 ?_
  refine lv_iconst (v := 0) hx hb qm_X_init_131 (by decide) ?_
  refine va_aldq hx hb hK hP 11 7 rfl rfl (vp_in_iff.mpr (by decide)) qm_X_init_132 ?_
  refine W.eq (g2 := F0 m 133 ls (.ref q72 :: [.ref q43, .ref q119, .ref q119, .ref h0])) rfl ?_
  refine lv_aload_n hx hb qm_X_init_133 rfl (lv_at hl 0 rfl) ?_
  refine va_get (D := D) (ci := 6) (v := .ref q67) (C := qR_X) (T := qT_X) (N := 11) hx hb hts qi_X hown hK hP 0 rfl rfl 4 (by decide) (hts _ qk_235) (fun _ h9 => h9) rfl qm_X_init_134 ?_
  refine lv_iconst (v := 1) hx hb qm_X_init_137 (by decide) ?_
  refine va_aldq hx hb hK hP 11 7 rfl rfl (vp_in_iff.mpr (by decide)) qm_X_init_138 ?_
  refine W.eq (g2 := F0 m 139 ls (.ref q82 :: [.ref q72, .ref q43, .ref q119, .ref q119, .ref h0])) rfl ?_
  refine lv_aload_n hx hb qm_X_init_139 rfl (lv_at hl 0 rfl) ?_
  refine va_get (D := D) (ci := 6) (v := .ref q67) (C := qR_X) (T := qT_X) (N := 11) hx hb hts qi_X hown hK hP 0 rfl rfl 4 (by decide) (hts _ qk_235) (fun _ h9 => h9) rfl qm_X_init_140 ?_
  refine lv_iconst (v := 2) hx hb qm_X_init_143 (by decide) ?_
  refine va_aldq hx hb hK hP 11 7 rfl rfl (vp_in_iff.mpr (by decide)) qm_X_init_144 ?_
  refine W.eq (g2 := F0 m 145 ls (.ref q92 :: [.ref q82, .ref q72, .ref q43, .ref q119, .ref q119, .ref h0])) rfl ?_
  have hPc := hP.sub (ws' := [(q119, .inr (0, [.null, .null, .null, .null]))]) [16] rfl
  have hDc := hD.sub (ws' := [(q119, .inr (0, [.null, .null, .null, .null]))]) [16] (by decide) rfl
  have hKc := hK.sub (tys' := []) [] rfl
  have hFc := va_free (wc := [(q119, .inr (0, [.null, .null, .null, .null]))]) hD hS hA [16] rfl
  refine va_callv (va_runI (As := [.ref q43, .ref q72, .ref q82, .ref q92]) (rest := [.ref q119, .ref h0]) ⟨hx, hb, hml, hown, hts⟩ (kc_Cd l D H.size q119 q43 q72 q82 q92) (cwI 4 hts (qw_gc qk_216) rfl rfl rfl (hts _ qk_69) (hts _ qk_214) (hts _ qk_215) rfl qm_Cd_init_d ⟨by decide, by decide⟩) ⟨fun a U g mk q => by obtain ⟨q0, q1, qP, qK, qD⟩ := q; exact ⟨q0, q1, qP, va_K.moved (u := U) (U := U.calling g mk a) (Vm.Alike.refl U.vm) qK, qD⟩, fun U hU hW => ⟨rfl, by rw [hU], by rw [hU]; exact hPc, va_K.moved hW.alike hKc, hDc.weaken (fun _ _ _ _ => trivial)⟩⟩ rfl rfl hl.1 rfl (lv_room (Nat.le_of_ble_eq_true rfl)) qm_X_init_145 ⟨by decide, by decide⟩) hS (fun q _ h => hFc q h) hFc (fun u t H1 locs ht hvm hw hB hz1 hk1 hS => ?_)
  obtain ⟨hP1, hK1, hD1⟩ := hB
  rw [ht] at hP1
  have hK1 := va_K.moved hvm.symm hK1
  obtain ⟨hP, hD⟩ := va_join (wr := [(h0, .inr (6, [.ref q5, .ref q18, .ref q24, .ref q43, .ref q67, .ref q104, .null, .int 0, .int 0, .int 0, .int 0])), (q5, .inr (5, [.ref q8_9])), (q8_9, .inl (k8_9, 2048, .inl (fun _ => 0))), (q18, .inl (k18, 57, .inl (fun _ => 0))), (q24, .inr (3, [.ref q5, .ref q18, .int 0])), (q43, .inr (1, [.ref q5, .ref q24, .ref q18, .ref q7_59, .ref q15_59, .ref q22_59, .ref q29_59, .ref q36_59, .int 0, .int 0, .int 0, .int 0, .int 0, .int 0])), (q7_59, .inl (k7_59, 16, .inl (fun _ => 0))), (q15_59, .inl (k15_59, 16, .inl (fun _ => 0))), (q22_59, .inl (k22_59, 4, .inl (fun _ => 0))), (q29_59, .inl (k29_59, 4, .inl (fun _ => 0))), (q36_59, .inl (k36_59, 4, .inl (fun _ => 0))), (q67, .inl (k67, 3, .inr (.inr (.inr (.inr (va_up (va_up (va_up (fun _ => none) 0 (some q72)) 1 (some q82)) 2 (some q92))))))), (q72, .inr (2, [.int 0, .int 0, .int 0, .int 0])), (q82, .inr (2, [.int 0, .int 0, .int 0, .int 0])), (q92, .inr (2, [.int 0, .int 0, .int 0, .int 0])), (q104, .inr (4, [.ref q43]))]) (w1 := [(q119, .inr (0, [.ref q43, .ref q72, .ref q82, .ref q92]))]) hP hD [16] [0, 1, 2, 3, 4, 5, 6, 7, 8, 9, 10, 11, 12, 13, 14, 15] rfl rfl (by decide) (by decide) hk1 hFc hP1 hD1
  have hK := (hK.sub (tys' := [(k8_9, .byte), (k18, .int), (k7_59, .int), (k15_59, .int), (k22_59, .int), (k29_59, .int), (k36_59, .int), (k67, .object "QuadMode$Operand")]) [0, 1, 2, 3, 4, 5, 6, 7] rfl).app hK1
  generalize H1 = H at hP hS ⊢
  have hP : va_P D qCl [(h0, .inr (6, [.ref q5, .ref q18, .ref q24, .ref q43, .ref q67, .ref q104, .null, .int 0, .int 0, .int 0, .int 0])), (q5, .inr (5, [.ref q8_9])), (q8_9, .inl (k8_9, 2048, .inl (fun _ => 0))), (q18, .inl (k18, 57, .inl (fun _ => 0))), (q24, .inr (3, [.ref q5, .ref q18, .int 0])), (q43, .inr (1, [.ref q5, .ref q24, .ref q18, .ref q7_59, .ref q15_59, .ref q22_59, .ref q29_59, .ref q36_59, .int 0, .int 0, .int 0, .int 0, .int 0, .int 0])), (q7_59, .inl (k7_59, 16, .inl (fun _ => 0))), (q15_59, .inl (k15_59, 16, .inl (fun _ => 0))), (q22_59, .inl (k22_59, 4, .inl (fun _ => 0))), (q29_59, .inl (k29_59, 4, .inl (fun _ => 0))), (q36_59, .inl (k36_59, 4, .inl (fun _ => 0))), (q67, .inl (k67, 3, .inr (.inr (.inr (.inr (va_up (va_up (va_up (fun _ => none) 0 (some q72)) 1 (some q82)) 2 (some q92))))))), (q72, .inr (2, [.int 0, .int 0, .int 0, .int 0])), (q82, .inr (2, [.int 0, .int 0, .int 0, .int 0])), (q92, .inr (2, [.int 0, .int 0, .int 0, .int 0])), (q104, .inr (4, [.ref q43])), (q119, .inr (0, [.ref q43, .ref q72, .ref q82, .ref q92]))] H := hP
  have hD : va_D A [(h0, .inr (6, [.ref q5, .ref q18, .ref q24, .ref q43, .ref q67, .ref q104, .null, .int 0, .int 0, .int 0, .int 0])), (q5, .inr (5, [.ref q8_9])), (q8_9, .inl (k8_9, 2048, .inl (fun _ => 0))), (q18, .inl (k18, 57, .inl (fun _ => 0))), (q24, .inr (3, [.ref q5, .ref q18, .int 0])), (q43, .inr (1, [.ref q5, .ref q24, .ref q18, .ref q7_59, .ref q15_59, .ref q22_59, .ref q29_59, .ref q36_59, .int 0, .int 0, .int 0, .int 0, .int 0, .int 0])), (q7_59, .inl (k7_59, 16, .inl (fun _ => 0))), (q15_59, .inl (k15_59, 16, .inl (fun _ => 0))), (q22_59, .inl (k22_59, 4, .inl (fun _ => 0))), (q29_59, .inl (k29_59, 4, .inl (fun _ => 0))), (q36_59, .inl (k36_59, 4, .inl (fun _ => 0))), (q67, .inl (k67, 3, .inr (.inr (.inr (.inr (va_up (va_up (va_up (fun _ => none) 0 (some q72)) 1 (some q82)) 2 (some q92))))))), (q72, .inr (2, [.int 0, .int 0, .int 0, .int 0])), (q82, .inr (2, [.int 0, .int 0, .int 0, .int 0])), (q92, .inr (2, [.int 0, .int 0, .int 0, .int 0])), (q104, .inr (4, [.ref q43])), (q119, .inr (0, [.ref q43, .ref q72, .ref q82, .ref q92]))] := hD
  have hK : va_K D qCl [(k8_9, .byte), (k18, .int), (k7_59, .int), (k15_59, .int), (k22_59, .int), (k29_59, .int), (k36_59, .int), (k67, .object "QuadMode$Operand")] s := hK
  refine W.widen (k := 16) (n := 2187) (by decide) (by decide) ?_
  refine va_putF (D := D) (ci := 6) (v := .ref q119) (ty := .object "QuadMode$Codes") (C := qR_X) (T := qT_X) (N := 11) hx hb hts qi_X qY_X qy_X qn_X hown hK hP hD hS 0 rfl rfl 6 (by decide) (hts _ qk_237) (fun _ h9 => h9) rfl hin rfl (by decide +kernel) rfl rfl (Nat.le_of_ble_eq_true rfl) qm_X_init_148 (fun H locs hP hD hS => ?_)
  have hP : va_P D qCl [(h0, .inr (6, [.ref q5, .ref q18, .ref q24, .ref q43, .ref q67, .ref q104, .ref q119, .int 0, .int 0, .int 0, .int 0])), (q5, .inr (5, [.ref q8_9])), (q8_9, .inl (k8_9, 2048, .inl (fun _ => 0))), (q18, .inl (k18, 57, .inl (fun _ => 0))), (q24, .inr (3, [.ref q5, .ref q18, .int 0])), (q43, .inr (1, [.ref q5, .ref q24, .ref q18, .ref q7_59, .ref q15_59, .ref q22_59, .ref q29_59, .ref q36_59, .int 0, .int 0, .int 0, .int 0, .int 0, .int 0])), (q7_59, .inl (k7_59, 16, .inl (fun _ => 0))), (q15_59, .inl (k15_59, 16, .inl (fun _ => 0))), (q22_59, .inl (k22_59, 4, .inl (fun _ => 0))), (q29_59, .inl (k29_59, 4, .inl (fun _ => 0))), (q36_59, .inl (k36_59, 4, .inl (fun _ => 0))), (q67, .inl (k67, 3, .inr (.inr (.inr (.inr (va_up (va_up (va_up (fun _ => none) 0 (some q72)) 1 (some q82)) 2 (some q92))))))), (q72, .inr (2, [.int 0, .int 0, .int 0, .int 0])), (q82, .inr (2, [.int 0, .int 0, .int 0, .int 0])), (q92, .inr (2, [.int 0, .int 0, .int 0, .int 0])), (q104, .inr (4, [.ref q43])), (q119, .inr (0, [.ref q43, .ref q72, .ref q82, .ref q92]))] H := hP
  have hD : va_D A [(h0, .inr (6, [.ref q5, .ref q18, .ref q24, .ref q43, .ref q67, .ref q104, .ref q119, .int 0, .int 0, .int 0, .int 0])), (q5, .inr (5, [.ref q8_9])), (q8_9, .inl (k8_9, 2048, .inl (fun _ => 0))), (q18, .inl (k18, 57, .inl (fun _ => 0))), (q24, .inr (3, [.ref q5, .ref q18, .int 0])), (q43, .inr (1, [.ref q5, .ref q24, .ref q18, .ref q7_59, .ref q15_59, .ref q22_59, .ref q29_59, .ref q36_59, .int 0, .int 0, .int 0, .int 0, .int 0, .int 0])), (q7_59, .inl (k7_59, 16, .inl (fun _ => 0))), (q15_59, .inl (k15_59, 16, .inl (fun _ => 0))), (q22_59, .inl (k22_59, 4, .inl (fun _ => 0))), (q29_59, .inl (k29_59, 4, .inl (fun _ => 0))), (q36_59, .inl (k36_59, 4, .inl (fun _ => 0))), (q67, .inl (k67, 3, .inr (.inr (.inr (.inr (va_up (va_up (va_up (fun _ => none) 0 (some q72)) 1 (some q82)) 2 (some q92))))))), (q72, .inr (2, [.int 0, .int 0, .int 0, .int 0])), (q82, .inr (2, [.int 0, .int 0, .int 0, .int 0])), (q92, .inr (2, [.int 0, .int 0, .int 0, .int 0])), (q104, .inr (4, [.ref q43])), (q119, .inr (0, [.ref q43, .ref q72, .ref q82, .ref q92]))] := hD
  have hK : va_K D qCl [(k8_9, .byte), (k18, .int), (k7_59, .int), (k15_59, .int), (k22_59, .int), (k29_59, .int), (k36_59, .int), (k67, .object "QuadMode$Operand")] s := hK
  have hP9 := hP.sub (ws' := (cW (fun i => [h0, q5, q8_9, q18, q24, q43, q7_59, q15_59, q22_59, q29_59, q36_59, q67, q72, q82, q92, q104, q119].getD i 0) (fun i => [k8_9, k18, k7_59, k15_59, k22_59, k29_59, k36_59, k67].getD i k8_9) qS0)) [0, 1, 2, 3, 4, 5, 6, 7, 8, 9, 10, 11, 12, 13, 14, 15, 16] rfl
  have hD9 := hD.sub (ws' := (cW (fun i => [h0, q5, q8_9, q18, q24, q43, q7_59, q15_59, q22_59, q29_59, q36_59, q67, q72, q82, q92, q104, q119].getD i 0) (fun i => [k8_9, k18, k7_59, k15_59, k22_59, k29_59, k36_59, k67].getD i k8_9) qS0)) [0, 1, 2, 3, 4, 5, 6, 7, 8, 9, 10, 11, 12, 13, 14, 15, 16] (by decide) rfl
  have hK9 := hK.sub (tys' := (cT (fun i => [k8_9, k18, k7_59, k15_59, k22_59, k29_59, k36_59, k67].getD i k8_9))) [0, 1, 2, 3, 4, 5, 6, 7] rfl
  exact W.vret hx hb hr (fun t ht hW => ⟨⟨(), rfl, trivial, (fun i => [h0, q5, q8_9, q18, q24, q43, q7_59, q15_59, q22_59, q29_59, q36_59, q67, q72, q82, q92, q104, q119].getD i 0), (fun i => [k8_9, k18, k7_59, k15_59, k22_59, k29_59, k36_59, k67].getD i k8_9), rfl, by rw [ht]; exact hP9, va_K.moved hW.alike hK9, hD9⟩, hS.F ht⟩) hS.2.2 qm_X_init_151
set_option maxHeartbeats 4000000 in
set_option maxRecDepth 100000 in
theorem kc_M (l : Launch) (D : va_G) (sz : Nat) (h0 : Nat) : Met l qm_M_init (.code qm_M_init qm_M_init_c 1 none :: qw) ({ frames := 1, cells := 10, slots := 2158, locals := 12 }) (va_Pc [.ref h0] (fun U => U.heap.size = sz ∧ va_P D qCl [(h0, .inr (7, [.int 0, .null, .null, .null, .int 0, .int 0, .int 0, .int 0, .int 0, .null, .null, .int 0, .int 0, .int 0, .int 0, .int 0, .null, .null, .null, .int 0, .null, .null]))] U.heap ∧ va_K D qCl [] U ∧ va_D (fun _ => True) [(h0, .inr (7, [.int 0, .null, .null, .null, .int 0, .int 0, .int 0, .int 0, .int 0, .null, .null, .int 0, .int 0, .int 0, .int 0, .int 0, .null, .null, .null, .int 0, .null, .null]))])) (va_Qv (fun _ : Unit => True) (fun (_ : Unit) t => ∃ (h : Nat → Nat) (K : Nat → ClassId), h 0 = h0 ∧ va_P D qCl (mW h K qS0) t.heap ∧ va_K D qCl (mT K) t ∧ va_D (va_A [(h0, .inr (7, [.int 0, .null, .null, .null, .int 0, .int 0, .int 0, .int 0, .int 0, .null, .null, .int 0, .int 0, .int 0, .int 0, .int 0, .null, .null, .null, .int 0, .null, .null]))] sz) (mW h K qS0)) (va_A [(h0, .inr (7, [.int 0, .null, .null, .null, .int 0, .int 0, .int 0, .int 0, .int 0, .null, .null, .int 0, .int 0, .int 0, .int 0, .int 0, .null, .null, .null, .int 0, .null, .null]))] sz)) 10 2158 (va_A [(h0, .inr (7, [.int 0, .null, .null, .null, .int 0, .int 0, .int 0, .int 0, .int 0, .null, .null, .int 0, .int 0, .int 0, .int 0, .int 0, .null, .null, .null, .int 0, .null, .null]))] sz) := by
  refine Met.ofW (cc := qm_M_init_c) (maxL := 1) (ret := none) (by decide) rfl ?_
  intro p e s m args below meth c s₁ B hml hv
  obtain ⟨rfl, hsz, hP, hK, hD0⟩ := hv
  have hx := B.exec
  have hb := B.bytes
  have hr := B.returns
  have hts : ∀ w ∈ qw, w.before _ s = true := fun w h => atoms_spec (ws := .code qm_M_init qm_M_init_c 1 none :: qw) B.pre w (List.mem_cons_of_mem _ h)
  have hown : s.vm.findClass qR_M = some m.cls := findClass_of_methodNamed B.named
  have hlocks := B.notSynchronized
  have hin : meth.name = "<init>" := (name_of_methodNamed B.named B.method).1
  subst hsz
  have hD := hD0.self (sz := s.heap.size)
  generalize hAe : va_A [(h0, .inr (7, [.int 0, .null, .null, .null, .int 0, .int 0, .int 0, .int 0, .int 0, .null, .null, .int 0, .int 0, .int 0, .int 0, .int 0, .null, .null, .null, .int 0, .null, .null]))] s.heap.size = A at hD ⊢
  have hA : ∀ q : Nat, s.heap.size ≤ q → A q := fun q h => by rw [← hAe]; exact Or.inr h
  have hS : va_S A s.heap s.heap [] := va_S.rf
  have hl := lv_entry [.ref h0] (n := 1) (Nat.le_of_ble_eq_true rfl)
  rw [lg_entry_eq]
  generalize (lg_sl [.ref h0] ++ List.replicate (1 - (lg_sl [.ref h0]).length) Slot.unset).toArray = ls at hl ⊢
  have hl : lv_has ls 1 [(0, .ref h0)] := hl
  refine lv_aload_n hx hb qm_M_init_0 rfl (lv_at hl 0 rfl) ?_
  refine W.objInit hx hb hown (hts _ qk_830) (hts _ qk_90) (hts _ qk_91) rfl (by rw [hml]; exact hl.1) rfl qm_M_init_1 (Nat.le_of_ble_eq_true rfl) (Nat.le_of_ble_eq_true rfl) ?_
  refine W.eq (g2 := F0 m 4 ls []) rfl ?_
  refine lv_aload_n hx hb qm_M_init_4 rfl (lv_at hl 0 rfl) ?_
  refine lv_sipush (v := 2048) hx hb qm_M_init_5 (by decide) ?_
  refine va_newa (atype := .int) (ty := .int) (N' := 2048) (a0 := (2048, .inl (fun _ => 0))) hx hb (hts _ qk_120) rfl hK hP hD hS hA (fun _ => rfl) (by decide) (by decide) (by decide) (by decide) (by decide) qm_M_init_8 (fun q8 k8 H hK hP hD hS => ?_)
  have hP : va_P D qCl [(h0, .inr (7, [.int 0, .null, .null, .null, .int 0, .int 0, .int 0, .int 0, .int 0, .null, .null, .int 0, .int 0, .int 0, .int 0, .int 0, .null, .null, .null, .int 0, .null, .null])), (q8, .inl (k8, 2048, .inl (fun _ => 0)))] H := hP
  have hD : va_D A [(h0, .inr (7, [.int 0, .null, .null, .null, .int 0, .int 0, .int 0, .int 0, .int 0, .null, .null, .int 0, .int 0, .int 0, .int 0, .int 0, .null, .null, .null, .int 0, .null, .null])), (q8, .inl (k8, 2048, .inl (fun _ => 0)))] := hD
  have hK : va_K D qCl [(k8, .int)] s := hK
  refine W.widen (k := 1) (n := 2048) (by decide) (by decide) ?_
  refine va_putF (D := D) (ci := 7) (v := .ref q8) (ty := .array .int) (C := qR_M) (T := qT_M) (N := 22) hx hb hts qi_M qY_M qy_M qn_M hown hK hP hD hS 0 rfl rfl 1 (by decide) (hts _ qk_832) (fun _ h9 => h9) rfl hin rfl (by decide +kernel) rfl rfl (Nat.le_of_ble_eq_true rfl) qm_M_init_10 (fun H locs hP hD hS => ?_)
  have hP : va_P D qCl [(h0, .inr (7, [.int 0, .ref q8, .null, .null, .int 0, .int 0, .int 0, .int 0, .int 0, .null, .null, .int 0, .int 0, .int 0, .int 0, .int 0, .null, .null, .null, .int 0, .null, .null])), (q8, .inl (k8, 2048, .inl (fun _ => 0)))] H := hP
  have hD : va_D A [(h0, .inr (7, [.int 0, .ref q8, .null, .null, .int 0, .int 0, .int 0, .int 0, .int 0, .null, .null, .int 0, .int 0, .int 0, .int 0, .int 0, .null, .null, .null, .int 0, .null, .null])), (q8, .inl (k8, 2048, .inl (fun _ => 0)))] := hD
  have hK : va_K D qCl [(k8, .int)] s := hK
  refine lv_aload_n hx hb qm_M_init_13 rfl (lv_at hl 0 rfl) ?_
  refine lv_bipush (v := 16) hx hb qm_M_init_14 (by decide) ?_
  refine va_newa (atype := .int) (ty := .int) (N' := 16) (a0 := (16, .inl (fun _ => 0))) hx hb (hts _ qk_120) rfl hK hP hD hS hA (fun _ => rfl) (by decide) (by decide) (by decide) (by decide) (by decide) qm_M_init_16 (fun q16 k16 H hK hP hD hS => ?_)
  have hP : va_P D qCl [(h0, .inr (7, [.int 0, .ref q8, .null, .null, .int 0, .int 0, .int 0, .int 0, .int 0, .null, .null, .int 0, .int 0, .int 0, .int 0, .int 0, .null, .null, .null, .int 0, .null, .null])), (q8, .inl (k8, 2048, .inl (fun _ => 0))), (q16, .inl (k16, 16, .inl (fun _ => 0)))] H := hP
  have hD : va_D A [(h0, .inr (7, [.int 0, .ref q8, .null, .null, .int 0, .int 0, .int 0, .int 0, .int 0, .null, .null, .int 0, .int 0, .int 0, .int 0, .int 0, .null, .null, .null, .int 0, .null, .null])), (q8, .inl (k8, 2048, .inl (fun _ => 0))), (q16, .inl (k16, 16, .inl (fun _ => 0)))] := hD
  have hK : va_K D qCl [(k8, .int), (k16, .int)] s := hK
  refine W.widen (k := 2) (n := 2064) (by decide) (by decide) ?_
  refine va_putF (D := D) (ci := 7) (v := .ref q16) (ty := .array .int) (C := qR_M) (T := qT_M) (N := 22) hx hb hts qi_M qY_M qy_M qn_M hown hK hP hD hS 0 rfl rfl 2 (by decide) (hts _ qk_833) (fun _ h9 => h9) rfl hin rfl (by decide +kernel) rfl rfl (Nat.le_of_ble_eq_true rfl) qm_M_init_18 (fun H locs hP hD hS => ?_)
  have hP : va_P D qCl [(h0, .inr (7, [.int 0, .ref q8, .ref q16, .null, .int 0, .int 0, .int 0, .int 0, .int 0, .null, .null, .int 0, .int 0, .int 0, .int 0, .int 0, .null, .null, .null, .int 0, .null, .null])), (q8, .inl (k8, 2048, .inl (fun _ => 0))), (q16, .inl (k16, 16, .inl (fun _ => 0)))] H := hP
  have hD : va_D A [(h0, .inr (7, [.int 0, .ref q8, .ref q16, .null, .int 0, .int 0, .int 0, .int 0, .int 0, .null, .null, .int 0, .int 0, .int 0, .int 0, .int 0, .null, .null, .null, .int 0, .null, .null])), (q8, .inl (k8, 2048, .inl (fun _ => 0))), (q16, .inl (k16, 16, .inl (fun _ => 0)))] := hD
  have hK : va_K D qCl [(k8, .int), (k16, .int)] s := hK
  refine lv_aload_n hx hb qm_M_init_21 rfl (lv_at hl 0 rfl) ?_
  refine lv_bipush (v := 57) hx hb qm_M_init_22 (by decide) ?_
  refine va_newa (atype := .int) (ty := .int) (N' := 57) (a0 := (57, .inl (fun _ => 0))) hx hb (hts _ qk_120) rfl hK hP hD hS hA (fun _ => rfl) (by decide) (by decide) (by decide) (by decide) (by decide) qm_M_init_24 (fun q24 k24 H hK hP hD hS => ?_)
  have hP : va_P D qCl [(h0, .inr (7, [.int 0, .ref q8, .ref q16, .null, .int 0, .int 0, .int 0, .int 0, .int 0, .null, .null, .int 0, .int 0, .int 0, .int 0, .int 0, .null, .null, .null, .int 0, .null, .null])), (q8, .inl (k8, 2048, .inl (fun _ => 0))), (q16, .inl (k16, 16, .inl (fun _ => 0))), (q24, .inl (k24, 57, .inl (fun _ => 0)))] H := hP
  have hD : va_D A [(h0, .inr (7, [.int 0, .ref q8, .ref q16, .null, .int 0, .int 0, .int 0, .int 0, .int 0, .null, .null, .int 0, .int 0, .int 0, .int 0, .int 0, .null, .null, .null, .int 0, .null, .null])), (q8, .inl (k8, 2048, .inl (fun _ => 0))), (q16, .inl (k16, 16, .inl (fun _ => 0))), (q24, .inl (k24, 57, .inl (fun _ => 0)))] := hD
  have hK : va_K D qCl [(k8, .int), (k16, .int), (k24, .int)] s := hK
  refine W.widen (k := 3) (n := 2121) (by decide) (by decide) ?_
  refine va_putF (D := D) (ci := 7) (v := .ref q24) (ty := .array .int) (C := qR_M) (T := qT_M) (N := 22) hx hb hts qi_M qY_M qy_M qn_M hown hK hP hD hS 0 rfl rfl 3 (by decide) (hts _ qk_834) (fun _ h9 => h9) rfl hin rfl (by decide +kernel) rfl rfl (Nat.le_of_ble_eq_true rfl) qm_M_init_26 (fun H locs hP hD hS => ?_)
  have hP : va_P D qCl [(h0, .inr (7, [.int 0, .ref q8, .ref q16, .ref q24, .int 0, .int 0, .int 0, .int 0, .int 0, .null, .null, .int 0, .int 0, .int 0, .int 0, .int 0, .null, .null, .null, .int 0, .null, .null])), (q8, .inl (k8, 2048, .inl (fun _ => 0))), (q16, .inl (k16, 16, .inl (fun _ => 0))), (q24, .inl (k24, 57, .inl (fun _ => 0)))] H := hP
  have hD : va_D A [(h0, .inr (7, [.int 0, .ref q8, .ref q16, .ref q24, .int 0, .int 0, .int 0, .int 0, .int 0, .null, .null, .int 0, .int 0, .int 0, .int 0, .int 0, .null, .null, .null, .int 0, .null, .null])), (q8, .inl (k8, 2048, .inl (fun _ => 0))), (q16, .inl (k16, 16, .inl (fun _ => 0))), (q24, .inl (k24, 57, .inl (fun _ => 0)))] := hD
  have hK : va_K D qCl [(k8, .int), (k16, .int), (k24, .int)] s := hK
  refine lv_aload_n hx hb qm_M_init_29 rfl (lv_at hl 0 rfl) ?_
  refine lv_bipush (v := 16) hx hb qm_M_init_30 (by decide) ?_
  refine va_newa (atype := .int) (ty := .int) (N' := 16) (a0 := (16, .inl (fun _ => 0))) hx hb (hts _ qk_120) rfl hK hP hD hS hA (fun _ => rfl) (by decide) (by decide) (by decide) (by decide) (by decide) qm_M_init_32 (fun q32 k32 H hK hP hD hS => ?_)
  have hP : va_P D qCl [(h0, .inr (7, [.int 0, .ref q8, .ref q16, .ref q24, .int 0, .int 0, .int 0, .int 0, .int 0, .null, .null, .int 0, .int 0, .int 0, .int 0, .int 0, .null, .null, .null, .int 0, .null, .null])), (q8, .inl (k8, 2048, .inl (fun _ => 0))), (q16, .inl (k16, 16, .inl (fun _ => 0))), (q24, .inl (k24, 57, .inl (fun _ => 0))), (q32, .inl (k32, 16, .inl (fun _ => 0)))] H := hP
  have hD : va_D A [(h0, .inr (7, [.int 0, .ref q8, .ref q16, .ref q24, .int 0, .int 0, .int 0, .int 0, .int 0, .null, .null, .int 0, .int 0, .int 0, .int 0, .int 0, .null, .null, .null, .int 0, .null, .null])), (q8, .inl (k8, 2048, .inl (fun _ => 0))), (q16, .inl (k16, 16, .inl (fun _ => 0))), (q24, .inl (k24, 57, .inl (fun _ => 0))), (q32, .inl (k32, 16, .inl (fun _ => 0)))] := hD
  have hK : va_K D qCl [(k8, .int), (k16, .int), (k24, .int), (k32, .int)] s := hK
  refine W.widen (k := 4) (n := 2137) (by decide) (by decide) ?_
  refine va_putF (D := D) (ci := 7) (v := .ref q32) (ty := .array .int) (C := qR_M) (T := qT_M) (N := 22) hx hb hts qi_M qY_M qy_M qn_M hown hK hP hD hS 0 rfl rfl 9 (by decide) (hts _ qk_840) (fun _ h9 => h9) rfl hin rfl (by decide +kernel) rfl rfl (Nat.le_of_ble_eq_true rfl) qm_M_init_34 (fun H locs hP hD hS => ?_)
  have hP : va_P D qCl [(h0, .inr (7, [.int 0, .ref q8, .ref q16, .ref q24, .int 0, .int 0, .int 0, .int 0, .int 0, .ref q32, .null, .int 0, .int 0, .int 0, .int 0, .int 0, .null, .null, .null, .int 0, .null, .null])), (q8, .inl (k8, 2048, .inl (fun _ => 0))), (q16, .inl (k16, 16, .inl (fun _ => 0))), (q24, .inl (k24, 57, .inl (fun _ => 0))), (q32, .inl (k32, 16, .inl (fun _ => 0)))] H := hP
  have hD : va_D A [(h0, .inr (7, [.int 0, .ref q8, .ref q16, .ref q24, .int 0, .int 0, .int 0, .int 0, .int 0, .ref q32, .null, .int 0, .int 0, .int 0, .int 0, .int 0, .null, .null, .null, .int 0, .null, .null])), (q8, .inl (k8, 2048, .inl (fun _ => 0))), (q16, .inl (k16, 16, .inl (fun _ => 0))), (q24, .inl (k24, 57, .inl (fun _ => 0))), (q32, .inl (k32, 16, .inl (fun _ => 0)))] := hD
  have hK : va_K D qCl [(k8, .int), (k16, .int), (k24, .int), (k32, .int)] s := hK
  refine lv_aload_n hx hb qm_M_init_37 rfl (lv_at hl 0 rfl) ?_
  refine lv_iconst (v := 4) hx hb qm_M_init_38 (by decide) ?_
  refine va_newa (atype := .int) (ty := .int) (N' := 4) (a0 := (4, .inl (fun _ => 0))) hx hb (hts _ qk_120) rfl hK hP hD hS hA (fun _ => rfl) (by decide) (by decide) (by decide) (by decide) (by decide) qm_M_init_39 (fun q39 k39 H hK hP hD hS => ?_)
  have hP : va_P D qCl [(h0, .inr (7, [.int 0, .ref q8, .ref q16, .ref q24, .int 0, .int 0, .int 0, .int 0, .int 0, .ref q32, .null, .int 0, .int 0, .int 0, .int 0, .int 0, .null, .null, .null, .int 0, .null, .null])), (q8, .inl (k8, 2048, .inl (fun _ => 0))), (q16, .inl (k16, 16, .inl (fun _ => 0))), (q24, .inl (k24, 57, .inl (fun _ => 0))), (q32, .inl (k32, 16, .inl (fun _ => 0))), (q39, .inl (k39, 4, .inl (fun _ => 0)))] H := hP
  have hD : va_D A [(h0, .inr (7, [.int 0, .ref q8, .ref q16, .ref q24, .int 0, .int 0, .int 0, .int 0, .int 0, .ref q32, .null, .int 0, .int 0, .int 0, .int 0, .int 0, .null, .null, .null, .int 0, .null, .null])), (q8, .inl (k8, 2048, .inl (fun _ => 0))), (q16, .inl (k16, 16, .inl (fun _ => 0))), (q24, .inl (k24, 57, .inl (fun _ => 0))), (q32, .inl (k32, 16, .inl (fun _ => 0))), (q39, .inl (k39, 4, .inl (fun _ => 0)))] := hD
  have hK : va_K D qCl [(k8, .int), (k16, .int), (k24, .int), (k32, .int), (k39, .int)] s := hK
  refine W.widen (k := 5) (n := 2141) (by decide) (by decide) ?_
  refine va_putF (D := D) (ci := 7) (v := .ref q39) (ty := .array .int) (C := qR_M) (T := qT_M) (N := 22) hx hb hts qi_M qY_M qy_M qn_M hown hK hP hD hS 0 rfl rfl 10 (by decide) (hts _ qk_841) (fun _ h9 => h9) rfl hin rfl (by decide +kernel) rfl rfl (Nat.le_of_ble_eq_true rfl) qm_M_init_41 (fun H locs hP hD hS => ?_)
  have hP : va_P D qCl [(h0, .inr (7, [.int 0, .ref q8, .ref q16, .ref q24, .int 0, .int 0, .int 0, .int 0, .int 0, .ref q32, .ref q39, .int 0, .int 0, .int 0, .int 0, .int 0, .null, .null, .null, .int 0, .null, .null])), (q8, .inl (k8, 2048, .inl (fun _ => 0))), (q16, .inl (k16, 16, .inl (fun _ => 0))), (q24, .inl (k24, 57, .inl (fun _ => 0))), (q32, .inl (k32, 16, .inl (fun _ => 0))), (q39, .inl (k39, 4, .inl (fun _ => 0)))] H := hP
  have hD : va_D A [(h0, .inr (7, [.int 0, .ref q8, .ref q16, .ref q24, .int 0, .int 0, .int 0, .int 0, .int 0, .ref q32, .ref q39, .int 0, .int 0, .int 0, .int 0, .int 0, .null, .null, .null, .int 0, .null, .null])), (q8, .inl (k8, 2048, .inl (fun _ => 0))), (q16, .inl (k16, 16, .inl (fun _ => 0))), (q24, .inl (k24, 57, .inl (fun _ => 0))), (q32, .inl (k32, 16, .inl (fun _ => 0))), (q39, .inl (k39, 4, .inl (fun _ => 0)))] := hD
  have hK : va_K D qCl [(k8, .int), (k16, .int), (k24, .int), (k32, .int), (k39, .int)] s := hK
  refine lv_aload_n hx hb qm_M_init_44 rfl (lv_at hl 0 rfl) ?_
  refine lv_iconst (v := 3) hx hb qm_M_init_45 (by decide) ?_
  refine va_newa (atype := .int) (ty := .int) (N' := 3) (a0 := (3, .inl (fun _ => 0))) hx hb (hts _ qk_120) rfl hK hP hD hS hA (fun _ => rfl) (by decide) (by decide) (by decide) (by decide) (by decide) qm_M_init_46 (fun q46 k46 H hK hP hD hS => ?_)
  have hP : va_P D qCl [(h0, .inr (7, [.int 0, .ref q8, .ref q16, .ref q24, .int 0, .int 0, .int 0, .int 0, .int 0, .ref q32, .ref q39, .int 0, .int 0, .int 0, .int 0, .int 0, .null, .null, .null, .int 0, .null, .null])), (q8, .inl (k8, 2048, .inl (fun _ => 0))), (q16, .inl (k16, 16, .inl (fun _ => 0))), (q24, .inl (k24, 57, .inl (fun _ => 0))), (q32, .inl (k32, 16, .inl (fun _ => 0))), (q39, .inl (k39, 4, .inl (fun _ => 0))), (q46, .inl (k46, 3, .inl (fun _ => 0)))] H := hP
  have hD : va_D A [(h0, .inr (7, [.int 0, .ref q8, .ref q16, .ref q24, .int 0, .int 0, .int 0, .int 0, .int 0, .ref q32, .ref q39, .int 0, .int 0, .int 0, .int 0, .int 0, .null, .null, .null, .int 0, .null, .null])), (q8, .inl (k8, 2048, .inl (fun _ => 0))), (q16, .inl (k16, 16, .inl (fun _ => 0))), (q24, .inl (k24, 57, .inl (fun _ => 0))), (q32, .inl (k32, 16, .inl (fun _ => 0))), (q39, .inl (k39, 4, .inl (fun _ => 0))), (q46, .inl (k46, 3, .inl (fun _ => 0)))] := hD
  have hK : va_K D qCl [(k8, .int), (k16, .int), (k24, .int), (k32, .int), (k39, .int), (k46, .int)] s := hK
  refine W.widen (k := 6) (n := 2144) (by decide) (by decide) ?_
  refine va_putF (D := D) (ci := 7) (v := .ref q46) (ty := .array .int) (C := qR_M) (T := qT_M) (N := 22) hx hb hts qi_M qY_M qy_M qn_M hown hK hP hD hS 0 rfl rfl 16 (by decide) (hts _ qk_847) (fun _ h9 => h9) rfl hin rfl (by decide +kernel) rfl rfl (Nat.le_of_ble_eq_true rfl) qm_M_init_48 (fun H locs hP hD hS => ?_)
  have hP : va_P D qCl [(h0, .inr (7, [.int 0, .ref q8, .ref q16, .ref q24, .int 0, .int 0, .int 0, .int 0, .int 0, .ref q32, .ref q39, .int 0, .int 0, .int 0, .int 0, .int 0, .ref q46, .null, .null, .int 0, .null, .null])), (q8, .inl (k8, 2048, .inl (fun _ => 0))), (q16, .inl (k16, 16, .inl (fun _ => 0))), (q24, .inl (k24, 57, .inl (fun _ => 0))), (q32, .inl (k32, 16, .inl (fun _ => 0))), (q39, .inl (k39, 4, .inl (fun _ => 0))), (q46, .inl (k46, 3, .inl (fun _ => 0)))] H := hP
  have hD : va_D A [(h0, .inr (7, [.int 0, .ref q8, .ref q16, .ref q24, .int 0, .int 0, .int 0, .int 0, .int 0, .ref q32, .ref q39, .int 0, .int 0, .int 0, .int 0, .int 0, .ref q46, .null, .null, .int 0, .null, .null])), (q8, .inl (k8, 2048, .inl (fun _ => 0))), (q16, .inl (k16, 16, .inl (fun _ => 0))), (q24, .inl (k24, 57, .inl (fun _ => 0))), (q32, .inl (k32, 16, .inl (fun _ => 0))), (q39, .inl (k39, 4, .inl (fun _ => 0))), (q46, .inl (k46, 3, .inl (fun _ => 0)))] := hD
  have hK : va_K D qCl [(k8, .int), (k16, .int), (k24, .int), (k32, .int), (k39, .int), (k46, .int)] s := hK
  refine lv_aload_n hx hb qm_M_init_51 rfl (lv_at hl 0 rfl) ?_
  refine lv_iconst (v := 3) hx hb qm_M_init_52 (by decide) ?_
  refine va_newa (atype := .int) (ty := .int) (N' := 3) (a0 := (3, .inl (fun _ => 0))) hx hb (hts _ qk_120) rfl hK hP hD hS hA (fun _ => rfl) (by decide) (by decide) (by decide) (by decide) (by decide) qm_M_init_53 (fun q53 k53 H hK hP hD hS => ?_)
  have hP : va_P D qCl [(h0, .inr (7, [.int 0, .ref q8, .ref q16, .ref q24, .int 0, .int 0, .int 0, .int 0, .int 0, .ref q32, .ref q39, .int 0, .int 0, .int 0, .int 0, .int 0, .ref q46, .null, .null, .int 0, .null, .null])), (q8, .inl (k8, 2048, .inl (fun _ => 0))), (q16, .inl (k16, 16, .inl (fun _ => 0))), (q24, .inl (k24, 57, .inl (fun _ => 0))), (q32, .inl (k32, 16, .inl (fun _ => 0))), (q39, .inl (k39, 4, .inl (fun _ => 0))), (q46, .inl (k46, 3, .inl (fun _ => 0))), (q53, .inl (k53, 3, .inl (fun _ => 0)))] H := hP
  have hD : va_D A [(h0, .inr (7, [.int 0, .ref q8, .ref q16, .ref q24, .int 0, .int 0, .int 0, .int 0, .int 0, .ref q32, .ref q39, .int 0, .int 0, .int 0, .int 0, .int 0, .ref q46, .null, .null, .int 0, .null, .null])), (q8, .inl (k8, 2048, .inl (fun _ => 0))), (q16, .inl (k16, 16, .inl (fun _ => 0))), (q24, .inl (k24, 57, .inl (fun _ => 0))), (q32, .inl (k32, 16, .inl (fun _ => 0))), (q39, .inl (k39, 4, .inl (fun _ => 0))), (q46, .inl (k46, 3, .inl (fun _ => 0))), (q53, .inl (k53, 3, .inl (fun _ => 0)))] := hD
  have hK : va_K D qCl [(k8, .int), (k16, .int), (k24, .int), (k32, .int), (k39, .int), (k46, .int), (k53, .int)] s := hK
  refine W.widen (k := 7) (n := 2147) (by decide) (by decide) ?_
  refine va_putF (D := D) (ci := 7) (v := .ref q53) (ty := .array .int) (C := qR_M) (T := qT_M) (N := 22) hx hb hts qi_M qY_M qy_M qn_M hown hK hP hD hS 0 rfl rfl 17 (by decide) (hts _ qk_848) (fun _ h9 => h9) rfl hin rfl (by decide +kernel) rfl rfl (Nat.le_of_ble_eq_true rfl) qm_M_init_55 (fun H locs hP hD hS => ?_)
  have hP : va_P D qCl [(h0, .inr (7, [.int 0, .ref q8, .ref q16, .ref q24, .int 0, .int 0, .int 0, .int 0, .int 0, .ref q32, .ref q39, .int 0, .int 0, .int 0, .int 0, .int 0, .ref q46, .ref q53, .null, .int 0, .null, .null])), (q8, .inl (k8, 2048, .inl (fun _ => 0))), (q16, .inl (k16, 16, .inl (fun _ => 0))), (q24, .inl (k24, 57, .inl (fun _ => 0))), (q32, .inl (k32, 16, .inl (fun _ => 0))), (q39, .inl (k39, 4, .inl (fun _ => 0))), (q46, .inl (k46, 3, .inl (fun _ => 0))), (q53, .inl (k53, 3, .inl (fun _ => 0)))] H := hP
  have hD : va_D A [(h0, .inr (7, [.int 0, .ref q8, .ref q16, .ref q24, .int 0, .int 0, .int 0, .int 0, .int 0, .ref q32, .ref q39, .int 0, .int 0, .int 0, .int 0, .int 0, .ref q46, .ref q53, .null, .int 0, .null, .null])), (q8, .inl (k8, 2048, .inl (fun _ => 0))), (q16, .inl (k16, 16, .inl (fun _ => 0))), (q24, .inl (k24, 57, .inl (fun _ => 0))), (q32, .inl (k32, 16, .inl (fun _ => 0))), (q39, .inl (k39, 4, .inl (fun _ => 0))), (q46, .inl (k46, 3, .inl (fun _ => 0))), (q53, .inl (k53, 3, .inl (fun _ => 0)))] := hD
  have hK : va_K D qCl [(k8, .int), (k16, .int), (k24, .int), (k32, .int), (k39, .int), (k46, .int), (k53, .int)] s := hK
  refine lv_aload_n hx hb qm_M_init_58 rfl (lv_at hl 0 rfl) ?_
  refine lv_iconst (v := 3) hx hb qm_M_init_59 (by decide) ?_
  refine va_newa (atype := .int) (ty := .int) (N' := 3) (a0 := (3, .inl (fun _ => 0))) hx hb (hts _ qk_120) rfl hK hP hD hS hA (fun _ => rfl) (by decide) (by decide) (by decide) (by decide) (by decide) qm_M_init_60 (fun q60 k60 H hK hP hD hS => ?_)
  have hP : va_P D qCl [(h0, .inr (7, [.int 0, .ref q8, .ref q16, .ref q24, .int 0, .int 0, .int 0, .int 0, .int 0, .ref q32, .ref q39, .int 0, .int 0, .int 0, .int 0, .int 0, .ref q46, .ref q53, .null, .int 0, .null, .null])), (q8, .inl (k8, 2048, .inl (fun _ => 0))), (q16, .inl (k16, 16, .inl (fun _ => 0))), (q24, .inl (k24, 57, .inl (fun _ => 0))), (q32, .inl (k32, 16, .inl (fun _ => 0))), (q39, .inl (k39, 4, .inl (fun _ => 0))), (q46, .inl (k46, 3, .inl (fun _ => 0))), (q53, .inl (k53, 3, .inl (fun _ => 0))), (q60, .inl (k60, 3, .inl (fun _ => 0)))] H := hP
  have hD : va_D A [(h0, .inr (7, [.int 0, .ref q8, .ref q16, .ref q24, .int 0, .int 0, .int 0, .int 0, .int 0, .ref q32, .ref q39, .int 0, .int 0, .int 0, .int 0, .int 0, .ref q46, .ref q53, .null, .int 0, .null, .null])), (q8, .inl (k8, 2048, .inl (fun _ => 0))), (q16, .inl (k16, 16, .inl (fun _ => 0))), (q24, .inl (k24, 57, .inl (fun _ => 0))), (q32, .inl (k32, 16, .inl (fun _ => 0))), (q39, .inl (k39, 4, .inl (fun _ => 0))), (q46, .inl (k46, 3, .inl (fun _ => 0))), (q53, .inl (k53, 3, .inl (fun _ => 0))), (q60, .inl (k60, 3, .inl (fun _ => 0)))] := hD
  have hK : va_K D qCl [(k8, .int), (k16, .int), (k24, .int), (k32, .int), (k39, .int), (k46, .int), (k53, .int), (k60, .int)] s := hK
  refine W.widen (k := 8) (n := 2150) (by decide) (by decide) ?_
  refine va_putF (D := D) (ci := 7) (v := .ref q60) (ty := .array .int) (C := qR_M) (T := qT_M) (N := 22) hx hb hts qi_M qY_M qy_M qn_M hown hK hP hD hS 0 rfl rfl 18 (by decide) (hts _ qk_849) (fun _ h9 => h9) rfl hin rfl (by decide +kernel) rfl rfl (Nat.le_of_ble_eq_true rfl) qm_M_init_62 (fun H locs hP hD hS => ?_)
  have hP : va_P D qCl [(h0, .inr (7, [.int 0, .ref q8, .ref q16, .ref q24, .int 0, .int 0, .int 0, .int 0, .int 0, .ref q32, .ref q39, .int 0, .int 0, .int 0, .int 0, .int 0, .ref q46, .ref q53, .ref q60, .int 0, .null, .null])), (q8, .inl (k8, 2048, .inl (fun _ => 0))), (q16, .inl (k16, 16, .inl (fun _ => 0))), (q24, .inl (k24, 57, .inl (fun _ => 0))), (q32, .inl (k32, 16, .inl (fun _ => 0))), (q39, .inl (k39, 4, .inl (fun _ => 0))), (q46, .inl (k46, 3, .inl (fun _ => 0))), (q53, .inl (k53, 3, .inl (fun _ => 0))), (q60, .inl (k60, 3, .inl (fun _ => 0)))] H := hP
  have hD : va_D A [(h0, .inr (7, [.int 0, .ref q8, .ref q16, .ref q24, .int 0, .int 0, .int 0, .int 0, .int 0, .ref q32, .ref q39, .int 0, .int 0, .int 0, .int 0, .int 0, .ref q46, .ref q53, .ref q60, .int 0, .null, .null])), (q8, .inl (k8, 2048, .inl (fun _ => 0))), (q16, .inl (k16, 16, .inl (fun _ => 0))), (q24, .inl (k24, 57, .inl (fun _ => 0))), (q32, .inl (k32, 16, .inl (fun _ => 0))), (q39, .inl (k39, 4, .inl (fun _ => 0))), (q46, .inl (k46, 3, .inl (fun _ => 0))), (q53, .inl (k53, 3, .inl (fun _ => 0))), (q60, .inl (k60, 3, .inl (fun _ => 0)))] := hD
  have hK : va_K D qCl [(k8, .int), (k16, .int), (k24, .int), (k32, .int), (k39, .int), (k46, .int), (k53, .int), (k60, .int)] s := hK
  refine lv_aload_n hx hb qm_M_init_65 rfl (lv_at hl 0 rfl) ?_
  refine lv_iconst (v := 4) hx hb qm_M_init_66 (by decide) ?_
  refine va_newa (atype := .int) (ty := .int) (N' := 4) (a0 := (4, .inl (fun _ => 0))) hx hb (hts _ qk_120) rfl hK hP hD hS hA (fun _ => rfl) (by decide) (by decide) (by decide) (by decide) (by decide) qm_M_init_67 (fun q67 k67 H hK hP hD hS => ?_)
  have hP : va_P D qCl [(h0, .inr (7, [.int 0, .ref q8, .ref q16, .ref q24, .int 0, .int 0, .int 0, .int 0, .int 0, .ref q32, .ref q39, .int 0, .int 0, .int 0, .int 0, .int 0, .ref q46, .ref q53, .ref q60, .int 0, .null, .null])), (q8, .inl (k8, 2048, .inl (fun _ => 0))), (q16, .inl (k16, 16, .inl (fun _ => 0))), (q24, .inl (k24, 57, .inl (fun _ => 0))), (q32, .inl (k32, 16, .inl (fun _ => 0))), (q39, .inl (k39, 4, .inl (fun _ => 0))), (q46, .inl (k46, 3, .inl (fun _ => 0))), (q53, .inl (k53, 3, .inl (fun _ => 0))), (q60, .inl (k60, 3, .inl (fun _ => 0))), (q67, .inl (k67, 4, .inl (fun _ => 0)))] H := hP
  have hD : va_D A [(h0, .inr (7, [.int 0, .ref q8, .ref q16, .ref q24, .int 0, .int 0, .int 0, .int 0, .int 0, .ref q32, .ref q39, .int 0, .int 0, .int 0, .int 0, .int 0, .ref q46, .ref q53, .ref q60, .int 0, .null, .null])), (q8, .inl (k8, 2048, .inl (fun _ => 0))), (q16, .inl (k16, 16, .inl (fun _ => 0))), (q24, .inl (k24, 57, .inl (fun _ => 0))), (q32, .inl (k32, 16, .inl (fun _ => 0))), (q39, .inl (k39, 4, .inl (fun _ => 0))), (q46, .inl (k46, 3, .inl (fun _ => 0))), (q53, .inl (k53, 3, .inl (fun _ => 0))), (q60, .inl (k60, 3, .inl (fun _ => 0))), (q67, .inl (k67, 4, .inl (fun _ => 0)))] := hD
  have hK : va_K D qCl [(k8, .int), (k16, .int), (k24, .int), (k32, .int), (k39, .int), (k46, .int), (k53, .int), (k60, .int), (k67, .int)] s := hK
  refine W.widen (k := 9) (n := 2154) (by decide) (by decide) ?_
  refine va_putF (D := D) (ci := 7) (v := .ref q67) (ty := .array .int) (C := qR_M) (T := qT_M) (N := 22) hx hb hts qi_M qY_M qy_M qn_M hown hK hP hD hS 0 rfl rfl 20 (by decide) (hts _ qk_851) (fun _ h9 => h9) rfl hin rfl (by decide +kernel) rfl rfl (Nat.le_of_ble_eq_true rfl) qm_M_init_69 (fun H locs hP hD hS => ?_)
  have hP : va_P D qCl [(h0, .inr (7, [.int 0, .ref q8, .ref q16, .ref q24, .int 0, .int 0, .int 0, .int 0, .int 0, .ref q32, .ref q39, .int 0, .int 0, .int 0, .int 0, .int 0, .ref q46, .ref q53, .ref q60, .int 0, .ref q67, .null])), (q8, .inl (k8, 2048, .inl (fun _ => 0))), (q16, .inl (k16, 16, .inl (fun _ => 0))), (q24, .inl (k24, 57, .inl (fun _ => 0))), (q32, .inl (k32, 16, .inl (fun _ => 0))), (q39, .inl (k39, 4, .inl (fun _ => 0))), (q46, .inl (k46, 3, .inl (fun _ => 0))), (q53, .inl (k53, 3, .inl (fun _ => 0))), (q60, .inl (k60, 3, .inl (fun _ => 0))), (q67, .inl (k67, 4, .inl (fun _ => 0)))] H := hP
  have hD : va_D A [(h0, .inr (7, [.int 0, .ref q8, .ref q16, .ref q24, .int 0, .int 0, .int 0, .int 0, .int 0, .ref q32, .ref q39, .int 0, .int 0, .int 0, .int 0, .int 0, .ref q46, .ref q53, .ref q60, .int 0, .ref q67, .null])), (q8, .inl (k8, 2048, .inl (fun _ => 0))), (q16, .inl (k16, 16, .inl (fun _ => 0))), (q24, .inl (k24, 57, .inl (fun _ => 0))), (q32, .inl (k32, 16, .inl (fun _ => 0))), (q39, .inl (k39, 4, .inl (fun _ => 0))), (q46, .inl (k46, 3, .inl (fun _ => 0))), (q53, .inl (k53, 3, .inl (fun _ => 0))), (q60, .inl (k60, 3, .inl (fun _ => 0))), (q67, .inl (k67, 4, .inl (fun _ => 0)))] := hD
  have hK : va_K D qCl [(k8, .int), (k16, .int), (k24, .int), (k32, .int), (k39, .int), (k46, .int), (k53, .int), (k60, .int), (k67, .int)] s := hK
  refine lv_aload_n hx hb qm_M_init_72 rfl (lv_at hl 0 rfl) ?_
  refine lv_iconst (v := 4) hx hb qm_M_init_73 (by decide) ?_
  refine va_newa (atype := .int) (ty := .int) (N' := 4) (a0 := (4, .inl (fun _ => 0))) hx hb (hts _ qk_120) rfl hK hP hD hS hA (fun _ => rfl) (by decide) (by decide) (by decide) (by decide) (by decide) qm_M_init_74 (fun q74 k74 H hK hP hD hS => ?_)
  have hP : va_P D qCl [(h0, .inr (7, [.int 0, .ref q8, .ref q16, .ref q24, .int 0, .int 0, .int 0, .int 0, .int 0, .ref q32, .ref q39, .int 0, .int 0, .int 0, .int 0, .int 0, .ref q46, .ref q53, .ref q60, .int 0, .ref q67, .null])), (q8, .inl (k8, 2048, .inl (fun _ => 0))), (q16, .inl (k16, 16, .inl (fun _ => 0))), (q24, .inl (k24, 57, .inl (fun _ => 0))), (q32, .inl (k32, 16, .inl (fun _ => 0))), (q39, .inl (k39, 4, .inl (fun _ => 0))), (q46, .inl (k46, 3, .inl (fun _ => 0))), (q53, .inl (k53, 3, .inl (fun _ => 0))), (q60, .inl (k60, 3, .inl (fun _ => 0))), (q67, .inl (k67, 4, .inl (fun _ => 0))), (q74, .inl (k74, 4, .inl (fun _ => 0)))] H := hP
  have hD : va_D A [(h0, .inr (7, [.int 0, .ref q8, .ref q16, .ref q24, .int 0, .int 0, .int 0, .int 0, .int 0, .ref q32, .ref q39, .int 0, .int 0, .int 0, .int 0, .int 0, .ref q46, .ref q53, .ref q60, .int 0, .ref q67, .null])), (q8, .inl (k8, 2048, .inl (fun _ => 0))), (q16, .inl (k16, 16, .inl (fun _ => 0))), (q24, .inl (k24, 57, .inl (fun _ => 0))), (q32, .inl (k32, 16, .inl (fun _ => 0))), (q39, .inl (k39, 4, .inl (fun _ => 0))), (q46, .inl (k46, 3, .inl (fun _ => 0))), (q53, .inl (k53, 3, .inl (fun _ => 0))), (q60, .inl (k60, 3, .inl (fun _ => 0))), (q67, .inl (k67, 4, .inl (fun _ => 0))), (q74, .inl (k74, 4, .inl (fun _ => 0)))] := hD
  have hK : va_K D qCl [(k8, .int), (k16, .int), (k24, .int), (k32, .int), (k39, .int), (k46, .int), (k53, .int), (k60, .int), (k67, .int), (k74, .int)] s := hK
  refine W.widen (k := 10) (n := 2158) (by decide) (by decide) ?_
  refine va_putF (D := D) (ci := 7) (v := .ref q74) (ty := .array .int) (C := qR_M) (T := qT_M) (N := 22) hx hb hts qi_M qY_M qy_M qn_M hown hK hP hD hS 0 rfl rfl 21 (by decide) (hts _ qk_852) (fun _ h9 => h9) rfl hin rfl (by decide +kernel) rfl rfl (Nat.le_of_ble_eq_true rfl) qm_M_init_76 (fun H locs hP hD hS => ?_)
  have hP : va_P D qCl [(h0, .inr (7, [.int 0, .ref q8, .ref q16, .ref q24, .int 0, .int 0, .int 0, .int 0, .int 0, .ref q32, .ref q39, .int 0, .int 0, .int 0, .int 0, .int 0, .ref q46, .ref q53, .ref q60, .int 0, .ref q67, .ref q74])), (q8, .inl (k8, 2048, .inl (fun _ => 0))), (q16, .inl (k16, 16, .inl (fun _ => 0))), (q24, .inl (k24, 57, .inl (fun _ => 0))), (q32, .inl (k32, 16, .inl (fun _ => 0))), (q39, .inl (k39, 4, .inl (fun _ => 0))), (q46, .inl (k46, 3, .inl (fun _ => 0))), (q53, .inl (k53, 3, .inl (fun _ => 0))), (q60, .inl (k60, 3, .inl (fun _ => 0))), (q67, .inl (k67, 4, .inl (fun _ => 0))), (q74, .inl (k74, 4, .inl (fun _ => 0)))] H := hP
  have hD : va_D A [(h0, .inr (7, [.int 0, .ref q8, .ref q16, .ref q24, .int 0, .int 0, .int 0, .int 0, .int 0, .ref q32, .ref q39, .int 0, .int 0, .int 0, .int 0, .int 0, .ref q46, .ref q53, .ref q60, .int 0, .ref q67, .ref q74])), (q8, .inl (k8, 2048, .inl (fun _ => 0))), (q16, .inl (k16, 16, .inl (fun _ => 0))), (q24, .inl (k24, 57, .inl (fun _ => 0))), (q32, .inl (k32, 16, .inl (fun _ => 0))), (q39, .inl (k39, 4, .inl (fun _ => 0))), (q46, .inl (k46, 3, .inl (fun _ => 0))), (q53, .inl (k53, 3, .inl (fun _ => 0))), (q60, .inl (k60, 3, .inl (fun _ => 0))), (q67, .inl (k67, 4, .inl (fun _ => 0))), (q74, .inl (k74, 4, .inl (fun _ => 0)))] := hD
  have hK : va_K D qCl [(k8, .int), (k16, .int), (k24, .int), (k32, .int), (k39, .int), (k46, .int), (k53, .int), (k60, .int), (k67, .int), (k74, .int)] s := hK
  have hP9 := hP.sub (ws' := (mW (fun i => [h0, q8, q16, q24, q32, q39, q46, q53, q60, q67, q74].getD i 0) (fun i => [k8, k16, k24, k32, k39, k46, k53, k60, k67, k74].getD i k8) qS0)) [0, 1, 2, 3, 4, 5, 6, 7, 8, 9, 10] rfl
  have hD9 := hD.sub (ws' := (mW (fun i => [h0, q8, q16, q24, q32, q39, q46, q53, q60, q67, q74].getD i 0) (fun i => [k8, k16, k24, k32, k39, k46, k53, k60, k67, k74].getD i k8) qS0)) [0, 1, 2, 3, 4, 5, 6, 7, 8, 9, 10] (by decide) rfl
  have hK9 := hK.sub (tys' := (mT (fun i => [k8, k16, k24, k32, k39, k46, k53, k60, k67, k74].getD i k8))) [0, 1, 2, 3, 4, 5, 6, 7, 8, 9] rfl
  exact W.vret hx hb hr (fun t ht hW => ⟨⟨(), rfl, trivial, (fun i => [h0, q8, q16, q24, q32, q39, q46, q53, q60, q67, q74].getD i 0), (fun i => [k8, k16, k24, k32, k39, k46, k53, k60, k67, k74].getD i k8), rfl, by rw [ht]; exact hP9, va_K.moved hW.alike hK9, hD9⟩, hS.F ht⟩) hS.2.2 qm_M_init_79
