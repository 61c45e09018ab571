section
-- ===== PART A: goes FIRST, ahead of the names: the tables' words, and 'selects' of the private methods out of them =====
/-- a private method of a class that the tables say can be made, by its rows of tables_1 -/
def lw_okq (q : MethodName × Nat) : Prop := (q.1.cls ≠ "java/lang/invoke/MethodHandle" ∧ q.1.cls ≠ "java/lang/invoke/VarHandle") ∧ Cond.instantiable q.1.cls q.2 ∈ tables_1 ∧ Cond.privateMethod q.1 ∈ tables_1 ∧ Cond.instanceMethod q.1 ∈ tables_1
theorem lw_p0 : lw_okq (⟨"java/lang/Throwable", "fillInStackTrace", "(I)Ljava/lang/Throwable;"⟩, 6) := ⟨⟨by decide +kernel, by decide +kernel⟩, List.mem_of_getElem? (i := 274) (by decide +kernel), List.mem_of_getElem? (i := 272) (by decide +kernel), List.mem_of_getElem? (i := 273) (by decide +kernel)⟩
theorem lw_p1 : lw_okq (⟨"QuadMode", "step", "()V"⟩, 11) := ⟨⟨by decide +kernel, by decide +kernel⟩, List.mem_of_getElem? (i := 23) (by decide +kernel), List.mem_of_getElem? (i := 400) (by decide +kernel), List.mem_of_getElem? (i := 401) (by decide +kernel)⟩
theorem lw_p2 : lw_okq (⟨"QuadMode$Pages", "isThere", "(II)Z"⟩, 3) := ⟨⟨by decide +kernel, by decide +kernel⟩, List.mem_of_getElem? (i := 42) (by decide +kernel), List.mem_of_getElem? (i := 428) (by decide +kernel), List.mem_of_getElem? (i := 429) (by decide +kernel)⟩
theorem lw_p3 : lw_okq (⟨"QuadMode$Specifiers", "addressBy", "(III)I"⟩, 1) := ⟨⟨by decide +kernel, by decide +kernel⟩, List.mem_of_getElem? (i := 141) (by decide +kernel), List.mem_of_getElem? (i := 564) (by decide +kernel), List.mem_of_getElem? (i := 565) (by decide +kernel)⟩
theorem lw_p4 : lw_okq (⟨"QuadMode$Codes", "leaveException", "()V"⟩, 4) := ⟨⟨by decide +kernel, by decide +kernel⟩, List.mem_of_getElem? (i := 151) (by decide +kernel), List.mem_of_getElem? (i := 577) (by decide +kernel), List.mem_of_getElem? (i := 578) (by decide +kernel)⟩
theorem lw_p5 : lw_okq (⟨"QuadMode$Codes", "leaveFrame", "()V"⟩, 4) := ⟨⟨by decide +kernel, by decide +kernel⟩, List.mem_of_getElem? (i := 151) (by decide +kernel), List.mem_of_getElem? (i := 588) (by decide +kernel), List.mem_of_getElem? (i := 589) (by decide +kernel)⟩
theorem lw_p6 : lw_okq (⟨"QuadMode$Codes", "giveInner", "(II)V"⟩, 4) := ⟨⟨by decide +kernel, by decide +kernel⟩, List.mem_of_getElem? (i := 151) (by decide +kernel), List.mem_of_getElem? (i := 595) (by decide +kernel), List.mem_of_getElem? (i := 596) (by decide +kernel)⟩
theorem lw_p7 : lw_okq (⟨"QuadMode$Codes", "takeInner", "(I)V"⟩, 4) := ⟨⟨by decide +kernel, by decide +kernel⟩, List.mem_of_getElem? (i := 151) (by decide +kernel), List.mem_of_getElem? (i := 601) (by decide +kernel), List.mem_of_getElem? (i := 602) (by decide +kernel)⟩
theorem lw_p8 : lw_okq (⟨"QuadMode$Codes", "store", "(LQuadMode$Operand;I)V"⟩, 4) := ⟨⟨by decide +kernel, by decide +kernel⟩, List.mem_of_getElem? (i := 151) (by decide +kernel), List.mem_of_getElem? (i := 614) (by decide +kernel), List.mem_of_getElem? (i := 615) (by decide +kernel)⟩
theorem lw_p9 : lw_okq (⟨"QuadMode$Codes", "shift", "(II)V"⟩, 4) := ⟨⟨by decide +kernel, by decide +kernel⟩, List.mem_of_getElem? (i := 151) (by decide +kernel), List.mem_of_getElem? (i := 629) (by decide +kernel), List.mem_of_getElem? (i := 630) (by decide +kernel)⟩
theorem lw_p10 : lw_okq (⟨"QuadMode$Codes", "enterFrame", "()V"⟩, 4) := ⟨⟨by decide +kernel, by decide +kernel⟩, List.mem_of_getElem? (i := 151) (by decide +kernel), List.mem_of_getElem? (i := 636) (by decide +kernel), List.mem_of_getElem? (i := 637) (by decide +kernel)⟩
theorem lw_p11 : lw_okq (⟨"QuadMode$Codes", "probe", "(Z)V"⟩, 4) := ⟨⟨by decide +kernel, by decide +kernel⟩, List.mem_of_getElem? (i := 151) (by decide +kernel), List.mem_of_getElem? (i := 648) (by decide +kernel), List.mem_of_getElem? (i := 649) (by decide +kernel)⟩
theorem lw_p12 : lw_okq (⟨"QuadMode$Codes", "move", "(I)V"⟩, 4) := ⟨⟨by decide +kernel, by decide +kernel⟩, List.mem_of_getElem? (i := 151) (by decide +kernel), List.mem_of_getElem? (i := 664) (by decide +kernel), List.mem_of_getElem? (i := 665) (by decide +kernel)⟩
theorem lw_p13 : lw_okq (⟨"QuadMode$Codes", "compare", "(I)V"⟩, 4) := ⟨⟨by decide +kernel, by decide +kernel⟩, List.mem_of_getElem? (i := 151) (by decide +kernel), List.mem_of_getElem? (i := 676) (by decide +kernel), List.mem_of_getElem? (i := 677) (by decide +kernel)⟩
theorem lw_p14 : lw_okq (⟨"QuadMode$Codes", "calculate", "(I)V"⟩, 4) := ⟨⟨by decide +kernel, by decide +kernel⟩, List.mem_of_getElem? (i := 151) (by decide +kernel), List.mem_of_getElem? (i := 687) (by decide +kernel), List.mem_of_getElem? (i := 688) (by decide +kernel)⟩
theorem lw_p15 : lw_okq (⟨"QuadMode$Codes", "add", "(II)I"⟩, 4) := ⟨⟨by decide +kernel, by decide +kernel⟩, List.mem_of_getElem? (i := 151) (by decide +kernel), List.mem_of_getElem? (i := 691) (by decide +kernel), List.mem_of_getElem? (i := 692) (by decide +kernel)⟩
def lw_privs_1 : List (MethodName × Nat) := [(⟨"java/lang/Throwable", "fillInStackTrace", "(I)Ljava/lang/Throwable;"⟩, 6), (⟨"QuadMode", "step", "()V"⟩, 11), (⟨"QuadMode$Pages", "isThere", "(II)Z"⟩, 3), (⟨"QuadMode$Specifiers", "addressBy", "(III)I"⟩, 1), (⟨"QuadMode$Codes", "leaveException", "()V"⟩, 4), (⟨"QuadMode$Codes", "leaveFrame", "()V"⟩, 4), (⟨"QuadMode$Codes", "giveInner", "(II)V"⟩, 4), (⟨"QuadMode$Codes", "takeInner", "(I)V"⟩, 4), (⟨"QuadMode$Codes", "store", "(LQuadMode$Operand;I)V"⟩, 4), (⟨"QuadMode$Codes", "shift", "(II)V"⟩, 4), (⟨"QuadMode$Codes", "enterFrame", "()V"⟩, 4), (⟨"QuadMode$Codes", "probe", "(Z)V"⟩, 4), (⟨"QuadMode$Codes", "move", "(I)V"⟩, 4), (⟨"QuadMode$Codes", "compare", "(I)V"⟩, 4), (⟨"QuadMode$Codes", "calculate", "(I)V"⟩, 4), (⟨"QuadMode$Codes", "add", "(II)I"⟩, 4)]
theorem lw_r1 : ∀ q ∈ lw_privs_1, lw_okq q := List.forall_mem_cons.mpr ⟨lw_p0, List.forall_mem_cons.mpr ⟨lw_p1, List.forall_mem_cons.mpr ⟨lw_p2, List.forall_mem_cons.mpr ⟨lw_p3, List.forall_mem_cons.mpr ⟨lw_p4, List.forall_mem_cons.mpr ⟨lw_p5, List.forall_mem_cons.mpr ⟨lw_p6, List.forall_mem_cons.mpr ⟨lw_p7, List.forall_mem_cons.mpr ⟨lw_p8, List.forall_mem_cons.mpr ⟨lw_p9, List.forall_mem_cons.mpr ⟨lw_p10, List.forall_mem_cons.mpr ⟨lw_p11, List.forall_mem_cons.mpr ⟨lw_p12, List.forall_mem_cons.mpr ⟨lw_p13, List.forall_mem_cons.mpr ⟨lw_p14, List.forall_mem_cons.mpr ⟨lw_p15, fun _ h => absurd h List.not_mem_nil⟩⟩⟩⟩⟩⟩⟩⟩⟩⟩⟩⟩⟩⟩⟩⟩
theorem lw_p16 : lw_okq (⟨"QuadMode$Codes", "subtract", "(II)I"⟩, 4) := ⟨⟨by decide +kernel, by decide +kernel⟩, List.mem_of_getElem? (i := 151) (by decide +kernel), List.mem_of_getElem? (i := 696) (by decide +kernel), List.mem_of_getElem? (i := 697) (by decide +kernel)⟩
theorem lw_p17 : lw_okq (⟨"QuadMode$Codes", "calculated", "(III)I"⟩, 4) := ⟨⟨by decide +kernel, by decide +kernel⟩, List.mem_of_getElem? (i := 151) (by decide +kernel), List.mem_of_getElem? (i := 700) (by decide +kernel), List.mem_of_getElem? (i := 701) (by decide +kernel)⟩
theorem lw_p18 : lw_okq (⟨"QuadMode$Codes", "multiply", "(II)I"⟩, 4) := ⟨⟨by decide +kernel, by decide +kernel⟩, List.mem_of_getElem? (i := 151) (by decide +kernel), List.mem_of_getElem? (i := 704) (by decide +kernel), List.mem_of_getElem? (i := 705) (by decide +kernel)⟩
theorem lw_p19 : lw_okq (⟨"QuadMode$Codes", "divide", "(II)I"⟩, 4) := ⟨⟨by decide +kernel, by decide +kernel⟩, List.mem_of_getElem? (i := 151) (by decide +kernel), List.mem_of_getElem? (i := 708) (by decide +kernel), List.mem_of_getElem? (i := 709) (by decide +kernel)⟩
theorem lw_p20 : lw_okq (⟨"QuadMode$Codes", "bits", "(I)I"⟩, 4) := ⟨⟨by decide +kernel, by decide +kernel⟩, List.mem_of_getElem? (i := 151) (by decide +kernel), List.mem_of_getElem? (i := 712) (by decide +kernel), List.mem_of_getElem? (i := 713) (by decide +kernel)⟩
theorem lw_p21 : lw_okq (⟨"QuadMode$Codes", "handAddress", "(I)V"⟩, 4) := ⟨⟨by decide +kernel, by decide +kernel⟩, List.mem_of_getElem? (i := 151) (by decide +kernel), List.mem_of_getElem? (i := 716) (by decide +kernel), List.mem_of_getElem? (i := 717) (by decide +kernel)⟩
theorem lw_p22 : lw_okq (⟨"QuadMode$Codes", "go", "(I)V"⟩, 4) := ⟨⟨by decide +kernel, by decide +kernel⟩, List.mem_of_getElem? (i := 151) (by decide +kernel), List.mem_of_getElem? (i := 720) (by decide +kernel), List.mem_of_getElem? (i := 721) (by decide +kernel)⟩
theorem lw_p23 : lw_okq (⟨"QuadMode$Codes", "branch", "(I)V"⟩, 4) := ⟨⟨by decide +kernel, by decide +kernel⟩, List.mem_of_getElem? (i := 151) (by decide +kernel), List.mem_of_getElem? (i := 724) (by decide +kernel), List.mem_of_getElem? (i := 725) (by decide +kernel)⟩
theorem lw_p24 : lw_okq (⟨"QuadMode$Codes", "holds", "(I)Z"⟩, 4) := ⟨⟨by decide +kernel, by decide +kernel⟩, List.mem_of_getElem? (i := 151) (by decide +kernel), List.mem_of_getElem? (i := 728) (by decide +kernel), List.mem_of_getElem? (i := 729) (by decide +kernel)⟩
theorem lw_p25 : lw_okq (⟨"QuadMode$Codes", "count", "(I)V"⟩, 4) := ⟨⟨by decide +kernel, by decide +kernel⟩, List.mem_of_getElem? (i := 151) (by decide +kernel), List.mem_of_getElem? (i := 732) (by decide +kernel), List.mem_of_getElem? (i := 733) (by decide +kernel)⟩
theorem lw_p26 : lw_okq (⟨"QuadMode$Codes", "noteOverflow", "(I)V"⟩, 4) := ⟨⟨by decide +kernel, by decide +kernel⟩, List.mem_of_getElem? (i := 151) (by decide +kernel), List.mem_of_getElem? (i := 736) (by decide +kernel), List.mem_of_getElem? (i := 737) (by decide +kernel)⟩
theorem lw_p27 : lw_okq (⟨"QuadMode", "settle", "(I)V"⟩, 11) := ⟨⟨by decide +kernel, by decide +kernel⟩, List.mem_of_getElem? (i := 23) (by decide +kernel), List.mem_of_getElem? (i := 740) (by decide +kernel), List.mem_of_getElem? (i := 741) (by decide +kernel)⟩
theorem lw_p28 : lw_okq (⟨"QuadMode", "except", "(IIIII)V"⟩, 11) := ⟨⟨by decide +kernel, by decide +kernel⟩, List.mem_of_getElem? (i := 23) (by decide +kernel), List.mem_of_getElem? (i := 748) (by decide +kernel), List.mem_of_getElem? (i := 749) (by decide +kernel)⟩
theorem lw_p29 : lw_okq (⟨"QuadModeModel", "bare", "(I)I"⟩, 22) := ⟨⟨by decide +kernel, by decide +kernel⟩, List.mem_of_getElem? (i := 764) (by decide +kernel), List.mem_of_getElem? (i := 850) (by decide +kernel), List.mem_of_getElem? (i := 851) (by decide +kernel)⟩
theorem lw_p30 : lw_okq (⟨"QuadModeModel", "put", "(II)V"⟩, 22) := ⟨⟨by decide +kernel, by decide +kernel⟩, List.mem_of_getElem? (i := 764) (by decide +kernel), List.mem_of_getElem? (i := 858) (by decide +kernel), List.mem_of_getElem? (i := 859) (by decide +kernel)⟩
theorem lw_p31 : lw_okq (⟨"QuadModeModel", "mode", "()I"⟩, 22) := ⟨⟨by decide +kernel, by decide +kernel⟩, List.mem_of_getElem? (i := 764) (by decide +kernel), List.mem_of_getElem? (i := 862) (by decide +kernel), List.mem_of_getElem? (i := 863) (by decide +kernel)⟩
def lw_privs_2 : List (MethodName × Nat) := [(⟨"QuadMode$Codes", "subtract", "(II)I"⟩, 4), (⟨"QuadMode$Codes", "calculated", "(III)I"⟩, 4), (⟨"QuadMode$Codes", "multiply", "(II)I"⟩, 4), (⟨"QuadMode$Codes", "divide", "(II)I"⟩, 4), (⟨"QuadMode$Codes", "bits", "(I)I"⟩, 4), (⟨"QuadMode$Codes", "handAddress", "(I)V"⟩, 4), (⟨"QuadMode$Codes", "go", "(I)V"⟩, 4), (⟨"QuadMode$Codes", "branch", "(I)V"⟩, 4), (⟨"QuadMode$Codes", "holds", "(I)Z"⟩, 4), (⟨"QuadMode$Codes", "count", "(I)V"⟩, 4), (⟨"QuadMode$Codes", "noteOverflow", "(I)V"⟩, 4), (⟨"QuadMode", "settle", "(I)V"⟩, 11), (⟨"QuadMode", "except", "(IIIII)V"⟩, 11), (⟨"QuadModeModel", "bare", "(I)I"⟩, 22), (⟨"QuadModeModel", "put", "(II)V"⟩, 22), (⟨"QuadModeModel", "mode", "()I"⟩, 22)]
theorem lw_r2 : ∀ q ∈ lw_privs_2, lw_okq q := List.forall_mem_cons.mpr ⟨lw_p16, List.forall_mem_cons.mpr ⟨lw_p17, List.forall_mem_cons.mpr ⟨lw_p18, List.forall_mem_cons.mpr ⟨lw_p19, List.forall_mem_cons.mpr ⟨lw_p20, List.forall_mem_cons.mpr ⟨lw_p21, List.forall_mem_cons.mpr ⟨lw_p22, List.forall_mem_cons.mpr ⟨lw_p23, List.forall_mem_cons.mpr ⟨lw_p24, List.forall_mem_cons.mpr ⟨lw_p25, List.forall_mem_cons.mpr ⟨lw_p26, List.forall_mem_cons.mpr ⟨lw_p27, List.forall_mem_cons.mpr ⟨lw_p28, List.forall_mem_cons.mpr ⟨lw_p29, List.forall_mem_cons.mpr ⟨lw_p30, List.forall_mem_cons.mpr ⟨lw_p31, fun _ h => absurd h List.not_mem_nil⟩⟩⟩⟩⟩⟩⟩⟩⟩⟩⟩⟩⟩⟩⟩⟩
theorem lw_p32 : lw_okq (⟨"QuadModeModel", "fail", "(I)I"⟩, 22) := ⟨⟨by decide +kernel, by decide +kernel⟩, List.mem_of_getElem? (i := 764) (by decide +kernel), List.mem_of_getElem? (i := 870) (by decide +kernel), List.mem_of_getElem? (i := 871) (by decide +kernel)⟩
theorem lw_p33 : lw_okq (⟨"QuadModeModel", "get", "(I)I"⟩, 22) := ⟨⟨by decide +kernel, by decide +kernel⟩, List.mem_of_getElem? (i := 764) (by decide +kernel), List.mem_of_getElem? (i := 874) (by decide +kernel), List.mem_of_getElem? (i := 875) (by decide +kernel)⟩
theorem lw_p34 : lw_okq (⟨"QuadModeModel", "instruction", "()V"⟩, 22) := ⟨⟨by decide +kernel, by decide +kernel⟩, List.mem_of_getElem? (i := 764) (by decide +kernel), List.mem_of_getElem? (i := 902) (by decide +kernel), List.mem_of_getElem? (i := 903) (by decide +kernel)⟩
theorem lw_p35 : lw_okq (⟨"QuadModeModel", "keep", "()V"⟩, 22) := ⟨⟨by decide +kernel, by decide +kernel⟩, List.mem_of_getElem? (i := 764) (by decide +kernel), List.mem_of_getElem? (i := 906) (by decide +kernel), List.mem_of_getElem? (i := 907) (by decide +kernel)⟩
theorem lw_p36 : lw_okq (⟨"QuadModeModel", "next", "()I"⟩, 22) := ⟨⟨by decide +kernel, by decide +kernel⟩, List.mem_of_getElem? (i := 764) (by decide +kernel), List.mem_of_getElem? (i := 910) (by decide +kernel), List.mem_of_getElem? (i := 911) (by decide +kernel)⟩
theorem lw_p37 : lw_okq (⟨"QuadModeModel", "readByte", "(I)I"⟩, 22) := ⟨⟨by decide +kernel, by decide +kernel⟩, List.mem_of_getElem? (i := 764) (by decide +kernel), List.mem_of_getElem? (i := 914) (by decide +kernel), List.mem_of_getElem? (i := 915) (by decide +kernel)⟩
theorem lw_p38 : lw_okq (⟨"QuadModeModel", "find", "(IZI)I"⟩, 22) := ⟨⟨by decide +kernel, by decide +kernel⟩, List.mem_of_getElem? (i := 764) (by decide +kernel), List.mem_of_getElem? (i := 918) (by decide +kernel), List.mem_of_getElem? (i := 919) (by decide +kernel)⟩
theorem lw_p39 : lw_okq (⟨"QuadModeModel", "wrong", "(III)V"⟩, 22) := ⟨⟨by decide +kernel, by decide +kernel⟩, List.mem_of_getElem? (i := 764) (by decide +kernel), List.mem_of_getElem? (i := 927) (by decide +kernel), List.mem_of_getElem? (i := 928) (by decide +kernel)⟩
theorem lw_p40 : lw_okq (⟨"QuadModeModel", "operand", "(II)V"⟩, 22) := ⟨⟨by decide +kernel, by decide +kernel⟩, List.mem_of_getElem? (i := 764) (by decide +kernel), List.mem_of_getElem? (i := 937) (by decide +kernel), List.mem_of_getElem? (i := 938) (by decide +kernel)⟩
theorem lw_p41 : lw_okq (⟨"QuadModeModel", "readLong", "(I)I"⟩, 22) := ⟨⟨by decide +kernel, by decide +kernel⟩, List.mem_of_getElem? (i := 764) (by decide +kernel), List.mem_of_getElem? (i := 941) (by decide +kernel), List.mem_of_getElem? (i := 942) (by decide +kernel)⟩
theorem lw_p42 : lw_okq (⟨"QuadModeModel", "work", "(I)V"⟩, 22) := ⟨⟨by decide +kernel, by decide +kernel⟩, List.mem_of_getElem? (i := 764) (by decide +kernel), List.mem_of_getElem? (i := 945) (by decide +kernel), List.mem_of_getElem? (i := 946) (by decide +kernel)⟩
theorem lw_p43 : lw_okq (⟨"QuadModeModel", "endException", "()V"⟩, 22) := ⟨⟨by decide +kernel, by decide +kernel⟩, List.mem_of_getElem? (i := 764) (by decide +kernel), List.mem_of_getElem? (i := 949) (by decide +kernel), List.mem_of_getElem? (i := 950) (by decide +kernel)⟩
theorem lw_p44 : lw_okq (⟨"QuadModeModel", "pop", "()I"⟩, 22) := ⟨⟨by decide +kernel, by decide +kernel⟩, List.mem_of_getElem? (i := 764) (by decide +kernel), List.mem_of_getElem? (i := 953) (by decide +kernel), List.mem_of_getElem? (i := 954) (by decide +kernel)⟩
theorem lw_p45 : lw_okq (⟨"QuadModeModel", "comeBack", "()V"⟩, 22) := ⟨⟨by decide +kernel, by decide +kernel⟩, List.mem_of_getElem? (i := 764) (by decide +kernel), List.mem_of_getElem? (i := 957) (by decide +kernel), List.mem_of_getElem? (i := 958) (by decide +kernel)⟩
theorem lw_p46 : lw_okq (⟨"QuadModeModel", "innerOnes", "(I)V"⟩, 22) := ⟨⟨by decide +kernel, by decide +kernel⟩, List.mem_of_getElem? (i := 764) (by decide +kernel), List.mem_of_getElem? (i := 962) (by decide +kernel), List.mem_of_getElem? (i := 963) (by decide +kernel)⟩
theorem lw_p47 : lw_okq (⟨"QuadModeModel", "mark", "(IZZ)V"⟩, 22) := ⟨⟨by decide +kernel, by decide +kernel⟩, List.mem_of_getElem? (i := 764) (by decide +kernel), List.mem_of_getElem? (i := 966) (by decide +kernel), List.mem_of_getElem? (i := 967) (by decide +kernel)⟩
def lw_privs_3 : List (MethodName × Nat) := [(⟨"QuadModeModel", "fail", "(I)I"⟩, 22), (⟨"QuadModeModel", "get", "(I)I"⟩, 22), (⟨"QuadModeModel", "instruction", "()V"⟩, 22), (⟨"QuadModeModel", "keep", "()V"⟩, 22), (⟨"QuadModeModel", "next", "()I"⟩, 22), (⟨"QuadModeModel", "readByte", "(I)I"⟩, 22), (⟨"QuadModeModel", "find", "(IZI)I"⟩, 22), (⟨"QuadModeModel", "wrong", "(III)V"⟩, 22), (⟨"QuadModeModel", "operand", "(II)V"⟩, 22), (⟨"QuadModeModel", "readLong", "(I)I"⟩, 22), (⟨"QuadModeModel", "work", "(I)V"⟩, 22), (⟨"QuadModeModel", "endException", "()V"⟩, 22), (⟨"QuadModeModel", "pop", "()I"⟩, 22), (⟨"QuadModeModel", "comeBack", "()V"⟩, 22), (⟨"QuadModeModel", "innerOnes", "(I)V"⟩, 22), (⟨"QuadModeModel", "mark", "(IZZ)V"⟩, 22)]
theorem lw_r3 : ∀ q ∈ lw_privs_3, lw_okq q := List.forall_mem_cons.mpr ⟨lw_p32, List.forall_mem_cons.mpr ⟨lw_p33, List.forall_mem_cons.mpr ⟨lw_p34, List.forall_mem_cons.mpr ⟨lw_p35, List.forall_mem_cons.mpr ⟨lw_p36, List.forall_mem_cons.mpr ⟨lw_p37, List.forall_mem_cons.mpr ⟨lw_p38, List.forall_mem_cons.mpr ⟨lw_p39, List.forall_mem_cons.mpr ⟨lw_p40, List.forall_mem_cons.mpr ⟨lw_p41, List.forall_mem_cons.mpr ⟨lw_p42, List.forall_mem_cons.mpr ⟨lw_p43, List.forall_mem_cons.mpr ⟨lw_p44, List.forall_mem_cons.mpr ⟨lw_p45, List.forall_mem_cons.mpr ⟨lw_p46, List.forall_mem_cons.mpr ⟨lw_p47, fun _ h => absurd h List.not_mem_nil⟩⟩⟩⟩⟩⟩⟩⟩⟩⟩⟩⟩⟩⟩⟩⟩
theorem lw_p48 : lw_okq (⟨"QuadModeModel", "give", "(III)V"⟩, 22) := ⟨⟨by decide +kernel, by decide +kernel⟩, List.mem_of_getElem? (i := 764) (by decide +kernel), List.mem_of_getElem? (i := 970) (by decide +kernel), List.mem_of_getElem? (i := 971) (by decide +kernel)⟩
theorem lw_p49 : lw_okq (⟨"QuadModeModel", "write", "(III)V"⟩, 22) := ⟨⟨by decide +kernel, by decide +kernel⟩, List.mem_of_getElem? (i := 764) (by decide +kernel), List.mem_of_getElem? (i := 974) (by decide +kernel), List.mem_of_getElem? (i := 975) (by decide +kernel)⟩
theorem lw_p50 : lw_okq (⟨"QuadModeModel", "move", "(I)V"⟩, 22) := ⟨⟨by decide +kernel, by decide +kernel⟩, List.mem_of_getElem? (i := 764) (by decide +kernel), List.mem_of_getElem? (i := 978) (by decide +kernel), List.mem_of_getElem? (i := 979) (by decide +kernel)⟩
theorem lw_p51 : lw_okq (⟨"QuadModeModel", "has", "(I)Z"⟩, 22) := ⟨⟨by decide +kernel, by decide +kernel⟩, List.mem_of_getElem? (i := 764) (by decide +kernel), List.mem_of_getElem? (i := 982) (by decide +kernel), List.mem_of_getElem? (i := 983) (by decide +kernel)⟩
theorem lw_p52 : lw_okq (⟨"QuadModeModel", "push", "(I)V"⟩, 22) := ⟨⟨by decide +kernel, by decide +kernel⟩, List.mem_of_getElem? (i := 764) (by decide +kernel), List.mem_of_getElem? (i := 986) (by decide +kernel), List.mem_of_getElem? (i := 987) (by decide +kernel)⟩
theorem lw_p53 : lw_okq (⟨"QuadModeModel", "reckon", "(IIII)V"⟩, 22) := ⟨⟨by decide +kernel, by decide +kernel⟩, List.mem_of_getElem? (i := 764) (by decide +kernel), List.mem_of_getElem? (i := 990) (by decide +kernel), List.mem_of_getElem? (i := 991) (by decide +kernel)⟩
theorem lw_p54 : lw_okq (⟨"QuadModeModel", "shift", "(II)V"⟩, 22) := ⟨⟨by decide +kernel, by decide +kernel⟩, List.mem_of_getElem? (i := 764) (by decide +kernel), List.mem_of_getElem? (i := 994) (by decide +kernel), List.mem_of_getElem? (i := 995) (by decide +kernel)⟩
theorem lw_p55 : lw_okq (⟨"QuadModeModel", "go", "(I)V"⟩, 22) := ⟨⟨by decide +kernel, by decide +kernel⟩, List.mem_of_getElem? (i := 764) (by decide +kernel), List.mem_of_getElem? (i := 998) (by decide +kernel), List.mem_of_getElem? (i := 999) (by decide +kernel)⟩
theorem lw_p56 : lw_okq (⟨"QuadModeModel", "isMet", "(I)Z"⟩, 22) := ⟨⟨by decide +kernel, by decide +kernel⟩, List.mem_of_getElem? (i := 764) (by decide +kernel), List.mem_of_getElem? (i := 1002) (by decide +kernel), List.mem_of_getElem? (i := 1003) (by decide +kernel)⟩
theorem lw_p57 : lw_okq (⟨"QuadModeModel", "count", "(I)V"⟩, 22) := ⟨⟨by decide +kernel, by decide +kernel⟩, List.mem_of_getElem? (i := 764) (by decide +kernel), List.mem_of_getElem? (i := 1006) (by decide +kernel), List.mem_of_getElem? (i := 1007) (by decide +kernel)⟩
theorem lw_p58 : lw_okq (⟨"QuadModeModel", "callFrame", "()V"⟩, 22) := ⟨⟨by decide +kernel, by decide +kernel⟩, List.mem_of_getElem? (i := 764) (by decide +kernel), List.mem_of_getElem? (i := 1011) (by decide +kernel), List.mem_of_getElem? (i := 1012) (by decide +kernel)⟩
theorem lw_p59 : lw_okq (⟨"QuadModeModel", "probe", "(Z)V"⟩, 22) := ⟨⟨by decide +kernel, by decide +kernel⟩, List.mem_of_getElem? (i := 764) (by decide +kernel), List.mem_of_getElem? (i := 1018) (by decide +kernel), List.mem_of_getElem? (i := 1019) (by decide +kernel)⟩
theorem lw_p60 : lw_okq (⟨"QuadModeModel", "bringBack", "()V"⟩, 22) := ⟨⟨by decide +kernel, by decide +kernel⟩, List.mem_of_getElem? (i := 764) (by decide +kernel), List.mem_of_getElem? (i := 1022) (by decide +kernel), List.mem_of_getElem? (i := 1023) (by decide +kernel)⟩
theorem lw_p61 : lw_okq (⟨"QuadModeModel", "raise", "(III)V"⟩, 22) := ⟨⟨by decide +kernel, by decide +kernel⟩, List.mem_of_getElem? (i := 764) (by decide +kernel), List.mem_of_getElem? (i := 1026) (by decide +kernel), List.mem_of_getElem? (i := 1027) (by decide +kernel)⟩
def lw_privs_4 : List (MethodName × Nat) := [(⟨"QuadModeModel", "give", "(III)V"⟩, 22), (⟨"QuadModeModel", "write", "(III)V"⟩, 22), (⟨"QuadModeModel", "move", "(I)V"⟩, 22), (⟨"QuadModeModel", "has", "(I)Z"⟩, 22), (⟨"QuadModeModel", "push", "(I)V"⟩, 22), (⟨"QuadModeModel", "reckon", "(IIII)V"⟩, 22), (⟨"QuadModeModel", "shift", "(II)V"⟩, 22), (⟨"QuadModeModel", "go", "(I)V"⟩, 22), (⟨"QuadModeModel", "isMet", "(I)Z"⟩, 22), (⟨"QuadModeModel", "count", "(I)V"⟩, 22), (⟨"QuadModeModel", "callFrame", "()V"⟩, 22), (⟨"QuadModeModel", "probe", "(Z)V"⟩, 22), (⟨"QuadModeModel", "bringBack", "()V"⟩, 22), (⟨"QuadModeModel", "raise", "(III)V"⟩, 22)]
theorem lw_r4 : ∀ q ∈ lw_privs_4, lw_okq q := List.forall_mem_cons.mpr ⟨lw_p48, List.forall_mem_cons.mpr ⟨lw_p49, List.forall_mem_cons.mpr ⟨lw_p50, List.forall_mem_cons.mpr ⟨lw_p51, List.forall_mem_cons.mpr ⟨lw_p52, List.forall_mem_cons.mpr ⟨lw_p53, List.forall_mem_cons.mpr ⟨lw_p54, List.forall_mem_cons.mpr ⟨lw_p55, List.forall_mem_cons.mpr ⟨lw_p56, List.forall_mem_cons.mpr ⟨lw_p57, List.forall_mem_cons.mpr ⟨lw_p58, List.forall_mem_cons.mpr ⟨lw_p59, List.forall_mem_cons.mpr ⟨lw_p60, List.forall_mem_cons.mpr ⟨lw_p61, fun _ h => absurd h List.not_mem_nil⟩⟩⟩⟩⟩⟩⟩⟩⟩⟩⟩⟩⟩⟩
def lw_privs : List (MethodName × Nat) := lw_privs_1 ++ (lw_privs_2 ++ (lw_privs_3 ++ (lw_privs_4)))
def lw_tbl : List Cond := k2_sels lw_privs ++ tables_1
theorem lw_privs_ok : ∀ q ∈ lw_privs, lw_okq q := by
  show ∀ q ∈ lw_privs_1 ++ (lw_privs_2 ++ (lw_privs_3 ++ (lw_privs_4))), lw_okq q
  exact List.forall_mem_append.mpr ⟨lw_r1, List.forall_mem_append.mpr ⟨lw_r2, List.forall_mem_append.mpr ⟨lw_r3, lw_r4⟩⟩⟩
end
section
/-! The base of certified decompiling: a method's pure function answers 'none' where a check fails; where it answers 'some', the machine does as it says. -/
/-- the words that stand: good ones of the law's tables -/
def qw : List Cond := lw_tbl.filter goodWord
theorem qw_in {w : Cond} (n : Nat) (h : lw_tbl[n]? = some w) (hg : goodWord w = true) : w ∈ qw := List.mem_filter.mpr ⟨List.mem_of_getElem? h, hg⟩
theorem qw_of {w : Cond} (h : w ∈ qw) : w ∈ lw_tbl := (List.mem_filter.mp h).1
theorem qw_g {w : Cond} (h : w ∈ qw) : (w.onTables && w.keeps) = true ∨ ∃ ty, w = .arrayClass ty := good_of_word (List.mem_filter.mp h).2
theorem qw_gc {c : Cond} (h : c ∈ qw) : GoodIn qw (c :: qw) := fun w hw => by
  rcases List.mem_cons.mp hw with rfl | hw
  · exact ⟨h, qw_g h⟩
  · exact ⟨hw, qw_g hw⟩
theorem qw_gl {ls : List Cond} {ws : List Cond} (h : ∀ w ∈ ls, w ∈ qw) (hw : GoodIn qw ws) : GoodIn qw (ls ++ ws) := fun w hm => by
  rcases List.mem_append.mp hm with hm | hm
  · exact ⟨h w hm, qw_g (h w hm)⟩
  · exact hw w hm
/-- a state: the numbers of the fields, and of the arrays -/
abbrev qS : Type := (Nat → Int32) × (Nat → Nat → Int32)
def pI (S : qS) (k : Nat) (v : Int32) : qS := (fun j => if j = k then v else S.1 j, S.2)
def gA (S : qS) (a : Nat) (i : Int32) : Int32 := S.2 a i.toNatClampNeg
def pA (S : qS) (a : Nat) (i : Int32) (v : Int32) : qS := (S.1, fun b => if b = a then upd (S.2 b) i.toNatClampNeg v else S.2 b)
def cpA (S : qS) (a : Nat) (sp : Int32) (b : Nat) (dp n : Int32) : qS := (S.1, fun x => if x = b then va_cpy (S.2 a) (S.2 x) sp.toNatClampNeg dp.toNatClampNeg n.toNatClampNeg else S.2 x)
def ushr (x y : Int32) : Int32 := (x.toUInt32 >>> (y.toUInt32 &&& Int32.toUInt32 31)).toInt32
def ushrL (x : Int64) (y : Int32) : Int64 := (x.toUInt64 >>> (y.toInt64.toUInt64 &&& Int64.toUInt64 63)).toInt64
def inb (i : Int32) (n : Nat) : Bool := decide (0 ≤ i.toInt) && decide (i.toInt < n)
theorem inb_in {i : Int32} {n : Nat} (h : inb i n = true) : vp_in i n := by
  rw [inb, Bool.and_eq_true, decide_eq_true_eq, decide_eq_true_eq] at h
  exact vp_in_iff.mpr h
def isB (v : Int32) : Bool := v == 0 || v == 1
theorem isB_n {v : Int32} (h : isB v = true) : narrow .boolean (.int v) = .int v := by
  rw [isB, Bool.or_eq_true, beq_iff_eq, beq_iff_eq] at h
  rcases h with rfl | rfl <;> rfl
def chk {α : Type} (b : Bool) (x : Option α) : Option α := if b = true then x else none
theorem chk_s {α : Type} {b : Bool} {x : Option α} {y : α} (h : chk b x = some y) : b = true ∧ x = some y := by
  unfold chk at h
  by_cases c : b = true
  · rw [if_pos c] at h; exact ⟨c, h⟩
  · rw [if_neg c] at h; cases h
theorem bnd_s {α β : Type} {x : Option α} {f : α → Option β} {y : β} (h : x.bind f = some y) : ∃ a, x = some a ∧ f a = some y := Option.bind_eq_some_iff.mp h
theorem if_t {α : Type} {c : Prop} [Decidable c] {x y z : α} (hc : c) (h : (if c then x else y) = z) : x = z := by rw [if_pos hc] at h; exact h
theorem if_f {α : Type} {c : Prop} [Decidable c] {x y z : α} (hc : ¬ c) (h : (if c then x else y) = z) : y = z := by rw [if_neg hc] at h; exact h
end
section
def qR_Cd : String := "QuadMode$Codes"
def qT_Cd : u_T := fun k => match k with
  | 0 => ("QuadMode$Codes", "core", "LQuadMode$Core;", true)
  | 1 => ("QuadMode$Codes", "first", "LQuadMode$Operand;", true)
  | 2 => ("QuadMode$Codes", "second", "LQuadMode$Operand;", true)
  | _ => ("QuadMode$Codes", "third", "LQuadMode$Operand;", true)
def qY_Cd : Nat → FieldType := fun k => match k with
  | 0 => .object "QuadMode$Core"
  | 1 => .object "QuadMode$Operand"
  | 2 => .object "QuadMode$Operand"
  | _ => .object "QuadMode$Operand"
theorem qn_Cd : ∀ a, a < 4 → ∀ b, b < 4 → a ≠ b → (qT_Cd a).2.1 ≠ (qT_Cd b).2.1 := by decide +kernel
theorem qy_Cd : ∀ k, k < 4 → parseFieldDescriptor (qT_Cd k).2.2.1 = some (qY_Cd k) := by decide +kernel
theorem ql_Cd_0 : Cond.laysFinal "QuadMode$Codes" "QuadMode$Codes" "core" "LQuadMode$Core;" ∈ qw := qw_in 222 (by decide +kernel) (by decide +kernel)
theorem ql_Cd_1 : Cond.laysFinal "QuadMode$Codes" "QuadMode$Codes" "first" "LQuadMode$Operand;" ∈ qw := qw_in 224 (by decide +kernel) (by decide +kernel)
theorem ql_Cd_2 : Cond.laysFinal "QuadMode$Codes" "QuadMode$Codes" "second" "LQuadMode$Operand;" ∈ qw := qw_in 226 (by decide +kernel) (by decide +kernel)
theorem ql_Cd_3 : Cond.laysFinal "QuadMode$Codes" "QuadMode$Codes" "third" "LQuadMode$Operand;" ∈ qw := qw_in 228 (by decide +kernel) (by decide +kernel)
theorem qi_Cd : ∀ w ∈ u_ws qR_Cd qT_Cd 4, w ∈ qw := fun w h => by
  obtain ⟨k, hk, rfl⟩ := List.mem_map.mp h
  have hk := List.mem_range.mp hk
  rcases (show k = 0 ∨ k = 1 ∨ k = 2 ∨ k = 3 by omega) with rfl | rfl | rfl | rfl
  · exact ql_Cd_0
  · exact ql_Cd_1
  · exact ql_Cd_2
  · exact ql_Cd_3
def qR_Co : String := "QuadMode$Core"
def qT_Co : u_T := fun k => match k with
  | 0 => ("QuadMode$Core", "storage", "LQuadMode$Storage;", true)
  | 1 => ("QuadMode$Core", "pages", "LQuadMode$Pages;", true)
  | 2 => ("QuadMode$Core", "inner", "[I", true)
  | 3 => ("QuadMode$Core", "registers", "[I", true)
  | 4 => ("QuadMode$Core", "keptRegisters", "[I", true)
  | 5 => ("QuadMode$Core", "keptStacks", "[I", true)
  | 6 => ("QuadMode$Core", "places", "[I", true)
  | 7 => ("QuadMode$Core", "entries", "[I", true)
  | 8 => ("QuadMode$Core", "keptStatus", "I", false)
  | 9 => ("QuadMode$Core", "status", "I", false)
  | 10 => ("QuadMode$Core", "fault", "I", false)
  | 11 => ("QuadMode$Core", "faultAddress", "I", false)
  | 12 => ("QuadMode$Core", "faultFlag", "I", false)
  | _ => ("QuadMode$Core", "trap", "I", false)
def qY_Co : Nat → FieldType := fun k => match k with
  | 0 => .object "QuadMode$Storage"
  | 1 => .object "QuadMode$Pages"
  | 2 => .array .int
  | 3 => .array .int
  | 4 => .array .int
  | 5 => .array .int
  | 6 => .array .int
  | 7 => .array .int
  | 8 => .int
  | 9 => .int
  | 10 => .int
  | 11 => .int
  | 12 => .int
  | _ => .int
theorem qn_Co : ∀ a, a < 14 → ∀ b, b < 14 → a ≠ b → (qT_Co a).2.1 ≠ (qT_Co b).2.1 := by decide +kernel
theorem qy_Co : ∀ k, k < 14 → parseFieldDescriptor (qT_Co k).2.2.1 = some (qY_Co k) := by decide +kernel
theorem ql_Co_0 : Cond.laysFinal "QuadMode$Core" "QuadMode$Core" "storage" "LQuadMode$Storage;" ∈ qw := qw_in 148 (by decide +kernel) (by decide +kernel)
theorem ql_Co_1 : Cond.laysFinal "QuadMode$Core" "QuadMode$Core" "pages" "LQuadMode$Pages;" ∈ qw := qw_in 150 (by decide +kernel) (by decide +kernel)
theorem ql_Co_2 : Cond.laysFinal "QuadMode$Core" "QuadMode$Core" "inner" "[I" ∈ qw := qw_in 152 (by decide +kernel) (by decide +kernel)
theorem ql_Co_3 : Cond.laysFinal "QuadMode$Core" "QuadMode$Core" "registers" "[I" ∈ qw := qw_in 154 (by decide +kernel) (by decide +kernel)
theorem ql_Co_4 : Cond.laysFinal "QuadMode$Core" "QuadMode$Core" "keptRegisters" "[I" ∈ qw := qw_in 156 (by decide +kernel) (by decide +kernel)
theorem ql_Co_5 : Cond.laysFinal "QuadMode$Core" "QuadMode$Core" "keptStacks" "[I" ∈ qw := qw_in 158 (by decide +kernel) (by decide +kernel)
theorem ql_Co_6 : Cond.laysFinal "QuadMode$Core" "QuadMode$Core" "places" "[I" ∈ qw := qw_in 160 (by decide +kernel) (by decide +kernel)
theorem ql_Co_7 : Cond.laysFinal "QuadMode$Core" "QuadMode$Core" "entries" "[I" ∈ qw := qw_in 162 (by decide +kernel) (by decide +kernel)
theorem ql_Co_8 : Cond.lays "QuadMode$Core" "QuadMode$Core" "keptStatus" "I" ∈ qw := qw_in 164 (by decide +kernel) (by decide +kernel)
theorem ql_Co_9 : Cond.lays "QuadMode$Core" "QuadMode$Core" "status" "I" ∈ qw := qw_in 166 (by decide +kernel) (by decide +kernel)
theorem ql_Co_10 : Cond.lays "QuadMode$Core" "QuadMode$Core" "fault" "I" ∈ qw := qw_in 168 (by decide +kernel) (by decide +kernel)
theorem ql_Co_11 : Cond.lays "QuadMode$Core" "QuadMode$Core" "faultAddress" "I" ∈ qw := qw_in 170 (by decide +kernel) (by decide +kernel)
theorem ql_Co_12 : Cond.lays "QuadMode$Core" "QuadMode$Core" "faultFlag" "I" ∈ qw := qw_in 172 (by decide +kernel) (by decide +kernel)
theorem ql_Co_13 : Cond.lays "QuadMode$Core" "QuadMode$Core" "trap" "I" ∈ qw := qw_in 174 (by decide +kernel) (by decide +kernel)
theorem qi_Co : ∀ w ∈ u_ws qR_Co qT_Co 14, w ∈ qw := fun w h => by
  obtain ⟨k, hk, rfl⟩ := List.mem_map.mp h
  have hk := List.mem_range.mp hk
  rcases (show k = 0 ∨ k = 1 ∨ k = 2 ∨ k = 3 ∨ k = 4 ∨ k = 5 ∨ k = 6 ∨ k = 7 ∨ k = 8 ∨ k = 9 ∨ k = 10 ∨ k = 11 ∨ k = 12 ∨ k = 13 by omega) with rfl | rfl | rfl | rfl | rfl | rfl | rfl | rfl | rfl | rfl | rfl | rfl | rfl | rfl
  · exact ql_Co_0
  · exact ql_Co_1
  · exact ql_Co_2
  · exact ql_Co_3
  · exact ql_Co_4
  · exact ql_Co_5
  · exact ql_Co_6
  · exact ql_Co_7
  · exact ql_Co_8
  · exact ql_Co_9
  · exact ql_Co_10
  · exact ql_Co_11
  · exact ql_Co_12
  · exact ql_Co_13
def qR_Op : String := "QuadMode$Operand"
def qT_Op : u_T := fun k => match k with
  | 0 => ("QuadMode$Operand", "size", "I", false)
  | 1 => ("QuadMode$Operand", "register", "I", false)
  | 2 => ("QuadMode$Operand", "address", "I", false)
  | _ => ("QuadMode$Operand", "value", "I", false)
def qY_Op : Nat → FieldType := fun k => match k with
  | 0 => .int
  | 1 => .int
  | 2 => .int
  | _ => .int
theorem qn_Op : ∀ a, a < 4 → ∀ b, b < 4 → a ≠ b → (qT_Op a).2.1 ≠ (qT_Op b).2.1 := by decide +kernel
theorem qy_Op : ∀ k, k < 4 → parseFieldDescriptor (qT_Op k).2.2.1 = some (qY_Op k) := by decide +kernel
theorem ql_Op_0 : Cond.lays "QuadMode$Operand" "QuadMode$Operand" "size" "I" ∈ qw := qw_in 193 (by decide +kernel) (by decide +kernel)
theorem ql_Op_1 : Cond.lays "QuadMode$Operand" "QuadMode$Operand" "register" "I" ∈ qw := qw_in 195 (by decide +kernel) (by decide +kernel)
theorem ql_Op_2 : Cond.lays "QuadMode$Operand" "QuadMode$Operand" "address" "I" ∈ qw := qw_in 197 (by decide +kernel) (by decide +kernel)
theorem ql_Op_3 : Cond.lays "QuadMode$Operand" "QuadMode$Operand" "value" "I" ∈ qw := qw_in 199 (by decide +kernel) (by decide +kernel)
theorem qi_Op : ∀ w ∈ u_ws qR_Op qT_Op 4, w ∈ qw := fun w h => by
  obtain ⟨k, hk, rfl⟩ := List.mem_map.mp h
  have hk := List.mem_range.mp hk
  rcases (show k = 0 ∨ k = 1 ∨ k = 2 ∨ k = 3 by omega) with rfl | rfl | rfl | rfl
  · exact ql_Op_0
  · exact ql_Op_1
  · exact ql_Op_2
  · exact ql_Op_3
def qR_Pg : String := "QuadMode$Pages"
def qT_Pg : u_T := fun k => match k with
  | 0 => ("QuadMode$Pages", "storage", "LQuadMode$Storage;", true)
  | 1 => ("QuadMode$Pages", "inner", "[I", true)
  | _ => ("QuadMode$Pages", "entry", "I", false)
def qY_Pg : Nat → FieldType := fun k => match k with
  | 0 => .object "QuadMode$Storage"
  | 1 => .array .int
  | _ => .int
theorem qn_Pg : ∀ a, a < 3 → ∀ b, b < 3 → a ≠ b → (qT_Pg a).2.1 ≠ (qT_Pg b).2.1 := by decide +kernel
theorem qy_Pg : ∀ k, k < 3 → parseFieldDescriptor (qT_Pg k).2.2.1 = some (qY_Pg k) := by decide +kernel
theorem ql_Pg_0 : Cond.laysFinal "QuadMode$Pages" "QuadMode$Pages" "storage" "LQuadMode$Storage;" ∈ qw := qw_in 113 (by decide +kernel) (by decide +kernel)
theorem ql_Pg_1 : Cond.laysFinal "QuadMode$Pages" "QuadMode$Pages" "inner" "[I" ∈ qw := qw_in 115 (by decide +kernel) (by decide +kernel)
theorem ql_Pg_2 : Cond.lays "QuadMode$Pages" "QuadMode$Pages" "entry" "I" ∈ qw := qw_in 117 (by decide +kernel) (by decide +kernel)
theorem qi_Pg : ∀ w ∈ u_ws qR_Pg qT_Pg 3, w ∈ qw := fun w h => by
  obtain ⟨k, hk, rfl⟩ := List.mem_map.mp h
  have hk := List.mem_range.mp hk
  rcases (show k = 0 ∨ k = 1 ∨ k = 2 by omega) with rfl | rfl | rfl
  · exact ql_Pg_0
  · exact ql_Pg_1
  · exact ql_Pg_2
def qR_Sp : String := "QuadMode$Specifiers"
def qT_Sp : u_T := fun k => match k with
  | _ => ("QuadMode$Specifiers", "core", "LQuadMode$Core;", true)
def qY_Sp : Nat → FieldType := fun k => match k with
  | _ => .object "QuadMode$Core"
theorem qn_Sp : ∀ a, a < 1 → ∀ b, b < 1 → a ≠ b → (qT_Sp a).2.1 ≠ (qT_Sp b).2.1 := by decide +kernel
theorem qy_Sp : ∀ k, k < 1 → parseFieldDescriptor (qT_Sp k).2.2.1 = some (qY_Sp k) := by decide +kernel
theorem ql_Sp_0 : Cond.laysFinal "QuadMode$Specifiers" "QuadMode$Specifiers" "core" "LQuadMode$Core;" ∈ qw := qw_in 209 (by decide +kernel) (by decide +kernel)
theorem qi_Sp : ∀ w ∈ u_ws qR_Sp qT_Sp 1, w ∈ qw := fun w h => by
  obtain ⟨k, hk, rfl⟩ := List.mem_map.mp h
  have hk := List.mem_range.mp hk
  rcases (show k = 0 by omega) with rfl
  · exact ql_Sp_0
def qR_St : String := "QuadMode$Storage"
def qT_St : u_T := fun k => match k with
  | _ => ("QuadMode$Storage", "cells", "[B", true)
def qY_St : Nat → FieldType := fun k => match k with
  | _ => .array .byte
theorem qn_St : ∀ a, a < 1 → ∀ b, b < 1 → a ≠ b → (qT_St a).2.1 ≠ (qT_St b).2.1 := by decide +kernel
theorem qy_St : ∀ k, k < 1 → parseFieldDescriptor (qT_St k).2.2.1 = some (qY_St k) := by decide +kernel
theorem ql_St_0 : Cond.laysFinal "QuadMode$Storage" "QuadMode$Storage" "cells" "[B" ∈ qw := qw_in 99 (by decide +kernel) (by decide +kernel)
theorem qi_St : ∀ w ∈ u_ws qR_St qT_St 1, w ∈ qw := fun w h => by
  obtain ⟨k, hk, rfl⟩ := List.mem_map.mp h
  have hk := List.mem_range.mp hk
  rcases (show k = 0 by omega) with rfl
  · exact ql_St_0
def qR_X : String := "QuadMode"
def qT_X : u_T := fun k => match k with
  | 0 => ("QuadMode", "storage", "LQuadMode$Storage;", true)
  | 1 => ("QuadMode", "inner", "[I", true)
  | 2 => ("QuadMode", "pages", "LQuadMode$Pages;", true)
  | 3 => ("QuadMode", "core", "LQuadMode$Core;", true)
  | 4 => ("QuadMode", "operands", "[LQuadMode$Operand;", true)
  | 5 => ("QuadMode", "specifiers", "LQuadMode$Specifiers;", true)
  | 6 => ("QuadMode", "codes", "LQuadMode$Codes;", true)
  | 7 => ("QuadMode", "stopped", "I", false)
  | 8 => ("QuadMode", "instructions", "I", false)
  | 9 => ("QuadMode", "latest", "I", false)
  | _ => ("QuadMode", "exceptions", "I", false)
def qY_X : Nat → FieldType := fun k => match k with
  | 0 => .object "QuadMode$Storage"
  | 1 => .array .int
  | 2 => .object "QuadMode$Pages"
  | 3 => .object "QuadMode$Core"
  | 4 => .array (.object "QuadMode$Operand")
  | 5 => .object "QuadMode$Specifiers"
  | 6 => .object "QuadMode$Codes"
  | 7 => .int
  | 8 => .int
  | 9 => .int
  | _ => .int
theorem qn_X : ∀ a, a < 11 → ∀ b, b < 11 → a ≠ b → (qT_X a).2.1 ≠ (qT_X b).2.1 := by decide +kernel
theorem qy_X : ∀ k, k < 11 → parseFieldDescriptor (qT_X k).2.2.1 = some (qY_X k) := by decide +kernel
theorem ql_X_0 : Cond.laysFinal "QuadMode" "QuadMode" "storage" "LQuadMode$Storage;" ∈ qw := qw_in 242 (by decide +kernel) (by decide +kernel)
theorem ql_X_1 : Cond.laysFinal "QuadMode" "QuadMode" "inner" "[I" ∈ qw := qw_in 244 (by decide +kernel) (by decide +kernel)
theorem ql_X_2 : Cond.laysFinal "QuadMode" "QuadMode" "pages" "LQuadMode$Pages;" ∈ qw := qw_in 246 (by decide +kernel) (by decide +kernel)
theorem ql_X_3 : Cond.laysFinal "QuadMode" "QuadMode" "core" "LQuadMode$Core;" ∈ qw := qw_in 248 (by decide +kernel) (by decide +kernel)
theorem ql_X_4 : Cond.laysFinal "QuadMode" "QuadMode" "operands" "[LQuadMode$Operand;" ∈ qw := qw_in 250 (by decide +kernel) (by decide +kernel)
theorem ql_X_5 : Cond.laysFinal "QuadMode" "QuadMode" "specifiers" "LQuadMode$Specifiers;" ∈ qw := qw_in 252 (by decide +kernel) (by decide +kernel)
theorem ql_X_6 : Cond.laysFinal "QuadMode" "QuadMode" "codes" "LQuadMode$Codes;" ∈ qw := qw_in 254 (by decide +kernel) (by decide +kernel)
theorem ql_X_7 : Cond.lays "QuadMode" "QuadMode" "stopped" "I" ∈ qw := qw_in 256 (by decide +kernel) (by decide +kernel)
theorem ql_X_8 : Cond.lays "QuadMode" "QuadMode" "instructions" "I" ∈ qw := qw_in 258 (by decide +kernel) (by decide +kernel)
theorem ql_X_9 : Cond.lays "QuadMode" "QuadMode" "latest" "I" ∈ qw := qw_in 260 (by decide +kernel) (by decide +kernel)
theorem ql_X_10 : Cond.lays "QuadMode" "QuadMode" "exceptions" "I" ∈ qw := qw_in 262 (by decide +kernel) (by decide +kernel)
theorem qi_X : ∀ w ∈ u_ws qR_X qT_X 11, w ∈ qw := fun w h => by
  obtain ⟨k, hk, rfl⟩ := List.mem_map.mp h
  have hk := List.mem_range.mp hk
  rcases (show k = 0 ∨ k = 1 ∨ k = 2 ∨ k = 3 ∨ k = 4 ∨ k = 5 ∨ k = 6 ∨ k = 7 ∨ k = 8 ∨ k = 9 ∨ k = 10 by omega) with rfl | rfl | rfl | rfl | rfl | rfl | rfl | rfl | rfl | rfl | rfl
  · exact ql_X_0
  · exact ql_X_1
  · exact ql_X_2
  · exact ql_X_3
  · exact ql_X_4
  · exact ql_X_5
  · exact ql_X_6
  · exact ql_X_7
  · exact ql_X_8
  · exact ql_X_9
  · exact ql_X_10
def qR_M : String := "QuadModeModel"
def qT_M : u_T := fun k => match k with
  | 0 => ("QuadModeModel", "thrown", "I", false)
  | 1 => ("QuadModeModel", "storage", "[I", true)
  | 2 => ("QuadModeModel", "registers", "[I", true)
  | 3 => ("QuadModeModel", "inner", "[I", true)
  | 4 => ("QuadModeModel", "status", "I", false)
  | 5 => ("QuadModeModel", "rest", "I", false)
  | 6 => ("QuadModeModel", "done", "I", false)
  | 7 => ("QuadModeModel", "latest", "I", false)
  | 8 => ("QuadModeModel", "exceptions", "I", false)
  | 9 => ("QuadModeModel", "oldRegisters", "[I", true)
  | 10 => ("QuadModeModel", "oldInner", "[I", true)
  | 11 => ("QuadModeModel", "oldStatus", "I", false)
  | 12 => ("QuadModeModel", "fault", "I", false)
  | 13 => ("QuadModeModel", "wrongAt", "I", false)
  | 14 => ("QuadModeModel", "flag", "I", false)
  | 15 => ("QuadModeModel", "trap", "I", false)
  | 16 => ("QuadModeModel", "value", "[I", true)
  | 17 => ("QuadModeModel", "where", "[I", true)
  | 18 => ("QuadModeModel", "at", "[I", true)
  | 19 => ("QuadModeModel", "entryAt", "I", false)
  | 20 => ("QuadModeModel", "places", "[I", true)
  | _ => ("QuadModeModel", "entries", "[I", true)
def qY_M : Nat → FieldType := fun k => match k with
  | 0 => .int
  | 1 => .array .int
  | 2 => .array .int
  | 3 => .array .int
  | 4 => .int
  | 5 => .int
  | 6 => .int
  | 7 => .int
  | 8 => .int
  | 9 => .array .int
  | 10 => .array .int
  | 11 => .int
  | 12 => .int
  | 13 => .int
  | 14 => .int
  | 15 => .int
  | 16 => .array .int
  | 17 => .array .int
  | 18 => .array .int
  | 19 => .int
  | 20 => .array .int
  | _ => .array .int
theorem qn_M : ∀ a, a < 22 → ∀ b, b < 22 → a ≠ b → (qT_M a).2.1 ≠ (qT_M b).2.1 := by decide +kernel
theorem qy_M : ∀ k, k < 22 → parseFieldDescriptor (qT_M k).2.2.1 = some (qY_M k) := by decide +kernel
theorem ql_M_0 : Cond.lays "QuadModeModel" "QuadModeModel" "thrown" "I" ∈ qw := qw_in 853 (by decide +kernel) (by decide +kernel)
theorem ql_M_1 : Cond.laysFinal "QuadModeModel" "QuadModeModel" "storage" "[I" ∈ qw := qw_in 855 (by decide +kernel) (by decide +kernel)
theorem ql_M_2 : Cond.laysFinal "QuadModeModel" "QuadModeModel" "registers" "[I" ∈ qw := qw_in 857 (by decide +kernel) (by decide +kernel)
theorem ql_M_3 : Cond.laysFinal "QuadModeModel" "QuadModeModel" "inner" "[I" ∈ qw := qw_in 859 (by decide +kernel) (by decide +kernel)
theorem ql_M_4 : Cond.lays "QuadModeModel" "QuadModeModel" "status" "I" ∈ qw := qw_in 861 (by decide +kernel) (by decide +kernel)
theorem ql_M_5 : Cond.lays "QuadModeModel" "QuadModeModel" "rest" "I" ∈ qw := qw_in 863 (by decide +kernel) (by decide +kernel)
theorem ql_M_6 : Cond.lays "QuadModeModel" "QuadModeModel" "done" "I" ∈ qw := qw_in 865 (by decide +kernel) (by decide +kernel)
theorem ql_M_7 : Cond.lays "QuadModeModel" "QuadModeModel" "latest" "I" ∈ qw := qw_in 867 (by decide +kernel) (by decide +kernel)
theorem ql_M_8 : Cond.lays "QuadModeModel" "QuadModeModel" "exceptions" "I" ∈ qw := qw_in 869 (by decide +kernel) (by decide +kernel)
theorem ql_M_9 : Cond.laysFinal "QuadModeModel" "QuadModeModel" "oldRegisters" "[I" ∈ qw := qw_in 871 (by decide +kernel) (by decide +kernel)
theorem ql_M_10 : Cond.laysFinal "QuadModeModel" "QuadModeModel" "oldInner" "[I" ∈ qw := qw_in 873 (by decide +kernel) (by decide +kernel)
theorem ql_M_11 : Cond.lays "QuadModeModel" "QuadModeModel" "oldStatus" "I" ∈ qw := qw_in 875 (by decide +kernel) (by decide +kernel)
theorem ql_M_12 : Cond.lays "QuadModeModel" "QuadModeModel" "fault" "I" ∈ qw := qw_in 877 (by decide +kernel) (by decide +kernel)
theorem ql_M_13 : Cond.lays "QuadModeModel" "QuadModeModel" "wrongAt" "I" ∈ qw := qw_in 879 (by decide +kernel) (by decide +kernel)
theorem ql_M_14 : Cond.lays "QuadModeModel" "QuadModeModel" "flag" "I" ∈ qw := qw_in 881 (by decide +kernel) (by decide +kernel)
theorem ql_M_15 : Cond.lays "QuadModeModel" "QuadModeModel" "trap" "I" ∈ qw := qw_in 883 (by decide +kernel) (by decide +kernel)
theorem ql_M_16 : Cond.laysFinal "QuadModeModel" "QuadModeModel" "value" "[I" ∈ qw := qw_in 885 (by decide +kernel) (by decide +kernel)
theorem ql_M_17 : Cond.laysFinal "QuadModeModel" "QuadModeModel" "where" "[I" ∈ qw := qw_in 887 (by decide +kernel) (by decide +kernel)
theorem ql_M_18 : Cond.laysFinal "QuadModeModel" "QuadModeModel" "at" "[I" ∈ qw := qw_in 889 (by decide +kernel) (by decide +kernel)
theorem ql_M_19 : Cond.lays "QuadModeModel" "QuadModeModel" "entryAt" "I" ∈ qw := qw_in 891 (by decide +kernel) (by decide +kernel)
theorem ql_M_20 : Cond.laysFinal "QuadModeModel" "QuadModeModel" "places" "[I" ∈ qw := qw_in 893 (by decide +kernel) (by decide +kernel)
theorem ql_M_21 : Cond.laysFinal "QuadModeModel" "QuadModeModel" "entries" "[I" ∈ qw := qw_in 895 (by decide +kernel) (by decide +kernel)
theorem qi_M : ∀ w ∈ u_ws qR_M qT_M 22, w ∈ qw := fun w h => by
  obtain ⟨k, hk, rfl⟩ := List.mem_map.mp h
  have hk := List.mem_range.mp hk
  rcases (show k = 0 ∨ k = 1 ∨ k = 2 ∨ k = 3 ∨ k = 4 ∨ k = 5 ∨ k = 6 ∨ k = 7 ∨ k = 8 ∨ k = 9 ∨ k = 10 ∨ k = 11 ∨ k = 12 ∨ k = 13 ∨ k = 14 ∨ k = 15 ∨ k = 16 ∨ k = 17 ∨ k = 18 ∨ k = 19 ∨ k = 20 ∨ k = 21 by omega) with rfl | rfl | rfl | rfl | rfl | rfl | rfl | rfl | rfl | rfl | rfl | rfl | rfl | rfl | rfl | rfl | rfl | rfl | rfl | rfl | rfl | rfl
  · exact ql_M_0
  · exact ql_M_1
  · exact ql_M_2
  · exact ql_M_3
  · exact ql_M_4
  · exact ql_M_5
  · exact ql_M_6
  · exact ql_M_7
  · exact ql_M_8
  · exact ql_M_9
  · exact ql_M_10
  · exact ql_M_11
  · exact ql_M_12
  · exact ql_M_13
  · exact ql_M_14
  · exact ql_M_15
  · exact ql_M_16
  · exact ql_M_17
  · exact ql_M_18
  · exact ql_M_19
  · exact ql_M_20
  · exact ql_M_21
abbrev qCl : List vw_C := [(qR_Cd, qT_Cd, 4), (qR_Co, qT_Co, 14), (qR_Op, qT_Op, 4), (qR_Pg, qT_Pg, 3), (qR_Sp, qT_Sp, 1), (qR_St, qT_St, 1), (qR_X, qT_X, 11), (qR_M, qT_M, 22)]
abbrev qm_St_putByte_c : ByteArray := prog_7_method_3_code
def qm_St_putByte : MethodName := ⟨qR_St, "putByte", "(II)V"⟩
abbrev qm_X_fill_c : ByteArray := prog_1_method_2_code
def qm_X_fill : MethodName := ⟨qR_X, "fill", "(IJ)V"⟩
abbrev qm_St_longAt_c : ByteArray := prog_7_method_4_code
def qm_St_longAt : MethodName := ⟨qR_St, "longAt", "(I)I"⟩
abbrev qm_X_look_c : ByteArray := prog_1_method_3_code
def qm_X_look : MethodName := ⟨qR_X, "look", "(I)I"⟩
abbrev qm_Co_mode_c : ByteArray := prog_3_method_2_code
def qm_Co_mode : MethodName := ⟨qR_Co, "mode", "()I"⟩
abbrev qm_Co_put_c : ByteArray := prog_3_method_5_code
def qm_Co_put : MethodName := ⟨qR_Co, "put", "(II)V"⟩
abbrev qm_X_set_c : ByteArray := prog_1_method_4_code
def qm_X_set : MethodName := ⟨qR_X, "set", "(II)V"⟩
abbrev qm_Co_get_c : ByteArray := prog_3_method_4_code
def qm_Co_get : MethodName := ⟨qR_Co, "get", "(I)I"⟩
abbrev qm_X_register_c : ByteArray := prog_1_method_5_code
def qm_X_register : MethodName := ⟨qR_X, "register", "(I)I"⟩
abbrev qm_Co_hasInner_c : ByteArray := prog_3_method_6_code
def qm_Co_hasInner : MethodName := ⟨qR_Co, "hasInner", "(I)Z"⟩
abbrev qm_Co_putInner_c : ByteArray := prog_3_method_8_code
def qm_Co_putInner : MethodName := ⟨qR_Co, "putInner", "(II)V"⟩
abbrev qm_X_setInner_c : ByteArray := prog_1_method_6_code
def qm_X_setInner : MethodName := ⟨qR_X, "setInner", "(II)V"⟩
abbrev qm_Co_getInner_c : ByteArray := prog_3_method_7_code
def qm_Co_getInner : MethodName := ⟨qR_Co, "getInner", "(I)I"⟩
abbrev qm_X_inner_c : ByteArray := prog_1_method_7_code
def qm_X_inner : MethodName := ⟨qR_X, "inner", "(I)I"⟩
abbrev qm_X_begin_c : ByteArray := prog_1_method_8_code
def qm_X_begin : MethodName := ⟨qR_X, "begin", "(I)V"⟩
abbrev qm_X_status_c : ByteArray := prog_1_method_9_code
def qm_X_status : MethodName := ⟨qR_X, "status", "()I"⟩
abbrev qm_Co_keep_c : ByteArray := prog_3_method_12_code
def qm_Co_keep : MethodName := ⟨qR_Co, "keep", "()V"⟩
abbrev qm_Pg_pageOf_c : ByteArray := prog_5_method_8_code
def qm_Pg_pageOf : MethodName := ⟨qR_Pg, "pageOf", "(I)I"⟩
abbrev qm_Pg_isThere_c : ByteArray := prog_5_method_4_code
def qm_Pg_isThere : MethodName := ⟨qR_Pg, "isThere", "(II)Z"⟩
abbrev qm_Pg_refusal_c : ByteArray := prog_5_method_9_code
def qm_Pg_refusal : MethodName := ⟨qR_Pg, "refusal", "(II)I"⟩
abbrev qm_Pg_isValid_c : ByteArray := prog_5_method_6_code
def qm_Pg_isValid : MethodName := ⟨qR_Pg, "isValid", "(I)Z"⟩
abbrev qm_Pg_inFrame_c : ByteArray := prog_5_method_7_code
def qm_Pg_inFrame : MethodName := ⟨qR_Pg, "inFrame", "(II)I"⟩
abbrev qm_Pg_grants_c : ByteArray := prog_5_method_5_code
def qm_Pg_grants : MethodName := ⟨qR_Pg, "grants", "(IZI)Z"⟩
abbrev qm_Pg_locate_c : ByteArray := prog_5_method_2_code
def qm_Pg_locate : MethodName := ⟨qR_Pg, "locate", "(IZI)I"⟩
abbrev qm_Pg_faultOf_c : ByteArray := prog_5_method_10_code
def qm_Pg_faultOf : MethodName := ⟨qR_Pg, "faultOf", "(I)I"⟩
abbrev qm_Pg_flagOf_c : ByteArray := prog_5_method_11_code
def qm_Pg_flagOf : MethodName := ⟨qR_Pg, "flagOf", "(I)I"⟩
abbrev qm_Co_refuse_c : ByteArray := prog_3_method_15_code
def qm_Co_refuse : MethodName := ⟨qR_Co, "refuse", "(II)V"⟩
abbrev qm_St_byteAt_c : ByteArray := prog_7_method_2_code
def qm_St_byteAt : MethodName := ⟨qR_St, "byteAt", "(I)I"⟩
abbrev qm_Co_read_c : ByteArray := prog_3_method_17_code
def qm_Co_read : MethodName := ⟨qR_Co, "read", "(II)I"⟩
abbrev qm_Co_fetch_c : ByteArray := prog_3_method_19_code
def qm_Co_fetch : MethodName := ⟨qR_Co, "fetch", "(I)I"⟩
abbrev qm_Cd_isAllowed_c : ByteArray := prog_2_method_2_code
def qm_Cd_isAllowed : MethodName := ⟨qR_Cd, "isAllowed", "(I)Z"⟩
abbrev qm_Co_raise_c : ByteArray := prog_3_method_14_code
def qm_Co_raise : MethodName := ⟨qR_Co, "raise", "(I)V"⟩
abbrev qm_Cd_shapeOf_c : ByteArray := prog_2_method_3_code
def qm_Cd_shapeOf : MethodName := ⟨qR_Cd, "shapeOf", "(I)Ljava/lang/String;"⟩
abbrev qm_Sp_isNoWay_c : ByteArray := prog_6_method_5_code
def qm_Sp_isNoWay : MethodName := ⟨qR_Sp, "isNoWay", "(I)Z"⟩
abbrev qm_Sp_isAddress_c : ByteArray := prog_6_method_6_code
def qm_Sp_isAddress : MethodName := ⟨qR_Sp, "isAddress", "(C)Z"⟩
abbrev qm_Sp_suits_c : ByteArray := prog_6_method_3_code
def qm_Sp_suits : MethodName := ⟨qR_Sp, "suits", "(IIC)Z"⟩
abbrev qm_Sp_suitsBehindIndexed_c : ByteArray := prog_6_method_4_code
def qm_Sp_suitsBehindIndexed : MethodName := ⟨qR_Sp, "suitsBehindIndexed", "(II)Z"⟩
abbrev qm_Sp_addressBy_c : ByteArray := prog_6_method_8_code
def qm_Sp_addressBy : MethodName := ⟨qR_Sp, "addressBy", "(III)I"⟩
abbrev qm_Sp_isRead_c : ByteArray := prog_6_method_7_code
def qm_Sp_isRead : MethodName := ⟨qR_Sp, "isRead", "(C)Z"⟩
abbrev qm_Sp_find_c : ByteArray := prog_6_method_2_code
def qm_Sp_find : MethodName := ⟨qR_Sp, "find", "(LQuadMode$Operand;C)V"⟩
abbrev qm_Co_pop_c : ByteArray := prog_3_method_21_code
def qm_Co_pop : MethodName := ⟨qR_Co, "pop", "()I"⟩
abbrev qm_Cd_leaveException_c : ByteArray := prog_2_method_7_code
def qm_Cd_leaveException : MethodName := ⟨qR_Cd, "leaveException", "()V"⟩
abbrev qm_Cd_leaveFrame_c : ByteArray := prog_2_method_27_code
def qm_Cd_leaveFrame : MethodName := ⟨qR_Cd, "leaveFrame", "()V"⟩
abbrev qm_Cd_giveInner_c : ByteArray := prog_2_method_8_code
def qm_Cd_giveInner : MethodName := ⟨qR_Cd, "giveInner", "(II)V"⟩
abbrev qm_Co_setConditions_c : ByteArray := prog_3_method_11_code
def qm_Co_setConditions : MethodName := ⟨qR_Co, "setConditions", "(ZZZZ)V"⟩
abbrev qm_Co_conclude_c : ByteArray := prog_3_method_10_code
def qm_Co_conclude : MethodName := ⟨qR_Co, "conclude", "(IZZ)V"⟩
abbrev qm_Pg_markModified_c : ByteArray := prog_5_method_3_code
def qm_Pg_markModified : MethodName := ⟨qR_Pg, "markModified", "(I)V"⟩
abbrev qm_Co_write_c : ByteArray := prog_3_method_18_code
def qm_Co_write : MethodName := ⟨qR_Co, "write", "(III)V"⟩
abbrev qm_Cd_store_c : ByteArray := prog_2_method_6_code
def qm_Cd_store : MethodName := ⟨qR_Cd, "store", "(LQuadMode$Operand;I)V"⟩
abbrev qm_Cd_takeInner_c : ByteArray := prog_2_method_9_code
def qm_Cd_takeInner : MethodName := ⟨qR_Cd, "takeInner", "(I)V"⟩
abbrev qm_Cd_shift_c : ByteArray := prog_2_method_20_code
def qm_Cd_shift : MethodName := ⟨qR_Cd, "shift", "(II)V"⟩
abbrev qm_Co_push_c : ByteArray := prog_3_method_20_code
def qm_Co_push : MethodName := ⟨qR_Co, "push", "(I)V"⟩
abbrev qm_Cd_enterFrame_c : ByteArray := prog_2_method_26_code
def qm_Cd_enterFrame : MethodName := ⟨qR_Cd, "enterFrame", "()V"⟩
abbrev qm_Co_previous_c : ByteArray := prog_3_method_3_code
def qm_Co_previous : MethodName := ⟨qR_Co, "previous", "()I"⟩
abbrev qm_Co_admits_c : ByteArray := prog_3_method_16_code
def qm_Co_admits : MethodName := ⟨qR_Co, "admits", "(IZI)Z"⟩
abbrev qm_Cd_probe_c : ByteArray := prog_2_method_28_code
def qm_Cd_probe : MethodName := ⟨qR_Cd, "probe", "(Z)V"⟩
abbrev qm_Cd_moved_c : ByteArray := prog_2_method_11_code
def qm_Cd_moved : MethodName := ⟨qR_Cd, "moved", "(II)I"⟩
abbrev qm_Co_has_c : ByteArray := prog_3_method_9_code
def qm_Co_has : MethodName := ⟨qR_Co, "has", "(I)Z"⟩
abbrev qm_Cd_move_c : ByteArray := prog_2_method_10_code
def qm_Cd_move : MethodName := ⟨qR_Cd, "move", "(I)V"⟩
abbrev qm_JI_compare_c : ByteArray := prog_14_method_40_code
def qm_JI_compare : MethodName := ⟨"java/lang/Integer", "compare", "(II)I"⟩
abbrev qm_JI_compareUnsigned_c : ByteArray := prog_14_method_41_code
def qm_JI_compareUnsigned : MethodName := ⟨"java/lang/Integer", "compareUnsigned", "(II)I"⟩
abbrev qm_Cd_compare_c : ByteArray := prog_2_method_12_code
def qm_Cd_compare : MethodName := ⟨qR_Cd, "compare", "(I)V"⟩
abbrev qm_Cd_add_c : ByteArray := prog_2_method_15_code
def qm_Cd_add : MethodName := ⟨qR_Cd, "add", "(II)I"⟩
abbrev qm_Cd_subtract_c : ByteArray := prog_2_method_16_code
def qm_Cd_subtract : MethodName := ⟨qR_Cd, "subtract", "(II)I"⟩
abbrev qm_Cd_multiply_c : ByteArray := prog_2_method_17_code
def qm_Cd_multiply : MethodName := ⟨qR_Cd, "multiply", "(II)I"⟩
abbrev qm_Cd_divide_c : ByteArray := prog_2_method_18_code
def qm_Cd_divide : MethodName := ⟨qR_Cd, "divide", "(II)I"⟩
abbrev qm_Cd_bits_c : ByteArray := prog_2_method_19_code
def qm_Cd_bits : MethodName := ⟨qR_Cd, "bits", "(I)I"⟩
abbrev qm_Cd_calculated_c : ByteArray := prog_2_method_14_code
def qm_Cd_calculated : MethodName := ⟨qR_Cd, "calculated", "(III)I"⟩
abbrev qm_Cd_calculate_c : ByteArray := prog_2_method_13_code
def qm_Cd_calculate : MethodName := ⟨qR_Cd, "calculate", "(I)V"⟩
abbrev qm_Cd_handAddress_c : ByteArray := prog_2_method_21_code
def qm_Cd_handAddress : MethodName := ⟨qR_Cd, "handAddress", "(I)V"⟩
abbrev qm_Cd_go_c : ByteArray := prog_2_method_22_code
def qm_Cd_go : MethodName := ⟨qR_Cd, "go", "(I)V"⟩
abbrev qm_Cd_holds_c : ByteArray := prog_2_method_24_code
def qm_Cd_holds : MethodName := ⟨qR_Cd, "holds", "(I)Z"⟩
abbrev qm_Cd_branch_c : ByteArray := prog_2_method_23_code
def qm_Cd_branch : MethodName := ⟨qR_Cd, "branch", "(I)V"⟩
abbrev qm_Cd_count_c : ByteArray := prog_2_method_25_code
def qm_Cd_count : MethodName := ⟨qR_Cd, "count", "(I)V"⟩
abbrev qm_Cd_noteOverflow_c : ByteArray := prog_2_method_5_code
def qm_Cd_noteOverflow : MethodName := ⟨qR_Cd, "noteOverflow", "(I)V"⟩
abbrev qm_Cd_execute_c : ByteArray := prog_2_method_4_code
def qm_Cd_execute : MethodName := ⟨qR_Cd, "execute", "(I)V"⟩
abbrev qm_Co_takeBack_c : ByteArray := prog_3_method_13_code
def qm_Co_takeBack : MethodName := ⟨qR_Co, "takeBack", "()V"⟩
abbrev qm_X_except_c : ByteArray := prog_1_method_15_code
def qm_X_except : MethodName := ⟨qR_X, "except", "(IIIII)V"⟩
abbrev qm_X_settle_c : ByteArray := prog_1_method_14_code
def qm_X_settle : MethodName := ⟨qR_X, "settle", "(I)V"⟩
abbrev qm_X_reach_c : ByteArray := prog_1_method_11_code
def qm_X_reach : MethodName := ⟨qR_X, "reach", "(IZI)I"⟩
abbrev qm_X_state_c : ByteArray := prog_1_method_12_code
def qm_X_state : MethodName := ⟨qR_X, "state", "(I)I"⟩
abbrev qm_M_thrown_c : ByteArray := prog_9_method_2_code
def qm_M_thrown : MethodName := ⟨qR_M, "thrown", "()I"⟩
abbrev qm_M_fill_c : ByteArray := prog_9_method_40_code
def qm_M_fill : MethodName := ⟨qR_M, "fill", "(IJ)V"⟩
abbrev qm_M_bare_c : ByteArray := prog_9_method_5_code
def qm_M_bare : MethodName := ⟨qR_M, "bare", "(I)I"⟩
abbrev qm_M_look_c : ByteArray := prog_9_method_41_code
def qm_M_look : MethodName := ⟨qR_M, "look", "(I)I"⟩
abbrev qm_M_mode_c : ByteArray := prog_9_method_4_code
def qm_M_mode : MethodName := ⟨qR_M, "mode", "()I"⟩
abbrev qm_M_put_c : ByteArray := prog_9_method_13_code
def qm_M_put : MethodName := ⟨qR_M, "put", "(II)V"⟩
abbrev qm_M_set_c : ByteArray := prog_9_method_42_code
def qm_M_set : MethodName := ⟨qR_M, "set", "(II)V"⟩
abbrev qm_M_fail_c : ByteArray := prog_9_method_3_code
def qm_M_fail : MethodName := ⟨qR_M, "fail", "(I)I"⟩
abbrev qm_M_get_c : ByteArray := prog_9_method_12_code
def qm_M_get : MethodName := ⟨qR_M, "get", "(I)I"⟩
abbrev qm_M_register_c : ByteArray := prog_9_method_43_code
def qm_M_register : MethodName := ⟨qR_M, "register", "(I)I"⟩
abbrev qm_M_isInner_c : ByteArray := prog_9_method_14_code
def qm_M_isInner : MethodName := ⟨qR_M, "isInner", "(I)Z"⟩
abbrev qm_M_setInner_c : ByteArray := prog_9_method_44_code
def qm_M_setInner : MethodName := ⟨qR_M, "setInner", "(II)V"⟩
abbrev qm_M_inner_c : ByteArray := prog_9_method_45_code
def qm_M_inner : MethodName := ⟨qR_M, "inner", "(I)I"⟩
abbrev qm_M_begin_c : ByteArray := prog_9_method_46_code
def qm_M_begin : MethodName := ⟨qR_M, "begin", "(I)V"⟩
abbrev qm_M_status_c : ByteArray := prog_9_method_47_code
def qm_M_status : MethodName := ⟨qR_M, "status", "()I"⟩
abbrev qm_M_keep_c : ByteArray := prog_9_method_17_code
def qm_M_keep : MethodName := ⟨qR_M, "keep", "()V"⟩
abbrev qm_M_below_c : ByteArray := prog_9_method_6_code
def qm_M_below : MethodName := ⟨qR_M, "below", "(II)Z"⟩
abbrev qm_M_find_c : ByteArray := prog_9_method_7_code
def qm_M_find : MethodName := ⟨qR_M, "find", "(IZI)I"⟩
abbrev qm_M_wrong_c : ByteArray := prog_9_method_8_code
def qm_M_wrong : MethodName := ⟨qR_M, "wrong", "(III)V"⟩
abbrev qm_M_readByte_c : ByteArray := prog_9_method_9_code
def qm_M_readByte : MethodName := ⟨qR_M, "readByte", "(I)I"⟩
abbrev qm_M_next_c : ByteArray := prog_9_method_19_code
def qm_M_next : MethodName := ⟨qR_M, "next", "()I"⟩
abbrev qm_M_shape_c : ByteArray := prog_9_method_21_code
def qm_M_shape : MethodName := ⟨qR_M, "shape", "(I)I"⟩
abbrev qm_M_signed_c : ByteArray := prog_9_method_20_code
def qm_M_signed : MethodName := ⟨qR_M, "signed", "(I)I"⟩
abbrev qm_M_readLong_c : ByteArray := prog_9_method_10_code
def qm_M_readLong : MethodName := ⟨qR_M, "readLong", "(I)I"⟩
abbrev qm_M_operand_c : ByteArray := prog_9_method_22_code
def qm_M_operand : MethodName := ⟨qR_M, "operand", "(II)V"⟩
abbrev qm_M_pop_c : ByteArray := prog_9_method_16_code
def qm_M_pop : MethodName := ⟨qR_M, "pop", "()I"⟩
abbrev qm_M_endException_c : ByteArray := prog_9_method_32_code
def qm_M_endException : MethodName := ⟨qR_M, "endException", "()V"⟩
abbrev qm_M_comeBack_c : ByteArray := prog_9_method_31_code
def qm_M_comeBack : MethodName := ⟨qR_M, "comeBack", "()V"⟩
abbrev qm_M_mark_c : ByteArray := prog_9_method_25_code
def qm_M_mark : MethodName := ⟨qR_M, "mark", "(IZZ)V"⟩
abbrev qm_M_write_c : ByteArray := prog_9_method_11_code
def qm_M_write : MethodName := ⟨qR_M, "write", "(III)V"⟩
abbrev qm_M_give_c : ByteArray := prog_9_method_23_code
def qm_M_give : MethodName := ⟨qR_M, "give", "(III)V"⟩
abbrev qm_M_innerOnes_c : ByteArray := prog_9_method_34_code
def qm_M_innerOnes : MethodName := ⟨qR_M, "innerOnes", "(I)V"⟩
abbrev qm_M_has_c : ByteArray := prog_9_method_24_code
def qm_M_has : MethodName := ⟨qR_M, "has", "(I)Z"⟩
abbrev qm_M_push_c : ByteArray := prog_9_method_15_code
def qm_M_push : MethodName := ⟨qR_M, "push", "(I)V"⟩
abbrev qm_M_move_c : ByteArray := prog_9_method_35_code
def qm_M_move : MethodName := ⟨qR_M, "move", "(I)V"⟩
abbrev qm_M_reckon_c : ByteArray := prog_9_method_26_code
def qm_M_reckon : MethodName := ⟨qR_M, "reckon", "(IIII)V"⟩
abbrev qm_M_shift_c : ByteArray := prog_9_method_27_code
def qm_M_shift : MethodName := ⟨qR_M, "shift", "(II)V"⟩
abbrev qm_M_go_c : ByteArray := prog_9_method_36_code
def qm_M_go : MethodName := ⟨qR_M, "go", "(I)V"⟩
abbrev qm_M_isMet_c : ByteArray := prog_9_method_28_code
def qm_M_isMet : MethodName := ⟨qR_M, "isMet", "(I)Z"⟩
abbrev qm_M_count_c : ByteArray := prog_9_method_29_code
def qm_M_count : MethodName := ⟨qR_M, "count", "(I)V"⟩
abbrev qm_M_callFrame_c : ByteArray := prog_9_method_30_code
def qm_M_callFrame : MethodName := ⟨qR_M, "callFrame", "()V"⟩
abbrev qm_M_probe_c : ByteArray := prog_9_method_33_code
def qm_M_probe : MethodName := ⟨qR_M, "probe", "(Z)V"⟩
abbrev qm_M_work_c : ByteArray := prog_9_method_37_code
def qm_M_work : MethodName := ⟨qR_M, "work", "(I)V"⟩
abbrev qm_M_bringBack_c : ByteArray := prog_9_method_18_code
def qm_M_bringBack : MethodName := ⟨qR_M, "bringBack", "()V"⟩
abbrev qm_M_raise_c : ByteArray := prog_9_method_38_code
def qm_M_raise : MethodName := ⟨qR_M, "raise", "(III)V"⟩
abbrev qm_M_instruction_c : ByteArray := prog_9_method_39_code
def qm_M_instruction : MethodName := ⟨qR_M, "instruction", "()V"⟩
abbrev qm_M_run_c : ByteArray := prog_9_method_48_code
def qm_M_run : MethodName := ⟨qR_M, "run", "(I)I"⟩
abbrev qm_M_reach_c : ByteArray := prog_9_method_49_code
def qm_M_reach : MethodName := ⟨qR_M, "reach", "(IZI)I"⟩
abbrev qm_M_state_c : ByteArray := prog_9_method_50_code
def qm_M_state : MethodName := ⟨qR_M, "state", "(I)I"⟩
theorem qm_St_putByte_d : qm_St_putByte.cls ≠ "java/lang/invoke/MethodHandle" ∧ qm_St_putByte.cls ≠ "java/lang/invoke/VarHandle" ∧ (parseMethodDescriptor qm_St_putByte.desc).map (fun d => d.parameters.length) = some 2 := by decide +kernel
theorem qm_X_fill_d : qm_X_fill.cls ≠ "java/lang/invoke/MethodHandle" ∧ qm_X_fill.cls ≠ "java/lang/invoke/VarHandle" ∧ (parseMethodDescriptor qm_X_fill.desc).map (fun d => d.parameters.length) = some 2 := by decide +kernel
theorem qm_St_longAt_d : qm_St_longAt.cls ≠ "java/lang/invoke/MethodHandle" ∧ qm_St_longAt.cls ≠ "java/lang/invoke/VarHandle" ∧ (parseMethodDescriptor qm_St_longAt.desc).map (fun d => d.parameters.length) = some 1 := by decide +kernel
theorem qm_X_look_d : qm_X_look.cls ≠ "java/lang/invoke/MethodHandle" ∧ qm_X_look.cls ≠ "java/lang/invoke/VarHandle" ∧ (parseMethodDescriptor qm_X_look.desc).map (fun d => d.parameters.length) = some 1 := by decide +kernel
theorem qm_Co_mode_d : qm_Co_mode.cls ≠ "java/lang/invoke/MethodHandle" ∧ qm_Co_mode.cls ≠ "java/lang/invoke/VarHandle" ∧ (parseMethodDescriptor qm_Co_mode.desc).map (fun d => d.parameters.length) = some 0 := by decide +kernel
theorem qm_Co_put_d : qm_Co_put.cls ≠ "java/lang/invoke/MethodHandle" ∧ qm_Co_put.cls ≠ "java/lang/invoke/VarHandle" ∧ (parseMethodDescriptor qm_Co_put.desc).map (fun d => d.parameters.length) = some 2 := by decide +kernel
theorem qm_X_set_d : qm_X_set.cls ≠ "java/lang/invoke/MethodHandle" ∧ qm_X_set.cls ≠ "java/lang/invoke/VarHandle" ∧ (parseMethodDescriptor qm_X_set.desc).map (fun d => d.parameters.length) = some 2 := by decide +kernel
theorem qm_Co_get_d : qm_Co_get.cls ≠ "java/lang/invoke/MethodHandle" ∧ qm_Co_get.cls ≠ "java/lang/invoke/VarHandle" ∧ (parseMethodDescriptor qm_Co_get.desc).map (fun d => d.parameters.length) = some 1 := by decide +kernel
theorem qm_X_register_d : qm_X_register.cls ≠ "java/lang/invoke/MethodHandle" ∧ qm_X_register.cls ≠ "java/lang/invoke/VarHandle" ∧ (parseMethodDescriptor qm_X_register.desc).map (fun d => d.parameters.length) = some 1 := by decide +kernel
theorem qm_Co_hasInner_d : qm_Co_hasInner.cls ≠ "java/lang/invoke/MethodHandle" ∧ qm_Co_hasInner.cls ≠ "java/lang/invoke/VarHandle" ∧ (parseMethodDescriptor qm_Co_hasInner.desc).map (fun d => d.parameters.length) = some 1 := by decide +kernel
theorem qm_Co_putInner_d : qm_Co_putInner.cls ≠ "java/lang/invoke/MethodHandle" ∧ qm_Co_putInner.cls ≠ "java/lang/invoke/VarHandle" ∧ (parseMethodDescriptor qm_Co_putInner.desc).map (fun d => d.parameters.length) = some 2 := by decide +kernel
theorem qm_X_setInner_d : qm_X_setInner.cls ≠ "java/lang/invoke/MethodHandle" ∧ qm_X_setInner.cls ≠ "java/lang/invoke/VarHandle" ∧ (parseMethodDescriptor qm_X_setInner.desc).map (fun d => d.parameters.length) = some 2 := by decide +kernel
theorem qm_Co_getInner_d : qm_Co_getInner.cls ≠ "java/lang/invoke/MethodHandle" ∧ qm_Co_getInner.cls ≠ "java/lang/invoke/VarHandle" ∧ (parseMethodDescriptor qm_Co_getInner.desc).map (fun d => d.parameters.length) = some 1 := by decide +kernel
theorem qm_X_inner_d : qm_X_inner.cls ≠ "java/lang/invoke/MethodHandle" ∧ qm_X_inner.cls ≠ "java/lang/invoke/VarHandle" ∧ (parseMethodDescriptor qm_X_inner.desc).map (fun d => d.parameters.length) = some 1 := by decide +kernel
theorem qm_X_begin_d : qm_X_begin.cls ≠ "java/lang/invoke/MethodHandle" ∧ qm_X_begin.cls ≠ "java/lang/invoke/VarHandle" ∧ (parseMethodDescriptor qm_X_begin.desc).map (fun d => d.parameters.length) = some 1 := by decide +kernel
theorem qm_X_status_d : qm_X_status.cls ≠ "java/lang/invoke/MethodHandle" ∧ qm_X_status.cls ≠ "java/lang/invoke/VarHandle" ∧ (parseMethodDescriptor qm_X_status.desc).map (fun d => d.parameters.length) = some 0 := by decide +kernel
theorem qm_Co_keep_d : qm_Co_keep.cls ≠ "java/lang/invoke/MethodHandle" ∧ qm_Co_keep.cls ≠ "java/lang/invoke/VarHandle" ∧ (parseMethodDescriptor qm_Co_keep.desc).map (fun d => d.parameters.length) = some 0 := by decide +kernel
theorem qm_Pg_pageOf_d : qm_Pg_pageOf.cls ≠ "java/lang/invoke/MethodHandle" ∧ qm_Pg_pageOf.cls ≠ "java/lang/invoke/VarHandle" ∧ (parseMethodDescriptor qm_Pg_pageOf.desc).map (fun d => d.parameters.length) = some 1 := by decide +kernel
theorem qm_Pg_isThere_d : qm_Pg_isThere.cls ≠ "java/lang/invoke/MethodHandle" ∧ qm_Pg_isThere.cls ≠ "java/lang/invoke/VarHandle" ∧ (parseMethodDescriptor qm_Pg_isThere.desc).map (fun d => d.parameters.length) = some 2 := by decide +kernel
theorem qm_Pg_refusal_d : qm_Pg_refusal.cls ≠ "java/lang/invoke/MethodHandle" ∧ qm_Pg_refusal.cls ≠ "java/lang/invoke/VarHandle" ∧ (parseMethodDescriptor qm_Pg_refusal.desc).map (fun d => d.parameters.length) = some 2 := by decide +kernel
theorem qm_Pg_isValid_d : qm_Pg_isValid.cls ≠ "java/lang/invoke/MethodHandle" ∧ qm_Pg_isValid.cls ≠ "java/lang/invoke/VarHandle" ∧ (parseMethodDescriptor qm_Pg_isValid.desc).map (fun d => d.parameters.length) = some 1 := by decide +kernel
theorem qm_Pg_inFrame_d : qm_Pg_inFrame.cls ≠ "java/lang/invoke/MethodHandle" ∧ qm_Pg_inFrame.cls ≠ "java/lang/invoke/VarHandle" ∧ (parseMethodDescriptor qm_Pg_inFrame.desc).map (fun d => d.parameters.length) = some 2 := by decide +kernel
theorem qm_Pg_grants_d : qm_Pg_grants.cls ≠ "java/lang/invoke/MethodHandle" ∧ qm_Pg_grants.cls ≠ "java/lang/invoke/VarHandle" ∧ (parseMethodDescriptor qm_Pg_grants.desc).map (fun d => d.parameters.length) = some 3 := by decide +kernel
theorem qm_Pg_locate_d : qm_Pg_locate.cls ≠ "java/lang/invoke/MethodHandle" ∧ qm_Pg_locate.cls ≠ "java/lang/invoke/VarHandle" ∧ (parseMethodDescriptor qm_Pg_locate.desc).map (fun d => d.parameters.length) = some 3 := by decide +kernel
theorem qm_Pg_faultOf_d : qm_Pg_faultOf.cls ≠ "java/lang/invoke/MethodHandle" ∧ qm_Pg_faultOf.cls ≠ "java/lang/invoke/VarHandle" ∧ (parseMethodDescriptor qm_Pg_faultOf.desc).map (fun d => d.parameters.length) = some 1 := by decide +kernel
theorem qm_Pg_flagOf_d : qm_Pg_flagOf.cls ≠ "java/lang/invoke/MethodHandle" ∧ qm_Pg_flagOf.cls ≠ "java/lang/invoke/VarHandle" ∧ (parseMethodDescriptor qm_Pg_flagOf.desc).map (fun d => d.parameters.length) = some 1 := by decide +kernel
theorem qm_Co_refuse_d : qm_Co_refuse.cls ≠ "java/lang/invoke/MethodHandle" ∧ qm_Co_refuse.cls ≠ "java/lang/invoke/VarHandle" ∧ (parseMethodDescriptor qm_Co_refuse.desc).map (fun d => d.parameters.length) = some 2 := by decide +kernel
theorem qm_St_byteAt_d : qm_St_byteAt.cls ≠ "java/lang/invoke/MethodHandle" ∧ qm_St_byteAt.cls ≠ "java/lang/invoke/VarHandle" ∧ (parseMethodDescriptor qm_St_byteAt.desc).map (fun d => d.parameters.length) = some 1 := by decide +kernel
theorem qm_Co_read_d : qm_Co_read.cls ≠ "java/lang/invoke/MethodHandle" ∧ qm_Co_read.cls ≠ "java/lang/invoke/VarHandle" ∧ (parseMethodDescriptor qm_Co_read.desc).map (fun d => d.parameters.length) = some 2 := by decide +kernel
theorem qm_Co_fetch_d : qm_Co_fetch.cls ≠ "java/lang/invoke/MethodHandle" ∧ qm_Co_fetch.cls ≠ "java/lang/invoke/VarHandle" ∧ (parseMethodDescriptor qm_Co_fetch.desc).map (fun d => d.parameters.length) = some 1 := by decide +kernel
theorem qm_Cd_isAllowed_d : qm_Cd_isAllowed.cls ≠ "java/lang/invoke/MethodHandle" ∧ qm_Cd_isAllowed.cls ≠ "java/lang/invoke/VarHandle" ∧ (parseMethodDescriptor qm_Cd_isAllowed.desc).map (fun d => d.parameters.length) = some 1 := by decide +kernel
theorem qm_Co_raise_d : qm_Co_raise.cls ≠ "java/lang/invoke/MethodHandle" ∧ qm_Co_raise.cls ≠ "java/lang/invoke/VarHandle" ∧ (parseMethodDescriptor qm_Co_raise.desc).map (fun d => d.parameters.length) = some 1 := by decide +kernel
theorem qm_Cd_shapeOf_d : qm_Cd_shapeOf.cls ≠ "java/lang/invoke/MethodHandle" ∧ qm_Cd_shapeOf.cls ≠ "java/lang/invoke/VarHandle" ∧ (parseMethodDescriptor qm_Cd_shapeOf.desc).map (fun d => d.parameters.length) = some 1 := by decide +kernel
theorem qm_Sp_isNoWay_d : qm_Sp_isNoWay.cls ≠ "java/lang/invoke/MethodHandle" ∧ qm_Sp_isNoWay.cls ≠ "java/lang/invoke/VarHandle" ∧ (parseMethodDescriptor qm_Sp_isNoWay.desc).map (fun d => d.parameters.length) = some 1 := by decide +kernel
theorem qm_Sp_isAddress_d : qm_Sp_isAddress.cls ≠ "java/lang/invoke/MethodHandle" ∧ qm_Sp_isAddress.cls ≠ "java/lang/invoke/VarHandle" ∧ (parseMethodDescriptor qm_Sp_isAddress.desc).map (fun d => d.parameters.length) = some 1 := by decide +kernel
theorem qm_Sp_suits_d : qm_Sp_suits.cls ≠ "java/lang/invoke/MethodHandle" ∧ qm_Sp_suits.cls ≠ "java/lang/invoke/VarHandle" ∧ (parseMethodDescriptor qm_Sp_suits.desc).map (fun d => d.parameters.length) = some 3 := by decide +kernel
theorem qm_Sp_suitsBehindIndexed_d : qm_Sp_suitsBehindIndexed.cls ≠ "java/lang/invoke/MethodHandle" ∧ qm_Sp_suitsBehindIndexed.cls ≠ "java/lang/invoke/VarHandle" ∧ (parseMethodDescriptor qm_Sp_suitsBehindIndexed.desc).map (fun d => d.parameters.length) = some 2 := by decide +kernel
theorem qm_Sp_addressBy_d : qm_Sp_addressBy.cls ≠ "java/lang/invoke/MethodHandle" ∧ qm_Sp_addressBy.cls ≠ "java/lang/invoke/VarHandle" ∧ (parseMethodDescriptor qm_Sp_addressBy.desc).map (fun d => d.parameters.length) = some 3 := by decide +kernel
theorem qm_Sp_isRead_d : qm_Sp_isRead.cls ≠ "java/lang/invoke/MethodHandle" ∧ qm_Sp_isRead.cls ≠ "java/lang/invoke/VarHandle" ∧ (parseMethodDescriptor qm_Sp_isRead.desc).map (fun d => d.parameters.length) = some 1 := by decide +kernel
theorem qm_Sp_find_d : qm_Sp_find.cls ≠ "java/lang/invoke/MethodHandle" ∧ qm_Sp_find.cls ≠ "java/lang/invoke/VarHandle" ∧ (parseMethodDescriptor qm_Sp_find.desc).map (fun d => d.parameters.length) = some 2 := by decide +kernel
theorem qm_Co_pop_d : qm_Co_pop.cls ≠ "java/lang/invoke/MethodHandle" ∧ qm_Co_pop.cls ≠ "java/lang/invoke/VarHandle" ∧ (parseMethodDescriptor qm_Co_pop.desc).map (fun d => d.parameters.length) = some 0 := by decide +kernel
theorem qm_Cd_leaveException_d : qm_Cd_leaveException.cls ≠ "java/lang/invoke/MethodHandle" ∧ qm_Cd_leaveException.cls ≠ "java/lang/invoke/VarHandle" ∧ (parseMethodDescriptor qm_Cd_leaveException.desc).map (fun d => d.parameters.length) = some 0 := by decide +kernel
theorem qm_Cd_leaveFrame_d : qm_Cd_leaveFrame.cls ≠ "java/lang/invoke/MethodHandle" ∧ qm_Cd_leaveFrame.cls ≠ "java/lang/invoke/VarHandle" ∧ (parseMethodDescriptor qm_Cd_leaveFrame.desc).map (fun d => d.parameters.length) = some 0 := by decide +kernel
theorem qm_Cd_giveInner_d : qm_Cd_giveInner.cls ≠ "java/lang/invoke/MethodHandle" ∧ qm_Cd_giveInner.cls ≠ "java/lang/invoke/VarHandle" ∧ (parseMethodDescriptor qm_Cd_giveInner.desc).map (fun d => d.parameters.length) = some 2 := by decide +kernel
theorem qm_Co_setConditions_d : qm_Co_setConditions.cls ≠ "java/lang/invoke/MethodHandle" ∧ qm_Co_setConditions.cls ≠ "java/lang/invoke/VarHandle" ∧ (parseMethodDescriptor qm_Co_setConditions.desc).map (fun d => d.parameters.length) = some 4 := by decide +kernel
theorem qm_Co_conclude_d : qm_Co_conclude.cls ≠ "java/lang/invoke/MethodHandle" ∧ qm_Co_conclude.cls ≠ "java/lang/invoke/VarHandle" ∧ (parseMethodDescriptor qm_Co_conclude.desc).map (fun d => d.parameters.length) = some 3 := by decide +kernel
theorem qm_Pg_markModified_d : qm_Pg_markModified.cls ≠ "java/lang/invoke/MethodHandle" ∧ qm_Pg_markModified.cls ≠ "java/lang/invoke/VarHandle" ∧ (parseMethodDescriptor qm_Pg_markModified.desc).map (fun d => d.parameters.length) = some 1 := by decide +kernel
theorem qm_Co_write_d : qm_Co_write.cls ≠ "java/lang/invoke/MethodHandle" ∧ qm_Co_write.cls ≠ "java/lang/invoke/VarHandle" ∧ (parseMethodDescriptor qm_Co_write.desc).map (fun d => d.parameters.length) = some 3 := by decide +kernel
theorem qm_Cd_store_d : qm_Cd_store.cls ≠ "java/lang/invoke/MethodHandle" ∧ qm_Cd_store.cls ≠ "java/lang/invoke/VarHandle" ∧ (parseMethodDescriptor qm_Cd_store.desc).map (fun d => d.parameters.length) = some 2 := by decide +kernel
theorem qm_Cd_takeInner_d : qm_Cd_takeInner.cls ≠ "java/lang/invoke/MethodHandle" ∧ qm_Cd_takeInner.cls ≠ "java/lang/invoke/VarHandle" ∧ (parseMethodDescriptor qm_Cd_takeInner.desc).map (fun d => d.parameters.length) = some 1 := by decide +kernel
theorem qm_Cd_shift_d : qm_Cd_shift.cls ≠ "java/lang/invoke/MethodHandle" ∧ qm_Cd_shift.cls ≠ "java/lang/invoke/VarHandle" ∧ (parseMethodDescriptor qm_Cd_shift.desc).map (fun d => d.parameters.length) = some 2 := by decide +kernel
theorem qm_Co_push_d : qm_Co_push.cls ≠ "java/lang/invoke/MethodHandle" ∧ qm_Co_push.cls ≠ "java/lang/invoke/VarHandle" ∧ (parseMethodDescriptor qm_Co_push.desc).map (fun d => d.parameters.length) = some 1 := by decide +kernel
theorem qm_Cd_enterFrame_d : qm_Cd_enterFrame.cls ≠ "java/lang/invoke/MethodHandle" ∧ qm_Cd_enterFrame.cls ≠ "java/lang/invoke/VarHandle" ∧ (parseMethodDescriptor qm_Cd_enterFrame.desc).map (fun d => d.parameters.length) = some 0 := by decide +kernel
theorem qm_Co_previous_d : qm_Co_previous.cls ≠ "java/lang/invoke/MethodHandle" ∧ qm_Co_previous.cls ≠ "java/lang/invoke/VarHandle" ∧ (parseMethodDescriptor qm_Co_previous.desc).map (fun d => d.parameters.length) = some 0 := by decide +kernel
theorem qm_Co_admits_d : qm_Co_admits.cls ≠ "java/lang/invoke/MethodHandle" ∧ qm_Co_admits.cls ≠ "java/lang/invoke/VarHandle" ∧ (parseMethodDescriptor qm_Co_admits.desc).map (fun d => d.parameters.length) = some 3 := by decide +kernel
theorem qm_Cd_probe_d : qm_Cd_probe.cls ≠ "java/lang/invoke/MethodHandle" ∧ qm_Cd_probe.cls ≠ "java/lang/invoke/VarHandle" ∧ (parseMethodDescriptor qm_Cd_probe.desc).map (fun d => d.parameters.length) = some 1 := by decide +kernel
theorem qm_Cd_moved_d : qm_Cd_moved.cls ≠ "java/lang/invoke/MethodHandle" ∧ qm_Cd_moved.cls ≠ "java/lang/invoke/VarHandle" ∧ (parseMethodDescriptor qm_Cd_moved.desc).map (fun d => d.parameters.length) = some 2 := by decide +kernel
theorem qm_Co_has_d : qm_Co_has.cls ≠ "java/lang/invoke/MethodHandle" ∧ qm_Co_has.cls ≠ "java/lang/invoke/VarHandle" ∧ (parseMethodDescriptor qm_Co_has.desc).map (fun d => d.parameters.length) = some 1 := by decide +kernel
theorem qm_Cd_move_d : qm_Cd_move.cls ≠ "java/lang/invoke/MethodHandle" ∧ qm_Cd_move.cls ≠ "java/lang/invoke/VarHandle" ∧ (parseMethodDescriptor qm_Cd_move.desc).map (fun d => d.parameters.length) = some 1 := by decide +kernel
theorem qm_JI_compare_d : qm_JI_compare.cls ≠ "java/lang/invoke/MethodHandle" ∧ qm_JI_compare.cls ≠ "java/lang/invoke/VarHandle" ∧ (parseMethodDescriptor qm_JI_compare.desc).map (fun d => d.parameters.length) = some 2 := by decide +kernel
theorem qm_JI_compareUnsigned_d : qm_JI_compareUnsigned.cls ≠ "java/lang/invoke/MethodHandle" ∧ qm_JI_compareUnsigned.cls ≠ "java/lang/invoke/VarHandle" ∧ (parseMethodDescriptor qm_JI_compareUnsigned.desc).map (fun d => d.parameters.length) = some 2 := by decide +kernel
theorem qm_Cd_compare_d : qm_Cd_compare.cls ≠ "java/lang/invoke/MethodHandle" ∧ qm_Cd_compare.cls ≠ "java/lang/invoke/VarHandle" ∧ (parseMethodDescriptor qm_Cd_compare.desc).map (fun d => d.parameters.length) = some 1 := by decide +kernel
theorem qm_Cd_add_d : qm_Cd_add.cls ≠ "java/lang/invoke/MethodHandle" ∧ qm_Cd_add.cls ≠ "java/lang/invoke/VarHandle" ∧ (parseMethodDescriptor qm_Cd_add.desc).map (fun d => d.parameters.length) = some 2 := by decide +kernel
theorem qm_Cd_subtract_d : qm_Cd_subtract.cls ≠ "java/lang/invoke/MethodHandle" ∧ qm_Cd_subtract.cls ≠ "java/lang/invoke/VarHandle" ∧ (parseMethodDescriptor qm_Cd_subtract.desc).map (fun d => d.parameters.length) = some 2 := by decide +kernel
theorem qm_Cd_multiply_d : qm_Cd_multiply.cls ≠ "java/lang/invoke/MethodHandle" ∧ qm_Cd_multiply.cls ≠ "java/lang/invoke/VarHandle" ∧ (parseMethodDescriptor qm_Cd_multiply.desc).map (fun d => d.parameters.length) = some 2 := by decide +kernel
theorem qm_Cd_divide_d : qm_Cd_divide.cls ≠ "java/lang/invoke/MethodHandle" ∧ qm_Cd_divide.cls ≠ "java/lang/invoke/VarHandle" ∧ (parseMethodDescriptor qm_Cd_divide.desc).map (fun d => d.parameters.length) = some 2 := by decide +kernel
theorem qm_Cd_bits_d : qm_Cd_bits.cls ≠ "java/lang/invoke/MethodHandle" ∧ qm_Cd_bits.cls ≠ "java/lang/invoke/VarHandle" ∧ (parseMethodDescriptor qm_Cd_bits.desc).map (fun d => d.parameters.length) = some 1 := by decide +kernel
theorem qm_Cd_calculated_d : qm_Cd_calculated.cls ≠ "java/lang/invoke/MethodHandle" ∧ qm_Cd_calculated.cls ≠ "java/lang/invoke/VarHandle" ∧ (parseMethodDescriptor qm_Cd_calculated.desc).map (fun d => d.parameters.length) = some 3 := by decide +kernel
theorem qm_Cd_calculate_d : qm_Cd_calculate.cls ≠ "java/lang/invoke/MethodHandle" ∧ qm_Cd_calculate.cls ≠ "java/lang/invoke/VarHandle" ∧ (parseMethodDescriptor qm_Cd_calculate.desc).map (fun d => d.parameters.length) = some 1 := by decide +kernel
theorem qm_Cd_handAddress_d : qm_Cd_handAddress.cls ≠ "java/lang/invoke/MethodHandle" ∧ qm_Cd_handAddress.cls ≠ "java/lang/invoke/VarHandle" ∧ (parseMethodDescriptor qm_Cd_handAddress.desc).map (fun d => d.parameters.length) = some 1 := by decide +kernel
theorem qm_Cd_go_d : qm_Cd_go.cls ≠ "java/lang/invoke/MethodHandle" ∧ qm_Cd_go.cls ≠ "java/lang/invoke/VarHandle" ∧ (parseMethodDescriptor qm_Cd_go.desc).map (fun d => d.parameters.length) = some 1 := by decide +kernel
theorem qm_Cd_holds_d : qm_Cd_holds.cls ≠ "java/lang/invoke/MethodHandle" ∧ qm_Cd_holds.cls ≠ "java/lang/invoke/VarHandle" ∧ (parseMethodDescriptor qm_Cd_holds.desc).map (fun d => d.parameters.length) = some 1 := by decide +kernel
theorem qm_Cd_branch_d : qm_Cd_branch.cls ≠ "java/lang/invoke/MethodHandle" ∧ qm_Cd_branch.cls ≠ "java/lang/invoke/VarHandle" ∧ (parseMethodDescriptor qm_Cd_branch.desc).map (fun d => d.parameters.length) = some 1 := by decide +kernel
theorem qm_Cd_count_d : qm_Cd_count.cls ≠ "java/lang/invoke/MethodHandle" ∧ qm_Cd_count.cls ≠ "java/lang/invoke/VarHandle" ∧ (parseMethodDescriptor qm_Cd_count.desc).map (fun d => d.parameters.length) = some 1 := by decide +kernel
theorem qm_Cd_noteOverflow_d : qm_Cd_noteOverflow.cls ≠ "java/lang/invoke/MethodHandle" ∧ qm_Cd_noteOverflow.cls ≠ "java/lang/invoke/VarHandle" ∧ (parseMethodDescriptor qm_Cd_noteOverflow.desc).map (fun d => d.parameters.length) = some 1 := by decide +kernel
theorem qm_Cd_execute_d : qm_Cd_execute.cls ≠ "java/lang/invoke/MethodHandle" ∧ qm_Cd_execute.cls ≠ "java/lang/invoke/VarHandle" ∧ (parseMethodDescriptor qm_Cd_execute.desc).map (fun d => d.parameters.length) = some 1 := by decide +kernel
theorem qm_Co_takeBack_d : qm_Co_takeBack.cls ≠ "java/lang/invoke/MethodHandle" ∧ qm_Co_takeBack.cls ≠ "java/lang/invoke/VarHandle" ∧ (parseMethodDescriptor qm_Co_takeBack.desc).map (fun d => d.parameters.length) = some 0 := by decide +kernel
theorem qm_X_except_d : qm_X_except.cls ≠ "java/lang/invoke/MethodHandle" ∧ qm_X_except.cls ≠ "java/lang/invoke/VarHandle" ∧ (parseMethodDescriptor qm_X_except.desc).map (fun d => d.parameters.length) = some 5 := by decide +kernel
theorem qm_X_settle_d : qm_X_settle.cls ≠ "java/lang/invoke/MethodHandle" ∧ qm_X_settle.cls ≠ "java/lang/invoke/VarHandle" ∧ (parseMethodDescriptor qm_X_settle.desc).map (fun d => d.parameters.length) = some 1 := by decide +kernel
theorem qm_X_reach_d : qm_X_reach.cls ≠ "java/lang/invoke/MethodHandle" ∧ qm_X_reach.cls ≠ "java/lang/invoke/VarHandle" ∧ (parseMethodDescriptor qm_X_reach.desc).map (fun d => d.parameters.length) = some 3 := by decide +kernel
theorem qm_X_state_d : qm_X_state.cls ≠ "java/lang/invoke/MethodHandle" ∧ qm_X_state.cls ≠ "java/lang/invoke/VarHandle" ∧ (parseMethodDescriptor qm_X_state.desc).map (fun d => d.parameters.length) = some 1 := by decide +kernel
theorem qm_M_thrown_d : qm_M_thrown.cls ≠ "java/lang/invoke/MethodHandle" ∧ qm_M_thrown.cls ≠ "java/lang/invoke/VarHandle" ∧ (parseMethodDescriptor qm_M_thrown.desc).map (fun d => d.parameters.length) = some 0 := by decide +kernel
theorem qm_M_fill_d : qm_M_fill.cls ≠ "java/lang/invoke/MethodHandle" ∧ qm_M_fill.cls ≠ "java/lang/invoke/VarHandle" ∧ (parseMethodDescriptor qm_M_fill.desc).map (fun d => d.parameters.length) = some 2 := by decide +kernel
theorem qm_M_bare_d : qm_M_bare.cls ≠ "java/lang/invoke/MethodHandle" ∧ qm_M_bare.cls ≠ "java/lang/invoke/VarHandle" ∧ (parseMethodDescriptor qm_M_bare.desc).map (fun d => d.parameters.length) = some 1 := by decide +kernel
theorem qm_M_look_d : qm_M_look.cls ≠ "java/lang/invoke/MethodHandle" ∧ qm_M_look.cls ≠ "java/lang/invoke/VarHandle" ∧ (parseMethodDescriptor qm_M_look.desc).map (fun d => d.parameters.length) = some 1 := by decide +kernel
theorem qm_M_mode_d : qm_M_mode.cls ≠ "java/lang/invoke/MethodHandle" ∧ qm_M_mode.cls ≠ "java/lang/invoke/VarHandle" ∧ (parseMethodDescriptor qm_M_mode.desc).map (fun d => d.parameters.length) = some 0 := by decide +kernel
theorem qm_M_put_d : qm_M_put.cls ≠ "java/lang/invoke/MethodHandle" ∧ qm_M_put.cls ≠ "java/lang/invoke/VarHandle" ∧ (parseMethodDescriptor qm_M_put.desc).map (fun d => d.parameters.length) = some 2 := by decide +kernel
theorem qm_M_set_d : qm_M_set.cls ≠ "java/lang/invoke/MethodHandle" ∧ qm_M_set.cls ≠ "java/lang/invoke/VarHandle" ∧ (parseMethodDescriptor qm_M_set.desc).map (fun d => d.parameters.length) = some 2 := by decide +kernel
theorem qm_M_fail_d : qm_M_fail.cls ≠ "java/lang/invoke/MethodHandle" ∧ qm_M_fail.cls ≠ "java/lang/invoke/VarHandle" ∧ (parseMethodDescriptor qm_M_fail.desc).map (fun d => d.parameters.length) = some 1 := by decide +kernel
theorem qm_M_get_d : qm_M_get.cls ≠ "java/lang/invoke/MethodHandle" ∧ qm_M_get.cls ≠ "java/lang/invoke/VarHandle" ∧ (parseMethodDescriptor qm_M_get.desc).map (fun d => d.parameters.length) = some 1 := by decide +kernel
theorem qm_M_register_d : qm_M_register.cls ≠ "java/lang/invoke/MethodHandle" ∧ qm_M_register.cls ≠ "java/lang/invoke/VarHandle" ∧ (parseMethodDescriptor qm_M_register.desc).map (fun d => d.parameters.length) = some 1 := by decide +kernel
theorem qm_M_isInner_d : qm_M_isInner.cls ≠ "java/lang/invoke/MethodHandle" ∧ qm_M_isInner.cls ≠ "java/lang/invoke/VarHandle" ∧ (parseMethodDescriptor qm_M_isInner.desc).map (fun d => d.parameters.length) = some 1 := by decide +kernel
theorem qm_M_setInner_d : qm_M_setInner.cls ≠ "java/lang/invoke/MethodHandle" ∧ qm_M_setInner.cls ≠ "java/lang/invoke/VarHandle" ∧ (parseMethodDescriptor qm_M_setInner.desc).map (fun d => d.parameters.length) = some 2 := by decide +kernel
theorem qm_M_inner_d : qm_M_inner.cls ≠ "java/lang/invoke/MethodHandle" ∧ qm_M_inner.cls ≠ "java/lang/invoke/VarHandle" ∧ (parseMethodDescriptor qm_M_inner.desc).map (fun d => d.parameters.length) = some 1 := by decide +kernel
theorem qm_M_begin_d : qm_M_begin.cls ≠ "java/lang/invoke/MethodHandle" ∧ qm_M_begin.cls ≠ "java/lang/invoke/VarHandle" ∧ (parseMethodDescriptor qm_M_begin.desc).map (fun d => d.parameters.length) = some 1 := by decide +kernel
theorem qm_M_status_d : qm_M_status.cls ≠ "java/lang/invoke/MethodHandle" ∧ qm_M_status.cls ≠ "java/lang/invoke/VarHandle" ∧ (parseMethodDescriptor qm_M_status.desc).map (fun d => d.parameters.length) = some 0 := by decide +kernel
theorem qm_M_keep_d : qm_M_keep.cls ≠ "java/lang/invoke/MethodHandle" ∧ qm_M_keep.cls ≠ "java/lang/invoke/VarHandle" ∧ (parseMethodDescriptor qm_M_keep.desc).map (fun d => d.parameters.length) = some 0 := by decide +kernel
theorem qm_M_below_d : qm_M_below.cls ≠ "java/lang/invoke/MethodHandle" ∧ qm_M_below.cls ≠ "java/lang/invoke/VarHandle" ∧ (parseMethodDescriptor qm_M_below.desc).map (fun d => d.parameters.length) = some 2 := by decide +kernel
theorem qm_M_find_d : qm_M_find.cls ≠ "java/lang/invoke/MethodHandle" ∧ qm_M_find.cls ≠ "java/lang/invoke/VarHandle" ∧ (parseMethodDescriptor qm_M_find.desc).map (fun d => d.parameters.length) = some 3 := by decide +kernel
theorem qm_M_wrong_d : qm_M_wrong.cls ≠ "java/lang/invoke/MethodHandle" ∧ qm_M_wrong.cls ≠ "java/lang/invoke/VarHandle" ∧ (parseMethodDescriptor qm_M_wrong.desc).map (fun d => d.parameters.length) = some 3 := by decide +kernel
theorem qm_M_readByte_d : qm_M_readByte.cls ≠ "java/lang/invoke/MethodHandle" ∧ qm_M_readByte.cls ≠ "java/lang/invoke/VarHandle" ∧ (parseMethodDescriptor qm_M_readByte.desc).map (fun d => d.parameters.length) = some 1 := by decide +kernel
theorem qm_M_next_d : qm_M_next.cls ≠ "java/lang/invoke/MethodHandle" ∧ qm_M_next.cls ≠ "java/lang/invoke/VarHandle" ∧ (parseMethodDescriptor qm_M_next.desc).map (fun d => d.parameters.length) = some 0 := by decide +kernel
theorem qm_M_shape_d : qm_M_shape.cls ≠ "java/lang/invoke/MethodHandle" ∧ qm_M_shape.cls ≠ "java/lang/invoke/VarHandle" ∧ (parseMethodDescriptor qm_M_shape.desc).map (fun d => d.parameters.length) = some 1 := by decide +kernel
theorem qm_M_signed_d : qm_M_signed.cls ≠ "java/lang/invoke/MethodHandle" ∧ qm_M_signed.cls ≠ "java/lang/invoke/VarHandle" ∧ (parseMethodDescriptor qm_M_signed.desc).map (fun d => d.parameters.length) = some 1 := by decide +kernel
theorem qm_M_readLong_d : qm_M_readLong.cls ≠ "java/lang/invoke/MethodHandle" ∧ qm_M_readLong.cls ≠ "java/lang/invoke/VarHandle" ∧ (parseMethodDescriptor qm_M_readLong.desc).map (fun d => d.parameters.length) = some 1 := by decide +kernel
theorem qm_M_operand_d : qm_M_operand.cls ≠ "java/lang/invoke/MethodHandle" ∧ qm_M_operand.cls ≠ "java/lang/invoke/VarHandle" ∧ (parseMethodDescriptor qm_M_operand.desc).map (fun d => d.parameters.length) = some 2 := by decide +kernel
theorem qm_M_pop_d : qm_M_pop.cls ≠ "java/lang/invoke/MethodHandle" ∧ qm_M_pop.cls ≠ "java/lang/invoke/VarHandle" ∧ (parseMethodDescriptor qm_M_pop.desc).map (fun d => d.parameters.length) = some 0 := by decide +kernel
theorem qm_M_endException_d : qm_M_endException.cls ≠ "java/lang/invoke/MethodHandle" ∧ qm_M_endException.cls ≠ "java/lang/invoke/VarHandle" ∧ (parseMethodDescriptor qm_M_endException.desc).map (fun d => d.parameters.length) = some 0 := by decide +kernel
theorem qm_M_comeBack_d : qm_M_comeBack.cls ≠ "java/lang/invoke/MethodHandle" ∧ qm_M_comeBack.cls ≠ "java/lang/invoke/VarHandle" ∧ (parseMethodDescriptor qm_M_comeBack.desc).map (fun d => d.parameters.length) = some 0 := by decide +kernel
theorem qm_M_mark_d : qm_M_mark.cls ≠ "java/lang/invoke/MethodHandle" ∧ qm_M_mark.cls ≠ "java/lang/invoke/VarHandle" ∧ (parseMethodDescriptor qm_M_mark.desc).map (fun d => d.parameters.length) = some 3 := by decide +kernel
theorem qm_M_write_d : qm_M_write.cls ≠ "java/lang/invoke/MethodHandle" ∧ qm_M_write.cls ≠ "java/lang/invoke/VarHandle" ∧ (parseMethodDescriptor qm_M_write.desc).map (fun d => d.parameters.length) = some 3 := by decide +kernel
theorem qm_M_give_d : qm_M_give.cls ≠ "java/lang/invoke/MethodHandle" ∧ qm_M_give.cls ≠ "java/lang/invoke/VarHandle" ∧ (parseMethodDescriptor qm_M_give.desc).map (fun d => d.parameters.length) = some 3 := by decide +kernel
theorem qm_M_innerOnes_d : qm_M_innerOnes.cls ≠ "java/lang/invoke/MethodHandle" ∧ qm_M_innerOnes.cls ≠ "java/lang/invoke/VarHandle" ∧ (parseMethodDescriptor qm_M_innerOnes.desc).map (fun d => d.parameters.length) = some 1 := by decide +kernel
theorem qm_M_has_d : qm_M_has.cls ≠ "java/lang/invoke/MethodHandle" ∧ qm_M_has.cls ≠ "java/lang/invoke/VarHandle" ∧ (parseMethodDescriptor qm_M_has.desc).map (fun d => d.parameters.length) = some 1 := by decide +kernel
theorem qm_M_push_d : qm_M_push.cls ≠ "java/lang/invoke/MethodHandle" ∧ qm_M_push.cls ≠ "java/lang/invoke/VarHandle" ∧ (parseMethodDescriptor qm_M_push.desc).map (fun d => d.parameters.length) = some 1 := by decide +kernel
theorem qm_M_move_d : qm_M_move.cls ≠ "java/lang/invoke/MethodHandle" ∧ qm_M_move.cls ≠ "java/lang/invoke/VarHandle" ∧ (parseMethodDescriptor qm_M_move.desc).map (fun d => d.parameters.length) = some 1 := by decide +kernel
theorem qm_M_reckon_d : qm_M_reckon.cls ≠ "java/lang/invoke/MethodHandle" ∧ qm_M_reckon.cls ≠ "java/lang/invoke/VarHandle" ∧ (parseMethodDescriptor qm_M_reckon.desc).map (fun d => d.parameters.length) = some 4 := by decide +kernel
theorem qm_M_shift_d : qm_M_shift.cls ≠ "java/lang/invoke/MethodHandle" ∧ qm_M_shift.cls ≠ "java/lang/invoke/VarHandle" ∧ (parseMethodDescriptor qm_M_shift.desc).map (fun d => d.parameters.length) = some 2 := by decide +kernel
theorem qm_M_go_d : qm_M_go.cls ≠ "java/lang/invoke/MethodHandle" ∧ qm_M_go.cls ≠ "java/lang/invoke/VarHandle" ∧ (parseMethodDescriptor qm_M_go.desc).map (fun d => d.parameters.length) = some 1 := by decide +kernel
theorem qm_M_isMet_d : qm_M_isMet.cls ≠ "java/lang/invoke/MethodHandle" ∧ qm_M_isMet.cls ≠ "java/lang/invoke/VarHandle" ∧ (parseMethodDescriptor qm_M_isMet.desc).map (fun d => d.parameters.length) = some 1 := by decide +kernel
theorem qm_M_count_d : qm_M_count.cls ≠ "java/lang/invoke/MethodHandle" ∧ qm_M_count.cls ≠ "java/lang/invoke/VarHandle" ∧ (parseMethodDescriptor qm_M_count.desc).map (fun d => d.parameters.length) = some 1 := by decide +kernel
theorem qm_M_callFrame_d : qm_M_callFrame.cls ≠ "java/lang/invoke/MethodHandle" ∧ qm_M_callFrame.cls ≠ "java/lang/invoke/VarHandle" ∧ (parseMethodDescriptor qm_M_callFrame.desc).map (fun d => d.parameters.length) = some 0 := by decide +kernel
theorem qm_M_probe_d : qm_M_probe.cls ≠ "java/lang/invoke/MethodHandle" ∧ qm_M_probe.cls ≠ "java/lang/invoke/VarHandle" ∧ (parseMethodDescriptor qm_M_probe.desc).map (fun d => d.parameters.length) = some 1 := by decide +kernel
theorem qm_M_work_d : qm_M_work.cls ≠ "java/lang/invoke/MethodHandle" ∧ qm_M_work.cls ≠ "java/lang/invoke/VarHandle" ∧ (parseMethodDescriptor qm_M_work.desc).map (fun d => d.parameters.length) = some 1 := by decide +kernel
theorem qm_M_bringBack_d : qm_M_bringBack.cls ≠ "java/lang/invoke/MethodHandle" ∧ qm_M_bringBack.cls ≠ "java/lang/invoke/VarHandle" ∧ (parseMethodDescriptor qm_M_bringBack.desc).map (fun d => d.parameters.length) = some 0 := by decide +kernel
theorem qm_M_raise_d : qm_M_raise.cls ≠ "java/lang/invoke/MethodHandle" ∧ qm_M_raise.cls ≠ "java/lang/invoke/VarHandle" ∧ (parseMethodDescriptor qm_M_raise.desc).map (fun d => d.parameters.length) = some 3 := by decide +kernel
theorem qm_M_instruction_d : qm_M_instruction.cls ≠ "java/lang/invoke/MethodHandle" ∧ qm_M_instruction.cls ≠ "java/lang/invoke/VarHandle" ∧ (parseMethodDescriptor qm_M_instruction.desc).map (fun d => d.parameters.length) = some 0 := by decide +kernel
theorem qm_M_run_d : qm_M_run.cls ≠ "java/lang/invoke/MethodHandle" ∧ qm_M_run.cls ≠ "java/lang/invoke/VarHandle" ∧ (parseMethodDescriptor qm_M_run.desc).map (fun d => d.parameters.length) = some 1 := by decide +kernel
theorem qm_M_reach_d : qm_M_reach.cls ≠ "java/lang/invoke/MethodHandle" ∧ qm_M_reach.cls ≠ "java/lang/invoke/VarHandle" ∧ (parseMethodDescriptor qm_M_reach.desc).map (fun d => d.parameters.length) = some 3 := by decide +kernel
theorem qm_M_state_d : qm_M_state.cls ≠ "java/lang/invoke/MethodHandle" ∧ qm_M_state.cls ≠ "java/lang/invoke/VarHandle" ∧ (parseMethodDescriptor qm_M_state.desc).map (fun d => d.parameters.length) = some 1 := by decide +kernel
end
section
theorem qz_0 : Cond.fieldLink "QuadMode$Storage" 9 "QuadMode$Storage" "cells" "[B" ∈ qw := qw_in 98 (by decide +kernel) (by decide +kernel)
theorem qz_1 : Cond.fieldLink "QuadMode" 10 "QuadMode" "storage" "LQuadMode$Storage;" ∈ qw := qw_in 231 (by decide +kernel) (by decide +kernel)
theorem qz_2 : Cond.methodLink "QuadMode" 63 qm_St_putByte ∈ qw := qw_in 269 (by decide +kernel) (by decide +kernel)
theorem qz_3 : Cond.initialized "QuadMode$Storage" ∈ qw := qw_in 64 (by decide +kernel) (by decide +kernel)
theorem qz_4 : Cond.code qm_St_putByte qm_St_putByte_c 3 none ∈ qw := qw_in 272 (by decide +kernel) (by decide +kernel)
theorem qz_5 : Cond.instanceMethod qm_St_putByte ∈ qw := qw_in 270 (by decide +kernel) (by decide +kernel)
theorem qz_6 : Cond.selects "QuadMode$Storage" qm_St_putByte qm_St_putByte ∈ qw := qw_in 271 (by decide +kernel) (by decide +kernel)
theorem qz_7 : Cond.methodLink "QuadMode" 67 qm_St_longAt ∈ qw := qw_in 277 (by decide +kernel) (by decide +kernel)
theorem qz_8 : Cond.code qm_St_longAt qm_St_longAt_c 2 (some .int) ∈ qw := qw_in 280 (by decide +kernel) (by decide +kernel)
theorem qz_9 : Cond.instanceMethod qm_St_longAt ∈ qw := qw_in 278 (by decide +kernel) (by decide +kernel)
theorem qz_10 : Cond.selects "QuadMode$Storage" qm_St_longAt qm_St_longAt ∈ qw := qw_in 279 (by decide +kernel) (by decide +kernel)
theorem qz_11 : Cond.fieldLink "QuadMode$Core" 38 "QuadMode$Core" "status" "I" ∈ qw := qw_in 136 (by decide +kernel) (by decide +kernel)
theorem qz_12 : Cond.fieldLink "QuadMode$Core" 9 "QuadMode$Core" "registers" "[I" ∈ qw := qw_in 130 (by decide +kernel) (by decide +kernel)
theorem qz_13 : Cond.fieldLink "QuadMode$Core" 35 "QuadMode$Core" "inner" "[I" ∈ qw := qw_in 129 (by decide +kernel) (by decide +kernel)
theorem qz_14 : Cond.methodLink "QuadMode$Core" 42 qm_Co_mode ∈ qw := qw_in 368 (by decide +kernel) (by decide +kernel)
theorem qz_15 : Cond.initialized "QuadMode$Core" ∈ qw := qw_in 66 (by decide +kernel) (by decide +kernel)
theorem qz_16 : Cond.code qm_Co_mode qm_Co_mode_c 1 (some .int) ∈ qw := qw_in 371 (by decide +kernel) (by decide +kernel)
theorem qz_17 : Cond.instanceMethod qm_Co_mode ∈ qw := qw_in 369 (by decide +kernel) (by decide +kernel)
theorem qz_18 : Cond.selects "QuadMode$Core" qm_Co_mode qm_Co_mode ∈ qw := qw_in 370 (by decide +kernel) (by decide +kernel)
theorem qz_19 : Cond.fieldLink "QuadMode" 34 "QuadMode" "core" "LQuadMode$Core;" ∈ qw := qw_in 234 (by decide +kernel) (by decide +kernel)
theorem qz_20 : Cond.methodLink "QuadMode" 78 qm_Co_put ∈ qw := qw_in 364 (by decide +kernel) (by decide +kernel)
theorem qz_21 : Cond.code qm_Co_put qm_Co_put_c 3 none ∈ qw := qw_in 367 (by decide +kernel) (by decide +kernel)
theorem qz_22 : Cond.instanceMethod qm_Co_put ∈ qw := qw_in 365 (by decide +kernel) (by decide +kernel)
theorem qz_23 : Cond.selects "QuadMode$Core" qm_Co_put qm_Co_put ∈ qw := qw_in 366 (by decide +kernel) (by decide +kernel)
theorem qz_24 : Cond.methodLink "QuadMode" 81 qm_Co_get ∈ qw := qw_in 379 (by decide +kernel) (by decide +kernel)
theorem qz_25 : Cond.code qm_Co_get qm_Co_get_c 2 (some .int) ∈ qw := qw_in 382 (by decide +kernel) (by decide +kernel)
theorem qz_26 : Cond.instanceMethod qm_Co_get ∈ qw := qw_in 380 (by decide +kernel) (by decide +kernel)
theorem qz_27 : Cond.selects "QuadMode$Core" qm_Co_get qm_Co_get ∈ qw := qw_in 381 (by decide +kernel) (by decide +kernel)
theorem qz_28 : Cond.methodLink "QuadMode$Core" 46 qm_Co_hasInner ∈ qw := qw_in 399 (by decide +kernel) (by decide +kernel)
theorem qz_29 : Cond.code qm_Co_hasInner qm_Co_hasInner_c 2 (some .boolean) ∈ qw := qw_in 393 (by decide +kernel) (by decide +kernel)
theorem qz_30 : Cond.instanceMethod qm_Co_hasInner ∈ qw := qw_in 391 (by decide +kernel) (by decide +kernel)
theorem qz_31 : Cond.selects "QuadMode$Core" qm_Co_hasInner qm_Co_hasInner ∈ qw := qw_in 392 (by decide +kernel) (by decide +kernel)
theorem qz_32 : Cond.methodLink "QuadMode" 84 qm_Co_hasInner ∈ qw := qw_in 390 (by decide +kernel) (by decide +kernel)
theorem qz_33 : Cond.methodLink "QuadMode" 90 qm_Co_putInner ∈ qw := qw_in 395 (by decide +kernel) (by decide +kernel)
theorem qz_34 : Cond.code qm_Co_putInner qm_Co_putInner_c 3 none ∈ qw := qw_in 398 (by decide +kernel) (by decide +kernel)
theorem qz_35 : Cond.instanceMethod qm_Co_putInner ∈ qw := qw_in 396 (by decide +kernel) (by decide +kernel)
theorem qz_36 : Cond.selects "QuadMode$Core" qm_Co_putInner qm_Co_putInner ∈ qw := qw_in 397 (by decide +kernel) (by decide +kernel)
theorem qz_37 : Cond.methodLink "QuadMode" 93 qm_Co_getInner ∈ qw := qw_in 407 (by decide +kernel) (by decide +kernel)
theorem qz_38 : Cond.code qm_Co_getInner qm_Co_getInner_c 2 (some .int) ∈ qw := qw_in 410 (by decide +kernel) (by decide +kernel)
theorem qz_39 : Cond.instanceMethod qm_Co_getInner ∈ qw := qw_in 408 (by decide +kernel) (by decide +kernel)
theorem qz_40 : Cond.selects "QuadMode$Core" qm_Co_getInner qm_Co_getInner ∈ qw := qw_in 409 (by decide +kernel) (by decide +kernel)
theorem qz_41 : Cond.constant "QuadMode" 96 (-62914608) ∈ qw := qw_in 419 (by decide +kernel) (by decide +kernel)
theorem qz_42 : Cond.fieldLink "QuadMode" 106 "QuadMode" "stopped" "I" ∈ qw := qw_in 238 (by decide +kernel) (by decide +kernel)
theorem qz_43 : Cond.fieldLink "QuadMode$Core" 54 "QuadMode$Core" "fault" "I" ∈ qw := qw_in 139 (by decide +kernel) (by decide +kernel)
theorem qz_44 : Cond.fieldLink "QuadMode$Core" 57 "QuadMode$Core" "trap" "I" ∈ qw := qw_in 146 (by decide +kernel) (by decide +kernel)
theorem qz_45 : Cond.fieldLink "QuadMode$Core" 60 "QuadMode$Core" "keptStatus" "I" ∈ qw := qw_in 135 (by decide +kernel) (by decide +kernel)
theorem qz_46 : Cond.fieldLink "QuadMode$Core" 15 "QuadMode$Core" "keptRegisters" "[I" ∈ qw := qw_in 131 (by decide +kernel) (by decide +kernel)
theorem qz_47 : Cond.methodLink "QuadMode$Core" 63 arraycopyName ∈ qw := qw_in 469 (by decide +kernel) (by decide +kernel)
theorem qz_48 : Cond.native arraycopyName ∈ qw := qw_in 471 (by decide +kernel) (by decide +kernel)
theorem qz_49 : Cond.static arraycopyName ∈ qw := qw_in 470 (by decide +kernel) (by decide +kernel)
theorem qz_50 : Cond.initialized "java/lang/System" ∈ qw := qw_in 77 (by decide +kernel) (by decide +kernel)
theorem qz_51 : Cond.fieldLink "QuadMode$Core" 18 "QuadMode$Core" "keptStacks" "[I" ∈ qw := qw_in 132 (by decide +kernel) (by decide +kernel)
theorem qz_52 : Cond.constant "QuadMode$Pages" 58 16777215 ∈ qw := qw_in 488 (by decide +kernel) (by decide +kernel)
theorem qz_53 : Cond.fieldLink "QuadMode$Pages" 15 "QuadMode$Pages" "inner" "[I" ∈ qw := qw_in 110 (by decide +kernel) (by decide +kernel)
theorem qz_54 : Cond.fieldLink "QuadMode$Pages" 19 "QuadMode$Pages" "entry" "I" ∈ qw := qw_in 111 (by decide +kernel) (by decide +kernel)
theorem qz_55 : Cond.methodLink "QuadMode$Pages" 25 qm_Pg_pageOf ∈ qw := qw_in 485 (by decide +kernel) (by decide +kernel)
theorem qz_56 : Cond.initialized "QuadMode$Pages" ∈ qw := qw_in 65 (by decide +kernel) (by decide +kernel)
theorem qz_57 : Cond.code qm_Pg_pageOf qm_Pg_pageOf_c 1 (some .int) ∈ qw := qw_in 487 (by decide +kernel) (by decide +kernel)
theorem qz_58 : Cond.static qm_Pg_pageOf ∈ qw := qw_in 486 (by decide +kernel) (by decide +kernel)
theorem qz_59 : Cond.methodLink "QuadMode$Pages" 29 qm_Pg_isThere ∈ qw := qw_in 489 (by decide +kernel) (by decide +kernel)
theorem qz_60 : Cond.code qm_Pg_isThere qm_Pg_isThere_c 5 (some .boolean) ∈ qw := qw_in 492 (by decide +kernel) (by decide +kernel)
theorem qz_61 : Cond.instanceMethod qm_Pg_isThere ∈ qw := qw_in 491 (by decide +kernel) (by decide +kernel)
theorem qz_62 : Cond.selects "QuadMode$Pages" qm_Pg_isThere qm_Pg_isThere ∈ qw := qw_in 2 (by decide +kernel) (by decide +kernel)
theorem qz_63 : Cond.methodLink "QuadMode$Pages" 33 qm_Pg_refusal ∈ qw := qw_in 493 (by decide +kernel) (by decide +kernel)
theorem qz_64 : Cond.code qm_Pg_refusal qm_Pg_refusal_c 2 (some .int) ∈ qw := qw_in 495 (by decide +kernel) (by decide +kernel)
theorem qz_65 : Cond.static qm_Pg_refusal ∈ qw := qw_in 494 (by decide +kernel) (by decide +kernel)
theorem qz_66 : Cond.fieldLink "QuadMode$Pages" 9 "QuadMode$Pages" "storage" "LQuadMode$Storage;" ∈ qw := qw_in 109 (by decide +kernel) (by decide +kernel)
theorem qz_67 : Cond.methodLink "QuadMode$Pages" 37 qm_St_longAt ∈ qw := qw_in 496 (by decide +kernel) (by decide +kernel)
theorem qz_68 : Cond.methodLink "QuadMode$Pages" 40 qm_Pg_isValid ∈ qw := qw_in 497 (by decide +kernel) (by decide +kernel)
theorem qz_69 : Cond.code qm_Pg_isValid qm_Pg_isValid_c 1 (some .boolean) ∈ qw := qw_in 499 (by decide +kernel) (by decide +kernel)
theorem qz_70 : Cond.static qm_Pg_isValid ∈ qw := qw_in 498 (by decide +kernel) (by decide +kernel)
theorem qz_71 : Cond.methodLink "QuadMode$Pages" 44 qm_Pg_inFrame ∈ qw := qw_in 500 (by decide +kernel) (by decide +kernel)
theorem qz_72 : Cond.code qm_Pg_inFrame qm_Pg_inFrame_c 2 (some .int) ∈ qw := qw_in 502 (by decide +kernel) (by decide +kernel)
theorem qz_73 : Cond.static qm_Pg_inFrame ∈ qw := qw_in 501 (by decide +kernel) (by decide +kernel)
theorem qz_74 : Cond.methodLink "QuadMode$Pages" 47 qm_Pg_grants ∈ qw := qw_in 503 (by decide +kernel) (by decide +kernel)
theorem qz_75 : Cond.code qm_Pg_grants qm_Pg_grants_c 5 (some .boolean) ∈ qw := qw_in 505 (by decide +kernel) (by decide +kernel)
theorem qz_76 : Cond.static qm_Pg_grants ∈ qw := qw_in 504 (by decide +kernel) (by decide +kernel)
theorem qz_77 : Cond.methodLink "QuadMode$Core" 69 qm_Pg_faultOf ∈ qw := qw_in 510 (by decide +kernel) (by decide +kernel)
theorem qz_78 : Cond.code qm_Pg_faultOf qm_Pg_faultOf_c 1 (some .int) ∈ qw := qw_in 512 (by decide +kernel) (by decide +kernel)
theorem qz_79 : Cond.static qm_Pg_faultOf ∈ qw := qw_in 511 (by decide +kernel) (by decide +kernel)
theorem qz_80 : Cond.methodLink "QuadMode$Core" 75 qm_Pg_flagOf ∈ qw := qw_in 513 (by decide +kernel) (by decide +kernel)
theorem qz_81 : Cond.code qm_Pg_flagOf qm_Pg_flagOf_c 1 (some .int) ∈ qw := qw_in 515 (by decide +kernel) (by decide +kernel)
theorem qz_82 : Cond.static qm_Pg_flagOf ∈ qw := qw_in 514 (by decide +kernel) (by decide +kernel)
theorem qz_83 : Cond.fieldLink "QuadMode$Core" 78 "QuadMode$Core" "faultFlag" "I" ∈ qw := qw_in 144 (by decide +kernel) (by decide +kernel)
theorem qz_84 : Cond.fieldLink "QuadMode$Core" 81 "QuadMode$Core" "faultAddress" "I" ∈ qw := qw_in 142 (by decide +kernel) (by decide +kernel)
theorem qz_85 : Cond.fieldLink "QuadMode$Core" 31 "QuadMode$Core" "pages" "LQuadMode$Pages;" ∈ qw := qw_in 128 (by decide +kernel) (by decide +kernel)
theorem qz_86 : Cond.methodLink "QuadMode$Core" 84 qm_Pg_locate ∈ qw := qw_in 481 (by decide +kernel) (by decide +kernel)
theorem qz_87 : Cond.code qm_Pg_locate qm_Pg_locate_c 10 (some .int) ∈ qw := qw_in 484 (by decide +kernel) (by decide +kernel)
theorem qz_88 : Cond.instanceMethod qm_Pg_locate ∈ qw := qw_in 482 (by decide +kernel) (by decide +kernel)
theorem qz_89 : Cond.selects "QuadMode$Pages" qm_Pg_locate qm_Pg_locate ∈ qw := qw_in 483 (by decide +kernel) (by decide +kernel)
theorem qz_90 : Cond.fieldLink "QuadMode$Core" 27 "QuadMode$Core" "storage" "LQuadMode$Storage;" ∈ qw := qw_in 127 (by decide +kernel) (by decide +kernel)
theorem qz_91 : Cond.methodLink "QuadMode$Core" 92 qm_St_byteAt ∈ qw := qw_in 516 (by decide +kernel) (by decide +kernel)
theorem qz_92 : Cond.code qm_St_byteAt qm_St_byteAt_c 2 (some .int) ∈ qw := qw_in 519 (by decide +kernel) (by decide +kernel)
theorem qz_93 : Cond.instanceMethod qm_St_byteAt ∈ qw := qw_in 517 (by decide +kernel) (by decide +kernel)
theorem qz_94 : Cond.selects "QuadMode$Storage" qm_St_byteAt qm_St_byteAt ∈ qw := qw_in 518 (by decide +kernel) (by decide +kernel)
theorem qz_95 : Cond.methodLink "QuadMode$Core" 88 qm_Co_refuse ∈ qw := qw_in 506 (by decide +kernel) (by decide +kernel)
theorem qz_96 : Cond.code qm_Co_refuse qm_Co_refuse_c 3 none ∈ qw := qw_in 509 (by decide +kernel) (by decide +kernel)
theorem qz_97 : Cond.instanceMethod qm_Co_refuse ∈ qw := qw_in 507 (by decide +kernel) (by decide +kernel)
theorem qz_98 : Cond.selects "QuadMode$Core" qm_Co_refuse qm_Co_refuse ∈ qw := qw_in 508 (by decide +kernel) (by decide +kernel)
theorem qz_99 : Cond.methodLink "QuadMode$Core" 107 qm_Co_get ∈ qw := qw_in 476 (by decide +kernel) (by decide +kernel)
theorem qz_100 : Cond.methodLink "QuadMode$Core" 110 qm_Co_read ∈ qw := qw_in 477 (by decide +kernel) (by decide +kernel)
theorem qz_101 : Cond.code qm_Co_read qm_Co_read_c 6 (some .int) ∈ qw := qw_in 480 (by decide +kernel) (by decide +kernel)
theorem qz_102 : Cond.instanceMethod qm_Co_read ∈ qw := qw_in 478 (by decide +kernel) (by decide +kernel)
theorem qz_103 : Cond.selects "QuadMode$Core" qm_Co_read qm_Co_read ∈ qw := qw_in 479 (by decide +kernel) (by decide +kernel)
theorem qz_104 : Cond.methodLink "QuadMode$Core" 114 qm_Co_put ∈ qw := qw_in 520 (by decide +kernel) (by decide +kernel)
theorem qz_105 : Cond.fieldLink "QuadMode$Codes" 9 "QuadMode$Codes" "core" "LQuadMode$Core;" ∈ qw := qw_in 218 (by decide +kernel) (by decide +kernel)
theorem qz_106 : Cond.methodLink "QuadMode$Codes" 25 qm_Co_mode ∈ qw := qw_in 525 (by decide +kernel) (by decide +kernel)
theorem qz_107 : Cond.methodLink "QuadMode$Specifiers" 63 qm_Sp_isNoWay ∈ qw := qw_in 614 (by decide +kernel) (by decide +kernel)
theorem qz_108 : Cond.initialized "QuadMode$Specifiers" ∈ qw := qw_in 68 (by decide +kernel) (by decide +kernel)
theorem qz_109 : Cond.code qm_Sp_isNoWay qm_Sp_isNoWay_c 1 (some .boolean) ∈ qw := qw_in 616 (by decide +kernel) (by decide +kernel)
theorem qz_110 : Cond.static qm_Sp_isNoWay ∈ qw := qw_in 615 (by decide +kernel) (by decide +kernel)
theorem qz_111 : Cond.methodLink "QuadMode$Specifiers" 67 qm_Sp_isAddress ∈ qw := qw_in 617 (by decide +kernel) (by decide +kernel)
theorem qz_112 : Cond.code qm_Sp_isAddress qm_Sp_isAddress_c 1 (some .boolean) ∈ qw := qw_in 619 (by decide +kernel) (by decide +kernel)
theorem qz_113 : Cond.static qm_Sp_isAddress ∈ qw := qw_in 618 (by decide +kernel) (by decide +kernel)
theorem qz_114 : Cond.fieldLink "QuadMode$Specifiers" 9 "QuadMode$Specifiers" "core" "LQuadMode$Core;" ∈ qw := qw_in 208 (by decide +kernel) (by decide +kernel)
theorem qz_115 : Cond.methodLink "QuadMode$Specifiers" 41 qm_Co_get ∈ qw := qw_in 621 (by decide +kernel) (by decide +kernel)
theorem qz_116 : Cond.methodLink "QuadMode$Specifiers" 24 qm_Co_fetch ∈ qw := qw_in 610 (by decide +kernel) (by decide +kernel)
theorem qz_117 : Cond.code qm_Co_fetch qm_Co_fetch_c 3 (some .int) ∈ qw := qw_in 475 (by decide +kernel) (by decide +kernel)
theorem qz_118 : Cond.instanceMethod qm_Co_fetch ∈ qw := qw_in 473 (by decide +kernel) (by decide +kernel)
theorem qz_119 : Cond.selects "QuadMode$Core" qm_Co_fetch qm_Co_fetch ∈ qw := qw_in 474 (by decide +kernel) (by decide +kernel)
theorem qz_120 : Cond.methodLink "QuadMode$Specifiers" 59 qm_Co_read ∈ qw := qw_in 630 (by decide +kernel) (by decide +kernel)
theorem qz_121 : Cond.methodLink "QuadMode$Specifiers" 70 qm_Co_put ∈ qw := qw_in 629 (by decide +kernel) (by decide +kernel)
theorem qz_122 : Cond.methodLink "QuadMode$Specifiers" 33 qm_Sp_suits ∈ qw := qw_in 611 (by decide +kernel) (by decide +kernel)
theorem qz_123 : Cond.code qm_Sp_suits qm_Sp_suits_c 3 (some .boolean) ∈ qw := qw_in 613 (by decide +kernel) (by decide +kernel)
theorem qz_124 : Cond.static qm_Sp_suits ∈ qw := qw_in 612 (by decide +kernel) (by decide +kernel)
theorem qz_125 : Cond.methodLink "QuadMode$Specifiers" 37 qm_Co_raise ∈ qw := qw_in 620 (by decide +kernel) (by decide +kernel)
theorem qz_126 : Cond.code qm_Co_raise qm_Co_raise_c 2 none ∈ qw := qw_in 529 (by decide +kernel) (by decide +kernel)
theorem qz_127 : Cond.instanceMethod qm_Co_raise ∈ qw := qw_in 527 (by decide +kernel) (by decide +kernel)
theorem qz_128 : Cond.selects "QuadMode$Core" qm_Co_raise qm_Co_raise ∈ qw := qw_in 528 (by decide +kernel) (by decide +kernel)
theorem qz_129 : Cond.methodLink "QuadMode$Specifiers" 44 qm_Sp_suitsBehindIndexed ∈ qw := qw_in 622 (by decide +kernel) (by decide +kernel)
theorem qz_130 : Cond.code qm_Sp_suitsBehindIndexed qm_Sp_suitsBehindIndexed_c 2 (some .boolean) ∈ qw := qw_in 624 (by decide +kernel) (by decide +kernel)
theorem qz_131 : Cond.static qm_Sp_suitsBehindIndexed ∈ qw := qw_in 623 (by decide +kernel) (by decide +kernel)
theorem qz_132 : Cond.methodLink "QuadMode$Specifiers" 48 qm_Sp_addressBy ∈ qw := qw_in 625 (by decide +kernel) (by decide +kernel)
theorem qz_133 : Cond.code qm_Sp_addressBy qm_Sp_addressBy_c 7 (some .int) ∈ qw := qw_in 628 (by decide +kernel) (by decide +kernel)
theorem qz_134 : Cond.instanceMethod qm_Sp_addressBy ∈ qw := qw_in 627 (by decide +kernel) (by decide +kernel)
theorem qz_135 : Cond.selects "QuadMode$Specifiers" qm_Sp_addressBy qm_Sp_addressBy ∈ qw := qw_in 3 (by decide +kernel) (by decide +kernel)
theorem qz_136 : Cond.methodLink "QuadMode$Specifiers" 55 qm_Sp_isRead ∈ qw := qw_in 631 (by decide +kernel) (by decide +kernel)
theorem qz_137 : Cond.code qm_Sp_isRead qm_Sp_isRead_c 1 (some .boolean) ∈ qw := qw_in 633 (by decide +kernel) (by decide +kernel)
theorem qz_138 : Cond.static qm_Sp_isRead ∈ qw := qw_in 632 (by decide +kernel) (by decide +kernel)
theorem qz_139 : Cond.methodLink "QuadMode$Codes" 89 qm_Co_pop ∈ qw := qw_in 642 (by decide +kernel) (by decide +kernel)
theorem qz_140 : Cond.code qm_Co_pop qm_Co_pop_c 2 (some .int) ∈ qw := qw_in 645 (by decide +kernel) (by decide +kernel)
theorem qz_141 : Cond.instanceMethod qm_Co_pop ∈ qw := qw_in 643 (by decide +kernel) (by decide +kernel)
theorem qz_142 : Cond.selects "QuadMode$Core" qm_Co_pop qm_Co_pop ∈ qw := qw_in 644 (by decide +kernel) (by decide +kernel)
theorem qz_143 : Cond.constant "QuadMode$Codes" 173 (-62914608) ∈ qw := qw_in 646 (by decide +kernel) (by decide +kernel)
theorem qz_144 : Cond.methodLink "QuadMode$Codes" 92 qm_Co_put ∈ qw := qw_in 648 (by decide +kernel) (by decide +kernel)
theorem qz_145 : Cond.methodLink "QuadMode$Codes" 82 qm_Co_raise ∈ qw := qw_in 647 (by decide +kernel) (by decide +kernel)
theorem qz_146 : Cond.methodLink "QuadMode$Codes" 169 qm_Co_get ∈ qw := qw_in 653 (by decide +kernel) (by decide +kernel)
theorem qz_147 : Cond.constant "QuadMode$Codes" 239 65488 ∈ qw := qw_in 654 (by decide +kernel) (by decide +kernel)
theorem qz_148 : Cond.constant "QuadMode$Codes" 237 536870912 ∈ qw := qw_in 655 (by decide +kernel) (by decide +kernel)
theorem qz_149 : Cond.methodLink "QuadMode$Codes" 174 qm_Co_hasInner ∈ qw := qw_in 660 (by decide +kernel) (by decide +kernel)
theorem qz_150 : Cond.methodLink "QuadMode$Codes" 177 qm_Co_putInner ∈ qw := qw_in 661 (by decide +kernel) (by decide +kernel)
theorem qz_151 : Cond.methodLink "QuadMode$Core" 50 qm_Co_setConditions ∈ qw := qw_in 671 (by decide +kernel) (by decide +kernel)
theorem qz_152 : Cond.code qm_Co_setConditions qm_Co_setConditions_c 6 none ∈ qw := qw_in 674 (by decide +kernel) (by decide +kernel)
theorem qz_153 : Cond.instanceMethod qm_Co_setConditions ∈ qw := qw_in 672 (by decide +kernel) (by decide +kernel)
theorem qz_154 : Cond.selects "QuadMode$Core" qm_Co_setConditions qm_Co_setConditions ∈ qw := qw_in 673 (by decide +kernel) (by decide +kernel)
theorem qz_155 : Cond.methodLink "QuadMode$Pages" 51 qm_St_byteAt ∈ qw := qw_in 687 (by decide +kernel) (by decide +kernel)
theorem qz_156 : Cond.methodLink "QuadMode$Pages" 54 qm_St_putByte ∈ qw := qw_in 688 (by decide +kernel) (by decide +kernel)
theorem qz_157 : Cond.fieldLink "QuadMode$Core" 21 "QuadMode$Core" "places" "[I" ∈ qw := qw_in 133 (by decide +kernel) (by decide +kernel)
theorem qz_158 : Cond.fieldLink "QuadMode$Core" 24 "QuadMode$Core" "entries" "[I" ∈ qw := qw_in 134 (by decide +kernel) (by decide +kernel)
theorem qz_159 : Cond.methodLink "QuadMode$Core" 100 qm_Pg_markModified ∈ qw := qw_in 683 (by decide +kernel) (by decide +kernel)
theorem qz_160 : Cond.code qm_Pg_markModified qm_Pg_markModified_c 2 none ∈ qw := qw_in 686 (by decide +kernel) (by decide +kernel)
theorem qz_161 : Cond.instanceMethod qm_Pg_markModified ∈ qw := qw_in 684 (by decide +kernel) (by decide +kernel)
theorem qz_162 : Cond.selects "QuadMode$Pages" qm_Pg_markModified qm_Pg_markModified ∈ qw := qw_in 685 (by decide +kernel) (by decide +kernel)
theorem qz_163 : Cond.methodLink "QuadMode$Core" 104 qm_St_putByte ∈ qw := qw_in 689 (by decide +kernel) (by decide +kernel)
theorem qz_164 : Cond.methodLink "QuadMode$Codes" 165 qm_Co_write ∈ qw := qw_in 679 (by decide +kernel) (by decide +kernel)
theorem qz_165 : Cond.code qm_Co_write qm_Co_write_c 5 none ∈ qw := qw_in 682 (by decide +kernel) (by decide +kernel)
theorem qz_166 : Cond.instanceMethod qm_Co_write ∈ qw := qw_in 680 (by decide +kernel) (by decide +kernel)
theorem qz_167 : Cond.selects "QuadMode$Core" qm_Co_write qm_Co_write ∈ qw := qw_in 681 (by decide +kernel) (by decide +kernel)
theorem qz_168 : Cond.methodLink "QuadMode$Codes" 180 qm_Co_getInner ∈ qw := qw_in 666 (by decide +kernel) (by decide +kernel)
theorem qz_169 : Cond.methodLink "QuadMode$Codes" 183 qm_Co_conclude ∈ qw := qw_in 667 (by decide +kernel) (by decide +kernel)
theorem qz_170 : Cond.code qm_Co_conclude qm_Co_conclude_c 4 none ∈ qw := qw_in 670 (by decide +kernel) (by decide +kernel)
theorem qz_171 : Cond.instanceMethod qm_Co_conclude ∈ qw := qw_in 668 (by decide +kernel) (by decide +kernel)
theorem qz_172 : Cond.selects "QuadMode$Core" qm_Co_conclude qm_Co_conclude ∈ qw := qw_in 669 (by decide +kernel) (by decide +kernel)
theorem qz_173 : Cond.fieldLink "QuadMode$Codes" 19 "QuadMode$Codes" "second" "LQuadMode$Operand;" ∈ qw := qw_in 220 (by decide +kernel) (by decide +kernel)
theorem qz_174 : Cond.methodLink "QuadMode$Codes" 111 qm_Cd_store ∈ qw := qw_in 675 (by decide +kernel) (by decide +kernel)
theorem qz_175 : Cond.initialized "QuadMode$Codes" ∈ qw := qw_in 69 (by decide +kernel) (by decide +kernel)
theorem qz_176 : Cond.code qm_Cd_store qm_Cd_store_c 3 none ∈ qw := qw_in 678 (by decide +kernel) (by decide +kernel)
theorem qz_177 : Cond.instanceMethod qm_Cd_store ∈ qw := qw_in 677 (by decide +kernel) (by decide +kernel)
theorem qz_178 : Cond.selects "QuadMode$Codes" qm_Cd_store qm_Cd_store ∈ qw := qw_in 8 (by decide +kernel) (by decide +kernel)
theorem qz_179 : Cond.methodLink "QuadMode$Codes" 222 Lib.Math.min.name ∈ qw := qw_in 694 (by decide +kernel) (by decide +kernel)
theorem qz_180 : Cond.static Lib.Math.min.name ∈ qw := qw_in 695 (by decide +kernel) (by decide +kernel)
theorem qz_181 : Cond.initialized "java/lang/Math" ∈ qw := qw_in 82 (by decide +kernel) (by decide +kernel)
theorem qz_182 : Cond.code Lib.Math.min.name Lib.Math.min.code 2 (some .int) ∈ qw := qw_in 696 (by decide +kernel) (by decide +kernel)
theorem qz_183 : Cond.fieldLink "QuadMode$Codes" 22 "QuadMode$Codes" "third" "LQuadMode$Operand;" ∈ qw := qw_in 221 (by decide +kernel) (by decide +kernel)
theorem qz_184 : Cond.methodLink "QuadMode$Core" 117 qm_Co_write ∈ qw := qw_in 705 (by decide +kernel) (by decide +kernel)
theorem qz_185 : Cond.fieldLink "QuadMode$Codes" 15 "QuadMode$Codes" "first" "LQuadMode$Operand;" ∈ qw := qw_in 219 (by decide +kernel) (by decide +kernel)
theorem qz_186 : Cond.methodLink "QuadMode$Codes" 227 qm_Co_push ∈ qw := qw_in 701 (by decide +kernel) (by decide +kernel)
theorem qz_187 : Cond.code qm_Co_push qm_Co_push_c 2 none ∈ qw := qw_in 704 (by decide +kernel) (by decide +kernel)
theorem qz_188 : Cond.instanceMethod qm_Co_push ∈ qw := qw_in 702 (by decide +kernel) (by decide +kernel)
theorem qz_189 : Cond.selects "QuadMode$Core" qm_Co_push qm_Co_push ∈ qw := qw_in 703 (by decide +kernel) (by decide +kernel)
theorem qz_190 : Cond.methodLink "QuadMode$Codes" 233 qm_Co_read ∈ qw := qw_in 706 (by decide +kernel) (by decide +kernel)
theorem qz_191 : Cond.constant "QuadMode$Codes" 236 45056 ∈ qw := qw_in 707 (by decide +kernel) (by decide +kernel)
theorem qz_192 : Cond.constant "QuadMode$Codes" 238 65535 ∈ qw := qw_in 708 (by decide +kernel) (by decide +kernel)
theorem qz_193 : Cond.methodLink "QuadMode$Codes" 240 qm_Co_previous ∈ qw := qw_in 713 (by decide +kernel) (by decide +kernel)
theorem qz_194 : Cond.code qm_Co_previous qm_Co_previous_c 1 (some .int) ∈ qw := qw_in 716 (by decide +kernel) (by decide +kernel)
theorem qz_195 : Cond.instanceMethod qm_Co_previous ∈ qw := qw_in 714 (by decide +kernel) (by decide +kernel)
theorem qz_196 : Cond.selects "QuadMode$Core" qm_Co_previous qm_Co_previous ∈ qw := qw_in 715 (by decide +kernel) (by decide +kernel)
theorem qz_197 : Cond.methodLink "QuadMode$Codes" 243 Lib.Math.max.name ∈ qw := qw_in 717 (by decide +kernel) (by decide +kernel)
theorem qz_198 : Cond.static Lib.Math.max.name ∈ qw := qw_in 718 (by decide +kernel) (by decide +kernel)
theorem qz_199 : Cond.code Lib.Math.max.name Lib.Math.max.code 2 (some .int) ∈ qw := qw_in 719 (by decide +kernel) (by decide +kernel)
theorem qz_200 : Cond.methodLink "QuadMode$Codes" 246 qm_Co_admits ∈ qw := qw_in 720 (by decide +kernel) (by decide +kernel)
theorem qz_201 : Cond.code qm_Co_admits qm_Co_admits_c 5 (some .boolean) ∈ qw := qw_in 723 (by decide +kernel) (by decide +kernel)
theorem qz_202 : Cond.instanceMethod qm_Co_admits ∈ qw := qw_in 721 (by decide +kernel) (by decide +kernel)
theorem qz_203 : Cond.selects "QuadMode$Core" qm_Co_admits qm_Co_admits ∈ qw := qw_in 722 (by decide +kernel) (by decide +kernel)
theorem qz_204 : Cond.methodLink "QuadMode$Codes" 197 qm_Co_setConditions ∈ qw := qw_in 724 (by decide +kernel) (by decide +kernel)
theorem qz_205 : Cond.methodLink "QuadMode$Codes" 187 qm_Cd_moved ∈ qw := qw_in 729 (by decide +kernel) (by decide +kernel)
theorem qz_206 : Cond.code qm_Cd_moved qm_Cd_moved_c 2 (some .int) ∈ qw := qw_in 731 (by decide +kernel) (by decide +kernel)
theorem qz_207 : Cond.static qm_Cd_moved ∈ qw := qw_in 730 (by decide +kernel) (by decide +kernel)
theorem qz_208 : Cond.constant "QuadMode$Codes" 193 (-2147483648) ∈ qw := qw_in 732 (by decide +kernel) (by decide +kernel)
theorem qz_209 : Cond.methodLink "QuadMode$Codes" 152 qm_Co_has ∈ qw := qw_in 733 (by decide +kernel) (by decide +kernel)
theorem qz_210 : Cond.code qm_Co_has qm_Co_has_c 2 (some .boolean) ∈ qw := qw_in 736 (by decide +kernel) (by decide +kernel)
theorem qz_211 : Cond.instanceMethod qm_Co_has ∈ qw := qw_in 734 (by decide +kernel) (by decide +kernel)
theorem qz_212 : Cond.selects "QuadMode$Core" qm_Co_has qm_Co_has ∈ qw := qw_in 735 (by decide +kernel) (by decide +kernel)
theorem qz_213 : Cond.constant "java/lang/Integer" 127 (-2147483648) ∈ qw := qw_in 744 (by decide +kernel) (by decide +kernel)
theorem qz_214 : Cond.methodLink "java/lang/Integer" 259 qm_JI_compare ∈ qw := qw_in 745 (by decide +kernel) (by decide +kernel)
theorem qz_215 : Cond.initialized "java/lang/Integer" ∈ qw := qw_in 83 (by decide +kernel) (by decide +kernel)
theorem qz_216 : Cond.code qm_JI_compare qm_JI_compare_c 2 (some .int) ∈ qw := qw_in 747 (by decide +kernel) (by decide +kernel)
theorem qz_217 : Cond.static qm_JI_compare ∈ qw := qw_in 746 (by decide +kernel) (by decide +kernel)
theorem qz_218 : Cond.methodLink "QuadMode$Codes" 194 qm_JI_compareUnsigned ∈ qw := qw_in 741 (by decide +kernel) (by decide +kernel)
theorem qz_219 : Cond.code qm_JI_compareUnsigned qm_JI_compareUnsigned_c 2 (some .int) ∈ qw := qw_in 743 (by decide +kernel) (by decide +kernel)
theorem qz_220 : Cond.static qm_JI_compareUnsigned ∈ qw := qw_in 742 (by decide +kernel) (by decide +kernel)
theorem qz_221 : Cond.constantLong "QuadMode$Codes" 220 4294967295 ∈ qw := qw_in 756 (by decide +kernel) (by decide +kernel)
theorem qz_222 : Cond.methodLink "QuadMode$Codes" 217 qm_Cd_bits ∈ qw := qw_in 773 (by decide +kernel) (by decide +kernel)
theorem qz_223 : Cond.code qm_Cd_bits qm_Cd_bits_c 2 (some .int) ∈ qw := qw_in 776 (by decide +kernel) (by decide +kernel)
theorem qz_224 : Cond.instanceMethod qm_Cd_bits ∈ qw := qw_in 775 (by decide +kernel) (by decide +kernel)
theorem qz_225 : Cond.selects "QuadMode$Codes" qm_Cd_bits qm_Cd_bits ∈ qw := qw_in 20 (by decide +kernel) (by decide +kernel)
theorem qz_226 : Cond.methodLink "QuadMode$Codes" 214 qm_Cd_divide ∈ qw := qw_in 769 (by decide +kernel) (by decide +kernel)
theorem qz_227 : Cond.code qm_Cd_divide qm_Cd_divide_c 5 (some .int) ∈ qw := qw_in 772 (by decide +kernel) (by decide +kernel)
theorem qz_228 : Cond.instanceMethod qm_Cd_divide ∈ qw := qw_in 771 (by decide +kernel) (by decide +kernel)
theorem qz_229 : Cond.selects "QuadMode$Codes" qm_Cd_divide qm_Cd_divide ∈ qw := qw_in 19 (by decide +kernel) (by decide +kernel)
theorem qz_230 : Cond.methodLink "QuadMode$Codes" 211 qm_Cd_multiply ∈ qw := qw_in 765 (by decide +kernel) (by decide +kernel)
theorem qz_231 : Cond.code qm_Cd_multiply qm_Cd_multiply_c 5 (some .int) ∈ qw := qw_in 768 (by decide +kernel) (by decide +kernel)
theorem qz_232 : Cond.instanceMethod qm_Cd_multiply ∈ qw := qw_in 767 (by decide +kernel) (by decide +kernel)
theorem qz_233 : Cond.selects "QuadMode$Codes" qm_Cd_multiply qm_Cd_multiply ∈ qw := qw_in 18 (by decide +kernel) (by decide +kernel)
theorem qz_234 : Cond.methodLink "QuadMode$Codes" 204 qm_Cd_subtract ∈ qw := qw_in 757 (by decide +kernel) (by decide +kernel)
theorem qz_235 : Cond.code qm_Cd_subtract qm_Cd_subtract_c 5 (some .int) ∈ qw := qw_in 760 (by decide +kernel) (by decide +kernel)
theorem qz_236 : Cond.instanceMethod qm_Cd_subtract ∈ qw := qw_in 759 (by decide +kernel) (by decide +kernel)
theorem qz_237 : Cond.selects "QuadMode$Codes" qm_Cd_subtract qm_Cd_subtract ∈ qw := qw_in 16 (by decide +kernel) (by decide +kernel)
theorem qz_238 : Cond.methodLink "QuadMode$Codes" 201 qm_Cd_add ∈ qw := qw_in 752 (by decide +kernel) (by decide +kernel)
theorem qz_239 : Cond.code qm_Cd_add qm_Cd_add_c 5 (some .int) ∈ qw := qw_in 755 (by decide +kernel) (by decide +kernel)
theorem qz_240 : Cond.instanceMethod qm_Cd_add ∈ qw := qw_in 754 (by decide +kernel) (by decide +kernel)
theorem qz_241 : Cond.selects "QuadMode$Codes" qm_Cd_add qm_Cd_add ∈ qw := qw_in 15 (by decide +kernel) (by decide +kernel)
theorem qz_242 : Cond.methodLink "QuadMode$Codes" 207 qm_Cd_calculated ∈ qw := qw_in 761 (by decide +kernel) (by decide +kernel)
theorem qz_243 : Cond.code qm_Cd_calculated qm_Cd_calculated_c 4 (some .int) ∈ qw := qw_in 764 (by decide +kernel) (by decide +kernel)
theorem qz_244 : Cond.instanceMethod qm_Cd_calculated ∈ qw := qw_in 763 (by decide +kernel) (by decide +kernel)
theorem qz_245 : Cond.selects "QuadMode$Codes" qm_Cd_calculated qm_Cd_calculated ∈ qw := qw_in 17 (by decide +kernel) (by decide +kernel)
theorem qz_246 : Cond.methodLink "QuadMode$Codes" 230 qm_Cd_holds ∈ qw := qw_in 789 (by decide +kernel) (by decide +kernel)
theorem qz_247 : Cond.code qm_Cd_holds qm_Cd_holds_c 2 (some .boolean) ∈ qw := qw_in 792 (by decide +kernel) (by decide +kernel)
theorem qz_248 : Cond.instanceMethod qm_Cd_holds ∈ qw := qw_in 791 (by decide +kernel) (by decide +kernel)
theorem qz_249 : Cond.selects "QuadMode$Codes" qm_Cd_holds qm_Cd_holds ∈ qw := qw_in 24 (by decide +kernel) (by decide +kernel)
theorem qz_250 : Cond.methodLink "QuadMode$Codes" 125 qm_Cd_move ∈ qw := qw_in 725 (by decide +kernel) (by decide +kernel)
theorem qz_251 : Cond.code qm_Cd_move qm_Cd_move_c 6 none ∈ qw := qw_in 728 (by decide +kernel) (by decide +kernel)
theorem qz_252 : Cond.instanceMethod qm_Cd_move ∈ qw := qw_in 727 (by decide +kernel) (by decide +kernel)
theorem qz_253 : Cond.selects "QuadMode$Codes" qm_Cd_move qm_Cd_move ∈ qw := qw_in 12 (by decide +kernel) (by decide +kernel)
theorem qz_254 : Cond.methodLink "QuadMode$Codes" 128 qm_Cd_compare ∈ qw := qw_in 737 (by decide +kernel) (by decide +kernel)
theorem qz_255 : Cond.code qm_Cd_compare qm_Cd_compare_c 5 none ∈ qw := qw_in 740 (by decide +kernel) (by decide +kernel)
theorem qz_256 : Cond.instanceMethod qm_Cd_compare ∈ qw := qw_in 739 (by decide +kernel) (by decide +kernel)
theorem qz_257 : Cond.selects "QuadMode$Codes" qm_Cd_compare qm_Cd_compare ∈ qw := qw_in 13 (by decide +kernel) (by decide +kernel)
theorem qz_258 : Cond.methodLink "QuadMode$Codes" 131 qm_Cd_calculate ∈ qw := qw_in 748 (by decide +kernel) (by decide +kernel)
theorem qz_259 : Cond.code qm_Cd_calculate qm_Cd_calculate_c 3 none ∈ qw := qw_in 751 (by decide +kernel) (by decide +kernel)
theorem qz_260 : Cond.instanceMethod qm_Cd_calculate ∈ qw := qw_in 750 (by decide +kernel) (by decide +kernel)
theorem qz_261 : Cond.selects "QuadMode$Codes" qm_Cd_calculate qm_Cd_calculate ∈ qw := qw_in 14 (by decide +kernel) (by decide +kernel)
theorem qz_262 : Cond.methodLink "QuadMode$Codes" 134 qm_Cd_handAddress ∈ qw := qw_in 777 (by decide +kernel) (by decide +kernel)
theorem qz_263 : Cond.code qm_Cd_handAddress qm_Cd_handAddress_c 3 none ∈ qw := qw_in 780 (by decide +kernel) (by decide +kernel)
theorem qz_264 : Cond.instanceMethod qm_Cd_handAddress ∈ qw := qw_in 779 (by decide +kernel) (by decide +kernel)
theorem qz_265 : Cond.selects "QuadMode$Codes" qm_Cd_handAddress qm_Cd_handAddress ∈ qw := qw_in 21 (by decide +kernel) (by decide +kernel)
theorem qz_266 : Cond.methodLink "QuadMode$Codes" 137 qm_Cd_go ∈ qw := qw_in 781 (by decide +kernel) (by decide +kernel)
theorem qz_267 : Cond.code qm_Cd_go qm_Cd_go_c 3 none ∈ qw := qw_in 784 (by decide +kernel) (by decide +kernel)
theorem qz_268 : Cond.instanceMethod qm_Cd_go ∈ qw := qw_in 783 (by decide +kernel) (by decide +kernel)
theorem qz_269 : Cond.selects "QuadMode$Codes" qm_Cd_go qm_Cd_go ∈ qw := qw_in 22 (by decide +kernel) (by decide +kernel)
theorem qz_270 : Cond.methodLink "QuadMode$Codes" 140 qm_Cd_branch ∈ qw := qw_in 785 (by decide +kernel) (by decide +kernel)
theorem qz_271 : Cond.code qm_Cd_branch qm_Cd_branch_c 4 none ∈ qw := qw_in 788 (by decide +kernel) (by decide +kernel)
theorem qz_272 : Cond.instanceMethod qm_Cd_branch ∈ qw := qw_in 787 (by decide +kernel) (by decide +kernel)
theorem qz_273 : Cond.selects "QuadMode$Codes" qm_Cd_branch qm_Cd_branch ∈ qw := qw_in 23 (by decide +kernel) (by decide +kernel)
theorem qz_274 : Cond.methodLink "QuadMode$Codes" 143 qm_Cd_count ∈ qw := qw_in 793 (by decide +kernel) (by decide +kernel)
theorem qz_275 : Cond.code qm_Cd_count qm_Cd_count_c 9 none ∈ qw := qw_in 796 (by decide +kernel) (by decide +kernel)
theorem qz_276 : Cond.instanceMethod qm_Cd_count ∈ qw := qw_in 795 (by decide +kernel) (by decide +kernel)
theorem qz_277 : Cond.selects "QuadMode$Codes" qm_Cd_count qm_Cd_count ∈ qw := qw_in 25 (by decide +kernel) (by decide +kernel)
theorem qz_278 : Cond.methodLink "QuadMode$Codes" 121 qm_Cd_probe ∈ qw := qw_in 709 (by decide +kernel) (by decide +kernel)
theorem qz_279 : Cond.code qm_Cd_probe qm_Cd_probe_c 5 none ∈ qw := qw_in 712 (by decide +kernel) (by decide +kernel)
theorem qz_280 : Cond.instanceMethod qm_Cd_probe ∈ qw := qw_in 711 (by decide +kernel) (by decide +kernel)
theorem qz_281 : Cond.selects "QuadMode$Codes" qm_Cd_probe qm_Cd_probe ∈ qw := qw_in 11 (by decide +kernel) (by decide +kernel)
theorem qz_282 : Cond.methodLink "QuadMode$Codes" 118 qm_Cd_enterFrame ∈ qw := qw_in 697 (by decide +kernel) (by decide +kernel)
theorem qz_283 : Cond.code qm_Cd_enterFrame qm_Cd_enterFrame_c 5 none ∈ qw := qw_in 700 (by decide +kernel) (by decide +kernel)
theorem qz_284 : Cond.instanceMethod qm_Cd_enterFrame ∈ qw := qw_in 699 (by decide +kernel) (by decide +kernel)
theorem qz_285 : Cond.selects "QuadMode$Codes" qm_Cd_enterFrame qm_Cd_enterFrame ∈ qw := qw_in 10 (by decide +kernel) (by decide +kernel)
theorem qz_286 : Cond.methodLink "QuadMode$Codes" 115 qm_Cd_shift ∈ qw := qw_in 690 (by decide +kernel) (by decide +kernel)
theorem qz_287 : Cond.code qm_Cd_shift qm_Cd_shift_c 5 none ∈ qw := qw_in 693 (by decide +kernel) (by decide +kernel)
theorem qz_288 : Cond.instanceMethod qm_Cd_shift ∈ qw := qw_in 692 (by decide +kernel) (by decide +kernel)
theorem qz_289 : Cond.selects "QuadMode$Codes" qm_Cd_shift qm_Cd_shift ∈ qw := qw_in 9 (by decide +kernel) (by decide +kernel)
theorem qz_290 : Cond.methodLink "QuadMode$Codes" 105 qm_Cd_takeInner ∈ qw := qw_in 662 (by decide +kernel) (by decide +kernel)
theorem qz_291 : Cond.code qm_Cd_takeInner qm_Cd_takeInner_c 3 none ∈ qw := qw_in 665 (by decide +kernel) (by decide +kernel)
theorem qz_292 : Cond.instanceMethod qm_Cd_takeInner ∈ qw := qw_in 664 (by decide +kernel) (by decide +kernel)
theorem qz_293 : Cond.selects "QuadMode$Codes" qm_Cd_takeInner qm_Cd_takeInner ∈ qw := qw_in 7 (by decide +kernel) (by decide +kernel)
theorem qz_294 : Cond.methodLink "QuadMode$Codes" 102 qm_Cd_giveInner ∈ qw := qw_in 656 (by decide +kernel) (by decide +kernel)
theorem qz_295 : Cond.code qm_Cd_giveInner qm_Cd_giveInner_c 3 none ∈ qw := qw_in 659 (by decide +kernel) (by decide +kernel)
theorem qz_296 : Cond.instanceMethod qm_Cd_giveInner ∈ qw := qw_in 658 (by decide +kernel) (by decide +kernel)
theorem qz_297 : Cond.selects "QuadMode$Codes" qm_Cd_giveInner qm_Cd_giveInner ∈ qw := qw_in 6 (by decide +kernel) (by decide +kernel)
theorem qz_298 : Cond.methodLink "QuadMode$Codes" 86 qm_Cd_leaveFrame ∈ qw := qw_in 649 (by decide +kernel) (by decide +kernel)
theorem qz_299 : Cond.code qm_Cd_leaveFrame qm_Cd_leaveFrame_c 3 none ∈ qw := qw_in 652 (by decide +kernel) (by decide +kernel)
theorem qz_300 : Cond.instanceMethod qm_Cd_leaveFrame ∈ qw := qw_in 651 (by decide +kernel) (by decide +kernel)
theorem qz_301 : Cond.selects "QuadMode$Codes" qm_Cd_leaveFrame qm_Cd_leaveFrame ∈ qw := qw_in 5 (by decide +kernel) (by decide +kernel)
theorem qz_302 : Cond.methodLink "QuadMode$Codes" 79 qm_Cd_leaveException ∈ qw := qw_in 638 (by decide +kernel) (by decide +kernel)
theorem qz_303 : Cond.code qm_Cd_leaveException qm_Cd_leaveException_c 5 none ∈ qw := qw_in 641 (by decide +kernel) (by decide +kernel)
theorem qz_304 : Cond.instanceMethod qm_Cd_leaveException ∈ qw := qw_in 640 (by decide +kernel) (by decide +kernel)
theorem qz_305 : Cond.selects "QuadMode$Codes" qm_Cd_leaveException qm_Cd_leaveException ∈ qw := qw_in 4 (by decide +kernel) (by decide +kernel)
theorem qz_306 : Cond.methodLink "QuadMode$Codes" 146 qm_Cd_noteOverflow ∈ qw := qw_in 797 (by decide +kernel) (by decide +kernel)
theorem qz_307 : Cond.code qm_Cd_noteOverflow qm_Cd_noteOverflow_c 3 none ∈ qw := qw_in 800 (by decide +kernel) (by decide +kernel)
theorem qz_308 : Cond.instanceMethod qm_Cd_noteOverflow ∈ qw := qw_in 799 (by decide +kernel) (by decide +kernel)
theorem qz_309 : Cond.selects "QuadMode$Codes" qm_Cd_noteOverflow qm_Cd_noteOverflow ∈ qw := qw_in 26 (by decide +kernel) (by decide +kernel)
theorem qz_310 : Cond.fieldLink "QuadMode" 128 "QuadMode" "latest" "I" ∈ qw := qw_in 240 (by decide +kernel) (by decide +kernel)
theorem qz_311 : Cond.fieldLink "QuadMode" 131 "QuadMode" "exceptions" "I" ∈ qw := qw_in 241 (by decide +kernel) (by decide +kernel)
theorem qz_312 : Cond.methodLink "QuadMode" 187 qm_Co_mode ∈ qw := qw_in 813 (by decide +kernel) (by decide +kernel)
theorem qz_313 : Cond.methodLink "QuadMode" 202 qm_Co_push ∈ qw := qw_in 814 (by decide +kernel) (by decide +kernel)
theorem qz_314 : Cond.fieldLink "QuadMode" 16 "QuadMode" "inner" "[I" ∈ qw := qw_in 232 (by decide +kernel) (by decide +kernel)
theorem qz_315 : Cond.methodLink "QuadMode" 174 qm_Co_takeBack ∈ qw := qw_in 805 (by decide +kernel) (by decide +kernel)
theorem qz_316 : Cond.code qm_Co_takeBack qm_Co_takeBack_c 1 none ∈ qw := qw_in 808 (by decide +kernel) (by decide +kernel)
theorem qz_317 : Cond.instanceMethod qm_Co_takeBack ∈ qw := qw_in 806 (by decide +kernel) (by decide +kernel)
theorem qz_318 : Cond.selects "QuadMode$Core" qm_Co_takeBack qm_Co_takeBack ∈ qw := qw_in 807 (by decide +kernel) (by decide +kernel)
theorem qz_319 : Cond.methodLink "QuadMode" 190 Lib.Math.min.name ∈ qw := qw_in 815 (by decide +kernel) (by decide +kernel)
theorem qz_320 : Cond.fieldLink "QuadMode" 41 "QuadMode" "operands" "[LQuadMode$Operand;" ∈ qw := qw_in 235 (by decide +kernel) (by decide +kernel)
theorem qz_321 : Cond.methodLink "QuadMode" 183 qm_X_except ∈ qw := qw_in 809 (by decide +kernel) (by decide +kernel)
theorem qz_322 : Cond.initialized "QuadMode" ∈ qw := qw_in 63 (by decide +kernel) (by decide +kernel)
theorem qz_323 : Cond.code qm_X_except qm_X_except_c 8 none ∈ qw := qw_in 812 (by decide +kernel) (by decide +kernel)
theorem qz_324 : Cond.instanceMethod qm_X_except ∈ qw := qw_in 811 (by decide +kernel) (by decide +kernel)
theorem qz_325 : Cond.selects "QuadMode" qm_X_except qm_X_except ∈ qw := qw_in 28 (by decide +kernel) (by decide +kernel)
theorem qz_326 : Cond.methodLink "QuadMode" 134 qm_Co_keep ∈ qw := qw_in 465 (by decide +kernel) (by decide +kernel)
theorem qz_327 : Cond.code qm_Co_keep qm_Co_keep_c 1 none ∈ qw := qw_in 468 (by decide +kernel) (by decide +kernel)
theorem qz_328 : Cond.instanceMethod qm_Co_keep ∈ qw := qw_in 466 (by decide +kernel) (by decide +kernel)
theorem qz_329 : Cond.selects "QuadMode$Core" qm_Co_keep qm_Co_keep ∈ qw := qw_in 467 (by decide +kernel) (by decide +kernel)
theorem qz_330 : Cond.methodLink "QuadMode" 137 qm_Co_fetch ∈ qw := qw_in 472 (by decide +kernel) (by decide +kernel)
theorem qz_331 : Cond.fieldLink "QuadMode" 59 "QuadMode" "codes" "LQuadMode$Codes;" ∈ qw := qw_in 237 (by decide +kernel) (by decide +kernel)
theorem qz_332 : Cond.methodLink "QuadMode" 140 qm_Cd_isAllowed ∈ qw := qw_in 521 (by decide +kernel) (by decide +kernel)
theorem qz_333 : Cond.code qm_Cd_isAllowed qm_Cd_isAllowed_c 3 (some .boolean) ∈ qw := qw_in 524 (by decide +kernel) (by decide +kernel)
theorem qz_334 : Cond.instanceMethod qm_Cd_isAllowed ∈ qw := qw_in 522 (by decide +kernel) (by decide +kernel)
theorem qz_335 : Cond.selects "QuadMode$Codes" qm_Cd_isAllowed qm_Cd_isAllowed ∈ qw := qw_in 523 (by decide +kernel) (by decide +kernel)
theorem qz_336 : Cond.methodLink "QuadMode" 143 qm_Co_raise ∈ qw := qw_in 526 (by decide +kernel) (by decide +kernel)
theorem qz_337 : Cond.methodLink "QuadMode" 147 qm_Cd_shapeOf ∈ qw := qw_in 530 (by decide +kernel) (by decide +kernel)
theorem qz_338 : Cond.code qm_Cd_shapeOf qm_Cd_shapeOf_c 2 (some (.object "java/lang/String")) ∈ qw := qw_in 533 (by decide +kernel) (by decide +kernel)
theorem qz_339 : Cond.instanceMethod qm_Cd_shapeOf ∈ qw := qw_in 531 (by decide +kernel) (by decide +kernel)
theorem qz_340 : Cond.selects "QuadMode$Codes" qm_Cd_shapeOf qm_Cd_shapeOf ∈ qw := qw_in 532 (by decide +kernel) (by decide +kernel)
theorem qz_341 : Cond.fieldLink "QuadMode" 25 "QuadMode" "pages" "LQuadMode$Pages;" ∈ qw := qw_in 233 (by decide +kernel) (by decide +kernel)
theorem qz_342 : Cond.methodLink "QuadMode" 124 qm_Pg_locate ∈ qw := qw_in 824 (by decide +kernel) (by decide +kernel)
theorem qz_343 : Cond.fieldLink "QuadMode" 119 "QuadMode" "instructions" "I" ∈ qw := qw_in 239 (by decide +kernel) (by decide +kernel)
theorem qz_344 : Cond.fieldLink "QuadModeModel" 40 "QuadModeModel" "thrown" "I" ∈ qw := qw_in 831 (by decide +kernel) (by decide +kernel)
theorem qz_345 : Cond.fieldLink "QuadModeModel" 7 "QuadModeModel" "storage" "[I" ∈ qw := qw_in 832 (by decide +kernel) (by decide +kernel)
theorem qz_346 : Cond.constantLong "QuadModeModel" 201 255 ∈ qw := qw_in 906 (by decide +kernel) (by decide +kernel)
theorem qz_347 : Cond.methodLink "QuadModeModel" 56 qm_M_bare ∈ qw := qw_in 911 (by decide +kernel) (by decide +kernel)
theorem qz_348 : Cond.initialized "QuadModeModel" ∈ qw := qw_in 70 (by decide +kernel) (by decide +kernel)
theorem qz_349 : Cond.code qm_M_bare qm_M_bare_c 5 (some .int) ∈ qw := qw_in 914 (by decide +kernel) (by decide +kernel)
theorem qz_350 : Cond.instanceMethod qm_M_bare ∈ qw := qw_in 913 (by decide +kernel) (by decide +kernel)
theorem qz_351 : Cond.selects "QuadModeModel" qm_M_bare qm_M_bare ∈ qw := qw_in 29 (by decide +kernel) (by decide +kernel)
theorem qz_352 : Cond.fieldLink "QuadModeModel" 44 "QuadModeModel" "status" "I" ∈ qw := qw_in 835 (by decide +kernel) (by decide +kernel)
theorem qz_353 : Cond.fieldLink "QuadModeModel" 13 "QuadModeModel" "registers" "[I" ∈ qw := qw_in 833 (by decide +kernel) (by decide +kernel)
theorem qz_354 : Cond.fieldLink "QuadModeModel" 16 "QuadModeModel" "inner" "[I" ∈ qw := qw_in 834 (by decide +kernel) (by decide +kernel)
theorem qz_355 : Cond.methodLink "QuadModeModel" 69 qm_M_mode ∈ qw := qw_in 923 (by decide +kernel) (by decide +kernel)
theorem qz_356 : Cond.code qm_M_mode qm_M_mode_c 1 (some .int) ∈ qw := qw_in 926 (by decide +kernel) (by decide +kernel)
theorem qz_357 : Cond.instanceMethod qm_M_mode ∈ qw := qw_in 925 (by decide +kernel) (by decide +kernel)
theorem qz_358 : Cond.selects "QuadModeModel" qm_M_mode qm_M_mode ∈ qw := qw_in 31 (by decide +kernel) (by decide +kernel)
theorem qz_359 : Cond.methodLink "QuadModeModel" 90 qm_M_put ∈ qw := qw_in 919 (by decide +kernel) (by decide +kernel)
theorem qz_360 : Cond.code qm_M_put qm_M_put_c 3 none ∈ qw := qw_in 922 (by decide +kernel) (by decide +kernel)
theorem qz_361 : Cond.instanceMethod qm_M_put ∈ qw := qw_in 921 (by decide +kernel) (by decide +kernel)
theorem qz_362 : Cond.selects "QuadModeModel" qm_M_put qm_M_put ∈ qw := qw_in 30 (by decide +kernel) (by decide +kernel)
theorem qz_363 : Cond.methodLink "QuadModeModel" 84 qm_M_get ∈ qw := qw_in 935 (by decide +kernel) (by decide +kernel)
theorem qz_364 : Cond.code qm_M_get qm_M_get_c 2 (some .int) ∈ qw := qw_in 938 (by decide +kernel) (by decide +kernel)
theorem qz_365 : Cond.instanceMethod qm_M_get ∈ qw := qw_in 937 (by decide +kernel) (by decide +kernel)
theorem qz_366 : Cond.selects "QuadModeModel" qm_M_get qm_M_get ∈ qw := qw_in 33 (by decide +kernel) (by decide +kernel)
theorem qz_367 : Cond.methodLink "QuadModeModel" 203 qm_M_fail ∈ qw := qw_in 931 (by decide +kernel) (by decide +kernel)
theorem qz_368 : Cond.code qm_M_fail qm_M_fail_c 2 (some .int) ∈ qw := qw_in 934 (by decide +kernel) (by decide +kernel)
theorem qz_369 : Cond.instanceMethod qm_M_fail ∈ qw := qw_in 933 (by decide +kernel) (by decide +kernel)
theorem qz_370 : Cond.selects "QuadModeModel" qm_M_fail qm_M_fail ∈ qw := qw_in 32 (by decide +kernel) (by decide +kernel)
theorem qz_371 : Cond.methodLink "QuadModeModel" 133 qm_M_isInner ∈ qw := qw_in 943 (by decide +kernel) (by decide +kernel)
theorem qz_372 : Cond.code qm_M_isInner qm_M_isInner_c 1 (some .boolean) ∈ qw := qw_in 945 (by decide +kernel) (by decide +kernel)
theorem qz_373 : Cond.static qm_M_isInner ∈ qw := qw_in 944 (by decide +kernel) (by decide +kernel)
theorem qz_374 : Cond.constant "QuadModeModel" 132 (-62914608) ∈ qw := qw_in 954 (by decide +kernel) (by decide +kernel)
theorem qz_375 : Cond.fieldLink "QuadModeModel" 174 "QuadModeModel" "rest" "I" ∈ qw := qw_in 836 (by decide +kernel) (by decide +kernel)
theorem qz_376 : Cond.fieldLink "QuadModeModel" 19 "QuadModeModel" "oldRegisters" "[I" ∈ qw := qw_in 840 (by decide +kernel) (by decide +kernel)
theorem qz_377 : Cond.fieldLink "QuadModeModel" 97 "QuadModeModel" "oldStatus" "I" ∈ qw := qw_in 842 (by decide +kernel) (by decide +kernel)
theorem qz_378 : Cond.fieldLink "QuadModeModel" 22 "QuadModeModel" "oldInner" "[I" ∈ qw := qw_in 841 (by decide +kernel) (by decide +kernel)
theorem qz_379 : Cond.constant "QuadModeModel" 47 (-2147483648) ∈ qw := qw_in 987 (by decide +kernel) (by decide +kernel)
theorem qz_380 : Cond.fieldLink "QuadModeModel" 48 "QuadModeModel" "entryAt" "I" ∈ qw := qw_in 850 (by decide +kernel) (by decide +kernel)
theorem qz_381 : Cond.constant "QuadModeModel" 51 16777215 ∈ qw := qw_in 983 (by decide +kernel) (by decide +kernel)
theorem qz_382 : Cond.methodLink "QuadModeModel" 52 qm_M_below ∈ qw := qw_in 984 (by decide +kernel) (by decide +kernel)
theorem qz_383 : Cond.code qm_M_below qm_M_below_c 2 (some .boolean) ∈ qw := qw_in 986 (by decide +kernel) (by decide +kernel)
theorem qz_384 : Cond.static qm_M_below ∈ qw := qw_in 985 (by decide +kernel) (by decide +kernel)
theorem qz_385 : Cond.fieldLink "QuadModeModel" 60 "QuadModeModel" "fault" "I" ∈ qw := qw_in 843 (by decide +kernel) (by decide +kernel)
theorem qz_386 : Cond.fieldLink "QuadModeModel" 63 "QuadModeModel" "wrongAt" "I" ∈ qw := qw_in 844 (by decide +kernel) (by decide +kernel)
theorem qz_387 : Cond.fieldLink "QuadModeModel" 66 "QuadModeModel" "flag" "I" ∈ qw := qw_in 845 (by decide +kernel) (by decide +kernel)
theorem qz_388 : Cond.methodLink "QuadModeModel" 73 qm_M_find ∈ qw := qw_in 979 (by decide +kernel) (by decide +kernel)
theorem qz_389 : Cond.code qm_M_find qm_M_find_c 11 (some .int) ∈ qw := qw_in 982 (by decide +kernel) (by decide +kernel)
theorem qz_390 : Cond.instanceMethod qm_M_find ∈ qw := qw_in 981 (by decide +kernel) (by decide +kernel)
theorem qz_391 : Cond.selects "QuadModeModel" qm_M_find qm_M_find ∈ qw := qw_in 38 (by decide +kernel) (by decide +kernel)
theorem qz_392 : Cond.methodLink "QuadModeModel" 77 qm_M_wrong ∈ qw := qw_in 988 (by decide +kernel) (by decide +kernel)
theorem qz_393 : Cond.code qm_M_wrong qm_M_wrong_c 4 none ∈ qw := qw_in 991 (by decide +kernel) (by decide +kernel)
theorem qz_394 : Cond.instanceMethod qm_M_wrong ∈ qw := qw_in 990 (by decide +kernel) (by decide +kernel)
theorem qz_395 : Cond.selects "QuadModeModel" qm_M_wrong qm_M_wrong ∈ qw := qw_in 39 (by decide +kernel) (by decide +kernel)
theorem qz_396 : Cond.methodLink "QuadModeModel" 81 qm_M_readByte ∈ qw := qw_in 975 (by decide +kernel) (by decide +kernel)
theorem qz_397 : Cond.code qm_M_readByte qm_M_readByte_c 3 (some .int) ∈ qw := qw_in 978 (by decide +kernel) (by decide +kernel)
theorem qz_398 : Cond.instanceMethod qm_M_readByte ∈ qw := qw_in 977 (by decide +kernel) (by decide +kernel)
theorem qz_399 : Cond.selects "QuadModeModel" qm_M_readByte qm_M_readByte ∈ qw := qw_in 37 (by decide +kernel) (by decide +kernel)
theorem qz_400 : Cond.methodLink "QuadModeModel" 100 qm_M_next ∈ qw := qw_in 971 (by decide +kernel) (by decide +kernel)
theorem qz_401 : Cond.code qm_M_next qm_M_next_c 2 (some .int) ∈ qw := qw_in 974 (by decide +kernel) (by decide +kernel)
theorem qz_402 : Cond.instanceMethod qm_M_next ∈ qw := qw_in 973 (by decide +kernel) (by decide +kernel)
theorem qz_403 : Cond.selects "QuadModeModel" qm_M_next qm_M_next ∈ qw := qw_in 36 (by decide +kernel) (by decide +kernel)
theorem qz_404 : Cond.fieldLink "QuadModeModel" 28 "QuadModeModel" "where" "[I" ∈ qw := qw_in 848 (by decide +kernel) (by decide +kernel)
theorem qz_405 : Cond.fieldLink "QuadModeModel" 25 "QuadModeModel" "value" "[I" ∈ qw := qw_in 847 (by decide +kernel) (by decide +kernel)
theorem qz_406 : Cond.methodLink "QuadModeModel" 103 qm_M_signed ∈ qw := qw_in 995 (by decide +kernel) (by decide +kernel)
theorem qz_407 : Cond.code qm_M_signed qm_M_signed_c 1 (some .int) ∈ qw := qw_in 997 (by decide +kernel) (by decide +kernel)
theorem qz_408 : Cond.static qm_M_signed ∈ qw := qw_in 996 (by decide +kernel) (by decide +kernel)
theorem qz_409 : Cond.methodLink "QuadModeModel" 94 qm_M_readLong ∈ qw := qw_in 1002 (by decide +kernel) (by decide +kernel)
theorem qz_410 : Cond.code qm_M_readLong qm_M_readLong_c 4 (some .int) ∈ qw := qw_in 1005 (by decide +kernel) (by decide +kernel)
theorem qz_411 : Cond.instanceMethod qm_M_readLong ∈ qw := qw_in 1004 (by decide +kernel) (by decide +kernel)
theorem qz_412 : Cond.selects "QuadModeModel" qm_M_readLong qm_M_readLong ∈ qw := qw_in 41 (by decide +kernel) (by decide +kernel)
theorem qz_413 : Cond.fieldLink "QuadModeModel" 31 "QuadModeModel" "at" "[I" ∈ qw := qw_in 849 (by decide +kernel) (by decide +kernel)
theorem qz_414 : Cond.methodLink "QuadModeModel" 128 qm_M_pop ∈ qw := qw_in 1014 (by decide +kernel) (by decide +kernel)
theorem qz_415 : Cond.code qm_M_pop qm_M_pop_c 2 (some .int) ∈ qw := qw_in 1017 (by decide +kernel) (by decide +kernel)
theorem qz_416 : Cond.instanceMethod qm_M_pop ∈ qw := qw_in 1016 (by decide +kernel) (by decide +kernel)
theorem qz_417 : Cond.selects "QuadModeModel" qm_M_pop qm_M_pop ∈ qw := qw_in 44 (by decide +kernel) (by decide +kernel)
theorem qz_418 : Cond.constant "QuadModeModel" 131 65488 ∈ qw := qw_in 1022 (by decide +kernel) (by decide +kernel)
theorem qz_419 : Cond.fieldLink "QuadModeModel" 34 "QuadModeModel" "places" "[I" ∈ qw := qw_in 851 (by decide +kernel) (by decide +kernel)
theorem qz_420 : Cond.fieldLink "QuadModeModel" 37 "QuadModeModel" "entries" "[I" ∈ qw := qw_in 852 (by decide +kernel) (by decide +kernel)
theorem qz_421 : Cond.methodLink "QuadModeModel" 87 qm_M_write ∈ qw := qw_in 1035 (by decide +kernel) (by decide +kernel)
theorem qz_422 : Cond.code qm_M_write qm_M_write_c 5 none ∈ qw := qw_in 1038 (by decide +kernel) (by decide +kernel)
theorem qz_423 : Cond.instanceMethod qm_M_write ∈ qw := qw_in 1037 (by decide +kernel) (by decide +kernel)
theorem qz_424 : Cond.selects "QuadModeModel" qm_M_write qm_M_write ∈ qw := qw_in 49 (by decide +kernel) (by decide +kernel)
theorem qz_425 : Cond.methodLink "QuadModeModel" 113 qm_M_mark ∈ qw := qw_in 1027 (by decide +kernel) (by decide +kernel)
theorem qz_426 : Cond.code qm_M_mark qm_M_mark_c 4 none ∈ qw := qw_in 1030 (by decide +kernel) (by decide +kernel)
theorem qz_427 : Cond.instanceMethod qm_M_mark ∈ qw := qw_in 1029 (by decide +kernel) (by decide +kernel)
theorem qz_428 : Cond.selects "QuadModeModel" qm_M_mark qm_M_mark ∈ qw := qw_in 47 (by decide +kernel) (by decide +kernel)
theorem qz_429 : Cond.methodLink "QuadModeModel" 117 qm_M_give ∈ qw := qw_in 1031 (by decide +kernel) (by decide +kernel)
theorem qz_430 : Cond.code qm_M_give qm_M_give_c 4 none ∈ qw := qw_in 1034 (by decide +kernel) (by decide +kernel)
theorem qz_431 : Cond.instanceMethod qm_M_give ∈ qw := qw_in 1033 (by decide +kernel) (by decide +kernel)
theorem qz_432 : Cond.selects "QuadModeModel" qm_M_give qm_M_give ∈ qw := qw_in 48 (by decide +kernel) (by decide +kernel)
theorem qz_433 : Cond.methodLink "QuadModeModel" 106 qm_M_has ∈ qw := qw_in 1043 (by decide +kernel) (by decide +kernel)
theorem qz_434 : Cond.code qm_M_has qm_M_has_c 2 (some .boolean) ∈ qw := qw_in 1046 (by decide +kernel) (by decide +kernel)
theorem qz_435 : Cond.instanceMethod qm_M_has ∈ qw := qw_in 1045 (by decide +kernel) (by decide +kernel)
theorem qz_436 : Cond.selects "QuadModeModel" qm_M_has qm_M_has ∈ qw := qw_in 51 (by decide +kernel) (by decide +kernel)
theorem qz_437 : Cond.methodLink "QuadModeModel" 121 qm_M_push ∈ qw := qw_in 1047 (by decide +kernel) (by decide +kernel)
theorem qz_438 : Cond.code qm_M_push qm_M_push_c 2 none ∈ qw := qw_in 1050 (by decide +kernel) (by decide +kernel)
theorem qz_439 : Cond.instanceMethod qm_M_push ∈ qw := qw_in 1049 (by decide +kernel) (by decide +kernel)
theorem qz_440 : Cond.selects "QuadModeModel" qm_M_push qm_M_push ∈ qw := qw_in 52 (by decide +kernel) (by decide +kernel)
theorem qz_441 : Cond.fieldLink "QuadModeModel" 110 "QuadModeModel" "trap" "I" ∈ qw := qw_in 846 (by decide +kernel) (by decide +kernel)
theorem qz_442 : Cond.constant "QuadModeModel" 120 2147483647 ∈ qw := qw_in 1071 (by decide +kernel) (by decide +kernel)
theorem qz_443 : Cond.constant "QuadModeModel" 125 45056 ∈ qw := qw_in 1076 (by decide +kernel) (by decide +kernel)
theorem qz_444 : Cond.constant "QuadModeModel" 126 536870912 ∈ qw := qw_in 1077 (by decide +kernel) (by decide +kernel)
theorem qz_445 : Cond.constant "QuadModeModel" 127 65535 ∈ qw := qw_in 1078 (by decide +kernel) (by decide +kernel)
theorem qz_446 : Cond.methodLink "QuadModeModel" 139 qm_M_comeBack ∈ qw := qw_in 1018 (by decide +kernel) (by decide +kernel)
theorem qz_447 : Cond.code qm_M_comeBack qm_M_comeBack_c 3 none ∈ qw := qw_in 1021 (by decide +kernel) (by decide +kernel)
theorem qz_448 : Cond.instanceMethod qm_M_comeBack ∈ qw := qw_in 1020 (by decide +kernel) (by decide +kernel)
theorem qz_449 : Cond.selects "QuadModeModel" qm_M_comeBack qm_M_comeBack ∈ qw := qw_in 45 (by decide +kernel) (by decide +kernel)
theorem qz_450 : Cond.methodLink "QuadModeModel" 136 qm_M_endException ∈ qw := qw_in 1010 (by decide +kernel) (by decide +kernel)
theorem qz_451 : Cond.code qm_M_endException qm_M_endException_c 4 none ∈ qw := qw_in 1013 (by decide +kernel) (by decide +kernel)
theorem qz_452 : Cond.instanceMethod qm_M_endException ∈ qw := qw_in 1012 (by decide +kernel) (by decide +kernel)
theorem qz_453 : Cond.selects "QuadModeModel" qm_M_endException qm_M_endException ∈ qw := qw_in 43 (by decide +kernel) (by decide +kernel)
theorem qz_454 : Cond.methodLink "QuadModeModel" 145 qm_M_move ∈ qw := qw_in 1039 (by decide +kernel) (by decide +kernel)
theorem qz_455 : Cond.code qm_M_move qm_M_move_c 9 none ∈ qw := qw_in 1042 (by decide +kernel) (by decide +kernel)
theorem qz_456 : Cond.instanceMethod qm_M_move ∈ qw := qw_in 1041 (by decide +kernel) (by decide +kernel)
theorem qz_457 : Cond.selects "QuadModeModel" qm_M_move qm_M_move ∈ qw := qw_in 50 (by decide +kernel) (by decide +kernel)
theorem qz_458 : Cond.methodLink "QuadModeModel" 148 qm_M_reckon ∈ qw := qw_in 1051 (by decide +kernel) (by decide +kernel)
theorem qz_459 : Cond.code qm_M_reckon qm_M_reckon_c 11 none ∈ qw := qw_in 1054 (by decide +kernel) (by decide +kernel)
theorem qz_460 : Cond.instanceMethod qm_M_reckon ∈ qw := qw_in 1053 (by decide +kernel) (by decide +kernel)
theorem qz_461 : Cond.selects "QuadModeModel" qm_M_reckon qm_M_reckon ∈ qw := qw_in 53 (by decide +kernel) (by decide +kernel)
theorem qz_462 : Cond.methodLink "QuadModeModel" 155 qm_M_go ∈ qw := qw_in 1059 (by decide +kernel) (by decide +kernel)
theorem qz_463 : Cond.code qm_M_go qm_M_go_c 4 none ∈ qw := qw_in 1062 (by decide +kernel) (by decide +kernel)
theorem qz_464 : Cond.instanceMethod qm_M_go ∈ qw := qw_in 1061 (by decide +kernel) (by decide +kernel)
theorem qz_465 : Cond.selects "QuadModeModel" qm_M_go qm_M_go ∈ qw := qw_in 55 (by decide +kernel) (by decide +kernel)
theorem qz_466 : Cond.methodLink "QuadModeModel" 152 qm_M_shift ∈ qw := qw_in 1055 (by decide +kernel) (by decide +kernel)
theorem qz_467 : Cond.code qm_M_shift qm_M_shift_c 5 none ∈ qw := qw_in 1058 (by decide +kernel) (by decide +kernel)
theorem qz_468 : Cond.instanceMethod qm_M_shift ∈ qw := qw_in 1057 (by decide +kernel) (by decide +kernel)
theorem qz_469 : Cond.selects "QuadModeModel" qm_M_shift qm_M_shift ∈ qw := qw_in 54 (by decide +kernel) (by decide +kernel)
theorem qz_470 : Cond.methodLink "QuadModeModel" 158 qm_M_isMet ∈ qw := qw_in 1063 (by decide +kernel) (by decide +kernel)
theorem qz_471 : Cond.code qm_M_isMet qm_M_isMet_c 6 (some .boolean) ∈ qw := qw_in 1066 (by decide +kernel) (by decide +kernel)
theorem qz_472 : Cond.instanceMethod qm_M_isMet ∈ qw := qw_in 1065 (by decide +kernel) (by decide +kernel)
theorem qz_473 : Cond.selects "QuadModeModel" qm_M_isMet qm_M_isMet ∈ qw := qw_in 56 (by decide +kernel) (by decide +kernel)
theorem qz_474 : Cond.methodLink "QuadModeModel" 161 qm_M_count ∈ qw := qw_in 1067 (by decide +kernel) (by decide +kernel)
theorem qz_475 : Cond.code qm_M_count qm_M_count_c 5 none ∈ qw := qw_in 1070 (by decide +kernel) (by decide +kernel)
theorem qz_476 : Cond.instanceMethod qm_M_count ∈ qw := qw_in 1069 (by decide +kernel) (by decide +kernel)
theorem qz_477 : Cond.selects "QuadModeModel" qm_M_count qm_M_count ∈ qw := qw_in 57 (by decide +kernel) (by decide +kernel)
theorem qz_478 : Cond.methodLink "QuadModeModel" 164 qm_M_callFrame ∈ qw := qw_in 1072 (by decide +kernel) (by decide +kernel)
theorem qz_479 : Cond.code qm_M_callFrame qm_M_callFrame_c 5 none ∈ qw := qw_in 1075 (by decide +kernel) (by decide +kernel)
theorem qz_480 : Cond.instanceMethod qm_M_callFrame ∈ qw := qw_in 1074 (by decide +kernel) (by decide +kernel)
theorem qz_481 : Cond.selects "QuadModeModel" qm_M_callFrame qm_M_callFrame ∈ qw := qw_in 58 (by decide +kernel) (by decide +kernel)
theorem qz_482 : Cond.methodLink "QuadModeModel" 167 qm_M_probe ∈ qw := qw_in 1079 (by decide +kernel) (by decide +kernel)
theorem qz_483 : Cond.code qm_M_probe qm_M_probe_c 9 none ∈ qw := qw_in 1082 (by decide +kernel) (by decide +kernel)
theorem qz_484 : Cond.instanceMethod qm_M_probe ∈ qw := qw_in 1081 (by decide +kernel) (by decide +kernel)
theorem qz_485 : Cond.selects "QuadModeModel" qm_M_probe qm_M_probe ∈ qw := qw_in 59 (by decide +kernel) (by decide +kernel)
theorem qz_486 : Cond.methodLink "QuadModeModel" 142 qm_M_innerOnes ∈ qw := qw_in 1023 (by decide +kernel) (by decide +kernel)
theorem qz_487 : Cond.code qm_M_innerOnes qm_M_innerOnes_c 5 none ∈ qw := qw_in 1026 (by decide +kernel) (by decide +kernel)
theorem qz_488 : Cond.instanceMethod qm_M_innerOnes ∈ qw := qw_in 1025 (by decide +kernel) (by decide +kernel)
theorem qz_489 : Cond.selects "QuadModeModel" qm_M_innerOnes qm_M_innerOnes ∈ qw := qw_in 46 (by decide +kernel) (by decide +kernel)
theorem qz_490 : Cond.fieldLink "QuadModeModel" 177 "QuadModeModel" "latest" "I" ∈ qw := qw_in 838 (by decide +kernel) (by decide +kernel)
theorem qz_491 : Cond.fieldLink "QuadModeModel" 180 "QuadModeModel" "exceptions" "I" ∈ qw := qw_in 839 (by decide +kernel) (by decide +kernel)
theorem qz_492 : Cond.methodLink "QuadModeModel" 171 qm_M_bringBack ∈ qw := qw_in 1083 (by decide +kernel) (by decide +kernel)
theorem qz_493 : Cond.code qm_M_bringBack qm_M_bringBack_c 2 none ∈ qw := qw_in 1086 (by decide +kernel) (by decide +kernel)
theorem qz_494 : Cond.instanceMethod qm_M_bringBack ∈ qw := qw_in 1085 (by decide +kernel) (by decide +kernel)
theorem qz_495 : Cond.selects "QuadModeModel" qm_M_bringBack qm_M_bringBack ∈ qw := qw_in 60 (by decide +kernel) (by decide +kernel)
theorem qz_496 : Cond.methodLink "QuadModeModel" 183 qm_M_keep ∈ qw := qw_in 967 (by decide +kernel) (by decide +kernel)
theorem qz_497 : Cond.code qm_M_keep qm_M_keep_c 2 none ∈ qw := qw_in 970 (by decide +kernel) (by decide +kernel)
theorem qz_498 : Cond.instanceMethod qm_M_keep ∈ qw := qw_in 969 (by decide +kernel) (by decide +kernel)
theorem qz_499 : Cond.selects "QuadModeModel" qm_M_keep qm_M_keep ∈ qw := qw_in 35 (by decide +kernel) (by decide +kernel)
theorem qz_500 : Cond.methodLink "QuadModeModel" 186 qm_M_shape ∈ qw := qw_in 992 (by decide +kernel) (by decide +kernel)
theorem qz_501 : Cond.code qm_M_shape qm_M_shape_c 1 (some .int) ∈ qw := qw_in 994 (by decide +kernel) (by decide +kernel)
theorem qz_502 : Cond.static qm_M_shape ∈ qw := qw_in 993 (by decide +kernel) (by decide +kernel)
theorem qz_503 : Cond.methodLink "QuadModeModel" 189 qm_M_operand ∈ qw := qw_in 998 (by decide +kernel) (by decide +kernel)
theorem qz_504 : Cond.code qm_M_operand qm_M_operand_c 11 none ∈ qw := qw_in 1001 (by decide +kernel) (by decide +kernel)
theorem qz_505 : Cond.instanceMethod qm_M_operand ∈ qw := qw_in 1000 (by decide +kernel) (by decide +kernel)
theorem qz_506 : Cond.selects "QuadModeModel" qm_M_operand qm_M_operand ∈ qw := qw_in 40 (by decide +kernel) (by decide +kernel)
theorem qz_507 : Cond.methodLink "QuadModeModel" 192 qm_M_work ∈ qw := qw_in 1006 (by decide +kernel) (by decide +kernel)
theorem qz_508 : Cond.code qm_M_work qm_M_work_c 3 none ∈ qw := qw_in 1009 (by decide +kernel) (by decide +kernel)
theorem qz_509 : Cond.instanceMethod qm_M_work ∈ qw := qw_in 1008 (by decide +kernel) (by decide +kernel)
theorem qz_510 : Cond.selects "QuadModeModel" qm_M_work qm_M_work ∈ qw := qw_in 42 (by decide +kernel) (by decide +kernel)
theorem qz_511 : Cond.fieldLink "QuadModeModel" 195 "QuadModeModel" "done" "I" ∈ qw := qw_in 837 (by decide +kernel) (by decide +kernel)
theorem qz_512 : Cond.methodLink "QuadModeModel" 198 qm_M_raise ∈ qw := qw_in 1087 (by decide +kernel) (by decide +kernel)
theorem qz_513 : Cond.code qm_M_raise qm_M_raise_c 8 none ∈ qw := qw_in 1090 (by decide +kernel) (by decide +kernel)
theorem qz_514 : Cond.instanceMethod qm_M_raise ∈ qw := qw_in 1089 (by decide +kernel) (by decide +kernel)
theorem qz_515 : Cond.selects "QuadModeModel" qm_M_raise qm_M_raise ∈ qw := qw_in 61 (by decide +kernel) (by decide +kernel)
theorem qz_516 : Cond.methodLink "QuadModeModel" 206 qm_M_instruction ∈ qw := qw_in 963 (by decide +kernel) (by decide +kernel)
theorem qz_517 : Cond.code qm_M_instruction qm_M_instruction_c 5 none ∈ qw := qw_in 966 (by decide +kernel) (by decide +kernel)
theorem qz_518 : Cond.instanceMethod qm_M_instruction ∈ qw := qw_in 965 (by decide +kernel) (by decide +kernel)
theorem qz_519 : Cond.selects "QuadModeModel" qm_M_instruction qm_M_instruction ∈ qw := qw_in 34 (by decide +kernel) (by decide +kernel)
theorem qx_X_63 : Cond.methodLink "QuadMode" 63 qm_St_putByte ∈ qw ∧ Cond.instanceMethod qm_St_putByte ∈ qw ∧ Cond.selects qm_St_putByte.cls qm_St_putByte qm_St_putByte ∈ qw ∧ Cond.initialized qm_St_putByte.cls ∈ qw ∧ Cond.code qm_St_putByte qm_St_putByte_c 3 none ∈ qw := ⟨qz_2, qz_5, qz_6, qz_3, qz_4⟩
theorem qx_X_67 : Cond.methodLink "QuadMode" 67 qm_St_longAt ∈ qw ∧ Cond.instanceMethod qm_St_longAt ∈ qw ∧ Cond.selects qm_St_longAt.cls qm_St_longAt qm_St_longAt ∈ qw ∧ Cond.initialized qm_St_longAt.cls ∈ qw ∧ Cond.code qm_St_longAt qm_St_longAt_c 2 (some .int) ∈ qw := ⟨qz_7, qz_9, qz_10, qz_3, qz_8⟩
theorem qx_Co_42 : Cond.methodLink "QuadMode$Core" 42 qm_Co_mode ∈ qw ∧ Cond.instanceMethod qm_Co_mode ∈ qw ∧ Cond.selects qm_Co_mode.cls qm_Co_mode qm_Co_mode ∈ qw ∧ Cond.initialized qm_Co_mode.cls ∈ qw ∧ Cond.code qm_Co_mode qm_Co_mode_c 1 (some .int) ∈ qw := ⟨qz_14, qz_17, qz_18, qz_15, qz_16⟩
theorem qx_X_78 : Cond.methodLink "QuadMode" 78 qm_Co_put ∈ qw ∧ Cond.instanceMethod qm_Co_put ∈ qw ∧ Cond.selects qm_Co_put.cls qm_Co_put qm_Co_put ∈ qw ∧ Cond.initialized qm_Co_put.cls ∈ qw ∧ Cond.code qm_Co_put qm_Co_put_c 3 none ∈ qw := ⟨qz_20, qz_22, qz_23, qz_15, qz_21⟩
theorem qx_X_81 : Cond.methodLink "QuadMode" 81 qm_Co_get ∈ qw ∧ Cond.instanceMethod qm_Co_get ∈ qw ∧ Cond.selects qm_Co_get.cls qm_Co_get qm_Co_get ∈ qw ∧ Cond.initialized qm_Co_get.cls ∈ qw ∧ Cond.code qm_Co_get qm_Co_get_c 2 (some .int) ∈ qw := ⟨qz_24, qz_26, qz_27, qz_15, qz_25⟩
theorem qx_Co_46 : Cond.methodLink "QuadMode$Core" 46 qm_Co_hasInner ∈ qw ∧ Cond.instanceMethod qm_Co_hasInner ∈ qw ∧ Cond.selects qm_Co_hasInner.cls qm_Co_hasInner qm_Co_hasInner ∈ qw ∧ Cond.initialized qm_Co_hasInner.cls ∈ qw ∧ Cond.code qm_Co_hasInner qm_Co_hasInner_c 2 (some .boolean) ∈ qw := ⟨qz_28, qz_30, qz_31, qz_15, qz_29⟩
theorem qx_X_84 : Cond.methodLink "QuadMode" 84 qm_Co_hasInner ∈ qw ∧ Cond.instanceMethod qm_Co_hasInner ∈ qw ∧ Cond.selects qm_Co_hasInner.cls qm_Co_hasInner qm_Co_hasInner ∈ qw ∧ Cond.initialized qm_Co_hasInner.cls ∈ qw ∧ Cond.code qm_Co_hasInner qm_Co_hasInner_c 2 (some .boolean) ∈ qw := ⟨qz_32, qz_30, qz_31, qz_15, qz_29⟩
theorem qx_X_90 : Cond.methodLink "QuadMode" 90 qm_Co_putInner ∈ qw ∧ Cond.instanceMethod qm_Co_putInner ∈ qw ∧ Cond.selects qm_Co_putInner.cls qm_Co_putInner qm_Co_putInner ∈ qw ∧ Cond.initialized qm_Co_putInner.cls ∈ qw ∧ Cond.code qm_Co_putInner qm_Co_putInner_c 3 none ∈ qw := ⟨qz_33, qz_35, qz_36, qz_15, qz_34⟩
theorem qx_X_93 : Cond.methodLink "QuadMode" 93 qm_Co_getInner ∈ qw ∧ Cond.instanceMethod qm_Co_getInner ∈ qw ∧ Cond.selects qm_Co_getInner.cls qm_Co_getInner qm_Co_getInner ∈ qw ∧ Cond.initialized qm_Co_getInner.cls ∈ qw ∧ Cond.code qm_Co_getInner qm_Co_getInner_c 2 (some .int) ∈ qw := ⟨qz_37, qz_39, qz_40, qz_15, qz_38⟩
theorem qx_Pg_25 : Cond.methodLink "QuadMode$Pages" 25 qm_Pg_pageOf ∈ qw ∧ Cond.static qm_Pg_pageOf ∈ qw ∧ Cond.initialized qm_Pg_pageOf.cls ∈ qw ∧ Cond.code qm_Pg_pageOf qm_Pg_pageOf_c 1 (some .int) ∈ qw := ⟨qz_55, qz_58, qz_56, qz_57⟩
theorem qx_Pg_29 : Cond.methodLink "QuadMode$Pages" 29 qm_Pg_isThere ∈ qw ∧ Cond.instanceMethod qm_Pg_isThere ∈ qw ∧ Cond.selects qm_Pg_isThere.cls qm_Pg_isThere qm_Pg_isThere ∈ qw ∧ Cond.initialized qm_Pg_isThere.cls ∈ qw ∧ Cond.code qm_Pg_isThere qm_Pg_isThere_c 5 (some .boolean) ∈ qw := ⟨qz_59, qz_61, qz_62, qz_56, qz_60⟩
theorem qx_Pg_33 : Cond.methodLink "QuadMode$Pages" 33 qm_Pg_refusal ∈ qw ∧ Cond.static qm_Pg_refusal ∈ qw ∧ Cond.initialized qm_Pg_refusal.cls ∈ qw ∧ Cond.code qm_Pg_refusal qm_Pg_refusal_c 2 (some .int) ∈ qw := ⟨qz_63, qz_65, qz_56, qz_64⟩
theorem qx_Pg_37 : Cond.methodLink "QuadMode$Pages" 37 qm_St_longAt ∈ qw ∧ Cond.instanceMethod qm_St_longAt ∈ qw ∧ Cond.selects qm_St_longAt.cls qm_St_longAt qm_St_longAt ∈ qw ∧ Cond.initialized qm_St_longAt.cls ∈ qw ∧ Cond.code qm_St_longAt qm_St_longAt_c 2 (some .int) ∈ qw := ⟨qz_67, qz_9, qz_10, qz_3, qz_8⟩
theorem qx_Pg_40 : Cond.methodLink "QuadMode$Pages" 40 qm_Pg_isValid ∈ qw ∧ Cond.static qm_Pg_isValid ∈ qw ∧ Cond.initialized qm_Pg_isValid.cls ∈ qw ∧ Cond.code qm_Pg_isValid qm_Pg_isValid_c 1 (some .boolean) ∈ qw := ⟨qz_68, qz_70, qz_56, qz_69⟩
theorem qx_Pg_44 : Cond.methodLink "QuadMode$Pages" 44 qm_Pg_inFrame ∈ qw ∧ Cond.static qm_Pg_inFrame ∈ qw ∧ Cond.initialized qm_Pg_inFrame.cls ∈ qw ∧ Cond.code qm_Pg_inFrame qm_Pg_inFrame_c 2 (some .int) ∈ qw := ⟨qz_71, qz_73, qz_56, qz_72⟩
theorem qx_Pg_47 : Cond.methodLink "QuadMode$Pages" 47 qm_Pg_grants ∈ qw ∧ Cond.static qm_Pg_grants ∈ qw ∧ Cond.initialized qm_Pg_grants.cls ∈ qw ∧ Cond.code qm_Pg_grants qm_Pg_grants_c 5 (some .boolean) ∈ qw := ⟨qz_74, qz_76, qz_56, qz_75⟩
theorem qx_Co_69 : Cond.methodLink "QuadMode$Core" 69 qm_Pg_faultOf ∈ qw ∧ Cond.static qm_Pg_faultOf ∈ qw ∧ Cond.initialized qm_Pg_faultOf.cls ∈ qw ∧ Cond.code qm_Pg_faultOf qm_Pg_faultOf_c 1 (some .int) ∈ qw := ⟨qz_77, qz_79, qz_56, qz_78⟩
theorem qx_Co_75 : Cond.methodLink "QuadMode$Core" 75 qm_Pg_flagOf ∈ qw ∧ Cond.static qm_Pg_flagOf ∈ qw ∧ Cond.initialized qm_Pg_flagOf.cls ∈ qw ∧ Cond.code qm_Pg_flagOf qm_Pg_flagOf_c 1 (some .int) ∈ qw := ⟨qz_80, qz_82, qz_56, qz_81⟩
theorem qx_Co_84 : Cond.methodLink "QuadMode$Core" 84 qm_Pg_locate ∈ qw ∧ Cond.instanceMethod qm_Pg_locate ∈ qw ∧ Cond.selects qm_Pg_locate.cls qm_Pg_locate qm_Pg_locate ∈ qw ∧ Cond.initialized qm_Pg_locate.cls ∈ qw ∧ Cond.code qm_Pg_locate qm_Pg_locate_c 10 (some .int) ∈ qw := ⟨qz_86, qz_88, qz_89, qz_56, qz_87⟩
theorem qx_Co_92 : Cond.methodLink "QuadMode$Core" 92 qm_St_byteAt ∈ qw ∧ Cond.instanceMethod qm_St_byteAt ∈ qw ∧ Cond.selects qm_St_byteAt.cls qm_St_byteAt qm_St_byteAt ∈ qw ∧ Cond.initialized qm_St_byteAt.cls ∈ qw ∧ Cond.code qm_St_byteAt qm_St_byteAt_c 2 (some .int) ∈ qw := ⟨qz_91, qz_93, qz_94, qz_3, qz_92⟩
theorem qx_Co_88 : Cond.methodLink "QuadMode$Core" 88 qm_Co_refuse ∈ qw ∧ Cond.instanceMethod qm_Co_refuse ∈ qw ∧ Cond.selects qm_Co_refuse.cls qm_Co_refuse qm_Co_refuse ∈ qw ∧ Cond.initialized qm_Co_refuse.cls ∈ qw ∧ Cond.code qm_Co_refuse qm_Co_refuse_c 3 none ∈ qw := ⟨qz_95, qz_97, qz_98, qz_15, qz_96⟩
theorem qx_Co_107 : Cond.methodLink "QuadMode$Core" 107 qm_Co_get ∈ qw ∧ Cond.instanceMethod qm_Co_get ∈ qw ∧ Cond.selects qm_Co_get.cls qm_Co_get qm_Co_get ∈ qw ∧ Cond.initialized qm_Co_get.cls ∈ qw ∧ Cond.code qm_Co_get qm_Co_get_c 2 (some .int) ∈ qw := ⟨qz_99, qz_26, qz_27, qz_15, qz_25⟩
theorem qx_Co_110 : Cond.methodLink "QuadMode$Core" 110 qm_Co_read ∈ qw ∧ Cond.instanceMethod qm_Co_read ∈ qw ∧ Cond.selects qm_Co_read.cls qm_Co_read qm_Co_read ∈ qw ∧ Cond.initialized qm_Co_read.cls ∈ qw ∧ Cond.code qm_Co_read qm_Co_read_c 6 (some .int) ∈ qw := ⟨qz_100, qz_102, qz_103, qz_15, qz_101⟩
theorem qx_Co_114 : Cond.methodLink "QuadMode$Core" 114 qm_Co_put ∈ qw ∧ Cond.instanceMethod qm_Co_put ∈ qw ∧ Cond.selects qm_Co_put.cls qm_Co_put qm_Co_put ∈ qw ∧ Cond.initialized qm_Co_put.cls ∈ qw ∧ Cond.code qm_Co_put qm_Co_put_c 3 none ∈ qw := ⟨qz_104, qz_22, qz_23, qz_15, qz_21⟩
theorem qx_Cd_25 : Cond.methodLink "QuadMode$Codes" 25 qm_Co_mode ∈ qw ∧ Cond.instanceMethod qm_Co_mode ∈ qw ∧ Cond.selects qm_Co_mode.cls qm_Co_mode qm_Co_mode ∈ qw ∧ Cond.initialized qm_Co_mode.cls ∈ qw ∧ Cond.code qm_Co_mode qm_Co_mode_c 1 (some .int) ∈ qw := ⟨qz_106, qz_17, qz_18, qz_15, qz_16⟩
theorem qx_Sp_63 : Cond.methodLink "QuadMode$Specifiers" 63 qm_Sp_isNoWay ∈ qw ∧ Cond.static qm_Sp_isNoWay ∈ qw ∧ Cond.initialized qm_Sp_isNoWay.cls ∈ qw ∧ Cond.code qm_Sp_isNoWay qm_Sp_isNoWay_c 1 (some .boolean) ∈ qw := ⟨qz_107, qz_110, qz_108, qz_109⟩
theorem qx_Sp_67 : Cond.methodLink "QuadMode$Specifiers" 67 qm_Sp_isAddress ∈ qw ∧ Cond.static qm_Sp_isAddress ∈ qw ∧ Cond.initialized qm_Sp_isAddress.cls ∈ qw ∧ Cond.code qm_Sp_isAddress qm_Sp_isAddress_c 1 (some .boolean) ∈ qw := ⟨qz_111, qz_113, qz_108, qz_112⟩
theorem qx_Sp_41 : Cond.methodLink "QuadMode$Specifiers" 41 qm_Co_get ∈ qw ∧ Cond.instanceMethod qm_Co_get ∈ qw ∧ Cond.selects qm_Co_get.cls qm_Co_get qm_Co_get ∈ qw ∧ Cond.initialized qm_Co_get.cls ∈ qw ∧ Cond.code qm_Co_get qm_Co_get_c 2 (some .int) ∈ qw := ⟨qz_115, qz_26, qz_27, qz_15, qz_25⟩
theorem qx_Sp_24 : Cond.methodLink "QuadMode$Specifiers" 24 qm_Co_fetch ∈ qw ∧ Cond.instanceMethod qm_Co_fetch ∈ qw ∧ Cond.selects qm_Co_fetch.cls qm_Co_fetch qm_Co_fetch ∈ qw ∧ Cond.initialized qm_Co_fetch.cls ∈ qw ∧ Cond.code qm_Co_fetch qm_Co_fetch_c 3 (some .int) ∈ qw := ⟨qz_116, qz_118, qz_119, qz_15, qz_117⟩
theorem qx_Sp_59 : Cond.methodLink "QuadMode$Specifiers" 59 qm_Co_read ∈ qw ∧ Cond.instanceMethod qm_Co_read ∈ qw ∧ Cond.selects qm_Co_read.cls qm_Co_read qm_Co_read ∈ qw ∧ Cond.initialized qm_Co_read.cls ∈ qw ∧ Cond.code qm_Co_read qm_Co_read_c 6 (some .int) ∈ qw := ⟨qz_120, qz_102, qz_103, qz_15, qz_101⟩
theorem qx_Sp_70 : Cond.methodLink "QuadMode$Specifiers" 70 qm_Co_put ∈ qw ∧ Cond.instanceMethod qm_Co_put ∈ qw ∧ Cond.selects qm_Co_put.cls qm_Co_put qm_Co_put ∈ qw ∧ Cond.initialized qm_Co_put.cls ∈ qw ∧ Cond.code qm_Co_put qm_Co_put_c 3 none ∈ qw := ⟨qz_121, qz_22, qz_23, qz_15, qz_21⟩
theorem qx_Sp_33 : Cond.methodLink "QuadMode$Specifiers" 33 qm_Sp_suits ∈ qw ∧ Cond.static qm_Sp_suits ∈ qw ∧ Cond.initialized qm_Sp_suits.cls ∈ qw ∧ Cond.code qm_Sp_suits qm_Sp_suits_c 3 (some .boolean) ∈ qw := ⟨qz_122, qz_124, qz_108, qz_123⟩
theorem qx_Sp_37 : Cond.methodLink "QuadMode$Specifiers" 37 qm_Co_raise ∈ qw ∧ Cond.instanceMethod qm_Co_raise ∈ qw ∧ Cond.selects qm_Co_raise.cls qm_Co_raise qm_Co_raise ∈ qw ∧ Cond.initialized qm_Co_raise.cls ∈ qw ∧ Cond.code qm_Co_raise qm_Co_raise_c 2 none ∈ qw := ⟨qz_125, qz_127, qz_128, qz_15, qz_126⟩
theorem qx_Sp_44 : Cond.methodLink "QuadMode$Specifiers" 44 qm_Sp_suitsBehindIndexed ∈ qw ∧ Cond.static qm_Sp_suitsBehindIndexed ∈ qw ∧ Cond.initialized qm_Sp_suitsBehindIndexed.cls ∈ qw ∧ Cond.code qm_Sp_suitsBehindIndexed qm_Sp_suitsBehindIndexed_c 2 (some .boolean) ∈ qw := ⟨qz_129, qz_131, qz_108, qz_130⟩
theorem qx_Sp_48 : Cond.methodLink "QuadMode$Specifiers" 48 qm_Sp_addressBy ∈ qw ∧ Cond.instanceMethod qm_Sp_addressBy ∈ qw ∧ Cond.selects qm_Sp_addressBy.cls qm_Sp_addressBy qm_Sp_addressBy ∈ qw ∧ Cond.initialized qm_Sp_addressBy.cls ∈ qw ∧ Cond.code qm_Sp_addressBy qm_Sp_addressBy_c 7 (some .int) ∈ qw := ⟨qz_132, qz_134, qz_135, qz_108, qz_133⟩
theorem qx_Sp_55 : Cond.methodLink "QuadMode$Specifiers" 55 qm_Sp_isRead ∈ qw ∧ Cond.static qm_Sp_isRead ∈ qw ∧ Cond.initialized qm_Sp_isRead.cls ∈ qw ∧ Cond.code qm_Sp_isRead qm_Sp_isRead_c 1 (some .boolean) ∈ qw := ⟨qz_136, qz_138, qz_108, qz_137⟩
theorem qx_Cd_89 : Cond.methodLink "QuadMode$Codes" 89 qm_Co_pop ∈ qw ∧ Cond.instanceMethod qm_Co_pop ∈ qw ∧ Cond.selects qm_Co_pop.cls qm_Co_pop qm_Co_pop ∈ qw ∧ Cond.initialized qm_Co_pop.cls ∈ qw ∧ Cond.code qm_Co_pop qm_Co_pop_c 2 (some .int) ∈ qw := ⟨qz_139, qz_141, qz_142, qz_15, qz_140⟩
theorem qx_Cd_92 : Cond.methodLink "QuadMode$Codes" 92 qm_Co_put ∈ qw ∧ Cond.instanceMethod qm_Co_put ∈ qw ∧ Cond.selects qm_Co_put.cls qm_Co_put qm_Co_put ∈ qw ∧ Cond.initialized qm_Co_put.cls ∈ qw ∧ Cond.code qm_Co_put qm_Co_put_c 3 none ∈ qw := ⟨qz_144, qz_22, qz_23, qz_15, qz_21⟩
theorem qx_Cd_82 : Cond.methodLink "QuadMode$Codes" 82 qm_Co_raise ∈ qw ∧ Cond.instanceMethod qm_Co_raise ∈ qw ∧ Cond.selects qm_Co_raise.cls qm_Co_raise qm_Co_raise ∈ qw ∧ Cond.initialized qm_Co_raise.cls ∈ qw ∧ Cond.code qm_Co_raise qm_Co_raise_c 2 none ∈ qw := ⟨qz_145, qz_127, qz_128, qz_15, qz_126⟩
theorem qx_Cd_169 : Cond.methodLink "QuadMode$Codes" 169 qm_Co_get ∈ qw ∧ Cond.instanceMethod qm_Co_get ∈ qw ∧ Cond.selects qm_Co_get.cls qm_Co_get qm_Co_get ∈ qw ∧ Cond.initialized qm_Co_get.cls ∈ qw ∧ Cond.code qm_Co_get qm_Co_get_c 2 (some .int) ∈ qw := ⟨qz_146, qz_26, qz_27, qz_15, qz_25⟩
theorem qx_Cd_174 : Cond.methodLink "QuadMode$Codes" 174 qm_Co_hasInner ∈ qw ∧ Cond.instanceMethod qm_Co_hasInner ∈ qw ∧ Cond.selects qm_Co_hasInner.cls qm_Co_hasInner qm_Co_hasInner ∈ qw ∧ Cond.initialized qm_Co_hasInner.cls ∈ qw ∧ Cond.code qm_Co_hasInner qm_Co_hasInner_c 2 (some .boolean) ∈ qw := ⟨qz_149, qz_30, qz_31, qz_15, qz_29⟩
theorem qx_Cd_177 : Cond.methodLink "QuadMode$Codes" 177 qm_Co_putInner ∈ qw ∧ Cond.instanceMethod qm_Co_putInner ∈ qw ∧ Cond.selects qm_Co_putInner.cls qm_Co_putInner qm_Co_putInner ∈ qw ∧ Cond.initialized qm_Co_putInner.cls ∈ qw ∧ Cond.code qm_Co_putInner qm_Co_putInner_c 3 none ∈ qw := ⟨qz_150, qz_35, qz_36, qz_15, qz_34⟩
theorem qx_Co_50 : Cond.methodLink "QuadMode$Core" 50 qm_Co_setConditions ∈ qw ∧ Cond.instanceMethod qm_Co_setConditions ∈ qw ∧ Cond.selects qm_Co_setConditions.cls qm_Co_setConditions qm_Co_setConditions ∈ qw ∧ Cond.initialized qm_Co_setConditions.cls ∈ qw ∧ Cond.code qm_Co_setConditions qm_Co_setConditions_c 6 none ∈ qw := ⟨qz_151, qz_153, qz_154, qz_15, qz_152⟩
theorem qx_Pg_51 : Cond.methodLink "QuadMode$Pages" 51 qm_St_byteAt ∈ qw ∧ Cond.instanceMethod qm_St_byteAt ∈ qw ∧ Cond.selects qm_St_byteAt.cls qm_St_byteAt qm_St_byteAt ∈ qw ∧ Cond.initialized qm_St_byteAt.cls ∈ qw ∧ Cond.code qm_St_byteAt qm_St_byteAt_c 2 (some .int) ∈ qw := ⟨qz_155, qz_93, qz_94, qz_3, qz_92⟩
theorem qx_Pg_54 : Cond.methodLink "QuadMode$Pages" 54 qm_St_putByte ∈ qw ∧ Cond.instanceMethod qm_St_putByte ∈ qw ∧ Cond.selects qm_St_putByte.cls qm_St_putByte qm_St_putByte ∈ qw ∧ Cond.initialized qm_St_putByte.cls ∈ qw ∧ Cond.code qm_St_putByte qm_St_putByte_c 3 none ∈ qw := ⟨qz_156, qz_5, qz_6, qz_3, qz_4⟩
theorem qx_Co_100 : Cond.methodLink "QuadMode$Core" 100 qm_Pg_markModified ∈ qw ∧ Cond.instanceMethod qm_Pg_markModified ∈ qw ∧ Cond.selects qm_Pg_markModified.cls qm_Pg_markModified qm_Pg_markModified ∈ qw ∧ Cond.initialized qm_Pg_markModified.cls ∈ qw ∧ Cond.code qm_Pg_markModified qm_Pg_markModified_c 2 none ∈ qw := ⟨qz_159, qz_161, qz_162, qz_56, qz_160⟩
theorem qx_Co_104 : Cond.methodLink "QuadMode$Core" 104 qm_St_putByte ∈ qw ∧ Cond.instanceMethod qm_St_putByte ∈ qw ∧ Cond.selects qm_St_putByte.cls qm_St_putByte qm_St_putByte ∈ qw ∧ Cond.initialized qm_St_putByte.cls ∈ qw ∧ Cond.code qm_St_putByte qm_St_putByte_c 3 none ∈ qw := ⟨qz_163, qz_5, qz_6, qz_3, qz_4⟩
theorem qx_Cd_165 : Cond.methodLink "QuadMode$Codes" 165 qm_Co_write ∈ qw ∧ Cond.instanceMethod qm_Co_write ∈ qw ∧ Cond.selects qm_Co_write.cls qm_Co_write qm_Co_write ∈ qw ∧ Cond.initialized qm_Co_write.cls ∈ qw ∧ Cond.code qm_Co_write qm_Co_write_c 5 none ∈ qw := ⟨qz_164, qz_166, qz_167, qz_15, qz_165⟩
theorem qx_Cd_180 : Cond.methodLink "QuadMode$Codes" 180 qm_Co_getInner ∈ qw ∧ Cond.instanceMethod qm_Co_getInner ∈ qw ∧ Cond.selects qm_Co_getInner.cls qm_Co_getInner qm_Co_getInner ∈ qw ∧ Cond.initialized qm_Co_getInner.cls ∈ qw ∧ Cond.code qm_Co_getInner qm_Co_getInner_c 2 (some .int) ∈ qw := ⟨qz_168, qz_39, qz_40, qz_15, qz_38⟩
theorem qx_Cd_183 : Cond.methodLink "QuadMode$Codes" 183 qm_Co_conclude ∈ qw ∧ Cond.instanceMethod qm_Co_conclude ∈ qw ∧ Cond.selects qm_Co_conclude.cls qm_Co_conclude qm_Co_conclude ∈ qw ∧ Cond.initialized qm_Co_conclude.cls ∈ qw ∧ Cond.code qm_Co_conclude qm_Co_conclude_c 4 none ∈ qw := ⟨qz_169, qz_171, qz_172, qz_15, qz_170⟩
theorem qx_Cd_111 : Cond.methodLink "QuadMode$Codes" 111 qm_Cd_store ∈ qw ∧ Cond.instanceMethod qm_Cd_store ∈ qw ∧ Cond.selects qm_Cd_store.cls qm_Cd_store qm_Cd_store ∈ qw ∧ Cond.initialized qm_Cd_store.cls ∈ qw ∧ Cond.code qm_Cd_store qm_Cd_store_c 3 none ∈ qw := ⟨qz_174, qz_177, qz_178, qz_175, qz_176⟩
theorem qx_Co_117 : Cond.methodLink "QuadMode$Core" 117 qm_Co_write ∈ qw ∧ Cond.instanceMethod qm_Co_write ∈ qw ∧ Cond.selects qm_Co_write.cls qm_Co_write qm_Co_write ∈ qw ∧ Cond.initialized qm_Co_write.cls ∈ qw ∧ Cond.code qm_Co_write qm_Co_write_c 5 none ∈ qw := ⟨qz_184, qz_166, qz_167, qz_15, qz_165⟩
theorem qx_Cd_227 : Cond.methodLink "QuadMode$Codes" 227 qm_Co_push ∈ qw ∧ Cond.instanceMethod qm_Co_push ∈ qw ∧ Cond.selects qm_Co_push.cls qm_Co_push qm_Co_push ∈ qw ∧ Cond.initialized qm_Co_push.cls ∈ qw ∧ Cond.code qm_Co_push qm_Co_push_c 2 none ∈ qw := ⟨qz_186, qz_188, qz_189, qz_15, qz_187⟩
theorem qx_Cd_233 : Cond.methodLink "QuadMode$Codes" 233 qm_Co_read ∈ qw ∧ Cond.instanceMethod qm_Co_read ∈ qw ∧ Cond.selects qm_Co_read.cls qm_Co_read qm_Co_read ∈ qw ∧ Cond.initialized qm_Co_read.cls ∈ qw ∧ Cond.code qm_Co_read qm_Co_read_c 6 (some .int) ∈ qw := ⟨qz_190, qz_102, qz_103, qz_15, qz_101⟩
theorem qx_Cd_240 : Cond.methodLink "QuadMode$Codes" 240 qm_Co_previous ∈ qw ∧ Cond.instanceMethod qm_Co_previous ∈ qw ∧ Cond.selects qm_Co_previous.cls qm_Co_previous qm_Co_previous ∈ qw ∧ Cond.initialized qm_Co_previous.cls ∈ qw ∧ Cond.code qm_Co_previous qm_Co_previous_c 1 (some .int) ∈ qw := ⟨qz_193, qz_195, qz_196, qz_15, qz_194⟩
theorem qx_Cd_246 : Cond.methodLink "QuadMode$Codes" 246 qm_Co_admits ∈ qw ∧ Cond.instanceMethod qm_Co_admits ∈ qw ∧ Cond.selects qm_Co_admits.cls qm_Co_admits qm_Co_admits ∈ qw ∧ Cond.initialized qm_Co_admits.cls ∈ qw ∧ Cond.code qm_Co_admits qm_Co_admits_c 5 (some .boolean) ∈ qw := ⟨qz_200, qz_202, qz_203, qz_15, qz_201⟩
theorem qx_Cd_197 : Cond.methodLink "QuadMode$Codes" 197 qm_Co_setConditions ∈ qw ∧ Cond.instanceMethod qm_Co_setConditions ∈ qw ∧ Cond.selects qm_Co_setConditions.cls qm_Co_setConditions qm_Co_setConditions ∈ qw ∧ Cond.initialized qm_Co_setConditions.cls ∈ qw ∧ Cond.code qm_Co_setConditions qm_Co_setConditions_c 6 none ∈ qw := ⟨qz_204, qz_153, qz_154, qz_15, qz_152⟩
theorem qx_Cd_187 : Cond.methodLink "QuadMode$Codes" 187 qm_Cd_moved ∈ qw ∧ Cond.static qm_Cd_moved ∈ qw ∧ Cond.initialized qm_Cd_moved.cls ∈ qw ∧ Cond.code qm_Cd_moved qm_Cd_moved_c 2 (some .int) ∈ qw := ⟨qz_205, qz_207, qz_175, qz_206⟩
theorem qx_Cd_152 : Cond.methodLink "QuadMode$Codes" 152 qm_Co_has ∈ qw ∧ Cond.instanceMethod qm_Co_has ∈ qw ∧ Cond.selects qm_Co_has.cls qm_Co_has qm_Co_has ∈ qw ∧ Cond.initialized qm_Co_has.cls ∈ qw ∧ Cond.code qm_Co_has qm_Co_has_c 2 (some .boolean) ∈ qw := ⟨qz_209, qz_211, qz_212, qz_15, qz_210⟩
theorem qx_JI_259 : Cond.methodLink "java/lang/Integer" 259 qm_JI_compare ∈ qw ∧ Cond.static qm_JI_compare ∈ qw ∧ Cond.initialized qm_JI_compare.cls ∈ qw ∧ Cond.code qm_JI_compare qm_JI_compare_c 2 (some .int) ∈ qw := ⟨qz_214, qz_217, qz_215, qz_216⟩
theorem qx_Cd_194 : Cond.methodLink "QuadMode$Codes" 194 qm_JI_compareUnsigned ∈ qw ∧ Cond.static qm_JI_compareUnsigned ∈ qw ∧ Cond.initialized qm_JI_compareUnsigned.cls ∈ qw ∧ Cond.code qm_JI_compareUnsigned qm_JI_compareUnsigned_c 2 (some .int) ∈ qw := ⟨qz_218, qz_220, qz_215, qz_219⟩
theorem qx_Cd_217 : Cond.methodLink "QuadMode$Codes" 217 qm_Cd_bits ∈ qw ∧ Cond.instanceMethod qm_Cd_bits ∈ qw ∧ Cond.selects qm_Cd_bits.cls qm_Cd_bits qm_Cd_bits ∈ qw ∧ Cond.initialized qm_Cd_bits.cls ∈ qw ∧ Cond.code qm_Cd_bits qm_Cd_bits_c 2 (some .int) ∈ qw := ⟨qz_222, qz_224, qz_225, qz_175, qz_223⟩
theorem qx_Cd_214 : Cond.methodLink "QuadMode$Codes" 214 qm_Cd_divide ∈ qw ∧ Cond.instanceMethod qm_Cd_divide ∈ qw ∧ Cond.selects qm_Cd_divide.cls qm_Cd_divide qm_Cd_divide ∈ qw ∧ Cond.initialized qm_Cd_divide.cls ∈ qw ∧ Cond.code qm_Cd_divide qm_Cd_divide_c 5 (some .int) ∈ qw := ⟨qz_226, qz_228, qz_229, qz_175, qz_227⟩
theorem qx_Cd_211 : Cond.methodLink "QuadMode$Codes" 211 qm_Cd_multiply ∈ qw ∧ Cond.instanceMethod qm_Cd_multiply ∈ qw ∧ Cond.selects qm_Cd_multiply.cls qm_Cd_multiply qm_Cd_multiply ∈ qw ∧ Cond.initialized qm_Cd_multiply.cls ∈ qw ∧ Cond.code qm_Cd_multiply qm_Cd_multiply_c 5 (some .int) ∈ qw := ⟨qz_230, qz_232, qz_233, qz_175, qz_231⟩
theorem qx_Cd_204 : Cond.methodLink "QuadMode$Codes" 204 qm_Cd_subtract ∈ qw ∧ Cond.instanceMethod qm_Cd_subtract ∈ qw ∧ Cond.selects qm_Cd_subtract.cls qm_Cd_subtract qm_Cd_subtract ∈ qw ∧ Cond.initialized qm_Cd_subtract.cls ∈ qw ∧ Cond.code qm_Cd_subtract qm_Cd_subtract_c 5 (some .int) ∈ qw := ⟨qz_234, qz_236, qz_237, qz_175, qz_235⟩
theorem qx_Cd_201 : Cond.methodLink "QuadMode$Codes" 201 qm_Cd_add ∈ qw ∧ Cond.instanceMethod qm_Cd_add ∈ qw ∧ Cond.selects qm_Cd_add.cls qm_Cd_add qm_Cd_add ∈ qw ∧ Cond.initialized qm_Cd_add.cls ∈ qw ∧ Cond.code qm_Cd_add qm_Cd_add_c 5 (some .int) ∈ qw := ⟨qz_238, qz_240, qz_241, qz_175, qz_239⟩
theorem qx_Cd_207 : Cond.methodLink "QuadMode$Codes" 207 qm_Cd_calculated ∈ qw ∧ Cond.instanceMethod qm_Cd_calculated ∈ qw ∧ Cond.selects qm_Cd_calculated.cls qm_Cd_calculated qm_Cd_calculated ∈ qw ∧ Cond.initialized qm_Cd_calculated.cls ∈ qw ∧ Cond.code qm_Cd_calculated qm_Cd_calculated_c 4 (some .int) ∈ qw := ⟨qz_242, qz_244, qz_245, qz_175, qz_243⟩
theorem qx_Cd_230 : Cond.methodLink "QuadMode$Codes" 230 qm_Cd_holds ∈ qw ∧ Cond.instanceMethod qm_Cd_holds ∈ qw ∧ Cond.selects qm_Cd_holds.cls qm_Cd_holds qm_Cd_holds ∈ qw ∧ Cond.initialized qm_Cd_holds.cls ∈ qw ∧ Cond.code qm_Cd_holds qm_Cd_holds_c 2 (some .boolean) ∈ qw := ⟨qz_246, qz_248, qz_249, qz_175, qz_247⟩
theorem qx_Cd_125 : Cond.methodLink "QuadMode$Codes" 125 qm_Cd_move ∈ qw ∧ Cond.instanceMethod qm_Cd_move ∈ qw ∧ Cond.selects qm_Cd_move.cls qm_Cd_move qm_Cd_move ∈ qw ∧ Cond.initialized qm_Cd_move.cls ∈ qw ∧ Cond.code qm_Cd_move qm_Cd_move_c 6 none ∈ qw := ⟨qz_250, qz_252, qz_253, qz_175, qz_251⟩
theorem qx_Cd_128 : Cond.methodLink "QuadMode$Codes" 128 qm_Cd_compare ∈ qw ∧ Cond.instanceMethod qm_Cd_compare ∈ qw ∧ Cond.selects qm_Cd_compare.cls qm_Cd_compare qm_Cd_compare ∈ qw ∧ Cond.initialized qm_Cd_compare.cls ∈ qw ∧ Cond.code qm_Cd_compare qm_Cd_compare_c 5 none ∈ qw := ⟨qz_254, qz_256, qz_257, qz_175, qz_255⟩
theorem qx_Cd_131 : Cond.methodLink "QuadMode$Codes" 131 qm_Cd_calculate ∈ qw ∧ Cond.instanceMethod qm_Cd_calculate ∈ qw ∧ Cond.selects qm_Cd_calculate.cls qm_Cd_calculate qm_Cd_calculate ∈ qw ∧ Cond.initialized qm_Cd_calculate.cls ∈ qw ∧ Cond.code qm_Cd_calculate qm_Cd_calculate_c 3 none ∈ qw := ⟨qz_258, qz_260, qz_261, qz_175, qz_259⟩
theorem qx_Cd_134 : Cond.methodLink "QuadMode$Codes" 134 qm_Cd_handAddress ∈ qw ∧ Cond.instanceMethod qm_Cd_handAddress ∈ qw ∧ Cond.selects qm_Cd_handAddress.cls qm_Cd_handAddress qm_Cd_handAddress ∈ qw ∧ Cond.initialized qm_Cd_handAddress.cls ∈ qw ∧ Cond.code qm_Cd_handAddress qm_Cd_handAddress_c 3 none ∈ qw := ⟨qz_262, qz_264, qz_265, qz_175, qz_263⟩
theorem qx_Cd_137 : Cond.methodLink "QuadMode$Codes" 137 qm_Cd_go ∈ qw ∧ Cond.instanceMethod qm_Cd_go ∈ qw ∧ Cond.selects qm_Cd_go.cls qm_Cd_go qm_Cd_go ∈ qw ∧ Cond.initialized qm_Cd_go.cls ∈ qw ∧ Cond.code qm_Cd_go qm_Cd_go_c 3 none ∈ qw := ⟨qz_266, qz_268, qz_269, qz_175, qz_267⟩
theorem qx_Cd_140 : Cond.methodLink "QuadMode$Codes" 140 qm_Cd_branch ∈ qw ∧ Cond.instanceMethod qm_Cd_branch ∈ qw ∧ Cond.selects qm_Cd_branch.cls qm_Cd_branch qm_Cd_branch ∈ qw ∧ Cond.initialized qm_Cd_branch.cls ∈ qw ∧ Cond.code qm_Cd_branch qm_Cd_branch_c 4 none ∈ qw := ⟨qz_270, qz_272, qz_273, qz_175, qz_271⟩
theorem qx_Cd_143 : Cond.methodLink "QuadMode$Codes" 143 qm_Cd_count ∈ qw ∧ Cond.instanceMethod qm_Cd_count ∈ qw ∧ Cond.selects qm_Cd_count.cls qm_Cd_count qm_Cd_count ∈ qw ∧ Cond.initialized qm_Cd_count.cls ∈ qw ∧ Cond.code qm_Cd_count qm_Cd_count_c 9 none ∈ qw := ⟨qz_274, qz_276, qz_277, qz_175, qz_275⟩
theorem qx_Cd_121 : Cond.methodLink "QuadMode$Codes" 121 qm_Cd_probe ∈ qw ∧ Cond.instanceMethod qm_Cd_probe ∈ qw ∧ Cond.selects qm_Cd_probe.cls qm_Cd_probe qm_Cd_probe ∈ qw ∧ Cond.initialized qm_Cd_probe.cls ∈ qw ∧ Cond.code qm_Cd_probe qm_Cd_probe_c 5 none ∈ qw := ⟨qz_278, qz_280, qz_281, qz_175, qz_279⟩
theorem qx_Cd_118 : Cond.methodLink "QuadMode$Codes" 118 qm_Cd_enterFrame ∈ qw ∧ Cond.instanceMethod qm_Cd_enterFrame ∈ qw ∧ Cond.selects qm_Cd_enterFrame.cls qm_Cd_enterFrame qm_Cd_enterFrame ∈ qw ∧ Cond.initialized qm_Cd_enterFrame.cls ∈ qw ∧ Cond.code qm_Cd_enterFrame qm_Cd_enterFrame_c 5 none ∈ qw := ⟨qz_282, qz_284, qz_285, qz_175, qz_283⟩
theorem qx_Cd_115 : Cond.methodLink "QuadMode$Codes" 115 qm_Cd_shift ∈ qw ∧ Cond.instanceMethod qm_Cd_shift ∈ qw ∧ Cond.selects qm_Cd_shift.cls qm_Cd_shift qm_Cd_shift ∈ qw ∧ Cond.initialized qm_Cd_shift.cls ∈ qw ∧ Cond.code qm_Cd_shift qm_Cd_shift_c 5 none ∈ qw := ⟨qz_286, qz_288, qz_289, qz_175, qz_287⟩
theorem qx_Cd_105 : Cond.methodLink "QuadMode$Codes" 105 qm_Cd_takeInner ∈ qw ∧ Cond.instanceMethod qm_Cd_takeInner ∈ qw ∧ Cond.selects qm_Cd_takeInner.cls qm_Cd_takeInner qm_Cd_takeInner ∈ qw ∧ Cond.initialized qm_Cd_takeInner.cls ∈ qw ∧ Cond.code qm_Cd_takeInner qm_Cd_takeInner_c 3 none ∈ qw := ⟨qz_290, qz_292, qz_293, qz_175, qz_291⟩
theorem qx_Cd_102 : Cond.methodLink "QuadMode$Codes" 102 qm_Cd_giveInner ∈ qw ∧ Cond.instanceMethod qm_Cd_giveInner ∈ qw ∧ Cond.selects qm_Cd_giveInner.cls qm_Cd_giveInner qm_Cd_giveInner ∈ qw ∧ Cond.initialized qm_Cd_giveInner.cls ∈ qw ∧ Cond.code qm_Cd_giveInner qm_Cd_giveInner_c 3 none ∈ qw := ⟨qz_294, qz_296, qz_297, qz_175, qz_295⟩
theorem qx_Cd_86 : Cond.methodLink "QuadMode$Codes" 86 qm_Cd_leaveFrame ∈ qw ∧ Cond.instanceMethod qm_Cd_leaveFrame ∈ qw ∧ Cond.selects qm_Cd_leaveFrame.cls qm_Cd_leaveFrame qm_Cd_leaveFrame ∈ qw ∧ Cond.initialized qm_Cd_leaveFrame.cls ∈ qw ∧ Cond.code qm_Cd_leaveFrame qm_Cd_leaveFrame_c 3 none ∈ qw := ⟨qz_298, qz_300, qz_301, qz_175, qz_299⟩
theorem qx_Cd_79 : Cond.methodLink "QuadMode$Codes" 79 qm_Cd_leaveException ∈ qw ∧ Cond.instanceMethod qm_Cd_leaveException ∈ qw ∧ Cond.selects qm_Cd_leaveException.cls qm_Cd_leaveException qm_Cd_leaveException ∈ qw ∧ Cond.initialized qm_Cd_leaveException.cls ∈ qw ∧ Cond.code qm_Cd_leaveException qm_Cd_leaveException_c 5 none ∈ qw := ⟨qz_302, qz_304, qz_305, qz_175, qz_303⟩
theorem qx_Cd_146 : Cond.methodLink "QuadMode$Codes" 146 qm_Cd_noteOverflow ∈ qw ∧ Cond.instanceMethod qm_Cd_noteOverflow ∈ qw ∧ Cond.selects qm_Cd_noteOverflow.cls qm_Cd_noteOverflow qm_Cd_noteOverflow ∈ qw ∧ Cond.initialized qm_Cd_noteOverflow.cls ∈ qw ∧ Cond.code qm_Cd_noteOverflow qm_Cd_noteOverflow_c 3 none ∈ qw := ⟨qz_306, qz_308, qz_309, qz_175, qz_307⟩
theorem qx_X_187 : Cond.methodLink "QuadMode" 187 qm_Co_mode ∈ qw ∧ Cond.instanceMethod qm_Co_mode ∈ qw ∧ Cond.selects qm_Co_mode.cls qm_Co_mode qm_Co_mode ∈ qw ∧ Cond.initialized qm_Co_mode.cls ∈ qw ∧ Cond.code qm_Co_mode qm_Co_mode_c 1 (some .int) ∈ qw := ⟨qz_312, qz_17, qz_18, qz_15, qz_16⟩
theorem qx_X_202 : Cond.methodLink "QuadMode" 202 qm_Co_push ∈ qw ∧ Cond.instanceMethod qm_Co_push ∈ qw ∧ Cond.selects qm_Co_push.cls qm_Co_push qm_Co_push ∈ qw ∧ Cond.initialized qm_Co_push.cls ∈ qw ∧ Cond.code qm_Co_push qm_Co_push_c 2 none ∈ qw := ⟨qz_313, qz_188, qz_189, qz_15, qz_187⟩
theorem qx_X_174 : Cond.methodLink "QuadMode" 174 qm_Co_takeBack ∈ qw ∧ Cond.instanceMethod qm_Co_takeBack ∈ qw ∧ Cond.selects qm_Co_takeBack.cls qm_Co_takeBack qm_Co_takeBack ∈ qw ∧ Cond.initialized qm_Co_takeBack.cls ∈ qw ∧ Cond.code qm_Co_takeBack qm_Co_takeBack_c 1 none ∈ qw := ⟨qz_315, qz_317, qz_318, qz_15, qz_316⟩
theorem qx_X_183 : Cond.methodLink "QuadMode" 183 qm_X_except ∈ qw ∧ Cond.instanceMethod qm_X_except ∈ qw ∧ Cond.selects qm_X_except.cls qm_X_except qm_X_except ∈ qw ∧ Cond.initialized qm_X_except.cls ∈ qw ∧ Cond.code qm_X_except qm_X_except_c 8 none ∈ qw := ⟨qz_321, qz_324, qz_325, qz_322, qz_323⟩
theorem qx_X_134 : Cond.methodLink "QuadMode" 134 qm_Co_keep ∈ qw ∧ Cond.instanceMethod qm_Co_keep ∈ qw ∧ Cond.selects qm_Co_keep.cls qm_Co_keep qm_Co_keep ∈ qw ∧ Cond.initialized qm_Co_keep.cls ∈ qw ∧ Cond.code qm_Co_keep qm_Co_keep_c 1 none ∈ qw := ⟨qz_326, qz_328, qz_329, qz_15, qz_327⟩
theorem qx_X_137 : Cond.methodLink "QuadMode" 137 qm_Co_fetch ∈ qw ∧ Cond.instanceMethod qm_Co_fetch ∈ qw ∧ Cond.selects qm_Co_fetch.cls qm_Co_fetch qm_Co_fetch ∈ qw ∧ Cond.initialized qm_Co_fetch.cls ∈ qw ∧ Cond.code qm_Co_fetch qm_Co_fetch_c 3 (some .int) ∈ qw := ⟨qz_330, qz_118, qz_119, qz_15, qz_117⟩
theorem qx_X_140 : Cond.methodLink "QuadMode" 140 qm_Cd_isAllowed ∈ qw ∧ Cond.instanceMethod qm_Cd_isAllowed ∈ qw ∧ Cond.selects qm_Cd_isAllowed.cls qm_Cd_isAllowed qm_Cd_isAllowed ∈ qw ∧ Cond.initialized qm_Cd_isAllowed.cls ∈ qw ∧ Cond.code qm_Cd_isAllowed qm_Cd_isAllowed_c 3 (some .boolean) ∈ qw := ⟨qz_332, qz_334, qz_335, qz_175, qz_333⟩
theorem qx_X_143 : Cond.methodLink "QuadMode" 143 qm_Co_raise ∈ qw ∧ Cond.instanceMethod qm_Co_raise ∈ qw ∧ Cond.selects qm_Co_raise.cls qm_Co_raise qm_Co_raise ∈ qw ∧ Cond.initialized qm_Co_raise.cls ∈ qw ∧ Cond.code qm_Co_raise qm_Co_raise_c 2 none ∈ qw := ⟨qz_336, qz_127, qz_128, qz_15, qz_126⟩
theorem qx_X_147 : Cond.methodLink "QuadMode" 147 qm_Cd_shapeOf ∈ qw ∧ Cond.instanceMethod qm_Cd_shapeOf ∈ qw ∧ Cond.selects qm_Cd_shapeOf.cls qm_Cd_shapeOf qm_Cd_shapeOf ∈ qw ∧ Cond.initialized qm_Cd_shapeOf.cls ∈ qw ∧ Cond.code qm_Cd_shapeOf qm_Cd_shapeOf_c 2 (some (.object "java/lang/String")) ∈ qw := ⟨qz_337, qz_339, qz_340, qz_175, qz_338⟩
theorem qx_X_124 : Cond.methodLink "QuadMode" 124 qm_Pg_locate ∈ qw ∧ Cond.instanceMethod qm_Pg_locate ∈ qw ∧ Cond.selects qm_Pg_locate.cls qm_Pg_locate qm_Pg_locate ∈ qw ∧ Cond.initialized qm_Pg_locate.cls ∈ qw ∧ Cond.code qm_Pg_locate qm_Pg_locate_c 10 (some .int) ∈ qw := ⟨qz_342, qz_88, qz_89, qz_56, qz_87⟩
theorem qx_M_56 : Cond.methodLink "QuadModeModel" 56 qm_M_bare ∈ qw ∧ Cond.instanceMethod qm_M_bare ∈ qw ∧ Cond.selects qm_M_bare.cls qm_M_bare qm_M_bare ∈ qw ∧ Cond.initialized qm_M_bare.cls ∈ qw ∧ Cond.code qm_M_bare qm_M_bare_c 5 (some .int) ∈ qw := ⟨qz_347, qz_350, qz_351, qz_348, qz_349⟩
theorem qx_M_69 : Cond.methodLink "QuadModeModel" 69 qm_M_mode ∈ qw ∧ Cond.instanceMethod qm_M_mode ∈ qw ∧ Cond.selects qm_M_mode.cls qm_M_mode qm_M_mode ∈ qw ∧ Cond.initialized qm_M_mode.cls ∈ qw ∧ Cond.code qm_M_mode qm_M_mode_c 1 (some .int) ∈ qw := ⟨qz_355, qz_357, qz_358, qz_348, qz_356⟩
theorem qx_M_90 : Cond.methodLink "QuadModeModel" 90 qm_M_put ∈ qw ∧ Cond.instanceMethod qm_M_put ∈ qw ∧ Cond.selects qm_M_put.cls qm_M_put qm_M_put ∈ qw ∧ Cond.initialized qm_M_put.cls ∈ qw ∧ Cond.code qm_M_put qm_M_put_c 3 none ∈ qw := ⟨qz_359, qz_361, qz_362, qz_348, qz_360⟩
theorem qx_M_84 : Cond.methodLink "QuadModeModel" 84 qm_M_get ∈ qw ∧ Cond.instanceMethod qm_M_get ∈ qw ∧ Cond.selects qm_M_get.cls qm_M_get qm_M_get ∈ qw ∧ Cond.initialized qm_M_get.cls ∈ qw ∧ Cond.code qm_M_get qm_M_get_c 2 (some .int) ∈ qw := ⟨qz_363, qz_365, qz_366, qz_348, qz_364⟩
theorem qx_M_203 : Cond.methodLink "QuadModeModel" 203 qm_M_fail ∈ qw ∧ Cond.instanceMethod qm_M_fail ∈ qw ∧ Cond.selects qm_M_fail.cls qm_M_fail qm_M_fail ∈ qw ∧ Cond.initialized qm_M_fail.cls ∈ qw ∧ Cond.code qm_M_fail qm_M_fail_c 2 (some .int) ∈ qw := ⟨qz_367, qz_369, qz_370, qz_348, qz_368⟩
theorem qx_M_133 : Cond.methodLink "QuadModeModel" 133 qm_M_isInner ∈ qw ∧ Cond.static qm_M_isInner ∈ qw ∧ Cond.initialized qm_M_isInner.cls ∈ qw ∧ Cond.code qm_M_isInner qm_M_isInner_c 1 (some .boolean) ∈ qw := ⟨qz_371, qz_373, qz_348, qz_372⟩
theorem qx_M_52 : Cond.methodLink "QuadModeModel" 52 qm_M_below ∈ qw ∧ Cond.static qm_M_below ∈ qw ∧ Cond.initialized qm_M_below.cls ∈ qw ∧ Cond.code qm_M_below qm_M_below_c 2 (some .boolean) ∈ qw := ⟨qz_382, qz_384, qz_348, qz_383⟩
theorem qx_M_73 : Cond.methodLink "QuadModeModel" 73 qm_M_find ∈ qw ∧ Cond.instanceMethod qm_M_find ∈ qw ∧ Cond.selects qm_M_find.cls qm_M_find qm_M_find ∈ qw ∧ Cond.initialized qm_M_find.cls ∈ qw ∧ Cond.code qm_M_find qm_M_find_c 11 (some .int) ∈ qw := ⟨qz_388, qz_390, qz_391, qz_348, qz_389⟩
theorem qx_M_77 : Cond.methodLink "QuadModeModel" 77 qm_M_wrong ∈ qw ∧ Cond.instanceMethod qm_M_wrong ∈ qw ∧ Cond.selects qm_M_wrong.cls qm_M_wrong qm_M_wrong ∈ qw ∧ Cond.initialized qm_M_wrong.cls ∈ qw ∧ Cond.code qm_M_wrong qm_M_wrong_c 4 none ∈ qw := ⟨qz_392, qz_394, qz_395, qz_348, qz_393⟩
theorem qx_M_81 : Cond.methodLink "QuadModeModel" 81 qm_M_readByte ∈ qw ∧ Cond.instanceMethod qm_M_readByte ∈ qw ∧ Cond.selects qm_M_readByte.cls qm_M_readByte qm_M_readByte ∈ qw ∧ Cond.initialized qm_M_readByte.cls ∈ qw ∧ Cond.code qm_M_readByte qm_M_readByte_c 3 (some .int) ∈ qw := ⟨qz_396, qz_398, qz_399, qz_348, qz_397⟩
theorem qx_M_100 : Cond.methodLink "QuadModeModel" 100 qm_M_next ∈ qw ∧ Cond.instanceMethod qm_M_next ∈ qw ∧ Cond.selects qm_M_next.cls qm_M_next qm_M_next ∈ qw ∧ Cond.initialized qm_M_next.cls ∈ qw ∧ Cond.code qm_M_next qm_M_next_c 2 (some .int) ∈ qw := ⟨qz_400, qz_402, qz_403, qz_348, qz_401⟩
theorem qx_M_103 : Cond.methodLink "QuadModeModel" 103 qm_M_signed ∈ qw ∧ Cond.static qm_M_signed ∈ qw ∧ Cond.initialized qm_M_signed.cls ∈ qw ∧ Cond.code qm_M_signed qm_M_signed_c 1 (some .int) ∈ qw := ⟨qz_406, qz_408, qz_348, qz_407⟩
theorem qx_M_94 : Cond.methodLink "QuadModeModel" 94 qm_M_readLong ∈ qw ∧ Cond.instanceMethod qm_M_readLong ∈ qw ∧ Cond.selects qm_M_readLong.cls qm_M_readLong qm_M_readLong ∈ qw ∧ Cond.initialized qm_M_readLong.cls ∈ qw ∧ Cond.code qm_M_readLong qm_M_readLong_c 4 (some .int) ∈ qw := ⟨qz_409, qz_411, qz_412, qz_348, qz_410⟩
theorem qx_M_128 : Cond.methodLink "QuadModeModel" 128 qm_M_pop ∈ qw ∧ Cond.instanceMethod qm_M_pop ∈ qw ∧ Cond.selects qm_M_pop.cls qm_M_pop qm_M_pop ∈ qw ∧ Cond.initialized qm_M_pop.cls ∈ qw ∧ Cond.code qm_M_pop qm_M_pop_c 2 (some .int) ∈ qw := ⟨qz_414, qz_416, qz_417, qz_348, qz_415⟩
theorem qx_M_87 : Cond.methodLink "QuadModeModel" 87 qm_M_write ∈ qw ∧ Cond.instanceMethod qm_M_write ∈ qw ∧ Cond.selects qm_M_write.cls qm_M_write qm_M_write ∈ qw ∧ Cond.initialized qm_M_write.cls ∈ qw ∧ Cond.code qm_M_write qm_M_write_c 5 none ∈ qw := ⟨qz_421, qz_423, qz_424, qz_348, qz_422⟩
theorem qx_M_113 : Cond.methodLink "QuadModeModel" 113 qm_M_mark ∈ qw ∧ Cond.instanceMethod qm_M_mark ∈ qw ∧ Cond.selects qm_M_mark.cls qm_M_mark qm_M_mark ∈ qw ∧ Cond.initialized qm_M_mark.cls ∈ qw ∧ Cond.code qm_M_mark qm_M_mark_c 4 none ∈ qw := ⟨qz_425, qz_427, qz_428, qz_348, qz_426⟩
theorem qx_M_117 : Cond.methodLink "QuadModeModel" 117 qm_M_give ∈ qw ∧ Cond.instanceMethod qm_M_give ∈ qw ∧ Cond.selects qm_M_give.cls qm_M_give qm_M_give ∈ qw ∧ Cond.initialized qm_M_give.cls ∈ qw ∧ Cond.code qm_M_give qm_M_give_c 4 none ∈ qw := ⟨qz_429, qz_431, qz_432, qz_348, qz_430⟩
theorem qx_M_106 : Cond.methodLink "QuadModeModel" 106 qm_M_has ∈ qw ∧ Cond.instanceMethod qm_M_has ∈ qw ∧ Cond.selects qm_M_has.cls qm_M_has qm_M_has ∈ qw ∧ Cond.initialized qm_M_has.cls ∈ qw ∧ Cond.code qm_M_has qm_M_has_c 2 (some .boolean) ∈ qw := ⟨qz_433, qz_435, qz_436, qz_348, qz_434⟩
theorem qx_M_121 : Cond.methodLink "QuadModeModel" 121 qm_M_push ∈ qw ∧ Cond.instanceMethod qm_M_push ∈ qw ∧ Cond.selects qm_M_push.cls qm_M_push qm_M_push ∈ qw ∧ Cond.initialized qm_M_push.cls ∈ qw ∧ Cond.code qm_M_push qm_M_push_c 2 none ∈ qw := ⟨qz_437, qz_439, qz_440, qz_348, qz_438⟩
theorem qx_M_139 : Cond.methodLink "QuadModeModel" 139 qm_M_comeBack ∈ qw ∧ Cond.instanceMethod qm_M_comeBack ∈ qw ∧ Cond.selects qm_M_comeBack.cls qm_M_comeBack qm_M_comeBack ∈ qw ∧ Cond.initialized qm_M_comeBack.cls ∈ qw ∧ Cond.code qm_M_comeBack qm_M_comeBack_c 3 none ∈ qw := ⟨qz_446, qz_448, qz_449, qz_348, qz_447⟩
theorem qx_M_136 : Cond.methodLink "QuadModeModel" 136 qm_M_endException ∈ qw ∧ Cond.instanceMethod qm_M_endException ∈ qw ∧ Cond.selects qm_M_endException.cls qm_M_endException qm_M_endException ∈ qw ∧ Cond.initialized qm_M_endException.cls ∈ qw ∧ Cond.code qm_M_endException qm_M_endException_c 4 none ∈ qw := ⟨qz_450, qz_452, qz_453, qz_348, qz_451⟩
theorem qx_M_145 : Cond.methodLink "QuadModeModel" 145 qm_M_move ∈ qw ∧ Cond.instanceMethod qm_M_move ∈ qw ∧ Cond.selects qm_M_move.cls qm_M_move qm_M_move ∈ qw ∧ Cond.initialized qm_M_move.cls ∈ qw ∧ Cond.code qm_M_move qm_M_move_c 9 none ∈ qw := ⟨qz_454, qz_456, qz_457, qz_348, qz_455⟩
theorem qx_M_148 : Cond.methodLink "QuadModeModel" 148 qm_M_reckon ∈ qw ∧ Cond.instanceMethod qm_M_reckon ∈ qw ∧ Cond.selects qm_M_reckon.cls qm_M_reckon qm_M_reckon ∈ qw ∧ Cond.initialized qm_M_reckon.cls ∈ qw ∧ Cond.code qm_M_reckon qm_M_reckon_c 11 none ∈ qw := ⟨qz_458, qz_460, qz_461, qz_348, qz_459⟩
theorem qx_M_155 : Cond.methodLink "QuadModeModel" 155 qm_M_go ∈ qw ∧ Cond.instanceMethod qm_M_go ∈ qw ∧ Cond.selects qm_M_go.cls qm_M_go qm_M_go ∈ qw ∧ Cond.initialized qm_M_go.cls ∈ qw ∧ Cond.code qm_M_go qm_M_go_c 4 none ∈ qw := ⟨qz_462, qz_464, qz_465, qz_348, qz_463⟩
theorem qx_M_152 : Cond.methodLink "QuadModeModel" 152 qm_M_shift ∈ qw ∧ Cond.instanceMethod qm_M_shift ∈ qw ∧ Cond.selects qm_M_shift.cls qm_M_shift qm_M_shift ∈ qw ∧ Cond.initialized qm_M_shift.cls ∈ qw ∧ Cond.code qm_M_shift qm_M_shift_c 5 none ∈ qw := ⟨qz_466, qz_468, qz_469, qz_348, qz_467⟩
theorem qx_M_158 : Cond.methodLink "QuadModeModel" 158 qm_M_isMet ∈ qw ∧ Cond.instanceMethod qm_M_isMet ∈ qw ∧ Cond.selects qm_M_isMet.cls qm_M_isMet qm_M_isMet ∈ qw ∧ Cond.initialized qm_M_isMet.cls ∈ qw ∧ Cond.code qm_M_isMet qm_M_isMet_c 6 (some .boolean) ∈ qw := ⟨qz_470, qz_472, qz_473, qz_348, qz_471⟩
theorem qx_M_161 : Cond.methodLink "QuadModeModel" 161 qm_M_count ∈ qw ∧ Cond.instanceMethod qm_M_count ∈ qw ∧ Cond.selects qm_M_count.cls qm_M_count qm_M_count ∈ qw ∧ Cond.initialized qm_M_count.cls ∈ qw ∧ Cond.code qm_M_count qm_M_count_c 5 none ∈ qw := ⟨qz_474, qz_476, qz_477, qz_348, qz_475⟩
theorem qx_M_164 : Cond.methodLink "QuadModeModel" 164 qm_M_callFrame ∈ qw ∧ Cond.instanceMethod qm_M_callFrame ∈ qw ∧ Cond.selects qm_M_callFrame.cls qm_M_callFrame qm_M_callFrame ∈ qw ∧ Cond.initialized qm_M_callFrame.cls ∈ qw ∧ Cond.code qm_M_callFrame qm_M_callFrame_c 5 none ∈ qw := ⟨qz_478, qz_480, qz_481, qz_348, qz_479⟩
theorem qx_M_167 : Cond.methodLink "QuadModeModel" 167 qm_M_probe ∈ qw ∧ Cond.instanceMethod qm_M_probe ∈ qw ∧ Cond.selects qm_M_probe.cls qm_M_probe qm_M_probe ∈ qw ∧ Cond.initialized qm_M_probe.cls ∈ qw ∧ Cond.code qm_M_probe qm_M_probe_c 9 none ∈ qw := ⟨qz_482, qz_484, qz_485, qz_348, qz_483⟩
theorem qx_M_142 : Cond.methodLink "QuadModeModel" 142 qm_M_innerOnes ∈ qw ∧ Cond.instanceMethod qm_M_innerOnes ∈ qw ∧ Cond.selects qm_M_innerOnes.cls qm_M_innerOnes qm_M_innerOnes ∈ qw ∧ Cond.initialized qm_M_innerOnes.cls ∈ qw ∧ Cond.code qm_M_innerOnes qm_M_innerOnes_c 5 none ∈ qw := ⟨qz_486, qz_488, qz_489, qz_348, qz_487⟩
theorem qx_M_171 : Cond.methodLink "QuadModeModel" 171 qm_M_bringBack ∈ qw ∧ Cond.instanceMethod qm_M_bringBack ∈ qw ∧ Cond.selects qm_M_bringBack.cls qm_M_bringBack qm_M_bringBack ∈ qw ∧ Cond.initialized qm_M_bringBack.cls ∈ qw ∧ Cond.code qm_M_bringBack qm_M_bringBack_c 2 none ∈ qw := ⟨qz_492, qz_494, qz_495, qz_348, qz_493⟩
theorem qx_M_183 : Cond.methodLink "QuadModeModel" 183 qm_M_keep ∈ qw ∧ Cond.instanceMethod qm_M_keep ∈ qw ∧ Cond.selects qm_M_keep.cls qm_M_keep qm_M_keep ∈ qw ∧ Cond.initialized qm_M_keep.cls ∈ qw ∧ Cond.code qm_M_keep qm_M_keep_c 2 none ∈ qw := ⟨qz_496, qz_498, qz_499, qz_348, qz_497⟩
theorem qx_M_186 : Cond.methodLink "QuadModeModel" 186 qm_M_shape ∈ qw ∧ Cond.static qm_M_shape ∈ qw ∧ Cond.initialized qm_M_shape.cls ∈ qw ∧ Cond.code qm_M_shape qm_M_shape_c 1 (some .int) ∈ qw := ⟨qz_500, qz_502, qz_348, qz_501⟩
theorem qx_M_189 : Cond.methodLink "QuadModeModel" 189 qm_M_operand ∈ qw ∧ Cond.instanceMethod qm_M_operand ∈ qw ∧ Cond.selects qm_M_operand.cls qm_M_operand qm_M_operand ∈ qw ∧ Cond.initialized qm_M_operand.cls ∈ qw ∧ Cond.code qm_M_operand qm_M_operand_c 11 none ∈ qw := ⟨qz_503, qz_505, qz_506, qz_348, qz_504⟩
theorem qx_M_192 : Cond.methodLink "QuadModeModel" 192 qm_M_work ∈ qw ∧ Cond.instanceMethod qm_M_work ∈ qw ∧ Cond.selects qm_M_work.cls qm_M_work qm_M_work ∈ qw ∧ Cond.initialized qm_M_work.cls ∈ qw ∧ Cond.code qm_M_work qm_M_work_c 3 none ∈ qw := ⟨qz_507, qz_509, qz_510, qz_348, qz_508⟩
theorem qx_M_198 : Cond.methodLink "QuadModeModel" 198 qm_M_raise ∈ qw ∧ Cond.instanceMethod qm_M_raise ∈ qw ∧ Cond.selects qm_M_raise.cls qm_M_raise qm_M_raise ∈ qw ∧ Cond.initialized qm_M_raise.cls ∈ qw ∧ Cond.code qm_M_raise qm_M_raise_c 8 none ∈ qw := ⟨qz_512, qz_514, qz_515, qz_348, qz_513⟩
theorem qx_M_206 : Cond.methodLink "QuadModeModel" 206 qm_M_instruction ∈ qw ∧ Cond.instanceMethod qm_M_instruction ∈ qw ∧ Cond.selects qm_M_instruction.cls qm_M_instruction qm_M_instruction ∈ qw ∧ Cond.initialized qm_M_instruction.cls ∈ qw ∧ Cond.code qm_M_instruction qm_M_instruction_c 5 none ∈ qw := ⟨qz_516, qz_518, qz_519, qz_348, qz_517⟩
end
section
/-! Words on private fields of nest mates, and the texts of the shapes: they go from call to call. -/
def qnw : List Cond := [Cond.fieldLinkNest "QuadMode$Core" 97 "QuadMode$Pages" "entry" "I" "QuadMode", Cond.fieldLinkNest "QuadMode$Codes" 108 "QuadMode$Core" "status" "I" "QuadMode", Cond.fieldLinkNest "QuadMode" 102 "QuadMode$Core" "status" "I" "QuadMode", Cond.fieldLinkNest "QuadMode" 157 "QuadMode$Core" "fault" "I" "QuadMode", Cond.fieldLinkNest "QuadMode" 177 "QuadMode$Core" "faultAddress" "I" "QuadMode", Cond.fieldLinkNest "QuadMode" 180 "QuadMode$Core" "faultFlag" "I" "QuadMode", Cond.fieldLinkNest "QuadMode$Codes" 149 "QuadMode$Core" "trap" "I" "QuadMode", Cond.fieldLinkNest "QuadMode" 199 "QuadMode$Core" "trap" "I" "QuadMode", Cond.fieldLinkNest "QuadMode$Specifiers" 21 "QuadMode$Operand" "size" "I" "QuadMode", Cond.fieldLinkNest "QuadMode$Codes" 162 "QuadMode$Operand" "size" "I" "QuadMode", Cond.fieldLinkNest "QuadMode$Specifiers" 15 "QuadMode$Operand" "register" "I" "QuadMode", Cond.fieldLinkNest "QuadMode$Codes" 156 "QuadMode$Operand" "register" "I" "QuadMode", Cond.fieldLinkNest "QuadMode$Specifiers" 52 "QuadMode$Operand" "address" "I" "QuadMode", Cond.fieldLinkNest "QuadMode$Codes" 159 "QuadMode$Operand" "address" "I" "QuadMode", Cond.fieldLinkNest "QuadMode$Specifiers" 30 "QuadMode$Operand" "value" "I" "QuadMode", Cond.fieldLinkNest "QuadMode$Codes" 96 "QuadMode$Operand" "value" "I" "QuadMode", Cond.fieldLinkNest "QuadMode" 196 "QuadMode$Operand" "value" "I" "QuadMode"]
theorem qnw_f : ∀ w ∈ qnw, ∃ (a : String) (i : Nat) (b n d h : String), w = Cond.fieldLinkNest a i b n d h := fun w h => by
  simp only [qnw, List.mem_cons, List.not_mem_nil, or_false] at h
  rcases h with rfl | rfl | rfl | rfl | rfl | rfl | rfl | rfl | rfl | rfl | rfl | rfl | rfl | rfl | rfl | rfl | rfl <;> exact ⟨_, _, _, _, _, _, rfl⟩
theorem qnw_t : ∀ w ∈ qnw, w ∈ lw_tbl := fun w h => by
  simp only [qnw, List.mem_cons, List.not_mem_nil, or_false] at h
  rcases h with rfl | rfl | rfl | rfl | rfl | rfl | rfl | rfl | rfl | rfl | rfl | rfl | rfl | rfl | rfl | rfl | rfl
  · exact List.mem_of_getElem? (i := 112) (by decide +kernel)
  · exact List.mem_of_getElem? (i := 137) (by decide +kernel)
  · exact List.mem_of_getElem? (i := 138) (by decide +kernel)
  · exact List.mem_of_getElem? (i := 140) (by decide +kernel)
  · exact List.mem_of_getElem? (i := 141) (by decide +kernel)
  · exact List.mem_of_getElem? (i := 143) (by decide +kernel)
  · exact List.mem_of_getElem? (i := 145) (by decide +kernel)
  · exact List.mem_of_getElem? (i := 147) (by decide +kernel)
  · exact List.mem_of_getElem? (i := 184) (by decide +kernel)
  · exact List.mem_of_getElem? (i := 185) (by decide +kernel)
  · exact List.mem_of_getElem? (i := 186) (by decide +kernel)
  · exact List.mem_of_getElem? (i := 187) (by decide +kernel)
  · exact List.mem_of_getElem? (i := 188) (by decide +kernel)
  · exact List.mem_of_getElem? (i := 189) (by decide +kernel)
  · exact List.mem_of_getElem? (i := 190) (by decide +kernel)
  · exact List.mem_of_getElem? (i := 191) (by decide +kernel)
  · exact List.mem_of_getElem? (i := 192) (by decide +kernel)
def qsk : Nat → Nat := fun j => [31, 33, 35, 37, 39, 41, 43, 45, 47, 49, 51, 53, 55, 57, 59, 61, 63, 65, 67, 69, 71, 73, 75, 77].getD j 0
def qst : Nat → String := fun j => ["R", "RR", "RW", "W", "rw", "rW", "Rw", "\x72", "rr", "M", "RM", "RRW", "rRW", "AW", "aW", "A", "a", "Rd", "Md", "RMd", "Ra", "rRa", "d", ""].getD j ""
def qN (ad : Nat → Nat) (U : State) : Prop := (∀ w ∈ qnw, va_Nw w U) ∧ ∀ j, j < 24 → vk_R "QuadMode$Codes" (qsk j) (qst j) (ad j) U
theorem qN_warm {ad : Nat → Nat} {s U : State} (hW : s.WarmedH U.vm) (h : qN ad s) : qN ad U := ⟨fun w hw => by
  obtain ⟨a, i, b, n, d, h9, rfl⟩ := qnw_f w hw
  exact va_Nw.warmF hW (h.1 _ hw), fun j hj => vk_R.warm hW (h.2 j hj)⟩
theorem qN_same {ad : Nat → Nat} {u U : State} (hv : u.vm = U.vm) (h : qN ad u) : qN ad U := ⟨fun w hw => by
  obtain ⟨a, i, b, n, d, h9, rfl⟩ := qnw_f w hw
  exact va_Nw.same rfl hv (h.1 _ hw), fun j hj => vk_R.same hv.symm (h.2 j hj)⟩
end
section
/-! Walks over a world that is a function of a state. -/
/-- what a method's walk knows from its start on -/
def qC (p : Program) (s : State) (m : MethodId) (args : Array Value) (meth : Method) (c : Code) (cc : ByteArray) (nL : Nat) (ret : Option FieldType) (own : String) (ad : Nat → Nat) : Prop :=
  p.tables.exec = Jvm.exec ∧ c.code = cc ∧ c.maxLocals = nL ∧ s.vm.findClass own = some m.cls ∧ (∀ w ∈ qw, w.before args s = true) ∧ meth.sig.returnType = ret ∧ meth.locks = false ∧ qN ad s
section QW
variable {D : va_G} {cl : List vw_C} {tys : List (ClassId × FieldType)} {wf : qS → va_W} {A : Nat → Prop} {ad : Nat → Nat}
/-- the world at a state, as the walk has it -/
def qG (D : va_G) (cl : List vw_C) (tys : List (ClassId × FieldType)) (A : Nat → Prop) (s : State) (ws : va_W) (H : Heap) (locs : List Loc) : Prop :=
  va_K D cl tys s ∧ va_P D cl ws H ∧ va_D A ws ∧ va_S A s.heap H locs ∧ ∀ q : Nat, s.heap.size ≤ q → A q
def qP (D : va_G) (cl : List vw_C) (tys : List (ClassId × FieldType)) (ad : Nat → Nat) (ws : va_W) (sz : Nat) (U : State) : Prop :=
  U.heap.size = sz ∧ va_P D cl ws U.heap ∧ va_K D cl tys U ∧ va_D (fun _ => True) ws ∧ qN ad U
def qB (D : va_G) (cl : List vw_C) (tys : List (ClassId × FieldType)) (wf : qS → va_W) (A : Nat → Prop) (u : qS) (t : State) : Prop :=
  va_P D cl (wf u) t.heap ∧ va_K D cl tys t ∧ va_D A (wf u)
def qQi (D : va_G) (cl : List vw_C) (tys : List (ClassId × FieldType)) (wf : qS → va_W) (A : Nat → Prop) (res : Int32 × qS) : Array Value → State → Outcome → State → Prop :=
  va_Qi (fun (r : Int32) (u : qS) => (r, u) = res) (qB D cl tys wf A) A
def qQv (D : va_G) (cl : List vw_C) (tys : List (ClassId × FieldType)) (wf : qS → va_W) (A : Nat → Prop) (res : qS) : Array Value → State → Outcome → State → Prop :=
  va_Qv (fun u : qS => u = res) (qB D cl tys wf A) A
def qQs (D : va_G) (cl : List vw_C) (tys : List (ClassId × FieldType)) (ad : Nat → Nat) (wf : qS → va_W) (A : Nat → Prop) (res : Nat × qS) : Array Value → State → Outcome → State → Prop :=
  va_Qr (fun u : Nat × qS => u = res) (fun u a t => a = ad u.1 ∧ qB D cl tys wf A u.2 t) A
def qMs (l : Launch) (y : MethodName) (cc : ByteArray) (nL : Nat) (fr lo : Nat) (D : va_G) (cl : List vw_C) (tys : List (ClassId × FieldType)) (ad : Nat → Nat) (wf : qS → va_W) (av : List Value) (S : qS) (res : Nat × qS) : Prop :=
  ∀ sz : Nat, Met l y (.code y cc nL (some (.object "java/lang/String")) :: qw) ({ frames := fr, cells := 0, slots := 0, locals := lo }) (va_Pc av (qP D cl tys ad (wf S) sz)) (qQs D cl tys ad wf (va_A (wf S) sz) res) 0 0 (va_A (wf S) sz)
/-- a contract: the answer and the state behind are res -/
def qMi (l : Launch) (y : MethodName) (cc : ByteArray) (nL : Nat) (ty : FieldType) (fr lo : Nat) (D : va_G) (cl : List vw_C) (tys : List (ClassId × FieldType)) (ad : Nat → Nat) (wf : qS → va_W) (av : List Value) (S : qS) (res : Int32 × qS) : Prop :=
  ∀ sz : Nat, Met l y (.code y cc nL (some ty) :: qw) ({ frames := fr, cells := 0, slots := 0, locals := lo }) (va_Pc av (qP D cl tys ad (wf S) sz)) (qQi D cl tys wf (va_A (wf S) sz) res) 0 0 (va_A (wf S) sz)
def qMv (l : Launch) (y : MethodName) (cc : ByteArray) (nL : Nat) (fr lo : Nat) (D : va_G) (cl : List vw_C) (tys : List (ClassId × FieldType)) (ad : Nat → Nat) (wf : qS → va_W) (av : List Value) (S : qS) (res : qS) : Prop :=
  ∀ sz : Nat, Met l y (.code y cc nL none :: qw) ({ frames := fr, cells := 0, slots := 0, locals := lo }) (va_Pc av (qP D cl tys ad (wf S) sz)) (qQv D cl tys wf (va_A (wf S) sz) res) 0 0 (va_A (wf S) sz)
theorem qP_blind {ws : va_W} {sz : Nat} {av : List Value} : FrameBlind (va_Pc av (qP D cl tys ad ws sz)) := fun a U g mk q => by
  obtain ⟨q0, q1, qP, qK, qD, hN⟩ := q
  exact ⟨q0, q1, qP, va_K.moved (u := U) (U := U.calling g mk a) (Vm.Alike.refl U.vm) qK, qD, qN_same (u := U) (U := U.calling g mk a) rfl hN⟩
/-- a contract out of a walk of the body -/
theorem qMi_of {l : Launch} {y : MethodName} {cc : ByteArray} {nL fr lo : Nat} {ty : FieldType} {av : List Value} {S : qS} {res : Int32 × qS} (hy : plainName y.cls = true) (hn : (lg_sl av).length ≤ nL)
    (h : ∀ (p : Program) (e : Env) (s : State) (m : MethodId) (args : Array Value) (below : List Frame) (meth : Method) (c : Code) (A : Nat → Prop) (ls : Array Slot), qC p s m args meth c cc nL (some ty) y.cls ad → qG D cl tys A s (wf S) s.heap [] → lv_has ls nL (lv_args 0 av) →
      W p l e ({ frames := fr, cells := 0, slots := 0, locals := lo }) s m args below meth c s.heap [] 0 0 (MQ below (qQi D cl tys wf A res) args s 0 0 A) (F0 m 0 ls [])) : qMi l y cc nL ty fr lo D cl tys ad wf av S res := by
  intro sz
  refine Met.ofW (cc := cc) (maxL := nL) (ret := some ty) hy rfl ?_
  intro p e s m args below meth c s₁ B hml hv
  obtain ⟨rfl, hsz, hP, hK, hD0, hN⟩ := hv
  have hts := atoms_spec (ws := .code y cc nL (some ty) :: qw) B.pre
  have hown : s.vm.findClass y.cls = some m.cls := findClass_of_methodNamed B.named
  subst hsz
  have hl := lv_entry av (n := nL) hn
  rw [lg_entry_eq]
  exact h p e s m av.toArray below meth c _ _ ⟨B.exec, B.bytes, hml, hown, fun w hw => hts w (List.mem_cons_of_mem _ hw), B.returns, B.notSynchronized, hN⟩ ⟨hK, hP, hD0.self, va_S.rf, fun q h => Or.inr h⟩ hl
theorem qMv_of {l : Launch} {y : MethodName} {cc : ByteArray} {nL fr lo : Nat} {av : List Value} {S : qS} {res : qS} (hy : plainName y.cls = true) (hn : (lg_sl av).length ≤ nL)
    (h : ∀ (p : Program) (e : Env) (s : State) (m : MethodId) (args : Array Value) (below : List Frame) (meth : Method) (c : Code) (A : Nat → Prop) (ls : Array Slot), qC p s m args meth c cc nL none y.cls ad → qG D cl tys A s (wf S) s.heap [] → lv_has ls nL (lv_args 0 av) →
      W p l e ({ frames := fr, cells := 0, slots := 0, locals := lo }) s m args below meth c s.heap [] 0 0 (MQ below (qQv D cl tys wf A res) args s 0 0 A) (F0 m 0 ls [])) : qMv l y cc nL fr lo D cl tys ad wf av S res := by
  intro sz
  refine Met.ofW (cc := cc) (maxL := nL) (ret := none) hy rfl ?_
  intro p e s m args below meth c s₁ B hml hv
  obtain ⟨rfl, hsz, hP, hK, hD0, hN⟩ := hv
  have hts := atoms_spec (ws := .code y cc nL none :: qw) B.pre
  have hown : s.vm.findClass y.cls = some m.cls := findClass_of_methodNamed B.named
  subst hsz
  have hl := lv_entry av (n := nL) hn
  rw [lg_entry_eq]
  exact h p e s m av.toArray below meth c _ _ ⟨B.exec, B.bytes, hml, hown, fun w hw => hts w (List.mem_cons_of_mem _ hw), B.returns, B.notSynchronized, hN⟩ ⟨hK, hP, hD0.self, va_S.rf, fun q h => Or.inr h⟩ hl
theorem qMs_of {l : Launch} {y : MethodName} {cc : ByteArray} {nL fr lo : Nat} {av : List Value} {S : qS} {res : Nat × qS} (hy : plainName y.cls = true) (hn : (lg_sl av).length ≤ nL)
    (h : ∀ (p : Program) (e : Env) (s : State) (m : MethodId) (args : Array Value) (below : List Frame) (meth : Method) (c : Code) (A : Nat → Prop) (ls : Array Slot), qC p s m args meth c cc nL (some (.object "java/lang/String")) y.cls ad → qG D cl tys A s (wf S) s.heap [] → lv_has ls nL (lv_args 0 av) →
      W p l e ({ frames := fr, cells := 0, slots := 0, locals := lo }) s m args below meth c s.heap [] 0 0 (MQ below (qQs D cl tys ad wf A res) args s 0 0 A) (F0 m 0 ls [])) : qMs l y cc nL fr lo D cl tys ad wf av S res := by
  intro sz
  refine Met.ofW (cc := cc) (maxL := nL) (ret := some (.object "java/lang/String")) hy rfl ?_
  intro p e s m args below meth c s₁ B hml hv
  obtain ⟨rfl, hsz, hP, hK, hD0, hN⟩ := hv
  have hts := atoms_spec (ws := .code y cc nL (some (.object "java/lang/String")) :: qw) B.pre
  have hown : s.vm.findClass y.cls = some m.cls := findClass_of_methodNamed B.named
  subst hsz
  have hl := lv_entry av (n := nL) hn
  rw [lg_entry_eq]
  exact h p e s m av.toArray below meth c _ _ ⟨B.exec, B.bytes, hml, hown, fun w hw => hts w (List.mem_cons_of_mem _ hw), B.returns, B.notSynchronized, hN⟩ ⟨hK, hP, hD0.self, va_S.rf, fun q h => Or.inr h⟩ hl
end QW
section QR
variable {p : Program} {l : Launch} {e : Env} {R : Room} {s : State} {m : MethodId} {args : Array Value} {below : List Frame} {meth : Method} {c : Code} {H : Heap} {locs : List Loc} {cells slots : Nat} {Q : State → Prop}
variable {cc : ByteArray} {nL : Nat} {ret : Option FieldType} {own : String} {D : va_G} {cl : List vw_C} {tys : List (ClassId × FieldType)} {wf : qS → va_W} {A : Nat → Prop} {S : qS} {pc : Nat} {ls : Array Slot} {rest : List Value} {ad : Nat → Nat}
/-- ends -/
theorem q_iret {res : Int32 × qS} {v : Int32} (C : qC p s m args meth c cc nL (some .int) own ad) (G : qG D cl tys A s (wf S) H locs) (hr : some (v, S) = some res) (hdg : decode cc pc = .ok (.ireturn, 1)) : W p l e R s m args below meth c H locs cells slots (MQ below (qQi D cl tys wf A res) args s cells slots A) (F0 m pc ls [.int v]) := by
  obtain ⟨hx, hb, hml, hown, hts, hret, hlocks, hN⟩ := C
  obtain ⟨hK, hP, hD, hS, hA⟩ := G
  exact W.iret (v := v) hx hb hret (fun t ht hW => ⟨⟨v, S, rfl, Option.some.inj hr, by rw [ht]; exact hP, va_K.moved hW.alike hK, hD⟩, hS.F ht⟩) hS.2.2 hdg
theorem q_zret {res : Int32 × qS} {v : Int32} (C : qC p s m args meth c cc nL (some .boolean) own ad) (G : qG D cl tys A s (wf S) H locs) (hr : chk (isB v) (some (v, S)) = some res) (hdg : decode cc pc = .ok (.ireturn, 1)) : W p l e R s m args below meth c H locs cells slots (MQ below (qQi D cl tys wf A res) args s cells slots A) (F0 m pc ls [.int v]) := by
  obtain ⟨hx, hb, hml, hown, hts, hret, hlocks, hN⟩ := C
  obtain ⟨hK, hP, hD, hS, hA⟩ := G
  obtain ⟨hv, hr⟩ := chk_s hr
  exact W.zret (v := v) hx hb hret (isB_n hv) (fun t ht hW => ⟨⟨v, S, rfl, Option.some.inj hr, by rw [ht]; exact hP, va_K.moved hW.alike hK, hD⟩, hS.F ht⟩) hS.2.2 hdg
theorem q_vret {res : qS} (C : qC p s m args meth c cc nL none own ad) (G : qG D cl tys A s (wf S) H locs) (hr : some S = some res) (hdg : decode cc pc = .ok (.return_, 1)) : W p l e R s m args below meth c H locs cells slots (MQ below (qQv D cl tys wf A res) args s cells slots A) (F0 m pc ls []) := by
  obtain ⟨hx, hb, hml, hown, hts, hret, hlocks, hN⟩ := C
  obtain ⟨hK, hP, hD, hS, hA⟩ := G
  exact W.vret hx hb hret (fun t ht hW => ⟨⟨S, rfl, Option.some.inj hr, by rw [ht]; exact hP, va_K.moved hW.alike hK, hD⟩, hS.F ht⟩) hS.2.2 hdg
theorem q_sret {res : Nat × qS} {j : Nat} (C : qC p s m args meth c cc nL (some (.object "java/lang/String")) own ad) (G : qG D cl tys A s (wf S) H locs) (hr : some (j, S) = some res) (hdg : decode cc pc = .ok (.areturn, 1)) : W p l e R s m args below meth c H locs cells slots (MQ below (qQs D cl tys ad wf A res) args s cells slots A) (F0 m pc ls [.ref (ad j)]) := by
  obtain ⟨hx, hb, hml, hown, hts, hret, hlocks, hN⟩ := C
  obtain ⟨hK, hP, hD, hS, hA⟩ := G
  exact W.aret (v := .ref (ad j)) hx hb hret (Or.inl ⟨_, rfl⟩) (Or.inr ⟨_, rfl⟩) (fun t ht hW => ⟨⟨(j, S), ad j, rfl, Option.some.inj hr, rfl, by rw [ht]; exact hP, va_K.moved hW.alike hK, hD⟩, hS.F ht⟩) hS.2.2 hdg
/-- a field is read -/
theorem q_get {T : u_T} {N ci index : Nat} {CN : String} (C : qC p s m args meth c cc nL ret own ad) (G : qG D cl tys A s (wf S) H locs) (hin : ∀ w ∈ u_ws CN T N, w ∈ qw) (q0 : Nat) {a : Nat} {fs : List Value} (he : (wf S)[q0]? = some (a, .inr (ci, fs))) (hc : cl[ci]? = some (CN, T, N)) (k : Nat) (hk : k < N) (hlink : Cond.fieldLink own index (T k).1 (T k).2.1 (T k).2.2.1 ∈ qw) {v : Value} (hv : fs[k]? = some v) (hdg : decode cc pc = .ok (.getfield index, 3))
    (kk : W p l e R s m args below meth c H locs cells slots Q (F0 m (pc + 3) ls (v :: rest))) : W p l e R s m args below meth c H locs cells slots Q (F0 m pc ls (.ref a :: rest)) :=
  va_get C.1 C.2.1 C.2.2.2.2.1 hin C.2.2.2.1 G.1 G.2.1 q0 he hc k hk (C.2.2.2.2.1 _ hlink) (fun _ h => h) hv hdg kk
theorem q_getN {T : u_T} {N ci index : Nat} {CN host : String} (C : qC p s m args meth c cc nL ret own ad) (G : qG D cl tys A s (wf S) H locs) (hin : ∀ w ∈ u_ws CN T N, w ∈ qw) (q0 : Nat) {a : Nat} {fs : List Value} (he : (wf S)[q0]? = some (a, .inr (ci, fs))) (hc : cl[ci]? = some (CN, T, N)) (k : Nat) (hk : k < N) (hlink : Cond.fieldLinkNest own index (T k).1 (T k).2.1 (T k).2.2.1 host ∈ qnw) {v : Value} (hv : fs[k]? = some v) (hdg : decode cc pc = .ok (.getfield index, 3))
    (kk : W p l e R s m args below meth c H locs cells slots Q (F0 m (pc + 3) ls (v :: rest))) : W p l e R s m args below meth c H locs cells slots Q (F0 m pc ls (.ref a :: rest)) :=
  va_getN C.1 C.2.1 C.2.2.2.2.1 hin C.2.2.2.1 G.1 G.2.1 q0 he hc k hk (va_Nw.use rfl (C.2.2.2.2.2.2.2.1 _ hlink)) (fun _ h => h) hv hdg kk
/-- a number is put into a field -/
theorem q_put {S' : qS} {T : u_T} {N ci index : Nat} {CN : String} (C : qC p s m args meth c cc nL ret own ad) (G : qG D cl tys A s (wf S) H locs) (hin : ∀ w ∈ u_ws CN T N, w ∈ qw) (ty0 : Nat → FieldType) (hty : ∀ k, k < N → parseFieldDescriptor (T k).2.2.1 = some (ty0 k)) (hnm : ∀ a, a < N → ∀ b, b < N → a ≠ b → (T a).2.1 ≠ (T b).2.1) (q0 : Nat) {a : Nat} {fs : List Value} (he : (wf S)[q0]? = some (a, .inr (ci, fs))) (hc : cl[ci]? = some (CN, T, N)) (k : Nat) (hk : k < N) (hlink : Cond.fieldLink own index (T k).1 (T k).2.1 (T k).2.2.1 ∈ qw) (hfin : (T k).2.2.2 = false) (hI : ty0 k = .int) {v : Int32} (hl : k < fs.length) (hS' : (wf S).set q0 (a, .inr (ci, fs.set k (.int v))) = wf S') (hdg : decode cc pc = .ok (.putfield index, 3))
    (kk : ∀ (H1 : Heap) (locs1 : List Loc), qG D cl tys A s (wf S') H1 locs1 → W p l e R s m args below meth c H1 locs1 cells slots Q (F0 m (pc + 3) ls rest)) : W p l e R s m args below meth c H locs cells slots Q (F0 m pc ls (.int v :: .ref a :: rest)) := by
  obtain ⟨hK, hP, hD, hS, hA⟩ := G
  refine va_put C.1 C.2.1 C.2.2.2.2.1 hin ty0 hty hnm C.2.2.2.1 hK hP hD hS q0 he hc k hk (C.2.2.2.2.1 _ hlink) (fun _ h => h) hfin (ty := .int) (hI ▸ hty k hk) rfl rfl hl hdg (fun H1 locs1 hP hD hS => ?_)
  rw [hS'] at hP hD
  exact kk H1 locs1 ⟨hK, hP, hD, hS, hA⟩
theorem q_putN {S' : qS} {T : u_T} {N ci index : Nat} {CN host : String} (C : qC p s m args meth c cc nL ret own ad) (G : qG D cl tys A s (wf S) H locs) (hin : ∀ w ∈ u_ws CN T N, w ∈ qw) (ty0 : Nat → FieldType) (hty : ∀ k, k < N → parseFieldDescriptor (T k).2.2.1 = some (ty0 k)) (hnm : ∀ a, a < N → ∀ b, b < N → a ≠ b → (T a).2.1 ≠ (T b).2.1) (q0 : Nat) {a : Nat} {fs : List Value} (he : (wf S)[q0]? = some (a, .inr (ci, fs))) (hc : cl[ci]? = some (CN, T, N)) (k : Nat) (hk : k < N) (hlink : Cond.fieldLinkNest own index (T k).1 (T k).2.1 (T k).2.2.1 host ∈ qnw) (hfin : (T k).2.2.2 = false) (hI : ty0 k = .int) {v : Int32} (hl : k < fs.length) (hS' : (wf S).set q0 (a, .inr (ci, fs.set k (.int v))) = wf S') (hdg : decode cc pc = .ok (.putfield index, 3))
    (kk : ∀ (H1 : Heap) (locs1 : List Loc), qG D cl tys A s (wf S') H1 locs1 → W p l e R s m args below meth c H1 locs1 cells slots Q (F0 m (pc + 3) ls rest)) : W p l e R s m args below meth c H locs cells slots Q (F0 m pc ls (.int v :: .ref a :: rest)) := by
  obtain ⟨hK, hP, hD, hS, hA⟩ := G
  refine va_putN C.1 C.2.1 C.2.2.2.2.1 hin ty0 hty hnm C.2.2.2.1 hK hP hD hS q0 he hc k hk (va_Nw.use rfl (C.2.2.2.2.2.2.2.1 _ hlink)) (fun _ h => h) hfin (ty := .int) (hI ▸ hty k hk) rfl rfl hl hdg (fun H1 locs1 hP hD hS => ?_)
  rw [hS'] at hP hD
  exact kk H1 locs1 ⟨hK, hP, hD, hS, hA⟩
/-- arrays -/
theorem q_iald (C : qC p s m args meth c cc nL ret own ad) (G : qG D cl tys A s (wf S) H locs) (q0 t0 : Nat) {a : Nat} {cA : ClassId} {n : Nat} {f : Nat → Int32} (ha : (wf S)[q0]? = some (a, .inl (cA, n, .inl f))) (ht : tys[t0]? = some (cA, .int)) {i : Int32} (hin : inb i n = true) (hdg : decode cc pc = .ok (.iaload, 1))
    (kk : W p l e R s m args below meth c H locs cells slots Q (F0 m (pc + 1) ls (.int (f i.toNatClampNeg) :: rest))) : W p l e R s m args below meth c H locs cells slots Q (F0 m pc ls (.int i :: .ref a :: rest)) :=
  va_iald C.1 C.2.1 G.1 G.2.1 q0 t0 ha ht (inb_in hin) hdg kk
theorem q_bald (C : qC p s m args meth c cc nL ret own ad) (G : qG D cl tys A s (wf S) H locs) (q0 t0 : Nat) {a : Nat} {cA : ClassId} {n : Nat} {f : Nat → Int32} (ha : (wf S)[q0]? = some (a, .inl (cA, n, .inl f))) (ht : tys[t0]? = some (cA, .byte)) {i : Int32} (hin : inb i n = true) (hdg : decode cc pc = .ok (.baload, 1))
    (kk : W p l e R s m args below meth c H locs cells slots Q (F0 m (pc + 1) ls (.int (f i.toNatClampNeg) :: rest))) : W p l e R s m args below meth c H locs cells slots Q (F0 m pc ls (.int i :: .ref a :: rest)) :=
  va_bald C.1 C.2.1 G.1 G.2.1 q0 t0 ha ht (inb_in hin) hdg kk
theorem q_iast {S' : qS} (C : qC p s m args meth c cc nL ret own ad) (G : qG D cl tys A s (wf S) H locs) (q0 t0 : Nat) {a : Nat} {cA : ClassId} {n : Nat} {f : Nat → Int32} (ha : (wf S)[q0]? = some (a, .inl (cA, n, .inl f))) (ht : tys[t0]? = some (cA, .int)) {i x : Int32} (hin : inb i n = true) (hS' : (wf S).set q0 (a, .inl (cA, n, .inl (upd f i.toNatClampNeg x))) = wf S') (hdg : decode cc pc = .ok (.iastore, 1))
    (kk : ∀ (H1 : Heap) (locs1 : List Loc), qG D cl tys A s (wf S') H1 locs1 → W p l e R s m args below meth c H1 locs1 cells slots Q (F0 m (pc + 1) ls rest)) : W p l e R s m args below meth c H locs cells slots Q (F0 m pc ls (.int x :: .int i :: .ref a :: rest)) := by
  obtain ⟨hK, hP, hD, hS, hA⟩ := G
  refine va_iast C.1 C.2.1 hK hP hD hS q0 t0 ha ht (inb_in hin) hdg (fun H1 locs1 hP hD hS => ?_)
  rw [hS'] at hP hD
  exact kk H1 locs1 ⟨hK, hP, hD, hS, hA⟩
theorem q_bast {S' : qS} (C : qC p s m args meth c cc nL ret own ad) (G : qG D cl tys A s (wf S) H locs) (q0 t0 : Nat) {a : Nat} {cA : ClassId} {n : Nat} {f : Nat → Int32} (ha : (wf S)[q0]? = some (a, .inl (cA, n, .inl f))) (ht : tys[t0]? = some (cA, .byte)) {i x : Int32} (hin : inb i n = true) (hS' : (wf S).set q0 (a, .inl (cA, n, .inl (upd f i.toNatClampNeg (vp_nar .byte x)))) = wf S') (hdg : decode cc pc = .ok (.bastore, 1))
    (kk : ∀ (H1 : Heap) (locs1 : List Loc), qG D cl tys A s (wf S') H1 locs1 → W p l e R s m args below meth c H1 locs1 cells slots Q (F0 m (pc + 1) ls rest)) : W p l e R s m args below meth c H locs cells slots Q (F0 m pc ls (.int x :: .int i :: .ref a :: rest)) := by
  obtain ⟨hK, hP, hD, hS, hA⟩ := G
  refine va_bast C.1 C.2.1 hK hP hD hS q0 t0 ha ht (inb_in hin) hdg (fun H1 locs1 hP hD hS => ?_)
  rw [hS'] at hP hD
  exact kk H1 locs1 ⟨hK, hP, hD, hS, hA⟩
/-- calls: a method of an object of the world, a static one -/
theorem q_callVi {index nL' fr lo n q0 ci : Nat} {y : MethodName} {cc' : ByteArray} {ty : FieldType} {b : Nat} {fs : List Value} {As st : List Value} {res : Int32 × qS} {q : vw_C} (C : qC p s m args meth c cc nL ret own ad) (G : qG D cl tys A s (wf S) H locs) (hls : ls.size = nL) (hM : qMi l y cc' nL' ty fr lo D cl tys ad wf (.ref b :: As) S res)
    (hw : Cond.methodLink own index y ∈ qw ∧ Cond.instanceMethod y ∈ qw ∧ Cond.selects y.cls y y ∈ qw ∧ Cond.initialized y.cls ∈ qw ∧ Cond.code y cc' nL' (some ty) ∈ qw) (hd : y.cls ≠ "java/lang/invoke/MethodHandle" ∧ y.cls ≠ "java/lang/invoke/VarHandle" ∧ (parseMethodDescriptor y.desc).map (fun d => d.parameters.length) = some n)
    (hR : fr + 1 ≤ R.frames ∧ 8 + (nL' + 11) + lo ≤ R.locals) (hcr : cells ≤ R.cells ∧ slots ≤ R.slots) (hc : cl[ci]? = some q) (hq : q.1 = y.cls) (he : (wf S)[q0]? = some (b, .inr (ci, fs))) (hn : As.length = n) (hst : st = As.reverse ++ .ref b :: rest) (h8 : (rest.map fun v => v.category).sum ≤ 8) (hdg : decode cc pc = .ok (.invokevirtual index, 3))
    (kk : ∀ (H1 : Heap) (locs1 : List Loc), qG D cl tys A s (wf res.2) H1 locs1 → W p l e R s m args below meth c H1 locs1 cells slots Q (F0 m (pc + 3) ls (.int res.1 :: rest))) : W p l e R s m args below meth c H locs cells slots Q (F0 m pc ls st) := by
  obtain ⟨hx, hb, hml, hown, hts, -, -, hN⟩ := C
  obtain ⟨hK, hP, hD, hS, hA⟩ := G
  have hFc : ∀ z, va_A (wf S) H.size z → A z := fun z hz => by
    rcases hz with ⟨k, e, h⟩ | h
    · exact hD.2 k _ h
    · exact hA z (Nat.le_trans hS.1 h)
  have hG : GoodIn qw (wsV own index y.cls y (.code y cc' nL' (some ty) :: qw)) := qw_gl (fun w h => by simp only [List.mem_cons, List.not_mem_nil, or_false] at h; rcases h with rfl | rfl | rfl | rfl <;> simp only [hw]) (qw_gc hw.2.2.2.2)
  have hrc := va_recv hK hP hc he
  rw [hq] at hrc
  refine va_calli (va_runV (As := As) (rest := rest) ⟨hx, hb, hml, hown, hts⟩ (hM H.size) (cwV n hts hG rfl rfl rfl ⟨rfl, hd⟩ hR) ⟨qP_blind, hrc, fun U hU hW => ⟨rfl, by rw [hU], by rw [hU]; exact hP, va_K.moved hW.alike hK, hD.weaken (fun _ _ _ _ => trivial), qN_warm hW hN⟩⟩ rfl hn hls hst (lv_room h8) hdg hcr) hS (fun z _ h => hFc z h) hFc (fun r' u t H1 locs1 ht hvm hpost hB hz1 hk1 hS1 => ?_)
  cases hpost
  obtain ⟨hP1, hK1, hD1⟩ := hB
  rw [ht] at hP1
  exact kk H1 locs1 ⟨hK, hP1, ⟨hD1.1, fun k z hz => hFc _ (hD1.2 k z hz)⟩, hS1, hA⟩
theorem q_callVv {index nL' fr lo n q0 ci : Nat} {y : MethodName} {cc' : ByteArray} {b : Nat} {fs : List Value} {As st : List Value} {S' : qS} {q : vw_C} (C : qC p s m args meth c cc nL ret own ad) (G : qG D cl tys A s (wf S) H locs) (hls : ls.size = nL) (hM : qMv l y cc' nL' fr lo D cl tys ad wf (.ref b :: As) S S')
    (hw : Cond.methodLink own index y ∈ qw ∧ Cond.instanceMethod y ∈ qw ∧ Cond.selects y.cls y y ∈ qw ∧ Cond.initialized y.cls ∈ qw ∧ Cond.code y cc' nL' none ∈ qw) (hd : y.cls ≠ "java/lang/invoke/MethodHandle" ∧ y.cls ≠ "java/lang/invoke/VarHandle" ∧ (parseMethodDescriptor y.desc).map (fun d => d.parameters.length) = some n)
    (hR : fr + 1 ≤ R.frames ∧ 8 + (nL' + 11) + lo ≤ R.locals) (hcr : cells ≤ R.cells ∧ slots ≤ R.slots) (hc : cl[ci]? = some q) (hq : q.1 = y.cls) (he : (wf S)[q0]? = some (b, .inr (ci, fs))) (hn : As.length = n) (hst : st = As.reverse ++ .ref b :: rest) (h8 : (rest.map fun v => v.category).sum ≤ 8) (hdg : decode cc pc = .ok (.invokevirtual index, 3))
    (kk : ∀ (H1 : Heap) (locs1 : List Loc), qG D cl tys A s (wf S') H1 locs1 → W p l e R s m args below meth c H1 locs1 cells slots Q (F0 m (pc + 3) ls rest)) : W p l e R s m args below meth c H locs cells slots Q (F0 m pc ls st) := by
  obtain ⟨hx, hb, hml, hown, hts, -, -, hN⟩ := C
  obtain ⟨hK, hP, hD, hS, hA⟩ := G
  have hFc : ∀ z, va_A (wf S) H.size z → A z := fun z hz => by
    rcases hz with ⟨k, e, h⟩ | h
    · exact hD.2 k _ h
    · exact hA z (Nat.le_trans hS.1 h)
  have hG : GoodIn qw (wsV own index y.cls y (.code y cc' nL' none :: qw)) := qw_gl (fun w h => by simp only [List.mem_cons, List.not_mem_nil, or_false] at h; rcases h with rfl | rfl | rfl | rfl <;> simp only [hw]) (qw_gc hw.2.2.2.2)
  have hrc := va_recv hK hP hc he
  rw [hq] at hrc
  refine va_callv (va_runV (As := As) (rest := rest) ⟨hx, hb, hml, hown, hts⟩ (hM H.size) (cwV n hts hG rfl rfl rfl ⟨rfl, hd⟩ hR) ⟨qP_blind, hrc, fun U hU hW => ⟨rfl, by rw [hU], by rw [hU]; exact hP, va_K.moved hW.alike hK, hD.weaken (fun _ _ _ _ => trivial), qN_warm hW hN⟩⟩ rfl hn hls hst (lv_room h8) hdg hcr) hS (fun z _ h => hFc z h) hFc (fun u t H1 locs1 ht hvm hpost hB hz1 hk1 hS1 => ?_)
  cases hpost
  obtain ⟨hP1, hK1, hD1⟩ := hB
  rw [ht] at hP1
  exact kk H1 locs1 ⟨hK, hP1, ⟨hD1.1, fun k z hz => hFc _ (hD1.2 k z hz)⟩, hS1, hA⟩
theorem q_callSi {index nL' fr lo n : Nat} {y : MethodName} {cc' : ByteArray} {ty : FieldType} {As st : List Value} {res : Int32 × qS} (C : qC p s m args meth c cc nL ret own ad) (G : qG D cl tys A s (wf S) H locs) (hls : ls.size = nL) (hM : qMi l y cc' nL' ty fr lo D cl tys ad wf As S res)
    (hw : Cond.methodLink own index y ∈ qw ∧ Cond.static y ∈ qw ∧ Cond.initialized y.cls ∈ qw ∧ Cond.code y cc' nL' (some ty) ∈ qw) (hd : y.cls ≠ "java/lang/invoke/MethodHandle" ∧ y.cls ≠ "java/lang/invoke/VarHandle" ∧ (parseMethodDescriptor y.desc).map (fun d => d.parameters.length) = some n)
    (hR : fr + 1 ≤ R.frames ∧ 8 + (nL' + 11) + lo ≤ R.locals) (hcr : cells ≤ R.cells ∧ slots ≤ R.slots) (hn : As.length = n) (hst : st = As.reverse ++ rest) (h8 : (rest.map fun v => v.category).sum ≤ 8) (hdg : decode cc pc = .ok (.invokestatic index, 3))
    (kk : ∀ (H1 : Heap) (locs1 : List Loc), qG D cl tys A s (wf res.2) H1 locs1 → W p l e R s m args below meth c H1 locs1 cells slots Q (F0 m (pc + 3) ls (.int res.1 :: rest))) : W p l e R s m args below meth c H locs cells slots Q (F0 m pc ls st) := by
  obtain ⟨hx, hb, hml, hown, hts, -, -, hN⟩ := C
  obtain ⟨hK, hP, hD, hS, hA⟩ := G
  have hFc : ∀ z, va_A (wf S) H.size z → A z := fun z hz => by
    rcases hz with ⟨k, e, h⟩ | h
    · exact hD.2 k _ h
    · exact hA z (Nat.le_trans hS.1 h)
  have hG : GoodIn qw (va_wsS own index y (.code y cc' nL' (some ty) :: qw)) := qw_gl (fun w h => by simp only [List.mem_cons, List.not_mem_nil, or_false] at h; rcases h with rfl | rfl | rfl <;> simp only [hw]) (qw_gc hw.2.2.2)
  refine va_calli (va_runS (As := As) (rest := rest) ⟨hx, hb, hml, hown, hts⟩ (hM H.size) (va_cwS n hts hG rfl rfl rfl hd hR) ⟨qP_blind, fun U hU hW => ⟨rfl, by rw [hU], by rw [hU]; exact hP, va_K.moved hW.alike hK, hD.weaken (fun _ _ _ _ => trivial), qN_warm hW hN⟩⟩ rfl hn hls hst (lv_room h8) hdg hcr) hS (fun z _ h => hFc z h) hFc (fun r' u t H1 locs1 ht hvm hpost hB hz1 hk1 hS1 => ?_)
  cases hpost
  obtain ⟨hP1, hK1, hD1⟩ := hB
  rw [ht] at hP1
  exact kk H1 locs1 ⟨hK, hP1, ⟨hD1.1, fun k z hz => hFc _ (hD1.2 k z hz)⟩, hS1, hA⟩
/-- System.arraycopy between two arrays of ints, Math.min, Math.max -/
theorem q_copy {S' : qS} {index : Nat} (C : qC p s m args meth c cc nL ret own ad) (G : qG D cl tys A s (wf S) H locs) (hls : ls.size = nL) (hw : Cond.methodLink own index arraycopyName ∈ qw ∧ Cond.native arraycopyName ∈ qw ∧ Cond.static arraycopyName ∈ qw ∧ Cond.initialized "java/lang/System" ∈ qw) (q0 q1 t0 t1 : Nat) {a0 a1 : Nat} {c0 c1 : ClassId} {n0 n1 : Nat} {f g : Nat → Int32} (ha0 : (wf S)[q0]? = some (a0, .inl (c0, n0, .inl f))) (ha1 : (wf S)[q1]? = some (a1, .inl (c1, n1, .inl g))) (ht0 : tys[t0]? = some (c0, .int)) (ht1 : tys[t1]? = some (c1, .int))
    {sp dp n : Int32} (h1 : ¬ sp < 0) (h2 : ¬ dp < 0) (h3 : ¬ n < 0) (h4 : sp.toNatClampNeg + n.toNatClampNeg ≤ n0) (h5 : dp.toNatClampNeg + n.toNatClampNeg ≤ n1) (hS' : (wf S).set q1 (a1, .inl (c1, n1, .inl (va_cpy f g sp.toNatClampNeg dp.toNatClampNeg n.toNatClampNeg))) = wf S')
    (hfr : 1 ≤ R.frames) (hlo : (rest.map fun v => v.category).sum + (nativeFrameWords "java/lang/System" "arraycopy" 5 + 11) ≤ R.locals) (hdg : decode cc pc = .ok (.invokestatic index, 3))
    (kk : ∀ (H1 : Heap) (locs1 : List Loc), qG D cl tys A s (wf S') H1 locs1 → W p l e R s m args below meth c H1 locs1 cells slots Q (F0 m (pc + 3) ls rest)) : W p l e R s m args below meth c H locs cells slots Q (F0 m pc ls (.int n :: .int dp :: .ref a1 :: .int sp :: .ref a0 :: rest)) := by
  obtain ⟨hx, hb, hml, hown, hts, -, -, hN⟩ := C
  obtain ⟨hK, hP, hD, hS, hA⟩ := G
  refine va_copyi hx hb (hml.trans hls.symm) hown (hts _ hw.1) (hts _ hw.2.1) (hts _ hw.2.2.1) (hts _ hw.2.2.2) hK hP hD hS q0 q1 t0 t1 ha0 ha1 ht0 ht1 rfl h1 h2 h3 h4 h5 (fun _ _ => rfl) hfr hlo hdg (fun H1 locs1 hP hD hS => ?_)
  rw [hS'] at hP hD
  exact kk H1 locs1 ⟨hK, hP, hD, hS, hA⟩
theorem q_min {index : Nat} (C : qC p s m args meth c cc nL ret own ad) (hls : ls.size = nL) (hw : Cond.methodLink own index Lib.Math.min.name ∈ qw ∧ Cond.static Lib.Math.min.name ∈ qw ∧ Cond.initialized "java/lang/Math" ∈ qw ∧ Cond.code Lib.Math.min.name Lib.Math.min.code 2 (some .int) ∈ qw) (hfr : 1 ≤ R.frames) (hlo : (rest.map fun v => v.category).sum + 13 ≤ R.locals) (hcr : cells ≤ R.cells ∧ slots ≤ R.slots) {x y : Int32} (hdg : decode cc pc = .ok (.invokestatic index, 3))
    (kk : W p l e R s m args below meth c H locs cells slots Q (F0 m (pc + 3) ls (.int (if y < x then y else x) :: rest))) : W p l e R s m args below meth c H locs cells slots Q (F0 m pc ls (.int y :: .int x :: rest)) := by
  obtain ⟨hx, hb, hml, hown, hts, -, -, hN⟩ := C
  exact va_mmin hx hb (hml.trans hls.symm) hown (hts _ hw.1) (hts _ hw.2.1) (hts _ hw.2.2.1) (hts _ hw.2.2.2) hfr hlo hcr.1 hcr.2 hdg kk
theorem q_max {index : Nat} (C : qC p s m args meth c cc nL ret own ad) (hls : ls.size = nL) (hw : Cond.methodLink own index Lib.Math.max.name ∈ qw ∧ Cond.static Lib.Math.max.name ∈ qw ∧ Cond.initialized "java/lang/Math" ∈ qw ∧ Cond.code Lib.Math.max.name Lib.Math.max.code 2 (some .int) ∈ qw) (hfr : 1 ≤ R.frames) (hlo : (rest.map fun v => v.category).sum + 13 ≤ R.locals) (hcr : cells ≤ R.cells ∧ slots ≤ R.slots) {x y : Int32} (hdg : decode cc pc = .ok (.invokestatic index, 3))
    (kk : W p l e R s m args below meth c H locs cells slots Q (F0 m (pc + 3) ls (.int (if x < y then y else x) :: rest))) : W p l e R s m args below meth c H locs cells slots Q (F0 m pc ls (.int y :: .int x :: rest)) := by
  obtain ⟨hx, hb, hml, hown, hts, -, -, hN⟩ := C
  exact va_mmax hx hb (hml.trans hls.symm) hown (hts _ hw.1) (hts _ hw.2.1) (hts _ hw.2.2.1) (hts _ hw.2.2.2) hfr hlo hcr.1 hcr.2 hdg kk
end QR
end
section
/-! The two worlds: the class's cells, and the reference's, out of a state. -/
def cW (h : Nat → Nat) (K : Nat → ClassId) (S : qS) : va_W :=
  [(h 0, .inr (6, [.ref (h 1), .ref (h 3), .ref (h 4), .ref (h 5), .ref (h 11), .ref (h 15), .ref (h 16), .int (S.1 0), .int (S.1 1), .int (S.1 2), .int (S.1 3)])),
   (h 1, .inr (5, [.ref (h 2)])),
   (h 2, .inl (K 0, 2048, .inl (S.2 0))),
   (h 3, .inl (K 1, 57, .inl (S.2 1))),
   (h 4, .inr (3, [.ref (h 1), .ref (h 3), .int (S.1 4)])),
   (h 5, .inr (1, [.ref (h 1), .ref (h 4), .ref (h 3), .ref (h 6), .ref (h 7), .ref (h 8), .ref (h 9), .ref (h 10), .int (S.1 5), .int (S.1 6), .int (S.1 7), .int (S.1 8), .int (S.1 9), .int (S.1 10)])),
   (h 6, .inl (K 2, 16, .inl (S.2 2))),
   (h 7, .inl (K 3, 16, .inl (S.2 3))),
   (h 8, .inl (K 4, 4, .inl (S.2 4))),
   (h 9, .inl (K 5, 4, .inl (S.2 5))),
   (h 10, .inl (K 6, 4, .inl (S.2 6))),
   (h 11, .inl (K 7, 3, .inr (.inr (.inr (.inr (fun j => some (h (12 + j)))))))),
   (h 12, .inr (2, [.int (S.1 11), .int (S.1 12), .int (S.1 13), .int (S.1 14)])),
   (h 13, .inr (2, [.int (S.1 15), .int (S.1 16), .int (S.1 17), .int (S.1 18)])),
   (h 14, .inr (2, [.int (S.1 19), .int (S.1 20), .int (S.1 21), .int (S.1 22)])),
   (h 15, .inr (4, [.ref (h 5)])),
   (h 16, .inr (0, [.ref (h 5), .ref (h 12), .ref (h 13), .ref (h 14)]))]
def cT (K : Nat → ClassId) : List (ClassId × FieldType) := [(K 0, .byte), (K 1, .int), (K 2, .int), (K 3, .int), (K 4, .int), (K 5, .int), (K 6, .int), (K 7, .object "QuadMode$Operand")]
def mW (h : Nat → Nat) (K : Nat → ClassId) (S : qS) : va_W :=
  [(h 0, .inr (7, [.int (S.1 0), .ref (h 1), .ref (h 2), .ref (h 3), .int (S.1 1), .int (S.1 2), .int (S.1 3), .int (S.1 4), .int (S.1 5), .ref (h 4), .ref (h 5), .int (S.1 6), .int (S.1 7), .int (S.1 8), .int (S.1 9), .int (S.1 10), .ref (h 6), .ref (h 7), .ref (h 8), .int (S.1 11), .ref (h 9), .ref (h 10)])),
   (h 1, .inl (K 0, 2048, .inl (S.2 0))),
   (h 2, .inl (K 1, 16, .inl (S.2 1))),
   (h 3, .inl (K 2, 57, .inl (S.2 2))),
   (h 4, .inl (K 3, 16, .inl (S.2 3))),
   (h 5, .inl (K 4, 4, .inl (S.2 4))),
   (h 6, .inl (K 5, 3, .inl (S.2 5))),
   (h 7, .inl (K 6, 3, .inl (S.2 6))),
   (h 8, .inl (K 7, 3, .inl (S.2 7))),
   (h 9, .inl (K 8, 4, .inl (S.2 8))),
   (h 10, .inl (K 9, 4, .inl (S.2 9)))]
def mT (K : Nat → ClassId) : List (ClassId × FieldType) := [(K 0, .int), (K 1, .int), (K 2, .int), (K 3, .int), (K 4, .int), (K 5, .int), (K 6, .int), (K 7, .int), (K 8, .int), (K 9, .int)]
/-- an operand's cell, by its number -/
theorem cW_op {h : Nat → Nat} {K : Nat → ClassId} {S : qS} (k : Nat) (hk : k < 3) : (cW h K S)[12 + k]? = some (h (12 + k), .inr (2, [.int (S.1 (11 + 4 * k)), .int (S.1 (12 + 4 * k)), .int (S.1 (13 + 4 * k)), .int (S.1 (14 + 4 * k))])) := by
  rcases (show k = 0 ∨ k = 1 ∨ k = 2 by omega) with rfl | rfl | rfl <;> rfl
theorem cW_op0 {h : Nat → Nat} {K : Nat → ClassId} {S : qS} (k : Nat) (hk : k < 3) (v : Int32) : (cW h K S).set (12 + k) (h (12 + k), .inr (2, [.int v, .int (S.1 (12 + 4 * k)), .int (S.1 (13 + 4 * k)), .int (S.1 (14 + 4 * k))])) = cW h K (pI S (11 + 4 * k) v) := by
  rcases (show k = 0 ∨ k = 1 ∨ k = 2 by omega) with rfl | rfl | rfl <;> rfl
theorem cW_op1 {h : Nat → Nat} {K : Nat → ClassId} {S : qS} (k : Nat) (hk : k < 3) (v : Int32) : (cW h K S).set (12 + k) (h (12 + k), .inr (2, [.int (S.1 (11 + 4 * k)), .int v, .int (S.1 (13 + 4 * k)), .int (S.1 (14 + 4 * k))])) = cW h K (pI S (12 + 4 * k) v) := by
  rcases (show k = 0 ∨ k = 1 ∨ k = 2 by omega) with rfl | rfl | rfl <;> rfl
theorem cW_op2 {h : Nat → Nat} {K : Nat → ClassId} {S : qS} (k : Nat) (hk : k < 3) (v : Int32) : (cW h K S).set (12 + k) (h (12 + k), .inr (2, [.int (S.1 (11 + 4 * k)), .int (S.1 (12 + 4 * k)), .int v, .int (S.1 (14 + 4 * k))])) = cW h K (pI S (13 + 4 * k) v) := by
  rcases (show k = 0 ∨ k = 1 ∨ k = 2 by omega) with rfl | rfl | rfl <;> rfl
theorem cW_op3 {h : Nat → Nat} {K : Nat → ClassId} {S : qS} (k : Nat) (hk : k < 3) (v : Int32) : (cW h K S).set (12 + k) (h (12 + k), .inr (2, [.int (S.1 (11 + 4 * k)), .int (S.1 (12 + 4 * k)), .int (S.1 (13 + 4 * k)), .int v])) = cW h K (pI S (14 + 4 * k) v) := by
  rcases (show k = 0 ∨ k = 1 ∨ k = 2 by omega) with rfl | rfl | rfl <;> rfl
theorem inb_lt {i : Int32} {n : Nat} (h : inb i n = true) : i.toNatClampNeg < n := Nat.not_le.mp fun q => inb_in h (Or.inr q)
section QO
variable {p : Program} {l : Launch} {e : Env} {R : Room} {s : State} {m : MethodId} {args : Array Value} {below : List Frame} {meth : Method} {c : Code} {H : Heap} {locs : List Loc} {cells slots : Nat} {Q : State → Prop}
variable {cc : ByteArray} {nL : Nat} {ret : Option FieldType} {own : String} {D : va_G} {A : Nat → Prop} {S : qS} {pc : Nat} {ls : Array Slot} {rest : List Value} {ad : Nat → Nat} {h : Nat → Nat} {K : Nat → ClassId}
theorem q_aald {n : Nat} (C : qC p s m args meth c cc nL ret own ad) (G : qG D qCl (cT K) A s (cW h K S) H locs) {i : Int32} (hin : inb i 3 = true) (hn : 12 + i.toNatClampNeg = n) (hdg : decode cc pc = .ok (.aaload, 1))
    (kk : W p l e R s m args below meth c H locs cells slots Q (F0 m (pc + 1) ls (.ref (h n) :: rest))) : W p l e R s m args below meth c H locs cells slots Q (F0 m pc ls (.int i :: .ref (h 11) :: rest)) := by
  subst hn
  exact va_aldq (f := fun j => some (h (12 + j))) C.1 C.2.1 G.1 G.2.1 11 7 rfl rfl (inb_in hin) hdg kk
end QO
end
section
/-! Texts of the shapes: length() and charAt() of them. -/
theorem qw_V {own : String} {index : Nat} {C : String} {y : MethodName} {cw : Cond} (h1 : Cond.methodLink own index y ∈ qw) (h2 : Cond.instanceMethod y ∈ qw) (h3 : Cond.selects C y y ∈ qw) (h4 : Cond.initialized C ∈ qw) (h5 : cw ∈ qw) : GoodIn qw (wsV own index C y (cw :: qw)) := qw_gl (fun w h => by simp only [List.mem_cons, List.not_mem_nil, or_false] at h; rcases h with rfl | rfl | rfl | rfl <;> assumption) (qw_gc h5)
theorem qw_S {own : String} {index : Nat} {y : MethodName} {cw : Cond} (h1 : Cond.methodLink own index y ∈ qw) (h2 : Cond.static y ∈ qw) (h4 : Cond.initialized y.cls ∈ qw) (h5 : cw ∈ qw) : GoodIn qw (va_wsS own index y (cw :: qw)) := qw_gl (fun w h => by simp only [List.mem_cons, List.not_mem_nil, or_false] at h; rcases h with rfl | rfl | rfl <;> assumption) (qw_gc h5)
def qlen : List Nat := [1, 2, 2, 1, 2, 2, 2, 1, 2, 1, 2, 3, 3, 2, 2, 1, 1, 2, 2, 3, 2, 3, 1, 0]
def qbyt : List (List Int32) := [[82], [82, 82], [82, 87], [87], [114, 119], [114, 87], [82, 119], [114], [114, 114], [77], [82, 77], [82, 82, 87], [114, 82, 87], [65, 87], [97, 87], [65], [97], [82, 100], [77, 100], [82, 77, 100], [82, 97], [114, 82, 97], [100], []]
def qZ (ad av : Nat → Nat) (A : Nat → Prop) (U : State) (H : Heap) : Prop := vk_S 24 qlen qbyt ad av A U H ∧ va_Z "java/lang/String" "COMPACT_STRINGS" "Z" (.int 1) A U H ∧ va_Zq "jdk/internal/util/Preconditions" "SIOOBE_FORMATTER" "Ljava/util/function/BiFunction;" A U H
theorem qZ_moved {ad av : Nat → Nat} {A : Nat → Prop} {u U : State} {H : Heap} (hvm : u.vm.Alike U.vm) (h : qZ ad av A u H) : qZ ad av A U H := ⟨h.1.moved hvm, h.2.1.moved hvm, h.2.2.moved hvm⟩
theorem qZ_kept {ad av : Nat → Nat} {A : Nat → Prop} {U : State} {H H1 : Heap} (h : qZ ad av A U H) (hq : ∀ a : Nat, a < H.size → ¬ A a → H1[a]? = H[a]?) : qZ ad av A U H1 := ⟨h.1.kept hq, h.2.1.kept hq, h.2.2.kept hq⟩
theorem qZ_narrow {ad av : Nat → Nat} {A B : Nat → Prop} {U : State} {H : Heap} (h : qZ ad av A U H) (hAB : ∀ q, B q → A q) : qZ ad av B U H := ⟨h.1.narrow hAB, h.2.1.narrow hAB, h.2.2.narrow hAB⟩
/-- the char at a place of a text -/
def schr (j : Nat) (i : Int32) : Int32 := ((((qbyt.getD j []).getD i.toNatClampNeg 0) &&& 255).toUInt32 % 65536).toInt32
def slen (j : Nat) : Int32 := nI (qlen.getD j 0)
def inbs (j : Nat) (i : Int32) : Bool := decide (j < 24) && inb i (qlen.getD j 0)
def ys_len : MethodName := ⟨"java/lang/String", "length", "()I"⟩
abbrev cs_len : ByteArray := prog_17_method_54_code
theorem qq_0 : Cond.code ys_len cs_len 1 (some .int) ∈ qw := qw_in 561 (by decide +kernel) (by decide +kernel)
theorem qq_1 : Cond.instanceMethod ys_len ∈ qw := qw_in 559 (by decide +kernel) (by decide +kernel)
theorem qq_2 : Cond.selects "java/lang/String" ys_len ys_len ∈ qw := qw_in 560 (by decide +kernel) (by decide +kernel)
theorem ys_len_d : ys_len.cls ≠ "java/lang/invoke/MethodHandle" ∧ ys_len.cls ≠ "java/lang/invoke/VarHandle" ∧ (parseMethodDescriptor ys_len.desc).map (fun d => d.parameters.length) = some 0 := by decide +kernel
def ys_cod : MethodName := ⟨"java/lang/String", "coder", "()B"⟩
abbrev cs_cod : ByteArray := prog_17_method_152_code
theorem qq_3 : Cond.code ys_cod cs_cod 1 (some .byte) ∈ qw := qw_in 565 (by decide +kernel) (by decide +kernel)
theorem qq_4 : Cond.instanceMethod ys_cod ∈ qw := qw_in 563 (by decide +kernel) (by decide +kernel)
theorem qq_5 : Cond.selects "java/lang/String" ys_cod ys_cod ∈ qw := qw_in 564 (by decide +kernel) (by decide +kernel)
theorem ys_cod_d : ys_cod.cls ≠ "java/lang/invoke/MethodHandle" ∧ ys_cod.cls ≠ "java/lang/invoke/VarHandle" ∧ (parseMethodDescriptor ys_cod.desc).map (fun d => d.parameters.length) = some 0 := by decide +kernel
def ys_cha : MethodName := ⟨"java/lang/String", "charAt", "(I)C"⟩
abbrev cs_cha : ByteArray := prog_17_method_56_code
theorem qq_6 : Cond.code ys_cha cs_cha 2 (some .char) ∈ qw := qw_in 571 (by decide +kernel) (by decide +kernel)
theorem qq_7 : Cond.instanceMethod ys_cha ∈ qw := qw_in 569 (by decide +kernel) (by decide +kernel)
theorem qq_8 : Cond.selects "java/lang/String" ys_cha ys_cha ∈ qw := qw_in 570 (by decide +kernel) (by decide +kernel)
theorem ys_cha_d : ys_cha.cls ≠ "java/lang/invoke/MethodHandle" ∧ ys_cha.cls ≠ "java/lang/invoke/VarHandle" ∧ (parseMethodDescriptor ys_cha.desc).map (fun d => d.parameters.length) = some 1 := by decide +kernel
def ys_lat : MethodName := ⟨"java/lang/String", "isLatin1", "()Z"⟩
abbrev cs_lat : ByteArray := prog_17_method_154_code
theorem qq_9 : Cond.code ys_lat cs_lat 1 (some .boolean) ∈ qw := qw_in 575 (by decide +kernel) (by decide +kernel)
theorem qq_10 : Cond.instanceMethod ys_lat ∈ qw := qw_in 573 (by decide +kernel) (by decide +kernel)
theorem qq_11 : Cond.selects "java/lang/String" ys_lat ys_lat ∈ qw := qw_in 574 (by decide +kernel) (by decide +kernel)
theorem ys_lat_d : ys_lat.cls ≠ "java/lang/invoke/MethodHandle" ∧ ys_lat.cls ≠ "java/lang/invoke/VarHandle" ∧ (parseMethodDescriptor ys_lat.desc).map (fun d => d.parameters.length) = some 0 := by decide +kernel
def ys_lch : MethodName := ⟨"java/lang/StringLatin1", "charAt", "([BI)C"⟩
abbrev cs_lch : ByteArray := prog_18_method_2_code
theorem qq_12 : Cond.code ys_lch cs_lch 2 (some .char) ∈ qw := qw_in 578 (by decide +kernel) (by decide +kernel)
theorem qq_13 : Cond.static ys_lch ∈ qw := qw_in 577 (by decide +kernel) (by decide +kernel)
theorem ys_lch_d : ys_lch.cls ≠ "java/lang/invoke/MethodHandle" ∧ ys_lch.cls ≠ "java/lang/invoke/VarHandle" ∧ (parseMethodDescriptor ys_lch.desc).map (fun d => d.parameters.length) = some 2 := by decide +kernel
def ys_chk : MethodName := ⟨"java/lang/String", "checkIndex", "(II)V"⟩
abbrev cs_chk : ByteArray := prog_17_method_155_code
theorem qq_14 : Cond.code ys_chk cs_chk 2 none ∈ qw := qw_in 581 (by decide +kernel) (by decide +kernel)
theorem qq_15 : Cond.static ys_chk ∈ qw := qw_in 580 (by decide +kernel) (by decide +kernel)
theorem ys_chk_d : ys_chk.cls ≠ "java/lang/invoke/MethodHandle" ∧ ys_chk.cls ≠ "java/lang/invoke/VarHandle" ∧ (parseMethodDescriptor ys_chk.desc).map (fun d => d.parameters.length) = some 2 := by decide +kernel
def ys_pre : MethodName := ⟨"jdk/internal/util/Preconditions", "checkIndex", "(IILjava/util/function/BiFunction;)I"⟩
abbrev cs_pre : ByteArray := prog_22_method_11_code
theorem qq_16 : Cond.code ys_pre cs_pre 3 (some .int) ∈ qw := qw_in 586 (by decide +kernel) (by decide +kernel)
theorem qq_17 : Cond.static ys_pre ∈ qw := qw_in 585 (by decide +kernel) (by decide +kernel)
theorem ys_pre_d : ys_pre.cls ≠ "java/lang/invoke/MethodHandle" ∧ ys_pre.cls ≠ "java/lang/invoke/VarHandle" ∧ (parseMethodDescriptor ys_pre.desc).map (fun d => d.parameters.length) = some 3 := by decide +kernel
theorem qq_18 : Cond.initialized "java/lang/String" ∈ qw := qw_in 78 (by decide +kernel) (by decide +kernel)
theorem qq_19 : Cond.initialized "java/lang/StringLatin1" ∈ qw := qw_in 79 (by decide +kernel) (by decide +kernel)
theorem qq_20 : Cond.initialized "jdk/internal/util/Preconditions" ∈ qw := qw_in 80 (by decide +kernel) (by decide +kernel)
theorem qq_21 : Cond.methodLink "java/lang/String" 335 ys_cod ∈ qw := qw_in 562 (by decide +kernel) (by decide +kernel)
theorem qq_22 : Cond.methodLink "java/lang/String" 492 ys_lat ∈ qw := qw_in 572 (by decide +kernel) (by decide +kernel)
theorem qq_23 : Cond.methodLink "java/lang/String" 495 ys_lch ∈ qw := qw_in 576 (by decide +kernel) (by decide +kernel)
theorem qq_24 : Cond.methodLink "java/lang/StringLatin1" 9 ys_chk ∈ qw := qw_in 579 (by decide +kernel) (by decide +kernel)
theorem qq_25 : Cond.methodLink "java/lang/String" 1059 ys_pre ∈ qw := qw_in 584 (by decide +kernel) (by decide +kernel)
theorem qq_26 : Cond.methodLink "QuadMode" 151 ys_len ∈ qw := qw_in 558 (by decide +kernel) (by decide +kernel)
theorem qq_27 : Cond.methodLink "QuadMode" 160 ys_cha ∈ qw := qw_in 568 (by decide +kernel) (by decide +kernel)
theorem qq_28 : Cond.fieldLink "java/lang/String" 9 "java/lang/String" "value" "[B" ∈ qw := qw_in 1102 (by decide +kernel) (by decide +kernel)
theorem qq_29 : Cond.fieldLink "java/lang/String" 15 "java/lang/String" "coder" "B" ∈ qw := qw_in 1103 (by decide +kernel) (by decide +kernel)
theorem qq_30 : Cond.fieldLink "java/lang/String" 38 "java/lang/String" "COMPACT_STRINGS" "Z" ∈ qw := qw_in 566 (by decide +kernel) (by decide +kernel)
theorem qq_31 : Cond.fieldLink "java/lang/String" 1053 "jdk/internal/util/Preconditions" "SIOOBE_FORMATTER" "Ljava/util/function/BiFunction;" ∈ qw := qw_in 582 (by decide +kernel) (by decide +kernel)
theorem ds_cod_0 : decode cs_cod 0 = .ok (.getstatic 38, 3) := by decide +kernel
theorem ds_cod_3 : decode cs_cod 3 = .ok (.ifCond .eq 10, 3) := by decide +kernel
theorem ds_cod_6 : decode cs_cod 6 = .ok (.aload_n 0, 1) := by decide +kernel
theorem ds_cod_7 : decode cs_cod 7 = .ok (.getfield 15, 3) := by decide +kernel
theorem ds_cod_10 : decode cs_cod 10 = .ok (.goto 4, 3) := by decide +kernel
theorem ds_cod_13 : decode cs_cod 13 = .ok (.iconst 1, 1) := by decide +kernel
theorem ds_cod_14 : decode cs_cod 14 = .ok (.ireturn, 1) := by decide +kernel
theorem ds_len_0 : decode cs_len 0 = .ok (.aload_n 0, 1) := by decide +kernel
theorem ds_len_1 : decode cs_len 1 = .ok (.getfield 9, 3) := by decide +kernel
theorem ds_len_4 : decode cs_len 4 = .ok (.arraylength, 1) := by decide +kernel
theorem ds_len_5 : decode cs_len 5 = .ok (.aload_n 0, 1) := by decide +kernel
theorem ds_len_6 : decode cs_len 6 = .ok (.invokevirtual 335, 3) := by decide +kernel
theorem ds_len_9 : decode cs_len 9 = .ok (.ishr, 1) := by decide +kernel
theorem ds_len_10 : decode cs_len 10 = .ok (.ireturn, 1) := by decide +kernel
theorem ds_lat_0 : decode cs_lat 0 = .ok (.getstatic 38, 3) := by decide +kernel
theorem ds_lat_3 : decode cs_lat 3 = .ok (.ifCond .eq 14, 3) := by decide +kernel
theorem ds_lat_6 : decode cs_lat 6 = .ok (.aload_n 0, 1) := by decide +kernel
theorem ds_lat_7 : decode cs_lat 7 = .ok (.getfield 15, 3) := by decide +kernel
theorem ds_lat_10 : decode cs_lat 10 = .ok (.ifCond .ne 7, 3) := by decide +kernel
theorem ds_lat_13 : decode cs_lat 13 = .ok (.iconst 1, 1) := by decide +kernel
theorem ds_lat_14 : decode cs_lat 14 = .ok (.goto 4, 3) := by decide +kernel
theorem ds_lat_17 : decode cs_lat 17 = .ok (.iconst 0, 1) := by decide +kernel
theorem ds_lat_18 : decode cs_lat 18 = .ok (.ireturn, 1) := by decide +kernel
theorem ds_pre_0 : decode cs_pre 0 = .ok (.iload_n 0, 1) := by decide +kernel
theorem ds_pre_1 : decode cs_pre 1 = .ok (.ifCond .lt 8, 3) := by decide +kernel
theorem ds_pre_4 : decode cs_pre 4 = .ok (.iload_n 0, 1) := by decide +kernel
theorem ds_pre_5 : decode cs_pre 5 = .ok (.iload_n 1, 1) := by decide +kernel
theorem ds_pre_6 : decode cs_pre 6 = .ok (.if_icmp .lt 10, 3) := by decide +kernel
theorem ds_pre_16 : decode cs_pre 16 = .ok (.iload_n 0, 1) := by decide +kernel
theorem ds_pre_17 : decode cs_pre 17 = .ok (.ireturn, 1) := by decide +kernel
theorem ds_chk_0 : decode cs_chk 0 = .ok (.iload_n 0, 1) := by decide +kernel
theorem ds_chk_1 : decode cs_chk 1 = .ok (.iload_n 1, 1) := by decide +kernel
theorem ds_chk_2 : decode cs_chk 2 = .ok (.getstatic 1053, 3) := by decide +kernel
theorem ds_chk_5 : decode cs_chk 5 = .ok (.invokestatic 1059, 3) := by decide +kernel
theorem ds_chk_8 : decode cs_chk 8 = .ok (.pop, 1) := by decide +kernel
theorem ds_chk_9 : decode cs_chk 9 = .ok (.return_, 1) := by decide +kernel
theorem ds_lch_0 : decode cs_lch 0 = .ok (.iload_n 1, 1) := by decide +kernel
theorem ds_lch_1 : decode cs_lch 1 = .ok (.aload_n 0, 1) := by decide +kernel
theorem ds_lch_2 : decode cs_lch 2 = .ok (.arraylength, 1) := by decide +kernel
theorem ds_lch_3 : decode cs_lch 3 = .ok (.invokestatic 9, 3) := by decide +kernel
theorem ds_lch_6 : decode cs_lch 6 = .ok (.aload_n 0, 1) := by decide +kernel
theorem ds_lch_7 : decode cs_lch 7 = .ok (.iload_n 1, 1) := by decide +kernel
theorem ds_lch_8 : decode cs_lch 8 = .ok (.baload, 1) := by decide +kernel
theorem ds_lch_9 : decode cs_lch 9 = .ok (.sipush 255, 3) := by decide +kernel
theorem ds_lch_12 : decode cs_lch 12 = .ok (.iand, 1) := by decide +kernel
theorem ds_lch_13 : decode cs_lch 13 = .ok (.i2c, 1) := by decide +kernel
theorem ds_lch_14 : decode cs_lch 14 = .ok (.ireturn, 1) := by decide +kernel
theorem ds_cha_0 : decode cs_cha 0 = .ok (.aload_n 0, 1) := by decide +kernel
theorem ds_cha_1 : decode cs_cha 1 = .ok (.invokevirtual 492, 3) := by decide +kernel
theorem ds_cha_4 : decode cs_cha 4 = .ok (.ifCond .eq 12, 3) := by decide +kernel
theorem ds_cha_7 : decode cs_cha 7 = .ok (.aload_n 0, 1) := by decide +kernel
theorem ds_cha_8 : decode cs_cha 8 = .ok (.getfield 9, 3) := by decide +kernel
theorem ds_cha_11 : decode cs_cha 11 = .ok (.iload_n 1, 1) := by decide +kernel
theorem ds_cha_12 : decode cs_cha 12 = .ok (.invokestatic 495, 3) := by decide +kernel
theorem ds_cha_15 : decode cs_cha 15 = .ok (.ireturn, 1) := by decide +kernel
set_option maxHeartbeats 4000000 in
set_option maxRecDepth 100000 in
theorem ks_cod (l : Launch) (ad av : Nat → Nat) (j : Nat) (hj : j < 24) : Met l ys_cod (.code ys_cod cs_cod 1 (some .byte) :: qw) ({ frames := 0, cells := 0, slots := 0, locals := 0 }) (va_Pc [.ref (ad j)] (fun U => qZ ad av (fun _ => False) U U.heap)) (vp_Si (fun r => r = 0)) 0 0 (fun _ => False) := by
  refine Met.ofW (cc := cs_cod) (maxL := 1) (ret := (some .byte)) (by decide) rfl ?_
  intro p e s m args below meth c s₁ B hml hv
  obtain ⟨rfl, hZ⟩ := hv
  have hx := B.exec
  have hb := B.bytes
  have hr := B.returns
  have hts : ∀ w ∈ qw, w.before _ s = true := fun w h => atoms_spec (ws := .code ys_cod cs_cod 1 (some .byte) :: qw) B.pre w (List.mem_cons_of_mem _ h)
  have hown : s.vm.findClass ys_cod.cls = some m.cls := findClass_of_methodNamed B.named
  have hlocks := B.notSynchronized
  have hS : va_S (fun _ => False) s.heap s.heap [] := va_S.rf
  have hl := lv_entry [.ref (ad j)] (n := 1) (Nat.le_of_ble_eq_true rfl)
  rw [lg_entry_eq]
  generalize (lg_sl [.ref (ad j)] ++ List.replicate (1 - (lg_sl [.ref (ad j)]).length) Slot.unset).toArray = ls at hl ⊢
  have hl : lv_has ls 1 [(0, .ref (ad j))] := hl
  refine va_gets hx hb hZ.2.1 hS hown (hts _ qq_30) (fun _ h => h) ds_cod_0 ?_
  refine lv_if_eq (tgt := 13) hx hb ds_cod_3 (by decide) (fun q => absurd q (by decide)) (fun _ => ?_)
  refine lv_aload_n hx hb ds_cod_6 rfl (lv_at hl 0 rfl) ?_
  refine vk_getf hx hb (hZ.1.1 j hj).2.1 hS hown (hts _ qq_29) (fun _ h => h) ds_cod_7 ?_
  refine lv_goto (tgt := 14) hx hb ds_cod_10 (by decide) ?_
  exact W.zret (v := 0) hx hb hr rfl (fun t ht hW => ⟨0, rfl, rfl, ht⟩) (fun q h => by cases h) ds_cod_14
set_option maxHeartbeats 4000000 in
set_option maxRecDepth 100000 in
theorem ks_lat (l : Launch) (ad av : Nat → Nat) (j : Nat) (hj : j < 24) : Met l ys_lat (.code ys_lat cs_lat 1 (some .boolean) :: qw) ({ frames := 0, cells := 0, slots := 0, locals := 0 }) (va_Pc [.ref (ad j)] (fun U => qZ ad av (fun _ => False) U U.heap)) (vp_Si (fun r => r = 1)) 0 0 (fun _ => False) := by
  refine Met.ofW (cc := cs_lat) (maxL := 1) (ret := (some .boolean)) (by decide) rfl ?_
  intro p e s m args below meth c s₁ B hml hv
  obtain ⟨rfl, hZ⟩ := hv
  have hx := B.exec
  have hb := B.bytes
  have hr := B.returns
  have hts : ∀ w ∈ qw, w.before _ s = true := fun w h => atoms_spec (ws := .code ys_lat cs_lat 1 (some .boolean) :: qw) B.pre w (List.mem_cons_of_mem _ h)
  have hown : s.vm.findClass ys_lat.cls = some m.cls := findClass_of_methodNamed B.named
  have hlocks := B.notSynchronized
  have hS : va_S (fun _ => False) s.heap s.heap [] := va_S.rf
  have hl := lv_entry [.ref (ad j)] (n := 1) (Nat.le_of_ble_eq_true rfl)
  rw [lg_entry_eq]
  generalize (lg_sl [.ref (ad j)] ++ List.replicate (1 - (lg_sl [.ref (ad j)]).length) Slot.unset).toArray = ls at hl ⊢
  have hl : lv_has ls 1 [(0, .ref (ad j))] := hl
  refine va_gets hx hb hZ.2.1 hS hown (hts _ qq_30) (fun _ h => h) ds_lat_0 ?_
  refine lv_if_eq (tgt := 17) hx hb ds_lat_3 (by decide) (fun q => absurd q (by decide)) (fun _ => ?_)
  refine lv_aload_n hx hb ds_lat_6 rfl (lv_at hl 0 rfl) ?_
  refine vk_getf hx hb (hZ.1.1 j hj).2.1 hS hown (hts _ qq_29) (fun _ h => h) ds_lat_7 ?_
  refine lv_if_ne (tgt := 17) hx hb ds_lat_10 (by decide) (fun q => absurd rfl q) (fun _ => ?_)
  refine lv_iconst (v := 1) hx hb ds_lat_13 (by decide) ?_
  refine lv_goto (tgt := 18) hx hb ds_lat_14 (by decide) ?_
  exact W.zret (v := 1) hx hb hr rfl (fun t ht hW => ⟨1, rfl, rfl, ht⟩) (fun q h => by cases h) ds_lat_18
set_option maxHeartbeats 4000000 in
set_option maxRecDepth 100000 in
theorem ks_len (l : Launch) (ad av : Nat → Nat) (j : Nat) (hj : j < 24) : Met l ys_len (.code ys_len cs_len 1 (some .int) :: qw) ({ frames := 1, cells := 0, slots := 0, locals := 20 }) (va_Pc [.ref (ad j)] (fun U => qZ ad av (fun _ => False) U U.heap)) (vp_Si (fun r => r = slen j)) 0 0 (fun _ => False) := by
  refine Met.ofW (cc := cs_len) (maxL := 1) (ret := (some .int)) (by decide) rfl ?_
  intro p e s m args below meth c s₁ B hml hv
  obtain ⟨rfl, hZ⟩ := hv
  have hx := B.exec
  have hb := B.bytes
  have hr := B.returns
  have hts : ∀ w ∈ qw, w.before _ s = true := fun w h => atoms_spec (ws := .code ys_len cs_len 1 (some .int) :: qw) B.pre w (List.mem_cons_of_mem _ h)
  have hown : s.vm.findClass ys_len.cls = some m.cls := findClass_of_methodNamed B.named
  have hlocks := B.notSynchronized
  have hS : va_S (fun _ => False) s.heap s.heap [] := va_S.rf
  have hl := lv_entry [.ref (ad j)] (n := 1) (Nat.le_of_ble_eq_true rfl)
  rw [lg_entry_eq]
  generalize (lg_sl [.ref (ad j)] ++ List.replicate (1 - (lg_sl [.ref (ad j)]).length) Slot.unset).toArray = ls at hl ⊢
  have hl : lv_has ls 1 [(0, .ref (ad j))] := hl
  refine lv_aload_n hx hb ds_len_0 rfl (lv_at hl 0 rfl) ?_
  refine vk_getf hx hb (hZ.1.1 j hj).2.2.1 hS hown (hts _ qq_28) (fun _ h => h) ds_len_1 ?_
  refine va_tlen hx hb (hZ.1.1 j hj).2.2.2 hS rfl ds_len_4 ?_
  refine lv_aload_n hx hb ds_len_5 rfl (lv_at hl 0 rfl) ?_
  have hG : GoodIn qw (wsV "java/lang/String" 335 "java/lang/String" ys_cod (.code ys_cod cs_cod 1 (some .byte) :: qw)) := qw_V qq_21 qq_4 qq_5 qq_18 qq_3
  refine vp_callSi (W.runV (As := []) (rest := [.int (Int32.ofNat (qlen.getD j 0))]) ⟨hx, hb, hml, hown, hts⟩ (ks_cod l ad av j hj) (cwV 0 hts hG rfl rfl rfl ⟨rfl, ys_cod_d⟩ ⟨by decide, by decide⟩) ⟨fun a U g mk q => ⟨q.1, qZ_moved (u := U) (U := U.calling g mk a) (Vm.Alike.refl U.vm) q.2⟩, vk_recv hZ.1 hj hS, fun U hU hW => ⟨rfl, by show qZ ad av _ U U.heap; rw [hU]; exact qZ_moved hW.alike hZ⟩⟩ rfl rfl hl.1 rfl (lv_room (Nat.le_of_ble_eq_true rfl)) ds_len_6 ⟨Nat.le_refl _, Nat.le_refl _⟩) (fun r hr0 => ?_)
  subst hr0
  refine lv_ishr hx hb ds_len_9 ?_
  have e0 : Int32.ofNat (qlen.getD j 0) >>> ((0 : Int32) &&& 31) = slen j := sb_shr0 _
  rw [e0]
  exact W.iret (v := slen j) hx hb hr (fun t ht hW => ⟨_, rfl, rfl, ht⟩) (fun q h => by cases h) ds_len_10
set_option maxHeartbeats 4000000 in
set_option maxRecDepth 100000 in
theorem ks_pre0 (l : Launch) (ad av : Nat → Nat) (i n : Int32) (h0 : ¬ i < 0) (h1 : i < n) : Met l ys_pre (.code ys_pre cs_pre 3 (some .int) :: qw) ({ frames := 0, cells := 0, slots := 0, locals := 0 }) (va_Pc [.int i, .int n, .null] (fun U => qZ ad av (fun _ => False) U U.heap)) (vp_Si (fun r => r = i)) 0 0 (fun _ => False) := by
  refine Met.ofW (cc := cs_pre) (maxL := 3) (ret := (some .int)) (by decide) rfl ?_
  intro p e s m args below meth c s₁ B hml hv
  obtain ⟨rfl, hZ⟩ := hv
  have hx := B.exec
  have hb := B.bytes
  have hr := B.returns
  have hts : ∀ w ∈ qw, w.before _ s = true := fun w h => atoms_spec (ws := .code ys_pre cs_pre 3 (some .int) :: qw) B.pre w (List.mem_cons_of_mem _ h)
  have hown : s.vm.findClass ys_pre.cls = some m.cls := findClass_of_methodNamed B.named
  have hlocks := B.notSynchronized
  have hS : va_S (fun _ => False) s.heap s.heap [] := va_S.rf
  have hl := lv_entry [.int i, .int n, .null] (n := 3) (Nat.le_of_ble_eq_true rfl)
  rw [lg_entry_eq]
  generalize (lg_sl [.int i, .int n, .null] ++ List.replicate (3 - (lg_sl [.int i, .int n, .null]).length) Slot.unset).toArray = ls at hl ⊢
  have hl : lv_has ls 3 [(0, .int i), (1, .int n), (2, .null)] := hl
  refine lv_iload_n hx hb ds_pre_0 rfl (lv_at hl 0 rfl) ?_
  refine lv_if_lt (tgt := 9) hx hb ds_pre_1 (by decide) (fun q => absurd q h0) (fun _ => ?_)
  refine lv_iload_n hx hb ds_pre_4 rfl (lv_at hl 0 rfl) ?_
  refine lv_iload_n hx hb ds_pre_5 rfl (lv_at hl 1 rfl) ?_
  refine lv_icmp_lt (tgt := 16) hx hb ds_pre_6 (by decide) (fun _ => ?_) (fun q => absurd h1 q)
  refine lv_iload_n hx hb ds_pre_16 rfl (lv_at hl 0 rfl) ?_
  exact W.iret (v := i) hx hb hr (fun t ht hW => ⟨_, rfl, rfl, ht⟩) (fun q h => by cases h) ds_pre_17
set_option maxHeartbeats 4000000 in
set_option maxRecDepth 100000 in
theorem ks_pre1 (l : Launch) (ad av : Nat → Nat) (i n : Int32) (a : Nat) (h0 : ¬ i < 0) (h1 : i < n) : Met l ys_pre (.code ys_pre cs_pre 3 (some .int) :: qw) ({ frames := 0, cells := 0, slots := 0, locals := 0 }) (va_Pc [.int i, .int n, .ref a] (fun U => qZ ad av (fun _ => False) U U.heap)) (vp_Si (fun r => r = i)) 0 0 (fun _ => False) := by
  refine Met.ofW (cc := cs_pre) (maxL := 3) (ret := (some .int)) (by decide) rfl ?_
  intro p e s m args below meth c s₁ B hml hv
  obtain ⟨rfl, hZ⟩ := hv
  have hx := B.exec
  have hb := B.bytes
  have hr := B.returns
  have hts : ∀ w ∈ qw, w.before _ s = true := fun w h => atoms_spec (ws := .code ys_pre cs_pre 3 (some .int) :: qw) B.pre w (List.mem_cons_of_mem _ h)
  have hown : s.vm.findClass ys_pre.cls = some m.cls := findClass_of_methodNamed B.named
  have hlocks := B.notSynchronized
  have hS : va_S (fun _ => False) s.heap s.heap [] := va_S.rf
  have hl := lv_entry [.int i, .int n, .ref a] (n := 3) (Nat.le_of_ble_eq_true rfl)
  rw [lg_entry_eq]
  generalize (lg_sl [.int i, .int n, .ref a] ++ List.replicate (3 - (lg_sl [.int i, .int n, .ref a]).length) Slot.unset).toArray = ls at hl ⊢
  have hl : lv_has ls 3 [(0, .int i), (1, .int n), (2, .ref a)] := hl
  refine lv_iload_n hx hb ds_pre_0 rfl (lv_at hl 0 rfl) ?_
  refine lv_if_lt (tgt := 9) hx hb ds_pre_1 (by decide) (fun q => absurd q h0) (fun _ => ?_)
  refine lv_iload_n hx hb ds_pre_4 rfl (lv_at hl 0 rfl) ?_
  refine lv_iload_n hx hb ds_pre_5 rfl (lv_at hl 1 rfl) ?_
  refine lv_icmp_lt (tgt := 16) hx hb ds_pre_6 (by decide) (fun _ => ?_) (fun q => absurd h1 q)
  refine lv_iload_n hx hb ds_pre_16 rfl (lv_at hl 0 rfl) ?_
  exact W.iret (v := i) hx hb hr (fun t ht hW => ⟨_, rfl, rfl, ht⟩) (fun q h => by cases h) ds_pre_17
set_option maxHeartbeats 4000000 in
set_option maxRecDepth 100000 in
theorem ks_chk (l : Launch) (ad av : Nat → Nat) (i n : Int32) (h0 : ¬ i < 0) (h1 : i < n) : Met l ys_chk (.code ys_chk cs_chk 2 none :: qw) ({ frames := 1, cells := 0, slots := 0, locals := 22 }) (va_Pc [.int i, .int n] (fun U => qZ ad av (fun _ => False) U U.heap)) (va_Sv (fun _ => True)) 0 0 (fun _ => False) := by
  refine Met.ofW (cc := cs_chk) (maxL := 2) (ret := none) (by decide) rfl ?_
  intro p e s m args below meth c s₁ B hml hv
  obtain ⟨rfl, hZ⟩ := hv
  have hx := B.exec
  have hb := B.bytes
  have hr := B.returns
  have hts : ∀ w ∈ qw, w.before _ s = true := fun w h => atoms_spec (ws := .code ys_chk cs_chk 2 none :: qw) B.pre w (List.mem_cons_of_mem _ h)
  have hown : s.vm.findClass ys_chk.cls = some m.cls := findClass_of_methodNamed B.named
  have hlocks := B.notSynchronized
  have hS : va_S (fun _ => False) s.heap s.heap [] := va_S.rf
  have hl := lv_entry [.int i, .int n] (n := 2) (Nat.le_of_ble_eq_true rfl)
  rw [lg_entry_eq]
  generalize (lg_sl [.int i, .int n] ++ List.replicate (2 - (lg_sl [.int i, .int n]).length) Slot.unset).toArray = ls at hl ⊢
  have hl : lv_has ls 2 [(0, .int i), (1, .int n)] := hl
  refine lv_iload_n hx hb ds_chk_0 rfl (lv_at hl 0 rfl) ?_
  refine lv_iload_n hx hb ds_chk_1 rfl (lv_at hl 1 rfl) ?_
  have hG : GoodIn qw (va_wsS "java/lang/String" 1059 ys_pre (.code ys_pre cs_pre 3 (some .int) :: qw)) := qw_S qq_25 qq_17 qq_20 qq_16
  have hbl : ∀ avx : List Value, FrameBlind (va_Pc avx (fun U => qZ ad av (fun _ => False) U U.heap)) := fun avx a U g mk q => ⟨q.1, qZ_moved (u := U) (U := U.calling g mk a) (Vm.Alike.refl U.vm) q.2⟩
  rcases hZ.2.2 with hq | ⟨t0, hq⟩
  · refine va_gets hx hb hq hS hown (hts _ qq_31) (fun _ h => h) ds_chk_2 ?_
    refine vp_callSi (W.runS (As := [.int i, .int n, .null]) (rest := []) ⟨hx, hb, hml, hown, hts⟩ (ks_pre0 l ad av i n h0 h1) (va_cwS 3 hts hG rfl rfl rfl ys_pre_d ⟨by decide, by decide⟩) ⟨hbl _, fun U hU hW => ⟨rfl, by show qZ ad av _ U U.heap; rw [hU]; exact qZ_moved hW.alike hZ⟩⟩ rfl rfl hl.1 rfl (lv_room (Nat.le_of_ble_eq_true rfl)) ds_chk_5 ⟨Nat.le_refl _, Nat.le_refl _⟩) (fun r hr0 => ?_)
    refine lv_pop hx hb ds_chk_8 rfl ?_
    exact W.vret hx hb hr (fun t ht hW => ⟨rfl, trivial, ht⟩) (fun q h => by cases h) ds_chk_9
  · refine va_gets hx hb hq hS hown (hts _ qq_31) (fun _ h => h) ds_chk_2 ?_
    refine vp_callSi (W.runS (As := [.int i, .int n, .ref t0]) (rest := []) ⟨hx, hb, hml, hown, hts⟩ (ks_pre1 l ad av i n t0 h0 h1) (va_cwS 3 hts hG rfl rfl rfl ys_pre_d ⟨by decide, by decide⟩) ⟨hbl _, fun U hU hW => ⟨rfl, by show qZ ad av _ U U.heap; rw [hU]; exact qZ_moved hW.alike hZ⟩⟩ rfl rfl hl.1 rfl (lv_room (Nat.le_of_ble_eq_true rfl)) ds_chk_5 ⟨Nat.le_refl _, Nat.le_refl _⟩) (fun r hr0 => ?_)
    refine lv_pop hx hb ds_chk_8 rfl ?_
    exact W.vret hx hb hr (fun t ht hW => ⟨rfl, trivial, ht⟩) (fun q h => by cases h) ds_chk_9
set_option maxHeartbeats 4000000 in
set_option maxRecDepth 100000 in
theorem ks_lch (l : Launch) (ad av : Nat → Nat) (j : Nat) (hj : j < 24) (i : Int32) (h0 : inb i (qlen.getD j 0) = true) (hn : qlen.getD j 0 < 2 ^ 31) : Met l ys_lch (.code ys_lch cs_lch 2 (some .char) :: qw) ({ frames := 2, cells := 0, slots := 0, locals := 43 }) (va_Pc [.ref (av j), .int i] (fun U => qZ ad av (fun _ => False) U U.heap)) (vp_Si (fun r => r = schr j i)) 0 0 (fun _ => False) := by
  refine Met.ofW (cc := cs_lch) (maxL := 2) (ret := (some .char)) (by decide) rfl ?_
  intro p e s m args below meth c s₁ B hml hv
  obtain ⟨rfl, hZ⟩ := hv
  have hx := B.exec
  have hb := B.bytes
  have hr := B.returns
  have hts : ∀ w ∈ qw, w.before _ s = true := fun w h => atoms_spec (ws := .code ys_lch cs_lch 2 (some .char) :: qw) B.pre w (List.mem_cons_of_mem _ h)
  have hown : s.vm.findClass ys_lch.cls = some m.cls := findClass_of_methodNamed B.named
  have hlocks := B.notSynchronized
  have hS : va_S (fun _ => False) s.heap s.heap [] := va_S.rf
  have hl := lv_entry [.ref (av j), .int i] (n := 2) (Nat.le_of_ble_eq_true rfl)
  rw [lg_entry_eq]
  generalize (lg_sl [.ref (av j), .int i] ++ List.replicate (2 - (lg_sl [.ref (av j), .int i]).length) Slot.unset).toArray = ls at hl ⊢
  have hl : lv_has ls 2 [(0, .ref (av j)), (1, .int i)] := hl
  obtain ⟨k, hk, rfl⟩ := vp_in_of (inb_in h0) hn
  refine lv_iload_n hx hb ds_lch_0 rfl (lv_at hl 1 rfl) ?_
  refine lv_aload_n hx hb ds_lch_1 rfl (lv_at hl 0 rfl) ?_
  refine va_tlen hx hb (hZ.1.1 j hj).2.2.2 hS rfl ds_lch_2 ?_
  have hG : GoodIn qw (va_wsS "java/lang/StringLatin1" 9 ys_chk (.code ys_chk cs_chk 2 none :: qw)) := qw_S qq_24 qq_15 qq_18 qq_14
  have hbl : ∀ avx : List Value, FrameBlind (va_Pc avx (fun U => qZ ad av (fun _ => False) U U.heap)) := fun avx a U g mk q => ⟨q.1, qZ_moved (u := U) (U := U.calling g mk a) (Vm.Alike.refl U.vm) q.2⟩
  refine va_csv (W.runS (As := [.int (nI k), .int (Int32.ofNat (qlen.getD j 0))]) (rest := []) ⟨hx, hb, hml, hown, hts⟩ (ks_chk l ad av (nI k) (Int32.ofNat (qlen.getD j 0)) (nI_pos (Nat.lt_trans hk hn)) (nI_lt hk hn)) (va_cwS 2 hts hG rfl rfl rfl ys_chk_d ⟨by decide, by decide⟩) ⟨hbl _, fun U hU hW => ⟨rfl, by show qZ ad av _ U U.heap; rw [hU]; exact qZ_moved hW.alike hZ⟩⟩ rfl rfl hl.1 rfl (lv_room (Nat.le_of_ble_eq_true rfl)) ds_lch_3 ⟨Nat.le_refl _, Nat.le_refl _⟩) (fun _ => ?_)
  refine lv_aload_n hx hb ds_lch_6 rfl (lv_at hl 0 rfl) ?_
  refine lv_iload_n hx hb ds_lch_7 rfl (lv_at hl 1 rfl) ?_
  refine va_tb hx hb (hZ.1.1 j hj).2.2.2 hS (inb_in h0) rfl ds_lch_8 ?_
  refine lv_sipush (v := 255) hx hb ds_lch_9 (by decide) ?_
  refine lv_iand hx hb ds_lch_12 ?_
  refine lv_i2c hx hb ds_lch_13 rfl ?_
  exact W.zret (v := schr j (nI k)) hx hb hr (pk_nc _) (fun t ht hW => ⟨_, rfl, rfl, ht⟩) (fun q h => by cases h) ds_lch_14
set_option maxHeartbeats 4000000 in
set_option maxRecDepth 100000 in
theorem ks_cha (l : Launch) (ad av : Nat → Nat) (j : Nat) (hj : j < 24) (i : Int32) (h0 : inb i (qlen.getD j 0) = true) (hn : qlen.getD j 0 < 2 ^ 31) : Met l ys_cha (.code ys_cha cs_cha 2 (some .char) :: qw) ({ frames := 3, cells := 0, slots := 0, locals := 64 }) (va_Pc [.ref (ad j), .int i] (fun U => qZ ad av (fun _ => False) U U.heap)) (vp_Si (fun r => r = schr j i)) 0 0 (fun _ => False) := by
  refine Met.ofW (cc := cs_cha) (maxL := 2) (ret := (some .char)) (by decide) rfl ?_
  intro p e s m args below meth c s₁ B hml hv
  obtain ⟨rfl, hZ⟩ := hv
  have hx := B.exec
  have hb := B.bytes
  have hr := B.returns
  have hts : ∀ w ∈ qw, w.before _ s = true := fun w h => atoms_spec (ws := .code ys_cha cs_cha 2 (some .char) :: qw) B.pre w (List.mem_cons_of_mem _ h)
  have hown : s.vm.findClass ys_cha.cls = some m.cls := findClass_of_methodNamed B.named
  have hlocks := B.notSynchronized
  have hS : va_S (fun _ => False) s.heap s.heap [] := va_S.rf
  have hl := lv_entry [.ref (ad j), .int i] (n := 2) (Nat.le_of_ble_eq_true rfl)
  rw [lg_entry_eq]
  generalize (lg_sl [.ref (ad j), .int i] ++ List.replicate (2 - (lg_sl [.ref (ad j), .int i]).length) Slot.unset).toArray = ls at hl ⊢
  have hl : lv_has ls 2 [(0, .ref (ad j)), (1, .int i)] := hl
  have hbl : ∀ avx : List Value, FrameBlind (va_Pc avx (fun U => qZ ad av (fun _ => False) U U.heap)) := fun avx a U g mk q => ⟨q.1, qZ_moved (u := U) (U := U.calling g mk a) (Vm.Alike.refl U.vm) q.2⟩
  refine lv_aload_n hx hb ds_cha_0 rfl (lv_at hl 0 rfl) ?_
  have hG : GoodIn qw (wsV "java/lang/String" 492 "java/lang/String" ys_lat (.code ys_lat cs_lat 1 (some .boolean) :: qw)) := qw_V qq_22 qq_10 qq_11 qq_18 qq_9
  refine vp_callSi (W.runV (As := []) (rest := []) ⟨hx, hb, hml, hown, hts⟩ (ks_lat l ad av j hj) (cwV 0 hts hG rfl rfl rfl ⟨rfl, ys_lat_d⟩ ⟨by decide, by decide⟩) ⟨hbl _, vk_recv hZ.1 hj hS, fun U hU hW => ⟨rfl, by show qZ ad av _ U U.heap; rw [hU]; exact qZ_moved hW.alike hZ⟩⟩ rfl rfl hl.1 rfl (lv_room (Nat.le_of_ble_eq_true rfl)) ds_cha_1 ⟨Nat.le_refl _, Nat.le_refl _⟩) (fun r hr0 => ?_)
  subst hr0
  refine lv_if_eq (tgt := 16) hx hb ds_cha_4 (by decide) (fun q => absurd q (by decide)) (fun _ => ?_)
  refine lv_aload_n hx hb ds_cha_7 rfl (lv_at hl 0 rfl) ?_
  refine vk_getf hx hb (hZ.1.1 j hj).2.2.1 hS hown (hts _ qq_28) (fun _ h => h) ds_cha_8 ?_
  refine lv_iload_n hx hb ds_cha_11 rfl (lv_at hl 1 rfl) ?_
  have hG2 : GoodIn qw (va_wsS "java/lang/String" 495 ys_lch (.code ys_lch cs_lch 2 (some .char) :: qw)) := qw_S qq_23 qq_13 qq_19 qq_12
  refine vp_callSi (W.runS (As := [.ref (av j), .int i]) (rest := []) ⟨hx, hb, hml, hown, hts⟩ (ks_lch l ad av j hj i h0 hn) (va_cwS 2 hts hG2 rfl rfl rfl ys_lch_d ⟨by decide, by decide⟩) ⟨hbl _, fun U hU hW => ⟨rfl, by show qZ ad av _ U U.heap; rw [hU]; exact qZ_moved hW.alike hZ⟩⟩ rfl rfl hl.1 rfl (lv_room (Nat.le_of_ble_eq_true rfl)) ds_cha_12 ⟨Nat.le_refl _, Nat.le_refl _⟩) (fun r hr0 => ?_)
  subst hr0
  exact W.zret (v := schr j i) hx hb hr (pk_nc _) (fun t ht hW => ⟨_, rfl, rfl, ht⟩) (fun q h => by cases h) ds_cha_15
theorem qlen_s : ∀ j, j < 24 → qlen.getD j 0 < 2 ^ 31 := by decide +kernel
section QT
variable {p : Program} {l : Launch} {e : Env} {R : Room} {s : State} {m : MethodId} {args : Array Value} {below : List Frame} {meth : Method} {c : Code} {H : Heap} {locs : List Loc} {cells slots : Nat} {Q : State → Prop}
variable {cc : ByteArray} {nL : Nat} {ret : Option FieldType} {own : String} {D : va_G} {cl : List vw_C} {tys : List (ClassId × FieldType)} {wf : qS → va_W} {A : Nat → Prop} {S : qS} {pc : Nat} {ls : Array Slot} {rest : List Value} {ad av : Nat → Nat}
theorem q_slen {j : Nat} (C : qC p s m args meth c cc nL ret "QuadMode" ad) (Z : qZ ad av A s s.heap) (G : qG D cl tys A s (wf S) H locs) (hls : ls.size = nL) (hj : decide (j < 24) = true) (hR : 2 ≤ R.frames ∧ 40 ≤ R.locals) (hcr : cells ≤ R.cells ∧ slots ≤ R.slots) (h8 : (rest.map fun v => v.category).sum ≤ 8) (hdg : decode cc pc = .ok (.invokevirtual 151, 3))
    (kk : W p l e R s m args below meth c H locs cells slots Q (F0 m (pc + 3) ls (.int (slen j) :: rest))) : W p l e R s m args below meth c H locs cells slots Q (F0 m pc ls (.ref (ad j) :: rest)) := by
  have hj := of_decide_eq_true hj
  have hZ : qZ ad av (fun _ => False) s H := qZ_narrow (qZ_kept Z G.2.2.2.1.2.1) (fun _ h => h.elim)
  have hG : GoodIn qw (wsV "QuadMode" 151 "java/lang/String" ys_len (.code ys_len cs_len 1 (some .int) :: qw)) := qw_V qq_26 qq_1 qq_2 qq_18 qq_0
  refine vp_callSi (W.runV (As := []) (rest := rest) ⟨C.1, C.2.1, C.2.2.1, C.2.2.2.1, C.2.2.2.2.1⟩ (ks_len l ad av j hj) (cwV 0 C.2.2.2.2.1 hG rfl rfl rfl ⟨rfl, ys_len_d⟩ ⟨hR.1, hR.2⟩) ⟨fun a U g mk q => ⟨q.1, qZ_moved (u := U) (U := U.calling g mk a) (Vm.Alike.refl U.vm) q.2⟩, vk_recv Z.1 hj G.2.2.2.1, fun U hU hW => ⟨rfl, by show qZ ad av _ U U.heap; rw [hU]; exact qZ_moved hW.alike hZ⟩⟩ rfl rfl hls rfl (lv_room h8) hdg hcr) (fun r hr0 => ?_)
  subst hr0
  exact kk
theorem q_schr {j : Nat} {i : Int32} (C : qC p s m args meth c cc nL ret "QuadMode" ad) (Z : qZ ad av A s s.heap) (G : qG D cl tys A s (wf S) H locs) (hls : ls.size = nL) (hi : inbs j i = true) (hR : 4 ≤ R.frames ∧ 85 ≤ R.locals) (hcr : cells ≤ R.cells ∧ slots ≤ R.slots) (h8 : (rest.map fun v => v.category).sum ≤ 8) (hdg : decode cc pc = .ok (.invokevirtual 160, 3))
    (kk : W p l e R s m args below meth c H locs cells slots Q (F0 m (pc + 3) ls (.int (schr j i) :: rest))) : W p l e R s m args below meth c H locs cells slots Q (F0 m pc ls (.int i :: .ref (ad j) :: rest)) := by
  rw [inbs, Bool.and_eq_true, decide_eq_true_eq] at hi
  obtain ⟨hj, hi⟩ := hi
  have hZ : qZ ad av (fun _ => False) s H := qZ_narrow (qZ_kept Z G.2.2.2.1.2.1) (fun _ h => h.elim)
  have hG : GoodIn qw (wsV "QuadMode" 160 "java/lang/String" ys_cha (.code ys_cha cs_cha 2 (some .char) :: qw)) := qw_V qq_27 qq_7 qq_8 qq_18 qq_6
  refine vp_callSi (W.runV (As := [.int i]) (rest := rest) ⟨C.1, C.2.1, C.2.2.1, C.2.2.2.1, C.2.2.2.2.1⟩ (ks_cha l ad av j hj i hi (qlen_s j hj)) (cwV 1 C.2.2.2.2.1 hG rfl rfl rfl ⟨rfl, ys_cha_d⟩ ⟨hR.1, hR.2⟩) ⟨fun a U g mk q => ⟨q.1, qZ_moved (u := U) (U := U.calling g mk a) (Vm.Alike.refl U.vm) q.2⟩, vk_recv Z.1 hj G.2.2.2.1, fun U hU hW => ⟨rfl, by show qZ ad av _ U U.heap; rw [hU]; exact qZ_moved hW.alike hZ⟩⟩ rfl rfl hls rfl (lv_room h8) hdg hcr) (fun r hr0 => ?_)
  subst hr0
  exact kk
/-- a call that answers a text -/
theorem q_callVs {index nL' fr lo n q0 ci : Nat} {y : MethodName} {cc' : ByteArray} {b : Nat} {fs : List Value} {As st : List Value} {res : Nat × qS} {q : vw_C} (C : qC p s m args meth c cc nL ret own ad) (G : qG D cl tys A s (wf S) H locs) (hls : ls.size = nL) (hM : qMs l y cc' nL' fr lo D cl tys ad wf (.ref b :: As) S res)
    (hw : Cond.methodLink own index y ∈ qw ∧ Cond.instanceMethod y ∈ qw ∧ Cond.selects y.cls y y ∈ qw ∧ Cond.initialized y.cls ∈ qw ∧ Cond.code y cc' nL' (some (.object "java/lang/String")) ∈ qw) (hd : y.cls ≠ "java/lang/invoke/MethodHandle" ∧ y.cls ≠ "java/lang/invoke/VarHandle" ∧ (parseMethodDescriptor y.desc).map (fun d => d.parameters.length) = some n)
    (hR : fr + 1 ≤ R.frames ∧ 8 + (nL' + 11) + lo ≤ R.locals) (hcr : cells ≤ R.cells ∧ slots ≤ R.slots) (hc : cl[ci]? = some q) (hq : q.1 = y.cls) (he : (wf S)[q0]? = some (b, .inr (ci, fs))) (hn : As.length = n) (hst : st = As.reverse ++ .ref b :: rest) (h8 : (rest.map fun v => v.category).sum ≤ 8) (hdg : decode cc pc = .ok (.invokevirtual index, 3))
    (kk : ∀ (H1 : Heap) (locs1 : List Loc), qG D cl tys A s (wf res.2) H1 locs1 → W p l e R s m args below meth c H1 locs1 cells slots Q (F0 m (pc + 3) ls (.ref (ad res.1) :: rest))) : W p l e R s m args below meth c H locs cells slots Q (F0 m pc ls st) := by
  obtain ⟨hx, hb, hml, hown, hts, -, -, hN⟩ := C
  obtain ⟨hK, hP, hD, hS, hA⟩ := G
  have hFc : ∀ z, va_A (wf S) H.size z → A z := fun z hz => by
    rcases hz with ⟨k, e, h⟩ | h
    · exact hD.2 k _ h
    · exact hA z (Nat.le_trans hS.1 h)
  have hrc := va_recv hK hP hc he
  rw [hq] at hrc
  refine va_callr (va_runV (As := As) (rest := rest) ⟨hx, hb, hml, hown, hts⟩ (hM H.size) (cwV n hts (qw_V hw.1 hw.2.1 hw.2.2.1 hw.2.2.2.1 hw.2.2.2.2) rfl rfl rfl ⟨rfl, hd⟩ hR) ⟨qP_blind, hrc, fun U hU hW => ⟨rfl, by rw [hU], by rw [hU]; exact hP, va_K.moved hW.alike hK, hD.weaken (fun _ _ _ _ => trivial), qN_warm hW hN⟩⟩ rfl hn hls hst (lv_room h8) hdg hcr) hS (fun z _ h => hFc z h) hFc (fun u a9 t H1 locs1 ht hvm hpost hB hz1 hk1 hS1 => ?_)
  cases hpost
  obtain ⟨rfl, hP1, hK1, hD1⟩ := hB
  rw [ht] at hP1
  exact kk H1 locs1 ⟨hK, hP1, ⟨hD1.1, fun k z hz => hFc _ (hD1.2 k z hz)⟩, hS1, hA⟩
end QT
/-- contracts of methods that read the texts -/
def qPz (D : va_G) (cl : List vw_C) (tys : List (ClassId × FieldType)) (ad av : Nat → Nat) (ws : va_W) (sz : Nat) (U : State) : Prop := qP D cl tys ad ws sz U ∧ qZ ad av (va_A ws sz) U U.heap
def qMiZ (l : Launch) (y : MethodName) (cc : ByteArray) (nL : Nat) (ty : FieldType) (fr lo : Nat) (D : va_G) (cl : List vw_C) (tys : List (ClassId × FieldType)) (ad av : Nat → Nat) (wf : qS → va_W) (avs : List Value) (S : qS) (res : Int32 × qS) : Prop :=
  ∀ sz : Nat, Met l y (.code y cc nL (some ty) :: qw) ({ frames := fr, cells := 0, slots := 0, locals := lo }) (va_Pc avs (qPz D cl tys ad av (wf S) sz)) (qQi D cl tys wf (va_A (wf S) sz) res) 0 0 (va_A (wf S) sz)
def qMvZ (l : Launch) (y : MethodName) (cc : ByteArray) (nL : Nat) (fr lo : Nat) (D : va_G) (cl : List vw_C) (tys : List (ClassId × FieldType)) (ad av : Nat → Nat) (wf : qS → va_W) (avs : List Value) (S : qS) (res : qS) : Prop :=
  ∀ sz : Nat, Met l y (.code y cc nL none :: qw) ({ frames := fr, cells := 0, slots := 0, locals := lo }) (va_Pc avs (qPz D cl tys ad av (wf S) sz)) (qQv D cl tys wf (va_A (wf S) sz) res) 0 0 (va_A (wf S) sz)
theorem qPz_blind {D : va_G} {cl : List vw_C} {tys : List (ClassId × FieldType)} {ad av : Nat → Nat} {ws : va_W} {sz : Nat} {avs : List Value} : FrameBlind (va_Pc avs (qPz D cl tys ad av ws sz)) := fun a U g mk q =>
  ⟨q.1, (qP_blind (av := avs) a U g mk ⟨q.1, q.2.1⟩).2, qZ_moved (u := U) (U := U.calling g mk a) (Vm.Alike.refl U.vm) q.2.2⟩
section QV
variable {D : va_G} {cl : List vw_C} {tys : List (ClassId × FieldType)} {wf : qS → va_W} {A : Nat → Prop} {ad av : Nat → Nat}
theorem qMiZ_of {l : Launch} {y : MethodName} {cc : ByteArray} {nL fr lo : Nat} {ty : FieldType} {avs : List Value} {S : qS} {res : Int32 × qS} (hy : plainName y.cls = true) (hn : (lg_sl avs).length ≤ nL)
    (h : ∀ (p : Program) (e : Env) (s : State) (m : MethodId) (args : Array Value) (below : List Frame) (meth : Method) (c : Code) (A : Nat → Prop) (ls : Array Slot), qC p s m args meth c cc nL (some ty) y.cls ad → qZ ad av A s s.heap → qG D cl tys A s (wf S) s.heap [] → lv_has ls nL (lv_args 0 avs) →
      W p l e ({ frames := fr, cells := 0, slots := 0, locals := lo }) s m args below meth c s.heap [] 0 0 (MQ below (qQi D cl tys wf A res) args s 0 0 A) (F0 m 0 ls [])) : qMiZ l y cc nL ty fr lo D cl tys ad av wf avs S res := by
  intro sz
  refine Met.ofW (cc := cc) (maxL := nL) (ret := some ty) hy rfl ?_
  intro p e s m args below meth c s₁ B hml hv
  obtain ⟨rfl, ⟨hsz, hP, hK, hD0, hN⟩, hZ⟩ := hv
  have hts := atoms_spec (ws := .code y cc nL (some ty) :: qw) B.pre
  have hown : s.vm.findClass y.cls = some m.cls := findClass_of_methodNamed B.named
  subst hsz
  have hl := lv_entry avs (n := nL) hn
  rw [lg_entry_eq]
  exact h p e s m avs.toArray below meth c _ _ ⟨B.exec, B.bytes, hml, hown, fun w hw => hts w (List.mem_cons_of_mem _ hw), B.returns, B.notSynchronized, hN⟩ hZ ⟨hK, hP, hD0.self, va_S.rf, fun q h => Or.inr h⟩ hl
theorem qMvZ_of {l : Launch} {y : MethodName} {cc : ByteArray} {nL fr lo : Nat} {avs : List Value} {S : qS} {res : qS} (hy : plainName y.cls = true) (hn : (lg_sl avs).length ≤ nL)
    (h : ∀ (p : Program) (e : Env) (s : State) (m : MethodId) (args : Array Value) (below : List Frame) (meth : Method) (c : Code) (A : Nat → Prop) (ls : Array Slot), qC p s m args meth c cc nL none y.cls ad → qZ ad av A s s.heap → qG D cl tys A s (wf S) s.heap [] → lv_has ls nL (lv_args 0 avs) →
      W p l e ({ frames := fr, cells := 0, slots := 0, locals := lo }) s m args below meth c s.heap [] 0 0 (MQ below (qQv D cl tys wf A res) args s 0 0 A) (F0 m 0 ls [])) : qMvZ l y cc nL fr lo D cl tys ad av wf avs S res := by
  intro sz
  refine Met.ofW (cc := cc) (maxL := nL) (ret := none) hy rfl ?_
  intro p e s m args below meth c s₁ B hml hv
  obtain ⟨rfl, ⟨hsz, hP, hK, hD0, hN⟩, hZ⟩ := hv
  have hts := atoms_spec (ws := .code y cc nL none :: qw) B.pre
  have hown : s.vm.findClass y.cls = some m.cls := findClass_of_methodNamed B.named
  subst hsz
  have hl := lv_entry avs (n := nL) hn
  rw [lg_entry_eq]
  exact h p e s m avs.toArray below meth c _ _ ⟨B.exec, B.bytes, hml, hown, fun w hw => hts w (List.mem_cons_of_mem _ hw), B.returns, B.notSynchronized, hN⟩ hZ ⟨hK, hP, hD0.self, va_S.rf, fun q h => Or.inr h⟩ hl
end QV
section QU
variable {p : Program} {l : Launch} {e : Env} {R : Room} {s : State} {m : MethodId} {args : Array Value} {below : List Frame} {meth : Method} {c : Code} {H : Heap} {locs : List Loc} {cells slots : Nat} {Q : State → Prop}
variable {cc : ByteArray} {nL : Nat} {ret : Option FieldType} {own : String} {D : va_G} {cl : List vw_C} {tys : List (ClassId × FieldType)} {wf : qS → va_W} {A : Nat → Prop} {S : qS} {pc : Nat} {ls : Array Slot} {rest : List Value} {ad av : Nat → Nat}
theorem q_callVvZ {index nL' fr lo n q0 ci : Nat} {y : MethodName} {cc' : ByteArray} {b : Nat} {fs : List Value} {As st : List Value} {S' : qS} {q : vw_C} (C : qC p s m args meth c cc nL ret own ad) (Z : qZ ad av A s s.heap) (G : qG D cl tys A s (wf S) H locs) (hls : ls.size = nL) (hM : qMvZ l y cc' nL' fr lo D cl tys ad av wf (.ref b :: As) S S')
    (hw : Cond.methodLink own index y ∈ qw ∧ Cond.instanceMethod y ∈ qw ∧ Cond.selects y.cls y y ∈ qw ∧ Cond.initialized y.cls ∈ qw ∧ Cond.code y cc' nL' none ∈ qw) (hd : y.cls ≠ "java/lang/invoke/MethodHandle" ∧ y.cls ≠ "java/lang/invoke/VarHandle" ∧ (parseMethodDescriptor y.desc).map (fun d => d.parameters.length) = some n)
    (hR : fr + 1 ≤ R.frames ∧ 8 + (nL' + 11) + lo ≤ R.locals) (hcr : cells ≤ R.cells ∧ slots ≤ R.slots) (hc : cl[ci]? = some q) (hq : q.1 = y.cls) (he : (wf S)[q0]? = some (b, .inr (ci, fs))) (hn : As.length = n) (hst : st = As.reverse ++ .ref b :: rest) (h8 : (rest.map fun v => v.category).sum ≤ 8) (hdg : decode cc pc = .ok (.invokevirtual index, 3))
    (kk : ∀ (H1 : Heap) (locs1 : List Loc), qG D cl tys A s (wf S') H1 locs1 → W p l e R s m args below meth c H1 locs1 cells slots Q (F0 m (pc + 3) ls rest)) : W p l e R s m args below meth c H locs cells slots Q (F0 m pc ls st) := by
  obtain ⟨hx, hb, hml, hown, hts, -, -, hN⟩ := C
  obtain ⟨hK, hP, hD, hS, hA⟩ := G
  have hFc : ∀ z, va_A (wf S) H.size z → A z := fun z hz => by
    rcases hz with ⟨k, e, h⟩ | h
    · exact hD.2 k _ h
    · exact hA z (Nat.le_trans hS.1 h)
  have hZ : qZ ad av (va_A (wf S) H.size) s H := qZ_narrow (qZ_kept Z hS.2.1) hFc
  have hrc := va_recv hK hP hc he
  rw [hq] at hrc
  refine va_callv (va_runV (As := As) (rest := rest) ⟨hx, hb, hml, hown, hts⟩ (hM H.size) (cwV n hts (qw_V hw.1 hw.2.1 hw.2.2.1 hw.2.2.2.1 hw.2.2.2.2) rfl rfl rfl ⟨rfl, hd⟩ hR) ⟨qPz_blind, hrc, fun U hU hW => ⟨rfl, ⟨by rw [hU], by rw [hU]; exact hP, va_K.moved hW.alike hK, hD.weaken (fun _ _ _ _ => trivial), qN_warm hW hN⟩, by rw [hU]; exact qZ_moved hW.alike hZ⟩⟩ rfl hn hls hst (lv_room h8) hdg hcr) hS (fun z _ h => hFc z h) hFc (fun u t H1 locs1 ht hvm hpost hB hz1 hk1 hS1 => ?_)
  cases hpost
  obtain ⟨hP1, hK1, hD1⟩ := hB
  rw [ht] at hP1
  exact kk H1 locs1 ⟨hK, hP1, ⟨hD1.1, fun k z hz => hFc _ (hD1.2 k z hz)⟩, hS1, hA⟩
end QU
end
