section
-- ===== PART A: goes FIRST, ahead of the names: the tables' words, and 'selects' of the private methods out of them =====
/-- a private method of a class that the tables say can be made, by its rows of tables_1 -/
def lw_okq (q : MethodName × Nat) : Prop := (q.1.cls ≠ "java/lang/invoke/MethodHandle" ∧ q.1.cls ≠ "java/lang/invoke/VarHandle") ∧ Cond.instantiable q.1.cls q.2 ∈ tables_1 ∧ Cond.privateMethod q.1 ∈ tables_1 ∧ Cond.instanceMethod q.1 ∈ tables_1
theorem lw_p0 : lw_okq (⟨"java/lang/Throwable", "fillInStackTrace", "(I)Ljava/lang/Throwable;"⟩, 6) := ⟨⟨by decide +kernel, by decide +kernel⟩, List.mem_of_getElem? (i := 274) (by decide +kernel), List.mem_of_getElem? (i := 272) (by decide +kernel), List.mem_of_getElem? (i := 273) (by decide +kernel)⟩
theorem lw_p1 : lw_okq (⟨"QuadMode", "step", "()V"⟩, 11) := ⟨⟨by decide +kernel, by decide +kernel⟩, List.mem_of_getElem? (i := 23) (by decide +kernel), List.mem_of_getElem? (i := 400) (by decide +kernel), List.mem_of_getElem? (i := 401) (by decide +kernel)⟩
theorem lw_p2 : lw_okq (⟨"QuadMode$Pages", "isThere", "(II)Z"⟩, 3) := ⟨⟨by decide +kernel, by decide +kernel⟩, List.mem_of_getElem? (i := 42) (by decide +kernel), List.mem_of_getElem? (i := 428) (by decide +kernel), List.mem_of_getElem? (i := 429) (by decide +kernel)⟩
theorem lw_p3 : lw_okq (⟨"QuadMode$Specifiers", "addressBy", "(III)I"⟩, 1) := ⟨⟨by decide +kernel, by decide +kernel⟩, List.mem_of_getElem? (i := 141) (by decide +kernel), List.mem_of_getElem? (i := 564) (by decide +kernel), List.mem_of_getElem? (i := 565) (by decide +kernel)⟩
theorem lw_p4 : lw_okq (⟨"QuadMode$Codes", "leaveException", "()V"⟩, 4) := ⟨⟨by decide +kernel, by decide +kernel⟩, List.mem_of_getElem? (i := 151) (by decide +kernel), List.mem_of_getElem? (i := 577) (by decide +kernel), List.mem_of_getElem? (i := 578) (by decide +kernel)⟩
theorem lw_p5 : lw_okq (⟨"QuadMode$Codes", "leaveFrame", "()V"⟩, 4) := ⟨⟨by decide +kernel, by decide +kernel⟩, List.mem_of_getElem? (i := 151) (by decide +kernel), List.mem_of_getElem? (i := 588) (by decide +kernel), List.mem_of_getElem? (i := 589) (by decide +kernel)⟩
theorem lw_p6 : lw_okq (⟨"QuadMode$Codes", "giveInner", "(II)V"⟩, 4) := ⟨⟨by decide +kernel, by decide +kernel⟩, List.mem_of_getElem? (i := 151) (by decide +kernel), List.mem_of_getElem? (i := 595) (by decide +kernel), List.mem_of_getElem? (i := 596) (by decide +kernel)⟩
theorem lw_p7 : lw_okq (⟨"QuadMode$Codes", "takeInner", "(I)V"⟩, 4) := ⟨⟨by decide +kernel, by decide +kernel⟩, List.mem_of_getElem? (i := 151) (by decide +kernel), List.mem_of_getElem? (i := 601) (by decide +kernel), List.mem_of_getElem? (i := 602) (by decide +kernel)⟩
theorem lw_p8 : lw_okq (⟨"QuadMode$Codes", "store", "(LQuadMode$Operand;I)V"⟩, 4) := ⟨⟨by decide +kernel, by decide +kernel⟩, List.mem_of_getElem? (i := 151) (by decide +kernel), List.mem_of_getElem? (i := 614) (by decide +kernel), List.mem_of_getElem? (i := 615) (by decide +kernel)⟩
theorem lw_p9 : lw_okq (⟨"QuadMode$Codes", "shift", "(II)V"⟩, 4) := ⟨⟨by decide +kernel, by decide +kernel⟩, List.mem_of_getElem? (i := 151) (by decide +kernel), List.mem_of_getElem? (i := 629) (by decide +kernel), List.mem_of_getElem? (i := 630) (by decide +kernel)⟩
theorem lw_p10 : lw_okq (⟨"QuadMode$Codes", "enterFrame", "()V"⟩, 4) := ⟨⟨by decide +kernel, by decide +kernel⟩, List.mem_of_getElem? (i := 151) (by decide +kernel), List.mem_of_getElem? (i := 636) (by decide +kernel), List.mem_of_getElem? (i := 637) (by decide +kernel)⟩
theorem lw_p11 : lw_okq (⟨"QuadMode$Codes", "probe", "(Z)V"⟩, 4) := ⟨⟨by decide +kernel, by decide +kernel⟩, List.mem_of_getElem? (i := 151) (by decide +kernel), List.mem_of_getElem? (i := 648) (by decide +kernel), List.mem_of_getElem? (i := 649) (by decide +kernel)⟩
theorem lw_p12 : lw_okq (⟨"QuadMode$Codes", "move", "(I)V"⟩, 4) := ⟨⟨by decide +kernel, by decide +kernel⟩, List.mem_of_getElem? (i := 151) (by decide +kernel), List.mem_of_getElem? (i := 664) (by decide +kernel), List.mem_of_getElem? (i := 665) (by decide +kernel)⟩
theorem lw_p13 : lw_okq (⟨"QuadMode$Codes", "compare", "(I)V"⟩, 4) := ⟨⟨by decide +kernel, by decide +kernel⟩, List.mem_of_getElem? (i := 151) (by decide +kernel), List.mem_of_getElem? (i := 676) (by decide +kernel), List.mem_of_getElem? (i := 677) (by decide +kernel)⟩
theorem lw_p14 : lw_okq (⟨"QuadMode$Codes", "calculate", "(I)V"⟩, 4) := ⟨⟨by decide +kernel, by decide +kernel⟩, List.mem_of_getElem? (i := 151) (by decide +kernel), List.mem_of_getElem? (i := 687) (by decide +kernel), List.mem_of_getElem? (i := 688) (by decide +kernel)⟩
theorem lw_p15 : lw_okq (⟨"QuadMode$Codes", "add", "(II)I"⟩, 4) := ⟨⟨by decide +kernel, by decide +kernel⟩, List.mem_of_getElem? (i := 151) (by decide +kernel), List.mem_of_getElem? (i := 691) (by decide +kernel), List.mem_of_getElem? (i := 692) (by decide +kernel)⟩
def lw_privs_1 : List (MethodName × Nat) := [(⟨"java/lang/Throwable", "fillInStackTrace", "(I)Ljava/lang/Throwable;"⟩, 6), (⟨"QuadMode", "step", "()V"⟩, 11), (⟨"QuadMode$Pages", "isThere", "(II)Z"⟩, 3), (⟨"QuadMode$Specifiers", "addressBy", "(III)I"⟩, 1), (⟨"QuadMode$Codes", "leaveException", "()V"⟩, 4), (⟨"QuadMode$Codes", "leaveFrame", "()V"⟩, 4), (⟨"QuadMode$Codes", "giveInner", "(II)V"⟩, 4), (⟨"QuadMode$Codes", "takeInner", "(I)V"⟩, 4), (⟨"QuadMode$Codes", "store", "(LQuadMode$Operand;I)V"⟩, 4), (⟨"QuadMode$Codes", "shift", "(II)V"⟩, 4), (⟨"QuadMode$Codes", "enterFrame", "()V"⟩, 4), (⟨"QuadMode$Codes", "probe", "(Z)V"⟩, 4), (⟨"QuadMode$Codes", "move", "(I)V"⟩, 4), (⟨"QuadMode$Codes", "compare", "(I)V"⟩, 4), (⟨"QuadMode$Codes", "calculate", "(I)V"⟩, 4), (⟨"QuadMode$Codes", "add", "(II)I"⟩, 4)]
theorem lw_r1 : ∀ q ∈ lw_privs_1, lw_okq q := List.forall_mem_cons.mpr ⟨lw_p0, List.forall_mem_cons.mpr ⟨lw_p1, List.forall_mem_cons.mpr ⟨lw_p2, List.forall_mem_cons.mpr ⟨lw_p3, List.forall_mem_cons.mpr ⟨lw_p4, List.forall_mem_cons.mpr ⟨lw_p5, List.forall_mem_cons.mpr ⟨lw_p6, List.forall_mem_cons.mpr ⟨lw_p7, List.forall_mem_cons.mpr ⟨lw_p8, List.forall_mem_cons.mpr ⟨lw_p9, List.forall_mem_cons.mpr ⟨lw_p10, List.forall_mem_cons.mpr ⟨lw_p11, List.forall_mem_cons.mpr ⟨lw_p12, List.forall_mem_cons.mpr ⟨lw_p13, List.forall_mem_cons.mpr ⟨lw_p14, List.forall_mem_cons.mpr ⟨lw_p15, fun _ h => absurd h List.not_mem_nil⟩⟩⟩⟩⟩⟩⟩⟩⟩⟩⟩⟩⟩⟩⟩⟩
theorem lw_p16 : lw_okq (⟨"QuadMode$Codes", "subtract", "(II)I"⟩, 4) := ⟨⟨by decide +kernel, by decide +kernel⟩, List.mem_of_getElem? (i := 151) (by decide +kernel), List.mem_of_getElem? (i := 696) (by decide +kernel), List.mem_of_getElem? (i := 697) (by decide +kernel)⟩
theorem lw_p17 : lw_okq (⟨"QuadMode$Codes", "calculated", "(III)I"⟩, 4) := ⟨⟨by decide +kernel, by decide +kernel⟩, List.mem_of_getElem? (i := 151) (by decide +kernel), List.mem_of_getElem? (i := 700) (by decide +kernel), List.mem_of_getElem? (i := 701) (by decide +kernel)⟩
theorem lw_p18 : lw_okq (⟨"QuadMode$Codes", "multiply", "(II)I"⟩, 4) := ⟨⟨by decide +kernel, by decide +kernel⟩, List.mem_of_getElem? (i := 151) (by decide +kernel), List.mem_of_getElem? (i := 704) (by decide +kernel), List.mem_of_getElem? (i := 705) (by decide +kernel)⟩
theorem lw_p19 : lw_okq (⟨"QuadMode$Codes", "divide", "(II)I"⟩, 4) := ⟨⟨by decide +kernel, by decide +kernel⟩, List.mem_of_getElem? (i := 151) (by decide +kernel), List.mem_of_getElem? (i := 708) (by decide +kernel), List.mem_of_getElem? (i := 709) (by decide +kernel)⟩
theorem lw_p20 : lw_okq (⟨"QuadMode$Codes", "bits", "(I)I"⟩, 4) := ⟨⟨by decide +kernel, by decide +kernel⟩, List.mem_of_getElem? (i := 151) (by decide +kernel), List.mem_of_getElem? (i := 712) (by decide +kernel), List.mem_of_getElem? (i := 713) (by decide +kernel)⟩
theorem lw_p21 : lw_okq (⟨"QuadMode$Codes", "handAddress", "(I)V"⟩, 4) := ⟨⟨by decide +kernel, by decide +kernel⟩, List.mem_of_getElem? (i := 151) (by decide +kernel), List.mem_of_getElem? (i := 716) (by decide +kernel), List.mem_of_getElem? (i := 717) (by decide +kernel)⟩
theorem lw_p22 : lw_okq (⟨"QuadMode$Codes", "go", "(I)V"⟩, 4) := ⟨⟨by decide +kernel, by decide +kernel⟩, List.mem_of_getElem? (i := 151) (by decide +kernel), List.mem_of_getElem? (i := 720) (by decide +kernel), List.mem_of_getElem? (i := 721) (by decide +kernel)⟩
theorem lw_p23 : lw_okq (⟨"QuadMode$Codes", "branch", "(I)V"⟩, 4) := ⟨⟨by decide +kernel, by decide +kernel⟩, List.mem_of_getElem? (i := 151) (by decide +kernel), List.mem_of_getElem? (i := 724) (by decide +kernel), List.mem_of_getElem? (i := 725) (by decide +kernel)⟩
theorem lw_p24 : lw_okq (⟨"QuadMode$Codes", "holds", "(I)Z"⟩, 4) := ⟨⟨by decide +kernel, by decide +kernel⟩, List.mem_of_getElem? (i := 151) (by decide +kernel), List.mem_of_getElem? (i := 728) (by decide +kernel), List.mem_of_getElem? (i := 729) (by decide +kernel)⟩
theorem lw_p25 : lw_okq (⟨"QuadMode$Codes", "count", "(I)V"⟩, 4) := ⟨⟨by decide +kernel, by decide +kernel⟩, List.mem_of_getElem? (i := 151) (by decide +kernel), List.mem_of_getElem? (i := 732) (by decide +kernel), List.mem_of_getElem? (i := 733) (by decide +kernel)⟩
theorem lw_p26 : lw_okq (⟨"QuadMode$Codes", "noteOverflow", "(I)V"⟩, 4) := ⟨⟨by decide +kernel, by decide +kernel⟩, List.mem_of_getElem? (i := 151) (by decide +kernel), List.mem_of_getElem? (i := 736) (by decide +kernel), List.mem_of_getElem? (i := 737) (by decide +kernel)⟩
theorem lw_p27 : lw_okq (⟨"QuadMode", "settle", "(I)V"⟩, 11) := ⟨⟨by decide +kernel, by decide +kernel⟩, List.mem_of_getElem? (i := 23) (by decide +kernel), List.mem_of_getElem? (i := 740) (by decide +kernel), List.mem_of_getElem? (i := 741) (by decide +kernel)⟩
theorem lw_p28 : lw_okq (⟨"QuadMode", "except", "(IIIII)V"⟩, 11) := ⟨⟨by decide +kernel, by decide +kernel⟩, List.mem_of_getElem? (i := 23) (by decide +kernel), List.mem_of_getElem? (i := 748) (by decide +kernel), List.mem_of_getElem? (i := 749) (by decide +kernel)⟩
theorem lw_p29 : lw_okq (⟨"QuadModeModel", "bare", "(I)I"⟩, 22) := ⟨⟨by decide +kernel, by decide +kernel⟩, List.mem_of_getElem? (i := 764) (by decide +kernel), List.mem_of_getElem? (i := 850) (by decide +kernel), List.mem_of_getElem? (i := 851) (by decide +kernel)⟩
theorem lw_p30 : lw_okq (⟨"QuadModeModel", "put", "(II)V"⟩, 22) := ⟨⟨by decide +kernel, by decide +kernel⟩, List.mem_of_getElem? (i := 764) (by decide +kernel), List.mem_of_getElem? (i := 858) (by decide +kernel), List.mem_of_getElem? (i := 859) (by decide +kernel)⟩
theorem lw_p31 : lw_okq (⟨"QuadModeModel", "mode", "()I"⟩, 22) := ⟨⟨by decide +kernel, by decide +kernel⟩, List.mem_of_getElem? (i := 764) (by decide +kernel), List.mem_of_getElem? (i := 862) (by decide +kernel), List.mem_of_getElem? (i := 863) (by decide +kernel)⟩
def lw_privs_2 : List (MethodName × Nat) := [(⟨"QuadMode$Codes", "subtract", "(II)I"⟩, 4), (⟨"QuadMode$Codes", "calculated", "(III)I"⟩, 4), (⟨"QuadMode$Codes", "multiply", "(II)I"⟩, 4), (⟨"QuadMode$Codes", "divide", "(II)I"⟩, 4), (⟨"QuadMode$Codes", "bits", "(I)I"⟩, 4), (⟨"QuadMode$Codes", "handAddress", "(I)V"⟩, 4), (⟨"QuadMode$Codes", "go", "(I)V"⟩, 4), (⟨"QuadMode$Codes", "branch", "(I)V"⟩, 4), (⟨"QuadMode$Codes", "holds", "(I)Z"⟩, 4), (⟨"QuadMode$Codes", "count", "(I)V"⟩, 4), (⟨"QuadMode$Codes", "noteOverflow", "(I)V"⟩, 4), (⟨"QuadMode", "settle", "(I)V"⟩, 11), (⟨"QuadMode", "except", "(IIIII)V"⟩, 11), (⟨"QuadModeModel", "bare", "(I)I"⟩, 22), (⟨"QuadModeModel", "put", "(II)V"⟩, 22), (⟨"QuadModeModel", "mode", "()I"⟩, 22)]
theorem lw_r2 : ∀ q ∈ lw_privs_2, lw_okq q := List.forall_mem_cons.mpr ⟨lw_p16, List.forall_mem_cons.mpr ⟨lw_p17, List.forall_mem_cons.mpr ⟨lw_p18, List.forall_mem_cons.mpr ⟨lw_p19, List.forall_mem_cons.mpr ⟨lw_p20, List.forall_mem_cons.mpr ⟨lw_p21, List.forall_mem_cons.mpr ⟨lw_p22, List.forall_mem_cons.mpr ⟨lw_p23, List.forall_mem_cons.mpr ⟨lw_p24, List.forall_mem_cons.mpr ⟨lw_p25, List.forall_mem_cons.mpr ⟨lw_p26, List.forall_mem_cons.mpr ⟨lw_p27, List.forall_mem_cons.mpr ⟨lw_p28, List.forall_mem_cons.mpr ⟨lw_p29, List.forall_mem_cons.mpr ⟨lw_p30, List.forall_mem_cons.mpr ⟨lw_p31, fun _ h => absurd h List.not_mem_nil⟩⟩⟩⟩⟩⟩⟩⟩⟩⟩⟩⟩⟩⟩⟩⟩
theorem lw_p32 : lw_okq (⟨"QuadModeModel", "fail", "(I)I"⟩, 22) := ⟨⟨by decide +kernel, by decide +kernel⟩, List.mem_of_getElem? (i := 764) (by decide +kernel), List.mem_of_getElem? (i := 870) (by decide +kernel), List.mem_of_getElem? (i := 871) (by decide +kernel)⟩
theorem lw_p33 : lw_okq (⟨"QuadModeModel", "get", "(I)I"⟩, 22) := ⟨⟨by decide +kernel, by decide +kernel⟩, List.mem_of_getElem? (i := 764) (by decide +kernel), List.mem_of_getElem? (i := 874) (by decide +kernel), List.mem_of_getElem? (i := 875) (by decide +kernel)⟩
theorem lw_p34 : lw_okq (⟨"QuadModeModel", "instruction", "()V"⟩, 22) := ⟨⟨by decide +kernel, by decide +kernel⟩, List.mem_of_getElem? (i := 764) (by decide +kernel), List.mem_of_getElem? (i := 902) (by decide +kernel), List.mem_of_getElem? (i := 903) (by decide +kernel)⟩
theorem lw_p35 : lw_okq (⟨"QuadModeModel", "keep", "()V"⟩, 22) := ⟨⟨by decide +kernel, by decide +kernel⟩, List.mem_of_getElem? (i := 764) (by decide +kernel), List.mem_of_getElem? (i := 906) (by decide +kernel), List.mem_of_getElem? (i := 907) (by decide +kernel)⟩
theorem lw_p36 : lw_okq (⟨"QuadModeModel", "next", "()I"⟩, 22) := ⟨⟨by decide +kernel, by decide +kernel⟩, List.mem_of_getElem? (i := 764) (by decide +kernel), List.mem_of_getElem? (i := 910) (by decide +kernel), List.mem_of_getElem? (i := 911) (by decide +kernel)⟩
theorem lw_p37 : lw_okq (⟨"QuadModeModel", "readByte", "(I)I"⟩, 22) := ⟨⟨by decide +kernel, by decide +kernel⟩, List.mem_of_getElem? (i := 764) (by decide +kernel), List.mem_of_getElem? (i := 914) (by decide +kernel), List.mem_of_getElem? (i := 915) (by decide +kernel)⟩
theorem lw_p38 : lw_okq (⟨"QuadModeModel", "find", "(IZI)I"⟩, 22) := ⟨⟨by decide +kernel, by decide +kernel⟩, List.mem_of_getElem? (i := 764) (by decide +kernel), List.mem_of_getElem? (i := 918) (by decide +kernel), List.mem_of_getElem? (i := 919) (by decide +kernel)⟩
theorem lw_p39 : lw_okq (⟨"QuadModeModel", "wrong", "(III)V"⟩, 22) := ⟨⟨by decide +kernel, by decide +kernel⟩, List.mem_of_getElem? (i := 764) (by decide +kernel), List.mem_of_getElem? (i := 927) (by decide +kernel), List.mem_of_getElem? (i := 928) (by decide +kernel)⟩
theorem lw_p40 : lw_okq (⟨"QuadModeModel", "operand", "(II)V"⟩, 22) := ⟨⟨by decide +kernel, by decide +kernel⟩, List.mem_of_getElem? (i := 764) (by decide +kernel), List.mem_of_getElem? (i := 937) (by decide +kernel), List.mem_of_getElem? (i := 938) (by decide +kernel)⟩
theorem lw_p41 : lw_okq (⟨"QuadModeModel", "readLong", "(I)I"⟩, 22) := ⟨⟨by decide +kernel, by decide +kernel⟩, List.mem_of_getElem? (i := 764) (by decide +kernel), List.mem_of_getElem? (i := 941) (by decide +kernel), List.mem_of_getElem? (i := 942) (by decide +kernel)⟩
theorem lw_p42 : lw_okq (⟨"QuadModeModel", "work", "(I)V"⟩, 22) := ⟨⟨by decide +kernel, by decide +kernel⟩, List.mem_of_getElem? (i := 764) (by decide +kernel), List.mem_of_getElem? (i := 945) (by decide +kernel), List.mem_of_getElem? (i := 946) (by decide +kernel)⟩
theorem lw_p43 : lw_okq (⟨"QuadModeModel", "endException", "()V"⟩, 22) := ⟨⟨by decide +kernel, by decide +kernel⟩, List.mem_of_getElem? (i := 764) (by decide +kernel), List.mem_of_getElem? (i := 949) (by decide +kernel), List.mem_of_getElem? (i := 950) (by decide +kernel)⟩
theorem lw_p44 : lw_okq (⟨"QuadModeModel", "pop", "()I"⟩, 22) := ⟨⟨by decide +kernel, by decide +kernel⟩, List.mem_of_getElem? (i := 764) (by decide +kernel), List.mem_of_getElem? (i := 953) (by decide +kernel), List.mem_of_getElem? (i := 954) (by decide +kernel)⟩
theorem lw_p45 : lw_okq (⟨"QuadModeModel", "comeBack", "()V"⟩, 22) := ⟨⟨by decide +kernel, by decide +kernel⟩, List.mem_of_getElem? (i := 764) (by decide +kernel), List.mem_of_getElem? (i := 957) (by decide +kernel), List.mem_of_getElem? (i := 958) (by decide +kernel)⟩
theorem lw_p46 : lw_okq (⟨"QuadModeModel", "innerOnes", "(I)V"⟩, 22) := ⟨⟨by decide +kernel, by decide +kernel⟩, List.mem_of_getElem? (i := 764) (by decide +kernel), List.mem_of_getElem? (i := 962) (by decide +kernel), List.mem_of_getElem? (i := 963) (by decide +kernel)⟩
theorem lw_p47 : lw_okq (⟨"QuadModeModel", "mark", "(IZZ)V"⟩, 22) := ⟨⟨by decide +kernel, by decide +kernel⟩, List.mem_of_getElem? (i := 764) (by decide +kernel), List.mem_of_getElem? (i := 966) (by decide +kernel), List.mem_of_getElem? (i := 967) (by decide +kernel)⟩
def lw_privs_3 : List (MethodName × Nat) := [(⟨"QuadModeModel", "fail", "(I)I"⟩, 22), (⟨"QuadModeModel", "get", "(I)I"⟩, 22), (⟨"QuadModeModel", "instruction", "()V"⟩, 22), (⟨"QuadModeModel", "keep", "()V"⟩, 22), (⟨"QuadModeModel", "next", "()I"⟩, 22), (⟨"QuadModeModel", "readByte", "(I)I"⟩, 22), (⟨"QuadModeModel", "find", "(IZI)I"⟩, 22), (⟨"QuadModeModel", "wrong", "(III)V"⟩, 22), (⟨"QuadModeModel", "operand", "(II)V"⟩, 22), (⟨"QuadModeModel", "readLong", "(I)I"⟩, 22), (⟨"QuadModeModel", "work", "(I)V"⟩, 22), (⟨"QuadModeModel", "endException", "()V"⟩, 22), (⟨"QuadModeModel", "pop", "()I"⟩, 22), (⟨"QuadModeModel", "comeBack", "()V"⟩, 22), (⟨"QuadModeModel", "innerOnes", "(I)V"⟩, 22), (⟨"QuadModeModel", "mark", "(IZZ)V"⟩, 22)]
theorem lw_r3 : ∀ q ∈ lw_privs_3, lw_okq q := List.forall_mem_cons.mpr ⟨lw_p32, List.forall_mem_cons.mpr ⟨lw_p33, List.forall_mem_cons.mpr ⟨lw_p34, List.forall_mem_cons.mpr ⟨lw_p35, List.forall_mem_cons.mpr ⟨lw_p36, List.forall_mem_cons.mpr ⟨lw_p37, List.forall_mem_cons.mpr ⟨lw_p38, List.forall_mem_cons.mpr ⟨lw_p39, List.forall_mem_cons.mpr ⟨lw_p40, List.forall_mem_cons.mpr ⟨lw_p41, List.forall_mem_cons.mpr ⟨lw_p42, List.forall_mem_cons.mpr ⟨lw_p43, List.forall_mem_cons.mpr ⟨lw_p44, List.forall_mem_cons.mpr ⟨lw_p45, List.forall_mem_cons.mpr ⟨lw_p46, List.forall_mem_cons.mpr ⟨lw_p47, fun _ h => absurd h List.not_mem_nil⟩⟩⟩⟩⟩⟩⟩⟩⟩⟩⟩⟩⟩⟩⟩⟩
theorem lw_p48 : lw_okq (⟨"QuadModeModel", "give", "(III)V"⟩, 22) := ⟨⟨by decide +kernel, by decide +kernel⟩, List.mem_of_getElem? (i := 764) (by decide +kernel), List.mem_of_getElem? (i := 970) (by decide +kernel), List.mem_of_getElem? (i := 971) (by decide +kernel)⟩
theorem lw_p49 : lw_okq (⟨"QuadModeModel", "write", "(III)V"⟩, 22) := ⟨⟨by decide +kernel, by decide +kernel⟩, List.mem_of_getElem? (i := 764) (by decide +kernel), List.mem_of_getElem? (i := 974) (by decide +kernel), List.mem_of_getElem? (i := 975) (by decide +kernel)⟩
theorem lw_p50 : lw_okq (⟨"QuadModeModel", "move", "(I)V"⟩, 22) := ⟨⟨by decide +kernel, by decide +kernel⟩, List.mem_of_getElem? (i := 764) (by decide +kernel), List.mem_of_getElem? (i := 978) (by decide +kernel), List.mem_of_getElem? (i := 979) (by decide +kernel)⟩
theorem lw_p51 : lw_okq (⟨"QuadModeModel", "has", "(I)Z"⟩, 22) := ⟨⟨by decide +kernel, by decide +kernel⟩, List.mem_of_getElem? (i := 764) (by decide +kernel), List.mem_of_getElem? (i := 982) (by decide +kernel), List.mem_of_getElem? (i := 983) (by decide +kernel)⟩
theorem lw_p52 : lw_okq (⟨"QuadModeModel", "push", "(I)V"⟩, 22) := ⟨⟨by decide +kernel, by decide +kernel⟩, List.mem_of_getElem? (i := 764) (by decide +kernel), List.mem_of_getElem? (i := 986) (by decide +kernel), List.mem_of_getElem? (i := 987) (by decide +kernel)⟩
theorem lw_p53 : lw_okq (⟨"QuadModeModel", "reckon", "(IIII)V"⟩, 22) := ⟨⟨by decide +kernel, by decide +kernel⟩, List.mem_of_getElem? (i := 764) (by decide +kernel), List.mem_of_getElem? (i := 990) (by decide +kernel), List.mem_of_getElem? (i := 991) (by decide +kernel)⟩
theorem lw_p54 : lw_okq (⟨"QuadModeModel", "shift", "(II)V"⟩, 22) := ⟨⟨by decide +kernel, by decide +kernel⟩, List.mem_of_getElem? (i := 764) (by decide +kernel), List.mem_of_getElem? (i := 994) (by decide +kernel), List.mem_of_getElem? (i := 995) (by decide +kernel)⟩
theorem lw_p55 : lw_okq (⟨"QuadModeModel", "go", "(I)V"⟩, 22) := ⟨⟨by decide +kernel, by decide +kernel⟩, List.mem_of_getElem? (i := 764) (by decide +kernel), List.mem_of_getElem? (i := 998) (by decide +kernel), List.mem_of_getElem? (i := 999) (by decide +kernel)⟩
theorem lw_p56 : lw_okq (⟨"QuadModeModel", "isMet", "(I)Z"⟩, 22) := ⟨⟨by decide +kernel, by decide +kernel⟩, List.mem_of_getElem? (i := 764) (by decide +kernel), List.mem_of_getElem? (i := 1002) (by decide +kernel), List.mem_of_getElem? (i := 1003) (by decide +kernel)⟩
theorem lw_p57 : lw_okq (⟨"QuadModeModel", "count", "(I)V"⟩, 22) := ⟨⟨by decide +kernel, by decide +kernel⟩, List.mem_of_getElem? (i := 764) (by decide +kernel), List.mem_of_getElem? (i := 1006) (by decide +kernel), List.mem_of_getElem? (i := 1007) (by decide +kernel)⟩
theorem lw_p58 : lw_okq (⟨"QuadModeModel", "callFrame", "()V"⟩, 22) := ⟨⟨by decide +kernel, by decide +kernel⟩, List.mem_of_getElem? (i := 764) (by decide +kernel), List.mem_of_getElem? (i := 1011) (by decide +kernel), List.mem_of_getElem? (i := 1012) (by decide +kernel)⟩
theorem lw_p59 : lw_okq (⟨"QuadModeModel", "probe", "(Z)V"⟩, 22) := ⟨⟨by decide +kernel, by decide +kernel⟩, List.mem_of_getElem? (i := 764) (by decide +kernel), List.mem_of_getElem? (i := 1018) (by decide +kernel), List.mem_of_getElem? (i := 1019) (by decide +kernel)⟩
theorem lw_p60 : lw_okq (⟨"QuadModeModel", "bringBack", "()V"⟩, 22) := ⟨⟨by decide +kernel, by decide +kernel⟩, List.mem_of_getElem? (i := 764) (by decide +kernel), List.mem_of_getElem? (i := 1022) (by decide +kernel), List.mem_of_getElem? (i := 1023) (by decide +kernel)⟩
theorem lw_p61 : lw_okq (⟨"QuadModeModel", "raise", "(III)V"⟩, 22) := ⟨⟨by decide +kernel, by decide +kernel⟩, List.mem_of_getElem? (i := 764) (by decide +kernel), List.mem_of_getElem? (i := 1026) (by decide +kernel), List.mem_of_getElem? (i := 1027) (by decide +kernel)⟩
def lw_privs_4 : List (MethodName × Nat) := [(⟨"QuadModeModel", "give", "(III)V"⟩, 22), (⟨"QuadModeModel", "write", "(III)V"⟩, 22), (⟨"QuadModeModel", "move", "(I)V"⟩, 22), (⟨"QuadModeModel", "has", "(I)Z"⟩, 22), (⟨"QuadModeModel", "push", "(I)V"⟩, 22), (⟨"QuadModeModel", "reckon", "(IIII)V"⟩, 22), (⟨"QuadModeModel", "shift", "(II)V"⟩, 22), (⟨"QuadModeModel", "go", "(I)V"⟩, 22), (⟨"QuadModeModel", "isMet", "(I)Z"⟩, 22), (⟨"QuadModeModel", "count", "(I)V"⟩, 22), (⟨"QuadModeModel", "callFrame", "()V"⟩, 22), (⟨"QuadModeModel", "probe", "(Z)V"⟩, 22), (⟨"QuadModeModel", "bringBack", "()V"⟩, 22), (⟨"QuadModeModel", "raise", "(III)V"⟩, 22)]
theorem lw_r4 : ∀ q ∈ lw_privs_4, lw_okq q := List.forall_mem_cons.mpr ⟨lw_p48, List.forall_mem_cons.mpr ⟨lw_p49, List.forall_mem_cons.mpr ⟨lw_p50, List.forall_mem_cons.mpr ⟨lw_p51, List.forall_mem_cons.mpr ⟨lw_p52, List.forall_mem_cons.mpr ⟨lw_p53, List.forall_mem_cons.mpr ⟨lw_p54, List.forall_mem_cons.mpr ⟨lw_p55, List.forall_mem_cons.mpr ⟨lw_p56, List.forall_mem_cons.mpr ⟨lw_p57, List.forall_mem_cons.mpr ⟨lw_p58, List.forall_mem_cons.mpr ⟨lw_p59, List.forall_mem_cons.mpr ⟨lw_p60, List.forall_mem_cons.mpr ⟨lw_p61, fun _ h => absurd h List.not_mem_nil⟩⟩⟩⟩⟩⟩⟩⟩⟩⟩⟩⟩⟩⟩
def lw_privs : List (MethodName × Nat) := lw_privs_1 ++ (lw_privs_2 ++ (lw_privs_3 ++ (lw_privs_4)))
def lw_tbl : List Cond := k2_sels lw_privs ++ tables_1
theorem lw_privs_ok : ∀ q ∈ lw_privs, lw_okq q := by
  show ∀ q ∈ lw_privs_1 ++ (lw_privs_2 ++ (lw_privs_3 ++ (lw_privs_4))), lw_okq q
  exact List.forall_mem_append.mpr ⟨lw_r1, List.forall_mem_append.mpr ⟨lw_r2, List.forall_mem_append.mpr ⟨lw_r3, lw_r4⟩⟩⟩
end
section
/-! The base of certified decompiling: a method's pure function answers 'none' where a check fails; where it answers 'some', the machine does as it says. -/
/-- the words that stand: good ones of the law's tables -/
def qw : List Cond := lw_tbl.filter goodWord
theorem qw_in {w : Cond} (n : Nat) (h : lw_tbl[n]? = some w) (hg : goodWord w = true) : w ∈ qw := List.mem_filter.mpr ⟨List.mem_of_getElem? h, hg⟩
theorem qw_of {w : Cond} (h : w ∈ qw) : w ∈ lw_tbl := (List.mem_filter.mp h).1
theorem qw_g {w : Cond} (h : w ∈ qw) : (w.onTables && w.keeps) = true ∨ ∃ ty, w = .arrayClass ty := good_of_word (List.mem_filter.mp h).2
theorem qw_gc {c : Cond} (h : c ∈ qw) : GoodIn qw (c :: qw) := fun w hw => by
  rcases List.mem_cons.mp hw with rfl | hw
  · exact ⟨h, qw_g h⟩
  · exact ⟨hw, qw_g hw⟩
theorem qw_gl {ls : List Cond} {ws : List Cond} (h : ∀ w ∈ ls, w ∈ qw) (hw : GoodIn qw ws) : GoodIn qw (ls ++ ws) := fun w hm => by
  rcases List.mem_append.mp hm with hm | hm
  · exact ⟨h w hm, qw_g (h w hm)⟩
  · exact hw w hm
/-- a state: the numbers of the fields, and of the arrays -/
abbrev qS : Type := (Nat → Int32) × (Nat → Nat → Int32)
def pI (S : qS) (k : Nat) (v : Int32) : qS := (fun j => if j = k then v else S.1 j, S.2)
def gA (S : qS) (a : Nat) (i : Int32) : Int32 := S.2 a i.toNatClampNeg
def pA (S : qS) (a : Nat) (i : Int32) (v : Int32) : qS := (S.1, fun b => if b = a then upd (S.2 b) i.toNatClampNeg v else S.2 b)
def cpA (S : qS) (a : Nat) (sp : Int32) (b : Nat) (dp n : Int32) : qS := (S.1, fun x => if x = b then va_cpy (S.2 a) (S.2 x) sp.toNatClampNeg dp.toNatClampNeg n.toNatClampNeg else S.2 x)
def ushr (x y : Int32) : Int32 := (x.toUInt32 >>> (y.toUInt32 &&& Int32.toUInt32 31)).toInt32
def ushrL (x : Int64) (y : Int32) : Int64 := (x.toUInt64 >>> (y.toInt64.toUInt64 &&& Int64.toUInt64 63)).toInt64
def inb (i : Int32) (n : Nat) : Bool := decide (0 ≤ i.toInt) && decide (i.toInt < n)
theorem inb_in {i : Int32} {n : Nat} (h : inb i n = true) : vp_in i n := by
  rw [inb, Bool.and_eq_true, decide_eq_true_eq, decide_eq_true_eq] at h
  exact vp_in_iff.mpr h
def isB (v : Int32) : Bool := v == 0 || v == 1
theorem isB_n {v : Int32} (h : isB v = true) : narrow .boolean (.int v) = .int v := by
  rw [isB, Bool.or_eq_true, beq_iff_eq, beq_iff_eq] at h
  rcases h with rfl | rfl <;> rfl
def chk {α : Type} (b : Bool) (x : Option α) : Option α := if b = true then x else none
theorem chk_s {α : Type} {b : Bool} {x : Option α} {y : α} (h : chk b x = some y) : b = true ∧ x = some y := by
  unfold chk at h
  by_cases c : b = true
  · rw [if_pos c] at h; exact ⟨c, h⟩
  · rw [if_neg c] at h; cases h
theorem bnd_s {α β : Type} {x : Option α} {f : α → Option β} {y : β} (h : x.bind f = some y) : ∃ a, x = some a ∧ f a = some y := Option.bind_eq_some_iff.mp h
theorem if_t {α : Type} {c : Prop} [Decidable c] {x y z : α} (hc : c) (h : (if c then x else y) = z) : x = z := by rw [if_pos hc] at h; exact h
theorem if_f {α : Type} {c : Prop} [Decidable c] {x y z : α} (hc : ¬ c) (h : (if c then x else y) = z) : y = z := by rw [if_neg hc] at h; exact h
end
section
/-! Words on private fields of nest mates, and the texts of the shapes: they go from call to call. -/
def qnw : List Cond := [Cond.fieldLinkNest "QuadMode$Core" 97 "QuadMode$Pages" "entry" "I" "QuadMode", Cond.fieldLinkNest "QuadMode$Codes" 108 "QuadMode$Core" "status" "I" "QuadMode", Cond.fieldLinkNest "QuadMode" 102 "QuadMode$Core" "status" "I" "QuadMode", Cond.fieldLinkNest "QuadMode" 157 "QuadMode$Core" "fault" "I" "QuadMode", Cond.fieldLinkNest "QuadMode" 177 "QuadMode$Core" "faultAddress" "I" "QuadMode", Cond.fieldLinkNest "QuadMode" 180 "QuadMode$Core" "faultFlag" "I" "QuadMode", Cond.fieldLinkNest "QuadMode$Codes" 149 "QuadMode$Core" "trap" "I" "QuadMode", Cond.fieldLinkNest "QuadMode" 199 "QuadMode$Core" "trap" "I" "QuadMode", Cond.fieldLinkNest "QuadMode$Specifiers" 21 "QuadMode$Operand" "size" "I" "QuadMode", Cond.fieldLinkNest "QuadMode$Codes" 162 "QuadMode$Operand" "size" "I" "QuadMode", Cond.fieldLinkNest "QuadMode$Specifiers" 15 "QuadMode$Operand" "register" "I" "QuadMode", Cond.fieldLinkNest "QuadMode$Codes" 156 "QuadMode$Operand" "register" "I" "QuadMode", Cond.fieldLinkNest "QuadMode$Specifiers" 52 "QuadMode$Operand" "address" "I" "QuadMode", Cond.fieldLinkNest "QuadMode$Codes" 159 "QuadMode$Operand" "address" "I" "QuadMode", Cond.fieldLinkNest "QuadMode$Specifiers" 30 "QuadMode$Operand" "value" "I" "QuadMode", Cond.fieldLinkNest "QuadMode$Codes" 96 "QuadMode$Operand" "value" "I" "QuadMode", Cond.fieldLinkNest "QuadMode" 196 "QuadMode$Operand" "value" "I" "QuadMode"]
theorem qnw_f : ∀ w ∈ qnw, ∃ (a : String) (i : Nat) (b n d h : String), w = Cond.fieldLinkNest a i b n d h := fun w h => by
  simp only [qnw, List.mem_cons, List.not_mem_nil, or_false] at h
  rcases h with rfl | rfl | rfl | rfl | rfl | rfl | rfl | rfl | rfl | rfl | rfl | rfl | rfl | rfl | rfl | rfl | rfl <;> exact ⟨_, _, _, _, _, _, rfl⟩
theorem qnw_t : ∀ w ∈ qnw, w ∈ lw_tbl := fun w h => by
  simp only [qnw, List.mem_cons, List.not_mem_nil, or_false] at h
  rcases h with rfl | rfl | rfl | rfl | rfl | rfl | rfl | rfl | rfl | rfl | rfl | rfl | rfl | rfl | rfl | rfl | rfl
  · exact List.mem_of_getElem? (i := 112) (by decide +kernel)
  · exact List.mem_of_getElem? (i := 137) (by decide +kernel)
  · exact List.mem_of_getElem? (i := 138) (by decide +kernel)
  · exact List.mem_of_getElem? (i := 140) (by decide +kernel)
  · exact List.mem_of_getElem? (i := 141) (by decide +kernel)
  · exact List.mem_of_getElem? (i := 143) (by decide +kernel)
  · exact List.mem_of_getElem? (i := 145) (by decide +kernel)
  · exact List.mem_of_getElem? (i := 147) (by decide +kernel)
  · exact List.mem_of_getElem? (i := 184) (by decide +kernel)
  · exact List.mem_of_getElem? (i := 185) (by decide +kernel)
  · exact List.mem_of_getElem? (i := 186) (by decide +kernel)
  · exact List.mem_of_getElem? (i := 187) (by decide +kernel)
  · exact List.mem_of_getElem? (i := 188) (by decide +kernel)
  · exact List.mem_of_getElem? (i := 189) (by decide +kernel)
  · exact List.mem_of_getElem? (i := 190) (by decide +kernel)
  · exact List.mem_of_getElem? (i := 191) (by decide +kernel)
  · exact List.mem_of_getElem? (i := 192) (by decide +kernel)
def qsk : Nat → Nat := fun j => [31, 33, 35, 37, 39, 41, 43, 45, 47, 49, 51, 53, 55, 57, 59, 61, 63, 65, 67, 69, 71, 73, 75, 77].getD j 0
def qst : Nat → String := fun j => ["R", "RR", "RW", "W", "rw", "rW", "Rw", "\x72", "rr", "M", "RM", "RRW", "rRW", "AW", "aW", "A", "a", "Rd", "Md", "RMd", "Ra", "rRa", "d", ""].getD j ""
def qN (ad : Nat → Nat) (U : State) : Prop := (∀ w ∈ qnw, va_Nw w U) ∧ ∀ j, j < 24 → vk_R "QuadMode$Codes" (qsk j) (qst j) (ad j) U
theorem qN_warm {ad : Nat → Nat} {s U : State} (hW : s.WarmedH U.vm) (h : qN ad s) : qN ad U := ⟨fun w hw => by
  obtain ⟨a, i, b, n, d, h9, rfl⟩ := qnw_f w hw
  exact va_Nw.warmF hW (h.1 _ hw), fun j hj => vk_R.warm hW (h.2 j hj)⟩
theorem qN_same {ad : Nat → Nat} {u U : State} (hv : u.vm = U.vm) (h : qN ad u) : qN ad U := ⟨fun w hw => by
  obtain ⟨a, i, b, n, d, h9, rfl⟩ := qnw_f w hw
  exact va_Nw.same rfl hv (h.1 _ hw), fun j hj => vk_R.same hv.symm (h.2 j hj)⟩
end
section
/-! Walks over a world that is a function of a state. -/
/-- what a method's walk knows from its start on -/
def qC (p : Program) (s : State) (m : MethodId) (args : Array Value) (meth : Method) (c : Code) (cc : ByteArray) (nL : Nat) (ret : Option FieldType) (own : String) (ad : Nat → Nat) : Prop :=
  p.tables.exec = Jvm.exec ∧ c.code = cc ∧ c.maxLocals = nL ∧ s.vm.findClass own = some m.cls ∧ (∀ w ∈ qw, w.before args s = true) ∧ meth.sig.returnType = ret ∧ meth.locks = false ∧ qN ad s
section QW
variable {D : va_G} {cl : List vw_C} {tys : List (ClassId × FieldType)} {wf : qS → va_W} {A : Nat → Prop} {ad : Nat → Nat}
/-- the world at a state, as the walk has it -/
def qG (D : va_G) (cl : List vw_C) (tys : List (ClassId × FieldType)) (A : Nat → Prop) (s : State) (ws : va_W) (H : Heap) (locs : List Loc) : Prop :=
  va_K D cl tys s ∧ va_P D cl ws H ∧ va_D A ws ∧ va_S A s.heap H locs ∧ ∀ q : Nat, s.heap.size ≤ q → A q
def qP (D : va_G) (cl : List vw_C) (tys : List (ClassId × FieldType)) (ad : Nat → Nat) (ws : va_W) (sz : Nat) (U : State) : Prop :=
  U.heap.size = sz ∧ va_P D cl ws U.heap ∧ va_K D cl tys U ∧ va_D (fun _ => True) ws ∧ qN ad U
def qB (D : va_G) (cl : List vw_C) (tys : List (ClassId × FieldType)) (wf : qS → va_W) (A : Nat → Prop) (u : qS) (t : State) : Prop :=
  va_P D cl (wf u) t.heap ∧ va_K D cl tys t ∧ va_D A (wf u)
def qQi (D : va_G) (cl : List vw_C) (tys : List (ClassId × FieldType)) (wf : qS → va_W) (A : Nat → Prop) (res : Int32 × qS) : Array Value → State → Outcome → State → Prop :=
  va_Qi (fun (r : Int32) (u : qS) => (r, u) = res) (qB D cl tys wf A) A
def qQv (D : va_G) (cl : List vw_C) (tys : List (ClassId × FieldType)) (wf : qS → va_W) (A : Nat → Prop) (res : qS) : Array Value → State → Outcome → State → Prop :=
  va_Qv (fun u : qS => u = res) (qB D cl tys wf A) A
/-- a contract: the answer and the state behind are res -/
def qMi (l : Launch) (y : MethodName) (cc : ByteArray) (nL : Nat) (ty : FieldType) (fr lo : Nat) (D : va_G) (cl : List vw_C) (tys : List (ClassId × FieldType)) (ad : Nat → Nat) (wf : qS → va_W) (av : List Value) (S : qS) (res : Int32 × qS) : Prop :=
  ∀ sz : Nat, Met l y (.code y cc nL (some ty) :: qw) ({ frames := fr, cells := 0, slots := 0, locals := lo }) (va_Pc av (qP D cl tys ad (wf S) sz)) (qQi D cl tys wf (va_A (wf S) sz) res) 0 0 (va_A (wf S) sz)
def qMv (l : Launch) (y : MethodName) (cc : ByteArray) (nL : Nat) (fr lo : Nat) (D : va_G) (cl : List vw_C) (tys : List (ClassId × FieldType)) (ad : Nat → Nat) (wf : qS → va_W) (av : List Value) (S : qS) (res : qS) : Prop :=
  ∀ sz : Nat, Met l y (.code y cc nL none :: qw) ({ frames := fr, cells := 0, slots := 0, locals := lo }) (va_Pc av (qP D cl tys ad (wf S) sz)) (qQv D cl tys wf (va_A (wf S) sz) res) 0 0 (va_A (wf S) sz)
theorem qP_blind {ws : va_W} {sz : Nat} {av : List Value} : FrameBlind (va_Pc av (qP D cl tys ad ws sz)) := fun a U g mk q => by
  obtain ⟨q0, q1, qP, qK, qD, hN⟩ := q
  exact ⟨q0, q1, qP, va_K.moved (u := U) (U := U.calling g mk a) (Vm.Alike.refl U.vm) qK, qD, qN_same (u := U) (U := U.calling g mk a) rfl hN⟩
/-- a contract out of a walk of the body -/
theorem qMi_of {l : Launch} {y : MethodName} {cc : ByteArray} {nL fr lo : Nat} {ty : FieldType} {av : List Value} {S : qS} {res : Int32 × qS} (hy : plainName y.cls = true) (hn : (lg_sl av).length ≤ nL)
    (h : ∀ (p : Program) (e : Env) (s : State) (m : MethodId) (args : Array Value) (below : List Frame) (meth : Method) (c : Code) (A : Nat → Prop) (ls : Array Slot), qC p s m args meth c cc nL (some ty) y.cls ad → qG D cl tys A s (wf S) s.heap [] → lv_has ls nL (lv_args 0 av) →
      W p l e ({ frames := fr, cells := 0, slots := 0, locals := lo }) s m args below meth c s.heap [] 0 0 (MQ below (qQi D cl tys wf A res) args s 0 0 A) (F0 m 0 ls [])) : qMi l y cc nL ty fr lo D cl tys ad wf av S res := by
  intro sz
  refine Met.ofW (cc := cc) (maxL := nL) (ret := some ty) hy rfl ?_
  intro p e s m args below meth c s₁ B hml hv
  obtain ⟨rfl, hsz, hP, hK, hD0, hN⟩ := hv
  have hts := atoms_spec (ws := .code y cc nL (some ty) :: qw) B.pre
  have hown : s.vm.findClass y.cls = some m.cls := findClass_of_methodNamed B.named
  subst hsz
  have hl := lv_entry av (n := nL) hn
  rw [lg_entry_eq]
  exact h p e s m av.toArray below meth c _ _ ⟨B.exec, B.bytes, hml, hown, fun w hw => hts w (List.mem_cons_of_mem _ hw), B.returns, B.notSynchronized, hN⟩ ⟨hK, hP, hD0.self, va_S.rf, fun q h => Or.inr h⟩ hl
theorem qMv_of {l : Launch} {y : MethodName} {cc : ByteArray} {nL fr lo : Nat} {av : List Value} {S : qS} {res : qS} (hy : plainName y.cls = true) (hn : (lg_sl av).length ≤ nL)
    (h : ∀ (p : Program) (e : Env) (s : State) (m : MethodId) (args : Array Value) (below : List Frame) (meth : Method) (c : Code) (A : Nat → Prop) (ls : Array Slot), qC p s m args meth c cc nL none y.cls ad → qG D cl tys A s (wf S) s.heap [] → lv_has ls nL (lv_args 0 av) →
      W p l e ({ frames := fr, cells := 0, slots := 0, locals := lo }) s m args below meth c s.heap [] 0 0 (MQ below (qQv D cl tys wf A res) args s 0 0 A) (F0 m 0 ls [])) : qMv l y cc nL fr lo D cl tys ad wf av S res := by
  intro sz
  refine Met.ofW (cc := cc) (maxL := nL) (ret := none) hy rfl ?_
  intro p e s m args below meth c s₁ B hml hv
  obtain ⟨rfl, hsz, hP, hK, hD0, hN⟩ := hv
  have hts := atoms_spec (ws := .code y cc nL none :: qw) B.pre
  have hown : s.vm.findClass y.cls = some m.cls := findClass_of_methodNamed B.named
  subst hsz
  have hl := lv_entry av (n := nL) hn
  rw [lg_entry_eq]
  exact h p e s m av.toArray below meth c _ _ ⟨B.exec, B.bytes, hml, hown, fun w hw => hts w (List.mem_cons_of_mem _ hw), B.returns, B.notSynchronized, hN⟩ ⟨hK, hP, hD0.self, va_S.rf, fun q h => Or.inr h⟩ hl
end QW
section QR
variable {p : Program} {l : Launch} {e : Env} {R : Room} {s : State} {m : MethodId} {args : Array Value} {below : List Frame} {meth : Method} {c : Code} {H : Heap} {locs : List Loc} {cells slots : Nat} {Q : State → Prop}
variable {cc : ByteArray} {nL : Nat} {ret : Option FieldType} {own : String} {D : va_G} {cl : List vw_C} {tys : List (ClassId × FieldType)} {wf : qS → va_W} {A : Nat → Prop} {S : qS} {pc : Nat} {ls : Array Slot} {rest : List Value} {ad : Nat → Nat}
/-- ends -/
theorem q_iret {res : Int32 × qS} {v : Int32} (C : qC p s m args meth c cc nL (some .int) own ad) (G : qG D cl tys A s (wf S) H locs) (hr : some (v, S) = some res) (hdg : decode cc pc = .ok (.ireturn, 1)) : W p l e R s m args below meth c H locs cells slots (MQ below (qQi D cl tys wf A res) args s cells slots A) (F0 m pc ls [.int v]) := by
  obtain ⟨hx, hb, hml, hown, hts, hret, hlocks, hN⟩ := C
  obtain ⟨hK, hP, hD, hS, hA⟩ := G
  exact W.iret (v := v) hx hb hret (fun t ht hW => ⟨⟨v, S, rfl, Option.some.inj hr, by rw [ht]; exact hP, va_K.moved hW.alike hK, hD⟩, hS.F ht⟩) hS.2.2 hdg
theorem q_zret {res : Int32 × qS} {v : Int32} (C : qC p s m args meth c cc nL (some .boolean) own ad) (G : qG D cl tys A s (wf S) H locs) (hr : chk (isB v) (some (v, S)) = some res) (hdg : decode cc pc = .ok (.ireturn, 1)) : W p l e R s m args below meth c H locs cells slots (MQ below (qQi D cl tys wf A res) args s cells slots A) (F0 m pc ls [.int v]) := by
  obtain ⟨hx, hb, hml, hown, hts, hret, hlocks, hN⟩ := C
  obtain ⟨hK, hP, hD, hS, hA⟩ := G
  obtain ⟨hv, hr⟩ := chk_s hr
  exact W.zret (v := v) hx hb hret (isB_n hv) (fun t ht hW => ⟨⟨v, S, rfl, Option.some.inj hr, by rw [ht]; exact hP, va_K.moved hW.alike hK, hD⟩, hS.F ht⟩) hS.2.2 hdg
theorem q_vret {res : qS} (C : qC p s m args meth c cc nL none own ad) (G : qG D cl tys A s (wf S) H locs) (hr : some S = some res) (hdg : decode cc pc = .ok (.return_, 1)) : W p l e R s m args below meth c H locs cells slots (MQ below (qQv D cl tys wf A res) args s cells slots A) (F0 m pc ls []) := by
  obtain ⟨hx, hb, hml, hown, hts, hret, hlocks, hN⟩ := C
  obtain ⟨hK, hP, hD, hS, hA⟩ := G
  exact W.vret hx hb hret (fun t ht hW => ⟨⟨S, rfl, Option.some.inj hr, by rw [ht]; exact hP, va_K.moved hW.alike hK, hD⟩, hS.F ht⟩) hS.2.2 hdg
/-- a field is read -/
theorem q_get {T : u_T} {N ci index : Nat} {CN : String} (C : qC p s m args meth c cc nL ret own ad) (G : qG D cl tys A s (wf S) H locs) (hin : ∀ w ∈ u_ws CN T N, w ∈ qw) (q0 : Nat) {a : Nat} {fs : List Value} (he : (wf S)[q0]? = some (a, .inr (ci, fs))) (hc : cl[ci]? = some (CN, T, N)) (k : Nat) (hk : k < N) (hlink : Cond.fieldLink own index (T k).1 (T k).2.1 (T k).2.2.1 ∈ qw) {v : Value} (hv : fs[k]? = some v) (hdg : decode cc pc = .ok (.getfield index, 3))
    (kk : W p l e R s m args below meth c H locs cells slots Q (F0 m (pc + 3) ls (v :: rest))) : W p l e R s m args below meth c H locs cells slots Q (F0 m pc ls (.ref a :: rest)) :=
  va_get C.1 C.2.1 C.2.2.2.2.1 hin C.2.2.2.1 G.1 G.2.1 q0 he hc k hk (C.2.2.2.2.1 _ hlink) (fun _ h => h) hv hdg kk
theorem q_getN {T : u_T} {N ci index : Nat} {CN host : String} (C : qC p s m args meth c cc nL ret own ad) (G : qG D cl tys A s (wf S) H locs) (hin : ∀ w ∈ u_ws CN T N, w ∈ qw) (q0 : Nat) {a : Nat} {fs : List Value} (he : (wf S)[q0]? = some (a, .inr (ci, fs))) (hc : cl[ci]? = some (CN, T, N)) (k : Nat) (hk : k < N) (hlink : Cond.fieldLinkNest own index (T k).1 (T k).2.1 (T k).2.2.1 host ∈ qnw) {v : Value} (hv : fs[k]? = some v) (hdg : decode cc pc = .ok (.getfield index, 3))
    (kk : W p l e R s m args below meth c H locs cells slots Q (F0 m (pc + 3) ls (v :: rest))) : W p l e R s m args below meth c H locs cells slots Q (F0 m pc ls (.ref a :: rest)) :=
  va_getN C.1 C.2.1 C.2.2.2.2.1 hin C.2.2.2.1 G.1 G.2.1 q0 he hc k hk (va_Nw.use rfl (C.2.2.2.2.2.2.2.1 _ hlink)) (fun _ h => h) hv hdg kk
/-- a number is put into a field -/
theorem q_put {S' : qS} {T : u_T} {N ci index : Nat} {CN : String} (C : qC p s m args meth c cc nL ret own ad) (G : qG D cl tys A s (wf S) H locs) (hin : ∀ w ∈ u_ws CN T N, w ∈ qw) (ty0 : Nat → FieldType) (hty : ∀ k, k < N → parseFieldDescriptor (T k).2.2.1 = some (ty0 k)) (hnm : ∀ a, a < N → ∀ b, b < N → a ≠ b → (T a).2.1 ≠ (T b).2.1) (q0 : Nat) {a : Nat} {fs : List Value} (he : (wf S)[q0]? = some (a, .inr (ci, fs))) (hc : cl[ci]? = some (CN, T, N)) (k : Nat) (hk : k < N) (hlink : Cond.fieldLink own index (T k).1 (T k).2.1 (T k).2.2.1 ∈ qw) (hfin : (T k).2.2.2 = false) (hI : ty0 k = .int) {v : Int32} (hl : k < fs.length) (hS' : (wf S).set q0 (a, .inr (ci, fs.set k (.int v))) = wf S') (hdg : decode cc pc = .ok (.putfield index, 3))
    (kk : ∀ (H1 : Heap) (locs1 : List Loc), qG D cl tys A s (wf S') H1 locs1 → W p l e R s m args below meth c H1 locs1 cells slots Q (F0 m (pc + 3) ls rest)) : W p l e R s m args below meth c H locs cells slots Q (F0 m pc ls (.int v :: .ref a :: rest)) := by
  obtain ⟨hK, hP, hD, hS, hA⟩ := G
  refine va_put C.1 C.2.1 C.2.2.2.2.1 hin ty0 hty hnm C.2.2.2.1 hK hP hD hS q0 he hc k hk (C.2.2.2.2.1 _ hlink) (fun _ h => h) hfin (ty := .int) (hI ▸ hty k hk) rfl rfl hl hdg (fun H1 locs1 hP hD hS => ?_)
  rw [hS'] at hP hD
  exact kk H1 locs1 ⟨hK, hP, hD, hS, hA⟩
theorem q_putN {S' : qS} {T : u_T} {N ci index : Nat} {CN host : String} (C : qC p s m args meth c cc nL ret own ad) (G : qG D cl tys A s (wf S) H locs) (hin : ∀ w ∈ u_ws CN T N, w ∈ qw) (ty0 : Nat → FieldType) (hty : ∀ k, k < N → parseFieldDescriptor (T k).2.2.1 = some (ty0 k)) (hnm : ∀ a, a < N → ∀ b, b < N → a ≠ b → (T a).2.1 ≠ (T b).2.1) (q0 : Nat) {a : Nat} {fs : List Value} (he : (wf S)[q0]? = some (a, .inr (ci, fs))) (hc : cl[ci]? = some (CN, T, N)) (k : Nat) (hk : k < N) (hlink : Cond.fieldLinkNest own index (T k).1 (T k).2.1 (T k).2.2.1 host ∈ qnw) (hfin : (T k).2.2.2 = false) (hI : ty0 k = .int) {v : Int32} (hl : k < fs.length) (hS' : (wf S).set q0 (a, .inr (ci, fs.set k (.int v))) = wf S') (hdg : decode cc pc = .ok (.putfield index, 3))
    (kk : ∀ (H1 : Heap) (locs1 : List Loc), qG D cl tys A s (wf S') H1 locs1 → W p l e R s m args below meth c H1 locs1 cells slots Q (F0 m (pc + 3) ls rest)) : W p l e R s m args below meth c H locs cells slots Q (F0 m pc ls (.int v :: .ref a :: rest)) := by
  obtain ⟨hK, hP, hD, hS, hA⟩ := G
  refine va_putN C.1 C.2.1 C.2.2.2.2.1 hin ty0 hty hnm C.2.2.2.1 hK hP hD hS q0 he hc k hk (va_Nw.use rfl (C.2.2.2.2.2.2.2.1 _ hlink)) (fun _ h => h) hfin (ty := .int) (hI ▸ hty k hk) rfl rfl hl hdg (fun H1 locs1 hP hD hS => ?_)
  rw [hS'] at hP hD
  exact kk H1 locs1 ⟨hK, hP, hD, hS, hA⟩
/-- arrays -/
theorem q_iald (C : qC p s m args meth c cc nL ret own ad) (G : qG D cl tys A s (wf S) H locs) (q0 t0 : Nat) {a : Nat} {cA : ClassId} {n : Nat} {f : Nat → Int32} (ha : (wf S)[q0]? = some (a, .inl (cA, n, .inl f))) (ht : tys[t0]? = some (cA, .int)) {i : Int32} (hin : inb i n = true) (hdg : decode cc pc = .ok (.iaload, 1))
    (kk : W p l e R s m args below meth c H locs cells slots Q (F0 m (pc + 1) ls (.int (f i.toNatClampNeg) :: rest))) : W p l e R s m args below meth c H locs cells slots Q (F0 m pc ls (.int i :: .ref a :: rest)) :=
  va_iald C.1 C.2.1 G.1 G.2.1 q0 t0 ha ht (inb_in hin) hdg kk
theorem q_bald (C : qC p s m args meth c cc nL ret own ad) (G : qG D cl tys A s (wf S) H locs) (q0 t0 : Nat) {a : Nat} {cA : ClassId} {n : Nat} {f : Nat → Int32} (ha : (wf S)[q0]? = some (a, .inl (cA, n, .inl f))) (ht : tys[t0]? = some (cA, .byte)) {i : Int32} (hin : inb i n = true) (hdg : decode cc pc = .ok (.baload, 1))
    (kk : W p l e R s m args below meth c H locs cells slots Q (F0 m (pc + 1) ls (.int (f i.toNatClampNeg) :: rest))) : W p l e R s m args below meth c H locs cells slots Q (F0 m pc ls (.int i :: .ref a :: rest)) :=
  va_bald C.1 C.2.1 G.1 G.2.1 q0 t0 ha ht (inb_in hin) hdg kk
theorem q_iast {S' : qS} (C : qC p s m args meth c cc nL ret own ad) (G : qG D cl tys A s (wf S) H locs) (q0 t0 : Nat) {a : Nat} {cA : ClassId} {n : Nat} {f : Nat → Int32} (ha : (wf S)[q0]? = some (a, .inl (cA, n, .inl f))) (ht : tys[t0]? = some (cA, .int)) {i x : Int32} (hin : inb i n = true) (hS' : (wf S).set q0 (a, .inl (cA, n, .inl (upd f i.toNatClampNeg x))) = wf S') (hdg : decode cc pc = .ok (.iastore, 1))
    (kk : ∀ (H1 : Heap) (locs1 : List Loc), qG D cl tys A s (wf S') H1 locs1 → W p l e R s m args below meth c H1 locs1 cells slots Q (F0 m (pc + 1) ls rest)) : W p l e R s m args below meth c H locs cells slots Q (F0 m pc ls (.int x :: .int i :: .ref a :: rest)) := by
  obtain ⟨hK, hP, hD, hS, hA⟩ := G
  refine va_iast C.1 C.2.1 hK hP hD hS q0 t0 ha ht (inb_in hin) hdg (fun H1 locs1 hP hD hS => ?_)
  rw [hS'] at hP hD
  exact kk H1 locs1 ⟨hK, hP, hD, hS, hA⟩
theorem q_bast {S' : qS} (C : qC p s m args meth c cc nL ret own ad) (G : qG D cl tys A s (wf S) H locs) (q0 t0 : Nat) {a : Nat} {cA : ClassId} {n : Nat} {f : Nat → Int32} (ha : (wf S)[q0]? = some (a, .inl (cA, n, .inl f))) (ht : tys[t0]? = some (cA, .byte)) {i x : Int32} (hin : inb i n = true) (hS' : (wf S).set q0 (a, .inl (cA, n, .inl (upd f i.toNatClampNeg (vp_nar .byte x)))) = wf S') (hdg : decode cc pc = .ok (.bastore, 1))
    (kk : ∀ (H1 : Heap) (locs1 : List Loc), qG D cl tys A s (wf S') H1 locs1 → W p l e R s m args below meth c H1 locs1 cells slots Q (F0 m (pc + 1) ls rest)) : W p l e R s m args below meth c H locs cells slots Q (F0 m pc ls (.int x :: .int i :: .ref a :: rest)) := by
  obtain ⟨hK, hP, hD, hS, hA⟩ := G
  refine va_bast C.1 C.2.1 hK hP hD hS q0 t0 ha ht (inb_in hin) hdg (fun H1 locs1 hP hD hS => ?_)
  rw [hS'] at hP hD
  exact kk H1 locs1 ⟨hK, hP, hD, hS, hA⟩
/-- calls: a method of an object of the world, a static one -/
theorem q_callVi {index nL' fr lo n q0 ci : Nat} {y : MethodName} {cc' : ByteArray} {ty : FieldType} {b : Nat} {fs : List Value} {As st : List Value} {res : Int32 × qS} {q : vw_C} (C : qC p s m args meth c cc nL ret own ad) (G : qG D cl tys A s (wf S) H locs) (hls : ls.size = nL) (hM : qMi l y cc' nL' ty fr lo D cl tys ad wf (.ref b :: As) S res)
    (hw : Cond.methodLink own index y ∈ qw ∧ Cond.instanceMethod y ∈ qw ∧ Cond.selects y.cls y y ∈ qw ∧ Cond.initialized y.cls ∈ qw ∧ Cond.code y cc' nL' (some ty) ∈ qw) (hd : y.cls ≠ "java/lang/invoke/MethodHandle" ∧ y.cls ≠ "java/lang/invoke/VarHandle" ∧ (parseMethodDescriptor y.desc).map (fun d => d.parameters.length) = some n)
    (hR : fr + 1 ≤ R.frames ∧ 8 + (nL' + 11) + lo ≤ R.locals) (hcr : cells ≤ R.cells ∧ slots ≤ R.slots) (hc : cl[ci]? = some q) (hq : q.1 = y.cls) (he : (wf S)[q0]? = some (b, .inr (ci, fs))) (hn : As.length = n) (hst : st = As.reverse ++ .ref b :: rest) (h8 : (rest.map fun v => v.category).sum ≤ 8) (hdg : decode cc pc = .ok (.invokevirtual index, 3))
    (kk : ∀ (H1 : Heap) (locs1 : List Loc), qG D cl tys A s (wf res.2) H1 locs1 → W p l e R s m args below meth c H1 locs1 cells slots Q (F0 m (pc + 3) ls (.int res.1 :: rest))) : W p l e R s m args below meth c H locs cells slots Q (F0 m pc ls st) := by
  obtain ⟨hx, hb, hml, hown, hts, -, -, hN⟩ := C
  obtain ⟨hK, hP, hD, hS, hA⟩ := G
  have hFc : ∀ z, va_A (wf S) H.size z → A z := fun z hz => by
    rcases hz with ⟨k, e, h⟩ | h
    · exact hD.2 k _ h
    · exact hA z (Nat.le_trans hS.1 h)
  have hG : GoodIn qw (wsV own index y.cls y (.code y cc' nL' (some ty) :: qw)) := qw_gl (fun w h => by simp only [List.mem_cons, List.not_mem_nil, or_false] at h; rcases h with rfl | rfl | rfl | rfl <;> simp only [hw]) (qw_gc hw.2.2.2.2)
  have hrc := va_recv hK hP hc he
  rw [hq] at hrc
  refine va_calli (va_runV (As := As) (rest := rest) ⟨hx, hb, hml, hown, hts⟩ (hM H.size) (cwV n hts hG rfl rfl rfl ⟨rfl, hd⟩ hR) ⟨qP_blind, hrc, fun U hU hW => ⟨rfl, by rw [hU], by rw [hU]; exact hP, va_K.moved hW.alike hK, hD.weaken (fun _ _ _ _ => trivial), qN_warm hW hN⟩⟩ rfl hn hls hst (lv_room h8) hdg hcr) hS (fun z _ h => hFc z h) hFc (fun r' u t H1 locs1 ht hvm hpost hB hz1 hk1 hS1 => ?_)
  cases hpost
  obtain ⟨hP1, hK1, hD1⟩ := hB
  rw [ht] at hP1
  exact kk H1 locs1 ⟨hK, hP1, ⟨hD1.1, fun k z hz => hFc _ (hD1.2 k z hz)⟩, hS1, hA⟩
theorem q_callVv {index nL' fr lo n q0 ci : Nat} {y : MethodName} {cc' : ByteArray} {b : Nat} {fs : List Value} {As st : List Value} {S' : qS} {q : vw_C} (C : qC p s m args meth c cc nL ret own ad) (G : qG D cl tys A s (wf S) H locs) (hls : ls.size = nL) (hM : qMv l y cc' nL' fr lo D cl tys ad wf (.ref b :: As) S S')
    (hw : Cond.methodLink own index y ∈ qw ∧ Cond.instanceMethod y ∈ qw ∧ Cond.selects y.cls y y ∈ qw ∧ Cond.initialized y.cls ∈ qw ∧ Cond.code y cc' nL' none ∈ qw) (hd : y.cls ≠ "java/lang/invoke/MethodHandle" ∧ y.cls ≠ "java/lang/invoke/VarHandle" ∧ (parseMethodDescriptor y.desc).map (fun d => d.parameters.length) = some n)
    (hR : fr + 1 ≤ R.frames ∧ 8 + (nL' + 11) + lo ≤ R.locals) (hcr : cells ≤ R.cells ∧ slots ≤ R.slots) (hc : cl[ci]? = some q) (hq : q.1 = y.cls) (he : (wf S)[q0]? = some (b, .inr (ci, fs))) (hn : As.length = n) (hst : st = As.reverse ++ .ref b :: rest) (h8 : (rest.map fun v => v.category).sum ≤ 8) (hdg : decode cc pc = .ok (.invokevirtual index, 3))
    (kk : ∀ (H1 : Heap) (locs1 : List Loc), qG D cl tys A s (wf S') H1 locs1 → W p l e R s m args below meth c H1 locs1 cells slots Q (F0 m (pc + 3) ls rest)) : W p l e R s m args below meth c H locs cells slots Q (F0 m pc ls st) := by
  obtain ⟨hx, hb, hml, hown, hts, -, -, hN⟩ := C
  obtain ⟨hK, hP, hD, hS, hA⟩ := G
  have hFc : ∀ z, va_A (wf S) H.size z → A z := fun z hz => by
    rcases hz with ⟨k, e, h⟩ | h
    · exact hD.2 k _ h
    · exact hA z (Nat.le_trans hS.1 h)
  have hG : GoodIn qw (wsV own index y.cls y (.code y cc' nL' none :: qw)) := qw_gl (fun w h => by simp only [List.mem_cons, List.not_mem_nil, or_false] at h; rcases h with rfl | rfl | rfl | rfl <;> simp only [hw]) (qw_gc hw.2.2.2.2)
  have hrc := va_recv hK hP hc he
  rw [hq] at hrc
  refine va_callv (va_runV (As := As) (rest := rest) ⟨hx, hb, hml, hown, hts⟩ (hM H.size) (cwV n hts hG rfl rfl rfl ⟨rfl, hd⟩ hR) ⟨qP_blind, hrc, fun U hU hW => ⟨rfl, by rw [hU], by rw [hU]; exact hP, va_K.moved hW.alike hK, hD.weaken (fun _ _ _ _ => trivial), qN_warm hW hN⟩⟩ rfl hn hls hst (lv_room h8) hdg hcr) hS (fun z _ h => hFc z h) hFc (fun u t H1 locs1 ht hvm hpost hB hz1 hk1 hS1 => ?_)
  cases hpost
  obtain ⟨hP1, hK1, hD1⟩ := hB
  rw [ht] at hP1
  exact kk H1 locs1 ⟨hK, hP1, ⟨hD1.1, fun k z hz => hFc _ (hD1.2 k z hz)⟩, hS1, hA⟩
theorem q_callSi {index nL' fr lo n : Nat} {y : MethodName} {cc' : ByteArray} {ty : FieldType} {As st : List Value} {res : Int32 × qS} (C : qC p s m args meth c cc nL ret own ad) (G : qG D cl tys A s (wf S) H locs) (hls : ls.size = nL) (hM : qMi l y cc' nL' ty fr lo D cl tys ad wf As S res)
    (hw : Cond.methodLink own index y ∈ qw ∧ Cond.static y ∈ qw ∧ Cond.initialized y.cls ∈ qw ∧ Cond.code y cc' nL' (some ty) ∈ qw) (hd : y.cls ≠ "java/lang/invoke/MethodHandle" ∧ y.cls ≠ "java/lang/invoke/VarHandle" ∧ (parseMethodDescriptor y.desc).map (fun d => d.parameters.length) = some n)
    (hR : fr + 1 ≤ R.frames ∧ 8 + (nL' + 11) + lo ≤ R.locals) (hcr : cells ≤ R.cells ∧ slots ≤ R.slots) (hn : As.length = n) (hst : st = As.reverse ++ rest) (h8 : (rest.map fun v => v.category).sum ≤ 8) (hdg : decode cc pc = .ok (.invokestatic index, 3))
    (kk : ∀ (H1 : Heap) (locs1 : List Loc), qG D cl tys A s (wf res.2) H1 locs1 → W p l e R s m args below meth c H1 locs1 cells slots Q (F0 m (pc + 3) ls (.int res.1 :: rest))) : W p l e R s m args below meth c H locs cells slots Q (F0 m pc ls st) := by
  obtain ⟨hx, hb, hml, hown, hts, -, -, hN⟩ := C
  obtain ⟨hK, hP, hD, hS, hA⟩ := G
  have hFc : ∀ z, va_A (wf S) H.size z → A z := fun z hz => by
    rcases hz with ⟨k, e, h⟩ | h
    · exact hD.2 k _ h
    · exact hA z (Nat.le_trans hS.1 h)
  have hG : GoodIn qw (va_wsS own index y (.code y cc' nL' (some ty) :: qw)) := qw_gl (fun w h => by simp only [List.mem_cons, List.not_mem_nil, or_false] at h; rcases h with rfl | rfl | rfl <;> simp only [hw]) (qw_gc hw.2.2.2)
  refine va_calli (va_runS (As := As) (rest := rest) ⟨hx, hb, hml, hown, hts⟩ (hM H.size) (va_cwS n hts hG rfl rfl rfl hd hR) ⟨qP_blind, fun U hU hW => ⟨rfl, by rw [hU], by rw [hU]; exact hP, va_K.moved hW.alike hK, hD.weaken (fun _ _ _ _ => trivial), qN_warm hW hN⟩⟩ rfl hn hls hst (lv_room h8) hdg hcr) hS (fun z _ h => hFc z h) hFc (fun r' u t H1 locs1 ht hvm hpost hB hz1 hk1 hS1 => ?_)
  cases hpost
  obtain ⟨hP1, hK1, hD1⟩ := hB
  rw [ht] at hP1
  exact kk H1 locs1 ⟨hK, hP1, ⟨hD1.1, fun k z hz => hFc _ (hD1.2 k z hz)⟩, hS1, hA⟩
/-- System.arraycopy between two arrays of ints, Math.min, Math.max -/
theorem q_copy {S' : qS} {index : Nat} (C : qC p s m args meth c cc nL ret own ad) (G : qG D cl tys A s (wf S) H locs) (hls : ls.size = nL) (hw : Cond.methodLink own index arraycopyName ∈ qw ∧ Cond.native arraycopyName ∈ qw ∧ Cond.static arraycopyName ∈ qw ∧ Cond.initialized "java/lang/System" ∈ qw) (q0 q1 t0 t1 : Nat) {a0 a1 : Nat} {c0 c1 : ClassId} {n0 n1 : Nat} {f g : Nat → Int32} (ha0 : (wf S)[q0]? = some (a0, .inl (c0, n0, .inl f))) (ha1 : (wf S)[q1]? = some (a1, .inl (c1, n1, .inl g))) (ht0 : tys[t0]? = some (c0, .int)) (ht1 : tys[t1]? = some (c1, .int))
    {sp dp n : Int32} (h1 : ¬ sp < 0) (h2 : ¬ dp < 0) (h3 : ¬ n < 0) (h4 : sp.toNatClampNeg + n.toNatClampNeg ≤ n0) (h5 : dp.toNatClampNeg + n.toNatClampNeg ≤ n1) (hS' : (wf S).set q1 (a1, .inl (c1, n1, .inl (va_cpy f g sp.toNatClampNeg dp.toNatClampNeg n.toNatClampNeg))) = wf S')
    (hfr : 1 ≤ R.frames) (hlo : (rest.map fun v => v.category).sum + (nativeFrameWords "java/lang/System" "arraycopy" 5 + 11) ≤ R.locals) (hdg : decode cc pc = .ok (.invokestatic index, 3))
    (kk : ∀ (H1 : Heap) (locs1 : List Loc), qG D cl tys A s (wf S') H1 locs1 → W p l e R s m args below meth c H1 locs1 cells slots Q (F0 m (pc + 3) ls rest)) : W p l e R s m args below meth c H locs cells slots Q (F0 m pc ls (.int n :: .int dp :: .ref a1 :: .int sp :: .ref a0 :: rest)) := by
  obtain ⟨hx, hb, hml, hown, hts, -, -, hN⟩ := C
  obtain ⟨hK, hP, hD, hS, hA⟩ := G
  refine va_copyi hx hb (hml.trans hls.symm) hown (hts _ hw.1) (hts _ hw.2.1) (hts _ hw.2.2.1) (hts _ hw.2.2.2) hK hP hD hS q0 q1 t0 t1 ha0 ha1 ht0 ht1 rfl h1 h2 h3 h4 h5 (fun _ _ => rfl) hfr hlo hdg (fun H1 locs1 hP hD hS => ?_)
  rw [hS'] at hP hD
  exact kk H1 locs1 ⟨hK, hP, hD, hS, hA⟩
theorem q_min {index : Nat} (C : qC p s m args meth c cc nL ret own ad) (hls : ls.size = nL) (hw : Cond.methodLink own index Lib.Math.min.name ∈ qw ∧ Cond.static Lib.Math.min.name ∈ qw ∧ Cond.initialized "java/lang/Math" ∈ qw ∧ Cond.code Lib.Math.min.name Lib.Math.min.code 2 (some .int) ∈ qw) (hfr : 1 ≤ R.frames) (hlo : (rest.map fun v => v.category).sum + 13 ≤ R.locals) (hcr : cells ≤ R.cells ∧ slots ≤ R.slots) {x y : Int32} (hdg : decode cc pc = .ok (.invokestatic index, 3))
    (kk : W p l e R s m args below meth c H locs cells slots Q (F0 m (pc + 3) ls (.int (if y < x then y else x) :: rest))) : W p l e R s m args below meth c H locs cells slots Q (F0 m pc ls (.int y :: .int x :: rest)) := by
  obtain ⟨hx, hb, hml, hown, hts, -, -, hN⟩ := C
  exact va_mmin hx hb (hml.trans hls.symm) hown (hts _ hw.1) (hts _ hw.2.1) (hts _ hw.2.2.1) (hts _ hw.2.2.2) hfr hlo hcr.1 hcr.2 hdg kk
theorem q_max {index : Nat} (C : qC p s m args meth c cc nL ret own ad) (hls : ls.size = nL) (hw : Cond.methodLink own index Lib.Math.max.name ∈ qw ∧ Cond.static Lib.Math.max.name ∈ qw ∧ Cond.initialized "java/lang/Math" ∈ qw ∧ Cond.code Lib.Math.max.name Lib.Math.max.code 2 (some .int) ∈ qw) (hfr : 1 ≤ R.frames) (hlo : (rest.map fun v => v.category).sum + 13 ≤ R.locals) (hcr : cells ≤ R.cells ∧ slots ≤ R.slots) {x y : Int32} (hdg : decode cc pc = .ok (.invokestatic index, 3))
    (kk : W p l e R s m args below meth c H locs cells slots Q (F0 m (pc + 3) ls (.int (if x < y then y else x) :: rest))) : W p l e R s m args below meth c H locs cells slots Q (F0 m pc ls (.int y :: .int x :: rest)) := by
  obtain ⟨hx, hb, hml, hown, hts, -, -, hN⟩ := C
  exact va_mmax hx hb (hml.trans hls.symm) hown (hts _ hw.1) (hts _ hw.2.1) (hts _ hw.2.2.1) (hts _ hw.2.2.2) hfr hlo hcr.1 hcr.2 hdg kk
end QR
end
section
def qR_Cd : String := "QuadMode$Codes"
def qT_Cd : u_T := fun k => match k with
  | 0 => ("QuadMode$Codes", "core", "LQuadMode$Core;", true)
  | 1 => ("QuadMode$Codes", "first", "LQuadMode$Operand;", true)
  | 2 => ("QuadMode$Codes", "second", "LQuadMode$Operand;", true)
  | _ => ("QuadMode$Codes", "third", "LQuadMode$Operand;", true)
def qY_Cd : Nat → FieldType := fun k => match k with
  | 0 => .object "QuadMode$Core"
  | 1 => .object "QuadMode$Operand"
  | 2 => .object "QuadMode$Operand"
  | _ => .object "QuadMode$Operand"
theorem qn_Cd : ∀ a, a < 4 → ∀ b, b < 4 → a ≠ b → (qT_Cd a).2.1 ≠ (qT_Cd b).2.1 := by decide +kernel
theorem qy_Cd : ∀ k, k < 4 → parseFieldDescriptor (qT_Cd k).2.2.1 = some (qY_Cd k) := by decide +kernel
theorem ql_Cd_0 : Cond.laysFinal "QuadMode$Codes" "QuadMode$Codes" "core" "LQuadMode$Core;" ∈ qw := qw_in 222 (by decide +kernel) (by decide +kernel)
theorem ql_Cd_1 : Cond.laysFinal "QuadMode$Codes" "QuadMode$Codes" "first" "LQuadMode$Operand;" ∈ qw := qw_in 224 (by decide +kernel) (by decide +kernel)
theorem ql_Cd_2 : Cond.laysFinal "QuadMode$Codes" "QuadMode$Codes" "second" "LQuadMode$Operand;" ∈ qw := qw_in 226 (by decide +kernel) (by decide +kernel)
theorem ql_Cd_3 : Cond.laysFinal "QuadMode$Codes" "QuadMode$Codes" "third" "LQuadMode$Operand;" ∈ qw := qw_in 228 (by decide +kernel) (by decide +kernel)
theorem qi_Cd : ∀ w ∈ u_ws qR_Cd qT_Cd 4, w ∈ qw := fun w h => by
  obtain ⟨k, hk, rfl⟩ := List.mem_map.mp h
  have hk := List.mem_range.mp hk
  rcases (show k = 0 ∨ k = 1 ∨ k = 2 ∨ k = 3 by omega) with rfl | rfl | rfl | rfl
  · exact ql_Cd_0
  · exact ql_Cd_1
  · exact ql_Cd_2
  · exact ql_Cd_3
def qR_Co : String := "QuadMode$Core"
def qT_Co : u_T := fun k => match k with
  | 0 => ("QuadMode$Core", "storage", "LQuadMode$Storage;", true)
  | 1 => ("QuadMode$Core", "pages", "LQuadMode$Pages;", true)
  | 2 => ("QuadMode$Core", "inner", "[I", true)
  | 3 => ("QuadMode$Core", "registers", "[I", true)
  | 4 => ("QuadMode$Core", "keptRegisters", "[I", true)
  | 5 => ("QuadMode$Core", "keptStacks", "[I", true)
  | 6 => ("QuadMode$Core", "places", "[I", true)
  | 7 => ("QuadMode$Core", "entries", "[I", true)
  | 8 => ("QuadMode$Core", "keptStatus", "I", false)
  | 9 => ("QuadMode$Core", "status", "I", false)
  | 10 => ("QuadMode$Core", "fault", "I", false)
  | 11 => ("QuadMode$Core", "faultAddress", "I", false)
  | 12 => ("QuadMode$Core", "faultFlag", "I", false)
  | _ => ("QuadMode$Core", "trap", "I", false)
def qY_Co : Nat → FieldType := fun k => match k with
  | 0 => .object "QuadMode$Storage"
  | 1 => .object "QuadMode$Pages"
  | 2 => .array .int
  | 3 => .array .int
  | 4 => .array .int
  | 5 => .array .int
  | 6 => .array .int
  | 7 => .array .int
  | 8 => .int
  | 9 => .int
  | 10 => .int
  | 11 => .int
  | 12 => .int
  | _ => .int
theorem qn_Co : ∀ a, a < 14 → ∀ b, b < 14 → a ≠ b → (qT_Co a).2.1 ≠ (qT_Co b).2.1 := by decide +kernel
theorem qy_Co : ∀ k, k < 14 → parseFieldDescriptor (qT_Co k).2.2.1 = some (qY_Co k) := by decide +kernel
theorem ql_Co_0 : Cond.laysFinal "QuadMode$Core" "QuadMode$Core" "storage" "LQuadMode$Storage;" ∈ qw := qw_in 148 (by decide +kernel) (by decide +kernel)
theorem ql_Co_1 : Cond.laysFinal "QuadMode$Core" "QuadMode$Core" "pages" "LQuadMode$Pages;" ∈ qw := qw_in 150 (by decide +kernel) (by decide +kernel)
theorem ql_Co_2 : Cond.laysFinal "QuadMode$Core" "QuadMode$Core" "inner" "[I" ∈ qw := qw_in 152 (by decide +kernel) (by decide +kernel)
theorem ql_Co_3 : Cond.laysFinal "QuadMode$Core" "QuadMode$Core" "registers" "[I" ∈ qw := qw_in 154 (by decide +kernel) (by decide +kernel)
theorem ql_Co_4 : Cond.laysFinal "QuadMode$Core" "QuadMode$Core" "keptRegisters" "[I" ∈ qw := qw_in 156 (by decide +kernel) (by decide +kernel)
theorem ql_Co_5 : Cond.laysFinal "QuadMode$Core" "QuadMode$Core" "keptStacks" "[I" ∈ qw := qw_in 158 (by decide +kernel) (by decide +kernel)
theorem ql_Co_6 : Cond.laysFinal "QuadMode$Core" "QuadMode$Core" "places" "[I" ∈ qw := qw_in 160 (by decide +kernel) (by decide +kernel)
theorem ql_Co_7 : Cond.laysFinal "QuadMode$Core" "QuadMode$Core" "entries" "[I" ∈ qw := qw_in 162 (by decide +kernel) (by decide +kernel)
theorem ql_Co_8 : Cond.lays "QuadMode$Core" "QuadMode$Core" "keptStatus" "I" ∈ qw := qw_in 164 (by decide +kernel) (by decide +kernel)
theorem ql_Co_9 : Cond.lays "QuadMode$Core" "QuadMode$Core" "status" "I" ∈ qw := qw_in 166 (by decide +kernel) (by decide +kernel)
theorem ql_Co_10 : Cond.lays "QuadMode$Core" "QuadMode$Core" "fault" "I" ∈ qw := qw_in 168 (by decide +kernel) (by decide +kernel)
theorem ql_Co_11 : Cond.lays "QuadMode$Core" "QuadMode$Core" "faultAddress" "I" ∈ qw := qw_in 170 (by decide +kernel) (by decide +kernel)
theorem ql_Co_12 : Cond.lays "QuadMode$Core" "QuadMode$Core" "faultFlag" "I" ∈ qw := qw_in 172 (by decide +kernel) (by decide +kernel)
theorem ql_Co_13 : Cond.lays "QuadMode$Core" "QuadMode$Core" "trap" "I" ∈ qw := qw_in 174 (by decide +kernel) (by decide +kernel)
theorem qi_Co : ∀ w ∈ u_ws qR_Co qT_Co 14, w ∈ qw := fun w h => by
  obtain ⟨k, hk, rfl⟩ := List.mem_map.mp h
  have hk := List.mem_range.mp hk
  rcases (show k = 0 ∨ k = 1 ∨ k = 2 ∨ k = 3 ∨ k = 4 ∨ k = 5 ∨ k = 6 ∨ k = 7 ∨ k = 8 ∨ k = 9 ∨ k = 10 ∨ k = 11 ∨ k = 12 ∨ k = 13 by omega) with rfl | rfl | rfl | rfl | rfl | rfl | rfl | rfl | rfl | rfl | rfl | rfl | rfl | rfl
  · exact ql_Co_0
  · exact ql_Co_1
  · exact ql_Co_2
  · exact ql_Co_3
  · exact ql_Co_4
  · exact ql_Co_5
  · exact ql_Co_6
  · exact ql_Co_7
  · exact ql_Co_8
  · exact ql_Co_9
  · exact ql_Co_10
  · exact ql_Co_11
  · exact ql_Co_12
  · exact ql_Co_13
def qR_Op : String := "QuadMode$Operand"
def qT_Op : u_T := fun k => match k with
  | 0 => ("QuadMode$Operand", "size", "I", false)
  | 1 => ("QuadMode$Operand", "register", "I", false)
  | 2 => ("QuadMode$Operand", "address", "I", false)
  | _ => ("QuadMode$Operand", "value", "I", false)
def qY_Op : Nat → FieldType := fun k => match k with
  | 0 => .int
  | 1 => .int
  | 2 => .int
  | _ => .int
theorem qn_Op : ∀ a, a < 4 → ∀ b, b < 4 → a ≠ b → (qT_Op a).2.1 ≠ (qT_Op b).2.1 := by decide +kernel
theorem qy_Op : ∀ k, k < 4 → parseFieldDescriptor (qT_Op k).2.2.1 = some (qY_Op k) := by decide +kernel
theorem ql_Op_0 : Cond.lays "QuadMode$Operand" "QuadMode$Operand" "size" "I" ∈ qw := qw_in 193 (by decide +kernel) (by decide +kernel)
theorem ql_Op_1 : Cond.lays "QuadMode$Operand" "QuadMode$Operand" "register" "I" ∈ qw := qw_in 195 (by decide +kernel) (by decide +kernel)
theorem ql_Op_2 : Cond.lays "QuadMode$Operand" "QuadMode$Operand" "address" "I" ∈ qw := qw_in 197 (by decide +kernel) (by decide +kernel)
theorem ql_Op_3 : Cond.lays "QuadMode$Operand" "QuadMode$Operand" "value" "I" ∈ qw := qw_in 199 (by decide +kernel) (by decide +kernel)
theorem qi_Op : ∀ w ∈ u_ws qR_Op qT_Op 4, w ∈ qw := fun w h => by
  obtain ⟨k, hk, rfl⟩ := List.mem_map.mp h
  have hk := List.mem_range.mp hk
  rcases (show k = 0 ∨ k = 1 ∨ k = 2 ∨ k = 3 by omega) with rfl | rfl | rfl | rfl
  · exact ql_Op_0
  · exact ql_Op_1
  · exact ql_Op_2
  · exact ql_Op_3
def qR_Pg : String := "QuadMode$Pages"
def qT_Pg : u_T := fun k => match k with
  | 0 => ("QuadMode$Pages", "storage", "LQuadMode$Storage;", true)
  | 1 => ("QuadMode$Pages", "inner", "[I", true)
  | _ => ("QuadMode$Pages", "entry", "I", false)
def qY_Pg : Nat → FieldType := fun k => match k with
  | 0 => .object "QuadMode$Storage"
  | 1 => .array .int
  | _ => .int
theorem qn_Pg : ∀ a, a < 3 → ∀ b, b < 3 → a ≠ b → (qT_Pg a).2.1 ≠ (qT_Pg b).2.1 := by decide +kernel
theorem qy_Pg : ∀ k, k < 3 → parseFieldDescriptor (qT_Pg k).2.2.1 = some (qY_Pg k) := by decide +kernel
theorem ql_Pg_0 : Cond.laysFinal "QuadMode$Pages" "QuadMode$Pages" "storage" "LQuadMode$Storage;" ∈ qw := qw_in 113 (by decide +kernel) (by decide +kernel)
theorem ql_Pg_1 : Cond.laysFinal "QuadMode$Pages" "QuadMode$Pages" "inner" "[I" ∈ qw := qw_in 115 (by decide +kernel) (by decide +kernel)
theorem ql_Pg_2 : Cond.lays "QuadMode$Pages" "QuadMode$Pages" "entry" "I" ∈ qw := qw_in 117 (by decide +kernel) (by decide +kernel)
theorem qi_Pg : ∀ w ∈ u_ws qR_Pg qT_Pg 3, w ∈ qw := fun w h => by
  obtain ⟨k, hk, rfl⟩ := List.mem_map.mp h
  have hk := List.mem_range.mp hk
  rcases (show k = 0 ∨ k = 1 ∨ k = 2 by omega) with rfl | rfl | rfl
  · exact ql_Pg_0
  · exact ql_Pg_1
  · exact ql_Pg_2
def qR_Sp : String := "QuadMode$Specifiers"
def qT_Sp : u_T := fun k => match k with
  | _ => ("QuadMode$Specifiers", "core", "LQuadMode$Core;", true)
def qY_Sp : Nat → FieldType := fun k => match k with
  | _ => .object "QuadMode$Core"
theorem qn_Sp : ∀ a, a < 1 → ∀ b, b < 1 → a ≠ b → (qT_Sp a).2.1 ≠ (qT_Sp b).2.1 := by decide +kernel
theorem qy_Sp : ∀ k, k < 1 → parseFieldDescriptor (qT_Sp k).2.2.1 = some (qY_Sp k) := by decide +kernel
theorem ql_Sp_0 : Cond.laysFinal "QuadMode$Specifiers" "QuadMode$Specifiers" "core" "LQuadMode$Core;" ∈ qw := qw_in 209 (by decide +kernel) (by decide +kernel)
theorem qi_Sp : ∀ w ∈ u_ws qR_Sp qT_Sp 1, w ∈ qw := fun w h => by
  obtain ⟨k, hk, rfl⟩ := List.mem_map.mp h
  have hk := List.mem_range.mp hk
  rcases (show k = 0 by omega) with rfl
  · exact ql_Sp_0
def qR_St : String := "QuadMode$Storage"
def qT_St : u_T := fun k => match k with
  | _ => ("QuadMode$Storage", "cells", "[B", true)
def qY_St : Nat → FieldType := fun k => match k with
  | _ => .array .byte
theorem qn_St : ∀ a, a < 1 → ∀ b, b < 1 → a ≠ b → (qT_St a).2.1 ≠ (qT_St b).2.1 := by decide +kernel
theorem qy_St : ∀ k, k < 1 → parseFieldDescriptor (qT_St k).2.2.1 = some (qY_St k) := by decide +kernel
theorem ql_St_0 : Cond.laysFinal "QuadMode$Storage" "QuadMode$Storage" "cells" "[B" ∈ qw := qw_in 99 (by decide +kernel) (by decide +kernel)
theorem qi_St : ∀ w ∈ u_ws qR_St qT_St 1, w ∈ qw := fun w h => by
  obtain ⟨k, hk, rfl⟩ := List.mem_map.mp h
  have hk := List.mem_range.mp hk
  rcases (show k = 0 by omega) with rfl
  · exact ql_St_0
def qR_X : String := "QuadMode"
def qT_X : u_T := fun k => match k with
  | 0 => ("QuadMode", "storage", "LQuadMode$Storage;", true)
  | 1 => ("QuadMode", "inner", "[I", true)
  | 2 => ("QuadMode", "pages", "LQuadMode$Pages;", true)
  | 3 => ("QuadMode", "core", "LQuadMode$Core;", true)
  | 4 => ("QuadMode", "operands", "[LQuadMode$Operand;", true)
  | 5 => ("QuadMode", "specifiers", "LQuadMode$Specifiers;", true)
  | 6 => ("QuadMode", "codes", "LQuadMode$Codes;", true)
  | 7 => ("QuadMode", "stopped", "I", false)
  | 8 => ("QuadMode", "instructions", "I", false)
  | 9 => ("QuadMode", "latest", "I", false)
  | _ => ("QuadMode", "exceptions", "I", false)
def qY_X : Nat → FieldType := fun k => match k with
  | 0 => .object "QuadMode$Storage"
  | 1 => .array .int
  | 2 => .object "QuadMode$Pages"
  | 3 => .object "QuadMode$Core"
  | 4 => .array (.object "QuadMode$Operand")
  | 5 => .object "QuadMode$Specifiers"
  | 6 => .object "QuadMode$Codes"
  | 7 => .int
  | 8 => .int
  | 9 => .int
  | _ => .int
theorem qn_X : ∀ a, a < 11 → ∀ b, b < 11 → a ≠ b → (qT_X a).2.1 ≠ (qT_X b).2.1 := by decide +kernel
theorem qy_X : ∀ k, k < 11 → parseFieldDescriptor (qT_X k).2.2.1 = some (qY_X k) := by decide +kernel
theorem ql_X_0 : Cond.laysFinal "QuadMode" "QuadMode" "storage" "LQuadMode$Storage;" ∈ qw := qw_in 242 (by decide +kernel) (by decide +kernel)
theorem ql_X_1 : Cond.laysFinal "QuadMode" "QuadMode" "inner" "[I" ∈ qw := qw_in 244 (by decide +kernel) (by decide +kernel)
theorem ql_X_2 : Cond.laysFinal "QuadMode" "QuadMode" "pages" "LQuadMode$Pages;" ∈ qw := qw_in 246 (by decide +kernel) (by decide +kernel)
theorem ql_X_3 : Cond.laysFinal "QuadMode" "QuadMode" "core" "LQuadMode$Core;" ∈ qw := qw_in 248 (by decide +kernel) (by decide +kernel)
theorem ql_X_4 : Cond.laysFinal "QuadMode" "QuadMode" "operands" "[LQuadMode$Operand;" ∈ qw := qw_in 250 (by decide +kernel) (by decide +kernel)
theorem ql_X_5 : Cond.laysFinal "QuadMode" "QuadMode" "specifiers" "LQuadMode$Specifiers;" ∈ qw := qw_in 252 (by decide +kernel) (by decide +kernel)
theorem ql_X_6 : Cond.laysFinal "QuadMode" "QuadMode" "codes" "LQuadMode$Codes;" ∈ qw := qw_in 254 (by decide +kernel) (by decide +kernel)
theorem ql_X_7 : Cond.lays "QuadMode" "QuadMode" "stopped" "I" ∈ qw := qw_in 256 (by decide +kernel) (by decide +kernel)
theorem ql_X_8 : Cond.lays "QuadMode" "QuadMode" "instructions" "I" ∈ qw := qw_in 258 (by decide +kernel) (by decide +kernel)
theorem ql_X_9 : Cond.lays "QuadMode" "QuadMode" "latest" "I" ∈ qw := qw_in 260 (by decide +kernel) (by decide +kernel)
theorem ql_X_10 : Cond.lays "QuadMode" "QuadMode" "exceptions" "I" ∈ qw := qw_in 262 (by decide +kernel) (by decide +kernel)
theorem qi_X : ∀ w ∈ u_ws qR_X qT_X 11, w ∈ qw := fun w h => by
  obtain ⟨k, hk, rfl⟩ := List.mem_map.mp h
  have hk := List.mem_range.mp hk
  rcases (show k = 0 ∨ k = 1 ∨ k = 2 ∨ k = 3 ∨ k = 4 ∨ k = 5 ∨ k = 6 ∨ k = 7 ∨ k = 8 ∨ k = 9 ∨ k = 10 by omega) with rfl | rfl | rfl | rfl | rfl | rfl | rfl | rfl | rfl | rfl | rfl
  · exact ql_X_0
  · exact ql_X_1
  · exact ql_X_2
  · exact ql_X_3
  · exact ql_X_4
  · exact ql_X_5
  · exact ql_X_6
  · exact ql_X_7
  · exact ql_X_8
  · exact ql_X_9
  · exact ql_X_10
def qR_M : String := "QuadModeModel"
def qT_M : u_T := fun k => match k with
  | 0 => ("QuadModeModel", "thrown", "I", false)
  | 1 => ("QuadModeModel", "storage", "[I", true)
  | 2 => ("QuadModeModel", "registers", "[I", true)
  | 3 => ("QuadModeModel", "inner", "[I", true)
  | 4 => ("QuadModeModel", "status", "I", false)
  | 5 => ("QuadModeModel", "rest", "I", false)
  | 6 => ("QuadModeModel", "done", "I", false)
  | 7 => ("QuadModeModel", "latest", "I", false)
  | 8 => ("QuadModeModel", "exceptions", "I", false)
  | 9 => ("QuadModeModel", "oldRegisters", "[I", true)
  | 10 => ("QuadModeModel", "oldInner", "[I", true)
  | 11 => ("QuadModeModel", "oldStatus", "I", false)
  | 12 => ("QuadModeModel", "fault", "I", false)
  | 13 => ("QuadModeModel", "wrongAt", "I", false)
  | 14 => ("QuadModeModel", "flag", "I", false)
  | 15 => ("QuadModeModel", "trap", "I", false)
  | 16 => ("QuadModeModel", "value", "[I", true)
  | 17 => ("QuadModeModel", "where", "[I", true)
  | 18 => ("QuadModeModel", "at", "[I", true)
  | 19 => ("QuadModeModel", "entryAt", "I", false)
  | 20 => ("QuadModeModel", "places", "[I", true)
  | _ => ("QuadModeModel", "entries", "[I", true)
def qY_M : Nat → FieldType := fun k => match k with
  | 0 => .int
  | 1 => .array .int
  | 2 => .array .int
  | 3 => .array .int
  | 4 => .int
  | 5 => .int
  | 6 => .int
  | 7 => .int
  | 8 => .int
  | 9 => .array .int
  | 10 => .array .int
  | 11 => .int
  | 12 => .int
  | 13 => .int
  | 14 => .int
  | 15 => .int
  | 16 => .array .int
  | 17 => .array .int
  | 18 => .array .int
  | 19 => .int
  | 20 => .array .int
  | _ => .array .int
theorem qn_M : ∀ a, a < 22 → ∀ b, b < 22 → a ≠ b → (qT_M a).2.1 ≠ (qT_M b).2.1 := by decide +kernel
theorem qy_M : ∀ k, k < 22 → parseFieldDescriptor (qT_M k).2.2.1 = some (qY_M k) := by decide +kernel
theorem ql_M_0 : Cond.lays "QuadModeModel" "QuadModeModel" "thrown" "I" ∈ qw := qw_in 853 (by decide +kernel) (by decide +kernel)
theorem ql_M_1 : Cond.laysFinal "QuadModeModel" "QuadModeModel" "storage" "[I" ∈ qw := qw_in 855 (by decide +kernel) (by decide +kernel)
theorem ql_M_2 : Cond.laysFinal "QuadModeModel" "QuadModeModel" "registers" "[I" ∈ qw := qw_in 857 (by decide +kernel) (by decide +kernel)
theorem ql_M_3 : Cond.laysFinal "QuadModeModel" "QuadModeModel" "inner" "[I" ∈ qw := qw_in 859 (by decide +kernel) (by decide +kernel)
theorem ql_M_4 : Cond.lays "QuadModeModel" "QuadModeModel" "status" "I" ∈ qw := qw_in 861 (by decide +kernel) (by decide +kernel)
theorem ql_M_5 : Cond.lays "QuadModeModel" "QuadModeModel" "rest" "I" ∈ qw := qw_in 863 (by decide +kernel) (by decide +kernel)
theorem ql_M_6 : Cond.lays "QuadModeModel" "QuadModeModel" "done" "I" ∈ qw := qw_in 865 (by decide +kernel) (by decide +kernel)
theorem ql_M_7 : Cond.lays "QuadModeModel" "QuadModeModel" "latest" "I" ∈ qw := qw_in 867 (by decide +kernel) (by decide +kernel)
theorem ql_M_8 : Cond.lays "QuadModeModel" "QuadModeModel" "exceptions" "I" ∈ qw := qw_in 869 (by decide +kernel) (by decide +kernel)
theorem ql_M_9 : Cond.laysFinal "QuadModeModel" "QuadModeModel" "oldRegisters" "[I" ∈ qw := qw_in 871 (by decide +kernel) (by decide +kernel)
theorem ql_M_10 : Cond.laysFinal "QuadModeModel" "QuadModeModel" "oldInner" "[I" ∈ qw := qw_in 873 (by decide +kernel) (by decide +kernel)
theorem ql_M_11 : Cond.lays "QuadModeModel" "QuadModeModel" "oldStatus" "I" ∈ qw := qw_in 875 (by decide +kernel) (by decide +kernel)
theorem ql_M_12 : Cond.lays "QuadModeModel" "QuadModeModel" "fault" "I" ∈ qw := qw_in 877 (by decide +kernel) (by decide +kernel)
theorem ql_M_13 : Cond.lays "QuadModeModel" "QuadModeModel" "wrongAt" "I" ∈ qw := qw_in 879 (by decide +kernel) (by decide +kernel)
theorem ql_M_14 : Cond.lays "QuadModeModel" "QuadModeModel" "flag" "I" ∈ qw := qw_in 881 (by decide +kernel) (by decide +kernel)
theorem ql_M_15 : Cond.lays "QuadModeModel" "QuadModeModel" "trap" "I" ∈ qw := qw_in 883 (by decide +kernel) (by decide +kernel)
theorem ql_M_16 : Cond.laysFinal "QuadModeModel" "QuadModeModel" "value" "[I" ∈ qw := qw_in 885 (by decide +kernel) (by decide +kernel)
theorem ql_M_17 : Cond.laysFinal "QuadModeModel" "QuadModeModel" "where" "[I" ∈ qw := qw_in 887 (by decide +kernel) (by decide +kernel)
theorem ql_M_18 : Cond.laysFinal "QuadModeModel" "QuadModeModel" "at" "[I" ∈ qw := qw_in 889 (by decide +kernel) (by decide +kernel)
theorem ql_M_19 : Cond.lays "QuadModeModel" "QuadModeModel" "entryAt" "I" ∈ qw := qw_in 891 (by decide +kernel) (by decide +kernel)
theorem ql_M_20 : Cond.laysFinal "QuadModeModel" "QuadModeModel" "places" "[I" ∈ qw := qw_in 893 (by decide +kernel) (by decide +kernel)
theorem ql_M_21 : Cond.laysFinal "QuadModeModel" "QuadModeModel" "entries" "[I" ∈ qw := qw_in 895 (by decide +kernel) (by decide +kernel)
theorem qi_M : ∀ w ∈ u_ws qR_M qT_M 22, w ∈ qw := fun w h => by
  obtain ⟨k, hk, rfl⟩ := List.mem_map.mp h
  have hk := List.mem_range.mp hk
  rcases (show k = 0 ∨ k = 1 ∨ k = 2 ∨ k = 3 ∨ k = 4 ∨ k = 5 ∨ k = 6 ∨ k = 7 ∨ k = 8 ∨ k = 9 ∨ k = 10 ∨ k = 11 ∨ k = 12 ∨ k = 13 ∨ k = 14 ∨ k = 15 ∨ k = 16 ∨ k = 17 ∨ k = 18 ∨ k = 19 ∨ k = 20 ∨ k = 21 by omega) with rfl | rfl | rfl | rfl | rfl | rfl | rfl | rfl | rfl | rfl | rfl | rfl | rfl | rfl | rfl | rfl | rfl | rfl | rfl | rfl | rfl | rfl
  · exact ql_M_0
  · exact ql_M_1
  · exact ql_M_2
  · exact ql_M_3
  · exact ql_M_4
  · exact ql_M_5
  · exact ql_M_6
  · exact ql_M_7
  · exact ql_M_8
  · exact ql_M_9
  · exact ql_M_10
  · exact ql_M_11
  · exact ql_M_12
  · exact ql_M_13
  · exact ql_M_14
  · exact ql_M_15
  · exact ql_M_16
  · exact ql_M_17
  · exact ql_M_18
  · exact ql_M_19
  · exact ql_M_20
  · exact ql_M_21
abbrev qCl : List vw_C := [(qR_Cd, qT_Cd, 4), (qR_Co, qT_Co, 14), (qR_Op, qT_Op, 4), (qR_Pg, qT_Pg, 3), (qR_Sp, qT_Sp, 1), (qR_St, qT_St, 1), (qR_X, qT_X, 11), (qR_M, qT_M, 22)]
abbrev qm_St_putByte_c : ByteArray := prog_7_method_3_code
def qm_St_putByte : MethodName := ⟨qR_St, "putByte", "(II)V"⟩
abbrev qm_X_fill_c : ByteArray := prog_1_method_2_code
def qm_X_fill : MethodName := ⟨qR_X, "fill", "(IJ)V"⟩
abbrev qm_St_longAt_c : ByteArray := prog_7_method_4_code
def qm_St_longAt : MethodName := ⟨qR_St, "longAt", "(I)I"⟩
abbrev qm_X_look_c : ByteArray := prog_1_method_3_code
def qm_X_look : MethodName := ⟨qR_X, "look", "(I)I"⟩
abbrev qm_Co_mode_c : ByteArray := prog_3_method_2_code
def qm_Co_mode : MethodName := ⟨qR_Co, "mode", "()I"⟩
abbrev qm_Co_put_c : ByteArray := prog_3_method_5_code
def qm_Co_put : MethodName := ⟨qR_Co, "put", "(II)V"⟩
abbrev qm_X_set_c : ByteArray := prog_1_method_4_code
def qm_X_set : MethodName := ⟨qR_X, "set", "(II)V"⟩
abbrev qm_Co_get_c : ByteArray := prog_3_method_4_code
def qm_Co_get : MethodName := ⟨qR_Co, "get", "(I)I"⟩
abbrev qm_X_register_c : ByteArray := prog_1_method_5_code
def qm_X_register : MethodName := ⟨qR_X, "register", "(I)I"⟩
abbrev qm_Co_hasInner_c : ByteArray := prog_3_method_6_code
def qm_Co_hasInner : MethodName := ⟨qR_Co, "hasInner", "(I)Z"⟩
abbrev qm_Co_putInner_c : ByteArray := prog_3_method_8_code
def qm_Co_putInner : MethodName := ⟨qR_Co, "putInner", "(II)V"⟩
abbrev qm_X_setInner_c : ByteArray := prog_1_method_6_code
def qm_X_setInner : MethodName := ⟨qR_X, "setInner", "(II)V"⟩
abbrev qm_Co_getInner_c : ByteArray := prog_3_method_7_code
def qm_Co_getInner : MethodName := ⟨qR_Co, "getInner", "(I)I"⟩
abbrev qm_X_inner_c : ByteArray := prog_1_method_7_code
def qm_X_inner : MethodName := ⟨qR_X, "inner", "(I)I"⟩
abbrev qm_X_begin_c : ByteArray := prog_1_method_8_code
def qm_X_begin : MethodName := ⟨qR_X, "begin", "(I)V"⟩
abbrev qm_X_status_c : ByteArray := prog_1_method_9_code
def qm_X_status : MethodName := ⟨qR_X, "status", "()I"⟩
abbrev qm_Co_keep_c : ByteArray := prog_3_method_12_code
def qm_Co_keep : MethodName := ⟨qR_Co, "keep", "()V"⟩
abbrev qm_Pg_pageOf_c : ByteArray := prog_5_method_8_code
def qm_Pg_pageOf : MethodName := ⟨qR_Pg, "pageOf", "(I)I"⟩
abbrev qm_Pg_isThere_c : ByteArray := prog_5_method_4_code
def qm_Pg_isThere : MethodName := ⟨qR_Pg, "isThere", "(II)Z"⟩
abbrev qm_Pg_refusal_c : ByteArray := prog_5_method_9_code
def qm_Pg_refusal : MethodName := ⟨qR_Pg, "refusal", "(II)I"⟩
abbrev qm_Pg_isValid_c : ByteArray := prog_5_method_6_code
def qm_Pg_isValid : MethodName := ⟨qR_Pg, "isValid", "(I)Z"⟩
abbrev qm_Pg_inFrame_c : ByteArray := prog_5_method_7_code
def qm_Pg_inFrame : MethodName := ⟨qR_Pg, "inFrame", "(II)I"⟩
abbrev qm_Pg_grants_c : ByteArray := prog_5_method_5_code
def qm_Pg_grants : MethodName := ⟨qR_Pg, "grants", "(IZI)Z"⟩
abbrev qm_Pg_locate_c : ByteArray := prog_5_method_2_code
def qm_Pg_locate : MethodName := ⟨qR_Pg, "locate", "(IZI)I"⟩
abbrev qm_Pg_faultOf_c : ByteArray := prog_5_method_10_code
def qm_Pg_faultOf : MethodName := ⟨qR_Pg, "faultOf", "(I)I"⟩
abbrev qm_Pg_flagOf_c : ByteArray := prog_5_method_11_code
def qm_Pg_flagOf : MethodName := ⟨qR_Pg, "flagOf", "(I)I"⟩
abbrev qm_Co_refuse_c : ByteArray := prog_3_method_15_code
def qm_Co_refuse : MethodName := ⟨qR_Co, "refuse", "(II)V"⟩
abbrev qm_St_byteAt_c : ByteArray := prog_7_method_2_code
def qm_St_byteAt : MethodName := ⟨qR_St, "byteAt", "(I)I"⟩
abbrev qm_Co_read_c : ByteArray := prog_3_method_17_code
def qm_Co_read : MethodName := ⟨qR_Co, "read", "(II)I"⟩
abbrev qm_Co_fetch_c : ByteArray := prog_3_method_19_code
def qm_Co_fetch : MethodName := ⟨qR_Co, "fetch", "(I)I"⟩
abbrev qm_Cd_isAllowed_c : ByteArray := prog_2_method_2_code
def qm_Cd_isAllowed : MethodName := ⟨qR_Cd, "isAllowed", "(I)Z"⟩
abbrev qm_Co_raise_c : ByteArray := prog_3_method_14_code
def qm_Co_raise : MethodName := ⟨qR_Co, "raise", "(I)V"⟩
abbrev qm_Sp_isNoWay_c : ByteArray := prog_6_method_5_code
def qm_Sp_isNoWay : MethodName := ⟨qR_Sp, "isNoWay", "(I)Z"⟩
abbrev qm_Sp_isAddress_c : ByteArray := prog_6_method_6_code
def qm_Sp_isAddress : MethodName := ⟨qR_Sp, "isAddress", "(C)Z"⟩
abbrev qm_Sp_suits_c : ByteArray := prog_6_method_3_code
def qm_Sp_suits : MethodName := ⟨qR_Sp, "suits", "(IIC)Z"⟩
abbrev qm_Sp_suitsBehindIndexed_c : ByteArray := prog_6_method_4_code
def qm_Sp_suitsBehindIndexed : MethodName := ⟨qR_Sp, "suitsBehindIndexed", "(II)Z"⟩
abbrev qm_Sp_addressBy_c : ByteArray := prog_6_method_8_code
def qm_Sp_addressBy : MethodName := ⟨qR_Sp, "addressBy", "(III)I"⟩
abbrev qm_Sp_isRead_c : ByteArray := prog_6_method_7_code
def qm_Sp_isRead : MethodName := ⟨qR_Sp, "isRead", "(C)Z"⟩
abbrev qm_Sp_find_c : ByteArray := prog_6_method_2_code
def qm_Sp_find : MethodName := ⟨qR_Sp, "find", "(LQuadMode$Operand;C)V"⟩
abbrev qm_Co_pop_c : ByteArray := prog_3_method_21_code
def qm_Co_pop : MethodName := ⟨qR_Co, "pop", "()I"⟩
abbrev qm_Cd_leaveException_c : ByteArray := prog_2_method_7_code
def qm_Cd_leaveException : MethodName := ⟨qR_Cd, "leaveException", "()V"⟩
abbrev qm_Cd_leaveFrame_c : ByteArray := prog_2_method_27_code
def qm_Cd_leaveFrame : MethodName := ⟨qR_Cd, "leaveFrame", "()V"⟩
abbrev qm_Cd_giveInner_c : ByteArray := prog_2_method_8_code
def qm_Cd_giveInner : MethodName := ⟨qR_Cd, "giveInner", "(II)V"⟩
abbrev qm_Co_setConditions_c : ByteArray := prog_3_method_11_code
def qm_Co_setConditions : MethodName := ⟨qR_Co, "setConditions", "(ZZZZ)V"⟩
abbrev qm_Co_conclude_c : ByteArray := prog_3_method_10_code
def qm_Co_conclude : MethodName := ⟨qR_Co, "conclude", "(IZZ)V"⟩
abbrev qm_Pg_markModified_c : ByteArray := prog_5_method_3_code
def qm_Pg_markModified : MethodName := ⟨qR_Pg, "markModified", "(I)V"⟩
abbrev qm_Co_write_c : ByteArray := prog_3_method_18_code
def qm_Co_write : MethodName := ⟨qR_Co, "write", "(III)V"⟩
abbrev qm_Cd_store_c : ByteArray := prog_2_method_6_code
def qm_Cd_store : MethodName := ⟨qR_Cd, "store", "(LQuadMode$Operand;I)V"⟩
abbrev qm_Cd_takeInner_c : ByteArray := prog_2_method_9_code
def qm_Cd_takeInner : MethodName := ⟨qR_Cd, "takeInner", "(I)V"⟩
abbrev qm_Cd_shift_c : ByteArray := prog_2_method_20_code
def qm_Cd_shift : MethodName := ⟨qR_Cd, "shift", "(II)V"⟩
abbrev qm_Co_push_c : ByteArray := prog_3_method_20_code
def qm_Co_push : MethodName := ⟨qR_Co, "push", "(I)V"⟩
abbrev qm_Cd_enterFrame_c : ByteArray := prog_2_method_26_code
def qm_Cd_enterFrame : MethodName := ⟨qR_Cd, "enterFrame", "()V"⟩
abbrev qm_Co_previous_c : ByteArray := prog_3_method_3_code
def qm_Co_previous : MethodName := ⟨qR_Co, "previous", "()I"⟩
abbrev qm_Co_admits_c : ByteArray := prog_3_method_16_code
def qm_Co_admits : MethodName := ⟨qR_Co, "admits", "(IZI)Z"⟩
abbrev qm_Cd_probe_c : ByteArray := prog_2_method_28_code
def qm_Cd_probe : MethodName := ⟨qR_Cd, "probe", "(Z)V"⟩
abbrev qm_Cd_moved_c : ByteArray := prog_2_method_11_code
def qm_Cd_moved : MethodName := ⟨qR_Cd, "moved", "(II)I"⟩
abbrev qm_Co_has_c : ByteArray := prog_3_method_9_code
def qm_Co_has : MethodName := ⟨qR_Co, "has", "(I)Z"⟩
abbrev qm_Cd_move_c : ByteArray := prog_2_method_10_code
def qm_Cd_move : MethodName := ⟨qR_Cd, "move", "(I)V"⟩
abbrev qm_JI_compare_c : ByteArray := prog_14_method_40_code
def qm_JI_compare : MethodName := ⟨"java/lang/Integer", "compare", "(II)I"⟩
abbrev qm_JI_compareUnsigned_c : ByteArray := prog_14_method_41_code
def qm_JI_compareUnsigned : MethodName := ⟨"java/lang/Integer", "compareUnsigned", "(II)I"⟩
abbrev qm_Cd_compare_c : ByteArray := prog_2_method_12_code
def qm_Cd_compare : MethodName := ⟨qR_Cd, "compare", "(I)V"⟩
abbrev qm_Cd_add_c : ByteArray := prog_2_method_15_code
def qm_Cd_add : MethodName := ⟨qR_Cd, "add", "(II)I"⟩
abbrev qm_Cd_subtract_c : ByteArray := prog_2_method_16_code
def qm_Cd_subtract : MethodName := ⟨qR_Cd, "subtract", "(II)I"⟩
abbrev qm_Cd_multiply_c : ByteArray := prog_2_method_17_code
def qm_Cd_multiply : MethodName := ⟨qR_Cd, "multiply", "(II)I"⟩
abbrev qm_Cd_divide_c : ByteArray := prog_2_method_18_code
def qm_Cd_divide : MethodName := ⟨qR_Cd, "divide", "(II)I"⟩
abbrev qm_Cd_bits_c : ByteArray := prog_2_method_19_code
def qm_Cd_bits : MethodName := ⟨qR_Cd, "bits", "(I)I"⟩
abbrev qm_Cd_calculated_c : ByteArray := prog_2_method_14_code
def qm_Cd_calculated : MethodName := ⟨qR_Cd, "calculated", "(III)I"⟩
abbrev qm_Cd_calculate_c : ByteArray := prog_2_method_13_code
def qm_Cd_calculate : MethodName := ⟨qR_Cd, "calculate", "(I)V"⟩
abbrev qm_Cd_handAddress_c : ByteArray := prog_2_method_21_code
def qm_Cd_handAddress : MethodName := ⟨qR_Cd, "handAddress", "(I)V"⟩
abbrev qm_Cd_go_c : ByteArray := prog_2_method_22_code
def qm_Cd_go : MethodName := ⟨qR_Cd, "go", "(I)V"⟩
abbrev qm_Cd_holds_c : ByteArray := prog_2_method_24_code
def qm_Cd_holds : MethodName := ⟨qR_Cd, "holds", "(I)Z"⟩
abbrev qm_Cd_branch_c : ByteArray := prog_2_method_23_code
def qm_Cd_branch : MethodName := ⟨qR_Cd, "branch", "(I)V"⟩
abbrev qm_Cd_count_c : ByteArray := prog_2_method_25_code
def qm_Cd_count : MethodName := ⟨qR_Cd, "count", "(I)V"⟩
abbrev qm_Cd_noteOverflow_c : ByteArray := prog_2_method_5_code
def qm_Cd_noteOverflow : MethodName := ⟨qR_Cd, "noteOverflow", "(I)V"⟩
abbrev qm_Cd_execute_c : ByteArray := prog_2_method_4_code
def qm_Cd_execute : MethodName := ⟨qR_Cd, "execute", "(I)V"⟩
abbrev qm_Co_takeBack_c : ByteArray := prog_3_method_13_code
def qm_Co_takeBack : MethodName := ⟨qR_Co, "takeBack", "()V"⟩
abbrev qm_X_except_c : ByteArray := prog_1_method_15_code
def qm_X_except : MethodName := ⟨qR_X, "except", "(IIIII)V"⟩
abbrev qm_X_reach_c : ByteArray := prog_1_method_11_code
def qm_X_reach : MethodName := ⟨qR_X, "reach", "(IZI)I"⟩
abbrev qm_X_state_c : ByteArray := prog_1_method_12_code
def qm_X_state : MethodName := ⟨qR_X, "state", "(I)I"⟩
abbrev qm_M_thrown_c : ByteArray := prog_9_method_2_code
def qm_M_thrown : MethodName := ⟨qR_M, "thrown", "()I"⟩
abbrev qm_M_fill_c : ByteArray := prog_9_method_40_code
def qm_M_fill : MethodName := ⟨qR_M, "fill", "(IJ)V"⟩
abbrev qm_M_bare_c : ByteArray := prog_9_method_5_code
def qm_M_bare : MethodName := ⟨qR_M, "bare", "(I)I"⟩
abbrev qm_M_look_c : ByteArray := prog_9_method_41_code
def qm_M_look : MethodName := ⟨qR_M, "look", "(I)I"⟩
abbrev qm_M_mode_c : ByteArray := prog_9_method_4_code
def qm_M_mode : MethodName := ⟨qR_M, "mode", "()I"⟩
abbrev qm_M_put_c : ByteArray := prog_9_method_13_code
def qm_M_put : MethodName := ⟨qR_M, "put", "(II)V"⟩
abbrev qm_M_set_c : ByteArray := prog_9_method_42_code
def qm_M_set : MethodName := ⟨qR_M, "set", "(II)V"⟩
abbrev qm_M_fail_c : ByteArray := prog_9_method_3_code
def qm_M_fail : MethodName := ⟨qR_M, "fail", "(I)I"⟩
abbrev qm_M_get_c : ByteArray := prog_9_method_12_code
def qm_M_get : MethodName := ⟨qR_M, "get", "(I)I"⟩
abbrev qm_M_register_c : ByteArray := prog_9_method_43_code
def qm_M_register : MethodName := ⟨qR_M, "register", "(I)I"⟩
abbrev qm_M_isInner_c : ByteArray := prog_9_method_14_code
def qm_M_isInner : MethodName := ⟨qR_M, "isInner", "(I)Z"⟩
abbrev qm_M_setInner_c : ByteArray := prog_9_method_44_code
def qm_M_setInner : MethodName := ⟨qR_M, "setInner", "(II)V"⟩
abbrev qm_M_inner_c : ByteArray := prog_9_method_45_code
def qm_M_inner : MethodName := ⟨qR_M, "inner", "(I)I"⟩
abbrev qm_M_begin_c : ByteArray := prog_9_method_46_code
def qm_M_begin : MethodName := ⟨qR_M, "begin", "(I)V"⟩
abbrev qm_M_status_c : ByteArray := prog_9_method_47_code
def qm_M_status : MethodName := ⟨qR_M, "status", "()I"⟩
abbrev qm_M_keep_c : ByteArray := prog_9_method_17_code
def qm_M_keep : MethodName := ⟨qR_M, "keep", "()V"⟩
abbrev qm_M_below_c : ByteArray := prog_9_method_6_code
def qm_M_below : MethodName := ⟨qR_M, "below", "(II)Z"⟩
abbrev qm_M_find_c : ByteArray := prog_9_method_7_code
def qm_M_find : MethodName := ⟨qR_M, "find", "(IZI)I"⟩
abbrev qm_M_wrong_c : ByteArray := prog_9_method_8_code
def qm_M_wrong : MethodName := ⟨qR_M, "wrong", "(III)V"⟩
abbrev qm_M_readByte_c : ByteArray := prog_9_method_9_code
def qm_M_readByte : MethodName := ⟨qR_M, "readByte", "(I)I"⟩
abbrev qm_M_next_c : ByteArray := prog_9_method_19_code
def qm_M_next : MethodName := ⟨qR_M, "next", "()I"⟩
abbrev qm_M_shape_c : ByteArray := prog_9_method_21_code
def qm_M_shape : MethodName := ⟨qR_M, "shape", "(I)I"⟩
abbrev qm_M_signed_c : ByteArray := prog_9_method_20_code
def qm_M_signed : MethodName := ⟨qR_M, "signed", "(I)I"⟩
abbrev qm_M_readLong_c : ByteArray := prog_9_method_10_code
def qm_M_readLong : MethodName := ⟨qR_M, "readLong", "(I)I"⟩
abbrev qm_M_operand_c : ByteArray := prog_9_method_22_code
def qm_M_operand : MethodName := ⟨qR_M, "operand", "(II)V"⟩
abbrev qm_M_pop_c : ByteArray := prog_9_method_16_code
def qm_M_pop : MethodName := ⟨qR_M, "pop", "()I"⟩
abbrev qm_M_endException_c : ByteArray := prog_9_method_32_code
def qm_M_endException : MethodName := ⟨qR_M, "endException", "()V"⟩
abbrev qm_M_comeBack_c : ByteArray := prog_9_method_31_code
def qm_M_comeBack : MethodName := ⟨qR_M, "comeBack", "()V"⟩
abbrev qm_M_mark_c : ByteArray := prog_9_method_25_code
def qm_M_mark : MethodName := ⟨qR_M, "mark", "(IZZ)V"⟩
abbrev qm_M_write_c : ByteArray := prog_9_method_11_code
def qm_M_write : MethodName := ⟨qR_M, "write", "(III)V"⟩
abbrev qm_M_give_c : ByteArray := prog_9_method_23_code
def qm_M_give : MethodName := ⟨qR_M, "give", "(III)V"⟩
abbrev qm_M_innerOnes_c : ByteArray := prog_9_method_34_code
def qm_M_innerOnes : MethodName := ⟨qR_M, "innerOnes", "(I)V"⟩
abbrev qm_M_has_c : ByteArray := prog_9_method_24_code
def qm_M_has : MethodName := ⟨qR_M, "has", "(I)Z"⟩
abbrev qm_M_push_c : ByteArray := prog_9_method_15_code
def qm_M_push : MethodName := ⟨qR_M, "push", "(I)V"⟩
abbrev qm_M_move_c : ByteArray := prog_9_method_35_code
def qm_M_move : MethodName := ⟨qR_M, "move", "(I)V"⟩
abbrev qm_M_reckon_c : ByteArray := prog_9_method_26_code
def qm_M_reckon : MethodName := ⟨qR_M, "reckon", "(IIII)V"⟩
abbrev qm_M_shift_c : ByteArray := prog_9_method_27_code
def qm_M_shift : MethodName := ⟨qR_M, "shift", "(II)V"⟩
abbrev qm_M_go_c : ByteArray := prog_9_method_36_code
def qm_M_go : MethodName := ⟨qR_M, "go", "(I)V"⟩
abbrev qm_M_isMet_c : ByteArray := prog_9_method_28_code
def qm_M_isMet : MethodName := ⟨qR_M, "isMet", "(I)Z"⟩
abbrev qm_M_count_c : ByteArray := prog_9_method_29_code
def qm_M_count : MethodName := ⟨qR_M, "count", "(I)V"⟩
abbrev qm_M_callFrame_c : ByteArray := prog_9_method_30_code
def qm_M_callFrame : MethodName := ⟨qR_M, "callFrame", "()V"⟩
abbrev qm_M_probe_c : ByteArray := prog_9_method_33_code
def qm_M_probe : MethodName := ⟨qR_M, "probe", "(Z)V"⟩
abbrev qm_M_work_c : ByteArray := prog_9_method_37_code
def qm_M_work : MethodName := ⟨qR_M, "work", "(I)V"⟩
abbrev qm_M_bringBack_c : ByteArray := prog_9_method_18_code
def qm_M_bringBack : MethodName := ⟨qR_M, "bringBack", "()V"⟩
abbrev qm_M_raise_c : ByteArray := prog_9_method_38_code
def qm_M_raise : MethodName := ⟨qR_M, "raise", "(III)V"⟩
abbrev qm_M_instruction_c : ByteArray := prog_9_method_39_code
def qm_M_instruction : MethodName := ⟨qR_M, "instruction", "()V"⟩
abbrev qm_M_run_c : ByteArray := prog_9_method_48_code
def qm_M_run : MethodName := ⟨qR_M, "run", "(I)I"⟩
abbrev qm_M_reach_c : ByteArray := prog_9_method_49_code
def qm_M_reach : MethodName := ⟨qR_M, "reach", "(IZI)I"⟩
abbrev qm_M_state_c : ByteArray := prog_9_method_50_code
def qm_M_state : MethodName := ⟨qR_M, "state", "(I)I"⟩
theorem qm_St_putByte_d : qm_St_putByte.cls ≠ "java/lang/invoke/MethodHandle" ∧ qm_St_putByte.cls ≠ "java/lang/invoke/VarHandle" ∧ (parseMethodDescriptor qm_St_putByte.desc).map (fun d => d.parameters.length) = some 2 := by decide +kernel
theorem qm_X_fill_d : qm_X_fill.cls ≠ "java/lang/invoke/MethodHandle" ∧ qm_X_fill.cls ≠ "java/lang/invoke/VarHandle" ∧ (parseMethodDescriptor qm_X_fill.desc).map (fun d => d.parameters.length) = some 2 := by decide +kernel
theorem qm_St_longAt_d : qm_St_longAt.cls ≠ "java/lang/invoke/MethodHandle" ∧ qm_St_longAt.cls ≠ "java/lang/invoke/VarHandle" ∧ (parseMethodDescriptor qm_St_longAt.desc).map (fun d => d.parameters.length) = some 1 := by decide +kernel
theorem qm_X_look_d : qm_X_look.cls ≠ "java/lang/invoke/MethodHandle" ∧ qm_X_look.cls ≠ "java/lang/invoke/VarHandle" ∧ (parseMethodDescriptor qm_X_look.desc).map (fun d => d.parameters.length) = some 1 := by decide +kernel
theorem qm_Co_mode_d : qm_Co_mode.cls ≠ "java/lang/invoke/MethodHandle" ∧ qm_Co_mode.cls ≠ "java/lang/invoke/VarHandle" ∧ (parseMethodDescriptor qm_Co_mode.desc).map (fun d => d.parameters.length) = some 0 := by decide +kernel
theorem qm_Co_put_d : qm_Co_put.cls ≠ "java/lang/invoke/MethodHandle" ∧ qm_Co_put.cls ≠ "java/lang/invoke/VarHandle" ∧ (parseMethodDescriptor qm_Co_put.desc).map (fun d => d.parameters.length) = some 2 := by decide +kernel
theorem qm_X_set_d : qm_X_set.cls ≠ "java/lang/invoke/MethodHandle" ∧ qm_X_set.cls ≠ "java/lang/invoke/VarHandle" ∧ (parseMethodDescriptor qm_X_set.desc).map (fun d => d.parameters.length) = some 2 := by decide +kernel
theorem qm_Co_get_d : qm_Co_get.cls ≠ "java/lang/invoke/MethodHandle" ∧ qm_Co_get.cls ≠ "java/lang/invoke/VarHandle" ∧ (parseMethodDescriptor qm_Co_get.desc).map (fun d => d.parameters.length) = some 1 := by decide +kernel
theorem qm_X_register_d : qm_X_register.cls ≠ "java/lang/invoke/MethodHandle" ∧ qm_X_register.cls ≠ "java/lang/invoke/VarHandle" ∧ (parseMethodDescriptor qm_X_register.desc).map (fun d => d.parameters.length) = some 1 := by decide +kernel
theorem qm_Co_hasInner_d : qm_Co_hasInner.cls ≠ "java/lang/invoke/MethodHandle" ∧ qm_Co_hasInner.cls ≠ "java/lang/invoke/VarHandle" ∧ (parseMethodDescriptor qm_Co_hasInner.desc).map (fun d => d.parameters.length) = some 1 := by decide +kernel
theorem qm_Co_putInner_d : qm_Co_putInner.cls ≠ "java/lang/invoke/MethodHandle" ∧ qm_Co_putInner.cls ≠ "java/lang/invoke/VarHandle" ∧ (parseMethodDescriptor qm_Co_putInner.desc).map (fun d => d.parameters.length) = some 2 := by decide +kernel
theorem qm_X_setInner_d : qm_X_setInner.cls ≠ "java/lang/invoke/MethodHandle" ∧ qm_X_setInner.cls ≠ "java/lang/invoke/VarHandle" ∧ (parseMethodDescriptor qm_X_setInner.desc).map (fun d => d.parameters.length) = some 2 := by decide +kernel
theorem qm_Co_getInner_d : qm_Co_getInner.cls ≠ "java/lang/invoke/MethodHandle" ∧ qm_Co_getInner.cls ≠ "java/lang/invoke/VarHandle" ∧ (parseMethodDescriptor qm_Co_getInner.desc).map (fun d => d.parameters.length) = some 1 := by decide +kernel
theorem qm_X_inner_d : qm_X_inner.cls ≠ "java/lang/invoke/MethodHandle" ∧ qm_X_inner.cls ≠ "java/lang/invoke/VarHandle" ∧ (parseMethodDescriptor qm_X_inner.desc).map (fun d => d.parameters.length) = some 1 := by decide +kernel
theorem qm_X_begin_d : qm_X_begin.cls ≠ "java/lang/invoke/MethodHandle" ∧ qm_X_begin.cls ≠ "java/lang/invoke/VarHandle" ∧ (parseMethodDescriptor qm_X_begin.desc).map (fun d => d.parameters.length) = some 1 := by decide +kernel
theorem qm_X_status_d : qm_X_status.cls ≠ "java/lang/invoke/MethodHandle" ∧ qm_X_status.cls ≠ "java/lang/invoke/VarHandle" ∧ (parseMethodDescriptor qm_X_status.desc).map (fun d => d.parameters.length) = some 0 := by decide +kernel
theorem qm_Co_keep_d : qm_Co_keep.cls ≠ "java/lang/invoke/MethodHandle" ∧ qm_Co_keep.cls ≠ "java/lang/invoke/VarHandle" ∧ (parseMethodDescriptor qm_Co_keep.desc).map (fun d => d.parameters.length) = some 0 := by decide +kernel
theorem qm_Pg_pageOf_d : qm_Pg_pageOf.cls ≠ "java/lang/invoke/MethodHandle" ∧ qm_Pg_pageOf.cls ≠ "java/lang/invoke/VarHandle" ∧ (parseMethodDescriptor qm_Pg_pageOf.desc).map (fun d => d.parameters.length) = some 1 := by decide +kernel
theorem qm_Pg_isThere_d : qm_Pg_isThere.cls ≠ "java/lang/invoke/MethodHandle" ∧ qm_Pg_isThere.cls ≠ "java/lang/invoke/VarHandle" ∧ (parseMethodDescriptor qm_Pg_isThere.desc).map (fun d => d.parameters.length) = some 2 := by decide +kernel
theorem qm_Pg_refusal_d : qm_Pg_refusal.cls ≠ "java/lang/invoke/MethodHandle" ∧ qm_Pg_refusal.cls ≠ "java/lang/invoke/VarHandle" ∧ (parseMethodDescriptor qm_Pg_refusal.desc).map (fun d => d.parameters.length) = some 2 := by decide +kernel
theorem qm_Pg_isValid_d : qm_Pg_isValid.cls ≠ "java/lang/invoke/MethodHandle" ∧ qm_Pg_isValid.cls ≠ "java/lang/invoke/VarHandle" ∧ (parseMethodDescriptor qm_Pg_isValid.desc).map (fun d => d.parameters.length) = some 1 := by decide +kernel
theorem qm_Pg_inFrame_d : qm_Pg_inFrame.cls ≠ "java/lang/invoke/MethodHandle" ∧ qm_Pg_inFrame.cls ≠ "java/lang/invoke/VarHandle" ∧ (parseMethodDescriptor qm_Pg_inFrame.desc).map (fun d => d.parameters.length) = some 2 := by decide +kernel
theorem qm_Pg_grants_d : qm_Pg_grants.cls ≠ "java/lang/invoke/MethodHandle" ∧ qm_Pg_grants.cls ≠ "java/lang/invoke/VarHandle" ∧ (parseMethodDescriptor qm_Pg_grants.desc).map (fun d => d.parameters.length) = some 3 := by decide +kernel
theorem qm_Pg_locate_d : qm_Pg_locate.cls ≠ "java/lang/invoke/MethodHandle" ∧ qm_Pg_locate.cls ≠ "java/lang/invoke/VarHandle" ∧ (parseMethodDescriptor qm_Pg_locate.desc).map (fun d => d.parameters.length) = some 3 := by decide +kernel
theorem qm_Pg_faultOf_d : qm_Pg_faultOf.cls ≠ "java/lang/invoke/MethodHandle" ∧ qm_Pg_faultOf.cls ≠ "java/lang/invoke/VarHandle" ∧ (parseMethodDescriptor qm_Pg_faultOf.desc).map (fun d => d.parameters.length) = some 1 := by decide +kernel
theorem qm_Pg_flagOf_d : qm_Pg_flagOf.cls ≠ "java/lang/invoke/MethodHandle" ∧ qm_Pg_flagOf.cls ≠ "java/lang/invoke/VarHandle" ∧ (parseMethodDescriptor qm_Pg_flagOf.desc).map (fun d => d.parameters.length) = some 1 := by decide +kernel
theorem qm_Co_refuse_d : qm_Co_refuse.cls ≠ "java/lang/invoke/MethodHandle" ∧ qm_Co_refuse.cls ≠ "java/lang/invoke/VarHandle" ∧ (parseMethodDescriptor qm_Co_refuse.desc).map (fun d => d.parameters.length) = some 2 := by decide +kernel
theorem qm_St_byteAt_d : qm_St_byteAt.cls ≠ "java/lang/invoke/MethodHandle" ∧ qm_St_byteAt.cls ≠ "java/lang/invoke/VarHandle" ∧ (parseMethodDescriptor qm_St_byteAt.desc).map (fun d => d.parameters.length) = some 1 := by decide +kernel
theorem qm_Co_read_d : qm_Co_read.cls ≠ "java/lang/invoke/MethodHandle" ∧ qm_Co_read.cls ≠ "java/lang/invoke/VarHandle" ∧ (parseMethodDescriptor qm_Co_read.desc).map (fun d => d.parameters.length) = some 2 := by decide +kernel
theorem qm_Co_fetch_d : qm_Co_fetch.cls ≠ "java/lang/invoke/MethodHandle" ∧ qm_Co_fetch.cls ≠ "java/lang/invoke/VarHandle" ∧ (parseMethodDescriptor qm_Co_fetch.desc).map (fun d => d.parameters.length) = some 1 := by decide +kernel
theorem qm_Cd_isAllowed_d : qm_Cd_isAllowed.cls ≠ "java/lang/invoke/MethodHandle" ∧ qm_Cd_isAllowed.cls ≠ "java/lang/invoke/VarHandle" ∧ (parseMethodDescriptor qm_Cd_isAllowed.desc).map (fun d => d.parameters.length) = some 1 := by decide +kernel
theorem qm_Co_raise_d : qm_Co_raise.cls ≠ "java/lang/invoke/MethodHandle" ∧ qm_Co_raise.cls ≠ "java/lang/invoke/VarHandle" ∧ (parseMethodDescriptor qm_Co_raise.desc).map (fun d => d.parameters.length) = some 1 := by decide +kernel
theorem qm_Sp_isNoWay_d : qm_Sp_isNoWay.cls ≠ "java/lang/invoke/MethodHandle" ∧ qm_Sp_isNoWay.cls ≠ "java/lang/invoke/VarHandle" ∧ (parseMethodDescriptor qm_Sp_isNoWay.desc).map (fun d => d.parameters.length) = some 1 := by decide +kernel
theorem qm_Sp_isAddress_d : qm_Sp_isAddress.cls ≠ "java/lang/invoke/MethodHandle" ∧ qm_Sp_isAddress.cls ≠ "java/lang/invoke/VarHandle" ∧ (parseMethodDescriptor qm_Sp_isAddress.desc).map (fun d => d.parameters.length) = some 1 := by decide +kernel
theorem qm_Sp_suits_d : qm_Sp_suits.cls ≠ "java/lang/invoke/MethodHandle" ∧ qm_Sp_suits.cls ≠ "java/lang/invoke/VarHandle" ∧ (parseMethodDescriptor qm_Sp_suits.desc).map (fun d => d.parameters.length) = some 3 := by decide +kernel
theorem qm_Sp_suitsBehindIndexed_d : qm_Sp_suitsBehindIndexed.cls ≠ "java/lang/invoke/MethodHandle" ∧ qm_Sp_suitsBehindIndexed.cls ≠ "java/lang/invoke/VarHandle" ∧ (parseMethodDescriptor qm_Sp_suitsBehindIndexed.desc).map (fun d => d.parameters.length) = some 2 := by decide +kernel
theorem qm_Sp_addressBy_d : qm_Sp_addressBy.cls ≠ "java/lang/invoke/MethodHandle" ∧ qm_Sp_addressBy.cls ≠ "java/lang/invoke/VarHandle" ∧ (parseMethodDescriptor qm_Sp_addressBy.desc).map (fun d => d.parameters.length) = some 3 := by decide +kernel
theorem qm_Sp_isRead_d : qm_Sp_isRead.cls ≠ "java/lang/invoke/MethodHandle" ∧ qm_Sp_isRead.cls ≠ "java/lang/invoke/VarHandle" ∧ (parseMethodDescriptor qm_Sp_isRead.desc).map (fun d => d.parameters.length) = some 1 := by decide +kernel
theorem qm_Sp_find_d : qm_Sp_find.cls ≠ "java/lang/invoke/MethodHandle" ∧ qm_Sp_find.cls ≠ "java/lang/invoke/VarHandle" ∧ (parseMethodDescriptor qm_Sp_find.desc).map (fun d => d.parameters.length) = some 2 := by decide +kernel
theorem qm_Co_pop_d : qm_Co_pop.cls ≠ "java/lang/invoke/MethodHandle" ∧ qm_Co_pop.cls ≠ "java/lang/invoke/VarHandle" ∧ (parseMethodDescriptor qm_Co_pop.desc).map (fun d => d.parameters.length) = some 0 := by decide +kernel
theorem qm_Cd_leaveException_d : qm_Cd_leaveException.cls ≠ "java/lang/invoke/MethodHandle" ∧ qm_Cd_leaveException.cls ≠ "java/lang/invoke/VarHandle" ∧ (parseMethodDescriptor qm_Cd_leaveException.desc).map (fun d => d.parameters.length) = some 0 := by decide +kernel
theorem qm_Cd_leaveFrame_d : qm_Cd_leaveFrame.cls ≠ "java/lang/invoke/MethodHandle" ∧ qm_Cd_leaveFrame.cls ≠ "java/lang/invoke/VarHandle" ∧ (parseMethodDescriptor qm_Cd_leaveFrame.desc).map (fun d => d.parameters.length) = some 0 := by decide +kernel
theorem qm_Cd_giveInner_d : qm_Cd_giveInner.cls ≠ "java/lang/invoke/MethodHandle" ∧ qm_Cd_giveInner.cls ≠ "java/lang/invoke/VarHandle" ∧ (parseMethodDescriptor qm_Cd_giveInner.desc).map (fun d => d.parameters.length) = some 2 := by decide +kernel
theorem qm_Co_setConditions_d : qm_Co_setConditions.cls ≠ "java/lang/invoke/MethodHandle" ∧ qm_Co_setConditions.cls ≠ "java/lang/invoke/VarHandle" ∧ (parseMethodDescriptor qm_Co_setConditions.desc).map (fun d => d.parameters.length) = some 4 := by decide +kernel
theorem qm_Co_conclude_d : qm_Co_conclude.cls ≠ "java/lang/invoke/MethodHandle" ∧ qm_Co_conclude.cls ≠ "java/lang/invoke/VarHandle" ∧ (parseMethodDescriptor qm_Co_conclude.desc).map (fun d => d.parameters.length) = some 3 := by decide +kernel
theorem qm_Pg_markModified_d : qm_Pg_markModified.cls ≠ "java/lang/invoke/MethodHandle" ∧ qm_Pg_markModified.cls ≠ "java/lang/invoke/VarHandle" ∧ (parseMethodDescriptor qm_Pg_markModified.desc).map (fun d => d.parameters.length) = some 1 := by decide +kernel
theorem qm_Co_write_d : qm_Co_write.cls ≠ "java/lang/invoke/MethodHandle" ∧ qm_Co_write.cls ≠ "java/lang/invoke/VarHandle" ∧ (parseMethodDescriptor qm_Co_write.desc).map (fun d => d.parameters.length) = some 3 := by decide +kernel
theorem qm_Cd_store_d : qm_Cd_store.cls ≠ "java/lang/invoke/MethodHandle" ∧ qm_Cd_store.cls ≠ "java/lang/invoke/VarHandle" ∧ (parseMethodDescriptor qm_Cd_store.desc).map (fun d => d.parameters.length) = some 2 := by decide +kernel
theorem qm_Cd_takeInner_d : qm_Cd_takeInner.cls ≠ "java/lang/invoke/MethodHandle" ∧ qm_Cd_takeInner.cls ≠ "java/lang/invoke/VarHandle" ∧ (parseMethodDescriptor qm_Cd_takeInner.desc).map (fun d => d.parameters.length) = some 1 := by decide +kernel
theorem qm_Cd_shift_d : qm_Cd_shift.cls ≠ "java/lang/invoke/MethodHandle" ∧ qm_Cd_shift.cls ≠ "java/lang/invoke/VarHandle" ∧ (parseMethodDescriptor qm_Cd_shift.desc).map (fun d => d.parameters.length) = some 2 := by decide +kernel
theorem qm_Co_push_d : qm_Co_push.cls ≠ "java/lang/invoke/MethodHandle" ∧ qm_Co_push.cls ≠ "java/lang/invoke/VarHandle" ∧ (parseMethodDescriptor qm_Co_push.desc).map (fun d => d.parameters.length) = some 1 := by decide +kernel
theorem qm_Cd_enterFrame_d : qm_Cd_enterFrame.cls ≠ "java/lang/invoke/MethodHandle" ∧ qm_Cd_enterFrame.cls ≠ "java/lang/invoke/VarHandle" ∧ (parseMethodDescriptor qm_Cd_enterFrame.desc).map (fun d => d.parameters.length) = some 0 := by decide +kernel
theorem qm_Co_previous_d : qm_Co_previous.cls ≠ "java/lang/invoke/MethodHandle" ∧ qm_Co_previous.cls ≠ "java/lang/invoke/VarHandle" ∧ (parseMethodDescriptor qm_Co_previous.desc).map (fun d => d.parameters.length) = some 0 := by decide +kernel
theorem qm_Co_admits_d : qm_Co_admits.cls ≠ "java/lang/invoke/MethodHandle" ∧ qm_Co_admits.cls ≠ "java/lang/invoke/VarHandle" ∧ (parseMethodDescriptor qm_Co_admits.desc).map (fun d => d.parameters.length) = some 3 := by decide +kernel
theorem qm_Cd_probe_d : qm_Cd_probe.cls ≠ "java/lang/invoke/MethodHandle" ∧ qm_Cd_probe.cls ≠ "java/lang/invoke/VarHandle" ∧ (parseMethodDescriptor qm_Cd_probe.desc).map (fun d => d.parameters.length) = some 1 := by decide +kernel
theorem qm_Cd_moved_d : qm_Cd_moved.cls ≠ "java/lang/invoke/MethodHandle" ∧ qm_Cd_moved.cls ≠ "java/lang/invoke/VarHandle" ∧ (parseMethodDescriptor qm_Cd_moved.desc).map (fun d => d.parameters.length) = some 2 := by decide +kernel
theorem qm_Co_has_d : qm_Co_has.cls ≠ "java/lang/invoke/MethodHandle" ∧ qm_Co_has.cls ≠ "java/lang/invoke/VarHandle" ∧ (parseMethodDescriptor qm_Co_has.desc).map (fun d => d.parameters.length) = some 1 := by decide +kernel
theorem qm_Cd_move_d : qm_Cd_move.cls ≠ "java/lang/invoke/MethodHandle" ∧ qm_Cd_move.cls ≠ "java/lang/invoke/VarHandle" ∧ (parseMethodDescriptor qm_Cd_move.desc).map (fun d => d.parameters.length) = some 1 := by decide +kernel
theorem qm_JI_compare_d : qm_JI_compare.cls ≠ "java/lang/invoke/MethodHandle" ∧ qm_JI_compare.cls ≠ "java/lang/invoke/VarHandle" ∧ (parseMethodDescriptor qm_JI_compare.desc).map (fun d => d.parameters.length) = some 2 := by decide +kernel
theorem qm_JI_compareUnsigned_d : qm_JI_compareUnsigned.cls ≠ "java/lang/invoke/MethodHandle" ∧ qm_JI_compareUnsigned.cls ≠ "java/lang/invoke/VarHandle" ∧ (parseMethodDescriptor qm_JI_compareUnsigned.desc).map (fun d => d.parameters.length) = some 2 := by decide +kernel
theorem qm_Cd_compare_d : qm_Cd_compare.cls ≠ "java/lang/invoke/MethodHandle" ∧ qm_Cd_compare.cls ≠ "java/lang/invoke/VarHandle" ∧ (parseMethodDescriptor qm_Cd_compare.desc).map (fun d => d.parameters.length) = some 1 := by decide +kernel
theorem qm_Cd_add_d : qm_Cd_add.cls ≠ "java/lang/invoke/MethodHandle" ∧ qm_Cd_add.cls ≠ "java/lang/invoke/VarHandle" ∧ (parseMethodDescriptor qm_Cd_add.desc).map (fun d => d.parameters.length) = some 2 := by decide +kernel
theorem qm_Cd_subtract_d : qm_Cd_subtract.cls ≠ "java/lang/invoke/MethodHandle" ∧ qm_Cd_subtract.cls ≠ "java/lang/invoke/VarHandle" ∧ (parseMethodDescriptor qm_Cd_subtract.desc).map (fun d => d.parameters.length) = some 2 := by decide +kernel
theorem qm_Cd_multiply_d : qm_Cd_multiply.cls ≠ "java/lang/invoke/MethodHandle" ∧ qm_Cd_multiply.cls ≠ "java/lang/invoke/VarHandle" ∧ (parseMethodDescriptor qm_Cd_multiply.desc).map (fun d => d.parameters.length) = some 2 := by decide +kernel
theorem qm_Cd_divide_d : qm_Cd_divide.cls ≠ "java/lang/invoke/MethodHandle" ∧ qm_Cd_divide.cls ≠ "java/lang/invoke/VarHandle" ∧ (parseMethodDescriptor qm_Cd_divide.desc).map (fun d => d.parameters.length) = some 2 := by decide +kernel
theorem qm_Cd_bits_d : qm_Cd_bits.cls ≠ "java/lang/invoke/MethodHandle" ∧ qm_Cd_bits.cls ≠ "java/lang/invoke/VarHandle" ∧ (parseMethodDescriptor qm_Cd_bits.desc).map (fun d => d.parameters.length) = some 1 := by decide +kernel
theorem qm_Cd_calculated_d : qm_Cd_calculated.cls ≠ "java/lang/invoke/MethodHandle" ∧ qm_Cd_calculated.cls ≠ "java/lang/invoke/VarHandle" ∧ (parseMethodDescriptor qm_Cd_calculated.desc).map (fun d => d.parameters.length) = some 3 := by decide +kernel
theorem qm_Cd_calculate_d : qm_Cd_calculate.cls ≠ "java/lang/invoke/MethodHandle" ∧ qm_Cd_calculate.cls ≠ "java/lang/invoke/VarHandle" ∧ (parseMethodDescriptor qm_Cd_calculate.desc).map (fun d => d.parameters.length) = some 1 := by decide +kernel
theorem qm_Cd_handAddress_d : qm_Cd_handAddress.cls ≠ "java/lang/invoke/MethodHandle" ∧ qm_Cd_handAddress.cls ≠ "java/lang/invoke/VarHandle" ∧ (parseMethodDescriptor qm_Cd_handAddress.desc).map (fun d => d.parameters.length) = some 1 := by decide +kernel
theorem qm_Cd_go_d : qm_Cd_go.cls ≠ "java/lang/invoke/MethodHandle" ∧ qm_Cd_go.cls ≠ "java/lang/invoke/VarHandle" ∧ (parseMethodDescriptor qm_Cd_go.desc).map (fun d => d.parameters.length) = some 1 := by decide +kernel
theorem qm_Cd_holds_d : qm_Cd_holds.cls ≠ "java/lang/invoke/MethodHandle" ∧ qm_Cd_holds.cls ≠ "java/lang/invoke/VarHandle" ∧ (parseMethodDescriptor qm_Cd_holds.desc).map (fun d => d.parameters.length) = some 1 := by decide +kernel
theorem qm_Cd_branch_d : qm_Cd_branch.cls ≠ "java/lang/invoke/MethodHandle" ∧ qm_Cd_branch.cls ≠ "java/lang/invoke/VarHandle" ∧ (parseMethodDescriptor qm_Cd_branch.desc).map (fun d => d.parameters.length) = some 1 := by decide +kernel
theorem qm_Cd_count_d : qm_Cd_count.cls ≠ "java/lang/invoke/MethodHandle" ∧ qm_Cd_count.cls ≠ "java/lang/invoke/VarHandle" ∧ (parseMethodDescriptor qm_Cd_count.desc).map (fun d => d.parameters.length) = some 1 := by decide +kernel
theorem qm_Cd_noteOverflow_d : qm_Cd_noteOverflow.cls ≠ "java/lang/invoke/MethodHandle" ∧ qm_Cd_noteOverflow.cls ≠ "java/lang/invoke/VarHandle" ∧ (parseMethodDescriptor qm_Cd_noteOverflow.desc).map (fun d => d.parameters.length) = some 1 := by decide +kernel
theorem qm_Cd_execute_d : qm_Cd_execute.cls ≠ "java/lang/invoke/MethodHandle" ∧ qm_Cd_execute.cls ≠ "java/lang/invoke/VarHandle" ∧ (parseMethodDescriptor qm_Cd_execute.desc).map (fun d => d.parameters.length) = some 1 := by decide +kernel
theorem qm_Co_takeBack_d : qm_Co_takeBack.cls ≠ "java/lang/invoke/MethodHandle" ∧ qm_Co_takeBack.cls ≠ "java/lang/invoke/VarHandle" ∧ (parseMethodDescriptor qm_Co_takeBack.desc).map (fun d => d.parameters.length) = some 0 := by decide +kernel
theorem qm_X_except_d : qm_X_except.cls ≠ "java/lang/invoke/MethodHandle" ∧ qm_X_except.cls ≠ "java/lang/invoke/VarHandle" ∧ (parseMethodDescriptor qm_X_except.desc).map (fun d => d.parameters.length) = some 5 := by decide +kernel
theorem qm_X_reach_d : qm_X_reach.cls ≠ "java/lang/invoke/MethodHandle" ∧ qm_X_reach.cls ≠ "java/lang/invoke/VarHandle" ∧ (parseMethodDescriptor qm_X_reach.desc).map (fun d => d.parameters.length) = some 3 := by decide +kernel
theorem qm_X_state_d : qm_X_state.cls ≠ "java/lang/invoke/MethodHandle" ∧ qm_X_state.cls ≠ "java/lang/invoke/VarHandle" ∧ (parseMethodDescriptor qm_X_state.desc).map (fun d => d.parameters.length) = some 1 := by decide +kernel
theorem qm_M_thrown_d : qm_M_thrown.cls ≠ "java/lang/invoke/MethodHandle" ∧ qm_M_thrown.cls ≠ "java/lang/invoke/VarHandle" ∧ (parseMethodDescriptor qm_M_thrown.desc).map (fun d => d.parameters.length) = some 0 := by decide +kernel
theorem qm_M_fill_d : qm_M_fill.cls ≠ "java/lang/invoke/MethodHandle" ∧ qm_M_fill.cls ≠ "java/lang/invoke/VarHandle" ∧ (parseMethodDescriptor qm_M_fill.desc).map (fun d => d.parameters.length) = some 2 := by decide +kernel
theorem qm_M_bare_d : qm_M_bare.cls ≠ "java/lang/invoke/MethodHandle" ∧ qm_M_bare.cls ≠ "java/lang/invoke/VarHandle" ∧ (parseMethodDescriptor qm_M_bare.desc).map (fun d => d.parameters.length) = some 1 := by decide +kernel
theorem qm_M_look_d : qm_M_look.cls ≠ "java/lang/invoke/MethodHandle" ∧ qm_M_look.cls ≠ "java/lang/invoke/VarHandle" ∧ (parseMethodDescriptor qm_M_look.desc).map (fun d => d.parameters.length) = some 1 := by decide +kernel
theorem qm_M_mode_d : qm_M_mode.cls ≠ "java/lang/invoke/MethodHandle" ∧ qm_M_mode.cls ≠ "java/lang/invoke/VarHandle" ∧ (parseMethodDescriptor qm_M_mode.desc).map (fun d => d.parameters.length) = some 0 := by decide +kernel
theorem qm_M_put_d : qm_M_put.cls ≠ "java/lang/invoke/MethodHandle" ∧ qm_M_put.cls ≠ "java/lang/invoke/VarHandle" ∧ (parseMethodDescriptor qm_M_put.desc).map (fun d => d.parameters.length) = some 2 := by decide +kernel
theorem qm_M_set_d : qm_M_set.cls ≠ "java/lang/invoke/MethodHandle" ∧ qm_M_set.cls ≠ "java/lang/invoke/VarHandle" ∧ (parseMethodDescriptor qm_M_set.desc).map (fun d => d.parameters.length) = some 2 := by decide +kernel
theorem qm_M_fail_d : qm_M_fail.cls ≠ "java/lang/invoke/MethodHandle" ∧ qm_M_fail.cls ≠ "java/lang/invoke/VarHandle" ∧ (parseMethodDescriptor qm_M_fail.desc).map (fun d => d.parameters.length) = some 1 := by decide +kernel
theorem qm_M_get_d : qm_M_get.cls ≠ "java/lang/invoke/MethodHandle" ∧ qm_M_get.cls ≠ "java/lang/invoke/VarHandle" ∧ (parseMethodDescriptor qm_M_get.desc).map (fun d => d.parameters.length) = some 1 := by decide +kernel
theorem qm_M_register_d : qm_M_register.cls ≠ "java/lang/invoke/MethodHandle" ∧ qm_M_register.cls ≠ "java/lang/invoke/VarHandle" ∧ (parseMethodDescriptor qm_M_register.desc).map (fun d => d.parameters.length) = some 1 := by decide +kernel
theorem qm_M_isInner_d : qm_M_isInner.cls ≠ "java/lang/invoke/MethodHandle" ∧ qm_M_isInner.cls ≠ "java/lang/invoke/VarHandle" ∧ (parseMethodDescriptor qm_M_isInner.desc).map (fun d => d.parameters.length) = some 1 := by decide +kernel
theorem qm_M_setInner_d : qm_M_setInner.cls ≠ "java/lang/invoke/MethodHandle" ∧ qm_M_setInner.cls ≠ "java/lang/invoke/VarHandle" ∧ (parseMethodDescriptor qm_M_setInner.desc).map (fun d => d.parameters.length) = some 2 := by decide +kernel
theorem qm_M_inner_d : qm_M_inner.cls ≠ "java/lang/invoke/MethodHandle" ∧ qm_M_inner.cls ≠ "java/lang/invoke/VarHandle" ∧ (parseMethodDescriptor qm_M_inner.desc).map (fun d => d.parameters.length) = some 1 := by decide +kernel
theorem qm_M_begin_d : qm_M_begin.cls ≠ "java/lang/invoke/MethodHandle" ∧ qm_M_begin.cls ≠ "java/lang/invoke/VarHandle" ∧ (parseMethodDescriptor qm_M_begin.desc).map (fun d => d.parameters.length) = some 1 := by decide +kernel
theorem qm_M_status_d : qm_M_status.cls ≠ "java/lang/invoke/MethodHandle" ∧ qm_M_status.cls ≠ "java/lang/invoke/VarHandle" ∧ (parseMethodDescriptor qm_M_status.desc).map (fun d => d.parameters.length) = some 0 := by decide +kernel
theorem qm_M_keep_d : qm_M_keep.cls ≠ "java/lang/invoke/MethodHandle" ∧ qm_M_keep.cls ≠ "java/lang/invoke/VarHandle" ∧ (parseMethodDescriptor qm_M_keep.desc).map (fun d => d.parameters.length) = some 0 := by decide +kernel
theorem qm_M_below_d : qm_M_below.cls ≠ "java/lang/invoke/MethodHandle" ∧ qm_M_below.cls ≠ "java/lang/invoke/VarHandle" ∧ (parseMethodDescriptor qm_M_below.desc).map (fun d => d.parameters.length) = some 2 := by decide +kernel
theorem qm_M_find_d : qm_M_find.cls ≠ "java/lang/invoke/MethodHandle" ∧ qm_M_find.cls ≠ "java/lang/invoke/VarHandle" ∧ (parseMethodDescriptor qm_M_find.desc).map (fun d => d.parameters.length) = some 3 := by decide +kernel
theorem qm_M_wrong_d : qm_M_wrong.cls ≠ "java/lang/invoke/MethodHandle" ∧ qm_M_wrong.cls ≠ "java/lang/invoke/VarHandle" ∧ (parseMethodDescriptor qm_M_wrong.desc).map (fun d => d.parameters.length) = some 3 := by decide +kernel
theorem qm_M_readByte_d : qm_M_readByte.cls ≠ "java/lang/invoke/MethodHandle" ∧ qm_M_readByte.cls ≠ "java/lang/invoke/VarHandle" ∧ (parseMethodDescriptor qm_M_readByte.desc).map (fun d => d.parameters.length) = some 1 := by decide +kernel
theorem qm_M_next_d : qm_M_next.cls ≠ "java/lang/invoke/MethodHandle" ∧ qm_M_next.cls ≠ "java/lang/invoke/VarHandle" ∧ (parseMethodDescriptor qm_M_next.desc).map (fun d => d.parameters.length) = some 0 := by decide +kernel
theorem qm_M_shape_d : qm_M_shape.cls ≠ "java/lang/invoke/MethodHandle" ∧ qm_M_shape.cls ≠ "java/lang/invoke/VarHandle" ∧ (parseMethodDescriptor qm_M_shape.desc).map (fun d => d.parameters.length) = some 1 := by decide +kernel
theorem qm_M_signed_d : qm_M_signed.cls ≠ "java/lang/invoke/MethodHandle" ∧ qm_M_signed.cls ≠ "java/lang/invoke/VarHandle" ∧ (parseMethodDescriptor qm_M_signed.desc).map (fun d => d.parameters.length) = some 1 := by decide +kernel
theorem qm_M_readLong_d : qm_M_readLong.cls ≠ "java/lang/invoke/MethodHandle" ∧ qm_M_readLong.cls ≠ "java/lang/invoke/VarHandle" ∧ (parseMethodDescriptor qm_M_readLong.desc).map (fun d => d.parameters.length) = some 1 := by decide +kernel
theorem qm_M_operand_d : qm_M_operand.cls ≠ "java/lang/invoke/MethodHandle" ∧ qm_M_operand.cls ≠ "java/lang/invoke/VarHandle" ∧ (parseMethodDescriptor qm_M_operand.desc).map (fun d => d.parameters.length) = some 2 := by decide +kernel
theorem qm_M_pop_d : qm_M_pop.cls ≠ "java/lang/invoke/MethodHandle" ∧ qm_M_pop.cls ≠ "java/lang/invoke/VarHandle" ∧ (parseMethodDescriptor qm_M_pop.desc).map (fun d => d.parameters.length) = some 0 := by decide +kernel
theorem qm_M_endException_d : qm_M_endException.cls ≠ "java/lang/invoke/MethodHandle" ∧ qm_M_endException.cls ≠ "java/lang/invoke/VarHandle" ∧ (parseMethodDescriptor qm_M_endException.desc).map (fun d => d.parameters.length) = some 0 := by decide +kernel
theorem qm_M_comeBack_d : qm_M_comeBack.cls ≠ "java/lang/invoke/MethodHandle" ∧ qm_M_comeBack.cls ≠ "java/lang/invoke/VarHandle" ∧ (parseMethodDescriptor qm_M_comeBack.desc).map (fun d => d.parameters.length) = some 0 := by decide +kernel
theorem qm_M_mark_d : qm_M_mark.cls ≠ "java/lang/invoke/MethodHandle" ∧ qm_M_mark.cls ≠ "java/lang/invoke/VarHandle" ∧ (parseMethodDescriptor qm_M_mark.desc).map (fun d => d.parameters.length) = some 3 := by decide +kernel
theorem qm_M_write_d : qm_M_write.cls ≠ "java/lang/invoke/MethodHandle" ∧ qm_M_write.cls ≠ "java/lang/invoke/VarHandle" ∧ (parseMethodDescriptor qm_M_write.desc).map (fun d => d.parameters.length) = some 3 := by decide +kernel
theorem qm_M_give_d : qm_M_give.cls ≠ "java/lang/invoke/MethodHandle" ∧ qm_M_give.cls ≠ "java/lang/invoke/VarHandle" ∧ (parseMethodDescriptor qm_M_give.desc).map (fun d => d.parameters.length) = some 3 := by decide +kernel
theorem qm_M_innerOnes_d : qm_M_innerOnes.cls ≠ "java/lang/invoke/MethodHandle" ∧ qm_M_innerOnes.cls ≠ "java/lang/invoke/VarHandle" ∧ (parseMethodDescriptor qm_M_innerOnes.desc).map (fun d => d.parameters.length) = some 1 := by decide +kernel
theorem qm_M_has_d : qm_M_has.cls ≠ "java/lang/invoke/MethodHandle" ∧ qm_M_has.cls ≠ "java/lang/invoke/VarHandle" ∧ (parseMethodDescriptor qm_M_has.desc).map (fun d => d.parameters.length) = some 1 := by decide +kernel
theorem qm_M_push_d : qm_M_push.cls ≠ "java/lang/invoke/MethodHandle" ∧ qm_M_push.cls ≠ "java/lang/invoke/VarHandle" ∧ (parseMethodDescriptor qm_M_push.desc).map (fun d => d.parameters.length) = some 1 := by decide +kernel
theorem qm_M_move_d : qm_M_move.cls ≠ "java/lang/invoke/MethodHandle" ∧ qm_M_move.cls ≠ "java/lang/invoke/VarHandle" ∧ (parseMethodDescriptor qm_M_move.desc).map (fun d => d.parameters.length) = some 1 := by decide +kernel
theorem qm_M_reckon_d : qm_M_reckon.cls ≠ "java/lang/invoke/MethodHandle" ∧ qm_M_reckon.cls ≠ "java/lang/invoke/VarHandle" ∧ (parseMethodDescriptor qm_M_reckon.desc).map (fun d => d.parameters.length) = some 4 := by decide +kernel
theorem qm_M_shift_d : qm_M_shift.cls ≠ "java/lang/invoke/MethodHandle" ∧ qm_M_shift.cls ≠ "java/lang/invoke/VarHandle" ∧ (parseMethodDescriptor qm_M_shift.desc).map (fun d => d.parameters.length) = some 2 := by decide +kernel
theorem qm_M_go_d : qm_M_go.cls ≠ "java/lang/invoke/MethodHandle" ∧ qm_M_go.cls ≠ "java/lang/invoke/VarHandle" ∧ (parseMethodDescriptor qm_M_go.desc).map (fun d => d.parameters.length) = some 1 := by decide +kernel
theorem qm_M_isMet_d : qm_M_isMet.cls ≠ "java/lang/invoke/MethodHandle" ∧ qm_M_isMet.cls ≠ "java/lang/invoke/VarHandle" ∧ (parseMethodDescriptor qm_M_isMet.desc).map (fun d => d.parameters.length) = some 1 := by decide +kernel
theorem qm_M_count_d : qm_M_count.cls ≠ "java/lang/invoke/MethodHandle" ∧ qm_M_count.cls ≠ "java/lang/invoke/VarHandle" ∧ (parseMethodDescriptor qm_M_count.desc).map (fun d => d.parameters.length) = some 1 := by decide +kernel
theorem qm_M_callFrame_d : qm_M_callFrame.cls ≠ "java/lang/invoke/MethodHandle" ∧ qm_M_callFrame.cls ≠ "java/lang/invoke/VarHandle" ∧ (parseMethodDescriptor qm_M_callFrame.desc).map (fun d => d.parameters.length) = some 0 := by decide +kernel
theorem qm_M_probe_d : qm_M_probe.cls ≠ "java/lang/invoke/MethodHandle" ∧ qm_M_probe.cls ≠ "java/lang/invoke/VarHandle" ∧ (parseMethodDescriptor qm_M_probe.desc).map (fun d => d.parameters.length) = some 1 := by decide +kernel
theorem qm_M_work_d : qm_M_work.cls ≠ "java/lang/invoke/MethodHandle" ∧ qm_M_work.cls ≠ "java/lang/invoke/VarHandle" ∧ (parseMethodDescriptor qm_M_work.desc).map (fun d => d.parameters.length) = some 1 := by decide +kernel
theorem qm_M_bringBack_d : qm_M_bringBack.cls ≠ "java/lang/invoke/MethodHandle" ∧ qm_M_bringBack.cls ≠ "java/lang/invoke/VarHandle" ∧ (parseMethodDescriptor qm_M_bringBack.desc).map (fun d => d.parameters.length) = some 0 := by decide +kernel
theorem qm_M_raise_d : qm_M_raise.cls ≠ "java/lang/invoke/MethodHandle" ∧ qm_M_raise.cls ≠ "java/lang/invoke/VarHandle" ∧ (parseMethodDescriptor qm_M_raise.desc).map (fun d => d.parameters.length) = some 3 := by decide +kernel
theorem qm_M_instruction_d : qm_M_instruction.cls ≠ "java/lang/invoke/MethodHandle" ∧ qm_M_instruction.cls ≠ "java/lang/invoke/VarHandle" ∧ (parseMethodDescriptor qm_M_instruction.desc).map (fun d => d.parameters.length) = some 0 := by decide +kernel
theorem qm_M_run_d : qm_M_run.cls ≠ "java/lang/invoke/MethodHandle" ∧ qm_M_run.cls ≠ "java/lang/invoke/VarHandle" ∧ (parseMethodDescriptor qm_M_run.desc).map (fun d => d.parameters.length) = some 1 := by decide +kernel
theorem qm_M_reach_d : qm_M_reach.cls ≠ "java/lang/invoke/MethodHandle" ∧ qm_M_reach.cls ≠ "java/lang/invoke/VarHandle" ∧ (parseMethodDescriptor qm_M_reach.desc).map (fun d => d.parameters.length) = some 3 := by decide +kernel
theorem qm_M_state_d : qm_M_state.cls ≠ "java/lang/invoke/MethodHandle" ∧ qm_M_state.cls ≠ "java/lang/invoke/VarHandle" ∧ (parseMethodDescriptor qm_M_state.desc).map (fun d => d.parameters.length) = some 1 := by decide +kernel
end
section
/-! The two worlds: the class's cells, and the reference's, out of a state. -/
def cW (h : Nat → Nat) (K : Nat → ClassId) (S : qS) : va_W :=
  [(h 0, .inr (6, [.ref (h 1), .ref (h 3), .ref (h 4), .ref (h 5), .ref (h 11), .ref (h 15), .ref (h 16), .int (S.1 0), .int (S.1 1), .int (S.1 2), .int (S.1 3)])),
   (h 1, .inr (5, [.ref (h 2)])),
   (h 2, .inl (K 0, 2048, .inl (S.2 0))),
   (h 3, .inl (K 1, 57, .inl (S.2 1))),
   (h 4, .inr (3, [.ref (h 1), .ref (h 3), .int (S.1 4)])),
   (h 5, .inr (1, [.ref (h 1), .ref (h 4), .ref (h 3), .ref (h 6), .ref (h 7), .ref (h 8), .ref (h 9), .ref (h 10), .int (S.1 5), .int (S.1 6), .int (S.1 7), .int (S.1 8), .int (S.1 9), .int (S.1 10)])),
   (h 6, .inl (K 2, 16, .inl (S.2 2))),
   (h 7, .inl (K 3, 16, .inl (S.2 3))),
   (h 8, .inl (K 4, 4, .inl (S.2 4))),
   (h 9, .inl (K 5, 4, .inl (S.2 5))),
   (h 10, .inl (K 6, 4, .inl (S.2 6))),
   (h 11, .inl (K 7, 3, .inr (.inr (.inr (.inr (fun j => some (h (12 + j)))))))),
   (h 12, .inr (2, [.int (S.1 11), .int (S.1 12), .int (S.1 13), .int (S.1 14)])),
   (h 13, .inr (2, [.int (S.1 15), .int (S.1 16), .int (S.1 17), .int (S.1 18)])),
   (h 14, .inr (2, [.int (S.1 19), .int (S.1 20), .int (S.1 21), .int (S.1 22)])),
   (h 15, .inr (4, [.ref (h 5)])),
   (h 16, .inr (0, [.ref (h 5), .ref (h 12), .ref (h 13), .ref (h 14)]))]
def cT (K : Nat → ClassId) : List (ClassId × FieldType) := [(K 0, .byte), (K 1, .int), (K 2, .int), (K 3, .int), (K 4, .int), (K 5, .int), (K 6, .int), (K 7, .object "QuadMode$Operand")]
def mW (h : Nat → Nat) (K : Nat → ClassId) (S : qS) : va_W :=
  [(h 0, .inr (7, [.int (S.1 0), .ref (h 1), .ref (h 2), .ref (h 3), .int (S.1 1), .int (S.1 2), .int (S.1 3), .int (S.1 4), .int (S.1 5), .ref (h 4), .ref (h 5), .int (S.1 6), .int (S.1 7), .int (S.1 8), .int (S.1 9), .int (S.1 10), .ref (h 6), .ref (h 7), .ref (h 8), .int (S.1 11), .ref (h 9), .ref (h 10)])),
   (h 1, .inl (K 0, 2048, .inl (S.2 0))),
   (h 2, .inl (K 1, 16, .inl (S.2 1))),
   (h 3, .inl (K 2, 57, .inl (S.2 2))),
   (h 4, .inl (K 3, 16, .inl (S.2 3))),
   (h 5, .inl (K 4, 4, .inl (S.2 4))),
   (h 6, .inl (K 5, 3, .inl (S.2 5))),
   (h 7, .inl (K 6, 3, .inl (S.2 6))),
   (h 8, .inl (K 7, 3, .inl (S.2 7))),
   (h 9, .inl (K 8, 4, .inl (S.2 8))),
   (h 10, .inl (K 9, 4, .inl (S.2 9)))]
def mT (K : Nat → ClassId) : List (ClassId × FieldType) := [(K 0, .int), (K 1, .int), (K 2, .int), (K 3, .int), (K 4, .int), (K 5, .int), (K 6, .int), (K 7, .int), (K 8, .int), (K 9, .int)]
/-- an operand's cell, by its number -/
theorem cW_op {h : Nat → Nat} {K : Nat → ClassId} {S : qS} (k : Nat) (hk : k < 3) : (cW h K S)[12 + k]? = some (h (12 + k), .inr (2, [.int (S.1 (11 + 4 * k)), .int (S.1 (12 + 4 * k)), .int (S.1 (13 + 4 * k)), .int (S.1 (14 + 4 * k))])) := by
  rcases (show k = 0 ∨ k = 1 ∨ k = 2 by omega) with rfl | rfl | rfl <;> rfl
theorem cW_op0 {h : Nat → Nat} {K : Nat → ClassId} {S : qS} (k : Nat) (hk : k < 3) (v : Int32) : (cW h K S).set (12 + k) (h (12 + k), .inr (2, [.int v, .int (S.1 (12 + 4 * k)), .int (S.1 (13 + 4 * k)), .int (S.1 (14 + 4 * k))])) = cW h K (pI S (11 + 4 * k) v) := by
  rcases (show k = 0 ∨ k = 1 ∨ k = 2 by omega) with rfl | rfl | rfl <;> rfl
theorem cW_op1 {h : Nat → Nat} {K : Nat → ClassId} {S : qS} (k : Nat) (hk : k < 3) (v : Int32) : (cW h K S).set (12 + k) (h (12 + k), .inr (2, [.int (S.1 (11 + 4 * k)), .int v, .int (S.1 (13 + 4 * k)), .int (S.1 (14 + 4 * k))])) = cW h K (pI S (12 + 4 * k) v) := by
  rcases (show k = 0 ∨ k = 1 ∨ k = 2 by omega) with rfl | rfl | rfl <;> rfl
theorem cW_op2 {h : Nat → Nat} {K : Nat → ClassId} {S : qS} (k : Nat) (hk : k < 3) (v : Int32) : (cW h K S).set (12 + k) (h (12 + k), .inr (2, [.int (S.1 (11 + 4 * k)), .int (S.1 (12 + 4 * k)), .int v, .int (S.1 (14 + 4 * k))])) = cW h K (pI S (13 + 4 * k) v) := by
  rcases (show k = 0 ∨ k = 1 ∨ k = 2 by omega) with rfl | rfl | rfl <;> rfl
theorem cW_op3 {h : Nat → Nat} {K : Nat → ClassId} {S : qS} (k : Nat) (hk : k < 3) (v : Int32) : (cW h K S).set (12 + k) (h (12 + k), .inr (2, [.int (S.1 (11 + 4 * k)), .int (S.1 (12 + 4 * k)), .int (S.1 (13 + 4 * k)), .int v])) = cW h K (pI S (14 + 4 * k) v) := by
  rcases (show k = 0 ∨ k = 1 ∨ k = 2 by omega) with rfl | rfl | rfl <;> rfl
end
section
theorem qz_0 : Cond.fieldLink "QuadMode$Storage" 9 "QuadMode$Storage" "cells" "[B" ∈ qw := qw_in 98 (by decide +kernel) (by decide +kernel)
theorem qz_1 : Cond.fieldLink "QuadMode" 10 "QuadMode" "storage" "LQuadMode$Storage;" ∈ qw := qw_in 231 (by decide +kernel) (by decide +kernel)
theorem qz_2 : Cond.methodLink "QuadMode" 63 qm_St_putByte ∈ qw := qw_in 269 (by decide +kernel) (by decide +kernel)
theorem qz_3 : Cond.initialized "QuadMode$Storage" ∈ qw := qw_in 64 (by decide +kernel) (by decide +kernel)
theorem qz_4 : Cond.code qm_St_putByte qm_St_putByte_c 3 none ∈ qw := qw_in 272 (by decide +kernel) (by decide +kernel)
theorem qz_5 : Cond.instanceMethod qm_St_putByte ∈ qw := qw_in 270 (by decide +kernel) (by decide +kernel)
theorem qz_6 : Cond.selects "QuadMode$Storage" qm_St_putByte qm_St_putByte ∈ qw := qw_in 271 (by decide +kernel) (by decide +kernel)
theorem qz_7 : Cond.methodLink "QuadMode" 67 qm_St_longAt ∈ qw := qw_in 277 (by decide +kernel) (by decide +kernel)
theorem qz_8 : Cond.code qm_St_longAt qm_St_longAt_c 2 (some .int) ∈ qw := qw_in 280 (by decide +kernel) (by decide +kernel)
theorem qz_9 : Cond.instanceMethod qm_St_longAt ∈ qw := qw_in 278 (by decide +kernel) (by decide +kernel)
theorem qz_10 : Cond.selects "QuadMode$Storage" qm_St_longAt qm_St_longAt ∈ qw := qw_in 279 (by decide +kernel) (by decide +kernel)
theorem qz_11 : Cond.fieldLink "QuadMode$Core" 38 "QuadMode$Core" "status" "I" ∈ qw := qw_in 136 (by decide +kernel) (by decide +kernel)
theorem qz_12 : Cond.fieldLink "QuadMode$Core" 9 "QuadMode$Core" "registers" "[I" ∈ qw := qw_in 130 (by decide +kernel) (by decide +kernel)
theorem qz_13 : Cond.fieldLink "QuadMode$Core" 35 "QuadMode$Core" "inner" "[I" ∈ qw := qw_in 129 (by decide +kernel) (by decide +kernel)
theorem qz_14 : Cond.methodLink "QuadMode$Core" 42 qm_Co_mode ∈ qw := qw_in 368 (by decide +kernel) (by decide +kernel)
theorem qz_15 : Cond.initialized "QuadMode$Core" ∈ qw := qw_in 66 (by decide +kernel) (by decide +kernel)
theorem qz_16 : Cond.code qm_Co_mode qm_Co_mode_c 1 (some .int) ∈ qw := qw_in 371 (by decide +kernel) (by decide +kernel)
theorem qz_17 : Cond.instanceMethod qm_Co_mode ∈ qw := qw_in 369 (by decide +kernel) (by decide +kernel)
theorem qz_18 : Cond.selects "QuadMode$Core" qm_Co_mode qm_Co_mode ∈ qw := qw_in 370 (by decide +kernel) (by decide +kernel)
theorem qz_19 : Cond.fieldLink "QuadMode" 34 "QuadMode" "core" "LQuadMode$Core;" ∈ qw := qw_in 234 (by decide +kernel) (by decide +kernel)
theorem qz_20 : Cond.methodLink "QuadMode" 78 qm_Co_put ∈ qw := qw_in 364 (by decide +kernel) (by decide +kernel)
theorem qz_21 : Cond.code qm_Co_put qm_Co_put_c 3 none ∈ qw := qw_in 367 (by decide +kernel) (by decide +kernel)
theorem qz_22 : Cond.instanceMethod qm_Co_put ∈ qw := qw_in 365 (by decide +kernel) (by decide +kernel)
theorem qz_23 : Cond.selects "QuadMode$Core" qm_Co_put qm_Co_put ∈ qw := qw_in 366 (by decide +kernel) (by decide +kernel)
theorem qz_24 : Cond.methodLink "QuadMode" 81 qm_Co_get ∈ qw := qw_in 379 (by decide +kernel) (by decide +kernel)
theorem qz_25 : Cond.code qm_Co_get qm_Co_get_c 2 (some .int) ∈ qw := qw_in 382 (by decide +kernel) (by decide +kernel)
theorem qz_26 : Cond.instanceMethod qm_Co_get ∈ qw := qw_in 380 (by decide +kernel) (by decide +kernel)
theorem qz_27 : Cond.selects "QuadMode$Core" qm_Co_get qm_Co_get ∈ qw := qw_in 381 (by decide +kernel) (by decide +kernel)
theorem qz_28 : Cond.methodLink "QuadMode$Core" 46 qm_Co_hasInner ∈ qw := qw_in 399 (by decide +kernel) (by decide +kernel)
theorem qz_29 : Cond.code qm_Co_hasInner qm_Co_hasInner_c 2 (some .boolean) ∈ qw := qw_in 393 (by decide +kernel) (by decide +kernel)
theorem qz_30 : Cond.instanceMethod qm_Co_hasInner ∈ qw := qw_in 391 (by decide +kernel) (by decide +kernel)
theorem qz_31 : Cond.selects "QuadMode$Core" qm_Co_hasInner qm_Co_hasInner ∈ qw := qw_in 392 (by decide +kernel) (by decide +kernel)
theorem qz_32 : Cond.methodLink "QuadMode" 84 qm_Co_hasInner ∈ qw := qw_in 390 (by decide +kernel) (by decide +kernel)
theorem qz_33 : Cond.methodLink "QuadMode" 90 qm_Co_putInner ∈ qw := qw_in 395 (by decide +kernel) (by decide +kernel)
theorem qz_34 : Cond.code qm_Co_putInner qm_Co_putInner_c 3 none ∈ qw := qw_in 398 (by decide +kernel) (by decide +kernel)
theorem qz_35 : Cond.instanceMethod qm_Co_putInner ∈ qw := qw_in 396 (by decide +kernel) (by decide +kernel)
theorem qz_36 : Cond.selects "QuadMode$Core" qm_Co_putInner qm_Co_putInner ∈ qw := qw_in 397 (by decide +kernel) (by decide +kernel)
theorem qz_37 : Cond.methodLink "QuadMode" 93 qm_Co_getInner ∈ qw := qw_in 407 (by decide +kernel) (by decide +kernel)
theorem qz_38 : Cond.code qm_Co_getInner qm_Co_getInner_c 2 (some .int) ∈ qw := qw_in 410 (by decide +kernel) (by decide +kernel)
theorem qz_39 : Cond.instanceMethod qm_Co_getInner ∈ qw := qw_in 408 (by decide +kernel) (by decide +kernel)
theorem qz_40 : Cond.selects "QuadMode$Core" qm_Co_getInner qm_Co_getInner ∈ qw := qw_in 409 (by decide +kernel) (by decide +kernel)
theorem qz_41 : Cond.constant "QuadMode" 96 (-62914608) ∈ qw := qw_in 419 (by decide +kernel) (by decide +kernel)
theorem qz_42 : Cond.fieldLink "QuadMode" 106 "QuadMode" "stopped" "I" ∈ qw := qw_in 238 (by decide +kernel) (by decide +kernel)
theorem qz_43 : Cond.fieldLink "QuadMode$Core" 54 "QuadMode$Core" "fault" "I" ∈ qw := qw_in 139 (by decide +kernel) (by decide +kernel)
theorem qz_44 : Cond.fieldLink "QuadMode$Core" 57 "QuadMode$Core" "trap" "I" ∈ qw := qw_in 146 (by decide +kernel) (by decide +kernel)
theorem qz_45 : Cond.fieldLink "QuadMode$Core" 60 "QuadMode$Core" "keptStatus" "I" ∈ qw := qw_in 135 (by decide +kernel) (by decide +kernel)
theorem qz_46 : Cond.fieldLink "QuadMode$Core" 15 "QuadMode$Core" "keptRegisters" "[I" ∈ qw := qw_in 131 (by decide +kernel) (by decide +kernel)
theorem qz_47 : Cond.methodLink "QuadMode$Core" 63 arraycopyName ∈ qw := qw_in 469 (by decide +kernel) (by decide +kernel)
theorem qz_48 : Cond.native arraycopyName ∈ qw := qw_in 471 (by decide +kernel) (by decide +kernel)
theorem qz_49 : Cond.static arraycopyName ∈ qw := qw_in 470 (by decide +kernel) (by decide +kernel)
theorem qz_50 : Cond.initialized "java/lang/System" ∈ qw := qw_in 77 (by decide +kernel) (by decide +kernel)
theorem qz_51 : Cond.fieldLink "QuadMode$Core" 18 "QuadMode$Core" "keptStacks" "[I" ∈ qw := qw_in 132 (by decide +kernel) (by decide +kernel)
theorem qz_52 : Cond.constant "QuadMode$Pages" 58 16777215 ∈ qw := qw_in 488 (by decide +kernel) (by decide +kernel)
theorem qz_53 : Cond.fieldLink "QuadMode$Pages" 15 "QuadMode$Pages" "inner" "[I" ∈ qw := qw_in 110 (by decide +kernel) (by decide +kernel)
theorem qz_54 : Cond.fieldLink "QuadMode$Pages" 19 "QuadMode$Pages" "entry" "I" ∈ qw := qw_in 111 (by decide +kernel) (by decide +kernel)
theorem qz_55 : Cond.methodLink "QuadMode$Pages" 25 qm_Pg_pageOf ∈ qw := qw_in 485 (by decide +kernel) (by decide +kernel)
theorem qz_56 : Cond.initialized "QuadMode$Pages" ∈ qw := qw_in 65 (by decide +kernel) (by decide +kernel)
theorem qz_57 : Cond.code qm_Pg_pageOf qm_Pg_pageOf_c 1 (some .int) ∈ qw := qw_in 487 (by decide +kernel) (by decide +kernel)
theorem qz_58 : Cond.static qm_Pg_pageOf ∈ qw := qw_in 486 (by decide +kernel) (by decide +kernel)
theorem qz_59 : Cond.methodLink "QuadMode$Pages" 29 qm_Pg_isThere ∈ qw := qw_in 489 (by decide +kernel) (by decide +kernel)
theorem qz_60 : Cond.code qm_Pg_isThere qm_Pg_isThere_c 5 (some .boolean) ∈ qw := qw_in 492 (by decide +kernel) (by decide +kernel)
theorem qz_61 : Cond.instanceMethod qm_Pg_isThere ∈ qw := qw_in 491 (by decide +kernel) (by decide +kernel)
theorem qz_62 : Cond.selects "QuadMode$Pages" qm_Pg_isThere qm_Pg_isThere ∈ qw := qw_in 2 (by decide +kernel) (by decide +kernel)
theorem qz_63 : Cond.methodLink "QuadMode$Pages" 33 qm_Pg_refusal ∈ qw := qw_in 493 (by decide +kernel) (by decide +kernel)
theorem qz_64 : Cond.code qm_Pg_refusal qm_Pg_refusal_c 2 (some .int) ∈ qw := qw_in 495 (by decide +kernel) (by decide +kernel)
theorem qz_65 : Cond.static qm_Pg_refusal ∈ qw := qw_in 494 (by decide +kernel) (by decide +kernel)
theorem qz_66 : Cond.fieldLink "QuadMode$Pages" 9 "QuadMode$Pages" "storage" "LQuadMode$Storage;" ∈ qw := qw_in 109 (by decide +kernel) (by decide +kernel)
theorem qz_67 : Cond.methodLink "QuadMode$Pages" 37 qm_St_longAt ∈ qw := qw_in 496 (by decide +kernel) (by decide +kernel)
theorem qz_68 : Cond.methodLink "QuadMode$Pages" 40 qm_Pg_isValid ∈ qw := qw_in 497 (by decide +kernel) (by decide +kernel)
theorem qz_69 : Cond.code qm_Pg_isValid qm_Pg_isValid_c 1 (some .boolean) ∈ qw := qw_in 499 (by decide +kernel) (by decide +kernel)
theorem qz_70 : Cond.static qm_Pg_isValid ∈ qw := qw_in 498 (by decide +kernel) (by decide +kernel)
theorem qz_71 : Cond.methodLink "QuadMode$Pages" 44 qm_Pg_inFrame ∈ qw := qw_in 500 (by decide +kernel) (by decide +kernel)
theorem qz_72 : Cond.code qm_Pg_inFrame qm_Pg_inFrame_c 2 (some .int) ∈ qw := qw_in 502 (by decide +kernel) (by decide +kernel)
theorem qz_73 : Cond.static qm_Pg_inFrame ∈ qw := qw_in 501 (by decide +kernel) (by decide +kernel)
theorem qz_74 : Cond.methodLink "QuadMode$Pages" 47 qm_Pg_grants ∈ qw := qw_in 503 (by decide +kernel) (by decide +kernel)
theorem qz_75 : Cond.code qm_Pg_grants qm_Pg_grants_c 5 (some .boolean) ∈ qw := qw_in 505 (by decide +kernel) (by decide +kernel)
theorem qz_76 : Cond.static qm_Pg_grants ∈ qw := qw_in 504 (by decide +kernel) (by decide +kernel)
theorem qz_77 : Cond.methodLink "QuadMode$Core" 69 qm_Pg_faultOf ∈ qw := qw_in 510 (by decide +kernel) (by decide +kernel)
theorem qz_78 : Cond.code qm_Pg_faultOf qm_Pg_faultOf_c 1 (some .int) ∈ qw := qw_in 512 (by decide +kernel) (by decide +kernel)
theorem qz_79 : Cond.static qm_Pg_faultOf ∈ qw := qw_in 511 (by decide +kernel) (by decide +kernel)
theorem qz_80 : Cond.methodLink "QuadMode$Core" 75 qm_Pg_flagOf ∈ qw := qw_in 513 (by decide +kernel) (by decide +kernel)
theorem qz_81 : Cond.code qm_Pg_flagOf qm_Pg_flagOf_c 1 (some .int) ∈ qw := qw_in 515 (by decide +kernel) (by decide +kernel)
theorem qz_82 : Cond.static qm_Pg_flagOf ∈ qw := qw_in 514 (by decide +kernel) (by decide +kernel)
theorem qz_83 : Cond.fieldLink "QuadMode$Core" 78 "QuadMode$Core" "faultFlag" "I" ∈ qw := qw_in 144 (by decide +kernel) (by decide +kernel)
theorem qz_84 : Cond.fieldLink "QuadMode$Core" 81 "QuadMode$Core" "faultAddress" "I" ∈ qw := qw_in 142 (by decide +kernel) (by decide +kernel)
theorem qz_85 : Cond.fieldLink "QuadMode$Core" 31 "QuadMode$Core" "pages" "LQuadMode$Pages;" ∈ qw := qw_in 128 (by decide +kernel) (by decide +kernel)
theorem qz_86 : Cond.methodLink "QuadMode$Core" 84 qm_Pg_locate ∈ qw := qw_in 481 (by decide +kernel) (by decide +kernel)
theorem qz_87 : Cond.code qm_Pg_locate qm_Pg_locate_c 10 (some .int) ∈ qw := qw_in 484 (by decide +kernel) (by decide +kernel)
theorem qz_88 : Cond.instanceMethod qm_Pg_locate ∈ qw := qw_in 482 (by decide +kernel) (by decide +kernel)
theorem qz_89 : Cond.selects "QuadMode$Pages" qm_Pg_locate qm_Pg_locate ∈ qw := qw_in 483 (by decide +kernel) (by decide +kernel)
theorem qz_90 : Cond.fieldLink "QuadMode$Core" 27 "QuadMode$Core" "storage" "LQuadMode$Storage;" ∈ qw := qw_in 127 (by decide +kernel) (by decide +kernel)
theorem qz_91 : Cond.methodLink "QuadMode$Core" 92 qm_St_byteAt ∈ qw := qw_in 516 (by decide +kernel) (by decide +kernel)
theorem qz_92 : Cond.code qm_St_byteAt qm_St_byteAt_c 2 (some .int) ∈ qw := qw_in 519 (by decide +kernel) (by decide +kernel)
theorem qz_93 : Cond.instanceMethod qm_St_byteAt ∈ qw := qw_in 517 (by decide +kernel) (by decide +kernel)
theorem qz_94 : Cond.selects "QuadMode$Storage" qm_St_byteAt qm_St_byteAt ∈ qw := qw_in 518 (by decide +kernel) (by decide +kernel)
theorem qz_95 : Cond.methodLink "QuadMode$Core" 88 qm_Co_refuse ∈ qw := qw_in 506 (by decide +kernel) (by decide +kernel)
theorem qz_96 : Cond.code qm_Co_refuse qm_Co_refuse_c 3 none ∈ qw := qw_in 509 (by decide +kernel) (by decide +kernel)
theorem qz_97 : Cond.instanceMethod qm_Co_refuse ∈ qw := qw_in 507 (by decide +kernel) (by decide +kernel)
theorem qz_98 : Cond.selects "QuadMode$Core" qm_Co_refuse qm_Co_refuse ∈ qw := qw_in 508 (by decide +kernel) (by decide +kernel)
theorem qz_99 : Cond.methodLink "QuadMode$Core" 107 qm_Co_get ∈ qw := qw_in 476 (by decide +kernel) (by decide +kernel)
theorem qz_100 : Cond.methodLink "QuadMode$Core" 110 qm_Co_read ∈ qw := qw_in 477 (by decide +kernel) (by decide +kernel)
theorem qz_101 : Cond.code qm_Co_read qm_Co_read_c 6 (some .int) ∈ qw := qw_in 480 (by decide +kernel) (by decide +kernel)
theorem qz_102 : Cond.instanceMethod qm_Co_read ∈ qw := qw_in 478 (by decide +kernel) (by decide +kernel)
theorem qz_103 : Cond.selects "QuadMode$Core" qm_Co_read qm_Co_read ∈ qw := qw_in 479 (by decide +kernel) (by decide +kernel)
theorem qz_104 : Cond.methodLink "QuadMode$Core" 114 qm_Co_put ∈ qw := qw_in 520 (by decide +kernel) (by decide +kernel)
theorem qz_105 : Cond.fieldLink "QuadMode$Codes" 9 "QuadMode$Codes" "core" "LQuadMode$Core;" ∈ qw := qw_in 218 (by decide +kernel) (by decide +kernel)
theorem qz_106 : Cond.methodLink "QuadMode$Codes" 25 qm_Co_mode ∈ qw := qw_in 525 (by decide +kernel) (by decide +kernel)
theorem qz_107 : Cond.methodLink "QuadMode$Specifiers" 63 qm_Sp_isNoWay ∈ qw := qw_in 614 (by decide +kernel) (by decide +kernel)
theorem qz_108 : Cond.initialized "QuadMode$Specifiers" ∈ qw := qw_in 68 (by decide +kernel) (by decide +kernel)
theorem qz_109 : Cond.code qm_Sp_isNoWay qm_Sp_isNoWay_c 1 (some .boolean) ∈ qw := qw_in 616 (by decide +kernel) (by decide +kernel)
theorem qz_110 : Cond.static qm_Sp_isNoWay ∈ qw := qw_in 615 (by decide +kernel) (by decide +kernel)
theorem qz_111 : Cond.methodLink "QuadMode$Specifiers" 67 qm_Sp_isAddress ∈ qw := qw_in 617 (by decide +kernel) (by decide +kernel)
theorem qz_112 : Cond.code qm_Sp_isAddress qm_Sp_isAddress_c 1 (some .boolean) ∈ qw := qw_in 619 (by decide +kernel) (by decide +kernel)
theorem qz_113 : Cond.static qm_Sp_isAddress ∈ qw := qw_in 618 (by decide +kernel) (by decide +kernel)
theorem qz_114 : Cond.fieldLink "QuadMode$Specifiers" 9 "QuadMode$Specifiers" "core" "LQuadMode$Core;" ∈ qw := qw_in 208 (by decide +kernel) (by decide +kernel)
theorem qz_115 : Cond.methodLink "QuadMode$Specifiers" 41 qm_Co_get ∈ qw := qw_in 621 (by decide +kernel) (by decide +kernel)
theorem qz_116 : Cond.methodLink "QuadMode$Specifiers" 24 qm_Co_fetch ∈ qw := qw_in 610 (by decide +kernel) (by decide +kernel)
theorem qz_117 : Cond.code qm_Co_fetch qm_Co_fetch_c 3 (some .int) ∈ qw := qw_in 475 (by decide +kernel) (by decide +kernel)
theorem qz_118 : Cond.instanceMethod qm_Co_fetch ∈ qw := qw_in 473 (by decide +kernel) (by decide +kernel)
theorem qz_119 : Cond.selects "QuadMode$Core" qm_Co_fetch qm_Co_fetch ∈ qw := qw_in 474 (by decide +kernel) (by decide +kernel)
theorem qz_120 : Cond.methodLink "QuadMode$Specifiers" 59 qm_Co_read ∈ qw := qw_in 630 (by decide +kernel) (by decide +kernel)
theorem qz_121 : Cond.methodLink "QuadMode$Specifiers" 70 qm_Co_put ∈ qw := qw_in 629 (by decide +kernel) (by decide +kernel)
theorem qz_122 : Cond.methodLink "QuadMode$Specifiers" 33 qm_Sp_suits ∈ qw := qw_in 611 (by decide +kernel) (by decide +kernel)
theorem qz_123 : Cond.code qm_Sp_suits qm_Sp_suits_c 3 (some .boolean) ∈ qw := qw_in 613 (by decide +kernel) (by decide +kernel)
theorem qz_124 : Cond.static qm_Sp_suits ∈ qw := qw_in 612 (by decide +kernel) (by decide +kernel)
theorem qz_125 : Cond.methodLink "QuadMode$Specifiers" 37 qm_Co_raise ∈ qw := qw_in 620 (by decide +kernel) (by decide +kernel)
theorem qz_126 : Cond.code qm_Co_raise qm_Co_raise_c 2 none ∈ qw := qw_in 529 (by decide +kernel) (by decide +kernel)
theorem qz_127 : Cond.instanceMethod qm_Co_raise ∈ qw := qw_in 527 (by decide +kernel) (by decide +kernel)
theorem qz_128 : Cond.selects "QuadMode$Core" qm_Co_raise qm_Co_raise ∈ qw := qw_in 528 (by decide +kernel) (by decide +kernel)
theorem qz_129 : Cond.methodLink "QuadMode$Specifiers" 44 qm_Sp_suitsBehindIndexed ∈ qw := qw_in 622 (by decide +kernel) (by decide +kernel)
theorem qz_130 : Cond.code qm_Sp_suitsBehindIndexed qm_Sp_suitsBehindIndexed_c 2 (some .boolean) ∈ qw := qw_in 624 (by decide +kernel) (by decide +kernel)
theorem qz_131 : Cond.static qm_Sp_suitsBehindIndexed ∈ qw := qw_in 623 (by decide +kernel) (by decide +kernel)
theorem qz_132 : Cond.methodLink "QuadMode$Specifiers" 48 qm_Sp_addressBy ∈ qw := qw_in 625 (by decide +kernel) (by decide +kernel)
theorem qz_133 : Cond.code qm_Sp_addressBy qm_Sp_addressBy_c 7 (some .int) ∈ qw := qw_in 628 (by decide +kernel) (by decide +kernel)
theorem qz_134 : Cond.instanceMethod qm_Sp_addressBy ∈ qw := qw_in 627 (by decide +kernel) (by decide +kernel)
theorem qz_135 : Cond.selects "QuadMode$Specifiers" qm_Sp_addressBy qm_Sp_addressBy ∈ qw := qw_in 3 (by decide +kernel) (by decide +kernel)
theorem qz_136 : Cond.methodLink "QuadMode$Specifiers" 55 qm_Sp_isRead ∈ qw := qw_in 631 (by decide +kernel) (by decide +kernel)
theorem qz_137 : Cond.code qm_Sp_isRead qm_Sp_isRead_c 1 (some .boolean) ∈ qw := qw_in 633 (by decide +kernel) (by decide +kernel)
theorem qz_138 : Cond.static qm_Sp_isRead ∈ qw := qw_in 632 (by decide +kernel) (by decide +kernel)
theorem qz_139 : Cond.methodLink "QuadMode$Codes" 89 qm_Co_pop ∈ qw := qw_in 642 (by decide +kernel) (by decide +kernel)
theorem qz_140 : Cond.code qm_Co_pop qm_Co_pop_c 2 (some .int) ∈ qw := qw_in 645 (by decide +kernel) (by decide +kernel)
theorem qz_141 : Cond.instanceMethod qm_Co_pop ∈ qw := qw_in 643 (by decide +kernel) (by decide +kernel)
theorem qz_142 : Cond.selects "QuadMode$Core" qm_Co_pop qm_Co_pop ∈ qw := qw_in 644 (by decide +kernel) (by decide +kernel)
theorem qz_143 : Cond.constant "QuadMode$Codes" 173 (-62914608) ∈ qw := qw_in 646 (by decide +kernel) (by decide +kernel)
theorem qz_144 : Cond.methodLink "QuadMode$Codes" 92 qm_Co_put ∈ qw := qw_in 648 (by decide +kernel) (by decide +kernel)
theorem qz_145 : Cond.methodLink "QuadMode$Codes" 82 qm_Co_raise ∈ qw := qw_in 647 (by decide +kernel) (by decide +kernel)
theorem qz_146 : Cond.methodLink "QuadMode$Codes" 169 qm_Co_get ∈ qw := qw_in 653 (by decide +kernel) (by decide +kernel)
theorem qz_147 : Cond.constant "QuadMode$Codes" 239 65488 ∈ qw := qw_in 654 (by decide +kernel) (by decide +kernel)
theorem qz_148 : Cond.constant "QuadMode$Codes" 237 536870912 ∈ qw := qw_in 655 (by decide +kernel) (by decide +kernel)
theorem qz_149 : Cond.methodLink "QuadMode$Codes" 174 qm_Co_hasInner ∈ qw := qw_in 660 (by decide +kernel) (by decide +kernel)
theorem qz_150 : Cond.methodLink "QuadMode$Codes" 177 qm_Co_putInner ∈ qw := qw_in 661 (by decide +kernel) (by decide +kernel)
theorem qz_151 : Cond.methodLink "QuadMode$Core" 50 qm_Co_setConditions ∈ qw := qw_in 671 (by decide +kernel) (by decide +kernel)
theorem qz_152 : Cond.code qm_Co_setConditions qm_Co_setConditions_c 6 none ∈ qw := qw_in 674 (by decide +kernel) (by decide +kernel)
theorem qz_153 : Cond.instanceMethod qm_Co_setConditions ∈ qw := qw_in 672 (by decide +kernel) (by decide +kernel)
theorem qz_154 : Cond.selects "QuadMode$Core" qm_Co_setConditions qm_Co_setConditions ∈ qw := qw_in 673 (by decide +kernel) (by decide +kernel)
theorem qz_155 : Cond.methodLink "QuadMode$Pages" 51 qm_St_byteAt ∈ qw := qw_in 687 (by decide +kernel) (by decide +kernel)
theorem qz_156 : Cond.methodLink "QuadMode$Pages" 54 qm_St_putByte ∈ qw := qw_in 688 (by decide +kernel) (by decide +kernel)
theorem qz_157 : Cond.fieldLink "QuadMode$Core" 21 "QuadMode$Core" "places" "[I" ∈ qw := qw_in 133 (by decide +kernel) (by decide +kernel)
theorem qz_158 : Cond.fieldLink "QuadMode$Core" 24 "QuadMode$Core" "entries" "[I" ∈ qw := qw_in 134 (by decide +kernel) (by decide +kernel)
theorem qz_159 : Cond.methodLink "QuadMode$Core" 100 qm_Pg_markModified ∈ qw := qw_in 683 (by decide +kernel) (by decide +kernel)
theorem qz_160 : Cond.code qm_Pg_markModified qm_Pg_markModified_c 2 none ∈ qw := qw_in 686 (by decide +kernel) (by decide +kernel)
theorem qz_161 : Cond.instanceMethod qm_Pg_markModified ∈ qw := qw_in 684 (by decide +kernel) (by decide +kernel)
theorem qz_162 : Cond.selects "QuadMode$Pages" qm_Pg_markModified qm_Pg_markModified ∈ qw := qw_in 685 (by decide +kernel) (by decide +kernel)
theorem qz_163 : Cond.methodLink "QuadMode$Core" 104 qm_St_putByte ∈ qw := qw_in 689 (by decide +kernel) (by decide +kernel)
theorem qz_164 : Cond.methodLink "QuadMode$Codes" 165 qm_Co_write ∈ qw := qw_in 679 (by decide +kernel) (by decide +kernel)
theorem qz_165 : Cond.code qm_Co_write qm_Co_write_c 5 none ∈ qw := qw_in 682 (by decide +kernel) (by decide +kernel)
theorem qz_166 : Cond.instanceMethod qm_Co_write ∈ qw := qw_in 680 (by decide +kernel) (by decide +kernel)
theorem qz_167 : Cond.selects "QuadMode$Core" qm_Co_write qm_Co_write ∈ qw := qw_in 681 (by decide +kernel) (by decide +kernel)
theorem qz_168 : Cond.methodLink "QuadMode$Codes" 180 qm_Co_getInner ∈ qw := qw_in 666 (by decide +kernel) (by decide +kernel)
theorem qz_169 : Cond.methodLink "QuadMode$Codes" 183 qm_Co_conclude ∈ qw := qw_in 667 (by decide +kernel) (by decide +kernel)
theorem qz_170 : Cond.code qm_Co_conclude qm_Co_conclude_c 4 none ∈ qw := qw_in 670 (by decide +kernel) (by decide +kernel)
theorem qz_171 : Cond.instanceMethod qm_Co_conclude ∈ qw := qw_in 668 (by decide +kernel) (by decide +kernel)
theorem qz_172 : Cond.selects "QuadMode$Core" qm_Co_conclude qm_Co_conclude ∈ qw := qw_in 669 (by decide +kernel) (by decide +kernel)
theorem qz_173 : Cond.fieldLink "QuadMode$Codes" 19 "QuadMode$Codes" "second" "LQuadMode$Operand;" ∈ qw := qw_in 220 (by decide +kernel) (by decide +kernel)
theorem qz_174 : Cond.methodLink "QuadMode$Codes" 111 qm_Cd_store ∈ qw := qw_in 675 (by decide +kernel) (by decide +kernel)
theorem qz_175 : Cond.initialized "QuadMode$Codes" ∈ qw := qw_in 69 (by decide +kernel) (by decide +kernel)
theorem qz_176 : Cond.code qm_Cd_store qm_Cd_store_c 3 none ∈ qw := qw_in 678 (by decide +kernel) (by decide +kernel)
theorem qz_177 : Cond.instanceMethod qm_Cd_store ∈ qw := qw_in 677 (by decide +kernel) (by decide +kernel)
theorem qz_178 : Cond.selects "QuadMode$Codes" qm_Cd_store qm_Cd_store ∈ qw := qw_in 8 (by decide +kernel) (by decide +kernel)
theorem qz_179 : Cond.methodLink "QuadMode$Codes" 222 Lib.Math.min.name ∈ qw := qw_in 694 (by decide +kernel) (by decide +kernel)
theorem qz_180 : Cond.static Lib.Math.min.name ∈ qw := qw_in 695 (by decide +kernel) (by decide +kernel)
theorem qz_181 : Cond.initialized "java/lang/Math" ∈ qw := qw_in 82 (by decide +kernel) (by decide +kernel)
theorem qz_182 : Cond.code Lib.Math.min.name Lib.Math.min.code 2 (some .int) ∈ qw := qw_in 696 (by decide +kernel) (by decide +kernel)
theorem qz_183 : Cond.fieldLink "QuadMode$Codes" 22 "QuadMode$Codes" "third" "LQuadMode$Operand;" ∈ qw := qw_in 221 (by decide +kernel) (by decide +kernel)
theorem qz_184 : Cond.methodLink "QuadMode$Core" 117 qm_Co_write ∈ qw := qw_in 705 (by decide +kernel) (by decide +kernel)
theorem qz_185 : Cond.fieldLink "QuadMode$Codes" 15 "QuadMode$Codes" "first" "LQuadMode$Operand;" ∈ qw := qw_in 219 (by decide +kernel) (by decide +kernel)
theorem qz_186 : Cond.methodLink "QuadMode$Codes" 227 qm_Co_push ∈ qw := qw_in 701 (by decide +kernel) (by decide +kernel)
theorem qz_187 : Cond.code qm_Co_push qm_Co_push_c 2 none ∈ qw := qw_in 704 (by decide +kernel) (by decide +kernel)
theorem qz_188 : Cond.instanceMethod qm_Co_push ∈ qw := qw_in 702 (by decide +kernel) (by decide +kernel)
theorem qz_189 : Cond.selects "QuadMode$Core" qm_Co_push qm_Co_push ∈ qw := qw_in 703 (by decide +kernel) (by decide +kernel)
theorem qz_190 : Cond.methodLink "QuadMode$Codes" 233 qm_Co_read ∈ qw := qw_in 706 (by decide +kernel) (by decide +kernel)
theorem qz_191 : Cond.constant "QuadMode$Codes" 236 45056 ∈ qw := qw_in 707 (by decide +kernel) (by decide +kernel)
theorem qz_192 : Cond.constant "QuadMode$Codes" 238 65535 ∈ qw := qw_in 708 (by decide +kernel) (by decide +kernel)
theorem qz_193 : Cond.methodLink "QuadMode$Codes" 240 qm_Co_previous ∈ qw := qw_in 713 (by decide +kernel) (by decide +kernel)
theorem qz_194 : Cond.code qm_Co_previous qm_Co_previous_c 1 (some .int) ∈ qw := qw_in 716 (by decide +kernel) (by decide +kernel)
theorem qz_195 : Cond.instanceMethod qm_Co_previous ∈ qw := qw_in 714 (by decide +kernel) (by decide +kernel)
theorem qz_196 : Cond.selects "QuadMode$Core" qm_Co_previous qm_Co_previous ∈ qw := qw_in 715 (by decide +kernel) (by decide +kernel)
theorem qz_197 : Cond.methodLink "QuadMode$Codes" 243 Lib.Math.max.name ∈ qw := qw_in 717 (by decide +kernel) (by decide +kernel)
theorem qz_198 : Cond.static Lib.Math.max.name ∈ qw := qw_in 718 (by decide +kernel) (by decide +kernel)
theorem qz_199 : Cond.code Lib.Math.max.name Lib.Math.max.code 2 (some .int) ∈ qw := qw_in 719 (by decide +kernel) (by decide +kernel)
theorem qz_200 : Cond.methodLink "QuadMode$Codes" 246 qm_Co_admits ∈ qw := qw_in 720 (by decide +kernel) (by decide +kernel)
theorem qz_201 : Cond.code qm_Co_admits qm_Co_admits_c 5 (some .boolean) ∈ qw := qw_in 723 (by decide +kernel) (by decide +kernel)
theorem qz_202 : Cond.instanceMethod qm_Co_admits ∈ qw := qw_in 721 (by decide +kernel) (by decide +kernel)
theorem qz_203 : Cond.selects "QuadMode$Core" qm_Co_admits qm_Co_admits ∈ qw := qw_in 722 (by decide +kernel) (by decide +kernel)
theorem qz_204 : Cond.methodLink "QuadMode$Codes" 197 qm_Co_setConditions ∈ qw := qw_in 724 (by decide +kernel) (by decide +kernel)
theorem qz_205 : Cond.methodLink "QuadMode$Codes" 187 qm_Cd_moved ∈ qw := qw_in 729 (by decide +kernel) (by decide +kernel)
theorem qz_206 : Cond.code qm_Cd_moved qm_Cd_moved_c 2 (some .int) ∈ qw := qw_in 731 (by decide +kernel) (by decide +kernel)
theorem qz_207 : Cond.static qm_Cd_moved ∈ qw := qw_in 730 (by decide +kernel) (by decide +kernel)
theorem qz_208 : Cond.constant "QuadMode$Codes" 193 (-2147483648) ∈ qw := qw_in 732 (by decide +kernel) (by decide +kernel)
theorem qz_209 : Cond.methodLink "QuadMode$Codes" 152 qm_Co_has ∈ qw := qw_in 733 (by decide +kernel) (by decide +kernel)
theorem qz_210 : Cond.code qm_Co_has qm_Co_has_c 2 (some .boolean) ∈ qw := qw_in 736 (by decide +kernel) (by decide +kernel)
theorem qz_211 : Cond.instanceMethod qm_Co_has ∈ qw := qw_in 734 (by decide +kernel) (by decide +kernel)
theorem qz_212 : Cond.selects "QuadMode$Core" qm_Co_has qm_Co_has ∈ qw := qw_in 735 (by decide +kernel) (by decide +kernel)
theorem qz_213 : Cond.constant "java/lang/Integer" 127 (-2147483648) ∈ qw := qw_in 744 (by decide +kernel) (by decide +kernel)
theorem qz_214 : Cond.methodLink "java/lang/Integer" 259 qm_JI_compare ∈ qw := qw_in 745 (by decide +kernel) (by decide +kernel)
theorem qz_215 : Cond.initialized "java/lang/Integer" ∈ qw := qw_in 83 (by decide +kernel) (by decide +kernel)
theorem qz_216 : Cond.code qm_JI_compare qm_JI_compare_c 2 (some .int) ∈ qw := qw_in 747 (by decide +kernel) (by decide +kernel)
theorem qz_217 : Cond.static qm_JI_compare ∈ qw := qw_in 746 (by decide +kernel) (by decide +kernel)
theorem qz_218 : Cond.methodLink "QuadMode$Codes" 194 qm_JI_compareUnsigned ∈ qw := qw_in 741 (by decide +kernel) (by decide +kernel)
theorem qz_219 : Cond.code qm_JI_compareUnsigned qm_JI_compareUnsigned_c 2 (some .int) ∈ qw := qw_in 743 (by decide +kernel) (by decide +kernel)
theorem qz_220 : Cond.static qm_JI_compareUnsigned ∈ qw := qw_in 742 (by decide +kernel) (by decide +kernel)
theorem qz_221 : Cond.constantLong "QuadMode$Codes" 220 4294967295 ∈ qw := qw_in 756 (by decide +kernel) (by decide +kernel)
theorem qz_222 : Cond.methodLink "QuadMode$Codes" 217 qm_Cd_bits ∈ qw := qw_in 773 (by decide +kernel) (by decide +kernel)
theorem qz_223 : Cond.code qm_Cd_bits qm_Cd_bits_c 2 (some .int) ∈ qw := qw_in 776 (by decide +kernel) (by decide +kernel)
theorem qz_224 : Cond.instanceMethod qm_Cd_bits ∈ qw := qw_in 775 (by decide +kernel) (by decide +kernel)
theorem qz_225 : Cond.selects "QuadMode$Codes" qm_Cd_bits qm_Cd_bits ∈ qw := qw_in 20 (by decide +kernel) (by decide +kernel)
theorem qz_226 : Cond.methodLink "QuadMode$Codes" 214 qm_Cd_divide ∈ qw := qw_in 769 (by decide +kernel) (by decide +kernel)
theorem qz_227 : Cond.code qm_Cd_divide qm_Cd_divide_c 5 (some .int) ∈ qw := qw_in 772 (by decide +kernel) (by decide +kernel)
theorem qz_228 : Cond.instanceMethod qm_Cd_divide ∈ qw := qw_in 771 (by decide +kernel) (by decide +kernel)
theorem qz_229 : Cond.selects "QuadMode$Codes" qm_Cd_divide qm_Cd_divide ∈ qw := qw_in 19 (by decide +kernel) (by decide +kernel)
theorem qz_230 : Cond.methodLink "QuadMode$Codes" 211 qm_Cd_multiply ∈ qw := qw_in 765 (by decide +kernel) (by decide +kernel)
theorem qz_231 : Cond.code qm_Cd_multiply qm_Cd_multiply_c 5 (some .int) ∈ qw := qw_in 768 (by decide +kernel) (by decide +kernel)
theorem qz_232 : Cond.instanceMethod qm_Cd_multiply ∈ qw := qw_in 767 (by decide +kernel) (by decide +kernel)
theorem qz_233 : Cond.selects "QuadMode$Codes" qm_Cd_multiply qm_Cd_multiply ∈ qw := qw_in 18 (by decide +kernel) (by decide +kernel)
theorem qz_234 : Cond.methodLink "QuadMode$Codes" 204 qm_Cd_subtract ∈ qw := qw_in 757 (by decide +kernel) (by decide +kernel)
theorem qz_235 : Cond.code qm_Cd_subtract qm_Cd_subtract_c 5 (some .int) ∈ qw := qw_in 760 (by decide +kernel) (by decide +kernel)
theorem qz_236 : Cond.instanceMethod qm_Cd_subtract ∈ qw := qw_in 759 (by decide +kernel) (by decide +kernel)
theorem qz_237 : Cond.selects "QuadMode$Codes" qm_Cd_subtract qm_Cd_subtract ∈ qw := qw_in 16 (by decide +kernel) (by decide +kernel)
theorem qz_238 : Cond.methodLink "QuadMode$Codes" 201 qm_Cd_add ∈ qw := qw_in 752 (by decide +kernel) (by decide +kernel)
theorem qz_239 : Cond.code qm_Cd_add qm_Cd_add_c 5 (some .int) ∈ qw := qw_in 755 (by decide +kernel) (by decide +kernel)
theorem qz_240 : Cond.instanceMethod qm_Cd_add ∈ qw := qw_in 754 (by decide +kernel) (by decide +kernel)
theorem qz_241 : Cond.selects "QuadMode$Codes" qm_Cd_add qm_Cd_add ∈ qw := qw_in 15 (by decide +kernel) (by decide +kernel)
theorem qz_242 : Cond.methodLink "QuadMode$Codes" 207 qm_Cd_calculated ∈ qw := qw_in 761 (by decide +kernel) (by decide +kernel)
theorem qz_243 : Cond.code qm_Cd_calculated qm_Cd_calculated_c 4 (some .int) ∈ qw := qw_in 764 (by decide +kernel) (by decide +kernel)
theorem qz_244 : Cond.instanceMethod qm_Cd_calculated ∈ qw := qw_in 763 (by decide +kernel) (by decide +kernel)
theorem qz_245 : Cond.selects "QuadMode$Codes" qm_Cd_calculated qm_Cd_calculated ∈ qw := qw_in 17 (by decide +kernel) (by decide +kernel)
theorem qz_246 : Cond.methodLink "QuadMode$Codes" 230 qm_Cd_holds ∈ qw := qw_in 789 (by decide +kernel) (by decide +kernel)
theorem qz_247 : Cond.code qm_Cd_holds qm_Cd_holds_c 2 (some .boolean) ∈ qw := qw_in 792 (by decide +kernel) (by decide +kernel)
theorem qz_248 : Cond.instanceMethod qm_Cd_holds ∈ qw := qw_in 791 (by decide +kernel) (by decide +kernel)
theorem qz_249 : Cond.selects "QuadMode$Codes" qm_Cd_holds qm_Cd_holds ∈ qw := qw_in 24 (by decide +kernel) (by decide +kernel)
theorem qz_250 : Cond.methodLink "QuadMode$Codes" 125 qm_Cd_move ∈ qw := qw_in 725 (by decide +kernel) (by decide +kernel)
theorem qz_251 : Cond.code qm_Cd_move qm_Cd_move_c 6 none ∈ qw := qw_in 728 (by decide +kernel) (by decide +kernel)
theorem qz_252 : Cond.instanceMethod qm_Cd_move ∈ qw := qw_in 727 (by decide +kernel) (by decide +kernel)
theorem qz_253 : Cond.selects "QuadMode$Codes" qm_Cd_move qm_Cd_move ∈ qw := qw_in 12 (by decide +kernel) (by decide +kernel)
theorem qz_254 : Cond.methodLink "QuadMode$Codes" 128 qm_Cd_compare ∈ qw := qw_in 737 (by decide +kernel) (by decide +kernel)
theorem qz_255 : Cond.code qm_Cd_compare qm_Cd_compare_c 5 none ∈ qw := qw_in 740 (by decide +kernel) (by decide +kernel)
theorem qz_256 : Cond.instanceMethod qm_Cd_compare ∈ qw := qw_in 739 (by decide +kernel) (by decide +kernel)
theorem qz_257 : Cond.selects "QuadMode$Codes" qm_Cd_compare qm_Cd_compare ∈ qw := qw_in 13 (by decide +kernel) (by decide +kernel)
theorem qz_258 : Cond.methodLink "QuadMode$Codes" 131 qm_Cd_calculate ∈ qw := qw_in 748 (by decide +kernel) (by decide +kernel)
theorem qz_259 : Cond.code qm_Cd_calculate qm_Cd_calculate_c 3 none ∈ qw := qw_in 751 (by decide +kernel) (by decide +kernel)
theorem qz_260 : Cond.instanceMethod qm_Cd_calculate ∈ qw := qw_in 750 (by decide +kernel) (by decide +kernel)
theorem qz_261 : Cond.selects "QuadMode$Codes" qm_Cd_calculate qm_Cd_calculate ∈ qw := qw_in 14 (by decide +kernel) (by decide +kernel)
theorem qz_262 : Cond.methodLink "QuadMode$Codes" 134 qm_Cd_handAddress ∈ qw := qw_in 777 (by decide +kernel) (by decide +kernel)
theorem qz_263 : Cond.code qm_Cd_handAddress qm_Cd_handAddress_c 3 none ∈ qw := qw_in 780 (by decide +kernel) (by decide +kernel)
theorem qz_264 : Cond.instanceMethod qm_Cd_handAddress ∈ qw := qw_in 779 (by decide +kernel) (by decide +kernel)
theorem qz_265 : Cond.selects "QuadMode$Codes" qm_Cd_handAddress qm_Cd_handAddress ∈ qw := qw_in 21 (by decide +kernel) (by decide +kernel)
theorem qz_266 : Cond.methodLink "QuadMode$Codes" 137 qm_Cd_go ∈ qw := qw_in 781 (by decide +kernel) (by decide +kernel)
theorem qz_267 : Cond.code qm_Cd_go qm_Cd_go_c 3 none ∈ qw := qw_in 784 (by decide +kernel) (by decide +kernel)
theorem qz_268 : Cond.instanceMethod qm_Cd_go ∈ qw := qw_in 783 (by decide +kernel) (by decide +kernel)
theorem qz_269 : Cond.selects "QuadMode$Codes" qm_Cd_go qm_Cd_go ∈ qw := qw_in 22 (by decide +kernel) (by decide +kernel)
theorem qz_270 : Cond.methodLink "QuadMode$Codes" 140 qm_Cd_branch ∈ qw := qw_in 785 (by decide +kernel) (by decide +kernel)
theorem qz_271 : Cond.code qm_Cd_branch qm_Cd_branch_c 4 none ∈ qw := qw_in 788 (by decide +kernel) (by decide +kernel)
theorem qz_272 : Cond.instanceMethod qm_Cd_branch ∈ qw := qw_in 787 (by decide +kernel) (by decide +kernel)
theorem qz_273 : Cond.selects "QuadMode$Codes" qm_Cd_branch qm_Cd_branch ∈ qw := qw_in 23 (by decide +kernel) (by decide +kernel)
theorem qz_274 : Cond.methodLink "QuadMode$Codes" 143 qm_Cd_count ∈ qw := qw_in 793 (by decide +kernel) (by decide +kernel)
theorem qz_275 : Cond.code qm_Cd_count qm_Cd_count_c 9 none ∈ qw := qw_in 796 (by decide +kernel) (by decide +kernel)
theorem qz_276 : Cond.instanceMethod qm_Cd_count ∈ qw := qw_in 795 (by decide +kernel) (by decide +kernel)
theorem qz_277 : Cond.selects "QuadMode$Codes" qm_Cd_count qm_Cd_count ∈ qw := qw_in 25 (by decide +kernel) (by decide +kernel)
theorem qz_278 : Cond.methodLink "QuadMode$Codes" 121 qm_Cd_probe ∈ qw := qw_in 709 (by decide +kernel) (by decide +kernel)
theorem qz_279 : Cond.code qm_Cd_probe qm_Cd_probe_c 5 none ∈ qw := qw_in 712 (by decide +kernel) (by decide +kernel)
theorem qz_280 : Cond.instanceMethod qm_Cd_probe ∈ qw := qw_in 711 (by decide +kernel) (by decide +kernel)
theorem qz_281 : Cond.selects "QuadMode$Codes" qm_Cd_probe qm_Cd_probe ∈ qw := qw_in 11 (by decide +kernel) (by decide +kernel)
theorem qz_282 : Cond.methodLink "QuadMode$Codes" 118 qm_Cd_enterFrame ∈ qw := qw_in 697 (by decide +kernel) (by decide +kernel)
theorem qz_283 : Cond.code qm_Cd_enterFrame qm_Cd_enterFrame_c 5 none ∈ qw := qw_in 700 (by decide +kernel) (by decide +kernel)
theorem qz_284 : Cond.instanceMethod qm_Cd_enterFrame ∈ qw := qw_in 699 (by decide +kernel) (by decide +kernel)
theorem qz_285 : Cond.selects "QuadMode$Codes" qm_Cd_enterFrame qm_Cd_enterFrame ∈ qw := qw_in 10 (by decide +kernel) (by decide +kernel)
theorem qz_286 : Cond.methodLink "QuadMode$Codes" 115 qm_Cd_shift ∈ qw := qw_in 690 (by decide +kernel) (by decide +kernel)
theorem qz_287 : Cond.code qm_Cd_shift qm_Cd_shift_c 5 none ∈ qw := qw_in 693 (by decide +kernel) (by decide +kernel)
theorem qz_288 : Cond.instanceMethod qm_Cd_shift ∈ qw := qw_in 692 (by decide +kernel) (by decide +kernel)
theorem qz_289 : Cond.selects "QuadMode$Codes" qm_Cd_shift qm_Cd_shift ∈ qw := qw_in 9 (by decide +kernel) (by decide +kernel)
theorem qz_290 : Cond.methodLink "QuadMode$Codes" 105 qm_Cd_takeInner ∈ qw := qw_in 662 (by decide +kernel) (by decide +kernel)
theorem qz_291 : Cond.code qm_Cd_takeInner qm_Cd_takeInner_c 3 none ∈ qw := qw_in 665 (by decide +kernel) (by decide +kernel)
theorem qz_292 : Cond.instanceMethod qm_Cd_takeInner ∈ qw := qw_in 664 (by decide +kernel) (by decide +kernel)
theorem qz_293 : Cond.selects "QuadMode$Codes" qm_Cd_takeInner qm_Cd_takeInner ∈ qw := qw_in 7 (by decide +kernel) (by decide +kernel)
theorem qz_294 : Cond.methodLink "QuadMode$Codes" 102 qm_Cd_giveInner ∈ qw := qw_in 656 (by decide +kernel) (by decide +kernel)
theorem qz_295 : Cond.code qm_Cd_giveInner qm_Cd_giveInner_c 3 none ∈ qw := qw_in 659 (by decide +kernel) (by decide +kernel)
theorem qz_296 : Cond.instanceMethod qm_Cd_giveInner ∈ qw := qw_in 658 (by decide +kernel) (by decide +kernel)
theorem qz_297 : Cond.selects "QuadMode$Codes" qm_Cd_giveInner qm_Cd_giveInner ∈ qw := qw_in 6 (by decide +kernel) (by decide +kernel)
theorem qz_298 : Cond.methodLink "QuadMode$Codes" 86 qm_Cd_leaveFrame ∈ qw := qw_in 649 (by decide +kernel) (by decide +kernel)
theorem qz_299 : Cond.code qm_Cd_leaveFrame qm_Cd_leaveFrame_c 3 none ∈ qw := qw_in 652 (by decide +kernel) (by decide +kernel)
theorem qz_300 : Cond.instanceMethod qm_Cd_leaveFrame ∈ qw := qw_in 651 (by decide +kernel) (by decide +kernel)
theorem qz_301 : Cond.selects "QuadMode$Codes" qm_Cd_leaveFrame qm_Cd_leaveFrame ∈ qw := qw_in 5 (by decide +kernel) (by decide +kernel)
theorem qz_302 : Cond.methodLink "QuadMode$Codes" 79 qm_Cd_leaveException ∈ qw := qw_in 638 (by decide +kernel) (by decide +kernel)
theorem qz_303 : Cond.code qm_Cd_leaveException qm_Cd_leaveException_c 5 none ∈ qw := qw_in 641 (by decide +kernel) (by decide +kernel)
theorem qz_304 : Cond.instanceMethod qm_Cd_leaveException ∈ qw := qw_in 640 (by decide +kernel) (by decide +kernel)
theorem qz_305 : Cond.selects "QuadMode$Codes" qm_Cd_leaveException qm_Cd_leaveException ∈ qw := qw_in 4 (by decide +kernel) (by decide +kernel)
theorem qz_306 : Cond.methodLink "QuadMode$Codes" 146 qm_Cd_noteOverflow ∈ qw := qw_in 797 (by decide +kernel) (by decide +kernel)
theorem qz_307 : Cond.code qm_Cd_noteOverflow qm_Cd_noteOverflow_c 3 none ∈ qw := qw_in 800 (by decide +kernel) (by decide +kernel)
theorem qz_308 : Cond.instanceMethod qm_Cd_noteOverflow ∈ qw := qw_in 799 (by decide +kernel) (by decide +kernel)
theorem qz_309 : Cond.selects "QuadMode$Codes" qm_Cd_noteOverflow qm_Cd_noteOverflow ∈ qw := qw_in 26 (by decide +kernel) (by decide +kernel)
theorem qz_310 : Cond.fieldLink "QuadMode" 128 "QuadMode" "latest" "I" ∈ qw := qw_in 240 (by decide +kernel) (by decide +kernel)
theorem qz_311 : Cond.fieldLink "QuadMode" 131 "QuadMode" "exceptions" "I" ∈ qw := qw_in 241 (by decide +kernel) (by decide +kernel)
theorem qz_312 : Cond.methodLink "QuadMode" 187 qm_Co_mode ∈ qw := qw_in 813 (by decide +kernel) (by decide +kernel)
theorem qz_313 : Cond.methodLink "QuadMode" 202 qm_Co_push ∈ qw := qw_in 814 (by decide +kernel) (by decide +kernel)
theorem qz_314 : Cond.fieldLink "QuadMode" 16 "QuadMode" "inner" "[I" ∈ qw := qw_in 232 (by decide +kernel) (by decide +kernel)
theorem qz_315 : Cond.methodLink "QuadMode" 174 qm_Co_takeBack ∈ qw := qw_in 805 (by decide +kernel) (by decide +kernel)
theorem qz_316 : Cond.code qm_Co_takeBack qm_Co_takeBack_c 1 none ∈ qw := qw_in 808 (by decide +kernel) (by decide +kernel)
theorem qz_317 : Cond.instanceMethod qm_Co_takeBack ∈ qw := qw_in 806 (by decide +kernel) (by decide +kernel)
theorem qz_318 : Cond.selects "QuadMode$Core" qm_Co_takeBack qm_Co_takeBack ∈ qw := qw_in 807 (by decide +kernel) (by decide +kernel)
theorem qz_319 : Cond.methodLink "QuadMode" 190 Lib.Math.min.name ∈ qw := qw_in 815 (by decide +kernel) (by decide +kernel)
theorem qz_320 : Cond.fieldLink "QuadMode" 41 "QuadMode" "operands" "[LQuadMode$Operand;" ∈ qw := qw_in 235 (by decide +kernel) (by decide +kernel)
theorem qz_321 : Cond.methodLink "QuadMode" 134 qm_Co_keep ∈ qw := qw_in 465 (by decide +kernel) (by decide +kernel)
theorem qz_322 : Cond.code qm_Co_keep qm_Co_keep_c 1 none ∈ qw := qw_in 468 (by decide +kernel) (by decide +kernel)
theorem qz_323 : Cond.instanceMethod qm_Co_keep ∈ qw := qw_in 466 (by decide +kernel) (by decide +kernel)
theorem qz_324 : Cond.selects "QuadMode$Core" qm_Co_keep qm_Co_keep ∈ qw := qw_in 467 (by decide +kernel) (by decide +kernel)
theorem qz_325 : Cond.methodLink "QuadMode" 137 qm_Co_fetch ∈ qw := qw_in 472 (by decide +kernel) (by decide +kernel)
theorem qz_326 : Cond.fieldLink "QuadMode" 59 "QuadMode" "codes" "LQuadMode$Codes;" ∈ qw := qw_in 237 (by decide +kernel) (by decide +kernel)
theorem qz_327 : Cond.methodLink "QuadMode" 140 qm_Cd_isAllowed ∈ qw := qw_in 521 (by decide +kernel) (by decide +kernel)
theorem qz_328 : Cond.code qm_Cd_isAllowed qm_Cd_isAllowed_c 3 (some .boolean) ∈ qw := qw_in 524 (by decide +kernel) (by decide +kernel)
theorem qz_329 : Cond.instanceMethod qm_Cd_isAllowed ∈ qw := qw_in 522 (by decide +kernel) (by decide +kernel)
theorem qz_330 : Cond.selects "QuadMode$Codes" qm_Cd_isAllowed qm_Cd_isAllowed ∈ qw := qw_in 523 (by decide +kernel) (by decide +kernel)
theorem qz_331 : Cond.methodLink "QuadMode" 143 qm_Co_raise ∈ qw := qw_in 526 (by decide +kernel) (by decide +kernel)
theorem qz_332 : Cond.fieldLink "QuadMode" 25 "QuadMode" "pages" "LQuadMode$Pages;" ∈ qw := qw_in 233 (by decide +kernel) (by decide +kernel)
theorem qz_333 : Cond.methodLink "QuadMode" 124 qm_Pg_locate ∈ qw := qw_in 824 (by decide +kernel) (by decide +kernel)
theorem qz_334 : Cond.fieldLink "QuadMode" 119 "QuadMode" "instructions" "I" ∈ qw := qw_in 239 (by decide +kernel) (by decide +kernel)
theorem qz_335 : Cond.fieldLink "QuadModeModel" 40 "QuadModeModel" "thrown" "I" ∈ qw := qw_in 831 (by decide +kernel) (by decide +kernel)
theorem qz_336 : Cond.fieldLink "QuadModeModel" 7 "QuadModeModel" "storage" "[I" ∈ qw := qw_in 832 (by decide +kernel) (by decide +kernel)
theorem qz_337 : Cond.constantLong "QuadModeModel" 201 255 ∈ qw := qw_in 906 (by decide +kernel) (by decide +kernel)
theorem qz_338 : Cond.methodLink "QuadModeModel" 56 qm_M_bare ∈ qw := qw_in 911 (by decide +kernel) (by decide +kernel)
theorem qz_339 : Cond.initialized "QuadModeModel" ∈ qw := qw_in 70 (by decide +kernel) (by decide +kernel)
theorem qz_340 : Cond.code qm_M_bare qm_M_bare_c 5 (some .int) ∈ qw := qw_in 914 (by decide +kernel) (by decide +kernel)
theorem qz_341 : Cond.instanceMethod qm_M_bare ∈ qw := qw_in 913 (by decide +kernel) (by decide +kernel)
theorem qz_342 : Cond.selects "QuadModeModel" qm_M_bare qm_M_bare ∈ qw := qw_in 29 (by decide +kernel) (by decide +kernel)
theorem qz_343 : Cond.fieldLink "QuadModeModel" 44 "QuadModeModel" "status" "I" ∈ qw := qw_in 835 (by decide +kernel) (by decide +kernel)
theorem qz_344 : Cond.fieldLink "QuadModeModel" 13 "QuadModeModel" "registers" "[I" ∈ qw := qw_in 833 (by decide +kernel) (by decide +kernel)
theorem qz_345 : Cond.fieldLink "QuadModeModel" 16 "QuadModeModel" "inner" "[I" ∈ qw := qw_in 834 (by decide +kernel) (by decide +kernel)
theorem qz_346 : Cond.methodLink "QuadModeModel" 69 qm_M_mode ∈ qw := qw_in 923 (by decide +kernel) (by decide +kernel)
theorem qz_347 : Cond.code qm_M_mode qm_M_mode_c 1 (some .int) ∈ qw := qw_in 926 (by decide +kernel) (by decide +kernel)
theorem qz_348 : Cond.instanceMethod qm_M_mode ∈ qw := qw_in 925 (by decide +kernel) (by decide +kernel)
theorem qz_349 : Cond.selects "QuadModeModel" qm_M_mode qm_M_mode ∈ qw := qw_in 31 (by decide +kernel) (by decide +kernel)
theorem qz_350 : Cond.methodLink "QuadModeModel" 90 qm_M_put ∈ qw := qw_in 919 (by decide +kernel) (by decide +kernel)
theorem qz_351 : Cond.code qm_M_put qm_M_put_c 3 none ∈ qw := qw_in 922 (by decide +kernel) (by decide +kernel)
theorem qz_352 : Cond.instanceMethod qm_M_put ∈ qw := qw_in 921 (by decide +kernel) (by decide +kernel)
theorem qz_353 : Cond.selects "QuadModeModel" qm_M_put qm_M_put ∈ qw := qw_in 30 (by decide +kernel) (by decide +kernel)
theorem qz_354 : Cond.methodLink "QuadModeModel" 84 qm_M_get ∈ qw := qw_in 935 (by decide +kernel) (by decide +kernel)
theorem qz_355 : Cond.code qm_M_get qm_M_get_c 2 (some .int) ∈ qw := qw_in 938 (by decide +kernel) (by decide +kernel)
theorem qz_356 : Cond.instanceMethod qm_M_get ∈ qw := qw_in 937 (by decide +kernel) (by decide +kernel)
theorem qz_357 : Cond.selects "QuadModeModel" qm_M_get qm_M_get ∈ qw := qw_in 33 (by decide +kernel) (by decide +kernel)
theorem qz_358 : Cond.methodLink "QuadModeModel" 203 qm_M_fail ∈ qw := qw_in 931 (by decide +kernel) (by decide +kernel)
theorem qz_359 : Cond.code qm_M_fail qm_M_fail_c 2 (some .int) ∈ qw := qw_in 934 (by decide +kernel) (by decide +kernel)
theorem qz_360 : Cond.instanceMethod qm_M_fail ∈ qw := qw_in 933 (by decide +kernel) (by decide +kernel)
theorem qz_361 : Cond.selects "QuadModeModel" qm_M_fail qm_M_fail ∈ qw := qw_in 32 (by decide +kernel) (by decide +kernel)
theorem qz_362 : Cond.methodLink "QuadModeModel" 133 qm_M_isInner ∈ qw := qw_in 943 (by decide +kernel) (by decide +kernel)
theorem qz_363 : Cond.code qm_M_isInner qm_M_isInner_c 1 (some .boolean) ∈ qw := qw_in 945 (by decide +kernel) (by decide +kernel)
theorem qz_364 : Cond.static qm_M_isInner ∈ qw := qw_in 944 (by decide +kernel) (by decide +kernel)
theorem qz_365 : Cond.constant "QuadModeModel" 132 (-62914608) ∈ qw := qw_in 954 (by decide +kernel) (by decide +kernel)
theorem qz_366 : Cond.fieldLink "QuadModeModel" 174 "QuadModeModel" "rest" "I" ∈ qw := qw_in 836 (by decide +kernel) (by decide +kernel)
theorem qz_367 : Cond.fieldLink "QuadModeModel" 19 "QuadModeModel" "oldRegisters" "[I" ∈ qw := qw_in 840 (by decide +kernel) (by decide +kernel)
theorem qz_368 : Cond.fieldLink "QuadModeModel" 97 "QuadModeModel" "oldStatus" "I" ∈ qw := qw_in 842 (by decide +kernel) (by decide +kernel)
theorem qz_369 : Cond.fieldLink "QuadModeModel" 22 "QuadModeModel" "oldInner" "[I" ∈ qw := qw_in 841 (by decide +kernel) (by decide +kernel)
theorem qz_370 : Cond.constant "QuadModeModel" 47 (-2147483648) ∈ qw := qw_in 987 (by decide +kernel) (by decide +kernel)
theorem qz_371 : Cond.fieldLink "QuadModeModel" 48 "QuadModeModel" "entryAt" "I" ∈ qw := qw_in 850 (by decide +kernel) (by decide +kernel)
theorem qz_372 : Cond.constant "QuadModeModel" 51 16777215 ∈ qw := qw_in 983 (by decide +kernel) (by decide +kernel)
theorem qz_373 : Cond.methodLink "QuadModeModel" 52 qm_M_below ∈ qw := qw_in 984 (by decide +kernel) (by decide +kernel)
theorem qz_374 : Cond.code qm_M_below qm_M_below_c 2 (some .boolean) ∈ qw := qw_in 986 (by decide +kernel) (by decide +kernel)
theorem qz_375 : Cond.static qm_M_below ∈ qw := qw_in 985 (by decide +kernel) (by decide +kernel)
theorem qz_376 : Cond.fieldLink "QuadModeModel" 60 "QuadModeModel" "fault" "I" ∈ qw := qw_in 843 (by decide +kernel) (by decide +kernel)
theorem qz_377 : Cond.fieldLink "QuadModeModel" 63 "QuadModeModel" "wrongAt" "I" ∈ qw := qw_in 844 (by decide +kernel) (by decide +kernel)
theorem qz_378 : Cond.fieldLink "QuadModeModel" 66 "QuadModeModel" "flag" "I" ∈ qw := qw_in 845 (by decide +kernel) (by decide +kernel)
theorem qz_379 : Cond.methodLink "QuadModeModel" 73 qm_M_find ∈ qw := qw_in 979 (by decide +kernel) (by decide +kernel)
theorem qz_380 : Cond.code qm_M_find qm_M_find_c 11 (some .int) ∈ qw := qw_in 982 (by decide +kernel) (by decide +kernel)
theorem qz_381 : Cond.instanceMethod qm_M_find ∈ qw := qw_in 981 (by decide +kernel) (by decide +kernel)
theorem qz_382 : Cond.selects "QuadModeModel" qm_M_find qm_M_find ∈ qw := qw_in 38 (by decide +kernel) (by decide +kernel)
theorem qz_383 : Cond.methodLink "QuadModeModel" 77 qm_M_wrong ∈ qw := qw_in 988 (by decide +kernel) (by decide +kernel)
theorem qz_384 : Cond.code qm_M_wrong qm_M_wrong_c 4 none ∈ qw := qw_in 991 (by decide +kernel) (by decide +kernel)
theorem qz_385 : Cond.instanceMethod qm_M_wrong ∈ qw := qw_in 990 (by decide +kernel) (by decide +kernel)
theorem qz_386 : Cond.selects "QuadModeModel" qm_M_wrong qm_M_wrong ∈ qw := qw_in 39 (by decide +kernel) (by decide +kernel)
theorem qz_387 : Cond.methodLink "QuadModeModel" 81 qm_M_readByte ∈ qw := qw_in 975 (by decide +kernel) (by decide +kernel)
theorem qz_388 : Cond.code qm_M_readByte qm_M_readByte_c 3 (some .int) ∈ qw := qw_in 978 (by decide +kernel) (by decide +kernel)
theorem qz_389 : Cond.instanceMethod qm_M_readByte ∈ qw := qw_in 977 (by decide +kernel) (by decide +kernel)
theorem qz_390 : Cond.selects "QuadModeModel" qm_M_readByte qm_M_readByte ∈ qw := qw_in 37 (by decide +kernel) (by decide +kernel)
theorem qz_391 : Cond.methodLink "QuadModeModel" 100 qm_M_next ∈ qw := qw_in 971 (by decide +kernel) (by decide +kernel)
theorem qz_392 : Cond.code qm_M_next qm_M_next_c 2 (some .int) ∈ qw := qw_in 974 (by decide +kernel) (by decide +kernel)
theorem qz_393 : Cond.instanceMethod qm_M_next ∈ qw := qw_in 973 (by decide +kernel) (by decide +kernel)
theorem qz_394 : Cond.selects "QuadModeModel" qm_M_next qm_M_next ∈ qw := qw_in 36 (by decide +kernel) (by decide +kernel)
theorem qz_395 : Cond.fieldLink "QuadModeModel" 28 "QuadModeModel" "where" "[I" ∈ qw := qw_in 848 (by decide +kernel) (by decide +kernel)
theorem qz_396 : Cond.fieldLink "QuadModeModel" 25 "QuadModeModel" "value" "[I" ∈ qw := qw_in 847 (by decide +kernel) (by decide +kernel)
theorem qz_397 : Cond.methodLink "QuadModeModel" 103 qm_M_signed ∈ qw := qw_in 995 (by decide +kernel) (by decide +kernel)
theorem qz_398 : Cond.code qm_M_signed qm_M_signed_c 1 (some .int) ∈ qw := qw_in 997 (by decide +kernel) (by decide +kernel)
theorem qz_399 : Cond.static qm_M_signed ∈ qw := qw_in 996 (by decide +kernel) (by decide +kernel)
theorem qz_400 : Cond.methodLink "QuadModeModel" 94 qm_M_readLong ∈ qw := qw_in 1002 (by decide +kernel) (by decide +kernel)
theorem qz_401 : Cond.code qm_M_readLong qm_M_readLong_c 4 (some .int) ∈ qw := qw_in 1005 (by decide +kernel) (by decide +kernel)
theorem qz_402 : Cond.instanceMethod qm_M_readLong ∈ qw := qw_in 1004 (by decide +kernel) (by decide +kernel)
theorem qz_403 : Cond.selects "QuadModeModel" qm_M_readLong qm_M_readLong ∈ qw := qw_in 41 (by decide +kernel) (by decide +kernel)
theorem qz_404 : Cond.fieldLink "QuadModeModel" 31 "QuadModeModel" "at" "[I" ∈ qw := qw_in 849 (by decide +kernel) (by decide +kernel)
theorem qz_405 : Cond.methodLink "QuadModeModel" 128 qm_M_pop ∈ qw := qw_in 1014 (by decide +kernel) (by decide +kernel)
theorem qz_406 : Cond.code qm_M_pop qm_M_pop_c 2 (some .int) ∈ qw := qw_in 1017 (by decide +kernel) (by decide +kernel)
theorem qz_407 : Cond.instanceMethod qm_M_pop ∈ qw := qw_in 1016 (by decide +kernel) (by decide +kernel)
theorem qz_408 : Cond.selects "QuadModeModel" qm_M_pop qm_M_pop ∈ qw := qw_in 44 (by decide +kernel) (by decide +kernel)
theorem qz_409 : Cond.constant "QuadModeModel" 131 65488 ∈ qw := qw_in 1022 (by decide +kernel) (by decide +kernel)
theorem qz_410 : Cond.fieldLink "QuadModeModel" 34 "QuadModeModel" "places" "[I" ∈ qw := qw_in 851 (by decide +kernel) (by decide +kernel)
theorem qz_411 : Cond.fieldLink "QuadModeModel" 37 "QuadModeModel" "entries" "[I" ∈ qw := qw_in 852 (by decide +kernel) (by decide +kernel)
theorem qz_412 : Cond.methodLink "QuadModeModel" 87 qm_M_write ∈ qw := qw_in 1035 (by decide +kernel) (by decide +kernel)
theorem qz_413 : Cond.code qm_M_write qm_M_write_c 5 none ∈ qw := qw_in 1038 (by decide +kernel) (by decide +kernel)
theorem qz_414 : Cond.instanceMethod qm_M_write ∈ qw := qw_in 1037 (by decide +kernel) (by decide +kernel)
theorem qz_415 : Cond.selects "QuadModeModel" qm_M_write qm_M_write ∈ qw := qw_in 49 (by decide +kernel) (by decide +kernel)
theorem qz_416 : Cond.methodLink "QuadModeModel" 113 qm_M_mark ∈ qw := qw_in 1027 (by decide +kernel) (by decide +kernel)
theorem qz_417 : Cond.code qm_M_mark qm_M_mark_c 4 none ∈ qw := qw_in 1030 (by decide +kernel) (by decide +kernel)
theorem qz_418 : Cond.instanceMethod qm_M_mark ∈ qw := qw_in 1029 (by decide +kernel) (by decide +kernel)
theorem qz_419 : Cond.selects "QuadModeModel" qm_M_mark qm_M_mark ∈ qw := qw_in 47 (by decide +kernel) (by decide +kernel)
theorem qz_420 : Cond.methodLink "QuadModeModel" 117 qm_M_give ∈ qw := qw_in 1031 (by decide +kernel) (by decide +kernel)
theorem qz_421 : Cond.code qm_M_give qm_M_give_c 4 none ∈ qw := qw_in 1034 (by decide +kernel) (by decide +kernel)
theorem qz_422 : Cond.instanceMethod qm_M_give ∈ qw := qw_in 1033 (by decide +kernel) (by decide +kernel)
theorem qz_423 : Cond.selects "QuadModeModel" qm_M_give qm_M_give ∈ qw := qw_in 48 (by decide +kernel) (by decide +kernel)
theorem qz_424 : Cond.methodLink "QuadModeModel" 106 qm_M_has ∈ qw := qw_in 1043 (by decide +kernel) (by decide +kernel)
theorem qz_425 : Cond.code qm_M_has qm_M_has_c 2 (some .boolean) ∈ qw := qw_in 1046 (by decide +kernel) (by decide +kernel)
theorem qz_426 : Cond.instanceMethod qm_M_has ∈ qw := qw_in 1045 (by decide +kernel) (by decide +kernel)
theorem qz_427 : Cond.selects "QuadModeModel" qm_M_has qm_M_has ∈ qw := qw_in 51 (by decide +kernel) (by decide +kernel)
theorem qz_428 : Cond.methodLink "QuadModeModel" 121 qm_M_push ∈ qw := qw_in 1047 (by decide +kernel) (by decide +kernel)
theorem qz_429 : Cond.code qm_M_push qm_M_push_c 2 none ∈ qw := qw_in 1050 (by decide +kernel) (by decide +kernel)
theorem qz_430 : Cond.instanceMethod qm_M_push ∈ qw := qw_in 1049 (by decide +kernel) (by decide +kernel)
theorem qz_431 : Cond.selects "QuadModeModel" qm_M_push qm_M_push ∈ qw := qw_in 52 (by decide +kernel) (by decide +kernel)
theorem qz_432 : Cond.fieldLink "QuadModeModel" 110 "QuadModeModel" "trap" "I" ∈ qw := qw_in 846 (by decide +kernel) (by decide +kernel)
theorem qz_433 : Cond.constant "QuadModeModel" 120 2147483647 ∈ qw := qw_in 1071 (by decide +kernel) (by decide +kernel)
theorem qz_434 : Cond.constant "QuadModeModel" 125 45056 ∈ qw := qw_in 1076 (by decide +kernel) (by decide +kernel)
theorem qz_435 : Cond.constant "QuadModeModel" 126 536870912 ∈ qw := qw_in 1077 (by decide +kernel) (by decide +kernel)
theorem qz_436 : Cond.constant "QuadModeModel" 127 65535 ∈ qw := qw_in 1078 (by decide +kernel) (by decide +kernel)
theorem qz_437 : Cond.methodLink "QuadModeModel" 139 qm_M_comeBack ∈ qw := qw_in 1018 (by decide +kernel) (by decide +kernel)
theorem qz_438 : Cond.code qm_M_comeBack qm_M_comeBack_c 3 none ∈ qw := qw_in 1021 (by decide +kernel) (by decide +kernel)
theorem qz_439 : Cond.instanceMethod qm_M_comeBack ∈ qw := qw_in 1020 (by decide +kernel) (by decide +kernel)
theorem qz_440 : Cond.selects "QuadModeModel" qm_M_comeBack qm_M_comeBack ∈ qw := qw_in 45 (by decide +kernel) (by decide +kernel)
theorem qz_441 : Cond.methodLink "QuadModeModel" 136 qm_M_endException ∈ qw := qw_in 1010 (by decide +kernel) (by decide +kernel)
theorem qz_442 : Cond.code qm_M_endException qm_M_endException_c 4 none ∈ qw := qw_in 1013 (by decide +kernel) (by decide +kernel)
theorem qz_443 : Cond.instanceMethod qm_M_endException ∈ qw := qw_in 1012 (by decide +kernel) (by decide +kernel)
theorem qz_444 : Cond.selects "QuadModeModel" qm_M_endException qm_M_endException ∈ qw := qw_in 43 (by decide +kernel) (by decide +kernel)
theorem qz_445 : Cond.methodLink "QuadModeModel" 145 qm_M_move ∈ qw := qw_in 1039 (by decide +kernel) (by decide +kernel)
theorem qz_446 : Cond.code qm_M_move qm_M_move_c 9 none ∈ qw := qw_in 1042 (by decide +kernel) (by decide +kernel)
theorem qz_447 : Cond.instanceMethod qm_M_move ∈ qw := qw_in 1041 (by decide +kernel) (by decide +kernel)
theorem qz_448 : Cond.selects "QuadModeModel" qm_M_move qm_M_move ∈ qw := qw_in 50 (by decide +kernel) (by decide +kernel)
theorem qz_449 : Cond.methodLink "QuadModeModel" 148 qm_M_reckon ∈ qw := qw_in 1051 (by decide +kernel) (by decide +kernel)
theorem qz_450 : Cond.code qm_M_reckon qm_M_reckon_c 11 none ∈ qw := qw_in 1054 (by decide +kernel) (by decide +kernel)
theorem qz_451 : Cond.instanceMethod qm_M_reckon ∈ qw := qw_in 1053 (by decide +kernel) (by decide +kernel)
theorem qz_452 : Cond.selects "QuadModeModel" qm_M_reckon qm_M_reckon ∈ qw := qw_in 53 (by decide +kernel) (by decide +kernel)
theorem qz_453 : Cond.methodLink "QuadModeModel" 155 qm_M_go ∈ qw := qw_in 1059 (by decide +kernel) (by decide +kernel)
theorem qz_454 : Cond.code qm_M_go qm_M_go_c 4 none ∈ qw := qw_in 1062 (by decide +kernel) (by decide +kernel)
theorem qz_455 : Cond.instanceMethod qm_M_go ∈ qw := qw_in 1061 (by decide +kernel) (by decide +kernel)
theorem qz_456 : Cond.selects "QuadModeModel" qm_M_go qm_M_go ∈ qw := qw_in 55 (by decide +kernel) (by decide +kernel)
theorem qz_457 : Cond.methodLink "QuadModeModel" 152 qm_M_shift ∈ qw := qw_in 1055 (by decide +kernel) (by decide +kernel)
theorem qz_458 : Cond.code qm_M_shift qm_M_shift_c 5 none ∈ qw := qw_in 1058 (by decide +kernel) (by decide +kernel)
theorem qz_459 : Cond.instanceMethod qm_M_shift ∈ qw := qw_in 1057 (by decide +kernel) (by decide +kernel)
theorem qz_460 : Cond.selects "QuadModeModel" qm_M_shift qm_M_shift ∈ qw := qw_in 54 (by decide +kernel) (by decide +kernel)
theorem qz_461 : Cond.methodLink "QuadModeModel" 158 qm_M_isMet ∈ qw := qw_in 1063 (by decide +kernel) (by decide +kernel)
theorem qz_462 : Cond.code qm_M_isMet qm_M_isMet_c 6 (some .boolean) ∈ qw := qw_in 1066 (by decide +kernel) (by decide +kernel)
theorem qz_463 : Cond.instanceMethod qm_M_isMet ∈ qw := qw_in 1065 (by decide +kernel) (by decide +kernel)
theorem qz_464 : Cond.selects "QuadModeModel" qm_M_isMet qm_M_isMet ∈ qw := qw_in 56 (by decide +kernel) (by decide +kernel)
theorem qz_465 : Cond.methodLink "QuadModeModel" 161 qm_M_count ∈ qw := qw_in 1067 (by decide +kernel) (by decide +kernel)
theorem qz_466 : Cond.code qm_M_count qm_M_count_c 5 none ∈ qw := qw_in 1070 (by decide +kernel) (by decide +kernel)
theorem qz_467 : Cond.instanceMethod qm_M_count ∈ qw := qw_in 1069 (by decide +kernel) (by decide +kernel)
theorem qz_468 : Cond.selects "QuadModeModel" qm_M_count qm_M_count ∈ qw := qw_in 57 (by decide +kernel) (by decide +kernel)
theorem qz_469 : Cond.methodLink "QuadModeModel" 164 qm_M_callFrame ∈ qw := qw_in 1072 (by decide +kernel) (by decide +kernel)
theorem qz_470 : Cond.code qm_M_callFrame qm_M_callFrame_c 5 none ∈ qw := qw_in 1075 (by decide +kernel) (by decide +kernel)
theorem qz_471 : Cond.instanceMethod qm_M_callFrame ∈ qw := qw_in 1074 (by decide +kernel) (by decide +kernel)
theorem qz_472 : Cond.selects "QuadModeModel" qm_M_callFrame qm_M_callFrame ∈ qw := qw_in 58 (by decide +kernel) (by decide +kernel)
theorem qz_473 : Cond.methodLink "QuadModeModel" 167 qm_M_probe ∈ qw := qw_in 1079 (by decide +kernel) (by decide +kernel)
theorem qz_474 : Cond.code qm_M_probe qm_M_probe_c 9 none ∈ qw := qw_in 1082 (by decide +kernel) (by decide +kernel)
theorem qz_475 : Cond.instanceMethod qm_M_probe ∈ qw := qw_in 1081 (by decide +kernel) (by decide +kernel)
theorem qz_476 : Cond.selects "QuadModeModel" qm_M_probe qm_M_probe ∈ qw := qw_in 59 (by decide +kernel) (by decide +kernel)
theorem qz_477 : Cond.methodLink "QuadModeModel" 142 qm_M_innerOnes ∈ qw := qw_in 1023 (by decide +kernel) (by decide +kernel)
theorem qz_478 : Cond.code qm_M_innerOnes qm_M_innerOnes_c 5 none ∈ qw := qw_in 1026 (by decide +kernel) (by decide +kernel)
theorem qz_479 : Cond.instanceMethod qm_M_innerOnes ∈ qw := qw_in 1025 (by decide +kernel) (by decide +kernel)
theorem qz_480 : Cond.selects "QuadModeModel" qm_M_innerOnes qm_M_innerOnes ∈ qw := qw_in 46 (by decide +kernel) (by decide +kernel)
theorem qz_481 : Cond.fieldLink "QuadModeModel" 177 "QuadModeModel" "latest" "I" ∈ qw := qw_in 838 (by decide +kernel) (by decide +kernel)
theorem qz_482 : Cond.fieldLink "QuadModeModel" 180 "QuadModeModel" "exceptions" "I" ∈ qw := qw_in 839 (by decide +kernel) (by decide +kernel)
theorem qz_483 : Cond.methodLink "QuadModeModel" 171 qm_M_bringBack ∈ qw := qw_in 1083 (by decide +kernel) (by decide +kernel)
theorem qz_484 : Cond.code qm_M_bringBack qm_M_bringBack_c 2 none ∈ qw := qw_in 1086 (by decide +kernel) (by decide +kernel)
theorem qz_485 : Cond.instanceMethod qm_M_bringBack ∈ qw := qw_in 1085 (by decide +kernel) (by decide +kernel)
theorem qz_486 : Cond.selects "QuadModeModel" qm_M_bringBack qm_M_bringBack ∈ qw := qw_in 60 (by decide +kernel) (by decide +kernel)
theorem qz_487 : Cond.methodLink "QuadModeModel" 183 qm_M_keep ∈ qw := qw_in 967 (by decide +kernel) (by decide +kernel)
theorem qz_488 : Cond.code qm_M_keep qm_M_keep_c 2 none ∈ qw := qw_in 970 (by decide +kernel) (by decide +kernel)
theorem qz_489 : Cond.instanceMethod qm_M_keep ∈ qw := qw_in 969 (by decide +kernel) (by decide +kernel)
theorem qz_490 : Cond.selects "QuadModeModel" qm_M_keep qm_M_keep ∈ qw := qw_in 35 (by decide +kernel) (by decide +kernel)
theorem qz_491 : Cond.methodLink "QuadModeModel" 186 qm_M_shape ∈ qw := qw_in 992 (by decide +kernel) (by decide +kernel)
theorem qz_492 : Cond.code qm_M_shape qm_M_shape_c 1 (some .int) ∈ qw := qw_in 994 (by decide +kernel) (by decide +kernel)
theorem qz_493 : Cond.static qm_M_shape ∈ qw := qw_in 993 (by decide +kernel) (by decide +kernel)
theorem qz_494 : Cond.methodLink "QuadModeModel" 189 qm_M_operand ∈ qw := qw_in 998 (by decide +kernel) (by decide +kernel)
theorem qz_495 : Cond.code qm_M_operand qm_M_operand_c 11 none ∈ qw := qw_in 1001 (by decide +kernel) (by decide +kernel)
theorem qz_496 : Cond.instanceMethod qm_M_operand ∈ qw := qw_in 1000 (by decide +kernel) (by decide +kernel)
theorem qz_497 : Cond.selects "QuadModeModel" qm_M_operand qm_M_operand ∈ qw := qw_in 40 (by decide +kernel) (by decide +kernel)
theorem qz_498 : Cond.methodLink "QuadModeModel" 192 qm_M_work ∈ qw := qw_in 1006 (by decide +kernel) (by decide +kernel)
theorem qz_499 : Cond.code qm_M_work qm_M_work_c 3 none ∈ qw := qw_in 1009 (by decide +kernel) (by decide +kernel)
theorem qz_500 : Cond.instanceMethod qm_M_work ∈ qw := qw_in 1008 (by decide +kernel) (by decide +kernel)
theorem qz_501 : Cond.selects "QuadModeModel" qm_M_work qm_M_work ∈ qw := qw_in 42 (by decide +kernel) (by decide +kernel)
theorem qz_502 : Cond.fieldLink "QuadModeModel" 195 "QuadModeModel" "done" "I" ∈ qw := qw_in 837 (by decide +kernel) (by decide +kernel)
theorem qz_503 : Cond.methodLink "QuadModeModel" 198 qm_M_raise ∈ qw := qw_in 1087 (by decide +kernel) (by decide +kernel)
theorem qz_504 : Cond.code qm_M_raise qm_M_raise_c 8 none ∈ qw := qw_in 1090 (by decide +kernel) (by decide +kernel)
theorem qz_505 : Cond.instanceMethod qm_M_raise ∈ qw := qw_in 1089 (by decide +kernel) (by decide +kernel)
theorem qz_506 : Cond.selects "QuadModeModel" qm_M_raise qm_M_raise ∈ qw := qw_in 61 (by decide +kernel) (by decide +kernel)
theorem qz_507 : Cond.methodLink "QuadModeModel" 206 qm_M_instruction ∈ qw := qw_in 963 (by decide +kernel) (by decide +kernel)
theorem qz_508 : Cond.code qm_M_instruction qm_M_instruction_c 5 none ∈ qw := qw_in 966 (by decide +kernel) (by decide +kernel)
theorem qz_509 : Cond.instanceMethod qm_M_instruction ∈ qw := qw_in 965 (by decide +kernel) (by decide +kernel)
theorem qz_510 : Cond.selects "QuadModeModel" qm_M_instruction qm_M_instruction ∈ qw := qw_in 34 (by decide +kernel) (by decide +kernel)
theorem qx_X_63 : Cond.methodLink "QuadMode" 63 qm_St_putByte ∈ qw ∧ Cond.instanceMethod qm_St_putByte ∈ qw ∧ Cond.selects qm_St_putByte.cls qm_St_putByte qm_St_putByte ∈ qw ∧ Cond.initialized qm_St_putByte.cls ∈ qw ∧ Cond.code qm_St_putByte qm_St_putByte_c 3 none ∈ qw := ⟨qz_2, qz_5, qz_6, qz_3, qz_4⟩
theorem qx_X_67 : Cond.methodLink "QuadMode" 67 qm_St_longAt ∈ qw ∧ Cond.instanceMethod qm_St_longAt ∈ qw ∧ Cond.selects qm_St_longAt.cls qm_St_longAt qm_St_longAt ∈ qw ∧ Cond.initialized qm_St_longAt.cls ∈ qw ∧ Cond.code qm_St_longAt qm_St_longAt_c 2 (some .int) ∈ qw := ⟨qz_7, qz_9, qz_10, qz_3, qz_8⟩
theorem qx_Co_42 : Cond.methodLink "QuadMode$Core" 42 qm_Co_mode ∈ qw ∧ Cond.instanceMethod qm_Co_mode ∈ qw ∧ Cond.selects qm_Co_mode.cls qm_Co_mode qm_Co_mode ∈ qw ∧ Cond.initialized qm_Co_mode.cls ∈ qw ∧ Cond.code qm_Co_mode qm_Co_mode_c 1 (some .int) ∈ qw := ⟨qz_14, qz_17, qz_18, qz_15, qz_16⟩
theorem qx_X_78 : Cond.methodLink "QuadMode" 78 qm_Co_put ∈ qw ∧ Cond.instanceMethod qm_Co_put ∈ qw ∧ Cond.selects qm_Co_put.cls qm_Co_put qm_Co_put ∈ qw ∧ Cond.initialized qm_Co_put.cls ∈ qw ∧ Cond.code qm_Co_put qm_Co_put_c 3 none ∈ qw := ⟨qz_20, qz_22, qz_23, qz_15, qz_21⟩
theorem qx_X_81 : Cond.methodLink "QuadMode" 81 qm_Co_get ∈ qw ∧ Cond.instanceMethod qm_Co_get ∈ qw ∧ Cond.selects qm_Co_get.cls qm_Co_get qm_Co_get ∈ qw ∧ Cond.initialized qm_Co_get.cls ∈ qw ∧ Cond.code qm_Co_get qm_Co_get_c 2 (some .int) ∈ qw := ⟨qz_24, qz_26, qz_27, qz_15, qz_25⟩
theorem qx_Co_46 : Cond.methodLink "QuadMode$Core" 46 qm_Co_hasInner ∈ qw ∧ Cond.instanceMethod qm_Co_hasInner ∈ qw ∧ Cond.selects qm_Co_hasInner.cls qm_Co_hasInner qm_Co_hasInner ∈ qw ∧ Cond.initialized qm_Co_hasInner.cls ∈ qw ∧ Cond.code qm_Co_hasInner qm_Co_hasInner_c 2 (some .boolean) ∈ qw := ⟨qz_28, qz_30, qz_31, qz_15, qz_29⟩
theorem qx_X_84 : Cond.methodLink "QuadMode" 84 qm_Co_hasInner ∈ qw ∧ Cond.instanceMethod qm_Co_hasInner ∈ qw ∧ Cond.selects qm_Co_hasInner.cls qm_Co_hasInner qm_Co_hasInner ∈ qw ∧ Cond.initialized qm_Co_hasInner.cls ∈ qw ∧ Cond.code qm_Co_hasInner qm_Co_hasInner_c 2 (some .boolean) ∈ qw := ⟨qz_32, qz_30, qz_31, qz_15, qz_29⟩
theorem qx_X_90 : Cond.methodLink "QuadMode" 90 qm_Co_putInner ∈ qw ∧ Cond.instanceMethod qm_Co_putInner ∈ qw ∧ Cond.selects qm_Co_putInner.cls qm_Co_putInner qm_Co_putInner ∈ qw ∧ Cond.initialized qm_Co_putInner.cls ∈ qw ∧ Cond.code qm_Co_putInner qm_Co_putInner_c 3 none ∈ qw := ⟨qz_33, qz_35, qz_36, qz_15, qz_34⟩
theorem qx_X_93 : Cond.methodLink "QuadMode" 93 qm_Co_getInner ∈ qw ∧ Cond.instanceMethod qm_Co_getInner ∈ qw ∧ Cond.selects qm_Co_getInner.cls qm_Co_getInner qm_Co_getInner ∈ qw ∧ Cond.initialized qm_Co_getInner.cls ∈ qw ∧ Cond.code qm_Co_getInner qm_Co_getInner_c 2 (some .int) ∈ qw := ⟨qz_37, qz_39, qz_40, qz_15, qz_38⟩
theorem qx_Pg_25 : Cond.methodLink "QuadMode$Pages" 25 qm_Pg_pageOf ∈ qw ∧ Cond.static qm_Pg_pageOf ∈ qw ∧ Cond.initialized qm_Pg_pageOf.cls ∈ qw ∧ Cond.code qm_Pg_pageOf qm_Pg_pageOf_c 1 (some .int) ∈ qw := ⟨qz_55, qz_58, qz_56, qz_57⟩
theorem qx_Pg_29 : Cond.methodLink "QuadMode$Pages" 29 qm_Pg_isThere ∈ qw ∧ Cond.instanceMethod qm_Pg_isThere ∈ qw ∧ Cond.selects qm_Pg_isThere.cls qm_Pg_isThere qm_Pg_isThere ∈ qw ∧ Cond.initialized qm_Pg_isThere.cls ∈ qw ∧ Cond.code qm_Pg_isThere qm_Pg_isThere_c 5 (some .boolean) ∈ qw := ⟨qz_59, qz_61, qz_62, qz_56, qz_60⟩
theorem qx_Pg_33 : Cond.methodLink "QuadMode$Pages" 33 qm_Pg_refusal ∈ qw ∧ Cond.static qm_Pg_refusal ∈ qw ∧ Cond.initialized qm_Pg_refusal.cls ∈ qw ∧ Cond.code qm_Pg_refusal qm_Pg_refusal_c 2 (some .int) ∈ qw := ⟨qz_63, qz_65, qz_56, qz_64⟩
theorem qx_Pg_37 : Cond.methodLink "QuadMode$Pages" 37 qm_St_longAt ∈ qw ∧ Cond.instanceMethod qm_St_longAt ∈ qw ∧ Cond.selects qm_St_longAt.cls qm_St_longAt qm_St_longAt ∈ qw ∧ Cond.initialized qm_St_longAt.cls ∈ qw ∧ Cond.code qm_St_longAt qm_St_longAt_c 2 (some .int) ∈ qw := ⟨qz_67, qz_9, qz_10, qz_3, qz_8⟩
theorem qx_Pg_40 : Cond.methodLink "QuadMode$Pages" 40 qm_Pg_isValid ∈ qw ∧ Cond.static qm_Pg_isValid ∈ qw ∧ Cond.initialized qm_Pg_isValid.cls ∈ qw ∧ Cond.code qm_Pg_isValid qm_Pg_isValid_c 1 (some .boolean) ∈ qw := ⟨qz_68, qz_70, qz_56, qz_69⟩
theorem qx_Pg_44 : Cond.methodLink "QuadMode$Pages" 44 qm_Pg_inFrame ∈ qw ∧ Cond.static qm_Pg_inFrame ∈ qw ∧ Cond.initialized qm_Pg_inFrame.cls ∈ qw ∧ Cond.code qm_Pg_inFrame qm_Pg_inFrame_c 2 (some .int) ∈ qw := ⟨qz_71, qz_73, qz_56, qz_72⟩
theorem qx_Pg_47 : Cond.methodLink "QuadMode$Pages" 47 qm_Pg_grants ∈ qw ∧ Cond.static qm_Pg_grants ∈ qw ∧ Cond.initialized qm_Pg_grants.cls ∈ qw ∧ Cond.code qm_Pg_grants qm_Pg_grants_c 5 (some .boolean) ∈ qw := ⟨qz_74, qz_76, qz_56, qz_75⟩
theorem qx_Co_69 : Cond.methodLink "QuadMode$Core" 69 qm_Pg_faultOf ∈ qw ∧ Cond.static qm_Pg_faultOf ∈ qw ∧ Cond.initialized qm_Pg_faultOf.cls ∈ qw ∧ Cond.code qm_Pg_faultOf qm_Pg_faultOf_c 1 (some .int) ∈ qw := ⟨qz_77, qz_79, qz_56, qz_78⟩
theorem qx_Co_75 : Cond.methodLink "QuadMode$Core" 75 qm_Pg_flagOf ∈ qw ∧ Cond.static qm_Pg_flagOf ∈ qw ∧ Cond.initialized qm_Pg_flagOf.cls ∈ qw ∧ Cond.code qm_Pg_flagOf qm_Pg_flagOf_c 1 (some .int) ∈ qw := ⟨qz_80, qz_82, qz_56, qz_81⟩
theorem qx_Co_84 : Cond.methodLink "QuadMode$Core" 84 qm_Pg_locate ∈ qw ∧ Cond.instanceMethod qm_Pg_locate ∈ qw ∧ Cond.selects qm_Pg_locate.cls qm_Pg_locate qm_Pg_locate ∈ qw ∧ Cond.initialized qm_Pg_locate.cls ∈ qw ∧ Cond.code qm_Pg_locate qm_Pg_locate_c 10 (some .int) ∈ qw := ⟨qz_86, qz_88, qz_89, qz_56, qz_87⟩
theorem qx_Co_92 : Cond.methodLink "QuadMode$Core" 92 qm_St_byteAt ∈ qw ∧ Cond.instanceMethod qm_St_byteAt ∈ qw ∧ Cond.selects qm_St_byteAt.cls qm_St_byteAt qm_St_byteAt ∈ qw ∧ Cond.initialized qm_St_byteAt.cls ∈ qw ∧ Cond.code qm_St_byteAt qm_St_byteAt_c 2 (some .int) ∈ qw := ⟨qz_91, qz_93, qz_94, qz_3, qz_92⟩
theorem qx_Co_88 : Cond.methodLink "QuadMode$Core" 88 qm_Co_refuse ∈ qw ∧ Cond.instanceMethod qm_Co_refuse ∈ qw ∧ Cond.selects qm_Co_refuse.cls qm_Co_refuse qm_Co_refuse ∈ qw ∧ Cond.initialized qm_Co_refuse.cls ∈ qw ∧ Cond.code qm_Co_refuse qm_Co_refuse_c 3 none ∈ qw := ⟨qz_95, qz_97, qz_98, qz_15, qz_96⟩
theorem qx_Co_107 : Cond.methodLink "QuadMode$Core" 107 qm_Co_get ∈ qw ∧ Cond.instanceMethod qm_Co_get ∈ qw ∧ Cond.selects qm_Co_get.cls qm_Co_get qm_Co_get ∈ qw ∧ Cond.initialized qm_Co_get.cls ∈ qw ∧ Cond.code qm_Co_get qm_Co_get_c 2 (some .int) ∈ qw := ⟨qz_99, qz_26, qz_27, qz_15, qz_25⟩
theorem qx_Co_110 : Cond.methodLink "QuadMode$Core" 110 qm_Co_read ∈ qw ∧ Cond.instanceMethod qm_Co_read ∈ qw ∧ Cond.selects qm_Co_read.cls qm_Co_read qm_Co_read ∈ qw ∧ Cond.initialized qm_Co_read.cls ∈ qw ∧ Cond.code qm_Co_read qm_Co_read_c 6 (some .int) ∈ qw := ⟨qz_100, qz_102, qz_103, qz_15, qz_101⟩
theorem qx_Co_114 : Cond.methodLink "QuadMode$Core" 114 qm_Co_put ∈ qw ∧ Cond.instanceMethod qm_Co_put ∈ qw ∧ Cond.selects qm_Co_put.cls qm_Co_put qm_Co_put ∈ qw ∧ Cond.initialized qm_Co_put.cls ∈ qw ∧ Cond.code qm_Co_put qm_Co_put_c 3 none ∈ qw := ⟨qz_104, qz_22, qz_23, qz_15, qz_21⟩
theorem qx_Cd_25 : Cond.methodLink "QuadMode$Codes" 25 qm_Co_mode ∈ qw ∧ Cond.instanceMethod qm_Co_mode ∈ qw ∧ Cond.selects qm_Co_mode.cls qm_Co_mode qm_Co_mode ∈ qw ∧ Cond.initialized qm_Co_mode.cls ∈ qw ∧ Cond.code qm_Co_mode qm_Co_mode_c 1 (some .int) ∈ qw := ⟨qz_106, qz_17, qz_18, qz_15, qz_16⟩
theorem qx_Sp_63 : Cond.methodLink "QuadMode$Specifiers" 63 qm_Sp_isNoWay ∈ qw ∧ Cond.static qm_Sp_isNoWay ∈ qw ∧ Cond.initialized qm_Sp_isNoWay.cls ∈ qw ∧ Cond.code qm_Sp_isNoWay qm_Sp_isNoWay_c 1 (some .boolean) ∈ qw := ⟨qz_107, qz_110, qz_108, qz_109⟩
theorem qx_Sp_67 : Cond.methodLink "QuadMode$Specifiers" 67 qm_Sp_isAddress ∈ qw ∧ Cond.static qm_Sp_isAddress ∈ qw ∧ Cond.initialized qm_Sp_isAddress.cls ∈ qw ∧ Cond.code qm_Sp_isAddress qm_Sp_isAddress_c 1 (some .boolean) ∈ qw := ⟨qz_111, qz_113, qz_108, qz_112⟩
theorem qx_Sp_41 : Cond.methodLink "QuadMode$Specifiers" 41 qm_Co_get ∈ qw ∧ Cond.instanceMethod qm_Co_get ∈ qw ∧ Cond.selects qm_Co_get.cls qm_Co_get qm_Co_get ∈ qw ∧ Cond.initialized qm_Co_get.cls ∈ qw ∧ Cond.code qm_Co_get qm_Co_get_c 2 (some .int) ∈ qw := ⟨qz_115, qz_26, qz_27, qz_15, qz_25⟩
theorem qx_Sp_24 : Cond.methodLink "QuadMode$Specifiers" 24 qm_Co_fetch ∈ qw ∧ Cond.instanceMethod qm_Co_fetch ∈ qw ∧ Cond.selects qm_Co_fetch.cls qm_Co_fetch qm_Co_fetch ∈ qw ∧ Cond.initialized qm_Co_fetch.cls ∈ qw ∧ Cond.code qm_Co_fetch qm_Co_fetch_c 3 (some .int) ∈ qw := ⟨qz_116, qz_118, qz_119, qz_15, qz_117⟩
theorem qx_Sp_59 : Cond.methodLink "QuadMode$Specifiers" 59 qm_Co_read ∈ qw ∧ Cond.instanceMethod qm_Co_read ∈ qw ∧ Cond.selects qm_Co_read.cls qm_Co_read qm_Co_read ∈ qw ∧ Cond.initialized qm_Co_read.cls ∈ qw ∧ Cond.code qm_Co_read qm_Co_read_c 6 (some .int) ∈ qw := ⟨qz_120, qz_102, qz_103, qz_15, qz_101⟩
theorem qx_Sp_70 : Cond.methodLink "QuadMode$Specifiers" 70 qm_Co_put ∈ qw ∧ Cond.instanceMethod qm_Co_put ∈ qw ∧ Cond.selects qm_Co_put.cls qm_Co_put qm_Co_put ∈ qw ∧ Cond.initialized qm_Co_put.cls ∈ qw ∧ Cond.code qm_Co_put qm_Co_put_c 3 none ∈ qw := ⟨qz_121, qz_22, qz_23, qz_15, qz_21⟩
theorem qx_Sp_33 : Cond.methodLink "QuadMode$Specifiers" 33 qm_Sp_suits ∈ qw ∧ Cond.static qm_Sp_suits ∈ qw ∧ Cond.initialized qm_Sp_suits.cls ∈ qw ∧ Cond.code qm_Sp_suits qm_Sp_suits_c 3 (some .boolean) ∈ qw := ⟨qz_122, qz_124, qz_108, qz_123⟩
theorem qx_Sp_37 : Cond.methodLink "QuadMode$Specifiers" 37 qm_Co_raise ∈ qw ∧ Cond.instanceMethod qm_Co_raise ∈ qw ∧ Cond.selects qm_Co_raise.cls qm_Co_raise qm_Co_raise ∈ qw ∧ Cond.initialized qm_Co_raise.cls ∈ qw ∧ Cond.code qm_Co_raise qm_Co_raise_c 2 none ∈ qw := ⟨qz_125, qz_127, qz_128, qz_15, qz_126⟩
theorem qx_Sp_44 : Cond.methodLink "QuadMode$Specifiers" 44 qm_Sp_suitsBehindIndexed ∈ qw ∧ Cond.static qm_Sp_suitsBehindIndexed ∈ qw ∧ Cond.initialized qm_Sp_suitsBehindIndexed.cls ∈ qw ∧ Cond.code qm_Sp_suitsBehindIndexed qm_Sp_suitsBehindIndexed_c 2 (some .boolean) ∈ qw := ⟨qz_129, qz_131, qz_108, qz_130⟩
theorem qx_Sp_48 : Cond.methodLink "QuadMode$Specifiers" 48 qm_Sp_addressBy ∈ qw ∧ Cond.instanceMethod qm_Sp_addressBy ∈ qw ∧ Cond.selects qm_Sp_addressBy.cls qm_Sp_addressBy qm_Sp_addressBy ∈ qw ∧ Cond.initialized qm_Sp_addressBy.cls ∈ qw ∧ Cond.code qm_Sp_addressBy qm_Sp_addressBy_c 7 (some .int) ∈ qw := ⟨qz_132, qz_134, qz_135, qz_108, qz_133⟩
theorem qx_Sp_55 : Cond.methodLink "QuadMode$Specifiers" 55 qm_Sp_isRead ∈ qw ∧ Cond.static qm_Sp_isRead ∈ qw ∧ Cond.initialized qm_Sp_isRead.cls ∈ qw ∧ Cond.code qm_Sp_isRead qm_Sp_isRead_c 1 (some .boolean) ∈ qw := ⟨qz_136, qz_138, qz_108, qz_137⟩
theorem qx_Cd_89 : Cond.methodLink "QuadMode$Codes" 89 qm_Co_pop ∈ qw ∧ Cond.instanceMethod qm_Co_pop ∈ qw ∧ Cond.selects qm_Co_pop.cls qm_Co_pop qm_Co_pop ∈ qw ∧ Cond.initialized qm_Co_pop.cls ∈ qw ∧ Cond.code qm_Co_pop qm_Co_pop_c 2 (some .int) ∈ qw := ⟨qz_139, qz_141, qz_142, qz_15, qz_140⟩
theorem qx_Cd_92 : Cond.methodLink "QuadMode$Codes" 92 qm_Co_put ∈ qw ∧ Cond.instanceMethod qm_Co_put ∈ qw ∧ Cond.selects qm_Co_put.cls qm_Co_put qm_Co_put ∈ qw ∧ Cond.initialized qm_Co_put.cls ∈ qw ∧ Cond.code qm_Co_put qm_Co_put_c 3 none ∈ qw := ⟨qz_144, qz_22, qz_23, qz_15, qz_21⟩
theorem qx_Cd_82 : Cond.methodLink "QuadMode$Codes" 82 qm_Co_raise ∈ qw ∧ Cond.instanceMethod qm_Co_raise ∈ qw ∧ Cond.selects qm_Co_raise.cls qm_Co_raise qm_Co_raise ∈ qw ∧ Cond.initialized qm_Co_raise.cls ∈ qw ∧ Cond.code qm_Co_raise qm_Co_raise_c 2 none ∈ qw := ⟨qz_145, qz_127, qz_128, qz_15, qz_126⟩
theorem qx_Cd_169 : Cond.methodLink "QuadMode$Codes" 169 qm_Co_get ∈ qw ∧ Cond.instanceMethod qm_Co_get ∈ qw ∧ Cond.selects qm_Co_get.cls qm_Co_get qm_Co_get ∈ qw ∧ Cond.initialized qm_Co_get.cls ∈ qw ∧ Cond.code qm_Co_get qm_Co_get_c 2 (some .int) ∈ qw := ⟨qz_146, qz_26, qz_27, qz_15, qz_25⟩
theorem qx_Cd_174 : Cond.methodLink "QuadMode$Codes" 174 qm_Co_hasInner ∈ qw ∧ Cond.instanceMethod qm_Co_hasInner ∈ qw ∧ Cond.selects qm_Co_hasInner.cls qm_Co_hasInner qm_Co_hasInner ∈ qw ∧ Cond.initialized qm_Co_hasInner.cls ∈ qw ∧ Cond.code qm_Co_hasInner qm_Co_hasInner_c 2 (some .boolean) ∈ qw := ⟨qz_149, qz_30, qz_31, qz_15, qz_29⟩
theorem qx_Cd_177 : Cond.methodLink "QuadMode$Codes" 177 qm_Co_putInner ∈ qw ∧ Cond.instanceMethod qm_Co_putInner ∈ qw ∧ Cond.selects qm_Co_putInner.cls qm_Co_putInner qm_Co_putInner ∈ qw ∧ Cond.initialized qm_Co_putInner.cls ∈ qw ∧ Cond.code qm_Co_putInner qm_Co_putInner_c 3 none ∈ qw := ⟨qz_150, qz_35, qz_36, qz_15, qz_34⟩
theorem qx_Co_50 : Cond.methodLink "QuadMode$Core" 50 qm_Co_setConditions ∈ qw ∧ Cond.instanceMethod qm_Co_setConditions ∈ qw ∧ Cond.selects qm_Co_setConditions.cls qm_Co_setConditions qm_Co_setConditions ∈ qw ∧ Cond.initialized qm_Co_setConditions.cls ∈ qw ∧ Cond.code qm_Co_setConditions qm_Co_setConditions_c 6 none ∈ qw := ⟨qz_151, qz_153, qz_154, qz_15, qz_152⟩
theorem qx_Pg_51 : Cond.methodLink "QuadMode$Pages" 51 qm_St_byteAt ∈ qw ∧ Cond.instanceMethod qm_St_byteAt ∈ qw ∧ Cond.selects qm_St_byteAt.cls qm_St_byteAt qm_St_byteAt ∈ qw ∧ Cond.initialized qm_St_byteAt.cls ∈ qw ∧ Cond.code qm_St_byteAt qm_St_byteAt_c 2 (some .int) ∈ qw := ⟨qz_155, qz_93, qz_94, qz_3, qz_92⟩
theorem qx_Pg_54 : Cond.methodLink "QuadMode$Pages" 54 qm_St_putByte ∈ qw ∧ Cond.instanceMethod qm_St_putByte ∈ qw ∧ Cond.selects qm_St_putByte.cls qm_St_putByte qm_St_putByte ∈ qw ∧ Cond.initialized qm_St_putByte.cls ∈ qw ∧ Cond.code qm_St_putByte qm_St_putByte_c 3 none ∈ qw := ⟨qz_156, qz_5, qz_6, qz_3, qz_4⟩
theorem qx_Co_100 : Cond.methodLink "QuadMode$Core" 100 qm_Pg_markModified ∈ qw ∧ Cond.instanceMethod qm_Pg_markModified ∈ qw ∧ Cond.selects qm_Pg_markModified.cls qm_Pg_markModified qm_Pg_markModified ∈ qw ∧ Cond.initialized qm_Pg_markModified.cls ∈ qw ∧ Cond.code qm_Pg_markModified qm_Pg_markModified_c 2 none ∈ qw := ⟨qz_159, qz_161, qz_162, qz_56, qz_160⟩
theorem qx_Co_104 : Cond.methodLink "QuadMode$Core" 104 qm_St_putByte ∈ qw ∧ Cond.instanceMethod qm_St_putByte ∈ qw ∧ Cond.selects qm_St_putByte.cls qm_St_putByte qm_St_putByte ∈ qw ∧ Cond.initialized qm_St_putByte.cls ∈ qw ∧ Cond.code qm_St_putByte qm_St_putByte_c 3 none ∈ qw := ⟨qz_163, qz_5, qz_6, qz_3, qz_4⟩
theorem qx_Cd_165 : Cond.methodLink "QuadMode$Codes" 165 qm_Co_write ∈ qw ∧ Cond.instanceMethod qm_Co_write ∈ qw ∧ Cond.selects qm_Co_write.cls qm_Co_write qm_Co_write ∈ qw ∧ Cond.initialized qm_Co_write.cls ∈ qw ∧ Cond.code qm_Co_write qm_Co_write_c 5 none ∈ qw := ⟨qz_164, qz_166, qz_167, qz_15, qz_165⟩
theorem qx_Cd_180 : Cond.methodLink "QuadMode$Codes" 180 qm_Co_getInner ∈ qw ∧ Cond.instanceMethod qm_Co_getInner ∈ qw ∧ Cond.selects qm_Co_getInner.cls qm_Co_getInner qm_Co_getInner ∈ qw ∧ Cond.initialized qm_Co_getInner.cls ∈ qw ∧ Cond.code qm_Co_getInner qm_Co_getInner_c 2 (some .int) ∈ qw := ⟨qz_168, qz_39, qz_40, qz_15, qz_38⟩
theorem qx_Cd_183 : Cond.methodLink "QuadMode$Codes" 183 qm_Co_conclude ∈ qw ∧ Cond.instanceMethod qm_Co_conclude ∈ qw ∧ Cond.selects qm_Co_conclude.cls qm_Co_conclude qm_Co_conclude ∈ qw ∧ Cond.initialized qm_Co_conclude.cls ∈ qw ∧ Cond.code qm_Co_conclude qm_Co_conclude_c 4 none ∈ qw := ⟨qz_169, qz_171, qz_172, qz_15, qz_170⟩
theorem qx_Cd_111 : Cond.methodLink "QuadMode$Codes" 111 qm_Cd_store ∈ qw ∧ Cond.instanceMethod qm_Cd_store ∈ qw ∧ Cond.selects qm_Cd_store.cls qm_Cd_store qm_Cd_store ∈ qw ∧ Cond.initialized qm_Cd_store.cls ∈ qw ∧ Cond.code qm_Cd_store qm_Cd_store_c 3 none ∈ qw := ⟨qz_174, qz_177, qz_178, qz_175, qz_176⟩
theorem qx_Co_117 : Cond.methodLink "QuadMode$Core" 117 qm_Co_write ∈ qw ∧ Cond.instanceMethod qm_Co_write ∈ qw ∧ Cond.selects qm_Co_write.cls qm_Co_write qm_Co_write ∈ qw ∧ Cond.initialized qm_Co_write.cls ∈ qw ∧ Cond.code qm_Co_write qm_Co_write_c 5 none ∈ qw := ⟨qz_184, qz_166, qz_167, qz_15, qz_165⟩
theorem qx_Cd_227 : Cond.methodLink "QuadMode$Codes" 227 qm_Co_push ∈ qw ∧ Cond.instanceMethod qm_Co_push ∈ qw ∧ Cond.selects qm_Co_push.cls qm_Co_push qm_Co_push ∈ qw ∧ Cond.initialized qm_Co_push.cls ∈ qw ∧ Cond.code qm_Co_push qm_Co_push_c 2 none ∈ qw := ⟨qz_186, qz_188, qz_189, qz_15, qz_187⟩
theorem qx_Cd_233 : Cond.methodLink "QuadMode$Codes" 233 qm_Co_read ∈ qw ∧ Cond.instanceMethod qm_Co_read ∈ qw ∧ Cond.selects qm_Co_read.cls qm_Co_read qm_Co_read ∈ qw ∧ Cond.initialized qm_Co_read.cls ∈ qw ∧ Cond.code qm_Co_read qm_Co_read_c 6 (some .int) ∈ qw := ⟨qz_190, qz_102, qz_103, qz_15, qz_101⟩
theorem qx_Cd_240 : Cond.methodLink "QuadMode$Codes" 240 qm_Co_previous ∈ qw ∧ Cond.instanceMethod qm_Co_previous ∈ qw ∧ Cond.selects qm_Co_previous.cls qm_Co_previous qm_Co_previous ∈ qw ∧ Cond.initialized qm_Co_previous.cls ∈ qw ∧ Cond.code qm_Co_previous qm_Co_previous_c 1 (some .int) ∈ qw := ⟨qz_193, qz_195, qz_196, qz_15, qz_194⟩
theorem qx_Cd_246 : Cond.methodLink "QuadMode$Codes" 246 qm_Co_admits ∈ qw ∧ Cond.instanceMethod qm_Co_admits ∈ qw ∧ Cond.selects qm_Co_admits.cls qm_Co_admits qm_Co_admits ∈ qw ∧ Cond.initialized qm_Co_admits.cls ∈ qw ∧ Cond.code qm_Co_admits qm_Co_admits_c 5 (some .boolean) ∈ qw := ⟨qz_200, qz_202, qz_203, qz_15, qz_201⟩
theorem qx_Cd_197 : Cond.methodLink "QuadMode$Codes" 197 qm_Co_setConditions ∈ qw ∧ Cond.instanceMethod qm_Co_setConditions ∈ qw ∧ Cond.selects qm_Co_setConditions.cls qm_Co_setConditions qm_Co_setConditions ∈ qw ∧ Cond.initialized qm_Co_setConditions.cls ∈ qw ∧ Cond.code qm_Co_setConditions qm_Co_setConditions_c 6 none ∈ qw := ⟨qz_204, qz_153, qz_154, qz_15, qz_152⟩
theorem qx_Cd_187 : Cond.methodLink "QuadMode$Codes" 187 qm_Cd_moved ∈ qw ∧ Cond.static qm_Cd_moved ∈ qw ∧ Cond.initialized qm_Cd_moved.cls ∈ qw ∧ Cond.code qm_Cd_moved qm_Cd_moved_c 2 (some .int) ∈ qw := ⟨qz_205, qz_207, qz_175, qz_206⟩
theorem qx_Cd_152 : Cond.methodLink "QuadMode$Codes" 152 qm_Co_has ∈ qw ∧ Cond.instanceMethod qm_Co_has ∈ qw ∧ Cond.selects qm_Co_has.cls qm_Co_has qm_Co_has ∈ qw ∧ Cond.initialized qm_Co_has.cls ∈ qw ∧ Cond.code qm_Co_has qm_Co_has_c 2 (some .boolean) ∈ qw := ⟨qz_209, qz_211, qz_212, qz_15, qz_210⟩
theorem qx_JI_259 : Cond.methodLink "java/lang/Integer" 259 qm_JI_compare ∈ qw ∧ Cond.static qm_JI_compare ∈ qw ∧ Cond.initialized qm_JI_compare.cls ∈ qw ∧ Cond.code qm_JI_compare qm_JI_compare_c 2 (some .int) ∈ qw := ⟨qz_214, qz_217, qz_215, qz_216⟩
theorem qx_Cd_194 : Cond.methodLink "QuadMode$Codes" 194 qm_JI_compareUnsigned ∈ qw ∧ Cond.static qm_JI_compareUnsigned ∈ qw ∧ Cond.initialized qm_JI_compareUnsigned.cls ∈ qw ∧ Cond.code qm_JI_compareUnsigned qm_JI_compareUnsigned_c 2 (some .int) ∈ qw := ⟨qz_218, qz_220, qz_215, qz_219⟩
theorem qx_Cd_217 : Cond.methodLink "QuadMode$Codes" 217 qm_Cd_bits ∈ qw ∧ Cond.instanceMethod qm_Cd_bits ∈ qw ∧ Cond.selects qm_Cd_bits.cls qm_Cd_bits qm_Cd_bits ∈ qw ∧ Cond.initialized qm_Cd_bits.cls ∈ qw ∧ Cond.code qm_Cd_bits qm_Cd_bits_c 2 (some .int) ∈ qw := ⟨qz_222, qz_224, qz_225, qz_175, qz_223⟩
theorem qx_Cd_214 : Cond.methodLink "QuadMode$Codes" 214 qm_Cd_divide ∈ qw ∧ Cond.instanceMethod qm_Cd_divide ∈ qw ∧ Cond.selects qm_Cd_divide.cls qm_Cd_divide qm_Cd_divide ∈ qw ∧ Cond.initialized qm_Cd_divide.cls ∈ qw ∧ Cond.code qm_Cd_divide qm_Cd_divide_c 5 (some .int) ∈ qw := ⟨qz_226, qz_228, qz_229, qz_175, qz_227⟩
theorem qx_Cd_211 : Cond.methodLink "QuadMode$Codes" 211 qm_Cd_multiply ∈ qw ∧ Cond.instanceMethod qm_Cd_multiply ∈ qw ∧ Cond.selects qm_Cd_multiply.cls qm_Cd_multiply qm_Cd_multiply ∈ qw ∧ Cond.initialized qm_Cd_multiply.cls ∈ qw ∧ Cond.code qm_Cd_multiply qm_Cd_multiply_c 5 (some .int) ∈ qw := ⟨qz_230, qz_232, qz_233, qz_175, qz_231⟩
theorem qx_Cd_204 : Cond.methodLink "QuadMode$Codes" 204 qm_Cd_subtract ∈ qw ∧ Cond.instanceMethod qm_Cd_subtract ∈ qw ∧ Cond.selects qm_Cd_subtract.cls qm_Cd_subtract qm_Cd_subtract ∈ qw ∧ Cond.initialized qm_Cd_subtract.cls ∈ qw ∧ Cond.code qm_Cd_subtract qm_Cd_subtract_c 5 (some .int) ∈ qw := ⟨qz_234, qz_236, qz_237, qz_175, qz_235⟩
theorem qx_Cd_201 : Cond.methodLink "QuadMode$Codes" 201 qm_Cd_add ∈ qw ∧ Cond.instanceMethod qm_Cd_add ∈ qw ∧ Cond.selects qm_Cd_add.cls qm_Cd_add qm_Cd_add ∈ qw ∧ Cond.initialized qm_Cd_add.cls ∈ qw ∧ Cond.code qm_Cd_add qm_Cd_add_c 5 (some .int) ∈ qw := ⟨qz_238, qz_240, qz_241, qz_175, qz_239⟩
theorem qx_Cd_207 : Cond.methodLink "QuadMode$Codes" 207 qm_Cd_calculated ∈ qw ∧ Cond.instanceMethod qm_Cd_calculated ∈ qw ∧ Cond.selects qm_Cd_calculated.cls qm_Cd_calculated qm_Cd_calculated ∈ qw ∧ Cond.initialized qm_Cd_calculated.cls ∈ qw ∧ Cond.code qm_Cd_calculated qm_Cd_calculated_c 4 (some .int) ∈ qw := ⟨qz_242, qz_244, qz_245, qz_175, qz_243⟩
theorem qx_Cd_230 : Cond.methodLink "QuadMode$Codes" 230 qm_Cd_holds ∈ qw ∧ Cond.instanceMethod qm_Cd_holds ∈ qw ∧ Cond.selects qm_Cd_holds.cls qm_Cd_holds qm_Cd_holds ∈ qw ∧ Cond.initialized qm_Cd_holds.cls ∈ qw ∧ Cond.code qm_Cd_holds qm_Cd_holds_c 2 (some .boolean) ∈ qw := ⟨qz_246, qz_248, qz_249, qz_175, qz_247⟩
theorem qx_Cd_125 : Cond.methodLink "QuadMode$Codes" 125 qm_Cd_move ∈ qw ∧ Cond.instanceMethod qm_Cd_move ∈ qw ∧ Cond.selects qm_Cd_move.cls qm_Cd_move qm_Cd_move ∈ qw ∧ Cond.initialized qm_Cd_move.cls ∈ qw ∧ Cond.code qm_Cd_move qm_Cd_move_c 6 none ∈ qw := ⟨qz_250, qz_252, qz_253, qz_175, qz_251⟩
theorem qx_Cd_128 : Cond.methodLink "QuadMode$Codes" 128 qm_Cd_compare ∈ qw ∧ Cond.instanceMethod qm_Cd_compare ∈ qw ∧ Cond.selects qm_Cd_compare.cls qm_Cd_compare qm_Cd_compare ∈ qw ∧ Cond.initialized qm_Cd_compare.cls ∈ qw ∧ Cond.code qm_Cd_compare qm_Cd_compare_c 5 none ∈ qw := ⟨qz_254, qz_256, qz_257, qz_175, qz_255⟩
theorem qx_Cd_131 : Cond.methodLink "QuadMode$Codes" 131 qm_Cd_calculate ∈ qw ∧ Cond.instanceMethod qm_Cd_calculate ∈ qw ∧ Cond.selects qm_Cd_calculate.cls qm_Cd_calculate qm_Cd_calculate ∈ qw ∧ Cond.initialized qm_Cd_calculate.cls ∈ qw ∧ Cond.code qm_Cd_calculate qm_Cd_calculate_c 3 none ∈ qw := ⟨qz_258, qz_260, qz_261, qz_175, qz_259⟩
theorem qx_Cd_134 : Cond.methodLink "QuadMode$Codes" 134 qm_Cd_handAddress ∈ qw ∧ Cond.instanceMethod qm_Cd_handAddress ∈ qw ∧ Cond.selects qm_Cd_handAddress.cls qm_Cd_handAddress qm_Cd_handAddress ∈ qw ∧ Cond.initialized qm_Cd_handAddress.cls ∈ qw ∧ Cond.code qm_Cd_handAddress qm_Cd_handAddress_c 3 none ∈ qw := ⟨qz_262, qz_264, qz_265, qz_175, qz_263⟩
theorem qx_Cd_137 : Cond.methodLink "QuadMode$Codes" 137 qm_Cd_go ∈ qw ∧ Cond.instanceMethod qm_Cd_go ∈ qw ∧ Cond.selects qm_Cd_go.cls qm_Cd_go qm_Cd_go ∈ qw ∧ Cond.initialized qm_Cd_go.cls ∈ qw ∧ Cond.code qm_Cd_go qm_Cd_go_c 3 none ∈ qw := ⟨qz_266, qz_268, qz_269, qz_175, qz_267⟩
theorem qx_Cd_140 : Cond.methodLink "QuadMode$Codes" 140 qm_Cd_branch ∈ qw ∧ Cond.instanceMethod qm_Cd_branch ∈ qw ∧ Cond.selects qm_Cd_branch.cls qm_Cd_branch qm_Cd_branch ∈ qw ∧ Cond.initialized qm_Cd_branch.cls ∈ qw ∧ Cond.code qm_Cd_branch qm_Cd_branch_c 4 none ∈ qw := ⟨qz_270, qz_272, qz_273, qz_175, qz_271⟩
theorem qx_Cd_143 : Cond.methodLink "QuadMode$Codes" 143 qm_Cd_count ∈ qw ∧ Cond.instanceMethod qm_Cd_count ∈ qw ∧ Cond.selects qm_Cd_count.cls qm_Cd_count qm_Cd_count ∈ qw ∧ Cond.initialized qm_Cd_count.cls ∈ qw ∧ Cond.code qm_Cd_count qm_Cd_count_c 9 none ∈ qw := ⟨qz_274, qz_276, qz_277, qz_175, qz_275⟩
theorem qx_Cd_121 : Cond.methodLink "QuadMode$Codes" 121 qm_Cd_probe ∈ qw ∧ Cond.instanceMethod qm_Cd_probe ∈ qw ∧ Cond.selects qm_Cd_probe.cls qm_Cd_probe qm_Cd_probe ∈ qw ∧ Cond.initialized qm_Cd_probe.cls ∈ qw ∧ Cond.code qm_Cd_probe qm_Cd_probe_c 5 none ∈ qw := ⟨qz_278, qz_280, qz_281, qz_175, qz_279⟩
theorem qx_Cd_118 : Cond.methodLink "QuadMode$Codes" 118 qm_Cd_enterFrame ∈ qw ∧ Cond.instanceMethod qm_Cd_enterFrame ∈ qw ∧ Cond.selects qm_Cd_enterFrame.cls qm_Cd_enterFrame qm_Cd_enterFrame ∈ qw ∧ Cond.initialized qm_Cd_enterFrame.cls ∈ qw ∧ Cond.code qm_Cd_enterFrame qm_Cd_enterFrame_c 5 none ∈ qw := ⟨qz_282, qz_284, qz_285, qz_175, qz_283⟩
theorem qx_Cd_115 : Cond.methodLink "QuadMode$Codes" 115 qm_Cd_shift ∈ qw ∧ Cond.instanceMethod qm_Cd_shift ∈ qw ∧ Cond.selects qm_Cd_shift.cls qm_Cd_shift qm_Cd_shift ∈ qw ∧ Cond.initialized qm_Cd_shift.cls ∈ qw ∧ Cond.code qm_Cd_shift qm_Cd_shift_c 5 none ∈ qw := ⟨qz_286, qz_288, qz_289, qz_175, qz_287⟩
theorem qx_Cd_105 : Cond.methodLink "QuadMode$Codes" 105 qm_Cd_takeInner ∈ qw ∧ Cond.instanceMethod qm_Cd_takeInner ∈ qw ∧ Cond.selects qm_Cd_takeInner.cls qm_Cd_takeInner qm_Cd_takeInner ∈ qw ∧ Cond.initialized qm_Cd_takeInner.cls ∈ qw ∧ Cond.code qm_Cd_takeInner qm_Cd_takeInner_c 3 none ∈ qw := ⟨qz_290, qz_292, qz_293, qz_175, qz_291⟩
theorem qx_Cd_102 : Cond.methodLink "QuadMode$Codes" 102 qm_Cd_giveInner ∈ qw ∧ Cond.instanceMethod qm_Cd_giveInner ∈ qw ∧ Cond.selects qm_Cd_giveInner.cls qm_Cd_giveInner qm_Cd_giveInner ∈ qw ∧ Cond.initialized qm_Cd_giveInner.cls ∈ qw ∧ Cond.code qm_Cd_giveInner qm_Cd_giveInner_c 3 none ∈ qw := ⟨qz_294, qz_296, qz_297, qz_175, qz_295⟩
theorem qx_Cd_86 : Cond.methodLink "QuadMode$Codes" 86 qm_Cd_leaveFrame ∈ qw ∧ Cond.instanceMethod qm_Cd_leaveFrame ∈ qw ∧ Cond.selects qm_Cd_leaveFrame.cls qm_Cd_leaveFrame qm_Cd_leaveFrame ∈ qw ∧ Cond.initialized qm_Cd_leaveFrame.cls ∈ qw ∧ Cond.code qm_Cd_leaveFrame qm_Cd_leaveFrame_c 3 none ∈ qw := ⟨qz_298, qz_300, qz_301, qz_175, qz_299⟩
theorem qx_Cd_79 : Cond.methodLink "QuadMode$Codes" 79 qm_Cd_leaveException ∈ qw ∧ Cond.instanceMethod qm_Cd_leaveException ∈ qw ∧ Cond.selects qm_Cd_leaveException.cls qm_Cd_leaveException qm_Cd_leaveException ∈ qw ∧ Cond.initialized qm_Cd_leaveException.cls ∈ qw ∧ Cond.code qm_Cd_leaveException qm_Cd_leaveException_c 5 none ∈ qw := ⟨qz_302, qz_304, qz_305, qz_175, qz_303⟩
theorem qx_Cd_146 : Cond.methodLink "QuadMode$Codes" 146 qm_Cd_noteOverflow ∈ qw ∧ Cond.instanceMethod qm_Cd_noteOverflow ∈ qw ∧ Cond.selects qm_Cd_noteOverflow.cls qm_Cd_noteOverflow qm_Cd_noteOverflow ∈ qw ∧ Cond.initialized qm_Cd_noteOverflow.cls ∈ qw ∧ Cond.code qm_Cd_noteOverflow qm_Cd_noteOverflow_c 3 none ∈ qw := ⟨qz_306, qz_308, qz_309, qz_175, qz_307⟩
theorem qx_X_187 : Cond.methodLink "QuadMode" 187 qm_Co_mode ∈ qw ∧ Cond.instanceMethod qm_Co_mode ∈ qw ∧ Cond.selects qm_Co_mode.cls qm_Co_mode qm_Co_mode ∈ qw ∧ Cond.initialized qm_Co_mode.cls ∈ qw ∧ Cond.code qm_Co_mode qm_Co_mode_c 1 (some .int) ∈ qw := ⟨qz_312, qz_17, qz_18, qz_15, qz_16⟩
theorem qx_X_202 : Cond.methodLink "QuadMode" 202 qm_Co_push ∈ qw ∧ Cond.instanceMethod qm_Co_push ∈ qw ∧ Cond.selects qm_Co_push.cls qm_Co_push qm_Co_push ∈ qw ∧ Cond.initialized qm_Co_push.cls ∈ qw ∧ Cond.code qm_Co_push qm_Co_push_c 2 none ∈ qw := ⟨qz_313, qz_188, qz_189, qz_15, qz_187⟩
theorem qx_X_174 : Cond.methodLink "QuadMode" 174 qm_Co_takeBack ∈ qw ∧ Cond.instanceMethod qm_Co_takeBack ∈ qw ∧ Cond.selects qm_Co_takeBack.cls qm_Co_takeBack qm_Co_takeBack ∈ qw ∧ Cond.initialized qm_Co_takeBack.cls ∈ qw ∧ Cond.code qm_Co_takeBack qm_Co_takeBack_c 1 none ∈ qw := ⟨qz_315, qz_317, qz_318, qz_15, qz_316⟩
theorem qx_X_134 : Cond.methodLink "QuadMode" 134 qm_Co_keep ∈ qw ∧ Cond.instanceMethod qm_Co_keep ∈ qw ∧ Cond.selects qm_Co_keep.cls qm_Co_keep qm_Co_keep ∈ qw ∧ Cond.initialized qm_Co_keep.cls ∈ qw ∧ Cond.code qm_Co_keep qm_Co_keep_c 1 none ∈ qw := ⟨qz_321, qz_323, qz_324, qz_15, qz_322⟩
theorem qx_X_137 : Cond.methodLink "QuadMode" 137 qm_Co_fetch ∈ qw ∧ Cond.instanceMethod qm_Co_fetch ∈ qw ∧ Cond.selects qm_Co_fetch.cls qm_Co_fetch qm_Co_fetch ∈ qw ∧ Cond.initialized qm_Co_fetch.cls ∈ qw ∧ Cond.code qm_Co_fetch qm_Co_fetch_c 3 (some .int) ∈ qw := ⟨qz_325, qz_118, qz_119, qz_15, qz_117⟩
theorem qx_X_140 : Cond.methodLink "QuadMode" 140 qm_Cd_isAllowed ∈ qw ∧ Cond.instanceMethod qm_Cd_isAllowed ∈ qw ∧ Cond.selects qm_Cd_isAllowed.cls qm_Cd_isAllowed qm_Cd_isAllowed ∈ qw ∧ Cond.initialized qm_Cd_isAllowed.cls ∈ qw ∧ Cond.code qm_Cd_isAllowed qm_Cd_isAllowed_c 3 (some .boolean) ∈ qw := ⟨qz_327, qz_329, qz_330, qz_175, qz_328⟩
theorem qx_X_143 : Cond.methodLink "QuadMode" 143 qm_Co_raise ∈ qw ∧ Cond.instanceMethod qm_Co_raise ∈ qw ∧ Cond.selects qm_Co_raise.cls qm_Co_raise qm_Co_raise ∈ qw ∧ Cond.initialized qm_Co_raise.cls ∈ qw ∧ Cond.code qm_Co_raise qm_Co_raise_c 2 none ∈ qw := ⟨qz_331, qz_127, qz_128, qz_15, qz_126⟩
theorem qx_X_124 : Cond.methodLink "QuadMode" 124 qm_Pg_locate ∈ qw ∧ Cond.instanceMethod qm_Pg_locate ∈ qw ∧ Cond.selects qm_Pg_locate.cls qm_Pg_locate qm_Pg_locate ∈ qw ∧ Cond.initialized qm_Pg_locate.cls ∈ qw ∧ Cond.code qm_Pg_locate qm_Pg_locate_c 10 (some .int) ∈ qw := ⟨qz_333, qz_88, qz_89, qz_56, qz_87⟩
theorem qx_M_56 : Cond.methodLink "QuadModeModel" 56 qm_M_bare ∈ qw ∧ Cond.instanceMethod qm_M_bare ∈ qw ∧ Cond.selects qm_M_bare.cls qm_M_bare qm_M_bare ∈ qw ∧ Cond.initialized qm_M_bare.cls ∈ qw ∧ Cond.code qm_M_bare qm_M_bare_c 5 (some .int) ∈ qw := ⟨qz_338, qz_341, qz_342, qz_339, qz_340⟩
theorem qx_M_69 : Cond.methodLink "QuadModeModel" 69 qm_M_mode ∈ qw ∧ Cond.instanceMethod qm_M_mode ∈ qw ∧ Cond.selects qm_M_mode.cls qm_M_mode qm_M_mode ∈ qw ∧ Cond.initialized qm_M_mode.cls ∈ qw ∧ Cond.code qm_M_mode qm_M_mode_c 1 (some .int) ∈ qw := ⟨qz_346, qz_348, qz_349, qz_339, qz_347⟩
theorem qx_M_90 : Cond.methodLink "QuadModeModel" 90 qm_M_put ∈ qw ∧ Cond.instanceMethod qm_M_put ∈ qw ∧ Cond.selects qm_M_put.cls qm_M_put qm_M_put ∈ qw ∧ Cond.initialized qm_M_put.cls ∈ qw ∧ Cond.code qm_M_put qm_M_put_c 3 none ∈ qw := ⟨qz_350, qz_352, qz_353, qz_339, qz_351⟩
theorem qx_M_84 : Cond.methodLink "QuadModeModel" 84 qm_M_get ∈ qw ∧ Cond.instanceMethod qm_M_get ∈ qw ∧ Cond.selects qm_M_get.cls qm_M_get qm_M_get ∈ qw ∧ Cond.initialized qm_M_get.cls ∈ qw ∧ Cond.code qm_M_get qm_M_get_c 2 (some .int) ∈ qw := ⟨qz_354, qz_356, qz_357, qz_339, qz_355⟩
theorem qx_M_203 : Cond.methodLink "QuadModeModel" 203 qm_M_fail ∈ qw ∧ Cond.instanceMethod qm_M_fail ∈ qw ∧ Cond.selects qm_M_fail.cls qm_M_fail qm_M_fail ∈ qw ∧ Cond.initialized qm_M_fail.cls ∈ qw ∧ Cond.code qm_M_fail qm_M_fail_c 2 (some .int) ∈ qw := ⟨qz_358, qz_360, qz_361, qz_339, qz_359⟩
theorem qx_M_133 : Cond.methodLink "QuadModeModel" 133 qm_M_isInner ∈ qw ∧ Cond.static qm_M_isInner ∈ qw ∧ Cond.initialized qm_M_isInner.cls ∈ qw ∧ Cond.code qm_M_isInner qm_M_isInner_c 1 (some .boolean) ∈ qw := ⟨qz_362, qz_364, qz_339, qz_363⟩
theorem qx_M_52 : Cond.methodLink "QuadModeModel" 52 qm_M_below ∈ qw ∧ Cond.static qm_M_below ∈ qw ∧ Cond.initialized qm_M_below.cls ∈ qw ∧ Cond.code qm_M_below qm_M_below_c 2 (some .boolean) ∈ qw := ⟨qz_373, qz_375, qz_339, qz_374⟩
theorem qx_M_73 : Cond.methodLink "QuadModeModel" 73 qm_M_find ∈ qw ∧ Cond.instanceMethod qm_M_find ∈ qw ∧ Cond.selects qm_M_find.cls qm_M_find qm_M_find ∈ qw ∧ Cond.initialized qm_M_find.cls ∈ qw ∧ Cond.code qm_M_find qm_M_find_c 11 (some .int) ∈ qw := ⟨qz_379, qz_381, qz_382, qz_339, qz_380⟩
theorem qx_M_77 : Cond.methodLink "QuadModeModel" 77 qm_M_wrong ∈ qw ∧ Cond.instanceMethod qm_M_wrong ∈ qw ∧ Cond.selects qm_M_wrong.cls qm_M_wrong qm_M_wrong ∈ qw ∧ Cond.initialized qm_M_wrong.cls ∈ qw ∧ Cond.code qm_M_wrong qm_M_wrong_c 4 none ∈ qw := ⟨qz_383, qz_385, qz_386, qz_339, qz_384⟩
theorem qx_M_81 : Cond.methodLink "QuadModeModel" 81 qm_M_readByte ∈ qw ∧ Cond.instanceMethod qm_M_readByte ∈ qw ∧ Cond.selects qm_M_readByte.cls qm_M_readByte qm_M_readByte ∈ qw ∧ Cond.initialized qm_M_readByte.cls ∈ qw ∧ Cond.code qm_M_readByte qm_M_readByte_c 3 (some .int) ∈ qw := ⟨qz_387, qz_389, qz_390, qz_339, qz_388⟩
theorem qx_M_100 : Cond.methodLink "QuadModeModel" 100 qm_M_next ∈ qw ∧ Cond.instanceMethod qm_M_next ∈ qw ∧ Cond.selects qm_M_next.cls qm_M_next qm_M_next ∈ qw ∧ Cond.initialized qm_M_next.cls ∈ qw ∧ Cond.code qm_M_next qm_M_next_c 2 (some .int) ∈ qw := ⟨qz_391, qz_393, qz_394, qz_339, qz_392⟩
theorem qx_M_103 : Cond.methodLink "QuadModeModel" 103 qm_M_signed ∈ qw ∧ Cond.static qm_M_signed ∈ qw ∧ Cond.initialized qm_M_signed.cls ∈ qw ∧ Cond.code qm_M_signed qm_M_signed_c 1 (some .int) ∈ qw := ⟨qz_397, qz_399, qz_339, qz_398⟩
theorem qx_M_94 : Cond.methodLink "QuadModeModel" 94 qm_M_readLong ∈ qw ∧ Cond.instanceMethod qm_M_readLong ∈ qw ∧ Cond.selects qm_M_readLong.cls qm_M_readLong qm_M_readLong ∈ qw ∧ Cond.initialized qm_M_readLong.cls ∈ qw ∧ Cond.code qm_M_readLong qm_M_readLong_c 4 (some .int) ∈ qw := ⟨qz_400, qz_402, qz_403, qz_339, qz_401⟩
theorem qx_M_128 : Cond.methodLink "QuadModeModel" 128 qm_M_pop ∈ qw ∧ Cond.instanceMethod qm_M_pop ∈ qw ∧ Cond.selects qm_M_pop.cls qm_M_pop qm_M_pop ∈ qw ∧ Cond.initialized qm_M_pop.cls ∈ qw ∧ Cond.code qm_M_pop qm_M_pop_c 2 (some .int) ∈ qw := ⟨qz_405, qz_407, qz_408, qz_339, qz_406⟩
theorem qx_M_87 : Cond.methodLink "QuadModeModel" 87 qm_M_write ∈ qw ∧ Cond.instanceMethod qm_M_write ∈ qw ∧ Cond.selects qm_M_write.cls qm_M_write qm_M_write ∈ qw ∧ Cond.initialized qm_M_write.cls ∈ qw ∧ Cond.code qm_M_write qm_M_write_c 5 none ∈ qw := ⟨qz_412, qz_414, qz_415, qz_339, qz_413⟩
theorem qx_M_113 : Cond.methodLink "QuadModeModel" 113 qm_M_mark ∈ qw ∧ Cond.instanceMethod qm_M_mark ∈ qw ∧ Cond.selects qm_M_mark.cls qm_M_mark qm_M_mark ∈ qw ∧ Cond.initialized qm_M_mark.cls ∈ qw ∧ Cond.code qm_M_mark qm_M_mark_c 4 none ∈ qw := ⟨qz_416, qz_418, qz_419, qz_339, qz_417⟩
theorem qx_M_117 : Cond.methodLink "QuadModeModel" 117 qm_M_give ∈ qw ∧ Cond.instanceMethod qm_M_give ∈ qw ∧ Cond.selects qm_M_give.cls qm_M_give qm_M_give ∈ qw ∧ Cond.initialized qm_M_give.cls ∈ qw ∧ Cond.code qm_M_give qm_M_give_c 4 none ∈ qw := ⟨qz_420, qz_422, qz_423, qz_339, qz_421⟩
theorem qx_M_106 : Cond.methodLink "QuadModeModel" 106 qm_M_has ∈ qw ∧ Cond.instanceMethod qm_M_has ∈ qw ∧ Cond.selects qm_M_has.cls qm_M_has qm_M_has ∈ qw ∧ Cond.initialized qm_M_has.cls ∈ qw ∧ Cond.code qm_M_has qm_M_has_c 2 (some .boolean) ∈ qw := ⟨qz_424, qz_426, qz_427, qz_339, qz_425⟩
theorem qx_M_121 : Cond.methodLink "QuadModeModel" 121 qm_M_push ∈ qw ∧ Cond.instanceMethod qm_M_push ∈ qw ∧ Cond.selects qm_M_push.cls qm_M_push qm_M_push ∈ qw ∧ Cond.initialized qm_M_push.cls ∈ qw ∧ Cond.code qm_M_push qm_M_push_c 2 none ∈ qw := ⟨qz_428, qz_430, qz_431, qz_339, qz_429⟩
theorem qx_M_139 : Cond.methodLink "QuadModeModel" 139 qm_M_comeBack ∈ qw ∧ Cond.instanceMethod qm_M_comeBack ∈ qw ∧ Cond.selects qm_M_comeBack.cls qm_M_comeBack qm_M_comeBack ∈ qw ∧ Cond.initialized qm_M_comeBack.cls ∈ qw ∧ Cond.code qm_M_comeBack qm_M_comeBack_c 3 none ∈ qw := ⟨qz_437, qz_439, qz_440, qz_339, qz_438⟩
theorem qx_M_136 : Cond.methodLink "QuadModeModel" 136 qm_M_endException ∈ qw ∧ Cond.instanceMethod qm_M_endException ∈ qw ∧ Cond.selects qm_M_endException.cls qm_M_endException qm_M_endException ∈ qw ∧ Cond.initialized qm_M_endException.cls ∈ qw ∧ Cond.code qm_M_endException qm_M_endException_c 4 none ∈ qw := ⟨qz_441, qz_443, qz_444, qz_339, qz_442⟩
theorem qx_M_145 : Cond.methodLink "QuadModeModel" 145 qm_M_move ∈ qw ∧ Cond.instanceMethod qm_M_move ∈ qw ∧ Cond.selects qm_M_move.cls qm_M_move qm_M_move ∈ qw ∧ Cond.initialized qm_M_move.cls ∈ qw ∧ Cond.code qm_M_move qm_M_move_c 9 none ∈ qw := ⟨qz_445, qz_447, qz_448, qz_339, qz_446⟩
theorem qx_M_148 : Cond.methodLink "QuadModeModel" 148 qm_M_reckon ∈ qw ∧ Cond.instanceMethod qm_M_reckon ∈ qw ∧ Cond.selects qm_M_reckon.cls qm_M_reckon qm_M_reckon ∈ qw ∧ Cond.initialized qm_M_reckon.cls ∈ qw ∧ Cond.code qm_M_reckon qm_M_reckon_c 11 none ∈ qw := ⟨qz_449, qz_451, qz_452, qz_339, qz_450⟩
theorem qx_M_155 : Cond.methodLink "QuadModeModel" 155 qm_M_go ∈ qw ∧ Cond.instanceMethod qm_M_go ∈ qw ∧ Cond.selects qm_M_go.cls qm_M_go qm_M_go ∈ qw ∧ Cond.initialized qm_M_go.cls ∈ qw ∧ Cond.code qm_M_go qm_M_go_c 4 none ∈ qw := ⟨qz_453, qz_455, qz_456, qz_339, qz_454⟩
theorem qx_M_152 : Cond.methodLink "QuadModeModel" 152 qm_M_shift ∈ qw ∧ Cond.instanceMethod qm_M_shift ∈ qw ∧ Cond.selects qm_M_shift.cls qm_M_shift qm_M_shift ∈ qw ∧ Cond.initialized qm_M_shift.cls ∈ qw ∧ Cond.code qm_M_shift qm_M_shift_c 5 none ∈ qw := ⟨qz_457, qz_459, qz_460, qz_339, qz_458⟩
theorem qx_M_158 : Cond.methodLink "QuadModeModel" 158 qm_M_isMet ∈ qw ∧ Cond.instanceMethod qm_M_isMet ∈ qw ∧ Cond.selects qm_M_isMet.cls qm_M_isMet qm_M_isMet ∈ qw ∧ Cond.initialized qm_M_isMet.cls ∈ qw ∧ Cond.code qm_M_isMet qm_M_isMet_c 6 (some .boolean) ∈ qw := ⟨qz_461, qz_463, qz_464, qz_339, qz_462⟩
theorem qx_M_161 : Cond.methodLink "QuadModeModel" 161 qm_M_count ∈ qw ∧ Cond.instanceMethod qm_M_count ∈ qw ∧ Cond.selects qm_M_count.cls qm_M_count qm_M_count ∈ qw ∧ Cond.initialized qm_M_count.cls ∈ qw ∧ Cond.code qm_M_count qm_M_count_c 5 none ∈ qw := ⟨qz_465, qz_467, qz_468, qz_339, qz_466⟩
theorem qx_M_164 : Cond.methodLink "QuadModeModel" 164 qm_M_callFrame ∈ qw ∧ Cond.instanceMethod qm_M_callFrame ∈ qw ∧ Cond.selects qm_M_callFrame.cls qm_M_callFrame qm_M_callFrame ∈ qw ∧ Cond.initialized qm_M_callFrame.cls ∈ qw ∧ Cond.code qm_M_callFrame qm_M_callFrame_c 5 none ∈ qw := ⟨qz_469, qz_471, qz_472, qz_339, qz_470⟩
theorem qx_M_167 : Cond.methodLink "QuadModeModel" 167 qm_M_probe ∈ qw ∧ Cond.instanceMethod qm_M_probe ∈ qw ∧ Cond.selects qm_M_probe.cls qm_M_probe qm_M_probe ∈ qw ∧ Cond.initialized qm_M_probe.cls ∈ qw ∧ Cond.code qm_M_probe qm_M_probe_c 9 none ∈ qw := ⟨qz_473, qz_475, qz_476, qz_339, qz_474⟩
theorem qx_M_142 : Cond.methodLink "QuadModeModel" 142 qm_M_innerOnes ∈ qw ∧ Cond.instanceMethod qm_M_innerOnes ∈ qw ∧ Cond.selects qm_M_innerOnes.cls qm_M_innerOnes qm_M_innerOnes ∈ qw ∧ Cond.initialized qm_M_innerOnes.cls ∈ qw ∧ Cond.code qm_M_innerOnes qm_M_innerOnes_c 5 none ∈ qw := ⟨qz_477, qz_479, qz_480, qz_339, qz_478⟩
theorem qx_M_171 : Cond.methodLink "QuadModeModel" 171 qm_M_bringBack ∈ qw ∧ Cond.instanceMethod qm_M_bringBack ∈ qw ∧ Cond.selects qm_M_bringBack.cls qm_M_bringBack qm_M_bringBack ∈ qw ∧ Cond.initialized qm_M_bringBack.cls ∈ qw ∧ Cond.code qm_M_bringBack qm_M_bringBack_c 2 none ∈ qw := ⟨qz_483, qz_485, qz_486, qz_339, qz_484⟩
theorem qx_M_183 : Cond.methodLink "QuadModeModel" 183 qm_M_keep ∈ qw ∧ Cond.instanceMethod qm_M_keep ∈ qw ∧ Cond.selects qm_M_keep.cls qm_M_keep qm_M_keep ∈ qw ∧ Cond.initialized qm_M_keep.cls ∈ qw ∧ Cond.code qm_M_keep qm_M_keep_c 2 none ∈ qw := ⟨qz_487, qz_489, qz_490, qz_339, qz_488⟩
theorem qx_M_186 : Cond.methodLink "QuadModeModel" 186 qm_M_shape ∈ qw ∧ Cond.static qm_M_shape ∈ qw ∧ Cond.initialized qm_M_shape.cls ∈ qw ∧ Cond.code qm_M_shape qm_M_shape_c 1 (some .int) ∈ qw := ⟨qz_491, qz_493, qz_339, qz_492⟩
theorem qx_M_189 : Cond.methodLink "QuadModeModel" 189 qm_M_operand ∈ qw ∧ Cond.instanceMethod qm_M_operand ∈ qw ∧ Cond.selects qm_M_operand.cls qm_M_operand qm_M_operand ∈ qw ∧ Cond.initialized qm_M_operand.cls ∈ qw ∧ Cond.code qm_M_operand qm_M_operand_c 11 none ∈ qw := ⟨qz_494, qz_496, qz_497, qz_339, qz_495⟩
theorem qx_M_192 : Cond.methodLink "QuadModeModel" 192 qm_M_work ∈ qw ∧ Cond.instanceMethod qm_M_work ∈ qw ∧ Cond.selects qm_M_work.cls qm_M_work qm_M_work ∈ qw ∧ Cond.initialized qm_M_work.cls ∈ qw ∧ Cond.code qm_M_work qm_M_work_c 3 none ∈ qw := ⟨qz_498, qz_500, qz_501, qz_339, qz_499⟩
theorem qx_M_198 : Cond.methodLink "QuadModeModel" 198 qm_M_raise ∈ qw ∧ Cond.instanceMethod qm_M_raise ∈ qw ∧ Cond.selects qm_M_raise.cls qm_M_raise qm_M_raise ∈ qw ∧ Cond.initialized qm_M_raise.cls ∈ qw ∧ Cond.code qm_M_raise qm_M_raise_c 8 none ∈ qw := ⟨qz_503, qz_505, qz_506, qz_339, qz_504⟩
theorem qx_M_206 : Cond.methodLink "QuadModeModel" 206 qm_M_instruction ∈ qw ∧ Cond.instanceMethod qm_M_instruction ∈ qw ∧ Cond.selects qm_M_instruction.cls qm_M_instruction qm_M_instruction ∈ qw ∧ Cond.initialized qm_M_instruction.cls ∈ qw ∧ Cond.code qm_M_instruction qm_M_instruction_c 5 none ∈ qw := ⟨qz_507, qz_509, qz_510, qz_339, qz_508⟩
end
section
def fSt_putByte  (S : qS) (a1 : Int32) (a2 : Int32) : Option (qS) :=
  chk (inb (a1 &&& 2047) 2048) <|
  some (pA S 0 (a1 &&& 2047) (vp_nar .byte a2.toInt8.toInt32))
def fX_fill_3 : Nat → qS → Int32 → Int64 → Int32 → Option (qS)
  | 0, _, _, _, _ => none
  | n + 1, S, x1, x2, x4 =>
      if 8 ≤ x4 then
        some S
      else
        (fSt_putByte S (x1 + x4) ((ushrL x2 (8 * x4)).toInt32)).bind fun S2 =>
        (fX_fill_3 n) S2 x1 x2 (x4 + 1)
def fX_fill  (S : qS) (a1 : Int32) (a2 : Int64) : Option (qS) :=
  fX_fill_3 300 S a1 a2 0
def fSt_longAt  (S : qS) (a1 : Int32) : Option (Int32 × qS) :=
  chk (inb (a1 &&& 2047) 2048) <|
  chk (inb ((a1 + 1) &&& 2047) 2048) <|
  chk (inb ((a1 + 2) &&& 2047) 2048) <|
  chk (inb ((a1 + 3) &&& 2047) 2048) <|
  some (((((gA S 0 (a1 &&& 2047)) &&& 255) ||| (((gA S 0 ((a1 + 1) &&& 2047)) &&& 255) <<< ((8 : Int32) &&& 31))) ||| (((gA S 0 ((a1 + 2) &&& 2047)) &&& 255) <<< ((16 : Int32) &&& 31))) ||| ((gA S 0 ((a1 + 3) &&& 2047)) <<< ((24 : Int32) &&& 31)), S)
def fX_look  (S : qS) (a1 : Int32) : Option (Int32 × qS) :=
  (fSt_longAt S a1).bind fun q1 =>
  some (q1.1, q1.2)
def fCo_mode  (S : qS) : Option (Int32 × qS) :=
  some ((ushr (S.1 6) 24) &&& 3, S)
def fCo_put_29  (S : qS) : Option (qS) :=
  some S
def fCo_put  (S : qS) (a1 : Int32) (a2 : Int32) : Option (qS) :=
  if ¬ a1 = 14 then
    chk (inb (a1 &&& 15) 16) <|
    fCo_put_29 (pA S 2 (a1 &&& 15) a2)
  else
    (fCo_mode S).bind fun q3 =>
    chk (inb q3.1 57) <|
    fCo_put_29 (pA q3.2 1 q3.1 a2)
def fX_set_10  (S : qS) : Option (qS) :=
  none
def fX_set  (S : qS) (a1 : Int32) (a2 : Int32) : Option (qS) :=
  if a1 < 0 then
    fX_set_10 S
  else
    if a1 < 16 then
      (fCo_put S a1 a2).bind fun S3 =>
      some S3
    else
      fX_set_10 S
def fCo_get_27  (S : qS) (y0 : Int32) : Option (Int32 × qS) :=
  some (y0, S)
def fCo_get  (S : qS) (a1 : Int32) : Option (Int32 × qS) :=
  if ¬ a1 = 14 then
    chk (inb (a1 &&& 15) 16) <|
    fCo_get_27 S (gA S 2 (a1 &&& 15))
  else
    (fCo_mode S).bind fun q3 =>
    chk (inb q3.1 57) <|
    fCo_get_27 q3.2 (gA q3.2 1 q3.1)
def fX_register_10  (S : qS) : Option (Int32 × qS) :=
  none
def fX_register  (S : qS) (a1 : Int32) : Option (Int32 × qS) :=
  if a1 < 0 then
    fX_register_10 S
  else
    if a1 < 16 then
      (fCo_get S a1).bind fun q3 =>
      some (q3.1, q3.2)
    else
      fX_register_10 S
def fCo_hasInner_38  (S : qS) (y0 : Int32) : Option (Int32 × qS) :=
  chk (isB y0) (some (y0, S))
def fCo_hasInner_33  (S : qS) : Option (Int32 × qS) :=
  fCo_hasInner_38 S 1
def fCo_hasInner_21  (S : qS) (x1 : Int32) : Option (Int32 × qS) :=
  if x1 = 17 then
    fCo_hasInner_33 S
  else
    if ¬ x1 = 56 then
      fCo_hasInner_38 S 0
    else
      fCo_hasInner_33 S
def fCo_hasInner_9  (S : qS) (x1 : Int32) : Option (Int32 × qS) :=
  if x1 < 8 then
    fCo_hasInner_21 S x1
  else
    if x1 ≤ 13 then
      fCo_hasInner_33 S
    else
      fCo_hasInner_21 S x1
def fCo_hasInner  (S : qS) (a1 : Int32) : Option (Int32 × qS) :=
  if a1 < 0 then
    fCo_hasInner_9 S a1
  else
    if a1 < 4 then
      fCo_hasInner_33 S
    else
      fCo_hasInner_9 S a1
def fCo_putInner_15  (S : qS) : Option (qS) :=
  some S
def fCo_putInner  (S : qS) (a1 : Int32) (a2 : Int32) : Option (qS) :=
  (fCo_hasInner S a1).bind fun q1 =>
  if q1.1 = 0 then
    fCo_putInner_15 q1.2
  else
    chk (inb a1 57) <|
    fCo_putInner_15 (pA q1.2 1 a1 a2)
def fX_setInner_41  (S : qS) (y1 : Int32) (y2 : Int32) : Option (qS) :=
  (fCo_putInner S y1 y2).bind fun S1 =>
  some S1
def fX_setInner_40  (S : qS) (x2 : Int32) (y1 : Int32) : Option (qS) :=
  fX_setInner_41 S y1 x2
def fX_setInner  (S : qS) (a1 : Int32) (a2 : Int32) : Option (qS) :=
  (fCo_hasInner S a1).bind fun q1 =>
  if ¬ q1.1 = 0 then
    if ¬ a1 = 56 then
      fX_setInner_40 q1.2 a2 a1
    else
      if a2 = 0 then
        fX_setInner_40 q1.2 a2 a1
      else
        fX_setInner_41 q1.2 a1 1
  else
    none
def fCo_getInner_18  (S : qS) (y0 : Int32) : Option (Int32 × qS) :=
  some (y0, S)
def fCo_getInner  (S : qS) (a1 : Int32) : Option (Int32 × qS) :=
  (fCo_hasInner S a1).bind fun q1 =>
  if q1.1 = 0 then
    fCo_getInner_18 q1.2 0
  else
    chk (inb a1 57) <|
    fCo_getInner_18 q1.2 (gA q1.2 1 a1)
def fX_inner  (S : qS) (a1 : Int32) : Option (Int32 × qS) :=
  (fCo_hasInner S a1).bind fun q1 =>
  if ¬ q1.1 = 0 then
    (fCo_getInner q1.2 a1).bind fun q3 =>
    some (q3.1, q3.2)
  else
    none
def fX_begin  (S : qS) (a1 : Int32) : Option (qS) :=
  if (a1 &&& (-62914608)) = 0 then
    some (pI (pI S 6 a1) 0 0)
  else
    none
def fX_status  (S : qS) : Option (Int32 × qS) :=
  some (S.1 6, S)
def fCo_keep  (S : qS) : Option (qS) :=
  some (cpA (cpA (pI (pI (pI S 7 0) 10 0) 5 ((pI (pI S 7 0) 10 0).1 6)) 2 0 3 0 16) 1 0 4 0 4)
def fPg_pageOf  (S : qS) (a0 : Int32) : Option (Int32 × qS) :=
  some ((ushr a0 6) &&& 16777215, S)
def fPg_isThere_71  (S : qS) (y0 : Int32) : Option (Int32 × qS) :=
  chk (isB y0) (some (y0, S))
def fPg_isThere_63  (S : qS) (y0 : Int32) (y1 : Int32) : Option (Int32 × qS) :=
  if ¬ y0 = y1 then
    fPg_isThere_71 S 0
  else
    fPg_isThere_71 S 1
def fPg_isThere_49  (S : qS) (x1 : Int32) (y0 : Int32) : Option (Int32 × qS) :=
  if x1 = 1 then
    fPg_isThere_63 S y0 0
  else
    fPg_isThere_63 S y0 1
def fPg_isThere_44  (S : qS) (x1 : Int32) : Option (Int32 × qS) :=
  fPg_isThere_49 S x1 1
def fPg_isThere_33  (S : qS) (x1 : Int32) (x2 : Int32) (y1 : Int32) : Option (Int32 × qS) :=
  chk (inb y1 57) <|
  if (gA S 1 y1) < 0 then
    fPg_isThere_44 S x1
  else
    if (gA S 1 y1) ≤ x2 then
      fPg_isThere_49 S x1 0
    else
      fPg_isThere_44 S x1
def fPg_isThere  (S : qS) (a1 : Int32) (a2 : Int32) : Option (Int32 × qS) :=
  if a1 ≤ 2 then
    if ¬ a1 = 2 then
      if ¬ a1 = 1 then
        fPg_isThere_33 S a1 a2 9
      else
        fPg_isThere_33 S a1 a2 11
    else
      fPg_isThere_33 S a1 a2 13
  else
    chk (isB 0) (some (0, S))
def fPg_refusal  (S : qS) (a0 : Int32) (a1 : Int32) : Option (Int32 × qS) :=
  some (((-10) - (10 * a0)) - a1, S)
def fPg_isValid_9  (S : qS) (y0 : Int32) : Option (Int32 × qS) :=
  chk (isB y0) (some (y0, S))
def fPg_isValid  (S : qS) (a0 : Int32) : Option (Int32 × qS) :=
  if 0 ≤ a0 then
    fPg_isValid_9 S 0
  else
    fPg_isValid_9 S 1
def fPg_inFrame  (S : qS) (a0 : Int32) (a1 : Int32) : Option (Int32 × qS) :=
  some ((64 * (a0 &&& 31)) + (a1 &&& 63), S)
def fPg_grants_49  (S : qS) (y0 : Int32) : Option (Int32 × qS) :=
  chk (isB y0) (some (y0, S))
def fPg_grants_35  (S : qS) : Option (Int32 × qS) :=
  fPg_grants_49 S 0
def fPg_grants  (S : qS) (a0 : Int32) (a1 : Int32) (a2 : Int32) : Option (Int32 × qS) :=
  if a1 = 0 then
    if ((ushr a0 27) &&& 3) < a2 then
      fPg_grants_49 S 0
    else
      fPg_grants_49 S 1
  else
    if ((ushr a0 29) &&& 3) < a2 then
      fPg_grants_35 S
    else
      if ((ushr a0 27) &&& 3) < ((ushr a0 29) &&& 3) then
        fPg_grants_35 S
      else
        fPg_grants_49 S 1
def fPg_locate_189  (S : qS) (x1 : Int32) (x2 : Int32) (x3 : Int32) (x4 : Int32) (x7 : Int32) : Option (Int32 × qS) :=
  (fSt_longAt S x7).bind fun q1 =>
  (fPg_grants q1.2 q1.1 x2 x3).bind fun q2 =>
  if ¬ q2.1 = 0 then
    (fPg_isValid q2.2 q1.1).bind fun q4 =>
    if ¬ q4.1 = 0 then
      (fPg_inFrame (pI q4.2 4 (x7 &&& 2047)) q1.1 x1).bind fun q6 =>
      some (q6.1, q6.2)
    else
      (fPg_refusal q4.2 5 x4).bind fun q7 =>
      some (q7.1, q7.2)
  else
    (fPg_refusal q2.2 4 x4).bind fun q8 =>
    some (q8.1, q8.2)
def fPg_locate_130  (S : qS) (x4 : Int32) : Option (Int32 × qS) :=
  (fPg_refusal S 4 (3 + x4)).bind fun q1 =>
  some (q1.1, q1.2)
def fPg_locate_100  (S : qS) (x1 : Int32) (x2 : Int32) (x3 : Int32) (x4 : Int32) (x6 : Int32) (y1 : Int32) : Option (Int32 × qS) :=
  chk (inb y1 57) <|
  if ¬ (ushr ((gA S 1 y1) + (4 * x6)) 30) = 2 then
    fPg_locate_130 S x4
  else
    (fPg_pageOf S ((gA S 1 y1) + (4 * x6))).bind fun q3 =>
    (fPg_isThere q3.2 2 q3.1).bind fun q4 =>
    if ¬ q4.1 = 0 then
      (fPg_pageOf q4.2 ((gA S 1 y1) + (4 * x6))).bind fun q6 =>
      (fSt_longAt q6.2 ((gA q4.2 1 12) + (4 * q6.1))).bind fun q7 =>
      (fPg_isValid q7.2 q7.1).bind fun q8 =>
      if ¬ q8.1 = 0 then
        (fPg_inFrame q8.2 q7.1 ((gA S 1 y1) + (4 * x6))).bind fun q10 =>
        fPg_locate_189 q10.2 x1 x2 x3 x4 q10.1
      else
        (fPg_refusal q8.2 5 (2 + x4)).bind fun q11 =>
        some (q11.1, q11.2)
    else
      fPg_locate_130 q4.2 x4
def fPg_locate_30  (S : qS) (x1 : Int32) (x2 : Int32) (x3 : Int32) (y0 : Int32) : Option (Int32 × qS) :=
  (fPg_pageOf S x1).bind fun q1 =>
  (fPg_isThere q1.2 (ushr x1 30) q1.1).bind fun q2 =>
  if ¬ q2.1 = 0 then
    if (ushr x1 30) = 2 then
      fPg_locate_189 q2.2 x1 x2 x3 y0 ((gA q2.2 1 12) + (4 * q1.1))
    else
      if ¬ (ushr x1 30) = 0 then
        fPg_locate_100 q2.2 x1 x2 x3 y0 q1.1 10
      else
        fPg_locate_100 q2.2 x1 x2 x3 y0 q1.1 8
  else
    (fPg_refusal q2.2 4 (1 + y0)).bind fun q6 =>
    some (q6.1, q6.2)
def fPg_locate  (S : qS) (a1 : Int32) (a2 : Int32) (a3 : Int32) : Option (Int32 × qS) :=
  if ¬ (gA (pI S 4 (-1)) 1 56) = 0 then
    if a2 = 0 then
      fPg_locate_30 (pI S 4 (-1)) a1 a2 a3 0
    else
      fPg_locate_30 (pI S 4 (-1)) a1 a2 a3 4
  else
    some (a1 &&& 2047, (pI S 4 (-1)))
def fPg_faultOf  (S : qS) (a0 : Int32) : Option (Int32 × qS) :=
  some (((-10) - a0) / 10, S)
def fPg_flagOf  (S : qS) (a0 : Int32) : Option (Int32 × qS) :=
  some (((-10) - a0) - ((-10) - a0) / 10 * 10, S)
def fCo_refuse_28  (S : qS) : Option (qS) :=
  some S
def fCo_refuse  (S : qS) (a1 : Int32) (a2 : Int32) : Option (qS) :=
  if ¬ (S.1 7) = 0 then
    fCo_refuse_28 S
  else
    (fPg_faultOf S a1).bind fun q2 =>
    (fPg_flagOf (pI q2.2 7 q2.1) a1).bind fun q3 =>
    fCo_refuse_28 (pI (pI q3.2 9 q3.1) 8 a2)
def fSt_byteAt  (S : qS) (a1 : Int32) : Option (Int32 × qS) :=
  chk (inb (a1 &&& 2047) 2048) <|
  some ((gA S 0 (a1 &&& 2047)) &&& 255, S)
def fCo_read_78  (S : qS) (x3 : Int32) : Option (Int32 × qS) :=
  some (x3, S)
def fCo_read_72 (K5 : qS → Int32 → Int32 → Int32 → Int32 → Option (Int32 × qS)) (S : qS) (x1 : Int32) (x2 : Int32) (x3 : Int32) (x4 : Int32) : Option (Int32 × qS) :=
  K5 S x1 x2 x3 (x4 + 1)
def fCo_read_5 : Nat → qS → Int32 → Int32 → Int32 → Int32 → Option (Int32 × qS)
  | 0, _, _, _, _, _ => none
  | n + 1, S, x1, x2, x3, x4 =>
      if x2 ≤ x4 then
        fCo_read_78 S x3
      else
        if ¬ (S.1 7) = 0 then
          fCo_read_78 S x3
        else
          (fCo_mode S).bind fun q3 =>
          (fPg_locate q3.2 (x1 + x4) 0 q3.1).bind fun q4 =>
          if 0 ≤ q4.1 then
            (fSt_byteAt q4.2 q4.1).bind fun q6 =>
            fCo_read_72 (fCo_read_5 n) q6.2 x1 x2 (x3 ||| (q6.1 <<< ((8 * x4) &&& 31))) x4
          else
            (fCo_refuse q4.2 q4.1 (x1 + x4)).bind fun S7 =>
            fCo_read_72 (fCo_read_5 n) S7 x1 x2 x3 x4
def fCo_read  (S : qS) (a1 : Int32) (a2 : Int32) : Option (Int32 × qS) :=
  fCo_read_5 300 S a1 a2 0 0
def fCo_fetch  (S : qS) (a1 : Int32) : Option (Int32 × qS) :=
  (fCo_get S 15).bind fun q1 =>
  (fCo_read q1.2 q1.1 a1).bind fun q2 =>
  (fCo_get q2.2 15).bind fun q3 =>
  (fCo_put q3.2 15 (q3.1 + a1)).bind fun S4 =>
  some (q2.1, S4)
def fCd_isAllowed_47  (S : qS) (y0 : Int32) : Option (Int32 × qS) :=
  chk (isB y0) (some (y0, S))
def fCd_isAllowed_46  (S : qS) : Option (Int32 × qS) :=
  fCd_isAllowed_47 S 0
def fCd_isAllowed_42  (S : qS) : Option (Int32 × qS) :=
  fCd_isAllowed_47 S 1
def fCd_isAllowed_21  (S : qS) (x1 : Int32) (y0 : Int32) : Option (Int32 × qS) :=
  if 70 < x1 then
    fCd_isAllowed_46 S
  else
    if y0 = 0 then
      fCd_isAllowed_42 S
    else
      (fCo_mode S).bind fun q3 =>
      if ¬ q3.1 = 0 then
        fCd_isAllowed_46 q3.2
      else
        fCd_isAllowed_42 q3.2
def fCd_isAllowed_16  (S : qS) (x1 : Int32) : Option (Int32 × qS) :=
  fCd_isAllowed_21 S x1 1
def fCd_isAllowed  (S : qS) (a1 : Int32) : Option (Int32 × qS) :=
  if a1 = 0 then
    fCd_isAllowed_16 S a1
  else
    if a1 = 10 then
      fCd_isAllowed_16 S a1
    else
      if ¬ a1 = 11 then
        fCd_isAllowed_21 S a1 0
      else
        fCd_isAllowed_16 S a1
def fCo_raise_12  (S : qS) : Option (qS) :=
  some S
def fCo_raise  (S : qS) (a1 : Int32) : Option (qS) :=
  if ¬ (S.1 7) = 0 then
    fCo_raise_12 S
  else
    fCo_raise_12 (pI S 7 a1)
def fSp_isNoWay_17  (S : qS) (y0 : Int32) : Option (Int32 × qS) :=
  chk (isB y0) (some (y0, S))
def fSp_isNoWay_16  (S : qS) : Option (Int32 × qS) :=
  fSp_isNoWay_17 S 0
def fSp_isNoWay  (S : qS) (a0 : Int32) : Option (Int32 × qS) :=
  if a0 ≤ 11 then
    fSp_isNoWay_16 S
  else
    if 14 ≤ a0 then
      fSp_isNoWay_16 S
    else
      fSp_isNoWay_17 S 1
def fSp_isAddress_17  (S : qS) (y0 : Int32) : Option (Int32 × qS) :=
  chk (isB y0) (some (y0, S))
def fSp_isAddress_12  (S : qS) : Option (Int32 × qS) :=
  fSp_isAddress_17 S 1
def fSp_isAddress  (S : qS) (a0 : Int32) : Option (Int32 × qS) :=
  if a0 = 97 then
    fSp_isAddress_12 S
  else
    if ¬ a0 = 65 then
      fSp_isAddress_17 S 0
    else
      fSp_isAddress_12 S
def fSp_suits_42  (S : qS) : Option (Int32 × qS) :=
  chk (isB 0) (some (0, S))
def fSp_suits_98  (S : qS) (y0 : Int32) : Option (Int32 × qS) :=
  chk (isB y0) (some (y0, S))
def fSp_suits_93  (S : qS) : Option (Int32 × qS) :=
  fSp_suits_98 S 1
def fSp_suits_61  (S : qS) (y0 : Int32) : Option (Int32 × qS) :=
  chk (isB y0) (some (y0, S))
def fSp_suits_44  (S : qS) (x0 : Int32) (x1 : Int32) (x2 : Int32) : Option (Int32 × qS) :=
  if ¬ x0 = 5 then
    if ¬ x0 = 8 then
      fSp_suits_93 S
    else
      if ¬ x1 = 15 then
        fSp_suits_93 S
      else
        if x2 = 114 then
          fSp_suits_93 S
        else
          if x2 = 82 then
            fSp_suits_93 S
          else
            (fSp_isAddress S x2).bind fun q6 =>
            if q6.1 = 0 then
              fSp_suits_98 q6.2 0
            else
              fSp_suits_93 q6.2
  else
    (fSp_isAddress S x2).bind fun q8 =>
    if ¬ q8.1 = 0 then
      fSp_suits_61 q8.2 0
    else
      fSp_suits_61 q8.2 1
def fSp_suits_22  (S : qS) (y0 : Int32) : Option (Int32 × qS) :=
  chk (isB y0) (some (y0, S))
def fSp_suits_17  (S : qS) : Option (Int32 × qS) :=
  fSp_suits_22 S 1
def fSp_suits  (S : qS) (a0 : Int32) (a1 : Int32) (a2 : Int32) : Option (Int32 × qS) :=
  if 4 ≤ a0 then
    (fSp_isNoWay S a0).bind fun q2 =>
    if ¬ q2.1 = 0 then
      fSp_suits_42 q2.2
    else
      if 7 < a0 then
        fSp_suits_44 q2.2 a0 a1 a2
      else
        if ¬ a1 = 15 then
          fSp_suits_44 q2.2 a0 a1 a2
        else
          fSp_suits_42 q2.2
  else
    if a2 = 114 then
      fSp_suits_17 S
    else
      if ¬ a2 = 82 then
        fSp_suits_22 S 0
      else
        fSp_suits_17 S
def fSp_suitsBehindIndexed_30  (S : qS) (y0 : Int32) : Option (Int32 × qS) :=
  chk (isB y0) (some (y0, S))
def fSp_suitsBehindIndexed_29  (S : qS) : Option (Int32 × qS) :=
  fSp_suitsBehindIndexed_30 S 0
def fSp_suitsBehindIndexed_25  (S : qS) : Option (Int32 × qS) :=
  fSp_suitsBehindIndexed_30 S 1
def fSp_suitsBehindIndexed  (S : qS) (a0 : Int32) (a1 : Int32) : Option (Int32 × qS) :=
  if a0 < 6 then
    fSp_suitsBehindIndexed_29 S
  else
    (fSp_isNoWay S a0).bind fun q2 =>
    if ¬ q2.1 = 0 then
      fSp_suitsBehindIndexed_29 q2.2
    else
      if 8 < a0 then
        fSp_suitsBehindIndexed_25 q2.2
      else
        if a1 = 15 then
          fSp_suitsBehindIndexed_29 q2.2
        else
          fSp_suitsBehindIndexed_25 q2.2
def fSp_addressBy_40  (S : qS) (x4 : Int32) : Option (Int32 × qS) :=
  some (x4, S)
def fSp_addressBy_43  (S : qS) (x2 : Int32) (x3 : Int32) (x4 : Int32) : Option (Int32 × qS) :=
  (fCo_put S x2 (x4 - x3)).bind fun S1 =>
  some (x4 - x3, S1)
def fSp_addressBy_60  (S : qS) (x2 : Int32) (x3 : Int32) (x4 : Int32) : Option (Int32 × qS) :=
  (fCo_put S x2 (x4 + x3)).bind fun S1 =>
  some (x4, S1)
def fSp_addressBy_75  (S : qS) (x2 : Int32) (x4 : Int32) : Option (Int32 × qS) :=
  (fCo_put S x2 (x4 + 4)).bind fun S1 =>
  (fCo_read S1 x4 4).bind fun q2 =>
  some (q2.1, q2.2)
def fSp_addressBy_166  (S : qS) (y0 : Int32) : Option (Int32 × qS) :=
  some (y0, S)
def fSp_addressBy_151  (S : qS) (x6 : Int32) : Option (Int32 × qS) :=
  fSp_addressBy_166 S x6
def fSp_addressBy_124  (S : qS) (x1 : Int32) (x2 : Int32) (y0 : Int32) : Option (Int32 × qS) :=
  (fCo_get S x2).bind fun q1 =>
  if x1 = 10 then
    fSp_addressBy_151 q1.2 (q1.1 + y0)
  else
    if ¬ x1 = 14 then
      (fCo_read q1.2 (q1.1 + y0) 4).bind fun q4 =>
      fSp_addressBy_166 q4.2 q4.1
    else
      fSp_addressBy_151 q1.2 (q1.1 + y0)
def fSp_addressBy_98  (S : qS) (x1 : Int32) (x2 : Int32) : Option (Int32 × qS) :=
  if 14 ≤ x1 then
    (fCo_fetch S 4).bind fun q2 =>
    fSp_addressBy_124 q2.2 x1 x2 q2.1
  else
    (fCo_fetch S 1).bind fun q3 =>
    fSp_addressBy_124 q3.2 x1 x2 q3.1.toInt8.toInt32
def fSp_addressBy  (S : qS) (a1 : Int32) (a2 : Int32) (a3 : Int32) : Option (Int32 × qS) :=
  (fCo_get S a2).bind fun q1 =>
  if a1.toInt < 6 ∨ 9 < a1.toInt then
    fSp_addressBy_98 q1.2 a1 a2
  else
  if a1 = 6 then
    fSp_addressBy_40 q1.2 q1.1
  else
  if a1 = 7 then
    fSp_addressBy_43 q1.2 a2 a3 q1.1
  else
  if a1 = 8 then
    fSp_addressBy_60 q1.2 a2 a3 q1.1
  else
  if a1 = 9 then
    fSp_addressBy_75 q1.2 a2 q1.1
  else
  none
def fSp_isRead_29  (S : qS) (y0 : Int32) : Option (Int32 × qS) :=
  chk (isB y0) (some (y0, S))
def fSp_isRead_24  (S : qS) : Option (Int32 × qS) :=
  fSp_isRead_29 S 1
def fSp_isRead  (S : qS) (a0 : Int32) : Option (Int32 × qS) :=
  if a0 = 114 then
    fSp_isRead_24 S
  else
    if a0 = 82 then
      fSp_isRead_24 S
    else
      if a0 = 109 then
        fSp_isRead_24 S
      else
        if ¬ a0 = 77 then
          fSp_isRead_29 S 0
        else
          fSp_isRead_24 S
def fSp_find_278  (S : qS) : Option (qS) :=
  some S
def fSp_find_275  (S : qS) (ky0 : Nat) (y1 : Int32) : Option (qS) :=
  fSp_find_278 (pI S (14 + 4 * ky0) y1)
def fSp_find_248  (S : qS) (k1 : Nat) (x2 : Int32) : Option (qS) :=
  (fSp_isRead S x2).bind fun q1 =>
  if q1.1 = 0 then
    fSp_find_275 q1.2 k1 0
  else
    (fCo_read q1.2 (q1.2.1 (13 + 4 * k1)) (q1.2.1 (11 + 4 * k1))).bind fun q3 =>
    fSp_find_275 q3.2 k1 q3.1
def fSp_find_198  (S : qS) (k1 : Nat) (x2 : Int32) (x4 : Int32) (x5 : Int32) (x6 : Int32) : Option (qS) :=
  (fSp_addressBy S (ushr x6 4) (x6 &&& 15) (S.1 (11 + 4 * k1))).bind fun q1 =>
  if ¬ x4 = 4 then
    fSp_find_248 (pI q1.2 (13 + 4 * k1) q1.1) k1 x2
  else
    (fCo_get (pI q1.2 (13 + 4 * k1) q1.1) x5).bind fun q3 =>
    fSp_find_248 (pI q3.2 (13 + 4 * k1) (((pI q1.2 (13 + 4 * k1) q1.1).1 (13 + 4 * k1)) + (((pI q1.2 (13 + 4 * k1) q1.1).1 (11 + 4 * k1)) * q3.1))) k1 x2
def fSp_find_166  (S : qS) (k1 : Nat) (x2 : Int32) (x4 : Int32) (x5 : Int32) (y0 : Int32) : Option (qS) :=
  if ¬ x4 = 4 then
    fSp_find_198 S k1 x2 x4 x5 y0
  else
    (fSp_suitsBehindIndexed S (ushr y0 4) (y0 &&& 15)).bind fun q2 =>
    if ¬ q2.1 = 0 then
      fSp_find_198 q2.2 k1 x2 x4 x5 y0
    else
      (fCo_raise q2.2 3).bind fun S4 =>
      some S4
def fSp_find_142  (S : qS) (ky0 : Nat) (y1 : Int32) : Option (qS) :=
  fSp_find_278 (pI S (14 + 4 * ky0) y1)
def fSp_find_17  (S : qS) (k1 : Nat) (x2 : Int32) (ky0 : Nat) (y1 : Int32) : Option (qS) :=
  if ¬ x2 = 100 then
    (fCo_fetch (pI S (11 + 4 * ky0) y1) 1).bind fun q2 =>
    (fSp_suits q2.2 (ushr q2.1 4) (q2.1 &&& 15) x2).bind fun q3 =>
    if ¬ q3.1 = 0 then
      if 4 ≤ (ushr q2.1 4) then
        if ¬ (ushr q2.1 4) = 5 then
          if ¬ (ushr q2.1 4) = 4 then
            fSp_find_166 q3.2 k1 x2 (ushr q2.1 4) (q2.1 &&& 15) q2.1
          else
            (fCo_fetch q3.2 1).bind fun q8 =>
            fSp_find_166 q8.2 k1 x2 (ushr q2.1 4) (q2.1 &&& 15) q8.1
        else
          if ¬ ((pI q3.2 (12 + 4 * k1) (q2.1 &&& 15)).1 (11 + 4 * k1)) = 1 then
            (fCo_get (pI q3.2 (12 + 4 * k1) (q2.1 &&& 15)) (q2.1 &&& 15)).bind fun q10 =>
            fSp_find_142 q10.2 k1 q10.1
          else
            (fCo_get (pI q3.2 (12 + 4 * k1) (q2.1 &&& 15)) (q2.1 &&& 15)).bind fun q11 =>
            fSp_find_142 q11.2 k1 (q11.1 &&& 255)
      else
        fSp_find_278 (pI q3.2 (14 + 4 * k1) q2.1)
    else
      (fCo_raise q3.2 3).bind fun S12 =>
      fSp_find_278 S12
  else
    (fCo_fetch (pI S (11 + 4 * ky0) y1) 1).bind fun q13 =>
    some (pI q13.2 (14 + 4 * k1) q13.1.toInt8.toInt32)
def fSp_find  (S : qS) (k1 : Nat) (a2 : Int32) : Option (qS) :=
  if 97 ≤ a2 then
    fSp_find_17 (pI S (12 + 4 * k1) (-1)) k1 a2 k1 1
  else
    fSp_find_17 (pI S (12 + 4 * k1) (-1)) k1 a2 k1 4
def fCo_pop  (S : qS) : Option (Int32 × qS) :=
  (fCo_get S 14).bind fun q1 =>
  (fCo_read q1.2 q1.1 4).bind fun q2 =>
  (fCo_get q2.2 14).bind fun q3 =>
  (fCo_put q3.2 14 (q3.1 + 4)).bind fun S4 =>
  some (q2.1, S4)
def fCd_leaveException_55  (S : qS) : Option (qS) :=
  (fCo_raise S 2).bind fun S1 =>
  some S1
def fCd_leaveException  (S : qS) : Option (qS) :=
  (fCo_pop S).bind fun q1 =>
  (fCo_pop q1.2).bind fun q2 =>
  if ¬ (q2.1 &&& (-62914608)) = 0 then
    fCd_leaveException_55 q2.2
  else
    (fCo_mode q2.2).bind fun q4 =>
    if ((ushr q2.1 24) &&& 3) < q4.1 then
      fCd_leaveException_55 q4.2
    else
      if ((ushr q2.1 24) &&& 3) ≤ ((ushr q2.1 22) &&& 3) then
        (fCo_put q4.2 15 q1.1).bind fun S7 =>
        some (pI S7 6 q2.1)
      else
        fCd_leaveException_55 q4.2
def fCd_leaveFrame_196  (S : qS) (x1 : Int32) : Option (qS) :=
  some (pI S 6 (((S.1 6) &&& (-48)) ||| (x1 &&& 47)))
def fCd_leaveFrame_126 (K94 : qS → Int32 → Int32 → Option (qS)) (S : qS) (x1 : Int32) (x2 : Int32) : Option (qS) :=
  K94 S x1 (x2 + 1)
def fCd_leaveFrame_94 : Nat → qS → Int32 → Int32 → Option (qS)
  | 0, _, _, _ => none
  | n + 1, S, x1, x2 =>
      if 12 ≤ x2 then
        (fCo_get S 14).bind fun q2 =>
        (fCo_put q2.2 14 (q2.1 + (ushr x1 30))).bind fun S3 =>
        if (x1 &&& 536870912) = 0 then
          fCd_leaveFrame_196 S3 x1
        else
          (fCo_pop S3).bind fun q5 =>
          (fCo_get q5.2 14).bind fun q6 =>
          (fCo_put q6.2 14 (q6.1 + (4 * (q5.1 &&& 255)))).bind fun S7 =>
          fCd_leaveFrame_196 S7 x1
      else
        if ((ushr x1 (16 + x2)) &&& 1) = 0 then
          fCd_leaveFrame_126 (fCd_leaveFrame_94 n) S x1 x2
        else
          (fCo_pop S).bind fun q9 =>
          (fCo_put q9.2 x2 q9.1).bind fun S10 =>
          fCd_leaveFrame_126 (fCd_leaveFrame_94 n) S10 x1 x2
def fCd_leaveFrame  (S : qS) : Option (qS) :=
  (fCo_get S 13).bind fun q1 =>
  (fCo_put q1.2 14 (q1.1 + 4)).bind fun S2 =>
  (fCo_pop S2).bind fun q3 =>
  if (q3.1 &&& 65488) = 0 then
    (fCo_pop q3.2).bind fun q5 =>
    (fCo_put q5.2 12 q5.1).bind fun S6 =>
    (fCo_pop S6).bind fun q7 =>
    (fCo_put q7.2 13 q7.1).bind fun S8 =>
    (fCo_pop S8).bind fun q9 =>
    (fCo_put q9.2 15 q9.1).bind fun S10 =>
    fCd_leaveFrame_94 300 S10 q3.1 0
  else
    (fCo_raise q3.2 2).bind fun S11 =>
    some S11
def fCd_giveInner_26  (S : qS) : Option (qS) :=
  (fCo_raise S 2).bind fun S1 =>
  some S1
def fCd_giveInner_35  (S : qS) (x1 : Int32) (x2 : Int32) : Option (qS) :=
  (fCo_putInner S x1 x2).bind fun S1 =>
  some S1
def fCd_giveInner  (S : qS) (a1 : Int32) (a2 : Int32) : Option (qS) :=
  (fCo_hasInner S a1).bind fun q1 =>
  if q1.1 = 0 then
    fCd_giveInner_26 q1.2
  else
    if ¬ a1 = 56 then
      fCd_giveInner_35 q1.2 a1 a2
    else
      if a2 = 0 then
        fCd_giveInner_35 q1.2 a1 a2
      else
        if a2 = 1 then
          fCd_giveInner_35 q1.2 a1 a2
        else
          fCd_giveInner_26 q1.2
def fCo_setConditions_40  (S : qS) (y0 : Int32) (y1 : Int32) : Option (qS) :=
  some (pI S 6 (((S.1 6) &&& (-16)) ||| (y0 ||| y1)))
def fCo_setConditions_29  (S : qS) (x4 : Int32) (y0 : Int32) (y1 : Int32) : Option (qS) :=
  if x4 = 0 then
    fCo_setConditions_40 S (y0 ||| y1) 0
  else
    fCo_setConditions_40 S (y0 ||| y1) 1
def fCo_setConditions_19  (S : qS) (x3 : Int32) (x4 : Int32) (y0 : Int32) (y1 : Int32) : Option (qS) :=
  if x3 = 0 then
    fCo_setConditions_29 S x4 (y0 ||| y1) 0
  else
    fCo_setConditions_29 S x4 (y0 ||| y1) 2
def fCo_setConditions_10  (S : qS) (x2 : Int32) (x3 : Int32) (x4 : Int32) (y0 : Int32) : Option (qS) :=
  if x2 = 0 then
    fCo_setConditions_19 S x3 x4 y0 0
  else
    fCo_setConditions_19 S x3 x4 y0 4
def fCo_setConditions  (S : qS) (a1 : Int32) (a2 : Int32) (a3 : Int32) (a4 : Int32) : Option (qS) :=
  if a1 = 0 then
    fCo_setConditions_10 S a2 a3 a4 0
  else
    fCo_setConditions_10 S a2 a3 a4 8
def fCo_conclude_19  (S : qS) (x2 : Int32) (x3 : Int32) (y1 : Int32) (y2 : Int32) : Option (qS) :=
  (fCo_setConditions S y1 y2 x2 x3).bind fun S1 =>
  some S1
def fCo_conclude_10  (S : qS) (x1 : Int32) (x2 : Int32) (x3 : Int32) (y1 : Int32) : Option (qS) :=
  if ¬ x1 = 0 then
    fCo_conclude_19 S x2 x3 y1 0
  else
    fCo_conclude_19 S x2 x3 y1 1
def fCo_conclude  (S : qS) (a1 : Int32) (a2 : Int32) (a3 : Int32) : Option (qS) :=
  if 0 ≤ a1 then
    fCo_conclude_10 S a1 a2 a3 0
  else
    fCo_conclude_10 S a1 a2 a3 1
def fPg_markModified  (S : qS) (a1 : Int32) : Option (qS) :=
  (fSt_byteAt S (a1 + 3)).bind fun q1 =>
  (fSt_putByte q1.2 (a1 + 3) (q1.1 ||| 4)).bind fun S2 =>
  some S2
def fCo_write_163  (S : qS) : Option (qS) :=
  some S
def fCo_write_136 (K93 : qS → Int32 → Int32 → Int32 → Option (qS)) (S : qS) (x2 : Int32) (x3 : Int32) (x4 : Int32) : Option (qS) :=
  chk (inb x4 4) <|
  (fSt_putByte S (gA S 5 x4) (ushr x2 (8 * x4))).bind fun S2 =>
  K93 S2 x2 x3 (x4 + 1)
def fCo_write_93 : Nat → qS → Int32 → Int32 → Int32 → Option (qS)
  | 0, _, _, _, _ => none
  | n + 1, S, x2, x3, x4 =>
      if x3 ≤ x4 then
        fCo_write_163 S
      else
        if 4 ≤ x4 then
          fCo_write_163 S
        else
          if ¬ (S.1 7) = 0 then
            fCo_write_163 S
          else
            chk (inb x4 4) <|
            if (gA S 6 x4) < 0 then
              fCo_write_136 (fCo_write_93 n) S x2 x3 x4
            else
              chk (inb x4 4) <|
              (fPg_markModified S (gA S 6 x4)).bind fun S7 =>
              fCo_write_136 (fCo_write_93 n) S7 x2 x3 x4
def fCo_write_90  (S : qS) (x2 : Int32) (x3 : Int32) : Option (qS) :=
  fCo_write_93 300 S x2 x3 0
def fCo_write_84 (K3 : qS → Int32 → Int32 → Int32 → Int32 → Option (qS)) (S : qS) (x1 : Int32) (x2 : Int32) (x3 : Int32) (x4 : Int32) : Option (qS) :=
  K3 S x1 x2 x3 (x4 + 1)
def fCo_write_3 : Nat → qS → Int32 → Int32 → Int32 → Int32 → Option (qS)
  | 0, _, _, _, _, _ => none
  | n + 1, S, x1, x2, x3, x4 =>
      if x3 ≤ x4 then
        fCo_write_90 S x2 x3
      else
        if 4 ≤ x4 then
          fCo_write_90 S x2 x3
        else
          if ¬ (S.1 7) = 0 then
            fCo_write_90 S x2 x3
          else
            (fCo_mode S).bind fun q4 =>
            (fPg_locate q4.2 (x1 + x4) 1 q4.1).bind fun q5 =>
            chk (inb x4 4) <|
            chk (inb x4 4) <|
            chk (inb x4 4) <|
            if 0 ≤ (gA (pA (pA q5.2 5 x4 q5.1) 6 x4 ((pA q5.2 5 x4 q5.1).1 4)) 5 x4) then
              fCo_write_84 (fCo_write_3 n) (pA (pA q5.2 5 x4 q5.1) 6 x4 ((pA q5.2 5 x4 q5.1).1 4)) x1 x2 x3 x4
            else
              chk (inb x4 4) <|
              (fCo_refuse (pA (pA q5.2 5 x4 q5.1) 6 x4 ((pA q5.2 5 x4 q5.1).1 4)) (gA (pA (pA q5.2 5 x4 q5.1) 6 x4 ((pA q5.2 5 x4 q5.1).1 4)) 5 x4) (x1 + x4)).bind fun S11 =>
              fCo_write_84 (fCo_write_3 n) S11 x1 x2 x3 x4
def fCo_write  (S : qS) (a1 : Int32) (a2 : Int32) (a3 : Int32) : Option (qS) :=
  fCo_write_3 300 S a1 a2 a3 0
def fCd_store_82  (S : qS) : Option (qS) :=
  some S
def fCd_store  (S : qS) (k1 : Nat) (a2 : Int32) : Option (qS) :=
  if ¬ (S.1 (12 + 4 * k1)) = (-1) then
    if ¬ (S.1 (11 + 4 * k1)) = 1 then
      (fCo_put S (S.1 (12 + 4 * k1)) a2).bind fun S3 =>
      fCd_store_82 S3
    else
      (fCo_get S (S.1 (12 + 4 * k1))).bind fun q4 =>
      (fCo_put q4.2 (S.1 (12 + 4 * k1)) ((q4.1 &&& (-256)) ||| (a2 &&& 255))).bind fun S5 =>
      fCd_store_82 S5
  else
    (fCo_write S (S.1 (13 + 4 * k1)) a2 (S.1 (11 + 4 * k1))).bind fun S6 =>
    fCd_store_82 S6
def fCd_takeInner  (S : qS) (a1 : Int32) : Option (qS) :=
  (fCo_hasInner S a1).bind fun q1 =>
  if ¬ q1.1 = 0 then
    (fCo_getInner q1.2 a1).bind fun q3 =>
    (fCo_conclude q3.2 q3.1 0 0).bind fun S4 =>
    (fCd_store S4 1 q3.1).bind fun S5 =>
    some S5
  else
    (fCo_raise q1.2 2).bind fun S6 =>
    some S6
def fCd_shift_63  (S : qS) (x3 : Int32) (x4 : Int32) : Option (qS) :=
  (fCo_conclude S x3 x4 0).bind fun S1 =>
  (fCd_store S1 2 x3).bind fun S2 =>
  some S2
def fCd_shift_61  (S : qS) (x3 : Int32) (y0 : Int32) : Option (qS) :=
  fCd_shift_63 S x3 y0
def fCd_shift_37  (S : qS) (x3 : Int32) (y0 : Int32) : Option (qS) :=
  fCd_shift_63 S x3 y0
def fCd_shift  (S : qS) (a1 : Int32) (a2 : Int32) : Option (qS) :=
  if 0 ≤ a1 then
    if a1 ≤ 31 then
      if (lg_cmp (a2.toInt64 <<< (a1.toInt64 &&& 63)) ((a2 <<< (a1 &&& 31)).toInt64)) = 0 then
        fCd_shift_61 S (a2 <<< (a1 &&& 31)) 0
      else
        fCd_shift_61 S (a2 <<< (a1 &&& 31)) 1
    else
      if a2 = 0 then
        fCd_shift_37 S 0 0
      else
        fCd_shift_37 S 0 1
  else
    fCd_shift_63 S (a2 >>> ((if 31 < (-a1) then 31 else (-a1)) &&& 31)) 0
def fCo_push  (S : qS) (a1 : Int32) : Option (qS) :=
  (fCo_get S 14).bind fun q1 =>
  (fCo_write q1.2 (q1.1 - 4) a1 4).bind fun S2 =>
  (fCo_get S2 14).bind fun q3 =>
  (fCo_put q3.2 14 (q3.1 - 4)).bind fun S4 =>
  some S4
def fCd_enterFrame_258  (S : qS) (y1 : Int32) (y2 : Int32) : Option (qS) :=
  (fCo_put (pI S 6 (y1 ||| y2)) 15 (((pI S 6 (y1 ||| y2)).1 17) + 2)).bind fun S1 =>
  some S1
def fCd_enterFrame_106 (K76 : qS → Int32 → Int32 → Int32 → Int32 → Option (qS)) (S : qS) (x1 : Int32) (x2 : Int32) (x3 : Int32) (x4 : Int32) : Option (qS) :=
  K76 S x1 x2 x3 (x4 + (-1))
def fCd_enterFrame_76 : Nat → qS → Int32 → Int32 → Int32 → Int32 → Option (qS)
  | 0, _, _, _, _, _ => none
  | n + 1, S, x1, x2, x3, x4 =>
      if x4 < 0 then
        (fCo_get S 15).bind fun q2 =>
        (fCo_push q2.2 q2.1).bind fun S3 =>
        (fCo_get S3 13).bind fun q4 =>
        (fCo_push q4.2 q4.1).bind fun S5 =>
        (fCo_get S5 12).bind fun q6 =>
        (fCo_push q6.2 q6.1).bind fun S7 =>
        (fCo_push S7 ((((x3 <<< ((30 : Int32) &&& 31)) ||| 536870912) ||| ((x2 &&& 4095) <<< ((16 : Int32) &&& 31))) ||| ((S7.1 6) &&& 65535))).bind fun S8 =>
        (fCo_push S8 0).bind fun S9 =>
        (fCo_get S9 14).bind fun q10 =>
        (fCo_put q10.2 13 q10.1).bind fun S11 =>
        (fCo_put S11 12 x1).bind fun S12 =>
        if (x2 &&& 16384) = 0 then
          fCd_enterFrame_258 S12 ((S12.1 6) &&& (-48)) 0
        else
          fCd_enterFrame_258 S12 ((S12.1 6) &&& (-48)) 32
      else
        if ((ushr x2 x4) &&& 1) = 0 then
          fCd_enterFrame_106 (fCd_enterFrame_76 n) S x1 x2 x3 x4
        else
          (fCo_get S x4).bind fun q15 =>
          (fCo_push q15.2 q15.1).bind fun S16 =>
          fCd_enterFrame_106 (fCd_enterFrame_76 n) S16 x1 x2 x3 x4
def fCd_enterFrame  (S : qS) : Option (qS) :=
  (fCo_push S (S.1 14)).bind fun S1 =>
  (fCo_get S1 14).bind fun q2 =>
  (fCo_read q2.2 (q2.2.1 17) 2).bind fun q3 =>
  if (q3.1 &&& 45056) = 0 then
    (fCo_put q3.2 14 (q2.1 - (q2.1 &&& 3))).bind fun S5 =>
    fCd_enterFrame_76 300 S5 q2.1 q3.1 (q2.1 &&& 3) 11
  else
    (fCo_raise q3.2 2).bind fun S6 =>
    some S6
def fCo_previous  (S : qS) : Option (Int32 × qS) :=
  some ((ushr (S.1 6) 22) &&& 3, S)
def fCo_admits_47  (S : qS) : Option (Int32 × qS) :=
  chk (isB 1) (some (1, S))
def fCo_admits  (S : qS) (a1 : Int32) (a2 : Int32) (a3 : Int32) : Option (Int32 × qS) :=
  (fPg_locate S a1 a2 a3).bind fun q1 =>
  if q1.1 < 0 then
    (fPg_faultOf q1.2 q1.1).bind fun q3 =>
    if ¬ q3.1 = 4 then
      (fPg_flagOf q3.2 q1.1).bind fun q5 =>
      if (q5.1 &&& 2) = 0 then
        fCo_admits_47 q5.2
      else
        (fCo_refuse q5.2 q1.1 a1).bind fun S7 =>
        fCo_admits_47 S7
    else
      chk (isB 0) (some (0, q3.2))
  else
    chk (isB 1) (some (1, q1.2))
def fCd_probe_69  (S : qS) (y0 : Int32) : Option (qS) :=
  (fCo_setConditions S 0 y0 0 0).bind fun S1 =>
  some S1
def fCd_probe_68  (S : qS) : Option (qS) :=
  fCd_probe_69 S 0
def fCd_probe  (S : qS) (a1 : Int32) : Option (qS) :=
  (fCo_previous S).bind fun q1 =>
  (fCo_admits q1.2 (q1.2.1 21) a1 (if q1.1 < ((q1.2.1 14) &&& 3) then ((q1.2.1 14) &&& 3) else q1.1)).bind fun q2 =>
  if q2.1 = 0 then
    fCd_probe_68 q2.2
  else
    (fCo_admits q2.2 (((q1.2.1 21) + (q2.2.1 18)) - 1) a1 (if q1.1 < ((q1.2.1 14) &&& 3) then ((q1.2.1 14) &&& 3) else q1.1)).bind fun q4 =>
    if q4.1 = 0 then
      fCd_probe_68 q4.2
    else
      fCd_probe_69 q4.2 1
def fCd_moved_48  (S : qS) (x1 : Int32) : Option (Int32 × qS) :=
  some (x1.toInt8.toInt32, S)
def fCd_moved_60  (S : qS) (x1 : Int32) : Option (Int32 × qS) :=
  some (x1, S)
def fCd_moved_51  (S : qS) (x1 : Int32) : Option (Int32 × qS) :=
  some (-x1, S)
def fCd_moved_54  (S : qS) (x1 : Int32) : Option (Int32 × qS) :=
  some (x1 ^^^ (-1), S)
def fCd_moved_58  (S : qS) : Option (Int32 × qS) :=
  some (0, S)
def fCd_moved  (S : qS) (a0 : Int32) (a1 : Int32) : Option (Int32 × qS) :=
  if a0.toInt < 13 ∨ 20 < a0.toInt then
    fCd_moved_60 S a1
  else
  if a0 = 13 then
    fCd_moved_48 S a1
  else
  if a0 = 14 then
    fCd_moved_60 S a1
  else
  if a0 = 15 then
    fCd_moved_60 S a1
  else
  if a0 = 16 then
    fCd_moved_48 S a1
  else
  if a0 = 17 then
    fCd_moved_48 S a1
  else
  if a0 = 18 then
    fCd_moved_51 S a1
  else
  if a0 = 19 then
    fCd_moved_54 S a1
  else
  if a0 = 20 then
    fCd_moved_58 S
  else
  none
def fCo_has_14  (S : qS) (y0 : Int32) : Option (Int32 × qS) :=
  chk (isB y0) (some (y0, S))
def fCo_has  (S : qS) (a1 : Int32) : Option (Int32 × qS) :=
  if ((S.1 6) &&& a1) = 0 then
    fCo_has_14 S 0
  else
    fCo_has_14 S 1
def fCd_move_113  (S : qS) (x3 : Int32) (ky1 : Nat) : Option (qS) :=
  (fCd_store S ky1 x3).bind fun S1 =>
  some S1
def fCd_move_83  (S : qS) (x1 : Int32) (x3 : Int32) (x4 : Int32) (x5 : Int32) : Option (qS) :=
  (fCo_conclude S x3 x4 x5).bind fun S1 =>
  if ¬ x1 = 20 then
    fCd_move_113 S1 x3 1
  else
    fCd_move_113 S1 x3 0
def fCd_move_81  (S : qS) (x1 : Int32) (x3 : Int32) (x4 : Int32) (y0 : Int32) : Option (qS) :=
  fCd_move_83 S x1 x3 x4 y0
def fCd_move_42  (S : qS) (x1 : Int32) (x3 : Int32) (y0 : Int32) : Option (qS) :=
  (fCo_has S 1).bind fun q1 =>
  if ¬ x1 = 17 then
    if ¬ x1 = 18 then
      fCd_move_83 q1.2 x1 x3 y0 q1.1
    else
      if x3 = 0 then
        fCd_move_81 q1.2 x1 x3 y0 0
      else
        fCd_move_81 q1.2 x1 x3 y0 1
  else
    fCd_move_83 q1.2 x1 x3 y0 0
def fCd_move_41  (S : qS) (x1 : Int32) (x3 : Int32) : Option (qS) :=
  fCd_move_42 S x1 x3 0
def fCd_move_37  (S : qS) (x1 : Int32) (x3 : Int32) : Option (qS) :=
  fCd_move_42 S x1 x3 1
def fCd_move_25  (S : qS) (x1 : Int32) (x2 : Int32) (x3 : Int32) : Option (qS) :=
  if ¬ x1 = 18 then
    fCd_move_41 S x1 x3
  else
    if ¬ x2 = (-2147483648) then
      fCd_move_41 S x1 x3
    else
      fCd_move_37 S x1 x3
def fCd_move  (S : qS) (a1 : Int32) : Option (qS) :=
  (fCd_moved S a1 (S.1 14)).bind fun q1 =>
  if ¬ a1 = 17 then
    fCd_move_25 q1.2 a1 (S.1 14) q1.1
  else
    if ¬ q1.1 = (S.1 14) then
      fCd_move_37 q1.2 a1 q1.1
    else
      fCd_move_25 q1.2 a1 (S.1 14) q1.1
def fJI_compare_19  (S : qS) (y0 : Int32) : Option (Int32 × qS) :=
  some (y0, S)
def fJI_compare  (S : qS) (a0 : Int32) (a1 : Int32) : Option (Int32 × qS) :=
  if a1 ≤ a0 then
    if ¬ a0 = a1 then
      fJI_compare_19 S 1
    else
      fJI_compare_19 S 0
  else
    fJI_compare_19 S (-1)
def fJI_compareUnsigned  (S : qS) (a0 : Int32) (a1 : Int32) : Option (Int32 × qS) :=
  (fJI_compare S (a0 + (-2147483648)) (a1 + (-2147483648))).bind fun q1 =>
  some (q1.1, q1.2)
def fCd_compare_123  (S : qS) (y1 : Int32) (y2 : Int32) (y3 : Int32) (y4 : Int32) : Option (qS) :=
  (fCo_setConditions S y1 y2 y3 y4).bind fun S1 =>
  some S1
def fCd_compare_108  (S : qS) (x3 : Int32) (x4 : Int32) (y1 : Int32) (y2 : Int32) : Option (qS) :=
  (fJI_compareUnsigned S x3 x4).bind fun q1 =>
  if 0 ≤ q1.1 then
    fCd_compare_123 q1.2 y1 y2 0 0
  else
    fCd_compare_123 q1.2 y1 y2 0 1
def fCd_compare_97  (S : qS) (x3 : Int32) (x4 : Int32) (y1 : Int32) : Option (qS) :=
  if ¬ x3 = x4 then
    fCd_compare_108 S x3 x4 y1 0
  else
    fCd_compare_108 S x3 x4 y1 1
def fCd_compare_80  (S : qS) (x3 : Int32) (y0 : Int32) : Option (qS) :=
  if y0 ≤ x3 then
    fCd_compare_97 S x3 y0 0
  else
    fCd_compare_97 S x3 y0 1
def fCd_compare_40  (S : qS) (x1 : Int32) (x2 : Int32) (y0 : Int32) : Option (qS) :=
  if 23 ≤ x1 then
    if x2 = 0 then
      fCd_compare_80 S y0 (S.1 18)
    else
      fCd_compare_80 S y0 ((S.1 18).toInt8.toInt32)
  else
    (fCo_conclude S y0 0 0).bind fun S3 =>
    some S3
def fCd_compare_17  (S : qS) (x1 : Int32) (y0 : Int32) : Option (qS) :=
  if y0 = 0 then
    fCd_compare_40 S x1 y0 (S.1 14)
  else
    fCd_compare_40 S x1 y0 ((S.1 14).toInt8.toInt32)
def fCd_compare_12  (S : qS) (x1 : Int32) : Option (qS) :=
  fCd_compare_17 S x1 1
def fCd_compare  (S : qS) (a1 : Int32) : Option (qS) :=
  if a1 = 22 then
    fCd_compare_12 S a1
  else
    if ¬ a1 = 24 then
      fCd_compare_17 S a1 0
    else
      fCd_compare_12 S a1
def fCd_add_50  (S : qS) (x3 : Int64) (y1 : Int32) (y2 : Int32) (y3 : Int32) : Option (Int32 × qS) :=
  (fCo_conclude S y1 y2 y3).bind fun S1 =>
  some (x3.toInt32, S1)
def fCd_add_25  (S : qS) (x1 : Int32) (x2 : Int32) (x3 : Int64) (y1 : Int32) (y2 : Int32) : Option (Int32 × qS) :=
  if (lg_cmp ((x1.toInt64 &&& 4294967295) + (x2.toInt64 &&& 4294967295)) 4294967295) ≤ 0 then
    fCd_add_50 S x3 y1 y2 0
  else
    fCd_add_50 S x3 y1 y2 1
def fCd_add  (S : qS) (a1 : Int32) (a2 : Int32) : Option (Int32 × qS) :=
  if (lg_cmp (a1.toInt64 + a2.toInt64) (((a1.toInt64 + a2.toInt64).toInt32).toInt64)) = 0 then
    fCd_add_25 S a1 a2 (a1.toInt64 + a2.toInt64) ((a1.toInt64 + a2.toInt64).toInt32) 0
  else
    fCd_add_25 S a1 a2 (a1.toInt64 + a2.toInt64) ((a1.toInt64 + a2.toInt64).toInt32) 1
def fCd_subtract_38  (S : qS) (x3 : Int64) (y1 : Int32) (y2 : Int32) (y3 : Int32) : Option (Int32 × qS) :=
  (fCo_conclude S y1 y2 y3).bind fun S1 =>
  some (x3.toInt32, S1)
def fCd_subtract_25  (S : qS) (x1 : Int32) (x2 : Int32) (x3 : Int64) (y1 : Int32) (y2 : Int32) : Option (Int32 × qS) :=
  (fJI_compareUnsigned S x1 x2).bind fun q1 =>
  if 0 ≤ q1.1 then
    fCd_subtract_38 q1.2 x3 y1 y2 0
  else
    fCd_subtract_38 q1.2 x3 y1 y2 1
def fCd_subtract  (S : qS) (a1 : Int32) (a2 : Int32) : Option (Int32 × qS) :=
  if (lg_cmp (a1.toInt64 - a2.toInt64) (((a1.toInt64 - a2.toInt64).toInt32).toInt64)) = 0 then
    fCd_subtract_25 S a1 a2 (a1.toInt64 - a2.toInt64) ((a1.toInt64 - a2.toInt64).toInt32) 0
  else
    fCd_subtract_25 S a1 a2 (a1.toInt64 - a2.toInt64) ((a1.toInt64 - a2.toInt64).toInt32) 1
def fCd_multiply_25  (S : qS) (x3 : Int64) (y1 : Int32) (y2 : Int32) : Option (Int32 × qS) :=
  (fCo_conclude S y1 y2 0).bind fun S1 =>
  some (x3.toInt32, S1)
def fCd_multiply  (S : qS) (a1 : Int32) (a2 : Int32) : Option (Int32 × qS) :=
  if (lg_cmp (a1.toInt64 * a2.toInt64) (((a1.toInt64 * a2.toInt64).toInt32).toInt64)) = 0 then
    fCd_multiply_25 S (a1.toInt64 * a2.toInt64) ((a1.toInt64 * a2.toInt64).toInt32) 0
  else
    fCd_multiply_25 S (a1.toInt64 * a2.toInt64) ((a1.toInt64 * a2.toInt64).toInt32) 1
def fCd_divide_44  (S : qS) (x3 : Int32) (y0 : Int32) : Option (Int32 × qS) :=
  (fCo_conclude S y0 x3 0).bind fun S1 =>
  some (y0, S1)
def fCd_divide_32  (S : qS) (x1 : Int32) (x2 : Int32) (y0 : Int32) : Option (Int32 × qS) :=
  if y0 = 0 then
    chk (x2 != 0) <|
    fCd_divide_44 S y0 (x1 / x2)
  else
    fCd_divide_44 S y0 x1
def fCd_divide_27  (S : qS) (x1 : Int32) (x2 : Int32) : Option (Int32 × qS) :=
  fCd_divide_32 S x1 x2 1
def fCd_divide_31  (S : qS) (x1 : Int32) (x2 : Int32) : Option (Int32 × qS) :=
  fCd_divide_32 S x1 x2 0
def fCd_divide_12  (S : qS) (x1 : Int32) (x2 : Int32) : Option (Int32 × qS) :=
  if x2 = 0 then
    fCd_divide_27 S x1 x2
  else
    if ¬ x1 = (-2147483648) then
      fCd_divide_31 S x1 x2
    else
      if ¬ x2 = (-1) then
        fCd_divide_31 S x1 x2
      else
        fCd_divide_27 S x1 x2
def fCd_divide  (S : qS) (a1 : Int32) (a2 : Int32) : Option (Int32 × qS) :=
  if ¬ a2 = 0 then
    fCd_divide_12 S a1 a2
  else
    fCd_divide_12 (pI S 10 2) a1 a2
def fCd_bits  (S : qS) (a1 : Int32) : Option (Int32 × qS) :=
  (fCo_has S 1).bind fun q1 =>
  (fCo_conclude q1.2 a1 0 q1.1).bind fun S2 =>
  some (a1, S2)
def fCd_calculated_40  (S : qS) (x2 : Int32) (x3 : Int32) : Option (Int32 × qS) :=
  (fCd_add S x3 x2).bind fun q1 =>
  some (q1.1, q1.2)
def fCd_calculated_47  (S : qS) (x2 : Int32) (x3 : Int32) : Option (Int32 × qS) :=
  (fCd_subtract S x3 x2).bind fun q1 =>
  some (q1.1, q1.2)
def fCd_calculated_54  (S : qS) (x2 : Int32) (x3 : Int32) : Option (Int32 × qS) :=
  (fCd_multiply S x3 x2).bind fun q1 =>
  some (q1.1, q1.2)
def fCd_calculated_61  (S : qS) (x2 : Int32) (x3 : Int32) : Option (Int32 × qS) :=
  (fCd_divide S x3 x2).bind fun q1 =>
  some (q1.1, q1.2)
def fCd_calculated_68  (S : qS) (x2 : Int32) (x3 : Int32) : Option (Int32 × qS) :=
  (fCd_bits S (x3 ||| x2)).bind fun q1 =>
  some (q1.1, q1.2)
def fCd_calculated_76  (S : qS) (x2 : Int32) (x3 : Int32) : Option (Int32 × qS) :=
  (fCd_bits S (x3 &&& (x2 ^^^ (-1)))).bind fun q1 =>
  some (q1.1, q1.2)
def fCd_calculated_86  (S : qS) (x2 : Int32) (x3 : Int32) : Option (Int32 × qS) :=
  (fCd_bits S (x3 ^^^ x2)).bind fun q1 =>
  some (q1.1, q1.2)
def fCd_calculated  (S : qS) (a1 : Int32) (a2 : Int32) (a3 : Int32) : Option (Int32 × qS) :=
  if a1.toInt < 27 ∨ 32 < a1.toInt then
    fCd_calculated_86 S a2 a3
  else
  if a1 = 27 then
    fCd_calculated_40 S a2 a3
  else
  if a1 = 28 then
    fCd_calculated_47 S a2 a3
  else
  if a1 = 29 then
    fCd_calculated_54 S a2 a3
  else
  if a1 = 30 then
    fCd_calculated_61 S a2 a3
  else
  if a1 = 31 then
    fCd_calculated_68 S a2 a3
  else
  if a1 = 32 then
    fCd_calculated_76 S a2 a3
  else
  none
def fCd_calculate_118  (S : qS) : Option (qS) :=
  some S
def fCd_calculate_39  (S : qS) (y0 : Int32) : Option (qS) :=
  (fCd_store S 0 y0).bind fun S1 =>
  fCd_calculate_118 S1
def fCd_calculate  (S : qS) (a1 : Int32) : Option (qS) :=
  if 27 ≤ a1 then
    if 34 ≤ a1 then
      (fCd_calculated S (a1 - 7) (S.1 14) (S.1 18)).bind fun q3 =>
      (fCd_store q3.2 2 q3.1).bind fun S4 =>
      fCd_calculate_118 S4
    else
      (fCd_calculated S a1 (S.1 14) (S.1 18)).bind fun q5 =>
      (fCd_store q5.2 1 q5.1).bind fun S6 =>
      fCd_calculate_118 S6
  else
    if ¬ a1 = 25 then
      (fCd_subtract S (S.1 14) 1).bind fun q8 =>
      fCd_calculate_39 q8.2 q8.1
    else
      (fCd_add S (S.1 14) 1).bind fun q9 =>
      fCd_calculate_39 q9.2 q9.1
def fCd_handAddress_67  (S : qS) : Option (qS) :=
  some S
def fCd_handAddress_23  (S : qS) (x1 : Int32) (y0 : Int32) : Option (qS) :=
  (fCo_has S 1).bind fun q1 =>
  (fCo_conclude q1.2 y0 0 q1.1).bind fun S2 =>
  if 44 ≤ x1 then
    (fCo_push S2 y0).bind fun S4 =>
    fCd_handAddress_67 S4
  else
    (fCd_store S2 1 y0).bind fun S5 =>
    fCd_handAddress_67 S5
def fCd_handAddress  (S : qS) (a1 : Int32) : Option (qS) :=
  if ¬ a1 = 44 then
    fCd_handAddress_23 S a1 (S.1 13)
  else
    fCd_handAddress_23 S a1 (S.1 14)
def fCd_go_61  (S : qS) (y1 : Int32) (y2 : Int32) : Option (qS) :=
  (fCo_put S y1 y2).bind fun S1 =>
  some S1
def fCd_go_30  (S : qS) (x1 : Int32) (x2 : Int32) : Option (qS) :=
  if 48 ≤ x1 then
    fCd_go_61 S 15 (x2 + (S.1 14))
  else
    fCd_go_61 S 15 (S.1 13)
def fCd_go_22  (S : qS) (x1 : Int32) (x2 : Int32) : Option (qS) :=
  (fCo_push S x2).bind fun S1 =>
  fCd_go_30 S1 x1 x2
def fCd_go  (S : qS) (a1 : Int32) : Option (qS) :=
  (fCo_get S 15).bind fun q1 =>
  if a1 = 47 then
    fCd_go_22 q1.2 a1 q1.1
  else
    if ¬ a1 = 49 then
      fCd_go_30 q1.2 a1 q1.1
    else
      fCd_go_22 q1.2 a1 q1.1
def fCd_holds_83  (S : qS) (y0 : Int32) : Option (Int32 × qS) :=
  chk (isB y0) (some (y0, S))
def fCd_holds_75  (S : qS) (y0 : Int32) (y1 : Int32) : Option (Int32 × qS) :=
  if ¬ y0 = y1 then
    fCd_holds_83 S 0
  else
    fCd_holds_83 S 1
def fCd_holds_56  (S : qS) (x1 : Int32) : Option (Int32 × qS) :=
  (fCo_has S 4).bind fun q1 =>
  if ¬ x1 = 51 then
    fCd_holds_75 q1.2 q1.1 0
  else
    fCd_holds_75 q1.2 q1.1 1
def fCd_holds_112  (S : qS) (y0 : Int32) : Option (Int32 × qS) :=
  chk (isB y0) (some (y0, S))
def fCd_holds_104  (S : qS) (y0 : Int32) (y1 : Int32) : Option (Int32 × qS) :=
  if ¬ y0 = y1 then
    fCd_holds_112 S 0
  else
    fCd_holds_112 S 1
def fCd_holds_84  (S : qS) (x1 : Int32) : Option (Int32 × qS) :=
  (fCo_has S 12).bind fun q1 =>
  if ¬ x1 = 53 then
    fCd_holds_104 q1.2 q1.1 0
  else
    fCd_holds_104 q1.2 q1.1 1
def fCd_holds_141  (S : qS) (y0 : Int32) : Option (Int32 × qS) :=
  chk (isB y0) (some (y0, S))
def fCd_holds_133  (S : qS) (y0 : Int32) (y1 : Int32) : Option (Int32 × qS) :=
  if ¬ y0 = y1 then
    fCd_holds_141 S 0
  else
    fCd_holds_141 S 1
def fCd_holds_113  (S : qS) (x1 : Int32) : Option (Int32 × qS) :=
  (fCo_has S 8).bind fun q1 =>
  if ¬ x1 = 55 then
    fCd_holds_133 q1.2 q1.1 0
  else
    fCd_holds_133 q1.2 q1.1 1
def fCd_holds_169  (S : qS) (y0 : Int32) : Option (Int32 × qS) :=
  chk (isB y0) (some (y0, S))
def fCd_holds_161  (S : qS) (y0 : Int32) (y1 : Int32) : Option (Int32 × qS) :=
  if ¬ y0 = y1 then
    fCd_holds_169 S 0
  else
    fCd_holds_169 S 1
def fCd_holds_142  (S : qS) (x1 : Int32) : Option (Int32 × qS) :=
  (fCo_has S 5).bind fun q1 =>
  if ¬ x1 = 57 then
    fCd_holds_161 q1.2 q1.1 0
  else
    fCd_holds_161 q1.2 q1.1 1
def fCd_holds_197  (S : qS) (y0 : Int32) : Option (Int32 × qS) :=
  chk (isB y0) (some (y0, S))
def fCd_holds_189  (S : qS) (y0 : Int32) (y1 : Int32) : Option (Int32 × qS) :=
  if ¬ y0 = y1 then
    fCd_holds_197 S 0
  else
    fCd_holds_197 S 1
def fCd_holds_170  (S : qS) (x1 : Int32) : Option (Int32 × qS) :=
  (fCo_has S 2).bind fun q1 =>
  if ¬ x1 = 59 then
    fCd_holds_189 q1.2 q1.1 0
  else
    fCd_holds_189 q1.2 q1.1 1
def fCd_holds_225  (S : qS) (y0 : Int32) : Option (Int32 × qS) :=
  chk (isB y0) (some (y0, S))
def fCd_holds_217  (S : qS) (y0 : Int32) (y1 : Int32) : Option (Int32 × qS) :=
  if ¬ y0 = y1 then
    fCd_holds_225 S 0
  else
    fCd_holds_225 S 1
def fCd_holds_198  (S : qS) (x1 : Int32) : Option (Int32 × qS) :=
  (fCo_has S 1).bind fun q1 =>
  if ¬ x1 = 61 then
    fCd_holds_217 q1.2 q1.1 0
  else
    fCd_holds_217 q1.2 q1.1 1
def fCd_holds  (S : qS) (a1 : Int32) : Option (Int32 × qS) :=
  if a1.toInt < 50 ∨ 59 < a1.toInt then
    fCd_holds_198 S a1
  else
  if a1 = 50 then
    fCd_holds_56 S a1
  else
  if a1 = 51 then
    fCd_holds_56 S a1
  else
  if a1 = 52 then
    fCd_holds_84 S a1
  else
  if a1 = 53 then
    fCd_holds_84 S a1
  else
  if a1 = 54 then
    fCd_holds_113 S a1
  else
  if a1 = 55 then
    fCd_holds_113 S a1
  else
  if a1 = 56 then
    fCd_holds_142 S a1
  else
  if a1 = 57 then
    fCd_holds_142 S a1
  else
  if a1 = 58 then
    fCd_holds_170 S a1
  else
  if a1 = 59 then
    fCd_holds_170 S a1
  else
  none
def fCd_branch_97  (S : qS) : Option (qS) :=
  some S
def fCd_branch_93  (S : qS) (y1 : Int32) (y2 : Int32) (y3 : Int32) : Option (qS) :=
  (fCo_put S y1 (y2 + y3)).bind fun S1 =>
  fCd_branch_97 S1
def fCd_branch_52  (S : qS) (x2 : Int32) (y0 : Int32) : Option (qS) :=
  if y0 = 0 then
    fCd_branch_97 S
  else
    (fCo_get S 15).bind fun q2 =>
    if x2 = 0 then
      fCd_branch_93 q2.2 15 q2.1 (q2.2.1 14)
    else
      fCd_branch_93 q2.2 15 q2.1 (q2.2.1 18)
def fCd_branch_36  (S : qS) (x2 : Int32) (y0 : Int32) (y1 : Int32) : Option (qS) :=
  if ¬ y0 = y1 then
    fCd_branch_52 S x2 0
  else
    fCd_branch_52 S x2 1
def fCd_branch_11  (S : qS) (x1 : Int32) (y0 : Int32) : Option (qS) :=
  if y0 = 0 then
    (fCd_holds S x1).bind fun q2 =>
    fCd_branch_52 q2.2 y0 q2.1
  else
    if ¬ x1 = 62 then
      fCd_branch_36 S y0 ((S.1 14) &&& 1) 0
    else
      fCd_branch_36 S y0 ((S.1 14) &&& 1) 1
def fCd_branch  (S : qS) (a1 : Int32) : Option (qS) :=
  if a1 ≤ 61 then
    fCd_branch_11 S a1 0
  else
    fCd_branch_11 S a1 1
def fCd_count_214  (S : qS) : Option (qS) :=
  some S
def fCd_count_210  (S : qS) (y1 : Int32) (y2 : Int32) (y3 : Int32) : Option (qS) :=
  (fCo_put S y1 (y2 + y3)).bind fun S1 =>
  fCd_count_214 S1
def fCd_count_174  (S : qS) (x2 : Int32) : Option (qS) :=
  (fCo_get S 15).bind fun q1 =>
  if x2 = 0 then
    fCd_count_210 q1.2 15 q1.1 (q1.2.1 22)
  else
    fCd_count_210 q1.2 15 q1.1 (q1.2.1 18)
def fCd_count_162  (S : qS) (x2 : Int32) (x7 : Int32) (y0 : Int32) : Option (qS) :=
  if ¬ x7 = 0 then
    fCd_count_174 S x2
  else
    if y0 = 0 then
      fCd_count_214 S
    else
      fCd_count_174 S x2
def fCd_count_161  (S : qS) (x2 : Int32) (x7 : Int32) : Option (qS) :=
  fCd_count_162 S x2 x7 0
def fCd_count_154  (S : qS) (x2 : Int32) (x7 : Int32) (y0 : Int32) (y1 : Int32) : Option (qS) :=
  if ¬ y0 = y1 then
    fCd_count_161 S x2 x7
  else
    fCd_count_162 S x2 x7 1
def fCd_count_128  (S : qS) (x1 : Int32) (x2 : Int32) (x6 : Int32) (y0 : Int32) : Option (qS) :=
  if ¬ (x1 &&& 1) = 1 then
    fCd_count_161 S x2 y0
  else
    if x2 = 0 then
      fCd_count_154 S x2 y0 x6 (S.1 14)
    else
      fCd_count_154 S x2 y0 x6 0
def fCd_count_76  (S : qS) (x1 : Int32) (x2 : Int32) (k3 : Nat) (x6 : Int32) (y1 : Int32) (y2 : Int32) : Option (qS) :=
  (fCo_has S 1).bind fun q1 =>
  (fCo_conclude q1.2 y1 y2 q1.1).bind fun S2 =>
  (fCd_store S2 k3 x6).bind fun S3 =>
  if x2 = 0 then
    if (S3.1 14) ≤ x6 then
      fCd_count_128 S3 x1 x2 x6 0
    else
      fCd_count_128 S3 x1 x2 x6 1
  else
    if x6 ≤ 0 then
      fCd_count_128 S3 x1 x2 x6 0
    else
      fCd_count_128 S3 x1 x2 x6 1
def fCd_count_49  (S : qS) (x1 : Int32) (x2 : Int32) (k3 : Nat) (y0 : Int64) : Option (qS) :=
  if (lg_cmp y0 y0.toInt32.toInt64) = 0 then
    fCd_count_76 S x1 x2 k3 y0.toInt32 y0.toInt32 0
  else
    fCd_count_76 S x1 x2 k3 y0.toInt32 y0.toInt32 1
def fCd_count_27  (S : qS) (x1 : Int32) (x2 : Int32) (ky0 : Nat) : Option (qS) :=
  if x2 = 0 then
    fCd_count_49 S x1 x2 ky0 (((S.1 (14 + 4 * ky0)).toInt64) + 1)
  else
    fCd_count_49 S x1 x2 ky0 (((S.1 (14 + 4 * ky0)).toInt64) - 1)
def fCd_count_11  (S : qS) (x1 : Int32) (y0 : Int32) : Option (qS) :=
  if y0 = 0 then
    fCd_count_27 S x1 y0 1
  else
    fCd_count_27 S x1 y0 0
def fCd_count  (S : qS) (a1 : Int32) : Option (qS) :=
  if 66 ≤ a1 then
    fCd_count_11 S a1 0
  else
    fCd_count_11 S a1 1
def fCd_noteOverflow_75  (S : qS) : Option (qS) :=
  some S
def fCd_noteOverflow_29  (S : qS) (y0 : Int32) : Option (qS) :=
  if y0 = 0 then
    fCd_noteOverflow_75 S
  else
    if ¬ (S.1 10) = 0 then
      fCd_noteOverflow_75 S
    else
      (fCo_has S 32).bind fun q3 =>
      if q3.1 = 0 then
        fCd_noteOverflow_75 q3.2
      else
        (fCo_has q3.2 2).bind fun q5 =>
        if q5.1 = 0 then
          fCd_noteOverflow_75 q5.2
        else
          fCd_noteOverflow_75 (pI q5.2 10 1)
def fCd_noteOverflow_28  (S : qS) : Option (qS) :=
  fCd_noteOverflow_29 S 0
def fCd_noteOverflow_24  (S : qS) : Option (qS) :=
  fCd_noteOverflow_29 S 1
def fCd_noteOverflow_12  (S : qS) (x1 : Int32) : Option (qS) :=
  if x1 < 64 then
    fCd_noteOverflow_28 S
  else
    if 67 < x1 then
      fCd_noteOverflow_28 S
    else
      fCd_noteOverflow_24 S
def fCd_noteOverflow  (S : qS) (a1 : Int32) : Option (qS) :=
  if a1 < 17 then
    fCd_noteOverflow_12 S a1
  else
    if a1 ≤ 41 then
      fCd_noteOverflow_24 S
    else
      fCd_noteOverflow_12 S a1
def fCd_execute_376  (S : qS) (x1 : Int32) : Option (qS) :=
  (fCd_noteOverflow S x1).bind fun S1 =>
  some S1
def fCd_execute_100  (S : qS) (x1 : Int32) : Option (qS) :=
  (fCd_leaveException S).bind fun S1 =>
  fCd_execute_376 S1 x1
def fCd_execute_107  (S : qS) (x1 : Int32) : Option (qS) :=
  (fCo_raise S 6).bind fun S1 =>
  fCd_execute_376 S1 x1
def fCd_execute_119  (S : qS) (x1 : Int32) : Option (qS) :=
  (fCd_leaveFrame S).bind fun S1 =>
  fCd_execute_376 S1 x1
def fCd_execute_126  (S : qS) (x1 : Int32) : Option (qS) :=
  (fCo_pop S).bind fun q1 =>
  (fCo_put q1.2 15 q1.1).bind fun S2 =>
  fCd_execute_376 S2 x1
def fCd_execute_145  (S : qS) (x1 : Int32) : Option (qS) :=
  (fCd_giveInner S (S.1 18) (S.1 14)).bind fun S1 =>
  fCd_execute_376 S1 x1
def fCd_execute_166  (S : qS) (x1 : Int32) : Option (qS) :=
  (fCd_takeInner S (S.1 14)).bind fun S1 =>
  fCd_execute_376 S1 x1
def fCd_execute_180  (S : qS) (x1 : Int32) : Option (qS) :=
  (fCd_store S 0 (S.1 6)).bind fun S1 =>
  fCd_execute_376 S1 x1
def fCd_execute_198  (S : qS) (x1 : Int32) : Option (qS) :=
  (fCd_shift S ((S.1 14).toInt8.toInt32) (S.1 18)).bind fun S1 =>
  fCd_execute_376 S1 x1
def fCd_execute_220  (S : qS) (x1 : Int32) : Option (qS) :=
  (fCd_enterFrame S).bind fun S1 =>
  fCd_execute_376 S1 x1
def fCd_execute_239  (S : qS) (x1 : Int32) (y1 : Int32) : Option (qS) :=
  (fCd_probe S y1).bind fun S1 =>
  fCd_execute_376 S1 x1
def fCd_execute_227  (S : qS) (x1 : Int32) : Option (qS) :=
  if ¬ x1 = 70 then
    fCd_execute_239 S x1 0
  else
    fCd_execute_239 S x1 1
def fCd_execute_365  (S : qS) (x1 : Int32) : Option (qS) :=
  if x1 ≤ 63 then
    fCd_execute_376 S x1
  else
    (fCd_count S x1).bind fun S2 =>
    fCd_execute_376 S2 x1
def fCd_execute_345  (S : qS) (x1 : Int32) : Option (qS) :=
  if x1 ≤ 49 then
    fCd_execute_365 S x1
  else
    if 63 < x1 then
      fCd_execute_365 S x1
    else
      (fCd_branch S x1).bind fun S3 =>
      fCd_execute_376 S3 x1
def fCd_execute_325  (S : qS) (x1 : Int32) : Option (qS) :=
  if x1 ≤ 45 then
    fCd_execute_345 S x1
  else
    if 49 < x1 then
      fCd_execute_345 S x1
    else
      (fCd_go S x1).bind fun S3 =>
      fCd_execute_376 S3 x1
def fCd_execute_305  (S : qS) (x1 : Int32) : Option (qS) :=
  if x1 ≤ 41 then
    fCd_execute_325 S x1
  else
    if 45 < x1 then
      fCd_execute_325 S x1
    else
      (fCd_handAddress S x1).bind fun S3 =>
      fCd_execute_376 S3 x1
def fCd_execute_285  (S : qS) (x1 : Int32) : Option (qS) :=
  if x1 ≤ 24 then
    fCd_execute_305 S x1
  else
    if 41 ≤ x1 then
      fCd_execute_305 S x1
    else
      (fCd_calculate S x1).bind fun S3 =>
      fCd_execute_376 S3 x1
def fCd_execute_265  (S : qS) (x1 : Int32) : Option (qS) :=
  if x1 ≤ 20 then
    fCd_execute_285 S x1
  else
    if 24 < x1 then
      fCd_execute_285 S x1
    else
      (fCd_compare S x1).bind fun S3 =>
      fCd_execute_376 S3 x1
def fCd_execute_245  (S : qS) (x1 : Int32) : Option (qS) :=
  if x1 < 13 then
    fCd_execute_265 S x1
  else
    if 20 < x1 then
      fCd_execute_265 S x1
    else
      (fCd_move S x1).bind fun S3 =>
      fCd_execute_376 S3 x1
def fCd_execute  (S : qS) (a1 : Int32) : Option (qS) :=
  if a1 = 2 then
    fCd_execute_100 S a1
  else
  if a1 = 3 then
    fCd_execute_107 S a1
  else
  if a1 = 4 then
    fCd_execute_119 S a1
  else
  if a1 = 5 then
    fCd_execute_126 S a1
  else
  if a1 = 10 then
    fCd_execute_145 S a1
  else
  if a1 = 11 then
    fCd_execute_166 S a1
  else
  if a1 = 12 then
    fCd_execute_180 S a1
  else
  if a1 = 41 then
    fCd_execute_198 S a1
  else
  if a1 = 68 then
    fCd_execute_220 S a1
  else
  if a1 = 69 then
    fCd_execute_227 S a1
  else
  if a1 = 70 then
    fCd_execute_227 S a1
  else
  fCd_execute_245 S a1
def fCo_takeBack  (S : qS) : Option (qS) :=
  some (cpA (cpA (pI S 6 (S.1 5)) 3 0 2 0 16) 4 0 1 0 4)
def fX_except_110  (S : qS) (x1 : Int32) : Option (qS) :=
  if (S.1 7) = 0 then
    (fSt_longAt S ((gA S 1 17) + (4 * x1))).bind fun q2 =>
    (fCo_put q2.2 15 q2.1).bind fun S3 =>
    some S3
  else
    (fCo_takeBack S).bind fun S4 =>
    some (pI S4 0 2)
def fX_except_96  (S : qS) (x1 : Int32) (x3 : Int32) (x5 : Int32) : Option (qS) :=
  if x3 ≤ 1 then
    fX_except_110 S x1
  else
    (fCo_push S x5).bind fun S2 =>
    fX_except_110 S2 x1
def fX_except  (S : qS) (a1 : Int32) (a2 : Int32) (a3 : Int32) (a4 : Int32) (a5 : Int32) : Option (qS) :=
  (fCo_mode (pI (pI (pI S 2 a1) 3 (((pI S 2 a1).1 3) + 1)) 7 0)).bind fun q1 =>
  (fCo_push (pI q1.2 6 ((a2 <<< ((24 : Int32) &&& 31)) ||| (q1.1 <<< ((22 : Int32) &&& 31)))) ((pI (pI (pI S 2 a1) 3 (((pI S 2 a1).1 3) + 1)) 7 0).1 6)).bind fun S2 =>
  (fCo_get S2 15).bind fun q3 =>
  (fCo_push q3.2 q3.1).bind fun S4 =>
  if a3 ≤ 0 then
    fX_except_96 S4 a1 a3 a5
  else
    (fCo_push S4 a4).bind fun S6 =>
    fX_except_96 S6 a1 a3 a5
def fX_reach_9  (S : qS) : Option (Int32 × qS) :=
  none
def fX_reach  (S : qS) (a1 : Int32) (a2 : Int32) (a3 : Int32) : Option (Int32 × qS) :=
  if a3 < 0 then
    fX_reach_9 S
  else
    if a3 < 4 then
      (fPg_locate S a1 a2 a3).bind fun q3 =>
      some (q3.1, q3.2)
    else
      fX_reach_9 S
def fX_state_32  (S : qS) : Option (Int32 × qS) :=
  some (S.1 0, S)
def fX_state_37  (S : qS) : Option (Int32 × qS) :=
  some (S.1 1, S)
def fX_state_42  (S : qS) : Option (Int32 × qS) :=
  some (S.1 2, S)
def fX_state_47  (S : qS) : Option (Int32 × qS) :=
  some (S.1 3, S)
def fX_state_52  (S : qS) : Option (Int32 × qS) :=
  some ((-1), S)
def fX_state  (S : qS) (a1 : Int32) : Option (Int32 × qS) :=
  if a1.toInt < 0 ∨ 3 < a1.toInt then
    fX_state_52 S
  else
  if a1 = 0 then
    fX_state_32 S
  else
  if a1 = 1 then
    fX_state_37 S
  else
  if a1 = 2 then
    fX_state_42 S
  else
  if a1 = 3 then
    fX_state_47 S
  else
  none
def fM_thrown  (S : qS) : Option (Int32 × qS) :=
  some (S.1 0, S)
def fM_fill_8 : Nat → qS → Int32 → Int64 → Int32 → Option (qS)
  | 0, _, _, _, _ => none
  | n + 1, S, x1, x2, x4 =>
      if 8 ≤ x4 then
        some S
      else
        chk (inb ((x1 + x4) &&& 2047) 2048) <|
        (fM_fill_8 n) (pA S 0 ((x1 + x4) &&& 2047) (((x2 >>> ((8 * x4).toInt64 &&& 63)) &&& 255).toInt32)) x1 x2 (x4 + 1)
def fM_fill  (S : qS) (a1 : Int32) (a2 : Int64) : Option (qS) :=
  fM_fill_8 300 (pI S 0 0) a1 a2 0
def fM_bare_11 : Nat → qS → Int32 → Int32 → Int32 → Option (Int32 × qS)
  | 0, _, _, _, _ => none
  | n + 1, S, x2, x3, x4 =>
      if x4 < 0 then
        some (x3, S)
      else
        chk (inb ((x2 + x4) &&& 2047) 2048) <|
        (fM_bare_11 n) S x2 ((x3 <<< ((8 : Int32) &&& 31)) ||| (gA S 0 ((x2 + x4) &&& 2047))) (x4 + (-1))
def fM_bare  (S : qS) (a1 : Int32) : Option (Int32 × qS) :=
  fM_bare_11 300 S (a1 &&& 2047) 0 3
def fM_look  (S : qS) (a1 : Int32) : Option (Int32 × qS) :=
  (fM_bare (pI S 0 0) a1).bind fun q1 =>
  some (q1.1, q1.2)
def fM_mode  (S : qS) : Option (Int32 × qS) :=
  some (((S.1 1) >>> ((24 : Int32) &&& 31)) &&& 3, S)
def fM_put_26  (S : qS) : Option (qS) :=
  some S
def fM_put  (S : qS) (a1 : Int32) (a2 : Int32) : Option (qS) :=
  if ¬ a1 = 14 then
    chk (inb a1 16) <|
    fM_put_26 (pA S 1 a1 a2)
  else
    (fM_mode S).bind fun q3 =>
    chk (inb q3.1 57) <|
    fM_put_26 (pA q3.2 2 q3.1 a2)
def fM_set_32  (S : qS) : Option (qS) :=
  some S
def fM_set_16  (S : qS) (x1 : Int32) (x2 : Int32) (y1 : Int32) : Option (qS) :=
  if ¬ ((pI S 0 y1).1 0) = 0 then
    fM_set_32 (pI S 0 y1)
  else
    (fM_put (pI S 0 y1) x1 x2).bind fun S2 =>
    fM_set_32 S2
def fM_set_11  (S : qS) (x1 : Int32) (x2 : Int32) : Option (qS) :=
  fM_set_16 S x1 x2 1
def fM_set  (S : qS) (a1 : Int32) (a2 : Int32) : Option (qS) :=
  if a1 < 0 then
    fM_set_11 S a1 a2
  else
    if a1 ≤ 15 then
      fM_set_16 S a1 a2 0
    else
      fM_set_11 S a1 a2
def fM_fail  (S : qS) (a1 : Int32) : Option (Int32 × qS) :=
  some (0, (pI S 0 a1))
def fM_get_24  (S : qS) (y0 : Int32) : Option (Int32 × qS) :=
  some (y0, S)
def fM_get  (S : qS) (a1 : Int32) : Option (Int32 × qS) :=
  if ¬ a1 = 14 then
    chk (inb a1 16) <|
    fM_get_24 S (gA S 1 a1)
  else
    (fM_mode S).bind fun q3 =>
    chk (inb q3.1 57) <|
    fM_get_24 q3.2 (gA q3.2 2 q3.1)
def fM_register_10  (S : qS) : Option (Int32 × qS) :=
  (fM_fail S 1).bind fun q1 =>
  some (q1.1, q1.2)
def fM_register  (S : qS) (a1 : Int32) : Option (Int32 × qS) :=
  if a1 < 0 then
    fM_register_10 S
  else
    if a1 ≤ 15 then
      (fM_get (pI S 0 0) a1).bind fun q3 =>
      some (q3.1, q3.2)
    else
      fM_register_10 S
def fM_isInner_38  (S : qS) (y0 : Int32) : Option (Int32 × qS) :=
  chk (isB y0) (some (y0, S))
def fM_isInner_33  (S : qS) : Option (Int32 × qS) :=
  fM_isInner_38 S 1
def fM_isInner_21  (S : qS) (x0 : Int32) : Option (Int32 × qS) :=
  if x0 = 17 then
    fM_isInner_33 S
  else
    if ¬ x0 = 56 then
      fM_isInner_38 S 0
    else
      fM_isInner_33 S
def fM_isInner_9  (S : qS) (x0 : Int32) : Option (Int32 × qS) :=
  if x0 ≤ 7 then
    fM_isInner_21 S x0
  else
    if x0 < 14 then
      fM_isInner_33 S
    else
      fM_isInner_21 S x0
def fM_isInner  (S : qS) (a0 : Int32) : Option (Int32 × qS) :=
  if a0 < 0 then
    fM_isInner_9 S a0
  else
    if a0 < 4 then
      fM_isInner_33 S
    else
      fM_isInner_9 S a0
def fM_setInner_44  (S : qS) : Option (qS) :=
  some S
def fM_setInner_43  (S : qS) (y1 : Int32) (y2 : Int32) : Option (qS) :=
  chk (inb y1 57) <|
  fM_setInner_44 (pA S 2 y1 y2)
def fM_setInner_42  (S : qS) (x2 : Int32) (y1 : Int32) : Option (qS) :=
  fM_setInner_43 S y1 x2
def fM_setInner_13  (S : qS) (x1 : Int32) (x2 : Int32) (y1 : Int32) : Option (qS) :=
  if ¬ ((pI S 0 y1).1 0) = 0 then
    fM_setInner_44 (pI S 0 y1)
  else
    if ¬ x1 = 56 then
      fM_setInner_42 (pI S 0 y1) x2 x1
    else
      if x2 = 0 then
        fM_setInner_42 (pI S 0 y1) x2 x1
      else
        fM_setInner_43 (pI S 0 y1) x1 1
def fM_setInner  (S : qS) (a1 : Int32) (a2 : Int32) : Option (qS) :=
  (fM_isInner S a1).bind fun q1 =>
  if q1.1 = 0 then
    fM_setInner_13 q1.2 a1 a2 1
  else
    fM_setInner_13 q1.2 a1 a2 0
def fM_inner  (S : qS) (a1 : Int32) : Option (Int32 × qS) :=
  (fM_isInner S a1).bind fun q1 =>
  if ¬ q1.1 = 0 then
    chk (inb a1 57) <|
    some (gA (pI q1.2 0 0) 2 a1, (pI q1.2 0 0))
  else
    (fM_fail q1.2 1).bind fun q4 =>
    some (q4.1, q4.2)
def fM_begin_40  (S : qS) : Option (qS) :=
  some S
def fM_begin_28  (S : qS) : Option (qS) :=
  if ¬ (S.1 0) = 0 then
    fM_begin_40 S
  else
    fM_begin_40 (pI S 2 0)
def fM_begin_13  (S : qS) (x1 : Int32) (y1 : Int32) : Option (qS) :=
  if ¬ ((pI S 0 y1).1 0) = 0 then
    fM_begin_28 (pI S 0 y1)
  else
    fM_begin_28 (pI (pI S 0 y1) 1 x1)
def fM_begin  (S : qS) (a1 : Int32) : Option (qS) :=
  if (a1 &&& (-62914608)) = 0 then
    fM_begin_13 S a1 0
  else
    fM_begin_13 S a1 1
def fM_status  (S : qS) : Option (Int32 × qS) :=
  some ((pI S 0 0).1 1, (pI S 0 0))
def fM_keep_28 : Nat → qS → Int32 → Option (qS)
  | 0, _, _ => none
  | n + 1, S, x1 =>
      if 4 ≤ x1 then
        some (pI S 6 (S.1 1))
      else
        chk (inb x1 57) <|
        chk (inb x1 4) <|
        (fM_keep_28 n) (pA S 4 x1 (gA S 2 x1)) (x1 + 1)
def fM_keep_2 : Nat → qS → Int32 → Option (qS)
  | 0, _, _ => none
  | n + 1, S, x1 =>
      if 16 ≤ x1 then
        fM_keep_28 300 S 0
      else
        chk (inb x1 16) <|
        chk (inb x1 16) <|
        (fM_keep_2 n) (pA S 3 x1 (gA S 1 x1)) (x1 + 1)
def fM_keep  (S : qS) : Option (qS) :=
  fM_keep_2 300 S 0
def fM_below_16  (S : qS) (y0 : Int32) : Option (Int32 × qS) :=
  chk (isB y0) (some (y0, S))
def fM_below  (S : qS) (a0 : Int32) (a1 : Int32) : Option (Int32 × qS) :=
  if (a1 ^^^ (-2147483648)) ≤ (a0 ^^^ (-2147483648)) then
    fM_below_16 S 0
  else
    fM_below_16 S 1
def fM_find_357  (S : qS) (y0 : Int32) : Option (Int32 × qS) :=
  some (y0, S)
def fM_find_331  (S : qS) (x1 : Int32) (x4 : Int32) (x8 : Int32) : Option (Int32 × qS) :=
  if x8 < 0 then
    fM_find_357 S ((64 * (x8 &&& 31)) + (x1 &&& 63))
  else
    fM_find_357 S ((-60) - x4)
def fM_find_325  (S : qS) (x4 : Int32) : Option (Int32 × qS) :=
  some ((-50) - x4, S)
def fM_find_271  (S : qS) (x1 : Int32) (x2 : Int32) (x3 : Int32) (x4 : Int32) : Option (Int32 × qS) :=
  (fM_bare S (S.1 11)).bind fun q1 =>
  if x2 = 0 then
    if x3 ≤ ((q1.1 >>> ((27 : Int32) &&& 31)) &&& 3) then
      fM_find_331 q1.2 x1 x4 q1.1
    else
      fM_find_325 q1.2 x4
  else
    if ((q1.1 >>> ((27 : Int32) &&& 31)) &&& 3) < ((q1.1 >>> ((29 : Int32) &&& 31)) &&& 3) then
      fM_find_325 q1.2 x4
    else
      if x3 ≤ ((q1.1 >>> ((29 : Int32) &&& 31)) &&& 3) then
        fM_find_331 q1.2 x1 x4 q1.1
      else
        fM_find_325 q1.2 x4
def fM_find_214  (S : qS) (x4 : Int32) : Option (Int32 × qS) :=
  some ((-53) - x4, S)
def fM_find_122  (S : qS) (x1 : Int32) (x2 : Int32) (x3 : Int32) (x4 : Int32) (x5 : Int32) (x6 : Int32) (y0 : Int32) : Option (Int32 × qS) :=
  if ¬ y0 = 0 then
    if 2 ≤ x5 then
      fM_find_271 (pI S 11 (((gA S 2 12) + (4 * x6)) &&& 2047)) x1 x2 x3 x4
    else
      chk (inb (8 + (2 * x5)) 57) <|
      if ¬ (ushr ((gA (pI S 11 (((gA S 2 12) + (4 * x6)) &&& 2047)) 2 (8 + (2 * x5))) + (4 * x6)) 30) = 2 then
        fM_find_214 (pI S 11 (((gA S 2 12) + (4 * x6)) &&& 2047)) x4
      else
        (fM_below (pI S 11 (((gA S 2 12) + (4 * x6)) &&& 2047)) ((ushr ((gA (pI S 11 (((gA S 2 12) + (4 * x6)) &&& 2047)) 2 (8 + (2 * x5))) + (4 * x6)) 6) &&& 16777215) (gA (pI S 11 (((gA S 2 12) + (4 * x6)) &&& 2047)) 2 13)).bind fun q5 =>
        if ¬ q5.1 = 0 then
          (fM_bare q5.2 ((gA q5.2 2 12) + (4 * ((ushr ((gA (pI S 11 (((gA S 2 12) + (4 * x6)) &&& 2047)) 2 (8 + (2 * x5))) + (4 * x6)) 6) &&& 16777215)))).bind fun q7 =>
          if q7.1 < 0 then
            fM_find_271 (pI q7.2 11 (((64 * (q7.1 &&& 31)) + (((gA (pI S 11 (((gA S 2 12) + (4 * x6)) &&& 2047)) 2 (8 + (2 * x5))) + (4 * x6)) &&& 63)) &&& 2047)) x1 x2 x3 x4
          else
            some ((-62) - x4, q7.2)
        else
          fM_find_214 q5.2 x4
  else
    some ((-51) - x4, S)
def fM_find_121  (S : qS) (x1 : Int32) (x2 : Int32) (x3 : Int32) (x4 : Int32) (x5 : Int32) (x6 : Int32) : Option (Int32 × qS) :=
  fM_find_122 S x1 x2 x3 x4 x5 x6 0
def fM_find_30  (S : qS) (x1 : Int32) (x2 : Int32) (x3 : Int32) (y0 : Int32) : Option (Int32 × qS) :=
  if ¬ (ushr x1 30) = 0 then
    if ¬ (ushr x1 30) = 1 then
      if ¬ (ushr x1 30) = 2 then
        fM_find_121 S x1 x2 x3 y0 (ushr x1 30) ((ushr x1 6) &&& 16777215)
      else
        (fM_below S ((ushr x1 6) &&& 16777215) (gA S 2 13)).bind fun q4 =>
        if q4.1 = 0 then
          fM_find_121 q4.2 x1 x2 x3 y0 (ushr x1 30) ((ushr x1 6) &&& 16777215)
        else
          fM_find_122 q4.2 x1 x2 x3 y0 (ushr x1 30) ((ushr x1 6) &&& 16777215) 1
    else
      (fM_below S ((ushr x1 6) &&& 16777215) (gA S 2 11)).bind fun q6 =>
      if ¬ q6.1 = 0 then
        fM_find_122 q6.2 x1 x2 x3 y0 (ushr x1 30) ((ushr x1 6) &&& 16777215) 0
      else
        fM_find_122 q6.2 x1 x2 x3 y0 (ushr x1 30) ((ushr x1 6) &&& 16777215) 1
  else
    (fM_below S ((ushr x1 6) &&& 16777215) (gA S 2 9)).bind fun q8 =>
    fM_find_122 q8.2 x1 x2 x3 y0 (ushr x1 30) ((ushr x1 6) &&& 16777215) q8.1
def fM_find  (S : qS) (a1 : Int32) (a2 : Int32) (a3 : Int32) : Option (Int32 × qS) :=
  if ¬ (gA (pI S 11 (-1)) 2 56) = 0 then
    if a2 = 0 then
      fM_find_30 (pI S 11 (-1)) a1 a2 a3 0
    else
      fM_find_30 (pI S 11 (-1)) a1 a2 a3 4
  else
    some (a1 &&& 2047, (pI S 11 (-1)))
def fM_wrong  (S : qS) (a1 : Int32) (a2 : Int32) (a3 : Int32) : Option (qS) :=
  if (S.1 7) = 0 then
    some (pI (pI (pI S 7 a1) 8 a2) 9 a3)
  else
    some S
def fM_readByte_55  (S : qS) (y0 : Int32) : Option (Int32 × qS) :=
  some (y0, S)
def fM_readByte_45  (S : qS) : Option (Int32 × qS) :=
  fM_readByte_55 S 0
def fM_readByte_34  (S : qS) (x2 : Int32) : Option (Int32 × qS) :=
  if x2 < 0 then
    fM_readByte_45 S
  else
    if (S.1 7) = 0 then
      chk (inb x2 2048) <|
      fM_readByte_55 S (gA S 0 x2)
    else
      fM_readByte_45 S
def fM_readByte  (S : qS) (a1 : Int32) : Option (Int32 × qS) :=
  (fM_mode S).bind fun q1 =>
  (fM_find q1.2 a1 0 q1.1).bind fun q2 =>
  if 0 ≤ q2.1 then
    fM_readByte_34 q2.2 q2.1
  else
    (fM_wrong q2.2 (((-10) - q2.1) / 10) a1 (((-10) - q2.1) - ((-10) - q2.1) / 10 * 10)).bind fun S4 =>
    fM_readByte_34 S4 q2.1
def fM_next  (S : qS) : Option (Int32 × qS) :=
  (fM_readByte S (gA S 1 15)).bind fun q1 =>
  some (q1.1, (pA q1.2 1 15 ((gA q1.2 1 15) + 1)))
def fM_shape_26  (S : qS) : Option (Int32 × qS) :=
  some (9, S)
def fM_shape_41  (S : qS) : Option (Int32 × qS) :=
  some (297, S)
def fM_shape_69  (S : qS) : Option (Int32 × qS) :=
  some (329, S)
def fM_shape_85  (S : qS) : Option (Int32 × qS) :=
  some (10, S)
def fM_shape_109  (S : qS) : Option (Int32 × qS) :=
  some (321, S)
def fM_shape_274  (S : qS) (y0 : Int32) : Option (Int32 × qS) :=
  some (y0, S)
def fM_shape_219  (S : qS) (y0 : Int32) : Option (Int32 × qS) :=
  some (y0, S)
def fM_shape_196  (S : qS) (y0 : Int32) : Option (Int32 × qS) :=
  some (y0 + 320, S)
def fM_shape  (S : qS) (a0 : Int32) : Option (Int32 × qS) :=
  if 6 ≤ a0 then
    if a0 < 10 then
      fM_shape_26 S
    else
      if a0 = 21 then
        fM_shape_26 S
      else
        if ¬ a0 = 44 then
          if a0 = 10 then
            fM_shape_41 S
          else
            if ¬ a0 = 23 then
              if a0 = 11 then
                fM_shape_69 S
              else
                if a0 = 14 then
                  fM_shape_69 S
                else
                  if a0 = 18 then
                    fM_shape_69 S
                  else
                    if ¬ a0 = 19 then
                      if a0 = 12 then
                        fM_shape_85 S
                      else
                        if ¬ a0 = 20 then
                          if ¬ a0 = 13 then
                            if a0 = 15 then
                              fM_shape_109 S
                            else
                              if ¬ a0 = 16 then
                                if ¬ a0 = 17 then
                                  if ¬ a0 = 22 then
                                    if ¬ a0 = 24 then
                                      if 27 ≤ a0 then
                                        if 34 ≤ a0 then
                                          if 41 ≤ a0 then
                                            if ¬ a0 = 41 then
                                              if 44 ≤ a0 then
                                                if 48 ≤ a0 then
                                                  if 62 ≤ a0 then
                                                    if 64 ≤ a0 then
                                                      if 66 ≤ a0 then
                                                        if 68 ≤ a0 then
                                                          if ¬ a0 = 68 then
                                                            fM_shape_274 S 4385
                                                          else
                                                            fM_shape_274 S 137
                                                        else
                                                          some (16745, S)
                                                      else
                                                        some (523, S)
                                                    else
                                                      some (521, S)
                                                  else
                                                    some (16, S)
                                                else
                                                  if ¬ a0 = 45 then
                                                    fM_shape_219 S 4
                                                  else
                                                    fM_shape_219 S 12
                                              else
                                                if ¬ a0 = 42 then
                                                  fM_shape_196 S 4
                                                else
                                                  fM_shape_196 S 12
                                            else
                                              some (10529, S)
                                          else
                                            some (10537, S)
                                        else
                                          some (361, S)
                                      else
                                        some (11, S)
                                    else
                                      some (33, S)
                                  else
                                    some (1, S)
                                else
                                  some (73, S)
                              else
                                fM_shape_109 S
                          else
                            some (65, S)
                        else
                          fM_shape_85 S
                    else
                      fM_shape_69 S
            else
              fM_shape_41 S
        else
          fM_shape_26 S
  else
    some (0, S)
def fM_signed  (S : qS) (a0 : Int32) : Option (Int32 × qS) :=
  some ((a0 <<< ((24 : Int32) &&& 31)) >>> ((24 : Int32) &&& 31), S)
def fM_readLong_4 : Nat → qS → Int32 → Int32 → Int32 → Option (Int32 × qS)
  | 0, _, _, _, _ => none
  | n + 1, S, x1, x2, x3 =>
      if 4 ≤ x3 then
        some (x2, S)
      else
        (fM_readByte S (x1 + x3)).bind fun q2 =>
        (fM_readLong_4 n) q2.2 x1 (x2 ||| (q2.1 <<< ((8 * x3) &&& 31))) (x3 + 1)
def fM_readLong  (S : qS) (a1 : Int32) : Option (Int32 × qS) :=
  fM_readLong_4 300 S a1 0 0
def fM_operand_503  (S : qS) : Option (qS) :=
  some S
def fM_operand_502  (S : qS) (y1 : Int32) (y2 : Int32) : Option (qS) :=
  chk (inb y1 3) <|
  fM_operand_503 (pA S 5 y1 y2)
def fM_operand_476  (S : qS) (x1 : Int32) (x4 : Int32) (x9 : Int32) : Option (qS) :=
  if ¬ x4 = 4 then
    (fM_readByte S x9).bind fun q2 =>
    fM_operand_502 q2.2 x1 q2.1
  else
    (fM_readLong S x9).bind fun q3 =>
    fM_operand_502 q3.2 x1 q3.1
def fM_operand_458  (S : qS) (x1 : Int32) (x3 : Int32) (x4 : Int32) (x9 : Int32) : Option (qS) :=
  chk (inb x1 3) <|
  if x3 = 1 then
    fM_operand_476 (pA S 7 x1 x9) x1 x4 x9
  else
    if ¬ x3 = 3 then
      fM_operand_503 (pA S 7 x1 x9)
    else
      fM_operand_476 (pA S 7 x1 x9) x1 x4 x9
def fM_operand_439  (S : qS) (x1 : Int32) (x3 : Int32) (x4 : Int32) (x6 : Int32) (x9 : Int32) : Option (qS) :=
  if x6 < 0 then
    fM_operand_458 S x1 x3 x4 x9
  else
    (fM_get S x6).bind fun q2 =>
    fM_operand_458 q2.2 x1 x3 x4 (x9 + (x4 * q2.1))
def fM_operand_431  (S : qS) (x1 : Int32) (x3 : Int32) (x4 : Int32) (x6 : Int32) (x9 : Int32) : Option (qS) :=
  (fM_readLong S x9).bind fun q1 =>
  fM_operand_439 q1.2 x1 x3 x4 x6 q1.1
def fM_operand_410  (S : qS) (x1 : Int32) (x3 : Int32) (x4 : Int32) (x6 : Int32) (x7 : Int32) (x9 : Int32) : Option (qS) :=
  if x7 = 9 then
    fM_operand_431 S x1 x3 x4 x6 x9
  else
    if x7 = 11 then
      fM_operand_431 S x1 x3 x4 x6 x9
    else
      if ¬ x7 = 15 then
        fM_operand_439 S x1 x3 x4 x6 x9
      else
        fM_operand_431 S x1 x3 x4 x6 x9
def fM_operand_397  (S : qS) (x1 : Int32) (x3 : Int32) (x4 : Int32) (x6 : Int32) (x7 : Int32) (x8 : Int32) (y0 : Int32) : Option (qS) :=
  (fM_get S x8).bind fun q1 =>
  fM_operand_410 q1.2 x1 x3 x4 x6 x7 (q1.1 + y0)
def fM_operand_345  (S : qS) (x1 : Int32) (x3 : Int32) (x4 : Int32) (x6 : Int32) (x7 : Int32) (x8 : Int32) (x9 : Int32) : Option (qS) :=
  if x7 ≤ 9 then
    fM_operand_410 S x1 x3 x4 x6 x7 x9
  else
    if 12 ≤ x7 then
      (fM_next S).bind fun q3 =>
      (fM_next q3.2).bind fun q4 =>
      (fM_next q4.2).bind fun q5 =>
      (fM_next q5.2).bind fun q6 =>
      fM_operand_397 q6.2 x1 x3 x4 x6 x7 x8 (((q3.1 ||| (q4.1 <<< ((8 : Int32) &&& 31))) ||| (q5.1 <<< ((16 : Int32) &&& 31))) ||| (q6.1 <<< ((24 : Int32) &&& 31)))
    else
      (fM_next S).bind fun q7 =>
      (fM_signed q7.2 q7.1).bind fun q8 =>
      fM_operand_397 q8.2 x1 x3 x4 x6 x7 x8 q8.1
def fM_operand_328  (S : qS) (x1 : Int32) (x3 : Int32) (x4 : Int32) (x6 : Int32) (x7 : Int32) (x8 : Int32) (x9 : Int32) : Option (qS) :=
  if ¬ x7 = 9 then
    fM_operand_345 S x1 x3 x4 x6 x7 x8 x9
  else
    (fM_put S x8 (x9 + 4)).bind fun S2 =>
    fM_operand_345 S2 x1 x3 x4 x6 x7 x8 x9
def fM_operand_325  (S : qS) (x1 : Int32) (x3 : Int32) (x4 : Int32) (x6 : Int32) (x7 : Int32) (x8 : Int32) (x9 : Int32) (y1 : Int32) (y2 : Int32) : Option (qS) :=
  (fM_put S y1 y2).bind fun S1 =>
  fM_operand_328 S1 x1 x3 x4 x6 x7 x8 x9
def fM_operand_305  (S : qS) (x1 : Int32) (x3 : Int32) (x4 : Int32) (x6 : Int32) (x7 : Int32) (x8 : Int32) (x9 : Int32) : Option (qS) :=
  if ¬ x7 = 7 then
    fM_operand_325 S x1 x3 x4 x6 x7 x8 x9 x8 (x9 + x4)
  else
    fM_operand_325 S x1 x3 x4 x6 x7 x8 x9 x8 x9
def fM_operand_291  (S : qS) (x1 : Int32) (x3 : Int32) (x4 : Int32) (x6 : Int32) (x7 : Int32) (x8 : Int32) (x9 : Int32) : Option (qS) :=
  if x7 = 7 then
    fM_operand_305 S x1 x3 x4 x6 x7 x8 x9
  else
    if ¬ x7 = 8 then
      fM_operand_328 S x1 x3 x4 x6 x7 x8 x9
    else
      fM_operand_305 S x1 x3 x4 x6 x7 x8 x9
def fM_operand_275  (S : qS) (x1 : Int32) (x3 : Int32) (x4 : Int32) (x6 : Int32) (x7 : Int32) (x8 : Int32) (y0 : Int32) : Option (qS) :=
  if ¬ x7 = 7 then
    fM_operand_291 S x1 x3 x4 x6 x7 x8 y0
  else
    fM_operand_291 S x1 x3 x4 x6 x7 x8 (y0 - x4)
def fM_operand_249  (S : qS) (x1 : Int32) (x3 : Int32) (x4 : Int32) (x6 : Int32) (x7 : Int32) (x8 : Int32) (y1 : Int32) (y2 : Int32) : Option (qS) :=
  chk (inb y1 3) <|
  if 6 ≤ x7 then
    if 10 ≤ x7 then
      fM_operand_275 (pA S 5 y1 y2) x1 x3 x4 x6 x7 x8 0
    else
      (fM_get (pA S 5 y1 y2) x8).bind fun q4 =>
      fM_operand_275 q4.2 x1 x3 x4 x6 x7 x8 q4.1
  else
    some (pA S 5 y1 y2)
def fM_operand_207  (S : qS) (x1 : Int32) (x3 : Int32) (x4 : Int32) (x5 : Int32) (x6 : Int32) (x7 : Int32) (x8 : Int32) (y1 : Int32) (y2 : Int32) : Option (qS) :=
  chk (inb y1 3) <|
  if 4 ≤ x7 then
    if ¬ x4 = 4 then
      (fM_get (pA S 6 y1 y2) x8).bind fun q4 =>
      fM_operand_249 q4.2 x1 x3 x4 x6 x7 x8 x1 (q4.1 &&& 255)
    else
      (fM_get (pA S 6 y1 y2) x8).bind fun q5 =>
      fM_operand_249 q5.2 x1 x3 x4 x6 x7 x8 x1 q5.1
  else
    fM_operand_249 (pA S 6 y1 y2) x1 x3 x4 x6 x7 x8 x1 x5
def fM_operand_179  (S : qS) (x1 : Int32) (x3 : Int32) (x4 : Int32) (x5 : Int32) (x6 : Int32) (x7 : Int32) (x8 : Int32) : Option (qS) :=
  if 4 ≤ x7 then
    if ¬ x7 = 5 then
      fM_operand_207 S x1 x3 x4 x5 x6 x7 x8 x1 16
    else
      fM_operand_207 S x1 x3 x4 x5 x6 x7 x8 x1 x8
  else
    fM_operand_207 S x1 x3 x4 x5 x6 x7 x8 x1 (-1)
def fM_operand_172  (S : qS) (x1 : Int32) (x3 : Int32) (x4 : Int32) (x5 : Int32) (x6 : Int32) (x7 : Int32) (x8 : Int32) : Option (qS) :=
  (fM_wrong S 3 0 0).bind fun S1 =>
  fM_operand_179 S1 x1 x3 x4 x5 x6 x7 x8
def fM_operand_154  (S : qS) (x1 : Int32) (x3 : Int32) (x4 : Int32) (x5 : Int32) (x6 : Int32) (x7 : Int32) (x8 : Int32) : Option (qS) :=
  if ¬ x5 = 143 then
    fM_operand_179 S x1 x3 x4 x5 x6 x7 x8
  else
    if x3 = 2 then
      fM_operand_172 S x1 x3 x4 x5 x6 x7 x8
    else
      if ¬ x3 = 3 then
        fM_operand_179 S x1 x3 x4 x5 x6 x7 x8
      else
        fM_operand_172 S x1 x3 x4 x5 x6 x7 x8
def fM_operand_143  (S : qS) (x1 : Int32) (x3 : Int32) (x4 : Int32) (x5 : Int32) (x6 : Int32) (x7 : Int32) (x8 : Int32) : Option (qS) :=
  if ¬ x7 = 5 then
    fM_operand_154 S x1 x3 x4 x5 x6 x7 x8
  else
    if x3 = 4 then
      fM_operand_172 S x1 x3 x4 x5 x6 x7 x8
    else
      fM_operand_154 S x1 x3 x4 x5 x6 x7 x8
def fM_operand_132  (S : qS) (x1 : Int32) (x3 : Int32) (x4 : Int32) (x5 : Int32) (x6 : Int32) (x7 : Int32) (x8 : Int32) : Option (qS) :=
  if 4 ≤ x7 then
    fM_operand_143 S x1 x3 x4 x5 x6 x7 x8
  else
    if ¬ x3 = 1 then
      fM_operand_172 S x1 x3 x4 x5 x6 x7 x8
    else
      fM_operand_143 S x1 x3 x4 x5 x6 x7 x8
def fM_operand_85  (S : qS) (x1 : Int32) (x3 : Int32) (x4 : Int32) (x5 : Int32) (x6 : Int32) : Option (qS) :=
  if (x5 >>> ((4 : Int32) &&& 31)) = 12 then
    fM_operand_172 S x1 x3 x4 x5 x6 (x5 >>> ((4 : Int32) &&& 31)) (x5 &&& 15)
  else
    if (x5 >>> ((4 : Int32) &&& 31)) = 13 then
      fM_operand_172 S x1 x3 x4 x5 x6 (x5 >>> ((4 : Int32) &&& 31)) (x5 &&& 15)
    else
      if (x5 >>> ((4 : Int32) &&& 31)) ≤ 4 then
        fM_operand_132 S x1 x3 x4 x5 x6 (x5 >>> ((4 : Int32) &&& 31)) (x5 &&& 15)
      else
        if 8 ≤ (x5 >>> ((4 : Int32) &&& 31)) then
          fM_operand_132 S x1 x3 x4 x5 x6 (x5 >>> ((4 : Int32) &&& 31)) (x5 &&& 15)
        else
          if (x5 &&& 15) = 15 then
            fM_operand_172 S x1 x3 x4 x5 x6 (x5 >>> ((4 : Int32) &&& 31)) (x5 &&& 15)
          else
            fM_operand_132 S x1 x3 x4 x5 x6 (x5 >>> ((4 : Int32) &&& 31)) (x5 &&& 15)
def fM_operand_78  (S : qS) (x1 : Int32) (x3 : Int32) (x4 : Int32) (x5 : Int32) (x6 : Int32) : Option (qS) :=
  (fM_wrong S 3 0 0).bind fun S1 =>
  fM_operand_85 S1 x1 x3 x4 x5 x6
def fM_operand_57  (S : qS) (x1 : Int32) (x3 : Int32) (x4 : Int32) (x6 : Int32) : Option (qS) :=
  (fM_next S).bind fun q1 =>
  if q1.1 < 96 then
    fM_operand_78 q1.2 x1 x3 x4 q1.1 x6
  else
    if ¬ q1.1 = 143 then
      fM_operand_85 q1.2 x1 x3 x4 q1.1 x6
    else
      fM_operand_78 q1.2 x1 x3 x4 q1.1 x6
def fM_operand_17  (S : qS) (x1 : Int32) (x3 : Int32) (y0 : Int32) : Option (qS) :=
  (fM_next S).bind fun q1 =>
  if ¬ (q1.1 >>> ((4 : Int32) &&& 31)) = 4 then
    fM_operand_85 q1.2 x1 x3 y0 q1.1 (-1)
  else
    if ¬ (q1.1 &&& 15) = 15 then
      fM_operand_57 q1.2 x1 x3 y0 (q1.1 &&& 15)
    else
      (fM_wrong q1.2 3 0 0).bind fun S4 =>
      fM_operand_57 S4 x1 x3 y0 (q1.1 &&& 15)
def fM_operand  (S : qS) (a1 : Int32) (a2 : Int32) : Option (qS) :=
  if (a2 &&& 8) = 0 then
    fM_operand_17 S a1 (a2 &&& 7) 1
  else
    fM_operand_17 S a1 (a2 &&& 7) 4
def fM_pop  (S : qS) : Option (Int32 × qS) :=
  (fM_get S 14).bind fun q1 =>
  (fM_readLong q1.2 q1.1).bind fun q2 =>
  (fM_get q2.2 14).bind fun q3 =>
  (fM_put q3.2 14 (q3.1 + 4)).bind fun S4 =>
  some (q2.1, S4)
def fM_endException_49  (S : qS) (x1 : Int32) (x2 : Int32) : Option (qS) :=
  if (S.1 7) = 0 then
    some (pI (pA S 1 15 x1) 1 x2)
  else
    some S
def fM_endException_42  (S : qS) (x1 : Int32) (x2 : Int32) : Option (qS) :=
  (fM_wrong S 2 0 0).bind fun S1 =>
  fM_endException_49 S1 x1 x2
def fM_endException  (S : qS) : Option (qS) :=
  (fM_pop S).bind fun q1 =>
  (fM_pop q1.2).bind fun q2 =>
  if ¬ (q2.1 &&& (-62914608)) = 0 then
    fM_endException_42 q2.2 q1.1 q2.1
  else
    (fM_mode q2.2).bind fun q4 =>
    if ((q2.1 >>> ((24 : Int32) &&& 31)) &&& 3) < q4.1 then
      fM_endException_42 q4.2 q1.1 q2.1
    else
      if ((q2.1 >>> ((24 : Int32) &&& 31)) &&& 3) ≤ ((q2.1 >>> ((22 : Int32) &&& 31)) &&& 3) then
        fM_endException_49 q4.2 q1.1 q2.1
      else
        fM_endException_42 q4.2 q1.1 q2.1
def fM_comeBack_155  (S : qS) (x1 : Int32) : Option (qS) :=
  some (pI S 1 (((S.1 1) &&& (-48)) ||| (x1 &&& 47)))
def fM_comeBack_97 (K69 : qS → Int32 → Int32 → Option (qS)) (S : qS) (x1 : Int32) (x2 : Int32) : Option (qS) :=
  K69 S x1 (x2 + 1)
def fM_comeBack_69 : Nat → qS → Int32 → Int32 → Option (qS)
  | 0, _, _, _ => none
  | n + 1, S, x1, x2 =>
      if 12 ≤ x2 then
        (fM_get S 14).bind fun q2 =>
        (fM_put q2.2 14 (q2.1 + (ushr x1 30))).bind fun S3 =>
        if ¬ ((x1 >>> ((29 : Int32) &&& 31)) &&& 1) = 1 then
          fM_comeBack_155 S3 x1
        else
          (fM_pop S3).bind fun q5 =>
          (fM_get q5.2 14).bind fun q6 =>
          (fM_put q6.2 14 (q6.1 + (4 * (q5.1 &&& 255)))).bind fun S7 =>
          fM_comeBack_155 S7 x1
      else
        if ¬ ((x1 >>> ((16 + x2) &&& 31)) &&& 1) = 1 then
          fM_comeBack_97 (fM_comeBack_69 n) S x1 x2
        else
          (fM_pop S).bind fun q9 =>
          chk (inb x2 16) <|
          fM_comeBack_97 (fM_comeBack_69 n) (pA q9.2 1 x2 q9.1) x1 x2
def fM_comeBack_34  (S : qS) (x1 : Int32) : Option (qS) :=
  (fM_pop S).bind fun q1 =>
  (fM_pop (pA q1.2 1 12 q1.1)).bind fun q2 =>
  (fM_pop (pA q2.2 1 13 q2.1)).bind fun q3 =>
  fM_comeBack_69 300 (pA q3.2 1 15 q3.1) x1 0
def fM_comeBack  (S : qS) : Option (qS) :=
  (fM_put S 14 ((gA S 1 13) + 4)).bind fun S1 =>
  (fM_pop S1).bind fun q2 =>
  if (q2.1 &&& 65488) = 0 then
    fM_comeBack_34 q2.2 q2.1
  else
    (fM_wrong q2.2 2 0 0).bind fun S4 =>
    fM_comeBack_34 S4 q2.1
def fM_mark_48  (S : qS) (y1 : Int32) (y2 : Int32) : Option (qS) :=
  some (pI S 1 (y1 ||| y2))
def fM_mark_38  (S : qS) (x3 : Int32) (y1 : Int32) (y2 : Int32) : Option (qS) :=
  if x3 = 0 then
    fM_mark_48 S (y1 ||| y2) 0
  else
    fM_mark_48 S (y1 ||| y2) 1
def fM_mark_28  (S : qS) (x2 : Int32) (x3 : Int32) (y1 : Int32) (y2 : Int32) : Option (qS) :=
  if x2 = 0 then
    fM_mark_38 S x3 (y1 ||| y2) 0
  else
    fM_mark_38 S x3 (y1 ||| y2) 2
def fM_mark_18  (S : qS) (x1 : Int32) (x2 : Int32) (x3 : Int32) (y1 : Int32) (y2 : Int32) : Option (qS) :=
  if ¬ x1 = 0 then
    fM_mark_28 S x2 x3 (y1 ||| y2) 0
  else
    fM_mark_28 S x2 x3 (y1 ||| y2) 4
def fM_mark  (S : qS) (a1 : Int32) (a2 : Int32) (a3 : Int32) : Option (qS) :=
  if 0 ≤ a1 then
    fM_mark_18 S a1 a2 a3 ((S.1 1) &&& (-16)) 0
  else
    fM_mark_18 S a1 a2 a3 ((S.1 1) &&& (-16)) 8
def fM_write_167  (S : qS) : Option (qS) :=
  some S
def fM_write_138 (K93 : qS → Int32 → Int32 → Int32 → Option (qS)) (S : qS) (x2 : Int32) (x3 : Int32) (x4 : Int32) : Option (qS) :=
  chk (inb x4 4) <|
  chk (inb (gA S 8 x4) 2048) <|
  K93 (pA S 0 (gA S 8 x4) ((x2 >>> ((8 * x4) &&& 31)) &&& 255)) x2 x3 (x4 + 1)
def fM_write_93 : Nat → qS → Int32 → Int32 → Int32 → Option (qS)
  | 0, _, _, _, _ => none
  | n + 1, S, x2, x3, x4 =>
      if x3 ≤ x4 then
        fM_write_167 S
      else
        if ¬ (S.1 7) = 0 then
          fM_write_167 S
        else
          chk (inb x4 4) <|
          if (gA S 9 x4) < 0 then
            fM_write_138 (fM_write_93 n) S x2 x3 x4
          else
            chk (inb x4 4) <|
            chk (inb (((gA S 9 x4) + 3) &&& 2047) 2048) <|
            chk (inb (((gA S 9 x4) + 3) &&& 2047) 2048) <|
            fM_write_138 (fM_write_93 n) (pA S 0 (((gA S 9 x4) + 3) &&& 2047) ((gA S 0 (((gA S 9 x4) + 3) &&& 2047)) ||| 4)) x2 x3 x4
def fM_write_84 (K3 : qS → Int32 → Int32 → Int32 → Int32 → Option (qS)) (S : qS) (x1 : Int32) (x2 : Int32) (x3 : Int32) (x4 : Int32) : Option (qS) :=
  K3 S x1 x2 x3 (x4 + 1)
def fM_write_3 : Nat → qS → Int32 → Int32 → Int32 → Int32 → Option (qS)
  | 0, _, _, _, _, _ => none
  | n + 1, S, x1, x2, x3, x4 =>
      if x3 ≤ x4 then
        fM_write_93 300 S x2 x3 0
      else
        (fM_mode S).bind fun q2 =>
        (fM_find q2.2 (x1 + x4) 1 q2.1).bind fun q3 =>
        chk (inb x4 4) <|
        chk (inb x4 4) <|
        chk (inb x4 4) <|
        if 0 ≤ (gA (pA (pA q3.2 8 x4 q3.1) 9 x4 ((pA q3.2 8 x4 q3.1).1 11)) 8 x4) then
          fM_write_84 (fM_write_3 n) (pA (pA q3.2 8 x4 q3.1) 9 x4 ((pA q3.2 8 x4 q3.1).1 11)) x1 x2 x3 x4
        else
          chk (inb x4 4) <|
          chk (inb x4 4) <|
          (fM_wrong (pA (pA q3.2 8 x4 q3.1) 9 x4 ((pA q3.2 8 x4 q3.1).1 11)) (((-10) - (gA (pA (pA q3.2 8 x4 q3.1) 9 x4 ((pA q3.2 8 x4 q3.1).1 11)) 8 x4)) / 10) (x1 + x4) (((-10) - (gA (pA (pA q3.2 8 x4 q3.1) 9 x4 ((pA q3.2 8 x4 q3.1).1 11)) 8 x4)) - ((-10) - (gA (pA (pA q3.2 8 x4 q3.1) 9 x4 ((pA q3.2 8 x4 q3.1).1 11)) 8 x4)) / 10 * 10)).bind fun S10 =>
          fM_write_84 (fM_write_3 n) S10 x1 x2 x3 x4
def fM_write  (S : qS) (a1 : Int32) (a2 : Int32) (a3 : Int32) : Option (qS) :=
  fM_write_3 300 S a1 a2 a3 0
def fM_give_65  (S : qS) : Option (qS) :=
  some S
def fM_give_62  (S : qS) (y1 : Int32) (y2 : Int32) : Option (qS) :=
  (fM_put S y1 y2).bind fun S1 =>
  fM_give_65 S1
def fM_give  (S : qS) (a1 : Int32) (a2 : Int32) (a3 : Int32) : Option (qS) :=
  chk (inb a1 3) <|
  if ¬ (gA S 6 a1) = 16 then
    chk (inb a1 3) <|
    if ¬ a3 = 4 then
      chk (inb a1 3) <|
      (fM_get S (gA S 6 a1)).bind fun q6 =>
      fM_give_62 q6.2 (gA S 6 a1) ((q6.1 &&& (-256)) ||| (a2 &&& 255))
    else
      fM_give_62 S (gA S 6 a1) a2
  else
    chk (inb a1 3) <|
    (fM_write S (gA S 7 a1) a2 a3).bind fun S8 =>
    fM_give_65 S8
def fM_innerOnes_134  (S : qS) : Option (qS) :=
  some S
def fM_innerOnes_120  (S : qS) (x1 : Int32) (x4 : Int32) : Option (qS) :=
  if ¬ x1 = 11 then
    fM_innerOnes_134 S
  else
    (fM_give S 1 x4 4).bind fun S2 =>
    fM_innerOnes_134 S2
def fM_innerOnes_98  (S : qS) (x1 : Int32) (x2 : Int32) : Option (qS) :=
  chk (inb x2 57) <|
  if ¬ x1 = 11 then
    fM_innerOnes_120 S x1 (gA S 2 x2)
  else
    (fM_mark S (gA S 2 x2) 0 0).bind fun S3 =>
    fM_innerOnes_120 S3 x1 (gA S 2 x2)
def fM_innerOnes_72  (S : qS) (x1 : Int32) (x2 : Int32) : Option (qS) :=
  if (S.1 7) = 0 then
    if ¬ x1 = 10 then
      fM_innerOnes_98 S x1 x2
    else
      chk (inb x2 57) <|
      fM_innerOnes_98 (pA S 2 x2 (gA S 5 0)) x1 x2
  else
    some S
def fM_innerOnes_60  (S : qS) (x1 : Int32) (x2 : Int32) (y0 : Int32) : Option (qS) :=
  if ¬ y0 = 0 then
    fM_innerOnes_72 S x1 x2
  else
    (fM_wrong S 2 0 0).bind fun S2 =>
    fM_innerOnes_72 S2 x1 x2
def fM_innerOnes_59  (S : qS) (x1 : Int32) (x2 : Int32) : Option (qS) :=
  fM_innerOnes_60 S x1 x2 0
def fM_innerOnes_55  (S : qS) (x1 : Int32) (x2 : Int32) : Option (qS) :=
  fM_innerOnes_60 S x1 x2 1
def fM_innerOnes_15  (S : qS) (x1 : Int32) (y1 : Int32) : Option (qS) :=
  chk (inb y1 3) <|
  (fM_isInner S (gA S 5 y1)).bind fun q2 =>
  if q2.1 = 0 then
    fM_innerOnes_59 q2.2 x1 (gA S 5 y1)
  else
    if x1 = 11 then
      fM_innerOnes_55 q2.2 x1 (gA S 5 y1)
    else
      if ¬ (gA S 5 y1) = 56 then
        fM_innerOnes_55 q2.2 x1 (gA S 5 y1)
      else
        if (gA q2.2 5 0) = 0 then
          fM_innerOnes_55 q2.2 x1 (gA S 5 y1)
        else
          if ¬ (gA q2.2 5 0) = 1 then
            fM_innerOnes_59 q2.2 x1 (gA S 5 y1)
          else
            fM_innerOnes_55 q2.2 x1 (gA S 5 y1)
def fM_innerOnes  (S : qS) (a1 : Int32) : Option (qS) :=
  if ¬ a1 = 10 then
    fM_innerOnes_15 S a1 0
  else
    fM_innerOnes_15 S a1 1
def fM_has_17  (S : qS) (y0 : Int32) : Option (Int32 × qS) :=
  chk (isB y0) (some (y0, S))
def fM_has  (S : qS) (a1 : Int32) : Option (Int32 × qS) :=
  if ¬ (((S.1 1) >>> (a1 &&& 31)) &&& 1) = 1 then
    fM_has_17 S 0
  else
    fM_has_17 S 1
def fM_push_35  (S : qS) : Option (qS) :=
  some S
def fM_push  (S : qS) (a1 : Int32) : Option (qS) :=
  (fM_get S 14).bind fun q1 =>
  (fM_write q1.2 (q1.1 - 4) a1 4).bind fun S2 =>
  if ¬ (S2.1 7) = 0 then
    fM_push_35 S2
  else
    (fM_get S2 14).bind fun q4 =>
    (fM_put q4.2 14 (q4.1 - 4)).bind fun S5 =>
    fM_push_35 S5
def fM_move_201  (S : qS) (x2 : Int32) (x3 : Int32) (y1 : Int32) : Option (qS) :=
  (fM_below S x2 x3).bind fun q1 =>
  (fM_mark q1.2 y1 0 q1.1).bind fun S2 =>
  some S2
def fM_move_175  (S : qS) (x2 : Int32) (x3 : Int32) (x7 : Int32) (y0 : Int32) : Option (qS) :=
  if y0 ≤ x7 then
    if ¬ x7 = y0 then
      fM_move_201 S x2 x3 1
    else
      fM_move_201 S x2 x3 0
  else
    fM_move_201 S x2 x3 (-1)
def fM_move_159  (S : qS) (x1 : Int32) (x2 : Int32) (x3 : Int32) (y0 : Int32) : Option (qS) :=
  if ¬ x1 = 23 then
    (fM_signed S x3).bind fun q2 =>
    fM_move_175 q2.2 x2 x3 y0 q2.1
  else
    fM_move_175 S x2 x3 y0 x3
def fM_move_145  (S : qS) (x1 : Int32) (x2 : Int32) (x3 : Int32) : Option (qS) :=
  if ¬ x1 = 23 then
    (fM_signed S x2).bind fun q2 =>
    fM_move_159 q2.2 x1 x2 x3 q2.1
  else
    fM_move_159 S x1 x2 x3 x2
def fM_move_379  (S : qS) : Option (qS) :=
  some S
def fM_move_318  (S : qS) (x5 : Int32) : Option (qS) :=
  (fM_push S x5).bind fun S1 =>
  fM_move_379 S1
def fM_move_376  (S : qS) (y1 : Int32) (y2 : Int32) (y3 : Int32) : Option (qS) :=
  (fM_give S y1 y2 y3).bind fun S1 =>
  fM_move_379 S1
def fM_move_371  (S : qS) (y1 : Int32) (y2 : Int32) : Option (qS) :=
  fM_move_376 S y1 y2 1
def fM_move_357  (S : qS) (x1 : Int32) (x5 : Int32) (y1 : Int32) : Option (qS) :=
  if x1 = 13 then
    fM_move_371 S y1 x5
  else
    if ¬ x1 = 17 then
      fM_move_376 S y1 x5 4
    else
      fM_move_371 S y1 x5
def fM_move_352  (S : qS) (x1 : Int32) (x5 : Int32) : Option (qS) :=
  fM_move_357 S x1 x5 0
def fM_move_306  (S : qS) (x1 : Int32) (x5 : Int32) : Option (qS) :=
  if x1 = 44 then
    fM_move_318 S x5
  else
    if ¬ x1 = 45 then
      if x1 = 21 then
        fM_move_379 S
      else
        if x1 = 22 then
          fM_move_379 S
        else
          if x1 = 12 then
            fM_move_352 S x1 x5
          else
            if ¬ x1 = 20 then
              fM_move_357 S x1 x5 1
            else
              fM_move_352 S x1 x5
    else
      fM_move_318 S x5
def fM_move_303  (S : qS) (x1 : Int32) (x5 : Int32) (y1 : Int32) (y2 : Int32) (y3 : Int32) : Option (qS) :=
  (fM_mark S y1 y2 y3).bind fun S1 =>
  fM_move_306 S1 x1 x5
def fM_move_302  (S : qS) (x1 : Int32) (x5 : Int32) (y1 : Int32) (y2 : Int32) : Option (qS) :=
  fM_move_303 S x1 x5 y1 y2 0
def fM_move_257  (S : qS) (x1 : Int32) (x2 : Int32) (x4 : Int32) (x5 : Int32) (y1 : Int32) (y2 : Int32) : Option (qS) :=
  if ¬ x1 = 18 then
    if x1 = 17 then
      fM_move_302 S x1 x5 y1 y2
    else
      if x1 = 21 then
        fM_move_302 S x1 x5 y1 y2
      else
        if x1 = 22 then
          fM_move_302 S x1 x5 y1 y2
        else
          if x4 = 0 then
            fM_move_302 S x1 x5 y1 y2
          else
            fM_move_303 S x1 x5 y1 y2 1
  else
    if x2 = 0 then
      fM_move_303 S x1 x5 y1 y2 0
    else
      fM_move_303 S x1 x5 y1 y2 1
def fM_move_256  (S : qS) (x1 : Int32) (x2 : Int32) (x4 : Int32) (x5 : Int32) (y1 : Int32) : Option (qS) :=
  fM_move_257 S x1 x2 x4 x5 y1 0
def fM_move_131  (S : qS) (x1 : Int32) (x2 : Int32) (x3 : Int32) (x4 : Int32) (x5 : Int32) (y0 : Int32) : Option (qS) :=
  if x1 = 23 then
    fM_move_145 S x1 x2 x3
  else
    if ¬ x1 = 24 then
      if x1 = 12 then
        fM_move_306 S x1 x5
      else
        if ¬ x1 = 17 then
          if ¬ x1 = 18 then
            fM_move_256 S x1 x2 x4 x5 y0
          else
            if ¬ x2 = (-2147483648) then
              fM_move_256 S x1 x2 x4 x5 y0
            else
              fM_move_257 S x1 x2 x4 x5 y0 1
        else
          if x5 = x2 then
            fM_move_257 S x1 x2 x4 x5 y0 0
          else
            fM_move_257 S x1 x2 x4 x5 y0 1
    else
      fM_move_145 S x1 x2 x3
def fM_move_122  (S : qS) (x1 : Int32) (x2 : Int32) (x3 : Int32) (x4 : Int32) (x5 : Int32) : Option (qS) :=
  (fM_signed S x2).bind fun q1 =>
  fM_move_131 q1.2 x1 x2 x3 x4 x5 q1.1
def fM_move_108  (S : qS) (x1 : Int32) (x2 : Int32) (x3 : Int32) (x4 : Int32) (y0 : Int32) : Option (qS) :=
  if x1 = 13 then
    fM_move_122 S x1 x2 x3 x4 y0
  else
    if ¬ x1 = 22 then
      fM_move_131 S x1 x2 x3 x4 y0 y0
    else
      fM_move_122 S x1 x2 x3 x4 y0
def fM_move_46  (S : qS) (x1 : Int32) (x2 : Int32) (x3 : Int32) (x4 : Int32) : Option (qS) :=
  (fM_signed S x2).bind fun q1 =>
  fM_move_108 q1.2 x1 x2 x3 x4 q1.1
def fM_move_107  (S : qS) (x1 : Int32) (x2 : Int32) (x3 : Int32) (x4 : Int32) : Option (qS) :=
  fM_move_108 S x1 x2 x3 x4 x2
def fM_move  (S : qS) (a1 : Int32) : Option (qS) :=
  (fM_has S 0).bind fun q1 =>
  if ¬ a1 = 12 then
    if a1 = 16 then
      fM_move_46 q1.2 a1 (gA S 5 0) (gA S 5 1) q1.1
    else
      if ¬ a1 = 17 then
        if ¬ a1 = 18 then
          if ¬ a1 = 19 then
            if ¬ a1 = 20 then
              if a1 ≤ 41 then
                fM_move_107 q1.2 a1 (gA S 5 0) (gA S 5 1) q1.1
              else
                if a1 = 44 then
                  fM_move_107 q1.2 a1 (gA S 5 0) (gA S 5 1) q1.1
                else
                  fM_move_108 q1.2 a1 (gA S 5 0) (gA S 5 1) q1.1 (gA q1.2 7 0)
            else
              fM_move_108 q1.2 a1 (gA S 5 0) (gA S 5 1) q1.1 0
          else
            fM_move_108 q1.2 a1 (gA S 5 0) (gA S 5 1) q1.1 ((gA S 5 0) ^^^ (-1))
        else
          fM_move_108 q1.2 a1 (gA S 5 0) (gA S 5 1) q1.1 (-(gA S 5 0))
      else
        fM_move_46 q1.2 a1 (gA S 5 0) (gA S 5 1) q1.1
  else
    fM_move_108 q1.2 a1 (gA S 5 0) (gA S 5 1) q1.1 (q1.2.1 1)
def fM_reckon_216  (S : qS) (x4 : Int32) (x8 : Int32) (x9 : Int32) (x10 : Int32) (y1 : Int32) : Option (qS) :=
  (fM_mark (pI S 10 y1) x8 x9 x10).bind fun S1 =>
  (fM_give S1 x4 x8 4).bind fun S2 =>
  some S2
def fM_reckon_215  (S : qS) (x4 : Int32) (x8 : Int32) (x9 : Int32) (x10 : Int32) : Option (qS) :=
  fM_reckon_216 S x4 x8 x9 x10 0
def fM_reckon_199  (S : qS) (x1 : Int32) (x2 : Int32) (x4 : Int32) (x8 : Int32) (x9 : Int32) (y0 : Int32) : Option (qS) :=
  if ¬ x1 = 3 then
    fM_reckon_215 S x4 x8 x9 y0
  else
    if ¬ x2 = 0 then
      fM_reckon_215 S x4 x8 x9 y0
    else
      fM_reckon_216 S x4 x8 x9 y0 2
def fM_reckon_198  (S : qS) (x1 : Int32) (x2 : Int32) (x4 : Int32) (x8 : Int32) (x9 : Int32) : Option (qS) :=
  fM_reckon_199 S x1 x2 x4 x8 x9 0
def fM_reckon_153  (S : qS) (x1 : Int32) (x2 : Int32) (x3 : Int32) (x4 : Int32) (x8 : Int32) (y0 : Int32) : Option (qS) :=
  if ¬ x1 = 0 then
    if ¬ x1 = 1 then
      if x1 ≤ 3 then
        fM_reckon_198 S x1 x2 x4 x8 y0
      else
        (fM_has S 0).bind fun q4 =>
        if q4.1 = 0 then
          fM_reckon_198 q4.2 x1 x2 x4 x8 y0
        else
          fM_reckon_199 q4.2 x1 x2 x4 x8 y0 1
    else
      (fM_below S x3 x2).bind fun q6 =>
      fM_reckon_199 q6.2 x1 x2 x4 x8 y0 q6.1
  else
    (fM_below S x8 x2).bind fun q7 =>
    fM_reckon_199 q7.2 x1 x2 x4 x8 y0 q7.1
def fM_reckon_152  (S : qS) (x1 : Int32) (x2 : Int32) (x3 : Int32) (x4 : Int32) (x8 : Int32) : Option (qS) :=
  fM_reckon_153 S x1 x2 x3 x4 x8 0
def fM_reckon_148  (S : qS) (x1 : Int32) (x2 : Int32) (x3 : Int32) (x4 : Int32) (x8 : Int32) : Option (qS) :=
  fM_reckon_153 S x1 x2 x3 x4 x8 1
def fM_reckon_112  (S : qS) (x1 : Int32) (x2 : Int32) (x3 : Int32) (x4 : Int32) (x5 : Int32) (x6 : Int64) (x8 : Int32) : Option (qS) :=
  if 3 ≤ x1 then
    if ¬ x1 = 3 then
      fM_reckon_152 S x1 x2 x3 x4 x8
    else
      if x2 = 0 then
        fM_reckon_148 S x1 x2 x3 x4 x8
      else
        if x5 = 0 then
          fM_reckon_152 S x1 x2 x3 x4 x8
        else
          fM_reckon_148 S x1 x2 x3 x4 x8
  else
    if (lg_cmp x6 x8.toInt64) = 0 then
      fM_reckon_153 S x1 x2 x3 x4 x8 0
    else
      fM_reckon_153 S x1 x2 x3 x4 x8 1
def fM_reckon_110  (S : qS) (x1 : Int32) (x2 : Int32) (x3 : Int32) (x4 : Int32) (x5 : Int32) (x6 : Int64) (y0 : Int32) : Option (qS) :=
  fM_reckon_112 S x1 x2 x3 x4 x5 x6 y0
def fM_reckon_78  (S : qS) (x1 : Int32) (x2 : Int32) (x3 : Int32) (x4 : Int32) (x5 : Int32) (x6 : Int64) (x8 : Int32) : Option (qS) :=
  if x1 ≤ 3 then
    fM_reckon_112 S x1 x2 x3 x4 x5 x6 x8
  else
    if ¬ x1 = 4 then
      if ¬ x1 = 5 then
        fM_reckon_110 S x1 x2 x3 x4 x5 x6 (x3 ^^^ x2)
      else
        fM_reckon_110 S x1 x2 x3 x4 x5 x6 (x3 &&& (x2 ^^^ (-1)))
    else
      fM_reckon_110 S x1 x2 x3 x4 x5 x6 (x3 ||| x2)
def fM_reckon_76  (S : qS) (x1 : Int32) (x2 : Int32) (x3 : Int32) (x4 : Int32) (x5 : Int32) (x6 : Int64) (y0 : Int32) : Option (qS) :=
  fM_reckon_78 S x1 x2 x3 x4 x5 x6 y0
def fM_reckon_69  (S : qS) (x1 : Int32) (x2 : Int32) (x3 : Int32) (x4 : Int32) (x5 : Int32) (x6 : Int64) : Option (qS) :=
  fM_reckon_76 S x1 x2 x3 x4 x5 x6 x3
def fM_reckon_48  (S : qS) (x1 : Int32) (x2 : Int32) (x3 : Int32) (x4 : Int32) (x5 : Int32) (y0 : Int64) : Option (qS) :=
  if ¬ x1 = 3 then
    fM_reckon_78 S x1 x2 x3 x4 x5 y0 y0.toInt32
  else
    if x2 = 0 then
      fM_reckon_69 S x1 x2 x3 x4 x5 y0
    else
      if x5 = 0 then
        chk (x2 != 0) <|
        fM_reckon_76 S x1 x2 x3 x4 x5 y0 (x3 / x2)
      else
        fM_reckon_69 S x1 x2 x3 x4 x5 y0
def fM_reckon_16  (S : qS) (x1 : Int32) (x2 : Int32) (x3 : Int32) (x4 : Int32) (y0 : Int32) : Option (qS) :=
  if ¬ x1 = 0 then
    if ¬ x1 = 1 then
      fM_reckon_48 S x1 x2 x3 x4 y0 (x3.toInt64 * x2.toInt64)
    else
      fM_reckon_48 S x1 x2 x3 x4 y0 (x3.toInt64 - x2.toInt64)
  else
    fM_reckon_48 S x1 x2 x3 x4 y0 (x3.toInt64 + x2.toInt64)
def fM_reckon_15  (S : qS) (x1 : Int32) (x2 : Int32) (x3 : Int32) (x4 : Int32) : Option (qS) :=
  fM_reckon_16 S x1 x2 x3 x4 0
def fM_reckon  (S : qS) (a1 : Int32) (a2 : Int32) (a3 : Int32) (a4 : Int32) : Option (qS) :=
  if ¬ a3 = (-2147483648) then
    fM_reckon_15 S a1 a2 a3 a4
  else
    if ¬ a2 = (-1) then
      fM_reckon_15 S a1 a2 a3 a4
    else
      fM_reckon_16 S a1 a2 a3 a4 1
def fM_shift_72  (S : qS) (x3 : Int32) (y0 : Int32) : Option (qS) :=
  (fM_mark S x3 y0 0).bind fun S1 =>
  (fM_give S1 2 x3 4).bind fun S2 =>
  some S2
def fM_shift_71  (S : qS) (x3 : Int32) : Option (qS) :=
  fM_shift_72 S x3 0
def fM_shift_37  (S : qS) (x1 : Int32) (x2 : Int32) (y0 : Int32) : Option (qS) :=
  if x1 ≤ 31 then
    if x1 ≤ 0 then
      fM_shift_71 S y0
    else
      if (y0 >>> (x1 &&& 31)) = x2 then
        fM_shift_71 S y0
      else
        fM_shift_72 S y0 1
  else
    if x2 = 0 then
      fM_shift_72 S y0 0
    else
      fM_shift_72 S y0 1
def fM_shift  (S : qS) (a1 : Int32) (a2 : Int32) : Option (qS) :=
  if a1 ≤ 31 then
    if a1 < 0 then
      if (-31) ≤ a1 then
        fM_shift_37 S a1 a2 (a2 >>> ((-a1) &&& 31))
      else
        fM_shift_37 S a1 a2 (a2 >>> ((31 : Int32) &&& 31))
    else
      fM_shift_37 S a1 a2 (a2 <<< (a1 &&& 31))
  else
    fM_shift_37 S a1 a2 0
def fM_go_63  (S : qS) (x3 : Int32) : Option (qS) :=
  some (pA S 1 15 x3)
def fM_go_52  (S : qS) (x3 : Int32) : Option (qS) :=
  (fM_push S (gA S 1 15)).bind fun S1 =>
  fM_go_63 S1 x3
def fM_go_39  (S : qS) (x1 : Int32) (y0 : Int32) : Option (qS) :=
  if x1 = 47 then
    fM_go_52 S y0
  else
    if ¬ x1 = 49 then
      fM_go_63 S y0
    else
      fM_go_52 S y0
def fM_go_11  (S : qS) (x1 : Int32) (y0 : Int32) : Option (qS) :=
  if y0 = 0 then
    fM_go_39 S x1 (gA S 7 0)
  else
    fM_go_39 S x1 ((gA S 1 15) + (gA S 5 0))
def fM_go  (S : qS) (a1 : Int32) : Option (qS) :=
  if a1 ≤ 47 then
    fM_go_11 S a1 0
  else
    fM_go_11 S a1 1
def fM_isMet_131  (S : qS) (y0 : Int32) : Option (Int32 × qS) :=
  chk (isB y0) (some (y0, S))
def fM_isMet_123  (S : qS) (y0 : Int32) (y1 : Int32) : Option (Int32 × qS) :=
  if ¬ y0 = y1 then
    fM_isMet_131 S 0
  else
    fM_isMet_131 S 1
def fM_isMet_104  (S : qS) (x1 : Int32) (y0 : Int32) : Option (Int32 × qS) :=
  if ¬ ((x1 - 50) - (x1 - 50) / 2 * 2) = 1 then
    fM_isMet_123 S y0 0
  else
    fM_isMet_123 S y0 1
def fM_isMet_78  (S : qS) (x1 : Int32) : Option (Int32 × qS) :=
  fM_isMet_104 S x1 1
def fM_isMet_43  (S : qS) (x1 : Int32) : Option (Int32 × qS) :=
  fM_isMet_104 S x1 1
def fM_isMet  (S : qS) (a1 : Int32) : Option (Int32 × qS) :=
  (fM_has S 3).bind fun q1 =>
  (fM_has q1.2 2).bind fun q2 =>
  if ¬ ((a1 - 50) / 2) = 0 then
    if ¬ ((a1 - 50) / 2) = 1 then
      if ¬ ((a1 - 50) / 2) = 2 then
        if ¬ ((a1 - 50) / 2) = 3 then
          if ¬ ((a1 - 50) / 2) = 4 then
            (fM_has q2.2 0).bind fun q8 =>
            fM_isMet_104 q8.2 a1 q8.1
          else
            (fM_has q2.2 1).bind fun q9 =>
            fM_isMet_104 q9.2 a1 q9.1
        else
          (fM_has q2.2 0).bind fun q10 =>
          if ¬ q10.1 = 0 then
            fM_isMet_78 q10.2 a1
          else
            if q2.1 = 0 then
              fM_isMet_104 q10.2 a1 0
            else
              fM_isMet_78 q10.2 a1
      else
        fM_isMet_104 q2.2 a1 q1.1
    else
      if ¬ q1.1 = 0 then
        fM_isMet_43 q2.2 a1
      else
        if q2.1 = 0 then
          fM_isMet_104 q2.2 a1 0
        else
          fM_isMet_43 q2.2 a1
  else
    fM_isMet_104 q2.2 a1 q2.1
def fM_count_186  (S : qS) : Option (qS) :=
  some S
def fM_count_161  (S : qS) (x2 : Int32) (y0 : Int32) : Option (qS) :=
  if y0 = 0 then
    fM_count_186 S
  else
    chk (inb (x2 + 1) 3) <|
    fM_count_186 (pA S 1 15 ((gA S 1 15) + (gA S 5 (x2 + 1))))
def fM_count_71  (S : qS) (x1 : Int32) (x2 : Int32) (x3 : Int32) (y1 : Int32) (y2 : Int32) : Option (qS) :=
  (fM_has S 0).bind fun q1 =>
  (fM_mark q1.2 y1 y2 q1.1).bind fun S2 =>
  (fM_give S2 x2 x3 4).bind fun S3 =>
  if ¬ x1 = 64 then
    if ¬ x1 = 65 then
      if ¬ x1 = 66 then
        if (gA S3 5 0) < x3 then
          fM_count_161 S3 x2 0
        else
          fM_count_161 S3 x2 1
      else
        if (gA S3 5 0) ≤ x3 then
          fM_count_161 S3 x2 0
        else
          fM_count_161 S3 x2 1
    else
      if x3 < 0 then
        fM_count_161 S3 x2 0
      else
        fM_count_161 S3 x2 1
  else
    if x3 ≤ 0 then
      fM_count_161 S3 x2 0
    else
      fM_count_161 S3 x2 1
def fM_count_37  (S : qS) (x1 : Int32) (x2 : Int32) (y0 : Int32) : Option (qS) :=
  if 66 ≤ x1 then
    if ¬ y0 = (-2147483648) then
      fM_count_71 S x1 x2 y0 y0 0
    else
      fM_count_71 S x1 x2 y0 y0 1
  else
    if ¬ y0 = 2147483647 then
      fM_count_71 S x1 x2 y0 y0 0
    else
      fM_count_71 S x1 x2 y0 y0 1
def fM_count_11  (S : qS) (x1 : Int32) (y0 : Int32) : Option (qS) :=
  if 66 ≤ x1 then
    fM_count_37 S x1 y0 ((gA S 5 1) + 1)
  else
    fM_count_37 S x1 y0 ((gA S 5 0) - 1)
def fM_count  (S : qS) (a1 : Int32) : Option (qS) :=
  if 66 ≤ a1 then
    fM_count_11 S a1 1
  else
    fM_count_11 S a1 0
def fM_callFrame_101 (K75 : qS → Int32 → Int32 → Int32 → Int32 → Option (qS)) (S : qS) (x1 : Int32) (x2 : Int32) (x3 : Int32) (x4 : Int32) : Option (qS) :=
  K75 S x1 x2 x3 (x4 + (-1))
def fM_callFrame_75 : Nat → qS → Int32 → Int32 → Int32 → Int32 → Option (qS)
  | 0, _, _, _, _, _ => none
  | n + 1, S, x1, x2, x3, x4 =>
      if x4 < 0 then
        (fM_push S (gA S 1 15)).bind fun S2 =>
        (fM_push S2 (gA S2 1 13)).bind fun S3 =>
        (fM_push S3 (gA S3 1 12)).bind fun S4 =>
        (fM_push S4 ((((x3 <<< ((30 : Int32) &&& 31)) ||| 536870912) ||| ((x2 &&& 4095) <<< ((16 : Int32) &&& 31))) ||| ((S4.1 1) &&& 65535))).bind fun S5 =>
        (fM_push S5 0).bind fun S6 =>
        (fM_get S6 14).bind fun q7 =>
        some (pA (pI (pA (pA q7.2 1 13 q7.1) 1 12 x1) 1 ((((pA (pA q7.2 1 13 q7.1) 1 12 x1).1 1) &&& (-48)) ||| (((x2 >>> ((14 : Int32) &&& 31)) &&& 1) <<< ((5 : Int32) &&& 31)))) 1 15 ((gA (pI (pA (pA q7.2 1 13 q7.1) 1 12 x1) 1 ((((pA (pA q7.2 1 13 q7.1) 1 12 x1).1 1) &&& (-48)) ||| (((x2 >>> ((14 : Int32) &&& 31)) &&& 1) <<< ((5 : Int32) &&& 31)))) 7 1) + 2))
      else
        if ¬ ((x2 >>> (x4 &&& 31)) &&& 1) = 1 then
          fM_callFrame_101 (fM_callFrame_75 n) S x1 x2 x3 x4
        else
          chk (inb x4 16) <|
          (fM_push S (gA S 1 x4)).bind fun S10 =>
          fM_callFrame_101 (fM_callFrame_75 n) S10 x1 x2 x3 x4
def fM_callFrame_58  (S : qS) (x1 : Int32) (x2 : Int32) : Option (qS) :=
  (fM_put S 14 (x1 - (x1 &&& 3))).bind fun S1 =>
  fM_callFrame_75 300 S1 x1 x2 (x1 &&& 3) 11
def fM_callFrame  (S : qS) : Option (qS) :=
  (fM_push S (gA S 5 0)).bind fun S1 =>
  (fM_get S1 14).bind fun q2 =>
  (fM_readByte q2.2 (gA q2.2 7 1)).bind fun q3 =>
  (fM_readByte q3.2 ((gA q3.2 7 1) + 1)).bind fun q4 =>
  if ((q3.1 ||| (q4.1 <<< ((8 : Int32) &&& 31))) &&& 45056) = 0 then
    fM_callFrame_58 q4.2 q2.1 (q3.1 ||| (q4.1 <<< ((8 : Int32) &&& 31)))
  else
    (fM_wrong q4.2 2 0 0).bind fun S6 =>
    fM_callFrame_58 S6 q2.1 (q3.1 ||| (q4.1 <<< ((8 : Int32) &&& 31)))
def fM_probe_170  (S : qS) (y1 : Int32) : Option (qS) :=
  (fM_mark S y1 0 0).bind fun S1 =>
  some S1
def fM_probe_159  (S : qS) (x4 : Int32) : Option (qS) :=
  if x4 = 0 then
    fM_probe_170 S 1
  else
    fM_probe_170 S 0
def fM_probe_151 (K36 : qS → Int32 → Int32 → Int32 → Int32 → Option (qS)) (S : qS) (x1 : Int32) (x2 : Int32) (x5 : Int32) (y0 : Int32) : Option (qS) :=
  K36 S x1 x2 y0 (x5 + 1)
def fM_probe_146 (K36 : qS → Int32 → Int32 → Int32 → Int32 → Option (qS)) (S : qS) (x1 : Int32) (x2 : Int32) (x5 : Int32) : Option (qS) :=
  fM_probe_151 K36 S x1 x2 x5 1
def fM_probe_134 (K36 : qS → Int32 → Int32 → Int32 → Int32 → Option (qS)) (S : qS) (x1 : Int32) (x2 : Int32) (x5 : Int32) (x8 : Int32) : Option (qS) :=
  if x8 = 0 then
    fM_probe_146 K36 S x1 x2 x5
  else
    if x8 < 50 then
      fM_probe_151 K36 S x1 x2 x5 0
    else
      fM_probe_146 K36 S x1 x2 x5
def fM_probe_102 (K36 : qS → Int32 → Int32 → Int32 → Int32 → Option (qS)) (S : qS) (x1 : Int32) (x2 : Int32) (x5 : Int32) (x6 : Int32) (y0 : Int32) : Option (qS) :=
  if y0 ≤ 51 then
    fM_probe_134 K36 S x1 x2 x5 y0
  else
    if ¬ ((y0 - y0 / 10 * 10) - (y0 - y0 / 10 * 10) / 4 * 4) = 2 then
      fM_probe_134 K36 S x1 x2 x5 y0
    else
      (fM_wrong S 5 x6 (y0 - y0 / 10 * 10)).bind fun S3 =>
      fM_probe_134 K36 S3 x1 x2 x5 y0
def fM_probe_76 (K36 : qS → Int32 → Int32 → Int32 → Int32 → Option (qS)) (S : qS) (x1 : Int32) (x2 : Int32) (x5 : Int32) (y0 : Int32) : Option (qS) :=
  (fM_find S y0 x1 x2).bind fun q1 =>
  if 0 ≤ q1.1 then
    fM_probe_102 K36 q1.2 x1 x2 x5 y0 0
  else
    fM_probe_102 K36 q1.2 x1 x2 x5 y0 ((-10) - q1.1)
def fM_probe_36 : Nat → qS → Int32 → Int32 → Int32 → Int32 → Option (qS)
  | 0, _, _, _, _, _ => none
  | n + 1, S, x1, x2, x4, x5 =>
      if 2 ≤ x5 then
        fM_probe_159 S x4
      else
        if x4 = 0 then
          fM_probe_159 S x4
        else
          if ¬ x5 = 0 then
            fM_probe_76 (fM_probe_36 n) S x1 x2 x5 (((gA S 7 2) + (gA S 5 1)) - 1)
          else
            fM_probe_76 (fM_probe_36 n) S x1 x2 x5 (gA S 7 2)
def fM_probe_29  (S : qS) (x1 : Int32) (y0 : Int32) : Option (qS) :=
  fM_probe_36 300 S x1 y0 1 0
def fM_probe  (S : qS) (a1 : Int32) : Option (qS) :=
  if (((S.1 1) >>> ((22 : Int32) &&& 31)) &&& 3) ≤ ((gA S 5 0) &&& 3) then
    fM_probe_29 S a1 ((gA S 5 0) &&& 3)
  else
    fM_probe_29 S a1 (((S.1 1) >>> ((22 : Int32) &&& 31)) &&& 3)
def fM_work_379  (S : qS) : Option (qS) :=
  some S
def fM_work_88  (S : qS) (x1 : Int32) : Option (qS) :=
  (fM_innerOnes S x1).bind fun S1 =>
  fM_work_379 S1
def fM_work_140  (S : qS) (x1 : Int32) : Option (qS) :=
  (fM_reckon S (x1 - 25) 1 (gA S 5 0) 0).bind fun S1 =>
  fM_work_379 S1
def fM_work_376  (S : qS) (y1 : Int32) : Option (qS) :=
  (fM_probe S y1).bind fun S1 =>
  fM_work_379 S1
def fM_work_345  (S : qS) (x1 : Int32) : Option (qS) :=
  if ¬ x1 = 68 then
    if x1 ≤ 68 then
      fM_work_379 S
    else
      if ¬ x1 = 70 then
        fM_work_376 S 0
      else
        fM_work_376 S 1
  else
    (fM_callFrame S).bind fun S4 =>
    fM_work_379 S4
def fM_work_325  (S : qS) (x1 : Int32) : Option (qS) :=
  if x1 ≤ 63 then
    fM_work_345 S x1
  else
    if 68 ≤ x1 then
      fM_work_345 S x1
    else
      (fM_count S x1).bind fun S3 =>
      fM_work_379 S3
def fM_work_320  (S : qS) (y1 : Int32) (y2 : Int32) (y3 : Int32) : Option (qS) :=
  chk (inb y1 16) <|
  fM_work_379 (pA S 1 y1 (y2 + y3))
def fM_work_319  (S : qS) (y1 : Int32) (y2 : Int32) : Option (qS) :=
  fM_work_320 S y1 y2 0
def fM_work_315  (S : qS) (x2 : Int32) (y1 : Int32) (y2 : Int32) : Option (qS) :=
  fM_work_320 S y1 y2 x2
def fM_work_312  (S : qS) (x2 : Int32) (y1 : Int32) (y2 : Int32) (y3 : Int32) (y4 : Int32) : Option (qS) :=
  if ¬ y3 = y4 then
    fM_work_319 S y1 y2
  else
    fM_work_315 S x2 y1 y2
def fM_work_256  (S : qS) (x1 : Int32) (x2 : Int32) : Option (qS) :=
  if x1 ≤ 49 then
    fM_work_325 S x1
  else
    if 64 ≤ x1 then
      fM_work_325 S x1
    else
      if 62 ≤ x1 then
        if ¬ x1 = 62 then
          fM_work_312 S x2 15 (gA S 1 15) ((gA S 5 0) &&& 1) 0
        else
          fM_work_312 S x2 15 (gA S 1 15) ((gA S 5 0) &&& 1) 1
      else
        (fM_isMet S x1).bind fun q5 =>
        if q5.1 = 0 then
          fM_work_319 q5.2 15 (gA S 1 15)
        else
          fM_work_315 q5.2 x2 15 (gA S 1 15)
def fM_work_208  (S : qS) (x1 : Int32) (x2 : Int32) : Option (qS) :=
  if ¬ x1 = 41 then
    if x1 ≤ 45 then
      fM_work_256 S x1 x2
    else
      if 50 ≤ x1 then
        fM_work_256 S x1 x2
      else
        (fM_go S x1).bind fun S4 =>
        fM_work_379 S4
  else
    (fM_signed S (gA S 5 0)).bind fun q5 =>
    (fM_shift q5.2 q5.1 (gA q5.2 5 1)).bind fun S6 =>
    fM_work_379 S6
def fM_work_202  (S : qS) (y1 : Int32) (y2 : Int32) (y3 : Int32) (y4 : Int32) : Option (qS) :=
  (fM_reckon S y1 y2 y3 y4).bind fun S1 =>
  fM_work_379 S1
def fM_work_128  (S : qS) (x1 : Int32) (x2 : Int32) : Option (qS) :=
  if x1 = 25 then
    fM_work_140 S x1
  else
    if ¬ x1 = 26 then
      if x1 ≤ 26 then
        fM_work_208 S x1 x2
      else
        if 41 ≤ x1 then
          fM_work_208 S x1 x2
        else
          if 34 ≤ x1 then
            fM_work_202 S ((x1 - 27) - (x1 - 27) / 7 * 7) (gA S 5 0) (gA S 5 1) 2
          else
            fM_work_202 S ((x1 - 27) - (x1 - 27) / 7 * 7) (gA S 5 0) (gA S 5 1) 1
    else
      fM_work_140 S x1
def fM_work_120  (S : qS) (x1 : Int32) : Option (qS) :=
  (fM_move S x1).bind fun S1 =>
  fM_work_379 S1
def fM_work_108  (S : qS) (x1 : Int32) (x2 : Int32) : Option (qS) :=
  if x1 ≤ 41 then
    fM_work_128 S x1 x2
  else
    if 46 ≤ x1 then
      fM_work_128 S x1 x2
    else
      fM_work_120 S x1
def fM_work_15  (S : qS) (x1 : Int32) (y1 : Int32) : Option (qS) :=
  chk (inb y1 3) <|
  if ¬ x1 = 2 then
    if ¬ x1 = 3 then
      if ¬ x1 = 4 then
        if ¬ x1 = 5 then
          if x1 = 10 then
            fM_work_88 S x1
          else
            if ¬ x1 = 11 then
              if x1 ≤ 11 then
                fM_work_108 S x1 (gA S 5 y1)
              else
                if x1 < 25 then
                  fM_work_120 S x1
                else
                  fM_work_108 S x1 (gA S 5 y1)
            else
              fM_work_88 S x1
        else
          (fM_pop S).bind fun q10 =>
          fM_work_379 (pA q10.2 1 15 q10.1)
      else
        (fM_comeBack S).bind fun S11 =>
        fM_work_379 S11
    else
      (fM_wrong S 6 0 0).bind fun S12 =>
      fM_work_379 S12
  else
    (fM_endException S).bind fun S13 =>
    fM_work_379 S13
def fM_work  (S : qS) (a1 : Int32) : Option (qS) :=
  if 62 ≤ a1 then
    fM_work_15 S a1 1
  else
    fM_work_15 S a1 0
def fM_bringBack_28 : Nat → qS → Int32 → Option (qS)
  | 0, _, _ => none
  | n + 1, S, x1 =>
      if 4 ≤ x1 then
        some (pI S 1 (S.1 6))
      else
        chk (inb x1 4) <|
        chk (inb x1 57) <|
        (fM_bringBack_28 n) (pA S 2 x1 (gA S 4 x1)) (x1 + 1)
def fM_bringBack_2 : Nat → qS → Int32 → Option (qS)
  | 0, _, _ => none
  | n + 1, S, x1 =>
      if 16 ≤ x1 then
        fM_bringBack_28 300 S 0
      else
        chk (inb x1 16) <|
        chk (inb x1 16) <|
        (fM_bringBack_2 n) (pA S 1 x1 (gA S 3 x1)) (x1 + 1)
def fM_bringBack  (S : qS) : Option (qS) :=
  fM_bringBack_2 300 S 0
def fM_raise_106  (S : qS) (x1 : Int32) : Option (qS) :=
  if (S.1 7) = 0 then
    (fM_bare S ((gA S 2 17) + (4 * x1))).bind fun q2 =>
    some (pI (pI (pA q2.2 1 15 q2.1) 4 x1) 5 (((pI (pA q2.2 1 15 q2.1) 4 x1).1 5) + 1))
  else
    (fM_bringBack S).bind fun S3 =>
    some (pI S3 2 2)
def fM_raise_95  (S : qS) (x1 : Int32) (x3 : Int32) : Option (qS) :=
  if x1 ≤ 6 then
    fM_raise_106 S x1
  else
    (fM_push S x3).bind fun S2 =>
    fM_raise_106 S2 x1
def fM_raise_89  (S : qS) (x1 : Int32) (x3 : Int32) (x7 : Int32) : Option (qS) :=
  (fM_push S x7).bind fun S1 =>
  fM_raise_95 S1 x1 x3
def fM_raise_79  (S : qS) (x1 : Int32) (x3 : Int32) (x7 : Int32) : Option (qS) :=
  if x1 = 4 then
    fM_raise_89 S x1 x3 x7
  else
    if ¬ x1 = 5 then
      fM_raise_95 S x1 x3
    else
      fM_raise_89 S x1 x3 x7
def fM_raise_73  (S : qS) (x1 : Int32) (x3 : Int32) (x6 : Int32) (x7 : Int32) : Option (qS) :=
  (fM_push S x6).bind fun S1 =>
  fM_raise_79 S1 x1 x3 x7
def fM_raise  (S : qS) (a1 : Int32) (a2 : Int32) (a3 : Int32) : Option (qS) :=
  (fM_push (pI (pI S 7 0) 1 ((a2 <<< ((24 : Int32) &&& 31)) ||| ((((S.1 1) >>> ((24 : Int32) &&& 31)) &&& 3) <<< ((22 : Int32) &&& 31)))) (S.1 1)).bind fun S1 =>
  (fM_push S1 (gA S 1 15)).bind fun S2 =>
  if a1 = 4 then
    fM_raise_73 S2 a1 a3 (S.1 8) (S.1 9)
  else
    if ¬ a1 = 5 then
      fM_raise_79 S2 a1 a3 (S.1 9)
    else
      fM_raise_73 S2 a1 a3 (S.1 8) (S.1 9)
def fM_instruction_336  (S : qS) : Option (qS) :=
  some S
def fM_instruction_319  (S : qS) (x1 : Int32) (y0 : Int32) : Option (qS) :=
  (fM_raise S (x1 + 2) y0 (gA S 5 0)).bind fun S1 =>
  fM_instruction_336 S1
def fM_instruction_265  (S : qS) (x1 : Int32) : Option (qS) :=
  if (S.1 10) ≤ 0 then
    if x1 ≤ 5 then
      fM_instruction_336 S
    else
      if 10 ≤ x1 then
        fM_instruction_336 S
      else
        (fM_mode S).bind fun q4 =>
        if q4.1 ≤ (x1 - 6) then
          (fM_mode q4.2).bind fun q6 =>
          fM_instruction_319 q6.2 x1 q6.1
        else
          fM_instruction_319 q4.2 x1 (x1 - 6)
  else
    (fM_raise S 7 0 (S.1 10)).bind fun S7 =>
    fM_instruction_336 S7
def fM_instruction_254  (S : qS) : Option (qS) :=
  (fM_raise S 7 0 1).bind fun S1 =>
  fM_instruction_336 S1
def fM_instruction_242  (S : qS) (x1 : Int32) : Option (qS) :=
  if x1 ≤ 63 then
    fM_instruction_265 S x1
  else
    if 68 ≤ x1 then
      fM_instruction_265 S x1
    else
      fM_instruction_254 S
def fM_instruction_173  (S : qS) (x1 : Int32) : Option (qS) :=
  if ((pI S 3 ((S.1 3) + 1)).1 7) = 0 then
    if ¬ ((pI S 3 ((S.1 3) + 1)).1 10) = 0 then
      fM_instruction_265 (pI S 3 ((S.1 3) + 1)) x1
    else
      (fM_has (pI S 3 ((S.1 3) + 1)) 5).bind fun q3 =>
      if q3.1 = 0 then
        fM_instruction_265 q3.2 x1
      else
        (fM_has q3.2 1).bind fun q5 =>
        if q5.1 = 0 then
          fM_instruction_265 q5.2 x1
        else
          if x1 ≤ 16 then
            fM_instruction_242 q5.2 x1
          else
            if x1 < 42 then
              fM_instruction_254 q5.2
            else
              fM_instruction_242 q5.2 x1
  else
    (fM_bringBack (pI S 3 ((S.1 3) + 1))).bind fun S9 =>
    (fM_raise S9 (S9.1 7) 0 0).bind fun S10 =>
    fM_instruction_336 S10
def fM_instruction_157  (S : qS) (x1 : Int32) : Option (qS) :=
  if ¬ x1 = 0 then
    fM_instruction_173 S x1
  else
    if ¬ (S.1 7) = 0 then
      fM_instruction_173 S x1
    else
      fM_instruction_173 (pI S 2 1) x1
def fM_instruction_145  (S : qS) (x1 : Int32) : Option (qS) :=
  if ¬ (S.1 7) = 0 then
    fM_instruction_157 S x1
  else
    (fM_work S x1).bind fun S2 =>
    fM_instruction_157 S2 x1
def fM_instruction_134 (K81 : qS → Int32 → Int32 → Int32 → Option (qS)) (S : qS) (x1 : Int32) (x3 : Int32) (x4 : Int32) : Option (qS) :=
  K81 S x1 (x3 / 32) (x4 + 1)
def fM_instruction_81 : Nat → qS → Int32 → Int32 → Int32 → Option (qS)
  | 0, _, _, _, _ => none
  | n + 1, S, x1, x3, x4 =>
      if 3 ≤ x4 then
        fM_instruction_145 S x1
      else
        if ¬ (S.1 7) = 0 then
          fM_instruction_145 S x1
        else
          if x3 ≤ 0 then
            fM_instruction_145 S x1
          else
            if ¬ (x3 - x3 / 32 * 32) = 16 then
              (fM_operand S x4 (x3 - x3 / 32 * 32)).bind fun S5 =>
              fM_instruction_134 (fM_instruction_81 n) S5 x1 x3 x4
            else
              (fM_next S).bind fun q6 =>
              (fM_signed q6.2 q6.1).bind fun q7 =>
              chk (inb x4 3) <|
              fM_instruction_134 (fM_instruction_81 n) (pA q7.2 5 x4 q7.1) x1 x3 x4
def fM_instruction_77  (S : qS) (x1 : Int32) (y0 : Int32) : Option (qS) :=
  fM_instruction_81 300 S x1 y0 0
def fM_instruction_65  (S : qS) (x1 : Int32) (x2 : Int32) : Option (qS) :=
  if x2 = 0 then
    (fM_shape S x1).bind fun q2 =>
    fM_instruction_77 q2.2 x1 q2.1
  else
    fM_instruction_77 S x1 0
def fM_instruction_53  (S : qS) (x1 : Int32) (y0 : Int32) : Option (qS) :=
  if y0 = 0 then
    fM_instruction_65 S x1 y0
  else
    (fM_wrong S 1 0 0).bind fun S2 =>
    fM_instruction_65 S2 x1 y0
def fM_instruction_48  (S : qS) (x1 : Int32) : Option (qS) :=
  fM_instruction_53 S x1 1
def fM_instruction_52  (S : qS) (x1 : Int32) : Option (qS) :=
  fM_instruction_53 S x1 0
def fM_instruction_41  (S : qS) (x1 : Int32) : Option (qS) :=
  (fM_mode S).bind fun q1 =>
  if q1.1 = 0 then
    fM_instruction_52 q1.2 x1
  else
    fM_instruction_48 q1.2 x1
def fM_instruction  (S : qS) : Option (qS) :=
  (fM_keep S).bind fun S1 =>
  (fM_next (pI (pI S1 7 0) 10 0)).bind fun q2 =>
  if 70 < q2.1 then
    fM_instruction_48 q2.2 q2.1
  else
    if q2.1 = 0 then
      fM_instruction_41 q2.2 q2.1
    else
      if q2.1 = 10 then
        fM_instruction_41 q2.2 q2.1
      else
        if ¬ q2.1 = 11 then
          fM_instruction_52 q2.2 q2.1
        else
          fM_instruction_41 q2.2 q2.1
def fM_run_12  (S : qS) : Option (Int32 × qS) :=
  (fM_fail S 1).bind fun q1 =>
  some (q1.1, q1.2)
def fM_run_60  (S : qS) (x2 : Int32) : Option (Int32 × qS) :=
  some (x2, S)
def fM_run_38 : Nat → qS → Int32 → Int32 → Option (Int32 × qS)
  | 0, _, _, _ => none
  | n + 1, S, x1, x2 =>
      if x1 ≤ x2 then
        fM_run_60 S x2
      else
        if ¬ (S.1 2) = 0 then
          fM_run_60 S x2
        else
          (fM_instruction S).bind fun S3 =>
          (fM_run_38 n) S3 x1 (x2 + 1)
def fM_run  (S : qS) (a1 : Int32) : Option (Int32 × qS) :=
  if a1 < 1 then
    fM_run_12 S
  else
    if a1 ≤ 200 then
      if (S.1 2) = 0 then
        fM_run_38 300 (pI S 0 0) a1 0
      else
        (fM_fail S 2).bind fun q4 =>
        some (q4.1, q4.2)
    else
      fM_run_12 S
def fM_reach_9  (S : qS) : Option (Int32 × qS) :=
  (fM_fail S 1).bind fun q1 =>
  some (q1.1, q1.2)
def fM_reach  (S : qS) (a1 : Int32) (a2 : Int32) (a3 : Int32) : Option (Int32 × qS) :=
  if a3 < 0 then
    fM_reach_9 S
  else
    if a3 ≤ 3 then
      (fM_find (pI S 0 0) a1 a2 a3).bind fun q3 =>
      some (q3.1, q3.2)
    else
      fM_reach_9 S
def fM_state_53  (S : qS) (y0 : Int32) : Option (Int32 × qS) :=
  some (y0, S)
def fM_state  (S : qS) (a1 : Int32) : Option (Int32 × qS) :=
  if ¬ a1 = 0 then
    if ¬ a1 = 1 then
      if ¬ a1 = 2 then
        if ¬ a1 = 3 then
          fM_state_53 (pI S 0 0) (-1)
        else
          fM_state_53 (pI S 0 0) ((pI S 0 0).1 5)
      else
        fM_state_53 (pI S 0 0) ((pI S 0 0).1 4)
    else
      fM_state_53 (pI S 0 0) ((pI S 0 0).1 3)
  else
    fM_state_53 (pI S 0 0) ((pI S 0 0).1 2)
end
section
theorem qm_JI_compare_0 : decode qm_JI_compare_c 0 = .ok (.iload_n 0, 1) := by decide +kernel
theorem qm_JI_compare_1 : decode qm_JI_compare_c 1 = .ok (.iload_n 1, 1) := by decide +kernel
theorem qm_JI_compare_2 : decode qm_JI_compare_c 2 = .ok (.if_icmp .ge 7, 3) := by decide +kernel
theorem qm_JI_compare_5 : decode qm_JI_compare_c 5 = .ok (.iconst (-1), 1) := by decide +kernel
theorem qm_JI_compare_6 : decode qm_JI_compare_c 6 = .ok (.goto 13, 3) := by decide +kernel
theorem qm_JI_compare_9 : decode qm_JI_compare_c 9 = .ok (.iload_n 0, 1) := by decide +kernel
theorem qm_JI_compare_10 : decode qm_JI_compare_c 10 = .ok (.iload_n 1, 1) := by decide +kernel
theorem qm_JI_compare_11 : decode qm_JI_compare_c 11 = .ok (.if_icmp .ne 7, 3) := by decide +kernel
theorem qm_JI_compare_14 : decode qm_JI_compare_c 14 = .ok (.iconst 0, 1) := by decide +kernel
theorem qm_JI_compare_15 : decode qm_JI_compare_c 15 = .ok (.goto 4, 3) := by decide +kernel
theorem qm_JI_compare_18 : decode qm_JI_compare_c 18 = .ok (.iconst 1, 1) := by decide +kernel
theorem qm_JI_compare_19 : decode qm_JI_compare_c 19 = .ok (.ireturn, 1) := by decide +kernel
theorem qm_JI_compareUnsigned_0 : decode qm_JI_compareUnsigned_c 0 = .ok (.iload_n 0, 1) := by decide +kernel
theorem qm_JI_compareUnsigned_1 : decode qm_JI_compareUnsigned_c 1 = .ok (.ldc 127, 2) := by decide +kernel
theorem qm_JI_compareUnsigned_3 : decode qm_JI_compareUnsigned_c 3 = .ok (.iadd, 1) := by decide +kernel
theorem qm_JI_compareUnsigned_4 : decode qm_JI_compareUnsigned_c 4 = .ok (.iload_n 1, 1) := by decide +kernel
theorem qm_JI_compareUnsigned_5 : decode qm_JI_compareUnsigned_c 5 = .ok (.ldc 127, 2) := by decide +kernel
theorem qm_JI_compareUnsigned_7 : decode qm_JI_compareUnsigned_c 7 = .ok (.iadd, 1) := by decide +kernel
theorem qm_JI_compareUnsigned_8 : decode qm_JI_compareUnsigned_c 8 = .ok (.invokestatic 259, 3) := by decide +kernel
theorem qm_JI_compareUnsigned_11 : decode qm_JI_compareUnsigned_c 11 = .ok (.ireturn, 1) := by decide +kernel
set_option maxHeartbeats 4000000 in
set_option maxRecDepth 100000 in
theorem wJI_compare_19 {l : Launch} {D : va_G} {h : Nat → Nat} {K : Nat → ClassId} {res : Int32 × qS} {p : Program} {e : Env} {s : State} {m : MethodId} {args : Array Value} {below : List Frame} {meth : Method} {c : Code} {A : Nat → Prop} {ad : Nat → Nat} (C : qC p s m args meth c qm_JI_compare_c 2 (some .int) "java/lang/Integer" ad) (S : qS) (y0 : Int32) (hf : fJI_compare_19 S y0 = some res) : ∀ (H : Heap) (locs : List Loc) (ls : Array Slot), qG D qCl (cT K) A s (cW h K S) H locs → lv_has ls 2 [] → W p l e ({ frames := 0, cells := 0, slots := 0, locals := 0 }) s m args below meth c H locs 0 0 (MQ below (qQi D qCl (cT K) (cW h K) A res) args s 0 0 A) (F0 m 19 ls [.int y0]) := by
  intro H locs ls G hl
  unfold fJI_compare_19 at hf
  exact q_iret (wf := (cW h K)) C G hf qm_JI_compare_19
set_option maxHeartbeats 4000000 in
set_option maxRecDepth 100000 in
theorem wJI_compare {l : Launch} {D : va_G} {h : Nat → Nat} {K : Nat → ClassId} {res : Int32 × qS} {p : Program} {e : Env} {s : State} {m : MethodId} {args : Array Value} {below : List Frame} {meth : Method} {c : Code} {A : Nat → Prop} {ad : Nat → Nat} (C : qC p s m args meth c qm_JI_compare_c 2 (some .int) "java/lang/Integer" ad) (S : qS) (a0 : Int32) (a1 : Int32) (hf : fJI_compare S a0 a1 = some res) : ∀ (H : Heap) (locs : List Loc) (ls : Array Slot), qG D qCl (cT K) A s (cW h K S) H locs → lv_has ls 2 [(0, .int a0), (1, .int a1)] → W p l e ({ frames := 0, cells := 0, slots := 0, locals := 0 }) s m args below meth c H locs 0 0 (MQ below (qQi D qCl (cT K) (cW h K) A res) args s 0 0 A) (F0 m 0 ls []) := by
  intro H locs ls G hl
  unfold fJI_compare at hf
  refine lv_iload_n C.1 C.2.1 qm_JI_compare_0 rfl (lv_at hl 0 rfl) ?_
  refine lv_iload_n C.1 C.2.1 qm_JI_compare_1 rfl (lv_at hl 1 rfl) ?_
  refine lv_icmp_ge (tgt := 9) C.1 C.2.1 qm_JI_compare_2 (by decide) (fun b1 => ?_) (fun b1 => ?_)
  · have hf := if_t b1 hf
    refine lv_iload_n C.1 C.2.1 qm_JI_compare_9 rfl (lv_at hl 0 rfl) ?_
    refine lv_iload_n C.1 C.2.1 qm_JI_compare_10 rfl (lv_at hl 1 rfl) ?_
    refine lv_icmp_ne (tgt := 18) C.1 C.2.1 qm_JI_compare_11 (by decide) (fun b2 => ?_) (fun b2 => ?_)
    · have hf := if_t b2 hf
      refine lv_iconst (v := 1) C.1 C.2.1 qm_JI_compare_18 (by decide) ?_
      exact wJI_compare_19 C S 1 hf _ _ _ G (lv_sub hl [] rfl)
    · have hf := if_f (not_not_intro b2) hf
      refine lv_iconst (v := 0) C.1 C.2.1 qm_JI_compare_14 (by decide) ?_
      refine lv_goto (tgt := 19) C.1 C.2.1 qm_JI_compare_15 (by decide) ?_
      exact wJI_compare_19 C S 0 hf _ _ _ G (lv_sub hl [] rfl)
  · have hf := if_f b1 hf
    refine lv_iconst (v := (-1)) C.1 C.2.1 qm_JI_compare_5 (by decide) ?_
    refine lv_goto (tgt := 19) C.1 C.2.1 qm_JI_compare_6 (by decide) ?_
    exact wJI_compare_19 C S (-1) hf _ _ _ G (lv_sub hl [] rfl)
theorem kJI_compare {l : Launch} {ad : Nat → Nat} {D : va_G} {h : Nat → Nat} {K : Nat → ClassId} {res : Int32 × qS} {S : qS} {a0 : Int32} {a1 : Int32} (hf : fJI_compare S a0 a1 = some res) : qMi l qm_JI_compare qm_JI_compare_c 2 .int 0 0 D qCl (cT K) ad (cW h K) [.int a0, .int a1] S res := qMi_of (by decide) (Nat.le_of_ble_eq_true rfl) (fun _ _ _ _ _ _ _ _ _ _ C G hl => wJI_compare C S a0 a1 hf _ _ _ G hl)
set_option maxHeartbeats 4000000 in
set_option maxRecDepth 100000 in
theorem wJI_compareUnsigned {l : Launch} {D : va_G} {h : Nat → Nat} {K : Nat → ClassId} {res : Int32 × qS} {p : Program} {e : Env} {s : State} {m : MethodId} {args : Array Value} {below : List Frame} {meth : Method} {c : Code} {A : Nat → Prop} {ad : Nat → Nat} (C : qC p s m args meth c qm_JI_compareUnsigned_c 2 (some .int) "java/lang/Integer" ad) (S : qS) (a0 : Int32) (a1 : Int32) (hf : fJI_compareUnsigned S a0 a1 = some res) : ∀ (H : Heap) (locs : List Loc) (ls : Array Slot), qG D qCl (cT K) A s (cW h K S) H locs → lv_has ls 2 [(0, .int a0), (1, .int a1)] → W p l e ({ frames := 1, cells := 0, slots := 0, locals := 21 }) s m args below meth c H locs 0 0 (MQ below (qQi D qCl (cT K) (cW h K) A res) args s 0 0 A) (F0 m 0 ls []) := by
  intro H locs ls G hl
  unfold fJI_compareUnsigned at hf
  refine lv_iload_n C.1 C.2.1 qm_JI_compareUnsigned_0 rfl (lv_at hl 0 rfl) ?_
  refine lv_ldc (own := "java/lang/Integer") (v := (-2147483648)) C.1 C.2.1 C.2.2.2.1 (C.2.2.2.2.1 _ qz_213) qm_JI_compareUnsigned_1 ?_
  refine lv_iadd C.1 C.2.1 qm_JI_compareUnsigned_3 ?_
  refine lv_iload_n C.1 C.2.1 qm_JI_compareUnsigned_4 rfl (lv_at hl 1 rfl) ?_
  refine lv_ldc (own := "java/lang/Integer") (v := (-2147483648)) C.1 C.2.1 C.2.2.2.1 (C.2.2.2.2.1 _ qz_213) qm_JI_compareUnsigned_5 ?_
  refine lv_iadd C.1 C.2.1 qm_JI_compareUnsigned_7 ?_
  obtain ⟨q1, c1, hf⟩ := bnd_s hf
  refine q_callSi (wf := (cW h K)) (n := 2) (As := [.int (a0 + (-2147483648)), .int (a1 + (-2147483648))]) C G hl.1 (kJI_compare (l := l) c1) qx_JI_259 qm_JI_compare_d ⟨by decide, by decide⟩ ⟨Nat.le_refl _, Nat.le_refl _⟩ rfl rfl (Nat.le_of_ble_eq_true rfl) qm_JI_compareUnsigned_8 (fun H locs G => ?_)
  exact q_iret (wf := (cW h K)) C G hf qm_JI_compareUnsigned_11
theorem kJI_compareUnsigned {l : Launch} {ad : Nat → Nat} {D : va_G} {h : Nat → Nat} {K : Nat → ClassId} {res : Int32 × qS} {S : qS} {a0 : Int32} {a1 : Int32} (hf : fJI_compareUnsigned S a0 a1 = some res) : qMi l qm_JI_compareUnsigned qm_JI_compareUnsigned_c 2 .int 1 21 D qCl (cT K) ad (cW h K) [.int a0, .int a1] S res := qMi_of (by decide) (Nat.le_of_ble_eq_true rfl) (fun _ _ _ _ _ _ _ _ _ _ C G hl => wJI_compareUnsigned C S a0 a1 hf _ _ _ G hl)
end
section
theorem qm_St_putByte_0 : decode qm_St_putByte_c 0 = .ok (.aload_n 0, 1) := by decide +kernel
theorem qm_St_putByte_1 : decode qm_St_putByte_c 1 = .ok (.getfield 9, 3) := by decide +kernel
theorem qm_St_putByte_4 : decode qm_St_putByte_c 4 = .ok (.iload_n 1, 1) := by decide +kernel
theorem qm_St_putByte_5 : decode qm_St_putByte_c 5 = .ok (.sipush 2047, 3) := by decide +kernel
theorem qm_St_putByte_8 : decode qm_St_putByte_c 8 = .ok (.iand, 1) := by decide +kernel
theorem qm_St_putByte_9 : decode qm_St_putByte_c 9 = .ok (.iload_n 2, 1) := by decide +kernel
theorem qm_St_putByte_10 : decode qm_St_putByte_c 10 = .ok (.i2b, 1) := by decide +kernel
theorem qm_St_putByte_11 : decode qm_St_putByte_c 11 = .ok (.bastore, 1) := by decide +kernel
theorem qm_St_putByte_12 : decode qm_St_putByte_c 12 = .ok (.return_, 1) := by decide +kernel
theorem qm_St_longAt_0 : decode qm_St_longAt_c 0 = .ok (.aload_n 0, 1) := by decide +kernel
theorem qm_St_longAt_1 : decode qm_St_longAt_c 1 = .ok (.getfield 9, 3) := by decide +kernel
theorem qm_St_longAt_4 : decode qm_St_longAt_c 4 = .ok (.iload_n 1, 1) := by decide +kernel
theorem qm_St_longAt_5 : decode qm_St_longAt_c 5 = .ok (.sipush 2047, 3) := by decide +kernel
theorem qm_St_longAt_8 : decode qm_St_longAt_c 8 = .ok (.iand, 1) := by decide +kernel
theorem qm_St_longAt_9 : decode qm_St_longAt_c 9 = .ok (.baload, 1) := by decide +kernel
theorem qm_St_longAt_10 : decode qm_St_longAt_c 10 = .ok (.sipush 255, 3) := by decide +kernel
theorem qm_St_longAt_13 : decode qm_St_longAt_c 13 = .ok (.iand, 1) := by decide +kernel
theorem qm_St_longAt_14 : decode qm_St_longAt_c 14 = .ok (.aload_n 0, 1) := by decide +kernel
theorem qm_St_longAt_15 : decode qm_St_longAt_c 15 = .ok (.getfield 9, 3) := by decide +kernel
theorem qm_St_longAt_18 : decode qm_St_longAt_c 18 = .ok (.iload_n 1, 1) := by decide +kernel
theorem qm_St_longAt_19 : decode qm_St_longAt_c 19 = .ok (.iconst 1, 1) := by decide +kernel
theorem qm_St_longAt_20 : decode qm_St_longAt_c 20 = .ok (.iadd, 1) := by decide +kernel
theorem qm_St_longAt_21 : decode qm_St_longAt_c 21 = .ok (.sipush 2047, 3) := by decide +kernel
theorem qm_St_longAt_24 : decode qm_St_longAt_c 24 = .ok (.iand, 1) := by decide +kernel
theorem qm_St_longAt_25 : decode qm_St_longAt_c 25 = .ok (.baload, 1) := by decide +kernel
theorem qm_St_longAt_26 : decode qm_St_longAt_c 26 = .ok (.sipush 255, 3) := by decide +kernel
theorem qm_St_longAt_29 : decode qm_St_longAt_c 29 = .ok (.iand, 1) := by decide +kernel
theorem qm_St_longAt_30 : decode qm_St_longAt_c 30 = .ok (.bipush 8, 2) := by decide +kernel
theorem qm_St_longAt_32 : decode qm_St_longAt_c 32 = .ok (.ishl, 1) := by decide +kernel
theorem qm_St_longAt_33 : decode qm_St_longAt_c 33 = .ok (.ior, 1) := by decide +kernel
theorem qm_St_longAt_34 : decode qm_St_longAt_c 34 = .ok (.aload_n 0, 1) := by decide +kernel
theorem qm_St_longAt_35 : decode qm_St_longAt_c 35 = .ok (.getfield 9, 3) := by decide +kernel
theorem qm_St_longAt_38 : decode qm_St_longAt_c 38 = .ok (.iload_n 1, 1) := by decide +kernel
theorem qm_St_longAt_39 : decode qm_St_longAt_c 39 = .ok (.iconst 2, 1) := by decide +kernel
theorem qm_St_longAt_40 : decode qm_St_longAt_c 40 = .ok (.iadd, 1) := by decide +kernel
theorem qm_St_longAt_41 : decode qm_St_longAt_c 41 = .ok (.sipush 2047, 3) := by decide +kernel
theorem qm_St_longAt_44 : decode qm_St_longAt_c 44 = .ok (.iand, 1) := by decide +kernel
theorem qm_St_longAt_45 : decode qm_St_longAt_c 45 = .ok (.baload, 1) := by decide +kernel
theorem qm_St_longAt_46 : decode qm_St_longAt_c 46 = .ok (.sipush 255, 3) := by decide +kernel
theorem qm_St_longAt_49 : decode qm_St_longAt_c 49 = .ok (.iand, 1) := by decide +kernel
theorem qm_St_longAt_50 : decode qm_St_longAt_c 50 = .ok (.bipush 16, 2) := by decide +kernel
theorem qm_St_longAt_52 : decode qm_St_longAt_c 52 = .ok (.ishl, 1) := by decide +kernel
theorem qm_St_longAt_53 : decode qm_St_longAt_c 53 = .ok (.ior, 1) := by decide +kernel
theorem qm_St_longAt_54 : decode qm_St_longAt_c 54 = .ok (.aload_n 0, 1) := by decide +kernel
theorem qm_St_longAt_55 : decode qm_St_longAt_c 55 = .ok (.getfield 9, 3) := by decide +kernel
theorem qm_St_longAt_58 : decode qm_St_longAt_c 58 = .ok (.iload_n 1, 1) := by decide +kernel
theorem qm_St_longAt_59 : decode qm_St_longAt_c 59 = .ok (.iconst 3, 1) := by decide +kernel
theorem qm_St_longAt_60 : decode qm_St_longAt_c 60 = .ok (.iadd, 1) := by decide +kernel
theorem qm_St_longAt_61 : decode qm_St_longAt_c 61 = .ok (.sipush 2047, 3) := by decide +kernel
theorem qm_St_longAt_64 : decode qm_St_longAt_c 64 = .ok (.iand, 1) := by decide +kernel
theorem qm_St_longAt_65 : decode qm_St_longAt_c 65 = .ok (.baload, 1) := by decide +kernel
theorem qm_St_longAt_66 : decode qm_St_longAt_c 66 = .ok (.bipush 24, 2) := by decide +kernel
theorem qm_St_longAt_68 : decode qm_St_longAt_c 68 = .ok (.ishl, 1) := by decide +kernel
theorem qm_St_longAt_69 : decode qm_St_longAt_c 69 = .ok (.ior, 1) := by decide +kernel
theorem qm_St_longAt_70 : decode qm_St_longAt_c 70 = .ok (.ireturn, 1) := by decide +kernel
theorem qm_St_byteAt_0 : decode qm_St_byteAt_c 0 = .ok (.aload_n 0, 1) := by decide +kernel
theorem qm_St_byteAt_1 : decode qm_St_byteAt_c 1 = .ok (.getfield 9, 3) := by decide +kernel
theorem qm_St_byteAt_4 : decode qm_St_byteAt_c 4 = .ok (.iload_n 1, 1) := by decide +kernel
theorem qm_St_byteAt_5 : decode qm_St_byteAt_c 5 = .ok (.sipush 2047, 3) := by decide +kernel
theorem qm_St_byteAt_8 : decode qm_St_byteAt_c 8 = .ok (.iand, 1) := by decide +kernel
theorem qm_St_byteAt_9 : decode qm_St_byteAt_c 9 = .ok (.baload, 1) := by decide +kernel
theorem qm_St_byteAt_10 : decode qm_St_byteAt_c 10 = .ok (.sipush 255, 3) := by decide +kernel
theorem qm_St_byteAt_13 : decode qm_St_byteAt_c 13 = .ok (.iand, 1) := by decide +kernel
theorem qm_St_byteAt_14 : decode qm_St_byteAt_c 14 = .ok (.ireturn, 1) := by decide +kernel
set_option maxHeartbeats 4000000 in
set_option maxRecDepth 100000 in
theorem wSt_putByte {l : Launch} {D : va_G} {h : Nat → Nat} {K : Nat → ClassId} {res : qS} {p : Program} {e : Env} {s : State} {m : MethodId} {args : Array Value} {below : List Frame} {meth : Method} {c : Code} {A : Nat → Prop} {ad : Nat → Nat} (C : qC p s m args meth c qm_St_putByte_c 3 none qR_St ad) (S : qS) (a1 : Int32) (a2 : Int32) (hf : fSt_putByte S a1 a2 = some res) : ∀ (H : Heap) (locs : List Loc) (ls : Array Slot), qG D qCl (cT K) A s (cW h K S) H locs → lv_has ls 3 [(0, .ref (h 1)), (1, .int a1), (2, .int a2)] → W p l e ({ frames := 0, cells := 0, slots := 0, locals := 0 }) s m args below meth c H locs 0 0 (MQ below (qQv D qCl (cT K) (cW h K) A res) args s 0 0 A) (F0 m 0 ls []) := by
  intro H locs ls G hl
  unfold fSt_putByte at hf
  refine lv_aload_n C.1 C.2.1 qm_St_putByte_0 rfl (lv_at hl 0 rfl) ?_
  refine q_get (wf := (cW h K)) (v := .ref (h 2)) C G qi_St 1 rfl rfl 0 (by decide) qz_0 rfl qm_St_putByte_1 ?_
  refine lv_iload_n C.1 C.2.1 qm_St_putByte_4 rfl (lv_at hl 1 rfl) ?_
  refine lv_sipush (v := 2047) C.1 C.2.1 qm_St_putByte_5 (by decide) ?_
  refine lv_iand C.1 C.2.1 qm_St_putByte_8 ?_
  refine lv_iload_n C.1 C.2.1 qm_St_putByte_9 rfl (lv_at hl 2 rfl) ?_
  refine lv_i2b (v := a2.toInt8.toInt32) C.1 C.2.1 qm_St_putByte_10 rfl ?_
  obtain ⟨b1, hf⟩ := chk_s hf
  refine q_bast (wf := (cW h K)) (S' := (pA S 0 (a1 &&& 2047) (vp_nar .byte a2.toInt8.toInt32))) C G 2 0 rfl rfl b1 rfl qm_St_putByte_11 (fun H locs G => ?_)
  exact q_vret (wf := (cW h K)) C G hf qm_St_putByte_12
theorem kSt_putByte {l : Launch} {ad : Nat → Nat} {D : va_G} {h : Nat → Nat} {K : Nat → ClassId} {res : qS} {S : qS} {a1 : Int32} {a2 : Int32} (hf : fSt_putByte S a1 a2 = some res) : qMv l qm_St_putByte qm_St_putByte_c 3 0 0 D qCl (cT K) ad (cW h K) [.ref (h 1), .int a1, .int a2] S res := qMv_of (by decide) (Nat.le_of_ble_eq_true rfl) (fun _ _ _ _ _ _ _ _ _ _ C G hl => wSt_putByte C S a1 a2 hf _ _ _ G hl)
set_option maxHeartbeats 4000000 in
set_option maxRecDepth 100000 in
theorem wSt_longAt {l : Launch} {D : va_G} {h : Nat → Nat} {K : Nat → ClassId} {res : Int32 × qS} {p : Program} {e : Env} {s : State} {m : MethodId} {args : Array Value} {below : List Frame} {meth : Method} {c : Code} {A : Nat → Prop} {ad : Nat → Nat} (C : qC p s m args meth c qm_St_longAt_c 2 (some .int) qR_St ad) (S : qS) (a1 : Int32) (hf : fSt_longAt S a1 = some res) : ∀ (H : Heap) (locs : List Loc) (ls : Array Slot), qG D qCl (cT K) A s (cW h K S) H locs → lv_has ls 2 [(0, .ref (h 1)), (1, .int a1)] → W p l e ({ frames := 0, cells := 0, slots := 0, locals := 0 }) s m args below meth c H locs 0 0 (MQ below (qQi D qCl (cT K) (cW h K) A res) args s 0 0 A) (F0 m 0 ls []) := by
  intro H locs ls G hl
  unfold fSt_longAt at hf
  refine lv_aload_n C.1 C.2.1 qm_St_longAt_0 rfl (lv_at hl 0 rfl) ?_
  refine q_get (wf := (cW h K)) (v := .ref (h 2)) C G qi_St 1 rfl rfl 0 (by decide) qz_0 rfl qm_St_longAt_1 ?_
  refine lv_iload_n C.1 C.2.1 qm_St_longAt_4 rfl (lv_at hl 1 rfl) ?_
  refine lv_sipush (v := 2047) C.1 C.2.1 qm_St_longAt_5 (by decide) ?_
  refine lv_iand C.1 C.2.1 qm_St_longAt_8 ?_
  obtain ⟨b1, hf⟩ := chk_s hf
  refine q_bald (wf := (cW h K)) C G 2 0 rfl rfl b1 qm_St_longAt_9 ?_
  refine lv_sipush (v := 255) C.1 C.2.1 qm_St_longAt_10 (by decide) ?_
  refine lv_iand C.1 C.2.1 qm_St_longAt_13 ?_
  refine lv_aload_n C.1 C.2.1 qm_St_longAt_14 rfl (lv_at hl 0 rfl) ?_
  refine q_get (wf := (cW h K)) (v := .ref (h 2)) C G qi_St 1 rfl rfl 0 (by decide) qz_0 rfl qm_St_longAt_15 ?_
  refine lv_iload_n C.1 C.2.1 qm_St_longAt_18 rfl (lv_at hl 1 rfl) ?_
  refine lv_iconst (v := 1) C.1 C.2.1 qm_St_longAt_19 (by decide) ?_
  refine lv_iadd C.1 C.2.1 qm_St_longAt_20 ?_
  refine lv_sipush (v := 2047) C.1 C.2.1 qm_St_longAt_21 (by decide) ?_
  refine lv_iand C.1 C.2.1 qm_St_longAt_24 ?_
  obtain ⟨b2, hf⟩ := chk_s hf
  refine q_bald (wf := (cW h K)) C G 2 0 rfl rfl b2 qm_St_longAt_25 ?_
  refine lv_sipush (v := 255) C.1 C.2.1 qm_St_longAt_26 (by decide) ?_
  refine lv_iand C.1 C.2.1 qm_St_longAt_29 ?_
  refine lv_bipush (v := 8) C.1 C.2.1 qm_St_longAt_30 (by decide) ?_
  refine lv_ishl C.1 C.2.1 qm_St_longAt_32 ?_
  refine lv_ior C.1 C.2.1 qm_St_longAt_33 ?_
  refine lv_aload_n C.1 C.2.1 qm_St_longAt_34 rfl (lv_at hl 0 rfl) ?_
  refine q_get (wf := (cW h K)) (v := .ref (h 2)) C G qi_St 1 rfl rfl 0 (by decide) qz_0 rfl qm_St_longAt_35 ?_
  refine lv_iload_n C.1 C.2.1 qm_St_longAt_38 rfl (lv_at hl 1 rfl) ?_
  refine lv_iconst (v := 2) C.1 C.2.1 qm_St_longAt_39 (by decide) ?_
  refine lv_iadd C.1 C.2.1 qm_St_longAt_40 ?_
  refine lv_sipush (v := 2047) C.1 C.2.1 qm_St_longAt_41 (by decide) ?_
  refine lv_iand C.1 C.2.1 qm_St_longAt_44 ?_
  obtain ⟨b3, hf⟩ := chk_s hf
  refine q_bald (wf := (cW h K)) C G 2 0 rfl rfl b3 qm_St_longAt_45 ?_
  refine lv_sipush (v := 255) C.1 C.2.1 qm_St_longAt_46 (by decide) ?_
  refine lv_iand C.1 C.2.1 qm_St_longAt_49 ?_
  refine lv_bipush (v := 16) C.1 C.2.1 qm_St_longAt_50 (by decide) ?_
  refine lv_ishl C.1 C.2.1 qm_St_longAt_52 ?_
  refine lv_ior C.1 C.2.1 qm_St_longAt_53 ?_
  refine lv_aload_n C.1 C.2.1 qm_St_longAt_54 rfl (lv_at hl 0 rfl) ?_
  refine q_get (wf := (cW h K)) (v := .ref (h 2)) C G qi_St 1 rfl rfl 0 (by decide) qz_0 rfl qm_St_longAt_55 ?_
  refine lv_iload_n C.1 C.2.1 qm_St_longAt_58 rfl (lv_at hl 1 rfl) ?_
  refine lv_iconst (v := 3) C.1 C.2.1 qm_St_longAt_59 (by decide) ?_
  refine lv_iadd C.1 C.2.1 qm_St_longAt_60 ?_
  refine lv_sipush (v := 2047) C.1 C.2.1 qm_St_longAt_61 (by decide) ?_
  refine lv_iand C.1 C.2.1 qm_St_longAt_64 ?_
  obtain ⟨b4, hf⟩ := chk_s hf
  refine q_bald (wf := (cW h K)) C G 2 0 rfl rfl b4 qm_St_longAt_65 ?_
  refine lv_bipush (v := 24) C.1 C.2.1 qm_St_longAt_66 (by decide) ?_
  refine lv_ishl C.1 C.2.1 qm_St_longAt_68 ?_
  refine lv_ior C.1 C.2.1 qm_St_longAt_69 ?_
  exact q_iret (wf := (cW h K)) C G hf qm_St_longAt_70
theorem kSt_longAt {l : Launch} {ad : Nat → Nat} {D : va_G} {h : Nat → Nat} {K : Nat → ClassId} {res : Int32 × qS} {S : qS} {a1 : Int32} (hf : fSt_longAt S a1 = some res) : qMi l qm_St_longAt qm_St_longAt_c 2 .int 0 0 D qCl (cT K) ad (cW h K) [.ref (h 1), .int a1] S res := qMi_of (by decide) (Nat.le_of_ble_eq_true rfl) (fun _ _ _ _ _ _ _ _ _ _ C G hl => wSt_longAt C S a1 hf _ _ _ G hl)
set_option maxHeartbeats 4000000 in
set_option maxRecDepth 100000 in
theorem wSt_byteAt {l : Launch} {D : va_G} {h : Nat → Nat} {K : Nat → ClassId} {res : Int32 × qS} {p : Program} {e : Env} {s : State} {m : MethodId} {args : Array Value} {below : List Frame} {meth : Method} {c : Code} {A : Nat → Prop} {ad : Nat → Nat} (C : qC p s m args meth c qm_St_byteAt_c 2 (some .int) qR_St ad) (S : qS) (a1 : Int32) (hf : fSt_byteAt S a1 = some res) : ∀ (H : Heap) (locs : List Loc) (ls : Array Slot), qG D qCl (cT K) A s (cW h K S) H locs → lv_has ls 2 [(0, .ref (h 1)), (1, .int a1)] → W p l e ({ frames := 0, cells := 0, slots := 0, locals := 0 }) s m args below meth c H locs 0 0 (MQ below (qQi D qCl (cT K) (cW h K) A res) args s 0 0 A) (F0 m 0 ls []) := by
  intro H locs ls G hl
  unfold fSt_byteAt at hf
  refine lv_aload_n C.1 C.2.1 qm_St_byteAt_0 rfl (lv_at hl 0 rfl) ?_
  refine q_get (wf := (cW h K)) (v := .ref (h 2)) C G qi_St 1 rfl rfl 0 (by decide) qz_0 rfl qm_St_byteAt_1 ?_
  refine lv_iload_n C.1 C.2.1 qm_St_byteAt_4 rfl (lv_at hl 1 rfl) ?_
  refine lv_sipush (v := 2047) C.1 C.2.1 qm_St_byteAt_5 (by decide) ?_
  refine lv_iand C.1 C.2.1 qm_St_byteAt_8 ?_
  obtain ⟨b1, hf⟩ := chk_s hf
  refine q_bald (wf := (cW h K)) C G 2 0 rfl rfl b1 qm_St_byteAt_9 ?_
  refine lv_sipush (v := 255) C.1 C.2.1 qm_St_byteAt_10 (by decide) ?_
  refine lv_iand C.1 C.2.1 qm_St_byteAt_13 ?_
  exact q_iret (wf := (cW h K)) C G hf qm_St_byteAt_14
theorem kSt_byteAt {l : Launch} {ad : Nat → Nat} {D : va_G} {h : Nat → Nat} {K : Nat → ClassId} {res : Int32 × qS} {S : qS} {a1 : Int32} (hf : fSt_byteAt S a1 = some res) : qMi l qm_St_byteAt qm_St_byteAt_c 2 .int 0 0 D qCl (cT K) ad (cW h K) [.ref (h 1), .int a1] S res := qMi_of (by decide) (Nat.le_of_ble_eq_true rfl) (fun _ _ _ _ _ _ _ _ _ _ C G hl => wSt_byteAt C S a1 hf _ _ _ G hl)
end
section
theorem qm_Pg_pageOf_0 : decode qm_Pg_pageOf_c 0 = .ok (.iload_n 0, 1) := by decide +kernel
theorem qm_Pg_pageOf_1 : decode qm_Pg_pageOf_c 1 = .ok (.bipush 6, 2) := by decide +kernel
theorem qm_Pg_pageOf_3 : decode qm_Pg_pageOf_c 3 = .ok (.iushr, 1) := by decide +kernel
theorem qm_Pg_pageOf_4 : decode qm_Pg_pageOf_c 4 = .ok (.ldc 58, 2) := by decide +kernel
theorem qm_Pg_pageOf_6 : decode qm_Pg_pageOf_c 6 = .ok (.iand, 1) := by decide +kernel
theorem qm_Pg_pageOf_7 : decode qm_Pg_pageOf_c 7 = .ok (.ireturn, 1) := by decide +kernel
theorem qm_Pg_isThere_0 : decode qm_Pg_isThere_c 0 = .ok (.iload_n 1, 1) := by decide +kernel
theorem qm_Pg_isThere_1 : decode qm_Pg_isThere_c 1 = .ok (.iconst 2, 1) := by decide +kernel
theorem qm_Pg_isThere_2 : decode qm_Pg_isThere_c 2 = .ok (.if_icmp .le 5, 3) := by decide +kernel
theorem qm_Pg_isThere_5 : decode qm_Pg_isThere_c 5 = .ok (.iconst 0, 1) := by decide +kernel
theorem qm_Pg_isThere_6 : decode qm_Pg_isThere_c 6 = .ok (.ireturn, 1) := by decide +kernel
theorem qm_Pg_isThere_7 : decode qm_Pg_isThere_c 7 = .ok (.aload_n 0, 1) := by decide +kernel
theorem qm_Pg_isThere_8 : decode qm_Pg_isThere_c 8 = .ok (.getfield 15, 3) := by decide +kernel
theorem qm_Pg_isThere_11 : decode qm_Pg_isThere_c 11 = .ok (.iload_n 1, 1) := by decide +kernel
theorem qm_Pg_isThere_12 : decode qm_Pg_isThere_c 12 = .ok (.iconst 2, 1) := by decide +kernel
theorem qm_Pg_isThere_13 : decode qm_Pg_isThere_c 13 = .ok (.if_icmp .ne 8, 3) := by decide +kernel
theorem qm_Pg_isThere_16 : decode qm_Pg_isThere_c 16 = .ok (.bipush 13, 2) := by decide +kernel
theorem qm_Pg_isThere_18 : decode qm_Pg_isThere_c 18 = .ok (.goto 15, 3) := by decide +kernel
theorem qm_Pg_isThere_21 : decode qm_Pg_isThere_c 21 = .ok (.iload_n 1, 1) := by decide +kernel
theorem qm_Pg_isThere_22 : decode qm_Pg_isThere_c 22 = .ok (.iconst 1, 1) := by decide +kernel
theorem qm_Pg_isThere_23 : decode qm_Pg_isThere_c 23 = .ok (.if_icmp .ne 8, 3) := by decide +kernel
theorem qm_Pg_isThere_26 : decode qm_Pg_isThere_c 26 = .ok (.bipush 11, 2) := by decide +kernel
theorem qm_Pg_isThere_28 : decode qm_Pg_isThere_c 28 = .ok (.goto 5, 3) := by decide +kernel
theorem qm_Pg_isThere_31 : decode qm_Pg_isThere_c 31 = .ok (.bipush 9, 2) := by decide +kernel
theorem qm_Pg_isThere_33 : decode qm_Pg_isThere_c 33 = .ok (.iaload, 1) := by decide +kernel
theorem qm_Pg_isThere_34 : decode qm_Pg_isThere_c 34 = .ok (.istore_n 3, 1) := by decide +kernel
theorem qm_Pg_isThere_35 : decode qm_Pg_isThere_c 35 = .ok (.iload_n 3, 1) := by decide +kernel
theorem qm_Pg_isThere_36 : decode qm_Pg_isThere_c 36 = .ok (.ifCond .lt 8, 3) := by decide +kernel
theorem qm_Pg_isThere_39 : decode qm_Pg_isThere_c 39 = .ok (.iload_n 2, 1) := by decide +kernel
theorem qm_Pg_isThere_40 : decode qm_Pg_isThere_c 40 = .ok (.iload_n 3, 1) := by decide +kernel
theorem qm_Pg_isThere_41 : decode qm_Pg_isThere_c 41 = .ok (.if_icmp .ge 7, 3) := by decide +kernel
theorem qm_Pg_isThere_44 : decode qm_Pg_isThere_c 44 = .ok (.iconst 1, 1) := by decide +kernel
theorem qm_Pg_isThere_45 : decode qm_Pg_isThere_c 45 = .ok (.goto 4, 3) := by decide +kernel
theorem qm_Pg_isThere_48 : decode qm_Pg_isThere_c 48 = .ok (.iconst 0, 1) := by decide +kernel
theorem qm_Pg_isThere_49 : decode qm_Pg_isThere_c 49 = .ok (.istore 4, 2) := by decide +kernel
theorem qm_Pg_isThere_51 : decode qm_Pg_isThere_c 51 = .ok (.iload 4, 2) := by decide +kernel
theorem qm_Pg_isThere_53 : decode qm_Pg_isThere_c 53 = .ok (.iload_n 1, 1) := by decide +kernel
theorem qm_Pg_isThere_54 : decode qm_Pg_isThere_c 54 = .ok (.iconst 1, 1) := by decide +kernel
theorem qm_Pg_isThere_55 : decode qm_Pg_isThere_c 55 = .ok (.if_icmp .eq 7, 3) := by decide +kernel
theorem qm_Pg_isThere_58 : decode qm_Pg_isThere_c 58 = .ok (.iconst 1, 1) := by decide +kernel
theorem qm_Pg_isThere_59 : decode qm_Pg_isThere_c 59 = .ok (.goto 4, 3) := by decide +kernel
theorem qm_Pg_isThere_62 : decode qm_Pg_isThere_c 62 = .ok (.iconst 0, 1) := by decide +kernel
theorem qm_Pg_isThere_63 : decode qm_Pg_isThere_c 63 = .ok (.if_icmp .ne 7, 3) := by decide +kernel
theorem qm_Pg_isThere_66 : decode qm_Pg_isThere_c 66 = .ok (.iconst 1, 1) := by decide +kernel
theorem qm_Pg_isThere_67 : decode qm_Pg_isThere_c 67 = .ok (.goto 4, 3) := by decide +kernel
theorem qm_Pg_isThere_70 : decode qm_Pg_isThere_c 70 = .ok (.iconst 0, 1) := by decide +kernel
theorem qm_Pg_isThere_71 : decode qm_Pg_isThere_c 71 = .ok (.ireturn, 1) := by decide +kernel
theorem qm_Pg_refusal_0 : decode qm_Pg_refusal_c 0 = .ok (.bipush (-10), 2) := by decide +kernel
theorem qm_Pg_refusal_2 : decode qm_Pg_refusal_c 2 = .ok (.bipush 10, 2) := by decide +kernel
theorem qm_Pg_refusal_4 : decode qm_Pg_refusal_c 4 = .ok (.iload_n 0, 1) := by decide +kernel
theorem qm_Pg_refusal_5 : decode qm_Pg_refusal_c 5 = .ok (.imul, 1) := by decide +kernel
theorem qm_Pg_refusal_6 : decode qm_Pg_refusal_c 6 = .ok (.isub, 1) := by decide +kernel
theorem qm_Pg_refusal_7 : decode qm_Pg_refusal_c 7 = .ok (.iload_n 1, 1) := by decide +kernel
theorem qm_Pg_refusal_8 : decode qm_Pg_refusal_c 8 = .ok (.isub, 1) := by decide +kernel
theorem qm_Pg_refusal_9 : decode qm_Pg_refusal_c 9 = .ok (.ireturn, 1) := by decide +kernel
theorem qm_Pg_isValid_0 : decode qm_Pg_isValid_c 0 = .ok (.iload_n 0, 1) := by decide +kernel
theorem qm_Pg_isValid_1 : decode qm_Pg_isValid_c 1 = .ok (.ifCond .ge 7, 3) := by decide +kernel
theorem qm_Pg_isValid_4 : decode qm_Pg_isValid_c 4 = .ok (.iconst 1, 1) := by decide +kernel
theorem qm_Pg_isValid_5 : decode qm_Pg_isValid_c 5 = .ok (.goto 4, 3) := by decide +kernel
theorem qm_Pg_isValid_8 : decode qm_Pg_isValid_c 8 = .ok (.iconst 0, 1) := by decide +kernel
theorem qm_Pg_isValid_9 : decode qm_Pg_isValid_c 9 = .ok (.ireturn, 1) := by decide +kernel
theorem qm_Pg_inFrame_0 : decode qm_Pg_inFrame_c 0 = .ok (.bipush 64, 2) := by decide +kernel
theorem qm_Pg_inFrame_2 : decode qm_Pg_inFrame_c 2 = .ok (.iload_n 0, 1) := by decide +kernel
theorem qm_Pg_inFrame_3 : decode qm_Pg_inFrame_c 3 = .ok (.bipush 31, 2) := by decide +kernel
theorem qm_Pg_inFrame_5 : decode qm_Pg_inFrame_c 5 = .ok (.iand, 1) := by decide +kernel
theorem qm_Pg_inFrame_6 : decode qm_Pg_inFrame_c 6 = .ok (.imul, 1) := by decide +kernel
theorem qm_Pg_inFrame_7 : decode qm_Pg_inFrame_c 7 = .ok (.iload_n 1, 1) := by decide +kernel
theorem qm_Pg_inFrame_8 : decode qm_Pg_inFrame_c 8 = .ok (.bipush 63, 2) := by decide +kernel
theorem qm_Pg_inFrame_10 : decode qm_Pg_inFrame_c 10 = .ok (.iand, 1) := by decide +kernel
theorem qm_Pg_inFrame_11 : decode qm_Pg_inFrame_c 11 = .ok (.iadd, 1) := by decide +kernel
theorem qm_Pg_inFrame_12 : decode qm_Pg_inFrame_c 12 = .ok (.ireturn, 1) := by decide +kernel
theorem qm_Pg_grants_0 : decode qm_Pg_grants_c 0 = .ok (.iload_n 0, 1) := by decide +kernel
theorem qm_Pg_grants_1 : decode qm_Pg_grants_c 1 = .ok (.bipush 27, 2) := by decide +kernel
theorem qm_Pg_grants_3 : decode qm_Pg_grants_c 3 = .ok (.iushr, 1) := by decide +kernel
theorem qm_Pg_grants_4 : decode qm_Pg_grants_c 4 = .ok (.iconst 3, 1) := by decide +kernel
theorem qm_Pg_grants_5 : decode qm_Pg_grants_c 5 = .ok (.iand, 1) := by decide +kernel
theorem qm_Pg_grants_6 : decode qm_Pg_grants_c 6 = .ok (.istore_n 3, 1) := by decide +kernel
theorem qm_Pg_grants_7 : decode qm_Pg_grants_c 7 = .ok (.iload_n 0, 1) := by decide +kernel
theorem qm_Pg_grants_8 : decode qm_Pg_grants_c 8 = .ok (.bipush 29, 2) := by decide +kernel
theorem qm_Pg_grants_10 : decode qm_Pg_grants_c 10 = .ok (.iushr, 1) := by decide +kernel
theorem qm_Pg_grants_11 : decode qm_Pg_grants_c 11 = .ok (.iconst 3, 1) := by decide +kernel
theorem qm_Pg_grants_12 : decode qm_Pg_grants_c 12 = .ok (.iand, 1) := by decide +kernel
theorem qm_Pg_grants_13 : decode qm_Pg_grants_c 13 = .ok (.istore 4, 2) := by decide +kernel
theorem qm_Pg_grants_15 : decode qm_Pg_grants_c 15 = .ok (.iload_n 1, 1) := by decide +kernel
theorem qm_Pg_grants_16 : decode qm_Pg_grants_c 16 = .ok (.ifCond .eq 23, 3) := by decide +kernel
theorem qm_Pg_grants_19 : decode qm_Pg_grants_c 19 = .ok (.iload_n 2, 1) := by decide +kernel
theorem qm_Pg_grants_20 : decode qm_Pg_grants_c 20 = .ok (.iload 4, 2) := by decide +kernel
theorem qm_Pg_grants_22 : decode qm_Pg_grants_c 22 = .ok (.if_icmp .gt 13, 3) := by decide +kernel
theorem qm_Pg_grants_25 : decode qm_Pg_grants_c 25 = .ok (.iload 4, 2) := by decide +kernel
theorem qm_Pg_grants_27 : decode qm_Pg_grants_c 27 = .ok (.iload_n 3, 1) := by decide +kernel
theorem qm_Pg_grants_28 : decode qm_Pg_grants_c 28 = .ok (.if_icmp .gt 7, 3) := by decide +kernel
theorem qm_Pg_grants_31 : decode qm_Pg_grants_c 31 = .ok (.iconst 1, 1) := by decide +kernel
theorem qm_Pg_grants_32 : decode qm_Pg_grants_c 32 = .ok (.goto 17, 3) := by decide +kernel
theorem qm_Pg_grants_35 : decode qm_Pg_grants_c 35 = .ok (.iconst 0, 1) := by decide +kernel
theorem qm_Pg_grants_36 : decode qm_Pg_grants_c 36 = .ok (.goto 13, 3) := by decide +kernel
theorem qm_Pg_grants_39 : decode qm_Pg_grants_c 39 = .ok (.iload_n 2, 1) := by decide +kernel
theorem qm_Pg_grants_40 : decode qm_Pg_grants_c 40 = .ok (.iload_n 3, 1) := by decide +kernel
theorem qm_Pg_grants_41 : decode qm_Pg_grants_c 41 = .ok (.if_icmp .gt 7, 3) := by decide +kernel
theorem qm_Pg_grants_44 : decode qm_Pg_grants_c 44 = .ok (.iconst 1, 1) := by decide +kernel
theorem qm_Pg_grants_45 : decode qm_Pg_grants_c 45 = .ok (.goto 4, 3) := by decide +kernel
theorem qm_Pg_grants_48 : decode qm_Pg_grants_c 48 = .ok (.iconst 0, 1) := by decide +kernel
theorem qm_Pg_grants_49 : decode qm_Pg_grants_c 49 = .ok (.ireturn, 1) := by decide +kernel
theorem qm_Pg_locate_0 : decode qm_Pg_locate_c 0 = .ok (.aload_n 0, 1) := by decide +kernel
theorem qm_Pg_locate_1 : decode qm_Pg_locate_c 1 = .ok (.iconst (-1), 1) := by decide +kernel
theorem qm_Pg_locate_2 : decode qm_Pg_locate_c 2 = .ok (.putfield 19, 3) := by decide +kernel
theorem qm_Pg_locate_5 : decode qm_Pg_locate_c 5 = .ok (.aload_n 0, 1) := by decide +kernel
theorem qm_Pg_locate_6 : decode qm_Pg_locate_c 6 = .ok (.getfield 15, 3) := by decide +kernel
theorem qm_Pg_locate_9 : decode qm_Pg_locate_c 9 = .ok (.bipush 56, 2) := by decide +kernel
theorem qm_Pg_locate_11 : decode qm_Pg_locate_c 11 = .ok (.iaload, 1) := by decide +kernel
theorem qm_Pg_locate_12 : decode qm_Pg_locate_c 12 = .ok (.ifCond .ne 9, 3) := by decide +kernel
theorem qm_Pg_locate_15 : decode qm_Pg_locate_c 15 = .ok (.iload_n 1, 1) := by decide +kernel
theorem qm_Pg_locate_16 : decode qm_Pg_locate_c 16 = .ok (.sipush 2047, 3) := by decide +kernel
theorem qm_Pg_locate_19 : decode qm_Pg_locate_c 19 = .ok (.iand, 1) := by decide +kernel
theorem qm_Pg_locate_20 : decode qm_Pg_locate_c 20 = .ok (.ireturn, 1) := by decide +kernel
theorem qm_Pg_locate_21 : decode qm_Pg_locate_c 21 = .ok (.iload_n 2, 1) := by decide +kernel
theorem qm_Pg_locate_22 : decode qm_Pg_locate_c 22 = .ok (.ifCond .eq 7, 3) := by decide +kernel
theorem qm_Pg_locate_25 : decode qm_Pg_locate_c 25 = .ok (.iconst 4, 1) := by decide +kernel
theorem qm_Pg_locate_26 : decode qm_Pg_locate_c 26 = .ok (.goto 4, 3) := by decide +kernel
theorem qm_Pg_locate_29 : decode qm_Pg_locate_c 29 = .ok (.iconst 0, 1) := by decide +kernel
theorem qm_Pg_locate_30 : decode qm_Pg_locate_c 30 = .ok (.istore 4, 2) := by decide +kernel
theorem qm_Pg_locate_32 : decode qm_Pg_locate_c 32 = .ok (.iload_n 1, 1) := by decide +kernel
theorem qm_Pg_locate_33 : decode qm_Pg_locate_c 33 = .ok (.bipush 30, 2) := by decide +kernel
theorem qm_Pg_locate_35 : decode qm_Pg_locate_c 35 = .ok (.iushr, 1) := by decide +kernel
theorem qm_Pg_locate_36 : decode qm_Pg_locate_c 36 = .ok (.istore 5, 2) := by decide +kernel
theorem qm_Pg_locate_38 : decode qm_Pg_locate_c 38 = .ok (.iload_n 1, 1) := by decide +kernel
theorem qm_Pg_locate_39 : decode qm_Pg_locate_c 39 = .ok (.invokestatic 25, 3) := by decide +kernel
theorem qm_Pg_locate_42 : decode qm_Pg_locate_c 42 = .ok (.istore 6, 2) := by decide +kernel
theorem qm_Pg_locate_44 : decode qm_Pg_locate_c 44 = .ok (.aload_n 0, 1) := by decide +kernel
theorem qm_Pg_locate_45 : decode qm_Pg_locate_c 45 = .ok (.iload 5, 2) := by decide +kernel
theorem qm_Pg_locate_47 : decode qm_Pg_locate_c 47 = .ok (.iload 6, 2) := by decide +kernel
theorem qm_Pg_locate_49 : decode qm_Pg_locate_c 49 = .ok (.invokevirtual 29, 3) := by decide +kernel
theorem qm_Pg_locate_52 : decode qm_Pg_locate_c 52 = .ok (.ifCond .ne 12, 3) := by decide +kernel
theorem qm_Pg_locate_55 : decode qm_Pg_locate_c 55 = .ok (.iconst 4, 1) := by decide +kernel
theorem qm_Pg_locate_56 : decode qm_Pg_locate_c 56 = .ok (.iconst 1, 1) := by decide +kernel
theorem qm_Pg_locate_57 : decode qm_Pg_locate_c 57 = .ok (.iload 4, 2) := by decide +kernel
theorem qm_Pg_locate_59 : decode qm_Pg_locate_c 59 = .ok (.iadd, 1) := by decide +kernel
theorem qm_Pg_locate_60 : decode qm_Pg_locate_c 60 = .ok (.invokestatic 33, 3) := by decide +kernel
theorem qm_Pg_locate_63 : decode qm_Pg_locate_c 63 = .ok (.ireturn, 1) := by decide +kernel
theorem qm_Pg_locate_64 : decode qm_Pg_locate_c 64 = .ok (.aload_n 0, 1) := by decide +kernel
theorem qm_Pg_locate_65 : decode qm_Pg_locate_c 65 = .ok (.getfield 15, 3) := by decide +kernel
theorem qm_Pg_locate_68 : decode qm_Pg_locate_c 68 = .ok (.bipush 12, 2) := by decide +kernel
theorem qm_Pg_locate_70 : decode qm_Pg_locate_c 70 = .ok (.iaload, 1) := by decide +kernel
theorem qm_Pg_locate_71 : decode qm_Pg_locate_c 71 = .ok (.iconst 4, 1) := by decide +kernel
theorem qm_Pg_locate_72 : decode qm_Pg_locate_c 72 = .ok (.iload 6, 2) := by decide +kernel
theorem qm_Pg_locate_74 : decode qm_Pg_locate_c 74 = .ok (.imul, 1) := by decide +kernel
theorem qm_Pg_locate_75 : decode qm_Pg_locate_c 75 = .ok (.iadd, 1) := by decide +kernel
theorem qm_Pg_locate_76 : decode qm_Pg_locate_c 76 = .ok (.istore 7, 2) := by decide +kernel
theorem qm_Pg_locate_78 : decode qm_Pg_locate_c 78 = .ok (.iload 5, 2) := by decide +kernel
theorem qm_Pg_locate_80 : decode qm_Pg_locate_c 80 = .ok (.iconst 2, 1) := by decide +kernel
theorem qm_Pg_locate_81 : decode qm_Pg_locate_c 81 = .ok (.if_icmp .eq 108, 3) := by decide +kernel
theorem qm_Pg_locate_84 : decode qm_Pg_locate_c 84 = .ok (.aload_n 0, 1) := by decide +kernel
theorem qm_Pg_locate_85 : decode qm_Pg_locate_c 85 = .ok (.getfield 15, 3) := by decide +kernel
theorem qm_Pg_locate_88 : decode qm_Pg_locate_c 88 = .ok (.iload 5, 2) := by decide +kernel
theorem qm_Pg_locate_90 : decode qm_Pg_locate_c 90 = .ok (.ifCond .ne 8, 3) := by decide +kernel
theorem qm_Pg_locate_93 : decode qm_Pg_locate_c 93 = .ok (.bipush 8, 2) := by decide +kernel
theorem qm_Pg_locate_95 : decode qm_Pg_locate_c 95 = .ok (.goto 5, 3) := by decide +kernel
theorem qm_Pg_locate_98 : decode qm_Pg_locate_c 98 = .ok (.bipush 10, 2) := by decide +kernel
theorem qm_Pg_locate_100 : decode qm_Pg_locate_c 100 = .ok (.iaload, 1) := by decide +kernel
theorem qm_Pg_locate_101 : decode qm_Pg_locate_c 101 = .ok (.iconst 4, 1) := by decide +kernel
theorem qm_Pg_locate_102 : decode qm_Pg_locate_c 102 = .ok (.iload 6, 2) := by decide +kernel
theorem qm_Pg_locate_104 : decode qm_Pg_locate_c 104 = .ok (.imul, 1) := by decide +kernel
theorem qm_Pg_locate_105 : decode qm_Pg_locate_c 105 = .ok (.iadd, 1) := by decide +kernel
theorem qm_Pg_locate_106 : decode qm_Pg_locate_c 106 = .ok (.istore 8, 2) := by decide +kernel
theorem qm_Pg_locate_108 : decode qm_Pg_locate_c 108 = .ok (.iload 8, 2) := by decide +kernel
theorem qm_Pg_locate_110 : decode qm_Pg_locate_c 110 = .ok (.bipush 30, 2) := by decide +kernel
theorem qm_Pg_locate_112 : decode qm_Pg_locate_c 112 = .ok (.iushr, 1) := by decide +kernel
theorem qm_Pg_locate_113 : decode qm_Pg_locate_c 113 = .ok (.iconst 2, 1) := by decide +kernel
theorem qm_Pg_locate_114 : decode qm_Pg_locate_c 114 = .ok (.if_icmp .ne 16, 3) := by decide +kernel
theorem qm_Pg_locate_117 : decode qm_Pg_locate_c 117 = .ok (.aload_n 0, 1) := by decide +kernel
theorem qm_Pg_locate_118 : decode qm_Pg_locate_c 118 = .ok (.iconst 2, 1) := by decide +kernel
theorem qm_Pg_locate_119 : decode qm_Pg_locate_c 119 = .ok (.iload 8, 2) := by decide +kernel
theorem qm_Pg_locate_121 : decode qm_Pg_locate_c 121 = .ok (.invokestatic 25, 3) := by decide +kernel
theorem qm_Pg_locate_124 : decode qm_Pg_locate_c 124 = .ok (.invokevirtual 29, 3) := by decide +kernel
theorem qm_Pg_locate_127 : decode qm_Pg_locate_c 127 = .ok (.ifCond .ne 12, 3) := by decide +kernel
theorem qm_Pg_locate_130 : decode qm_Pg_locate_c 130 = .ok (.iconst 4, 1) := by decide +kernel
theorem qm_Pg_locate_131 : decode qm_Pg_locate_c 131 = .ok (.iconst 3, 1) := by decide +kernel
theorem qm_Pg_locate_132 : decode qm_Pg_locate_c 132 = .ok (.iload 4, 2) := by decide +kernel
theorem qm_Pg_locate_134 : decode qm_Pg_locate_c 134 = .ok (.iadd, 1) := by decide +kernel
theorem qm_Pg_locate_135 : decode qm_Pg_locate_c 135 = .ok (.invokestatic 33, 3) := by decide +kernel
theorem qm_Pg_locate_138 : decode qm_Pg_locate_c 138 = .ok (.ireturn, 1) := by decide +kernel
theorem qm_Pg_locate_139 : decode qm_Pg_locate_c 139 = .ok (.aload_n 0, 1) := by decide +kernel
theorem qm_Pg_locate_140 : decode qm_Pg_locate_c 140 = .ok (.getfield 9, 3) := by decide +kernel
theorem qm_Pg_locate_143 : decode qm_Pg_locate_c 143 = .ok (.aload_n 0, 1) := by decide +kernel
theorem qm_Pg_locate_144 : decode qm_Pg_locate_c 144 = .ok (.getfield 15, 3) := by decide +kernel
theorem qm_Pg_locate_147 : decode qm_Pg_locate_c 147 = .ok (.bipush 12, 2) := by decide +kernel
theorem qm_Pg_locate_149 : decode qm_Pg_locate_c 149 = .ok (.iaload, 1) := by decide +kernel
theorem qm_Pg_locate_150 : decode qm_Pg_locate_c 150 = .ok (.iconst 4, 1) := by decide +kernel
theorem qm_Pg_locate_151 : decode qm_Pg_locate_c 151 = .ok (.iload 8, 2) := by decide +kernel
theorem qm_Pg_locate_153 : decode qm_Pg_locate_c 153 = .ok (.invokestatic 25, 3) := by decide +kernel
theorem qm_Pg_locate_156 : decode qm_Pg_locate_c 156 = .ok (.imul, 1) := by decide +kernel
theorem qm_Pg_locate_157 : decode qm_Pg_locate_c 157 = .ok (.iadd, 1) := by decide +kernel
theorem qm_Pg_locate_158 : decode qm_Pg_locate_c 158 = .ok (.invokevirtual 37, 3) := by decide +kernel
theorem qm_Pg_locate_161 : decode qm_Pg_locate_c 161 = .ok (.istore 9, 2) := by decide +kernel
theorem qm_Pg_locate_163 : decode qm_Pg_locate_c 163 = .ok (.iload 9, 2) := by decide +kernel
theorem qm_Pg_locate_165 : decode qm_Pg_locate_c 165 = .ok (.invokestatic 40, 3) := by decide +kernel
theorem qm_Pg_locate_168 : decode qm_Pg_locate_c 168 = .ok (.ifCond .ne 12, 3) := by decide +kernel
theorem qm_Pg_locate_171 : decode qm_Pg_locate_c 171 = .ok (.iconst 5, 1) := by decide +kernel
theorem qm_Pg_locate_172 : decode qm_Pg_locate_c 172 = .ok (.iconst 2, 1) := by decide +kernel
theorem qm_Pg_locate_173 : decode qm_Pg_locate_c 173 = .ok (.iload 4, 2) := by decide +kernel
theorem qm_Pg_locate_175 : decode qm_Pg_locate_c 175 = .ok (.iadd, 1) := by decide +kernel
theorem qm_Pg_locate_176 : decode qm_Pg_locate_c 176 = .ok (.invokestatic 33, 3) := by decide +kernel
theorem qm_Pg_locate_179 : decode qm_Pg_locate_c 179 = .ok (.ireturn, 1) := by decide +kernel
theorem qm_Pg_locate_180 : decode qm_Pg_locate_c 180 = .ok (.iload 9, 2) := by decide +kernel
theorem qm_Pg_locate_182 : decode qm_Pg_locate_c 182 = .ok (.iload 8, 2) := by decide +kernel
theorem qm_Pg_locate_184 : decode qm_Pg_locate_c 184 = .ok (.invokestatic 44, 3) := by decide +kernel
theorem qm_Pg_locate_187 : decode qm_Pg_locate_c 187 = .ok (.istore 7, 2) := by decide +kernel
theorem qm_Pg_locate_189 : decode qm_Pg_locate_c 189 = .ok (.aload_n 0, 1) := by decide +kernel
theorem qm_Pg_locate_190 : decode qm_Pg_locate_c 190 = .ok (.getfield 9, 3) := by decide +kernel
theorem qm_Pg_locate_193 : decode qm_Pg_locate_c 193 = .ok (.iload 7, 2) := by decide +kernel
theorem qm_Pg_locate_195 : decode qm_Pg_locate_c 195 = .ok (.invokevirtual 37, 3) := by decide +kernel
theorem qm_Pg_locate_198 : decode qm_Pg_locate_c 198 = .ok (.istore 8, 2) := by decide +kernel
theorem qm_Pg_locate_200 : decode qm_Pg_locate_c 200 = .ok (.iload 8, 2) := by decide +kernel
theorem qm_Pg_locate_202 : decode qm_Pg_locate_c 202 = .ok (.iload_n 2, 1) := by decide +kernel
theorem qm_Pg_locate_203 : decode qm_Pg_locate_c 203 = .ok (.iload_n 3, 1) := by decide +kernel
theorem qm_Pg_locate_204 : decode qm_Pg_locate_c 204 = .ok (.invokestatic 47, 3) := by decide +kernel
theorem qm_Pg_locate_207 : decode qm_Pg_locate_c 207 = .ok (.ifCond .ne 10, 3) := by decide +kernel
theorem qm_Pg_locate_210 : decode qm_Pg_locate_c 210 = .ok (.iconst 4, 1) := by decide +kernel
theorem qm_Pg_locate_211 : decode qm_Pg_locate_c 211 = .ok (.iload 4, 2) := by decide +kernel
theorem qm_Pg_locate_213 : decode qm_Pg_locate_c 213 = .ok (.invokestatic 33, 3) := by decide +kernel
theorem qm_Pg_locate_216 : decode qm_Pg_locate_c 216 = .ok (.ireturn, 1) := by decide +kernel
theorem qm_Pg_locate_217 : decode qm_Pg_locate_c 217 = .ok (.iload 8, 2) := by decide +kernel
theorem qm_Pg_locate_219 : decode qm_Pg_locate_c 219 = .ok (.invokestatic 40, 3) := by decide +kernel
theorem qm_Pg_locate_222 : decode qm_Pg_locate_c 222 = .ok (.ifCond .ne 10, 3) := by decide +kernel
theorem qm_Pg_locate_225 : decode qm_Pg_locate_c 225 = .ok (.iconst 5, 1) := by decide +kernel
theorem qm_Pg_locate_226 : decode qm_Pg_locate_c 226 = .ok (.iload 4, 2) := by decide +kernel
theorem qm_Pg_locate_228 : decode qm_Pg_locate_c 228 = .ok (.invokestatic 33, 3) := by decide +kernel
theorem qm_Pg_locate_231 : decode qm_Pg_locate_c 231 = .ok (.ireturn, 1) := by decide +kernel
theorem qm_Pg_locate_232 : decode qm_Pg_locate_c 232 = .ok (.aload_n 0, 1) := by decide +kernel
theorem qm_Pg_locate_233 : decode qm_Pg_locate_c 233 = .ok (.iload 7, 2) := by decide +kernel
theorem qm_Pg_locate_235 : decode qm_Pg_locate_c 235 = .ok (.sipush 2047, 3) := by decide +kernel
theorem qm_Pg_locate_238 : decode qm_Pg_locate_c 238 = .ok (.iand, 1) := by decide +kernel
theorem qm_Pg_locate_239 : decode qm_Pg_locate_c 239 = .ok (.putfield 19, 3) := by decide +kernel
theorem qm_Pg_locate_242 : decode qm_Pg_locate_c 242 = .ok (.iload 8, 2) := by decide +kernel
theorem qm_Pg_locate_244 : decode qm_Pg_locate_c 244 = .ok (.iload_n 1, 1) := by decide +kernel
theorem qm_Pg_locate_245 : decode qm_Pg_locate_c 245 = .ok (.invokestatic 44, 3) := by decide +kernel
theorem qm_Pg_locate_248 : decode qm_Pg_locate_c 248 = .ok (.ireturn, 1) := by decide +kernel
theorem qm_Pg_faultOf_0 : decode qm_Pg_faultOf_c 0 = .ok (.bipush (-10), 2) := by decide +kernel
theorem qm_Pg_faultOf_2 : decode qm_Pg_faultOf_c 2 = .ok (.iload_n 0, 1) := by decide +kernel
theorem qm_Pg_faultOf_3 : decode qm_Pg_faultOf_c 3 = .ok (.isub, 1) := by decide +kernel
theorem qm_Pg_faultOf_4 : decode qm_Pg_faultOf_c 4 = .ok (.bipush 10, 2) := by decide +kernel
theorem qm_Pg_faultOf_6 : decode qm_Pg_faultOf_c 6 = .ok (.idiv, 1) := by decide +kernel
theorem qm_Pg_faultOf_7 : decode qm_Pg_faultOf_c 7 = .ok (.ireturn, 1) := by decide +kernel
theorem qm_Pg_flagOf_0 : decode qm_Pg_flagOf_c 0 = .ok (.bipush (-10), 2) := by decide +kernel
theorem qm_Pg_flagOf_2 : decode qm_Pg_flagOf_c 2 = .ok (.iload_n 0, 1) := by decide +kernel
theorem qm_Pg_flagOf_3 : decode qm_Pg_flagOf_c 3 = .ok (.isub, 1) := by decide +kernel
theorem qm_Pg_flagOf_4 : decode qm_Pg_flagOf_c 4 = .ok (.bipush 10, 2) := by decide +kernel
theorem qm_Pg_flagOf_6 : decode qm_Pg_flagOf_c 6 = .ok (.irem, 1) := by decide +kernel
theorem qm_Pg_flagOf_7 : decode qm_Pg_flagOf_c 7 = .ok (.ireturn, 1) := by decide +kernel
theorem qm_Pg_markModified_0 : decode qm_Pg_markModified_c 0 = .ok (.aload_n 0, 1) := by decide +kernel
theorem qm_Pg_markModified_1 : decode qm_Pg_markModified_c 1 = .ok (.getfield 9, 3) := by decide +kernel
theorem qm_Pg_markModified_4 : decode qm_Pg_markModified_c 4 = .ok (.iload_n 1, 1) := by decide +kernel
theorem qm_Pg_markModified_5 : decode qm_Pg_markModified_c 5 = .ok (.iconst 3, 1) := by decide +kernel
theorem qm_Pg_markModified_6 : decode qm_Pg_markModified_c 6 = .ok (.iadd, 1) := by decide +kernel
theorem qm_Pg_markModified_7 : decode qm_Pg_markModified_c 7 = .ok (.aload_n 0, 1) := by decide +kernel
theorem qm_Pg_markModified_8 : decode qm_Pg_markModified_c 8 = .ok (.getfield 9, 3) := by decide +kernel
theorem qm_Pg_markModified_11 : decode qm_Pg_markModified_c 11 = .ok (.iload_n 1, 1) := by decide +kernel
theorem qm_Pg_markModified_12 : decode qm_Pg_markModified_c 12 = .ok (.iconst 3, 1) := by decide +kernel
theorem qm_Pg_markModified_13 : decode qm_Pg_markModified_c 13 = .ok (.iadd, 1) := by decide +kernel
theorem qm_Pg_markModified_14 : decode qm_Pg_markModified_c 14 = .ok (.invokevirtual 51, 3) := by decide +kernel
theorem qm_Pg_markModified_17 : decode qm_Pg_markModified_c 17 = .ok (.iconst 4, 1) := by decide +kernel
theorem qm_Pg_markModified_18 : decode qm_Pg_markModified_c 18 = .ok (.ior, 1) := by decide +kernel
theorem qm_Pg_markModified_19 : decode qm_Pg_markModified_c 19 = .ok (.invokevirtual 54, 3) := by decide +kernel
theorem qm_Pg_markModified_22 : decode qm_Pg_markModified_c 22 = .ok (.return_, 1) := by decide +kernel
set_option maxHeartbeats 4000000 in
set_option maxRecDepth 100000 in
theorem wPg_pageOf {l : Launch} {D : va_G} {h : Nat → Nat} {K : Nat → ClassId} {res : Int32 × qS} {p : Program} {e : Env} {s : State} {m : MethodId} {args : Array Value} {below : List Frame} {meth : Method} {c : Code} {A : Nat → Prop} {ad : Nat → Nat} (C : qC p s m args meth c qm_Pg_pageOf_c 1 (some .int) qR_Pg ad) (S : qS) (a0 : Int32) (hf : fPg_pageOf S a0 = some res) : ∀ (H : Heap) (locs : List Loc) (ls : Array Slot), qG D qCl (cT K) A s (cW h K S) H locs → lv_has ls 1 [(0, .int a0)] → W p l e ({ frames := 0, cells := 0, slots := 0, locals := 0 }) s m args below meth c H locs 0 0 (MQ below (qQi D qCl (cT K) (cW h K) A res) args s 0 0 A) (F0 m 0 ls []) := by
  intro H locs ls G hl
  unfold fPg_pageOf at hf
  refine lv_iload_n C.1 C.2.1 qm_Pg_pageOf_0 rfl (lv_at hl 0 rfl) ?_
  refine lv_bipush (v := 6) C.1 C.2.1 qm_Pg_pageOf_1 (by decide) ?_
  refine lv_iushr (v := ushr a0 6) C.1 C.2.1 qm_Pg_pageOf_3 rfl ?_
  refine lv_ldc (own := "QuadMode$Pages") (v := 16777215) C.1 C.2.1 C.2.2.2.1 (C.2.2.2.2.1 _ qz_52) qm_Pg_pageOf_4 ?_
  refine lv_iand C.1 C.2.1 qm_Pg_pageOf_6 ?_
  exact q_iret (wf := (cW h K)) C G hf qm_Pg_pageOf_7
theorem kPg_pageOf {l : Launch} {ad : Nat → Nat} {D : va_G} {h : Nat → Nat} {K : Nat → ClassId} {res : Int32 × qS} {S : qS} {a0 : Int32} (hf : fPg_pageOf S a0 = some res) : qMi l qm_Pg_pageOf qm_Pg_pageOf_c 1 .int 0 0 D qCl (cT K) ad (cW h K) [.int a0] S res := qMi_of (by decide) (Nat.le_of_ble_eq_true rfl) (fun _ _ _ _ _ _ _ _ _ _ C G hl => wPg_pageOf C S a0 hf _ _ _ G hl)
set_option maxHeartbeats 4000000 in
set_option maxRecDepth 100000 in
theorem wPg_isThere_71 {l : Launch} {D : va_G} {h : Nat → Nat} {K : Nat → ClassId} {res : Int32 × qS} {p : Program} {e : Env} {s : State} {m : MethodId} {args : Array Value} {below : List Frame} {meth : Method} {c : Code} {A : Nat → Prop} {ad : Nat → Nat} (C : qC p s m args meth c qm_Pg_isThere_c 5 (some .boolean) qR_Pg ad) (S : qS) (y0 : Int32) (hf : fPg_isThere_71 S y0 = some res) : ∀ (H : Heap) (locs : List Loc) (ls : Array Slot), qG D qCl (cT K) A s (cW h K S) H locs → lv_has ls 5 [] → W p l e ({ frames := 0, cells := 0, slots := 0, locals := 0 }) s m args below meth c H locs 0 0 (MQ below (qQi D qCl (cT K) (cW h K) A res) args s 0 0 A) (F0 m 71 ls [.int y0]) := by
  intro H locs ls G hl
  unfold fPg_isThere_71 at hf
  exact q_zret (wf := (cW h K)) C G hf qm_Pg_isThere_71
set_option maxHeartbeats 4000000 in
set_option maxRecDepth 100000 in
theorem wPg_isThere_63 {l : Launch} {D : va_G} {h : Nat → Nat} {K : Nat → ClassId} {res : Int32 × qS} {p : Program} {e : Env} {s : State} {m : MethodId} {args : Array Value} {below : List Frame} {meth : Method} {c : Code} {A : Nat → Prop} {ad : Nat → Nat} (C : qC p s m args meth c qm_Pg_isThere_c 5 (some .boolean) qR_Pg ad) (S : qS) (y0 : Int32) (y1 : Int32) (hf : fPg_isThere_63 S y0 y1 = some res) : ∀ (H : Heap) (locs : List Loc) (ls : Array Slot), qG D qCl (cT K) A s (cW h K S) H locs → lv_has ls 5 [] → W p l e ({ frames := 0, cells := 0, slots := 0, locals := 0 }) s m args below meth c H locs 0 0 (MQ below (qQi D qCl (cT K) (cW h K) A res) args s 0 0 A) (F0 m 63 ls [.int y1, .int y0]) := by
  intro H locs ls G hl
  unfold fPg_isThere_63 at hf
  refine lv_icmp_ne (tgt := 70) C.1 C.2.1 qm_Pg_isThere_63 (by decide) (fun b1 => ?_) (fun b1 => ?_)
  · have hf := if_t b1 hf
    refine lv_iconst (v := 0) C.1 C.2.1 qm_Pg_isThere_70 (by decide) ?_
    exact wPg_isThere_71 C S 0 hf _ _ _ G (lv_sub hl [] rfl)
  · have hf := if_f (not_not_intro b1) hf
    refine lv_iconst (v := 1) C.1 C.2.1 qm_Pg_isThere_66 (by decide) ?_
    refine lv_goto (tgt := 71) C.1 C.2.1 qm_Pg_isThere_67 (by decide) ?_
    exact wPg_isThere_71 C S 1 hf _ _ _ G (lv_sub hl [] rfl)
set_option maxHeartbeats 4000000 in
set_option maxRecDepth 100000 in
theorem wPg_isThere_49 {l : Launch} {D : va_G} {h : Nat → Nat} {K : Nat → ClassId} {res : Int32 × qS} {p : Program} {e : Env} {s : State} {m : MethodId} {args : Array Value} {below : List Frame} {meth : Method} {c : Code} {A : Nat → Prop} {ad : Nat → Nat} (C : qC p s m args meth c qm_Pg_isThere_c 5 (some .boolean) qR_Pg ad) (S : qS) (x1 : Int32) (y0 : Int32) (hf : fPg_isThere_49 S x1 y0 = some res) : ∀ (H : Heap) (locs : List Loc) (ls : Array Slot), qG D qCl (cT K) A s (cW h K S) H locs → lv_has ls 5 [(1, .int x1)] → W p l e ({ frames := 0, cells := 0, slots := 0, locals := 0 }) s m args below meth c H locs 0 0 (MQ below (qQi D qCl (cT K) (cW h K) A res) args s 0 0 A) (F0 m 49 ls [.int y0]) := by
  intro H locs ls G hl
  unfold fPg_isThere_49 at hf
  refine lv_istore (lv' := [(4, .int y0), (1, .int x1)]) C.1 C.2.1 qm_Pg_isThere_49 hl (by decide) rfl (fun ls hl => ?_)
  refine lv_iload C.1 C.2.1 qm_Pg_isThere_51 (lv_at hl 0 rfl) ?_
  refine lv_iload_n C.1 C.2.1 qm_Pg_isThere_53 rfl (lv_at hl 1 rfl) ?_
  refine lv_iconst (v := 1) C.1 C.2.1 qm_Pg_isThere_54 (by decide) ?_
  refine lv_icmp_eq (tgt := 62) C.1 C.2.1 qm_Pg_isThere_55 (by decide) (fun b1 => ?_) (fun b1 => ?_)
  · have hf := if_t b1 hf
    refine lv_iconst (v := 0) C.1 C.2.1 qm_Pg_isThere_62 (by decide) ?_
    exact wPg_isThere_63 C S y0 0 hf _ _ _ G (lv_sub hl [] rfl)
  · have hf := if_f b1 hf
    refine lv_iconst (v := 1) C.1 C.2.1 qm_Pg_isThere_58 (by decide) ?_
    refine lv_goto (tgt := 63) C.1 C.2.1 qm_Pg_isThere_59 (by decide) ?_
    exact wPg_isThere_63 C S y0 1 hf _ _ _ G (lv_sub hl [] rfl)
set_option maxHeartbeats 4000000 in
set_option maxRecDepth 100000 in
theorem wPg_isThere_44 {l : Launch} {D : va_G} {h : Nat → Nat} {K : Nat → ClassId} {res : Int32 × qS} {p : Program} {e : Env} {s : State} {m : MethodId} {args : Array Value} {below : List Frame} {meth : Method} {c : Code} {A : Nat → Prop} {ad : Nat → Nat} (C : qC p s m args meth c qm_Pg_isThere_c 5 (some .boolean) qR_Pg ad) (S : qS) (x1 : Int32) (hf : fPg_isThere_44 S x1 = some res) : ∀ (H : Heap) (locs : List Loc) (ls : Array Slot), qG D qCl (cT K) A s (cW h K S) H locs → lv_has ls 5 [(1, .int x1)] → W p l e ({ frames := 0, cells := 0, slots := 0, locals := 0 }) s m args below meth c H locs 0 0 (MQ below (qQi D qCl (cT K) (cW h K) A res) args s 0 0 A) (F0 m 44 ls []) := by
  intro H locs ls G hl
  unfold fPg_isThere_44 at hf
  refine lv_iconst (v := 1) C.1 C.2.1 qm_Pg_isThere_44 (by decide) ?_
  refine lv_goto (tgt := 49) C.1 C.2.1 qm_Pg_isThere_45 (by decide) ?_
  exact wPg_isThere_49 C S x1 1 hf _ _ _ G (lv_sub hl [0] rfl)
set_option maxHeartbeats 4000000 in
set_option maxRecDepth 100000 in
theorem wPg_isThere_33 {l : Launch} {D : va_G} {h : Nat → Nat} {K : Nat → ClassId} {res : Int32 × qS} {p : Program} {e : Env} {s : State} {m : MethodId} {args : Array Value} {below : List Frame} {meth : Method} {c : Code} {A : Nat → Prop} {ad : Nat → Nat} (C : qC p s m args meth c qm_Pg_isThere_c 5 (some .boolean) qR_Pg ad) (S : qS) (x1 : Int32) (x2 : Int32) (y1 : Int32) (hf : fPg_isThere_33 S x1 x2 y1 = some res) : ∀ (H : Heap) (locs : List Loc) (ls : Array Slot), qG D qCl (cT K) A s (cW h K S) H locs → lv_has ls 5 [(1, .int x1), (2, .int x2)] → W p l e ({ frames := 0, cells := 0, slots := 0, locals := 0 }) s m args below meth c H locs 0 0 (MQ below (qQi D qCl (cT K) (cW h K) A res) args s 0 0 A) (F0 m 33 ls [.int y1, .ref (h 3)]) := by
  intro H locs ls G hl
  unfold fPg_isThere_33 at hf
  obtain ⟨b1, hf⟩ := chk_s hf
  refine q_iald (wf := (cW h K)) C G 3 1 rfl rfl b1 qm_Pg_isThere_33 ?_
  refine lv_istore_n (lv' := [(3, .int (gA S 1 y1)), (1, .int x1), (2, .int x2)]) C.1 C.2.1 qm_Pg_isThere_34 rfl hl (by decide) rfl (fun ls hl => ?_)
  refine lv_iload_n C.1 C.2.1 qm_Pg_isThere_35 rfl (lv_at hl 0 rfl) ?_
  refine lv_if_lt (tgt := 44) C.1 C.2.1 qm_Pg_isThere_36 (by decide) (fun b2 => ?_) (fun b2 => ?_)
  · have hf := if_t b2 hf
    exact wPg_isThere_44 C S x1 hf _ _ _ G (lv_sub hl [1] rfl)
  · have hf := if_f b2 hf
    refine lv_iload_n C.1 C.2.1 qm_Pg_isThere_39 rfl (lv_at hl 2 rfl) ?_
    refine lv_iload_n C.1 C.2.1 qm_Pg_isThere_40 rfl (lv_at hl 0 rfl) ?_
    refine lv_icmp_ge (tgt := 48) C.1 C.2.1 qm_Pg_isThere_41 (by decide) (fun b3 => ?_) (fun b3 => ?_)
    · have hf := if_t b3 hf
      refine lv_iconst (v := 0) C.1 C.2.1 qm_Pg_isThere_48 (by decide) ?_
      exact wPg_isThere_49 C S x1 0 hf _ _ _ G (lv_sub hl [1] rfl)
    · have hf := if_f b3 hf
      exact wPg_isThere_44 C S x1 hf _ _ _ G (lv_sub hl [1] rfl)
set_option maxHeartbeats 4000000 in
set_option maxRecDepth 100000 in
theorem wPg_isThere {l : Launch} {D : va_G} {h : Nat → Nat} {K : Nat → ClassId} {res : Int32 × qS} {p : Program} {e : Env} {s : State} {m : MethodId} {args : Array Value} {below : List Frame} {meth : Method} {c : Code} {A : Nat → Prop} {ad : Nat → Nat} (C : qC p s m args meth c qm_Pg_isThere_c 5 (some .boolean) qR_Pg ad) (S : qS) (a1 : Int32) (a2 : Int32) (hf : fPg_isThere S a1 a2 = some res) : ∀ (H : Heap) (locs : List Loc) (ls : Array Slot), qG D qCl (cT K) A s (cW h K S) H locs → lv_has ls 5 [(0, .ref (h 4)), (1, .int a1), (2, .int a2)] → W p l e ({ frames := 0, cells := 0, slots := 0, locals := 0 }) s m args below meth c H locs 0 0 (MQ below (qQi D qCl (cT K) (cW h K) A res) args s 0 0 A) (F0 m 0 ls []) := by
  intro H locs ls G hl
  unfold fPg_isThere at hf
  refine lv_iload_n C.1 C.2.1 qm_Pg_isThere_0 rfl (lv_at hl 1 rfl) ?_
  refine lv_iconst (v := 2) C.1 C.2.1 qm_Pg_isThere_1 (by decide) ?_
  refine lv_icmp_le (tgt := 7) C.1 C.2.1 qm_Pg_isThere_2 (by decide) (fun b1 => ?_) (fun b1 => ?_)
  · have hf := if_t b1 hf
    refine lv_aload_n C.1 C.2.1 qm_Pg_isThere_7 rfl (lv_at hl 0 rfl) ?_
    refine q_get (wf := (cW h K)) (v := .ref (h 3)) C G qi_Pg 4 rfl rfl 1 (by decide) qz_53 rfl qm_Pg_isThere_8 ?_
    refine lv_iload_n C.1 C.2.1 qm_Pg_isThere_11 rfl (lv_at hl 1 rfl) ?_
    refine lv_iconst (v := 2) C.1 C.2.1 qm_Pg_isThere_12 (by decide) ?_
    refine lv_icmp_ne (tgt := 21) C.1 C.2.1 qm_Pg_isThere_13 (by decide) (fun b2 => ?_) (fun b2 => ?_)
    · have hf := if_t b2 hf
      refine lv_iload_n C.1 C.2.1 qm_Pg_isThere_21 rfl (lv_at hl 1 rfl) ?_
      refine lv_iconst (v := 1) C.1 C.2.1 qm_Pg_isThere_22 (by decide) ?_
      refine lv_icmp_ne (tgt := 31) C.1 C.2.1 qm_Pg_isThere_23 (by decide) (fun b3 => ?_) (fun b3 => ?_)
      · have hf := if_t b3 hf
        refine lv_bipush (v := 9) C.1 C.2.1 qm_Pg_isThere_31 (by decide) ?_
        exact wPg_isThere_33 C S a1 a2 9 hf _ _ _ G (lv_sub hl [1, 2] rfl)
      · have hf := if_f (not_not_intro b3) hf
        refine lv_bipush (v := 11) C.1 C.2.1 qm_Pg_isThere_26 (by decide) ?_
        refine lv_goto (tgt := 33) C.1 C.2.1 qm_Pg_isThere_28 (by decide) ?_
        exact wPg_isThere_33 C S a1 a2 11 hf _ _ _ G (lv_sub hl [1, 2] rfl)
    · have hf := if_f (not_not_intro b2) hf
      refine lv_bipush (v := 13) C.1 C.2.1 qm_Pg_isThere_16 (by decide) ?_
      refine lv_goto (tgt := 33) C.1 C.2.1 qm_Pg_isThere_18 (by decide) ?_
      exact wPg_isThere_33 C S a1 a2 13 hf _ _ _ G (lv_sub hl [1, 2] rfl)
  · have hf := if_f b1 hf
    refine lv_iconst (v := 0) C.1 C.2.1 qm_Pg_isThere_5 (by decide) ?_
    exact q_zret (wf := (cW h K)) C G hf qm_Pg_isThere_6
theorem kPg_isThere {l : Launch} {ad : Nat → Nat} {D : va_G} {h : Nat → Nat} {K : Nat → ClassId} {res : Int32 × qS} {S : qS} {a1 : Int32} {a2 : Int32} (hf : fPg_isThere S a1 a2 = some res) : qMi l qm_Pg_isThere qm_Pg_isThere_c 5 .boolean 0 0 D qCl (cT K) ad (cW h K) [.ref (h 4), .int a1, .int a2] S res := qMi_of (by decide) (Nat.le_of_ble_eq_true rfl) (fun _ _ _ _ _ _ _ _ _ _ C G hl => wPg_isThere C S a1 a2 hf _ _ _ G hl)
set_option maxHeartbeats 4000000 in
set_option maxRecDepth 100000 in
theorem wPg_refusal {l : Launch} {D : va_G} {h : Nat → Nat} {K : Nat → ClassId} {res : Int32 × qS} {p : Program} {e : Env} {s : State} {m : MethodId} {args : Array Value} {below : List Frame} {meth : Method} {c : Code} {A : Nat → Prop} {ad : Nat → Nat} (C : qC p s m args meth c qm_Pg_refusal_c 2 (some .int) qR_Pg ad) (S : qS) (a0 : Int32) (a1 : Int32) (hf : fPg_refusal S a0 a1 = some res) : ∀ (H : Heap) (locs : List Loc) (ls : Array Slot), qG D qCl (cT K) A s (cW h K S) H locs → lv_has ls 2 [(0, .int a0), (1, .int a1)] → W p l e ({ frames := 0, cells := 0, slots := 0, locals := 0 }) s m args below meth c H locs 0 0 (MQ below (qQi D qCl (cT K) (cW h K) A res) args s 0 0 A) (F0 m 0 ls []) := by
  intro H locs ls G hl
  unfold fPg_refusal at hf
  refine lv_bipush (v := (-10)) C.1 C.2.1 qm_Pg_refusal_0 (by decide) ?_
  refine lv_bipush (v := 10) C.1 C.2.1 qm_Pg_refusal_2 (by decide) ?_
  refine lv_iload_n C.1 C.2.1 qm_Pg_refusal_4 rfl (lv_at hl 0 rfl) ?_
  refine lv_imul C.1 C.2.1 qm_Pg_refusal_5 ?_
  refine lv_isub C.1 C.2.1 qm_Pg_refusal_6 ?_
  refine lv_iload_n C.1 C.2.1 qm_Pg_refusal_7 rfl (lv_at hl 1 rfl) ?_
  refine lv_isub C.1 C.2.1 qm_Pg_refusal_8 ?_
  exact q_iret (wf := (cW h K)) C G hf qm_Pg_refusal_9
theorem kPg_refusal {l : Launch} {ad : Nat → Nat} {D : va_G} {h : Nat → Nat} {K : Nat → ClassId} {res : Int32 × qS} {S : qS} {a0 : Int32} {a1 : Int32} (hf : fPg_refusal S a0 a1 = some res) : qMi l qm_Pg_refusal qm_Pg_refusal_c 2 .int 0 0 D qCl (cT K) ad (cW h K) [.int a0, .int a1] S res := qMi_of (by decide) (Nat.le_of_ble_eq_true rfl) (fun _ _ _ _ _ _ _ _ _ _ C G hl => wPg_refusal C S a0 a1 hf _ _ _ G hl)
set_option maxHeartbeats 4000000 in
set_option maxRecDepth 100000 in
theorem wPg_isValid_9 {l : Launch} {D : va_G} {h : Nat → Nat} {K : Nat → ClassId} {res : Int32 × qS} {p : Program} {e : Env} {s : State} {m : MethodId} {args : Array Value} {below : List Frame} {meth : Method} {c : Code} {A : Nat → Prop} {ad : Nat → Nat} (C : qC p s m args meth c qm_Pg_isValid_c 1 (some .boolean) qR_Pg ad) (S : qS) (y0 : Int32) (hf : fPg_isValid_9 S y0 = some res) : ∀ (H : Heap) (locs : List Loc) (ls : Array Slot), qG D qCl (cT K) A s (cW h K S) H locs → lv_has ls 1 [] → W p l e ({ frames := 0, cells := 0, slots := 0, locals := 0 }) s m args below meth c H locs 0 0 (MQ below (qQi D qCl (cT K) (cW h K) A res) args s 0 0 A) (F0 m 9 ls [.int y0]) := by
  intro H locs ls G hl
  unfold fPg_isValid_9 at hf
  exact q_zret (wf := (cW h K)) C G hf qm_Pg_isValid_9
set_option maxHeartbeats 4000000 in
set_option maxRecDepth 100000 in
theorem wPg_isValid {l : Launch} {D : va_G} {h : Nat → Nat} {K : Nat → ClassId} {res : Int32 × qS} {p : Program} {e : Env} {s : State} {m : MethodId} {args : Array Value} {below : List Frame} {meth : Method} {c : Code} {A : Nat → Prop} {ad : Nat → Nat} (C : qC p s m args meth c qm_Pg_isValid_c 1 (some .boolean) qR_Pg ad) (S : qS) (a0 : Int32) (hf : fPg_isValid S a0 = some res) : ∀ (H : Heap) (locs : List Loc) (ls : Array Slot), qG D qCl (cT K) A s (cW h K S) H locs → lv_has ls 1 [(0, .int a0)] → W p l e ({ frames := 0, cells := 0, slots := 0, locals := 0 }) s m args below meth c H locs 0 0 (MQ below (qQi D qCl (cT K) (cW h K) A res) args s 0 0 A) (F0 m 0 ls []) := by
  intro H locs ls G hl
  unfold fPg_isValid at hf
  refine lv_iload_n C.1 C.2.1 qm_Pg_isValid_0 rfl (lv_at hl 0 rfl) ?_
  refine lv_if_ge (tgt := 8) C.1 C.2.1 qm_Pg_isValid_1 (by decide) (fun b1 => ?_) (fun b1 => ?_)
  · have hf := if_t b1 hf
    refine lv_iconst (v := 0) C.1 C.2.1 qm_Pg_isValid_8 (by decide) ?_
    exact wPg_isValid_9 C S 0 hf _ _ _ G (lv_sub hl [] rfl)
  · have hf := if_f b1 hf
    refine lv_iconst (v := 1) C.1 C.2.1 qm_Pg_isValid_4 (by decide) ?_
    refine lv_goto (tgt := 9) C.1 C.2.1 qm_Pg_isValid_5 (by decide) ?_
    exact wPg_isValid_9 C S 1 hf _ _ _ G (lv_sub hl [] rfl)
theorem kPg_isValid {l : Launch} {ad : Nat → Nat} {D : va_G} {h : Nat → Nat} {K : Nat → ClassId} {res : Int32 × qS} {S : qS} {a0 : Int32} (hf : fPg_isValid S a0 = some res) : qMi l qm_Pg_isValid qm_Pg_isValid_c 1 .boolean 0 0 D qCl (cT K) ad (cW h K) [.int a0] S res := qMi_of (by decide) (Nat.le_of_ble_eq_true rfl) (fun _ _ _ _ _ _ _ _ _ _ C G hl => wPg_isValid C S a0 hf _ _ _ G hl)
set_option maxHeartbeats 4000000 in
set_option maxRecDepth 100000 in
theorem wPg_inFrame {l : Launch} {D : va_G} {h : Nat → Nat} {K : Nat → ClassId} {res : Int32 × qS} {p : Program} {e : Env} {s : State} {m : MethodId} {args : Array Value} {below : List Frame} {meth : Method} {c : Code} {A : Nat → Prop} {ad : Nat → Nat} (C : qC p s m args meth c qm_Pg_inFrame_c 2 (some .int) qR_Pg ad) (S : qS) (a0 : Int32) (a1 : Int32) (hf : fPg_inFrame S a0 a1 = some res) : ∀ (H : Heap) (locs : List Loc) (ls : Array Slot), qG D qCl (cT K) A s (cW h K S) H locs → lv_has ls 2 [(0, .int a0), (1, .int a1)] → W p l e ({ frames := 0, cells := 0, slots := 0, locals := 0 }) s m args below meth c H locs 0 0 (MQ below (qQi D qCl (cT K) (cW h K) A res) args s 0 0 A) (F0 m 0 ls []) := by
  intro H locs ls G hl
  unfold fPg_inFrame at hf
  refine lv_bipush (v := 64) C.1 C.2.1 qm_Pg_inFrame_0 (by decide) ?_
  refine lv_iload_n C.1 C.2.1 qm_Pg_inFrame_2 rfl (lv_at hl 0 rfl) ?_
  refine lv_bipush (v := 31) C.1 C.2.1 qm_Pg_inFrame_3 (by decide) ?_
  refine lv_iand C.1 C.2.1 qm_Pg_inFrame_5 ?_
  refine lv_imul C.1 C.2.1 qm_Pg_inFrame_6 ?_
  refine lv_iload_n C.1 C.2.1 qm_Pg_inFrame_7 rfl (lv_at hl 1 rfl) ?_
  refine lv_bipush (v := 63) C.1 C.2.1 qm_Pg_inFrame_8 (by decide) ?_
  refine lv_iand C.1 C.2.1 qm_Pg_inFrame_10 ?_
  refine lv_iadd C.1 C.2.1 qm_Pg_inFrame_11 ?_
  exact q_iret (wf := (cW h K)) C G hf qm_Pg_inFrame_12
theorem kPg_inFrame {l : Launch} {ad : Nat → Nat} {D : va_G} {h : Nat → Nat} {K : Nat → ClassId} {res : Int32 × qS} {S : qS} {a0 : Int32} {a1 : Int32} (hf : fPg_inFrame S a0 a1 = some res) : qMi l qm_Pg_inFrame qm_Pg_inFrame_c 2 .int 0 0 D qCl (cT K) ad (cW h K) [.int a0, .int a1] S res := qMi_of (by decide) (Nat.le_of_ble_eq_true rfl) (fun _ _ _ _ _ _ _ _ _ _ C G hl => wPg_inFrame C S a0 a1 hf _ _ _ G hl)
set_option maxHeartbeats 4000000 in
set_option maxRecDepth 100000 in
theorem wPg_grants_49 {l : Launch} {D : va_G} {h : Nat → Nat} {K : Nat → ClassId} {res : Int32 × qS} {p : Program} {e : Env} {s : State} {m : MethodId} {args : Array Value} {below : List Frame} {meth : Method} {c : Code} {A : Nat → Prop} {ad : Nat → Nat} (C : qC p s m args meth c qm_Pg_grants_c 5 (some .boolean) qR_Pg ad) (S : qS) (y0 : Int32) (hf : fPg_grants_49 S y0 = some res) : ∀ (H : Heap) (locs : List Loc) (ls : Array Slot), qG D qCl (cT K) A s (cW h K S) H locs → lv_has ls 5 [] → W p l e ({ frames := 0, cells := 0, slots := 0, locals := 0 }) s m args below meth c H locs 0 0 (MQ below (qQi D qCl (cT K) (cW h K) A res) args s 0 0 A) (F0 m 49 ls [.int y0]) := by
  intro H locs ls G hl
  unfold fPg_grants_49 at hf
  exact q_zret (wf := (cW h K)) C G hf qm_Pg_grants_49
set_option maxHeartbeats 4000000 in
set_option maxRecDepth 100000 in
theorem wPg_grants_35 {l : Launch} {D : va_G} {h : Nat → Nat} {K : Nat → ClassId} {res : Int32 × qS} {p : Program} {e : Env} {s : State} {m : MethodId} {args : Array Value} {below : List Frame} {meth : Method} {c : Code} {A : Nat → Prop} {ad : Nat → Nat} (C : qC p s m args meth c qm_Pg_grants_c 5 (some .boolean) qR_Pg ad) (S : qS) (hf : fPg_grants_35 S = some res) : ∀ (H : Heap) (locs : List Loc) (ls : Array Slot), qG D qCl (cT K) A s (cW h K S) H locs → lv_has ls 5 [] → W p l e ({ frames := 0, cells := 0, slots := 0, locals := 0 }) s m args below meth c H locs 0 0 (MQ below (qQi D qCl (cT K) (cW h K) A res) args s 0 0 A) (F0 m 35 ls []) := by
  intro H locs ls G hl
  unfold fPg_grants_35 at hf
  refine lv_iconst (v := 0) C.1 C.2.1 qm_Pg_grants_35 (by decide) ?_
  refine lv_goto (tgt := 49) C.1 C.2.1 qm_Pg_grants_36 (by decide) ?_
  exact wPg_grants_49 C S 0 hf _ _ _ G (lv_sub hl [] rfl)
set_option maxHeartbeats 4000000 in
set_option maxRecDepth 100000 in
theorem wPg_grants {l : Launch} {D : va_G} {h : Nat → Nat} {K : Nat → ClassId} {res : Int32 × qS} {p : Program} {e : Env} {s : State} {m : MethodId} {args : Array Value} {below : List Frame} {meth : Method} {c : Code} {A : Nat → Prop} {ad : Nat → Nat} (C : qC p s m args meth c qm_Pg_grants_c 5 (some .boolean) qR_Pg ad) (S : qS) (a0 : Int32) (a1 : Int32) (a2 : Int32) (hf : fPg_grants S a0 a1 a2 = some res) : ∀ (H : Heap) (locs : List Loc) (ls : Array Slot), qG D qCl (cT K) A s (cW h K S) H locs → lv_has ls 5 [(0, .int a0), (1, .int a1), (2, .int a2)] → W p l e ({ frames := 0, cells := 0, slots := 0, locals := 0 }) s m args below meth c H locs 0 0 (MQ below (qQi D qCl (cT K) (cW h K) A res) args s 0 0 A) (F0 m 0 ls []) := by
  intro H locs ls G hl
  unfold fPg_grants at hf
  refine lv_iload_n C.1 C.2.1 qm_Pg_grants_0 rfl (lv_at hl 0 rfl) ?_
  refine lv_bipush (v := 27) C.1 C.2.1 qm_Pg_grants_1 (by decide) ?_
  refine lv_iushr (v := ushr a0 27) C.1 C.2.1 qm_Pg_grants_3 rfl ?_
  refine lv_iconst (v := 3) C.1 C.2.1 qm_Pg_grants_4 (by decide) ?_
  refine lv_iand C.1 C.2.1 qm_Pg_grants_5 ?_
  refine lv_istore_n (lv' := [(3, .int ((ushr a0 27) &&& 3)), (0, .int a0), (1, .int a1), (2, .int a2)]) C.1 C.2.1 qm_Pg_grants_6 rfl hl (by decide) rfl (fun ls hl => ?_)
  refine lv_iload_n C.1 C.2.1 qm_Pg_grants_7 rfl (lv_at hl 1 rfl) ?_
  refine lv_bipush (v := 29) C.1 C.2.1 qm_Pg_grants_8 (by decide) ?_
  refine lv_iushr (v := ushr a0 29) C.1 C.2.1 qm_Pg_grants_10 rfl ?_
  refine lv_iconst (v := 3) C.1 C.2.1 qm_Pg_grants_11 (by decide) ?_
  refine lv_iand C.1 C.2.1 qm_Pg_grants_12 ?_
  refine lv_istore (lv' := [(4, .int ((ushr a0 29) &&& 3)), (3, .int ((ushr a0 27) &&& 3)), (0, .int a0), (1, .int a1), (2, .int a2)]) C.1 C.2.1 qm_Pg_grants_13 hl (by decide) rfl (fun ls hl => ?_)
  refine lv_iload_n C.1 C.2.1 qm_Pg_grants_15 rfl (lv_at hl 3 rfl) ?_
  refine lv_if_eq (tgt := 39) C.1 C.2.1 qm_Pg_grants_16 (by decide) (fun b1 => ?_) (fun b1 => ?_)
  · have hf := if_t b1 hf
    refine lv_iload_n C.1 C.2.1 qm_Pg_grants_39 rfl (lv_at hl 4 rfl) ?_
    refine lv_iload_n C.1 C.2.1 qm_Pg_grants_40 rfl (lv_at hl 1 rfl) ?_
    refine lv_icmp_gt (tgt := 48) C.1 C.2.1 qm_Pg_grants_41 (by decide) (fun b2 => ?_) (fun b2 => ?_)
    · have hf := if_t b2 hf
      refine lv_iconst (v := 0) C.1 C.2.1 qm_Pg_grants_48 (by decide) ?_
      exact wPg_grants_49 C S 0 hf _ _ _ G (lv_sub hl [] rfl)
    · have hf := if_f b2 hf
      refine lv_iconst (v := 1) C.1 C.2.1 qm_Pg_grants_44 (by decide) ?_
      refine lv_goto (tgt := 49) C.1 C.2.1 qm_Pg_grants_45 (by decide) ?_
      exact wPg_grants_49 C S 1 hf _ _ _ G (lv_sub hl [] rfl)
  · have hf := if_f b1 hf
    refine lv_iload_n C.1 C.2.1 qm_Pg_grants_19 rfl (lv_at hl 4 rfl) ?_
    refine lv_iload C.1 C.2.1 qm_Pg_grants_20 (lv_at hl 0 rfl) ?_
    refine lv_icmp_gt (tgt := 35) C.1 C.2.1 qm_Pg_grants_22 (by decide) (fun b3 => ?_) (fun b3 => ?_)
    · have hf := if_t b3 hf
      exact wPg_grants_35 C S hf _ _ _ G (lv_sub hl [] rfl)
    · have hf := if_f b3 hf
      refine lv_iload C.1 C.2.1 qm_Pg_grants_25 (lv_at hl 0 rfl) ?_
      refine lv_iload_n C.1 C.2.1 qm_Pg_grants_27 rfl (lv_at hl 1 rfl) ?_
      refine lv_icmp_gt (tgt := 35) C.1 C.2.1 qm_Pg_grants_28 (by decide) (fun b4 => ?_) (fun b4 => ?_)
      · have hf := if_t b4 hf
        exact wPg_grants_35 C S hf _ _ _ G (lv_sub hl [] rfl)
      · have hf := if_f b4 hf
        refine lv_iconst (v := 1) C.1 C.2.1 qm_Pg_grants_31 (by decide) ?_
        refine lv_goto (tgt := 49) C.1 C.2.1 qm_Pg_grants_32 (by decide) ?_
        exact wPg_grants_49 C S 1 hf _ _ _ G (lv_sub hl [] rfl)
theorem kPg_grants {l : Launch} {ad : Nat → Nat} {D : va_G} {h : Nat → Nat} {K : Nat → ClassId} {res : Int32 × qS} {S : qS} {a0 : Int32} {a1 : Int32} {a2 : Int32} (hf : fPg_grants S a0 a1 a2 = some res) : qMi l qm_Pg_grants qm_Pg_grants_c 5 .boolean 0 0 D qCl (cT K) ad (cW h K) [.int a0, .int a1, .int a2] S res := qMi_of (by decide) (Nat.le_of_ble_eq_true rfl) (fun _ _ _ _ _ _ _ _ _ _ C G hl => wPg_grants C S a0 a1 a2 hf _ _ _ G hl)
set_option maxHeartbeats 4000000 in
set_option maxRecDepth 100000 in
theorem wPg_locate_189 {l : Launch} {D : va_G} {h : Nat → Nat} {K : Nat → ClassId} {res : Int32 × qS} {p : Program} {e : Env} {s : State} {m : MethodId} {args : Array Value} {below : List Frame} {meth : Method} {c : Code} {A : Nat → Prop} {ad : Nat → Nat} (C : qC p s m args meth c qm_Pg_locate_c 10 (some .int) qR_Pg ad) (S : qS) (x1 : Int32) (x2 : Int32) (x3 : Int32) (x4 : Int32) (x7 : Int32) (hf : fPg_locate_189 S x1 x2 x3 x4 x7 = some res) : ∀ (H : Heap) (locs : List Loc) (ls : Array Slot), qG D qCl (cT K) A s (cW h K S) H locs → lv_has ls 10 [(0, .ref (h 4)), (1, .int x1), (2, .int x2), (3, .int x3), (4, .int x4), (7, .int x7)] → W p l e ({ frames := 1, cells := 0, slots := 0, locals := 24 }) s m args below meth c H locs 0 0 (MQ below (qQi D qCl (cT K) (cW h K) A res) args s 0 0 A) (F0 m 189 ls []) := by
  intro H locs ls G hl
  unfold fPg_locate_189 at hf
  refine lv_aload_n C.1 C.2.1 qm_Pg_locate_189 rfl (lv_at hl 0 rfl) ?_
  refine q_get (wf := (cW h K)) (v := .ref (h 1)) C G qi_Pg 4 rfl rfl 0 (by decide) qz_66 rfl qm_Pg_locate_190 ?_
  refine lv_iload C.1 C.2.1 qm_Pg_locate_193 (lv_at hl 5 rfl) ?_
  obtain ⟨q1, c1, hf⟩ := bnd_s hf
  refine q_callVi (wf := (cW h K)) (n := 1) (As := [.int x7]) (q0 := 1) (ci := 5) C G hl.1 (kSt_longAt (l := l) c1) qx_Pg_37 qm_St_longAt_d ⟨by decide, by decide⟩ ⟨Nat.le_refl _, Nat.le_refl _⟩ rfl rfl rfl rfl rfl (Nat.le_of_ble_eq_true rfl) qm_Pg_locate_195 (fun H locs G => ?_)
  refine lv_istore (lv' := [(8, .int q1.1), (0, .ref (h 4)), (1, .int x1), (2, .int x2), (3, .int x3), (4, .int x4), (7, .int x7)]) C.1 C.2.1 qm_Pg_locate_198 hl (by decide) rfl (fun ls hl => ?_)
  refine lv_iload C.1 C.2.1 qm_Pg_locate_200 (lv_at hl 0 rfl) ?_
  refine lv_iload_n C.1 C.2.1 qm_Pg_locate_202 rfl (lv_at hl 3 rfl) ?_
  refine lv_iload_n C.1 C.2.1 qm_Pg_locate_203 rfl (lv_at hl 4 rfl) ?_
  obtain ⟨q2, c2, hf⟩ := bnd_s hf
  refine q_callSi (wf := (cW h K)) (n := 3) (As := [.int q1.1, .int x2, .int x3]) C G hl.1 (kPg_grants (l := l) c2) qx_Pg_47 qm_Pg_grants_d ⟨by decide, by decide⟩ ⟨Nat.le_refl _, Nat.le_refl _⟩ rfl rfl (Nat.le_of_ble_eq_true rfl) qm_Pg_locate_204 (fun H locs G => ?_)
  refine lv_if_ne (tgt := 217) C.1 C.2.1 qm_Pg_locate_207 (by decide) (fun b3 => ?_) (fun b3 => ?_)
  · have hf := if_t b3 hf
    refine lv_iload C.1 C.2.1 qm_Pg_locate_217 (lv_at hl 0 rfl) ?_
    obtain ⟨q4, c4, hf⟩ := bnd_s hf
    refine q_callSi (wf := (cW h K)) (n := 1) (As := [.int q1.1]) C G hl.1 (kPg_isValid (l := l) c4) qx_Pg_40 qm_Pg_isValid_d ⟨by decide, by decide⟩ ⟨Nat.le_refl _, Nat.le_refl _⟩ rfl rfl (Nat.le_of_ble_eq_true rfl) qm_Pg_locate_219 (fun H locs G => ?_)
    refine lv_if_ne (tgt := 232) C.1 C.2.1 qm_Pg_locate_222 (by decide) (fun b5 => ?_) (fun b5 => ?_)
    · have hf := if_t b5 hf
      refine lv_aload_n C.1 C.2.1 qm_Pg_locate_232 rfl (lv_at hl 1 rfl) ?_
      refine lv_iload C.1 C.2.1 qm_Pg_locate_233 (lv_at hl 6 rfl) ?_
      refine lv_sipush (v := 2047) C.1 C.2.1 qm_Pg_locate_235 (by decide) ?_
      refine lv_iand C.1 C.2.1 qm_Pg_locate_238 ?_
      refine q_put (wf := (cW h K)) (S' := (pI q4.2 4 (x7 &&& 2047))) C G qi_Pg qY_Pg qy_Pg qn_Pg 4 rfl rfl 2 (by decide) qz_54 rfl rfl (Nat.le_of_ble_eq_true rfl) rfl qm_Pg_locate_239 (fun H locs G => ?_)
      refine lv_iload C.1 C.2.1 qm_Pg_locate_242 (lv_at hl 0 rfl) ?_
      refine lv_iload_n C.1 C.2.1 qm_Pg_locate_244 rfl (lv_at hl 2 rfl) ?_
      obtain ⟨q6, c6, hf⟩ := bnd_s hf
      refine q_callSi (wf := (cW h K)) (n := 2) (As := [.int q1.1, .int x1]) C G hl.1 (kPg_inFrame (l := l) c6) qx_Pg_44 qm_Pg_inFrame_d ⟨by decide, by decide⟩ ⟨Nat.le_refl _, Nat.le_refl _⟩ rfl rfl (Nat.le_of_ble_eq_true rfl) qm_Pg_locate_245 (fun H locs G => ?_)
      exact q_iret (wf := (cW h K)) C G hf qm_Pg_locate_248
    · have hf := if_f (not_not_intro b5) hf
      refine lv_iconst (v := 5) C.1 C.2.1 qm_Pg_locate_225 (by decide) ?_
      refine lv_iload C.1 C.2.1 qm_Pg_locate_226 (lv_at hl 5 rfl) ?_
      obtain ⟨q7, c7, hf⟩ := bnd_s hf
      refine q_callSi (wf := (cW h K)) (n := 2) (As := [.int 5, .int x4]) C G hl.1 (kPg_refusal (l := l) c7) qx_Pg_33 qm_Pg_refusal_d ⟨by decide, by decide⟩ ⟨Nat.le_refl _, Nat.le_refl _⟩ rfl rfl (Nat.le_of_ble_eq_true rfl) qm_Pg_locate_228 (fun H locs G => ?_)
      exact q_iret (wf := (cW h K)) C G hf qm_Pg_locate_231
  · have hf := if_f (not_not_intro b3) hf
    refine lv_iconst (v := 4) C.1 C.2.1 qm_Pg_locate_210 (by decide) ?_
    refine lv_iload C.1 C.2.1 qm_Pg_locate_211 (lv_at hl 5 rfl) ?_
    obtain ⟨q8, c8, hf⟩ := bnd_s hf
    refine q_callSi (wf := (cW h K)) (n := 2) (As := [.int 4, .int x4]) C G hl.1 (kPg_refusal (l := l) c8) qx_Pg_33 qm_Pg_refusal_d ⟨by decide, by decide⟩ ⟨Nat.le_refl _, Nat.le_refl _⟩ rfl rfl (Nat.le_of_ble_eq_true rfl) qm_Pg_locate_213 (fun H locs G => ?_)
    exact q_iret (wf := (cW h K)) C G hf qm_Pg_locate_216
set_option maxHeartbeats 4000000 in
set_option maxRecDepth 100000 in
theorem wPg_locate_130 {l : Launch} {D : va_G} {h : Nat → Nat} {K : Nat → ClassId} {res : Int32 × qS} {p : Program} {e : Env} {s : State} {m : MethodId} {args : Array Value} {below : List Frame} {meth : Method} {c : Code} {A : Nat → Prop} {ad : Nat → Nat} (C : qC p s m args meth c qm_Pg_locate_c 10 (some .int) qR_Pg ad) (S : qS) (x4 : Int32) (hf : fPg_locate_130 S x4 = some res) : ∀ (H : Heap) (locs : List Loc) (ls : Array Slot), qG D qCl (cT K) A s (cW h K S) H locs → lv_has ls 10 [(4, .int x4)] → W p l e ({ frames := 1, cells := 0, slots := 0, locals := 24 }) s m args below meth c H locs 0 0 (MQ below (qQi D qCl (cT K) (cW h K) A res) args s 0 0 A) (F0 m 130 ls []) := by
  intro H locs ls G hl
  unfold fPg_locate_130 at hf
  refine lv_iconst (v := 4) C.1 C.2.1 qm_Pg_locate_130 (by decide) ?_
  refine lv_iconst (v := 3) C.1 C.2.1 qm_Pg_locate_131 (by decide) ?_
  refine lv_iload C.1 C.2.1 qm_Pg_locate_132 (lv_at hl 0 rfl) ?_
  refine lv_iadd C.1 C.2.1 qm_Pg_locate_134 ?_
  obtain ⟨q1, c1, hf⟩ := bnd_s hf
  refine q_callSi (wf := (cW h K)) (n := 2) (As := [.int 4, .int (3 + x4)]) C G hl.1 (kPg_refusal (l := l) c1) qx_Pg_33 qm_Pg_refusal_d ⟨by decide, by decide⟩ ⟨Nat.le_refl _, Nat.le_refl _⟩ rfl rfl (Nat.le_of_ble_eq_true rfl) qm_Pg_locate_135 (fun H locs G => ?_)
  exact q_iret (wf := (cW h K)) C G hf qm_Pg_locate_138
set_option maxHeartbeats 4000000 in
set_option maxRecDepth 100000 in
theorem wPg_locate_100 {l : Launch} {D : va_G} {h : Nat → Nat} {K : Nat → ClassId} {res : Int32 × qS} {p : Program} {e : Env} {s : State} {m : MethodId} {args : Array Value} {below : List Frame} {meth : Method} {c : Code} {A : Nat → Prop} {ad : Nat → Nat} (C : qC p s m args meth c qm_Pg_locate_c 10 (some .int) qR_Pg ad) (S : qS) (x1 : Int32) (x2 : Int32) (x3 : Int32) (x4 : Int32) (x6 : Int32) (y1 : Int32) (hf : fPg_locate_100 S x1 x2 x3 x4 x6 y1 = some res) : ∀ (H : Heap) (locs : List Loc) (ls : Array Slot), qG D qCl (cT K) A s (cW h K S) H locs → lv_has ls 10 [(0, .ref (h 4)), (1, .int x1), (2, .int x2), (3, .int x3), (4, .int x4), (6, .int x6)] → W p l e ({ frames := 1, cells := 0, slots := 0, locals := 24 }) s m args below meth c H locs 0 0 (MQ below (qQi D qCl (cT K) (cW h K) A res) args s 0 0 A) (F0 m 100 ls [.int y1, .ref (h 3)]) := by
  intro H locs ls G hl
  unfold fPg_locate_100 at hf
  obtain ⟨b1, hf⟩ := chk_s hf
  refine q_iald (wf := (cW h K)) C G 3 1 rfl rfl b1 qm_Pg_locate_100 ?_
  refine lv_iconst (v := 4) C.1 C.2.1 qm_Pg_locate_101 (by decide) ?_
  refine lv_iload C.1 C.2.1 qm_Pg_locate_102 (lv_at hl 5 rfl) ?_
  refine lv_imul C.1 C.2.1 qm_Pg_locate_104 ?_
  refine lv_iadd C.1 C.2.1 qm_Pg_locate_105 ?_
  refine lv_istore (lv' := [(8, .int ((gA S 1 y1) + (4 * x6))), (0, .ref (h 4)), (1, .int x1), (2, .int x2), (3, .int x3), (4, .int x4), (6, .int x6)]) C.1 C.2.1 qm_Pg_locate_106 hl (by decide) rfl (fun ls hl => ?_)
  refine lv_iload C.1 C.2.1 qm_Pg_locate_108 (lv_at hl 0 rfl) ?_
  refine lv_bipush (v := 30) C.1 C.2.1 qm_Pg_locate_110 (by decide) ?_
  refine lv_iushr (v := ushr ((gA S 1 y1) + (4 * x6)) 30) C.1 C.2.1 qm_Pg_locate_112 rfl ?_
  refine lv_iconst (v := 2) C.1 C.2.1 qm_Pg_locate_113 (by decide) ?_
  refine lv_icmp_ne (tgt := 130) C.1 C.2.1 qm_Pg_locate_114 (by decide) (fun b2 => ?_) (fun b2 => ?_)
  · have hf := if_t b2 hf
    exact wPg_locate_130 C S x4 hf _ _ _ G (lv_sub hl [5] rfl)
  · have hf := if_f (not_not_intro b2) hf
    refine lv_aload_n C.1 C.2.1 qm_Pg_locate_117 rfl (lv_at hl 1 rfl) ?_
    refine lv_iconst (v := 2) C.1 C.2.1 qm_Pg_locate_118 (by decide) ?_
    refine lv_iload C.1 C.2.1 qm_Pg_locate_119 (lv_at hl 0 rfl) ?_
    obtain ⟨q3, c3, hf⟩ := bnd_s hf
    refine q_callSi (wf := (cW h K)) (n := 1) (As := [.int ((gA S 1 y1) + (4 * x6))]) C G hl.1 (kPg_pageOf (l := l) c3) qx_Pg_25 qm_Pg_pageOf_d ⟨by decide, by decide⟩ ⟨Nat.le_refl _, Nat.le_refl _⟩ rfl rfl (Nat.le_of_ble_eq_true rfl) qm_Pg_locate_121 (fun H locs G => ?_)
    obtain ⟨q4, c4, hf⟩ := bnd_s hf
    refine q_callVi (wf := (cW h K)) (n := 2) (As := [.int 2, .int q3.1]) (q0 := 4) (ci := 3) C G hl.1 (kPg_isThere (l := l) c4) qx_Pg_29 qm_Pg_isThere_d ⟨by decide, by decide⟩ ⟨Nat.le_refl _, Nat.le_refl _⟩ rfl rfl rfl rfl rfl (Nat.le_of_ble_eq_true rfl) qm_Pg_locate_124 (fun H locs G => ?_)
    refine lv_if_ne (tgt := 139) C.1 C.2.1 qm_Pg_locate_127 (by decide) (fun b5 => ?_) (fun b5 => ?_)
    · have hf := if_t b5 hf
      refine lv_aload_n C.1 C.2.1 qm_Pg_locate_139 rfl (lv_at hl 1 rfl) ?_
      refine q_get (wf := (cW h K)) (v := .ref (h 1)) C G qi_Pg 4 rfl rfl 0 (by decide) qz_66 rfl qm_Pg_locate_140 ?_
      refine lv_aload_n C.1 C.2.1 qm_Pg_locate_143 rfl (lv_at hl 1 rfl) ?_
      refine q_get (wf := (cW h K)) (v := .ref (h 3)) C G qi_Pg 4 rfl rfl 1 (by decide) qz_53 rfl qm_Pg_locate_144 ?_
      refine lv_bipush (v := 12) C.1 C.2.1 qm_Pg_locate_147 (by decide) ?_
      refine q_iald (wf := (cW h K)) C G 3 1 rfl rfl (by decide) qm_Pg_locate_149 ?_
      refine lv_iconst (v := 4) C.1 C.2.1 qm_Pg_locate_150 (by decide) ?_
      refine lv_iload C.1 C.2.1 qm_Pg_locate_151 (lv_at hl 0 rfl) ?_
      obtain ⟨q6, c6, hf⟩ := bnd_s hf
      refine q_callSi (wf := (cW h K)) (n := 1) (As := [.int ((gA S 1 y1) + (4 * x6))]) C G hl.1 (kPg_pageOf (l := l) c6) qx_Pg_25 qm_Pg_pageOf_d ⟨by decide, by decide⟩ ⟨Nat.le_refl _, Nat.le_refl _⟩ rfl rfl (Nat.le_of_ble_eq_true rfl) qm_Pg_locate_153 (fun H locs G => ?_)
      refine lv_imul C.1 C.2.1 qm_Pg_locate_156 ?_
      refine lv_iadd C.1 C.2.1 qm_Pg_locate_157 ?_
      obtain ⟨q7, c7, hf⟩ := bnd_s hf
      refine q_callVi (wf := (cW h K)) (n := 1) (As := [.int ((gA q4.2 1 12) + (4 * q6.1))]) (q0 := 1) (ci := 5) C G hl.1 (kSt_longAt (l := l) c7) qx_Pg_37 qm_St_longAt_d ⟨by decide, by decide⟩ ⟨Nat.le_refl _, Nat.le_refl _⟩ rfl rfl rfl rfl rfl (Nat.le_of_ble_eq_true rfl) qm_Pg_locate_158 (fun H locs G => ?_)
      refine lv_istore (lv' := [(9, .int q7.1), (8, .int ((gA S 1 y1) + (4 * x6))), (0, .ref (h 4)), (1, .int x1), (2, .int x2), (3, .int x3), (4, .int x4), (6, .int x6)]) C.1 C.2.1 qm_Pg_locate_161 hl (by decide) rfl (fun ls hl => ?_)
      refine lv_iload C.1 C.2.1 qm_Pg_locate_163 (lv_at hl 0 rfl) ?_
      obtain ⟨q8, c8, hf⟩ := bnd_s hf
      refine q_callSi (wf := (cW h K)) (n := 1) (As := [.int q7.1]) C G hl.1 (kPg_isValid (l := l) c8) qx_Pg_40 qm_Pg_isValid_d ⟨by decide, by decide⟩ ⟨Nat.le_refl _, Nat.le_refl _⟩ rfl rfl (Nat.le_of_ble_eq_true rfl) qm_Pg_locate_165 (fun H locs G => ?_)
      refine lv_if_ne (tgt := 180) C.1 C.2.1 qm_Pg_locate_168 (by decide) (fun b9 => ?_) (fun b9 => ?_)
      · have hf := if_t b9 hf
        refine lv_iload C.1 C.2.1 qm_Pg_locate_180 (lv_at hl 0 rfl) ?_
        refine lv_iload C.1 C.2.1 qm_Pg_locate_182 (lv_at hl 1 rfl) ?_
        obtain ⟨q10, c10, hf⟩ := bnd_s hf
        refine q_callSi (wf := (cW h K)) (n := 2) (As := [.int q7.1, .int ((gA S 1 y1) + (4 * x6))]) C G hl.1 (kPg_inFrame (l := l) c10) qx_Pg_44 qm_Pg_inFrame_d ⟨by decide, by decide⟩ ⟨Nat.le_refl _, Nat.le_refl _⟩ rfl rfl (Nat.le_of_ble_eq_true rfl) qm_Pg_locate_184 (fun H locs G => ?_)
        refine lv_istore (lv' := [(7, .int q10.1), (9, .int q7.1), (8, .int ((gA S 1 y1) + (4 * x6))), (0, .ref (h 4)), (1, .int x1), (2, .int x2), (3, .int x3), (4, .int x4), (6, .int x6)]) C.1 C.2.1 qm_Pg_locate_187 hl (by decide) rfl (fun ls hl => ?_)
        exact wPg_locate_189 C q10.2 x1 x2 x3 x4 q10.1 hf _ _ _ G (lv_sub hl [3, 4, 5, 6, 7, 0] rfl)
      · have hf := if_f (not_not_intro b9) hf
        refine lv_iconst (v := 5) C.1 C.2.1 qm_Pg_locate_171 (by decide) ?_
        refine lv_iconst (v := 2) C.1 C.2.1 qm_Pg_locate_172 (by decide) ?_
        refine lv_iload C.1 C.2.1 qm_Pg_locate_173 (lv_at hl 6 rfl) ?_
        refine lv_iadd C.1 C.2.1 qm_Pg_locate_175 ?_
        obtain ⟨q11, c11, hf⟩ := bnd_s hf
        refine q_callSi (wf := (cW h K)) (n := 2) (As := [.int 5, .int (2 + x4)]) C G hl.1 (kPg_refusal (l := l) c11) qx_Pg_33 qm_Pg_refusal_d ⟨by decide, by decide⟩ ⟨Nat.le_refl _, Nat.le_refl _⟩ rfl rfl (Nat.le_of_ble_eq_true rfl) qm_Pg_locate_176 (fun H locs G => ?_)
        exact q_iret (wf := (cW h K)) C G hf qm_Pg_locate_179
    · have hf := if_f (not_not_intro b5) hf
      exact wPg_locate_130 C q4.2 x4 hf _ _ _ G (lv_sub hl [5] rfl)
set_option maxHeartbeats 4000000 in
set_option maxRecDepth 100000 in
theorem wPg_locate_30 {l : Launch} {D : va_G} {h : Nat → Nat} {K : Nat → ClassId} {res : Int32 × qS} {p : Program} {e : Env} {s : State} {m : MethodId} {args : Array Value} {below : List Frame} {meth : Method} {c : Code} {A : Nat → Prop} {ad : Nat → Nat} (C : qC p s m args meth c qm_Pg_locate_c 10 (some .int) qR_Pg ad) (S : qS) (x1 : Int32) (x2 : Int32) (x3 : Int32) (y0 : Int32) (hf : fPg_locate_30 S x1 x2 x3 y0 = some res) : ∀ (H : Heap) (locs : List Loc) (ls : Array Slot), qG D qCl (cT K) A s (cW h K S) H locs → lv_has ls 10 [(0, .ref (h 4)), (1, .int x1), (2, .int x2), (3, .int x3)] → W p l e ({ frames := 1, cells := 0, slots := 0, locals := 24 }) s m args below meth c H locs 0 0 (MQ below (qQi D qCl (cT K) (cW h K) A res) args s 0 0 A) (F0 m 30 ls [.int y0]) := by
  intro H locs ls G hl
  unfold fPg_locate_30 at hf
  refine lv_istore (lv' := [(4, .int y0), (0, .ref (h 4)), (1, .int x1), (2, .int x2), (3, .int x3)]) C.1 C.2.1 qm_Pg_locate_30 hl (by decide) rfl (fun ls hl => ?_)
  refine lv_iload_n C.1 C.2.1 qm_Pg_locate_32 rfl (lv_at hl 2 rfl) ?_
  refine lv_bipush (v := 30) C.1 C.2.1 qm_Pg_locate_33 (by decide) ?_
  refine lv_iushr (v := ushr x1 30) C.1 C.2.1 qm_Pg_locate_35 rfl ?_
  refine lv_istore (lv' := [(5, .int (ushr x1 30)), (4, .int y0), (0, .ref (h 4)), (1, .int x1), (2, .int x2), (3, .int x3)]) C.1 C.2.1 qm_Pg_locate_36 hl (by decide) rfl (fun ls hl => ?_)
  refine lv_iload_n C.1 C.2.1 qm_Pg_locate_38 rfl (lv_at hl 3 rfl) ?_
  obtain ⟨q1, c1, hf⟩ := bnd_s hf
  refine q_callSi (wf := (cW h K)) (n := 1) (As := [.int x1]) C G hl.1 (kPg_pageOf (l := l) c1) qx_Pg_25 qm_Pg_pageOf_d ⟨by decide, by decide⟩ ⟨Nat.le_refl _, Nat.le_refl _⟩ rfl rfl (Nat.le_of_ble_eq_true rfl) qm_Pg_locate_39 (fun H locs G => ?_)
  refine lv_istore (lv' := [(6, .int q1.1), (5, .int (ushr x1 30)), (4, .int y0), (0, .ref (h 4)), (1, .int x1), (2, .int x2), (3, .int x3)]) C.1 C.2.1 qm_Pg_locate_42 hl (by decide) rfl (fun ls hl => ?_)
  refine lv_aload_n C.1 C.2.1 qm_Pg_locate_44 rfl (lv_at hl 3 rfl) ?_
  refine lv_iload C.1 C.2.1 qm_Pg_locate_45 (lv_at hl 1 rfl) ?_
  refine lv_iload C.1 C.2.1 qm_Pg_locate_47 (lv_at hl 0 rfl) ?_
  obtain ⟨q2, c2, hf⟩ := bnd_s hf
  refine q_callVi (wf := (cW h K)) (n := 2) (As := [.int (ushr x1 30), .int q1.1]) (q0 := 4) (ci := 3) C G hl.1 (kPg_isThere (l := l) c2) qx_Pg_29 qm_Pg_isThere_d ⟨by decide, by decide⟩ ⟨Nat.le_refl _, Nat.le_refl _⟩ rfl rfl rfl rfl rfl (Nat.le_of_ble_eq_true rfl) qm_Pg_locate_49 (fun H locs G => ?_)
  refine lv_if_ne (tgt := 64) C.1 C.2.1 qm_Pg_locate_52 (by decide) (fun b3 => ?_) (fun b3 => ?_)
  · have hf := if_t b3 hf
    refine lv_aload_n C.1 C.2.1 qm_Pg_locate_64 rfl (lv_at hl 3 rfl) ?_
    refine q_get (wf := (cW h K)) (v := .ref (h 3)) C G qi_Pg 4 rfl rfl 1 (by decide) qz_53 rfl qm_Pg_locate_65 ?_
    refine lv_bipush (v := 12) C.1 C.2.1 qm_Pg_locate_68 (by decide) ?_
    refine q_iald (wf := (cW h K)) C G 3 1 rfl rfl (by decide) qm_Pg_locate_70 ?_
    refine lv_iconst (v := 4) C.1 C.2.1 qm_Pg_locate_71 (by decide) ?_
    refine lv_iload C.1 C.2.1 qm_Pg_locate_72 (lv_at hl 0 rfl) ?_
    refine lv_imul C.1 C.2.1 qm_Pg_locate_74 ?_
    refine lv_iadd C.1 C.2.1 qm_Pg_locate_75 ?_
    refine lv_istore (lv' := [(7, .int ((gA q2.2 1 12) + (4 * q1.1))), (6, .int q1.1), (5, .int (ushr x1 30)), (4, .int y0), (0, .ref (h 4)), (1, .int x1), (2, .int x2), (3, .int x3)]) C.1 C.2.1 qm_Pg_locate_76 hl (by decide) rfl (fun ls hl => ?_)
    refine lv_iload C.1 C.2.1 qm_Pg_locate_78 (lv_at hl 2 rfl) ?_
    refine lv_iconst (v := 2) C.1 C.2.1 qm_Pg_locate_80 (by decide) ?_
    refine lv_icmp_eq (tgt := 189) C.1 C.2.1 qm_Pg_locate_81 (by decide) (fun b4 => ?_) (fun b4 => ?_)
    · have hf := if_t b4 hf
      exact wPg_locate_189 C q2.2 x1 x2 x3 y0 ((gA q2.2 1 12) + (4 * q1.1)) hf _ _ _ G (lv_sub hl [4, 5, 6, 7, 3, 0] rfl)
    · have hf := if_f b4 hf
      refine lv_aload_n C.1 C.2.1 qm_Pg_locate_84 rfl (lv_at hl 4 rfl) ?_
      refine q_get (wf := (cW h K)) (v := .ref (h 3)) C G qi_Pg 4 rfl rfl 1 (by decide) qz_53 rfl qm_Pg_locate_85 ?_
      refine lv_iload C.1 C.2.1 qm_Pg_locate_88 (lv_at hl 2 rfl) ?_
      refine lv_if_ne (tgt := 98) C.1 C.2.1 qm_Pg_locate_90 (by decide) (fun b5 => ?_) (fun b5 => ?_)
      · have hf := if_t b5 hf
        refine lv_bipush (v := 10) C.1 C.2.1 qm_Pg_locate_98 (by decide) ?_
        exact wPg_locate_100 C q2.2 x1 x2 x3 y0 q1.1 10 hf _ _ _ G (lv_sub hl [4, 5, 6, 7, 3, 1] rfl)
      · have hf := if_f (not_not_intro b5) hf
        refine lv_bipush (v := 8) C.1 C.2.1 qm_Pg_locate_93 (by decide) ?_
        refine lv_goto (tgt := 100) C.1 C.2.1 qm_Pg_locate_95 (by decide) ?_
        exact wPg_locate_100 C q2.2 x1 x2 x3 y0 q1.1 8 hf _ _ _ G (lv_sub hl [4, 5, 6, 7, 3, 1] rfl)
  · have hf := if_f (not_not_intro b3) hf
    refine lv_iconst (v := 4) C.1 C.2.1 qm_Pg_locate_55 (by decide) ?_
    refine lv_iconst (v := 1) C.1 C.2.1 qm_Pg_locate_56 (by decide) ?_
    refine lv_iload C.1 C.2.1 qm_Pg_locate_57 (lv_at hl 2 rfl) ?_
    refine lv_iadd C.1 C.2.1 qm_Pg_locate_59 ?_
    obtain ⟨q6, c6, hf⟩ := bnd_s hf
    refine q_callSi (wf := (cW h K)) (n := 2) (As := [.int 4, .int (1 + y0)]) C G hl.1 (kPg_refusal (l := l) c6) qx_Pg_33 qm_Pg_refusal_d ⟨by decide, by decide⟩ ⟨Nat.le_refl _, Nat.le_refl _⟩ rfl rfl (Nat.le_of_ble_eq_true rfl) qm_Pg_locate_60 (fun H locs G => ?_)
    exact q_iret (wf := (cW h K)) C G hf qm_Pg_locate_63
set_option maxHeartbeats 4000000 in
set_option maxRecDepth 100000 in
theorem wPg_locate {l : Launch} {D : va_G} {h : Nat → Nat} {K : Nat → ClassId} {res : Int32 × qS} {p : Program} {e : Env} {s : State} {m : MethodId} {args : Array Value} {below : List Frame} {meth : Method} {c : Code} {A : Nat → Prop} {ad : Nat → Nat} (C : qC p s m args meth c qm_Pg_locate_c 10 (some .int) qR_Pg ad) (S : qS) (a1 : Int32) (a2 : Int32) (a3 : Int32) (hf : fPg_locate S a1 a2 a3 = some res) : ∀ (H : Heap) (locs : List Loc) (ls : Array Slot), qG D qCl (cT K) A s (cW h K S) H locs → lv_has ls 10 [(0, .ref (h 4)), (1, .int a1), (2, .int a2), (3, .int a3)] → W p l e ({ frames := 1, cells := 0, slots := 0, locals := 24 }) s m args below meth c H locs 0 0 (MQ below (qQi D qCl (cT K) (cW h K) A res) args s 0 0 A) (F0 m 0 ls []) := by
  intro H locs ls G hl
  unfold fPg_locate at hf
  refine lv_aload_n C.1 C.2.1 qm_Pg_locate_0 rfl (lv_at hl 0 rfl) ?_
  refine lv_iconst (v := (-1)) C.1 C.2.1 qm_Pg_locate_1 (by decide) ?_
  refine q_put (wf := (cW h K)) (S' := (pI S 4 (-1))) C G qi_Pg qY_Pg qy_Pg qn_Pg 4 rfl rfl 2 (by decide) qz_54 rfl rfl (Nat.le_of_ble_eq_true rfl) rfl qm_Pg_locate_2 (fun H locs G => ?_)
  refine lv_aload_n C.1 C.2.1 qm_Pg_locate_5 rfl (lv_at hl 0 rfl) ?_
  refine q_get (wf := (cW h K)) (v := .ref (h 3)) C G qi_Pg 4 rfl rfl 1 (by decide) qz_53 rfl qm_Pg_locate_6 ?_
  refine lv_bipush (v := 56) C.1 C.2.1 qm_Pg_locate_9 (by decide) ?_
  refine q_iald (wf := (cW h K)) C G 3 1 rfl rfl (by decide) qm_Pg_locate_11 ?_
  refine lv_if_ne (tgt := 21) C.1 C.2.1 qm_Pg_locate_12 (by decide) (fun b1 => ?_) (fun b1 => ?_)
  · have hf := if_t b1 hf
    refine lv_iload_n C.1 C.2.1 qm_Pg_locate_21 rfl (lv_at hl 2 rfl) ?_
    refine lv_if_eq (tgt := 29) C.1 C.2.1 qm_Pg_locate_22 (by decide) (fun b2 => ?_) (fun b2 => ?_)
    · have hf := if_t b2 hf
      refine lv_iconst (v := 0) C.1 C.2.1 qm_Pg_locate_29 (by decide) ?_
      exact wPg_locate_30 C (pI S 4 (-1)) a1 a2 a3 0 hf _ _ _ G (lv_sub hl [0, 1, 2, 3] rfl)
    · have hf := if_f b2 hf
      refine lv_iconst (v := 4) C.1 C.2.1 qm_Pg_locate_25 (by decide) ?_
      refine lv_goto (tgt := 30) C.1 C.2.1 qm_Pg_locate_26 (by decide) ?_
      exact wPg_locate_30 C (pI S 4 (-1)) a1 a2 a3 4 hf _ _ _ G (lv_sub hl [0, 1, 2, 3] rfl)
  · have hf := if_f (not_not_intro b1) hf
    refine lv_iload_n C.1 C.2.1 qm_Pg_locate_15 rfl (lv_at hl 1 rfl) ?_
    refine lv_sipush (v := 2047) C.1 C.2.1 qm_Pg_locate_16 (by decide) ?_
    refine lv_iand C.1 C.2.1 qm_Pg_locate_19 ?_
    exact q_iret (wf := (cW h K)) C G hf qm_Pg_locate_20
theorem kPg_locate {l : Launch} {ad : Nat → Nat} {D : va_G} {h : Nat → Nat} {K : Nat → ClassId} {res : Int32 × qS} {S : qS} {a1 : Int32} {a2 : Int32} {a3 : Int32} (hf : fPg_locate S a1 a2 a3 = some res) : qMi l qm_Pg_locate qm_Pg_locate_c 10 .int 1 24 D qCl (cT K) ad (cW h K) [.ref (h 4), .int a1, .int a2, .int a3] S res := qMi_of (by decide) (Nat.le_of_ble_eq_true rfl) (fun _ _ _ _ _ _ _ _ _ _ C G hl => wPg_locate C S a1 a2 a3 hf _ _ _ G hl)
set_option maxHeartbeats 4000000 in
set_option maxRecDepth 100000 in
theorem wPg_faultOf {l : Launch} {D : va_G} {h : Nat → Nat} {K : Nat → ClassId} {res : Int32 × qS} {p : Program} {e : Env} {s : State} {m : MethodId} {args : Array Value} {below : List Frame} {meth : Method} {c : Code} {A : Nat → Prop} {ad : Nat → Nat} (C : qC p s m args meth c qm_Pg_faultOf_c 1 (some .int) qR_Pg ad) (S : qS) (a0 : Int32) (hf : fPg_faultOf S a0 = some res) : ∀ (H : Heap) (locs : List Loc) (ls : Array Slot), qG D qCl (cT K) A s (cW h K S) H locs → lv_has ls 1 [(0, .int a0)] → W p l e ({ frames := 0, cells := 0, slots := 0, locals := 0 }) s m args below meth c H locs 0 0 (MQ below (qQi D qCl (cT K) (cW h K) A res) args s 0 0 A) (F0 m 0 ls []) := by
  intro H locs ls G hl
  unfold fPg_faultOf at hf
  refine lv_bipush (v := (-10)) C.1 C.2.1 qm_Pg_faultOf_0 (by decide) ?_
  refine lv_iload_n C.1 C.2.1 qm_Pg_faultOf_2 rfl (lv_at hl 0 rfl) ?_
  refine lv_isub C.1 C.2.1 qm_Pg_faultOf_3 ?_
  refine lv_bipush (v := 10) C.1 C.2.1 qm_Pg_faultOf_4 (by decide) ?_
  refine lv_idiv C.1 C.2.1 qm_Pg_faultOf_6 (by decide) ?_
  exact q_iret (wf := (cW h K)) C G hf qm_Pg_faultOf_7
theorem kPg_faultOf {l : Launch} {ad : Nat → Nat} {D : va_G} {h : Nat → Nat} {K : Nat → ClassId} {res : Int32 × qS} {S : qS} {a0 : Int32} (hf : fPg_faultOf S a0 = some res) : qMi l qm_Pg_faultOf qm_Pg_faultOf_c 1 .int 0 0 D qCl (cT K) ad (cW h K) [.int a0] S res := qMi_of (by decide) (Nat.le_of_ble_eq_true rfl) (fun _ _ _ _ _ _ _ _ _ _ C G hl => wPg_faultOf C S a0 hf _ _ _ G hl)
set_option maxHeartbeats 4000000 in
set_option maxRecDepth 100000 in
theorem wPg_flagOf {l : Launch} {D : va_G} {h : Nat → Nat} {K : Nat → ClassId} {res : Int32 × qS} {p : Program} {e : Env} {s : State} {m : MethodId} {args : Array Value} {below : List Frame} {meth : Method} {c : Code} {A : Nat → Prop} {ad : Nat → Nat} (C : qC p s m args meth c qm_Pg_flagOf_c 1 (some .int) qR_Pg ad) (S : qS) (a0 : Int32) (hf : fPg_flagOf S a0 = some res) : ∀ (H : Heap) (locs : List Loc) (ls : Array Slot), qG D qCl (cT K) A s (cW h K S) H locs → lv_has ls 1 [(0, .int a0)] → W p l e ({ frames := 0, cells := 0, slots := 0, locals := 0 }) s m args below meth c H locs 0 0 (MQ below (qQi D qCl (cT K) (cW h K) A res) args s 0 0 A) (F0 m 0 ls []) := by
  intro H locs ls G hl
  unfold fPg_flagOf at hf
  refine lv_bipush (v := (-10)) C.1 C.2.1 qm_Pg_flagOf_0 (by decide) ?_
  refine lv_iload_n C.1 C.2.1 qm_Pg_flagOf_2 rfl (lv_at hl 0 rfl) ?_
  refine lv_isub C.1 C.2.1 qm_Pg_flagOf_3 ?_
  refine lv_bipush (v := 10) C.1 C.2.1 qm_Pg_flagOf_4 (by decide) ?_
  refine lv_irem C.1 C.2.1 qm_Pg_flagOf_6 (by decide) ?_
  exact q_iret (wf := (cW h K)) C G hf qm_Pg_flagOf_7
theorem kPg_flagOf {l : Launch} {ad : Nat → Nat} {D : va_G} {h : Nat → Nat} {K : Nat → ClassId} {res : Int32 × qS} {S : qS} {a0 : Int32} (hf : fPg_flagOf S a0 = some res) : qMi l qm_Pg_flagOf qm_Pg_flagOf_c 1 .int 0 0 D qCl (cT K) ad (cW h K) [.int a0] S res := qMi_of (by decide) (Nat.le_of_ble_eq_true rfl) (fun _ _ _ _ _ _ _ _ _ _ C G hl => wPg_flagOf C S a0 hf _ _ _ G hl)
set_option maxHeartbeats 4000000 in
set_option maxRecDepth 100000 in
theorem wPg_markModified {l : Launch} {D : va_G} {h : Nat → Nat} {K : Nat → ClassId} {res : qS} {p : Program} {e : Env} {s : State} {m : MethodId} {args : Array Value} {below : List Frame} {meth : Method} {c : Code} {A : Nat → Prop} {ad : Nat → Nat} (C : qC p s m args meth c qm_Pg_markModified_c 2 none qR_Pg ad) (S : qS) (a1 : Int32) (hf : fPg_markModified S a1 = some res) : ∀ (H : Heap) (locs : List Loc) (ls : Array Slot), qG D qCl (cT K) A s (cW h K S) H locs → lv_has ls 2 [(0, .ref (h 4)), (1, .int a1)] → W p l e ({ frames := 1, cells := 0, slots := 0, locals := 22 }) s m args below meth c H locs 0 0 (MQ below (qQv D qCl (cT K) (cW h K) A res) args s 0 0 A) (F0 m 0 ls []) := by
  intro H locs ls G hl
  unfold fPg_markModified at hf
  refine lv_aload_n C.1 C.2.1 qm_Pg_markModified_0 rfl (lv_at hl 0 rfl) ?_
  refine q_get (wf := (cW h K)) (v := .ref (h 1)) C G qi_Pg 4 rfl rfl 0 (by decide) qz_66 rfl qm_Pg_markModified_1 ?_
  refine lv_iload_n C.1 C.2.1 qm_Pg_markModified_4 rfl (lv_at hl 1 rfl) ?_
  refine lv_iconst (v := 3) C.1 C.2.1 qm_Pg_markModified_5 (by decide) ?_
  refine lv_iadd C.1 C.2.1 qm_Pg_markModified_6 ?_
  refine lv_aload_n C.1 C.2.1 qm_Pg_markModified_7 rfl (lv_at hl 0 rfl) ?_
  refine q_get (wf := (cW h K)) (v := .ref (h 1)) C G qi_Pg 4 rfl rfl 0 (by decide) qz_66 rfl qm_Pg_markModified_8 ?_
  refine lv_iload_n C.1 C.2.1 qm_Pg_markModified_11 rfl (lv_at hl 1 rfl) ?_
  refine lv_iconst (v := 3) C.1 C.2.1 qm_Pg_markModified_12 (by decide) ?_
  refine lv_iadd C.1 C.2.1 qm_Pg_markModified_13 ?_
  obtain ⟨q1, c1, hf⟩ := bnd_s hf
  refine q_callVi (wf := (cW h K)) (n := 1) (As := [.int (a1 + 3)]) (q0 := 1) (ci := 5) C G hl.1 (kSt_byteAt (l := l) c1) qx_Pg_51 qm_St_byteAt_d ⟨by decide, by decide⟩ ⟨Nat.le_refl _, Nat.le_refl _⟩ rfl rfl rfl rfl rfl (Nat.le_of_ble_eq_true rfl) qm_Pg_markModified_14 (fun H locs G => ?_)
  refine lv_iconst (v := 4) C.1 C.2.1 qm_Pg_markModified_17 (by decide) ?_
  refine lv_ior C.1 C.2.1 qm_Pg_markModified_18 ?_
  obtain ⟨S2, c2, hf⟩ := bnd_s hf
  refine q_callVv (wf := (cW h K)) (n := 2) (As := [.int (a1 + 3), .int (q1.1 ||| 4)]) (q0 := 1) (ci := 5) C G hl.1 (kSt_putByte (l := l) c2) qx_Pg_54 qm_St_putByte_d ⟨by decide, by decide⟩ ⟨Nat.le_refl _, Nat.le_refl _⟩ rfl rfl rfl rfl rfl (Nat.le_of_ble_eq_true rfl) qm_Pg_markModified_19 (fun H locs G => ?_)
  exact q_vret (wf := (cW h K)) C G hf qm_Pg_markModified_22
theorem kPg_markModified {l : Launch} {ad : Nat → Nat} {D : va_G} {h : Nat → Nat} {K : Nat → ClassId} {res : qS} {S : qS} {a1 : Int32} (hf : fPg_markModified S a1 = some res) : qMv l qm_Pg_markModified qm_Pg_markModified_c 2 1 22 D qCl (cT K) ad (cW h K) [.ref (h 4), .int a1] S res := qMv_of (by decide) (Nat.le_of_ble_eq_true rfl) (fun _ _ _ _ _ _ _ _ _ _ C G hl => wPg_markModified C S a1 hf _ _ _ G hl)
end
