/-! Texts of the shapes: length() and charAt() of them. -/
theorem qw_V {own : String} {index : Nat} {C : String} {y : MethodName} {cw : Cond} (h1 : Cond.methodLink own index y ∈ qw) (h2 : Cond.instanceMethod y ∈ qw) (h3 : Cond.selects C y y ∈ qw) (h4 : Cond.initialized C ∈ qw) (h5 : cw ∈ qw) : GoodIn qw (wsV own index C y (cw :: qw)) := qw_gl (fun w h => by simp only [List.mem_cons, List.not_mem_nil, or_false] at h; rcases h with rfl | rfl | rfl | rfl <;> assumption) (qw_gc h5)
theorem qw_S {own : String} {index : Nat} {y : MethodName} {cw : Cond} (h1 : Cond.methodLink own index y ∈ qw) (h2 : Cond.static y ∈ qw) (h4 : Cond.initialized y.cls ∈ qw) (h5 : cw ∈ qw) : GoodIn qw (va_wsS own index y (cw :: qw)) := qw_gl (fun w h => by simp only [List.mem_cons, List.not_mem_nil, or_false] at h; rcases h with rfl | rfl | rfl <;> assumption) (qw_gc h5)
def qlen : List Nat := [1, 2, 2, 1, 2, 2, 2, 1, 2, 1, 2, 3, 3, 2, 2, 1, 1, 2, 2, 3, 2, 3, 1, 0]
def qbyt : List (List Int32) := [[82], [82, 82], [82, 87], [87], [114, 119], [114, 87], [82, 119], [114], [114, 114], [77], [82, 77], [82, 82, 87], [114, 82, 87], [65, 87], [97, 87], [65], [97], [82, 100], [77, 100], [82, 77, 100], [82, 97], [114, 82, 97], [100], []]
def qZ (ad av : Nat → Nat) (A : Nat → Prop) (U : State) (H : Heap) : Prop := (∀ j, j < 24 → vk_S 1 [qlen.getD j 0] [qbyt.getD j []] (fun _ => ad j) (fun _ => av j) A U H) ∧ va_Z "java/lang/String" "COMPACT_STRINGS" "Z" (.int 1) A U H ∧ va_Zq "jdk/internal/util/Preconditions" "SIOOBE_FORMATTER" "Ljava/util/function/BiFunction;" A U H
theorem qZ_moved {ad av : Nat → Nat} {A : Nat → Prop} {u U : State} {H : Heap} (hvm : u.vm.Alike U.vm) (h : qZ ad av A u H) : qZ ad av A U H := ⟨fun j hj => (h.1 j hj).moved hvm, h.2.1.moved hvm, h.2.2.moved hvm⟩
theorem qZ_kept {ad av : Nat → Nat} {A : Nat → Prop} {U : State} {H H1 : Heap} (h : qZ ad av A U H) (hq : ∀ a : Nat, a < H.size → ¬ A a → H1[a]? = H[a]?) : qZ ad av A U H1 := ⟨fun j hj => (h.1 j hj).kept hq, h.2.1.kept hq, h.2.2.kept hq⟩
theorem qZ_narrow {ad av : Nat → Nat} {A B : Nat → Prop} {U : State} {H : Heap} (h : qZ ad av A U H) (hAB : ∀ q, B q → A q) : qZ ad av B U H := ⟨fun j hj => (h.1 j hj).narrow hAB, h.2.1.narrow hAB, h.2.2.narrow hAB⟩
/-- the char at a place of a text -/
def schr (j : Nat) (i : Int32) : Int32 := ((((qbyt.getD j []).getD i.toNatClampNeg 0) &&& 255).toUInt32 % 65536).toInt32
def slen (j : Nat) : Int32 := nI (qlen.getD j 0)
def inbs (j : Nat) (i : Int32) : Bool := decide (j < 24) && inb i (qlen.getD j 0)
def ys_len : MethodName := ⟨"java/lang/String", "length", "()I"⟩
abbrev cs_len : ByteArray := prog_17_method_54_code
theorem qq_0 : Cond.code ys_len cs_len 1 (some .int) ∈ qw := qw_in 561 (by decide +kernel) (by decide +kernel)
theorem qq_1 : Cond.instanceMethod ys_len ∈ qw := qw_in 559 (by decide +kernel) (by decide +kernel)
theorem qq_2 : Cond.selects "java/lang/String" ys_len ys_len ∈ qw := qw_in 560 (by decide +kernel) (by decide +kernel)
theorem ys_len_d : ys_len.cls ≠ "java/lang/invoke/MethodHandle" ∧ ys_len.cls ≠ "java/lang/invoke/VarHandle" ∧ (parseMethodDescriptor ys_len.desc).map (fun d => d.parameters.length) = some 0 := by decide +kernel
def ys_cod : MethodName := ⟨"java/lang/String", "coder", "()B"⟩
abbrev cs_cod : ByteArray := prog_17_method_152_code
theorem qq_3 : Cond.code ys_cod cs_cod 1 (some .byte) ∈ qw := qw_in 565 (by decide +kernel) (by decide +kernel)
theorem qq_4 : Cond.instanceMethod ys_cod ∈ qw := qw_in 563 (by decide +kernel) (by decide +kernel)
theorem qq_5 : Cond.selects "java/lang/String" ys_cod ys_cod ∈ qw := qw_in 564 (by decide +kernel) (by decide +kernel)
theorem ys_cod_d : ys_cod.cls ≠ "java/lang/invoke/MethodHandle" ∧ ys_cod.cls ≠ "java/lang/invoke/VarHandle" ∧ (parseMethodDescriptor ys_cod.desc).map (fun d => d.parameters.length) = some 0 := by decide +kernel
def ys_cha : MethodName := ⟨"java/lang/String", "charAt", "(I)C"⟩
abbrev cs_cha : ByteArray := prog_17_method_56_code
theorem qq_6 : Cond.code ys_cha cs_cha 2 (some .char) ∈ qw := qw_in 571 (by decide +kernel) (by decide +kernel)
theorem qq_7 : Cond.instanceMethod ys_cha ∈ qw := qw_in 569 (by decide +kernel) (by decide +kernel)
theorem qq_8 : Cond.selects "java/lang/String" ys_cha ys_cha ∈ qw := qw_in 570 (by decide +kernel) (by decide +kernel)
theorem ys_cha_d : ys_cha.cls ≠ "java/lang/invoke/MethodHandle" ∧ ys_cha.cls ≠ "java/lang/invoke/VarHandle" ∧ (parseMethodDescriptor ys_cha.desc).map (fun d => d.parameters.length) = some 1 := by decide +kernel
def ys_lat : MethodName := ⟨"java/lang/String", "isLatin1", "()Z"⟩
abbrev cs_lat : ByteArray := prog_17_method_154_code
theorem qq_9 : Cond.code ys_lat cs_lat 1 (some .boolean) ∈ qw := qw_in 575 (by decide +kernel) (by decide +kernel)
theorem qq_10 : Cond.instanceMethod ys_lat ∈ qw := qw_in 573 (by decide +kernel) (by decide +kernel)
theorem qq_11 : Cond.selects "java/lang/String" ys_lat ys_lat ∈ qw := qw_in 574 (by decide +kernel) (by decide +kernel)
theorem ys_lat_d : ys_lat.cls ≠ "java/lang/invoke/MethodHandle" ∧ ys_lat.cls ≠ "java/lang/invoke/VarHandle" ∧ (parseMethodDescriptor ys_lat.desc).map (fun d => d.parameters.length) = some 0 := by decide +kernel
def ys_lch : MethodName := ⟨"java/lang/StringLatin1", "charAt", "([BI)C"⟩
abbrev cs_lch : ByteArray := prog_18_method_2_code
theorem qq_12 : Cond.code ys_lch cs_lch 2 (some .char) ∈ qw := qw_in 578 (by decide +kernel) (by decide +kernel)
theorem qq_13 : Cond.static ys_lch ∈ qw := qw_in 577 (by decide +kernel) (by decide +kernel)
theorem ys_lch_d : ys_lch.cls ≠ "java/lang/invoke/MethodHandle" ∧ ys_lch.cls ≠ "java/lang/invoke/VarHandle" ∧ (parseMethodDescriptor ys_lch.desc).map (fun d => d.parameters.length) = some 2 := by decide +kernel
def ys_chk : MethodName := ⟨"java/lang/String", "checkIndex", "(II)V"⟩
abbrev cs_chk : ByteArray := prog_17_method_155_code
theorem qq_14 : Cond.code ys_chk cs_chk 2 none ∈ qw := qw_in 581 (by decide +kernel) (by decide +kernel)
theorem qq_15 : Cond.static ys_chk ∈ qw := qw_in 580 (by decide +kernel) (by decide +kernel)
theorem ys_chk_d : ys_chk.cls ≠ "java/lang/invoke/MethodHandle" ∧ ys_chk.cls ≠ "java/lang/invoke/VarHandle" ∧ (parseMethodDescriptor ys_chk.desc).map (fun d => d.parameters.length) = some 2 := by decide +kernel
def ys_pre : MethodName := ⟨"jdk/internal/util/Preconditions", "checkIndex", "(IILjava/util/function/BiFunction;)I"⟩
abbrev cs_pre : ByteArray := prog_22_method_11_code
theorem qq_16 : Cond.code ys_pre cs_pre 3 (some .int) ∈ qw := qw_in 586 (by decide +kernel) (by decide +kernel)
theorem qq_17 : Cond.static ys_pre ∈ qw := qw_in 585 (by decide +kernel) (by decide +kernel)
theorem ys_pre_d : ys_pre.cls ≠ "java/lang/invoke/MethodHandle" ∧ ys_pre.cls ≠ "java/lang/invoke/VarHandle" ∧ (parseMethodDescriptor ys_pre.desc).map (fun d => d.parameters.length) = some 3 := by decide +kernel
theorem qq_18 : Cond.initialized "java/lang/String" ∈ qw := qw_in 78 (by decide +kernel) (by decide +kernel)
theorem qq_19 : Cond.initialized "java/lang/StringLatin1" ∈ qw := qw_in 79 (by decide +kernel) (by decide +kernel)
theorem qq_20 : Cond.initialized "jdk/internal/util/Preconditions" ∈ qw := qw_in 80 (by decide +kernel) (by decide +kernel)
theorem qq_21 : Cond.methodLink "java/lang/String" 335 ys_cod ∈ qw := qw_in 562 (by decide +kernel) (by decide +kernel)
theorem qq_22 : Cond.methodLink "java/lang/String" 492 ys_lat ∈ qw := qw_in 572 (by decide +kernel) (by decide +kernel)
theorem qq_23 : Cond.methodLink "java/lang/String" 495 ys_lch ∈ qw := qw_in 576 (by decide +kernel) (by decide +kernel)
theorem qq_24 : Cond.methodLink "java/lang/StringLatin1" 9 ys_chk ∈ qw := qw_in 579 (by decide +kernel) (by decide +kernel)
theorem qq_25 : Cond.methodLink "java/lang/String" 1059 ys_pre ∈ qw := qw_in 584 (by decide +kernel) (by decide +kernel)
theorem qq_26 : Cond.methodLink "QuadMode" 151 ys_len ∈ qw := qw_in 558 (by decide +kernel) (by decide +kernel)
theorem qq_27 : Cond.methodLink "QuadMode" 160 ys_cha ∈ qw := qw_in 568 (by decide +kernel) (by decide +kernel)
theorem qq_28 : Cond.fieldLink "java/lang/String" 9 "java/lang/String" "value" "[B" ∈ qw := qw_in 1102 (by decide +kernel) (by decide +kernel)
theorem qq_29 : Cond.fieldLink "java/lang/String" 15 "java/lang/String" "coder" "B" ∈ qw := qw_in 1103 (by decide +kernel) (by decide +kernel)
theorem qq_30 : Cond.fieldLink "java/lang/String" 38 "java/lang/String" "COMPACT_STRINGS" "Z" ∈ qw := qw_in 566 (by decide +kernel) (by decide +kernel)
theorem qq_31 : Cond.fieldLink "java/lang/String" 1053 "jdk/internal/util/Preconditions" "SIOOBE_FORMATTER" "Ljava/util/function/BiFunction;" ∈ qw := qw_in 582 (by decide +kernel) (by decide +kernel)
theorem ds_cod_0 : decode cs_cod 0 = .ok (.getstatic 38, 3) := by decide +kernel
theorem ds_cod_3 : decode cs_cod 3 = .ok (.ifCond .eq 10, 3) := by decide +kernel
theorem ds_cod_6 : decode cs_cod 6 = .ok (.aload_n 0, 1) := by decide +kernel
theorem ds_cod_7 : decode cs_cod 7 = .ok (.getfield 15, 3) := by decide +kernel
theorem ds_cod_10 : decode cs_cod 10 = .ok (.goto 4, 3) := by decide +kernel
theorem ds_cod_13 : decode cs_cod 13 = .ok (.iconst 1, 1) := by decide +kernel
theorem ds_cod_14 : decode cs_cod 14 = .ok (.ireturn, 1) := by decide +kernel
theorem ds_len_0 : decode cs_len 0 = .ok (.aload_n 0, 1) := by decide +kernel
theorem ds_len_1 : decode cs_len 1 = .ok (.getfield 9, 3) := by decide +kernel
theorem ds_len_4 : decode cs_len 4 = .ok (.arraylength, 1) := by decide +kernel
theorem ds_len_5 : decode cs_len 5 = .ok (.aload_n 0, 1) := by decide +kernel
theorem ds_len_6 : decode cs_len 6 = .ok (.invokevirtual 335, 3) := by decide +kernel
theorem ds_len_9 : decode cs_len 9 = .ok (.ishr, 1) := by decide +kernel
theorem ds_len_10 : decode cs_len 10 = .ok (.ireturn, 1) := by decide +kernel
theorem ds_lat_0 : decode cs_lat 0 = .ok (.getstatic 38, 3) := by decide +kernel
theorem ds_lat_3 : decode cs_lat 3 = .ok (.ifCond .eq 14, 3) := by decide +kernel
theorem ds_lat_6 : decode cs_lat 6 = .ok (.aload_n 0, 1) := by decide +kernel
theorem ds_lat_7 : decode cs_lat 7 = .ok (.getfield 15, 3) := by decide +kernel
theorem ds_lat_10 : decode cs_lat 10 = .ok (.ifCond .ne 7, 3) := by decide +kernel
theorem ds_lat_13 : decode cs_lat 13 = .ok (.iconst 1, 1) := by decide +kernel
theorem ds_lat_14 : decode cs_lat 14 = .ok (.goto 4, 3) := by decide +kernel
theorem ds_lat_17 : decode cs_lat 17 = .ok (.iconst 0, 1) := by decide +kernel
theorem ds_lat_18 : decode cs_lat 18 = .ok (.ireturn, 1) := by decide +kernel
theorem ds_pre_0 : decode cs_pre 0 = .ok (.iload_n 0, 1) := by decide +kernel
theorem ds_pre_1 : decode cs_pre 1 = .ok (.ifCond .lt 8, 3) := by decide +kernel
theorem ds_pre_4 : decode cs_pre 4 = .ok (.iload_n 0, 1) := by decide +kernel
theorem ds_pre_5 : decode cs_pre 5 = .ok (.iload_n 1, 1) := by decide +kernel
theorem ds_pre_6 : decode cs_pre 6 = .ok (.if_icmp .lt 10, 3) := by decide +kernel
theorem ds_pre_16 : decode cs_pre 16 = .ok (.iload_n 0, 1) := by decide +kernel
theorem ds_pre_17 : decode cs_pre 17 = .ok (.ireturn, 1) := by decide +kernel
theorem ds_chk_0 : decode cs_chk 0 = .ok (.iload_n 0, 1) := by decide +kernel
theorem ds_chk_1 : decode cs_chk 1 = .ok (.iload_n 1, 1) := by decide +kernel
theorem ds_chk_2 : decode cs_chk 2 = .ok (.getstatic 1053, 3) := by decide +kernel
theorem ds_chk_5 : decode cs_chk 5 = .ok (.invokestatic 1059, 3) := by decide +kernel
theorem ds_chk_8 : decode cs_chk 8 = .ok (.pop, 1) := by decide +kernel
theorem ds_chk_9 : decode cs_chk 9 = .ok (.return_, 1) := by decide +kernel
theorem ds_lch_0 : decode cs_lch 0 = .ok (.iload_n 1, 1) := by decide +kernel
theorem ds_lch_1 : decode cs_lch 1 = .ok (.aload_n 0, 1) := by decide +kernel
theorem ds_lch_2 : decode cs_lch 2 = .ok (.arraylength, 1) := by decide +kernel
theorem ds_lch_3 : decode cs_lch 3 = .ok (.invokestatic 9, 3) := by decide +kernel
theorem ds_lch_6 : decode cs_lch 6 = .ok (.aload_n 0, 1) := by decide +kernel
theorem ds_lch_7 : decode cs_lch 7 = .ok (.iload_n 1, 1) := by decide +kernel
theorem ds_lch_8 : decode cs_lch 8 = .ok (.baload, 1) := by decide +kernel
theorem ds_lch_9 : decode cs_lch 9 = .ok (.sipush 255, 3) := by decide +kernel
theorem ds_lch_12 : decode cs_lch 12 = .ok (.iand, 1) := by decide +kernel
theorem ds_lch_13 : decode cs_lch 13 = .ok (.i2c, 1) := by decide +kernel
theorem ds_lch_14 : decode cs_lch 14 = .ok (.ireturn, 1) := by decide +kernel
theorem ds_cha_0 : decode cs_cha 0 = .ok (.aload_n 0, 1) := by decide +kernel
theorem ds_cha_1 : decode cs_cha 1 = .ok (.invokevirtual 492, 3) := by decide +kernel
theorem ds_cha_4 : decode cs_cha 4 = .ok (.ifCond .eq 12, 3) := by decide +kernel
theorem ds_cha_7 : decode cs_cha 7 = .ok (.aload_n 0, 1) := by decide +kernel
theorem ds_cha_8 : decode cs_cha 8 = .ok (.getfield 9, 3) := by decide +kernel
theorem ds_cha_11 : decode cs_cha 11 = .ok (.iload_n 1, 1) := by decide +kernel
theorem ds_cha_12 : decode cs_cha 12 = .ok (.invokestatic 495, 3) := by decide +kernel
theorem ds_cha_15 : decode cs_cha 15 = .ok (.ireturn, 1) := by decide +kernel
set_option maxHeartbeats 4000000 in
set_option maxRecDepth 100000 in
theorem ks_cod (l : Launch) (ad av : Nat → Nat) (j : Nat) (hj : j < 24) : Met l ys_cod (.code ys_cod cs_cod 1 (some .byte) :: qw) ({ frames := 0, cells := 0, slots := 0, locals := 0 }) (va_Pc [.ref (ad j)] (fun U => qZ ad av (fun _ => False) U U.heap)) (vp_Si (fun r => r = 0)) 0 0 (fun _ => False) := by
  refine Met.ofW (cc := cs_cod) (maxL := 1) (ret := (some .byte)) (by decide) rfl ?_
  intro p e s m args below meth c s₁ B hml hv
  obtain ⟨rfl, hZ⟩ := hv
  have hx := B.exec
  have hb := B.bytes
  have hr := B.returns
  have hts : ∀ w ∈ qw, w.before _ s = true := fun w h => atoms_spec (ws := .code ys_cod cs_cod 1 (some .byte) :: qw) B.pre w (List.mem_cons_of_mem _ h)
  have hown : s.vm.findClass ys_cod.cls = some m.cls := findClass_of_methodNamed B.named
  have hlocks := B.notSynchronized
  have hS : va_S (fun _ => False) s.heap s.heap [] := va_S.rf
  have hl := lv_entry [.ref (ad j)] (n := 1) (Nat.le_of_ble_eq_true rfl)
  rw [lg_entry_eq]
  generalize (lg_sl [.ref (ad j)] ++ List.replicate (1 - (lg_sl [.ref (ad j)]).length) Slot.unset).toArray = ls at hl ⊢
  have hl : lv_has ls 1 [(0, .ref (ad j))] := hl
  refine va_gets hx hb hZ.2.1 hS hown (hts _ qq_30) (fun _ h => h) ds_cod_0 ?_
  refine lv_if_eq (tgt := 13) hx hb ds_cod_3 (by decide) (fun q => absurd q (by decide)) (fun _ => ?_)
  refine lv_aload_n hx hb ds_cod_6 rfl (lv_at hl 0 rfl) ?_
  refine vk_getf hx hb ((hZ.1 j hj).1 0 Nat.one_pos).2.1 hS hown (hts _ qq_29) (fun _ h => h) ds_cod_7 ?_
  refine lv_goto (tgt := 14) hx hb ds_cod_10 (by decide) ?_
  exact W.zret (v := 0) hx hb hr rfl (fun t ht hW => ⟨0, rfl, rfl, ht⟩) (fun q h => by cases h) ds_cod_14
set_option maxHeartbeats 4000000 in
set_option maxRecDepth 100000 in
theorem ks_lat (l : Launch) (ad av : Nat → Nat) (j : Nat) (hj : j < 24) : Met l ys_lat (.code ys_lat cs_lat 1 (some .boolean) :: qw) ({ frames := 0, cells := 0, slots := 0, locals := 0 }) (va_Pc [.ref (ad j)] (fun U => qZ ad av (fun _ => False) U U.heap)) (vp_Si (fun r => r = 1)) 0 0 (fun _ => False) := by
  refine Met.ofW (cc := cs_lat) (maxL := 1) (ret := (some .boolean)) (by decide) rfl ?_
  intro p e s m args below meth c s₁ B hml hv
  obtain ⟨rfl, hZ⟩ := hv
  have hx := B.exec
  have hb := B.bytes
  have hr := B.returns
  have hts : ∀ w ∈ qw, w.before _ s = true := fun w h => atoms_spec (ws := .code ys_lat cs_lat 1 (some .boolean) :: qw) B.pre w (List.mem_cons_of_mem _ h)
  have hown : s.vm.findClass ys_lat.cls = some m.cls := findClass_of_methodNamed B.named
  have hlocks := B.notSynchronized
  have hS : va_S (fun _ => False) s.heap s.heap [] := va_S.rf
  have hl := lv_entry [.ref (ad j)] (n := 1) (Nat.le_of_ble_eq_true rfl)
  rw [lg_entry_eq]
  generalize (lg_sl [.ref (ad j)] ++ List.replicate (1 - (lg_sl [.ref (ad j)]).length) Slot.unset).toArray = ls at hl ⊢
  have hl : lv_has ls 1 [(0, .ref (ad j))] := hl
  refine va_gets hx hb hZ.2.1 hS hown (hts _ qq_30) (fun _ h => h) ds_lat_0 ?_
  refine lv_if_eq (tgt := 17) hx hb ds_lat_3 (by decide) (fun q => absurd q (by decide)) (fun _ => ?_)
  refine lv_aload_n hx hb ds_lat_6 rfl (lv_at hl 0 rfl) ?_
  refine vk_getf hx hb ((hZ.1 j hj).1 0 Nat.one_pos).2.1 hS hown (hts _ qq_29) (fun _ h => h) ds_lat_7 ?_
  refine lv_if_ne (tgt := 17) hx hb ds_lat_10 (by decide) (fun q => absurd rfl q) (fun _ => ?_)
  refine lv_iconst (v := 1) hx hb ds_lat_13 (by decide) ?_
  refine lv_goto (tgt := 18) hx hb ds_lat_14 (by decide) ?_
  exact W.zret (v := 1) hx hb hr rfl (fun t ht hW => ⟨1, rfl, rfl, ht⟩) (fun q h => by cases h) ds_lat_18
set_option maxHeartbeats 4000000 in
set_option maxRecDepth 100000 in
theorem ks_len (l : Launch) (ad av : Nat → Nat) (j : Nat) (hj : j < 24) : Met l ys_len (.code ys_len cs_len 1 (some .int) :: qw) ({ frames := 1, cells := 0, slots := 0, locals := 20 }) (va_Pc [.ref (ad j)] (fun U => qZ ad av (fun _ => False) U U.heap)) (vp_Si (fun r => r = slen j)) 0 0 (fun _ => False) := by
  refine Met.ofW (cc := cs_len) (maxL := 1) (ret := (some .int)) (by decide) rfl ?_
  intro p e s m args below meth c s₁ B hml hv
  obtain ⟨rfl, hZ⟩ := hv
  have hx := B.exec
  have hb := B.bytes
  have hr := B.returns
  have hts : ∀ w ∈ qw, w.before _ s = true := fun w h => atoms_spec (ws := .code ys_len cs_len 1 (some .int) :: qw) B.pre w (List.mem_cons_of_mem _ h)
  have hown : s.vm.findClass ys_len.cls = some m.cls := findClass_of_methodNamed B.named
  have hlocks := B.notSynchronized
  have hS : va_S (fun _ => False) s.heap s.heap [] := va_S.rf
  have hl := lv_entry [.ref (ad j)] (n := 1) (Nat.le_of_ble_eq_true rfl)
  rw [lg_entry_eq]
  generalize (lg_sl [.ref (ad j)] ++ List.replicate (1 - (lg_sl [.ref (ad j)]).length) Slot.unset).toArray = ls at hl ⊢
  have hl : lv_has ls 1 [(0, .ref (ad j))] := hl
  refine lv_aload_n hx hb ds_len_0 rfl (lv_at hl 0 rfl) ?_
  refine vk_getf hx hb ((hZ.1 j hj).1 0 Nat.one_pos).2.2.1 hS hown (hts _ qq_28) (fun _ h => h) ds_len_1 ?_
  refine va_tlen hx hb ((hZ.1 j hj).1 0 Nat.one_pos).2.2.2 hS rfl ds_len_4 ?_
  refine lv_aload_n hx hb ds_len_5 rfl (lv_at hl 0 rfl) ?_
  have hG : GoodIn qw (wsV "java/lang/String" 335 "java/lang/String" ys_cod (.code ys_cod cs_cod 1 (some .byte) :: qw)) := qw_V qq_21 qq_4 qq_5 qq_18 qq_3
  refine vp_callSi (W.runV (As := []) (rest := [.int (Int32.ofNat (qlen.getD j 0))]) ⟨hx, hb, hml, hown, hts⟩ (ks_cod l ad av j hj) (cwV 0 hts hG rfl rfl rfl ⟨rfl, ys_cod_d⟩ ⟨by decide, by decide⟩) ⟨fun a U g mk q => ⟨q.1, qZ_moved (u := U) (U := U.calling g mk a) (Vm.Alike.refl U.vm) q.2⟩, vk_recv (i := 0) (hZ.1 j hj) Nat.one_pos hS, fun U hU hW => ⟨rfl, by show qZ ad av _ U U.heap; rw [hU]; exact qZ_moved hW.alike hZ⟩⟩ rfl rfl hl.1 rfl (lv_room (Nat.le_of_ble_eq_true rfl)) ds_len_6 ⟨Nat.le_refl _, Nat.le_refl _⟩) (fun r hr0 => ?_)
  subst hr0
  refine lv_ishr hx hb ds_len_9 ?_
  have e0 : Int32.ofNat (qlen.getD j 0) >>> ((0 : Int32) &&& 31) = slen j := sb_shr0 _
  rw [e0]
  exact W.iret (v := slen j) hx hb hr (fun t ht hW => ⟨_, rfl, rfl, ht⟩) (fun q h => by cases h) ds_len_10
set_option maxHeartbeats 4000000 in
set_option maxRecDepth 100000 in
theorem ks_pre0 (l : Launch) (ad av : Nat → Nat) (i n : Int32) (h0 : ¬ i < 0) (h1 : i < n) : Met l ys_pre (.code ys_pre cs_pre 3 (some .int) :: qw) ({ frames := 0, cells := 0, slots := 0, locals := 0 }) (va_Pc [.int i, .int n, .null] (fun U => qZ ad av (fun _ => False) U U.heap)) (vp_Si (fun r => r = i)) 0 0 (fun _ => False) := by
  refine Met.ofW (cc := cs_pre) (maxL := 3) (ret := (some .int)) (by decide) rfl ?_
  intro p e s m args below meth c s₁ B hml hv
  obtain ⟨rfl, hZ⟩ := hv
  have hx := B.exec
  have hb := B.bytes
  have hr := B.returns
  have hts : ∀ w ∈ qw, w.before _ s = true := fun w h => atoms_spec (ws := .code ys_pre cs_pre 3 (some .int) :: qw) B.pre w (List.mem_cons_of_mem _ h)
  have hown : s.vm.findClass ys_pre.cls = some m.cls := findClass_of_methodNamed B.named
  have hlocks := B.notSynchronized
  have hS : va_S (fun _ => False) s.heap s.heap [] := va_S.rf
  have hl := lv_entry [.int i, .int n, .null] (n := 3) (Nat.le_of_ble_eq_true rfl)
  rw [lg_entry_eq]
  generalize (lg_sl [.int i, .int n, .null] ++ List.replicate (3 - (lg_sl [.int i, .int n, .null]).length) Slot.unset).toArray = ls at hl ⊢
  have hl : lv_has ls 3 [(0, .int i), (1, .int n), (2, .null)] := hl
  refine lv_iload_n hx hb ds_pre_0 rfl (lv_at hl 0 rfl) ?_
  refine lv_if_lt (tgt := 9) hx hb ds_pre_1 (by decide) (fun q => absurd q h0) (fun _ => ?_)
  refine lv_iload_n hx hb ds_pre_4 rfl (lv_at hl 0 rfl) ?_
  refine lv_iload_n hx hb ds_pre_5 rfl (lv_at hl 1 rfl) ?_
  refine lv_icmp_lt (tgt := 16) hx hb ds_pre_6 (by decide) (fun _ => ?_) (fun q => absurd h1 q)
  refine lv_iload_n hx hb ds_pre_16 rfl (lv_at hl 0 rfl) ?_
  exact W.iret (v := i) hx hb hr (fun t ht hW => ⟨_, rfl, rfl, ht⟩) (fun q h => by cases h) ds_pre_17
set_option maxHeartbeats 4000000 in
set_option maxRecDepth 100000 in
theorem ks_pre1 (l : Launch) (ad av : Nat → Nat) (i n : Int32) (a : Nat) (h0 : ¬ i < 0) (h1 : i < n) : Met l ys_pre (.code ys_pre cs_pre 3 (some .int) :: qw) ({ frames := 0, cells := 0, slots := 0, locals := 0 }) (va_Pc [.int i, .int n, .ref a] (fun U => qZ ad av (fun _ => False) U U.heap)) (vp_Si (fun r => r = i)) 0 0 (fun _ => False) := by
  refine Met.ofW (cc := cs_pre) (maxL := 3) (ret := (some .int)) (by decide) rfl ?_
  intro p e s m args below meth c s₁ B hml hv
  obtain ⟨rfl, hZ⟩ := hv
  have hx := B.exec
  have hb := B.bytes
  have hr := B.returns
  have hts : ∀ w ∈ qw, w.before _ s = true := fun w h => atoms_spec (ws := .code ys_pre cs_pre 3 (some .int) :: qw) B.pre w (List.mem_cons_of_mem _ h)
  have hown : s.vm.findClass ys_pre.cls = some m.cls := findClass_of_methodNamed B.named
  have hlocks := B.notSynchronized
  have hS : va_S (fun _ => False) s.heap s.heap [] := va_S.rf
  have hl := lv_entry [.int i, .int n, .ref a] (n := 3) (Nat.le_of_ble_eq_true rfl)
  rw [lg_entry_eq]
  generalize (lg_sl [.int i, .int n, .ref a] ++ List.replicate (3 - (lg_sl [.int i, .int n, .ref a]).length) Slot.unset).toArray = ls at hl ⊢
  have hl : lv_has ls 3 [(0, .int i), (1, .int n), (2, .ref a)] := hl
  refine lv_iload_n hx hb ds_pre_0 rfl (lv_at hl 0 rfl) ?_
  refine lv_if_lt (tgt := 9) hx hb ds_pre_1 (by decide) (fun q => absurd q h0) (fun _ => ?_)
  refine lv_iload_n hx hb ds_pre_4 rfl (lv_at hl 0 rfl) ?_
  refine lv_iload_n hx hb ds_pre_5 rfl (lv_at hl 1 rfl) ?_
  refine lv_icmp_lt (tgt := 16) hx hb ds_pre_6 (by decide) (fun _ => ?_) (fun q => absurd h1 q)
  refine lv_iload_n hx hb ds_pre_16 rfl (lv_at hl 0 rfl) ?_
  exact W.iret (v := i) hx hb hr (fun t ht hW => ⟨_, rfl, rfl, ht⟩) (fun q h => by cases h) ds_pre_17
set_option maxHeartbeats 4000000 in
set_option maxRecDepth 100000 in
theorem ks_chk (l : Launch) (ad av : Nat → Nat) (i n : Int32) (h0 : ¬ i < 0) (h1 : i < n) : Met l ys_chk (.code ys_chk cs_chk 2 none :: qw) ({ frames := 1, cells := 0, slots := 0, locals := 22 }) (va_Pc [.int i, .int n] (fun U => qZ ad av (fun _ => False) U U.heap)) (va_Sv (fun _ => True)) 0 0 (fun _ => False) := by
  refine Met.ofW (cc := cs_chk) (maxL := 2) (ret := none) (by decide) rfl ?_
  intro p e s m args below meth c s₁ B hml hv
  obtain ⟨rfl, hZ⟩ := hv
  have hx := B.exec
  have hb := B.bytes
  have hr := B.returns
  have hts : ∀ w ∈ qw, w.before _ s = true := fun w h => atoms_spec (ws := .code ys_chk cs_chk 2 none :: qw) B.pre w (List.mem_cons_of_mem _ h)
  have hown : s.vm.findClass ys_chk.cls = some m.cls := findClass_of_methodNamed B.named
  have hlocks := B.notSynchronized
  have hS : va_S (fun _ => False) s.heap s.heap [] := va_S.rf
  have hl := lv_entry [.int i, .int n] (n := 2) (Nat.le_of_ble_eq_true rfl)
  rw [lg_entry_eq]
  generalize (lg_sl [.int i, .int n] ++ List.replicate (2 - (lg_sl [.int i, .int n]).length) Slot.unset).toArray = ls at hl ⊢
  have hl : lv_has ls 2 [(0, .int i), (1, .int n)] := hl
  refine lv_iload_n hx hb ds_chk_0 rfl (lv_at hl 0 rfl) ?_
  refine lv_iload_n hx hb ds_chk_1 rfl (lv_at hl 1 rfl) ?_
  have hG : GoodIn qw (va_wsS "java/lang/String" 1059 ys_pre (.code ys_pre cs_pre 3 (some .int) :: qw)) := qw_S qq_25 qq_17 qq_20 qq_16
  have hbl : ∀ avx : List Value, FrameBlind (va_Pc avx (fun U => qZ ad av (fun _ => False) U U.heap)) := fun avx a U g mk q => ⟨q.1, qZ_moved (u := U) (U := U.calling g mk a) (Vm.Alike.refl U.vm) q.2⟩
  rcases hZ.2.2 with hq | ⟨t0, hq⟩
  · refine va_gets hx hb hq hS hown (hts _ qq_31) (fun _ h => h) ds_chk_2 ?_
    refine vp_callSi (W.runS (As := [.int i, .int n, .null]) (rest := []) ⟨hx, hb, hml, hown, hts⟩ (ks_pre0 l ad av i n h0 h1) (va_cwS 3 hts hG rfl rfl rfl ys_pre_d ⟨by decide, by decide⟩) ⟨hbl _, fun U hU hW => ⟨rfl, by show qZ ad av _ U U.heap; rw [hU]; exact qZ_moved hW.alike hZ⟩⟩ rfl rfl hl.1 rfl (lv_room (Nat.le_of_ble_eq_true rfl)) ds_chk_5 ⟨Nat.le_refl _, Nat.le_refl _⟩) (fun r hr0 => ?_)
    refine lv_pop hx hb ds_chk_8 rfl ?_
    exact W.vret hx hb hr (fun t ht hW => ⟨rfl, trivial, ht⟩) (fun q h => by cases h) ds_chk_9
  · refine va_gets hx hb hq hS hown (hts _ qq_31) (fun _ h => h) ds_chk_2 ?_
    refine vp_callSi (W.runS (As := [.int i, .int n, .ref t0]) (rest := []) ⟨hx, hb, hml, hown, hts⟩ (ks_pre1 l ad av i n t0 h0 h1) (va_cwS 3 hts hG rfl rfl rfl ys_pre_d ⟨by decide, by decide⟩) ⟨hbl _, fun U hU hW => ⟨rfl, by show qZ ad av _ U U.heap; rw [hU]; exact qZ_moved hW.alike hZ⟩⟩ rfl rfl hl.1 rfl (lv_room (Nat.le_of_ble_eq_true rfl)) ds_chk_5 ⟨Nat.le_refl _, Nat.le_refl _⟩) (fun r hr0 => ?_)
    refine lv_pop hx hb ds_chk_8 rfl ?_
    exact W.vret hx hb hr (fun t ht hW => ⟨rfl, trivial, ht⟩) (fun q h => by cases h) ds_chk_9
set_option maxHeartbeats 4000000 in
set_option maxRecDepth 100000 in
theorem ks_lch (l : Launch) (ad av : Nat → Nat) (j : Nat) (hj : j < 24) (i : Int32) (h0 : inb i (qlen.getD j 0) = true) (hn : qlen.getD j 0 < 2 ^ 31) : Met l ys_lch (.code ys_lch cs_lch 2 (some .char) :: qw) ({ frames := 2, cells := 0, slots := 0, locals := 43 }) (va_Pc [.ref (av j), .int i] (fun U => qZ ad av (fun _ => False) U U.heap)) (vp_Si (fun r => r = schr j i)) 0 0 (fun _ => False) := by
  refine Met.ofW (cc := cs_lch) (maxL := 2) (ret := (some .char)) (by decide) rfl ?_
  intro p e s m args below meth c s₁ B hml hv
  obtain ⟨rfl, hZ⟩ := hv
  have hx := B.exec
  have hb := B.bytes
  have hr := B.returns
  have hts : ∀ w ∈ qw, w.before _ s = true := fun w h => atoms_spec (ws := .code ys_lch cs_lch 2 (some .char) :: qw) B.pre w (List.mem_cons_of_mem _ h)
  have hown : s.vm.findClass ys_lch.cls = some m.cls := findClass_of_methodNamed B.named
  have hlocks := B.notSynchronized
  have hS : va_S (fun _ => False) s.heap s.heap [] := va_S.rf
  have hl := lv_entry [.ref (av j), .int i] (n := 2) (Nat.le_of_ble_eq_true rfl)
  rw [lg_entry_eq]
  generalize (lg_sl [.ref (av j), .int i] ++ List.replicate (2 - (lg_sl [.ref (av j), .int i]).length) Slot.unset).toArray = ls at hl ⊢
  have hl : lv_has ls 2 [(0, .ref (av j)), (1, .int i)] := hl
  obtain ⟨k, hk, rfl⟩ := vp_in_of (inb_in h0) hn
  refine lv_iload_n hx hb ds_lch_0 rfl (lv_at hl 1 rfl) ?_
  refine lv_aload_n hx hb ds_lch_1 rfl (lv_at hl 0 rfl) ?_
  refine va_tlen hx hb ((hZ.1 j hj).1 0 Nat.one_pos).2.2.2 hS rfl ds_lch_2 ?_
  have hG : GoodIn qw (va_wsS "java/lang/StringLatin1" 9 ys_chk (.code ys_chk cs_chk 2 none :: qw)) := qw_S qq_24 qq_15 qq_18 qq_14
  have hbl : ∀ avx : List Value, FrameBlind (va_Pc avx (fun U => qZ ad av (fun _ => False) U U.heap)) := fun avx a U g mk q => ⟨q.1, qZ_moved (u := U) (U := U.calling g mk a) (Vm.Alike.refl U.vm) q.2⟩
  refine va_csv (W.runS (As := [.int (nI k), .int (Int32.ofNat (qlen.getD j 0))]) (rest := []) ⟨hx, hb, hml, hown, hts⟩ (ks_chk l ad av (nI k) (Int32.ofNat (qlen.getD j 0)) (nI_pos (Nat.lt_trans hk hn)) (nI_lt hk hn)) (va_cwS 2 hts hG rfl rfl rfl ys_chk_d ⟨by decide, by decide⟩) ⟨hbl _, fun U hU hW => ⟨rfl, by show qZ ad av _ U U.heap; rw [hU]; exact qZ_moved hW.alike hZ⟩⟩ rfl rfl hl.1 rfl (lv_room (Nat.le_of_ble_eq_true rfl)) ds_lch_3 ⟨Nat.le_refl _, Nat.le_refl _⟩) (fun _ => ?_)
  refine lv_aload_n hx hb ds_lch_6 rfl (lv_at hl 0 rfl) ?_
  refine lv_iload_n hx hb ds_lch_7 rfl (lv_at hl 1 rfl) ?_
  refine va_tb hx hb ((hZ.1 j hj).1 0 Nat.one_pos).2.2.2 hS (inb_in h0) rfl ds_lch_8 ?_
  refine lv_sipush (v := 255) hx hb ds_lch_9 (by decide) ?_
  refine lv_iand hx hb ds_lch_12 ?_
  refine lv_i2c hx hb ds_lch_13 rfl ?_
  exact W.zret (v := schr j (nI k)) hx hb hr (pk_nc _) (fun t ht hW => ⟨_, rfl, rfl, ht⟩) (fun q h => by cases h) ds_lch_14
set_option maxHeartbeats 4000000 in
set_option maxRecDepth 100000 in
theorem ks_cha (l : Launch) (ad av : Nat → Nat) (j : Nat) (hj : j < 24) (i : Int32) (h0 : inb i (qlen.getD j 0) = true) (hn : qlen.getD j 0 < 2 ^ 31) : Met l ys_cha (.code ys_cha cs_cha 2 (some .char) :: qw) ({ frames := 3, cells := 0, slots := 0, locals := 64 }) (va_Pc [.ref (ad j), .int i] (fun U => qZ ad av (fun _ => False) U U.heap)) (vp_Si (fun r => r = schr j i)) 0 0 (fun _ => False) := by
  refine Met.ofW (cc := cs_cha) (maxL := 2) (ret := (some .char)) (by decide) rfl ?_
  intro p e s m args below meth c s₁ B hml hv
  obtain ⟨rfl, hZ⟩ := hv
  have hx := B.exec
  have hb := B.bytes
  have hr := B.returns
  have hts : ∀ w ∈ qw, w.before _ s = true := fun w h => atoms_spec (ws := .code ys_cha cs_cha 2 (some .char) :: qw) B.pre w (List.mem_cons_of_mem _ h)
  have hown : s.vm.findClass ys_cha.cls = some m.cls := findClass_of_methodNamed B.named
  have hlocks := B.notSynchronized
  have hS : va_S (fun _ => False) s.heap s.heap [] := va_S.rf
  have hl := lv_entry [.ref (ad j), .int i] (n := 2) (Nat.le_of_ble_eq_true rfl)
  rw [lg_entry_eq]
  generalize (lg_sl [.ref (ad j), .int i] ++ List.replicate (2 - (lg_sl [.ref (ad j), .int i]).length) Slot.unset).toArray = ls at hl ⊢
  have hl : lv_has ls 2 [(0, .ref (ad j)), (1, .int i)] := hl
  have hbl : ∀ avx : List Value, FrameBlind (va_Pc avx (fun U => qZ ad av (fun _ => False) U U.heap)) := fun avx a U g mk q => ⟨q.1, qZ_moved (u := U) (U := U.calling g mk a) (Vm.Alike.refl U.vm) q.2⟩
  refine lv_aload_n hx hb ds_cha_0 rfl (lv_at hl 0 rfl) ?_
  have hG : GoodIn qw (wsV "java/lang/String" 492 "java/lang/String" ys_lat (.code ys_lat cs_lat 1 (some .boolean) :: qw)) := qw_V qq_22 qq_10 qq_11 qq_18 qq_9
  refine vp_callSi (W.runV (As := []) (rest := []) ⟨hx, hb, hml, hown, hts⟩ (ks_lat l ad av j hj) (cwV 0 hts hG rfl rfl rfl ⟨rfl, ys_lat_d⟩ ⟨by decide, by decide⟩) ⟨hbl _, vk_recv (i := 0) (hZ.1 j hj) Nat.one_pos hS, fun U hU hW => ⟨rfl, by show qZ ad av _ U U.heap; rw [hU]; exact qZ_moved hW.alike hZ⟩⟩ rfl rfl hl.1 rfl (lv_room (Nat.le_of_ble_eq_true rfl)) ds_cha_1 ⟨Nat.le_refl _, Nat.le_refl _⟩) (fun r hr0 => ?_)
  subst hr0
  refine lv_if_eq (tgt := 16) hx hb ds_cha_4 (by decide) (fun q => absurd q (by decide)) (fun _ => ?_)
  refine lv_aload_n hx hb ds_cha_7 rfl (lv_at hl 0 rfl) ?_
  refine vk_getf hx hb ((hZ.1 j hj).1 0 Nat.one_pos).2.2.1 hS hown (hts _ qq_28) (fun _ h => h) ds_cha_8 ?_
  refine lv_iload_n hx hb ds_cha_11 rfl (lv_at hl 1 rfl) ?_
  have hG2 : GoodIn qw (va_wsS "java/lang/String" 495 ys_lch (.code ys_lch cs_lch 2 (some .char) :: qw)) := qw_S qq_23 qq_13 qq_19 qq_12
  refine vp_callSi (W.runS (As := [.ref (av j), .int i]) (rest := []) ⟨hx, hb, hml, hown, hts⟩ (ks_lch l ad av j hj i h0 hn) (va_cwS 2 hts hG2 rfl rfl rfl ys_lch_d ⟨by decide, by decide⟩) ⟨hbl _, fun U hU hW => ⟨rfl, by show qZ ad av _ U U.heap; rw [hU]; exact qZ_moved hW.alike hZ⟩⟩ rfl rfl hl.1 rfl (lv_room (Nat.le_of_ble_eq_true rfl)) ds_cha_12 ⟨Nat.le_refl _, Nat.le_refl _⟩) (fun r hr0 => ?_)
  subst hr0
  exact W.zret (v := schr j i) hx hb hr (pk_nc _) (fun t ht hW => ⟨_, rfl, rfl, ht⟩) (fun q h => by cases h) ds_cha_15
theorem qlen_s : ∀ j, j < 24 → qlen.getD j 0 < 2 ^ 31 := by decide +kernel
section QT
variable {p : Program} {l : Launch} {e : Env} {R : Room} {s : State} {m : MethodId} {args : Array Value} {below : List Frame} {meth : Method} {c : Code} {H : Heap} {locs : List Loc} {cells slots : Nat} {Q : State → Prop}
variable {cc : ByteArray} {nL : Nat} {ret : Option FieldType} {own : String} {D : va_G} {cl : List vw_C} {tys : List (ClassId × FieldType)} {wf : qS → va_W} {A : Nat → Prop} {S : qS} {pc : Nat} {ls : Array Slot} {rest : List Value} {ad av : Nat → Nat}
theorem q_slen {j : Nat} (C : qC p s m args meth c cc nL ret "QuadMode" ad) (Z : qZ ad av A s s.heap) (G : qG D cl tys A s (wf S) H locs) (hls : ls.size = nL) (hj : decide (j < 24) = true) (hR : 2 ≤ R.frames ∧ 40 ≤ R.locals) (hcr : cells ≤ R.cells ∧ slots ≤ R.slots) (h8 : (rest.map fun v => v.category).sum ≤ 8) (hdg : decode cc pc = .ok (.invokevirtual 151, 3))
    (kk : W p l e R s m args below meth c H locs cells slots Q (F0 m (pc + 3) ls (.int (slen j) :: rest))) : W p l e R s m args below meth c H locs cells slots Q (F0 m pc ls (.ref (ad j) :: rest)) := by
  have hj := of_decide_eq_true hj
  have hZ : qZ ad av (fun _ => False) s H := qZ_narrow (qZ_kept Z G.2.2.2.1.2.1) (fun _ h => h.elim)
  have hG : GoodIn qw (wsV "QuadMode" 151 "java/lang/String" ys_len (.code ys_len cs_len 1 (some .int) :: qw)) := qw_V qq_26 qq_1 qq_2 qq_18 qq_0
  refine vp_callSi (W.runV (As := []) (rest := rest) ⟨C.1, C.2.1, C.2.2.1, C.2.2.2.1, C.2.2.2.2.1⟩ (ks_len l ad av j hj) (cwV 0 C.2.2.2.2.1 hG rfl rfl rfl ⟨rfl, ys_len_d⟩ ⟨hR.1, hR.2⟩) ⟨fun a U g mk q => ⟨q.1, qZ_moved (u := U) (U := U.calling g mk a) (Vm.Alike.refl U.vm) q.2⟩, vk_recv (i := 0) (Z.1 j hj) Nat.one_pos G.2.2.2.1, fun U hU hW => ⟨rfl, by show qZ ad av _ U U.heap; rw [hU]; exact qZ_moved hW.alike hZ⟩⟩ rfl rfl hls rfl (lv_room h8) hdg hcr) (fun r hr0 => ?_)
  subst hr0
  exact kk
theorem q_schr {j : Nat} {i : Int32} (C : qC p s m args meth c cc nL ret "QuadMode" ad) (Z : qZ ad av A s s.heap) (G : qG D cl tys A s (wf S) H locs) (hls : ls.size = nL) (hi : inbs j i = true) (hR : 4 ≤ R.frames ∧ 85 ≤ R.locals) (hcr : cells ≤ R.cells ∧ slots ≤ R.slots) (h8 : (rest.map fun v => v.category).sum ≤ 8) (hdg : decode cc pc = .ok (.invokevirtual 160, 3))
    (kk : W p l e R s m args below meth c H locs cells slots Q (F0 m (pc + 3) ls (.int (schr j i) :: rest))) : W p l e R s m args below meth c H locs cells slots Q (F0 m pc ls (.int i :: .ref (ad j) :: rest)) := by
  rw [inbs, Bool.and_eq_true, decide_eq_true_eq] at hi
  obtain ⟨hj, hi⟩ := hi
  have hZ : qZ ad av (fun _ => False) s H := qZ_narrow (qZ_kept Z G.2.2.2.1.2.1) (fun _ h => h.elim)
  have hG : GoodIn qw (wsV "QuadMode" 160 "java/lang/String" ys_cha (.code ys_cha cs_cha 2 (some .char) :: qw)) := qw_V qq_27 qq_7 qq_8 qq_18 qq_6
  refine vp_callSi (W.runV (As := [.int i]) (rest := rest) ⟨C.1, C.2.1, C.2.2.1, C.2.2.2.1, C.2.2.2.2.1⟩ (ks_cha l ad av j hj i hi (qlen_s j hj)) (cwV 1 C.2.2.2.2.1 hG rfl rfl rfl ⟨rfl, ys_cha_d⟩ ⟨hR.1, hR.2⟩) ⟨fun a U g mk q => ⟨q.1, qZ_moved (u := U) (U := U.calling g mk a) (Vm.Alike.refl U.vm) q.2⟩, vk_recv (i := 0) (Z.1 j hj) Nat.one_pos G.2.2.2.1, fun U hU hW => ⟨rfl, by show qZ ad av _ U U.heap; rw [hU]; exact qZ_moved hW.alike hZ⟩⟩ rfl rfl hls rfl (lv_room h8) hdg hcr) (fun r hr0 => ?_)
  subst hr0
  exact kk
/-- a call that answers a text -/
theorem q_callVs {index nL' fr lo n q0 ci : Nat} {y : MethodName} {cc' : ByteArray} {b : Nat} {fs : List Value} {As st : List Value} {res : Nat × qS} {q : vw_C} (C : qC p s m args meth c cc nL ret own ad) (G : qG D cl tys A s (wf S) H locs) (hls : ls.size = nL) (hM : qMs l y cc' nL' fr lo D cl tys ad wf (.ref b :: As) S res)
    (hw : Cond.methodLink own index y ∈ qw ∧ Cond.instanceMethod y ∈ qw ∧ Cond.selects y.cls y y ∈ qw ∧ Cond.initialized y.cls ∈ qw ∧ Cond.code y cc' nL' (some (.object "java/lang/String")) ∈ qw) (hd : y.cls ≠ "java/lang/invoke/MethodHandle" ∧ y.cls ≠ "java/lang/invoke/VarHandle" ∧ (parseMethodDescriptor y.desc).map (fun d => d.parameters.length) = some n)
    (hR : fr + 1 ≤ R.frames ∧ 8 + (nL' + 11) + lo ≤ R.locals) (hcr : cells ≤ R.cells ∧ slots ≤ R.slots) (hc : cl[ci]? = some q) (hq : q.1 = y.cls) (he : (wf S)[q0]? = some (b, .inr (ci, fs))) (hn : As.length = n) (hst : st = As.reverse ++ .ref b :: rest) (h8 : (rest.map fun v => v.category).sum ≤ 8) (hdg : decode cc pc = .ok (.invokevirtual index, 3))
    (kk : ∀ (H1 : Heap) (locs1 : List Loc), qG D cl tys A s (wf res.2) H1 locs1 → W p l e R s m args below meth c H1 locs1 cells slots Q (F0 m (pc + 3) ls (.ref (ad res.1) :: rest))) : W p l e R s m args below meth c H locs cells slots Q (F0 m pc ls st) := by
  obtain ⟨hx, hb, hml, hown, hts, -, -, hN⟩ := C
  obtain ⟨hK, hP, hD, hS, hA⟩ := G
  have hFc : ∀ z, va_A (wf S) H.size z → A z := fun z hz => by
    rcases hz with ⟨k, e, h⟩ | h
    · exact hD.2 k _ h
    · exact hA z (Nat.le_trans hS.1 h)
  have hrc := va_recv hK hP hc he
  rw [hq] at hrc
  refine va_callr (va_runV (As := As) (rest := rest) ⟨hx, hb, hml, hown, hts⟩ (hM H.size) (cwV n hts (qw_V hw.1 hw.2.1 hw.2.2.1 hw.2.2.2.1 hw.2.2.2.2) rfl rfl rfl ⟨rfl, hd⟩ hR) ⟨qP_blind, hrc, fun U hU hW => ⟨rfl, by rw [hU], by rw [hU]; exact hP, va_K.moved hW.alike hK, hD.weaken (fun _ _ _ _ => trivial), qN_warm hW hN⟩⟩ rfl hn hls hst (lv_room h8) hdg hcr) hS (fun z _ h => hFc z h) hFc (fun u a9 t H1 locs1 ht hvm hpost hB hz1 hk1 hS1 => ?_)
  cases hpost
  obtain ⟨rfl, hP1, hK1, hD1⟩ := hB
  rw [ht] at hP1
  exact kk H1 locs1 ⟨hK, hP1, ⟨hD1.1, fun k z hz => hFc _ (hD1.2 k z hz)⟩, hS1, hA⟩
end QT
/-- contracts of methods that read the texts -/
def qPz (D : va_G) (cl : List vw_C) (tys : List (ClassId × FieldType)) (ad av : Nat → Nat) (ws : va_W) (sz : Nat) (U : State) : Prop := qP D cl tys ad ws sz U ∧ qZ ad av (va_A ws sz) U U.heap
def qMiZ (l : Launch) (y : MethodName) (cc : ByteArray) (nL : Nat) (ty : FieldType) (fr lo : Nat) (D : va_G) (cl : List vw_C) (tys : List (ClassId × FieldType)) (ad av : Nat → Nat) (wf : qS → va_W) (avs : List Value) (S : qS) (res : Int32 × qS) : Prop :=
  ∀ sz : Nat, Met l y (.code y cc nL (some ty) :: qw) ({ frames := fr, cells := 0, slots := 0, locals := lo }) (va_Pc avs (qPz D cl tys ad av (wf S) sz)) (qQi D cl tys wf (va_A (wf S) sz) res) 0 0 (va_A (wf S) sz)
def qMvZ (l : Launch) (y : MethodName) (cc : ByteArray) (nL : Nat) (fr lo : Nat) (D : va_G) (cl : List vw_C) (tys : List (ClassId × FieldType)) (ad av : Nat → Nat) (wf : qS → va_W) (avs : List Value) (S : qS) (res : qS) : Prop :=
  ∀ sz : Nat, Met l y (.code y cc nL none :: qw) ({ frames := fr, cells := 0, slots := 0, locals := lo }) (va_Pc avs (qPz D cl tys ad av (wf S) sz)) (qQv D cl tys wf (va_A (wf S) sz) res) 0 0 (va_A (wf S) sz)
theorem qPz_blind {D : va_G} {cl : List vw_C} {tys : List (ClassId × FieldType)} {ad av : Nat → Nat} {ws : va_W} {sz : Nat} {avs : List Value} : FrameBlind (va_Pc avs (qPz D cl tys ad av ws sz)) := fun a U g mk q =>
  ⟨q.1, (qP_blind (av := avs) a U g mk ⟨q.1, q.2.1⟩).2, qZ_moved (u := U) (U := U.calling g mk a) (Vm.Alike.refl U.vm) q.2.2⟩
section QV
variable {D : va_G} {cl : List vw_C} {tys : List (ClassId × FieldType)} {wf : qS → va_W} {A : Nat → Prop} {ad av : Nat → Nat}
theorem qMiZ_of {l : Launch} {y : MethodName} {cc : ByteArray} {nL fr lo : Nat} {ty : FieldType} {avs : List Value} {S : qS} {res : Int32 × qS} (hy : plainName y.cls = true) (hn : (lg_sl avs).length ≤ nL)
    (h : ∀ (p : Program) (e : Env) (s : State) (m : MethodId) (args : Array Value) (below : List Frame) (meth : Method) (c : Code) (A : Nat → Prop) (ls : Array Slot), qC p s m args meth c cc nL (some ty) y.cls ad → qZ ad av A s s.heap → qG D cl tys A s (wf S) s.heap [] → lv_has ls nL (lv_args 0 avs) →
      W p l e ({ frames := fr, cells := 0, slots := 0, locals := lo }) s m args below meth c s.heap [] 0 0 (MQ below (qQi D cl tys wf A res) args s 0 0 A) (F0 m 0 ls [])) : qMiZ l y cc nL ty fr lo D cl tys ad av wf avs S res := by
  intro sz
  refine Met.ofW (cc := cc) (maxL := nL) (ret := some ty) hy rfl ?_
  intro p e s m args below meth c s₁ B hml hv
  obtain ⟨rfl, ⟨hsz, hP, hK, hD0, hN⟩, hZ⟩ := hv
  have hts := atoms_spec (ws := .code y cc nL (some ty) :: qw) B.pre
  have hown : s.vm.findClass y.cls = some m.cls := findClass_of_methodNamed B.named
  subst hsz
  have hl := lv_entry avs (n := nL) hn
  rw [lg_entry_eq]
  exact h p e s m avs.toArray below meth c _ _ ⟨B.exec, B.bytes, hml, hown, fun w hw => hts w (List.mem_cons_of_mem _ hw), B.returns, B.notSynchronized, hN⟩ hZ ⟨hK, hP, hD0.self, va_S.rf, fun q h => Or.inr h⟩ hl
theorem qMvZ_of {l : Launch} {y : MethodName} {cc : ByteArray} {nL fr lo : Nat} {avs : List Value} {S : qS} {res : qS} (hy : plainName y.cls = true) (hn : (lg_sl avs).length ≤ nL)
    (h : ∀ (p : Program) (e : Env) (s : State) (m : MethodId) (args : Array Value) (below : List Frame) (meth : Method) (c : Code) (A : Nat → Prop) (ls : Array Slot), qC p s m args meth c cc nL none y.cls ad → qZ ad av A s s.heap → qG D cl tys A s (wf S) s.heap [] → lv_has ls nL (lv_args 0 avs) →
      W p l e ({ frames := fr, cells := 0, slots := 0, locals := lo }) s m args below meth c s.heap [] 0 0 (MQ below (qQv D cl tys wf A res) args s 0 0 A) (F0 m 0 ls [])) : qMvZ l y cc nL fr lo D cl tys ad av wf avs S res := by
  intro sz
  refine Met.ofW (cc := cc) (maxL := nL) (ret := none) hy rfl ?_
  intro p e s m args below meth c s₁ B hml hv
  obtain ⟨rfl, ⟨hsz, hP, hK, hD0, hN⟩, hZ⟩ := hv
  have hts := atoms_spec (ws := .code y cc nL none :: qw) B.pre
  have hown : s.vm.findClass y.cls = some m.cls := findClass_of_methodNamed B.named
  subst hsz
  have hl := lv_entry avs (n := nL) hn
  rw [lg_entry_eq]
  exact h p e s m avs.toArray below meth c _ _ ⟨B.exec, B.bytes, hml, hown, fun w hw => hts w (List.mem_cons_of_mem _ hw), B.returns, B.notSynchronized, hN⟩ hZ ⟨hK, hP, hD0.self, va_S.rf, fun q h => Or.inr h⟩ hl
end QV
section QU
variable {p : Program} {l : Launch} {e : Env} {R : Room} {s : State} {m : MethodId} {args : Array Value} {below : List Frame} {meth : Method} {c : Code} {H : Heap} {locs : List Loc} {cells slots : Nat} {Q : State → Prop}
variable {cc : ByteArray} {nL : Nat} {ret : Option FieldType} {own : String} {D : va_G} {cl : List vw_C} {tys : List (ClassId × FieldType)} {wf : qS → va_W} {A : Nat → Prop} {S : qS} {pc : Nat} {ls : Array Slot} {rest : List Value} {ad av : Nat → Nat}
theorem q_callVvZ {index nL' fr lo n q0 ci : Nat} {y : MethodName} {cc' : ByteArray} {b : Nat} {fs : List Value} {As st : List Value} {S' : qS} {q : vw_C} (C : qC p s m args meth c cc nL ret own ad) (Z : qZ ad av A s s.heap) (G : qG D cl tys A s (wf S) H locs) (hls : ls.size = nL) (hM : qMvZ l y cc' nL' fr lo D cl tys ad av wf (.ref b :: As) S S')
    (hw : Cond.methodLink own index y ∈ qw ∧ Cond.instanceMethod y ∈ qw ∧ Cond.selects y.cls y y ∈ qw ∧ Cond.initialized y.cls ∈ qw ∧ Cond.code y cc' nL' none ∈ qw) (hd : y.cls ≠ "java/lang/invoke/MethodHandle" ∧ y.cls ≠ "java/lang/invoke/VarHandle" ∧ (parseMethodDescriptor y.desc).map (fun d => d.parameters.length) = some n)
    (hR : fr + 1 ≤ R.frames ∧ 8 + (nL' + 11) + lo ≤ R.locals) (hcr : cells ≤ R.cells ∧ slots ≤ R.slots) (hc : cl[ci]? = some q) (hq : q.1 = y.cls) (he : (wf S)[q0]? = some (b, .inr (ci, fs))) (hn : As.length = n) (hst : st = As.reverse ++ .ref b :: rest) (h8 : (rest.map fun v => v.category).sum ≤ 8) (hdg : decode cc pc = .ok (.invokevirtual index, 3))
    (kk : ∀ (H1 : Heap) (locs1 : List Loc), qG D cl tys A s (wf S') H1 locs1 → W p l e R s m args below meth c H1 locs1 cells slots Q (F0 m (pc + 3) ls rest)) : W p l e R s m args below meth c H locs cells slots Q (F0 m pc ls st) := by
  obtain ⟨hx, hb, hml, hown, hts, -, -, hN⟩ := C
  obtain ⟨hK, hP, hD, hS, hA⟩ := G
  have hFc : ∀ z, va_A (wf S) H.size z → A z := fun z hz => by
    rcases hz with ⟨k, e, h⟩ | h
    · exact hD.2 k _ h
    · exact hA z (Nat.le_trans hS.1 h)
  have hZ : qZ ad av (va_A (wf S) H.size) s H := qZ_narrow (qZ_kept Z hS.2.1) hFc
  have hrc := va_recv hK hP hc he
  rw [hq] at hrc
  refine va_callv (va_runV (As := As) (rest := rest) ⟨hx, hb, hml, hown, hts⟩ (hM H.size) (cwV n hts (qw_V hw.1 hw.2.1 hw.2.2.1 hw.2.2.2.1 hw.2.2.2.2) rfl rfl rfl ⟨rfl, hd⟩ hR) ⟨qPz_blind, hrc, fun U hU hW => ⟨rfl, ⟨by rw [hU], by rw [hU]; exact hP, va_K.moved hW.alike hK, hD.weaken (fun _ _ _ _ => trivial), qN_warm hW hN⟩, by rw [hU]; exact qZ_moved hW.alike hZ⟩⟩ rfl hn hls hst (lv_room h8) hdg hcr) hS (fun z _ h => hFc z h) hFc (fun u t H1 locs1 ht hvm hpost hB hz1 hk1 hS1 => ?_)
  cases hpost
  obtain ⟨hP1, hK1, hD1⟩ := hB
  rw [ht] at hP1
  exact kk H1 locs1 ⟨hK, hP1, ⟨hD1.1, fun k z hz => hFc _ (hD1.2 k z hz)⟩, hS1, hA⟩
end QU
