theorem qm_St_putByte_0 : decode qm_St_putByte_c 0 = .ok (.aload_n 0, 1) := by decide +kernel
theorem qm_St_putByte_1 : decode qm_St_putByte_c 1 = .ok (.getfield 9, 3) := by decide +kernel
theorem qm_St_putByte_4 : decode qm_St_putByte_c 4 = .ok (.iload_n 1, 1) := by decide +kernel
theorem qm_St_putByte_5 : decode qm_St_putByte_c 5 = .ok (.sipush 2047, 3) := by decide +kernel
theorem qm_St_putByte_8 : decode qm_St_putByte_c 8 = .ok (.iand, 1) := by decide +kernel
theorem qm_St_putByte_9 : decode qm_St_putByte_c 9 = .ok (.iload_n 2, 1) := by decide +kernel
theorem qm_St_putByte_10 : decode qm_St_putByte_c 10 = .ok (.i2b, 1) := by decide +kernel
theorem qm_St_putByte_11 : decode qm_St_putByte_c 11 = .ok (.bastore, 1) := by decide +kernel
theorem qm_St_putByte_12 : decode qm_St_putByte_c 12 = .ok (.return_, 1) := by decide +kernel
theorem qm_St_longAt_0 : decode qm_St_longAt_c 0 = .ok (.aload_n 0, 1) := by decide +kernel
theorem qm_St_longAt_1 : decode qm_St_longAt_c 1 = .ok (.getfield 9, 3) := by decide +kernel
theorem qm_St_longAt_4 : decode qm_St_longAt_c 4 = .ok (.iload_n 1, 1) := by decide +kernel
theorem qm_St_longAt_5 : decode qm_St_longAt_c 5 = .ok (.sipush 2047, 3) := by decide +kernel
theorem qm_St_longAt_8 : decode qm_St_longAt_c 8 = .ok (.iand, 1) := by decide +kernel
theorem qm_St_longAt_9 : decode qm_St_longAt_c 9 = .ok (.baload, 1) := by decide +kernel
theorem qm_St_longAt_10 : decode qm_St_longAt_c 10 = .ok (.sipush 255, 3) := by decide +kernel
theorem qm_St_longAt_13 : decode qm_St_longAt_c 13 = .ok (.iand, 1) := by decide +kernel
theorem qm_St_longAt_14 : decode qm_St_longAt_c 14 = .ok (.aload_n 0, 1) := by decide +kernel
theorem qm_St_longAt_15 : decode qm_St_longAt_c 15 = .ok (.getfield 9, 3) := by decide +kernel
theorem qm_St_longAt_18 : decode qm_St_longAt_c 18 = .ok (.iload_n 1, 1) := by decide +kernel
theorem qm_St_longAt_19 : decode qm_St_longAt_c 19 = .ok (.iconst 1, 1) := by decide +kernel
theorem qm_St_longAt_20 : decode qm_St_longAt_c 20 = .ok (.iadd, 1) := by decide +kernel
theorem qm_St_longAt_21 : decode qm_St_longAt_c 21 = .ok (.sipush 2047, 3) := by decide +kernel
theorem qm_St_longAt_24 : decode qm_St_longAt_c 24 = .ok (.iand, 1) := by decide +kernel
theorem qm_St_longAt_25 : decode qm_St_longAt_c 25 = .ok (.baload, 1) := by decide +kernel
theorem qm_St_longAt_26 : decode qm_St_longAt_c 26 = .ok (.sipush 255, 3) := by decide +kernel
theorem qm_St_longAt_29 : decode qm_St_longAt_c 29 = .ok (.iand, 1) := by decide +kernel
theorem qm_St_longAt_30 : decode qm_St_longAt_c 30 = .ok (.bipush 8, 2) := by decide +kernel
theorem qm_St_longAt_32 : decode qm_St_longAt_c 32 = .ok (.ishl, 1) := by decide +kernel
theorem qm_St_longAt_33 : decode qm_St_longAt_c 33 = .ok (.ior, 1) := by decide +kernel
theorem qm_St_longAt_34 : decode qm_St_longAt_c 34 = .ok (.aload_n 0, 1) := by decide +kernel
theorem qm_St_longAt_35 : decode qm_St_longAt_c 35 = .ok (.getfield 9, 3) := by decide +kernel
theorem qm_St_longAt_38 : decode qm_St_longAt_c 38 = .ok (.iload_n 1, 1) := by decide +kernel
theorem qm_St_longAt_39 : decode qm_St_longAt_c 39 = .ok (.iconst 2, 1) := by decide +kernel
theorem qm_St_longAt_40 : decode qm_St_longAt_c 40 = .ok (.iadd, 1) := by decide +kernel
theorem qm_St_longAt_41 : decode qm_St_longAt_c 41 = .ok (.sipush 2047, 3) := by decide +kernel
theorem qm_St_longAt_44 : decode qm_St_longAt_c 44 = .ok (.iand, 1) := by decide +kernel
theorem qm_St_longAt_45 : decode qm_St_longAt_c 45 = .ok (.baload, 1) := by decide +kernel
theorem qm_St_longAt_46 : decode qm_St_longAt_c 46 = .ok (.sipush 255, 3) := by decide +kernel
theorem qm_St_longAt_49 : decode qm_St_longAt_c 49 = .ok (.iand, 1) := by decide +kernel
theorem qm_St_longAt_50 : decode qm_St_longAt_c 50 = .ok (.bipush 16, 2) := by decide +kernel
theorem qm_St_longAt_52 : decode qm_St_longAt_c 52 = .ok (.ishl, 1) := by decide +kernel
theorem qm_St_longAt_53 : decode qm_St_longAt_c 53 = .ok (.ior, 1) := by decide +kernel
theorem qm_St_longAt_54 : decode qm_St_longAt_c 54 = .ok (.aload_n 0, 1) := by decide +kernel
theorem qm_St_longAt_55 : decode qm_St_longAt_c 55 = .ok (.getfield 9, 3) := by decide +kernel
theorem qm_St_longAt_58 : decode qm_St_longAt_c 58 = .ok (.iload_n 1, 1) := by decide +kernel
theorem qm_St_longAt_59 : decode qm_St_longAt_c 59 = .ok (.iconst 3, 1) := by decide +kernel
theorem qm_St_longAt_60 : decode qm_St_longAt_c 60 = .ok (.iadd, 1) := by decide +kernel
theorem qm_St_longAt_61 : decode qm_St_longAt_c 61 = .ok (.sipush 2047, 3) := by decide +kernel
theorem qm_St_longAt_64 : decode qm_St_longAt_c 64 = .ok (.iand, 1) := by decide +kernel
theorem qm_St_longAt_65 : decode qm_St_longAt_c 65 = .ok (.baload, 1) := by decide +kernel
theorem qm_St_longAt_66 : decode qm_St_longAt_c 66 = .ok (.bipush 24, 2) := by decide +kernel
theorem qm_St_longAt_68 : decode qm_St_longAt_c 68 = .ok (.ishl, 1) := by decide +kernel
theorem qm_St_longAt_69 : decode qm_St_longAt_c 69 = .ok (.ior, 1) := by decide +kernel
theorem qm_St_longAt_70 : decode qm_St_longAt_c 70 = .ok (.ireturn, 1) := by decide +kernel
theorem qm_St_byteAt_0 : decode qm_St_byteAt_c 0 = .ok (.aload_n 0, 1) := by decide +kernel
theorem qm_St_byteAt_1 : decode qm_St_byteAt_c 1 = .ok (.getfield 9, 3) := by decide +kernel
theorem qm_St_byteAt_4 : decode qm_St_byteAt_c 4 = .ok (.iload_n 1, 1) := by decide +kernel
theorem qm_St_byteAt_5 : decode qm_St_byteAt_c 5 = .ok (.sipush 2047, 3) := by decide +kernel
theorem qm_St_byteAt_8 : decode qm_St_byteAt_c 8 = .ok (.iand, 1) := by decide +kernel
theorem qm_St_byteAt_9 : decode qm_St_byteAt_c 9 = .ok (.baload, 1) := by decide +kernel
theorem qm_St_byteAt_10 : decode qm_St_byteAt_c 10 = .ok (.sipush 255, 3) := by decide +kernel
theorem qm_St_byteAt_13 : decode qm_St_byteAt_c 13 = .ok (.iand, 1) := by decide +kernel
theorem qm_St_byteAt_14 : decode qm_St_byteAt_c 14 = .ok (.ireturn, 1) := by decide +kernel
set_option maxHeartbeats 4000000 in
set_option maxRecDepth 100000 in
theorem wSt_putByte {l : Launch} {D : va_G} {h : Nat → Nat} {K : Nat → ClassId} {res : qS} {p : Program} {e : Env} {s : State} {m : MethodId} {args : Array Value} {below : List Frame} {meth : Method} {c : Code} {A : Nat → Prop} {ad : Nat → Nat} (C : qC p s m args meth c qm_St_putByte_c 3 none qR_St ad) (S : qS) (a1 : Int32) (a2 : Int32) (hf : fSt_putByte S a1 a2 = some res) : ∀ (H : Heap) (locs : List Loc) (ls : Array Slot), qG D qCl (cT K) A s (cW h K S) H locs → lv_has ls 3 [(0, .ref (h 1)), (1, .int a1), (2, .int a2)] → W p l e ({ frames := 0, cells := 0, slots := 0, locals := 0 }) s m args below meth c H locs 0 0 (MQ below (qQv D qCl (cT K) (cW h K) A res) args s 0 0 A) (F0 m 0 ls []) := by
  intro H locs ls G hl
  unfold fSt_putByte at hf
  refine lv_aload_n C.1 C.2.1 qm_St_putByte_0 rfl (lv_at hl 0 rfl) ?_
  refine q_get (wf := (cW h K)) (v := .ref (h 2)) C G qi_St 1 rfl rfl 0 (by decide) qz_98 rfl qm_St_putByte_1 ?_
  refine lv_iload_n C.1 C.2.1 qm_St_putByte_4 rfl (lv_at hl 1 rfl) ?_
  refine lv_sipush (v := 2047) C.1 C.2.1 qm_St_putByte_5 (by decide) ?_
  refine lv_iand C.1 C.2.1 qm_St_putByte_8 ?_
  refine lv_iload_n C.1 C.2.1 qm_St_putByte_9 rfl (lv_at hl 2 rfl) ?_
  refine lv_i2b (v := a2.toInt8.toInt32) C.1 C.2.1 qm_St_putByte_10 rfl ?_
  obtain ⟨b1, hf⟩ := chk_s hf
  refine q_bast (wf := (cW h K)) (S' := (pA S 0 (a1 &&& 2047) (vp_nar .byte a2.toInt8.toInt32))) C G 2 0 rfl rfl b1 rfl qm_St_putByte_11 (fun H locs G => ?_)
  exact q_vret (wf := (cW h K)) C G hf qm_St_putByte_12
theorem kSt_putByte {l : Launch} {ad : Nat → Nat} {D : va_G} {h : Nat → Nat} {K : Nat → ClassId} {res : qS} {S : qS} {a1 : Int32} {a2 : Int32} (hf : fSt_putByte S a1 a2 = some res) : qMv l qm_St_putByte qm_St_putByte_c 3 0 0 D qCl (cT K) ad (cW h K) [.ref (h 1), .int a1, .int a2] S res := qMv_of (by decide) (Nat.le_of_ble_eq_true rfl) (fun _ _ _ _ _ _ _ _ _ _ C G hl => wSt_putByte C S a1 a2 hf _ _ _ G hl)
set_option maxHeartbeats 4000000 in
set_option maxRecDepth 100000 in
theorem wSt_longAt {l : Launch} {D : va_G} {h : Nat → Nat} {K : Nat → ClassId} {res : Int32 × qS} {p : Program} {e : Env} {s : State} {m : MethodId} {args : Array Value} {below : List Frame} {meth : Method} {c : Code} {A : Nat → Prop} {ad : Nat → Nat} (C : qC p s m args meth c qm_St_longAt_c 2 (some .int) qR_St ad) (S : qS) (a1 : Int32) (hf : fSt_longAt S a1 = some res) : ∀ (H : Heap) (locs : List Loc) (ls : Array Slot), qG D qCl (cT K) A s (cW h K S) H locs → lv_has ls 2 [(0, .ref (h 1)), (1, .int a1)] → W p l e ({ frames := 0, cells := 0, slots := 0, locals := 0 }) s m args below meth c H locs 0 0 (MQ below (qQi D qCl (cT K) (cW h K) A res) args s 0 0 A) (F0 m 0 ls []) := by
  intro H locs ls G hl
  unfold fSt_longAt at hf
  refine lv_aload_n C.1 C.2.1 qm_St_longAt_0 rfl (lv_at hl 0 rfl) ?_
  refine q_get (wf := (cW h K)) (v := .ref (h 2)) C G qi_St 1 rfl rfl 0 (by decide) qz_98 rfl qm_St_longAt_1 ?_
  refine lv_iload_n C.1 C.2.1 qm_St_longAt_4 rfl (lv_at hl 1 rfl) ?_
  refine lv_sipush (v := 2047) C.1 C.2.1 qm_St_longAt_5 (by decide) ?_
  refine lv_iand C.1 C.2.1 qm_St_longAt_8 ?_
  obtain ⟨b1, hf⟩ := chk_s hf
  refine q_bald (wf := (cW h K)) C G 2 0 rfl rfl b1 qm_St_longAt_9 ?_
  refine lv_sipush (v := 255) C.1 C.2.1 qm_St_longAt_10 (by decide) ?_
  refine lv_iand C.1 C.2.1 qm_St_longAt_13 ?_
  refine lv_aload_n C.1 C.2.1 qm_St_longAt_14 rfl (lv_at hl 0 rfl) ?_
  refine q_get (wf := (cW h K)) (v := .ref (h 2)) C G qi_St 1 rfl rfl 0 (by decide) qz_98 rfl qm_St_longAt_15 ?_
  refine lv_iload_n C.1 C.2.1 qm_St_longAt_18 rfl (lv_at hl 1 rfl) ?_
  refine lv_iconst (v := 1) C.1 C.2.1 qm_St_longAt_19 (by decide) ?_
  refine lv_iadd C.1 C.2.1 qm_St_longAt_20 ?_
  refine lv_sipush (v := 2047) C.1 C.2.1 qm_St_longAt_21 (by decide) ?_
  refine lv_iand C.1 C.2.1 qm_St_longAt_24 ?_
  obtain ⟨b2, hf⟩ := chk_s hf
  refine q_bald (wf := (cW h K)) C G 2 0 rfl rfl b2 qm_St_longAt_25 ?_
  refine lv_sipush (v := 255) C.1 C.2.1 qm_St_longAt_26 (by decide) ?_
  refine lv_iand C.1 C.2.1 qm_St_longAt_29 ?_
  refine lv_bipush (v := 8) C.1 C.2.1 qm_St_longAt_30 (by decide) ?_
  refine lv_ishl C.1 C.2.1 qm_St_longAt_32 ?_
  refine lv_ior C.1 C.2.1 qm_St_longAt_33 ?_
  refine lv_aload_n C.1 C.2.1 qm_St_longAt_34 rfl (lv_at hl 0 rfl) ?_
  refine q_get (wf := (cW h K)) (v := .ref (h 2)) C G qi_St 1 rfl rfl 0 (by decide) qz_98 rfl qm_St_longAt_35 ?_
  refine lv_iload_n C.1 C.2.1 qm_St_longAt_38 rfl (lv_at hl 1 rfl) ?_
  refine lv_iconst (v := 2) C.1 C.2.1 qm_St_longAt_39 (by decide) ?_
  refine lv_iadd C.1 C.2.1 qm_St_longAt_40 ?_
  refine lv_sipush (v := 2047) C.1 C.2.1 qm_St_longAt_41 (by decide) ?_
  refine lv_iand C.1 C.2.1 qm_St_longAt_44 ?_
  obtain ⟨b3, hf⟩ := chk_s hf
  refine q_bald (wf := (cW h K)) C G 2 0 rfl rfl b3 qm_St_longAt_45 ?_
  refine lv_sipush (v := 255) C.1 C.2.1 qm_St_longAt_46 (by decide) ?_
  refine lv_iand C.1 C.2.1 qm_St_longAt_49 ?_
  refine lv_bipush (v := 16) C.1 C.2.1 qm_St_longAt_50 (by decide) ?_
  refine lv_ishl C.1 C.2.1 qm_St_longAt_52 ?_
  refine lv_ior C.1 C.2.1 qm_St_longAt_53 ?_
  refine lv_aload_n C.1 C.2.1 qm_St_longAt_54 rfl (lv_at hl 0 rfl) ?_
  refine q_get (wf := (cW h K)) (v := .ref (h 2)) C G qi_St 1 rfl rfl 0 (by decide) qz_98 rfl qm_St_longAt_55 ?_
  refine lv_iload_n C.1 C.2.1 qm_St_longAt_58 rfl (lv_at hl 1 rfl) ?_
  refine lv_iconst (v := 3) C.1 C.2.1 qm_St_longAt_59 (by decide) ?_
  refine lv_iadd C.1 C.2.1 qm_St_longAt_60 ?_
  refine lv_sipush (v := 2047) C.1 C.2.1 qm_St_longAt_61 (by decide) ?_
  refine lv_iand C.1 C.2.1 qm_St_longAt_64 ?_
  obtain ⟨b4, hf⟩ := chk_s hf
  refine q_bald (wf := (cW h K)) C G 2 0 rfl rfl b4 qm_St_longAt_65 ?_
  refine lv_bipush (v := 24) C.1 C.2.1 qm_St_longAt_66 (by decide) ?_
  refine lv_ishl C.1 C.2.1 qm_St_longAt_68 ?_
  refine lv_ior C.1 C.2.1 qm_St_longAt_69 ?_
  exact q_iret (wf := (cW h K)) C G hf qm_St_longAt_70
theorem kSt_longAt {l : Launch} {ad : Nat → Nat} {D : va_G} {h : Nat → Nat} {K : Nat → ClassId} {res : Int32 × qS} {S : qS} {a1 : Int32} (hf : fSt_longAt S a1 = some res) : qMi l qm_St_longAt qm_St_longAt_c 2 .int 0 0 D qCl (cT K) ad (cW h K) [.ref (h 1), .int a1] S res := qMi_of (by decide) (Nat.le_of_ble_eq_true rfl) (fun _ _ _ _ _ _ _ _ _ _ C G hl => wSt_longAt C S a1 hf _ _ _ G hl)
set_option maxHeartbeats 4000000 in
set_option maxRecDepth 100000 in
theorem wSt_byteAt {l : Launch} {D : va_G} {h : Nat → Nat} {K : Nat → ClassId} {res : Int32 × qS} {p : Program} {e : Env} {s : State} {m : MethodId} {args : Array Value} {below : List Frame} {meth : Method} {c : Code} {A : Nat → Prop} {ad : Nat → Nat} (C : qC p s m args meth c qm_St_byteAt_c 2 (some .int) qR_St ad) (S : qS) (a1 : Int32) (hf : fSt_byteAt S a1 = some res) : ∀ (H : Heap) (locs : List Loc) (ls : Array Slot), qG D qCl (cT K) A s (cW h K S) H locs → lv_has ls 2 [(0, .ref (h 1)), (1, .int a1)] → W p l e ({ frames := 0, cells := 0, slots := 0, locals := 0 }) s m args below meth c H locs 0 0 (MQ below (qQi D qCl (cT K) (cW h K) A res) args s 0 0 A) (F0 m 0 ls []) := by
  intro H locs ls G hl
  unfold fSt_byteAt at hf
  refine lv_aload_n C.1 C.2.1 qm_St_byteAt_0 rfl (lv_at hl 0 rfl) ?_
  refine q_get (wf := (cW h K)) (v := .ref (h 2)) C G qi_St 1 rfl rfl 0 (by decide) qz_98 rfl qm_St_byteAt_1 ?_
  refine lv_iload_n C.1 C.2.1 qm_St_byteAt_4 rfl (lv_at hl 1 rfl) ?_
  refine lv_sipush (v := 2047) C.1 C.2.1 qm_St_byteAt_5 (by decide) ?_
  refine lv_iand C.1 C.2.1 qm_St_byteAt_8 ?_
  obtain ⟨b1, hf⟩ := chk_s hf
  refine q_bald (wf := (cW h K)) C G 2 0 rfl rfl b1 qm_St_byteAt_9 ?_
  refine lv_sipush (v := 255) C.1 C.2.1 qm_St_byteAt_10 (by decide) ?_
  refine lv_iand C.1 C.2.1 qm_St_byteAt_13 ?_
  exact q_iret (wf := (cW h K)) C G hf qm_St_byteAt_14
theorem kSt_byteAt {l : Launch} {ad : Nat → Nat} {D : va_G} {h : Nat → Nat} {K : Nat → ClassId} {res : Int32 × qS} {S : qS} {a1 : Int32} (hf : fSt_byteAt S a1 = some res) : qMi l qm_St_byteAt qm_St_byteAt_c 2 .int 0 0 D qCl (cT K) ad (cW h K) [.ref (h 1), .int a1] S res := qMi_of (by decide) (Nat.le_of_ble_eq_true rfl) (fun _ _ _ _ _ _ _ _ _ _ C G hl => wSt_byteAt C S a1 hf _ _ _ G hl)
