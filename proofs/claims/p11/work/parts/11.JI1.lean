theorem qm_JI_compare_0 : decode qm_JI_compare_c 0 = .ok (.iload_n 0, 1) := by decide +kernel
theorem qm_JI_compare_1 : decode qm_JI_compare_c 1 = .ok (.iload_n 1, 1) := by decide +kernel
theorem qm_JI_compare_2 : decode qm_JI_compare_c 2 = .ok (.if_icmp .ge 7, 3) := by decide +kernel
theorem qm_JI_compare_5 : decode qm_JI_compare_c 5 = .ok (.iconst (-1), 1) := by decide +kernel
theorem qm_JI_compare_6 : decode qm_JI_compare_c 6 = .ok (.goto 13, 3) := by decide +kernel
theorem qm_JI_compare_9 : decode qm_JI_compare_c 9 = .ok (.iload_n 0, 1) := by decide +kernel
theorem qm_JI_compare_10 : decode qm_JI_compare_c 10 = .ok (.iload_n 1, 1) := by decide +kernel
theorem qm_JI_compare_11 : decode qm_JI_compare_c 11 = .ok (.if_icmp .ne 7, 3) := by decide +kernel
theorem qm_JI_compare_14 : decode qm_JI_compare_c 14 = .ok (.iconst 0, 1) := by decide +kernel
theorem qm_JI_compare_15 : decode qm_JI_compare_c 15 = .ok (.goto 4, 3) := by decide +kernel
theorem qm_JI_compare_18 : decode qm_JI_compare_c 18 = .ok (.iconst 1, 1) := by decide +kernel
theorem qm_JI_compare_19 : decode qm_JI_compare_c 19 = .ok (.ireturn, 1) := by decide +kernel
theorem qm_JI_compareUnsigned_0 : decode qm_JI_compareUnsigned_c 0 = .ok (.iload_n 0, 1) := by decide +kernel
theorem qm_JI_compareUnsigned_1 : decode qm_JI_compareUnsigned_c 1 = .ok (.ldc 127, 2) := by decide +kernel
theorem qm_JI_compareUnsigned_3 : decode qm_JI_compareUnsigned_c 3 = .ok (.iadd, 1) := by decide +kernel
theorem qm_JI_compareUnsigned_4 : decode qm_JI_compareUnsigned_c 4 = .ok (.iload_n 1, 1) := by decide +kernel
theorem qm_JI_compareUnsigned_5 : decode qm_JI_compareUnsigned_c 5 = .ok (.ldc 127, 2) := by decide +kernel
theorem qm_JI_compareUnsigned_7 : decode qm_JI_compareUnsigned_c 7 = .ok (.iadd, 1) := by decide +kernel
theorem qm_JI_compareUnsigned_8 : decode qm_JI_compareUnsigned_c 8 = .ok (.invokestatic 259, 3) := by decide +kernel
theorem qm_JI_compareUnsigned_11 : decode qm_JI_compareUnsigned_c 11 = .ok (.ireturn, 1) := by decide +kernel
set_option maxHeartbeats 4000000 in
set_option maxRecDepth 100000 in
theorem wJI_compare_19 {l : Launch} {D : va_G} {h : Nat → Nat} {K : Nat → ClassId} {res : Int32 × qS} {p : Program} {e : Env} {s : State} {m : MethodId} {args : Array Value} {below : List Frame} {meth : Method} {c : Code} {A : Nat → Prop} {ad : Nat → Nat} (C : qC p s m args meth c qm_JI_compare_c 2 (some .int) "java/lang/Integer" ad) (S : qS) (y0 : Int32) (hf : fJI_compare_19 S y0 = some res) : ∀ (H : Heap) (locs : List Loc) (ls : Array Slot), qG D qCl (cT K) A s (cW h K S) H locs → lv_has ls 2 [] → W p l e ({ frames := 0, cells := 0, slots := 0, locals := 0 }) s m args below meth c H locs 0 0 (MQ below (qQi D qCl (cT K) (cW h K) A res) args s 0 0 A) (F0 m 19 ls [.int y0]) := by
  intro H locs ls G hl
  unfold fJI_compare_19 at hf
  exact q_iret (wf := (cW h K)) C G hf qm_JI_compare_19
set_option maxHeartbeats 4000000 in
set_option maxRecDepth 100000 in
theorem wJI_compare {l : Launch} {D : va_G} {h : Nat → Nat} {K : Nat → ClassId} {res : Int32 × qS} {p : Program} {e : Env} {s : State} {m : MethodId} {args : Array Value} {below : List Frame} {meth : Method} {c : Code} {A : Nat → Prop} {ad : Nat → Nat} (C : qC p s m args meth c qm_JI_compare_c 2 (some .int) "java/lang/Integer" ad) (S : qS) (a0 : Int32) (a1 : Int32) (hf : fJI_compare S a0 a1 = some res) : ∀ (H : Heap) (locs : List Loc) (ls : Array Slot), qG D qCl (cT K) A s (cW h K S) H locs → lv_has ls 2 [(0, .int a0), (1, .int a1)] → W p l e ({ frames := 0, cells := 0, slots := 0, locals := 0 }) s m args below meth c H locs 0 0 (MQ below (qQi D qCl (cT K) (cW h K) A res) args s 0 0 A) (F0 m 0 ls []) := by
  intro H locs ls G hl
  unfold fJI_compare at hf
  refine lv_iload_n C.1 C.2.1 qm_JI_compare_0 rfl (lv_at hl 0 rfl) ?_
  refine lv_iload_n C.1 C.2.1 qm_JI_compare_1 rfl (lv_at hl 1 rfl) ?_
  refine lv_icmp_ge (tgt := 9) C.1 C.2.1 qm_JI_compare_2 (by decide) (fun b1 => ?_) (fun b1 => ?_)
  · have hf := if_t b1 hf
    refine lv_iload_n C.1 C.2.1 qm_JI_compare_9 rfl (lv_at hl 0 rfl) ?_
    refine lv_iload_n C.1 C.2.1 qm_JI_compare_10 rfl (lv_at hl 1 rfl) ?_
    refine lv_icmp_ne (tgt := 18) C.1 C.2.1 qm_JI_compare_11 (by decide) (fun b2 => ?_) (fun b2 => ?_)
    · have hf := if_t b2 hf
      refine lv_iconst (v := 1) C.1 C.2.1 qm_JI_compare_18 (by decide) ?_
      exact wJI_compare_19 C S 1 hf _ _ _ G (lv_sub hl [] rfl)
    · have hf := if_f (not_not_intro b2) hf
      refine lv_iconst (v := 0) C.1 C.2.1 qm_JI_compare_14 (by decide) ?_
      refine lv_goto (tgt := 19) C.1 C.2.1 qm_JI_compare_15 (by decide) ?_
      exact wJI_compare_19 C S 0 hf _ _ _ G (lv_sub hl [] rfl)
  · have hf := if_f b1 hf
    refine lv_iconst (v := (-1)) C.1 C.2.1 qm_JI_compare_5 (by decide) ?_
    refine lv_goto (tgt := 19) C.1 C.2.1 qm_JI_compare_6 (by decide) ?_
    exact wJI_compare_19 C S (-1) hf _ _ _ G (lv_sub hl [] rfl)
theorem kJI_compare {l : Launch} {ad : Nat → Nat} {D : va_G} {h : Nat → Nat} {K : Nat → ClassId} {res : Int32 × qS} {S : qS} {a0 : Int32} {a1 : Int32} (hf : fJI_compare S a0 a1 = some res) : qMi l qm_JI_compare qm_JI_compare_c 2 .int 0 0 D qCl (cT K) ad (cW h K) [.int a0, .int a1] S res := qMi_of (by decide) (Nat.le_of_ble_eq_true rfl) (fun _ _ _ _ _ _ _ _ _ _ C G hl => wJI_compare C S a0 a1 hf _ _ _ G hl)
set_option maxHeartbeats 4000000 in
set_option maxRecDepth 100000 in
theorem wJI_compareUnsigned {l : Launch} {D : va_G} {h : Nat → Nat} {K : Nat → ClassId} {res : Int32 × qS} {p : Program} {e : Env} {s : State} {m : MethodId} {args : Array Value} {below : List Frame} {meth : Method} {c : Code} {A : Nat → Prop} {ad : Nat → Nat} (C : qC p s m args meth c qm_JI_compareUnsigned_c 2 (some .int) "java/lang/Integer" ad) (S : qS) (a0 : Int32) (a1 : Int32) (hf : fJI_compareUnsigned S a0 a1 = some res) : ∀ (H : Heap) (locs : List Loc) (ls : Array Slot), qG D qCl (cT K) A s (cW h K S) H locs → lv_has ls 2 [(0, .int a0), (1, .int a1)] → W p l e ({ frames := 1, cells := 0, slots := 0, locals := 21 }) s m args below meth c H locs 0 0 (MQ below (qQi D qCl (cT K) (cW h K) A res) args s 0 0 A) (F0 m 0 ls []) := by
  intro H locs ls G hl
  unfold fJI_compareUnsigned at hf
  refine lv_iload_n C.1 C.2.1 qm_JI_compareUnsigned_0 rfl (lv_at hl 0 rfl) ?_
  refine lv_ldc (own := "java/lang/Integer") (v := (-2147483648)) C.1 C.2.1 C.2.2.2.1 (C.2.2.2.2.1 _ qz_744) qm_JI_compareUnsigned_1 ?_
  refine lv_iadd C.1 C.2.1 qm_JI_compareUnsigned_3 ?_
  refine lv_iload_n C.1 C.2.1 qm_JI_compareUnsigned_4 rfl (lv_at hl 1 rfl) ?_
  refine lv_ldc (own := "java/lang/Integer") (v := (-2147483648)) C.1 C.2.1 C.2.2.2.1 (C.2.2.2.2.1 _ qz_744) qm_JI_compareUnsigned_5 ?_
  refine lv_iadd C.1 C.2.1 qm_JI_compareUnsigned_7 ?_
  obtain ⟨q1, c1, hf⟩ := bnd_s hf
  refine q_callSi (wf := (cW h K)) (n := 2) (As := [.int (a0 + (-2147483648)), .int (a1 + (-2147483648))]) C G hl.1 (kJI_compare (l := l) c1) qx_JI_259 qm_JI_compare_d ⟨by decide, by decide⟩ ⟨Nat.le_refl _, Nat.le_refl _⟩ rfl rfl (Nat.le_of_ble_eq_true rfl) qm_JI_compareUnsigned_8 (fun H locs G => ?_)
  exact q_iret (wf := (cW h K)) C G hf qm_JI_compareUnsigned_11
theorem kJI_compareUnsigned {l : Launch} {ad : Nat → Nat} {D : va_G} {h : Nat → Nat} {K : Nat → ClassId} {res : Int32 × qS} {S : qS} {a0 : Int32} {a1 : Int32} (hf : fJI_compareUnsigned S a0 a1 = some res) : qMi l qm_JI_compareUnsigned qm_JI_compareUnsigned_c 2 .int 1 21 D qCl (cT K) ad (cW h K) [.int a0, .int a1] S res := qMi_of (by decide) (Nat.le_of_ble_eq_true rfl) (fun _ _ _ _ _ _ _ _ _ _ C G hl => wJI_compareUnsigned C S a0 a1 hf _ _ _ G hl)
