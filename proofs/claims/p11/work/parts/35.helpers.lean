/-! The law's helpers. -/
def oE (ho : Nat) (ko : ClassId) (fo : Nat → Int64) : va_W := [(ho, .inl (ko, 1, .inr (.inl fo)))]
abbrev qH : Type := qS × (Nat → Int64)
def qNc (U : State) : Prop := va_Nc "java/lang/IllegalStateException" "java/lang/IllegalArgumentException" U
def hW (h : Nat → Nat) (K : Nat → ClassId) (ho : Nat) (ko : ClassId) (u : qH) : va_W := oE ho ko u.2 ++ cW h K u.1
def hT (K : Nat → ClassId) (ko : ClassId) : List (ClassId × FieldType) := [(ko, .long)] ++ cT K
def qPh (D : va_G) (ad av : Nat → Nat) (h : Nat → Nat) (K : Nat → ClassId) (ho : Nat) (ko : ClassId) (u : qH) (sz : Nat) (U : State) : Prop :=
  qP D qCl (hT K ko) ad (hW h K ho ko u) sz U ∧ qZ ad av (va_A (hW h K ho ko u) sz) U U.heap ∧ qT (va_A (hW h K ho ko u) sz) U U.heap ∧ qNc U
def qQh (D : va_G) (h : Nat → Nat) (K : Nat → ClassId) (ho : Nat) (ko : ClassId) (A : Nat → Prop) (res : Int32 × qH) : Array Value → State → Outcome → State → Prop :=
  va_Qi (fun (r : Int32) (v : qH) => (r, v) = res) (fun v t => va_P D qCl (hW h K ho ko v) t.heap ∧ va_K D qCl (hT K ko) t ∧ va_D A (hW h K ho ko v)) A
def qMh (l : Launch) (y : MethodName) (cc : ByteArray) (nL : Nat) (hh : List (Nat × Nat × Nat × Nat)) (fr lo : Nat) (D : va_G) (ad av : Nat → Nat) (h : Nat → Nat) (K : Nat → ClassId) (ho : Nat) (ko : ClassId) (avs : List Value) (u : qH) (res : Int32 × qH) : Prop :=
  ∀ sz : Nat, Met l y (.codeWith y cc nL (some .int) hh :: qw) ({ frames := fr, cells := 1, slots := 6, locals := lo }) (va_Pc avs (qPh D ad av h K ho ko u sz)) (qQh D h K ho ko (va_A (hW h K ho ko u) sz) res) 1 6 (va_A (hW h K ho ko u) sz)
theorem qMh_of {l : Launch} {y : MethodName} {cc : ByteArray} {nL fr lo : Nat} {hh : List (Nat × Nat × Nat × Nat)} {D : va_G} {ad av : Nat → Nat} {h : Nat → Nat} {K : Nat → ClassId} {ho : Nat} {ko : ClassId} {avs : List Value} {u : qH} {res : Int32 × qH} (hy : plainName y.cls = true) (hn : (lg_sl avs).length ≤ nL)
    (hbody : ∀ (p : Program) (e : Env) (s : State) (m : MethodId) (args : Array Value) (below : List Frame) (meth : Method) (c : Code) (A : Nat → Prop) (ls : Array Slot), CallFix p m c cc nL s args qw y.cls → meth.sig.returnType = some .int → meth.locks = false → c.exceptionTable.toList = tableOf hh → qN ad s → qZ ad av A s s.heap → qT A s s.heap → qNc s → qG D qCl (hT K ko) A s (hW h K ho ko u) s.heap [] → lv_has ls nL (lv_args 0 avs) →
      W p l e ({ frames := fr, cells := 1, slots := 6, locals := lo }) s m args below meth c s.heap [] 0 0 (MQ below (qQh D h K ho ko A res) args s 1 6 A) (F0 m 0 ls [])) : qMh l y cc nL hh fr lo D ad av h K ho ko avs u res := by
  intro sz
  refine va_MetW (cc := cc) (maxL := nL) (ret := some .int) (hh := hh) hy rfl ?_
  intro p e s m args below meth c s₁ B hml hv
  obtain ⟨rfl, ⟨hsz, hP, hK, hD0, hN⟩, hZ, hT9, hNc⟩ := hv
  have hts := atoms_spec (ws := .codeWith y cc nL (some .int) hh :: qw) B.pre
  have hown : s.vm.findClass y.cls = some m.cls := findClass_of_methodNamed B.named
  have htab : c.exceptionTable.toList = tableOf hh := vx_table (x := y) B (hts _ List.mem_cons_self)
  subst hsz
  have hl := lv_entry avs (n := nL) hn
  rw [lg_entry_eq]
  exact hbody p e s m avs.toArray below meth c _ _ ⟨B.exec, B.bytes, hml, hown, fun w hw => hts w (List.mem_cons_of_mem _ hw)⟩ B.returns B.notSynchronized htab hN hZ hT9 hNc ⟨hK, hP, hD0.self, va_S.rf, fun q h => Or.inr h⟩ hl
theorem q_hret {p : Program} {l : Launch} {e : Env} {R : Room} {s : State} {m : MethodId} {args : Array Value} {below : List Frame} {meth : Method} {c : Code} {H : Heap} {locs : List Loc} {cc : ByteArray} {nL : Nat} {own : String} {D : va_G} {h : Nat → Nat} {K : Nat → ClassId} {ho : Nat} {ko : ClassId} {A : Nat → Prop} {u : qH} {v : Int32} {pc : Nat} {ls : Array Slot} {cells slots : Nat} (C : CallFix p m c cc nL s args qw own) (hr : meth.sig.returnType = some .int) (hlocks : meth.locks = false) (G : qG D qCl (hT K ko) A s (hW h K ho ko u) H locs) (hdg : decode cc pc = .ok (.ireturn, 1)) : W p l e R s m args below meth c H locs cells slots (MQ below (qQh D h K ho ko A (v, u)) args s cells slots A) (F0 m pc ls [.int v]) := by
  obtain ⟨hK, hP, hD, hS, hA⟩ := G
  exact W.iret (v := v) C.1 C.2.1 hr (fun t ht hW => ⟨⟨v, u, rfl, rfl, by rw [ht]; exact hP, va_K.moved hW.alike hK, hD⟩, hS.F ht⟩) hS.2.2 hdg
theorem qv_0 : Cond.methodLink "QuadModeLaw" 7 qm_X_set ∈ qw := qw_in 293 (by decide +kernel) (by decide +kernel)
theorem qv_1 : Cond.instanceMethod qm_X_set ∈ qw := qw_in 294 (by decide +kernel) (by decide +kernel)
theorem qv_2 : Cond.selects "QuadMode" qm_X_set qm_X_set ∈ qw := qw_in 295 (by decide +kernel) (by decide +kernel)
theorem qv_3 : Cond.initialized "QuadMode" ∈ qw := qw_in 63 (by decide +kernel) (by decide +kernel)
theorem qv_4 : Cond.code qm_X_set qm_X_set_c 3 none ∈ qw := qw_in 296 (by decide +kernel) (by decide +kernel)
theorem qv_5 : Cond.classLink "QuadModeLaw" 13 "java/lang/IndexOutOfBoundsException" ∈ qw := qw_in 292 (by decide +kernel) (by decide +kernel)
theorem qv_6 : Cond.methodLink "QuadModeLaw" 15 qm_X_register ∈ qw := qw_in 375 (by decide +kernel) (by decide +kernel)
theorem qv_7 : Cond.instanceMethod qm_X_register ∈ qw := qw_in 376 (by decide +kernel) (by decide +kernel)
theorem qv_8 : Cond.selects "QuadMode" qm_X_register qm_X_register ∈ qw := qw_in 377 (by decide +kernel) (by decide +kernel)
theorem qv_9 : Cond.code qm_X_register qm_X_register_c 2 (some .int) ∈ qw := qw_in 378 (by decide +kernel) (by decide +kernel)
theorem qv_10 : Cond.methodLink "QuadModeLaw" 19 qm_X_setInner ∈ qw := qw_in 386 (by decide +kernel) (by decide +kernel)
theorem qv_11 : Cond.instanceMethod qm_X_setInner ∈ qw := qw_in 387 (by decide +kernel) (by decide +kernel)
theorem qv_12 : Cond.selects "QuadMode" qm_X_setInner qm_X_setInner ∈ qw := qw_in 388 (by decide +kernel) (by decide +kernel)
theorem qv_13 : Cond.code qm_X_setInner qm_X_setInner_c 3 none ∈ qw := qw_in 389 (by decide +kernel) (by decide +kernel)
theorem qv_14 : Cond.methodLink "QuadModeLaw" 22 qm_X_inner ∈ qw := qw_in 403 (by decide +kernel) (by decide +kernel)
theorem qv_15 : Cond.instanceMethod qm_X_inner ∈ qw := qw_in 404 (by decide +kernel) (by decide +kernel)
theorem qv_16 : Cond.selects "QuadMode" qm_X_inner qm_X_inner ∈ qw := qw_in 405 (by decide +kernel) (by decide +kernel)
theorem qv_17 : Cond.code qm_X_inner qm_X_inner_c 2 (some .int) ∈ qw := qw_in 406 (by decide +kernel) (by decide +kernel)
theorem qv_18 : Cond.methodLink "QuadModeLaw" 25 qm_X_begin ∈ qw := qw_in 415 (by decide +kernel) (by decide +kernel)
theorem qv_19 : Cond.instanceMethod qm_X_begin ∈ qw := qw_in 416 (by decide +kernel) (by decide +kernel)
theorem qv_20 : Cond.selects "QuadMode" qm_X_begin qm_X_begin ∈ qw := qw_in 417 (by decide +kernel) (by decide +kernel)
theorem qv_21 : Cond.code qm_X_begin qm_X_begin_c 2 none ∈ qw := qw_in 418 (by decide +kernel) (by decide +kernel)
theorem qv_22 : Cond.classLink "QuadModeLaw" 29 "java/lang/IllegalArgumentException" ∈ qw := qw_in 414 (by decide +kernel) (by decide +kernel)
theorem qv_23 : Cond.methodLink "QuadModeLaw" 31 qm_X_run ∈ qw := qw_in 440 (by decide +kernel) (by decide +kernel)
theorem qv_24 : Cond.instanceMethod qm_X_run ∈ qw := qw_in 441 (by decide +kernel) (by decide +kernel)
theorem qv_25 : Cond.selects "QuadMode" qm_X_run qm_X_run ∈ qw := qw_in 442 (by decide +kernel) (by decide +kernel)
theorem qv_26 : Cond.code qm_X_run qm_X_run_c 3 (some .int) ∈ qw := qw_in 443 (by decide +kernel) (by decide +kernel)
theorem qv_27 : Cond.classLink "QuadModeLaw" 34 "java/lang/IllegalStateException" ∈ qw := qw_in 439 (by decide +kernel) (by decide +kernel)
theorem qv_28 : Cond.methodLink "QuadModeLaw" 36 qm_X_reach ∈ qw := qw_in 819 (by decide +kernel) (by decide +kernel)
theorem qv_29 : Cond.instanceMethod qm_X_reach ∈ qw := qw_in 820 (by decide +kernel) (by decide +kernel)
theorem qv_30 : Cond.selects "QuadMode" qm_X_reach qm_X_reach ∈ qw := qw_in 821 (by decide +kernel) (by decide +kernel)
theorem qv_31 : Cond.code qm_X_reach qm_X_reach_c 4 (some .int) ∈ qw := qw_in 822 (by decide +kernel) (by decide +kernel)
abbrev qm_L_set_c : ByteArray := method_3_code
def qm_L_set : MethodName := ⟨"QuadModeLaw", "set", "(LQuadMode;II)I"⟩
theorem qm_L_set_d : qm_L_set.cls ≠ "java/lang/invoke/MethodHandle" ∧ qm_L_set.cls ≠ "java/lang/invoke/VarHandle" ∧ (parseMethodDescriptor qm_L_set.desc).map (fun d => d.parameters.length) = some 3 := by decide +kernel
def qm_L_set_h : List (Nat × Nat × Nat × Nat) := [(0, 6, 9, 13)]
theorem qm_L_set_w : Cond.codeWith qm_L_set qm_L_set_c 4 (some .int) qm_L_set_h ∈ qw := qw_in 291 (by decide +kernel) (by decide +kernel)
theorem qm_L_set_0 : decode qm_L_set_c 0 = .ok (.aload_n 0, 1) := by decide +kernel
theorem qm_L_set_1 : decode qm_L_set_c 1 = .ok (.iload_n 1, 1) := by decide +kernel
theorem qm_L_set_2 : decode qm_L_set_c 2 = .ok (.iload_n 2, 1) := by decide +kernel
theorem qm_L_set_3 : decode qm_L_set_c 3 = .ok (.invokevirtual 7, 3) := by decide +kernel
theorem qm_L_set_6 : decode qm_L_set_c 6 = .ok (.goto 6, 3) := by decide +kernel
theorem qm_L_set_9 : decode qm_L_set_c 9 = .ok (.astore_n 3, 1) := by decide +kernel
theorem qm_L_set_10 : decode qm_L_set_c 10 = .ok (.iconst 1, 1) := by decide +kernel
theorem qm_L_set_11 : decode qm_L_set_c 11 = .ok (.ireturn, 1) := by decide +kernel
theorem qm_L_set_12 : decode qm_L_set_c 12 = .ok (.iconst 0, 1) := by decide +kernel
theorem qm_L_set_13 : decode qm_L_set_c 13 = .ok (.ireturn, 1) := by decide +kernel
set_option maxHeartbeats 4000000 in
set_option maxRecDepth 100000 in
theorem hL_set {l : Launch} {D : va_G} {ad av : Nat → Nat} {h : Nat → Nat} {K : Nat → ClassId} {ho : Nat} {ko : ClassId} {S : qS} {fo : Nat → Int64} {a1 a2 : Int32} {r : Int32} {u : qH} (hl0 : l.stackTraces = false) (hf : (fX_set S a1 a2 = some u.1 ∧ u.2 = fo ∧ r = 0) ∨ (gX_set S a1 a2 = some (0, u.1) ∧ u.2 = fo ∧ r = 1)) : qMh l qm_L_set qm_L_set_c 4 qm_L_set_h 7 112 D ad av h K ho ko [.ref (h 0), .int a1, .int a2] (S, fo) (r, u) := by
  refine qMh_of (by decide) (Nat.le_of_ble_eq_true rfl) ?_
  intro p e s m args below meth c A ls C hr hlocks htab hN hZ hT9 hNc G hl
  have hl : lv_has ls 4 [(0, .ref (h 0)), (1, .int a1), (2, .int a2)] := hl
  have G : qG D qCl ([(ko, .long)] ++ cT K) A s (oE ho ko fo ++ cW h K S) s.heap [] := G
  obtain ⟨u1, u2⟩ := u
  rcases hf with ⟨hf, h2, rfl⟩ | ⟨hf, h2, rfl⟩
  · dsimp only at hf h2
    subst u2
    refine W.widen (k := 1) (n := 6) (by decide) (by decide) ?_
    refine lv_aload_n C.1 C.2.1 qm_L_set_0 rfl (lv_at hl 0 rfl) ?_
    refine lv_iload_n C.1 C.2.1 qm_L_set_1 rfl (lv_at hl 1 rfl) ?_
    refine lv_iload_n C.1 C.2.1 qm_L_set_2 rfl (lv_at hl 2 rfl) ?_
    refine q_fVv (wf := cW h K) (tr := [(ko, .long)]) (r := oE ho ko fo) (n := 2) (As := [.int a1, .int a2]) (rest := []) (q0 := 0) (ci := 6) C hN G hl.1 (kX_set (l := l) hf) ⟨qv_0, qv_1, qv_2, qv_3, qv_4⟩ qm_X_set_d ⟨by decide, by decide⟩ ⟨by decide, by decide⟩ rfl rfl rfl rfl rfl (Nat.le_of_ble_eq_true rfl) qm_L_set_3 (fun H locs G => ?_)
    refine lv_goto (tgt := 12) C.1 C.2.1 qm_L_set_6 (by decide) ?_
    refine lv_iconst (v := 0) C.1 C.2.1 qm_L_set_12 (by decide) ?_
    exact q_hret (u := (u1, fo)) C hr hlocks G qm_L_set_13
  · dsimp only at hf h2
    subst u2
    refine lv_aload_n C.1 C.2.1 qm_L_set_0 rfl (lv_at hl 0 rfl) ?_
    refine lv_iload_n C.1 C.2.1 qm_L_set_1 rfl (lv_at hl 1 rfl) ?_
    refine lv_iload_n C.1 C.2.1 qm_L_set_2 rfl (lv_at hl 2 rfl) ?_
    refine q_fVt (wf := cW h K) (tr := [(ko, .long)]) (r := oE ho ko fo) (n := 2) (As := [.int a1, .int a2]) (rest := []) (q0 := 0) (ci := 6) C hN hT9 G hl.1 (tX_set (l := l) hl0 hf) ⟨qv_0, qv_1, qv_2, qv_3, qv_4⟩ qm_X_set_d ⟨by decide, by decide⟩ ⟨by decide, by decide⟩ rfl rfl rfl rfl rfl (Nat.le_of_ble_eq_true rfl) qm_L_set_3 (fun ce q9 H locs G hce hcv hcl => ?_)
    refine vx_catch (own := "QuadModeLaw") (name := "java/lang/IndexOutOfBoundsException") (E := "java/lang/IndexOutOfBoundsException") C.2.2.2.1 [] ⟨0, 6, 9, 13⟩ [] htab (fun z hz => by cases hz) (by decide) (by decide) (C.2.2.2.2 _ qv_5) (va_Nw.use rfl (hT9.1 _ (by decide +kernel))) hce hcv hcl ?_
    refine lv_astore_n (lv' := [(3, .ref q9), (0, .ref (h 0)), (1, .int a1), (2, .int a2)]) C.1 C.2.1 qm_L_set_9 rfl hl (by decide) rfl (fun ls hl => ?_)
    refine lv_iconst (v := 1) C.1 C.2.1 qm_L_set_10 (by decide) ?_
    exact q_hret (u := (u1, fo)) C hr hlocks G qm_L_set_11
abbrev qm_L_register_c : ByteArray := method_4_code
def qm_L_register : MethodName := ⟨"QuadModeLaw", "register", "(LQuadMode;I[J)I"⟩
theorem qm_L_register_d : qm_L_register.cls ≠ "java/lang/invoke/MethodHandle" ∧ qm_L_register.cls ≠ "java/lang/invoke/VarHandle" ∧ (parseMethodDescriptor qm_L_register.desc).map (fun d => d.parameters.length) = some 3 := by decide +kernel
def qm_L_register_h : List (Nat × Nat × Nat × Nat) := [(0, 9, 12, 13)]
theorem qm_L_register_w : Cond.codeWith qm_L_register qm_L_register_c 4 (some .int) qm_L_register_h ∈ qw := qw_in 374 (by decide +kernel) (by decide +kernel)
theorem qm_L_register_0 : decode qm_L_register_c 0 = .ok (.aload_n 2, 1) := by decide +kernel
theorem qm_L_register_1 : decode qm_L_register_c 1 = .ok (.iconst 0, 1) := by decide +kernel
theorem qm_L_register_2 : decode qm_L_register_c 2 = .ok (.aload_n 0, 1) := by decide +kernel
theorem qm_L_register_3 : decode qm_L_register_c 3 = .ok (.iload_n 1, 1) := by decide +kernel
theorem qm_L_register_4 : decode qm_L_register_c 4 = .ok (.invokevirtual 15, 3) := by decide +kernel
theorem qm_L_register_7 : decode qm_L_register_c 7 = .ok (.i2l, 1) := by decide +kernel
theorem qm_L_register_8 : decode qm_L_register_c 8 = .ok (.lastore, 1) := by decide +kernel
theorem qm_L_register_9 : decode qm_L_register_c 9 = .ok (.goto 6, 3) := by decide +kernel
theorem qm_L_register_12 : decode qm_L_register_c 12 = .ok (.astore_n 3, 1) := by decide +kernel
theorem qm_L_register_13 : decode qm_L_register_c 13 = .ok (.iconst 1, 1) := by decide +kernel
theorem qm_L_register_14 : decode qm_L_register_c 14 = .ok (.ireturn, 1) := by decide +kernel
theorem qm_L_register_15 : decode qm_L_register_c 15 = .ok (.iconst 0, 1) := by decide +kernel
theorem qm_L_register_16 : decode qm_L_register_c 16 = .ok (.ireturn, 1) := by decide +kernel
set_option maxHeartbeats 4000000 in
set_option maxRecDepth 100000 in
theorem hL_register {l : Launch} {D : va_G} {ad av : Nat → Nat} {h : Nat → Nat} {K : Nat → ClassId} {ho : Nat} {ko : ClassId} {S : qS} {fo : Nat → Int64} {a1 : Int32} {r : Int32} {u : qH} (hl0 : l.stackTraces = false) (hf : (∃ rr : Int32, fX_register S a1 = some (rr, u.1) ∧ u.2 = vp_updL fo 0 rr.toInt64 ∧ r = 0) ∨ (gX_register S a1 = some (0, u.1) ∧ u.2 = fo ∧ r = 1)) : qMh l qm_L_register qm_L_register_c 4 qm_L_register_h 7 111 D ad av h K ho ko [.ref (h 0), .int a1, .ref ho] (S, fo) (r, u) := by
  refine qMh_of (by decide) (Nat.le_of_ble_eq_true rfl) ?_
  intro p e s m args below meth c A ls C hr hlocks htab hN hZ hT9 hNc G hl
  have hl : lv_has ls 4 [(0, .ref (h 0)), (1, .int a1), (2, .ref ho)] := hl
  have G : qG D qCl ([(ko, .long)] ++ cT K) A s (oE ho ko fo ++ cW h K S) s.heap [] := G
  obtain ⟨u1, u2⟩ := u
  rcases hf with ⟨rr, hf, h2, rfl⟩ | ⟨hf, h2, rfl⟩
  · dsimp only at hf h2
    subst u2
    refine W.widen (k := 1) (n := 6) (by decide) (by decide) ?_
    refine lv_aload_n C.1 C.2.1 qm_L_register_0 rfl (lv_at hl 2 rfl) ?_
    refine lv_iconst (v := 0) C.1 C.2.1 qm_L_register_1 (by decide) ?_
    refine lv_aload_n C.1 C.2.1 qm_L_register_2 rfl (lv_at hl 0 rfl) ?_
    refine lv_iload_n C.1 C.2.1 qm_L_register_3 rfl (lv_at hl 1 rfl) ?_
    refine q_fVi (wf := cW h K) (tr := [(ko, .long)]) (r := oE ho ko fo) (n := 1) (As := [.int a1]) (rest := [.int 0, .ref ho]) (q0 := 0) (ci := 6) C hN G hl.1 (kX_register (l := l) hf) ⟨qv_6, qv_7, qv_8, qv_3, qv_9⟩ qm_X_register_d ⟨by decide, by decide⟩ ⟨by decide, by decide⟩ rfl rfl rfl rfl rfl (Nat.le_of_ble_eq_true rfl) qm_L_register_4 (fun H locs G => ?_)
    refine lv_i2l (v := rr.toInt64) C.1 C.2.1 qm_L_register_7 rfl ?_
    obtain ⟨hK, hP, hD, hS, hA⟩ := G
    refine va_last C.1 C.2.1 hK hP hD hS 0 0 rfl rfl (vp_in_iff.mpr (by decide)) qm_L_register_8 (fun H locs hP hD hS => ?_)
    have G : qG D qCl (hT K ko) A s (hW h K ho ko (u1, vp_updL fo 0 rr.toInt64)) H locs := ⟨hK, hP, hD, hS, hA⟩
    refine lv_goto (tgt := 15) C.1 C.2.1 qm_L_register_9 (by decide) ?_
    refine lv_iconst (v := 0) C.1 C.2.1 qm_L_register_15 (by decide) ?_
    exact q_hret (u := (u1, vp_updL fo 0 rr.toInt64)) C hr hlocks G qm_L_register_16
  · dsimp only at hf h2
    subst u2
    refine lv_aload_n C.1 C.2.1 qm_L_register_0 rfl (lv_at hl 2 rfl) ?_
    refine lv_iconst (v := 0) C.1 C.2.1 qm_L_register_1 (by decide) ?_
    refine lv_aload_n C.1 C.2.1 qm_L_register_2 rfl (lv_at hl 0 rfl) ?_
    refine lv_iload_n C.1 C.2.1 qm_L_register_3 rfl (lv_at hl 1 rfl) ?_
    refine q_fVt (wf := cW h K) (tr := [(ko, .long)]) (r := oE ho ko fo) (n := 1) (As := [.int a1]) (rest := [.int 0, .ref ho]) (q0 := 0) (ci := 6) C hN hT9 G hl.1 (tX_register (l := l) hl0 hf) ⟨qv_6, qv_7, qv_8, qv_3, qv_9⟩ qm_X_register_d ⟨by decide, by decide⟩ ⟨by decide, by decide⟩ rfl rfl rfl rfl rfl (Nat.le_of_ble_eq_true rfl) qm_L_register_4 (fun ce q9 H locs G hce hcv hcl => ?_)
    refine vx_catch (own := "QuadModeLaw") (name := "java/lang/IndexOutOfBoundsException") (E := "java/lang/IndexOutOfBoundsException") C.2.2.2.1 [] ⟨0, 9, 12, 13⟩ [] htab (fun z hz => by cases hz) (by decide) (by decide) (C.2.2.2.2 _ qv_5) (va_Nw.use rfl (hT9.1 _ (by decide +kernel))) hce hcv hcl ?_
    refine lv_astore_n (lv' := [(3, .ref q9), (0, .ref (h 0)), (1, .int a1), (2, .ref ho)]) C.1 C.2.1 qm_L_register_12 rfl hl (by decide) rfl (fun ls hl => ?_)
    refine lv_iconst (v := 1) C.1 C.2.1 qm_L_register_13 (by decide) ?_
    exact q_hret (u := (u1, fo)) C hr hlocks G qm_L_register_14
abbrev qm_L_setInner_c : ByteArray := method_5_code
def qm_L_setInner : MethodName := ⟨"QuadModeLaw", "setInner", "(LQuadMode;II)I"⟩
theorem qm_L_setInner_d : qm_L_setInner.cls ≠ "java/lang/invoke/MethodHandle" ∧ qm_L_setInner.cls ≠ "java/lang/invoke/VarHandle" ∧ (parseMethodDescriptor qm_L_setInner.desc).map (fun d => d.parameters.length) = some 3 := by decide +kernel
def qm_L_setInner_h : List (Nat × Nat × Nat × Nat) := [(0, 6, 9, 13)]
theorem qm_L_setInner_w : Cond.codeWith qm_L_setInner qm_L_setInner_c 4 (some .int) qm_L_setInner_h ∈ qw := qw_in 385 (by decide +kernel) (by decide +kernel)
theorem qm_L_setInner_0 : decode qm_L_setInner_c 0 = .ok (.aload_n 0, 1) := by decide +kernel
theorem qm_L_setInner_1 : decode qm_L_setInner_c 1 = .ok (.iload_n 1, 1) := by decide +kernel
theorem qm_L_setInner_2 : decode qm_L_setInner_c 2 = .ok (.iload_n 2, 1) := by decide +kernel
theorem qm_L_setInner_3 : decode qm_L_setInner_c 3 = .ok (.invokevirtual 19, 3) := by decide +kernel
theorem qm_L_setInner_6 : decode qm_L_setInner_c 6 = .ok (.goto 6, 3) := by decide +kernel
theorem qm_L_setInner_9 : decode qm_L_setInner_c 9 = .ok (.astore_n 3, 1) := by decide +kernel
theorem qm_L_setInner_10 : decode qm_L_setInner_c 10 = .ok (.iconst 1, 1) := by decide +kernel
theorem qm_L_setInner_11 : decode qm_L_setInner_c 11 = .ok (.ireturn, 1) := by decide +kernel
theorem qm_L_setInner_12 : decode qm_L_setInner_c 12 = .ok (.iconst 0, 1) := by decide +kernel
theorem qm_L_setInner_13 : decode qm_L_setInner_c 13 = .ok (.ireturn, 1) := by decide +kernel
set_option maxHeartbeats 4000000 in
set_option maxRecDepth 100000 in
theorem hL_setInner {l : Launch} {D : va_G} {ad av : Nat → Nat} {h : Nat → Nat} {K : Nat → ClassId} {ho : Nat} {ko : ClassId} {S : qS} {fo : Nat → Int64} {a1 a2 : Int32} {r : Int32} {u : qH} (hl0 : l.stackTraces = false) (hf : (fX_setInner S a1 a2 = some u.1 ∧ u.2 = fo ∧ r = 0) ∨ (gX_setInner S a1 a2 = some (0, u.1) ∧ u.2 = fo ∧ r = 1)) : qMh l qm_L_setInner qm_L_setInner_c 4 qm_L_setInner_h 7 112 D ad av h K ho ko [.ref (h 0), .int a1, .int a2] (S, fo) (r, u) := by
  refine qMh_of (by decide) (Nat.le_of_ble_eq_true rfl) ?_
  intro p e s m args below meth c A ls C hr hlocks htab hN hZ hT9 hNc G hl
  have hl : lv_has ls 4 [(0, .ref (h 0)), (1, .int a1), (2, .int a2)] := hl
  have G : qG D qCl ([(ko, .long)] ++ cT K) A s (oE ho ko fo ++ cW h K S) s.heap [] := G
  obtain ⟨u1, u2⟩ := u
  rcases hf with ⟨hf, h2, rfl⟩ | ⟨hf, h2, rfl⟩
  · dsimp only at hf h2
    subst u2
    refine W.widen (k := 1) (n := 6) (by decide) (by decide) ?_
    refine lv_aload_n C.1 C.2.1 qm_L_setInner_0 rfl (lv_at hl 0 rfl) ?_
    refine lv_iload_n C.1 C.2.1 qm_L_setInner_1 rfl (lv_at hl 1 rfl) ?_
    refine lv_iload_n C.1 C.2.1 qm_L_setInner_2 rfl (lv_at hl 2 rfl) ?_
    refine q_fVv (wf := cW h K) (tr := [(ko, .long)]) (r := oE ho ko fo) (n := 2) (As := [.int a1, .int a2]) (rest := []) (q0 := 0) (ci := 6) C hN G hl.1 (kX_setInner (l := l) hf) ⟨qv_10, qv_11, qv_12, qv_3, qv_13⟩ qm_X_setInner_d ⟨by decide, by decide⟩ ⟨by decide, by decide⟩ rfl rfl rfl rfl rfl (Nat.le_of_ble_eq_true rfl) qm_L_setInner_3 (fun H locs G => ?_)
    refine lv_goto (tgt := 12) C.1 C.2.1 qm_L_setInner_6 (by decide) ?_
    refine lv_iconst (v := 0) C.1 C.2.1 qm_L_setInner_12 (by decide) ?_
    exact q_hret (u := (u1, fo)) C hr hlocks G qm_L_setInner_13
  · dsimp only at hf h2
    subst u2
    refine lv_aload_n C.1 C.2.1 qm_L_setInner_0 rfl (lv_at hl 0 rfl) ?_
    refine lv_iload_n C.1 C.2.1 qm_L_setInner_1 rfl (lv_at hl 1 rfl) ?_
    refine lv_iload_n C.1 C.2.1 qm_L_setInner_2 rfl (lv_at hl 2 rfl) ?_
    refine q_fVt (wf := cW h K) (tr := [(ko, .long)]) (r := oE ho ko fo) (n := 2) (As := [.int a1, .int a2]) (rest := []) (q0 := 0) (ci := 6) C hN hT9 G hl.1 (tX_setInner (l := l) hl0 hf) ⟨qv_10, qv_11, qv_12, qv_3, qv_13⟩ qm_X_setInner_d ⟨by decide, by decide⟩ ⟨by decide, by decide⟩ rfl rfl rfl rfl rfl (Nat.le_of_ble_eq_true rfl) qm_L_setInner_3 (fun ce q9 H locs G hce hcv hcl => ?_)
    refine vx_catch (own := "QuadModeLaw") (name := "java/lang/IndexOutOfBoundsException") (E := "java/lang/IndexOutOfBoundsException") C.2.2.2.1 [] ⟨0, 6, 9, 13⟩ [] htab (fun z hz => by cases hz) (by decide) (by decide) (C.2.2.2.2 _ qv_5) (va_Nw.use rfl (hT9.1 _ (by decide +kernel))) hce hcv hcl ?_
    refine lv_astore_n (lv' := [(3, .ref q9), (0, .ref (h 0)), (1, .int a1), (2, .int a2)]) C.1 C.2.1 qm_L_setInner_9 rfl hl (by decide) rfl (fun ls hl => ?_)
    refine lv_iconst (v := 1) C.1 C.2.1 qm_L_setInner_10 (by decide) ?_
    exact q_hret (u := (u1, fo)) C hr hlocks G qm_L_setInner_11
abbrev qm_L_inner_c : ByteArray := method_6_code
def qm_L_inner : MethodName := ⟨"QuadModeLaw", "inner", "(LQuadMode;I[J)I"⟩
theorem qm_L_inner_d : qm_L_inner.cls ≠ "java/lang/invoke/MethodHandle" ∧ qm_L_inner.cls ≠ "java/lang/invoke/VarHandle" ∧ (parseMethodDescriptor qm_L_inner.desc).map (fun d => d.parameters.length) = some 3 := by decide +kernel
def qm_L_inner_h : List (Nat × Nat × Nat × Nat) := [(0, 9, 12, 13)]
theorem qm_L_inner_w : Cond.codeWith qm_L_inner qm_L_inner_c 4 (some .int) qm_L_inner_h ∈ qw := qw_in 402 (by decide +kernel) (by decide +kernel)
theorem qm_L_inner_0 : decode qm_L_inner_c 0 = .ok (.aload_n 2, 1) := by decide +kernel
theorem qm_L_inner_1 : decode qm_L_inner_c 1 = .ok (.iconst 0, 1) := by decide +kernel
theorem qm_L_inner_2 : decode qm_L_inner_c 2 = .ok (.aload_n 0, 1) := by decide +kernel
theorem qm_L_inner_3 : decode qm_L_inner_c 3 = .ok (.iload_n 1, 1) := by decide +kernel
theorem qm_L_inner_4 : decode qm_L_inner_c 4 = .ok (.invokevirtual 22, 3) := by decide +kernel
theorem qm_L_inner_7 : decode qm_L_inner_c 7 = .ok (.i2l, 1) := by decide +kernel
theorem qm_L_inner_8 : decode qm_L_inner_c 8 = .ok (.lastore, 1) := by decide +kernel
theorem qm_L_inner_9 : decode qm_L_inner_c 9 = .ok (.goto 6, 3) := by decide +kernel
theorem qm_L_inner_12 : decode qm_L_inner_c 12 = .ok (.astore_n 3, 1) := by decide +kernel
theorem qm_L_inner_13 : decode qm_L_inner_c 13 = .ok (.iconst 1, 1) := by decide +kernel
theorem qm_L_inner_14 : decode qm_L_inner_c 14 = .ok (.ireturn, 1) := by decide +kernel
theorem qm_L_inner_15 : decode qm_L_inner_c 15 = .ok (.iconst 0, 1) := by decide +kernel
theorem qm_L_inner_16 : decode qm_L_inner_c 16 = .ok (.ireturn, 1) := by decide +kernel
set_option maxHeartbeats 4000000 in
set_option maxRecDepth 100000 in
theorem hL_inner {l : Launch} {D : va_G} {ad av : Nat → Nat} {h : Nat → Nat} {K : Nat → ClassId} {ho : Nat} {ko : ClassId} {S : qS} {fo : Nat → Int64} {a1 : Int32} {r : Int32} {u : qH} (hl0 : l.stackTraces = false) (hf : (∃ rr : Int32, fX_inner S a1 = some (rr, u.1) ∧ u.2 = vp_updL fo 0 rr.toInt64 ∧ r = 0) ∨ (gX_inner S a1 = some (0, u.1) ∧ u.2 = fo ∧ r = 1)) : qMh l qm_L_inner qm_L_inner_c 4 qm_L_inner_h 7 111 D ad av h K ho ko [.ref (h 0), .int a1, .ref ho] (S, fo) (r, u) := by
  refine qMh_of (by decide) (Nat.le_of_ble_eq_true rfl) ?_
  intro p e s m args below meth c A ls C hr hlocks htab hN hZ hT9 hNc G hl
  have hl : lv_has ls 4 [(0, .ref (h 0)), (1, .int a1), (2, .ref ho)] := hl
  have G : qG D qCl ([(ko, .long)] ++ cT K) A s (oE ho ko fo ++ cW h K S) s.heap [] := G
  obtain ⟨u1, u2⟩ := u
  rcases hf with ⟨rr, hf, h2, rfl⟩ | ⟨hf, h2, rfl⟩
  · dsimp only at hf h2
    subst u2
    refine W.widen (k := 1) (n := 6) (by decide) (by decide) ?_
    refine lv_aload_n C.1 C.2.1 qm_L_inner_0 rfl (lv_at hl 2 rfl) ?_
    refine lv_iconst (v := 0) C.1 C.2.1 qm_L_inner_1 (by decide) ?_
    refine lv_aload_n C.1 C.2.1 qm_L_inner_2 rfl (lv_at hl 0 rfl) ?_
    refine lv_iload_n C.1 C.2.1 qm_L_inner_3 rfl (lv_at hl 1 rfl) ?_
    refine q_fVi (wf := cW h K) (tr := [(ko, .long)]) (r := oE ho ko fo) (n := 1) (As := [.int a1]) (rest := [.int 0, .ref ho]) (q0 := 0) (ci := 6) C hN G hl.1 (kX_inner (l := l) hf) ⟨qv_14, qv_15, qv_16, qv_3, qv_17⟩ qm_X_inner_d ⟨by decide, by decide⟩ ⟨by decide, by decide⟩ rfl rfl rfl rfl rfl (Nat.le_of_ble_eq_true rfl) qm_L_inner_4 (fun H locs G => ?_)
    refine lv_i2l (v := rr.toInt64) C.1 C.2.1 qm_L_inner_7 rfl ?_
    obtain ⟨hK, hP, hD, hS, hA⟩ := G
    refine va_last C.1 C.2.1 hK hP hD hS 0 0 rfl rfl (vp_in_iff.mpr (by decide)) qm_L_inner_8 (fun H locs hP hD hS => ?_)
    have G : qG D qCl (hT K ko) A s (hW h K ho ko (u1, vp_updL fo 0 rr.toInt64)) H locs := ⟨hK, hP, hD, hS, hA⟩
    refine lv_goto (tgt := 15) C.1 C.2.1 qm_L_inner_9 (by decide) ?_
    refine lv_iconst (v := 0) C.1 C.2.1 qm_L_inner_15 (by decide) ?_
    exact q_hret (u := (u1, vp_updL fo 0 rr.toInt64)) C hr hlocks G qm_L_inner_16
  · dsimp only at hf h2
    subst u2
    refine lv_aload_n C.1 C.2.1 qm_L_inner_0 rfl (lv_at hl 2 rfl) ?_
    refine lv_iconst (v := 0) C.1 C.2.1 qm_L_inner_1 (by decide) ?_
    refine lv_aload_n C.1 C.2.1 qm_L_inner_2 rfl (lv_at hl 0 rfl) ?_
    refine lv_iload_n C.1 C.2.1 qm_L_inner_3 rfl (lv_at hl 1 rfl) ?_
    refine q_fVt (wf := cW h K) (tr := [(ko, .long)]) (r := oE ho ko fo) (n := 1) (As := [.int a1]) (rest := [.int 0, .ref ho]) (q0 := 0) (ci := 6) C hN hT9 G hl.1 (tX_inner (l := l) hl0 hf) ⟨qv_14, qv_15, qv_16, qv_3, qv_17⟩ qm_X_inner_d ⟨by decide, by decide⟩ ⟨by decide, by decide⟩ rfl rfl rfl rfl rfl (Nat.le_of_ble_eq_true rfl) qm_L_inner_4 (fun ce q9 H locs G hce hcv hcl => ?_)
    refine vx_catch (own := "QuadModeLaw") (name := "java/lang/IndexOutOfBoundsException") (E := "java/lang/IndexOutOfBoundsException") C.2.2.2.1 [] ⟨0, 9, 12, 13⟩ [] htab (fun z hz => by cases hz) (by decide) (by decide) (C.2.2.2.2 _ qv_5) (va_Nw.use rfl (hT9.1 _ (by decide +kernel))) hce hcv hcl ?_
    refine lv_astore_n (lv' := [(3, .ref q9), (0, .ref (h 0)), (1, .int a1), (2, .ref ho)]) C.1 C.2.1 qm_L_inner_12 rfl hl (by decide) rfl (fun ls hl => ?_)
    refine lv_iconst (v := 1) C.1 C.2.1 qm_L_inner_13 (by decide) ?_
    exact q_hret (u := (u1, fo)) C hr hlocks G qm_L_inner_14
abbrev qm_L_begin_c : ByteArray := method_7_code
def qm_L_begin : MethodName := ⟨"QuadModeLaw", "begin", "(LQuadMode;I)I"⟩
theorem qm_L_begin_d : qm_L_begin.cls ≠ "java/lang/invoke/MethodHandle" ∧ qm_L_begin.cls ≠ "java/lang/invoke/VarHandle" ∧ (parseMethodDescriptor qm_L_begin.desc).map (fun d => d.parameters.length) = some 2 := by decide +kernel
def qm_L_begin_h : List (Nat × Nat × Nat × Nat) := [(0, 5, 8, 29)]
theorem qm_L_begin_w : Cond.codeWith qm_L_begin qm_L_begin_c 3 (some .int) qm_L_begin_h ∈ qw := qw_in 413 (by decide +kernel) (by decide +kernel)
theorem qm_L_begin_0 : decode qm_L_begin_c 0 = .ok (.aload_n 0, 1) := by decide +kernel
theorem qm_L_begin_1 : decode qm_L_begin_c 1 = .ok (.iload_n 1, 1) := by decide +kernel
theorem qm_L_begin_2 : decode qm_L_begin_c 2 = .ok (.invokevirtual 25, 3) := by decide +kernel
theorem qm_L_begin_5 : decode qm_L_begin_c 5 = .ok (.goto 6, 3) := by decide +kernel
theorem qm_L_begin_8 : decode qm_L_begin_c 8 = .ok (.astore_n 2, 1) := by decide +kernel
theorem qm_L_begin_9 : decode qm_L_begin_c 9 = .ok (.iconst 1, 1) := by decide +kernel
theorem qm_L_begin_10 : decode qm_L_begin_c 10 = .ok (.ireturn, 1) := by decide +kernel
theorem qm_L_begin_11 : decode qm_L_begin_c 11 = .ok (.iconst 0, 1) := by decide +kernel
theorem qm_L_begin_12 : decode qm_L_begin_c 12 = .ok (.ireturn, 1) := by decide +kernel
set_option maxHeartbeats 4000000 in
set_option maxRecDepth 100000 in
theorem hL_begin {l : Launch} {D : va_G} {ad av : Nat → Nat} {h : Nat → Nat} {K : Nat → ClassId} {ho : Nat} {ko : ClassId} {S : qS} {fo : Nat → Int64} {a1 : Int32} {r : Int32} {u : qH} (hl0 : l.stackTraces = false) (hf : (fX_begin S a1 = some u.1 ∧ u.2 = fo ∧ r = 0) ∨ (gX_begin S a1 = some (1, u.1) ∧ u.2 = fo ∧ r = 1)) : qMh l qm_L_begin qm_L_begin_c 3 qm_L_begin_h 7 111 D ad av h K ho ko [.ref (h 0), .int a1] (S, fo) (r, u) := by
  refine qMh_of (by decide) (Nat.le_of_ble_eq_true rfl) ?_
  intro p e s m args below meth c A ls C hr hlocks htab hN hZ hT9 hNc G hl
  have hl : lv_has ls 3 [(0, .ref (h 0)), (1, .int a1)] := hl
  have G : qG D qCl ([(ko, .long)] ++ cT K) A s (oE ho ko fo ++ cW h K S) s.heap [] := G
  obtain ⟨u1, u2⟩ := u
  rcases hf with ⟨hf, h2, rfl⟩ | ⟨hf, h2, rfl⟩
  · dsimp only at hf h2
    subst u2
    refine W.widen (k := 1) (n := 6) (by decide) (by decide) ?_
    refine lv_aload_n C.1 C.2.1 qm_L_begin_0 rfl (lv_at hl 0 rfl) ?_
    refine lv_iload_n C.1 C.2.1 qm_L_begin_1 rfl (lv_at hl 1 rfl) ?_
    refine q_fVv (wf := cW h K) (tr := [(ko, .long)]) (r := oE ho ko fo) (n := 1) (As := [.int a1]) (rest := []) (q0 := 0) (ci := 6) C hN G hl.1 (kX_begin (l := l) hf) ⟨qv_18, qv_19, qv_20, qv_3, qv_21⟩ qm_X_begin_d ⟨by decide, by decide⟩ ⟨by decide, by decide⟩ rfl rfl rfl rfl rfl (Nat.le_of_ble_eq_true rfl) qm_L_begin_2 (fun H locs G => ?_)
    refine lv_goto (tgt := 11) C.1 C.2.1 qm_L_begin_5 (by decide) ?_
    refine lv_iconst (v := 0) C.1 C.2.1 qm_L_begin_11 (by decide) ?_
    exact q_hret (u := (u1, fo)) C hr hlocks G qm_L_begin_12
  · dsimp only at hf h2
    subst u2
    refine lv_aload_n C.1 C.2.1 qm_L_begin_0 rfl (lv_at hl 0 rfl) ?_
    refine lv_iload_n C.1 C.2.1 qm_L_begin_1 rfl (lv_at hl 1 rfl) ?_
    refine q_fVt (wf := cW h K) (tr := [(ko, .long)]) (r := oE ho ko fo) (n := 1) (As := [.int a1]) (rest := []) (q0 := 0) (ci := 6) C hN hT9 G hl.1 (tX_begin (l := l) hl0 hf) ⟨qv_18, qv_19, qv_20, qv_3, qv_21⟩ qm_X_begin_d ⟨by decide, by decide⟩ ⟨by decide, by decide⟩ rfl rfl rfl rfl rfl (Nat.le_of_ble_eq_true rfl) qm_L_begin_2 (fun ce q9 H locs G hce hcv hcl => ?_)
    refine vx_catch (own := "QuadModeLaw") (name := "java/lang/IllegalArgumentException") (E := "java/lang/IllegalArgumentException") C.2.2.2.1 [] ⟨0, 5, 8, 29⟩ [] htab (fun z hz => by cases hz) (by decide) (by decide) (C.2.2.2.2 _ qv_22) (va_Nw.use rfl (hT9.1 _ (by decide +kernel))) hce hcv hcl ?_
    refine lv_astore_n (lv' := [(2, .ref q9), (0, .ref (h 0)), (1, .int a1)]) C.1 C.2.1 qm_L_begin_8 rfl hl (by decide) rfl (fun ls hl => ?_)
    refine lv_iconst (v := 1) C.1 C.2.1 qm_L_begin_9 (by decide) ?_
    exact q_hret (u := (u1, fo)) C hr hlocks G qm_L_begin_10
abbrev qm_L_run_c : ByteArray := method_8_code
def qm_L_run : MethodName := ⟨"QuadModeLaw", "run", "(LQuadMode;I[J)I"⟩
theorem qm_L_run_d : qm_L_run.cls ≠ "java/lang/invoke/MethodHandle" ∧ qm_L_run.cls ≠ "java/lang/invoke/VarHandle" ∧ (parseMethodDescriptor qm_L_run.desc).map (fun d => d.parameters.length) = some 3 := by decide +kernel
def qm_L_run_h : List (Nat × Nat × Nat × Nat) := [(0, 9, 12, 29), (0, 9, 15, 34)]
theorem qm_L_run_w : Cond.codeWith qm_L_run qm_L_run_c 4 (some .int) qm_L_run_h ∈ qw := qw_in 438 (by decide +kernel) (by decide +kernel)
theorem qm_L_run_0 : decode qm_L_run_c 0 = .ok (.aload_n 2, 1) := by decide +kernel
theorem qm_L_run_1 : decode qm_L_run_c 1 = .ok (.iconst 0, 1) := by decide +kernel
theorem qm_L_run_2 : decode qm_L_run_c 2 = .ok (.aload_n 0, 1) := by decide +kernel
theorem qm_L_run_3 : decode qm_L_run_c 3 = .ok (.iload_n 1, 1) := by decide +kernel
theorem qm_L_run_4 : decode qm_L_run_c 4 = .ok (.invokevirtual 31, 3) := by decide +kernel
theorem qm_L_run_7 : decode qm_L_run_c 7 = .ok (.i2l, 1) := by decide +kernel
theorem qm_L_run_8 : decode qm_L_run_c 8 = .ok (.lastore, 1) := by decide +kernel
theorem qm_L_run_9 : decode qm_L_run_c 9 = .ok (.goto 9, 3) := by decide +kernel
theorem qm_L_run_12 : decode qm_L_run_c 12 = .ok (.astore_n 3, 1) := by decide +kernel
theorem qm_L_run_13 : decode qm_L_run_c 13 = .ok (.iconst 1, 1) := by decide +kernel
theorem qm_L_run_14 : decode qm_L_run_c 14 = .ok (.ireturn, 1) := by decide +kernel
theorem qm_L_run_15 : decode qm_L_run_c 15 = .ok (.astore_n 3, 1) := by decide +kernel
theorem qm_L_run_16 : decode qm_L_run_c 16 = .ok (.iconst 2, 1) := by decide +kernel
theorem qm_L_run_17 : decode qm_L_run_c 17 = .ok (.ireturn, 1) := by decide +kernel
theorem qm_L_run_18 : decode qm_L_run_c 18 = .ok (.iconst 0, 1) := by decide +kernel
theorem qm_L_run_19 : decode qm_L_run_c 19 = .ok (.ireturn, 1) := by decide +kernel
set_option maxHeartbeats 4000000 in
set_option maxRecDepth 100000 in
theorem hL_run {l : Launch} {D : va_G} {ad av : Nat → Nat} {h : Nat → Nat} {K : Nat → ClassId} {ho : Nat} {ko : ClassId} {S : qS} {fo : Nat → Int64} {a1 : Int32} {r : Int32} {u : qH} (hl0 : l.stackTraces = false) (hf : (∃ rr : Int32, fX_run S a1 = some (rr, u.1) ∧ u.2 = vp_updL fo 0 rr.toInt64 ∧ r = 0) ∨ (gX_run S a1 = some (1, u.1) ∧ u.2 = fo ∧ r = 1) ∨ (gX_run S a1 = some (2, u.1) ∧ u.2 = fo ∧ r = 2)) : qMh l qm_L_run qm_L_run_c 4 qm_L_run_h 8 197 D ad av h K ho ko [.ref (h 0), .int a1, .ref ho] (S, fo) (r, u) := by
  refine qMh_of (by decide) (Nat.le_of_ble_eq_true rfl) ?_
  intro p e s m args below meth c A ls C hr hlocks htab hN hZ hT9 hNc G hl
  have hl : lv_has ls 4 [(0, .ref (h 0)), (1, .int a1), (2, .ref ho)] := hl
  have G : qG D qCl ([(ko, .long)] ++ cT K) A s (oE ho ko fo ++ cW h K S) s.heap [] := G
  obtain ⟨u1, u2⟩ := u
  rcases hf with ⟨rr, hf, h2, rfl⟩ | ⟨hf, h2, rfl⟩ | ⟨hf, h2, rfl⟩
  · dsimp only at hf h2
    subst u2
    refine W.widen (k := 1) (n := 6) (by decide) (by decide) ?_
    refine lv_aload_n C.1 C.2.1 qm_L_run_0 rfl (lv_at hl 2 rfl) ?_
    refine lv_iconst (v := 0) C.1 C.2.1 qm_L_run_1 (by decide) ?_
    refine lv_aload_n C.1 C.2.1 qm_L_run_2 rfl (lv_at hl 0 rfl) ?_
    refine lv_iload_n C.1 C.2.1 qm_L_run_3 rfl (lv_at hl 1 rfl) ?_
    refine q_fViZ (wf := cW h K) (tr := [(ko, .long)]) (r := oE ho ko fo) (n := 1) (As := [.int a1]) (rest := [.int 0, .ref ho]) (q0 := 0) (ci := 6) C hN hZ G hl.1 (kX_run (l := l) hf) ⟨qv_23, qv_24, qv_25, qv_3, qv_26⟩ qm_X_run_d ⟨by decide, by decide⟩ ⟨by decide, by decide⟩ rfl rfl rfl rfl rfl (Nat.le_of_ble_eq_true rfl) qm_L_run_4 (fun H locs G => ?_)
    refine lv_i2l (v := rr.toInt64) C.1 C.2.1 qm_L_run_7 rfl ?_
    obtain ⟨hK, hP, hD, hS, hA⟩ := G
    refine va_last C.1 C.2.1 hK hP hD hS 0 0 rfl rfl (vp_in_iff.mpr (by decide)) qm_L_run_8 (fun H locs hP hD hS => ?_)
    have G : qG D qCl (hT K ko) A s (hW h K ho ko (u1, vp_updL fo 0 rr.toInt64)) H locs := ⟨hK, hP, hD, hS, hA⟩
    refine lv_goto (tgt := 18) C.1 C.2.1 qm_L_run_9 (by decide) ?_
    refine lv_iconst (v := 0) C.1 C.2.1 qm_L_run_18 (by decide) ?_
    exact q_hret (u := (u1, vp_updL fo 0 rr.toInt64)) C hr hlocks G qm_L_run_19
  · dsimp only at hf h2
    subst u2
    refine lv_aload_n C.1 C.2.1 qm_L_run_0 rfl (lv_at hl 2 rfl) ?_
    refine lv_iconst (v := 0) C.1 C.2.1 qm_L_run_1 (by decide) ?_
    refine lv_aload_n C.1 C.2.1 qm_L_run_2 rfl (lv_at hl 0 rfl) ?_
    refine lv_iload_n C.1 C.2.1 qm_L_run_3 rfl (lv_at hl 1 rfl) ?_
    refine q_fVt (wf := cW h K) (tr := [(ko, .long)]) (r := oE ho ko fo) (n := 1) (As := [.int a1]) (rest := [.int 0, .ref ho]) (q0 := 0) (ci := 6) C hN hT9 G hl.1 (tX_run (l := l) hl0 hf) ⟨qv_23, qv_24, qv_25, qv_3, qv_26⟩ qm_X_run_d ⟨by decide, by decide⟩ ⟨by decide, by decide⟩ rfl rfl rfl rfl rfl (Nat.le_of_ble_eq_true rfl) qm_L_run_4 (fun ce q9 H locs G hce hcv hcl => ?_)
    refine vx_catch (own := "QuadModeLaw") (name := "java/lang/IllegalArgumentException") (E := "java/lang/IllegalArgumentException") C.2.2.2.1 [] ⟨0, 9, 12, 29⟩ [⟨0, 9, 15, 34⟩] htab (fun z hz => by cases hz) (by decide) (by decide) (C.2.2.2.2 _ qv_22) (va_Nw.use rfl (hT9.1 _ (by decide +kernel))) hce hcv hcl ?_
    refine lv_astore_n (lv' := [(3, .ref q9), (0, .ref (h 0)), (1, .int a1), (2, .ref ho)]) C.1 C.2.1 qm_L_run_12 rfl hl (by decide) rfl (fun ls hl => ?_)
    refine lv_iconst (v := 1) C.1 C.2.1 qm_L_run_13 (by decide) ?_
    exact q_hret (u := (u1, fo)) C hr hlocks G qm_L_run_14
  · dsimp only at hf h2
    subst u2
    refine lv_aload_n C.1 C.2.1 qm_L_run_0 rfl (lv_at hl 2 rfl) ?_
    refine lv_iconst (v := 0) C.1 C.2.1 qm_L_run_1 (by decide) ?_
    refine lv_aload_n C.1 C.2.1 qm_L_run_2 rfl (lv_at hl 0 rfl) ?_
    refine lv_iload_n C.1 C.2.1 qm_L_run_3 rfl (lv_at hl 1 rfl) ?_
    refine q_fVt (wf := cW h K) (tr := [(ko, .long)]) (r := oE ho ko fo) (n := 1) (As := [.int a1]) (rest := [.int 0, .ref ho]) (q0 := 0) (ci := 6) C hN hT9 G hl.1 (tX_run (l := l) hl0 hf) ⟨qv_23, qv_24, qv_25, qv_3, qv_26⟩ qm_X_run_d ⟨by decide, by decide⟩ ⟨by decide, by decide⟩ rfl rfl rfl rfl rfl (Nat.le_of_ble_eq_true rfl) qm_L_run_4 (fun ce q9 H locs G hce hcv hcl => ?_)
    refine vx_catch (own := "QuadModeLaw") (name := "java/lang/IllegalStateException") (E := "java/lang/IllegalStateException") C.2.2.2.1 [⟨0, 9, 12, 29⟩] ⟨0, 9, 15, 34⟩ [] htab (fun z hz => by rcases List.mem_singleton.mp hz with rfl; exact Or.inr ⟨by decide, "java/lang/IllegalArgumentException", C.2.2.2.2 _ qv_22, hNc⟩) (by decide) (by decide) (C.2.2.2.2 _ qv_27) (va_Nw.use rfl (hT9.1 _ (by decide +kernel))) hce hcv hcl ?_
    refine lv_astore_n (lv' := [(3, .ref q9), (0, .ref (h 0)), (1, .int a1), (2, .ref ho)]) C.1 C.2.1 qm_L_run_15 rfl hl (by decide) rfl (fun ls hl => ?_)
    refine lv_iconst (v := 2) C.1 C.2.1 qm_L_run_16 (by decide) ?_
    exact q_hret (u := (u1, fo)) C hr hlocks G qm_L_run_17
abbrev qm_L_reach_c : ByteArray := method_9_code
def qm_L_reach : MethodName := ⟨"QuadModeLaw", "reach", "(LQuadMode;IZI[J)I"⟩
theorem qm_L_reach_d : qm_L_reach.cls ≠ "java/lang/invoke/MethodHandle" ∧ qm_L_reach.cls ≠ "java/lang/invoke/VarHandle" ∧ (parseMethodDescriptor qm_L_reach.desc).map (fun d => d.parameters.length) = some 5 := by decide +kernel
def qm_L_reach_h : List (Nat × Nat × Nat × Nat) := [(0, 12, 15, 29)]
theorem qm_L_reach_w : Cond.codeWith qm_L_reach qm_L_reach_c 6 (some .int) qm_L_reach_h ∈ qw := qw_in 818 (by decide +kernel) (by decide +kernel)
theorem qm_L_reach_0 : decode qm_L_reach_c 0 = .ok (.aload 4, 2) := by decide +kernel
theorem qm_L_reach_2 : decode qm_L_reach_c 2 = .ok (.iconst 0, 1) := by decide +kernel
theorem qm_L_reach_3 : decode qm_L_reach_c 3 = .ok (.aload_n 0, 1) := by decide +kernel
theorem qm_L_reach_4 : decode qm_L_reach_c 4 = .ok (.iload_n 1, 1) := by decide +kernel
theorem qm_L_reach_5 : decode qm_L_reach_c 5 = .ok (.iload_n 2, 1) := by decide +kernel
theorem qm_L_reach_6 : decode qm_L_reach_c 6 = .ok (.iload_n 3, 1) := by decide +kernel
theorem qm_L_reach_7 : decode qm_L_reach_c 7 = .ok (.invokevirtual 36, 3) := by decide +kernel
theorem qm_L_reach_10 : decode qm_L_reach_c 10 = .ok (.i2l, 1) := by decide +kernel
theorem qm_L_reach_11 : decode qm_L_reach_c 11 = .ok (.lastore, 1) := by decide +kernel
theorem qm_L_reach_12 : decode qm_L_reach_c 12 = .ok (.goto 7, 3) := by decide +kernel
theorem qm_L_reach_15 : decode qm_L_reach_c 15 = .ok (.astore 5, 2) := by decide +kernel
theorem qm_L_reach_17 : decode qm_L_reach_c 17 = .ok (.iconst 1, 1) := by decide +kernel
theorem qm_L_reach_18 : decode qm_L_reach_c 18 = .ok (.ireturn, 1) := by decide +kernel
theorem qm_L_reach_19 : decode qm_L_reach_c 19 = .ok (.iconst 0, 1) := by decide +kernel
theorem qm_L_reach_20 : decode qm_L_reach_c 20 = .ok (.ireturn, 1) := by decide +kernel
set_option maxHeartbeats 4000000 in
set_option maxRecDepth 100000 in
theorem hL_reach {l : Launch} {D : va_G} {ad av : Nat → Nat} {h : Nat → Nat} {K : Nat → ClassId} {ho : Nat} {ko : ClassId} {S : qS} {fo : Nat → Int64} {a1 a2 a3 : Int32} {r : Int32} {u : qH} (hl0 : l.stackTraces = false) (hf : (∃ rr : Int32, fX_reach S a1 a2 a3 = some (rr, u.1) ∧ u.2 = vp_updL fo 0 rr.toInt64 ∧ r = 0) ∨ (gX_reach S a1 a2 a3 = some (1, u.1) ∧ u.2 = fo ∧ r = 1)) : qMh l qm_L_reach qm_L_reach_c 6 qm_L_reach_h 7 113 D ad av h K ho ko [.ref (h 0), .int a1, .int a2, .int a3, .ref ho] (S, fo) (r, u) := by
  refine qMh_of (by decide) (Nat.le_of_ble_eq_true rfl) ?_
  intro p e s m args below meth c A ls C hr hlocks htab hN hZ hT9 hNc G hl
  have hl : lv_has ls 6 [(0, .ref (h 0)), (1, .int a1), (2, .int a2), (3, .int a3), (4, .ref ho)] := hl
  have G : qG D qCl ([(ko, .long)] ++ cT K) A s (oE ho ko fo ++ cW h K S) s.heap [] := G
  obtain ⟨u1, u2⟩ := u
  rcases hf with ⟨rr, hf, h2, rfl⟩ | ⟨hf, h2, rfl⟩
  · dsimp only at hf h2
    subst u2
    refine W.widen (k := 1) (n := 6) (by decide) (by decide) ?_
    refine lv_aload C.1 C.2.1 qm_L_reach_0 (lv_at hl 4 rfl) ?_
    refine lv_iconst (v := 0) C.1 C.2.1 qm_L_reach_2 (by decide) ?_
    refine lv_aload_n C.1 C.2.1 qm_L_reach_3 rfl (lv_at hl 0 rfl) ?_
    refine lv_iload_n C.1 C.2.1 qm_L_reach_4 rfl (lv_at hl 1 rfl) ?_
    refine lv_iload_n C.1 C.2.1 qm_L_reach_5 rfl (lv_at hl 2 rfl) ?_
    refine lv_iload_n C.1 C.2.1 qm_L_reach_6 rfl (lv_at hl 3 rfl) ?_
    refine q_fVi (wf := cW h K) (tr := [(ko, .long)]) (r := oE ho ko fo) (n := 3) (As := [.int a1, .int a2, .int a3]) (rest := [.int 0, .ref ho]) (q0 := 0) (ci := 6) C hN G hl.1 (kX_reach (l := l) hf) ⟨qv_28, qv_29, qv_30, qv_3, qv_31⟩ qm_X_reach_d ⟨by decide, by decide⟩ ⟨by decide, by decide⟩ rfl rfl rfl rfl rfl (Nat.le_of_ble_eq_true rfl) qm_L_reach_7 (fun H locs G => ?_)
    refine lv_i2l (v := rr.toInt64) C.1 C.2.1 qm_L_reach_10 rfl ?_
    obtain ⟨hK, hP, hD, hS, hA⟩ := G
    refine va_last C.1 C.2.1 hK hP hD hS 0 0 rfl rfl (vp_in_iff.mpr (by decide)) qm_L_reach_11 (fun H locs hP hD hS => ?_)
    have G : qG D qCl (hT K ko) A s (hW h K ho ko (u1, vp_updL fo 0 rr.toInt64)) H locs := ⟨hK, hP, hD, hS, hA⟩
    refine lv_goto (tgt := 19) C.1 C.2.1 qm_L_reach_12 (by decide) ?_
    refine lv_iconst (v := 0) C.1 C.2.1 qm_L_reach_19 (by decide) ?_
    exact q_hret (u := (u1, vp_updL fo 0 rr.toInt64)) C hr hlocks G qm_L_reach_20
  · dsimp only at hf h2
    subst u2
    refine lv_aload C.1 C.2.1 qm_L_reach_0 (lv_at hl 4 rfl) ?_
    refine lv_iconst (v := 0) C.1 C.2.1 qm_L_reach_2 (by decide) ?_
    refine lv_aload_n C.1 C.2.1 qm_L_reach_3 rfl (lv_at hl 0 rfl) ?_
    refine lv_iload_n C.1 C.2.1 qm_L_reach_4 rfl (lv_at hl 1 rfl) ?_
    refine lv_iload_n C.1 C.2.1 qm_L_reach_5 rfl (lv_at hl 2 rfl) ?_
    refine lv_iload_n C.1 C.2.1 qm_L_reach_6 rfl (lv_at hl 3 rfl) ?_
    refine q_fVt (wf := cW h K) (tr := [(ko, .long)]) (r := oE ho ko fo) (n := 3) (As := [.int a1, .int a2, .int a3]) (rest := [.int 0, .ref ho]) (q0 := 0) (ci := 6) C hN hT9 G hl.1 (tX_reach (l := l) hl0 hf) ⟨qv_28, qv_29, qv_30, qv_3, qv_31⟩ qm_X_reach_d ⟨by decide, by decide⟩ ⟨by decide, by decide⟩ rfl rfl rfl rfl rfl (Nat.le_of_ble_eq_true rfl) qm_L_reach_7 (fun ce q9 H locs G hce hcv hcl => ?_)
    refine vx_catch (own := "QuadModeLaw") (name := "java/lang/IllegalArgumentException") (E := "java/lang/IllegalArgumentException") C.2.2.2.1 [] ⟨0, 12, 15, 29⟩ [] htab (fun z hz => by cases hz) (by decide) (by decide) (C.2.2.2.2 _ qv_22) (va_Nw.use rfl (hT9.1 _ (by decide +kernel))) hce hcv hcl ?_
    refine lv_astore (lv' := [(5, .ref q9), (0, .ref (h 0)), (1, .int a1), (2, .int a2), (3, .int a3), (4, .ref ho)]) C.1 C.2.1 qm_L_reach_15 hl (by decide) rfl (fun ls hl => ?_)
    refine lv_iconst (v := 1) C.1 C.2.1 qm_L_reach_17 (by decide) ?_
    exact q_hret (u := (u1, fo)) C hr hlocks G qm_L_reach_18
