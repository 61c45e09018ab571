/-! Throwing roads. -/
def qtw : List Cond := [Cond.castable "java/lang/IndexOutOfBoundsException" "java/lang/IndexOutOfBoundsException", Cond.castable "java/lang/IllegalArgumentException" "java/lang/IllegalArgumentException", Cond.castable "java/lang/IllegalStateException" "java/lang/IllegalStateException", Cond.declares ⟨"java/lang/RuntimeException", "<init>", "(Ljava/lang/String;)V"⟩, Cond.declares ⟨"java/lang/Exception", "<init>", "(Ljava/lang/String;)V"⟩, Cond.declares ⟨"java/lang/Throwable", "<init>", "(Ljava/lang/String;)V"⟩]
theorem qtw_t : ∀ w ∈ qtw, w ∈ lw_tbl := by decide +kernel
theorem qtw_warm {s U : State} (hW : s.WarmedH U.vm) (h : ∀ w ∈ qtw, va_Nw w s) : ∀ w ∈ qtw, va_Nw w U := fun w hw => by
  have h9 := h w hw
  simp only [qtw, List.mem_cons, List.not_mem_nil, or_false] at hw
  rcases hw with rfl | rfl | rfl | rfl | rfl | rfl
  · exact va_Nw.warmC hW h9
  · exact va_Nw.warmC hW h9
  · exact va_Nw.warmC hW h9
  · exact va_Nw.warmD hW h9
  · exact va_Nw.warmD hW h9
  · exact va_Nw.warmD hW h9
theorem qtw_on : ∀ w ∈ qtw, w.onTables = true := by decide +kernel
def qek : Nat → Nat := fun j => [73, 88, 99, 109, 113, 122].getD j 0
def qet : Nat → String := fun j => ["no such register", "no such inner register", "bits of the status that must be 0", "not 1 to 200 instructions", "halted or dead", "no such mode"].getD j ""
def qex : Nat → String := fun j => ["java/lang/IndexOutOfBoundsException", "java/lang/IllegalArgumentException", "java/lang/IllegalStateException"].getD j ""
def qT (A : Nat → Prop) (U : State) (H : Heap) : Prop := (∀ w ∈ qtw, va_Nw w U) ∧ (∀ j, j < 6 → ∃ sa, vk_R "QuadMode" (qek j) (qet j) sa U) ∧ vx_Zq Bundle.tN "UNASSIGNED_STACK" Bundle.steD A U H ∧ vx_Zq Bundle.tN "SUPPRESSED_SENTINEL" Bundle.listD A U H
theorem qT_warm {A : Nat → Prop} {s U : State} {H : Heap} (hW : s.WarmedH U.vm) (h : qT A s H) : qT A U H := ⟨qtw_warm hW h.1, fun j hj => by obtain ⟨sa, q⟩ := h.2.1 j hj; exact ⟨sa, vk_R.warm hW q⟩, h.2.2.1.moved hW.alike, h.2.2.2.moved hW.alike⟩
theorem qT_same {A : Nat → Prop} {u U : State} {H : Heap} (hv : u.vm = U.vm) (h : qT A u H) : qT A U H := ⟨fun w hw => va_Nw.same (qtw_on w hw) hv (h.1 w hw), fun j hj => by obtain ⟨sa, q⟩ := h.2.1 j hj; exact ⟨sa, vk_R.same hv.symm q⟩, h.2.2.1.moved (by rw [hv]; exact Vm.Alike.refl _), h.2.2.2.moved (by rw [hv]; exact Vm.Alike.refl _)⟩
theorem qT_kept {A : Nat → Prop} {U : State} {H H1 : Heap} (h : qT A U H) (hq : ∀ a : Nat, a < H.size → ¬ A a → H1[a]? = H[a]?) : qT A U H1 := ⟨h.1, h.2.1, h.2.2.1.kept hq, h.2.2.2.kept hq⟩
theorem qT_narrow {A B : Nat → Prop} {U : State} {H : Heap} (h : qT A U H) (hAB : ∀ q, B q → A q) : qT B U H := ⟨h.1, h.2.1, h.2.2.1.narrow hAB, h.2.2.2.narrow hAB⟩
def qXC (D : va_G) (cl : List vw_C) (tys : List (ClassId × FieldType)) (wf : qS → va_W) (A : Nat → Prop) (res : Nat × qS) : String → State → State → Prop := vx_X (fun u : qS => u = res.2) (fun E u t => E = qex res.1 ∧ qB D cl tys wf A u t) A
def qMt (l : Launch) (y : MethodName) (cc : ByteArray) (nL : Nat) (ret : Option FieldType) (fr lo : Nat) (D : va_G) (cl : List vw_C) (tys : List (ClassId × FieldType)) (ad : Nat → Nat) (wf : qS → va_W) (av : List Value) (S : qS) (res : Nat × qS) : Prop :=
  ∀ sz : Nat, vx_Met l y (.code y cc nL ret :: qw) ({ frames := fr, cells := 1, slots := 6, locals := lo }) (va_Pc av (fun U => qP D cl tys ad (wf S) sz U ∧ qT (va_A (wf S) sz) U U.heap)) (fun _ _ _ _ => False) (qXC D cl tys wf (va_A (wf S) sz) res) 1 6 (va_A (wf S) sz)
theorem qMt_of {D : va_G} {cl : List vw_C} {tys : List (ClassId × FieldType)} {wf : qS → va_W} {ad : Nat → Nat} {l : Launch} {y : MethodName} {cc : ByteArray} {nL fr lo : Nat} {ret : Option FieldType} {av : List Value} {S : qS} {res : Nat × qS} (hy : plainName y.cls = true) (hn : (lg_sl av).length ≤ nL)
    (h : ∀ (p : Program) (e : Env) (s : State) (m : MethodId) (args : Array Value) (below : List Frame) (meth : Method) (c : Code) (A : Nat → Prop) (ls : Array Slot), qC p s m args meth c cc nL ret y.cls ad → qT A s s.heap → (∀ x ∈ c.exceptionTable.toList, False) → qG D cl tys A s (wf S) s.heap [] → lv_has ls nL (lv_args 0 av) →
      W p l e ({ frames := fr, cells := 1, slots := 6, locals := lo }) s m args below meth c s.heap [] 0 0 (vx_MQ below (fun _ _ _ _ => False) (qXC D cl tys wf A res) args s 1 6 A) (F0 m 0 ls [])) : qMt l y cc nL ret fr lo D cl tys ad wf av S res := by
  intro sz
  refine vx_ofW (cc := cc) (maxL := nL) (ret := ret) hy rfl ?_
  intro p e s m args below meth c s₁ B hml hb0 hv
  obtain ⟨rfl, ⟨hsz, hP, hK, hD0, hN⟩, hT⟩ := hv
  have hts := atoms_spec (ws := .code y cc nL ret :: qw) B.pre
  have hown : s.vm.findClass y.cls = some m.cls := findClass_of_methodNamed B.named
  subst hsz
  have hl := lv_entry av (n := nL) hn
  rw [lg_entry_eq]
  exact h p e s m av.toArray below meth c _ _ ⟨B.exec, B.bytes, hml, hown, fun w hw => hts w (List.mem_cons_of_mem _ hw), B.returns, B.notSynchronized, hN⟩ hT hb0 ⟨hK, hP, hD0.self, va_S.rf, fun q h => Or.inr h⟩ hl
theorem qu_0k : Cond.classLink "QuadMode" 71 "java/lang/IndexOutOfBoundsException" ∈ qw := qw_in 297 (by decide +kernel) (by decide +kernel)
theorem qu_0i : Cond.initialized "java/lang/IndexOutOfBoundsException" ∈ qw := qw_in 74 (by decide +kernel) (by decide +kernel)
theorem qu_0a : ∀ w ∈ vx_atS "QuadMode" 75 "java/lang/IndexOutOfBoundsException" ["java/lang/RuntimeException", "java/lang/Exception"], w ∈ qtw ∨ w ∈ qw := by decide +kernel
theorem qu_0g : ∀ w ∈ Cond.classLink "QuadMode" 71 "java/lang/IndexOutOfBoundsException" :: Cond.initialized "java/lang/IndexOutOfBoundsException" :: vx_atS "QuadMode" 75 "java/lang/IndexOutOfBoundsException" ["java/lang/RuntimeException", "java/lang/Exception"], vx_ot w = true := by decide +kernel
theorem q_throw0 {p : Program} {l : Launch} {e : Env} {R : Room} {s : State} {m : MethodId} {args : Array Value} {below : List Frame} {meth : Method} {c : Code} {H : Heap} {locs : List Loc} {cc : ByteArray} {nL : Nat} {ret : Option FieldType} {D : va_G} {cl : List vw_C} {tys : List (ClassId × FieldType)} {wf : qS → va_W} {A : Nat → Prop} {S : qS} {pc : Nat} {ls : Array Slot} {rest : List Value} {ad : Nat → Nat} {j is : Nat} {res : Nat × qS}
    (hl0 : l.stackTraces = false) (C : qC p s m args meth c cc nL ret "QuadMode" ad) (G : qG D cl tys A s (wf S) H locs) (T : qT A s s.heap) (hb0 : ∀ x ∈ c.exceptionTable.toList, False) (hf : some (0, S) = some res) (hls : ls.size = nL) (hj : j < 6) (his : qek j = is) (hR : 5 < R.frames) (hR2 : (rest.map fun v => v.category).sum + 82 ≤ R.locals) (hRc : 1 ≤ R.cells ∧ 6 ≤ R.slots)
    (d0 : decode cc pc = .ok (.new 71, 3)) (d3 : decode cc (pc + 3) = .ok (.dup, 1)) (d4 : decode cc (pc + 4) = .ok (.ldc is, 2)) (d6 : decode cc (pc + 6) = .ok (.invokespecial 75, 3)) (d9 : decode cc (pc + 9) = .ok (.athrow, 1)) :
    W p l e R s m args below meth c H locs 0 0 (vx_MQ below (fun _ _ _ _ => False) (qXC D cl tys wf A res) args s 1 6 A) (F0 m pc ls rest) := by
  cases hf
  subst his
  obtain ⟨hx, hb, hml, hown, hts, hret, hlocks, hN⟩ := C
  obtain ⟨hK, hP, hD, hS, hA⟩ := G
  obtain ⟨sa, hstr⟩ := T.2.1 j hj
  refine vx_throwS (names := ["java/lang/RuntimeException", "java/lang/Exception"]) hx hb hl0 hown (by decide +kernel) (by decide +kernel) (hts _ qu_0k) (hts _ qu_0i) hstr (fun w hw => (qu_0a w hw).elim (fun h => va_Nw.use (qtw_on w h) (T.1 w h)) (fun h => hts w h)) qu_0g T.2.2.1 T.2.2.2 hS (hls.trans hml.symm) d0 d3 d4 d6 d9 (fun x hx9 => (hb0 x hx9).elim) hR hR2 (by rw [Nat.zero_add]; exact hRc.1) (by rw [Nat.zero_add]; exact hRc.2) hlocks (fun t hvm hz hq => ?_) hS.2.2 (Nat.le_refl _) (Nat.le_refl _)
  refine ⟨S, rfl, ⟨rfl, hP.kept (fun k q hk => hq _ ((hP k q hk).lt)), va_K.moved hvm hK, hD⟩, Nat.le_trans hS.1 hz, fun q h1 h2 => by rw [hq q (Nat.lt_of_lt_of_le h1 hS.1)]; exact hS.2.1 q h1 h2⟩
theorem qu_1k : Cond.classLink "QuadMode" 97 "java/lang/IllegalArgumentException" ∈ qw := qw_in 420 (by decide +kernel) (by decide +kernel)
theorem qu_1i : Cond.initialized "java/lang/IllegalArgumentException" ∈ qw := qw_in 75 (by decide +kernel) (by decide +kernel)
theorem qu_1a : ∀ w ∈ vx_atS "QuadMode" 101 "java/lang/IllegalArgumentException" ["java/lang/RuntimeException", "java/lang/Exception"], w ∈ qtw ∨ w ∈ qw := by decide +kernel
theorem qu_1g : ∀ w ∈ Cond.classLink "QuadMode" 97 "java/lang/IllegalArgumentException" :: Cond.initialized "java/lang/IllegalArgumentException" :: vx_atS "QuadMode" 101 "java/lang/IllegalArgumentException" ["java/lang/RuntimeException", "java/lang/Exception"], vx_ot w = true := by decide +kernel
theorem q_throw1 {p : Program} {l : Launch} {e : Env} {R : Room} {s : State} {m : MethodId} {args : Array Value} {below : List Frame} {meth : Method} {c : Code} {H : Heap} {locs : List Loc} {cc : ByteArray} {nL : Nat} {ret : Option FieldType} {D : va_G} {cl : List vw_C} {tys : List (ClassId × FieldType)} {wf : qS → va_W} {A : Nat → Prop} {S : qS} {pc : Nat} {ls : Array Slot} {rest : List Value} {ad : Nat → Nat} {j is : Nat} {res : Nat × qS}
    (hl0 : l.stackTraces = false) (C : qC p s m args meth c cc nL ret "QuadMode" ad) (G : qG D cl tys A s (wf S) H locs) (T : qT A s s.heap) (hb0 : ∀ x ∈ c.exceptionTable.toList, False) (hf : some (1, S) = some res) (hls : ls.size = nL) (hj : j < 6) (his : qek j = is) (hR : 5 < R.frames) (hR2 : (rest.map fun v => v.category).sum + 82 ≤ R.locals) (hRc : 1 ≤ R.cells ∧ 6 ≤ R.slots)
    (d0 : decode cc pc = .ok (.new 97, 3)) (d3 : decode cc (pc + 3) = .ok (.dup, 1)) (d4 : decode cc (pc + 4) = .ok (.ldc is, 2)) (d6 : decode cc (pc + 6) = .ok (.invokespecial 101, 3)) (d9 : decode cc (pc + 9) = .ok (.athrow, 1)) :
    W p l e R s m args below meth c H locs 0 0 (vx_MQ below (fun _ _ _ _ => False) (qXC D cl tys wf A res) args s 1 6 A) (F0 m pc ls rest) := by
  cases hf
  subst his
  obtain ⟨hx, hb, hml, hown, hts, hret, hlocks, hN⟩ := C
  obtain ⟨hK, hP, hD, hS, hA⟩ := G
  obtain ⟨sa, hstr⟩ := T.2.1 j hj
  refine vx_throwS (names := ["java/lang/RuntimeException", "java/lang/Exception"]) hx hb hl0 hown (by decide +kernel) (by decide +kernel) (hts _ qu_1k) (hts _ qu_1i) hstr (fun w hw => (qu_1a w hw).elim (fun h => va_Nw.use (qtw_on w h) (T.1 w h)) (fun h => hts w h)) qu_1g T.2.2.1 T.2.2.2 hS (hls.trans hml.symm) d0 d3 d4 d6 d9 (fun x hx9 => (hb0 x hx9).elim) hR hR2 (by rw [Nat.zero_add]; exact hRc.1) (by rw [Nat.zero_add]; exact hRc.2) hlocks (fun t hvm hz hq => ?_) hS.2.2 (Nat.le_refl _) (Nat.le_refl _)
  refine ⟨S, rfl, ⟨rfl, hP.kept (fun k q hk => hq _ ((hP k q hk).lt)), va_K.moved hvm hK, hD⟩, Nat.le_trans hS.1 hz, fun q h1 h2 => by rw [hq q (Nat.lt_of_lt_of_le h1 hS.1)]; exact hS.2.1 q h1 h2⟩
theorem qu_2k : Cond.classLink "QuadMode" 111 "java/lang/IllegalStateException" ∈ qw := qw_in 445 (by decide +kernel) (by decide +kernel)
theorem qu_2i : Cond.initialized "java/lang/IllegalStateException" ∈ qw := qw_in 76 (by decide +kernel) (by decide +kernel)
theorem qu_2a : ∀ w ∈ vx_atS "QuadMode" 115 "java/lang/IllegalStateException" ["java/lang/RuntimeException", "java/lang/Exception"], w ∈ qtw ∨ w ∈ qw := by decide +kernel
theorem qu_2g : ∀ w ∈ Cond.classLink "QuadMode" 111 "java/lang/IllegalStateException" :: Cond.initialized "java/lang/IllegalStateException" :: vx_atS "QuadMode" 115 "java/lang/IllegalStateException" ["java/lang/RuntimeException", "java/lang/Exception"], vx_ot w = true := by decide +kernel
theorem q_throw2 {p : Program} {l : Launch} {e : Env} {R : Room} {s : State} {m : MethodId} {args : Array Value} {below : List Frame} {meth : Method} {c : Code} {H : Heap} {locs : List Loc} {cc : ByteArray} {nL : Nat} {ret : Option FieldType} {D : va_G} {cl : List vw_C} {tys : List (ClassId × FieldType)} {wf : qS → va_W} {A : Nat → Prop} {S : qS} {pc : Nat} {ls : Array Slot} {rest : List Value} {ad : Nat → Nat} {j is : Nat} {res : Nat × qS}
    (hl0 : l.stackTraces = false) (C : qC p s m args meth c cc nL ret "QuadMode" ad) (G : qG D cl tys A s (wf S) H locs) (T : qT A s s.heap) (hb0 : ∀ x ∈ c.exceptionTable.toList, False) (hf : some (2, S) = some res) (hls : ls.size = nL) (hj : j < 6) (his : qek j = is) (hR : 5 < R.frames) (hR2 : (rest.map fun v => v.category).sum + 82 ≤ R.locals) (hRc : 1 ≤ R.cells ∧ 6 ≤ R.slots)
    (d0 : decode cc pc = .ok (.new 111, 3)) (d3 : decode cc (pc + 3) = .ok (.dup, 1)) (d4 : decode cc (pc + 4) = .ok (.ldc is, 2)) (d6 : decode cc (pc + 6) = .ok (.invokespecial 115, 3)) (d9 : decode cc (pc + 9) = .ok (.athrow, 1)) :
    W p l e R s m args below meth c H locs 0 0 (vx_MQ below (fun _ _ _ _ => False) (qXC D cl tys wf A res) args s 1 6 A) (F0 m pc ls rest) := by
  cases hf
  subst his
  obtain ⟨hx, hb, hml, hown, hts, hret, hlocks, hN⟩ := C
  obtain ⟨hK, hP, hD, hS, hA⟩ := G
  obtain ⟨sa, hstr⟩ := T.2.1 j hj
  refine vx_throwS (names := ["java/lang/RuntimeException", "java/lang/Exception"]) hx hb hl0 hown (by decide +kernel) (by decide +kernel) (hts _ qu_2k) (hts _ qu_2i) hstr (fun w hw => (qu_2a w hw).elim (fun h => va_Nw.use (qtw_on w h) (T.1 w h)) (fun h => hts w h)) qu_2g T.2.2.1 T.2.2.2 hS (hls.trans hml.symm) d0 d3 d4 d6 d9 (fun x hx9 => (hb0 x hx9).elim) hR hR2 (by rw [Nat.zero_add]; exact hRc.1) (by rw [Nat.zero_add]; exact hRc.2) hlocks (fun t hvm hz hq => ?_) hS.2.2 (Nat.le_refl _) (Nat.le_refl _)
  refine ⟨S, rfl, ⟨rfl, hP.kept (fun k q hk => hq _ ((hP k q hk).lt)), va_K.moved hvm hK, hD⟩, Nat.le_trans hS.1 hz, fun q h1 h2 => by rw [hq q (Nat.lt_of_lt_of_le h1 hS.1)]; exact hS.2.1 q h1 h2⟩
def gX_set_10  (S : qS) : Option (Nat × qS) :=
  some (0, S)
def gX_set  (S : qS) (a1 : Int32) (a2 : Int32) : Option (Nat × qS) :=
  if a1 < 0 then
    gX_set_10 S
  else
    if a1 < 16 then
      none
    else
      gX_set_10 S
set_option maxHeartbeats 4000000 in
set_option maxRecDepth 100000 in
theorem vX_set_10 {l : Launch} {D : va_G} {h : Nat → Nat} {K : Nat → ClassId} {res : Nat × qS} {p : Program} {e : Env} {s : State} {m : MethodId} {args : Array Value} {below : List Frame} {meth : Method} {c : Code} {A : Nat → Prop} {ad : Nat → Nat} (hl0 : l.stackTraces = false) (C : qC p s m args meth c qm_X_set_c 3 none qR_X ad) (T : qT A s s.heap) (hb0 : ∀ x ∈ c.exceptionTable.toList, False) (S : qS) (hf : gX_set_10 S = some res) : ∀ (H : Heap) (locs : List Loc) (ls : Array Slot), qG D qCl (cT K) A s (cW h K S) H locs → lv_has ls 3 [] → W p l e ({ frames := 6, cells := 1, slots := 6, locals := 90 }) s m args below meth c H locs 0 0 (vx_MQ below (fun _ _ _ _ => False) (qXC D qCl (cT K) (cW h K) A res) args s 1 6 A) (F0 m 10 ls []) := by
  intro H locs ls G hl
  unfold gX_set_10 at hf
  exact q_throw0 (wf := (cW h K)) (j := 0) hl0 C G T hb0 hf hl.1 (by decide) rfl (by decide) (Nat.le_of_ble_eq_true rfl) ⟨by decide, by decide⟩ qm_X_set_10 qm_X_set_13 qm_X_set_14 qm_X_set_16 qm_X_set_19
set_option maxHeartbeats 4000000 in
set_option maxRecDepth 100000 in
theorem vX_set {l : Launch} {D : va_G} {h : Nat → Nat} {K : Nat → ClassId} {res : Nat × qS} {p : Program} {e : Env} {s : State} {m : MethodId} {args : Array Value} {below : List Frame} {meth : Method} {c : Code} {A : Nat → Prop} {ad : Nat → Nat} (hl0 : l.stackTraces = false) (C : qC p s m args meth c qm_X_set_c 3 none qR_X ad) (T : qT A s s.heap) (hb0 : ∀ x ∈ c.exceptionTable.toList, False) (S : qS) (a1 : Int32) (a2 : Int32) (hf : gX_set S a1 a2 = some res) : ∀ (H : Heap) (locs : List Loc) (ls : Array Slot), qG D qCl (cT K) A s (cW h K S) H locs → lv_has ls 3 [(0, .ref (h 0)), (1, .int a1), (2, .int a2)] → W p l e ({ frames := 6, cells := 1, slots := 6, locals := 90 }) s m args below meth c H locs 0 0 (vx_MQ below (fun _ _ _ _ => False) (qXC D qCl (cT K) (cW h K) A res) args s 1 6 A) (F0 m 0 ls []) := by
  intro H locs ls G hl
  unfold gX_set at hf
  refine lv_iload_n C.1 C.2.1 qm_X_set_0 rfl (lv_at hl 1 rfl) ?_
  refine lv_if_lt (tgt := 10) C.1 C.2.1 qm_X_set_1 (by decide) (fun b1 => ?_) (fun b1 => ?_)
  · have hf := if_t b1 hf
    exact vX_set_10 hl0 C T hb0 S hf _ _ _ G (lv_sub hl [] rfl)
  · have hf := if_f b1 hf
    refine lv_iload_n C.1 C.2.1 qm_X_set_4 rfl (lv_at hl 1 rfl) ?_
    refine lv_bipush (v := 16) C.1 C.2.1 qm_X_set_5 (by decide) ?_
    refine lv_icmp_lt (tgt := 20) C.1 C.2.1 qm_X_set_7 (by decide) (fun b2 => ?_) (fun b2 => ?_)
    · have hf := if_t b2 hf
      cases hf
    · have hf := if_f b2 hf
      exact vX_set_10 hl0 C T hb0 S hf _ _ _ G (lv_sub hl [] rfl)
theorem tX_set {l : Launch} {ad : Nat → Nat} {D : va_G} {h : Nat → Nat} {K : Nat → ClassId} {res : Nat × qS} {S : qS} {a1 : Int32} {a2 : Int32} (hl0 : l.stackTraces = false) (hf : gX_set S a1 a2 = some res) : qMt l qm_X_set qm_X_set_c 3 none 6 90 D qCl (cT K) ad (cW h K) [.ref (h 0), .int a1, .int a2] S res := qMt_of (by decide) (Nat.le_of_ble_eq_true rfl) (fun _ _ _ _ _ _ _ _ _ _ C T hb0 G hl => vX_set hl0 C T hb0 S a1 a2 hf _ _ _ G hl)
def gX_register_10  (S : qS) : Option (Nat × qS) :=
  some (0, S)
def gX_register  (S : qS) (a1 : Int32) : Option (Nat × qS) :=
  if a1 < 0 then
    gX_register_10 S
  else
    if a1 < 16 then
      none
    else
      gX_register_10 S
set_option maxHeartbeats 4000000 in
set_option maxRecDepth 100000 in
theorem vX_register_10 {l : Launch} {D : va_G} {h : Nat → Nat} {K : Nat → ClassId} {res : Nat × qS} {p : Program} {e : Env} {s : State} {m : MethodId} {args : Array Value} {below : List Frame} {meth : Method} {c : Code} {A : Nat → Prop} {ad : Nat → Nat} (hl0 : l.stackTraces = false) (C : qC p s m args meth c qm_X_register_c 2 (some .int) qR_X ad) (T : qT A s s.heap) (hb0 : ∀ x ∈ c.exceptionTable.toList, False) (S : qS) (hf : gX_register_10 S = some res) : ∀ (H : Heap) (locs : List Loc) (ls : Array Slot), qG D qCl (cT K) A s (cW h K S) H locs → lv_has ls 2 [] → W p l e ({ frames := 6, cells := 1, slots := 6, locals := 90 }) s m args below meth c H locs 0 0 (vx_MQ below (fun _ _ _ _ => False) (qXC D qCl (cT K) (cW h K) A res) args s 1 6 A) (F0 m 10 ls []) := by
  intro H locs ls G hl
  unfold gX_register_10 at hf
  exact q_throw0 (wf := (cW h K)) (j := 0) hl0 C G T hb0 hf hl.1 (by decide) rfl (by decide) (Nat.le_of_ble_eq_true rfl) ⟨by decide, by decide⟩ qm_X_register_10 qm_X_register_13 qm_X_register_14 qm_X_register_16 qm_X_register_19
set_option maxHeartbeats 4000000 in
set_option maxRecDepth 100000 in
theorem vX_register {l : Launch} {D : va_G} {h : Nat → Nat} {K : Nat → ClassId} {res : Nat × qS} {p : Program} {e : Env} {s : State} {m : MethodId} {args : Array Value} {below : List Frame} {meth : Method} {c : Code} {A : Nat → Prop} {ad : Nat → Nat} (hl0 : l.stackTraces = false) (C : qC p s m args meth c qm_X_register_c 2 (some .int) qR_X ad) (T : qT A s s.heap) (hb0 : ∀ x ∈ c.exceptionTable.toList, False) (S : qS) (a1 : Int32) (hf : gX_register S a1 = some res) : ∀ (H : Heap) (locs : List Loc) (ls : Array Slot), qG D qCl (cT K) A s (cW h K S) H locs → lv_has ls 2 [(0, .ref (h 0)), (1, .int a1)] → W p l e ({ frames := 6, cells := 1, slots := 6, locals := 90 }) s m args below meth c H locs 0 0 (vx_MQ below (fun _ _ _ _ => False) (qXC D qCl (cT K) (cW h K) A res) args s 1 6 A) (F0 m 0 ls []) := by
  intro H locs ls G hl
  unfold gX_register at hf
  refine lv_iload_n C.1 C.2.1 qm_X_register_0 rfl (lv_at hl 1 rfl) ?_
  refine lv_if_lt (tgt := 10) C.1 C.2.1 qm_X_register_1 (by decide) (fun b1 => ?_) (fun b1 => ?_)
  · have hf := if_t b1 hf
    exact vX_register_10 hl0 C T hb0 S hf _ _ _ G (lv_sub hl [] rfl)
  · have hf := if_f b1 hf
    refine lv_iload_n C.1 C.2.1 qm_X_register_4 rfl (lv_at hl 1 rfl) ?_
    refine lv_bipush (v := 16) C.1 C.2.1 qm_X_register_5 (by decide) ?_
    refine lv_icmp_lt (tgt := 20) C.1 C.2.1 qm_X_register_7 (by decide) (fun b2 => ?_) (fun b2 => ?_)
    · have hf := if_t b2 hf
      cases hf
    · have hf := if_f b2 hf
      exact vX_register_10 hl0 C T hb0 S hf _ _ _ G (lv_sub hl [] rfl)
theorem tX_register {l : Launch} {ad : Nat → Nat} {D : va_G} {h : Nat → Nat} {K : Nat → ClassId} {res : Nat × qS} {S : qS} {a1 : Int32} (hl0 : l.stackTraces = false) (hf : gX_register S a1 = some res) : qMt l qm_X_register qm_X_register_c 2 (some .int) 6 90 D qCl (cT K) ad (cW h K) [.ref (h 0), .int a1] S res := qMt_of (by decide) (Nat.le_of_ble_eq_true rfl) (fun _ _ _ _ _ _ _ _ _ _ C T hb0 G hl => vX_register hl0 C T hb0 S a1 hf _ _ _ G hl)
def gX_setInner  (S : qS) (a1 : Int32) (a2 : Int32) : Option (Nat × qS) :=
  (fCo_hasInner S a1).bind fun q1 =>
  if ¬ q1.1 = 0 then
    none
  else
    some (0, q1.2)
set_option maxHeartbeats 4000000 in
set_option maxRecDepth 100000 in
theorem vX_setInner {l : Launch} {D : va_G} {h : Nat → Nat} {K : Nat → ClassId} {res : Nat × qS} {p : Program} {e : Env} {s : State} {m : MethodId} {args : Array Value} {below : List Frame} {meth : Method} {c : Code} {A : Nat → Prop} {ad : Nat → Nat} (hl0 : l.stackTraces = false) (C : qC p s m args meth c qm_X_setInner_c 3 none qR_X ad) (T : qT A s s.heap) (hb0 : ∀ x ∈ c.exceptionTable.toList, False) (S : qS) (a1 : Int32) (a2 : Int32) (hf : gX_setInner S a1 a2 = some res) : ∀ (H : Heap) (locs : List Loc) (ls : Array Slot), qG D qCl (cT K) A s (cW h K S) H locs → lv_has ls 3 [(0, .ref (h 0)), (1, .int a1), (2, .int a2)] → W p l e ({ frames := 6, cells := 1, slots := 6, locals := 90 }) s m args below meth c H locs 0 0 (vx_MQ below (fun _ _ _ _ => False) (qXC D qCl (cT K) (cW h K) A res) args s 1 6 A) (F0 m 0 ls []) := by
  intro H locs ls G hl
  unfold gX_setInner at hf
  refine lv_aload_n C.1 C.2.1 qm_X_setInner_0 rfl (lv_at hl 0 rfl) ?_
  refine q_get (wf := (cW h K)) (v := .ref (h 5)) C G qi_X 0 rfl rfl 3 (by decide) qz_234 rfl qm_X_setInner_1 ?_
  refine lv_iload_n C.1 C.2.1 qm_X_setInner_4 rfl (lv_at hl 1 rfl) ?_
  obtain ⟨q1, c1, hf⟩ := bnd_s hf
  refine q_callVi (wf := (cW h K)) (n := 1) (As := [.int a1]) (q0 := 5) (ci := 1) C G hl.1 (kCo_hasInner (l := l) c1) qx_X_84 qm_Co_hasInner_d ⟨by decide, by decide⟩ ⟨Nat.zero_le _, Nat.zero_le _⟩ rfl rfl rfl rfl rfl (Nat.le_of_ble_eq_true rfl) qm_X_setInner_5 (fun H locs G => ?_)
  refine lv_if_ne (tgt := 21) C.1 C.2.1 qm_X_setInner_8 (by decide) (fun b2 => ?_) (fun b2 => ?_)
  · have hf := if_t b2 hf
    cases hf
  · have hf := if_f (not_not_intro b2) hf
    exact q_throw0 (wf := (cW h K)) (j := 1) hl0 C G T hb0 hf hl.1 (by decide) rfl (by decide) (Nat.le_of_ble_eq_true rfl) ⟨by decide, by decide⟩ qm_X_setInner_11 qm_X_setInner_14 qm_X_setInner_15 qm_X_setInner_17 qm_X_setInner_20
theorem tX_setInner {l : Launch} {ad : Nat → Nat} {D : va_G} {h : Nat → Nat} {K : Nat → ClassId} {res : Nat × qS} {S : qS} {a1 : Int32} {a2 : Int32} (hl0 : l.stackTraces = false) (hf : gX_setInner S a1 a2 = some res) : qMt l qm_X_setInner qm_X_setInner_c 3 none 6 90 D qCl (cT K) ad (cW h K) [.ref (h 0), .int a1, .int a2] S res := qMt_of (by decide) (Nat.le_of_ble_eq_true rfl) (fun _ _ _ _ _ _ _ _ _ _ C T hb0 G hl => vX_setInner hl0 C T hb0 S a1 a2 hf _ _ _ G hl)
def gX_inner  (S : qS) (a1 : Int32) : Option (Nat × qS) :=
  (fCo_hasInner S a1).bind fun q1 =>
  if ¬ q1.1 = 0 then
    none
  else
    some (0, q1.2)
set_option maxHeartbeats 4000000 in
set_option maxRecDepth 100000 in
theorem vX_inner {l : Launch} {D : va_G} {h : Nat → Nat} {K : Nat → ClassId} {res : Nat × qS} {p : Program} {e : Env} {s : State} {m : MethodId} {args : Array Value} {below : List Frame} {meth : Method} {c : Code} {A : Nat → Prop} {ad : Nat → Nat} (hl0 : l.stackTraces = false) (C : qC p s m args meth c qm_X_inner_c 2 (some .int) qR_X ad) (T : qT A s s.heap) (hb0 : ∀ x ∈ c.exceptionTable.toList, False) (S : qS) (a1 : Int32) (hf : gX_inner S a1 = some res) : ∀ (H : Heap) (locs : List Loc) (ls : Array Slot), qG D qCl (cT K) A s (cW h K S) H locs → lv_has ls 2 [(0, .ref (h 0)), (1, .int a1)] → W p l e ({ frames := 6, cells := 1, slots := 6, locals := 90 }) s m args below meth c H locs 0 0 (vx_MQ below (fun _ _ _ _ => False) (qXC D qCl (cT K) (cW h K) A res) args s 1 6 A) (F0 m 0 ls []) := by
  intro H locs ls G hl
  unfold gX_inner at hf
  refine lv_aload_n C.1 C.2.1 qm_X_inner_0 rfl (lv_at hl 0 rfl) ?_
  refine q_get (wf := (cW h K)) (v := .ref (h 5)) C G qi_X 0 rfl rfl 3 (by decide) qz_234 rfl qm_X_inner_1 ?_
  refine lv_iload_n C.1 C.2.1 qm_X_inner_4 rfl (lv_at hl 1 rfl) ?_
  obtain ⟨q1, c1, hf⟩ := bnd_s hf
  refine q_callVi (wf := (cW h K)) (n := 1) (As := [.int a1]) (q0 := 5) (ci := 1) C G hl.1 (kCo_hasInner (l := l) c1) qx_X_84 qm_Co_hasInner_d ⟨by decide, by decide⟩ ⟨Nat.zero_le _, Nat.zero_le _⟩ rfl rfl rfl rfl rfl (Nat.le_of_ble_eq_true rfl) qm_X_inner_5 (fun H locs G => ?_)
  refine lv_if_ne (tgt := 21) C.1 C.2.1 qm_X_inner_8 (by decide) (fun b2 => ?_) (fun b2 => ?_)
  · have hf := if_t b2 hf
    cases hf
  · have hf := if_f (not_not_intro b2) hf
    exact q_throw0 (wf := (cW h K)) (j := 1) hl0 C G T hb0 hf hl.1 (by decide) rfl (by decide) (Nat.le_of_ble_eq_true rfl) ⟨by decide, by decide⟩ qm_X_inner_11 qm_X_inner_14 qm_X_inner_15 qm_X_inner_17 qm_X_inner_20
theorem tX_inner {l : Launch} {ad : Nat → Nat} {D : va_G} {h : Nat → Nat} {K : Nat → ClassId} {res : Nat × qS} {S : qS} {a1 : Int32} (hl0 : l.stackTraces = false) (hf : gX_inner S a1 = some res) : qMt l qm_X_inner qm_X_inner_c 2 (some .int) 6 90 D qCl (cT K) ad (cW h K) [.ref (h 0), .int a1] S res := qMt_of (by decide) (Nat.le_of_ble_eq_true rfl) (fun _ _ _ _ _ _ _ _ _ _ C T hb0 G hl => vX_inner hl0 C T hb0 S a1 hf _ _ _ G hl)
def gX_begin  (S : qS) (a1 : Int32) : Option (Nat × qS) :=
  if (a1 &&& (-62914608)) = 0 then
    none
  else
    some (1, S)
set_option maxHeartbeats 4000000 in
set_option maxRecDepth 100000 in
theorem vX_begin {l : Launch} {D : va_G} {h : Nat → Nat} {K : Nat → ClassId} {res : Nat × qS} {p : Program} {e : Env} {s : State} {m : MethodId} {args : Array Value} {below : List Frame} {meth : Method} {c : Code} {A : Nat → Prop} {ad : Nat → Nat} (hl0 : l.stackTraces = false) (C : qC p s m args meth c qm_X_begin_c 2 none qR_X ad) (T : qT A s s.heap) (hb0 : ∀ x ∈ c.exceptionTable.toList, False) (S : qS) (a1 : Int32) (hf : gX_begin S a1 = some res) : ∀ (H : Heap) (locs : List Loc) (ls : Array Slot), qG D qCl (cT K) A s (cW h K S) H locs → lv_has ls 2 [(0, .ref (h 0)), (1, .int a1)] → W p l e ({ frames := 6, cells := 1, slots := 6, locals := 90 }) s m args below meth c H locs 0 0 (vx_MQ below (fun _ _ _ _ => False) (qXC D qCl (cT K) (cW h K) A res) args s 1 6 A) (F0 m 0 ls []) := by
  intro H locs ls G hl
  unfold gX_begin at hf
  refine lv_iload_n C.1 C.2.1 qm_X_begin_0 rfl (lv_at hl 1 rfl) ?_
  refine lv_ldc (own := "QuadMode") (v := (-62914608)) C.1 C.2.1 C.2.2.2.1 (C.2.2.2.2.1 _ qz_419) qm_X_begin_1 ?_
  refine lv_iand C.1 C.2.1 qm_X_begin_3 ?_
  refine lv_if_eq (tgt := 17) C.1 C.2.1 qm_X_begin_4 (by decide) (fun b1 => ?_) (fun b1 => ?_)
  · have hf := if_t b1 hf
    cases hf
  · have hf := if_f b1 hf
    exact q_throw1 (wf := (cW h K)) (j := 2) hl0 C G T hb0 hf hl.1 (by decide) rfl (by decide) (Nat.le_of_ble_eq_true rfl) ⟨by decide, by decide⟩ qm_X_begin_7 qm_X_begin_10 qm_X_begin_11 qm_X_begin_13 qm_X_begin_16
theorem tX_begin {l : Launch} {ad : Nat → Nat} {D : va_G} {h : Nat → Nat} {K : Nat → ClassId} {res : Nat × qS} {S : qS} {a1 : Int32} (hl0 : l.stackTraces = false) (hf : gX_begin S a1 = some res) : qMt l qm_X_begin qm_X_begin_c 2 none 6 90 D qCl (cT K) ad (cW h K) [.ref (h 0), .int a1] S res := qMt_of (by decide) (Nat.le_of_ble_eq_true rfl) (fun _ _ _ _ _ _ _ _ _ _ C T hb0 G hl => vX_begin hl0 C T hb0 S a1 hf _ _ _ G hl)
def gX_run_12  (S : qS) : Option (Nat × qS) :=
  some (1, S)
def gX_run  (S : qS) (a1 : Int32) : Option (Nat × qS) :=
  if a1 < 1 then
    gX_run_12 S
  else
    if a1 ≤ 200 then
      if (S.1 0) = 0 then
        none
      else
        some (2, S)
    else
      gX_run_12 S
set_option maxHeartbeats 4000000 in
set_option maxRecDepth 100000 in
theorem vX_run_12 {l : Launch} {D : va_G} {h : Nat → Nat} {K : Nat → ClassId} {res : Nat × qS} {p : Program} {e : Env} {s : State} {m : MethodId} {args : Array Value} {below : List Frame} {meth : Method} {c : Code} {A : Nat → Prop} {ad : Nat → Nat} (hl0 : l.stackTraces = false) (C : qC p s m args meth c qm_X_run_c 3 (some .int) qR_X ad) (T : qT A s s.heap) (hb0 : ∀ x ∈ c.exceptionTable.toList, False) (S : qS) (hf : gX_run_12 S = some res) : ∀ (H : Heap) (locs : List Loc) (ls : Array Slot), qG D qCl (cT K) A s (cW h K S) H locs → lv_has ls 3 [] → W p l e ({ frames := 6, cells := 1, slots := 6, locals := 90 }) s m args below meth c H locs 0 0 (vx_MQ below (fun _ _ _ _ => False) (qXC D qCl (cT K) (cW h K) A res) args s 1 6 A) (F0 m 12 ls []) := by
  intro H locs ls G hl
  unfold gX_run_12 at hf
  exact q_throw1 (wf := (cW h K)) (j := 3) hl0 C G T hb0 hf hl.1 (by decide) rfl (by decide) (Nat.le_of_ble_eq_true rfl) ⟨by decide, by decide⟩ qm_X_run_12 qm_X_run_15 qm_X_run_16 qm_X_run_18 qm_X_run_21
set_option maxHeartbeats 4000000 in
set_option maxRecDepth 100000 in
theorem vX_run {l : Launch} {D : va_G} {h : Nat → Nat} {K : Nat → ClassId} {res : Nat × qS} {p : Program} {e : Env} {s : State} {m : MethodId} {args : Array Value} {below : List Frame} {meth : Method} {c : Code} {A : Nat → Prop} {ad : Nat → Nat} (hl0 : l.stackTraces = false) (C : qC p s m args meth c qm_X_run_c 3 (some .int) qR_X ad) (T : qT A s s.heap) (hb0 : ∀ x ∈ c.exceptionTable.toList, False) (S : qS) (a1 : Int32) (hf : gX_run S a1 = some res) : ∀ (H : Heap) (locs : List Loc) (ls : Array Slot), qG D qCl (cT K) A s (cW h K S) H locs → lv_has ls 3 [(0, .ref (h 0)), (1, .int a1)] → W p l e ({ frames := 6, cells := 1, slots := 6, locals := 90 }) s m args below meth c H locs 0 0 (vx_MQ below (fun _ _ _ _ => False) (qXC D qCl (cT K) (cW h K) A res) args s 1 6 A) (F0 m 0 ls []) := by
  intro H locs ls G hl
  unfold gX_run at hf
  refine lv_iload_n C.1 C.2.1 qm_X_run_0 rfl (lv_at hl 1 rfl) ?_
  refine lv_iconst (v := 1) C.1 C.2.1 qm_X_run_1 (by decide) ?_
  refine lv_icmp_lt (tgt := 12) C.1 C.2.1 qm_X_run_2 (by decide) (fun b1 => ?_) (fun b1 => ?_)
  · have hf := if_t b1 hf
    exact vX_run_12 hl0 C T hb0 S hf _ _ _ G (lv_sub hl [] rfl)
  · have hf := if_f b1 hf
    refine lv_iload_n C.1 C.2.1 qm_X_run_5 rfl (lv_at hl 1 rfl) ?_
    refine lv_sipush (v := 200) C.1 C.2.1 qm_X_run_6 (by decide) ?_
    refine lv_icmp_le (tgt := 22) C.1 C.2.1 qm_X_run_9 (by decide) (fun b2 => ?_) (fun b2 => ?_)
    · have hf := if_t b2 hf
      refine lv_aload_n C.1 C.2.1 qm_X_run_22 rfl (lv_at hl 0 rfl) ?_
      refine q_get (wf := (cW h K)) (v := .int (S.1 0)) C G qi_X 0 rfl rfl 7 (by decide) qz_238 rfl qm_X_run_23 ?_
      refine lv_if_eq (tgt := 39) C.1 C.2.1 qm_X_run_26 (by decide) (fun b3 => ?_) (fun b3 => ?_)
      · have hf := if_t b3 hf
        cases hf
      · have hf := if_f b3 hf
        exact q_throw2 (wf := (cW h K)) (j := 4) hl0 C G T hb0 hf hl.1 (by decide) rfl (by decide) (Nat.le_of_ble_eq_true rfl) ⟨by decide, by decide⟩ qm_X_run_29 qm_X_run_32 qm_X_run_33 qm_X_run_35 qm_X_run_38
    · have hf := if_f b2 hf
      exact vX_run_12 hl0 C T hb0 S hf _ _ _ G (lv_sub hl [] rfl)
theorem tX_run {l : Launch} {ad : Nat → Nat} {D : va_G} {h : Nat → Nat} {K : Nat → ClassId} {res : Nat × qS} {S : qS} {a1 : Int32} (hl0 : l.stackTraces = false) (hf : gX_run S a1 = some res) : qMt l qm_X_run qm_X_run_c 3 (some .int) 6 90 D qCl (cT K) ad (cW h K) [.ref (h 0), .int a1] S res := qMt_of (by decide) (Nat.le_of_ble_eq_true rfl) (fun _ _ _ _ _ _ _ _ _ _ C T hb0 G hl => vX_run hl0 C T hb0 S a1 hf _ _ _ G hl)
def gX_reach_9  (S : qS) : Option (Nat × qS) :=
  some (1, S)
def gX_reach  (S : qS) (a1 : Int32) (a2 : Int32) (a3 : Int32) : Option (Nat × qS) :=
  if a3 < 0 then
    gX_reach_9 S
  else
    if a3 < 4 then
      none
    else
      gX_reach_9 S
set_option maxHeartbeats 4000000 in
set_option maxRecDepth 100000 in
theorem vX_reach_9 {l : Launch} {D : va_G} {h : Nat → Nat} {K : Nat → ClassId} {res : Nat × qS} {p : Program} {e : Env} {s : State} {m : MethodId} {args : Array Value} {below : List Frame} {meth : Method} {c : Code} {A : Nat → Prop} {ad : Nat → Nat} (hl0 : l.stackTraces = false) (C : qC p s m args meth c qm_X_reach_c 4 (some .int) qR_X ad) (T : qT A s s.heap) (hb0 : ∀ x ∈ c.exceptionTable.toList, False) (S : qS) (hf : gX_reach_9 S = some res) : ∀ (H : Heap) (locs : List Loc) (ls : Array Slot), qG D qCl (cT K) A s (cW h K S) H locs → lv_has ls 4 [] → W p l e ({ frames := 6, cells := 1, slots := 6, locals := 90 }) s m args below meth c H locs 0 0 (vx_MQ below (fun _ _ _ _ => False) (qXC D qCl (cT K) (cW h K) A res) args s 1 6 A) (F0 m 9 ls []) := by
  intro H locs ls G hl
  unfold gX_reach_9 at hf
  exact q_throw1 (wf := (cW h K)) (j := 5) hl0 C G T hb0 hf hl.1 (by decide) rfl (by decide) (Nat.le_of_ble_eq_true rfl) ⟨by decide, by decide⟩ qm_X_reach_9 qm_X_reach_12 qm_X_reach_13 qm_X_reach_15 qm_X_reach_18
set_option maxHeartbeats 4000000 in
set_option maxRecDepth 100000 in
theorem vX_reach {l : Launch} {D : va_G} {h : Nat → Nat} {K : Nat → ClassId} {res : Nat × qS} {p : Program} {e : Env} {s : State} {m : MethodId} {args : Array Value} {below : List Frame} {meth : Method} {c : Code} {A : Nat → Prop} {ad : Nat → Nat} (hl0 : l.stackTraces = false) (C : qC p s m args meth c qm_X_reach_c 4 (some .int) qR_X ad) (T : qT A s s.heap) (hb0 : ∀ x ∈ c.exceptionTable.toList, False) (S : qS) (a1 : Int32) (a2 : Int32) (a3 : Int32) (hf : gX_reach S a1 a2 a3 = some res) : ∀ (H : Heap) (locs : List Loc) (ls : Array Slot), qG D qCl (cT K) A s (cW h K S) H locs → lv_has ls 4 [(0, .ref (h 0)), (1, .int a1), (2, .int a2), (3, .int a3)] → W p l e ({ frames := 6, cells := 1, slots := 6, locals := 90 }) s m args below meth c H locs 0 0 (vx_MQ below (fun _ _ _ _ => False) (qXC D qCl (cT K) (cW h K) A res) args s 1 6 A) (F0 m 0 ls []) := by
  intro H locs ls G hl
  unfold gX_reach at hf
  refine lv_iload_n C.1 C.2.1 qm_X_reach_0 rfl (lv_at hl 3 rfl) ?_
  refine lv_if_lt (tgt := 9) C.1 C.2.1 qm_X_reach_1 (by decide) (fun b1 => ?_) (fun b1 => ?_)
  · have hf := if_t b1 hf
    exact vX_reach_9 hl0 C T hb0 S hf _ _ _ G (lv_sub hl [] rfl)
  · have hf := if_f b1 hf
    refine lv_iload_n C.1 C.2.1 qm_X_reach_4 rfl (lv_at hl 3 rfl) ?_
    refine lv_iconst (v := 4) C.1 C.2.1 qm_X_reach_5 (by decide) ?_
    refine lv_icmp_lt (tgt := 19) C.1 C.2.1 qm_X_reach_6 (by decide) (fun b2 => ?_) (fun b2 => ?_)
    · have hf := if_t b2 hf
      cases hf
    · have hf := if_f b2 hf
      exact vX_reach_9 hl0 C T hb0 S hf _ _ _ G (lv_sub hl [] rfl)
theorem tX_reach {l : Launch} {ad : Nat → Nat} {D : va_G} {h : Nat → Nat} {K : Nat → ClassId} {res : Nat × qS} {S : qS} {a1 : Int32} {a2 : Int32} {a3 : Int32} (hl0 : l.stackTraces = false) (hf : gX_reach S a1 a2 a3 = some res) : qMt l qm_X_reach qm_X_reach_c 4 (some .int) 6 90 D qCl (cT K) ad (cW h K) [.ref (h 0), .int a1, .int a2, .int a3] S res := qMt_of (by decide) (Nat.le_of_ble_eq_true rfl) (fun _ _ _ _ _ _ _ _ _ _ C T hb0 G hl => vX_reach hl0 C T hb0 S a1 a2 a3 hf _ _ _ G hl)
