/-! Walks over a world that is a function of a state. -/
/-- what a method's walk knows from its start on -/
def qC (p : Program) (s : State) (m : MethodId) (args : Array Value) (meth : Method) (c : Code) (cc : ByteArray) (nL : Nat) (ret : Option FieldType) (own : String) (ad : Nat → Nat) : Prop :=
  p.tables.exec = Jvm.exec ∧ c.code = cc ∧ c.maxLocals = nL ∧ s.vm.findClass own = some m.cls ∧ (∀ w ∈ qw, w.before args s = true) ∧ meth.sig.returnType = ret ∧ meth.locks = false ∧ qN ad s
section QW
variable {D : va_G} {cl : List vw_C} {tys : List (ClassId × FieldType)} {wf : qS → va_W} {A : Nat → Prop} {ad : Nat → Nat}
/-- the world at a state, as the walk has it -/
def qG (D : va_G) (cl : List vw_C) (tys : List (ClassId × FieldType)) (A : Nat → Prop) (s : State) (ws : va_W) (H : Heap) (locs : List Loc) : Prop :=
  va_K D cl tys s ∧ va_P D cl ws H ∧ va_D A ws ∧ va_S A s.heap H locs ∧ ∀ q : Nat, s.heap.size ≤ q → A q
def qP (D : va_G) (cl : List vw_C) (tys : List (ClassId × FieldType)) (ad : Nat → Nat) (ws : va_W) (sz : Nat) (U : State) : Prop :=
  U.heap.size = sz ∧ va_P D cl ws U.heap ∧ va_K D cl tys U ∧ va_D (fun _ => True) ws ∧ qN ad U
def qB (D : va_G) (cl : List vw_C) (tys : List (ClassId × FieldType)) (wf : qS → va_W) (A : Nat → Prop) (u : qS) (t : State) : Prop :=
  va_P D cl (wf u) t.heap ∧ va_K D cl tys t ∧ va_D A (wf u)
def qQi (D : va_G) (cl : List vw_C) (tys : List (ClassId × FieldType)) (wf : qS → va_W) (A : Nat → Prop) (res : Int32 × qS) : Array Value → State → Outcome → State → Prop :=
  va_Qi (fun (r : Int32) (u : qS) => (r, u) = res) (qB D cl tys wf A) A
def qQv (D : va_G) (cl : List vw_C) (tys : List (ClassId × FieldType)) (wf : qS → va_W) (A : Nat → Prop) (res : qS) : Array Value → State → Outcome → State → Prop :=
  va_Qv (fun u : qS => u = res) (qB D cl tys wf A) A
def qQs (D : va_G) (cl : List vw_C) (tys : List (ClassId × FieldType)) (ad : Nat → Nat) (wf : qS → va_W) (A : Nat → Prop) (res : Nat × qS) : Array Value → State → Outcome → State → Prop :=
  va_Qr (fun u : Nat × qS => u = res) (fun u a t => a = ad u.1 ∧ qB D cl tys wf A u.2 t) A
def qMs (l : Launch) (y : MethodName) (cc : ByteArray) (nL : Nat) (fr lo : Nat) (D : va_G) (cl : List vw_C) (tys : List (ClassId × FieldType)) (ad : Nat → Nat) (wf : qS → va_W) (av : List Value) (S : qS) (res : Nat × qS) : Prop :=
  ∀ sz : Nat, Met l y (.code y cc nL (some (.object "java/lang/String")) :: qw) ({ frames := fr, cells := 0, slots := 0, locals := lo }) (va_Pc av (qP D cl tys ad (wf S) sz)) (qQs D cl tys ad wf (va_A (wf S) sz) res) 0 0 (va_A (wf S) sz)
/-- a contract: the answer and the state behind are res -/
def qMi (l : Launch) (y : MethodName) (cc : ByteArray) (nL : Nat) (ty : FieldType) (fr lo : Nat) (D : va_G) (cl : List vw_C) (tys : List (ClassId × FieldType)) (ad : Nat → Nat) (wf : qS → va_W) (av : List Value) (S : qS) (res : Int32 × qS) : Prop :=
  ∀ sz : Nat, Met l y (.code y cc nL (some ty) :: qw) ({ frames := fr, cells := 0, slots := 0, locals := lo }) (va_Pc av (qP D cl tys ad (wf S) sz)) (qQi D cl tys wf (va_A (wf S) sz) res) 0 0 (va_A (wf S) sz)
def qMv (l : Launch) (y : MethodName) (cc : ByteArray) (nL : Nat) (fr lo : Nat) (D : va_G) (cl : List vw_C) (tys : List (ClassId × FieldType)) (ad : Nat → Nat) (wf : qS → va_W) (av : List Value) (S : qS) (res : qS) : Prop :=
  ∀ sz : Nat, Met l y (.code y cc nL none :: qw) ({ frames := fr, cells := 0, slots := 0, locals := lo }) (va_Pc av (qP D cl tys ad (wf S) sz)) (qQv D cl tys wf (va_A (wf S) sz) res) 0 0 (va_A (wf S) sz)
theorem qP_blind {ws : va_W} {sz : Nat} {av : List Value} : FrameBlind (va_Pc av (qP D cl tys ad ws sz)) := fun a U g mk q => by
  obtain ⟨q0, q1, qP, qK, qD, hN⟩ := q
  exact ⟨q0, q1, qP, va_K.moved (u := U) (U := U.calling g mk a) (Vm.Alike.refl U.vm) qK, qD, qN_same (u := U) (U := U.calling g mk a) rfl hN⟩
/-- a contract out of a walk of the body -/
theorem qMi_of {l : Launch} {y : MethodName} {cc : ByteArray} {nL fr lo : Nat} {ty : FieldType} {av : List Value} {S : qS} {res : Int32 × qS} (hy : plainName y.cls = true) (hn : (lg_sl av).length ≤ nL)
    (h : ∀ (p : Program) (e : Env) (s : State) (m : MethodId) (args : Array Value) (below : List Frame) (meth : Method) (c : Code) (A : Nat → Prop) (ls : Array Slot), qC p s m args meth c cc nL (some ty) y.cls ad → qG D cl tys A s (wf S) s.heap [] → lv_has ls nL (lv_args 0 av) →
      W p l e ({ frames := fr, cells := 0, slots := 0, locals := lo }) s m args below meth c s.heap [] 0 0 (MQ below (qQi D cl tys wf A res) args s 0 0 A) (F0 m 0 ls [])) : qMi l y cc nL ty fr lo D cl tys ad wf av S res := by
  intro sz
  refine Met.ofW (cc := cc) (maxL := nL) (ret := some ty) hy rfl ?_
  intro p e s m args below meth c s₁ B hml hv
  obtain ⟨rfl, hsz, hP, hK, hD0, hN⟩ := hv
  have hts := atoms_spec (ws := .code y cc nL (some ty) :: qw) B.pre
  have hown : s.vm.findClass y.cls = some m.cls := findClass_of_methodNamed B.named
  subst hsz
  have hl := lv_entry av (n := nL) hn
  rw [lg_entry_eq]
  exact h p e s m av.toArray below meth c _ _ ⟨B.exec, B.bytes, hml, hown, fun w hw => hts w (List.mem_cons_of_mem _ hw), B.returns, B.notSynchronized, hN⟩ ⟨hK, hP, hD0.self, va_S.rf, fun q h => Or.inr h⟩ hl
theorem qMv_of {l : Launch} {y : MethodName} {cc : ByteArray} {nL fr lo : Nat} {av : List Value} {S : qS} {res : qS} (hy : plainName y.cls = true) (hn : (lg_sl av).length ≤ nL)
    (h : ∀ (p : Program) (e : Env) (s : State) (m : MethodId) (args : Array Value) (below : List Frame) (meth : Method) (c : Code) (A : Nat → Prop) (ls : Array Slot), qC p s m args meth c cc nL none y.cls ad → qG D cl tys A s (wf S) s.heap [] → lv_has ls nL (lv_args 0 av) →
      W p l e ({ frames := fr, cells := 0, slots := 0, locals := lo }) s m args below meth c s.heap [] 0 0 (MQ below (qQv D cl tys wf A res) args s 0 0 A) (F0 m 0 ls [])) : qMv l y cc nL fr lo D cl tys ad wf av S res := by
  intro sz
  refine Met.ofW (cc := cc) (maxL := nL) (ret := none) hy rfl ?_
  intro p e s m args below meth c s₁ B hml hv
  obtain ⟨rfl, hsz, hP, hK, hD0, hN⟩ := hv
  have hts := atoms_spec (ws := .code y cc nL none :: qw) B.pre
  have hown : s.vm.findClass y.cls = some m.cls := findClass_of_methodNamed B.named
  subst hsz
  have hl := lv_entry av (n := nL) hn
  rw [lg_entry_eq]
  exact h p e s m av.toArray below meth c _ _ ⟨B.exec, B.bytes, hml, hown, fun w hw => hts w (List.mem_cons_of_mem _ hw), B.returns, B.notSynchronized, hN⟩ ⟨hK, hP, hD0.self, va_S.rf, fun q h => Or.inr h⟩ hl
theorem qMs_of {l : Launch} {y : MethodName} {cc : ByteArray} {nL fr lo : Nat} {av : List Value} {S : qS} {res : Nat × qS} (hy : plainName y.cls = true) (hn : (lg_sl av).length ≤ nL)
    (h : ∀ (p : Program) (e : Env) (s : State) (m : MethodId) (args : Array Value) (below : List Frame) (meth : Method) (c : Code) (A : Nat → Prop) (ls : Array Slot), qC p s m args meth c cc nL (some (.object "java/lang/String")) y.cls ad → qG D cl tys A s (wf S) s.heap [] → lv_has ls nL (lv_args 0 av) →
      W p l e ({ frames := fr, cells := 0, slots := 0, locals := lo }) s m args below meth c s.heap [] 0 0 (MQ below (qQs D cl tys ad wf A res) args s 0 0 A) (F0 m 0 ls [])) : qMs l y cc nL fr lo D cl tys ad wf av S res := by
  intro sz
  refine Met.ofW (cc := cc) (maxL := nL) (ret := some (.object "java/lang/String")) hy rfl ?_
  intro p e s m args below meth c s₁ B hml hv
  obtain ⟨rfl, hsz, hP, hK, hD0, hN⟩ := hv
  have hts := atoms_spec (ws := .code y cc nL (some (.object "java/lang/String")) :: qw) B.pre
  have hown : s.vm.findClass y.cls = some m.cls := findClass_of_methodNamed B.named
  subst hsz
  have hl := lv_entry av (n := nL) hn
  rw [lg_entry_eq]
  exact h p e s m av.toArray below meth c _ _ ⟨B.exec, B.bytes, hml, hown, fun w hw => hts w (List.mem_cons_of_mem _ hw), B.returns, B.notSynchronized, hN⟩ ⟨hK, hP, hD0.self, va_S.rf, fun q h => Or.inr h⟩ hl
end QW
section QR
variable {p : Program} {l : Launch} {e : Env} {R : Room} {s : State} {m : MethodId} {args : Array Value} {below : List Frame} {meth : Method} {c : Code} {H : Heap} {locs : List Loc} {cells slots : Nat} {Q : State → Prop}
variable {cc : ByteArray} {nL : Nat} {ret : Option FieldType} {own : String} {D : va_G} {cl : List vw_C} {tys : List (ClassId × FieldType)} {wf : qS → va_W} {A : Nat → Prop} {S : qS} {pc : Nat} {ls : Array Slot} {rest : List Value} {ad : Nat → Nat}
/-- ends -/
theorem q_iret {res : Int32 × qS} {v : Int32} (C : qC p s m args meth c cc nL (some .int) own ad) (G : qG D cl tys A s (wf S) H locs) (hr : some (v, S) = some res) (hdg : decode cc pc = .ok (.ireturn, 1)) : W p l e R s m args below meth c H locs cells slots (MQ below (qQi D cl tys wf A res) args s cells slots A) (F0 m pc ls [.int v]) := by
  obtain ⟨hx, hb, hml, hown, hts, hret, hlocks, hN⟩ := C
  obtain ⟨hK, hP, hD, hS, hA⟩ := G
  exact W.iret (v := v) hx hb hret (fun t ht hW => ⟨⟨v, S, rfl, Option.some.inj hr, by rw [ht]; exact hP, va_K.moved hW.alike hK, hD⟩, hS.F ht⟩) hS.2.2 hdg
theorem q_zret {res : Int32 × qS} {v : Int32} (C : qC p s m args meth c cc nL (some .boolean) own ad) (G : qG D cl tys A s (wf S) H locs) (hr : chk (isB v) (some (v, S)) = some res) (hdg : decode cc pc = .ok (.ireturn, 1)) : W p l e R s m args below meth c H locs cells slots (MQ below (qQi D cl tys wf A res) args s cells slots A) (F0 m pc ls [.int v]) := by
  obtain ⟨hx, hb, hml, hown, hts, hret, hlocks, hN⟩ := C
  obtain ⟨hK, hP, hD, hS, hA⟩ := G
  obtain ⟨hv, hr⟩ := chk_s hr
  exact W.zret (v := v) hx hb hret (isB_n hv) (fun t ht hW => ⟨⟨v, S, rfl, Option.some.inj hr, by rw [ht]; exact hP, va_K.moved hW.alike hK, hD⟩, hS.F ht⟩) hS.2.2 hdg
theorem q_vret {res : qS} (C : qC p s m args meth c cc nL none own ad) (G : qG D cl tys A s (wf S) H locs) (hr : some S = some res) (hdg : decode cc pc = .ok (.return_, 1)) : W p l e R s m args below meth c H locs cells slots (MQ below (qQv D cl tys wf A res) args s cells slots A) (F0 m pc ls []) := by
  obtain ⟨hx, hb, hml, hown, hts, hret, hlocks, hN⟩ := C
  obtain ⟨hK, hP, hD, hS, hA⟩ := G
  exact W.vret hx hb hret (fun t ht hW => ⟨⟨S, rfl, Option.some.inj hr, by rw [ht]; exact hP, va_K.moved hW.alike hK, hD⟩, hS.F ht⟩) hS.2.2 hdg
theorem q_sret {res : Nat × qS} {j : Nat} (C : qC p s m args meth c cc nL (some (.object "java/lang/String")) own ad) (G : qG D cl tys A s (wf S) H locs) (hr : some (j, S) = some res) (hdg : decode cc pc = .ok (.areturn, 1)) : W p l e R s m args below meth c H locs cells slots (MQ below (qQs D cl tys ad wf A res) args s cells slots A) (F0 m pc ls [.ref (ad j)]) := by
  obtain ⟨hx, hb, hml, hown, hts, hret, hlocks, hN⟩ := C
  obtain ⟨hK, hP, hD, hS, hA⟩ := G
  exact W.aret (v := .ref (ad j)) hx hb hret (Or.inl ⟨_, rfl⟩) (Or.inr ⟨_, rfl⟩) (fun t ht hW => ⟨⟨(j, S), ad j, rfl, Option.some.inj hr, rfl, by rw [ht]; exact hP, va_K.moved hW.alike hK, hD⟩, hS.F ht⟩) hS.2.2 hdg
/-- a field is read -/
theorem q_get {T : u_T} {N ci index : Nat} {CN : String} (C : qC p s m args meth c cc nL ret own ad) (G : qG D cl tys A s (wf S) H locs) (hin : ∀ w ∈ u_ws CN T N, w ∈ qw) (q0 : Nat) {a : Nat} {fs : List Value} (he : (wf S)[q0]? = some (a, .inr (ci, fs))) (hc : cl[ci]? = some (CN, T, N)) (k : Nat) (hk : k < N) (hlink : Cond.fieldLink own index (T k).1 (T k).2.1 (T k).2.2.1 ∈ qw) {v : Value} (hv : fs[k]? = some v) (hdg : decode cc pc = .ok (.getfield index, 3))
    (kk : W p l e R s m args below meth c H locs cells slots Q (F0 m (pc + 3) ls (v :: rest))) : W p l e R s m args below meth c H locs cells slots Q (F0 m pc ls (.ref a :: rest)) :=
  va_get C.1 C.2.1 C.2.2.2.2.1 hin C.2.2.2.1 G.1 G.2.1 q0 he hc k hk (C.2.2.2.2.1 _ hlink) (fun _ h => h) hv hdg kk
theorem q_getN {T : u_T} {N ci index : Nat} {CN host : String} (C : qC p s m args meth c cc nL ret own ad) (G : qG D cl tys A s (wf S) H locs) (hin : ∀ w ∈ u_ws CN T N, w ∈ qw) (q0 : Nat) {a : Nat} {fs : List Value} (he : (wf S)[q0]? = some (a, .inr (ci, fs))) (hc : cl[ci]? = some (CN, T, N)) (k : Nat) (hk : k < N) (hlink : Cond.fieldLinkNest own index (T k).1 (T k).2.1 (T k).2.2.1 host ∈ qnw) {v : Value} (hv : fs[k]? = some v) (hdg : decode cc pc = .ok (.getfield index, 3))
    (kk : W p l e R s m args below meth c H locs cells slots Q (F0 m (pc + 3) ls (v :: rest))) : W p l e R s m args below meth c H locs cells slots Q (F0 m pc ls (.ref a :: rest)) :=
  va_getN C.1 C.2.1 C.2.2.2.2.1 hin C.2.2.2.1 G.1 G.2.1 q0 he hc k hk (va_Nw.use rfl (C.2.2.2.2.2.2.2.1 _ hlink)) (fun _ h => h) hv hdg kk
/-- a number is put into a field -/
theorem q_put {S' : qS} {T : u_T} {N ci index : Nat} {CN : String} (C : qC p s m args meth c cc nL ret own ad) (G : qG D cl tys A s (wf S) H locs) (hin : ∀ w ∈ u_ws CN T N, w ∈ qw) (ty0 : Nat → FieldType) (hty : ∀ k, k < N → parseFieldDescriptor (T k).2.2.1 = some (ty0 k)) (hnm : ∀ a, a < N → ∀ b, b < N → a ≠ b → (T a).2.1 ≠ (T b).2.1) (q0 : Nat) {a : Nat} {fs : List Value} (he : (wf S)[q0]? = some (a, .inr (ci, fs))) (hc : cl[ci]? = some (CN, T, N)) (k : Nat) (hk : k < N) (hlink : Cond.fieldLink own index (T k).1 (T k).2.1 (T k).2.2.1 ∈ qw) (hfin : (T k).2.2.2 = false) (hI : ty0 k = .int) {v : Int32} (hl : k < fs.length) (hS' : (wf S).set q0 (a, .inr (ci, fs.set k (.int v))) = wf S') (hdg : decode cc pc = .ok (.putfield index, 3))
    (kk : ∀ (H1 : Heap) (locs1 : List Loc), qG D cl tys A s (wf S') H1 locs1 → W p l e R s m args below meth c H1 locs1 cells slots Q (F0 m (pc + 3) ls rest)) : W p l e R s m args below meth c H locs cells slots Q (F0 m pc ls (.int v :: .ref a :: rest)) := by
  obtain ⟨hK, hP, hD, hS, hA⟩ := G
  refine va_put C.1 C.2.1 C.2.2.2.2.1 hin ty0 hty hnm C.2.2.2.1 hK hP hD hS q0 he hc k hk (C.2.2.2.2.1 _ hlink) (fun _ h => h) hfin (ty := .int) (hI ▸ hty k hk) rfl rfl hl hdg (fun H1 locs1 hP hD hS => ?_)
  rw [hS'] at hP hD
  exact kk H1 locs1 ⟨hK, hP, hD, hS, hA⟩
theorem q_putN {S' : qS} {T : u_T} {N ci index : Nat} {CN host : String} (C : qC p s m args meth c cc nL ret own ad) (G : qG D cl tys A s (wf S) H locs) (hin : ∀ w ∈ u_ws CN T N, w ∈ qw) (ty0 : Nat → FieldType) (hty : ∀ k, k < N → parseFieldDescriptor (T k).2.2.1 = some (ty0 k)) (hnm : ∀ a, a < N → ∀ b, b < N → a ≠ b → (T a).2.1 ≠ (T b).2.1) (q0 : Nat) {a : Nat} {fs : List Value} (he : (wf S)[q0]? = some (a, .inr (ci, fs))) (hc : cl[ci]? = some (CN, T, N)) (k : Nat) (hk : k < N) (hlink : Cond.fieldLinkNest own index (T k).1 (T k).2.1 (T k).2.2.1 host ∈ qnw) (hfin : (T k).2.2.2 = false) (hI : ty0 k = .int) {v : Int32} (hl : k < fs.length) (hS' : (wf S).set q0 (a, .inr (ci, fs.set k (.int v))) = wf S') (hdg : decode cc pc = .ok (.putfield index, 3))
    (kk : ∀ (H1 : Heap) (locs1 : List Loc), qG D cl tys A s (wf S') H1 locs1 → W p l e R s m args below meth c H1 locs1 cells slots Q (F0 m (pc + 3) ls rest)) : W p l e R s m args below meth c H locs cells slots Q (F0 m pc ls (.int v :: .ref a :: rest)) := by
  obtain ⟨hK, hP, hD, hS, hA⟩ := G
  refine va_putN C.1 C.2.1 C.2.2.2.2.1 hin ty0 hty hnm C.2.2.2.1 hK hP hD hS q0 he hc k hk (va_Nw.use rfl (C.2.2.2.2.2.2.2.1 _ hlink)) (fun _ h => h) hfin (ty := .int) (hI ▸ hty k hk) rfl rfl hl hdg (fun H1 locs1 hP hD hS => ?_)
  rw [hS'] at hP hD
  exact kk H1 locs1 ⟨hK, hP, hD, hS, hA⟩
/-- arrays -/
theorem q_iald (C : qC p s m args meth c cc nL ret own ad) (G : qG D cl tys A s (wf S) H locs) (q0 t0 : Nat) {a : Nat} {cA : ClassId} {n : Nat} {f : Nat → Int32} (ha : (wf S)[q0]? = some (a, .inl (cA, n, .inl f))) (ht : tys[t0]? = some (cA, .int)) {i : Int32} (hin : inb i n = true) (hdg : decode cc pc = .ok (.iaload, 1))
    (kk : W p l e R s m args below meth c H locs cells slots Q (F0 m (pc + 1) ls (.int (f i.toNatClampNeg) :: rest))) : W p l e R s m args below meth c H locs cells slots Q (F0 m pc ls (.int i :: .ref a :: rest)) :=
  va_iald C.1 C.2.1 G.1 G.2.1 q0 t0 ha ht (inb_in hin) hdg kk
theorem q_bald (C : qC p s m args meth c cc nL ret own ad) (G : qG D cl tys A s (wf S) H locs) (q0 t0 : Nat) {a : Nat} {cA : ClassId} {n : Nat} {f : Nat → Int32} (ha : (wf S)[q0]? = some (a, .inl (cA, n, .inl f))) (ht : tys[t0]? = some (cA, .byte)) {i : Int32} (hin : inb i n = true) (hdg : decode cc pc = .ok (.baload, 1))
    (kk : W p l e R s m args below meth c H locs cells slots Q (F0 m (pc + 1) ls (.int (f i.toNatClampNeg) :: rest))) : W p l e R s m args below meth c H locs cells slots Q (F0 m pc ls (.int i :: .ref a :: rest)) :=
  va_bald C.1 C.2.1 G.1 G.2.1 q0 t0 ha ht (inb_in hin) hdg kk
theorem q_iast {S' : qS} (C : qC p s m args meth c cc nL ret own ad) (G : qG D cl tys A s (wf S) H locs) (q0 t0 : Nat) {a : Nat} {cA : ClassId} {n : Nat} {f : Nat → Int32} (ha : (wf S)[q0]? = some (a, .inl (cA, n, .inl f))) (ht : tys[t0]? = some (cA, .int)) {i x : Int32} (hin : inb i n = true) (hS' : (wf S).set q0 (a, .inl (cA, n, .inl (upd f i.toNatClampNeg x))) = wf S') (hdg : decode cc pc = .ok (.iastore, 1))
    (kk : ∀ (H1 : Heap) (locs1 : List Loc), qG D cl tys A s (wf S') H1 locs1 → W p l e R s m args below meth c H1 locs1 cells slots Q (F0 m (pc + 1) ls rest)) : W p l e R s m args below meth c H locs cells slots Q (F0 m pc ls (.int x :: .int i :: .ref a :: rest)) := by
  obtain ⟨hK, hP, hD, hS, hA⟩ := G
  refine va_iast C.1 C.2.1 hK hP hD hS q0 t0 ha ht (inb_in hin) hdg (fun H1 locs1 hP hD hS => ?_)
  rw [hS'] at hP hD
  exact kk H1 locs1 ⟨hK, hP, hD, hS, hA⟩
theorem q_bast {S' : qS} (C : qC p s m args meth c cc nL ret own ad) (G : qG D cl tys A s (wf S) H locs) (q0 t0 : Nat) {a : Nat} {cA : ClassId} {n : Nat} {f : Nat → Int32} (ha : (wf S)[q0]? = some (a, .inl (cA, n, .inl f))) (ht : tys[t0]? = some (cA, .byte)) {i x : Int32} (hin : inb i n = true) (hS' : (wf S).set q0 (a, .inl (cA, n, .inl (upd f i.toNatClampNeg (vp_nar .byte x)))) = wf S') (hdg : decode cc pc = .ok (.bastore, 1))
    (kk : ∀ (H1 : Heap) (locs1 : List Loc), qG D cl tys A s (wf S') H1 locs1 → W p l e R s m args below meth c H1 locs1 cells slots Q (F0 m (pc + 1) ls rest)) : W p l e R s m args below meth c H locs cells slots Q (F0 m pc ls (.int x :: .int i :: .ref a :: rest)) := by
  obtain ⟨hK, hP, hD, hS, hA⟩ := G
  refine va_bast C.1 C.2.1 hK hP hD hS q0 t0 ha ht (inb_in hin) hdg (fun H1 locs1 hP hD hS => ?_)
  rw [hS'] at hP hD
  exact kk H1 locs1 ⟨hK, hP, hD, hS, hA⟩
/-- calls: a method of an object of the world, a static one -/
theorem q_callVi {index nL' fr lo n q0 ci : Nat} {y : MethodName} {cc' : ByteArray} {ty : FieldType} {b : Nat} {fs : List Value} {As st : List Value} {res : Int32 × qS} {q : vw_C} (C : qC p s m args meth c cc nL ret own ad) (G : qG D cl tys A s (wf S) H locs) (hls : ls.size = nL) (hM : qMi l y cc' nL' ty fr lo D cl tys ad wf (.ref b :: As) S res)
    (hw : Cond.methodLink own index y ∈ qw ∧ Cond.instanceMethod y ∈ qw ∧ Cond.selects y.cls y y ∈ qw ∧ Cond.initialized y.cls ∈ qw ∧ Cond.code y cc' nL' (some ty) ∈ qw) (hd : y.cls ≠ "java/lang/invoke/MethodHandle" ∧ y.cls ≠ "java/lang/invoke/VarHandle" ∧ (parseMethodDescriptor y.desc).map (fun d => d.parameters.length) = some n)
    (hR : fr + 1 ≤ R.frames ∧ 8 + (nL' + 11) + lo ≤ R.locals) (hcr : cells ≤ R.cells ∧ slots ≤ R.slots) (hc : cl[ci]? = some q) (hq : q.1 = y.cls) (he : (wf S)[q0]? = some (b, .inr (ci, fs))) (hn : As.length = n) (hst : st = As.reverse ++ .ref b :: rest) (h8 : (rest.map fun v => v.category).sum ≤ 8) (hdg : decode cc pc = .ok (.invokevirtual index, 3))
    (kk : ∀ (H1 : Heap) (locs1 : List Loc), qG D cl tys A s (wf res.2) H1 locs1 → W p l e R s m args below meth c H1 locs1 cells slots Q (F0 m (pc + 3) ls (.int res.1 :: rest))) : W p l e R s m args below meth c H locs cells slots Q (F0 m pc ls st) := by
  obtain ⟨hx, hb, hml, hown, hts, -, -, hN⟩ := C
  obtain ⟨hK, hP, hD, hS, hA⟩ := G
  have hFc : ∀ z, va_A (wf S) H.size z → A z := fun z hz => by
    rcases hz with ⟨k, e, h⟩ | h
    · exact hD.2 k _ h
    · exact hA z (Nat.le_trans hS.1 h)
  have hG : GoodIn qw (wsV own index y.cls y (.code y cc' nL' (some ty) :: qw)) := qw_gl (fun w h => by simp only [List.mem_cons, List.not_mem_nil, or_false] at h; rcases h with rfl | rfl | rfl | rfl <;> simp only [hw]) (qw_gc hw.2.2.2.2)
  have hrc := va_recv hK hP hc he
  rw [hq] at hrc
  refine va_calli (va_runV (As := As) (rest := rest) ⟨hx, hb, hml, hown, hts⟩ (hM H.size) (cwV n hts hG rfl rfl rfl ⟨rfl, hd⟩ hR) ⟨qP_blind, hrc, fun U hU hW => ⟨rfl, by rw [hU], by rw [hU]; exact hP, va_K.moved hW.alike hK, hD.weaken (fun _ _ _ _ => trivial), qN_warm hW hN⟩⟩ rfl hn hls hst (lv_room h8) hdg hcr) hS (fun z _ h => hFc z h) hFc (fun r' u t H1 locs1 ht hvm hpost hB hz1 hk1 hS1 => ?_)
  cases hpost
  obtain ⟨hP1, hK1, hD1⟩ := hB
  rw [ht] at hP1
  exact kk H1 locs1 ⟨hK, hP1, ⟨hD1.1, fun k z hz => hFc _ (hD1.2 k z hz)⟩, hS1, hA⟩
theorem q_callVv {index nL' fr lo n q0 ci : Nat} {y : MethodName} {cc' : ByteArray} {b : Nat} {fs : List Value} {As st : List Value} {S' : qS} {q : vw_C} (C : qC p s m args meth c cc nL ret own ad) (G : qG D cl tys A s (wf S) H locs) (hls : ls.size = nL) (hM : qMv l y cc' nL' fr lo D cl tys ad wf (.ref b :: As) S S')
    (hw : Cond.methodLink own index y ∈ qw ∧ Cond.instanceMethod y ∈ qw ∧ Cond.selects y.cls y y ∈ qw ∧ Cond.initialized y.cls ∈ qw ∧ Cond.code y cc' nL' none ∈ qw) (hd : y.cls ≠ "java/lang/invoke/MethodHandle" ∧ y.cls ≠ "java/lang/invoke/VarHandle" ∧ (parseMethodDescriptor y.desc).map (fun d => d.parameters.length) = some n)
    (hR : fr + 1 ≤ R.frames ∧ 8 + (nL' + 11) + lo ≤ R.locals) (hcr : cells ≤ R.cells ∧ slots ≤ R.slots) (hc : cl[ci]? = some q) (hq : q.1 = y.cls) (he : (wf S)[q0]? = some (b, .inr (ci, fs))) (hn : As.length = n) (hst : st = As.reverse ++ .ref b :: rest) (h8 : (rest.map fun v => v.category).sum ≤ 8) (hdg : decode cc pc = .ok (.invokevirtual index, 3))
    (kk : ∀ (H1 : Heap) (locs1 : List Loc), qG D cl tys A s (wf S') H1 locs1 → W p l e R s m args below meth c H1 locs1 cells slots Q (F0 m (pc + 3) ls rest)) : W p l e R s m args below meth c H locs cells slots Q (F0 m pc ls st) := by
  obtain ⟨hx, hb, hml, hown, hts, -, -, hN⟩ := C
  obtain ⟨hK, hP, hD, hS, hA⟩ := G
  have hFc : ∀ z, va_A (wf S) H.size z → A z := fun z hz => by
    rcases hz with ⟨k, e, h⟩ | h
    · exact hD.2 k _ h
    · exact hA z (Nat.le_trans hS.1 h)
  have hG : GoodIn qw (wsV own index y.cls y (.code y cc' nL' none :: qw)) := qw_gl (fun w h => by simp only [List.mem_cons, List.not_mem_nil, or_false] at h; rcases h with rfl | rfl | rfl | rfl <;> simp only [hw]) (qw_gc hw.2.2.2.2)
  have hrc := va_recv hK hP hc he
  rw [hq] at hrc
  refine va_callv (va_runV (As := As) (rest := rest) ⟨hx, hb, hml, hown, hts⟩ (hM H.size) (cwV n hts hG rfl rfl rfl ⟨rfl, hd⟩ hR) ⟨qP_blind, hrc, fun U hU hW => ⟨rfl, by rw [hU], by rw [hU]; exact hP, va_K.moved hW.alike hK, hD.weaken (fun _ _ _ _ => trivial), qN_warm hW hN⟩⟩ rfl hn hls hst (lv_room h8) hdg hcr) hS (fun z _ h => hFc z h) hFc (fun u t H1 locs1 ht hvm hpost hB hz1 hk1 hS1 => ?_)
  cases hpost
  obtain ⟨hP1, hK1, hD1⟩ := hB
  rw [ht] at hP1
  exact kk H1 locs1 ⟨hK, hP1, ⟨hD1.1, fun k z hz => hFc _ (hD1.2 k z hz)⟩, hS1, hA⟩
theorem q_callSi {index nL' fr lo n : Nat} {y : MethodName} {cc' : ByteArray} {ty : FieldType} {As st : List Value} {res : Int32 × qS} (C : qC p s m args meth c cc nL ret own ad) (G : qG D cl tys A s (wf S) H locs) (hls : ls.size = nL) (hM : qMi l y cc' nL' ty fr lo D cl tys ad wf As S res)
    (hw : Cond.methodLink own index y ∈ qw ∧ Cond.static y ∈ qw ∧ Cond.initialized y.cls ∈ qw ∧ Cond.code y cc' nL' (some ty) ∈ qw) (hd : y.cls ≠ "java/lang/invoke/MethodHandle" ∧ y.cls ≠ "java/lang/invoke/VarHandle" ∧ (parseMethodDescriptor y.desc).map (fun d => d.parameters.length) = some n)
    (hR : fr + 1 ≤ R.frames ∧ 8 + (nL' + 11) + lo ≤ R.locals) (hcr : cells ≤ R.cells ∧ slots ≤ R.slots) (hn : As.length = n) (hst : st = As.reverse ++ rest) (h8 : (rest.map fun v => v.category).sum ≤ 8) (hdg : decode cc pc = .ok (.invokestatic index, 3))
    (kk : ∀ (H1 : Heap) (locs1 : List Loc), qG D cl tys A s (wf res.2) H1 locs1 → W p l e R s m args below meth c H1 locs1 cells slots Q (F0 m (pc + 3) ls (.int res.1 :: rest))) : W p l e R s m args below meth c H locs cells slots Q (F0 m pc ls st) := by
  obtain ⟨hx, hb, hml, hown, hts, -, -, hN⟩ := C
  obtain ⟨hK, hP, hD, hS, hA⟩ := G
  have hFc : ∀ z, va_A (wf S) H.size z → A z := fun z hz => by
    rcases hz with ⟨k, e, h⟩ | h
    · exact hD.2 k _ h
    · exact hA z (Nat.le_trans hS.1 h)
  have hG : GoodIn qw (va_wsS own index y (.code y cc' nL' (some ty) :: qw)) := qw_gl (fun w h => by simp only [List.mem_cons, List.not_mem_nil, or_false] at h; rcases h with rfl | rfl | rfl <;> simp only [hw]) (qw_gc hw.2.2.2)
  refine va_calli (va_runS (As := As) (rest := rest) ⟨hx, hb, hml, hown, hts⟩ (hM H.size) (va_cwS n hts hG rfl rfl rfl hd hR) ⟨qP_blind, fun U hU hW => ⟨rfl, by rw [hU], by rw [hU]; exact hP, va_K.moved hW.alike hK, hD.weaken (fun _ _ _ _ => trivial), qN_warm hW hN⟩⟩ rfl hn hls hst (lv_room h8) hdg hcr) hS (fun z _ h => hFc z h) hFc (fun r' u t H1 locs1 ht hvm hpost hB hz1 hk1 hS1 => ?_)
  cases hpost
  obtain ⟨hP1, hK1, hD1⟩ := hB
  rw [ht] at hP1
  exact kk H1 locs1 ⟨hK, hP1, ⟨hD1.1, fun k z hz => hFc _ (hD1.2 k z hz)⟩, hS1, hA⟩
/-- System.arraycopy between two arrays of ints, Math.min, Math.max -/
theorem q_copy {S' : qS} {index : Nat} (C : qC p s m args meth c cc nL ret own ad) (G : qG D cl tys A s (wf S) H locs) (hls : ls.size = nL) (hw : Cond.methodLink own index arraycopyName ∈ qw ∧ Cond.native arraycopyName ∈ qw ∧ Cond.static arraycopyName ∈ qw ∧ Cond.initialized "java/lang/System" ∈ qw) (q0 q1 t0 t1 : Nat) {a0 a1 : Nat} {c0 c1 : ClassId} {n0 n1 : Nat} {f g : Nat → Int32} (ha0 : (wf S)[q0]? = some (a0, .inl (c0, n0, .inl f))) (ha1 : (wf S)[q1]? = some (a1, .inl (c1, n1, .inl g))) (ht0 : tys[t0]? = some (c0, .int)) (ht1 : tys[t1]? = some (c1, .int))
    {sp dp n : Int32} (h1 : ¬ sp < 0) (h2 : ¬ dp < 0) (h3 : ¬ n < 0) (h4 : sp.toNatClampNeg + n.toNatClampNeg ≤ n0) (h5 : dp.toNatClampNeg + n.toNatClampNeg ≤ n1) (hS' : (wf S).set q1 (a1, .inl (c1, n1, .inl (va_cpy f g sp.toNatClampNeg dp.toNatClampNeg n.toNatClampNeg))) = wf S')
    (hfr : 1 ≤ R.frames) (hlo : (rest.map fun v => v.category).sum + (nativeFrameWords "java/lang/System" "arraycopy" 5 + 11) ≤ R.locals) (hdg : decode cc pc = .ok (.invokestatic index, 3))
    (kk : ∀ (H1 : Heap) (locs1 : List Loc), qG D cl tys A s (wf S') H1 locs1 → W p l e R s m args below meth c H1 locs1 cells slots Q (F0 m (pc + 3) ls rest)) : W p l e R s m args below meth c H locs cells slots Q (F0 m pc ls (.int n :: .int dp :: .ref a1 :: .int sp :: .ref a0 :: rest)) := by
  obtain ⟨hx, hb, hml, hown, hts, -, -, hN⟩ := C
  obtain ⟨hK, hP, hD, hS, hA⟩ := G
  refine va_copyi hx hb (hml.trans hls.symm) hown (hts _ hw.1) (hts _ hw.2.1) (hts _ hw.2.2.1) (hts _ hw.2.2.2) hK hP hD hS q0 q1 t0 t1 ha0 ha1 ht0 ht1 rfl h1 h2 h3 h4 h5 (fun _ _ => rfl) hfr hlo hdg (fun H1 locs1 hP hD hS => ?_)
  rw [hS'] at hP hD
  exact kk H1 locs1 ⟨hK, hP, hD, hS, hA⟩
theorem q_min {index : Nat} (C : qC p s m args meth c cc nL ret own ad) (hls : ls.size = nL) (hw : Cond.methodLink own index Lib.Math.min.name ∈ qw ∧ Cond.static Lib.Math.min.name ∈ qw ∧ Cond.initialized "java/lang/Math" ∈ qw ∧ Cond.code Lib.Math.min.name Lib.Math.min.code 2 (some .int) ∈ qw) (hfr : 1 ≤ R.frames) (hlo : (rest.map fun v => v.category).sum + 13 ≤ R.locals) (hcr : cells ≤ R.cells ∧ slots ≤ R.slots) {x y : Int32} (hdg : decode cc pc = .ok (.invokestatic index, 3))
    (kk : W p l e R s m args below meth c H locs cells slots Q (F0 m (pc + 3) ls (.int (if y < x then y else x) :: rest))) : W p l e R s m args below meth c H locs cells slots Q (F0 m pc ls (.int y :: .int x :: rest)) := by
  obtain ⟨hx, hb, hml, hown, hts, -, -, hN⟩ := C
  exact va_mmin hx hb (hml.trans hls.symm) hown (hts _ hw.1) (hts _ hw.2.1) (hts _ hw.2.2.1) (hts _ hw.2.2.2) hfr hlo hcr.1 hcr.2 hdg kk
theorem q_max {index : Nat} (C : qC p s m args meth c cc nL ret own ad) (hls : ls.size = nL) (hw : Cond.methodLink own index Lib.Math.max.name ∈ qw ∧ Cond.static Lib.Math.max.name ∈ qw ∧ Cond.initialized "java/lang/Math" ∈ qw ∧ Cond.code Lib.Math.max.name Lib.Math.max.code 2 (some .int) ∈ qw) (hfr : 1 ≤ R.frames) (hlo : (rest.map fun v => v.category).sum + 13 ≤ R.locals) (hcr : cells ≤ R.cells ∧ slots ≤ R.slots) {x y : Int32} (hdg : decode cc pc = .ok (.invokestatic index, 3))
    (kk : W p l e R s m args below meth c H locs cells slots Q (F0 m (pc + 3) ls (.int (if x < y then y else x) :: rest))) : W p l e R s m args below meth c H locs cells slots Q (F0 m pc ls (.int y :: .int x :: rest)) := by
  obtain ⟨hx, hb, hml, hown, hts, -, -, hN⟩ := C
  exact va_mmax hx hb (hml.trans hls.symm) hown (hts _ hw.1) (hts _ hw.2.1) (hts _ hw.2.2.1) (hts _ hw.2.2.2) hfr hlo hcr.1 hcr.2 hdg kk
end QR
