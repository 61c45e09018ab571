/-! The law's own calls. -/
theorem q_swapK {D : va_G} {cl : List vw_C} {a b : List (ClassId × FieldType)} {U : State} (h : va_K D cl (a ++ b) U) : va_K D cl (b ++ a) U := by
  refine ⟨h.1, fun k q hk => ?_⟩
  rcases Nat.lt_or_ge k b.length with hl | hl
  · rw [List.getElem?_append_left hl] at hk
    exact h.2 (a.length + k) q (by rw [List.getElem?_append_right (Nat.le_add_right _ _), Nat.add_sub_cancel_left]; exact hk)
  · rw [List.getElem?_append_right hl] at hk
    have h2 : k - b.length < a.length := (List.getElem?_eq_some_iff.mp hk).1
    exact h.2 (k - b.length) q (by rw [List.getElem?_append_left h2]; exact hk)
theorem q_swapG {D : va_G} {cl : List vw_C} {ta tb : List (ClassId × FieldType)} {A : Nat → Prop} {s : State} {a b : va_W} {H : Heap} {locs : List Loc} (G : qG D cl (ta ++ tb) A s (a ++ b) H locs) : qG D cl (tb ++ ta) A s (b ++ a) H locs := ⟨q_swapK G.1, q_swapP G.2.1, q_swapD G.2.2.1, G.2.2.2⟩
theorem q_assocG {D : va_G} {cl : List vw_C} {ta tb tc : List (ClassId × FieldType)} {A : Nat → Prop} {s : State} {a b c : va_W} {H : Heap} {locs : List Loc} (G : qG D cl (ta ++ (tb ++ tc)) A s (a ++ (b ++ c)) H locs) : qG D cl ((ta ++ tb) ++ tc) A s ((a ++ b) ++ c) H locs := by
  rw [List.append_assoc, List.append_assoc]; exact G
theorem q_assocG' {D : va_G} {cl : List vw_C} {ta tb tc : List (ClassId × FieldType)} {A : Nat → Prop} {s : State} {a b c : va_W} {H : Heap} {locs : List Loc} (G : qG D cl ((ta ++ tb) ++ tc) A s ((a ++ b) ++ c) H locs) : qG D cl (ta ++ (tb ++ tc)) A s (a ++ (b ++ c)) H locs := by
  rw [List.append_assoc, List.append_assoc] at G; exact G
/-- the law's world: the reference's, the out array, the class's -/
abbrev qLs : Type := qS × qH
def lW (hm : Nat → Nat) (Km : Nat → ClassId) (h : Nat → Nat) (K : Nat → ClassId) (ho : Nat) (ko : ClassId) (w : qLs) : va_W := mW hm Km w.1 ++ hW h K ho ko w.2
def lT (Km K : Nat → ClassId) (ko : ClassId) : List (ClassId × FieldType) := mT Km ++ hT K ko
/-- what the law's walk knows -/
def qL (p : Program) (l : Launch) (s : State) (m : MethodId) (args : Array Value) (meth : Method) (c : Code) (ad av : Nat → Nat) (A : Nat → Prop) (b L : Nat) (xs : Nat → Int32) : Prop :=
  CallFix p m c code 7 s args qw R_law ∧ meth.sig.returnType = ret ∧ meth.locks = false ∧ l.stackTraces = false ∧ qN ad s ∧ qZ ad av A s s.heap ∧ qT A s s.heap ∧ qNc s ∧ va_X b L xs s s.heap ∧ b < s.heap.size ∧ ¬ A b ∧ L ≤ qLN
section QLC
variable {p : Program} {l : Launch} {e : Env} {R : Room} {s : State} {m : MethodId} {args : Array Value} {below : List Frame} {meth : Method} {c : Code} {H : Heap} {locs : List Loc} {cells slots : Nat} {Q : State → Prop}
variable {cc : ByteArray} {nL : Nat} {own : String} {D : va_G} {hm h : Nat → Nat} {Km K : Nat → ClassId} {ho : Nat} {ko : ClassId} {A : Nat → Prop} {pc : Nat} {ls : Array Slot} {rest : List Value} {ad av : Nat → Nat} {w : qLs}
theorem q_lxi {index nL' fr lo n : Nat} {y : MethodName} {cc' : ByteArray} {ty : FieldType} {As st : List Value} {res : Int32 × qS} (C : CallFix p m c cc nL s args qw own) (hN : qN ad s) (G : qG D qCl (lT Km K ko) A s (lW hm Km h K ho ko w) H locs) (hls : ls.size = nL) (hM : qMi l y cc' nL' ty fr lo D qCl (cT K) ad (cW h K) (.ref (h 0) :: As) w.2.1 res)
    (hw : Cond.methodLink own index y ∈ qw ∧ Cond.instanceMethod y ∈ qw ∧ Cond.selects y.cls y y ∈ qw ∧ Cond.initialized y.cls ∈ qw ∧ Cond.code y cc' nL' (some ty) ∈ qw) (hd : y.cls ≠ "java/lang/invoke/MethodHandle" ∧ y.cls ≠ "java/lang/invoke/VarHandle" ∧ (parseMethodDescriptor y.desc).map (fun d => d.parameters.length) = some n)
    (hR : fr + 1 ≤ R.frames ∧ 8 + (nL' + 11) + lo ≤ R.locals) (hcr : cells ≤ R.cells ∧ slots ≤ R.slots) (hq : qR_X = y.cls) (hn : As.length = n) (hst : st = As.reverse ++ .ref (h 0) :: rest) (h8 : (rest.map fun v => v.category).sum ≤ 8) (hdg : decode cc pc = .ok (.invokevirtual index, 3))
    (kk : ∀ (H1 : Heap) (locs1 : List Loc), qG D qCl (lT Km K ko) A s (lW hm Km h K ho ko (w.1, (res.2, w.2.2))) H1 locs1 → W p l e R s m args below meth c H1 locs1 cells slots Q (F0 m (pc + 3) ls (.int res.1 :: rest))) : W p l e R s m args below meth c H locs cells slots Q (F0 m pc ls st) :=
  q_fVi (wf := cW h K) (tr := mT Km ++ [(ko, .long)]) (r := mW hm Km w.1 ++ oE ho ko w.2.2) (q0 := 0) (ci := 6) C hN (q_assocG G) hls hM hw hd hR hcr rfl hq rfl hn hst h8 hdg (fun H1 locs1 G1 => kk H1 locs1 (q_assocG' G1))
theorem q_lxv {index nL' fr lo n : Nat} {y : MethodName} {cc' : ByteArray} {As st : List Value} {res : qS} (C : CallFix p m c cc nL s args qw own) (hN : qN ad s) (G : qG D qCl (lT Km K ko) A s (lW hm Km h K ho ko w) H locs) (hls : ls.size = nL) (hM : qMv l y cc' nL' fr lo D qCl (cT K) ad (cW h K) (.ref (h 0) :: As) w.2.1 res)
    (hw : Cond.methodLink own index y ∈ qw ∧ Cond.instanceMethod y ∈ qw ∧ Cond.selects y.cls y y ∈ qw ∧ Cond.initialized y.cls ∈ qw ∧ Cond.code y cc' nL' none ∈ qw) (hd : y.cls ≠ "java/lang/invoke/MethodHandle" ∧ y.cls ≠ "java/lang/invoke/VarHandle" ∧ (parseMethodDescriptor y.desc).map (fun d => d.parameters.length) = some n)
    (hR : fr + 1 ≤ R.frames ∧ 8 + (nL' + 11) + lo ≤ R.locals) (hcr : cells ≤ R.cells ∧ slots ≤ R.slots) (hq : qR_X = y.cls) (hn : As.length = n) (hst : st = As.reverse ++ .ref (h 0) :: rest) (h8 : (rest.map fun v => v.category).sum ≤ 8) (hdg : decode cc pc = .ok (.invokevirtual index, 3))
    (kk : ∀ (H1 : Heap) (locs1 : List Loc), qG D qCl (lT Km K ko) A s (lW hm Km h K ho ko (w.1, (res, w.2.2))) H1 locs1 → W p l e R s m args below meth c H1 locs1 cells slots Q (F0 m (pc + 3) ls rest)) : W p l e R s m args below meth c H locs cells slots Q (F0 m pc ls st) :=
  q_fVv (wf := cW h K) (tr := mT Km ++ [(ko, .long)]) (r := mW hm Km w.1 ++ oE ho ko w.2.2) (q0 := 0) (ci := 6) C hN (q_assocG G) hls hM hw hd hR hcr rfl hq rfl hn hst h8 hdg (fun H1 locs1 G1 => kk H1 locs1 (q_assocG' G1))
theorem q_lmi {index nL' fr lo n : Nat} {y : MethodName} {cc' : ByteArray} {ty : FieldType} {As st : List Value} {res : Int32 × qS} (C : CallFix p m c cc nL s args qw own) (hN : qN ad s) (G : qG D qCl (lT Km K ko) A s (lW hm Km h K ho ko w) H locs) (hls : ls.size = nL) (hM : qMi l y cc' nL' ty fr lo D qCl (mT Km) ad (mW hm Km) (.ref (hm 0) :: As) w.1 res)
    (hw : Cond.methodLink own index y ∈ qw ∧ Cond.instanceMethod y ∈ qw ∧ Cond.selects y.cls y y ∈ qw ∧ Cond.initialized y.cls ∈ qw ∧ Cond.code y cc' nL' (some ty) ∈ qw) (hd : y.cls ≠ "java/lang/invoke/MethodHandle" ∧ y.cls ≠ "java/lang/invoke/VarHandle" ∧ (parseMethodDescriptor y.desc).map (fun d => d.parameters.length) = some n)
    (hR : fr + 1 ≤ R.frames ∧ 8 + (nL' + 11) + lo ≤ R.locals) (hcr : cells ≤ R.cells ∧ slots ≤ R.slots) (hq : qR_M = y.cls) (hn : As.length = n) (hst : st = As.reverse ++ .ref (hm 0) :: rest) (h8 : (rest.map fun v => v.category).sum ≤ 8) (hdg : decode cc pc = .ok (.invokevirtual index, 3))
    (kk : ∀ (H1 : Heap) (locs1 : List Loc), qG D qCl (lT Km K ko) A s (lW hm Km h K ho ko (res.2, w.2)) H1 locs1 → W p l e R s m args below meth c H1 locs1 cells slots Q (F0 m (pc + 3) ls (.int res.1 :: rest))) : W p l e R s m args below meth c H locs cells slots Q (F0 m pc ls st) :=
  q_fVi (wf := mW hm Km) (tr := hT K ko) (r := hW h K ho ko w.2) (q0 := 0) (ci := 7) C hN (q_swapG G) hls hM hw hd hR hcr rfl hq rfl hn hst h8 hdg (fun H1 locs1 G1 => kk H1 locs1 (q_swapG G1))
theorem q_lmv {index nL' fr lo n : Nat} {y : MethodName} {cc' : ByteArray} {As st : List Value} {res : qS} (C : CallFix p m c cc nL s args qw own) (hN : qN ad s) (G : qG D qCl (lT Km K ko) A s (lW hm Km h K ho ko w) H locs) (hls : ls.size = nL) (hM : qMv l y cc' nL' fr lo D qCl (mT Km) ad (mW hm Km) (.ref (hm 0) :: As) w.1 res)
    (hw : Cond.methodLink own index y ∈ qw ∧ Cond.instanceMethod y ∈ qw ∧ Cond.selects y.cls y y ∈ qw ∧ Cond.initialized y.cls ∈ qw ∧ Cond.code y cc' nL' none ∈ qw) (hd : y.cls ≠ "java/lang/invoke/MethodHandle" ∧ y.cls ≠ "java/lang/invoke/VarHandle" ∧ (parseMethodDescriptor y.desc).map (fun d => d.parameters.length) = some n)
    (hR : fr + 1 ≤ R.frames ∧ 8 + (nL' + 11) + lo ≤ R.locals) (hcr : cells ≤ R.cells ∧ slots ≤ R.slots) (hq : qR_M = y.cls) (hn : As.length = n) (hst : st = As.reverse ++ .ref (hm 0) :: rest) (h8 : (rest.map fun v => v.category).sum ≤ 8) (hdg : decode cc pc = .ok (.invokevirtual index, 3))
    (kk : ∀ (H1 : Heap) (locs1 : List Loc), qG D qCl (lT Km K ko) A s (lW hm Km h K ho ko (res, w.2)) H1 locs1 → W p l e R s m args below meth c H1 locs1 cells slots Q (F0 m (pc + 3) ls rest)) : W p l e R s m args below meth c H locs cells slots Q (F0 m pc ls st) :=
  q_fVv (wf := mW hm Km) (tr := hT K ko) (r := hW h K ho ko w.2) (q0 := 0) (ci := 7) C hN (q_swapG G) hls hM hw hd hR hcr rfl hq rfl hn hst h8 hdg (fun H1 locs1 G1 => kk H1 locs1 (q_swapG G1))
theorem q_lh {index nL' fr lo n : Nat} {y : MethodName} {cc' : ByteArray} {hh : List (Nat × Nat × Nat × Nat)} {avs st : List Value} {res : Int32 × qH} (C : CallFix p m c cc nL s args qw own) (hN : qN ad s) (hZ : qZ ad av A s s.heap) (hT9 : qT A s s.heap) (hNc : qNc s) (G : qG D qCl (lT Km K ko) A s (lW hm Km h K ho ko w) H locs) (hls : ls.size = nL) (hM : qMh l y cc' nL' hh fr lo D ad av h K ho ko avs w.2 res)
    (hw : Cond.methodLink own index y ∈ qw ∧ Cond.static y ∈ qw ∧ Cond.initialized y.cls ∈ qw ∧ Cond.codeWith y cc' nL' (some .int) hh ∈ qw) (hd : y.cls ≠ "java/lang/invoke/MethodHandle" ∧ y.cls ≠ "java/lang/invoke/VarHandle" ∧ (parseMethodDescriptor y.desc).map (fun d => d.parameters.length) = some n)
    (hR : fr + 1 ≤ R.frames ∧ 8 + (nL' + 11) + lo ≤ R.locals) (hcr : cells + 1 ≤ R.cells ∧ slots + 6 ≤ R.slots) (hn : avs.length = n) (hst : st = avs.reverse ++ rest) (h8 : (rest.map fun v => v.category).sum ≤ 8) (hdg : decode cc pc = .ok (.invokestatic index, 3))
    (kk : ∀ (H1 : Heap) (locs1 : List Loc), qG D qCl (lT Km K ko) A s (lW hm Km h K ho ko (w.1, res.2)) H1 locs1 → W p l e R s m args below meth c H1 locs1 (cells + 1) (slots + 6) Q (F0 m (pc + 3) ls (.int res.1 :: rest))) : W p l e R s m args below meth c H locs cells slots Q (F0 m pc ls st) := by
  obtain ⟨hx, hb, hml, hown, hts⟩ := C
  obtain ⟨hK, hP, hD, hS, hA⟩ := G
  have hPw := q_rightP hP
  have hDw := q_rightD hD
  have hKw := q_rightK hK
  have hFc : ∀ z, va_A (hW h K ho ko w.2) H.size z → A z := fun z hz => by
    rcases hz with ⟨k, e, h⟩ | h
    · exact hDw.2 k _ h
    · exact hA z (Nat.le_trans hS.1 h)
  have hZ9 : qZ ad av (va_A (hW h K ho ko w.2) H.size) s H := qZ_narrow (qZ_kept hZ hS.2.1) hFc
  have hT8 : qT (va_A (hW h K ho ko w.2) H.size) s H := qT_narrow (qT_kept hT9 hS.2.1) hFc
  have hbl : FrameBlind (va_Pc avs (qPh D ad av h K ho ko w.2 H.size)) := fun a U g mk q => ⟨q.1, (qP_blind (av := avs) a U g mk ⟨q.1, q.2.1⟩).2, qZ_moved (u := U) (U := U.calling g mk a) (Vm.Alike.refl U.vm) q.2.2.1, qT_same (u := U) (U := U.calling g mk a) rfl q.2.2.2.1, va_Nc.moved (u := U) (U := U.calling g mk a) (Vm.Alike.refl U.vm) q.2.2.2.2⟩
  have hG : GoodIn qw (va_wsS own index y (.codeWith y cc' nL' (some .int) hh :: qw)) := qw_S hw.1 hw.2.1 hw.2.2.1 hw.2.2.2
  refine va_calli (vx_runSW (As := avs) (rest := rest) ⟨hx, hb, hml, hown, hts⟩ (hM H.size) (vx_cwSW n hts hG rfl rfl rfl hd hR) ⟨hbl, fun U hU hW9 => ⟨rfl, ⟨by rw [hU], by rw [hU]; exact hPw, va_K.moved hW9.alike hKw, hDw.weaken (fun _ _ _ _ => trivial), qN_warm hW9 hN⟩, by rw [hU]; exact qZ_moved hW9.alike hZ9, by rw [hU]; exact qT_warm hW9 hT8, va_Nc.moved hW9.alike hNc⟩⟩ rfl hn hls hst (lv_room h8) hdg hcr) hS (fun z _ h => hFc z h) hFc (fun r' u t H1 locs1 ht hvm hpost hB hz1 hk1 hS1 => ?_)
  cases hpost
  obtain ⟨hP1, hK1, hD1⟩ := hB
  rw [ht] at hP1
  obtain ⟨hP2, hD2⟩ := q_join hP hD hk1 hFc hP1 hD1
  exact kk H1 locs1 ⟨hK, hP2, hD2, hS1, hA⟩
end QLC
