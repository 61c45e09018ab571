section QFC
variable {p : Program} {l : Launch} {e : Env} {R : Room} {s : State} {m : MethodId} {args : Array Value} {below : List Frame} {meth : Method} {c : Code} {H : Heap} {locs : List Loc} {cells slots : Nat} {Q : State → Prop}
variable {cc : ByteArray} {nL : Nat} {own : String} {D : va_G} {cl : List vw_C} {tr tys : List (ClassId × FieldType)} {wf : qS → va_W} {r : va_W} {A : Nat → Prop} {S : qS} {pc : Nat} {ls : Array Slot} {rest : List Value} {ad av : Nat → Nat}
theorem q_rightK {D : va_G} {cl : List vw_C} {a b : List (ClassId × FieldType)} {U : State} (h : va_K D cl (a ++ b) U) : va_K D cl b U := ⟨h.1, fun k q hk => h.2 (a.length + k) q (by rw [List.getElem?_append_right (Nat.le_add_right _ _), Nat.add_sub_cancel_left]; exact hk)⟩
theorem q_fVi {index nL' fr lo n q0 ci : Nat} {y : MethodName} {cc' : ByteArray} {ty : FieldType} {b : Nat} {fs : List Value} {As st : List Value} {res : Int32 × qS} {q : vw_C} (C : CallFix p m c cc nL s args qw own) (hN : qN ad s) (G : qG D cl (tr ++ tys) A s (r ++ wf S) H locs) (hls : ls.size = nL) (hM : qMi l y cc' nL' ty fr lo D cl tys ad wf (.ref b :: As) S res)
    (hw : Cond.methodLink own index y ∈ qw ∧ Cond.instanceMethod y ∈ qw ∧ Cond.selects y.cls y y ∈ qw ∧ Cond.initialized y.cls ∈ qw ∧ Cond.code y cc' nL' (some ty) ∈ qw) (hd : y.cls ≠ "java/lang/invoke/MethodHandle" ∧ y.cls ≠ "java/lang/invoke/VarHandle" ∧ (parseMethodDescriptor y.desc).map (fun d => d.parameters.length) = some n)
    (hR : fr + 1 ≤ R.frames ∧ 8 + (nL' + 11) + lo ≤ R.locals) (hcr : cells ≤ R.cells ∧ slots ≤ R.slots) (hc : cl[ci]? = some q) (hq : q.1 = y.cls) (he : (wf S)[q0]? = some (b, .inr (ci, fs))) (hn : As.length = n) (hst : st = As.reverse ++ .ref b :: rest) (h8 : (rest.map fun v => v.category).sum ≤ 8) (hdg : decode cc pc = .ok (.invokevirtual index, 3))
    (kk : ∀ (H1 : Heap) (locs1 : List Loc), qG D cl (tr ++ tys) A s (r ++ wf res.2) H1 locs1 → W p l e R s m args below meth c H1 locs1 cells slots Q (F0 m (pc + 3) ls (.int res.1 :: rest))) : W p l e R s m args below meth c H locs cells slots Q (F0 m pc ls st) := by
  obtain ⟨hx, hb, hml, hown, hts⟩ := C
  obtain ⟨hK, hP, hD, hS, hA⟩ := G
  have hPw := q_rightP hP
  have hDw := q_rightD hD
  have hKw := q_rightK hK
  have hFc : ∀ z, va_A (wf S) H.size z → A z := fun z hz => by
    rcases hz with ⟨k, e, h⟩ | h
    · exact hDw.2 k _ h
    · exact hA z (Nat.le_trans hS.1 h)
  have hrc := va_recv hKw hPw hc he
  rw [hq] at hrc
  refine va_calli (va_runV (As := As) (rest := rest) ⟨hx, hb, hml, hown, hts⟩ (hM H.size) (cwV n hts (qw_V hw.1 hw.2.1 hw.2.2.1 hw.2.2.2.1 hw.2.2.2.2) rfl rfl rfl ⟨rfl, hd⟩ hR) ⟨qP_blind, hrc, fun U hU hW => ⟨rfl, by rw [hU], by rw [hU]; exact hPw, va_K.moved hW.alike hKw, hDw.weaken (fun _ _ _ _ => trivial), qN_warm hW hN⟩⟩ rfl hn hls hst (lv_room h8) hdg hcr) hS (fun z _ h => hFc z h) hFc (fun r' u t H1 locs1 ht hvm hpost hB hz1 hk1 hS1 => ?_)
  cases hpost
  obtain ⟨hP1, hK1, hD1⟩ := hB
  rw [ht] at hP1
  obtain ⟨hP2, hD2⟩ := q_join hP hD hk1 hFc hP1 hD1
  exact kk H1 locs1 ⟨hK, hP2, hD2, hS1, hA⟩
theorem q_fVv {index nL' fr lo n q0 ci : Nat} {y : MethodName} {cc' : ByteArray} {b : Nat} {fs : List Value} {As st : List Value} {res : qS} {q : vw_C} (C : CallFix p m c cc nL s args qw own) (hN : qN ad s) (G : qG D cl (tr ++ tys) A s (r ++ wf S) H locs) (hls : ls.size = nL) (hM : qMv l y cc' nL' fr lo D cl tys ad wf (.ref b :: As) S res)
    (hw : Cond.methodLink own index y ∈ qw ∧ Cond.instanceMethod y ∈ qw ∧ Cond.selects y.cls y y ∈ qw ∧ Cond.initialized y.cls ∈ qw ∧ Cond.code y cc' nL' none ∈ qw) (hd : y.cls ≠ "java/lang/invoke/MethodHandle" ∧ y.cls ≠ "java/lang/invoke/VarHandle" ∧ (parseMethodDescriptor y.desc).map (fun d => d.parameters.length) = some n)
    (hR : fr + 1 ≤ R.frames ∧ 8 + (nL' + 11) + lo ≤ R.locals) (hcr : cells ≤ R.cells ∧ slots ≤ R.slots) (hc : cl[ci]? = some q) (hq : q.1 = y.cls) (he : (wf S)[q0]? = some (b, .inr (ci, fs))) (hn : As.length = n) (hst : st = As.reverse ++ .ref b :: rest) (h8 : (rest.map fun v => v.category).sum ≤ 8) (hdg : decode cc pc = .ok (.invokevirtual index, 3))
    (kk : ∀ (H1 : Heap) (locs1 : List Loc), qG D cl (tr ++ tys) A s (r ++ wf res) H1 locs1 → W p l e R s m args below meth c H1 locs1 cells slots Q (F0 m (pc + 3) ls rest)) : W p l e R s m args below meth c H locs cells slots Q (F0 m pc ls st) := by
  obtain ⟨hx, hb, hml, hown, hts⟩ := C
  obtain ⟨hK, hP, hD, hS, hA⟩ := G
  have hPw := q_rightP hP
  have hDw := q_rightD hD
  have hKw := q_rightK hK
  have hFc : ∀ z, va_A (wf S) H.size z → A z := fun z hz => by
    rcases hz with ⟨k, e, h⟩ | h
    · exact hDw.2 k _ h
    · exact hA z (Nat.le_trans hS.1 h)
  have hrc := va_recv hKw hPw hc he
  rw [hq] at hrc
  refine va_callv (va_runV (As := As) (rest := rest) ⟨hx, hb, hml, hown, hts⟩ (hM H.size) (cwV n hts (qw_V hw.1 hw.2.1 hw.2.2.1 hw.2.2.2.1 hw.2.2.2.2) rfl rfl rfl ⟨rfl, hd⟩ hR) ⟨qP_blind, hrc, fun U hU hW => ⟨rfl, by rw [hU], by rw [hU]; exact hPw, va_K.moved hW.alike hKw, hDw.weaken (fun _ _ _ _ => trivial), qN_warm hW hN⟩⟩ rfl hn hls hst (lv_room h8) hdg hcr) hS (fun z _ h => hFc z h) hFc (fun u t H1 locs1 ht hvm hpost hB hz1 hk1 hS1 => ?_)
  cases hpost
  obtain ⟨hP1, hK1, hD1⟩ := hB
  rw [ht] at hP1
  obtain ⟨hP2, hD2⟩ := q_join hP hD hk1 hFc hP1 hD1
  exact kk H1 locs1 ⟨hK, hP2, hD2, hS1, hA⟩
theorem q_fViZ {index nL' fr lo n q0 ci : Nat} {y : MethodName} {cc' : ByteArray} {ty : FieldType} {b : Nat} {fs : List Value} {As st : List Value} {res : Int32 × qS} {q : vw_C} (C : CallFix p m c cc nL s args qw own) (hN : qN ad s) (Z : qZ ad av A s s.heap) (G : qG D cl (tr ++ tys) A s (r ++ wf S) H locs) (hls : ls.size = nL) (hM : qMiZ l y cc' nL' ty fr lo D cl tys ad av wf (.ref b :: As) S res)
    (hw : Cond.methodLink own index y ∈ qw ∧ Cond.instanceMethod y ∈ qw ∧ Cond.selects y.cls y y ∈ qw ∧ Cond.initialized y.cls ∈ qw ∧ Cond.code y cc' nL' (some ty) ∈ qw) (hd : y.cls ≠ "java/lang/invoke/MethodHandle" ∧ y.cls ≠ "java/lang/invoke/VarHandle" ∧ (parseMethodDescriptor y.desc).map (fun d => d.parameters.length) = some n)
    (hR : fr + 1 ≤ R.frames ∧ 8 + (nL' + 11) + lo ≤ R.locals) (hcr : cells ≤ R.cells ∧ slots ≤ R.slots) (hc : cl[ci]? = some q) (hq : q.1 = y.cls) (he : (wf S)[q0]? = some (b, .inr (ci, fs))) (hn : As.length = n) (hst : st = As.reverse ++ .ref b :: rest) (h8 : (rest.map fun v => v.category).sum ≤ 8) (hdg : decode cc pc = .ok (.invokevirtual index, 3))
    (kk : ∀ (H1 : Heap) (locs1 : List Loc), qG D cl (tr ++ tys) A s (r ++ wf res.2) H1 locs1 → W p l e R s m args below meth c H1 locs1 cells slots Q (F0 m (pc + 3) ls (.int res.1 :: rest))) : W p l e R s m args below meth c H locs cells slots Q (F0 m pc ls st) := by
  obtain ⟨hx, hb, hml, hown, hts⟩ := C
  obtain ⟨hK, hP, hD, hS, hA⟩ := G
  have hPw := q_rightP hP
  have hDw := q_rightD hD
  have hKw := q_rightK hK
  have hFc : ∀ z, va_A (wf S) H.size z → A z := fun z hz => by
    rcases hz with ⟨k, e, h⟩ | h
    · exact hDw.2 k _ h
    · exact hA z (Nat.le_trans hS.1 h)
  have hZ : qZ ad av (va_A (wf S) H.size) s H := qZ_narrow (qZ_kept Z hS.2.1) hFc
  have hrc := va_recv hKw hPw hc he
  rw [hq] at hrc
  refine va_calli (va_runV (As := As) (rest := rest) ⟨hx, hb, hml, hown, hts⟩ (hM H.size) (cwV n hts (qw_V hw.1 hw.2.1 hw.2.2.1 hw.2.2.2.1 hw.2.2.2.2) rfl rfl rfl ⟨rfl, hd⟩ hR) ⟨qPz_blind, hrc, fun U hU hW => ⟨rfl, ⟨by rw [hU], by rw [hU]; exact hPw, va_K.moved hW.alike hKw, hDw.weaken (fun _ _ _ _ => trivial), qN_warm hW hN⟩, by rw [hU]; exact qZ_moved hW.alike hZ⟩⟩ rfl hn hls hst (lv_room h8) hdg hcr) hS (fun z _ h => hFc z h) hFc (fun r' u t H1 locs1 ht hvm hpost hB hz1 hk1 hS1 => ?_)
  cases hpost
  obtain ⟨hP1, hK1, hD1⟩ := hB
  rw [ht] at hP1
  obtain ⟨hP2, hD2⟩ := q_join hP hD hk1 hFc hP1 hD1
  exact kk H1 locs1 ⟨hK, hP2, hD2, hS1, hA⟩
/-- a call that throws -/
theorem q_fVt {index nL' fr lo n q0 ci : Nat} {y : MethodName} {cc' : ByteArray} {ret : Option FieldType} {b : Nat} {fs : List Value} {As st : List Value} {res : Nat × qS} {q : vw_C} (C : CallFix p m c cc nL s args qw own) (hN : qN ad s) (T : qT A s s.heap) (G : qG D cl (tr ++ tys) A s (r ++ wf S) H locs) (hls : ls.size = nL) (hM : qMt l y cc' nL' ret fr lo D cl tys ad wf (.ref b :: As) S res)
    (hw : Cond.methodLink own index y ∈ qw ∧ Cond.instanceMethod y ∈ qw ∧ Cond.selects y.cls y y ∈ qw ∧ Cond.initialized y.cls ∈ qw ∧ Cond.code y cc' nL' ret ∈ qw) (hd : y.cls ≠ "java/lang/invoke/MethodHandle" ∧ y.cls ≠ "java/lang/invoke/VarHandle" ∧ (parseMethodDescriptor y.desc).map (fun d => d.parameters.length) = some n)
    (hR : fr + 1 ≤ R.frames ∧ 8 + (nL' + 11) + lo ≤ R.locals) (hcr : cells + 1 ≤ R.cells ∧ slots + 6 ≤ R.slots) (hc : cl[ci]? = some q) (hq : q.1 = y.cls) (he : (wf S)[q0]? = some (b, .inr (ci, fs))) (hn : As.length = n) (hst : st = As.reverse ++ .ref b :: rest) (h8 : (rest.map fun v => v.category).sum ≤ 8) (hdg : decode cc pc = .ok (.invokevirtual index, 3))
    (kx : ∀ (ce : Cell) (q9 : Addr) (H1 : Heap) (locs1 : List Loc), qG D cl (tr ++ tys) A s (r ++ wf res.2) H1 locs1 → H1[q9]? = some ce → ce.vm = .none → s.vm.findClass (qex res.1) = some ce.cls → vx_W p l e R s m args below meth c H1 locs1 (cells + 1) (slots + 6) Q (F0 m pc ls rest) q9) : W p l e R s m args below meth c H locs cells slots Q (F0 m pc ls st) := by
  obtain ⟨hx, hb, hml, hown, hts⟩ := C
  obtain ⟨hK, hP, hD, hS, hA⟩ := G
  have hPw := q_rightP hP
  have hDw := q_rightD hD
  have hKw := q_rightK hK
  have hFc : ∀ z, va_A (wf S) H.size z → A z := fun z hz => by
    rcases hz with ⟨k, e, h⟩ | h
    · exact hDw.2 k _ h
    · exact hA z (Nat.le_trans hS.1 h)
  have hT : qT (va_A (wf S) H.size) s H := qT_narrow (qT_kept T hS.2.1) hFc
  have hrc := va_recv hKw hPw hc he
  rw [hq] at hrc
  have hbl : FrameBlind (va_Pc (.ref b :: As) (fun U => qP D cl tys ad (wf S) H.size U ∧ qT (va_A (wf S) H.size) U U.heap)) := fun a U g mk q => ⟨q.1, (qP_blind (av := .ref b :: As) a U g mk ⟨q.1, q.2.1⟩).2, qT_same (u := U) (U := U.calling g mk a) rfl q.2.2⟩
  have hrun := vx_runV (R := R) (p := p) (l := l) (e := e) (below := below) (meth := meth) (locs := locs) (cells := cells) (slots := slots) (As := As) (rest := rest) (g := F0 m pc ls st) ⟨hx, hb, hml, hown, hts⟩ (hM H.size) (cwV n hts (qw_V hw.1 hw.2.1 hw.2.2.1 hw.2.2.2.1 hw.2.2.2.2) rfl rfl rfl ⟨rfl, hd⟩ hR) ⟨hbl, hrc, fun U hU hW => ⟨rfl, ⟨by rw [hU], by rw [hU]; exact hPw, va_K.moved hW.alike hKw, hDw.weaken (fun _ _ _ _ => trivial), qN_warm hW hN⟩, by rw [hU]; exact qT_warm hW hT⟩⟩ rfl hn hls hst (lv_room h8) hdg hcr
  intro T9 hT9 X
  rcases hrun T9 hT9 X with ⟨v, st₀, t, T', L, h0, X', hL, e1, e2, hfalse, st9⟩ | ⟨q9, st₀, t, T', L, E, ce, h0, X', hL, e1, e2, ⟨u, hp, ⟨hE, hB⟩, hF⟩, hce, hcv, hcl, st9⟩
  · exact hfalse.elim
  · obtain ⟨k1, k2, k3⟩ := vx_keep h0 e1 hS (fun z _ h => hFc z h) hFc hL hF
    subst hE
    subst hp
    obtain ⟨hP1, hK1, hD1⟩ := hB
    rw [← e1] at hP1
    obtain ⟨hP2, hD2⟩ := q_join hP hD k2 hFc hP1 hD1
    obtain ⟨t2, a1, b1⟩ := kx ce q9 T'.heap (locs ++ L) ⟨hK, hP2, hD2, k3, hA⟩ (by rw [e1]; exact hce) hcv hcl T' rfl X'
    exact ⟨t2, st9.trans a1, b1⟩
end QFC
