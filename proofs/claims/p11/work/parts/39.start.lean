/-! The start: what the premises give; the constructors; the claim. -/
abbrev qgn : List Cond := flatC (Jvm.Cond.and given_1 narrow_1)
abbrev qtm (j : Nat) : Term := .string "QuadMode$Codes" (qsk j)
abbrev qtv (j : Nat) : Term := .field (qtm j) "java/lang/String" "value" "[B"
theorem qg_1 : ∀ j, j < 24 → Cond.exactly (qtm j) "java/lang/String" ∈ qgn := by decide +kernel
theorem qg_2 : ∀ j, j < 24 → Cond.eq (.field (qtm j) "java/lang/String" "coder" "B") (.int 0) ∈ qgn := by decide +kernel
theorem qg_3 : ∀ j, j < 24 → Cond.arrayOf (qtv j) .byte ∈ qgn := by decide +kernel
theorem qg_4 : ∀ j, j < 24 → Cond.eq (.length (qtv j)) (.int (Int32.ofNat (qlen.getD j 0))) ∈ qgn := by decide +kernel
theorem qg_5 : ∀ j, j < 24 → ∀ i, i < qlen.getD j 0 → Cond.eq (.elem (qtv j) (.int (Int32.ofNat i))) (.int ((qbyt.getD j []).getD i 0)) ∈ qgn := by decide +kernel
theorem qg_6 : ∀ j, j < 24 → Cond.stringRef "QuadMode$Codes" (qsk j) (qst j) ∈ lw_tbl := by decide +kernel
theorem qg_7 : ∀ j, j < 6 → Cond.exactly (.string "QuadMode" (qek j)) "java/lang/String" ∈ qgn := by decide +kernel
theorem qg_8 : ∀ j, j < 6 → Cond.stringRef "QuadMode" (qek j) (qet j) ∈ lw_tbl := by decide +kernel
theorem qg_9 : Cond.eq (.static "java/lang/String" "COMPACT_STRINGS" "Z") (.int 1) ∈ qgn := by decide +kernel
theorem qg_10 : Cond.isRef (.static "jdk/internal/util/Preconditions" "SIOOBE_FORMATTER" "Ljava/util/function/BiFunction;") ∈ qgn := by decide +kernel
theorem qg_11 : Cond.isRef (.static Bundle.tN "UNASSIGNED_STACK" Bundle.steD) ∈ qgn := by decide +kernel
theorem qg_12 : Cond.isRef (.static Bundle.tN "SUPPRESSED_SENTINEL" Bundle.listD) ∈ qgn := by decide +kernel
theorem qg_13 : Cond.not (.castable "java/lang/IllegalStateException" "java/lang/IllegalArgumentException") ∈ qgn := by decide +kernel
theorem qg_14 : ∀ w ∈ [Cond.laysStatic "java/lang/String" "COMPACT_STRINGS" "Z", Cond.initialized "java/lang/String", Cond.laysStatic "jdk/internal/util/Preconditions" "SIOOBE_FORMATTER" "Ljava/util/function/BiFunction;", Cond.initialized "jdk/internal/util/Preconditions", Cond.laysStatic Bundle.tN "UNASSIGNED_STACK" Bundle.steD, Cond.laysStatic Bundle.tN "SUPPRESSED_SENTINEL" Bundle.listD, Cond.initialized Bundle.tN, Cond.arrayOver (.object "QuadMode$Operand"), Cond.methodLinkNest "QuadMode" 9 qm_St_init "QuadMode", Cond.methodLinkNest "QuadMode" 40 qm_Op_init "QuadMode"], w ∈ lw_tbl := by decide +kernel
theorem qlen_9 : ∀ j, j < 24 → qlen.getD j 0 < 2 ^ 31 := by decide +kernel
theorem q_facts {s : State} {args : Array Value} (hts : ∀ w ∈ lw_tbl, w.before args s = true) (hgv : (Jvm.Cond.and given_1 narrow_1).before args s = true) : ∃ ad av : Nat → Nat, qN ad s ∧ qZ ad av (fun q => s.heap.size ≤ q) s s.heap ∧ qT (fun q => s.heap.size ≤ q) s s.heap ∧ qNc s ∧ qX s := by
  have hs := flat_of_before _ hgv
  have hA : ∀ a : Nat, a < s.heap.size → ¬ (fun q => s.heap.size ≤ q) a := fun a h => Nat.not_le.mpr h
  have key : ∀ j : Nat, ∃ q : Nat × Nat, j < 24 → vk_S 1 [qlen.getD j 0] [qbyt.getD j []] (fun _ => q.1) (fun _ => q.2) (fun q => s.heap.size ≤ q) s s.heap ∧ (qtm j).eval args s none [] s = some (.ref q.1) := by
    intro j
    by_cases hj : j < 24
    · obtain ⟨adK, adV, h1, h2⟩ := vk_Sof (args := args) (s := s) (N := 1) (tm := fun _ => qtm j) (len := [qlen.getD j 0]) (byt := [qbyt.getD j []]) (A := fun q => s.heap.size ≤ q)
        (fun i hi => by obtain rfl : i = 0 := by omega
                        exact qlen_9 j hj)
        (fun _ _ => hs _ (qg_1 j hj)) (fun _ _ => hs _ (qg_2 j hj)) (fun _ _ => hs _ (qg_3 j hj))
        (fun i hi => by obtain rfl : i = 0 := by omega
                        exact hs _ (qg_4 j hj))
        (fun i hi => by obtain rfl : i = 0 := by omega
                        exact fun z hz => hs _ (qg_5 j hj z hz))
        (fun i k hi hk hne => by omega) hA
      have hv : vk_S 1 [qlen.getD j 0] [qbyt.getD j []] (fun _ => adK 0) (fun _ => adV 0) (fun q => s.heap.size ≤ q) s s.heap := by
        refine ⟨fun i hi => ?_, fun i k hi hk _ => by omega⟩
        obtain rfl : i = 0 := by omega
        exact h1.1 0 hi
      exact ⟨(adK 0, adV 0), fun _ => ⟨hv, h2 0 Nat.one_pos⟩⟩
    · exact ⟨(0, 0), fun h => absurd h hj⟩
  obtain ⟨f, hf⟩ := Classical.axiomOfChoice key
  have w14 := fun w h => hts w (qg_14 w h)
  refine ⟨fun j => (f j).1, fun j => (f j).2, ⟨fun w hw => ?_, fun j hj => vk_R.of (hts _ (qg_6 j hj)) (hf j hj).2⟩, ⟨fun j hj => (hf j hj).1, va_Zof (w14 _ (by decide +kernel)) (w14 _ (by decide +kernel)) (va_eqi (hs _ qg_9)) hA, va_Zqof (w14 _ (by decide +kernel)) (w14 _ (by decide +kernel)) (hs _ qg_10) hA⟩, ⟨fun w hw => va_Nw.of (qtw_on w hw) (hts w (qtw_t w hw)), fun j hj => ?_, vx_Zqof (w14 _ (by decide +kernel)) (w14 _ (by decide +kernel)) (hs _ qg_11) hA, vx_Zqof (w14 _ (by decide +kernel)) (w14 _ (by decide +kernel)) (hs _ qg_12) hA⟩, va_Nc.of (hs _ qg_13), va_AO.of (w14 _ (by decide +kernel)), va_Nw.of rfl (w14 _ (by decide +kernel)), va_Nw.of rfl (w14 _ (by decide +kernel))⟩
  · obtain ⟨a, i, b, n, d, h9, rfl⟩ := qnw_f w hw
    exact va_Nw.of rfl (hts _ (qnw_t _ hw))
  · obtain ⟨a, c, cA, kA, q1, -⟩ := Cond.exactly_spec (args := args) (first := s) (o := none) (s := s) (idx := []) (t := .string "QuadMode" (qek j)) (cls := "java/lang/String") (hs _ (qg_7 j hj))
    exact ⟨a, vk_R.of (hts _ (qg_8 j hj)) q1⟩
theorem qj_1 : Cond.classLink "QuadModeLaw" 8 "QuadMode" ∈ qw := qw_in 84 (by decide +kernel) (by decide +kernel)
theorem qj_2 : Cond.instantiable "QuadMode" 11 ∈ qw := qw_in 85 (by decide +kernel) (by decide +kernel)
theorem qj_3 : Cond.initialized "QuadMode" ∈ qw := qw_in 63 (by decide +kernel) (by decide +kernel)
theorem qj_4 : Cond.methodLink "QuadModeLaw" 40 qm_X_init ∈ qw := qw_in 86 (by decide +kernel) (by decide +kernel)
theorem qj_5 : Cond.instanceMethod qm_X_init ∈ qw := qw_in 87 (by decide +kernel) (by decide +kernel)
theorem qj_6 : Cond.code qm_X_init qm_X_init_c 1 none ∈ qw := qw_in 88 (by decide +kernel) (by decide +kernel)
theorem qj_11 : Cond.classLink "QuadModeLaw" 41 "QuadModeModel" ∈ qw := qw_in 825 (by decide +kernel) (by decide +kernel)
theorem qj_12 : Cond.instantiable "QuadModeModel" 22 ∈ qw := qw_in 826 (by decide +kernel) (by decide +kernel)
theorem qj_13 : Cond.initialized "QuadModeModel" ∈ qw := qw_in 70 (by decide +kernel) (by decide +kernel)
theorem qj_14 : Cond.methodLink "QuadModeLaw" 43 qm_M_init ∈ qw := qw_in 827 (by decide +kernel) (by decide +kernel)
theorem qj_15 : Cond.instanceMethod qm_M_init ∈ qw := qw_in 828 (by decide +kernel) (by decide +kernel)
theorem qj_16 : Cond.code qm_M_init qm_M_init_c 1 none ∈ qw := qw_in 829 (by decide +kernel) (by decide +kernel)
theorem qj_20 : Cond.arrayClass .long ∈ qw := qw_in 1100 (by decide +kernel) (by decide +kernel)
theorem qj_k0 : Cond.instantiable "QuadMode$Codes" 4 ∈ qw := qw_in 213 (by decide +kernel) (by decide +kernel)
theorem qj_k1 : Cond.instantiable "QuadMode$Core" 14 ∈ qw := qw_in 122 (by decide +kernel) (by decide +kernel)
theorem qj_k2 : Cond.instantiable "QuadMode$Operand" 4 ∈ qw := qw_in 179 (by decide +kernel) (by decide +kernel)
theorem qj_k3 : Cond.instantiable "QuadMode$Pages" 3 ∈ qw := qw_in 104 (by decide +kernel) (by decide +kernel)
theorem qj_k4 : Cond.instantiable "QuadMode$Specifiers" 1 ∈ qw := qw_in 203 (by decide +kernel) (by decide +kernel)
theorem qj_k5 : Cond.instantiable "QuadMode$Storage" 1 ∈ qw := qw_in 93 (by decide +kernel) (by decide +kernel)
theorem qj_k6 : Cond.instantiable "QuadMode" 11 ∈ qw := qw_in 85 (by decide +kernel) (by decide +kernel)
theorem qj_k7 : Cond.instantiable "QuadModeModel" 22 ∈ qw := qw_in 826 (by decide +kernel) (by decide +kernel)
set_option maxHeartbeats 4000000 in
set_option maxRecDepth 100000 in
theorem q_start {p : Program} {e : Env} {s : State} {m : MethodId} {below : List Frame} {meth : Method} {c : Code} (l : Launch) (hl0 : l.stackTraces = false) {b L : Nat} {xs : Nat → Int32} (hL : L ≤ 2048) (C0 : lw_At p s m meth c b L xs) (hf : fL xs L 600 (qS0, (qS0, fun _ => 0)) (nI (4 * 0)) = some ()) : W p l e room_1 s m #[Value.ref b] below meth c s.heap [] 0 0 (lw_Z below #[Value.ref b] s) (entryFrame m ([Value.ref b] : List Value).toArray 7) := by
  obtain ⟨hx, hb, hr, hml, hown, hts0, hX, hbl, hlocks, hgv⟩ := id C0
  obtain ⟨ad, av, hN, hZ, hT9, hNc, hqX⟩ := q_facts hts0 hgv
  have hts : ∀ w ∈ qw, w.before #[Value.ref b] s = true := fun w hw => hts0 w (qw_of hw)
  have hbA : ¬ (fun q : Nat => s.heap.size ≤ q) b := Nat.not_le.mpr hbl
  obtain ⟨c0, i0, hk0⟩ := u_known (C := qR_Cd) (T := qT_Cd) (N := 4) (n := 4) hts qi_Cd (hts _ qj_k0)
  obtain ⟨c1, i1, hk1⟩ := u_known (C := qR_Co) (T := qT_Co) (N := 14) (n := 14) hts qi_Co (hts _ qj_k1)
  obtain ⟨c2, i2, hk2⟩ := u_known (C := qR_Op) (T := qT_Op) (N := 4) (n := 4) hts qi_Op (hts _ qj_k2)
  obtain ⟨c3, i3, hk3⟩ := u_known (C := qR_Pg) (T := qT_Pg) (N := 3) (n := 3) hts qi_Pg (hts _ qj_k3)
  obtain ⟨c4, i4, hk4⟩ := u_known (C := qR_Sp) (T := qT_Sp) (N := 1) (n := 1) hts qi_Sp (hts _ qj_k4)
  obtain ⟨c5, i5, hk5⟩ := u_known (C := qR_St) (T := qT_St) (N := 1) (n := 1) hts qi_St (hts _ qj_k5)
  obtain ⟨c6, i6, hk6⟩ := u_known (C := qR_X) (T := qT_X) (N := 11) (n := 11) hts qi_X (hts _ qj_k6)
  obtain ⟨c7, i7, hk7⟩ := u_known (C := qR_M) (T := qT_M) (N := 22) (n := 22) hts qi_M (hts _ qj_k7)
  obtain ⟨D, hKc⟩ : ∃ D : va_G, ∀ (k : Nat) (q : vw_C), qCl[k]? = some q → u_Kn s q.1 q.2.1 q.2.2 (D.1 k) (D.2 k) := by
    refine ⟨(fun k => if k = 0 then c0 else if k = 1 then c1 else if k = 2 then c2 else if k = 3 then c3 else if k = 4 then c4 else if k = 5 then c5 else if k = 6 then c6 else c7, fun k => if k = 0 then i0 else if k = 1 then i1 else if k = 2 then i2 else if k = 3 then i3 else if k = 4 then i4 else if k = 5 then i5 else if k = 6 then i6 else i7), ?_⟩
    intro k q hq
    match k, hq with
    | 0, hq => cases hq; exact hk0
    | 1, hq => cases hq; exact hk1
    | 2, hq => cases hq; exact hk2
    | 3, hq => cases hq; exact hk3
    | 4, hq => cases hq; exact hk4
    | 5, hq => cases hq; exact hk5
    | 6, hq => cases hq; exact hk6
    | 7, hq => cases hq; exact hk7
    | k + 8, hq => simp [qCl] at hq
  generalize hAe : (fun q : Nat => s.heap.size ≤ q) = A at hZ hT9 hbA
  have hA : ∀ q : Nat, s.heap.size ≤ q → A q := fun q h => by rw [← hAe]; exact h
  have hAs : ∀ q, A q → s.heap.size ≤ q := fun q h => by rw [← hAe] at h; exact h
  have hS : va_S A s.heap s.heap [] := va_S.rf
  have hK : va_K D qCl [] s := ⟨hKc, fun k q h => by simp at h⟩
  have hP : va_P D qCl [] s.heap := fun k q h => by simp at h
  have hD : va_D A [] := ⟨fun i j p q h => by simp at h, fun k q h => by simp at h⟩
  have hl := lv_entry ([.ref b]) (n := 7) (Nat.le_of_ble_eq_true rfl)
  rw [lg_entry_eq]
  generalize (lg_sl ([.ref b]) ++ List.replicate (7 - (lg_sl ([.ref b])).length) Slot.unset).toArray = ls at hl ⊢
  have hl : lv_has ls 7 [(0, .ref b)] := hl
  refine va_new (ci := 6) (fs := [.null, .null, .null, .null, .null, .null, .null, .int 0, .int 0, .int 0, .int 0]) (C := qR_X) (T := qT_X) (N := 11) hx hb hts qi_X qY_X qy_X hown (hts _ qj_1) (hts _ qj_2) (hts _ qj_3) hK hP hD hS hA rfl (fun j hj => by rcases (show j = 0 ∨ j = 1 ∨ j = 2 ∨ j = 3 ∨ j = 4 ∨ j = 5 ∨ j = 6 ∨ j = 7 ∨ j = 8 ∨ j = 9 ∨ j = 10 by omega) with rfl | rfl | rfl | rfl | rfl | rfl | rfl | rfl | rfl | rfl | rfl <;> rfl) (by decide) (by decide) qd_L_0 (fun q0 H hP hD hS => ?_)
  have hP : va_P D qCl [(q0, .inr (6, [.null, .null, .null, .null, .null, .null, .null, .int 0, .int 0, .int 0, .int 0]))] H := hP
  have hD : va_D A [(q0, .inr (6, [.null, .null, .null, .null, .null, .null, .null, .int 0, .int 0, .int 0, .int 0]))] := hD
  refine W.widen (k := 1) (n := 11) (by decide) (by decide) ?_
  refine lv_dup hx hb qd_L_3 rfl ?_
  have hFc := va_free (wc := [(q0, .inr (6, [.null, .null, .null, .null, .null, .null, .null, .int 0, .int 0, .int 0, .int 0]))]) hD hS hA [0] rfl
  refine va_callv (va_runI (As := []) (rest := [.ref q0]) ⟨hx, hb, hml, hown, hts⟩ (kc_X l D H.size q0) (cwI 0 hts (qw_gc qj_6) rfl rfl rfl (hts _ qj_3) (hts _ qj_4) (hts _ qj_5) rfl qm_X_init_d ⟨by decide, by decide⟩) ⟨fun a U g mk q => by obtain ⟨z0, z1, zP, zK, zD, zX⟩ := q; exact ⟨z0, z1, zP, va_K.moved (u := U) (U := U.calling g mk a) (Vm.Alike.refl U.vm) zK, zD, va_AO.moved (u := U) (U := U.calling g mk a) (Vm.Alike.refl U.vm) zX.1, va_Nw.same (u := U) (U := U.calling g mk a) rfl rfl zX.2.1, va_Nw.same (u := U) (U := U.calling g mk a) rfl rfl zX.2.2⟩, fun U hU hW => ⟨rfl, by rw [hU], by rw [hU]; exact hP, va_K.moved hW.alike hK, hD.weaken (fun _ _ _ _ => trivial), va_AO.moved hW.alike hqX.1, va_Nw.warmM hW hqX.2.1, va_Nw.warmM hW hqX.2.2⟩⟩ rfl rfl hl.1 rfl (lv_room (Nat.le_of_ble_eq_true rfl)) qd_L_4 ⟨by decide, by decide⟩) hS (fun q _ h => hFc q h) hFc (fun u t H1 locs ht hvm hw hB hz1 hk1 hS => ?_)
  obtain ⟨h, K, rfl, hP1, hK1, hD1⟩ := hB
  rw [ht] at hP1
  have hK := va_K.moved hvm.symm hK1
  obtain ⟨hP, hD⟩ := q_join (r := []) hP hD hk1 hFc hP1 hD1
  have hP : va_P D qCl (cW h K qS0) H1 := hP
  have hD : va_D A (cW h K qS0) := hD
  generalize H1 = H at hP hS ⊢
  refine W.widen (k := 17) (n := 2198) (by decide) (by decide) ?_
  refine lv_astore_n (lv' := [(1, .ref (h 0)), (0, .ref b)]) hx hb qd_L_7 rfl hl (by decide) rfl (fun ls hl => ?_)
  refine va_new (ci := 7) (fs := [.int 0, .null, .null, .null, .int 0, .int 0, .int 0, .int 0, .int 0, .null, .null, .int 0, .int 0, .int 0, .int 0, .int 0, .null, .null, .null, .int 0, .null, .null]) (C := qR_M) (T := qT_M) (N := 22) hx hb hts qi_M qY_M qy_M hown (hts _ qj_11) (hts _ qj_12) (hts _ qj_13) hK hP hD hS hA rfl (fun j hj => by rcases (show j = 0 ∨ j = 1 ∨ j = 2 ∨ j = 3 ∨ j = 4 ∨ j = 5 ∨ j = 6 ∨ j = 7 ∨ j = 8 ∨ j = 9 ∨ j = 10 ∨ j = 11 ∨ j = 12 ∨ j = 13 ∨ j = 14 ∨ j = 15 ∨ j = 16 ∨ j = 17 ∨ j = 18 ∨ j = 19 ∨ j = 20 ∨ j = 21 by omega) with rfl | rfl | rfl | rfl | rfl | rfl | rfl | rfl | rfl | rfl | rfl | rfl | rfl | rfl | rfl | rfl | rfl | rfl | rfl | rfl | rfl | rfl <;> rfl) (by decide) (by decide) qd_L_8 (fun q1 H hP hD hS => ?_)
  refine W.widen (k := 18) (n := 2220) (by decide) (by decide) ?_
  refine lv_dup hx hb qd_L_11 rfl ?_
  have hPm := q_rightP hP
  have hDm := q_rightD hD
  have hFm := va_free (wc := [(q1, .inr (7, [.int 0, .null, .null, .null, .int 0, .int 0, .int 0, .int 0, .int 0, .null, .null, .int 0, .int 0, .int 0, .int 0, .int 0, .null, .null, .null, .int 0, .null, .null]))]) hDm hS hA [0] rfl
  refine va_callv (va_runI (As := []) (rest := [.ref q1]) ⟨hx, hb, hml, hown, hts⟩ (kc_M l D H.size q1) (cwI 0 hts (qw_gc qj_16) rfl rfl rfl (hts _ qj_13) (hts _ qj_14) (hts _ qj_15) rfl qm_M_init_d ⟨by decide, by decide⟩) ⟨fun a U g mk q => by obtain ⟨z0, z1, zP, zK, zD⟩ := q; exact ⟨z0, z1, zP, va_K.moved (u := U) (U := U.calling g mk a) (Vm.Alike.refl U.vm) zK, zD⟩, fun U hU hW => ⟨rfl, by rw [hU], by rw [hU]; exact hPm, va_K.moved hW.alike (hK.sub (tys' := []) [] rfl), hDm.weaken (fun _ _ _ _ => trivial)⟩⟩ rfl rfl hl.1 rfl (lv_room (Nat.le_of_ble_eq_true rfl)) qd_L_12 ⟨by decide, by decide⟩) hS (fun q _ h => hFm q h) hFm (fun u t H1 locs ht hvm hw hB hz1 hk1 hS => ?_)
  obtain ⟨hm, Km, rfl, hP1, hK1, hD1⟩ := hB
  rw [ht] at hP1
  have hK := hK.app (va_K.moved hvm.symm hK1)
  obtain ⟨hP, hD⟩ := q_join hP hD hk1 hFm hP1 hD1
  generalize H1 = H at hP hS ⊢
  refine W.widen (k := 28) (n := 4378) (by decide) (by decide) ?_
  refine lv_astore_n (lv' := [(2, .ref (hm 0)), (1, .ref (h 0)), (0, .ref b)]) hx hb qd_L_15 rfl hl (by decide) rfl (fun ls hl => ?_)
  refine lv_iconst (v := 1) hx hb qd_L_16 (by decide) ?_
  refine va_newa (atype := .long) (ty := .long) (N' := 1) (a0 := (1, .inr (.inl (fun _ => 0)))) hx hb (hts _ qj_20) rfl hK hP hD hS hA (fun _ => rfl) (by decide) (by decide) (by decide) (by decide) (by decide) qd_L_17 (fun ho ko H hK hP hD hS => ?_)
  refine W.widen (k := 29) (n := 4379) (by decide) (by decide) ?_
  refine lv_astore_n (lv' := [(3, .ref ho), (2, .ref (hm 0)), (1, .ref (h 0)), (0, .ref b)]) hx hb qd_L_19 rfl hl (by decide) rfl (fun ls hl => ?_)
  refine lv_iconst (v := 0) hx hb qd_L_20 (by decide) ?_
  refine lv_istore (lv' := [(4, .int 0), (3, .ref ho), (2, .ref (hm 0)), (1, .ref (h 0)), (0, .ref b)]) hx hb qd_L_21 hl (by decide) rfl (fun ls hl => ?_)
  have G : qG D qCl ((cT K ++ mT Km) ++ [(ko, .long)]) A s ((cW h K qS0 ++ mW hm Km qS0) ++ oE ho ko (fun _ => 0)) H _ := ⟨hK, hP, hD, hS, hA⟩
  have G : qG D qCl (lT Km K ko) A s (lW hm Km h K ho ko (qS0, (qS0, fun _ => 0))) H _ := q_assocG' (q_swapG (q_assocG' G))
  exact wL (K9 := K) ⟨⟨hx, hb, hml, hown, hts⟩, hr, hlocks, hl0, hN, hZ, hT9, hNc, hX, hbl, hbA, hL⟩ hAs 600 (qS0, (qS0, fun _ => 0)) 0 (by decide) hf _ _ _ G (lv_sub hl [4, 3, 2, 1, 0] rfl)
/-- the pure claim: what is left -/
def qPure : Prop := ∀ (xs : Nat → Int32) (L : Nat), L ≤ 2048 → fL xs L 600 (qS0, (qS0, fun _ => 0)) (nI (4 * 0)) = some ()
theorem whole_start (hpure : qPure) {p : Program} {e : Env} {s : State} {m : MethodId} {below : List Frame} {meth : Method} {c : Code} (l : Launch) (hl0 : l.stackTraces = false) {b L : Nat} {xs : Nat → Int32} (hL : L ≤ 2048) (C0 : lw_At p s m meth c b L xs) : W p l e room_1 s m #[Value.ref b] below meth c s.heap [] 0 0 (lw_Z below #[Value.ref b] s) (entryFrame m ([Value.ref b] : List Value).toArray 7) := q_start l hl0 hL C0 (hpure xs L hL)
set_option maxHeartbeats 4000000 in
theorem lw_walk (hpure : qPure) (l : Launch) (hl0 : l.stackTraces = false) (b : Addr) (xs : List Int32) : MetFree l x (headSpec (Jvm.Cond.code x code maxLocals ret :: tables_1) room_1) (lw_P b xs) (fun _ _ _ _ _ => True) lw_Q := by
  refine MetFree.of_bodyS (code := code) (maxLocals := maxLocals) (ret := ret) (by decide) ?_ ?_
  · intro args s m h hn
    obtain ⟨meth, c, h1, h2, h3, h4, h5, h6, -, -⟩ := Cond.code_spec hn (atoms_spec (ws := Jvm.Cond.code x code maxLocals ret :: tables_1) h _ List.mem_cons_self)
    exact ⟨meth, c, h1, h2, h3, h4, h5, h6⟩
  · intro p e s m args below meth c s₁ B hml0 hP _
    obtain ⟨rfl, hx, hbd, hgv⟩ := hP
    obtain ⟨scr, harrAt, hlist, hof, hsmall⟩ := hx
    obtain ⟨hcb, hkn, -, -⟩ := State.arrayAt?_spec harrAt
    have hown : s.vm.findClass R_law = some m.cls := findClass_of_methodNamed B.named
    have hts0 : ∀ c ∈ (Jvm.Cond.code x code maxLocals ret :: tables_1), c.before #[Value.ref b] s = true := atoms_spec (ws := Jvm.Cond.code x code maxLocals ret :: tables_1) B.pre
    have hts : ∀ w ∈ lw_tbl, w.before #[Value.ref b] s = true := k2_hts_sels lw_privs (fun w hw => hts0 w (List.mem_cons_of_mem _ hw)) lw_privs_ok
    have hml : c.maxLocals = 7 := B.maxLocals_eq (hts0 _ List.mem_cons_self)
    have X₀ : Stand p l e room_1 s m #[Value.ref b] below meth c s₁ [] 0 0 := Stand.of_body B
    have hh0 : s₁.heap = s.heap := by rw [B.state]; rfl
    have hsz : scr.slots.size = xs.length := by rw [← Array.length_toList, hlist, List.length_map]
    have hval : ∀ j : Nat, j < xs.length → scr.slots[j]? = some (.int (xs.getD j 0)) := fun j hj => by
      rw [← Array.getElem?_toList, hlist]
      simp [hj]
    have hbl : b < s.heap.size := (Array.getElem?_eq_some_iff.mp hcb).1
    have hX : va_X b xs.length (fun j => xs.getD j 0) s s.heap := ⟨scr, hcb, hof, hkn, hsz, hval⟩
    have K : W p l e room_1 s m #[Value.ref b] below meth c s₁.heap [] 0 0 (lw_Z below #[Value.ref b] s) (entryFrame m ([Value.ref b] : List Value).toArray 7) := by
      rw [hh0]
      exact whole_start hpure l hl0 hbd ⟨B.exec, B.bytes, B.returns, hml, hown, hts, hX, hbl, B.notSynchronized, hgv⟩
    obtain ⟨t, a1, o, b1, b2, b3⟩ := K s₁ rfl X₀
    exact ⟨t, o, a1, b1, b2, b3⟩
theorem lw_pre_spec {args : Array Value} {s : State} (h : (Jvm.Cond.and given_1 narrow_1).before args s = true) (hr : rest_1_c.before args s = true) : ∃ (b : Addr) (xs : List Int32), lw_P b xs args s := by
  have hs := flat_of_before _ h
  have hq := flat_of_before _ hr
  have hc : (Cond.count 1).before args s = true := hs _ (by decide +kernel)
  have harr : (Cond.arrayOf (.arg 0) .int).before args s = true := hs _ (by decide +kernel)
  have hle : (Cond.le (.length (.arg 0)) (.int 2048)).before args s = true := hs _ (by decide +kernel)
  have hlen : (Cond.isInt (.length (.arg 0))).before args s = true := hq _ (by decide +kernel)
  have hall : (Cond.all (.arg 0) (.isInt (.elem (.arg 0) (.index 0)))).before args s = true := hq _ (by decide +kernel)
  obtain ⟨b, xs, hb, hx⟩ := State.ints_of_pre rfl harr hlen hall
  have hsm : xs.length < 2 ^ 31 := hx.choose_spec.2.2.2
  have hev : (Term.length (.arg 0)).eval args s none [] s = some (.int xs.length.toInt32) := hx.length_eval hb
  have hv := Cond.le_ints hev (show (Term.int 2048).eval args s none [] s = some (.int 2048) from rfl)
  have hd : xs.length.toInt32 ≤ 2048 := by
    simpa [Cond.before, Cond.holds, hv] using hle
  have hN : xs.length ≤ 2048 := (Int32.ofNat_le_ofNat hsm (by decide)).mp (show Int32.ofNat xs.length ≤ Int32.ofNat 2048 from hd)
  exact ⟨b, xs, Cond.one_arg hc (show args[0]? = some (.ref b) from hb), hx, hN, h⟩
theorem lw_comes (hpure : qPure) (l : Launch) (hl0 : l.stackTraces = false) : Comes l x (Jvm.Cond.code x code maxLocals ret :: tables_1) room_1 (fun tb e args s => Calls_1 tb e args s ∧ rest_1 tb e args s ∧ Pre_1 tb e args s)
    (fun _ _ args s o t => lw_Q args s o t) := by
  intro p e ha hc hk s m args below hf hfit hheap happ hpre
  obtain ⟨b, xs, hP⟩ := lw_pre_spec hpre.2.2 hpre.2.1
  obtain ⟨k, o, h1, h2, h3, hQ⟩ := lw_walk hpure l hl0 b xs p e ha hc hk s m args below hf ((Spec.applies_iff_loose hf).mp happ).1 hP trivial
  exact ⟨k, o, h1, h2, h3, hQ⟩
theorem lw_frame {s t : State} {o : Outcome} {args : Array Value} (h : Framed s o t [] 1061 12619) :
    Framed s o t (fieldLocs frame_1_writes args s ++ arrayLocs frame_1_arrays args s ++ staticLocs frame_1_statics s) 1061 12619 := h
theorem lw_limb (hpure : qPure) (L : Cond) (hL : ∀ (args : Array Value) (s t : State), L.after args s (.returned (some (.int 1))) t = true) :
    ArmFor flags0 classFile x code maxLocals ret World_1 tables_1 room_1 Calls_1 rest_1 Pre_1
      (fun tb e a s o t => postC L tb e a s o t ∧ Framed s o t (fieldLocs frame_1_writes a s ++ arrayLocs frame_1_arrays a s ++ staticLocs frame_1_statics s) 1061 12619) := by
  intro l hfl _ _ p e ha hc hk s m args below hf hfit hheap happ hpre
  obtain ⟨k, o, h1, h2, h3, rfl, hF⟩ := lw_comes hpure l (by unfold Launch.stackTraces; rw [hfl]; decide +kernel) p e ha hc hk s m args below hf hfit hheap happ hpre
  exact ⟨k, _, h1, h2, h3, hL args s _, lw_frame hF⟩
theorem i_vc_open (hpure : qPure) : Claimed_1_1 ∧ Claimed_1_2 := ⟨lw_limb hpure limb_1_1 (fun args s t => by simp [limb_1_1, Cond.after, Cond.holds, Cond.value]), lw_limb hpure limb_1_2 (fun args s t => Cond.after_iff.mpr (by
  first | (rw [show limb_1_2 = Cond.eq .result (.int 1) from rfl, Cond.eq_ints (x := 1) (y := 1) rfl rfl]; simp; done) | (simp [limb_1_2, Cond.value, Term.eval]; done)))⟩
