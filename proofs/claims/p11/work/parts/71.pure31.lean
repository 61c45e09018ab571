/-! Pure part 31: codes 68 to 70. -/
theorem nI_dn (k : Nat) : nI (k + 1) + (-1) = nI k := by
  rw [← nI_1, Int32.add_assoc, show (1 : Int32) + -1 = 0 by decide, Int32.add_zero]
theorem e12p (T : qS) (v : Int32) : pA T 1 12 v = mPut T 12 v := mPut_n T (i := 12) (by decide) v
theorem e13p (T : qS) (v : Int32) : pA T 1 13 v = mPut T 13 v := mPut_n T (i := 13) (by decide) v
theorem mGet_n (T : qS) {i : Nat} (hi : i < 14) : gA T 1 (nI i) = mGet T (nI i) := by
  unfold mGet
  rw [if_neg (fun w => by
    have := (nI_eqi (b := 14) (by omega) (by omega)).mp w
    omega)]
theorem m14' : ∀ j : Nat, j < 32 → bt 16384 j = decide (j = 14) := by decide +kernel
/-- the end of a frame's making -/
theorem ef_end {p : Int32 × Int32} {x1 x2 x3 : Int32} {S T : qS} (h : RR p S T) (ha : T.2 7 1 = S.1 17) (n : Nat) : ∃ S' T', fCd_enterFrame_76 (n + 1) S x1 x2 x3 (-1) = some S' ∧ fM_callFrame_75 (n + 1) T x1 x2 x3 (-1) = some T' ∧ RR p S' T' ∧ KC S S' ∧ KM T T' := by
  rw [fCd_enterFrame_76, fM_callFrame_75, if_pos (show (-1 : Int32) < 0 by decide), if_pos (show (-1 : Int32) < 0 by decide), bnd_e (fCo_get_eq S 15)]
  dsimp only
  obtain ⟨S1, T1, a1, a2, a3, a4, a5⟩ := RR_push h (x := cGet S 15) (x' := gA T 1 15) (fun q => pc_r h q)
  rw [bnd_e a1, bnd_e a2, bnd_e (fCo_get_eq S1 13)]
  dsimp only
  obtain ⟨S2, T2, b1, b2, b3, b4, b5⟩ := RR_push a3 (x := cGet S1 13) (x' := gA T1 1 13) (fun q => by rw [show gA T1 1 13 = mGet T1 13 from mGet_n T1 (i := 13) (by decide)]; exact RR_get a3 i16_13 q)
  rw [bnd_e b1, bnd_e b2, bnd_e (fCo_get_eq S2 12)]
  dsimp only
  obtain ⟨S3, T3, c1, c2, c3, c4, c5⟩ := RR_push b3 (x := cGet S2 12) (x' := gA T2 1 12) (fun q => by rw [show gA T2 1 12 = mGet T2 12 from mGet_n T2 (i := 12) (by decide)]; exact RR_get b3 i16_12 q)
  rw [bnd_e c1, bnd_e c2]
  obtain ⟨S4, T4, d1, d2, d3, d4, d5⟩ := RR_push c3 (x := (((x3 <<< ((30 : Int32) &&& 31)) ||| 536870912) ||| ((x2 &&& 4095) <<< ((16 : Int32) &&& 31))) ||| ((S3.1 6) &&& 65535)) (x' := (((x3 <<< ((30 : Int32) &&& 31)) ||| 536870912) ||| ((x2 &&& 4095) <<< ((16 : Int32) &&& 31))) ||| ((T3.1 1) &&& 65535)) (fun q => by rw [(c3.2 q).2.2])
  rw [bnd_e d1, bnd_e d2]
  obtain ⟨S5, T5, f1, f2, f3, f4, f5⟩ := RR_push d3 (x := 0) (x' := 0) (fun _ => rfl)
  rw [bnd_e f1, bnd_e f2, bnd_e (fCo_get_eq S5 14), bnd_e (fM_get_eq T5 i16_14)]
  dsimp only
  rw [bnd_e (fCo_put_eq S5 13 _), bnd_e (fCo_put_eq _ 12 _), e13p, e12p]
  have h6 : RR p (cPut (cPut S5 13 (cGet S5 14)) 12 x1) (mPut (mPut T5 13 (mGet T5 14)) 12 x1) := RR_put (RR_put f3 i16_13 (RR_get f3 i16_14)) i16_12 (fun _ => rfl)
  have k6 : KC S (cPut (cPut S5 13 (cGet S5 14)) 12 x1) := KC_t a4 (KC_t b4 (KC_t c4 (KC_t d4 (KC_t f4 (KC_t (KC_put _ _ _) (KC_put _ _ _))))))
  have l6 : KM T (mPut (mPut T5 13 (mGet T5 14)) 12 x1) := KM_t a5 (KM_t b5 (KM_t c5 (KM_t d5 (KM_t f5 (KM_t (KM_put _ _ _) (KM_put _ _ _))))))
  generalize cPut (cPut S5 13 (cGet S5 14)) 12 x1 = S6 at *
  generalize mPut (mPut T5 13 (mGet T5 14)) 12 x1 = T6 at *
  have hb : ((x2 >>> ((14 : Int32) &&& 31)) &&& 1) <<< ((5 : Int32) &&& 31) = if bt x2 14 = true then 32 else 0 := by
    rw [show (14 : Int32) = nI 14 from rfl, bit_s x2 (by decide)]
    cases bt x2 14 <;> decide
  have hm := bit_m x2 (by decide) m14'
  have fin : ∀ y : Int32, (if bt x2 14 = true then 32 else 0) = y → ∃ S' T', fCd_enterFrame_258 S6 ((S6.1 6) &&& (-48)) y = some S' ∧ some (pA (pI T6 1 (((T6.1 1) &&& (-48)) ||| (((x2 >>> ((14 : Int32) &&& 31)) &&& 1) <<< ((5 : Int32) &&& 31)))) 1 15 ((gA (pI T6 1 (((T6.1 1) &&& (-48)) ||| (((x2 >>> ((14 : Int32) &&& 31)) &&& 1) <<< ((5 : Int32) &&& 31)))) 7 1) + 2)) = some T' ∧ RR p S' T' ∧ KC S S' ∧ KM T T' := fun y hy => by
    rw [hb, hy]
    unfold fCd_enterFrame_258
    rw [bnd_e (fCo_put_eq _ 15 _), mPut_15]
    have h7 : RR p (pI S6 6 ((S6.1 6 &&& (-48)) ||| y)) (pI T6 1 ((T6.1 1 &&& (-48)) ||| y)) := RR_st h6 (fun q => by rw [(h6.2 q).2.2])
    refine ⟨_, _, rfl, rfl, RR_put h7 i16_15 (fun _ => ?_), KC_t k6 (KC_t (KC_p (by decide) _) (KC_put _ _ _)), KM_t l6 (KM_t (KM_p _ _ _) (KM_put _ _ _))⟩
    have e1 : T6.2 7 1 = T.2 7 1 := by rw [l6.1 7 (by decide) (by decide)]
    have e2 : S6.1 17 = S.1 17 := k6 17 (by decide)
    show T6.2 7 1 + 2 = S6.1 17 + 2
    rw [e1, e2, ha]
  by_cases q : bt x2 14 = true
  · rw [if_neg (fun w => (hm.mp w) q)]
    exact fin 32 (if_pos q)
  · rw [if_pos (hm.mpr q)]
    exact fin 0 (if_neg q)
theorem ef_loop {p : Int32 × Int32} {x1 x2 x3 : Int32} (k : Nat) : ∀ {S T : qS}, k ≤ 12 → RR p S T → T.2 7 1 = S.1 17 → ∀ m : Nat, ∃ S' T', fCd_enterFrame_76 (k + 1 + m) S x1 x2 x3 (nI k + (-1)) = some S' ∧ fM_callFrame_75 (k + 1 + m) T x1 x2 x3 (nI k + (-1)) = some T' ∧ RR p S' T' ∧ KC S S' ∧ KM T T' := by
  induction k with
  | zero =>
    intro S T hk h ha m
    rw [show 0 + 1 + m = m + 1 by omega, show nI 0 + (-1) = (-1 : Int32) by decide]
    exact ef_end h ha m
  | succ k ih =>
    intro S T hk h ha m
    have hl : ¬ nI k < 0 := nlt_le.mpr (nI_pos' (by omega))
    have hi : inb (nI k) 16 = true := inb_nI (by omega) (by decide)
    rw [show k + 1 + 1 + m = (k + 1 + m) + 1 by omega, nI_dn, fCd_enterFrame_76, fM_callFrame_75, if_neg hl, if_neg hl, bit_s x2 (by omega), bit_u x2 (by omega)]
    unfold fCd_enterFrame_106 fM_callFrame_101
    by_cases q : bt x2 k = true
    · rw [if_pos q, if_neg (show ¬ (1 : Int32) = 0 by decide), if_neg (show ¬ ¬ (1 : Int32) = 1 by decide), bnd_e (fCo_get_eq S _), chk_t hi]
      dsimp only
      obtain ⟨S1, T1, a1, a2, a3, a4, a5⟩ := RR_push h (x := cGet S (nI k)) (x' := gA T 1 (nI k)) (fun q => by rw [mGet_n T (by omega)]; exact RR_get h hi q)
      rw [bnd_e a1, bnd_e a2]
      obtain ⟨S', T', r1, r2, r3, r4, r5⟩ := ih (by omega) a3 (by rw [a5.1 7 (by decide) (by decide), a4 17 (by decide)]; exact ha) m
      exact ⟨S', T', r1, r2, r3, KC_t a4 r4, KM_t a5 r5⟩
    · rw [if_neg q, if_pos rfl, if_pos (show ¬ (0 : Int32) = 1 by decide)]
      exact ih (by omega) h ha m
theorem dc_ef {p : Int32 × Int32} {T : qS} {x1 x2 x3 : Int32} (k : Nat) : ∀ {S : qS}, k ≤ 12 → RR p S T → ¬ S.1 7 = 0 → ∀ m : Nat, DC p T (fCd_enterFrame_76 (k + 1 + m) S x1 x2 x3 (nI k + (-1))) := by
  induction k with
  | zero =>
    intro S hk h hf m
    rw [show 0 + 1 + m = m + 1 by omega, show nI 0 + (-1) = (-1 : Int32) by decide, fCd_enterFrame_76, if_pos (show (-1 : Int32) < 0 by decide), bnd_e (fCo_get_eq S 15)]
    obtain ⟨S1, a1, a2, a3⟩ := dc_push h hf (cGet S 15)
    rw [bnd_e a1, bnd_e (fCo_get_eq S1 13)]
    obtain ⟨S2, b1, b2, b3⟩ := dc_push a2 a3 (cGet S1 13)
    rw [bnd_e b1, bnd_e (fCo_get_eq S2 12)]
    obtain ⟨S3, c1, c2, c3⟩ := dc_push b2 b3 (cGet S2 12)
    rw [bnd_e c1]
    obtain ⟨S4, d1, d2, d3⟩ := dc_push c2 c3 ((((x3 <<< ((30 : Int32) &&& 31)) ||| 536870912) ||| ((x2 &&& 4095) <<< ((16 : Int32) &&& 31))) ||| ((S3.1 6) &&& 65535))
    rw [bnd_e d1]
    obtain ⟨S5, f1, f2, f3⟩ := dc_push d2 d3 0
    rw [bnd_e f1, bnd_e (fCo_get_eq S5 14)]
    dsimp only
    rw [bnd_e (fCo_put_eq S5 13 _), bnd_e (fCo_put_eq _ 12 _)]
    have h6 : RR p (cPut (cPut S5 13 (cGet S5 14)) 12 x1) T := RR_pc (RR_pc f2 f3 _ _) (by rw [cPut_f]; exact f3) _ _
    have n6 : ¬ (cPut (cPut S5 13 (cGet S5 14)) 12 x1).1 7 = 0 := by rw [cPut_f, cPut_f]; exact f3
    generalize cPut (cPut S5 13 (cGet S5 14)) 12 x1 = S6 at *
    have fin : ∀ y : Int32, DC p T (fCd_enterFrame_258 S6 ((S6.1 6) &&& (-48)) y) := fun y => by
      unfold fCd_enterFrame_258
      rw [bnd_e (fCo_put_eq _ 15 _)]
      exact ⟨_, rfl, RR_pc (RR_sc h6 n6 _) n6 _ _, by rw [cPut_f]; exact n6⟩
    split
    · exact fin 0
    · exact fin 32
  | succ k ih =>
    intro S hk h hf m
    have hl : ¬ nI k < 0 := nlt_le.mpr (nI_pos' (by omega))
    rw [show k + 1 + 1 + m = (k + 1 + m) + 1 by omega, nI_dn, fCd_enterFrame_76, if_neg hl]
    unfold fCd_enterFrame_106
    split
    · exact ih (by omega) h hf m
    · rw [bnd_e (fCo_get_eq S _)]
      obtain ⟨S1, a1, a2, a3⟩ := dc_push h hf (cGet S (nI k))
      rw [bnd_e a1]
      exact ih (by omega) a2 a3 m
theorem dm_ef {p : Int32 × Int32} {S : qS} (hf : ¬ S.1 7 = 0) {x1 x2 x3 : Int32} (k : Nat) : ∀ {T : qS}, k ≤ 12 → RR p S T → ∀ m : Nat, DT p S (fM_callFrame_75 (k + 1 + m) T x1 x2 x3 (nI k + (-1))) := by
  induction k with
  | zero =>
    intro T hk h m
    rw [show 0 + 1 + m = m + 1 by omega, show nI 0 + (-1) = (-1 : Int32) by decide, fM_callFrame_75, if_pos (show (-1 : Int32) < 0 by decide)]
    obtain ⟨T1, a1, a2⟩ := dm_push h hf (gA T 1 15)
    obtain ⟨T2, b1, b2⟩ := dm_push a2 hf (gA T1 1 13)
    obtain ⟨T3, c1, c2⟩ := dm_push b2 hf (gA T2 1 12)
    obtain ⟨T4, d1, d2⟩ := dm_push c2 hf ((((x3 <<< ((30 : Int32) &&& 31)) ||| 536870912) ||| ((x2 &&& 4095) <<< ((16 : Int32) &&& 31))) ||| ((T3.1 1) &&& 65535))
    obtain ⟨T5, f1, f2⟩ := dm_push d2 hf 0
    rw [bnd_e a1, bnd_e b1, bnd_e c1, bnd_e d1, bnd_e f1, bnd_e (fM_get_eq T5 i16_14)]
    dsimp only
    rw [e13p, e12p, mPut_15]
    exact ⟨_, rfl, RR_pm (RR_sm (RR_pm (RR_pm f2 hf _ _) hf _ _) hf _) hf _ _⟩
  | succ k ih =>
    intro T hk h m
    have hl : ¬ nI k < 0 := nlt_le.mpr (nI_pos' (by omega))
    rw [show k + 1 + 1 + m = (k + 1 + m) + 1 by omega, nI_dn, fM_callFrame_75, if_neg hl]
    unfold fM_callFrame_101
    split
    · exact ih (by omega) h m
    · rw [chk_t (inb_nI (by omega) (by decide))]
      obtain ⟨T1, a1, a2⟩ := dm_push h hf (gA T 1 (nI k))
      rw [bnd_e a1]
      exact ih (by omega) a2 m
theorem c68 {p : Int32 × Int32} {S T : qS} (h : RR p S T) (hv : T.2 5 0 = S.1 14) (ha : T.2 7 1 = S.1 17) : PK p S T (fCd_enterFrame S) (fM_callFrame T) := by
  have g0 : gA T 5 0 = S.1 14 := hv
  obtain ⟨S1, T1, a1, a2, a3, a4, a5⟩ := RR_push h (x := S.1 14) (x' := gA T 5 0) (fun _ => hv)
  have ha1 : T1.2 7 1 = S1.1 17 := by rw [a5.1 7 (by decide) (by decide), a4 17 (by decide)]; exact ha
  obtain ⟨v, b1, b2, S3, T2, T3, r1, r2, r3, r4, r5, r6, r7, r8⟩ := RR_r2 a3 (a := S1.1 17) (a' := gA T1 7 1) (fun _ => ha1)
  have g7 : gA T2 7 1 = gA T1 7 1 := by
    show T2.2 7 1 = T1.2 7 1
    rw [r7.1 7 (by decide) (by decide)]
  have ha3 : T3.2 7 1 = S3.1 17 := by rw [r8.1 7 (by decide) (by decide), r6 17 (by decide)]; exact ha1
  unfold fCd_enterFrame fM_callFrame
  rw [bnd_e a1, bnd_e a2, bnd_e (fCo_get_eq S1 14), bnd_e (fM_get_eq T1 i16_14)]
  dsimp only
  rw [bnd_e r1, bnd_e r2]
  dsimp only
  rw [g7, bnd_e r3]
  dsimp only
  by_cases hf3 : S3.1 7 = 0
  · rw [r5 hf3]
    have hf1 : S1.1 7 = 0 := Classical.byContradiction fun nq => by
      rw [dc_read nq] at r1
      cases r1
      exact nq hf3
    have esp : mGet T1 14 = cGet S1 14 := RR_get a3 i16_14 hf1
    rw [esp]
    by_cases q : (v &&& 45056) = 0
    · rw [if_pos q, if_pos q, bnd_e (fCo_put_eq S3 14 _)]
      unfold fM_callFrame_58
      rw [bnd_e (fM_put_eq T3 _ i16_14)]
      have h4 : RR p (cPut S3 14 (cGet S1 14 - (cGet S1 14 &&& 3))) (mPut T3 14 (cGet S1 14 - (cGet S1 14 &&& 3))) := RR_put r4 i16_14 (fun _ => rfl)
      obtain ⟨S', T', w1, w2, w3, w4, w5⟩ := ef_loop (x1 := cGet S1 14) (x2 := v) (x3 := cGet S1 14 &&& 3) 12 (by decide) h4 (by
        rw [(KM_put T3 14 _).1 7 (by decide) (by decide), KC_put S3 14 _ 17 (by decide)]; exact ha3) 287
      rw [show nI 12 + (-1) = (11 : Int32) by decide] at w1 w2
      exact ⟨S', T', w1, w2, w3, fun _ => ⟨KC_t a4 (KC_t r6 (KC_t (KC_put _ _ _) w4)), KM_t a5 (KM_t r8 (KM_t (KM_put _ _ _) w5))⟩⟩
    · obtain ⟨u1, T9, u2, u3, u4⟩ := RR_w2 r4 hf3
      rw [if_neg q, if_neg q, bnd_e u1, bnd_e u2]
      unfold fM_callFrame_58
      rw [bnd_e (fM_put_eq T9 _ i16_14)]
      obtain ⟨T', m1, m2⟩ := dm_ef u4 (x1 := cGet S1 14) (x2 := v) (x3 := cGet S1 14 &&& 3) 12 (by decide) (RR_pm u3 u4 14 (cGet S1 14 - (cGet S1 14 &&& 3))) 287
      rw [show nI 12 + (-1) = (11 : Int32) by decide] at m1
      exact ⟨_, T', rfl, m1, m2, fun w => absurd w u4⟩
  · refine PK_d r4 hf3 (fun T9 h9 => ?_) ?_
    · split
      · rw [bnd_e (fCo_put_eq S3 14 _)]
        have := dc_ef (x1 := cGet S1 14) (x2 := v) (x3 := cGet S1 14 &&& 3) 12 (by decide) (RR_pc h9 hf3 14 (cGet S1 14 - (cGet S1 14 &&& 3))) (by rw [cPut_f]; exact hf3) 287
        rw [show nI 12 + (-1) = (11 : Int32) by decide] at this
        exact this
      · rw [bnd_e (dc_raise hf3 2)]
        exact ⟨S3, rfl, h9, hf3⟩
    · have e58 : ∀ x y : Int32, DT p S3 (fM_callFrame_58 T3 x y) := fun x y => by
        unfold fM_callFrame_58
        rw [bnd_e (fM_put_eq T3 _ i16_14)]
        have := dm_ef hf3 (x1 := x) (x2 := y) (x3 := x &&& 3) 12 (by decide) (RR_pm r4 hf3 14 (x - (x &&& 3))) 287
        rw [show nI 12 + (-1) = (11 : Int32) by decide] at this
        exact this
      split
      · exact e58 _ _
      · rw [bnd_e (dm_wrong r4 hf3 _ _ _)]
        exact e58 _ _
