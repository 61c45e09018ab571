/-! Pure part 27: codes 21 to 24, 42 to 63. -/
theorem vN_add (x : Int32) : x + (-2147483648) = x ^^^ (-2147483648) := by
  apply Int32.toBitVec_inj.1
  apply BitVec.eq_of_toNat_eq
  show vN (x + (-2147483648)) = vN (x ^^^ (-2147483648))
  rw [v_xor]
  show (x + (-2147483648)).toBitVec.toNat = _
  rw [Int32.toBitVec_add, BitVec.toNat_add]
  rfl
theorem below_eq (T : qS) (a b : Int32) : fM_below T a b = some (if vN a < vN b then 1 else 0, T) := by
  unfold fM_below
  have h := v_le b a
  by_cases q : vN a < vN b
  · rw [if_neg (fun w => by have := h.mp w; omega), if_pos q]; rfl
  · rw [if_pos (h.mpr (by omega)), if_neg q]; rfl
theorem cmpU_eq (S : qS) (a b : Int32) : ∃ r, fJI_compareUnsigned S a b = some (r, S) ∧ (0 ≤ r ↔ ¬ vN a < vN b) := by
  unfold fJI_compareUnsigned fJI_compare
  rw [vN_add, vN_add]
  have h := v_le b a
  by_cases q : vN a < vN b
  · rw [if_neg (fun w => by have := h.mp w; omega)]
    exact ⟨-1, rfl, ⟨fun w => absurd w (by decide), fun w => absurd q w⟩⟩
  · rw [if_pos (h.mpr (by omega))]
    by_cases e : a ^^^ (-2147483648) = b ^^^ (-2147483648)
    · rw [if_neg (not_not_intro e)]
      exact ⟨0, rfl, ⟨fun _ => q, fun _ => by decide⟩⟩
    · rw [if_pos e]
      exact ⟨1, rfl, ⟨fun _ => q, fun _ => by decide⟩⟩
theorem PK_cD {p : Int32 × Int32} {S T : qS} (h : RR p S T) (v o c : Int32) : PK p S T ((fCo_conclude S v o c).bind fun S3 => some S3) ((fM_mark T v o c).bind fun S1 => fM_move_379 S1) := by
  rw [bnd_e (conc_eq S v o c), bnd_e (mark_eq T v o c)]
  exact ⟨_, _, rfl, rfl, RR_cD h (fun _ => ⟨rfl, rfl, rfl⟩), fun _ => ⟨KC_p (by decide) _, KM_p _ _ _⟩⟩
theorem c21 {p : Int32 × Int32} {S T : qS} (h : RR p S T) (hv : T.2 5 0 = S.1 14) : PK p S T (fCd_compare S 21) (fM_move T 21) := by
  have g0 : gA T 5 0 = S.1 14 := hv
  have em : fM_move T 21 = (fM_has T 0).bind fun q1 => (fM_mark q1.2 (gA T 5 0) 0 0).bind fun S1 => fM_move_379 S1 := rfl
  have ec : fCd_compare S 21 = (fCo_conclude S (S.1 14) 0 0).bind fun S3 => some S3 := rfl
  rw [em, ec, bnd_e (mh0 T), g0]
  exact PK_cD h _ _ _
theorem c22 {p : Int32 × Int32} {S T : qS} (h : RR p S T) (hv : T.2 5 0 = S.1 14) : PK p S T (fCd_compare S 22) (fM_move T 22) := by
  have g0 : gA T 5 0 = S.1 14 := hv
  have em : fM_move T 22 = (fM_mark T (sg (gA T 5 0)) 0 0).bind fun S1 => fM_move_379 S1 := by
    unfold fM_move
    rw [bnd_e (mh0 T), if_pos (show ¬ (22 : Int32) = 12 by decide), if_neg (show ¬ (22 : Int32) = 16 by decide), if_pos (show ¬ (22 : Int32) = 17 by decide), if_pos (show ¬ (22 : Int32) = 18 by decide), if_pos (show ¬ (22 : Int32) = 19 by decide), if_pos (show ¬ (22 : Int32) = 20 by decide), if_pos (show (22 : Int32) ≤ 41 by decide)]
    unfold fM_move_107 fM_move_108
    dsimp only
    rw [if_neg (show ¬ (22 : Int32) = 13 by decide), if_neg (show ¬ ¬ (22 : Int32) = 22 by decide)]
    unfold fM_move_122
    rw [bnd_e (show fM_signed T (gA T 5 0) = some (sg (gA T 5 0), T) from rfl)]
    generalize sg (gA T 5 0) = y
    generalize gA T 5 0 = a
    generalize gA T 5 1 = b
    rfl
  have ec : fCd_compare S 22 = (fCo_conclude S (S.1 14).toInt8.toInt32 0 0).bind fun S3 => some S3 := by
    generalize hw : (S.1 14).toInt8.toInt32 = w
    unfold fCd_compare fCd_compare_12 fCd_compare_17 fCd_compare_40
    rw [if_pos rfl, if_neg (show ¬ (1 : Int32) = 0 by decide), if_neg (show ¬ (23 : Int32) ≤ 22 by decide), hw]
  rw [em, ec, g0, sg_eq]
  exact PK_cD h _ _ _
/-- two numbers compared -/
theorem cmp {p : Int32 × Int32} {S T : qS} (h : RR p S T) {x y a b : Int32} (hc : vN x < vN y ↔ vN a < vN b) : PK p S T (fCd_compare_80 S x y) (fM_move_175 T a b x y) := by
  obtain ⟨r, r1, r2⟩ := cmpU_eq S x y
  have cc : ∀ y1 y2 : Int32, fCd_compare_108 S x y y1 y2 = some (pI S 6 (cnd (S.1 6) (if y1 = 0 then 0 else 8) (if y2 = 0 then 0 else 4) 0 (if vN a < vN b then 1 else 0))) := fun y1 y2 => by
    unfold fCd_compare_108 fCd_compare_123
    rw [bnd_e r1]
    dsimp only
    by_cases q : vN x < vN y
    · rw [if_neg (fun w => (r2.mp w) q), bnd_e (setC_eq S _ _ _ _), if_pos (hc.mp q)]; rfl
    · rw [if_pos (r2.mpr q), bnd_e (setC_eq S _ _ _ _), if_neg (fun w => q (hc.mpr w))]; rfl
  have cm : ∀ v : Int32, fM_move_201 T a b v = some (pI T 1 (cnd (T.1 1) (if 0 ≤ v then 0 else 8) (if v = 0 then 4 else 0) 0 (if vN a < vN b then 1 else 0))) := fun v => by
    unfold fM_move_201
    rw [bnd_e (below_eq T a b)]
    dsimp only
    rw [bnd_e (mark_eq T _ _ _)]
    unfold cD
    by_cases q : vN a < vN b
    · rw [if_pos q]; rfl
    · rw [if_neg q]; rfl
  have fin : ∀ n z : Int32, PK p S T (some (pI S 6 (cnd (S.1 6) n z 0 (if vN a < vN b then 1 else 0)))) (some (pI T 1 (cnd (T.1 1) n z 0 (if vN a < vN b then 1 else 0)))) := fun n z =>
    ⟨_, _, rfl, rfl, RR_st h (fun q => by rw [(h.2 q).2.2]), fun _ => ⟨KC_p (by decide) _, KM_p _ _ _⟩⟩
  unfold fCd_compare_80 fCd_compare_97 fM_move_175
  simp only [cc, cm]
  by_cases q1 : y ≤ x
  · rw [if_pos q1, if_pos q1]
    by_cases q2 : x = y
    · rw [if_neg (not_not_intro q2), if_neg (not_not_intro q2)]
      exact fin 0 4
    · rw [if_pos q2, if_pos q2]
      exact fin 0 0
  · rw [if_neg q1, if_neg q1]
    by_cases q2 : x = y
    · exact absurd (by rw [q2]; exact Int32.le_refl y) q1
    · rw [if_pos q2]
      exact fin 8 0
theorem c23 {p : Int32 × Int32} {S T : qS} (h : RR p S T) (hv : T.2 5 0 = S.1 14) (hv1 : T.2 5 1 = S.1 18) : PK p S T (fCd_compare S 23) (fM_move T 23) := by
  have g0 : gA T 5 0 = S.1 14 := hv
  have g1 : gA T 5 1 = S.1 18 := hv1
  have em : fM_move T 23 = fM_move_175 T (gA T 5 0) (gA T 5 1) (gA T 5 0) (gA T 5 1) := by
    unfold fM_move
    rw [bnd_e (mh0 T), if_pos (show ¬ (23 : Int32) = 12 by decide), if_neg (show ¬ (23 : Int32) = 16 by decide), if_pos (show ¬ (23 : Int32) = 17 by decide), if_pos (show ¬ (23 : Int32) = 18 by decide), if_pos (show ¬ (23 : Int32) = 19 by decide), if_pos (show ¬ (23 : Int32) = 20 by decide), if_pos (show (23 : Int32) ≤ 41 by decide)]
    unfold fM_move_107 fM_move_108
    dsimp only
    rw [if_neg (show ¬ (23 : Int32) = 13 by decide), if_pos (show ¬ (23 : Int32) = 22 by decide)]
    unfold fM_move_131 fM_move_145 fM_move_159
    rw [if_pos rfl, if_neg (show ¬ ¬ (23 : Int32) = 23 by decide), if_neg (show ¬ ¬ (23 : Int32) = 23 by decide)]
  have ec : fCd_compare S 23 = fCd_compare_80 S (S.1 14) (S.1 18) := by
    unfold fCd_compare fCd_compare_17 fCd_compare_40
    rw [if_neg (show ¬ (23 : Int32) = 22 by decide), if_pos (show ¬ (23 : Int32) = 24 by decide), if_pos rfl, if_pos (show (23 : Int32) ≤ 23 by decide), if_pos rfl]
  rw [em, ec, g0, g1]
  exact cmp h Iff.rfl
theorem sx_v {i : Nat} (hi : i < 256) : vN (nI i).toInt8.toInt32 = if i < 128 then i else i + 4294967040 := by
  have h : ∀ i : Nat, i < 256 → vN (nI i).toInt8.toInt32 = if i < 128 then i else i + 4294967040 := by decide +kernel
  exact h i hi
theorem c24 {p : Int32 × Int32} {S T : qS} (h : RR p S T) (hv : T.2 5 0 = S.1 14) (hv1 : T.2 5 1 = S.1 18) (hb : ∃ j : Nat, j < 256 ∧ T.2 5 0 = nI j) (hb1 : ∃ j : Nat, j < 256 ∧ T.2 5 1 = nI j) : PK p S T (fCd_compare S 24) (fM_move T 24) := by
  have g0 : gA T 5 0 = S.1 14 := hv
  have g1 : gA T 5 1 = S.1 18 := hv1
  have em : fM_move T 24 = fM_move_175 T (gA T 5 0) (gA T 5 1) (sg (gA T 5 0)) (sg (gA T 5 1)) := by
    unfold fM_move
    rw [bnd_e (mh0 T), if_pos (show ¬ (24 : Int32) = 12 by decide), if_neg (show ¬ (24 : Int32) = 16 by decide), if_pos (show ¬ (24 : Int32) = 17 by decide), if_pos (show ¬ (24 : Int32) = 18 by decide), if_pos (show ¬ (24 : Int32) = 19 by decide), if_pos (show ¬ (24 : Int32) = 20 by decide), if_pos (show (24 : Int32) ≤ 41 by decide)]
    unfold fM_move_107 fM_move_108
    dsimp only
    rw [if_neg (show ¬ (24 : Int32) = 13 by decide), if_pos (show ¬ (24 : Int32) = 22 by decide)]
    unfold fM_move_131 fM_move_145 fM_move_159
    rw [if_neg (show ¬ (24 : Int32) = 23 by decide), if_neg (show ¬ ¬ (24 : Int32) = 24 by decide), if_pos (show ¬ (24 : Int32) = 23 by decide), bnd_e (show fM_signed T (gA T 5 0) = some (sg (gA T 5 0), T) from rfl)]
    dsimp only
    rw [if_pos (show ¬ (24 : Int32) = 23 by decide), bnd_e (show fM_signed T (gA T 5 1) = some (sg (gA T 5 1), T) from rfl)]
  have ec : fCd_compare S 24 = fCd_compare_80 S (S.1 14).toInt8.toInt32 (S.1 18).toInt8.toInt32 := by
    unfold fCd_compare fCd_compare_12 fCd_compare_17 fCd_compare_40
    rw [if_neg (show ¬ (24 : Int32) = 22 by decide), if_neg (show ¬ ¬ (24 : Int32) = 24 by decide), if_neg (show ¬ (1 : Int32) = 0 by decide), if_pos (show (23 : Int32) ≤ 24 by decide), if_neg (show ¬ (1 : Int32) = 0 by decide)]
  rw [em, ec, g0, g1, sg_eq, sg_eq]
  obtain ⟨i, hi, ei⟩ := hb
  obtain ⟨j, hj, ej⟩ := hb1
  rw [← hv, ← hv1, ei, ej]
  refine cmp h ?_
  rw [sx_v hi, sx_v hj]
  have e1 : vN (nI i) = i := pk_tn (by omega)
  have e2 : vN (nI j) = j := pk_tn (by omega)
  rw [e1, e2]
  by_cases a : i < 128
  · rw [if_pos a]
    by_cases b : j < 128
    · rw [if_pos b]
    · rw [if_neg b]; omega
  · rw [if_neg a]
    by_cases b : j < 128
    · rw [if_pos b]; omega
    · rw [if_neg b]; omega
theorem c42 {p : Int32 × Int32} {S T : qS} (h : RR p S T) (hf : S.1 7 = 0) (hv : T.2 7 0 = S.1 13) (hz : S.1 15 = 4) (hw : OW 1 S T) : PK p S T (fCd_handAddress S 42) (fM_move T 42) := by
  have g0 : gA T 7 0 = S.1 13 := hv
  have em : fM_move T 42 = (fM_has T 0).bind fun q1 => if q1.1 = 0 then mv q1.2 (gA q1.2 7 0) 0 0 1 (gA q1.2 7 0) 4 else mv q1.2 (gA q1.2 7 0) 0 1 1 (gA q1.2 7 0) 4 := rfl
  have ec : fCd_handAddress S 42 = (fCo_has S 1).bind fun q1 => cv q1.2 (S.1 13) 0 q1.1 1 := rfl
  rw [em, ec, bnd_e (mh0 T), bnd_e (ch1 S)]
  dsimp only
  rw [cy_eq (T.1 1) (fun w => mv T (gA T 7 0) 0 w 1 (gA T 7 0) 4), g0, cyr h hf]
  exact MV h hf (k := 1) (by decide) hz (Or.inr rfl) hw (Or.inl ⟨rfl, rfl⟩)
theorem c43 {p : Int32 × Int32} {S T : qS} (h : RR p S T) (hf : S.1 7 = 0) (hv : T.2 7 0 = S.1 13) (hz : S.1 15 = 4) (hw : OW 1 S T) : PK p S T (fCd_handAddress S 43) (fM_move T 43) := by
  have g0 : gA T 7 0 = S.1 13 := hv
  have em : fM_move T 43 = (fM_has T 0).bind fun q1 => if q1.1 = 0 then mv q1.2 (gA q1.2 7 0) 0 0 1 (gA q1.2 7 0) 4 else mv q1.2 (gA q1.2 7 0) 0 1 1 (gA q1.2 7 0) 4 := rfl
  have ec : fCd_handAddress S 43 = (fCo_has S 1).bind fun q1 => cv q1.2 (S.1 13) 0 q1.1 1 := rfl
  rw [em, ec, bnd_e (mh0 T), bnd_e (ch1 S)]
  dsimp only
  rw [cy_eq (T.1 1) (fun w => mv T (gA T 7 0) 0 w 1 (gA T 7 0) 4), g0, cyr h hf]
  exact MV h hf (k := 1) (by decide) hz (Or.inr rfl) hw (Or.inl ⟨rfl, rfl⟩)
theorem hp {p : Int32 × Int32} {S T : qS} (h : RR p S T) (v c : Int32) : PK p S T ((fCo_conclude S v 0 c).bind fun S2 => (fCo_push S2 v).bind fun S4 => fCd_handAddress_67 S4) ((fM_mark T v 0 c).bind fun S1 => (fM_push S1 v).bind fun S2 => fM_move_379 S2) := by
  rw [bnd_e (conc_eq S v 0 c), bnd_e (mark_eq T v 0 c)]
  obtain ⟨S', T', r1, r2, r3, r4, r5⟩ := RR_push (RR_cD h (v := v) (v' := v) (o := 0) (o' := 0) (c := c) (c' := c) (fun _ => ⟨rfl, rfl, rfl⟩)) (x := v) (x' := v) (fun _ => rfl)
  rw [bnd_e r1, bnd_e r2]
  exact ⟨S', T', rfl, rfl, r3, fun _ => ⟨KC_t (KC_p (by decide) _) r4, KM_t (KM_p _ _ _) r5⟩⟩
theorem c44 {p : Int32 × Int32} {S T : qS} (h : RR p S T) (hf : S.1 7 = 0) (hv : T.2 5 0 = S.1 14) : PK p S T (fCd_handAddress S 44) (fM_move T 44) := by
  have g0 : gA T 5 0 = S.1 14 := hv
  have em : fM_move T 44 = (fM_has T 0).bind fun q1 => if q1.1 = 0 then ((fM_mark q1.2 (gA T 5 0) 0 0).bind fun S1 => (fM_push S1 (gA T 5 0)).bind fun S2 => fM_move_379 S2) else ((fM_mark q1.2 (gA T 5 0) 0 1).bind fun S1 => (fM_push S1 (gA T 5 0)).bind fun S2 => fM_move_379 S2) := rfl
  have ec : fCd_handAddress S 44 = (fCo_has S 1).bind fun q1 => (fCo_conclude q1.2 (S.1 14) 0 q1.1).bind fun S2 => (fCo_push S2 (S.1 14)).bind fun S4 => fCd_handAddress_67 S4 := rfl
  rw [em, ec, bnd_e (mh0 T), bnd_e (ch1 S)]
  dsimp only
  rw [cy_eq (T.1 1) (fun w => (fM_mark T (gA T 5 0) 0 w).bind fun S1 => (fM_push S1 (gA T 5 0)).bind fun S2 => fM_move_379 S2), g0, cyr h hf]
  exact hp h _ _
theorem c45 {p : Int32 × Int32} {S T : qS} (h : RR p S T) (hf : S.1 7 = 0) (hv : T.2 7 0 = S.1 13) : PK p S T (fCd_handAddress S 45) (fM_move T 45) := by
  have g0 : gA T 7 0 = S.1 13 := hv
  have em : fM_move T 45 = (fM_has T 0).bind fun q1 => if q1.1 = 0 then ((fM_mark q1.2 (gA q1.2 7 0) 0 0).bind fun S1 => (fM_push S1 (gA q1.2 7 0)).bind fun S2 => fM_move_379 S2) else ((fM_mark q1.2 (gA q1.2 7 0) 0 1).bind fun S1 => (fM_push S1 (gA q1.2 7 0)).bind fun S2 => fM_move_379 S2) := rfl
  have ec : fCd_handAddress S 45 = (fCo_has S 1).bind fun q1 => (fCo_conclude q1.2 (S.1 13) 0 q1.1).bind fun S2 => (fCo_push S2 (S.1 13)).bind fun S4 => fCd_handAddress_67 S4 := rfl
  rw [em, ec, bnd_e (mh0 T), bnd_e (ch1 S)]
  dsimp only
  rw [cy_eq (T.1 1) (fun w => (fM_mark T (gA T 7 0) 0 w).bind fun S1 => (fM_push S1 (gA T 7 0)).bind fun S2 => fM_move_379 S2), g0, cyr h hf]
  exact hp h _ _
/-! going elsewhere -/
theorem pc_r {p : Int32 × Int32} {S T : qS} (h : RR p S T) (hf : S.1 7 = 0) : gA T 1 15 = cGet S 15 := by rw [mGet_15]; exact RR_get h i16_15 hf
theorem PK_pc {p : Int32 × Int32} {S T : qS} (h : RR p S T) {v v' : Int32} (e : S.1 7 = 0 → v' = v) : PK p S T ((fCo_put S 15 v).bind fun S1 => some S1) (some (pA T 1 15 v')) := by
  rw [bnd_e (fCo_put_eq S 15 v), mPut_15]
  exact ⟨_, _, rfl, rfl, RR_put h i16_15 e, fun _ => ⟨KC_put _ _ _, KM_put _ _ _⟩⟩
theorem c46 {p : Int32 × Int32} {S T : qS} (h : RR p S T) (hv : T.2 7 0 = S.1 13) : PK p S T (fCd_go S 46) (fM_go T 46) := by
  have g0 : gA T 7 0 = S.1 13 := hv
  have em : fM_go T 46 = some (pA T 1 15 (gA T 7 0)) := rfl
  have ec : fCd_go S 46 = (fCo_get S 15).bind fun q1 => (fCo_put q1.2 15 (q1.2.1 13)).bind fun S1 => some S1 := rfl
  rw [em, ec, bnd_e (fCo_get_eq S 15), g0]
  exact PK_pc h (fun _ => rfl)
theorem c48 {p : Int32 × Int32} {S T : qS} (h : RR p S T) (hf : S.1 7 = 0) (hv : T.2 5 0 = S.1 14) : PK p S T (fCd_go S 48) (fM_go T 48) := by
  have g0 : gA T 5 0 = S.1 14 := hv
  have em : fM_go T 48 = some (pA T 1 15 (gA T 1 15 + gA T 5 0)) := rfl
  have ec : fCd_go S 48 = (fCo_get S 15).bind fun q1 => (fCo_put q1.2 15 (q1.1 + q1.2.1 14)).bind fun S1 => some S1 := rfl
  rw [em, ec, bnd_e (fCo_get_eq S 15), g0, pc_r h hf]
  exact PK_pc h (fun _ => rfl)
theorem go_p {p : Int32 × Int32} {S T : qS} (h : RR p S T) (hf : S.1 7 = 0) (k : Nat) (hk : 10 ≤ k) (v w : Int32) (hv : v = w + S.1 k) : PK p S T ((fCo_push S (cGet S 15)).bind fun S1 => (fCo_put S1 15 (w + S1.1 k)).bind fun S2 => some S2) ((fM_push T (gA T 1 15)).bind fun S1 => some (pA S1 1 15 v)) := by
  obtain ⟨S1, T1, r1, r2, r3, r4, r5⟩ := RR_push h (x := cGet S 15) (x' := gA T 1 15) (fun _ => pc_r h hf)
  rw [bnd_e r1, bnd_e r2]
  obtain ⟨S', T', a1, a2, a3, a4⟩ := PK_pc r3 (v := w + S1.1 k) (v' := v) (fun _ => by rw [r4 k hk]; exact hv)
  refine ⟨S', T', a1, a2, a3, fun q => ?_⟩
  obtain ⟨b1, b2⟩ := a4 q
  exact ⟨KC_t r4 b1, KM_t r5 b2⟩
theorem c47 {p : Int32 × Int32} {S T : qS} (h : RR p S T) (hf : S.1 7 = 0) (hv : T.2 7 0 = S.1 13) : PK p S T (fCd_go S 47) (fM_go T 47) := by
  have g0 : gA T 7 0 = S.1 13 := hv
  have em : fM_go T 47 = (fM_push T (gA T 1 15)).bind fun S1 => some (pA S1 1 15 (gA T 7 0)) := rfl
  have ec : fCd_go S 47 = (fCo_get S 15).bind fun q1 => (fCo_push q1.2 q1.1).bind fun S1 => (fCo_put S1 15 (S1.1 13)).bind fun S2 => some S2 := rfl
  rw [em, ec, bnd_e (fCo_get_eq S 15), g0]
  have := go_p h hf 13 (by decide) (S.1 13) 0 (Int32.zero_add _).symm
  simp only [Int32.zero_add] at this
  exact this
theorem c49 {p : Int32 × Int32} {S T : qS} (h : RR p S T) (hf : S.1 7 = 0) (hv : T.2 5 0 = S.1 14) : PK p S T (fCd_go S 49) (fM_go T 49) := by
  have g0 : gA T 5 0 = S.1 14 := hv
  have em : fM_go T 49 = (fM_push T (gA T 1 15)).bind fun S1 => some (pA S1 1 15 (gA T 1 15 + gA T 5 0)) := rfl
  have ec : fCd_go S 49 = (fCo_get S 15).bind fun q1 => (fCo_push q1.2 q1.1).bind fun S1 => (fCo_put S1 15 (q1.1 + S1.1 14)).bind fun S2 => some S2 := rfl
  rw [em, ec, bnd_e (fCo_get_eq S 15), g0]
  exact go_p h hf 14 (by decide) _ (cGet S 15) (by rw [pc_r h hf])
/-! branches -/
theorem bit2 (x : Int32) {m : Int32} {i j : Nat} (hi : i < 32) (hj : j < 32) (hm : ∀ k : Nat, k < 32 → bt m k = (decide (k = i) || decide (k = j))) : (x &&& m) = 0 ↔ ¬ bt x i = true ∧ ¬ bt x j = true := by
  refine ⟨fun h => ?_, fun h => b_ext (fun k hk => ?_)⟩
  · have e : ∀ k, bt (x &&& m) k = bt 0 k := fun k => congrArg (fun y => bt y k) h
    refine ⟨fun w => ?_, fun w => ?_⟩
    · have := e i
      rw [b_and, hm i hi, b_0, w, decide_eq_true (rfl : i = i), Bool.true_or] at this
      exact absurd this (by decide)
    · have := e j
      rw [b_and, hm j hj, b_0, w, decide_eq_true (rfl : j = j), Bool.or_true] at this
      exact absurd this (by decide)
  · rw [b_and, hm k hk, b_0]
    by_cases q : k = i
    · subst q
      rw [Bool.eq_false_iff.mpr h.1]; rfl
    · by_cases q2 : k = j
      · subst q2
        rw [Bool.eq_false_iff.mpr h.2]; rfl
      · rw [decide_eq_false q, decide_eq_false q2]; exact Bool.and_false _
theorem m12' : ∀ k : Nat, k < 32 → bt 12 k = (decide (k = 3) || decide (k = 2)) := by decide +kernel
theorem m5' : ∀ k : Nat, k < 32 → bt 5 k = (decide (k = 0) || decide (k = 2)) := by decide +kernel
theorem has2_eq (S : qS) {m : Int32} {i j : Nat} (hi : i < 32) (hj : j < 32) (hm : ∀ k : Nat, k < 32 → bt m k = (decide (k = i) || decide (k = j))) : fCo_has S m = some (if hB (S.1 6) i = 0 then hB (S.1 6) j else 1, S) := by
  have h := bit2 (S.1 6) hi hj hm
  unfold fCo_has hB
  by_cases a : bt (S.1 6) i = true
  · rw [if_neg (fun w => (h.mp w).1 a), if_pos a, if_neg (by decide)]; rfl
  · by_cases b : bt (S.1 6) j = true
    · rw [if_neg (fun w => (h.mp w).2 b), if_neg a, if_pos rfl, if_pos b]; rfl
    · rw [if_pos (h.mpr ⟨a, b⟩), if_neg a, if_pos rfl, if_neg b]; rfl
def met (S T : qS) (c : Int32) : Prop := ∃ r, fCd_holds S c = some (r, S) ∧ fM_isMet T c = some (r, T) ∧ (r = 0 ∨ r = 1)
theorem met50 {S T : qS} (e : T.1 1 = S.1 6) : met S T 50 := by
  have a3 : fM_has T 3 = some (hB (S.1 6) 3, T) := by rw [← e]; exact mhas_eq T (i := 3) (by decide)
  have a2 : fM_has T 2 = some (hB (S.1 6) 2, T) := by rw [← e]; exact mhas_eq T (i := 2) (by decide)
  have em : fM_isMet T 50 = (fM_has T 3).bind fun q1 => (fM_has q1.2 2).bind fun q2 => fM_isMet_104 q2.2 50 q2.1 := rfl
  have ec : fCd_holds S 50 = (fCo_has S 4).bind fun q1 => fCd_holds_75 q1.2 q1.1 0 := rfl
  unfold met
  rw [em, ec, bnd_e a3]
  dsimp only
  rw [bnd_e a2, bnd_e (show fCo_has S 4 = some (_, S) from has_eq S (i := 2) (by decide) m4)]
  dsimp only
  rcases hB_01 (S.1 6) 2 with w | w <;> rw [w] <;> exact ⟨_, rfl, rfl, by decide⟩
theorem met51 {S T : qS} (e : T.1 1 = S.1 6) : met S T 51 := by
  have a3 : fM_has T 3 = some (hB (S.1 6) 3, T) := by rw [← e]; exact mhas_eq T (i := 3) (by decide)
  have a2 : fM_has T 2 = some (hB (S.1 6) 2, T) := by rw [← e]; exact mhas_eq T (i := 2) (by decide)
  have em : fM_isMet T 51 = (fM_has T 3).bind fun q1 => (fM_has q1.2 2).bind fun q2 => fM_isMet_104 q2.2 51 q2.1 := rfl
  have ec : fCd_holds S 51 = (fCo_has S 4).bind fun q1 => fCd_holds_75 q1.2 q1.1 1 := rfl
  unfold met
  rw [em, ec, bnd_e a3]
  dsimp only
  rw [bnd_e a2, bnd_e (show fCo_has S 4 = some (_, S) from has_eq S (i := 2) (by decide) m4)]
  dsimp only
  rcases hB_01 (S.1 6) 2 with w | w <;> rw [w] <;> exact ⟨_, rfl, rfl, by decide⟩
theorem met52 {S T : qS} (e : T.1 1 = S.1 6) : met S T 52 := by
  have a3 : fM_has T 3 = some (hB (S.1 6) 3, T) := by rw [← e]; exact mhas_eq T (i := 3) (by decide)
  have a2 : fM_has T 2 = some (hB (S.1 6) 2, T) := by rw [← e]; exact mhas_eq T (i := 2) (by decide)
  have ec : fCd_holds S 52 = (fCo_has S 12).bind fun q1 => fCd_holds_104 q1.2 q1.1 0 := rfl
  unfold met
  rw [ec, bnd_e (show fCo_has S 12 = some (_, S) from has2_eq S (i := 3) (j := 2) (by decide) (by decide) m12')]
  unfold fM_isMet
  rw [bnd_e a3]
  dsimp only
  rw [bnd_e a2]
  dsimp only
  rw [if_pos (show ¬ (52 - 50 : Int32) / 2 = 0 by decide), if_neg (show ¬ ¬ (52 - 50 : Int32) / 2 = 1 by decide)]
  rcases hB_01 (S.1 6) 3 with w | w <;> rcases hB_01 (S.1 6) 2 with u | u <;> rw [w, u] <;> exact ⟨_, rfl, rfl, by decide⟩
theorem met53 {S T : qS} (e : T.1 1 = S.1 6) : met S T 53 := by
  have a3 : fM_has T 3 = some (hB (S.1 6) 3, T) := by rw [← e]; exact mhas_eq T (i := 3) (by decide)
  have a2 : fM_has T 2 = some (hB (S.1 6) 2, T) := by rw [← e]; exact mhas_eq T (i := 2) (by decide)
  have ec : fCd_holds S 53 = (fCo_has S 12).bind fun q1 => fCd_holds_104 q1.2 q1.1 1 := rfl
  unfold met
  rw [ec, bnd_e (show fCo_has S 12 = some (_, S) from has2_eq S (i := 3) (j := 2) (by decide) (by decide) m12')]
  unfold fM_isMet
  rw [bnd_e a3]
  dsimp only
  rw [bnd_e a2]
  dsimp only
  rw [if_pos (show ¬ (53 - 50 : Int32) / 2 = 0 by decide), if_neg (show ¬ ¬ (53 - 50 : Int32) / 2 = 1 by decide)]
  rcases hB_01 (S.1 6) 3 with w | w <;> rcases hB_01 (S.1 6) 2 with u | u <;> rw [w, u] <;> exact ⟨_, rfl, rfl, by decide⟩
theorem met54 {S T : qS} (e : T.1 1 = S.1 6) : met S T 54 := by
  have a3 : fM_has T 3 = some (hB (S.1 6) 3, T) := by rw [← e]; exact mhas_eq T (i := 3) (by decide)
  have a2 : fM_has T 2 = some (hB (S.1 6) 2, T) := by rw [← e]; exact mhas_eq T (i := 2) (by decide)
  have em : fM_isMet T 54 = (fM_has T 3).bind fun q1 => (fM_has q1.2 2).bind fun q2 => fM_isMet_104 q2.2 54 q1.1 := rfl
  have ec : fCd_holds S 54 = (fCo_has S 8).bind fun q1 => fCd_holds_133 q1.2 q1.1 0 := rfl
  unfold met
  rw [em, ec, bnd_e a3]
  dsimp only
  rw [bnd_e a2, bnd_e (show fCo_has S 8 = some (_, S) from has_eq S (i := 3) (by decide) m8)]
  dsimp only
  rcases hB_01 (S.1 6) 3 with w | w <;> rw [w] <;> exact ⟨_, rfl, rfl, by decide⟩
theorem met55 {S T : qS} (e : T.1 1 = S.1 6) : met S T 55 := by
  have a3 : fM_has T 3 = some (hB (S.1 6) 3, T) := by rw [← e]; exact mhas_eq T (i := 3) (by decide)
  have a2 : fM_has T 2 = some (hB (S.1 6) 2, T) := by rw [← e]; exact mhas_eq T (i := 2) (by decide)
  have em : fM_isMet T 55 = (fM_has T 3).bind fun q1 => (fM_has q1.2 2).bind fun q2 => fM_isMet_104 q2.2 55 q1.1 := rfl
  have ec : fCd_holds S 55 = (fCo_has S 8).bind fun q1 => fCd_holds_133 q1.2 q1.1 1 := rfl
  unfold met
  rw [em, ec, bnd_e a3]
  dsimp only
  rw [bnd_e a2, bnd_e (show fCo_has S 8 = some (_, S) from has_eq S (i := 3) (by decide) m8)]
  dsimp only
  rcases hB_01 (S.1 6) 3 with w | w <;> rw [w] <;> exact ⟨_, rfl, rfl, by decide⟩
theorem met56 {S T : qS} (e : T.1 1 = S.1 6) : met S T 56 := by
  have a3 : fM_has T 3 = some (hB (S.1 6) 3, T) := by rw [← e]; exact mhas_eq T (i := 3) (by decide)
  have a2 : fM_has T 2 = some (hB (S.1 6) 2, T) := by rw [← e]; exact mhas_eq T (i := 2) (by decide)
  have em : fM_isMet T 56 = (fM_has T 3).bind fun q1 => (fM_has q1.2 2).bind fun q2 => (fM_has q2.2 0).bind fun q10 => if ¬ q10.1 = 0 then fM_isMet_78 q10.2 56 else if q2.1 = 0 then fM_isMet_104 q10.2 56 0 else fM_isMet_78 q10.2 56 := rfl
  have ec : fCd_holds S 56 = (fCo_has S 5).bind fun q1 => fCd_holds_161 q1.2 q1.1 0 := rfl
  unfold met
  rw [em, ec, bnd_e a3]
  dsimp only
  rw [bnd_e a2, bnd_e (show fCo_has S 5 = some (_, S) from has2_eq S (i := 0) (j := 2) (by decide) (by decide) m5')]
  dsimp only
  have a0 : fM_has T 0 = some (hB (S.1 6) 0, T) := by rw [← e]; exact mh0 T
  rw [bnd_e a0]
  dsimp only
  rcases hB_01 (S.1 6) 0 with w | w <;> rcases hB_01 (S.1 6) 2 with u | u <;> rw [w, u] <;> exact ⟨_, rfl, rfl, by decide⟩
theorem met57 {S T : qS} (e : T.1 1 = S.1 6) : met S T 57 := by
  have a3 : fM_has T 3 = some (hB (S.1 6) 3, T) := by rw [← e]; exact mhas_eq T (i := 3) (by decide)
  have a2 : fM_has T 2 = some (hB (S.1 6) 2, T) := by rw [← e]; exact mhas_eq T (i := 2) (by decide)
  have em : fM_isMet T 57 = (fM_has T 3).bind fun q1 => (fM_has q1.2 2).bind fun q2 => (fM_has q2.2 0).bind fun q10 => if ¬ q10.1 = 0 then fM_isMet_78 q10.2 57 else if q2.1 = 0 then fM_isMet_104 q10.2 57 0 else fM_isMet_78 q10.2 57 := rfl
  have ec : fCd_holds S 57 = (fCo_has S 5).bind fun q1 => fCd_holds_161 q1.2 q1.1 1 := rfl
  unfold met
  rw [em, ec, bnd_e a3]
  dsimp only
  rw [bnd_e a2, bnd_e (show fCo_has S 5 = some (_, S) from has2_eq S (i := 0) (j := 2) (by decide) (by decide) m5')]
  dsimp only
  have a0 : fM_has T 0 = some (hB (S.1 6) 0, T) := by rw [← e]; exact mh0 T
  rw [bnd_e a0]
  dsimp only
  rcases hB_01 (S.1 6) 0 with w | w <;> rcases hB_01 (S.1 6) 2 with u | u <;> rw [w, u] <;> exact ⟨_, rfl, rfl, by decide⟩
theorem met58 {S T : qS} (e : T.1 1 = S.1 6) : met S T 58 := by
  have a3 : fM_has T 3 = some (hB (S.1 6) 3, T) := by rw [← e]; exact mhas_eq T (i := 3) (by decide)
  have a2 : fM_has T 2 = some (hB (S.1 6) 2, T) := by rw [← e]; exact mhas_eq T (i := 2) (by decide)
  have em : fM_isMet T 58 = (fM_has T 3).bind fun q1 => (fM_has q1.2 2).bind fun q2 => (fM_has q2.2 1).bind fun q9 => fM_isMet_104 q9.2 58 q9.1 := rfl
  have ec : fCd_holds S 58 = (fCo_has S 2).bind fun q1 => fCd_holds_189 q1.2 q1.1 0 := rfl
  unfold met
  rw [em, ec, bnd_e a3]
  dsimp only
  rw [bnd_e a2, bnd_e (show fCo_has S 2 = some (_, S) from has_eq S (i := 1) (by decide) m2)]
  dsimp only
  have a1 : fM_has T 1 = some (hB (S.1 6) 1, T) := by rw [← e]; exact mhas_eq T (i := 1) (by decide)
  rw [bnd_e a1]
  dsimp only
  rcases hB_01 (S.1 6) 1 with w | w <;> rw [w] <;> exact ⟨_, rfl, rfl, by decide⟩
theorem met59 {S T : qS} (e : T.1 1 = S.1 6) : met S T 59 := by
  have a3 : fM_has T 3 = some (hB (S.1 6) 3, T) := by rw [← e]; exact mhas_eq T (i := 3) (by decide)
  have a2 : fM_has T 2 = some (hB (S.1 6) 2, T) := by rw [← e]; exact mhas_eq T (i := 2) (by decide)
  have em : fM_isMet T 59 = (fM_has T 3).bind fun q1 => (fM_has q1.2 2).bind fun q2 => (fM_has q2.2 1).bind fun q9 => fM_isMet_104 q9.2 59 q9.1 := rfl
  have ec : fCd_holds S 59 = (fCo_has S 2).bind fun q1 => fCd_holds_189 q1.2 q1.1 1 := rfl
  unfold met
  rw [em, ec, bnd_e a3]
  dsimp only
  rw [bnd_e a2, bnd_e (show fCo_has S 2 = some (_, S) from has_eq S (i := 1) (by decide) m2)]
  dsimp only
  have a1 : fM_has T 1 = some (hB (S.1 6) 1, T) := by rw [← e]; exact mhas_eq T (i := 1) (by decide)
  rw [bnd_e a1]
  dsimp only
  rcases hB_01 (S.1 6) 1 with w | w <;> rw [w] <;> exact ⟨_, rfl, rfl, by decide⟩
theorem met60 {S T : qS} (e : T.1 1 = S.1 6) : met S T 60 := by
  have a3 : fM_has T 3 = some (hB (S.1 6) 3, T) := by rw [← e]; exact mhas_eq T (i := 3) (by decide)
  have a2 : fM_has T 2 = some (hB (S.1 6) 2, T) := by rw [← e]; exact mhas_eq T (i := 2) (by decide)
  have em : fM_isMet T 60 = (fM_has T 3).bind fun q1 => (fM_has q1.2 2).bind fun q2 => (fM_has q2.2 0).bind fun q8 => fM_isMet_104 q8.2 60 q8.1 := rfl
  have ec : fCd_holds S 60 = (fCo_has S 1).bind fun q1 => fCd_holds_217 q1.2 q1.1 0 := rfl
  unfold met
  rw [em, ec, bnd_e a3]
  dsimp only
  rw [bnd_e a2, bnd_e (show fCo_has S 1 = some (_, S) from ch1 S)]
  dsimp only
  have a0 : fM_has T 0 = some (hB (S.1 6) 0, T) := by rw [← e]; exact mh0 T
  rw [bnd_e a0]
  dsimp only
  rcases hB_01 (S.1 6) 0 with w | w <;> rw [w] <;> exact ⟨_, rfl, rfl, by decide⟩
theorem met61 {S T : qS} (e : T.1 1 = S.1 6) : met S T 61 := by
  have a3 : fM_has T 3 = some (hB (S.1 6) 3, T) := by rw [← e]; exact mhas_eq T (i := 3) (by decide)
  have a2 : fM_has T 2 = some (hB (S.1 6) 2, T) := by rw [← e]; exact mhas_eq T (i := 2) (by decide)
  have em : fM_isMet T 61 = (fM_has T 3).bind fun q1 => (fM_has q1.2 2).bind fun q2 => (fM_has q2.2 0).bind fun q8 => fM_isMet_104 q8.2 61 q8.1 := rfl
  have ec : fCd_holds S 61 = (fCo_has S 1).bind fun q1 => fCd_holds_217 q1.2 q1.1 1 := rfl
  unfold met
  rw [em, ec, bnd_e a3]
  dsimp only
  rw [bnd_e a2, bnd_e (show fCo_has S 1 = some (_, S) from ch1 S)]
  dsimp only
  have a0 : fM_has T 0 = some (hB (S.1 6) 0, T) := by rw [← e]; exact mh0 T
  rw [bnd_e a0]
  dsimp only
  rcases hB_01 (S.1 6) 0 with w | w <;> rw [w] <;> exact ⟨_, rfl, rfl, by decide⟩
theorem cPut_self (S : qS) : cPut S 15 (cGet S 15) = S := by
  rw [cPut_15, cGet_15]
  unfold pA
  refine Prod.ext rfl (funext fun b => ?_)
  show (if b = 2 then upd (S.2 b) 15 (S.2 2 15) else S.2 b) = S.2 b
  by_cases q : b = 2
  · rw [if_pos q, q]
    funext j
    unfold upd
    by_cases q2 : j = 15
    · rw [if_pos q2, q2]
    · rw [if_neg q2]
  · rw [if_neg q]
/-- a branch that isn't taken -/
theorem br0 {p : Int32 × Int32} {S T : qS} (h : RR p S T) (hf : S.1 7 = 0) : PK p S T (some S) (some (pA T 1 15 (gA T 1 15 + 0))) := by
  rw [Int32.add_zero, mPut_15]
  have hr := RR_put h i16_15 (v := cGet S 15) (v' := gA T 1 15) (fun _ => pc_r h hf)
  rw [cPut_self] at hr
  exact ⟨_, _, rfl, rfl, hr, fun _ => ⟨KC_r S, KM_put _ _ _⟩⟩
/-- one that is -/
theorem br1 {p : Int32 × Int32} {S T : qS} (h : RR p S T) (hf : S.1 7 = 0) {v v' : Int32} (hv : v' = v) : PK p S T ((fCo_get S 15).bind fun q2 => (fCo_put q2.2 15 (q2.1 + v)).bind fun S1 => some S1) (some (pA T 1 15 (gA T 1 15 + v'))) := by
  rw [bnd_e (fCo_get_eq S 15), hv, pc_r h hf]
  exact PK_pc h (fun _ => rfl)
theorem brd {p : Int32 × Int32} {S T : qS} (h : RR p S T) (hf : S.1 7 = 0) {c : Int32} (hm : met S T c) (hv : T.2 5 0 = S.1 14) : PK p S T ((fCd_holds S c).bind fun q2 => fCd_branch_52 q2.2 0 q2.1) ((fM_isMet T c).bind fun q5 => if q5.1 = 0 then fM_work_319 q5.2 15 (gA T 1 15) else fM_work_315 q5.2 (gA T 5 0) 15 (gA T 1 15)) := by
  obtain ⟨r, r1, r2, r3⟩ := hm
  rw [bnd_e r1, bnd_e r2]
  dsimp only
  rcases r3 with rfl | rfl
  · rw [if_pos rfl]
    exact br0 h hf
  · rw [if_neg (by decide)]
    exact br1 h hf (v := S.1 14) (v' := gA T 5 0) hv
theorem c62 {p : Int32 × Int32} {S T : qS} (h : RR p S T) (hf : S.1 7 = 0) (hv : T.2 5 0 = S.1 14) (hv1 : T.2 5 1 = S.1 18) : PK p S T (fCd_branch S 62) (fM_work_256 T 62 (gA T 5 1)) := by
  have g0 : gA T 5 0 = S.1 14 := hv
  have em : fM_work_256 T 62 (gA T 5 1) = fM_work_312 T (gA T 5 1) 15 (gA T 1 15) (gA T 5 0 &&& 1) 1 := rfl
  have ec : fCd_branch S 62 = fCd_branch_36 S 1 (S.1 14 &&& 1) 1 := rfl
  rw [em, ec, g0]
  unfold fM_work_312 fCd_branch_36
  by_cases q : S.1 14 &&& 1 = 1
  · rw [if_neg (not_not_intro q), if_neg (not_not_intro q)]
    exact br1 h hf (v := S.1 18) (v' := gA T 5 1) hv1
  · rw [if_pos q, if_pos q]
    exact br0 h hf
theorem c63 {p : Int32 × Int32} {S T : qS} (h : RR p S T) (hf : S.1 7 = 0) (hv : T.2 5 0 = S.1 14) (hv1 : T.2 5 1 = S.1 18) : PK p S T (fCd_branch S 63) (fM_work_256 T 63 (gA T 5 1)) := by
  have g0 : gA T 5 0 = S.1 14 := hv
  have em : fM_work_256 T 63 (gA T 5 1) = fM_work_312 T (gA T 5 1) 15 (gA T 1 15) (gA T 5 0 &&& 1) 0 := rfl
  have ec : fCd_branch S 63 = fCd_branch_36 S 1 (S.1 14 &&& 1) 0 := rfl
  rw [em, ec, g0]
  unfold fM_work_312 fCd_branch_36
  by_cases q : S.1 14 &&& 1 = 0
  · rw [if_neg (not_not_intro q), if_neg (not_not_intro q)]
    exact br1 h hf (v := S.1 18) (v' := gA T 5 1) hv1
  · rw [if_pos q, if_pos q]
    exact br0 h hf
