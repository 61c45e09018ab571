/-! Pure part 36: the calls of the face. -/
def QO (S T : qS) : Prop := RS (S.1 1, S.1 1) S (pI T 0 0)
theorem QO_l {S T : qS} (h : QO S T) : RL S T := ⟨h.2.2.1, fun i hi => h.2.1 i (by omega), h.2.2.2.1⟩
theorem QO_m {S T : qS} (h : QO S T) : RM S T := h.1
theorem QO_i {S T : qS} (h : QO S T) : RI S T := h.2.1
theorem QO_t {S T : qS} (h : QO S T) (v : Int32) : QO S (pI T 0 v) := h
theorem QO_d {S T : qS} (h : QO S T) {k : Nat} (hk : k = 4 ∨ k = 5 ∨ 6 ≤ k) (v : Int32) : QO S (pI T k v) := by
  obtain ⟨h1, h2, h3, h4, h5, h6, h7, h8⟩ := h
  have e : ∀ j : Nat, j < 4 → j ≠ 0 → (pI (pI T k v) 0 0).1 j = (pI T 0 0).1 j := fun j hj hj2 => by
    rw [pI_o _ _ hj2, pI_o _ _ hj2, pI_o _ _ (by omega)]
  exact ⟨h1, h2, h3, (e 1 (by decide) (by decide)).trans h4, (e 2 (by decide) (by decide)).trans h5, rfl, h7, (e 3 (by decide) (by decide)).trans h8⟩
theorem QO_c {S T : qS} (h : QO S T) {k : Nat} (hk : k = 4 ∨ 7 ≤ k) (v : Int32) : QO (pI S k v) T := by
  obtain ⟨h1, h2, h3, h4, h5, h6, h7, h8⟩ := h
  have e6 : (pI S k v).1 6 = S.1 6 := pI_o _ _ (by omega)
  have e0 : (pI S k v).1 0 = S.1 0 := pI_o _ _ (by omega)
  have e1 : (pI S k v).1 1 = S.1 1 := pI_o _ _ (by omega)
  exact ⟨h1, h2, h3, h4.trans e6.symm, h5.trans e0.symm, h6, rfl, h8.trans e1.symm⟩
theorem QO_put {S T : qS} (h : QO S T) {r : Int32} (hr : inb r 16 = true) (v : Int32) : QO (cPut S r v) (mPut T r v) := by
  have hm : mMode T = cMode S := RL_mode (QO_l h)
  obtain ⟨h1, h2, h3, h4⟩ := h
  unfold cPut mPut
  by_cases q : r = 14
  · rw [if_pos q, if_pos q, hm]
    refine ⟨h1, fun i hi => ?_, h3, h4⟩
    show upd (T.2 2) _ v i = upd (S.2 1) _ v i
    exact upd_2 (h2 i hi) rfl
  · rw [if_neg q, if_neg q, and15 hr]
    refine ⟨h1, h2, fun i hi => ?_, h4⟩
    show upd (T.2 1) _ v i = upd (S.2 2) _ v i
    exact upd_2 (h3 i hi) rfl
theorem QO_inn {S T : qS} (h : QO S T) (k v : Int32) : QO (pA S 1 k v) (pA T 2 k v) := by
  obtain ⟨h1, h2, h3, h4⟩ := h
  refine ⟨h1, fun i hi => ?_, h3, h4⟩
  show upd (T.2 2) _ v i = upd (S.2 1) _ v i
  exact upd_2 (h2 i hi) rfl
theorem QO_by {S T : qS} (h : QO S T) (r : Int32) {v v' : Int32} (hv : v' = v &&& 255) : QO (pA S 0 r v) (pA T 0 r v') := by
  obtain ⟨h1, h2⟩ := h
  refine ⟨fun i hi => ?_, h2⟩
  show upd (T.2 0) _ v' i = upd (S.2 0) _ v i &&& 255
  unfold upd
  by_cases q : i = r.toNatClampNeg
  · rw [if_pos q, if_pos q]; exact hv
  · rw [if_neg q, if_neg q]; exact h1 i hi
/-! fill -/
theorem s_s64 : ∀ i, i < 8 → (((nI (8 * i)).toInt64 &&& 63).toBitVec.smod 64).toNat = 8 * i := by decide +kernel
theorem s_u64 : ∀ i, i < 8 → (((nI (8 * i)).toInt64.toUInt64 &&& Int64.toUInt64 63).toBitVec % 64).toNat = 8 * i := by decide +kernel
theorem m255 : ∀ j, j < 64 → (255 : Int64).toBitVec.getLsbD j = decide (j < 8) := by decide +kernel
theorem tr_bit (x : Int64) {j : Nat} (hj : j < 32) : bt x.toInt32 j = x.toBitVec.getLsbD j := by
  unfold bt
  rw [Int64.toBitVec_toInt32, BitVec.getLsbD_signExtend, decide_eq_true hj, if_pos (by omega), Bool.true_and]
theorem fill_b (x : Int64) {i : Nat} (hi : i < 8) : ((x >>> ((8 * nI i).toInt64 &&& 63)) &&& 255).toInt32 = (ushrL x (8 * nI i)).toInt32.toInt8.toInt32 &&& 255 := by
  rw [byte_rel, show (8 : Int32) * nI i = nI (8 * i) from pk_mul 8 i]
  refine b_ext (fun j hj => ?_)
  rw [b_and, b_255, tr_bit _ hj, tr_bit _ hj, Int64.toBitVec_and, BitVec.getLsbD_and, m255 j (by omega)]
  by_cases q : j < 8
  · rw [decide_eq_true q, Bool.and_true, Bool.and_true, Int64.toBitVec_shiftRight]
    show (x.toBitVec.sshiftRight (((nI (8 * i)).toInt64 &&& 63).toBitVec.smod 64).toNat).getLsbD j = (x.toUInt64 >>> ((nI (8 * i)).toInt64.toUInt64 &&& Int64.toUInt64 63)).toBitVec.getLsbD j
    rw [s_s64 i hi, UInt64.toBitVec_shiftRight]
    show _ = (x.toBitVec >>> (((nI (8 * i)).toInt64.toUInt64 &&& Int64.toUInt64 63).toBitVec % 64).toNat).getLsbD j
    rw [s_u64 i hi, BitVec.getLsbD_sshiftRight, BitVec.getLsbD_ushiftRight, if_pos (by omega), decide_eq_false (show ¬ 64 ≤ j by omega)]
    rfl
  · rw [decide_eq_false q, Bool.and_false, Bool.and_false]
theorem fill_l (x : Int64) (a : Int32) (k : Nat) : ∀ {S T : qS} (i m : Nat), i + k = 8 → QO S T → ∃ S' T', fX_fill_3 (k + 1 + m) S a x (nI i) = some S' ∧ fM_fill_8 (k + 1 + m) T a x (nI i) = some T' ∧ QO S' T' ∧ T'.1 0 = T.1 0 := by
  induction k with
  | zero =>
    intro S T i m hi h
    have c8 : (8 : Int32) ≤ nI i := (nI_lei (a := 8) (by omega) (by omega)).mpr (by omega)
    refine ⟨S, T, ?_, ?_, h, rfl⟩
    · rw [show 0 + 1 + m = m + 1 by omega, fX_fill_3, if_pos c8]
    · rw [show 0 + 1 + m = m + 1 by omega, fM_fill_8, if_pos c8]
  | succ k ih =>
    intro S T i m hi h
    have c8 : ¬ (8 : Int32) ≤ nI i := fun w => by
      have := (nI_lei (a := 8) (by omega) (by omega)).mp w
      omega
    rw [show k + 1 + 1 + m = (k + 1 + m) + 1 by omega, fX_fill_3, fM_fill_8, if_neg c8, if_neg c8, bnd_e (fSt_putByte_eq S _ _), chk_t (inb_2047 _), nI_1]
    exact ih (i + 1) m (by omega) (QO_by h _ (fill_b x (by omega)))
theorem q_fill {S T : qS} (h : QO S T) (a : Int32) (x : Int64) : ∃ S' T', fX_fill S a x = some S' ∧ fM_fill T a x = some T' ∧ QO S' T' ∧ T'.1 0 = 0 := by
  obtain ⟨S', T', r1, r2, r3, r4⟩ := fill_l x a 8 0 291 rfl (QO_t h 0)
  exact ⟨S', T', r1, r2, r3, r4⟩
theorem q_look {S T : qS} (h : QO S T) (a : Int32) : ∃ v, fX_look S a = some (v, S) ∧ fM_look T a = some (v, pI T 0 0) := by
  refine ⟨cLong S a, fX_look_eq S a, ?_⟩
  unfold fM_look
  rw [bnd_e (fM_bare_eq _ a)]
  have e : mLong (pI T 0 0) a = cLong S a := RM_L (QO_m h) a
  rw [e]
theorem i16_of {a : Int32} (h0 : ¬ a < 0) (h1 : a < 16) : inb a 16 = true := by
  unfold inb
  rw [Bool.and_eq_true, decide_eq_true_eq, decide_eq_true_eq]
  have e0 : (0 : Int32).toInt = 0 := by decide
  have e1 : (16 : Int32).toInt = 16 := by decide
  have a1 := Int32.lt_iff_toInt_lt.mp h1
  have a0 : ¬ a.toInt < (0 : Int32).toInt := fun w => h0 (Int32.lt_iff_toInt_lt.mpr w)
  omega
theorem le15 {a : Int32} : a ≤ 15 ↔ a < 16 := by
  have e0 : (15 : Int32).toInt = 15 := by decide
  have e1 : (16 : Int32).toInt = 16 := by decide
  rw [Int32.lt_iff_toInt_lt, Int32.le_iff_toInt_le]; omega
theorem le3 {a : Int32} : a ≤ 3 ↔ a < 4 := by
  have e0 : (3 : Int32).toInt = 3 := by decide
  have e1 : (4 : Int32).toInt = 4 := by decide
  rw [Int32.lt_iff_toInt_lt, Int32.le_iff_toInt_le]; omega
theorem q_set {S T : qS} (h : QO S T) (fo : Nat → Int64) (a b : Int32) : ∃ k S' T', jL_set S fo a b = some (k, (S', fo)) ∧ fM_set T a b = some T' ∧ T'.1 0 = k ∧ QO S' T' := by
  have bad : fM_set_11 T a b = some (pI T 0 1) := by
    unfold fM_set_11 fM_set_16
    rw [if_pos (show ¬ (pI T 0 1).1 0 = 0 by show ¬ (1 : Int32) = 0; decide)]
    rfl
  unfold jL_set fX_set gX_set fM_set
  by_cases q0 : a < 0
  · rw [if_pos q0, if_pos q0, if_pos q0, bad]
    exact ⟨1, S, _, rfl, rfl, rfl, QO_t h 1⟩
  · rw [if_neg q0, if_neg q0, if_neg q0]
    by_cases q1 : a < 16
    · have hi := i16_of q0 q1
      rw [if_pos q1, if_pos (le15.mpr q1), bnd_e (fCo_put_eq S a b)]
      unfold fM_set_16
      rw [if_neg (show ¬ ¬ (pI T 0 0).1 0 = 0 from not_not_intro rfl), bnd_e (fM_put_eq _ b hi)]
      exact ⟨0, _, _, rfl, rfl, mPut_f _ _ _ 0, QO_put (QO_t h 0) hi b⟩
    · rw [if_neg q1, if_neg q1, if_neg (fun w => q1 (le15.mp w)), bad]
      exact ⟨1, S, _, rfl, rfl, rfl, QO_t h 1⟩
theorem q_register {S T : qS} (h : QO S T) (fo : Nat → Int64) (a : Int32) : ∃ k S' fo' v T', jL_register S fo a = some (k, (S', fo')) ∧ fM_register T a = some (v, T') ∧ T'.1 0 = k ∧ (k = 0 → fo' 0 = v.toInt64) ∧ (k = 0 ∨ k = 1) ∧ QO S' T' := by
  have bad : fM_register_10 T = some (0, pI T 0 1) := rfl
  unfold jL_register fX_register gX_register fM_register
  by_cases q0 : a < 0
  · rw [if_pos q0, if_pos q0, if_pos q0, bad]
    exact ⟨1, S, fo, _, _, rfl, rfl, rfl, fun w => absurd w (by decide), Or.inr rfl, QO_t h 1⟩
  · rw [if_neg q0, if_neg q0, if_neg q0]
    by_cases q1 : a < 16
    · have hi := i16_of q0 q1
      rw [if_pos q1, if_pos (le15.mpr q1), bnd_e (fCo_get_eq S a), bnd_e (fM_get_eq _ hi)]
      have e : mGet (pI T 0 0) a = cGet S a := RL_get (QO_l (QO_t h 0)) hi
      exact ⟨0, S, _, _, _, rfl, rfl, rfl, fun _ => by rw [e]; exact if_pos rfl, Or.inl rfl, QO_t h 0⟩
    · rw [if_neg q1, if_neg q1, if_neg (fun w => q1 (le15.mp w)), bad]
      exact ⟨1, S, fo, _, _, rfl, rfl, rfl, fun w => absurd w (by decide), Or.inr rfl, QO_t h 1⟩
theorem q_setInner {S T : qS} (h : QO S T) (fo : Nat → Int64) (a b : Int32) : ∃ k S' T', jL_setInner S fo a b = some (k, (S', fo)) ∧ fM_setInner T a b = some T' ∧ T'.1 0 = k ∧ QO S' T' := by
  obtain ⟨r, a1, a2⟩ := fCo_hasInner_eq S a
  obtain ⟨r', b1, b2⟩ := fM_isInner_eq T a
  unfold jL_setInner fX_setInner gX_setInner fM_setInner
  rw [bnd_e a1, bnd_e a1, bnd_e b1]
  dsimp only
  rcases a2 with ⟨rfl, hin⟩ | ⟨rfl, hin⟩
  · rcases b2 with ⟨rfl, -⟩ | ⟨-, n⟩
    · have i57 := isIn_inb hin
      have e41 : ∀ v : Int32, fX_setInner_41 S a v = some (pA S 1 a v) := fun v => by
        unfold fX_setInner_41
        rw [bnd_e (fCo_putInner_eq S a v hin)]
      have e43 : ∀ v : Int32, fM_setInner_43 (pI T 0 0) a v = some (pA (pI T 0 0) 2 a v) := fun v => by
        unfold fM_setInner_43
        rw [chk_t i57]; rfl
      have yes : ∀ v : Int32, ∃ k S' T', jV (some (pA S 1 a v)) none fo 0 = some (k, (S', fo)) ∧ some (pA (pI T 0 0) 2 a v) = some T' ∧ T'.1 0 = k ∧ QO S' T' := fun v => ⟨0, _, _, rfl, rfl, rfl, QO_inn (QO_t h 0) a v⟩
      rw [if_pos (show ¬ (1 : Int32) = 0 by decide), if_pos (show ¬ (1 : Int32) = 0 by decide), if_neg (show ¬ (1 : Int32) = 0 by decide)]
      unfold fM_setInner_13 fX_setInner_40 fM_setInner_42
      rw [if_neg (show ¬ ¬ (pI T 0 0).1 0 = 0 from not_not_intro rfl), e41, e41, e43, e43]
      by_cases q : a = 56
      · rw [if_neg (not_not_intro q), if_neg (not_not_intro q)]
        by_cases q0 : b = 0
        · rw [if_pos q0, if_pos q0]; exact yes b
        · rw [if_neg q0, if_neg q0]; exact yes 1
      · rw [if_pos q, if_pos q]; exact yes b
    · exact absurd hin n
  · rcases b2 with ⟨-, n⟩ | ⟨rfl, -⟩
    · exact absurd n hin
    · rw [if_neg (show ¬ ¬ (0 : Int32) = 0 by decide), if_neg (show ¬ ¬ (0 : Int32) = 0 by decide), if_pos rfl]
      unfold fM_setInner_13
      rw [if_pos (show ¬ (pI T 0 1).1 0 = 0 by show ¬ (1 : Int32) = 0; decide)]
      exact ⟨1, S, _, rfl, rfl, rfl, QO_t h 1⟩
theorem q_inner {S T : qS} (h : QO S T) (fo : Nat → Int64) (a : Int32) : ∃ k S' fo' v T', jL_inner S fo a = some (k, (S', fo')) ∧ fM_inner T a = some (v, T') ∧ T'.1 0 = k ∧ (k = 0 → fo' 0 = v.toInt64) ∧ (k = 0 ∨ k = 1) ∧ QO S' T' := by
  obtain ⟨r, a1, a2⟩ := fCo_hasInner_eq S a
  obtain ⟨r', b1, b2⟩ := fM_isInner_eq T a
  unfold jL_inner fX_inner gX_inner fM_inner
  rw [bnd_e a1, bnd_e a1, bnd_e b1]
  dsimp only
  rcases a2 with ⟨rfl, hin⟩ | ⟨rfl, hin⟩
  · rcases b2 with ⟨rfl, -⟩ | ⟨-, n⟩
    · have i57 := isIn_inb hin
      rw [if_pos (show ¬ (1 : Int32) = 0 by decide), if_pos (show ¬ (1 : Int32) = 0 by decide), if_pos (show ¬ (1 : Int32) = 0 by decide), bnd_e (fCo_getInner_eq S a hin), chk_t i57]
      have e : gA (pI T 0 0) 2 a = gA S 1 a := QO_i (QO_t h 0) _ (ix_lt i57)
      exact ⟨0, S, _, _, _, rfl, rfl, rfl, fun _ => by rw [e]; exact if_pos rfl, Or.inl rfl, QO_t h 0⟩
    · exact absurd hin n
  · rcases b2 with ⟨-, n⟩ | ⟨rfl, -⟩
    · exact absurd n hin
    · rw [if_neg (show ¬ ¬ (0 : Int32) = 0 by decide), if_neg (show ¬ ¬ (0 : Int32) = 0 by decide), if_neg (show ¬ ¬ (0 : Int32) = 0 by decide)]
      exact ⟨1, S, fo, _, _, rfl, rfl, rfl, fun w => absurd w (by decide), Or.inr rfl, QO_t h 1⟩
theorem q_begin {S T : qS} (h : QO S T) (fo : Nat → Int64) (a : Int32) : ∃ k S' T', jL_begin S fo a = some (k, (S', fo)) ∧ fM_begin T a = some T' ∧ T'.1 0 = k ∧ QO S' T' := by
  unfold jL_begin fX_begin gX_begin fM_begin fM_begin_13
  by_cases q : (a &&& (-62914608)) = 0
  · rw [if_pos q, if_pos q, if_pos q, if_neg (show ¬ ¬ (pI T 0 0).1 0 = 0 from not_not_intro rfl)]
    unfold fM_begin_28
    rw [if_neg (show ¬ ¬ (pI (pI T 0 0) 1 a).1 0 = 0 from not_not_intro rfl)]
    obtain ⟨h1, h2, h3, h4, h5, h6, h7, h8⟩ := h
    exact ⟨0, _, _, rfl, rfl, rfl, ⟨h1, h2, h3, rfl, rfl, rfl, rfl, h8⟩⟩
  · rw [if_neg q, if_neg q, if_neg q, if_pos (show ¬ (pI T 0 1).1 0 = 0 by show ¬ (1 : Int32) = 0; decide)]
    unfold fM_begin_28
    rw [if_pos (show ¬ (pI T 0 1).1 0 = 0 by show ¬ (1 : Int32) = 0; decide)]
    exact ⟨1, S, _, rfl, rfl, rfl, QO_t h 1⟩
theorem q_status {S T : qS} (h : QO S T) : ∃ v, fX_status S = some (v, S) ∧ fM_status T = some (v, pI T 0 0) := by
  refine ⟨S.1 6, rfl, ?_⟩
  unfold fM_status
  rw [show (pI T 0 0).1 1 = S.1 6 from h.2.2.2.1]
theorem q_run {S T : qS} (h : QO S T) (fo : Nat → Int64) (a : Int32) : ∃ k S' fo' v T', jL_run S fo a = some (k, (S', fo')) ∧ fM_run T a = some (v, T') ∧ T'.1 0 = k ∧ (k = 0 → fo' 0 = v.toInt64) ∧ (k = 0 ∨ k = 1 ∨ k = 2) ∧ QO S' T' := by
  have bad : fM_run_12 T = some (0, pI T 0 1) := rfl
  have e2 : T.1 2 = S.1 0 := h.2.2.2.2.1
  unfold jL_run fX_run gX_run fM_run
  by_cases q0 : a < 1
  · rw [if_pos q0, if_pos q0, if_pos q0, bad]
    exact ⟨1, S, fo, _, _, rfl, rfl, rfl, fun w => absurd w (by decide), Or.inr (Or.inl rfl), QO_t h 1⟩
  · rw [if_neg q0, if_neg q0, if_neg q0]
    by_cases q1 : a ≤ 200
    · rw [if_pos q1, if_pos q1, if_pos q1, e2]
      by_cases qs : S.1 0 = 0
      · rw [if_pos qs, if_pos qs, if_pos qs]
        obtain ⟨n, hn, en⟩ : ∃ n : Nat, n ≤ 200 ∧ a = nI n := by
          refine ⟨vN a, ?_, (nI_vN a).symm⟩
          have a1 := Int32.le_iff_toInt_le.mp q1
          have a0 : ¬ a.toInt < (1 : Int32).toInt := fun w => q0 (Int32.lt_iff_toInt_lt.mpr w)
          have e0 : (1 : Int32).toInt = 1 := by decide
          have e1 : (200 : Int32).toInt = 200 := by decide
          rw [v_int] at a1 a0
          have := vN_lt a
          omega
        subst en
        have hS : RS (S.1 1, S.1 1 + nI 0) S (pI T 0 0) := by
          rw [show nI 0 = 0 from rfl, Int32.add_zero]; exact h
        obtain ⟨v, S', T', r1, r2, r3⟩ := run_l (S.1 1) n hn n 0 (299 - n) (Nat.zero_add _) hS
        rw [show n + 1 + (299 - n) = 300 by omega] at r1 r2
        rw [show fX_run_41 300 S (nI n) 0 = some (nI v, pI S' 1 (S'.1 1 + nI v)) from r1, show fM_run_38 300 (pI T 0 0) (nI n) 0 = some (nI v, T') from r2]
        refine ⟨0, _, _, _, _, rfl, rfl, r3.2.2.2.2.2.1, fun _ => if_pos rfl, Or.inl rfl, ?_⟩
        obtain ⟨g1, g2, g3, g4, g5, g6, g7, g8⟩ := r3
        refine ⟨g1, g2, g3, g4, g5, rfl, rfl, ?_⟩
        show T'.1 3 = S'.1 1 + nI v
        rw [g8, g7]
      · rw [if_neg qs, if_neg qs, if_neg qs]
        exact ⟨2, S, fo, _, _, rfl, rfl, rfl, fun w => absurd w (by decide), Or.inr (Or.inr rfl), QO_t h 2⟩
    · rw [if_neg q1, if_neg q1, if_neg q1, bad]
      exact ⟨1, S, fo, _, _, rfl, rfl, rfl, fun w => absurd w (by decide), Or.inr (Or.inl rfl), QO_t h 1⟩
theorem q_reach {S T : qS} (h : QO S T) (fo : Nat → Int64) (a : Int32) {w : Int32} (hw : w = 0 ∨ w = 1) (m : Int32) : ∃ k S' fo' v T', jL_reach S fo a w m = some (k, (S', fo')) ∧ fM_reach T a w m = some (v, T') ∧ T'.1 0 = k ∧ (k = 0 → fo' 0 = v.toInt64) ∧ (k = 0 ∨ k = 1) ∧ QO S' T' := by
  have bad : fM_reach_9 T = some (0, pI T 0 1) := rfl
  unfold jL_reach fX_reach gX_reach fM_reach
  by_cases q0 : m < 0
  · rw [if_pos q0, if_pos q0, if_pos q0, bad]
    exact ⟨1, S, fo, _, _, rfl, rfl, rfl, fun w => absurd w (by decide), Or.inr rfl, QO_t h 1⟩
  · rw [if_neg q0, if_neg q0, if_neg q0]
    by_cases q1 : m < 4
    · obtain ⟨e, he, -⟩ := fM_find_eq (pI T 0 0) a w m hw
      rw [spl_rel (S := S) (T := pI T 0 0) (QO_m h) (QO_i h) a w m] at he
      rw [if_pos q1, if_pos q1, if_pos (le3.mpr q1), bnd_e (fPg_locate_eq S a w m), bnd_e he]
      exact ⟨0, _, _, _, _, rfl, rfl, rfl, fun _ => if_pos rfl, Or.inl rfl, QO_d (QO_c (QO_t h 0) (Or.inl rfl) _) (Or.inr (Or.inr (by decide))) e⟩
    · rw [if_neg q1, if_neg q1, if_neg (fun w => q1 (le3.mp w)), bad]
      exact ⟨1, S, fo, _, _, rfl, rfl, rfl, fun w => absurd w (by decide), Or.inr rfl, QO_t h 1⟩
theorem q_state {S T : qS} (h : QO S T) (a : Int32) : ∃ v v', fX_state S a = some (v, S) ∧ fM_state T a = some (v', pI T 0 0) ∧ (¬ a = 2 → ¬ a = 3 → v' = v) := by
  have ei : ∀ {n : Nat}, n < 4 → a = nI n → ¬ (a.toInt < 0 ∨ 3 < a.toInt) := fun {n} hn e => by
    rw [e, nI_toInt (by omega)]; omega
  unfold fX_state fM_state
  by_cases q0 : a = 0
  · rw [if_neg (ei (n := 0) (by decide) q0), if_pos q0, if_neg (not_not_intro q0)]
    exact ⟨_, _, rfl, rfl, fun _ _ => h.2.2.2.2.1⟩
  · by_cases q1 : a = 1
    · rw [if_neg (ei (n := 1) (by decide) q1), if_neg q0, if_pos q1, if_pos q0, if_neg (not_not_intro q1)]
      exact ⟨_, _, rfl, rfl, fun _ _ => h.2.2.2.2.2.2.2⟩
    · by_cases q2 : a = 2
      · rw [if_neg (ei (n := 2) (by decide) q2), if_neg q0, if_neg q1, if_pos q2, if_pos q0, if_pos q1, if_neg (not_not_intro q2)]
        exact ⟨_, _, rfl, rfl, fun w => absurd q2 w⟩
      · by_cases q3 : a = 3
        · rw [if_neg (ei (n := 3) (by decide) q3), if_neg q0, if_neg q1, if_neg q2, if_pos q3, if_pos q0, if_pos q1, if_pos q2, if_neg (not_not_intro q3)]
          exact ⟨_, _, rfl, rfl, fun _ w => absurd q3 w⟩
        · have hh : a.toInt < 0 ∨ 3 < a.toInt := by
            refine Classical.byContradiction fun w => ?_
            have hc : ∀ n : Nat, n < 4 → ¬ a.toInt = n := fun n hn e => by
              have : a = nI n := by
                apply Int32.toInt_inj.mp
                rw [e, nI_toInt (by omega)]
              have h4 : n = 0 ∨ n = 1 ∨ n = 2 ∨ n = 3 := by omega
              rcases h4 with rfl | rfl | rfl | rfl
              · exact q0 this
              · exact q1 this
              · exact q2 this
              · exact q3 this
            have h0 := hc 0 (by decide)
            have h1 := hc 1 (by decide)
            have h2 := hc 2 (by decide)
            have h3 := hc 3 (by decide)
            omega
          rw [if_pos hh, if_pos q0, if_pos q1, if_pos q2, if_pos q3]
          exact ⟨_, _, rfl, rfl, fun _ _ => rfl⟩
