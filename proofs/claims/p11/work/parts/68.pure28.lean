/-! Pure part 28: sums, products, shifts. -/
theorem lg0 (x y : Int64) : lg_cmp x y = 0 ↔ x = y := by
  unfold lg_cmp
  by_cases h : x > y
  · rw [if_pos h]
    refine ⟨fun w => absurd w (by decide), fun w => ?_⟩
    rw [w] at h
    have := Int64.lt_iff_toInt_lt.mp h
    omega
  · rw [if_neg h]
    by_cases e : x = y
    · rw [if_pos e]; exact ⟨fun _ => e, fun _ => rfl⟩
    · rw [if_neg e]; exact ⟨fun w => absurd w (by decide), fun w => absurd w e⟩
theorem lgle (x y : Int64) : lg_cmp x y ≤ 0 ↔ x.toInt ≤ y.toInt := by
  unfold lg_cmp
  by_cases h : x > y
  · rw [if_pos h]
    have := Int64.lt_iff_toInt_lt.mp h
    exact ⟨fun w => absurd w (by decide), fun w => by omega⟩
  · rw [if_neg h]
    have h2 : ¬ y.toInt < x.toInt := fun w => h (Int64.lt_iff_toInt_lt.mpr w)
    by_cases e : x = y
    · rw [if_pos e]; exact ⟨fun _ => by omega, fun _ => by decide⟩
    · rw [if_neg e]; exact ⟨fun _ => by omega, fun _ => by decide⟩
theorem low32 (a : Int32) : (a.toInt64 &&& 4294967295).toInt = (vN a : Int) := by
  have h1 : (a.toInt64 &&& 4294967295).toBitVec.toNat = vN a := by
    rw [Int64.toBitVec_and, BitVec.toNat_and, Int32.toBitVec_toInt64]
    have e : (4294967295 : Int64).toBitVec.toNat = 2 ^ 32 - 1 := by decide
    rw [e, Nat.and_two_pow_sub_one_eq_mod]
    have e2 : (BitVec.signExtend 64 a.toBitVec).setWidth 32 = a.toBitVec := by
      refine BitVec.eq_of_getLsbD_eq (fun i hi => ?_)
      rw [BitVec.getLsbD_setWidth, BitVec.getLsbD_signExtend, if_pos hi, decide_eq_true hi, decide_eq_true (show i < 64 by omega)]
      rfl
    have e3 := congrArg BitVec.toNat e2
    rw [BitVec.toNat_setWidth] at e3
    exact e3
  have h2 := vN_lt a
  show (a.toInt64 &&& 4294967295).toBitVec.toInt = _
  rw [BitVec.toInt_eq_toNat_cond, h1, if_pos (by omega)]
theorem sum32 (a b : Int32) : (a.toInt64 + b.toInt64).toInt32 = a + b := by
  rw [Int64.toInt32_add, Int32.toInt32_toInt64, Int32.toInt32_toInt64]
theorem vN_sum (a b : Int32) : vN (a + b) = (vN a + vN b) % 4294967296 := by
  show (a + b).toBitVec.toNat = _
  rw [Int32.toBitVec_add, BitVec.toNat_add]
  rfl
theorem carry_add (a b : Int32) : lg_cmp ((a.toInt64 &&& 4294967295) + (b.toInt64 &&& 4294967295)) 4294967295 ≤ 0 ↔ ¬ vN (a.toInt64 + b.toInt64).toInt32 < vN b := by
  have ha := vN_lt a
  have hb := vN_lt b
  have e : (4294967295 : Int64).toInt = 4294967295 := by decide
  rw [lgle, e, Int64.toInt_add, low32, low32, Int.bmod_def, sum32, vN_sum]
  omega
/-- sums and their kin -/
def aO (s : Int64) : Int32 := if lg_cmp s s.toInt32.toInt64 = 0 then 0 else 1
def bL (a b : Int32) : Int32 := if vN a < vN b then 1 else 0
theorem add_eq (S : qS) (a b : Int32) : fCd_add S a b = some ((a.toInt64 + b.toInt64).toInt32, pI S 6 (cD (S.1 6) (a.toInt64 + b.toInt64).toInt32 (aO (a.toInt64 + b.toInt64)) (bL (a.toInt64 + b.toInt64).toInt32 b))) := by
  have h := carry_add a b
  have e25 : ∀ o : Int32, fCd_add_25 S a b (a.toInt64 + b.toInt64) (a.toInt64 + b.toInt64).toInt32 o = some ((a.toInt64 + b.toInt64).toInt32, pI S 6 (cD (S.1 6) (a.toInt64 + b.toInt64).toInt32 o (bL (a.toInt64 + b.toInt64).toInt32 b))) := fun o => by
    unfold fCd_add_25 fCd_add_50 bL
    by_cases q : vN (a.toInt64 + b.toInt64).toInt32 < vN b
    · rw [if_neg (fun w => (h.mp w) q), bnd_e (conc_eq S _ _ _), if_pos q]
    · rw [if_pos (h.mpr q), bnd_e (conc_eq S _ _ _), if_neg q]
  unfold fCd_add aO
  by_cases q : lg_cmp (a.toInt64 + b.toInt64) (a.toInt64 + b.toInt64).toInt32.toInt64 = 0
  · rw [if_pos q, if_pos q, e25]
  · rw [if_neg q, if_neg q, e25]
theorem sub_eq (S : qS) (a b : Int32) : fCd_subtract S a b = some ((a.toInt64 - b.toInt64).toInt32, pI S 6 (cD (S.1 6) (a.toInt64 - b.toInt64).toInt32 (aO (a.toInt64 - b.toInt64)) (bL a b))) := by
  obtain ⟨r, r1, r2⟩ := cmpU_eq S a b
  have e25 : ∀ o : Int32, fCd_subtract_25 S a b (a.toInt64 - b.toInt64) (a.toInt64 - b.toInt64).toInt32 o = some ((a.toInt64 - b.toInt64).toInt32, pI S 6 (cD (S.1 6) (a.toInt64 - b.toInt64).toInt32 o (bL a b))) := fun o => by
    unfold fCd_subtract_25 fCd_subtract_38 bL
    rw [bnd_e r1]
    dsimp only
    by_cases q : vN a < vN b
    · rw [if_neg (fun w => (r2.mp w) q), bnd_e (conc_eq S _ _ _), if_pos q]
    · rw [if_pos (r2.mpr q), bnd_e (conc_eq S _ _ _), if_neg q]
  unfold fCd_subtract aO
  by_cases q : lg_cmp (a.toInt64 - b.toInt64) (a.toInt64 - b.toInt64).toInt32.toInt64 = 0
  · rw [if_pos q, if_pos q, e25]
  · rw [if_neg q, if_neg q, e25]
theorem mul_eq (S : qS) (a b : Int32) : fCd_multiply S a b = some ((a.toInt64 * b.toInt64).toInt32, pI S 6 (cD (S.1 6) (a.toInt64 * b.toInt64).toInt32 (aO (a.toInt64 * b.toInt64)) 0)) := by
  unfold fCd_multiply fCd_multiply_25 aO
  by_cases q : lg_cmp (a.toInt64 * b.toInt64) (a.toInt64 * b.toInt64).toInt32.toInt64 = 0
  · rw [if_pos q, if_pos q, bnd_e (conc_eq S _ _ _)]
  · rw [if_neg q, if_neg q, bnd_e (conc_eq S _ _ _)]
def dO (a b : Int32) : Prop := b = 0 ∨ (a = -2147483648 ∧ b = -1)
theorem div12_eq (S : qS) (a b : Int32) : (dO a b → fCd_divide_12 S a b = some (a, pI S 6 (cD (S.1 6) a 1 0))) ∧ (¬ dO a b → fCd_divide_12 S a b = some (a / b, pI S 6 (cD (S.1 6) (a / b) 0 0))) := by
  have e1 : fCd_divide_27 S a b = some (a, pI S 6 (cD (S.1 6) a 1 0)) := by
    unfold fCd_divide_27 fCd_divide_32 fCd_divide_44
    rw [if_neg (by decide), bnd_e (conc_eq S _ _ _)]
  have e2 : ¬ b = 0 → fCd_divide_31 S a b = some (a / b, pI S 6 (cD (S.1 6) (a / b) 0 0)) := fun h => by
    unfold fCd_divide_31 fCd_divide_32 fCd_divide_44
    rw [if_pos rfl, chk_t (bne_iff_ne.mpr h), bnd_e (conc_eq S _ _ _)]
  unfold fCd_divide_12 dO
  refine ⟨fun h => ?_, fun h => ?_⟩
  · rcases h with h | ⟨h1, h2⟩
    · rw [if_pos h, e1]
    · by_cases h : b = 0
      · rw [if_pos h, e1]
      · rw [if_neg h, if_neg (not_not_intro h1), if_neg (not_not_intro h2), e1]
  · have h0 : ¬ b = 0 := fun w => h (Or.inl w)
    rw [if_neg h0]
    by_cases h1 : a = -2147483648
    · rw [if_neg (not_not_intro h1), if_pos (fun w => h (Or.inr ⟨h1, w⟩)), e2 h0]
    · rw [if_pos h1, e2 h0]
theorem bits_eq (S : qS) (v : Int32) : fCd_bits S v = some (v, pI S 6 (cD (S.1 6) v 0 (hB (S.1 6) 0))) := by
  unfold fCd_bits
  rw [bnd_e (ch1 S)]
  dsimp only
  rw [bnd_e (conc_eq S _ _ _)]
/-! the reference -/
theorem rk_16 (T : qS) (x1 x2 x3 x4 : Int32) : ∃ y, fM_reckon T x1 x2 x3 x4 = fM_reckon_16 T x1 x2 x3 x4 y ∧ ((y = 1 ∧ x3 = -2147483648 ∧ x2 = -1) ∨ (y = 0 ∧ ¬ (x3 = -2147483648 ∧ x2 = -1))) := by
  unfold fM_reckon fM_reckon_15
  by_cases a : x3 = -2147483648
  · rw [if_neg (not_not_intro a)]
    by_cases b : x2 = -1
    · rw [if_neg (not_not_intro b)]; exact ⟨1, rfl, Or.inl ⟨rfl, a, b⟩⟩
    · rw [if_pos b]; exact ⟨0, rfl, Or.inr ⟨rfl, fun w => b w.2⟩⟩
  · rw [if_pos a]; exact ⟨0, rfl, Or.inr ⟨rfl, fun w => a w.1⟩⟩
theorem rk0 (T : qS) (x2 x3 k : Int32) : fM_reckon T 0 x2 x3 k = fM_reckon_216 T k (x3.toInt64 + x2.toInt64).toInt32 (aO (x3.toInt64 + x2.toInt64)) (bL (x3.toInt64 + x2.toInt64).toInt32 x2) 0 := by
  obtain ⟨y, e, -⟩ := rk_16 T 0 x2 x3 k
  rw [e]
  generalize hs : x3.toInt64 + x2.toInt64 = s
  have e153 : ∀ o : Int32, fM_reckon_153 T 0 x2 x3 k s.toInt32 o = fM_reckon_216 T k s.toInt32 o (bL s.toInt32 x2) 0 := fun o => by
    unfold fM_reckon_153 fM_reckon_199 fM_reckon_215 bL
    rw [if_neg (show ¬ ¬ (0 : Int32) = 0 by decide), bnd_e (below_eq T _ _)]
    dsimp only
    rw [if_pos (show ¬ (0 : Int32) = 3 by decide)]
  unfold fM_reckon_16 fM_reckon_48 fM_reckon_78 fM_reckon_112 aO
  rw [if_neg (show ¬ ¬ (0 : Int32) = 0 by decide), if_pos (show ¬ (0 : Int32) = 3 by decide), if_pos (show (0 : Int32) ≤ 3 by decide), if_neg (show ¬ (3 : Int32) ≤ 0 by decide), hs]
  by_cases q : lg_cmp s s.toInt32.toInt64 = 0
  · rw [if_pos q, if_pos q, e153]
  · rw [if_neg q, if_neg q, e153]
theorem rk1 (T : qS) (x2 x3 k : Int32) : fM_reckon T 1 x2 x3 k = fM_reckon_216 T k (x3.toInt64 - x2.toInt64).toInt32 (aO (x3.toInt64 - x2.toInt64)) (bL x3 x2) 0 := by
  obtain ⟨y, e, -⟩ := rk_16 T 1 x2 x3 k
  rw [e]
  generalize hs : x3.toInt64 - x2.toInt64 = s
  have e153 : ∀ o : Int32, fM_reckon_153 T 1 x2 x3 k s.toInt32 o = fM_reckon_216 T k s.toInt32 o (bL x3 x2) 0 := fun o => by
    unfold fM_reckon_153 fM_reckon_199 fM_reckon_215 bL
    rw [if_pos (show ¬ (1 : Int32) = 0 by decide), if_neg (show ¬ ¬ (1 : Int32) = 1 by decide), bnd_e (below_eq T _ _)]
    dsimp only
    rw [if_pos (show ¬ (1 : Int32) = 3 by decide)]
  unfold fM_reckon_16 fM_reckon_48 fM_reckon_78 fM_reckon_112 aO
  rw [if_pos (show ¬ (1 : Int32) = 0 by decide), if_neg (show ¬ ¬ (1 : Int32) = 1 by decide), if_pos (show ¬ (1 : Int32) = 3 by decide), if_pos (show (1 : Int32) ≤ 3 by decide), if_neg (show ¬ (3 : Int32) ≤ 1 by decide), hs]
  by_cases q : lg_cmp s s.toInt32.toInt64 = 0
  · rw [if_pos q, if_pos q, e153]
  · rw [if_neg q, if_neg q, e153]
theorem rk2 (T : qS) (x2 x3 k : Int32) : fM_reckon T 2 x2 x3 k = fM_reckon_216 T k (x3.toInt64 * x2.toInt64).toInt32 (aO (x3.toInt64 * x2.toInt64)) 0 0 := by
  obtain ⟨y, e, -⟩ := rk_16 T 2 x2 x3 k
  rw [e]
  generalize hs : x3.toInt64 * x2.toInt64 = s
  have e153 : ∀ o : Int32, fM_reckon_153 T 2 x2 x3 k s.toInt32 o = fM_reckon_216 T k s.toInt32 o 0 0 := fun o => by
    unfold fM_reckon_153 fM_reckon_198 fM_reckon_199 fM_reckon_215
    rw [if_pos (show ¬ (2 : Int32) = 0 by decide), if_pos (show ¬ (2 : Int32) = 1 by decide), if_pos (show (2 : Int32) ≤ 3 by decide), if_pos (show ¬ (2 : Int32) = 3 by decide)]
  unfold fM_reckon_16 fM_reckon_48 fM_reckon_78 fM_reckon_112 aO
  rw [if_pos (show ¬ (2 : Int32) = 0 by decide), if_pos (show ¬ (2 : Int32) = 1 by decide), if_pos (show ¬ (2 : Int32) = 3 by decide), if_pos (show (2 : Int32) ≤ 3 by decide), if_neg (show ¬ (3 : Int32) ≤ 2 by decide), hs]
  by_cases q : lg_cmp s s.toInt32.toInt64 = 0
  · rw [if_pos q, if_pos q, e153]
  · rw [if_neg q, if_neg q, e153]
theorem rk3 (T : qS) (x2 x3 k : Int32) : (dO x3 x2 → fM_reckon T 3 x2 x3 k = fM_reckon_216 T k x3 1 0 (if x2 = 0 then 2 else 0)) ∧ (¬ dO x3 x2 → fM_reckon T 3 x2 x3 k = fM_reckon_216 T k (x3 / x2) 0 0 (if x2 = 0 then 2 else 0)) := by
  obtain ⟨y, e, hy⟩ := rk_16 T 3 x2 x3 k
  rw [e]
  have e153 : ∀ v o : Int32, fM_reckon_153 T 3 x2 x3 k v o = fM_reckon_216 T k v o 0 (if x2 = 0 then 2 else 0) := fun v o => by
    unfold fM_reckon_153 fM_reckon_198 fM_reckon_199 fM_reckon_215
    rw [if_pos (show ¬ (3 : Int32) = 0 by decide), if_pos (show ¬ (3 : Int32) = 1 by decide), if_pos (show (3 : Int32) ≤ 3 by decide), if_neg (show ¬ ¬ (3 : Int32) = 3 by decide)]
    by_cases q : x2 = 0
    · rw [if_neg (not_not_intro q), if_pos q]
    · rw [if_pos q, if_neg q]
  have e112 : ∀ (v : Int32) (s : Int64), fM_reckon_112 T 3 x2 x3 k y s v = if x2 = 0 then fM_reckon_153 T 3 x2 x3 k v 1 else if y = 0 then fM_reckon_153 T 3 x2 x3 k v 0 else fM_reckon_153 T 3 x2 x3 k v 1 := fun v s => by
    unfold fM_reckon_112 fM_reckon_148 fM_reckon_152
    rw [if_pos (show (3 : Int32) ≤ 3 by decide), if_neg (show ¬ ¬ (3 : Int32) = 3 by decide)]
  have e78 : ∀ (v : Int32) (s : Int64), fM_reckon_78 T 3 x2 x3 k y s v = fM_reckon_112 T 3 x2 x3 k y s v := fun v s => by
    unfold fM_reckon_78
    rw [if_pos (show (3 : Int32) ≤ 3 by decide)]
  unfold fM_reckon_16 fM_reckon_48 fM_reckon_69 fM_reckon_76
  rw [if_pos (show ¬ (3 : Int32) = 0 by decide), if_pos (show ¬ (3 : Int32) = 1 by decide), if_neg (show ¬ ¬ (3 : Int32) = 3 by decide)]
  simp only [e78, e112, e153]
  unfold dO
  refine ⟨fun h => ?_, fun h => ?_⟩
  · by_cases q : x2 = 0
    · simp only [if_pos q]
    · have h := h.resolve_left q
      rcases hy with ⟨rfl, -⟩ | ⟨-, w⟩
      · simp only [if_neg q, if_neg (show ¬ (1 : Int32) = 0 by decide)]
      · exact absurd h w
  · have q : ¬ x2 = 0 := fun w => h (Or.inl w)
    rcases hy with ⟨-, w⟩ | ⟨rfl, -⟩
    · exact absurd (Or.inr w) h
    · simp only [if_neg q, chk_t (bne_iff_ne.mpr q)]
      rw [if_pos trivial, if_pos trivial]
theorem rkb (T : qS) (x1 x2 x3 k v : Int32) (h0 : ¬ x1 = 0) (h1 : ¬ x1 = 1) (h3 : ¬ x1 = 3) (hl : ¬ x1 ≤ 3) (hg : 3 ≤ x1) (hv : ∀ (T : qS) (y : Int32) (s : Int64) (w : Int32), fM_reckon_78 T x1 x2 x3 k y s w = fM_reckon_112 T x1 x2 x3 k y s v) : fM_reckon T x1 x2 x3 k = fM_reckon_216 T k v 0 (hB (T.1 1) 0) 0 := by
  obtain ⟨y, e, -⟩ := rk_16 T x1 x2 x3 k
  rw [e]
  unfold fM_reckon_16 fM_reckon_48
  rw [if_pos h0, if_pos h1, if_pos h3, hv]
  unfold fM_reckon_112 fM_reckon_152 fM_reckon_153 fM_reckon_198
  rw [if_pos hg, if_pos h3, if_pos h0, if_pos h1, if_neg hl, bnd_e (mh0 T)]
  dsimp only
  unfold fM_reckon_199 fM_reckon_215
  rw [if_pos h3, if_pos h3]
  exact cy_eq (T.1 1) (fun w => fM_reckon_216 T k v 0 w 0)
theorem rk4 (T : qS) (x2 x3 k : Int32) : fM_reckon T 4 x2 x3 k = fM_reckon_216 T k (x3 ||| x2) 0 (hB (T.1 1) 0) 0 := rkb T 4 x2 x3 k _ (by decide) (by decide) (by decide) (by decide) (by decide) (fun T y s w => by
  unfold fM_reckon_78 fM_reckon_110
  rw [if_neg (show ¬ (4 : Int32) ≤ 3 by decide), if_neg (show ¬ ¬ (4 : Int32) = 4 by decide)])
theorem rk5 (T : qS) (x2 x3 k : Int32) : fM_reckon T 5 x2 x3 k = fM_reckon_216 T k (x3 &&& (x2 ^^^ (-1))) 0 (hB (T.1 1) 0) 0 := rkb T 5 x2 x3 k _ (by decide) (by decide) (by decide) (by decide) (by decide) (fun T y s w => by
  unfold fM_reckon_78 fM_reckon_110
  rw [if_neg (show ¬ (5 : Int32) ≤ 3 by decide), if_pos (show ¬ (5 : Int32) = 4 by decide), if_neg (show ¬ ¬ (5 : Int32) = 5 by decide)])
theorem rk6 (T : qS) (x2 x3 k : Int32) : fM_reckon T 6 x2 x3 k = fM_reckon_216 T k (x3 ^^^ x2) 0 (hB (T.1 1) 0) 0 := rkb T 6 x2 x3 k _ (by decide) (by decide) (by decide) (by decide) (by decide) (fun T y s w => by
  unfold fM_reckon_78 fM_reckon_110
  rw [if_neg (show ¬ (6 : Int32) ≤ 3 by decide), if_pos (show ¬ (6 : Int32) = 4 by decide), if_pos (show ¬ (6 : Int32) = 5 by decide)])
