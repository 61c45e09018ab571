/-! Pure part 2: longs of storage, pages. -/
theorem u_bt (n : Nat) (hn : n < 32) (x : Int32) (i : Nat) : bt (ushr x (nI n)) i = bt x (n + i) := b_ushr n hn x i
theorem b_3 (i : Nat) : bt 3 i = decide (i < 2) := by
  rcases Nat.lt_or_ge i 32 with h | h
  · exact (by decide +kernel : ∀ i, i < 32 → bt 3 i = decide (i < 2)) i h
  · rw [b_big h, decide_eq_false (by omega)]
theorem sh_and3 (n : Nat) (hn : n + 2 ≤ 32) (x : Int32) : (x >>> (nI n &&& 31)) &&& 3 = ushr x (nI n) &&& 3 := by
  refine b_ext (fun i hi => ?_)
  rw [b_and, b_and, b_3, u_bt n (by omega), b_sshr n (by omega) x hi]
  rcases Nat.lt_or_ge i 2 with h | h
  · rw [if_pos (by omega)]
  · rw [decide_eq_false (by omega), Bool.and_false, Bool.and_false]
theorem sh_27 (x : Int32) : (x >>> ((27 : Int32) &&& 31)) &&& 3 = ushr x 27 &&& 3 := sh_and3 27 (by decide) x
theorem sh_29 (x : Int32) : (x >>> ((29 : Int32) &&& 31)) &&& 3 = ushr x 29 &&& 3 := sh_and3 29 (by decide) x
theorem sh_24 (x : Int32) : (x >>> ((24 : Int32) &&& 31)) &&& 3 = ushr x 24 &&& 3 := sh_and3 24 (by decide) x
theorem sh_22 (x : Int32) : (x >>> ((22 : Int32) &&& 31)) &&& 3 = ushr x 22 &&& 3 := sh_and3 22 (by decide) x
/-- addresses mod 2048 -/
theorem am_n (x : Int32) : x &&& 2047 = nI (x.toBitVec.toNat % 2048) := pk_and x 11 (by decide)
theorem am_add (a b : Int32) : ((a &&& 2047) + b) &&& 2047 = (a + b) &&& 2047 := by
  rw [am_n (a + b), am_n ((a &&& 2047) + b), am_n a]
  congr 1
  rw [Int32.toBitVec_add, Int32.toBitVec_add, BitVec.toNat_add, BitVec.toNat_add, pk_tn (by omega)]
  omega
theorem am_am (a : Int32) : (a &&& 2047) &&& 2047 = a &&& 2047 := by
  have h := am_add a 0
  rw [Int32.add_zero, Int32.add_zero] at h
  exact h
/-- the reference's byte and long -/
def mB (T : qS) (a : Int32) : Int32 := gA T 0 (a &&& 2047)
def mLong (T : qS) (a : Int32) : Int32 := ((((((((0 : Int32) <<< ((8 : Int32) &&& 31)) ||| mB T (a + 3)) <<< ((8 : Int32) &&& 31)) ||| mB T (a + 2)) <<< ((8 : Int32) &&& 31)) ||| mB T (a + 1)) <<< ((8 : Int32) &&& 31)) ||| mB T a
theorem fM_bare_eq (T : qS) (a : Int32) : fM_bare T a = some (mLong T a, T) := by
  unfold fM_bare
  rw [fM_bare_11, if_neg (by decide), chk_t (inb_2047 _), fM_bare_11, if_neg (by decide), chk_t (inb_2047 _), fM_bare_11, if_neg (by decide), chk_t (inb_2047 _), fM_bare_11, if_neg (by decide), chk_t (inb_2047 _), fM_bare_11, if_pos (by decide)]
  have e2 : (3 : Int32) + (-1) = 2 := by decide
  have e1 : (2 : Int32) + (-1) = 1 := by decide
  have e0 : (1 : Int32) + (-1) = 0 := by decide
  rw [e2, e1, e0, am_add a 3, am_add a 2, am_add a 1, am_add a 0, Int32.add_zero]
  rfl
/-- bytes: the class's are signed, the reference's not -/
def RM (S T : qS) : Prop := ∀ i : Nat, i < 2048 → T.2 0 i = S.2 0 i &&& 255
theorem RM_B {S T : qS} (h : RM S T) (a : Int32) : mB T a = cB S a &&& 255 := by
  have hj : (a &&& 2047).toNatClampNeg < 2048 := Nat.not_le.mp fun q => inb_in (inb_2047 a) (Or.inr q)
  exact h _ hj
theorem RM_L {S T : qS} (h : RM S T) (a : Int32) : mLong T a = cLong S a := by
  unfold mLong cLong
  rw [RM_B h, RM_B h, RM_B h, RM_B h]
  generalize cB S a = b0
  generalize cB S (a + 1) = b1
  generalize cB S (a + 2) = b2
  generalize cB S (a + 3) = b3
  refine b_ext (fun i hi => ?_)
  simp only [b_or, b_and, b_255, b_0]
  rw [b_shl8 _ hi, b_shl8 _ hi, b_shl16 _ hi, b_shl24 _ hi]
  simp only [b_or, b_and, b_255, b_0]
  rcases Nat.lt_or_ge i 8 with h1 | h1
  · simp [h1, Nat.not_le.mpr h1, show ¬ 16 ≤ i by omega, show ¬ 24 ≤ i by omega]
  · rw [b_shl8 _ (show i - 8 < 32 by omega)]
    simp only [b_or, b_and, b_255, b_0]
    rcases Nat.lt_or_ge i 16 with h2 | h2
    · simp [h1, show ¬ i < 8 by omega, show ¬ 8 ≤ i - 8 by omega, show ¬ 16 ≤ i by omega, show ¬ 24 ≤ i by omega, show i - 8 < 8 by omega]
    · rw [b_shl8 _ (show i - 8 - 8 < 32 by omega)]
      simp only [b_or, b_and, b_255, b_0]
      rcases Nat.lt_or_ge i 24 with h3 | h3
      · simp [h1, h2, show ¬ i < 8 by omega, show 8 ≤ i - 8 by omega, show ¬ 8 ≤ i - 8 - 8 by omega, show ¬ i - 8 < 8 by omega, show i - 8 - 8 < 8 by omega, show ¬ 24 ≤ i by omega, show i - 16 = i - 8 - 8 by omega]
      · rw [b_shl8 _ (show i - 8 - 8 - 8 < 32 by omega)]
        simp only [b_or, b_and, b_255, b_0]
        simp [h1, h2, h3, show ¬ i < 8 by omega, show 8 ≤ i - 8 by omega, show 8 ≤ i - 8 - 8 by omega, show ¬ i - 8 < 8 by omega, show ¬ i - 8 - 8 < 8 by omega, show ¬ i - 16 < 8 by omega, show i - 24 = i - 8 - 8 - 8 by omega, show i - 8 - 8 - 8 < 8 by omega]
