/-! Pure part 4: the reference's find by the same function. (v_xor, v_le follow the kit's rows nat_xor, uN_le, at 32 bits.) -/
def vN (x : Int32) : Nat := x.toBitVec.toNat
theorem vN_lt (x : Int32) : vN x < 4294967296 := x.toBitVec.isLt
theorem v_nx {a : Nat} (h : a < 4294967296) : a ^^^ 2 ^ 31 = (a + 2147483648) % 4294967296 := by
  have h1 : (a ^^^ 2 ^ 31) % 2 ^ 31 = a % 2 ^ 31 := by rw [Nat.xor_mod_two_pow, Nat.mod_self, Nat.xor_zero]
  have h2 : (a ^^^ 2 ^ 31) / 2 ^ 31 = (a / 2 ^ 31) ^^^ 1 := by rw [Nat.xor_div_two_pow, Nat.div_self (Nat.two_pow_pos 31)]
  have h3 : a / 2 ^ 31 = 0 ∨ a / 2 ^ 31 = 1 := by omega
  generalize a ^^^ 2 ^ 31 = t at h1 h2
  rcases h3 with h3 | h3
  · rw [h3] at h2
    have h2 : t / 2 ^ 31 = 1 := h2
    omega
  · rw [h3] at h2
    have h2 : t / 2 ^ 31 = 0 := h2
    omega
theorem v_xor (x : Int32) : vN (x ^^^ (-2147483648)) = (vN x + 2147483648) % 4294967296 := by
  rw [← v_nx (vN_lt x)]
  exact BitVec.toNat_xor _ _
theorem v_int (x : Int32) : x.toInt = if 2 * vN x < 4294967296 then (vN x : Int) else (vN x : Int) - 4294967296 := BitVec.toInt_eq_toNat_cond _
theorem v_le (x y : Int32) : (x ^^^ (-2147483648)) ≤ (y ^^^ (-2147483648)) ↔ vN x ≤ vN y := by
  have hx := vN_lt x
  have hy := vN_lt y
  rw [Int32.le_iff_toInt_le, v_int, v_int, v_xor, v_xor]
  omega
theorem v_blw {p b : Int32} (hp : 0 ≤ p) : (b ^^^ (-2147483648)) ≤ (p ^^^ (-2147483648)) ↔ ¬ blw p b := by
  rw [v_le]
  have hpi := Int32.le_iff_toInt_le.mp hp
  have e0 : (0 : Int32).toInt = 0 := by decide
  rw [e0, v_int] at hpi
  have hp9 := vN_lt p
  have hb9 := vN_lt b
  unfold blw
  rw [Int32.lt_iff_toInt_lt, Int32.lt_iff_toInt_lt, e0, v_int b, v_int p]
  omega
theorem pg_0 (a : Int32) : 0 ≤ pgOf a := by
  obtain ⟨j, hj, e⟩ := pk_andE (ushr a 6) (m := 16777215) 24 (by decide)
  unfold pgOf
  rw [e]
  exact nI_pos' (by omega)
theorem fM_below_eq (T : qS) (p b : Int32) (hp : 0 ≤ p) : fM_below T p b = some (if blw p b then 1 else 0, T) := by
  unfold fM_below
  by_cases h : blw p b
  · rw [if_neg (fun q => (v_blw hp).mp q h), if_pos h]; rfl
  · rw [if_pos ((v_blw hp).mpr h), if_neg h]; rfl
/-- what find leaves of entryAt: where the place is one, the entry -/
theorem fM_find_271_eq (T : qS) (a w m more at_ : Int32) (hw : w = 0 ∨ w = 1) (hat : T.1 11 = at_ &&& 2047) : fM_find_271 T a w m more = some ((spe (mLong T) a w m more at_).1, T) := by
  have hl : mLong T (T.1 11) = mLong T at_ := by
    rw [hat]
    unfold mLong mB
    rw [am_am, am_add at_ 1, am_add at_ 2, am_add at_ 3]
  unfold fM_find_271
  rw [bnd_e (fM_bare_eq T _), hl]
  dsimp only
  rw [sh_27, sh_29]
  have e331 : fM_find_331 T a more (mLong T at_) = some (if 0 ≤ mLong T at_ then -60 - more else 64 * (mLong T at_ &&& 31) + (a &&& 63), T) := by
    unfold fM_find_331
    by_cases h : mLong T at_ < 0
    · rw [if_pos h, if_neg (nle_lt.mpr h)]; rfl
    · rw [if_neg h, if_pos (nlt_le.mp h)]; rfl
  have es : ∀ h : grt (mLong T at_) w m, (spe (mLong T) a w m more at_).1 = if 0 ≤ mLong T at_ then -60 - more else 64 * (mLong T at_ &&& 31) + (a &&& 63) := fun h => by
    unfold spe
    rw [if_pos h]
    by_cases h2 : 0 ≤ mLong T at_
    · rw [if_pos h2, if_pos h2]
    · rw [if_neg h2, if_neg h2]
  have en : ∀ h : ¬ grt (mLong T at_) w m, (spe (mLong T) a w m more at_).1 = -50 - more := fun h => by
    unfold spe
    rw [if_neg h]
  have e325 : fM_find_325 T more = some (-50 - more, T) := rfl
  by_cases hw0 : w = 0
  · rw [if_pos hw0]
    by_cases h : m ≤ (ushr (mLong T at_) 27 &&& 3)
    · rw [if_pos h, e331, es (by unfold grt; rw [if_pos hw0]; exact h)]
    · rw [if_neg h, e325, en (by unfold grt; rw [if_pos hw0]; exact h)]
  · rw [if_neg hw0]
    by_cases h : (ushr (mLong T at_) 27 &&& 3) < (ushr (mLong T at_) 29 &&& 3)
    · rw [if_pos h, e325, en (by unfold grt; rw [if_neg hw0]; exact fun q => nle_lt.mpr h q.2)]
    · rw [if_neg h]
      by_cases h2 : m ≤ (ushr (mLong T at_) 29 &&& 3)
      · rw [if_pos h2, e331, es (by unfold grt; rw [if_neg hw0]; exact ⟨h2, nlt_le.mp h⟩)]
      · rw [if_neg h2, e325, en (by unfold grt; rw [if_neg hw0]; exact fun q => h2 q.1)]
