/-! Pure part 24: conditions; what is stored. -/
def cnd (st n z o c : Int32) : Int32 := (st &&& (-16)) ||| (((n ||| z) ||| o) ||| c)
def cD (st v o c : Int32) : Int32 := cnd st (if 0 ≤ v then 0 else 8) (if v = 0 then 4 else 0) (if o = 0 then 0 else 2) (if c = 0 then 0 else 1)
theorem setC_eq (S : qS) (a1 a2 a3 a4 : Int32) : fCo_setConditions S a1 a2 a3 a4 = some (pI S 6 (cnd (S.1 6) (if a1 = 0 then 0 else 8) (if a2 = 0 then 0 else 4) (if a3 = 0 then 0 else 2) (if a4 = 0 then 0 else 1))) := by
  unfold fCo_setConditions fCo_setConditions_10 fCo_setConditions_19 fCo_setConditions_29 fCo_setConditions_40 cnd
  by_cases h1 : a1 = 0
  · rw [if_pos h1, if_pos h1]
    by_cases h2 : a2 = 0
    · rw [if_pos h2, if_pos h2]
      by_cases h3 : a3 = 0
      · rw [if_pos h3, if_pos h3]
        by_cases h4 : a4 = 0
        · rw [if_pos h4, if_pos h4]
        · rw [if_neg h4, if_neg h4]
      · rw [if_neg h3, if_neg h3]
        by_cases h4 : a4 = 0
        · rw [if_pos h4, if_pos h4]
        · rw [if_neg h4, if_neg h4]
    · rw [if_neg h2, if_neg h2]
      by_cases h3 : a3 = 0
      · rw [if_pos h3, if_pos h3]
        by_cases h4 : a4 = 0
        · rw [if_pos h4, if_pos h4]
        · rw [if_neg h4, if_neg h4]
      · rw [if_neg h3, if_neg h3]
        by_cases h4 : a4 = 0
        · rw [if_pos h4, if_pos h4]
        · rw [if_neg h4, if_neg h4]
  · rw [if_neg h1, if_neg h1]
    by_cases h2 : a2 = 0
    · rw [if_pos h2, if_pos h2]
      by_cases h3 : a3 = 0
      · rw [if_pos h3, if_pos h3]
        by_cases h4 : a4 = 0
        · rw [if_pos h4, if_pos h4]
        · rw [if_neg h4, if_neg h4]
      · rw [if_neg h3, if_neg h3]
        by_cases h4 : a4 = 0
        · rw [if_pos h4, if_pos h4]
        · rw [if_neg h4, if_neg h4]
    · rw [if_neg h2, if_neg h2]
      by_cases h3 : a3 = 0
      · rw [if_pos h3, if_pos h3]
        by_cases h4 : a4 = 0
        · rw [if_pos h4, if_pos h4]
        · rw [if_neg h4, if_neg h4]
      · rw [if_neg h3, if_neg h3]
        by_cases h4 : a4 = 0
        · rw [if_pos h4, if_pos h4]
        · rw [if_neg h4, if_neg h4]
theorem conc_eq (S : qS) (v o c : Int32) : fCo_conclude S v o c = some (pI S 6 (cD (S.1 6) v o c)) := by
  have e : ∀ y1 y2, fCo_conclude_19 S o c y1 y2 = some (pI S 6 (cnd (S.1 6) (if y1 = 0 then 0 else 8) (if y2 = 0 then 0 else 4) (if o = 0 then 0 else 2) (if c = 0 then 0 else 1))) := fun y1 y2 => by
    unfold fCo_conclude_19
    rw [bnd_e (setC_eq S y1 y2 o c)]
  unfold fCo_conclude fCo_conclude_10 cD
  simp only [e]
  by_cases h : 0 ≤ v
  · rw [if_pos h, if_pos h]
    by_cases h2 : v = 0
    · rw [if_neg (not_not_intro h2), if_pos h2]; rfl
    · rw [if_pos h2, if_neg h2]; rfl
  · rw [if_neg h, if_neg h]
    by_cases h2 : v = 0
    · rw [if_neg (not_not_intro h2), if_pos h2]; rfl
    · rw [if_pos h2, if_neg h2]; rfl
theorem mark_eq (T : qS) (v o c : Int32) : fM_mark T v o c = some (pI T 1 (cD (T.1 1) v o c)) := by
  have a4 : ∀ st n z o c : Int32, ((((st &&& (-16)) ||| n) ||| z) ||| o) ||| c = cnd st n z o c := fun st n z o c => by
    unfold cnd
    refine b_ext (fun i _ => ?_)
    simp only [b_or, Bool.or_assoc]
  have e48 : ∀ x y, fM_mark_48 T x y = some (pI T 1 (x ||| y)) := fun _ _ => rfl
  unfold fM_mark fM_mark_18 fM_mark_28 fM_mark_38 cD
  simp only [e48, ← a4]
  by_cases h : 0 ≤ v
  · rw [if_pos h, if_pos h]
    by_cases h2 : v = 0
    · rw [if_neg (not_not_intro h2), if_pos h2]
      by_cases h3 : o = 0
      · rw [if_pos h3, if_pos h3]
        by_cases h4 : c = 0
        · rw [if_pos h4, if_pos h4]
        · rw [if_neg h4, if_neg h4]
      · rw [if_neg h3, if_neg h3]
        by_cases h4 : c = 0
        · rw [if_pos h4, if_pos h4]
        · rw [if_neg h4, if_neg h4]
    · rw [if_pos h2, if_neg h2]
      by_cases h3 : o = 0
      · rw [if_pos h3, if_pos h3]
        by_cases h4 : c = 0
        · rw [if_pos h4, if_pos h4]
        · rw [if_neg h4, if_neg h4]
      · rw [if_neg h3, if_neg h3]
        by_cases h4 : c = 0
        · rw [if_pos h4, if_pos h4]
        · rw [if_neg h4, if_neg h4]
  · rw [if_neg h, if_neg h]
    by_cases h2 : v = 0
    · rw [if_neg (not_not_intro h2), if_pos h2]
      by_cases h3 : o = 0
      · rw [if_pos h3, if_pos h3]
        by_cases h4 : c = 0
        · rw [if_pos h4, if_pos h4]
        · rw [if_neg h4, if_neg h4]
      · rw [if_neg h3, if_neg h3]
        by_cases h4 : c = 0
        · rw [if_pos h4, if_pos h4]
        · rw [if_neg h4, if_neg h4]
    · rw [if_pos h2, if_neg h2]
      by_cases h3 : o = 0
      · rw [if_pos h3, if_pos h3]
        by_cases h4 : c = 0
        · rw [if_pos h4, if_pos h4]
        · rw [if_neg h4, if_neg h4]
      · rw [if_neg h3, if_neg h3]
        by_cases h4 : c = 0
        · rw [if_pos h4, if_pos h4]
        · rw [if_neg h4, if_neg h4]
/-- bits of the status -/
theorem bt_1 (j : Nat) : bt 1 j = decide (j = 0) := by
  rcases Nat.lt_or_ge j 32 with h | h
  · exact (by decide +kernel : ∀ i, i < 32 → bt 1 i = decide (i = 0)) j h
  · rw [b_big h, decide_eq_false (by omega)]
theorem bit_s (x : Int32) {i : Nat} (hi : i < 32) : ((x >>> (nI i &&& 31)) &&& 1) = if bt x i = true then 1 else 0 := by
  refine b_ext (fun j hj => ?_)
  rw [b_and, bt_1, b_sshr i hi x hj]
  by_cases q : j = 0
  · subst q
    rw [if_pos (by omega), Nat.add_zero]
    cases bt x i <;> decide
  · rw [decide_eq_false q, Bool.and_false]
    cases bt x i
    · rw [if_neg (by decide), b_0]
    · rw [if_pos rfl, bt_1, decide_eq_false q]
theorem bit_u (x : Int32) {i : Nat} (hi : i < 32) : (ushr x (nI i) &&& 1) = if bt x i = true then 1 else 0 := by
  refine b_ext (fun j hj => ?_)
  rw [b_and, bt_1, u_bt i hi]
  by_cases q : j = 0
  · subst q
    rw [Nat.add_zero]
    cases bt x i <;> decide
  · rw [decide_eq_false q, Bool.and_false]
    cases bt x i
    · rw [if_neg (by decide), b_0]
    · rw [if_pos rfl, bt_1, decide_eq_false q]
theorem bit_m (x : Int32) {m : Int32} {i : Nat} (hi : i < 32) (hm : ∀ j : Nat, j < 32 → bt m j = decide (j = i)) : (x &&& m) = 0 ↔ ¬ bt x i = true := by
  refine ⟨fun h w => ?_, fun h => b_ext (fun j hj => ?_)⟩
  · have this : bt (x &&& m) i = bt 0 i := congrArg (fun y => bt y i) h
    rw [b_and, hm i hi, b_0, w, decide_eq_true rfl] at this
    exact absurd this (by decide)
  · rw [b_and, hm j hj, b_0]
    by_cases q : j = i
    · subst q
      rw [Bool.eq_false_iff.mpr h]; rfl
    · rw [decide_eq_false q, Bool.and_false]
theorem m1 : ∀ j : Nat, j < 32 → bt 1 j = decide (j = 0) := by decide +kernel
theorem m2 : ∀ j : Nat, j < 32 → bt 2 j = decide (j = 1) := by decide +kernel
theorem m4 : ∀ j : Nat, j < 32 → bt 4 j = decide (j = 2) := by decide +kernel
theorem m8 : ∀ j : Nat, j < 32 → bt 8 j = decide (j = 3) := by decide +kernel
theorem m32 : ∀ j : Nat, j < 32 → bt 32 j = decide (j = 5) := by decide +kernel
theorem m29 : ∀ j : Nat, j < 32 → bt 536870912 j = decide (j = 29) := by decide +kernel
def hB (x : Int32) (i : Nat) : Int32 := if bt x i = true then 1 else 0
theorem hB_01 (x : Int32) (i : Nat) : hB x i = 0 ∨ hB x i = 1 := by
  unfold hB; split
  · exact Or.inr rfl
  · exact Or.inl rfl
theorem has_eq (S : qS) {m : Int32} {i : Nat} (hi : i < 32) (hm : ∀ j : Nat, j < 32 → bt m j = decide (j = i)) : fCo_has S m = some (hB (S.1 6) i, S) := by
  unfold fCo_has hB
  have := bit_m (S.1 6) hi hm
  by_cases q : bt (S.1 6) i = true
  · rw [if_neg (fun w => (this.mp w) q), if_pos q]; rfl
  · rw [if_pos (this.mpr q), if_neg q]; rfl
theorem mhas_eq (T : qS) {i : Nat} (hi : i < 32) : fM_has T (nI i) = some (hB (T.1 1) i, T) := by
  unfold fM_has hB
  rw [bit_s _ hi]
  by_cases q : bt (T.1 1) i = true
  · rw [if_pos q, if_neg (by decide)]; rfl
  · rw [if_neg q, if_pos (by decide)]; rfl
/-- conditions, both -/
theorem RR_cD {p : Int32 × Int32} {S T : qS} (h : RR p S T) {v v' o o' c c' : Int32} (hv : S.1 7 = 0 → v' = v ∧ o' = o ∧ c' = c) : RR p (pI S 6 (cD (S.1 6) v o c)) (pI T 1 (cD (T.1 1) v' o' c')) := by
  refine RR_st h (fun q => ?_)
  obtain ⟨rfl, rfl, rfl⟩ := hv q
  rw [(h.2 q).2.2]
/-- a byte that is written by itself -/
theorem mw93_1 (n : Nat) (T : qS) {x x' : Int32} (h : x &&& 255 = x' &&& 255) : fM_write_93 (n + 2) T x 1 0 = fM_write_93 (n + 2) T x' 1 0 := by
  have e : ∀ y : Int32, y >>> ((8 * (0 : Int32)) &&& 31) = y := fun y => by
    rw [show (8 * (0 : Int32)) &&& 31 = 0 by decide]; simp
  have g : ∀ T2 : qS, fM_write_138 (fM_write_93 (n + 1)) T2 x 1 0 = fM_write_138 (fM_write_93 (n + 1)) T2 x' 1 0 := fun T2 => by
    unfold fM_write_138
    rw [e, e, h, fM_write_93, fM_write_93, if_pos (by decide), if_pos (by decide)]
  rw [fM_write_93, fM_write_93]
  simp only [g]
theorem mw_1 (T : qS) (a : Int32) {x x' : Int32} (h : x &&& 255 = x' &&& 255) : fM_write T a x 1 = fM_write T a x' 1 := by
  have g : ∀ T2 : qS, fM_write_84 (fM_write_3 299) T2 a x 1 0 = fM_write_84 (fM_write_3 299) T2 a x' 1 0 := fun T2 => by
    unfold fM_write_84
    rw [fM_write_3, fM_write_3, if_pos (by decide), if_pos (by decide)]
    exact mw93_1 298 T2 h
  unfold fM_write
  rw [fM_write_3, fM_write_3, if_neg (by decide), if_neg (by decide)]
  simp only [g]
/-- what is stored -/
theorem RR_give {p : Int32 × Int32} {S T : qS} (h : RR p S T) (hf : S.1 7 = 0) {k : Nat} (hk : k < 3) {z x x' : Int32} (hz : S.1 (11 + 4 * k) = z) (hz2 : z = 1 ∨ z = 4) (hw : OW k S T) (hx : (z = 4 ∧ x' = x) ∨ (z = 1 ∧ x' &&& 255 = x &&& 255)) : ∃ S' T', fCd_store S k x = some S' ∧ fM_give T (nI k) x' z = some T' ∧ RR p S' T' ∧ KC S S' ∧ KM T T' := by
  have hi := ik3 hk
  have g6 : gA T 6 (nI k) = T.2 6 k := by unfold gA; rw [nI_cl (by omega)]
  have g7 : gA T 7 (nI k) = T.2 7 k := by unfold gA; rw [nI_cl (by omega)]
  unfold fCd_store fM_give
  simp only [chk_t hi]
  rw [hz, g6, g7]
  rcases hw with ⟨w1, w2, w3⟩ | ⟨w1, w2⟩
  · rw [if_neg (not_not_intro w1), if_neg (not_not_intro w2), w3]
    rcases hz2 with rfl | rfl
    · rcases hx with ⟨q, -⟩ | ⟨-, hx⟩
      · exact absurd q (by decide)
      · rw [mw_1 T _ hx]
        obtain ⟨S', T', a1, a2, a3, a4, a5⟩ := RR_write h 1 (by decide) (a := S.1 (13 + 4 * k)) (a' := S.1 (13 + 4 * k)) (x := x) (x' := x) (fun _ => rfl) (fun _ => rfl)
        rw [bnd_e (show fCo_write S (S.1 (13 + 4 * k)) x 1 = some S' from a1), bnd_e (show fM_write T (S.1 (13 + 4 * k)) x 1 = some T' from a2)]
        exact ⟨S', T', rfl, rfl, a3, a4, a5⟩
    · rcases hx with ⟨-, rfl⟩ | ⟨q, -⟩
      · obtain ⟨S', T', a1, a2, a3, a4, a5⟩ := RR_write h 4 (by decide) (a := S.1 (13 + 4 * k)) (a' := S.1 (13 + 4 * k)) (x := x') (x' := x') (fun _ => rfl) (fun _ => rfl)
        rw [bnd_e (show fCo_write S (S.1 (13 + 4 * k)) x' 4 = some S' from a1), bnd_e (show fM_write T (S.1 (13 + 4 * k)) x' 4 = some T' from a2)]
        exact ⟨S', T', rfl, rfl, a3, a4, a5⟩
      · exact absurd q (by decide)
  · have n1 : ¬ S.1 (12 + 4 * k) = -1 := fun w => by rw [w] at w1; exact absurd w1 (by decide)
    have n2 : ¬ S.1 (12 + 4 * k) = 16 := fun w => by rw [w] at w1; exact absurd w1 (by decide)
    rw [if_pos n1, w2, if_pos n2]
    rcases hz2 with rfl | rfl
    · rcases hx with ⟨q, -⟩ | ⟨-, hx⟩
      · exact absurd q (by decide)
      · rw [if_neg (by decide), if_pos (by decide), bnd_e (fCo_get_eq S _), bnd_e (fM_get_eq T w1)]
        dsimp only
        unfold fM_give_62
        rw [bnd_e (fCo_put_eq S _ _), bnd_e (fM_put_eq T _ w1)]
        exact ⟨_, _, rfl, rfl, RR_put h w1 (fun q => by rw [RR_get h w1 q, hx]), KC_put _ _ _, KM_put _ _ _⟩
    · rcases hx with ⟨-, rfl⟩ | ⟨q, -⟩
      · rw [if_pos (by decide), if_neg (by decide)]
        unfold fM_give_62
        rw [bnd_e (fCo_put_eq S _ _), bnd_e (fM_put_eq T _ w1)]
        exact ⟨_, _, rfl, rfl, RR_put h w1 (fun _ => rfl), KC_put _ _ _, KM_put _ _ _⟩
      · exact absurd q (by decide)
