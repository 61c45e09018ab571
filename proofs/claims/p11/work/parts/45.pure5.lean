/-! Pure part 5: find, whole; the two agree. -/
theorem pI_self (S : qS) (k : Nat) : pI S k (S.1 k) = S := by
  unfold pI
  refine Prod.ext (funext fun j => ?_) rfl
  show (if j = k then S.1 k else S.1 j) = S.1 j
  by_cases h : j = k
  · rw [if_pos h, h]
  · rw [if_neg h]
theorem neg_m {more : Int32} (hm : more = 0 ∨ more = 4) : ¬ 0 ≤ -60 - more ∧ ¬ 0 ≤ -50 - more ∧ ¬ 0 ≤ -62 - more ∧ ¬ 0 ≤ -53 - more ∧ ¬ 0 ≤ -51 - more := by
  rcases hm with rfl | rfl <;> decide
theorem spe_2 {lng : Int32 → Int32} {a w m more at_ : Int32} (hm : more = 0 ∨ more = 4) (h : 0 ≤ (spe lng a w m more at_).1) : (spe lng a w m more at_).2 = at_ &&& 2047 := by
  obtain ⟨n1, n2, -⟩ := neg_m hm
  unfold spe at h ⊢
  by_cases hg : grt (lng at_) w m
  · rw [if_pos hg] at h ⊢
    by_cases hv : 0 ≤ lng at_
    · rw [if_pos hv] at h; exact absurd h n1
    · rw [if_neg hv]
  · rw [if_neg hg] at h; exact absurd h n2
theorem fM_find_122_eq (T : qS) (a w m more r p y o : Int32) (hw : w = 0 ∨ w = 1) (hm : more = 0 ∨ more = 4) (hr : r = 0 ∨ r = 1 ∨ r = 2) (hy : ¬ y = 0) (ho : r ≠ 2 → o = (if r = 0 then T.2 2 8 else T.2 2 10) + 4 * p) :
    ∃ e, fM_find_122 T a w m more r p y = some ((if r = 2 then spe (mLong T) a w m more (T.2 2 12 + 4 * p) else spo (mLong T) (T.2 2) a w m more o).1, pI T 11 e) ∧ (0 ≤ (if r = 2 then spe (mLong T) a w m more (T.2 2 12 + 4 * p) else spo (mLong T) (T.2 2) a w m more o).1 → e = (if r = 2 then spe (mLong T) a w m more (T.2 2 12 + 4 * p) else spo (mLong T) (T.2 2) a w m more o).2) := by
  have g12 : gA T 2 12 = T.2 2 12 := rfl
  unfold fM_find_122
  rw [if_pos hy, g12]
  generalize he1 : (T.2 2 12 + 4 * p) &&& 2047 = e1
  by_cases h2 : r = 2
  · rw [if_pos h2, if_pos (by rw [h2]; decide)]
    refine ⟨e1, ?_, fun h => ?_⟩
    · rw [fM_find_271_eq (pI T 11 e1) a w m more (T.2 2 12 + 4 * p) hw he1.symm]
      rfl
    · rw [spe_2 hm h, he1]
  · rw [if_neg h2, if_neg (by rcases hr with rfl | rfl | rfl; decide; decide; exact absurd rfl h2)]
    have hin : inb (8 + 2 * r) 57 = true := by rcases hr with rfl | rfl | rfl <;> decide
    have hg : gA (pI T 11 e1) 2 (8 + 2 * r) + 4 * p = o := by
      rw [ho h2]
      rcases hr with rfl | rfl | rfl
      · rfl
      · rfl
      · exact absurd rfl h2
    rw [chk_t hin, hg]
    obtain ⟨-, -, n3, n4, -⟩ := neg_m hm
    by_cases h1 : ushr o 30 = 2
    · rw [if_neg (not_not_intro h1), bnd_e (fM_below_eq (pI T 11 e1) (pgOf o) _ (pg_0 o))]
      rw [q10]
      have g13 : gA (pI T 11 e1) 2 13 = T.2 2 13 := rfl
      rw [g13]
      by_cases h3 : blw (pgOf o) (T.2 2 13)
      · rw [if_pos h3]
        dsimp only
        rw [bnd_e (fM_bare_eq (pI T 11 e1) _)]
        have gl : mLong (pI T 11 e1) (gA (pI T 11 e1) 2 12 + 4 * pgOf o) = mLong T (T.2 2 12 + 4 * pgOf o) := rfl
        dsimp only
        rw [gl]
        by_cases h4 : 0 ≤ mLong T (T.2 2 12 + 4 * pgOf o)
        · have e : spo (mLong T) (T.2 2) a w m more o = (-62 - more, -1) := by unfold spo; rw [if_pos ⟨h1, h3⟩, if_pos h4]
          rw [if_neg (nlt_le.mpr h4), e]
          exact ⟨e1, rfl, fun h => absurd h n3⟩
        · have e : spo (mLong T) (T.2 2) a w m more o = spe (mLong T) a w m more (64 * (mLong T (T.2 2 12 + 4 * pgOf o) &&& 31) + (o &&& 63)) := by unfold spo; rw [if_pos ⟨h1, h3⟩, if_neg h4]
          rw [if_pos (nle_lt.mp h4), e]
          generalize 64 * (mLong T (T.2 2 12 + 4 * pgOf o) &&& 31) + (o &&& 63) = at2
          refine ⟨at2 &&& 2047, ?_, fun h => (spe_2 hm h).symm⟩
          rw [pI_pI, fM_find_271_eq (pI T 11 (at2 &&& 2047)) a w m more at2 hw rfl]
          rfl
      · have e : spo (mLong T) (T.2 2) a w m more o = (-53 - more, -1) := by unfold spo; rw [if_neg (fun q => h3 q.2)]
        rw [if_neg h3, e]
        exact ⟨e1, rfl, fun h => absurd h n4⟩
    · have e : spo (mLong T) (T.2 2) a w m more o = (-53 - more, -1) := by unfold spo; rw [if_neg (fun q => h1 q.1)]
      rw [if_pos h1, e]
      exact ⟨e1, rfl, fun h => absurd h n4⟩
theorem fM_find_30_eq (T : qS) (a w m more : Int32) (hw : w = 0 ∨ w = 1) (hm : more = 0 ∨ more = 4) : ∃ e, fM_find_30 T a w m more = some ((spm (mLong T) (T.2 2) a w m more).1, pI T 11 e) ∧ (0 ≤ (spm (mLong T) (T.2 2) a w m more).1 → e = (spm (mLong T) (T.2 2) a w m more).2) := by
  obtain ⟨-, -, -, -, n5⟩ := neg_m hm
  have no : ∀ r p : Int32, fM_find_122 T a w m more r p 0 = some (-51 - more, T) := fun r p => by
    unfold fM_find_122; rw [if_neg (not_not_intro rfl)]
  have bad : ¬ thr (T.2 2) (ushr a 30) (pgOf a) → ∃ e, (some (-51 - more, T) : Option (Int32 × qS)) = some ((spm (mLong T) (T.2 2) a w m more).1, pI T 11 e) ∧ (0 ≤ (spm (mLong T) (T.2 2) a w m more).1 → e = (spm (mLong T) (T.2 2) a w m more).2) := fun h => by
    have e : spm (mLong T) (T.2 2) a w m more = (-51 - more, -1) := by unfold spm; rw [if_neg h]
    rw [e]
    exact ⟨T.1 11, by rw [pI_self], fun q => absurd q n5⟩
  have ok : ∀ r : Int32, ushr a 30 = r → (r = 0 ∨ r = 1 ∨ r = 2) → thr (T.2 2) (ushr a 30) (pgOf a) → ∃ e, fM_find_122 T a w m more r (pgOf a) 1 = some ((spm (mLong T) (T.2 2) a w m more).1, pI T 11 e) ∧ (0 ≤ (spm (mLong T) (T.2 2) a w m more).1 → e = (spm (mLong T) (T.2 2) a w m more).2) := fun r hr hr3 h => by
    have e : spm (mLong T) (T.2 2) a w m more = if r = 2 then spe (mLong T) a w m more (T.2 2 12 + 4 * pgOf a) else spo (mLong T) (T.2 2) a w m more ((if r = 0 then T.2 2 8 else T.2 2 10) + 4 * pgOf a) := by unfold spm; rw [if_pos h, hr]
    rw [e]
    exact fM_find_122_eq T a w m more r (pgOf a) 1 _ hw hm hr3 (by decide) (fun _ => rfl)
  unfold fM_find_30
  have g9 : gA T 2 9 = T.2 2 9 := rfl
  have g11 : gA T 2 11 = T.2 2 11 := rfl
  have g13 : gA T 2 13 = T.2 2 13 := rfl
  rcases reg4 a with h | h | h | h
  · rw [h, if_neg (by decide), bnd_e (fM_below_eq T (pgOf a) _ (pg_0 a)), g9]
    dsimp only
    by_cases hb : blw (pgOf a) (T.2 2 9)
    · rw [if_pos hb]
      exact ok 0 h (Or.inl rfl) (Or.inr (Or.inr ⟨h, hb⟩))
    · rw [if_neg hb, no]
      refine bad (fun q => ?_)
      rw [h] at q
      rcases q with ⟨q, -⟩ | ⟨q, -⟩ | ⟨-, q⟩
      · exact absurd q (by decide)
      · exact absurd q (by decide)
      · exact hb q
  · rw [h, if_pos (by decide), if_neg (by decide), bnd_e (fM_below_eq T (pgOf a) _ (pg_0 a)), q10, g11]
    by_cases hb : blw (pgOf a) (T.2 2 11)
    · rw [if_pos hb, no]
      refine bad (fun q => ?_)
      rw [h] at q
      rcases q with ⟨q, -⟩ | ⟨-, q⟩ | ⟨q, -⟩
      · exact absurd q (by decide)
      · exact q hb
      · exact absurd q (by decide)
    · rw [if_neg hb]
      exact ok 1 h (Or.inr (Or.inl rfl)) (Or.inr (Or.inl ⟨h, hb⟩))
  · rw [h, if_pos (by decide), if_pos (by decide), if_neg (by decide), bnd_e (fM_below_eq T (pgOf a) _ (pg_0 a)), g13]
    by_cases hb : blw (pgOf a) (T.2 2 13)
    · rw [if_pos hb]
      dsimp only
      rw [if_neg (by decide)]
      exact ok 2 h (Or.inr (Or.inr rfl)) (Or.inl ⟨h, hb⟩)
    · rw [if_neg hb]
      dsimp only
      rw [if_pos rfl]
      show ∃ e, fM_find_122 T a w m more 2 (pgOf a) 0 = _ ∧ _
      rw [no]
      refine bad (fun q => ?_)
      rw [h] at q
      rcases q with ⟨-, q⟩ | ⟨q, -⟩ | ⟨q, -⟩
      · exact hb q
      · exact absurd q (by decide)
      · exact absurd q (by decide)
  · rw [h, if_pos (by decide), if_pos (by decide), if_pos (by decide)]
    show ∃ e, fM_find_122 T a w m more 3 (pgOf a) 0 = _ ∧ _
    rw [no]
    refine bad (fun q => ?_)
    rw [h] at q
    rcases q with ⟨q, -⟩ | ⟨q, -⟩ | ⟨q, -⟩ <;> exact absurd q (by decide)
/-- the reference's find -/
theorem fM_find_eq (T : qS) (a w m : Int32) (hw : w = 0 ∨ w = 1) : ∃ e, fM_find T a w m = some ((spl (mLong T) (T.2 2) a w m).1, pI T 11 e) ∧ (0 ≤ (spl (mLong T) (T.2 2) a w m).1 → e = (spl (mLong T) (T.2 2) a w m).2) := by
  have g56 : gA (pI T 11 (-1)) 2 56 = T.2 2 56 := rfl
  unfold fM_find
  rw [g56]
  by_cases h : T.2 2 56 = 0
  · have e : spl (mLong T) (T.2 2) a w m = (a &&& 2047, -1) := by unfold spl; rw [if_pos h]
    rw [if_neg (not_not_intro h), e]
    exact ⟨-1, rfl, fun _ => rfl⟩
  · rw [if_pos h]
    by_cases hw0 : w = 0
    · have e : spl (mLong T) (T.2 2) a w m = spm (mLong T) (T.2 2) a w m 0 := by unfold spl; rw [if_neg h, if_pos hw0]
      obtain ⟨z, h1, h2⟩ := fM_find_30_eq (pI T 11 (-1)) a w m 0 hw (Or.inl rfl)
      rw [if_pos hw0, h1, e, pI_pI]
      exact ⟨z, rfl, h2⟩
    · have e : spl (mLong T) (T.2 2) a w m = spm (mLong T) (T.2 2) a w m 4 := by unfold spl; rw [if_neg h, if_neg hw0]
      obtain ⟨z, h1, h2⟩ := fM_find_30_eq (pI T 11 (-1)) a w m 4 hw (Or.inr rfl)
      rw [if_neg hw0, h1, e, pI_pI]
      exact ⟨z, rfl, h2⟩
