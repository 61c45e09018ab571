/-! Pure part 15: what is brought back. -/
theorem bb28 (T0 : qS) (k : Nat) : ∀ (T : qS) (i m : Nat), i + k = 4 → T.1 = T0.1 → (∀ b : Nat, b ≠ 2 → T.2 b = T0.2 b) → (∀ j : Nat, j < i → T.2 2 j = T0.2 4 j) → (∀ j : Nat, 4 ≤ j → T.2 2 j = T0.2 2 j) → ∃ T', fM_bringBack_28 (k + 1 + m) T (nI i) = some (pI T' 1 (T0.1 6)) ∧ T'.1 = T0.1 ∧ (∀ b : Nat, b ≠ 2 → T'.2 b = T0.2 b) ∧ (∀ j : Nat, j < 4 → T'.2 2 j = T0.2 4 j) ∧ (∀ j : Nat, 4 ≤ j → T'.2 2 j = T0.2 2 j) := by
  induction k with
  | zero =>
    intro T i m hi h1 h2 h3 h4
    refine ⟨T, ?_, h1, h2, fun j hj => h3 j (by omega), h4⟩
    rw [show 0 + 1 + m = m + 1 by omega, fM_bringBack_28, if_pos (show (4 : Int32) ≤ nI i from (nI_lei (a := 4) (b := i) (by omega) (by omega)).mpr (by omega)), h1]
  | succ k ih =>
    intro T i m hi h1 h2 h3 h4
    have hc : ¬ 4 ≤ nI i := fun q => by
      have := (nI_lei (a := 4) (b := i) (by omega) (by omega)).mp q
      omega
    obtain ⟨T', a1, a2, a3, a4⟩ := ih (pA T 2 (nI i) (gA T 4 (nI i))) (i + 1) m (by omega) h1 (fun b hb => (if_neg hb).trans (h2 b hb)) (fun j hj => by
      show upd (T.2 2) (nI i).toNatClampNeg (T.2 4 (nI i).toNatClampNeg) j = T0.2 4 j
      rw [nI_cl (by omega)]
      by_cases q : j = i
      · rw [q]; unfold upd; rw [if_pos rfl, h2 4 (by decide)]
      · rw [upd_o q]; exact h3 j (by omega)) (fun j hj => by
      show upd (T.2 2) (nI i).toNatClampNeg (T.2 4 (nI i).toNatClampNeg) j = T0.2 2 j
      rw [nI_cl (by omega), upd_o (by omega)]
      exact h4 j hj)
    refine ⟨T', ?_, a2, a3, a4⟩
    rw [show k + 1 + 1 + m = (k + 1 + m) + 1 by omega, fM_bringBack_28, if_neg hc, chk_t (inb_nI (by omega) (by decide)), chk_t (inb_nI (by omega) (by decide)), nI_1]
    exact a1
theorem bb2 (T0 : qS) (k : Nat) : ∀ (T : qS) (i m : Nat), i + k = 16 → T.1 = T0.1 → (∀ b : Nat, b ≠ 1 → T.2 b = T0.2 b) → (∀ j : Nat, j < i → T.2 1 j = T0.2 3 j) → ∃ T1 : qS, fM_bringBack_2 (k + 1 + m) T (nI i) = fM_bringBack_28 300 T1 0 ∧ T1.1 = T0.1 ∧ (∀ b : Nat, b ≠ 1 → T1.2 b = T0.2 b) ∧ (∀ j : Nat, j < 16 → T1.2 1 j = T0.2 3 j) := by
  induction k with
  | zero =>
    intro T i m hi h1 h2 h3
    refine ⟨T, ?_, h1, h2, fun j hj => h3 j (by omega)⟩
    rw [show 0 + 1 + m = m + 1 by omega, fM_bringBack_2, if_pos (show (16 : Int32) ≤ nI i from (nI_lei (a := 16) (b := i) (by omega) (by omega)).mpr (by omega))]
  | succ k ih =>
    intro T i m hi h1 h2 h3
    have hc : ¬ 16 ≤ nI i := fun q => by
      have := (nI_lei (a := 16) (b := i) (by omega) (by omega)).mp q
      omega
    obtain ⟨T', a1, a2, a3, a4⟩ := ih (pA T 1 (nI i) (gA T 3 (nI i))) (i + 1) m (by omega) h1 (fun b hb => (if_neg hb).trans (h2 b hb)) (fun j hj => by
      show upd (T.2 1) (nI i).toNatClampNeg (T.2 3 (nI i).toNatClampNeg) j = T0.2 3 j
      rw [nI_cl (by omega)]
      by_cases q : j = i
      · rw [q]; unfold upd; rw [if_pos rfl, h2 3 (by decide)]
      · rw [upd_o q]; exact h3 j (by omega))
    refine ⟨T', ?_, a2, a3, a4⟩
    rw [show k + 1 + 1 + m = (k + 1 + m) + 1 by omega, fM_bringBack_2, if_neg hc, chk_t (inb_nI (by omega) (by decide)), chk_t (inb_nI (by omega) (by decide)), nI_1]
    exact a1
/-- back: all is alike but for the fault's business -/
theorem RR_back {p : Int32 × Int32} {S T : qS} (h : RG p S T) : ∃ S' T', fCo_takeBack S = some S' ∧ fM_bringBack T = some T' ∧ RG p S' T' ∧ (∀ i : Nat, i < 16 → T'.2 1 i = S'.2 2 i) ∧ (∀ i : Nat, i < 4 → T'.2 2 i = S'.2 1 i) ∧ T'.1 1 = S'.1 6 ∧ (∀ k : Nat, k ≠ 6 → S'.1 k = S.1 k) ∧ (∀ k : Nat, k ≠ 1 → T'.1 k = T.1 k) := by
  obtain ⟨T1, a1, a2, a3, a4⟩ := bb2 T 16 T 0 283 rfl rfl (fun _ _ => rfl) (fun j hj => absurd hj (by omega))
  obtain ⟨T2, b1, b2, b3, b4, b5⟩ := bb28 T1 4 T1 0 295 rfl rfl (fun _ _ => rfl) (fun j hj => absurd hj (by omega)) (fun _ _ => rfl)
  rw [a2] at b1 b2
  obtain ⟨h1, h2, h3, h4, h5, h6, h7, h8, h9, h10, h11⟩ := h
  refine ⟨_, _, rfl, a1.trans b1, ⟨?_, ?_, ?_, ?_, ?_, ?_, ?_, ?_, ?_, h10, ?_⟩, ?_, ?_, ?_, ?_, ?_⟩
  · intro i hi
    show T2.2 0 i = S.2 0 i &&& 255
    rw [b3 0 (by decide), a3 0 (by decide)]; exact h1 i hi
  · intro i hi hi2
    show T2.2 2 i = if 0 ≤ i ∧ i < 0 + 4 then S.2 4 (0 + (i - 0)) else S.2 1 i
    rw [if_neg (by omega), b5 i hi, a3 2 (by decide)]; exact h2 i hi hi2
  · intro i hi
    show T2.2 3 i = S.2 3 i
    rw [b3 3 (by decide), a3 3 (by decide)]; exact h3 i hi
  · intro i hi
    show T2.2 4 i = S.2 4 i
    rw [b3 4 (by decide), a3 4 (by decide)]; exact h4 i hi
  · show T2.1 6 = S.1 5
    rw [b2]; exact h5
  · show T2.1 7 = S.1 7 ∧ fv (S.1 7)
    rw [b2]; exact h6
  · show (S.1 7 = 4 ∨ S.1 7 = 5) → T2.1 8 = S.1 8 ∧ T2.1 9 = S.1 9
    rw [b2]; exact h7
  · show T2.1 2 = S.1 0
    rw [b2]; exact h8
  · show T2.1 0 = 0
    rw [b2]; exact h9
  · show T2.1 3 = p.2
    rw [b2]; exact h11
  · intro i hi
    show T2.2 1 i = if 0 ≤ i ∧ i < 0 + 16 then S.2 3 (0 + (i - 0)) else S.2 2 i
    rw [if_pos (by omega), b3 1 (by decide), a4 i hi, show 0 + (i - 0) = i by omega]; exact h3 i hi
  · intro i hi
    show T2.2 2 i = if 0 ≤ i ∧ i < 0 + 4 then S.2 4 (0 + (i - 0)) else S.2 1 i
    rw [if_pos (by omega), b4 i hi, a3 4 (by decide), show 0 + (i - 0) = i by omega]; exact h4 i hi
  · show T.1 6 = S.1 5
    exact h5
  · intro k hk
    show (if k = 6 then _ else S.1 k) = S.1 k
    rw [if_neg hk]
  · intro k hk
    show (if k = 1 then _ else T2.1 k) = T.1 k
    rw [if_neg hk, b2]
