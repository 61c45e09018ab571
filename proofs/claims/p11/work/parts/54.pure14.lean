/-! Pure part 14: what is kept and brought back. -/
/-- before an instruction -/
def RS (p : Int32 × Int32) (S T : qS) : Prop := RM S T ∧ RI S T ∧ (∀ i : Nat, i < 16 → T.2 1 i = S.2 2 i) ∧ T.1 1 = S.1 6 ∧ T.1 2 = S.1 0 ∧ T.1 0 = 0 ∧ S.1 1 = p.1 ∧ T.1 3 = p.2
theorem kp28 (T0 : qS) (k : Nat) : ∀ (T : qS) (i m : Nat), i + k = 4 → T.1 = T0.1 → (∀ b : Nat, b ≠ 4 → T.2 b = T0.2 b) → (∀ j : Nat, j < i → T.2 4 j = T0.2 2 j) → ∃ T', fM_keep_28 (k + 1 + m) T (nI i) = some (pI T' 6 (T0.1 1)) ∧ T'.1 = T0.1 ∧ (∀ b : Nat, b ≠ 4 → T'.2 b = T0.2 b) ∧ (∀ j : Nat, j < 4 → T'.2 4 j = T0.2 2 j) := by
  induction k with
  | zero =>
    intro T i m hi h1 h2 h3
    refine ⟨T, ?_, h1, h2, fun j hj => h3 j (by omega)⟩
    rw [show 0 + 1 + m = m + 1 by omega, fM_keep_28, if_pos (show (4 : Int32) ≤ nI i from (nI_lei (a := 4) (b := i) (by omega) (by omega)).mpr (by omega)), h1]
  | succ k ih =>
    intro T i m hi h1 h2 h3
    have hc : ¬ 4 ≤ nI i := fun q => by
      have := (nI_lei (a := 4) (b := i) (by omega) (by omega)).mp q
      omega
    obtain ⟨T', a1, a2, a3, a4⟩ := ih (pA T 4 (nI i) (gA T 2 (nI i))) (i + 1) m (by omega) h1 (fun b hb => (if_neg hb).trans (h2 b hb)) (fun j hj => by
      show upd (T.2 4) (nI i).toNatClampNeg (T.2 2 (nI i).toNatClampNeg) j = T0.2 2 j
      rw [nI_cl (by omega)]
      by_cases q : j = i
      · rw [q]; unfold upd; rw [if_pos rfl, h2 2 (by decide)]
      · rw [upd_o q]; exact h3 j (by omega))
    refine ⟨T', ?_, a2, a3, a4⟩
    rw [show k + 1 + 1 + m = (k + 1 + m) + 1 by omega, fM_keep_28, if_neg hc, chk_t (inb_nI (by omega) (by decide)), chk_t (inb_nI (by omega) (by decide)), nI_1]
    exact a1
theorem kp2 (T0 : qS) (k : Nat) : ∀ (T : qS) (i m : Nat), i + k = 16 → T.1 = T0.1 → (∀ b : Nat, b ≠ 3 → T.2 b = T0.2 b) → (∀ j : Nat, j < i → T.2 3 j = T0.2 1 j) → ∃ T1 : qS, fM_keep_2 (k + 1 + m) T (nI i) = fM_keep_28 300 T1 0 ∧ T1.1 = T0.1 ∧ (∀ b : Nat, b ≠ 3 → T1.2 b = T0.2 b) ∧ (∀ j : Nat, j < 16 → T1.2 3 j = T0.2 1 j) := by
  induction k with
  | zero =>
    intro T i m hi h1 h2 h3
    refine ⟨T, ?_, h1, h2, fun j hj => h3 j (by omega)⟩
    rw [show 0 + 1 + m = m + 1 by omega, fM_keep_2, if_pos (show (16 : Int32) ≤ nI i from (nI_lei (a := 16) (b := i) (by omega) (by omega)).mpr (by omega))]
  | succ k ih =>
    intro T i m hi h1 h2 h3
    have hc : ¬ 16 ≤ nI i := fun q => by
      have := (nI_lei (a := 16) (b := i) (by omega) (by omega)).mp q
      omega
    obtain ⟨T', a1, a2, a3, a4⟩ := ih (pA T 3 (nI i) (gA T 1 (nI i))) (i + 1) m (by omega) h1 (fun b hb => (if_neg hb).trans (h2 b hb)) (fun j hj => by
      show upd (T.2 3) (nI i).toNatClampNeg (T.2 1 (nI i).toNatClampNeg) j = T0.2 1 j
      rw [nI_cl (by omega)]
      by_cases q : j = i
      · rw [q]; unfold upd; rw [if_pos rfl, h2 1 (by decide)]
      · rw [upd_o q]; exact h3 j (by omega))
    refine ⟨T', ?_, a2, a3, a4⟩
    rw [show k + 1 + 1 + m = (k + 1 + m) + 1 by omega, fM_keep_2, if_neg hc, chk_t (inb_nI (by omega) (by decide)), chk_t (inb_nI (by omega) (by decide)), nI_1]
    exact a1
theorem fM_keep_eq (T : qS) : ∃ T', fM_keep T = some (pI T' 6 (T.1 1)) ∧ T'.1 = T.1 ∧ (∀ b : Nat, b ≠ 3 → b ≠ 4 → T'.2 b = T.2 b) ∧ (∀ j : Nat, j < 16 → T'.2 3 j = T.2 1 j) ∧ (∀ j : Nat, j < 4 → T'.2 4 j = T.2 2 j) := by
  obtain ⟨T1, a1, a2, a3, a4⟩ := kp2 T 16 T 0 283 rfl rfl (fun _ _ => rfl) (fun j hj => absurd hj (by omega))
  obtain ⟨T2, b1, b2, b3, b4⟩ := kp28 T1 4 T1 0 295 rfl rfl (fun _ _ => rfl) (fun j hj => absurd hj (by omega))
  refine ⟨T2, ?_, b2.trans a2, fun b h3 h4 => (b3 b h4).trans (a3 b h3), fun j hj => ?_, fun j hj => ?_⟩
  · rw [a2] at b1
    exact a1.trans b1
  · rw [b3 3 (by decide)]; exact a4 j hj
  · rw [b4 j hj, a3 2 (by decide)]
theorem RR_keep {p : Int32 × Int32} {S T : qS} (h : RS p S T) : ∃ S' T', fCo_keep S = some S' ∧ fM_keep T = some T' ∧ RR p S' (pI (pI T' 7 0) 10 0) ∧ S'.1 7 = 0 ∧ S'.1 10 = 0 := by
  obtain ⟨T2, b1, b2, b3, b4, b5⟩ := fM_keep_eq T
  obtain ⟨h1, h2, h3, h4, h5, h6, h7, h8⟩ := h
  refine ⟨_, _, rfl, b1, ?_, rfl, rfl⟩
  · refine ⟨⟨?_, ?_, ?_, ?_, ?_, ⟨rfl, (⟨by decide, by decide⟩ : fv 0)⟩, fun q => ?_, ?_, ?_, h7, ?_⟩, fun _ => ⟨?_, ?_, ?_⟩⟩
    · intro i hi
      show T2.2 0 i = S.2 0 i &&& 255
      rw [b3 0 (by decide) (by decide)]; exact h1 i hi
    · intro i hi hi2
      show T2.2 2 i = S.2 1 i
      rw [b3 2 (by decide) (by decide)]; exact h2 i hi2
    · intro i hi
      show T2.2 3 i = if 0 ≤ i ∧ i < 0 + 16 then S.2 2 (0 + (i - 0)) else S.2 3 i
      rw [if_pos (by omega), b4 i hi, show 0 + (i - 0) = i by omega]; exact h3 i hi
    · intro i hi
      show T2.2 4 i = if 0 ≤ i ∧ i < 0 + 4 then S.2 1 (0 + (i - 0)) else S.2 4 i
      rw [if_pos (by omega), b5 i hi, show 0 + (i - 0) = i by omega]; exact h2 i (by omega)
    · exact h4
    · rcases q with q | q
      · exact absurd (show (0 : Int32) = 4 from q) (by decide)
      · exact absurd (show (0 : Int32) = 5 from q) (by decide)
    · show T2.1 2 = S.1 0
      rw [b2]; exact h5
    · show T2.1 0 = 0
      rw [b2]; exact h6
    · show T2.1 3 = p.2
      rw [b2]; exact h8
    · intro i hi
      show T2.2 1 i = S.2 2 i
      rw [b3 1 (by decide) (by decide)]; exact h3 i hi
    · intro i hi
      show T2.2 2 i = S.2 1 i
      rw [b3 2 (by decide) (by decide)]; exact h2 i (by omega)
    · show T2.1 1 = S.1 6
      rw [b2]; exact h4
