/-! Pure part 35: an instruction; a run. -/
theorem k115 (S : qS) (x : Int32) : fX_step_115 S x = fX_settle S x := by
  unfold fX_step_115
  cases fX_settle S x <;> rfl
theorem c97d {S : qS} (hf : ¬ S.1 7 = 0) (x : Int32) : fX_step_97 S x = fX_settle S x := by
  unfold fX_step_97
  rw [if_pos hf, k115]
theorem r145d {T : qS} (hf : ¬ T.1 7 = 0) (x : Int32) : fM_instruction_145 T x = fM_instruction_173 T x := by
  unfold fM_instruction_145 fM_instruction_157
  rw [if_pos hf]
  by_cases q : x = 0
  · rw [if_neg (not_not_intro q), if_pos hf]
  · rw [if_pos q]
theorem r157d {T : qS} (hf : ¬ T.1 7 = 0) (x : Int32) : fM_instruction_157 T x = fM_instruction_173 T x := by
  unfold fM_instruction_157
  by_cases q : x = 0
  · rw [if_neg (not_not_intro q), if_pos hf]
  · rw [if_pos q]
theorem shape_t (S : qS) {j : Nat} (hj : j < 256) : ∃ js : Nat, js < 24 ∧ fCd_shapeOf S (nI j) = some (js, S) := by
  by_cases q : j ≤ 70
  · obtain ⟨js, sh, a1, -, a3, -⟩ := code_j q
    exact ⟨js, a3.1, a1 S⟩
  · refine ⟨23, by decide, ?_⟩
    unfold fCd_shapeOf fCd_shapeOf_342
    have e : (nI j).toInt = j := nI_toInt (by omega)
    have c48 : ¬ nI j < 48 := fun w => by
      have := (nI_lti (b := 48) (by omega) (by omega)).mp w
      omega
    have c61 : 61 < nI j := (nI_lti (a := 61) (by omega) (by omega)).mpr (by omega)
    rw [if_pos (Or.inr (by rw [e]; omega)), if_neg c48, if_pos c61]
    rfl
theorem c35d {S : qS} (hf : ¬ S.1 7 = 0) {j : Nat} (hj : j < 256) : fX_step_35 S (nI j) = fX_settle S (nI j) := by
  obtain ⟨js, a1, a2⟩ := shape_t S hj
  unfold fX_step_35
  rw [bnd_e a2]
  dsimp only
  rw [st97 hf a1 _ _ 299, c97d hf]
theorem r77d {T : qS} (hf : ¬ T.1 7 = 0) (x sh : Int32) : fM_instruction_77 T x sh = fM_instruction_173 T x := by
  unfold fM_instruction_77
  rw [in145 hf _ _ _ 299, r145d hf]
theorem r53d {p : Int32 × Int32} {S T : qS} (h : RR p S T) (hf : ¬ S.1 7 = 0) {j : Nat} {y : Int32} (hy : (y = 0 ∧ j ≤ 70) ∨ y = 1) : fM_instruction_53 T (nI j) y = fM_instruction_173 T (nI j) := by
  have hT : ¬ T.1 7 = 0 := by rw [RR_f h]; exact hf
  unfold fM_instruction_53 fM_instruction_65
  rcases hy with ⟨rfl, hj⟩ | rfl
  · obtain ⟨js, sh, -, a2, -, -⟩ := code_j hj
    rw [if_pos rfl, if_pos rfl, bnd_e (a2 T)]
    exact r77d hT _ _
  · rw [if_neg (show ¬ (1 : Int32) = 0 by decide), bnd_e (dm_wrong h hf _ _ _), if_neg (show ¬ (1 : Int32) = 0 by decide)]
    exact r77d hT _ _
/-- which codes are allowed -/
def al (j : Nat) (m : Int32) : Prop := j ≤ 70 ∧ ((j = 0 ∨ j = 10 ∨ j = 11) → m = 0)
theorem allow_eq (S : qS) {j : Nat} (hj : j < 256) : (al j (cMode S) → fCd_isAllowed S (nI j) = some (1, S)) ∧ (¬ al j (cMode S) → fCd_isAllowed S (nI j) = some (0, S)) := by
  have c0 : nI j = 0 ↔ j = 0 := nI_eqi (b := 0) (by omega) (by omega)
  have c10 : nI j = 10 ↔ j = 10 := nI_eqi (b := 10) (by omega) (by omega)
  have c11 : nI j = 11 ↔ j = 11 := nI_eqi (b := 11) (by omega) (by omega)
  have c70 : 70 < nI j ↔ 70 < j := nI_lti (a := 70) (by omega) (by omega)
  have e16 : fCd_isAllowed_16 S (nI j) = if 70 < nI j then some (0, S) else if ¬ cMode S = 0 then some (0, S) else some (1, S) := by
    unfold fCd_isAllowed_16 fCd_isAllowed_21
    rw [if_neg (show ¬ (1 : Int32) = 0 by decide), bnd_e (fCo_mode_eq S)]
    rfl
  have e21 : fCd_isAllowed_21 S (nI j) 0 = if 70 < nI j then some (0, S) else some (1, S) := by
    unfold fCd_isAllowed_21
    rw [if_pos rfl]
    rfl
  unfold fCd_isAllowed al
  rw [e16, e21]
  by_cases q70 : 70 < j
  · simp only [if_pos (c70.mpr q70)]
    refine ⟨fun w => by omega, fun _ => ?_⟩
    split
    · rfl
    · split
      · rfl
      · split <;> rfl
  · have n70 : ¬ 70 < nI j := fun w => q70 (c70.mp w)
    simp only [if_neg n70]
    by_cases q : j = 0 ∨ j = 10 ∨ j = 11
    · have e : (if nI j = 0 then (if ¬ cMode S = 0 then some ((0 : Int32), S) else some (1, S)) else if nI j = 10 then (if ¬ cMode S = 0 then some (0, S) else some (1, S)) else if ¬ nI j = 11 then some (1, S) else (if ¬ cMode S = 0 then some (0, S) else some (1, S))) = (if ¬ cMode S = 0 then some (0, S) else some (1, S)) := by
        rcases q with q | q | q
        · rw [if_pos (c0.mpr q)]
        · rw [if_neg (fun w => by have := c0.mp w; omega), if_pos (c10.mpr q)]
        · rw [if_neg (fun w => by have := c0.mp w; omega), if_neg (fun w => by have := c10.mp w; omega), if_neg (not_not_intro (c11.mpr q))]
      rw [e]
      refine ⟨fun w => ?_, fun w => ?_⟩
      · rw [if_neg (not_not_intro (w.2 q))]
      · rw [if_pos (fun u => w ⟨by omega, fun _ => u⟩)]
    · rw [if_neg (fun w => q (Or.inl (c0.mp w))), if_neg (fun w => q (Or.inr (Or.inl (c10.mp w)))), if_pos (fun w => q (Or.inr (Or.inr (c11.mp w))))]
      exact ⟨fun _ => rfl, fun w => absurd ⟨by omega, fun u => absurd u q⟩ w⟩
def mHd (T : qS) (x : Int32) : Option qS := if 70 < x then fM_instruction_48 T x else if x = 0 then fM_instruction_41 T x else if x = 10 then fM_instruction_41 T x else if ¬ x = 11 then fM_instruction_52 T x else fM_instruction_41 T x
theorem hd_eq (T : qS) {j : Nat} (hj : j < 256) : (al j (mMode T) → mHd T (nI j) = fM_instruction_53 T (nI j) 0) ∧ (¬ al j (mMode T) → mHd T (nI j) = fM_instruction_53 T (nI j) 1) := by
  have c0 : nI j = 0 ↔ j = 0 := nI_eqi (b := 0) (by omega) (by omega)
  have c10 : nI j = 10 ↔ j = 10 := nI_eqi (b := 10) (by omega) (by omega)
  have c11 : nI j = 11 ↔ j = 11 := nI_eqi (b := 11) (by omega) (by omega)
  have c70 : 70 < nI j ↔ 70 < j := nI_lti (a := 70) (by omega) (by omega)
  have e41 : fM_instruction_41 T (nI j) = if mMode T = 0 then fM_instruction_53 T (nI j) 0 else fM_instruction_53 T (nI j) 1 := by
    unfold fM_instruction_41
    rw [bnd_e (fM_mode_eq T)]
    rfl
  have e48 : fM_instruction_48 T (nI j) = fM_instruction_53 T (nI j) 1 := rfl
  have e52 : fM_instruction_52 T (nI j) = fM_instruction_53 T (nI j) 0 := rfl
  unfold mHd al
  rw [e41, e48, e52]
  by_cases q70 : 70 < j
  · rw [if_pos (c70.mpr q70)]
    exact ⟨fun w => by omega, fun _ => rfl⟩
  · rw [if_neg (fun w => q70 (c70.mp w))]
    by_cases q : j = 0 ∨ j = 10 ∨ j = 11
    · have e : ∀ a b : Option qS, (if nI j = 0 then a else if nI j = 10 then a else if ¬ nI j = 11 then b else a) = a := fun a b => by
        rcases q with q | q | q
        · rw [if_pos (c0.mpr q)]
        · rw [if_neg (fun w => by have := c0.mp w; omega), if_pos (c10.mpr q)]
        · rw [if_neg (fun w => by have := c0.mp w; omega), if_neg (fun w => by have := c10.mp w; omega), if_neg (not_not_intro (c11.mpr q))]
      rw [e]
      refine ⟨fun w => ?_, fun w => ?_⟩
      · rw [if_pos (w.2 q)]
      · rw [if_neg (fun u => w ⟨by omega, fun _ => u⟩)]
    · rw [if_neg (fun w => q (Or.inl (c0.mp w))), if_neg (fun w => q (Or.inr (Or.inl (c10.mp w)))), if_pos (fun w => q (Or.inr (Or.inr (c11.mp w))))]
      exact ⟨fun _ => rfl, fun w => absurd ⟨by omega, fun u => absurd u q⟩ w⟩
/-- a code's work and the instruction's end -/
theorem ex97 {p : Int32 × Int32} {S T : qS} (h : RR p S T) {j : Nat} (hj : j ≤ 70) (hE : S.1 7 = 0 → EX p S T (nI j)) (ht : S.1 7 = 0 → T.1 10 = 0) : ∃ S' T', fX_step_97 S (nI j) = some S' ∧ fM_instruction_145 T (nI j) = some T' ∧ RS (p.1, p.2 + 1) S' T' := by
  by_cases hf : S.1 7 = 0
  · have hT : T.1 7 = 0 := (RR_f h).trans hf
    obtain ⟨f, g, e1, e2, ⟨S1, T1, a1, a2, a3, a4⟩, e4, e5⟩ := hE hf
    subst a1 a2
    unfold fX_step_97 fM_instruction_145
    rw [if_neg (not_not_intro hf), if_neg (not_not_intro hT), e1, e2]
    have ec : ((((some S1 : Option qS).bind fun S1 => fCd_execute_376 S1 (nI j))).bind fun S2 => fX_step_115 S2 (nI j)) = (fCd_noteOverflow S1 (nI j)).bind fun S2 => fX_settle S2 (nI j) := by
      show ((fCd_noteOverflow S1 (nI j)).bind fun S1 => some S1).bind _ = _
      cases fCd_noteOverflow S1 (nI j) with
      | none => rfl
      | some Q => exact k115 Q _
    rw [ec]
    show ∃ S' T', _ ∧ fM_instruction_157 T1 (nI j) = some T' ∧ _
    by_cases hf1 : S1.1 7 = 0
    · obtain ⟨t1, t2⟩ := a4 hf1
      have c0 : nI j = 0 ↔ j = 0 := nI_eqi (b := 0) (by omega) (by omega)
      have c6 : nI j = 6 ↔ j = 6 := nI_eqi (b := 6) (by omega) (by omega)
      have c7 : nI j = 7 ↔ j = 7 := nI_eqi (b := 7) (by omega) (by omega)
      have c8 : nI j = 8 ↔ j = 8 := nI_eqi (b := 8) (by omega) (by omega)
      have c9 : nI j = 9 ↔ j = 9 := nI_eqi (b := 9) (by omega) (by omega)
      refine settle_l a3 hf1 hj t1 t2 (fun w => ?_) (fun w => ?_)
      · obtain ⟨u1, u2⟩ := e4 (by rw [c0, c6, c7, c8, c9]; omega)
        cases u2
        exact ht hf
      · obtain ⟨u1, u2⟩ := e4 (by rw [c0, c6, c7, c8, c9]; omega)
        cases u1
        cases u2
        exact e5 (by rw [c6, c7, c8, c9]; omega)
    · have hT1 : ¬ T1.1 7 = 0 := by rw [RR_f a3]; exact hf1
      rw [r157d hT1]
      obtain ⟨n1, n2⟩ := note_eq S1 hj
      by_cases q : tO j S1
      · rw [n1 q]
        exact settle_d (RR_tc a3 1) hf1 _ _
      · rw [n2 q]
        exact settle_d a3 hf1 _ _
  · have hT : ¬ T.1 7 = 0 := by rw [RR_f h]; exact hf
    rw [c97d hf, r145d hT]
    exact settle_d h hf _ _
/-- one instruction -/
theorem RR_step {p : Int32 × Int32} {S T : qS} (h : RS p S T) : ∃ S' T', fX_step S = some S' ∧ fM_instruction T = some T' ∧ RS (p.1, p.2 + 1) S' T' := by
  obtain ⟨S1, T1, a1, a2, a3, a4, a5⟩ := RR_keep h
  obtain ⟨j, v, S2, T2, hj, b1, b2, b3, b4, b5, b6, b7⟩ := RR_nextb a3 a4
  have em : fM_instruction T = mHd T2 (nI j) := by
    unfold fM_instruction
    rw [bnd_e a2, bnd_e b2]
    rfl
  rw [em]
  unfold fX_step
  rw [bnd_e a1, bnd_e b1]
  dsimp only
  obtain ⟨hd1, hd2⟩ := hd_eq T2 hj
  by_cases hf : S2.1 7 = 0
  · have ev := b4 hf
    subst ev
    have hm : mMode T2 = cMode S2 := RL_mode (b3.2 hf)
    rw [hm] at hd1 hd2
    obtain ⟨al1, al2⟩ := allow_eq S2 hj
    by_cases q : al j (cMode S2)
    · rw [bnd_e (al1 q), hd1 q]
      dsimp only
      rw [if_pos (show ¬ (1 : Int32) = 0 by decide)]
      obtain ⟨js, sh, s1, s2, s3, s4⟩ := code_j q.1
      unfold fX_step_35 fM_instruction_53 fM_instruction_65
      rw [bnd_e (s1 S2), if_pos rfl, if_pos rfl, bnd_e (s2 T2)]
      dsimp only
      obtain ⟨S3, T3, l1, l2, l3, l4⟩ := lp s3 (nI j) (qlen.getD js 0) 0 (299 - qlen.getD js 0) (Nat.zero_add _) b3 hf (by rw [b6 10 (by decide)]; exact a5) (b7.2.trans rfl) (fun i' hi' => absurd hi' (by omega))
      have e300 : qlen.getD js 0 + 1 + (299 - qlen.getD js 0) = 300 := by
        have := s3.2.1
        omega
      rw [e300] at l1 l2
      unfold fM_instruction_77
      rw [show fX_step_46 300 S2 (nI j) js 0 = fX_step_97 S3 (nI j) from l1, show fM_instruction_81 300 T2 (nI j) sh 0 = fM_instruction_145 T3 (nI j) from l2]
      exact ex97 l3 q.1 (fun w => s4 l3 w (l4 w).2.1 (l4 w).2.2 (l4 w).1) (fun w => (l4 w).2.2)
    · obtain ⟨w1, T9, w2, w3, w4⟩ := RR_wr b3 hf (f := 1) (by decide) (by decide) ⟨by decide, by decide⟩
      rw [bnd_e (al2 q), hd2 q]
      dsimp only
      rw [if_neg (show ¬ ¬ (0 : Int32) = 0 by decide), bnd_e w1, c35d w4 hj]
      unfold fM_instruction_53 fM_instruction_65
      rw [if_neg (show ¬ (1 : Int32) = 0 by decide), bnd_e w2, if_neg (show ¬ (1 : Int32) = 0 by decide), r77d (by rw [RR_f w3]; exact w4)]
      exact settle_d w3 w4 _ _
  · have ev : v = nI 0 := b5 hf
    subst ev
    have e3 : mHd T2 (nI j) = fM_instruction_173 T2 (nI j) := by
      by_cases q : al j (mMode T2)
      · rw [hd1 q]; exact r53d b3 hf (Or.inl ⟨rfl, q.1⟩)
      · rw [hd2 q]; exact r53d b3 hf (Or.inr rfl)
    rw [e3]
    obtain ⟨al1, al2⟩ := allow_eq S2 (j := 0) (by decide)
    by_cases q : al 0 (cMode S2)
    · rw [bnd_e (al1 q)]
      dsimp only
      rw [if_pos (show ¬ (1 : Int32) = 0 by decide), c35d hf (j := 0) (by decide)]
      exact settle_d b3 hf _ _
    · rw [bnd_e (al2 q)]
      dsimp only
      rw [if_neg (show ¬ ¬ (0 : Int32) = 0 by decide), bnd_e (dc_raise hf 1), c35d hf (j := 0) (by decide)]
      exact settle_d b3 hf _ _
/-- a run -/
theorem run_l (c : Int32) (a : Nat) (ha : a ≤ 200) (k : Nat) : ∀ {S T : qS} (i m : Nat), i + k = a → RS (c, c + nI i) S T → ∃ (v : Nat) (S' T' : qS), fX_run_41 (k + 1 + m) S (nI a) (nI i) = some (nI v, pI S' 1 (S'.1 1 + nI v)) ∧ fM_run_38 (k + 1 + m) T (nI a) (nI i) = some (nI v, T') ∧ RS (c, c + nI v) S' T' := by
  induction k with
  | zero =>
    intro S T i m hi h
    have ca : nI a ≤ nI i := (nI_lei (by omega) (by omega)).mpr (by omega)
    refine ⟨i, S, T, ?_, ?_, h⟩
    · rw [show 0 + 1 + m = m + 1 by omega, fX_run_41, if_pos ca]; rfl
    · rw [show 0 + 1 + m = m + 1 by omega, fM_run_38, if_pos ca]; rfl
  | succ k ih =>
    intro S T i m hi h
    have ca : ¬ nI a ≤ nI i := fun w => by
      have := (nI_lei (by omega) (by omega)).mp w
      omega
    have e0 : T.1 2 = S.1 0 := h.2.2.2.2.1
    rw [show k + 1 + 1 + m = (k + 1 + m) + 1 by omega, fX_run_41, fM_run_38, if_neg ca, if_neg ca, e0]
    by_cases q : S.1 0 = 0
    · rw [if_neg (not_not_intro q), if_neg (not_not_intro q)]
      obtain ⟨S1, T1, b1, b2, b3⟩ := RR_step h
      rw [bnd_e b1, bnd_e b2, nI_1]
      have e1 : c + nI i + 1 = c + nI (i + 1) := by rw [Int32.add_assoc, nI_1]
      have b3 : RS (c, c + nI i + 1) S1 T1 := b3
      rw [e1] at b3
      exact ih (i + 1) m (by omega) b3
    · rw [if_pos q, if_pos q]
      exact ⟨i, S, T, rfl, rfl, h⟩
