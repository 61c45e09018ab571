/-! Pure part 23: all operands of an instruction. -/
def kddB (c d : Int32) : Bool := (c == 82 && d == 9) || (c == 114 && d == 1) || (c == 87 && d == 10) || (c == 119 && d == 2) || (c == 77 && d == 11) || (c == 65 && d == 12) || (c == 97 && d == 4) || (c == 100 && d == 16)
theorem kddB_c {c d : Int32} (h : kddB c d = true) : (c = 82 ∧ d = 9) ∨ (c = 114 ∧ d = 1) ∨ (c = 87 ∧ d = 10) ∨ (c = 119 ∧ d = 2) ∨ (c = 77 ∧ d = 11) ∨ (c = 65 ∧ d = 12) ∨ (c = 97 ∧ d = 4) ∨ (c = 100 ∧ d = 16) := by
  unfold kddB at h
  simp only [Bool.or_eq_true, Bool.and_eq_true, beq_iff_eq] at h
  rcases h with ((((((h | h) | h) | h) | h) | h) | h) | h
  · exact Or.inl h
  · exact Or.inr (Or.inl h)
  · exact Or.inr (Or.inr (Or.inl h))
  · exact Or.inr (Or.inr (Or.inr (Or.inl h)))
  · exact Or.inr (Or.inr (Or.inr (Or.inr (Or.inl h))))
  · exact Or.inr (Or.inr (Or.inr (Or.inr (Or.inr (Or.inl h)))))
  · exact Or.inr (Or.inr (Or.inr (Or.inr (Or.inr (Or.inr (Or.inl h))))))
  · exact Or.inr (Or.inr (Or.inr (Or.inr (Or.inr (Or.inr (Or.inr h))))))
/-- what is known of operand i, by its letter -/
def OC (i : Nat) (c : Int32) (S T : qS) : Prop := (c = 82 → OF i 1 4 S T) ∧ (c = 114 → OF i 1 1 S T) ∧ (c = 87 → OF i 2 4 S T) ∧ (c = 119 → OF i 2 1 S T) ∧ (c = 77 → OF i 3 4 S T) ∧ (c = 65 → OF i 4 4 S T) ∧ (c = 97 → OF i 4 1 S T) ∧ (c = 100 → T.2 5 i = S.1 (14 + 4 * i))
theorem OF_k {i k : Nat} (hne : i ≠ k) {S S' T T' : qS} (h1 : KCk k S S') (h2 : KMk k T T') {x3 z : Int32} (h : OF i x3 z S T) : OF i x3 z S' T' := by
  have e11 := h1 (11 + 4 * i) (by omega) (by omega)
  have e12 := h1 (12 + 4 * i) (by omega) (by omega)
  have e13 := h1 (13 + 4 * i) (by omega) (by omega)
  have e14 := h1 (14 + 4 * i) (by omega) (by omega)
  have m5 := h2.1 5 (by decide) (by decide) i hne
  have m6 := h2.1 6 (by decide) (by decide) i hne
  have m7 := h2.1 7 (by decide) (by decide) i hne
  unfold OF OW at *
  rw [e11, e12, e13, e14, m5, m6, m7]
  exact h
theorem OC_k {i k : Nat} (hne : i ≠ k) {S S' T T' : qS} (h1 : KCk k S S') (h2 : KMk k T T') {c : Int32} (h : OC i c S T) : OC i c S' T' := by
  obtain ⟨a1, a2, a3, a4, a5, a6, a7, a8⟩ := h
  refine ⟨fun e => OF_k hne h1 h2 (a1 e), fun e => OF_k hne h1 h2 (a2 e), fun e => OF_k hne h1 h2 (a3 e), fun e => OF_k hne h1 h2 (a4 e), fun e => OF_k hne h1 h2 (a5 e), fun e => OF_k hne h1 h2 (a6 e), fun e => OF_k hne h1 h2 (a7 e), fun e => ?_⟩
  rw [h1 (14 + 4 * i) (by omega) (by omega), h2.1 5 (by decide) (by decide) i hne]
  exact a8 e
/-- one operand -/
def mOp (T : qS) (k d : Int32) : Option qS := if ¬ d = 16 then fM_operand T k d else (fM_next T).bind fun q6 => (fM_signed q6.2 q6.1).bind fun q7 => chk (inb k 3) <| some (pA q7.2 5 k q7.1)
theorem RR_op {p : Int32 × Int32} {S T : qS} (h : RR p S T) (hf : S.1 7 = 0) {k : Nat} (hk : k < 3) {c d : Int32} (hc : kddB c d = true) : ∃ S' T', fSp_find S k c = some S' ∧ mOp T (nI k) d = some T' ∧ RR p S' T' ∧ (S'.1 7 = 0 → KCk k S S' ∧ KMk k T T' ∧ OC k c S' T') := by
  have hi := ik3 hk
  unfold mOp
  rcases kddB_c hc with ⟨rfl, rfl⟩ | ⟨rfl, rfl⟩ | ⟨rfl, rfl⟩ | ⟨rfl, rfl⟩ | ⟨rfl, rfl⟩ | ⟨rfl, rfl⟩ | ⟨rfl, rfl⟩ | ⟨rfl, rfl⟩
  · obtain ⟨S', T', g1, g2, g3, g4⟩ := RR_operand h hf hk (c := 82) (x3 := 1) (z := 4) (Or.inl ⟨rfl, rfl, rfl⟩)
    refine ⟨S', T', g1, g2, g3, fun q => ⟨(g4 q).1, (g4 q).2.1, fun _ => (g4 q).2.2, fun w => ?_, fun w => ?_, fun w => ?_, fun w => ?_, fun w => ?_, fun w => ?_, fun w => ?_⟩⟩ <;> exact absurd w (by decide)
  · obtain ⟨S', T', g1, g2, g3, g4⟩ := RR_operand h hf hk (c := 114) (x3 := 1) (z := 1) (Or.inr (Or.inl ⟨rfl, rfl, rfl⟩))
    refine ⟨S', T', g1, g2, g3, fun q => ⟨(g4 q).1, (g4 q).2.1, fun w => ?_, fun _ => (g4 q).2.2, fun w => ?_, fun w => ?_, fun w => ?_, fun w => ?_, fun w => ?_, fun w => ?_⟩⟩ <;> exact absurd w (by decide)
  · obtain ⟨S', T', g1, g2, g3, g4⟩ := RR_operand h hf hk (c := 87) (x3 := 2) (z := 4) (Or.inr (Or.inr (Or.inl ⟨rfl, rfl, rfl⟩)))
    refine ⟨S', T', g1, g2, g3, fun q => ⟨(g4 q).1, (g4 q).2.1, fun w => ?_, fun w => ?_, fun _ => (g4 q).2.2, fun w => ?_, fun w => ?_, fun w => ?_, fun w => ?_, fun w => ?_⟩⟩ <;> exact absurd w (by decide)
  · obtain ⟨S', T', g1, g2, g3, g4⟩ := RR_operand h hf hk (c := 119) (x3 := 2) (z := 1) (Or.inr (Or.inr (Or.inr (Or.inl ⟨rfl, rfl, rfl⟩))))
    refine ⟨S', T', g1, g2, g3, fun q => ⟨(g4 q).1, (g4 q).2.1, fun w => ?_, fun w => ?_, fun w => ?_, fun _ => (g4 q).2.2, fun w => ?_, fun w => ?_, fun w => ?_, fun w => ?_⟩⟩ <;> exact absurd w (by decide)
  · obtain ⟨S', T', g1, g2, g3, g4⟩ := RR_operand h hf hk (c := 77) (x3 := 3) (z := 4) (Or.inr (Or.inr (Or.inr (Or.inr (Or.inl ⟨rfl, rfl, rfl⟩)))))
    refine ⟨S', T', g1, g2, g3, fun q => ⟨(g4 q).1, (g4 q).2.1, fun w => ?_, fun w => ?_, fun w => ?_, fun w => ?_, fun _ => (g4 q).2.2, fun w => ?_, fun w => ?_, fun w => ?_⟩⟩ <;> exact absurd w (by decide)
  · obtain ⟨S', T', g1, g2, g3, g4⟩ := RR_operand h hf hk (c := 65) (x3 := 4) (z := 4) (Or.inr (Or.inr (Or.inr (Or.inr (Or.inr (Or.inl ⟨rfl, rfl, rfl⟩))))))
    refine ⟨S', T', g1, g2, g3, fun q => ⟨(g4 q).1, (g4 q).2.1, fun w => ?_, fun w => ?_, fun w => ?_, fun w => ?_, fun w => ?_, fun _ => (g4 q).2.2, fun w => ?_, fun w => ?_⟩⟩ <;> exact absurd w (by decide)
  · obtain ⟨S', T', g1, g2, g3, g4⟩ := RR_operand h hf hk (c := 97) (x3 := 4) (z := 1) (Or.inr (Or.inr (Or.inr (Or.inr (Or.inr (Or.inr ⟨rfl, rfl, rfl⟩))))))
    refine ⟨S', T', g1, g2, g3, fun q => ⟨(g4 q).1, (g4 q).2.1, fun w => ?_, fun w => ?_, fun w => ?_, fun w => ?_, fun w => ?_, fun w => ?_, fun _ => (g4 q).2.2, fun w => ?_⟩⟩ <;> exact absurd w (by decide)
  · have h1 : RR p (pI (pI S (12 + 4 * k) (-1)) (11 + 4 * k) 1) T := RR_c (RR_c h (Or.inr (Or.inl (by omega))) _) (Or.inr (Or.inl (by omega))) _
    have k1 : KCk k S (pI (pI S (12 + 4 * k) (-1)) (11 + 4 * k) 1) := KCk_t (KCk_p _ _ (by omega) (by omega)) (KCk_p _ _ (by omega) (by omega))
    obtain ⟨v, v', S1, T1, g1, g2, g3, g4, g5, g6⟩ := RR_next h1
    have hc : fSp_find S k 100 = some (pI S1 (14 + 4 * k) v.toInt8.toInt32) := by
      unfold fSp_find fSp_find_17
      rw [if_pos (by decide), if_neg (by decide), bnd_e g1]
    rw [if_neg (by decide), bnd_e g2, bnd_e (fM_signed_eq T1 v'), chk_t hi]
    refine ⟨_, _, hc, rfl, RR_c (RR_da g3 (by decide) _ _) (Or.inr (Or.inl (by omega))) _, fun q => ⟨KCk_t k1 (KCk_t (KCk_c g5) (KCk_p _ _ (by omega) (by omega))), KMk_t (KMk_m g6) (KMk_a _ _ _ hk), fun w => ?_, fun w => ?_, fun w => ?_, fun w => ?_, fun w => ?_, fun w => ?_, fun w => ?_, fun _ => ?_⟩⟩
    · exact absurd w (by decide)
    · exact absurd w (by decide)
    · exact absurd w (by decide)
    · exact absurd w (by decide)
    · exact absurd w (by decide)
    · exact absurd w (by decide)
    · exact absurd w (by decide)
    · rw [pI_o _ _ (by omega)] at q
      rw [pA_s _ _ _ (by omega), pI_s, g4 q]
/-- shapes -/
def shf (sh : Int32) : Nat → Int32
  | 0 => sh
  | i + 1 => shf sh i / 32
def shB (js : Nat) (sh : Int32) (i : Nat) : Bool := if i < qlen.getD js 0 then decide (i < 3) && (!decide (shf sh i ≤ 0)) && kddB (schr js (nI i)) (shf sh i - shf sh i / 32 * 32) && inbs js (nI i) else decide (shf sh i ≤ 0)
def shOK (js : Nat) (sh : Int32) : Prop := js < 24 ∧ qlen.getD js 0 ≤ 3 ∧ ∀ i : Nat, i < 4 → shB js sh i = true
theorem st97 {S : qS} (hf : ¬ S.1 7 = 0) {js : Nat} (hj : js < 24) (x1 i : Int32) (n : Nat) : fX_step_46 (n + 1) S x1 js i = fX_step_97 S x1 := by
  rw [fX_step_46, chk_t (decide_eq_true hj)]
  by_cases a : slen js ≤ i
  · rw [if_pos a]
  · rw [if_neg a]
    by_cases b : 3 ≤ i
    · rw [if_pos b]
    · rw [if_neg b, if_pos hf]
theorem in145 {T : qS} (hf : ¬ T.1 7 = 0) (x1 sh i : Int32) (n : Nat) : fM_instruction_81 (n + 1) T x1 sh i = fM_instruction_145 T x1 := by
  rw [fM_instruction_81]
  by_cases b : 3 ≤ i
  · rw [if_pos b]
  · rw [if_neg b, if_pos hf]
theorem lp {p : Int32 × Int32} {js : Nat} {sh : Int32} (hs : shOK js sh) (x1 : Int32) (r : Nat) : ∀ {S T : qS} (i m : Nat), i + r = qlen.getD js 0 → RR p S T → S.1 7 = 0 → S.1 10 = 0 → T.1 10 = 0 → (∀ i' : Nat, i' < i → OC i' (schr js (nI i')) S T) → ∃ S' T', fX_step_46 (r + 1 + m) S x1 js (nI i) = fX_step_97 S' x1 ∧ fM_instruction_81 (r + 1 + m) T x1 (shf sh i) (nI i) = fM_instruction_145 T' x1 ∧ RR p S' T' ∧ (S'.1 7 = 0 → (∀ i' : Nat, i' < qlen.getD js 0 → OC i' (schr js (nI i')) S' T') ∧ S'.1 10 = 0 ∧ T'.1 10 = 0) := by
  obtain ⟨hj, hl, hs⟩ := hs
  induction r with
  | zero =>
    intro S T i m hi h hf h10 t10 hO
    have hT : T.1 7 = 0 := (RR_f h).trans hf
    refine ⟨S, T, ?_, ?_, h, fun _ => ⟨fun i' hi' => hO i' (by omega), h10, t10⟩⟩
    · rw [show 0 + 1 + m = m + 1 by omega, fX_step_46, chk_t (decide_eq_true hj), if_pos (show slen js ≤ nI i from (nI_lei (a := qlen.getD js 0) (by omega) (by omega)).mpr (by omega))]
    · rw [show 0 + 1 + m = m + 1 by omega, fM_instruction_81]
      by_cases b : (3 : Int32) ≤ nI i
      · rw [if_pos b]
      · have hs := hs i (by omega)
        unfold shB at hs
        rw [if_neg (by omega)] at hs
        rw [if_neg b, if_neg (not_not_intro hT), if_pos (of_decide_eq_true hs)]
  | succ r ih =>
    intro S T i m hi h hf h10 t10 hO
    have hT : T.1 7 = 0 := (RR_f h).trans hf
    have hs2 := hs i (by omega)
    unfold shB at hs2
    rw [if_pos (by omega)] at hs2
    simp only [Bool.and_eq_true, decide_eq_true_eq, Bool.not_eq_true', decide_eq_false_iff_not] at hs2
    obtain ⟨⟨⟨i3, s0⟩, kk⟩, ib⟩ := hs2
    have c3 : ¬ (3 : Int32) ≤ nI i := fun w => by
      have := (nI_lei (a := 3) (by omega) (by omega)).mp w
      omega
    obtain ⟨S1, T1, g1, g2, g3, g4⟩ := RR_op h hf i3 kk
    have e1 : fX_step_46 (r + 1 + 1 + m) S x1 js (nI i) = fX_step_46 (r + 1 + m) S1 x1 js (nI (i + 1)) := by
      rw [show r + 1 + 1 + m = (r + 1 + m) + 1 by omega, fX_step_46, chk_t (decide_eq_true hj), if_neg (show ¬ slen js ≤ nI i from fun w => by
        have := (nI_lei (a := qlen.getD js 0) (by omega) (by omega)).mp w
        omega), if_neg c3, if_neg (not_not_intro hf), chk_t (ik3 i3), chk_t ib, nI_cl (by omega), bnd_e g1, nI_1]
    have e2 : fM_instruction_81 (r + 1 + 1 + m) T x1 (shf sh i) (nI i) = fM_instruction_81 (r + 1 + m) T1 x1 (shf sh (i + 1)) (nI (i + 1)) := by
      rw [show r + 1 + 1 + m = (r + 1 + m) + 1 by omega, fM_instruction_81, if_neg c3, if_neg (not_not_intro hT), if_neg s0]
      unfold mOp at g2
      by_cases d : ¬ shf sh i - shf sh i / 32 * 32 = 16
      · rw [if_pos d] at g2 ⊢
        rw [bnd_e g2]
        unfold fM_instruction_134
        rw [nI_1]
        rfl
      · rw [if_neg d] at g2 ⊢
        obtain ⟨q6, w1, g2⟩ := bnd_s g2
        obtain ⟨q7, w2, g2⟩ := bnd_s g2
        obtain ⟨w3, g2⟩ := chk_s g2
        cases g2
        rw [bnd_e w1, bnd_e w2, chk_t w3]
        unfold fM_instruction_134
        rw [nI_1]
        rfl
    rw [e1, e2]
    by_cases hf1 : S1.1 7 = 0
    · obtain ⟨k1, k2, oc⟩ := g4 hf1
      refine ih (i + 1) m (by omega) g3 hf1 (by rw [k1 10 (by omega) (by omega)]; exact h10) (k2.2.trans t10) (fun i' hi' => ?_)
      by_cases q : i' = i
      · subst q; exact oc
      · exact OC_k q k1 k2 (hO i' (by omega))
    · have hT1 : ¬ T1.1 7 = 0 := by rw [RR_f g3]; exact hf1
      refine ⟨S1, T1, ?_, ?_, g3, fun q => absurd q hf1⟩
      · rw [show r + 1 + m = (r + m) + 1 by omega]; exact st97 hf1 hj _ _ _
      · rw [show r + 1 + m = (r + m) + 1 by omega]; exact in145 hT1 _ _ _ _
