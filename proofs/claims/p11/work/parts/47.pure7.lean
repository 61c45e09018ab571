/-! Pure part 7: how a state of the class and one of the reference stand to each other within a run. -/
/-- the numbers of faults -/
def fv (x : Int32) : Prop := 0 ≤ x ∧ x ≤ 6
/-- what holds behind a fault also -/
def RG (p : Int32 × Int32) (S T : qS) : Prop :=
  RM S T ∧ (∀ i : Nat, 4 ≤ i → i < 57 → T.2 2 i = S.2 1 i) ∧ (∀ i : Nat, i < 16 → T.2 3 i = S.2 3 i) ∧ (∀ i : Nat, i < 4 → T.2 4 i = S.2 4 i) ∧ T.1 6 = S.1 5 ∧ (T.1 7 = S.1 7 ∧ fv (S.1 7)) ∧ ((S.1 7 = 4 ∨ S.1 7 = 5) → T.1 8 = S.1 8 ∧ T.1 9 = S.1 9) ∧ T.1 2 = S.1 0 ∧ T.1 0 = 0 ∧ S.1 1 = p.1 ∧ T.1 3 = p.2
/-- what holds where no fault is noted -/
def RL (S T : qS) : Prop := (∀ i : Nat, i < 16 → T.2 1 i = S.2 2 i) ∧ (∀ i : Nat, i < 4 → T.2 2 i = S.2 1 i) ∧ T.1 1 = S.1 6
def RR (p : Int32 × Int32) (S T : qS) : Prop := RG p S T ∧ (S.1 7 = 0 → RL S T)
theorem RR_f {p : Int32 × Int32} {S T : qS} (h : RR p S T) : T.1 7 = S.1 7 := h.1.2.2.2.2.2.1.1
theorem RR_m {p : Int32 × Int32} {S T : qS} (h : RR p S T) : RM S T := h.1.1
theorem RR_i {p : Int32 × Int32} {S T : qS} (h : RR p S T) (hf : S.1 7 = 0) : RI S T := fun i hi => by
  rcases Nat.lt_or_ge i 4 with q | q
  · exact (h.2 hf).2.1 i q
  · exact h.1.2.1 i q hi
/-- scratch fields of the class: entry, operands -/
theorem RR_c {p : Int32 × Int32} {S T : qS} (h : RR p S T) {k : Nat} (hk : k = 4 ∨ 10 ≤ k ∨ k = 2 ∨ k = 3) (v : Int32) : RR p (pI S k v) T := by
  obtain ⟨⟨h1, h2, h3, h4, h5, h6, h7, h8, h9, h10, h11⟩, hl⟩ := h
  have e : ∀ j : Nat, j ≠ 4 → j < 10 → j ≠ 2 → j ≠ 3 → (pI S k v).1 j = S.1 j := fun j hj hj2 hj3 hj4 => if_neg (by omega)
  have e0 := e 0 (by decide) (by decide) (by decide) (by decide)
  have e1 := e 1 (by decide) (by decide) (by decide) (by decide)
  have e5 := e 5 (by decide) (by decide) (by decide) (by decide)
  have e6 := e 6 (by decide) (by decide) (by decide) (by decide)
  have e7 := e 7 (by decide) (by decide) (by decide) (by decide)
  have e8 := e 8 (by decide) (by decide) (by decide) (by decide)
  have e9 := e 9 (by decide) (by decide) (by decide) (by decide)
  refine ⟨⟨h1, h2, h3, h4, ?_, ?_, ?_, ?_, h9, ?_, h11⟩, ?_⟩
  · rw [e5]; exact h5
  · rw [e7]; exact h6
  · rw [e7, e8, e9]; exact h7
  · rw [e0]; exact h8
  · rw [e1]; exact h10
  · intro q
    rw [e7] at q
    obtain ⟨l1, l2, l3⟩ := hl q
    refine ⟨l1, l2, ?_⟩
    rw [e6]; exact l3
/-- scratch fields of the reference: latest, exceptions, entryAt -/
theorem RR_d {p : Int32 × Int32} {S T : qS} (h : RR p S T) {k : Nat} (hk : k = 4 ∨ k = 5 ∨ 11 ≤ k) (v : Int32) : RR p S (pI T k v) := by
  obtain ⟨⟨h1, h2, h3, h4, h5, h6, h7, h8, h9, h10, h11⟩, hl⟩ := h
  have e : ∀ j : Nat, j ≠ 4 → j ≠ 5 → j < 11 → (pI T k v).1 j = T.1 j := fun j hj hj1 hj2 => if_neg (by omega)
  have e0 := e 0 (by decide) (by decide) (by decide)
  have e1 := e 1 (by decide) (by decide) (by decide)
  have e2 := e 2 (by decide) (by decide) (by decide)
  have e3 := e 3 (by decide) (by decide) (by decide)
  have e6 := e 6 (by decide) (by decide) (by decide)
  have e7 := e 7 (by decide) (by decide) (by decide)
  have e8 := e 8 (by decide) (by decide) (by decide)
  have e9 := e 9 (by decide) (by decide) (by decide)
  refine ⟨⟨h1, h2, h3, h4, ?_, ?_, ?_, ?_, ?_, h10, ?_⟩, ?_⟩
  · rw [e6]; exact h5
  · rw [e7]; exact h6
  · rw [e8, e9]; exact h7
  · rw [e2]; exact h8
  · rw [e0]; exact h9
  · rw [e3]; exact h11
  · intro q
    obtain ⟨l1, l2, l3⟩ := hl q
    refine ⟨l1, l2, ?_⟩
    rw [e1]; exact l3
/-- scratch arrays -/
theorem RR_ca {p : Int32 × Int32} {S T : qS} (h : RR p S T) {k : Nat} (hk : 5 ≤ k) (i v : Int32) : RR p (pA S k i v) T := by
  have e : ∀ j : Nat, j < 5 → (pA S k i v).2 j = S.2 j := fun j hj => if_neg (by omega)
  obtain ⟨⟨h1, h2, h3, h4, h5⟩, hl⟩ := h
  refine ⟨⟨?_, ?_, ?_, ?_, h5⟩, ?_⟩
  · unfold RM; rw [e 0 (by decide)]; exact h1
  · rw [e 1 (by decide)]; exact h2
  · rw [e 3 (by decide)]; exact h3
  · rw [e 4 (by decide)]; exact h4
  · intro q
    obtain ⟨l1, l2, l3⟩ := hl q
    refine ⟨?_, ?_, l3⟩
    · rw [e 2 (by decide)]; exact l1
    · rw [e 1 (by decide)]; exact l2
theorem RR_da {p : Int32 × Int32} {S T : qS} (h : RR p S T) {k : Nat} (hk : 5 ≤ k) (i v : Int32) : RR p S (pA T k i v) := by
  have e : ∀ j : Nat, j < 5 → (pA T k i v).2 j = T.2 j := fun j hj => if_neg (by omega)
  obtain ⟨⟨h1, h2, h3, h4, h5⟩, hl⟩ := h
  refine ⟨⟨?_, ?_, ?_, ?_, h5⟩, ?_⟩
  · unfold RM; rw [e 0 (by decide)]; exact h1
  · rw [e 2 (by decide)]; exact h2
  · rw [e 3 (by decide)]; exact h3
  · rw [e 4 (by decide)]; exact h4
  · intro q
    obtain ⟨l1, l2, l3⟩ := hl q
    refine ⟨?_, ?_, l3⟩
    · rw [e 1 (by decide)]; exact l1
    · rw [e 2 (by decide)]; exact l2
/-- status, trap -/
theorem RR_st {p : Int32 × Int32} {S T : qS} (h : RR p S T) {v v' : Int32} (hv : S.1 7 = 0 → v' = v) : RR p (pI S 6 v) (pI T 1 v') := by
  obtain ⟨⟨h1, h2, h3, h4, h5, h6, h7, h8, h9, h10, h11⟩, hl⟩ := h
  refine ⟨⟨h1, h2, h3, h4, h5, h6, h7, h8, h9, h10, h11⟩, fun q => ?_⟩
  obtain ⟨l1, l2, l3⟩ := hl q
  exact ⟨l1, l2, hv q⟩
theorem RR_tm {p : Int32 × Int32} {S T : qS} (h : RR p S T) (v : Int32) : RR p S (pI T 10 v) := h
theorem RR_tc {p : Int32 × Int32} {S T : qS} (h : RR p S T) (v : Int32) : RR p (pI S 10 v) T := h
/-- a fault is noted -/
theorem RR_ft {p : Int32 × Int32} {S T : qS} (h : RR p S T) {f a g a' g' : Int32} (hf : f = 4 ∨ f = 5) (ha : f = 4 ∨ f = 5 → a' = a ∧ g' = g) : RR p (pI (pI (pI S 7 f) 9 g) 8 a) (pI (pI (pI T 7 f) 8 a') 9 g') := by
  obtain ⟨⟨h1, h2, h3, h4, h5, h6, h7, h8, h9, h10, h11⟩, hl⟩ := h
  exact ⟨⟨h1, h2, h3, h4, h5, ⟨rfl, by show fv f; rcases hf with rfl | rfl <;> exact ⟨by decide, by decide⟩⟩, ha, h8, h9, h10, h11⟩, fun q => absurd (show f = 0 from q) (by rcases hf with rfl | rfl <;> decide)⟩
theorem RR_fr {p : Int32 × Int32} {S T : qS} (h : RR p S T) {f a' g' : Int32} (hf : f ≠ 0) (ha : ¬ (f = 4 ∨ f = 5)) (hv : fv f) : RR p (pI S 7 f) (pI (pI (pI T 7 f) 8 a') 9 g') := by
  obtain ⟨⟨h1, h2, h3, h4, h5, h6, h7, h8, h9, h10, h11⟩, hl⟩ := h
  exact ⟨⟨h1, h2, h3, h4, h5, ⟨rfl, hv⟩, fun q => absurd q ha, h8, h9, h10, h11⟩, fun q => absurd q hf⟩
