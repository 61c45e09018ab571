/-! Pure part 6: what a place may be; the two sides' places are equal. -/
theorem fr_in (x a : Int32) : inb (64 * (x &&& 31) + (a &&& 63)) 2048 = true := by
  obtain ⟨j, hj, e⟩ := pk_andE x (m := 31) 5 (by decide)
  obtain ⟨k, hk, e2⟩ := pk_andE a (m := 63) 6 (by decide)
  have h64 : (64 : Int32) = nI 64 := by decide
  rw [e, e2, h64, pk_mul, nI_add]
  exact inb_nI (by omega) (by decide)
theorem inb_0 {x : Int32} {n : Nat} (h : inb x n = true) : 0 ≤ x := by
  unfold inb at h
  rw [Bool.and_eq_true, decide_eq_true_eq, decide_eq_true_eq] at h
  rw [Int32.le_iff_toInt_le]
  exact h.1
/-- a refusal -/
def ref_ (r : Int32) : Prop := r = -50 ∨ r = -54 ∨ r = -60 ∨ r = -64 ∨ r = -62 ∨ r = -66 ∨ r = -53 ∨ r = -57 ∨ r = -51 ∨ r = -55
theorem ref_neg {r : Int32} (h : ref_ r) : ¬ 0 ≤ r := by
  rcases h with rfl | rfl | rfl | rfl | rfl | rfl | rfl | rfl | rfl | rfl <;> decide
theorem ref_fault {r : Int32} (h : ref_ r) : ((-10) - r) / 10 = 4 ∨ ((-10) - r) / 10 = 5 := by
  rcases h with rfl | rfl | rfl | rfl | rfl | rfl | rfl | rfl | rfl | rfl <;> decide
def plc (r : Int32) : Prop := inb r 2048 = true ∨ ref_ r
theorem spe_plc {lng : Int32 → Int32} {a w m more at_ : Int32} (hm : more = 0 ∨ more = 4) : plc (spe lng a w m more at_).1 := by
  unfold spe
  split
  · split
    · right; rcases hm with rfl | rfl
      · exact Or.inr (Or.inr (Or.inl rfl))
      · exact Or.inr (Or.inr (Or.inr (Or.inl rfl)))
    · left; exact fr_in _ _
  · right; rcases hm with rfl | rfl
    · exact Or.inl rfl
    · exact Or.inr (Or.inl rfl)
theorem spo_plc {lng : Int32 → Int32} {inn : Nat → Int32} {a w m more o : Int32} (hm : more = 0 ∨ more = 4) : plc (spo lng inn a w m more o).1 := by
  unfold spo
  split
  · split
    · right; rcases hm with rfl | rfl
      · exact Or.inr (Or.inr (Or.inr (Or.inr (Or.inl rfl))))
      · exact Or.inr (Or.inr (Or.inr (Or.inr (Or.inr (Or.inl rfl)))))
    · exact spe_plc hm
  · right; rcases hm with rfl | rfl
    · exact Or.inr (Or.inr (Or.inr (Or.inr (Or.inr (Or.inr (Or.inl rfl))))))
    · exact Or.inr (Or.inr (Or.inr (Or.inr (Or.inr (Or.inr (Or.inr (Or.inl rfl)))))))
theorem spm_plc {lng : Int32 → Int32} {inn : Nat → Int32} {a w m more : Int32} (hm : more = 0 ∨ more = 4) : plc (spm lng inn a w m more).1 := by
  unfold spm
  split
  · split
    · exact spe_plc hm
    · exact spo_plc hm
  · right; rcases hm with rfl | rfl
    · exact Or.inr (Or.inr (Or.inr (Or.inr (Or.inr (Or.inr (Or.inr (Or.inr (Or.inl rfl))))))))
    · exact Or.inr (Or.inr (Or.inr (Or.inr (Or.inr (Or.inr (Or.inr (Or.inr (Or.inr rfl))))))))
theorem spl_plc {lng : Int32 → Int32} {inn : Nat → Int32} {a w m : Int32} : plc (spl lng inn a w m).1 := by
  unfold spl
  split
  · left; exact inb_2047 a
  · refine spm_plc ?_
    split
    · exact Or.inl rfl
    · exact Or.inr rfl
theorem plc_in {r : Int32} (h : plc r) (h0 : 0 ≤ r) : inb r 2048 = true := by
  rcases h with h | h
  · exact h
  · exact absurd h0 (ref_neg h)
theorem plc_ref {r : Int32} (h : plc r) (h0 : ¬ 0 ≤ r) : ref_ r := by
  rcases h with h | h
  · exact absurd (inb_0 h) h0
  · exact h
/-- inner registers alike -/
def RI (S T : qS) : Prop := ∀ i : Nat, i < 57 → T.2 2 i = S.2 1 i
theorem spl_rel {S T : qS} (h : RM S T) (hi : RI S T) (a w m : Int32) : spl (mLong T) (T.2 2) a w m = spl (cLong S) (S.2 1) a w m := by
  have el : mLong T = cLong S := funext (RM_L h)
  rw [el]
  unfold spl spm spo thr
  rw [hi 56 (by decide), hi 13 (by decide), hi 12 (by decide), hi 11 (by decide), hi 10 (by decide), hi 9 (by decide), hi 8 (by decide)]
