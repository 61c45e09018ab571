/-! Pure part 18: operands, the reference alone behind a fault. -/
def DT (p : Int32 × Int32) (S : qS) (o : Option qS) : Prop := ∃ T', o = some T' ∧ RR p S T'
theorem d502 {p : Int32 × Int32} {S : qS} (hf : ¬ S.1 7 = 0) {T : qS} (h : RR p S T) {k : Int32} (hk : inb k 3 = true) (y : Int32) : DT p S (fM_operand_502 T k y) := by
  unfold fM_operand_502
  rw [chk_t hk]
  exact ⟨_, rfl, RR_da h (by decide) _ _⟩
theorem d476 {p : Int32 × Int32} {S : qS} (hf : ¬ S.1 7 = 0) {T : qS} (h : RR p S T) {k : Int32} (hk : inb k 3 = true) (z a : Int32) : DT p S (fM_operand_476 T k z a) := by
  unfold fM_operand_476
  split
  · obtain ⟨v, T', h1, h2⟩ := dm_byte h hf a
    rw [bnd_e h1]; exact d502 hf h2 hk _
  · obtain ⟨v, T', h1, h2⟩ := dm_long h hf a
    rw [bnd_e h1]; exact d502 hf h2 hk _
theorem d458 {p : Int32 × Int32} {S : qS} (hf : ¬ S.1 7 = 0) {T : qS} (h : RR p S T) {k : Int32} (hk : inb k 3 = true) (x3 z a : Int32) : DT p S (fM_operand_458 T k x3 z a) := by
  have h7 := RR_da h (k := 7) (by decide) k a
  unfold fM_operand_458
  rw [chk_t hk]
  split
  · exact d476 hf h7 hk z a
  · split
    · exact ⟨_, rfl, h7⟩
    · exact d476 hf h7 hk z a
theorem d439 {p : Int32 × Int32} {S : qS} (hf : ¬ S.1 7 = 0) {T : qS} (h : RR p S T) {k : Int32} (hk : inb k 3 = true) {x6 : Int32} (h6 : x6 < 0 ∨ inb x6 16 = true) (x3 z a : Int32) : DT p S (fM_operand_439 T k x3 z x6 a) := by
  unfold fM_operand_439
  by_cases q : x6 < 0
  · rw [if_pos q]; exact d458 hf h hk _ _ _
  · rw [if_neg q, bnd_e (fM_get_eq T (h6.resolve_left q))]; exact d458 hf h hk _ _ _
theorem d431 {p : Int32 × Int32} {S : qS} (hf : ¬ S.1 7 = 0) {T : qS} (h : RR p S T) {k : Int32} (hk : inb k 3 = true) {x6 : Int32} (h6 : x6 < 0 ∨ inb x6 16 = true) (x3 z a : Int32) : DT p S (fM_operand_431 T k x3 z x6 a) := by
  unfold fM_operand_431
  obtain ⟨v, T', h1, h2⟩ := dm_long h hf a
  rw [bnd_e h1]; exact d439 hf h2 hk h6 _ _ _
theorem d410 {p : Int32 × Int32} {S : qS} (hf : ¬ S.1 7 = 0) {T : qS} (h : RR p S T) {k : Int32} (hk : inb k 3 = true) {x6 : Int32} (h6 : x6 < 0 ∨ inb x6 16 = true) (x3 z x7 a : Int32) : DT p S (fM_operand_410 T k x3 z x6 x7 a) := by
  unfold fM_operand_410
  split
  · exact d431 hf h hk h6 _ _ _
  · split
    · exact d431 hf h hk h6 _ _ _
    · split
      · exact d439 hf h hk h6 _ _ _
      · exact d431 hf h hk h6 _ _ _
theorem d397 {p : Int32 × Int32} {S : qS} (hf : ¬ S.1 7 = 0) {T : qS} (h : RR p S T) {k : Int32} (hk : inb k 3 = true) {x6 : Int32} (h6 : x6 < 0 ∨ inb x6 16 = true) {x8 : Int32} (h8 : inb x8 16 = true) (x3 z x7 y : Int32) : DT p S (fM_operand_397 T k x3 z x6 x7 x8 y) := by
  unfold fM_operand_397
  rw [bnd_e (fM_get_eq T h8)]; exact d410 hf h hk h6 _ _ _ _
theorem d345 {p : Int32 × Int32} {S : qS} (hf : ¬ S.1 7 = 0) {T : qS} (h : RR p S T) {k : Int32} (hk : inb k 3 = true) {x6 : Int32} (h6 : x6 < 0 ∨ inb x6 16 = true) {x8 : Int32} (h8 : inb x8 16 = true) (x3 z x7 a : Int32) : DT p S (fM_operand_345 T k x3 z x6 x7 x8 a) := by
  unfold fM_operand_345
  split
  · exact d410 hf h hk h6 _ _ _ _
  · split
    · obtain ⟨v1, T1, a1, a2, -⟩ := nx_f h hf
      obtain ⟨v2, T2, b1, b2, -⟩ := nx_f a2 hf
      obtain ⟨v3, T3, c1, c2, -⟩ := nx_f b2 hf
      obtain ⟨v4, T4, e1, e2, -⟩ := nx_f c2 hf
      rw [bnd_e a1, bnd_e b1, bnd_e c1, bnd_e e1]
      exact d397 hf e2 hk h6 h8 _ _ _ _
    · obtain ⟨v1, T1, a1, a2, -⟩ := nx_f h hf
      rw [bnd_e a1]
      exact d397 hf a2 hk h6 h8 _ _ _ _
theorem d328 {p : Int32 × Int32} {S : qS} (hf : ¬ S.1 7 = 0) {T : qS} (h : RR p S T) {k : Int32} (hk : inb k 3 = true) {x6 : Int32} (h6 : x6 < 0 ∨ inb x6 16 = true) {x8 : Int32} (h8 : inb x8 16 = true) (x3 z x7 a : Int32) : DT p S (fM_operand_328 T k x3 z x6 x7 x8 a) := by
  unfold fM_operand_328
  split
  · exact d345 hf h hk h6 h8 _ _ _ _
  · rw [bnd_e (fM_put_eq T _ h8)]; exact d345 hf (RR_pm h hf _ _) hk h6 h8 _ _ _ _
theorem d325 {p : Int32 × Int32} {S : qS} (hf : ¬ S.1 7 = 0) {T : qS} (h : RR p S T) {k : Int32} (hk : inb k 3 = true) {x6 : Int32} (h6 : x6 < 0 ∨ inb x6 16 = true) {x8 : Int32} (h8 : inb x8 16 = true) (x3 z x7 a y : Int32) : DT p S (fM_operand_325 T k x3 z x6 x7 x8 a x8 y) := by
  unfold fM_operand_325
  rw [bnd_e (fM_put_eq T _ h8)]; exact d328 hf (RR_pm h hf _ _) hk h6 h8 _ _ _ _
theorem d291 {p : Int32 × Int32} {S : qS} (hf : ¬ S.1 7 = 0) {T : qS} (h : RR p S T) {k : Int32} (hk : inb k 3 = true) {x6 : Int32} (h6 : x6 < 0 ∨ inb x6 16 = true) {x8 : Int32} (h8 : inb x8 16 = true) (x3 z x7 a : Int32) : DT p S (fM_operand_291 T k x3 z x6 x7 x8 a) := by
  have h305 : DT p S (fM_operand_305 T k x3 z x6 x7 x8 a) := by
    unfold fM_operand_305
    split
    · exact d325 hf h hk h6 h8 _ _ _ _ _
    · exact d325 hf h hk h6 h8 _ _ _ _ _
  unfold fM_operand_291
  split
  · exact h305
  · split
    · exact d328 hf h hk h6 h8 _ _ _ _
    · exact h305
theorem d275 {p : Int32 × Int32} {S : qS} (hf : ¬ S.1 7 = 0) {T : qS} (h : RR p S T) {k : Int32} (hk : inb k 3 = true) {x6 : Int32} (h6 : x6 < 0 ∨ inb x6 16 = true) {x8 : Int32} (h8 : inb x8 16 = true) (x3 z x7 y : Int32) : DT p S (fM_operand_275 T k x3 z x6 x7 x8 y) := by
  unfold fM_operand_275
  split
  · exact d291 hf h hk h6 h8 _ _ _ _
  · exact d291 hf h hk h6 h8 _ _ _ _
theorem d249 {p : Int32 × Int32} {S : qS} (hf : ¬ S.1 7 = 0) {T : qS} (h : RR p S T) {k : Int32} (hk : inb k 3 = true) {x6 : Int32} (h6 : x6 < 0 ∨ inb x6 16 = true) {x8 : Int32} (h8 : inb x8 16 = true) (x3 z x7 y : Int32) : DT p S (fM_operand_249 T k x3 z x6 x7 x8 k y) := by
  have h5 := RR_da h (k := 5) (by decide) k y
  unfold fM_operand_249
  rw [chk_t hk]
  split
  · split
    · exact d275 hf h5 hk h6 h8 _ _ _ _
    · rw [bnd_e (fM_get_eq _ h8)]; exact d275 hf h5 hk h6 h8 _ _ _ _
  · exact ⟨_, rfl, h5⟩
theorem d207 {p : Int32 × Int32} {S : qS} (hf : ¬ S.1 7 = 0) {T : qS} (h : RR p S T) {k : Int32} (hk : inb k 3 = true) {x6 : Int32} (h6 : x6 < 0 ∨ inb x6 16 = true) {x8 : Int32} (h8 : inb x8 16 = true) (x3 z x5 x7 y : Int32) : DT p S (fM_operand_207 T k x3 z x5 x6 x7 x8 k y) := by
  have h5 := RR_da h (k := 6) (by decide) k y
  unfold fM_operand_207
  rw [chk_t hk]
  split
  · split
    · rw [bnd_e (fM_get_eq _ h8)]; exact d249 hf h5 hk h6 h8 _ _ _ _
    · rw [bnd_e (fM_get_eq _ h8)]; exact d249 hf h5 hk h6 h8 _ _ _ _
  · exact d249 hf h5 hk h6 h8 _ _ _ _
theorem d179 {p : Int32 × Int32} {S : qS} (hf : ¬ S.1 7 = 0) {T : qS} (h : RR p S T) {k : Int32} (hk : inb k 3 = true) {x6 : Int32} (h6 : x6 < 0 ∨ inb x6 16 = true) {x8 : Int32} (h8 : inb x8 16 = true) (x3 z x5 x7 : Int32) : DT p S (fM_operand_179 T k x3 z x5 x6 x7 x8) := by
  unfold fM_operand_179
  split
  · split
    · exact d207 hf h hk h6 h8 _ _ _ _ _
    · exact d207 hf h hk h6 h8 _ _ _ _ _
  · exact d207 hf h hk h6 h8 _ _ _ _ _
theorem d172 {p : Int32 × Int32} {S : qS} (hf : ¬ S.1 7 = 0) {T : qS} (h : RR p S T) {k : Int32} (hk : inb k 3 = true) {x6 : Int32} (h6 : x6 < 0 ∨ inb x6 16 = true) {x8 : Int32} (h8 : inb x8 16 = true) (x3 z x5 x7 : Int32) : DT p S (fM_operand_172 T k x3 z x5 x6 x7 x8) := by
  unfold fM_operand_172
  rw [bnd_e (dm_wrong h hf _ _ _)]
  exact d179 hf h hk h6 h8 _ _ _ _
theorem d132 {p : Int32 × Int32} {S : qS} (hf : ¬ S.1 7 = 0) {T : qS} (h : RR p S T) {k : Int32} (hk : inb k 3 = true) {x6 : Int32} (h6 : x6 < 0 ∨ inb x6 16 = true) {x8 : Int32} (h8 : inb x8 16 = true) (x3 z x5 x7 : Int32) : DT p S (fM_operand_132 T k x3 z x5 x6 x7 x8) := by
  have a := d172 hf h hk h6 h8 x3 z x5 x7
  have b := d179 hf h hk h6 h8 x3 z x5 x7
  have c : DT p S (fM_operand_154 T k x3 z x5 x6 x7 x8) := by
    unfold fM_operand_154
    split
    · exact b
    · split
      · exact a
      · split
        · exact b
        · exact a
  have e : DT p S (fM_operand_143 T k x3 z x5 x6 x7 x8) := by
    unfold fM_operand_143
    split
    · exact c
    · split
      · exact a
      · exact c
  unfold fM_operand_132
  split
  · exact e
  · split
    · exact a
    · exact e
theorem d85 {p : Int32 × Int32} {S : qS} (hf : ¬ S.1 7 = 0) {T : qS} (h : RR p S T) {k : Int32} (hk : inb k 3 = true) {x6 : Int32} (h6 : x6 < 0 ∨ inb x6 16 = true) (x3 z x5 : Int32) : DT p S (fM_operand_85 T k x3 z x5 x6) := by
  have h8 := inb_15 x5
  have a := d172 hf h hk h6 h8 x3 z x5 (x5 >>> ((4 : Int32) &&& 31))
  have b := d132 hf h hk h6 h8 x3 z x5 (x5 >>> ((4 : Int32) &&& 31))
  unfold fM_operand_85
  split
  · exact a
  · split
    · exact a
    · split
      · exact b
      · split
        · exact b
        · split
          · exact a
          · exact b
theorem d57 {p : Int32 × Int32} {S : qS} (hf : ¬ S.1 7 = 0) {T : qS} (h : RR p S T) {k : Int32} (hk : inb k 3 = true) {x6 : Int32} (h6 : x6 < 0 ∨ inb x6 16 = true) (x3 z : Int32) : DT p S (fM_operand_57 T k x3 z x6) := by
  obtain ⟨v, T1, a1, a2, -⟩ := nx_f h hf
  have b := d85 hf a2 hk h6 x3 z v
  have c : DT p S (fM_operand_78 T1 k x3 z v x6) := by
    unfold fM_operand_78
    rw [bnd_e (dm_wrong a2 hf _ _ _)]
    exact b
  unfold fM_operand_57
  rw [bnd_e a1]
  dsimp only
  split
  · exact c
  · split
    · exact b
    · exact c
