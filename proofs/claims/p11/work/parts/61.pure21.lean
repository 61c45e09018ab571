/-! Pure part 21: operands. -/
theorem j143 {j : Nat} (hj : j < 256) : nI j = 143 ↔ (j / 16 = 8 ∧ j % 16 = 15) := by
  have : nI j = 143 ↔ j = 143 := nI_eqi (b := 143) (by omega) (by omega)
  rw [this]; omega
theorem m85_bad (T : qS) {j : Nat} (hj : j < 256) {x3 : Int32} (hb : bad (j / 16) (j % 16) x3) (h4 : ¬ j / 16 = 4) (k z x6 : Int32) : fM_operand_85 T k x3 z (nI j) x6 = fM_operand_172 T k x3 z (nI j) x6 (nI (j / 16)) (nI (j % 16)) := by
  obtain ⟨-, e1, e2⟩ := half hj
  have c143 := j143 hj
  have hmd : j / 16 < 16 := by omega
  have hn : j % 16 < 16 := by omega
  generalize j / 16 = md at *
  generalize j % 16 = n at *
  have c12 : nI md = 12 ↔ md = 12 := nI_eqi (b := 12) (by omega) (by omega)
  have c13 : nI md = 13 ↔ md = 13 := nI_eqi (b := 13) (by omega) (by omega)
  have c4 : nI md ≤ 4 ↔ md ≤ 4 := nI_lei (b := 4) (by omega) (by omega)
  have c4' : 4 ≤ nI md ↔ 4 ≤ md := nI_lei (a := 4) (by omega) (by omega)
  have c8 : 8 ≤ nI md ↔ 8 ≤ md := nI_lei (a := 8) (by omega) (by omega)
  have c5 : nI md = 5 ↔ md = 5 := nI_eqi (b := 5) (by omega) (by omega)
  have c15 : nI n = 15 ↔ n = 15 := nI_eqi (b := 15) (by omega) (by omega)
  unfold fM_operand_85
  rw [e1, e2]
  by_cases q12 : md = 12
  · rw [if_pos (c12.mpr q12)]
  · rw [if_neg (fun w => q12 (c12.mp w))]
    by_cases q13 : md = 13
    · rw [if_pos (c13.mpr q13)]
    · rw [if_neg (fun w => q13 (c13.mp w))]
      by_cases q4 : md ≤ 4
      · rw [if_pos (c4.mpr q4)]
        unfold fM_operand_132
        rcases hb with w | w | w | w | w | w
        · rw [if_neg (fun q => by have := c4'.mp q; omega), if_pos w.2]
        · omega
        · omega
        · omega
        · omega
        · omega
      · rw [if_neg (fun w => q4 (c4.mp w))]
        by_cases q8 : 8 ≤ md
        · rw [if_pos (c8.mpr q8)]
          rcases hb with w | w | w | w | w | w
          · omega
          · omega
          · omega
          · unfold fM_operand_132 fM_operand_143 fM_operand_154
            rw [if_pos (c4'.mpr (by omega)), if_pos (fun q => by have := c5.mp q; omega), if_neg (not_not_intro (c143.mpr ⟨w.1, w.2.1⟩))]
            rcases w.2.2 with e | e
            · rw [if_pos e]
            · rw [if_neg (by rw [e]; decide), if_neg (not_not_intro e)]
          · omega
          · omega
        · rw [if_neg (fun w => q8 (c8.mp w))]
          by_cases q15 : n = 15
          · rw [if_pos (c15.mpr q15)]
          · rw [if_neg (fun w => q15 (c15.mp w))]
            rcases hb with w | w | w | w | w | w
            · omega
            · omega
            · unfold fM_operand_132 fM_operand_143
              rw [if_pos (c4'.mpr (by omega)), if_neg (not_not_intro (c5.mpr w.1)), if_pos w.2]
            · omega
            · omega
            · omega
theorem m85_ok (T : qS) {j : Nat} (hj : j < 256) {x3 : Int32} (hb : ¬ bad (j / 16) (j % 16) x3) (h4 : ¬ j / 16 = 4) (k z x6 : Int32) : fM_operand_85 T k x3 z (nI j) x6 = fM_operand_179 T k x3 z (nI j) x6 (nI (j / 16)) (nI (j % 16)) := by
  obtain ⟨-, e1, e2⟩ := half hj
  have c143 := j143 hj
  have hmd : j / 16 < 16 := by omega
  have hn : j % 16 < 16 := by omega
  generalize j / 16 = md at *
  generalize j % 16 = n at *
  have c12 : nI md = 12 ↔ md = 12 := nI_eqi (b := 12) (by omega) (by omega)
  have c13 : nI md = 13 ↔ md = 13 := nI_eqi (b := 13) (by omega) (by omega)
  have c4 : nI md ≤ 4 ↔ md ≤ 4 := nI_lei (b := 4) (by omega) (by omega)
  have c4' : 4 ≤ nI md ↔ 4 ≤ md := nI_lei (a := 4) (by omega) (by omega)
  have c8 : 8 ≤ nI md ↔ 8 ≤ md := nI_lei (a := 8) (by omega) (by omega)
  have c5 : nI md = 5 ↔ md = 5 := nI_eqi (b := 5) (by omega) (by omega)
  have c15 : nI n = 15 ↔ n = 15 := nI_eqi (b := 15) (by omega) (by omega)
  have b1 : ¬ (md < 4 ∧ ¬ x3 = 1) := fun w => hb (Or.inl w)
  have b2 : ¬ (4 ≤ md ∧ md ≤ 7 ∧ n = 15) := fun w => hb (Or.inr (Or.inl w))
  have b3 : ¬ (md = 5 ∧ x3 = 4) := fun w => hb (Or.inr (Or.inr (Or.inl w)))
  have b4 : ¬ (md = 8 ∧ n = 15 ∧ (x3 = 2 ∨ x3 = 3)) := fun w => hb (Or.inr (Or.inr (Or.inr (Or.inl w))))
  have b5 : ¬ md = 12 := fun w => hb (Or.inr (Or.inr (Or.inr (Or.inr (Or.inl w)))))
  have b6 : ¬ md = 13 := fun w => hb (Or.inr (Or.inr (Or.inr (Or.inr (Or.inr w)))))
  have e154 : fM_operand_154 T k x3 z (nI j) x6 (nI md) (nI n) = fM_operand_179 T k x3 z (nI j) x6 (nI md) (nI n) := by
    unfold fM_operand_154
    by_cases q : nI j = 143
    · have w := c143.mp q
      rw [if_neg (not_not_intro q), if_neg (fun e => b4 ⟨w.1, w.2, Or.inl e⟩), if_pos (fun e => b4 ⟨w.1, w.2, Or.inr e⟩)]
    · rw [if_pos q]
  have e143 : fM_operand_143 T k x3 z (nI j) x6 (nI md) (nI n) = fM_operand_179 T k x3 z (nI j) x6 (nI md) (nI n) := by
    unfold fM_operand_143
    by_cases q : md = 5
    · rw [if_neg (not_not_intro (c5.mpr q)), if_neg (fun e => b3 ⟨q, e⟩), e154]
    · rw [if_pos (fun e => q (c5.mp e)), e154]
  have e132 : fM_operand_132 T k x3 z (nI j) x6 (nI md) (nI n) = fM_operand_179 T k x3 z (nI j) x6 (nI md) (nI n) := by
    unfold fM_operand_132
    by_cases q : 4 ≤ md
    · rw [if_pos (c4'.mpr q), e143]
    · rw [if_neg (fun w => q (c4'.mp w)), if_neg (fun w => b1 ⟨by omega, w⟩), e143]
  unfold fM_operand_85
  rw [e1, e2, if_neg (fun w => b5 (c12.mp w)), if_neg (fun w => b6 (c13.mp w)), e132]
  by_cases q4 : md ≤ 4
  · rw [if_pos (c4.mpr q4)]
  · rw [if_neg (fun w => q4 (c4.mp w))]
    by_cases q8 : 8 ≤ md
    · rw [if_pos (c8.mpr q8)]
    · rw [if_neg (fun w => q8 (c8.mp w)), if_neg (fun w => b2 ⟨by omega, by omega, c15.mp w⟩)]
/-- the reference's way of an address -/
theorem m179_way (T : qS) {md n : Nat} (hw : way md) (hn : n < 16) {k : Int32} (hk : inb k 3 = true) (x3 z x5 x6 : Int32) : ∃ v, fM_operand_179 T k x3 z x5 x6 (nI md) (nI n) = mAd (pA (pA T 6 k 16) 5 k v) k x3 z x6 (nI md) (nI n) := by
  have hi : inb (nI n) 16 = true := inb_nI hn (by decide)
  have hmd : 6 ≤ md ∧ md < 16 := by unfold way at hw; omega
  have c4 : 4 ≤ nI md := (nI_lei (a := 4) (by omega) (by omega)).mpr (by omega)
  have c6 : 6 ≤ nI md := (nI_lei (a := 6) (by omega) (by omega)).mpr (by omega)
  have c5 : ¬ nI md = 5 := fun w => by
    have := (nI_eqi (b := 5) (by omega) (by omega)).mp w
    omega
  have e249 : ∀ v, fM_operand_249 (pA T 6 k 16) k x3 z x6 (nI md) (nI n) k v = mAd (pA (pA T 6 k 16) 5 k v) k x3 z x6 (nI md) (nI n) := fun v => by
    unfold fM_operand_249 mAd
    rw [chk_t hk, if_pos c6]
  unfold fM_operand_179 fM_operand_207
  rw [if_pos c4, if_pos c5, chk_t hk, if_pos c4]
  by_cases q : z = 4
  · rw [if_neg (not_not_intro q), bnd_e (fM_get_eq _ hi)]
    exact ⟨_, e249 _⟩
  · rw [if_pos q, bnd_e (fM_get_eq _ hi)]
    exact ⟨_, e249 _⟩
theorem f198 {p : Int32 × Int32} {S T : qS} (h : RR p S T) (hf : S.1 7 = 0) {k : Nat} (hk : k < 3) {c x3 z : Int32} (hc : kd c x3 z) (hz : S.1 (11 + 4 * k) = z) {j : Nat} (hj : j < 256) (hw : way (j / 16)) {x4 x5 x6 : Int32} (hx : (¬ x4 = 4 ∧ x6 = -1) ∨ (x4 = 4 ∧ x6 = x5 ∧ inb x5 16 = true)) : ∃ S' T', fSp_find_198 S k c x4 x5 (nI j) = some S' ∧ mAd T (nI k) x3 z x6 (nI (j / 16)) (nI (j % 16)) = some T' ∧ RR p S' T' ∧ KCk k S S' ∧ KMk k T T' ∧ S'.1 (11 + 4 * k) = z ∧ S'.1 (12 + 4 * k) = S.1 (12 + 4 * k) ∧ T'.2 6 k = T.2 6 k ∧ (S'.1 7 = 0 → T'.2 7 k = S'.1 (13 + 4 * k)) ∧ (S'.1 7 = 0 → (x3 = 1 ∨ x3 = 3) → T'.2 5 k = S'.1 (14 + 4 * k) ∧ (z = 1 → ∃ j : Nat, j < 256 ∧ T'.2 5 k = nI j)) := by
  obtain ⟨e1, -, e2⟩ := half hj
  obtain ⟨a, a', S1, T1, g1, g2, g3, g4, g5, g6⟩ := AD h hf hw (show j % 16 < 16 by omega) (nI k) x3 z x6
  have h2 : RR p (pI S1 (13 + 4 * k) a) T1 := RR_c g3 (Or.inr (Or.inl (by omega))) a
  have z2 : (pI S1 (13 + 4 * k) a).1 (11 + 4 * k) = z := by rw [pI_o _ _ (by omega), g5 _ (by omega)]; exact hz
  have f2 : (pI S1 (13 + 4 * k) a).1 7 = S1.1 7 := pI_o _ _ (by omega)
  have k2 : KCk k S (pI S1 (13 + 4 * k) a) := KCk_t (KCk_c g5) (KCk_p _ _ (by omega) (by omega))
  have o2 : (pI S1 (13 + 4 * k) a).1 (12 + 4 * k) = S.1 (12 + 4 * k) := by rw [pI_o _ _ (by omega), g5 _ (by omega)]
  have w2 : T1.2 6 k = T.2 6 k := by rw [g6.1 6 (by decide) (by decide)]
  unfold fSp_find_198
  rw [e1, e2, hz, bnd_e g1, g2]
  dsimp only
  unfold fM_operand_439
  rcases hx with ⟨hx, rfl⟩ | ⟨hx, rfl, hin⟩
  · rw [if_pos hx, if_pos (by decide)]
    obtain ⟨S', T', r1, r2, r3, r4, r5, r6, r7, r8, r9, r10⟩ := f248 h2 hk hc z2 (a' := a') (fun q => by rw [pI_s]; exact g4 (by rw [← f2]; exact q))
    refine ⟨S', T', r1, r2, r3, KCk_t k2 r4, KMk_t (KMk_m g6) r5, by rw [r6 _ (Or.inl rfl)]; exact z2, by rw [r6 _ (Or.inr (Or.inl rfl))]; exact o2, r7.trans w2, fun q => ?_, r9⟩
    rw [r6 _ (Or.inr (Or.inr rfl)), r8, pI_s]
    exact g4 (by rw [← f2]; exact r10 q)
  · rw [if_neg (not_not_intro hx), if_neg (nlt_le.mpr (inb_0 hin)), bnd_e (fCo_get_eq _ _), bnd_e (fM_get_eq T1 hin)]
    dsimp only
    rw [z2, pI_s]
    have h3 : RR p (pI (pI S1 (13 + 4 * k) a) (13 + 4 * k) (a + z * cGet (pI S1 (13 + 4 * k) a) x6)) T1 := RR_c h2 (Or.inr (Or.inl (by omega))) _
    have ha3 : (pI (pI S1 (13 + 4 * k) a) (13 + 4 * k) (a + z * cGet (pI S1 (13 + 4 * k) a) x6)).1 7 = 0 → a' + z * mGet T1 x6 = (pI (pI S1 (13 + 4 * k) a) (13 + 4 * k) (a + z * cGet (pI S1 (13 + 4 * k) a) x6)).1 (13 + 4 * k) := fun q => by
      rw [pI_o _ _ (by omega)] at q
      rw [pI_s, RR_get h2 hin q, g4 (by rw [← f2]; exact q)]
    obtain ⟨S', T', r1, r2, r3, r4, r5, r6, r7, r8, r9, r10⟩ := f248 h3 hk hc (by rw [pI_o _ _ (by omega)]; exact z2) ha3
    refine ⟨S', T', r1, r2, r3, KCk_t k2 (KCk_t (KCk_p _ _ (by omega) (by omega)) r4), KMk_t (KMk_m g6) r5, by rw [r6 _ (Or.inl rfl), pI_o _ _ (by omega)]; exact z2, by rw [r6 _ (Or.inr (Or.inl rfl)), pI_o _ _ (by omega)]; exact o2, r7.trans w2, fun q => ?_, r9⟩
    rw [r6 _ (Or.inr (Or.inr rfl)), r8]
    exact ha3 (r10 q)
/-- what is known of an operand -/
def OW (k : Nat) (S T : qS) : Prop := (S.1 (12 + 4 * k) = -1 ∧ T.2 6 k = 16 ∧ T.2 7 k = S.1 (13 + 4 * k)) ∨ (inb (S.1 (12 + 4 * k)) 16 = true ∧ T.2 6 k = S.1 (12 + 4 * k))
def OF (k : Nat) (x3 z : Int32) (S T : qS) : Prop := S.1 (11 + 4 * k) = z ∧ ((x3 = 1 ∨ x3 = 3) → T.2 5 k = S.1 (14 + 4 * k) ∧ (z = 1 → ∃ j : Nat, j < 256 ∧ T.2 5 k = nI j)) ∧ ((x3 = 2 ∨ x3 = 3) → OW k S T) ∧ (x3 = 4 → T.2 7 k = S.1 (13 + 4 * k))
/-- the class refuses -/
theorem refuse3 {p : Int32 × Int32} {S T : qS} (h : RR p S T) (hf : S.1 7 = 0) : fCo_raise S 3 = some (pI S 7 3) ∧ ∃ T', fM_wrong T 3 0 0 = some T' ∧ RR p (pI S 7 3) T' ∧ ¬ (pI S 7 3).1 7 = 0 := by
  refine ⟨?_, _, fM_wrong_eq ((RR_f h).trans hf) 3 0 0, RR_fr h (by decide) (by decide) ⟨by decide, by decide⟩, ?_⟩
  · unfold fCo_raise
    rw [if_neg (not_not_intro hf)]; rfl
  · show ¬ (3 : Int32) = 0
    decide
theorem way_of {md n : Nat} {x3 : Int32} (h : md < 16) (hb : ¬ bad md n x3) (h6 : 6 ≤ md) : way md := by
  have b5 : ¬ md = 12 := fun w => hb (Or.inr (Or.inr (Or.inr (Or.inr (Or.inl w)))))
  have b6 : ¬ md = 13 := fun w => hb (Or.inr (Or.inr (Or.inr (Or.inr (Or.inr w)))))
  unfold way; omega
