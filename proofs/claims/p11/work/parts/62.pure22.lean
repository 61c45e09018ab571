/-! Pure part 22: operands, whole. -/
theorem way_OF {p : Int32 × Int32} {S T : qS} (h : RR p S T) (hf : S.1 7 = 0) {k : Nat} (hk : k < 3) {c x3 z : Int32} (hc : kd c x3 z) (hz : S.1 (11 + 4 * k) = z) (ho : S.1 (12 + 4 * k) = -1) {j : Nat} (hj : j < 256) (hw : way (j / 16)) {x4 x5 x6 : Int32} (hx : (¬ x4 = 4 ∧ x6 = -1) ∨ (x4 = 4 ∧ x6 = x5 ∧ inb x5 16 = true)) (x5' : Int32) : ∃ S' T', fSp_find_198 S k c x4 x5 (nI j) = some S' ∧ fM_operand_179 T (nI k) x3 z x5' x6 (nI (j / 16)) (nI (j % 16)) = some T' ∧ RR p S' T' ∧ (S'.1 7 = 0 → KCk k S S' ∧ KMk k T T' ∧ OF k x3 z S' T') := by
  obtain ⟨v, e⟩ := m179_way T hw (show j % 16 < 16 by omega) (ik3 hk) x3 z x5' x6
  have h2 : RR p S (pA (pA T 6 (nI k) 16) 5 (nI k) v) := RR_da (RR_da h (by decide) _ _) (by decide) _ _
  obtain ⟨S', T', g1, g2, g3, g4, g5, g6, g7, g8, g9, g10⟩ := f198 h2 hf hk hc hz hj hw hx
  refine ⟨S', T', g1, by rw [e]; exact g2, g3, fun q => ⟨g4, KMk_t (KMk_t (KMk_a _ _ _ hk) (KMk_a _ _ _ hk)) g5, g6, g10 q, fun _ => Or.inl ⟨by rw [g7]; exact ho, ?_, g9 q⟩, fun _ => g9 q⟩⟩
  rw [g8, pA_o _ _ _ (by decide), pA_s _ _ _ (by omega)]
theorem RR_operand {p : Int32 × Int32} {S T : qS} (h : RR p S T) (hf : S.1 7 = 0) {k : Nat} (hk : k < 3) {c x3 z : Int32} (hc : kd c x3 z) : ∃ S' T', fSp_find_17 (pI S (12 + 4 * k) (-1)) k c k z = some S' ∧ fM_operand_17 T (nI k) x3 z = some T' ∧ RR p S' T' ∧ (S'.1 7 = 0 → KCk k S S' ∧ KMk k T T' ∧ OF k x3 z S' T') := by
  have hi := ik3 hk
  have hc100 : ¬ c = 100 := by rcases hc with ⟨rfl, -⟩ | ⟨rfl, -⟩ | ⟨rfl, -⟩ | ⟨rfl, -⟩ | ⟨rfl, -⟩ | ⟨rfl, -⟩ | ⟨rfl, -⟩ <;> decide
  have h1 : RR p (pI (pI S (12 + 4 * k) (-1)) (11 + 4 * k) z) T := RR_c (RR_c h (Or.inr (Or.inl (by omega))) _) (Or.inr (Or.inl (by omega))) _
  have hf1 : (pI (pI S (12 + 4 * k) (-1)) (11 + 4 * k) z).1 7 = 0 := by rw [pI_o _ _ (by omega), pI_o _ _ (by omega)]; exact hf
  have z1 : (pI (pI S (12 + 4 * k) (-1)) (11 + 4 * k) z).1 (11 + 4 * k) = z := pI_s _ _ _
  have o1 : (pI (pI S (12 + 4 * k) (-1)) (11 + 4 * k) z).1 (12 + 4 * k) = -1 := by rw [pI_o _ _ (by omega), pI_s]
  have k1 : KCk k S (pI (pI S (12 + 4 * k) (-1)) (11 + 4 * k) z) := KCk_t (KCk_p _ _ (by omega) (by omega)) (KCk_p _ _ (by omega) (by omega))
  obtain ⟨j, v, S2, T2, hj, g1, g2, g3, g4, g5, g6, g7⟩ := RR_nextb h1 hf1
  have z2 : S2.1 (11 + 4 * k) = z := by rw [g6 _ (by omega)]; exact z1
  have o2 : S2.1 (12 + 4 * k) = -1 := by rw [g6 _ (by omega)]; exact o1
  have k2 : KCk k S S2 := KCk_t k1 (KCk_c g6)
  obtain ⟨e1, e2, e3⟩ := half hj
  have hmd : j / 16 < 16 := by omega
  have hn : j % 16 < 16 := by omega
  have c4e : nI (j / 16) = 4 ↔ j / 16 = 4 := nI_eqi (b := 4) (by omega) (by omega)
  have c5e : nI (j / 16) = 5 ↔ j / 16 = 5 := nI_eqi (b := 5) (by omega) (by omega)
  have c4l : 4 ≤ nI (j / 16) ↔ 4 ≤ j / 16 := nI_lei (a := 4) (by omega) (by omega)
  have c6l : 6 ≤ nI (j / 16) ↔ 6 ≤ j / 16 := nI_lei (a := 6) (by omega) (by omega)
  have c15 : nI (j % 16) = 15 ↔ j % 16 = 15 := nI_eqi (b := 15) (by omega) (by omega)
  have i16 : inb (nI (j % 16)) 16 = true := inb_nI hn (by decide)
  unfold fSp_find_17 fM_operand_17
  rw [if_pos hc100, bnd_e g1, bnd_e g2]
  dsimp only
  rw [e2, e3]
  by_cases hf2 : S2.1 7 = 0
  · have ev := g4 hf2
    subst ev
    rw [e1, e3]
    obtain ⟨r, s1, s2⟩ := suits_eq S2 hmd hn hc
    rw [bnd_e s1]
    dsimp only
    rcases s2 with ⟨rfl, hb⟩ | ⟨rfl, hb⟩
    · obtain ⟨w1, T3, w2, w3, w4⟩ := refuse3 g3 hf2
      rw [if_neg (by decide), bnd_e w1]
      have main : DT p (pI S2 7 3) (if ¬ nI (j / 16) = 4 then fM_operand_85 T2 (nI k) x3 z (nI j) (-1) else if ¬ nI (j % 16) = 15 then fM_operand_57 T2 (nI k) x3 z (nI (j % 16)) else (fM_wrong T2 3 0 0).bind fun S4 => fM_operand_57 S4 (nI k) x3 z (nI (j % 16))) := by
        by_cases q4 : j / 16 = 4
        · have q15 : j % 16 = 15 := by
            rcases hb with w | w | w | w | w | w <;> omega
          rw [if_neg (not_not_intro (c4e.mpr q4)), if_neg (not_not_intro (c15.mpr q15)), bnd_e w2]
          exact d57 w4 w3 hi (Or.inr i16) _ _
        · rw [if_pos (fun w => q4 (c4e.mp w)), m85_bad T2 hj hb q4]
          unfold fM_operand_172
          rw [bnd_e w2]
          exact d179 w4 w3 hi (Or.inl (by decide)) i16 _ _ _ _
      obtain ⟨T', m1, m2⟩ := main
      exact ⟨pI S2 7 3, T', rfl, m1, m2, fun q => absurd q w4⟩
    · rw [if_pos (by decide)]
      by_cases q4 : 4 ≤ j / 16
      · rw [if_pos (c4l.mpr q4)]
        by_cases q5 : j / 16 = 5
        · -- a register
          have b3 : ¬ x3 = 4 := fun w => hb (Or.inr (Or.inr (Or.inl ⟨q5, w⟩)))
          rw [if_neg (not_not_intro (c5e.mpr q5)), if_pos (show ¬ nI (j / 16) = 4 from fun w => by have := c4e.mp w; omega), m85_ok T2 hj hb (by omega)]
          unfold fM_operand_179 fM_operand_207
          rw [if_pos (c4l.mpr q4), if_neg (not_not_intro (c5e.mpr q5)), chk_t hi, if_pos (c4l.mpr q4)]
          have z3 : (pI S2 (12 + 4 * k) (nI (j % 16))).1 (11 + 4 * k) = z := by rw [pI_o _ _ (by omega)]; exact z2
          have h3 : RR p (pI S2 (12 + 4 * k) (nI (j % 16))) (pA T2 6 (nI k) (nI (j % 16))) := RR_c (RR_da g3 (by decide) _ _) (Or.inr (Or.inl (by omega))) _
          have f3 : (pI S2 (12 + 4 * k) (nI (j % 16))).1 7 = 0 := by rw [pI_o _ _ (by omega)]; exact hf2
          have hg := RR_get h3 i16 f3
          have fin : ∀ v : Int32, (z = 1 → ∃ j : Nat, j < 256 ∧ v = nI j) → ∃ T', fM_operand_249 (pA T2 6 (nI k) (nI (j % 16))) (nI k) x3 z (-1) (nI (j / 16)) (nI (j % 16)) (nI k) v = some T' ∧ RR p (pI (pI S2 (12 + 4 * k) (nI (j % 16))) (14 + 4 * k) v) T' ∧ ((pI (pI S2 (12 + 4 * k) (nI (j % 16))) (14 + 4 * k) v).1 7 = 0 → KCk k S (pI (pI S2 (12 + 4 * k) (nI (j % 16))) (14 + 4 * k) v) ∧ KMk k T T' ∧ OF k x3 z (pI (pI S2 (12 + 4 * k) (nI (j % 16))) (14 + 4 * k) v) T') := fun v hv => by
            refine ⟨pA (pA T2 6 (nI k) (nI (j % 16))) 5 (nI k) v, ?_, RR_c (RR_da h3 (by decide) _ _) (Or.inr (Or.inl (by omega))) _, fun _ => ⟨KCk_t k2 (KCk_t (KCk_p _ _ (by omega) (by omega)) (KCk_p _ _ (by omega) (by omega))), KMk_t (KMk_m g7) (KMk_t (KMk_a _ _ _ hk) (KMk_a _ _ _ hk)), ?_, fun _ => ?_, fun _ => Or.inr ⟨?_, ?_⟩, fun w => absurd w b3⟩⟩
            · unfold fM_operand_249
              rw [chk_t hi, if_neg (fun w => by have := c6l.mp w; omega)]
            · rw [pI_o _ _ (by omega)]; exact z3
            · rw [pA_s _ _ _ (by omega), pI_s]; exact ⟨rfl, hv⟩
            · rw [pI_o _ _ (by omega), pI_s]; exact i16
            · rw [pA_o _ _ _ (by decide), pA_s _ _ _ (by omega), pI_o _ _ (by omega), pI_s]
          rw [z3]
          rcases kd_z hc with rfl | rfl
          · rw [if_neg (by decide), if_pos (by decide), bnd_e (fCo_get_eq _ _), bnd_e (fM_get_eq _ i16), hg]
            obtain ⟨T', m1, m2, m3⟩ := fin (cGet (pI S2 (12 + 4 * k) (nI (j % 16))) (nI (j % 16)) &&& 255) (fun _ => pk_andE _ (m := 255) 8 (by decide))
            exact ⟨_, T', rfl, m1, m2, m3⟩
          · rw [if_pos (by decide), if_neg (by decide), bnd_e (fCo_get_eq _ _), bnd_e (fM_get_eq _ i16), hg]
            obtain ⟨T', m1, m2, m3⟩ := fin (cGet (pI S2 (12 + 4 * k) (nI (j % 16))) (nI (j % 16))) (fun w => absurd w (by decide))
            exact ⟨_, T', rfl, m1, m2, m3⟩
        · rw [if_pos (fun w => q5 (c5e.mp w))]
          by_cases q44 : j / 16 = 4
          · -- indexed
            have n15 : ¬ j % 16 = 15 := fun w => hb (Or.inr (Or.inl ⟨by omega, by omega, w⟩))
            rw [if_neg (not_not_intro (c4e.mpr q44)), if_neg (not_not_intro (c4e.mpr q44)), if_pos (fun w => n15 (c15.mp w))]
            obtain ⟨i, v, S3, T3, hi2, a1, a2, a3, a4, a5, a6, a7⟩ := RR_nextb g3 hf2
            obtain ⟨u1, u2, u3⟩ := half hi2
            have imd : i / 16 < 16 := by omega
            have in_ : i % 16 < 16 := by omega
            have j16 : inb (nI (i % 16)) 16 = true := inb_nI in_ (by decide)
            have c96 : nI i < 96 ↔ i < 96 := nI_lti (b := 96) (by omega) (by omega)
            have c143 := j143 hi2
            rw [bnd_e a1]
            unfold fSp_find_166 fM_operand_57
            rw [if_neg (not_not_intro (c4e.mpr q44)), bnd_e a2]
            dsimp only
            by_cases hf3 : S3.1 7 = 0
            · have ev := a4 hf3
              subst ev
              rw [u1, u3]
              obtain ⟨r, t1, t2⟩ := suitsx_eq S3 imd in_
              rw [bnd_e t1]
              dsimp only
              rcases t2 with ⟨rfl, hbx⟩ | ⟨rfl, hbx⟩
              · obtain ⟨w1, T4, w2, w3, w4⟩ := refuse3 a3 hf3
                rw [if_neg (by decide), bnd_e w1]
                have e78 : DT p (pI S3 7 3) (fM_operand_78 T3 (nI k) x3 z (nI i) (nI (j % 16))) := by
                  unfold fM_operand_78
                  rw [bnd_e w2]
                  exact d85 w4 w3 hi (Or.inr i16) _ _ _
                have main : DT p (pI S3 7 3) (if nI i < 96 then fM_operand_78 T3 (nI k) x3 z (nI i) (nI (j % 16)) else if ¬ nI i = 143 then fM_operand_85 T3 (nI k) x3 z (nI i) (nI (j % 16)) else fM_operand_78 T3 (nI k) x3 z (nI i) (nI (j % 16))) := by
                  by_cases q96 : i < 96
                  · rw [if_pos (c96.mpr q96)]; exact e78
                  · rw [if_neg (fun w => q96 (c96.mp w))]
                    by_cases q143 : nI i = 143
                    · rw [if_neg (not_not_intro q143)]; exact e78
                    · have n143 : ¬ (i / 16 = 8 ∧ i % 16 = 15) := fun w => q143 (c143.mpr w)
                      have hb2 : bad (i / 16) (i % 16) x3 := by
                        unfold badx at hbx
                        have : (6 ≤ i / 16 ∧ i / 16 ≤ 7 ∧ i % 16 = 15) ∨ i / 16 = 12 ∨ i / 16 = 13 := by omega
                        rcases this with w | w | w
                        · exact Or.inr (Or.inl ⟨by omega, w.2.1, w.2.2⟩)
                        · exact Or.inr (Or.inr (Or.inr (Or.inr (Or.inl w))))
                        · exact Or.inr (Or.inr (Or.inr (Or.inr (Or.inr w))))
                      rw [if_pos q143, m85_bad T3 hi2 hb2 (by omega)]
                      unfold fM_operand_172
                      rw [bnd_e w2]
                      exact d179 w4 w3 hi (Or.inr i16) j16 _ _ _ _
                obtain ⟨T', m1, m2⟩ := main
                exact ⟨pI S3 7 3, T', rfl, m1, m2, fun q => absurd q w4⟩
              · have hnx : ¬ (i / 16 < 6) ∧ ¬ i / 16 = 12 ∧ ¬ i / 16 = 13 ∧ ¬ (i / 16 ≤ 8 ∧ i % 16 = 15) := by
                  unfold badx at hbx; omega
                have hw : way (i / 16) := by unfold way; omega
                have hb2 : ¬ bad (i / 16) (i % 16) x3 := fun w => by
                  rcases w with w | w | w | w | w | w <;> omega
                rw [if_pos (by decide), if_neg (fun w => by have := c96.mp w; omega), if_pos (fun w => by have := c143.mp w; omega), m85_ok T3 hi2 hb2 (by omega)]
                obtain ⟨S', T', m1, m2, m3, m4⟩ := way_OF a3 hf3 hk hc (by rw [a6 _ (by omega)]; exact z2) (by rw [a6 _ (by omega)]; exact o2) hi2 hw (x4 := nI (j / 16)) (x5 := nI (j % 16)) (x6 := nI (j % 16)) (Or.inr ⟨c4e.mpr q44, rfl, i16⟩) (nI i)
                refine ⟨S', T', m1, m2, m3, fun q => ?_⟩
                obtain ⟨n1, n2, n3⟩ := m4 q
                exact ⟨KCk_t k2 (KCk_t (KCk_c a6) n1), KMk_t (KMk_m g7) (KMk_t (KMk_m a7) n2), n3⟩
            · have ev : v = nI 0 := a5 hf3
              subst ev
              obtain ⟨y1, -, y3⟩ := half (j := 0) (by decide)
              rw [y1, y3]
              obtain ⟨r, t1, t2⟩ := suitsx_eq S3 (md := 0 / 16) (n := 0 % 16) (by decide) (by decide)
              rw [bnd_e t1]
              dsimp only
              have e85 : DT p S3 (fM_operand_85 T3 (nI k) x3 z (nI i) (nI (j % 16))) := d85 hf3 a3 hi (Or.inr i16) _ _ _
              have e78 : DT p S3 (fM_operand_78 T3 (nI k) x3 z (nI i) (nI (j % 16))) := by
                unfold fM_operand_78
                rw [bnd_e (dm_wrong a3 hf3 _ _ _)]
                exact e85
              have main : DT p S3 (if nI i < 96 then fM_operand_78 T3 (nI k) x3 z (nI i) (nI (j % 16)) else if ¬ nI i = 143 then fM_operand_85 T3 (nI k) x3 z (nI i) (nI (j % 16)) else fM_operand_78 T3 (nI k) x3 z (nI i) (nI (j % 16))) := by
                by_cases q96 : nI i < 96
                · rw [if_pos q96]; exact e78
                · rw [if_neg q96]
                  by_cases q143 : nI i = 143
                  · rw [if_neg (not_not_intro q143)]; exact e78
                  · rw [if_pos q143]; exact e85
              obtain ⟨T', m1, m2⟩ := main
              rcases t2 with ⟨rfl, -⟩ | ⟨rfl, hbx⟩
              · rw [if_neg (by decide), bnd_e (dc_raise hf3 3)]
                exact ⟨S3, T', rfl, m1, m2, fun q => absurd q hf3⟩
              · exact absurd (Or.inl (by decide)) hbx
          · have hw : way (j / 16) := way_of hmd hb (by omega)
            rw [if_pos (fun w => q44 (c4e.mp w)), if_pos (fun w => q44 (c4e.mp w)), m85_ok T2 hj hb q44]
            unfold fSp_find_166
            rw [if_pos (fun w => q44 (c4e.mp w))]
            obtain ⟨S', T', m1, m2, m3, m4⟩ := way_OF g3 hf2 hk hc z2 o2 hj hw (x4 := nI (j / 16)) (x5 := nI (j % 16)) (x6 := -1) (Or.inl ⟨fun w => q44 (c4e.mp w), rfl⟩) (nI j)
            refine ⟨S', T', m1, m2, m3, fun q => ?_⟩
            obtain ⟨n1, n2, n3⟩ := m4 q
            exact ⟨KCk_t k2 n1, KMk_t (KMk_m g7) n2, n3⟩
      · -- a literal
        have b1 : x3 = 1 := Classical.byContradiction fun w => hb (Or.inl ⟨by omega, w⟩)
        rw [if_neg (fun w => q4 (c4l.mp w)), if_pos (fun w => by have := c4e.mp w; omega), m85_ok T2 hj hb (by omega)]
        unfold fM_operand_179 fM_operand_207
        rw [if_neg (fun w => q4 (c4l.mp w)), chk_t hi, if_neg (fun w => q4 (c4l.mp w))]
        unfold fM_operand_249
        rw [chk_t hi, if_neg (fun w => by have := c6l.mp w; omega)]
        refine ⟨_, _, rfl, rfl, RR_c (RR_da (RR_da g3 (by decide) _ _) (by decide) _ _) (Or.inr (Or.inl (by omega))) _, fun _ => ⟨KCk_t k2 (KCk_p _ _ (by omega) (by omega)), KMk_t (KMk_m g7) (KMk_t (KMk_a _ _ _ hk) (KMk_a _ _ _ hk)), ?_, fun _ => ?_, fun w => ?_, fun w => ?_⟩⟩
        · rw [pI_o _ _ (by omega)]; exact z2
        · rw [pA_s _ _ _ (by omega), pI_s]; exact ⟨rfl, fun _ => ⟨j, hj, rfl⟩⟩
        · rw [b1] at w; exact absurd w (by decide)
        · rw [b1] at w; exact absurd w (by decide)
  · have ev : v = nI 0 := g5 hf2
    subst ev
    obtain ⟨y1, -, y3⟩ := half (j := 0) (by decide)
    rw [y1, y3]
    have main : DT p S2 (if ¬ nI (j / 16) = 4 then fM_operand_85 T2 (nI k) x3 z (nI j) (-1) else if ¬ nI (j % 16) = 15 then fM_operand_57 T2 (nI k) x3 z (nI (j % 16)) else (fM_wrong T2 3 0 0).bind fun S4 => fM_operand_57 S4 (nI k) x3 z (nI (j % 16))) := by
      by_cases q4 : nI (j / 16) = 4
      · rw [if_neg (not_not_intro q4)]
        by_cases q15 : nI (j % 16) = 15
        · rw [if_neg (not_not_intro q15), bnd_e (dm_wrong g3 hf2 _ _ _)]
          exact d57 hf2 g3 hi (Or.inr i16) _ _
        · rw [if_pos q15]
          exact d57 hf2 g3 hi (Or.inr i16) _ _
      · rw [if_pos q4]
        exact d85 hf2 g3 hi (Or.inl (by decide)) _ _ _
    obtain ⟨T', m1, m2⟩ := main
    obtain ⟨r, s1, s2⟩ := suits_eq S2 (md := 0 / 16) (n := 0 % 16) (by decide) (by decide) hc
    rw [bnd_e s1]
    dsimp only
    rcases s2 with ⟨rfl, -⟩ | ⟨rfl, -⟩
    · rw [if_neg (by decide), bnd_e (dc_raise hf2 3)]
      exact ⟨S2, T', rfl, m1, m2, fun q => absurd q hf2⟩
    · rw [if_pos (by decide), if_neg (by decide)]
      refine ⟨_, T', rfl, m1, RR_c m2 (Or.inr (Or.inl (by omega))) _, fun q => ?_⟩
      rw [pI_o _ _ (by omega)] at q
      exact absurd q hf2
