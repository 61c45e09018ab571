/-! Pure part 34: the end of an instruction. -/
theorem bI_1 : (1 : Int32) = nI 1 := rfl
/-- an overflow is noted -/
def tO (b : Nat) (S : qS) : Prop := ((17 ≤ b ∧ b ≤ 41) ∨ (64 ≤ b ∧ b ≤ 67)) ∧ S.1 10 = 0 ∧ bt (S.1 6) 5 = true ∧ bt (S.1 6) 1 = true
theorem note_eq (S : qS) {b : Nat} (hb : b ≤ 70) : (tO b S → fCd_noteOverflow S (nI b) = some (pI S 10 1)) ∧ (¬ tO b S → fCd_noteOverflow S (nI b) = some S) := by
  have c17 : nI b < 17 ↔ b < 17 := nI_lti (b := 17) (by omega) (by omega)
  have c41 : nI b ≤ 41 ↔ b ≤ 41 := nI_lei (b := 41) (by omega) (by omega)
  have c64 : nI b < 64 ↔ b < 64 := nI_lti (b := 64) (by omega) (by omega)
  have c67 : 67 < nI b ↔ 67 < b := nI_lti (a := 67) (by omega) (by omega)
  have h32 : fCo_has S 32 = some (hB (S.1 6) 5, S) := has_eq S (by decide) m32
  have h2 : fCo_has S 2 = some (hB (S.1 6) 1, S) := has_eq S (by decide) m2
  have e28 : fCd_noteOverflow_28 S = some S := rfl
  have e24 : (S.1 10 = 0 ∧ bt (S.1 6) 5 = true ∧ bt (S.1 6) 1 = true → fCd_noteOverflow_24 S = some (pI S 10 1)) ∧ (¬ (S.1 10 = 0 ∧ bt (S.1 6) 5 = true ∧ bt (S.1 6) 1 = true) → fCd_noteOverflow_24 S = some S) := by
    unfold fCd_noteOverflow_24 fCd_noteOverflow_29
    rw [if_neg (show ¬ (1 : Int32) = 0 by decide)]
    by_cases q : S.1 10 = 0
    · rw [if_neg (not_not_intro q), bnd_e h32]
      dsimp only
      by_cases q5 : bt (S.1 6) 5 = true
      · rw [show hB (S.1 6) 5 = 1 from if_pos q5, if_neg (show ¬ (1 : Int32) = 0 by decide), bnd_e h2]
        dsimp only
        by_cases q1 : bt (S.1 6) 1 = true
        · rw [show hB (S.1 6) 1 = 1 from if_pos q1, if_neg (show ¬ (1 : Int32) = 0 by decide)]
          exact ⟨fun _ => rfl, fun w => absurd ⟨q, q5, q1⟩ w⟩
        · rw [show hB (S.1 6) 1 = 0 from if_neg q1, if_pos rfl]
          exact ⟨fun w => absurd w.2.2 q1, fun _ => rfl⟩
      · rw [show hB (S.1 6) 5 = 0 from if_neg q5, if_pos rfl]
        exact ⟨fun w => absurd w.2.1 q5, fun _ => rfl⟩
    · rw [if_pos q]
      exact ⟨fun w => absurd w.1 q, fun _ => rfl⟩
  have e12 : ((64 ≤ b ∧ b ≤ 67) → fCd_noteOverflow_12 S (nI b) = fCd_noteOverflow_24 S) ∧ (¬ (64 ≤ b ∧ b ≤ 67) → fCd_noteOverflow_12 S (nI b) = some S) := by
    unfold fCd_noteOverflow_12
    by_cases q : b < 64
    · rw [if_pos (c64.mpr q)]
      exact ⟨fun w => by omega, fun _ => e28⟩
    · rw [if_neg (fun w => q (c64.mp w))]
      by_cases q2 : 67 < b
      · rw [if_pos (c67.mpr q2)]
        exact ⟨fun w => by omega, fun _ => e28⟩
      · rw [if_neg (fun w => q2 (c67.mp w))]
        exact ⟨fun _ => rfl, fun w => by omega⟩
  unfold fCd_noteOverflow tO
  by_cases r : (17 ≤ b ∧ b ≤ 41) ∨ (64 ≤ b ∧ b ≤ 67)
  · have e : (if nI b < 17 then fCd_noteOverflow_12 S (nI b) else if nI b ≤ 41 then fCd_noteOverflow_24 S else fCd_noteOverflow_12 S (nI b)) = fCd_noteOverflow_24 S := by
      rcases r with r | r
      · rw [if_neg (fun w => by have := c17.mp w; omega), if_pos (c41.mpr r.2)]
      · rw [if_neg (fun w => by have := c17.mp w; omega), if_neg (fun w => by have := c41.mp w; omega), e12.1 r]
    rw [e]
    exact ⟨fun w => e24.1 w.2, fun w => e24.2 (fun u => w ⟨r, u⟩)⟩
  · have e : (if nI b < 17 then fCd_noteOverflow_12 S (nI b) else if nI b ≤ 41 then fCd_noteOverflow_24 S else fCd_noteOverflow_12 S (nI b)) = some S := by
      by_cases q : b < 17
      · rw [if_pos (c17.mpr q), e12.2 (by omega)]
      · rw [if_neg (fun w => q (c17.mp w)), if_neg (fun w => by have := c41.mp w; omega), e12.2 (by omega)]
    rw [e]
    exact ⟨fun w => absurd w.1 r, fun _ => rfl⟩
/-- one more is done -/
theorem RG_dn {p : Int32 × Int32} {S T : qS} (h : RG p S T) : RG (p.1, p.2 + 1) S (pI T 3 (T.1 3 + 1)) := by
  obtain ⟨h1, h2, h3, h4, h5, h6, h7, h8, h9, h10, h11⟩ := h
  exact ⟨h1, h2, h3, h4, h5, h6, h7, h8, h9, h10, by show T.1 3 + 1 = p.2 + 1; rw [h11]⟩
/-- behind a fault -/
theorem settle_d {p : Int32 × Int32} {S T : qS} (h : RR p S T) (hf : ¬ S.1 7 = 0) (x x' : Int32) : ∃ S' T', fX_settle S x = some S' ∧ fM_instruction_173 T x' = some T' ∧ RS (p.1, p.2 + 1) S' T' := by
  have hT : ¬ T.1 7 = 0 := by rw [RR_f h]; exact hf
  obtain ⟨S1, T1, b1, b2, b3, b4, b5, b6, b7, b8⟩ := RR_back (RG_dn h.1)
  have hB : RB (p.1, p.2 + 1) S1 T1 := ⟨b3, b4, b5, b6⟩
  have f1 : S1.1 7 = S.1 7 := b7 7 (by decide)
  have g1 : T1.1 7 = S1.1 7 := b3.2.2.2.2.2.1.1
  have v1 : fv (S1.1 7) := b3.2.2.2.2.2.1.2
  have w1 := b3.2.2.2.2.2.2.1
  have n1 : ¬ S1.1 7 = 0 := by rw [f1]; exact hf
  unfold fX_settle fM_instruction_173
  rw [if_neg hf, if_neg (show ¬ (pI T 3 (T.1 3 + 1)).1 7 = 0 from hT), bnd_e b1, bnd_e b2, g1]
  have main : ∀ n : Int32, exK S1 T1 (S1.1 7) n (S1.1 8) (S1.1 9) 0 → ∃ S' T', fX_settle_63 S1 (S1.1 7) 0 n = some S' ∧ ((fM_raise T1 (S1.1 7) 0 0).bind fun S10 => fM_instruction_336 S10) = some T' ∧ RS (p.1, p.2 + 1) S' T' := fun n hk => by
    obtain ⟨S', T', r1, r2, r3⟩ := RR_except hB (c := S1.1 7) (m := 0) (n := n) (a4 := S1.1 8) (a5 := S1.1 9) (b3 := 0) hk
    unfold fX_settle_63
    rw [bnd_e r1, bnd_e r2]
    exact ⟨S', T', rfl, rfl, r3⟩
  by_cases q4 : S1.1 7 = 4
  · rw [if_pos q4]
    unfold fX_settle_39 fX_settle_44
    rw [if_neg (show ¬ (1 : Int32) = 0 by decide)]
    exact main 2 (Or.inl ⟨Or.inl q4, rfl, (w1 (Or.inl q4)).1, (w1 (Or.inl q4)).2⟩)
  · rw [if_neg q4]
    by_cases q5 : S1.1 7 = 5
    · rw [if_neg (not_not_intro q5)]
      unfold fX_settle_39 fX_settle_44
      rw [if_neg (show ¬ (1 : Int32) = 0 by decide)]
      exact main 2 (Or.inl ⟨Or.inr q5, rfl, (w1 (Or.inr q5)).1, (w1 (Or.inr q5)).2⟩)
    · rw [if_pos q5]
      unfold fX_settle_44
      rw [if_pos rfl]
      exact main 0 (Or.inr (Or.inl ⟨q4, q5, v1.2, rfl⟩))
/-- an exception where no fault is -/
theorem ex_live {p : Int32 × Int32} {S T : qS} (h : RR p S T) (hf : S.1 7 = 0) {c m v v' : Int32} (h4 : ¬ c = 4) (h5 : ¬ c = 5) (h6 : ¬ c ≤ 6) (hv : v' = v) : ∃ S' T', fX_except S c m 1 v 0 = some S' ∧ fM_raise (pI T 3 (T.1 3 + 1)) c m v' = some T' ∧ RS (p.1, p.2 + 1) S' T' :=
  RR_except (p := (p.1, p.2 + 1)) ⟨RG_dn h.1, h.2 hf⟩ (Or.inr (Or.inr ⟨h4, h5, h6, rfl, hv⟩))
theorem settle_l {p : Int32 × Int32} {S T : qS} (h : RR p S T) (hf : S.1 7 = 0) {b : Nat} (hb : b ≤ 70) (ht : S.1 10 = T.1 10) (ht2 : T.1 10 = 0 ∨ T.1 10 = 2) (hn : (b = 0 ∨ (6 ≤ b ∧ b ≤ 9)) → T.1 10 = 0) (hv : 6 ≤ b ∧ b ≤ 9 → T.2 5 0 = S.1 14) : ∃ S' T', ((fCd_noteOverflow S (nI b)).bind fun S1 => fX_settle S1 (nI b)) = some S' ∧ fM_instruction_157 T (nI b) = some T' ∧ RS (p.1, p.2 + 1) S' T' := by
  have hT : T.1 7 = 0 := (RR_f h).trans hf
  have est : T.1 1 = S.1 6 := (h.2 hf).2.2
  obtain ⟨no1, no2⟩ := note_eq S hb
  have c0 : nI b = 0 ↔ b = 0 := nI_eqi (b := 0) (by omega) (by omega)
  have c6 : nI b < 6 ↔ b < 6 := nI_lti (b := 6) (by omega) (by omega)
  have c9 : 9 < nI b ↔ 9 < b := nI_lti (a := 9) (by omega) (by omega)
  have c5 : nI b ≤ 5 ↔ b ≤ 5 := nI_lei (b := 5) (by omega) (by omega)
  have c10 : 10 ≤ nI b ↔ 10 ≤ b := nI_lei (a := 10) (by omega) (by omega)
  have c16 : nI b ≤ 16 ↔ b ≤ 16 := nI_lei (b := 16) (by omega) (by omega)
  have c42 : nI b < 42 ↔ b < 42 := nI_lti (b := 42) (by omega) (by omega)
  have c63 : nI b ≤ 63 ↔ b ≤ 63 := nI_lei (b := 63) (by omega) (by omega)
  have c68 : 68 ≤ nI b ↔ 68 ≤ b := nI_lei (a := 68) (by omega) (by omega)
  have hRB : RB (p.1, p.2 + 1) S (pI T 3 (T.1 3 + 1)) := ⟨RG_dn h.1, h.2 hf⟩
  have m5 : ∀ Q : qS, Q.1 1 = T.1 1 → fM_has Q 5 = some (hB (S.1 6) 5, Q) := fun Q e => by rw [← est, ← e]; exact mhas_eq Q (i := 5) (by decide)
  have m1' : ∀ Q : qS, Q.1 1 = T.1 1 → fM_has Q 1 = some (hB (S.1 6) 1, Q) := fun Q e => by rw [← est, ← e]; exact mhas_eq Q (i := 1) (by decide)
  by_cases b0 : b = 0
  · -- HALT
    subst b0
    have t0 := hn (Or.inl rfl)
    rw [no2 (fun w => by unfold tO at w; omega)]
    have hB2 : RB (p.1, p.2 + 1) (pI S 0 1) (pI (pI T 2 1) 3 ((pI T 2 1).1 3 + 1)) := by
      obtain ⟨⟨h1, h2, h3, h4, h5, h6, h7, h8, h9, h10, h11⟩, hl⟩ := hRB
      exact ⟨⟨h1, h2, h3, h4, h5, h6, h7, rfl, h9, h10, h11⟩, hl⟩
    have ec : fX_settle S (nI 0) = some (pI S 0 1) := by
      unfold fX_settle
      rw [if_pos hf, if_neg (by decide)]
      rfl
    have e157 : fM_instruction_157 T (nI 0) = fM_instruction_173 (pI T 2 1) (nI 0) := by
      unfold fM_instruction_157
      rw [if_neg (by decide), if_neg (not_not_intro hT)]
    have e265 : ∀ Q : qS, Q.1 10 = 0 → fM_instruction_265 Q (nI 0) = some Q := fun Q w => by
      unfold fM_instruction_265
      rw [if_pos (by rw [w]; decide), if_pos (by decide)]
      rfl
    refine ⟨pI S 0 1, pI (pI T 2 1) 3 ((pI T 2 1).1 3 + 1), ec, ?_, RB_RS hB2⟩
    rw [e157]
    unfold fM_instruction_173
    rw [if_pos (show (pI (pI T 2 1) 3 ((pI T 2 1).1 3 + 1)).1 7 = 0 from hT), if_neg (not_not_intro (show (pI (pI T 2 1) 3 ((pI T 2 1).1 3 + 1)).1 10 = 0 from t0)), bnd_e (m5 (pI (pI T 2 1) 3 ((pI T 2 1).1 3 + 1)) rfl)]
    dsimp only
    have e16 : nI 0 ≤ 16 := by decide
    have e242 : fM_instruction_242 (pI (pI T 2 1) 3 ((pI T 2 1).1 3 + 1)) (nI 0) = some (pI (pI T 2 1) 3 ((pI T 2 1).1 3 + 1)) := by
      unfold fM_instruction_242
      rw [if_pos (by decide)]
      exact e265 _ t0
    split
    · exact e265 _ t0
    · rw [bnd_e (m1' (pI (pI T 2 1) 3 ((pI T 2 1).1 3 + 1)) rfl)]
      dsimp only
      split
      · exact e265 _ t0
      · exact e242
  · have n0 : ¬ nI b = 0 := fun w => b0 (c0.mp w)
    have e157 : fM_instruction_157 T (nI b) = fM_instruction_173 T (nI b) := by
      unfold fM_instruction_157
      rw [if_pos n0]
    rw [e157]
    unfold fM_instruction_173
    rw [if_pos (show (pI T 3 (T.1 3 + 1)).1 7 = 0 from hT)]
    by_cases b69 : 6 ≤ b ∧ b ≤ 9
    · -- a change of mode
      have t0 := hn (Or.inr b69)
      have hv := hv b69
      rw [no2 (fun w => by unfold tO at w; omega), if_neg (not_not_intro (show (pI T 3 (T.1 3 + 1)).1 10 = 0 from t0)), bnd_e (m5 (pI T 3 (T.1 3 + 1)) rfl)]
      have hm : mMode (pI T 3 (T.1 3 + 1)) = cMode S := RL_mode hRB.2
      have ex : ∃ S' T', fX_settle S (nI b) = some S' ∧ fM_instruction_265 (pI T 3 (T.1 3 + 1)) (nI b) = some T' ∧ RS (p.1, p.2 + 1) S' T' := by
        unfold fX_settle fM_instruction_265
        rw [if_pos hf, if_pos n0, if_neg (fun w => by have := c6.mp w; omega), if_neg (fun w => by have := c9.mp w; omega), if_pos (show (pI T 3 (T.1 3 + 1)).1 10 ≤ 0 by show T.1 10 ≤ 0; rw [t0]; decide), if_neg (fun w => by have := c5.mp w; omega), if_neg (fun w => by have := c10.mp w; omega), bnd_e (fCo_mode_eq S), bnd_e (fM_mode_eq _)]
        dsimp only
        rw [hm, bnd_e (fM_mode_eq _)]
        have ec : 8 + (nI b - 6) = nI b + 2 := by
          have : b = 6 ∨ b = 7 ∨ b = 8 ∨ b = 9 := by omega
          rcases this with rfl | rfl | rfl | rfl <;> decide
        have n4 : ¬ nI b + 2 = 4 ∧ ¬ nI b + 2 = 5 ∧ ¬ nI b + 2 ≤ 6 := by
          have : b = 6 ∨ b = 7 ∨ b = 8 ∨ b = 9 := by omega
          rcases this with rfl | rfl | rfl | rfl <;> decide
        have fin : ∀ m : Int32, ∃ S' T', ((fX_except S (nI b + 2) m 1 (S.1 14) 0).bind fun S6 => fX_settle_171 S6) = some S' ∧ fM_instruction_319 (pI T 3 (T.1 3 + 1)) (nI b) m = some T' ∧ RS (p.1, p.2 + 1) S' T' := fun m => by
          obtain ⟨S', T', r1, r2, r3⟩ := ex_live h hf (c := nI b + 2) (m := m) (v := S.1 14) (v' := gA T 5 0) n4.1 n4.2.1 n4.2.2 hv
          unfold fM_instruction_319
          rw [bnd_e r1, bnd_e (show fM_raise (pI T 3 (T.1 3 + 1)) (nI b + 2) m (gA (pI T 3 (T.1 3 + 1)) 5 0) = some T' from r2)]
          exact ⟨S', T', rfl, rfl, r3⟩
        rw [ec]
        dsimp only
        rw [hm]
        by_cases q : cMode S < nI b - 6
        · have q1 : cMode S ≤ nI b - 6 := by
            rw [Int32.le_iff_toInt_le]
            have := Int32.lt_iff_toInt_lt.mp q
            omega
          rw [if_pos q, if_pos q1]
          exact fin _
        · rw [if_neg q]
          by_cases q1 : cMode S ≤ nI b - 6
          · have e : nI b - 6 = cMode S := by
              apply Int32.toInt_inj.mp
              have a := Int32.le_iff_toInt_le.mp q1
              have d : ¬ (cMode S).toInt < (nI b - 6).toInt := fun w => q (Int32.lt_iff_toInt_lt.mpr w)
              omega
            rw [if_pos q1, e]
            exact fin _
          · rw [if_neg q1]
            exact fin _
      obtain ⟨S', T', r1, r2, r3⟩ := ex
      refine ⟨S', T', r1, ?_, r3⟩
      dsimp only
      split
      · exact r2
      · rw [bnd_e (m1' (pI T 3 (T.1 3 + 1)) rfl)]
        dsimp only
        split
        · exact r2
        · rw [if_pos (c16.mpr (by omega))]
          unfold fM_instruction_242
          rw [if_pos (c63.mpr (by omega))]
          exact r2
    · have settle145 : ∀ Q : qS, Q.1 7 = 0 → fX_settle Q (nI b) = fX_settle_145 Q := fun Q w => by
        unfold fX_settle
        rw [if_pos w, if_pos n0]
        by_cases q : b < 6
        · rw [if_pos (c6.mpr q)]
        · rw [if_neg (fun u => q (c6.mp u)), if_pos (c9.mpr (by omega))]
      have e265 : ∀ Q : qS, Q.1 10 = 0 → fM_instruction_265 Q (nI b) = some Q := fun Q w => by
        unfold fM_instruction_265
        rw [if_pos (by rw [w]; decide)]
        by_cases q : b ≤ 5
        · rw [if_pos (c5.mpr q)]; rfl
        · rw [if_neg (fun u => q (c5.mp u)), if_pos (c10.mpr (by omega))]; rfl
      -- an arithmetic trap
      have trap : ∀ (Q : qS) (y : Int32), RR p Q T → Q.1 7 = 0 → Q.1 10 = y → ¬ y = 0 → ∃ S' T', fX_settle_145 Q = some S' ∧ ((fM_raise (pI T 3 (T.1 3 + 1)) 7 0 y).bind fun S7 => fM_instruction_336 S7) = some T' ∧ RS (p.1, p.2 + 1) S' T' := fun Q y hq hqf hy hy0 => by
        obtain ⟨S', T', r1, r2, r3⟩ := ex_live hq hqf (c := 7) (m := 0) (v := Q.1 10) (v' := y) (by decide) (by decide) (by decide) hy.symm
        unfold fX_settle_145
        rw [if_neg (by rw [hy]; exact hy0), bnd_e r1, bnd_e r2]
        exact ⟨S', T', rfl, rfl, r3⟩
      by_cases t0 : T.1 10 = 0
      · have s0 : S.1 10 = 0 := ht.trans t0
        have non : ∃ S' T', fX_settle S (nI b) = some S' ∧ (some (pI T 3 (T.1 3 + 1)) : Option qS) = some T' ∧ RS (p.1, p.2 + 1) S' T' := by
          refine ⟨S, _, ?_, rfl, RB_RS hRB⟩
          rw [settle145 S hf]
          unfold fX_settle_145
          rw [if_pos s0]; rfl
        rw [if_neg (not_not_intro (show (pI T 3 (T.1 3 + 1)).1 10 = 0 from t0)), bnd_e (m5 (pI T 3 (T.1 3 + 1)) rfl)]
        dsimp only
        by_cases q5 : bt (S.1 6) 5 = true
        · rw [if_neg (show ¬ hB (S.1 6) 5 = 0 by unfold hB; rw [if_pos q5]; decide), bnd_e (m1' (pI T 3 (T.1 3 + 1)) rfl)]
          dsimp only
          by_cases q1 : bt (S.1 6) 1 = true
          · rw [if_neg (show ¬ hB (S.1 6) 1 = 0 by unfold hB; rw [if_pos q1]; decide)]
            by_cases r : (17 ≤ b ∧ b ≤ 41) ∨ (64 ≤ b ∧ b ≤ 67)
            · rw [no1 ⟨r, s0, q5, q1⟩]
              obtain ⟨S', T', r1, r2, r3⟩ := trap (pI S 10 1) 1 (RR_tc h 1) hf rfl (by decide)
              refine ⟨S', T', (settle145 (pI S 10 1) hf).trans r1, ?_, r3⟩
              have e254 : fM_instruction_254 (pI T 3 (T.1 3 + 1)) = some T' := r2
              rcases r with r | r
              · rw [if_neg (fun w => by have := c16.mp w; omega), if_pos (c42.mpr (by omega))]
                exact e254
              · rw [if_neg (fun w => by have := c16.mp w; omega), if_neg (fun w => by have := c42.mp w; omega)]
                unfold fM_instruction_242
                rw [if_neg (fun w => by have := c63.mp w; omega), if_neg (fun w => by have := c68.mp w; omega)]
                exact e254
            · rw [no2 (fun w => r w.1)]
              obtain ⟨S', T', r1, r2, r3⟩ := non
              refine ⟨S', T', r1, ?_, r3⟩
              have e242 : fM_instruction_242 (pI T 3 (T.1 3 + 1)) (nI b) = some T' := by
                unfold fM_instruction_242
                by_cases u : b ≤ 63
                · rw [if_pos (c63.mpr u), e265 (pI T 3 (T.1 3 + 1)) t0]; exact r2
                · rw [if_neg (fun w => u (c63.mp w)), if_pos (c68.mpr (by omega)), e265 (pI T 3 (T.1 3 + 1)) t0]; exact r2
              by_cases u : b ≤ 16
              · rw [if_pos (c16.mpr u)]; exact e242
              · rw [if_neg (fun w => u (c16.mp w)), if_neg (fun w => by have := c42.mp w; omega)]; exact e242
          · rw [if_pos (show hB (S.1 6) 1 = 0 from if_neg q1), no2 (fun w => q1 w.2.2.2), e265 (pI T 3 (T.1 3 + 1)) t0]
            exact non
        · rw [if_pos (show hB (S.1 6) 5 = 0 from if_neg q5), no2 (fun w => q5 w.2.2.1), e265 (pI T 3 (T.1 3 + 1)) t0]
          exact non
      · have t2 : T.1 10 = 2 := ht2.resolve_left t0
        have s2 : S.1 10 = 2 := ht.trans t2
        rw [no2 (fun w => by have := w.2.1; rw [s2] at this; exact absurd this (by decide)), if_pos (show ¬ (pI T 3 (T.1 3 + 1)).1 10 = 0 from t0)]
        obtain ⟨S', T', r1, r2, r3⟩ := trap S 2 h hf s2 (by decide)
        refine ⟨S', T', (settle145 S hf).trans r1, ?_, r3⟩
        unfold fM_instruction_265
        rw [if_neg (show ¬ (pI T 3 (T.1 3 + 1)).1 10 ≤ 0 by show ¬ T.1 10 ≤ 0; rw [t2]; decide), show (pI T 3 (T.1 3 + 1)).1 10 = 2 from t2]
        exact r2
