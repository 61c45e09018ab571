/-! Pure part 10: one side alone behind a fault; fetch and next; pop. -/
theorem RR_pm {p : Int32 × Int32} {S T : qS} (h : RR p S T) (hf : ¬ S.1 7 = 0) (r v : Int32) : RR p S (mPut T r v) := by
  obtain ⟨⟨h1, h2, h3⟩, hl⟩ := h
  unfold mPut
  split
  · refine ⟨⟨h1, fun i hi hi2 => ?_, h3⟩, fun q => absurd q hf⟩
    show upd (T.2 2) _ v i = _
    have d := ix_lt (mMode_4 T)
    rw [upd_o (by omega)]
    exact h2 i hi hi2
  · exact ⟨⟨h1, h2, h3⟩, fun q => absurd q hf⟩
theorem RR_pc {p : Int32 × Int32} {S T : qS} (h : RR p S T) (hf : ¬ S.1 7 = 0) (r v : Int32) : RR p (cPut S r v) T := by
  obtain ⟨⟨h1, h2, h3⟩, hl⟩ := h
  unfold cPut
  split
  · refine ⟨⟨h1, fun i hi hi2 => ?_, h3⟩, fun q => absurd q hf⟩
    show _ = upd (S.2 1) _ v i
    have d := ix_lt (cMode_4 S)
    rw [upd_o (by omega)]
    exact h2 i hi hi2
  · exact ⟨⟨h1, h2, h3⟩, fun q => absurd q hf⟩
theorem RR_sm {p : Int32 × Int32} {S T : qS} (h : RR p S T) (hf : ¬ S.1 7 = 0) (v : Int32) : RR p S (pI T 1 v) := ⟨h.1, fun q => absurd q hf⟩
theorem RR_sc {p : Int32 × Int32} {S T : qS} (h : RR p S T) (hf : ¬ S.1 7 = 0) (v : Int32) : RR p (pI S 6 v) T := ⟨h.1, fun q => absurd q hf⟩
theorem cPut_f (S : qS) (r v : Int32) (k : Nat) : (cPut S r v).1 k = S.1 k := by unfold cPut; split <;> rfl
theorem mPut_f (T : qS) (r v : Int32) (k : Nat) : (mPut T r v).1 k = T.1 k := by unfold mPut; split <;> rfl
theorem mPut_15 (T : qS) (v : Int32) : pA T 1 15 v = mPut T 15 v := (if_neg (by decide)).symm
theorem mGet_15 (T : qS) : gA T 1 15 = mGet T 15 := (if_neg (by decide)).symm
theorem i16_15 : inb 15 16 = true := by decide
theorem i16_14 : inb 14 16 = true := by decide
theorem i16_13 : inb 13 16 = true := by decide
theorem i16_12 : inb 12 16 = true := by decide
theorem RR_get {p : Int32 × Int32} {S T : qS} (h : RR p S T) {r : Int32} (hr : inb r 16 = true) : S.1 7 = 0 → mGet T r = cGet S r := fun q => RL_get (h.2 q) hr
/-- next, the reference alone -/
theorem nx_f {p : Int32 × Int32} {S T : qS} (h : RR p S T) (hf : ¬ S.1 7 = 0) : ∃ v T', fM_next T = some (v, T') ∧ RR p S T' ∧ KM T T' := by
  have hT : ¬ T.1 7 = 0 := by rw [RR_f h]; exact hf
  obtain ⟨b, e, hb⟩ := rb_f hT (gA T 1 15)
  have h2 : RR p S (pI T 11 e) := RR_d h (Or.inr (Or.inr (Nat.le_refl 11))) e
  unfold fM_next
  rw [bnd_e hb]
  refine ⟨_, _, rfl, ?_, ?_⟩
  · rw [mPut_15]; exact RR_pm h2 hf _ _
  · exact KM_t (KM_p T 11 e) (KM_a (Or.inl (by decide)) _ _)
theorem RR_next {p : Int32 × Int32} {S T : qS} (h : RR p S T) : ∃ v v' S' T', fCo_fetch S 1 = some (v, S') ∧ fM_next T = some (v', T') ∧ RR p S' T' ∧ (S'.1 7 = 0 → v' = v) ∧ KC S S' ∧ KM T T' := by
  obtain ⟨v, v', S1, T1, h1, h2, h3, h4, h5, h6⟩ := RR_r1 (a := cGet S 15) (a' := gA T 1 15) h (fun q => by rw [mGet_15]; exact RR_get h i16_15 q)
  refine ⟨v, v', cPut S1 15 (cGet S1 15 + 1), mPut T1 15 (mGet T1 15 + 1), ?_, ?_, ?_, ?_, KC_t h5 (KC_put _ _ _), KM_t h6 (KM_put _ _ _)⟩
  · unfold fCo_fetch
    rw [bnd_e (fCo_get_eq S 15)]
    dsimp only
    rw [bnd_e h1]
    dsimp only
    rw [bnd_e (fCo_get_eq S1 15)]
    dsimp only
    rw [bnd_e (fCo_put_eq S1 15 _)]
  · unfold fM_next
    rw [bnd_e h2]
    dsimp only
    rw [mPut_15, mGet_15]
  · exact RR_put h3 i16_15 (fun q => by rw [RR_get h3 i16_15 q])
  · intro q
    rw [cPut_f] at q
    exact h4 q
/-- pop -/
theorem RR_pop {p : Int32 × Int32} {S T : qS} (h : RR p S T) : ∃ v v' S' T', fCo_pop S = some (v, S') ∧ fM_pop T = some (v', T') ∧ RR p S' T' ∧ (S'.1 7 = 0 → v' = v) ∧ KC S S' ∧ KM T T' := by
  obtain ⟨v, v', S1, T1, h1, h2, h3, h4, h5, h6⟩ := RR_r4 (a := cGet S 14) (a' := mGet T 14) h (RR_get h i16_14)
  refine ⟨v, v', cPut S1 14 (cGet S1 14 + 4), mPut T1 14 (mGet T1 14 + 4), ?_, ?_, ?_, ?_, KC_t h5 (KC_put _ _ _), KM_t h6 (KM_put _ _ _)⟩
  · unfold fCo_pop
    rw [bnd_e (fCo_get_eq S 14)]
    dsimp only
    rw [bnd_e h1]
    dsimp only
    rw [bnd_e (fCo_get_eq S1 14)]
    dsimp only
    rw [bnd_e (fCo_put_eq S1 14 _)]
  · unfold fM_pop
    rw [bnd_e (fM_get_eq T i16_14)]
    dsimp only
    rw [bnd_e h2]
    dsimp only
    rw [bnd_e (fM_get_eq T1 i16_14)]
    dsimp only
    rw [bnd_e (fM_put_eq T1 _ i16_14)]
  · exact RR_put h3 i16_14 (fun q => by rw [RR_get h3 i16_14 q])
  · intro q
    rw [cPut_f] at q
    exact h4 q
