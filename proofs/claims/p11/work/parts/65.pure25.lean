/-! Pure part 25: codes 2 to 5. -/
def PK (p : Int32 × Int32) (S T : qS) (f g : Option qS) : Prop := ∃ S' T', f = some S' ∧ g = some T' ∧ RR p S' T' ∧ (S'.1 7 = 0 → KC S S' ∧ KM T T')
def DC (p : Int32 × Int32) (T : qS) (o : Option qS) : Prop := ∃ S', o = some S' ∧ RR p S' T ∧ ¬ S'.1 7 = 0
/-- class behind a fault in one piece, reference in another -/
theorem PK_d {p : Int32 × Int32} {S T S1 T1 : qS} {f g : Option qS} (h : RR p S1 T1) (hf : ¬ S1.1 7 = 0) (hc : ∀ T9 : qS, RR p S1 T9 → DC p T9 f) (hm : DT p S1 g) : PK p S T f g := by
  obtain ⟨T', m1, m2⟩ := hm
  obtain ⟨S', c1, c2, c3⟩ := hc T' m2
  exact ⟨S', T', c1, m1, c2, fun q => absurd q c3⟩
theorem live_pop {p : Int32 × Int32} {S T S' : qS} {v : Int32} (h : RR p S T) (e : fCo_pop S = some (v, S')) (q : S'.1 7 = 0) : S.1 7 = 0 := by
  refine Classical.byContradiction fun nq => ?_
  obtain ⟨S2, e2, -, n2⟩ := dc_pop h nq
  rw [e2] at e
  cases e
  exact n2 q
theorem RR_wr {p : Int32 × Int32} {S T : qS} (h : RR p S T) (hf : S.1 7 = 0) {f : Int32} (h0 : f ≠ 0) (h45 : ¬ (f = 4 ∨ f = 5)) (hv : fv f) : fCo_raise S f = some (pI S 7 f) ∧ ∃ T', fM_wrong T f 0 0 = some T' ∧ RR p (pI S 7 f) T' ∧ ¬ (pI S 7 f).1 7 = 0 := by
  refine ⟨?_, _, fM_wrong_eq ((RR_f h).trans hf) f 0 0, RR_fr h h0 h45 hv, h0⟩
  unfold fCo_raise
  rw [if_neg (not_not_intro hf)]; rfl
theorem RR_w2 {p : Int32 × Int32} {S T : qS} (h : RR p S T) (hf : S.1 7 = 0) : fCo_raise S 2 = some (pI S 7 2) ∧ ∃ T', fM_wrong T 2 0 0 = some T' ∧ RR p (pI S 7 2) T' ∧ ¬ (pI S 7 2).1 7 = 0 := RR_wr h hf (by decide) (by decide) ⟨by decide, by decide⟩
theorem c3 {p : Int32 × Int32} {S T : qS} (h : RR p S T) (hf : S.1 7 = 0) : PK p S T (fCo_raise S 6) (fM_wrong T 6 0 0) := by
  obtain ⟨a, T', b, c, d⟩ := RR_wr h hf (f := 6) (by decide) (by decide) ⟨by decide, by decide⟩
  exact ⟨_, T', a, b, c, fun q => absurd q d⟩
theorem c5 {p : Int32 × Int32} {S T : qS} (h : RR p S T) : PK p S T ((fCo_pop S).bind fun q1 => (fCo_put q1.2 15 q1.1).bind fun S2 => some S2) ((fM_pop T).bind fun q10 => some (pA q10.2 1 15 q10.1)) := by
  obtain ⟨v, v', S1, T1, g1, g2, g3, g4, g5, g6⟩ := RR_pop h
  rw [bnd_e g1, bnd_e g2]
  dsimp only
  rw [bnd_e (fCo_put_eq S1 15 v), mPut_15]
  exact ⟨_, _, rfl, rfl, RR_put g3 i16_15 (fun q => g4 q), fun _ => ⟨KC_t g5 (KC_put _ _ _), KM_t g6 (KM_put _ _ _)⟩⟩
theorem c2 {p : Int32 × Int32} {S T : qS} (h : RR p S T) (hf : S.1 7 = 0) : PK p S T (fCd_leaveException S) (fM_endException T) := by
  obtain ⟨v1, v1', S1, T1, a1, a2, a3, a4, a5, a6⟩ := RR_pop h
  obtain ⟨v2, v2', S2, T2, b1, b2, b3, b4, b5, b6⟩ := RR_pop a3
  unfold fCd_leaveException fM_endException
  rw [bnd_e a1, bnd_e a2]
  dsimp only
  rw [bnd_e b1, bnd_e b2]
  dsimp only
  by_cases hf2 : S2.1 7 = 0
  · have e2 := b4 hf2
    have e1 := a4 (live_pop a3 b1 hf2)
    subst e1 e2
    have hT2 : T2.1 7 = 0 := (RR_f b3).trans hf2
    obtain ⟨r1, T9, r2, r3, r4⟩ := RR_w2 b3 hf2
    have no : PK p S T (fCd_leaveException_55 S2) (fM_endException_42 T2 v1' v2') := by
      unfold fCd_leaveException_55 fM_endException_42
      rw [bnd_e r1, bnd_e r2]
      unfold fM_endException_49
      rw [if_neg (by rw [RR_f r3]; exact r4)]
      exact ⟨_, _, rfl, rfl, r3, fun q => absurd q r4⟩
    by_cases q1 : ¬ (v2' &&& (-62914608)) = 0
    · rw [if_pos q1, if_pos q1]; exact no
    · rw [if_neg q1, if_neg q1, bnd_e (fCo_mode_eq S2), bnd_e (fM_mode_eq T2)]
      dsimp only
      rw [sh_24, sh_22, RL_mode (b3.2 hf2)]
      by_cases q2 : ((ushr v2' 24) &&& 3) < cMode S2
      · rw [if_pos q2, if_pos q2]; exact no
      · rw [if_neg q2, if_neg q2]
        by_cases q3 : ((ushr v2' 24) &&& 3) ≤ ((ushr v2' 22) &&& 3)
        · rw [if_pos q3, if_pos q3, bnd_e (fCo_put_eq S2 15 _)]
          unfold fM_endException_49
          rw [if_pos hT2, mPut_15]
          exact ⟨_, _, rfl, rfl, RR_st (RR_put b3 i16_15 (fun _ => rfl)) (fun _ => rfl), fun _ => ⟨KC_t a5 (KC_t b5 (KC_t (KC_put _ _ _) (KC_p (by decide) _))), KM_t a6 (KM_t b6 (KM_t (KM_put _ _ _) (KM_p _ _ _)))⟩⟩
        · rw [if_neg q3, if_neg q3]; exact no
  · have hT2 : ¬ T2.1 7 = 0 := by rw [RR_f b3]; exact hf2
    refine PK_d b3 hf2 (fun T9 h9 => ?_) ?_
    · have no : DC p T9 (fCd_leaveException_55 S2) := by
        unfold fCd_leaveException_55
        rw [bnd_e (dc_raise hf2 2)]
        exact ⟨S2, rfl, h9, hf2⟩
      split
      · exact no
      · rw [bnd_e (fCo_mode_eq S2)]
        dsimp only
        split
        · exact no
        · split
          · rw [bnd_e (fCo_put_eq S2 15 _)]
            exact ⟨_, rfl, RR_sc (RR_pc h9 hf2 _ _) (by rw [cPut_f]; exact hf2) _, by show ¬ (cPut S2 15 v1).1 7 = 0; rw [cPut_f]; exact hf2⟩
          · exact no
    · have e49 : ∀ x y, fM_endException_49 T2 x y = some T2 := fun x y => by
        unfold fM_endException_49
        rw [if_neg hT2]
      have e42 : ∀ x y, fM_endException_42 T2 x y = some T2 := fun x y => by
        unfold fM_endException_42
        rw [bnd_e (dm_wrong b3 hf2 _ _ _)]
        exact e49 x y
      simp only [e42, e49]
      refine ⟨T2, ?_, b3⟩
      split
      · rfl
      · rw [bnd_e (fM_mode_eq T2)]
        dsimp only
        rw [e42, e49]
        split
        · rfl
        · split <;> rfl
/-! frames that are left -/
theorem mPut_n (T : qS) {i : Nat} (hi : i < 14) (v : Int32) : pA T 1 (nI i) v = mPut T (nI i) v := by
  unfold mPut
  rw [if_neg (fun w => by
    have := (nI_eqi (b := 14) (by omega) (by omega)).mp w
    omega)]
theorem lf196 {p : Int32 × Int32} {S T : qS} (h : RR p S T) (x : Int32) : RR p (pI S 6 ((S.1 6 &&& (-48)) ||| (x &&& 47))) (pI T 1 ((T.1 1 &&& (-48)) ||| (x &&& 47))) := RR_st h (fun q => by rw [(h.2 q).2.2])
theorem lf_loop {p : Int32 × Int32} {x : Int32} (k : Nat) : ∀ {S T : qS}, RR p S T → ∀ (i m : Nat), i + k = 12 → ∃ S' T', fCd_leaveFrame_94 (k + 1 + m) S x (nI i) = some S' ∧ fM_comeBack_69 (k + 1 + m) T x (nI i) = some T' ∧ RR p S' T' ∧ KC S S' ∧ KM T T' := by
  induction k with
  | zero =>
    intro S T h i m hi
    have c12 : (12 : Int32) ≤ nI i := (nI_lei (a := 12) (by omega) (by omega)).mpr (by omega)
    have h1 : RR p (cPut S 14 (cGet S 14 + ushr x 30)) (mPut T 14 (mGet T 14 + ushr x 30)) := RR_put h i16_14 (fun q => by rw [RR_get h i16_14 q])
    rw [show 0 + 1 + m = m + 1 by omega, fCd_leaveFrame_94, fM_comeBack_69, if_pos c12, if_pos c12, bnd_e (fCo_get_eq S 14), bnd_e (fM_get_eq T i16_14)]
    dsimp only
    rw [bnd_e (fCo_put_eq S 14 _), bnd_e (fM_put_eq T _ i16_14), show (29 : Int32) = nI 29 from rfl, bit_s x (by decide)]
    have hb := bit_m x (by decide) m29
    by_cases q : bt x 29 = true
    · rw [if_neg (fun w => (hb.mp w) q), if_pos q, if_neg (by decide)]
      obtain ⟨v, v', S2, T2, g1, g2, g3, g4, g5, g6⟩ := RR_pop h1
      rw [bnd_e g1, bnd_e g2]
      dsimp only
      rw [bnd_e (fCo_get_eq S2 14), bnd_e (fM_get_eq T2 i16_14)]
      dsimp only
      rw [bnd_e (fCo_put_eq S2 14 _), bnd_e (fM_put_eq T2 _ i16_14)]
      have h3 : RR p (cPut S2 14 (cGet S2 14 + 4 * (v &&& 255))) (mPut T2 14 (mGet T2 14 + 4 * (v' &&& 255))) := RR_put g3 i16_14 (fun w => by rw [RR_get g3 i16_14 w, g4 w])
      exact ⟨_, _, rfl, rfl, lf196 h3 x, KC_t (KC_put _ _ _) (KC_t g5 (KC_t (KC_put _ _ _) (KC_p (by decide) _))), KM_t (KM_put _ _ _) (KM_t g6 (KM_t (KM_put _ _ _) (KM_p _ _ _)))⟩
    · rw [if_pos (hb.mpr q), if_neg q, if_pos (by decide)]
      exact ⟨_, _, rfl, rfl, lf196 h1 x, KC_t (KC_put _ _ _) (KC_p (by decide) _), KM_t (KM_put _ _ _) (KM_p _ _ _)⟩
  | succ k ih =>
    intro S T h i m hi
    have c12 : ¬ (12 : Int32) ≤ nI i := fun w => by
      have := (nI_lei (a := 12) (by omega) (by omega)).mp w
      omega
    have e16 : (16 : Int32) + nI i = nI (16 + i) := nI_add 16 i
    rw [show k + 1 + 1 + m = (k + 1 + m) + 1 by omega, fCd_leaveFrame_94, fM_comeBack_69, if_neg c12, if_neg c12, e16, bit_s x (by omega), bit_u x (by omega)]
    unfold fCd_leaveFrame_126 fM_comeBack_97
    rw [nI_1]
    by_cases q : bt x (16 + i) = true
    · rw [if_pos q, if_neg (by decide), if_neg (by decide)]
      obtain ⟨v, v', S2, T2, g1, g2, g3, g4, g5, g6⟩ := RR_pop h
      rw [bnd_e g1, bnd_e g2]
      dsimp only
      have i16 : inb (nI i) 16 = true := inb_nI (by omega) (by decide)
      rw [bnd_e (fCo_put_eq S2 _ _), chk_t i16, mPut_n T2 (by omega)]
      obtain ⟨S', T', r1, r2, r3, r4, r5⟩ := ih (RR_put g3 i16 g4) (i + 1) m (by omega)
      exact ⟨S', T', r1, r2, r3, KC_t g5 (KC_t (KC_put _ _ _) r4), KM_t g6 (KM_t (KM_put _ _ _) r5)⟩
    · rw [if_neg q, if_pos rfl, if_pos (by decide)]
      exact ih h (i + 1) m (by omega)
def cLf (S : qS) (x : Int32) : Option qS := (fCo_pop S).bind fun q5 => (fCo_put q5.2 12 q5.1).bind fun S6 => (fCo_pop S6).bind fun q7 => (fCo_put q7.2 13 q7.1).bind fun S8 => (fCo_pop S8).bind fun q9 => (fCo_put q9.2 15 q9.1).bind fun S10 => fCd_leaveFrame_94 300 S10 x 0
theorem lf_chain {p : Int32 × Int32} {x : Int32} {S T : qS} (h : RR p S T) : ∃ S' T', cLf S x = some S' ∧ fM_comeBack_34 T x = some T' ∧ RR p S' T' ∧ KC S S' ∧ KM T T' := by
  obtain ⟨v1, v1', S1, T1, a1, a2, a3, a4, a5, a6⟩ := RR_pop h
  have h1 := RR_put a3 i16_12 a4
  obtain ⟨v2, v2', S2, T2, b1, b2, b3, b4, b5, b6⟩ := RR_pop h1
  have h2 := RR_put b3 i16_13 b4
  obtain ⟨v3, v3', S3, T3, d1, d2, d3, d4, d5, d6⟩ := RR_pop h2
  have h3 := RR_put d3 i16_15 d4
  obtain ⟨S', T', r1, r2, r3, r4, r5⟩ := lf_loop (x := x) 12 h3 0 287 rfl
  have e12 : ∀ (Q : qS) (w : Int32), pA Q 1 12 w = mPut Q 12 w := fun Q w => mPut_n Q (i := 12) (by decide) w
  have e13 : ∀ (Q : qS) (w : Int32), pA Q 1 13 w = mPut Q 13 w := fun Q w => mPut_n Q (i := 13) (by decide) w
  refine ⟨S', T', ?_, ?_, r3, KC_t a5 (KC_t (KC_put _ _ _) (KC_t b5 (KC_t (KC_put _ _ _) (KC_t d5 (KC_t (KC_put _ _ _) r4))))), KM_t a6 (KM_t (KM_put _ _ _) (KM_t b6 (KM_t (KM_put _ _ _) (KM_t d6 (KM_t (KM_put _ _ _) r5)))))⟩
  · unfold cLf
    rw [bnd_e a1]
    dsimp only
    rw [bnd_e (fCo_put_eq S1 12 _), bnd_e b1]
    dsimp only
    rw [bnd_e (fCo_put_eq S2 13 _), bnd_e d1]
    dsimp only
    rw [bnd_e (fCo_put_eq S3 15 _)]
    exact r1
  · unfold fM_comeBack_34
    rw [bnd_e a2]
    dsimp only
    rw [e12, bnd_e b2]
    dsimp only
    rw [e13, bnd_e d2]
    dsimp only
    rw [mPut_15]
    exact r2
theorem dc_lfl {p : Int32 × Int32} {T : qS} {x : Int32} (k : Nat) : ∀ {S : qS}, RR p S T → ¬ S.1 7 = 0 → ∀ (i m : Nat), i + k = 12 → DC p T (fCd_leaveFrame_94 (k + 1 + m) S x (nI i)) := by
  have put : ∀ {S : qS}, RR p S T → ¬ S.1 7 = 0 → ∀ r v : Int32, RR p (cPut S r v) T ∧ ¬ (cPut S r v).1 7 = 0 := fun h hf r v => ⟨RR_pc h hf r v, by rw [cPut_f]; exact hf⟩
  have e196 : ∀ {S : qS}, RR p S T → ¬ S.1 7 = 0 → DC p T (fCd_leaveFrame_196 S x) := fun h hf => ⟨_, rfl, RR_sc h hf _, hf⟩
  induction k with
  | zero =>
    intro S h hf i m hi
    have c12 : (12 : Int32) ≤ nI i := (nI_lei (a := 12) (by omega) (by omega)).mpr (by omega)
    rw [show 0 + 1 + m = m + 1 by omega, fCd_leaveFrame_94, if_pos c12, bnd_e (fCo_get_eq S 14)]
    dsimp only
    obtain ⟨h1, f1⟩ := put h hf 14 (cGet S 14 + ushr x 30)
    rw [bnd_e (fCo_put_eq S 14 _)]
    split
    · exact e196 h1 f1
    · obtain ⟨S2, g1, g2, g3⟩ := dc_pop h1 f1
      rw [bnd_e g1]
      dsimp only
      rw [bnd_e (fCo_get_eq S2 14)]
      dsimp only
      rw [bnd_e (fCo_put_eq S2 14 _)]
      obtain ⟨h3, f3⟩ := put g2 g3 14 (cGet S2 14 + 4 * (0 &&& 255))
      exact e196 h3 f3
  | succ k ih =>
    intro S h hf i m hi
    have c12 : ¬ (12 : Int32) ≤ nI i := fun w => by
      have := (nI_lei (a := 12) (by omega) (by omega)).mp w
      omega
    rw [show k + 1 + 1 + m = (k + 1 + m) + 1 by omega, fCd_leaveFrame_94, if_neg c12]
    unfold fCd_leaveFrame_126
    rw [nI_1]
    split
    · exact ih h hf (i + 1) m (by omega)
    · obtain ⟨S2, g1, g2, g3⟩ := dc_pop h hf
      rw [bnd_e g1]
      dsimp only
      rw [bnd_e (fCo_put_eq S2 _ _)]
      obtain ⟨h3, f3⟩ := put g2 g3 (nI i) 0
      exact ih h3 f3 (i + 1) m (by omega)
theorem dc_lf {p : Int32 × Int32} {T : qS} {x : Int32} {S : qS} (h : RR p S T) (hf : ¬ S.1 7 = 0) : DC p T (cLf S x) := by
  have put : ∀ {S : qS}, RR p S T → ¬ S.1 7 = 0 → ∀ r v : Int32, RR p (cPut S r v) T ∧ ¬ (cPut S r v).1 7 = 0 := fun h hf r v => ⟨RR_pc h hf r v, by rw [cPut_f]; exact hf⟩
  obtain ⟨S1, a1, a2, a3⟩ := dc_pop h hf
  obtain ⟨b1, b2⟩ := put a2 a3 12 0
  obtain ⟨S2, d1, d2, d3⟩ := dc_pop b1 b2
  obtain ⟨e1, e2⟩ := put d2 d3 13 0
  obtain ⟨S3, f1, f2, f3⟩ := dc_pop e1 e2
  obtain ⟨g1, g2⟩ := put f2 f3 15 0
  unfold cLf
  rw [bnd_e a1]
  dsimp only
  rw [bnd_e (fCo_put_eq S1 12 _), bnd_e d1]
  dsimp only
  rw [bnd_e (fCo_put_eq S2 13 _), bnd_e f1]
  dsimp only
  rw [bnd_e (fCo_put_eq S3 15 _)]
  exact dc_lfl 12 g1 g2 0 287 rfl
theorem dm_lfl {p : Int32 × Int32} {S : qS} (hf : ¬ S.1 7 = 0) {x : Int32} (k : Nat) : ∀ {T : qS}, RR p S T → ∀ (i m : Nat), i + k = 12 → DT p S (fM_comeBack_69 (k + 1 + m) T x (nI i)) := by
  have e155 : ∀ {T : qS}, RR p S T → DT p S (fM_comeBack_155 T x) := fun h => ⟨_, rfl, RR_sm h hf _⟩
  induction k with
  | zero =>
    intro T h i m hi
    have c12 : (12 : Int32) ≤ nI i := (nI_lei (a := 12) (by omega) (by omega)).mpr (by omega)
    rw [show 0 + 1 + m = m + 1 by omega, fM_comeBack_69, if_pos c12, bnd_e (fM_get_eq T i16_14)]
    dsimp only
    rw [bnd_e (fM_put_eq T _ i16_14)]
    have h1 := RR_pm h hf 14 (mGet T 14 + ushr x 30)
    split
    · exact e155 h1
    · obtain ⟨v, T2, g1, g2⟩ := dm_pop h1 hf
      rw [bnd_e g1]
      dsimp only
      rw [bnd_e (fM_get_eq T2 i16_14)]
      dsimp only
      rw [bnd_e (fM_put_eq T2 _ i16_14)]
      exact e155 (RR_pm g2 hf _ _)
  | succ k ih =>
    intro T h i m hi
    have c12 : ¬ (12 : Int32) ≤ nI i := fun w => by
      have := (nI_lei (a := 12) (by omega) (by omega)).mp w
      omega
    rw [show k + 1 + 1 + m = (k + 1 + m) + 1 by omega, fM_comeBack_69, if_neg c12]
    unfold fM_comeBack_97
    rw [nI_1]
    split
    · exact ih h (i + 1) m (by omega)
    · obtain ⟨v, T2, g1, g2⟩ := dm_pop h hf
      rw [bnd_e g1, chk_t (inb_nI (by omega) (by decide)), mPut_n T2 (by omega)]
      exact ih (RR_pm g2 hf _ _) (i + 1) m (by omega)
theorem dm_lf {p : Int32 × Int32} {S : qS} (hf : ¬ S.1 7 = 0) {x : Int32} {T : qS} (h : RR p S T) : DT p S (fM_comeBack_34 T x) := by
  have e12 : ∀ (Q : qS) (w : Int32), pA Q 1 12 w = mPut Q 12 w := fun Q w => mPut_n Q (i := 12) (by decide) w
  have e13 : ∀ (Q : qS) (w : Int32), pA Q 1 13 w = mPut Q 13 w := fun Q w => mPut_n Q (i := 13) (by decide) w
  obtain ⟨v1, T1, a1, a2⟩ := dm_pop h hf
  obtain ⟨v2, T2, b1, b2⟩ := dm_pop (RR_pm a2 hf 12 v1) hf
  obtain ⟨v3, T3, d1, d2⟩ := dm_pop (RR_pm b2 hf 13 v2) hf
  unfold fM_comeBack_34
  rw [bnd_e a1]
  dsimp only
  rw [e12, bnd_e b1]
  dsimp only
  rw [e13, bnd_e d1]
  dsimp only
  rw [mPut_15]
  exact dm_lfl hf 12 (RR_pm d2 hf 15 v3) 0 287 rfl
theorem c4 {p : Int32 × Int32} {S T : qS} (h : RR p S T) : PK p S T (fCd_leaveFrame S) (fM_comeBack T) := by
  have e13 : gA T 1 13 = mGet T 13 := (if_neg (by decide)).symm
  have h1 : RR p (cPut S 14 (cGet S 13 + 4)) (mPut T 14 (gA T 1 13 + 4)) := RR_put h i16_14 (fun q => by rw [e13, RR_get h i16_13 q])
  obtain ⟨v, v', S2, T2, b1, b2, b3, b4, b5, b6⟩ := RR_pop h1
  unfold fCd_leaveFrame fM_comeBack
  rw [bnd_e (fCo_get_eq S 13)]
  dsimp only
  rw [bnd_e (fCo_put_eq S 14 _), bnd_e (fM_put_eq T _ i16_14), bnd_e b1, bnd_e b2]
  dsimp only
  by_cases hf2 : S2.1 7 = 0
  · have e := b4 hf2
    subst e
    by_cases q : (v' &&& 65488) = 0
    · rw [if_pos q, if_pos q]
      obtain ⟨S', T', r1, r2, r3, r4, r5⟩ := lf_chain (x := v') b3
      exact ⟨S', T', r1, r2, r3, fun _ => ⟨KC_t (KC_put _ _ _) (KC_t b5 r4), KM_t (KM_put _ _ _) (KM_t b6 r5)⟩⟩
    · obtain ⟨r1, T9, r2, r3, r4⟩ := RR_w2 b3 hf2
      rw [if_neg q, if_neg q, bnd_e r1, bnd_e r2]
      obtain ⟨T', m1, m2⟩ := dm_lf r4 (x := v') r3
      exact ⟨_, T', rfl, m1, m2, fun w => absurd w r4⟩
  · refine PK_d b3 hf2 (fun T9 h9 => ?_) ?_
    · split
      · exact dc_lf h9 hf2
      · rw [bnd_e (dc_raise hf2 2)]
        exact ⟨S2, rfl, h9, hf2⟩
    · split
      · exact dm_lf hf2 b3
      · rw [bnd_e (dm_wrong b3 hf2 _ _ _)]
        exact dm_lf hf2 b3
