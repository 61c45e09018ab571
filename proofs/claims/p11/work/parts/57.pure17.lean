/-! Pure part 17: exceptions. -/
theorem cw93_2 (n : Nat) : ∀ (S : qS) (x z i : Int32) (S' : qS), fCo_write_93 n S x z i = some S' → S'.2 2 = S.2 2 := by
  induction n with
  | zero => intro S x z i S' h; rw [fCo_write_93] at h; cases h
  | succ n ih =>
    intro S x z i S' h
    have tail : ∀ S2 : qS, fCo_write_136 (fCo_write_93 n) S2 x z i = some S' → S'.2 2 = S2.2 2 := fun S2 q => by
      unfold fCo_write_136 at q
      obtain ⟨-, q⟩ := chk_s q
      rw [bnd_e (fSt_putByte_eq S2 _ _)] at q
      have e := ih _ _ _ _ _ q
      exact e
    rw [fCo_write_93] at h
    by_cases c1 : z ≤ i
    · rw [if_pos c1] at h; cases h; rfl
    · rw [if_neg c1] at h
      by_cases c2 : 4 ≤ i
      · rw [if_pos c2] at h; cases h; rfl
      · rw [if_neg c2] at h
        by_cases c3 : ¬ S.1 7 = 0
        · rw [if_pos c3] at h; cases h; rfl
        · rw [if_neg c3] at h
          obtain ⟨-, h⟩ := chk_s h
          by_cases c4 : gA S 6 i < 0
          · rw [if_pos c4] at h; exact tail S h
          · rw [if_neg c4] at h
            obtain ⟨-, h⟩ := chk_s h
            unfold fPg_markModified at h
            rw [bnd_e (fSt_byteAt_eq S _)] at h
            dsimp only at h
            rw [bnd_e (fSt_putByte_eq S _ _)] at h
            obtain ⟨S9, e9, h⟩ := bnd_s h
            cases e9
            have e := tail _ h
            exact e
theorem cw3_2 (n : Nat) : ∀ (S : qS) (a x z i : Int32) (S' : qS), fCo_write_3 n S a x z i = some S' → S'.2 2 = S.2 2 := by
  induction n with
  | zero => intro S a x z i S' h; rw [fCo_write_3] at h; cases h
  | succ n ih =>
    intro S a x z i S' h
    rw [fCo_write_3] at h
    by_cases c1 : z ≤ i
    · rw [if_pos c1] at h; exact cw93_2 _ _ _ _ _ _ h
    · rw [if_neg c1] at h
      by_cases c2 : 4 ≤ i
      · rw [if_pos c2] at h; exact cw93_2 _ _ _ _ _ _ h
      · rw [if_neg c2] at h
        by_cases c3 : ¬ S.1 7 = 0
        · rw [if_pos c3] at h; exact cw93_2 _ _ _ _ _ _ h
        · rw [if_neg c3, bnd_e (fCo_mode_eq S)] at h
          dsimp only at h
          rw [bnd_e (fPg_locate_eq S _ _ _)] at h
          dsimp only at h
          obtain ⟨-, h⟩ := chk_s h
          obtain ⟨-, h⟩ := chk_s h
          obtain ⟨-, h⟩ := chk_s h
          split at h
          · have e := ih _ _ _ _ _ _ h
            exact e
          · obtain ⟨-, h⟩ := chk_s h
            obtain ⟨S9, e9, h⟩ := bnd_s h
            have e9 := (fCo_refuse_eq (S := pA (pA (pI S 4 (spl (cLong S) (S.2 1) (a + i) 1 (cMode S)).2) 5 i (spl (cLong S) (S.2 1) (a + i) 1 (cMode S)).1) 6 i ((pA (pI S 4 (spl (cLong S) (S.2 1) (a + i) 1 (cMode S)).2) 5 i (spl (cLong S) (S.2 1) (a + i) 1 (cMode S)).1).1 4)) (Classical.not_not.mp c3) _ _).symm.trans e9
            cases e9
            have e := ih _ _ _ _ _ _ h
            exact e
theorem cGet_15 (S : qS) : cGet S 15 = S.2 2 15 := if_neg (by decide)
theorem push_15 {S S' : qS} {x : Int32} (h : fCo_push S x = some S') : cGet S' 15 = cGet S 15 := by
  unfold fCo_push at h
  rw [bnd_e (fCo_get_eq S 14)] at h
  obtain ⟨S1, h1, h⟩ := bnd_s h
  rw [bnd_e (fCo_get_eq S1 14)] at h
  dsimp only at h
  rw [bnd_e (fCo_put_eq S1 14 _)] at h
  cases h
  have e := cw3_2 _ _ _ _ _ _ _ h1
  rw [cGet_15, cGet_15]
  unfold cPut
  rw [if_pos rfl]
  show S1.2 2 _ = S.2 2 _
  rw [e]
/-- alike but for faults -/
def RB (p : Int32 × Int32) (S T : qS) : Prop := RG p S T ∧ RL S T
theorem RB_RS {p : Int32 × Int32} {S T : qS} (h : RB p S T) : RS p S T := by
  obtain ⟨⟨h1, h2, h3, h4, h5, h6, h7, h8, h9, h10, h11⟩, l1, l2, l3⟩ := h
  refine ⟨h1, fun i hi => ?_, l1, l3, h8, h9, h10, h11⟩
  rcases Nat.lt_or_ge i 4 with q | q
  · exact l2 i q
  · exact h2 i q hi
/-- the last part -/
theorem ex110 {p : Int32 × Int32} {S T : qS} (h : RR p S T) (c : Int32) : ∃ S' T', fX_except_110 S c = some S' ∧ fM_raise_106 T c = some T' ∧ RS p S' T' := by
  by_cases hf : S.1 7 = 0
  · have hT : T.1 7 = 0 := (RR_f h).trans hf
    have hi := RR_i h hf
    have e17 : gA T 2 17 = gA S 1 17 := hi 17 (by decide)
    unfold fX_except_110 fM_raise_106
    rw [if_pos hf, if_pos hT, bnd_e (fSt_longAt_eq S _), bnd_e (fM_bare_eq T _), e17, RM_L (RR_m h)]
    dsimp only
    rw [bnd_e (fCo_put_eq S 15 _)]
    refine ⟨_, _, rfl, rfl, ?_⟩
    rw [mPut_15]
    have hR := RR_put h i16_15 (v := cLong S (gA S 1 17 + 4 * c)) (v' := cLong S (gA S 1 17 + 4 * c)) (fun _ => rfl)
    have hR2 := RR_d (RR_d hR (Or.inl rfl) c) (Or.inr (Or.inl rfl)) ((pI (mPut T 15 (cLong S (gA S 1 17 + 4 * c))) 4 c).1 5 + 1)
    exact RB_RS ⟨hR2.1, hR2.2 (by rw [cPut_f]; exact hf)⟩
  · have hT : ¬ T.1 7 = 0 := by rw [RR_f h]; exact hf
    obtain ⟨S1, T1, b1, b2, b3, b4, b5, b6, -, -⟩ := RR_back h.1
    unfold fX_except_110 fM_raise_106
    rw [if_neg hf, if_neg hT, bnd_e b1, bnd_e b2]
    refine ⟨_, _, rfl, rfl, ?_⟩
    obtain ⟨g1, g2, g3, g4, g5, g6, g7, g8, g9, g10, g11⟩ := b3
    refine ⟨g1, fun i hi => ?_, b4, b6, rfl, g9, g10, g11⟩
    rcases Nat.lt_or_ge i 4 with q | q
    · exact b5 i q
    · exact g2 i q hi
/-- which words are pushed -/
def exK (S T : qS) (c n a4 a5 b3 : Int32) : Prop :=
  ((c = 4 ∨ c = 5) ∧ n = 2 ∧ T.1 8 = a4 ∧ T.1 9 = a5) ∨ (¬ c = 4 ∧ ¬ c = 5 ∧ c ≤ 6 ∧ n = 0) ∨ (¬ c = 4 ∧ ¬ c = 5 ∧ ¬ c ≤ 6 ∧ n = 1 ∧ b3 = a4)
theorem RR_except {p : Int32 × Int32} {S T : qS} (h : RB p S T) {c m n a4 a5 b3 : Int32} (hk : exK S T c n a4 a5 b3) : ∃ S' T', fX_except S c m n a4 a5 = some S' ∧ fM_raise T c m b3 = some T' ∧ RS p S' T' := by
  obtain ⟨hG, hL⟩ := h
  have h0 : RR p (pI (pI (pI S 2 c) 3 ((pI S 2 c).1 3 + 1)) 7 0) (pI T 7 0) := by
    obtain ⟨g1, g2, g3, g4, g5, g6, g7, g8, g9, g10, g11⟩ := hG
    obtain ⟨l1, l2, l3⟩ := hL
    exact ⟨⟨g1, g2, g3, g4, g5, ⟨rfl, (⟨by decide, by decide⟩ : fv 0)⟩, fun q => by rcases q with q | q; exact absurd (show (0 : Int32) = 4 from q) (by decide); exact absurd (show (0 : Int32) = 5 from q) (by decide), g8, g9, g10, g11⟩, fun _ => ⟨l1, l2, l3⟩⟩
  have hf0 : (pI (pI (pI S 2 c) 3 ((pI S 2 c).1 3 + 1)) 7 0).1 7 = 0 := rfl
  have e15 : gA T 1 15 = (pI (pI (pI S 2 c) 3 ((pI S 2 c).1 3 + 1)) 7 0).2 2 15 := hL.1 15 (by decide)
  have em : ((T.1 1) >>> ((24 : Int32) &&& 31)) &&& 3 = cMode (pI (pI (pI S 2 c) 3 ((pI S 2 c).1 3 + 1)) 7 0) := RL_mode (h0.2 hf0)
  have e6 : T.1 1 = (pI (pI (pI S 2 c) 3 ((pI S 2 c).1 3 + 1)) 7 0).1 6 := hL.2.2
  have k8 : (pI T 7 0).1 8 = T.1 8 := rfl
  unfold fX_except fM_raise
  rw [bnd_e (fCo_mode_eq _)]
  dsimp only
  rw [em, e6]
  generalize pI (pI (pI S 2 c) 3 ((pI S 2 c).1 3 + 1)) 7 0 = S0 at *
  have h1 := RR_st h0 (v := (m <<< ((24 : Int32) &&& 31)) ||| (cMode S0 <<< ((22 : Int32) &&& 31))) (v' := (m <<< ((24 : Int32) &&& 31)) ||| (cMode S0 <<< ((22 : Int32) &&& 31))) (fun _ => rfl)
  have e15b : gA T 1 15 = (pI S0 6 ((m <<< ((24 : Int32) &&& 31)) ||| (cMode S0 <<< ((22 : Int32) &&& 31)))).2 2 15 := e15
  generalize pI S0 6 ((m <<< ((24 : Int32) &&& 31)) ||| (cMode S0 <<< ((22 : Int32) &&& 31))) = S1 at *
  generalize pI (pI T 7 0) 1 ((m <<< ((24 : Int32) &&& 31)) ||| (cMode S0 <<< ((22 : Int32) &&& 31))) = T1 at *
  obtain ⟨S2, T2, a1, a2, a3, -, -⟩ := RR_push h1 (x := S0.1 6) (x' := S0.1 6) (fun _ => rfl)
  rw [bnd_e a1, bnd_e a2, bnd_e (fCo_get_eq S2 15)]
  dsimp only
  obtain ⟨S3, T3, b1, b2, b3', -, -⟩ := RR_push a3 (x := cGet S2 15) (x' := gA T 1 15) (fun _ => by rw [push_15 a1, cGet_15]; exact e15b)
  rw [bnd_e b1, bnd_e b2]
  rcases hk with ⟨hc, rfl, r8, r9⟩ | ⟨c4, c5, c6, rfl⟩ | ⟨c4, c5, c6, rfl, hb⟩
  · obtain ⟨S4, T4, d1, d2, d3, -, -⟩ := RR_push b3' (x := a4) (x' := T.1 8) (fun _ => r8)
    obtain ⟨S5, T5, f1, f2, f3, -, -⟩ := RR_push d3 (x := a5) (x' := T.1 9) (fun _ => r9)
    have c6 : c ≤ 6 := by rcases hc with rfl | rfl <;> decide
    rw [if_neg (by decide), bnd_e d1]
    unfold fX_except_96
    rw [if_neg (by decide), bnd_e f1]
    obtain ⟨S', T', g1, g2, g3⟩ := ex110 f3 c
    have e73 : fM_raise_73 T3 c b3 (T.1 8) (T.1 9) = some T' := by
      unfold fM_raise_73
      rw [bnd_e d2]
      have e89 : fM_raise_89 T4 c b3 (T.1 9) = some T' := by
        unfold fM_raise_89
        rw [bnd_e f2]
        unfold fM_raise_95
        rw [if_pos c6]
        exact g2
      unfold fM_raise_79
      by_cases q : c = 4
      · rw [if_pos q]; exact e89
      · rw [if_neg q, if_neg (not_not_intro (hc.resolve_left q))]; exact e89
    refine ⟨S', T', g1, ?_, g3⟩
    by_cases q : c = 4
    · rw [if_pos q]; exact e73
    · rw [if_neg q, if_neg (not_not_intro (hc.resolve_left q))]; exact e73
  · obtain ⟨S', T', g1, g2, g3⟩ := ex110 b3' c
    rw [if_pos (by decide), if_neg c4, if_pos c5]
    unfold fX_except_96 fM_raise_79
    rw [if_pos (by decide), if_neg c4, if_pos c5]
    unfold fM_raise_95
    rw [if_pos c6]
    exact ⟨S', T', g1, g2, g3⟩
  · obtain ⟨S4, T4, d1, d2, d3, -, -⟩ := RR_push b3' (x := a4) (x' := b3) (fun _ => hb)
    obtain ⟨S', T', g1, g2, g3⟩ := ex110 d3 c
    rw [if_neg (by decide), if_neg c4, if_pos c5, bnd_e d1]
    unfold fX_except_96 fM_raise_79
    rw [if_pos (by decide), if_neg c4, if_pos c5]
    unfold fM_raise_95
    rw [if_neg c6, bnd_e d2]
    exact ⟨S', T', g1, g2, g3⟩
