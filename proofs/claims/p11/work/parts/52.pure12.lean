/-! Pure part 12: write, its second half. -/
theorem nI_cl {i : Nat} (h : i < 2 ^ 31) : (nI i).toNatClampNeg = i := by
  show (nI i).toInt.toNat = i
  rw [nI_toInt h]; rfl
def WA (z : Nat) (S T : qS) : Prop := ∀ j : Nat, j < z → inb (T.2 8 j) 2048 = true ∧ S.2 5 j = T.2 8 j ∧ S.2 6 j = T.2 9 j
theorem wr2 {p : Int32 × Int32} (z : Nat) (hz : z ≤ 4) (k : Nat) : ∀ {S T : qS}, RR p S T → S.1 7 = 0 → WA z S T → ∀ (i m : Nat), i + k = z → ∀ x : Int32, ∃ S' T', fCo_write_93 (k + 1 + m) S x (nI z) (nI i) = some S' ∧ fM_write_93 (k + 1 + m) T x (nI z) (nI i) = some T' ∧ RR p S' T' ∧ KC S S' ∧ KM T T' ∧ S'.1 7 = 0 := by
  induction k with
  | zero =>
    intro S T h hf hw i m hi x
    have hc : nI z ≤ nI i := (nI_lei (by omega) (by omega)).mpr (by omega)
    refine ⟨S, T, ?_, ?_, h, KC_r S, KM_r T, hf⟩
    · rw [show 0 + 1 + m = m + 1 by omega, fCo_write_93, if_pos hc]; rfl
    · rw [show 0 + 1 + m = m + 1 by omega, fM_write_93, if_pos hc]; rfl
  | succ k ih =>
    intro S T h hf hw i m hi x
    have hT : T.1 7 = 0 := (RR_f h).trans hf
    have hc : ¬ nI z ≤ nI i := fun q => by
      have := (nI_lei (by omega) (by omega)).mp q
      omega
    have hc4 : ¬ 4 ≤ nI i := fun q => by
      have := (nI_lei (a := 4) (b := i) (by omega) (by omega)).mp q
      omega
    have h4 : inb (nI i) 4 = true := inb_nI (by omega) (by decide)
    obtain ⟨w1, w2, w3⟩ := hw i (by omega)
    have g5 : ∀ S2 : qS, S2.2 5 = S.2 5 → gA S2 5 (nI i) = T.2 8 i := fun S2 q => by unfold gA; rw [nI_cl (by omega), q]; exact w2
    have g8 : ∀ T2 : qS, T2.2 8 = T.2 8 → gA T2 8 (nI i) = T.2 8 i := fun T2 q => by unfold gA; rw [nI_cl (by omega), q]
    have g6 : gA S 6 (nI i) = T.2 9 i := by unfold gA; rw [nI_cl (by omega)]; exact w3
    have g9 : gA T 9 (nI i) = T.2 9 i := by unfold gA; rw [nI_cl (by omega)]
    have hv : (x >>> ((8 * nI i) &&& 31)) &&& 255 = (ushr x (8 * nI i)).toInt8.toInt32 &&& 255 := by
      rw [byte_rel, show (8 : Int32) * nI i = nI (8 * i) from pk_mul 8 i]
      exact sh_255 (8 * i) (by omega) x
    have tail : ∀ S2 T2 : qS, RR p S2 T2 → S2.1 7 = 0 → S2.2 5 = S.2 5 → S2.2 6 = S.2 6 → T2.2 8 = T.2 8 → T2.2 9 = T.2 9 → KC S S2 → KM T T2 → ∃ S' T', fCo_write_136 (fCo_write_93 (k + 1 + m)) S2 x (nI z) (nI i) = some S' ∧ fM_write_138 (fM_write_93 (k + 1 + m)) T2 x (nI z) (nI i) = some T' ∧ RR p S' T' ∧ KC S S' ∧ KM T T' ∧ S'.1 7 = 0 := by
      intro S2 T2 r1 r2 r5 r6 r8 r9 k1 k2
      have r3 : RR p (pA S2 0 (T.2 8 i) (ushr x (8 * nI i)).toInt8.toInt32) (pA T2 0 (T.2 8 i) ((x >>> ((8 * nI i) &&& 31)) &&& 255)) := RR_by r1 _ hv
      have hw2 : WA z (pA S2 0 (T.2 8 i) (ushr x (8 * nI i)).toInt8.toInt32) (pA T2 0 (T.2 8 i) ((x >>> ((8 * nI i) &&& 31)) &&& 255)) := fun j hj => by
        have := hw j hj
        rw [← r8, ← r5, ← r6, ← r9] at this
        exact this
      obtain ⟨S', T', a1, a2, a3, a4, a5, a6⟩ := ih r3 r2 hw2 (i + 1) m (by omega) x
      refine ⟨S', T', ?_, ?_, a3, KC_t k1 (KC_t (KC_a _ _ _ _) a4), KM_t k2 (KM_t (KM_a (Or.inl (by decide)) _ _) a5), a6⟩
      · unfold fCo_write_136
        rw [chk_t h4, g5 S2 r5, bnd_e (fSt_putByte_eq S2 _ _), am_id w1, nI_1]
        exact a1
      · unfold fM_write_138
        rw [chk_t h4, g8 T2 r8, chk_t w1, nI_1]
        exact a2
    rw [show k + 1 + 1 + m = (k + 1 + m) + 1 by omega, fCo_write_93, fM_write_93, if_neg hc, if_neg hc, if_neg hc4, if_neg (not_not_intro hf), if_neg (not_not_intro hT)]
    simp only [chk_t h4]
    rw [g6, g9]
    by_cases he : T.2 9 i < 0
    · rw [if_pos he, if_pos he]
      exact tail S T h hf rfl rfl rfl rfl (KC_r S) (KM_r T)
    · rw [if_neg he, if_neg he, chk_t (inb_2047 _), chk_t (inb_2047 _)]
      have em : fPg_markModified S (T.2 9 i) = some (pA S 0 ((T.2 9 i + 3) &&& 2047) ((cB S (T.2 9 i + 3) &&& 255) ||| 4).toInt8.toInt32) := by
        unfold fPg_markModified
        rw [bnd_e (fSt_byteAt_eq S _)]
        dsimp only
        rw [bnd_e (fSt_putByte_eq S _ _)]
      have ev : gA T 0 ((T.2 9 i + 3) &&& 2047) ||| 4 = ((cB S (T.2 9 i + 3) &&& 255) ||| 4).toInt8.toInt32 &&& 255 := by
        rw [byte_rel, or4]
        have := RM_B (RR_m h) (T.2 9 i + 3)
        unfold mB at this
        rw [this]
      rw [bnd_e em]
      exact tail _ _ (RR_by h _ ev) hf rfl rfl rfl rfl (KC_a _ _ _ _) (KM_a (Or.inl (by decide)) _ _)
