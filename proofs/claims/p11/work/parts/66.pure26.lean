/-! Pure part 26: codes 10 to 24, 42 to 45. -/
theorem fM_isInner_eq (T : qS) (k : Int32) : ∃ r, fM_isInner T k = some (r, T) ∧ ((r = 1 ∧ isIn k) ∨ (r = 0 ∧ ¬ isIn k)) := by
  have h21 : ¬ (0 ≤ k ∧ k < 4) → ¬ (8 ≤ k ∧ k ≤ 13) → ∃ r, fM_isInner_21 T k = some (r, T) ∧ ((r = 1 ∧ isIn k) ∨ (r = 0 ∧ ¬ isIn k)) := by
    intro n1 n2
    unfold fM_isInner_21
    by_cases c1 : k = 17
    · rw [if_pos c1]; exact ⟨1, rfl, Or.inl ⟨rfl, Or.inr (Or.inr (Or.inl c1))⟩⟩
    · rw [if_neg c1]
      by_cases c2 : k = 56
      · rw [if_neg (not_not_intro c2)]; exact ⟨1, rfl, Or.inl ⟨rfl, Or.inr (Or.inr (Or.inr c2))⟩⟩
      · rw [if_pos c2]; exact ⟨0, rfl, Or.inr ⟨rfl, fun h => by rcases h with h | h | h | h; exact n1 h; exact n2 h; exact c1 h; exact c2 h⟩⟩
  have e7 : (7 : Int32).toInt = 7 := by decide
  have e8 : (8 : Int32).toInt = 8 := by decide
  have e13 : (13 : Int32).toInt = 13 := by decide
  have e14 : (14 : Int32).toInt = 14 := by decide
  have h9 : ¬ (0 ≤ k ∧ k < 4) → ∃ r, fM_isInner_9 T k = some (r, T) ∧ ((r = 1 ∧ isIn k) ∨ (r = 0 ∧ ¬ isIn k)) := by
    intro n1
    unfold fM_isInner_9
    by_cases c1 : k ≤ 7
    · rw [if_pos c1]
      refine h21 n1 (fun h => ?_)
      rw [Int32.le_iff_toInt_le] at c1
      have h1 := Int32.le_iff_toInt_le.mp h.1
      omega
    · rw [if_neg c1]
      have c1' : 8 ≤ k := by
        rw [Int32.le_iff_toInt_le] at c1 ⊢
        omega
      by_cases c2 : k < 14
      · rw [if_pos c2]
        have c2' : k ≤ 13 := by
          rw [Int32.lt_iff_toInt_lt] at c2
          rw [Int32.le_iff_toInt_le]
          omega
        exact ⟨1, rfl, Or.inl ⟨rfl, Or.inr (Or.inl ⟨c1', c2'⟩)⟩⟩
      · rw [if_neg c2]
        refine h21 n1 (fun h => c2 ?_)
        have h2 := Int32.le_iff_toInt_le.mp h.2
        rw [Int32.lt_iff_toInt_lt]
        omega
  unfold fM_isInner
  by_cases c1 : k < 0
  · rw [if_pos c1]
    refine h9 (fun h => ?_)
    rw [Int32.lt_iff_toInt_lt] at c1
    have h1 := Int32.le_iff_toInt_le.mp h.1
    omega
  · rw [if_neg c1]
    have c1' : 0 ≤ k := nlt_le.mp c1
    by_cases c2 : k < 4
    · rw [if_pos c2]; exact ⟨1, rfl, Or.inl ⟨rfl, Or.inl ⟨c1', c2⟩⟩⟩
    · rw [if_neg c2]; exact h9 (fun h => c2 h.2)
theorem RR_inn {p : Int32 × Int32} {S T : qS} (h : RR p S T) (k v : Int32) : RR p (pA S 1 k v) (pA T 2 k v) := by
  obtain ⟨⟨h1, h2, h3⟩, hl⟩ := h
  refine ⟨⟨h1, fun i hi hi2 => ?_, h3⟩, fun q => ?_⟩
  · show upd (T.2 2) _ v i = upd (S.2 1) _ v i
    exact upd_2 (h2 i hi hi2) rfl
  · obtain ⟨l1, l2, l3⟩ := hl q
    refine ⟨l1, fun i hi => ?_, l3⟩
    show upd (T.2 2) _ v i = upd (S.2 1) _ v i
    exact upd_2 (l2 i hi) rfl
theorem OW_K {k : Nat} (hk : k < 3) {S S' T T' : qS} (h1 : KC S S') (h2 : KM T T') (h : OW k S T) : OW k S' T' := by
  have e12 := h1 (12 + 4 * k) (by omega)
  have e13 := h1 (13 + 4 * k) (by omega)
  have m6 := h2.1 6 (by decide) (by decide)
  have m7 := h2.1 7 (by decide) (by decide)
  unfold OW at *
  rw [e12, e13, m6, m7]
  exact h
theorem io72_d {T : qS} (hT : ¬ T.1 7 = 0) (c k : Int32) : fM_innerOnes_72 T c k = some T := by
  unfold fM_innerOnes_72
  rw [if_neg hT]
theorem c10 {p : Int32 × Int32} {S T : qS} (h : RR p S T) (hf : S.1 7 = 0) {k v : Int32} (hk : T.2 5 1 = k) (hv : T.2 5 0 = v) : PK p S T (fCd_giveInner S k v) (fM_innerOnes T 10) := by
  have hT : T.1 7 = 0 := (RR_f h).trans hf
  have g1 : gA T 5 1 = k := hk
  have g0 : gA T 5 0 = v := hv
  obtain ⟨r, a1, a2⟩ := fCo_hasInner_eq S k
  obtain ⟨r', b1, b2⟩ := fM_isInner_eq T k
  obtain ⟨w1, T9, w2, w3, w4⟩ := RR_w2 h hf
  have no : PK p S T (fCd_giveInner_26 S) (fM_innerOnes_59 T 10 k) := by
    unfold fCd_giveInner_26 fM_innerOnes_59 fM_innerOnes_60
    rw [bnd_e w1, if_neg (by decide), bnd_e w2, io72_d (by rw [RR_f w3]; exact w4)]
    exact ⟨_, _, rfl, rfl, w3, fun q => absurd q w4⟩
  have yes : isIn k → PK p S T (fCd_giveInner_35 S k v) (fM_innerOnes_55 T 10 k) := fun hin => by
    have i57 := isIn_inb hin
    unfold fCd_giveInner_35 fM_innerOnes_55 fM_innerOnes_60 fM_innerOnes_72
    rw [bnd_e (fCo_putInner_eq S k v hin), if_pos (by decide), if_pos hT, if_neg (by decide), chk_t i57, g0]
    unfold fM_innerOnes_98 fM_innerOnes_120
    rw [chk_t i57, if_pos (by decide), if_pos (by decide)]
    exact ⟨_, _, rfl, rfl, RR_inn h k v, fun _ => ⟨KC_a _ _ _ _, KM_a (Or.inl (by decide)) _ _⟩⟩
  rw [show fM_innerOnes T 10 = fM_innerOnes_15 T 10 1 from rfl]
  unfold fCd_giveInner fM_innerOnes_15
  rw [bnd_e a1, chk_t (by decide), g1, bnd_e b1]
  dsimp only
  rcases a2 with ⟨rfl, hin⟩ | ⟨rfl, hin⟩
  · rcases b2 with ⟨rfl, -⟩ | ⟨-, n⟩
    · rw [if_neg (show ¬ (1 : Int32) = 0 by decide), if_neg (show ¬ (1 : Int32) = 0 by decide), if_neg (show ¬ (10 : Int32) = 11 by decide)]
      by_cases q : k = 56
      · rw [if_neg (not_not_intro q), if_neg (not_not_intro q), g0]
        by_cases q0 : v = 0
        · rw [if_pos q0, if_pos q0]; exact yes hin
        · rw [if_neg q0, if_neg q0]
          by_cases q1 : v = 1
          · rw [if_pos q1, if_neg (not_not_intro q1)]; exact yes hin
          · rw [if_neg q1, if_pos q1]; exact no
      · rw [if_pos q, if_pos q]; exact yes hin
    · exact absurd hin n
  · rcases b2 with ⟨-, n⟩ | ⟨rfl, -⟩
    · exact absurd n hin
    · rw [if_pos rfl, if_pos rfl]; exact no
theorem c11 {p : Int32 × Int32} {S T : qS} (h : RR p S T) (hf : S.1 7 = 0) {k : Int32} (hk : T.2 5 0 = k) (hz : S.1 15 = 4) (hw : OW 1 S T) : PK p S T (fCd_takeInner S k) (fM_innerOnes T 11) := by
  have hT : T.1 7 = 0 := (RR_f h).trans hf
  have g0 : gA T 5 0 = k := hk
  obtain ⟨r, a1, a2⟩ := fCo_hasInner_eq S k
  obtain ⟨r', b1, b2⟩ := fM_isInner_eq T k
  rw [show fM_innerOnes T 11 = fM_innerOnes_15 T 11 0 from rfl]
  unfold fCd_takeInner fM_innerOnes_15
  rw [bnd_e a1, chk_t (by decide), g0, bnd_e b1]
  dsimp only
  rcases a2 with ⟨rfl, hin⟩ | ⟨rfl, hin⟩
  · rcases b2 with ⟨rfl, -⟩ | ⟨-, n⟩
    · have i57 := isIn_inb hin
      have eg : gA T 2 k = gA S 1 k := RR_i h hf _ (ix_lt i57)
      rw [if_pos (show ¬ (1 : Int32) = 0 by decide), if_neg (show ¬ (1 : Int32) = 0 by decide), if_pos rfl, bnd_e (fCo_getInner_eq S k hin)]
      dsimp only
      unfold fM_innerOnes_55 fM_innerOnes_60 fM_innerOnes_72 fM_innerOnes_98
      rw [if_pos (by decide), if_pos hT, if_pos (by decide), chk_t i57, if_neg (by decide), bnd_e (mark_eq T _ 0 0), bnd_e (conc_eq S _ 0 0), eg]
      have h2 := RR_cD h (v := gA S 1 k) (v' := gA S 1 k) (o := 0) (o' := 0) (c := 0) (c' := 0) (fun _ => ⟨rfl, rfl, rfl⟩)
      obtain ⟨S', T', r1, r2, r3, r4, r5⟩ := RR_give h2 hf (k := 1) (by decide) (z := 4) (x := gA S 1 k) (x' := gA S 1 k) hz (Or.inr rfl) (OW_K (by decide) (KC_p (by decide) _) (KM_p _ _ _) hw) (Or.inl ⟨rfl, rfl⟩)
      have r2 : fM_give (pI T 1 (cD (T.1 1) (gA S 1 k) 0 0)) 1 (gA S 1 k) 4 = some T' := r2
      unfold fM_innerOnes_120
      rw [bnd_e r1, if_neg (by decide), bnd_e r2]
      exact ⟨S', T', rfl, rfl, r3, fun _ => ⟨KC_t (KC_p (by decide) _) r4, KM_t (KM_p _ _ _) r5⟩⟩
    · exact absurd hin n
  · rcases b2 with ⟨-, n⟩ | ⟨rfl, -⟩
    · exact absurd n hin
    · obtain ⟨w1, T9, w2, w3, w4⟩ := RR_w2 h hf
      rw [if_neg (show ¬ ¬ (0 : Int32) = 0 by decide), if_pos rfl, bnd_e w1]
      unfold fM_innerOnes_59 fM_innerOnes_60
      rw [if_neg (by decide), bnd_e w2, io72_d (by rw [RR_f w3]; exact w4)]
      exact ⟨_, _, rfl, rfl, w3, fun q => absurd q w4⟩
/-! moves -/
def mv (T : qS) (y1 y2 y3 k x z : Int32) : Option qS := (fM_mark T y1 y2 y3).bind fun S1 => (fM_give S1 k x z).bind fun S2 => fM_move_379 S2
def cv (S : qS) (v o c : Int32) (k : Nat) : Option qS := (fCo_conclude S v o c).bind fun S1 => (fCd_store S1 k v).bind fun S2 => some S2
theorem MV {p : Int32 × Int32} {S T : qS} (h : RR p S T) (hf : S.1 7 = 0) {k : Nat} (hk : k < 3) {z v o c x' : Int32} (hz : S.1 (11 + 4 * k) = z) (hz2 : z = 1 ∨ z = 4) (hw : OW k S T) (hx : (z = 4 ∧ x' = v) ∨ (z = 1 ∧ x' &&& 255 = v &&& 255)) : PK p S T (cv S v o c k) (mv T v o c (nI k) x' z) := by
  have h2 := RR_cD h (v := v) (v' := v) (o := o) (o' := o) (c := c) (c' := c) (fun _ => ⟨rfl, rfl, rfl⟩)
  obtain ⟨S', T', r1, r2, r3, r4, r5⟩ := RR_give h2 hf hk (z := z) (x := v) (x' := x') (by rw [pI_o _ _ (by omega)]; exact hz) hz2 (OW_K hk (KC_p (by decide) _) (KM_p _ _ _) hw) hx
  unfold cv mv
  rw [bnd_e (conc_eq S v o c), bnd_e (mark_eq T v o c), bnd_e r1, bnd_e r2]
  exact ⟨S', T', rfl, rfl, r3, fun _ => ⟨KC_t (KC_p (by decide) _) r4, KM_t (KM_p _ _ _) r5⟩⟩
def sg (x : Int32) : Int32 := (x <<< ((24 : Int32) &&& 31)) >>> ((24 : Int32) &&& 31)
theorem sg_eq (x : Int32) : sg x = x.toInt8.toInt32 := sgn x
theorem mh0 (T : qS) : fM_has T 0 = some (hB (T.1 1) 0, T) := mhas_eq T (i := 0) (by decide)
theorem ch1 (S : qS) : fCo_has S 1 = some (hB (S.1 6) 0, S) := has_eq S (i := 0) (by decide) m1
/-- the carry that stays -/
theorem cy_eq {α : Type} (x : Int32) (f : Int32 → α) : (if hB x 0 = 0 then f 0 else f 1) = f (hB x 0) := by
  rcases hB_01 x 0 with e | e
  · rw [e, if_pos rfl]
  · rw [e, if_neg (by decide)]
theorem mm (T : qS) (c y x k z : Int32) (e : fM_move T c = (fM_has T 0).bind fun q1 => if q1.1 = 0 then mv q1.2 y 0 0 k x z else mv q1.2 y 0 1 k x z) : fM_move T c = mv T y 0 (hB (T.1 1) 0) k x z := by
  rw [e, bnd_e (mh0 T)]
  exact cy_eq (T.1 1) (fun w => mv T y 0 w k x z)
theorem cm (S : qS) (c v : Int32) (k : Nat) (e : fCd_move S c = (fCo_has S 1).bind fun q1 => cv q1.2 v 0 q1.1 k) : fCd_move S c = cv S v 0 (hB (S.1 6) 0) k := by
  rw [e, bnd_e (ch1 S)]
theorem c12 {p : Int32 × Int32} {S T : qS} (h : RR p S T) (hf : S.1 7 = 0) (hz : S.1 11 = 4) (hw : OW 0 S T) : PK p S T (fCd_store S 0 (S.1 6)) (fM_move T 12) := by
  have e : fM_move T 12 = (fM_has T 0).bind fun q1 => (fM_give q1.2 0 (q1.2.1 1) 4).bind fun S1 => fM_move_379 S1 := rfl
  obtain ⟨S', T', r1, r2, r3, r4, r5⟩ := RR_give h hf (k := 0) (by decide) (z := 4) (x := S.1 6) (x' := T.1 1) hz (Or.inr rfl) hw (Or.inl ⟨rfl, (h.2 hf).2.2⟩)
  have r2 : fM_give T 0 (T.1 1) 4 = some T' := r2
  rw [e, bnd_e (mh0 T)]
  dsimp only
  rw [bnd_e r2, r1]
  exact ⟨S', T', rfl, rfl, r3, fun _ => ⟨r4, r5⟩⟩
theorem cyr {p : Int32 × Int32} {S T : qS} (h : RR p S T) (hf : S.1 7 = 0) : hB (T.1 1) 0 = hB (S.1 6) 0 := by rw [(h.2 hf).2.2]
theorem c13 {p : Int32 × Int32} {S T : qS} (h : RR p S T) (hf : S.1 7 = 0) (hv : T.2 5 0 = S.1 14) (hz : S.1 15 = 1) (hw : OW 1 S T) : PK p S T (fCd_move S 13) (fM_move T 13) := by
  have g0 : gA T 5 0 = S.1 14 := hv
  rw [mm T 13 (sg (gA T 5 0)) (gA T 5 0) 1 1 rfl, cm S 13 (S.1 14).toInt8.toInt32 1 rfl, sg_eq, g0, cyr h hf]
  exact MV h hf (k := 1) (by decide) hz (Or.inl rfl) hw (Or.inr ⟨rfl, (byte_rel _).symm⟩)
theorem c14 {p : Int32 × Int32} {S T : qS} (h : RR p S T) (hf : S.1 7 = 0) (hv : T.2 5 0 = S.1 14) (hz : S.1 15 = 4) (hw : OW 1 S T) : PK p S T (fCd_move S 14) (fM_move T 14) := by
  have g0 : gA T 5 0 = S.1 14 := hv
  rw [mm T 14 (gA T 5 0) (gA T 5 0) 1 4 rfl, cm S 14 (S.1 14) 1 rfl, g0, cyr h hf]
  exact MV h hf (k := 1) (by decide) hz (Or.inr rfl) hw (Or.inl ⟨rfl, rfl⟩)
theorem c15' {p : Int32 × Int32} {S T : qS} (h : RR p S T) (hf : S.1 7 = 0) (hv : T.2 5 0 = S.1 14) (hz : S.1 15 = 4) (hw : OW 1 S T) : PK p S T (fCd_move S 15) (fM_move T 15) := by
  have g0 : gA T 5 0 = S.1 14 := hv
  rw [mm T 15 (gA T 5 0) (gA T 5 0) 1 4 rfl, cm S 15 (S.1 14) 1 rfl, g0, cyr h hf]
  exact MV h hf (k := 1) (by decide) hz (Or.inr rfl) hw (Or.inl ⟨rfl, rfl⟩)
theorem c16 {p : Int32 × Int32} {S T : qS} (h : RR p S T) (hf : S.1 7 = 0) (hv : T.2 5 0 = S.1 14) (hz : S.1 15 = 4) (hw : OW 1 S T) : PK p S T (fCd_move S 16) (fM_move T 16) := by
  have g0 : gA T 5 0 = S.1 14 := hv
  rw [mm T 16 (sg (gA T 5 0)) (sg (gA T 5 0)) 1 4 rfl, cm S 16 (S.1 14).toInt8.toInt32 1 rfl, sg_eq, g0, cyr h hf]
  exact MV h hf (k := 1) (by decide) hz (Or.inr rfl) hw (Or.inl ⟨rfl, rfl⟩)
theorem c17 {p : Int32 × Int32} {S T : qS} (h : RR p S T) (hf : S.1 7 = 0) (hv : T.2 5 0 = S.1 14) (hz : S.1 15 = 1) (hw : OW 1 S T) : PK p S T (fCd_move S 17) (fM_move T 17) := by
  have g0 : gA T 5 0 = S.1 14 := hv
  have em : fM_move T 17 = fM_move_131 T 17 (gA T 5 0) (gA T 5 1) (hB (T.1 1) 0) (sg (gA T 5 0)) (sg (gA T 5 0)) := by
    unfold fM_move
    rw [bnd_e (mh0 T), if_pos (show ¬ (17 : Int32) = 12 by decide), if_neg (show ¬ (17 : Int32) = 16 by decide), if_neg (show ¬ ¬ (17 : Int32) = 17 by decide)]
    unfold fM_move_46
    dsimp only
    rw [bnd_e (show fM_signed T (gA T 5 0) = some (sg (gA T 5 0), T) from rfl)]
    unfold fM_move_108
    dsimp only
    rw [if_neg (show ¬ (17 : Int32) = 13 by decide), if_pos (show ¬ (17 : Int32) = 22 by decide)]
  have ec : fCd_move S 17 = if ¬ (S.1 14).toInt8.toInt32 = S.1 14 then fCd_move_37 S 17 (S.1 14).toInt8.toInt32 else fCd_move_25 S 17 (S.1 14) (S.1 14).toInt8.toInt32 := by
    unfold fCd_move
    rw [bnd_e (show fCd_moved S 17 (S.1 14) = some ((S.1 14).toInt8.toInt32, S) from rfl)]
    dsimp only
    rw [if_neg (show ¬ ¬ (17 : Int32) = 17 by decide)]
  rw [em, ec, g0, sg_eq]
  unfold fM_move_131
  rw [if_neg (show ¬ (17 : Int32) = 23 by decide), if_pos (show ¬ (17 : Int32) = 24 by decide), if_neg (show ¬ (17 : Int32) = 12 by decide), if_neg (show ¬ ¬ (17 : Int32) = 17 by decide)]
  have cw : ∀ o : Int32, fCd_move_42 S 17 (S.1 14).toInt8.toInt32 o = cv S (S.1 14).toInt8.toInt32 o 0 1 := fun o => by
    unfold fCd_move_42
    rw [bnd_e (ch1 S)]
    rfl
  have mw : ∀ o : Int32, fM_move_257 T 17 (S.1 14) (hB (T.1 1) 0) (S.1 14).toInt8.toInt32 (S.1 14).toInt8.toInt32 o = mv T (S.1 14).toInt8.toInt32 o 0 1 (S.1 14).toInt8.toInt32 1 := fun o => rfl
  by_cases q : (S.1 14).toInt8.toInt32 = S.1 14
  · rw [if_pos q, if_neg (not_not_intro q), mw, show fCd_move_25 S 17 (S.1 14) (S.1 14).toInt8.toInt32 = fCd_move_42 S 17 (S.1 14).toInt8.toInt32 0 from rfl, cw]
    exact MV h hf (k := 1) (by decide) hz (Or.inl rfl) hw (Or.inr ⟨rfl, rfl⟩)
  · rw [if_neg q, if_pos q, mw, show fCd_move_37 S 17 (S.1 14).toInt8.toInt32 = fCd_move_42 S 17 (S.1 14).toInt8.toInt32 1 from rfl, cw]
    exact MV h hf (k := 1) (by decide) hz (Or.inl rfl) hw (Or.inr ⟨rfl, rfl⟩)
theorem neg0 (x : Int32) : -x = 0 ↔ x = 0 := by
  refine ⟨fun h => ?_, fun h => by rw [h]; rfl⟩
  have := congrArg (fun y => -y) h
  rw [Int32.neg_neg] at this
  exact this
theorem c18 {p : Int32 × Int32} {S T : qS} (h : RR p S T) (hf : S.1 7 = 0) (hv : T.2 5 0 = S.1 14) (hz : S.1 15 = 4) (hw : OW 1 S T) : PK p S T (fCd_move S 18) (fM_move T 18) := by
  have g0 : gA T 5 0 = S.1 14 := hv
  have em : fM_move T 18 = (fM_has T 0).bind fun q1 => if ¬ gA T 5 0 = (-2147483648) then (if gA T 5 0 = 0 then mv q1.2 (-(gA T 5 0)) 0 0 1 (-(gA T 5 0)) 4 else mv q1.2 (-(gA T 5 0)) 0 1 1 (-(gA T 5 0)) 4) else (if gA T 5 0 = 0 then mv q1.2 (-(gA T 5 0)) 1 0 1 (-(gA T 5 0)) 4 else mv q1.2 (-(gA T 5 0)) 1 1 1 (-(gA T 5 0)) 4) := rfl
  have ec : fCd_move S 18 = if ¬ S.1 14 = (-2147483648) then ((fCo_has S 1).bind fun q1 => if -(S.1 14) = 0 then cv q1.2 (-(S.1 14)) 0 0 1 else cv q1.2 (-(S.1 14)) 0 1 1) else ((fCo_has S 1).bind fun q1 => if -(S.1 14) = 0 then cv q1.2 (-(S.1 14)) 1 0 1 else cv q1.2 (-(S.1 14)) 1 1 1) := rfl
  rw [em, ec, bnd_e (mh0 T), bnd_e (ch1 S), bnd_e (ch1 S), g0]
  have n0 := neg0 (S.1 14)
  by_cases q : S.1 14 = -2147483648
  · rw [if_neg (not_not_intro q), if_neg (not_not_intro q)]
    by_cases r : S.1 14 = 0
    · rw [if_pos r, if_pos (n0.mpr r)]
      exact MV h hf (k := 1) (by decide) hz (Or.inr rfl) hw (Or.inl ⟨rfl, rfl⟩)
    · rw [if_neg r, if_neg (fun w => r (n0.mp w))]
      exact MV h hf (k := 1) (by decide) hz (Or.inr rfl) hw (Or.inl ⟨rfl, rfl⟩)
  · rw [if_pos q, if_pos q]
    by_cases r : S.1 14 = 0
    · rw [if_pos r, if_pos (n0.mpr r)]
      exact MV h hf (k := 1) (by decide) hz (Or.inr rfl) hw (Or.inl ⟨rfl, rfl⟩)
    · rw [if_neg r, if_neg (fun w => r (n0.mp w))]
      exact MV h hf (k := 1) (by decide) hz (Or.inr rfl) hw (Or.inl ⟨rfl, rfl⟩)
theorem c19 {p : Int32 × Int32} {S T : qS} (h : RR p S T) (hf : S.1 7 = 0) (hv : T.2 5 0 = S.1 14) (hz : S.1 15 = 4) (hw : OW 1 S T) : PK p S T (fCd_move S 19) (fM_move T 19) := by
  have g0 : gA T 5 0 = S.1 14 := hv
  rw [mm T 19 (gA T 5 0 ^^^ (-1)) (gA T 5 0 ^^^ (-1)) 1 4 rfl, cm S 19 (S.1 14 ^^^ (-1)) 1 rfl, g0, cyr h hf]
  exact MV h hf (k := 1) (by decide) hz (Or.inr rfl) hw (Or.inl ⟨rfl, rfl⟩)
theorem c20 {p : Int32 × Int32} {S T : qS} (h : RR p S T) (hf : S.1 7 = 0) (hz : S.1 11 = 4) (hw : OW 0 S T) : PK p S T (fCd_move S 20) (fM_move T 20) := by
  rw [mm T 20 0 0 0 4 rfl, cm S 20 0 0 rfl, cyr h hf]
  exact MV h hf (k := 0) (by decide) hz (Or.inr rfl) hw (Or.inl ⟨rfl, rfl⟩)
