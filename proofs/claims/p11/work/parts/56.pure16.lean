/-! Pure part 16: fetch of four bytes; two bytes; one side alone behind a fault. -/
/-- the class's step for a byte -/
def cPl (S : qS) (a : Int32) : Int32 := (spl (cLong S) (S.2 1) a 0 (cMode S)).1
def cSt (S : qS) (a : Int32) : qS :=
  if 0 ≤ cPl S a then pI S 4 (spl (cLong S) (S.2 1) a 0 (cMode S)).2
  else pI (pI (pI (pI S 4 (spl (cLong S) (S.2 1) a 0 (cMode S)).2) 7 (((-10) - cPl S a) / 10)) 9 (((-10) - cPl S a) - ((-10) - cPl S a) / 10 * 10)) 8 a
def cBy (S : qS) (a : Int32) : Int32 := if 0 ≤ cPl S a then cB S (cPl S a) &&& 255 else 0
theorem cSt_15 (S : qS) (v a : Int32) : cSt (pA S 2 15 v) a = pA (cSt S a) 2 15 v := by
  have e : cPl (pA S 2 15 v) a = cPl S a := rfl
  unfold cSt
  rw [e]
  by_cases h : 0 ≤ cPl S a
  · rw [if_pos h, if_pos h]; rfl
  · rw [if_neg h, if_neg h]; rfl
theorem cBy_15 (S : qS) (v a : Int32) : cBy (pA S 2 15 v) a = cBy S a := rfl
theorem cSt_2 (S : qS) (a : Int32) : (cSt S a).2 = S.2 := by
  unfold cSt
  split <;> rfl
theorem cSt_K (S : qS) (a : Int32) : KC S (cSt S a) := by
  unfold cSt
  split
  · exact KC_p (by decide) _
  · exact KC_t (KC_t (KC_t (KC_p (by decide) _) (KC_p (by decide) _)) (KC_p (by decide) _)) (KC_p (by decide) _)
theorem cR_st {S : qS} (hf : S.1 7 = 0) (a : Int32) (n : Nat) (x1 x2 x3 x4 : Int32) (ha : x1 + x4 = a) (hx : ¬ x2 ≤ x4) : ∃ y, fCo_read_5 (n + 1) S x1 x2 x3 x4 = fCo_read_5 n (cSt S a) x1 x2 y (x4 + 1) ∧ ((cSt S a).1 7 = 0 → y = x3 ||| (cBy S a <<< ((8 * x4) &&& 31))) ∧ (¬ (cSt S a).1 7 = 0 → y = x3) := by
  have hc := fPg_locate_eq S a 0 (cMode S)
  have hp := @spl_plc (cLong S) (S.2 1) a 0 (cMode S)
  have e1 : (spl (cLong S) (S.2 1) a 0 (cMode S)).1 = cPl S a := rfl
  rw [e1] at hc hp
  unfold cSt cBy
  generalize cPl S a = r at hc hp
  generalize (spl (cLong S) (S.2 1) a 0 (cMode S)).2 = g at hc
  rw [fCo_read_5, if_neg hx, if_neg (not_not_intro hf), bnd_e (fCo_mode_eq S)]
  dsimp only
  rw [ha, bnd_e hc]
  dsimp only
  by_cases h0 : 0 ≤ r
  · rw [if_pos h0, if_pos h0, if_pos h0, bnd_e (fSt_byteAt_eq (pI S 4 g) r)]
    exact ⟨_, rfl, fun _ => rfl, fun q => absurd hf q⟩
  · have hft := ref_fault (plc_ref hp h0)
    rw [if_neg h0, if_neg h0, if_neg h0, bnd_e (fCo_refuse_eq (show (pI S 4 g).1 7 = 0 from hf) r a)]
    exact ⟨x3, rfl, fun q => absurd q (f45 hft), fun _ => rfl⟩
theorem mR_st {p : Int32 × Int32} {S T : qS} (h : RR p S T) (hf : S.1 7 = 0) (a : Int32) : ∃ T', fM_readByte T a = some (cBy S a, T') ∧ RR p (cSt S a) T' ∧ KM T T' := by
  have hl := h.2 hf
  have hT : T.1 7 = 0 := (RR_f h).trans hf
  have es : spl (mLong T) (T.2 2) a 0 (mMode T) = spl (cLong S) (S.2 1) a 0 (cMode S) := by rw [RL_mode hl]; exact spl_rel (RR_m h) (RR_i h hf) a 0 _
  obtain ⟨e, he, -⟩ := fM_find_eq T a 0 (mMode T) (Or.inl rfl)
  rw [es] at he
  have hp := @spl_plc (cLong S) (S.2 1) a 0 (cMode S)
  have e1 : (spl (cLong S) (S.2 1) a 0 (cMode S)).1 = cPl S a := rfl
  rw [e1] at he hp
  unfold cSt cBy
  generalize cPl S a = r at he hp
  generalize (spl (cLong S) (S.2 1) a 0 (cMode S)).2 = g
  have hT1 : (pI T 11 e).1 7 = 0 := hT
  have hR : RR p (pI S 4 g) (pI T 11 e) := RR_c (RR_d h (Or.inr (Or.inr (Nat.le_refl 11))) e) (Or.inl rfl) g
  unfold fM_readByte
  rw [bnd_e (fM_mode_eq T)]
  dsimp only
  rw [bnd_e he]
  dsimp only
  by_cases h0 : 0 ≤ r
  · have hin := plc_in hp h0
    rw [if_pos h0, if_pos h0, if_pos h0]
    have e2 : gA T 0 r = cB S r &&& 255 := by
      have := RM_B (RR_m h) r
      unfold mB at this
      rw [am_id hin] at this
      exact this
    refine ⟨pI T 11 e, ?_, hR, KM_p T 11 e⟩
    unfold fM_readByte_34
    rw [if_neg (fun q => nle_lt.mpr q h0), if_pos hT1, chk_t hin, ← e2]
    rfl
  · have hft := ref_fault (plc_ref hp h0)
    rw [if_neg h0, if_neg h0, if_neg h0, bnd_e (fM_wrong_eq hT1 _ _ _)]
    refine ⟨_, ?_, RR_ft hR hft (fun _ => ⟨rfl, rfl⟩), ⟨fun _ _ _ => rfl, rfl⟩⟩
    unfold fM_readByte_34
    rw [if_pos (nle_lt.mp h0)]
    rfl
/-- next, some times -/
def mNx : Nat → qS → Int32 → Int32 → Option (Int32 × qS)
  | 0, T, x, _ => some (x, T)
  | k + 1, T, x, i => (fM_next T).bind fun q => mNx k q.2 (x ||| (q.1 <<< ((8 * i) &&& 31))) (i + 1)
theorem mNx_f {p : Int32 × Int32} {S : qS} (k : Nat) : ∀ {T : qS}, RR p S T → ¬ S.1 7 = 0 → ∀ x i : Int32, ∃ v T', mNx k T x i = some (v, T') ∧ RR p S T' ∧ KM T T' := by
  induction k with
  | zero => intro T h _ x i; exact ⟨x, T, rfl, h, KM_r T⟩
  | succ k ih =>
    intro T h hf x i
    obtain ⟨b, T1, h1, h2, h3⟩ := nx_f h hf
    obtain ⟨v, T', g1, g2, g3⟩ := ih h2 hf (x ||| (b <<< ((8 * i) &&& 31))) (i + 1)
    refine ⟨v, T', ?_, g2, KM_t h3 g3⟩
    rw [mNx, bnd_e h1]
    exact g1
theorem pA_pA (S : qS) (k : Nat) (i u v : Int32) : pA (pA S k i u) k i v = pA S k i v := by
  unfold pA
  refine Prod.ext rfl (funext fun b => ?_)
  show (if b = k then upd (if b = k then upd (S.2 b) _ u else S.2 b) _ v else if b = k then upd (S.2 b) _ u else S.2 b) = if b = k then upd (S.2 b) _ v else S.2 b
  by_cases h : b = k
  · rw [if_pos h, if_pos h, if_pos h]
    funext j
    unfold upd
    by_cases q : j = i.toNatClampNeg
    · rw [if_pos q, if_pos q]
    · rw [if_neg q, if_neg q, if_neg q]
  · rw [if_neg h, if_neg h, if_neg h]
theorem cPut_15 (S : qS) (v : Int32) : cPut S 15 v = pA S 2 15 v := by
  unfold cPut
  rw [if_neg (by decide)]
  rfl
theorem cGet_p15 (S : qS) (v : Int32) : cGet (pA S 2 15 v) 15 = v := by
  unfold cGet
  rw [if_neg (by decide), show (15 : Int32) &&& 15 = 15 by decide]
  unfold gA pA
  dsimp only
  rw [if_pos rfl]
  exact if_pos rfl
theorem fe {p : Int32 × Int32} (pc : Int32) (k : Nat) : ∀ {S T : qS}, S.1 7 = 0 → ∀ (i m : Nat), i + k = 4 → RR p (pA S 2 15 (pc + nI i)) T → ∀ x : Int32, ∃ v v' S' T', fCo_read_5 (k + 1 + m) S pc 4 x (nI i) = some (v, S') ∧ mNx k T x (nI i) = some (v', T') ∧ RR p (pA S' 2 15 (pc + 4)) T' ∧ (S'.1 7 = 0 → v' = v) ∧ S'.2 = S.2 ∧ KC S S' ∧ KM T T' := by
  induction k with
  | zero =>
    intro S T hf i m hi h x
    refine ⟨x, x, S, T, ?_, rfl, ?_, fun _ => rfl, rfl, KC_r S, KM_r T⟩
    · rw [show 0 + 1 + m = m + 1 by omega, fCo_read_5, if_pos (show (4 : Int32) ≤ nI i from (nI_lei (a := 4) (b := i) (by omega) (by omega)).mpr (by omega))]
      rfl
    · rw [show (4 : Int32) = nI i from by rw [show i = 4 by omega]; rfl]
      exact h
  | succ k ih =>
    intro S T hf i m hi h x
    have hlt : ¬ (4 : Int32) ≤ nI i := fun q => by
      have := (nI_lei (a := 4) (b := i) (by omega) (by omega)).mp q
      omega
    obtain ⟨y, c1, c2, -⟩ := cR_st hf (pc + nI i) (k + 1 + m) pc 4 x (nI i) rfl hlt
    obtain ⟨T1, d1, d2, d3⟩ := mR_st h hf (pc + nI i)
    have hT15 : gA T 1 15 = pc + nI i := by
      have := RR_get h i16_15 hf
      rw [← mGet_15] at this
      rw [this, cGet_p15]
    rw [cBy_15] at d1
    rw [cSt_15] at d2
    have hn : fM_next T = some (cBy S (pc + nI i), mPut T1 15 (gA T1 1 15 + 1)) := by
      unfold fM_next
      rw [hT15, bnd_e d1, ← mPut_15]
    rw [show k + 1 + 1 + m = (k + 1 + m) + 1 by omega, c1, nI_1]
    by_cases hf2 : (cSt S (pc + nI i)).1 7 = 0
    · have h15 : gA T1 1 15 = pc + nI i := by
        have := RR_get d2 i16_15 hf2
        rw [← mGet_15] at this
        rw [this, cGet_p15]
      have hR : RR p (pA (cSt S (pc + nI i)) 2 15 (pc + nI (i + 1))) (mPut T1 15 (gA T1 1 15 + 1)) := by
        have := RR_put d2 i16_15 (v := pc + nI (i + 1)) (v' := gA T1 1 15 + 1) (fun _ => by rw [h15, Int32.add_assoc, nI_1])
        rw [cPut_15, pA_pA] at this
        exact this
      obtain ⟨v, v', S', T', g1, g2, g3, g4, g5, g6, g7⟩ := ih hf2 (i + 1) m (by omega) hR y
      refine ⟨v, v', S', T', g1, ?_, g3, g4, g5.trans (cSt_2 S _), KC_t (cSt_K S _) g6, KM_t (KM_t d3 (KM_put _ _ _)) g7⟩
      rw [mNx, bnd_e hn, nI_1, ← c2 hf2]
      exact g2
    · have hR : RR p (pA (cSt S (pc + nI i)) 2 15 (pc + 4)) (mPut T1 15 (gA T1 1 15 + 1)) := by
        have := RR_pm (RR_pc d2 hf2 15 (pc + 4)) (by rw [cPut_f]; exact hf2) 15 (gA T1 1 15 + 1)
        rw [cPut_15, pA_pA] at this
        exact this
      obtain ⟨v', T', g1, g2, g3⟩ := mNx_f k hR hf2 (x ||| (cBy S (pc + nI i) <<< ((8 * nI i) &&& 31))) (nI (i + 1))
      refine ⟨y, v', cSt S (pc + nI i), T', ?_, ?_, g2, fun q => absurd q hf2, cSt_2 S _, cSt_K S _, KM_t (KM_t d3 (KM_put _ _ _)) g3⟩
      · rw [show k + 1 + m = (k + m) + 1 by omega, fCo_read_5]
        by_cases q : (4 : Int32) ≤ nI (i + 1)
        · rw [if_pos q]; rfl
        · rw [if_neg q, if_pos hf2]; rfl
      · rw [mNx, bnd_e hn, nI_1]
        exact g1
/-- four bytes of the program -/
theorem RR_fetch4 {p : Int32 × Int32} {S T : qS} (h : RR p S T) (hf : S.1 7 = 0) : ∃ v v' S' T', fCo_fetch S 4 = some (v, S') ∧ mNx 4 T 0 0 = some (v', T') ∧ RR p S' T' ∧ (S'.1 7 = 0 → v' = v) ∧ KC S S' ∧ KM T T' := by
  have hS : pA S 2 15 (cGet S 15 + nI 0) = S := by
    rw [show nI 0 = 0 from rfl, Int32.add_zero]
    have : cGet S 15 = S.2 2 15 := if_neg (by decide)
    rw [this]
    unfold pA
    refine Prod.ext rfl (funext fun b => ?_)
    show (if b = 2 then upd (S.2 b) 15 (S.2 2 15) else S.2 b) = S.2 b
    by_cases q : b = 2
    · rw [if_pos q, q]
      funext j
      unfold upd
      by_cases q2 : j = 15
      · rw [if_pos q2, q2]
      · rw [if_neg q2]
    · rw [if_neg q]
  obtain ⟨v, v', S1, T', g1, g2, g3, g4, g5, g6, g7⟩ := fe (cGet S 15) 4 (S := S) (T := T) hf 0 295 rfl (by rw [hS]; exact h) 0
  refine ⟨v, v', pA S1 2 15 (cGet S 15 + 4), T', ?_, g2, g3, g4, KC_t g6 (KC_a _ _ _ _), g7⟩
  have g1 : fCo_read S (cGet S 15) 4 = some (v, S1) := g1
  unfold fCo_fetch
  rw [bnd_e (fCo_get_eq S 15)]
  dsimp only
  rw [bnd_e g1]
  dsimp only
  rw [bnd_e (fCo_get_eq S1 15)]
  dsimp only
  rw [bnd_e (fCo_put_eq S1 15 _), cPut_15]
  have : cGet S1 15 = cGet S 15 := by
    unfold cGet
    rw [if_neg (by decide), if_neg (by decide)]
    unfold gA
    rw [g5]
  rw [this]
/-- two bytes -/
theorem RR_r2 {p : Int32 × Int32} {S T : qS} (h : RR p S T) {a a' : Int32} (ha : S.1 7 = 0 → a' = a) : ∃ v b1 b2 S' T1 T', fCo_read S a 2 = some (v, S') ∧ fM_readByte T a' = some (b1, T1) ∧ fM_readByte T1 (a' + 1) = some (b2, T') ∧ RR p S' T' ∧ (S'.1 7 = 0 → (b1 ||| (b2 <<< ((8 : Int32) &&& 31))) = v) ∧ KC S S' ∧ KM T T1 ∧ KM T T' := by
  obtain ⟨v, v', S', T', h1, h2, h3, h4, h5, h6⟩ := rdn 2 (by decide) 2 h 0 297 rfl a a' 0 0 ha (fun _ => rfl)
  obtain ⟨q, hq, hr⟩ := bnd_s h2
  obtain ⟨q2, hq2, hr2⟩ := bnd_s hr
  have e : a' + nI 0 = a' := Int32.add_zero a'
  rw [e] at hq
  have hq2 : fM_readByte q.2 (a' + 1) = some q2 := hq2
  have hr2 : some ((0 : Int32) ||| (q.1 <<< ((8 * (0 : Int32)) &&& 31)) ||| (q2.1 <<< ((8 : Int32) &&& 31)), q2.2) = some (v', T') := hr2
  rw [or_sh0] at hr2
  have e1 : q.1 ||| (q2.1 <<< ((8 : Int32) &&& 31)) = v' := congrArg Prod.fst (Option.some.inj hr2)
  have e2 : q2.2 = T' := congrArg Prod.snd (Option.some.inj hr2)
  have hk : KM T q.2 := by
    by_cases hT : T.1 7 = 0
    · have hf : S.1 7 = 0 := (RR_f h).symm.trans hT
      obtain ⟨T2, d1, d2, d3⟩ := mR_st h hf a'
      rw [d1] at hq
      cases hq
      exact d3
    · obtain ⟨b, e, d⟩ := rb_f hT a'
      rw [d] at hq
      cases hq
      exact KM_p T 11 e
  refine ⟨v, q.1, q2.1, S', q.2, T', h1, hq, ?_, h3, fun w => by rw [e1]; exact h4 w, h5, hk, h6⟩
  rw [hq2, ← e2]
/-! behind a fault: the class alone -/
theorem dc_read {S : qS} (hf : ¬ S.1 7 = 0) (a z : Int32) : fCo_read S a z = some (0, S) := by
  unfold fCo_read
  rw [fCo_read_5]
  by_cases q : z ≤ 0
  · rw [if_pos q]; rfl
  · rw [if_neg q, if_pos hf]; rfl
theorem dc_fetch {p : Int32 × Int32} {S T : qS} (h : RR p S T) (hf : ¬ S.1 7 = 0) (z : Int32) : ∃ S', fCo_fetch S z = some (0, S') ∧ RR p S' T ∧ ¬ S'.1 7 = 0 := by
  refine ⟨cPut S 15 (cGet S 15 + z), ?_, RR_pc h hf _ _, by rw [cPut_f]; exact hf⟩
  unfold fCo_fetch
  rw [bnd_e (fCo_get_eq S 15)]
  dsimp only
  rw [bnd_e (dc_read hf _ z)]
  dsimp only
  rw [bnd_e (fCo_get_eq S 15)]
  dsimp only
  rw [bnd_e (fCo_put_eq S 15 _)]
theorem dc_raise {S : qS} (hf : ¬ S.1 7 = 0) (f : Int32) : fCo_raise S f = some S := by
  unfold fCo_raise
  rw [if_pos hf]; rfl
theorem dc_pop {p : Int32 × Int32} {S T : qS} (h : RR p S T) (hf : ¬ S.1 7 = 0) : ∃ S', fCo_pop S = some (0, S') ∧ RR p S' T ∧ ¬ S'.1 7 = 0 := by
  refine ⟨cPut S 14 (cGet S 14 + 4), ?_, RR_pc h hf _ _, by rw [cPut_f]; exact hf⟩
  unfold fCo_pop
  rw [bnd_e (fCo_get_eq S 14)]
  dsimp only
  rw [bnd_e (dc_read hf _ 4)]
  dsimp only
  rw [bnd_e (fCo_get_eq S 14)]
  dsimp only
  rw [bnd_e (fCo_put_eq S 14 _)]
theorem dc_push {p : Int32 × Int32} {S T : qS} (h : RR p S T) (hf : ¬ S.1 7 = 0) (x : Int32) : ∃ S', fCo_push S x = some S' ∧ RR p S' T ∧ ¬ S'.1 7 = 0 := by
  refine ⟨cPut S 14 (cGet S 14 - 4), ?_, RR_pc h hf _ _, by rw [cPut_f]; exact hf⟩
  unfold fCo_push
  rw [bnd_e (fCo_get_eq S 14)]
  dsimp only
  have : fCo_write S (cGet S 14 - 4) x 4 = some S := cw_f hf _ _ _ _ _
  rw [bnd_e this, bnd_e (fCo_get_eq S 14)]
  dsimp only
  rw [bnd_e (fCo_put_eq S 14 _)]
/-! behind a fault: the reference alone -/
theorem dm_long {p : Int32 × Int32} {S T : qS} (h : RR p S T) (hf : ¬ S.1 7 = 0) (a : Int32) : ∃ v T', fM_readLong T a = some (v, T') ∧ RR p S T' := by
  obtain ⟨v, T', h1, h2, h3⟩ := rdf 4 h hf a 0 0
  exact ⟨v, T', (fM_readLong_eq T a).trans h1, h2⟩
theorem dm_byte {p : Int32 × Int32} {S T : qS} (h : RR p S T) (hf : ¬ S.1 7 = 0) (a : Int32) : ∃ v T', fM_readByte T a = some (v, T') ∧ RR p S T' := by
  have hT : ¬ T.1 7 = 0 := by rw [RR_f h]; exact hf
  obtain ⟨b, e, d⟩ := rb_f hT a
  exact ⟨b, _, d, RR_d h (Or.inr (Or.inr (Nat.le_refl 11))) e⟩
theorem dm_wrong {p : Int32 × Int32} {S T : qS} (h : RR p S T) (hf : ¬ S.1 7 = 0) (f a g : Int32) : fM_wrong T f a g = some T := fM_wrong_n (by rw [RR_f h]; exact hf) f a g
theorem dm_pop {p : Int32 × Int32} {S T : qS} (h : RR p S T) (hf : ¬ S.1 7 = 0) : ∃ v T', fM_pop T = some (v, T') ∧ RR p S T' := by
  obtain ⟨v, T1, h1, h2⟩ := dm_long h hf (mGet T 14)
  refine ⟨v, mPut T1 14 (mGet T1 14 + 4), ?_, RR_pm h2 hf _ _⟩
  unfold fM_pop
  rw [bnd_e (fM_get_eq T i16_14)]
  dsimp only
  rw [bnd_e h1]
  dsimp only
  rw [bnd_e (fM_get_eq T1 i16_14)]
  dsimp only
  rw [bnd_e (fM_put_eq T1 _ i16_14)]
theorem dm_push {p : Int32 × Int32} {S T : qS} (h : RR p S T) (hf : ¬ S.1 7 = 0) (x : Int32) : ∃ T', fM_push T x = some T' ∧ RR p S T' := by
  obtain ⟨T1, h1, h2, -⟩ := mw_f 4 (by decide) 4 h hf 0 295 rfl (mGet T 14 - 4) x
  have h1 : fM_write T (mGet T 14 - 4) x 4 = some T1 := h1
  have hT : ¬ T1.1 7 = 0 := by rw [RR_f h2]; exact hf
  refine ⟨T1, ?_, h2⟩
  unfold fM_push
  rw [bnd_e (fM_get_eq T i16_14)]
  dsimp only
  rw [bnd_e h1, if_pos hT]
  rfl
