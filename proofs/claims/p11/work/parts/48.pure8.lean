/-! Pure part 8: registers; bytes that are read. -/
theorem ix_lt {i : Int32} {n : Nat} (h : inb i n = true) : i.toNatClampNeg < n := Nat.not_le.mp fun q => inb_in h (Or.inr q)
theorem nI_vN (x : Int32) : nI (vN x) = x := by
  apply Int32.toBitVec_inj.1
  apply BitVec.eq_of_toNat_eq
  exact pk_tn (vN_lt x)
theorem and15 {r : Int32} (h : inb r 16 = true) : r &&& 15 = r := by
  have h2 : vN r < 16 := by
    unfold inb at h
    rw [Bool.and_eq_true, decide_eq_true_eq, decide_eq_true_eq, v_int] at h
    have := vN_lt r
    omega
  rw [pk_and r 4 (by decide)]
  show nI (vN r % 16) = r
  rw [Nat.mod_eq_of_lt h2, nI_vN]
def mMode (T : qS) : Int32 := ((T.1 1) >>> ((24 : Int32) &&& 31)) &&& 3
theorem fM_mode_eq (T : qS) : fM_mode T = some (mMode T, T) := rfl
theorem mMode_4 (T : qS) : inb (mMode T) 4 = true := inb_m _ 2 (by decide) (by decide) (by decide)
theorem mMode_57 (T : qS) : inb (mMode T) 57 = true := inb_m _ 2 (by decide) (by decide) (by decide)
theorem cMode_4 (S : qS) : inb (cMode S) 4 = true := inb_m _ 2 (by decide) (by decide) (by decide)
theorem RL_mode {S T : qS} (h : RL S T) : mMode T = cMode S := by
  unfold mMode cMode
  rw [h.2.2, sh_24]
def mGet (T : qS) (r : Int32) : Int32 := if r = 14 then gA T 2 (mMode T) else gA T 1 r
theorem fM_get_eq (T : qS) {r : Int32} (h : inb r 16 = true) : fM_get T r = some (mGet T r, T) := by
  unfold fM_get mGet
  by_cases h14 : r = 14
  · rw [if_neg (not_not_intro h14), if_pos h14, fM_mode_eq]
    show chk (inb (mMode T) 57) _ = _
    rw [chk_t (mMode_57 T)]; rfl
  · rw [if_pos h14, if_neg h14, chk_t h]; rfl
def mPut (T : qS) (r v : Int32) : qS := if r = 14 then pA T 2 (mMode T) v else pA T 1 r v
theorem fM_put_eq (T : qS) {r : Int32} (v : Int32) (h : inb r 16 = true) : fM_put T r v = some (mPut T r v) := by
  unfold fM_put mPut
  by_cases h14 : r = 14
  · rw [if_neg (not_not_intro h14), if_pos h14, fM_mode_eq]
    show chk (inb (mMode T) 57) _ = _
    rw [chk_t (mMode_57 T)]; rfl
  · rw [if_pos h14, if_neg h14, chk_t h]; rfl
theorem RL_get {S T : qS} (h : RL S T) {r : Int32} (hr : inb r 16 = true) : mGet T r = cGet S r := by
  unfold mGet cGet
  rw [and15 hr, RL_mode h]
  by_cases h14 : r = 14
  · rw [if_pos h14, if_pos h14]; exact h.2.1 _ (ix_lt (cMode_4 S))
  · rw [if_neg h14, if_neg h14]; exact h.1 _ (ix_lt hr)
theorem upd_o {f : Nat → Int32} {k j : Nat} {x : Int32} (h : j ≠ k) : upd f k x j = f j := if_neg h
theorem upd_2 {f g : Nat → Int32} {k j : Nat} {x y : Int32} (h : f j = g j) (e : x = y) : upd f k x j = upd g k y j := by
  unfold upd
  by_cases q : j = k
  · rw [if_pos q, if_pos q]; exact e
  · rw [if_neg q, if_neg q]; exact h
theorem RR_put {p : Int32 × Int32} {S T : qS} (h : RR p S T) {r v v' : Int32} (hr : inb r 16 = true) (hv : S.1 7 = 0 → v' = v) : RR p (cPut S r v) (mPut T r v') := by
  obtain ⟨⟨h1, h2, h3⟩, hl⟩ := h
  unfold cPut mPut
  by_cases h14 : r = 14
  · rw [if_pos h14, if_pos h14]
    refine ⟨⟨h1, fun i hi hi2 => ?_, h3⟩, fun q => ?_⟩
    · show upd (T.2 2) _ v' i = upd (S.2 1) _ v i
      have c := ix_lt (cMode_4 S)
      have d := ix_lt (mMode_4 T)
      rw [upd_o (by omega), upd_o (by omega)]
      exact h2 i hi hi2
    · have e := RL_mode (hl q)
      obtain ⟨l1, l2, l3⟩ := hl q
      refine ⟨l1, fun i hi => ?_, l3⟩
      show upd (T.2 2) _ v' i = upd (S.2 1) _ v i
      rw [e]
      exact upd_2 (l2 i hi) (hv q)
  · rw [if_neg h14, if_neg h14, and15 hr]
    refine ⟨⟨h1, h2, h3⟩, fun q => ?_⟩
    obtain ⟨l1, l2, l3⟩ := hl q
    refine ⟨fun i hi => ?_, l2, l3⟩
    show upd (T.2 1) _ v' i = upd (S.2 2) _ v i
    exact upd_2 (l1 i hi) (hv q)
/-- what stays of operands -/
def KC (S S' : qS) : Prop := ∀ k : Nat, 10 ≤ k → S'.1 k = S.1 k
def KM (T T' : qS) : Prop := (∀ j : Nat, 5 ≤ j → j ≤ 7 → T'.2 j = T.2 j) ∧ T'.1 10 = T.1 10
theorem KC_r (S : qS) : KC S S := fun _ _ => rfl
theorem KM_r (T : qS) : KM T T := ⟨fun _ _ _ => rfl, rfl⟩
theorem KC_t {S S' S2 : qS} (h : KC S S') (h2 : KC S' S2) : KC S S2 := fun k hk => (h2 k hk).trans (h k hk)
theorem KM_t {S S' S2 : qS} (h : KM S S') (h2 : KM S' S2) : KM S S2 := ⟨fun k hk hk2 => (h2.1 k hk hk2).trans (h.1 k hk hk2), h2.2.trans h.2⟩
theorem KC_p {S : qS} {k : Nat} (hk : k < 10) (v : Int32) : KC S (pI S k v) := fun j hj => if_neg (by omega)
theorem KM_p (T : qS) (k : Nat) (v : Int32) (hk : 10 ≠ k := by decide) : KM T (pI T k v) := ⟨fun _ _ _ => rfl, if_neg hk⟩
theorem KC_a (S : qS) (k : Nat) (i v : Int32) : KC S (pA S k i v) := fun _ _ => rfl
theorem KM_a {T : qS} {k : Nat} (hk : k < 5 ∨ 7 < k) (i v : Int32) : KM T (pA T k i v) := ⟨fun j _ _ => if_neg (by omega), rfl⟩
theorem KC_put (S : qS) (r v : Int32) : KC S (cPut S r v) := by
  unfold cPut; split <;> exact KC_a _ _ _ _
theorem KM_put (T : qS) (r v : Int32) : KM T (mPut T r v) := by
  unfold mPut; split
  · exact KM_a (Or.inl (by decide)) _ _
  · exact KM_a (Or.inl (by decide)) _ _
/-- faults of pages -/
theorem fCo_refuse_eq {S : qS} (h : S.1 7 = 0) (r a : Int32) : fCo_refuse S r a = some (pI (pI (pI S 7 (((-10) - r) / 10)) 9 (((-10) - r) - ((-10) - r) / 10 * 10)) 8 a) := by
  unfold fCo_refuse
  rw [if_neg (not_not_intro h)]; rfl
theorem fM_wrong_eq {T : qS} (h : T.1 7 = 0) (f a g : Int32) : fM_wrong T f a g = some (pI (pI (pI T 7 f) 8 a) 9 g) := by
  unfold fM_wrong
  rw [if_pos h]
theorem fM_wrong_n {T : qS} (h : ¬ T.1 7 = 0) (f a g : Int32) : fM_wrong T f a g = some T := by
  unfold fM_wrong
  rw [if_neg h]
theorem f45 {f : Int32} (h : f = 4 ∨ f = 5) : f ≠ 0 := by rcases h with rfl | rfl <;> decide
/-- a byte that the reference reads behind a fault -/
theorem rb_f {T : qS} (h : ¬ T.1 7 = 0) (a : Int32) : ∃ b e, fM_readByte T a = some (b, pI T 11 e) := by
  obtain ⟨e, he, -⟩ := fM_find_eq T a 0 (mMode T) (Or.inl rfl)
  unfold fM_readByte
  rw [bnd_e (fM_mode_eq T)]
  dsimp only
  rw [bnd_e he]
  have hq : ¬ (pI T 11 e).1 7 = 0 := h
  have e34 : ∀ x, fM_readByte_34 (pI T 11 e) x = some (0, pI T 11 e) := fun x => by
    unfold fM_readByte_34
    rw [if_neg hq]
    split <;> rfl
  dsimp only
  split
  · rw [e34]; exact ⟨_, _, rfl⟩
  · rw [bnd_e (fM_wrong_n hq _ _ _), e34]; exact ⟨_, _, rfl⟩
/-- one byte, where no fault is noted -/
theorem rd1 {p : Int32 × Int32} {S T : qS} (h : RR p S T) (hf : S.1 7 = 0) (a : Int32) : ∃ (b : Int32) (S' T' : qS), (∀ (n : Nat) (x1 x2 x3 x4 : Int32), x1 + x4 = a → ¬ x2 ≤ x4 → ∃ y, fCo_read_5 (n + 1) S x1 x2 x3 x4 = fCo_read_5 n S' x1 x2 y (x4 + 1) ∧ (S'.1 7 = 0 → y = x3 ||| (b <<< ((8 * x4) &&& 31)))) ∧ fM_readByte T a = some (b, T') ∧ RR p S' T' ∧ KC S S' ∧ KM T T' := by
  have hl := h.2 hf
  have hT : T.1 7 = 0 := (RR_f h).trans hf
  have es : spl (mLong T) (T.2 2) a 0 (mMode T) = spl (cLong S) (S.2 1) a 0 (cMode S) := by rw [RL_mode hl]; exact spl_rel (RR_m h) (RR_i h hf) a 0 _
  obtain ⟨e, he, -⟩ := fM_find_eq T a 0 (mMode T) (Or.inl rfl)
  rw [es] at he
  have hc := fPg_locate_eq S a 0 (cMode S)
  have hp := @spl_plc (cLong S) (S.2 1) a 0 (cMode S)
  generalize (spl (cLong S) (S.2 1) a 0 (cMode S)).1 = r at he hc hp
  generalize (spl (cLong S) (S.2 1) a 0 (cMode S)).2 = g at hc
  have hS1 : (pI S 4 g).1 7 = 0 := hf
  have hT1 : (pI T 11 e).1 7 = 0 := hT
  have hR : RR p (pI S 4 g) (pI T 11 e) := RR_c (RR_d h (Or.inr (Or.inr (Nat.le_refl 11))) e) (Or.inl rfl) g
  by_cases h0 : 0 ≤ r
  · have hin := plc_in hp h0
    refine ⟨gA T 0 r, pI S 4 g, pI T 11 e, ?_, ?_, hR, KC_p (by decide) g, KM_p T 11 e⟩
    · intro n x1 x2 x3 x4 ha hx
      rw [fCo_read_5, if_neg hx, if_neg (not_not_intro hf), bnd_e (fCo_mode_eq S)]
      dsimp only
      rw [ha, bnd_e hc]
      dsimp only
      rw [if_pos h0, bnd_e (fSt_byteAt_eq (pI S 4 g) r)]
      refine ⟨_, rfl, fun _ => ?_⟩
      have e1 : r &&& 2047 = r := by
        have h2 : vN r < 2048 := by
          unfold inb at hin
          rw [Bool.and_eq_true, decide_eq_true_eq, decide_eq_true_eq, v_int] at hin
          have := vN_lt r
          omega
        rw [am_n]
        show nI (vN r % 2048) = r
        rw [Nat.mod_eq_of_lt h2, nI_vN]
      have e2 : gA T 0 r = cB (pI S 4 g) r &&& 255 := by
        have := RM_B (RR_m h) r
        unfold mB at this
        rw [e1] at this
        exact this
      rw [e2]
    · unfold fM_readByte
      rw [bnd_e (fM_mode_eq T)]
      dsimp only
      rw [bnd_e he]
      dsimp only
      rw [if_pos h0]
      unfold fM_readByte_34
      rw [if_neg (fun q => nle_lt.mpr q h0), if_pos hT1, chk_t hin]
      rfl
  · have hr := plc_ref hp h0
    have hft := ref_fault hr
    refine ⟨0, _, _, ?_, ?_, RR_ft hR (f := ((-10) - r) / 10) (g := ((-10) - r) - ((-10) - r) / 10 * 10) (a := a) hft (fun _ => ⟨rfl, rfl⟩), ?_, ?_⟩
    · intro n x1 x2 x3 x4 ha hx
      rw [fCo_read_5, if_neg hx, if_neg (not_not_intro hf), bnd_e (fCo_mode_eq S)]
      dsimp only
      rw [ha, bnd_e hc]
      dsimp only
      rw [if_neg h0, bnd_e (fCo_refuse_eq hS1 r a)]
      exact ⟨x3, rfl, fun q => absurd q (f45 hft)⟩
    · unfold fM_readByte
      rw [bnd_e (fM_mode_eq T)]
      dsimp only
      rw [bnd_e he]
      dsimp only
      rw [if_neg h0, bnd_e (fM_wrong_eq hT1 _ _ _)]
      unfold fM_readByte_34
      rw [if_pos (nle_lt.mp h0)]
      rfl
    · exact KC_t (KC_t (KC_t (KC_p (by decide) g) (KC_p (by decide) _)) (KC_p (by decide) _)) (KC_p (by decide) _)
    · exact ⟨fun _ _ _ => rfl, rfl⟩
