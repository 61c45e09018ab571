/-! Pure part 13: write, push. -/
theorem gA_89 (Q : qS) (a b : Nat) (hab : a ≠ b) (i r e : Int32) : gA (pA (pA Q a i r) b i e) a i = r := by
  unfold gA pA
  dsimp only
  rw [if_neg hab, if_pos rfl]
  exact if_pos rfl
theorem cw93_f {S : qS} (h : ¬ S.1 7 = 0) (x z i : Int32) (n : Nat) : fCo_write_93 (n + 1) S x z i = some S := by
  rw [fCo_write_93]
  by_cases c : z ≤ i
  · rw [if_pos c]; rfl
  · rw [if_neg c]
    by_cases d : 4 ≤ i
    · rw [if_pos d]; rfl
    · rw [if_neg d, if_pos h]; rfl
theorem mw93_f {T : qS} (h : ¬ T.1 7 = 0) (x z i : Int32) (n : Nat) : fM_write_93 (n + 1) T x z i = some T := by
  rw [fM_write_93]
  by_cases c : z ≤ i
  · rw [if_pos c]; rfl
  · rw [if_neg c, if_pos h]; rfl
theorem cw_f {S : qS} (h : ¬ S.1 7 = 0) (a x z i : Int32) (n : Nat) : fCo_write_3 (n + 1) S a x z i = some S := by
  have e : fCo_write_90 S x z = some S := cw93_f h x z 0 299
  rw [fCo_write_3, e]
  by_cases c : z ≤ i
  · rw [if_pos c]
  · rw [if_neg c]
    by_cases d : 4 ≤ i
    · rw [if_pos d]
    · rw [if_neg d, if_pos h]
theorem mw_f {p : Int32 × Int32} {S : qS} (z : Nat) (hz : z ≤ 4) (k : Nat) : ∀ {T : qS}, RR p S T → ¬ S.1 7 = 0 → ∀ (i m : Nat), i + k = z → ∀ a x : Int32, ∃ T', fM_write_3 (k + 1 + m) T a x (nI z) (nI i) = some T' ∧ RR p S T' ∧ KM T T' := by
  induction k with
  | zero =>
    intro T h hf i m hi a x
    have hT : ¬ T.1 7 = 0 := by rw [RR_f h]; exact hf
    have hc : nI z ≤ nI i := (nI_lei (by omega) (by omega)).mpr (by omega)
    refine ⟨T, ?_, h, KM_r T⟩
    rw [show 0 + 1 + m = m + 1 by omega, fM_write_3, if_pos hc]
    exact mw93_f hT x (nI z) 0 299
  | succ k ih =>
    intro T h hf i m hi a x
    have hT : ¬ T.1 7 = 0 := by rw [RR_f h]; exact hf
    have hc : ¬ nI z ≤ nI i := fun q => by
      have := (nI_lei (by omega) (by omega)).mp q
      omega
    have h4 : inb (nI i) 4 = true := inb_nI (by omega) (by decide)
    obtain ⟨e, he, -⟩ := fM_find_eq T (a + nI i) 1 (mMode T) (Or.inr rfl)
    rw [show k + 1 + 1 + m = (k + 1 + m) + 1 by omega, fM_write_3, if_neg hc, bnd_e (fM_mode_eq T)]
    dsimp only
    rw [bnd_e he]
    simp only [chk_t h4]
    generalize (spl (mLong T) (T.2 2) (a + nI i) 1 (mMode T)).1 = r
    have hB : RR p S (pA (pA (pI T 11 e) 8 (nI i) r) 9 (nI i) ((pA (pI T 11 e) 8 (nI i) r).1 11)) := RR_da (RR_da (RR_d h (Or.inr (Or.inr (Nat.le_refl 11))) e) (by decide) _ _) (by decide) _ _
    have kB : KM T (pA (pA (pI T 11 e) 8 (nI i) r) 9 (nI i) ((pA (pI T 11 e) 8 (nI i) r).1 11)) := KM_t (KM_t (KM_p T 11 e) (KM_a (Or.inr (by decide)) _ _)) (KM_a (Or.inr (by decide)) _ _)
    generalize pA (pA (pI T 11 e) 8 (nI i) r) 9 (nI i) ((pA (pI T 11 e) 8 (nI i) r).1 11) = B at hB kB ⊢
    have hBf : ¬ B.1 7 = 0 := by rw [RR_f hB]; exact hf
    obtain ⟨T', a1, a2, a3⟩ := ih hB hf (i + 1) m (by omega) a x
    refine ⟨T', ?_, a2, KM_t kB a3⟩
    have e84 : fM_write_84 (fM_write_3 (k + 1 + m)) B a x (nI z) (nI i) = some T' := by
      unfold fM_write_84; rw [nI_1]; exact a1
    split
    · exact e84
    · rw [bnd_e (fM_wrong_n hBf _ _ _)]; exact e84
theorem wr1 {p : Int32 × Int32} (z : Nat) (hz : z ≤ 4) (k : Nat) : ∀ {S T : qS}, RR p S T → ∀ (i m : Nat), i + k = z → ∀ a a' x x' : Int32, (S.1 7 = 0 → a' = a) → (S.1 7 = 0 → x' = x) → (S.1 7 = 0 → WA i S T) → ∃ S' T', fCo_write_3 (k + 1 + m) S a x (nI z) (nI i) = some S' ∧ fM_write_3 (k + 1 + m) T a' x' (nI z) (nI i) = some T' ∧ RR p S' T' ∧ KC S S' ∧ KM T T' := by
  induction k with
  | zero =>
    intro S T h i m hi a a' x x' ha hx hw
    have hc : nI z ≤ nI i := (nI_lei (by omega) (by omega)).mpr (by omega)
    by_cases hf : S.1 7 = 0
    · have e2 := hx hf
      subst e2
      have hw := hw hf
      rw [show i = z by omega] at hw
      obtain ⟨S', T', a1, a2, a3, a4, a5, -⟩ := wr2 z hz z h hf hw 0 (299 - z) (by omega) x'
      rw [show z + 1 + (299 - z) = 300 by omega] at a1 a2
      refine ⟨S', T', ?_, ?_, a3, a4, a5⟩
      · rw [show 0 + 1 + m = m + 1 by omega, fCo_write_3, if_pos hc]; exact a1
      · rw [show 0 + 1 + m = m + 1 by omega, fM_write_3, if_pos hc]; exact a2
    · obtain ⟨T', a1, a2, a3⟩ := mw_f z hz 0 h hf i m hi a' x'
      exact ⟨S, T', by rw [show 0 + 1 + m = m + 1 by omega]; exact cw_f hf _ _ _ _ _, a1, a2, KC_r S, a3⟩
  | succ k ih =>
    intro S T h i m hi a a' x x' ha hx hw
    by_cases hf : S.1 7 = 0
    · have e1 := ha hf
      have e2 := hx hf
      subst e1 e2
      have hw := hw hf
      have hl := h.2 hf
      have hT : T.1 7 = 0 := (RR_f h).trans hf
      have hc : ¬ nI z ≤ nI i := fun q => by
        have := (nI_lei (by omega) (by omega)).mp q
        omega
      have hc4 : ¬ 4 ≤ nI i := fun q => by
        have := (nI_lei (a := 4) (b := i) (by omega) (by omega)).mp q
        omega
      have h4 : inb (nI i) 4 = true := inb_nI (by omega) (by decide)
      have es : spl (mLong T) (T.2 2) (a' + nI i) 1 (mMode T) = spl (cLong S) (S.2 1) (a' + nI i) 1 (cMode S) := by rw [RL_mode hl]; exact spl_rel (RR_m h) (RR_i h hf) _ 1 _
      obtain ⟨e, he, heg⟩ := fM_find_eq T (a' + nI i) 1 (mMode T) (Or.inr rfl)
      rw [es] at he heg
      have hl2 := fPg_locate_eq S (a' + nI i) 1 (cMode S)
      have hp := @spl_plc (cLong S) (S.2 1) (a' + nI i) 1 (cMode S)
      generalize (spl (cLong S) (S.2 1) (a' + nI i) 1 (cMode S)).1 = r at he hl2 hp heg
      generalize (spl (cLong S) (S.2 1) (a' + nI i) 1 (cMode S)).2 = g at hl2 heg
      rw [show k + 1 + 1 + m = (k + 1 + m) + 1 by omega, fCo_write_3, fM_write_3, if_neg hc, if_neg hc, if_neg hc4, if_neg (not_not_intro hf), bnd_e (fCo_mode_eq S), bnd_e (fM_mode_eq T)]
      dsimp only
      rw [bnd_e hl2, bnd_e he]
      simp only [chk_t h4]
      rw [gA_89 _ 5 6 (by decide), gA_89 _ 8 9 (by decide)]
      have hR : RR p (pA (pA (pI S 4 g) 5 (nI i) r) 6 (nI i) ((pA (pI S 4 g) 5 (nI i) r).1 4)) (pA (pA (pI T 11 e) 8 (nI i) r) 9 (nI i) ((pA (pI T 11 e) 8 (nI i) r).1 11)) := RR_ca (RR_ca (RR_c (RR_da (RR_da (RR_d h (Or.inr (Or.inr (Nat.le_refl 11))) e) (by decide) _ _) (by decide) _ _) (Or.inl rfl) g) (by decide) _ _) (by decide) _ _
      have kB : KM T (pA (pA (pI T 11 e) 8 (nI i) r) 9 (nI i) ((pA (pI T 11 e) 8 (nI i) r).1 11)) := KM_t (KM_t (KM_p T 11 e) (KM_a (Or.inr (by decide)) _ _)) (KM_a (Or.inr (by decide)) _ _)
      have kA : KC S (pA (pA (pI S 4 g) 5 (nI i) r) 6 (nI i) ((pA (pI S 4 g) 5 (nI i) r).1 4)) := KC_t (KC_t (KC_p (by decide) g) (KC_a _ _ _ _)) (KC_a _ _ _ _)
      by_cases h0 : 0 ≤ r
      · rw [if_pos h0, if_pos h0]
        have hwa : WA (i + 1) (pA (pA (pI S 4 g) 5 (nI i) r) 6 (nI i) ((pA (pI S 4 g) 5 (nI i) r).1 4)) (pA (pA (pI T 11 e) 8 (nI i) r) 9 (nI i) ((pA (pI T 11 e) 8 (nI i) r).1 11)) := by
          intro j hj
          show inb (upd (T.2 8) (nI i).toNatClampNeg r j) 2048 = true ∧ upd (S.2 5) (nI i).toNatClampNeg r j = upd (T.2 8) (nI i).toNatClampNeg r j ∧ upd (S.2 6) (nI i).toNatClampNeg g j = upd (T.2 9) (nI i).toNatClampNeg e j
          rw [nI_cl (by omega)]
          by_cases hji : j = i
          · unfold upd
            rw [if_pos hji, if_pos hji, if_pos hji, if_pos hji]
            exact ⟨plc_in hp h0, rfl, (heg h0).symm⟩
          · rw [upd_o hji, upd_o hji, upd_o hji, upd_o hji]
            exact hw j (by omega)
        obtain ⟨S', T', a1, a2, a3, a4, a5⟩ := ih hR (i + 1) m (by omega) a' a' x' x' (fun _ => rfl) (fun _ => rfl) (fun _ => hwa)
        refine ⟨S', T', ?_, ?_, a3, KC_t kA a4, KM_t kB a5⟩
        · unfold fCo_write_84; rw [nI_1]; exact a1
        · unfold fM_write_84; rw [nI_1]; exact a2
      · rw [if_neg h0, if_neg h0]
        have hft := ref_fault (plc_ref hp h0)
        have hR2 := RR_ft hR (f := ((-10) - r) / 10) (g := ((-10) - r) - ((-10) - r) / 10 * 10) (a := a' + nI i) hft (fun _ => ⟨rfl, rfl⟩)
        obtain ⟨S', T', a1, a2, a3, a4, a5⟩ := ih hR2 (i + 1) m (by omega) a' a' x' x' (fun _ => rfl) (fun _ => rfl) (fun q => absurd q (f45 hft))
        refine ⟨S', T', ?_, ?_, a3, KC_t (KC_t (KC_t (KC_t kA (KC_p (by decide) _)) (KC_p (by decide) _)) (KC_p (by decide) _)) a4, KM_t (KM_t (KM_t (KM_t kB (KM_p _ _ _)) (KM_p _ _ _)) (KM_p _ _ _)) a5⟩
        · rw [bnd_e (fCo_refuse_eq (show (pA (pA (pI S 4 g) 5 (nI i) r) 6 (nI i) ((pA (pI S 4 g) 5 (nI i) r).1 4)).1 7 = 0 from hf) r _)]
          unfold fCo_write_84; rw [nI_1]; exact a1
        · rw [bnd_e (fM_wrong_eq (show (pA (pA (pI T 11 e) 8 (nI i) r) 9 (nI i) ((pA (pI T 11 e) 8 (nI i) r).1 11)).1 7 = 0 from hT) _ _ _)]
          unfold fM_write_84; rw [nI_1]; exact a2
    · obtain ⟨T', a1, a2, a3⟩ := mw_f z hz (k + 1) h hf i m hi a' x'
      exact ⟨S, T', by rw [show k + 1 + 1 + m = (k + 1 + m) + 1 by omega]; exact cw_f hf _ _ _ _ _, a1, a2, KC_r S, a3⟩
theorem RR_write {p : Int32 × Int32} {S T : qS} (h : RR p S T) (z : Nat) (hz : z ≤ 4) {a a' x x' : Int32} (ha : S.1 7 = 0 → a' = a) (hx : S.1 7 = 0 → x' = x) : ∃ S' T', fCo_write S a x (nI z) = some S' ∧ fM_write T a' x' (nI z) = some T' ∧ RR p S' T' ∧ KC S S' ∧ KM T T' := by
  obtain ⟨S', T', a1, a2, a3⟩ := wr1 z hz z h 0 (299 - z) (by omega) a a' x x' ha hx (fun _ j hj => absurd hj (by omega))
  rw [show z + 1 + (299 - z) = 300 by omega] at a1 a2
  exact ⟨S', T', a1, a2, a3⟩
/-- push -/
theorem RR_push {p : Int32 × Int32} {S T : qS} (h : RR p S T) {x x' : Int32} (hx : S.1 7 = 0 → x' = x) : ∃ S' T', fCo_push S x = some S' ∧ fM_push T x' = some T' ∧ RR p S' T' ∧ KC S S' ∧ KM T T' := by
  obtain ⟨S1, T1, h1, h2, h3, h4, h5⟩ := RR_write (a := cGet S 14 - 4) (a' := mGet T 14 - 4) h 4 (by decide) (fun q => by rw [RR_get h i16_14 q]) hx
  have h1 : fCo_write S (cGet S 14 - 4) x 4 = some S1 := h1
  have h2 : fM_write T (mGet T 14 - 4) x' 4 = some T1 := h2
  have hc : fCo_push S x = some (cPut S1 14 (cGet S1 14 - 4)) := by
    unfold fCo_push
    rw [bnd_e (fCo_get_eq S 14)]
    dsimp only
    rw [bnd_e h1, bnd_e (fCo_get_eq S1 14)]
    dsimp only
    rw [bnd_e (fCo_put_eq S1 14 _)]
  have hm : fM_push T x' = if ¬ T1.1 7 = 0 then some T1 else some (mPut T1 14 (mGet T1 14 - 4)) := by
    unfold fM_push
    rw [bnd_e (fM_get_eq T i16_14)]
    dsimp only
    rw [bnd_e h2, bnd_e (fM_get_eq T1 i16_14)]
    dsimp only
    rw [bnd_e (fM_put_eq T1 _ i16_14)]
    rfl
  by_cases hf : S1.1 7 = 0
  · have hT : T1.1 7 = 0 := (RR_f h3).trans hf
    rw [if_neg (not_not_intro hT)] at hm
    exact ⟨_, _, hc, hm, RR_put h3 i16_14 (fun q => by rw [RR_get h3 i16_14 q]), KC_t h4 (KC_put _ _ _), KM_t h5 (KM_put _ _ _)⟩
  · have hT : ¬ T1.1 7 = 0 := by rw [RR_f h3]; exact hf
    rw [if_pos hT] at hm
    exact ⟨_, _, hc, hm, RR_pc h3 hf _ _, KC_t h4 (KC_put _ _ _), h5⟩
