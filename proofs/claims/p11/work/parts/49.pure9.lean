/-! Pure part 9: reads of some bytes; fetch and next; pop. -/
def mRd : Nat → qS → Int32 → Int32 → Int32 → Option (Int32 × qS)
  | 0, T, _, x, _ => some (x, T)
  | k + 1, T, a, x, i => (fM_readByte T (a + i)).bind fun q => mRd k q.2 a (x ||| (q.1 <<< ((8 * i) &&& 31))) (i + 1)
theorem nI_lei {a b : Nat} (ha : a < 2 ^ 31) (hb : b < 2 ^ 31) : nI a ≤ nI b ↔ a ≤ b := by
  rw [Int32.le_iff_toInt_le, nI_toInt ha, nI_toInt hb]; omega
theorem rdf {p : Int32 × Int32} {S : qS} (k : Nat) : ∀ {T : qS}, RR p S T → ¬ S.1 7 = 0 → ∀ a x i : Int32, ∃ v T', mRd k T a x i = some (v, T') ∧ RR p S T' ∧ KM T T' := by
  induction k with
  | zero => intro T h _ a x i; exact ⟨x, T, rfl, h, KM_r T⟩
  | succ k ih =>
    intro T h hf a x i
    have hT : ¬ T.1 7 = 0 := by rw [RR_f h]; exact hf
    obtain ⟨b, e, hb⟩ := rb_f hT (a + i)
    have h2 : RR p S (pI T 11 e) := RR_d h (Or.inr (Or.inr (Nat.le_refl 11))) e
    obtain ⟨v, T', h3, h4, h5⟩ := ih h2 hf a (x ||| (b <<< ((8 * i) &&& 31))) (i + 1)
    refine ⟨v, T', ?_, h4, h5⟩
    rw [mRd, bnd_e hb]
    exact h3
theorem rdn {p : Int32 × Int32} (z : Nat) (hz : z < 2 ^ 31) (k : Nat) : ∀ {S T : qS}, RR p S T → ∀ (i m : Nat), i + k = z → ∀ a a' x x' : Int32, (S.1 7 = 0 → a' = a) → (S.1 7 = 0 → x' = x) → ∃ v v' S' T', fCo_read_5 (k + 1 + m) S a (nI z) x (nI i) = some (v, S') ∧ mRd k T a' x' (nI i) = some (v', T') ∧ RR p S' T' ∧ (S'.1 7 = 0 → v' = v) ∧ KC S S' ∧ KM T T' := by
  induction k with
  | zero =>
    intro S T h i m hi a a' x x' ha hx
    refine ⟨x, x', S, T, ?_, rfl, h, hx, KC_r S, KM_r T⟩
    rw [show 0 + 1 + m = m + 1 by omega, fCo_read_5, if_pos ((nI_lei hz (by omega)).mpr (by omega))]
    rfl
  | succ k ih =>
    intro S T h i m hi a a' x x' ha hx
    have hlt : ¬ nI z ≤ nI i := fun q => by
      have := (nI_lei hz (by omega)).mp q
      omega
    by_cases hf : S.1 7 = 0
    · have e1 := ha hf
      have e2 := hx hf
      subst e1 e2
      obtain ⟨b, S1, T1, h1, h2, h3, h4, h5⟩ := rd1 h hf (a' + nI i)
      obtain ⟨y, h6, h7⟩ := h1 (k + 1 + m) a' (nI z) x' (nI i) rfl hlt
      obtain ⟨v, v', S', T', g1, g2, g3, g4, g5, g6⟩ := ih h3 (i + 1) m (by omega) a' a' y (x' ||| (b <<< ((8 * nI i) &&& 31))) (fun _ => rfl) (fun q => (h7 q).symm)
      refine ⟨v, v', S', T', ?_, ?_, g3, g4, KC_t h4 g5, KM_t h5 g6⟩
      · rw [show k + 1 + 1 + m = (k + 1 + m) + 1 by omega, h6, nI_1]; exact g1
      · rw [mRd, bnd_e h2, nI_1]; exact g2
    · obtain ⟨v', T', h1, h2, h3⟩ := rdf (k + 1) h hf a' x' (nI i)
      refine ⟨x, v', S, T', ?_, h1, h2, fun q => absurd q hf, KC_r S, h3⟩
      rw [show k + 1 + 1 + m = (k + 1 + m) + 1 by omega, fCo_read_5, if_neg hlt, if_pos hf]
      rfl
theorem or_sh0 (b : Int32) : (0 : Int32) ||| (b <<< ((8 * (0 : Int32)) &&& 31)) = b := by
  rw [show (8 * (0 : Int32)) &&& 31 = 0 by decide]; simp
/-- one byte -/
theorem RR_r1 {p : Int32 × Int32} {S T : qS} (h : RR p S T) {a a' : Int32} (ha : S.1 7 = 0 → a' = a) : ∃ v v' S' T', fCo_read S a 1 = some (v, S') ∧ fM_readByte T a' = some (v', T') ∧ RR p S' T' ∧ (S'.1 7 = 0 → v' = v) ∧ KC S S' ∧ KM T T' := by
  obtain ⟨v, v', S', T', h1, h2, h3⟩ := rdn 1 (by decide) 1 h 0 298 rfl a a' 0 0 ha (fun _ => rfl)
  obtain ⟨q, hq, hr⟩ := bnd_s h2
  have e : a' + nI 0 = a' := Int32.add_zero a'
  rw [e] at hq
  have hr : some ((0 : Int32) ||| (q.1 <<< ((8 * (0 : Int32)) &&& 31)), q.2) = some (v', T') := hr
  rw [or_sh0] at hr
  refine ⟨v, v', S', T', h1, ?_, h3⟩
  rw [hq]
  exact hr
/-- a long -/
theorem fM_readLong_eq (T : qS) (a : Int32) : fM_readLong T a = mRd 4 T a 0 0 := by
  unfold fM_readLong
  rw [fM_readLong_4, if_neg (by decide), mRd]
  congr 1
theorem RR_r4 {p : Int32 × Int32} {S T : qS} (h : RR p S T) {a a' : Int32} (ha : S.1 7 = 0 → a' = a) : ∃ v v' S' T', fCo_read S a 4 = some (v, S') ∧ fM_readLong T a' = some (v', T') ∧ RR p S' T' ∧ (S'.1 7 = 0 → v' = v) ∧ KC S S' ∧ KM T T' := by
  obtain ⟨v, v', S', T', h1, h2, h3⟩ := rdn 4 (by decide) 4 h 0 295 rfl a a' 0 0 ha (fun _ => rfl)
  exact ⟨v, v', S', T', h1, (fM_readLong_eq T a').trans h2, h3⟩
