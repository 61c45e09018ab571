/-! Pure part 19: operands: addresses. -/
theorem pA_s (T : qS) (a : Nat) {i : Nat} (v : Int32) (hi : i < 2 ^ 31) : (pA T a (nI i) v).2 a i = v := by
  show (if a = a then upd (T.2 a) (nI i).toNatClampNeg v else T.2 a) i = v
  rw [if_pos rfl, nI_cl hi]
  exact if_pos rfl
theorem pA_o (T : qS) {a b : Nat} (j v : Int32) (h : b ≠ a) : (pA T a j v).2 b = T.2 b := if_neg h
theorem pA_n (T : qS) (a : Nat) {i j : Nat} (v : Int32) (h : i ≠ j) (hj : j < 2 ^ 31) : (pA T a (nI j) v).2 a i = T.2 a i := by
  show (if a = a then upd (T.2 a) (nI j).toNatClampNeg v else T.2 a) i = _
  rw [if_pos rfl, nI_cl hj]
  exact if_neg h
theorem pI_s (S : qS) (k : Nat) (v : Int32) : (pI S k v).1 k = v := if_pos rfl
theorem pI_o (S : qS) {j k : Nat} (v : Int32) (h : j ≠ k) : (pI S k v).1 j = S.1 j := if_neg h
/-- what stays of the other operands -/
def KCk (k : Nat) (S S' : qS) : Prop := ∀ j : Nat, 10 ≤ j → (j < 11 + 4 * k ∨ 14 + 4 * k < j) → S'.1 j = S.1 j
def KMk (k : Nat) (T T' : qS) : Prop := (∀ a : Nat, 5 ≤ a → a ≤ 7 → ∀ i : Nat, i ≠ k → T'.2 a i = T.2 a i) ∧ T'.1 10 = T.1 10
theorem KCk_t {k : Nat} {S S' S2 : qS} (h : KCk k S S') (h2 : KCk k S' S2) : KCk k S S2 := fun j a b => (h2 j a b).trans (h j a b)
theorem KMk_t {k : Nat} {S S' S2 : qS} (h : KMk k S S') (h2 : KMk k S' S2) : KMk k S S2 := ⟨fun a x y i q => (h2.1 a x y i q).trans (h.1 a x y i q), h2.2.trans h.2⟩
theorem KCk_c {k : Nat} {S S' : qS} (h : KC S S') : KCk k S S' := fun j a _ => h j a
theorem KMk_m {k : Nat} {S S' : qS} (h : KM S S') : KMk k S S' := ⟨fun a x y i _ => by rw [h.1 a x y], h.2⟩
theorem KCk_p {k j : Nat} (S : qS) (v : Int32) (h : 11 + 4 * k ≤ j) (h2 : j ≤ 14 + 4 * k) : KCk k S (pI S j v) := fun i a b => if_neg (by omega)
theorem KMk_a {k : Nat} (T : qS) (a : Nat) (v : Int32) (hk : k < 3) : KMk k T (pA T a (nI k) v) := ⟨fun b _ _ i q => by
  by_cases e : b = a
  · subst e; exact pA_n T b v q (by omega)
  · rw [pA_o T _ _ e], rfl⟩
theorem cBy_b (S : qS) (a : Int32) : ∃ j : Nat, j < 256 ∧ cBy S a = nI j := by
  unfold cBy
  split
  · exact pk_andE _ (m := 255) 8 (by decide)
  · exact ⟨0, by decide, rfl⟩
def kd (c x3 z : Int32) : Prop := (c = 82 ∧ x3 = 1 ∧ z = 4) ∨ (c = 114 ∧ x3 = 1 ∧ z = 1) ∨ (c = 87 ∧ x3 = 2 ∧ z = 4) ∨ (c = 119 ∧ x3 = 2 ∧ z = 1) ∨ (c = 77 ∧ x3 = 3 ∧ z = 4) ∨ (c = 65 ∧ x3 = 4 ∧ z = 4) ∨ (c = 97 ∧ x3 = 4 ∧ z = 1)
theorem kd_z {c x3 z : Int32} (h : kd c x3 z) : z = 1 ∨ z = 4 := by
  rcases h with ⟨-, -, rfl⟩ | ⟨-, -, rfl⟩ | ⟨-, -, rfl⟩ | ⟨-, -, rfl⟩ | ⟨-, -, rfl⟩ | ⟨-, -, rfl⟩ | ⟨-, -, rfl⟩
  · exact Or.inr rfl
  · exact Or.inl rfl
  · exact Or.inr rfl
  · exact Or.inl rfl
  · exact Or.inr rfl
  · exact Or.inr rfl
  · exact Or.inl rfl
theorem kd_r {c x3 z : Int32} (h : kd c x3 z) (S : qS) : ((x3 = 1 ∨ x3 = 3) ∧ fSp_isRead S c = some (1, S)) ∨ (¬ x3 = 1 ∧ ¬ x3 = 3 ∧ fSp_isRead S c = some (0, S)) := by
  rcases h with ⟨rfl, rfl, rfl⟩ | ⟨rfl, rfl, rfl⟩ | ⟨rfl, rfl, rfl⟩ | ⟨rfl, rfl, rfl⟩ | ⟨rfl, rfl, rfl⟩ | ⟨rfl, rfl, rfl⟩ | ⟨rfl, rfl, rfl⟩
  · exact Or.inl ⟨Or.inl rfl, rfl⟩
  · exact Or.inl ⟨Or.inl rfl, rfl⟩
  · exact Or.inr ⟨by decide, by decide, rfl⟩
  · exact Or.inr ⟨by decide, by decide, rfl⟩
  · exact Or.inl ⟨Or.inr rfl, rfl⟩
  · exact Or.inr ⟨by decide, by decide, rfl⟩
  · exact Or.inr ⟨by decide, by decide, rfl⟩
theorem ik3 {k : Nat} (hk : k < 3) : inb (nI k) 3 = true := inb_nI hk (by decide)
/-- what an operand's address gives -/
theorem f248 {p : Int32 × Int32} {S T : qS} (h : RR p S T) {k : Nat} (hk : k < 3) {c x3 z a' : Int32} (hc : kd c x3 z) (hz : S.1 (11 + 4 * k) = z) (ha : S.1 7 = 0 → a' = S.1 (13 + 4 * k)) : ∃ S' T', fSp_find_248 S k c = some S' ∧ fM_operand_458 T (nI k) x3 z a' = some T' ∧ RR p S' T' ∧ KCk k S S' ∧ KMk k T T' ∧ (∀ j : Nat, j = 11 + 4 * k ∨ j = 12 + 4 * k ∨ j = 13 + 4 * k → S'.1 j = S.1 j) ∧ T'.2 6 k = T.2 6 k ∧ T'.2 7 k = a' ∧ (S'.1 7 = 0 → (x3 = 1 ∨ x3 = 3) → T'.2 5 k = S'.1 (14 + 4 * k) ∧ (z = 1 → ∃ j : Nat, j < 256 ∧ T'.2 5 k = nI j)) ∧ (S'.1 7 = 0 → S.1 7 = 0) := by
  have hi := ik3 hk
  have h7 := RR_da h (k := 7) (by decide) (nI k) a'
  have k7 := KMk_a T 7 a' hk
  have e76 : (pA T 7 (nI k) a').2 6 k = T.2 6 k := by rw [pA_o T _ _ (by decide)]
  have e77 : (pA T 7 (nI k) a').2 7 k = a' := pA_s T 7 a' (by omega)
  unfold fSp_find_248 fM_operand_458
  rw [chk_t hi]
  rcases kd_r hc S with ⟨hr, e⟩ | ⟨h1, h3, e⟩
  · rw [bnd_e e]
    dsimp only
    rw [if_neg (by decide)]
    have em : (if x3 = 1 then fM_operand_476 (pA T 7 (nI k) a') (nI k) z a' else if ¬ x3 = 3 then fM_operand_503 (pA T 7 (nI k) a') else fM_operand_476 (pA T 7 (nI k) a') (nI k) z a') = fM_operand_476 (pA T 7 (nI k) a') (nI k) z a' := by
      rcases hr with rfl | rfl <;> rfl
    rw [em, hz]
    have main : ∃ v v' S' T', fCo_read S (S.1 (13 + 4 * k)) z = some (v, S') ∧ fM_operand_476 (pA T 7 (nI k) a') (nI k) z a' = fM_operand_502 T' (nI k) v' ∧ RR p S' T' ∧ (S'.1 7 = 0 → v' = v) ∧ KC S S' ∧ KM (pA T 7 (nI k) a') T' ∧ (S'.1 7 = 0 → z = 1 → ∃ j : Nat, j < 256 ∧ v' = nI j) := by
      rcases kd_z hc with rfl | rfl
      · obtain ⟨v, v', S', T', g1, g2, g3, g4, g5, g6⟩ := RR_r1 h7 ha
        refine ⟨v, v', S', T', g1, ?_, g3, g4, g5, g6, fun q _ => ?_⟩
        · unfold fM_operand_476
          rw [if_pos (by decide), bnd_e g2]
        · have hl : S.1 7 = 0 := Classical.byContradiction fun nq => by
            rw [dc_read nq] at g1
            cases g1
            exact nq q
          obtain ⟨T9, d1, -, -⟩ := mR_st h7 hl a'
          rw [d1] at g2
          cases g2
          exact cBy_b S a'
      · obtain ⟨v, v', S', T', g1, g2, g3, g4, g5, g6⟩ := RR_r4 h7 ha
        refine ⟨v, v', S', T', g1, ?_, g3, g4, g5, g6, fun _ w => absurd w (by decide)⟩
        unfold fM_operand_476
        rw [if_neg (by decide), bnd_e g2]
    obtain ⟨v, v', S1, T1, g1, g2, g3, g4, g5, g6, g7⟩ := main
    rw [bnd_e g1, g2]
    unfold fM_operand_502
    rw [chk_t hi]
    refine ⟨_, _, rfl, rfl, RR_c (RR_da g3 (by decide) _ _) (Or.inr (Or.inl (by omega))) _, KCk_t (KCk_c g5) (KCk_p _ _ (by omega) (by omega)), KMk_t k7 (KMk_t (KMk_m g6) (KMk_a _ _ _ hk)), ?_, ?_, ?_, ?_, ?_⟩
    · intro j hj
      rw [pI_o _ _ (by omega)]
      exact g5 j (by omega)
    · rw [pA_o _ _ _ (by decide), g6.1 6 (by decide) (by decide)]; exact e76
    · rw [pA_o _ _ _ (by decide), g6.1 7 (by decide) (by decide)]; exact e77
    · intro q _
      rw [pI_o _ _ (by omega)] at q
      rw [pA_s _ _ _ (by omega), pI_s]
      exact ⟨g4 q, g7 q⟩
    · intro q
      rw [pI_o _ _ (by omega)] at q
      refine Classical.byContradiction fun nq => ?_
      have := dc_read nq (S.1 (13 + 4 * k)) z
      rw [this] at g1
      cases g1
      exact nq q
  · rw [bnd_e e]
    dsimp only
    rw [if_pos rfl, if_neg h1, if_pos h3]
    refine ⟨_, _, rfl, rfl, RR_c h7 (Or.inr (Or.inl (by omega))) _, KCk_p _ _ (by omega) (by omega), k7, ?_, e76, e77, ?_, ?_⟩
    · intro j hj
      exact pI_o _ _ (by omega)
    · intro _ q
      exact absurd q (fun q => q.elim h1 h3)
    · intro q
      rw [pI_o _ _ (by omega)] at q
      exact q
/-- a byte's sign -/
theorem b_byte7 (x : Int32) {i : Nat} (hi : i < 32) (h8 : ¬ i < 8) : bt x.toInt8.toInt32 i = bt x 7 := by
  unfold bt
  rw [Int8.toBitVec_toInt32, Int32.toBitVec_toInt8, BitVec.getLsbD_signExtend, if_neg h8, BitVec.msb_eq_getLsbD_last, BitVec.getLsbD_signExtend, decide_eq_true hi]
  rfl
theorem sgn (x : Int32) : (x <<< ((24 : Int32) &&& 31)) >>> ((24 : Int32) &&& 31) = x.toInt8.toInt32 := by
  refine b_ext (fun i hi => ?_)
  have e := b_sshr 24 (by decide) (x <<< ((24 : Int32) &&& 31)) hi
  have e24 : nI 24 = 24 := rfl
  rw [e24] at e
  rw [e]
  by_cases h8 : i < 8
  · rw [if_pos (by omega), b_shl24 _ (by omega), b_byte x h8, decide_eq_true (by omega), Bool.true_and, show 24 + i - 24 = i by omega]
  · rw [if_neg (by omega), b_shl24 _ (by omega), b_byte7 x hi h8]
    rfl
theorem fM_signed_eq (T : qS) (x : Int32) : fM_signed T x = some (x.toInt8.toInt32, T) := by
  unfold fM_signed
  rw [sgn]
/-- the ways that give an address -/
def way (md : Nat) : Prop := md = 6 ∨ md = 7 ∨ md = 8 ∨ md = 9 ∨ md = 10 ∨ md = 11 ∨ md = 14 ∨ md = 15
def mAd (T : qS) (k x3 z x6 x7 x8 : Int32) : Option qS := if 10 ≤ x7 then fM_operand_275 T k x3 z x6 x7 x8 0 else (fM_get T x8).bind fun q4 => fM_operand_275 q4.2 k x3 z x6 x7 x8 q4.1
/-- by a displacement -/
theorem a124 {p : Int32 × Int32} {S T : qS} (h : RR p S T) {n : Nat} (hn : n < 16) {y y' : Int32} (hy : S.1 7 = 0 → y' = y) {md : Nat} (hm : md = 10 ∨ md = 11 ∨ md = 14 ∨ md = 15) (k x3 z x6 : Int32) : ∃ a a' S' T', fSp_addressBy_124 S (nI md) (nI n) y = some (a, S') ∧ fM_operand_397 T k x3 z x6 (nI md) (nI n) y' = fM_operand_439 T' k x3 z x6 a' ∧ RR p S' T' ∧ (S'.1 7 = 0 → a' = a) ∧ KC S S' ∧ KM T T' := by
  have hi : inb (nI n) 16 = true := inb_nI hn (by decide)
  have hg := RR_get h hi
  have hs : S.1 7 = 0 → mGet T (nI n) + y' = cGet S (nI n) + y := fun q => by rw [hg q, hy q]
  unfold fSp_addressBy_124 fM_operand_397
  rw [bnd_e (fCo_get_eq S _), bnd_e (fM_get_eq T hi)]
  dsimp only
  unfold fM_operand_410
  rcases hm with rfl | rfl | rfl | rfl
  · rw [if_pos (by decide), if_neg (by decide), if_neg (by decide), if_pos (by decide)]
    exact ⟨_, _, S, T, rfl, rfl, h, hs, KC_r S, KM_r T⟩
  · rw [if_neg (by decide), if_pos (by decide), if_neg (by decide), if_pos (by decide)]
    obtain ⟨v, v', S', T', g1, g2, g3, g4, g5, g6⟩ := RR_r4 h hs
    rw [bnd_e g1]
    unfold fM_operand_431
    rw [bnd_e g2]
    exact ⟨_, _, S', T', rfl, rfl, g3, g4, g5, g6⟩
  · rw [if_neg (by decide), if_neg (by decide), if_neg (by decide), if_neg (by decide), if_pos (by decide)]
    exact ⟨_, _, S, T, rfl, rfl, h, hs, KC_r S, KM_r T⟩
  · rw [if_neg (by decide), if_pos (by decide), if_neg (by decide), if_neg (by decide), if_neg (by decide)]
    obtain ⟨v, v', S', T', g1, g2, g3, g4, g5, g6⟩ := RR_r4 h hs
    rw [bnd_e g1]
    unfold fM_operand_431
    rw [bnd_e g2]
    exact ⟨_, _, S', T', rfl, rfl, g3, g4, g5, g6⟩
theorem a98 {p : Int32 × Int32} {S T : qS} (h : RR p S T) (hf : S.1 7 = 0) {n : Nat} (hn : n < 16) {md : Nat} (hm : md = 10 ∨ md = 11 ∨ md = 14 ∨ md = 15) (k x3 z x6 x9 : Int32) : ∃ a a' S' T', fSp_addressBy_98 S (nI md) (nI n) = some (a, S') ∧ fM_operand_345 T k x3 z x6 (nI md) (nI n) x9 = fM_operand_439 T' k x3 z x6 a' ∧ RR p S' T' ∧ (S'.1 7 = 0 → a' = a) ∧ KC S S' ∧ KM T T' := by
  have one : ∀ md : Nat, (md = 10 ∨ md = 11) → ∃ a a' S' T', (fCo_fetch S 1).bind (fun q3 => fSp_addressBy_124 q3.2 (nI md) (nI n) q3.1.toInt8.toInt32) = some (a, S') ∧ ((fM_next T).bind fun q7 => (fM_signed q7.2 q7.1).bind fun q8 => fM_operand_397 q8.2 k x3 z x6 (nI md) (nI n) q8.1) = fM_operand_439 T' k x3 z x6 a' ∧ RR p S' T' ∧ (S'.1 7 = 0 → a' = a) ∧ KC S S' ∧ KM T T' := fun md hm => by
    obtain ⟨v, v', S1, T1, g1, g2, g3, g4, g5, g6⟩ := RR_next h
    obtain ⟨a, a', S', T', r1, r2, r3, r4, r5, r6⟩ := a124 g3 hn (y := v.toInt8.toInt32) (y' := v'.toInt8.toInt32) (fun q => by rw [g4 q]) (md := md) (by omega) k x3 z x6
    rw [bnd_e g1, bnd_e g2, bnd_e (fM_signed_eq T1 v')]
    exact ⟨a, a', S', T', r1, r2, r3, r4, KC_t g5 r5, KM_t g6 r6⟩
  have four : ∀ md : Nat, (md = 14 ∨ md = 15) → ∃ a a' S' T', (fCo_fetch S 4).bind (fun q2 => fSp_addressBy_124 q2.2 (nI md) (nI n) q2.1) = some (a, S') ∧ ((fM_next T).bind fun q3 => (fM_next q3.2).bind fun q4 => (fM_next q4.2).bind fun q5 => (fM_next q5.2).bind fun q6 => fM_operand_397 q6.2 k x3 z x6 (nI md) (nI n) (((q3.1 ||| (q4.1 <<< ((8 : Int32) &&& 31))) ||| (q5.1 <<< ((16 : Int32) &&& 31))) ||| (q6.1 <<< ((24 : Int32) &&& 31)))) = fM_operand_439 T' k x3 z x6 a' ∧ RR p S' T' ∧ (S'.1 7 = 0 → a' = a) ∧ KC S S' ∧ KM T T' := fun md hm => by
    obtain ⟨v, v', S1, T1, g1, g2, g3, g4, g5, g6⟩ := RR_fetch4 h hf
    obtain ⟨q3, e3, g2⟩ := bnd_s g2
    obtain ⟨q4, e4, g2⟩ := bnd_s g2
    obtain ⟨q5, e5, g2⟩ := bnd_s g2
    obtain ⟨q6, e6, g2⟩ := bnd_s g2
    have g2 : some (((((0 : Int32) ||| (q3.1 <<< ((8 * (0 : Int32)) &&& 31))) ||| (q4.1 <<< ((8 : Int32) &&& 31))) ||| (q5.1 <<< ((16 : Int32) &&& 31))) ||| (q6.1 <<< ((24 : Int32) &&& 31)), q6.2) = some (v', T1) := g2
    rw [or_sh0] at g2
    have w1 := congrArg Prod.fst (Option.some.inj g2)
    have w2 := congrArg Prod.snd (Option.some.inj g2)
    dsimp only at w1 w2
    obtain ⟨a, a', S', T', r1, r2, r3, r4, r5, r6⟩ := a124 g3 hn (y := v) (y' := v') g4 (md := md) (by omega) k x3 z x6
    rw [bnd_e g1, bnd_e e3, bnd_e e4, bnd_e e5, bnd_e e6, w1, w2]
    exact ⟨a, a', S', T', r1, r2, r3, r4, KC_t g5 r5, KM_t g6 r6⟩
  unfold fSp_addressBy_98 fM_operand_345
  rcases hm with rfl | rfl | rfl | rfl
  · rw [if_neg (by decide), if_neg (by decide), if_neg (by decide)]
    exact one 10 (by decide)
  · rw [if_neg (by decide), if_neg (by decide), if_neg (by decide)]
    exact one 11 (by decide)
  · rw [if_pos (by decide), if_neg (by decide), if_pos (by decide)]
    exact four 14 (by decide)
  · rw [if_pos (by decide), if_neg (by decide), if_pos (by decide)]
    exact four 15 (by decide)
/-- an address -/
theorem AD {p : Int32 × Int32} {S T : qS} (h : RR p S T) (hf : S.1 7 = 0) {md n : Nat} (hw : way md) (hn : n < 16) (k x3 z x6 : Int32) : ∃ a a' S' T', fSp_addressBy S (nI md) (nI n) z = some (a, S') ∧ mAd T k x3 z x6 (nI md) (nI n) = fM_operand_439 T' k x3 z x6 a' ∧ RR p S' T' ∧ (S'.1 7 = 0 → a' = a) ∧ KC S S' ∧ KM T T' := by
  have hi : inb (nI n) 16 = true := inb_nI hn (by decide)
  have hg := RR_get h hi
  have tail : ∀ md : Nat, (md = 10 ∨ md = 11 ∨ md = 14 ∨ md = 15) → fSp_addressBy S (nI md) (nI n) z = fSp_addressBy_98 S (nI md) (nI n) → mAd T k x3 z x6 (nI md) (nI n) = fM_operand_345 T k x3 z x6 (nI md) (nI n) 0 → ∃ a a' S' T', fSp_addressBy S (nI md) (nI n) z = some (a, S') ∧ mAd T k x3 z x6 (nI md) (nI n) = fM_operand_439 T' k x3 z x6 a' ∧ RR p S' T' ∧ (S'.1 7 = 0 → a' = a) ∧ KC S S' ∧ KM T T' := fun md hm e1 e2 => by
    rw [e1, e2]
    exact a98 h hf hn hm k x3 z x6 0
  rcases hw with rfl | rfl | rfl | rfl | rfl | rfl | rfl | rfl
  · refine ⟨cGet S (nI n), mGet T (nI n), S, T, ?_, ?_, h, hg, KC_r S, KM_r T⟩
    · unfold fSp_addressBy
      rw [bnd_e (fCo_get_eq S _), if_neg (by decide), if_pos (by decide)]
      rfl
    · unfold mAd
      rw [if_neg (by decide), bnd_e (fM_get_eq T hi)]
      unfold fM_operand_275 fM_operand_291 fM_operand_328 fM_operand_345 fM_operand_410
      dsimp only
      rw [if_pos (by decide), if_neg (by decide), if_pos (by decide), if_pos (by decide), if_pos (by decide), if_neg (by decide), if_neg (by decide), if_pos (by decide)]
  · refine ⟨cGet S (nI n) - z, mGet T (nI n) - z, cPut S (nI n) (cGet S (nI n) - z), mPut T (nI n) (mGet T (nI n) - z), ?_, ?_, RR_put h hi (fun q => by rw [hg q]), fun q => ?_, KC_put _ _ _, KM_put _ _ _⟩
    · unfold fSp_addressBy
      rw [bnd_e (fCo_get_eq S _), if_neg (by decide), if_neg (by decide), if_pos (by decide)]
      unfold fSp_addressBy_43
      dsimp only
      rw [bnd_e (fCo_put_eq S _ _)]
    · unfold mAd
      rw [if_neg (by decide), bnd_e (fM_get_eq T hi)]
      unfold fM_operand_275 fM_operand_291 fM_operand_305 fM_operand_325
      dsimp only
      rw [if_neg (by decide), if_pos (by decide), if_neg (by decide), bnd_e (fM_put_eq T _ hi)]
      unfold fM_operand_328 fM_operand_345 fM_operand_410
      rw [if_pos (by decide), if_pos (by decide), if_neg (by decide), if_neg (by decide), if_pos (by decide)]
    · rw [cPut_f] at q; rw [hg q]
  · refine ⟨cGet S (nI n), mGet T (nI n), cPut S (nI n) (cGet S (nI n) + z), mPut T (nI n) (mGet T (nI n) + z), ?_, ?_, RR_put h hi (fun q => by rw [hg q]), fun q => ?_, KC_put _ _ _, KM_put _ _ _⟩
    · unfold fSp_addressBy
      rw [bnd_e (fCo_get_eq S _), if_neg (by decide), if_neg (by decide), if_neg (by decide), if_pos (by decide)]
      unfold fSp_addressBy_60
      dsimp only
      rw [bnd_e (fCo_put_eq S _ _)]
    · unfold mAd
      rw [if_neg (by decide), bnd_e (fM_get_eq T hi)]
      unfold fM_operand_275 fM_operand_291 fM_operand_305 fM_operand_325
      dsimp only
      rw [if_pos (by decide), if_neg (by decide), if_neg (by decide), if_pos (by decide), bnd_e (fM_put_eq T _ hi)]
      unfold fM_operand_328 fM_operand_345 fM_operand_410
      rw [if_pos (by decide), if_pos (by decide), if_neg (by decide), if_neg (by decide), if_pos (by decide)]
    · rw [cPut_f] at q; exact hg q
  · have h2 : RR p (cPut S (nI n) (cGet S (nI n) + 4)) (mPut T (nI n) (mGet T (nI n) + 4)) := RR_put h hi (fun q => by rw [hg q])
    obtain ⟨v, v', S', T', g1, g2, g3, g4, g5, g6⟩ := RR_r4 (a := cGet S (nI n)) (a' := mGet T (nI n)) h2 (fun q => by rw [cPut_f] at q; exact hg q)
    refine ⟨v, v', S', T', ?_, ?_, g3, g4, KC_t (KC_put _ _ _) g5, KM_t (KM_put _ _ _) g6⟩
    · unfold fSp_addressBy
      rw [bnd_e (fCo_get_eq S _), if_neg (by decide), if_neg (by decide), if_neg (by decide), if_neg (by decide), if_pos (by decide)]
      unfold fSp_addressBy_75
      dsimp only
      rw [bnd_e (fCo_put_eq S _ _), bnd_e g1]
    · unfold mAd
      rw [if_neg (by decide), bnd_e (fM_get_eq T hi)]
      unfold fM_operand_275 fM_operand_291 fM_operand_328
      dsimp only
      rw [if_pos (by decide), if_neg (by decide), if_pos (by decide), if_neg (by decide), bnd_e (fM_put_eq T _ hi)]
      unfold fM_operand_345 fM_operand_410 fM_operand_431
      rw [if_pos (by decide), if_pos (by decide), bnd_e g2]
  · refine tail 10 (by decide) ?_ ?_
    · unfold fSp_addressBy
      rw [bnd_e (fCo_get_eq S _), if_pos (by decide)]
    · unfold mAd
      rw [if_pos (by decide)]
      unfold fM_operand_275 fM_operand_291 fM_operand_328
      rw [if_pos (by decide), if_neg (by decide), if_pos (by decide), if_pos (by decide)]
  · refine tail 11 (by decide) ?_ ?_
    · unfold fSp_addressBy
      rw [bnd_e (fCo_get_eq S _), if_pos (by decide)]
    · unfold mAd
      rw [if_pos (by decide)]
      unfold fM_operand_275 fM_operand_291 fM_operand_328
      rw [if_pos (by decide), if_neg (by decide), if_pos (by decide), if_pos (by decide)]
  · refine tail 14 (by decide) ?_ ?_
    · unfold fSp_addressBy
      rw [bnd_e (fCo_get_eq S _), if_pos (by decide)]
    · unfold mAd
      rw [if_pos (by decide)]
      unfold fM_operand_275 fM_operand_291 fM_operand_328
      rw [if_pos (by decide), if_neg (by decide), if_pos (by decide), if_pos (by decide)]
  · refine tail 15 (by decide) ?_ ?_
    · unfold fSp_addressBy
      rw [bnd_e (fCo_get_eq S _), if_pos (by decide)]
    · unfold mAd
      rw [if_pos (by decide)]
      unfold fM_operand_275 fM_operand_291 fM_operand_328
      rw [if_pos (by decide), if_neg (by decide), if_pos (by decide), if_pos (by decide)]
