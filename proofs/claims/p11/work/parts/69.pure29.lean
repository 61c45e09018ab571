/-! Pure part 29: codes 25 to 41, 64 to 67. -/
def CW (p : Int32 × Int32) (f g : Option qS) : Prop := ∃ S1 T1, f = some S1 ∧ g = some T1 ∧ RR p S1 T1 ∧ (S1.1 7 = 0 → S1.1 10 = T1.1 10 ∧ (T1.1 10 = 0 ∨ T1.1 10 = 2))
theorem PK_CW {p : Int32 × Int32} {S T : qS} {f g : Option qS} (h : PK p S T f g) (h1 : S.1 10 = 0) (h2 : T.1 10 = 0) : CW p f g := by
  obtain ⟨S', T', a1, a2, a3, a4⟩ := h
  refine ⟨S', T', a1, a2, a3, fun q => ?_⟩
  obtain ⟨b1, b2⟩ := a4 q
  have e1 : S'.1 10 = 0 := (b1 10 (by decide)).trans h1
  have e2 : T'.1 10 = 0 := b2.2.trans h2
  exact ⟨e1.trans e2.symm, Or.inl e2⟩
theorem RK {p : Int32 × Int32} {S T : qS} (h : RR p S T) (hf : S.1 7 = 0) {k : Nat} (hk : k < 3) (hz : S.1 (11 + 4 * k) = 4) (hw : OW k S T) (v o c : Int32) {y : Int32} (hy : S.1 10 = y) (hy2 : y = 0 ∨ y = 2) : CW p ((fCd_store (pI S 6 (cD (S.1 6) v o c)) k v).bind fun S6 => some S6) (fM_reckon_216 T (nI k) v o c y) := by
  have h2 : RR p (pI S 6 (cD (S.1 6) v o c)) (pI (pI T 10 y) 1 (cD ((pI T 10 y).1 1) v o c)) := RR_cD (RR_tm h y) (fun _ => ⟨rfl, rfl, rfl⟩)
  have hw1 : OW k (pI S 6 (cD (S.1 6) v o c)) T := OW_K hk (KC_p (by decide) _) (KM_r T) hw
  have hw2 : OW k (pI S 6 (cD (S.1 6) v o c)) (pI (pI T 10 y) 1 (cD ((pI T 10 y).1 1) v o c)) := hw1
  obtain ⟨S', T', r1, r2, r3, r4, r5⟩ := RR_give h2 hf hk (z := 4) (x := v) (x' := v) (by rw [pI_o _ _ (by omega)]; exact hz) (Or.inr rfl) hw2 (Or.inl ⟨rfl, rfl⟩)
  unfold fM_reckon_216
  rw [bnd_e (mark_eq _ v o c), bnd_e r1, bnd_e r2]
  refine ⟨S', T', rfl, rfl, r3, fun _ => ?_⟩
  have e1 : S'.1 10 = y := (r4 10 (by decide)).trans hy
  have e2 : T'.1 10 = y := r5.2
  exact ⟨e1.trans e2.symm, by rw [e2]; exact hy2⟩
def cCa (S : qS) (c a b : Int32) (k : Nat) : Option qS := (fCd_calculated S c a b).bind fun q5 => (fCd_store q5.2 k q5.1).bind fun S6 => some S6
theorem ca0 {p : Int32 × Int32} {S T : qS} (h : RR p S T) (hf : S.1 7 = 0) (h10 : S.1 10 = 0) {k : Nat} (hk : k < 3) (hz : S.1 (11 + 4 * k) = 4) (hw : OW k S T) (a b : Int32) : CW p (cCa S 27 a b k) (fM_reckon T 0 a b (nI k)) := by
  have e : fCd_calculated S 27 a b = (fCd_add S b a).bind fun q1 => some (q1.1, q1.2) := by
    unfold fCd_calculated fCd_calculated_40
    rw [if_neg (by decide), if_pos rfl]
  unfold cCa
  rw [e, bnd_e (add_eq S b a), rk0]
  exact RK h hf hk hz hw _ _ _ h10 (Or.inl rfl)
theorem ca1 {p : Int32 × Int32} {S T : qS} (h : RR p S T) (hf : S.1 7 = 0) (h10 : S.1 10 = 0) {k : Nat} (hk : k < 3) (hz : S.1 (11 + 4 * k) = 4) (hw : OW k S T) (a b : Int32) : CW p (cCa S 28 a b k) (fM_reckon T 1 a b (nI k)) := by
  have e : fCd_calculated S 28 a b = (fCd_subtract S b a).bind fun q1 => some (q1.1, q1.2) := by
    unfold fCd_calculated fCd_calculated_47
    rw [if_neg (by decide), if_neg (show ¬ (28 : Int32) = 27 by decide), if_pos rfl]
  unfold cCa
  rw [e, bnd_e (sub_eq S b a), rk1]
  exact RK h hf hk hz hw _ _ _ h10 (Or.inl rfl)
theorem ca2 {p : Int32 × Int32} {S T : qS} (h : RR p S T) (hf : S.1 7 = 0) (h10 : S.1 10 = 0) {k : Nat} (hk : k < 3) (hz : S.1 (11 + 4 * k) = 4) (hw : OW k S T) (a b : Int32) : CW p (cCa S 29 a b k) (fM_reckon T 2 a b (nI k)) := by
  have e : fCd_calculated S 29 a b = (fCd_multiply S b a).bind fun q1 => some (q1.1, q1.2) := by
    unfold fCd_calculated fCd_calculated_54
    rw [if_neg (by decide), if_neg (show ¬ (29 : Int32) = 27 by decide), if_neg (show ¬ (29 : Int32) = 28 by decide), if_pos rfl]
  unfold cCa
  rw [e, bnd_e (mul_eq S b a), rk2]
  exact RK h hf hk hz hw _ _ _ h10 (Or.inl rfl)
theorem ca3 {p : Int32 × Int32} {S T : qS} (h : RR p S T) (hf : S.1 7 = 0) (h10 : S.1 10 = 0) {k : Nat} (hk : k < 3) (hz : S.1 (11 + 4 * k) = 4) (hw : OW k S T) (a b : Int32) : CW p (cCa S 30 a b k) (fM_reckon T 3 a b (nI k)) := by
  have e : fCd_calculated S 30 a b = (fCd_divide S b a).bind fun q1 => some (q1.1, q1.2) := by
    unfold fCd_calculated fCd_calculated_61
    rw [if_neg (by decide), if_neg (show ¬ (30 : Int32) = 27 by decide), if_neg (show ¬ (30 : Int32) = 28 by decide), if_neg (show ¬ (30 : Int32) = 29 by decide), if_pos rfl]
  unfold cCa
  rw [e]
  have main : ∀ (S0 : qS) (y : Int32), RR p S0 T → S0.1 7 = 0 → S0.1 10 = y → (y = 0 ∨ y = 2) → S0.1 (11 + 4 * k) = 4 → OW k S0 T → (if a = 0 then 2 else 0) = y → CW p (((fCd_divide_12 S0 b a).bind fun q1 => some (q1.1, q1.2)).bind fun q5 => (fCd_store q5.2 k q5.1).bind fun S6 => some S6) (fM_reckon T 3 a b (nI k)) := fun S0 y w1 w2 w3 w4 w5 w6 w7 => by
    obtain ⟨d1, d2⟩ := div12_eq S0 b a
    obtain ⟨m1, m2⟩ := rk3 T a b (nI k)
    rw [w7] at m1 m2
    by_cases q : dO b a
    · rw [bnd_e (d1 q), m1 q]
      exact RK w1 w2 hk w5 w6 _ _ _ w3 w4
    · rw [bnd_e (d2 q), m2 q]
      exact RK w1 w2 hk w5 w6 _ _ _ w3 w4
  unfold fCd_divide
  by_cases q : a = 0
  · rw [if_neg (not_not_intro q)]
    exact main (pI S 10 2) 2 (RR_tc h 2) hf rfl (Or.inr rfl) (by rw [pI_o _ _ (by omega)]; exact hz) (by
      unfold OW at *
      rw [pI_o _ _ (by omega), pI_o _ _ (by omega)]
      exact hw) (if_pos q)
  · rw [if_pos q]
    exact main S 0 h hf h10 (Or.inl rfl) hz hw (if_neg q)
theorem ca4 {p : Int32 × Int32} {S T : qS} (h : RR p S T) (hf : S.1 7 = 0) (h10 : S.1 10 = 0) {k : Nat} (hk : k < 3) (hz : S.1 (11 + 4 * k) = 4) (hw : OW k S T) (a b : Int32) : CW p (cCa S 31 a b k) (fM_reckon T 4 a b (nI k)) := by
  have e : fCd_calculated S 31 a b = (fCd_bits S (b ||| a)).bind fun q1 => some (q1.1, q1.2) := by
    unfold fCd_calculated fCd_calculated_68
    rw [if_neg (by decide), if_neg (show ¬ (31 : Int32) = 27 by decide), if_neg (show ¬ (31 : Int32) = 28 by decide), if_neg (show ¬ (31 : Int32) = 29 by decide), if_neg (show ¬ (31 : Int32) = 30 by decide), if_pos rfl]
  unfold cCa
  rw [e, bnd_e (bits_eq S _), rk4, cyr h hf]
  exact RK h hf hk hz hw _ _ _ h10 (Or.inl rfl)
theorem ca5 {p : Int32 × Int32} {S T : qS} (h : RR p S T) (hf : S.1 7 = 0) (h10 : S.1 10 = 0) {k : Nat} (hk : k < 3) (hz : S.1 (11 + 4 * k) = 4) (hw : OW k S T) (a b : Int32) : CW p (cCa S 32 a b k) (fM_reckon T 5 a b (nI k)) := by
  have e : fCd_calculated S 32 a b = (fCd_bits S (b &&& (a ^^^ (-1)))).bind fun q1 => some (q1.1, q1.2) := by
    unfold fCd_calculated fCd_calculated_76
    rw [if_neg (by decide), if_neg (show ¬ (32 : Int32) = 27 by decide), if_neg (show ¬ (32 : Int32) = 28 by decide), if_neg (show ¬ (32 : Int32) = 29 by decide), if_neg (show ¬ (32 : Int32) = 30 by decide), if_neg (show ¬ (32 : Int32) = 31 by decide), if_pos rfl]
  unfold cCa
  rw [e, bnd_e (bits_eq S _), rk5, cyr h hf]
  exact RK h hf hk hz hw _ _ _ h10 (Or.inl rfl)
theorem ca6 {p : Int32 × Int32} {S T : qS} (h : RR p S T) (hf : S.1 7 = 0) (h10 : S.1 10 = 0) {k : Nat} (hk : k < 3) (hz : S.1 (11 + 4 * k) = 4) (hw : OW k S T) (a b : Int32) : CW p (cCa S 33 a b k) (fM_reckon T 6 a b (nI k)) := by
  have e : fCd_calculated S 33 a b = (fCd_bits S (b ^^^ a)).bind fun q1 => some (q1.1, q1.2) := by
    unfold fCd_calculated fCd_calculated_86
    rw [if_pos (by decide)]
  unfold cCa
  rw [e, bnd_e (bits_eq S _), rk6, cyr h hf]
  exact RK h hf hk hz hw _ _ _ h10 (Or.inl rfl)
theorem c25 {p : Int32 × Int32} {S T : qS} (h : RR p S T) (hf : S.1 7 = 0) (h10 : S.1 10 = 0) (hz : S.1 11 = 4) (hw : OW 0 S T) (hv : T.2 5 0 = S.1 14) : CW p (fCd_calculate S 25) (fM_reckon T (25 - 25) 1 (gA T 5 0) 0) := by
  have g0 : gA T 5 0 = S.1 14 := hv
  have e : fCd_calculate S 25 = (fCd_add S (S.1 14) 1).bind fun q9 => (fCd_store q9.2 0 q9.1).bind fun S1 => some S1 := by
    unfold fCd_calculate fCd_calculate_39 fCd_calculate_118
    rw [if_neg (show ¬ (27 : Int32) ≤ 25 by decide), if_neg (show ¬ ¬ (25 : Int32) = 25 by decide)]
  rw [e, bnd_e (add_eq S _ 1), show (25 - 25 : Int32) = 0 by decide, rk0, g0]
  exact RK h hf (k := 0) (by decide) hz hw _ _ _ h10 (Or.inl rfl)
theorem c26 {p : Int32 × Int32} {S T : qS} (h : RR p S T) (hf : S.1 7 = 0) (h10 : S.1 10 = 0) (hz : S.1 11 = 4) (hw : OW 0 S T) (hv : T.2 5 0 = S.1 14) : CW p (fCd_calculate S 26) (fM_reckon T (26 - 25) 1 (gA T 5 0) 0) := by
  have g0 : gA T 5 0 = S.1 14 := hv
  have e : fCd_calculate S 26 = (fCd_subtract S (S.1 14) 1).bind fun q9 => (fCd_store q9.2 0 q9.1).bind fun S1 => some S1 := by
    unfold fCd_calculate fCd_calculate_39 fCd_calculate_118
    rw [if_neg (show ¬ (27 : Int32) ≤ 26 by decide), if_pos (show ¬ (26 : Int32) = 25 by decide)]
  rw [e, bnd_e (sub_eq S _ 1), show (26 - 25 : Int32) = 1 by decide, rk1, g0]
  exact RK h hf (k := 0) (by decide) hz hw _ _ _ h10 (Or.inl rfl)
theorem c27 {p : Int32 × Int32} {S T : qS} (h : RR p S T) (hf : S.1 7 = 0) (h10 : S.1 10 = 0) (hz : S.1 15 = 4) (hw : OW 1 S T) (hv : T.2 5 0 = S.1 14) (hv1 : T.2 5 1 = S.1 18) : CW p (fCd_calculate S 27) (fM_reckon T ((27 - 27) - (27 - 27) / 7 * 7) (gA T 5 0) (gA T 5 1) 1) := by
  have g0 : gA T 5 0 = S.1 14 := hv
  have g1 : gA T 5 1 = S.1 18 := hv1
  have e : fCd_calculate S 27 = cCa S 27 (S.1 14) (S.1 18) 1 := by
    unfold fCd_calculate fCd_calculate_118 cCa
    rw [if_pos (show (27 : Int32) ≤ 27 by decide), if_neg (show ¬ (34 : Int32) ≤ 27 by decide)]
  rw [e, show ((27 - 27) - (27 - 27) / 7 * 7 : Int32) = 0 by decide, g0, g1]
  exact ca0 h hf h10 (k := 1) (by decide) hz hw _ _
theorem c34 {p : Int32 × Int32} {S T : qS} (h : RR p S T) (hf : S.1 7 = 0) (h10 : S.1 10 = 0) (hz : S.1 19 = 4) (hw : OW 2 S T) (hv : T.2 5 0 = S.1 14) (hv1 : T.2 5 1 = S.1 18) : CW p (fCd_calculate S 34) (fM_reckon T ((34 - 27) - (34 - 27) / 7 * 7) (gA T 5 0) (gA T 5 1) 2) := by
  have g0 : gA T 5 0 = S.1 14 := hv
  have g1 : gA T 5 1 = S.1 18 := hv1
  have e : fCd_calculate S 34 = cCa S 27 (S.1 14) (S.1 18) 2 := by
    unfold fCd_calculate fCd_calculate_118 cCa
    rw [if_pos (show (27 : Int32) ≤ 34 by decide), if_pos (show (34 : Int32) ≤ 34 by decide), show (34 - 7 : Int32) = 27 by decide]
  rw [e, show ((34 - 27) - (34 - 27) / 7 * 7 : Int32) = 0 by decide, g0, g1]
  exact ca0 h hf h10 (k := 2) (by decide) hz hw _ _
theorem c28 {p : Int32 × Int32} {S T : qS} (h : RR p S T) (hf : S.1 7 = 0) (h10 : S.1 10 = 0) (hz : S.1 15 = 4) (hw : OW 1 S T) (hv : T.2 5 0 = S.1 14) (hv1 : T.2 5 1 = S.1 18) : CW p (fCd_calculate S 28) (fM_reckon T ((28 - 27) - (28 - 27) / 7 * 7) (gA T 5 0) (gA T 5 1) 1) := by
  have g0 : gA T 5 0 = S.1 14 := hv
  have g1 : gA T 5 1 = S.1 18 := hv1
  have e : fCd_calculate S 28 = cCa S 28 (S.1 14) (S.1 18) 1 := by
    unfold fCd_calculate fCd_calculate_118 cCa
    rw [if_pos (show (27 : Int32) ≤ 28 by decide), if_neg (show ¬ (34 : Int32) ≤ 28 by decide)]
  rw [e, show ((28 - 27) - (28 - 27) / 7 * 7 : Int32) = 1 by decide, g0, g1]
  exact ca1 h hf h10 (k := 1) (by decide) hz hw _ _
theorem c35 {p : Int32 × Int32} {S T : qS} (h : RR p S T) (hf : S.1 7 = 0) (h10 : S.1 10 = 0) (hz : S.1 19 = 4) (hw : OW 2 S T) (hv : T.2 5 0 = S.1 14) (hv1 : T.2 5 1 = S.1 18) : CW p (fCd_calculate S 35) (fM_reckon T ((35 - 27) - (35 - 27) / 7 * 7) (gA T 5 0) (gA T 5 1) 2) := by
  have g0 : gA T 5 0 = S.1 14 := hv
  have g1 : gA T 5 1 = S.1 18 := hv1
  have e : fCd_calculate S 35 = cCa S 28 (S.1 14) (S.1 18) 2 := by
    unfold fCd_calculate fCd_calculate_118 cCa
    rw [if_pos (show (27 : Int32) ≤ 35 by decide), if_pos (show (34 : Int32) ≤ 35 by decide), show (35 - 7 : Int32) = 28 by decide]
  rw [e, show ((35 - 27) - (35 - 27) / 7 * 7 : Int32) = 1 by decide, g0, g1]
  exact ca1 h hf h10 (k := 2) (by decide) hz hw _ _
theorem c29 {p : Int32 × Int32} {S T : qS} (h : RR p S T) (hf : S.1 7 = 0) (h10 : S.1 10 = 0) (hz : S.1 15 = 4) (hw : OW 1 S T) (hv : T.2 5 0 = S.1 14) (hv1 : T.2 5 1 = S.1 18) : CW p (fCd_calculate S 29) (fM_reckon T ((29 - 27) - (29 - 27) / 7 * 7) (gA T 5 0) (gA T 5 1) 1) := by
  have g0 : gA T 5 0 = S.1 14 := hv
  have g1 : gA T 5 1 = S.1 18 := hv1
  have e : fCd_calculate S 29 = cCa S 29 (S.1 14) (S.1 18) 1 := by
    unfold fCd_calculate fCd_calculate_118 cCa
    rw [if_pos (show (27 : Int32) ≤ 29 by decide), if_neg (show ¬ (34 : Int32) ≤ 29 by decide)]
  rw [e, show ((29 - 27) - (29 - 27) / 7 * 7 : Int32) = 2 by decide, g0, g1]
  exact ca2 h hf h10 (k := 1) (by decide) hz hw _ _
theorem c36 {p : Int32 × Int32} {S T : qS} (h : RR p S T) (hf : S.1 7 = 0) (h10 : S.1 10 = 0) (hz : S.1 19 = 4) (hw : OW 2 S T) (hv : T.2 5 0 = S.1 14) (hv1 : T.2 5 1 = S.1 18) : CW p (fCd_calculate S 36) (fM_reckon T ((36 - 27) - (36 - 27) / 7 * 7) (gA T 5 0) (gA T 5 1) 2) := by
  have g0 : gA T 5 0 = S.1 14 := hv
  have g1 : gA T 5 1 = S.1 18 := hv1
  have e : fCd_calculate S 36 = cCa S 29 (S.1 14) (S.1 18) 2 := by
    unfold fCd_calculate fCd_calculate_118 cCa
    rw [if_pos (show (27 : Int32) ≤ 36 by decide), if_pos (show (34 : Int32) ≤ 36 by decide), show (36 - 7 : Int32) = 29 by decide]
  rw [e, show ((36 - 27) - (36 - 27) / 7 * 7 : Int32) = 2 by decide, g0, g1]
  exact ca2 h hf h10 (k := 2) (by decide) hz hw _ _
theorem c30 {p : Int32 × Int32} {S T : qS} (h : RR p S T) (hf : S.1 7 = 0) (h10 : S.1 10 = 0) (hz : S.1 15 = 4) (hw : OW 1 S T) (hv : T.2 5 0 = S.1 14) (hv1 : T.2 5 1 = S.1 18) : CW p (fCd_calculate S 30) (fM_reckon T ((30 - 27) - (30 - 27) / 7 * 7) (gA T 5 0) (gA T 5 1) 1) := by
  have g0 : gA T 5 0 = S.1 14 := hv
  have g1 : gA T 5 1 = S.1 18 := hv1
  have e : fCd_calculate S 30 = cCa S 30 (S.1 14) (S.1 18) 1 := by
    unfold fCd_calculate fCd_calculate_118 cCa
    rw [if_pos (show (27 : Int32) ≤ 30 by decide), if_neg (show ¬ (34 : Int32) ≤ 30 by decide)]
  rw [e, show ((30 - 27) - (30 - 27) / 7 * 7 : Int32) = 3 by decide, g0, g1]
  exact ca3 h hf h10 (k := 1) (by decide) hz hw _ _
theorem c37 {p : Int32 × Int32} {S T : qS} (h : RR p S T) (hf : S.1 7 = 0) (h10 : S.1 10 = 0) (hz : S.1 19 = 4) (hw : OW 2 S T) (hv : T.2 5 0 = S.1 14) (hv1 : T.2 5 1 = S.1 18) : CW p (fCd_calculate S 37) (fM_reckon T ((37 - 27) - (37 - 27) / 7 * 7) (gA T 5 0) (gA T 5 1) 2) := by
  have g0 : gA T 5 0 = S.1 14 := hv
  have g1 : gA T 5 1 = S.1 18 := hv1
  have e : fCd_calculate S 37 = cCa S 30 (S.1 14) (S.1 18) 2 := by
    unfold fCd_calculate fCd_calculate_118 cCa
    rw [if_pos (show (27 : Int32) ≤ 37 by decide), if_pos (show (34 : Int32) ≤ 37 by decide), show (37 - 7 : Int32) = 30 by decide]
  rw [e, show ((37 - 27) - (37 - 27) / 7 * 7 : Int32) = 3 by decide, g0, g1]
  exact ca3 h hf h10 (k := 2) (by decide) hz hw _ _
theorem c31 {p : Int32 × Int32} {S T : qS} (h : RR p S T) (hf : S.1 7 = 0) (h10 : S.1 10 = 0) (hz : S.1 15 = 4) (hw : OW 1 S T) (hv : T.2 5 0 = S.1 14) (hv1 : T.2 5 1 = S.1 18) : CW p (fCd_calculate S 31) (fM_reckon T ((31 - 27) - (31 - 27) / 7 * 7) (gA T 5 0) (gA T 5 1) 1) := by
  have g0 : gA T 5 0 = S.1 14 := hv
  have g1 : gA T 5 1 = S.1 18 := hv1
  have e : fCd_calculate S 31 = cCa S 31 (S.1 14) (S.1 18) 1 := by
    unfold fCd_calculate fCd_calculate_118 cCa
    rw [if_pos (show (27 : Int32) ≤ 31 by decide), if_neg (show ¬ (34 : Int32) ≤ 31 by decide)]
  rw [e, show ((31 - 27) - (31 - 27) / 7 * 7 : Int32) = 4 by decide, g0, g1]
  exact ca4 h hf h10 (k := 1) (by decide) hz hw _ _
theorem c38 {p : Int32 × Int32} {S T : qS} (h : RR p S T) (hf : S.1 7 = 0) (h10 : S.1 10 = 0) (hz : S.1 19 = 4) (hw : OW 2 S T) (hv : T.2 5 0 = S.1 14) (hv1 : T.2 5 1 = S.1 18) : CW p (fCd_calculate S 38) (fM_reckon T ((38 - 27) - (38 - 27) / 7 * 7) (gA T 5 0) (gA T 5 1) 2) := by
  have g0 : gA T 5 0 = S.1 14 := hv
  have g1 : gA T 5 1 = S.1 18 := hv1
  have e : fCd_calculate S 38 = cCa S 31 (S.1 14) (S.1 18) 2 := by
    unfold fCd_calculate fCd_calculate_118 cCa
    rw [if_pos (show (27 : Int32) ≤ 38 by decide), if_pos (show (34 : Int32) ≤ 38 by decide), show (38 - 7 : Int32) = 31 by decide]
  rw [e, show ((38 - 27) - (38 - 27) / 7 * 7 : Int32) = 4 by decide, g0, g1]
  exact ca4 h hf h10 (k := 2) (by decide) hz hw _ _
theorem c32 {p : Int32 × Int32} {S T : qS} (h : RR p S T) (hf : S.1 7 = 0) (h10 : S.1 10 = 0) (hz : S.1 15 = 4) (hw : OW 1 S T) (hv : T.2 5 0 = S.1 14) (hv1 : T.2 5 1 = S.1 18) : CW p (fCd_calculate S 32) (fM_reckon T ((32 - 27) - (32 - 27) / 7 * 7) (gA T 5 0) (gA T 5 1) 1) := by
  have g0 : gA T 5 0 = S.1 14 := hv
  have g1 : gA T 5 1 = S.1 18 := hv1
  have e : fCd_calculate S 32 = cCa S 32 (S.1 14) (S.1 18) 1 := by
    unfold fCd_calculate fCd_calculate_118 cCa
    rw [if_pos (show (27 : Int32) ≤ 32 by decide), if_neg (show ¬ (34 : Int32) ≤ 32 by decide)]
  rw [e, show ((32 - 27) - (32 - 27) / 7 * 7 : Int32) = 5 by decide, g0, g1]
  exact ca5 h hf h10 (k := 1) (by decide) hz hw _ _
theorem c39 {p : Int32 × Int32} {S T : qS} (h : RR p S T) (hf : S.1 7 = 0) (h10 : S.1 10 = 0) (hz : S.1 19 = 4) (hw : OW 2 S T) (hv : T.2 5 0 = S.1 14) (hv1 : T.2 5 1 = S.1 18) : CW p (fCd_calculate S 39) (fM_reckon T ((39 - 27) - (39 - 27) / 7 * 7) (gA T 5 0) (gA T 5 1) 2) := by
  have g0 : gA T 5 0 = S.1 14 := hv
  have g1 : gA T 5 1 = S.1 18 := hv1
  have e : fCd_calculate S 39 = cCa S 32 (S.1 14) (S.1 18) 2 := by
    unfold fCd_calculate fCd_calculate_118 cCa
    rw [if_pos (show (27 : Int32) ≤ 39 by decide), if_pos (show (34 : Int32) ≤ 39 by decide), show (39 - 7 : Int32) = 32 by decide]
  rw [e, show ((39 - 27) - (39 - 27) / 7 * 7 : Int32) = 5 by decide, g0, g1]
  exact ca5 h hf h10 (k := 2) (by decide) hz hw _ _
theorem c33 {p : Int32 × Int32} {S T : qS} (h : RR p S T) (hf : S.1 7 = 0) (h10 : S.1 10 = 0) (hz : S.1 15 = 4) (hw : OW 1 S T) (hv : T.2 5 0 = S.1 14) (hv1 : T.2 5 1 = S.1 18) : CW p (fCd_calculate S 33) (fM_reckon T ((33 - 27) - (33 - 27) / 7 * 7) (gA T 5 0) (gA T 5 1) 1) := by
  have g0 : gA T 5 0 = S.1 14 := hv
  have g1 : gA T 5 1 = S.1 18 := hv1
  have e : fCd_calculate S 33 = cCa S 33 (S.1 14) (S.1 18) 1 := by
    unfold fCd_calculate fCd_calculate_118 cCa
    rw [if_pos (show (27 : Int32) ≤ 33 by decide), if_neg (show ¬ (34 : Int32) ≤ 33 by decide)]
  rw [e, show ((33 - 27) - (33 - 27) / 7 * 7 : Int32) = 6 by decide, g0, g1]
  exact ca6 h hf h10 (k := 1) (by decide) hz hw _ _
theorem c40 {p : Int32 × Int32} {S T : qS} (h : RR p S T) (hf : S.1 7 = 0) (h10 : S.1 10 = 0) (hz : S.1 19 = 4) (hw : OW 2 S T) (hv : T.2 5 0 = S.1 14) (hv1 : T.2 5 1 = S.1 18) : CW p (fCd_calculate S 40) (fM_reckon T ((40 - 27) - (40 - 27) / 7 * 7) (gA T 5 0) (gA T 5 1) 2) := by
  have g0 : gA T 5 0 = S.1 14 := hv
  have g1 : gA T 5 1 = S.1 18 := hv1
  have e : fCd_calculate S 40 = cCa S 33 (S.1 14) (S.1 18) 2 := by
    unfold fCd_calculate fCd_calculate_118 cCa
    rw [if_pos (show (27 : Int32) ≤ 40 by decide), if_pos (show (34 : Int32) ≤ 40 by decide), show (40 - 7 : Int32) = 33 by decide]
  rw [e, show ((40 - 27) - (40 - 27) / 7 * 7 : Int32) = 6 by decide, g0, g1]
  exact ca6 h hf h10 (k := 2) (by decide) hz hw _ _
/-! shifts -/
theorem s_l64 : ∀ n, n < 32 → (((nI n).toInt64 &&& 63).toBitVec.smod 64).toNat = n := by decide +kernel
theorem shl_bit {n : Nat} (hn : n < 32) (x : Int32) {j : Nat} (hj : j < 64) : (x.toInt64 <<< ((nI n).toInt64 &&& 63)).toBitVec.getLsbD j = (decide (n ≤ j) && if j - n < 32 then bt x (j - n) else bt x 31) := by
  rw [Int64.toBitVec_shiftLeft]
  show (x.toInt64.toBitVec <<< (((nI n).toInt64 &&& 63).toBitVec.smod 64).toNat).getLsbD j = _
  rw [s_l64 n hn, BitVec.getLsbD_shiftLeft, Int32.toBitVec_toInt64, BitVec.getLsbD_signExtend, BitVec.msb_eq_getLsbD_last, decide_eq_true hj, decide_eq_true (show j - n < 64 by omega)]
  unfold bt
  by_cases h : n ≤ j
  · rw [decide_eq_true h, decide_eq_false (show ¬ j < n by omega)]
    simp
  · rw [decide_eq_false h, decide_eq_true (show j < n by omega)]
    simp
theorem sx_bit (y : Int32) {j : Nat} (hj : j < 64) : y.toInt64.toBitVec.getLsbD j = if j < 32 then bt y j else bt y 31 := by
  rw [Int32.toBitVec_toInt64, BitVec.getLsbD_signExtend, BitVec.msb_eq_getLsbD_last, decide_eq_true hj]
  simp only [Bool.true_and]
  rfl
theorem shl_ov {n : Nat} (hn : n < 32) (x : Int32) : lg_cmp (x.toInt64 <<< ((nI n).toInt64 &&& 63)) (x <<< (nI n &&& 31)).toInt64 = 0 ↔ ((x <<< (nI n &&& 31)) >>> (nI n &&& 31)) = x := by
  rw [lg0]
  refine ⟨fun h => b_ext (fun i hi => ?_), fun h => ?_⟩
  · rw [b_sshr n hn _ hi]
    by_cases q : n + i < 32
    · rw [if_pos q, b_shl n hn x q, decide_eq_true (by omega), Bool.true_and, show n + i - n = i by omega]
    · rw [if_neg q]
      have e : (x.toInt64 <<< ((nI n).toInt64 &&& 63)).toBitVec.getLsbD (n + i) = (x <<< (nI n &&& 31)).toInt64.toBitVec.getLsbD (n + i) := congrArg (fun y : Int64 => y.toBitVec.getLsbD (n + i)) h
      rw [shl_bit hn x (by omega), sx_bit _ (by omega), if_neg q, decide_eq_true (by omega), Bool.true_and, show n + i - n = i by omega, if_pos hi] at e
      exact e.symm
  · have hb : ∀ i, i < 32 → (if n + i < 32 then bt (x <<< (nI n &&& 31)) (n + i) else bt (x <<< (nI n &&& 31)) 31) = bt x i := fun i hi => by
      have e : bt ((x <<< (nI n &&& 31)) >>> (nI n &&& 31)) i = bt x i := congrArg (fun y : Int32 => bt y i) h
      rw [b_sshr n hn _ hi] at e
      exact e
    apply Int64.toBitVec_inj.mp
    refine BitVec.eq_of_getLsbD_eq (fun j hj => ?_)
    rw [shl_bit hn x hj, sx_bit _ hj]
    by_cases q : j < 32
    · rw [if_pos q, b_shl n hn x q, if_pos (by omega)]
    · rw [if_neg q, decide_eq_true (by omega), Bool.true_and]
      by_cases r : j - n < 32
      · rw [if_pos r]
        have e := hb (j - n) r
        rw [if_neg (by omega)] at e
        exact e.symm
      · rw [if_neg r]
        have e := hb 31 (by decide)
        by_cases w : n + 31 < 32
        · rw [if_pos w, show n + 31 = 31 by omega] at e
          exact e.symm
        · rw [if_neg w] at e
          exact e.symm
theorem MVs {p : Int32 × Int32} {S T : qS} (h : RR p S T) (hf : S.1 7 = 0) (hz : S.1 19 = 4) (hw : OW 2 S T) (v o : Int32) : PK p S T (fCd_shift_63 S v o) (fM_shift_72 T v o) := by
  have := MV h hf (k := 2) (by decide) (z := 4) (v := v) (o := o) (c := 0) (x' := v) hz (Or.inr rfl) hw (Or.inl ⟨rfl, rfl⟩)
  exact this
theorem c41 {p : Int32 × Int32} {S T : qS} (h : RR p S T) (hf : S.1 7 = 0) (hz : S.1 19 = 4) (hw : OW 2 S T) (a x : Int32) (ha : ¬ a = -2147483648) : PK p S T (fCd_shift S a x) (fM_shift T a x) := by
  have e0 : (0 : Int32).toInt = 0 := by decide
  have e31 : (31 : Int32).toInt = 31 := by decide
  have em31 : (-31 : Int32).toInt = -31 := by decide
  unfold fCd_shift fM_shift fM_shift_37 fM_shift_71 fCd_shift_61 fCd_shift_37
  by_cases q0 : 0 ≤ a
  · by_cases q31 : a ≤ 31
    · have hl := Int32.le_iff_toInt_le.mp q0
      have hu := Int32.le_iff_toInt_le.mp q31
      obtain ⟨n, hn, en⟩ : ∃ n : Nat, n < 32 ∧ a = nI n := by
        refine ⟨vN a, ?_, (nI_vN a).symm⟩
        rw [e0, v_int] at hl
        rw [e31, v_int] at hu
        have := vN_lt a
        omega
      subst en
      have hov := shl_ov hn x
      simp only [if_pos q0, if_pos q31, if_neg (nlt_le.mpr q0)]
      by_cases z0 : nI n ≤ 0
      · have n0 : n = 0 := by
          have := (nI_lei (b := 0) (by omega) (by omega)).mp z0
          omega
        have ov : ((x <<< (nI n &&& 31)) >>> (nI n &&& 31)) = x := by
          subst n0
          refine b_ext (fun i hi => ?_)
          rw [b_sshr 0 (by decide) _ hi, if_pos (by omega), b_shl 0 (by decide) x (by omega)]
          simp
        rw [if_pos z0, if_pos (hov.mpr ov)]
        exact MVs h hf hz hw _ _
      · rw [if_neg z0]
        by_cases q : ((x <<< (nI n &&& 31)) >>> (nI n &&& 31)) = x
        · rw [if_pos q, if_pos (hov.mpr q)]
          exact MVs h hf hz hw _ _
        · rw [if_neg q, if_neg (fun w => q (hov.mp w))]
          exact MVs h hf hz hw _ _
    · simp only [if_pos q0, if_neg q31]
      by_cases q : x = 0
      · rw [if_pos q, if_pos q]
        exact MVs h hf hz hw _ _
      · rw [if_neg q, if_neg q]
        exact MVs h hf hz hw _ _
  · have qlt : a < 0 := nle_lt.mp q0
    have hl := Int32.lt_iff_toInt_lt.mp qlt
    have q31 : a ≤ 31 := by rw [Int32.le_iff_toInt_le, e31]; omega
    have q00 : a ≤ 0 := by rw [Int32.le_iff_toInt_le, e0]; omega
    simp only [if_neg q0, if_pos q31, if_pos qlt, if_pos q00]
    have hneg : ¬ a = -2147483648 → (-a).toInt = -a.toInt := fun w => by
      rw [Int32.toInt_neg]
      have h1 := Int32.le_toInt a
      have h2 : ¬ a.toInt = -2147483648 := fun u => w (by
        apply Int32.toInt_inj.mp
        rw [u]; decide)
      rw [Int.bmod_def]
      omega
    by_cases q : -31 ≤ a
    · have hq := Int32.le_iff_toInt_le.mp q
      have hn : ¬ a = -2147483648 := fun w => by rw [w] at q; exact absurd q (by decide)
      have : ¬ 31 < -a := fun w => by
        have := Int32.lt_iff_toInt_lt.mp w
        rw [hneg hn] at this
        omega
      rw [if_pos q, if_neg this]
      exact MVs h hf hz hw _ _
    · rw [if_neg q]
      have hq : ¬ (-31 : Int32).toInt ≤ a.toInt := fun u => q (Int32.le_iff_toInt_le.mpr u)
      have : 31 < -a := by
        rw [Int32.lt_iff_toInt_lt, hneg ha]
        omega
      rw [if_pos this]
      exact MVs h hf hz hw _ _
theorem sx_min (x : Int32) : ¬ x.toInt8.toInt32 = -2147483648 := fun h => by
  have e := congrArg Int32.toInt h
  rw [Int8.toInt_toInt32] at e
  have h1 := Int8.le_toInt x.toInt8
  have h2 : (-2147483648 : Int32).toInt = -2147483648 := by decide
  rw [h2] at e
  omega
/-! counting -/
theorem ov_up (v : Int32) : lg_cmp (v.toInt64 + 1) (v.toInt64 + 1).toInt32.toInt64 = 0 ↔ ¬ v + 1 = -2147483648 := by
  have h1 := Int32.le_toInt v
  have h2 := Int32.toInt_lt v
  have e1 : (1 : Int64).toInt = 1 := by decide
  have e2 : (1 : Int32).toInt = 1 := by decide
  have e3 : (-2147483648 : Int32).toInt = -2147483648 := by decide
  rw [lg0, ← Int64.toInt_inj, ← Int32.toInt_inj, Int32.toInt_toInt64, Int64.toInt_toInt32, Int64.toInt_add, Int32.toInt_toInt64, Int32.toInt_add, e1, e2, e3]
  simp only [Int.bmod_def]
  omega
theorem ov_dn (v : Int32) : lg_cmp (v.toInt64 - 1) (v.toInt64 - 1).toInt32.toInt64 = 0 ↔ ¬ v - 1 = 2147483647 := by
  have h1 := Int32.le_toInt v
  have h2 := Int32.toInt_lt v
  have e1 : (1 : Int64).toInt = 1 := by decide
  have e2 : (1 : Int32).toInt = 1 := by decide
  have e3 : (2147483647 : Int32).toInt = 2147483647 := by decide
  rw [lg0, ← Int64.toInt_inj, ← Int32.toInt_inj, Int32.toInt_toInt64, Int64.toInt_toInt32, Int64.toInt_sub, Int32.toInt_toInt64, Int32.toInt_sub, e1, e2, e3]
  simp only [Int.bmod_def]
  omega
theorem up32 (v : Int32) : (v.toInt64 + 1).toInt32 = v + 1 := by
  rw [Int64.toInt32_add, Int32.toInt32_toInt64]; rfl
theorem dn32 (v : Int32) : (v.toInt64 - 1).toInt32 = v - 1 := by
  rw [Int64.toInt32_sub, Int32.toInt32_toInt64]; rfl
/-- what is taken after a count -/
theorem ct {p : Int32 × Int32} {S T : qS} (h : RR p S T) {d d' : Int32} (hd : d' = d) : PK p S T ((fCo_get S 15).bind fun q1 => (fCo_put q1.2 15 (q1.1 + d)).bind fun S1 => some S1) (some (pA T 1 15 (gA T 1 15 + d'))) := by
  rw [bnd_e (fCo_get_eq S 15)]
  exact PK_pc h (fun q => by rw [hd, pc_r h q])
theorem RR_cnt {p : Int32 × Int32} {S T : qS} (h : RR p S T) (hf : S.1 7 = 0) {k : Nat} (hk : k < 3) (hz : S.1 (11 + 4 * k) = 4) (hw : OW k S T) (y o : Int32) : ∃ S3 T3, fCd_store (pI S 6 (cD (S.1 6) y o (hB (S.1 6) 0))) k y = some S3 ∧ fM_give (pI T 1 (cD (T.1 1) y o (hB (T.1 1) 0))) (nI k) y 4 = some T3 ∧ RR p S3 T3 ∧ KC S S3 ∧ KM T T3 := by
  have h2 := RR_cD h (v := y) (v' := y) (o := o) (o' := o) (c := hB (S.1 6) 0) (c' := hB (T.1 1) 0) (fun q => ⟨rfl, rfl, cyr h q⟩)
  obtain ⟨S', T', r1, r2, r3, r4, r5⟩ := RR_give h2 hf hk (z := 4) (x := y) (x' := y) (by rw [pI_o _ _ (by omega)]; exact hz) (Or.inr rfl) (OW_K hk (KC_p (by decide) _) (KM_p _ _ _) hw) (Or.inl ⟨rfl, rfl⟩)
  exact ⟨S', T', r1, r2, r3, KC_t (KC_p (by decide) _) r4, KM_t (KM_p _ _ _) r5⟩
theorem PK_t {p : Int32 × Int32} {S T S1 T1 : qS} {f g : Option qS} (h1 : KC S S1) (h2 : KM T T1) (h : PK p S1 T1 f g) : PK p S T f g := by
  obtain ⟨S', T', a1, a2, a3, a4⟩ := h
  exact ⟨S', T', a1, a2, a3, fun q => ⟨KC_t h1 (a4 q).1, KM_t h2 (a4 q).2⟩⟩
theorem PK_r {p : Int32 × Int32} {S T : qS} (h : RR p S T) : PK p S T (some S) (some T) := ⟨S, T, rfl, rfl, h, fun _ => ⟨KC_r S, KM_r T⟩⟩
