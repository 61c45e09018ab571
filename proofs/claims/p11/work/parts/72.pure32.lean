/-! Pure part 32: codes 69, 70. -/
theorem refuse_d {S : qS} (h : ¬ S.1 7 = 0) (r a : Int32) : fCo_refuse S r a = some S := by
  unfold fCo_refuse
  rw [if_pos h]; rfl
/-- one probe, where no fault is noted -/
theorem AM {p : Int32 × Int32} {S T : qS} (h : RR p S T) (hf : S.1 7 = 0) {w m : Int32} (hw : w = 0 ∨ w = 1) (a : Int32) : ∃ v S' T', fCo_admits S a w m = some (v, S') ∧ (∀ (K : qS → Int32 → Int32 → Int32 → Int32 → Option qS) (x5 : Int32), fM_probe_76 K T w m x5 a = fM_probe_151 K T' w m x5 v) ∧ RR p S' T' ∧ (v = 0 ∨ v = 1) ∧ KC S S' ∧ KM T T' := by
  have hT : T.1 7 = 0 := (RR_f h).trans hf
  have es : spl (mLong T) (T.2 2) a w m = spl (cLong S) (S.2 1) a w m := spl_rel (RR_m h) (RR_i h hf) a w m
  obtain ⟨e, he, -⟩ := fM_find_eq T a w m hw
  rw [es] at he
  have hc := fPg_locate_eq S a w m
  have hp := @spl_plc (cLong S) (S.2 1) a w m
  generalize (spl (cLong S) (S.2 1) a w m).1 = r at he hc hp
  generalize (spl (cLong S) (S.2 1) a w m).2 = g at hc
  have hS1 : (pI S 4 g).1 7 = 0 := hf
  have hT1 : (pI T 11 e).1 7 = 0 := hT
  have hR : RR p (pI S 4 g) (pI T 11 e) := RR_c (RR_d h (Or.inr (Or.inr (Nat.le_refl 11))) e) (Or.inl rfl) g
  have kc : KC S (pI S 4 g) := KC_p (by decide) g
  have km : KM T (pI T 11 e) := KM_p T 11 e
  unfold fCo_admits fM_probe_76
  rw [bnd_e hc]
  simp only [bnd_e he]
  by_cases h0 : 0 ≤ r
  · rw [if_neg (nlt_le.mpr h0)]
    simp only [if_pos h0]
    refine ⟨1, _, _, rfl, fun K x5 => ?_, hR, Or.inr rfl, kc, km⟩
    unfold fM_probe_102 fM_probe_134 fM_probe_146
    rw [if_pos (show (0 : Int32) ≤ 51 by decide), if_pos rfl]
  · have hr := plc_ref hp h0
    rw [if_pos (nle_lt.mp h0)]
    simp only [if_neg h0]
    have no : ∀ y : Int32, r = (-10) - y → ((-10) - r) = y → (((-10) - r) / 10 = 4) → y ≤ 51 → ¬ y = 0 → y < 50 → ∃ v S' T', ((fPg_faultOf (pI S 4 g) r).bind fun q3 => if ¬ q3.1 = 4 then (fPg_flagOf q3.2 r).bind fun q5 => if (q5.1 &&& 2) = 0 then fCo_admits_47 q5.2 else (fCo_refuse q5.2 r a).bind fun S7 => fCo_admits_47 S7 else chk (isB 0) (some (0, q3.2))) = some (v, S') ∧ (∀ (K : qS → Int32 → Int32 → Int32 → Int32 → Option qS) (x5 : Int32), fM_probe_102 K (pI T 11 e) w m x5 a ((-10) - r) = fM_probe_151 K T' w m x5 v) ∧ RR p S' T' ∧ (v = 0 ∨ v = 1) ∧ KC S S' ∧ KM T T' := fun y _ e1 e2 e3 e4 e5 => by
      rw [bnd_e (show fPg_faultOf (pI S 4 g) r = some (((-10) - r) / 10, pI S 4 g) from rfl)]
      dsimp only
      rw [if_neg (not_not_intro e2)]
      refine ⟨0, _, _, rfl, fun K x5 => ?_, hR, Or.inl rfl, kc, km⟩
      unfold fM_probe_102 fM_probe_134
      rw [e1, if_pos e3, if_neg e4, if_pos e5]
    have yes : ∀ y : Int32, ((-10) - r) = y → ¬ (((-10) - r) / 10 = 4) → ((((-10) - r) - ((-10) - r) / 10 * 10) &&& 2) = 0 → (y ≤ 51 ∨ ¬ ((y - y / 10 * 10) - (y - y / 10 * 10) / 4 * 4) = 2) → ¬ y = 0 → ¬ y < 50 → ∃ v S' T', ((fPg_faultOf (pI S 4 g) r).bind fun q3 => if ¬ q3.1 = 4 then (fPg_flagOf q3.2 r).bind fun q5 => if (q5.1 &&& 2) = 0 then fCo_admits_47 q5.2 else (fCo_refuse q5.2 r a).bind fun S7 => fCo_admits_47 S7 else chk (isB 0) (some (0, q3.2))) = some (v, S') ∧ (∀ (K : qS → Int32 → Int32 → Int32 → Int32 → Option qS) (x5 : Int32), fM_probe_102 K (pI T 11 e) w m x5 a ((-10) - r) = fM_probe_151 K T' w m x5 v) ∧ RR p S' T' ∧ (v = 0 ∨ v = 1) ∧ KC S S' ∧ KM T T' := fun y e1 e2 e3 e4 e5 e6 => by
      rw [bnd_e (show fPg_faultOf (pI S 4 g) r = some (((-10) - r) / 10, pI S 4 g) from rfl)]
      dsimp only
      rw [if_pos e2, bnd_e (show fPg_flagOf (pI S 4 g) r = some (((-10) - r) - ((-10) - r) / 10 * 10, pI S 4 g) from rfl)]
      dsimp only
      rw [if_pos e3]
      refine ⟨1, _, _, rfl, fun K x5 => ?_, hR, Or.inr rfl, kc, km⟩
      have e134 : fM_probe_134 K (pI T 11 e) w m x5 y = fM_probe_151 K (pI T 11 e) w m x5 1 := by
        unfold fM_probe_134 fM_probe_146
        rw [if_neg e5, if_neg e6]
      unfold fM_probe_102
      rw [e1, e134]
      by_cases q : y ≤ 51
      · rw [if_pos q]
      · rw [if_neg q, if_pos (e4.resolve_left q)]
    have flt : ∀ y : Int32, ((-10) - r) = y → (((-10) - r) / 10 = 5) → ¬ ((((-10) - r) - ((-10) - r) / 10 * 10) &&& 2) = 0 → ¬ y ≤ 51 → ((y - y / 10 * 10) - (y - y / 10 * 10) / 4 * 4) = 2 → ¬ y = 0 → ¬ y < 50 → ∃ v S' T', ((fPg_faultOf (pI S 4 g) r).bind fun q3 => if ¬ q3.1 = 4 then (fPg_flagOf q3.2 r).bind fun q5 => if (q5.1 &&& 2) = 0 then fCo_admits_47 q5.2 else (fCo_refuse q5.2 r a).bind fun S7 => fCo_admits_47 S7 else chk (isB 0) (some (0, q3.2))) = some (v, S') ∧ (∀ (K : qS → Int32 → Int32 → Int32 → Int32 → Option qS) (x5 : Int32), fM_probe_102 K (pI T 11 e) w m x5 a ((-10) - r) = fM_probe_151 K T' w m x5 v) ∧ RR p S' T' ∧ (v = 0 ∨ v = 1) ∧ KC S S' ∧ KM T T' := fun y e1 e2 e3 e4 e5 e6 e7 => by
      rw [bnd_e (show fPg_faultOf (pI S 4 g) r = some (((-10) - r) / 10, pI S 4 g) from rfl)]
      dsimp only
      rw [if_pos (by rw [e2]; decide), bnd_e (show fPg_flagOf (pI S 4 g) r = some (((-10) - r) - ((-10) - r) / 10 * 10, pI S 4 g) from rfl)]
      dsimp only
      rw [if_neg e3, bnd_e (fCo_refuse_eq hS1 r a), e2]
      refine ⟨1, _, pI (pI (pI (pI T 11 e) 7 5) 8 a) 9 (((-10) - r) - 5 * 10), rfl, fun K x5 => ?_, RR_ft hR (Or.inr rfl) (fun _ => ⟨rfl, rfl⟩), Or.inr rfl, KC_t kc (KC_t (KC_p (by decide) _) (KC_t (KC_p (by decide) _) (KC_p (by decide) _))), KM_t km (KM_t (KM_p _ _ _) (KM_t (KM_p _ _ _) (KM_p _ _ _)))⟩
      unfold fM_probe_102
      have e8 : y / 10 = 5 := by rw [← e1]; exact e2
      rw [e1, if_neg e4, if_neg (not_not_intro e5), bnd_e (fM_wrong_eq hT1 _ _ _), e8]
      unfold fM_probe_134 fM_probe_146
      rw [if_neg e6, if_neg e7]
    rcases hr with rfl | rfl | rfl | rfl | rfl | rfl | rfl | rfl | rfl | rfl
    · exact no 40 (by decide) (by decide) (by decide) (by decide) (by decide) (by decide)
    · exact no 44 (by decide) (by decide) (by decide) (by decide) (by decide) (by decide)
    · exact yes 50 (by decide) (by decide) (by decide) (by decide) (by decide) (by decide)
    · exact yes 54 (by decide) (by decide) (by decide) (by decide) (by decide) (by decide)
    · exact flt 52 (by decide) (by decide) (by decide) (by decide) (by decide) (by decide) (by decide)
    · exact flt 56 (by decide) (by decide) (by decide) (by decide) (by decide) (by decide) (by decide)
    · exact no 43 (by decide) (by decide) (by decide) (by decide) (by decide) (by decide)
    · exact no 47 (by decide) (by decide) (by decide) (by decide) (by decide) (by decide)
    · exact no 41 (by decide) (by decide) (by decide) (by decide) (by decide) (by decide)
    · exact no 45 (by decide) (by decide) (by decide) (by decide) (by decide) (by decide)
/-- behind a fault -/
theorem dc_admits {S : qS} (hf : ¬ S.1 7 = 0) (a w m : Int32) : ∃ v g, fCo_admits S a w m = some (v, pI S 4 g) := by
  unfold fCo_admits
  rw [bnd_e (fPg_locate_eq S a w m)]
  dsimp only
  generalize (spl (cLong S) (S.2 1) a w m).1 = r
  generalize (spl (cLong S) (S.2 1) a w m).2 = g
  split
  · rw [bnd_e (show fPg_faultOf (pI S 4 g) r = some (((-10) - r) / 10, pI S 4 g) from rfl)]
    dsimp only
    split
    · rw [bnd_e (show fPg_flagOf (pI S 4 g) r = some (((-10) - r) - ((-10) - r) / 10 * 10, pI S 4 g) from rfl)]
      dsimp only
      split
      · exact ⟨1, g, rfl⟩
      · rw [bnd_e (refuse_d (show ¬ (pI S 4 g).1 7 = 0 from hf) r a)]
        exact ⟨1, g, rfl⟩
    · exact ⟨0, g, rfl⟩
  · exact ⟨1, g, rfl⟩
theorem dm_76 {T : qS} (hT : ¬ T.1 7 = 0) {w : Int32} (hw : w = 0 ∨ w = 1) (m a x5 : Int32) (K : qS → Int32 → Int32 → Int32 → Int32 → Option qS) : ∃ v e, fM_probe_76 K T w m x5 a = fM_probe_151 K (pI T 11 e) w m x5 v := by
  obtain ⟨e, he, -⟩ := fM_find_eq T a w m hw
  unfold fM_probe_76
  rw [bnd_e he]
  dsimp only
  generalize (spl (mLong T) (T.2 2) a w m).1 = r
  have e134 : ∀ y : Int32, ∃ v, fM_probe_134 K (pI T 11 e) w m x5 y = fM_probe_151 K (pI T 11 e) w m x5 v := fun y => by
    unfold fM_probe_134 fM_probe_146
    split
    · exact ⟨1, rfl⟩
    · split
      · exact ⟨0, rfl⟩
      · exact ⟨1, rfl⟩
  have e102 : ∀ y : Int32, ∃ v, fM_probe_102 K (pI T 11 e) w m x5 a y = fM_probe_151 K (pI T 11 e) w m x5 v := fun y => by
    unfold fM_probe_102
    split
    · exact e134 y
    · split
      · exact e134 y
      · rw [bnd_e (fM_wrong_n (show ¬ (pI T 11 e).1 7 = 0 from hT) _ _ _)]
        exact e134 y
  split
  · obtain ⟨v, q⟩ := e102 0
    exact ⟨v, e, q⟩
  · obtain ⟨v, q⟩ := e102 ((-10) - r)
    exact ⟨v, e, q⟩
theorem dm_159 {p : Int32 × Int32} {S T : qS} (h : RR p S T) (hf : ¬ S.1 7 = 0) (x : Int32) : DT p S (fM_probe_159 T x) := by
  have e170 : ∀ y, DT p S (fM_probe_170 T y) := fun y => by
    unfold fM_probe_170
    rw [bnd_e (mark_eq T _ _ _)]
    exact ⟨_, rfl, RR_sm h hf _⟩
  unfold fM_probe_159
  split
  · exact e170 1
  · exact e170 0
/-- what a probe ends with -/
theorem pr_end {p : Int32 × Int32} {S T : qS} (h : RR p S T) {v : Int32} (hv : v = 0 ∨ v = 1) : PK p S T (fCd_probe_69 S v) (fM_probe_159 T v) := by
  have fin : ∀ z : Int32, PK p S T (some (pI S 6 (cnd (S.1 6) 0 z 0 0))) (some (pI T 1 (cnd (T.1 1) 0 z 0 0))) := fun z =>
    ⟨_, _, rfl, rfl, RR_st h (fun q => by rw [(h.2 q).2.2]), fun _ => ⟨KC_p (by decide) _, KM_p _ _ _⟩⟩
  unfold fCd_probe_69
  rw [bnd_e (setC_eq S _ _ _ _)]
  rcases hv with rfl | rfl
  · rw [show fM_probe_159 T 0 = (fM_mark T 1 0 0).bind fun S1 => some S1 from rfl, bnd_e (mark_eq T _ _ _)]
    exact fin 0
  · rw [show fM_probe_159 T 1 = (fM_mark T 0 0 0).bind fun S1 => some S1 from rfl, bnd_e (mark_eq T _ _ _)]
    exact fin 4
theorem dc_69 {p : Int32 × Int32} {S T : qS} (h : RR p S T) (hf : ¬ S.1 7 = 0) (y : Int32) : DC p T (fCd_probe_69 S y) := by
  unfold fCd_probe_69
  rw [bnd_e (setC_eq S _ _ _ _)]
  exact ⟨_, rfl, RR_sc h hf _, hf⟩
theorem c69 {p : Int32 × Int32} {S T : qS} (h : RR p S T) (hf : S.1 7 = 0) (hv : T.2 5 0 = S.1 14) (hv1 : T.2 5 1 = S.1 18) (ha : T.2 7 2 = S.1 21) {w : Int32} (hw : w = 0 ∨ w = 1) : PK p S T (fCd_probe S w) (fM_probe T w) := by
  have g0 : gA T 5 0 = S.1 14 := hv
  have est : T.1 1 = S.1 6 := (h.2 hf).2.2
  obtain ⟨m, em1, em2⟩ : ∃ m, (if ((ushr (S.1 6) 22) &&& 3) < ((S.1 14) &&& 3) then ((S.1 14) &&& 3) else ((ushr (S.1 6) 22) &&& 3)) = m ∧ fM_probe T w = fM_probe_29 T w m := by
    refine ⟨_, rfl, ?_⟩
    unfold fM_probe
    rw [est, sh_22, g0]
    generalize (ushr (S.1 6) 22) &&& 3 = x
    generalize (S.1 14) &&& 3 = y
    by_cases q : x < y
    · have q1 : x ≤ y := by
        rw [Int32.le_iff_toInt_le]
        have := Int32.lt_iff_toInt_lt.mp q
        omega
      rw [if_pos q1, if_pos q]
    · rw [if_neg q]
      by_cases q1 : x ≤ y
      · have e : y = x := by
          apply Int32.toInt_inj.mp
          have a := Int32.le_iff_toInt_le.mp q1
          have b : ¬ x.toInt < y.toInt := fun w => q (Int32.lt_iff_toInt_lt.mpr w)
          omega
        rw [if_pos q1, e]
      · rw [if_neg q1]
  obtain ⟨v, S1, T1, a1, a2, a3, a4, a5, a6⟩ := AM h hf (m := m) hw (S.1 21)
  have g7 : gA T 7 2 = S.1 21 := ha
  rw [em2]
  unfold fCd_probe fM_probe_29
  rw [bnd_e (show fCo_previous S = some ((ushr (S.1 6) 22) &&& 3, S) from rfl)]
  dsimp only
  rw [em1, bnd_e a1, fM_probe_36, if_neg (show ¬ (2 : Int32) ≤ 0 by decide), if_neg (show ¬ (1 : Int32) = 0 by decide), if_neg (show ¬ ¬ (0 : Int32) = 0 by decide), g7, a2]
  dsimp only
  unfold fM_probe_151
  rw [show (0 : Int32) + 1 = 1 by decide, fM_probe_36, if_neg (show ¬ (2 : Int32) ≤ 1 by decide)]
  rcases a4 with rfl | rfl
  · rw [if_pos rfl, if_pos rfl]
    exact PK_t a5 a6 (pr_end a3 (Or.inl rfl))
  · rw [if_neg (show ¬ (1 : Int32) = 0 by decide), if_neg (show ¬ (1 : Int32) = 0 by decide), if_pos (show ¬ (1 : Int32) = 0 by decide)]
    have ea : (gA T1 7 2 + gA T1 5 1) - 1 = (S.1 21 + S1.1 18) - 1 := by
      have e1 : gA T1 7 2 = S.1 21 := by
        show T1.2 7 2 = _
        rw [a6.1 7 (by decide) (by decide)]; exact ha
      have e2 : gA T1 5 1 = S1.1 18 := by
        show T1.2 5 1 = _
        rw [a6.1 5 (by decide) (by decide), a5 18 (by decide)]; exact hv1
      rw [e1, e2]
    rw [ea]
    by_cases hf1 : S1.1 7 = 0
    · obtain ⟨v2, S2, T2, b1, b2, b3, b4, b5, b6⟩ := AM a3 hf1 (m := m) hw ((S.1 21 + S1.1 18) - 1)
      rw [bnd_e b1, b2]
      dsimp only
      unfold fM_probe_151
      rw [show (1 : Int32) + 1 = 2 by decide, fM_probe_36, if_pos (show (2 : Int32) ≤ 2 by decide)]
      refine PK_t a5 a6 (PK_t b5 b6 ?_)
      rcases b4 with rfl | rfl
      · rw [if_pos rfl]
        exact pr_end b3 (Or.inl rfl)
      · rw [if_neg (show ¬ (1 : Int32) = 0 by decide)]
        exact pr_end b3 (Or.inr rfl)
    · refine PK_d a3 hf1 (fun T9 h9 => ?_) ?_
      · obtain ⟨v2, g, b1⟩ := dc_admits hf1 ((S.1 21 + S1.1 18) - 1) w m
        rw [bnd_e b1]
        dsimp only
        have h2 : RR p (pI S1 4 g) T9 := RR_c h9 (Or.inl rfl) g
        split
        · exact dc_69 h2 hf1 0
        · exact dc_69 h2 hf1 1
      · have hT1 : ¬ T1.1 7 = 0 := by rw [RR_f a3]; exact hf1
        obtain ⟨v2, e, q⟩ := dm_76 hT1 hw m ((S.1 21 + S1.1 18) - 1) 1 (fM_probe_36 298)
        rw [q]
        unfold fM_probe_151
        rw [show (1 : Int32) + 1 = 2 by decide, fM_probe_36, if_pos (show (2 : Int32) ≤ 2 by decide)]
        exact dm_159 (RR_d a3 (Or.inr (Or.inr (Nat.le_refl 11))) e) hf1 v2
