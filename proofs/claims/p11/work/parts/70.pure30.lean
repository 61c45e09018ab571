/-! Pure part 30: codes 64 to 67. -/
theorem sob {p : Int32 × Int32} {S T : qS} (h : RR p S T) (hf : S.1 7 = 0) (hz : S.1 11 = 4) (hw : OW 0 S T) (hv : T.2 5 0 = S.1 14) (hd : T.2 5 1 = S.1 18) (c : Int32) (hc : ¬ 66 ≤ c) (fin : ∀ {S3 T3 : qS}, RR p S3 T3 → S3.1 18 = S.1 18 → T3.2 5 1 = T.2 5 1 → ∀ x : Int32, PK p S3 T3 (if x ≤ 0 then fCd_count_128 S3 c 1 x 0 else fCd_count_128 S3 c 1 x 1) (if ¬ c = 64 then if ¬ c = 65 then if ¬ c = 66 then if (gA T3 5 0) < x then fM_count_161 T3 0 0 else fM_count_161 T3 0 1 else if (gA T3 5 0) ≤ x then fM_count_161 T3 0 0 else fM_count_161 T3 0 1 else if x < 0 then fM_count_161 T3 0 0 else fM_count_161 T3 0 1 else if x ≤ 0 then fM_count_161 T3 0 0 else fM_count_161 T3 0 1)) : PK p S T (fCd_count S c) (fM_count T c) := by
  have g0 : gA T 5 0 = S.1 14 := hv
  have ov := ov_dn (S.1 14)
  have main : ∀ o : Int32, PK p S T (fCd_count_76 S c 1 0 (S.1 14 - 1) (S.1 14 - 1) o) (fM_count_71 T c 0 (S.1 14 - 1) (S.1 14 - 1) o) := fun o => by
    obtain ⟨S3, T3, r1, r2, r3, r4, r5⟩ := RR_cnt h hf (k := 0) (by decide) hz hw (S.1 14 - 1) o
    have r2 : fM_give (pI T 1 (cD (T.1 1) (S.1 14 - 1) o (hB (T.1 1) 0))) 0 (S.1 14 - 1) 4 = some T3 := r2
    unfold fCd_count_76 fM_count_71
    rw [bnd_e (ch1 S), bnd_e (mh0 T)]
    dsimp only
    rw [bnd_e (conc_eq S _ _ _), bnd_e (mark_eq T _ _ _), bnd_e r1, bnd_e r2, if_neg (show ¬ (1 : Int32) = 0 by decide)]
    exact PK_t r4 r5 (fin r3 (r4 18 (by decide)) (by rw [r5.1 5 (by decide) (by decide)]) _)
  unfold fCd_count fCd_count_11 fCd_count_27 fCd_count_49 fM_count fM_count_11 fM_count_37
  rw [if_neg hc, if_neg hc, if_neg hc, if_neg hc, if_neg (show ¬ (1 : Int32) = 0 by decide), if_neg (show ¬ (1 : Int32) = 0 by decide), g0]
  have e14 : S.1 (14 + 4 * 0) = S.1 14 := rfl
  rw [e14, dn32]
  rw [dn32] at ov
  by_cases q : S.1 14 - 1 = 2147483647
  · rw [if_neg (fun w => (ov.mp w) q), if_neg (not_not_intro q)]
    exact main 1
  · rw [if_pos (ov.mpr q), if_pos q]
    exact main 0
theorem aob {p : Int32 × Int32} {S T : qS} (h : RR p S T) (hf : S.1 7 = 0) (hz : S.1 15 = 4) (hw : OW 1 S T) (hv : T.2 5 1 = S.1 18) (hl : T.2 5 0 = S.1 14) (hd : T.2 5 2 = S.1 22) (c : Int32) (hc : 66 ≤ c) (fin : ∀ {S3 T3 : qS}, RR p S3 T3 → S3.1 14 = S.1 14 → S3.1 22 = S.1 22 → T3.2 5 = T.2 5 → ∀ x : Int32, PK p S3 T3 (if (S3.1 14) ≤ x then fCd_count_128 S3 c 0 x 0 else fCd_count_128 S3 c 0 x 1) (if ¬ c = 64 then if ¬ c = 65 then if ¬ c = 66 then if (gA T3 5 0) < x then fM_count_161 T3 1 0 else fM_count_161 T3 1 1 else if (gA T3 5 0) ≤ x then fM_count_161 T3 1 0 else fM_count_161 T3 1 1 else if x < 0 then fM_count_161 T3 1 0 else fM_count_161 T3 1 1 else if x ≤ 0 then fM_count_161 T3 1 0 else fM_count_161 T3 1 1)) : PK p S T (fCd_count S c) (fM_count T c) := by
  have g0 : gA T 5 1 = S.1 18 := hv
  have ov := ov_up (S.1 18)
  have main : ∀ o : Int32, PK p S T (fCd_count_76 S c 0 1 (S.1 18 + 1) (S.1 18 + 1) o) (fM_count_71 T c 1 (S.1 18 + 1) (S.1 18 + 1) o) := fun o => by
    obtain ⟨S3, T3, r1, r2, r3, r4, r5⟩ := RR_cnt h hf (k := 1) (by decide) hz hw (S.1 18 + 1) o
    have r2 : fM_give (pI T 1 (cD (T.1 1) (S.1 18 + 1) o (hB (T.1 1) 0))) 1 (S.1 18 + 1) 4 = some T3 := r2
    unfold fCd_count_76 fM_count_71
    rw [bnd_e (ch1 S), bnd_e (mh0 T)]
    dsimp only
    rw [bnd_e (conc_eq S _ _ _), bnd_e (mark_eq T _ _ _), bnd_e r1, bnd_e r2, if_pos rfl]
    exact PK_t r4 r5 (fin r3 (r4 14 (by decide)) (r4 22 (by decide)) (r5.1 5 (by decide) (by decide)) _)
  unfold fCd_count fCd_count_11 fCd_count_27 fCd_count_49 fM_count fM_count_11 fM_count_37
  rw [if_pos hc, if_pos hc, if_pos hc, if_pos hc, if_pos rfl, if_pos rfl, g0]
  have e14 : S.1 (14 + 4 * 1) = S.1 18 := rfl
  rw [e14, up32]
  rw [up32] at ov
  by_cases q : S.1 18 + 1 = -2147483648
  · rw [if_neg (fun w => (ov.mp w) q), if_neg (not_not_intro q)]
    exact main 1
  · rw [if_pos (ov.mpr q), if_pos q]
    exact main 0
/-- taken, or not -/
theorem tk1 {p : Int32 × Int32} {S T : qS} (h : RR p S T) (hd : T.2 5 1 = S.1 18) : PK p S T (fCd_count_174 S 1) (fM_count_161 T 0 1) := by
  have e : fM_count_161 T 0 1 = some (pA T 1 15 (gA T 1 15 + gA T 5 1)) := by
    unfold fM_count_161
    rw [if_neg (show ¬ (1 : Int32) = 0 by decide), chk_t (by decide)]
    rfl
  have e2 : fCd_count_174 S 1 = (fCo_get S 15).bind fun q1 => (fCo_put q1.2 15 (q1.1 + S.1 18)).bind fun S1 => some S1 := by
    unfold fCd_count_174 fCd_count_210 fCd_count_214
    rw [bnd_e (fCo_get_eq S 15), bnd_e (fCo_get_eq S 15), if_neg (show ¬ (1 : Int32) = 0 by decide)]
  rw [e, e2]
  exact ct h hd
theorem tk0 {p : Int32 × Int32} {S T : qS} (h : RR p S T) (hd : T.2 5 2 = S.1 22) : PK p S T (fCd_count_174 S 0) (fM_count_161 T 1 1) := by
  have e : fM_count_161 T 1 1 = some (pA T 1 15 (gA T 1 15 + gA T 5 2)) := by
    unfold fM_count_161
    rw [if_neg (show ¬ (1 : Int32) = 0 by decide), chk_t (by decide)]
    rfl
  have e2 : fCd_count_174 S 0 = (fCo_get S 15).bind fun q1 => (fCo_put q1.2 15 (q1.1 + S.1 22)).bind fun S1 => some S1 := by
    unfold fCd_count_174 fCd_count_210 fCd_count_214
    rw [bnd_e (fCo_get_eq S 15), bnd_e (fCo_get_eq S 15), if_pos rfl]
  rw [e, e2]
  exact ct h hd
theorem nt {p : Int32 × Int32} {S T : qS} (h : RR p S T) (k : Int32) : PK p S T (some S) (fM_count_161 T k 0) := by
  have e : fM_count_161 T k 0 = some T := by
    unfold fM_count_161
    rw [if_pos rfl]; rfl
  rw [e]
  exact PK_r h
theorem k161 (S : qS) (x2 x7 : Int32) : fCd_count_161 S x2 x7 = if x7 = 0 then some S else fCd_count_174 S x2 := by
  unfold fCd_count_161 fCd_count_162
  by_cases q : x7 = 0
  · rw [if_neg (not_not_intro q), if_pos rfl, if_pos q]; rfl
  · rw [if_pos q, if_neg q]
theorem k162 (S : qS) (x2 x7 : Int32) : fCd_count_162 S x2 x7 1 = fCd_count_174 S x2 := by
  unfold fCd_count_162
  by_cases q : x7 = 0
  · rw [if_neg (not_not_intro q), if_neg (show ¬ (1 : Int32) = 0 by decide)]
  · rw [if_pos q]
theorem c64 {p : Int32 × Int32} {S T : qS} (h : RR p S T) (hf : S.1 7 = 0) (hz : S.1 11 = 4) (hw : OW 0 S T) (hv : T.2 5 0 = S.1 14) (hd : T.2 5 1 = S.1 18) : PK p S T (fCd_count S 64) (fM_count T 64) := by
  refine sob h hf hz hw hv hd 64 (by decide) (fun {S3 T3} h3 e1 e2 x => ?_)
  have hd3 : T3.2 5 1 = S3.1 18 := by rw [e1, e2]; exact hd
  have e : ∀ y, fCd_count_128 S3 64 1 x y = fCd_count_161 S3 1 y := fun y => by
    unfold fCd_count_128
    rw [if_pos (show ¬ (64 : Int32) &&& 1 = 1 by decide)]
  rw [if_neg (show ¬ ¬ (64 : Int32) = 64 by decide), e, e, k161, k161]
  by_cases q : x ≤ 0
  · rw [if_pos q, if_pos q, if_pos rfl]; exact nt h3 0
  · rw [if_neg q, if_neg q, if_neg (show ¬ (1 : Int32) = 0 by decide)]; exact tk1 h3 hd3
theorem c65 {p : Int32 × Int32} {S T : qS} (h : RR p S T) (hf : S.1 7 = 0) (hz : S.1 11 = 4) (hw : OW 0 S T) (hv : T.2 5 0 = S.1 14) (hd : T.2 5 1 = S.1 18) : PK p S T (fCd_count S 65) (fM_count T 65) := by
  refine sob h hf hz hw hv hd 65 (by decide) (fun {S3 T3} h3 e1 e2 x => ?_)
  have hd3 : T3.2 5 1 = S3.1 18 := by rw [e1, e2]; exact hd
  have e : ∀ y, fCd_count_128 S3 65 1 x y = if ¬ x = 0 then fCd_count_161 S3 1 y else fCd_count_162 S3 1 y 1 := fun y => by
    unfold fCd_count_128 fCd_count_154
    rw [if_neg (show ¬ ¬ (65 : Int32) &&& 1 = 1 by decide), if_neg (show ¬ (1 : Int32) = 0 by decide)]
  rw [if_pos (show ¬ (65 : Int32) = 64 by decide), if_neg (show ¬ ¬ (65 : Int32) = 65 by decide), e, e, k161, k161, k162, k162]
  have e0 : (0 : Int32).toInt = 0 := by decide
  by_cases q : x < 0
  · have q1 : x ≤ 0 := by
      rw [Int32.le_iff_toInt_le]
      have := Int32.lt_iff_toInt_lt.mp q
      omega
    have q2 : ¬ x = 0 := fun w => by rw [w] at q; exact absurd q (by decide)
    rw [if_pos q1, if_pos q2, if_pos rfl, if_pos q]; exact nt h3 0
  · rw [if_neg q]
    by_cases q1 : x ≤ 0
    · have q2 : x = 0 := by
        apply Int32.toInt_inj.mp
        have a := Int32.le_iff_toInt_le.mp q1
        have b : ¬ x.toInt < (0 : Int32).toInt := fun w => q (Int32.lt_iff_toInt_lt.mpr w)
        omega
      rw [if_pos q1, if_neg (not_not_intro q2)]; exact tk1 h3 hd3
    · rw [if_neg q1, if_neg (show ¬ (1 : Int32) = 0 by decide)]
      by_cases q2 : x = 0
      · rw [if_neg (not_not_intro q2)]; exact tk1 h3 hd3
      · rw [if_pos q2]; exact tk1 h3 hd3
theorem c66 {p : Int32 × Int32} {S T : qS} (h : RR p S T) (hf : S.1 7 = 0) (hz : S.1 15 = 4) (hw : OW 1 S T) (hv : T.2 5 1 = S.1 18) (hl : T.2 5 0 = S.1 14) (hd : T.2 5 2 = S.1 22) : PK p S T (fCd_count S 66) (fM_count T 66) := by
  refine aob h hf hz hw hv hl hd 66 (by decide) (fun {S3 T3} h3 e1 e2 e3 x => ?_)
  have hd3 : T3.2 5 2 = S3.1 22 := by rw [e2, e3]; exact hd
  have g0 : gA T3 5 0 = S3.1 14 := by
    show T3.2 5 0 = S3.1 14
    rw [e1, e3]; exact hl
  have e : ∀ y, fCd_count_128 S3 66 0 x y = fCd_count_161 S3 0 y := fun y => by
    unfold fCd_count_128
    rw [if_pos (show ¬ (66 : Int32) &&& 1 = 1 by decide)]
  rw [if_pos (show ¬ (66 : Int32) = 64 by decide), if_pos (show ¬ (66 : Int32) = 65 by decide), if_neg (show ¬ ¬ (66 : Int32) = 66 by decide), e, e, k161, k161, g0]
  by_cases q : S3.1 14 ≤ x
  · rw [if_pos q, if_pos q, if_pos rfl]; exact nt h3 1
  · rw [if_neg q, if_neg q, if_neg (show ¬ (1 : Int32) = 0 by decide)]; exact tk0 h3 hd3
theorem c67 {p : Int32 × Int32} {S T : qS} (h : RR p S T) (hf : S.1 7 = 0) (hz : S.1 15 = 4) (hw : OW 1 S T) (hv : T.2 5 1 = S.1 18) (hl : T.2 5 0 = S.1 14) (hd : T.2 5 2 = S.1 22) : PK p S T (fCd_count S 67) (fM_count T 67) := by
  refine aob h hf hz hw hv hl hd 67 (by decide) (fun {S3 T3} h3 e1 e2 e3 x => ?_)
  have hd3 : T3.2 5 2 = S3.1 22 := by rw [e2, e3]; exact hd
  have g0 : gA T3 5 0 = S3.1 14 := by
    show T3.2 5 0 = S3.1 14
    rw [e1, e3]; exact hl
  have e : ∀ y, fCd_count_128 S3 67 0 x y = if ¬ x = S3.1 14 then fCd_count_161 S3 0 y else fCd_count_162 S3 0 y 1 := fun y => by
    unfold fCd_count_128 fCd_count_154
    rw [if_neg (show ¬ ¬ (67 : Int32) &&& 1 = 1 by decide), if_pos rfl]
  rw [if_pos (show ¬ (67 : Int32) = 64 by decide), if_pos (show ¬ (67 : Int32) = 65 by decide), if_pos (show ¬ (67 : Int32) = 66 by decide), e, e, k161, k161, k162, k162, g0]
  generalize hL : S3.1 14 = L
  by_cases q : L < x
  · have q1 : L ≤ x := by
      rw [Int32.le_iff_toInt_le]
      have := Int32.lt_iff_toInt_lt.mp q
      omega
    have q2 : ¬ x = L := fun w => by
      rw [w] at q
      have := Int32.lt_iff_toInt_lt.mp q
      omega
    rw [if_pos q1, if_pos q2, if_pos rfl, if_pos q]; exact nt h3 1
  · rw [if_neg q]
    by_cases q1 : L ≤ x
    · have q2 : x = L := by
        apply Int32.toInt_inj.mp
        have a := Int32.le_iff_toInt_le.mp q1
        have b : ¬ L.toInt < x.toInt := fun w => q (Int32.lt_iff_toInt_lt.mpr w)
        omega
      rw [if_pos q1, if_neg (not_not_intro q2)]; exact tk0 h3 hd3
    · rw [if_neg q1, if_neg (show ¬ (1 : Int32) = 0 by decide)]
      by_cases q2 : x = L
      · rw [if_neg (not_not_intro q2)]; exact tk0 h3 hd3
      · rw [if_pos q2]; exact tk0 h3 hd3
