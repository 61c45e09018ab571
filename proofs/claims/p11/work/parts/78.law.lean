/-! Pure part 38: the law's loop, for this id. -/
theorem b96 {K : qLs → Int32 → Option Unit} {xs : Nat → Int32} {L i : Nat} (hL : L ≤ 2048) (h4 : 4 * i + 4 ≤ L) (hK : ∀ w : qLs, QO w.2.1 w.1 → K w (nI (4 * i) + 4) = some ()) {w : qLs} (h : QO w.2.1 w.1) : fL_96 K xs L w (nI (4 * i)) = some () := by
  have c1 : inb (nI (4 * i) + 1) L = true := in_at hL h4 (d := 1) (by decide)
  have c2 : inb (nI (4 * i) + 2) L = true := in_at hL h4 (d := 2) (by decide)
  have c3 : inb (nI (4 * i) + 3) L = true := in_at hL h4 (d := 3) (by decide)
  unfold fL_96
  obtain ⟨S', T', r1, r2, r3, -⟩ := q_fill h (xs (nI (4 * i) + 1).toNatClampNeg) (((((xs (nI (4 * i) + 2).toNatClampNeg).toInt64) <<< ((32 : Int32).toInt64 &&& 63)) ||| (((xs (nI (4 * i) + 3).toNatClampNeg).toInt64) &&& 4294967295)))
  simp only [chk_t c1, chk_t c2, chk_t c3]
  rw [bnd_e r1, bnd_e r2]
  exact hK _ r3
theorem b163 {K : qLs → Int32 → Option Unit} {xs : Nat → Int32} {L i : Nat} (hL : L ≤ 2048) (h4 : 4 * i + 4 ≤ L) (hK : ∀ w : qLs, QO w.2.1 w.1 → K w (nI (4 * i) + 4) = some ()) {w : qLs} (h : QO w.2.1 w.1) : fL_163 K xs L w (nI (4 * i)) = some () := by
  have c1 : inb (nI (4 * i) + 1) L = true := in_at hL h4 (d := 1) (by decide)
  have c2 : inb (nI (4 * i) + 2) L = true := in_at hL h4 (d := 2) (by decide)
  have c3 : inb (nI (4 * i) + 3) L = true := in_at hL h4 (d := 3) (by decide)
  unfold fL_163
  obtain ⟨v, r1, r2⟩ := q_look h (xs (nI (4 * i) + 1).toNatClampNeg)
  simp only [chk_t c1]
  rw [bnd_e r1]
  dsimp only
  rw [bnd_e r2]
  exact hK _ (QO_t h 0)
theorem b343 {K : qLs → Int32 → Option Unit} {xs : Nat → Int32} {L i : Nat} (hL : L ≤ 2048) (h4 : 4 * i + 4 ≤ L) (hK : ∀ w : qLs, QO w.2.1 w.1 → K w (nI (4 * i) + 4) = some ()) {w : qLs} (h : QO w.2.1 w.1) : fL_343 K xs L w (nI (4 * i)) = some () := by
  have c1 : inb (nI (4 * i) + 1) L = true := in_at hL h4 (d := 1) (by decide)
  have c2 : inb (nI (4 * i) + 2) L = true := in_at hL h4 (d := 2) (by decide)
  have c3 : inb (nI (4 * i) + 3) L = true := in_at hL h4 (d := 3) (by decide)
  unfold fL_343
  obtain ⟨v, r1, r2⟩ := q_status h
  rw [bnd_e r1]
  dsimp only
  rw [bnd_e r2]
  exact hK _ (QO_t h 0)
theorem b188 {K : qLs → Int32 → Option Unit} {xs : Nat → Int32} {L i : Nat} (hL : L ≤ 2048) (h4 : 4 * i + 4 ≤ L) (hK : ∀ w : qLs, QO w.2.1 w.1 → K w (nI (4 * i) + 4) = some ()) {w : qLs} (h : QO w.2.1 w.1) : fL_188 K xs L w (nI (4 * i)) = some () := by
  have c1 : inb (nI (4 * i) + 1) L = true := in_at hL h4 (d := 1) (by decide)
  have c2 : inb (nI (4 * i) + 2) L = true := in_at hL h4 (d := 2) (by decide)
  have c3 : inb (nI (4 * i) + 3) L = true := in_at hL h4 (d := 3) (by decide)
  unfold fL_188
  obtain ⟨k, S', T', r1, r2, r3, r4⟩ := q_set h w.2.2 (xs (nI (4 * i) + 1).toNatClampNeg) (xs (nI (4 * i) + 2).toNatClampNeg)
  simp only [chk_t c1, chk_t c2]
  rw [bnd_e r1]
  dsimp only
  rw [bnd_e r2]
  exact hK _ r4
theorem b253 {K : qLs → Int32 → Option Unit} {xs : Nat → Int32} {L i : Nat} (hL : L ≤ 2048) (h4 : 4 * i + 4 ≤ L) (hK : ∀ w : qLs, QO w.2.1 w.1 → K w (nI (4 * i) + 4) = some ()) {w : qLs} (h : QO w.2.1 w.1) : fL_253 K xs L w (nI (4 * i)) = some () := by
  have c1 : inb (nI (4 * i) + 1) L = true := in_at hL h4 (d := 1) (by decide)
  have c2 : inb (nI (4 * i) + 2) L = true := in_at hL h4 (d := 2) (by decide)
  have c3 : inb (nI (4 * i) + 3) L = true := in_at hL h4 (d := 3) (by decide)
  unfold fL_253
  obtain ⟨k, S', T', r1, r2, r3, r4⟩ := q_setInner h w.2.2 (xs (nI (4 * i) + 1).toNatClampNeg) (xs (nI (4 * i) + 2).toNatClampNeg)
  simp only [chk_t c1, chk_t c2]
  rw [bnd_e r1]
  dsimp only
  rw [bnd_e r2]
  exact hK _ r4
theorem b318 {K : qLs → Int32 → Option Unit} {xs : Nat → Int32} {L i : Nat} (hL : L ≤ 2048) (h4 : 4 * i + 4 ≤ L) (hK : ∀ w : qLs, QO w.2.1 w.1 → K w (nI (4 * i) + 4) = some ()) {w : qLs} (h : QO w.2.1 w.1) : fL_318 K xs L w (nI (4 * i)) = some () := by
  have c1 : inb (nI (4 * i) + 1) L = true := in_at hL h4 (d := 1) (by decide)
  have c2 : inb (nI (4 * i) + 2) L = true := in_at hL h4 (d := 2) (by decide)
  have c3 : inb (nI (4 * i) + 3) L = true := in_at hL h4 (d := 3) (by decide)
  unfold fL_318
  obtain ⟨k, S', T', r1, r2, r3, r4⟩ := q_begin h w.2.2 (xs (nI (4 * i) + 1).toNatClampNeg)
  simp only [chk_t c1]
  rw [bnd_e r1]
  dsimp only
  rw [bnd_e r2]
  exact hK _ r4
theorem b225 {K : qLs → Int32 → Option Unit} {xs : Nat → Int32} {L i : Nat} (hL : L ≤ 2048) (h4 : 4 * i + 4 ≤ L) (hK : ∀ w : qLs, QO w.2.1 w.1 → K w (nI (4 * i) + 4) = some ()) {w : qLs} (h : QO w.2.1 w.1) : fL_225 K xs L w (nI (4 * i)) = some () := by
  have c1 : inb (nI (4 * i) + 1) L = true := in_at hL h4 (d := 1) (by decide)
  have c2 : inb (nI (4 * i) + 2) L = true := in_at hL h4 (d := 2) (by decide)
  have c3 : inb (nI (4 * i) + 3) L = true := in_at hL h4 (d := 3) (by decide)
  unfold fL_225
  obtain ⟨k, S', fo', v, T', r1, r2, r3, r4, r5, r6⟩ := q_register h w.2.2 (xs (nI (4 * i) + 1).toNatClampNeg)
  simp only [chk_t c1]
  rw [bnd_e r1]
  dsimp only
  rw [bnd_e r2]
  exact hK _ r6
theorem b290 {K : qLs → Int32 → Option Unit} {xs : Nat → Int32} {L i : Nat} (hL : L ≤ 2048) (h4 : 4 * i + 4 ≤ L) (hK : ∀ w : qLs, QO w.2.1 w.1 → K w (nI (4 * i) + 4) = some ()) {w : qLs} (h : QO w.2.1 w.1) : fL_290 K xs L w (nI (4 * i)) = some () := by
  have c1 : inb (nI (4 * i) + 1) L = true := in_at hL h4 (d := 1) (by decide)
  have c2 : inb (nI (4 * i) + 2) L = true := in_at hL h4 (d := 2) (by decide)
  have c3 : inb (nI (4 * i) + 3) L = true := in_at hL h4 (d := 3) (by decide)
  unfold fL_290
  obtain ⟨k, S', fo', v, T', r1, r2, r3, r4, r5, r6⟩ := q_inner h w.2.2 (xs (nI (4 * i) + 1).toNatClampNeg)
  simp only [chk_t c1]
  rw [bnd_e r1]
  dsimp only
  rw [bnd_e r2]
  exact hK _ r6
theorem b356 {K : qLs → Int32 → Option Unit} {xs : Nat → Int32} {L i : Nat} (hL : L ≤ 2048) (h4 : 4 * i + 4 ≤ L) (hK : ∀ w : qLs, QO w.2.1 w.1 → K w (nI (4 * i) + 4) = some ()) {w : qLs} (h : QO w.2.1 w.1) : fL_356 K xs L w (nI (4 * i)) = some () := by
  have c1 : inb (nI (4 * i) + 1) L = true := in_at hL h4 (d := 1) (by decide)
  have c2 : inb (nI (4 * i) + 2) L = true := in_at hL h4 (d := 2) (by decide)
  have c3 : inb (nI (4 * i) + 3) L = true := in_at hL h4 (d := 3) (by decide)
  unfold fL_356
  obtain ⟨k, S', fo', v, T', r1, r2, r3, r4, r5, r6⟩ := q_run h w.2.2 (xs (nI (4 * i) + 1).toNatClampNeg)
  simp only [chk_t c1]
  rw [bnd_e r1]
  dsimp only
  rw [bnd_e r2]
  exact hK _ r6
theorem b384 {K : qLs → Int32 → Option Unit} {xs : Nat → Int32} {L i : Nat} (hL : L ≤ 2048) (h4 : 4 * i + 4 ≤ L) (hK : ∀ w : qLs, QO w.2.1 w.1 → K w (nI (4 * i) + 4) = some ()) {w : qLs} (h : QO w.2.1 w.1) : fL_384 K xs L w (nI (4 * i)) = some () := by
  have c1 : inb (nI (4 * i) + 1) L = true := in_at hL h4 (d := 1) (by decide)
  have c2 : inb (nI (4 * i) + 2) L = true := in_at hL h4 (d := 2) (by decide)
  have c3 : inb (nI (4 * i) + 3) L = true := in_at hL h4 (d := 3) (by decide)
  unfold fL_384
  have main : ∀ wr : Int32, (wr = 0 ∨ wr = 1) → ((if xs (nI (4 * i) + 2).toNatClampNeg = 0 then (0 : Int32) else 1) = wr) → fL_405 K xs L w (nI (4 * i)) (xs (nI (4 * i) + 1).toNatClampNeg) wr = some () := fun wr hw hq => by
    obtain ⟨k, S', fo', v, T', r1, r2, r3, r4, r5, r6⟩ := q_reach h w.2.2 (xs (nI (4 * i) + 1).toNatClampNeg) hw (xs (nI (4 * i) + 3).toNatClampNeg)
    have fin : fL_438 K xs L (w.1, (S', fo')) (nI (4 * i)) k (xs (nI (4 * i) + 1).toNatClampNeg) wr = some () := by
      unfold fL_438
      rw [chk_t c3, bnd_e r2]
      rw [bnd_e (show fM_thrown T' = some (T'.1 0, T') from rfl)]
      dsimp only
      rw [if_pos r3]
      by_cases hk0 : k = 0
      · rw [if_neg (not_not_intro hk0), if_pos (lgz (r4 hk0))]
        exact hK _ r6
      · rw [if_pos hk0]
        exact hK _ r6
    unfold fL_405
    simp only [chk_t c1, chk_t c2, chk_t c3]
    rw [bnd_e r1]
    dsimp only
    by_cases q : xs (nI (4 * i) + 2).toNatClampNeg = 0
    · rw [if_pos q] at hq
      subst hq
      rw [if_pos q]; exact fin
    · rw [if_neg q] at hq
      subst hq
      rw [if_neg q]; exact fin
  simp only [chk_t c1, chk_t c2]
  by_cases q : xs (nI (4 * i) + 2).toNatClampNeg = 0
  · rw [if_pos q]; exact main 0 (Or.inl rfl) (if_pos q)
  · rw [if_neg q]; exact main 1 (Or.inr rfl) (if_neg q)
theorem b480 {K : qLs → Int32 → Option Unit} {xs : Nat → Int32} {L i : Nat} (hL : L ≤ 2048) (h4 : 4 * i + 4 ≤ L) (hK : ∀ w : qLs, QO w.2.1 w.1 → K w (nI (4 * i) + 4) = some ()) {w : qLs} (h : QO w.2.1 w.1) : fL_480 K xs L w (nI (4 * i)) = some () := by
  have c1 : inb (nI (4 * i) + 1) L = true := in_at hL h4 (d := 1) (by decide)
  have c2 : inb (nI (4 * i) + 2) L = true := in_at hL h4 (d := 2) (by decide)
  have c3 : inb (nI (4 * i) + 3) L = true := in_at hL h4 (d := 3) (by decide)
  unfold fL_480
  obtain ⟨v, v', r1, r2, -⟩ := q_state h (xs (nI (4 * i) + 1).toNatClampNeg)
  simp only [chk_t c1]
  rw [bnd_e r1]
  dsimp only
  rw [bnd_e r2]
  exact hK _ (QO_t h 0)
theorem fl_l {xs : Nat → Int32} {L : Nat} (hL : L ≤ 2048) (n : Nat) : ∀ (i : Nat) (w : qLs), 4 * i ≤ L → L < 4 * (i + n) → QO w.2.1 w.1 → fL xs L n w (nI (4 * i)) = some () := by
  induction n with
  | zero => intro i w h1 h2; omega
  | succ n ih =>
    intro i w h1 h2 h
    rw [fL]
    by_cases q : L < 4 * i + 4
    · rw [if_pos ((lim hL h1).mpr q)]
    · have h4 : 4 * i + 4 ≤ L := by omega
      have c0 : inb (nI (4 * i)) L = true := inb_nI (by omega) (by omega)
      have hK : ∀ w : qLs, QO w.2.1 w.1 → fL xs L n w (nI (4 * i) + 4) = some () := fun w hw => by
        have e : nI (4 * i) + 4 = nI (4 * (i + 1)) := nI_add (4 * i) 4
        rw [e]
        exact ih (i + 1) w (by omega) (by omega) hw
      rw [if_neg (fun w => q ((lim hL h1).mp w)), chk_t c0]
      by_cases q0 : ((xs (nI (4 * i)).toNatClampNeg) &&& 15).toInt < 0 ∨ 10 < ((xs (nI (4 * i)).toNatClampNeg) &&& 15).toInt
      · rw [if_pos q0]
        exact hK w h
      · rw [if_neg q0]
        obtain ⟨d, hd, ed⟩ := pk_andE (xs (nI (4 * i)).toNatClampNeg) (m := 15) 4 (by decide)
        rw [ed] at q0 ⊢
        rw [nI_toInt (by omega)] at q0
        have hc : d = 0 ∨ d = 1 ∨ d = 2 ∨ d = 3 ∨ d = 4 ∨ d = 5 ∨ d = 6 ∨ d = 7 ∨ d = 8 ∨ d = 9 ∨ d = 10 := by omega
        rcases hc with rfl | rfl | rfl | rfl | rfl | rfl | rfl | rfl | rfl | rfl | rfl
        · rw [if_pos (show nI 0 = 0 from rfl)]
          exact b96 hL h4 hK h
        · rw [if_neg (show ¬ nI 1 = 0 by decide), if_pos (show nI 1 = 1 from rfl)]
          exact b163 hL h4 hK h
        · rw [if_neg (show ¬ nI 2 = 0 by decide), if_neg (show ¬ nI 2 = 1 by decide), if_pos (show nI 2 = 2 from rfl)]
          exact b188 hL h4 hK h
        · rw [if_neg (show ¬ nI 3 = 0 by decide), if_neg (show ¬ nI 3 = 1 by decide), if_neg (show ¬ nI 3 = 2 by decide), if_pos (show nI 3 = 3 from rfl)]
          exact b225 hL h4 hK h
        · rw [if_neg (show ¬ nI 4 = 0 by decide), if_neg (show ¬ nI 4 = 1 by decide), if_neg (show ¬ nI 4 = 2 by decide), if_neg (show ¬ nI 4 = 3 by decide), if_pos (show nI 4 = 4 from rfl)]
          exact b253 hL h4 hK h
        · rw [if_neg (show ¬ nI 5 = 0 by decide), if_neg (show ¬ nI 5 = 1 by decide), if_neg (show ¬ nI 5 = 2 by decide), if_neg (show ¬ nI 5 = 3 by decide), if_neg (show ¬ nI 5 = 4 by decide), if_pos (show nI 5 = 5 from rfl)]
          exact b290 hL h4 hK h
        · rw [if_neg (show ¬ nI 6 = 0 by decide), if_neg (show ¬ nI 6 = 1 by decide), if_neg (show ¬ nI 6 = 2 by decide), if_neg (show ¬ nI 6 = 3 by decide), if_neg (show ¬ nI 6 = 4 by decide), if_neg (show ¬ nI 6 = 5 by decide), if_pos (show nI 6 = 6 from rfl)]
          exact b318 hL h4 hK h
        · rw [if_neg (show ¬ nI 7 = 0 by decide), if_neg (show ¬ nI 7 = 1 by decide), if_neg (show ¬ nI 7 = 2 by decide), if_neg (show ¬ nI 7 = 3 by decide), if_neg (show ¬ nI 7 = 4 by decide), if_neg (show ¬ nI 7 = 5 by decide), if_neg (show ¬ nI 7 = 6 by decide), if_pos (show nI 7 = 7 from rfl)]
          exact b343 hL h4 hK h
        · rw [if_neg (show ¬ nI 8 = 0 by decide), if_neg (show ¬ nI 8 = 1 by decide), if_neg (show ¬ nI 8 = 2 by decide), if_neg (show ¬ nI 8 = 3 by decide), if_neg (show ¬ nI 8 = 4 by decide), if_neg (show ¬ nI 8 = 5 by decide), if_neg (show ¬ nI 8 = 6 by decide), if_neg (show ¬ nI 8 = 7 by decide), if_pos (show nI 8 = 8 from rfl)]
          exact b356 hL h4 hK h
        · rw [if_neg (show ¬ nI 9 = 0 by decide), if_neg (show ¬ nI 9 = 1 by decide), if_neg (show ¬ nI 9 = 2 by decide), if_neg (show ¬ nI 9 = 3 by decide), if_neg (show ¬ nI 9 = 4 by decide), if_neg (show ¬ nI 9 = 5 by decide), if_neg (show ¬ nI 9 = 6 by decide), if_neg (show ¬ nI 9 = 7 by decide), if_neg (show ¬ nI 9 = 8 by decide), if_pos (show nI 9 = 9 from rfl)]
          exact b384 hL h4 hK h
        · rw [if_neg (show ¬ nI 10 = 0 by decide), if_neg (show ¬ nI 10 = 1 by decide), if_neg (show ¬ nI 10 = 2 by decide), if_neg (show ¬ nI 10 = 3 by decide), if_neg (show ¬ nI 10 = 4 by decide), if_neg (show ¬ nI 10 = 5 by decide), if_neg (show ¬ nI 10 = 6 by decide), if_neg (show ¬ nI 10 = 7 by decide), if_neg (show ¬ nI 10 = 8 by decide), if_neg (show ¬ nI 10 = 9 by decide), if_pos (show nI 10 = 10 from rfl)]
          exact b480 hL h4 hK h
theorem hpure : qPure := fun xs L hL => fl_l hL 600 0 _ (by omega) (by omega) QO_0
