/-! Pure part 3: where a byte is: class and reference by one function. -/
theorem pI_pI (S : qS) (k : Nat) (u v : Int32) : pI (pI S k u) k v = pI S k v := by
  unfold pI
  refine Prod.ext (funext fun j => ?_) rfl
  show (if j = k then v else if j = k then u else S.1 j) = if j = k then v else S.1 j
  by_cases h : j = k
  · rw [if_pos h, if_pos h]
  · rw [if_neg h, if_neg h, if_neg h]
abbrev blw (p lim : Int32) : Prop := lim < 0 ∨ p < lim
abbrev pgOf (a : Int32) : Int32 := (ushr a 6) &&& 16777215
abbrev thr (inn : Nat → Int32) (r p : Int32) : Prop := (r = 2 ∧ blw p (inn 13)) ∨ (r = 1 ∧ ¬ blw p (inn 11)) ∨ (r = 0 ∧ blw p (inn 9))
abbrev grt (f w m : Int32) : Prop := if w = 0 then m ≤ ((ushr f 27) &&& 3) else (m ≤ ((ushr f 29) &&& 3) ∧ ((ushr f 29) &&& 3) ≤ ((ushr f 27) &&& 3))
def spe (lng : Int32 → Int32) (a w m more at_ : Int32) : Int32 × Int32 :=
  if grt (lng at_) w m then (if 0 ≤ lng at_ then (-60 - more, -1) else (64 * (lng at_ &&& 31) + (a &&& 63), at_ &&& 2047)) else (-50 - more, -1)
def spo (lng : Int32 → Int32) (inn : Nat → Int32) (a w m more o : Int32) : Int32 × Int32 :=
  if ushr o 30 = 2 ∧ blw (pgOf o) (inn 13) then (if 0 ≤ lng (inn 12 + 4 * pgOf o) then (-62 - more, -1) else spe lng a w m more (64 * (lng (inn 12 + 4 * pgOf o) &&& 31) + (o &&& 63))) else (-53 - more, -1)
def spm (lng : Int32 → Int32) (inn : Nat → Int32) (a w m more : Int32) : Int32 × Int32 :=
  if thr inn (ushr a 30) (pgOf a) then (if ushr a 30 = 2 then spe lng a w m more (inn 12 + 4 * pgOf a) else spo lng inn a w m more ((if ushr a 30 = 0 then inn 8 else inn 10) + 4 * pgOf a)) else (-51 - more, -1)
def spl (lng : Int32 → Int32) (inn : Nat → Int32) (a w m : Int32) : Int32 × Int32 :=
  if inn 56 = 0 then (a &&& 2047, -1) else spm lng inn a w m (if w = 0 then 0 else 4)
theorem reg4 (x : Int32) : ushr x 30 = 0 ∨ ushr x 30 = 1 ∨ ushr x 30 = 2 ∨ ushr x 30 = 3 := by
  have h : (ushr x 30).toBitVec.toNat = x.toBitVec.toNat / 2 ^ 30 := pk_ushr x 30 30 (by decide)
  have hx := x.toBitVec.isLt
  have e : ∀ y : Int32, ∀ n : Nat, n < 4 → y.toBitVec.toNat = n → y = nI n := fun y n hn hy => by
    apply Int32.toBitVec_inj.1
    apply BitVec.eq_of_toNat_eq
    rw [hy]
    exact (pk_tn (by omega)).symm
  have h4 : (ushr x 30).toBitVec.toNat < 4 := by omega
  rcases (show (ushr x 30).toBitVec.toNat = 0 ∨ (ushr x 30).toBitVec.toNat = 1 ∨ (ushr x 30).toBitVec.toNat = 2 ∨ (ushr x 30).toBitVec.toNat = 3 by omega) with q | q | q | q
  · exact Or.inl (e _ 0 (by decide) q)
  · exact Or.inr (Or.inl (e _ 1 (by decide) q))
  · exact Or.inr (Or.inr (Or.inl (e _ 2 (by decide) q)))
  · exact Or.inr (Or.inr (Or.inr (e _ 3 (by decide) q)))
theorem nlt_le {x y : Int32} : ¬ x < y ↔ y ≤ x := by rw [Int32.lt_iff_toInt_lt, Int32.le_iff_toInt_le]; omega
theorem nle_lt {x y : Int32} : ¬ x ≤ y ↔ y < x := by rw [Int32.lt_iff_toInt_lt, Int32.le_iff_toInt_le]; omega
/-- the class -/
theorem fPg_isValid_eq (S : qS) (x : Int32) : fPg_isValid S x = some (if 0 ≤ x then 0 else 1, S) := by
  unfold fPg_isValid
  by_cases h : 0 ≤ x
  · rw [if_pos h, if_pos h]; rfl
  · rw [if_neg h, if_neg h]; rfl
theorem fPg_grants_eq (S : qS) (f w m : Int32) : fPg_grants S f w m = some (if grt f w m then 1 else 0, S) := by
  unfold fPg_grants
  by_cases hw : w = 0
  · rw [if_pos hw]
    by_cases h : ((ushr f 27) &&& 3) < m
    · rw [if_pos h, if_neg (by unfold grt; rw [if_pos hw]; exact nle_lt.mpr h)]; rfl
    · rw [if_neg h, if_pos (by unfold grt; rw [if_pos hw]; exact nlt_le.mp h)]; rfl
  · rw [if_neg hw]
    by_cases h : ((ushr f 29) &&& 3) < m
    · rw [if_pos h, if_neg (by unfold grt; rw [if_neg hw]; exact fun q => nle_lt.mpr h q.1)]; rfl
    · rw [if_neg h]
      by_cases h2 : ((ushr f 27) &&& 3) < ((ushr f 29) &&& 3)
      · rw [if_pos h2, if_neg (by unfold grt; rw [if_neg hw]; exact fun q => nle_lt.mpr h2 q.2)]; rfl
      · rw [if_neg h2, if_pos (by unfold grt; rw [if_neg hw]; exact ⟨nlt_le.mp h, nlt_le.mp h2⟩)]; rfl
theorem fPg_isThere_33_eq (S : qS) (r p y : Int32) (hy : inb y 57 = true) (hr : r = 0 ∨ r = 1 ∨ r = 2) : fPg_isThere_33 S r p y = some (if (r = 1 ∧ ¬ blw p (gA S 1 y)) ∨ (r ≠ 1 ∧ blw p (gA S 1 y)) then 1 else 0, S) := by
  have e49 : ∀ z : Int32, z = 0 ∨ z = 1 → fPg_isThere_49 S r z = some (if (r = 1 ∧ z = 0) ∨ (r ≠ 1 ∧ z = 1) then 1 else 0, S) := by
    intro z hz
    rcases hr with rfl | rfl | rfl <;> rcases hz with rfl | rfl <;> rfl
  have e44 : fPg_isThere_44 S r = fPg_isThere_49 S r 1 := rfl
  unfold fPg_isThere_33
  rw [chk_t hy, e44, e49 0 (Or.inl rfl), e49 1 (Or.inr rfl)]
  by_cases h1 : gA S 1 y < 0
  · rw [if_pos h1]
    by_cases hr1 : r = 1 <;> simp [hr1, h1, blw]
  · rw [if_neg h1]
    by_cases h2 : gA S 1 y ≤ p
    · rw [if_pos h2]
      have h3 : ¬ p < gA S 1 y := nlt_le.mpr h2
      by_cases hr1 : r = 1 <;> simp [hr1, h1, h3, blw]
    · rw [if_neg h2]
      have h3 : p < gA S 1 y := nle_lt.mp h2
      by_cases hr1 : r = 1 <;> simp [hr1, h1, h3, blw]
theorem fPg_isThere_eq (S : qS) (r p : Int32) (hr : r = 0 ∨ r = 1 ∨ r = 2 ∨ r = 3) : fPg_isThere S r p = some (if thr (S.2 1) r p then 1 else 0, S) := by
  have g9 : gA S 1 9 = S.2 1 9 := rfl
  have g11 : gA S 1 11 = S.2 1 11 := rfl
  have g13 : gA S 1 13 = S.2 1 13 := rfl
  unfold fPg_isThere
  rcases hr with rfl | rfl | rfl | rfl
  · rw [if_pos (by decide), if_pos (by decide), if_pos (by decide), fPg_isThere_33_eq S 0 p 9 (by decide) (Or.inl rfl), g9]
    simp [thr]
  · rw [if_pos (by decide), if_pos (by decide), if_neg (by decide), fPg_isThere_33_eq S 1 p 11 (by decide) (Or.inr (Or.inl rfl)), g11]
    simp [thr]
  · rw [if_pos (by decide), if_neg (by decide), fPg_isThere_33_eq S 2 p 13 (by decide) (Or.inr (Or.inr rfl)), g13]
    simp [thr]
  · rw [if_neg (by decide), chk_t isB_0]
    simp [thr]
theorem q10 {S : qS} {c : Prop} [Decidable c] {α : Type} {x y : α} : (if ¬ ((if c then (1 : Int32) else 0, S) : Int32 × qS).1 = 0 then x else y) = if c then x else y := by
  by_cases h : c
  · rw [if_pos h, if_pos h]; exact if_pos (show ¬ (1 : Int32) = 0 by decide)
  · rw [if_neg h, if_neg h]; exact if_neg (show ¬ ¬ (0 : Int32) = 0 by decide)
theorem q01 {S : qS} {c : Prop} [Decidable c] {α : Type} {x y : α} : (if ¬ ((if c then (0 : Int32) else 1, S) : Int32 × qS).1 = 0 then x else y) = if c then y else x := by
  by_cases h : c
  · rw [if_pos h, if_pos h]; exact if_neg (show ¬ ¬ (0 : Int32) = 0 by decide)
  · rw [if_neg h, if_neg h]; exact if_pos (show ¬ (1 : Int32) = 0 by decide)
/-- the entry noted, where there is one -/
def cEn (S : qS) (e : Int32) : qS := if e = -1 then S else pI S 4 e
theorem cEn_1 (S : qS) : cEn S (-1) = S := if_pos rfl
theorem am_ne (x : Int32) : ¬ (x &&& 2047 = -1) := by
  rw [am_n]
  intro q
  have h1 := congrArg Int32.toInt q
  rw [nI_toInt (by omega)] at h1
  have h2 : (-1 : Int32).toInt = -1 := by decide
  omega
theorem cEn_am (S : qS) (x : Int32) : cEn S (x &&& 2047) = pI S 4 (x &&& 2047) := if_neg (am_ne x)
theorem fPg_locate_189_eq (S : qS) (a w m more x : Int32) (hmore : more = 0 ∨ more = 4) : fPg_locate_189 S a w m more x = some ((spe (cLong S) a w m more x).1, cEn S (spe (cLong S) a w m more x).2) := by
  unfold fPg_locate_189
  rw [bnd_e (fSt_longAt_eq S x)]
  dsimp only
  rw [bnd_e (fPg_grants_eq S _ w m), q10]
  by_cases hg : grt (cLong S x) w m
  · rw [if_pos hg]
    dsimp only
    rw [bnd_e (fPg_isValid_eq S _), q01]
    by_cases hv : 0 ≤ cLong S x
    · have e : spe (cLong S) a w m more x = (-60 - more, -1) := by unfold spe; rw [if_pos hg, if_pos hv]
      rw [if_pos hv, e, cEn_1]
      rcases hmore with rfl | rfl <;> rfl
    · have e : spe (cLong S) a w m more x = (64 * (cLong S x &&& 31) + (a &&& 63), x &&& 2047) := by unfold spe; rw [if_pos hg, if_neg hv]
      rw [if_neg hv, e, cEn_am]
      rfl
  · have e : spe (cLong S) a w m more x = (-50 - more, -1) := by unfold spe; rw [if_neg hg]
    rw [if_neg hg, e, cEn_1]
    rcases hmore with rfl | rfl <;> rfl
theorem fPg_locate_100_eq (S : qS) (a w m more p y : Int32) (hy : inb y 57 = true) (hmore : more = 0 ∨ more = 4) : fPg_locate_100 S a w m more p y = some ((spo (cLong S) (S.2 1) a w m more (gA S 1 y + 4 * p)).1, cEn S (spo (cLong S) (S.2 1) a w m more (gA S 1 y + 4 * p)).2) := by
  have g12 : gA S 1 12 = S.2 1 12 := rfl
  unfold fPg_locate_100
  rw [chk_t hy]
  generalize gA S 1 y + 4 * p = o
  have e130 : fPg_locate_130 S more = some (-53 - more, S) := by rcases hmore with rfl | rfl <;> rfl
  by_cases h1 : ushr o 30 = 2
  · rw [if_neg (not_not_intro h1)]
    rw [bnd_e (show fPg_pageOf S o = some (pgOf o, S) from rfl)]
    dsimp only
    rw [bnd_e (fPg_isThere_eq S 2 (pgOf o) (Or.inr (Or.inr (Or.inl rfl)))), q10]
    by_cases h2 : blw (pgOf o) (S.2 1 13)
    · have ht : thr (S.2 1) 2 (pgOf o) := Or.inl ⟨rfl, h2⟩
      rw [if_pos ht]
      dsimp only
      rw [bnd_e (show fPg_pageOf S o = some (pgOf o, S) from rfl)]
      dsimp only
      rw [bnd_e (fSt_longAt_eq S _), g12]
      dsimp only
      rw [bnd_e (fPg_isValid_eq S _), q01]
      by_cases h3 : 0 ≤ cLong S (S.2 1 12 + 4 * pgOf o)
      · have e : spo (cLong S) (S.2 1) a w m more o = (-62 - more, -1) := by unfold spo; rw [if_pos ⟨h1, h2⟩, if_pos h3]
        rw [if_pos h3, e, cEn_1]
        rcases hmore with rfl | rfl <;> rfl
      · have e : spo (cLong S) (S.2 1) a w m more o = spe (cLong S) a w m more (64 * (cLong S (S.2 1 12 + 4 * pgOf o) &&& 31) + (o &&& 63)) := by unfold spo; rw [if_pos ⟨h1, h2⟩, if_neg h3]
        rw [if_neg h3, e]
        exact fPg_locate_189_eq S a w m more _ hmore
    · have ht : ¬ thr (S.2 1) 2 (pgOf o) := fun q => by
        rcases q with ⟨-, q⟩ | ⟨q, -⟩ | ⟨q, -⟩
        · exact h2 q
        · exact absurd q (by decide)
        · exact absurd q (by decide)
      have e : spo (cLong S) (S.2 1) a w m more o = (-53 - more, -1) := by unfold spo; rw [if_neg (fun q => h2 q.2)]
      rw [if_neg ht, e, cEn_1]
      exact e130
  · have e : spo (cLong S) (S.2 1) a w m more o = (-53 - more, -1) := by unfold spo; rw [if_neg (fun q => h1 q.1)]
    rw [if_pos h1, e, cEn_1]
    exact e130
theorem fPg_locate_30_eq (S : qS) (a w m more : Int32) (hmore : more = 0 ∨ more = 4) : fPg_locate_30 S a w m more = some ((spm (cLong S) (S.2 1) a w m more).1, cEn S (spm (cLong S) (S.2 1) a w m more).2) := by
  have g12 : gA S 1 12 = S.2 1 12 := rfl
  unfold fPg_locate_30
  rw [bnd_e (show fPg_pageOf S a = some (pgOf a, S) from rfl)]
  dsimp only
  rw [bnd_e (fPg_isThere_eq S _ (pgOf a) (reg4 a)), q10]
  by_cases ht : thr (S.2 1) (ushr a 30) (pgOf a)
  · rw [if_pos ht]
    by_cases h2 : ushr a 30 = 2
    · have e : spm (cLong S) (S.2 1) a w m more = spe (cLong S) a w m more (S.2 1 12 + 4 * pgOf a) := by unfold spm; rw [if_pos ht, if_pos h2]
      rw [if_pos h2, e]
      exact fPg_locate_189_eq S a w m more _ hmore
    · rw [if_neg h2]
      by_cases h0 : ushr a 30 = 0
      · have e : spm (cLong S) (S.2 1) a w m more = spo (cLong S) (S.2 1) a w m more (S.2 1 8 + 4 * pgOf a) := by unfold spm; rw [if_pos ht, if_neg h2, if_pos h0]
        rw [if_neg (not_not_intro h0), e]
        exact fPg_locate_100_eq S a w m more _ 8 (by decide) hmore
      · have e : spm (cLong S) (S.2 1) a w m more = spo (cLong S) (S.2 1) a w m more (S.2 1 10 + 4 * pgOf a) := by unfold spm; rw [if_pos ht, if_neg h2, if_neg h0]
        rw [if_pos h0, e]
        exact fPg_locate_100_eq S a w m more _ 10 (by decide) hmore
  · have e : spm (cLong S) (S.2 1) a w m more = (-51 - more, -1) := by unfold spm; rw [if_neg ht]
    rw [if_neg ht, e, cEn_1]
    rcases hmore with rfl | rfl <;> rfl
/-- the class's locate -/
theorem fPg_locate_eq (S : qS) (a w m : Int32) : fPg_locate S a w m = some ((spl (cLong S) (S.2 1) a w m).1, pI S 4 (spl (cLong S) (S.2 1) a w m).2) := by
  have g56 : gA (pI S 4 (-1)) 1 56 = S.2 1 56 := rfl
  have hc : ∀ e : Int32, cEn (pI S 4 (-1)) e = pI S 4 e := fun e => by
    unfold cEn
    by_cases h : e = -1
    · rw [if_pos h, h]
    · rw [if_neg h, pI_pI]
  unfold fPg_locate
  rw [g56]
  by_cases h : S.2 1 56 = 0
  · have e : spl (cLong S) (S.2 1) a w m = (a &&& 2047, -1) := by unfold spl; rw [if_pos h]
    rw [if_neg (not_not_intro h), e]
  · rw [if_pos h]
    by_cases hw : w = 0
    · have e : spl (cLong S) (S.2 1) a w m = spm (cLong S) (S.2 1) a w m 0 := by unfold spl; rw [if_neg h, if_pos hw]
      rw [if_pos hw, fPg_locate_30_eq (pI S 4 (-1)) a w m 0 (Or.inl rfl), hc, e]
      rfl
    · have e : spl (cLong S) (S.2 1) a w m = spm (cLong S) (S.2 1) a w m 4 := by unfold spl; rw [if_neg h, if_neg hw]
      rw [if_neg hw, fPg_locate_30_eq (pI S 4 (-1)) a w m 4 (Or.inr rfl), hc, e]
      rfl
