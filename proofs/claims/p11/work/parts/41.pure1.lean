/-! Pure part 1: closed forms of the leaves. -/
theorem chk_t {α : Type} {b : Bool} {x : Option α} (h : b = true) : chk b x = x := by unfold chk; rw [if_pos h]
theorem bnd_e {α β : Type} {x : Option α} {f : α → Option β} {a : α} (h : x = some a) : x.bind f = f a := by rw [h]; rfl
theorem inb_nI {j n : Nat} (h : j < n) (hn : n < 2 ^ 31) : inb (nI j) n = true := by
  unfold inb
  rw [nI_toInt (by omega), Bool.and_eq_true, decide_eq_true_eq, decide_eq_true_eq]
  omega
theorem inb_m (x : Int32) {m : Int32} (k : Nat) (hm : m.toBitVec.toNat = 2 ^ k - 1) {n : Nat} (hk : 2 ^ k ≤ n) (hn : n < 2 ^ 31) : inb (x &&& m) n = true := by
  obtain ⟨j, hj, e⟩ := pk_andE x k hm
  rw [e]
  exact inb_nI (by omega) hn
theorem inb_2047 (x : Int32) : inb (x &&& 2047) 2048 = true := inb_m x 11 (by decide) (by decide) (by decide)
theorem inb_15 (x : Int32) : inb (x &&& 15) 16 = true := inb_m x 4 (by decide) (by decide) (by decide)
theorem inb_3 (x : Int32) : inb (x &&& 3) 57 = true := inb_m x 2 (by decide) (by decide) (by decide)
theorem isB_0 : isB 0 = true := by decide
theorem isB_1 : isB 1 = true := by decide
/-- the class -/
def cMode (S : qS) : Int32 := (ushr (S.1 6) 24) &&& 3
theorem cMode_in (S : qS) : inb (cMode S) 57 = true := inb_3 _
theorem fCo_mode_eq (S : qS) : fCo_mode S = some (cMode S, S) := rfl
def cGet (S : qS) (r : Int32) : Int32 := if r = 14 then gA S 1 (cMode S) else gA S 2 (r &&& 15)
theorem fCo_get_eq (S : qS) (r : Int32) : fCo_get S r = some (cGet S r, S) := by
  unfold fCo_get cGet
  by_cases h : r = 14
  · rw [if_neg (not_not_intro h), if_pos h, fCo_mode_eq]
    show chk (inb (cMode S) 57) _ = _
    rw [chk_t (cMode_in S)]; rfl
  · rw [if_pos h, if_neg h, chk_t (inb_15 r)]; rfl
def cPut (S : qS) (r v : Int32) : qS := if r = 14 then pA S 1 (cMode S) v else pA S 2 (r &&& 15) v
theorem fCo_put_eq (S : qS) (r v : Int32) : fCo_put S r v = some (cPut S r v) := by
  unfold fCo_put cPut
  by_cases h : r = 14
  · rw [if_neg (not_not_intro h), if_pos h, fCo_mode_eq]
    show chk (inb (cMode S) 57) _ = _
    rw [chk_t (cMode_in S)]; rfl
  · rw [if_pos h, if_neg h, chk_t (inb_15 r)]; rfl
def cB (S : qS) (a : Int32) : Int32 := gA S 0 (a &&& 2047)
theorem fSt_byteAt_eq (S : qS) (a : Int32) : fSt_byteAt S a = some (cB S a &&& 255, S) := by
  unfold fSt_byteAt; rw [chk_t (inb_2047 a)]; rfl
theorem fSt_putByte_eq (S : qS) (a v : Int32) : fSt_putByte S a v = some (pA S 0 (a &&& 2047) v.toInt8.toInt32) := by
  unfold fSt_putByte; rw [chk_t (inb_2047 a), pk_vb]
def cLong (S : qS) (a : Int32) : Int32 := (((cB S a &&& 255) ||| ((cB S (a + 1) &&& 255) <<< ((8 : Int32) &&& 31))) ||| ((cB S (a + 2) &&& 255) <<< ((16 : Int32) &&& 31))) ||| (cB S (a + 3) <<< ((24 : Int32) &&& 31))
theorem fSt_longAt_eq (S : qS) (a : Int32) : fSt_longAt S a = some (cLong S a, S) := by
  unfold fSt_longAt
  rw [chk_t (inb_2047 _), chk_t (inb_2047 _), chk_t (inb_2047 _), chk_t (inb_2047 _)]; rfl
theorem fX_look_eq (S : qS) (a : Int32) : fX_look S a = some (cLong S a, S) := by
  unfold fX_look; rw [fSt_longAt_eq]; rfl
def bI (b : Prop) [Decidable b] : Int32 := if b then 1 else 0
theorem bI_t {b : Prop} [Decidable b] (h : b) : bI b = 1 := if_pos h
theorem bI_f {b : Prop} [Decidable b] (h : ¬ b) : bI b = 0 := if_neg h
/-- inner registers -/
def isIn (k : Int32) : Prop := (0 ≤ k ∧ k < 4) ∨ (8 ≤ k ∧ k ≤ 13) ∨ k = 17 ∨ k = 56
theorem isIn_inb {k : Int32} (h : isIn k) : inb k 57 = true := by
  unfold inb
  rw [Bool.and_eq_true, decide_eq_true_eq, decide_eq_true_eq]
  rcases h with ⟨h1, h2⟩ | ⟨h1, h2⟩ | rfl | rfl
  · rw [Int32.le_iff_toInt_le] at h1
    rw [Int32.lt_iff_toInt_lt] at h2
    have e0 : (0 : Int32).toInt = 0 := by decide
    have e4 : (4 : Int32).toInt = 4 := by decide
    omega
  · rw [Int32.le_iff_toInt_le] at h1 h2
    have e0 : (8 : Int32).toInt = 8 := by decide
    have e4 : (13 : Int32).toInt = 13 := by decide
    omega
  · decide
  · decide
theorem fCo_hasInner_eq (S : qS) (k : Int32) : ∃ r, fCo_hasInner S k = some (r, S) ∧ ((r = 1 ∧ isIn k) ∨ (r = 0 ∧ ¬ isIn k)) := by
  have e1 : fCo_hasInner_38 S 1 = some (1, S) := rfl
  have e0 : fCo_hasInner_38 S 0 = some (0, S) := rfl
  have h21 : ¬ (0 ≤ k ∧ k < 4) → ¬ (8 ≤ k ∧ k ≤ 13) → ∃ r, fCo_hasInner_21 S k = some (r, S) ∧ ((r = 1 ∧ isIn k) ∨ (r = 0 ∧ ¬ isIn k)) := by
    intro n1 n2
    unfold fCo_hasInner_21
    by_cases c1 : k = 17
    · rw [if_pos c1]; exact ⟨1, rfl, Or.inl ⟨rfl, Or.inr (Or.inr (Or.inl c1))⟩⟩
    · rw [if_neg c1]
      by_cases c2 : k = 56
      · rw [if_neg (not_not_intro c2)]; exact ⟨1, rfl, Or.inl ⟨rfl, Or.inr (Or.inr (Or.inr c2))⟩⟩
      · rw [if_pos c2]; exact ⟨0, rfl, Or.inr ⟨rfl, fun h => by rcases h with h | h | h | h; exact n1 h; exact n2 h; exact c1 h; exact c2 h⟩⟩
  have h9 : ¬ (0 ≤ k ∧ k < 4) → ∃ r, fCo_hasInner_9 S k = some (r, S) ∧ ((r = 1 ∧ isIn k) ∨ (r = 0 ∧ ¬ isIn k)) := by
    intro n1
    unfold fCo_hasInner_9
    by_cases c1 : k < 8
    · rw [if_pos c1]
      refine h21 n1 (fun h => ?_)
      rw [Int32.lt_iff_toInt_lt] at c1
      have h1 := Int32.le_iff_toInt_le.mp h.1
      omega
    · rw [if_neg c1]
      have c1' : 8 ≤ k := by
        rw [Int32.lt_iff_toInt_lt] at c1
        rw [Int32.le_iff_toInt_le]; omega
      by_cases c2 : k ≤ 13
      · rw [if_pos c2]; exact ⟨1, rfl, Or.inl ⟨rfl, Or.inr (Or.inl ⟨c1', c2⟩)⟩⟩
      · rw [if_neg c2]; exact h21 n1 (fun h => c2 h.2)
  unfold fCo_hasInner
  by_cases c1 : k < 0
  · rw [if_pos c1]
    refine h9 (fun h => ?_)
    rw [Int32.lt_iff_toInt_lt] at c1
    have h1 := Int32.le_iff_toInt_le.mp h.1
    omega
  · rw [if_neg c1]
    have c1' : 0 ≤ k := by
      rw [Int32.lt_iff_toInt_lt] at c1
      rw [Int32.le_iff_toInt_le]; omega
    by_cases c2 : k < 4
    · rw [if_pos c2]; exact ⟨1, rfl, Or.inl ⟨rfl, Or.inl ⟨c1', c2⟩⟩⟩
    · rw [if_neg c2]; exact h9 (fun h => c2 h.2)
theorem fCo_getInner_eq (S : qS) (k : Int32) (hk : isIn k) : fCo_getInner S k = some (gA S 1 k, S) := by
  obtain ⟨r, e, h⟩ := fCo_hasInner_eq S k
  rcases h with ⟨rfl, -⟩ | ⟨-, h⟩
  · unfold fCo_getInner
    rw [bnd_e e]
    dsimp only
    rw [if_neg (by decide), chk_t (isIn_inb hk)]; rfl
  · exact absurd hk h
theorem fCo_putInner_eq (S : qS) (k v : Int32) (hk : isIn k) : fCo_putInner S k v = some (pA S 1 k v) := by
  obtain ⟨r, e, h⟩ := fCo_hasInner_eq S k
  rcases h with ⟨rfl, -⟩ | ⟨-, h⟩
  · unfold fCo_putInner
    rw [bnd_e e]
    dsimp only
    rw [if_neg (by decide), chk_t (isIn_inb hk)]; rfl
  · exact absurd hk h
