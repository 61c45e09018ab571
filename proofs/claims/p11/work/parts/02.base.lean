/-! The base of certified decompiling: a method's pure function answers 'none' where a check fails; where it answers 'some', the machine does as it says. -/
/-- the words that stand: good ones of the law's tables -/
def qw : List Cond := lw_tbl.filter goodWord
theorem qw_in {w : Cond} (n : Nat) (h : lw_tbl[n]? = some w) (hg : goodWord w = true) : w ∈ qw := List.mem_filter.mpr ⟨List.mem_of_getElem? h, hg⟩
theorem qw_of {w : Cond} (h : w ∈ qw) : w ∈ lw_tbl := (List.mem_filter.mp h).1
theorem qw_g {w : Cond} (h : w ∈ qw) : (w.onTables && w.keeps) = true ∨ ∃ ty, w = .arrayClass ty := good_of_word (List.mem_filter.mp h).2
theorem qw_gc {c : Cond} (h : c ∈ qw) : GoodIn qw (c :: qw) := fun w hw => by
  rcases List.mem_cons.mp hw with rfl | hw
  · exact ⟨h, qw_g h⟩
  · exact ⟨hw, qw_g hw⟩
theorem qw_gl {ls : List Cond} {ws : List Cond} (h : ∀ w ∈ ls, w ∈ qw) (hw : GoodIn qw ws) : GoodIn qw (ls ++ ws) := fun w hm => by
  rcases List.mem_append.mp hm with hm | hm
  · exact ⟨h w hm, qw_g (h w hm)⟩
  · exact hw w hm
/-- a state: the numbers of the fields, and of the arrays -/
abbrev qS : Type := (Nat → Int32) × (Nat → Nat → Int32)
def pI (S : qS) (k : Nat) (v : Int32) : qS := (fun j => if j = k then v else S.1 j, S.2)
def gA (S : qS) (a : Nat) (i : Int32) : Int32 := S.2 a i.toNatClampNeg
def pA (S : qS) (a : Nat) (i : Int32) (v : Int32) : qS := (S.1, fun b => if b = a then upd (S.2 b) i.toNatClampNeg v else S.2 b)
def cpA (S : qS) (a : Nat) (sp : Int32) (b : Nat) (dp n : Int32) : qS := (S.1, fun x => if x = b then va_cpy (S.2 a) (S.2 x) sp.toNatClampNeg dp.toNatClampNeg n.toNatClampNeg else S.2 x)
def ushr (x y : Int32) : Int32 := (x.toUInt32 >>> (y.toUInt32 &&& Int32.toUInt32 31)).toInt32
def ushrL (x : Int64) (y : Int32) : Int64 := (x.toUInt64 >>> (y.toInt64.toUInt64 &&& Int64.toUInt64 63)).toInt64
def inb (i : Int32) (n : Nat) : Bool := decide (0 ≤ i.toInt) && decide (i.toInt < n)
theorem inb_in {i : Int32} {n : Nat} (h : inb i n = true) : vp_in i n := by
  rw [inb, Bool.and_eq_true, decide_eq_true_eq, decide_eq_true_eq] at h
  exact vp_in_iff.mpr h
def isB (v : Int32) : Bool := v == 0 || v == 1
theorem isB_n {v : Int32} (h : isB v = true) : narrow .boolean (.int v) = .int v := by
  rw [isB, Bool.or_eq_true, beq_iff_eq, beq_iff_eq] at h
  rcases h with rfl | rfl <;> rfl
def chk {α : Type} (b : Bool) (x : Option α) : Option α := if b = true then x else none
theorem chk_s {α : Type} {b : Bool} {x : Option α} {y : α} (h : chk b x = some y) : b = true ∧ x = some y := by
  unfold chk at h
  by_cases c : b = true
  · rw [if_pos c] at h; exact ⟨c, h⟩
  · rw [if_neg c] at h; cases h
theorem bnd_s {α β : Type} {x : Option α} {f : α → Option β} {y : β} (h : x.bind f = some y) : ∃ a, x = some a ∧ f a = some y := Option.bind_eq_some_iff.mp h
theorem if_t {α : Type} {c : Prop} [Decidable c] {x y z : α} (hc : c) (h : (if c then x else y) = z) : x = z := by rw [if_pos hc] at h; exact h
theorem if_f {α : Type} {c : Prop} [Decidable c] {x y z : α} (hc : ¬ c) (h : (if c then x else y) = z) : y = z := by rw [if_neg hc] at h; exact h
