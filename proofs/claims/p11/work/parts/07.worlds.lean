/-! The two worlds: the class's cells, and the reference's, out of a state. -/
def cW (h : Nat → Nat) (K : Nat → ClassId) (S : qS) : va_W :=
  [(h 0, .inr (6, [.ref (h 1), .ref (h 3), .ref (h 4), .ref (h 5), .ref (h 11), .ref (h 15), .ref (h 16), .int (S.1 0), .int (S.1 1), .int (S.1 2), .int (S.1 3)])),
   (h 1, .inr (5, [.ref (h 2)])),
   (h 2, .inl (K 0, 2048, .inl (S.2 0))),
   (h 3, .inl (K 1, 57, .inl (S.2 1))),
   (h 4, .inr (3, [.ref (h 1), .ref (h 3), .int (S.1 4)])),
   (h 5, .inr (1, [.ref (h 1), .ref (h 4), .ref (h 3), .ref (h 6), .ref (h 7), .ref (h 8), .ref (h 9), .ref (h 10), .int (S.1 5), .int (S.1 6), .int (S.1 7), .int (S.1 8), .int (S.1 9), .int (S.1 10)])),
   (h 6, .inl (K 2, 16, .inl (S.2 2))),
   (h 7, .inl (K 3, 16, .inl (S.2 3))),
   (h 8, .inl (K 4, 4, .inl (S.2 4))),
   (h 9, .inl (K 5, 4, .inl (S.2 5))),
   (h 10, .inl (K 6, 4, .inl (S.2 6))),
   (h 11, .inl (K 7, 3, .inr (.inr (.inr (.inr (va_up (va_up (va_up (fun _ => none) 0 (some (h 12))) 1 (some (h 13))) 2 (some (h 14)))))))),
   (h 12, .inr (2, [.int (S.1 11), .int (S.1 12), .int (S.1 13), .int (S.1 14)])),
   (h 13, .inr (2, [.int (S.1 15), .int (S.1 16), .int (S.1 17), .int (S.1 18)])),
   (h 14, .inr (2, [.int (S.1 19), .int (S.1 20), .int (S.1 21), .int (S.1 22)])),
   (h 15, .inr (4, [.ref (h 5)])),
   (h 16, .inr (0, [.ref (h 5), .ref (h 12), .ref (h 13), .ref (h 14)]))]
def cT (K : Nat → ClassId) : List (ClassId × FieldType) := [(K 0, .byte), (K 1, .int), (K 2, .int), (K 3, .int), (K 4, .int), (K 5, .int), (K 6, .int), (K 7, .object "QuadMode$Operand")]
def mW (h : Nat → Nat) (K : Nat → ClassId) (S : qS) : va_W :=
  [(h 0, .inr (7, [.int (S.1 0), .ref (h 1), .ref (h 2), .ref (h 3), .int (S.1 1), .int (S.1 2), .int (S.1 3), .int (S.1 4), .int (S.1 5), .ref (h 4), .ref (h 5), .int (S.1 6), .int (S.1 7), .int (S.1 8), .int (S.1 9), .int (S.1 10), .ref (h 6), .ref (h 7), .ref (h 8), .int (S.1 11), .ref (h 9), .ref (h 10)])),
   (h 1, .inl (K 0, 2048, .inl (S.2 0))),
   (h 2, .inl (K 1, 16, .inl (S.2 1))),
   (h 3, .inl (K 2, 57, .inl (S.2 2))),
   (h 4, .inl (K 3, 16, .inl (S.2 3))),
   (h 5, .inl (K 4, 4, .inl (S.2 4))),
   (h 6, .inl (K 5, 3, .inl (S.2 5))),
   (h 7, .inl (K 6, 3, .inl (S.2 6))),
   (h 8, .inl (K 7, 3, .inl (S.2 7))),
   (h 9, .inl (K 8, 4, .inl (S.2 8))),
   (h 10, .inl (K 9, 4, .inl (S.2 9)))]
def mT (K : Nat → ClassId) : List (ClassId × FieldType) := [(K 0, .int), (K 1, .int), (K 2, .int), (K 3, .int), (K 4, .int), (K 5, .int), (K 6, .int), (K 7, .int), (K 8, .int), (K 9, .int)]
/-- an operand's cell, by its number -/
theorem cW_op {h : Nat → Nat} {K : Nat → ClassId} {S : qS} (k : Nat) (hk : k < 3) : (cW h K S)[12 + k]? = some (h (12 + k), .inr (2, [.int (S.1 (11 + 4 * k)), .int (S.1 (12 + 4 * k)), .int (S.1 (13 + 4 * k)), .int (S.1 (14 + 4 * k))])) := by
  rcases (show k = 0 ∨ k = 1 ∨ k = 2 by omega) with rfl | rfl | rfl <;> rfl
theorem cW_op0 {h : Nat → Nat} {K : Nat → ClassId} {S : qS} (k : Nat) (hk : k < 3) (v : Int32) : (cW h K S).set (12 + k) (h (12 + k), .inr (2, [.int v, .int (S.1 (12 + 4 * k)), .int (S.1 (13 + 4 * k)), .int (S.1 (14 + 4 * k))])) = cW h K (pI S (11 + 4 * k) v) := by
  rcases (show k = 0 ∨ k = 1 ∨ k = 2 by omega) with rfl | rfl | rfl <;> rfl
theorem cW_op1 {h : Nat → Nat} {K : Nat → ClassId} {S : qS} (k : Nat) (hk : k < 3) (v : Int32) : (cW h K S).set (12 + k) (h (12 + k), .inr (2, [.int (S.1 (11 + 4 * k)), .int v, .int (S.1 (13 + 4 * k)), .int (S.1 (14 + 4 * k))])) = cW h K (pI S (12 + 4 * k) v) := by
  rcases (show k = 0 ∨ k = 1 ∨ k = 2 by omega) with rfl | rfl | rfl <;> rfl
theorem cW_op2 {h : Nat → Nat} {K : Nat → ClassId} {S : qS} (k : Nat) (hk : k < 3) (v : Int32) : (cW h K S).set (12 + k) (h (12 + k), .inr (2, [.int (S.1 (11 + 4 * k)), .int (S.1 (12 + 4 * k)), .int v, .int (S.1 (14 + 4 * k))])) = cW h K (pI S (13 + 4 * k) v) := by
  rcases (show k = 0 ∨ k = 1 ∨ k = 2 by omega) with rfl | rfl | rfl <;> rfl
theorem cW_op3 {h : Nat → Nat} {K : Nat → ClassId} {S : qS} (k : Nat) (hk : k < 3) (v : Int32) : (cW h K S).set (12 + k) (h (12 + k), .inr (2, [.int (S.1 (11 + 4 * k)), .int (S.1 (12 + 4 * k)), .int (S.1 (13 + 4 * k)), .int v])) = cW h K (pI S (14 + 4 * k) v) := by
  rcases (show k = 0 ∨ k = 1 ∨ k = 2 by omega) with rfl | rfl | rfl <;> rfl
theorem inb_lt {i : Int32} {n : Nat} (h : inb i n = true) : i.toNatClampNeg < n := Nat.not_le.mp fun q => inb_in h (Or.inr q)
section QO
variable {p : Program} {l : Launch} {e : Env} {R : Room} {s : State} {m : MethodId} {args : Array Value} {below : List Frame} {meth : Method} {c : Code} {H : Heap} {locs : List Loc} {cells slots : Nat} {Q : State → Prop}
variable {cc : ByteArray} {nL : Nat} {ret : Option FieldType} {own : String} {D : va_G} {A : Nat → Prop} {S : qS} {pc : Nat} {ls : Array Slot} {rest : List Value} {ad : Nat → Nat} {h : Nat → Nat} {K : Nat → ClassId}
theorem q_aald {n : Nat} (C : qC p s m args meth c cc nL ret own ad) (G : qG D qCl (cT K) A s (cW h K S) H locs) {i : Int32} (hin : inb i 3 = true) (hn : 12 + i.toNatClampNeg = n) (hdg : decode cc pc = .ok (.aaload, 1))
    (kk : W p l e R s m args below meth c H locs cells slots Q (F0 m (pc + 1) ls (.ref (h n) :: rest))) : W p l e R s m args below meth c H locs cells slots Q (F0 m pc ls (.int i :: .ref (h 11) :: rest)) := by
  subst hn
  have hf : ∀ k, k < 3 → (va_up (va_up (va_up (fun _ => none) 0 (some (h 12))) 1 (some (h 13))) 2 (some (h 14)) : Nat → Option Nat) k = some (h (12 + k)) := fun k hk => by
    rcases (show k = 0 ∨ k = 1 ∨ k = 2 by omega) with rfl | rfl | rfl <;> rfl
  refine va_aldq (C := "QuadMode$Operand") C.1 C.2.1 G.1 G.2.1 11 7 rfl rfl (inb_in hin) hdg ?_
  rw [hf _ (inb_lt hin)]
  exact kk
end QO
