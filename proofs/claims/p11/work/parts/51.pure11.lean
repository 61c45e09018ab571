/-! Pure part 11: bytes that are written. -/
theorem b_byte (x : Int32) {i : Nat} (hi : i < 8) : bt x.toInt8.toInt32 i = bt x i := by
  unfold bt
  rw [Int8.toBitVec_toInt32, Int32.toBitVec_toInt8, BitVec.getLsbD_signExtend, if_pos hi, BitVec.getLsbD_signExtend, if_pos (show i < 32 by omega), decide_eq_true (show i < 32 by omega), decide_eq_true hi]
  rfl
theorem byte_rel (x : Int32) : x.toInt8.toInt32 &&& 255 = x &&& 255 := by
  refine b_ext (fun i hi => ?_)
  rw [b_and, b_and, b_255]
  rcases Nat.lt_or_ge i 8 with h | h
  · rw [b_byte x h]
  · rw [decide_eq_false (by omega), Bool.and_false, Bool.and_false]
theorem sh_255 (n : Nat) (hn : n + 8 ≤ 32) (x : Int32) : (x >>> (nI n &&& 31)) &&& 255 = ushr x (nI n) &&& 255 := by
  refine b_ext (fun i hi => ?_)
  rw [b_and, b_and, b_255, u_bt n (by omega), b_sshr n (by omega) x hi]
  rcases Nat.lt_or_ge i 8 with h | h
  · rw [if_pos (by omega)]
  · rw [decide_eq_false (by omega), Bool.and_false, Bool.and_false]
theorem or4 (b : Int32) : ((b &&& 255) ||| 4) &&& 255 = (b &&& 255) ||| 4 := by
  have h4 : ∀ i : Nat, 8 ≤ i → bt 4 i = false := fun i h => by
    rcases Nat.lt_or_ge i 32 with h2 | h2
    · exact (by decide +kernel : ∀ i, i < 32 → 8 ≤ i → bt 4 i = false) i h2 h
    · exact b_big h2
  refine b_ext (fun i hi => ?_)
  rw [b_and, b_or, b_and, b_255]
  rcases Nat.lt_or_ge i 8 with h | h
  · rw [decide_eq_true h, Bool.and_true, Bool.and_true]
  · rw [decide_eq_false (by omega), Bool.and_false, Bool.and_false, h4 i h]; rfl
theorem RR_by {p : Int32 × Int32} {S T : qS} (h : RR p S T) (r : Int32) {v v' : Int32} (hv : v' = v &&& 255) : RR p (pA S 0 r v) (pA T 0 r v') := by
  obtain ⟨⟨h1, h2⟩, hl⟩ := h
  refine ⟨⟨fun i hi => ?_, h2⟩, hl⟩
  show upd (T.2 0) _ v' i = upd (S.2 0) _ v i &&& 255
  unfold upd
  by_cases q : i = r.toNatClampNeg
  · rw [if_pos q, if_pos q]; exact hv
  · rw [if_neg q, if_neg q]; exact h1 i hi
theorem am_id {r : Int32} (hin : inb r 2048 = true) : r &&& 2047 = r := by
  have h2 : vN r < 2048 := by
    unfold inb at hin
    rw [Bool.and_eq_true, decide_eq_true_eq, decide_eq_true_eq, v_int] at hin
    have := vN_lt r
    omega
  rw [am_n]
  show nI (vN r % 2048) = r
  rw [Nat.mod_eq_of_lt h2, nI_vN]
