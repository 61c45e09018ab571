/-! Pure part 37: the law's loop (rows for all ids). -/
theorem in_at {i L d : Nat} (hL : L ≤ 2048) (h : 4 * i + 4 ≤ L) (hd : d < 4) : inb (nI (4 * i) + nI d) L = true := by
  rw [nI_add]
  exact inb_nI (by omega) (by omega)
theorem lgz {x : Int64} {v : Int32} (h : x = v.toInt64) : lg_cmp x v.toInt64 = 0 := (lg0 _ _).mpr h
theorem QO_0 : QO qS0 qS0 := by
  refine ⟨fun i hi => ?_, fun i hi => rfl, fun i hi => rfl, rfl, rfl, rfl, rfl, rfl⟩
  show (0 : Int32) = 0 &&& 255
  decide
theorem lim {L i : Nat} (hL : L ≤ 2048) (hi : 4 * i ≤ L) : (Int32.ofNat L - 4) < nI (4 * i) ↔ L < 4 * i + 4 := by
  have e1 : (Int32.ofNat L).toInt = L := nI_toInt (n := L) (by omega)
  have e4 : (4 : Int32).toInt = 4 := by decide
  rw [Int32.lt_iff_toInt_lt, Int32.toInt_sub, e1, e4, nI_toInt (by omega), Int.bmod_def]
  omega
