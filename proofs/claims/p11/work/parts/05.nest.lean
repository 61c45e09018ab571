/-! Words on private fields of nest mates, and the texts of the shapes: they go from call to call. -/
def qnw : List Cond := [Cond.fieldLinkNest "QuadMode$Core" 97 "QuadMode$Pages" "entry" "I" "QuadMode", Cond.fieldLinkNest "QuadMode$Codes" 108 "QuadMode$Core" "status" "I" "QuadMode", Cond.fieldLinkNest "QuadMode" 102 "QuadMode$Core" "status" "I" "QuadMode", Cond.fieldLinkNest "QuadMode" 157 "QuadMode$Core" "fault" "I" "QuadMode", Cond.fieldLinkNest "QuadMode" 177 "QuadMode$Core" "faultAddress" "I" "QuadMode", Cond.fieldLinkNest "QuadMode" 180 "QuadMode$Core" "faultFlag" "I" "QuadMode", Cond.fieldLinkNest "QuadMode$Codes" 149 "QuadMode$Core" "trap" "I" "QuadMode", Cond.fieldLinkNest "QuadMode" 199 "QuadMode$Core" "trap" "I" "QuadMode", Cond.fieldLinkNest "QuadMode$Specifiers" 21 "QuadMode$Operand" "size" "I" "QuadMode", Cond.fieldLinkNest "QuadMode$Codes" 162 "QuadMode$Operand" "size" "I" "QuadMode", Cond.fieldLinkNest "QuadMode$Specifiers" 15 "QuadMode$Operand" "register" "I" "QuadMode", Cond.fieldLinkNest "QuadMode$Codes" 156 "QuadMode$Operand" "register" "I" "QuadMode", Cond.fieldLinkNest "QuadMode$Specifiers" 52 "QuadMode$Operand" "address" "I" "QuadMode", Cond.fieldLinkNest "QuadMode$Codes" 159 "QuadMode$Operand" "address" "I" "QuadMode", Cond.fieldLinkNest "QuadMode$Specifiers" 30 "QuadMode$Operand" "value" "I" "QuadMode", Cond.fieldLinkNest "QuadMode$Codes" 96 "QuadMode$Operand" "value" "I" "QuadMode", Cond.fieldLinkNest "QuadMode" 196 "QuadMode$Operand" "value" "I" "QuadMode"]
theorem qnw_f : ∀ w ∈ qnw, ∃ (a : String) (i : Nat) (b n d h : String), w = Cond.fieldLinkNest a i b n d h := fun w h => by
  simp only [qnw, List.mem_cons, List.not_mem_nil, or_false] at h
  rcases h with rfl | rfl | rfl | rfl | rfl | rfl | rfl | rfl | rfl | rfl | rfl | rfl | rfl | rfl | rfl | rfl | rfl <;> exact ⟨_, _, _, _, _, _, rfl⟩
theorem qnw_t : ∀ w ∈ qnw, w ∈ lw_tbl := fun w h => by
  simp only [qnw, List.mem_cons, List.not_mem_nil, or_false] at h
  rcases h with rfl | rfl | rfl | rfl | rfl | rfl | rfl | rfl | rfl | rfl | rfl | rfl | rfl | rfl | rfl | rfl | rfl
  · exact List.mem_of_getElem? (i := 112) (by decide +kernel)
  · exact List.mem_of_getElem? (i := 137) (by decide +kernel)
  · exact List.mem_of_getElem? (i := 138) (by decide +kernel)
  · exact List.mem_of_getElem? (i := 140) (by decide +kernel)
  · exact List.mem_of_getElem? (i := 141) (by decide +kernel)
  · exact List.mem_of_getElem? (i := 143) (by decide +kernel)
  · exact List.mem_of_getElem? (i := 145) (by decide +kernel)
  · exact List.mem_of_getElem? (i := 147) (by decide +kernel)
  · exact List.mem_of_getElem? (i := 184) (by decide +kernel)
  · exact List.mem_of_getElem? (i := 185) (by decide +kernel)
  · exact List.mem_of_getElem? (i := 186) (by decide +kernel)
  · exact List.mem_of_getElem? (i := 187) (by decide +kernel)
  · exact List.mem_of_getElem? (i := 188) (by decide +kernel)
  · exact List.mem_of_getElem? (i := 189) (by decide +kernel)
  · exact List.mem_of_getElem? (i := 190) (by decide +kernel)
  · exact List.mem_of_getElem? (i := 191) (by decide +kernel)
  · exact List.mem_of_getElem? (i := 192) (by decide +kernel)
def qsk : Nat → Nat := fun j => [31, 33, 35, 37, 39, 41, 43, 45, 47, 49, 51, 53, 55, 57, 59, 61, 63, 65, 67, 69, 71, 73, 75, 77].getD j 0
def qst : Nat → String := fun j => ["R", "RR", "RW", "W", "rw", "rW", "Rw", "\x72", "rr", "M", "RM", "RRW", "rRW", "AW", "aW", "A", "a", "Rd", "Md", "RMd", "Ra", "rRa", "d", ""].getD j ""
def qN (ad : Nat → Nat) (U : State) : Prop := (∀ w ∈ qnw, va_Nw w U) ∧ ∀ j, j < 24 → vk_R "QuadMode$Codes" (qsk j) (qst j) (ad j) U
theorem qN_warm {ad : Nat → Nat} {s U : State} (hW : s.WarmedH U.vm) (h : qN ad s) : qN ad U := ⟨fun w hw => by
  obtain ⟨a, i, b, n, d, h9, rfl⟩ := qnw_f w hw
  exact va_Nw.warmF hW (h.1 _ hw), fun j hj => vk_R.warm hW (h.2 j hj)⟩
theorem qN_same {ad : Nat → Nat} {u U : State} (hv : u.vm = U.vm) (h : qN ad u) : qN ad U := ⟨fun w hw => by
  obtain ⟨a, i, b, n, d, h9, rfl⟩ := qnw_f w hw
  exact va_Nw.same rfl hv (h.1 _ hw), fun j hj => vk_R.same hv.symm (h.2 j hj)⟩
