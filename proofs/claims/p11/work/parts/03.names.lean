def qR_Cd : String := "QuadMode$Codes"
def qT_Cd : u_T := fun k => match k with
  | 0 => ("QuadMode$Codes", "core", "LQuadMode$Core;", true)
  | 1 => ("QuadMode$Codes", "first", "LQuadMode$Operand;", true)
  | 2 => ("QuadMode$Codes", "second", "LQuadMode$Operand;", true)
  | _ => ("QuadMode$Codes", "third", "LQuadMode$Operand;", true)
def qY_Cd : Nat → FieldType := fun k => match k with
  | 0 => .object "QuadMode$Core"
  | 1 => .object "QuadMode$Operand"
  | 2 => .object "QuadMode$Operand"
  | _ => .object "QuadMode$Operand"
theorem qn_Cd : ∀ a, a < 4 → ∀ b, b < 4 → a ≠ b → (qT_Cd a).2.1 ≠ (qT_Cd b).2.1 := by decide +kernel
theorem qy_Cd : ∀ k, k < 4 → parseFieldDescriptor (qT_Cd k).2.2.1 = some (qY_Cd k) := by decide +kernel
theorem ql_Cd_0 : Cond.laysFinal "QuadMode$Codes" "QuadMode$Codes" "core" "LQuadMode$Core;" ∈ qw := qw_in 222 (by decide +kernel) (by decide +kernel)
theorem ql_Cd_1 : Cond.laysFinal "QuadMode$Codes" "QuadMode$Codes" "first" "LQuadMode$Operand;" ∈ qw := qw_in 224 (by decide +kernel) (by decide +kernel)
theorem ql_Cd_2 : Cond.laysFinal "QuadMode$Codes" "QuadMode$Codes" "second" "LQuadMode$Operand;" ∈ qw := qw_in 226 (by decide +kernel) (by decide +kernel)
theorem ql_Cd_3 : Cond.laysFinal "QuadMode$Codes" "QuadMode$Codes" "third" "LQuadMode$Operand;" ∈ qw := qw_in 228 (by decide +kernel) (by decide +kernel)
theorem qi_Cd : ∀ w ∈ u_ws qR_Cd qT_Cd 4, w ∈ qw := fun w h => by
  obtain ⟨k, hk, rfl⟩ := List.mem_map.mp h
  have hk := List.mem_range.mp hk
  rcases (show k = 0 ∨ k = 1 ∨ k = 2 ∨ k = 3 by omega) with rfl | rfl | rfl | rfl
  · exact ql_Cd_0
  · exact ql_Cd_1
  · exact ql_Cd_2
  · exact ql_Cd_3
def qR_Co : String := "QuadMode$Core"
def qT_Co : u_T := fun k => match k with
  | 0 => ("QuadMode$Core", "storage", "LQuadMode$Storage;", true)
  | 1 => ("QuadMode$Core", "pages", "LQuadMode$Pages;", true)
  | 2 => ("QuadMode$Core", "inner", "[I", true)
  | 3 => ("QuadMode$Core", "registers", "[I", true)
  | 4 => ("QuadMode$Core", "keptRegisters", "[I", true)
  | 5 => ("QuadMode$Core", "keptStacks", "[I", true)
  | 6 => ("QuadMode$Core", "places", "[I", true)
  | 7 => ("QuadMode$Core", "entries", "[I", true)
  | 8 => ("QuadMode$Core", "keptStatus", "I", false)
  | 9 => ("QuadMode$Core", "status", "I", false)
  | 10 => ("QuadMode$Core", "fault", "I", false)
  | 11 => ("QuadMode$Core", "faultAddress", "I", false)
  | 12 => ("QuadMode$Core", "faultFlag", "I", false)
  | _ => ("QuadMode$Core", "trap", "I", false)
def qY_Co : Nat → FieldType := fun k => match k with
  | 0 => .object "QuadMode$Storage"
  | 1 => .object "QuadMode$Pages"
  | 2 => .array .int
  | 3 => .array .int
  | 4 => .array .int
  | 5 => .array .int
  | 6 => .array .int
  | 7 => .array .int
  | 8 => .int
  | 9 => .int
  | 10 => .int
  | 11 => .int
  | 12 => .int
  | _ => .int
theorem qn_Co : ∀ a, a < 14 → ∀ b, b < 14 → a ≠ b → (qT_Co a).2.1 ≠ (qT_Co b).2.1 := by decide +kernel
theorem qy_Co : ∀ k, k < 14 → parseFieldDescriptor (qT_Co k).2.2.1 = some (qY_Co k) := by decide +kernel
theorem ql_Co_0 : Cond.laysFinal "QuadMode$Core" "QuadMode$Core" "storage" "LQuadMode$Storage;" ∈ qw := qw_in 148 (by decide +kernel) (by decide +kernel)
theorem ql_Co_1 : Cond.laysFinal "QuadMode$Core" "QuadMode$Core" "pages" "LQuadMode$Pages;" ∈ qw := qw_in 150 (by decide +kernel) (by decide +kernel)
theorem ql_Co_2 : Cond.laysFinal "QuadMode$Core" "QuadMode$Core" "inner" "[I" ∈ qw := qw_in 152 (by decide +kernel) (by decide +kernel)
theorem ql_Co_3 : Cond.laysFinal "QuadMode$Core" "QuadMode$Core" "registers" "[I" ∈ qw := qw_in 154 (by decide +kernel) (by decide +kernel)
theorem ql_Co_4 : Cond.laysFinal "QuadMode$Core" "QuadMode$Core" "keptRegisters" "[I" ∈ qw := qw_in 156 (by decide +kernel) (by decide +kernel)
theorem ql_Co_5 : Cond.laysFinal "QuadMode$Core" "QuadMode$Core" "keptStacks" "[I" ∈ qw := qw_in 158 (by decide +kernel) (by decide +kernel)
theorem ql_Co_6 : Cond.laysFinal "QuadMode$Core" "QuadMode$Core" "places" "[I" ∈ qw := qw_in 160 (by decide +kernel) (by decide +kernel)
theorem ql_Co_7 : Cond.laysFinal "QuadMode$Core" "QuadMode$Core" "entries" "[I" ∈ qw := qw_in 162 (by decide +kernel) (by decide +kernel)
theorem ql_Co_8 : Cond.lays "QuadMode$Core" "QuadMode$Core" "keptStatus" "I" ∈ qw := qw_in 164 (by decide +kernel) (by decide +kernel)
theorem ql_Co_9 : Cond.lays "QuadMode$Core" "QuadMode$Core" "status" "I" ∈ qw := qw_in 166 (by decide +kernel) (by decide +kernel)
theorem ql_Co_10 : Cond.lays "QuadMode$Core" "QuadMode$Core" "fault" "I" ∈ qw := qw_in 168 (by decide +kernel) (by decide +kernel)
theorem ql_Co_11 : Cond.lays "QuadMode$Core" "QuadMode$Core" "faultAddress" "I" ∈ qw := qw_in 170 (by decide +kernel) (by decide +kernel)
theorem ql_Co_12 : Cond.lays "QuadMode$Core" "QuadMode$Core" "faultFlag" "I" ∈ qw := qw_in 172 (by decide +kernel) (by decide +kernel)
theorem ql_Co_13 : Cond.lays "QuadMode$Core" "QuadMode$Core" "trap" "I" ∈ qw := qw_in 174 (by decide +kernel) (by decide +kernel)
theorem qi_Co : ∀ w ∈ u_ws qR_Co qT_Co 14, w ∈ qw := fun w h => by
  obtain ⟨k, hk, rfl⟩ := List.mem_map.mp h
  have hk := List.mem_range.mp hk
  rcases (show k = 0 ∨ k = 1 ∨ k = 2 ∨ k = 3 ∨ k = 4 ∨ k = 5 ∨ k = 6 ∨ k = 7 ∨ k = 8 ∨ k = 9 ∨ k = 10 ∨ k = 11 ∨ k = 12 ∨ k = 13 by omega) with rfl | rfl | rfl | rfl | rfl | rfl | rfl | rfl | rfl | rfl | rfl | rfl | rfl | rfl
  · exact ql_Co_0
  · exact ql_Co_1
  · exact ql_Co_2
  · exact ql_Co_3
  · exact ql_Co_4
  · exact ql_Co_5
  · exact ql_Co_6
  · exact ql_Co_7
  · exact ql_Co_8
  · exact ql_Co_9
  · exact ql_Co_10
  · exact ql_Co_11
  · exact ql_Co_12
  · exact ql_Co_13
def qR_Op : String := "QuadMode$Operand"
def qT_Op : u_T := fun k => match k with
  | 0 => ("QuadMode$Operand", "size", "I", false)
  | 1 => ("QuadMode$Operand", "register", "I", false)
  | 2 => ("QuadMode$Operand", "address", "I", false)
  | _ => ("QuadMode$Operand", "value", "I", false)
def qY_Op : Nat → FieldType := fun k => match k with
  | 0 => .int
  | 1 => .int
  | 2 => .int
  | _ => .int
theorem qn_Op : ∀ a, a < 4 → ∀ b, b < 4 → a ≠ b → (qT_Op a).2.1 ≠ (qT_Op b).2.1 := by decide +kernel
theorem qy_Op : ∀ k, k < 4 → parseFieldDescriptor (qT_Op k).2.2.1 = some (qY_Op k) := by decide +kernel
theorem ql_Op_0 : Cond.lays "QuadMode$Operand" "QuadMode$Operand" "size" "I" ∈ qw := qw_in 193 (by decide +kernel) (by decide +kernel)
theorem ql_Op_1 : Cond.lays "QuadMode$Operand" "QuadMode$Operand" "register" "I" ∈ qw := qw_in 195 (by decide +kernel) (by decide +kernel)
theorem ql_Op_2 : Cond.lays "QuadMode$Operand" "QuadMode$Operand" "address" "I" ∈ qw := qw_in 197 (by decide +kernel) (by decide +kernel)
theorem ql_Op_3 : Cond.lays "QuadMode$Operand" "QuadMode$Operand" "value" "I" ∈ qw := qw_in 199 (by decide +kernel) (by decide +kernel)
theorem qi_Op : ∀ w ∈ u_ws qR_Op qT_Op 4, w ∈ qw := fun w h => by
  obtain ⟨k, hk, rfl⟩ := List.mem_map.mp h
  have hk := List.mem_range.mp hk
  rcases (show k = 0 ∨ k = 1 ∨ k = 2 ∨ k = 3 by omega) with rfl | rfl | rfl | rfl
  · exact ql_Op_0
  · exact ql_Op_1
  · exact ql_Op_2
  · exact ql_Op_3
def qR_Pg : String := "QuadMode$Pages"
def qT_Pg : u_T := fun k => match k with
  | 0 => ("QuadMode$Pages", "storage", "LQuadMode$Storage;", true)
  | 1 => ("QuadMode$Pages", "inner", "[I", true)
  | _ => ("QuadMode$Pages", "entry", "I", false)
def qY_Pg : Nat → FieldType := fun k => match k with
  | 0 => .object "QuadMode$Storage"
  | 1 => .array .int
  | _ => .int
theorem qn_Pg : ∀ a, a < 3 → ∀ b, b < 3 → a ≠ b → (qT_Pg a).2.1 ≠ (qT_Pg b).2.1 := by decide +kernel
theorem qy_Pg : ∀ k, k < 3 → parseFieldDescriptor (qT_Pg k).2.2.1 = some (qY_Pg k) := by decide +kernel
theorem ql_Pg_0 : Cond.laysFinal "QuadMode$Pages" "QuadMode$Pages" "storage" "LQuadMode$Storage;" ∈ qw := qw_in 113 (by decide +kernel) (by decide +kernel)
theorem ql_Pg_1 : Cond.laysFinal "QuadMode$Pages" "QuadMode$Pages" "inner" "[I" ∈ qw := qw_in 115 (by decide +kernel) (by decide +kernel)
theorem ql_Pg_2 : Cond.lays "QuadMode$Pages" "QuadMode$Pages" "entry" "I" ∈ qw := qw_in 117 (by decide +kernel) (by decide +kernel)
theorem qi_Pg : ∀ w ∈ u_ws qR_Pg qT_Pg 3, w ∈ qw := fun w h => by
  obtain ⟨k, hk, rfl⟩ := List.mem_map.mp h
  have hk := List.mem_range.mp hk
  rcases (show k = 0 ∨ k = 1 ∨ k = 2 by omega) with rfl | rfl | rfl
  · exact ql_Pg_0
  · exact ql_Pg_1
  · exact ql_Pg_2
def qR_Sp : String := "QuadMode$Specifiers"
def qT_Sp : u_T := fun k => match k with
  | _ => ("QuadMode$Specifiers", "core", "LQuadMode$Core;", true)
def qY_Sp : Nat → FieldType := fun k => match k with
  | _ => .object "QuadMode$Core"
theorem qn_Sp : ∀ a, a < 1 → ∀ b, b < 1 → a ≠ b → (qT_Sp a).2.1 ≠ (qT_Sp b).2.1 := by decide +kernel
theorem qy_Sp : ∀ k, k < 1 → parseFieldDescriptor (qT_Sp k).2.2.1 = some (qY_Sp k) := by decide +kernel
theorem ql_Sp_0 : Cond.laysFinal "QuadMode$Specifiers" "QuadMode$Specifiers" "core" "LQuadMode$Core;" ∈ qw := qw_in 209 (by decide +kernel) (by decide +kernel)
theorem qi_Sp : ∀ w ∈ u_ws qR_Sp qT_Sp 1, w ∈ qw := fun w h => by
  obtain ⟨k, hk, rfl⟩ := List.mem_map.mp h
  have hk := List.mem_range.mp hk
  rcases (show k = 0 by omega) with rfl
  · exact ql_Sp_0
def qR_St : String := "QuadMode$Storage"
def qT_St : u_T := fun k => match k with
  | _ => ("QuadMode$Storage", "cells", "[B", true)
def qY_St : Nat → FieldType := fun k => match k with
  | _ => .array .byte
theorem qn_St : ∀ a, a < 1 → ∀ b, b < 1 → a ≠ b → (qT_St a).2.1 ≠ (qT_St b).2.1 := by decide +kernel
theorem qy_St : ∀ k, k < 1 → parseFieldDescriptor (qT_St k).2.2.1 = some (qY_St k) := by decide +kernel
theorem ql_St_0 : Cond.laysFinal "QuadMode$Storage" "QuadMode$Storage" "cells" "[B" ∈ qw := qw_in 99 (by decide +kernel) (by decide +kernel)
theorem qi_St : ∀ w ∈ u_ws qR_St qT_St 1, w ∈ qw := fun w h => by
  obtain ⟨k, hk, rfl⟩ := List.mem_map.mp h
  have hk := List.mem_range.mp hk
  rcases (show k = 0 by omega) with rfl
  · exact ql_St_0
def qR_X : String := "QuadMode"
def qT_X : u_T := fun k => match k with
  | 0 => ("QuadMode", "storage", "LQuadMode$Storage;", true)
  | 1 => ("QuadMode", "inner", "[I", true)
  | 2 => ("QuadMode", "pages", "LQuadMode$Pages;", true)
  | 3 => ("QuadMode", "core", "LQuadMode$Core;", true)
  | 4 => ("QuadMode", "operands", "[LQuadMode$Operand;", true)
  | 5 => ("QuadMode", "specifiers", "LQuadMode$Specifiers;", true)
  | 6 => ("QuadMode", "codes", "LQuadMode$Codes;", true)
  | 7 => ("QuadMode", "stopped", "I", false)
  | 8 => ("QuadMode", "instructions", "I", false)
  | 9 => ("QuadMode", "latest", "I", false)
  | _ => ("QuadMode", "exceptions", "I", false)
def qY_X : Nat → FieldType := fun k => match k with
  | 0 => .object "QuadMode$Storage"
  | 1 => .array .int
  | 2 => .object "QuadMode$Pages"
  | 3 => .object "QuadMode$Core"
  | 4 => .array (.object "QuadMode$Operand")
  | 5 => .object "QuadMode$Specifiers"
  | 6 => .object "QuadMode$Codes"
  | 7 => .int
  | 8 => .int
  | 9 => .int
  | _ => .int
theorem qn_X : ∀ a, a < 11 → ∀ b, b < 11 → a ≠ b → (qT_X a).2.1 ≠ (qT_X b).2.1 := by decide +kernel
theorem qy_X : ∀ k, k < 11 → parseFieldDescriptor (qT_X k).2.2.1 = some (qY_X k) := by decide +kernel
theorem ql_X_0 : Cond.laysFinal "QuadMode" "QuadMode" "storage" "LQuadMode$Storage;" ∈ qw := qw_in 242 (by decide +kernel) (by decide +kernel)
theorem ql_X_1 : Cond.laysFinal "QuadMode" "QuadMode" "inner" "[I" ∈ qw := qw_in 244 (by decide +kernel) (by decide +kernel)
theorem ql_X_2 : Cond.laysFinal "QuadMode" "QuadMode" "pages" "LQuadMode$Pages;" ∈ qw := qw_in 246 (by decide +kernel) (by decide +kernel)
theorem ql_X_3 : Cond.laysFinal "QuadMode" "QuadMode" "core" "LQuadMode$Core;" ∈ qw := qw_in 248 (by decide +kernel) (by decide +kernel)
theorem ql_X_4 : Cond.laysFinal "QuadMode" "QuadMode" "operands" "[LQuadMode$Operand;" ∈ qw := qw_in 250 (by decide +kernel) (by decide +kernel)
theorem ql_X_5 : Cond.laysFinal "QuadMode" "QuadMode" "specifiers" "LQuadMode$Specifiers;" ∈ qw := qw_in 252 (by decide +kernel) (by decide +kernel)
theorem ql_X_6 : Cond.laysFinal "QuadMode" "QuadMode" "codes" "LQuadMode$Codes;" ∈ qw := qw_in 254 (by decide +kernel) (by decide +kernel)
theorem ql_X_7 : Cond.lays "QuadMode" "QuadMode" "stopped" "I" ∈ qw := qw_in 256 (by decide +kernel) (by decide +kernel)
theorem ql_X_8 : Cond.lays "QuadMode" "QuadMode" "instructions" "I" ∈ qw := qw_in 258 (by decide +kernel) (by decide +kernel)
theorem ql_X_9 : Cond.lays "QuadMode" "QuadMode" "latest" "I" ∈ qw := qw_in 260 (by decide +kernel) (by decide +kernel)
theorem ql_X_10 : Cond.lays "QuadMode" "QuadMode" "exceptions" "I" ∈ qw := qw_in 262 (by decide +kernel) (by decide +kernel)
theorem qi_X : ∀ w ∈ u_ws qR_X qT_X 11, w ∈ qw := fun w h => by
  obtain ⟨k, hk, rfl⟩ := List.mem_map.mp h
  have hk := List.mem_range.mp hk
  rcases (show k = 0 ∨ k = 1 ∨ k = 2 ∨ k = 3 ∨ k = 4 ∨ k = 5 ∨ k = 6 ∨ k = 7 ∨ k = 8 ∨ k = 9 ∨ k = 10 by omega) with rfl | rfl | rfl | rfl | rfl | rfl | rfl | rfl | rfl | rfl | rfl
  · exact ql_X_0
  · exact ql_X_1
  · exact ql_X_2
  · exact ql_X_3
  · exact ql_X_4
  · exact ql_X_5
  · exact ql_X_6
  · exact ql_X_7
  · exact ql_X_8
  · exact ql_X_9
  · exact ql_X_10
def qR_M : String := "QuadModeModel"
def qT_M : u_T := fun k => match k with
  | 0 => ("QuadModeModel", "thrown", "I", false)
  | 1 => ("QuadModeModel", "storage", "[I", true)
  | 2 => ("QuadModeModel", "registers", "[I", true)
  | 3 => ("QuadModeModel", "inner", "[I", true)
  | 4 => ("QuadModeModel", "status", "I", false)
  | 5 => ("QuadModeModel", "rest", "I", false)
  | 6 => ("QuadModeModel", "done", "I", false)
  | 7 => ("QuadModeModel", "latest", "I", false)
  | 8 => ("QuadModeModel", "exceptions", "I", false)
  | 9 => ("QuadModeModel", "oldRegisters", "[I", true)
  | 10 => ("QuadModeModel", "oldInner", "[I", true)
  | 11 => ("QuadModeModel", "oldStatus", "I", false)
  | 12 => ("QuadModeModel", "fault", "I", false)
  | 13 => ("QuadModeModel", "wrongAt", "I", false)
  | 14 => ("QuadModeModel", "flag", "I", false)
  | 15 => ("QuadModeModel", "trap", "I", false)
  | 16 => ("QuadModeModel", "value", "[I", true)
  | 17 => ("QuadModeModel", "where", "[I", true)
  | 18 => ("QuadModeModel", "at", "[I", true)
  | 19 => ("QuadModeModel", "entryAt", "I", false)
  | 20 => ("QuadModeModel", "places", "[I", true)
  | _ => ("QuadModeModel", "entries", "[I", true)
def qY_M : Nat → FieldType := fun k => match k with
  | 0 => .int
  | 1 => .array .int
  | 2 => .array .int
  | 3 => .array .int
  | 4 => .int
  | 5 => .int
  | 6 => .int
  | 7 => .int
  | 8 => .int
  | 9 => .array .int
  | 10 => .array .int
  | 11 => .int
  | 12 => .int
  | 13 => .int
  | 14 => .int
  | 15 => .int
  | 16 => .array .int
  | 17 => .array .int
  | 18 => .array .int
  | 19 => .int
  | 20 => .array .int
  | _ => .array .int
theorem qn_M : ∀ a, a < 22 → ∀ b, b < 22 → a ≠ b → (qT_M a).2.1 ≠ (qT_M b).2.1 := by decide +kernel
theorem qy_M : ∀ k, k < 22 → parseFieldDescriptor (qT_M k).2.2.1 = some (qY_M k) := by decide +kernel
theorem ql_M_0 : Cond.lays "QuadModeModel" "QuadModeModel" "thrown" "I" ∈ qw := qw_in 853 (by decide +kernel) (by decide +kernel)
theorem ql_M_1 : Cond.laysFinal "QuadModeModel" "QuadModeModel" "storage" "[I" ∈ qw := qw_in 855 (by decide +kernel) (by decide +kernel)
theorem ql_M_2 : Cond.laysFinal "QuadModeModel" "QuadModeModel" "registers" "[I" ∈ qw := qw_in 857 (by decide +kernel) (by decide +kernel)
theorem ql_M_3 : Cond.laysFinal "QuadModeModel" "QuadModeModel" "inner" "[I" ∈ qw := qw_in 859 (by decide +kernel) (by decide +kernel)
theorem ql_M_4 : Cond.lays "QuadModeModel" "QuadModeModel" "status" "I" ∈ qw := qw_in 861 (by decide +kernel) (by decide +kernel)
theorem ql_M_5 : Cond.lays "QuadModeModel" "QuadModeModel" "rest" "I" ∈ qw := qw_in 863 (by decide +kernel) (by decide +kernel)
theorem ql_M_6 : Cond.lays "QuadModeModel" "QuadModeModel" "done" "I" ∈ qw := qw_in 865 (by decide +kernel) (by decide +kernel)
theorem ql_M_7 : Cond.lays "QuadModeModel" "QuadModeModel" "latest" "I" ∈ qw := qw_in 867 (by decide +kernel) (by decide +kernel)
theorem ql_M_8 : Cond.lays "QuadModeModel" "QuadModeModel" "exceptions" "I" ∈ qw := qw_in 869 (by decide +kernel) (by decide +kernel)
theorem ql_M_9 : Cond.laysFinal "QuadModeModel" "QuadModeModel" "oldRegisters" "[I" ∈ qw := qw_in 871 (by decide +kernel) (by decide +kernel)
theorem ql_M_10 : Cond.laysFinal "QuadModeModel" "QuadModeModel" "oldInner" "[I" ∈ qw := qw_in 873 (by decide +kernel) (by decide +kernel)
theorem ql_M_11 : Cond.lays "QuadModeModel" "QuadModeModel" "oldStatus" "I" ∈ qw := qw_in 875 (by decide +kernel) (by decide +kernel)
theorem ql_M_12 : Cond.lays "QuadModeModel" "QuadModeModel" "fault" "I" ∈ qw := qw_in 877 (by decide +kernel) (by decide +kernel)
theorem ql_M_13 : Cond.lays "QuadModeModel" "QuadModeModel" "wrongAt" "I" ∈ qw := qw_in 879 (by decide +kernel) (by decide +kernel)
theorem ql_M_14 : Cond.lays "QuadModeModel" "QuadModeModel" "flag" "I" ∈ qw := qw_in 881 (by decide +kernel) (by decide +kernel)
theorem ql_M_15 : Cond.lays "QuadModeModel" "QuadModeModel" "trap" "I" ∈ qw := qw_in 883 (by decide +kernel) (by decide +kernel)
theorem ql_M_16 : Cond.laysFinal "QuadModeModel" "QuadModeModel" "value" "[I" ∈ qw := qw_in 885 (by decide +kernel) (by decide +kernel)
theorem ql_M_17 : Cond.laysFinal "QuadModeModel" "QuadModeModel" "where" "[I" ∈ qw := qw_in 887 (by decide +kernel) (by decide +kernel)
theorem ql_M_18 : Cond.laysFinal "QuadModeModel" "QuadModeModel" "at" "[I" ∈ qw := qw_in 889 (by decide +kernel) (by decide +kernel)
theorem ql_M_19 : Cond.lays "QuadModeModel" "QuadModeModel" "entryAt" "I" ∈ qw := qw_in 891 (by decide +kernel) (by decide +kernel)
theorem ql_M_20 : Cond.laysFinal "QuadModeModel" "QuadModeModel" "places" "[I" ∈ qw := qw_in 893 (by decide +kernel) (by decide +kernel)
theorem ql_M_21 : Cond.laysFinal "QuadModeModel" "QuadModeModel" "entries" "[I" ∈ qw := qw_in 895 (by decide +kernel) (by decide +kernel)
theorem qi_M : ∀ w ∈ u_ws qR_M qT_M 22, w ∈ qw := fun w h => by
  obtain ⟨k, hk, rfl⟩ := List.mem_map.mp h
  have hk := List.mem_range.mp hk
  rcases (show k = 0 ∨ k = 1 ∨ k = 2 ∨ k = 3 ∨ k = 4 ∨ k = 5 ∨ k = 6 ∨ k = 7 ∨ k = 8 ∨ k = 9 ∨ k = 10 ∨ k = 11 ∨ k = 12 ∨ k = 13 ∨ k = 14 ∨ k = 15 ∨ k = 16 ∨ k = 17 ∨ k = 18 ∨ k = 19 ∨ k = 20 ∨ k = 21 by omega) with rfl | rfl | rfl | rfl | rfl | rfl | rfl | rfl | rfl | rfl | rfl | rfl | rfl | rfl | rfl | rfl | rfl | rfl | rfl | rfl | rfl | rfl
  · exact ql_M_0
  · exact ql_M_1
  · exact ql_M_2
  · exact ql_M_3
  · exact ql_M_4
  · exact ql_M_5
  · exact ql_M_6
  · exact ql_M_7
  · exact ql_M_8
  · exact ql_M_9
  · exact ql_M_10
  · exact ql_M_11
  · exact ql_M_12
  · exact ql_M_13
  · exact ql_M_14
  · exact ql_M_15
  · exact ql_M_16
  · exact ql_M_17
  · exact ql_M_18
  · exact ql_M_19
  · exact ql_M_20
  · exact ql_M_21
abbrev qCl : List vw_C := [(qR_Cd, qT_Cd, 4), (qR_Co, qT_Co, 14), (qR_Op, qT_Op, 4), (qR_Pg, qT_Pg, 3), (qR_Sp, qT_Sp, 1), (qR_St, qT_St, 1), (qR_X, qT_X, 11), (qR_M, qT_M, 22)]
abbrev qm_St_putByte_c : ByteArray := prog_7_method_3_code
def qm_St_putByte : MethodName := ⟨qR_St, "putByte", "(II)V"⟩
abbrev qm_X_fill_c : ByteArray := prog_1_method_2_code
def qm_X_fill : MethodName := ⟨qR_X, "fill", "(IJ)V"⟩
abbrev qm_St_longAt_c : ByteArray := prog_7_method_4_code
def qm_St_longAt : MethodName := ⟨qR_St, "longAt", "(I)I"⟩
abbrev qm_X_look_c : ByteArray := prog_1_method_3_code
def qm_X_look : MethodName := ⟨qR_X, "look", "(I)I"⟩
abbrev qm_Co_mode_c : ByteArray := prog_3_method_2_code
def qm_Co_mode : MethodName := ⟨qR_Co, "mode", "()I"⟩
abbrev qm_Co_put_c : ByteArray := prog_3_method_5_code
def qm_Co_put : MethodName := ⟨qR_Co, "put", "(II)V"⟩
abbrev qm_X_set_c : ByteArray := prog_1_method_4_code
def qm_X_set : MethodName := ⟨qR_X, "set", "(II)V"⟩
abbrev qm_Co_get_c : ByteArray := prog_3_method_4_code
def qm_Co_get : MethodName := ⟨qR_Co, "get", "(I)I"⟩
abbrev qm_X_register_c : ByteArray := prog_1_method_5_code
def qm_X_register : MethodName := ⟨qR_X, "register", "(I)I"⟩
abbrev qm_Co_hasInner_c : ByteArray := prog_3_method_6_code
def qm_Co_hasInner : MethodName := ⟨qR_Co, "hasInner", "(I)Z"⟩
abbrev qm_Co_putInner_c : ByteArray := prog_3_method_8_code
def qm_Co_putInner : MethodName := ⟨qR_Co, "putInner", "(II)V"⟩
abbrev qm_X_setInner_c : ByteArray := prog_1_method_6_code
def qm_X_setInner : MethodName := ⟨qR_X, "setInner", "(II)V"⟩
abbrev qm_Co_getInner_c : ByteArray := prog_3_method_7_code
def qm_Co_getInner : MethodName := ⟨qR_Co, "getInner", "(I)I"⟩
abbrev qm_X_inner_c : ByteArray := prog_1_method_7_code
def qm_X_inner : MethodName := ⟨qR_X, "inner", "(I)I"⟩
abbrev qm_X_begin_c : ByteArray := prog_1_method_8_code
def qm_X_begin : MethodName := ⟨qR_X, "begin", "(I)V"⟩
abbrev qm_X_status_c : ByteArray := prog_1_method_9_code
def qm_X_status : MethodName := ⟨qR_X, "status", "()I"⟩
abbrev qm_Co_keep_c : ByteArray := prog_3_method_12_code
def qm_Co_keep : MethodName := ⟨qR_Co, "keep", "()V"⟩
abbrev qm_Pg_pageOf_c : ByteArray := prog_5_method_8_code
def qm_Pg_pageOf : MethodName := ⟨qR_Pg, "pageOf", "(I)I"⟩
abbrev qm_Pg_isThere_c : ByteArray := prog_5_method_4_code
def qm_Pg_isThere : MethodName := ⟨qR_Pg, "isThere", "(II)Z"⟩
abbrev qm_Pg_refusal_c : ByteArray := prog_5_method_9_code
def qm_Pg_refusal : MethodName := ⟨qR_Pg, "refusal", "(II)I"⟩
abbrev qm_Pg_isValid_c : ByteArray := prog_5_method_6_code
def qm_Pg_isValid : MethodName := ⟨qR_Pg, "isValid", "(I)Z"⟩
abbrev qm_Pg_inFrame_c : ByteArray := prog_5_method_7_code
def qm_Pg_inFrame : MethodName := ⟨qR_Pg, "inFrame", "(II)I"⟩
abbrev qm_Pg_grants_c : ByteArray := prog_5_method_5_code
def qm_Pg_grants : MethodName := ⟨qR_Pg, "grants", "(IZI)Z"⟩
abbrev qm_Pg_locate_c : ByteArray := prog_5_method_2_code
def qm_Pg_locate : MethodName := ⟨qR_Pg, "locate", "(IZI)I"⟩
abbrev qm_Pg_faultOf_c : ByteArray := prog_5_method_10_code
def qm_Pg_faultOf : MethodName := ⟨qR_Pg, "faultOf", "(I)I"⟩
abbrev qm_Pg_flagOf_c : ByteArray := prog_5_method_11_code
def qm_Pg_flagOf : MethodName := ⟨qR_Pg, "flagOf", "(I)I"⟩
abbrev qm_Co_refuse_c : ByteArray := prog_3_method_15_code
def qm_Co_refuse : MethodName := ⟨qR_Co, "refuse", "(II)V"⟩
abbrev qm_St_byteAt_c : ByteArray := prog_7_method_2_code
def qm_St_byteAt : MethodName := ⟨qR_St, "byteAt", "(I)I"⟩
abbrev qm_Co_read_c : ByteArray := prog_3_method_17_code
def qm_Co_read : MethodName := ⟨qR_Co, "read", "(II)I"⟩
abbrev qm_Co_fetch_c : ByteArray := prog_3_method_19_code
def qm_Co_fetch : MethodName := ⟨qR_Co, "fetch", "(I)I"⟩
abbrev qm_Cd_isAllowed_c : ByteArray := prog_2_method_2_code
def qm_Cd_isAllowed : MethodName := ⟨qR_Cd, "isAllowed", "(I)Z"⟩
abbrev qm_Co_raise_c : ByteArray := prog_3_method_14_code
def qm_Co_raise : MethodName := ⟨qR_Co, "raise", "(I)V"⟩
abbrev qm_Cd_shapeOf_c : ByteArray := prog_2_method_3_code
def qm_Cd_shapeOf : MethodName := ⟨qR_Cd, "shapeOf", "(I)Ljava/lang/String;"⟩
abbrev qm_Sp_isNoWay_c : ByteArray := prog_6_method_5_code
def qm_Sp_isNoWay : MethodName := ⟨qR_Sp, "isNoWay", "(I)Z"⟩
abbrev qm_Sp_isAddress_c : ByteArray := prog_6_method_6_code
def qm_Sp_isAddress : MethodName := ⟨qR_Sp, "isAddress", "(C)Z"⟩
abbrev qm_Sp_suits_c : ByteArray := prog_6_method_3_code
def qm_Sp_suits : MethodName := ⟨qR_Sp, "suits", "(IIC)Z"⟩
abbrev qm_Sp_suitsBehindIndexed_c : ByteArray := prog_6_method_4_code
def qm_Sp_suitsBehindIndexed : MethodName := ⟨qR_Sp, "suitsBehindIndexed", "(II)Z"⟩
abbrev qm_Sp_addressBy_c : ByteArray := prog_6_method_8_code
def qm_Sp_addressBy : MethodName := ⟨qR_Sp, "addressBy", "(III)I"⟩
abbrev qm_Sp_isRead_c : ByteArray := prog_6_method_7_code
def qm_Sp_isRead : MethodName := ⟨qR_Sp, "isRead", "(C)Z"⟩
abbrev qm_Sp_find_c : ByteArray := prog_6_method_2_code
def qm_Sp_find : MethodName := ⟨qR_Sp, "find", "(LQuadMode$Operand;C)V"⟩
abbrev qm_Co_pop_c : ByteArray := prog_3_method_21_code
def qm_Co_pop : MethodName := ⟨qR_Co, "pop", "()I"⟩
abbrev qm_Cd_leaveException_c : ByteArray := prog_2_method_7_code
def qm_Cd_leaveException : MethodName := ⟨qR_Cd, "leaveException", "()V"⟩
abbrev qm_Cd_leaveFrame_c : ByteArray := prog_2_method_27_code
def qm_Cd_leaveFrame : MethodName := ⟨qR_Cd, "leaveFrame", "()V"⟩
abbrev qm_Cd_giveInner_c : ByteArray := prog_2_method_8_code
def qm_Cd_giveInner : MethodName := ⟨qR_Cd, "giveInner", "(II)V"⟩
abbrev qm_Co_setConditions_c : ByteArray := prog_3_method_11_code
def qm_Co_setConditions : MethodName := ⟨qR_Co, "setConditions", "(ZZZZ)V"⟩
abbrev qm_Co_conclude_c : ByteArray := prog_3_method_10_code
def qm_Co_conclude : MethodName := ⟨qR_Co, "conclude", "(IZZ)V"⟩
abbrev qm_Pg_markModified_c : ByteArray := prog_5_method_3_code
def qm_Pg_markModified : MethodName := ⟨qR_Pg, "markModified", "(I)V"⟩
abbrev qm_Co_write_c : ByteArray := prog_3_method_18_code
def qm_Co_write : MethodName := ⟨qR_Co, "write", "(III)V"⟩
abbrev qm_Cd_store_c : ByteArray := prog_2_method_6_code
def qm_Cd_store : MethodName := ⟨qR_Cd, "store", "(LQuadMode$Operand;I)V"⟩
abbrev qm_Cd_takeInner_c : ByteArray := prog_2_method_9_code
def qm_Cd_takeInner : MethodName := ⟨qR_Cd, "takeInner", "(I)V"⟩
abbrev qm_Cd_shift_c : ByteArray := prog_2_method_20_code
def qm_Cd_shift : MethodName := ⟨qR_Cd, "shift", "(II)V"⟩
abbrev qm_Co_push_c : ByteArray := prog_3_method_20_code
def qm_Co_push : MethodName := ⟨qR_Co, "push", "(I)V"⟩
abbrev qm_Cd_enterFrame_c : ByteArray := prog_2_method_26_code
def qm_Cd_enterFrame : MethodName := ⟨qR_Cd, "enterFrame", "()V"⟩
abbrev qm_Co_previous_c : ByteArray := prog_3_method_3_code
def qm_Co_previous : MethodName := ⟨qR_Co, "previous", "()I"⟩
abbrev qm_Co_admits_c : ByteArray := prog_3_method_16_code
def qm_Co_admits : MethodName := ⟨qR_Co, "admits", "(IZI)Z"⟩
abbrev qm_Cd_probe_c : ByteArray := prog_2_method_28_code
def qm_Cd_probe : MethodName := ⟨qR_Cd, "probe", "(Z)V"⟩
abbrev qm_Cd_moved_c : ByteArray := prog_2_method_11_code
def qm_Cd_moved : MethodName := ⟨qR_Cd, "moved", "(II)I"⟩
abbrev qm_Co_has_c : ByteArray := prog_3_method_9_code
def qm_Co_has : MethodName := ⟨qR_Co, "has", "(I)Z"⟩
abbrev qm_Cd_move_c : ByteArray := prog_2_method_10_code
def qm_Cd_move : MethodName := ⟨qR_Cd, "move", "(I)V"⟩
abbrev qm_JI_compare_c : ByteArray := prog_14_method_40_code
def qm_JI_compare : MethodName := ⟨"java/lang/Integer", "compare", "(II)I"⟩
abbrev qm_JI_compareUnsigned_c : ByteArray := prog_14_method_41_code
def qm_JI_compareUnsigned : MethodName := ⟨"java/lang/Integer", "compareUnsigned", "(II)I"⟩
abbrev qm_Cd_compare_c : ByteArray := prog_2_method_12_code
def qm_Cd_compare : MethodName := ⟨qR_Cd, "compare", "(I)V"⟩
abbrev qm_Cd_add_c : ByteArray := prog_2_method_15_code
def qm_Cd_add : MethodName := ⟨qR_Cd, "add", "(II)I"⟩
abbrev qm_Cd_subtract_c : ByteArray := prog_2_method_16_code
def qm_Cd_subtract : MethodName := ⟨qR_Cd, "subtract", "(II)I"⟩
abbrev qm_Cd_multiply_c : ByteArray := prog_2_method_17_code
def qm_Cd_multiply : MethodName := ⟨qR_Cd, "multiply", "(II)I"⟩
abbrev qm_Cd_divide_c : ByteArray := prog_2_method_18_code
def qm_Cd_divide : MethodName := ⟨qR_Cd, "divide", "(II)I"⟩
abbrev qm_Cd_bits_c : ByteArray := prog_2_method_19_code
def qm_Cd_bits : MethodName := ⟨qR_Cd, "bits", "(I)I"⟩
abbrev qm_Cd_calculated_c : ByteArray := prog_2_method_14_code
def qm_Cd_calculated : MethodName := ⟨qR_Cd, "calculated", "(III)I"⟩
abbrev qm_Cd_calculate_c : ByteArray := prog_2_method_13_code
def qm_Cd_calculate : MethodName := ⟨qR_Cd, "calculate", "(I)V"⟩
abbrev qm_Cd_handAddress_c : ByteArray := prog_2_method_21_code
def qm_Cd_handAddress : MethodName := ⟨qR_Cd, "handAddress", "(I)V"⟩
abbrev qm_Cd_go_c : ByteArray := prog_2_method_22_code
def qm_Cd_go : MethodName := ⟨qR_Cd, "go", "(I)V"⟩
abbrev qm_Cd_holds_c : ByteArray := prog_2_method_24_code
def qm_Cd_holds : MethodName := ⟨qR_Cd, "holds", "(I)Z"⟩
abbrev qm_Cd_branch_c : ByteArray := prog_2_method_23_code
def qm_Cd_branch : MethodName := ⟨qR_Cd, "branch", "(I)V"⟩
abbrev qm_Cd_count_c : ByteArray := prog_2_method_25_code
def qm_Cd_count : MethodName := ⟨qR_Cd, "count", "(I)V"⟩
abbrev qm_Cd_noteOverflow_c : ByteArray := prog_2_method_5_code
def qm_Cd_noteOverflow : MethodName := ⟨qR_Cd, "noteOverflow", "(I)V"⟩
abbrev qm_Cd_execute_c : ByteArray := prog_2_method_4_code
def qm_Cd_execute : MethodName := ⟨qR_Cd, "execute", "(I)V"⟩
abbrev qm_Co_takeBack_c : ByteArray := prog_3_method_13_code
def qm_Co_takeBack : MethodName := ⟨qR_Co, "takeBack", "()V"⟩
abbrev qm_X_except_c : ByteArray := prog_1_method_15_code
def qm_X_except : MethodName := ⟨qR_X, "except", "(IIIII)V"⟩
abbrev qm_X_settle_c : ByteArray := prog_1_method_14_code
def qm_X_settle : MethodName := ⟨qR_X, "settle", "(I)V"⟩
abbrev qm_X_step_c : ByteArray := prog_1_method_13_code
def qm_X_step : MethodName := ⟨qR_X, "step", "()V"⟩
abbrev qm_X_run_c : ByteArray := prog_1_method_10_code
def qm_X_run : MethodName := ⟨qR_X, "run", "(I)I"⟩
abbrev qm_X_reach_c : ByteArray := prog_1_method_11_code
def qm_X_reach : MethodName := ⟨qR_X, "reach", "(IZI)I"⟩
abbrev qm_X_state_c : ByteArray := prog_1_method_12_code
def qm_X_state : MethodName := ⟨qR_X, "state", "(I)I"⟩
abbrev qm_M_thrown_c : ByteArray := prog_9_method_2_code
def qm_M_thrown : MethodName := ⟨qR_M, "thrown", "()I"⟩
abbrev qm_M_fill_c : ByteArray := prog_9_method_40_code
def qm_M_fill : MethodName := ⟨qR_M, "fill", "(IJ)V"⟩
abbrev qm_M_bare_c : ByteArray := prog_9_method_5_code
def qm_M_bare : MethodName := ⟨qR_M, "bare", "(I)I"⟩
abbrev qm_M_look_c : ByteArray := prog_9_method_41_code
def qm_M_look : MethodName := ⟨qR_M, "look", "(I)I"⟩
abbrev qm_M_mode_c : ByteArray := prog_9_method_4_code
def qm_M_mode : MethodName := ⟨qR_M, "mode", "()I"⟩
abbrev qm_M_put_c : ByteArray := prog_9_method_13_code
def qm_M_put : MethodName := ⟨qR_M, "put", "(II)V"⟩
abbrev qm_M_set_c : ByteArray := prog_9_method_42_code
def qm_M_set : MethodName := ⟨qR_M, "set", "(II)V"⟩
abbrev qm_M_fail_c : ByteArray := prog_9_method_3_code
def qm_M_fail : MethodName := ⟨qR_M, "fail", "(I)I"⟩
abbrev qm_M_get_c : ByteArray := prog_9_method_12_code
def qm_M_get : MethodName := ⟨qR_M, "get", "(I)I"⟩
abbrev qm_M_register_c : ByteArray := prog_9_method_43_code
def qm_M_register : MethodName := ⟨qR_M, "register", "(I)I"⟩
abbrev qm_M_isInner_c : ByteArray := prog_9_method_14_code
def qm_M_isInner : MethodName := ⟨qR_M, "isInner", "(I)Z"⟩
abbrev qm_M_setInner_c : ByteArray := prog_9_method_44_code
def qm_M_setInner : MethodName := ⟨qR_M, "setInner", "(II)V"⟩
abbrev qm_M_inner_c : ByteArray := prog_9_method_45_code
def qm_M_inner : MethodName := ⟨qR_M, "inner", "(I)I"⟩
abbrev qm_M_begin_c : ByteArray := prog_9_method_46_code
def qm_M_begin : MethodName := ⟨qR_M, "begin", "(I)V"⟩
abbrev qm_M_status_c : ByteArray := prog_9_method_47_code
def qm_M_status : MethodName := ⟨qR_M, "status", "()I"⟩
abbrev qm_M_keep_c : ByteArray := prog_9_method_17_code
def qm_M_keep : MethodName := ⟨qR_M, "keep", "()V"⟩
abbrev qm_M_below_c : ByteArray := prog_9_method_6_code
def qm_M_below : MethodName := ⟨qR_M, "below", "(II)Z"⟩
abbrev qm_M_find_c : ByteArray := prog_9_method_7_code
def qm_M_find : MethodName := ⟨qR_M, "find", "(IZI)I"⟩
abbrev qm_M_wrong_c : ByteArray := prog_9_method_8_code
def qm_M_wrong : MethodName := ⟨qR_M, "wrong", "(III)V"⟩
abbrev qm_M_readByte_c : ByteArray := prog_9_method_9_code
def qm_M_readByte : MethodName := ⟨qR_M, "readByte", "(I)I"⟩
abbrev qm_M_next_c : ByteArray := prog_9_method_19_code
def qm_M_next : MethodName := ⟨qR_M, "next", "()I"⟩
abbrev qm_M_shape_c : ByteArray := prog_9_method_21_code
def qm_M_shape : MethodName := ⟨qR_M, "shape", "(I)I"⟩
abbrev qm_M_signed_c : ByteArray := prog_9_method_20_code
def qm_M_signed : MethodName := ⟨qR_M, "signed", "(I)I"⟩
abbrev qm_M_readLong_c : ByteArray := prog_9_method_10_code
def qm_M_readLong : MethodName := ⟨qR_M, "readLong", "(I)I"⟩
abbrev qm_M_operand_c : ByteArray := prog_9_method_22_code
def qm_M_operand : MethodName := ⟨qR_M, "operand", "(II)V"⟩
abbrev qm_M_pop_c : ByteArray := prog_9_method_16_code
def qm_M_pop : MethodName := ⟨qR_M, "pop", "()I"⟩
abbrev qm_M_endException_c : ByteArray := prog_9_method_32_code
def qm_M_endException : MethodName := ⟨qR_M, "endException", "()V"⟩
abbrev qm_M_comeBack_c : ByteArray := prog_9_method_31_code
def qm_M_comeBack : MethodName := ⟨qR_M, "comeBack", "()V"⟩
abbrev qm_M_mark_c : ByteArray := prog_9_method_25_code
def qm_M_mark : MethodName := ⟨qR_M, "mark", "(IZZ)V"⟩
abbrev qm_M_write_c : ByteArray := prog_9_method_11_code
def qm_M_write : MethodName := ⟨qR_M, "write", "(III)V"⟩
abbrev qm_M_give_c : ByteArray := prog_9_method_23_code
def qm_M_give : MethodName := ⟨qR_M, "give", "(III)V"⟩
abbrev qm_M_innerOnes_c : ByteArray := prog_9_method_34_code
def qm_M_innerOnes : MethodName := ⟨qR_M, "innerOnes", "(I)V"⟩
abbrev qm_M_has_c : ByteArray := prog_9_method_24_code
def qm_M_has : MethodName := ⟨qR_M, "has", "(I)Z"⟩
abbrev qm_M_push_c : ByteArray := prog_9_method_15_code
def qm_M_push : MethodName := ⟨qR_M, "push", "(I)V"⟩
abbrev qm_M_move_c : ByteArray := prog_9_method_35_code
def qm_M_move : MethodName := ⟨qR_M, "move", "(I)V"⟩
abbrev qm_M_reckon_c : ByteArray := prog_9_method_26_code
def qm_M_reckon : MethodName := ⟨qR_M, "reckon", "(IIII)V"⟩
abbrev qm_M_shift_c : ByteArray := prog_9_method_27_code
def qm_M_shift : MethodName := ⟨qR_M, "shift", "(II)V"⟩
abbrev qm_M_go_c : ByteArray := prog_9_method_36_code
def qm_M_go : MethodName := ⟨qR_M, "go", "(I)V"⟩
abbrev qm_M_isMet_c : ByteArray := prog_9_method_28_code
def qm_M_isMet : MethodName := ⟨qR_M, "isMet", "(I)Z"⟩
abbrev qm_M_count_c : ByteArray := prog_9_method_29_code
def qm_M_count : MethodName := ⟨qR_M, "count", "(I)V"⟩
abbrev qm_M_callFrame_c : ByteArray := prog_9_method_30_code
def qm_M_callFrame : MethodName := ⟨qR_M, "callFrame", "()V"⟩
abbrev qm_M_probe_c : ByteArray := prog_9_method_33_code
def qm_M_probe : MethodName := ⟨qR_M, "probe", "(Z)V"⟩
abbrev qm_M_work_c : ByteArray := prog_9_method_37_code
def qm_M_work : MethodName := ⟨qR_M, "work", "(I)V"⟩
abbrev qm_M_bringBack_c : ByteArray := prog_9_method_18_code
def qm_M_bringBack : MethodName := ⟨qR_M, "bringBack", "()V"⟩
abbrev qm_M_raise_c : ByteArray := prog_9_method_38_code
def qm_M_raise : MethodName := ⟨qR_M, "raise", "(III)V"⟩
abbrev qm_M_instruction_c : ByteArray := prog_9_method_39_code
def qm_M_instruction : MethodName := ⟨qR_M, "instruction", "()V"⟩
abbrev qm_M_run_c : ByteArray := prog_9_method_48_code
def qm_M_run : MethodName := ⟨qR_M, "run", "(I)I"⟩
abbrev qm_M_reach_c : ByteArray := prog_9_method_49_code
def qm_M_reach : MethodName := ⟨qR_M, "reach", "(IZI)I"⟩
abbrev qm_M_state_c : ByteArray := prog_9_method_50_code
def qm_M_state : MethodName := ⟨qR_M, "state", "(I)I"⟩
theorem qm_St_putByte_d : qm_St_putByte.cls ≠ "java/lang/invoke/MethodHandle" ∧ qm_St_putByte.cls ≠ "java/lang/invoke/VarHandle" ∧ (parseMethodDescriptor qm_St_putByte.desc).map (fun d => d.parameters.length) = some 2 := by decide +kernel
theorem qm_X_fill_d : qm_X_fill.cls ≠ "java/lang/invoke/MethodHandle" ∧ qm_X_fill.cls ≠ "java/lang/invoke/VarHandle" ∧ (parseMethodDescriptor qm_X_fill.desc).map (fun d => d.parameters.length) = some 2 := by decide +kernel
theorem qm_St_longAt_d : qm_St_longAt.cls ≠ "java/lang/invoke/MethodHandle" ∧ qm_St_longAt.cls ≠ "java/lang/invoke/VarHandle" ∧ (parseMethodDescriptor qm_St_longAt.desc).map (fun d => d.parameters.length) = some 1 := by decide +kernel
theorem qm_X_look_d : qm_X_look.cls ≠ "java/lang/invoke/MethodHandle" ∧ qm_X_look.cls ≠ "java/lang/invoke/VarHandle" ∧ (parseMethodDescriptor qm_X_look.desc).map (fun d => d.parameters.length) = some 1 := by decide +kernel
theorem qm_Co_mode_d : qm_Co_mode.cls ≠ "java/lang/invoke/MethodHandle" ∧ qm_Co_mode.cls ≠ "java/lang/invoke/VarHandle" ∧ (parseMethodDescriptor qm_Co_mode.desc).map (fun d => d.parameters.length) = some 0 := by decide +kernel
theorem qm_Co_put_d : qm_Co_put.cls ≠ "java/lang/invoke/MethodHandle" ∧ qm_Co_put.cls ≠ "java/lang/invoke/VarHandle" ∧ (parseMethodDescriptor qm_Co_put.desc).map (fun d => d.parameters.length) = some 2 := by decide +kernel
theorem qm_X_set_d : qm_X_set.cls ≠ "java/lang/invoke/MethodHandle" ∧ qm_X_set.cls ≠ "java/lang/invoke/VarHandle" ∧ (parseMethodDescriptor qm_X_set.desc).map (fun d => d.parameters.length) = some 2 := by decide +kernel
theorem qm_Co_get_d : qm_Co_get.cls ≠ "java/lang/invoke/MethodHandle" ∧ qm_Co_get.cls ≠ "java/lang/invoke/VarHandle" ∧ (parseMethodDescriptor qm_Co_get.desc).map (fun d => d.parameters.length) = some 1 := by decide +kernel
theorem qm_X_register_d : qm_X_register.cls ≠ "java/lang/invoke/MethodHandle" ∧ qm_X_register.cls ≠ "java/lang/invoke/VarHandle" ∧ (parseMethodDescriptor qm_X_register.desc).map (fun d => d.parameters.length) = some 1 := by decide +kernel
theorem qm_Co_hasInner_d : qm_Co_hasInner.cls ≠ "java/lang/invoke/MethodHandle" ∧ qm_Co_hasInner.cls ≠ "java/lang/invoke/VarHandle" ∧ (parseMethodDescriptor qm_Co_hasInner.desc).map (fun d => d.parameters.length) = some 1 := by decide +kernel
theorem qm_Co_putInner_d : qm_Co_putInner.cls ≠ "java/lang/invoke/MethodHandle" ∧ qm_Co_putInner.cls ≠ "java/lang/invoke/VarHandle" ∧ (parseMethodDescriptor qm_Co_putInner.desc).map (fun d => d.parameters.length) = some 2 := by decide +kernel
theorem qm_X_setInner_d : qm_X_setInner.cls ≠ "java/lang/invoke/MethodHandle" ∧ qm_X_setInner.cls ≠ "java/lang/invoke/VarHandle" ∧ (parseMethodDescriptor qm_X_setInner.desc).map (fun d => d.parameters.length) = some 2 := by decide +kernel
theorem qm_Co_getInner_d : qm_Co_getInner.cls ≠ "java/lang/invoke/MethodHandle" ∧ qm_Co_getInner.cls ≠ "java/lang/invoke/VarHandle" ∧ (parseMethodDescriptor qm_Co_getInner.desc).map (fun d => d.parameters.length) = some 1 := by decide +kernel
theorem qm_X_inner_d : qm_X_inner.cls ≠ "java/lang/invoke/MethodHandle" ∧ qm_X_inner.cls ≠ "java/lang/invoke/VarHandle" ∧ (parseMethodDescriptor qm_X_inner.desc).map (fun d => d.parameters.length) = some 1 := by decide +kernel
theorem qm_X_begin_d : qm_X_begin.cls ≠ "java/lang/invoke/MethodHandle" ∧ qm_X_begin.cls ≠ "java/lang/invoke/VarHandle" ∧ (parseMethodDescriptor qm_X_begin.desc).map (fun d => d.parameters.length) = some 1 := by decide +kernel
theorem qm_X_status_d : qm_X_status.cls ≠ "java/lang/invoke/MethodHandle" ∧ qm_X_status.cls ≠ "java/lang/invoke/VarHandle" ∧ (parseMethodDescriptor qm_X_status.desc).map (fun d => d.parameters.length) = some 0 := by decide +kernel
theorem qm_Co_keep_d : qm_Co_keep.cls ≠ "java/lang/invoke/MethodHandle" ∧ qm_Co_keep.cls ≠ "java/lang/invoke/VarHandle" ∧ (parseMethodDescriptor qm_Co_keep.desc).map (fun d => d.parameters.length) = some 0 := by decide +kernel
theorem qm_Pg_pageOf_d : qm_Pg_pageOf.cls ≠ "java/lang/invoke/MethodHandle" ∧ qm_Pg_pageOf.cls ≠ "java/lang/invoke/VarHandle" ∧ (parseMethodDescriptor qm_Pg_pageOf.desc).map (fun d => d.parameters.length) = some 1 := by decide +kernel
theorem qm_Pg_isThere_d : qm_Pg_isThere.cls ≠ "java/lang/invoke/MethodHandle" ∧ qm_Pg_isThere.cls ≠ "java/lang/invoke/VarHandle" ∧ (parseMethodDescriptor qm_Pg_isThere.desc).map (fun d => d.parameters.length) = some 2 := by decide +kernel
theorem qm_Pg_refusal_d : qm_Pg_refusal.cls ≠ "java/lang/invoke/MethodHandle" ∧ qm_Pg_refusal.cls ≠ "java/lang/invoke/VarHandle" ∧ (parseMethodDescriptor qm_Pg_refusal.desc).map (fun d => d.parameters.length) = some 2 := by decide +kernel
theorem qm_Pg_isValid_d : qm_Pg_isValid.cls ≠ "java/lang/invoke/MethodHandle" ∧ qm_Pg_isValid.cls ≠ "java/lang/invoke/VarHandle" ∧ (parseMethodDescriptor qm_Pg_isValid.desc).map (fun d => d.parameters.length) = some 1 := by decide +kernel
theorem qm_Pg_inFrame_d : qm_Pg_inFrame.cls ≠ "java/lang/invoke/MethodHandle" ∧ qm_Pg_inFrame.cls ≠ "java/lang/invoke/VarHandle" ∧ (parseMethodDescriptor qm_Pg_inFrame.desc).map (fun d => d.parameters.length) = some 2 := by decide +kernel
theorem qm_Pg_grants_d : qm_Pg_grants.cls ≠ "java/lang/invoke/MethodHandle" ∧ qm_Pg_grants.cls ≠ "java/lang/invoke/VarHandle" ∧ (parseMethodDescriptor qm_Pg_grants.desc).map (fun d => d.parameters.length) = some 3 := by decide +kernel
theorem qm_Pg_locate_d : qm_Pg_locate.cls ≠ "java/lang/invoke/MethodHandle" ∧ qm_Pg_locate.cls ≠ "java/lang/invoke/VarHandle" ∧ (parseMethodDescriptor qm_Pg_locate.desc).map (fun d => d.parameters.length) = some 3 := by decide +kernel
theorem qm_Pg_faultOf_d : qm_Pg_faultOf.cls ≠ "java/lang/invoke/MethodHandle" ∧ qm_Pg_faultOf.cls ≠ "java/lang/invoke/VarHandle" ∧ (parseMethodDescriptor qm_Pg_faultOf.desc).map (fun d => d.parameters.length) = some 1 := by decide +kernel
theorem qm_Pg_flagOf_d : qm_Pg_flagOf.cls ≠ "java/lang/invoke/MethodHandle" ∧ qm_Pg_flagOf.cls ≠ "java/lang/invoke/VarHandle" ∧ (parseMethodDescriptor qm_Pg_flagOf.desc).map (fun d => d.parameters.length) = some 1 := by decide +kernel
theorem qm_Co_refuse_d : qm_Co_refuse.cls ≠ "java/lang/invoke/MethodHandle" ∧ qm_Co_refuse.cls ≠ "java/lang/invoke/VarHandle" ∧ (parseMethodDescriptor qm_Co_refuse.desc).map (fun d => d.parameters.length) = some 2 := by decide +kernel
theorem qm_St_byteAt_d : qm_St_byteAt.cls ≠ "java/lang/invoke/MethodHandle" ∧ qm_St_byteAt.cls ≠ "java/lang/invoke/VarHandle" ∧ (parseMethodDescriptor qm_St_byteAt.desc).map (fun d => d.parameters.length) = some 1 := by decide +kernel
theorem qm_Co_read_d : qm_Co_read.cls ≠ "java/lang/invoke/MethodHandle" ∧ qm_Co_read.cls ≠ "java/lang/invoke/VarHandle" ∧ (parseMethodDescriptor qm_Co_read.desc).map (fun d => d.parameters.length) = some 2 := by decide +kernel
theorem qm_Co_fetch_d : qm_Co_fetch.cls ≠ "java/lang/invoke/MethodHandle" ∧ qm_Co_fetch.cls ≠ "java/lang/invoke/VarHandle" ∧ (parseMethodDescriptor qm_Co_fetch.desc).map (fun d => d.parameters.length) = some 1 := by decide +kernel
theorem qm_Cd_isAllowed_d : qm_Cd_isAllowed.cls ≠ "java/lang/invoke/MethodHandle" ∧ qm_Cd_isAllowed.cls ≠ "java/lang/invoke/VarHandle" ∧ (parseMethodDescriptor qm_Cd_isAllowed.desc).map (fun d => d.parameters.length) = some 1 := by decide +kernel
theorem qm_Co_raise_d : qm_Co_raise.cls ≠ "java/lang/invoke/MethodHandle" ∧ qm_Co_raise.cls ≠ "java/lang/invoke/VarHandle" ∧ (parseMethodDescriptor qm_Co_raise.desc).map (fun d => d.parameters.length) = some 1 := by decide +kernel
theorem qm_Cd_shapeOf_d : qm_Cd_shapeOf.cls ≠ "java/lang/invoke/MethodHandle" ∧ qm_Cd_shapeOf.cls ≠ "java/lang/invoke/VarHandle" ∧ (parseMethodDescriptor qm_Cd_shapeOf.desc).map (fun d => d.parameters.length) = some 1 := by decide +kernel
theorem qm_Sp_isNoWay_d : qm_Sp_isNoWay.cls ≠ "java/lang/invoke/MethodHandle" ∧ qm_Sp_isNoWay.cls ≠ "java/lang/invoke/VarHandle" ∧ (parseMethodDescriptor qm_Sp_isNoWay.desc).map (fun d => d.parameters.length) = some 1 := by decide +kernel
theorem qm_Sp_isAddress_d : qm_Sp_isAddress.cls ≠ "java/lang/invoke/MethodHandle" ∧ qm_Sp_isAddress.cls ≠ "java/lang/invoke/VarHandle" ∧ (parseMethodDescriptor qm_Sp_isAddress.desc).map (fun d => d.parameters.length) = some 1 := by decide +kernel
theorem qm_Sp_suits_d : qm_Sp_suits.cls ≠ "java/lang/invoke/MethodHandle" ∧ qm_Sp_suits.cls ≠ "java/lang/invoke/VarHandle" ∧ (parseMethodDescriptor qm_Sp_suits.desc).map (fun d => d.parameters.length) = some 3 := by decide +kernel
theorem qm_Sp_suitsBehindIndexed_d : qm_Sp_suitsBehindIndexed.cls ≠ "java/lang/invoke/MethodHandle" ∧ qm_Sp_suitsBehindIndexed.cls ≠ "java/lang/invoke/VarHandle" ∧ (parseMethodDescriptor qm_Sp_suitsBehindIndexed.desc).map (fun d => d.parameters.length) = some 2 := by decide +kernel
theorem qm_Sp_addressBy_d : qm_Sp_addressBy.cls ≠ "java/lang/invoke/MethodHandle" ∧ qm_Sp_addressBy.cls ≠ "java/lang/invoke/VarHandle" ∧ (parseMethodDescriptor qm_Sp_addressBy.desc).map (fun d => d.parameters.length) = some 3 := by decide +kernel
theorem qm_Sp_isRead_d : qm_Sp_isRead.cls ≠ "java/lang/invoke/MethodHandle" ∧ qm_Sp_isRead.cls ≠ "java/lang/invoke/VarHandle" ∧ (parseMethodDescriptor qm_Sp_isRead.desc).map (fun d => d.parameters.length) = some 1 := by decide +kernel
theorem qm_Sp_find_d : qm_Sp_find.cls ≠ "java/lang/invoke/MethodHandle" ∧ qm_Sp_find.cls ≠ "java/lang/invoke/VarHandle" ∧ (parseMethodDescriptor qm_Sp_find.desc).map (fun d => d.parameters.length) = some 2 := by decide +kernel
theorem qm_Co_pop_d : qm_Co_pop.cls ≠ "java/lang/invoke/MethodHandle" ∧ qm_Co_pop.cls ≠ "java/lang/invoke/VarHandle" ∧ (parseMethodDescriptor qm_Co_pop.desc).map (fun d => d.parameters.length) = some 0 := by decide +kernel
theorem qm_Cd_leaveException_d : qm_Cd_leaveException.cls ≠ "java/lang/invoke/MethodHandle" ∧ qm_Cd_leaveException.cls ≠ "java/lang/invoke/VarHandle" ∧ (parseMethodDescriptor qm_Cd_leaveException.desc).map (fun d => d.parameters.length) = some 0 := by decide +kernel
theorem qm_Cd_leaveFrame_d : qm_Cd_leaveFrame.cls ≠ "java/lang/invoke/MethodHandle" ∧ qm_Cd_leaveFrame.cls ≠ "java/lang/invoke/VarHandle" ∧ (parseMethodDescriptor qm_Cd_leaveFrame.desc).map (fun d => d.parameters.length) = some 0 := by decide +kernel
theorem qm_Cd_giveInner_d : qm_Cd_giveInner.cls ≠ "java/lang/invoke/MethodHandle" ∧ qm_Cd_giveInner.cls ≠ "java/lang/invoke/VarHandle" ∧ (parseMethodDescriptor qm_Cd_giveInner.desc).map (fun d => d.parameters.length) = some 2 := by decide +kernel
theorem qm_Co_setConditions_d : qm_Co_setConditions.cls ≠ "java/lang/invoke/MethodHandle" ∧ qm_Co_setConditions.cls ≠ "java/lang/invoke/VarHandle" ∧ (parseMethodDescriptor qm_Co_setConditions.desc).map (fun d => d.parameters.length) = some 4 := by decide +kernel
theorem qm_Co_conclude_d : qm_Co_conclude.cls ≠ "java/lang/invoke/MethodHandle" ∧ qm_Co_conclude.cls ≠ "java/lang/invoke/VarHandle" ∧ (parseMethodDescriptor qm_Co_conclude.desc).map (fun d => d.parameters.length) = some 3 := by decide +kernel
theorem qm_Pg_markModified_d : qm_Pg_markModified.cls ≠ "java/lang/invoke/MethodHandle" ∧ qm_Pg_markModified.cls ≠ "java/lang/invoke/VarHandle" ∧ (parseMethodDescriptor qm_Pg_markModified.desc).map (fun d => d.parameters.length) = some 1 := by decide +kernel
theorem qm_Co_write_d : qm_Co_write.cls ≠ "java/lang/invoke/MethodHandle" ∧ qm_Co_write.cls ≠ "java/lang/invoke/VarHandle" ∧ (parseMethodDescriptor qm_Co_write.desc).map (fun d => d.parameters.length) = some 3 := by decide +kernel
theorem qm_Cd_store_d : qm_Cd_store.cls ≠ "java/lang/invoke/MethodHandle" ∧ qm_Cd_store.cls ≠ "java/lang/invoke/VarHandle" ∧ (parseMethodDescriptor qm_Cd_store.desc).map (fun d => d.parameters.length) = some 2 := by decide +kernel
theorem qm_Cd_takeInner_d : qm_Cd_takeInner.cls ≠ "java/lang/invoke/MethodHandle" ∧ qm_Cd_takeInner.cls ≠ "java/lang/invoke/VarHandle" ∧ (parseMethodDescriptor qm_Cd_takeInner.desc).map (fun d => d.parameters.length) = some 1 := by decide +kernel
theorem qm_Cd_shift_d : qm_Cd_shift.cls ≠ "java/lang/invoke/MethodHandle" ∧ qm_Cd_shift.cls ≠ "java/lang/invoke/VarHandle" ∧ (parseMethodDescriptor qm_Cd_shift.desc).map (fun d => d.parameters.length) = some 2 := by decide +kernel
theorem qm_Co_push_d : qm_Co_push.cls ≠ "java/lang/invoke/MethodHandle" ∧ qm_Co_push.cls ≠ "java/lang/invoke/VarHandle" ∧ (parseMethodDescriptor qm_Co_push.desc).map (fun d => d.parameters.length) = some 1 := by decide +kernel
theorem qm_Cd_enterFrame_d : qm_Cd_enterFrame.cls ≠ "java/lang/invoke/MethodHandle" ∧ qm_Cd_enterFrame.cls ≠ "java/lang/invoke/VarHandle" ∧ (parseMethodDescriptor qm_Cd_enterFrame.desc).map (fun d => d.parameters.length) = some 0 := by decide +kernel
theorem qm_Co_previous_d : qm_Co_previous.cls ≠ "java/lang/invoke/MethodHandle" ∧ qm_Co_previous.cls ≠ "java/lang/invoke/VarHandle" ∧ (parseMethodDescriptor qm_Co_previous.desc).map (fun d => d.parameters.length) = some 0 := by decide +kernel
theorem qm_Co_admits_d : qm_Co_admits.cls ≠ "java/lang/invoke/MethodHandle" ∧ qm_Co_admits.cls ≠ "java/lang/invoke/VarHandle" ∧ (parseMethodDescriptor qm_Co_admits.desc).map (fun d => d.parameters.length) = some 3 := by decide +kernel
theorem qm_Cd_probe_d : qm_Cd_probe.cls ≠ "java/lang/invoke/MethodHandle" ∧ qm_Cd_probe.cls ≠ "java/lang/invoke/VarHandle" ∧ (parseMethodDescriptor qm_Cd_probe.desc).map (fun d => d.parameters.length) = some 1 := by decide +kernel
theorem qm_Cd_moved_d : qm_Cd_moved.cls ≠ "java/lang/invoke/MethodHandle" ∧ qm_Cd_moved.cls ≠ "java/lang/invoke/VarHandle" ∧ (parseMethodDescriptor qm_Cd_moved.desc).map (fun d => d.parameters.length) = some 2 := by decide +kernel
theorem qm_Co_has_d : qm_Co_has.cls ≠ "java/lang/invoke/MethodHandle" ∧ qm_Co_has.cls ≠ "java/lang/invoke/VarHandle" ∧ (parseMethodDescriptor qm_Co_has.desc).map (fun d => d.parameters.length) = some 1 := by decide +kernel
theorem qm_Cd_move_d : qm_Cd_move.cls ≠ "java/lang/invoke/MethodHandle" ∧ qm_Cd_move.cls ≠ "java/lang/invoke/VarHandle" ∧ (parseMethodDescriptor qm_Cd_move.desc).map (fun d => d.parameters.length) = some 1 := by decide +kernel
theorem qm_JI_compare_d : qm_JI_compare.cls ≠ "java/lang/invoke/MethodHandle" ∧ qm_JI_compare.cls ≠ "java/lang/invoke/VarHandle" ∧ (parseMethodDescriptor qm_JI_compare.desc).map (fun d => d.parameters.length) = some 2 := by decide +kernel
theorem qm_JI_compareUnsigned_d : qm_JI_compareUnsigned.cls ≠ "java/lang/invoke/MethodHandle" ∧ qm_JI_compareUnsigned.cls ≠ "java/lang/invoke/VarHandle" ∧ (parseMethodDescriptor qm_JI_compareUnsigned.desc).map (fun d => d.parameters.length) = some 2 := by decide +kernel
theorem qm_Cd_compare_d : qm_Cd_compare.cls ≠ "java/lang/invoke/MethodHandle" ∧ qm_Cd_compare.cls ≠ "java/lang/invoke/VarHandle" ∧ (parseMethodDescriptor qm_Cd_compare.desc).map (fun d => d.parameters.length) = some 1 := by decide +kernel
theorem qm_Cd_add_d : qm_Cd_add.cls ≠ "java/lang/invoke/MethodHandle" ∧ qm_Cd_add.cls ≠ "java/lang/invoke/VarHandle" ∧ (parseMethodDescriptor qm_Cd_add.desc).map (fun d => d.parameters.length) = some 2 := by decide +kernel
theorem qm_Cd_subtract_d : qm_Cd_subtract.cls ≠ "java/lang/invoke/MethodHandle" ∧ qm_Cd_subtract.cls ≠ "java/lang/invoke/VarHandle" ∧ (parseMethodDescriptor qm_Cd_subtract.desc).map (fun d => d.parameters.length) = some 2 := by decide +kernel
theorem qm_Cd_multiply_d : qm_Cd_multiply.cls ≠ "java/lang/invoke/MethodHandle" ∧ qm_Cd_multiply.cls ≠ "java/lang/invoke/VarHandle" ∧ (parseMethodDescriptor qm_Cd_multiply.desc).map (fun d => d.parameters.length) = some 2 := by decide +kernel
theorem qm_Cd_divide_d : qm_Cd_divide.cls ≠ "java/lang/invoke/MethodHandle" ∧ qm_Cd_divide.cls ≠ "java/lang/invoke/VarHandle" ∧ (parseMethodDescriptor qm_Cd_divide.desc).map (fun d => d.parameters.length) = some 2 := by decide +kernel
theorem qm_Cd_bits_d : qm_Cd_bits.cls ≠ "java/lang/invoke/MethodHandle" ∧ qm_Cd_bits.cls ≠ "java/lang/invoke/VarHandle" ∧ (parseMethodDescriptor qm_Cd_bits.desc).map (fun d => d.parameters.length) = some 1 := by decide +kernel
theorem qm_Cd_calculated_d : qm_Cd_calculated.cls ≠ "java/lang/invoke/MethodHandle" ∧ qm_Cd_calculated.cls ≠ "java/lang/invoke/VarHandle" ∧ (parseMethodDescriptor qm_Cd_calculated.desc).map (fun d => d.parameters.length) = some 3 := by decide +kernel
theorem qm_Cd_calculate_d : qm_Cd_calculate.cls ≠ "java/lang/invoke/MethodHandle" ∧ qm_Cd_calculate.cls ≠ "java/lang/invoke/VarHandle" ∧ (parseMethodDescriptor qm_Cd_calculate.desc).map (fun d => d.parameters.length) = some 1 := by decide +kernel
theorem qm_Cd_handAddress_d : qm_Cd_handAddress.cls ≠ "java/lang/invoke/MethodHandle" ∧ qm_Cd_handAddress.cls ≠ "java/lang/invoke/VarHandle" ∧ (parseMethodDescriptor qm_Cd_handAddress.desc).map (fun d => d.parameters.length) = some 1 := by decide +kernel
theorem qm_Cd_go_d : qm_Cd_go.cls ≠ "java/lang/invoke/MethodHandle" ∧ qm_Cd_go.cls ≠ "java/lang/invoke/VarHandle" ∧ (parseMethodDescriptor qm_Cd_go.desc).map (fun d => d.parameters.length) = some 1 := by decide +kernel
theorem qm_Cd_holds_d : qm_Cd_holds.cls ≠ "java/lang/invoke/MethodHandle" ∧ qm_Cd_holds.cls ≠ "java/lang/invoke/VarHandle" ∧ (parseMethodDescriptor qm_Cd_holds.desc).map (fun d => d.parameters.length) = some 1 := by decide +kernel
theorem qm_Cd_branch_d : qm_Cd_branch.cls ≠ "java/lang/invoke/MethodHandle" ∧ qm_Cd_branch.cls ≠ "java/lang/invoke/VarHandle" ∧ (parseMethodDescriptor qm_Cd_branch.desc).map (fun d => d.parameters.length) = some 1 := by decide +kernel
theorem qm_Cd_count_d : qm_Cd_count.cls ≠ "java/lang/invoke/MethodHandle" ∧ qm_Cd_count.cls ≠ "java/lang/invoke/VarHandle" ∧ (parseMethodDescriptor qm_Cd_count.desc).map (fun d => d.parameters.length) = some 1 := by decide +kernel
theorem qm_Cd_noteOverflow_d : qm_Cd_noteOverflow.cls ≠ "java/lang/invoke/MethodHandle" ∧ qm_Cd_noteOverflow.cls ≠ "java/lang/invoke/VarHandle" ∧ (parseMethodDescriptor qm_Cd_noteOverflow.desc).map (fun d => d.parameters.length) = some 1 := by decide +kernel
theorem qm_Cd_execute_d : qm_Cd_execute.cls ≠ "java/lang/invoke/MethodHandle" ∧ qm_Cd_execute.cls ≠ "java/lang/invoke/VarHandle" ∧ (parseMethodDescriptor qm_Cd_execute.desc).map (fun d => d.parameters.length) = some 1 := by decide +kernel
theorem qm_Co_takeBack_d : qm_Co_takeBack.cls ≠ "java/lang/invoke/MethodHandle" ∧ qm_Co_takeBack.cls ≠ "java/lang/invoke/VarHandle" ∧ (parseMethodDescriptor qm_Co_takeBack.desc).map (fun d => d.parameters.length) = some 0 := by decide +kernel
theorem qm_X_except_d : qm_X_except.cls ≠ "java/lang/invoke/MethodHandle" ∧ qm_X_except.cls ≠ "java/lang/invoke/VarHandle" ∧ (parseMethodDescriptor qm_X_except.desc).map (fun d => d.parameters.length) = some 5 := by decide +kernel
theorem qm_X_settle_d : qm_X_settle.cls ≠ "java/lang/invoke/MethodHandle" ∧ qm_X_settle.cls ≠ "java/lang/invoke/VarHandle" ∧ (parseMethodDescriptor qm_X_settle.desc).map (fun d => d.parameters.length) = some 1 := by decide +kernel
theorem qm_X_step_d : qm_X_step.cls ≠ "java/lang/invoke/MethodHandle" ∧ qm_X_step.cls ≠ "java/lang/invoke/VarHandle" ∧ (parseMethodDescriptor qm_X_step.desc).map (fun d => d.parameters.length) = some 0 := by decide +kernel
theorem qm_X_run_d : qm_X_run.cls ≠ "java/lang/invoke/MethodHandle" ∧ qm_X_run.cls ≠ "java/lang/invoke/VarHandle" ∧ (parseMethodDescriptor qm_X_run.desc).map (fun d => d.parameters.length) = some 1 := by decide +kernel
theorem qm_X_reach_d : qm_X_reach.cls ≠ "java/lang/invoke/MethodHandle" ∧ qm_X_reach.cls ≠ "java/lang/invoke/VarHandle" ∧ (parseMethodDescriptor qm_X_reach.desc).map (fun d => d.parameters.length) = some 3 := by decide +kernel
theorem qm_X_state_d : qm_X_state.cls ≠ "java/lang/invoke/MethodHandle" ∧ qm_X_state.cls ≠ "java/lang/invoke/VarHandle" ∧ (parseMethodDescriptor qm_X_state.desc).map (fun d => d.parameters.length) = some 1 := by decide +kernel
theorem qm_M_thrown_d : qm_M_thrown.cls ≠ "java/lang/invoke/MethodHandle" ∧ qm_M_thrown.cls ≠ "java/lang/invoke/VarHandle" ∧ (parseMethodDescriptor qm_M_thrown.desc).map (fun d => d.parameters.length) = some 0 := by decide +kernel
theorem qm_M_fill_d : qm_M_fill.cls ≠ "java/lang/invoke/MethodHandle" ∧ qm_M_fill.cls ≠ "java/lang/invoke/VarHandle" ∧ (parseMethodDescriptor qm_M_fill.desc).map (fun d => d.parameters.length) = some 2 := by decide +kernel
theorem qm_M_bare_d : qm_M_bare.cls ≠ "java/lang/invoke/MethodHandle" ∧ qm_M_bare.cls ≠ "java/lang/invoke/VarHandle" ∧ (parseMethodDescriptor qm_M_bare.desc).map (fun d => d.parameters.length) = some 1 := by decide +kernel
theorem qm_M_look_d : qm_M_look.cls ≠ "java/lang/invoke/MethodHandle" ∧ qm_M_look.cls ≠ "java/lang/invoke/VarHandle" ∧ (parseMethodDescriptor qm_M_look.desc).map (fun d => d.parameters.length) = some 1 := by decide +kernel
theorem qm_M_mode_d : qm_M_mode.cls ≠ "java/lang/invoke/MethodHandle" ∧ qm_M_mode.cls ≠ "java/lang/invoke/VarHandle" ∧ (parseMethodDescriptor qm_M_mode.desc).map (fun d => d.parameters.length) = some 0 := by decide +kernel
theorem qm_M_put_d : qm_M_put.cls ≠ "java/lang/invoke/MethodHandle" ∧ qm_M_put.cls ≠ "java/lang/invoke/VarHandle" ∧ (parseMethodDescriptor qm_M_put.desc).map (fun d => d.parameters.length) = some 2 := by decide +kernel
theorem qm_M_set_d : qm_M_set.cls ≠ "java/lang/invoke/MethodHandle" ∧ qm_M_set.cls ≠ "java/lang/invoke/VarHandle" ∧ (parseMethodDescriptor qm_M_set.desc).map (fun d => d.parameters.length) = some 2 := by decide +kernel
theorem qm_M_fail_d : qm_M_fail.cls ≠ "java/lang/invoke/MethodHandle" ∧ qm_M_fail.cls ≠ "java/lang/invoke/VarHandle" ∧ (parseMethodDescriptor qm_M_fail.desc).map (fun d => d.parameters.length) = some 1 := by decide +kernel
theorem qm_M_get_d : qm_M_get.cls ≠ "java/lang/invoke/MethodHandle" ∧ qm_M_get.cls ≠ "java/lang/invoke/VarHandle" ∧ (parseMethodDescriptor qm_M_get.desc).map (fun d => d.parameters.length) = some 1 := by decide +kernel
theorem qm_M_register_d : qm_M_register.cls ≠ "java/lang/invoke/MethodHandle" ∧ qm_M_register.cls ≠ "java/lang/invoke/VarHandle" ∧ (parseMethodDescriptor qm_M_register.desc).map (fun d => d.parameters.length) = some 1 := by decide +kernel
theorem qm_M_isInner_d : qm_M_isInner.cls ≠ "java/lang/invoke/MethodHandle" ∧ qm_M_isInner.cls ≠ "java/lang/invoke/VarHandle" ∧ (parseMethodDescriptor qm_M_isInner.desc).map (fun d => d.parameters.length) = some 1 := by decide +kernel
theorem qm_M_setInner_d : qm_M_setInner.cls ≠ "java/lang/invoke/MethodHandle" ∧ qm_M_setInner.cls ≠ "java/lang/invoke/VarHandle" ∧ (parseMethodDescriptor qm_M_setInner.desc).map (fun d => d.parameters.length) = some 2 := by decide +kernel
theorem qm_M_inner_d : qm_M_inner.cls ≠ "java/lang/invoke/MethodHandle" ∧ qm_M_inner.cls ≠ "java/lang/invoke/VarHandle" ∧ (parseMethodDescriptor qm_M_inner.desc).map (fun d => d.parameters.length) = some 1 := by decide +kernel
theorem qm_M_begin_d : qm_M_begin.cls ≠ "java/lang/invoke/MethodHandle" ∧ qm_M_begin.cls ≠ "java/lang/invoke/VarHandle" ∧ (parseMethodDescriptor qm_M_begin.desc).map (fun d => d.parameters.length) = some 1 := by decide +kernel
theorem qm_M_status_d : qm_M_status.cls ≠ "java/lang/invoke/MethodHandle" ∧ qm_M_status.cls ≠ "java/lang/invoke/VarHandle" ∧ (parseMethodDescriptor qm_M_status.desc).map (fun d => d.parameters.length) = some 0 := by decide +kernel
theorem qm_M_keep_d : qm_M_keep.cls ≠ "java/lang/invoke/MethodHandle" ∧ qm_M_keep.cls ≠ "java/lang/invoke/VarHandle" ∧ (parseMethodDescriptor qm_M_keep.desc).map (fun d => d.parameters.length) = some 0 := by decide +kernel
theorem qm_M_below_d : qm_M_below.cls ≠ "java/lang/invoke/MethodHandle" ∧ qm_M_below.cls ≠ "java/lang/invoke/VarHandle" ∧ (parseMethodDescriptor qm_M_below.desc).map (fun d => d.parameters.length) = some 2 := by decide +kernel
theorem qm_M_find_d : qm_M_find.cls ≠ "java/lang/invoke/MethodHandle" ∧ qm_M_find.cls ≠ "java/lang/invoke/VarHandle" ∧ (parseMethodDescriptor qm_M_find.desc).map (fun d => d.parameters.length) = some 3 := by decide +kernel
theorem qm_M_wrong_d : qm_M_wrong.cls ≠ "java/lang/invoke/MethodHandle" ∧ qm_M_wrong.cls ≠ "java/lang/invoke/VarHandle" ∧ (parseMethodDescriptor qm_M_wrong.desc).map (fun d => d.parameters.length) = some 3 := by decide +kernel
theorem qm_M_readByte_d : qm_M_readByte.cls ≠ "java/lang/invoke/MethodHandle" ∧ qm_M_readByte.cls ≠ "java/lang/invoke/VarHandle" ∧ (parseMethodDescriptor qm_M_readByte.desc).map (fun d => d.parameters.length) = some 1 := by decide +kernel
theorem qm_M_next_d : qm_M_next.cls ≠ "java/lang/invoke/MethodHandle" ∧ qm_M_next.cls ≠ "java/lang/invoke/VarHandle" ∧ (parseMethodDescriptor qm_M_next.desc).map (fun d => d.parameters.length) = some 0 := by decide +kernel
theorem qm_M_shape_d : qm_M_shape.cls ≠ "java/lang/invoke/MethodHandle" ∧ qm_M_shape.cls ≠ "java/lang/invoke/VarHandle" ∧ (parseMethodDescriptor qm_M_shape.desc).map (fun d => d.parameters.length) = some 1 := by decide +kernel
theorem qm_M_signed_d : qm_M_signed.cls ≠ "java/lang/invoke/MethodHandle" ∧ qm_M_signed.cls ≠ "java/lang/invoke/VarHandle" ∧ (parseMethodDescriptor qm_M_signed.desc).map (fun d => d.parameters.length) = some 1 := by decide +kernel
theorem qm_M_readLong_d : qm_M_readLong.cls ≠ "java/lang/invoke/MethodHandle" ∧ qm_M_readLong.cls ≠ "java/lang/invoke/VarHandle" ∧ (parseMethodDescriptor qm_M_readLong.desc).map (fun d => d.parameters.length) = some 1 := by decide +kernel
theorem qm_M_operand_d : qm_M_operand.cls ≠ "java/lang/invoke/MethodHandle" ∧ qm_M_operand.cls ≠ "java/lang/invoke/VarHandle" ∧ (parseMethodDescriptor qm_M_operand.desc).map (fun d => d.parameters.length) = some 2 := by decide +kernel
theorem qm_M_pop_d : qm_M_pop.cls ≠ "java/lang/invoke/MethodHandle" ∧ qm_M_pop.cls ≠ "java/lang/invoke/VarHandle" ∧ (parseMethodDescriptor qm_M_pop.desc).map (fun d => d.parameters.length) = some 0 := by decide +kernel
theorem qm_M_endException_d : qm_M_endException.cls ≠ "java/lang/invoke/MethodHandle" ∧ qm_M_endException.cls ≠ "java/lang/invoke/VarHandle" ∧ (parseMethodDescriptor qm_M_endException.desc).map (fun d => d.parameters.length) = some 0 := by decide +kernel
theorem qm_M_comeBack_d : qm_M_comeBack.cls ≠ "java/lang/invoke/MethodHandle" ∧ qm_M_comeBack.cls ≠ "java/lang/invoke/VarHandle" ∧ (parseMethodDescriptor qm_M_comeBack.desc).map (fun d => d.parameters.length) = some 0 := by decide +kernel
theorem qm_M_mark_d : qm_M_mark.cls ≠ "java/lang/invoke/MethodHandle" ∧ qm_M_mark.cls ≠ "java/lang/invoke/VarHandle" ∧ (parseMethodDescriptor qm_M_mark.desc).map (fun d => d.parameters.length) = some 3 := by decide +kernel
theorem qm_M_write_d : qm_M_write.cls ≠ "java/lang/invoke/MethodHandle" ∧ qm_M_write.cls ≠ "java/lang/invoke/VarHandle" ∧ (parseMethodDescriptor qm_M_write.desc).map (fun d => d.parameters.length) = some 3 := by decide +kernel
theorem qm_M_give_d : qm_M_give.cls ≠ "java/lang/invoke/MethodHandle" ∧ qm_M_give.cls ≠ "java/lang/invoke/VarHandle" ∧ (parseMethodDescriptor qm_M_give.desc).map (fun d => d.parameters.length) = some 3 := by decide +kernel
theorem qm_M_innerOnes_d : qm_M_innerOnes.cls ≠ "java/lang/invoke/MethodHandle" ∧ qm_M_innerOnes.cls ≠ "java/lang/invoke/VarHandle" ∧ (parseMethodDescriptor qm_M_innerOnes.desc).map (fun d => d.parameters.length) = some 1 := by decide +kernel
theorem qm_M_has_d : qm_M_has.cls ≠ "java/lang/invoke/MethodHandle" ∧ qm_M_has.cls ≠ "java/lang/invoke/VarHandle" ∧ (parseMethodDescriptor qm_M_has.desc).map (fun d => d.parameters.length) = some 1 := by decide +kernel
theorem qm_M_push_d : qm_M_push.cls ≠ "java/lang/invoke/MethodHandle" ∧ qm_M_push.cls ≠ "java/lang/invoke/VarHandle" ∧ (parseMethodDescriptor qm_M_push.desc).map (fun d => d.parameters.length) = some 1 := by decide +kernel
theorem qm_M_move_d : qm_M_move.cls ≠ "java/lang/invoke/MethodHandle" ∧ qm_M_move.cls ≠ "java/lang/invoke/VarHandle" ∧ (parseMethodDescriptor qm_M_move.desc).map (fun d => d.parameters.length) = some 1 := by decide +kernel
theorem qm_M_reckon_d : qm_M_reckon.cls ≠ "java/lang/invoke/MethodHandle" ∧ qm_M_reckon.cls ≠ "java/lang/invoke/VarHandle" ∧ (parseMethodDescriptor qm_M_reckon.desc).map (fun d => d.parameters.length) = some 4 := by decide +kernel
theorem qm_M_shift_d : qm_M_shift.cls ≠ "java/lang/invoke/MethodHandle" ∧ qm_M_shift.cls ≠ "java/lang/invoke/VarHandle" ∧ (parseMethodDescriptor qm_M_shift.desc).map (fun d => d.parameters.length) = some 2 := by decide +kernel
theorem qm_M_go_d : qm_M_go.cls ≠ "java/lang/invoke/MethodHandle" ∧ qm_M_go.cls ≠ "java/lang/invoke/VarHandle" ∧ (parseMethodDescriptor qm_M_go.desc).map (fun d => d.parameters.length) = some 1 := by decide +kernel
theorem qm_M_isMet_d : qm_M_isMet.cls ≠ "java/lang/invoke/MethodHandle" ∧ qm_M_isMet.cls ≠ "java/lang/invoke/VarHandle" ∧ (parseMethodDescriptor qm_M_isMet.desc).map (fun d => d.parameters.length) = some 1 := by decide +kernel
theorem qm_M_count_d : qm_M_count.cls ≠ "java/lang/invoke/MethodHandle" ∧ qm_M_count.cls ≠ "java/lang/invoke/VarHandle" ∧ (parseMethodDescriptor qm_M_count.desc).map (fun d => d.parameters.length) = some 1 := by decide +kernel
theorem qm_M_callFrame_d : qm_M_callFrame.cls ≠ "java/lang/invoke/MethodHandle" ∧ qm_M_callFrame.cls ≠ "java/lang/invoke/VarHandle" ∧ (parseMethodDescriptor qm_M_callFrame.desc).map (fun d => d.parameters.length) = some 0 := by decide +kernel
theorem qm_M_probe_d : qm_M_probe.cls ≠ "java/lang/invoke/MethodHandle" ∧ qm_M_probe.cls ≠ "java/lang/invoke/VarHandle" ∧ (parseMethodDescriptor qm_M_probe.desc).map (fun d => d.parameters.length) = some 1 := by decide +kernel
theorem qm_M_work_d : qm_M_work.cls ≠ "java/lang/invoke/MethodHandle" ∧ qm_M_work.cls ≠ "java/lang/invoke/VarHandle" ∧ (parseMethodDescriptor qm_M_work.desc).map (fun d => d.parameters.length) = some 1 := by decide +kernel
theorem qm_M_bringBack_d : qm_M_bringBack.cls ≠ "java/lang/invoke/MethodHandle" ∧ qm_M_bringBack.cls ≠ "java/lang/invoke/VarHandle" ∧ (parseMethodDescriptor qm_M_bringBack.desc).map (fun d => d.parameters.length) = some 0 := by decide +kernel
theorem qm_M_raise_d : qm_M_raise.cls ≠ "java/lang/invoke/MethodHandle" ∧ qm_M_raise.cls ≠ "java/lang/invoke/VarHandle" ∧ (parseMethodDescriptor qm_M_raise.desc).map (fun d => d.parameters.length) = some 3 := by decide +kernel
theorem qm_M_instruction_d : qm_M_instruction.cls ≠ "java/lang/invoke/MethodHandle" ∧ qm_M_instruction.cls ≠ "java/lang/invoke/VarHandle" ∧ (parseMethodDescriptor qm_M_instruction.desc).map (fun d => d.parameters.length) = some 0 := by decide +kernel
theorem qm_M_run_d : qm_M_run.cls ≠ "java/lang/invoke/MethodHandle" ∧ qm_M_run.cls ≠ "java/lang/invoke/VarHandle" ∧ (parseMethodDescriptor qm_M_run.desc).map (fun d => d.parameters.length) = some 1 := by decide +kernel
theorem qm_M_reach_d : qm_M_reach.cls ≠ "java/lang/invoke/MethodHandle" ∧ qm_M_reach.cls ≠ "java/lang/invoke/VarHandle" ∧ (parseMethodDescriptor qm_M_reach.desc).map (fun d => d.parameters.length) = some 3 := by decide +kernel
theorem qm_M_state_d : qm_M_state.cls ≠ "java/lang/invoke/MethodHandle" ∧ qm_M_state.cls ≠ "java/lang/invoke/VarHandle" ∧ (parseMethodDescriptor qm_M_state.desc).map (fun d => d.parameters.length) = some 1 := by decide +kernel
