/-! ===== BEGIN printed: names, fields, word lists, decode rows ===== -/
def RX0 : String := "BudgetBook$Cells"
def TX0 : u_T := fun k => match k with
  | _ => ("BudgetBook$Cells", "amounts", "[I", true)
def tyX0 : Nat → FieldType := fun k => match k with
  | _ => .array .int
abbrev wsX00 : List Cond := u_ws RX0 TX0 1
theorem nmX0 : ∀ a, a < 1 → ∀ b, b < 1 → a ≠ b → (TX0 a).2.1 ≠ (TX0 b).2.1 := by decide +kernel
theorem tyX0_ok : ∀ k, k < 1 → parseFieldDescriptor (TX0 k).2.2.1 = some (tyX0 k) := by decide +kernel
abbrev cX0_init : ByteArray := prog_2_method_1_code
def yX0_init : MethodName := ⟨RX0, "<init>", "()V"⟩
abbrev cX0_indexOf : ByteArray := prog_2_method_2_code
def yX0_indexOf : MethodName := ⟨RX0, "indexOf", "(IIII)I"⟩
abbrev cX0_at : ByteArray := prog_2_method_3_code
def yX0_at : MethodName := ⟨RX0, "at", "(IIII)I"⟩
abbrev cX0_put : ByteArray := prog_2_method_4_code
def yX0_put : MethodName := ⟨RX0, "put", "(IIIII)I"⟩
abbrev cX0_valueOf : ByteArray := prog_2_method_5_code
def yX0_valueOf : MethodName := ⟨RX0, "valueOf", "(IIII)I"⟩
abbrev cX0_sumOver : ByteArray := prog_2_method_6_code
def yX0_sumOver : MethodName := ⟨RX0, "sumOver", "(IIII)I"⟩
abbrev cX0_yearOf : ByteArray := prog_2_method_7_code
def yX0_yearOf : MethodName := ⟨RX0, "yearOf", "(III)I"⟩
abbrev cX0_copyLayer : ByteArray := prog_2_method_8_code
def yX0_copyLayer : MethodName := ⟨RX0, "copyLayer", "(II)I"⟩
abbrev cX0_isBlank : ByteArray := prog_2_method_9_code
def yX0_isBlank : MethodName := ⟨RX0, "isBlank", "(I)Z"⟩
abbrev cX0_countFilled : ByteArray := prog_2_method_10_code
def yX0_countFilled : MethodName := ⟨RX0, "countFilled", "()I"⟩
def RX1 : String := "BudgetBook$Shares"
def TX1 : u_T := fun k => match k with
  | 0 => ("BudgetBook$Shares", "weights", "[I", true)
  | _ => ("BudgetBook$Shares", "shares", "[I", true)
def tyX1 : Nat → FieldType := fun k => match k with
  | 0 => .array .int
  | _ => .array .int
abbrev wsX10 : List Cond := u_ws RX1 TX1 2
theorem nmX1 : ∀ a, a < 2 → ∀ b, b < 2 → a ≠ b → (TX1 a).2.1 ≠ (TX1 b).2.1 := by decide +kernel
theorem tyX1_ok : ∀ k, k < 2 → parseFieldDescriptor (TX1 k).2.2.1 = some (tyX1 k) := by decide +kernel
abbrev cX1_init : ByteArray := prog_3_method_1_code
def yX1_init : MethodName := ⟨RX1, "<init>", "()V"⟩
abbrev cX1_weigh : ByteArray := prog_3_method_2_code
def yX1_weigh : MethodName := ⟨RX1, "weigh", "(II)I"⟩
abbrev cX1_shareOf : ByteArray := prog_3_method_3_code
def yX1_shareOf : MethodName := ⟨RX1, "shareOf", "(I)I"⟩
abbrev cX1_totalWeight : ByteArray := prog_3_method_4_code
def yX1_totalWeight : MethodName := ⟨RX1, "totalWeight", "()I"⟩
abbrev cX1_divide : ByteArray := prog_3_method_5_code
def yX1_divide : MethodName := ⟨RX1, "divide", "(I)V"⟩
def RX2 : String := "BudgetBook$Tree"
def TX2 : u_T := fun k => match k with
  | 0 => ("BudgetBook$Tree", "parents", "[I", true)
  | 1 => ("BudgetBook$Tree", "count", "I", false)
  | _ => ("BudgetBook$Tree", "placesWithChildren", "I", false)
def tyX2 : Nat → FieldType := fun k => match k with
  | 0 => .array .int
  | 1 => .int
  | _ => .int
abbrev wsX20 : List Cond := u_ws RX2 TX2 3
theorem nmX2 : ∀ a, a < 3 → ∀ b, b < 3 → a ≠ b → (TX2 a).2.1 ≠ (TX2 b).2.1 := by decide +kernel
theorem tyX2_ok : ∀ k, k < 3 → parseFieldDescriptor (TX2 k).2.2.1 = some (tyX2 k) := by decide +kernel
abbrev cX2_init : ByteArray := prog_4_method_1_code
def yX2_init : MethodName := ⟨RX2, "<init>", "()V"⟩
abbrev cX2_size : ByteArray := prog_4_method_2_code
def yX2_size : MethodName := ⟨RX2, "size", "()I"⟩
abbrev cX2_has : ByteArray := prog_4_method_3_code
def yX2_has : MethodName := ⟨RX2, "has", "(I)Z"⟩
abbrev cX2_isFull : ByteArray := prog_4_method_4_code
def yX2_isFull : MethodName := ⟨RX2, "isFull", "()Z"⟩
abbrev cX2_isLeaf : ByteArray := prog_4_method_5_code
def yX2_isLeaf : MethodName := ⟨RX2, "isLeaf", "(I)Z"⟩
abbrev cX2_addBelow : ByteArray := prog_4_method_6_code
def yX2_addBelow : MethodName := ⟨RX2, "addBelow", "(I)I"⟩
abbrev cX2_leavesBelow : ByteArray := prog_4_method_7_code
def yX2_leavesBelow : MethodName := ⟨RX2, "leavesBelow", "(I)I"⟩
def RX3 : String := "BudgetBook"
def TX3 : u_T := fun k => match k with
  | 0 => ("BudgetBook", "tree", "LBudgetBook$Tree;", true)
  | 1 => ("BudgetBook", "cells", "LBudgetBook$Cells;", true)
  | 2 => ("BudgetBook", "heldLeavesByMonth", "[I", true)
  | 3 => ("BudgetBook", "closedLeavesByVersion", "[I", true)
  | 4 => ("BudgetBook", "seasons", "LBudgetBook$Shares;", true)
  | 5 => ("BudgetBook", "leafShares", "LBudgetBook$Shares;", true)
  | _ => ("BudgetBook", "seenMonths", "I", false)
def tyX3 : Nat → FieldType := fun k => match k with
  | 0 => .object "BudgetBook$Tree"
  | 1 => .object "BudgetBook$Cells"
  | 2 => .array .int
  | 3 => .array .int
  | 4 => .object "BudgetBook$Shares"
  | 5 => .object "BudgetBook$Shares"
  | _ => .int
abbrev wsX30 : List Cond := u_ws RX3 TX3 7
theorem nmX3 : ∀ a, a < 7 → ∀ b, b < 7 → a ≠ b → (TX3 a).2.1 ≠ (TX3 b).2.1 := by decide +kernel
theorem tyX3_ok : ∀ k, k < 7 → parseFieldDescriptor (TX3 k).2.2.1 = some (tyX3 k) := by decide +kernel
abbrev cX3_init : ByteArray := prog_1_method_1_code
def yX3_init : MethodName := ⟨RX3, "<init>", "()V"⟩
abbrev cX3_addPlace : ByteArray := prog_1_method_2_code
def yX3_addPlace : MethodName := ⟨RX3, "addPlace", "(I)I"⟩
abbrev cX3_places : ByteArray := prog_1_method_3_code
def yX3_places : MethodName := ⟨RX3, "places", "()I"⟩
abbrev cX3_leaves : ByteArray := prog_1_method_4_code
def yX3_leaves : MethodName := ⟨RX3, "leaves", "(I)I"⟩
abbrev cX3_set : ByteArray := prog_1_method_5_code
def yX3_set : MethodName := ⟨RX3, "set", "(IIIII)I"⟩
abbrev cX3_hold : ByteArray := prog_1_method_6_code
def yX3_hold : MethodName := ⟨RX3, "hold", "(IIZ)Z"⟩
abbrev cX3_setSeason : ByteArray := prog_1_method_7_code
def yX3_setSeason : MethodName := ⟨RX3, "setSeason", "(II)I"⟩
abbrev cX3_spread : ByteArray := prog_1_method_8_code
def yX3_spread : MethodName := ⟨RX3, "spread", "(IIIII)I"⟩
abbrev cX3_spreadYear : ByteArray := prog_1_method_9_code
def yX3_spreadYear : MethodName := ⟨RX3, "spreadYear", "(III)I"⟩
abbrev cX3_copy : ByteArray := prog_1_method_10_code
def yX3_copy : MethodName := ⟨RX3, "copy", "(II)I"⟩
abbrev cX3_handIn : ByteArray := prog_1_method_11_code
def yX3_handIn : MethodName := ⟨RX3, "handIn", "(II)I"⟩
abbrev cX3_takeBack : ByteArray := prog_1_method_12_code
def yX3_takeBack : MethodName := ⟨RX3, "takeBack", "(II)I"⟩
abbrev cX3_see : ByteArray := prog_1_method_13_code
def yX3_see : MethodName := ⟨RX3, "see", "(IIII)I"⟩
abbrev cX3_closeMonth : ByteArray := prog_1_method_14_code
def yX3_closeMonth : MethodName := ⟨RX3, "closeMonth", "()I"⟩
abbrev cX3_amount : ByteArray := prog_1_method_15_code
def yX3_amount : MethodName := ⟨RX3, "amount", "(IIII)I"⟩
abbrev cX3_outlook : ByteArray := prog_1_method_16_code
def yX3_outlook : MethodName := ⟨RX3, "outlook", "(IIII)I"⟩
abbrev cX3_year : ByteArray := prog_1_method_17_code
def yX3_year : MethodName := ⟨RX3, "year", "(III)I"⟩
abbrev cX3_yearByLeaves : ByteArray := prog_1_method_18_code
def yX3_yearByLeaves : MethodName := ⟨RX3, "yearByLeaves", "(III)I"⟩
abbrev cX3_filled : ByteArray := prog_1_method_19_code
def yX3_filled : MethodName := ⟨RX3, "filled", "()I"⟩
abbrev cX3_gap : ByteArray := prog_1_method_20_code
def yX3_gap : MethodName := ⟨RX3, "gap", "(IIII)I"⟩
abbrev cX3_gapOfLeaf : ByteArray := prog_1_method_21_code
def yX3_gapOfLeaf : MethodName := ⟨RX3, "gapOfLeaf", "(IIII)I"⟩
abbrev cX3_gapPart : ByteArray := prog_1_method_22_code
def yX3_gapPart : MethodName := ⟨RX3, "gapPart", "(IIIII)I"⟩
abbrev cX3_isInUse : ByteArray := prog_1_method_23_code
def yX3_isInUse : MethodName := ⟨RX3, "isInUse", "(I)Z"⟩
abbrev cX3_freeAmong : ByteArray := prog_1_method_24_code
def yX3_freeAmong : MethodName := ⟨RX3, "freeAmong", "(III)I"⟩
abbrev cX3_restOf : ByteArray := prog_1_method_25_code
def yX3_restOf : MethodName := ⟨RX3, "restOf", "(IIII)I"⟩
abbrev cX3_checkSpreadable : ByteArray := prog_1_method_26_code
def yX3_checkSpreadable : MethodName := ⟨RX3, "checkSpreadable", "(IIII)V"⟩
abbrev cX3_spreadOver : ByteArray := prog_1_method_27_code
def yX3_spreadOver : MethodName := ⟨RX3, "spreadOver", "(IIIII)I"⟩
abbrev cX3_weighLeaves : ByteArray := prog_1_method_28_code
def yX3_weighLeaves : MethodName := ⟨RX3, "weighLeaves", "(IIII)V"⟩
abbrev cX3_checkVersion : ByteArray := prog_1_method_29_code
def yX3_checkVersion : MethodName := ⟨RX3, "checkVersion", "(I)V"⟩
abbrev cX3_checkPlace : ByteArray := prog_1_method_30_code
def yX3_checkPlace : MethodName := ⟨RX3, "checkPlace", "(I)V"⟩
abbrev cX3_checkAccount : ByteArray := prog_1_method_31_code
def yX3_checkAccount : MethodName := ⟨RX3, "checkAccount", "(I)V"⟩
abbrev cX3_checkCellAccount : ByteArray := prog_1_method_32_code
def yX3_checkCellAccount : MethodName := ⟨RX3, "checkCellAccount", "(I)V"⟩
abbrev cX3_checkMonth : ByteArray := prog_1_method_33_code
def yX3_checkMonth : MethodName := ⟨RX3, "checkMonth", "(I)V"⟩
abbrev cX3_checkUpTo : ByteArray := prog_1_method_34_code
def yX3_checkUpTo : MethodName := ⟨RX3, "checkUpTo", "(II)V"⟩
abbrev cX3_checkLeaf : ByteArray := prog_1_method_35_code
def yX3_checkLeaf : MethodName := ⟨RX3, "checkLeaf", "(I)V"⟩
abbrev cX3_mostOf : ByteArray := prog_1_method_36_code
def yX3_mostOf : MethodName := ⟨RX3, "mostOf", "(I)I"⟩
abbrev cX3_isIn : ByteArray := prog_1_method_37_code
def yX3_isIn : MethodName := ⟨RX3, "isIn", "(II)Z"⟩
def RX4 : String := "BudgetBookModel"
def TX4 : u_T := fun k => match k with
  | _ => ("", "", "", false)
def tyX4 : Nat → FieldType := fun k => match k with
  | _ => .int
abbrev wsX40 : List Cond := u_ws RX4 TX4 0
theorem nmX4 : ∀ a, a < 0 → ∀ b, b < 0 → a ≠ b → (TX4 a).2.1 ≠ (TX4 b).2.1 := by decide +kernel
theorem tyX4_ok : ∀ k, k < 0 → parseFieldDescriptor (TX4 k).2.2.1 = some (tyX4 k) := by decide +kernel
def RJ6 : String := "java/lang/Integer"
def TJ6 : u_T := fun k => match k with
  | _ => ("", "", "", false)
def tyJ6 : Nat → FieldType := fun k => match k with
  | _ => .int
abbrev wsJ60 : List Cond := u_ws RJ6 TJ6 0
theorem nmJ6 : ∀ a, a < 0 → ∀ b, b < 0 → a ≠ b → (TJ6 a).2.1 ≠ (TJ6 b).2.1 := by decide +kernel
theorem tyJ6_ok : ∀ k, k < 0 → parseFieldDescriptor (TJ6 k).2.2.1 = some (tyJ6 k) := by decide +kernel
abbrev cJ6_bitCount_0f7a4 : ByteArray := prog_11_method_49_code
def yJ6_bitCount_0f7a4 : MethodName := ⟨RJ6, "bitCount", "(I)I"⟩
def RJ0 : String := "java/lang/String"
def TJ0 : u_T := fun k => match k with
  | _ => ("", "", "", false)
def tyJ0 : Nat → FieldType := fun k => match k with
  | _ => .int
abbrev wsJ00 : List Cond := u_ws RJ0 TJ0 0
theorem nmJ0 : ∀ a, a < 0 → ∀ b, b < 0 → a ≠ b → (TJ0 a).2.1 ≠ (TJ0 b).2.1 := by decide +kernel
theorem tyJ0_ok : ∀ k, k < 0 → parseFieldDescriptor (TJ0 k).2.2.1 = some (tyJ0 k) := by decide +kernel
def RL : String := "BudgetBookLaw"
abbrev cL_low : ByteArray := method_2_code
def yL_low : MethodName := ⟨RL, "low", "(II)I"⟩
abbrev cL_cell : ByteArray := method_3_code
def yL_cell : MethodName := ⟨RL, "cell", "([II)I"⟩
abbrev cL_add : ByteArray := method_4_code
def yL_add : MethodName := ⟨RL, "add", "(LBudgetBook;I)I"⟩
abbrev cL_set : ByteArray := method_5_code
def yL_set : MethodName := ⟨RL, "set", "(LBudgetBook;IIIII)I"⟩
abbrev cL_spread : ByteArray := method_6_code
def yL_spread : MethodName := ⟨RL, "spread", "(LBudgetBook;IIIII)I"⟩
abbrev cL_spreadYear : ByteArray := method_7_code
def yL_spreadYear : MethodName := ⟨RL, "spreadYear", "(LBudgetBook;III)I"⟩
abbrev cL_copy : ByteArray := method_8_code
def yL_copy : MethodName := ⟨RL, "copy", "(LBudgetBook;II)I"⟩
abbrev cL_see : ByteArray := method_9_code
def yL_see : MethodName := ⟨RL, "see", "(LBudgetBook;IIII)I"⟩
abbrev cL_holds : ByteArray := method_10_code
def yL_holds : MethodName := ⟨RL, "holds", "(LBudgetBook;III)Z"⟩
abbrev cL_isLeaf : ByteArray := method_11_code
def yL_isLeaf : MethodName := ⟨RL, "isLeaf", "(LBudgetBook;I)Z"⟩
abbrev cL_law : ByteArray := code
def yL_law : MethodName := ⟨RL, "law", "([I)Z"⟩
abbrev vwCl : List vw_C := [(RX0, TX0, 1), (RX1, TX1, 2), (RX2, TX2, 3), (RX3, TX3, 7)]
