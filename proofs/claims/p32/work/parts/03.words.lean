def RX0 : String := "ColourTide$Tide"
def TX0 : u_T := fun k => match k with
  | 0 => ("ColourTide$Tide", "board", "I", false)
  | 1 => ("ColourTide$Tide", "stubborn", "I", false)
  | 2 => ("ColourTide$Tide", "need", "I", false)
  | 3 => ("ColourTide$Tide", "sets", "[I", true)
  | 4 => ("ColourTide$Tide", "crowds", "[I", true)
  | _ => ("ColourTide$Tide", "gains", "[I", true)
def tyX0 : Nat → FieldType := fun k => match k with
  | 0 => .int
  | 1 => .int
  | 2 => .int
  | 3 => .array .int
  | 4 => .array .int
  | _ => .array .int
abbrev wsX00 : List Cond := u_ws RX0 TX0 6
theorem nmX0 : ∀ a, a < 6 → ∀ b, b < 6 → a ≠ b → (TX0 a).2.1 ≠ (TX0 b).2.1 := by decide +kernel
theorem tyX0_ok : ∀ k, k < 6 → parseFieldDescriptor (TX0 k).2.2.1 = some (tyX0 k) := by decide +kernel
abbrev cX0_init : ByteArray := prog_2_method_1_code
def yX0_init : MethodName := ⟨RX0, "<init>", "()V"⟩
abbrev cX0_clear : ByteArray := prog_2_method_2_code
def yX0_clear : MethodName := ⟨RX0, "clear", "(II)V"⟩
abbrev cX0_cellsWith : ByteArray := prog_2_method_4_code
def yX0_cellsWith : MethodName := ⟨RX0, "cellsWith", "(I)I"⟩
abbrev cX0_count : ByteArray := prog_2_method_5_code
def yX0_count : MethodName := ⟨RX0, "count", "(I)I"⟩
abbrev cX0_isAll : ByteArray := prog_2_method_6_code
def yX0_isAll : MethodName := ⟨RX0, "isAll", "(I)Z"⟩
abbrev cX0_colourOf : ByteArray := prog_2_method_7_code
def yX0_colourOf : MethodName := ⟨RX0, "colourOf", "(I)I"⟩
abbrev cX0_dye : ByteArray := prog_2_method_8_code
def yX0_dye : MethodName := ⟨RX0, "dye", "(II)V"⟩
abbrev cX0_surge : ByteArray := prog_2_method_9_code
def yX0_surge : MethodName := ⟨RX0, "surge", "(I)I"⟩
abbrev cX0_foresee : ByteArray := prog_2_method_10_code
def yX0_foresee : MethodName := ⟨RX0, "foresee", "()I"⟩
abbrev cX0_foreseenColourOf : ByteArray := prog_2_method_11_code
def yX0_foreseenColourOf : MethodName := ⟨RX0, "foreseenColourOf", "(I)I"⟩
abbrev cX0_sizeOfRegion : ByteArray := prog_2_method_12_code
def yX0_sizeOfRegion : MethodName := ⟨RX0, "sizeOfRegion", "(I)I"⟩
abbrev cX0_countRegions : ByteArray := prog_2_method_13_code
def yX0_countRegions : MethodName := ⟨RX0, "countRegions", "(I)I"⟩
abbrev cX0_sizeOfGreatestRegion : ByteArray := prog_2_method_14_code
def yX0_sizeOfGreatestRegion : MethodName := ⟨RX0, "sizeOfGreatestRegion", "(I)I"⟩
abbrev cX0_countBorders : ByteArray := prog_2_method_15_code
def yX0_countBorders : MethodName := ⟨RX0, "countBorders", "()I"⟩
abbrev cX0_addGains : ByteArray := prog_2_method_16_code
def yX0_addGains : MethodName := ⟨RX0, "addGains", "(I)V"⟩
abbrev cX0_takeGains : ByteArray := prog_2_method_17_code
def yX0_takeGains : MethodName := ⟨RX0, "takeGains", "(I)V"⟩
abbrev cX0_withNeighbours : ByteArray := prog_2_method_18_code
def yX0_withNeighbours : MethodName := ⟨RX0, "withNeighbours", "(II)I"⟩
abbrev cX0_regionFrom : ByteArray := prog_2_method_19_code
def yX0_regionFrom : MethodName := ⟨RX0, "regionFrom", "(II)I"⟩
abbrev cX0_countPairs : ByteArray := prog_2_method_20_code
def yX0_countPairs : MethodName := ⟨RX0, "countPairs", "(I)I"⟩
abbrev cX0_firstColourWith : ByteArray := prog_2_method_21_code
def yX0_firstColourWith : MethodName := ⟨RX0, "firstColourWith", "(I[I)I"⟩
def RX1 : String := "ColourTide"
def TX1 : u_T := fun k => match k with
  | 0 => ("ColourTide", "map", "LColourTide$Tide;", true)
  | 1 => ("ColourTide", "trial", "LColourTide$Tide;", true)
  | 2 => ("ColourTide", "width", "I", false)
  | 3 => ("ColourTide", "height", "I", false)
  | _ => ("ColourTide", "waves", "I", false)
def tyX1 : Nat → FieldType := fun k => match k with
  | 0 => .object "ColourTide$Tide"
  | 1 => .object "ColourTide$Tide"
  | 2 => .int
  | 3 => .int
  | _ => .int
abbrev wsX10 : List Cond := u_ws RX1 TX1 5
theorem nmX1 : ∀ a, a < 5 → ∀ b, b < 5 → a ≠ b → (TX1 a).2.1 ≠ (TX1 b).2.1 := by decide +kernel
theorem tyX1_ok : ∀ k, k < 5 → parseFieldDescriptor (TX1 k).2.2.1 = some (tyX1 k) := by decide +kernel
abbrev cX1_init : ByteArray := prog_1_method_1_code
def yX1_init : MethodName := ⟨RX1, "<init>", "()V"⟩
abbrev cX1_newMap : ByteArray := prog_1_method_2_code
def yX1_newMap : MethodName := ⟨RX1, "newMap", "(II)I"⟩
abbrev cX1_paint : ByteArray := prog_1_method_3_code
def yX1_paint : MethodName := ⟨RX1, "paint", "(III)I"⟩
abbrev cX1_turnStubborn : ByteArray := prog_1_method_4_code
def yX1_turnStubborn : MethodName := ⟨RX1, "turnStubborn", "(II)Z"⟩
abbrev cX1_setNeed : ByteArray := prog_1_method_5_code
def yX1_setNeed : MethodName := ⟨RX1, "setNeed", "(I)I"⟩
abbrev cX1_pass : ByteArray := prog_1_method_6_code
def yX1_pass : MethodName := ⟨RX1, "pass", "(I)I"⟩
abbrev cX1_colourAt : ByteArray := prog_1_method_7_code
def yX1_colourAt : MethodName := ⟨RX1, "colourAt", "(II)I"⟩
abbrev cX1_isStubborn : ByteArray := prog_1_method_8_code
def yX1_isStubborn : MethodName := ⟨RX1, "isStubborn", "(II)Z"⟩
abbrev cX1_neighboursWith : ByteArray := prog_1_method_9_code
def yX1_neighboursWith : MethodName := ⟨RX1, "neighboursWith", "(III)I"⟩
abbrev cX1_nextColour : ByteArray := prog_1_method_10_code
def yX1_nextColour : MethodName := ⟨RX1, "nextColour", "(II)I"⟩
abbrev cX1_regionSize : ByteArray := prog_1_method_11_code
def yX1_regionSize : MethodName := ⟨RX1, "regionSize", "(II)I"⟩
abbrev cX1_width : ByteArray := prog_1_method_12_code
def yX1_width : MethodName := ⟨RX1, "width", "()I"⟩
abbrev cX1_height : ByteArray := prog_1_method_13_code
def yX1_height : MethodName := ⟨RX1, "height", "()I"⟩
abbrev cX1_need : ByteArray := prog_1_method_14_code
def yX1_need : MethodName := ⟨RX1, "need", "()I"⟩
abbrev cX1_waves : ByteArray := prog_1_method_15_code
def yX1_waves : MethodName := ⟨RX1, "waves", "()I"⟩
abbrev cX1_stubbornCells : ByteArray := prog_1_method_16_code
def yX1_stubbornCells : MethodName := ⟨RX1, "stubbornCells", "()I"⟩
abbrev cX1_cellsOf : ByteArray := prog_1_method_17_code
def yX1_cellsOf : MethodName := ⟨RX1, "cellsOf", "(I)I"⟩
abbrev cX1_regionsOf : ByteArray := prog_1_method_18_code
def yX1_regionsOf : MethodName := ⟨RX1, "regionsOf", "(I)I"⟩
abbrev cX1_greatestRegion : ByteArray := prog_1_method_19_code
def yX1_greatestRegion : MethodName := ⟨RX1, "greatestRegion", "(I)I"⟩
abbrev cX1_borders : ByteArray := prog_1_method_20_code
def yX1_borders : MethodName := ⟨RX1, "borders", "()I"⟩
abbrev cX1_leader : ByteArray := prog_1_method_21_code
def yX1_leader : MethodName := ⟨RX1, "leader", "()I"⟩
abbrev cX1_isStill : ByteArray := prog_1_method_22_code
def yX1_isStill : MethodName := ⟨RX1, "isStill", "()Z"⟩
abbrev cX1_winner : ByteArray := prog_1_method_23_code
def yX1_winner : MethodName := ⟨RX1, "winner", "()I"⟩
abbrev cX1_share : ByteArray := prog_1_method_29_code
def yX1_share : MethodName := ⟨RX1, "share", "(I)D"⟩
abbrev cX1_isOnMap : ByteArray := prog_1_method_38_code
def yX1_isOnMap : MethodName := ⟨RX1, "isOnMap", "(II)Z"⟩
abbrev cX1_isSide : ByteArray := prog_1_method_39_code
def yX1_isSide : MethodName := ⟨RX1, "isSide", "(I)Z"⟩
abbrev cX1_isColour : ByteArray := prog_1_method_40_code
def yX1_isColour : MethodName := ⟨RX1, "isColour", "(I)Z"⟩
abbrev cX1_isColourOrBare : ByteArray := prog_1_method_41_code
def yX1_isColourOrBare : MethodName := ⟨RX1, "isColourOrBare", "(I)Z"⟩
abbrev cX1_cell : ByteArray := prog_1_method_42_code
def yX1_cell : MethodName := ⟨RX1, "cell", "(II)I"⟩
abbrev cX1_nextTo : ByteArray := prog_1_method_43_code
def yX1_nextTo : MethodName := ⟨RX1, "nextTo", "(I)I"⟩
def RX2 : String := "ColourTideLaw$Sim"
def TX2 : u_T := fun k => match k with
  | 0 => ("ColourTideLaw$Sim", "w", "I", false)
  | 1 => ("ColourTideLaw$Sim", "h", "I", false)
  | 2 => ("ColourTideLaw$Sim", "need", "I", false)
  | 3 => ("ColourTideLaw$Sim", "waves", "I", false)
  | 4 => ("ColourTideLaw$Sim", "map", "[[I", false)
  | _ => ("ColourTideLaw$Sim", "stubborn", "[[Z", false)
def tyX2 : Nat → FieldType := fun k => match k with
  | 0 => .int
  | 1 => .int
  | 2 => .int
  | 3 => .int
  | 4 => .array (.array .int)
  | _ => .array (.array .boolean)
abbrev wsX20 : List Cond := u_ws RX2 TX2 6
theorem nmX2 : ∀ a, a < 6 → ∀ b, b < 6 → a ≠ b → (TX2 a).2.1 ≠ (TX2 b).2.1 := by decide +kernel
theorem tyX2_ok : ∀ k, k < 6 → parseFieldDescriptor (TX2 k).2.2.1 = some (tyX2 k) := by decide +kernel
abbrev cX2_init : ByteArray := prog_4_method_1_code
def yX2_init : MethodName := ⟨RX2, "<init>", "(II)V"⟩
abbrev cX2_at : ByteArray := prog_4_method_2_code
def yX2_at : MethodName := ⟨RX2, "at", "(II)I"⟩
abbrev cX2_beside : ByteArray := prog_4_method_3_code
def yX2_beside : MethodName := ⟨RX2, "beside", "(III)I"⟩
abbrev cX2_bare : ByteArray := prog_4_method_4_code
def yX2_bare : MethodName := ⟨RX2, "bare", "(II)I"⟩
abbrev cX2_next : ByteArray := prog_4_method_5_code
def yX2_next : MethodName := ⟨RX2, "next", "(II)I"⟩
abbrev cX2_wave : ByteArray := prog_4_method_6_code
def yX2_wave : MethodName := ⟨RX2, "wave", "()I"⟩
abbrev cX2_cells : ByteArray := prog_4_method_7_code
def yX2_cells : MethodName := ⟨RX2, "cells", "(I)I"⟩
abbrev cX2_regions : ByteArray := prog_4_method_9_code
def yX2_regions : MethodName := ⟨RX2, "regions", "()[[I"⟩
abbrev cX2_isSame : ByteArray := prog_4_method_11_code
def yX2_isSame : MethodName := ⟨RX2, "isSame", "(LColourTide;)Z"⟩
def RX3 : String := "ColourTideModel"
def TX3 : u_T := fun k => match k with
  | _ => ("", "", "", false)
def tyX3 : Nat → FieldType := fun k => match k with
  | _ => .int
abbrev wsX30 : List Cond := u_ws RX3 TX3 0
theorem nmX3 : ∀ a, a < 0 → ∀ b, b < 0 → a ≠ b → (TX3 a).2.1 ≠ (TX3 b).2.1 := by decide +kernel
theorem tyX3_ok : ∀ k, k < 0 → parseFieldDescriptor (TX3 k).2.2.1 = some (tyX3 k) := by decide +kernel
def RJ6 : String := "java/lang/Integer"
def TJ6 : u_T := fun k => match k with
  | _ => ("", "", "", false)
def tyJ6 : Nat → FieldType := fun k => match k with
  | _ => .int
abbrev wsJ60 : List Cond := u_ws RJ6 TJ6 0
theorem nmJ6 : ∀ a, a < 0 → ∀ b, b < 0 → a ≠ b → (TJ6 a).2.1 ≠ (TJ6 b).2.1 := by decide +kernel
theorem tyJ6_ok : ∀ k, k < 0 → parseFieldDescriptor (TJ6 k).2.2.1 = some (tyJ6 k) := by decide +kernel
abbrev cJ6_bitCount_0f7a4 : ByteArray := prog_9_method_49_code
def yJ6_bitCount_0f7a4 : MethodName := ⟨RJ6, "bitCount", "(I)I"⟩
def RJ9 : String := "java/lang/Math"
def TJ9 : u_T := fun k => match k with
  | _ => ("", "", "", false)
def tyJ9 : Nat → FieldType := fun k => match k with
  | _ => .int
abbrev wsJ90 : List Cond := u_ws RJ9 TJ9 0
theorem nmJ9 : ∀ a, a < 0 → ∀ b, b < 0 → a ≠ b → (TJ9 a).2.1 ≠ (TJ9 b).2.1 := by decide +kernel
theorem tyJ9_ok : ∀ k, k < 0 → parseFieldDescriptor (TJ9 k).2.2.1 = some (tyJ9 k) := by decide +kernel
abbrev cJ9_max_7cf53 : ByteArray := prog_10_method_65_code
def yJ9_max_7cf53 : MethodName := ⟨RJ9, "max", "(II)I"⟩
abbrev cJ9_min_7cf53 : ByteArray := prog_10_method_69_code
def yJ9_min_7cf53 : MethodName := ⟨RJ9, "min", "(II)I"⟩
def RJ0 : String := "java/lang/String"
def TJ0 : u_T := fun k => match k with
  | _ => ("", "", "", false)
def tyJ0 : Nat → FieldType := fun k => match k with
  | _ => .int
abbrev wsJ00 : List Cond := u_ws RJ0 TJ0 0
theorem nmJ0 : ∀ a, a < 0 → ∀ b, b < 0 → a ≠ b → (TJ0 a).2.1 ≠ (TJ0 b).2.1 := by decide +kernel
theorem tyJ0_ok : ∀ k, k < 0 → parseFieldDescriptor (TJ0 k).2.2.1 = some (tyJ0 k) := by decide +kernel
def RL : String := "ColourTideLaw"
abbrev cL_below : ByteArray := method_2_code
def yL_below : MethodName := ⟨RL, "below", "(II)I"⟩
abbrev cL_cell : ByteArray := method_3_code
def yL_cell : MethodName := ⟨RL, "cell", "([II)I"⟩
abbrev cL_act : ByteArray := method_4_code
def yL_act : MethodName := ⟨RL, "act", "(LColourTide;LColourTideLaw$Sim;I)LColourTideLaw$Sim;"⟩
abbrev cL_build : ByteArray := method_5_code
def yL_build : MethodName := ⟨RL, "build", "(LColourTide;[I)LColourTideLaw$Sim;"⟩
abbrev cL_law : ByteArray := code
def yL_law : MethodName := ⟨RL, "law", "([I)Z"⟩
def wsX0_init : List Cond := .code yX0_init cX0_init 1 none :: ([.methodLink RX0 3 objectInit, .instanceMethod objectInit, .code objectInit ⟨#[0xb1]⟩ 1 none, .fieldLink RX0 9 "ColourTide$Tide" "need" "I", .arrayClass .int, .fieldLink RX0 15 "ColourTide$Tide" "sets" "[I", .fieldLink RX0 19 "ColourTide$Tide" "crowds" "[I", .fieldLink RX0 22 "ColourTide$Tide" "gains" "[I"] ++ wsX00)
def wsX1_cell : List Cond := .code yX1_cell cX1_cell 2 (some .int) :: ([])
def wsX0_clear : List Cond := .code yX0_clear cX0_clear 5 none :: ([.fieldLink RX0 25 "ColourTide$Tide" "board" "I", .fieldLink RX0 32 "ColourTide$Tide" "stubborn" "I", .fieldLink RX0 15 "ColourTide$Tide" "sets" "[I", .static yX1_cell, .initialized RX1, .code yX1_cell cX1_cell 2 (some .int)] ++ wsX00)
def wsX0_cellsWith : List Cond := .code yX0_cellsWith cX0_cellsWith 2 (some .int) :: ([.fieldLink RX0 15 "ColourTide$Tide" "sets" "[I"] ++ wsX00)
def wsJ6_bitCount_0f7a4 : List Cond := .code yJ6_bitCount_0f7a4 cJ6_bitCount_0f7a4 1 (some .int) :: ([.constant RJ6 265 (1431655765), .constant RJ6 266 (858993459), .constant RJ6 267 (252645135)])
def wsX0_count : List Cond := .code yX0_count cX0_count 2 (some .int) :: ([.methodLink RX0 35 yX0_cellsWith, .instanceMethod yX0_cellsWith, .selects RX0 yX0_cellsWith yX0_cellsWith, .initialized RX0, .code yX0_cellsWith cX0_cellsWith 2 (some .int), .fieldLink RX0 15 "ColourTide$Tide" "sets" "[I", .methodLink RX0 39 yJ6_bitCount_0f7a4, .static yJ6_bitCount_0f7a4, .initialized RJ6, .code yJ6_bitCount_0f7a4 cJ6_bitCount_0f7a4 1 (some .int), .constant RJ6 265 (1431655765), .constant RJ6 266 (858993459), .constant RJ6 267 (252645135)] ++ wsX00)
def wsX0_isAll : List Cond := .code yX0_isAll cX0_isAll 2 (some .boolean) :: ([.fieldLink RX0 25 "ColourTide$Tide" "board" "I", .methodLink RX0 35 yX0_cellsWith, .instanceMethod yX0_cellsWith, .selects RX0 yX0_cellsWith yX0_cellsWith, .initialized RX0, .code yX0_cellsWith cX0_cellsWith 2 (some .int), .fieldLink RX0 15 "ColourTide$Tide" "sets" "[I"] ++ wsX00)
def wsX0_firstColourWith : List Cond := .code yX0_firstColourWith cX0_firstColourWith 3 (some .int) :: ([])
def wsX0_colourOf : List Cond := .code yX0_colourOf cX0_colourOf 2 (some .int) :: ([.fieldLink RX0 15 "ColourTide$Tide" "sets" "[I", .methodLink RX0 44 yX0_firstColourWith, .static yX0_firstColourWith, .initialized RX0, .code yX0_firstColourWith cX0_firstColourWith 3 (some .int)] ++ wsX00)
def wsX0_dye : List Cond := .code yX0_dye cX0_dye 4 none :: ([.fieldLink RX0 15 "ColourTide$Tide" "sets" "[I"] ++ wsX00)
def wsX0_withNeighbours : List Cond := .code yX0_withNeighbours cX0_withNeighbours 6 (some .int) :: ([])
def wsX0_addGains : List Cond := .code yX0_addGains cX0_addGains 5 none :: ([.fieldLink RX0 19 "ColourTide$Tide" "crowds" "[I", .fieldLink RX0 15 "ColourTide$Tide" "sets" "[I", .fieldLink RX0 22 "ColourTide$Tide" "gains" "[I", .fieldLink RX0 25 "ColourTide$Tide" "board" "I", .fieldLink RX0 32 "ColourTide$Tide" "stubborn" "I", .methodLink RX0 73 yX0_withNeighbours, .static yX0_withNeighbours, .initialized RX0, .code yX0_withNeighbours cX0_withNeighbours 6 (some .int)] ++ wsX00)
def wsX0_foresee : List Cond := .code yX0_foresee cX0_foresee 3 (some .int) :: ([.fieldLink RX0 22 "ColourTide$Tide" "gains" "[I", .fieldLink RX0 9 "ColourTide$Tide" "need" "I", .fieldLink RX0 15 "ColourTide$Tide" "sets" "[I", .methodLink RX0 56 yX0_addGains, .instanceMethod yX0_addGains, .selects RX0 yX0_addGains yX0_addGains, .initialized RX0, .code yX0_addGains cX0_addGains 5 none, .fieldLink RX0 19 "ColourTide$Tide" "crowds" "[I", .fieldLink RX0 25 "ColourTide$Tide" "board" "I", .fieldLink RX0 32 "ColourTide$Tide" "stubborn" "I", .methodLink RX0 73 yX0_withNeighbours, .static yX0_withNeighbours, .code yX0_withNeighbours cX0_withNeighbours 6 (some .int)] ++ wsX00)
def wsX0_takeGains : List Cond := .code yX0_takeGains cX0_takeGains 3 none :: ([.fieldLink RX0 15 "ColourTide$Tide" "sets" "[I", .fieldLink RX0 22 "ColourTide$Tide" "gains" "[I"] ++ wsX00)
def wsX0_surge : List Cond := .code yX0_surge cX0_surge 4 (some .int) :: ([.methodLink RX0 48 yX0_foresee, .instanceMethod yX0_foresee, .selects RX0 yX0_foresee yX0_foresee, .initialized RX0, .code yX0_foresee cX0_foresee 3 (some .int), .fieldLink RX0 22 "ColourTide$Tide" "gains" "[I", .fieldLink RX0 9 "ColourTide$Tide" "need" "I", .fieldLink RX0 15 "ColourTide$Tide" "sets" "[I", .methodLink RX0 56 yX0_addGains, .instanceMethod yX0_addGains, .selects RX0 yX0_addGains yX0_addGains, .code yX0_addGains cX0_addGains 5 none, .fieldLink RX0 19 "ColourTide$Tide" "crowds" "[I", .fieldLink RX0 25 "ColourTide$Tide" "board" "I", .fieldLink RX0 32 "ColourTide$Tide" "stubborn" "I", .methodLink RX0 73 yX0_withNeighbours, .static yX0_withNeighbours, .code yX0_withNeighbours cX0_withNeighbours 6 (some .int), .methodLink RX0 52 yX0_takeGains, .instanceMethod yX0_takeGains, .selects RX0 yX0_takeGains yX0_takeGains, .code yX0_takeGains cX0_takeGains 3 none] ++ wsX00)
def wsX0_foreseenColourOf : List Cond := .code yX0_foreseenColourOf cX0_foreseenColourOf 3 (some .int) :: ([.fieldLink RX0 22 "ColourTide$Tide" "gains" "[I", .methodLink RX0 44 yX0_firstColourWith, .static yX0_firstColourWith, .initialized RX0, .code yX0_firstColourWith cX0_firstColourWith 3 (some .int), .methodLink RX0 59 yX0_colourOf, .instanceMethod yX0_colourOf, .selects RX0 yX0_colourOf yX0_colourOf, .code yX0_colourOf cX0_colourOf 2 (some .int), .fieldLink RX0 15 "ColourTide$Tide" "sets" "[I"] ++ wsX00)
def wsX1_nextTo : List Cond := .code yX1_nextTo cX1_nextTo 1 (some .int) :: ([])
def wsX0_regionFrom : List Cond := .code yX0_regionFrom cX0_regionFrom 5 (some .int) :: ([.static yX1_nextTo, .initialized RX1, .code yX1_nextTo cX1_nextTo 1 (some .int)])
def wsX0_sizeOfRegion_r1 : List Cond := [Cond.methodLink RX0 59 yX0_colourOf, Cond.instanceMethod yX0_colourOf, Cond.selects RX0 yX0_colourOf yX0_colourOf, Cond.initialized RX0, Cond.code yX0_colourOf cX0_colourOf 2 (some .int), Cond.fieldLink RX0 15 "ColourTide$Tide" "sets" "[I", Cond.methodLink RX0 44 yX0_firstColourWith, Cond.static yX0_firstColourWith, Cond.code yX0_firstColourWith cX0_firstColourWith 3 (some .int), Cond.methodLink RX0 35 yX0_cellsWith, Cond.instanceMethod yX0_cellsWith, Cond.selects RX0 yX0_cellsWith yX0_cellsWith, Cond.code yX0_cellsWith cX0_cellsWith 2 (some .int), Cond.methodLink RX0 62 yX0_regionFrom, Cond.static yX0_regionFrom, Cond.code yX0_regionFrom cX0_regionFrom 5 (some .int), Cond.static yX1_nextTo, Cond.initialized RX1, Cond.code yX1_nextTo cX1_nextTo 1 (some .int), Cond.methodLink RX0 39 yJ6_bitCount_0f7a4, Cond.static yJ6_bitCount_0f7a4, Cond.initialized RJ6, Cond.code yJ6_bitCount_0f7a4 cJ6_bitCount_0f7a4 1 (some .int), Cond.constant RJ6 265 (1431655765)]
def wsX0_sizeOfRegion_r2 : List Cond := [Cond.constant RJ6 266 (858993459), Cond.constant RJ6 267 (252645135)]
def wsX0_sizeOfRegion : List Cond := .code yX0_sizeOfRegion cX0_sizeOfRegion 3 (some .int) :: ((wsX0_sizeOfRegion_r1 ++ wsX0_sizeOfRegion_r2) ++ wsX00)
def wsX0_countRegions : List Cond := .code yX0_countRegions cX0_countRegions 5 (some .int) :: ([.methodLink RX0 35 yX0_cellsWith, .instanceMethod yX0_cellsWith, .selects RX0 yX0_cellsWith yX0_cellsWith, .initialized RX0, .code yX0_cellsWith cX0_cellsWith 2 (some .int), .fieldLink RX0 15 "ColourTide$Tide" "sets" "[I", .methodLink RX0 62 yX0_regionFrom, .static yX0_regionFrom, .code yX0_regionFrom cX0_regionFrom 5 (some .int), .static yX1_nextTo, .initialized RX1, .code yX1_nextTo cX1_nextTo 1 (some .int)] ++ wsX00)
def wsX0_sizeOfGreatestRegion : List Cond := .code yX0_sizeOfGreatestRegion cX0_sizeOfGreatestRegion 6 (some .int) :: ([.methodLink RX0 65 Lib.Math.max.name, .static Lib.Math.max.name, .initialized "java/lang/Math", .code Lib.Math.max.name Lib.Math.max.code 2 (some .int), .methodLink RX0 35 yX0_cellsWith, .instanceMethod yX0_cellsWith, .selects RX0 yX0_cellsWith yX0_cellsWith, .initialized RX0, .code yX0_cellsWith cX0_cellsWith 2 (some .int), .fieldLink RX0 15 "ColourTide$Tide" "sets" "[I", .methodLink RX0 62 yX0_regionFrom, .static yX0_regionFrom, .code yX0_regionFrom cX0_regionFrom 5 (some .int), .static yX1_nextTo, .initialized RX1, .code yX1_nextTo cX1_nextTo 1 (some .int), .methodLink RX0 39 yJ6_bitCount_0f7a4, .static yJ6_bitCount_0f7a4, .initialized RJ6, .code yJ6_bitCount_0f7a4 cJ6_bitCount_0f7a4 1 (some .int), .constant RJ6 265 (1431655765), .constant RJ6 266 (858993459), .constant RJ6 267 (252645135)] ++ wsX00)
def wsX0_countPairs : List Cond := .code yX0_countPairs cX0_countPairs 1 (some .int) :: ([.methodLink RX0 39 yJ6_bitCount_0f7a4, .static yJ6_bitCount_0f7a4, .initialized RJ6, .code yJ6_bitCount_0f7a4 cJ6_bitCount_0f7a4 1 (some .int), .constant RJ6 265 (1431655765), .constant RJ6 266 (858993459), .constant RJ6 267 (252645135)])
def wsX0_countBorders : List Cond := .code yX0_countBorders cX0_countBorders 3 (some .int) :: ([.fieldLink RX0 25 "ColourTide$Tide" "board" "I", .fieldLink RX0 15 "ColourTide$Tide" "sets" "[I", .methodLink RX0 35 yX0_cellsWith, .instanceMethod yX0_cellsWith, .selects RX0 yX0_cellsWith yX0_cellsWith, .initialized RX0, .code yX0_cellsWith cX0_cellsWith 2 (some .int), .methodLink RX0 70 yX0_countPairs, .static yX0_countPairs, .code yX0_countPairs cX0_countPairs 1 (some .int), .methodLink RX0 39 yJ6_bitCount_0f7a4, .static yJ6_bitCount_0f7a4, .initialized RJ6, .code yJ6_bitCount_0f7a4 cJ6_bitCount_0f7a4 1 (some .int), .constant RJ6 265 (1431655765), .constant RJ6 266 (858993459), .constant RJ6 267 (252645135)] ++ wsX00)
def wsX1_init_r1 : List Cond := [Cond.methodLink RX1 3 objectInit, Cond.instanceMethod objectInit, Cond.code objectInit ⟨#[0xb1]⟩ 1 none, Cond.classLink RX1 9 RX0, Cond.instantiable RX0 6, Cond.initialized RX0, Cond.fieldLink RX1 12 "ColourTide" "map" "LColourTide$Tide;", Cond.fieldLink RX1 16 "ColourTide" "trial" "LColourTide$Tide;", Cond.fieldLink RX1 19 "ColourTide" "width" "I", Cond.fieldLink RX1 23 "ColourTide" "height" "I", Cond.fieldLink RX1 26 "ColourTide" "waves" "I", Cond.methodLink RX1 11 yX0_init, Cond.instanceMethod yX0_init, Cond.code yX0_init cX0_init 1 none, Cond.methodLink RX0 3 objectInit, Cond.fieldLink RX0 9 "ColourTide$Tide" "need" "I", Cond.arrayClass .int, Cond.fieldLink RX0 15 "ColourTide$Tide" "sets" "[I", Cond.fieldLink RX0 19 "ColourTide$Tide" "crowds" "[I", Cond.fieldLink RX0 22 "ColourTide$Tide" "gains" "[I", Cond.methodLink RX1 29 yX0_clear, Cond.instanceMethod yX0_clear, Cond.selects RX0 yX0_clear yX0_clear, Cond.code yX0_clear cX0_clear 5 none]
def wsX1_init_r2 : List Cond := [Cond.fieldLink RX0 25 "ColourTide$Tide" "board" "I", Cond.fieldLink RX0 32 "ColourTide$Tide" "stubborn" "I", Cond.static yX1_cell, Cond.initialized RX1, Cond.code yX1_cell cX1_cell 2 (some .int)]
def wsX1_init : List Cond := .code yX1_init cX1_init 1 none :: ((wsX1_init_r1 ++ wsX1_init_r2) ++ wsX00 ++ wsX10)
def wsX1_isSide : List Cond := .code yX1_isSide cX1_isSide 1 (some .boolean) :: ([])
def wsX1_newMap : List Cond := .code yX1_newMap cX1_newMap 3 (some .int) :: ([.classLink RX1 37 "java/lang/IllegalArgumentException", .initialized "java/lang/IllegalArgumentException", .fieldLink RX1 19 "ColourTide" "width" "I", .fieldLink RX1 23 "ColourTide" "height" "I", .fieldLink RX1 26 "ColourTide" "waves" "I", .fieldLink RX1 12 "ColourTide" "map" "LColourTide$Tide;", .methodLink RX1 33 yX1_isSide, .static yX1_isSide, .initialized RX1, .code yX1_isSide cX1_isSide 1 (some .boolean), .methodLink RX1 29 yX0_clear, .instanceMethod yX0_clear, .selects RX0 yX0_clear yX0_clear, .initialized RX0, .code yX0_clear cX0_clear 5 none, .fieldLink RX0 25 "ColourTide$Tide" "board" "I", .fieldLink RX0 32 "ColourTide$Tide" "stubborn" "I", .fieldLink RX0 15 "ColourTide$Tide" "sets" "[I", .static yX1_cell, .code yX1_cell cX1_cell 2 (some .int)] ++ wsX10 ++ wsX00 ++ (vx_atS RX1 41 "java/lang/IllegalArgumentException" ["java/lang/RuntimeException", "java/lang/Exception"]).filter goodWord)
def wsX1_isOnMap : List Cond := .code yX1_isOnMap cX1_isOnMap 3 (some .boolean) :: ([.fieldLink RX1 19 "ColourTide" "width" "I", .fieldLink RX1 23 "ColourTide" "height" "I"] ++ wsX10)
def wsX1_isColour : List Cond := .code yX1_isColour cX1_isColour 1 (some .boolean) :: ([])
def wsX1_isColourOrBare : List Cond := .code yX1_isColourOrBare cX1_isColourOrBare 1 (some .boolean) :: ([.methodLink RX1 108 yX1_isColour, .static yX1_isColour, .initialized RX1, .code yX1_isColour cX1_isColour 1 (some .boolean)])
def wsX1_paint_r1 : List Cond := [Cond.classLink RX1 51 "java/lang/IndexOutOfBoundsException", Cond.initialized "java/lang/IndexOutOfBoundsException", Cond.fieldLink RX1 12 "ColourTide" "map" "LColourTide$Tide;", Cond.methodLink RX1 44 yX1_isOnMap, Cond.instanceMethod yX1_isOnMap, Cond.selects RX1 yX1_isOnMap yX1_isOnMap, Cond.initialized RX1, Cond.code yX1_isOnMap cX1_isOnMap 3 (some .boolean), Cond.fieldLink RX1 19 "ColourTide" "width" "I", Cond.fieldLink RX1 23 "ColourTide" "height" "I", Cond.methodLink RX1 48 yX1_isColourOrBare, Cond.static yX1_isColourOrBare, Cond.code yX1_isColourOrBare cX1_isColourOrBare 1 (some .boolean), Cond.methodLink RX1 108 yX1_isColour, Cond.static yX1_isColour, Cond.code yX1_isColour cX1_isColour 1 (some .boolean), Cond.methodLink RX1 56 yX1_cell, Cond.static yX1_cell, Cond.code yX1_cell cX1_cell 2 (some .int), Cond.methodLink RX1 60 yX0_colourOf, Cond.instanceMethod yX0_colourOf, Cond.selects RX0 yX0_colourOf yX0_colourOf, Cond.initialized RX0, Cond.code yX0_colourOf cX0_colourOf 2 (some .int)]
def wsX1_paint_r2 : List Cond := [Cond.fieldLink RX0 15 "ColourTide$Tide" "sets" "[I", Cond.methodLink RX0 44 yX0_firstColourWith, Cond.static yX0_firstColourWith, Cond.code yX0_firstColourWith cX0_firstColourWith 3 (some .int), Cond.methodLink RX1 64 yX0_dye, Cond.instanceMethod yX0_dye, Cond.selects RX0 yX0_dye yX0_dye, Cond.code yX0_dye cX0_dye 4 none]
def wsX1_paint : List Cond := .code yX1_paint cX1_paint 5 (some .int) :: ((wsX1_paint_r1 ++ wsX1_paint_r2) ++ wsX10 ++ wsX00 ++ (vx_atS RX1 55 "java/lang/IndexOutOfBoundsException" ["java/lang/RuntimeException", "java/lang/Exception"]).filter goodWord)
def wsX1_turnStubborn : List Cond := .code yX1_turnStubborn cX1_turnStubborn 3 (some .boolean) :: ([.classLink RX1 51 "java/lang/IndexOutOfBoundsException", .initialized "java/lang/IndexOutOfBoundsException", .fieldLink RX1 12 "ColourTide" "map" "LColourTide$Tide;", .fieldLink RX1 69 "ColourTide$Tide" "stubborn" "I", .methodLink RX1 44 yX1_isOnMap, .instanceMethod yX1_isOnMap, .selects RX1 yX1_isOnMap yX1_isOnMap, .initialized RX1, .code yX1_isOnMap cX1_isOnMap 3 (some .boolean), .fieldLink RX1 19 "ColourTide" "width" "I", .fieldLink RX1 23 "ColourTide" "height" "I", .methodLink RX1 56 yX1_cell, .static yX1_cell, .code yX1_cell cX1_cell 2 (some .int)] ++ wsX10 ++ wsX00 ++ (vx_atS RX1 55 "java/lang/IndexOutOfBoundsException" ["java/lang/RuntimeException", "java/lang/Exception"]).filter goodWord)
def wsX1_setNeed : List Cond := .code yX1_setNeed cX1_setNeed 3 (some .int) :: ([.classLink RX1 37 "java/lang/IllegalArgumentException", .initialized "java/lang/IllegalArgumentException", .fieldLink RX1 12 "ColourTide" "map" "LColourTide$Tide;", .fieldLink RX1 74 "ColourTide$Tide" "need" "I"] ++ wsX10 ++ wsX00 ++ (vx_atS RX1 41 "java/lang/IllegalArgumentException" ["java/lang/RuntimeException", "java/lang/Exception"]).filter goodWord)
def wsX1_pass_r1 : List Cond := [Cond.classLink RX1 37 "java/lang/IllegalArgumentException", Cond.initialized "java/lang/IllegalArgumentException", Cond.fieldLink RX1 26 "ColourTide" "waves" "I", Cond.fieldLink RX1 12 "ColourTide" "map" "LColourTide$Tide;", Cond.methodLink RX1 79 yX0_surge, Cond.instanceMethod yX0_surge, Cond.selects RX0 yX0_surge yX0_surge, Cond.initialized RX0, Cond.code yX0_surge cX0_surge 4 (some .int), Cond.methodLink RX0 48 yX0_foresee, Cond.instanceMethod yX0_foresee, Cond.selects RX0 yX0_foresee yX0_foresee, Cond.code yX0_foresee cX0_foresee 3 (some .int), Cond.fieldLink RX0 22 "ColourTide$Tide" "gains" "[I", Cond.fieldLink RX0 9 "ColourTide$Tide" "need" "I", Cond.fieldLink RX0 15 "ColourTide$Tide" "sets" "[I", Cond.methodLink RX0 56 yX0_addGains, Cond.instanceMethod yX0_addGains, Cond.selects RX0 yX0_addGains yX0_addGains, Cond.code yX0_addGains cX0_addGains 5 none, Cond.fieldLink RX0 19 "ColourTide$Tide" "crowds" "[I", Cond.fieldLink RX0 25 "ColourTide$Tide" "board" "I", Cond.fieldLink RX0 32 "ColourTide$Tide" "stubborn" "I", Cond.methodLink RX0 73 yX0_withNeighbours]
def wsX1_pass_r2 : List Cond := [Cond.static yX0_withNeighbours, Cond.code yX0_withNeighbours cX0_withNeighbours 6 (some .int), Cond.methodLink RX0 52 yX0_takeGains, Cond.instanceMethod yX0_takeGains, Cond.selects RX0 yX0_takeGains yX0_takeGains, Cond.code yX0_takeGains cX0_takeGains 3 none, Cond.methodLink RX1 82 yJ6_bitCount_0f7a4, Cond.static yJ6_bitCount_0f7a4, Cond.initialized RJ6, Cond.code yJ6_bitCount_0f7a4 cJ6_bitCount_0f7a4 1 (some .int), Cond.constant RJ6 265 (1431655765), Cond.constant RJ6 266 (858993459), Cond.constant RJ6 267 (252645135)]
def wsX1_pass : List Cond := .code yX1_pass cX1_pass 2 (some .int) :: ((wsX1_pass_r1 ++ wsX1_pass_r2) ++ wsX10 ++ wsX00 ++ (vx_atS RX1 41 "java/lang/IllegalArgumentException" ["java/lang/RuntimeException", "java/lang/Exception"]).filter goodWord)
def wsX1_colourAt : List Cond := .code yX1_colourAt cX1_colourAt 3 (some .int) :: ([.classLink RX1 51 "java/lang/IndexOutOfBoundsException", .initialized "java/lang/IndexOutOfBoundsException", .fieldLink RX1 12 "ColourTide" "map" "LColourTide$Tide;", .methodLink RX1 44 yX1_isOnMap, .instanceMethod yX1_isOnMap, .selects RX1 yX1_isOnMap yX1_isOnMap, .initialized RX1, .code yX1_isOnMap cX1_isOnMap 3 (some .boolean), .fieldLink RX1 19 "ColourTide" "width" "I", .fieldLink RX1 23 "ColourTide" "height" "I", .methodLink RX1 56 yX1_cell, .static yX1_cell, .code yX1_cell cX1_cell 2 (some .int), .methodLink RX1 60 yX0_colourOf, .instanceMethod yX0_colourOf, .selects RX0 yX0_colourOf yX0_colourOf, .initialized RX0, .code yX0_colourOf cX0_colourOf 2 (some .int), .fieldLink RX0 15 "ColourTide$Tide" "sets" "[I", .methodLink RX0 44 yX0_firstColourWith, .static yX0_firstColourWith, .code yX0_firstColourWith cX0_firstColourWith 3 (some .int)] ++ wsX10 ++ wsX00 ++ (vx_atS RX1 55 "java/lang/IndexOutOfBoundsException" ["java/lang/RuntimeException", "java/lang/Exception"]).filter goodWord)
def wsX1_isStubborn : List Cond := .code yX1_isStubborn cX1_isStubborn 3 (some .boolean) :: ([.classLink RX1 51 "java/lang/IndexOutOfBoundsException", .initialized "java/lang/IndexOutOfBoundsException", .fieldLink RX1 12 "ColourTide" "map" "LColourTide$Tide;", .fieldLink RX1 69 "ColourTide$Tide" "stubborn" "I", .methodLink RX1 44 yX1_isOnMap, .instanceMethod yX1_isOnMap, .selects RX1 yX1_isOnMap yX1_isOnMap, .initialized RX1, .code yX1_isOnMap cX1_isOnMap 3 (some .boolean), .fieldLink RX1 19 "ColourTide" "width" "I", .fieldLink RX1 23 "ColourTide" "height" "I", .methodLink RX1 56 yX1_cell, .static yX1_cell, .code yX1_cell cX1_cell 2 (some .int)] ++ wsX10 ++ wsX00 ++ (vx_atS RX1 55 "java/lang/IndexOutOfBoundsException" ["java/lang/RuntimeException", "java/lang/Exception"]).filter goodWord)
def wsX1_neighboursWith_r1 : List Cond := [Cond.classLink RX1 51 "java/lang/IndexOutOfBoundsException", Cond.initialized "java/lang/IndexOutOfBoundsException", Cond.fieldLink RX1 12 "ColourTide" "map" "LColourTide$Tide;", Cond.methodLink RX1 44 yX1_isOnMap, Cond.instanceMethod yX1_isOnMap, Cond.selects RX1 yX1_isOnMap yX1_isOnMap, Cond.initialized RX1, Cond.code yX1_isOnMap cX1_isOnMap 3 (some .boolean), Cond.fieldLink RX1 19 "ColourTide" "width" "I", Cond.fieldLink RX1 23 "ColourTide" "height" "I", Cond.methodLink RX1 48 yX1_isColourOrBare, Cond.static yX1_isColourOrBare, Cond.code yX1_isColourOrBare cX1_isColourOrBare 1 (some .boolean), Cond.methodLink RX1 108 yX1_isColour, Cond.static yX1_isColour, Cond.code yX1_isColour cX1_isColour 1 (some .boolean), Cond.methodLink RX1 56 yX1_cell, Cond.static yX1_cell, Cond.code yX1_cell cX1_cell 2 (some .int), Cond.methodLink RX1 87 yX1_nextTo, Cond.static yX1_nextTo, Cond.code yX1_nextTo cX1_nextTo 1 (some .int), Cond.methodLink RX1 90 yX0_cellsWith, Cond.instanceMethod yX0_cellsWith]
def wsX1_neighboursWith_r2 : List Cond := [Cond.selects RX0 yX0_cellsWith yX0_cellsWith, Cond.initialized RX0, Cond.code yX0_cellsWith cX0_cellsWith 2 (some .int), Cond.fieldLink RX0 15 "ColourTide$Tide" "sets" "[I", Cond.methodLink RX1 82 yJ6_bitCount_0f7a4, Cond.static yJ6_bitCount_0f7a4, Cond.initialized RJ6, Cond.code yJ6_bitCount_0f7a4 cJ6_bitCount_0f7a4 1 (some .int), Cond.constant RJ6 265 (1431655765), Cond.constant RJ6 266 (858993459), Cond.constant RJ6 267 (252645135)]
def wsX1_neighboursWith : List Cond := .code yX1_neighboursWith cX1_neighboursWith 4 (some .int) :: ((wsX1_neighboursWith_r1 ++ wsX1_neighboursWith_r2) ++ wsX10 ++ wsX00 ++ (vx_atS RX1 55 "java/lang/IndexOutOfBoundsException" ["java/lang/RuntimeException", "java/lang/Exception"]).filter goodWord)
def wsX1_nextColour_r1 : List Cond := [Cond.classLink RX1 51 "java/lang/IndexOutOfBoundsException", Cond.initialized "java/lang/IndexOutOfBoundsException", Cond.fieldLink RX1 12 "ColourTide" "map" "LColourTide$Tide;", Cond.methodLink RX1 44 yX1_isOnMap, Cond.instanceMethod yX1_isOnMap, Cond.selects RX1 yX1_isOnMap yX1_isOnMap, Cond.initialized RX1, Cond.code yX1_isOnMap cX1_isOnMap 3 (some .boolean), Cond.fieldLink RX1 19 "ColourTide" "width" "I", Cond.fieldLink RX1 23 "ColourTide" "height" "I", Cond.methodLink RX1 93 yX0_foresee, Cond.instanceMethod yX0_foresee, Cond.selects RX0 yX0_foresee yX0_foresee, Cond.initialized RX0, Cond.code yX0_foresee cX0_foresee 3 (some .int), Cond.fieldLink RX0 22 "ColourTide$Tide" "gains" "[I", Cond.fieldLink RX0 9 "ColourTide$Tide" "need" "I", Cond.fieldLink RX0 15 "ColourTide$Tide" "sets" "[I", Cond.methodLink RX0 56 yX0_addGains, Cond.instanceMethod yX0_addGains, Cond.selects RX0 yX0_addGains yX0_addGains, Cond.code yX0_addGains cX0_addGains 5 none, Cond.fieldLink RX0 19 "ColourTide$Tide" "crowds" "[I", Cond.fieldLink RX0 25 "ColourTide$Tide" "board" "I"]
def wsX1_nextColour_r2 : List Cond := [Cond.fieldLink RX0 32 "ColourTide$Tide" "stubborn" "I", Cond.methodLink RX0 73 yX0_withNeighbours, Cond.static yX0_withNeighbours, Cond.code yX0_withNeighbours cX0_withNeighbours 6 (some .int), Cond.methodLink RX1 56 yX1_cell, Cond.static yX1_cell, Cond.code yX1_cell cX1_cell 2 (some .int), Cond.methodLink RX1 97 yX0_foreseenColourOf, Cond.instanceMethod yX0_foreseenColourOf, Cond.selects RX0 yX0_foreseenColourOf yX0_foreseenColourOf, Cond.code yX0_foreseenColourOf cX0_foreseenColourOf 3 (some .int), Cond.methodLink RX0 44 yX0_firstColourWith, Cond.static yX0_firstColourWith, Cond.code yX0_firstColourWith cX0_firstColourWith 3 (some .int), Cond.methodLink RX0 59 yX0_colourOf, Cond.instanceMethod yX0_colourOf, Cond.selects RX0 yX0_colourOf yX0_colourOf, Cond.code yX0_colourOf cX0_colourOf 2 (some .int)]
def wsX1_nextColour : List Cond := .code yX1_nextColour cX1_nextColour 3 (some .int) :: ((wsX1_nextColour_r1 ++ wsX1_nextColour_r2) ++ wsX10 ++ wsX00 ++ (vx_atS RX1 55 "java/lang/IndexOutOfBoundsException" ["java/lang/RuntimeException", "java/lang/Exception"]).filter goodWord)
def wsX1_regionSize_r1 : List Cond := [Cond.classLink RX1 51 "java/lang/IndexOutOfBoundsException", Cond.initialized "java/lang/IndexOutOfBoundsException", Cond.fieldLink RX1 12 "ColourTide" "map" "LColourTide$Tide;", Cond.methodLink RX1 44 yX1_isOnMap, Cond.instanceMethod yX1_isOnMap, Cond.selects RX1 yX1_isOnMap yX1_isOnMap, Cond.initialized RX1, Cond.code yX1_isOnMap cX1_isOnMap 3 (some .boolean), Cond.fieldLink RX1 19 "ColourTide" "width" "I", Cond.fieldLink RX1 23 "ColourTide" "height" "I", Cond.methodLink RX1 56 yX1_cell, Cond.static yX1_cell, Cond.code yX1_cell cX1_cell 2 (some .int), Cond.methodLink RX1 100 yX0_sizeOfRegion, Cond.instanceMethod yX0_sizeOfRegion, Cond.selects RX0 yX0_sizeOfRegion yX0_sizeOfRegion, Cond.initialized RX0, Cond.code yX0_sizeOfRegion cX0_sizeOfRegion 3 (some .int), Cond.methodLink RX0 59 yX0_colourOf, Cond.instanceMethod yX0_colourOf, Cond.selects RX0 yX0_colourOf yX0_colourOf, Cond.code yX0_colourOf cX0_colourOf 2 (some .int), Cond.fieldLink RX0 15 "ColourTide$Tide" "sets" "[I", Cond.methodLink RX0 44 yX0_firstColourWith]
def wsX1_regionSize_r2 : List Cond := [Cond.static yX0_firstColourWith, Cond.code yX0_firstColourWith cX0_firstColourWith 3 (some .int), Cond.methodLink RX0 35 yX0_cellsWith, Cond.instanceMethod yX0_cellsWith, Cond.selects RX0 yX0_cellsWith yX0_cellsWith, Cond.code yX0_cellsWith cX0_cellsWith 2 (some .int), Cond.methodLink RX0 62 yX0_regionFrom, Cond.static yX0_regionFrom, Cond.code yX0_regionFrom cX0_regionFrom 5 (some .int), Cond.static yX1_nextTo, Cond.code yX1_nextTo cX1_nextTo 1 (some .int), Cond.methodLink RX0 39 yJ6_bitCount_0f7a4, Cond.static yJ6_bitCount_0f7a4, Cond.initialized RJ6, Cond.code yJ6_bitCount_0f7a4 cJ6_bitCount_0f7a4 1 (some .int), Cond.constant RJ6 265 (1431655765), Cond.constant RJ6 266 (858993459), Cond.constant RJ6 267 (252645135)]
def wsX1_regionSize : List Cond := .code yX1_regionSize cX1_regionSize 3 (some .int) :: ((wsX1_regionSize_r1 ++ wsX1_regionSize_r2) ++ wsX10 ++ wsX00 ++ (vx_atS RX1 55 "java/lang/IndexOutOfBoundsException" ["java/lang/RuntimeException", "java/lang/Exception"]).filter goodWord)
def wsX1_width : List Cond := .code yX1_width cX1_width 1 (some .int) :: ([.fieldLink RX1 19 "ColourTide" "width" "I"] ++ wsX10)
def wsX1_height : List Cond := .code yX1_height cX1_height 1 (some .int) :: ([.fieldLink RX1 23 "ColourTide" "height" "I"] ++ wsX10)
def wsX1_need : List Cond := .code yX1_need cX1_need 1 (some .int) :: ([.fieldLink RX1 12 "ColourTide" "map" "LColourTide$Tide;", .fieldLink RX1 74 "ColourTide$Tide" "need" "I"] ++ wsX10 ++ wsX00)
def wsX1_waves : List Cond := .code yX1_waves cX1_waves 1 (some .int) :: ([.fieldLink RX1 26 "ColourTide" "waves" "I"] ++ wsX10)
def wsX1_stubbornCells : List Cond := .code yX1_stubbornCells cX1_stubbornCells 1 (some .int) :: ([.fieldLink RX1 12 "ColourTide" "map" "LColourTide$Tide;", .fieldLink RX1 69 "ColourTide$Tide" "stubborn" "I", .methodLink RX1 82 yJ6_bitCount_0f7a4, .static yJ6_bitCount_0f7a4, .initialized RJ6, .code yJ6_bitCount_0f7a4 cJ6_bitCount_0f7a4 1 (some .int), .constant RJ6 265 (1431655765), .constant RJ6 266 (858993459), .constant RJ6 267 (252645135)] ++ wsX10 ++ wsX00)
def wsX1_cellsOf_r1 : List Cond := [Cond.classLink RX1 51 "java/lang/IndexOutOfBoundsException", Cond.initialized "java/lang/IndexOutOfBoundsException", Cond.fieldLink RX1 12 "ColourTide" "map" "LColourTide$Tide;", Cond.methodLink RX1 48 yX1_isColourOrBare, Cond.static yX1_isColourOrBare, Cond.initialized RX1, Cond.code yX1_isColourOrBare cX1_isColourOrBare 1 (some .boolean), Cond.methodLink RX1 108 yX1_isColour, Cond.static yX1_isColour, Cond.code yX1_isColour cX1_isColour 1 (some .boolean), Cond.methodLink RX1 105 yX0_count, Cond.instanceMethod yX0_count, Cond.selects RX0 yX0_count yX0_count, Cond.initialized RX0, Cond.code yX0_count cX0_count 2 (some .int), Cond.methodLink RX0 35 yX0_cellsWith, Cond.instanceMethod yX0_cellsWith, Cond.selects RX0 yX0_cellsWith yX0_cellsWith, Cond.code yX0_cellsWith cX0_cellsWith 2 (some .int), Cond.fieldLink RX0 15 "ColourTide$Tide" "sets" "[I", Cond.methodLink RX0 39 yJ6_bitCount_0f7a4, Cond.static yJ6_bitCount_0f7a4, Cond.initialized RJ6, Cond.code yJ6_bitCount_0f7a4 cJ6_bitCount_0f7a4 1 (some .int)]
def wsX1_cellsOf_r2 : List Cond := [Cond.constant RJ6 265 (1431655765), Cond.constant RJ6 266 (858993459), Cond.constant RJ6 267 (252645135)]
def wsX1_cellsOf : List Cond := .code yX1_cellsOf cX1_cellsOf 2 (some .int) :: ((wsX1_cellsOf_r1 ++ wsX1_cellsOf_r2) ++ wsX10 ++ wsX00 ++ (vx_atS RX1 55 "java/lang/IndexOutOfBoundsException" ["java/lang/RuntimeException", "java/lang/Exception"]).filter goodWord)
def wsX1_regionsOf : List Cond := .code yX1_regionsOf cX1_regionsOf 2 (some .int) :: ([.classLink RX1 51 "java/lang/IndexOutOfBoundsException", .initialized "java/lang/IndexOutOfBoundsException", .fieldLink RX1 12 "ColourTide" "map" "LColourTide$Tide;", .methodLink RX1 108 yX1_isColour, .static yX1_isColour, .initialized RX1, .code yX1_isColour cX1_isColour 1 (some .boolean), .methodLink RX1 111 yX0_countRegions, .instanceMethod yX0_countRegions, .selects RX0 yX0_countRegions yX0_countRegions, .initialized RX0, .code yX0_countRegions cX0_countRegions 5 (some .int), .methodLink RX0 35 yX0_cellsWith, .instanceMethod yX0_cellsWith, .selects RX0 yX0_cellsWith yX0_cellsWith, .code yX0_cellsWith cX0_cellsWith 2 (some .int), .fieldLink RX0 15 "ColourTide$Tide" "sets" "[I", .methodLink RX0 62 yX0_regionFrom, .static yX0_regionFrom, .code yX0_regionFrom cX0_regionFrom 5 (some .int), .static yX1_nextTo, .code yX1_nextTo cX1_nextTo 1 (some .int)] ++ wsX10 ++ wsX00 ++ (vx_atS RX1 55 "java/lang/IndexOutOfBoundsException" ["java/lang/RuntimeException", "java/lang/Exception"]).filter goodWord)
def wsX1_greatestRegion_r1 : List Cond := [Cond.classLink RX1 51 "java/lang/IndexOutOfBoundsException", Cond.initialized "java/lang/IndexOutOfBoundsException", Cond.fieldLink RX1 12 "ColourTide" "map" "LColourTide$Tide;", Cond.methodLink RX1 108 yX1_isColour, Cond.static yX1_isColour, Cond.initialized RX1, Cond.code yX1_isColour cX1_isColour 1 (some .boolean), Cond.methodLink RX1 114 yX0_sizeOfGreatestRegion, Cond.instanceMethod yX0_sizeOfGreatestRegion, Cond.selects RX0 yX0_sizeOfGreatestRegion yX0_sizeOfGreatestRegion, Cond.initialized RX0, Cond.code yX0_sizeOfGreatestRegion cX0_sizeOfGreatestRegion 6 (some .int), Cond.methodLink RX0 65 Lib.Math.max.name, Cond.static Lib.Math.max.name, Cond.initialized "java/lang/Math", Cond.code Lib.Math.max.name Lib.Math.max.code 2 (some .int), Cond.methodLink RX0 35 yX0_cellsWith, Cond.instanceMethod yX0_cellsWith, Cond.selects RX0 yX0_cellsWith yX0_cellsWith, Cond.code yX0_cellsWith cX0_cellsWith 2 (some .int), Cond.fieldLink RX0 15 "ColourTide$Tide" "sets" "[I", Cond.methodLink RX0 62 yX0_regionFrom, Cond.static yX0_regionFrom, Cond.code yX0_regionFrom cX0_regionFrom 5 (some .int)]
def wsX1_greatestRegion_r2 : List Cond := [Cond.static yX1_nextTo, Cond.code yX1_nextTo cX1_nextTo 1 (some .int), Cond.methodLink RX0 39 yJ6_bitCount_0f7a4, Cond.static yJ6_bitCount_0f7a4, Cond.initialized RJ6, Cond.code yJ6_bitCount_0f7a4 cJ6_bitCount_0f7a4 1 (some .int), Cond.constant RJ6 265 (1431655765), Cond.constant RJ6 266 (858993459), Cond.constant RJ6 267 (252645135)]
def wsX1_greatestRegion : List Cond := .code yX1_greatestRegion cX1_greatestRegion 2 (some .int) :: ((wsX1_greatestRegion_r1 ++ wsX1_greatestRegion_r2) ++ wsX10 ++ wsX00 ++ (vx_atS RX1 55 "java/lang/IndexOutOfBoundsException" ["java/lang/RuntimeException", "java/lang/Exception"]).filter goodWord)
def wsX1_borders : List Cond := .code yX1_borders cX1_borders 1 (some .int) :: ([.fieldLink RX1 12 "ColourTide" "map" "LColourTide$Tide;", .methodLink RX1 117 yX0_countBorders, .instanceMethod yX0_countBorders, .selects RX0 yX0_countBorders yX0_countBorders, .initialized RX0, .code yX0_countBorders cX0_countBorders 3 (some .int), .fieldLink RX0 25 "ColourTide$Tide" "board" "I", .fieldLink RX0 15 "ColourTide$Tide" "sets" "[I", .methodLink RX0 35 yX0_cellsWith, .instanceMethod yX0_cellsWith, .selects RX0 yX0_cellsWith yX0_cellsWith, .code yX0_cellsWith cX0_cellsWith 2 (some .int), .methodLink RX0 70 yX0_countPairs, .static yX0_countPairs, .code yX0_countPairs cX0_countPairs 1 (some .int), .methodLink RX0 39 yJ6_bitCount_0f7a4, .static yJ6_bitCount_0f7a4, .initialized RJ6, .code yJ6_bitCount_0f7a4 cJ6_bitCount_0f7a4 1 (some .int), .constant RJ6 265 (1431655765), .constant RJ6 266 (858993459), .constant RJ6 267 (252645135)] ++ wsX10 ++ wsX00)
def wsX1_leader : List Cond := .code yX1_leader cX1_leader 5 (some .int) :: ([.fieldLink RX1 12 "ColourTide" "map" "LColourTide$Tide;", .methodLink RX1 105 yX0_count, .instanceMethod yX0_count, .selects RX0 yX0_count yX0_count, .initialized RX0, .code yX0_count cX0_count 2 (some .int), .methodLink RX0 35 yX0_cellsWith, .instanceMethod yX0_cellsWith, .selects RX0 yX0_cellsWith yX0_cellsWith, .code yX0_cellsWith cX0_cellsWith 2 (some .int), .fieldLink RX0 15 "ColourTide$Tide" "sets" "[I", .methodLink RX0 39 yJ6_bitCount_0f7a4, .static yJ6_bitCount_0f7a4, .initialized RJ6, .code yJ6_bitCount_0f7a4 cJ6_bitCount_0f7a4 1 (some .int), .constant RJ6 265 (1431655765), .constant RJ6 266 (858993459), .constant RJ6 267 (252645135)] ++ wsX10 ++ wsX00)
def wsX1_isStill : List Cond := .code yX1_isStill cX1_isStill 1 (some .boolean) :: ([.fieldLink RX1 12 "ColourTide" "map" "LColourTide$Tide;", .methodLink RX1 93 yX0_foresee, .instanceMethod yX0_foresee, .selects RX0 yX0_foresee yX0_foresee, .initialized RX0, .code yX0_foresee cX0_foresee 3 (some .int), .fieldLink RX0 22 "ColourTide$Tide" "gains" "[I", .fieldLink RX0 9 "ColourTide$Tide" "need" "I", .fieldLink RX0 15 "ColourTide$Tide" "sets" "[I", .methodLink RX0 56 yX0_addGains, .instanceMethod yX0_addGains, .selects RX0 yX0_addGains yX0_addGains, .code yX0_addGains cX0_addGains 5 none, .fieldLink RX0 19 "ColourTide$Tide" "crowds" "[I", .fieldLink RX0 25 "ColourTide$Tide" "board" "I", .fieldLink RX0 32 "ColourTide$Tide" "stubborn" "I", .methodLink RX0 73 yX0_withNeighbours, .static yX0_withNeighbours, .code yX0_withNeighbours cX0_withNeighbours 6 (some .int)] ++ wsX10 ++ wsX00)
def wsX1_winner : List Cond := .code yX1_winner cX1_winner 2 (some .int) :: ([.fieldLink RX1 12 "ColourTide" "map" "LColourTide$Tide;", .methodLink RX1 120 yX0_isAll, .instanceMethod yX0_isAll, .selects RX0 yX0_isAll yX0_isAll, .initialized RX0, .code yX0_isAll cX0_isAll 2 (some .boolean), .fieldLink RX0 25 "ColourTide$Tide" "board" "I", .methodLink RX0 35 yX0_cellsWith, .instanceMethod yX0_cellsWith, .selects RX0 yX0_cellsWith yX0_cellsWith, .code yX0_cellsWith cX0_cellsWith 2 (some .int), .fieldLink RX0 15 "ColourTide$Tide" "sets" "[I"] ++ wsX10 ++ wsX00)
def wsX1_share_r1 : List Cond := [Cond.classLink RX1 51 "java/lang/IndexOutOfBoundsException", Cond.initialized "java/lang/IndexOutOfBoundsException", Cond.fieldLink RX1 19 "ColourTide" "width" "I", Cond.fieldLink RX1 23 "ColourTide" "height" "I", Cond.fieldLink RX1 12 "ColourTide" "map" "LColourTide$Tide;", Cond.methodLink RX1 48 yX1_isColourOrBare, Cond.static yX1_isColourOrBare, Cond.initialized RX1, Cond.code yX1_isColourOrBare cX1_isColourOrBare 1 (some .boolean), Cond.methodLink RX1 108 yX1_isColour, Cond.static yX1_isColour, Cond.code yX1_isColour cX1_isColour 1 (some .boolean), Cond.methodLink RX1 105 yX0_count, Cond.instanceMethod yX0_count, Cond.selects RX0 yX0_count yX0_count, Cond.initialized RX0, Cond.code yX0_count cX0_count 2 (some .int), Cond.methodLink RX0 35 yX0_cellsWith, Cond.instanceMethod yX0_cellsWith, Cond.selects RX0 yX0_cellsWith yX0_cellsWith, Cond.code yX0_cellsWith cX0_cellsWith 2 (some .int), Cond.fieldLink RX0 15 "ColourTide$Tide" "sets" "[I", Cond.methodLink RX0 39 yJ6_bitCount_0f7a4, Cond.static yJ6_bitCount_0f7a4]
def wsX1_share_r2 : List Cond := [Cond.initialized RJ6, Cond.code yJ6_bitCount_0f7a4 cJ6_bitCount_0f7a4 1 (some .int), Cond.constant RJ6 265 (1431655765), Cond.constant RJ6 266 (858993459), Cond.constant RJ6 267 (252645135)]
def wsX1_share : List Cond := .code yX1_share cX1_share 3 (some .double) :: ((wsX1_share_r1 ++ wsX1_share_r2) ++ wsX10 ++ wsX00 ++ (vx_atS RX1 55 "java/lang/IndexOutOfBoundsException" ["java/lang/RuntimeException", "java/lang/Exception"]).filter goodWord)
def wsX2_init : List Cond := .code yX2_init cX2_init 3 none :: ([.methodLink RX2 1 objectInit, .instanceMethod objectInit, .code objectInit ⟨#[0xb1]⟩ 1 none, .fieldLink RX2 7 "ColourTideLaw$Sim" "need" "I", .fieldLink RX2 13 "ColourTideLaw$Sim" "w" "I", .fieldLink RX2 16 "ColourTideLaw$Sim" "h" "I", .classLink RX2 19 "[[I", .arrayClass .int, .fieldLink RX2 21 "ColourTideLaw$Sim" "map" "[[I", .classLink RX2 24 "[[Z", .arrayClass .boolean, .fieldLink RX2 26 "ColourTideLaw$Sim" "stubborn" "[[Z"] ++ wsX20)
def wsX2_at : List Cond := .code yX2_at cX2_at 3 (some .int) :: ([.fieldLink RX2 13 "ColourTideLaw$Sim" "w" "I", .fieldLink RX2 16 "ColourTideLaw$Sim" "h" "I", .fieldLink RX2 21 "ColourTideLaw$Sim" "map" "[[I"] ++ wsX20)
def wsX2_beside : List Cond := .code yX2_beside cX2_beside 4 (some .int) :: ([.methodLink RX2 29 yX2_at, .instanceMethod yX2_at, .selects RX2 yX2_at yX2_at, .initialized RX2, .code yX2_at cX2_at 3 (some .int), .fieldLink RX2 13 "ColourTideLaw$Sim" "w" "I", .fieldLink RX2 16 "ColourTideLaw$Sim" "h" "I", .fieldLink RX2 21 "ColourTideLaw$Sim" "map" "[[I"] ++ wsX20)
def wsX2_bare : List Cond := .code yX2_bare cX2_bare 4 (some .int) :: ([.fieldLink RX2 13 "ColourTideLaw$Sim" "w" "I", .fieldLink RX2 16 "ColourTideLaw$Sim" "h" "I", .methodLink RX2 33 yX2_beside, .instanceMethod yX2_beside, .selects RX2 yX2_beside yX2_beside, .initialized RX2, .code yX2_beside cX2_beside 4 (some .int), .methodLink RX2 29 yX2_at, .instanceMethod yX2_at, .selects RX2 yX2_at yX2_at, .code yX2_at cX2_at 3 (some .int), .fieldLink RX2 21 "ColourTideLaw$Sim" "map" "[[I"] ++ wsX20)
def wsX2_next : List Cond := .code yX2_next cX2_next 7 (some .int) :: ([.fieldLink RX2 26 "ColourTideLaw$Sim" "stubborn" "[[Z", .fieldLink RX2 21 "ColourTideLaw$Sim" "map" "[[I", .fieldLink RX2 7 "ColourTideLaw$Sim" "need" "I", .methodLink RX2 33 yX2_beside, .instanceMethod yX2_beside, .selects RX2 yX2_beside yX2_beside, .initialized RX2, .code yX2_beside cX2_beside 4 (some .int), .methodLink RX2 29 yX2_at, .instanceMethod yX2_at, .selects RX2 yX2_at yX2_at, .code yX2_at cX2_at 3 (some .int), .fieldLink RX2 13 "ColourTideLaw$Sim" "w" "I", .fieldLink RX2 16 "ColourTideLaw$Sim" "h" "I"] ++ wsX20)
def wsX2_wave : List Cond := .code yX2_wave cX2_wave 5 (some .int) :: ([.fieldLink RX2 13 "ColourTideLaw$Sim" "w" "I", .fieldLink RX2 16 "ColourTideLaw$Sim" "h" "I", .classLink RX2 19 "[[I", .arrayClass .int, .fieldLink RX2 21 "ColourTideLaw$Sim" "map" "[[I", .methodLink RX2 37 yX2_next, .instanceMethod yX2_next, .selects RX2 yX2_next yX2_next, .initialized RX2, .code yX2_next cX2_next 7 (some .int), .fieldLink RX2 26 "ColourTideLaw$Sim" "stubborn" "[[Z", .fieldLink RX2 7 "ColourTideLaw$Sim" "need" "I", .methodLink RX2 33 yX2_beside, .instanceMethod yX2_beside, .selects RX2 yX2_beside yX2_beside, .code yX2_beside cX2_beside 4 (some .int), .methodLink RX2 29 yX2_at, .instanceMethod yX2_at, .selects RX2 yX2_at yX2_at, .code yX2_at cX2_at 3 (some .int)] ++ wsX20)
def wsX2_cells : List Cond := .code yX2_cells cX2_cells 11 (some .int) :: ([.fieldLink RX2 21 "ColourTideLaw$Sim" "map" "[[I"] ++ wsX20)
def wsX2_regions : List Cond := .code yX2_regions cX2_regions 6 (some (.array (.array .int))) :: ([.fieldLink RX2 13 "ColourTideLaw$Sim" "w" "I", .fieldLink RX2 16 "ColourTideLaw$Sim" "h" "I", .classLink RX2 19 "[[I", .arrayClass .int, .fieldLink RX2 21 "ColourTideLaw$Sim" "map" "[[I", .methodLink RX2 46 Lib.Math.min.name, .static Lib.Math.min.name, .initialized "java/lang/Math", .code Lib.Math.min.name Lib.Math.min.code 2 (some .int), .methodLink RX2 29 yX2_at, .instanceMethod yX2_at, .selects RX2 yX2_at yX2_at, .initialized RX2, .code yX2_at cX2_at 3 (some .int)] ++ wsX20)
def wsX2_isSame_r1 : List Cond := [Cond.fieldLink RX2 13 "ColourTideLaw$Sim" "w" "I", Cond.fieldLink RX2 16 "ColourTideLaw$Sim" "h" "I", Cond.fieldLink RX2 7 "ColourTideLaw$Sim" "need" "I", Cond.fieldLink RX2 43 "ColourTideLaw$Sim" "waves" "I", Cond.arrayClass .int, Cond.fieldLink RX2 26 "ColourTideLaw$Sim" "stubborn" "[[Z", Cond.fieldLink RX2 21 "ColourTideLaw$Sim" "map" "[[I", Cond.methodLink RX2 79 Lib.Math.max.name, Cond.static Lib.Math.max.name, Cond.initialized "java/lang/Math", Cond.code Lib.Math.max.name Lib.Math.max.code 2 (some .int), Cond.methodLink RX2 63 yX1_width, Cond.instanceMethod yX1_width, Cond.selects RX1 yX1_width yX1_width, Cond.initialized RX1, Cond.code yX1_width cX1_width 1 (some .int), Cond.fieldLink RX1 19 "ColourTide" "width" "I", Cond.methodLink RX2 68 yX1_height, Cond.instanceMethod yX1_height, Cond.selects RX1 yX1_height yX1_height, Cond.code yX1_height cX1_height 1 (some .int), Cond.fieldLink RX1 23 "ColourTide" "height" "I", Cond.methodLink RX2 71 yX1_need, Cond.instanceMethod yX1_need]
def wsX2_isSame_r2 : List Cond := [Cond.selects RX1 yX1_need yX1_need, Cond.code yX1_need cX1_need 1 (some .int), Cond.fieldLink RX1 12 "ColourTide" "map" "LColourTide$Tide;", Cond.fieldLink RX1 74 "ColourTide$Tide" "need" "I", Cond.methodLink RX2 73 yX1_waves, Cond.instanceMethod yX1_waves, Cond.selects RX1 yX1_waves yX1_waves, Cond.code yX1_waves cX1_waves 1 (some .int), Cond.fieldLink RX1 26 "ColourTide" "waves" "I", Cond.methodLink RX2 75 yX2_regions, Cond.instanceMethod yX2_regions, Cond.selects RX2 yX2_regions yX2_regions, Cond.initialized RX2, Cond.code yX2_regions cX2_regions 6 (some (.array (.array .int))), Cond.classLink RX2 19 "[[I", Cond.methodLink RX2 46 Lib.Math.min.name, Cond.static Lib.Math.min.name, Cond.code Lib.Math.min.name Lib.Math.min.code 2 (some .int), Cond.methodLink RX2 29 yX2_at, Cond.instanceMethod yX2_at, Cond.selects RX2 yX2_at yX2_at, Cond.code yX2_at cX2_at 3 (some .int), Cond.methodLink RX2 37 yX2_next, Cond.instanceMethod yX2_next]
def wsX2_isSame_r3 : List Cond := [Cond.selects RX2 yX2_next yX2_next, Cond.code yX2_next cX2_next 7 (some .int), Cond.methodLink RX2 33 yX2_beside, Cond.instanceMethod yX2_beside, Cond.selects RX2 yX2_beside yX2_beside, Cond.code yX2_beside cX2_beside 4 (some .int), Cond.methodLink RX2 82 yX1_regionsOf, Cond.instanceMethod yX1_regionsOf, Cond.selects RX1 yX1_regionsOf yX1_regionsOf, Cond.code yX1_regionsOf cX1_regionsOf 2 (some .int), Cond.classLink RX1 51 "java/lang/IndexOutOfBoundsException", Cond.initialized "java/lang/IndexOutOfBoundsException", Cond.methodLink RX1 108 yX1_isColour, Cond.static yX1_isColour, Cond.code yX1_isColour cX1_isColour 1 (some .boolean), Cond.methodLink RX1 111 yX0_countRegions, Cond.instanceMethod yX0_countRegions, Cond.selects RX0 yX0_countRegions yX0_countRegions, Cond.initialized RX0, Cond.code yX0_countRegions cX0_countRegions 5 (some .int), Cond.methodLink RX0 35 yX0_cellsWith, Cond.instanceMethod yX0_cellsWith, Cond.selects RX0 yX0_cellsWith yX0_cellsWith, Cond.code yX0_cellsWith cX0_cellsWith 2 (some .int)]
def wsX2_isSame_r4 : List Cond := [Cond.fieldLink RX0 15 "ColourTide$Tide" "sets" "[I", Cond.methodLink RX0 62 yX0_regionFrom, Cond.static yX0_regionFrom, Cond.code yX0_regionFrom cX0_regionFrom 5 (some .int), Cond.static yX1_nextTo, Cond.code yX1_nextTo cX1_nextTo 1 (some .int), Cond.methodLink RX2 85 yX1_greatestRegion, Cond.instanceMethod yX1_greatestRegion, Cond.selects RX1 yX1_greatestRegion yX1_greatestRegion, Cond.code yX1_greatestRegion cX1_greatestRegion 2 (some .int), Cond.methodLink RX1 114 yX0_sizeOfGreatestRegion, Cond.instanceMethod yX0_sizeOfGreatestRegion, Cond.selects RX0 yX0_sizeOfGreatestRegion yX0_sizeOfGreatestRegion, Cond.code yX0_sizeOfGreatestRegion cX0_sizeOfGreatestRegion 6 (some .int), Cond.methodLink RX0 65 Lib.Math.max.name, Cond.methodLink RX0 39 yJ6_bitCount_0f7a4, Cond.static yJ6_bitCount_0f7a4, Cond.initialized RJ6, Cond.code yJ6_bitCount_0f7a4 cJ6_bitCount_0f7a4 1 (some .int), Cond.constant RJ6 265 (1431655765), Cond.constant RJ6 266 (858993459), Cond.constant RJ6 267 (252645135), Cond.methodLink RX2 55 yX2_cells, Cond.instanceMethod yX2_cells]
def wsX2_isSame_r5 : List Cond := [Cond.selects RX2 yX2_cells yX2_cells, Cond.code yX2_cells cX2_cells 11 (some .int), Cond.methodLink RX2 88 yX1_cellsOf, Cond.instanceMethod yX1_cellsOf, Cond.selects RX1 yX1_cellsOf yX1_cellsOf, Cond.code yX1_cellsOf cX1_cellsOf 2 (some .int), Cond.methodLink RX1 48 yX1_isColourOrBare, Cond.static yX1_isColourOrBare, Cond.code yX1_isColourOrBare cX1_isColourOrBare 1 (some .boolean), Cond.methodLink RX1 105 yX0_count, Cond.instanceMethod yX0_count, Cond.selects RX0 yX0_count yX0_count, Cond.code yX0_count cX0_count 2 (some .int), Cond.methodLink RX2 91 yX1_share, Cond.instanceMethod yX1_share, Cond.selects RX1 yX1_share yX1_share, Cond.code yX1_share cX1_share 3 (some .double), Cond.methodLink RX2 95 yX1_colourAt, Cond.instanceMethod yX1_colourAt, Cond.selects RX1 yX1_colourAt yX1_colourAt, Cond.code yX1_colourAt cX1_colourAt 3 (some .int), Cond.methodLink RX1 44 yX1_isOnMap, Cond.instanceMethod yX1_isOnMap, Cond.selects RX1 yX1_isOnMap yX1_isOnMap]
def wsX2_isSame_r6 : List Cond := [Cond.code yX1_isOnMap cX1_isOnMap 3 (some .boolean), Cond.methodLink RX1 56 yX1_cell, Cond.static yX1_cell, Cond.code yX1_cell cX1_cell 2 (some .int), Cond.methodLink RX1 60 yX0_colourOf, Cond.instanceMethod yX0_colourOf, Cond.selects RX0 yX0_colourOf yX0_colourOf, Cond.code yX0_colourOf cX0_colourOf 2 (some .int), Cond.methodLink RX0 44 yX0_firstColourWith, Cond.static yX0_firstColourWith, Cond.code yX0_firstColourWith cX0_firstColourWith 3 (some .int), Cond.methodLink RX2 98 yX1_isStubborn, Cond.instanceMethod yX1_isStubborn, Cond.selects RX1 yX1_isStubborn yX1_isStubborn, Cond.code yX1_isStubborn cX1_isStubborn 3 (some .boolean), Cond.fieldLink RX1 69 "ColourTide$Tide" "stubborn" "I", Cond.methodLink RX2 102 yX1_nextColour, Cond.instanceMethod yX1_nextColour, Cond.selects RX1 yX1_nextColour yX1_nextColour, Cond.code yX1_nextColour cX1_nextColour 3 (some .int), Cond.methodLink RX1 93 yX0_foresee, Cond.instanceMethod yX0_foresee, Cond.selects RX0 yX0_foresee yX0_foresee, Cond.code yX0_foresee cX0_foresee 3 (some .int)]
def wsX2_isSame_r7 : List Cond := [Cond.fieldLink RX0 22 "ColourTide$Tide" "gains" "[I", Cond.fieldLink RX0 9 "ColourTide$Tide" "need" "I", Cond.methodLink RX0 56 yX0_addGains, Cond.instanceMethod yX0_addGains, Cond.selects RX0 yX0_addGains yX0_addGains, Cond.code yX0_addGains cX0_addGains 5 none, Cond.fieldLink RX0 19 "ColourTide$Tide" "crowds" "[I", Cond.fieldLink RX0 25 "ColourTide$Tide" "board" "I", Cond.fieldLink RX0 32 "ColourTide$Tide" "stubborn" "I", Cond.methodLink RX0 73 yX0_withNeighbours, Cond.static yX0_withNeighbours, Cond.code yX0_withNeighbours cX0_withNeighbours 6 (some .int), Cond.methodLink RX1 97 yX0_foreseenColourOf, Cond.instanceMethod yX0_foreseenColourOf, Cond.selects RX0 yX0_foreseenColourOf yX0_foreseenColourOf, Cond.code yX0_foreseenColourOf cX0_foreseenColourOf 3 (some .int), Cond.methodLink RX0 59 yX0_colourOf, Cond.methodLink RX2 105 yX1_regionSize, Cond.instanceMethod yX1_regionSize, Cond.selects RX1 yX1_regionSize yX1_regionSize, Cond.code yX1_regionSize cX1_regionSize 3 (some .int), Cond.methodLink RX1 100 yX0_sizeOfRegion, Cond.instanceMethod yX0_sizeOfRegion, Cond.selects RX0 yX0_sizeOfRegion yX0_sizeOfRegion]
def wsX2_isSame_r8 : List Cond := [Cond.code yX0_sizeOfRegion cX0_sizeOfRegion 3 (some .int), Cond.methodLink RX2 108 yX1_neighboursWith, Cond.instanceMethod yX1_neighboursWith, Cond.selects RX1 yX1_neighboursWith yX1_neighboursWith, Cond.code yX1_neighboursWith cX1_neighboursWith 4 (some .int), Cond.methodLink RX1 87 yX1_nextTo, Cond.methodLink RX1 90 yX0_cellsWith, Cond.methodLink RX1 82 yJ6_bitCount_0f7a4, Cond.methodLink RX2 111 yX2_bare, Cond.instanceMethod yX2_bare, Cond.selects RX2 yX2_bare yX2_bare, Cond.code yX2_bare cX2_bare 4 (some .int), Cond.methodLink RX2 114 yX1_stubbornCells, Cond.instanceMethod yX1_stubbornCells, Cond.selects RX1 yX1_stubbornCells yX1_stubbornCells, Cond.code yX1_stubbornCells cX1_stubbornCells 1 (some .int), Cond.methodLink RX2 117 yX1_borders, Cond.instanceMethod yX1_borders, Cond.selects RX1 yX1_borders yX1_borders, Cond.code yX1_borders cX1_borders 1 (some .int), Cond.methodLink RX1 117 yX0_countBorders, Cond.instanceMethod yX0_countBorders, Cond.selects RX0 yX0_countBorders yX0_countBorders, Cond.code yX0_countBorders cX0_countBorders 3 (some .int)]
def wsX2_isSame_r9 : List Cond := [Cond.methodLink RX0 70 yX0_countPairs, Cond.static yX0_countPairs, Cond.code yX0_countPairs cX0_countPairs 1 (some .int), Cond.methodLink RX2 120 yX1_leader, Cond.instanceMethod yX1_leader, Cond.selects RX1 yX1_leader yX1_leader, Cond.code yX1_leader cX1_leader 5 (some .int), Cond.methodLink RX2 123 yX1_winner, Cond.instanceMethod yX1_winner, Cond.selects RX1 yX1_winner yX1_winner, Cond.code yX1_winner cX1_winner 2 (some .int), Cond.methodLink RX1 120 yX0_isAll, Cond.instanceMethod yX0_isAll, Cond.selects RX0 yX0_isAll yX0_isAll, Cond.code yX0_isAll cX0_isAll 2 (some .boolean), Cond.methodLink RX2 126 yX1_isStill, Cond.instanceMethod yX1_isStill, Cond.selects RX1 yX1_isStill yX1_isStill, Cond.code yX1_isStill cX1_isStill 1 (some .boolean)]
def wsX2_isSame : List Cond := .code yX2_isSame cX2_isSame 14 (some .boolean) :: ((wsX2_isSame_r1 ++ (wsX2_isSame_r2 ++ (wsX2_isSame_r3 ++ (wsX2_isSame_r4 ++ (wsX2_isSame_r5 ++ (wsX2_isSame_r6 ++ (wsX2_isSame_r7 ++ (wsX2_isSame_r8 ++ wsX2_isSame_r9)))))))) ++ wsX20 ++ wsX10 ++ wsX00 ++ (vx_atS RX1 55 "java/lang/IndexOutOfBoundsException" ["java/lang/RuntimeException", "java/lang/Exception"]).filter goodWord)
def wsJ9_max_7cf53 : List Cond := .code yJ9_max_7cf53 cJ9_max_7cf53 2 (some .int) :: ([])
def wsJ9_min_7cf53 : List Cond := .code yJ9_min_7cf53 cJ9_min_7cf53 2 (some .int) :: ([])
def wsL_below : List Cond := .code yL_below cL_below 2 (some .int) :: ([.constant RL 7 (2147483647)])
def wsL_cell : List Cond := .code yL_cell cL_cell 2 (some .int) :: ([.constant RL 8 (790386105)])
def wsL_act_r1 : List Cond := [Cond.fieldLink RL 9 "ColourTideLaw$Sim" "w" "I", Cond.fieldLink RL 21 "ColourTideLaw$Sim" "h" "I", Cond.classLink RL 10 RX2, Cond.instantiable RX2 6, Cond.initialized RX2, Cond.fieldLink RL 27 "ColourTideLaw$Sim" "need" "I", Cond.fieldLink RL 35 "ColourTideLaw$Sim" "stubborn" "[[Z", Cond.fieldLink RL 51 "ColourTideLaw$Sim" "waves" "I", Cond.fieldLink RL 57 "ColourTideLaw$Sim" "map" "[[I", Cond.methodLink RL 15 yL_below, Cond.static yL_below, Cond.initialized RL, Cond.code yL_below cL_below 2 (some .int), Cond.constant RL 7 (2147483647), Cond.methodLink RL 24 yX2_init, Cond.instanceMethod yX2_init, Cond.code yX2_init cX2_init 3 none, Cond.methodLink RX2 1 objectInit, Cond.instanceMethod objectInit, Cond.code objectInit ⟨#[0xb1]⟩ 1 none, Cond.fieldLink RX2 7 "ColourTideLaw$Sim" "need" "I", Cond.fieldLink RX2 13 "ColourTideLaw$Sim" "w" "I", Cond.fieldLink RX2 16 "ColourTideLaw$Sim" "h" "I", Cond.classLink RX2 19 "[[I"]
def wsL_act_r2 : List Cond := [Cond.arrayClass .int, Cond.fieldLink RX2 21 "ColourTideLaw$Sim" "map" "[[I", Cond.classLink RX2 24 "[[Z", Cond.arrayClass .boolean, Cond.fieldLink RX2 26 "ColourTideLaw$Sim" "stubborn" "[[Z", Cond.methodLink RL 30 yX1_newMap, Cond.instanceMethod yX1_newMap, Cond.selects RX1 yX1_newMap yX1_newMap, Cond.initialized RX1, Cond.code yX1_newMap cX1_newMap 3 (some .int), Cond.classLink RX1 37 "java/lang/IllegalArgumentException", Cond.initialized "java/lang/IllegalArgumentException", Cond.fieldLink RX1 19 "ColourTide" "width" "I", Cond.fieldLink RX1 23 "ColourTide" "height" "I", Cond.fieldLink RX1 26 "ColourTide" "waves" "I", Cond.fieldLink RX1 12 "ColourTide" "map" "LColourTide$Tide;", Cond.methodLink RX1 33 yX1_isSide, Cond.static yX1_isSide, Cond.code yX1_isSide cX1_isSide 1 (some .boolean), Cond.methodLink RX1 29 yX0_clear, Cond.instanceMethod yX0_clear, Cond.selects RX0 yX0_clear yX0_clear, Cond.initialized RX0, Cond.code yX0_clear cX0_clear 5 none]
def wsL_act_r3 : List Cond := [Cond.fieldLink RX0 25 "ColourTide$Tide" "board" "I", Cond.fieldLink RX0 32 "ColourTide$Tide" "stubborn" "I", Cond.fieldLink RX0 15 "ColourTide$Tide" "sets" "[I", Cond.static yX1_cell, Cond.code yX1_cell cX1_cell 2 (some .int), Cond.methodLink RL 39 yX1_turnStubborn, Cond.instanceMethod yX1_turnStubborn, Cond.selects RX1 yX1_turnStubborn yX1_turnStubborn, Cond.code yX1_turnStubborn cX1_turnStubborn 3 (some .boolean), Cond.classLink RX1 51 "java/lang/IndexOutOfBoundsException", Cond.initialized "java/lang/IndexOutOfBoundsException", Cond.fieldLink RX1 69 "ColourTide$Tide" "stubborn" "I", Cond.methodLink RX1 44 yX1_isOnMap, Cond.instanceMethod yX1_isOnMap, Cond.selects RX1 yX1_isOnMap yX1_isOnMap, Cond.code yX1_isOnMap cX1_isOnMap 3 (some .boolean), Cond.methodLink RX1 56 yX1_cell, Cond.methodLink RL 43 yX1_setNeed, Cond.instanceMethod yX1_setNeed, Cond.selects RX1 yX1_setNeed yX1_setNeed, Cond.code yX1_setNeed cX1_setNeed 3 (some .int), Cond.fieldLink RX1 74 "ColourTide$Tide" "need" "I", Cond.methodLink RL 47 yX2_wave, Cond.instanceMethod yX2_wave]
def wsL_act_r4 : List Cond := [Cond.selects RX2 yX2_wave yX2_wave, Cond.code yX2_wave cX2_wave 5 (some .int), Cond.methodLink RX2 37 yX2_next, Cond.instanceMethod yX2_next, Cond.selects RX2 yX2_next yX2_next, Cond.code yX2_next cX2_next 7 (some .int), Cond.methodLink RX2 33 yX2_beside, Cond.instanceMethod yX2_beside, Cond.selects RX2 yX2_beside yX2_beside, Cond.code yX2_beside cX2_beside 4 (some .int), Cond.methodLink RX2 29 yX2_at, Cond.instanceMethod yX2_at, Cond.selects RX2 yX2_at yX2_at, Cond.code yX2_at cX2_at 3 (some .int), Cond.methodLink RL 54 yX1_pass, Cond.instanceMethod yX1_pass, Cond.selects RX1 yX1_pass yX1_pass, Cond.code yX1_pass cX1_pass 2 (some .int), Cond.methodLink RX1 79 yX0_surge, Cond.instanceMethod yX0_surge, Cond.selects RX0 yX0_surge yX0_surge, Cond.code yX0_surge cX0_surge 4 (some .int), Cond.methodLink RX0 48 yX0_foresee, Cond.instanceMethod yX0_foresee]
def wsL_act_r5 : List Cond := [Cond.selects RX0 yX0_foresee yX0_foresee, Cond.code yX0_foresee cX0_foresee 3 (some .int), Cond.fieldLink RX0 22 "ColourTide$Tide" "gains" "[I", Cond.fieldLink RX0 9 "ColourTide$Tide" "need" "I", Cond.methodLink RX0 56 yX0_addGains, Cond.instanceMethod yX0_addGains, Cond.selects RX0 yX0_addGains yX0_addGains, Cond.code yX0_addGains cX0_addGains 5 none, Cond.fieldLink RX0 19 "ColourTide$Tide" "crowds" "[I", Cond.methodLink RX0 73 yX0_withNeighbours, Cond.static yX0_withNeighbours, Cond.code yX0_withNeighbours cX0_withNeighbours 6 (some .int), Cond.methodLink RX0 52 yX0_takeGains, Cond.instanceMethod yX0_takeGains, Cond.selects RX0 yX0_takeGains yX0_takeGains, Cond.code yX0_takeGains cX0_takeGains 3 none, Cond.methodLink RX1 82 yJ6_bitCount_0f7a4, Cond.static yJ6_bitCount_0f7a4, Cond.initialized RJ6, Cond.code yJ6_bitCount_0f7a4 cJ6_bitCount_0f7a4 1 (some .int), Cond.constant RJ6 265 (1431655765), Cond.constant RJ6 266 (858993459), Cond.constant RJ6 267 (252645135), Cond.methodLink RL 61 yX1_paint]
def wsL_act_r6 : List Cond := [Cond.instanceMethod yX1_paint, Cond.selects RX1 yX1_paint yX1_paint, Cond.code yX1_paint cX1_paint 5 (some .int), Cond.methodLink RX1 48 yX1_isColourOrBare, Cond.static yX1_isColourOrBare, Cond.code yX1_isColourOrBare cX1_isColourOrBare 1 (some .boolean), Cond.methodLink RX1 108 yX1_isColour, Cond.static yX1_isColour, Cond.code yX1_isColour cX1_isColour 1 (some .boolean), Cond.methodLink RX1 60 yX0_colourOf, Cond.instanceMethod yX0_colourOf, Cond.selects RX0 yX0_colourOf yX0_colourOf, Cond.code yX0_colourOf cX0_colourOf 2 (some .int), Cond.methodLink RX0 44 yX0_firstColourWith, Cond.static yX0_firstColourWith, Cond.code yX0_firstColourWith cX0_firstColourWith 3 (some .int), Cond.methodLink RX1 64 yX0_dye, Cond.instanceMethod yX0_dye, Cond.selects RX0 yX0_dye yX0_dye, Cond.code yX0_dye cX0_dye 4 none]
def wsL_act : List Cond := .code yL_act cL_act 10 (some (.object "ColourTideLaw$Sim")) :: ((wsL_act_r1 ++ (wsL_act_r2 ++ (wsL_act_r3 ++ (wsL_act_r4 ++ (wsL_act_r5 ++ wsL_act_r6))))) ++ wsX20 ++ wsX10 ++ wsX00 ++ (vx_atS RX1 41 "java/lang/IllegalArgumentException" ["java/lang/RuntimeException", "java/lang/Exception"]).filter goodWord ++ (vx_atS RX1 55 "java/lang/IndexOutOfBoundsException" ["java/lang/RuntimeException", "java/lang/Exception"]).filter goodWord)
def wsL_build_r1 : List Cond := [Cond.classLink RL 10 RX2, Cond.instantiable RX2 6, Cond.initialized RX2, Cond.fieldLink RL 9 "ColourTideLaw$Sim" "w" "I", Cond.fieldLink RL 21 "ColourTideLaw$Sim" "h" "I", Cond.methodLink RL 65 yL_cell, Cond.static yL_cell, Cond.initialized RL, Cond.code yL_cell cL_cell 2 (some .int), Cond.constant RL 8 (790386105), Cond.methodLink RL 15 yL_below, Cond.static yL_below, Cond.code yL_below cL_below 2 (some .int), Cond.constant RL 7 (2147483647), Cond.methodLink RL 24 yX2_init, Cond.instanceMethod yX2_init, Cond.code yX2_init cX2_init 3 none, Cond.methodLink RX2 1 objectInit, Cond.instanceMethod objectInit, Cond.code objectInit ⟨#[0xb1]⟩ 1 none, Cond.fieldLink RX2 7 "ColourTideLaw$Sim" "need" "I", Cond.fieldLink RX2 13 "ColourTideLaw$Sim" "w" "I", Cond.fieldLink RX2 16 "ColourTideLaw$Sim" "h" "I", Cond.classLink RX2 19 "[[I"]
def wsL_build_r2 : List Cond := [Cond.arrayClass .int, Cond.fieldLink RX2 21 "ColourTideLaw$Sim" "map" "[[I", Cond.classLink RX2 24 "[[Z", Cond.arrayClass .boolean, Cond.fieldLink RX2 26 "ColourTideLaw$Sim" "stubborn" "[[Z", Cond.methodLink RL 30 yX1_newMap, Cond.instanceMethod yX1_newMap, Cond.selects RX1 yX1_newMap yX1_newMap, Cond.initialized RX1, Cond.code yX1_newMap cX1_newMap 3 (some .int), Cond.classLink RX1 37 "java/lang/IllegalArgumentException", Cond.initialized "java/lang/IllegalArgumentException", Cond.fieldLink RX1 19 "ColourTide" "width" "I", Cond.fieldLink RX1 23 "ColourTide" "height" "I", Cond.fieldLink RX1 26 "ColourTide" "waves" "I", Cond.fieldLink RX1 12 "ColourTide" "map" "LColourTide$Tide;", Cond.methodLink RX1 33 yX1_isSide, Cond.static yX1_isSide, Cond.code yX1_isSide cX1_isSide 1 (some .boolean), Cond.methodLink RX1 29 yX0_clear, Cond.instanceMethod yX0_clear, Cond.selects RX0 yX0_clear yX0_clear, Cond.initialized RX0, Cond.code yX0_clear cX0_clear 5 none]
def wsL_build_r3 : List Cond := [Cond.fieldLink RX0 25 "ColourTide$Tide" "board" "I", Cond.fieldLink RX0 32 "ColourTide$Tide" "stubborn" "I", Cond.fieldLink RX0 15 "ColourTide$Tide" "sets" "[I", Cond.static yX1_cell, Cond.code yX1_cell cX1_cell 2 (some .int), Cond.methodLink RL 69 yL_act, Cond.static yL_act, Cond.code yL_act cL_act 10 (some (.object "ColourTideLaw$Sim")), Cond.fieldLink RL 27 "ColourTideLaw$Sim" "need" "I", Cond.fieldLink RL 35 "ColourTideLaw$Sim" "stubborn" "[[Z", Cond.fieldLink RL 51 "ColourTideLaw$Sim" "waves" "I", Cond.fieldLink RL 57 "ColourTideLaw$Sim" "map" "[[I", Cond.methodLink RL 39 yX1_turnStubborn, Cond.instanceMethod yX1_turnStubborn, Cond.selects RX1 yX1_turnStubborn yX1_turnStubborn, Cond.code yX1_turnStubborn cX1_turnStubborn 3 (some .boolean), Cond.classLink RX1 51 "java/lang/IndexOutOfBoundsException", Cond.initialized "java/lang/IndexOutOfBoundsException", Cond.fieldLink RX1 69 "ColourTide$Tide" "stubborn" "I", Cond.methodLink RX1 44 yX1_isOnMap, Cond.instanceMethod yX1_isOnMap, Cond.selects RX1 yX1_isOnMap yX1_isOnMap, Cond.code yX1_isOnMap cX1_isOnMap 3 (some .boolean), Cond.methodLink RX1 56 yX1_cell]
def wsL_build_r4 : List Cond := [Cond.methodLink RL 43 yX1_setNeed, Cond.instanceMethod yX1_setNeed, Cond.selects RX1 yX1_setNeed yX1_setNeed, Cond.code yX1_setNeed cX1_setNeed 3 (some .int), Cond.fieldLink RX1 74 "ColourTide$Tide" "need" "I", Cond.methodLink RL 47 yX2_wave, Cond.instanceMethod yX2_wave, Cond.selects RX2 yX2_wave yX2_wave, Cond.code yX2_wave cX2_wave 5 (some .int), Cond.methodLink RX2 37 yX2_next, Cond.instanceMethod yX2_next, Cond.selects RX2 yX2_next yX2_next, Cond.code yX2_next cX2_next 7 (some .int), Cond.methodLink RX2 33 yX2_beside, Cond.instanceMethod yX2_beside, Cond.selects RX2 yX2_beside yX2_beside, Cond.code yX2_beside cX2_beside 4 (some .int), Cond.methodLink RX2 29 yX2_at, Cond.instanceMethod yX2_at, Cond.selects RX2 yX2_at yX2_at, Cond.code yX2_at cX2_at 3 (some .int), Cond.methodLink RL 54 yX1_pass, Cond.instanceMethod yX1_pass, Cond.selects RX1 yX1_pass yX1_pass]
def wsL_build_r5 : List Cond := [Cond.code yX1_pass cX1_pass 2 (some .int), Cond.methodLink RX1 79 yX0_surge, Cond.instanceMethod yX0_surge, Cond.selects RX0 yX0_surge yX0_surge, Cond.code yX0_surge cX0_surge 4 (some .int), Cond.methodLink RX0 48 yX0_foresee, Cond.instanceMethod yX0_foresee, Cond.selects RX0 yX0_foresee yX0_foresee, Cond.code yX0_foresee cX0_foresee 3 (some .int), Cond.fieldLink RX0 22 "ColourTide$Tide" "gains" "[I", Cond.fieldLink RX0 9 "ColourTide$Tide" "need" "I", Cond.methodLink RX0 56 yX0_addGains, Cond.instanceMethod yX0_addGains, Cond.selects RX0 yX0_addGains yX0_addGains, Cond.code yX0_addGains cX0_addGains 5 none, Cond.fieldLink RX0 19 "ColourTide$Tide" "crowds" "[I", Cond.methodLink RX0 73 yX0_withNeighbours, Cond.static yX0_withNeighbours, Cond.code yX0_withNeighbours cX0_withNeighbours 6 (some .int), Cond.methodLink RX0 52 yX0_takeGains, Cond.instanceMethod yX0_takeGains, Cond.selects RX0 yX0_takeGains yX0_takeGains, Cond.code yX0_takeGains cX0_takeGains 3 none, Cond.methodLink RX1 82 yJ6_bitCount_0f7a4]
def wsL_build_r6 : List Cond := [Cond.static yJ6_bitCount_0f7a4, Cond.initialized RJ6, Cond.code yJ6_bitCount_0f7a4 cJ6_bitCount_0f7a4 1 (some .int), Cond.constant RJ6 265 (1431655765), Cond.constant RJ6 266 (858993459), Cond.constant RJ6 267 (252645135), Cond.methodLink RL 61 yX1_paint, Cond.instanceMethod yX1_paint, Cond.selects RX1 yX1_paint yX1_paint, Cond.code yX1_paint cX1_paint 5 (some .int), Cond.methodLink RX1 48 yX1_isColourOrBare, Cond.static yX1_isColourOrBare, Cond.code yX1_isColourOrBare cX1_isColourOrBare 1 (some .boolean), Cond.methodLink RX1 108 yX1_isColour, Cond.static yX1_isColour, Cond.code yX1_isColour cX1_isColour 1 (some .boolean), Cond.methodLink RX1 60 yX0_colourOf, Cond.instanceMethod yX0_colourOf, Cond.selects RX0 yX0_colourOf yX0_colourOf, Cond.code yX0_colourOf cX0_colourOf 2 (some .int), Cond.methodLink RX0 44 yX0_firstColourWith, Cond.static yX0_firstColourWith, Cond.code yX0_firstColourWith cX0_firstColourWith 3 (some .int), Cond.methodLink RX1 64 yX0_dye]
def wsL_build_r7 : List Cond := [Cond.instanceMethod yX0_dye, Cond.selects RX0 yX0_dye yX0_dye, Cond.code yX0_dye cX0_dye 4 none]
def wsL_build : List Cond := .code yL_build cL_build 5 (some (.object "ColourTideLaw$Sim")) :: ((wsL_build_r1 ++ (wsL_build_r2 ++ (wsL_build_r3 ++ (wsL_build_r4 ++ (wsL_build_r5 ++ (wsL_build_r6 ++ wsL_build_r7)))))) ++ wsX20 ++ wsX10 ++ wsX00 ++ (vx_atS RX1 41 "java/lang/IllegalArgumentException" ["java/lang/RuntimeException", "java/lang/Exception"]).filter goodWord ++ (vx_atS RX1 55 "java/lang/IndexOutOfBoundsException" ["java/lang/RuntimeException", "java/lang/Exception"]).filter goodWord)
def wsL_law0_r1 : List Cond := [Cond.classLink RL 31 RX1, Cond.instantiable RX1 5, Cond.initialized RX1, Cond.arrayClass .int, Cond.classLink RL 87 "[[I", Cond.fieldLink RL 51 "ColourTideLaw$Sim" "waves" "I", Cond.constantDouble RL 120 (4607182409792818153), Cond.constantDouble RL 122 (4607182423303617035), Cond.methodLink RL 73 yX1_init, Cond.instanceMethod yX1_init, Cond.code yX1_init cX1_init 1 none, Cond.methodLink RX1 3 objectInit, Cond.instanceMethod objectInit, Cond.code objectInit ⟨#[0xb1]⟩ 1 none, Cond.classLink RX1 9 RX0, Cond.instantiable RX0 6, Cond.initialized RX0, Cond.fieldLink RX1 12 "ColourTide" "map" "LColourTide$Tide;", Cond.fieldLink RX1 16 "ColourTide" "trial" "LColourTide$Tide;", Cond.fieldLink RX1 19 "ColourTide" "width" "I", Cond.fieldLink RX1 23 "ColourTide" "height" "I", Cond.fieldLink RX1 26 "ColourTide" "waves" "I", Cond.methodLink RX1 11 yX0_init, Cond.instanceMethod yX0_init]
def wsL_law0_r2 : List Cond := [Cond.code yX0_init cX0_init 1 none, Cond.methodLink RX0 3 objectInit, Cond.fieldLink RX0 9 "ColourTide$Tide" "need" "I", Cond.fieldLink RX0 15 "ColourTide$Tide" "sets" "[I", Cond.fieldLink RX0 19 "ColourTide$Tide" "crowds" "[I", Cond.fieldLink RX0 22 "ColourTide$Tide" "gains" "[I", Cond.methodLink RX1 29 yX0_clear, Cond.instanceMethod yX0_clear, Cond.selects RX0 yX0_clear yX0_clear, Cond.code yX0_clear cX0_clear 5 none, Cond.fieldLink RX0 25 "ColourTide$Tide" "board" "I", Cond.fieldLink RX0 32 "ColourTide$Tide" "stubborn" "I", Cond.static yX1_cell, Cond.code yX1_cell cX1_cell 2 (some .int), Cond.methodLink RL 74 yL_build, Cond.static yL_build, Cond.initialized RL, Cond.code yL_build cL_build 5 (some (.object "ColourTideLaw$Sim")), Cond.classLink RL 10 RX2, Cond.instantiable RX2 6, Cond.initialized RX2, Cond.fieldLink RL 9 "ColourTideLaw$Sim" "w" "I", Cond.fieldLink RL 21 "ColourTideLaw$Sim" "h" "I", Cond.methodLink RL 65 yL_cell]
def wsL_law0_r3 : List Cond := [Cond.static yL_cell, Cond.code yL_cell cL_cell 2 (some .int), Cond.constant RL 8 (790386105), Cond.methodLink RL 15 yL_below, Cond.static yL_below, Cond.code yL_below cL_below 2 (some .int), Cond.constant RL 7 (2147483647), Cond.methodLink RL 24 yX2_init, Cond.instanceMethod yX2_init, Cond.code yX2_init cX2_init 3 none, Cond.methodLink RX2 1 objectInit, Cond.fieldLink RX2 7 "ColourTideLaw$Sim" "need" "I", Cond.fieldLink RX2 13 "ColourTideLaw$Sim" "w" "I", Cond.fieldLink RX2 16 "ColourTideLaw$Sim" "h" "I", Cond.classLink RX2 19 "[[I", Cond.fieldLink RX2 21 "ColourTideLaw$Sim" "map" "[[I", Cond.classLink RX2 24 "[[Z", Cond.arrayClass .boolean, Cond.fieldLink RX2 26 "ColourTideLaw$Sim" "stubborn" "[[Z", Cond.methodLink RL 30 yX1_newMap, Cond.instanceMethod yX1_newMap, Cond.selects RX1 yX1_newMap yX1_newMap, Cond.code yX1_newMap cX1_newMap 3 (some .int), Cond.classLink RX1 37 "java/lang/IllegalArgumentException"]
def wsL_law0_r4 : List Cond := [Cond.initialized "java/lang/IllegalArgumentException", Cond.methodLink RX1 33 yX1_isSide, Cond.static yX1_isSide, Cond.code yX1_isSide cX1_isSide 1 (some .boolean), Cond.methodLink RL 69 yL_act, Cond.static yL_act, Cond.code yL_act cL_act 10 (some (.object "ColourTideLaw$Sim")), Cond.fieldLink RL 27 "ColourTideLaw$Sim" "need" "I", Cond.fieldLink RL 35 "ColourTideLaw$Sim" "stubborn" "[[Z", Cond.fieldLink RL 57 "ColourTideLaw$Sim" "map" "[[I", Cond.methodLink RL 39 yX1_turnStubborn, Cond.instanceMethod yX1_turnStubborn, Cond.selects RX1 yX1_turnStubborn yX1_turnStubborn, Cond.code yX1_turnStubborn cX1_turnStubborn 3 (some .boolean), Cond.classLink RX1 51 "java/lang/IndexOutOfBoundsException", Cond.initialized "java/lang/IndexOutOfBoundsException", Cond.fieldLink RX1 69 "ColourTide$Tide" "stubborn" "I", Cond.methodLink RX1 44 yX1_isOnMap, Cond.instanceMethod yX1_isOnMap, Cond.selects RX1 yX1_isOnMap yX1_isOnMap, Cond.code yX1_isOnMap cX1_isOnMap 3 (some .boolean), Cond.methodLink RX1 56 yX1_cell, Cond.methodLink RL 43 yX1_setNeed, Cond.instanceMethod yX1_setNeed]
def wsL_law0_r5 : List Cond := [Cond.selects RX1 yX1_setNeed yX1_setNeed, Cond.code yX1_setNeed cX1_setNeed 3 (some .int), Cond.fieldLink RX1 74 "ColourTide$Tide" "need" "I", Cond.methodLink RL 47 yX2_wave, Cond.instanceMethod yX2_wave, Cond.selects RX2 yX2_wave yX2_wave, Cond.code yX2_wave cX2_wave 5 (some .int), Cond.methodLink RX2 37 yX2_next, Cond.instanceMethod yX2_next, Cond.selects RX2 yX2_next yX2_next, Cond.code yX2_next cX2_next 7 (some .int), Cond.methodLink RX2 33 yX2_beside, Cond.instanceMethod yX2_beside, Cond.selects RX2 yX2_beside yX2_beside, Cond.code yX2_beside cX2_beside 4 (some .int), Cond.methodLink RX2 29 yX2_at, Cond.instanceMethod yX2_at, Cond.selects RX2 yX2_at yX2_at, Cond.code yX2_at cX2_at 3 (some .int), Cond.methodLink RL 54 yX1_pass, Cond.instanceMethod yX1_pass, Cond.selects RX1 yX1_pass yX1_pass, Cond.code yX1_pass cX1_pass 2 (some .int), Cond.methodLink RX1 79 yX0_surge]
def wsL_law0_r6 : List Cond := [Cond.instanceMethod yX0_surge, Cond.selects RX0 yX0_surge yX0_surge, Cond.code yX0_surge cX0_surge 4 (some .int), Cond.methodLink RX0 48 yX0_foresee, Cond.instanceMethod yX0_foresee, Cond.selects RX0 yX0_foresee yX0_foresee, Cond.code yX0_foresee cX0_foresee 3 (some .int), Cond.methodLink RX0 56 yX0_addGains, Cond.instanceMethod yX0_addGains, Cond.selects RX0 yX0_addGains yX0_addGains, Cond.code yX0_addGains cX0_addGains 5 none, Cond.methodLink RX0 73 yX0_withNeighbours, Cond.static yX0_withNeighbours, Cond.code yX0_withNeighbours cX0_withNeighbours 6 (some .int), Cond.methodLink RX0 52 yX0_takeGains, Cond.instanceMethod yX0_takeGains, Cond.selects RX0 yX0_takeGains yX0_takeGains, Cond.code yX0_takeGains cX0_takeGains 3 none, Cond.methodLink RX1 82 yJ6_bitCount_0f7a4, Cond.static yJ6_bitCount_0f7a4, Cond.initialized RJ6, Cond.code yJ6_bitCount_0f7a4 cJ6_bitCount_0f7a4 1 (some .int), Cond.constant RJ6 265 (1431655765), Cond.constant RJ6 266 (858993459)]
def wsL_law0_r7 : List Cond := [Cond.constant RJ6 267 (252645135), Cond.methodLink RL 61 yX1_paint, Cond.instanceMethod yX1_paint, Cond.selects RX1 yX1_paint yX1_paint, Cond.code yX1_paint cX1_paint 5 (some .int), Cond.methodLink RX1 48 yX1_isColourOrBare, Cond.static yX1_isColourOrBare, Cond.code yX1_isColourOrBare cX1_isColourOrBare 1 (some .boolean), Cond.methodLink RX1 108 yX1_isColour, Cond.static yX1_isColour, Cond.code yX1_isColour cX1_isColour 1 (some .boolean), Cond.methodLink RX1 60 yX0_colourOf, Cond.instanceMethod yX0_colourOf, Cond.selects RX0 yX0_colourOf yX0_colourOf, Cond.code yX0_colourOf cX0_colourOf 2 (some .int), Cond.methodLink RX0 44 yX0_firstColourWith, Cond.static yX0_firstColourWith, Cond.code yX0_firstColourWith cX0_firstColourWith 3 (some .int), Cond.methodLink RX1 64 yX0_dye, Cond.instanceMethod yX0_dye, Cond.selects RX0 yX0_dye yX0_dye, Cond.code yX0_dye cX0_dye 4 none, Cond.methodLink RL 78 yX1_width, Cond.instanceMethod yX1_width]
def wsL_law0_r8 : List Cond := [Cond.selects RX1 yX1_width yX1_width, Cond.code yX1_width cX1_width 1 (some .int), Cond.methodLink RL 81 yX1_height, Cond.instanceMethod yX1_height, Cond.selects RX1 yX1_height yX1_height, Cond.code yX1_height cX1_height 1 (some .int), Cond.methodLink RL 84 yX1_cellsOf, Cond.instanceMethod yX1_cellsOf, Cond.selects RX1 yX1_cellsOf yX1_cellsOf, Cond.code yX1_cellsOf cX1_cellsOf 2 (some .int), Cond.methodLink RX1 105 yX0_count, Cond.instanceMethod yX0_count, Cond.selects RX0 yX0_count yX0_count, Cond.code yX0_count cX0_count 2 (some .int), Cond.methodLink RX0 35 yX0_cellsWith, Cond.instanceMethod yX0_cellsWith, Cond.selects RX0 yX0_cellsWith yX0_cellsWith, Cond.code yX0_cellsWith cX0_cellsWith 2 (some .int), Cond.methodLink RX0 39 yJ6_bitCount_0f7a4, Cond.methodLink RL 88 yX1_colourAt, Cond.instanceMethod yX1_colourAt, Cond.selects RX1 yX1_colourAt yX1_colourAt, Cond.code yX1_colourAt cX1_colourAt 3 (some .int), Cond.methodLink RL 91 yX1_neighboursWith]
def wsL_law0_r9 : List Cond := [Cond.instanceMethod yX1_neighboursWith, Cond.selects RX1 yX1_neighboursWith yX1_neighboursWith, Cond.code yX1_neighboursWith cX1_neighboursWith 4 (some .int), Cond.methodLink RX1 87 yX1_nextTo, Cond.static yX1_nextTo, Cond.code yX1_nextTo cX1_nextTo 1 (some .int), Cond.methodLink RX1 90 yX0_cellsWith, Cond.methodLink RL 94 yX1_waves, Cond.instanceMethod yX1_waves, Cond.selects RX1 yX1_waves yX1_waves, Cond.code yX1_waves cX1_waves 1 (some .int), Cond.methodLink RL 96 yX1_isStubborn, Cond.instanceMethod yX1_isStubborn, Cond.selects RX1 yX1_isStubborn yX1_isStubborn, Cond.code yX1_isStubborn cX1_isStubborn 3 (some .boolean), Cond.methodLink RL 99 yX1_need, Cond.instanceMethod yX1_need, Cond.selects RX1 yX1_need yX1_need, Cond.code yX1_need cX1_need 1 (some .int), Cond.methodLink RL 101 yX1_stubbornCells, Cond.instanceMethod yX1_stubbornCells, Cond.selects RX1 yX1_stubbornCells yX1_stubbornCells, Cond.code yX1_stubbornCells cX1_stubbornCells 1 (some .int), Cond.methodLink RL 104 yX1_leader]
def wsL_law0_r10 : List Cond := [Cond.instanceMethod yX1_leader, Cond.selects RX1 yX1_leader yX1_leader, Cond.code yX1_leader cX1_leader 5 (some .int), Cond.methodLink RL 107 yX1_share, Cond.instanceMethod yX1_share, Cond.selects RX1 yX1_share yX1_share, Cond.code yX1_share cX1_share 3 (some .double), Cond.methodLink RL 111 yX1_regionsOf, Cond.instanceMethod yX1_regionsOf, Cond.selects RX1 yX1_regionsOf yX1_regionsOf, Cond.code yX1_regionsOf cX1_regionsOf 2 (some .int), Cond.methodLink RX1 111 yX0_countRegions, Cond.instanceMethod yX0_countRegions, Cond.selects RX0 yX0_countRegions yX0_countRegions, Cond.code yX0_countRegions cX0_countRegions 5 (some .int), Cond.methodLink RX0 62 yX0_regionFrom, Cond.static yX0_regionFrom, Cond.code yX0_regionFrom cX0_regionFrom 5 (some .int), Cond.methodLink RL 114 yX1_greatestRegion, Cond.instanceMethod yX1_greatestRegion, Cond.selects RX1 yX1_greatestRegion yX1_greatestRegion, Cond.code yX1_greatestRegion cX1_greatestRegion 2 (some .int), Cond.methodLink RX1 114 yX0_sizeOfGreatestRegion, Cond.instanceMethod yX0_sizeOfGreatestRegion]
def wsL_law0_r11 : List Cond := [Cond.selects RX0 yX0_sizeOfGreatestRegion yX0_sizeOfGreatestRegion, Cond.code yX0_sizeOfGreatestRegion cX0_sizeOfGreatestRegion 6 (some .int), Cond.methodLink RX0 65 Lib.Math.max.name, Cond.static Lib.Math.max.name, Cond.initialized "java/lang/Math", Cond.code Lib.Math.max.name Lib.Math.max.code 2 (some .int), Cond.methodLink RL 117 yX1_winner, Cond.instanceMethod yX1_winner, Cond.selects RX1 yX1_winner yX1_winner, Cond.code yX1_winner cX1_winner 2 (some .int), Cond.methodLink RX1 120 yX0_isAll, Cond.instanceMethod yX0_isAll, Cond.selects RX0 yX0_isAll yX0_isAll, Cond.code yX0_isAll cX0_isAll 2 (some .boolean), Cond.methodLink RL 124 yX1_borders, Cond.instanceMethod yX1_borders, Cond.selects RX1 yX1_borders yX1_borders, Cond.code yX1_borders cX1_borders 1 (some .int), Cond.methodLink RX1 117 yX0_countBorders, Cond.instanceMethod yX0_countBorders, Cond.selects RX0 yX0_countBorders yX0_countBorders, Cond.code yX0_countBorders cX0_countBorders 3 (some .int), Cond.methodLink RX0 70 yX0_countPairs, Cond.static yX0_countPairs]
def wsL_law0_r12 : List Cond := [Cond.code yX0_countPairs cX0_countPairs 1 (some .int), Cond.methodLink RL 127 yX2_isSame, Cond.instanceMethod yX2_isSame, Cond.selects RX2 yX2_isSame yX2_isSame, Cond.code yX2_isSame cX2_isSame 14 (some .boolean), Cond.fieldLink RX2 43 "ColourTideLaw$Sim" "waves" "I", Cond.methodLink RX2 79 Lib.Math.max.name, Cond.methodLink RX2 63 yX1_width, Cond.methodLink RX2 68 yX1_height, Cond.methodLink RX2 71 yX1_need, Cond.methodLink RX2 73 yX1_waves, Cond.methodLink RX2 75 yX2_regions, Cond.instanceMethod yX2_regions, Cond.selects RX2 yX2_regions yX2_regions, Cond.code yX2_regions cX2_regions 6 (some (.array (.array .int))), Cond.methodLink RX2 46 Lib.Math.min.name, Cond.static Lib.Math.min.name, Cond.code Lib.Math.min.name Lib.Math.min.code 2 (some .int), Cond.methodLink RX2 82 yX1_regionsOf, Cond.methodLink RX2 85 yX1_greatestRegion, Cond.methodLink RX2 55 yX2_cells, Cond.instanceMethod yX2_cells, Cond.selects RX2 yX2_cells yX2_cells, Cond.code yX2_cells cX2_cells 11 (some .int)]
def wsL_law0_r13 : List Cond := [Cond.methodLink RX2 88 yX1_cellsOf, Cond.methodLink RX2 91 yX1_share, Cond.methodLink RX2 95 yX1_colourAt, Cond.methodLink RX2 98 yX1_isStubborn, Cond.methodLink RX2 102 yX1_nextColour, Cond.instanceMethod yX1_nextColour, Cond.selects RX1 yX1_nextColour yX1_nextColour, Cond.code yX1_nextColour cX1_nextColour 3 (some .int), Cond.methodLink RX1 93 yX0_foresee, Cond.methodLink RX1 97 yX0_foreseenColourOf, Cond.instanceMethod yX0_foreseenColourOf, Cond.selects RX0 yX0_foreseenColourOf yX0_foreseenColourOf, Cond.code yX0_foreseenColourOf cX0_foreseenColourOf 3 (some .int), Cond.methodLink RX0 59 yX0_colourOf, Cond.methodLink RX2 105 yX1_regionSize, Cond.instanceMethod yX1_regionSize, Cond.selects RX1 yX1_regionSize yX1_regionSize, Cond.code yX1_regionSize cX1_regionSize 3 (some .int), Cond.methodLink RX1 100 yX0_sizeOfRegion, Cond.instanceMethod yX0_sizeOfRegion, Cond.selects RX0 yX0_sizeOfRegion yX0_sizeOfRegion, Cond.code yX0_sizeOfRegion cX0_sizeOfRegion 3 (some .int), Cond.methodLink RX2 108 yX1_neighboursWith, Cond.methodLink RX2 111 yX2_bare]
def wsL_law0_r14 : List Cond := [Cond.instanceMethod yX2_bare, Cond.selects RX2 yX2_bare yX2_bare, Cond.code yX2_bare cX2_bare 4 (some .int), Cond.methodLink RX2 114 yX1_stubbornCells, Cond.methodLink RX2 117 yX1_borders, Cond.methodLink RX2 120 yX1_leader, Cond.methodLink RX2 123 yX1_winner, Cond.methodLink RX2 126 yX1_isStill, Cond.instanceMethod yX1_isStill, Cond.selects RX1 yX1_isStill yX1_isStill, Cond.code yX1_isStill cX1_isStill 1 (some .boolean)]
def wsL_law0 : List Cond := (wsL_law0_r1 ++ (wsL_law0_r2 ++ (wsL_law0_r3 ++ (wsL_law0_r4 ++ (wsL_law0_r5 ++ (wsL_law0_r6 ++ (wsL_law0_r7 ++ (wsL_law0_r8 ++ (wsL_law0_r9 ++ (wsL_law0_r10 ++ (wsL_law0_r11 ++ (wsL_law0_r12 ++ (wsL_law0_r13 ++ wsL_law0_r14))))))))))))) ++ wsX10 ++ wsX20 ++ wsX00 ++ ([] : List Cond)
def wsL_law : List Cond := wsL_law0 ++ (vx_atS RX1 41 "java/lang/IllegalArgumentException" ["java/lang/RuntimeException", "java/lang/Exception"]).filter goodWord ++ (vx_atS RX1 55 "java/lang/IndexOutOfBoundsException" ["java/lang/RuntimeException", "java/lang/Exception"]).filter goodWord
theorem inJ6 : ∀ w ∈ wsJ60, w ∈ lw_tbl := by decide +kernel
theorem inJ9 : ∀ w ∈ wsJ90, w ∈ lw_tbl := by decide +kernel
theorem inJ0 : ∀ w ∈ wsJ00, w ∈ lw_tbl := by decide +kernel
set_option maxRecDepth 20000 in
theorem ggX0_clear_X1_cell : GoodIn wsX0_clear wsX1_cell := goodIn_r _ [6] (by decide +kernel) (by decide +kernel)
set_option maxRecDepth 20000 in
theorem gX0_clear_X1_cell_n28 : GoodIn wsX0_clear (wsX1_cell) := ggX0_clear_X1_cell
set_option maxRecDepth 20000 in
theorem ggX0_count_X0_cellsWith : GoodIn wsX0_count wsX0_cellsWith := goodIn_r _ [5, 6, 14, 15, 16, 17, 18, 19] (by decide +kernel) (by decide +kernel)
set_option maxRecDepth 20000 in
theorem gX0_count_X0_cellsWith : GoodIn wsX0_count (wsV RX0 35 RX0 yX0_cellsWith wsX0_cellsWith) := goodIn_app (goodIn_of _ (by decide +kernel)) ggX0_count_X0_cellsWith
set_option maxRecDepth 20000 in
theorem ggX0_count_J6_bitCount_0f7a4 : GoodIn wsX0_count wsJ6_bitCount_0f7a4 := goodIn_r _ [10, 11, 12, 13] (by decide +kernel) (by decide +kernel)
set_option maxRecDepth 20000 in
theorem gX0_count_J6_bitCount_0f7a4 : GoodIn wsX0_count (va_wsS RX0 39 yJ6_bitCount_0f7a4 wsJ6_bitCount_0f7a4) := goodIn_app (goodIn_of _ (by decide +kernel)) ggX0_count_J6_bitCount_0f7a4
set_option maxRecDepth 20000 in
theorem ggX0_isAll_X0_cellsWith : GoodIn wsX0_isAll wsX0_cellsWith := goodIn_r _ [6, 7, 8, 9, 10, 11, 12, 13] (by decide +kernel) (by decide +kernel)
set_option maxRecDepth 20000 in
theorem gX0_isAll_X0_cellsWith : GoodIn wsX0_isAll (wsV RX0 35 RX0 yX0_cellsWith wsX0_cellsWith) := goodIn_app (goodIn_of _ (by decide +kernel)) ggX0_isAll_X0_cellsWith
set_option maxRecDepth 20000 in
theorem ggX0_colourOf_X0_firstColourWith : GoodIn wsX0_colourOf wsX0_firstColourWith := goodIn_r _ [5] (by decide +kernel) (by decide +kernel)
set_option maxRecDepth 20000 in
theorem gX0_colourOf_X0_firstColourWith : GoodIn wsX0_colourOf (va_wsS RX0 44 yX0_firstColourWith wsX0_firstColourWith) := goodIn_app (goodIn_of _ (by decide +kernel)) ggX0_colourOf_X0_firstColourWith
set_option maxRecDepth 20000 in
theorem ggX0_surge_X0_foresee : GoodIn wsX0_surge wsX0_foresee := goodIn_r _ [5, 6, 7, 8, 9, 10, 11, 4, 12, 13, 14, 15, 16, 17, 18, 23, 24, 25, 26, 27, 28] (by decide +kernel) (by decide +kernel)
set_option maxRecDepth 20000 in
theorem gX0_surge_X0_foresee : GoodIn wsX0_surge (wsV RX0 48 RX0 yX0_foresee wsX0_foresee) := goodIn_app (goodIn_of _ (by decide +kernel)) ggX0_surge_X0_foresee
set_option maxRecDepth 20000 in
theorem ggX0_surge_X0_takeGains : GoodIn wsX0_surge wsX0_takeGains := goodIn_r _ [22, 8, 6, 23, 24, 25, 26, 27, 28] (by decide +kernel) (by decide +kernel)
set_option maxRecDepth 20000 in
theorem gX0_surge_X0_takeGains : GoodIn wsX0_surge (wsV RX0 52 RX0 yX0_takeGains wsX0_takeGains) := goodIn_app (goodIn_of _ (by decide +kernel)) ggX0_surge_X0_takeGains
set_option maxRecDepth 20000 in
theorem ggX0_foresee_X0_addGains : GoodIn wsX0_foresee wsX0_addGains := goodIn_r _ [8, 9, 3, 1, 10, 11, 12, 13, 7, 14, 15, 16, 17, 18, 19, 20] (by decide +kernel) (by decide +kernel)
set_option maxRecDepth 20000 in
theorem gX0_foresee_X0_addGains : GoodIn wsX0_foresee (wsV RX0 56 RX0 yX0_addGains wsX0_addGains) := goodIn_app (goodIn_of _ (by decide +kernel)) ggX0_foresee_X0_addGains
set_option maxRecDepth 20000 in
theorem ggX0_foreseenColourOf_X0_firstColourWith : GoodIn wsX0_foreseenColourOf wsX0_firstColourWith := goodIn_r _ [5] (by decide +kernel) (by decide +kernel)
set_option maxRecDepth 20000 in
theorem gX0_foreseenColourOf_X0_firstColourWith : GoodIn wsX0_foreseenColourOf (va_wsS RX0 44 yX0_firstColourWith wsX0_firstColourWith) := goodIn_app (goodIn_of _ (by decide +kernel)) ggX0_foreseenColourOf_X0_firstColourWith
set_option maxRecDepth 20000 in
theorem ggX0_foreseenColourOf_X0_colourOf : GoodIn wsX0_foreseenColourOf wsX0_colourOf := goodIn_r _ [9, 10, 2, 3, 4, 5, 11, 12, 13, 14, 15, 16] (by decide +kernel) (by decide +kernel)
set_option maxRecDepth 20000 in
theorem gX0_foreseenColourOf_X0_colourOf : GoodIn wsX0_foreseenColourOf (wsV RX0 59 RX0 yX0_colourOf wsX0_colourOf) := goodIn_app (goodIn_of _ (by decide +kernel)) ggX0_foreseenColourOf_X0_colourOf
set_option maxRecDepth 20000 in
theorem ggX0_sizeOfRegion_X0_colourOf : GoodIn wsX0_sizeOfRegion wsX0_colourOf := goodIn_r _ [5, 6, 7, 8, 4, 9, 27, 28, 29, 30, 31, 32] (by decide +kernel) (by decide +kernel)
set_option maxRecDepth 20000 in
theorem gX0_sizeOfRegion_X0_colourOf : GoodIn wsX0_sizeOfRegion (wsV RX0 59 RX0 yX0_colourOf wsX0_colourOf) := goodIn_app (goodIn_of _ (by decide +kernel)) ggX0_sizeOfRegion_X0_colourOf
set_option maxRecDepth 20000 in
theorem ggX0_sizeOfRegion_X0_cellsWith : GoodIn wsX0_sizeOfRegion wsX0_cellsWith := goodIn_r _ [13, 6, 27, 28, 29, 30, 31, 32] (by decide +kernel) (by decide +kernel)
set_option maxRecDepth 20000 in
theorem gX0_sizeOfRegion_X0_cellsWith : GoodIn wsX0_sizeOfRegion (wsV RX0 35 RX0 yX0_cellsWith wsX0_cellsWith) := goodIn_app (goodIn_of _ (by decide +kernel)) ggX0_sizeOfRegion_X0_cellsWith
set_option maxRecDepth 20000 in
theorem ggX0_sizeOfRegion_X0_regionFrom : GoodIn wsX0_sizeOfRegion wsX0_regionFrom := goodIn_r _ [16, 17, 18, 19] (by decide +kernel) (by decide +kernel)
set_option maxRecDepth 20000 in
theorem gX0_sizeOfRegion_X0_regionFrom : GoodIn wsX0_sizeOfRegion (va_wsS RX0 62 yX0_regionFrom wsX0_regionFrom) := goodIn_app (goodIn_of _ (by decide +kernel)) ggX0_sizeOfRegion_X0_regionFrom
set_option maxRecDepth 20000 in
theorem ggX0_sizeOfRegion_J6_bitCount_0f7a4 : GoodIn wsX0_sizeOfRegion wsJ6_bitCount_0f7a4 := goodIn_r _ [23, 24, 25, 26] (by decide +kernel) (by decide +kernel)
set_option maxRecDepth 20000 in
theorem gX0_sizeOfRegion_J6_bitCount_0f7a4 : GoodIn wsX0_sizeOfRegion (va_wsS RX0 39 yJ6_bitCount_0f7a4 wsJ6_bitCount_0f7a4) := goodIn_app (goodIn_of _ (by decide +kernel)) ggX0_sizeOfRegion_J6_bitCount_0f7a4
set_option maxRecDepth 20000 in
theorem ggX0_countRegions_X0_cellsWith : GoodIn wsX0_countRegions wsX0_cellsWith := goodIn_r _ [5, 6, 13, 14, 15, 16, 17, 18] (by decide +kernel) (by decide +kernel)
set_option maxRecDepth 20000 in
theorem gX0_countRegions_X0_cellsWith : GoodIn wsX0_countRegions (wsV RX0 35 RX0 yX0_cellsWith wsX0_cellsWith) := goodIn_app (goodIn_of _ (by decide +kernel)) ggX0_countRegions_X0_cellsWith
set_option maxRecDepth 20000 in
theorem ggX0_countRegions_X0_regionFrom : GoodIn wsX0_countRegions wsX0_regionFrom := goodIn_r _ [9, 10, 11, 12] (by decide +kernel) (by decide +kernel)
set_option maxRecDepth 20000 in
theorem gX0_countRegions_X0_regionFrom : GoodIn wsX0_countRegions (va_wsS RX0 62 yX0_regionFrom wsX0_regionFrom) := goodIn_app (goodIn_of _ (by decide +kernel)) ggX0_countRegions_X0_regionFrom
set_option maxRecDepth 20000 in
theorem ggX0_sizeOfGreatestRegion_X0_cellsWith : GoodIn wsX0_sizeOfGreatestRegion wsX0_cellsWith := goodIn_r _ [9, 10, 24, 25, 26, 27, 28, 29] (by decide +kernel) (by decide +kernel)
set_option maxRecDepth 20000 in
theorem gX0_sizeOfGreatestRegion_X0_cellsWith : GoodIn wsX0_sizeOfGreatestRegion (wsV RX0 35 RX0 yX0_cellsWith wsX0_cellsWith) := goodIn_app (goodIn_of _ (by decide +kernel)) ggX0_sizeOfGreatestRegion_X0_cellsWith
set_option maxRecDepth 20000 in
theorem ggX0_sizeOfGreatestRegion_X0_regionFrom : GoodIn wsX0_sizeOfGreatestRegion wsX0_regionFrom := goodIn_r _ [13, 14, 15, 16] (by decide +kernel) (by decide +kernel)
set_option maxRecDepth 20000 in
theorem gX0_sizeOfGreatestRegion_X0_regionFrom : GoodIn wsX0_sizeOfGreatestRegion (va_wsS RX0 62 yX0_regionFrom wsX0_regionFrom) := goodIn_app (goodIn_of _ (by decide +kernel)) ggX0_sizeOfGreatestRegion_X0_regionFrom
set_option maxRecDepth 20000 in
theorem ggX0_sizeOfGreatestRegion_J6_bitCount_0f7a4 : GoodIn wsX0_sizeOfGreatestRegion wsJ6_bitCount_0f7a4 := goodIn_r _ [20, 21, 22, 23] (by decide +kernel) (by decide +kernel)
set_option maxRecDepth 20000 in
theorem gX0_sizeOfGreatestRegion_J6_bitCount_0f7a4 : GoodIn wsX0_sizeOfGreatestRegion (va_wsS RX0 39 yJ6_bitCount_0f7a4 wsJ6_bitCount_0f7a4) := goodIn_app (goodIn_of _ (by decide +kernel)) ggX0_sizeOfGreatestRegion_J6_bitCount_0f7a4
set_option maxRecDepth 20000 in
theorem ggX0_countBorders_X0_cellsWith : GoodIn wsX0_countBorders wsX0_cellsWith := goodIn_r _ [7, 2, 18, 19, 20, 21, 22, 23] (by decide +kernel) (by decide +kernel)
set_option maxRecDepth 20000 in
theorem gX0_countBorders_X0_cellsWith : GoodIn wsX0_countBorders (wsV RX0 35 RX0 yX0_cellsWith wsX0_cellsWith) := goodIn_app (goodIn_of _ (by decide +kernel)) ggX0_countBorders_X0_cellsWith
set_option maxRecDepth 20000 in
theorem ggX0_countBorders_X0_countPairs : GoodIn wsX0_countBorders wsX0_countPairs := goodIn_r _ [10, 11, 12, 13, 14, 15, 16, 17] (by decide +kernel) (by decide +kernel)
set_option maxRecDepth 20000 in
theorem gX0_countBorders_X0_countPairs : GoodIn wsX0_countBorders (va_wsS RX0 70 yX0_countPairs wsX0_countPairs) := goodIn_app (goodIn_of _ (by decide +kernel)) ggX0_countBorders_X0_countPairs
set_option maxRecDepth 20000 in
theorem ggX0_addGains_X0_withNeighbours : GoodIn wsX0_addGains wsX0_withNeighbours := goodIn_r _ [9] (by decide +kernel) (by decide +kernel)
set_option maxRecDepth 20000 in
theorem gX0_addGains_X0_withNeighbours : GoodIn wsX0_addGains (va_wsS RX0 73 yX0_withNeighbours wsX0_withNeighbours) := goodIn_app (goodIn_of _ (by decide +kernel)) ggX0_addGains_X0_withNeighbours
set_option maxRecDepth 20000 in
theorem ggX0_regionFrom_X1_nextTo : GoodIn wsX0_regionFrom wsX1_nextTo := goodIn_r _ [3] (by decide +kernel) (by decide +kernel)
set_option maxRecDepth 20000 in
theorem gX0_regionFrom_X1_nextTo_n76 : GoodIn wsX0_regionFrom (wsX1_nextTo) := ggX0_regionFrom_X1_nextTo
set_option maxRecDepth 20000 in
theorem ggX0_countPairs_J6_bitCount_0f7a4 : GoodIn wsX0_countPairs wsJ6_bitCount_0f7a4 := goodIn_r _ [4, 5, 6, 7] (by decide +kernel) (by decide +kernel)
set_option maxRecDepth 20000 in
theorem gX0_countPairs_J6_bitCount_0f7a4 : GoodIn wsX0_countPairs (va_wsS RX0 39 yJ6_bitCount_0f7a4 wsJ6_bitCount_0f7a4) := goodIn_app (goodIn_of _ (by decide +kernel)) ggX0_countPairs_J6_bitCount_0f7a4
set_option maxRecDepth 20000 in
theorem ggX1_init_X0_init : GoodIn wsX1_init wsX0_init := goodIn_r _ [14, 15, 2, 3, 16, 17, 18, 19, 20, 30, 31, 32, 33, 34, 35] (by decide +kernel) (by decide +kernel)
set_option maxRecDepth 20000 in
theorem gX1_init_X0_init : GoodIn wsX1_init (wsX0_init) := ggX1_init_X0_init
set_option maxRecDepth 20000 in
theorem ggX1_init_X0_clear : GoodIn wsX1_init wsX0_clear := goodIn_r _ [24, 25, 26, 18, 27, 28, 29, 30, 31, 32, 33, 34, 35] (by decide +kernel) (by decide +kernel)
set_option maxRecDepth 20000 in
theorem gX1_init_X0_clear : GoodIn wsX1_init (wsV RX1 29 RX0 yX0_clear wsX0_clear) := goodIn_app (goodIn_of _ (by decide +kernel)) ggX1_init_X0_clear
set_option maxRecDepth 20000 in
theorem ggX1_newMap_X1_isSide : GoodIn wsX1_newMap wsX1_isSide := goodIn_r _ [10] (by decide +kernel) (by decide +kernel)
set_option maxRecDepth 20000 in
theorem gX1_newMap_X1_isSide : GoodIn wsX1_newMap (va_wsS RX1 33 yX1_isSide wsX1_isSide) := goodIn_app (goodIn_of _ (by decide +kernel)) ggX1_newMap_X1_isSide
set_option maxRecDepth 20000 in
theorem ggX1_newMap_X0_clear : GoodIn wsX1_newMap wsX0_clear := goodIn_r _ [15, 16, 17, 18, 19, 9, 20, 26, 27, 28, 29, 30, 31] (by decide +kernel) (by decide +kernel)
set_option maxRecDepth 20000 in
theorem gX1_newMap_X0_clear : GoodIn wsX1_newMap (wsV RX1 29 RX0 yX0_clear wsX0_clear) := goodIn_app (goodIn_of _ (by decide +kernel)) ggX1_newMap_X0_clear
set_option maxRecDepth 20000 in
theorem ggX1_paint_X1_isOnMap : GoodIn wsX1_paint wsX1_isOnMap := goodIn_r _ [8, 9, 10, 33, 34, 35, 36, 37] (by decide +kernel) (by decide +kernel)
set_option maxRecDepth 20000 in
theorem gX1_paint_X1_isOnMap : GoodIn wsX1_paint (wsV RX1 44 RX1 yX1_isOnMap wsX1_isOnMap) := goodIn_app (goodIn_of _ (by decide +kernel)) ggX1_paint_X1_isOnMap
set_option maxRecDepth 20000 in
theorem ggX1_paint_X1_isColourOrBare : GoodIn wsX1_paint wsX1_isColourOrBare := goodIn_r _ [13, 14, 15, 7, 16] (by decide +kernel) (by decide +kernel)
set_option maxRecDepth 20000 in
theorem gX1_paint_X1_isColourOrBare : GoodIn wsX1_paint (va_wsS RX1 48 yX1_isColourOrBare wsX1_isColourOrBare) := goodIn_app (goodIn_of _ (by decide +kernel)) ggX1_paint_X1_isColourOrBare
set_option maxRecDepth 20000 in
theorem ggX1_paint_X1_cell : GoodIn wsX1_paint wsX1_cell := goodIn_r _ [19] (by decide +kernel) (by decide +kernel)
set_option maxRecDepth 20000 in
theorem gX1_paint_X1_cell : GoodIn wsX1_paint (va_wsS RX1 56 yX1_cell wsX1_cell) := goodIn_app (goodIn_of _ (by decide +kernel)) ggX1_paint_X1_cell
set_option maxRecDepth 20000 in
theorem ggX1_paint_X0_colourOf : GoodIn wsX1_paint wsX0_colourOf := goodIn_r _ [24, 25, 26, 27, 23, 28, 38, 39, 40, 41, 42, 43] (by decide +kernel) (by decide +kernel)
set_option maxRecDepth 20000 in
theorem gX1_paint_X0_colourOf : GoodIn wsX1_paint (wsV RX1 60 RX0 yX0_colourOf wsX0_colourOf) := goodIn_app (goodIn_of _ (by decide +kernel)) ggX1_paint_X0_colourOf
set_option maxRecDepth 20000 in
theorem ggX1_paint_X0_dye : GoodIn wsX1_paint wsX0_dye := goodIn_r _ [32, 25, 38, 39, 40, 41, 42, 43] (by decide +kernel) (by decide +kernel)
set_option maxRecDepth 20000 in
theorem gX1_paint_X0_dye : GoodIn wsX1_paint (wsV RX1 64 RX0 yX0_dye wsX0_dye) := goodIn_app (goodIn_of _ (by decide +kernel)) ggX1_paint_X0_dye
set_option maxRecDepth 20000 in
theorem ggX1_turnStubborn_X1_isOnMap : GoodIn wsX1_turnStubborn wsX1_isOnMap := goodIn_r _ [9, 10, 11, 15, 16, 17, 18, 19] (by decide +kernel) (by decide +kernel)
set_option maxRecDepth 20000 in
theorem gX1_turnStubborn_X1_isOnMap : GoodIn wsX1_turnStubborn (wsV RX1 44 RX1 yX1_isOnMap wsX1_isOnMap) := goodIn_app (goodIn_of _ (by decide +kernel)) ggX1_turnStubborn_X1_isOnMap
set_option maxRecDepth 20000 in
theorem ggX1_turnStubborn_X1_cell : GoodIn wsX1_turnStubborn wsX1_cell := goodIn_r _ [14] (by decide +kernel) (by decide +kernel)
set_option maxRecDepth 20000 in
theorem gX1_turnStubborn_X1_cell : GoodIn wsX1_turnStubborn (va_wsS RX1 56 yX1_cell wsX1_cell) := goodIn_app (goodIn_of _ (by decide +kernel)) ggX1_turnStubborn_X1_cell
set_option maxRecDepth 20000 in
theorem ggX1_pass_X0_surge : GoodIn wsX1_pass wsX0_surge := goodIn_r _ [9, 10, 11, 12, 8, 13, 14, 15, 16, 17, 18, 19, 20, 21, 22, 23, 24, 25, 26, 27, 28, 29, 30, 43, 44, 45, 46, 47, 48] (by decide +kernel) (by decide +kernel)
set_option maxRecDepth 20000 in
theorem gX1_pass_X0_surge : GoodIn wsX1_pass (wsV RX1 79 RX0 yX0_surge wsX0_surge) := goodIn_app (goodIn_of _ (by decide +kernel)) ggX1_pass_X0_surge
set_option maxRecDepth 20000 in
theorem ggX1_pass_J6_bitCount_0f7a4 : GoodIn wsX1_pass wsJ6_bitCount_0f7a4 := goodIn_r _ [34, 35, 36, 37] (by decide +kernel) (by decide +kernel)
set_option maxRecDepth 20000 in
theorem gX1_pass_J6_bitCount_0f7a4 : GoodIn wsX1_pass (va_wsS RX1 82 yJ6_bitCount_0f7a4 wsJ6_bitCount_0f7a4) := goodIn_app (goodIn_of _ (by decide +kernel)) ggX1_pass_J6_bitCount_0f7a4
set_option maxRecDepth 20000 in
theorem ggX1_colourAt_X1_isOnMap : GoodIn wsX1_colourAt wsX1_isOnMap := goodIn_r _ [8, 9, 10, 23, 24, 25, 26, 27] (by decide +kernel) (by decide +kernel)
set_option maxRecDepth 20000 in
theorem gX1_colourAt_X1_isOnMap : GoodIn wsX1_colourAt (wsV RX1 44 RX1 yX1_isOnMap wsX1_isOnMap) := goodIn_app (goodIn_of _ (by decide +kernel)) ggX1_colourAt_X1_isOnMap
set_option maxRecDepth 20000 in
theorem ggX1_colourAt_X1_cell : GoodIn wsX1_colourAt wsX1_cell := goodIn_r _ [13] (by decide +kernel) (by decide +kernel)
set_option maxRecDepth 20000 in
theorem gX1_colourAt_X1_cell : GoodIn wsX1_colourAt (va_wsS RX1 56 yX1_cell wsX1_cell) := goodIn_app (goodIn_of _ (by decide +kernel)) ggX1_colourAt_X1_cell
set_option maxRecDepth 20000 in
theorem ggX1_colourAt_X0_colourOf : GoodIn wsX1_colourAt wsX0_colourOf := goodIn_r _ [18, 19, 20, 21, 17, 22, 28, 29, 30, 31, 32, 33] (by decide +kernel) (by decide +kernel)
set_option maxRecDepth 20000 in
theorem gX1_colourAt_X0_colourOf : GoodIn wsX1_colourAt (wsV RX1 60 RX0 yX0_colourOf wsX0_colourOf) := goodIn_app (goodIn_of _ (by decide +kernel)) ggX1_colourAt_X0_colourOf
set_option maxRecDepth 20000 in
theorem ggX1_isStubborn_X1_isOnMap : GoodIn wsX1_isStubborn wsX1_isOnMap := goodIn_r _ [9, 10, 11, 15, 16, 17, 18, 19] (by decide +kernel) (by decide +kernel)
set_option maxRecDepth 20000 in
theorem gX1_isStubborn_X1_isOnMap : GoodIn wsX1_isStubborn (wsV RX1 44 RX1 yX1_isOnMap wsX1_isOnMap) := goodIn_app (goodIn_of _ (by decide +kernel)) ggX1_isStubborn_X1_isOnMap
set_option maxRecDepth 20000 in
theorem ggX1_isStubborn_X1_cell : GoodIn wsX1_isStubborn wsX1_cell := goodIn_r _ [14] (by decide +kernel) (by decide +kernel)
set_option maxRecDepth 20000 in
theorem gX1_isStubborn_X1_cell : GoodIn wsX1_isStubborn (va_wsS RX1 56 yX1_cell wsX1_cell) := goodIn_app (goodIn_of _ (by decide +kernel)) ggX1_isStubborn_X1_cell
set_option maxRecDepth 20000 in
theorem ggX1_neighboursWith_X1_isOnMap : GoodIn wsX1_neighboursWith wsX1_isOnMap := goodIn_r _ [8, 9, 10, 36, 37, 38, 39, 40] (by decide +kernel) (by decide +kernel)
set_option maxRecDepth 20000 in
theorem gX1_neighboursWith_X1_isOnMap : GoodIn wsX1_neighboursWith (wsV RX1 44 RX1 yX1_isOnMap wsX1_isOnMap) := goodIn_app (goodIn_of _ (by decide +kernel)) ggX1_neighboursWith_X1_isOnMap
set_option maxRecDepth 20000 in
theorem ggX1_neighboursWith_X1_isColourOrBare : GoodIn wsX1_neighboursWith wsX1_isColourOrBare := goodIn_r _ [13, 14, 15, 7, 16] (by decide +kernel) (by decide +kernel)
set_option maxRecDepth 20000 in
theorem gX1_neighboursWith_X1_isColourOrBare : GoodIn wsX1_neighboursWith (va_wsS RX1 48 yX1_isColourOrBare wsX1_isColourOrBare) := goodIn_app (goodIn_of _ (by decide +kernel)) ggX1_neighboursWith_X1_isColourOrBare
set_option maxRecDepth 20000 in
theorem ggX1_neighboursWith_X1_cell : GoodIn wsX1_neighboursWith wsX1_cell := goodIn_r _ [19] (by decide +kernel) (by decide +kernel)
set_option maxRecDepth 20000 in
theorem gX1_neighboursWith_X1_cell : GoodIn wsX1_neighboursWith (va_wsS RX1 56 yX1_cell wsX1_cell) := goodIn_app (goodIn_of _ (by decide +kernel)) ggX1_neighboursWith_X1_cell
set_option maxRecDepth 20000 in
theorem ggX1_neighboursWith_X1_nextTo : GoodIn wsX1_neighboursWith wsX1_nextTo := goodIn_r _ [22] (by decide +kernel) (by decide +kernel)
set_option maxRecDepth 20000 in
theorem gX1_neighboursWith_X1_nextTo : GoodIn wsX1_neighboursWith (va_wsS RX1 87 yX1_nextTo wsX1_nextTo) := goodIn_app (goodIn_of _ (by decide +kernel)) ggX1_neighboursWith_X1_nextTo
set_option maxRecDepth 20000 in
theorem ggX1_neighboursWith_X0_cellsWith : GoodIn wsX1_neighboursWith wsX0_cellsWith := goodIn_r _ [27, 28, 41, 42, 43, 44, 45, 46] (by decide +kernel) (by decide +kernel)
set_option maxRecDepth 20000 in
theorem gX1_neighboursWith_X0_cellsWith : GoodIn wsX1_neighboursWith (wsV RX1 90 RX0 yX0_cellsWith wsX0_cellsWith) := goodIn_app (goodIn_of _ (by decide +kernel)) ggX1_neighboursWith_X0_cellsWith
set_option maxRecDepth 20000 in
theorem ggX1_neighboursWith_J6_bitCount_0f7a4 : GoodIn wsX1_neighboursWith wsJ6_bitCount_0f7a4 := goodIn_r _ [32, 33, 34, 35] (by decide +kernel) (by decide +kernel)
set_option maxRecDepth 20000 in
theorem gX1_neighboursWith_J6_bitCount_0f7a4 : GoodIn wsX1_neighboursWith (va_wsS RX1 82 yJ6_bitCount_0f7a4 wsJ6_bitCount_0f7a4) := goodIn_app (goodIn_of _ (by decide +kernel)) ggX1_neighboursWith_J6_bitCount_0f7a4
set_option maxRecDepth 20000 in
theorem ggX1_nextColour_X1_isOnMap : GoodIn wsX1_nextColour wsX1_isOnMap := goodIn_r _ [8, 9, 10, 43, 44, 45, 46, 47] (by decide +kernel) (by decide +kernel)
set_option maxRecDepth 20000 in
theorem gX1_nextColour_X1_isOnMap : GoodIn wsX1_nextColour (wsV RX1 44 RX1 yX1_isOnMap wsX1_isOnMap) := goodIn_app (goodIn_of _ (by decide +kernel)) ggX1_nextColour_X1_isOnMap
set_option maxRecDepth 20000 in
theorem ggX1_nextColour_X0_foresee : GoodIn wsX1_nextColour wsX0_foresee := goodIn_r _ [15, 16, 17, 18, 19, 20, 21, 14, 22, 23, 24, 25, 26, 27, 28, 48, 49, 50, 51, 52, 53] (by decide +kernel) (by decide +kernel)
set_option maxRecDepth 20000 in
theorem gX1_nextColour_X0_foresee : GoodIn wsX1_nextColour (wsV RX1 93 RX0 yX0_foresee wsX0_foresee) := goodIn_app (goodIn_of _ (by decide +kernel)) ggX1_nextColour_X0_foresee
set_option maxRecDepth 20000 in
theorem ggX1_nextColour_X1_cell : GoodIn wsX1_nextColour wsX1_cell := goodIn_r _ [31] (by decide +kernel) (by decide +kernel)
set_option maxRecDepth 20000 in
theorem gX1_nextColour_X1_cell : GoodIn wsX1_nextColour (va_wsS RX1 56 yX1_cell wsX1_cell) := goodIn_app (goodIn_of _ (by decide +kernel)) ggX1_nextColour_X1_cell
set_option maxRecDepth 20000 in
theorem ggX1_nextColour_X0_foreseenColourOf : GoodIn wsX1_nextColour wsX0_foreseenColourOf := goodIn_r _ [35, 16, 36, 37, 14, 38, 39, 40, 41, 42, 18, 48, 49, 50, 51, 52, 53] (by decide +kernel) (by decide +kernel)
set_option maxRecDepth 20000 in
theorem gX1_nextColour_X0_foreseenColourOf : GoodIn wsX1_nextColour (wsV RX1 97 RX0 yX0_foreseenColourOf wsX0_foreseenColourOf) := goodIn_app (goodIn_of _ (by decide +kernel)) ggX1_nextColour_X0_foreseenColourOf
set_option maxRecDepth 20000 in
theorem ggX1_regionSize_X1_isOnMap : GoodIn wsX1_regionSize wsX1_isOnMap := goodIn_r _ [8, 9, 10, 43, 44, 45, 46, 47] (by decide +kernel) (by decide +kernel)
set_option maxRecDepth 20000 in
theorem gX1_regionSize_X1_isOnMap : GoodIn wsX1_regionSize (wsV RX1 44 RX1 yX1_isOnMap wsX1_isOnMap) := goodIn_app (goodIn_of _ (by decide +kernel)) ggX1_regionSize_X1_isOnMap
set_option maxRecDepth 20000 in
theorem ggX1_regionSize_X1_cell : GoodIn wsX1_regionSize wsX1_cell := goodIn_r _ [13] (by decide +kernel) (by decide +kernel)
set_option maxRecDepth 20000 in
theorem gX1_regionSize_X1_cell : GoodIn wsX1_regionSize (va_wsS RX1 56 yX1_cell wsX1_cell) := goodIn_app (goodIn_of _ (by decide +kernel)) ggX1_regionSize_X1_cell
set_option maxRecDepth 20000 in
theorem ggX1_regionSize_X0_sizeOfRegion : GoodIn wsX1_regionSize wsX0_sizeOfRegion := goodIn_r _ [18, 19, 20, 21, 17, 22, 23, 24, 25, 26, 27, 28, 29, 30, 31, 32, 33, 34, 7, 35, 36, 37, 38, 39, 40, 41, 42, 48, 49, 50, 51, 52, 53] (by decide +kernel) (by decide +kernel)
set_option maxRecDepth 20000 in
theorem gX1_regionSize_X0_sizeOfRegion : GoodIn wsX1_regionSize (wsV RX1 100 RX0 yX0_sizeOfRegion wsX0_sizeOfRegion) := goodIn_app (goodIn_of _ (by decide +kernel)) ggX1_regionSize_X0_sizeOfRegion
set_option maxRecDepth 20000 in
theorem ggX1_stubbornCells_J6_bitCount_0f7a4 : GoodIn wsX1_stubbornCells wsJ6_bitCount_0f7a4 := goodIn_r _ [6, 7, 8, 9] (by decide +kernel) (by decide +kernel)
set_option maxRecDepth 20000 in
theorem gX1_stubbornCells_J6_bitCount_0f7a4 : GoodIn wsX1_stubbornCells (va_wsS RX1 82 yJ6_bitCount_0f7a4 wsJ6_bitCount_0f7a4) := goodIn_app (goodIn_of _ (by decide +kernel)) ggX1_stubbornCells_J6_bitCount_0f7a4
set_option maxRecDepth 20000 in
theorem ggX1_cellsOf_X1_isColourOrBare : GoodIn wsX1_cellsOf wsX1_isColourOrBare := goodIn_r _ [7, 8, 9, 6, 10] (by decide +kernel) (by decide +kernel)
set_option maxRecDepth 20000 in
theorem gX1_cellsOf_X1_isColourOrBare : GoodIn wsX1_cellsOf (va_wsS RX1 48 yX1_isColourOrBare wsX1_isColourOrBare) := goodIn_app (goodIn_of _ (by decide +kernel)) ggX1_cellsOf_X1_isColourOrBare
set_option maxRecDepth 20000 in
theorem ggX1_cellsOf_X0_count : GoodIn wsX1_cellsOf wsX0_count := goodIn_r _ [15, 16, 17, 18, 14, 19, 20, 21, 22, 23, 24, 25, 26, 27, 33, 34, 35, 36, 37, 38] (by decide +kernel) (by decide +kernel)
set_option maxRecDepth 20000 in
theorem gX1_cellsOf_X0_count : GoodIn wsX1_cellsOf (wsV RX1 105 RX0 yX0_count wsX0_count) := goodIn_app (goodIn_of _ (by decide +kernel)) ggX1_cellsOf_X0_count
set_option maxRecDepth 20000 in
theorem ggX1_regionsOf_X1_isColour : GoodIn wsX1_regionsOf wsX1_isColour := goodIn_r _ [7] (by decide +kernel) (by decide +kernel)
set_option maxRecDepth 20000 in
theorem gX1_regionsOf_X1_isColour : GoodIn wsX1_regionsOf (va_wsS RX1 108 yX1_isColour wsX1_isColour) := goodIn_app (goodIn_of _ (by decide +kernel)) ggX1_regionsOf_X1_isColour
set_option maxRecDepth 20000 in
theorem ggX1_regionsOf_X0_countRegions : GoodIn wsX1_regionsOf wsX0_countRegions := goodIn_r _ [12, 13, 14, 15, 11, 16, 17, 18, 19, 20, 21, 6, 22, 28, 29, 30, 31, 32, 33] (by decide +kernel) (by decide +kernel)
set_option maxRecDepth 20000 in
theorem gX1_regionsOf_X0_countRegions : GoodIn wsX1_regionsOf (wsV RX1 111 RX0 yX0_countRegions wsX0_countRegions) := goodIn_app (goodIn_of _ (by decide +kernel)) ggX1_regionsOf_X0_countRegions
set_option maxRecDepth 20000 in
theorem ggX1_greatestRegion_X1_isColour : GoodIn wsX1_greatestRegion wsX1_isColour := goodIn_r _ [7] (by decide +kernel) (by decide +kernel)
set_option maxRecDepth 20000 in
theorem gX1_greatestRegion_X1_isColour : GoodIn wsX1_greatestRegion (va_wsS RX1 108 yX1_isColour wsX1_isColour) := goodIn_app (goodIn_of _ (by decide +kernel)) ggX1_greatestRegion_X1_isColour
set_option maxRecDepth 20000 in
theorem ggX1_greatestRegion_X0_sizeOfGreatestRegion : GoodIn wsX1_greatestRegion wsX0_sizeOfGreatestRegion := goodIn_r _ [12, 13, 14, 15, 16, 17, 18, 19, 11, 20, 21, 22, 23, 24, 25, 6, 26, 27, 28, 29, 30, 31, 32, 33, 39, 40, 41, 42, 43, 44] (by decide +kernel) (by decide +kernel)
set_option maxRecDepth 20000 in
theorem gX1_greatestRegion_X0_sizeOfGreatestRegion : GoodIn wsX1_greatestRegion (wsV RX1 114 RX0 yX0_sizeOfGreatestRegion wsX0_sizeOfGreatestRegion) := goodIn_app (goodIn_of _ (by decide +kernel)) ggX1_greatestRegion_X0_sizeOfGreatestRegion
set_option maxRecDepth 20000 in
theorem ggX1_borders_X0_countBorders : GoodIn wsX1_borders wsX0_countBorders := goodIn_r _ [6, 7, 8, 9, 10, 11, 5, 12, 13, 14, 15, 16, 17, 18, 19, 20, 21, 22, 28, 29, 30, 31, 32, 33] (by decide +kernel) (by decide +kernel)
set_option maxRecDepth 20000 in
theorem gX1_borders_X0_countBorders : GoodIn wsX1_borders (wsV RX1 117 RX0 yX0_countBorders wsX0_countBorders) := goodIn_app (goodIn_of _ (by decide +kernel)) ggX1_borders_X0_countBorders
set_option maxRecDepth 20000 in
theorem ggX1_leader_X0_count : GoodIn wsX1_leader wsX0_count := goodIn_r _ [6, 7, 8, 9, 5, 10, 11, 12, 13, 14, 15, 16, 17, 18, 24, 25, 26, 27, 28, 29] (by decide +kernel) (by decide +kernel)
set_option maxRecDepth 20000 in
theorem gX1_leader_X0_count : GoodIn wsX1_leader (wsV RX1 105 RX0 yX0_count wsX0_count) := goodIn_app (goodIn_of _ (by decide +kernel)) ggX1_leader_X0_count
set_option maxRecDepth 20000 in
theorem ggX1_isStill_X0_foresee : GoodIn wsX1_isStill wsX0_foresee := goodIn_r _ [6, 7, 8, 9, 10, 11, 12, 5, 13, 14, 15, 16, 17, 18, 19, 25, 26, 27, 28, 29, 30] (by decide +kernel) (by decide +kernel)
set_option maxRecDepth 20000 in
theorem gX1_isStill_X0_foresee : GoodIn wsX1_isStill (wsV RX1 93 RX0 yX0_foresee wsX0_foresee) := goodIn_app (goodIn_of _ (by decide +kernel)) ggX1_isStill_X0_foresee
set_option maxRecDepth 20000 in
theorem ggX1_winner_X0_isAll : GoodIn wsX1_winner wsX0_isAll := goodIn_r _ [6, 7, 8, 9, 10, 5, 11, 12, 18, 19, 20, 21, 22, 23] (by decide +kernel) (by decide +kernel)
set_option maxRecDepth 20000 in
theorem gX1_winner_X0_isAll : GoodIn wsX1_winner (wsV RX1 120 RX0 yX0_isAll wsX0_isAll) := goodIn_app (goodIn_of _ (by decide +kernel)) ggX1_winner_X0_isAll
set_option maxRecDepth 20000 in
theorem ggX1_share_X1_isColourOrBare : GoodIn wsX1_share wsX1_isColourOrBare := goodIn_r _ [9, 10, 11, 8, 12] (by decide +kernel) (by decide +kernel)
set_option maxRecDepth 20000 in
theorem gX1_share_X1_isColourOrBare : GoodIn wsX1_share (va_wsS RX1 48 yX1_isColourOrBare wsX1_isColourOrBare) := goodIn_app (goodIn_of _ (by decide +kernel)) ggX1_share_X1_isColourOrBare
set_option maxRecDepth 20000 in
theorem ggX1_share_X0_count : GoodIn wsX1_share wsX0_count := goodIn_r _ [17, 18, 19, 20, 16, 21, 22, 23, 24, 25, 26, 27, 28, 29, 35, 36, 37, 38, 39, 40] (by decide +kernel) (by decide +kernel)
set_option maxRecDepth 20000 in
theorem gX1_share_X0_count : GoodIn wsX1_share (wsV RX1 105 RX0 yX0_count wsX0_count) := goodIn_app (goodIn_of _ (by decide +kernel)) ggX1_share_X0_count
set_option maxRecDepth 20000 in
theorem ggX1_isColourOrBare_X1_isColour : GoodIn wsX1_isColourOrBare wsX1_isColour := goodIn_r _ [4] (by decide +kernel) (by decide +kernel)
set_option maxRecDepth 20000 in
theorem gX1_isColourOrBare_X1_isColour : GoodIn wsX1_isColourOrBare (va_wsS RX1 108 yX1_isColour wsX1_isColour) := goodIn_app (goodIn_of _ (by decide +kernel)) ggX1_isColourOrBare_X1_isColour
set_option maxRecDepth 20000 in
theorem ggX2_beside_X2_at : GoodIn wsX2_beside wsX2_at := goodIn_r _ [5, 6, 7, 8, 9, 10, 11, 12, 13, 14] (by decide +kernel) (by decide +kernel)
set_option maxRecDepth 20000 in
theorem gX2_beside_X2_at : GoodIn wsX2_beside (wsV RX2 29 RX2 yX2_at wsX2_at) := goodIn_app (goodIn_of _ (by decide +kernel)) ggX2_beside_X2_at
set_option maxRecDepth 20000 in
theorem ggX2_bare_X2_beside : GoodIn wsX2_bare wsX2_beside := goodIn_r _ [7, 8, 9, 10, 6, 11, 1, 2, 12, 13, 14, 15, 16, 17, 18] (by decide +kernel) (by decide +kernel)
set_option maxRecDepth 20000 in
theorem gX2_bare_X2_beside : GoodIn wsX2_bare (wsV RX2 33 RX2 yX2_beside wsX2_beside) := goodIn_app (goodIn_of _ (by decide +kernel)) ggX2_bare_X2_beside
set_option maxRecDepth 20000 in
theorem ggX2_next_X2_beside : GoodIn wsX2_next wsX2_beside := goodIn_r _ [8, 9, 10, 11, 7, 12, 13, 14, 2, 15, 16, 17, 18, 19, 20] (by decide +kernel) (by decide +kernel)
set_option maxRecDepth 20000 in
theorem gX2_next_X2_beside : GoodIn wsX2_next (wsV RX2 33 RX2 yX2_beside wsX2_beside) := goodIn_app (goodIn_of _ (by decide +kernel)) ggX2_next_X2_beside
set_option maxRecDepth 20000 in
theorem ggX2_wave_X2_next : GoodIn wsX2_wave wsX2_next := goodIn_r _ [10, 11, 5, 12, 13, 14, 15, 9, 16, 17, 18, 19, 20, 1, 2, 21, 22, 23, 24, 25, 26] (by decide +kernel) (by decide +kernel)
set_option maxRecDepth 20000 in
theorem gX2_wave_X2_next : GoodIn wsX2_wave (wsV RX2 37 RX2 yX2_next wsX2_next) := goodIn_app (goodIn_of _ (by decide +kernel)) ggX2_wave_X2_next
set_option maxRecDepth 20000 in
theorem ggX2_regions_X2_at : GoodIn wsX2_regions wsX2_at := goodIn_r _ [14, 1, 2, 5, 15, 16, 17, 18, 19, 20] (by decide +kernel) (by decide +kernel)
set_option maxRecDepth 20000 in
theorem gX2_regions_X2_at : GoodIn wsX2_regions (wsV RX2 29 RX2 yX2_at wsX2_at) := goodIn_app (goodIn_of _ (by decide +kernel)) ggX2_regions_X2_at
set_option maxRecDepth 20000 in
theorem ggX2_isSame_X1_width : GoodIn wsX2_isSame wsX1_width := goodIn_r _ [16, 17, 218, 219, 220, 221, 222] (by decide +kernel) (by decide +kernel)
set_option maxRecDepth 20000 in
theorem gX2_isSame_X1_width : GoodIn wsX2_isSame (wsV RX2 63 RX1 yX1_width wsX1_width) := goodIn_app (goodIn_of _ (by decide +kernel)) ggX2_isSame_X1_width
set_option maxRecDepth 20000 in
theorem ggX2_isSame_X1_height : GoodIn wsX2_isSame wsX1_height := goodIn_r _ [21, 22, 218, 219, 220, 221, 222] (by decide +kernel) (by decide +kernel)
set_option maxRecDepth 20000 in
theorem gX2_isSame_X1_height : GoodIn wsX2_isSame (wsV RX2 68 RX1 yX1_height wsX1_height) := goodIn_app (goodIn_of _ (by decide +kernel)) ggX2_isSame_X1_height
set_option maxRecDepth 20000 in
theorem ggX2_isSame_X1_need : GoodIn wsX2_isSame wsX1_need := goodIn_r _ [26, 27, 28, 218, 219, 220, 221, 222, 223, 224, 225, 226, 227, 228] (by decide +kernel) (by decide +kernel)
set_option maxRecDepth 20000 in
theorem gX2_isSame_X1_need : GoodIn wsX2_isSame (wsV RX2 71 RX1 yX1_need wsX1_need) := goodIn_app (goodIn_of _ (by decide +kernel)) ggX2_isSame_X1_need
set_option maxRecDepth 20000 in
theorem ggX2_isSame_X1_waves : GoodIn wsX2_isSame wsX1_waves := goodIn_r _ [32, 33, 218, 219, 220, 221, 222] (by decide +kernel) (by decide +kernel)
set_option maxRecDepth 20000 in
theorem gX2_isSame_X1_waves : GoodIn wsX2_isSame (wsV RX2 73 RX1 yX1_waves wsX1_waves) := goodIn_app (goodIn_of _ (by decide +kernel)) ggX2_isSame_X1_waves
set_option maxRecDepth 20000 in
theorem ggX2_isSame_X2_regions : GoodIn wsX2_isSame wsX2_regions := goodIn_r _ [38, 1, 2, 39, 5, 7, 40, 41, 10, 42, 43, 44, 45, 37, 46, 212, 213, 214, 215, 216, 217] (by decide +kernel) (by decide +kernel)
set_option maxRecDepth 20000 in
theorem gX2_isSame_X2_regions : GoodIn wsX2_isSame (wsV RX2 75 RX2 yX2_regions wsX2_regions) := goodIn_app (goodIn_of _ (by decide +kernel)) ggX2_isSame_X2_regions
set_option maxRecDepth 20000 in
theorem ggX2_isSame_X2_next : GoodIn wsX2_isSame wsX2_next := goodIn_r _ [50, 6, 7, 3, 51, 52, 53, 37, 54, 43, 44, 45, 46, 1, 2, 212, 213, 214, 215, 216, 217] (by decide +kernel) (by decide +kernel)
set_option maxRecDepth 20000 in
theorem gX2_isSame_X2_next : GoodIn wsX2_isSame (wsV RX2 37 RX2 yX2_next wsX2_next) := goodIn_app (goodIn_of _ (by decide +kernel)) ggX2_isSame_X2_next
set_option maxRecDepth 20000 in
theorem ggX2_isSame_X2_at : GoodIn wsX2_isSame wsX2_at := goodIn_r _ [46, 1, 2, 7, 212, 213, 214, 215, 216, 217] (by decide +kernel) (by decide +kernel)
set_option maxRecDepth 20000 in
theorem gX2_isSame_X2_at : GoodIn wsX2_isSame (wsV RX2 29 RX2 yX2_at wsX2_at) := goodIn_app (goodIn_of _ (by decide +kernel)) ggX2_isSame_X2_at
set_option maxRecDepth 20000 in
theorem ggX2_isSame_X1_regionsOf : GoodIn wsX2_isSame wsX1_regionsOf := goodIn_ca (goodIn_r _ [58, 59, 60, 27, 61, 62, 15, 63, 64, 65, 66, 67, 68, 69, 70, 71, 72, 73, 74, 75, 76, 77, 78, 218, 219, 220, 221, 222, 223, 224, 225, 226, 227, 228] (by decide +kernel) (by decide +kernel)) (goodIn_sub (fun _ h => List.mem_cons_of_mem _ (List.mem_append_right _ h)) (by decide +kernel))
set_option maxRecDepth 20000 in
theorem gX2_isSame_X1_regionsOf : GoodIn wsX2_isSame (wsV RX2 82 RX1 yX1_regionsOf wsX1_regionsOf) := goodIn_app (goodIn_of _ (by decide +kernel)) ggX2_isSame_X1_regionsOf
set_option maxRecDepth 20000 in
theorem ggX2_isSame_X1_greatestRegion : GoodIn wsX2_isSame wsX1_greatestRegion := goodIn_ca (goodIn_r _ [82, 59, 60, 27, 61, 62, 15, 63, 83, 84, 85, 67, 86, 87, 9, 10, 11, 69, 70, 71, 72, 73, 74, 75, 76, 77, 78, 88, 89, 90, 91, 92, 93, 94, 218, 219, 220, 221, 222, 223, 224, 225, 226, 227, 228] (by decide +kernel) (by decide +kernel)) (goodIn_sub (fun _ h => List.mem_cons_of_mem _ (List.mem_append_right _ h)) (by decide +kernel))
set_option maxRecDepth 20000 in
theorem gX2_isSame_X1_greatestRegion : GoodIn wsX2_isSame (wsV RX2 85 RX1 yX1_greatestRegion wsX1_greatestRegion) := goodIn_app (goodIn_of _ (by decide +kernel)) ggX2_isSame_X1_greatestRegion
set_option maxRecDepth 20000 in
theorem ggX2_isSame_X2_cells : GoodIn wsX2_isSame wsX2_cells := goodIn_r _ [98, 7, 212, 213, 214, 215, 216, 217] (by decide +kernel) (by decide +kernel)
set_option maxRecDepth 20000 in
theorem gX2_isSame_X2_cells : GoodIn wsX2_isSame (wsV RX2 55 RX2 yX2_cells wsX2_cells) := goodIn_app (goodIn_of _ (by decide +kernel)) ggX2_isSame_X2_cells
set_option maxRecDepth 20000 in
theorem ggX2_isSame_X1_cellsOf : GoodIn wsX2_isSame wsX1_cellsOf := goodIn_ca (goodIn_r _ [102, 59, 60, 27, 103, 104, 15, 105, 61, 62, 63, 106, 107, 108, 67, 109, 69, 70, 71, 72, 73, 88, 89, 90, 91, 92, 93, 94, 218, 219, 220, 221, 222, 223, 224, 225, 226, 227, 228] (by decide +kernel) (by decide +kernel)) (goodIn_sub (fun _ h => List.mem_cons_of_mem _ (List.mem_append_right _ h)) (by decide +kernel))
set_option maxRecDepth 20000 in
theorem gX2_isSame_X1_cellsOf : GoodIn wsX2_isSame (wsV RX2 88 RX1 yX1_cellsOf wsX1_cellsOf) := goodIn_app (goodIn_of _ (by decide +kernel)) ggX2_isSame_X1_cellsOf
set_option maxRecDepth 20000 in
theorem ggX2_isSame_X1_share : GoodIn wsX2_isSame wsX1_share := goodIn_ca (goodIn_r _ [113, 59, 60, 17, 22, 27, 103, 104, 15, 105, 61, 62, 63, 106, 107, 108, 67, 109, 69, 70, 71, 72, 73, 88, 89, 90, 91, 92, 93, 94, 218, 219, 220, 221, 222, 223, 224, 225, 226, 227, 228] (by decide +kernel) (by decide +kernel)) (goodIn_sub (fun _ h => List.mem_cons_of_mem _ (List.mem_append_right _ h)) (by decide +kernel))
set_option maxRecDepth 20000 in
theorem gX2_isSame_X1_share : GoodIn wsX2_isSame (wsV RX2 91 RX1 yX1_share wsX1_share) := goodIn_app (goodIn_of _ (by decide +kernel)) ggX2_isSame_X1_share
set_option maxRecDepth 20000 in
theorem ggX2_isSame_X1_colourAt : GoodIn wsX2_isSame wsX1_colourAt := goodIn_ca (goodIn_r _ [117, 59, 60, 27, 118, 119, 120, 15, 121, 17, 22, 122, 123, 124, 125, 126, 127, 67, 128, 73, 129, 130, 131, 218, 219, 220, 221, 222, 223, 224, 225, 226, 227, 228] (by decide +kernel) (by decide +kernel)) (goodIn_sub (fun _ h => List.mem_cons_of_mem _ (List.mem_append_right _ h)) (by decide +kernel))
set_option maxRecDepth 20000 in
theorem gX2_isSame_X1_colourAt : GoodIn wsX2_isSame (wsV RX2 95 RX1 yX1_colourAt wsX1_colourAt) := goodIn_app (goodIn_of _ (by decide +kernel)) ggX2_isSame_X1_colourAt
set_option maxRecDepth 20000 in
theorem ggX2_isSame_X1_isStubborn : GoodIn wsX2_isSame wsX1_isStubborn := goodIn_ca (goodIn_r _ [135, 59, 60, 27, 136, 118, 119, 120, 15, 121, 17, 22, 122, 123, 124, 218, 219, 220, 221, 222, 223, 224, 225, 226, 227, 228] (by decide +kernel) (by decide +kernel)) (goodIn_sub (fun _ h => List.mem_cons_of_mem _ (List.mem_append_right _ h)) (by decide +kernel))
set_option maxRecDepth 20000 in
theorem gX2_isSame_X1_isStubborn : GoodIn wsX2_isSame (wsV RX2 98 RX1 yX1_isStubborn wsX1_isStubborn) := goodIn_app (goodIn_of _ (by decide +kernel)) ggX2_isSame_X1_isStubborn
set_option maxRecDepth 20000 in
theorem ggX2_isSame_X1_nextColour : GoodIn wsX2_isSame wsX1_nextColour := goodIn_ca (goodIn_r _ [140, 59, 60, 27, 118, 119, 120, 15, 121, 17, 22, 141, 142, 143, 67, 144, 145, 146, 73, 147, 148, 149, 150, 151, 152, 153, 154, 155, 156, 122, 123, 124, 157, 158, 159, 160, 129, 130, 131, 161, 126, 127, 128, 218, 219, 220, 221, 222, 223, 224, 225, 226, 227, 228] (by decide +kernel) (by decide +kernel)) (goodIn_sub (fun _ h => List.mem_cons_of_mem _ (List.mem_append_right _ h)) (by decide +kernel))
set_option maxRecDepth 20000 in
theorem gX2_isSame_X1_nextColour : GoodIn wsX2_isSame (wsV RX2 102 RX1 yX1_nextColour wsX1_nextColour) := goodIn_app (goodIn_of _ (by decide +kernel)) ggX2_isSame_X1_nextColour
set_option maxRecDepth 20000 in
theorem ggX2_isSame_X1_regionSize : GoodIn wsX2_isSame wsX1_regionSize := goodIn_ca (goodIn_r _ [165, 59, 60, 27, 118, 119, 120, 15, 121, 17, 22, 122, 123, 124, 166, 167, 168, 67, 169, 161, 126, 127, 128, 73, 129, 130, 131, 69, 70, 71, 72, 74, 75, 76, 77, 78, 88, 89, 90, 91, 92, 93, 94, 218, 219, 220, 221, 222, 223, 224, 225, 226, 227, 228] (by decide +kernel) (by decide +kernel)) (goodIn_sub (fun _ h => List.mem_cons_of_mem _ (List.mem_append_right _ h)) (by decide +kernel))
set_option maxRecDepth 20000 in
theorem gX2_isSame_X1_regionSize : GoodIn wsX2_isSame (wsV RX2 105 RX1 yX1_regionSize wsX1_regionSize) := goodIn_app (goodIn_of _ (by decide +kernel)) ggX2_isSame_X1_regionSize
set_option maxRecDepth 20000 in
theorem ggX2_isSame_X1_neighboursWith : GoodIn wsX2_isSame wsX1_neighboursWith := goodIn_ca (goodIn_r _ [173, 59, 60, 27, 118, 119, 120, 15, 121, 17, 22, 103, 104, 105, 61, 62, 63, 122, 123, 124, 174, 77, 78, 175, 70, 71, 67, 72, 73, 176, 89, 90, 91, 92, 93, 94, 218, 219, 220, 221, 222, 223, 224, 225, 226, 227, 228] (by decide +kernel) (by decide +kernel)) (goodIn_sub (fun _ h => List.mem_cons_of_mem _ (List.mem_append_right _ h)) (by decide +kernel))
set_option maxRecDepth 20000 in
theorem gX2_isSame_X1_neighboursWith : GoodIn wsX2_isSame (wsV RX2 108 RX1 yX1_neighboursWith wsX1_neighboursWith) := goodIn_app (goodIn_of _ (by decide +kernel)) ggX2_isSame_X1_neighboursWith
set_option maxRecDepth 20000 in
theorem ggX2_isSame_X2_bare : GoodIn wsX2_isSame wsX2_bare := goodIn_r _ [180, 1, 2, 51, 52, 53, 37, 54, 43, 44, 45, 46, 7, 212, 213, 214, 215, 216, 217] (by decide +kernel) (by decide +kernel)
set_option maxRecDepth 20000 in
theorem gX2_isSame_X2_bare : GoodIn wsX2_isSame (wsV RX2 111 RX2 yX2_bare wsX2_bare) := goodIn_app (goodIn_of _ (by decide +kernel)) ggX2_isSame_X2_bare
set_option maxRecDepth 20000 in
theorem ggX2_isSame_X2_beside : GoodIn wsX2_isSame wsX2_beside := goodIn_r _ [54, 43, 44, 45, 37, 46, 1, 2, 7, 212, 213, 214, 215, 216, 217] (by decide +kernel) (by decide +kernel)
set_option maxRecDepth 20000 in
theorem gX2_isSame_X2_beside : GoodIn wsX2_isSame (wsV RX2 33 RX2 yX2_beside wsX2_beside) := goodIn_app (goodIn_of _ (by decide +kernel)) ggX2_isSame_X2_beside
set_option maxRecDepth 20000 in
theorem ggX2_isSame_X1_stubbornCells : GoodIn wsX2_isSame wsX1_stubbornCells := goodIn_r _ [184, 27, 136, 176, 89, 90, 91, 92, 93, 94, 218, 219, 220, 221, 222, 223, 224, 225, 226, 227, 228] (by decide +kernel) (by decide +kernel)
set_option maxRecDepth 20000 in
theorem gX2_isSame_X1_stubbornCells : GoodIn wsX2_isSame (wsV RX2 114 RX1 yX1_stubbornCells wsX1_stubbornCells) := goodIn_app (goodIn_of _ (by decide +kernel)) ggX2_isSame_X1_stubbornCells
set_option maxRecDepth 20000 in
theorem ggX2_isSame_X1_borders : GoodIn wsX2_isSame wsX1_borders := goodIn_r _ [188, 27, 189, 190, 191, 67, 192, 152, 73, 69, 70, 71, 72, 193, 194, 195, 88, 89, 90, 91, 92, 93, 94, 218, 219, 220, 221, 222, 223, 224, 225, 226, 227, 228] (by decide +kernel) (by decide +kernel)
set_option maxRecDepth 20000 in
theorem gX2_isSame_X1_borders : GoodIn wsX2_isSame (wsV RX2 117 RX1 yX1_borders wsX1_borders) := goodIn_app (goodIn_of _ (by decide +kernel)) ggX2_isSame_X1_borders
set_option maxRecDepth 20000 in
theorem ggX2_isSame_X1_leader : GoodIn wsX2_isSame wsX1_leader := goodIn_r _ [199, 27, 106, 107, 108, 67, 109, 69, 70, 71, 72, 73, 88, 89, 90, 91, 92, 93, 94, 218, 219, 220, 221, 222, 223, 224, 225, 226, 227, 228] (by decide +kernel) (by decide +kernel)
set_option maxRecDepth 20000 in
theorem gX2_isSame_X1_leader : GoodIn wsX2_isSame (wsV RX2 120 RX1 yX1_leader wsX1_leader) := goodIn_app (goodIn_of _ (by decide +kernel)) ggX2_isSame_X1_leader
set_option maxRecDepth 20000 in
theorem ggX2_isSame_X1_winner : GoodIn wsX2_isSame wsX1_winner := goodIn_r _ [203, 27, 204, 205, 206, 67, 207, 152, 69, 70, 71, 72, 73, 218, 219, 220, 221, 222, 223, 224, 225, 226, 227, 228] (by decide +kernel) (by decide +kernel)
set_option maxRecDepth 20000 in
theorem gX2_isSame_X1_winner : GoodIn wsX2_isSame (wsV RX2 123 RX1 yX1_winner wsX1_winner) := goodIn_app (goodIn_of _ (by decide +kernel)) ggX2_isSame_X1_winner
set_option maxRecDepth 20000 in
theorem ggX2_isSame_X1_isStill : GoodIn wsX2_isSame wsX1_isStill := goodIn_r _ [211, 27, 141, 142, 143, 67, 144, 145, 146, 73, 147, 148, 149, 150, 151, 152, 153, 154, 155, 156, 218, 219, 220, 221, 222, 223, 224, 225, 226, 227, 228] (by decide +kernel) (by decide +kernel)
set_option maxRecDepth 20000 in
theorem gX2_isSame_X1_isStill : GoodIn wsX2_isSame (wsV RX2 126 RX1 yX1_isStill wsX1_isStill) := goodIn_app (goodIn_of _ (by decide +kernel)) ggX2_isSame_X1_isStill
set_option maxRecDepth 20000 in
theorem ggL_act_L_below : GoodIn wsL_act wsL_below := goodIn_r _ [13, 14] (by decide +kernel) (by decide +kernel)
set_option maxRecDepth 20000 in
theorem gL_act_L_below : GoodIn wsL_act (va_wsS RL 15 yL_below wsL_below) := goodIn_app (goodIn_of _ (by decide +kernel)) ggL_act_L_below
set_option maxRecDepth 20000 in
theorem ggL_act_X2_init : GoodIn wsL_act wsX2_init := goodIn_r _ [17, 18, 19, 20, 21, 22, 23, 24, 25, 26, 27, 28, 29, 141, 142, 143, 144, 145, 146] (by decide +kernel) (by decide +kernel)
set_option maxRecDepth 20000 in
theorem gL_act_X2_init : GoodIn wsL_act (wsX2_init) := ggL_act_X2_init
set_option maxRecDepth 20000 in
theorem ggL_act_X1_newMap : GoodIn wsL_act wsX1_newMap := goodIn_ca (goodIn_r _ [34, 35, 36, 37, 38, 39, 40, 41, 42, 33, 43, 44, 45, 46, 47, 48, 49, 50, 51, 52, 53, 147, 148, 149, 150, 151, 152, 153, 154, 155, 156, 157] (by decide +kernel) (by decide +kernel)) (goodIn_sub (fun _ h => List.mem_cons_of_mem _ (List.mem_append_left _ (List.mem_append_right _ h))) (by decide +kernel))
set_option maxRecDepth 20000 in
theorem gL_act_X1_newMap : GoodIn wsL_act (wsV RL 30 RX1 yX1_newMap wsX1_newMap) := goodIn_app (goodIn_of _ (by decide +kernel)) ggL_act_X1_newMap
set_option maxRecDepth 20000 in
theorem ggL_act_X1_turnStubborn : GoodIn wsL_act wsX1_turnStubborn := goodIn_ca (goodIn_r _ [57, 58, 59, 40, 60, 61, 62, 63, 33, 64, 37, 38, 65, 52, 53, 147, 148, 149, 150, 151, 152, 153, 154, 155, 156, 157] (by decide +kernel) (by decide +kernel)) (goodIn_sub (fun _ h => List.mem_cons_of_mem _ (List.mem_append_right _ h)) (by decide +kernel))
set_option maxRecDepth 20000 in
theorem gL_act_X1_turnStubborn : GoodIn wsL_act (wsV RL 39 RX1 yX1_turnStubborn wsX1_turnStubborn) := goodIn_app (goodIn_of _ (by decide +kernel)) ggL_act_X1_turnStubborn
set_option maxRecDepth 20000 in
theorem ggL_act_X1_setNeed : GoodIn wsL_act wsX1_setNeed := goodIn_ca (goodIn_r _ [69, 35, 36, 40, 70, 147, 148, 149, 150, 151, 152, 153, 154, 155, 156, 157] (by decide +kernel) (by decide +kernel)) (goodIn_sub (fun _ h => List.mem_cons_of_mem _ (List.mem_append_left _ (List.mem_append_right _ h))) (by decide +kernel))
set_option maxRecDepth 20000 in
theorem gL_act_X1_setNeed : GoodIn wsL_act (wsV RL 43 RX1 yX1_setNeed wsX1_setNeed) := goodIn_app (goodIn_of _ (by decide +kernel)) ggL_act_X1_setNeed
set_option maxRecDepth 20000 in
theorem ggL_act_X2_wave : GoodIn wsL_act wsX2_wave := goodIn_r _ [74, 22, 23, 24, 25, 26, 75, 76, 77, 5, 78, 29, 21, 79, 80, 81, 82, 83, 84, 85, 86, 141, 142, 143, 144, 145, 146] (by decide +kernel) (by decide +kernel)
set_option maxRecDepth 20000 in
theorem gL_act_X2_wave : GoodIn wsL_act (wsV RL 47 RX2 yX2_wave wsX2_wave) := goodIn_app (goodIn_of _ (by decide +kernel)) ggL_act_X2_wave
set_option maxRecDepth 20000 in
theorem ggL_act_X1_pass : GoodIn wsL_act wsX1_pass := goodIn_ca (goodIn_r _ [90, 35, 36, 39, 40, 91, 92, 93, 47, 94, 95, 96, 97, 98, 99, 100, 51, 101, 102, 103, 104, 105, 49, 50, 106, 107, 108, 109, 110, 111, 112, 113, 114, 115, 116, 117, 118, 119, 147, 148, 149, 150, 151, 152, 153, 154, 155, 156, 157] (by decide +kernel) (by decide +kernel)) (goodIn_sub (fun _ h => List.mem_cons_of_mem _ (List.mem_append_left _ (List.mem_append_right _ h))) (by decide +kernel))
set_option maxRecDepth 20000 in
theorem gL_act_X1_pass : GoodIn wsL_act (wsV RL 54 RX1 yX1_pass wsX1_pass) := goodIn_app (goodIn_of _ (by decide +kernel)) ggL_act_X1_pass
set_option maxRecDepth 20000 in
theorem ggL_act_X1_paint : GoodIn wsL_act wsX1_paint := goodIn_ca (goodIn_r _ [123, 58, 59, 40, 61, 62, 63, 33, 64, 37, 38, 124, 125, 126, 127, 128, 129, 65, 52, 53, 130, 131, 132, 47, 133, 51, 134, 135, 136, 137, 138, 139, 140, 147, 148, 149, 150, 151, 152, 153, 154, 155, 156, 157] (by decide +kernel) (by decide +kernel)) (goodIn_sub (fun _ h => List.mem_cons_of_mem _ (List.mem_append_right _ h)) (by decide +kernel))
set_option maxRecDepth 20000 in
theorem gL_act_X1_paint : GoodIn wsL_act (wsV RL 61 RX1 yX1_paint wsX1_paint) := goodIn_app (goodIn_of _ (by decide +kernel)) ggL_act_X1_paint
set_option maxRecDepth 20000 in
theorem ggL_build_L_cell : GoodIn wsL_build wsL_cell := goodIn_r _ [9, 10] (by decide +kernel) (by decide +kernel)
set_option maxRecDepth 20000 in
theorem gL_build_L_cell : GoodIn wsL_build (va_wsS RL 65 yL_cell wsL_cell) := goodIn_app (goodIn_of _ (by decide +kernel)) ggL_build_L_cell
set_option maxRecDepth 20000 in
theorem ggL_build_L_below : GoodIn wsL_build wsL_below := goodIn_r _ [13, 14] (by decide +kernel) (by decide +kernel)
set_option maxRecDepth 20000 in
theorem gL_build_L_below : GoodIn wsL_build (va_wsS RL 15 yL_below wsL_below) := goodIn_app (goodIn_of _ (by decide +kernel)) ggL_build_L_below
set_option maxRecDepth 20000 in
theorem ggL_build_X2_init : GoodIn wsL_build wsX2_init := goodIn_r _ [17, 18, 19, 20, 21, 22, 23, 24, 25, 26, 27, 28, 29, 148, 149, 150, 151, 152, 153] (by decide +kernel) (by decide +kernel)
set_option maxRecDepth 20000 in
theorem gL_build_X2_init : GoodIn wsL_build (wsX2_init) := ggL_build_X2_init
set_option maxRecDepth 20000 in
theorem ggL_build_X1_newMap : GoodIn wsL_build wsX1_newMap := goodIn_ca (goodIn_r _ [34, 35, 36, 37, 38, 39, 40, 41, 42, 33, 43, 44, 45, 46, 47, 48, 49, 50, 51, 52, 53, 154, 155, 156, 157, 158, 159, 160, 161, 162, 163, 164] (by decide +kernel) (by decide +kernel)) (goodIn_sub (fun _ h => List.mem_cons_of_mem _ (List.mem_append_left _ (List.mem_append_right _ h))) (by decide +kernel))
set_option maxRecDepth 20000 in
theorem gL_build_X1_newMap : GoodIn wsL_build (wsV RL 30 RX1 yX1_newMap wsX1_newMap) := goodIn_app (goodIn_of _ (by decide +kernel)) ggL_build_X1_newMap
set_option maxRecDepth 20000 in
theorem ggL_build_L_act : GoodIn wsL_build wsL_act := goodIn_ca (goodIn_ca (goodIn_r _ [56, 4, 5, 1, 2, 3, 57, 58, 59, 60, 11, 12, 8, 13, 14, 15, 16, 17, 18, 19, 20, 21, 22, 23, 24, 25, 26, 27, 28, 29, 30, 31, 32, 33, 34, 35, 36, 37, 38, 39, 40, 41, 42, 43, 44, 45, 46, 47, 48, 49, 50, 51, 52, 53, 61, 62, 63, 64, 65, 66, 67, 68, 69, 70, 71, 72, 73, 74, 75, 76, 77, 78, 79, 80, 81, 82, 83, 84, 85, 86, 87, 88, 89, 90, 91, 92, 93, 94, 95, 96, 97, 98, 99, 100, 101, 102, 103, 104, 105, 106, 107, 108, 109, 110, 111, 112, 113, 114, 115, 116, 117, 118, 119, 120, 121, 122, 123, 124, 125, 126, 127, 128, 129, 130, 131, 132, 133, 134, 135, 136, 137, 138, 139, 140, 141, 142, 143, 144, 145, 146, 147, 148, 149, 150, 151, 152, 153, 154, 155, 156, 157, 158, 159, 160, 161, 162, 163, 164] (by decide +kernel) (by decide +kernel)) (goodIn_sub (fun _ h => List.mem_cons_of_mem _ (List.mem_append_left _ (List.mem_append_right _ h))) (by decide +kernel))) (goodIn_sub (fun _ h => List.mem_cons_of_mem _ (List.mem_append_right _ h)) (by decide +kernel))
set_option maxRecDepth 20000 in
theorem gL_build_L_act : GoodIn wsL_build (va_wsS RL 69 yL_act wsL_act) := goodIn_app (goodIn_of _ (by decide +kernel)) ggL_build_L_act
set_option maxRecDepth 20000 in
theorem ggL_law_X1_init : GoodIn wsL_law wsX1_init := goodIn_r _ [10, 11, 12, 13, 14, 15, 16, 17, 18, 19, 20, 21, 22, 23, 24, 25, 26, 3, 27, 28, 29, 30, 31, 32, 33, 34, 35, 36, 2, 37, 334, 335, 336, 337, 338, 339, 323, 324, 325, 326, 327] (by decide +kernel) (by decide +kernel)
set_option maxRecDepth 20000 in
theorem gL_law_X1_init : GoodIn wsL_law (wsX1_init) := ggL_law_X1_init
set_option maxRecDepth 20000 in
theorem ggL_law_L_build : GoodIn wsL_law wsL_build := goodIn_ca (goodIn_ca (goodIn_r _ [41, 42, 43, 44, 45, 46, 47, 48, 40, 49, 50, 51, 52, 53, 54, 55, 56, 57, 58, 12, 13, 59, 60, 61, 62, 3, 63, 64, 65, 66, 67, 68, 69, 2, 70, 71, 72, 19, 20, 21, 17, 73, 74, 75, 30, 31, 32, 16, 33, 34, 35, 27, 36, 37, 76, 77, 78, 79, 80, 5, 81, 82, 83, 84, 85, 86, 87, 88, 89, 90, 91, 92, 93, 94, 95, 96, 97, 98, 99, 100, 101, 102, 103, 104, 105, 106, 107, 108, 109, 110, 111, 112, 113, 114, 115, 116, 117, 118, 119, 120, 121, 122, 123, 124, 125, 126, 29, 26, 127, 128, 129, 130, 28, 131, 132, 133, 134, 135, 136, 137, 138, 139, 140, 141, 142, 143, 144, 145, 146, 147, 148, 149, 150, 151, 152, 153, 154, 155, 156, 157, 158, 159, 160, 161, 162, 163, 164, 165, 328, 329, 330, 331, 332, 333, 323, 324, 325, 326, 327, 334, 335, 336, 337, 338, 339] (by decide +kernel) (by decide +kernel)) (goodIn_sub (fun _ h => List.mem_append_left _ (List.mem_append_right _ h)) (by decide +kernel))) (goodIn_sub (fun _ h => List.mem_append_right _ h) (by decide +kernel))
set_option maxRecDepth 20000 in
theorem gL_law_L_build : GoodIn wsL_law (va_wsS RL 74 yL_build wsL_build) := goodIn_app (goodIn_of _ (by decide +kernel)) ggL_law_L_build
set_option maxRecDepth 20000 in
theorem ggL_law_L_cell : GoodIn wsL_law wsL_cell := goodIn_r _ [49, 50] (by decide +kernel) (by decide +kernel)
set_option maxRecDepth 20000 in
theorem gL_law_L_cell : GoodIn wsL_law (va_wsS RL 65 yL_cell wsL_cell) := goodIn_app (goodIn_of _ (by decide +kernel)) ggL_law_L_cell
set_option maxRecDepth 20000 in
theorem ggL_law_L_act : GoodIn wsL_law wsL_act := goodIn_ca (goodIn_ca (goodIn_r _ [78, 45, 46, 42, 43, 44, 79, 80, 5, 81, 51, 52, 40, 53, 54, 55, 56, 57, 58, 12, 13, 59, 60, 61, 62, 3, 63, 64, 65, 66, 67, 68, 69, 2, 70, 71, 72, 19, 20, 21, 17, 73, 74, 75, 30, 31, 32, 16, 33, 34, 35, 27, 36, 37, 82, 83, 84, 85, 86, 87, 88, 89, 90, 91, 92, 93, 94, 95, 96, 97, 98, 99, 100, 101, 102, 103, 104, 105, 106, 107, 108, 109, 110, 111, 112, 113, 114, 115, 116, 117, 118, 119, 120, 121, 122, 123, 124, 125, 126, 29, 26, 127, 128, 129, 130, 28, 131, 132, 133, 134, 135, 136, 137, 138, 139, 140, 141, 142, 143, 144, 145, 146, 147, 148, 149, 150, 151, 152, 153, 154, 155, 156, 157, 158, 159, 160, 161, 162, 163, 164, 165, 328, 329, 330, 331, 332, 333, 323, 324, 325, 326, 327, 334, 335, 336, 337, 338, 339] (by decide +kernel) (by decide +kernel)) (goodIn_sub (fun _ h => List.mem_append_left _ (List.mem_append_right _ h)) (by decide +kernel))) (goodIn_sub (fun _ h => List.mem_append_right _ h) (by decide +kernel))
set_option maxRecDepth 20000 in
theorem gL_law_L_act : GoodIn wsL_law (va_wsS RL 69 yL_act wsL_act) := goodIn_app (goodIn_of _ (by decide +kernel)) ggL_law_L_act
set_option maxRecDepth 20000 in
theorem ggL_law_X1_width : GoodIn wsL_law wsX1_width := goodIn_r _ [169, 19, 323, 324, 325, 326, 327] (by decide +kernel) (by decide +kernel)
set_option maxRecDepth 20000 in
theorem gL_law_X1_width : GoodIn wsL_law (wsV RL 78 RX1 yX1_width wsX1_width) := goodIn_app (goodIn_of _ (by decide +kernel)) ggL_law_X1_width
set_option maxRecDepth 20000 in
theorem ggL_law_X1_height : GoodIn wsL_law wsX1_height := goodIn_r _ [173, 20, 323, 324, 325, 326, 327] (by decide +kernel) (by decide +kernel)
set_option maxRecDepth 20000 in
theorem gL_law_X1_height : GoodIn wsL_law (wsV RL 81 RX1 yX1_height wsX1_height) := goodIn_app (goodIn_of _ (by decide +kernel)) ggL_law_X1_height
set_option maxRecDepth 20000 in
theorem ggL_law_X1_cellsOf : GoodIn wsL_law wsX1_cellsOf := goodIn_ca (goodIn_r _ [177, 86, 87, 17, 149, 150, 2, 151, 152, 153, 154, 178, 179, 180, 16, 181, 182, 183, 184, 185, 27, 186, 139, 140, 141, 142, 143, 144, 323, 324, 325, 326, 327, 334, 335, 336, 337, 338, 339] (by decide +kernel) (by decide +kernel)) (goodIn_sub (fun _ h => List.mem_append_right _ h) (by decide +kernel))
set_option maxRecDepth 20000 in
theorem gL_law_X1_cellsOf : GoodIn wsL_law (wsV RL 84 RX1 yX1_cellsOf wsX1_cellsOf) := goodIn_app (goodIn_of _ (by decide +kernel)) ggL_law_X1_cellsOf
set_option maxRecDepth 20000 in
theorem ggL_law_X1_colourAt : GoodIn wsL_law wsX1_colourAt := goodIn_ca (goodIn_r _ [190, 86, 87, 17, 89, 90, 91, 2, 92, 19, 20, 93, 36, 37, 155, 156, 157, 16, 158, 27, 159, 160, 161, 323, 324, 325, 326, 327, 334, 335, 336, 337, 338, 339] (by decide +kernel) (by decide +kernel)) (goodIn_sub (fun _ h => List.mem_append_right _ h) (by decide +kernel))
set_option maxRecDepth 20000 in
theorem gL_law_X1_colourAt : GoodIn wsL_law (wsV RL 88 RX1 yX1_colourAt wsX1_colourAt) := goodIn_app (goodIn_of _ (by decide +kernel)) ggL_law_X1_colourAt
set_option maxRecDepth 20000 in
theorem ggL_law_X1_neighboursWith : GoodIn wsL_law wsX1_neighboursWith := goodIn_ca (goodIn_r _ [194, 86, 87, 17, 89, 90, 91, 2, 92, 19, 20, 149, 150, 151, 152, 153, 154, 93, 36, 37, 195, 196, 197, 198, 183, 184, 16, 185, 27, 138, 139, 140, 141, 142, 143, 144, 323, 324, 325, 326, 327, 334, 335, 336, 337, 338, 339] (by decide +kernel) (by decide +kernel)) (goodIn_sub (fun _ h => List.mem_append_right _ h) (by decide +kernel))
set_option maxRecDepth 20000 in
theorem gL_law_X1_neighboursWith : GoodIn wsL_law (wsV RL 91 RX1 yX1_neighboursWith wsX1_neighboursWith) := goodIn_app (goodIn_of _ (by decide +kernel)) ggL_law_X1_neighboursWith
set_option maxRecDepth 20000 in
theorem ggL_law_X1_waves : GoodIn wsL_law wsX1_waves := goodIn_r _ [202, 21, 323, 324, 325, 326, 327] (by decide +kernel) (by decide +kernel)
set_option maxRecDepth 20000 in
theorem gL_law_X1_waves : GoodIn wsL_law (wsV RL 94 RX1 yX1_waves wsX1_waves) := goodIn_app (goodIn_of _ (by decide +kernel)) ggL_law_X1_waves
set_option maxRecDepth 20000 in
theorem ggL_law_X1_pass : GoodIn wsL_law wsX1_pass := goodIn_ca (goodIn_r _ [118, 71, 72, 21, 17, 119, 120, 121, 16, 122, 123, 124, 125, 126, 29, 26, 27, 127, 128, 129, 130, 28, 34, 35, 131, 132, 133, 134, 135, 136, 137, 138, 139, 140, 141, 142, 143, 144, 323, 324, 325, 326, 327, 334, 335, 336, 337, 338, 339] (by decide +kernel) (by decide +kernel)) (goodIn_sub (fun _ h => List.mem_append_left _ (List.mem_append_right _ h)) (by decide +kernel))
set_option maxRecDepth 20000 in
theorem gL_law_X1_pass : GoodIn wsL_law (wsV RL 54 RX1 yX1_pass wsX1_pass) := goodIn_app (goodIn_of _ (by decide +kernel)) ggL_law_X1_pass
set_option maxRecDepth 20000 in
theorem ggL_law_X2_wave : GoodIn wsL_law wsX2_wave := goodIn_r _ [102, 60, 61, 62, 3, 63, 103, 104, 105, 44, 106, 66, 59, 107, 108, 109, 110, 111, 112, 113, 114, 328, 329, 330, 331, 332, 333] (by decide +kernel) (by decide +kernel)
set_option maxRecDepth 20000 in
theorem gL_law_X2_wave : GoodIn wsL_law (wsV RL 47 RX2 yX2_wave wsX2_wave) := goodIn_app (goodIn_of _ (by decide +kernel)) ggL_law_X2_wave
set_option maxRecDepth 20000 in
theorem ggL_law_X1_isStubborn : GoodIn wsL_law wsX1_isStubborn := goodIn_ca (goodIn_r _ [206, 86, 87, 17, 88, 89, 90, 91, 2, 92, 19, 20, 93, 36, 37, 323, 324, 325, 326, 327, 334, 335, 336, 337, 338, 339] (by decide +kernel) (by decide +kernel)) (goodIn_sub (fun _ h => List.mem_append_right _ h) (by decide +kernel))
set_option maxRecDepth 20000 in
theorem gL_law_X1_isStubborn : GoodIn wsL_law (wsV RL 96 RX1 yX1_isStubborn wsX1_isStubborn) := goodIn_app (goodIn_of _ (by decide +kernel)) ggL_law_X1_isStubborn
set_option maxRecDepth 20000 in
theorem ggL_law_X1_need : GoodIn wsL_law wsX1_need := goodIn_r _ [210, 17, 98, 323, 324, 325, 326, 327, 334, 335, 336, 337, 338, 339] (by decide +kernel) (by decide +kernel)
set_option maxRecDepth 20000 in
theorem gL_law_X1_need : GoodIn wsL_law (wsV RL 99 RX1 yX1_need wsX1_need) := goodIn_app (goodIn_of _ (by decide +kernel)) ggL_law_X1_need
set_option maxRecDepth 20000 in
theorem ggL_law_X1_stubbornCells : GoodIn wsL_law wsX1_stubbornCells := goodIn_r _ [214, 17, 88, 138, 139, 140, 141, 142, 143, 144, 323, 324, 325, 326, 327, 334, 335, 336, 337, 338, 339] (by decide +kernel) (by decide +kernel)
set_option maxRecDepth 20000 in
theorem gL_law_X1_stubbornCells : GoodIn wsL_law (wsV RL 101 RX1 yX1_stubbornCells wsX1_stubbornCells) := goodIn_app (goodIn_of _ (by decide +kernel)) ggL_law_X1_stubbornCells
set_option maxRecDepth 20000 in
theorem ggL_law_X1_leader : GoodIn wsL_law wsX1_leader := goodIn_r _ [218, 17, 178, 179, 180, 16, 181, 182, 183, 184, 185, 27, 186, 139, 140, 141, 142, 143, 144, 323, 324, 325, 326, 327, 334, 335, 336, 337, 338, 339] (by decide +kernel) (by decide +kernel)
set_option maxRecDepth 20000 in
theorem gL_law_X1_leader : GoodIn wsL_law (wsV RL 104 RX1 yX1_leader wsX1_leader) := goodIn_app (goodIn_of _ (by decide +kernel)) ggL_law_X1_leader
set_option maxRecDepth 20000 in
theorem ggL_law_X1_share : GoodIn wsL_law wsX1_share := goodIn_ca (goodIn_r _ [222, 86, 87, 19, 20, 17, 149, 150, 2, 151, 152, 153, 154, 178, 179, 180, 16, 181, 182, 183, 184, 185, 27, 186, 139, 140, 141, 142, 143, 144, 323, 324, 325, 326, 327, 334, 335, 336, 337, 338, 339] (by decide +kernel) (by decide +kernel)) (goodIn_sub (fun _ h => List.mem_append_right _ h) (by decide +kernel))
set_option maxRecDepth 20000 in
theorem gL_law_X1_share : GoodIn wsL_law (wsV RL 107 RX1 yX1_share wsX1_share) := goodIn_app (goodIn_of _ (by decide +kernel)) ggL_law_X1_share
set_option maxRecDepth 20000 in
theorem ggL_law_X1_regionsOf : GoodIn wsL_law wsX1_regionsOf := goodIn_ca (goodIn_r _ [226, 86, 87, 17, 152, 153, 2, 154, 227, 228, 229, 16, 230, 182, 183, 184, 185, 27, 231, 232, 233, 196, 197, 323, 324, 325, 326, 327, 334, 335, 336, 337, 338, 339] (by decide +kernel) (by decide +kernel)) (goodIn_sub (fun _ h => List.mem_append_right _ h) (by decide +kernel))
set_option maxRecDepth 20000 in
theorem gL_law_X1_regionsOf : GoodIn wsL_law (wsV RL 111 RX1 yX1_regionsOf wsX1_regionsOf) := goodIn_app (goodIn_of _ (by decide +kernel)) ggL_law_X1_regionsOf
set_option maxRecDepth 20000 in
theorem ggL_law_X1_greatestRegion : GoodIn wsL_law wsX1_greatestRegion := goodIn_ca (goodIn_r _ [237, 86, 87, 17, 152, 153, 2, 154, 238, 239, 240, 16, 241, 242, 243, 244, 245, 182, 183, 184, 185, 27, 231, 232, 233, 196, 197, 186, 139, 140, 141, 142, 143, 144, 323, 324, 325, 326, 327, 334, 335, 336, 337, 338, 339] (by decide +kernel) (by decide +kernel)) (goodIn_sub (fun _ h => List.mem_append_right _ h) (by decide +kernel))
set_option maxRecDepth 20000 in
theorem gL_law_X1_greatestRegion : GoodIn wsL_law (wsV RL 114 RX1 yX1_greatestRegion wsX1_greatestRegion) := goodIn_app (goodIn_of _ (by decide +kernel)) ggL_law_X1_greatestRegion
set_option maxRecDepth 20000 in
theorem ggL_law_X1_winner : GoodIn wsL_law wsX1_winner := goodIn_r _ [249, 17, 250, 251, 252, 16, 253, 34, 182, 183, 184, 185, 27, 323, 324, 325, 326, 327, 334, 335, 336, 337, 338, 339] (by decide +kernel) (by decide +kernel)
set_option maxRecDepth 20000 in
theorem gL_law_X1_winner : GoodIn wsL_law (wsV RL 117 RX1 yX1_winner wsX1_winner) := goodIn_app (goodIn_of _ (by decide +kernel)) ggL_law_X1_winner
set_option maxRecDepth 20000 in
theorem ggL_law_X1_borders : GoodIn wsL_law wsX1_borders := goodIn_r _ [257, 17, 258, 259, 260, 16, 261, 34, 27, 182, 183, 184, 185, 262, 263, 264, 186, 139, 140, 141, 142, 143, 144, 323, 324, 325, 326, 327, 334, 335, 336, 337, 338, 339] (by decide +kernel) (by decide +kernel)
set_option maxRecDepth 20000 in
theorem gL_law_X1_borders : GoodIn wsL_law (wsV RL 124 RX1 yX1_borders wsX1_borders) := goodIn_app (goodIn_of _ (by decide +kernel)) ggL_law_X1_borders
set_option maxRecDepth 20000 in
theorem ggL_law_X2_isSame : GoodIn wsL_law wsX2_isSame := goodIn_ca (goodIn_r _ [268, 60, 61, 59, 269, 3, 66, 63, 270, 243, 244, 245, 271, 167, 168, 2, 169, 19, 272, 171, 172, 173, 20, 273, 208, 209, 210, 17, 98, 274, 200, 201, 202, 21, 275, 276, 277, 44, 278, 62, 279, 280, 281, 111, 112, 113, 114, 103, 104, 105, 106, 107, 108, 109, 110, 282, 224, 225, 226, 86, 87, 152, 153, 154, 227, 228, 229, 16, 230, 182, 183, 184, 185, 27, 231, 232, 233, 196, 197, 283, 235, 236, 237, 238, 239, 240, 241, 242, 186, 139, 140, 141, 142, 143, 144, 284, 285, 286, 287, 288, 175, 176, 177, 149, 150, 151, 178, 179, 180, 181, 289, 220, 221, 222, 290, 188, 189, 190, 89, 90, 91, 92, 93, 36, 37, 155, 156, 157, 158, 159, 160, 161, 291, 204, 205, 206, 88, 292, 293, 294, 295, 296, 124, 125, 126, 29, 26, 127, 128, 129, 130, 28, 34, 35, 131, 132, 133, 297, 298, 299, 300, 301, 302, 303, 304, 305, 306, 307, 308, 309, 310, 192, 193, 194, 195, 198, 138, 311, 312, 313, 314, 315, 212, 213, 214, 316, 255, 256, 257, 258, 259, 260, 261, 262, 263, 264, 317, 216, 217, 218, 318, 247, 248, 249, 250, 251, 252, 253, 319, 320, 321, 322, 328, 329, 330, 331, 332, 333, 323, 324, 325, 326, 327, 334, 335, 336, 337, 338, 339] (by decide +kernel) (by decide +kernel)) (goodIn_sub (fun _ h => List.mem_append_right _ h) (by decide +kernel))
set_option maxRecDepth 20000 in
theorem gL_law_X2_isSame : GoodIn wsL_law (wsV RL 127 RX2 yX2_isSame wsX2_isSame) := goodIn_app (goodIn_of _ (by decide +kernel)) ggL_law_X2_isSame
abbrev vwCl : List vw_C := [(RX0, TX0, 6), (RX1, TX1, 5), (RX2, TX2, 6)]
