/-! ===== BEGIN printed: names, fields, word lists, decode rows ===== -/
def RX0 : String := "DirtyTiles$Cache"
def TX0 : u_T := fun k => match k with
  | 0 => ("DirtyTiles$Cache", "tiles", "[J", true)
  | _ => ("DirtyTiles$Cache", "count", "I", false)
def tyX0 : Nat → FieldType := fun k => match k with
  | 0 => .array .long
  | _ => .int
abbrev wsX00 : List Cond := u_ws RX0 TX0 2
theorem nmX0 : ∀ a, a < 2 → ∀ b, b < 2 → a ≠ b → (TX0 a).2.1 ≠ (TX0 b).2.1 := by decide +kernel
theorem tyX0_ok : ∀ k, k < 2 → parseFieldDescriptor (TX0 k).2.2.1 = some (tyX0 k) := by decide +kernel
abbrev cX0_init : ByteArray := prog_2_method_1_code
def yX0_init : MethodName := ⟨RX0, "<init>", "()V"⟩
abbrev cX0_size : ByteArray := prog_2_method_2_code
def yX0_size : MethodName := ⟨RX0, "size", "()I"⟩
abbrev cX0_clear : ByteArray := prog_2_method_3_code
def yX0_clear : MethodName := ⟨RX0, "clear", "()V"⟩
abbrev cX0_holds : ByteArray := prog_2_method_4_code
def yX0_holds : MethodName := ⟨RX0, "holds", "(J)Z"⟩
abbrev cX0_bringToFront : ByteArray := prog_2_method_5_code
def yX0_bringToFront : MethodName := ⟨RX0, "bringToFront", "(J)V"⟩
abbrev cX0_hasSameTilesAs : ByteArray := prog_2_method_6_code
def yX0_hasSameTilesAs : MethodName := ⟨RX0, "hasSameTilesAs", "(LDirtyTiles$Cache;)Z"⟩
abbrev cX0_placeOf : ByteArray := prog_2_method_7_code
def yX0_placeOf : MethodName := ⟨RX0, "placeOf", "(J)I"⟩
def RX1 : String := "DirtyTiles$Client"
def TX1 : u_T := fun k => match k with
  | 0 => ("DirtyTiles$Client", "joined", "Z", false)
  | 1 => ("DirtyTiles$Client", "ownScreen", "LDirtyTiles$Screen;", true)
  | 2 => ("DirtyTiles$Client", "ownCache", "LDirtyTiles$Cache;", true)
  | 3 => ("DirtyTiles$Client", "serverCache", "LDirtyTiles$Cache;", true)
  | 4 => ("DirtyTiles$Client", "dirtyTiles", "[I", true)
  | 5 => ("DirtyTiles$Client", "dirtyCount", "I", false)
  | 6 => ("DirtyTiles$Client", "messageTiles", "[I", true)
  | 7 => ("DirtyTiles$Client", "messageCells", "[J", true)
  | _ => ("DirtyTiles$Client", "messageCount", "I", false)
def tyX1 : Nat → FieldType := fun k => match k with
  | 0 => .boolean
  | 1 => .object "DirtyTiles$Screen"
  | 2 => .object "DirtyTiles$Cache"
  | 3 => .object "DirtyTiles$Cache"
  | 4 => .array .int
  | 5 => .int
  | 6 => .array .int
  | 7 => .array .long
  | _ => .int
abbrev wsX10 : List Cond := u_ws RX1 TX1 9
theorem nmX1 : ∀ a, a < 9 → ∀ b, b < 9 → a ≠ b → (TX1 a).2.1 ≠ (TX1 b).2.1 := by decide +kernel
theorem tyX1_ok : ∀ k, k < 9 → parseFieldDescriptor (TX1 k).2.2.1 = some (tyX1 k) := by decide +kernel
abbrev cX1_init : ByteArray := prog_3_method_1_code
def yX1_init : MethodName := ⟨RX1, "<init>", "()V"⟩
abbrev cX1_hasJoined : ByteArray := prog_3_method_2_code
def yX1_hasJoined : MethodName := ⟨RX1, "hasJoined", "()Z"⟩
abbrev cX1_ownScreen : ByteArray := prog_3_method_3_code
def yX1_ownScreen : MethodName := ⟨RX1, "ownScreen", "()LDirtyTiles$Screen;"⟩
abbrev cX1_ownCache : ByteArray := prog_3_method_4_code
def yX1_ownCache : MethodName := ⟨RX1, "ownCache", "()LDirtyTiles$Cache;"⟩
abbrev cX1_serverCache : ByteArray := prog_3_method_5_code
def yX1_serverCache : MethodName := ⟨RX1, "serverCache", "()LDirtyTiles$Cache;"⟩
abbrev cX1_dirtyCount : ByteArray := prog_3_method_6_code
def yX1_dirtyCount : MethodName := ⟨RX1, "dirtyCount", "()I"⟩
abbrev cX1_dirtyTileAt : ByteArray := prog_3_method_7_code
def yX1_dirtyTileAt : MethodName := ⟨RX1, "dirtyTileAt", "(I)I"⟩
abbrev cX1_messageCount : ByteArray := prog_3_method_8_code
def yX1_messageCount : MethodName := ⟨RX1, "messageCount", "()I"⟩
abbrev cX1_hasMessage : ByteArray := prog_3_method_9_code
def yX1_hasMessage : MethodName := ⟨RX1, "hasMessage", "()Z"⟩
abbrev cX1_beginAnew : ByteArray := prog_3_method_10_code
def yX1_beginAnew : MethodName := ⟨RX1, "beginAnew", "()V"⟩
abbrev cX1_makeDirty : ByteArray := prog_3_method_11_code
def yX1_makeDirty : MethodName := ⟨RX1, "makeDirty", "(I)V"⟩
abbrev cX1_addToMessage : ByteArray := prog_3_method_12_code
def yX1_addToMessage : MethodName := ⟨RX1, "addToMessage", "(IJ)V"⟩
abbrev cX1_cleanTilesOfMessage : ByteArray := prog_3_method_13_code
def yX1_cleanTilesOfMessage : MethodName := ⟨RX1, "cleanTilesOfMessage", "()V"⟩
abbrev cX1_takeMessage : ByteArray := prog_3_method_14_code
def yX1_takeMessage : MethodName := ⟨RX1, "takeMessage", "()I"⟩
def RX2 : String := "DirtyTiles$Screen"
def TX2 : u_T := fun k => match k with
  | _ => ("DirtyTiles$Screen", "tiles", "[J", true)
def tyX2 : Nat → FieldType := fun k => match k with
  | _ => .array .long
abbrev wsX20 : List Cond := u_ws RX2 TX2 1
theorem nmX2 : ∀ a, a < 1 → ∀ b, b < 1 → a ≠ b → (TX2 a).2.1 ≠ (TX2 b).2.1 := by decide +kernel
theorem tyX2_ok : ∀ k, k < 1 → parseFieldDescriptor (TX2 k).2.2.1 = some (tyX2 k) := by decide +kernel
abbrev cX2_init : ByteArray := prog_4_method_1_code
def yX2_init : MethodName := ⟨RX2, "<init>", "()V"⟩
abbrev cX2_cellsOf : ByteArray := prog_4_method_2_code
def yX2_cellsOf : MethodName := ⟨RX2, "cellsOf", "(I)J"⟩
abbrev cX2_replaceTile : ByteArray := prog_4_method_3_code
def yX2_replaceTile : MethodName := ⟨RX2, "replaceTile", "(IJ)V"⟩
abbrev cX2_colourAt : ByteArray := prog_4_method_4_code
def yX2_colourAt : MethodName := ⟨RX2, "colourAt", "(II)I"⟩
abbrev cX2_paint : ByteArray := prog_4_method_5_code
def yX2_paint : MethodName := ⟨RX2, "paint", "(III)V"⟩
abbrev cX2_become : ByteArray := prog_4_method_6_code
def yX2_become : MethodName := ⟨RX2, "become", "(LDirtyTiles$Screen;)V"⟩
abbrev cX2_clear : ByteArray := prog_4_method_7_code
def yX2_clear : MethodName := ⟨RX2, "clear", "()V"⟩
abbrev cX2_tileOf : ByteArray := prog_4_method_8_code
def yX2_tileOf : MethodName := ⟨RX2, "tileOf", "(II)I"⟩
abbrev cX2_placeInTile : ByteArray := prog_4_method_9_code
def yX2_placeInTile : MethodName := ⟨RX2, "placeInTile", "(II)I"⟩
def RX3 : String := "DirtyTiles"
def TX3 : u_T := fun k => match k with
  | 0 => ("DirtyTiles", "screen", "LDirtyTiles$Screen;", true)
  | 1 => ("DirtyTiles", "screenBefore", "LDirtyTiles$Screen;", true)
  | 2 => ("DirtyTiles", "clients", "[LDirtyTiles$Client;", true)
  | 3 => ("DirtyTiles", "tilesWritten", "[I", true)
  | _ => ("DirtyTiles", "unitsWritten", "I", false)
def tyX3 : Nat → FieldType := fun k => match k with
  | 0 => .object "DirtyTiles$Screen"
  | 1 => .object "DirtyTiles$Screen"
  | 2 => .array (.object "DirtyTiles$Client")
  | 3 => .array .int
  | _ => .int
abbrev wsX30 : List Cond := u_ws RX3 TX3 5
theorem nmX3 : ∀ a, a < 5 → ∀ b, b < 5 → a ≠ b → (TX3 a).2.1 ≠ (TX3 b).2.1 := by decide +kernel
theorem tyX3_ok : ∀ k, k < 5 → parseFieldDescriptor (TX3 k).2.2.1 = some (tyX3 k) := by decide +kernel
abbrev cX3_init : ByteArray := prog_1_method_1_code
def yX3_init : MethodName := ⟨RX3, "<init>", "()V"⟩
abbrev cX3_fill : ByteArray := prog_1_method_2_code
def yX3_fill : MethodName := ⟨RX3, "fill", "(IIIII)I"⟩
abbrev cX3_copy : ByteArray := prog_1_method_3_code
def yX3_copy : MethodName := ⟨RX3, "copy", "(IIIIII)I"⟩
abbrev cX3_colours : ByteArray := prog_1_method_5_code
def yX3_colours : MethodName := ⟨RX3, "colours", "(I)I"⟩
abbrev cX3_runs : ByteArray := prog_1_method_6_code
def yX3_runs : MethodName := ⟨RX3, "runs", "(I)I"⟩
abbrev cX3_way : ByteArray := prog_1_method_7_code
def yX3_way : MethodName := ⟨RX3, "way", "(II)I"⟩
abbrev cX3_join : ByteArray := prog_1_method_8_code
def yX3_join : MethodName := ⟨RX3, "join", "(I)I"⟩
abbrev cX3_ask : ByteArray := prog_1_method_9_code
def yX3_ask : MethodName := ⟨RX3, "ask", "(II)I"⟩
abbrev cX3_answer : ByteArray := prog_1_method_10_code
def yX3_answer : MethodName := ⟨RX3, "answer", "(I)I"⟩
abbrev cX3_unlike : ByteArray := prog_1_method_12_code
def yX3_unlike : MethodName := ⟨RX3, "unlike", "(I)I"⟩
abbrev cX3_dirty : ByteArray := prog_1_method_13_code
def yX3_dirty : MethodName := ⟨RX3, "dirty", "(I)I"⟩
abbrev cX3_dirtyAt : ByteArray := prog_1_method_14_code
def yX3_dirtyAt : MethodName := ⟨RX3, "dirtyAt", "(II)I"⟩
abbrev cX3_cached : ByteArray := prog_1_method_15_code
def yX3_cached : MethodName := ⟨RX3, "cached", "(I)I"⟩
abbrev cX3_isAlike : ByteArray := prog_1_method_16_code
def yX3_isAlike : MethodName := ⟨RX3, "isAlike", "(I)Z"⟩
abbrev cX3_written : ByteArray := prog_1_method_17_code
def yX3_written : MethodName := ⟨RX3, "written", "(I)I"⟩
abbrev cX3_units : ByteArray := prog_1_method_18_code
def yX3_units : MethodName := ⟨RX3, "units", "()I"⟩
abbrev cX3_requireArgument : ByteArray := prog_1_method_19_code
def yX3_requireArgument : MethodName := ⟨RX3, "requireArgument", "(Z)V"⟩
abbrev cX3_requireState : ByteArray := prog_1_method_20_code
def yX3_requireState : MethodName := ⟨RX3, "requireState", "(Z)V"⟩
abbrev cX3_isBetween : ByteArray := prog_1_method_21_code
def yX3_isBetween : MethodName := ⟨RX3, "isBetween", "(III)Z"⟩
abbrev cX3_isIndex : ByteArray := prog_1_method_22_code
def yX3_isIndex : MethodName := ⟨RX3, "isIndex", "(II)Z"⟩
abbrev cX3_isCell : ByteArray := prog_1_method_23_code
def yX3_isCell : MethodName := ⟨RX3, "isCell", "(II)Z"⟩
abbrev cX3_isBox : ByteArray := prog_1_method_24_code
def yX3_isBox : MethodName := ⟨RX3, "isBox", "(IIII)Z"⟩
abbrev cX3_noteChanges : ByteArray := prog_1_method_25_code
def yX3_noteChanges : MethodName := ⟨RX3, "noteChanges", "()I"⟩
abbrev cX3_makeDirtyForAll : ByteArray := prog_1_method_26_code
def yX3_makeDirtyForAll : MethodName := ⟨RX3, "makeDirtyForAll", "(I)V"⟩
abbrev cX3_writeMessage : ByteArray := prog_1_method_27_code
def yX3_writeMessage : MethodName := ⟨RX3, "writeMessage", "(LDirtyTiles$Client;I)V"⟩
abbrev cX3_cheapestWriting : ByteArray := prog_1_method_28_code
def yX3_cheapestWriting : MethodName := ⟨RX3, "cheapestWriting", "(JLDirtyTiles$Cache;)I"⟩
abbrev cX3_unitsIn : ByteArray := prog_1_method_29_code
def yX3_unitsIn : MethodName := ⟨RX3, "unitsIn", "(IJLDirtyTiles$Cache;)I"⟩
abbrev cX3_unitsByColours : ByteArray := prog_1_method_30_code
def yX3_unitsByColours : MethodName := ⟨RX3, "unitsByColours", "(I)I"⟩
abbrev cX3_cellAt : ByteArray := prog_1_method_31_code
def yX3_cellAt : MethodName := ⟨RX3, "cellAt", "(JI)I"⟩
abbrev cX3_countColours : ByteArray := prog_1_method_32_code
def yX3_countColours : MethodName := ⟨RX3, "countColours", "(J)I"⟩
abbrev cX3_countRuns : ByteArray := prog_1_method_33_code
def yX3_countRuns : MethodName := ⟨RX3, "countRuns", "(J)I"⟩
abbrev cX3_countDifferent : ByteArray := prog_1_method_34_code
def yX3_countDifferent : MethodName := ⟨RX3, "countDifferent", "(JJ)I"⟩
def RX4 : String := "DirtyTilesModel"
def TX4 : u_T := fun k => match k with
  | _ => ("", "", "", false)
def tyX4 : Nat → FieldType := fun k => match k with
  | _ => .int
abbrev wsX40 : List Cond := u_ws RX4 TX4 0
theorem nmX4 : ∀ a, a < 0 → ∀ b, b < 0 → a ≠ b → (TX4 a).2.1 ≠ (TX4 b).2.1 := by decide +kernel
theorem tyX4_ok : ∀ k, k < 0 → parseFieldDescriptor (TX4 k).2.2.1 = some (tyX4 k) := by decide +kernel
def RJ6 : String := "java/lang/Integer"
def TJ6 : u_T := fun k => match k with
  | _ => ("", "", "", false)
def tyJ6 : Nat → FieldType := fun k => match k with
  | _ => .int
abbrev wsJ60 : List Cond := u_ws RJ6 TJ6 0
theorem nmJ6 : ∀ a, a < 0 → ∀ b, b < 0 → a ≠ b → (TJ6 a).2.1 ≠ (TJ6 b).2.1 := by decide +kernel
theorem tyJ6_ok : ∀ k, k < 0 → parseFieldDescriptor (TJ6 k).2.2.1 = some (tyJ6 k) := by decide +kernel
abbrev cJ6_bitCount_0f7a4 : ByteArray := prog_11_method_49_code
def yJ6_bitCount_0f7a4 : MethodName := ⟨RJ6, "bitCount", "(I)I"⟩
def RJ9 : String := "java/lang/Math"
def TJ9 : u_T := fun k => match k with
  | _ => ("", "", "", false)
def tyJ9 : Nat → FieldType := fun k => match k with
  | _ => .int
abbrev wsJ90 : List Cond := u_ws RJ9 TJ9 0
theorem nmJ9 : ∀ a, a < 0 → ∀ b, b < 0 → a ≠ b → (TJ9 a).2.1 ≠ (TJ9 b).2.1 := by decide +kernel
theorem tyJ9_ok : ∀ k, k < 0 → parseFieldDescriptor (TJ9 k).2.2.1 = some (tyJ9 k) := by decide +kernel
abbrev cJ9_min_7cf53 : ByteArray := prog_12_method_69_code
def yJ9_min_7cf53 : MethodName := ⟨RJ9, "min", "(II)I"⟩
def RJ0 : String := "java/lang/String"
def TJ0 : u_T := fun k => match k with
  | _ => ("", "", "", false)
def tyJ0 : Nat → FieldType := fun k => match k with
  | _ => .int
abbrev wsJ00 : List Cond := u_ws RJ0 TJ0 0
theorem nmJ0 : ∀ a, a < 0 → ∀ b, b < 0 → a ≠ b → (TJ0 a).2.1 ≠ (TJ0 b).2.1 := by decide +kernel
theorem tyJ0_ok : ∀ k, k < 0 → parseFieldDescriptor (TJ0 k).2.2.1 = some (tyJ0 k) := by decide +kernel
def RL : String := "DirtyTilesLaw"
abbrev cL_cell : ByteArray := method_2_code
def yL_cell : MethodName := ⟨RL, "cell", "([II)I"⟩
abbrev cL_low : ByteArray := method_3_code
def yL_low : MethodName := ⟨RL, "low", "(II)I"⟩
abbrev cL_fill : ByteArray := method_4_code
def yL_fill : MethodName := ⟨RL, "fill", "(LDirtyTiles;IIIII)I"⟩
abbrev cL_copy : ByteArray := method_5_code
def yL_copy : MethodName := ⟨RL, "copy", "(LDirtyTiles;IIIIII)I"⟩
abbrev cL_join : ByteArray := method_6_code
def yL_join : MethodName := ⟨RL, "join", "(LDirtyTiles;I)I"⟩
abbrev cL_ask : ByteArray := method_7_code
def yL_ask : MethodName := ⟨RL, "ask", "(LDirtyTiles;II)I"⟩
abbrev cL_answer : ByteArray := method_8_code
def yL_answer : MethodName := ⟨RL, "answer", "(LDirtyTiles;I)I"⟩
abbrev cL_unlike : ByteArray := method_9_code
def yL_unlike : MethodName := ⟨RL, "unlike", "(LDirtyTiles;I)I"⟩
abbrev cL_act : ByteArray := method_10_code
def yL_act : MethodName := ⟨RL, "act", "(LDirtyTiles;I)I"⟩
abbrev cL_areAlike : ByteArray := method_11_code
def yL_areAlike : MethodName := ⟨RL, "areAlike", "(LDirtyTiles;LDirtyTiles;)Z"⟩
abbrev cL_areTilesSo : ByteArray := method_12_code
def yL_areTilesSo : MethodName := ⟨RL, "areTilesSo", "(LDirtyTiles;I)Z"⟩
abbrev cL_isShownSo : ByteArray := method_13_code
def yL_isShownSo : MethodName := ⟨RL, "isShownSo", "(LDirtyTiles;I)Z"⟩
abbrev cL_law : ByteArray := code
def yL_law : MethodName := ⟨RL, "law", "([I)Z"⟩
def wsX0_init : List Cond := .code yX0_init cX0_init 1 none :: ([.methodLink RX0 3 objectInit, .instanceMethod objectInit, .code objectInit ⟨#[0xb1]⟩ 1 none, .arrayClass .long, .fieldLink RX0 9 "DirtyTiles$Cache" "tiles" "[J", .fieldLink RX0 15 "DirtyTiles$Cache" "count" "I"] ++ wsX00)
def wsX0_size : List Cond := .code yX0_size cX0_size 1 (some .int) :: ([.fieldLink RX0 15 "DirtyTiles$Cache" "count" "I"] ++ wsX00)
def wsX0_clear : List Cond := .code yX0_clear cX0_clear 1 none :: ([.fieldLink RX0 15 "DirtyTiles$Cache" "count" "I"] ++ wsX00)
def wsX0_placeOf : List Cond := .code yX0_placeOf cX0_placeOf 4 (some .int) :: ([.fieldLink RX0 15 "DirtyTiles$Cache" "count" "I", .fieldLink RX0 9 "DirtyTiles$Cache" "tiles" "[J"] ++ wsX00)
def wsX0_holds : List Cond := .code yX0_holds cX0_holds 3 (some .boolean) :: ([.fieldLink RX0 15 "DirtyTiles$Cache" "count" "I", .methodLink RX0 19 yX0_placeOf, .instanceMethod yX0_placeOf, .selects RX0 yX0_placeOf yX0_placeOf, .initialized RX0, .code yX0_placeOf cX0_placeOf 4 (some .int), .fieldLink RX0 9 "DirtyTiles$Cache" "tiles" "[J"] ++ wsX00)
def wsX0_bringToFront : List Cond := .code yX0_bringToFront cX0_bringToFront 5 none :: ([.fieldLink RX0 15 "DirtyTiles$Cache" "count" "I", .methodLink RX0 23 Lib.Math.min.name, .static Lib.Math.min.name, .initialized "java/lang/Math", .code Lib.Math.min.name Lib.Math.min.code 2 (some .int), .fieldLink RX0 9 "DirtyTiles$Cache" "tiles" "[J", .methodLink RX0 19 yX0_placeOf, .instanceMethod yX0_placeOf, .selects RX0 yX0_placeOf yX0_placeOf, .initialized RX0, .code yX0_placeOf cX0_placeOf 4 (some .int)] ++ wsX00)
def wsX0_hasSameTilesAs : List Cond := .code yX0_hasSameTilesAs cX0_hasSameTilesAs 3 (some .boolean) :: ([.fieldLink RX0 15 "DirtyTiles$Cache" "count" "I", .fieldLink RX0 9 "DirtyTiles$Cache" "tiles" "[J"] ++ wsX00)
def wsX2_init : List Cond := .code yX2_init cX2_init 1 none :: ([.methodLink RX2 3 objectInit, .instanceMethod objectInit, .code objectInit ⟨#[0xb1]⟩ 1 none, .arrayClass .long, .fieldLink RX2 9 "DirtyTiles$Screen" "tiles" "[J"] ++ wsX20)
def wsX1_init_r1 : List Cond := [Cond.methodLink RX1 3 objectInit, Cond.instanceMethod objectInit, Cond.code objectInit ⟨#[0xb1]⟩ 1 none, Cond.fieldLink RX1 9 "DirtyTiles$Client" "joined" "Z", Cond.classLink RX1 15 RX2, Cond.instantiable RX2 1, Cond.initialized RX2, Cond.fieldLink RX1 18 "DirtyTiles$Client" "ownScreen" "LDirtyTiles$Screen;", Cond.classLink RX1 22 RX0, Cond.instantiable RX0 2, Cond.initialized RX0, Cond.fieldLink RX1 25 "DirtyTiles$Client" "ownCache" "LDirtyTiles$Cache;", Cond.fieldLink RX1 29 "DirtyTiles$Client" "serverCache" "LDirtyTiles$Cache;", Cond.arrayClass .int, Cond.fieldLink RX1 32 "DirtyTiles$Client" "dirtyTiles" "[I", Cond.fieldLink RX1 36 "DirtyTiles$Client" "dirtyCount" "I", Cond.fieldLink RX1 40 "DirtyTiles$Client" "messageTiles" "[I", Cond.arrayClass .long, Cond.fieldLink RX1 43 "DirtyTiles$Client" "messageCells" "[J", Cond.fieldLink RX1 47 "DirtyTiles$Client" "messageCount" "I", Cond.instanceMethod yX2_init, Cond.code yX2_init cX2_init 1 none, Cond.methodLink RX2 3 objectInit, Cond.fieldLink RX2 9 "DirtyTiles$Screen" "tiles" "[J"]
def wsX1_init_r2 : List Cond := [Cond.instanceMethod yX0_init, Cond.code yX0_init cX0_init 1 none, Cond.methodLink RX0 3 objectInit, Cond.fieldLink RX0 9 "DirtyTiles$Cache" "tiles" "[J", Cond.fieldLink RX0 15 "DirtyTiles$Cache" "count" "I"]
def wsX1_init : List Cond := .code yX1_init cX1_init 1 none :: ((wsX1_init_r1 ++ wsX1_init_r2) ++ wsX10 ++ wsX20 ++ wsX00)
def wsX1_hasJoined : List Cond := .code yX1_hasJoined cX1_hasJoined 1 (some .boolean) :: ([.fieldLink RX1 9 "DirtyTiles$Client" "joined" "Z"] ++ wsX10)
def wsX1_ownScreen : List Cond := .code yX1_ownScreen cX1_ownScreen 1 (some (.object "DirtyTiles$Screen")) :: ([.fieldLink RX1 18 "DirtyTiles$Client" "ownScreen" "LDirtyTiles$Screen;"] ++ wsX10)
def wsX1_ownCache : List Cond := .code yX1_ownCache cX1_ownCache 1 (some (.object "DirtyTiles$Cache")) :: ([.fieldLink RX1 25 "DirtyTiles$Client" "ownCache" "LDirtyTiles$Cache;"] ++ wsX10)
def wsX1_serverCache : List Cond := .code yX1_serverCache cX1_serverCache 1 (some (.object "DirtyTiles$Cache")) :: ([.fieldLink RX1 29 "DirtyTiles$Client" "serverCache" "LDirtyTiles$Cache;"] ++ wsX10)
def wsX1_dirtyCount : List Cond := .code yX1_dirtyCount cX1_dirtyCount 1 (some .int) :: ([.fieldLink RX1 36 "DirtyTiles$Client" "dirtyCount" "I"] ++ wsX10)
def wsX1_dirtyTileAt : List Cond := .code yX1_dirtyTileAt cX1_dirtyTileAt 2 (some .int) :: ([.fieldLink RX1 32 "DirtyTiles$Client" "dirtyTiles" "[I"] ++ wsX10)
def wsX1_messageCount : List Cond := .code yX1_messageCount cX1_messageCount 1 (some .int) :: ([.fieldLink RX1 47 "DirtyTiles$Client" "messageCount" "I"] ++ wsX10)
def wsX1_hasMessage : List Cond := .code yX1_hasMessage cX1_hasMessage 1 (some .boolean) :: ([.fieldLink RX1 47 "DirtyTiles$Client" "messageCount" "I"] ++ wsX10)
def wsX2_clear : List Cond := .code yX2_clear cX2_clear 2 none :: ([.fieldLink RX2 9 "DirtyTiles$Screen" "tiles" "[J"] ++ wsX20)
def wsX1_beginAnew : List Cond := .code yX1_beginAnew cX1_beginAnew 2 none :: ([.fieldLink RX1 9 "DirtyTiles$Client" "joined" "Z", .fieldLink RX1 18 "DirtyTiles$Client" "ownScreen" "LDirtyTiles$Screen;", .fieldLink RX1 25 "DirtyTiles$Client" "ownCache" "LDirtyTiles$Cache;", .fieldLink RX1 29 "DirtyTiles$Client" "serverCache" "LDirtyTiles$Cache;", .fieldLink RX1 47 "DirtyTiles$Client" "messageCount" "I", .fieldLink RX1 32 "DirtyTiles$Client" "dirtyTiles" "[I", .fieldLink RX1 36 "DirtyTiles$Client" "dirtyCount" "I", .methodLink RX1 50 yX2_clear, .instanceMethod yX2_clear, .selects RX2 yX2_clear yX2_clear, .initialized RX2, .code yX2_clear cX2_clear 2 none, .fieldLink RX2 9 "DirtyTiles$Screen" "tiles" "[J", .methodLink RX1 53 yX0_clear, .instanceMethod yX0_clear, .selects RX0 yX0_clear yX0_clear, .initialized RX0, .code yX0_clear cX0_clear 1 none, .fieldLink RX0 15 "DirtyTiles$Cache" "count" "I"] ++ wsX10 ++ wsX20 ++ wsX00)
def wsX1_makeDirty : List Cond := .code yX1_makeDirty cX1_makeDirty 3 none :: ([.fieldLink RX1 36 "DirtyTiles$Client" "dirtyCount" "I", .fieldLink RX1 32 "DirtyTiles$Client" "dirtyTiles" "[I"] ++ wsX10)
def wsX1_addToMessage : List Cond := .code yX1_addToMessage cX1_addToMessage 4 none :: ([.fieldLink RX1 47 "DirtyTiles$Client" "messageCount" "I", .fieldLink RX1 40 "DirtyTiles$Client" "messageTiles" "[I", .fieldLink RX1 43 "DirtyTiles$Client" "messageCells" "[J", .fieldLink RX1 29 "DirtyTiles$Client" "serverCache" "LDirtyTiles$Cache;", .methodLink RX1 54 yX0_bringToFront, .instanceMethod yX0_bringToFront, .selects RX0 yX0_bringToFront yX0_bringToFront, .initialized RX0, .code yX0_bringToFront cX0_bringToFront 5 none, .fieldLink RX0 15 "DirtyTiles$Cache" "count" "I", .methodLink RX0 23 Lib.Math.min.name, .static Lib.Math.min.name, .initialized "java/lang/Math", .code Lib.Math.min.name Lib.Math.min.code 2 (some .int), .fieldLink RX0 9 "DirtyTiles$Cache" "tiles" "[J", .methodLink RX0 19 yX0_placeOf, .instanceMethod yX0_placeOf, .selects RX0 yX0_placeOf yX0_placeOf, .code yX0_placeOf cX0_placeOf 4 (some .int)] ++ wsX10 ++ wsX00)
def wsX1_cleanTilesOfMessage : List Cond := .code yX1_cleanTilesOfMessage cX1_cleanTilesOfMessage 2 none :: ([.fieldLink RX1 47 "DirtyTiles$Client" "messageCount" "I", .fieldLink RX1 36 "DirtyTiles$Client" "dirtyCount" "I", .fieldLink RX1 32 "DirtyTiles$Client" "dirtyTiles" "[I"] ++ wsX10)
def wsX2_replaceTile : List Cond := .code yX2_replaceTile cX2_replaceTile 4 none :: ([.fieldLink RX2 9 "DirtyTiles$Screen" "tiles" "[J"] ++ wsX20)
def wsX1_takeMessage_r1 : List Cond := [Cond.fieldLink RX1 47 "DirtyTiles$Client" "messageCount" "I", Cond.fieldLink RX1 18 "DirtyTiles$Client" "ownScreen" "LDirtyTiles$Screen;", Cond.fieldLink RX1 40 "DirtyTiles$Client" "messageTiles" "[I", Cond.fieldLink RX1 43 "DirtyTiles$Client" "messageCells" "[J", Cond.fieldLink RX1 25 "DirtyTiles$Client" "ownCache" "LDirtyTiles$Cache;", Cond.methodLink RX1 58 yX2_replaceTile, Cond.instanceMethod yX2_replaceTile, Cond.selects RX2 yX2_replaceTile yX2_replaceTile, Cond.initialized RX2, Cond.code yX2_replaceTile cX2_replaceTile 4 none, Cond.fieldLink RX2 9 "DirtyTiles$Screen" "tiles" "[J", Cond.methodLink RX1 54 yX0_bringToFront, Cond.instanceMethod yX0_bringToFront, Cond.selects RX0 yX0_bringToFront yX0_bringToFront, Cond.initialized RX0, Cond.code yX0_bringToFront cX0_bringToFront 5 none, Cond.fieldLink RX0 15 "DirtyTiles$Cache" "count" "I", Cond.methodLink RX0 23 Lib.Math.min.name, Cond.static Lib.Math.min.name, Cond.initialized "java/lang/Math", Cond.code Lib.Math.min.name Lib.Math.min.code 2 (some .int), Cond.fieldLink RX0 9 "DirtyTiles$Cache" "tiles" "[J", Cond.methodLink RX0 19 yX0_placeOf, Cond.instanceMethod yX0_placeOf]
def wsX1_takeMessage_r2 : List Cond := [Cond.selects RX0 yX0_placeOf yX0_placeOf, Cond.code yX0_placeOf cX0_placeOf 4 (some .int)]
def wsX1_takeMessage : List Cond := .code yX1_takeMessage cX1_takeMessage 3 (some .int) :: ((wsX1_takeMessage_r1 ++ wsX1_takeMessage_r2) ++ wsX10 ++ wsX20 ++ wsX00)
def wsX2_cellsOf : List Cond := .code yX2_cellsOf cX2_cellsOf 2 (some .long) :: ([.fieldLink RX2 9 "DirtyTiles$Screen" "tiles" "[J"] ++ wsX20)
def wsX2_tileOf : List Cond := .code yX2_tileOf cX2_tileOf 2 (some .int) :: ([])
def wsX2_placeInTile : List Cond := .code yX2_placeInTile cX2_placeInTile 2 (some .int) :: ([])
def wsX3_cellAt : List Cond := .code yX3_cellAt cX3_cellAt 3 (some .int) :: ([.constantLong RX3 180 (15)])
def wsX2_colourAt : List Cond := .code yX2_colourAt cX2_colourAt 3 (some .int) :: ([.fieldLink RX2 9 "DirtyTiles$Screen" "tiles" "[J", .methodLink RX2 15 yX2_tileOf, .static yX2_tileOf, .initialized RX2, .code yX2_tileOf cX2_tileOf 2 (some .int), .methodLink RX2 19 yX2_placeInTile, .static yX2_placeInTile, .code yX2_placeInTile cX2_placeInTile 2 (some .int), .static yX3_cellAt, .initialized RX3, .code yX3_cellAt cX3_cellAt 3 (some .int), .constantLong RX3 180 (15)] ++ wsX20)
def wsX2_paint : List Cond := .code yX2_paint cX2_paint 6 none :: ([.fieldLink RX2 9 "DirtyTiles$Screen" "tiles" "[J", .constantLong RX2 26 (15), .constantLong RX2 28 (-1), .methodLink RX2 15 yX2_tileOf, .static yX2_tileOf, .initialized RX2, .code yX2_tileOf cX2_tileOf 2 (some .int), .methodLink RX2 19 yX2_placeInTile, .static yX2_placeInTile, .code yX2_placeInTile cX2_placeInTile 2 (some .int)] ++ wsX20)
def wsX2_become : List Cond := .code yX2_become cX2_become 3 none :: ([.fieldLink RX2 9 "DirtyTiles$Screen" "tiles" "[J"] ++ wsX20)
def wsX3_init_r1 : List Cond := [Cond.methodLink RX3 1 objectInit, Cond.instanceMethod objectInit, Cond.code objectInit ⟨#[0xb1]⟩ 1 none, Cond.classLink RX3 7 RX2, Cond.instantiable RX2 1, Cond.initialized RX2, Cond.fieldLink RX3 10 "DirtyTiles" "screen" "LDirtyTiles$Screen;", Cond.fieldLink RX3 16 "DirtyTiles" "screenBefore" "LDirtyTiles$Screen;", Cond.classLink RX3 19 RX1, Cond.fieldLink RX3 21 "DirtyTiles" "clients" "[LDirtyTiles$Client;", Cond.arrayClass .int, Cond.fieldLink RX3 25 "DirtyTiles" "tilesWritten" "[I", Cond.fieldLink RX3 29 "DirtyTiles" "unitsWritten" "I", Cond.instantiable RX1 9, Cond.initialized RX1, Cond.instanceMethod yX2_init, Cond.code yX2_init cX2_init 1 none, Cond.methodLink RX2 3 objectInit, Cond.arrayClass .long, Cond.fieldLink RX2 9 "DirtyTiles$Screen" "tiles" "[J", Cond.instanceMethod yX1_init, Cond.code yX1_init cX1_init 1 none, Cond.methodLink RX1 3 objectInit, Cond.fieldLink RX1 9 "DirtyTiles$Client" "joined" "Z"]
def wsX3_init_r2 : List Cond := [Cond.classLink RX1 15 RX2, Cond.fieldLink RX1 18 "DirtyTiles$Client" "ownScreen" "LDirtyTiles$Screen;", Cond.classLink RX1 22 RX0, Cond.instantiable RX0 2, Cond.initialized RX0, Cond.fieldLink RX1 25 "DirtyTiles$Client" "ownCache" "LDirtyTiles$Cache;", Cond.fieldLink RX1 29 "DirtyTiles$Client" "serverCache" "LDirtyTiles$Cache;", Cond.fieldLink RX1 32 "DirtyTiles$Client" "dirtyTiles" "[I", Cond.fieldLink RX1 36 "DirtyTiles$Client" "dirtyCount" "I", Cond.fieldLink RX1 40 "DirtyTiles$Client" "messageTiles" "[I", Cond.fieldLink RX1 43 "DirtyTiles$Client" "messageCells" "[J", Cond.fieldLink RX1 47 "DirtyTiles$Client" "messageCount" "I", Cond.instanceMethod yX0_init, Cond.code yX0_init cX0_init 1 none, Cond.methodLink RX0 3 objectInit, Cond.fieldLink RX0 9 "DirtyTiles$Cache" "tiles" "[J", Cond.fieldLink RX0 15 "DirtyTiles$Cache" "count" "I"]
def wsX3_init : List Cond := .code yX3_init cX3_init 2 none :: ((wsX3_init_r1 ++ wsX3_init_r2) ++ wsX20 ++ wsX30 ++ wsX10 ++ wsX00)
def wsX3_isIndex : List Cond := .code yX3_isIndex cX3_isIndex 2 (some .boolean) :: ([])
def wsX3_isCell : List Cond := .code yX3_isCell cX3_isCell 2 (some .boolean) :: ([.methodLink RX3 42 yX3_isIndex, .static yX3_isIndex, .initialized RX3, .code yX3_isIndex cX3_isIndex 2 (some .boolean)])
def wsX3_isBetween : List Cond := .code yX3_isBetween cX3_isBetween 3 (some .boolean) :: ([])
def wsX3_isBox : List Cond := .code yX3_isBox cX3_isBox 4 (some .boolean) :: ([.methodLink RX3 62 yX3_isCell, .static yX3_isCell, .initialized RX3, .code yX3_isCell cX3_isCell 2 (some .boolean), .methodLink RX3 42 yX3_isIndex, .static yX3_isIndex, .code yX3_isIndex cX3_isIndex 2 (some .boolean), .methodLink RX3 58 yX3_isBetween, .static yX3_isBetween, .code yX3_isBetween cX3_isBetween 3 (some .boolean)])
def wsX3_requireArgument : List Cond := .code yX3_requireArgument cX3_requireArgument 1 none :: ([.classLink RX3 145 "java/lang/IllegalArgumentException", .initialized "java/lang/IllegalArgumentException"] ++ (vx_atS RX3 149 "java/lang/IllegalArgumentException" ["java/lang/RuntimeException", "java/lang/Exception"]).filter goodWord)
def wsX3_countDifferent : List Cond := .code yX3_countDifferent cX3_countDifferent 6 (some .int) :: ([.methodLink RX3 182 yX3_cellAt, .static yX3_cellAt, .initialized RX3, .code yX3_cellAt cX3_cellAt 3 (some .int), .constantLong RX3 180 (15)])
def wsX3_makeDirtyForAll : List Cond := .code yX3_makeDirtyForAll cX3_makeDirtyForAll 3 none :: ([.fieldLink RX3 21 "DirtyTiles" "clients" "[LDirtyTiles$Client;", .methodLink RX3 80 yX1_hasJoined, .instanceMethod yX1_hasJoined, .selects RX1 yX1_hasJoined yX1_hasJoined, .initialized RX1, .code yX1_hasJoined cX1_hasJoined 1 (some .boolean), .fieldLink RX1 9 "DirtyTiles$Client" "joined" "Z", .methodLink RX3 159 yX1_makeDirty, .instanceMethod yX1_makeDirty, .selects RX1 yX1_makeDirty yX1_makeDirty, .code yX1_makeDirty cX1_makeDirty 3 none, .fieldLink RX1 36 "DirtyTiles$Client" "dirtyCount" "I", .fieldLink RX1 32 "DirtyTiles$Client" "dirtyTiles" "[I"] ++ wsX30 ++ wsX10)
def wsX3_noteChanges_r1 : List Cond := [Cond.fieldLink RX3 16 "DirtyTiles" "screenBefore" "LDirtyTiles$Screen;", Cond.fieldLink RX3 10 "DirtyTiles" "screen" "LDirtyTiles$Screen;", Cond.methodLink RX3 69 yX2_cellsOf, Cond.instanceMethod yX2_cellsOf, Cond.selects RX2 yX2_cellsOf yX2_cellsOf, Cond.initialized RX2, Cond.code yX2_cellsOf cX2_cellsOf 2 (some .long), Cond.fieldLink RX2 9 "DirtyTiles$Screen" "tiles" "[J", Cond.methodLink RX3 118 yX3_countDifferent, Cond.static yX3_countDifferent, Cond.initialized RX3, Cond.code yX3_countDifferent cX3_countDifferent 6 (some .int), Cond.methodLink RX3 182 yX3_cellAt, Cond.static yX3_cellAt, Cond.code yX3_cellAt cX3_cellAt 3 (some .int), Cond.constantLong RX3 180 (15), Cond.methodLink RX3 155 yX3_makeDirtyForAll, Cond.instanceMethod yX3_makeDirtyForAll, Cond.selects RX3 yX3_makeDirtyForAll yX3_makeDirtyForAll, Cond.code yX3_makeDirtyForAll cX3_makeDirtyForAll 3 none, Cond.fieldLink RX3 21 "DirtyTiles" "clients" "[LDirtyTiles$Client;", Cond.methodLink RX3 80 yX1_hasJoined, Cond.instanceMethod yX1_hasJoined, Cond.selects RX1 yX1_hasJoined yX1_hasJoined]
def wsX3_noteChanges_r2 : List Cond := [Cond.initialized RX1, Cond.code yX1_hasJoined cX1_hasJoined 1 (some .boolean), Cond.fieldLink RX1 9 "DirtyTiles$Client" "joined" "Z", Cond.methodLink RX3 159 yX1_makeDirty, Cond.instanceMethod yX1_makeDirty, Cond.selects RX1 yX1_makeDirty yX1_makeDirty, Cond.code yX1_makeDirty cX1_makeDirty 3 none, Cond.fieldLink RX1 36 "DirtyTiles$Client" "dirtyCount" "I", Cond.fieldLink RX1 32 "DirtyTiles$Client" "dirtyTiles" "[I"]
def wsX3_noteChanges : List Cond := .code yX3_noteChanges cX3_noteChanges 4 (some .int) :: ((wsX3_noteChanges_r1 ++ wsX3_noteChanges_r2) ++ wsX30 ++ wsX20 ++ wsX10)
def wsX3_fill_r1 : List Cond := [Cond.fieldLink RX3 16 "DirtyTiles" "screenBefore" "LDirtyTiles$Screen;", Cond.fieldLink RX3 10 "DirtyTiles" "screen" "LDirtyTiles$Screen;", Cond.methodLink RX3 34 yX3_isBox, Cond.static yX3_isBox, Cond.initialized RX3, Cond.code yX3_isBox cX3_isBox 4 (some .boolean), Cond.methodLink RX3 62 yX3_isCell, Cond.static yX3_isCell, Cond.code yX3_isCell cX3_isCell 2 (some .boolean), Cond.methodLink RX3 42 yX3_isIndex, Cond.static yX3_isIndex, Cond.code yX3_isIndex cX3_isIndex 2 (some .boolean), Cond.methodLink RX3 58 yX3_isBetween, Cond.static yX3_isBetween, Cond.code yX3_isBetween cX3_isBetween 3 (some .boolean), Cond.methodLink RX3 38 yX3_requireArgument, Cond.static yX3_requireArgument, Cond.code yX3_requireArgument cX3_requireArgument 1 none, Cond.classLink RX3 145 "java/lang/IllegalArgumentException", Cond.initialized "java/lang/IllegalArgumentException", Cond.methodLink RX3 46 yX2_become, Cond.instanceMethod yX2_become, Cond.selects RX2 yX2_become yX2_become, Cond.initialized RX2]
def wsX3_fill_r2 : List Cond := [Cond.code yX2_become cX2_become 3 none, Cond.fieldLink RX2 9 "DirtyTiles$Screen" "tiles" "[J", Cond.methodLink RX3 50 yX2_paint, Cond.instanceMethod yX2_paint, Cond.selects RX2 yX2_paint yX2_paint, Cond.code yX2_paint cX2_paint 6 none, Cond.constantLong RX2 26 (15), Cond.constantLong RX2 28 (-1), Cond.methodLink RX2 15 yX2_tileOf, Cond.static yX2_tileOf, Cond.code yX2_tileOf cX2_tileOf 2 (some .int), Cond.methodLink RX2 19 yX2_placeInTile, Cond.static yX2_placeInTile, Cond.code yX2_placeInTile cX2_placeInTile 2 (some .int), Cond.methodLink RX3 54 yX3_noteChanges, Cond.instanceMethod yX3_noteChanges, Cond.selects RX3 yX3_noteChanges yX3_noteChanges, Cond.code yX3_noteChanges cX3_noteChanges 4 (some .int), Cond.methodLink RX3 69 yX2_cellsOf, Cond.instanceMethod yX2_cellsOf, Cond.selects RX2 yX2_cellsOf yX2_cellsOf, Cond.code yX2_cellsOf cX2_cellsOf 2 (some .long), Cond.methodLink RX3 118 yX3_countDifferent, Cond.static yX3_countDifferent]
def wsX3_fill_r3 : List Cond := [Cond.code yX3_countDifferent cX3_countDifferent 6 (some .int), Cond.methodLink RX3 182 yX3_cellAt, Cond.static yX3_cellAt, Cond.code yX3_cellAt cX3_cellAt 3 (some .int), Cond.constantLong RX3 180 (15), Cond.methodLink RX3 155 yX3_makeDirtyForAll, Cond.instanceMethod yX3_makeDirtyForAll, Cond.selects RX3 yX3_makeDirtyForAll yX3_makeDirtyForAll, Cond.code yX3_makeDirtyForAll cX3_makeDirtyForAll 3 none, Cond.fieldLink RX3 21 "DirtyTiles" "clients" "[LDirtyTiles$Client;", Cond.methodLink RX3 80 yX1_hasJoined, Cond.instanceMethod yX1_hasJoined, Cond.selects RX1 yX1_hasJoined yX1_hasJoined, Cond.initialized RX1, Cond.code yX1_hasJoined cX1_hasJoined 1 (some .boolean), Cond.fieldLink RX1 9 "DirtyTiles$Client" "joined" "Z", Cond.methodLink RX3 159 yX1_makeDirty, Cond.instanceMethod yX1_makeDirty, Cond.selects RX1 yX1_makeDirty yX1_makeDirty, Cond.code yX1_makeDirty cX1_makeDirty 3 none, Cond.fieldLink RX1 36 "DirtyTiles$Client" "dirtyCount" "I", Cond.fieldLink RX1 32 "DirtyTiles$Client" "dirtyTiles" "[I"]
def wsX3_fill : List Cond := .code yX3_fill cX3_fill 8 (some .int) :: ((wsX3_fill_r1 ++ (wsX3_fill_r2 ++ wsX3_fill_r3)) ++ wsX30 ++ wsX20 ++ wsX10 ++ (vx_atS RX3 149 "java/lang/IllegalArgumentException" ["java/lang/RuntimeException", "java/lang/Exception"]).filter goodWord)
def wsX3_copy_r1 : List Cond := [Cond.fieldLink RX3 16 "DirtyTiles" "screenBefore" "LDirtyTiles$Screen;", Cond.fieldLink RX3 10 "DirtyTiles" "screen" "LDirtyTiles$Screen;", Cond.methodLink RX3 34 yX3_isBox, Cond.static yX3_isBox, Cond.initialized RX3, Cond.code yX3_isBox cX3_isBox 4 (some .boolean), Cond.methodLink RX3 62 yX3_isCell, Cond.static yX3_isCell, Cond.code yX3_isCell cX3_isCell 2 (some .boolean), Cond.methodLink RX3 42 yX3_isIndex, Cond.static yX3_isIndex, Cond.code yX3_isIndex cX3_isIndex 2 (some .boolean), Cond.methodLink RX3 58 yX3_isBetween, Cond.static yX3_isBetween, Cond.code yX3_isBetween cX3_isBetween 3 (some .boolean), Cond.methodLink RX3 38 yX3_requireArgument, Cond.static yX3_requireArgument, Cond.code yX3_requireArgument cX3_requireArgument 1 none, Cond.classLink RX3 145 "java/lang/IllegalArgumentException", Cond.initialized "java/lang/IllegalArgumentException", Cond.methodLink RX3 46 yX2_become, Cond.instanceMethod yX2_become, Cond.selects RX2 yX2_become yX2_become, Cond.initialized RX2]
def wsX3_copy_r2 : List Cond := [Cond.code yX2_become cX2_become 3 none, Cond.fieldLink RX2 9 "DirtyTiles$Screen" "tiles" "[J", Cond.methodLink RX3 65 yX2_colourAt, Cond.instanceMethod yX2_colourAt, Cond.selects RX2 yX2_colourAt yX2_colourAt, Cond.code yX2_colourAt cX2_colourAt 3 (some .int), Cond.methodLink RX2 15 yX2_tileOf, Cond.static yX2_tileOf, Cond.code yX2_tileOf cX2_tileOf 2 (some .int), Cond.methodLink RX2 19 yX2_placeInTile, Cond.static yX2_placeInTile, Cond.code yX2_placeInTile cX2_placeInTile 2 (some .int), Cond.static yX3_cellAt, Cond.code yX3_cellAt cX3_cellAt 3 (some .int), Cond.constantLong RX3 180 (15), Cond.methodLink RX3 50 yX2_paint, Cond.instanceMethod yX2_paint, Cond.selects RX2 yX2_paint yX2_paint, Cond.code yX2_paint cX2_paint 6 none, Cond.constantLong RX2 26 (15), Cond.constantLong RX2 28 (-1), Cond.methodLink RX3 54 yX3_noteChanges, Cond.instanceMethod yX3_noteChanges, Cond.selects RX3 yX3_noteChanges yX3_noteChanges]
def wsX3_copy_r3 : List Cond := [Cond.code yX3_noteChanges cX3_noteChanges 4 (some .int), Cond.methodLink RX3 69 yX2_cellsOf, Cond.instanceMethod yX2_cellsOf, Cond.selects RX2 yX2_cellsOf yX2_cellsOf, Cond.code yX2_cellsOf cX2_cellsOf 2 (some .long), Cond.methodLink RX3 118 yX3_countDifferent, Cond.static yX3_countDifferent, Cond.code yX3_countDifferent cX3_countDifferent 6 (some .int), Cond.methodLink RX3 182 yX3_cellAt, Cond.methodLink RX3 155 yX3_makeDirtyForAll, Cond.instanceMethod yX3_makeDirtyForAll, Cond.selects RX3 yX3_makeDirtyForAll yX3_makeDirtyForAll, Cond.code yX3_makeDirtyForAll cX3_makeDirtyForAll 3 none, Cond.fieldLink RX3 21 "DirtyTiles" "clients" "[LDirtyTiles$Client;", Cond.methodLink RX3 80 yX1_hasJoined, Cond.instanceMethod yX1_hasJoined, Cond.selects RX1 yX1_hasJoined yX1_hasJoined, Cond.initialized RX1, Cond.code yX1_hasJoined cX1_hasJoined 1 (some .boolean), Cond.fieldLink RX1 9 "DirtyTiles$Client" "joined" "Z", Cond.methodLink RX3 159 yX1_makeDirty, Cond.instanceMethod yX1_makeDirty, Cond.selects RX1 yX1_makeDirty yX1_makeDirty, Cond.code yX1_makeDirty cX1_makeDirty 3 none]
def wsX3_copy_r4 : List Cond := [Cond.fieldLink RX1 36 "DirtyTiles$Client" "dirtyCount" "I", Cond.fieldLink RX1 32 "DirtyTiles$Client" "dirtyTiles" "[I"]
def wsX3_copy : List Cond := .code yX3_copy cX3_copy 9 (some .int) :: ((wsX3_copy_r1 ++ (wsX3_copy_r2 ++ (wsX3_copy_r3 ++ wsX3_copy_r4))) ++ wsX30 ++ wsX20 ++ wsX10 ++ (vx_atS RX3 149 "java/lang/IllegalArgumentException" ["java/lang/RuntimeException", "java/lang/Exception"]).filter goodWord)
def wsJ6_bitCount_0f7a4 : List Cond := .code yJ6_bitCount_0f7a4 cJ6_bitCount_0f7a4 1 (some .int) :: ([.constant RJ6 265 (1431655765), .constant RJ6 266 (858993459), .constant RJ6 267 (252645135)])
def wsX3_countColours : List Cond := .code yX3_countColours cX3_countColours 4 (some .int) :: ([.methodLink RX3 182 yX3_cellAt, .static yX3_cellAt, .initialized RX3, .code yX3_cellAt cX3_cellAt 3 (some .int), .constantLong RX3 180 (15), .methodLink RX3 186 yJ6_bitCount_0f7a4, .static yJ6_bitCount_0f7a4, .initialized RJ6, .code yJ6_bitCount_0f7a4 cJ6_bitCount_0f7a4 1 (some .int), .constant RJ6 265 (1431655765), .constant RJ6 266 (858993459), .constant RJ6 267 (252645135)])
def wsX3_colours_r1 : List Cond := [Cond.fieldLink RX3 10 "DirtyTiles" "screen" "LDirtyTiles$Screen;", Cond.methodLink RX3 42 yX3_isIndex, Cond.static yX3_isIndex, Cond.initialized RX3, Cond.code yX3_isIndex cX3_isIndex 2 (some .boolean), Cond.methodLink RX3 38 yX3_requireArgument, Cond.static yX3_requireArgument, Cond.code yX3_requireArgument cX3_requireArgument 1 none, Cond.classLink RX3 145 "java/lang/IllegalArgumentException", Cond.initialized "java/lang/IllegalArgumentException", Cond.methodLink RX3 69 yX2_cellsOf, Cond.instanceMethod yX2_cellsOf, Cond.selects RX2 yX2_cellsOf yX2_cellsOf, Cond.initialized RX2, Cond.code yX2_cellsOf cX2_cellsOf 2 (some .long), Cond.fieldLink RX2 9 "DirtyTiles$Screen" "tiles" "[J", Cond.methodLink RX3 73 yX3_countColours, Cond.static yX3_countColours, Cond.code yX3_countColours cX3_countColours 4 (some .int), Cond.methodLink RX3 182 yX3_cellAt, Cond.static yX3_cellAt, Cond.code yX3_cellAt cX3_cellAt 3 (some .int), Cond.constantLong RX3 180 (15), Cond.methodLink RX3 186 yJ6_bitCount_0f7a4]
def wsX3_colours_r2 : List Cond := [Cond.static yJ6_bitCount_0f7a4, Cond.initialized RJ6, Cond.code yJ6_bitCount_0f7a4 cJ6_bitCount_0f7a4 1 (some .int), Cond.constant RJ6 265 (1431655765), Cond.constant RJ6 266 (858993459), Cond.constant RJ6 267 (252645135)]
def wsX3_colours : List Cond := .code yX3_colours cX3_colours 2 (some .int) :: ((wsX3_colours_r1 ++ wsX3_colours_r2) ++ wsX30 ++ wsX20 ++ (vx_atS RX3 149 "java/lang/IllegalArgumentException" ["java/lang/RuntimeException", "java/lang/Exception"]).filter goodWord)
def wsX3_countRuns : List Cond := .code yX3_countRuns cX3_countRuns 4 (some .int) :: ([.methodLink RX3 182 yX3_cellAt, .static yX3_cellAt, .initialized RX3, .code yX3_cellAt cX3_cellAt 3 (some .int), .constantLong RX3 180 (15)])
def wsX3_runs : List Cond := .code yX3_runs cX3_runs 2 (some .int) :: ([.fieldLink RX3 10 "DirtyTiles" "screen" "LDirtyTiles$Screen;", .methodLink RX3 42 yX3_isIndex, .static yX3_isIndex, .initialized RX3, .code yX3_isIndex cX3_isIndex 2 (some .boolean), .methodLink RX3 38 yX3_requireArgument, .static yX3_requireArgument, .code yX3_requireArgument cX3_requireArgument 1 none, .classLink RX3 145 "java/lang/IllegalArgumentException", .initialized "java/lang/IllegalArgumentException", .methodLink RX3 69 yX2_cellsOf, .instanceMethod yX2_cellsOf, .selects RX2 yX2_cellsOf yX2_cellsOf, .initialized RX2, .code yX2_cellsOf cX2_cellsOf 2 (some .long), .fieldLink RX2 9 "DirtyTiles$Screen" "tiles" "[J", .methodLink RX3 77 yX3_countRuns, .static yX3_countRuns, .code yX3_countRuns cX3_countRuns 4 (some .int), .methodLink RX3 182 yX3_cellAt, .static yX3_cellAt, .code yX3_cellAt cX3_cellAt 3 (some .int), .constantLong RX3 180 (15)] ++ wsX30 ++ wsX20 ++ (vx_atS RX3 149 "java/lang/IllegalArgumentException" ["java/lang/RuntimeException", "java/lang/Exception"]).filter goodWord)
def wsX3_requireState : List Cond := .code yX3_requireState cX3_requireState 1 none :: ([.classLink RX3 150 "java/lang/IllegalStateException", .initialized "java/lang/IllegalStateException"] ++ (vx_atS RX3 154 "java/lang/IllegalStateException" ["java/lang/RuntimeException", "java/lang/Exception"]).filter goodWord)
def wsX3_unitsByColours : List Cond := .code yX3_unitsByColours cX3_unitsByColours 1 (some .int) :: ([])
def wsX3_unitsIn_r1 : List Cond := [Cond.methodLink RX3 173 yX0_holds, Cond.instanceMethod yX0_holds, Cond.selects RX0 yX0_holds yX0_holds, Cond.initialized RX0, Cond.code yX0_holds cX0_holds 3 (some .boolean), Cond.fieldLink RX0 15 "DirtyTiles$Cache" "count" "I", Cond.methodLink RX0 19 yX0_placeOf, Cond.instanceMethod yX0_placeOf, Cond.selects RX0 yX0_placeOf yX0_placeOf, Cond.code yX0_placeOf cX0_placeOf 4 (some .int), Cond.fieldLink RX0 9 "DirtyTiles$Cache" "tiles" "[J", Cond.methodLink RX3 73 yX3_countColours, Cond.static yX3_countColours, Cond.initialized RX3, Cond.code yX3_countColours cX3_countColours 4 (some .int), Cond.methodLink RX3 182 yX3_cellAt, Cond.static yX3_cellAt, Cond.code yX3_cellAt cX3_cellAt 3 (some .int), Cond.constantLong RX3 180 (15), Cond.methodLink RX3 186 yJ6_bitCount_0f7a4, Cond.static yJ6_bitCount_0f7a4, Cond.initialized RJ6, Cond.code yJ6_bitCount_0f7a4 cJ6_bitCount_0f7a4 1 (some .int), Cond.constant RJ6 265 (1431655765)]
def wsX3_unitsIn_r2 : List Cond := [Cond.constant RJ6 266 (858993459), Cond.constant RJ6 267 (252645135), Cond.methodLink RX3 177 yX3_unitsByColours, Cond.static yX3_unitsByColours, Cond.code yX3_unitsByColours cX3_unitsByColours 1 (some .int), Cond.methodLink RX3 77 yX3_countRuns, Cond.static yX3_countRuns, Cond.code yX3_countRuns cX3_countRuns 4 (some .int)]
def wsX3_unitsIn : List Cond := .code yX3_unitsIn cX3_unitsIn 4 (some .int) :: ((wsX3_unitsIn_r1 ++ wsX3_unitsIn_r2) ++ wsX00)
def wsX3_cheapestWriting_r1 : List Cond := [Cond.methodLink RX3 169 yX3_unitsIn, Cond.static yX3_unitsIn, Cond.initialized RX3, Cond.code yX3_unitsIn cX3_unitsIn 4 (some .int), Cond.methodLink RX3 173 yX0_holds, Cond.instanceMethod yX0_holds, Cond.selects RX0 yX0_holds yX0_holds, Cond.initialized RX0, Cond.code yX0_holds cX0_holds 3 (some .boolean), Cond.fieldLink RX0 15 "DirtyTiles$Cache" "count" "I", Cond.methodLink RX0 19 yX0_placeOf, Cond.instanceMethod yX0_placeOf, Cond.selects RX0 yX0_placeOf yX0_placeOf, Cond.code yX0_placeOf cX0_placeOf 4 (some .int), Cond.fieldLink RX0 9 "DirtyTiles$Cache" "tiles" "[J", Cond.methodLink RX3 73 yX3_countColours, Cond.static yX3_countColours, Cond.code yX3_countColours cX3_countColours 4 (some .int), Cond.methodLink RX3 182 yX3_cellAt, Cond.static yX3_cellAt, Cond.code yX3_cellAt cX3_cellAt 3 (some .int), Cond.constantLong RX3 180 (15), Cond.methodLink RX3 186 yJ6_bitCount_0f7a4, Cond.static yJ6_bitCount_0f7a4]
def wsX3_cheapestWriting_r2 : List Cond := [Cond.initialized RJ6, Cond.code yJ6_bitCount_0f7a4 cJ6_bitCount_0f7a4 1 (some .int), Cond.constant RJ6 265 (1431655765), Cond.constant RJ6 266 (858993459), Cond.constant RJ6 267 (252645135), Cond.methodLink RX3 177 yX3_unitsByColours, Cond.static yX3_unitsByColours, Cond.code yX3_unitsByColours cX3_unitsByColours 1 (some .int), Cond.methodLink RX3 77 yX3_countRuns, Cond.static yX3_countRuns, Cond.code yX3_countRuns cX3_countRuns 4 (some .int)]
def wsX3_cheapestWriting : List Cond := .code yX3_cheapestWriting cX3_cheapestWriting 7 (some .int) :: ((wsX3_cheapestWriting_r1 ++ wsX3_cheapestWriting_r2) ++ wsX00)
def wsX3_way_r1 : List Cond := [Cond.fieldLink RX3 21 "DirtyTiles" "clients" "[LDirtyTiles$Client;", Cond.fieldLink RX3 10 "DirtyTiles" "screen" "LDirtyTiles$Screen;", Cond.methodLink RX3 42 yX3_isIndex, Cond.static yX3_isIndex, Cond.initialized RX3, Cond.code yX3_isIndex cX3_isIndex 2 (some .boolean), Cond.methodLink RX3 38 yX3_requireArgument, Cond.static yX3_requireArgument, Cond.code yX3_requireArgument cX3_requireArgument 1 none, Cond.classLink RX3 145 "java/lang/IllegalArgumentException", Cond.initialized "java/lang/IllegalArgumentException", Cond.methodLink RX3 80 yX1_hasJoined, Cond.instanceMethod yX1_hasJoined, Cond.selects RX1 yX1_hasJoined yX1_hasJoined, Cond.initialized RX1, Cond.code yX1_hasJoined cX1_hasJoined 1 (some .boolean), Cond.fieldLink RX1 9 "DirtyTiles$Client" "joined" "Z", Cond.methodLink RX3 84 yX3_requireState, Cond.static yX3_requireState, Cond.code yX3_requireState cX3_requireState 1 none, Cond.classLink RX3 150 "java/lang/IllegalStateException", Cond.initialized "java/lang/IllegalStateException", Cond.methodLink RX3 69 yX2_cellsOf, Cond.instanceMethod yX2_cellsOf]
def wsX3_way_r2 : List Cond := [Cond.selects RX2 yX2_cellsOf yX2_cellsOf, Cond.initialized RX2, Cond.code yX2_cellsOf cX2_cellsOf 2 (some .long), Cond.fieldLink RX2 9 "DirtyTiles$Screen" "tiles" "[J", Cond.methodLink RX3 87 yX1_serverCache, Cond.instanceMethod yX1_serverCache, Cond.selects RX1 yX1_serverCache yX1_serverCache, Cond.code yX1_serverCache cX1_serverCache 1 (some (.object "DirtyTiles$Cache")), Cond.fieldLink RX1 29 "DirtyTiles$Client" "serverCache" "LDirtyTiles$Cache;", Cond.methodLink RX3 91 yX3_cheapestWriting, Cond.static yX3_cheapestWriting, Cond.code yX3_cheapestWriting cX3_cheapestWriting 7 (some .int), Cond.methodLink RX3 169 yX3_unitsIn, Cond.static yX3_unitsIn, Cond.code yX3_unitsIn cX3_unitsIn 4 (some .int), Cond.methodLink RX3 173 yX0_holds, Cond.instanceMethod yX0_holds, Cond.selects RX0 yX0_holds yX0_holds, Cond.initialized RX0, Cond.code yX0_holds cX0_holds 3 (some .boolean), Cond.fieldLink RX0 15 "DirtyTiles$Cache" "count" "I", Cond.methodLink RX0 19 yX0_placeOf, Cond.instanceMethod yX0_placeOf, Cond.selects RX0 yX0_placeOf yX0_placeOf]
def wsX3_way_r3 : List Cond := [Cond.code yX0_placeOf cX0_placeOf 4 (some .int), Cond.fieldLink RX0 9 "DirtyTiles$Cache" "tiles" "[J", Cond.methodLink RX3 73 yX3_countColours, Cond.static yX3_countColours, Cond.code yX3_countColours cX3_countColours 4 (some .int), Cond.methodLink RX3 182 yX3_cellAt, Cond.static yX3_cellAt, Cond.code yX3_cellAt cX3_cellAt 3 (some .int), Cond.constantLong RX3 180 (15), Cond.methodLink RX3 186 yJ6_bitCount_0f7a4, Cond.static yJ6_bitCount_0f7a4, Cond.initialized RJ6, Cond.code yJ6_bitCount_0f7a4 cJ6_bitCount_0f7a4 1 (some .int), Cond.constant RJ6 265 (1431655765), Cond.constant RJ6 266 (858993459), Cond.constant RJ6 267 (252645135), Cond.methodLink RX3 177 yX3_unitsByColours, Cond.static yX3_unitsByColours, Cond.code yX3_unitsByColours cX3_unitsByColours 1 (some .int), Cond.methodLink RX3 77 yX3_countRuns, Cond.static yX3_countRuns, Cond.code yX3_countRuns cX3_countRuns 4 (some .int)]
def wsX3_way : List Cond := .code yX3_way cX3_way 3 (some .int) :: ((wsX3_way_r1 ++ (wsX3_way_r2 ++ wsX3_way_r3)) ++ wsX30 ++ wsX10 ++ wsX20 ++ wsX00 ++ (vx_atS RX3 149 "java/lang/IllegalArgumentException" ["java/lang/RuntimeException", "java/lang/Exception"]).filter goodWord ++ (vx_atS RX3 154 "java/lang/IllegalStateException" ["java/lang/RuntimeException", "java/lang/Exception"]).filter goodWord)
def wsX3_join_r1 : List Cond := [Cond.fieldLink RX3 21 "DirtyTiles" "clients" "[LDirtyTiles$Client;", Cond.methodLink RX3 42 yX3_isIndex, Cond.static yX3_isIndex, Cond.initialized RX3, Cond.code yX3_isIndex cX3_isIndex 2 (some .boolean), Cond.methodLink RX3 38 yX3_requireArgument, Cond.static yX3_requireArgument, Cond.code yX3_requireArgument cX3_requireArgument 1 none, Cond.classLink RX3 145 "java/lang/IllegalArgumentException", Cond.initialized "java/lang/IllegalArgumentException", Cond.methodLink RX3 95 yX1_beginAnew, Cond.instanceMethod yX1_beginAnew, Cond.selects RX1 yX1_beginAnew yX1_beginAnew, Cond.initialized RX1, Cond.code yX1_beginAnew cX1_beginAnew 2 none, Cond.fieldLink RX1 9 "DirtyTiles$Client" "joined" "Z", Cond.fieldLink RX1 18 "DirtyTiles$Client" "ownScreen" "LDirtyTiles$Screen;", Cond.fieldLink RX1 25 "DirtyTiles$Client" "ownCache" "LDirtyTiles$Cache;", Cond.fieldLink RX1 29 "DirtyTiles$Client" "serverCache" "LDirtyTiles$Cache;", Cond.fieldLink RX1 47 "DirtyTiles$Client" "messageCount" "I", Cond.fieldLink RX1 32 "DirtyTiles$Client" "dirtyTiles" "[I", Cond.fieldLink RX1 36 "DirtyTiles$Client" "dirtyCount" "I", Cond.methodLink RX1 50 yX2_clear, Cond.instanceMethod yX2_clear]
def wsX3_join_r2 : List Cond := [Cond.selects RX2 yX2_clear yX2_clear, Cond.initialized RX2, Cond.code yX2_clear cX2_clear 2 none, Cond.fieldLink RX2 9 "DirtyTiles$Screen" "tiles" "[J", Cond.methodLink RX1 53 yX0_clear, Cond.instanceMethod yX0_clear, Cond.selects RX0 yX0_clear yX0_clear, Cond.initialized RX0, Cond.code yX0_clear cX0_clear 1 none, Cond.fieldLink RX0 15 "DirtyTiles$Cache" "count" "I", Cond.methodLink RX3 98 yX1_dirtyCount, Cond.instanceMethod yX1_dirtyCount, Cond.selects RX1 yX1_dirtyCount yX1_dirtyCount, Cond.code yX1_dirtyCount cX1_dirtyCount 1 (some .int)]
def wsX3_join : List Cond := .code yX3_join cX3_join 2 (some .int) :: ((wsX3_join_r1 ++ wsX3_join_r2) ++ wsX30 ++ wsX10 ++ wsX20 ++ wsX00 ++ (vx_atS RX3 149 "java/lang/IllegalArgumentException" ["java/lang/RuntimeException", "java/lang/Exception"]).filter goodWord)
def wsX3_writeMessage_r1 : List Cond := [Cond.fieldLink RX3 10 "DirtyTiles" "screen" "LDirtyTiles$Screen;", Cond.fieldLink RX3 25 "DirtyTiles" "tilesWritten" "[I", Cond.fieldLink RX3 29 "DirtyTiles" "unitsWritten" "I", Cond.methodLink RX3 98 yX1_dirtyCount, Cond.instanceMethod yX1_dirtyCount, Cond.selects RX1 yX1_dirtyCount yX1_dirtyCount, Cond.initialized RX1, Cond.code yX1_dirtyCount cX1_dirtyCount 1 (some .int), Cond.fieldLink RX1 36 "DirtyTiles$Client" "dirtyCount" "I", Cond.methodLink RX3 129 yX1_dirtyTileAt, Cond.instanceMethod yX1_dirtyTileAt, Cond.selects RX1 yX1_dirtyTileAt yX1_dirtyTileAt, Cond.code yX1_dirtyTileAt cX1_dirtyTileAt 2 (some .int), Cond.fieldLink RX1 32 "DirtyTiles$Client" "dirtyTiles" "[I", Cond.methodLink RX3 69 yX2_cellsOf, Cond.instanceMethod yX2_cellsOf, Cond.selects RX2 yX2_cellsOf yX2_cellsOf, Cond.initialized RX2, Cond.code yX2_cellsOf cX2_cellsOf 2 (some .long), Cond.fieldLink RX2 9 "DirtyTiles$Screen" "tiles" "[J", Cond.methodLink RX3 87 yX1_serverCache, Cond.instanceMethod yX1_serverCache, Cond.selects RX1 yX1_serverCache yX1_serverCache, Cond.code yX1_serverCache cX1_serverCache 1 (some (.object "DirtyTiles$Cache"))]
def wsX3_writeMessage_r2 : List Cond := [Cond.fieldLink RX1 29 "DirtyTiles$Client" "serverCache" "LDirtyTiles$Cache;", Cond.methodLink RX3 91 yX3_cheapestWriting, Cond.static yX3_cheapestWriting, Cond.initialized RX3, Cond.code yX3_cheapestWriting cX3_cheapestWriting 7 (some .int), Cond.methodLink RX3 169 yX3_unitsIn, Cond.static yX3_unitsIn, Cond.code yX3_unitsIn cX3_unitsIn 4 (some .int), Cond.methodLink RX3 173 yX0_holds, Cond.instanceMethod yX0_holds, Cond.selects RX0 yX0_holds yX0_holds, Cond.initialized RX0, Cond.code yX0_holds cX0_holds 3 (some .boolean), Cond.fieldLink RX0 15 "DirtyTiles$Cache" "count" "I", Cond.methodLink RX0 19 yX0_placeOf, Cond.instanceMethod yX0_placeOf, Cond.selects RX0 yX0_placeOf yX0_placeOf, Cond.code yX0_placeOf cX0_placeOf 4 (some .int), Cond.fieldLink RX0 9 "DirtyTiles$Cache" "tiles" "[J", Cond.methodLink RX3 73 yX3_countColours, Cond.static yX3_countColours, Cond.code yX3_countColours cX3_countColours 4 (some .int), Cond.methodLink RX3 182 yX3_cellAt, Cond.static yX3_cellAt]
def wsX3_writeMessage_r3 : List Cond := [Cond.code yX3_cellAt cX3_cellAt 3 (some .int), Cond.constantLong RX3 180 (15), Cond.methodLink RX3 186 yJ6_bitCount_0f7a4, Cond.static yJ6_bitCount_0f7a4, Cond.initialized RJ6, Cond.code yJ6_bitCount_0f7a4 cJ6_bitCount_0f7a4 1 (some .int), Cond.constant RJ6 265 (1431655765), Cond.constant RJ6 266 (858993459), Cond.constant RJ6 267 (252645135), Cond.methodLink RX3 177 yX3_unitsByColours, Cond.static yX3_unitsByColours, Cond.code yX3_unitsByColours cX3_unitsByColours 1 (some .int), Cond.methodLink RX3 77 yX3_countRuns, Cond.static yX3_countRuns, Cond.code yX3_countRuns cX3_countRuns 4 (some .int), Cond.methodLink RX3 162 yX1_addToMessage, Cond.instanceMethod yX1_addToMessage, Cond.selects RX1 yX1_addToMessage yX1_addToMessage, Cond.code yX1_addToMessage cX1_addToMessage 4 none, Cond.fieldLink RX1 47 "DirtyTiles$Client" "messageCount" "I", Cond.fieldLink RX1 40 "DirtyTiles$Client" "messageTiles" "[I", Cond.fieldLink RX1 43 "DirtyTiles$Client" "messageCells" "[J", Cond.methodLink RX1 54 yX0_bringToFront, Cond.instanceMethod yX0_bringToFront]
def wsX3_writeMessage_r4 : List Cond := [Cond.selects RX0 yX0_bringToFront yX0_bringToFront, Cond.code yX0_bringToFront cX0_bringToFront 5 none, Cond.methodLink RX0 23 Lib.Math.min.name, Cond.static Lib.Math.min.name, Cond.initialized "java/lang/Math", Cond.code Lib.Math.min.name Lib.Math.min.code 2 (some .int), Cond.methodLink RX3 166 yX1_cleanTilesOfMessage, Cond.instanceMethod yX1_cleanTilesOfMessage, Cond.selects RX1 yX1_cleanTilesOfMessage yX1_cleanTilesOfMessage, Cond.code yX1_cleanTilesOfMessage cX1_cleanTilesOfMessage 2 none]
def wsX3_writeMessage : List Cond := .code yX3_writeMessage cX3_writeMessage 11 none :: ((wsX3_writeMessage_r1 ++ (wsX3_writeMessage_r2 ++ (wsX3_writeMessage_r3 ++ wsX3_writeMessage_r4))) ++ wsX30 ++ wsX10 ++ wsX20 ++ wsX00)
def wsX3_ask_r1 : List Cond := [Cond.fieldLink RX3 21 "DirtyTiles" "clients" "[LDirtyTiles$Client;", Cond.methodLink RX3 42 yX3_isIndex, Cond.static yX3_isIndex, Cond.initialized RX3, Cond.code yX3_isIndex cX3_isIndex 2 (some .boolean), Cond.methodLink RX3 38 yX3_requireArgument, Cond.static yX3_requireArgument, Cond.code yX3_requireArgument cX3_requireArgument 1 none, Cond.classLink RX3 145 "java/lang/IllegalArgumentException", Cond.initialized "java/lang/IllegalArgumentException", Cond.methodLink RX3 58 yX3_isBetween, Cond.static yX3_isBetween, Cond.code yX3_isBetween cX3_isBetween 3 (some .boolean), Cond.methodLink RX3 80 yX1_hasJoined, Cond.instanceMethod yX1_hasJoined, Cond.selects RX1 yX1_hasJoined yX1_hasJoined, Cond.initialized RX1, Cond.code yX1_hasJoined cX1_hasJoined 1 (some .boolean), Cond.fieldLink RX1 9 "DirtyTiles$Client" "joined" "Z", Cond.methodLink RX3 84 yX3_requireState, Cond.static yX3_requireState, Cond.code yX3_requireState cX3_requireState 1 none, Cond.classLink RX3 150 "java/lang/IllegalStateException", Cond.initialized "java/lang/IllegalStateException"]
def wsX3_ask_r2 : List Cond := [Cond.methodLink RX3 101 yX1_hasMessage, Cond.instanceMethod yX1_hasMessage, Cond.selects RX1 yX1_hasMessage yX1_hasMessage, Cond.code yX1_hasMessage cX1_hasMessage 1 (some .boolean), Cond.fieldLink RX1 47 "DirtyTiles$Client" "messageCount" "I", Cond.methodLink RX3 104 yX3_writeMessage, Cond.instanceMethod yX3_writeMessage, Cond.selects RX3 yX3_writeMessage yX3_writeMessage, Cond.code yX3_writeMessage cX3_writeMessage 11 none, Cond.fieldLink RX3 10 "DirtyTiles" "screen" "LDirtyTiles$Screen;", Cond.fieldLink RX3 25 "DirtyTiles" "tilesWritten" "[I", Cond.fieldLink RX3 29 "DirtyTiles" "unitsWritten" "I", Cond.methodLink RX3 98 yX1_dirtyCount, Cond.instanceMethod yX1_dirtyCount, Cond.selects RX1 yX1_dirtyCount yX1_dirtyCount, Cond.code yX1_dirtyCount cX1_dirtyCount 1 (some .int), Cond.fieldLink RX1 36 "DirtyTiles$Client" "dirtyCount" "I", Cond.methodLink RX3 129 yX1_dirtyTileAt, Cond.instanceMethod yX1_dirtyTileAt, Cond.selects RX1 yX1_dirtyTileAt yX1_dirtyTileAt, Cond.code yX1_dirtyTileAt cX1_dirtyTileAt 2 (some .int), Cond.fieldLink RX1 32 "DirtyTiles$Client" "dirtyTiles" "[I", Cond.methodLink RX3 69 yX2_cellsOf, Cond.instanceMethod yX2_cellsOf]
def wsX3_ask_r3 : List Cond := [Cond.selects RX2 yX2_cellsOf yX2_cellsOf, Cond.initialized RX2, Cond.code yX2_cellsOf cX2_cellsOf 2 (some .long), Cond.fieldLink RX2 9 "DirtyTiles$Screen" "tiles" "[J", Cond.methodLink RX3 87 yX1_serverCache, Cond.instanceMethod yX1_serverCache, Cond.selects RX1 yX1_serverCache yX1_serverCache, Cond.code yX1_serverCache cX1_serverCache 1 (some (.object "DirtyTiles$Cache")), Cond.fieldLink RX1 29 "DirtyTiles$Client" "serverCache" "LDirtyTiles$Cache;", Cond.methodLink RX3 91 yX3_cheapestWriting, Cond.static yX3_cheapestWriting, Cond.code yX3_cheapestWriting cX3_cheapestWriting 7 (some .int), Cond.methodLink RX3 169 yX3_unitsIn, Cond.static yX3_unitsIn, Cond.code yX3_unitsIn cX3_unitsIn 4 (some .int), Cond.methodLink RX3 173 yX0_holds, Cond.instanceMethod yX0_holds, Cond.selects RX0 yX0_holds yX0_holds, Cond.initialized RX0, Cond.code yX0_holds cX0_holds 3 (some .boolean), Cond.fieldLink RX0 15 "DirtyTiles$Cache" "count" "I", Cond.methodLink RX0 19 yX0_placeOf, Cond.instanceMethod yX0_placeOf, Cond.selects RX0 yX0_placeOf yX0_placeOf]
def wsX3_ask_r4 : List Cond := [Cond.code yX0_placeOf cX0_placeOf 4 (some .int), Cond.fieldLink RX0 9 "DirtyTiles$Cache" "tiles" "[J", Cond.methodLink RX3 73 yX3_countColours, Cond.static yX3_countColours, Cond.code yX3_countColours cX3_countColours 4 (some .int), Cond.methodLink RX3 182 yX3_cellAt, Cond.static yX3_cellAt, Cond.code yX3_cellAt cX3_cellAt 3 (some .int), Cond.constantLong RX3 180 (15), Cond.methodLink RX3 186 yJ6_bitCount_0f7a4, Cond.static yJ6_bitCount_0f7a4, Cond.initialized RJ6, Cond.code yJ6_bitCount_0f7a4 cJ6_bitCount_0f7a4 1 (some .int), Cond.constant RJ6 265 (1431655765), Cond.constant RJ6 266 (858993459), Cond.constant RJ6 267 (252645135), Cond.methodLink RX3 177 yX3_unitsByColours, Cond.static yX3_unitsByColours, Cond.code yX3_unitsByColours cX3_unitsByColours 1 (some .int), Cond.methodLink RX3 77 yX3_countRuns, Cond.static yX3_countRuns, Cond.code yX3_countRuns cX3_countRuns 4 (some .int), Cond.methodLink RX3 162 yX1_addToMessage, Cond.instanceMethod yX1_addToMessage]
def wsX3_ask_r5 : List Cond := [Cond.selects RX1 yX1_addToMessage yX1_addToMessage, Cond.code yX1_addToMessage cX1_addToMessage 4 none, Cond.fieldLink RX1 40 "DirtyTiles$Client" "messageTiles" "[I", Cond.fieldLink RX1 43 "DirtyTiles$Client" "messageCells" "[J", Cond.methodLink RX1 54 yX0_bringToFront, Cond.instanceMethod yX0_bringToFront, Cond.selects RX0 yX0_bringToFront yX0_bringToFront, Cond.code yX0_bringToFront cX0_bringToFront 5 none, Cond.methodLink RX0 23 Lib.Math.min.name, Cond.static Lib.Math.min.name, Cond.initialized "java/lang/Math", Cond.code Lib.Math.min.name Lib.Math.min.code 2 (some .int), Cond.methodLink RX3 166 yX1_cleanTilesOfMessage, Cond.instanceMethod yX1_cleanTilesOfMessage, Cond.selects RX1 yX1_cleanTilesOfMessage yX1_cleanTilesOfMessage, Cond.code yX1_cleanTilesOfMessage cX1_cleanTilesOfMessage 2 none, Cond.methodLink RX3 108 yX1_messageCount, Cond.instanceMethod yX1_messageCount, Cond.selects RX1 yX1_messageCount yX1_messageCount, Cond.code yX1_messageCount cX1_messageCount 1 (some .int)]
def wsX3_ask : List Cond := .code yX3_ask cX3_ask 3 (some .int) :: ((wsX3_ask_r1 ++ (wsX3_ask_r2 ++ (wsX3_ask_r3 ++ (wsX3_ask_r4 ++ wsX3_ask_r5)))) ++ wsX30 ++ wsX10 ++ wsX20 ++ wsX00 ++ (vx_atS RX3 149 "java/lang/IllegalArgumentException" ["java/lang/RuntimeException", "java/lang/Exception"]).filter goodWord ++ (vx_atS RX3 154 "java/lang/IllegalStateException" ["java/lang/RuntimeException", "java/lang/Exception"]).filter goodWord)
def wsX3_answer_r1 : List Cond := [Cond.fieldLink RX3 21 "DirtyTiles" "clients" "[LDirtyTiles$Client;", Cond.methodLink RX3 42 yX3_isIndex, Cond.static yX3_isIndex, Cond.initialized RX3, Cond.code yX3_isIndex cX3_isIndex 2 (some .boolean), Cond.methodLink RX3 38 yX3_requireArgument, Cond.static yX3_requireArgument, Cond.code yX3_requireArgument cX3_requireArgument 1 none, Cond.classLink RX3 145 "java/lang/IllegalArgumentException", Cond.initialized "java/lang/IllegalArgumentException", Cond.methodLink RX3 80 yX1_hasJoined, Cond.instanceMethod yX1_hasJoined, Cond.selects RX1 yX1_hasJoined yX1_hasJoined, Cond.initialized RX1, Cond.code yX1_hasJoined cX1_hasJoined 1 (some .boolean), Cond.fieldLink RX1 9 "DirtyTiles$Client" "joined" "Z", Cond.methodLink RX3 84 yX3_requireState, Cond.static yX3_requireState, Cond.code yX3_requireState cX3_requireState 1 none, Cond.classLink RX3 150 "java/lang/IllegalStateException", Cond.initialized "java/lang/IllegalStateException", Cond.methodLink RX3 101 yX1_hasMessage, Cond.instanceMethod yX1_hasMessage, Cond.selects RX1 yX1_hasMessage yX1_hasMessage]
def wsX3_answer_r2 : List Cond := [Cond.code yX1_hasMessage cX1_hasMessage 1 (some .boolean), Cond.fieldLink RX1 47 "DirtyTiles$Client" "messageCount" "I", Cond.methodLink RX3 111 yX1_takeMessage, Cond.instanceMethod yX1_takeMessage, Cond.selects RX1 yX1_takeMessage yX1_takeMessage, Cond.code yX1_takeMessage cX1_takeMessage 3 (some .int), Cond.fieldLink RX1 18 "DirtyTiles$Client" "ownScreen" "LDirtyTiles$Screen;", Cond.fieldLink RX1 40 "DirtyTiles$Client" "messageTiles" "[I", Cond.fieldLink RX1 43 "DirtyTiles$Client" "messageCells" "[J", Cond.fieldLink RX1 25 "DirtyTiles$Client" "ownCache" "LDirtyTiles$Cache;", Cond.methodLink RX1 58 yX2_replaceTile, Cond.instanceMethod yX2_replaceTile, Cond.selects RX2 yX2_replaceTile yX2_replaceTile, Cond.initialized RX2, Cond.code yX2_replaceTile cX2_replaceTile 4 none, Cond.fieldLink RX2 9 "DirtyTiles$Screen" "tiles" "[J", Cond.methodLink RX1 54 yX0_bringToFront, Cond.instanceMethod yX0_bringToFront, Cond.selects RX0 yX0_bringToFront yX0_bringToFront, Cond.initialized RX0, Cond.code yX0_bringToFront cX0_bringToFront 5 none, Cond.fieldLink RX0 15 "DirtyTiles$Cache" "count" "I", Cond.methodLink RX0 23 Lib.Math.min.name, Cond.static Lib.Math.min.name]
def wsX3_answer_r3 : List Cond := [Cond.initialized "java/lang/Math", Cond.code Lib.Math.min.name Lib.Math.min.code 2 (some .int), Cond.fieldLink RX0 9 "DirtyTiles$Cache" "tiles" "[J", Cond.methodLink RX0 19 yX0_placeOf, Cond.instanceMethod yX0_placeOf, Cond.selects RX0 yX0_placeOf yX0_placeOf, Cond.code yX0_placeOf cX0_placeOf 4 (some .int)]
def wsX3_answer : List Cond := .code yX3_answer cX3_answer 2 (some .int) :: ((wsX3_answer_r1 ++ (wsX3_answer_r2 ++ wsX3_answer_r3)) ++ wsX30 ++ wsX10 ++ wsX20 ++ wsX00 ++ (vx_atS RX3 149 "java/lang/IllegalArgumentException" ["java/lang/RuntimeException", "java/lang/Exception"]).filter goodWord ++ (vx_atS RX3 154 "java/lang/IllegalStateException" ["java/lang/RuntimeException", "java/lang/Exception"]).filter goodWord)
def wsX3_unlike_r1 : List Cond := [Cond.fieldLink RX3 21 "DirtyTiles" "clients" "[LDirtyTiles$Client;", Cond.fieldLink RX3 10 "DirtyTiles" "screen" "LDirtyTiles$Screen;", Cond.methodLink RX3 42 yX3_isIndex, Cond.static yX3_isIndex, Cond.initialized RX3, Cond.code yX3_isIndex cX3_isIndex 2 (some .boolean), Cond.methodLink RX3 38 yX3_requireArgument, Cond.static yX3_requireArgument, Cond.code yX3_requireArgument cX3_requireArgument 1 none, Cond.classLink RX3 145 "java/lang/IllegalArgumentException", Cond.initialized "java/lang/IllegalArgumentException", Cond.methodLink RX3 80 yX1_hasJoined, Cond.instanceMethod yX1_hasJoined, Cond.selects RX1 yX1_hasJoined yX1_hasJoined, Cond.initialized RX1, Cond.code yX1_hasJoined cX1_hasJoined 1 (some .boolean), Cond.fieldLink RX1 9 "DirtyTiles$Client" "joined" "Z", Cond.methodLink RX3 84 yX3_requireState, Cond.static yX3_requireState, Cond.code yX3_requireState cX3_requireState 1 none, Cond.classLink RX3 150 "java/lang/IllegalStateException", Cond.initialized "java/lang/IllegalStateException", Cond.methodLink RX3 114 yX1_ownScreen, Cond.instanceMethod yX1_ownScreen]
def wsX3_unlike_r2 : List Cond := [Cond.selects RX1 yX1_ownScreen yX1_ownScreen, Cond.code yX1_ownScreen cX1_ownScreen 1 (some (.object "DirtyTiles$Screen")), Cond.fieldLink RX1 18 "DirtyTiles$Client" "ownScreen" "LDirtyTiles$Screen;", Cond.methodLink RX3 69 yX2_cellsOf, Cond.instanceMethod yX2_cellsOf, Cond.selects RX2 yX2_cellsOf yX2_cellsOf, Cond.initialized RX2, Cond.code yX2_cellsOf cX2_cellsOf 2 (some .long), Cond.fieldLink RX2 9 "DirtyTiles$Screen" "tiles" "[J", Cond.methodLink RX3 118 yX3_countDifferent, Cond.static yX3_countDifferent, Cond.code yX3_countDifferent cX3_countDifferent 6 (some .int), Cond.methodLink RX3 182 yX3_cellAt, Cond.static yX3_cellAt, Cond.code yX3_cellAt cX3_cellAt 3 (some .int), Cond.constantLong RX3 180 (15)]
def wsX3_unlike : List Cond := .code yX3_unlike cX3_unlike 5 (some .int) :: ((wsX3_unlike_r1 ++ wsX3_unlike_r2) ++ wsX30 ++ wsX10 ++ wsX20 ++ (vx_atS RX3 149 "java/lang/IllegalArgumentException" ["java/lang/RuntimeException", "java/lang/Exception"]).filter goodWord ++ (vx_atS RX3 154 "java/lang/IllegalStateException" ["java/lang/RuntimeException", "java/lang/Exception"]).filter goodWord)
def wsX3_dirty_r1 : List Cond := [Cond.fieldLink RX3 21 "DirtyTiles" "clients" "[LDirtyTiles$Client;", Cond.methodLink RX3 42 yX3_isIndex, Cond.static yX3_isIndex, Cond.initialized RX3, Cond.code yX3_isIndex cX3_isIndex 2 (some .boolean), Cond.methodLink RX3 38 yX3_requireArgument, Cond.static yX3_requireArgument, Cond.code yX3_requireArgument cX3_requireArgument 1 none, Cond.classLink RX3 145 "java/lang/IllegalArgumentException", Cond.initialized "java/lang/IllegalArgumentException", Cond.methodLink RX3 80 yX1_hasJoined, Cond.instanceMethod yX1_hasJoined, Cond.selects RX1 yX1_hasJoined yX1_hasJoined, Cond.initialized RX1, Cond.code yX1_hasJoined cX1_hasJoined 1 (some .boolean), Cond.fieldLink RX1 9 "DirtyTiles$Client" "joined" "Z", Cond.methodLink RX3 84 yX3_requireState, Cond.static yX3_requireState, Cond.code yX3_requireState cX3_requireState 1 none, Cond.classLink RX3 150 "java/lang/IllegalStateException", Cond.initialized "java/lang/IllegalStateException", Cond.methodLink RX3 98 yX1_dirtyCount, Cond.instanceMethod yX1_dirtyCount, Cond.selects RX1 yX1_dirtyCount yX1_dirtyCount]
def wsX3_dirty_r2 : List Cond := [Cond.code yX1_dirtyCount cX1_dirtyCount 1 (some .int), Cond.fieldLink RX1 36 "DirtyTiles$Client" "dirtyCount" "I"]
def wsX3_dirty : List Cond := .code yX3_dirty cX3_dirty 2 (some .int) :: ((wsX3_dirty_r1 ++ wsX3_dirty_r2) ++ wsX30 ++ wsX10 ++ (vx_atS RX3 149 "java/lang/IllegalArgumentException" ["java/lang/RuntimeException", "java/lang/Exception"]).filter goodWord ++ (vx_atS RX3 154 "java/lang/IllegalStateException" ["java/lang/RuntimeException", "java/lang/Exception"]).filter goodWord)
def wsX3_dirtyAt_r1 : List Cond := [Cond.classLink RX3 122 "java/lang/IndexOutOfBoundsException", Cond.initialized "java/lang/IndexOutOfBoundsException", Cond.fieldLink RX3 21 "DirtyTiles" "clients" "[LDirtyTiles$Client;", Cond.methodLink RX3 42 yX3_isIndex, Cond.static yX3_isIndex, Cond.initialized RX3, Cond.code yX3_isIndex cX3_isIndex 2 (some .boolean), Cond.methodLink RX3 38 yX3_requireArgument, Cond.static yX3_requireArgument, Cond.code yX3_requireArgument cX3_requireArgument 1 none, Cond.classLink RX3 145 "java/lang/IllegalArgumentException", Cond.initialized "java/lang/IllegalArgumentException", Cond.methodLink RX3 80 yX1_hasJoined, Cond.instanceMethod yX1_hasJoined, Cond.selects RX1 yX1_hasJoined yX1_hasJoined, Cond.initialized RX1, Cond.code yX1_hasJoined cX1_hasJoined 1 (some .boolean), Cond.fieldLink RX1 9 "DirtyTiles$Client" "joined" "Z", Cond.methodLink RX3 84 yX3_requireState, Cond.static yX3_requireState, Cond.code yX3_requireState cX3_requireState 1 none, Cond.classLink RX3 150 "java/lang/IllegalStateException", Cond.initialized "java/lang/IllegalStateException", Cond.methodLink RX3 98 yX1_dirtyCount]
def wsX3_dirtyAt_r2 : List Cond := [Cond.instanceMethod yX1_dirtyCount, Cond.selects RX1 yX1_dirtyCount yX1_dirtyCount, Cond.code yX1_dirtyCount cX1_dirtyCount 1 (some .int), Cond.fieldLink RX1 36 "DirtyTiles$Client" "dirtyCount" "I", Cond.methodLink RX3 129 yX1_dirtyTileAt, Cond.instanceMethod yX1_dirtyTileAt, Cond.selects RX1 yX1_dirtyTileAt yX1_dirtyTileAt, Cond.code yX1_dirtyTileAt cX1_dirtyTileAt 2 (some .int), Cond.fieldLink RX1 32 "DirtyTiles$Client" "dirtyTiles" "[I"]
def wsX3_dirtyAt : List Cond := .code yX3_dirtyAt cX3_dirtyAt 3 (some .int) :: ((wsX3_dirtyAt_r1 ++ wsX3_dirtyAt_r2) ++ wsX30 ++ wsX10 ++ (vx_atS RX3 126 "java/lang/IndexOutOfBoundsException" ["java/lang/RuntimeException", "java/lang/Exception"]).filter goodWord ++ (vx_atS RX3 149 "java/lang/IllegalArgumentException" ["java/lang/RuntimeException", "java/lang/Exception"]).filter goodWord ++ (vx_atS RX3 154 "java/lang/IllegalStateException" ["java/lang/RuntimeException", "java/lang/Exception"]).filter goodWord)
def wsX3_cached_r1 : List Cond := [Cond.fieldLink RX3 21 "DirtyTiles" "clients" "[LDirtyTiles$Client;", Cond.methodLink RX3 42 yX3_isIndex, Cond.static yX3_isIndex, Cond.initialized RX3, Cond.code yX3_isIndex cX3_isIndex 2 (some .boolean), Cond.methodLink RX3 38 yX3_requireArgument, Cond.static yX3_requireArgument, Cond.code yX3_requireArgument cX3_requireArgument 1 none, Cond.classLink RX3 145 "java/lang/IllegalArgumentException", Cond.initialized "java/lang/IllegalArgumentException", Cond.methodLink RX3 80 yX1_hasJoined, Cond.instanceMethod yX1_hasJoined, Cond.selects RX1 yX1_hasJoined yX1_hasJoined, Cond.initialized RX1, Cond.code yX1_hasJoined cX1_hasJoined 1 (some .boolean), Cond.fieldLink RX1 9 "DirtyTiles$Client" "joined" "Z", Cond.methodLink RX3 84 yX3_requireState, Cond.static yX3_requireState, Cond.code yX3_requireState cX3_requireState 1 none, Cond.classLink RX3 150 "java/lang/IllegalStateException", Cond.initialized "java/lang/IllegalStateException", Cond.methodLink RX3 133 yX1_ownCache, Cond.instanceMethod yX1_ownCache, Cond.selects RX1 yX1_ownCache yX1_ownCache]
def wsX3_cached_r2 : List Cond := [Cond.code yX1_ownCache cX1_ownCache 1 (some (.object "DirtyTiles$Cache")), Cond.fieldLink RX1 25 "DirtyTiles$Client" "ownCache" "LDirtyTiles$Cache;", Cond.methodLink RX3 136 yX0_size, Cond.instanceMethod yX0_size, Cond.selects RX0 yX0_size yX0_size, Cond.initialized RX0, Cond.code yX0_size cX0_size 1 (some .int), Cond.fieldLink RX0 15 "DirtyTiles$Cache" "count" "I"]
def wsX3_cached : List Cond := .code yX3_cached cX3_cached 2 (some .int) :: ((wsX3_cached_r1 ++ wsX3_cached_r2) ++ wsX30 ++ wsX10 ++ wsX00 ++ (vx_atS RX3 149 "java/lang/IllegalArgumentException" ["java/lang/RuntimeException", "java/lang/Exception"]).filter goodWord ++ (vx_atS RX3 154 "java/lang/IllegalStateException" ["java/lang/RuntimeException", "java/lang/Exception"]).filter goodWord)
def wsX3_isAlike_r1 : List Cond := [Cond.fieldLink RX3 21 "DirtyTiles" "clients" "[LDirtyTiles$Client;", Cond.methodLink RX3 42 yX3_isIndex, Cond.static yX3_isIndex, Cond.initialized RX3, Cond.code yX3_isIndex cX3_isIndex 2 (some .boolean), Cond.methodLink RX3 38 yX3_requireArgument, Cond.static yX3_requireArgument, Cond.code yX3_requireArgument cX3_requireArgument 1 none, Cond.classLink RX3 145 "java/lang/IllegalArgumentException", Cond.initialized "java/lang/IllegalArgumentException", Cond.methodLink RX3 80 yX1_hasJoined, Cond.instanceMethod yX1_hasJoined, Cond.selects RX1 yX1_hasJoined yX1_hasJoined, Cond.initialized RX1, Cond.code yX1_hasJoined cX1_hasJoined 1 (some .boolean), Cond.fieldLink RX1 9 "DirtyTiles$Client" "joined" "Z", Cond.methodLink RX3 84 yX3_requireState, Cond.static yX3_requireState, Cond.code yX3_requireState cX3_requireState 1 none, Cond.classLink RX3 150 "java/lang/IllegalStateException", Cond.initialized "java/lang/IllegalStateException", Cond.methodLink RX3 87 yX1_serverCache, Cond.instanceMethod yX1_serverCache, Cond.selects RX1 yX1_serverCache yX1_serverCache]
def wsX3_isAlike_r2 : List Cond := [Cond.code yX1_serverCache cX1_serverCache 1 (some (.object "DirtyTiles$Cache")), Cond.fieldLink RX1 29 "DirtyTiles$Client" "serverCache" "LDirtyTiles$Cache;", Cond.methodLink RX3 133 yX1_ownCache, Cond.instanceMethod yX1_ownCache, Cond.selects RX1 yX1_ownCache yX1_ownCache, Cond.code yX1_ownCache cX1_ownCache 1 (some (.object "DirtyTiles$Cache")), Cond.fieldLink RX1 25 "DirtyTiles$Client" "ownCache" "LDirtyTiles$Cache;", Cond.methodLink RX3 141 yX0_hasSameTilesAs, Cond.instanceMethod yX0_hasSameTilesAs, Cond.selects RX0 yX0_hasSameTilesAs yX0_hasSameTilesAs, Cond.initialized RX0, Cond.code yX0_hasSameTilesAs cX0_hasSameTilesAs 3 (some .boolean), Cond.fieldLink RX0 15 "DirtyTiles$Cache" "count" "I", Cond.fieldLink RX0 9 "DirtyTiles$Cache" "tiles" "[J"]
def wsX3_isAlike : List Cond := .code yX3_isAlike cX3_isAlike 2 (some .boolean) :: ((wsX3_isAlike_r1 ++ wsX3_isAlike_r2) ++ wsX30 ++ wsX10 ++ wsX00 ++ (vx_atS RX3 149 "java/lang/IllegalArgumentException" ["java/lang/RuntimeException", "java/lang/Exception"]).filter goodWord ++ (vx_atS RX3 154 "java/lang/IllegalStateException" ["java/lang/RuntimeException", "java/lang/Exception"]).filter goodWord)
def wsX3_written : List Cond := .code yX3_written cX3_written 2 (some .int) :: ([.fieldLink RX3 25 "DirtyTiles" "tilesWritten" "[I", .methodLink RX3 42 yX3_isIndex, .static yX3_isIndex, .initialized RX3, .code yX3_isIndex cX3_isIndex 2 (some .boolean), .methodLink RX3 38 yX3_requireArgument, .static yX3_requireArgument, .code yX3_requireArgument cX3_requireArgument 1 none, .classLink RX3 145 "java/lang/IllegalArgumentException", .initialized "java/lang/IllegalArgumentException"] ++ wsX30 ++ (vx_atS RX3 149 "java/lang/IllegalArgumentException" ["java/lang/RuntimeException", "java/lang/Exception"]).filter goodWord)
def wsX3_units : List Cond := .code yX3_units cX3_units 1 (some .int) :: ([.fieldLink RX3 29 "DirtyTiles" "unitsWritten" "I"] ++ wsX30)
def wsJ9_min_7cf53 : List Cond := .code yJ9_min_7cf53 cJ9_min_7cf53 2 (some .int) :: ([])
def wsL_cell : List Cond := .code yL_cell cL_cell 2 (some .int) :: ([])
def wsL_low : List Cond := .code yL_low cL_low 2 (some .int) :: ([.constant RL 7 (2147483647)])
def wsL_fill_r1 : List Cond := [Cond.classLink RL 14 "java/lang/IllegalArgumentException", Cond.constant RL 16 (-99999), Cond.methodLink RL 8 yX3_fill, Cond.instanceMethod yX3_fill, Cond.selects RX3 yX3_fill yX3_fill, Cond.initialized RX3, Cond.code yX3_fill cX3_fill 8 (some .int), Cond.fieldLink RX3 16 "DirtyTiles" "screenBefore" "LDirtyTiles$Screen;", Cond.fieldLink RX3 10 "DirtyTiles" "screen" "LDirtyTiles$Screen;", Cond.methodLink RX3 34 yX3_isBox, Cond.static yX3_isBox, Cond.code yX3_isBox cX3_isBox 4 (some .boolean), Cond.methodLink RX3 62 yX3_isCell, Cond.static yX3_isCell, Cond.code yX3_isCell cX3_isCell 2 (some .boolean), Cond.methodLink RX3 42 yX3_isIndex, Cond.static yX3_isIndex, Cond.code yX3_isIndex cX3_isIndex 2 (some .boolean), Cond.methodLink RX3 58 yX3_isBetween, Cond.static yX3_isBetween, Cond.code yX3_isBetween cX3_isBetween 3 (some .boolean), Cond.methodLink RX3 38 yX3_requireArgument, Cond.static yX3_requireArgument, Cond.code yX3_requireArgument cX3_requireArgument 1 none]
def wsL_fill_r2 : List Cond := [Cond.classLink RX3 145 "java/lang/IllegalArgumentException", Cond.initialized "java/lang/IllegalArgumentException", Cond.methodLink RX3 46 yX2_become, Cond.instanceMethod yX2_become, Cond.selects RX2 yX2_become yX2_become, Cond.initialized RX2, Cond.code yX2_become cX2_become 3 none, Cond.fieldLink RX2 9 "DirtyTiles$Screen" "tiles" "[J", Cond.methodLink RX3 50 yX2_paint, Cond.instanceMethod yX2_paint, Cond.selects RX2 yX2_paint yX2_paint, Cond.code yX2_paint cX2_paint 6 none, Cond.constantLong RX2 26 (15), Cond.constantLong RX2 28 (-1), Cond.methodLink RX2 15 yX2_tileOf, Cond.static yX2_tileOf, Cond.code yX2_tileOf cX2_tileOf 2 (some .int), Cond.methodLink RX2 19 yX2_placeInTile, Cond.static yX2_placeInTile, Cond.code yX2_placeInTile cX2_placeInTile 2 (some .int), Cond.methodLink RX3 54 yX3_noteChanges, Cond.instanceMethod yX3_noteChanges, Cond.selects RX3 yX3_noteChanges yX3_noteChanges, Cond.code yX3_noteChanges cX3_noteChanges 4 (some .int)]
def wsL_fill_r3 : List Cond := [Cond.methodLink RX3 69 yX2_cellsOf, Cond.instanceMethod yX2_cellsOf, Cond.selects RX2 yX2_cellsOf yX2_cellsOf, Cond.code yX2_cellsOf cX2_cellsOf 2 (some .long), Cond.methodLink RX3 118 yX3_countDifferent, Cond.static yX3_countDifferent, Cond.code yX3_countDifferent cX3_countDifferent 6 (some .int), Cond.methodLink RX3 182 yX3_cellAt, Cond.static yX3_cellAt, Cond.code yX3_cellAt cX3_cellAt 3 (some .int), Cond.constantLong RX3 180 (15), Cond.methodLink RX3 155 yX3_makeDirtyForAll, Cond.instanceMethod yX3_makeDirtyForAll, Cond.selects RX3 yX3_makeDirtyForAll yX3_makeDirtyForAll, Cond.code yX3_makeDirtyForAll cX3_makeDirtyForAll 3 none, Cond.fieldLink RX3 21 "DirtyTiles" "clients" "[LDirtyTiles$Client;", Cond.methodLink RX3 80 yX1_hasJoined, Cond.instanceMethod yX1_hasJoined, Cond.selects RX1 yX1_hasJoined yX1_hasJoined, Cond.initialized RX1, Cond.code yX1_hasJoined cX1_hasJoined 1 (some .boolean), Cond.fieldLink RX1 9 "DirtyTiles$Client" "joined" "Z", Cond.methodLink RX3 159 yX1_makeDirty, Cond.instanceMethod yX1_makeDirty]
def wsL_fill_r4 : List Cond := [Cond.selects RX1 yX1_makeDirty yX1_makeDirty, Cond.code yX1_makeDirty cX1_makeDirty 3 none, Cond.fieldLink RX1 36 "DirtyTiles$Client" "dirtyCount" "I", Cond.fieldLink RX1 32 "DirtyTiles$Client" "dirtyTiles" "[I"]
def wsL_fill : List Cond := .codeWith yL_fill cL_fill 7 (some .int) [(0, 11, 12, 14)] :: ((wsL_fill_r1 ++ (wsL_fill_r2 ++ (wsL_fill_r3 ++ wsL_fill_r4))) ++ wsX30 ++ wsX20 ++ wsX10 ++ (vx_atS RX3 149 "java/lang/IllegalArgumentException" ["java/lang/RuntimeException", "java/lang/Exception"]).filter goodWord)
def wsL_copy_r1 : List Cond := [Cond.classLink RL 14 "java/lang/IllegalArgumentException", Cond.constant RL 16 (-99999), Cond.methodLink RL 17 yX3_copy, Cond.instanceMethod yX3_copy, Cond.selects RX3 yX3_copy yX3_copy, Cond.initialized RX3, Cond.code yX3_copy cX3_copy 9 (some .int), Cond.fieldLink RX3 16 "DirtyTiles" "screenBefore" "LDirtyTiles$Screen;", Cond.fieldLink RX3 10 "DirtyTiles" "screen" "LDirtyTiles$Screen;", Cond.methodLink RX3 34 yX3_isBox, Cond.static yX3_isBox, Cond.code yX3_isBox cX3_isBox 4 (some .boolean), Cond.methodLink RX3 62 yX3_isCell, Cond.static yX3_isCell, Cond.code yX3_isCell cX3_isCell 2 (some .boolean), Cond.methodLink RX3 42 yX3_isIndex, Cond.static yX3_isIndex, Cond.code yX3_isIndex cX3_isIndex 2 (some .boolean), Cond.methodLink RX3 58 yX3_isBetween, Cond.static yX3_isBetween, Cond.code yX3_isBetween cX3_isBetween 3 (some .boolean), Cond.methodLink RX3 38 yX3_requireArgument, Cond.static yX3_requireArgument, Cond.code yX3_requireArgument cX3_requireArgument 1 none]
def wsL_copy_r2 : List Cond := [Cond.classLink RX3 145 "java/lang/IllegalArgumentException", Cond.initialized "java/lang/IllegalArgumentException", Cond.methodLink RX3 46 yX2_become, Cond.instanceMethod yX2_become, Cond.selects RX2 yX2_become yX2_become, Cond.initialized RX2, Cond.code yX2_become cX2_become 3 none, Cond.fieldLink RX2 9 "DirtyTiles$Screen" "tiles" "[J", Cond.methodLink RX3 65 yX2_colourAt, Cond.instanceMethod yX2_colourAt, Cond.selects RX2 yX2_colourAt yX2_colourAt, Cond.code yX2_colourAt cX2_colourAt 3 (some .int), Cond.methodLink RX2 15 yX2_tileOf, Cond.static yX2_tileOf, Cond.code yX2_tileOf cX2_tileOf 2 (some .int), Cond.methodLink RX2 19 yX2_placeInTile, Cond.static yX2_placeInTile, Cond.code yX2_placeInTile cX2_placeInTile 2 (some .int), Cond.static yX3_cellAt, Cond.code yX3_cellAt cX3_cellAt 3 (some .int), Cond.constantLong RX3 180 (15), Cond.methodLink RX3 50 yX2_paint, Cond.instanceMethod yX2_paint, Cond.selects RX2 yX2_paint yX2_paint]
def wsL_copy_r3 : List Cond := [Cond.code yX2_paint cX2_paint 6 none, Cond.constantLong RX2 26 (15), Cond.constantLong RX2 28 (-1), Cond.methodLink RX3 54 yX3_noteChanges, Cond.instanceMethod yX3_noteChanges, Cond.selects RX3 yX3_noteChanges yX3_noteChanges, Cond.code yX3_noteChanges cX3_noteChanges 4 (some .int), Cond.methodLink RX3 69 yX2_cellsOf, Cond.instanceMethod yX2_cellsOf, Cond.selects RX2 yX2_cellsOf yX2_cellsOf, Cond.code yX2_cellsOf cX2_cellsOf 2 (some .long), Cond.methodLink RX3 118 yX3_countDifferent, Cond.static yX3_countDifferent, Cond.code yX3_countDifferent cX3_countDifferent 6 (some .int), Cond.methodLink RX3 182 yX3_cellAt, Cond.methodLink RX3 155 yX3_makeDirtyForAll, Cond.instanceMethod yX3_makeDirtyForAll, Cond.selects RX3 yX3_makeDirtyForAll yX3_makeDirtyForAll, Cond.code yX3_makeDirtyForAll cX3_makeDirtyForAll 3 none, Cond.fieldLink RX3 21 "DirtyTiles" "clients" "[LDirtyTiles$Client;", Cond.methodLink RX3 80 yX1_hasJoined, Cond.instanceMethod yX1_hasJoined, Cond.selects RX1 yX1_hasJoined yX1_hasJoined, Cond.initialized RX1]
def wsL_copy_r4 : List Cond := [Cond.code yX1_hasJoined cX1_hasJoined 1 (some .boolean), Cond.fieldLink RX1 9 "DirtyTiles$Client" "joined" "Z", Cond.methodLink RX3 159 yX1_makeDirty, Cond.instanceMethod yX1_makeDirty, Cond.selects RX1 yX1_makeDirty yX1_makeDirty, Cond.code yX1_makeDirty cX1_makeDirty 3 none, Cond.fieldLink RX1 36 "DirtyTiles$Client" "dirtyCount" "I", Cond.fieldLink RX1 32 "DirtyTiles$Client" "dirtyTiles" "[I"]
def wsL_copy : List Cond := .codeWith yL_copy cL_copy 8 (some .int) [(0, 13, 14, 14)] :: ((wsL_copy_r1 ++ (wsL_copy_r2 ++ (wsL_copy_r3 ++ wsL_copy_r4))) ++ wsX30 ++ wsX20 ++ wsX10 ++ (vx_atS RX3 149 "java/lang/IllegalArgumentException" ["java/lang/RuntimeException", "java/lang/Exception"]).filter goodWord)
def wsL_join_r1 : List Cond := [Cond.classLink RL 14 "java/lang/IllegalArgumentException", Cond.constant RL 16 (-99999), Cond.methodLink RL 21 yX3_join, Cond.instanceMethod yX3_join, Cond.selects RX3 yX3_join yX3_join, Cond.initialized RX3, Cond.code yX3_join cX3_join 2 (some .int), Cond.fieldLink RX3 21 "DirtyTiles" "clients" "[LDirtyTiles$Client;", Cond.methodLink RX3 42 yX3_isIndex, Cond.static yX3_isIndex, Cond.code yX3_isIndex cX3_isIndex 2 (some .boolean), Cond.methodLink RX3 38 yX3_requireArgument, Cond.static yX3_requireArgument, Cond.code yX3_requireArgument cX3_requireArgument 1 none, Cond.classLink RX3 145 "java/lang/IllegalArgumentException", Cond.initialized "java/lang/IllegalArgumentException", Cond.methodLink RX3 95 yX1_beginAnew, Cond.instanceMethod yX1_beginAnew, Cond.selects RX1 yX1_beginAnew yX1_beginAnew, Cond.initialized RX1, Cond.code yX1_beginAnew cX1_beginAnew 2 none, Cond.fieldLink RX1 9 "DirtyTiles$Client" "joined" "Z", Cond.fieldLink RX1 18 "DirtyTiles$Client" "ownScreen" "LDirtyTiles$Screen;", Cond.fieldLink RX1 25 "DirtyTiles$Client" "ownCache" "LDirtyTiles$Cache;"]
def wsL_join_r2 : List Cond := [Cond.fieldLink RX1 29 "DirtyTiles$Client" "serverCache" "LDirtyTiles$Cache;", Cond.fieldLink RX1 47 "DirtyTiles$Client" "messageCount" "I", Cond.fieldLink RX1 32 "DirtyTiles$Client" "dirtyTiles" "[I", Cond.fieldLink RX1 36 "DirtyTiles$Client" "dirtyCount" "I", Cond.methodLink RX1 50 yX2_clear, Cond.instanceMethod yX2_clear, Cond.selects RX2 yX2_clear yX2_clear, Cond.initialized RX2, Cond.code yX2_clear cX2_clear 2 none, Cond.fieldLink RX2 9 "DirtyTiles$Screen" "tiles" "[J", Cond.methodLink RX1 53 yX0_clear, Cond.instanceMethod yX0_clear, Cond.selects RX0 yX0_clear yX0_clear, Cond.initialized RX0, Cond.code yX0_clear cX0_clear 1 none, Cond.fieldLink RX0 15 "DirtyTiles$Cache" "count" "I", Cond.methodLink RX3 98 yX1_dirtyCount, Cond.instanceMethod yX1_dirtyCount, Cond.selects RX1 yX1_dirtyCount yX1_dirtyCount, Cond.code yX1_dirtyCount cX1_dirtyCount 1 (some .int)]
def wsL_join : List Cond := .codeWith yL_join cL_join 3 (some .int) [(0, 5, 6, 14)] :: ((wsL_join_r1 ++ wsL_join_r2) ++ wsX30 ++ wsX10 ++ wsX20 ++ wsX00 ++ (vx_atS RX3 149 "java/lang/IllegalArgumentException" ["java/lang/RuntimeException", "java/lang/Exception"]).filter goodWord)
def wsL_ask_r1 : List Cond := [Cond.classLink RL 14 "java/lang/IllegalArgumentException", Cond.classLink RL 29 "java/lang/IllegalStateException", Cond.constant RL 16 (-99999), Cond.methodLink RL 25 yX3_ask, Cond.instanceMethod yX3_ask, Cond.selects RX3 yX3_ask yX3_ask, Cond.initialized RX3, Cond.code yX3_ask cX3_ask 3 (some .int), Cond.fieldLink RX3 21 "DirtyTiles" "clients" "[LDirtyTiles$Client;", Cond.methodLink RX3 42 yX3_isIndex, Cond.static yX3_isIndex, Cond.code yX3_isIndex cX3_isIndex 2 (some .boolean), Cond.methodLink RX3 38 yX3_requireArgument, Cond.static yX3_requireArgument, Cond.code yX3_requireArgument cX3_requireArgument 1 none, Cond.classLink RX3 145 "java/lang/IllegalArgumentException", Cond.initialized "java/lang/IllegalArgumentException", Cond.methodLink RX3 58 yX3_isBetween, Cond.static yX3_isBetween, Cond.code yX3_isBetween cX3_isBetween 3 (some .boolean), Cond.methodLink RX3 80 yX1_hasJoined, Cond.instanceMethod yX1_hasJoined, Cond.selects RX1 yX1_hasJoined yX1_hasJoined, Cond.initialized RX1]
def wsL_ask_r2 : List Cond := [Cond.code yX1_hasJoined cX1_hasJoined 1 (some .boolean), Cond.fieldLink RX1 9 "DirtyTiles$Client" "joined" "Z", Cond.methodLink RX3 84 yX3_requireState, Cond.static yX3_requireState, Cond.code yX3_requireState cX3_requireState 1 none, Cond.classLink RX3 150 "java/lang/IllegalStateException", Cond.initialized "java/lang/IllegalStateException", Cond.methodLink RX3 101 yX1_hasMessage, Cond.instanceMethod yX1_hasMessage, Cond.selects RX1 yX1_hasMessage yX1_hasMessage, Cond.code yX1_hasMessage cX1_hasMessage 1 (some .boolean), Cond.fieldLink RX1 47 "DirtyTiles$Client" "messageCount" "I", Cond.methodLink RX3 104 yX3_writeMessage, Cond.instanceMethod yX3_writeMessage, Cond.selects RX3 yX3_writeMessage yX3_writeMessage, Cond.code yX3_writeMessage cX3_writeMessage 11 none, Cond.fieldLink RX3 10 "DirtyTiles" "screen" "LDirtyTiles$Screen;", Cond.fieldLink RX3 25 "DirtyTiles" "tilesWritten" "[I", Cond.fieldLink RX3 29 "DirtyTiles" "unitsWritten" "I", Cond.methodLink RX3 98 yX1_dirtyCount, Cond.instanceMethod yX1_dirtyCount, Cond.selects RX1 yX1_dirtyCount yX1_dirtyCount, Cond.code yX1_dirtyCount cX1_dirtyCount 1 (some .int), Cond.fieldLink RX1 36 "DirtyTiles$Client" "dirtyCount" "I"]
def wsL_ask_r3 : List Cond := [Cond.methodLink RX3 129 yX1_dirtyTileAt, Cond.instanceMethod yX1_dirtyTileAt, Cond.selects RX1 yX1_dirtyTileAt yX1_dirtyTileAt, Cond.code yX1_dirtyTileAt cX1_dirtyTileAt 2 (some .int), Cond.fieldLink RX1 32 "DirtyTiles$Client" "dirtyTiles" "[I", Cond.methodLink RX3 69 yX2_cellsOf, Cond.instanceMethod yX2_cellsOf, Cond.selects RX2 yX2_cellsOf yX2_cellsOf, Cond.initialized RX2, Cond.code yX2_cellsOf cX2_cellsOf 2 (some .long), Cond.fieldLink RX2 9 "DirtyTiles$Screen" "tiles" "[J", Cond.methodLink RX3 87 yX1_serverCache, Cond.instanceMethod yX1_serverCache, Cond.selects RX1 yX1_serverCache yX1_serverCache, Cond.code yX1_serverCache cX1_serverCache 1 (some (.object "DirtyTiles$Cache")), Cond.fieldLink RX1 29 "DirtyTiles$Client" "serverCache" "LDirtyTiles$Cache;", Cond.methodLink RX3 91 yX3_cheapestWriting, Cond.static yX3_cheapestWriting, Cond.code yX3_cheapestWriting cX3_cheapestWriting 7 (some .int), Cond.methodLink RX3 169 yX3_unitsIn, Cond.static yX3_unitsIn, Cond.code yX3_unitsIn cX3_unitsIn 4 (some .int), Cond.methodLink RX3 173 yX0_holds, Cond.instanceMethod yX0_holds]
def wsL_ask_r4 : List Cond := [Cond.selects RX0 yX0_holds yX0_holds, Cond.initialized RX0, Cond.code yX0_holds cX0_holds 3 (some .boolean), Cond.fieldLink RX0 15 "DirtyTiles$Cache" "count" "I", Cond.methodLink RX0 19 yX0_placeOf, Cond.instanceMethod yX0_placeOf, Cond.selects RX0 yX0_placeOf yX0_placeOf, Cond.code yX0_placeOf cX0_placeOf 4 (some .int), Cond.fieldLink RX0 9 "DirtyTiles$Cache" "tiles" "[J", Cond.methodLink RX3 73 yX3_countColours, Cond.static yX3_countColours, Cond.code yX3_countColours cX3_countColours 4 (some .int), Cond.methodLink RX3 182 yX3_cellAt, Cond.static yX3_cellAt, Cond.code yX3_cellAt cX3_cellAt 3 (some .int), Cond.constantLong RX3 180 (15), Cond.methodLink RX3 186 yJ6_bitCount_0f7a4, Cond.static yJ6_bitCount_0f7a4, Cond.initialized RJ6, Cond.code yJ6_bitCount_0f7a4 cJ6_bitCount_0f7a4 1 (some .int), Cond.constant RJ6 265 (1431655765), Cond.constant RJ6 266 (858993459), Cond.constant RJ6 267 (252645135), Cond.methodLink RX3 177 yX3_unitsByColours]
def wsL_ask_r5 : List Cond := [Cond.static yX3_unitsByColours, Cond.code yX3_unitsByColours cX3_unitsByColours 1 (some .int), Cond.methodLink RX3 77 yX3_countRuns, Cond.static yX3_countRuns, Cond.code yX3_countRuns cX3_countRuns 4 (some .int), Cond.methodLink RX3 162 yX1_addToMessage, Cond.instanceMethod yX1_addToMessage, Cond.selects RX1 yX1_addToMessage yX1_addToMessage, Cond.code yX1_addToMessage cX1_addToMessage 4 none, Cond.fieldLink RX1 40 "DirtyTiles$Client" "messageTiles" "[I", Cond.fieldLink RX1 43 "DirtyTiles$Client" "messageCells" "[J", Cond.methodLink RX1 54 yX0_bringToFront, Cond.instanceMethod yX0_bringToFront, Cond.selects RX0 yX0_bringToFront yX0_bringToFront, Cond.code yX0_bringToFront cX0_bringToFront 5 none, Cond.methodLink RX0 23 Lib.Math.min.name, Cond.static Lib.Math.min.name, Cond.initialized "java/lang/Math", Cond.code Lib.Math.min.name Lib.Math.min.code 2 (some .int), Cond.methodLink RX3 166 yX1_cleanTilesOfMessage, Cond.instanceMethod yX1_cleanTilesOfMessage, Cond.selects RX1 yX1_cleanTilesOfMessage yX1_cleanTilesOfMessage, Cond.code yX1_cleanTilesOfMessage cX1_cleanTilesOfMessage 2 none, Cond.methodLink RX3 108 yX1_messageCount]
def wsL_ask_r6 : List Cond := [Cond.instanceMethod yX1_messageCount, Cond.selects RX1 yX1_messageCount yX1_messageCount, Cond.code yX1_messageCount cX1_messageCount 1 (some .int)]
def wsL_ask : List Cond := .codeWith yL_ask cL_ask 4 (some .int) [(0, 6, 7, 14), (0, 6, 11, 29)] :: ((wsL_ask_r1 ++ (wsL_ask_r2 ++ (wsL_ask_r3 ++ (wsL_ask_r4 ++ (wsL_ask_r5 ++ wsL_ask_r6))))) ++ wsX30 ++ wsX10 ++ wsX20 ++ wsX00 ++ (vx_atS RX3 149 "java/lang/IllegalArgumentException" ["java/lang/RuntimeException", "java/lang/Exception"]).filter goodWord ++ (vx_atS RX3 154 "java/lang/IllegalStateException" ["java/lang/RuntimeException", "java/lang/Exception"]).filter goodWord)
def wsL_answer_r1 : List Cond := [Cond.classLink RL 14 "java/lang/IllegalArgumentException", Cond.classLink RL 29 "java/lang/IllegalStateException", Cond.constant RL 16 (-99999), Cond.methodLink RL 31 yX3_answer, Cond.instanceMethod yX3_answer, Cond.selects RX3 yX3_answer yX3_answer, Cond.initialized RX3, Cond.code yX3_answer cX3_answer 2 (some .int), Cond.fieldLink RX3 21 "DirtyTiles" "clients" "[LDirtyTiles$Client;", Cond.methodLink RX3 42 yX3_isIndex, Cond.static yX3_isIndex, Cond.code yX3_isIndex cX3_isIndex 2 (some .boolean), Cond.methodLink RX3 38 yX3_requireArgument, Cond.static yX3_requireArgument, Cond.code yX3_requireArgument cX3_requireArgument 1 none, Cond.classLink RX3 145 "java/lang/IllegalArgumentException", Cond.initialized "java/lang/IllegalArgumentException", Cond.methodLink RX3 80 yX1_hasJoined, Cond.instanceMethod yX1_hasJoined, Cond.selects RX1 yX1_hasJoined yX1_hasJoined, Cond.initialized RX1, Cond.code yX1_hasJoined cX1_hasJoined 1 (some .boolean), Cond.fieldLink RX1 9 "DirtyTiles$Client" "joined" "Z", Cond.methodLink RX3 84 yX3_requireState]
def wsL_answer_r2 : List Cond := [Cond.static yX3_requireState, Cond.code yX3_requireState cX3_requireState 1 none, Cond.classLink RX3 150 "java/lang/IllegalStateException", Cond.initialized "java/lang/IllegalStateException", Cond.methodLink RX3 101 yX1_hasMessage, Cond.instanceMethod yX1_hasMessage, Cond.selects RX1 yX1_hasMessage yX1_hasMessage, Cond.code yX1_hasMessage cX1_hasMessage 1 (some .boolean), Cond.fieldLink RX1 47 "DirtyTiles$Client" "messageCount" "I", Cond.methodLink RX3 111 yX1_takeMessage, Cond.instanceMethod yX1_takeMessage, Cond.selects RX1 yX1_takeMessage yX1_takeMessage, Cond.code yX1_takeMessage cX1_takeMessage 3 (some .int), Cond.fieldLink RX1 18 "DirtyTiles$Client" "ownScreen" "LDirtyTiles$Screen;", Cond.fieldLink RX1 40 "DirtyTiles$Client" "messageTiles" "[I", Cond.fieldLink RX1 43 "DirtyTiles$Client" "messageCells" "[J", Cond.fieldLink RX1 25 "DirtyTiles$Client" "ownCache" "LDirtyTiles$Cache;", Cond.methodLink RX1 58 yX2_replaceTile, Cond.instanceMethod yX2_replaceTile, Cond.selects RX2 yX2_replaceTile yX2_replaceTile, Cond.initialized RX2, Cond.code yX2_replaceTile cX2_replaceTile 4 none, Cond.fieldLink RX2 9 "DirtyTiles$Screen" "tiles" "[J", Cond.methodLink RX1 54 yX0_bringToFront]
def wsL_answer_r3 : List Cond := [Cond.instanceMethod yX0_bringToFront, Cond.selects RX0 yX0_bringToFront yX0_bringToFront, Cond.initialized RX0, Cond.code yX0_bringToFront cX0_bringToFront 5 none, Cond.fieldLink RX0 15 "DirtyTiles$Cache" "count" "I", Cond.methodLink RX0 23 Lib.Math.min.name, Cond.static Lib.Math.min.name, Cond.initialized "java/lang/Math", Cond.code Lib.Math.min.name Lib.Math.min.code 2 (some .int), Cond.fieldLink RX0 9 "DirtyTiles$Cache" "tiles" "[J", Cond.methodLink RX0 19 yX0_placeOf, Cond.instanceMethod yX0_placeOf, Cond.selects RX0 yX0_placeOf yX0_placeOf, Cond.code yX0_placeOf cX0_placeOf 4 (some .int)]
def wsL_answer : List Cond := .codeWith yL_answer cL_answer 3 (some .int) [(0, 5, 6, 14), (0, 5, 10, 29)] :: ((wsL_answer_r1 ++ (wsL_answer_r2 ++ wsL_answer_r3)) ++ wsX30 ++ wsX10 ++ wsX20 ++ wsX00 ++ (vx_atS RX3 149 "java/lang/IllegalArgumentException" ["java/lang/RuntimeException", "java/lang/Exception"]).filter goodWord ++ (vx_atS RX3 154 "java/lang/IllegalStateException" ["java/lang/RuntimeException", "java/lang/Exception"]).filter goodWord)
def wsL_unlike_r1 : List Cond := [Cond.classLink RL 14 "java/lang/IllegalArgumentException", Cond.classLink RL 29 "java/lang/IllegalStateException", Cond.constant RL 16 (-99999), Cond.methodLink RL 34 yX3_unlike, Cond.instanceMethod yX3_unlike, Cond.selects RX3 yX3_unlike yX3_unlike, Cond.initialized RX3, Cond.code yX3_unlike cX3_unlike 5 (some .int), Cond.fieldLink RX3 21 "DirtyTiles" "clients" "[LDirtyTiles$Client;", Cond.fieldLink RX3 10 "DirtyTiles" "screen" "LDirtyTiles$Screen;", Cond.methodLink RX3 42 yX3_isIndex, Cond.static yX3_isIndex, Cond.code yX3_isIndex cX3_isIndex 2 (some .boolean), Cond.methodLink RX3 38 yX3_requireArgument, Cond.static yX3_requireArgument, Cond.code yX3_requireArgument cX3_requireArgument 1 none, Cond.classLink RX3 145 "java/lang/IllegalArgumentException", Cond.initialized "java/lang/IllegalArgumentException", Cond.methodLink RX3 80 yX1_hasJoined, Cond.instanceMethod yX1_hasJoined, Cond.selects RX1 yX1_hasJoined yX1_hasJoined, Cond.initialized RX1, Cond.code yX1_hasJoined cX1_hasJoined 1 (some .boolean), Cond.fieldLink RX1 9 "DirtyTiles$Client" "joined" "Z"]
def wsL_unlike_r2 : List Cond := [Cond.methodLink RX3 84 yX3_requireState, Cond.static yX3_requireState, Cond.code yX3_requireState cX3_requireState 1 none, Cond.classLink RX3 150 "java/lang/IllegalStateException", Cond.initialized "java/lang/IllegalStateException", Cond.methodLink RX3 114 yX1_ownScreen, Cond.instanceMethod yX1_ownScreen, Cond.selects RX1 yX1_ownScreen yX1_ownScreen, Cond.code yX1_ownScreen cX1_ownScreen 1 (some (.object "DirtyTiles$Screen")), Cond.fieldLink RX1 18 "DirtyTiles$Client" "ownScreen" "LDirtyTiles$Screen;", Cond.methodLink RX3 69 yX2_cellsOf, Cond.instanceMethod yX2_cellsOf, Cond.selects RX2 yX2_cellsOf yX2_cellsOf, Cond.initialized RX2, Cond.code yX2_cellsOf cX2_cellsOf 2 (some .long), Cond.fieldLink RX2 9 "DirtyTiles$Screen" "tiles" "[J", Cond.methodLink RX3 118 yX3_countDifferent, Cond.static yX3_countDifferent, Cond.code yX3_countDifferent cX3_countDifferent 6 (some .int), Cond.methodLink RX3 182 yX3_cellAt, Cond.static yX3_cellAt, Cond.code yX3_cellAt cX3_cellAt 3 (some .int), Cond.constantLong RX3 180 (15)]
def wsL_unlike : List Cond := .codeWith yL_unlike cL_unlike 3 (some .int) [(0, 5, 6, 14), (0, 5, 10, 29)] :: ((wsL_unlike_r1 ++ wsL_unlike_r2) ++ wsX30 ++ wsX10 ++ wsX20 ++ (vx_atS RX3 149 "java/lang/IllegalArgumentException" ["java/lang/RuntimeException", "java/lang/Exception"]).filter goodWord ++ (vx_atS RX3 154 "java/lang/IllegalStateException" ["java/lang/RuntimeException", "java/lang/Exception"]).filter goodWord)
def wsL_act_r1 : List Cond := [Cond.methodLink RL 37 yL_low, Cond.static yL_low, Cond.initialized RL, Cond.code yL_low cL_low 2 (some .int), Cond.constant RL 7 (2147483647), Cond.methodLink RL 42 yL_join, Cond.static yL_join, Cond.codeWith yL_join cL_join 3 (some .int) [(0, 5, 6, 14)], Cond.classLink RL 14 "java/lang/IllegalArgumentException", Cond.constant RL 16 (-99999), Cond.methodLink RL 21 yX3_join, Cond.instanceMethod yX3_join, Cond.selects RX3 yX3_join yX3_join, Cond.initialized RX3, Cond.code yX3_join cX3_join 2 (some .int), Cond.fieldLink RX3 21 "DirtyTiles" "clients" "[LDirtyTiles$Client;", Cond.methodLink RX3 42 yX3_isIndex, Cond.static yX3_isIndex, Cond.code yX3_isIndex cX3_isIndex 2 (some .boolean), Cond.methodLink RX3 38 yX3_requireArgument, Cond.static yX3_requireArgument, Cond.code yX3_requireArgument cX3_requireArgument 1 none, Cond.classLink RX3 145 "java/lang/IllegalArgumentException", Cond.initialized "java/lang/IllegalArgumentException"]
def wsL_act_r2 : List Cond := [Cond.methodLink RX3 95 yX1_beginAnew, Cond.instanceMethod yX1_beginAnew, Cond.selects RX1 yX1_beginAnew yX1_beginAnew, Cond.initialized RX1, Cond.code yX1_beginAnew cX1_beginAnew 2 none, Cond.fieldLink RX1 9 "DirtyTiles$Client" "joined" "Z", Cond.fieldLink RX1 18 "DirtyTiles$Client" "ownScreen" "LDirtyTiles$Screen;", Cond.fieldLink RX1 25 "DirtyTiles$Client" "ownCache" "LDirtyTiles$Cache;", Cond.fieldLink RX1 29 "DirtyTiles$Client" "serverCache" "LDirtyTiles$Cache;", Cond.fieldLink RX1 47 "DirtyTiles$Client" "messageCount" "I", Cond.fieldLink RX1 32 "DirtyTiles$Client" "dirtyTiles" "[I", Cond.fieldLink RX1 36 "DirtyTiles$Client" "dirtyCount" "I", Cond.methodLink RX1 50 yX2_clear, Cond.instanceMethod yX2_clear, Cond.selects RX2 yX2_clear yX2_clear, Cond.initialized RX2, Cond.code yX2_clear cX2_clear 2 none, Cond.fieldLink RX2 9 "DirtyTiles$Screen" "tiles" "[J", Cond.methodLink RX1 53 yX0_clear, Cond.instanceMethod yX0_clear, Cond.selects RX0 yX0_clear yX0_clear, Cond.initialized RX0, Cond.code yX0_clear cX0_clear 1 none, Cond.fieldLink RX0 15 "DirtyTiles$Cache" "count" "I"]
def wsL_act_r3 : List Cond := [Cond.methodLink RX3 98 yX1_dirtyCount, Cond.instanceMethod yX1_dirtyCount, Cond.selects RX1 yX1_dirtyCount yX1_dirtyCount, Cond.code yX1_dirtyCount cX1_dirtyCount 1 (some .int), Cond.methodLink RL 45 yL_answer, Cond.static yL_answer, Cond.codeWith yL_answer cL_answer 3 (some .int) [(0, 5, 6, 14), (0, 5, 10, 29)], Cond.classLink RL 29 "java/lang/IllegalStateException", Cond.methodLink RL 31 yX3_answer, Cond.instanceMethod yX3_answer, Cond.selects RX3 yX3_answer yX3_answer, Cond.code yX3_answer cX3_answer 2 (some .int), Cond.methodLink RX3 80 yX1_hasJoined, Cond.instanceMethod yX1_hasJoined, Cond.selects RX1 yX1_hasJoined yX1_hasJoined, Cond.code yX1_hasJoined cX1_hasJoined 1 (some .boolean), Cond.methodLink RX3 84 yX3_requireState, Cond.static yX3_requireState, Cond.code yX3_requireState cX3_requireState 1 none, Cond.classLink RX3 150 "java/lang/IllegalStateException", Cond.initialized "java/lang/IllegalStateException", Cond.methodLink RX3 101 yX1_hasMessage, Cond.instanceMethod yX1_hasMessage, Cond.selects RX1 yX1_hasMessage yX1_hasMessage]
def wsL_act_r4 : List Cond := [Cond.code yX1_hasMessage cX1_hasMessage 1 (some .boolean), Cond.methodLink RX3 111 yX1_takeMessage, Cond.instanceMethod yX1_takeMessage, Cond.selects RX1 yX1_takeMessage yX1_takeMessage, Cond.code yX1_takeMessage cX1_takeMessage 3 (some .int), Cond.fieldLink RX1 40 "DirtyTiles$Client" "messageTiles" "[I", Cond.fieldLink RX1 43 "DirtyTiles$Client" "messageCells" "[J", Cond.methodLink RX1 58 yX2_replaceTile, Cond.instanceMethod yX2_replaceTile, Cond.selects RX2 yX2_replaceTile yX2_replaceTile, Cond.code yX2_replaceTile cX2_replaceTile 4 none, Cond.methodLink RX1 54 yX0_bringToFront, Cond.instanceMethod yX0_bringToFront, Cond.selects RX0 yX0_bringToFront yX0_bringToFront, Cond.code yX0_bringToFront cX0_bringToFront 5 none, Cond.methodLink RX0 23 Lib.Math.min.name, Cond.static Lib.Math.min.name, Cond.initialized "java/lang/Math", Cond.code Lib.Math.min.name Lib.Math.min.code 2 (some .int), Cond.fieldLink RX0 9 "DirtyTiles$Cache" "tiles" "[J", Cond.methodLink RX0 19 yX0_placeOf, Cond.instanceMethod yX0_placeOf, Cond.selects RX0 yX0_placeOf yX0_placeOf, Cond.code yX0_placeOf cX0_placeOf 4 (some .int)]
def wsL_act_r5 : List Cond := [Cond.methodLink RL 47 yL_ask, Cond.static yL_ask, Cond.codeWith yL_ask cL_ask 4 (some .int) [(0, 6, 7, 14), (0, 6, 11, 29)], Cond.methodLink RL 25 yX3_ask, Cond.instanceMethod yX3_ask, Cond.selects RX3 yX3_ask yX3_ask, Cond.code yX3_ask cX3_ask 3 (some .int), Cond.methodLink RX3 58 yX3_isBetween, Cond.static yX3_isBetween, Cond.code yX3_isBetween cX3_isBetween 3 (some .boolean), Cond.methodLink RX3 104 yX3_writeMessage, Cond.instanceMethod yX3_writeMessage, Cond.selects RX3 yX3_writeMessage yX3_writeMessage, Cond.code yX3_writeMessage cX3_writeMessage 11 none, Cond.fieldLink RX3 10 "DirtyTiles" "screen" "LDirtyTiles$Screen;", Cond.fieldLink RX3 25 "DirtyTiles" "tilesWritten" "[I", Cond.fieldLink RX3 29 "DirtyTiles" "unitsWritten" "I", Cond.methodLink RX3 129 yX1_dirtyTileAt, Cond.instanceMethod yX1_dirtyTileAt, Cond.selects RX1 yX1_dirtyTileAt yX1_dirtyTileAt, Cond.code yX1_dirtyTileAt cX1_dirtyTileAt 2 (some .int), Cond.methodLink RX3 69 yX2_cellsOf, Cond.instanceMethod yX2_cellsOf, Cond.selects RX2 yX2_cellsOf yX2_cellsOf]
def wsL_act_r6 : List Cond := [Cond.code yX2_cellsOf cX2_cellsOf 2 (some .long), Cond.methodLink RX3 87 yX1_serverCache, Cond.instanceMethod yX1_serverCache, Cond.selects RX1 yX1_serverCache yX1_serverCache, Cond.code yX1_serverCache cX1_serverCache 1 (some (.object "DirtyTiles$Cache")), Cond.methodLink RX3 91 yX3_cheapestWriting, Cond.static yX3_cheapestWriting, Cond.code yX3_cheapestWriting cX3_cheapestWriting 7 (some .int), Cond.methodLink RX3 169 yX3_unitsIn, Cond.static yX3_unitsIn, Cond.code yX3_unitsIn cX3_unitsIn 4 (some .int), Cond.methodLink RX3 173 yX0_holds, Cond.instanceMethod yX0_holds, Cond.selects RX0 yX0_holds yX0_holds, Cond.code yX0_holds cX0_holds 3 (some .boolean), Cond.methodLink RX3 73 yX3_countColours, Cond.static yX3_countColours, Cond.code yX3_countColours cX3_countColours 4 (some .int), Cond.methodLink RX3 182 yX3_cellAt, Cond.static yX3_cellAt, Cond.code yX3_cellAt cX3_cellAt 3 (some .int), Cond.constantLong RX3 180 (15), Cond.methodLink RX3 186 yJ6_bitCount_0f7a4, Cond.static yJ6_bitCount_0f7a4]
def wsL_act_r7 : List Cond := [Cond.initialized RJ6, Cond.code yJ6_bitCount_0f7a4 cJ6_bitCount_0f7a4 1 (some .int), Cond.constant RJ6 265 (1431655765), Cond.constant RJ6 266 (858993459), Cond.constant RJ6 267 (252645135), Cond.methodLink RX3 177 yX3_unitsByColours, Cond.static yX3_unitsByColours, Cond.code yX3_unitsByColours cX3_unitsByColours 1 (some .int), Cond.methodLink RX3 77 yX3_countRuns, Cond.static yX3_countRuns, Cond.code yX3_countRuns cX3_countRuns 4 (some .int), Cond.methodLink RX3 162 yX1_addToMessage, Cond.instanceMethod yX1_addToMessage, Cond.selects RX1 yX1_addToMessage yX1_addToMessage, Cond.code yX1_addToMessage cX1_addToMessage 4 none, Cond.methodLink RX3 166 yX1_cleanTilesOfMessage, Cond.instanceMethod yX1_cleanTilesOfMessage, Cond.selects RX1 yX1_cleanTilesOfMessage yX1_cleanTilesOfMessage, Cond.code yX1_cleanTilesOfMessage cX1_cleanTilesOfMessage 2 none, Cond.methodLink RX3 108 yX1_messageCount, Cond.instanceMethod yX1_messageCount, Cond.selects RX1 yX1_messageCount yX1_messageCount, Cond.code yX1_messageCount cX1_messageCount 1 (some .int), Cond.methodLink RL 50 yL_copy]
def wsL_act_r8 : List Cond := [Cond.static yL_copy, Cond.codeWith yL_copy cL_copy 8 (some .int) [(0, 13, 14, 14)], Cond.methodLink RL 17 yX3_copy, Cond.instanceMethod yX3_copy, Cond.selects RX3 yX3_copy yX3_copy, Cond.code yX3_copy cX3_copy 9 (some .int), Cond.fieldLink RX3 16 "DirtyTiles" "screenBefore" "LDirtyTiles$Screen;", Cond.methodLink RX3 34 yX3_isBox, Cond.static yX3_isBox, Cond.code yX3_isBox cX3_isBox 4 (some .boolean), Cond.methodLink RX3 62 yX3_isCell, Cond.static yX3_isCell, Cond.code yX3_isCell cX3_isCell 2 (some .boolean), Cond.methodLink RX3 46 yX2_become, Cond.instanceMethod yX2_become, Cond.selects RX2 yX2_become yX2_become, Cond.code yX2_become cX2_become 3 none, Cond.methodLink RX3 65 yX2_colourAt, Cond.instanceMethod yX2_colourAt, Cond.selects RX2 yX2_colourAt yX2_colourAt, Cond.code yX2_colourAt cX2_colourAt 3 (some .int), Cond.methodLink RX2 15 yX2_tileOf, Cond.static yX2_tileOf, Cond.code yX2_tileOf cX2_tileOf 2 (some .int)]
def wsL_act_r9 : List Cond := [Cond.methodLink RX2 19 yX2_placeInTile, Cond.static yX2_placeInTile, Cond.code yX2_placeInTile cX2_placeInTile 2 (some .int), Cond.methodLink RX3 50 yX2_paint, Cond.instanceMethod yX2_paint, Cond.selects RX2 yX2_paint yX2_paint, Cond.code yX2_paint cX2_paint 6 none, Cond.constantLong RX2 26 (15), Cond.constantLong RX2 28 (-1), Cond.methodLink RX3 54 yX3_noteChanges, Cond.instanceMethod yX3_noteChanges, Cond.selects RX3 yX3_noteChanges yX3_noteChanges, Cond.code yX3_noteChanges cX3_noteChanges 4 (some .int), Cond.methodLink RX3 118 yX3_countDifferent, Cond.static yX3_countDifferent, Cond.code yX3_countDifferent cX3_countDifferent 6 (some .int), Cond.methodLink RX3 155 yX3_makeDirtyForAll, Cond.instanceMethod yX3_makeDirtyForAll, Cond.selects RX3 yX3_makeDirtyForAll yX3_makeDirtyForAll, Cond.code yX3_makeDirtyForAll cX3_makeDirtyForAll 3 none, Cond.methodLink RX3 159 yX1_makeDirty, Cond.instanceMethod yX1_makeDirty, Cond.selects RX1 yX1_makeDirty yX1_makeDirty, Cond.code yX1_makeDirty cX1_makeDirty 3 none]
def wsL_act_r10 : List Cond := [Cond.methodLink RL 53 yL_fill, Cond.static yL_fill, Cond.codeWith yL_fill cL_fill 7 (some .int) [(0, 11, 12, 14)], Cond.methodLink RL 8 yX3_fill, Cond.instanceMethod yX3_fill, Cond.selects RX3 yX3_fill yX3_fill, Cond.code yX3_fill cX3_fill 8 (some .int)]
def wsL_act : List Cond := .code yL_act cL_act 8 (some .int) :: ((wsL_act_r1 ++ (wsL_act_r2 ++ (wsL_act_r3 ++ (wsL_act_r4 ++ (wsL_act_r5 ++ (wsL_act_r6 ++ (wsL_act_r7 ++ (wsL_act_r8 ++ (wsL_act_r9 ++ wsL_act_r10))))))))) ++ wsX30 ++ wsX10 ++ wsX20 ++ wsX00 ++ (vx_atS RX3 149 "java/lang/IllegalArgumentException" ["java/lang/RuntimeException", "java/lang/Exception"]).filter goodWord ++ (vx_atS RX3 154 "java/lang/IllegalStateException" ["java/lang/RuntimeException", "java/lang/Exception"]).filter goodWord)
def wsL_areAlike_r1 : List Cond := [Cond.methodLink RL 56 yX3_units, Cond.instanceMethod yX3_units, Cond.selects RX3 yX3_units yX3_units, Cond.initialized RX3, Cond.code yX3_units cX3_units 1 (some .int), Cond.fieldLink RX3 29 "DirtyTiles" "unitsWritten" "I", Cond.methodLink RL 60 yL_unlike, Cond.static yL_unlike, Cond.initialized RL, Cond.codeWith yL_unlike cL_unlike 3 (some .int) [(0, 5, 6, 14), (0, 5, 10, 29)], Cond.classLink RL 14 "java/lang/IllegalArgumentException", Cond.classLink RL 29 "java/lang/IllegalStateException", Cond.constant RL 16 (-99999), Cond.methodLink RL 34 yX3_unlike, Cond.instanceMethod yX3_unlike, Cond.selects RX3 yX3_unlike yX3_unlike, Cond.code yX3_unlike cX3_unlike 5 (some .int), Cond.fieldLink RX3 21 "DirtyTiles" "clients" "[LDirtyTiles$Client;", Cond.fieldLink RX3 10 "DirtyTiles" "screen" "LDirtyTiles$Screen;", Cond.methodLink RX3 42 yX3_isIndex, Cond.static yX3_isIndex, Cond.code yX3_isIndex cX3_isIndex 2 (some .boolean), Cond.methodLink RX3 38 yX3_requireArgument, Cond.static yX3_requireArgument]
def wsL_areAlike_r2 : List Cond := [Cond.code yX3_requireArgument cX3_requireArgument 1 none, Cond.classLink RX3 145 "java/lang/IllegalArgumentException", Cond.initialized "java/lang/IllegalArgumentException", Cond.methodLink RX3 80 yX1_hasJoined, Cond.instanceMethod yX1_hasJoined, Cond.selects RX1 yX1_hasJoined yX1_hasJoined, Cond.initialized RX1, Cond.code yX1_hasJoined cX1_hasJoined 1 (some .boolean), Cond.fieldLink RX1 9 "DirtyTiles$Client" "joined" "Z", Cond.methodLink RX3 84 yX3_requireState, Cond.static yX3_requireState, Cond.code yX3_requireState cX3_requireState 1 none, Cond.classLink RX3 150 "java/lang/IllegalStateException", Cond.initialized "java/lang/IllegalStateException", Cond.methodLink RX3 114 yX1_ownScreen, Cond.instanceMethod yX1_ownScreen, Cond.selects RX1 yX1_ownScreen yX1_ownScreen, Cond.code yX1_ownScreen cX1_ownScreen 1 (some (.object "DirtyTiles$Screen")), Cond.fieldLink RX1 18 "DirtyTiles$Client" "ownScreen" "LDirtyTiles$Screen;", Cond.methodLink RX3 69 yX2_cellsOf, Cond.instanceMethod yX2_cellsOf, Cond.selects RX2 yX2_cellsOf yX2_cellsOf, Cond.initialized RX2, Cond.code yX2_cellsOf cX2_cellsOf 2 (some .long)]
def wsL_areAlike_r3 : List Cond := [Cond.fieldLink RX2 9 "DirtyTiles$Screen" "tiles" "[J", Cond.methodLink RX3 118 yX3_countDifferent, Cond.static yX3_countDifferent, Cond.code yX3_countDifferent cX3_countDifferent 6 (some .int), Cond.methodLink RX3 182 yX3_cellAt, Cond.static yX3_cellAt, Cond.code yX3_cellAt cX3_cellAt 3 (some .int), Cond.constantLong RX3 180 (15), Cond.methodLink RL 62 yX3_runs, Cond.instanceMethod yX3_runs, Cond.selects RX3 yX3_runs yX3_runs, Cond.code yX3_runs cX3_runs 2 (some .int), Cond.methodLink RX3 77 yX3_countRuns, Cond.static yX3_countRuns, Cond.code yX3_countRuns cX3_countRuns 4 (some .int), Cond.methodLink RL 65 yX3_colours, Cond.instanceMethod yX3_colours, Cond.selects RX3 yX3_colours yX3_colours, Cond.code yX3_colours cX3_colours 2 (some .int), Cond.methodLink RX3 73 yX3_countColours, Cond.static yX3_countColours, Cond.code yX3_countColours cX3_countColours 4 (some .int), Cond.methodLink RX3 186 yJ6_bitCount_0f7a4, Cond.static yJ6_bitCount_0f7a4]
def wsL_areAlike_r4 : List Cond := [Cond.initialized RJ6, Cond.code yJ6_bitCount_0f7a4 cJ6_bitCount_0f7a4 1 (some .int), Cond.constant RJ6 265 (1431655765), Cond.constant RJ6 266 (858993459), Cond.constant RJ6 267 (252645135), Cond.methodLink RL 68 yX3_written, Cond.instanceMethod yX3_written, Cond.selects RX3 yX3_written yX3_written, Cond.code yX3_written cX3_written 2 (some .int), Cond.fieldLink RX3 25 "DirtyTiles" "tilesWritten" "[I"]
def wsL_areAlike : List Cond := .code yL_areAlike cL_areAlike 4 (some .boolean) :: ((wsL_areAlike_r1 ++ (wsL_areAlike_r2 ++ (wsL_areAlike_r3 ++ wsL_areAlike_r4))) ++ wsX30 ++ wsX10 ++ wsX20 ++ (vx_atS RX3 149 "java/lang/IllegalArgumentException" ["java/lang/RuntimeException", "java/lang/Exception"]).filter goodWord ++ (vx_atS RX3 154 "java/lang/IllegalStateException" ["java/lang/RuntimeException", "java/lang/Exception"]).filter goodWord)
def wsL_areTilesSo_r1 : List Cond := [Cond.methodLink RL 71 yX3_dirty, Cond.instanceMethod yX3_dirty, Cond.selects RX3 yX3_dirty yX3_dirty, Cond.initialized RX3, Cond.code yX3_dirty cX3_dirty 2 (some .int), Cond.fieldLink RX3 21 "DirtyTiles" "clients" "[LDirtyTiles$Client;", Cond.methodLink RX3 42 yX3_isIndex, Cond.static yX3_isIndex, Cond.code yX3_isIndex cX3_isIndex 2 (some .boolean), Cond.methodLink RX3 38 yX3_requireArgument, Cond.static yX3_requireArgument, Cond.code yX3_requireArgument cX3_requireArgument 1 none, Cond.classLink RX3 145 "java/lang/IllegalArgumentException", Cond.initialized "java/lang/IllegalArgumentException", Cond.methodLink RX3 80 yX1_hasJoined, Cond.instanceMethod yX1_hasJoined, Cond.selects RX1 yX1_hasJoined yX1_hasJoined, Cond.initialized RX1, Cond.code yX1_hasJoined cX1_hasJoined 1 (some .boolean), Cond.fieldLink RX1 9 "DirtyTiles$Client" "joined" "Z", Cond.methodLink RX3 84 yX3_requireState, Cond.static yX3_requireState, Cond.code yX3_requireState cX3_requireState 1 none, Cond.classLink RX3 150 "java/lang/IllegalStateException"]
def wsL_areTilesSo_r2 : List Cond := [Cond.initialized "java/lang/IllegalStateException", Cond.methodLink RX3 98 yX1_dirtyCount, Cond.instanceMethod yX1_dirtyCount, Cond.selects RX1 yX1_dirtyCount yX1_dirtyCount, Cond.code yX1_dirtyCount cX1_dirtyCount 1 (some .int), Cond.fieldLink RX1 36 "DirtyTiles$Client" "dirtyCount" "I", Cond.methodLink RL 74 yX3_dirtyAt, Cond.instanceMethod yX3_dirtyAt, Cond.selects RX3 yX3_dirtyAt yX3_dirtyAt, Cond.code yX3_dirtyAt cX3_dirtyAt 3 (some .int), Cond.classLink RX3 122 "java/lang/IndexOutOfBoundsException", Cond.initialized "java/lang/IndexOutOfBoundsException", Cond.methodLink RX3 129 yX1_dirtyTileAt, Cond.instanceMethod yX1_dirtyTileAt, Cond.selects RX1 yX1_dirtyTileAt yX1_dirtyTileAt, Cond.code yX1_dirtyTileAt cX1_dirtyTileAt 2 (some .int), Cond.fieldLink RX1 32 "DirtyTiles$Client" "dirtyTiles" "[I", Cond.methodLink RL 65 yX3_colours, Cond.instanceMethod yX3_colours, Cond.selects RX3 yX3_colours yX3_colours, Cond.code yX3_colours cX3_colours 2 (some .int), Cond.fieldLink RX3 10 "DirtyTiles" "screen" "LDirtyTiles$Screen;", Cond.methodLink RX3 69 yX2_cellsOf, Cond.instanceMethod yX2_cellsOf]
def wsL_areTilesSo_r3 : List Cond := [Cond.selects RX2 yX2_cellsOf yX2_cellsOf, Cond.initialized RX2, Cond.code yX2_cellsOf cX2_cellsOf 2 (some .long), Cond.fieldLink RX2 9 "DirtyTiles$Screen" "tiles" "[J", Cond.methodLink RX3 73 yX3_countColours, Cond.static yX3_countColours, Cond.code yX3_countColours cX3_countColours 4 (some .int), Cond.methodLink RX3 182 yX3_cellAt, Cond.static yX3_cellAt, Cond.code yX3_cellAt cX3_cellAt 3 (some .int), Cond.constantLong RX3 180 (15), Cond.methodLink RX3 186 yJ6_bitCount_0f7a4, Cond.static yJ6_bitCount_0f7a4, Cond.initialized RJ6, Cond.code yJ6_bitCount_0f7a4 cJ6_bitCount_0f7a4 1 (some .int), Cond.constant RJ6 265 (1431655765), Cond.constant RJ6 266 (858993459), Cond.constant RJ6 267 (252645135), Cond.methodLink RL 62 yX3_runs, Cond.instanceMethod yX3_runs, Cond.selects RX3 yX3_runs yX3_runs, Cond.code yX3_runs cX3_runs 2 (some .int), Cond.methodLink RX3 77 yX3_countRuns, Cond.static yX3_countRuns]
def wsL_areTilesSo_r4 : List Cond := [Cond.code yX3_countRuns cX3_countRuns 4 (some .int), Cond.methodLink RL 77 yX3_way, Cond.instanceMethod yX3_way, Cond.selects RX3 yX3_way yX3_way, Cond.code yX3_way cX3_way 3 (some .int), Cond.methodLink RX3 87 yX1_serverCache, Cond.instanceMethod yX1_serverCache, Cond.selects RX1 yX1_serverCache yX1_serverCache, Cond.code yX1_serverCache cX1_serverCache 1 (some (.object "DirtyTiles$Cache")), Cond.fieldLink RX1 29 "DirtyTiles$Client" "serverCache" "LDirtyTiles$Cache;", Cond.methodLink RX3 91 yX3_cheapestWriting, Cond.static yX3_cheapestWriting, Cond.code yX3_cheapestWriting cX3_cheapestWriting 7 (some .int), Cond.methodLink RX3 169 yX3_unitsIn, Cond.static yX3_unitsIn, Cond.code yX3_unitsIn cX3_unitsIn 4 (some .int), Cond.methodLink RX3 173 yX0_holds, Cond.instanceMethod yX0_holds, Cond.selects RX0 yX0_holds yX0_holds, Cond.initialized RX0, Cond.code yX0_holds cX0_holds 3 (some .boolean), Cond.fieldLink RX0 15 "DirtyTiles$Cache" "count" "I", Cond.methodLink RX0 19 yX0_placeOf, Cond.instanceMethod yX0_placeOf]
def wsL_areTilesSo_r5 : List Cond := [Cond.selects RX0 yX0_placeOf yX0_placeOf, Cond.code yX0_placeOf cX0_placeOf 4 (some .int), Cond.fieldLink RX0 9 "DirtyTiles$Cache" "tiles" "[J", Cond.methodLink RX3 177 yX3_unitsByColours, Cond.static yX3_unitsByColours, Cond.code yX3_unitsByColours cX3_unitsByColours 1 (some .int), Cond.methodLink RL 80 yX3_cached, Cond.instanceMethod yX3_cached, Cond.selects RX3 yX3_cached yX3_cached, Cond.code yX3_cached cX3_cached 2 (some .int), Cond.methodLink RX3 133 yX1_ownCache, Cond.instanceMethod yX1_ownCache, Cond.selects RX1 yX1_ownCache yX1_ownCache, Cond.code yX1_ownCache cX1_ownCache 1 (some (.object "DirtyTiles$Cache")), Cond.fieldLink RX1 25 "DirtyTiles$Client" "ownCache" "LDirtyTiles$Cache;", Cond.methodLink RX3 136 yX0_size, Cond.instanceMethod yX0_size, Cond.selects RX0 yX0_size yX0_size, Cond.code yX0_size cX0_size 1 (some .int)]
def wsL_areTilesSo : List Cond := .code yL_areTilesSo cL_areTilesSo 11 (some .boolean) :: ((wsL_areTilesSo_r1 ++ (wsL_areTilesSo_r2 ++ (wsL_areTilesSo_r3 ++ (wsL_areTilesSo_r4 ++ wsL_areTilesSo_r5)))) ++ wsX30 ++ wsX10 ++ wsX20 ++ wsX00 ++ (vx_atS RX3 149 "java/lang/IllegalArgumentException" ["java/lang/RuntimeException", "java/lang/Exception"]).filter goodWord ++ (vx_atS RX3 154 "java/lang/IllegalStateException" ["java/lang/RuntimeException", "java/lang/Exception"]).filter goodWord ++ (vx_atS RX3 126 "java/lang/IndexOutOfBoundsException" ["java/lang/RuntimeException", "java/lang/Exception"]).filter goodWord)
def wsL_isShownSo_r1 : List Cond := [Cond.constant RL 16 (-99999), Cond.methodLink RL 45 yL_answer, Cond.static yL_answer, Cond.initialized RL, Cond.codeWith yL_answer cL_answer 3 (some .int) [(0, 5, 6, 14), (0, 5, 10, 29)], Cond.classLink RL 14 "java/lang/IllegalArgumentException", Cond.classLink RL 29 "java/lang/IllegalStateException", Cond.methodLink RL 31 yX3_answer, Cond.instanceMethod yX3_answer, Cond.selects RX3 yX3_answer yX3_answer, Cond.initialized RX3, Cond.code yX3_answer cX3_answer 2 (some .int), Cond.fieldLink RX3 21 "DirtyTiles" "clients" "[LDirtyTiles$Client;", Cond.methodLink RX3 42 yX3_isIndex, Cond.static yX3_isIndex, Cond.code yX3_isIndex cX3_isIndex 2 (some .boolean), Cond.methodLink RX3 38 yX3_requireArgument, Cond.static yX3_requireArgument, Cond.code yX3_requireArgument cX3_requireArgument 1 none, Cond.classLink RX3 145 "java/lang/IllegalArgumentException", Cond.initialized "java/lang/IllegalArgumentException", Cond.methodLink RX3 80 yX1_hasJoined, Cond.instanceMethod yX1_hasJoined, Cond.selects RX1 yX1_hasJoined yX1_hasJoined]
def wsL_isShownSo_r2 : List Cond := [Cond.initialized RX1, Cond.code yX1_hasJoined cX1_hasJoined 1 (some .boolean), Cond.fieldLink RX1 9 "DirtyTiles$Client" "joined" "Z", Cond.methodLink RX3 84 yX3_requireState, Cond.static yX3_requireState, Cond.code yX3_requireState cX3_requireState 1 none, Cond.classLink RX3 150 "java/lang/IllegalStateException", Cond.initialized "java/lang/IllegalStateException", Cond.methodLink RX3 101 yX1_hasMessage, Cond.instanceMethod yX1_hasMessage, Cond.selects RX1 yX1_hasMessage yX1_hasMessage, Cond.code yX1_hasMessage cX1_hasMessage 1 (some .boolean), Cond.fieldLink RX1 47 "DirtyTiles$Client" "messageCount" "I", Cond.methodLink RX3 111 yX1_takeMessage, Cond.instanceMethod yX1_takeMessage, Cond.selects RX1 yX1_takeMessage yX1_takeMessage, Cond.code yX1_takeMessage cX1_takeMessage 3 (some .int), Cond.fieldLink RX1 18 "DirtyTiles$Client" "ownScreen" "LDirtyTiles$Screen;", Cond.fieldLink RX1 40 "DirtyTiles$Client" "messageTiles" "[I", Cond.fieldLink RX1 43 "DirtyTiles$Client" "messageCells" "[J", Cond.fieldLink RX1 25 "DirtyTiles$Client" "ownCache" "LDirtyTiles$Cache;", Cond.methodLink RX1 58 yX2_replaceTile, Cond.instanceMethod yX2_replaceTile, Cond.selects RX2 yX2_replaceTile yX2_replaceTile]
def wsL_isShownSo_r3 : List Cond := [Cond.initialized RX2, Cond.code yX2_replaceTile cX2_replaceTile 4 none, Cond.fieldLink RX2 9 "DirtyTiles$Screen" "tiles" "[J", Cond.methodLink RX1 54 yX0_bringToFront, Cond.instanceMethod yX0_bringToFront, Cond.selects RX0 yX0_bringToFront yX0_bringToFront, Cond.initialized RX0, Cond.code yX0_bringToFront cX0_bringToFront 5 none, Cond.fieldLink RX0 15 "DirtyTiles$Cache" "count" "I", Cond.methodLink RX0 23 Lib.Math.min.name, Cond.static Lib.Math.min.name, Cond.initialized "java/lang/Math", Cond.code Lib.Math.min.name Lib.Math.min.code 2 (some .int), Cond.fieldLink RX0 9 "DirtyTiles$Cache" "tiles" "[J", Cond.methodLink RX0 19 yX0_placeOf, Cond.instanceMethod yX0_placeOf, Cond.selects RX0 yX0_placeOf yX0_placeOf, Cond.code yX0_placeOf cX0_placeOf 4 (some .int), Cond.methodLink RL 83 yX3_isAlike, Cond.instanceMethod yX3_isAlike, Cond.selects RX3 yX3_isAlike yX3_isAlike, Cond.code yX3_isAlike cX3_isAlike 2 (some .boolean), Cond.methodLink RX3 87 yX1_serverCache, Cond.instanceMethod yX1_serverCache]
def wsL_isShownSo_r4 : List Cond := [Cond.selects RX1 yX1_serverCache yX1_serverCache, Cond.code yX1_serverCache cX1_serverCache 1 (some (.object "DirtyTiles$Cache")), Cond.fieldLink RX1 29 "DirtyTiles$Client" "serverCache" "LDirtyTiles$Cache;", Cond.methodLink RX3 133 yX1_ownCache, Cond.instanceMethod yX1_ownCache, Cond.selects RX1 yX1_ownCache yX1_ownCache, Cond.code yX1_ownCache cX1_ownCache 1 (some (.object "DirtyTiles$Cache")), Cond.methodLink RX3 141 yX0_hasSameTilesAs, Cond.instanceMethod yX0_hasSameTilesAs, Cond.selects RX0 yX0_hasSameTilesAs yX0_hasSameTilesAs, Cond.code yX0_hasSameTilesAs cX0_hasSameTilesAs 3 (some .boolean), Cond.methodLink RL 71 yX3_dirty, Cond.instanceMethod yX3_dirty, Cond.selects RX3 yX3_dirty yX3_dirty, Cond.code yX3_dirty cX3_dirty 2 (some .int), Cond.methodLink RX3 98 yX1_dirtyCount, Cond.instanceMethod yX1_dirtyCount, Cond.selects RX1 yX1_dirtyCount yX1_dirtyCount, Cond.code yX1_dirtyCount cX1_dirtyCount 1 (some .int), Cond.fieldLink RX1 36 "DirtyTiles$Client" "dirtyCount" "I", Cond.methodLink RL 56 yX3_units, Cond.instanceMethod yX3_units, Cond.selects RX3 yX3_units yX3_units, Cond.code yX3_units cX3_units 1 (some .int)]
def wsL_isShownSo_r5 : List Cond := [Cond.fieldLink RX3 29 "DirtyTiles" "unitsWritten" "I", Cond.methodLink RL 25 yX3_ask, Cond.instanceMethod yX3_ask, Cond.selects RX3 yX3_ask yX3_ask, Cond.code yX3_ask cX3_ask 3 (some .int), Cond.methodLink RX3 58 yX3_isBetween, Cond.static yX3_isBetween, Cond.code yX3_isBetween cX3_isBetween 3 (some .boolean), Cond.methodLink RX3 104 yX3_writeMessage, Cond.instanceMethod yX3_writeMessage, Cond.selects RX3 yX3_writeMessage yX3_writeMessage, Cond.code yX3_writeMessage cX3_writeMessage 11 none, Cond.fieldLink RX3 10 "DirtyTiles" "screen" "LDirtyTiles$Screen;", Cond.fieldLink RX3 25 "DirtyTiles" "tilesWritten" "[I", Cond.methodLink RX3 129 yX1_dirtyTileAt, Cond.instanceMethod yX1_dirtyTileAt, Cond.selects RX1 yX1_dirtyTileAt yX1_dirtyTileAt, Cond.code yX1_dirtyTileAt cX1_dirtyTileAt 2 (some .int), Cond.fieldLink RX1 32 "DirtyTiles$Client" "dirtyTiles" "[I", Cond.methodLink RX3 69 yX2_cellsOf, Cond.instanceMethod yX2_cellsOf, Cond.selects RX2 yX2_cellsOf yX2_cellsOf, Cond.code yX2_cellsOf cX2_cellsOf 2 (some .long), Cond.methodLink RX3 91 yX3_cheapestWriting]
def wsL_isShownSo_r6 : List Cond := [Cond.static yX3_cheapestWriting, Cond.code yX3_cheapestWriting cX3_cheapestWriting 7 (some .int), Cond.methodLink RX3 169 yX3_unitsIn, Cond.static yX3_unitsIn, Cond.code yX3_unitsIn cX3_unitsIn 4 (some .int), Cond.methodLink RX3 173 yX0_holds, Cond.instanceMethod yX0_holds, Cond.selects RX0 yX0_holds yX0_holds, Cond.code yX0_holds cX0_holds 3 (some .boolean), Cond.methodLink RX3 73 yX3_countColours, Cond.static yX3_countColours, Cond.code yX3_countColours cX3_countColours 4 (some .int), Cond.methodLink RX3 182 yX3_cellAt, Cond.static yX3_cellAt, Cond.code yX3_cellAt cX3_cellAt 3 (some .int), Cond.constantLong RX3 180 (15), Cond.methodLink RX3 186 yJ6_bitCount_0f7a4, Cond.static yJ6_bitCount_0f7a4, Cond.initialized RJ6, Cond.code yJ6_bitCount_0f7a4 cJ6_bitCount_0f7a4 1 (some .int), Cond.constant RJ6 265 (1431655765), Cond.constant RJ6 266 (858993459), Cond.constant RJ6 267 (252645135), Cond.methodLink RX3 177 yX3_unitsByColours]
def wsL_isShownSo_r7 : List Cond := [Cond.static yX3_unitsByColours, Cond.code yX3_unitsByColours cX3_unitsByColours 1 (some .int), Cond.methodLink RX3 77 yX3_countRuns, Cond.static yX3_countRuns, Cond.code yX3_countRuns cX3_countRuns 4 (some .int), Cond.methodLink RX3 162 yX1_addToMessage, Cond.instanceMethod yX1_addToMessage, Cond.selects RX1 yX1_addToMessage yX1_addToMessage, Cond.code yX1_addToMessage cX1_addToMessage 4 none, Cond.methodLink RX3 166 yX1_cleanTilesOfMessage, Cond.instanceMethod yX1_cleanTilesOfMessage, Cond.selects RX1 yX1_cleanTilesOfMessage yX1_cleanTilesOfMessage, Cond.code yX1_cleanTilesOfMessage cX1_cleanTilesOfMessage 2 none, Cond.methodLink RX3 108 yX1_messageCount, Cond.instanceMethod yX1_messageCount, Cond.selects RX1 yX1_messageCount yX1_messageCount, Cond.code yX1_messageCount cX1_messageCount 1 (some .int), Cond.methodLink RL 34 yX3_unlike, Cond.instanceMethod yX3_unlike, Cond.selects RX3 yX3_unlike yX3_unlike, Cond.code yX3_unlike cX3_unlike 5 (some .int), Cond.methodLink RX3 114 yX1_ownScreen, Cond.instanceMethod yX1_ownScreen, Cond.selects RX1 yX1_ownScreen yX1_ownScreen]
def wsL_isShownSo_r8 : List Cond := [Cond.code yX1_ownScreen cX1_ownScreen 1 (some (.object "DirtyTiles$Screen")), Cond.methodLink RX3 118 yX3_countDifferent, Cond.static yX3_countDifferent, Cond.code yX3_countDifferent cX3_countDifferent 6 (some .int)]
def wsL_isShownSo : List Cond := .code yL_isShownSo cL_isShownSo 6 (some .boolean) :: ((wsL_isShownSo_r1 ++ (wsL_isShownSo_r2 ++ (wsL_isShownSo_r3 ++ (wsL_isShownSo_r4 ++ (wsL_isShownSo_r5 ++ (wsL_isShownSo_r6 ++ (wsL_isShownSo_r7 ++ wsL_isShownSo_r8))))))) ++ wsX30 ++ wsX10 ++ wsX20 ++ wsX00 ++ (vx_atS RX3 149 "java/lang/IllegalArgumentException" ["java/lang/RuntimeException", "java/lang/Exception"]).filter goodWord ++ (vx_atS RX3 154 "java/lang/IllegalStateException" ["java/lang/RuntimeException", "java/lang/Exception"]).filter goodWord)
theorem dX0_init_0 : decode cX0_init 0 = .ok (.aload_n 0, 1) := by decide +kernel
theorem dX0_init_1 : decode cX0_init 1 = .ok (.invokespecial 3, 3) := by decide +kernel
theorem dX0_init_4 : decode cX0_init 4 = .ok (.aload_n 0, 1) := by decide +kernel
theorem dX0_init_5 : decode cX0_init 5 = .ok (.bipush 6, 2) := by decide +kernel
theorem dX0_init_7 : decode cX0_init 7 = .ok (.newarray .long, 2) := by decide +kernel
theorem dX0_init_9 : decode cX0_init 9 = .ok (.putfield 9, 3) := by decide +kernel
theorem dX0_init_12 : decode cX0_init 12 = .ok (.aload_n 0, 1) := by decide +kernel
theorem dX0_init_13 : decode cX0_init 13 = .ok (.iconst 0, 1) := by decide +kernel
theorem dX0_init_14 : decode cX0_init 14 = .ok (.putfield 15, 3) := by decide +kernel
theorem dX0_init_17 : decode cX0_init 17 = .ok (.return_, 1) := by decide +kernel
theorem dX0_size_0 : decode cX0_size 0 = .ok (.aload_n 0, 1) := by decide +kernel
theorem dX0_size_1 : decode cX0_size 1 = .ok (.getfield 15, 3) := by decide +kernel
theorem dX0_size_4 : decode cX0_size 4 = .ok (.ireturn, 1) := by decide +kernel
theorem dX0_clear_0 : decode cX0_clear 0 = .ok (.aload_n 0, 1) := by decide +kernel
theorem dX0_clear_1 : decode cX0_clear 1 = .ok (.iconst 0, 1) := by decide +kernel
theorem dX0_clear_2 : decode cX0_clear 2 = .ok (.putfield 15, 3) := by decide +kernel
theorem dX0_clear_5 : decode cX0_clear 5 = .ok (.return_, 1) := by decide +kernel
set_option maxRecDepth 20000 in
theorem ggX0_holds_X0_placeOf : GoodIn wsX0_holds wsX0_placeOf := goodIn_r _ [6, 1, 7, 8, 9] (by decide +kernel) (by decide +kernel)
set_option maxRecDepth 20000 in
theorem gX0_holds_X0_placeOf : GoodIn wsX0_holds (wsV RX0 19 RX0 yX0_placeOf wsX0_placeOf) := goodIn_app (goodIn_of _ (by decide +kernel)) ggX0_holds_X0_placeOf
theorem dX0_holds_0 : decode cX0_holds 0 = .ok (.aload_n 0, 1) := by decide +kernel
theorem dX0_holds_1 : decode cX0_holds 1 = .ok (.lload_n 1, 1) := by decide +kernel
theorem dX0_holds_2 : decode cX0_holds 2 = .ok (.invokevirtual 19, 3) := by decide +kernel
theorem dX0_holds_5 : decode cX0_holds 5 = .ok (.aload_n 0, 1) := by decide +kernel
theorem dX0_holds_6 : decode cX0_holds 6 = .ok (.getfield 15, 3) := by decide +kernel
theorem dX0_holds_9 : decode cX0_holds 9 = .ok (.if_icmp .ge 7, 3) := by decide +kernel
theorem dX0_holds_12 : decode cX0_holds 12 = .ok (.iconst 1, 1) := by decide +kernel
theorem dX0_holds_13 : decode cX0_holds 13 = .ok (.goto 4, 3) := by decide +kernel
theorem dX0_holds_16 : decode cX0_holds 16 = .ok (.iconst 0, 1) := by decide +kernel
theorem dX0_holds_17 : decode cX0_holds 17 = .ok (.ireturn, 1) := by decide +kernel
set_option maxRecDepth 20000 in
theorem ggX0_bringToFront_X0_placeOf : GoodIn wsX0_bringToFront wsX0_placeOf := goodIn_r _ [11, 1, 6, 12, 13] (by decide +kernel) (by decide +kernel)
set_option maxRecDepth 20000 in
theorem gX0_bringToFront_X0_placeOf : GoodIn wsX0_bringToFront (wsV RX0 19 RX0 yX0_placeOf wsX0_placeOf) := goodIn_app (goodIn_of _ (by decide +kernel)) ggX0_bringToFront_X0_placeOf
theorem dX0_bringToFront_0 : decode cX0_bringToFront 0 = .ok (.aload_n 0, 1) := by decide +kernel
theorem dX0_bringToFront_1 : decode cX0_bringToFront 1 = .ok (.lload_n 1, 1) := by decide +kernel
theorem dX0_bringToFront_2 : decode cX0_bringToFront 2 = .ok (.invokevirtual 19, 3) := by decide +kernel
theorem dX0_bringToFront_5 : decode cX0_bringToFront 5 = .ok (.istore_n 3, 1) := by decide +kernel
theorem dX0_bringToFront_6 : decode cX0_bringToFront 6 = .ok (.iload_n 3, 1) := by decide +kernel
theorem dX0_bringToFront_7 : decode cX0_bringToFront 7 = .ok (.aload_n 0, 1) := by decide +kernel
theorem dX0_bringToFront_8 : decode cX0_bringToFront 8 = .ok (.getfield 15, 3) := by decide +kernel
theorem dX0_bringToFront_11 : decode cX0_bringToFront 11 = .ok (.if_icmp .ne 22, 3) := by decide +kernel
theorem dX0_bringToFront_14 : decode cX0_bringToFront 14 = .ok (.aload_n 0, 1) := by decide +kernel
theorem dX0_bringToFront_15 : decode cX0_bringToFront 15 = .ok (.getfield 15, 3) := by decide +kernel
theorem dX0_bringToFront_18 : decode cX0_bringToFront 18 = .ok (.bipush 6, 2) := by decide +kernel
theorem dX0_bringToFront_20 : decode cX0_bringToFront 20 = .ok (.if_icmp .ge 13, 3) := by decide +kernel
theorem dX0_bringToFront_23 : decode cX0_bringToFront 23 = .ok (.aload_n 0, 1) := by decide +kernel
theorem dX0_bringToFront_24 : decode cX0_bringToFront 24 = .ok (.dup, 1) := by decide +kernel
theorem dX0_bringToFront_25 : decode cX0_bringToFront 25 = .ok (.getfield 15, 3) := by decide +kernel
theorem dX0_bringToFront_28 : decode cX0_bringToFront 28 = .ok (.iconst 1, 1) := by decide +kernel
theorem dX0_bringToFront_29 : decode cX0_bringToFront 29 = .ok (.iadd, 1) := by decide +kernel
theorem dX0_bringToFront_30 : decode cX0_bringToFront 30 = .ok (.putfield 15, 3) := by decide +kernel
theorem dX0_bringToFront_33 : decode cX0_bringToFront 33 = .ok (.iload_n 3, 1) := by decide +kernel
theorem dX0_bringToFront_34 : decode cX0_bringToFront 34 = .ok (.iconst 5, 1) := by decide +kernel
theorem dX0_bringToFront_35 : decode cX0_bringToFront 35 = .ok (.invokestatic 23, 3) := by decide +kernel
theorem dX0_bringToFront_38 : decode cX0_bringToFront 38 = .ok (.istore 4, 2) := by decide +kernel
theorem dX0_bringToFront_40 : decode cX0_bringToFront 40 = .ok (.iload 4, 2) := by decide +kernel
theorem dX0_bringToFront_42 : decode cX0_bringToFront 42 = .ok (.ifCond .le 25, 3) := by decide +kernel
theorem dX0_bringToFront_45 : decode cX0_bringToFront 45 = .ok (.aload_n 0, 1) := by decide +kernel
theorem dX0_bringToFront_46 : decode cX0_bringToFront 46 = .ok (.getfield 9, 3) := by decide +kernel
theorem dX0_bringToFront_49 : decode cX0_bringToFront 49 = .ok (.iload 4, 2) := by decide +kernel
theorem dX0_bringToFront_51 : decode cX0_bringToFront 51 = .ok (.aload_n 0, 1) := by decide +kernel
theorem dX0_bringToFront_52 : decode cX0_bringToFront 52 = .ok (.getfield 9, 3) := by decide +kernel
theorem dX0_bringToFront_55 : decode cX0_bringToFront 55 = .ok (.iload 4, 2) := by decide +kernel
theorem dX0_bringToFront_57 : decode cX0_bringToFront 57 = .ok (.iconst 1, 1) := by decide +kernel
theorem dX0_bringToFront_58 : decode cX0_bringToFront 58 = .ok (.isub, 1) := by decide +kernel
theorem dX0_bringToFront_59 : decode cX0_bringToFront 59 = .ok (.laload, 1) := by decide +kernel
theorem dX0_bringToFront_60 : decode cX0_bringToFront 60 = .ok (.lastore, 1) := by decide +kernel
theorem dX0_bringToFront_61 : decode cX0_bringToFront 61 = .ok (.iinc 4 (-1), 3) := by decide +kernel
theorem dX0_bringToFront_64 : decode cX0_bringToFront 64 = .ok (.goto (-24), 3) := by decide +kernel
theorem dX0_bringToFront_67 : decode cX0_bringToFront 67 = .ok (.aload_n 0, 1) := by decide +kernel
theorem dX0_bringToFront_68 : decode cX0_bringToFront 68 = .ok (.getfield 9, 3) := by decide +kernel
theorem dX0_bringToFront_71 : decode cX0_bringToFront 71 = .ok (.iconst 0, 1) := by decide +kernel
theorem dX0_bringToFront_72 : decode cX0_bringToFront 72 = .ok (.lload_n 1, 1) := by decide +kernel
theorem dX0_bringToFront_73 : decode cX0_bringToFront 73 = .ok (.lastore, 1) := by decide +kernel
theorem dX0_bringToFront_74 : decode cX0_bringToFront 74 = .ok (.return_, 1) := by decide +kernel
theorem dX0_hasSameTilesAs_0 : decode cX0_hasSameTilesAs 0 = .ok (.aload_n 0, 1) := by decide +kernel
theorem dX0_hasSameTilesAs_1 : decode cX0_hasSameTilesAs 1 = .ok (.getfield 15, 3) := by decide +kernel
theorem dX0_hasSameTilesAs_4 : decode cX0_hasSameTilesAs 4 = .ok (.aload_n 1, 1) := by decide +kernel
theorem dX0_hasSameTilesAs_5 : decode cX0_hasSameTilesAs 5 = .ok (.getfield 15, 3) := by decide +kernel
theorem dX0_hasSameTilesAs_8 : decode cX0_hasSameTilesAs 8 = .ok (.if_icmp .eq 5, 3) := by decide +kernel
theorem dX0_hasSameTilesAs_11 : decode cX0_hasSameTilesAs 11 = .ok (.iconst 0, 1) := by decide +kernel
theorem dX0_hasSameTilesAs_12 : decode cX0_hasSameTilesAs 12 = .ok (.ireturn, 1) := by decide +kernel
theorem dX0_hasSameTilesAs_13 : decode cX0_hasSameTilesAs 13 = .ok (.iconst 0, 1) := by decide +kernel
theorem dX0_hasSameTilesAs_14 : decode cX0_hasSameTilesAs 14 = .ok (.istore_n 2, 1) := by decide +kernel
theorem dX0_hasSameTilesAs_15 : decode cX0_hasSameTilesAs 15 = .ok (.iload_n 2, 1) := by decide +kernel
theorem dX0_hasSameTilesAs_16 : decode cX0_hasSameTilesAs 16 = .ok (.aload_n 0, 1) := by decide +kernel
theorem dX0_hasSameTilesAs_17 : decode cX0_hasSameTilesAs 17 = .ok (.getfield 15, 3) := by decide +kernel
theorem dX0_hasSameTilesAs_20 : decode cX0_hasSameTilesAs 20 = .ok (.if_icmp .ge 27, 3) := by decide +kernel
theorem dX0_hasSameTilesAs_23 : decode cX0_hasSameTilesAs 23 = .ok (.aload_n 0, 1) := by decide +kernel
theorem dX0_hasSameTilesAs_24 : decode cX0_hasSameTilesAs 24 = .ok (.getfield 9, 3) := by decide +kernel
theorem dX0_hasSameTilesAs_27 : decode cX0_hasSameTilesAs 27 = .ok (.iload_n 2, 1) := by decide +kernel
theorem dX0_hasSameTilesAs_28 : decode cX0_hasSameTilesAs 28 = .ok (.laload, 1) := by decide +kernel
theorem dX0_hasSameTilesAs_29 : decode cX0_hasSameTilesAs 29 = .ok (.aload_n 1, 1) := by decide +kernel
theorem dX0_hasSameTilesAs_30 : decode cX0_hasSameTilesAs 30 = .ok (.getfield 9, 3) := by decide +kernel
theorem dX0_hasSameTilesAs_33 : decode cX0_hasSameTilesAs 33 = .ok (.iload_n 2, 1) := by decide +kernel
theorem dX0_hasSameTilesAs_34 : decode cX0_hasSameTilesAs 34 = .ok (.laload, 1) := by decide +kernel
theorem dX0_hasSameTilesAs_35 : decode cX0_hasSameTilesAs 35 = .ok (.lcmp, 1) := by decide +kernel
theorem dX0_hasSameTilesAs_36 : decode cX0_hasSameTilesAs 36 = .ok (.ifCond .eq 5, 3) := by decide +kernel
theorem dX0_hasSameTilesAs_39 : decode cX0_hasSameTilesAs 39 = .ok (.iconst 0, 1) := by decide +kernel
theorem dX0_hasSameTilesAs_40 : decode cX0_hasSameTilesAs 40 = .ok (.ireturn, 1) := by decide +kernel
theorem dX0_hasSameTilesAs_41 : decode cX0_hasSameTilesAs 41 = .ok (.iinc 2 1, 3) := by decide +kernel
theorem dX0_hasSameTilesAs_44 : decode cX0_hasSameTilesAs 44 = .ok (.goto (-29), 3) := by decide +kernel
theorem dX0_hasSameTilesAs_47 : decode cX0_hasSameTilesAs 47 = .ok (.iconst 1, 1) := by decide +kernel
theorem dX0_hasSameTilesAs_48 : decode cX0_hasSameTilesAs 48 = .ok (.ireturn, 1) := by decide +kernel
theorem dX0_placeOf_0 : decode cX0_placeOf 0 = .ok (.iconst 0, 1) := by decide +kernel
theorem dX0_placeOf_1 : decode cX0_placeOf 1 = .ok (.istore_n 3, 1) := by decide +kernel
theorem dX0_placeOf_2 : decode cX0_placeOf 2 = .ok (.iload_n 3, 1) := by decide +kernel
theorem dX0_placeOf_3 : decode cX0_placeOf 3 = .ok (.aload_n 0, 1) := by decide +kernel
theorem dX0_placeOf_4 : decode cX0_placeOf 4 = .ok (.getfield 15, 3) := by decide +kernel
theorem dX0_placeOf_7 : decode cX0_placeOf 7 = .ok (.if_icmp .ge 22, 3) := by decide +kernel
theorem dX0_placeOf_10 : decode cX0_placeOf 10 = .ok (.aload_n 0, 1) := by decide +kernel
theorem dX0_placeOf_11 : decode cX0_placeOf 11 = .ok (.getfield 9, 3) := by decide +kernel
theorem dX0_placeOf_14 : decode cX0_placeOf 14 = .ok (.iload_n 3, 1) := by decide +kernel
theorem dX0_placeOf_15 : decode cX0_placeOf 15 = .ok (.laload, 1) := by decide +kernel
theorem dX0_placeOf_16 : decode cX0_placeOf 16 = .ok (.lload_n 1, 1) := by decide +kernel
theorem dX0_placeOf_17 : decode cX0_placeOf 17 = .ok (.lcmp, 1) := by decide +kernel
theorem dX0_placeOf_18 : decode cX0_placeOf 18 = .ok (.ifCond .ne 5, 3) := by decide +kernel
theorem dX0_placeOf_21 : decode cX0_placeOf 21 = .ok (.iload_n 3, 1) := by decide +kernel
theorem dX0_placeOf_22 : decode cX0_placeOf 22 = .ok (.ireturn, 1) := by decide +kernel
theorem dX0_placeOf_23 : decode cX0_placeOf 23 = .ok (.iinc 3 1, 3) := by decide +kernel
theorem dX0_placeOf_26 : decode cX0_placeOf 26 = .ok (.goto (-24), 3) := by decide +kernel
theorem dX0_placeOf_29 : decode cX0_placeOf 29 = .ok (.aload_n 0, 1) := by decide +kernel
theorem dX0_placeOf_30 : decode cX0_placeOf 30 = .ok (.getfield 15, 3) := by decide +kernel
theorem dX0_placeOf_33 : decode cX0_placeOf 33 = .ok (.ireturn, 1) := by decide +kernel
set_option maxRecDepth 20000 in
theorem ggX1_init_X2_init : GoodIn wsX1_init wsX2_init := goodIn_r _ [22, 23, 2, 3, 18, 24, 39] (by decide +kernel) (by decide +kernel)
set_option maxRecDepth 20000 in
theorem gX1_init_X2_init_n17 : GoodIn wsX1_init (wsX2_init) := ggX1_init_X2_init
set_option maxRecDepth 20000 in
theorem ggX1_init_X0_init : GoodIn wsX1_init wsX0_init := goodIn_r _ [26, 27, 2, 3, 18, 28, 29, 40, 41] (by decide +kernel) (by decide +kernel)
set_option maxRecDepth 20000 in
theorem gX1_init_X0_init_n24 : GoodIn wsX1_init (wsX0_init) := ggX1_init_X0_init
theorem dX1_init_0 : decode cX1_init 0 = .ok (.aload_n 0, 1) := by decide +kernel
theorem dX1_init_1 : decode cX1_init 1 = .ok (.invokespecial 3, 3) := by decide +kernel
theorem dX1_init_4 : decode cX1_init 4 = .ok (.aload_n 0, 1) := by decide +kernel
theorem dX1_init_5 : decode cX1_init 5 = .ok (.iconst 0, 1) := by decide +kernel
theorem dX1_init_6 : decode cX1_init 6 = .ok (.putfield 9, 3) := by decide +kernel
theorem dX1_init_9 : decode cX1_init 9 = .ok (.aload_n 0, 1) := by decide +kernel
theorem dX1_init_10 : decode cX1_init 10 = .ok (.new 15, 3) := by decide +kernel
theorem dX1_init_13 : decode cX1_init 13 = .ok (.dup, 1) := by decide +kernel
theorem dX1_init_14 : decode cX1_init 14 = .ok (.invokespecial 17, 3) := by decide +kernel
theorem dX1_init_17 : decode cX1_init 17 = .ok (.putfield 18, 3) := by decide +kernel
theorem dX1_init_20 : decode cX1_init 20 = .ok (.aload_n 0, 1) := by decide +kernel
theorem dX1_init_21 : decode cX1_init 21 = .ok (.new 22, 3) := by decide +kernel
theorem dX1_init_24 : decode cX1_init 24 = .ok (.dup, 1) := by decide +kernel
theorem dX1_init_25 : decode cX1_init 25 = .ok (.invokespecial 24, 3) := by decide +kernel
theorem dX1_init_28 : decode cX1_init 28 = .ok (.putfield 25, 3) := by decide +kernel
theorem dX1_init_31 : decode cX1_init 31 = .ok (.aload_n 0, 1) := by decide +kernel
theorem dX1_init_32 : decode cX1_init 32 = .ok (.new 22, 3) := by decide +kernel
theorem dX1_init_35 : decode cX1_init 35 = .ok (.dup, 1) := by decide +kernel
theorem dX1_init_36 : decode cX1_init 36 = .ok (.invokespecial 24, 3) := by decide +kernel
theorem dX1_init_39 : decode cX1_init 39 = .ok (.putfield 29, 3) := by decide +kernel
theorem dX1_init_42 : decode cX1_init 42 = .ok (.aload_n 0, 1) := by decide +kernel
theorem dX1_init_43 : decode cX1_init 43 = .ok (.bipush 12, 2) := by decide +kernel
theorem dX1_init_45 : decode cX1_init 45 = .ok (.newarray .int, 2) := by decide +kernel
theorem dX1_init_47 : decode cX1_init 47 = .ok (.putfield 32, 3) := by decide +kernel
theorem dX1_init_50 : decode cX1_init 50 = .ok (.aload_n 0, 1) := by decide +kernel
theorem dX1_init_51 : decode cX1_init 51 = .ok (.iconst 0, 1) := by decide +kernel
theorem dX1_init_52 : decode cX1_init 52 = .ok (.putfield 36, 3) := by decide +kernel
theorem dX1_init_55 : decode cX1_init 55 = .ok (.aload_n 0, 1) := by decide +kernel
theorem dX1_init_56 : decode cX1_init 56 = .ok (.bipush 12, 2) := by decide +kernel
theorem dX1_init_58 : decode cX1_init 58 = .ok (.newarray .int, 2) := by decide +kernel
theorem dX1_init_60 : decode cX1_init 60 = .ok (.putfield 40, 3) := by decide +kernel
theorem dX1_init_63 : decode cX1_init 63 = .ok (.aload_n 0, 1) := by decide +kernel
theorem dX1_init_64 : decode cX1_init 64 = .ok (.bipush 12, 2) := by decide +kernel
theorem dX1_init_66 : decode cX1_init 66 = .ok (.newarray .long, 2) := by decide +kernel
theorem dX1_init_68 : decode cX1_init 68 = .ok (.putfield 43, 3) := by decide +kernel
theorem dX1_init_71 : decode cX1_init 71 = .ok (.aload_n 0, 1) := by decide +kernel
theorem dX1_init_72 : decode cX1_init 72 = .ok (.iconst 0, 1) := by decide +kernel
theorem dX1_init_73 : decode cX1_init 73 = .ok (.putfield 47, 3) := by decide +kernel
theorem dX1_init_76 : decode cX1_init 76 = .ok (.return_, 1) := by decide +kernel
theorem dX1_hasJoined_0 : decode cX1_hasJoined 0 = .ok (.aload_n 0, 1) := by decide +kernel
theorem dX1_hasJoined_1 : decode cX1_hasJoined 1 = .ok (.getfield 9, 3) := by decide +kernel
theorem dX1_hasJoined_4 : decode cX1_hasJoined 4 = .ok (.ireturn, 1) := by decide +kernel
theorem dX1_ownScreen_0 : decode cX1_ownScreen 0 = .ok (.aload_n 0, 1) := by decide +kernel
theorem dX1_ownScreen_1 : decode cX1_ownScreen 1 = .ok (.getfield 18, 3) := by decide +kernel
theorem dX1_ownScreen_4 : decode cX1_ownScreen 4 = .ok (.areturn, 1) := by decide +kernel
theorem dX1_ownCache_0 : decode cX1_ownCache 0 = .ok (.aload_n 0, 1) := by decide +kernel
theorem dX1_ownCache_1 : decode cX1_ownCache 1 = .ok (.getfield 25, 3) := by decide +kernel
theorem dX1_ownCache_4 : decode cX1_ownCache 4 = .ok (.areturn, 1) := by decide +kernel
theorem dX1_serverCache_0 : decode cX1_serverCache 0 = .ok (.aload_n 0, 1) := by decide +kernel
theorem dX1_serverCache_1 : decode cX1_serverCache 1 = .ok (.getfield 29, 3) := by decide +kernel
theorem dX1_serverCache_4 : decode cX1_serverCache 4 = .ok (.areturn, 1) := by decide +kernel
theorem dX1_dirtyCount_0 : decode cX1_dirtyCount 0 = .ok (.aload_n 0, 1) := by decide +kernel
theorem dX1_dirtyCount_1 : decode cX1_dirtyCount 1 = .ok (.getfield 36, 3) := by decide +kernel
theorem dX1_dirtyCount_4 : decode cX1_dirtyCount 4 = .ok (.ireturn, 1) := by decide +kernel
theorem dX1_dirtyTileAt_0 : decode cX1_dirtyTileAt 0 = .ok (.aload_n 0, 1) := by decide +kernel
theorem dX1_dirtyTileAt_1 : decode cX1_dirtyTileAt 1 = .ok (.getfield 32, 3) := by decide +kernel
theorem dX1_dirtyTileAt_4 : decode cX1_dirtyTileAt 4 = .ok (.iload_n 1, 1) := by decide +kernel
theorem dX1_dirtyTileAt_5 : decode cX1_dirtyTileAt 5 = .ok (.iaload, 1) := by decide +kernel
theorem dX1_dirtyTileAt_6 : decode cX1_dirtyTileAt 6 = .ok (.ireturn, 1) := by decide +kernel
theorem dX1_messageCount_0 : decode cX1_messageCount 0 = .ok (.aload_n 0, 1) := by decide +kernel
theorem dX1_messageCount_1 : decode cX1_messageCount 1 = .ok (.getfield 47, 3) := by decide +kernel
theorem dX1_messageCount_4 : decode cX1_messageCount 4 = .ok (.ireturn, 1) := by decide +kernel
theorem dX1_hasMessage_0 : decode cX1_hasMessage 0 = .ok (.aload_n 0, 1) := by decide +kernel
theorem dX1_hasMessage_1 : decode cX1_hasMessage 1 = .ok (.getfield 47, 3) := by decide +kernel
theorem dX1_hasMessage_4 : decode cX1_hasMessage 4 = .ok (.ifCond .le 7, 3) := by decide +kernel
theorem dX1_hasMessage_7 : decode cX1_hasMessage 7 = .ok (.iconst 1, 1) := by decide +kernel
theorem dX1_hasMessage_8 : decode cX1_hasMessage 8 = .ok (.goto 4, 3) := by decide +kernel
theorem dX1_hasMessage_11 : decode cX1_hasMessage 11 = .ok (.iconst 0, 1) := by decide +kernel
theorem dX1_hasMessage_12 : decode cX1_hasMessage 12 = .ok (.ireturn, 1) := by decide +kernel
set_option maxRecDepth 20000 in
theorem ggX1_beginAnew_X2_clear : GoodIn wsX1_beginAnew wsX2_clear := goodIn_r _ [12, 13, 29] (by decide +kernel) (by decide +kernel)
set_option maxRecDepth 20000 in
theorem gX1_beginAnew_X2_clear : GoodIn wsX1_beginAnew (wsV RX1 50 RX2 yX2_clear wsX2_clear) := goodIn_app (goodIn_of _ (by decide +kernel)) ggX1_beginAnew_X2_clear
set_option maxRecDepth 20000 in
theorem ggX1_beginAnew_X0_clear : GoodIn wsX1_beginAnew wsX0_clear := goodIn_r _ [18, 19, 30, 31] (by decide +kernel) (by decide +kernel)
set_option maxRecDepth 20000 in
theorem gX1_beginAnew_X0_clear : GoodIn wsX1_beginAnew (wsV RX1 53 RX0 yX0_clear wsX0_clear) := goodIn_app (goodIn_of _ (by decide +kernel)) ggX1_beginAnew_X0_clear
theorem dX1_beginAnew_0 : decode cX1_beginAnew 0 = .ok (.aload_n 0, 1) := by decide +kernel
theorem dX1_beginAnew_1 : decode cX1_beginAnew 1 = .ok (.iconst 1, 1) := by decide +kernel
theorem dX1_beginAnew_2 : decode cX1_beginAnew 2 = .ok (.putfield 9, 3) := by decide +kernel
theorem dX1_beginAnew_5 : decode cX1_beginAnew 5 = .ok (.aload_n 0, 1) := by decide +kernel
theorem dX1_beginAnew_6 : decode cX1_beginAnew 6 = .ok (.getfield 18, 3) := by decide +kernel
theorem dX1_beginAnew_9 : decode cX1_beginAnew 9 = .ok (.invokevirtual 50, 3) := by decide +kernel
theorem dX1_beginAnew_12 : decode cX1_beginAnew 12 = .ok (.aload_n 0, 1) := by decide +kernel
theorem dX1_beginAnew_13 : decode cX1_beginAnew 13 = .ok (.getfield 25, 3) := by decide +kernel
theorem dX1_beginAnew_16 : decode cX1_beginAnew 16 = .ok (.invokevirtual 53, 3) := by decide +kernel
theorem dX1_beginAnew_19 : decode cX1_beginAnew 19 = .ok (.aload_n 0, 1) := by decide +kernel
theorem dX1_beginAnew_20 : decode cX1_beginAnew 20 = .ok (.getfield 29, 3) := by decide +kernel
theorem dX1_beginAnew_23 : decode cX1_beginAnew 23 = .ok (.invokevirtual 53, 3) := by decide +kernel
theorem dX1_beginAnew_26 : decode cX1_beginAnew 26 = .ok (.aload_n 0, 1) := by decide +kernel
theorem dX1_beginAnew_27 : decode cX1_beginAnew 27 = .ok (.iconst 0, 1) := by decide +kernel
theorem dX1_beginAnew_28 : decode cX1_beginAnew 28 = .ok (.putfield 47, 3) := by decide +kernel
theorem dX1_beginAnew_31 : decode cX1_beginAnew 31 = .ok (.iconst 0, 1) := by decide +kernel
theorem dX1_beginAnew_32 : decode cX1_beginAnew 32 = .ok (.istore_n 1, 1) := by decide +kernel
theorem dX1_beginAnew_33 : decode cX1_beginAnew 33 = .ok (.iload_n 1, 1) := by decide +kernel
theorem dX1_beginAnew_34 : decode cX1_beginAnew 34 = .ok (.bipush 12, 2) := by decide +kernel
theorem dX1_beginAnew_36 : decode cX1_beginAnew 36 = .ok (.if_icmp .ge 16, 3) := by decide +kernel
theorem dX1_beginAnew_39 : decode cX1_beginAnew 39 = .ok (.aload_n 0, 1) := by decide +kernel
theorem dX1_beginAnew_40 : decode cX1_beginAnew 40 = .ok (.getfield 32, 3) := by decide +kernel
theorem dX1_beginAnew_43 : decode cX1_beginAnew 43 = .ok (.iload_n 1, 1) := by decide +kernel
theorem dX1_beginAnew_44 : decode cX1_beginAnew 44 = .ok (.iload_n 1, 1) := by decide +kernel
theorem dX1_beginAnew_45 : decode cX1_beginAnew 45 = .ok (.iastore, 1) := by decide +kernel
theorem dX1_beginAnew_46 : decode cX1_beginAnew 46 = .ok (.iinc 1 1, 3) := by decide +kernel
theorem dX1_beginAnew_49 : decode cX1_beginAnew 49 = .ok (.goto (-16), 3) := by decide +kernel
theorem dX1_beginAnew_52 : decode cX1_beginAnew 52 = .ok (.aload_n 0, 1) := by decide +kernel
theorem dX1_beginAnew_53 : decode cX1_beginAnew 53 = .ok (.bipush 12, 2) := by decide +kernel
theorem dX1_beginAnew_55 : decode cX1_beginAnew 55 = .ok (.putfield 36, 3) := by decide +kernel
theorem dX1_beginAnew_58 : decode cX1_beginAnew 58 = .ok (.return_, 1) := by decide +kernel
theorem dX1_makeDirty_0 : decode cX1_makeDirty 0 = .ok (.iconst 0, 1) := by decide +kernel
theorem dX1_makeDirty_1 : decode cX1_makeDirty 1 = .ok (.istore_n 2, 1) := by decide +kernel
theorem dX1_makeDirty_2 : decode cX1_makeDirty 2 = .ok (.iload_n 2, 1) := by decide +kernel
theorem dX1_makeDirty_3 : decode cX1_makeDirty 3 = .ok (.aload_n 0, 1) := by decide +kernel
theorem dX1_makeDirty_4 : decode cX1_makeDirty 4 = .ok (.getfield 36, 3) := by decide +kernel
theorem dX1_makeDirty_7 : decode cX1_makeDirty 7 = .ok (.if_icmp .ge 20, 3) := by decide +kernel
theorem dX1_makeDirty_10 : decode cX1_makeDirty 10 = .ok (.aload_n 0, 1) := by decide +kernel
theorem dX1_makeDirty_11 : decode cX1_makeDirty 11 = .ok (.getfield 32, 3) := by decide +kernel
theorem dX1_makeDirty_14 : decode cX1_makeDirty 14 = .ok (.iload_n 2, 1) := by decide +kernel
theorem dX1_makeDirty_15 : decode cX1_makeDirty 15 = .ok (.iaload, 1) := by decide +kernel
theorem dX1_makeDirty_16 : decode cX1_makeDirty 16 = .ok (.iload_n 1, 1) := by decide +kernel
theorem dX1_makeDirty_17 : decode cX1_makeDirty 17 = .ok (.if_icmp .ne 4, 3) := by decide +kernel
theorem dX1_makeDirty_20 : decode cX1_makeDirty 20 = .ok (.return_, 1) := by decide +kernel
theorem dX1_makeDirty_21 : decode cX1_makeDirty 21 = .ok (.iinc 2 1, 3) := by decide +kernel
theorem dX1_makeDirty_24 : decode cX1_makeDirty 24 = .ok (.goto (-22), 3) := by decide +kernel
theorem dX1_makeDirty_27 : decode cX1_makeDirty 27 = .ok (.aload_n 0, 1) := by decide +kernel
theorem dX1_makeDirty_28 : decode cX1_makeDirty 28 = .ok (.getfield 36, 3) := by decide +kernel
theorem dX1_makeDirty_31 : decode cX1_makeDirty 31 = .ok (.bipush 12, 2) := by decide +kernel
theorem dX1_makeDirty_33 : decode cX1_makeDirty 33 = .ok (.if_icmp .ge 23, 3) := by decide +kernel
theorem dX1_makeDirty_36 : decode cX1_makeDirty 36 = .ok (.aload_n 0, 1) := by decide +kernel
theorem dX1_makeDirty_37 : decode cX1_makeDirty 37 = .ok (.getfield 32, 3) := by decide +kernel
theorem dX1_makeDirty_40 : decode cX1_makeDirty 40 = .ok (.aload_n 0, 1) := by decide +kernel
theorem dX1_makeDirty_41 : decode cX1_makeDirty 41 = .ok (.getfield 36, 3) := by decide +kernel
theorem dX1_makeDirty_44 : decode cX1_makeDirty 44 = .ok (.iload_n 1, 1) := by decide +kernel
theorem dX1_makeDirty_45 : decode cX1_makeDirty 45 = .ok (.iastore, 1) := by decide +kernel
theorem dX1_makeDirty_46 : decode cX1_makeDirty 46 = .ok (.aload_n 0, 1) := by decide +kernel
theorem dX1_makeDirty_47 : decode cX1_makeDirty 47 = .ok (.dup, 1) := by decide +kernel
theorem dX1_makeDirty_48 : decode cX1_makeDirty 48 = .ok (.getfield 36, 3) := by decide +kernel
theorem dX1_makeDirty_51 : decode cX1_makeDirty 51 = .ok (.iconst 1, 1) := by decide +kernel
theorem dX1_makeDirty_52 : decode cX1_makeDirty 52 = .ok (.iadd, 1) := by decide +kernel
theorem dX1_makeDirty_53 : decode cX1_makeDirty 53 = .ok (.putfield 36, 3) := by decide +kernel
theorem dX1_makeDirty_56 : decode cX1_makeDirty 56 = .ok (.return_, 1) := by decide +kernel
set_option maxRecDepth 20000 in
theorem ggX1_addToMessage_X0_bringToFront : GoodIn wsX1_addToMessage wsX0_bringToFront := goodIn_r _ [9, 10, 11, 12, 13, 14, 15, 16, 17, 18, 8, 19, 29, 30] (by decide +kernel) (by decide +kernel)
set_option maxRecDepth 20000 in
theorem gX1_addToMessage_X0_bringToFront : GoodIn wsX1_addToMessage (wsV RX1 54 RX0 yX0_bringToFront wsX0_bringToFront) := goodIn_app (goodIn_of _ (by decide +kernel)) ggX1_addToMessage_X0_bringToFront
theorem dX1_addToMessage_0 : decode cX1_addToMessage 0 = .ok (.aload_n 0, 1) := by decide +kernel
theorem dX1_addToMessage_1 : decode cX1_addToMessage 1 = .ok (.getfield 47, 3) := by decide +kernel
theorem dX1_addToMessage_4 : decode cX1_addToMessage 4 = .ok (.bipush 12, 2) := by decide +kernel
theorem dX1_addToMessage_6 : decode cX1_addToMessage 6 = .ok (.if_icmp .ge 33, 3) := by decide +kernel
theorem dX1_addToMessage_9 : decode cX1_addToMessage 9 = .ok (.aload_n 0, 1) := by decide +kernel
theorem dX1_addToMessage_10 : decode cX1_addToMessage 10 = .ok (.getfield 40, 3) := by decide +kernel
theorem dX1_addToMessage_13 : decode cX1_addToMessage 13 = .ok (.aload_n 0, 1) := by decide +kernel
theorem dX1_addToMessage_14 : decode cX1_addToMessage 14 = .ok (.getfield 47, 3) := by decide +kernel
theorem dX1_addToMessage_17 : decode cX1_addToMessage 17 = .ok (.iload_n 1, 1) := by decide +kernel
theorem dX1_addToMessage_18 : decode cX1_addToMessage 18 = .ok (.iastore, 1) := by decide +kernel
theorem dX1_addToMessage_19 : decode cX1_addToMessage 19 = .ok (.aload_n 0, 1) := by decide +kernel
theorem dX1_addToMessage_20 : decode cX1_addToMessage 20 = .ok (.getfield 43, 3) := by decide +kernel
theorem dX1_addToMessage_23 : decode cX1_addToMessage 23 = .ok (.aload_n 0, 1) := by decide +kernel
theorem dX1_addToMessage_24 : decode cX1_addToMessage 24 = .ok (.getfield 47, 3) := by decide +kernel
theorem dX1_addToMessage_27 : decode cX1_addToMessage 27 = .ok (.lload_n 2, 1) := by decide +kernel
theorem dX1_addToMessage_28 : decode cX1_addToMessage 28 = .ok (.lastore, 1) := by decide +kernel
theorem dX1_addToMessage_29 : decode cX1_addToMessage 29 = .ok (.aload_n 0, 1) := by decide +kernel
theorem dX1_addToMessage_30 : decode cX1_addToMessage 30 = .ok (.dup, 1) := by decide +kernel
theorem dX1_addToMessage_31 : decode cX1_addToMessage 31 = .ok (.getfield 47, 3) := by decide +kernel
theorem dX1_addToMessage_34 : decode cX1_addToMessage 34 = .ok (.iconst 1, 1) := by decide +kernel
theorem dX1_addToMessage_35 : decode cX1_addToMessage 35 = .ok (.iadd, 1) := by decide +kernel
theorem dX1_addToMessage_36 : decode cX1_addToMessage 36 = .ok (.putfield 47, 3) := by decide +kernel
theorem dX1_addToMessage_39 : decode cX1_addToMessage 39 = .ok (.aload_n 0, 1) := by decide +kernel
theorem dX1_addToMessage_40 : decode cX1_addToMessage 40 = .ok (.getfield 29, 3) := by decide +kernel
theorem dX1_addToMessage_43 : decode cX1_addToMessage 43 = .ok (.lload_n 2, 1) := by decide +kernel
theorem dX1_addToMessage_44 : decode cX1_addToMessage 44 = .ok (.invokevirtual 54, 3) := by decide +kernel
theorem dX1_addToMessage_47 : decode cX1_addToMessage 47 = .ok (.return_, 1) := by decide +kernel
theorem dX1_cleanTilesOfMessage_0 : decode cX1_cleanTilesOfMessage 0 = .ok (.aload_n 0, 1) := by decide +kernel
theorem dX1_cleanTilesOfMessage_1 : decode cX1_cleanTilesOfMessage 1 = .ok (.getfield 47, 3) := by decide +kernel
theorem dX1_cleanTilesOfMessage_4 : decode cX1_cleanTilesOfMessage 4 = .ok (.istore_n 1, 1) := by decide +kernel
theorem dX1_cleanTilesOfMessage_5 : decode cX1_cleanTilesOfMessage 5 = .ok (.iload_n 1, 1) := by decide +kernel
theorem dX1_cleanTilesOfMessage_6 : decode cX1_cleanTilesOfMessage 6 = .ok (.aload_n 0, 1) := by decide +kernel
theorem dX1_cleanTilesOfMessage_7 : decode cX1_cleanTilesOfMessage 7 = .ok (.getfield 36, 3) := by decide +kernel
theorem dX1_cleanTilesOfMessage_10 : decode cX1_cleanTilesOfMessage 10 = .ok (.if_icmp .ge 26, 3) := by decide +kernel
theorem dX1_cleanTilesOfMessage_13 : decode cX1_cleanTilesOfMessage 13 = .ok (.aload_n 0, 1) := by decide +kernel
theorem dX1_cleanTilesOfMessage_14 : decode cX1_cleanTilesOfMessage 14 = .ok (.getfield 32, 3) := by decide +kernel
theorem dX1_cleanTilesOfMessage_17 : decode cX1_cleanTilesOfMessage 17 = .ok (.iload_n 1, 1) := by decide +kernel
theorem dX1_cleanTilesOfMessage_18 : decode cX1_cleanTilesOfMessage 18 = .ok (.aload_n 0, 1) := by decide +kernel
theorem dX1_cleanTilesOfMessage_19 : decode cX1_cleanTilesOfMessage 19 = .ok (.getfield 47, 3) := by decide +kernel
theorem dX1_cleanTilesOfMessage_22 : decode cX1_cleanTilesOfMessage 22 = .ok (.isub, 1) := by decide +kernel
theorem dX1_cleanTilesOfMessage_23 : decode cX1_cleanTilesOfMessage 23 = .ok (.aload_n 0, 1) := by decide +kernel
theorem dX1_cleanTilesOfMessage_24 : decode cX1_cleanTilesOfMessage 24 = .ok (.getfield 32, 3) := by decide +kernel
theorem dX1_cleanTilesOfMessage_27 : decode cX1_cleanTilesOfMessage 27 = .ok (.iload_n 1, 1) := by decide +kernel
theorem dX1_cleanTilesOfMessage_28 : decode cX1_cleanTilesOfMessage 28 = .ok (.iaload, 1) := by decide +kernel
theorem dX1_cleanTilesOfMessage_29 : decode cX1_cleanTilesOfMessage 29 = .ok (.iastore, 1) := by decide +kernel
theorem dX1_cleanTilesOfMessage_30 : decode cX1_cleanTilesOfMessage 30 = .ok (.iinc 1 1, 3) := by decide +kernel
theorem dX1_cleanTilesOfMessage_33 : decode cX1_cleanTilesOfMessage 33 = .ok (.goto (-28), 3) := by decide +kernel
theorem dX1_cleanTilesOfMessage_36 : decode cX1_cleanTilesOfMessage 36 = .ok (.aload_n 0, 1) := by decide +kernel
theorem dX1_cleanTilesOfMessage_37 : decode cX1_cleanTilesOfMessage 37 = .ok (.dup, 1) := by decide +kernel
theorem dX1_cleanTilesOfMessage_38 : decode cX1_cleanTilesOfMessage 38 = .ok (.getfield 36, 3) := by decide +kernel
theorem dX1_cleanTilesOfMessage_41 : decode cX1_cleanTilesOfMessage 41 = .ok (.aload_n 0, 1) := by decide +kernel
theorem dX1_cleanTilesOfMessage_42 : decode cX1_cleanTilesOfMessage 42 = .ok (.getfield 47, 3) := by decide +kernel
theorem dX1_cleanTilesOfMessage_45 : decode cX1_cleanTilesOfMessage 45 = .ok (.isub, 1) := by decide +kernel
theorem dX1_cleanTilesOfMessage_46 : decode cX1_cleanTilesOfMessage 46 = .ok (.putfield 36, 3) := by decide +kernel
theorem dX1_cleanTilesOfMessage_49 : decode cX1_cleanTilesOfMessage 49 = .ok (.return_, 1) := by decide +kernel
set_option maxRecDepth 20000 in
theorem ggX1_takeMessage_X2_replaceTile : GoodIn wsX1_takeMessage wsX2_replaceTile := goodIn_r _ [10, 11, 36] (by decide +kernel) (by decide +kernel)
set_option maxRecDepth 20000 in
theorem gX1_takeMessage_X2_replaceTile : GoodIn wsX1_takeMessage (wsV RX1 58 RX2 yX2_replaceTile wsX2_replaceTile) := goodIn_app (goodIn_of _ (by decide +kernel)) ggX1_takeMessage_X2_replaceTile
set_option maxRecDepth 20000 in
theorem ggX1_takeMessage_X0_bringToFront : GoodIn wsX1_takeMessage wsX0_bringToFront := goodIn_r _ [16, 17, 18, 19, 20, 21, 22, 23, 24, 25, 15, 26, 37, 38] (by decide +kernel) (by decide +kernel)
set_option maxRecDepth 20000 in
theorem gX1_takeMessage_X0_bringToFront : GoodIn wsX1_takeMessage (wsV RX1 54 RX0 yX0_bringToFront wsX0_bringToFront) := goodIn_app (goodIn_of _ (by decide +kernel)) ggX1_takeMessage_X0_bringToFront
theorem dX1_takeMessage_0 : decode cX1_takeMessage 0 = .ok (.aload_n 0, 1) := by decide +kernel
theorem dX1_takeMessage_1 : decode cX1_takeMessage 1 = .ok (.getfield 47, 3) := by decide +kernel
theorem dX1_takeMessage_4 : decode cX1_takeMessage 4 = .ok (.istore_n 1, 1) := by decide +kernel
theorem dX1_takeMessage_5 : decode cX1_takeMessage 5 = .ok (.iconst 0, 1) := by decide +kernel
theorem dX1_takeMessage_6 : decode cX1_takeMessage 6 = .ok (.istore_n 2, 1) := by decide +kernel
theorem dX1_takeMessage_7 : decode cX1_takeMessage 7 = .ok (.iload_n 2, 1) := by decide +kernel
theorem dX1_takeMessage_8 : decode cX1_takeMessage 8 = .ok (.iload_n 1, 1) := by decide +kernel
theorem dX1_takeMessage_9 : decode cX1_takeMessage 9 = .ok (.if_icmp .ge 41, 3) := by decide +kernel
theorem dX1_takeMessage_12 : decode cX1_takeMessage 12 = .ok (.aload_n 0, 1) := by decide +kernel
theorem dX1_takeMessage_13 : decode cX1_takeMessage 13 = .ok (.getfield 18, 3) := by decide +kernel
theorem dX1_takeMessage_16 : decode cX1_takeMessage 16 = .ok (.aload_n 0, 1) := by decide +kernel
theorem dX1_takeMessage_17 : decode cX1_takeMessage 17 = .ok (.getfield 40, 3) := by decide +kernel
theorem dX1_takeMessage_20 : decode cX1_takeMessage 20 = .ok (.iload_n 2, 1) := by decide +kernel
theorem dX1_takeMessage_21 : decode cX1_takeMessage 21 = .ok (.iaload, 1) := by decide +kernel
theorem dX1_takeMessage_22 : decode cX1_takeMessage 22 = .ok (.aload_n 0, 1) := by decide +kernel
theorem dX1_takeMessage_23 : decode cX1_takeMessage 23 = .ok (.getfield 43, 3) := by decide +kernel
theorem dX1_takeMessage_26 : decode cX1_takeMessage 26 = .ok (.iload_n 2, 1) := by decide +kernel
theorem dX1_takeMessage_27 : decode cX1_takeMessage 27 = .ok (.laload, 1) := by decide +kernel
theorem dX1_takeMessage_28 : decode cX1_takeMessage 28 = .ok (.invokevirtual 58, 3) := by decide +kernel
theorem dX1_takeMessage_31 : decode cX1_takeMessage 31 = .ok (.aload_n 0, 1) := by decide +kernel
theorem dX1_takeMessage_32 : decode cX1_takeMessage 32 = .ok (.getfield 25, 3) := by decide +kernel
theorem dX1_takeMessage_35 : decode cX1_takeMessage 35 = .ok (.aload_n 0, 1) := by decide +kernel
theorem dX1_takeMessage_36 : decode cX1_takeMessage 36 = .ok (.getfield 43, 3) := by decide +kernel
theorem dX1_takeMessage_39 : decode cX1_takeMessage 39 = .ok (.iload_n 2, 1) := by decide +kernel
theorem dX1_takeMessage_40 : decode cX1_takeMessage 40 = .ok (.laload, 1) := by decide +kernel
theorem dX1_takeMessage_41 : decode cX1_takeMessage 41 = .ok (.invokevirtual 54, 3) := by decide +kernel
theorem dX1_takeMessage_44 : decode cX1_takeMessage 44 = .ok (.iinc 2 1, 3) := by decide +kernel
theorem dX1_takeMessage_47 : decode cX1_takeMessage 47 = .ok (.goto (-40), 3) := by decide +kernel
theorem dX1_takeMessage_50 : decode cX1_takeMessage 50 = .ok (.aload_n 0, 1) := by decide +kernel
theorem dX1_takeMessage_51 : decode cX1_takeMessage 51 = .ok (.iconst 0, 1) := by decide +kernel
theorem dX1_takeMessage_52 : decode cX1_takeMessage 52 = .ok (.putfield 47, 3) := by decide +kernel
theorem dX1_takeMessage_55 : decode cX1_takeMessage 55 = .ok (.iload_n 1, 1) := by decide +kernel
theorem dX1_takeMessage_56 : decode cX1_takeMessage 56 = .ok (.ireturn, 1) := by decide +kernel
theorem dX2_init_0 : decode cX2_init 0 = .ok (.aload_n 0, 1) := by decide +kernel
theorem dX2_init_1 : decode cX2_init 1 = .ok (.invokespecial 3, 3) := by decide +kernel
theorem dX2_init_4 : decode cX2_init 4 = .ok (.aload_n 0, 1) := by decide +kernel
theorem dX2_init_5 : decode cX2_init 5 = .ok (.bipush 12, 2) := by decide +kernel
theorem dX2_init_7 : decode cX2_init 7 = .ok (.newarray .long, 2) := by decide +kernel
theorem dX2_init_9 : decode cX2_init 9 = .ok (.putfield 9, 3) := by decide +kernel
theorem dX2_init_12 : decode cX2_init 12 = .ok (.return_, 1) := by decide +kernel
theorem dX2_cellsOf_0 : decode cX2_cellsOf 0 = .ok (.aload_n 0, 1) := by decide +kernel
theorem dX2_cellsOf_1 : decode cX2_cellsOf 1 = .ok (.getfield 9, 3) := by decide +kernel
theorem dX2_cellsOf_4 : decode cX2_cellsOf 4 = .ok (.iload_n 1, 1) := by decide +kernel
theorem dX2_cellsOf_5 : decode cX2_cellsOf 5 = .ok (.laload, 1) := by decide +kernel
theorem dX2_cellsOf_6 : decode cX2_cellsOf 6 = .ok (.lreturn, 1) := by decide +kernel
theorem dX2_replaceTile_0 : decode cX2_replaceTile 0 = .ok (.aload_n 0, 1) := by decide +kernel
theorem dX2_replaceTile_1 : decode cX2_replaceTile 1 = .ok (.getfield 9, 3) := by decide +kernel
theorem dX2_replaceTile_4 : decode cX2_replaceTile 4 = .ok (.iload_n 1, 1) := by decide +kernel
theorem dX2_replaceTile_5 : decode cX2_replaceTile 5 = .ok (.lload_n 2, 1) := by decide +kernel
theorem dX2_replaceTile_6 : decode cX2_replaceTile 6 = .ok (.lastore, 1) := by decide +kernel
theorem dX2_replaceTile_7 : decode cX2_replaceTile 7 = .ok (.return_, 1) := by decide +kernel
set_option maxRecDepth 20000 in
theorem ggX2_colourAt_X2_tileOf : GoodIn wsX2_colourAt wsX2_tileOf := goodIn_r _ [5] (by decide +kernel) (by decide +kernel)
set_option maxRecDepth 20000 in
theorem gX2_colourAt_X2_tileOf : GoodIn wsX2_colourAt (va_wsS RX2 15 yX2_tileOf wsX2_tileOf) := goodIn_app (goodIn_of _ (by decide +kernel)) ggX2_colourAt_X2_tileOf
set_option maxRecDepth 20000 in
theorem ggX2_colourAt_X2_placeInTile : GoodIn wsX2_colourAt wsX2_placeInTile := goodIn_r _ [8] (by decide +kernel) (by decide +kernel)
set_option maxRecDepth 20000 in
theorem gX2_colourAt_X2_placeInTile : GoodIn wsX2_colourAt (va_wsS RX2 19 yX2_placeInTile wsX2_placeInTile) := goodIn_app (goodIn_of _ (by decide +kernel)) ggX2_colourAt_X2_placeInTile
set_option maxRecDepth 20000 in
theorem ggX2_colourAt_X3_cellAt : GoodIn wsX2_colourAt wsX3_cellAt := goodIn_r _ [11, 12] (by decide +kernel) (by decide +kernel)
set_option maxRecDepth 20000 in
theorem gX2_colourAt_X3_cellAt_n22 : GoodIn wsX2_colourAt (wsX3_cellAt) := ggX2_colourAt_X3_cellAt
theorem dX2_colourAt_0 : decode cX2_colourAt 0 = .ok (.aload_n 0, 1) := by decide +kernel
theorem dX2_colourAt_1 : decode cX2_colourAt 1 = .ok (.getfield 9, 3) := by decide +kernel
theorem dX2_colourAt_4 : decode cX2_colourAt 4 = .ok (.iload_n 1, 1) := by decide +kernel
theorem dX2_colourAt_5 : decode cX2_colourAt 5 = .ok (.iload_n 2, 1) := by decide +kernel
theorem dX2_colourAt_6 : decode cX2_colourAt 6 = .ok (.invokestatic 15, 3) := by decide +kernel
theorem dX2_colourAt_9 : decode cX2_colourAt 9 = .ok (.laload, 1) := by decide +kernel
theorem dX2_colourAt_10 : decode cX2_colourAt 10 = .ok (.iload_n 1, 1) := by decide +kernel
theorem dX2_colourAt_11 : decode cX2_colourAt 11 = .ok (.iload_n 2, 1) := by decide +kernel
theorem dX2_colourAt_12 : decode cX2_colourAt 12 = .ok (.invokestatic 19, 3) := by decide +kernel
theorem dX2_colourAt_15 : decode cX2_colourAt 15 = .ok (.invokestatic 22, 3) := by decide +kernel
theorem dX2_colourAt_18 : decode cX2_colourAt 18 = .ok (.ireturn, 1) := by decide +kernel
set_option maxRecDepth 20000 in
theorem ggX2_paint_X2_tileOf : GoodIn wsX2_paint wsX2_tileOf := goodIn_r _ [7] (by decide +kernel) (by decide +kernel)
set_option maxRecDepth 20000 in
theorem gX2_paint_X2_tileOf : GoodIn wsX2_paint (va_wsS RX2 15 yX2_tileOf wsX2_tileOf) := goodIn_app (goodIn_of _ (by decide +kernel)) ggX2_paint_X2_tileOf
set_option maxRecDepth 20000 in
theorem ggX2_paint_X2_placeInTile : GoodIn wsX2_paint wsX2_placeInTile := goodIn_r _ [10] (by decide +kernel) (by decide +kernel)
set_option maxRecDepth 20000 in
theorem gX2_paint_X2_placeInTile : GoodIn wsX2_paint (va_wsS RX2 19 yX2_placeInTile wsX2_placeInTile) := goodIn_app (goodIn_of _ (by decide +kernel)) ggX2_paint_X2_placeInTile
theorem dX2_paint_0 : decode cX2_paint 0 = .ok (.iload_n 1, 1) := by decide +kernel
theorem dX2_paint_1 : decode cX2_paint 1 = .ok (.iload_n 2, 1) := by decide +kernel
theorem dX2_paint_2 : decode cX2_paint 2 = .ok (.invokestatic 15, 3) := by decide +kernel
theorem dX2_paint_5 : decode cX2_paint 5 = .ok (.istore 4, 2) := by decide +kernel
theorem dX2_paint_7 : decode cX2_paint 7 = .ok (.iconst 4, 1) := by decide +kernel
theorem dX2_paint_8 : decode cX2_paint 8 = .ok (.iload_n 1, 1) := by decide +kernel
theorem dX2_paint_9 : decode cX2_paint 9 = .ok (.iload_n 2, 1) := by decide +kernel
theorem dX2_paint_10 : decode cX2_paint 10 = .ok (.invokestatic 19, 3) := by decide +kernel
theorem dX2_paint_13 : decode cX2_paint 13 = .ok (.imul, 1) := by decide +kernel
theorem dX2_paint_14 : decode cX2_paint 14 = .ok (.istore 5, 2) := by decide +kernel
theorem dX2_paint_16 : decode cX2_paint 16 = .ok (.aload_n 0, 1) := by decide +kernel
theorem dX2_paint_17 : decode cX2_paint 17 = .ok (.getfield 9, 3) := by decide +kernel
theorem dX2_paint_20 : decode cX2_paint 20 = .ok (.iload 4, 2) := by decide +kernel
theorem dX2_paint_22 : decode cX2_paint 22 = .ok (.aload_n 0, 1) := by decide +kernel
theorem dX2_paint_23 : decode cX2_paint 23 = .ok (.getfield 9, 3) := by decide +kernel
theorem dX2_paint_26 : decode cX2_paint 26 = .ok (.iload 4, 2) := by decide +kernel
theorem dX2_paint_28 : decode cX2_paint 28 = .ok (.laload, 1) := by decide +kernel
theorem dX2_paint_29 : decode cX2_paint 29 = .ok (.ldc2_w 26, 3) := by decide +kernel
theorem dX2_paint_32 : decode cX2_paint 32 = .ok (.iload 5, 2) := by decide +kernel
theorem dX2_paint_34 : decode cX2_paint 34 = .ok (.lshl, 1) := by decide +kernel
theorem dX2_paint_35 : decode cX2_paint 35 = .ok (.ldc2_w 28, 3) := by decide +kernel
theorem dX2_paint_38 : decode cX2_paint 38 = .ok (.lxor, 1) := by decide +kernel
theorem dX2_paint_39 : decode cX2_paint 39 = .ok (.land, 1) := by decide +kernel
theorem dX2_paint_40 : decode cX2_paint 40 = .ok (.iload_n 3, 1) := by decide +kernel
theorem dX2_paint_41 : decode cX2_paint 41 = .ok (.i2l, 1) := by decide +kernel
theorem dX2_paint_42 : decode cX2_paint 42 = .ok (.iload 5, 2) := by decide +kernel
theorem dX2_paint_44 : decode cX2_paint 44 = .ok (.lshl, 1) := by decide +kernel
theorem dX2_paint_45 : decode cX2_paint 45 = .ok (.lor, 1) := by decide +kernel
theorem dX2_paint_46 : decode cX2_paint 46 = .ok (.lastore, 1) := by decide +kernel
theorem dX2_paint_47 : decode cX2_paint 47 = .ok (.return_, 1) := by decide +kernel
theorem dX2_become_0 : decode cX2_become 0 = .ok (.iconst 0, 1) := by decide +kernel
theorem dX2_become_1 : decode cX2_become 1 = .ok (.istore_n 2, 1) := by decide +kernel
theorem dX2_become_2 : decode cX2_become 2 = .ok (.iload_n 2, 1) := by decide +kernel
theorem dX2_become_3 : decode cX2_become 3 = .ok (.bipush 12, 2) := by decide +kernel
theorem dX2_become_5 : decode cX2_become 5 = .ok (.if_icmp .ge 21, 3) := by decide +kernel
theorem dX2_become_8 : decode cX2_become 8 = .ok (.aload_n 0, 1) := by decide +kernel
theorem dX2_become_9 : decode cX2_become 9 = .ok (.getfield 9, 3) := by decide +kernel
theorem dX2_become_12 : decode cX2_become 12 = .ok (.iload_n 2, 1) := by decide +kernel
theorem dX2_become_13 : decode cX2_become 13 = .ok (.aload_n 1, 1) := by decide +kernel
theorem dX2_become_14 : decode cX2_become 14 = .ok (.getfield 9, 3) := by decide +kernel
theorem dX2_become_17 : decode cX2_become 17 = .ok (.iload_n 2, 1) := by decide +kernel
theorem dX2_become_18 : decode cX2_become 18 = .ok (.laload, 1) := by decide +kernel
theorem dX2_become_19 : decode cX2_become 19 = .ok (.lastore, 1) := by decide +kernel
theorem dX2_become_20 : decode cX2_become 20 = .ok (.iinc 2 1, 3) := by decide +kernel
theorem dX2_become_23 : decode cX2_become 23 = .ok (.goto (-21), 3) := by decide +kernel
theorem dX2_become_26 : decode cX2_become 26 = .ok (.return_, 1) := by decide +kernel
theorem dX2_clear_0 : decode cX2_clear 0 = .ok (.iconst 0, 1) := by decide +kernel
theorem dX2_clear_1 : decode cX2_clear 1 = .ok (.istore_n 1, 1) := by decide +kernel
theorem dX2_clear_2 : decode cX2_clear 2 = .ok (.iload_n 1, 1) := by decide +kernel
theorem dX2_clear_3 : decode cX2_clear 3 = .ok (.bipush 12, 2) := by decide +kernel
theorem dX2_clear_5 : decode cX2_clear 5 = .ok (.if_icmp .ge 16, 3) := by decide +kernel
theorem dX2_clear_8 : decode cX2_clear 8 = .ok (.aload_n 0, 1) := by decide +kernel
theorem dX2_clear_9 : decode cX2_clear 9 = .ok (.getfield 9, 3) := by decide +kernel
theorem dX2_clear_12 : decode cX2_clear 12 = .ok (.iload_n 1, 1) := by decide +kernel
theorem dX2_clear_13 : decode cX2_clear 13 = .ok (.lconst 0, 1) := by decide +kernel
theorem dX2_clear_14 : decode cX2_clear 14 = .ok (.lastore, 1) := by decide +kernel
theorem dX2_clear_15 : decode cX2_clear 15 = .ok (.iinc 1 1, 3) := by decide +kernel
theorem dX2_clear_18 : decode cX2_clear 18 = .ok (.goto (-16), 3) := by decide +kernel
theorem dX2_clear_21 : decode cX2_clear 21 = .ok (.return_, 1) := by decide +kernel
theorem dX2_tileOf_0 : decode cX2_tileOf 0 = .ok (.iconst 4, 1) := by decide +kernel
theorem dX2_tileOf_1 : decode cX2_tileOf 1 = .ok (.iload_n 1, 1) := by decide +kernel
theorem dX2_tileOf_2 : decode cX2_tileOf 2 = .ok (.iconst 4, 1) := by decide +kernel
theorem dX2_tileOf_3 : decode cX2_tileOf 3 = .ok (.idiv, 1) := by decide +kernel
theorem dX2_tileOf_4 : decode cX2_tileOf 4 = .ok (.imul, 1) := by decide +kernel
theorem dX2_tileOf_5 : decode cX2_tileOf 5 = .ok (.iload_n 0, 1) := by decide +kernel
theorem dX2_tileOf_6 : decode cX2_tileOf 6 = .ok (.iconst 4, 1) := by decide +kernel
theorem dX2_tileOf_7 : decode cX2_tileOf 7 = .ok (.idiv, 1) := by decide +kernel
theorem dX2_tileOf_8 : decode cX2_tileOf 8 = .ok (.iadd, 1) := by decide +kernel
theorem dX2_tileOf_9 : decode cX2_tileOf 9 = .ok (.ireturn, 1) := by decide +kernel
theorem dX2_placeInTile_0 : decode cX2_placeInTile 0 = .ok (.iconst 4, 1) := by decide +kernel
theorem dX2_placeInTile_1 : decode cX2_placeInTile 1 = .ok (.iload_n 1, 1) := by decide +kernel
theorem dX2_placeInTile_2 : decode cX2_placeInTile 2 = .ok (.iconst 4, 1) := by decide +kernel
theorem dX2_placeInTile_3 : decode cX2_placeInTile 3 = .ok (.irem, 1) := by decide +kernel
theorem dX2_placeInTile_4 : decode cX2_placeInTile 4 = .ok (.imul, 1) := by decide +kernel
theorem dX2_placeInTile_5 : decode cX2_placeInTile 5 = .ok (.iload_n 0, 1) := by decide +kernel
theorem dX2_placeInTile_6 : decode cX2_placeInTile 6 = .ok (.iconst 4, 1) := by decide +kernel
theorem dX2_placeInTile_7 : decode cX2_placeInTile 7 = .ok (.irem, 1) := by decide +kernel
theorem dX2_placeInTile_8 : decode cX2_placeInTile 8 = .ok (.iadd, 1) := by decide +kernel
theorem dX2_placeInTile_9 : decode cX2_placeInTile 9 = .ok (.ireturn, 1) := by decide +kernel
