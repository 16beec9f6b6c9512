def RX0 : String := "ShallowBoxes$RectangleText"
def TX0 : u_T := fun k => match k with
  | 0 => ("ShallowBoxes$RectangleText", "characters", "[I", true)
  | 1 => ("ShallowBoxes$RectangleText", "length", "I", false)
  | 2 => ("ShallowBoxes$RectangleText", "corners", "[I", true)
  | 3 => ("ShallowBoxes$RectangleText", "count", "I", false)
  | 4 => ("ShallowBoxes$RectangleText", "at", "I", false)
  | _ => ("ShallowBoxes$RectangleText", "wrong", "Z", false)
def tyX0 : Nat → FieldType := fun k => match k with
  | 0 => .array .int
  | 1 => .int
  | 2 => .array .int
  | 3 => .int
  | 4 => .int
  | _ => .boolean
abbrev wsX00 : List Cond := u_ws RX0 TX0 6
theorem nmX0 : ∀ a, a < 6 → ∀ b, b < 6 → a ≠ b → (TX0 a).2.1 ≠ (TX0 b).2.1 := by decide +kernel
theorem tyX0_ok : ∀ k, k < 6 → parseFieldDescriptor (TX0 k).2.2.1 = some (tyX0 k) := by decide +kernel
abbrev cX0_init : ByteArray := prog_2_method_1_code
def yX0_init : MethodName := ⟨RX0, "<init>", "()V"⟩
abbrev cX0_lengthen : ByteArray := prog_2_method_2_code
def yX0_lengthen : MethodName := ⟨RX0, "lengthen", "(I)I"⟩
abbrev cX0_corner : ByteArray := prog_2_method_3_code
def yX0_corner : MethodName := ⟨RX0, "corner", "(II)I"⟩
abbrev cX0_read : ByteArray := prog_2_method_4_code
def yX0_read : MethodName := ⟨RX0, "read", "()I"⟩
abbrev cX0_readRectangle : ByteArray := prog_2_method_5_code
def yX0_readRectangle : MethodName := ⟨RX0, "readRectangle", "()V"⟩
abbrev cX0_expect : ByteArray := prog_2_method_6_code
def yX0_expect : MethodName := ⟨RX0, "expect", "(I)V"⟩
abbrev cX0_readNumber : ByteArray := prog_2_method_7_code
def yX0_readNumber : MethodName := ⟨RX0, "readNumber", "(II)I"⟩
def RX1 : String := "ShallowBoxes$Tree"
def TX1 : u_T := fun k => match k with
  | 0 => ("ShallowBoxes$Tree", "box", "[I", true)
  | 1 => ("ShallowBoxes$Tree", "level", "[I", true)
  | 2 => ("ShallowBoxes$Tree", "above", "[I", true)
  | 3 => ("ShallowBoxes$Tree", "size", "[I", true)
  | 4 => ("ShallowBoxes$Tree", "entries", "[I", true)
  | 5 => ("ShallowBoxes$Tree", "root", "I", false)
  | 6 => ("ShallowBoxes$Tree", "thrownOut", "I", false)
  | 7 => ("ShallowBoxes$Tree", "splits", "I", false)
  | 8 => ("ShallowBoxes$Tree", "dissolved", "I", false)
  | 9 => ("ShallowBoxes$Tree", "hasThrown", "[I", true)
  | 10 => ("ShallowBoxes$Tree", "kept", "[I", true)
  | 11 => ("ShallowBoxes$Tree", "crowd", "[I", true)
  | 12 => ("ShallowBoxes$Tree", "order", "[I", true)
  | _ => ("ShallowBoxes$Tree", "waiting", "[I", true)
def tyX1 : Nat → FieldType := fun k => match k with
  | 0 => .array .int
  | 1 => .array .int
  | 2 => .array .int
  | 3 => .array .int
  | 4 => .array .int
  | 5 => .int
  | 6 => .int
  | 7 => .int
  | 8 => .int
  | 9 => .array .int
  | 10 => .array .int
  | 11 => .array .int
  | 12 => .array .int
  | _ => .array .int
abbrev wsX10 : List Cond := u_ws RX1 TX1 14
theorem nmX1 : ∀ a, a < 14 → ∀ b, b < 14 → a ≠ b → (TX1 a).2.1 ≠ (TX1 b).2.1 := by decide +kernel
theorem tyX1_ok : ∀ k, k < 14 → parseFieldDescriptor (TX1 k).2.2.1 = some (tyX1 k) := by decide +kernel
abbrev cX1_init : ByteArray := prog_3_method_1_code
def yX1_init : MethodName := ⟨RX1, "<init>", "()V"⟩
abbrev cX1_clear : ByteArray := prog_3_method_2_code
def yX1_clear : MethodName := ⟨RX1, "clear", "()V"⟩
abbrev cX1_takeOver : ByteArray := prog_3_method_3_code
def yX1_takeOver : MethodName := ⟨RX1, "takeOver", "(LShallowBoxes$Tree;)V"⟩
abbrev cX1_corner : ByteArray := prog_3_method_4_code
def yX1_corner : MethodName := ⟨RX1, "corner", "(II)I"⟩
abbrev cX1_setBox : ByteArray := prog_3_method_5_code
def yX1_setBox : MethodName := ⟨RX1, "setBox", "(IIIII)V"⟩
abbrev cX1_shiftBox : ByteArray := prog_3_method_6_code
def yX1_shiftBox : MethodName := ⟨RX1, "shiftBox", "(III)V"⟩
abbrev cX1_area : ByteArray := prog_3_method_7_code
def yX1_area : MethodName := ⟨RX1, "area", "(I)I"⟩
abbrev cX1_joinArea : ByteArray := prog_3_method_8_code
def yX1_joinArea : MethodName := ⟨RX1, "joinArea", "(II)I"⟩
abbrev cX1_commonCells : ByteArray := prog_3_method_9_code
def yX1_commonCells : MethodName := ⟨RX1, "commonCells", "(II)I"⟩
abbrev cX1_middleDistance : ByteArray := prog_3_method_10_code
def yX1_middleDistance : MethodName := ⟨RX1, "middleDistance", "(II)I"⟩
abbrev cX1_distance : ByteArray := prog_3_method_11_code
def yX1_distance : MethodName := ⟨RX1, "distance", "(III)I"⟩
abbrev cX1_fit : ByteArray := prog_3_method_12_code
def yX1_fit : MethodName := ⟨RX1, "fit", "(I)V"⟩
abbrev cX1_fitUpward : ByteArray := prog_3_method_13_code
def yX1_fitUpward : MethodName := ⟨RX1, "fitUpward", "(I)V"⟩
abbrev cX1_levelOf : ByteArray := prog_3_method_14_code
def yX1_levelOf : MethodName := ⟨RX1, "levelOf", "(I)I"⟩
abbrev cX1_sizeOf : ByteArray := prog_3_method_15_code
def yX1_sizeOf : MethodName := ⟨RX1, "sizeOf", "(I)I"⟩
abbrev cX1_nodeAbove : ByteArray := prog_3_method_16_code
def yX1_nodeAbove : MethodName := ⟨RX1, "nodeAbove", "(I)I"⟩
abbrev cX1_entryOf : ByteArray := prog_3_method_17_code
def yX1_entryOf : MethodName := ⟨RX1, "entryOf", "(II)I"⟩
abbrev cX1_newNode : ByteArray := prog_3_method_18_code
def yX1_newNode : MethodName := ⟨RX1, "newNode", "(I)I"⟩
abbrev cX1_placeOf : ByteArray := prog_3_method_19_code
def yX1_placeOf : MethodName := ⟨RX1, "placeOf", "(II)I"⟩
abbrev cX1_attach : ByteArray := prog_3_method_20_code
def yX1_attach : MethodName := ⟨RX1, "attach", "(III)V"⟩
abbrev cX1_detach : ByteArray := prog_3_method_21_code
def yX1_detach : MethodName := ⟨RX1, "detach", "(I)V"⟩
abbrev cX1_countNodes : ByteArray := prog_3_method_22_code
def yX1_countNodes : MethodName := ⟨RX1, "countNodes", "()I"⟩
abbrev cX1_nodeNumbered : ByteArray := prog_3_method_23_code
def yX1_nodeNumbered : MethodName := ⟨RX1, "nodeNumbered", "(I)I"⟩
abbrev cX1_numberOf : ByteArray := prog_3_method_24_code
def yX1_numberOf : MethodName := ⟨RX1, "numberOf", "(I)I"⟩
abbrev cX1_hasRectangle : ByteArray := prog_3_method_25_code
def yX1_hasRectangle : MethodName := ⟨RX1, "hasRectangle", "(I)Z"⟩
abbrev cX1_countRectangles : ByteArray := prog_3_method_26_code
def yX1_countRectangles : MethodName := ⟨RX1, "countRectangles", "()I"⟩
abbrev cX1_lowestFreeNumber : ByteArray := prog_3_method_27_code
def yX1_lowestFreeNumber : MethodName := ⟨RX1, "lowestFreeNumber", "()I"⟩
abbrev cX1_canShift : ByteArray := prog_3_method_28_code
def yX1_canShift : MethodName := ⟨RX1, "canShift", "(III)Z"⟩
abbrev cX1_beginCall : ByteArray := prog_3_method_29_code
def yX1_beginCall : MethodName := ⟨RX1, "beginCall", "()V"⟩
abbrev cX1_putIn : ByteArray := prog_3_method_30_code
def yX1_putIn : MethodName := ⟨RX1, "putIn", "(I)V"⟩
abbrev cX1_reached : ByteArray := prog_3_method_31_code
def yX1_reached : MethodName := ⟨RX1, "reached", "(II)I"⟩
abbrev cX1_branch : ByteArray := prog_3_method_32_code
def yX1_branch : MethodName := ⟨RX1, "branch", "(II)I"⟩
abbrev cX1_throwOut : ByteArray := prog_3_method_33_code
def yX1_throwOut : MethodName := ⟨RX1, "throwOut", "(I)I"⟩
abbrev cX1_split : ByteArray := prog_3_method_34_code
def yX1_split : MethodName := ⟨RX1, "split", "(I)I"⟩
abbrev cX1_join : ByteArray := prog_3_method_35_code
def yX1_join : MethodName := ⟨RX1, "join", "(II)V"⟩
abbrev cX1_seedPair : ByteArray := prog_3_method_36_code
def yX1_seedPair : MethodName := ⟨RX1, "seedPair", "()I"⟩
abbrev cX1_groupFor : ByteArray := prog_3_method_37_code
def yX1_groupFor : MethodName := ⟨RX1, "groupFor", "(IIII)I"⟩
abbrev cX1_takeOut : ByteArray := prog_3_method_38_code
def yX1_takeOut : MethodName := ⟨RX1, "takeOut", "(I)V"⟩
abbrev cX1_dissolveUpward : ByteArray := prog_3_method_39_code
def yX1_dissolveUpward : MethodName := ⟨RX1, "dissolveUpward", "(I)I"⟩
abbrev cX1_overlap : ByteArray := prog_3_method_40_code
def yX1_overlap : MethodName := ⟨RX1, "overlap", "()I"⟩
abbrev cX1_overlapIn : ByteArray := prog_3_method_41_code
def yX1_overlapIn : MethodName := ⟨RX1, "overlapIn", "(I)I"⟩
abbrev cX1_areaBelowRoot : ByteArray := prog_3_method_42_code
def yX1_areaBelowRoot : MethodName := ⟨RX1, "areaBelowRoot", "()I"⟩
abbrev cX1_lookedAt : ByteArray := prog_3_method_43_code
def yX1_lookedAt : MethodName := ⟨RX1, "lookedAt", "(I)I"⟩
abbrev cX1_ranked : ByteArray := prog_3_method_44_code
def yX1_ranked : MethodName := ⟨RX1, "ranked", "(III)I"⟩
abbrev cX1_countNearer : ByteArray := prog_3_method_45_code
def yX1_countNearer : MethodName := ⟨RX1, "countNearer", "(III)I"⟩
def RX2 : String := "ShallowBoxes"
def TX2 : u_T := fun k => match k with
  | 0 => ("ShallowBoxes", "tree", "LShallowBoxes$Tree;", true)
  | 1 => ("ShallowBoxes", "trial", "LShallowBoxes$Tree;", true)
  | 2 => ("ShallowBoxes", "remembered", "[LShallowBoxes$Tree;", true)
  | 3 => ("ShallowBoxes", "oldest", "I", false)
  | 4 => ("ShallowBoxes", "rememberedCount", "I", false)
  | 5 => ("ShallowBoxes", "slots", "[LShallowBoxes$Tree;", true)
  | 6 => ("ShallowBoxes", "slotUsed", "[I", true)
  | _ => ("ShallowBoxes", "text", "LShallowBoxes$RectangleText;", true)
def tyX2 : Nat → FieldType := fun k => match k with
  | 0 => .object "ShallowBoxes$Tree"
  | 1 => .object "ShallowBoxes$Tree"
  | 2 => .array (.object "ShallowBoxes$Tree")
  | 3 => .int
  | 4 => .int
  | 5 => .array (.object "ShallowBoxes$Tree")
  | 6 => .array .int
  | _ => .object "ShallowBoxes$RectangleText"
abbrev wsX20 : List Cond := u_ws RX2 TX2 8
theorem nmX2 : ∀ a, a < 8 → ∀ b, b < 8 → a ≠ b → (TX2 a).2.1 ≠ (TX2 b).2.1 := by decide +kernel
theorem tyX2_ok : ∀ k, k < 8 → parseFieldDescriptor (TX2 k).2.2.1 = some (tyX2 k) := by decide +kernel
abbrev cX2_init : ByteArray := prog_1_method_1_code
def yX2_init : MethodName := ⟨RX2, "<init>", "()V"⟩
abbrev cX2_append : ByteArray := prog_1_method_2_code
def yX2_append : MethodName := ⟨RX2, "append", "(I)I"⟩
abbrev cX2_clearText : ByteArray := prog_1_method_3_code
def yX2_clearText : MethodName := ⟨RX2, "clearText", "()I"⟩
abbrev cX2_errorPosition : ByteArray := prog_1_method_4_code
def yX2_errorPosition : MethodName := ⟨RX2, "errorPosition", "()I"⟩
abbrev cX2_about : ByteArray := prog_1_method_5_code
def yX2_about : MethodName := ⟨RX2, "about", "(I)I"⟩
abbrev cX2_rectangle : ByteArray := prog_1_method_6_code
def yX2_rectangle : MethodName := ⟨RX2, "rectangle", "(II)I"⟩
abbrev cX2_node : ByteArray := prog_1_method_7_code
def yX2_node : MethodName := ⟨RX2, "node", "(II)I"⟩
abbrev cX2_entry : ByteArray := prog_1_method_8_code
def yX2_entry : MethodName := ⟨RX2, "entry", "(II)I"⟩
abbrev cX2_add : ByteArray := prog_1_method_9_code
def yX2_add : MethodName := ⟨RX2, "add", "(IIII)I"⟩
abbrev cX2_addAll : ByteArray := prog_1_method_10_code
def yX2_addAll : MethodName := ⟨RX2, "addAll", "()I"⟩
abbrev cX2_remove : ByteArray := prog_1_method_11_code
def yX2_remove : MethodName := ⟨RX2, "remove", "(I)I"⟩
abbrev cX2_move : ByteArray := prog_1_method_12_code
def yX2_move : MethodName := ⟨RX2, "move", "(III)I"⟩
abbrev cX2_undo : ByteArray := prog_1_method_13_code
def yX2_undo : MethodName := ⟨RX2, "undo", "()I"⟩
abbrev cX2_window : ByteArray := prog_1_method_14_code
def yX2_window : MethodName := ⟨RX2, "window", "(IIII)I"⟩
abbrev cX2_looks : ByteArray := prog_1_method_15_code
def yX2_looks : MethodName := ⟨RX2, "looks", "(IIII)I"⟩
abbrev cX2_nearest : ByteArray := prog_1_method_16_code
def yX2_nearest : MethodName := ⟨RX2, "nearest", "(III)I"⟩
abbrev cX2_chosen : ByteArray := prog_1_method_17_code
def yX2_chosen : MethodName := ⟨RX2, "chosen", "(IIII)I"⟩
abbrev cX2_ifAdded : ByteArray := prog_1_method_18_code
def yX2_ifAdded : MethodName := ⟨RX2, "ifAdded", "(IIII)I"⟩
abbrev cX2_bestRemoval : ByteArray := prog_1_method_19_code
def yX2_bestRemoval : MethodName := ⟨RX2, "bestRemoval", "()I"⟩
abbrev cX2_anew : ByteArray := prog_1_method_20_code
def yX2_anew : MethodName := ⟨RX2, "anew", "()I"⟩
abbrev cX2_runScript : ByteArray := prog_1_method_21_code
def yX2_runScript : MethodName := ⟨RX2, "runScript", "(IJ)I"⟩
abbrev cX2_simulate : ByteArray := prog_1_method_22_code
def yX2_simulate : MethodName := ⟨RX2, "simulate", "(JI)I"⟩
abbrev cX2_save : ByteArray := prog_1_method_23_code
def yX2_save : MethodName := ⟨RX2, "save", "(I)I"⟩
abbrev cX2_restore : ByteArray := prog_1_method_24_code
def yX2_restore : MethodName := ⟨RX2, "restore", "(I)I"⟩
abbrev cX2_remember : ByteArray := prog_1_method_25_code
def yX2_remember : MethodName := ⟨RX2, "remember", "()V"⟩
abbrev cX2_tryAdding : ByteArray := prog_1_method_26_code
def yX2_tryAdding : MethodName := ⟨RX2, "tryAdding", "(IIII)V"⟩
abbrev cX2_takeTurn : ByteArray := prog_1_method_27_code
def yX2_takeTurn : MethodName := ⟨RX2, "takeTurn", "(I)V"⟩
abbrev cX2_succeeds : ByteArray := prog_1_method_28_code
def yX2_succeeds : MethodName := ⟨RX2, "succeeds", "(I)Z"⟩
abbrev cX2_holds : ByteArray := prog_1_method_29_code
def yX2_holds : MethodName := ⟨RX2, "holds", "(IIIII)Z"⟩
abbrev cX2_isCell : ByteArray := prog_1_method_30_code
def yX2_isCell : MethodName := ⟨RX2, "isCell", "(II)Z"⟩
abbrev cX2_isBox : ByteArray := prog_1_method_31_code
def yX2_isBox : MethodName := ⟨RX2, "isBox", "(IIII)Z"⟩
abbrev cX2_treeAt : ByteArray := prog_1_method_32_code
def yX2_treeAt : MethodName := ⟨RX2, "treeAt", "([LShallowBoxes$Tree;I)LShallowBoxes$Tree;"⟩
abbrev cX2_get : ByteArray := prog_1_method_33_code
def yX2_get : MethodName := ⟨RX2, "get", "([II)I"⟩
abbrev cX2_put : ByteArray := prog_1_method_34_code
def yX2_put : MethodName := ⟨RX2, "put", "([III)V"⟩
abbrev cX2_copy : ByteArray := prog_1_method_35_code
def yX2_copy : MethodName := ⟨RX2, "copy", "([I[I)V"⟩
def RX3 : String := "ShallowBoxesModel"
def TX3 : u_T := fun k => match k with
  | 0 => ("ShallowBoxesModel", "refusal", "I", false)
  | 1 => ("ShallowBoxesModel", "text", "[I", true)
  | 2 => ("ShallowBoxesModel", "size", "I", false)
  | 3 => ("ShallowBoxesModel", "now", "[I", true)
  | 4 => ("ShallowBoxesModel", "trial", "[I", true)
  | 5 => ("ShallowBoxesModel", "diary", "[I", true)
  | 6 => ("ShallowBoxesModel", "acts", "I", false)
  | 7 => ("ShallowBoxesModel", "kept", "[I", true)
  | 8 => ("ShallowBoxesModel", "isKept", "[Z", true)
  | 9 => ("ShallowBoxesModel", "box", "[I", true)
  | 10 => ("ShallowBoxesModel", "levelsThrown", "I", false)
  | 11 => ("ShallowBoxesModel", "waiting", "I", false)
  | 12 => ("ShallowBoxesModel", "waitingLevel", "I", false)
  | 13 => ("ShallowBoxesModel", "shared", "[I", true)
  | 14 => ("ShallowBoxesModel", "apartAt", "[I", true)
  | 15 => ("ShallowBoxesModel", "numberOf", "[I", true)
  | 16 => ("ShallowBoxesModel", "slotOf", "[I", true)
  | 17 => ("ShallowBoxesModel", "stack", "[I", true)
  | 18 => ("ShallowBoxesModel", "spot", "I", false)
  | _ => ("ShallowBoxesModel", "read", "I", false)
def tyX3 : Nat → FieldType := fun k => match k with
  | 0 => .int
  | 1 => .array .int
  | 2 => .int
  | 3 => .array .int
  | 4 => .array .int
  | 5 => .array .int
  | 6 => .int
  | 7 => .array .int
  | 8 => .array .boolean
  | 9 => .array .int
  | 10 => .int
  | 11 => .int
  | 12 => .int
  | 13 => .array .int
  | 14 => .array .int
  | 15 => .array .int
  | 16 => .array .int
  | 17 => .array .int
  | 18 => .int
  | _ => .int
abbrev wsX30 : List Cond := u_ws RX3 TX3 20
theorem nmX3 : ∀ a, a < 20 → ∀ b, b < 20 → a ≠ b → (TX3 a).2.1 ≠ (TX3 b).2.1 := by decide +kernel
theorem tyX3_ok : ∀ k, k < 20 → parseFieldDescriptor (TX3 k).2.2.1 = some (tyX3 k) := by decide +kernel
abbrev cX3_init : ByteArray := prog_5_method_1_code
def yX3_init : MethodName := ⟨RX3, "<init>", "()V"⟩
abbrev cX3_begin : ByteArray := prog_5_method_2_code
def yX3_begin : MethodName := ⟨RX3, "begin", "([I)V"⟩
abbrev cX3_thrown : ByteArray := prog_5_method_3_code
def yX3_thrown : MethodName := ⟨RX3, "thrown", "()I"⟩
abbrev cX3_refused : ByteArray := prog_5_method_4_code
def yX3_refused : MethodName := ⟨RX3, "refused", "(I)Z"⟩
abbrev cX3_in : ByteArray := prog_5_method_5_code
def yX3_in : MethodName := ⟨RX3, "in", "(JJJ)Z"⟩
abbrev cX3_copyState : ByteArray := prog_5_method_6_code
def yX3_copyState : MethodName := ⟨RX3, "copyState", "([II[II)V"⟩
abbrev cX3_at : ByteArray := prog_5_method_7_code
def yX3_at : MethodName := ⟨RX3, "at", "(I)I"⟩
abbrev cX3_levelOf : ByteArray := prog_5_method_8_code
def yX3_levelOf : MethodName := ⟨RX3, "levelOf", "([II)I"⟩
abbrev cX3_many : ByteArray := prog_5_method_9_code
def yX3_many : MethodName := ⟨RX3, "many", "([II)I"⟩
abbrev cX3_entryOf : ByteArray := prog_5_method_10_code
def yX3_entryOf : MethodName := ⟨RX3, "entryOf", "([III)I"⟩
abbrev cX3_isThere : ByteArray := prog_5_method_11_code
def yX3_isThere : MethodName := ⟨RX3, "isThere", "([II)Z"⟩
abbrev cX3_count : ByteArray := prog_5_method_12_code
def yX3_count : MethodName := ⟨RX3, "count", "([I)I"⟩
abbrev cX3_nodes : ByteArray := prog_5_method_13_code
def yX3_nodes : MethodName := ⟨RX3, "nodes", "([I)I"⟩
abbrev cX3_nodeWith : ByteArray := prog_5_method_14_code
def yX3_nodeWith : MethodName := ⟨RX3, "nodeWith", "([II)I"⟩
abbrev cX3_insert : ByteArray := prog_5_method_15_code
def yX3_insert : MethodName := ⟨RX3, "insert", "([IIII)V"⟩
abbrev cX3_cutOut : ByteArray := prog_5_method_16_code
def yX3_cutOut : MethodName := ⟨RX3, "cutOut", "([III)V"⟩
abbrev cX3_newSlot : ByteArray := prog_5_method_17_code
def yX3_newSlot : MethodName := ⟨RX3, "newSlot", "([II)I"⟩
abbrev cX3_clearSlot : ByteArray := prog_5_method_18_code
def yX3_clearSlot : MethodName := ⟨RX3, "clearSlot", "([II)V"⟩
abbrev cX3_joinInto : ByteArray := prog_5_method_19_code
def yX3_joinInto : MethodName := ⟨RX3, "joinInto", "(IIZ)V"⟩
abbrev cX3_layBoxes : ByteArray := prog_5_method_20_code
def yX3_layBoxes : MethodName := ⟨RX3, "layBoxes", "([I)V"⟩
abbrev cX3_area : ByteArray := prog_5_method_21_code
def yX3_area : MethodName := ⟨RX3, "area", "(I)I"⟩
abbrev cX3_less : ByteArray := prog_5_method_22_code
def yX3_less : MethodName := ⟨RX3, "less", "(II)I"⟩
abbrev cX3_more : ByteArray := prog_5_method_23_code
def yX3_more : MethodName := ⟨RX3, "more", "(II)I"⟩
abbrev cX3_joinArea : ByteArray := prog_5_method_24_code
def yX3_joinArea : MethodName := ⟨RX3, "joinArea", "(II)I"⟩
abbrev cX3_common : ByteArray := prog_5_method_25_code
def yX3_common : MethodName := ⟨RX3, "common", "(II)I"⟩
abbrev cX3_apart : ByteArray := prog_5_method_26_code
def yX3_apart : MethodName := ⟨RX3, "apart", "(II)I"⟩
abbrev cX3_reach : ByteArray := prog_5_method_27_code
def yX3_reach : MethodName := ⟨RX3, "reach", "([III)I"⟩
abbrev cX3_throwOut : ByteArray := prog_5_method_28_code
def yX3_throwOut : MethodName := ⟨RX3, "throwOut", "([II)V"⟩
abbrev cX3_split : ByteArray := prog_5_method_29_code
def yX3_split : MethodName := ⟨RX3, "split", "([II)I"⟩
abbrev cX3_waste : ByteArray := prog_5_method_30_code
def yX3_waste : MethodName := ⟨RX3, "waste", "(II)I"⟩
abbrev cX3_take : ByteArray := prog_5_method_31_code
def yX3_take : MethodName := ⟨RX3, "take", "([III)V"⟩
abbrev cX3_goesFirst : ByteArray := prog_5_method_32_code
def yX3_goesFirst : MethodName := ⟨RX3, "goesFirst", "([IIIII)Z"⟩
abbrev cX3_treat : ByteArray := prog_5_method_33_code
def yX3_treat : MethodName := ⟨RX3, "treat", "([II)V"⟩
abbrev cX3_putIn : ByteArray := prog_5_method_34_code
def yX3_putIn : MethodName := ⟨RX3, "putIn", "([III)V"⟩
abbrev cX3_takeOut : ByteArray := prog_5_method_35_code
def yX3_takeOut : MethodName := ⟨RX3, "takeOut", "([II)V"⟩
abbrev cX3_layRectangle : ByteArray := prog_5_method_36_code
def yX3_layRectangle : MethodName := ⟨RX3, "layRectangle", "([IIIIII)V"⟩
abbrev cX3_addOn : ByteArray := prog_5_method_37_code
def yX3_addOn : MethodName := ⟨RX3, "addOn", "([IIIII)I"⟩
abbrev cX3_wipe : ByteArray := prog_5_method_38_code
def yX3_wipe : MethodName := ⟨RX3, "wipe", "([II)V"⟩
abbrev cX3_removeOn : ByteArray := prog_5_method_39_code
def yX3_removeOn : MethodName := ⟨RX3, "removeOn", "([II)I"⟩
abbrev cX3_moveOn : ByteArray := prog_5_method_40_code
def yX3_moveOn : MethodName := ⟨RX3, "moveOn", "([IIII)V"⟩
abbrev cX3_whyNotMove : ByteArray := prog_5_method_41_code
def yX3_whyNotMove : MethodName := ⟨RX3, "whyNotMove", "([IIII)I"⟩
abbrev cX3_isRectangle : ByteArray := prog_5_method_42_code
def yX3_isRectangle : MethodName := ⟨RX3, "isRectangle", "(IIII)Z"⟩
abbrev cX3_numberNodes : ByteArray := prog_5_method_43_code
def yX3_numberNodes : MethodName := ⟨RX3, "numberNodes", "([I)I"⟩
abbrev cX3_overlap : ByteArray := prog_5_method_44_code
def yX3_overlap : MethodName := ⟨RX3, "overlap", "([I)I"⟩
abbrev cX3_append : ByteArray := prog_5_method_45_code
def yX3_append : MethodName := ⟨RX3, "append", "(I)I"⟩
abbrev cX3_clearText : ByteArray := prog_5_method_46_code
def yX3_clearText : MethodName := ⟨RX3, "clearText", "()I"⟩
abbrev cX3_here : ByteArray := prog_5_method_47_code
def yX3_here : MethodName := ⟨RX3, "here", "()I"⟩
abbrev cX3_passed : ByteArray := prog_5_method_48_code
def yX3_passed : MethodName := ⟨RX3, "passed", "(I)Z"⟩
abbrev cX3_number : ByteArray := prog_5_method_49_code
def yX3_number : MethodName := ⟨RX3, "number", "(II)I"⟩
abbrev cX3_readOne : ByteArray := prog_5_method_50_code
def yX3_readOne : MethodName := ⟨RX3, "readOne", "([IZ)Z"⟩
abbrev cX3_readText : ByteArray := prog_5_method_51_code
def yX3_readText : MethodName := ⟨RX3, "readText", "([IZ)I"⟩
abbrev cX3_errorPosition : ByteArray := prog_5_method_52_code
def yX3_errorPosition : MethodName := ⟨RX3, "errorPosition", "()I"⟩
abbrev cX3_areas : ByteArray := prog_5_method_53_code
def yX3_areas : MethodName := ⟨RX3, "areas", "()I"⟩
abbrev cX3_about : ByteArray := prog_5_method_54_code
def yX3_about : MethodName := ⟨RX3, "about", "(I)I"⟩
abbrev cX3_rectangle : ByteArray := prog_5_method_55_code
def yX3_rectangle : MethodName := ⟨RX3, "rectangle", "(II)I"⟩
abbrev cX3_node : ByteArray := prog_5_method_56_code
def yX3_node : MethodName := ⟨RX3, "node", "(II)I"⟩
abbrev cX3_entry : ByteArray := prog_5_method_57_code
def yX3_entry : MethodName := ⟨RX3, "entry", "(II)I"⟩
abbrev cX3_remember : ByteArray := prog_5_method_58_code
def yX3_remember : MethodName := ⟨RX3, "remember", "()V"⟩
abbrev cX3_add : ByteArray := prog_5_method_59_code
def yX3_add : MethodName := ⟨RX3, "add", "(IIII)I"⟩
abbrev cX3_addAll : ByteArray := prog_5_method_60_code
def yX3_addAll : MethodName := ⟨RX3, "addAll", "()I"⟩
abbrev cX3_remove : ByteArray := prog_5_method_61_code
def yX3_remove : MethodName := ⟨RX3, "remove", "(I)I"⟩
abbrev cX3_move : ByteArray := prog_5_method_62_code
def yX3_move : MethodName := ⟨RX3, "move", "(III)I"⟩
abbrev cX3_undo : ByteArray := prog_5_method_63_code
def yX3_undo : MethodName := ⟨RX3, "undo", "()I"⟩
abbrev cX3_meets : ByteArray := prog_5_method_64_code
def yX3_meets : MethodName := ⟨RX3, "meets", "(IIIII)Z"⟩
abbrev cX3_window : ByteArray := prog_5_method_65_code
def yX3_window : MethodName := ⟨RX3, "window", "(IIII)I"⟩
abbrev cX3_looks : ByteArray := prog_5_method_66_code
def yX3_looks : MethodName := ⟨RX3, "looks", "(IIII)I"⟩
abbrev cX3_beyond : ByteArray := prog_5_method_67_code
def yX3_beyond : MethodName := ⟨RX3, "beyond", "(III)I"⟩
abbrev cX3_distance : ByteArray := prog_5_method_68_code
def yX3_distance : MethodName := ⟨RX3, "distance", "([IIII)I"⟩
abbrev cX3_nearestOn : ByteArray := prog_5_method_69_code
def yX3_nearestOn : MethodName := ⟨RX3, "nearestOn", "([IIII)I"⟩
abbrev cX3_isCell : ByteArray := prog_5_method_70_code
def yX3_isCell : MethodName := ⟨RX3, "isCell", "(II)Z"⟩
abbrev cX3_nearest : ByteArray := prog_5_method_71_code
def yX3_nearest : MethodName := ⟨RX3, "nearest", "(III)I"⟩
abbrev cX3_chosen : ByteArray := prog_5_method_72_code
def yX3_chosen : MethodName := ⟨RX3, "chosen", "(IIII)I"⟩
abbrev cX3_ifAdded : ByteArray := prog_5_method_73_code
def yX3_ifAdded : MethodName := ⟨RX3, "ifAdded", "(IIII)I"⟩
abbrev cX3_bestRemoval : ByteArray := prog_5_method_74_code
def yX3_bestRemoval : MethodName := ⟨RX3, "bestRemoval", "()I"⟩
abbrev cX3_anew : ByteArray := prog_5_method_75_code
def yX3_anew : MethodName := ⟨RX3, "anew", "()I"⟩
abbrev cX3_adds : ByteArray := prog_5_method_76_code
def yX3_adds : MethodName := ⟨RX3, "adds", "(IIII)Z"⟩
abbrev cX3_moves : ByteArray := prog_5_method_77_code
def yX3_moves : MethodName := ⟨RX3, "moves", "(III)Z"⟩
abbrev cX3_command : ByteArray := prog_5_method_78_code
def yX3_command : MethodName := ⟨RX3, "command", "(IIIII)Z"⟩
abbrev cX3_runScript : ByteArray := prog_5_method_79_code
def yX3_runScript : MethodName := ⟨RX3, "runScript", "(IJ)I"⟩
abbrev cX3_turn : ByteArray := prog_5_method_80_code
def yX3_turn : MethodName := ⟨RX3, "turn", "(I)V"⟩
abbrev cX3_simulate : ByteArray := prog_5_method_81_code
def yX3_simulate : MethodName := ⟨RX3, "simulate", "(JI)I"⟩
abbrev cX3_save : ByteArray := prog_5_method_82_code
def yX3_save : MethodName := ⟨RX3, "save", "(I)I"⟩
abbrev cX3_restore : ByteArray := prog_5_method_83_code
def yX3_restore : MethodName := ⟨RX3, "restore", "(I)I"⟩
def RL : String := "ShallowBoxesLaw"
abbrev cL_append : ByteArray := method_3_code
def yL_append : MethodName := ⟨RL, "append", "(LShallowBoxes;I[J)I"⟩
abbrev cL_about : ByteArray := method_4_code
def yL_about : MethodName := ⟨RL, "about", "(LShallowBoxes;I[J)I"⟩
abbrev cL_rectangle : ByteArray := method_5_code
def yL_rectangle : MethodName := ⟨RL, "rectangle", "(LShallowBoxes;II[J)I"⟩
abbrev cL_node : ByteArray := method_6_code
def yL_node : MethodName := ⟨RL, "node", "(LShallowBoxes;II[J)I"⟩
abbrev cL_entry : ByteArray := method_7_code
def yL_entry : MethodName := ⟨RL, "entry", "(LShallowBoxes;II[J)I"⟩
abbrev cL_add : ByteArray := method_8_code
def yL_add : MethodName := ⟨RL, "add", "(LShallowBoxes;IIII[J)I"⟩
abbrev cL_addAll : ByteArray := method_9_code
def yL_addAll : MethodName := ⟨RL, "addAll", "(LShallowBoxes;[J)I"⟩
abbrev cL_remove : ByteArray := method_10_code
def yL_remove : MethodName := ⟨RL, "remove", "(LShallowBoxes;I[J)I"⟩
abbrev cL_move : ByteArray := method_11_code
def yL_move : MethodName := ⟨RL, "move", "(LShallowBoxes;III[J)I"⟩
abbrev cL_undo : ByteArray := method_12_code
def yL_undo : MethodName := ⟨RL, "undo", "(LShallowBoxes;[J)I"⟩
abbrev cL_window : ByteArray := method_13_code
def yL_window : MethodName := ⟨RL, "window", "(LShallowBoxes;IIII[J)I"⟩
abbrev cL_looks : ByteArray := method_14_code
def yL_looks : MethodName := ⟨RL, "looks", "(LShallowBoxes;IIII[J)I"⟩
abbrev cL_nearest : ByteArray := method_15_code
def yL_nearest : MethodName := ⟨RL, "nearest", "(LShallowBoxes;III[J)I"⟩
abbrev cL_chosen : ByteArray := method_16_code
def yL_chosen : MethodName := ⟨RL, "chosen", "(LShallowBoxes;IIII[J)I"⟩
abbrev cL_ifAdded : ByteArray := method_17_code
def yL_ifAdded : MethodName := ⟨RL, "ifAdded", "(LShallowBoxes;IIII[J)I"⟩
abbrev cL_runScript : ByteArray := method_18_code
def yL_runScript : MethodName := ⟨RL, "runScript", "(LShallowBoxes;IJ[J)I"⟩
abbrev cL_simulate : ByteArray := method_19_code
def yL_simulate : MethodName := ⟨RL, "simulate", "(LShallowBoxes;JI[J)I"⟩
abbrev cL_save : ByteArray := method_20_code
def yL_save : MethodName := ⟨RL, "save", "(LShallowBoxes;I[J)I"⟩
abbrev cL_restore : ByteArray := method_21_code
def yL_restore : MethodName := ⟨RL, "restore", "(LShallowBoxes;I[J)I"⟩
abbrev cL_law : ByteArray := code
def yL_law : MethodName := ⟨RL, "law", "([I)Z"⟩
def wsL_law0_r1 : List Cond := [Cond.classLink RL 8 RX2, Cond.instantiable RX2 8, Cond.initialized RX2, Cond.classLink RL 80 RX3, Cond.instantiable RX3 20, Cond.initialized RX3, Cond.arrayClass .long, Cond.constantLong RL 154 (4294967295), Cond.methodLink RL 79 yX2_init, Cond.instanceMethod yX2_init, Cond.code yX2_init cX2_init 2 none, Cond.methodLink RX2 3 objectInit, Cond.instanceMethod objectInit, Cond.code objectInit ⟨#[0xb1]⟩ 1 none, Cond.classLink RX2 9 RX1, Cond.instantiable RX1 14, Cond.initialized RX1, Cond.fieldLink RX2 12 "ShallowBoxes" "tree" "LShallowBoxes$Tree;", Cond.fieldLink RX2 16 "ShallowBoxes" "trial" "LShallowBoxes$Tree;", Cond.fieldLink RX2 19 "ShallowBoxes" "remembered" "[LShallowBoxes$Tree;", Cond.fieldLink RX2 23 "ShallowBoxes" "slots" "[LShallowBoxes$Tree;", Cond.arrayClass .int, Cond.fieldLink RX2 26 "ShallowBoxes" "slotUsed" "[I", Cond.classLink RX2 30 RX0]
def wsL_law0_r2 : List Cond := [Cond.instantiable RX0 6, Cond.initialized RX0, Cond.fieldLink RX2 33 "ShallowBoxes" "text" "LShallowBoxes$RectangleText;", Cond.methodLink RX2 11 yX1_init, Cond.instanceMethod yX1_init, Cond.code yX1_init cX1_init 1 none, Cond.methodLink RX1 3 objectInit, Cond.fieldLink RX1 9 "ShallowBoxes$Tree" "box" "[I", Cond.fieldLink RX1 15 "ShallowBoxes$Tree" "level" "[I", Cond.fieldLink RX1 18 "ShallowBoxes$Tree" "above" "[I", Cond.fieldLink RX1 21 "ShallowBoxes$Tree" "size" "[I", Cond.fieldLink RX1 24 "ShallowBoxes$Tree" "entries" "[I", Cond.fieldLink RX1 27 "ShallowBoxes$Tree" "hasThrown" "[I", Cond.fieldLink RX1 30 "ShallowBoxes$Tree" "kept" "[I", Cond.fieldLink RX1 33 "ShallowBoxes$Tree" "crowd" "[I", Cond.fieldLink RX1 36 "ShallowBoxes$Tree" "order" "[I", Cond.fieldLink RX1 39 "ShallowBoxes$Tree" "waiting" "[I", Cond.methodLink RX1 42 yX1_clear, Cond.instanceMethod yX1_clear, Cond.selects RX1 yX1_clear yX1_clear, Cond.code yX1_clear cX1_clear 2 none, Cond.fieldLink RX1 49 "ShallowBoxes$Tree" "thrownOut" "I", Cond.fieldLink RX1 53 "ShallowBoxes$Tree" "splits" "I", Cond.fieldLink RX1 56 "ShallowBoxes$Tree" "dissolved" "I"]
def wsL_law0_r3 : List Cond := [Cond.fieldLink RX1 63 "ShallowBoxes$Tree" "root" "I", Cond.static yX2_put, Cond.code yX2_put cX2_put 3 none, Cond.methodLink RX1 59 yX1_newNode, Cond.instanceMethod yX1_newNode, Cond.selects RX1 yX1_newNode yX1_newNode, Cond.code yX1_newNode cX1_newNode 3 (some .int), Cond.static yX2_get, Cond.code yX2_get cX2_get 2 (some .int), Cond.instanceMethod yX0_init, Cond.code yX0_init cX0_init 1 none, Cond.methodLink RX0 3 objectInit, Cond.fieldLink RX0 9 "ShallowBoxes$RectangleText" "characters" "[I", Cond.fieldLink RX0 15 "ShallowBoxes$RectangleText" "corners" "[I", Cond.methodLink RL 82 yX3_init, Cond.instanceMethod yX3_init, Cond.code yX3_init cX3_init 1 none, Cond.methodLink RX3 1 objectInit, Cond.fieldLink RX3 7 "ShallowBoxesModel" "text" "[I", Cond.fieldLink RX3 13 "ShallowBoxesModel" "now" "[I", Cond.fieldLink RX3 16 "ShallowBoxesModel" "trial" "[I", Cond.fieldLink RX3 19 "ShallowBoxesModel" "diary" "[I", Cond.fieldLink RX3 22 "ShallowBoxesModel" "kept" "[I", Cond.arrayClass .boolean]
def wsL_law0_r4 : List Cond := [Cond.fieldLink RX3 25 "ShallowBoxesModel" "isKept" "[Z", Cond.fieldLink RX3 29 "ShallowBoxesModel" "box" "[I", Cond.fieldLink RX3 32 "ShallowBoxesModel" "shared" "[I", Cond.fieldLink RX3 35 "ShallowBoxesModel" "apartAt" "[I", Cond.fieldLink RX3 38 "ShallowBoxesModel" "numberOf" "[I", Cond.fieldLink RX3 41 "ShallowBoxesModel" "slotOf" "[I", Cond.fieldLink RX3 44 "ShallowBoxesModel" "stack" "[I", Cond.methodLink RX3 47 yX3_begin, Cond.static yX3_begin, Cond.code yX3_begin cX3_begin 2 none, Cond.methodLink RL 83 yL_append, Cond.static yL_append, Cond.initialized RL, Cond.codeWith yL_append cL_append 4 (some .int) [(0, 9, 12, 13), (0, 9, 15, 15)], Cond.classLink RL 13 "java/lang/IllegalArgumentException", Cond.classLink RL 15 "java/lang/IllegalStateException", Cond.methodLink RL 7 yX2_append, Cond.instanceMethod yX2_append, Cond.selects RX2 yX2_append yX2_append, Cond.code yX2_append cX2_append 2 (some .int), Cond.classLink RX2 37 "java/lang/IllegalArgumentException", Cond.initialized "java/lang/IllegalArgumentException", Cond.classLink RX2 48 "java/lang/IllegalStateException", Cond.initialized "java/lang/IllegalStateException"]
def wsL_law0_r5 : List Cond := [Cond.methodLink RX2 53 yX0_lengthen, Cond.instanceMethod yX0_lengthen, Cond.selects RX0 yX0_lengthen yX0_lengthen, Cond.code yX0_lengthen cX0_lengthen 2 (some .int), Cond.fieldLink RX0 18 "ShallowBoxes$RectangleText" "length" "I", Cond.methodLink RL 88 yX3_append, Cond.instanceMethod yX3_append, Cond.selects RX3 yX3_append yX3_append, Cond.code yX3_append cX3_append 2 (some .int), Cond.constantLong RX3 176 (255), Cond.fieldLink RX3 178 "ShallowBoxesModel" "size" "I", Cond.methodLink RX3 61 yX3_in, Cond.static yX3_in, Cond.code yX3_in cX3_in 6 (some .boolean), Cond.methodLink RX3 181 yX3_refused, Cond.instanceMethod yX3_refused, Cond.selects RX3 yX3_refused yX3_refused, Cond.code yX3_refused cX3_refused 2 (some .boolean), Cond.fieldLink RX3 51 "ShallowBoxesModel" "refusal" "I", Cond.methodLink RL 89 yX3_thrown, Cond.instanceMethod yX3_thrown, Cond.selects RX3 yX3_thrown yX3_thrown, Cond.code yX3_thrown cX3_thrown 1 (some .int), Cond.methodLink RL 92 yX2_clearText]
def wsL_law0_r6 : List Cond := [Cond.instanceMethod yX2_clearText, Cond.selects RX2 yX2_clearText yX2_clearText, Cond.code yX2_clearText cX2_clearText 2 (some .int), Cond.methodLink RL 95 yX3_clearText, Cond.instanceMethod yX3_clearText, Cond.selects RX3 yX3_clearText yX3_clearText, Cond.code yX3_clearText cX3_clearText 2 (some .int), Cond.methodLink RL 96 yX2_errorPosition, Cond.instanceMethod yX2_errorPosition, Cond.selects RX2 yX2_errorPosition yX2_errorPosition, Cond.code yX2_errorPosition cX2_errorPosition 1 (some .int), Cond.methodLink RX2 57 yX0_read, Cond.instanceMethod yX0_read, Cond.selects RX0 yX0_read yX0_read, Cond.code yX0_read cX0_read 2 (some .int), Cond.fieldLink RX0 30 "ShallowBoxes$RectangleText" "at" "I", Cond.fieldLink RX0 33 "ShallowBoxes$RectangleText" "count" "I", Cond.fieldLink RX0 36 "ShallowBoxes$RectangleText" "wrong" "Z", Cond.methodLink RX0 40 yX0_readRectangle, Cond.instanceMethod yX0_readRectangle, Cond.selects RX0 yX0_readRectangle yX0_readRectangle, Cond.code yX0_readRectangle cX0_readRectangle 6 none, Cond.methodLink RX0 47 yX0_readNumber, Cond.instanceMethod yX0_readNumber]
def wsL_law0_r7 : List Cond := [Cond.selects RX0 yX0_readNumber yX0_readNumber, Cond.code yX0_readNumber cX0_readNumber 7 (some .int), Cond.methodLink RX0 43 yX0_expect, Cond.instanceMethod yX0_expect, Cond.selects RX0 yX0_expect yX0_expect, Cond.code yX0_expect cX0_expect 2 none, Cond.methodLink RL 99 yX3_errorPosition, Cond.instanceMethod yX3_errorPosition, Cond.selects RX3 yX3_errorPosition yX3_errorPosition, Cond.code yX3_errorPosition cX3_errorPosition 1 (some .int), Cond.methodLink RX3 213 yX3_readText, Cond.instanceMethod yX3_readText, Cond.selects RX3 yX3_readText yX3_readText, Cond.code yX3_readText cX3_readText 4 (some .int), Cond.fieldLink RX3 185 "ShallowBoxesModel" "spot" "I", Cond.fieldLink RX3 202 "ShallowBoxesModel" "read" "I", Cond.methodLink RX3 209 yX3_readOne, Cond.instanceMethod yX3_readOne, Cond.selects RX3 yX3_readOne yX3_readOne, Cond.code yX3_readOne cX3_readOne 7 (some .boolean), Cond.methodLink RX3 196 yX3_number, Cond.instanceMethod yX3_number, Cond.selects RX3 yX3_number yX3_number, Cond.code yX3_number cX3_number 4 (some .int)]
def wsL_law0_r8 : List Cond := [Cond.constantLong RX3 192 (48), Cond.constantLong RX3 194 (57), Cond.methodLink RX3 188 yX3_here, Cond.instanceMethod yX3_here, Cond.selects RX3 yX3_here yX3_here, Cond.code yX3_here cX3_here 1 (some .int), Cond.methodLink RX3 199 yX3_passed, Cond.instanceMethod yX3_passed, Cond.selects RX3 yX3_passed yX3_passed, Cond.code yX3_passed cX3_passed 2 (some .boolean), Cond.methodLink RX3 205 yX3_addOn, Cond.instanceMethod yX3_addOn, Cond.selects RX3 yX3_addOn yX3_addOn, Cond.code yX3_addOn cX3_addOn 7 (some .int), Cond.methodLink RX3 151 yX3_layRectangle, Cond.static yX3_layRectangle, Cond.code yX3_layRectangle cX3_layRectangle 6 none, Cond.methodLink RX3 148 yX3_putIn, Cond.instanceMethod yX3_putIn, Cond.selects RX3 yX3_putIn yX3_putIn, Cond.code yX3_putIn cX3_putIn 6 none, Cond.fieldLink RX3 107 "ShallowBoxesModel" "waiting" "I", Cond.fieldLink RX3 110 "ShallowBoxesModel" "waitingLevel" "I", Cond.methodLink RX3 130 yX3_layBoxes]
def wsL_law0_r9 : List Cond := [Cond.instanceMethod yX3_layBoxes, Cond.selects RX3 yX3_layBoxes yX3_layBoxes, Cond.code yX3_layBoxes cX3_layBoxes 5 none, Cond.methodLink RX3 69 yX3_many, Cond.static yX3_many, Cond.code yX3_many cX3_many 2 (some .int), Cond.methodLink RX3 55 yX3_at, Cond.static yX3_at, Cond.code yX3_at cX3_at 1 (some .int), Cond.methodLink RX3 65 yX3_levelOf, Cond.static yX3_levelOf, Cond.code yX3_levelOf cX3_levelOf 2 (some .int), Cond.methodLink RX3 72 yX3_entryOf, Cond.static yX3_entryOf, Cond.code yX3_entryOf cX3_entryOf 3 (some .int), Cond.methodLink RX3 80 yX3_joinInto, Cond.instanceMethod yX3_joinInto, Cond.selects RX3 yX3_joinInto yX3_joinInto, Cond.code yX3_joinInto cX3_joinInto 8 none, Cond.methodLink RX3 142 yX3_reach, Cond.instanceMethod yX3_reach, Cond.selects RX3 yX3_reach yX3_reach, Cond.code yX3_reach cX3_reach 11 (some .int), Cond.methodLink RX3 91 yX3_joinArea]
def wsL_law0_r10 : List Cond := [Cond.instanceMethod yX3_joinArea, Cond.selects RX3 yX3_joinArea yX3_joinArea, Cond.code yX3_joinArea cX3_joinArea 5 (some .int), Cond.methodLink RX3 84 yX3_more, Cond.static yX3_more, Cond.code yX3_more cX3_more 2 (some .int), Cond.methodLink RX3 88 yX3_less, Cond.static yX3_less, Cond.code yX3_less cX3_less 2 (some .int), Cond.methodLink RX3 94 yX3_area, Cond.instanceMethod yX3_area, Cond.selects RX3 yX3_area yX3_area, Cond.code yX3_area cX3_area 2 (some .int), Cond.methodLink RX3 126 yX3_insert, Cond.static yX3_insert, Cond.code yX3_insert cX3_insert 6 none, Cond.methodLink RX3 145 yX3_treat, Cond.instanceMethod yX3_treat, Cond.selects RX3 yX3_treat yX3_treat, Cond.code yX3_treat cX3_treat 7 none, Cond.fieldLink RX3 104 "ShallowBoxesModel" "levelsThrown" "I", Cond.methodLink RX3 133 yX3_throwOut, Cond.instanceMethod yX3_throwOut, Cond.selects RX3 yX3_throwOut yX3_throwOut]
def wsL_law0_r11 : List Cond := [Cond.code yX3_throwOut cX3_throwOut 6 none, Cond.methodLink RX3 97 yX3_apart, Cond.instanceMethod yX3_apart, Cond.selects RX3 yX3_apart yX3_apart, Cond.code yX3_apart cX3_apart 5 (some .int), Cond.methodLink RX3 100 yX3_cutOut, Cond.static yX3_cutOut, Cond.code yX3_cutOut cX3_cutOut 6 none, Cond.methodLink RX3 136 yX3_nodeWith, Cond.static yX3_nodeWith, Cond.code yX3_nodeWith cX3_nodeWith 5 (some .int), Cond.methodLink RX3 139 yX3_split, Cond.instanceMethod yX3_split, Cond.selects RX3 yX3_split yX3_split, Cond.code yX3_split cX3_split 10 (some .int), Cond.methodLink RX3 113 yX3_waste, Cond.instanceMethod yX3_waste, Cond.selects RX3 yX3_waste yX3_waste, Cond.code yX3_waste cX3_waste 3 (some .int), Cond.methodLink RX3 76 yX3_clearSlot, Cond.static yX3_clearSlot, Cond.code yX3_clearSlot cX3_clearSlot 3 none, Cond.methodLink RX3 116 yX3_newSlot, Cond.static yX3_newSlot]
def wsL_law0_r12 : List Cond := [Cond.code yX3_newSlot cX3_newSlot 3 (some .int), Cond.methodLink RX3 119 yX3_take, Cond.instanceMethod yX3_take, Cond.selects RX3 yX3_take yX3_take, Cond.code yX3_take cX3_take 4 none, Cond.methodLink RX3 122 yX3_goesFirst, Cond.instanceMethod yX3_goesFirst, Cond.selects RX3 yX3_goesFirst yX3_goesFirst, Cond.code yX3_goesFirst cX3_goesFirst 10 (some .boolean), Cond.methodLink RL 100 yL_about, Cond.static yL_about, Cond.codeWith yL_about cL_about 4 (some .int) [(0, 9, 12, 13)], Cond.methodLink RL 17 yX2_about, Cond.instanceMethod yX2_about, Cond.selects RX2 yX2_about yX2_about, Cond.code yX2_about cX2_about 2 (some .int), Cond.methodLink RX2 61 yX1_countRectangles, Cond.instanceMethod yX1_countRectangles, Cond.selects RX1 yX1_countRectangles yX1_countRectangles, Cond.code yX1_countRectangles cX1_countRectangles 3 (some .int), Cond.methodLink RX2 64 yX1_countNodes, Cond.instanceMethod yX1_countNodes, Cond.selects RX1 yX1_countNodes yX1_countNodes, Cond.code yX1_countNodes cX1_countNodes 6 (some .int)]
def wsL_law0_r13 : List Cond := [Cond.methodLink RX2 70 yX1_levelOf, Cond.instanceMethod yX1_levelOf, Cond.selects RX1 yX1_levelOf yX1_levelOf, Cond.code yX1_levelOf cX1_levelOf 2 (some .int), Cond.methodLink RX2 73 yX1_overlap, Cond.instanceMethod yX1_overlap, Cond.selects RX1 yX1_overlap yX1_overlap, Cond.code yX1_overlap cX1_overlap 5 (some .int), Cond.methodLink RX1 97 yX1_countNodes, Cond.methodLink RX1 153 yX1_overlapIn, Cond.instanceMethod yX1_overlapIn, Cond.selects RX1 yX1_overlapIn yX1_overlapIn, Cond.code yX1_overlapIn cX1_overlapIn 6 (some .int), Cond.methodLink RX1 156 yX1_commonCells, Cond.instanceMethod yX1_commonCells, Cond.selects RX1 yX1_commonCells yX1_commonCells, Cond.code yX1_commonCells cX1_commonCells 7 (some .int), Cond.methodLink RX1 87 Lib.Math.min.name, Cond.static Lib.Math.min.name, Cond.initialized "java/lang/Math", Cond.code Lib.Math.min.name Lib.Math.min.code 2 (some .int), Cond.methodLink RX1 82 Lib.Math.max.name, Cond.static Lib.Math.max.name, Cond.code Lib.Math.max.name Lib.Math.max.code 2 (some .int)]
def wsL_law0_r14 : List Cond := [Cond.methodLink RX2 76 yX1_areaBelowRoot, Cond.instanceMethod yX1_areaBelowRoot, Cond.selects RX1 yX1_areaBelowRoot yX1_areaBelowRoot, Cond.code yX1_areaBelowRoot cX1_areaBelowRoot 4 (some .int), Cond.methodLink RX1 127 yX1_area, Cond.instanceMethod yX1_area, Cond.selects RX1 yX1_area yX1_area, Cond.code yX1_area cX1_area 3 (some .int), Cond.methodLink RL 102 yX3_about, Cond.instanceMethod yX3_about, Cond.selects RX3 yX3_about yX3_about, Cond.code yX3_about cX3_about 2 (some .int), Cond.constantLong RX3 217 (7), Cond.methodLink RX3 219 yX3_count, Cond.static yX3_count, Cond.code yX3_count cX3_count 3 (some .int), Cond.methodLink RX3 161 yX3_nodes, Cond.static yX3_nodes, Cond.code yX3_nodes cX3_nodes 3 (some .int), Cond.methodLink RX3 222 yX3_overlap, Cond.instanceMethod yX3_overlap, Cond.selects RX3 yX3_overlap yX3_overlap, Cond.code yX3_overlap cX3_overlap 6 (some .int), Cond.methodLink RX3 173 yX3_common]
def wsL_law0_r15 : List Cond := [Cond.instanceMethod yX3_common, Cond.selects RX3 yX3_common yX3_common, Cond.code yX3_common cX3_common 5 (some .int), Cond.methodLink RX3 225 yX3_areas, Cond.instanceMethod yX3_areas, Cond.selects RX3 yX3_areas yX3_areas, Cond.code yX3_areas cX3_areas 3 (some .int), Cond.methodLink RL 103 yL_rectangle, Cond.static yL_rectangle, Cond.codeWith yL_rectangle cL_rectangle 5 (some .int) [(0, 10, 13, 24), (0, 10, 17, 13)], Cond.classLink RL 24 "java/lang/IndexOutOfBoundsException", Cond.methodLink RL 20 yX2_rectangle, Cond.instanceMethod yX2_rectangle, Cond.selects RX2 yX2_rectangle yX2_rectangle, Cond.code yX2_rectangle cX2_rectangle 3 (some .int), Cond.classLink RX2 94 "java/lang/IndexOutOfBoundsException", Cond.initialized "java/lang/IndexOutOfBoundsException", Cond.methodLink RX2 90 yX1_hasRectangle, Cond.instanceMethod yX1_hasRectangle, Cond.selects RX1 yX1_hasRectangle yX1_hasRectangle, Cond.code yX1_hasRectangle cX1_hasRectangle 2 (some .boolean), Cond.methodLink RX2 101 yX1_nodeAbove, Cond.instanceMethod yX1_nodeAbove, Cond.selects RX1 yX1_nodeAbove yX1_nodeAbove]
def wsL_law0_r16 : List Cond := [Cond.code yX1_nodeAbove cX1_nodeAbove 2 (some .int), Cond.methodLink RX2 104 yX1_numberOf, Cond.instanceMethod yX1_numberOf, Cond.selects RX1 yX1_numberOf yX1_numberOf, Cond.code yX1_numberOf cX1_numberOf 4 (some .int), Cond.methodLink RX2 107 yX1_corner, Cond.instanceMethod yX1_corner, Cond.selects RX1 yX1_corner yX1_corner, Cond.code yX1_corner cX1_corner 3 (some .int), Cond.methodLink RL 106 yX3_rectangle, Cond.instanceMethod yX3_rectangle, Cond.selects RX3 yX3_rectangle yX3_rectangle, Cond.code yX3_rectangle cX3_rectangle 3 (some .int), Cond.constantLong RX3 228 (4), Cond.methodLink RX3 165 yX3_isThere, Cond.static yX3_isThere, Cond.code yX3_isThere cX3_isThere 2 (some .boolean), Cond.constantLong RX3 59 (23), Cond.methodLink RX3 230 yX3_numberNodes, Cond.instanceMethod yX3_numberNodes, Cond.selects RX3 yX3_numberNodes yX3_numberNodes, Cond.code yX3_numberNodes cX3_numberNodes 6 (some .int), Cond.methodLink RL 107 yL_node, Cond.static yL_node]
def wsL_law0_r17 : List Cond := [Cond.codeWith yL_node cL_node 5 (some .int) [(0, 10, 13, 24), (0, 10, 17, 13)], Cond.methodLink RL 26 yX2_node, Cond.instanceMethod yX2_node, Cond.selects RX2 yX2_node yX2_node, Cond.code yX2_node cX2_node 4 (some .int), Cond.methodLink RX2 111 yX1_nodeNumbered, Cond.instanceMethod yX1_nodeNumbered, Cond.selects RX1 yX1_nodeNumbered yX1_nodeNumbered, Cond.code yX1_nodeNumbered cX1_nodeNumbered 2 (some .int), Cond.methodLink RX2 118 yX1_sizeOf, Cond.instanceMethod yX1_sizeOf, Cond.selects RX1 yX1_sizeOf yX1_sizeOf, Cond.code yX1_sizeOf cX1_sizeOf 2 (some .int), Cond.methodLink RL 109 yX3_node, Cond.instanceMethod yX3_node, Cond.selects RX3 yX3_node yX3_node, Cond.code yX3_node cX3_node 4 (some .int), Cond.constantLong RX3 233 (6), Cond.methodLink RL 110 yL_entry, Cond.static yL_entry, Cond.codeWith yL_entry cL_entry 5 (some .int) [(0, 10, 13, 24), (0, 10, 17, 13)], Cond.methodLink RL 29 yX2_entry, Cond.instanceMethod yX2_entry, Cond.selects RX2 yX2_entry yX2_entry]
def wsL_law0_r18 : List Cond := [Cond.code yX2_entry cX2_entry 5 (some .int), Cond.methodLink RX2 123 yX1_entryOf, Cond.instanceMethod yX1_entryOf, Cond.selects RX1 yX1_entryOf yX1_entryOf, Cond.code yX1_entryOf cX1_entryOf 3 (some .int), Cond.methodLink RL 112 yX3_entry, Cond.instanceMethod yX3_entry, Cond.selects RX3 yX3_entry yX3_entry, Cond.code yX3_entry cX3_entry 5 (some .int), Cond.methodLink RL 113 yL_add, Cond.static yL_add, Cond.codeWith yL_add cL_add 7 (some .int) [(0, 14, 17, 13), (0, 14, 21, 15)], Cond.methodLink RL 32 yX2_add, Cond.instanceMethod yX2_add, Cond.selects RX2 yX2_add yX2_add, Cond.code yX2_add cX2_add 6 (some .int), Cond.methodLink RX2 126 yX2_isBox, Cond.static yX2_isBox, Cond.code yX2_isBox cX2_isBox 4 (some .boolean), Cond.methodLink RX2 134 yX2_remember, Cond.instanceMethod yX2_remember, Cond.selects RX2 yX2_remember yX2_remember, Cond.code yX2_remember cX2_remember 2 none, Cond.fieldLink RX2 174 "ShallowBoxes" "rememberedCount" "I"]
def wsL_law0_r19 : List Cond := [Cond.fieldLink RX2 179 "ShallowBoxes" "oldest" "I", Cond.methodLink RX2 182 yX2_treeAt, Cond.static yX2_treeAt, Cond.code yX2_treeAt cX2_treeAt 2 (some (.object "ShallowBoxes$Tree")), Cond.methodLink RX2 186 yX1_takeOver, Cond.instanceMethod yX1_takeOver, Cond.selects RX1 yX1_takeOver yX1_takeOver, Cond.code yX1_takeOver cX1_takeOver 2 none, Cond.static yX2_copy, Cond.code yX2_copy cX2_copy 2 none, Cond.methodLink RX2 260 Lib.Math.min.name, Cond.methodLink RX2 265 arraycopyName, Cond.native arraycopyName, Cond.static arraycopyName, Cond.initialized "java/lang/System", Cond.methodLink RX2 137 yX1_lowestFreeNumber, Cond.instanceMethod yX1_lowestFreeNumber, Cond.selects RX1 yX1_lowestFreeNumber yX1_lowestFreeNumber, Cond.code yX1_lowestFreeNumber cX1_lowestFreeNumber 2 (some .int), Cond.methodLink RX2 140 yX1_beginCall, Cond.instanceMethod yX1_beginCall, Cond.selects RX1 yX1_beginCall yX1_beginCall, Cond.code yX1_beginCall cX1_beginCall 2 none, Cond.methodLink RX2 143 yX1_setBox]
def wsL_law0_r20 : List Cond := [Cond.instanceMethod yX1_setBox, Cond.selects RX1 yX1_setBox yX1_setBox, Cond.code yX1_setBox cX1_setBox 7 none, Cond.methodLink RX2 147 yX1_putIn, Cond.instanceMethod yX1_putIn, Cond.selects RX1 yX1_putIn yX1_putIn, Cond.code yX1_putIn cX1_putIn 6 none, Cond.methodLink RX1 105 yX1_reached, Cond.instanceMethod yX1_reached, Cond.selects RX1 yX1_reached yX1_reached, Cond.code yX1_reached cX1_reached 5 (some .int), Cond.methodLink RX1 121 yX1_branch, Cond.instanceMethod yX1_branch, Cond.selects RX1 yX1_branch yX1_branch, Cond.code yX1_branch cX1_branch 8 (some .int), Cond.methodLink RX1 124 yX1_joinArea, Cond.instanceMethod yX1_joinArea, Cond.selects RX1 yX1_joinArea yX1_joinArea, Cond.code yX1_joinArea cX1_joinArea 7 (some .int), Cond.methodLink RX1 108 yX1_attach, Cond.instanceMethod yX1_attach, Cond.selects RX1 yX1_attach yX1_attach, Cond.code yX1_attach cX1_attach 7 none, Cond.methodLink RX1 112 yX1_fitUpward]
def wsL_law0_r21 : List Cond := [Cond.instanceMethod yX1_fitUpward, Cond.selects RX1 yX1_fitUpward yX1_fitUpward, Cond.code yX1_fitUpward cX1_fitUpward 4 none, Cond.methodLink RX1 90 yX1_fit, Cond.instanceMethod yX1_fit, Cond.selects RX1 yX1_fit yX1_fit, Cond.code yX1_fit cX1_fit 9 none, Cond.methodLink RX1 115 yX1_throwOut, Cond.instanceMethod yX1_throwOut, Cond.selects RX1 yX1_throwOut yX1_throwOut, Cond.code yX1_throwOut cX1_throwOut 6 (some .int), Cond.methodLink RX1 130 yX1_middleDistance, Cond.instanceMethod yX1_middleDistance, Cond.selects RX1 yX1_middleDistance yX1_middleDistance, Cond.code yX1_middleDistance cX1_middleDistance 7 (some .int), Cond.methodLink RX1 133 yX1_detach, Cond.instanceMethod yX1_detach, Cond.selects RX1 yX1_detach yX1_detach, Cond.code yX1_detach cX1_detach 6 none, Cond.methodLink RX1 94 yX1_placeOf, Cond.instanceMethod yX1_placeOf, Cond.selects RX1 yX1_placeOf yX1_placeOf, Cond.code yX1_placeOf cX1_placeOf 5 (some .int), Cond.methodLink RX1 118 yX1_split]
def wsL_law0_r22 : List Cond := [Cond.instanceMethod yX1_split, Cond.selects RX1 yX1_split yX1_split, Cond.code yX1_split cX1_split 8 (some .int), Cond.methodLink RX1 136 yX1_seedPair, Cond.instanceMethod yX1_seedPair, Cond.selects RX1 yX1_seedPair yX1_seedPair, Cond.code yX1_seedPair cX1_seedPair 8 (some .int), Cond.methodLink RX1 139 yX1_join, Cond.instanceMethod yX1_join, Cond.selects RX1 yX1_join yX1_join, Cond.code yX1_join cX1_join 4 none, Cond.methodLink RX1 143 yX1_groupFor, Cond.instanceMethod yX1_groupFor, Cond.selects RX1 yX1_groupFor yX1_groupFor, Cond.code yX1_groupFor cX1_groupFor 9 (some .int), Cond.methodLink RL 116 yX3_add, Cond.instanceMethod yX3_add, Cond.selects RX3 yX3_add yX3_add, Cond.code yX3_add cX3_add 5 (some .int), Cond.methodLink RX3 242 yX3_isRectangle, Cond.static yX3_isRectangle, Cond.code yX3_isRectangle cX3_isRectangle 4 (some .boolean), Cond.constantLong RX3 171 (99), Cond.methodLink RX3 246 yX3_remember]
def wsL_law0_r23 : List Cond := [Cond.instanceMethod yX3_remember, Cond.selects RX3 yX3_remember yX3_remember, Cond.code yX3_remember cX3_remember 2 none, Cond.fieldLink RX3 235 "ShallowBoxesModel" "acts" "I", Cond.methodLink RX3 238 yX3_copyState, Cond.static yX3_copyState, Cond.code yX3_copyState cX3_copyState 5 none, Cond.methodLink RL 117 yL_addAll, Cond.static yL_addAll, Cond.codeWith yL_addAll cL_addAll 3 (some .int) [(0, 8, 11, 15)], Cond.methodLink RL 36 yX2_addAll, Cond.instanceMethod yX2_addAll, Cond.selects RX2 yX2_addAll yX2_addAll, Cond.code yX2_addAll cX2_addAll 3 (some .int), Cond.methodLink RX2 158 yX0_corner, Cond.instanceMethod yX0_corner, Cond.selects RX0 yX0_corner yX0_corner, Cond.code yX0_corner cX0_corner 3 (some .int), Cond.methodLink RL 120 yX3_addAll, Cond.instanceMethod yX3_addAll, Cond.selects RX3 yX3_addAll yX3_addAll, Cond.code yX3_addAll cX3_addAll 1 (some .int), Cond.methodLink RL 121 yL_remove, Cond.static yL_remove]
def wsL_law0_r24 : List Cond := [Cond.codeWith yL_remove cL_remove 4 (some .int) [(0, 9, 12, 24)], Cond.methodLink RL 40 yX2_remove, Cond.instanceMethod yX2_remove, Cond.selects RX2 yX2_remove yX2_remove, Cond.code yX2_remove cX2_remove 2 (some .int), Cond.methodLink RX2 159 yX1_takeOut, Cond.instanceMethod yX1_takeOut, Cond.selects RX1 yX1_takeOut yX1_takeOut, Cond.code yX1_takeOut cX1_takeOut 6 none, Cond.methodLink RX1 147 yX1_dissolveUpward, Cond.instanceMethod yX1_dissolveUpward, Cond.selects RX1 yX1_dissolveUpward yX1_dissolveUpward, Cond.code yX1_dissolveUpward cX1_dissolveUpward 7 (some .int), Cond.methodLink RX1 150 yX1_putIn, Cond.methodLink RL 123 yX3_remove, Cond.instanceMethod yX3_remove, Cond.selects RX3 yX3_remove yX3_remove, Cond.code yX3_remove cX3_remove 2 (some .int), Cond.methodLink RX3 249 yX3_removeOn, Cond.instanceMethod yX3_removeOn, Cond.selects RX3 yX3_removeOn yX3_removeOn, Cond.code yX3_removeOn cX3_removeOn 3 (some .int), Cond.methodLink RX3 155 yX3_takeOut, Cond.instanceMethod yX3_takeOut]
def wsL_law0_r25 : List Cond := [Cond.selects RX3 yX3_takeOut yX3_takeOut, Cond.code yX3_takeOut cX3_takeOut 5 none, Cond.methodLink RX3 158 yX3_wipe, Cond.static yX3_wipe, Cond.code yX3_wipe cX3_wipe 3 none, Cond.methodLink RL 124 yL_move, Cond.static yL_move, Cond.codeWith yL_move cL_move 6 (some .int) [(0, 12, 15, 24), (0, 12, 19, 13), (0, 12, 23, 15)], Cond.methodLink RL 43 yX2_move, Cond.instanceMethod yX2_move, Cond.selects RX2 yX2_move yX2_move, Cond.code yX2_move cX2_move 4 (some .int), Cond.methodLink RX2 164 yX1_canShift, Cond.instanceMethod yX1_canShift, Cond.selects RX1 yX1_canShift yX1_canShift, Cond.code yX1_canShift cX1_canShift 4 (some .boolean), Cond.methodLink RX1 74 yX1_corner, Cond.methodLink RX2 170 yX1_shiftBox, Cond.instanceMethod yX1_shiftBox, Cond.selects RX1 yX1_shiftBox yX1_shiftBox, Cond.code yX1_shiftBox cX1_shiftBox 4 none, Cond.methodLink RX1 78 yX1_setBox, Cond.methodLink RL 127 yX3_move, Cond.instanceMethod yX3_move]
def wsL_law0_r26 : List Cond := [Cond.selects RX3 yX3_move yX3_move, Cond.code yX3_move cX3_move 4 (some .int), Cond.methodLink RX3 252 yX3_whyNotMove, Cond.static yX3_whyNotMove, Cond.code yX3_whyNotMove cX3_whyNotMove 5 (some .int), Cond.constantLong RX3 169 (-99), Cond.methodLink RX3 256 yX3_moveOn, Cond.instanceMethod yX3_moveOn, Cond.selects RX3 yX3_moveOn yX3_moveOn, Cond.code yX3_moveOn cX3_moveOn 6 none, Cond.methodLink RL 128 yL_undo, Cond.static yL_undo, Cond.codeWith yL_undo cL_undo 3 (some .int) [(0, 8, 11, 15)], Cond.methodLink RL 47 yX2_undo, Cond.instanceMethod yX2_undo, Cond.selects RX2 yX2_undo yX2_undo, Cond.code yX2_undo cX2_undo 1 (some .int), Cond.methodLink RL 130 yX3_undo, Cond.instanceMethod yX3_undo, Cond.selects RX3 yX3_undo yX3_undo, Cond.code yX3_undo cX3_undo 1 (some .int), Cond.methodLink RL 131 yL_window, Cond.static yL_window, Cond.codeWith yL_window cL_window 7 (some .int) [(0, 14, 17, 13)]]
def wsL_law0_r27 : List Cond := [Cond.methodLink RL 50 yX2_window, Cond.instanceMethod yX2_window, Cond.selects RX2 yX2_window yX2_window, Cond.code yX2_window cX2_window 7 (some .int), Cond.methodLink RX2 190 yX1_commonCells, Cond.methodLink RL 133 yX3_window, Cond.instanceMethod yX3_window, Cond.selects RX3 yX3_window yX3_window, Cond.code yX3_window cX3_window 7 (some .int), Cond.methodLink RX3 259 yX3_meets, Cond.instanceMethod yX3_meets, Cond.selects RX3 yX3_meets yX3_meets, Cond.code yX3_meets cX3_meets 6 (some .boolean), Cond.methodLink RL 134 yL_looks, Cond.static yL_looks, Cond.codeWith yL_looks cL_looks 7 (some .int) [(0, 14, 17, 13)], Cond.methodLink RL 53 yX2_looks, Cond.instanceMethod yX2_looks, Cond.selects RX2 yX2_looks yX2_looks, Cond.code yX2_looks cX2_looks 5 (some .int), Cond.methodLink RX2 193 yX1_lookedAt, Cond.instanceMethod yX1_lookedAt, Cond.selects RX1 yX1_lookedAt yX1_lookedAt, Cond.code yX1_lookedAt cX1_lookedAt 9 (some .int)]
def wsL_law0_r28 : List Cond := [Cond.methodLink RL 136 yX3_looks, Cond.instanceMethod yX3_looks, Cond.selects RX3 yX3_looks yX3_looks, Cond.code yX3_looks cX3_looks 9 (some .int), Cond.methodLink RL 137 yL_nearest, Cond.static yL_nearest, Cond.codeWith yL_nearest cL_nearest 6 (some .int) [(0, 12, 15, 13)], Cond.methodLink RL 56 yX2_nearest, Cond.instanceMethod yX2_nearest, Cond.selects RX2 yX2_nearest yX2_nearest, Cond.code yX2_nearest cX2_nearest 4 (some .int), Cond.methodLink RX2 196 yX2_isCell, Cond.static yX2_isCell, Cond.code yX2_isCell cX2_isCell 2 (some .boolean), Cond.methodLink RX2 202 yX1_ranked, Cond.instanceMethod yX1_ranked, Cond.selects RX1 yX1_ranked yX1_ranked, Cond.code yX1_ranked cX1_ranked 5 (some .int), Cond.methodLink RX1 159 yX1_hasRectangle, Cond.methodLink RX1 163 yX1_countNearer, Cond.instanceMethod yX1_countNearer, Cond.selects RX1 yX1_countNearer yX1_countNearer, Cond.code yX1_countNearer cX1_countNearer 8 (some .int), Cond.methodLink RX1 167 yX1_distance]
def wsL_law0_r29 : List Cond := [Cond.instanceMethod yX1_distance, Cond.selects RX1 yX1_distance yX1_distance, Cond.code yX1_distance cX1_distance 6 (some .int), Cond.methodLink RL 139 yX3_nearest, Cond.instanceMethod yX3_nearest, Cond.selects RX3 yX3_nearest yX3_nearest, Cond.code yX3_nearest cX3_nearest 4 (some .int), Cond.methodLink RX3 270 yX3_isCell, Cond.static yX3_isCell, Cond.code yX3_isCell cX3_isCell 2 (some .boolean), Cond.methodLink RX3 274 yX3_nearestOn, Cond.static yX3_nearestOn, Cond.code yX3_nearestOn cX3_nearestOn 9 (some .int), Cond.methodLink RX3 267 yX3_distance, Cond.static yX3_distance, Cond.code yX3_distance cX3_distance 6 (some .int), Cond.methodLink RX3 263 yX3_beyond, Cond.static yX3_beyond, Cond.code yX3_beyond cX3_beyond 3 (some .int), Cond.methodLink RL 140 yL_chosen, Cond.static yL_chosen, Cond.codeWith yL_chosen cL_chosen 7 (some .int) [(0, 14, 17, 13)], Cond.methodLink RL 59 yX2_chosen, Cond.instanceMethod yX2_chosen]
def wsL_law0_r30 : List Cond := [Cond.selects RX2 yX2_chosen yX2_chosen, Cond.code yX2_chosen cX2_chosen 5 (some .int), Cond.methodLink RX2 206 yX1_reached, Cond.methodLink RL 142 yX3_chosen, Cond.instanceMethod yX3_chosen, Cond.selects RX3 yX3_chosen yX3_chosen, Cond.code yX3_chosen cX3_chosen 7 (some .int), Cond.methodLink RL 143 yL_ifAdded, Cond.static yL_ifAdded, Cond.codeWith yL_ifAdded cL_ifAdded 7 (some .int) [(0, 14, 17, 13)], Cond.methodLink RL 62 yX2_ifAdded, Cond.instanceMethod yX2_ifAdded, Cond.selects RX2 yX2_ifAdded yX2_ifAdded, Cond.code yX2_ifAdded cX2_ifAdded 5 (some .int), Cond.constant RX2 209 (-100001), Cond.methodLink RX2 210 yX2_tryAdding, Cond.instanceMethod yX2_tryAdding, Cond.selects RX2 yX2_tryAdding yX2_tryAdding, Cond.code yX2_tryAdding cX2_tryAdding 6 none, Cond.methodLink RL 145 yX3_ifAdded, Cond.instanceMethod yX3_ifAdded, Cond.selects RX3 yX3_ifAdded yX3_ifAdded, Cond.code yX3_ifAdded cX3_ifAdded 6 (some .int), Cond.constant RX3 277 (-100001)]
def wsL_law0_r31 : List Cond := [Cond.methodLink RL 146 yX2_bestRemoval, Cond.instanceMethod yX2_bestRemoval, Cond.selects RX2 yX2_bestRemoval yX2_bestRemoval, Cond.code yX2_bestRemoval cX2_bestRemoval 5 (some .int), Cond.methodLink RL 149 yX3_bestRemoval, Cond.instanceMethod yX3_bestRemoval, Cond.selects RX3 yX3_bestRemoval yX3_bestRemoval, Cond.code yX3_bestRemoval cX3_bestRemoval 6 (some .int), Cond.methodLink RL 150 yX2_anew, Cond.instanceMethod yX2_anew, Cond.selects RX2 yX2_anew yX2_anew, Cond.code yX2_anew cX2_anew 2 (some .int), Cond.methodLink RX2 214 yX1_clear, Cond.methodLink RL 153 yX3_anew, Cond.instanceMethod yX3_anew, Cond.selects RX3 yX3_anew yX3_anew, Cond.code yX3_anew cX3_anew 3 (some .int), Cond.methodLink RL 156 yL_runScript, Cond.static yL_runScript, Cond.codeWith yL_runScript cL_runScript 6 (some .int) [(0, 11, 14, 13)], Cond.methodLink RL 65 yX2_runScript, Cond.instanceMethod yX2_runScript, Cond.selects RX2 yX2_runScript yX2_runScript, Cond.code yX2_runScript cX2_runScript 7 (some .int)]
def wsL_law0_r32 : List Cond := [Cond.constantLong RX2 219 (1000000000), Cond.constantLong RX2 221 (1000000000000000000), Cond.methodLink RX2 225 yX2_succeeds, Cond.instanceMethod yX2_succeeds, Cond.selects RX2 yX2_succeeds yX2_succeeds, Cond.code yX2_succeeds cX2_succeeds 9 (some .boolean), Cond.constant RX2 251 (1000000), Cond.constant RX2 252 (100000000), Cond.methodLink RX2 253 yX2_holds, Cond.instanceMethod yX2_holds, Cond.selects RX2 yX2_holds yX2_holds, Cond.code yX2_holds cX2_holds 6 (some .boolean), Cond.methodLink RX2 257 yX1_distance, Cond.methodLink RL 159 yX3_runScript, Cond.instanceMethod yX3_runScript, Cond.selects RX3 yX3_runScript yX3_runScript, Cond.code yX3_runScript cX3_runScript 8 (some .int), Cond.constantLong RX3 285 (1000000000), Cond.constantLong RX3 287 (2), Cond.constant RX3 289 (100000000), Cond.constant RX3 290 (1000000), Cond.methodLink RX3 291 yX3_command, Cond.instanceMethod yX3_command, Cond.selects RX3 yX3_command yX3_command]
def wsL_law0_r33 : List Cond := [Cond.code yX3_command cX3_command 6 (some .boolean), Cond.methodLink RX3 278 yX3_adds, Cond.instanceMethod yX3_adds, Cond.selects RX3 yX3_adds yX3_adds, Cond.code yX3_adds cX3_adds 5 (some .boolean), Cond.methodLink RX3 281 yX3_moves, Cond.instanceMethod yX3_moves, Cond.selects RX3 yX3_moves yX3_moves, Cond.code yX3_moves cX3_moves 4 (some .boolean), Cond.methodLink RL 160 yL_simulate, Cond.static yL_simulate, Cond.codeWith yL_simulate cL_simulate 6 (some .int) [(0, 11, 14, 13)], Cond.methodLink RL 69 yX2_simulate, Cond.instanceMethod yX2_simulate, Cond.selects RX2 yX2_simulate yX2_simulate, Cond.code yX2_simulate cX2_simulate 7 (some .int), Cond.constantLong RX2 230 (6364136223846793005), Cond.constantLong RX2 232 (1442695040888963407), Cond.methodLink RX2 234 yX2_takeTurn, Cond.instanceMethod yX2_takeTurn, Cond.selects RX2 yX2_takeTurn yX2_takeTurn, Cond.code yX2_takeTurn cX2_takeTurn 5 none, Cond.constant RX2 249 (65536), Cond.constant RX2 250 (1048576)]
def wsL_law0_r34 : List Cond := [Cond.methodLink RL 163 yX3_simulate, Cond.instanceMethod yX3_simulate, Cond.selects RX3 yX3_simulate yX3_simulate, Cond.code yX3_simulate cX3_simulate 7 (some .int), Cond.constantLong RX3 296 (60), Cond.constantLong RX3 298 (6364136223846793005), Cond.constantLong RX3 300 (1442695040888963407), Cond.methodLink RX3 302 yX3_turn, Cond.instanceMethod yX3_turn, Cond.selects RX3 yX3_turn yX3_turn, Cond.code yX3_turn cX3_turn 3 none, Cond.constant RX3 294 (65536), Cond.constant RX3 295 (1048576), Cond.methodLink RL 164 yL_save, Cond.static yL_save, Cond.codeWith yL_save cL_save 4 (some .int) [(0, 9, 12, 24)], Cond.methodLink RL 73 yX2_save, Cond.instanceMethod yX2_save, Cond.selects RX2 yX2_save yX2_save, Cond.code yX2_save cX2_save 3 (some .int), Cond.methodLink RX2 239 yX2_put, Cond.methodLink RL 166 yX3_save, Cond.instanceMethod yX3_save, Cond.selects RX3 yX3_save yX3_save]
def wsL_law0_r35 : List Cond := [Cond.code yX3_save cX3_save 2 (some .int), Cond.methodLink RL 167 yL_restore, Cond.static yL_restore, Cond.codeWith yL_restore cL_restore 4 (some .int) [(0, 9, 12, 24), (0, 9, 15, 15)], Cond.methodLink RL 76 yX2_restore, Cond.instanceMethod yX2_restore, Cond.selects RX2 yX2_restore yX2_restore, Cond.code yX2_restore cX2_restore 2 (some .int), Cond.methodLink RX2 243 yX2_get, Cond.methodLink RL 169 yX3_restore, Cond.instanceMethod yX3_restore, Cond.selects RX3 yX3_restore yX3_restore, Cond.code yX3_restore cX3_restore 2 (some .int)]
def wsL_law0 : List Cond := (wsL_law0_r1 ++ (wsL_law0_r2 ++ (wsL_law0_r3 ++ (wsL_law0_r4 ++ (wsL_law0_r5 ++ (wsL_law0_r6 ++ (wsL_law0_r7 ++ (wsL_law0_r8 ++ (wsL_law0_r9 ++ (wsL_law0_r10 ++ (wsL_law0_r11 ++ (wsL_law0_r12 ++ (wsL_law0_r13 ++ (wsL_law0_r14 ++ (wsL_law0_r15 ++ (wsL_law0_r16 ++ (wsL_law0_r17 ++ (wsL_law0_r18 ++ (wsL_law0_r19 ++ (wsL_law0_r20 ++ (wsL_law0_r21 ++ (wsL_law0_r22 ++ (wsL_law0_r23 ++ (wsL_law0_r24 ++ (wsL_law0_r25 ++ (wsL_law0_r26 ++ (wsL_law0_r27 ++ (wsL_law0_r28 ++ (wsL_law0_r29 ++ (wsL_law0_r30 ++ (wsL_law0_r31 ++ (wsL_law0_r32 ++ (wsL_law0_r33 ++ (wsL_law0_r34 ++ wsL_law0_r35)))))))))))))))))))))))))))))))))) ++ wsX20 ++ wsX30 ++ wsX10 ++ wsX00 ++ ([] : List Cond)
def wsL_law : List Cond := wsL_law0 ++ (vx_atS RX2 41 "java/lang/IllegalArgumentException" ["java/lang/RuntimeException", "java/lang/Exception"]).filter goodWord ++ (vx_atS RX2 52 "java/lang/IllegalStateException" ["java/lang/RuntimeException", "java/lang/Exception"]).filter goodWord ++ (vx_atS RX2 98 "java/lang/IndexOutOfBoundsException" ["java/lang/RuntimeException", "java/lang/Exception"]).filter goodWord
set_option maxRecDepth 20000 in
theorem wsL_law_in0_r1 : ∀ w ∈ wsL_law0_r1, w ∈ lw_tbl := fun w h => (goodIn_p wsL_law0_r1 [77, 80] (by decide +kernel) (by decide +kernel) w h).1
set_option maxRecDepth 20000 in
theorem wsL_law_in0_r2 : ∀ w ∈ wsL_law0_r2, w ∈ lw_tbl := fun w h => (goodIn_p wsL_law0_r2 [85, 90] (by decide +kernel) (by decide +kernel) w h).1
set_option maxRecDepth 20000 in
theorem wsL_law_in0_r3 : ∀ w ∈ wsL_law0_r3, w ∈ lw_tbl := fun w h => (goodIn_p wsL_law0_r3 [93, 97, 100, 154, 733] (by decide +kernel) (by decide +kernel) w h).1
set_option maxRecDepth 20000 in
theorem wsL_law_in0_r4 : ∀ w ∈ wsL_law0_r4, w ∈ lw_tbl := fun w h => (goodIn_p wsL_law0_r4 [737, 375] (by decide +kernel) (by decide +kernel) w h).1
set_option maxRecDepth 20000 in
theorem wsL_law_in0_r5 : ∀ w ∈ wsL_law0_r5, w ∈ lw_tbl := fun w h => (goodIn_p wsL_law0_r5 [463, 807, 811, 815, 803] (by decide +kernel) (by decide +kernel) w h).1
set_option maxRecDepth 20000 in
theorem wsL_law_in0_r6 : ∀ w ∈ wsL_law0_r6, w ∈ lw_tbl := fun w h => (goodIn_p wsL_law0_r6 [205, 819, 209, 213, 217] (by decide +kernel) (by decide +kernel) w h).1
set_option maxRecDepth 20000 in
theorem wsL_law_in0_r7 : ∀ w ∈ wsL_law0_r7, w ∈ lw_tbl := fun w h => (goodIn_p wsL_law0_r7 [221, 226, 823, 827, 831, 835] (by decide +kernel) (by decide +kernel) w h).1
set_option maxRecDepth 20000 in
theorem wsL_law_in0_r8 : ∀ w ∈ wsL_law0_r8, w ∈ lw_tbl := fun w h => (goodIn_p wsL_law0_r8 [839, 845, 849, 852, 856] (by decide +kernel) (by decide +kernel) w h).1
set_option maxRecDepth 20000 in
theorem wsL_law_in0_r9 : ∀ w ∈ wsL_law0_r9, w ∈ lw_tbl := fun w h => (goodIn_p wsL_law0_r9 [860, 863, 866, 869, 872, 876, 880] (by decide +kernel) (by decide +kernel) w h).1
set_option maxRecDepth 20000 in
theorem wsL_law_in0_r10 : ∀ w ∈ wsL_law0_r10, w ∈ lw_tbl := fun w h => (goodIn_p wsL_law0_r10 [884, 887, 890, 894, 897, 901] (by decide +kernel) (by decide +kernel) w h).1
set_option maxRecDepth 20000 in
theorem wsL_law_in0_r11 : ∀ w ∈ wsL_law0_r11, w ∈ lw_tbl := fun w h => (goodIn_p wsL_law0_r11 [905, 909, 912, 915, 919, 923, 926] (by decide +kernel) (by decide +kernel) w h).1
set_option maxRecDepth 20000 in
theorem wsL_law_in0_r12 : ∀ w ∈ wsL_law0_r12, w ∈ lw_tbl := fun w h => (goodIn_p wsL_law0_r12 [929, 933, 937, 470, 474, 336] (by decide +kernel) (by decide +kernel) w h).1
set_option maxRecDepth 20000 in
theorem wsL_law_in0_r13 : ∀ w ∈ wsL_law0_r13, w ∈ lw_tbl := fun w h => (goodIn_p wsL_law0_r13 [479, 332, 340, 344, 245, 276] (by decide +kernel) (by decide +kernel) w h).1
set_option maxRecDepth 20000 in
theorem wsL_law_in0_r14 : ∀ w ∈ wsL_law0_r14, w ∈ lw_tbl := fun w h => (goodIn_p wsL_law0_r14 [483, 296, 941, 945, 948, 952] (by decide +kernel) (by decide +kernel) w h).1
set_option maxRecDepth 20000 in
theorem wsL_law_in0_r15 : ∀ w ∈ wsL_law0_r15, w ∈ lw_tbl := fun w h => (goodIn_p wsL_law0_r15 [956, 960, 492, 235] (by decide +kernel) (by decide +kernel) w h).1
set_option maxRecDepth 20000 in
theorem wsL_law_in0_r16 : ∀ w ∈ wsL_law0_r16, w ∈ lw_tbl := fun w h => (goodIn_p wsL_law0_r16 [513, 517, 353, 964, 967, 973] (by decide +kernel) (by decide +kernel) w h).1
set_option maxRecDepth 20000 in
theorem wsL_law_in0_r17 : ∀ w ∈ wsL_law0_r17, w ∈ lw_tbl := fun w h => (goodIn_p wsL_law0_r17 [524, 528, 534, 977] (by decide +kernel) (by decide +kernel) w h).1
set_option maxRecDepth 20000 in
theorem wsL_law_in0_r18 : ∀ w ∈ wsL_law0_r18, w ∈ lw_tbl := fun w h => (goodIn_p wsL_law0_r18 [541, 546, 982, 553, 556, 562] (by decide +kernel) (by decide +kernel) w h).1
set_option maxRecDepth 20000 in
theorem wsL_law_in0_r19 : ∀ w ∈ wsL_law0_r19, w ∈ lw_tbl := fun w h => (goodIn_p wsL_law0_r19 [565, 239, 242, 361, 252] (by decide +kernel) (by decide +kernel) w h).1
set_option maxRecDepth 20000 in
theorem wsL_law_in0_r20 : ∀ w ∈ wsL_law0_r20, w ∈ lw_tbl := fun w h => (goodIn_p wsL_law0_r20 [365, 280, 284, 288, 292, 300] (by decide +kernel) (by decide +kernel) w h).1
set_option maxRecDepth 20000 in
theorem wsL_law_in0_r21 : ∀ w ∈ wsL_law0_r21, w ∈ lw_tbl := fun w h => (goodIn_p wsL_law0_r21 [304, 272, 308, 312, 260, 264] (by decide +kernel) (by decide +kernel) w h).1
set_option maxRecDepth 20000 in
theorem wsL_law_in0_r22 : ∀ w ∈ wsL_law0_r22, w ∈ lw_tbl := fun w h => (goodIn_p wsL_law0_r22 [316, 320, 324, 328, 986, 989] (by decide +kernel) (by decide +kernel) w h).1
set_option maxRecDepth 20000 in
theorem wsL_law_in0_r23 : ∀ w ∈ wsL_law0_r23, w ∈ lw_tbl := fun w h => (goodIn_p wsL_law0_r23 [994, 997, 572, 578, 1001] (by decide +kernel) (by decide +kernel) w h).1
set_option maxRecDepth 20000 in
theorem wsL_law_in0_r24 : ∀ w ∈ wsL_law0_r24, w ∈ lw_tbl := fun w h => (goodIn_p wsL_law0_r24 [585, 256, 268, 1005, 1009] (by decide +kernel) (by decide +kernel) w h).1
set_option maxRecDepth 20000 in
theorem wsL_law_in0_r25 : ∀ w ∈ wsL_law0_r25, w ∈ lw_tbl := fun w h => (goodIn_p wsL_law0_r25 [1013, 1016, 592, 597, 604] (by decide +kernel) (by decide +kernel) w h).1
set_option maxRecDepth 20000 in
theorem wsL_law_in0_r26 : ∀ w ∈ wsL_law0_r26, w ∈ lw_tbl := fun w h => (goodIn_p wsL_law0_r26 [1020, 1023, 1028, 612, 1032] (by decide +kernel) (by decide +kernel) w h).1
set_option maxRecDepth 20000 in
theorem wsL_law_in0_r27 : ∀ w ∈ wsL_law0_r27, w ∈ lw_tbl := fun w h => (goodIn_p wsL_law0_r27 [620, 1036, 1040, 628, 632] (by decide +kernel) (by decide +kernel) w h).1
set_option maxRecDepth 20000 in
theorem wsL_law_in0_r28 : ∀ w ∈ wsL_law0_r28, w ∈ lw_tbl := fun w h => (goodIn_p wsL_law0_r28 [1044, 639, 642, 647, 652] (by decide +kernel) (by decide +kernel) w h).1
set_option maxRecDepth 20000 in
theorem wsL_law_in0_r29 : ∀ w ∈ wsL_law0_r29, w ∈ lw_tbl := fun w h => (goodIn_p wsL_law0_r29 [656, 1048, 1051, 1054, 1057, 1060] (by decide +kernel) (by decide +kernel) w h).1
set_option maxRecDepth 20000 in
theorem wsL_law_in0_r30 : ∀ w ∈ wsL_law0_r30, w ∈ lw_tbl := fun w h => (goodIn_p wsL_law0_r30 [663, 1064, 671, 357, 1068] (by decide +kernel) (by decide +kernel) w h).1
set_option maxRecDepth 20000 in
theorem wsL_law_in0_r31 : ∀ w ∈ wsL_law0_r31, w ∈ lw_tbl := fun w h => (goodIn_p wsL_law0_r31 [231, 1073, 348, 1077, 679] (by decide +kernel) (by decide +kernel) w h).1
set_option maxRecDepth 20000 in
theorem wsL_law_in0_r32 : ∀ w ∈ wsL_law0_r32, w ∈ lw_tbl := fun w h => (goodIn_p wsL_law0_r32 [687, 693, 1081] (by decide +kernel) (by decide +kernel) w h).1
set_option maxRecDepth 20000 in
theorem wsL_law_in0_r33 : ∀ w ∈ wsL_law0_r33, w ∈ lw_tbl := fun w h => (goodIn_p wsL_law0_r33 [1089, 1093, 1097, 701, 708] (by decide +kernel) (by decide +kernel) w h).1
set_option maxRecDepth 20000 in
theorem wsL_law_in0_r34 : ∀ w ∈ wsL_law0_r34, w ∈ lw_tbl := fun w h => (goodIn_p wsL_law0_r34 [1101, 1108, 717] (by decide +kernel) (by decide +kernel) w h).1
set_option maxRecDepth 20000 in
theorem wsL_law_in0_r35 : ∀ w ∈ wsL_law0_r35, w ∈ lw_tbl := fun w h => (goodIn_p wsL_law0_r35 [1114, 726, 1118] (by decide +kernel) (by decide +kernel) w h).1
set_option maxRecDepth 20000 in
theorem wsL_law_in0_c2 : ∀ w ∈ wsX20, w ∈ lw_tbl := by decide +kernel
set_option maxRecDepth 20000 in
theorem wsL_law_in0_c3 : ∀ w ∈ wsX30, w ∈ lw_tbl := by decide +kernel
set_option maxRecDepth 20000 in
theorem wsL_law_in0_c1 : ∀ w ∈ wsX10, w ∈ lw_tbl := by decide +kernel
set_option maxRecDepth 20000 in
theorem wsL_law_in0_c0 : ∀ w ∈ wsX00, w ∈ lw_tbl := by decide +kernel
theorem wsL_law_in0 : ∀ w ∈ wsL_law0, w ∈ lw_tbl := fun w h => (List.mem_append.mp h).elim (fun h => (List.mem_append.mp h).elim (fun h => (List.mem_append.mp h).elim (fun h => (List.mem_append.mp h).elim (fun h => (List.mem_append.mp h).elim (fun h => (List.mem_append.mp h).elim (wsL_law_in0_r1 w) (fun h => (List.mem_append.mp h).elim (wsL_law_in0_r2 w) (fun h => (List.mem_append.mp h).elim (wsL_law_in0_r3 w) (fun h => (List.mem_append.mp h).elim (wsL_law_in0_r4 w) (fun h => (List.mem_append.mp h).elim (wsL_law_in0_r5 w) (fun h => (List.mem_append.mp h).elim (wsL_law_in0_r6 w) (fun h => (List.mem_append.mp h).elim (wsL_law_in0_r7 w) (fun h => (List.mem_append.mp h).elim (wsL_law_in0_r8 w) (fun h => (List.mem_append.mp h).elim (wsL_law_in0_r9 w) (fun h => (List.mem_append.mp h).elim (wsL_law_in0_r10 w) (fun h => (List.mem_append.mp h).elim (wsL_law_in0_r11 w) (fun h => (List.mem_append.mp h).elim (wsL_law_in0_r12 w) (fun h => (List.mem_append.mp h).elim (wsL_law_in0_r13 w) (fun h => (List.mem_append.mp h).elim (wsL_law_in0_r14 w) (fun h => (List.mem_append.mp h).elim (wsL_law_in0_r15 w) (fun h => (List.mem_append.mp h).elim (wsL_law_in0_r16 w) (fun h => (List.mem_append.mp h).elim (wsL_law_in0_r17 w) (fun h => (List.mem_append.mp h).elim (wsL_law_in0_r18 w) (fun h => (List.mem_append.mp h).elim (wsL_law_in0_r19 w) (fun h => (List.mem_append.mp h).elim (wsL_law_in0_r20 w) (fun h => (List.mem_append.mp h).elim (wsL_law_in0_r21 w) (fun h => (List.mem_append.mp h).elim (wsL_law_in0_r22 w) (fun h => (List.mem_append.mp h).elim (wsL_law_in0_r23 w) (fun h => (List.mem_append.mp h).elim (wsL_law_in0_r24 w) (fun h => (List.mem_append.mp h).elim (wsL_law_in0_r25 w) (fun h => (List.mem_append.mp h).elim (wsL_law_in0_r26 w) (fun h => (List.mem_append.mp h).elim (wsL_law_in0_r27 w) (fun h => (List.mem_append.mp h).elim (wsL_law_in0_r28 w) (fun h => (List.mem_append.mp h).elim (wsL_law_in0_r29 w) (fun h => (List.mem_append.mp h).elim (wsL_law_in0_r30 w) (fun h => (List.mem_append.mp h).elim (wsL_law_in0_r31 w) (fun h => (List.mem_append.mp h).elim (wsL_law_in0_r32 w) (fun h => (List.mem_append.mp h).elim (wsL_law_in0_r33 w) (fun h => (List.mem_append.mp h).elim (wsL_law_in0_r34 w) (wsL_law_in0_r35 w))))))))))))))))))))))))))))))))))) (wsL_law_in0_c2 w)) (wsL_law_in0_c3 w)) (wsL_law_in0_c1 w)) (wsL_law_in0_c0 w)) (fun h => absurd h List.not_mem_nil)
theorem wsL_law_x0 : ∀ w ∈ (vx_atS RX2 41 "java/lang/IllegalArgumentException" ["java/lang/RuntimeException", "java/lang/Exception"]).filter goodWord, w ∈ lw_tbl := by decide +kernel
theorem wsL_law_x1 : ∀ w ∈ (vx_atS RX2 52 "java/lang/IllegalStateException" ["java/lang/RuntimeException", "java/lang/Exception"]).filter goodWord, w ∈ lw_tbl := by decide +kernel
theorem wsL_law_x2 : ∀ w ∈ (vx_atS RX2 98 "java/lang/IndexOutOfBoundsException" ["java/lang/RuntimeException", "java/lang/Exception"]).filter goodWord, w ∈ lw_tbl := by decide +kernel
theorem wsL_law_in : ∀ w ∈ wsL_law, w ∈ lw_tbl := fun w h => (List.mem_append.mp h).elim (fun h => (List.mem_append.mp h).elim (fun h => (List.mem_append.mp h).elim (fun h => wsL_law_in0 w h) (fun h => wsL_law_x0 w h)) (fun h => wsL_law_x1 w h)) (fun h => wsL_law_x2 w h)
theorem inlX0 : ∀ w ∈ wsX00, w ∈ wsL_law := fun _ h => List.mem_append_left _ (List.mem_append_left _ (List.mem_append_left _ (List.mem_append_left _ (List.mem_append_right _ h))))
theorem inX0 : ∀ w ∈ wsX00, w ∈ lw_tbl := fun w h => wsL_law_in w (inlX0 w h)
theorem inlX1 : ∀ w ∈ wsX10, w ∈ wsL_law := fun _ h => List.mem_append_left _ (List.mem_append_left _ (List.mem_append_left _ (List.mem_append_left _ (List.mem_append_left _ (List.mem_append_right _ h)))))
theorem inX1 : ∀ w ∈ wsX10, w ∈ lw_tbl := fun w h => wsL_law_in w (inlX1 w h)
theorem inlX2 : ∀ w ∈ wsX20, w ∈ wsL_law := fun _ h => List.mem_append_left _ (List.mem_append_left _ (List.mem_append_left _ (List.mem_append_left _ (List.mem_append_left _ (List.mem_append_left _ (List.mem_append_left _ (List.mem_append_right _ h)))))))
theorem inX2 : ∀ w ∈ wsX20, w ∈ lw_tbl := fun w h => wsL_law_in w (inlX2 w h)
theorem inlX3 : ∀ w ∈ wsX30, w ∈ wsL_law := fun _ h => List.mem_append_left _ (List.mem_append_left _ (List.mem_append_left _ (List.mem_append_left _ (List.mem_append_left _ (List.mem_append_left _ (List.mem_append_right _ h))))))
theorem inX3 : ∀ w ∈ wsX30, w ∈ lw_tbl := fun w h => wsL_law_in w (inlX3 w h)
abbrev vwCl : List vw_C := [(RX0, TX0, 6), (RX1, TX1, 14), (RX2, TX2, 8), (RX3, TX3, 20)]
/-! THE list of words: wsL_law, by its chunks -/
theorem zc_0 : ∀ w ∈ wsL_law0, w ∈ wsL_law := fun _ h => List.mem_append_left _ (List.mem_append_left _ (List.mem_append_left _ h))
theorem zc_1 : ∀ w ∈ wsL_law0_r1, w ∈ wsL_law := fun w h => zc_0 w (List.mem_append_left _ (List.mem_append_left _ (List.mem_append_left _ (List.mem_append_left _ (List.mem_append_left _ (List.mem_append_left _ (h)))))))
theorem zc_2 : ∀ w ∈ wsL_law0_r2, w ∈ wsL_law := fun w h => zc_0 w (List.mem_append_left _ (List.mem_append_left _ (List.mem_append_left _ (List.mem_append_left _ (List.mem_append_left _ (List.mem_append_right _ (List.mem_append_left _ (h))))))))
theorem zc_3 : ∀ w ∈ wsL_law0_r3, w ∈ wsL_law := fun w h => zc_0 w (List.mem_append_left _ (List.mem_append_left _ (List.mem_append_left _ (List.mem_append_left _ (List.mem_append_left _ (List.mem_append_right _ (List.mem_append_right _ (List.mem_append_left _ (h)))))))))
theorem zc_4 : ∀ w ∈ wsL_law0_r4, w ∈ wsL_law := fun w h => zc_0 w (List.mem_append_left _ (List.mem_append_left _ (List.mem_append_left _ (List.mem_append_left _ (List.mem_append_left _ (List.mem_append_right _ (List.mem_append_right _ (List.mem_append_right _ (List.mem_append_left _ (h))))))))))
theorem zc_5 : ∀ w ∈ wsL_law0_r5, w ∈ wsL_law := fun w h => zc_0 w (List.mem_append_left _ (List.mem_append_left _ (List.mem_append_left _ (List.mem_append_left _ (List.mem_append_left _ (List.mem_append_right _ (List.mem_append_right _ (List.mem_append_right _ (List.mem_append_right _ (List.mem_append_left _ (h)))))))))))
theorem zc_6 : ∀ w ∈ wsL_law0_r6, w ∈ wsL_law := fun w h => zc_0 w (List.mem_append_left _ (List.mem_append_left _ (List.mem_append_left _ (List.mem_append_left _ (List.mem_append_left _ (List.mem_append_right _ (List.mem_append_right _ (List.mem_append_right _ (List.mem_append_right _ (List.mem_append_right _ (List.mem_append_left _ (h))))))))))))
theorem zc_7 : ∀ w ∈ wsL_law0_r7, w ∈ wsL_law := fun w h => zc_0 w (List.mem_append_left _ (List.mem_append_left _ (List.mem_append_left _ (List.mem_append_left _ (List.mem_append_left _ (List.mem_append_right _ (List.mem_append_right _ (List.mem_append_right _ (List.mem_append_right _ (List.mem_append_right _ (List.mem_append_right _ (List.mem_append_left _ (h)))))))))))))
theorem zc_8 : ∀ w ∈ wsL_law0_r8, w ∈ wsL_law := fun w h => zc_0 w (List.mem_append_left _ (List.mem_append_left _ (List.mem_append_left _ (List.mem_append_left _ (List.mem_append_left _ (List.mem_append_right _ (List.mem_append_right _ (List.mem_append_right _ (List.mem_append_right _ (List.mem_append_right _ (List.mem_append_right _ (List.mem_append_right _ (List.mem_append_left _ (h))))))))))))))
theorem zc_9 : ∀ w ∈ wsL_law0_r9, w ∈ wsL_law := fun w h => zc_0 w (List.mem_append_left _ (List.mem_append_left _ (List.mem_append_left _ (List.mem_append_left _ (List.mem_append_left _ (List.mem_append_right _ (List.mem_append_right _ (List.mem_append_right _ (List.mem_append_right _ (List.mem_append_right _ (List.mem_append_right _ (List.mem_append_right _ (List.mem_append_right _ (List.mem_append_left _ (h)))))))))))))))
theorem zc_10 : ∀ w ∈ wsL_law0_r10, w ∈ wsL_law := fun w h => zc_0 w (List.mem_append_left _ (List.mem_append_left _ (List.mem_append_left _ (List.mem_append_left _ (List.mem_append_left _ (List.mem_append_right _ (List.mem_append_right _ (List.mem_append_right _ (List.mem_append_right _ (List.mem_append_right _ (List.mem_append_right _ (List.mem_append_right _ (List.mem_append_right _ (List.mem_append_right _ (List.mem_append_left _ (h))))))))))))))))
theorem zc_11 : ∀ w ∈ wsL_law0_r11, w ∈ wsL_law := fun w h => zc_0 w (List.mem_append_left _ (List.mem_append_left _ (List.mem_append_left _ (List.mem_append_left _ (List.mem_append_left _ (List.mem_append_right _ (List.mem_append_right _ (List.mem_append_right _ (List.mem_append_right _ (List.mem_append_right _ (List.mem_append_right _ (List.mem_append_right _ (List.mem_append_right _ (List.mem_append_right _ (List.mem_append_right _ (List.mem_append_left _ (h)))))))))))))))))
theorem zc_12 : ∀ w ∈ wsL_law0_r12, w ∈ wsL_law := fun w h => zc_0 w (List.mem_append_left _ (List.mem_append_left _ (List.mem_append_left _ (List.mem_append_left _ (List.mem_append_left _ (List.mem_append_right _ (List.mem_append_right _ (List.mem_append_right _ (List.mem_append_right _ (List.mem_append_right _ (List.mem_append_right _ (List.mem_append_right _ (List.mem_append_right _ (List.mem_append_right _ (List.mem_append_right _ (List.mem_append_right _ (List.mem_append_left _ (h))))))))))))))))))
theorem zc_13 : ∀ w ∈ wsL_law0_r13, w ∈ wsL_law := fun w h => zc_0 w (List.mem_append_left _ (List.mem_append_left _ (List.mem_append_left _ (List.mem_append_left _ (List.mem_append_left _ (List.mem_append_right _ (List.mem_append_right _ (List.mem_append_right _ (List.mem_append_right _ (List.mem_append_right _ (List.mem_append_right _ (List.mem_append_right _ (List.mem_append_right _ (List.mem_append_right _ (List.mem_append_right _ (List.mem_append_right _ (List.mem_append_right _ (List.mem_append_left _ (h)))))))))))))))))))
theorem zc_14 : ∀ w ∈ wsL_law0_r14, w ∈ wsL_law := fun w h => zc_0 w (List.mem_append_left _ (List.mem_append_left _ (List.mem_append_left _ (List.mem_append_left _ (List.mem_append_left _ (List.mem_append_right _ (List.mem_append_right _ (List.mem_append_right _ (List.mem_append_right _ (List.mem_append_right _ (List.mem_append_right _ (List.mem_append_right _ (List.mem_append_right _ (List.mem_append_right _ (List.mem_append_right _ (List.mem_append_right _ (List.mem_append_right _ (List.mem_append_right _ (List.mem_append_left _ (h))))))))))))))))))))
theorem zc_15 : ∀ w ∈ wsL_law0_r15, w ∈ wsL_law := fun w h => zc_0 w (List.mem_append_left _ (List.mem_append_left _ (List.mem_append_left _ (List.mem_append_left _ (List.mem_append_left _ (List.mem_append_right _ (List.mem_append_right _ (List.mem_append_right _ (List.mem_append_right _ (List.mem_append_right _ (List.mem_append_right _ (List.mem_append_right _ (List.mem_append_right _ (List.mem_append_right _ (List.mem_append_right _ (List.mem_append_right _ (List.mem_append_right _ (List.mem_append_right _ (List.mem_append_right _ (List.mem_append_left _ (h)))))))))))))))))))))
theorem zc_16 : ∀ w ∈ wsL_law0_r16, w ∈ wsL_law := fun w h => zc_0 w (List.mem_append_left _ (List.mem_append_left _ (List.mem_append_left _ (List.mem_append_left _ (List.mem_append_left _ (List.mem_append_right _ (List.mem_append_right _ (List.mem_append_right _ (List.mem_append_right _ (List.mem_append_right _ (List.mem_append_right _ (List.mem_append_right _ (List.mem_append_right _ (List.mem_append_right _ (List.mem_append_right _ (List.mem_append_right _ (List.mem_append_right _ (List.mem_append_right _ (List.mem_append_right _ (List.mem_append_right _ (List.mem_append_left _ (h))))))))))))))))))))))
theorem zc_17 : ∀ w ∈ wsL_law0_r17, w ∈ wsL_law := fun w h => zc_0 w (List.mem_append_left _ (List.mem_append_left _ (List.mem_append_left _ (List.mem_append_left _ (List.mem_append_left _ (List.mem_append_right _ (List.mem_append_right _ (List.mem_append_right _ (List.mem_append_right _ (List.mem_append_right _ (List.mem_append_right _ (List.mem_append_right _ (List.mem_append_right _ (List.mem_append_right _ (List.mem_append_right _ (List.mem_append_right _ (List.mem_append_right _ (List.mem_append_right _ (List.mem_append_right _ (List.mem_append_right _ (List.mem_append_right _ (List.mem_append_left _ (h)))))))))))))))))))))))
theorem zc_18 : ∀ w ∈ wsL_law0_r18, w ∈ wsL_law := fun w h => zc_0 w (List.mem_append_left _ (List.mem_append_left _ (List.mem_append_left _ (List.mem_append_left _ (List.mem_append_left _ (List.mem_append_right _ (List.mem_append_right _ (List.mem_append_right _ (List.mem_append_right _ (List.mem_append_right _ (List.mem_append_right _ (List.mem_append_right _ (List.mem_append_right _ (List.mem_append_right _ (List.mem_append_right _ (List.mem_append_right _ (List.mem_append_right _ (List.mem_append_right _ (List.mem_append_right _ (List.mem_append_right _ (List.mem_append_right _ (List.mem_append_right _ (List.mem_append_left _ (h))))))))))))))))))))))))
theorem zc_19 : ∀ w ∈ wsL_law0_r19, w ∈ wsL_law := fun w h => zc_0 w (List.mem_append_left _ (List.mem_append_left _ (List.mem_append_left _ (List.mem_append_left _ (List.mem_append_left _ (List.mem_append_right _ (List.mem_append_right _ (List.mem_append_right _ (List.mem_append_right _ (List.mem_append_right _ (List.mem_append_right _ (List.mem_append_right _ (List.mem_append_right _ (List.mem_append_right _ (List.mem_append_right _ (List.mem_append_right _ (List.mem_append_right _ (List.mem_append_right _ (List.mem_append_right _ (List.mem_append_right _ (List.mem_append_right _ (List.mem_append_right _ (List.mem_append_right _ (List.mem_append_left _ (h)))))))))))))))))))))))))
theorem zc_20 : ∀ w ∈ wsL_law0_r20, w ∈ wsL_law := fun w h => zc_0 w (List.mem_append_left _ (List.mem_append_left _ (List.mem_append_left _ (List.mem_append_left _ (List.mem_append_left _ (List.mem_append_right _ (List.mem_append_right _ (List.mem_append_right _ (List.mem_append_right _ (List.mem_append_right _ (List.mem_append_right _ (List.mem_append_right _ (List.mem_append_right _ (List.mem_append_right _ (List.mem_append_right _ (List.mem_append_right _ (List.mem_append_right _ (List.mem_append_right _ (List.mem_append_right _ (List.mem_append_right _ (List.mem_append_right _ (List.mem_append_right _ (List.mem_append_right _ (List.mem_append_right _ (List.mem_append_left _ (h))))))))))))))))))))))))))
theorem zc_21 : ∀ w ∈ wsL_law0_r21, w ∈ wsL_law := fun w h => zc_0 w (List.mem_append_left _ (List.mem_append_left _ (List.mem_append_left _ (List.mem_append_left _ (List.mem_append_left _ (List.mem_append_right _ (List.mem_append_right _ (List.mem_append_right _ (List.mem_append_right _ (List.mem_append_right _ (List.mem_append_right _ (List.mem_append_right _ (List.mem_append_right _ (List.mem_append_right _ (List.mem_append_right _ (List.mem_append_right _ (List.mem_append_right _ (List.mem_append_right _ (List.mem_append_right _ (List.mem_append_right _ (List.mem_append_right _ (List.mem_append_right _ (List.mem_append_right _ (List.mem_append_right _ (List.mem_append_right _ (List.mem_append_left _ (h)))))))))))))))))))))))))))
theorem zc_22 : ∀ w ∈ wsL_law0_r22, w ∈ wsL_law := fun w h => zc_0 w (List.mem_append_left _ (List.mem_append_left _ (List.mem_append_left _ (List.mem_append_left _ (List.mem_append_left _ (List.mem_append_right _ (List.mem_append_right _ (List.mem_append_right _ (List.mem_append_right _ (List.mem_append_right _ (List.mem_append_right _ (List.mem_append_right _ (List.mem_append_right _ (List.mem_append_right _ (List.mem_append_right _ (List.mem_append_right _ (List.mem_append_right _ (List.mem_append_right _ (List.mem_append_right _ (List.mem_append_right _ (List.mem_append_right _ (List.mem_append_right _ (List.mem_append_right _ (List.mem_append_right _ (List.mem_append_right _ (List.mem_append_right _ (List.mem_append_left _ (h))))))))))))))))))))))))))))
theorem zc_23 : ∀ w ∈ wsL_law0_r23, w ∈ wsL_law := fun w h => zc_0 w (List.mem_append_left _ (List.mem_append_left _ (List.mem_append_left _ (List.mem_append_left _ (List.mem_append_left _ (List.mem_append_right _ (List.mem_append_right _ (List.mem_append_right _ (List.mem_append_right _ (List.mem_append_right _ (List.mem_append_right _ (List.mem_append_right _ (List.mem_append_right _ (List.mem_append_right _ (List.mem_append_right _ (List.mem_append_right _ (List.mem_append_right _ (List.mem_append_right _ (List.mem_append_right _ (List.mem_append_right _ (List.mem_append_right _ (List.mem_append_right _ (List.mem_append_right _ (List.mem_append_right _ (List.mem_append_right _ (List.mem_append_right _ (List.mem_append_right _ (List.mem_append_left _ (h)))))))))))))))))))))))))))))
theorem zc_24 : ∀ w ∈ wsL_law0_r24, w ∈ wsL_law := fun w h => zc_0 w (List.mem_append_left _ (List.mem_append_left _ (List.mem_append_left _ (List.mem_append_left _ (List.mem_append_left _ (List.mem_append_right _ (List.mem_append_right _ (List.mem_append_right _ (List.mem_append_right _ (List.mem_append_right _ (List.mem_append_right _ (List.mem_append_right _ (List.mem_append_right _ (List.mem_append_right _ (List.mem_append_right _ (List.mem_append_right _ (List.mem_append_right _ (List.mem_append_right _ (List.mem_append_right _ (List.mem_append_right _ (List.mem_append_right _ (List.mem_append_right _ (List.mem_append_right _ (List.mem_append_right _ (List.mem_append_right _ (List.mem_append_right _ (List.mem_append_right _ (List.mem_append_right _ (List.mem_append_left _ (h))))))))))))))))))))))))))))))
theorem zc_25 : ∀ w ∈ wsL_law0_r25, w ∈ wsL_law := fun w h => zc_0 w (List.mem_append_left _ (List.mem_append_left _ (List.mem_append_left _ (List.mem_append_left _ (List.mem_append_left _ (List.mem_append_right _ (List.mem_append_right _ (List.mem_append_right _ (List.mem_append_right _ (List.mem_append_right _ (List.mem_append_right _ (List.mem_append_right _ (List.mem_append_right _ (List.mem_append_right _ (List.mem_append_right _ (List.mem_append_right _ (List.mem_append_right _ (List.mem_append_right _ (List.mem_append_right _ (List.mem_append_right _ (List.mem_append_right _ (List.mem_append_right _ (List.mem_append_right _ (List.mem_append_right _ (List.mem_append_right _ (List.mem_append_right _ (List.mem_append_right _ (List.mem_append_right _ (List.mem_append_right _ (List.mem_append_left _ (h)))))))))))))))))))))))))))))))
theorem zc_26 : ∀ w ∈ wsL_law0_r26, w ∈ wsL_law := fun w h => zc_0 w (List.mem_append_left _ (List.mem_append_left _ (List.mem_append_left _ (List.mem_append_left _ (List.mem_append_left _ (List.mem_append_right _ (List.mem_append_right _ (List.mem_append_right _ (List.mem_append_right _ (List.mem_append_right _ (List.mem_append_right _ (List.mem_append_right _ (List.mem_append_right _ (List.mem_append_right _ (List.mem_append_right _ (List.mem_append_right _ (List.mem_append_right _ (List.mem_append_right _ (List.mem_append_right _ (List.mem_append_right _ (List.mem_append_right _ (List.mem_append_right _ (List.mem_append_right _ (List.mem_append_right _ (List.mem_append_right _ (List.mem_append_right _ (List.mem_append_right _ (List.mem_append_right _ (List.mem_append_right _ (List.mem_append_right _ (List.mem_append_left _ (h))))))))))))))))))))))))))))))))
theorem zc_27 : ∀ w ∈ wsL_law0_r27, w ∈ wsL_law := fun w h => zc_0 w (List.mem_append_left _ (List.mem_append_left _ (List.mem_append_left _ (List.mem_append_left _ (List.mem_append_left _ (List.mem_append_right _ (List.mem_append_right _ (List.mem_append_right _ (List.mem_append_right _ (List.mem_append_right _ (List.mem_append_right _ (List.mem_append_right _ (List.mem_append_right _ (List.mem_append_right _ (List.mem_append_right _ (List.mem_append_right _ (List.mem_append_right _ (List.mem_append_right _ (List.mem_append_right _ (List.mem_append_right _ (List.mem_append_right _ (List.mem_append_right _ (List.mem_append_right _ (List.mem_append_right _ (List.mem_append_right _ (List.mem_append_right _ (List.mem_append_right _ (List.mem_append_right _ (List.mem_append_right _ (List.mem_append_right _ (List.mem_append_right _ (List.mem_append_left _ (h)))))))))))))))))))))))))))))))))
theorem zc_28 : ∀ w ∈ wsL_law0_r28, w ∈ wsL_law := fun w h => zc_0 w (List.mem_append_left _ (List.mem_append_left _ (List.mem_append_left _ (List.mem_append_left _ (List.mem_append_left _ (List.mem_append_right _ (List.mem_append_right _ (List.mem_append_right _ (List.mem_append_right _ (List.mem_append_right _ (List.mem_append_right _ (List.mem_append_right _ (List.mem_append_right _ (List.mem_append_right _ (List.mem_append_right _ (List.mem_append_right _ (List.mem_append_right _ (List.mem_append_right _ (List.mem_append_right _ (List.mem_append_right _ (List.mem_append_right _ (List.mem_append_right _ (List.mem_append_right _ (List.mem_append_right _ (List.mem_append_right _ (List.mem_append_right _ (List.mem_append_right _ (List.mem_append_right _ (List.mem_append_right _ (List.mem_append_right _ (List.mem_append_right _ (List.mem_append_right _ (List.mem_append_left _ (h))))))))))))))))))))))))))))))))))
theorem zc_29 : ∀ w ∈ wsL_law0_r29, w ∈ wsL_law := fun w h => zc_0 w (List.mem_append_left _ (List.mem_append_left _ (List.mem_append_left _ (List.mem_append_left _ (List.mem_append_left _ (List.mem_append_right _ (List.mem_append_right _ (List.mem_append_right _ (List.mem_append_right _ (List.mem_append_right _ (List.mem_append_right _ (List.mem_append_right _ (List.mem_append_right _ (List.mem_append_right _ (List.mem_append_right _ (List.mem_append_right _ (List.mem_append_right _ (List.mem_append_right _ (List.mem_append_right _ (List.mem_append_right _ (List.mem_append_right _ (List.mem_append_right _ (List.mem_append_right _ (List.mem_append_right _ (List.mem_append_right _ (List.mem_append_right _ (List.mem_append_right _ (List.mem_append_right _ (List.mem_append_right _ (List.mem_append_right _ (List.mem_append_right _ (List.mem_append_right _ (List.mem_append_right _ (List.mem_append_left _ (h)))))))))))))))))))))))))))))))))))
theorem zc_30 : ∀ w ∈ wsL_law0_r30, w ∈ wsL_law := fun w h => zc_0 w (List.mem_append_left _ (List.mem_append_left _ (List.mem_append_left _ (List.mem_append_left _ (List.mem_append_left _ (List.mem_append_right _ (List.mem_append_right _ (List.mem_append_right _ (List.mem_append_right _ (List.mem_append_right _ (List.mem_append_right _ (List.mem_append_right _ (List.mem_append_right _ (List.mem_append_right _ (List.mem_append_right _ (List.mem_append_right _ (List.mem_append_right _ (List.mem_append_right _ (List.mem_append_right _ (List.mem_append_right _ (List.mem_append_right _ (List.mem_append_right _ (List.mem_append_right _ (List.mem_append_right _ (List.mem_append_right _ (List.mem_append_right _ (List.mem_append_right _ (List.mem_append_right _ (List.mem_append_right _ (List.mem_append_right _ (List.mem_append_right _ (List.mem_append_right _ (List.mem_append_right _ (List.mem_append_right _ (List.mem_append_left _ (h))))))))))))))))))))))))))))))))))))
theorem zc_31 : ∀ w ∈ wsL_law0_r31, w ∈ wsL_law := fun w h => zc_0 w (List.mem_append_left _ (List.mem_append_left _ (List.mem_append_left _ (List.mem_append_left _ (List.mem_append_left _ (List.mem_append_right _ (List.mem_append_right _ (List.mem_append_right _ (List.mem_append_right _ (List.mem_append_right _ (List.mem_append_right _ (List.mem_append_right _ (List.mem_append_right _ (List.mem_append_right _ (List.mem_append_right _ (List.mem_append_right _ (List.mem_append_right _ (List.mem_append_right _ (List.mem_append_right _ (List.mem_append_right _ (List.mem_append_right _ (List.mem_append_right _ (List.mem_append_right _ (List.mem_append_right _ (List.mem_append_right _ (List.mem_append_right _ (List.mem_append_right _ (List.mem_append_right _ (List.mem_append_right _ (List.mem_append_right _ (List.mem_append_right _ (List.mem_append_right _ (List.mem_append_right _ (List.mem_append_right _ (List.mem_append_right _ (List.mem_append_left _ (h)))))))))))))))))))))))))))))))))))))
theorem zc_32 : ∀ w ∈ wsL_law0_r32, w ∈ wsL_law := fun w h => zc_0 w (List.mem_append_left _ (List.mem_append_left _ (List.mem_append_left _ (List.mem_append_left _ (List.mem_append_left _ (List.mem_append_right _ (List.mem_append_right _ (List.mem_append_right _ (List.mem_append_right _ (List.mem_append_right _ (List.mem_append_right _ (List.mem_append_right _ (List.mem_append_right _ (List.mem_append_right _ (List.mem_append_right _ (List.mem_append_right _ (List.mem_append_right _ (List.mem_append_right _ (List.mem_append_right _ (List.mem_append_right _ (List.mem_append_right _ (List.mem_append_right _ (List.mem_append_right _ (List.mem_append_right _ (List.mem_append_right _ (List.mem_append_right _ (List.mem_append_right _ (List.mem_append_right _ (List.mem_append_right _ (List.mem_append_right _ (List.mem_append_right _ (List.mem_append_right _ (List.mem_append_right _ (List.mem_append_right _ (List.mem_append_right _ (List.mem_append_right _ (List.mem_append_left _ (h))))))))))))))))))))))))))))))))))))))
theorem zc_33 : ∀ w ∈ wsL_law0_r33, w ∈ wsL_law := fun w h => zc_0 w (List.mem_append_left _ (List.mem_append_left _ (List.mem_append_left _ (List.mem_append_left _ (List.mem_append_left _ (List.mem_append_right _ (List.mem_append_right _ (List.mem_append_right _ (List.mem_append_right _ (List.mem_append_right _ (List.mem_append_right _ (List.mem_append_right _ (List.mem_append_right _ (List.mem_append_right _ (List.mem_append_right _ (List.mem_append_right _ (List.mem_append_right _ (List.mem_append_right _ (List.mem_append_right _ (List.mem_append_right _ (List.mem_append_right _ (List.mem_append_right _ (List.mem_append_right _ (List.mem_append_right _ (List.mem_append_right _ (List.mem_append_right _ (List.mem_append_right _ (List.mem_append_right _ (List.mem_append_right _ (List.mem_append_right _ (List.mem_append_right _ (List.mem_append_right _ (List.mem_append_right _ (List.mem_append_right _ (List.mem_append_right _ (List.mem_append_right _ (List.mem_append_right _ (List.mem_append_left _ (h)))))))))))))))))))))))))))))))))))))))
theorem zc_34 : ∀ w ∈ wsL_law0_r34, w ∈ wsL_law := fun w h => zc_0 w (List.mem_append_left _ (List.mem_append_left _ (List.mem_append_left _ (List.mem_append_left _ (List.mem_append_left _ (List.mem_append_right _ (List.mem_append_right _ (List.mem_append_right _ (List.mem_append_right _ (List.mem_append_right _ (List.mem_append_right _ (List.mem_append_right _ (List.mem_append_right _ (List.mem_append_right _ (List.mem_append_right _ (List.mem_append_right _ (List.mem_append_right _ (List.mem_append_right _ (List.mem_append_right _ (List.mem_append_right _ (List.mem_append_right _ (List.mem_append_right _ (List.mem_append_right _ (List.mem_append_right _ (List.mem_append_right _ (List.mem_append_right _ (List.mem_append_right _ (List.mem_append_right _ (List.mem_append_right _ (List.mem_append_right _ (List.mem_append_right _ (List.mem_append_right _ (List.mem_append_right _ (List.mem_append_right _ (List.mem_append_right _ (List.mem_append_right _ (List.mem_append_right _ (List.mem_append_right _ (List.mem_append_left _ (h))))))))))))))))))))))))))))))))))))))))
theorem zc_35 : ∀ w ∈ wsL_law0_r35, w ∈ wsL_law := fun w h => zc_0 w (List.mem_append_left _ (List.mem_append_left _ (List.mem_append_left _ (List.mem_append_left _ (List.mem_append_left _ (List.mem_append_right _ (List.mem_append_right _ (List.mem_append_right _ (List.mem_append_right _ (List.mem_append_right _ (List.mem_append_right _ (List.mem_append_right _ (List.mem_append_right _ (List.mem_append_right _ (List.mem_append_right _ (List.mem_append_right _ (List.mem_append_right _ (List.mem_append_right _ (List.mem_append_right _ (List.mem_append_right _ (List.mem_append_right _ (List.mem_append_right _ (List.mem_append_right _ (List.mem_append_right _ (List.mem_append_right _ (List.mem_append_right _ (List.mem_append_right _ (List.mem_append_right _ (List.mem_append_right _ (List.mem_append_right _ (List.mem_append_right _ (List.mem_append_right _ (List.mem_append_right _ (List.mem_append_right _ (List.mem_append_right _ (List.mem_append_right _ (List.mem_append_right _ (List.mem_append_right _ (List.mem_append_right _ (h))))))))))))))))))))))))))))))))))))))))
theorem zg_all0 : wsL_law0.all goodWord = true := by decide +kernel
theorem zg_all1 : ((vx_atS RX2 41 "java/lang/IllegalArgumentException" ["java/lang/RuntimeException", "java/lang/Exception"]).filter goodWord ++ (vx_atS RX2 52 "java/lang/IllegalStateException" ["java/lang/RuntimeException", "java/lang/Exception"]).filter goodWord ++ (vx_atS RX2 98 "java/lang/IndexOutOfBoundsException" ["java/lang/RuntimeException", "java/lang/Exception"]).filter goodWord).all goodWord = true := by decide +kernel
theorem zg_all : ∀ w ∈ wsL_law, goodWord w = true := by
  intro w h
  have h1 := List.all_eq_true.mp zg_all0 w
  have h2 := List.all_eq_true.mp zg_all1 w
  unfold wsL_law at h
  rw [List.append_assoc, List.append_assoc] at h
  rcases List.mem_append.mp h with h | h
  · exact h1 h
  · exact h2 (by rw [List.append_assoc]; exact h)
theorem zg_in {ws : List Cond} (h : ∀ w ∈ ws, w ∈ wsL_law) : GoodIn wsL_law ws := fun w hw => ⟨h w hw, good_of_word (zg_all w (h w hw))⟩
theorem zg_c {c : Cond} (h : c ∈ wsL_law) : GoodIn wsL_law (c :: wsL_law) := zg_in (fun w hw => (List.mem_cons.mp hw).elim (fun e => e ▸ h) id)
theorem zg_V {own : String} {idx : Nat} {C : String} {y : MethodName} {c : Cond} (h1 : Cond.methodLink own idx y ∈ wsL_law) (h2 : Cond.instanceMethod y ∈ wsL_law) (h3 : Cond.selects C y y ∈ wsL_law) (h4 : Cond.initialized C ∈ wsL_law) (h : c ∈ wsL_law) : GoodIn wsL_law (wsV own idx C y (c :: wsL_law)) := zg_in (fun w hw => by
  unfold wsV at hw
  rcases List.mem_append.mp hw with hw | hw
  · rcases List.mem_cons.mp hw with rfl | hw
    · exact h1
    rcases List.mem_cons.mp hw with rfl | hw
    · exact h2
    rcases List.mem_cons.mp hw with rfl | hw
    · exact h3
    rcases List.mem_cons.mp hw with rfl | hw
    · exact h4
    · cases hw
  · exact (List.mem_cons.mp hw).elim (fun e => e ▸ h) id)
theorem zg_S {own : String} {idx : Nat} {y : MethodName} {c : Cond} (h1 : Cond.methodLink own idx y ∈ wsL_law) (h2 : Cond.static y ∈ wsL_law) (h3 : Cond.initialized y.cls ∈ wsL_law) (h : c ∈ wsL_law) : GoodIn wsL_law (va_wsS own idx y (c :: wsL_law)) := zg_in (fun w hw => by
  unfold va_wsS at hw
  rcases List.mem_append.mp hw with hw | hw
  · rcases List.mem_cons.mp hw with rfl | hw
    · exact h1
    rcases List.mem_cons.mp hw with rfl | hw
    · exact h2
    rcases List.mem_cons.mp hw with rfl | hw
    · exact h3
    · cases hw
  · exact (List.mem_cons.mp hw).elim (fun e => e ▸ h) id)
