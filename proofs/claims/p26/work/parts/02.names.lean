def RX0 : String := "ShallowBoxes$RectangleText"
def TX0 : u_T := fun k => match k with
  | 0 => ("ShallowBoxes$RectangleText", "characters", "[I", true)
  | 1 => ("ShallowBoxes$RectangleText", "length", "I", false)
  | 2 => ("ShallowBoxes$RectangleText", "corners", "[I", true)
  | 3 => ("ShallowBoxes$RectangleText", "count", "I", false)
  | 4 => ("ShallowBoxes$RectangleText", "at", "I", false)
  | _ => ("ShallowBoxes$RectangleText", "wrong", "Z", false)
def tyX0 : Nat → FieldType := fun k => match k with
  | 0 => .array .int
  | 1 => .int
  | 2 => .array .int
  | 3 => .int
  | 4 => .int
  | _ => .boolean
abbrev wsX00 : List Cond := u_ws RX0 TX0 6
theorem nmX0 : ∀ a, a < 6 → ∀ b, b < 6 → a ≠ b → (TX0 a).2.1 ≠ (TX0 b).2.1 := by decide +kernel
theorem tyX0_ok : ∀ k, k < 6 → parseFieldDescriptor (TX0 k).2.2.1 = some (tyX0 k) := by decide +kernel
abbrev cX0_init : ByteArray := prog_2_method_1_code
def yX0_init : MethodName := ⟨RX0, "<init>", "()V"⟩
abbrev cX0_lengthen : ByteArray := prog_2_method_2_code
def yX0_lengthen : MethodName := ⟨RX0, "lengthen", "(I)I"⟩
abbrev cX0_corner : ByteArray := prog_2_method_3_code
def yX0_corner : MethodName := ⟨RX0, "corner", "(II)I"⟩
abbrev cX0_read : ByteArray := prog_2_method_4_code
def yX0_read : MethodName := ⟨RX0, "read", "()I"⟩
abbrev cX0_readRectangle : ByteArray := prog_2_method_5_code
def yX0_readRectangle : MethodName := ⟨RX0, "readRectangle", "()V"⟩
abbrev cX0_expect : ByteArray := prog_2_method_6_code
def yX0_expect : MethodName := ⟨RX0, "expect", "(I)V"⟩
abbrev cX0_readNumber : ByteArray := prog_2_method_7_code
def yX0_readNumber : MethodName := ⟨RX0, "readNumber", "(II)I"⟩
def RX1 : String := "ShallowBoxes$Tree"
def TX1 : u_T := fun k => match k with
  | 0 => ("ShallowBoxes$Tree", "box", "[I", true)
  | 1 => ("ShallowBoxes$Tree", "level", "[I", true)
  | 2 => ("ShallowBoxes$Tree", "above", "[I", true)
  | 3 => ("ShallowBoxes$Tree", "size", "[I", true)
  | 4 => ("ShallowBoxes$Tree", "entries", "[I", true)
  | 5 => ("ShallowBoxes$Tree", "root", "I", false)
  | 6 => ("ShallowBoxes$Tree", "thrownOut", "I", false)
  | 7 => ("ShallowBoxes$Tree", "splits", "I", false)
  | 8 => ("ShallowBoxes$Tree", "dissolved", "I", false)
  | 9 => ("ShallowBoxes$Tree", "hasThrown", "[I", true)
  | 10 => ("ShallowBoxes$Tree", "kept", "[I", true)
  | 11 => ("ShallowBoxes$Tree", "crowd", "[I", true)
  | 12 => ("ShallowBoxes$Tree", "order", "[I", true)
  | _ => ("ShallowBoxes$Tree", "waiting", "[I", true)
def tyX1 : Nat → FieldType := fun k => match k with
  | 0 => .array .int
  | 1 => .array .int
  | 2 => .array .int
  | 3 => .array .int
  | 4 => .array .int
  | 5 => .int
  | 6 => .int
  | 7 => .int
  | 8 => .int
  | 9 => .array .int
  | 10 => .array .int
  | 11 => .array .int
  | 12 => .array .int
  | _ => .array .int
abbrev wsX10 : List Cond := u_ws RX1 TX1 14
theorem nmX1 : ∀ a, a < 14 → ∀ b, b < 14 → a ≠ b → (TX1 a).2.1 ≠ (TX1 b).2.1 := by decide +kernel
theorem tyX1_ok : ∀ k, k < 14 → parseFieldDescriptor (TX1 k).2.2.1 = some (tyX1 k) := by decide +kernel
abbrev cX1_init : ByteArray := prog_3_method_1_code
def yX1_init : MethodName := ⟨RX1, "<init>", "()V"⟩
abbrev cX1_clear : ByteArray := prog_3_method_2_code
def yX1_clear : MethodName := ⟨RX1, "clear", "()V"⟩
abbrev cX1_takeOver : ByteArray := prog_3_method_3_code
def yX1_takeOver : MethodName := ⟨RX1, "takeOver", "(LShallowBoxes$Tree;)V"⟩
abbrev cX1_corner : ByteArray := prog_3_method_4_code
def yX1_corner : MethodName := ⟨RX1, "corner", "(II)I"⟩
abbrev cX1_setBox : ByteArray := prog_3_method_5_code
def yX1_setBox : MethodName := ⟨RX1, "setBox", "(IIIII)V"⟩
abbrev cX1_shiftBox : ByteArray := prog_3_method_6_code
def yX1_shiftBox : MethodName := ⟨RX1, "shiftBox", "(III)V"⟩
abbrev cX1_area : ByteArray := prog_3_method_7_code
def yX1_area : MethodName := ⟨RX1, "area", "(I)I"⟩
abbrev cX1_joinArea : ByteArray := prog_3_method_8_code
def yX1_joinArea : MethodName := ⟨RX1, "joinArea", "(II)I"⟩
abbrev cX1_commonCells : ByteArray := prog_3_method_9_code
def yX1_commonCells : MethodName := ⟨RX1, "commonCells", "(II)I"⟩
abbrev cX1_middleDistance : ByteArray := prog_3_method_10_code
def yX1_middleDistance : MethodName := ⟨RX1, "middleDistance", "(II)I"⟩
abbrev cX1_distance : ByteArray := prog_3_method_11_code
def yX1_distance : MethodName := ⟨RX1, "distance", "(III)I"⟩
abbrev cX1_fit : ByteArray := prog_3_method_12_code
def yX1_fit : MethodName := ⟨RX1, "fit", "(I)V"⟩
abbrev cX1_fitUpward : ByteArray := prog_3_method_13_code
def yX1_fitUpward : MethodName := ⟨RX1, "fitUpward", "(I)V"⟩
abbrev cX1_levelOf : ByteArray := prog_3_method_14_code
def yX1_levelOf : MethodName := ⟨RX1, "levelOf", "(I)I"⟩
abbrev cX1_sizeOf : ByteArray := prog_3_method_15_code
def yX1_sizeOf : MethodName := ⟨RX1, "sizeOf", "(I)I"⟩
abbrev cX1_nodeAbove : ByteArray := prog_3_method_16_code
def yX1_nodeAbove : MethodName := ⟨RX1, "nodeAbove", "(I)I"⟩
abbrev cX1_entryOf : ByteArray := prog_3_method_17_code
def yX1_entryOf : MethodName := ⟨RX1, "entryOf", "(II)I"⟩
abbrev cX1_newNode : ByteArray := prog_3_method_18_code
def yX1_newNode : MethodName := ⟨RX1, "newNode", "(I)I"⟩
abbrev cX1_placeOf : ByteArray := prog_3_method_19_code
def yX1_placeOf : MethodName := ⟨RX1, "placeOf", "(II)I"⟩
abbrev cX1_attach : ByteArray := prog_3_method_20_code
def yX1_attach : MethodName := ⟨RX1, "attach", "(III)V"⟩
abbrev cX1_detach : ByteArray := prog_3_method_21_code
def yX1_detach : MethodName := ⟨RX1, "detach", "(I)V"⟩
abbrev cX1_countNodes : ByteArray := prog_3_method_22_code
def yX1_countNodes : MethodName := ⟨RX1, "countNodes", "()I"⟩
abbrev cX1_nodeNumbered : ByteArray := prog_3_method_23_code
def yX1_nodeNumbered : MethodName := ⟨RX1, "nodeNumbered", "(I)I"⟩
abbrev cX1_numberOf : ByteArray := prog_3_method_24_code
def yX1_numberOf : MethodName := ⟨RX1, "numberOf", "(I)I"⟩
abbrev cX1_hasRectangle : ByteArray := prog_3_method_25_code
def yX1_hasRectangle : MethodName := ⟨RX1, "hasRectangle", "(I)Z"⟩
abbrev cX1_countRectangles : ByteArray := prog_3_method_26_code
def yX1_countRectangles : MethodName := ⟨RX1, "countRectangles", "()I"⟩
abbrev cX1_lowestFreeNumber : ByteArray := prog_3_method_27_code
def yX1_lowestFreeNumber : MethodName := ⟨RX1, "lowestFreeNumber", "()I"⟩
abbrev cX1_canShift : ByteArray := prog_3_method_28_code
def yX1_canShift : MethodName := ⟨RX1, "canShift", "(III)Z"⟩
abbrev cX1_beginCall : ByteArray := prog_3_method_29_code
def yX1_beginCall : MethodName := ⟨RX1, "beginCall", "()V"⟩
abbrev cX1_putIn : ByteArray := prog_3_method_30_code
def yX1_putIn : MethodName := ⟨RX1, "putIn", "(I)V"⟩
abbrev cX1_reached : ByteArray := prog_3_method_31_code
def yX1_reached : MethodName := ⟨RX1, "reached", "(II)I"⟩
abbrev cX1_branch : ByteArray := prog_3_method_32_code
def yX1_branch : MethodName := ⟨RX1, "branch", "(II)I"⟩
abbrev cX1_throwOut : ByteArray := prog_3_method_33_code
def yX1_throwOut : MethodName := ⟨RX1, "throwOut", "(I)I"⟩
abbrev cX1_split : ByteArray := prog_3_method_34_code
def yX1_split : MethodName := ⟨RX1, "split", "(I)I"⟩
abbrev cX1_join : ByteArray := prog_3_method_35_code
def yX1_join : MethodName := ⟨RX1, "join", "(II)V"⟩
abbrev cX1_seedPair : ByteArray := prog_3_method_36_code
def yX1_seedPair : MethodName := ⟨RX1, "seedPair", "()I"⟩
abbrev cX1_groupFor : ByteArray := prog_3_method_37_code
def yX1_groupFor : MethodName := ⟨RX1, "groupFor", "(IIII)I"⟩
abbrev cX1_takeOut : ByteArray := prog_3_method_38_code
def yX1_takeOut : MethodName := ⟨RX1, "takeOut", "(I)V"⟩
abbrev cX1_dissolveUpward : ByteArray := prog_3_method_39_code
def yX1_dissolveUpward : MethodName := ⟨RX1, "dissolveUpward", "(I)I"⟩
abbrev cX1_overlap : ByteArray := prog_3_method_40_code
def yX1_overlap : MethodName := ⟨RX1, "overlap", "()I"⟩
abbrev cX1_overlapIn : ByteArray := prog_3_method_41_code
def yX1_overlapIn : MethodName := ⟨RX1, "overlapIn", "(I)I"⟩
abbrev cX1_areaBelowRoot : ByteArray := prog_3_method_42_code
def yX1_areaBelowRoot : MethodName := ⟨RX1, "areaBelowRoot", "()I"⟩
abbrev cX1_lookedAt : ByteArray := prog_3_method_43_code
def yX1_lookedAt : MethodName := ⟨RX1, "lookedAt", "(I)I"⟩
abbrev cX1_ranked : ByteArray := prog_3_method_44_code
def yX1_ranked : MethodName := ⟨RX1, "ranked", "(III)I"⟩
abbrev cX1_countNearer : ByteArray := prog_3_method_45_code
def yX1_countNearer : MethodName := ⟨RX1, "countNearer", "(III)I"⟩
def RX2 : String := "ShallowBoxes"
def TX2 : u_T := fun k => match k with
  | 0 => ("ShallowBoxes", "tree", "LShallowBoxes$Tree;", true)
  | 1 => ("ShallowBoxes", "trial", "LShallowBoxes$Tree;", true)
  | 2 => ("ShallowBoxes", "remembered", "[LShallowBoxes$Tree;", true)
  | 3 => ("ShallowBoxes", "oldest", "I", false)
  | 4 => ("ShallowBoxes", "rememberedCount", "I", false)
  | 5 => ("ShallowBoxes", "slots", "[LShallowBoxes$Tree;", true)
  | 6 => ("ShallowBoxes", "slotUsed", "[I", true)
  | _ => ("ShallowBoxes", "text", "LShallowBoxes$RectangleText;", true)
def tyX2 : Nat → FieldType := fun k => match k with
  | 0 => .object "ShallowBoxes$Tree"
  | 1 => .object "ShallowBoxes$Tree"
  | 2 => .array (.object "ShallowBoxes$Tree")
  | 3 => .int
  | 4 => .int
  | 5 => .array (.object "ShallowBoxes$Tree")
  | 6 => .array .int
  | _ => .object "ShallowBoxes$RectangleText"
abbrev wsX20 : List Cond := u_ws RX2 TX2 8
theorem nmX2 : ∀ a, a < 8 → ∀ b, b < 8 → a ≠ b → (TX2 a).2.1 ≠ (TX2 b).2.1 := by decide +kernel
theorem tyX2_ok : ∀ k, k < 8 → parseFieldDescriptor (TX2 k).2.2.1 = some (tyX2 k) := by decide +kernel
abbrev cX2_init : ByteArray := prog_1_method_1_code
def yX2_init : MethodName := ⟨RX2, "<init>", "()V"⟩
abbrev cX2_append : ByteArray := prog_1_method_2_code
def yX2_append : MethodName := ⟨RX2, "append", "(I)I"⟩
abbrev cX2_clearText : ByteArray := prog_1_method_3_code
def yX2_clearText : MethodName := ⟨RX2, "clearText", "()I"⟩
abbrev cX2_errorPosition : ByteArray := prog_1_method_4_code
def yX2_errorPosition : MethodName := ⟨RX2, "errorPosition", "()I"⟩
abbrev cX2_about : ByteArray := prog_1_method_5_code
def yX2_about : MethodName := ⟨RX2, "about", "(I)I"⟩
abbrev cX2_rectangle : ByteArray := prog_1_method_6_code
def yX2_rectangle : MethodName := ⟨RX2, "rectangle", "(II)I"⟩
abbrev cX2_node : ByteArray := prog_1_method_7_code
def yX2_node : MethodName := ⟨RX2, "node", "(II)I"⟩
abbrev cX2_entry : ByteArray := prog_1_method_8_code
def yX2_entry : MethodName := ⟨RX2, "entry", "(II)I"⟩
abbrev cX2_add : ByteArray := prog_1_method_9_code
def yX2_add : MethodName := ⟨RX2, "add", "(IIII)I"⟩
abbrev cX2_addAll : ByteArray := prog_1_method_10_code
def yX2_addAll : MethodName := ⟨RX2, "addAll", "()I"⟩
abbrev cX2_remove : ByteArray := prog_1_method_11_code
def yX2_remove : MethodName := ⟨RX2, "remove", "(I)I"⟩
abbrev cX2_move : ByteArray := prog_1_method_12_code
def yX2_move : MethodName := ⟨RX2, "move", "(III)I"⟩
abbrev cX2_undo : ByteArray := prog_1_method_13_code
def yX2_undo : MethodName := ⟨RX2, "undo", "()I"⟩
abbrev cX2_window : ByteArray := prog_1_method_14_code
def yX2_window : MethodName := ⟨RX2, "window", "(IIII)I"⟩
abbrev cX2_looks : ByteArray := prog_1_method_15_code
def yX2_looks : MethodName := ⟨RX2, "looks", "(IIII)I"⟩
abbrev cX2_nearest : ByteArray := prog_1_method_16_code
def yX2_nearest : MethodName := ⟨RX2, "nearest", "(III)I"⟩
abbrev cX2_chosen : ByteArray := prog_1_method_17_code
def yX2_chosen : MethodName := ⟨RX2, "chosen", "(IIII)I"⟩
abbrev cX2_ifAdded : ByteArray := prog_1_method_18_code
def yX2_ifAdded : MethodName := ⟨RX2, "ifAdded", "(IIII)I"⟩
abbrev cX2_bestRemoval : ByteArray := prog_1_method_19_code
def yX2_bestRemoval : MethodName := ⟨RX2, "bestRemoval", "()I"⟩
abbrev cX2_anew : ByteArray := prog_1_method_20_code
def yX2_anew : MethodName := ⟨RX2, "anew", "()I"⟩
abbrev cX2_runScript : ByteArray := prog_1_method_21_code
def yX2_runScript : MethodName := ⟨RX2, "runScript", "(IJ)I"⟩
abbrev cX2_simulate : ByteArray := prog_1_method_22_code
def yX2_simulate : MethodName := ⟨RX2, "simulate", "(JI)I"⟩
abbrev cX2_save : ByteArray := prog_1_method_23_code
def yX2_save : MethodName := ⟨RX2, "save", "(I)I"⟩
abbrev cX2_restore : ByteArray := prog_1_method_24_code
def yX2_restore : MethodName := ⟨RX2, "restore", "(I)I"⟩
abbrev cX2_remember : ByteArray := prog_1_method_25_code
def yX2_remember : MethodName := ⟨RX2, "remember", "()V"⟩
abbrev cX2_tryAdding : ByteArray := prog_1_method_26_code
def yX2_tryAdding : MethodName := ⟨RX2, "tryAdding", "(IIII)V"⟩
abbrev cX2_takeTurn : ByteArray := prog_1_method_27_code
def yX2_takeTurn : MethodName := ⟨RX2, "takeTurn", "(I)V"⟩
abbrev cX2_succeeds : ByteArray := prog_1_method_28_code
def yX2_succeeds : MethodName := ⟨RX2, "succeeds", "(I)Z"⟩
abbrev cX2_holds : ByteArray := prog_1_method_29_code
def yX2_holds : MethodName := ⟨RX2, "holds", "(IIIII)Z"⟩
abbrev cX2_isCell : ByteArray := prog_1_method_30_code
def yX2_isCell : MethodName := ⟨RX2, "isCell", "(II)Z"⟩
abbrev cX2_isBox : ByteArray := prog_1_method_31_code
def yX2_isBox : MethodName := ⟨RX2, "isBox", "(IIII)Z"⟩
abbrev cX2_treeAt : ByteArray := prog_1_method_32_code
def yX2_treeAt : MethodName := ⟨RX2, "treeAt", "([LShallowBoxes$Tree;I)LShallowBoxes$Tree;"⟩
abbrev cX2_get : ByteArray := prog_1_method_33_code
def yX2_get : MethodName := ⟨RX2, "get", "([II)I"⟩
abbrev cX2_put : ByteArray := prog_1_method_34_code
def yX2_put : MethodName := ⟨RX2, "put", "([III)V"⟩
abbrev cX2_copy : ByteArray := prog_1_method_35_code
def yX2_copy : MethodName := ⟨RX2, "copy", "([I[I)V"⟩
def RX3 : String := "ShallowBoxesModel"
def TX3 : u_T := fun k => match k with
  | _ => ("", "", "", false)
def tyX3 : Nat → FieldType := fun k => match k with
  | _ => .int
abbrev wsX30 : List Cond := u_ws RX3 TX3 0
theorem nmX3 : ∀ a, a < 0 → ∀ b, b < 0 → a ≠ b → (TX3 a).2.1 ≠ (TX3 b).2.1 := by decide +kernel
theorem tyX3_ok : ∀ k, k < 0 → parseFieldDescriptor (TX3 k).2.2.1 = some (tyX3 k) := by decide +kernel
def RL : String := "ShallowBoxesLaw"
abbrev cL_tryAdd : ByteArray := method_2_code
def yL_tryAdd : MethodName := ⟨RL, "tryAdd", "(LShallowBoxes;IIII)I"⟩
abbrev cL_tryWindow : ByteArray := method_3_code
def yL_tryWindow : MethodName := ⟨RL, "tryWindow", "(LShallowBoxes;IIII)I"⟩
abbrev cL_tryLooks : ByteArray := method_4_code
def yL_tryLooks : MethodName := ⟨RL, "tryLooks", "(LShallowBoxes;IIII)I"⟩
abbrev cL_tryChosen : ByteArray := method_5_code
def yL_tryChosen : MethodName := ⟨RL, "tryChosen", "(LShallowBoxes;IIII)I"⟩
abbrev cL_tryIfAdded : ByteArray := method_6_code
def yL_tryIfAdded : MethodName := ⟨RL, "tryIfAdded", "(LShallowBoxes;IIII)I"⟩
abbrev cL_tryScript : ByteArray := method_7_code
def yL_tryScript : MethodName := ⟨RL, "tryScript", "(LShallowBoxes;IJ)I"⟩
abbrev cL_trySimulate : ByteArray := method_8_code
def yL_trySimulate : MethodName := ⟨RL, "trySimulate", "(LShallowBoxes;JI)I"⟩
abbrev cL_tryAppend : ByteArray := method_9_code
def yL_tryAppend : MethodName := ⟨RL, "tryAppend", "(LShallowBoxes;I)I"⟩
abbrev cL_tryAbout : ByteArray := method_10_code
def yL_tryAbout : MethodName := ⟨RL, "tryAbout", "(LShallowBoxes;I)I"⟩
abbrev cL_tryRect : ByteArray := method_11_code
def yL_tryRect : MethodName := ⟨RL, "tryRect", "(LShallowBoxes;II)I"⟩
abbrev cL_tryNode : ByteArray := method_12_code
def yL_tryNode : MethodName := ⟨RL, "tryNode", "(LShallowBoxes;II)I"⟩
abbrev cL_tryEntry : ByteArray := method_13_code
def yL_tryEntry : MethodName := ⟨RL, "tryEntry", "(LShallowBoxes;II)I"⟩
abbrev cL_tryAddAll : ByteArray := method_14_code
def yL_tryAddAll : MethodName := ⟨RL, "tryAddAll", "(LShallowBoxes;)I"⟩
abbrev cL_tryRemove : ByteArray := method_15_code
def yL_tryRemove : MethodName := ⟨RL, "tryRemove", "(LShallowBoxes;I)I"⟩
abbrev cL_tryMove : ByteArray := method_16_code
def yL_tryMove : MethodName := ⟨RL, "tryMove", "(LShallowBoxes;III)I"⟩
abbrev cL_tryUndo : ByteArray := method_17_code
def yL_tryUndo : MethodName := ⟨RL, "tryUndo", "(LShallowBoxes;)I"⟩
abbrev cL_tryNearest : ByteArray := method_18_code
def yL_tryNearest : MethodName := ⟨RL, "tryNearest", "(LShallowBoxes;III)I"⟩
abbrev cL_tryKeep : ByteArray := method_19_code
def yL_tryKeep : MethodName := ⟨RL, "tryKeep", "(LShallowBoxes;I)I"⟩
abbrev cL_tryBack : ByteArray := method_20_code
def yL_tryBack : MethodName := ⟨RL, "tryBack", "(LShallowBoxes;I)I"⟩
abbrev cL_call : ByteArray := method_21_code
def yL_call : MethodName := ⟨RL, "call", "(LShallowBoxes;IIII)I"⟩
abbrev cL_cell : ByteArray := method_22_code
def yL_cell : MethodName := ⟨RL, "cell", "([II)I"⟩
abbrev cL_refuses : ByteArray := method_23_code
def yL_refuses : MethodName := ⟨RL, "refuses", "(LShallowBoxes;I)Z"⟩
abbrev cL_alike : ByteArray := method_24_code
def yL_alike : MethodName := ⟨RL, "alike", "(LShallowBoxes;LShallowBoxes;I)Z"⟩
abbrev cL_holds : ByteArray := method_25_code
def yL_holds : MethodName := ⟨RL, "holds", "(LShallowBoxes;I)Z"⟩
abbrev cL_act : ByteArray := method_26_code
def yL_act : MethodName := ⟨RL, "act", "(LShallowBoxes;II)I"⟩
abbrev cL_law : ByteArray := code
def yL_law : MethodName := ⟨RL, "law", "([I)Z"⟩
def wsL_law0_r1 : List Cond := [Cond.classLink RL 8 RX2, Cond.instantiable RX2 8, Cond.initialized RX2, Cond.constantLong RL 191 (3434251559), Cond.constantLong RL 193 (821), Cond.constantLong RL 195 (400000), Cond.methodLink RL 172 yX2_init, Cond.instanceMethod yX2_init, Cond.code yX2_init cX2_init 2 none, Cond.methodLink RX2 3 objectInit, Cond.instanceMethod objectInit, Cond.code objectInit ⟨#[0xb1]⟩ 1 none, Cond.classLink RX2 9 RX1, Cond.instantiable RX1 14, Cond.initialized RX1, Cond.fieldLink RX2 12 "ShallowBoxes" "tree" "LShallowBoxes$Tree;", Cond.fieldLink RX2 16 "ShallowBoxes" "trial" "LShallowBoxes$Tree;", Cond.fieldLink RX2 19 "ShallowBoxes" "remembered" "[LShallowBoxes$Tree;", Cond.fieldLink RX2 23 "ShallowBoxes" "slots" "[LShallowBoxes$Tree;", Cond.arrayClass .int, Cond.fieldLink RX2 26 "ShallowBoxes" "slotUsed" "[I", Cond.classLink RX2 30 RX0, Cond.instantiable RX0 6, Cond.initialized RX0]
def wsL_law0_r2 : List Cond := [Cond.fieldLink RX2 33 "ShallowBoxes" "text" "LShallowBoxes$RectangleText;", Cond.methodLink RX2 11 yX1_init, Cond.instanceMethod yX1_init, Cond.code yX1_init cX1_init 1 none, Cond.methodLink RX1 3 objectInit, Cond.fieldLink RX1 9 "ShallowBoxes$Tree" "box" "[I", Cond.fieldLink RX1 15 "ShallowBoxes$Tree" "level" "[I", Cond.fieldLink RX1 18 "ShallowBoxes$Tree" "above" "[I", Cond.fieldLink RX1 21 "ShallowBoxes$Tree" "size" "[I", Cond.fieldLink RX1 24 "ShallowBoxes$Tree" "entries" "[I", Cond.fieldLink RX1 27 "ShallowBoxes$Tree" "hasThrown" "[I", Cond.fieldLink RX1 30 "ShallowBoxes$Tree" "kept" "[I", Cond.fieldLink RX1 33 "ShallowBoxes$Tree" "crowd" "[I", Cond.fieldLink RX1 36 "ShallowBoxes$Tree" "order" "[I", Cond.fieldLink RX1 39 "ShallowBoxes$Tree" "waiting" "[I", Cond.methodLink RX1 42 yX1_clear, Cond.instanceMethod yX1_clear, Cond.selects RX1 yX1_clear yX1_clear, Cond.code yX1_clear cX1_clear 2 none, Cond.fieldLink RX1 49 "ShallowBoxes$Tree" "thrownOut" "I", Cond.fieldLink RX1 53 "ShallowBoxes$Tree" "splits" "I", Cond.fieldLink RX1 56 "ShallowBoxes$Tree" "dissolved" "I", Cond.fieldLink RX1 63 "ShallowBoxes$Tree" "root" "I", Cond.static yX2_put]
def wsL_law0_r3 : List Cond := [Cond.code yX2_put cX2_put 3 none, Cond.methodLink RX1 59 yX1_newNode, Cond.instanceMethod yX1_newNode, Cond.selects RX1 yX1_newNode yX1_newNode, Cond.code yX1_newNode cX1_newNode 3 (some .int), Cond.static yX2_get, Cond.code yX2_get cX2_get 2 (some .int), Cond.instanceMethod yX0_init, Cond.code yX0_init cX0_init 1 none, Cond.methodLink RX0 3 objectInit, Cond.fieldLink RX0 9 "ShallowBoxes$RectangleText" "characters" "[I", Cond.fieldLink RX0 15 "ShallowBoxes$RectangleText" "corners" "[I", Cond.methodLink RL 173 yL_cell, Cond.static yL_cell, Cond.initialized RL, Cond.code yL_cell cL_cell 2 (some .int), Cond.constant RL 124 (15518507), Cond.constant RL 125 (2147483647), Cond.methodLink RL 177 yL_refuses, Cond.static yL_refuses, Cond.code yL_refuses cL_refuses 5 (some .boolean), Cond.constant RL 15 (-9999002), Cond.constant RL 52 (-9999001), Cond.constant RL 18 (-9999003)]
def wsL_law0_r4 : List Cond := [Cond.constantLong RL 149 (1000000000), Cond.constantLong RL 151 (-1), Cond.methodLink RL 126 yL_call, Cond.static yL_call, Cond.code yL_call cL_call 5 (some .int), Cond.methodLink RL 82 yL_tryAppend, Cond.static yL_tryAppend, Cond.codeWith yL_tryAppend cL_tryAppend 3 (some .int) [(0, 5, 6, 13), (0, 5, 10, 16)], Cond.classLink RL 13 "java/lang/IllegalArgumentException", Cond.classLink RL 16 "java/lang/IllegalStateException", Cond.methodLink RL 39 yX2_append, Cond.instanceMethod yX2_append, Cond.selects RX2 yX2_append yX2_append, Cond.code yX2_append cX2_append 2 (some .int), Cond.classLink RX2 37 "java/lang/IllegalArgumentException", Cond.initialized "java/lang/IllegalArgumentException", Cond.classLink RX2 48 "java/lang/IllegalStateException", Cond.initialized "java/lang/IllegalStateException", Cond.methodLink RX2 53 yX0_lengthen, Cond.instanceMethod yX0_lengthen, Cond.selects RX0 yX0_lengthen yX0_lengthen, Cond.code yX0_lengthen cX0_lengthen 2 (some .int), Cond.fieldLink RX0 18 "ShallowBoxes$RectangleText" "length" "I", Cond.methodLink RL 88 yL_tryAbout]
def wsL_law0_r5 : List Cond := [Cond.static yL_tryAbout, Cond.codeWith yL_tryAbout cL_tryAbout 3 (some .int) [(0, 5, 6, 13)], Cond.methodLink RL 43 yX2_about, Cond.instanceMethod yX2_about, Cond.selects RX2 yX2_about yX2_about, Cond.code yX2_about cX2_about 2 (some .int), Cond.methodLink RX2 61 yX1_countRectangles, Cond.instanceMethod yX1_countRectangles, Cond.selects RX1 yX1_countRectangles yX1_countRectangles, Cond.code yX1_countRectangles cX1_countRectangles 3 (some .int), Cond.methodLink RX2 64 yX1_countNodes, Cond.instanceMethod yX1_countNodes, Cond.selects RX1 yX1_countNodes yX1_countNodes, Cond.code yX1_countNodes cX1_countNodes 6 (some .int), Cond.methodLink RX2 70 yX1_levelOf, Cond.instanceMethod yX1_levelOf, Cond.selects RX1 yX1_levelOf yX1_levelOf, Cond.code yX1_levelOf cX1_levelOf 2 (some .int), Cond.methodLink RX2 73 yX1_overlap, Cond.instanceMethod yX1_overlap, Cond.selects RX1 yX1_overlap yX1_overlap, Cond.code yX1_overlap cX1_overlap 5 (some .int), Cond.methodLink RX1 97 yX1_countNodes, Cond.methodLink RX1 153 yX1_overlapIn]
def wsL_law0_r6 : List Cond := [Cond.instanceMethod yX1_overlapIn, Cond.selects RX1 yX1_overlapIn yX1_overlapIn, Cond.code yX1_overlapIn cX1_overlapIn 6 (some .int), Cond.methodLink RX1 156 yX1_commonCells, Cond.instanceMethod yX1_commonCells, Cond.selects RX1 yX1_commonCells yX1_commonCells, Cond.code yX1_commonCells cX1_commonCells 7 (some .int), Cond.methodLink RX1 87 Lib.Math.min.name, Cond.static Lib.Math.min.name, Cond.initialized "java/lang/Math", Cond.code Lib.Math.min.name Lib.Math.min.code 2 (some .int), Cond.methodLink RX1 82 Lib.Math.max.name, Cond.static Lib.Math.max.name, Cond.code Lib.Math.max.name Lib.Math.max.code 2 (some .int), Cond.methodLink RX2 76 yX1_areaBelowRoot, Cond.instanceMethod yX1_areaBelowRoot, Cond.selects RX1 yX1_areaBelowRoot yX1_areaBelowRoot, Cond.code yX1_areaBelowRoot cX1_areaBelowRoot 4 (some .int), Cond.methodLink RX1 127 yX1_area, Cond.instanceMethod yX1_area, Cond.selects RX1 yX1_area yX1_area, Cond.code yX1_area cX1_area 3 (some .int), Cond.methodLink RL 91 yL_tryRect, Cond.static yL_tryRect]
def wsL_law0_r7 : List Cond := [Cond.codeWith yL_tryRect cL_tryRect 4 (some .int) [(0, 6, 7, 50), (0, 6, 11, 13)], Cond.classLink RL 50 "java/lang/IndexOutOfBoundsException", Cond.methodLink RL 46 yX2_rectangle, Cond.instanceMethod yX2_rectangle, Cond.selects RX2 yX2_rectangle yX2_rectangle, Cond.code yX2_rectangle cX2_rectangle 3 (some .int), Cond.classLink RX2 94 "java/lang/IndexOutOfBoundsException", Cond.initialized "java/lang/IndexOutOfBoundsException", Cond.methodLink RX2 90 yX1_hasRectangle, Cond.instanceMethod yX1_hasRectangle, Cond.selects RX1 yX1_hasRectangle yX1_hasRectangle, Cond.code yX1_hasRectangle cX1_hasRectangle 2 (some .boolean), Cond.methodLink RX2 101 yX1_nodeAbove, Cond.instanceMethod yX1_nodeAbove, Cond.selects RX1 yX1_nodeAbove yX1_nodeAbove, Cond.code yX1_nodeAbove cX1_nodeAbove 2 (some .int), Cond.methodLink RX2 104 yX1_numberOf, Cond.instanceMethod yX1_numberOf, Cond.selects RX1 yX1_numberOf yX1_numberOf, Cond.code yX1_numberOf cX1_numberOf 4 (some .int), Cond.methodLink RX2 107 yX1_corner, Cond.instanceMethod yX1_corner, Cond.selects RX1 yX1_corner yX1_corner, Cond.code yX1_corner cX1_corner 3 (some .int)]
def wsL_law0_r8 : List Cond := [Cond.methodLink RL 95 yL_tryNode, Cond.static yL_tryNode, Cond.codeWith yL_tryNode cL_tryNode 4 (some .int) [(0, 6, 7, 50), (0, 6, 11, 13)], Cond.methodLink RL 53 yX2_node, Cond.instanceMethod yX2_node, Cond.selects RX2 yX2_node yX2_node, Cond.code yX2_node cX2_node 4 (some .int), Cond.methodLink RX2 111 yX1_nodeNumbered, Cond.instanceMethod yX1_nodeNumbered, Cond.selects RX1 yX1_nodeNumbered yX1_nodeNumbered, Cond.code yX1_nodeNumbered cX1_nodeNumbered 2 (some .int), Cond.methodLink RX2 118 yX1_sizeOf, Cond.instanceMethod yX1_sizeOf, Cond.selects RX1 yX1_sizeOf yX1_sizeOf, Cond.code yX1_sizeOf cX1_sizeOf 2 (some .int), Cond.methodLink RL 98 yL_tryEntry, Cond.static yL_tryEntry, Cond.codeWith yL_tryEntry cL_tryEntry 4 (some .int) [(0, 6, 7, 50), (0, 6, 11, 13)], Cond.methodLink RL 56 yX2_entry, Cond.instanceMethod yX2_entry, Cond.selects RX2 yX2_entry yX2_entry, Cond.code yX2_entry cX2_entry 5 (some .int), Cond.methodLink RX2 123 yX1_entryOf, Cond.instanceMethod yX1_entryOf]
def wsL_law0_r9 : List Cond := [Cond.selects RX1 yX1_entryOf yX1_entryOf, Cond.code yX1_entryOf cX1_entryOf 3 (some .int), Cond.methodLink RL 101 yL_tryAddAll, Cond.static yL_tryAddAll, Cond.codeWith yL_tryAddAll cL_tryAddAll 2 (some .int) [(0, 4, 5, 16)], Cond.methodLink RL 59 yX2_addAll, Cond.instanceMethod yX2_addAll, Cond.selects RX2 yX2_addAll yX2_addAll, Cond.code yX2_addAll cX2_addAll 3 (some .int), Cond.methodLink RX2 57 yX0_read, Cond.instanceMethod yX0_read, Cond.selects RX0 yX0_read yX0_read, Cond.code yX0_read cX0_read 2 (some .int), Cond.fieldLink RX0 30 "ShallowBoxes$RectangleText" "at" "I", Cond.fieldLink RX0 33 "ShallowBoxes$RectangleText" "count" "I", Cond.fieldLink RX0 36 "ShallowBoxes$RectangleText" "wrong" "Z", Cond.methodLink RX0 40 yX0_readRectangle, Cond.instanceMethod yX0_readRectangle, Cond.selects RX0 yX0_readRectangle yX0_readRectangle, Cond.code yX0_readRectangle cX0_readRectangle 6 none, Cond.methodLink RX0 47 yX0_readNumber, Cond.instanceMethod yX0_readNumber, Cond.selects RX0 yX0_readNumber yX0_readNumber, Cond.code yX0_readNumber cX0_readNumber 7 (some .int)]
def wsL_law0_r10 : List Cond := [Cond.methodLink RX0 43 yX0_expect, Cond.instanceMethod yX0_expect, Cond.selects RX0 yX0_expect yX0_expect, Cond.code yX0_expect cX0_expect 2 none, Cond.methodLink RX2 134 yX2_remember, Cond.instanceMethod yX2_remember, Cond.selects RX2 yX2_remember yX2_remember, Cond.code yX2_remember cX2_remember 2 none, Cond.fieldLink RX2 174 "ShallowBoxes" "rememberedCount" "I", Cond.fieldLink RX2 179 "ShallowBoxes" "oldest" "I", Cond.methodLink RX2 182 yX2_treeAt, Cond.static yX2_treeAt, Cond.code yX2_treeAt cX2_treeAt 2 (some (.object "ShallowBoxes$Tree")), Cond.methodLink RX2 186 yX1_takeOver, Cond.instanceMethod yX1_takeOver, Cond.selects RX1 yX1_takeOver yX1_takeOver, Cond.code yX1_takeOver cX1_takeOver 2 none, Cond.static yX2_copy, Cond.code yX2_copy cX2_copy 2 none, Cond.methodLink RX2 260 Lib.Math.min.name, Cond.methodLink RX2 265 arraycopyName, Cond.native arraycopyName, Cond.static arraycopyName, Cond.initialized "java/lang/System"]
def wsL_law0_r11 : List Cond := [Cond.methodLink RX2 140 yX1_beginCall, Cond.instanceMethod yX1_beginCall, Cond.selects RX1 yX1_beginCall yX1_beginCall, Cond.code yX1_beginCall cX1_beginCall 2 none, Cond.methodLink RX2 137 yX1_lowestFreeNumber, Cond.instanceMethod yX1_lowestFreeNumber, Cond.selects RX1 yX1_lowestFreeNumber yX1_lowestFreeNumber, Cond.code yX1_lowestFreeNumber cX1_lowestFreeNumber 2 (some .int), Cond.methodLink RX2 158 yX0_corner, Cond.instanceMethod yX0_corner, Cond.selects RX0 yX0_corner yX0_corner, Cond.code yX0_corner cX0_corner 3 (some .int), Cond.methodLink RX2 143 yX1_setBox, Cond.instanceMethod yX1_setBox, Cond.selects RX1 yX1_setBox yX1_setBox, Cond.code yX1_setBox cX1_setBox 7 none, Cond.methodLink RX2 147 yX1_putIn, Cond.instanceMethod yX1_putIn, Cond.selects RX1 yX1_putIn yX1_putIn, Cond.code yX1_putIn cX1_putIn 6 none, Cond.methodLink RX1 105 yX1_reached, Cond.instanceMethod yX1_reached, Cond.selects RX1 yX1_reached yX1_reached, Cond.code yX1_reached cX1_reached 5 (some .int)]
def wsL_law0_r12 : List Cond := [Cond.methodLink RX1 121 yX1_branch, Cond.instanceMethod yX1_branch, Cond.selects RX1 yX1_branch yX1_branch, Cond.code yX1_branch cX1_branch 8 (some .int), Cond.methodLink RX1 124 yX1_joinArea, Cond.instanceMethod yX1_joinArea, Cond.selects RX1 yX1_joinArea yX1_joinArea, Cond.code yX1_joinArea cX1_joinArea 7 (some .int), Cond.methodLink RX1 108 yX1_attach, Cond.instanceMethod yX1_attach, Cond.selects RX1 yX1_attach yX1_attach, Cond.code yX1_attach cX1_attach 7 none, Cond.methodLink RX1 112 yX1_fitUpward, Cond.instanceMethod yX1_fitUpward, Cond.selects RX1 yX1_fitUpward yX1_fitUpward, Cond.code yX1_fitUpward cX1_fitUpward 4 none, Cond.methodLink RX1 90 yX1_fit, Cond.instanceMethod yX1_fit, Cond.selects RX1 yX1_fit yX1_fit, Cond.code yX1_fit cX1_fit 9 none, Cond.methodLink RX1 115 yX1_throwOut, Cond.instanceMethod yX1_throwOut, Cond.selects RX1 yX1_throwOut yX1_throwOut, Cond.code yX1_throwOut cX1_throwOut 6 (some .int)]
def wsL_law0_r13 : List Cond := [Cond.methodLink RX1 130 yX1_middleDistance, Cond.instanceMethod yX1_middleDistance, Cond.selects RX1 yX1_middleDistance yX1_middleDistance, Cond.code yX1_middleDistance cX1_middleDistance 7 (some .int), Cond.methodLink RX1 133 yX1_detach, Cond.instanceMethod yX1_detach, Cond.selects RX1 yX1_detach yX1_detach, Cond.code yX1_detach cX1_detach 6 none, Cond.methodLink RX1 94 yX1_placeOf, Cond.instanceMethod yX1_placeOf, Cond.selects RX1 yX1_placeOf yX1_placeOf, Cond.code yX1_placeOf cX1_placeOf 5 (some .int), Cond.methodLink RX1 118 yX1_split, Cond.instanceMethod yX1_split, Cond.selects RX1 yX1_split yX1_split, Cond.code yX1_split cX1_split 8 (some .int), Cond.methodLink RX1 136 yX1_seedPair, Cond.instanceMethod yX1_seedPair, Cond.selects RX1 yX1_seedPair yX1_seedPair, Cond.code yX1_seedPair cX1_seedPair 8 (some .int), Cond.methodLink RX1 139 yX1_join, Cond.instanceMethod yX1_join, Cond.selects RX1 yX1_join yX1_join, Cond.code yX1_join cX1_join 4 none]
def wsL_law0_r14 : List Cond := [Cond.methodLink RX1 143 yX1_groupFor, Cond.instanceMethod yX1_groupFor, Cond.selects RX1 yX1_groupFor yX1_groupFor, Cond.code yX1_groupFor cX1_groupFor 9 (some .int), Cond.methodLink RL 105 yL_tryRemove, Cond.static yL_tryRemove, Cond.codeWith yL_tryRemove cL_tryRemove 3 (some .int) [(0, 5, 6, 50)], Cond.methodLink RL 63 yX2_remove, Cond.instanceMethod yX2_remove, Cond.selects RX2 yX2_remove yX2_remove, Cond.code yX2_remove cX2_remove 2 (some .int), Cond.methodLink RX2 159 yX1_takeOut, Cond.instanceMethod yX1_takeOut, Cond.selects RX1 yX1_takeOut yX1_takeOut, Cond.code yX1_takeOut cX1_takeOut 6 none, Cond.methodLink RX1 147 yX1_dissolveUpward, Cond.instanceMethod yX1_dissolveUpward, Cond.selects RX1 yX1_dissolveUpward yX1_dissolveUpward, Cond.code yX1_dissolveUpward cX1_dissolveUpward 7 (some .int), Cond.methodLink RX1 150 yX1_putIn, Cond.methodLink RL 108 yL_tryMove, Cond.static yL_tryMove, Cond.codeWith yL_tryMove cL_tryMove 5 (some .int) [(0, 7, 8, 50), (0, 7, 13, 13), (0, 7, 18, 16)], Cond.methodLink RL 66 yX2_move]
def wsL_law0_r15 : List Cond := [Cond.instanceMethod yX2_move, Cond.selects RX2 yX2_move yX2_move, Cond.code yX2_move cX2_move 4 (some .int), Cond.methodLink RX2 164 yX1_canShift, Cond.instanceMethod yX1_canShift, Cond.selects RX1 yX1_canShift yX1_canShift, Cond.code yX1_canShift cX1_canShift 4 (some .boolean), Cond.methodLink RX1 74 yX1_corner, Cond.static yX2_isBox, Cond.code yX2_isBox cX2_isBox 4 (some .boolean), Cond.methodLink RX2 170 yX1_shiftBox, Cond.instanceMethod yX1_shiftBox, Cond.selects RX1 yX1_shiftBox yX1_shiftBox, Cond.code yX1_shiftBox cX1_shiftBox 4 none, Cond.methodLink RX1 78 yX1_setBox, Cond.methodLink RL 112 yL_tryUndo, Cond.static yL_tryUndo, Cond.codeWith yL_tryUndo cL_tryUndo 2 (some .int) [(0, 4, 5, 16)], Cond.methodLink RL 70 yX2_undo, Cond.instanceMethod yX2_undo, Cond.selects RX2 yX2_undo yX2_undo, Cond.code yX2_undo cX2_undo 1 (some .int), Cond.methodLink RL 115 yL_tryNearest, Cond.static yL_tryNearest]
def wsL_law0_r16 : List Cond := [Cond.codeWith yL_tryNearest cL_tryNearest 5 (some .int) [(0, 7, 8, 13)], Cond.methodLink RL 73 yX2_nearest, Cond.instanceMethod yX2_nearest, Cond.selects RX2 yX2_nearest yX2_nearest, Cond.code yX2_nearest cX2_nearest 4 (some .int), Cond.methodLink RX2 196 yX2_isCell, Cond.static yX2_isCell, Cond.code yX2_isCell cX2_isCell 2 (some .boolean), Cond.methodLink RX2 202 yX1_ranked, Cond.instanceMethod yX1_ranked, Cond.selects RX1 yX1_ranked yX1_ranked, Cond.code yX1_ranked cX1_ranked 5 (some .int), Cond.methodLink RX1 159 yX1_hasRectangle, Cond.methodLink RX1 163 yX1_countNearer, Cond.instanceMethod yX1_countNearer, Cond.selects RX1 yX1_countNearer yX1_countNearer, Cond.code yX1_countNearer cX1_countNearer 8 (some .int), Cond.methodLink RX1 167 yX1_distance, Cond.instanceMethod yX1_distance, Cond.selects RX1 yX1_distance yX1_distance, Cond.code yX1_distance cX1_distance 6 (some .int), Cond.methodLink RL 118 yL_tryKeep, Cond.static yL_tryKeep, Cond.codeWith yL_tryKeep cL_tryKeep 3 (some .int) [(0, 5, 6, 50)]]
def wsL_law0_r17 : List Cond := [Cond.methodLink RL 76 yX2_save, Cond.instanceMethod yX2_save, Cond.selects RX2 yX2_save yX2_save, Cond.code yX2_save cX2_save 3 (some .int), Cond.methodLink RX2 239 yX2_put, Cond.methodLink RL 121 yL_tryBack, Cond.static yL_tryBack, Cond.codeWith yL_tryBack cL_tryBack 3 (some .int) [(0, 5, 6, 50), (0, 5, 10, 16)], Cond.methodLink RL 79 yX2_restore, Cond.instanceMethod yX2_restore, Cond.selects RX2 yX2_restore yX2_restore, Cond.code yX2_restore cX2_restore 2 (some .int), Cond.methodLink RX2 243 yX2_get, Cond.methodLink RL 130 yL_tryAdd, Cond.static yL_tryAdd, Cond.codeWith yL_tryAdd cL_tryAdd 6 (some .int) [(0, 9, 10, 13), (0, 9, 15, 16)], Cond.methodLink RL 7 yX2_add, Cond.instanceMethod yX2_add, Cond.selects RX2 yX2_add yX2_add, Cond.code yX2_add cX2_add 6 (some .int), Cond.methodLink RX2 126 yX2_isBox, Cond.methodLink RL 133 yL_tryWindow, Cond.static yL_tryWindow, Cond.codeWith yL_tryWindow cL_tryWindow 6 (some .int) [(0, 9, 10, 13)]]
def wsL_law0_r18 : List Cond := [Cond.methodLink RL 19 yX2_window, Cond.instanceMethod yX2_window, Cond.selects RX2 yX2_window yX2_window, Cond.code yX2_window cX2_window 7 (some .int), Cond.methodLink RX2 190 yX1_commonCells, Cond.methodLink RL 136 yL_tryLooks, Cond.static yL_tryLooks, Cond.codeWith yL_tryLooks cL_tryLooks 6 (some .int) [(0, 9, 10, 13)], Cond.methodLink RL 22 yX2_looks, Cond.instanceMethod yX2_looks, Cond.selects RX2 yX2_looks yX2_looks, Cond.code yX2_looks cX2_looks 5 (some .int), Cond.methodLink RX2 193 yX1_lookedAt, Cond.instanceMethod yX1_lookedAt, Cond.selects RX1 yX1_lookedAt yX1_lookedAt, Cond.code yX1_lookedAt cX1_lookedAt 9 (some .int), Cond.methodLink RL 139 yL_tryChosen, Cond.static yL_tryChosen, Cond.codeWith yL_tryChosen cL_tryChosen 6 (some .int) [(0, 9, 10, 13)], Cond.methodLink RL 25 yX2_chosen, Cond.instanceMethod yX2_chosen, Cond.selects RX2 yX2_chosen yX2_chosen, Cond.code yX2_chosen cX2_chosen 5 (some .int), Cond.methodLink RX2 206 yX1_reached]
def wsL_law0_r19 : List Cond := [Cond.methodLink RL 142 yL_tryIfAdded, Cond.static yL_tryIfAdded, Cond.codeWith yL_tryIfAdded cL_tryIfAdded 6 (some .int) [(0, 9, 10, 13)], Cond.methodLink RL 28 yX2_ifAdded, Cond.instanceMethod yX2_ifAdded, Cond.selects RX2 yX2_ifAdded yX2_ifAdded, Cond.code yX2_ifAdded cX2_ifAdded 5 (some .int), Cond.constant RX2 209 (-100001), Cond.methodLink RX2 210 yX2_tryAdding, Cond.instanceMethod yX2_tryAdding, Cond.selects RX2 yX2_tryAdding yX2_tryAdding, Cond.code yX2_tryAdding cX2_tryAdding 6 none, Cond.methodLink RL 145 yL_tryScript, Cond.static yL_tryScript, Cond.codeWith yL_tryScript cL_tryScript 5 (some .int) [(0, 6, 7, 13)], Cond.methodLink RL 31 yX2_runScript, Cond.instanceMethod yX2_runScript, Cond.selects RX2 yX2_runScript yX2_runScript, Cond.code yX2_runScript cX2_runScript 7 (some .int), Cond.constantLong RX2 219 (1000000000), Cond.constantLong RX2 221 (1000000000000000000), Cond.methodLink RX2 225 yX2_succeeds, Cond.instanceMethod yX2_succeeds, Cond.selects RX2 yX2_succeeds yX2_succeeds]
def wsL_law0_r20 : List Cond := [Cond.code yX2_succeeds cX2_succeeds 9 (some .boolean), Cond.constant RX2 251 (1000000), Cond.constant RX2 252 (100000000), Cond.methodLink RX2 253 yX2_holds, Cond.instanceMethod yX2_holds, Cond.selects RX2 yX2_holds yX2_holds, Cond.code yX2_holds cX2_holds 6 (some .boolean), Cond.methodLink RX2 257 yX1_distance, Cond.methodLink RL 153 yL_trySimulate, Cond.static yL_trySimulate, Cond.codeWith yL_trySimulate cL_trySimulate 5 (some .int) [(0, 6, 7, 13)], Cond.methodLink RL 35 yX2_simulate, Cond.instanceMethod yX2_simulate, Cond.selects RX2 yX2_simulate yX2_simulate, Cond.code yX2_simulate cX2_simulate 7 (some .int), Cond.constantLong RX2 230 (6364136223846793005), Cond.constantLong RX2 232 (1442695040888963407), Cond.methodLink RX2 234 yX2_takeTurn, Cond.instanceMethod yX2_takeTurn, Cond.selects RX2 yX2_takeTurn yX2_takeTurn, Cond.code yX2_takeTurn cX2_takeTurn 5 none, Cond.constant RX2 249 (65536), Cond.constant RX2 250 (1048576), Cond.methodLink RL 157 yX2_errorPosition]
def wsL_law0_r21 : List Cond := [Cond.instanceMethod yX2_errorPosition, Cond.selects RX2 yX2_errorPosition yX2_errorPosition, Cond.code yX2_errorPosition cX2_errorPosition 1 (some .int), Cond.methodLink RL 181 yL_act, Cond.static yL_act, Cond.code yL_act cL_act 8 (some .int), Cond.constant RL 171 (65536), Cond.methodLink RL 168 yX2_clearText, Cond.instanceMethod yX2_clearText, Cond.selects RX2 yX2_clearText yX2_clearText, Cond.code yX2_clearText cX2_clearText 2 (some .int), Cond.methodLink RL 184 yL_alike, Cond.static yL_alike, Cond.code yL_alike cL_alike 6 (some .boolean), Cond.methodLink RL 188 yL_holds, Cond.static yL_holds, Cond.code yL_holds cL_holds 19 (some .boolean), Cond.constant RL 160 (131072), Cond.constant RL 167 (-100001), Cond.methodLink RL 161 yX2_bestRemoval, Cond.instanceMethod yX2_bestRemoval, Cond.selects RX2 yX2_bestRemoval yX2_bestRemoval, Cond.code yX2_bestRemoval cX2_bestRemoval 5 (some .int), Cond.methodLink RL 164 yX2_anew]
def wsL_law0_r22 : List Cond := [Cond.instanceMethod yX2_anew, Cond.selects RX2 yX2_anew yX2_anew, Cond.code yX2_anew cX2_anew 2 (some .int), Cond.methodLink RX2 214 yX1_clear]
def wsL_law0 : List Cond := (wsL_law0_r1 ++ (wsL_law0_r2 ++ (wsL_law0_r3 ++ (wsL_law0_r4 ++ (wsL_law0_r5 ++ (wsL_law0_r6 ++ (wsL_law0_r7 ++ (wsL_law0_r8 ++ (wsL_law0_r9 ++ (wsL_law0_r10 ++ (wsL_law0_r11 ++ (wsL_law0_r12 ++ (wsL_law0_r13 ++ (wsL_law0_r14 ++ (wsL_law0_r15 ++ (wsL_law0_r16 ++ (wsL_law0_r17 ++ (wsL_law0_r18 ++ (wsL_law0_r19 ++ (wsL_law0_r20 ++ (wsL_law0_r21 ++ wsL_law0_r22))))))))))))))))))))) ++ wsX20 ++ wsX10 ++ wsX00 ++ ([] : List Cond)
def wsL_law : List Cond := wsL_law0 ++ (vx_atS RX2 41 "java/lang/IllegalArgumentException" ["java/lang/RuntimeException", "java/lang/Exception"]).filter goodWord ++ (vx_atS RX2 52 "java/lang/IllegalStateException" ["java/lang/RuntimeException", "java/lang/Exception"]).filter goodWord ++ (vx_atS RX2 98 "java/lang/IndexOutOfBoundsException" ["java/lang/RuntimeException", "java/lang/Exception"]).filter goodWord
set_option maxRecDepth 20000 in
theorem wsL_law_in0_r1 : ∀ w ∈ wsL_law0_r1, w ∈ lw_tbl := fun w h => (goodIn_p wsL_law0_r1 [43, 46] (by decide +kernel) (by decide +kernel) w h).1
set_option maxRecDepth 20000 in
theorem wsL_law_in0_r2 : ∀ w ∈ wsL_law0_r2, w ∈ lw_tbl := fun w h => (goodIn_p wsL_law0_r2 [51, 56] (by decide +kernel) (by decide +kernel) w h).1
set_option maxRecDepth 20000 in
theorem zm_3_0 : Cond.code yX2_put cX2_put 3 none ∈ lw_tbl := List.mem_of_getElem? (i := 59) (by decide +kernel)
theorem zm_3_1 : Cond.methodLink RX1 59 yX1_newNode ∈ lw_tbl := by decide +kernel
theorem zm_3_2 : Cond.instanceMethod yX1_newNode ∈ lw_tbl := by decide +kernel
theorem zm_3_3 : Cond.selects RX1 yX1_newNode yX1_newNode ∈ lw_tbl := by decide +kernel
set_option maxRecDepth 20000 in
theorem zm_3_4 : Cond.code yX1_newNode cX1_newNode 3 (some .int) ∈ lw_tbl := List.mem_of_getElem? (i := 63) (by decide +kernel)
theorem zm_3_5 : Cond.static yX2_get ∈ lw_tbl := by decide +kernel
set_option maxRecDepth 20000 in
theorem zm_3_6 : Cond.code yX2_get cX2_get 2 (some .int) ∈ lw_tbl := List.mem_of_getElem? (i := 66) (by decide +kernel)
theorem zm_3_7 : Cond.instanceMethod yX0_init ∈ lw_tbl := by decide +kernel
set_option maxRecDepth 20000 in
theorem zm_3_8 : Cond.code yX0_init cX0_init 1 none ∈ lw_tbl := List.mem_of_getElem? (i := 120) (by decide +kernel)
theorem zm_3_9 : Cond.methodLink RX0 3 objectInit ∈ lw_tbl := by decide +kernel
theorem zm_3_10 : Cond.fieldLink RX0 9 "ShallowBoxes$RectangleText" "characters" "[I" ∈ lw_tbl := by decide +kernel
theorem zm_3_11 : Cond.fieldLink RX0 15 "ShallowBoxes$RectangleText" "corners" "[I" ∈ lw_tbl := by decide +kernel
theorem zm_3_12 : Cond.methodLink RL 173 yL_cell ∈ lw_tbl := by decide +kernel
theorem zm_3_13 : Cond.static yL_cell ∈ lw_tbl := by decide +kernel
theorem zm_3_14 : Cond.initialized RL ∈ lw_tbl := by decide +kernel
set_option maxRecDepth 20000 in
theorem zm_3_15 : Cond.code yL_cell cL_cell 2 (some .int) ∈ lw_tbl := List.mem_of_getElem? (i := 438) rfl
theorem zm_3_16 : Cond.constant RL 124 (15518507) ∈ lw_tbl := by decide +kernel
theorem zm_3_17 : Cond.constant RL 125 (2147483647) ∈ lw_tbl := by decide +kernel
theorem zm_3_18 : Cond.methodLink RL 177 yL_refuses ∈ lw_tbl := by decide +kernel
theorem zm_3_19 : Cond.static yL_refuses ∈ lw_tbl := by decide +kernel
set_option maxRecDepth 20000 in
theorem zm_3_20 : Cond.code yL_refuses cL_refuses 5 (some .boolean) ∈ lw_tbl := List.mem_of_getElem? (i := 443) rfl
theorem zm_3_21 : Cond.constant RL 15 (-9999002) ∈ lw_tbl := by decide +kernel
theorem zm_3_22 : Cond.constant RL 52 (-9999001) ∈ lw_tbl := by decide +kernel
theorem zm_3_23 : Cond.constant RL 18 (-9999003) ∈ lw_tbl := by decide +kernel
theorem wsL_law_in0_r3 : ∀ w ∈ wsL_law0_r3, w ∈ lw_tbl := (List.forall_mem_cons.mpr ⟨zm_3_0, (List.forall_mem_cons.mpr ⟨zm_3_1, (List.forall_mem_cons.mpr ⟨zm_3_2, (List.forall_mem_cons.mpr ⟨zm_3_3, (List.forall_mem_cons.mpr ⟨zm_3_4, (List.forall_mem_cons.mpr ⟨zm_3_5, (List.forall_mem_cons.mpr ⟨zm_3_6, (List.forall_mem_cons.mpr ⟨zm_3_7, (List.forall_mem_cons.mpr ⟨zm_3_8, (List.forall_mem_cons.mpr ⟨zm_3_9, (List.forall_mem_cons.mpr ⟨zm_3_10, (List.forall_mem_cons.mpr ⟨zm_3_11, (List.forall_mem_cons.mpr ⟨zm_3_12, (List.forall_mem_cons.mpr ⟨zm_3_13, (List.forall_mem_cons.mpr ⟨zm_3_14, (List.forall_mem_cons.mpr ⟨zm_3_15, (List.forall_mem_cons.mpr ⟨zm_3_16, (List.forall_mem_cons.mpr ⟨zm_3_17, (List.forall_mem_cons.mpr ⟨zm_3_18, (List.forall_mem_cons.mpr ⟨zm_3_19, (List.forall_mem_cons.mpr ⟨zm_3_20, (List.forall_mem_cons.mpr ⟨zm_3_21, (List.forall_mem_cons.mpr ⟨zm_3_22, (List.forall_mem_cons.mpr ⟨zm_3_23, (fun _ h => absurd h List.not_mem_nil)⟩)⟩)⟩)⟩)⟩)⟩)⟩)⟩)⟩)⟩)⟩)⟩)⟩)⟩)⟩)⟩)⟩)⟩)⟩)⟩)⟩)⟩)⟩)⟩)
set_option maxRecDepth 20000 in
theorem wsL_law_in0_r4 : ∀ w ∈ wsL_law0_r4, w ∈ lw_tbl := fun w h => (goodIn_p wsL_law0_r4 [446, 454, 475] (by decide +kernel) (by decide +kernel) w h).1
set_option maxRecDepth 20000 in
theorem wsL_law_in0_r5 : ∀ w ∈ wsL_law0_r5, w ∈ lw_tbl := fun w h => (goodIn_p wsL_law0_r5 [484, 272, 391, 488, 395] (by decide +kernel) (by decide +kernel) w h).1
set_option maxRecDepth 20000 in
theorem wsL_law_in0_r6 : ∀ w ∈ wsL_law0_r6, w ∈ lw_tbl := fun w h => (goodIn_p wsL_law0_r6 [400, 404, 256, 307, 492, 312] (by decide +kernel) (by decide +kernel) w h).1
set_option maxRecDepth 20000 in
theorem wsL_law_in0_r7 : ∀ w ∈ wsL_law0_r7, w ∈ lw_tbl := fun w h => (goodIn_p wsL_law0_r7 [501, 360, 522, 526, 377] (by decide +kernel) (by decide +kernel) w h).1
set_option maxRecDepth 20000 in
theorem wsL_law_in0_r8 : ∀ w ∈ wsL_law0_r8, w ∈ lw_tbl := fun w h => (goodIn_p wsL_law0_r8 [535, 539, 545, 552] (by decide +kernel) (by decide +kernel) w h).1
set_option maxRecDepth 20000 in
theorem wsL_law_in0_r9 : ∀ w ∈ wsL_law0_r9, w ∈ lw_tbl := fun w h => (goodIn_p wsL_law0_r9 [557, 564, 568, 572, 576] (by decide +kernel) (by decide +kernel) w h).1
set_option maxRecDepth 20000 in
theorem wsL_law_in0_r10 : ∀ w ∈ wsL_law0_r10, w ∈ lw_tbl := fun w h => (goodIn_p wsL_law0_r10 [581, 587, 590, 250, 253] (by decide +kernel) (by decide +kernel) w h).1
set_option maxRecDepth 20000 in
theorem wsL_law_in0_r11 : ∀ w ∈ wsL_law0_r11, w ∈ lw_tbl := fun w h => (goodIn_p wsL_law0_r11 [284, 280, 594, 288, 292, 296] (by decide +kernel) (by decide +kernel) w h).1
set_option maxRecDepth 20000 in
theorem wsL_law_in0_r12 : ∀ w ∈ wsL_law0_r12, w ∈ lw_tbl := fun w h => (goodIn_p wsL_law0_r12 [300, 304, 316, 320, 324, 328] (by decide +kernel) (by decide +kernel) w h).1
set_option maxRecDepth 20000 in
theorem wsL_law_in0_r13 : ∀ w ∈ wsL_law0_r13, w ∈ lw_tbl := fun w h => (goodIn_p wsL_law0_r13 [332, 336, 340, 344, 348, 352] (by decide +kernel) (by decide +kernel) w h).1
set_option maxRecDepth 20000 in
theorem wsL_law_in0_r14 : ∀ w ∈ wsL_law0_r14, w ∈ lw_tbl := fun w h => (goodIn_p wsL_law0_r14 [356, 601, 364, 368] (by decide +kernel) (by decide +kernel) w h).1
set_option maxRecDepth 20000 in
theorem wsL_law_in0_r15 : ∀ w ∈ wsL_law0_r15, w ∈ lw_tbl := fun w h => (goodIn_p wsL_law0_r15 [608, 373, 268, 382, 617] (by decide +kernel) (by decide +kernel) w h).1
set_option maxRecDepth 20000 in
theorem wsL_law_in0_r16 : ∀ w ∈ wsL_law0_r16, w ∈ lw_tbl := fun w h => (goodIn_p wsL_law0_r16 [625, 628, 408, 413, 417] (by decide +kernel) (by decide +kernel) w h).1
set_option maxRecDepth 20000 in
theorem wsL_law_in0_r17 : ∀ w ∈ wsL_law0_r17, w ∈ lw_tbl := fun w h => (goodIn_p wsL_law0_r17 [636, 645, 654] (by decide +kernel) (by decide +kernel) w h).1
set_option maxRecDepth 20000 in
theorem wsL_law_in0_r18 : ∀ w ∈ wsL_law0_r18, w ∈ lw_tbl := fun w h => (goodIn_p wsL_law0_r18 [663, 671, 675, 682] (by decide +kernel) (by decide +kernel) w h).1
set_option maxRecDepth 20000 in
theorem wsL_law_in0_r19 : ∀ w ∈ wsL_law0_r19, w ∈ lw_tbl := fun w h => (goodIn_p wsL_law0_r19 [690, 276, 175] (by decide +kernel) (by decide +kernel) w h).1
set_option maxRecDepth 20000 in
theorem wsL_law_in0_r20 : ∀ w ∈ wsL_law0_r20, w ∈ lw_tbl := fun w h => (goodIn_p wsL_law0_r20 [263, 387, 426, 433] (by decide +kernel) (by decide +kernel) w h).1
theorem zm_21_0 : Cond.instanceMethod yX2_errorPosition ∈ lw_tbl := by decide +kernel
theorem zm_21_1 : Cond.selects RX2 yX2_errorPosition yX2_errorPosition ∈ lw_tbl := by decide +kernel
set_option maxRecDepth 20000 in
theorem zm_21_2 : Cond.code yX2_errorPosition cX2_errorPosition 1 (some .int) ∈ lw_tbl := List.mem_of_getElem? (i := 697) (by decide +kernel)
theorem zm_21_3 : Cond.methodLink RL 181 yL_act ∈ lw_tbl := by decide +kernel
theorem zm_21_4 : Cond.static yL_act ∈ lw_tbl := by decide +kernel
set_option maxRecDepth 20000 in
theorem zm_21_5 : Cond.code yL_act cL_act 8 (some .int) ∈ lw_tbl := List.mem_of_getElem? (i := 717) rfl
theorem zm_21_6 : Cond.constant RL 171 (65536) ∈ lw_tbl := by decide +kernel
theorem zm_21_7 : Cond.methodLink RL 168 yX2_clearText ∈ lw_tbl := by decide +kernel
theorem zm_21_8 : Cond.instanceMethod yX2_clearText ∈ lw_tbl := by decide +kernel
theorem zm_21_9 : Cond.selects RX2 yX2_clearText yX2_clearText ∈ lw_tbl := by decide +kernel
set_option maxRecDepth 20000 in
theorem zm_21_10 : Cond.code yX2_clearText cX2_clearText 2 (some .int) ∈ lw_tbl := List.mem_of_getElem? (i := 721) (by decide +kernel)
theorem zm_21_11 : Cond.methodLink RL 184 yL_alike ∈ lw_tbl := by decide +kernel
theorem zm_21_12 : Cond.static yL_alike ∈ lw_tbl := by decide +kernel
set_option maxRecDepth 20000 in
theorem zm_21_13 : Cond.code yL_alike cL_alike 6 (some .boolean) ∈ lw_tbl := List.mem_of_getElem? (i := 700) rfl
theorem zm_21_14 : Cond.methodLink RL 188 yL_holds ∈ lw_tbl := by decide +kernel
theorem zm_21_15 : Cond.static yL_holds ∈ lw_tbl := by decide +kernel
set_option maxRecDepth 20000 in
theorem zm_21_16 : Cond.code yL_holds cL_holds 19 (some .boolean) ∈ lw_tbl := List.mem_of_getElem? (i := 703) rfl
theorem zm_21_17 : Cond.constant RL 160 (131072) ∈ lw_tbl := by decide +kernel
theorem zm_21_18 : Cond.constant RL 167 (-100001) ∈ lw_tbl := by decide +kernel
theorem zm_21_19 : Cond.methodLink RL 161 yX2_bestRemoval ∈ lw_tbl := by decide +kernel
theorem zm_21_20 : Cond.instanceMethod yX2_bestRemoval ∈ lw_tbl := by decide +kernel
theorem zm_21_21 : Cond.selects RX2 yX2_bestRemoval yX2_bestRemoval ∈ lw_tbl := by decide +kernel
set_option maxRecDepth 20000 in
theorem zm_21_22 : Cond.code yX2_bestRemoval cX2_bestRemoval 5 (some .int) ∈ lw_tbl := List.mem_of_getElem? (i := 708) (by decide +kernel)
theorem zm_21_23 : Cond.methodLink RL 164 yX2_anew ∈ lw_tbl := by decide +kernel
theorem wsL_law_in0_r21 : ∀ w ∈ wsL_law0_r21, w ∈ lw_tbl := (List.forall_mem_cons.mpr ⟨zm_21_0, (List.forall_mem_cons.mpr ⟨zm_21_1, (List.forall_mem_cons.mpr ⟨zm_21_2, (List.forall_mem_cons.mpr ⟨zm_21_3, (List.forall_mem_cons.mpr ⟨zm_21_4, (List.forall_mem_cons.mpr ⟨zm_21_5, (List.forall_mem_cons.mpr ⟨zm_21_6, (List.forall_mem_cons.mpr ⟨zm_21_7, (List.forall_mem_cons.mpr ⟨zm_21_8, (List.forall_mem_cons.mpr ⟨zm_21_9, (List.forall_mem_cons.mpr ⟨zm_21_10, (List.forall_mem_cons.mpr ⟨zm_21_11, (List.forall_mem_cons.mpr ⟨zm_21_12, (List.forall_mem_cons.mpr ⟨zm_21_13, (List.forall_mem_cons.mpr ⟨zm_21_14, (List.forall_mem_cons.mpr ⟨zm_21_15, (List.forall_mem_cons.mpr ⟨zm_21_16, (List.forall_mem_cons.mpr ⟨zm_21_17, (List.forall_mem_cons.mpr ⟨zm_21_18, (List.forall_mem_cons.mpr ⟨zm_21_19, (List.forall_mem_cons.mpr ⟨zm_21_20, (List.forall_mem_cons.mpr ⟨zm_21_21, (List.forall_mem_cons.mpr ⟨zm_21_22, (List.forall_mem_cons.mpr ⟨zm_21_23, (fun _ h => absurd h List.not_mem_nil)⟩)⟩)⟩)⟩)⟩)⟩)⟩)⟩)⟩)⟩)⟩)⟩)⟩)⟩)⟩)⟩)⟩)⟩)⟩)⟩)⟩)⟩)⟩)⟩)
set_option maxRecDepth 20000 in
theorem wsL_law_in0_r22 : ∀ w ∈ wsL_law0_r22, w ∈ lw_tbl := fun w h => (goodIn_p wsL_law0_r22 [712] (by decide +kernel) (by decide +kernel) w h).1
set_option maxRecDepth 20000 in
theorem wsL_law_in0_c2 : ∀ w ∈ wsX20, w ∈ lw_tbl := by decide +kernel
set_option maxRecDepth 20000 in
theorem wsL_law_in0_c1 : ∀ w ∈ wsX10, w ∈ lw_tbl := by decide +kernel
set_option maxRecDepth 20000 in
theorem wsL_law_in0_c0 : ∀ w ∈ wsX00, w ∈ lw_tbl := by decide +kernel
theorem wsL_law_in0 : ∀ w ∈ wsL_law0, w ∈ lw_tbl := fun w h => (List.mem_append.mp h).elim (fun h => (List.mem_append.mp h).elim (fun h => (List.mem_append.mp h).elim (fun h => (List.mem_append.mp h).elim (fun h => (List.mem_append.mp h).elim (wsL_law_in0_r1 w) (fun h => (List.mem_append.mp h).elim (wsL_law_in0_r2 w) (fun h => (List.mem_append.mp h).elim (wsL_law_in0_r3 w) (fun h => (List.mem_append.mp h).elim (wsL_law_in0_r4 w) (fun h => (List.mem_append.mp h).elim (wsL_law_in0_r5 w) (fun h => (List.mem_append.mp h).elim (wsL_law_in0_r6 w) (fun h => (List.mem_append.mp h).elim (wsL_law_in0_r7 w) (fun h => (List.mem_append.mp h).elim (wsL_law_in0_r8 w) (fun h => (List.mem_append.mp h).elim (wsL_law_in0_r9 w) (fun h => (List.mem_append.mp h).elim (wsL_law_in0_r10 w) (fun h => (List.mem_append.mp h).elim (wsL_law_in0_r11 w) (fun h => (List.mem_append.mp h).elim (wsL_law_in0_r12 w) (fun h => (List.mem_append.mp h).elim (wsL_law_in0_r13 w) (fun h => (List.mem_append.mp h).elim (wsL_law_in0_r14 w) (fun h => (List.mem_append.mp h).elim (wsL_law_in0_r15 w) (fun h => (List.mem_append.mp h).elim (wsL_law_in0_r16 w) (fun h => (List.mem_append.mp h).elim (wsL_law_in0_r17 w) (fun h => (List.mem_append.mp h).elim (wsL_law_in0_r18 w) (fun h => (List.mem_append.mp h).elim (wsL_law_in0_r19 w) (fun h => (List.mem_append.mp h).elim (wsL_law_in0_r20 w) (fun h => (List.mem_append.mp h).elim (wsL_law_in0_r21 w) (wsL_law_in0_r22 w)))))))))))))))))))))) (wsL_law_in0_c2 w)) (wsL_law_in0_c1 w)) (wsL_law_in0_c0 w)) (fun h => absurd h List.not_mem_nil)
theorem wsL_law_x0 : ∀ w ∈ (vx_atS RX2 41 "java/lang/IllegalArgumentException" ["java/lang/RuntimeException", "java/lang/Exception"]).filter goodWord, w ∈ lw_tbl := by decide +kernel
theorem wsL_law_x1 : ∀ w ∈ (vx_atS RX2 52 "java/lang/IllegalStateException" ["java/lang/RuntimeException", "java/lang/Exception"]).filter goodWord, w ∈ lw_tbl := by decide +kernel
theorem wsL_law_x2 : ∀ w ∈ (vx_atS RX2 98 "java/lang/IndexOutOfBoundsException" ["java/lang/RuntimeException", "java/lang/Exception"]).filter goodWord, w ∈ lw_tbl := by decide +kernel
theorem wsL_law_in : ∀ w ∈ wsL_law, w ∈ lw_tbl := fun w h => (List.mem_append.mp h).elim (fun h => (List.mem_append.mp h).elim (fun h => (List.mem_append.mp h).elim (fun h => wsL_law_in0 w h) (fun h => wsL_law_x0 w h)) (fun h => wsL_law_x1 w h)) (fun h => wsL_law_x2 w h)
theorem inlX0 : ∀ w ∈ wsX00, w ∈ wsL_law := fun _ h => List.mem_append_left _ (List.mem_append_left _ (List.mem_append_left _ (List.mem_append_left _ (List.mem_append_right _ h))))
theorem inX0 : ∀ w ∈ wsX00, w ∈ lw_tbl := fun w h => wsL_law_in w (inlX0 w h)
theorem inlX1 : ∀ w ∈ wsX10, w ∈ wsL_law := fun _ h => List.mem_append_left _ (List.mem_append_left _ (List.mem_append_left _ (List.mem_append_left _ (List.mem_append_left _ (List.mem_append_right _ h)))))
theorem inX1 : ∀ w ∈ wsX10, w ∈ lw_tbl := fun w h => wsL_law_in w (inlX1 w h)
theorem inlX2 : ∀ w ∈ wsX20, w ∈ wsL_law := fun _ h => List.mem_append_left _ (List.mem_append_left _ (List.mem_append_left _ (List.mem_append_left _ (List.mem_append_left _ (List.mem_append_left _ (List.mem_append_right _ h))))))
theorem inX2 : ∀ w ∈ wsX20, w ∈ lw_tbl := fun w h => wsL_law_in w (inlX2 w h)
theorem inX3 : ∀ w ∈ wsX30, w ∈ lw_tbl := by decide +kernel
abbrev vwCl : List vw_C := [(RX0, TX0, 6), (RX1, TX1, 14), (RX2, TX2, 8)]
/-! THE list of words: wsL_law, by its chunks -/
theorem zc_0 : ∀ w ∈ wsL_law0, w ∈ wsL_law := fun _ h => List.mem_append_left _ (List.mem_append_left _ (List.mem_append_left _ h))
theorem zc_1 : ∀ w ∈ wsL_law0_r1, w ∈ wsL_law := fun w h => zc_0 w (List.mem_append_left _ (List.mem_append_left _ (List.mem_append_left _ (List.mem_append_left _ (List.mem_append_left _ (h))))))
theorem zc_2 : ∀ w ∈ wsL_law0_r2, w ∈ wsL_law := fun w h => zc_0 w (List.mem_append_left _ (List.mem_append_left _ (List.mem_append_left _ (List.mem_append_left _ (List.mem_append_right _ (List.mem_append_left _ (h)))))))
theorem zc_3 : ∀ w ∈ wsL_law0_r3, w ∈ wsL_law := fun w h => zc_0 w (List.mem_append_left _ (List.mem_append_left _ (List.mem_append_left _ (List.mem_append_left _ (List.mem_append_right _ (List.mem_append_right _ (List.mem_append_left _ (h))))))))
theorem zc_4 : ∀ w ∈ wsL_law0_r4, w ∈ wsL_law := fun w h => zc_0 w (List.mem_append_left _ (List.mem_append_left _ (List.mem_append_left _ (List.mem_append_left _ (List.mem_append_right _ (List.mem_append_right _ (List.mem_append_right _ (List.mem_append_left _ (h)))))))))
theorem zc_5 : ∀ w ∈ wsL_law0_r5, w ∈ wsL_law := fun w h => zc_0 w (List.mem_append_left _ (List.mem_append_left _ (List.mem_append_left _ (List.mem_append_left _ (List.mem_append_right _ (List.mem_append_right _ (List.mem_append_right _ (List.mem_append_right _ (List.mem_append_left _ (h))))))))))
theorem zc_6 : ∀ w ∈ wsL_law0_r6, w ∈ wsL_law := fun w h => zc_0 w (List.mem_append_left _ (List.mem_append_left _ (List.mem_append_left _ (List.mem_append_left _ (List.mem_append_right _ (List.mem_append_right _ (List.mem_append_right _ (List.mem_append_right _ (List.mem_append_right _ (List.mem_append_left _ (h)))))))))))
theorem zc_7 : ∀ w ∈ wsL_law0_r7, w ∈ wsL_law := fun w h => zc_0 w (List.mem_append_left _ (List.mem_append_left _ (List.mem_append_left _ (List.mem_append_left _ (List.mem_append_right _ (List.mem_append_right _ (List.mem_append_right _ (List.mem_append_right _ (List.mem_append_right _ (List.mem_append_right _ (List.mem_append_left _ (h))))))))))))
theorem zc_8 : ∀ w ∈ wsL_law0_r8, w ∈ wsL_law := fun w h => zc_0 w (List.mem_append_left _ (List.mem_append_left _ (List.mem_append_left _ (List.mem_append_left _ (List.mem_append_right _ (List.mem_append_right _ (List.mem_append_right _ (List.mem_append_right _ (List.mem_append_right _ (List.mem_append_right _ (List.mem_append_right _ (List.mem_append_left _ (h)))))))))))))
theorem zc_9 : ∀ w ∈ wsL_law0_r9, w ∈ wsL_law := fun w h => zc_0 w (List.mem_append_left _ (List.mem_append_left _ (List.mem_append_left _ (List.mem_append_left _ (List.mem_append_right _ (List.mem_append_right _ (List.mem_append_right _ (List.mem_append_right _ (List.mem_append_right _ (List.mem_append_right _ (List.mem_append_right _ (List.mem_append_right _ (List.mem_append_left _ (h))))))))))))))
theorem zc_10 : ∀ w ∈ wsL_law0_r10, w ∈ wsL_law := fun w h => zc_0 w (List.mem_append_left _ (List.mem_append_left _ (List.mem_append_left _ (List.mem_append_left _ (List.mem_append_right _ (List.mem_append_right _ (List.mem_append_right _ (List.mem_append_right _ (List.mem_append_right _ (List.mem_append_right _ (List.mem_append_right _ (List.mem_append_right _ (List.mem_append_right _ (List.mem_append_left _ (h)))))))))))))))
theorem zc_11 : ∀ w ∈ wsL_law0_r11, w ∈ wsL_law := fun w h => zc_0 w (List.mem_append_left _ (List.mem_append_left _ (List.mem_append_left _ (List.mem_append_left _ (List.mem_append_right _ (List.mem_append_right _ (List.mem_append_right _ (List.mem_append_right _ (List.mem_append_right _ (List.mem_append_right _ (List.mem_append_right _ (List.mem_append_right _ (List.mem_append_right _ (List.mem_append_right _ (List.mem_append_left _ (h))))))))))))))))
theorem zc_12 : ∀ w ∈ wsL_law0_r12, w ∈ wsL_law := fun w h => zc_0 w (List.mem_append_left _ (List.mem_append_left _ (List.mem_append_left _ (List.mem_append_left _ (List.mem_append_right _ (List.mem_append_right _ (List.mem_append_right _ (List.mem_append_right _ (List.mem_append_right _ (List.mem_append_right _ (List.mem_append_right _ (List.mem_append_right _ (List.mem_append_right _ (List.mem_append_right _ (List.mem_append_right _ (List.mem_append_left _ (h)))))))))))))))))
theorem zc_13 : ∀ w ∈ wsL_law0_r13, w ∈ wsL_law := fun w h => zc_0 w (List.mem_append_left _ (List.mem_append_left _ (List.mem_append_left _ (List.mem_append_left _ (List.mem_append_right _ (List.mem_append_right _ (List.mem_append_right _ (List.mem_append_right _ (List.mem_append_right _ (List.mem_append_right _ (List.mem_append_right _ (List.mem_append_right _ (List.mem_append_right _ (List.mem_append_right _ (List.mem_append_right _ (List.mem_append_right _ (List.mem_append_left _ (h))))))))))))))))))
theorem zc_14 : ∀ w ∈ wsL_law0_r14, w ∈ wsL_law := fun w h => zc_0 w (List.mem_append_left _ (List.mem_append_left _ (List.mem_append_left _ (List.mem_append_left _ (List.mem_append_right _ (List.mem_append_right _ (List.mem_append_right _ (List.mem_append_right _ (List.mem_append_right _ (List.mem_append_right _ (List.mem_append_right _ (List.mem_append_right _ (List.mem_append_right _ (List.mem_append_right _ (List.mem_append_right _ (List.mem_append_right _ (List.mem_append_right _ (List.mem_append_left _ (h)))))))))))))))))))
theorem zc_15 : ∀ w ∈ wsL_law0_r15, w ∈ wsL_law := fun w h => zc_0 w (List.mem_append_left _ (List.mem_append_left _ (List.mem_append_left _ (List.mem_append_left _ (List.mem_append_right _ (List.mem_append_right _ (List.mem_append_right _ (List.mem_append_right _ (List.mem_append_right _ (List.mem_append_right _ (List.mem_append_right _ (List.mem_append_right _ (List.mem_append_right _ (List.mem_append_right _ (List.mem_append_right _ (List.mem_append_right _ (List.mem_append_right _ (List.mem_append_right _ (List.mem_append_left _ (h))))))))))))))))))))
theorem zc_16 : ∀ w ∈ wsL_law0_r16, w ∈ wsL_law := fun w h => zc_0 w (List.mem_append_left _ (List.mem_append_left _ (List.mem_append_left _ (List.mem_append_left _ (List.mem_append_right _ (List.mem_append_right _ (List.mem_append_right _ (List.mem_append_right _ (List.mem_append_right _ (List.mem_append_right _ (List.mem_append_right _ (List.mem_append_right _ (List.mem_append_right _ (List.mem_append_right _ (List.mem_append_right _ (List.mem_append_right _ (List.mem_append_right _ (List.mem_append_right _ (List.mem_append_right _ (List.mem_append_left _ (h)))))))))))))))))))))
theorem zc_17 : ∀ w ∈ wsL_law0_r17, w ∈ wsL_law := fun w h => zc_0 w (List.mem_append_left _ (List.mem_append_left _ (List.mem_append_left _ (List.mem_append_left _ (List.mem_append_right _ (List.mem_append_right _ (List.mem_append_right _ (List.mem_append_right _ (List.mem_append_right _ (List.mem_append_right _ (List.mem_append_right _ (List.mem_append_right _ (List.mem_append_right _ (List.mem_append_right _ (List.mem_append_right _ (List.mem_append_right _ (List.mem_append_right _ (List.mem_append_right _ (List.mem_append_right _ (List.mem_append_right _ (List.mem_append_left _ (h))))))))))))))))))))))
theorem zc_18 : ∀ w ∈ wsL_law0_r18, w ∈ wsL_law := fun w h => zc_0 w (List.mem_append_left _ (List.mem_append_left _ (List.mem_append_left _ (List.mem_append_left _ (List.mem_append_right _ (List.mem_append_right _ (List.mem_append_right _ (List.mem_append_right _ (List.mem_append_right _ (List.mem_append_right _ (List.mem_append_right _ (List.mem_append_right _ (List.mem_append_right _ (List.mem_append_right _ (List.mem_append_right _ (List.mem_append_right _ (List.mem_append_right _ (List.mem_append_right _ (List.mem_append_right _ (List.mem_append_right _ (List.mem_append_right _ (List.mem_append_left _ (h)))))))))))))))))))))))
theorem zc_19 : ∀ w ∈ wsL_law0_r19, w ∈ wsL_law := fun w h => zc_0 w (List.mem_append_left _ (List.mem_append_left _ (List.mem_append_left _ (List.mem_append_left _ (List.mem_append_right _ (List.mem_append_right _ (List.mem_append_right _ (List.mem_append_right _ (List.mem_append_right _ (List.mem_append_right _ (List.mem_append_right _ (List.mem_append_right _ (List.mem_append_right _ (List.mem_append_right _ (List.mem_append_right _ (List.mem_append_right _ (List.mem_append_right _ (List.mem_append_right _ (List.mem_append_right _ (List.mem_append_right _ (List.mem_append_right _ (List.mem_append_right _ (List.mem_append_left _ (h))))))))))))))))))))))))
theorem zc_20 : ∀ w ∈ wsL_law0_r20, w ∈ wsL_law := fun w h => zc_0 w (List.mem_append_left _ (List.mem_append_left _ (List.mem_append_left _ (List.mem_append_left _ (List.mem_append_right _ (List.mem_append_right _ (List.mem_append_right _ (List.mem_append_right _ (List.mem_append_right _ (List.mem_append_right _ (List.mem_append_right _ (List.mem_append_right _ (List.mem_append_right _ (List.mem_append_right _ (List.mem_append_right _ (List.mem_append_right _ (List.mem_append_right _ (List.mem_append_right _ (List.mem_append_right _ (List.mem_append_right _ (List.mem_append_right _ (List.mem_append_right _ (List.mem_append_right _ (List.mem_append_left _ (h)))))))))))))))))))))))))
theorem zc_21 : ∀ w ∈ wsL_law0_r21, w ∈ wsL_law := fun w h => zc_0 w (List.mem_append_left _ (List.mem_append_left _ (List.mem_append_left _ (List.mem_append_left _ (List.mem_append_right _ (List.mem_append_right _ (List.mem_append_right _ (List.mem_append_right _ (List.mem_append_right _ (List.mem_append_right _ (List.mem_append_right _ (List.mem_append_right _ (List.mem_append_right _ (List.mem_append_right _ (List.mem_append_right _ (List.mem_append_right _ (List.mem_append_right _ (List.mem_append_right _ (List.mem_append_right _ (List.mem_append_right _ (List.mem_append_right _ (List.mem_append_right _ (List.mem_append_right _ (List.mem_append_right _ (List.mem_append_left _ (h))))))))))))))))))))))))))
theorem zc_22 : ∀ w ∈ wsL_law0_r22, w ∈ wsL_law := fun w h => zc_0 w (List.mem_append_left _ (List.mem_append_left _ (List.mem_append_left _ (List.mem_append_left _ (List.mem_append_right _ (List.mem_append_right _ (List.mem_append_right _ (List.mem_append_right _ (List.mem_append_right _ (List.mem_append_right _ (List.mem_append_right _ (List.mem_append_right _ (List.mem_append_right _ (List.mem_append_right _ (List.mem_append_right _ (List.mem_append_right _ (List.mem_append_right _ (List.mem_append_right _ (List.mem_append_right _ (List.mem_append_right _ (List.mem_append_right _ (List.mem_append_right _ (List.mem_append_right _ (List.mem_append_right _ (List.mem_append_right _ (h))))))))))))))))))))))))))
theorem zg_all0 : wsL_law0.all goodWord = true := by decide +kernel
theorem zg_all1 : ((vx_atS RX2 41 "java/lang/IllegalArgumentException" ["java/lang/RuntimeException", "java/lang/Exception"]).filter goodWord ++ (vx_atS RX2 52 "java/lang/IllegalStateException" ["java/lang/RuntimeException", "java/lang/Exception"]).filter goodWord ++ (vx_atS RX2 98 "java/lang/IndexOutOfBoundsException" ["java/lang/RuntimeException", "java/lang/Exception"]).filter goodWord).all goodWord = true := by decide +kernel
theorem zg_all : ∀ w ∈ wsL_law, goodWord w = true := by
  intro w h
  have h1 := List.all_eq_true.mp zg_all0 w
  have h2 := List.all_eq_true.mp zg_all1 w
  unfold wsL_law at h
  rw [List.append_assoc, List.append_assoc] at h
  rcases List.mem_append.mp h with h | h
  · exact h1 h
  · exact h2 (by rw [List.append_assoc]; exact h)
theorem zg_in {ws : List Cond} (h : ∀ w ∈ ws, w ∈ wsL_law) : GoodIn wsL_law ws := fun w hw => ⟨h w hw, good_of_word (zg_all w (h w hw))⟩
theorem zg_c {c : Cond} (h : c ∈ wsL_law) : GoodIn wsL_law (c :: wsL_law) := zg_in (fun w hw => (List.mem_cons.mp hw).elim (fun e => e ▸ h) id)
theorem zg_V {own : String} {idx : Nat} {C : String} {y : MethodName} {c : Cond} (h1 : Cond.methodLink own idx y ∈ wsL_law) (h2 : Cond.instanceMethod y ∈ wsL_law) (h3 : Cond.selects C y y ∈ wsL_law) (h4 : Cond.initialized C ∈ wsL_law) (h : c ∈ wsL_law) : GoodIn wsL_law (wsV own idx C y (c :: wsL_law)) := zg_in (fun w hw => by
  unfold wsV at hw
  rcases List.mem_append.mp hw with hw | hw
  · rcases List.mem_cons.mp hw with rfl | hw
    · exact h1
    rcases List.mem_cons.mp hw with rfl | hw
    · exact h2
    rcases List.mem_cons.mp hw with rfl | hw
    · exact h3
    rcases List.mem_cons.mp hw with rfl | hw
    · exact h4
    · cases hw
  · exact (List.mem_cons.mp hw).elim (fun e => e ▸ h) id)
theorem zg_S {own : String} {idx : Nat} {y : MethodName} {c : Cond} (h1 : Cond.methodLink own idx y ∈ wsL_law) (h2 : Cond.static y ∈ wsL_law) (h3 : Cond.initialized y.cls ∈ wsL_law) (h : c ∈ wsL_law) : GoodIn wsL_law (va_wsS own idx y (c :: wsL_law)) := zg_in (fun w hw => by
  unfold va_wsS at hw
  rcases List.mem_append.mp hw with hw | hw
  · rcases List.mem_cons.mp hw with rfl | hw
    · exact h1
    rcases List.mem_cons.mp hw with rfl | hw
    · exact h2
    rcases List.mem_cons.mp hw with rfl | hw
    · exact h3
    · cases hw
  · exact (List.mem_cons.mp hw).elim (fun e => e ▸ h) id)
