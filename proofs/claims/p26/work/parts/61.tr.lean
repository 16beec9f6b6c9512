/-! the wrappers: what they answer; call: which wrapper -/
theorem tr_tryAdd0 {N : Nat} {p1 : Int32} {p2 : Int32} {p3 : Int32} {p4 : Int32} {B B2 : zx_B} {r : Int32} (h : f_X2_add N p1 p2 p3 p4 B = some (r, (0, B2))) : f_L_tryAdd N p1 p2 p3 p4 B = some (r, B2) := by unfold f_L_tryAdd; rw [h]; rfl
theorem tr_tryAdd1 {N : Nat} {p1 : Int32} {p2 : Int32} {p3 : Int32} {p4 : Int32} {B B2 : zx_B} {r : Int32} (h : f_X2_add N p1 p2 p3 p4 B = some (r, (1, B2))) : f_L_tryAdd N p1 p2 p3 p4 B = some ((-9999002), B2) := by unfold f_L_tryAdd; rw [h]; rfl
theorem tr_tryAdd2 {N : Nat} {p1 : Int32} {p2 : Int32} {p3 : Int32} {p4 : Int32} {B B2 : zx_B} {r : Int32} (h : f_X2_add N p1 p2 p3 p4 B = some (r, (2, B2))) : f_L_tryAdd N p1 p2 p3 p4 B = some ((-9999003), B2) := by unfold f_L_tryAdd; rw [h]; rfl
theorem tr_tryWindow0 {N : Nat} {p1 : Int32} {p2 : Int32} {p3 : Int32} {p4 : Int32} {B B2 : zx_B} {r : Int32} (h : f_X2_window N p1 p2 p3 p4 B = some (r, (0, B2))) : f_L_tryWindow N p1 p2 p3 p4 B = some (r, B2) := by unfold f_L_tryWindow; rw [h]; rfl
theorem tr_tryWindow1 {N : Nat} {p1 : Int32} {p2 : Int32} {p3 : Int32} {p4 : Int32} {B B2 : zx_B} {r : Int32} (h : f_X2_window N p1 p2 p3 p4 B = some (r, (1, B2))) : f_L_tryWindow N p1 p2 p3 p4 B = some ((-9999002), B2) := by unfold f_L_tryWindow; rw [h]; rfl
theorem tr_tryLooks0 {N : Nat} {p1 : Int32} {p2 : Int32} {p3 : Int32} {p4 : Int32} {B B2 : zx_B} {r : Int32} (h : f_X2_looks N p1 p2 p3 p4 B = some (r, (0, B2))) : f_L_tryLooks N p1 p2 p3 p4 B = some (r, B2) := by unfold f_L_tryLooks; rw [h]; rfl
theorem tr_tryLooks1 {N : Nat} {p1 : Int32} {p2 : Int32} {p3 : Int32} {p4 : Int32} {B B2 : zx_B} {r : Int32} (h : f_X2_looks N p1 p2 p3 p4 B = some (r, (1, B2))) : f_L_tryLooks N p1 p2 p3 p4 B = some ((-9999002), B2) := by unfold f_L_tryLooks; rw [h]; rfl
theorem tr_tryChosen0 {N : Nat} {p1 : Int32} {p2 : Int32} {p3 : Int32} {p4 : Int32} {B B2 : zx_B} {r : Int32} (h : f_X2_chosen N p1 p2 p3 p4 B = some (r, (0, B2))) : f_L_tryChosen N p1 p2 p3 p4 B = some (r, B2) := by unfold f_L_tryChosen; rw [h]; rfl
theorem tr_tryChosen1 {N : Nat} {p1 : Int32} {p2 : Int32} {p3 : Int32} {p4 : Int32} {B B2 : zx_B} {r : Int32} (h : f_X2_chosen N p1 p2 p3 p4 B = some (r, (1, B2))) : f_L_tryChosen N p1 p2 p3 p4 B = some ((-9999002), B2) := by unfold f_L_tryChosen; rw [h]; rfl
theorem tr_tryIfAdded0 {N : Nat} {p1 : Int32} {p2 : Int32} {p3 : Int32} {p4 : Int32} {B B2 : zx_B} {r : Int32} (h : f_X2_ifAdded N p1 p2 p3 p4 B = some (r, (0, B2))) : f_L_tryIfAdded N p1 p2 p3 p4 B = some (r, B2) := by unfold f_L_tryIfAdded; rw [h]; rfl
theorem tr_tryIfAdded1 {N : Nat} {p1 : Int32} {p2 : Int32} {p3 : Int32} {p4 : Int32} {B B2 : zx_B} {r : Int32} (h : f_X2_ifAdded N p1 p2 p3 p4 B = some (r, (1, B2))) : f_L_tryIfAdded N p1 p2 p3 p4 B = some ((-9999002), B2) := by unfold f_L_tryIfAdded; rw [h]; rfl
theorem tr_tryScript0 {N : Nat} {p1 : Int32} {p2 : Int64} {B B2 : zx_B} {r : Int32} (h : f_X2_runScript N p1 p2 B = some (r, (0, B2))) : f_L_tryScript N p1 p2 B = some (r, B2) := by unfold f_L_tryScript; rw [h]; rfl
theorem tr_tryScript1 {N : Nat} {p1 : Int32} {p2 : Int64} {B B2 : zx_B} {r : Int32} (h : f_X2_runScript N p1 p2 B = some (r, (1, B2))) : f_L_tryScript N p1 p2 B = some ((-9999002), B2) := by unfold f_L_tryScript; rw [h]; rfl
theorem tr_trySimulate0 {N : Nat} {p1 : Int64} {p3 : Int32} {B B2 : zx_B} {r : Int32} (h : f_X2_simulate N p1 p3 B = some (r, (0, B2))) : f_L_trySimulate N p1 p3 B = some (r, B2) := by unfold f_L_trySimulate; rw [h]; rfl
theorem tr_trySimulate1 {N : Nat} {p1 : Int64} {p3 : Int32} {B B2 : zx_B} {r : Int32} (h : f_X2_simulate N p1 p3 B = some (r, (1, B2))) : f_L_trySimulate N p1 p3 B = some ((-9999002), B2) := by unfold f_L_trySimulate; rw [h]; rfl
theorem tr_tryAppend0 {N : Nat} {p1 : Int32} {B B2 : zx_B} {r : Int32} (h : f_X2_append N p1 B = some (r, (0, B2))) : f_L_tryAppend N p1 B = some (r, B2) := by unfold f_L_tryAppend; rw [h]; rfl
theorem tr_tryAppend1 {N : Nat} {p1 : Int32} {B B2 : zx_B} {r : Int32} (h : f_X2_append N p1 B = some (r, (1, B2))) : f_L_tryAppend N p1 B = some ((-9999002), B2) := by unfold f_L_tryAppend; rw [h]; rfl
theorem tr_tryAppend2 {N : Nat} {p1 : Int32} {B B2 : zx_B} {r : Int32} (h : f_X2_append N p1 B = some (r, (2, B2))) : f_L_tryAppend N p1 B = some ((-9999003), B2) := by unfold f_L_tryAppend; rw [h]; rfl
theorem tr_tryAbout0 {N : Nat} {p1 : Int32} {B B2 : zx_B} {r : Int32} (h : f_X2_about N p1 B = some (r, (0, B2))) : f_L_tryAbout N p1 B = some (r, B2) := by unfold f_L_tryAbout; rw [h]; rfl
theorem tr_tryAbout1 {N : Nat} {p1 : Int32} {B B2 : zx_B} {r : Int32} (h : f_X2_about N p1 B = some (r, (1, B2))) : f_L_tryAbout N p1 B = some ((-9999002), B2) := by unfold f_L_tryAbout; rw [h]; rfl
theorem tr_tryRect0 {N : Nat} {p1 : Int32} {p2 : Int32} {B B2 : zx_B} {r : Int32} (h : f_X2_rectangle N p1 p2 B = some (r, (0, B2))) : f_L_tryRect N p1 p2 B = some (r, B2) := by unfold f_L_tryRect; rw [h]; rfl
theorem tr_tryRect3 {N : Nat} {p1 : Int32} {p2 : Int32} {B B2 : zx_B} {r : Int32} (h : f_X2_rectangle N p1 p2 B = some (r, (3, B2))) : f_L_tryRect N p1 p2 B = some ((-9999001), B2) := by unfold f_L_tryRect; rw [h]; rfl
theorem tr_tryRect1 {N : Nat} {p1 : Int32} {p2 : Int32} {B B2 : zx_B} {r : Int32} (h : f_X2_rectangle N p1 p2 B = some (r, (1, B2))) : f_L_tryRect N p1 p2 B = some ((-9999002), B2) := by unfold f_L_tryRect; rw [h]; rfl
theorem tr_tryNode0 {N : Nat} {p1 : Int32} {p2 : Int32} {B B2 : zx_B} {r : Int32} (h : f_X2_node N p1 p2 B = some (r, (0, B2))) : f_L_tryNode N p1 p2 B = some (r, B2) := by unfold f_L_tryNode; rw [h]; rfl
theorem tr_tryNode3 {N : Nat} {p1 : Int32} {p2 : Int32} {B B2 : zx_B} {r : Int32} (h : f_X2_node N p1 p2 B = some (r, (3, B2))) : f_L_tryNode N p1 p2 B = some ((-9999001), B2) := by unfold f_L_tryNode; rw [h]; rfl
theorem tr_tryNode1 {N : Nat} {p1 : Int32} {p2 : Int32} {B B2 : zx_B} {r : Int32} (h : f_X2_node N p1 p2 B = some (r, (1, B2))) : f_L_tryNode N p1 p2 B = some ((-9999002), B2) := by unfold f_L_tryNode; rw [h]; rfl
theorem tr_tryEntry0 {N : Nat} {p1 : Int32} {p2 : Int32} {B B2 : zx_B} {r : Int32} (h : f_X2_entry N p1 p2 B = some (r, (0, B2))) : f_L_tryEntry N p1 p2 B = some (r, B2) := by unfold f_L_tryEntry; rw [h]; rfl
theorem tr_tryEntry3 {N : Nat} {p1 : Int32} {p2 : Int32} {B B2 : zx_B} {r : Int32} (h : f_X2_entry N p1 p2 B = some (r, (3, B2))) : f_L_tryEntry N p1 p2 B = some ((-9999001), B2) := by unfold f_L_tryEntry; rw [h]; rfl
theorem tr_tryEntry1 {N : Nat} {p1 : Int32} {p2 : Int32} {B B2 : zx_B} {r : Int32} (h : f_X2_entry N p1 p2 B = some (r, (1, B2))) : f_L_tryEntry N p1 p2 B = some ((-9999002), B2) := by unfold f_L_tryEntry; rw [h]; rfl
theorem tr_tryAddAll0 {N : Nat}  {B B2 : zx_B} {r : Int32} (h : f_X2_addAll N B = some (r, (0, B2))) : f_L_tryAddAll N B = some (r, B2) := by unfold f_L_tryAddAll; rw [h]; rfl
theorem tr_tryAddAll2 {N : Nat}  {B B2 : zx_B} {r : Int32} (h : f_X2_addAll N B = some (r, (2, B2))) : f_L_tryAddAll N B = some ((-9999003), B2) := by unfold f_L_tryAddAll; rw [h]; rfl
theorem tr_tryRemove0 {N : Nat} {p1 : Int32} {B B2 : zx_B} {r : Int32} (h : f_X2_remove N p1 B = some (r, (0, B2))) : f_L_tryRemove N p1 B = some (r, B2) := by unfold f_L_tryRemove; rw [h]; rfl
theorem tr_tryRemove3 {N : Nat} {p1 : Int32} {B B2 : zx_B} {r : Int32} (h : f_X2_remove N p1 B = some (r, (3, B2))) : f_L_tryRemove N p1 B = some ((-9999001), B2) := by unfold f_L_tryRemove; rw [h]; rfl
theorem tr_tryMove0 {N : Nat} {p1 : Int32} {p2 : Int32} {p3 : Int32} {B B2 : zx_B} {r : Int32} (h : f_X2_move N p1 p2 p3 B = some (r, (0, B2))) : f_L_tryMove N p1 p2 p3 B = some (r, B2) := by unfold f_L_tryMove; rw [h]; rfl
theorem tr_tryMove3 {N : Nat} {p1 : Int32} {p2 : Int32} {p3 : Int32} {B B2 : zx_B} {r : Int32} (h : f_X2_move N p1 p2 p3 B = some (r, (3, B2))) : f_L_tryMove N p1 p2 p3 B = some ((-9999001), B2) := by unfold f_L_tryMove; rw [h]; rfl
theorem tr_tryMove1 {N : Nat} {p1 : Int32} {p2 : Int32} {p3 : Int32} {B B2 : zx_B} {r : Int32} (h : f_X2_move N p1 p2 p3 B = some (r, (1, B2))) : f_L_tryMove N p1 p2 p3 B = some ((-9999002), B2) := by unfold f_L_tryMove; rw [h]; rfl
theorem tr_tryMove2 {N : Nat} {p1 : Int32} {p2 : Int32} {p3 : Int32} {B B2 : zx_B} {r : Int32} (h : f_X2_move N p1 p2 p3 B = some (r, (2, B2))) : f_L_tryMove N p1 p2 p3 B = some ((-9999003), B2) := by unfold f_L_tryMove; rw [h]; rfl
theorem tr_tryUndo0 {N : Nat}  {B B2 : zx_B} {r : Int32} (h : f_X2_undo N B = some (r, (0, B2))) : f_L_tryUndo N B = some (r, B2) := by unfold f_L_tryUndo; rw [h]; rfl
theorem tr_tryUndo2 {N : Nat}  {B B2 : zx_B} {r : Int32} (h : f_X2_undo N B = some (r, (2, B2))) : f_L_tryUndo N B = some ((-9999003), B2) := by unfold f_L_tryUndo; rw [h]; rfl
theorem tr_tryNearest0 {N : Nat} {p1 : Int32} {p2 : Int32} {p3 : Int32} {B B2 : zx_B} {r : Int32} (h : f_X2_nearest N p1 p2 p3 B = some (r, (0, B2))) : f_L_tryNearest N p1 p2 p3 B = some (r, B2) := by unfold f_L_tryNearest; rw [h]; rfl
theorem tr_tryNearest1 {N : Nat} {p1 : Int32} {p2 : Int32} {p3 : Int32} {B B2 : zx_B} {r : Int32} (h : f_X2_nearest N p1 p2 p3 B = some (r, (1, B2))) : f_L_tryNearest N p1 p2 p3 B = some ((-9999002), B2) := by unfold f_L_tryNearest; rw [h]; rfl
theorem tr_tryKeep0 {N : Nat} {p1 : Int32} {B B2 : zx_B} {r : Int32} (h : f_X2_save N p1 B = some (r, (0, B2))) : f_L_tryKeep N p1 B = some (r, B2) := by unfold f_L_tryKeep; rw [h]; rfl
theorem tr_tryKeep3 {N : Nat} {p1 : Int32} {B B2 : zx_B} {r : Int32} (h : f_X2_save N p1 B = some (r, (3, B2))) : f_L_tryKeep N p1 B = some ((-9999001), B2) := by unfold f_L_tryKeep; rw [h]; rfl
theorem tr_tryBack0 {N : Nat} {p1 : Int32} {B B2 : zx_B} {r : Int32} (h : f_X2_restore N p1 B = some (r, (0, B2))) : f_L_tryBack N p1 B = some (r, B2) := by unfold f_L_tryBack; rw [h]; rfl
theorem tr_tryBack3 {N : Nat} {p1 : Int32} {B B2 : zx_B} {r : Int32} (h : f_X2_restore N p1 B = some (r, (3, B2))) : f_L_tryBack N p1 B = some ((-9999001), B2) := by unfold f_L_tryBack; rw [h]; rfl
theorem tr_tryBack2 {N : Nat} {p1 : Int32} {B B2 : zx_B} {r : Int32} (h : f_X2_restore N p1 B = some (r, (2, B2))) : f_L_tryBack N p1 B = some ((-9999003), B2) := by unfold f_L_tryBack; rw [h]; rfl
theorem ca_0 {N : Nat} {a b c : Int32} {B : zx_B} : f_L_call N 0 a b c B = f_L_tryAppend N a B := by
  unfold f_L_call
  rw [if_pos (by decide)]
  exact m_b2_id _
theorem ca_1 {N : Nat} {a b c : Int32} {B : zx_B} : f_L_call N 1 a b c B = f_L_tryAbout N a B := by
  unfold f_L_call
  rw [if_neg (by decide), if_pos (by decide)]
  exact m_b2_id _
theorem ca_2 {N : Nat} {a b c : Int32} {B : zx_B} : f_L_call N 2 a b c B = f_L_tryRect N a b B := by
  unfold f_L_call
  rw [if_neg (by decide), if_neg (by decide), if_pos (by decide)]
  exact m_b2_id _
theorem ca_3 {N : Nat} {a b c : Int32} {B : zx_B} : f_L_call N 3 a b c B = f_L_tryNode N a b B := by
  unfold f_L_call
  rw [if_neg (by decide), if_neg (by decide), if_neg (by decide), if_pos (by decide)]
  exact m_b2_id _
theorem ca_4 {N : Nat} {a b c : Int32} {B : zx_B} : f_L_call N 4 a b c B = f_L_tryEntry N a b B := by
  unfold f_L_call
  rw [if_neg (by decide), if_neg (by decide), if_neg (by decide), if_neg (by decide), if_pos (by decide)]
  exact m_b2_id _
theorem ca_5 {N : Nat} {a b c : Int32} {B : zx_B} : f_L_call N 5 a b c B = f_L_tryAddAll N B := by
  unfold f_L_call
  rw [if_neg (by decide), if_neg (by decide), if_neg (by decide), if_neg (by decide), if_neg (by decide), if_pos (by decide)]
  exact m_b2_id _
theorem ca_6 {N : Nat} {a b c : Int32} {B : zx_B} : f_L_call N 6 a b c B = f_L_tryRemove N a B := by
  unfold f_L_call
  rw [if_neg (by decide), if_neg (by decide), if_neg (by decide), if_neg (by decide), if_neg (by decide), if_neg (by decide), if_pos (by decide)]
  exact m_b2_id _
theorem ca_7 {N : Nat} {a b c : Int32} {B : zx_B} : f_L_call N 7 a b c B = f_L_tryMove N a b c B := by
  unfold f_L_call
  rw [if_neg (by decide), if_neg (by decide), if_neg (by decide), if_neg (by decide), if_neg (by decide), if_neg (by decide), if_neg (by decide), if_pos (by decide)]
  exact m_b2_id _
theorem ca_8 {N : Nat} {a b c : Int32} {B : zx_B} : f_L_call N 8 a b c B = f_L_tryUndo N B := by
  unfold f_L_call
  rw [if_neg (by decide), if_neg (by decide), if_neg (by decide), if_neg (by decide), if_neg (by decide), if_neg (by decide), if_neg (by decide), if_neg (by decide), if_pos (by decide)]
  exact m_b2_id _
theorem ca_9 {N : Nat} {a b c : Int32} {B : zx_B} : f_L_call N 9 a b c B = f_L_tryNearest N a b c B := by
  unfold f_L_call
  rw [if_neg (by decide), if_neg (by decide), if_neg (by decide), if_neg (by decide), if_neg (by decide), if_neg (by decide), if_neg (by decide), if_neg (by decide), if_neg (by decide), if_pos (by decide)]
  exact m_b2_id _
theorem ca_10 {N : Nat} {a b c : Int32} {B : zx_B} : f_L_call N 10 a b c B = f_L_tryKeep N a B := by
  unfold f_L_call
  rw [if_neg (by decide), if_neg (by decide), if_neg (by decide), if_neg (by decide), if_neg (by decide), if_neg (by decide), if_neg (by decide), if_neg (by decide), if_neg (by decide), if_neg (by decide), if_pos (by decide)]
  exact m_b2_id _
theorem ca_11 {N : Nat} {a b c : Int32} {B : zx_B} : f_L_call N 11 a b c B = f_L_tryBack N a B := by
  unfold f_L_call
  rw [if_neg (by decide), if_neg (by decide), if_neg (by decide), if_neg (by decide), if_neg (by decide), if_neg (by decide), if_neg (by decide), if_neg (by decide), if_neg (by decide), if_neg (by decide), if_neg (by decide)]
  exact m_b2_id _
