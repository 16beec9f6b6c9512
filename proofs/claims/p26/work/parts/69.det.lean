/-! calls are functions of the ghost -/
def zdet (g : zx_B → Option (Int32 × zx_B)) (S : zx_S) : Prop := ∃ v S2, ∀ B, ZInv B S → ∃ B', g B = some (v, B') ∧ ZInv B' S2
theorem zdet_ret {S : zx_S} (v : Int32) : zdet (fun B => some (v, B)) S := ⟨v, S, fun B h => ⟨B, rfl, h⟩⟩
theorem zdet_bind {S : zx_S} {g : zx_B → Option (Int32 × zx_B)} {k : Int32 → zx_B → Option (Int32 × zx_B)} (h : zdet g S) (hk : ∀ v S2, zdet (k v) S2) : zdet (fun B => zx_b2 (g B) (fun v B' => k v B')) S := by
  obtain ⟨v, S1, h1⟩ := h
  obtain ⟨v2, S2, h2⟩ := hk v S1
  refine ⟨v2, S2, fun B hB => ?_⟩
  obtain ⟨B1, e1, i1⟩ := h1 B hB
  obtain ⟨B2, e2, i2⟩ := h2 B1 i1
  exact ⟨B2, by show zx_b2 (g B) _ = _; rw [e1, m_b2]; exact e2, i2⟩
theorem zdet_pair {S : zx_S} {g : zx_B → Option (Int32 × zx_B)} (h : zdet g S) {B C : zx_B} (hB : ZInv B S) (hC : ZInv C S) : ∃ v B' C' S', g B = some (v, B') ∧ g C = some (v, C') ∧ ZInv B' S' ∧ ZInv C' S' := by
  obtain ⟨v, S1, h1⟩ := h
  obtain ⟨B1, e1, i1⟩ := h1 B hB
  obtain ⟨C1, e2, i2⟩ := h1 C hC
  exact ⟨v, B1, C1, S1, e1, e2, i1, i2⟩
theorem u_tryAdd {N : Nat} (hN : 6000 < N) {S : zx_S} (p1 : Int32) (p2 : Int32) (p3 : Int32) (p4 : Int32) : zdet (f_L_tryAdd N p1 p2 p3 p4) S := by
  by_cases h : ∃ B0, ZInv B0 S
  · obtain ⟨B0, h0⟩ := h
    obtain ⟨_, r, S2, _, hs, _⟩ := op_add (N := N) hN p1 p2 p3 p4 B0 S h0
    refine ⟨if S2 12 0 = 0 then r else (if S2 12 0 = 1 then (-9999002) else (if S2 12 0 = 2 then (-9999003) else r)), S2, fun B hB => ?_⟩
    obtain ⟨R, r', S2', e1, e2, e3, e4⟩ := op_add (N := N) hN p1 p2 p3 p4 B S hB
    have e5 := Option.some.inj (hs.symm.trans e2)
    obtain ⟨rfl, rfl⟩ := Prod.mk.inj e5
    refine ⟨R.2.2, ?_, e3⟩
    unfold f_L_tryAdd
    rw [e1, m_b1]
    rcases e4 with ⟨k1, k2, k3⟩ | ⟨k1, k2⟩ | ⟨k1, k2⟩
    · rw [if_pos k1, if_pos k2, k3]
    · rw [if_neg (by rw [k1]; decide), if_pos k1, if_neg (by rw [k2]; decide), if_pos k2]
    · rw [if_neg (by rw [k1]; decide), if_neg (by rw [k1]; decide), if_pos k1, if_neg (by rw [k2]; decide), if_neg (by rw [k2]; decide), if_pos k2]
  · exact ⟨0, S, fun B hB => absurd ⟨B, hB⟩ h⟩
theorem u_tryWindow {N : Nat} (hN : 6000 < N) {S : zx_S} (p1 : Int32) (p2 : Int32) (p3 : Int32) (p4 : Int32) : zdet (f_L_tryWindow N p1 p2 p3 p4) S := by
  by_cases h : ∃ B0, ZInv B0 S
  · obtain ⟨B0, h0⟩ := h
    obtain ⟨_, r, S2, _, hs, _⟩ := op_window (N := N) (by omega) p1 p2 p3 p4 B0 S h0
    refine ⟨if S2 12 0 = 0 then r else (if S2 12 0 = 1 then (-9999002) else (if S2 12 0 = 2 then r else r)), S2, fun B hB => ?_⟩
    obtain ⟨R, r', S2', e1, e2, e3, e4⟩ := op_window (N := N) (by omega) p1 p2 p3 p4 B S hB
    have e5 := Option.some.inj (hs.symm.trans e2)
    obtain ⟨rfl, rfl⟩ := Prod.mk.inj e5
    refine ⟨R.2.2, ?_, e3⟩
    unfold f_L_tryWindow
    rw [e1, m_b1]
    rcases e4 with ⟨k1, k2, k3⟩ | ⟨k1, k2⟩
    · rw [if_pos k1, if_pos k2, k3]
    · rw [if_neg (by rw [k1]; decide), if_pos k1, if_neg (by rw [k2]; decide), if_pos k2]
  · exact ⟨0, S, fun B hB => absurd ⟨B, hB⟩ h⟩
theorem u_tryLooks {N : Nat} (hN : 6000 < N) {S : zx_S} (p1 : Int32) (p2 : Int32) (p3 : Int32) (p4 : Int32) : zdet (f_L_tryLooks N p1 p2 p3 p4) S := by
  by_cases h : ∃ B0, ZInv B0 S
  · obtain ⟨B0, h0⟩ := h
    obtain ⟨_, r, S2, _, hs, _⟩ := op_looks (N := N) (by omega) p1 p2 p3 p4 B0 S h0
    refine ⟨if S2 12 0 = 0 then r else (if S2 12 0 = 1 then (-9999002) else (if S2 12 0 = 2 then r else r)), S2, fun B hB => ?_⟩
    obtain ⟨R, r', S2', e1, e2, e3, e4⟩ := op_looks (N := N) (by omega) p1 p2 p3 p4 B S hB
    have e5 := Option.some.inj (hs.symm.trans e2)
    obtain ⟨rfl, rfl⟩ := Prod.mk.inj e5
    refine ⟨R.2.2, ?_, e3⟩
    unfold f_L_tryLooks
    rw [e1, m_b1]
    rcases e4 with ⟨k1, k2, k3⟩ | ⟨k1, k2⟩
    · rw [if_pos k1, if_pos k2, k3]
    · rw [if_neg (by rw [k1]; decide), if_pos k1, if_neg (by rw [k2]; decide), if_pos k2]
  · exact ⟨0, S, fun B hB => absurd ⟨B, hB⟩ h⟩
theorem u_tryChosen {N : Nat} (hN : 6000 < N) {S : zx_S} (p1 : Int32) (p2 : Int32) (p3 : Int32) (p4 : Int32) : zdet (f_L_tryChosen N p1 p2 p3 p4) S := by
  by_cases h : ∃ B0, ZInv B0 S
  · obtain ⟨B0, h0⟩ := h
    obtain ⟨_, r, S2, _, hs, _⟩ := op_chosen (N := N) (by omega) p1 p2 p3 p4 B0 S h0
    refine ⟨if S2 12 0 = 0 then r else (if S2 12 0 = 1 then (-9999002) else (if S2 12 0 = 2 then r else r)), S2, fun B hB => ?_⟩
    obtain ⟨R, r', S2', e1, e2, e3, e4⟩ := op_chosen (N := N) (by omega) p1 p2 p3 p4 B S hB
    have e5 := Option.some.inj (hs.symm.trans e2)
    obtain ⟨rfl, rfl⟩ := Prod.mk.inj e5
    refine ⟨R.2.2, ?_, e3⟩
    unfold f_L_tryChosen
    rw [e1, m_b1]
    rcases e4 with ⟨k1, k2, k3⟩ | ⟨k1, k2⟩
    · rw [if_pos k1, if_pos k2, k3]
    · rw [if_neg (by rw [k1]; decide), if_pos k1, if_neg (by rw [k2]; decide), if_pos k2]
  · exact ⟨0, S, fun B hB => absurd ⟨B, hB⟩ h⟩
theorem u_tryIfAdded {N : Nat} (hN : 6000 < N) {S : zx_S} (p1 : Int32) (p2 : Int32) (p3 : Int32) (p4 : Int32) : zdet (f_L_tryIfAdded N p1 p2 p3 p4) S := by
  by_cases h : ∃ B0, ZInv B0 S
  · obtain ⟨B0, h0⟩ := h
    obtain ⟨_, r, S2, _, hs, _⟩ := op_ifAdded (N := N) hN p1 p2 p3 p4 B0 S h0
    refine ⟨if S2 12 0 = 0 then r else (if S2 12 0 = 1 then (-9999002) else (if S2 12 0 = 2 then r else r)), S2, fun B hB => ?_⟩
    obtain ⟨R, r', S2', e1, e2, e3, e4⟩ := op_ifAdded (N := N) hN p1 p2 p3 p4 B S hB
    have e5 := Option.some.inj (hs.symm.trans e2)
    obtain ⟨rfl, rfl⟩ := Prod.mk.inj e5
    refine ⟨R.2.2, ?_, e3⟩
    unfold f_L_tryIfAdded
    rw [e1, m_b1]
    rcases e4 with ⟨k1, k2, k3⟩ | ⟨k1, k2⟩
    · rw [if_pos k1, if_pos k2, k3]
    · rw [if_neg (by rw [k1]; decide), if_pos k1, if_neg (by rw [k2]; decide), if_pos k2]
  · exact ⟨0, S, fun B hB => absurd ⟨B, hB⟩ h⟩
theorem u_tryScript {N : Nat} (hN : 6000 < N) {S : zx_S} (p1 : Int32) (p2 : Int64) : zdet (f_L_tryScript N p1 p2) S := by
  by_cases h : ∃ B0, ZInv B0 S
  · obtain ⟨B0, h0⟩ := h
    obtain ⟨_, r, S2, _, hs, _⟩ := op_runScript (N := N) hN p1 p2 B0 S h0
    refine ⟨if S2 12 0 = 0 then r else (if S2 12 0 = 1 then (-9999002) else (if S2 12 0 = 2 then r else r)), S2, fun B hB => ?_⟩
    obtain ⟨R, r', S2', e1, e2, e3, e4⟩ := op_runScript (N := N) hN p1 p2 B S hB
    have e5 := Option.some.inj (hs.symm.trans e2)
    obtain ⟨rfl, rfl⟩ := Prod.mk.inj e5
    refine ⟨R.2.2, ?_, e3⟩
    unfold f_L_tryScript
    rw [e1, m_b1]
    rcases e4 with ⟨k1, k2, k3⟩ | ⟨k1, k2⟩
    · rw [if_pos k1, if_pos k2, k3]
    · rw [if_neg (by rw [k1]; decide), if_pos k1, if_neg (by rw [k2]; decide), if_pos k2]
  · exact ⟨0, S, fun B hB => absurd ⟨B, hB⟩ h⟩
theorem u_trySimulate {N : Nat} (hN : 6000 < N) {S : zx_S} (p1 : Int64) (p3 : Int32) : zdet (f_L_trySimulate N p1 p3) S := by
  by_cases h : ∃ B0, ZInv B0 S
  · obtain ⟨B0, h0⟩ := h
    obtain ⟨_, r, S2, _, hs, _⟩ := op_simulate (N := N) hN p1 p3 B0 S h0
    refine ⟨if S2 12 0 = 0 then r else (if S2 12 0 = 1 then (-9999002) else (if S2 12 0 = 2 then r else r)), S2, fun B hB => ?_⟩
    obtain ⟨R, r', S2', e1, e2, e3, e4⟩ := op_simulate (N := N) hN p1 p3 B S hB
    have e5 := Option.some.inj (hs.symm.trans e2)
    obtain ⟨rfl, rfl⟩ := Prod.mk.inj e5
    refine ⟨R.2.2, ?_, e3⟩
    unfold f_L_trySimulate
    rw [e1, m_b1]
    rcases e4 with ⟨k1, k2, k3⟩ | ⟨k1, k2⟩
    · rw [if_pos k1, if_pos k2, k3]
    · rw [if_neg (by rw [k1]; decide), if_pos k1, if_neg (by rw [k2]; decide), if_pos k2]
  · exact ⟨0, S, fun B hB => absurd ⟨B, hB⟩ h⟩
theorem u_tryAppend {N : Nat} (hN : 6000 < N) {S : zx_S} (p1 : Int32) : zdet (f_L_tryAppend N p1) S := by
  by_cases h : ∃ B0, ZInv B0 S
  · obtain ⟨B0, h0⟩ := h
    obtain ⟨_, r, S2, _, hs, _⟩ := op_append N p1 B0 S h0
    refine ⟨if S2 12 0 = 0 then r else (if S2 12 0 = 1 then (-9999002) else (if S2 12 0 = 2 then (-9999003) else r)), S2, fun B hB => ?_⟩
    obtain ⟨R, r', S2', e1, e2, e3, e4⟩ := op_append N p1 B S hB
    have e5 := Option.some.inj (hs.symm.trans e2)
    obtain ⟨rfl, rfl⟩ := Prod.mk.inj e5
    refine ⟨R.2.2, ?_, e3⟩
    unfold f_L_tryAppend
    rw [e1, m_b1]
    rcases e4 with ⟨k1, k2, k3⟩ | ⟨k1, k2⟩ | ⟨k1, k2⟩
    · rw [if_pos k1, if_pos k2, k3]
    · rw [if_neg (by rw [k1]; decide), if_pos k1, if_neg (by rw [k2]; decide), if_pos k2]
    · rw [if_neg (by rw [k1]; decide), if_neg (by rw [k1]; decide), if_pos k1, if_neg (by rw [k2]; decide), if_neg (by rw [k2]; decide), if_pos k2]
  · exact ⟨0, S, fun B hB => absurd ⟨B, hB⟩ h⟩
theorem u_tryAbout {N : Nat} (hN : 6000 < N) {S : zx_S} (p1 : Int32) : zdet (f_L_tryAbout N p1) S := by
  by_cases h : ∃ B0, ZInv B0 S
  · obtain ⟨B0, h0⟩ := h
    obtain ⟨_, r, S2, _, hs, _⟩ := op_about (N := N) (by omega) p1 B0 S h0
    refine ⟨if S2 12 0 = 0 then r else (if S2 12 0 = 1 then (-9999002) else (if S2 12 0 = 2 then r else r)), S2, fun B hB => ?_⟩
    obtain ⟨R, r', S2', e1, e2, e3, e4⟩ := op_about (N := N) (by omega) p1 B S hB
    have e5 := Option.some.inj (hs.symm.trans e2)
    obtain ⟨rfl, rfl⟩ := Prod.mk.inj e5
    refine ⟨R.2.2, ?_, e3⟩
    unfold f_L_tryAbout
    rw [e1, m_b1]
    rcases e4 with ⟨k1, k2, k3⟩ | ⟨k1, k2⟩
    · rw [if_pos k1, if_pos k2, k3]
    · rw [if_neg (by rw [k1]; decide), if_pos k1, if_neg (by rw [k2]; decide), if_pos k2]
  · exact ⟨0, S, fun B hB => absurd ⟨B, hB⟩ h⟩
theorem u_tryRect {N : Nat} (hN : 6000 < N) {S : zx_S} (p1 : Int32) (p2 : Int32) : zdet (f_L_tryRect N p1 p2) S := by
  by_cases h : ∃ B0, ZInv B0 S
  · obtain ⟨B0, h0⟩ := h
    obtain ⟨_, r, S2, _, hs, _⟩ := op_rectangle (N := N) (by omega) p1 p2 B0 S h0
    refine ⟨if S2 12 0 = 0 then r else (if S2 12 0 = 1 then (-9999001) else (if S2 12 0 = 2 then (-9999002) else r)), S2, fun B hB => ?_⟩
    obtain ⟨R, r', S2', e1, e2, e3, e4⟩ := op_rectangle (N := N) (by omega) p1 p2 B S hB
    have e5 := Option.some.inj (hs.symm.trans e2)
    obtain ⟨rfl, rfl⟩ := Prod.mk.inj e5
    refine ⟨R.2.2, ?_, e3⟩
    unfold f_L_tryRect
    rw [e1, m_b1]
    rcases e4 with ⟨k1, k2, k3⟩ | ⟨k1, k2⟩ | ⟨k1, k2⟩
    · rw [if_pos k1, if_pos k2, k3]
    · rw [if_neg (by rw [k1]; decide), if_pos k1, if_neg (by rw [k2]; decide), if_pos k2]
    · rw [if_neg (by rw [k1]; decide), if_neg (by rw [k1]; decide), if_pos k1, if_neg (by rw [k2]; decide), if_neg (by rw [k2]; decide), if_pos k2]
  · exact ⟨0, S, fun B hB => absurd ⟨B, hB⟩ h⟩
theorem u_tryNode {N : Nat} (hN : 6000 < N) {S : zx_S} (p1 : Int32) (p2 : Int32) : zdet (f_L_tryNode N p1 p2) S := by
  by_cases h : ∃ B0, ZInv B0 S
  · obtain ⟨B0, h0⟩ := h
    obtain ⟨_, r, S2, _, hs, _⟩ := op_node (N := N) (by omega) p1 p2 B0 S h0
    refine ⟨if S2 12 0 = 0 then r else (if S2 12 0 = 1 then (-9999001) else (if S2 12 0 = 2 then (-9999002) else r)), S2, fun B hB => ?_⟩
    obtain ⟨R, r', S2', e1, e2, e3, e4⟩ := op_node (N := N) (by omega) p1 p2 B S hB
    have e5 := Option.some.inj (hs.symm.trans e2)
    obtain ⟨rfl, rfl⟩ := Prod.mk.inj e5
    refine ⟨R.2.2, ?_, e3⟩
    unfold f_L_tryNode
    rw [e1, m_b1]
    rcases e4 with ⟨k1, k2, k3⟩ | ⟨k1, k2⟩ | ⟨k1, k2⟩
    · rw [if_pos k1, if_pos k2, k3]
    · rw [if_neg (by rw [k1]; decide), if_pos k1, if_neg (by rw [k2]; decide), if_pos k2]
    · rw [if_neg (by rw [k1]; decide), if_neg (by rw [k1]; decide), if_pos k1, if_neg (by rw [k2]; decide), if_neg (by rw [k2]; decide), if_pos k2]
  · exact ⟨0, S, fun B hB => absurd ⟨B, hB⟩ h⟩
theorem u_tryEntry {N : Nat} (hN : 6000 < N) {S : zx_S} (p1 : Int32) (p2 : Int32) : zdet (f_L_tryEntry N p1 p2) S := by
  by_cases h : ∃ B0, ZInv B0 S
  · obtain ⟨B0, h0⟩ := h
    obtain ⟨_, r, S2, _, hs, _⟩ := op_entry (N := N) (by omega) p1 p2 B0 S h0
    refine ⟨if S2 12 0 = 0 then r else (if S2 12 0 = 1 then (-9999001) else (if S2 12 0 = 2 then (-9999002) else r)), S2, fun B hB => ?_⟩
    obtain ⟨R, r', S2', e1, e2, e3, e4⟩ := op_entry (N := N) (by omega) p1 p2 B S hB
    have e5 := Option.some.inj (hs.symm.trans e2)
    obtain ⟨rfl, rfl⟩ := Prod.mk.inj e5
    refine ⟨R.2.2, ?_, e3⟩
    unfold f_L_tryEntry
    rw [e1, m_b1]
    rcases e4 with ⟨k1, k2, k3⟩ | ⟨k1, k2⟩ | ⟨k1, k2⟩
    · rw [if_pos k1, if_pos k2, k3]
    · rw [if_neg (by rw [k1]; decide), if_pos k1, if_neg (by rw [k2]; decide), if_pos k2]
    · rw [if_neg (by rw [k1]; decide), if_neg (by rw [k1]; decide), if_pos k1, if_neg (by rw [k2]; decide), if_neg (by rw [k2]; decide), if_pos k2]
  · exact ⟨0, S, fun B hB => absurd ⟨B, hB⟩ h⟩
theorem u_tryAddAll {N : Nat} (hN : 6000 < N) {S : zx_S} : zdet (f_L_tryAddAll N) S := by
  by_cases h : ∃ B0, ZInv B0 S
  · obtain ⟨B0, h0⟩ := h
    obtain ⟨_, r, S2, _, hs, _⟩ := op_addAll (N := N) hN B0 S h0
    refine ⟨if S2 12 0 = 0 then r else (if S2 12 0 = 1 then (-9999003) else (if S2 12 0 = 2 then r else r)), S2, fun B hB => ?_⟩
    obtain ⟨R, r', S2', e1, e2, e3, e4⟩ := op_addAll (N := N) hN B S hB
    have e5 := Option.some.inj (hs.symm.trans e2)
    obtain ⟨rfl, rfl⟩ := Prod.mk.inj e5
    refine ⟨R.2.2, ?_, e3⟩
    unfold f_L_tryAddAll
    rw [e1, m_b1]
    rcases e4 with ⟨k1, k2, k3⟩ | ⟨k1, k2⟩
    · rw [if_pos k1, if_pos k2, k3]
    · rw [if_neg (by rw [k1]; decide), if_pos k1, if_neg (by rw [k2]; decide), if_pos k2]
  · exact ⟨0, S, fun B hB => absurd ⟨B, hB⟩ h⟩
theorem u_tryRemove {N : Nat} (hN : 6000 < N) {S : zx_S} (p1 : Int32) : zdet (f_L_tryRemove N p1) S := by
  by_cases h : ∃ B0, ZInv B0 S
  · obtain ⟨B0, h0⟩ := h
    obtain ⟨_, r, S2, _, hs, _⟩ := op_remove (N := N) hN p1 B0 S h0
    refine ⟨if S2 12 0 = 0 then r else (if S2 12 0 = 1 then (-9999001) else (if S2 12 0 = 2 then r else r)), S2, fun B hB => ?_⟩
    obtain ⟨R, r', S2', e1, e2, e3, e4⟩ := op_remove (N := N) hN p1 B S hB
    have e5 := Option.some.inj (hs.symm.trans e2)
    obtain ⟨rfl, rfl⟩ := Prod.mk.inj e5
    refine ⟨R.2.2, ?_, e3⟩
    unfold f_L_tryRemove
    rw [e1, m_b1]
    rcases e4 with ⟨k1, k2, k3⟩ | ⟨k1, k2⟩
    · rw [if_pos k1, if_pos k2, k3]
    · rw [if_neg (by rw [k1]; decide), if_pos k1, if_neg (by rw [k2]; decide), if_pos k2]
  · exact ⟨0, S, fun B hB => absurd ⟨B, hB⟩ h⟩
theorem u_tryMove {N : Nat} (hN : 6000 < N) {S : zx_S} (p1 : Int32) (p2 : Int32) (p3 : Int32) : zdet (f_L_tryMove N p1 p2 p3) S := by
  by_cases h : ∃ B0, ZInv B0 S
  · obtain ⟨B0, h0⟩ := h
    obtain ⟨_, r, S2, _, hs, _⟩ := op_move (N := N) hN p1 p2 p3 B0 S h0
    refine ⟨if S2 12 0 = 0 then r else (if S2 12 0 = 1 then (-9999001) else (if S2 12 0 = 2 then (-9999002) else (-9999003))), S2, fun B hB => ?_⟩
    obtain ⟨R, r', S2', e1, e2, e3, e4⟩ := op_move (N := N) hN p1 p2 p3 B S hB
    have e5 := Option.some.inj (hs.symm.trans e2)
    obtain ⟨rfl, rfl⟩ := Prod.mk.inj e5
    refine ⟨R.2.2, ?_, e3⟩
    unfold f_L_tryMove
    rw [e1, m_b1]
    rcases e4 with ⟨k1, k2, k3⟩ | ⟨k1, k2⟩ | ⟨k1, k2⟩ | ⟨k1, k2⟩
    · rw [if_pos k1, if_pos k2, k3]
    · rw [if_neg (by rw [k1]; decide), if_pos k1, if_neg (by rw [k2]; decide), if_pos k2]
    · rw [if_neg (by rw [k1]; decide), if_neg (by rw [k1]; decide), if_pos k1, if_neg (by rw [k2]; decide), if_neg (by rw [k2]; decide), if_pos k2]
    · rw [if_neg (by rw [k1]; decide), if_neg (by rw [k1]; decide), if_neg (by rw [k1]; decide), if_pos k1, if_neg (by rw [k2]; decide), if_neg (by rw [k2]; decide), if_neg (by rw [k2]; decide)]
  · exact ⟨0, S, fun B hB => absurd ⟨B, hB⟩ h⟩
theorem u_tryUndo {N : Nat} (hN : 6000 < N) {S : zx_S} : zdet (f_L_tryUndo N) S := by
  by_cases h : ∃ B0, ZInv B0 S
  · obtain ⟨B0, h0⟩ := h
    obtain ⟨_, r, S2, _, hs, _⟩ := op_undo (N := N) hN B0 S h0
    refine ⟨if S2 12 0 = 0 then r else (if S2 12 0 = 1 then (-9999003) else (if S2 12 0 = 2 then r else r)), S2, fun B hB => ?_⟩
    obtain ⟨R, r', S2', e1, e2, e3, e4⟩ := op_undo (N := N) hN B S hB
    have e5 := Option.some.inj (hs.symm.trans e2)
    obtain ⟨rfl, rfl⟩ := Prod.mk.inj e5
    refine ⟨R.2.2, ?_, e3⟩
    unfold f_L_tryUndo
    rw [e1, m_b1]
    rcases e4 with ⟨k1, k2, k3⟩ | ⟨k1, k2⟩
    · rw [if_pos k1, if_pos k2, k3]
    · rw [if_neg (by rw [k1]; decide), if_pos k1, if_neg (by rw [k2]; decide), if_pos k2]
  · exact ⟨0, S, fun B hB => absurd ⟨B, hB⟩ h⟩
theorem u_tryNearest {N : Nat} (hN : 6000 < N) {S : zx_S} (p1 : Int32) (p2 : Int32) (p3 : Int32) : zdet (f_L_tryNearest N p1 p2 p3) S := by
  by_cases h : ∃ B0, ZInv B0 S
  · obtain ⟨B0, h0⟩ := h
    obtain ⟨_, r, S2, _, hs, _⟩ := op_nearest (N := N) (by omega) p1 p2 p3 B0 S h0
    refine ⟨if S2 12 0 = 0 then r else (if S2 12 0 = 1 then (-9999002) else (if S2 12 0 = 2 then r else r)), S2, fun B hB => ?_⟩
    obtain ⟨R, r', S2', e1, e2, e3, e4⟩ := op_nearest (N := N) (by omega) p1 p2 p3 B S hB
    have e5 := Option.some.inj (hs.symm.trans e2)
    obtain ⟨rfl, rfl⟩ := Prod.mk.inj e5
    refine ⟨R.2.2, ?_, e3⟩
    unfold f_L_tryNearest
    rw [e1, m_b1]
    rcases e4 with ⟨k1, k2, k3⟩ | ⟨k1, k2⟩
    · rw [if_pos k1, if_pos k2, k3]
    · rw [if_neg (by rw [k1]; decide), if_pos k1, if_neg (by rw [k2]; decide), if_pos k2]
  · exact ⟨0, S, fun B hB => absurd ⟨B, hB⟩ h⟩
theorem u_tryKeep {N : Nat} (hN : 6000 < N) {S : zx_S} (p1 : Int32) : zdet (f_L_tryKeep N p1) S := by
  by_cases h : ∃ B0, ZInv B0 S
  · obtain ⟨B0, h0⟩ := h
    obtain ⟨_, r, S2, _, hs, _⟩ := op_save (N := N) hN p1 B0 S h0
    refine ⟨if S2 12 0 = 0 then r else (if S2 12 0 = 1 then (-9999001) else (if S2 12 0 = 2 then r else r)), S2, fun B hB => ?_⟩
    obtain ⟨R, r', S2', e1, e2, e3, e4⟩ := op_save (N := N) hN p1 B S hB
    have e5 := Option.some.inj (hs.symm.trans e2)
    obtain ⟨rfl, rfl⟩ := Prod.mk.inj e5
    refine ⟨R.2.2, ?_, e3⟩
    unfold f_L_tryKeep
    rw [e1, m_b1]
    rcases e4 with ⟨k1, k2, k3⟩ | ⟨k1, k2⟩
    · rw [if_pos k1, if_pos k2, k3]
    · rw [if_neg (by rw [k1]; decide), if_pos k1, if_neg (by rw [k2]; decide), if_pos k2]
  · exact ⟨0, S, fun B hB => absurd ⟨B, hB⟩ h⟩
theorem u_tryBack {N : Nat} (hN : 6000 < N) {S : zx_S} (p1 : Int32) : zdet (f_L_tryBack N p1) S := by
  by_cases h : ∃ B0, ZInv B0 S
  · obtain ⟨B0, h0⟩ := h
    obtain ⟨_, r, S2, _, hs, _⟩ := op_restore (N := N) hN p1 B0 S h0
    refine ⟨if S2 12 0 = 0 then r else (if S2 12 0 = 1 then (-9999001) else (if S2 12 0 = 2 then (-9999003) else r)), S2, fun B hB => ?_⟩
    obtain ⟨R, r', S2', e1, e2, e3, e4⟩ := op_restore (N := N) hN p1 B S hB
    have e5 := Option.some.inj (hs.symm.trans e2)
    obtain ⟨rfl, rfl⟩ := Prod.mk.inj e5
    refine ⟨R.2.2, ?_, e3⟩
    unfold f_L_tryBack
    rw [e1, m_b1]
    rcases e4 with ⟨k1, k2, k3⟩ | ⟨k1, k2⟩ | ⟨k1, k2⟩
    · rw [if_pos k1, if_pos k2, k3]
    · rw [if_neg (by rw [k1]; decide), if_pos k1, if_neg (by rw [k2]; decide), if_pos k2]
    · rw [if_neg (by rw [k1]; decide), if_neg (by rw [k1]; decide), if_pos k1, if_neg (by rw [k2]; decide), if_neg (by rw [k2]; decide), if_pos k2]
  · exact ⟨0, S, fun B hB => absurd ⟨B, hB⟩ h⟩
theorem u_clearText {N : Nat} (hN : 6000 < N) {S : zx_S} : zdet (f_X2_clearText N) S := by
  by_cases h : ∃ B0, ZInv B0 S
  · obtain ⟨B0, h0⟩ := h
    obtain ⟨r, _, S2, _, hs, _⟩ := op_clearText N B0 S h0
    refine ⟨r, S2, fun B hB => ?_⟩
    obtain ⟨r', B2, S2', e1, e2, e3⟩ := op_clearText N B S hB
    have e5 := Option.some.inj (hs.symm.trans e2)
    obtain ⟨rfl, rfl⟩ := Prod.mk.inj e5
    exact ⟨B2, e1, e3⟩
  · exact ⟨0, S, fun B hB => absurd ⟨B, hB⟩ h⟩
theorem u_errorPosition {N : Nat} (hN : 6000 < N) {S : zx_S} : zdet (f_X2_errorPosition N) S := by
  by_cases h : ∃ B0, ZInv B0 S
  · obtain ⟨B0, h0⟩ := h
    obtain ⟨r, _, S2, _, hs, _⟩ := op_errorPosition (N := N) hN B0 S h0
    refine ⟨r, S2, fun B hB => ?_⟩
    obtain ⟨r', B2, S2', e1, e2, e3⟩ := op_errorPosition (N := N) hN B S hB
    have e5 := Option.some.inj (hs.symm.trans e2)
    obtain ⟨rfl, rfl⟩ := Prod.mk.inj e5
    exact ⟨B2, e1, e3⟩
  · exact ⟨0, S, fun B hB => absurd ⟨B, hB⟩ h⟩
theorem u_bestRemoval {N : Nat} (hN : 6000 < N) {S : zx_S} : zdet (f_X2_bestRemoval N) S := by
  by_cases h : ∃ B0, ZInv B0 S
  · obtain ⟨B0, h0⟩ := h
    obtain ⟨r, _, S2, _, hs, _⟩ := op_bestRemoval (N := N) hN B0 S h0
    refine ⟨r, S2, fun B hB => ?_⟩
    obtain ⟨r', B2, S2', e1, e2, e3⟩ := op_bestRemoval (N := N) hN B S hB
    have e5 := Option.some.inj (hs.symm.trans e2)
    obtain ⟨rfl, rfl⟩ := Prod.mk.inj e5
    exact ⟨B2, e1, e3⟩
  · exact ⟨0, S, fun B hB => absurd ⟨B, hB⟩ h⟩
theorem u_anew {N : Nat} (hN : 6000 < N) {S : zx_S} : zdet (f_X2_anew N) S := by
  by_cases h : ∃ B0, ZInv B0 S
  · obtain ⟨B0, h0⟩ := h
    obtain ⟨r, _, S2, _, hs, _⟩ := op_anew (N := N) hN B0 S h0
    refine ⟨r, S2, fun B hB => ?_⟩
    obtain ⟨r', B2, S2', e1, e2, e3⟩ := op_anew (N := N) hN B S hB
    have e5 := Option.some.inj (hs.symm.trans e2)
    obtain ⟨rfl, rfl⟩ := Prod.mk.inj e5
    exact ⟨B2, e1, e3⟩
  · exact ⟨0, S, fun B hB => absurd ⟨B, hB⟩ h⟩
theorem u_call {N : Nat} (hN : 6000 < N) {S : zx_S} (w a b c : Int32) : zdet (f_L_call N w a b c) S := by
  show zdet (fun B => f_L_call N w a b c B) S
  unfold f_L_call
  by_cases c0 : w = 0
  · rw [show (fun B => _) = (fun B => zx_b2 (f_L_tryAppend N a B) (fun x T => some (x, T))) from funext (fun B => by rw [if_pos c0])]
    exact zdet_bind (u_tryAppend hN a) (fun v S2 => zdet_ret v)
  by_cases c1 : w = 1
  · rw [show (fun B => _) = (fun B => zx_b2 (f_L_tryAbout N a B) (fun x T => some (x, T))) from funext (fun B => by rw [if_neg c0, if_pos c1])]
    exact zdet_bind (u_tryAbout hN a) (fun v S2 => zdet_ret v)
  by_cases c2 : w = 2
  · rw [show (fun B => _) = (fun B => zx_b2 (f_L_tryRect N a b B) (fun x T => some (x, T))) from funext (fun B => by rw [if_neg c0, if_neg c1, if_pos c2])]
    exact zdet_bind (u_tryRect hN a b) (fun v S2 => zdet_ret v)
  by_cases c3 : w = 3
  · rw [show (fun B => _) = (fun B => zx_b2 (f_L_tryNode N a b B) (fun x T => some (x, T))) from funext (fun B => by rw [if_neg c0, if_neg c1, if_neg c2, if_pos c3])]
    exact zdet_bind (u_tryNode hN a b) (fun v S2 => zdet_ret v)
  by_cases c4 : w = 4
  · rw [show (fun B => _) = (fun B => zx_b2 (f_L_tryEntry N a b B) (fun x T => some (x, T))) from funext (fun B => by rw [if_neg c0, if_neg c1, if_neg c2, if_neg c3, if_pos c4])]
    exact zdet_bind (u_tryEntry hN a b) (fun v S2 => zdet_ret v)
  by_cases c5 : w = 5
  · rw [show (fun B => _) = (fun B => zx_b2 (f_L_tryAddAll N B) (fun x T => some (x, T))) from funext (fun B => by rw [if_neg c0, if_neg c1, if_neg c2, if_neg c3, if_neg c4, if_pos c5])]
    exact zdet_bind (u_tryAddAll hN ) (fun v S2 => zdet_ret v)
  by_cases c6 : w = 6
  · rw [show (fun B => _) = (fun B => zx_b2 (f_L_tryRemove N a B) (fun x T => some (x, T))) from funext (fun B => by rw [if_neg c0, if_neg c1, if_neg c2, if_neg c3, if_neg c4, if_neg c5, if_pos c6])]
    exact zdet_bind (u_tryRemove hN a) (fun v S2 => zdet_ret v)
  by_cases c7 : w = 7
  · rw [show (fun B => _) = (fun B => zx_b2 (f_L_tryMove N a b c B) (fun x T => some (x, T))) from funext (fun B => by rw [if_neg c0, if_neg c1, if_neg c2, if_neg c3, if_neg c4, if_neg c5, if_neg c6, if_pos c7])]
    exact zdet_bind (u_tryMove hN a b c) (fun v S2 => zdet_ret v)
  by_cases c8 : w = 8
  · rw [show (fun B => _) = (fun B => zx_b2 (f_L_tryUndo N B) (fun x T => some (x, T))) from funext (fun B => by rw [if_neg c0, if_neg c1, if_neg c2, if_neg c3, if_neg c4, if_neg c5, if_neg c6, if_neg c7, if_pos c8])]
    exact zdet_bind (u_tryUndo hN ) (fun v S2 => zdet_ret v)
  by_cases c9 : w = 9
  · rw [show (fun B => _) = (fun B => zx_b2 (f_L_tryNearest N a b c B) (fun x T => some (x, T))) from funext (fun B => by rw [if_neg c0, if_neg c1, if_neg c2, if_neg c3, if_neg c4, if_neg c5, if_neg c6, if_neg c7, if_neg c8, if_pos c9])]
    exact zdet_bind (u_tryNearest hN a b c) (fun v S2 => zdet_ret v)
  by_cases c10 : w = 10
  · rw [show (fun B => _) = (fun B => zx_b2 (f_L_tryKeep N a B) (fun x T => some (x, T))) from funext (fun B => by rw [if_neg c0, if_neg c1, if_neg c2, if_neg c3, if_neg c4, if_neg c5, if_neg c6, if_neg c7, if_neg c8, if_neg c9, if_pos c10])]
    exact zdet_bind (u_tryKeep hN a) (fun v S2 => zdet_ret v)
  rw [show (fun B => _) = (fun B => zx_b2 (f_L_tryBack N a B) (fun x T => some (x, T))) from funext (fun B => by rw [if_neg c0, if_neg c1, if_neg c2, if_neg c3, if_neg c4, if_neg c5, if_neg c6, if_neg c7, if_neg c8, if_neg c9, if_neg c10])]
  exact zdet_bind (u_tryBack hN a) (fun v S2 => zdet_ret v)
