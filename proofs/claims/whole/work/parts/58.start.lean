/-! from the entry, for every script, the law comes to its end with true -/
theorem whole_start {p : Program} {e : Env} {s : State} {m : MethodId} {below : List Frame} {meth : Method} {c : Code} (l : Launch) (hflags : l.flags = flags0) {b L : Nat} {xs : Nat → Int32} (hL : L ≤ 2560) (C0 : lw_At p s m meth c b L xs) : W p l e room_1 s m #[Value.ref b] below meth c s.heap [] 0 0 (lw_Z below #[Value.ref b] s) (entryFrame m ([Value.ref b] : List Value).toArray 7) := by
  have hlt : l.stackTraces = false := by
    first
      | (unfold Launch.stackTraces; rw [hflags]; decide)
      | (simp [Launch.stackTraces, hflags]; decide)
  obtain ⟨N, hN⟩ : ∃ N : Nat, 6000 < N := ⟨6001, by decide⟩
  have hN1 : 100 < N := by omega
  obtain ⟨R0, g0, hT, hG, _⟩ := z_clear hN (fun _ _ => 0) (fun _ => 0)
  exact start_open l hlt hL C0 (Inv := ZInv) (op_append N) (op_clearText N) (op_errorPosition hN) (op_about hN1) (op_rectangle hN1) (op_node hN1) (op_entry hN1) (op_add hN) (op_addAll hN) (op_remove hN) (op_move hN) (op_undo hN) (op_window hN1) (op_looks hN1) (op_nearest hN1) (op_chosen hN1) (op_ifAdded hN) (op_bestRemoval hN) (op_anew hN) (op_runScript hN) (op_simulate hN) (op_save hN) (op_restore hN) hT hG (z_inv0 hN hT hG)
