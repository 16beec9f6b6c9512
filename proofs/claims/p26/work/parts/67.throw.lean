/-! what is refused, whatever the tree is like: nothing changes -/
theorem zn_lit {k j : Nat} (hk : k < 2 ^ 31) (hj : j < 2 ^ 31) (h : k ≠ j) : ¬ nI k = nI j := by rw [nI_eq hk hj]; exact h
section TH
variable {N : Nat} {S Sx : zx_S} {t : ZT} {f : Nat → Int32} {B : zx_B}
theorem th_about {k : Nat} (hk : 8 ≤ k) (hk2 : k < 100) : f_L_call N 1 (nI k) 0 0 B = some (-9999002, B) := by
  rw [ca_1]
  refine tr_tryAbout1 (r := 0) ?_
  unfold f_X2_about
  have n := fun j (hj : j < 8) => zn_lit (k := k) (j := j) (by omega) (by omega) (by omega)
  rw [if_neg (show ¬ nI k = 0 from n 0 (by omega)), if_neg (show ¬ nI k = 1 from n 1 (by omega)), if_neg (show ¬ nI k = 2 from n 2 (by omega)), if_neg (show ¬ nI k = 3 from n 3 (by omega)), if_neg (show ¬ nI k = 4 from n 4 (by omega)), if_neg (show ¬ nI k = 5 from n 5 (by omega)), if_neg (show ¬ nI k = 6 from n 6 (by omega)), if_neg (show ¬ nI k = 7 from n 7 (by omega))]
theorem th_rect3 (hN : 100 < N) (h : zK S Sx t f B) {i : Nat} {q : Int32} (hi : 24 ≤ i) (hi2 : i < 100) : f_L_call N 2 (nI i) q 0 B = some (-9999001, B) := rd_rectN hN h (fun j hj e => by
  have := (nI_eq (by omega) (by omega)).mp e
  omega)
theorem z_hasP (h : zK S Sx t f B) {i : Nat} (hi : i < 24) (hp : zpr t i = true) : f_X1_hasRectangle N (nI i) (B 0) = some (nI 1) := by
  rcases z_has (N := N) h.2.1 (nI i) with ⟨_, _, _, _, c1, _⟩ | ⟨hno, _, _⟩
  · exact c1
  · rw [hno i hi rfl] at hp; cases hp
theorem th_rect1 (h : zK S Sx t f B) {i k : Nat} (hi : i < 24) (hp : zpr t i = true) (hk : 5 ≤ k) (hk2 : k < 100) : f_L_call N 2 (nI i) (nI k) 0 B = some (-9999002, B) := by
  rw [ca_2]
  refine tr_tryRect1 (r := 0) ?_
  unfold f_X2_rectangle f_X2_rectangle_j30
  rw [z_hasP h hi hp, m_b1, if_neg (by decide), if_neg (by rw [zl0, nI_ltI (by omega) (by omega)]; omega), if_neg (by rw [zl4, nI_leI (by omega) (by omega)]; omega)]
theorem th_nd (hN : 100 < N) (h : zK S Sx t f B) {n : Nat} (hn : (zdo t).length ≤ n) (hn2 : n < 100) : ∃ T', f_X1_nodeNumbered N (nI n) (B 0) = some (zM1, T') ∧ zfr [8, 9] (B 0) T' := by
  rcases m_nodeNumbered (N := N) hN h.2.1.1 h.2.1.2.2.1 (nI n) with ⟨j, T', hj, e, e1, e2⟩ | ⟨_, T', e1, e2⟩
  · have hle := zdo_le h.2.1.2.2.1
    have := (nI_eq (by omega) (by omega)).mp e
    omega
  · exact ⟨T', e1, e2⟩
theorem th_node3 (hN : 100 < N) (h : zK S Sx t f B) {n : Nat} {q : Int32} (hn : (zdo t).length ≤ n) (hn2 : n < 100) : ∃ B', f_L_call N 3 (nI n) q 0 B = some (-9999001, B') ∧ zK S Sx t f B' := by
  obtain ⟨T', e1, e2⟩ := th_nd (N := N) hN h hn hn2
  refine ⟨zx_sb B 0 T', ?_, zK_sc h (zsc_sb (zte_fr (zfr_sub e2 (by decide))))⟩
  rw [ca_3]
  refine tr_tryNode3 (r := 0) ?_
  unfold f_X2_node
  rw [e1, m_b2, m_n, if_pos (by decide)]
theorem th_entry3 (hN : 100 < N) (h : zK S Sx t f B) {n : Nat} {q : Int32} (hn : (zdo t).length ≤ n) (hn2 : n < 100) : ∃ B', f_L_call N 4 (nI n) q 0 B = some (-9999001, B') ∧ zK S Sx t f B' := by
  obtain ⟨T', e1, e2⟩ := th_nd (N := N) hN h hn hn2
  refine ⟨zx_sb B 0 T', ?_, zK_sc h (zsc_sb (zte_fr (zfr_sub e2 (by decide))))⟩
  rw [ca_4]
  refine tr_tryEntry3 (r := 0) ?_
  unfold f_X2_entry
  rw [e1, m_b2, m_n, if_pos (by decide)]
theorem th_node1 (hN : 100 < N) (h : zK S Sx t f B) {n k : Nat} (hn : n < (zdo t).length) (hk : 7 ≤ k) (hk2 : k < 100) : ∃ B', f_L_call N 3 (nI n) (nI k) 0 B = some (-9999002, B') ∧ zK S Sx t f B' := by
  obtain ⟨T', e1, e2⟩ := rd_nd (N := N) hN h hn
  obtain ⟨hs0, hs⟩ := rd_ndK h hn
  refine ⟨zx_sb B 0 T', ?_, zK_sc h (zsc_sb (zte_fr (zfr_sub e2 (by decide))))⟩
  rw [ca_3]
  refine tr_tryNode1 (r := 0) ?_
  unfold f_X2_node f_X2_node_j34
  rw [e1, m_b2, m_n, if_neg (by rw [zlm1, zi_e1 (by omega)]; exact id), if_neg (by rw [zl0, nI_ltI (by omega) (by omega)]; omega), if_neg (by rw [zl6, nI_leI (by omega) (by omega)]; omega)]
theorem th_entry1 (hN : 100 < N) (h : zK S Sx t f B) {n : Nat} {q : Int32} (hn : n < (zdo t).length) (hq : q.toInt < 0) : ∃ B', f_L_call N 4 (nI n) q 0 B = some (-9999002, B') ∧ zK S Sx t f B' := by
  obtain ⟨T', e1, e2⟩ := rd_nd (N := N) hN h hn
  obtain ⟨hs0, hs⟩ := rd_ndK h hn
  refine ⟨zx_sb B 0 T', ?_, zK_sc h (zsc_sb (zte_fr (zfr_sub e2 (by decide))))⟩
  rw [ca_4]
  refine tr_tryEntry1 (r := 0) ?_
  unfold f_X2_entry
  rw [e1, m_b2, m_n, if_neg (by rw [zlm1, zi_e1 (by omega)]; exact id), if_neg (by rw [zi_le]; show ¬ (0 : Int32).toInt ≤ q.toInt; rw [show (0 : Int32).toInt = 0 by decide]; omega)]
theorem z_box0 {a b c d : Int32} (hb : ¬ zbk a b c d) : f_X2_isBox N a b c d = some (nI 0) := by
  rcases z_isBox (N := N) (a := a) (b := b) (c := c) (d := d) with ⟨h, _, _⟩ | ⟨_, i1, _⟩
  · exact absurd h hb
  · exact i1
theorem th_add1 {a b c d : Int32} (hb : ¬ zbk a b c d) : f_L_tryAdd N a b c d B = some (-9999002, B) := by
  refine tr_tryAdd1 (r := 0) ?_
  unfold f_X2_add
  rw [z_box0 hb, m_b1, if_pos (by decide)]
theorem th_add2 (hN : 100 < N) (h : zK S Sx t f B) (h24 : zct t 24 = 24) : f_L_tryAdd N 0 0 0 0 B = some (-9999003, B) := by
  refine tr_tryAdd2 (r := 0) ?_
  have i1 : f_X2_isBox N 0 0 0 0 = some (nI 1) := by
    rcases z_isBox (N := N) (a := 0) (b := 0) (c := 0) (d := 0) with ⟨_, i1, _⟩ | ⟨h, _, _⟩
    · exact i1
    · exact absurd (show zbk 0 0 0 0 by unfold zbk; decide) h
  unfold f_X2_add
  rw [i1, m_b1, if_neg (by decide), (z_count (N := N) hN h.2.1).1, m_b1, h24, if_neg (by decide)]
theorem th_window {a b c d : Int32} (hb : ¬ zbk a b c d) : f_L_tryWindow N a b c d B = some (-9999002, B) := by
  refine tr_tryWindow1 (r := 0) ?_
  unfold f_X2_window
  rw [z_box0 hb, m_b1, if_pos (by decide)]
theorem th_looks {a b c d : Int32} (hb : ¬ zbk a b c d) : f_L_tryLooks N a b c d B = some (-9999002, B) := by
  refine tr_tryLooks1 (r := 0) ?_
  unfold f_X2_looks
  rw [z_box0 hb, m_b1, if_pos (by decide)]
theorem th_chosen {a b c d : Int32} (hb : ¬ zbk a b c d) : f_L_tryChosen N a b c d B = some (-9999002, B) := by
  refine tr_tryChosen1 (r := 0) ?_
  unfold f_X2_chosen
  rw [z_box0 hb, m_b1, if_pos (by decide)]
theorem th_ifAdded {a b c d : Int32} (hb : ¬ zbk a b c d) : f_L_tryIfAdded N a b c d B = some (-9999002, B) := by
  refine tr_tryIfAdded1 (r := 0) ?_
  unfold f_X2_ifAdded
  rw [z_box0 hb, m_b1, if_pos (by decide)]
theorem z_has0 (h : zK S Sx t f B) {q : Int32} (hq : q.toInt < 0 ∨ 24 ≤ q.toInt) : f_X1_hasRectangle N q (B 0) = some (nI 0) := by
  rcases z_has (N := N) h.2.1 q with ⟨i, hi, e, _, _, _⟩ | ⟨_, c1, _⟩
  · rw [e, nI_toInt (by omega)] at hq; omega
  · exact c1
theorem th_remove (h : zK S Sx t f B) {q : Int32} (hq : q.toInt < 0 ∨ 24 ≤ q.toInt) : f_L_call N 6 q 0 0 B = some (-9999001, B) := by
  rw [ca_6]
  refine tr_tryRemove3 (r := 0) ?_
  unfold f_X2_remove
  rw [z_has0 h hq, m_b1, if_pos (by decide)]
theorem th_move3 (h : zK S Sx t f B) {q a b : Int32} (hq : q.toInt < 0 ∨ 24 ≤ q.toInt) : f_L_call N 7 q a b B = some (-9999001, B) := by
  rw [ca_7]
  refine tr_tryMove3 (r := 0) ?_
  unfold f_X2_move
  rw [z_has0 h hq, m_b1, if_pos (by decide)]
theorem th_move1 (h : zK S Sx t f B) {i : Nat} {q : Int32} (hi : i < 24) (hp : zpr t i = true) (hq : 100 ≤ q.toInt) : f_L_call N 7 (nI i) q 0 B = some (-9999002, B) := by
  rw [ca_7]
  refine tr_tryMove1 (r := 0) ?_
  have n100 : (-100 : Int32).toInt = -100 := by decide
  have p100 : (100 : Int32).toInt = 100 := by decide
  unfold f_X2_move f_X2_move_j45
  rw [z_hasP h hi hp, m_b1, if_neg (by decide), if_neg (by rw [zi_le, n100]; omega), if_pos (by rw [zi_le, p100]; exact hq)]
theorem th_move2 (h : zK S Sx t f B) {i : Nat} {q : Int32} (hi : i < 24) (hp : zpr t i = true) (hq : 0 < q.toInt ∧ q.toInt < 100) (hq2 : (f (4 * i + 2)).toInt + q.toInt = 100) : f_L_call N 7 (nI i) q 0 B = some (-9999003, B) := by
  rw [ca_7]
  refine tr_tryMove2 (r := 0) ?_
  have n100 : (-100 : Int32).toInt = -100 := by decide
  have p100 : (100 : Int32).toInt = 100 := by decide
  have z0 : (0 : Int32).toInt = 0 := by decide
  obtain ⟨c1, c2⟩ : f_X1_hasRectangle N (nI i) (B 0) = some (nI 1) ∧ f_X3_isThere N 380 (nI i) (Sx 1) = some (nI 1) := by
    rcases z_has (N := N) h.2.1 (nI i) with ⟨_, _, _, _, c1, c2⟩ | ⟨hno, _, _⟩
    · exact ⟨c1, c2⟩
    · rw [hno i hi rfl] at hp; cases hp
  have hcs : f_X1_canShift N (nI i) q 0 (B 0) = some (nI 0) := by
    rcases z_why (N := N) (dx := q) (dy := 0) h.2.1 hi hp (by omega) (by rw [z0]; omega) c2 with ⟨hb, _, _⟩ | ⟨hc, _⟩
    · exfalso
      have k2 := h.2.1.2.2.2.1.1 i 2 hi (by omega) hp
      rw [h.2.2 _ (by omega)] at k2
      obtain ⟨_, _, b3, _⟩ := hb
      obtain ⟨_, r2, r3, _⟩ := zwf_cr h.2.1.2.2.1 i hi hp
      rw [zi_addT (by omega) (by omega), ← k2] at b3
      omega
    · exact hc
  unfold f_X2_move
  rw [c1, m_b1, if_neg (by decide), if_neg (by rw [zi_le, n100]; omega), if_neg (by rw [zi_le, p100]; omega), if_neg (by decide), if_pos (by decide), hcs, m_b1, if_pos (by decide)]
theorem th_nearest {a b c : Int32} (h : ¬ (((0 ≤ a.toInt ∧ a.toInt ≤ 99) ∧ 0 ≤ b.toInt ∧ b.toInt ≤ 99) ∧ 0 ≤ c.toInt)) : f_L_call N 9 a b c B = some (-9999002, B) := by
  rw [ca_9]
  refine tr_tryNearest1 (r := 0) ?_
  have z0 : (0 : Int32).toInt = 0 := by decide
  unfold f_X2_nearest
  rcases z_isCell (N := N) (a := a) (b := b) with ⟨hc, i1, _⟩ | ⟨i1, _⟩
  · rw [i1, m_b1, if_neg (by decide), if_neg (by rw [zi_le, z0]; exact fun z => h ⟨hc, z⟩)]
  · rw [i1, m_b1, if_pos (by decide)]
theorem th_save : f_L_call N 10 2 0 0 B = some (-9999001, B) := by
  rw [ca_10]
  refine tr_tryKeep3 (r := 0) ?_
  unfold f_X2_save f_X2_save_j9
  rw [if_neg (by decide), if_neg (by decide)]
theorem th_back : f_L_call N 11 (-1) 0 0 B = some (-9999001, B) := by
  rw [ca_11]
  refine tr_tryBack3 (r := 0) ?_
  unfold f_X2_restore f_X2_restore_j9
  rw [if_pos (by decide)]
theorem th_append {k : Nat} (hk : 256 ≤ k) (hk2 : k < 1000) : f_L_call N 0 (nI k) 0 0 B = some (-9999002, B) := by
  rw [ca_0]
  refine tr_tryAppend1 (r := 0) ?_
  unfold f_X2_append f_X2_append_j11
  rw [if_neg (by rw [zl0, nI_ltI (by omega) (by omega)]; omega), if_neg (by rw [show (255 : Int32) = nI 255 from rfl, nI_leI (by omega) (by omega)]; omega)]
theorem th_script3 : f_L_tryScript N 3 0 B = some (-9999002, B) := by
  refine tr_tryScript1 (r := 0) ?_
  unfold f_X2_runScript f_X2_runScript_j10
  rw [if_neg (by decide), if_neg (by decide)]
theorem th_script1 {q : Int64} (hq : 1000000000 ≤ q.toInt) : f_L_tryScript N 1 q B = some (-9999002, B) := by
  refine tr_tryScript1 (r := 0) ?_
  unfold f_X2_runScript f_X2_runScript_j41 f_X2_runScript_j45
  rw [if_neg (by decide), if_pos (by decide), if_neg (by rw [zcmp_lt, show (0 : Int64).toInt = 0 by decide]; omega), if_pos (by decide), if_neg (by rw [zcmp_lt, z_b9]; omega)]
theorem th_script2 {q : Int64} (hq : q.toInt < 0) : f_L_tryScript N 2 q B = some (-9999002, B) := by
  refine tr_tryScript1 (r := 0) ?_
  unfold f_X2_runScript f_X2_runScript_j45
  rw [if_neg (by decide), if_pos (by decide), if_pos (by rw [zcmp_lt, show (0 : Int64).toInt = 0 by decide]; exact hq)]
theorem th_simulate {q : Int64} : f_L_trySimulate N q 61 B = some (-9999002, B) := by
  refine tr_trySimulate1 (r := 0) ?_
  unfold f_X2_simulate f_X2_simulate_j11
  rw [if_neg (by decide), if_neg (by decide)]
theorem rd_error (hN : 100 < N) (h : zK S Sx t f B) : ∃ e B', f_X2_errorPosition N B = some (e, B') ∧ zK S Sx t f B' ∧ (¬ e = -1 → ∃ B2, f_L_call N 5 0 0 0 B' = some (-9999003, B2) ∧ zK S Sx t f B2) := by
  obtain ⟨L, ch, _, c2, _, l2⟩ := z_text h.1
  obtain ⟨T', e1, g1, g2, g3, g4⟩ := m_read (N := N) hN c2 l2
  obtain ⟨T2, e2, k1, k2, k3, k4⟩ := m_read (N := N) (S := T') hN (by rw [g3 0 (by decide)]; exact c2) g1
  have s1 : zsc B (zx_sb B 18 T') := ⟨fun j _ _ => zsb_ne (by omega), by rw [zsb_ne (by decide)]; exact zte_refl, ⟨by rw [zsb_at, g3 0 (by decide)], by rw [zsb_at, g1, l2]⟩, zsb_ne (by decide)⟩
  have s2 : zsc (zx_sb B 18 T') (zx_sb (zx_sb B 18 T') 18 T2) := ⟨fun j _ _ => zsb_ne (by omega), by rw [zsb_ne (by decide)]; exact zte_refl, ⟨by rw [zsb_at, zsb_at, k3 0 (by decide)], by rw [zsb_at, zsb_at, k1, g1]⟩, zsb_ne (by decide)⟩
  refine ⟨zer (zpt ch L 13 0 []).2, zx_sb B 18 T', ?_, zK_sc h s1, fun he => ⟨zx_sb (zx_sb B 18 T') 18 T2, ?_, zK_sc (zK_sc h s1) s2⟩⟩
  · unfold f_X2_errorPosition
    rw [e1, m_b2, m_n]
  · rw [ca_5]
    refine tr_tryAddAll2 (r := 0) ?_
    unfold f_X2_addAll
    rw [zsb_at, e2, m_b2, m_n, if_neg he]
end TH
