/-! what the looks tell -/
theorem zov_cg {f g : Nat → Int32} {t : ZT} {s : Nat} (ht : zb t) (h : ∀ j, j < 192 → f j = g j) : zov f t s = zov g t s := by
  unfold zov
  split
  · rfl
  · exact zpp_cg fun y hy k hk => h _ (by have := (ht.1 s y hy).1; omega)
theorem m_ov {N : Nat} (hN : 100 < N) {T : zx_S} {t : ZT} (hT : zcx T t []) (hw : zwf t [] 99 99) : ∃ T', f_X1_overlap N T = some (zsum (zov (T 0) t) (zdo t), T') ∧ zfr [8, 9] T T' := by
  have hR := zwf_lv hw (by decide)
  have ht := zwf_zb hw (by omega)
  obtain ⟨T', e, g, f⟩ := m_nodes (N := N) hN hT hw
  have hT' : zcx T' t [] := zcx_keep hT (f 1 (by decide)) (f 2 (by decide)) (f 3 (by decide)) (f 4 (by decide)) (by rw [f 10 (by decide)])
  have hle := zdo_le hw
  have a := m_ov9 (N := N) hN hT' ht hle (zdo t) 0 N 0 (by omega) (by omega) g (fun x hx => (zdo_mem hw).mp hx)
  refine ⟨T', ?_, f⟩
  unfold f_X1_overlap
  rw [e, m_b2]
  rw [f 0 (by decide), Int32.zero_add] at a
  exact a
section RD
variable {N : Nat} {S Sx : zx_S} {t : ZT} {f : Nat → Int32} {B : zx_B}
theorem rd_about0 (hN : 100 < N) (h : zK S Sx t f B) : f_L_call N 1 0 0 0 B = some (nI (zct t 24), B) := by
  rw [ca_1]
  refine tr_tryAbout0 ?_
  unfold f_X2_about
  rw [if_pos (by decide), (z_count (N := N) hN h.2.1).1, m_b1]
theorem rd_about1 (hN : 100 < N) (h : zK S Sx t f B) : ∃ B', f_L_call N 1 1 0 0 B = some (nI (zdo t).length, B') ∧ zK S Sx t f B' := by
  obtain ⟨T1, n1, _, n3⟩ := m_nodes (N := N) hN h.2.1.1 h.2.1.2.2.1
  refine ⟨zx_sb B 0 T1, ?_, zK_sc h (zsc_sb (zte_fr (zfr_sub n3 (by decide))))⟩
  rw [ca_1]
  refine tr_tryAbout0 ?_
  unfold f_X2_about
  rw [if_neg (by decide), if_pos (by decide), n1, m_b2, m_n]
theorem rd_about2 (hN : 100 < N) (h : zK S Sx t f B) : f_L_call N 1 2 0 0 B = some (nI (zlv t (zrt t) - 1), B) := by
  have hroot : B 0 10 0 = nI (24 + zrt t) := h.2.1.1.2.2.2.2.2.2
  obtain ⟨l1, l2⟩ := m_levRoot (N := N) h.2.1 h.2.1.2.2.1.2.2.2.2.2.2.1.2
  rw [ca_1]
  refine tr_tryAbout0 ?_
  unfold f_X2_about
  rw [if_neg (by decide), if_neg (by decide), if_pos (by decide), hroot, l1, m_b1]
theorem rd_about3 (hN : 100 < N) (h : zK S Sx t f B) : ∃ B', f_L_call N 1 3 0 0 B = some (zsum (zov f t) (zdo t), B') ∧ zK S Sx t f B' := by
  obtain ⟨T1, n1, n3⟩ := m_ov (N := N) hN h.2.1.1 h.2.1.2.2.1
  refine ⟨zx_sb B 0 T1, ?_, zK_sc h (zsc_sb (zte_fr (zfr_sub n3 (by decide))))⟩
  rw [ca_1]
  refine tr_tryAbout0 ?_
  unfold f_X2_about
  rw [if_neg (by decide), if_neg (by decide), if_neg (by decide), if_pos (by decide), n1, m_b2, m_n]
  rw [zsum_cg (fun x _ => zov_cg (zK_zb h) h.2.2)]
theorem rd_about4 (hN : 100 < N) (h : zK S Sx t f B) (h1 : (zdo t).length ≤ 1) : ∃ B', f_L_call N 1 4 0 0 B = some (0, B') ∧ zK S Sx t f B' := by
  obtain ⟨T1, e, g, n3⟩ := m_nodes (N := N) hN h.2.1.1 h.2.1.2.2.1
  refine ⟨zx_sb B 0 T1, ?_, zK_sc h (zsc_sb (zte_fr (zfr_sub n3 (by decide))))⟩
  have ea : f_X1_areaBelowRoot N (B 0) = some (0, T1) := by
    unfold f_X1_areaBelowRoot
    obtain ⟨n, rfl⟩ : ∃ n, N = n + 1 := ⟨N - 1, by omega⟩
    rw [e, m_b2, f_X1_areaBelowRoot_l9, if_pos (by rw [zl1, nI_leI (by omega) (by omega)]; exact h1)]
  rw [ca_1]
  refine tr_tryAbout0 ?_
  unfold f_X2_about
  rw [if_neg (by decide), if_neg (by decide), if_neg (by decide), if_neg (by decide), if_pos (by decide), ea, m_b2, m_n]
/-- rectangles -/
theorem rd_rect (hN : 100 < N) (h : zK S Sx t f B) {i k : Nat} (hi : i < 24) (hk : k < 4) (hp : zpr t i = true) : f_L_call N 2 (nI i) (nI k) 0 B = some (f (4 * i + k), B) := by
  rw [ca_2]
  refine tr_tryRect0 ?_
  rcases z_has (N := N) h.2.1 (nI i) with ⟨i', _, e, _, c1, _⟩ | ⟨hno, _, _⟩
  · unfold f_X2_rectangle
    rw [c1]
    have hf := h.2.2 (4 * i + k) (by omega)
    simp (disch := omega) only [↓zlm1, ↓zlm2, zi_e1, zi_e2, zi_1e, zi_12, zi_21, zi_1n, zi_n1, if_true, if_false, eq_self, not_false_eq_true, not_true_eq_false, nI_add, zi_4m, zi_5m, zi_8m, zi_mul4, zi_mul5, zi_sub, nI_leI, nI_ltI, nI_eq, zl0, zl1, zl2, zl3, zl4, zl5, zl6, zl8, zl9, zl24, zl32, zl48, zl49, zl99, zl100, zl120, zl376, zl377, zl378, zl379, zl380, ↓zi_192, zi_dec, Nat.add_zero, Nat.zero_add, m_n, m_b1, m_b2, m_rd, m_wr, m_get, m_put, nI_clamp, st_at, st_ne, up_at, up_ne, if_pos, if_neg, m_corner, hf]
  · rw [hno i hi rfl] at hp; cases hp
theorem rd_rectN (hN : 100 < N) (h : zK S Sx t f B) {i : Nat} {q : Int32} (hp : ∀ j, j < 24 → nI i = nI j → zpr t j = false) : f_L_call N 2 (nI i) q 0 B = some (-9999001, B) := by
  rw [ca_2]
  refine tr_tryRect3 (r := 0) ?_
  rcases z_has (N := N) h.2.1 (nI i) with ⟨i', hi', e, hp', c1, _⟩ | ⟨_, c1, _⟩
  · rw [hp i' hi' e] at hp'; cases hp'
  · unfold f_X2_rectangle
    rw [c1, m_b1, if_pos (by decide)]
theorem rd_rect4 (hN : 100 < N) (h : zK S Sx t f B) {i : Nat} (hi : i < 24) (hp : zpr t i = true) : ∃ j B', f_L_call N 2 (nI i) 4 0 B = some (nI j, B') ∧ zK S Sx t f B' ∧ j < (zdo t).length ∧ i ∈ zes t ((zdo t).getD j 0) := by
  have ht := zK_zb h
  obtain ⟨s, hs, hm, h2⟩ := (z_pr2 h.2.1.1 h.2.1.2.2.1 hi).1 hp
  have hs0 : zlv t s ≠ 0 := fun z => by rw [ht.2.1 s z] at hm; cases hm
  obtain ⟨T', k, e1, e2, e3, e4⟩ := m_numberOf (N := N) hN h.2.1.1 h.2.1.2.2.1 hs0
  refine ⟨k, zx_sb B 0 T', ?_, zK_sc h (zsc_sb (zte_fr (zfr_sub e4 (by decide)))), e2, by rw [e3]; exact hm⟩
  rw [ca_2]
  refine tr_tryRect0 ?_
  rcases z_has (N := N) h.2.1 (nI i) with ⟨i', _, e, _, c1, _⟩ | ⟨hno, _, _⟩
  · unfold f_X2_rectangle f_X1_nodeAbove
    rw [c1, m_b1, if_neg (by decide), if_neg (by decide), if_pos (by decide), if_pos (by decide), m_get (by omega) (by decide), m_b1, m_b1, h2, e1, m_b2, m_n]
  · rw [hno i hi rfl] at hp; cases hp
/-- nodes -/
theorem rd_nd (hN : 100 < N) (h : zK S Sx t f B) {n : Nat} (hn : n < (zdo t).length) : ∃ T', f_X1_nodeNumbered N (nI n) (B 0) = some (nI (24 + (zdo t).getD n 0), T') ∧ zfr [8, 9] (B 0) T' := by
  have hle := zdo_le h.2.1.2.2.1
  rcases m_nodeNumbered (N := N) hN h.2.1.1 h.2.1.2.2.1 (nI n) with ⟨j, T', hj, e, e1, e2⟩ | ⟨hno, _⟩
  · have := (nI_eq (by omega) (by omega)).mp e
    subst this
    exact ⟨T', e1, e2⟩
  · rw [nI_toInt (by omega)] at hno
    omega
theorem rd_ndK (h : zK S Sx t f B) {n : Nat} (hn : n < (zdo t).length) : zlv t ((zdo t).getD n 0) ≠ 0 ∧ (zdo t).getD n 0 < 24 :=
  have hm := zgetD_mem hn
  ⟨(zdo_mem h.2.1.2.2.1).mp hm, zdo_lt h.2.1.2.2.1 hm⟩
theorem rd_sz (h : zK S Sx t f B) {s : Nat} (hs : s < 24) (hs0 : zlv t s ≠ 0) : f_X1_sizeOf N (nI (24 + s)) (B 0) = some (nI (zes t s).length) := by
  have hsz : B 0 3 (24 + s) = nI (zes t s).length := h.2.1.1.2.2.1 s hs hs0
  unfold f_X1_sizeOf
  simp (disch := omega) only [↓zlm1, ↓zlm2, zi_e1, zi_e2, zi_1e, zi_12, zi_21, zi_1n, zi_n1, if_true, if_false, eq_self, not_false_eq_true, not_true_eq_false, nI_add, zi_4m, zi_5m, zi_8m, zi_mul4, zi_mul5, zi_sub, nI_leI, nI_ltI, nI_eq, zl0, zl1, zl2, zl3, zl4, zl5, zl6, zl8, zl9, zl24, zl32, zl48, zl49, zl99, zl100, zl120, zl376, zl377, zl378, zl379, zl380, ↓zi_192, zi_dec, Nat.add_zero, Nat.zero_add, m_n, m_b1, m_b2, m_rd, m_wr, m_get, m_put, nI_clamp, st_at, st_ne, up_at, up_ne, if_pos, if_neg, hsz]
theorem rd_node0 (hN : 100 < N) (h : zK S Sx t f B) {n : Nat} (hn : n < (zdo t).length) : ∃ B', f_L_call N 3 (nI n) 0 0 B = some (nI (zlv t ((zdo t).getD n 0) - 1), B') ∧ zK S Sx t f B' := by
  obtain ⟨T1, e1, e2⟩ := rd_nd (N := N) hN h hn
  obtain ⟨hs0, hs⟩ := rd_ndK h hn
  have hK := zK_sc h (zsc_sb (zte_fr (zfr_sub e2 (by decide))))
  have l1 := (m_levRoot (N := N) hK.2.1 hs0).1
  rw [zsb_at] at l1
  refine ⟨zx_sb B 0 T1, ?_, hK⟩
  rw [ca_3]
  refine tr_tryNode0 ?_
  unfold f_X2_node
  rw [e1, m_b2, m_n, if_neg (by rw [zlm1, zi_e1 (by omega)]; exact id), if_neg (by decide), if_pos (by decide), if_pos (by decide), zsb_at, l1, m_b1]
theorem rd_node1 (hN : 100 < N) (h : zK S Sx t f B) {n : Nat} (hn : n < (zdo t).length) : ∃ B', f_L_call N 3 (nI n) 1 0 B = some (nI (zes t ((zdo t).getD n 0)).length, B') ∧ zK S Sx t f B' := by
  obtain ⟨T1, e1, e2⟩ := rd_nd (N := N) hN h hn
  obtain ⟨hs0, hs⟩ := rd_ndK h hn
  have hK := zK_sc h (zsc_sb (zte_fr (zfr_sub e2 (by decide))))
  have l1 := rd_sz (N := N) hK hs hs0
  rw [zsb_at] at l1
  refine ⟨zx_sb B 0 T1, ?_, hK⟩
  rw [ca_3]
  refine tr_tryNode0 ?_
  unfold f_X2_node
  rw [e1, m_b2, m_n, if_neg (by rw [zlm1, zi_e1 (by omega)]; exact id), if_neg (by decide), if_pos (by decide), if_neg (by decide), if_pos (by decide), zsb_at, l1, m_b1]
theorem rd_nodeb (hN : 100 < N) (h : zK S Sx t f B) {n c : Nat} (hn : n < (zdo t).length) (hc : c < 4) : ∃ B', f_L_call N 3 (nI n) (nI (c + 2)) 0 B = some (if zes t ((zdo t).getD n 0) = [] then zM1 else f (4 * (24 + (zdo t).getD n 0) + c), B') ∧ zK S Sx t f B' := by
  obtain ⟨T1, e1, e2⟩ := rd_nd (N := N) hN h hn
  obtain ⟨hs0, hs⟩ := rd_ndK h hn
  have hK := zK_sc h (zsc_sb (zte_fr (zfr_sub e2 (by decide))))
  have l1 := rd_sz (N := N) hK hs hs0
  rw [zsb_at] at l1
  have ht := zK_zb h
  have h5 := ht.2.2.2.1 ((zdo t).getD n 0)
  refine ⟨zx_sb B 0 T1, ?_, hK⟩
  rw [ca_3]
  refine tr_tryNode0 ?_
  by_cases h0 : zes t ((zdo t).getD n 0) = []
  · rw [h0] at l1
    rw [if_pos h0]
    unfold f_X2_node
    rw [e1]
    simp (disch := omega) only [↓zlm1, ↓zlm2, zi_e1, zi_e2, zi_1e, zi_12, zi_21, zi_1n, zi_n1, if_true, if_false, eq_self, not_false_eq_true, not_true_eq_false, nI_add, zi_4m, zi_5m, zi_8m, zi_mul4, zi_mul5, zi_sub, nI_leI, nI_ltI, nI_eq, zl0, zl1, zl2, zl3, zl4, zl5, zl6, zl8, zl9, zl24, zl32, zl48, zl49, zl99, zl100, zl120, zl376, zl377, zl378, zl379, zl380, ↓zi_192, zi_dec, Nat.add_zero, Nat.zero_add, m_n, m_b1, m_b2, m_rd, m_wr, m_get, m_put, nI_clamp, st_at, st_ne, up_at, up_ne, if_pos, if_neg, zsb_at, l1, List.length_nil]
  · have hlen : (zes t ((zdo t).getD n 0)).length ≠ 0 := fun z => h0 (List.eq_nil_of_length_eq_zero z)
    have hf := hK.2.2 (4 * (24 + (zdo t).getD n 0) + c) (by omega)
    rw [zsb_at] at hf
    rw [if_neg h0]
    unfold f_X2_node
    rw [e1]
    simp (disch := omega) only [↓zlm1, ↓zlm2, zi_e1, zi_e2, zi_1e, zi_12, zi_21, zi_1n, zi_n1, if_true, if_false, eq_self, not_false_eq_true, not_true_eq_false, nI_add, zi_4m, zi_5m, zi_8m, zi_mul4, zi_mul5, zi_sub, nI_leI, nI_ltI, nI_eq, zl0, zl1, zl2, zl3, zl4, zl5, zl6, zl8, zl9, zl24, zl32, zl48, zl49, zl99, zl100, zl120, zl376, zl377, zl378, zl379, zl380, ↓zi_192, zi_dec, Nat.add_zero, Nat.zero_add, m_n, m_b1, m_b2, m_rd, m_wr, m_get, m_put, nI_clamp, st_at, st_ne, up_at, up_ne, if_pos, if_neg, zsb_at, l1, Nat.add_sub_cancel, m_corner]
    rw [hf]
theorem rd_node60 (hN : 100 < N) (h : zK S Sx t f B) : ∃ B', f_L_call N 3 0 6 0 B = some (-1, B') ∧ zK S Sx t f B' := by
  obtain ⟨u, eu⟩ := zdo_0 (t := t)
  have hn : 0 < (zdo t).length := by rw [eu]; simp
  have h0 : (zdo t).getD 0 0 = zrt t := by rw [eu]; rfl
  obtain ⟨T1, e1, e2⟩ := rd_nd (N := N) hN h hn
  rw [h0] at e1
  have hK := zK_sc h (zsc_sb (zte_fr (zfr_sub e2 (by decide))))
  have hrt := h.2.1.2.2.1.2.2.2.2.2.2.1.1
  obtain ⟨T2, g1, g2⟩ := m_numberOf1 (N := N) hN hK.2.1.1 hK.2.1.2.2.1
  rw [zsb_at] at g1 g2
  have h2 := hK.2.1.1.2.2.2.2.2.1 (24 + zrt t) (by omega) (by simp) (fun x _ => zwf_root h.2.1.2.2.1 x)
  rw [zsb_at] at h2
  refine ⟨zx_sb (zx_sb B 0 T1) 0 T2, ?_, zK_sc hK (zsc_sb (by rw [zsb_at]; exact zte_fr (zfr_sub g2 (by decide))))⟩
  rw [ca_3]
  refine tr_tryNode0 ?_
  rw [zl0]
  unfold f_X2_node f_X1_nodeAbove
  rw [e1, m_b2, m_n, if_neg (by rw [zlm1, zi_e1 (by omega)]; exact id), if_neg (by decide), if_pos (by decide), if_neg (by decide), if_neg (by decide), if_pos (by decide), zsb_at, m_get (by omega) (by decide), m_b1, m_b1, h2, g1, m_b2, m_n]
  rfl
theorem rd_node6 (hN : 100 < N) (h : zK S Sx t f B) {n : Nat} (hn : n < (zdo t).length) (hr : (zdo t).getD n 0 ≠ zrt t) : ∃ j B', f_L_call N 3 (nI n) 6 0 B = some (nI j, B') ∧ zK S Sx t f B' ∧ j < (zdo t).length ∧ 24 + (zdo t).getD n 0 ∈ zes t ((zdo t).getD j 0) := by
  obtain ⟨T1, e1, e2⟩ := rd_nd (N := N) hN h hn
  obtain ⟨hs0, hs⟩ := rd_ndK h hn
  have ht := zK_zb h
  have hK := zK_sc h (zsc_sb (zte_fr (zfr_sub e2 (by decide))))
  rcases (h.2.1.2.2.1.2.2.1 (24 + (zdo t).getD n 0)).mpr (Or.inr ⟨by omega, by omega, by rw [Nat.add_sub_cancel_left]; exact hs0, by rw [Nat.add_sub_cancel_left]; exact hr⟩) with z | ⟨u, hu⟩
  · cases z
  have hu0 : zlv t u ≠ 0 := fun z => by rw [ht.2.1 u z] at hu; cases hu
  have hu24 := zb_lt ht hu0
  obtain ⟨T2, m, g1, g3, g4, g2⟩ := m_numberOf (N := N) hN hK.2.1.1 hK.2.1.2.2.1 hu0
  rw [zsb_at] at g1 g2
  have h2 := hK.2.1.1.2.2.2.2.1 u (24 + (zdo t).getD n 0) hu24 hu
  rw [zsb_at] at h2
  refine ⟨m, zx_sb (zx_sb B 0 T1) 0 T2, ?_, zK_sc hK (zsc_sb (by rw [zsb_at]; exact zte_fr (zfr_sub g2 (by decide)))), g3, by rw [g4]; exact hu⟩
  rw [ca_3]
  refine tr_tryNode0 ?_
  unfold f_X2_node f_X1_nodeAbove
  rw [e1, m_b2, m_n, if_neg (by rw [zlm1, zi_e1 (by omega)]; exact id), if_neg (by decide), if_pos (by decide), if_neg (by decide), if_neg (by decide), if_pos (by decide), zsb_at, m_get (by omega) (by decide), m_b1, m_b1, h2, g1, m_b2, m_n]
/-- entries -/
theorem rd_entryN (hN : 100 < N) (h : zK S Sx t f B) {n k : Nat} (hn : n < (zdo t).length) (hk : (zes t ((zdo t).getD n 0)).length ≤ k) (hk2 : k < 100) : ∃ B', f_L_call N 4 (nI n) (nI k) 0 B = some (-1, B') ∧ zK S Sx t f B' := by
  obtain ⟨T1, e1, e2⟩ := rd_nd (N := N) hN h hn
  obtain ⟨hs0, hs⟩ := rd_ndK h hn
  have hK := zK_sc h (zsc_sb (zte_fr (zfr_sub e2 (by decide))))
  have l1 := rd_sz (N := N) hK hs hs0
  rw [zsb_at] at l1
  refine ⟨zx_sb B 0 T1, ?_, hK⟩
  rw [ca_4]
  refine tr_tryEntry0 ?_
  unfold f_X2_entry
  rw [e1, m_b2, m_n, if_neg (by rw [zlm1, zi_e1 (by omega)]; exact id), if_pos (by rw [zl0, nI_leI (by omega) (by omega)]; omega), zsb_at, l1, m_b1, if_neg (by rw [nI_ltI (by omega) (by omega)]; omega)]
theorem rd_entry0 (hN : 100 < N) (h : zK S Sx t f B) {n k : Nat} (hn : n < (zdo t).length) (hk : k < (zes t ((zdo t).getD n 0)).length) (hl : zlv t ((zdo t).getD n 0) = 1) : ∃ B', f_L_call N 4 (nI n) (nI k) 0 B = some (nI ((zes t ((zdo t).getD n 0)).getD k 0), B') ∧ zK S Sx t f B' := by
  obtain ⟨T1, e1, e2⟩ := rd_nd (N := N) hN h hn
  obtain ⟨hs0, hs⟩ := rd_ndK h hn
  have ht := zK_zb h
  have h5 := ht.2.2.2.1 ((zdo t).getD n 0)
  have hK := zK_sc h (zsc_sb (zte_fr (zfr_sub e2 (by decide))))
  have l1 := rd_sz (N := N) hK hs hs0
  have l2 := (m_levRoot (N := N) hK.2.1 hs0).1
  have h4 := zat_get (hK.2.1.1.2.2.2.1 _ hs) hk
  rw [zsb_at] at l1 l2 h4
  rw [hl] at l2
  refine ⟨zx_sb B 0 T1, ?_, hK⟩
  rw [ca_4]
  refine tr_tryEntry0 ?_
  have hef : f_X1_entryOf N (nI (24 + (zdo t).getD n 0)) (nI k) T1 = some (nI ((zes t ((zdo t).getD n 0)).getD k 0)) := by
    unfold f_X1_entryOf
    simp (disch := omega) only [↓zlm1, ↓zlm2, zi_e1, zi_e2, zi_1e, zi_12, zi_21, zi_1n, zi_n1, if_true, if_false, eq_self, not_false_eq_true, not_true_eq_false, nI_add, zi_4m, zi_5m, zi_8m, zi_mul4, zi_mul5, zi_sub, nI_leI, nI_ltI, nI_eq, zl0, zl1, zl2, zl3, zl4, zl5, zl6, zl8, zl9, zl24, zl32, zl48, zl49, zl99, zl100, zl120, zl376, zl377, zl378, zl379, zl380, ↓zi_192, zi_dec, Nat.add_zero, Nat.zero_add, m_n, m_b1, m_b2, m_rd, m_wr, m_get, m_put, nI_clamp, st_at, st_ne, up_at, up_ne, if_pos, if_neg, h4]
  unfold f_X2_entry
  rw [e1, m_b2, m_n, if_neg (by rw [zlm1, zi_e1 (by omega)]; exact id), if_pos (by rw [zl0, nI_leI (by omega) (by omega)]; omega), zsb_at, l1, m_b1, if_pos (by rw [nI_ltI (by omega) (by omega)]; exact hk), hef, m_b1, l2, m_b1, if_pos (by decide)]
theorem rd_entry1 (hN : 100 < N) (h : zK S Sx t f B) {n k : Nat} (hn : n < (zdo t).length) (hk : k < (zes t ((zdo t).getD n 0)).length) (hl : 1 < zlv t ((zdo t).getD n 0)) : ∃ j B', f_L_call N 4 (nI n) (nI k) 0 B = some (nI j, B') ∧ zK S Sx t f B' ∧ j < (zdo t).length ∧ (zes t ((zdo t).getD n 0)).getD k 0 = 24 + (zdo t).getD j 0 := by
  obtain ⟨T1, e1, e2⟩ := rd_nd (N := N) hN h hn
  obtain ⟨hs0, hs⟩ := rd_ndK h hn
  have ht := zK_zb h
  have h5 := ht.2.2.2.1 ((zdo t).getD n 0)
  have h6 := ht.2.2.2.2 ((zdo t).getD n 0)
  have hK := zK_sc h (zsc_sb (zte_fr (zfr_sub e2 (by decide))))
  have l1 := rd_sz (N := N) hK hs hs0
  have l2 := (m_levRoot (N := N) hK.2.1 hs0).1
  have h4 := zat_get (hK.2.1.1.2.2.2.1 _ hs) hk
  rw [zsb_at] at l1 l2 h4
  have hmem : (zes t ((zdo t).getD n 0)).getD k 0 ∈ zes t ((zdo t).getD n 0) := zgetD_mem hk
  have c24 := zkd_ge ht (by omega) hmem
  obtain ⟨x, ex⟩ : ∃ x, (zes t ((zdo t).getD n 0)).getD k 0 = 24 + x := ⟨_ - 24, (Nat.add_sub_cancel' c24).symm⟩
  rw [ex] at hmem h4
  have hx0 := (ht.1 _ _ hmem).2.2 (by omega)
  rw [Nat.add_sub_cancel_left] at hx0
  obtain ⟨T2, m, g1, g3, g4, g2⟩ := m_numberOf (N := N) hN hK.2.1.1 hK.2.1.2.2.1 hx0
  rw [zsb_at] at g1 g2
  refine ⟨m, zx_sb (zx_sb B 0 T1) 0 T2, ?_, zK_sc hK (zsc_sb (by rw [zsb_at]; exact zte_fr (zfr_sub g2 (by decide)))), g3, by rw [g4, ex]⟩
  rw [ca_4]
  refine tr_tryEntry0 ?_
  have hef : f_X1_entryOf N (nI (24 + (zdo t).getD n 0)) (nI k) T1 = some (nI (24 + x)) := by
    unfold f_X1_entryOf
    simp (disch := omega) only [↓zlm1, ↓zlm2, zi_e1, zi_e2, zi_1e, zi_12, zi_21, zi_1n, zi_n1, if_true, if_false, eq_self, not_false_eq_true, not_true_eq_false, nI_add, zi_4m, zi_5m, zi_8m, zi_mul4, zi_mul5, zi_sub, nI_leI, nI_ltI, nI_eq, zl0, zl1, zl2, zl3, zl4, zl5, zl6, zl8, zl9, zl24, zl32, zl48, zl49, zl99, zl100, zl120, zl376, zl377, zl378, zl379, zl380, ↓zi_192, zi_dec, Nat.add_zero, Nat.zero_add, m_n, m_b1, m_b2, m_rd, m_wr, m_get, m_put, nI_clamp, st_at, st_ne, up_at, up_ne, if_pos, if_neg, h4]
  unfold f_X2_entry
  rw [e1, m_b2, m_n, if_neg (by rw [zlm1, zi_e1 (by omega)]; exact id), if_pos (by rw [zl0, nI_leI (by omega) (by omega)]; omega), zsb_at, l1, m_b1, if_pos (by rw [nI_ltI (by omega) (by omega)]; exact hk), hef, m_b1, l2, m_b1, if_neg (by rw [zl0, nI_eq (by omega) (by omega)]; omega), g1, m_b2, m_n]
end RD
