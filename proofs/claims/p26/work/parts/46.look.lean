/-! rectangle, node, entry -/
theorem zsb_sb {B : zx_B} {j : Nat} {T T' : zx_S} : zx_sb (zx_sb B j T) j T' = zx_sb B j T' := by
  funext i
  by_cases h : i = j
  · rw [h, zsb_at, zsb_at]
  · rw [zsb_ne h, zsb_ne h, zsb_ne h]
theorem z_setup {B : zx_B} {S : zx_S} (hI : ZInv B S) : ∃ t S0, S0 = zx_st S 12 (upd (S 12) 0 0) ∧ zQ 1 (B 0) S t ∧ zQ 1 (B 0) S0 t ∧ zfr [12] S S0 ∧ S0 12 0 = 0 ∧ S0 12 1 = S 12 1 ∧ S0 12 2 = S 12 2 ∧ ZInv B S0 := by
  obtain ⟨t, hQ⟩ := same_zQ (w := 1) hI.1
  refine ⟨t, _, rfl, hQ, zQ_cg hQ rfl rfl rfl rfl rfl rfl (st_ne (by decide)), zfr_st (by simp) zfr_refl, by rw [st_at, up_at], by rw [st_at, up_ne (by decide)], by rw [st_at, up_ne (by decide)], ZInv_ref hI⟩
theorem z_fin {B : zx_B} {S0 S' T' : zx_S} (hI : ZInv B S0) (h0 : S0 12 0 = 0) (fT : zfr [8, 9] (B 0) T') (fS : zfr [2, 6, 7, 9, 10, 11] S0 S') : ZInv (zx_sb B 0 T') S' ∧ S' 12 0 = 0 := by
  refine ⟨ZInv_look hI (zfr_sub fT (by decide)) (zfr_sub fS (by decide)) ⟨by rw [fS 12 (by decide)], by rw [fS 12 (by decide)]⟩, ?_⟩
  rw [fS 12 (by decide)]; exact h0
theorem zQ_fr {w : Nat} {T T' S S' : zx_S} {t : ZT} (h : zQ w T S t) (fT : zfr [5, 6, 7, 8, 9] T T') (fS : S' w = S w) : zQ w T' S' t := zQ_cg h (fT 0 (by decide)) (fT 1 (by decide)) (fT 2 (by decide)) (fT 3 (by decide)) (fT 4 (by decide)) (fT 10 (by decide)) fS
theorem op_rectangle {N : Nat} (hN : 100 < N) : zs_rectangle N ZInv := by
  intro p q B S hI
  obtain ⟨t, S0, eS0, hQ, hQ0, fS0, h120, h121, h122, hI0⟩ := z_setup hI
  have hin := m_in (N := N) (x := q) (lo := 0) (hi := 4) (a := 0) (b := 4) (by decide) (by decide)
  rcases z_has (N := N) hQ p with ⟨i, hi, rfl, hp, c1, c2⟩ | ⟨_, c1, c2⟩
  · obtain ⟨S1, d1, d2, d3, d4⟩ := r_number (N := N) (w := 1) hN (by decide) (by decide) (by decide) hQ0.2.1 hQ0.2.2.1
    have hS11 : S1 1 = S0 1 := d4 1 (by decide)
    rcases zi_cases q 5 (by decide) with ⟨j, hj, rfl⟩ | z | z
    · rw [nI_toInt (by omega), if_pos (by omega)] at hin
      have hgo : ∀ {X}, f_X3_rectangle_j33 N (nI i) (nI j) 0 S = X → f_X3_rectangle N (nI i) (nI j) S = X := by
        intro X h
        unfold f_X3_rectangle
        rw [c2, m_b1, if_neg (by decide), hin, m_b1, if_neg (by decide)]
        exact h
      by_cases h4 : j = 4
      · subst h4
        obtain ⟨s, hs, hm, h2⟩ := (z_pr2 hQ.1 hQ.2.2.1 hi).1 hp
        have hR := zwf_lv hQ.2.2.1 (by decide)
        have ht := zwf_zb hQ.2.2.1 (by omega)
        have hs0 : zlv t s ≠ 0 := fun z => by rw [ht.2.1 s z] at hm; cases hm
        obtain ⟨T', k, e1, e2, e3, e4⟩ := m_numberOf (N := N) hN hQ.1 hQ.2.2.1 hs0
        have hk9 := d3 k e2
        rw [e3] at hk9
        have hnw := d_nodeWith1 (N := N) hN ht hQ0.2.2.1.1 hQ0.2.1 hm
        obtain ⟨f1, f2⟩ := z_fin hI0 h120 e4 (zfr_sub d4 (by decide))
        refine ⟨(nI k, (0, zx_sb B 0 T')), nI k, S1, ?_, hgo ?_, f1, Or.inl ⟨rfl, f2, rfl⟩⟩
        · unfold f_X2_rectangle f_X1_nodeAbove
          rw [c1]
          simp (disch := omega) only [↓zlm1, ↓zlm2, zi_e1, zi_e2, zi_1e, zi_12, zi_21, zi_1n, zi_n1, if_true, if_false, eq_self, not_false_eq_true, not_true_eq_false, nI_add, zi_4m, zi_5m, zi_8m, zi_mul4, zi_mul5, zi_sub, nI_leI, nI_ltI, nI_eq, zl0, zl1, zl2, zl3, zl4, zl5, zl6, zl8, zl9, zl24, zl32, zl48, zl49, zl99, zl100, zl120, zl376, zl377, zl378, zl379, zl380, ↓zi_192, zi_dec, Nat.add_zero, Nat.zero_add, m_n, m_b1, m_b2, m_rd, m_wr, m_get, m_put, nI_clamp, st_at, st_ne, up_at, up_ne, if_pos, if_neg, h2, e1]
        · unfold f_X3_rectangle_j33
          rw [m_ref0, m_b2, if_pos (by decide), ← eS0, d1, m_b2, if_pos (by decide), hS11, hnw, m_b1, m_rd (by omega) (by decide), hk9]
      · have k0 := hQ.2.2.2.1.1 i j hi (by omega) hp
        have k1 := hQ0.2.1.2.1 i j hi (by omega) hp
        obtain ⟨f1, f2⟩ := z_fin (T' := B 0) hI0 h120 zfr_refl (zfr_sub d4 (by decide))
        refine ⟨(zrc t i j, (0, zx_sb B 0 (B 0))), zrc t i j, S1, ?_, hgo ?_, f1, Or.inl ⟨rfl, f2, rfl⟩⟩
        · unfold f_X2_rectangle
          rw [c1, zsb_self]
          simp (disch := omega) only [↓zlm1, ↓zlm2, zi_e1, zi_e2, zi_1e, zi_12, zi_21, zi_1n, zi_n1, if_true, if_false, eq_self, not_false_eq_true, not_true_eq_false, nI_add, zi_4m, zi_5m, zi_8m, zi_mul4, zi_mul5, zi_sub, nI_leI, nI_ltI, nI_eq, zl0, zl1, zl2, zl3, zl4, zl5, zl6, zl8, zl9, zl24, zl32, zl48, zl49, zl99, zl100, zl120, zl376, zl377, zl378, zl379, zl380, ↓zi_192, zi_dec, Nat.add_zero, Nat.zero_add, m_n, m_b1, m_b2, m_rd, m_wr, m_get, m_put, nI_clamp, st_at, st_ne, up_at, up_ne, if_pos, if_neg, m_corner, k0]
        · unfold f_X3_rectangle_j33
          rw [m_ref0, m_b2, if_pos (by decide), ← eS0, d1, m_b2]
          simp (disch := omega) only [↓zlm1, ↓zlm2, zi_e1, zi_e2, zi_1e, zi_12, zi_21, zi_1n, zi_n1, if_true, if_false, eq_self, not_false_eq_true, not_true_eq_false, nI_add, zi_4m, zi_5m, zi_8m, zi_mul4, zi_mul5, zi_sub, nI_leI, nI_ltI, nI_eq, zl0, zl1, zl2, zl3, zl4, zl5, zl6, zl8, zl9, zl24, zl32, zl48, zl49, zl99, zl100, zl120, zl376, zl377, zl378, zl379, zl380, ↓zi_192, zi_dec, Nat.add_zero, Nat.zero_add, m_n, m_b1, m_b2, m_rd, m_wr, m_get, m_put, nI_clamp, st_at, st_ne, up_at, up_ne, if_pos, if_neg, hS11, k1]
    · rw [if_neg (by omega)] at hin
      refine ⟨(0, (1, B)), 0, _, ?_, ?_, ZInv_ref (k := 2) hI, Or.inr (Or.inr ⟨rfl, by rw [st_at, up_at]⟩)⟩
      · unfold f_X2_rectangle f_X2_rectangle_j30
        rw [c1, m_b1, if_neg (by decide), if_pos (zi_lt0.mpr z)]
      · unfold f_X3_rectangle
        rw [c2, m_b1, if_neg (by decide), hin, m_b1, if_pos (by decide)]
        unfold f_X3_rectangle_j33
        rw [m_ref2, m_b2, if_neg (by decide)]
    · rw [if_neg (by omega)] at hin
      refine ⟨(0, (1, B)), 0, _, ?_, ?_, ZInv_ref (k := 2) hI, Or.inr (Or.inr ⟨rfl, by rw [st_at, up_at]⟩)⟩
      · unfold f_X2_rectangle f_X2_rectangle_j30
        rw [c1, m_b1, if_neg (by decide), if_neg (by rw [zi_lt0]; omega), if_neg (by rw [Int32.le_iff_toInt_le]; show ¬ q.toInt ≤ 4; omega)]
      · unfold f_X3_rectangle
        rw [c2, m_b1, if_neg (by decide), hin, m_b1, if_pos (by decide)]
        unfold f_X3_rectangle_j33
        rw [m_ref2, m_b2, if_neg (by decide)]
  · refine ⟨(0, (3, B)), 0, _, ?_, ?_, ZInv_ref (k := 1) hI, Or.inr (Or.inl ⟨rfl, by rw [st_at, up_at]⟩)⟩
    · unfold f_X2_rectangle
      rw [c1, m_b1, if_pos (by decide)]
    · unfold f_X3_rectangle
      rw [c2, m_b1, if_pos (by decide)]
      unfold f_X3_rectangle_j33
      rw [m_ref1, m_b2, if_neg (by decide)]
/-- which node, in both -/
theorem z_which {N : Nat} (hN : 100 < N) {B : zx_B} {S S0 : zx_S} {t : ZT} (hQ : zQ 1 (B 0) S t) (hQ0 : zQ 1 (B 0) S0 t) (p : Int32) :
    (∃ j s T1 S1, j < (zdo t).length ∧ p = nI j ∧ (zdo t).getD j 0 = s ∧ zlv t s ≠ 0 ∧ s < 24 ∧ (j = 0 ↔ s = zrt t) ∧ f_X1_nodeNumbered N p (B 0) = some (nI (24 + s), T1) ∧ zfr [8, 9] (B 0) T1 ∧ f_X3_in N (Int32.toInt64 p) 0 (Int32.toInt64 (nI (zdo t).length - 1)) = some 1 ∧ f_X3_numberNodes N 1 S0 = some (nI (zdo t).length, S1) ∧ S1 10 j = nI s ∧ (∀ j, j < (zdo t).length → S1 9 ((zdo t).getD j 0) = nI j) ∧ zfr [9, 10, 11] S0 S1) ∨
    (∃ T1, f_X1_nodeNumbered N p (B 0) = some (zM1, T1) ∧ zfr [8, 9] (B 0) T1 ∧ f_X3_in N (Int32.toInt64 p) 0 (Int32.toInt64 (nI (zdo t).length - 1)) = some 0) := by
  have hle := zdo_le hQ.2.2.1
  obtain ⟨u, eu⟩ := zdo_0 (t := t)
  have hl1 : 1 ≤ (zdo t).length := by rw [eu]; simp
  have hb : (Int32.toInt64 (nI (zdo t).length - 1)).toInt = ((zdo t).length : Int) - 1 := by
    rw [zl1, zi_sub hl1, Int32.toInt_toInt64, nI_toInt (by omega)]
    omega
  have hin := m_in (N := N) (x := p) (lo := 0) (hi := ((zdo t).length : Int) - 1) (a := 0) (b := Int32.toInt64 (nI (zdo t).length - 1)) (by decide) hb
  rcases m_nodeNumbered (N := N) hN hQ.1 hQ.2.2.1 p with ⟨j, T1, hj, rfl, e, f⟩ | ⟨hno, T1, e, f⟩
  · rw [nI_toInt (by omega), if_pos (by omega)] at hin
    obtain ⟨S1, d1, d2, d3, d4⟩ := r_number (N := N) (w := 1) hN (by decide) (by decide) (by decide) hQ0.2.1 hQ0.2.2.1
    have hmem : (zdo t).getD j 0 ∈ zdo t := zgetD_mem hj
    refine Or.inl ⟨j, (zdo t).getD j 0, T1, S1, hj, rfl, rfl, (zdo_mem hQ.2.2.1).mp hmem, zdo_lt hQ.2.2.1 hmem, ?_, e, f, hin, d1, ?_, d3, d4⟩
    · have hnd := zdo_nd hQ.2.2.1
      rw [eu] at hnd hj ⊢
      refine ⟨fun z => by rw [z]; rfl, fun z => ?_⟩
      match j, hj, z with
      | 0, _, _ => rfl
      | j + 1, hj, z =>
        exfalso
        have : u.getD j 0 ∈ u := zgetD_mem (by simpa using hj)
        have z2 : u.getD j 0 = zrt t := z
        rw [z2] at this
        exact (List.nodup_cons.mp hnd).1 this
    · have := zat_get d2 hj
      rw [Nat.zero_add] at this
      exact this
  · rw [if_neg hno] at hin
    exact Or.inr ⟨T1, e, f, hin⟩
theorem op_node {N : Nat} (hN : 100 < N) : zs_node N ZInv := by
  intro p q B S hI
  obtain ⟨t, S0, eS0, hQ, hQ0, fS0, h120, h121, h122, hI0⟩ := z_setup hI
  have hin := m_in (N := N) (x := q) (lo := 0) (hi := 6) (a := 0) (b := 6) (by decide) (by decide)
  have hnodes := r_nodes (N := N) hN hQ.2.1 (zwf_le10 hQ.2.2.1)
  rw [← zdo_len hQ.2.2.1] at hnodes
  rcases z_which (N := N) hN hQ hQ0 p with ⟨j, s, T1, S1, hj, rfl, hjs, hs0, hs, hj0, e1, f1, i1, d1, d2, d3, d4⟩ | ⟨T1, e1, f1, i1⟩
  · have hI1 : ∀ {T' S'}, zfr [8, 9] (B 0) T' → zfr [2, 6, 7, 9, 10, 11] S0 S' → ZInv (zx_sb B 0 T') S' ∧ S' 12 0 = 0 := fun a b => z_fin hI0 h120 a b
    have hle := zdo_le hQ.2.2.1
    rcases zi_cases q 7 (by decide) with ⟨k, hk, rfl⟩ | z | z
    · rw [nI_toInt (by omega), if_pos (by omega)] at hin
      have hQ1 : zQ 1 T1 S1 t := zQ_fr hQ0 (zfr_sub f1 (by decide)) (d4 1 (by decide))
      obtain ⟨S2, a1, a2, a3, a4⟩ := z_layA (N := N) hN (by decide) hQ1
      have hQ2 : zQ 1 T1 S2 t := zQ_cg hQ1 rfl rfl rfl rfl rfl rfl (a2 1 (by decide))
      have hS210 : S2 10 = S1 10 := a2 10 (by decide)
      have hS29 : S2 9 = S1 9 := a2 9 (by decide)
      have fS : zfr [2, 6, 7, 9, 10, 11] S0 S2 := zfr_trans (zfr_sub d4 (by decide)) (zfr_sub a2 (by decide))
      have hgo : ∀ {X}, f_X3_node_j41 N (nI j) (nI k) 0 S = X → f_X3_node N (nI j) (nI k) S = X := by
        intro X h
        unfold f_X3_node
        rw [hnodes, m_b1, i1, m_b1, if_neg (by decide), hin, m_b1, if_neg (by decide)]
        exact h
      obtain ⟨l1, l2⟩ := m_levRoot (N := N) hQ2 hs0
      have hR := zwf_lv hQ.2.2.1 (by decide)
      have ht := zwf_zb hQ.2.2.1 (by omega)
      have h5 := ht.2.2.2.1 s
      have hsz : T1 3 (24 + s) = nI (zes t s).length := hQ1.1.2.2.1 s hs hs0
      have hmn : S2 1 (120 + 8 * s + 1) = nI (zes t s).length := hQ2.2.1.2.2.2.1 s (by omega)
      have hszf : f_X1_sizeOf N (nI (24 + s)) T1 = some (nI (zes t s).length) := by
        unfold f_X1_sizeOf
        simp (disch := omega) only [↓zlm1, ↓zlm2, zi_e1, zi_e2, zi_1e, zi_12, zi_21, zi_1n, zi_n1, if_true, if_false, eq_self, not_false_eq_true, not_true_eq_false, nI_add, zi_4m, zi_5m, zi_8m, zi_mul4, zi_mul5, zi_sub, nI_leI, nI_ltI, nI_eq, zl0, zl1, zl2, zl3, zl4, zl5, zl6, zl8, zl9, zl24, zl32, zl48, zl49, zl99, zl100, zl120, zl376, zl377, zl378, zl379, zl380, ↓zi_192, zi_dec, Nat.add_zero, Nat.zero_add, m_n, m_b1, m_b2, m_rd, m_wr, m_get, m_put, nI_clamp, st_at, st_ne, up_at, up_ne, if_pos, if_neg, hsz]
      have hmnf : f_X3_many N 380 (nI s) (S2 1) = some (nI (zes t s).length) := by rw [r_many (by omega), hmn]
      have fin : ∀ (x : Int32) (T' : zx_S), zfr [8, 9] (B 0) T' → f_X2_node N (nI j) (nI k) B = some (x, (0, zx_sb B 0 T')) → f_X3_node_j41 N (nI j) (nI k) 0 S = some (x, S2) → ∃ (R : Int32 × (Nat × zx_B)) (r : Int32) (S2 : zx_S), f_X2_node N (nI j) (nI k) B = some R ∧ f_X3_node N (nI j) (nI k) S = some (r, S2) ∧ ZInv R.2.2 S2 ∧ ((R.2.1 = 0 ∧ S2 12 0 = 0 ∧ R.1 = r) ∨ (R.2.1 = 3 ∧ S2 12 0 = 1) ∨ (R.2.1 = 1 ∧ S2 12 0 = 2)) := by
        intro x T' fT hc hm
        obtain ⟨g1, g2⟩ := hI1 fT fS
        exact ⟨_, _, _, hc, hgo hm, g1, Or.inl ⟨rfl, g2, rfl⟩⟩
      by_cases k0 : k = 0
      · subst k0
        refine fin (nI (zlv t s - 1)) T1 f1 ?_ ?_
        · unfold f_X2_node
          rw [e1, m_b2, m_n, if_neg (by rw [zlm1, zi_e1 (by omega)]; exact id), if_neg (by decide), if_pos (by decide), if_pos (by decide), zsb_at, l1, m_b1]
        · unfold f_X3_node_j41
          rw [m_ref0, m_b2, if_pos (by decide), ← eS0, d1, m_b2, a1, m_b1, m_rd (by omega) (by decide), hS210, d2, if_pos (by decide), l2, m_b1]
      by_cases k1 : k = 1
      · subst k1
        refine fin (nI (zes t s).length) T1 f1 ?_ ?_
        · unfold f_X2_node
          rw [e1, m_b2, m_n, if_neg (by rw [zlm1, zi_e1 (by omega)]; exact id), if_neg (by decide), if_pos (by decide), if_neg (by decide), if_pos (by decide), zsb_at, hszf, m_b1]
        · unfold f_X3_node_j41
          rw [m_ref0, m_b2, if_pos (by decide), ← eS0, d1, m_b2, a1, m_b1, m_rd (by omega) (by decide), hS210, d2, if_neg (by decide), if_pos (by decide), hmnf, m_b1]
      by_cases k6 : k = 6
      · subst k6
        by_cases hsr : s = zrt t
        · obtain ⟨T2, g1, g2⟩ := m_numberOf1 (N := N) hN hQ1.1 hQ1.2.2.1
          have h2 : T1 2 (24 + s) = zM1 := hQ1.1.2.2.2.2.2.1 (24 + s) (by omega) (by simp) (fun x _ => by rw [hsr]; exact zwf_root hQ.2.2.1 x)
          refine fin zM1 T2 (zfr_trans f1 g2) ?_ ?_
          · unfold f_X2_node f_X1_nodeAbove
            rw [e1, m_b2, m_n, if_neg (by rw [zlm1, zi_e1 (by omega)]; exact id), if_neg (by decide), if_pos (by decide), if_neg (by decide), if_neg (by decide), if_pos (by decide), zsb_at, m_get (by omega) (by decide), m_b1, m_b1, h2, g1, m_b2, m_n, zsb_sb]
          · unfold f_X3_node_j41
            rw [m_ref0, m_b2, if_pos (by decide), ← eS0, d1, m_b2, a1, m_b1, m_rd (by omega) (by decide), hS210, d2, if_neg (by decide), if_neg (by decide), if_pos (by decide), hj0.mpr hsr, if_pos (by decide)]
            rfl
        · rcases (hQ.2.2.1.2.2.1 (24 + s)).mpr (Or.inr ⟨by omega, by omega, by rw [Nat.add_sub_cancel_left]; exact hs0, by rw [Nat.add_sub_cancel_left]; exact hsr⟩) with z | ⟨u, hu⟩
          · cases z
          have hu0 : zlv t u ≠ 0 := fun z => by rw [ht.2.1 u z] at hu; cases hu
          have hu24 := zb_lt ht hu0
          obtain ⟨T2, m, g1, g3, g4, g2⟩ := m_numberOf (N := N) hN hQ1.1 hQ1.2.2.1 hu0
          have h2 : T1 2 (24 + s) = nI (24 + u) := hQ1.1.2.2.2.2.1 u (24 + s) hu24 hu
          have hk9 := d3 m g3
          rw [g4] at hk9
          have hnw := d_nodeWith1 (N := N) hN ht hQ.2.2.1.1 hQ2.2.1 hu
          have hjne : ¬ nI j = 0 := by
            rw [zl0, nI_eq (by omega) (by omega)]
            intro z
            exact hsr (hj0.mp z)
          refine fin (nI m) T2 (zfr_trans f1 g2) ?_ ?_
          · unfold f_X2_node f_X1_nodeAbove
            rw [e1, m_b2, m_n, if_neg (by rw [zlm1, zi_e1 (by omega)]; exact id), if_neg (by decide), if_pos (by decide), if_neg (by decide), if_neg (by decide), if_pos (by decide), zsb_at, m_get (by omega) (by decide), m_b1, m_b1, h2, g1, m_b2, m_n, zsb_sb]
          · unfold f_X3_node_j41
            rw [m_ref0, m_b2, if_pos (by decide), ← eS0, d1, m_b2, a1, m_b1, m_rd (by omega) (by decide), hS210, d2, if_neg (by decide), if_neg (by decide), if_pos (by decide), if_neg hjne]
            rw [show (24 : Int32) + nI s = nI (24 + s) by rw [zl24, nI_add], hnw, m_b1, m_rd (by omega) (by decide), hS29, hk9]
      · have kq : ∃ c, c < 4 ∧ k = c + 2 := ⟨k - 2, by omega, by omega⟩
        obtain ⟨c, hc4, rfl⟩ := kq
        by_cases h0 : zes t s = []
        · rw [h0] at hszf hmnf
          refine fin zM1 T1 f1 ?_ ?_
          · unfold f_X2_node
            rw [e1]
            simp (disch := omega) only [↓zlm1, ↓zlm2, zi_e1, zi_e2, zi_1e, zi_12, zi_21, zi_1n, zi_n1, if_true, if_false, eq_self, not_false_eq_true, not_true_eq_false, nI_add, zi_4m, zi_5m, zi_8m, zi_mul4, zi_mul5, zi_sub, nI_leI, nI_ltI, nI_eq, zl0, zl1, zl2, zl3, zl4, zl5, zl6, zl8, zl9, zl24, zl32, zl48, zl49, zl99, zl100, zl120, zl376, zl377, zl378, zl379, zl380, ↓zi_192, zi_dec, Nat.add_zero, Nat.zero_add, m_n, m_b1, m_b2, m_rd, m_wr, m_get, m_put, nI_clamp, st_at, st_ne, up_at, up_ne, if_pos, if_neg, zsb_at, hszf, List.length_nil]
          · unfold f_X3_node_j41
            rw [m_ref0, m_b2, if_pos (by decide), ← eS0, d1, m_b2, a1, m_b1, m_rd (by omega) (by decide), hS210, d2]
            simp (disch := omega) only [↓zlm1, ↓zlm2, zi_e1, zi_e2, zi_1e, zi_12, zi_21, zi_1n, zi_n1, if_true, if_false, eq_self, not_false_eq_true, not_true_eq_false, nI_add, zi_4m, zi_5m, zi_8m, zi_mul4, zi_mul5, zi_sub, nI_leI, nI_ltI, nI_eq, zl0, zl1, zl2, zl3, zl4, zl5, zl6, zl8, zl9, zl24, zl32, zl48, zl49, zl99, zl100, zl120, zl376, zl377, zl378, zl379, zl380, ↓zi_192, zi_dec, Nat.add_zero, Nat.zero_add, m_n, m_b1, m_b2, m_rd, m_wr, m_get, m_put, nI_clamp, st_at, st_ne, up_at, up_ne, if_pos, if_neg, hmnf, List.length_nil]
        · have hb := (a4 (24 + s) (zgd_node hs hs0 h0)).2 c hc4
          have hlen : (zes t s).length ≠ 0 := fun z => h0 (List.eq_nil_of_length_eq_zero z)
          refine fin (T1 0 (4 * (24 + s) + c)) T1 f1 ?_ ?_
          · unfold f_X2_node
            rw [e1]
            simp (disch := omega) only [↓zlm1, ↓zlm2, zi_e1, zi_e2, zi_1e, zi_12, zi_21, zi_1n, zi_n1, if_true, if_false, eq_self, not_false_eq_true, not_true_eq_false, nI_add, zi_4m, zi_5m, zi_8m, zi_mul4, zi_mul5, zi_sub, nI_leI, nI_ltI, nI_eq, zl0, zl1, zl2, zl3, zl4, zl5, zl6, zl8, zl9, zl24, zl32, zl48, zl49, zl99, zl100, zl120, zl376, zl377, zl378, zl379, zl380, ↓zi_192, zi_dec, Nat.add_zero, Nat.zero_add, m_n, m_b1, m_b2, m_rd, m_wr, m_get, m_put, nI_clamp, st_at, st_ne, up_at, up_ne, if_pos, if_neg, zsb_at, hszf, Nat.add_sub_cancel, m_corner]
          · unfold f_X3_node_j41
            rw [m_ref0, m_b2, if_pos (by decide), ← eS0, d1, m_b2, a1, m_b1, m_rd (by omega) (by decide), hS210, d2]
            simp (disch := omega) only [↓zlm1, ↓zlm2, zi_e1, zi_e2, zi_1e, zi_12, zi_21, zi_1n, zi_n1, if_true, if_false, eq_self, not_false_eq_true, not_true_eq_false, nI_add, zi_4m, zi_5m, zi_8m, zi_mul4, zi_mul5, zi_sub, nI_leI, nI_ltI, nI_eq, zl0, zl1, zl2, zl3, zl4, zl5, zl6, zl8, zl9, zl24, zl32, zl48, zl49, zl99, zl100, zl120, zl376, zl377, zl378, zl379, zl380, ↓zi_192, zi_dec, Nat.add_zero, Nat.zero_add, m_n, m_b1, m_b2, m_rd, m_wr, m_get, m_put, nI_clamp, st_at, st_ne, up_at, up_ne, if_pos, if_neg, hmnf]
            rw [show 4 * (24 + s) + (c + 2) - 2 = 4 * (24 + s) + c by omega, hb]
    · rw [if_neg (by omega)] at hin
      obtain ⟨g1, g2⟩ := z_fin (S' := S0) hI0 h120 f1 zfr_refl
      refine ⟨(0, (1, zx_sb B 0 T1)), 0, _, ?_, ?_, ZInv_ref (k := 2) (S := S) (ZInv_look hI (zfr_sub f1 (by decide)) zfr_refl ⟨rfl, rfl⟩), Or.inr (Or.inr ⟨rfl, by rw [st_at, up_at]⟩)⟩
      · unfold f_X2_node f_X2_node_j34
        rw [e1, m_b2, m_n, if_neg (by rw [zlm1, zi_e1 (by omega)]; exact id), if_pos (zi_lt0.mpr z)]
      · unfold f_X3_node
        rw [hnodes, m_b1, i1, m_b1, if_neg (by decide), hin, m_b1, if_pos (by decide)]
        unfold f_X3_node_j41
        rw [m_ref2, m_b2, if_neg (by decide)]
    · rw [if_neg (by omega)] at hin
      refine ⟨(0, (1, zx_sb B 0 T1)), 0, _, ?_, ?_, ZInv_ref (k := 2) (S := S) (ZInv_look hI (zfr_sub f1 (by decide)) zfr_refl ⟨rfl, rfl⟩), Or.inr (Or.inr ⟨rfl, by rw [st_at, up_at]⟩)⟩
      · unfold f_X2_node f_X2_node_j34
        rw [e1, m_b2, m_n, if_neg (by rw [zlm1, zi_e1 (by omega)]; exact id), if_neg (by rw [zi_lt0]; omega), if_neg (by rw [Int32.le_iff_toInt_le]; show ¬ q.toInt ≤ 6; omega)]
      · unfold f_X3_node
        rw [hnodes, m_b1, i1, m_b1, if_neg (by decide), hin, m_b1, if_pos (by decide)]
        unfold f_X3_node_j41
        rw [m_ref2, m_b2, if_neg (by decide)]
  · refine ⟨(0, (3, zx_sb B 0 T1)), 0, _, ?_, ?_, ZInv_ref (k := 1) (S := S) (ZInv_look hI (zfr_sub f1 (by decide)) zfr_refl ⟨rfl, rfl⟩), Or.inr (Or.inl ⟨rfl, by rw [st_at, up_at]⟩)⟩
    · unfold f_X2_node
      rw [e1, m_b2, m_n, if_pos (by decide)]
    · unfold f_X3_node
      rw [hnodes, m_b1, i1, m_b1, if_pos (by decide)]
      unfold f_X3_node_j41
      rw [m_ref1, m_b2, if_neg (by decide)]
theorem op_entry {N : Nat} (hN : 100 < N) : zs_entry N ZInv := by
  intro p q B S hI
  obtain ⟨t, S0, eS0, hQ, hQ0, fS0, h120, h121, h122, hI0⟩ := z_setup hI
  have hnodes := r_nodes (N := N) hN hQ.2.1 (zwf_le10 hQ.2.2.1)
  rw [← zdo_len hQ.2.2.1] at hnodes
  rcases z_which (N := N) hN hQ hQ0 p with ⟨j, s, T1, S1, hj, rfl, hjs, hs0, hs, hj0, e1, f1, i1, d1, d2, d3, d4⟩ | ⟨T1, e1, f1, i1⟩
  · have hle := zdo_le hQ.2.2.1
    have hR := zwf_lv hQ.2.2.1 (by decide)
    have ht := zwf_zb hQ.2.2.1 (by omega)
    have h5 := ht.2.2.2.1 s
    have hQ1 : zQ 1 T1 S1 t := zQ_fr hQ0 (zfr_sub f1 (by decide)) (d4 1 (by decide))
    have hsz : T1 3 (24 + s) = nI (zes t s).length := hQ1.1.2.2.1 s hs hs0
    have hmn : S1 1 (120 + 8 * s + 1) = nI (zes t s).length := hQ1.2.1.2.2.2.1 s (by omega)
    have hszf : f_X1_sizeOf N (nI (24 + s)) T1 = some (nI (zes t s).length) := by
      unfold f_X1_sizeOf
      simp (disch := omega) only [↓zlm1, ↓zlm2, zi_e1, zi_e2, zi_1e, zi_12, zi_21, zi_1n, zi_n1, if_true, if_false, eq_self, not_false_eq_true, not_true_eq_false, nI_add, zi_4m, zi_5m, zi_8m, zi_mul4, zi_mul5, zi_sub, nI_leI, nI_ltI, nI_eq, zl0, zl1, zl2, zl3, zl4, zl5, zl6, zl8, zl9, zl24, zl32, zl48, zl49, zl99, zl100, zl120, zl376, zl377, zl378, zl379, zl380, ↓zi_192, zi_dec, Nat.add_zero, Nat.zero_add, m_n, m_b1, m_b2, m_rd, m_wr, m_get, m_put, nI_clamp, st_at, st_ne, up_at, up_ne, if_pos, if_neg, hsz]
    have hmnf : f_X3_many N 380 (nI s) (S1 1) = some (nI (zes t s).length) := by rw [r_many (by omega), hmn]
    have hlf := (m_levRoot (N := N) hQ1 hs0).1
    have hx1 : ¬ nI (24 + s) = -1 := by rw [zlm1, zi_e1 (by omega)]; exact id
    have hgo : 0 ≤ q → ∀ {X}, f_X3_entry_j33 N (nI j) q 0 S = X → f_X3_entry N (nI j) q S = X := by
      intro hq X h
      unfold f_X3_entry
      rw [hnodes, m_b1, i1, m_b1, if_neg (by decide), if_pos hq]
      exact h
    have fin : ∀ (x : Int32) (T' : zx_S), 0 ≤ q → zfr [8, 9] (B 0) T' → f_X2_entry N (nI j) q B = some (x, (0, zx_sb B 0 T')) → f_X3_entry_j33 N (nI j) q 0 S = some (x, S1) → ∃ (R : Int32 × (Nat × zx_B)) (r : Int32) (S2 : zx_S), f_X2_entry N (nI j) q B = some R ∧ f_X3_entry N (nI j) q S = some (r, S2) ∧ ZInv R.2.2 S2 ∧ ((R.2.1 = 0 ∧ S2 12 0 = 0 ∧ R.1 = r) ∨ (R.2.1 = 3 ∧ S2 12 0 = 1) ∨ (R.2.1 = 1 ∧ S2 12 0 = 2)) := by
      intro x T' hq fT hc hm
      obtain ⟨g1, g2⟩ := z_fin hI0 h120 fT (zfr_sub d4 (by decide))
      exact ⟨_, _, _, hc, hgo hq hm, g1, Or.inl ⟨rfl, g2, rfl⟩⟩
    rcases zi_cases q (zes t s).length (by omega) with ⟨k, hk, rfl⟩ | z | z
    · have hq : 0 ≤ nI k := by rw [zl0, nI_leI (by omega) (by omega)]; omega
      have hmem : (zes t s).getD k 0 ∈ zes t s := zgetD_mem hk
      obtain ⟨c, ec⟩ : ∃ c, c = (zes t s).getD k 0 := ⟨_, rfl⟩
      rw [← ec] at hmem
      obtain ⟨b1, b2, b3⟩ := ht.1 s c hmem
      have h4 : T1 4 (5 * (24 + s) + k) = nI c := by rw [zat_get (hQ1.1.2.2.2.1 s hs) hk, ec]
      have h6 : S1 1 (120 + 8 * s + 2 + k) = nI c := by rw [zat_get (hQ1.2.1.2.2.2.2.1 s (by omega)) hk, ec]
      have hef : f_X1_entryOf N (nI (24 + s)) (nI k) T1 = some (nI c) := by
        unfold f_X1_entryOf
        simp (disch := omega) only [↓zlm1, ↓zlm2, zi_e1, zi_e2, zi_1e, zi_12, zi_21, zi_1n, zi_n1, if_true, if_false, eq_self, not_false_eq_true, not_true_eq_false, nI_add, zi_4m, zi_5m, zi_8m, zi_mul4, zi_mul5, zi_sub, nI_leI, nI_ltI, nI_eq, zl0, zl1, zl2, zl3, zl4, zl5, zl6, zl8, zl9, zl24, zl32, zl48, zl49, zl99, zl100, zl120, zl376, zl377, zl378, zl379, zl380, ↓zi_192, zi_dec, Nat.add_zero, Nat.zero_add, m_n, m_b1, m_b2, m_rd, m_wr, m_get, m_put, nI_clamp, st_at, st_ne, up_at, up_ne, if_pos, if_neg, h4]
      by_cases hl : zlv t s = 1
      · have hc24 : c < 24 := by
          rcases Nat.lt_or_ge c 24 with y | y
          · exact y
          · have := b3 y
            unfold zil at b2
            rw [if_neg (by omega)] at b2
            omega
        rw [hl] at hlf
        refine fin (nI c) T1 hq f1 ?_ ?_
        · unfold f_X2_entry
          rw [e1, m_b2, m_n, if_neg hx1, if_pos hq, zsb_at, hszf, m_b1, if_pos (by rw [nI_ltI (by omega) (by omega)]; exact hk), hef, m_b1, hlf, m_b1, if_pos (by decide)]
        · unfold f_X3_entry_j33
          rw [m_ref0, m_b2, if_pos (by decide), ← eS0, d1, m_b2, m_rd (by omega) (by decide), d2, hmnf, m_b1, if_pos (by rw [nI_ltI (by omega) (by omega)]; exact hk), r_entryOf (by omega) (by omega), m_b1, h6, zl24, if_neg (by rw [nI_leI (by omega) (by omega)]; omega)]
      · have hc24 : 24 ≤ c := by
          rcases Nat.lt_or_ge c 24 with y | y
          · unfold zil at b2
            rw [if_pos y] at b2
            omega
          · exact y
        obtain ⟨x, rfl⟩ : ∃ x, c = 24 + x := ⟨c - 24, by omega⟩
        have hx0 := b3 hc24
        rw [Nat.add_sub_cancel_left] at hx0
        obtain ⟨T2, m, g1, g3, g4, g2⟩ := m_numberOf (N := N) hN hQ1.1 hQ1.2.2.1 hx0
        have hk9 := d3 m g3
        rw [g4] at hk9
        have h6s := ht.2.2.2.2 s
        refine fin (nI m) T2 hq (zfr_trans f1 g2) ?_ ?_
        · unfold f_X2_entry
          rw [e1, m_b2, m_n, if_neg hx1, if_pos hq, zsb_at, hszf, m_b1, if_pos (by rw [nI_ltI (by omega) (by omega)]; exact hk), hef, m_b1, hlf, m_b1, if_neg (by rw [zl0, nI_eq (by omega) (by omega)]; omega), g1, m_b2, m_n, zsb_sb]
        · unfold f_X3_entry_j33
          rw [m_ref0, m_b2, if_pos (by decide), ← eS0, d1, m_b2, m_rd (by omega) (by decide), d2, hmnf, m_b1, if_pos (by rw [nI_ltI (by omega) (by omega)]; exact hk), r_entryOf (by omega) (by omega), m_b1, h6, zl24, if_pos (by rw [nI_leI (by omega) (by omega)]; omega), zi_sub (by omega), Nat.add_sub_cancel_left, m_rd (by omega) (by decide), hk9]
    · have hq : ¬ 0 ≤ q := by rw [Int32.le_iff_toInt_le]; show ¬ 0 ≤ q.toInt; omega
      refine ⟨(0, (1, zx_sb B 0 T1)), 0, _, ?_, ?_, ZInv_ref (k := 2) (S := S) (ZInv_look hI (zfr_sub f1 (by decide)) zfr_refl ⟨rfl, rfl⟩), Or.inr (Or.inr ⟨rfl, by rw [st_at, up_at]⟩)⟩
      · unfold f_X2_entry
        rw [e1, m_b2, m_n, if_neg hx1, if_neg hq]
      · unfold f_X3_entry
        rw [hnodes, m_b1, i1, m_b1, if_neg (by decide), if_neg hq]
        unfold f_X3_entry_j33
        rw [m_ref2, m_b2, if_neg (by decide)]
    · have hq : 0 ≤ q := by rw [Int32.le_iff_toInt_le]; show 0 ≤ q.toInt; omega
      have hn : ¬ q < nI (zes t s).length := by rw [Int32.lt_iff_toInt_lt, nI_toInt (by omega)]; omega
      refine fin (-1) T1 hq f1 ?_ ?_
      · unfold f_X2_entry
        rw [e1, m_b2, m_n, if_neg hx1, if_pos hq, zsb_at, hszf, m_b1, if_neg hn]
      · unfold f_X3_entry_j33
        rw [m_ref0, m_b2, if_pos (by decide), ← eS0, d1, m_b2, m_rd (by omega) (by decide), d2, hmnf, m_b1, if_neg hn]
  · refine ⟨(0, (3, zx_sb B 0 T1)), 0, _, ?_, ?_, ZInv_ref (k := 1) (S := S) (ZInv_look hI (zfr_sub f1 (by decide)) zfr_refl ⟨rfl, rfl⟩), Or.inr (Or.inl ⟨rfl, by rw [st_at, up_at]⟩)⟩
    · unfold f_X2_entry
      rw [e1, m_b2, m_n, if_pos (by decide)]
    · unfold f_X3_entry
      rw [hnodes, m_b1, i1, m_b1, if_pos (by decide)]
      unfold f_X3_entry_j33
      rw [m_ref1, m_b2, if_neg (by decide)]
