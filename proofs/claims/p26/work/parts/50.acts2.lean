/-! add, remove, move, save, restore -/
theorem z_finA {B : zx_B} {S S' T' : zx_S} {t : ZT} (hI : ZInv B S) (hQ : zQ 1 T' S' t) (fS : zfr [1, 2, 6, 7, 8, 9, 10, 11, 12] S S') (h12 : zf12 S S') : ZInv (zx_sb B 0 T') S' :=
  ZInv_mk hI (by rw [zsb_at]; exact zQ_same hQ) (fun j h1 _ => zsb_ne (by omega)) ⟨by rw [zsb_ne (by decide)], by rw [zsb_ne (by decide)]⟩ (zsb_ne (by decide)) ⟨fS 0 (by decide), fS 3 (by decide), fS 4 (by decide), fS 5 (by decide)⟩ ⟨h12.1 1 (by decide), h12.1 2 (by decide)⟩
theorem z_rem0 {N : Nat} (hN : 6000 < N) {B : zx_B} {S0 : zx_S} {t : ZT} (hI0 : ZInv B S0) (hQ0 : zQ 1 (B 0) S0 t) (h120 : S0 12 0 = 0) : ∃ B1 S1, f_X2_remember N B = some B1 ∧ f_X3_remember N S0 = some S1 ∧ ZInv B1 S1 ∧ zQ 1 (B1 0) S1 t ∧ S1 12 0 = 0 ∧ B1 0 = B 0 := by
  obtain ⟨B1, S1, e1, e2, h1, h2, h3, h4⟩ := z_remember (N := N) hN hI0
  have hB0 : B1 0 = B 0 := h2 0 (by decide) (by decide)
  refine ⟨B1, S1, e1, e2, h1, ?_, by rw [h4 0 (by decide)]; exact h120, hB0⟩
  rw [hB0]
  exact zQ_cg hQ0 rfl rfl rfl rfl rfl rfl (h3 1 (by decide))
theorem op_add {N : Nat} (hN : 6000 < N) : zs_add N ZInv := by
  intro a b c d B S hI
  have hN1 : 100 < N := by omega
  obtain ⟨t, S0, eS0, hQ, hQ0, fS0, h120, h121, h122, hI0⟩ := z_setup hI
  rcases z_isBox (N := N) (a := a) (b := b) (c := c) (d := d) with ⟨hb, i1, i2⟩ | ⟨hb, i1, i2⟩
  · obtain ⟨c1, c2⟩ := z_count (N := N) hN1 hQ
    have hle := zct_le (t := t) 24
    by_cases h24 : zct t 24 < 24
    · obtain ⟨i, hi, hp, hj⟩ := zct_free 24 h24
      obtain ⟨B1, S1, e1, e2, hI1, hQ1, k0, hB0⟩ := z_rem0 hN hI0 hQ0 h120
      obtain ⟨Tb, e3, f3, hP⟩ := z_begin (N := N) hN1 hQ1 (by decide)
      obtain ⟨T1, T', S', t', m', g1, g2, g3, g4, g5, g6, g7, g8⟩ := z_addOn (N := N) (w := 1) hN1 (by decide) (by decide) (by decide) hi hp hj hP hb
      have hlow := m_low (N := N) hN1 hQ1.1 hQ1.2.2.1 hi hp hj
      have z12 : zf12 S1 S' := zf12_trans ⟨fun j hj => by rw [st_at, up_ne (by omega)], fun j hj => by rw [st_at, up_ne (by omega)]⟩ g8
      refine ⟨(nI i, (0, zx_sb B1 0 T')), nI i, S', ?_, ?_, z_finA hI1 (zQ_PI g4) (zfr_trans (zfr_st (by simp) zfr_refl) (zfr_sub g7 (by decide))) z12, Or.inl ⟨rfl, by rw [z12.1 0 (by decide)]; exact k0, rfl⟩⟩
      · unfold f_X2_add
        rw [i1, m_b1, if_neg (by decide), c1, m_b1, zl24, if_pos (by rw [nI_ltI (by omega) (by decide)]; exact h24), e1, m_b1, hlow, m_b1, e3, m_b1, m_n, zsb_at, g1, m_b1, m_n, zsb_sb, zsb_at, g2, m_b1, m_n, zsb_sb]
      · unfold f_X3_add
        rw [i2, m_b1, if_neg (by decide), c2, m_b1, zl24, if_neg (by rw [nI_eq (by omega) (by decide)]; omega)]
        unfold f_X3_add_j33
        rw [m_ref0, m_b2, if_pos (by decide), ← eS0, e2, m_b1, m_n, g3, m_b2]
    · have h24e : zct t 24 = 24 := by omega
      refine ⟨(0, (2, B)), 0, _, ?_, ?_, ZInv_ref (k := 2) hI, Or.inr (Or.inr ⟨rfl, by rw [st_at, up_at]⟩)⟩
      · unfold f_X2_add
        rw [i1, m_b1, if_neg (by decide), c1, m_b1, h24e, if_neg (by decide)]
      · unfold f_X3_add
        rw [i2, m_b1, if_neg (by decide), c2, m_b1, h24e, if_pos (by decide)]
        unfold f_X3_add_j33
        rw [m_ref2, m_b2, if_neg (by decide)]
  · refine ⟨(0, (1, B)), 0, _, ?_, ?_, ZInv_ref (k := 1) hI, Or.inr (Or.inl ⟨rfl, by rw [st_at, up_at]⟩)⟩
    · unfold f_X2_add
      rw [i1, m_b1, if_pos (by decide)]
    · unfold f_X3_add
      rw [i2, m_b1, if_pos (by decide)]
      unfold f_X3_add_j33
      rw [m_ref1, m_b2, if_neg (by decide)]
theorem op_remove {N : Nat} (hN : 6000 < N) : zs_remove N ZInv := by
  intro p B S hI
  have hN1 : 100 < N := by omega
  obtain ⟨t, S0, eS0, hQ, hQ0, fS0, h120, h121, h122, hI0⟩ := z_setup hI
  rcases z_has (N := N) hQ p with ⟨i, hi, rfl, hp, c1, c2⟩ | ⟨_, c1, c2⟩
  · obtain ⟨B1, S1, e1, e2, hI1, hQ1, k0, hB0⟩ := z_rem0 hN hI0 hQ0 h120
    obtain ⟨Tb, T', S', t', g1, g2, g3, g4, g5, g6, g7, g8⟩ := z_removeOn (N := N) (w := 1) hN1 (by decide) (by decide) (by decide) (by decide) hi hp hQ1
    obtain ⟨T2, n1, _, n3⟩ := m_nodes (N := N) hN1 g4.1 g4.2.2.1
    rw [zdo_len g4.2.2.1] at n1
    have hQ' : zQ 1 T2 S' t' := zQ_fr g4 (zfr_sub n3 (by decide)) rfl
    refine ⟨(nI (znd t' 32), (0, zx_sb B1 0 T2)), nI (znd t' 32), S', ?_, ?_, z_finA hI1 hQ' (zfr_sub g7 (by decide)) g8, Or.inl ⟨rfl, by rw [g8.1 0 (by decide)]; exact k0, rfl⟩⟩
    · unfold f_X2_remove
      rw [c1, m_b1, if_neg (by decide), e1, m_b1, g1, m_b1, m_n, zsb_at, g2, m_b1, m_n, zsb_sb, zsb_at, n1, m_b2, m_n, zsb_sb]
    · unfold f_X3_remove
      rw [c2, m_b1, if_neg (by decide)]
      unfold f_X3_remove_j17
      rw [m_ref0, m_b2, if_pos (by decide), ← eS0, e2, m_b1, g3, m_b2]
  · refine ⟨(0, (3, B)), 0, _, ?_, ?_, ZInv_ref (k := 1) hI, Or.inr ⟨rfl, by rw [st_at, up_at]⟩⟩
    · unfold f_X2_remove
      rw [c1, m_b1, if_pos (by decide)]
    · unfold f_X3_remove
      rw [c2, m_b1, if_pos (by decide)]
      unfold f_X3_remove_j17
      rw [m_ref1, m_b2, if_neg (by decide)]
/-- how far it may be moved at all -/
theorem z_far {N : Nat} {x : Int32} : ((-99 ≤ x.toInt ∧ x.toInt ≤ 99) ∧ ¬ x ≤ -100 ∧ ¬ 100 ≤ x ∧ x < 100 ∧ f_X3_in N (Int32.toInt64 x) (-99) 99 = some 1) ∨ ((x ≤ -100 ∨ 100 ≤ x) ∧ (¬ x ≤ -100 → ¬ x < 100) ∧ f_X3_in N (Int32.toInt64 x) (-99) 99 = some 0) := by
  have i1 := m_in (N := N) (x := x) (lo := -99) (hi := 99) (a := -99) (b := 99) (by decide) (by decide)
  have z100 : (100 : Int32) ≤ x ↔ 100 ≤ x.toInt := by rw [Int32.le_iff_toInt_le]; rfl
  have z101 : x < (100 : Int32) ↔ x.toInt < 100 := by rw [Int32.lt_iff_toInt_lt]; rfl
  have z102 : x ≤ (-100 : Int32) ↔ x.toInt ≤ -100 := by rw [Int32.le_iff_toInt_le]; rfl
  rw [z100, z101, z102]
  by_cases c : -99 ≤ x.toInt ∧ x.toInt ≤ 99
  · rw [if_pos c] at i1
    exact Or.inl ⟨c, by omega, by omega, by omega, i1⟩
  · rw [if_neg c] at i1
    exact Or.inr ⟨by omega, by omega, i1⟩
theorem op_move {N : Nat} (hN : 6000 < N) : zs_move N ZInv := by
  intro p dx dy B S hI
  have hN1 : 100 < N := by omega
  obtain ⟨t, S0, eS0, hQ, hQ0, fS0, h120, h121, h122, hI0⟩ := z_setup hI
  rcases z_has (N := N) hQ p with ⟨i, hi, rfl, hp, c1, c2⟩ | ⟨_, c1, c2⟩
  · rcases z_far (N := N) (x := dx) with ⟨hx, x1, x2, x3, x4⟩ | ⟨x1, x2, x3⟩
    · rcases z_far (N := N) (x := dy) with ⟨hy, y1, y2, y3, y4⟩ | ⟨y1, y2, y3⟩
      · rcases z_why (N := N) hQ hi hp hx hy c2 with ⟨hb, w1, w2⟩ | ⟨w1, w2⟩
        · obtain ⟨B1, S1, e1, e2, hI1, hQ1, k0, hB0⟩ := z_rem0 hN hI0 hQ0 h120
          obtain ⟨Tb, T1, T2, T', S', t', g1, g2, g3, g4, g5, g6, g7, g8, g9, g10⟩ := z_moveOn (N := N) (w := 1) hN1 (by decide) (by decide) (by decide) (by decide) hi hp hQ1 hb
          obtain ⟨s, hs, hm, h2⟩ := (z_pr2 g6.1 g6.2.2.1 hi).1 (by rw [g7]; exact hp)
          have hR := zwf_lv g6.2.2.1 (by decide)
          have ht := zwf_zb g6.2.2.1 (by omega)
          have hs0 : zlv t' s ≠ 0 := fun z => by rw [ht.2.1 s z] at hm; cases hm
          obtain ⟨T3, j, n1, n2, n3, n4⟩ := m_numberOf (N := N) hN1 g6.1 g6.2.2.1 hs0
          obtain ⟨S2, d1, d2, d3, d4⟩ := r_number (N := N) (w := 1) hN1 (by decide) (by decide) (by decide) g6.2.1 g6.2.2.1
          have hj := d3 j n2
          rw [n3] at hj
          have hQ' : zQ 1 T3 S2 t' := zQ_fr g6 (zfr_sub n4 (by decide)) (d4 1 (by decide))
          have hnw := d_nodeWith1 (N := N) hN1 ht g6.2.2.1.1 hQ'.2.1 hm
          have z12 : zf12 S1 S2 := zf12_trans g10 (zf12_eq (d4 12 (by decide)))
          refine ⟨(nI j, (0, zx_sb B1 0 T3)), nI j, S2, ?_, ?_, z_finA hI1 hQ' (zfr_trans (zfr_sub g9 (by decide)) (zfr_sub d4 (by decide))) z12, Or.inl ⟨rfl, by rw [z12.1 0 (by decide)]; exact k0, rfl⟩⟩
          · unfold f_X2_move f_X1_nodeAbove
            rw [c1, m_b1, if_neg (by decide), if_neg x1, if_neg x2, if_neg y1, if_pos y3, w1, m_b1, if_neg (by decide), e1, m_b1, g1, m_b1, m_n, zsb_at, g2, m_b1, m_n, zsb_sb, zsb_at, g3, m_b1, m_n, zsb_sb, zsb_at, g4, m_b1, m_n, zsb_sb, zsb_at, m_get (by omega) (by decide), m_b1, m_b1, h2, n1, m_b2, m_n, zsb_sb]
          · unfold f_X3_move
            rw [w2, m_b1, m_ref0, m_b2, if_pos (by decide), ← eS0, e2, m_b1, g5, m_b1, d1, m_b2, hnw, m_b1, m_rd (by omega) (by decide), hj]
        · refine ⟨(0, (2, B)), 0, _, ?_, ?_, ZInv_ref (k := 3) hI, Or.inr (Or.inr (Or.inr ⟨rfl, by rw [st_at, up_at]⟩))⟩
          · unfold f_X2_move
            rw [c1, m_b1, if_neg (by decide), if_neg x1, if_neg x2, if_neg y1, if_pos y3, w1, m_b1, if_pos (by decide)]
          · unfold f_X3_move
            rw [w2, m_b1, m_ref3, m_b2, if_neg (by decide)]
      · refine ⟨(0, (1, B)), 0, _, ?_, ?_, ZInv_ref (k := 2) hI, Or.inr (Or.inr (Or.inl ⟨rfl, by rw [st_at, up_at]⟩))⟩
        · unfold f_X2_move f_X2_move_j45
          rw [c1, m_b1, if_neg (by decide), if_neg x1, if_neg x2]
          by_cases q : dy ≤ -100
          · rw [if_pos q]
          · rw [if_neg q, if_neg (y2 q)]
        · unfold f_X3_move f_X3_whyNotMove
          rw [c2, m_b1, if_neg (by decide), x4, m_b1, if_neg (by decide), y3, m_b1, if_pos (by decide), m_b1, m_ref2, m_b2, if_neg (by decide)]
    · refine ⟨(0, (1, B)), 0, _, ?_, ?_, ZInv_ref (k := 2) hI, Or.inr (Or.inr (Or.inl ⟨rfl, by rw [st_at, up_at]⟩))⟩
      · unfold f_X2_move f_X2_move_j45
        rw [c1, m_b1, if_neg (by decide)]
        by_cases q : dx ≤ -100
        · rw [if_pos q]
        · rw [if_neg q, if_pos (x1.resolve_left q)]
      · unfold f_X3_move f_X3_whyNotMove
        rw [c2, m_b1, if_neg (by decide), x3, m_b1, if_pos (by decide), m_b1, m_ref2, m_b2, if_neg (by decide)]
  · refine ⟨(0, (3, B)), 0, _, ?_, ?_, ZInv_ref (k := 1) hI, Or.inr (Or.inl ⟨rfl, by rw [st_at, up_at]⟩)⟩
    · unfold f_X2_move
      rw [c1, m_b1, if_pos (by decide)]
    · unfold f_X3_move f_X3_whyNotMove
      rw [c2, m_b1, if_pos (by decide), m_b1, m_ref1, m_b2, if_neg (by decide)]
/-- which slot -/
theorem z_slot (p : Int32) (N : Nat) : (∃ j, j < 2 ∧ p = nI j ∧ ¬ p < 0 ∧ p < 2 ∧ f_X3_in N (Int32.toInt64 p) 0 1 = some 1) ∨ ((p < 0 ∨ ¬ p < 2) ∧ f_X3_in N (Int32.toInt64 p) 0 1 = some 0) := by
  have i1 := m_in (N := N) (x := p) (lo := 0) (hi := 1) (a := 0) (b := 1) (by decide) (by decide)
  have z2 : p < (2 : Int32) ↔ p.toInt < 2 := by rw [Int32.lt_iff_toInt_lt]; rfl
  rcases zi_cases p 2 (by decide) with ⟨j, hj, e⟩ | z | z
  · have e2 : p.toInt = j := by rw [e, nI_toInt (by omega)]
    rw [if_pos (by omega)] at i1
    exact Or.inl ⟨j, hj, e, by rw [zi_lt0]; omega, by rw [z2]; omega, i1⟩
  · rw [if_neg (by omega)] at i1
    exact Or.inr ⟨Or.inl (zi_lt0.mpr z), i1⟩
  · rw [if_neg (by omega)] at i1
    exact Or.inr ⟨Or.inr (by rw [z2]; omega), i1⟩
theorem op_save {N : Nat} (hN : 6000 < N) : zs_save N ZInv := by
  intro p B S hI
  have hN1 : 100 < N := by omega
  obtain ⟨t, S0, eS0, hQ, hQ0, fS0, h120, h121, h122, hI0⟩ := z_setup hI
  rcases z_slot p N with ⟨j, hj, e, p1, p2, p3⟩ | ⟨p1, p2⟩
  · obtain ⟨g, e1, k1, k2⟩ := d_copy (N := N) (n0 := 380) (n1 := 760) (a := 0) (b := 380 * j) (f0 := S0 1) (f1 := S0 4) hN (by omega) (by omega) (by decide) (by decide)
    obtain ⟨S1, eS1⟩ : ∃ S1, S1 = zx_st S0 4 g := ⟨_, rfl⟩
    obtain ⟨S2, eS2⟩ : ∃ S2, S2 = zx_st S1 5 (upd (S1 5) j 1) := ⟨_, rfl⟩
    have hS24 : S2 4 = g := by rw [eS2, st_ne (by decide), eS1, st_at]
    have hS25 : S2 5 = upd (S0 5) j 1 := by rw [eS2, st_at, eS1, st_ne (by decide)]
    have fS : zfr [4, 5] S0 S2 := by
      rw [eS2]
      exact zfr_st (by simp) (by rw [eS1]; exact zfr_st (by simp) zfr_refl)
    obtain ⟨T', e2, hT', f2⟩ := zsame_copy (N := N) (T := B (16 + j)) (r' := fun k => S2 4 (380 * j + k)) hI0.1 (fun k hk => by
      show S2 4 (380 * j + k) = S0 1 k
      rw [hS24, k1 k hk, Nat.zero_add])
    obtain ⟨B1, eB1⟩ : ∃ B1, B1 = zx_sb B (16 + j) T' := ⟨_, rfl⟩
    obtain ⟨B2, eB2⟩ : ∃ B2, B2 = zx_sb B1 19 (zx_st (B1 19) 0 (upd (B1 19 0) j 1)) := ⟨_, rfl⟩
    have hBj : ∀ x, x ≠ 16 + j → x ≠ 19 → B2 x = B x := fun x h1 h2 => by rw [eB2, zsb_ne h2, eB1, zsb_ne h1]
    have hB190 : B2 19 0 = upd (B 19 0) j 1 := by rw [eB2, zsb_at, st_at, eB1, zsb_ne (by omega)]
    have hB191 : B2 19 1 = B 19 1 := by rw [eB2, zsb_at, st_ne (by decide), eB1, zsb_ne (by omega)]
    obtain ⟨c1, c2⟩ := z_count (N := N) hN1 hQ0
    have hB20 : B2 0 = B 0 := hBj 0 (by omega) (by decide)
    refine ⟨(nI (zct t 24), (0, B2)), nI (zct t 24), S2, ?_, ?_, ?_, Or.inl ⟨rfl, by rw [fS 12 (by decide)]; exact h120, rfl⟩⟩
    · unfold f_X2_save f_X2_save_j40
      rw [if_neg p1, if_pos p2, e, m_treeAt hj (by decide), m_b1, e2, m_b1, m_n, ← eB1, m_put hj (by decide), m_b1, m_n, ← eB2, hB20, c1, m_b1]
    · unfold f_X3_save
      rw [p3, m_b1, if_neg (by decide)]
      unfold f_X3_save_j16
      rw [m_ref0, m_b2, if_pos (by decide), ← eS0, e, zl380, zl0, zi_mul, e1, m_b1, m_n, ← eS1, m_wr hj (by decide), nI_clamp (by omega), show vp_nar .boolean 1 = 1 from rfl, ← eS2, fS 1 (by decide), c2, m_b1]
    · show ZInv B2 S2
      obtain ⟨h1, h2, h3, h4⟩ := hI0
      refine ⟨by rw [hB20, fS 1 (by decide)]; exact h1, ?_, ?_, fun x hx => ?_⟩
      · show ∃ n : Nat, n ≤ 100 ∧ B2 18 2 0 = nI n ∧ S2 12 1 = nI n ∧ (∀ i, i < n → B2 18 0 i = S2 0 i ∧ 0 ≤ (S2 0 i).toInt ∧ (S2 0 i).toInt ≤ 255)
        rw [hBj 18 (by omega) (by decide), fS 12 (by decide), fS 0 (by decide)]; exact h2
      · show ∃ a o : Nat, a ≤ 14 ∧ o < 14 ∧ B2 19 1 0 = nI o ∧ B2 19 1 1 = nI a ∧ S2 12 2 = nI a ∧ ∀ i, i < a → zsame (B2 (2 + (o + i) % 14)) (fun j => S2 3 (380 * i + j))
        rw [hB191, fS 12 (by decide), fS 3 (by decide)]
        obtain ⟨a, o, ha, ho, q1, q2, q3, q4⟩ := h3
        refine ⟨a, o, ha, ho, q1, q2, q3, fun i hi => ?_⟩
        rw [hBj _ (by omega) (by omega)]
        exact q4 i hi
      · show (B2 19 0 x = 0 ∧ S2 5 x = 0) ∨ (B2 19 0 x = 1 ∧ S2 5 x = 1 ∧ zsame (B2 (16 + x)) (fun k => S2 4 (380 * x + k)))
        rw [hB190, hS25]
        by_cases c : x = j
        · subst c
          refine Or.inr ⟨up_at, up_at, ?_⟩
          rw [eB2, zsb_ne (by omega), eB1, zsb_at]
          exact hT'
        · rw [up_ne c, up_ne c, hBj _ (by omega) (by omega)]
          rcases h4 x hx with z | ⟨z1, z2, z3⟩
          · exact Or.inl z
          · refine Or.inr ⟨z1, z2, zsame_cg z3 fun k hk => ?_⟩
            show S2 4 (380 * x + k) = S0 4 (380 * x + k)
            rw [hS24, k2 _ (by omega)]
  · refine ⟨(0, (3, B)), 0, _, ?_, ?_, ZInv_ref (k := 1) hI, Or.inr ⟨rfl, by rw [st_at, up_at]⟩⟩
    · unfold f_X2_save f_X2_save_j9
      by_cases q : p < 0
      · rw [if_pos q]
      · rw [if_neg q, if_neg (p1.resolve_left q)]
    · unfold f_X3_save
      rw [p2, m_b1, if_pos (by decide)]
      unfold f_X3_save_j16
      rw [m_ref1, m_b2, if_neg (by decide)]
theorem op_restore {N : Nat} (hN : 6000 < N) : zs_restore N ZInv := by
  intro p B S hI
  have hN1 : 100 < N := by omega
  obtain ⟨t, S0, eS0, hQ, hQ0, fS0, h120, h121, h122, hI0⟩ := z_setup hI
  rcases z_slot p N with ⟨j, hj, e, p1, p2, p3⟩ | ⟨p1, p2⟩
  · have h05 : S0 5 = S 5 := fS0 5 (by decide)
    rcases hI.2.2.2 j hj with ⟨z1, z2⟩ | ⟨z1, z2, z3⟩
    · refine ⟨(0, (2, B)), 0, _, ?_, ?_, ZInv_ref (k := 2) hI, Or.inr (Or.inr ⟨rfl, by rw [st_at, up_at]⟩)⟩
      · unfold f_X2_restore
        rw [if_neg p1, if_pos p2, e, m_get hj (by decide), m_b1, z1, if_pos (by decide)]
      · unfold f_X3_restore
        rw [p3, m_b1, if_neg (by decide), e, m_rd hj (by decide), z2, if_pos (by decide)]
        unfold f_X3_restore_j29
        rw [m_ref2, m_b2, if_neg (by decide)]
    · obtain ⟨g, e1, k1, k2⟩ := d_copy (N := N) (n0 := 760) (n1 := 380) (a := 380 * j) (b := 0) (f0 := S0 4) (f1 := S0 1) hN (by omega) (by omega) (by decide) (by decide)
      obtain ⟨S1, eS1⟩ : ∃ S1, S1 = zx_st S0 1 g := ⟨_, rfl⟩
      obtain ⟨S2, eS2⟩ : ∃ S2, S2 = zx_st S1 12 (upd (S1 12) 2 0) := ⟨_, rfl⟩
      have hS21 : S2 1 = g := by rw [eS2, st_ne (by decide), eS1, st_at]
      have fS : zfr [1, 12] S0 S2 := by
        rw [eS2]
        exact zfr_st (by simp) (by rw [eS1]; exact zfr_st (by simp) zfr_refl)
      have f12 : ∀ x, x ≠ 2 → S2 12 x = S0 12 x := fun x hx => by rw [eS2, st_at, up_ne hx, eS1, st_ne (by decide)]
      have f122 : S2 12 2 = nI 0 := by rw [eS2, st_at, up_at]; rfl
      obtain ⟨T', e2, hT', f2⟩ := zsame_copy (N := N) (T := B 0) (r' := S2 1) z3 (fun k hk => by
        rw [hS21]
        have := k1 k hk
        rw [Nat.zero_add, fS0 4 (by decide)] at this
        exact this)
      obtain ⟨t2, hQ2⟩ := same_zQ (w := 1) hT'
      obtain ⟨c1, c2⟩ := z_count (N := N) hN1 hQ2
      obtain ⟨B1, eB1⟩ : ∃ B1, B1 = zx_sb B 0 T' := ⟨_, rfl⟩
      obtain ⟨B2, eB2⟩ : ∃ B2, B2 = zx_sb B1 19 (zx_st (B1 19) 1 (upd (B1 19 1) 1 0)) := ⟨_, rfl⟩
      have hBj : ∀ x, x ≠ 0 → x ≠ 19 → B2 x = B x := fun x h1 h2 => by rw [eB2, zsb_ne h2, eB1, zsb_ne h1]
      have hB20 : B2 0 = T' := by rw [eB2, zsb_ne (by decide), eB1, zsb_at]
      have hB119 : B1 19 = B 19 := by rw [eB1, zsb_ne (by decide)]
      obtain ⟨a, o, ha, ho, q1, q2, q3, q4⟩ := hI0.2.2.1
      refine ⟨(nI (zct t2 24), (0, B2)), nI (zct t2 24), S2, ?_, ?_, ?_, Or.inl ⟨rfl, by rw [f12 0 (by decide)]; exact h120, rfl⟩⟩
      · unfold f_X2_restore
        rw [if_neg p1, if_pos p2, e, m_get hj (by decide), m_b1, z1, if_neg (by decide), m_treeAt hj (by decide), m_b1, e2, m_b1, m_n, ← eB1, m_n, ← eB2, hB20, c1, m_b1]
      · unfold f_X3_restore
        rw [p3, m_b1, if_neg (by decide), e, m_rd hj (by decide), z2, if_neg (by decide)]
        unfold f_X3_restore_j29
        rw [m_ref0, m_b2, if_pos (by decide), ← eS0, zl380, zi_mul, zl0, e1, m_b1, m_n, ← eS1, m_n, ← zl0, ← eS2, c2, m_b1]
      · show ZInv B2 S2
        refine ZInv_ring (a := 0) (o := o) hI0 ⟨?_, ?_, f122, fun x hx => absurd hx (Nat.not_lt_zero x)⟩ (by decide) ho (by rw [hB20]; exact hT') (fun x h1 h2 => hBj x (by omega) (by omega)) ⟨by rw [hBj 18 (by decide) (by decide)], by rw [hBj 18 (by decide) (by decide)]⟩ ?_ ⟨fS 0 (by decide), fS 4 (by decide), fS 5 (by decide)⟩ (f12 1 (by decide))
        · rw [eB2, zsb_at, st_at, up_ne (by decide), hB119]; exact q1
        · rw [eB2, zsb_at, st_at, up_at]; rfl
        · rw [eB2, zsb_at, st_ne (by decide), hB119]
  · refine ⟨(0, (3, B)), 0, _, ?_, ?_, ZInv_ref (k := 1) hI, Or.inr (Or.inl ⟨rfl, by rw [st_at, up_at]⟩)⟩
    · unfold f_X2_restore f_X2_restore_j9
      by_cases q : p < 0
      · rw [if_pos q]
      · rw [if_neg q, if_neg (p1.resolve_left q)]
    · unfold f_X3_restore
      rw [p2, m_b1, if_pos (by decide)]
      unfold f_X3_restore_j29
      rw [m_ref1, m_b2, if_neg (by decide)]
