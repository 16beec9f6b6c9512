/-! refuses: true, and nothing changed -/
theorem zi_9 {n : Nat} (hn : n < 2 ^ 31) : nI n - nI n / 9 * 9 = nI (n % 9) := zi_mod (b := 9) hn (by decide)
theorem zi_100 {n : Nat} (hn : n < 2 ^ 31) : nI n - nI n / 100 * 100 = nI (n % 100) := zi_mod (b := 100) hn (by decide)
theorem zi_128 {n : Nat} (hn : n < 2 ^ 31) : nI n / 128 = nI (n / 128) := zi_div (b := 128) hn (by decide)
theorem zi_m1s {k : Nat} (hk : k < 1000) : ((-1 : Int32) - nI k).toInt = -1 - (k : Int) := by
  have h := zi_subT (a := -1) (b := nI k) (by rw [nI_toInt (by omega), show (-1 : Int32).toInt = -1 by decide]; omega) (by rw [nI_toInt (by omega), show (-1 : Int32).toInt = -1 by decide]; omega)
  rw [h, nI_toInt (by omega), show (-1 : Int32).toInt = -1 by decide]
theorem m_nz32 {β : Type} {y : Int32} {k : Option β} (h : ¬ y = 0) : zx_nz y k = k := if_neg h
theorem zt_5 {b : Nat} : (5 : Int32) + nI b = nI (5 + b) := nI_add 5 b
theorem zt_7 {b : Nat} : (7 : Int32) + nI b = nI (7 + b) := nI_add 7 b
theorem zt_8 {b : Nat} : (8 : Int32) + nI b = nI (8 + b) := nI_add 8 b
theorem zt_24 {b : Nat} : (24 : Int32) + nI b = nI (24 + b) := nI_add 24 b
theorem zt_100 {b : Nat} : (100 : Int32) + nI b = nI (100 + b) := nI_add 100 b
theorem zt_256 {b : Nat} : (256 : Int32) + nI b = nI (256 + b) := nI_add 256 b
section RF
variable {N : Nat} {S Sx : zx_S} {t : ZT} {f : Nat → Int32} {B : zx_B}
theorem rf_472 (hN : 6000 < N) {n : Nat} (hn : n < 2 ^ 31) (h : zK S Sx t f B) : ∃ B', f_L_refuses_j472 N (nI n) 1 B = some (1, B') ∧ zK S Sx t f B' := by
  have hN1 : 100 < N := by omega
  obtain ⟨e, B1, e1, h1, h2⟩ := rd_error (N := N) hN1 h
  have hm : n % 9 < 9 := Nat.mod_lt _ (by decide)
  have hl : (Int32.toInt64 (nI n)).toInt = (n : Int) := by rw [Int32.toInt_toInt64, nI_toInt hn]
  have q1 : (1000000000 : Int64).toInt ≤ ((1000000000 : Int64) + Int32.toInt64 (nI n)).toInt := by
    rw [Int64.toInt_add, hl, z_b9, Int.bmod_def]
    omega
  have q2 : ((-1 : Int64) - Int32.toInt64 (nI n)).toInt < 0 := by
    rw [Int64.toInt_sub, hl, show (-1 : Int64).toInt = -1 by decide, Int.bmod_def]
    omega
  unfold f_L_refuses_j472
  rw [if_neg (by decide), th_save, m_b2, if_pos (by decide), th_back, m_b2, if_pos (by decide), zi_9 hn, m_n, zt_256, th_append (by omega) (by omega), m_b2, if_pos (by decide), th_script3, m_b2, if_pos (by decide), th_script1 (by rw [z_b9] at q1; exact q1), m_b2, if_pos (by decide), th_script2 q2, m_b2, if_pos (by decide), th_simulate, m_b2, if_pos (by decide), e1, m_b2]
  by_cases c : e = -1
  · rw [if_pos c]; exact ⟨B1, rfl, h1⟩
  · obtain ⟨B2, g1, g2⟩ := h2 c
    rw [if_neg c, g1, m_b2, if_pos (by decide)]
    exact ⟨B2, rfl, g2⟩
theorem rf_352 (hN : 6000 < N) {n : Nat} (hn : n < 2 ^ 31) (h : zK S Sx t f B) : ∃ B', f_L_refuses_j352 N (nI n) 1 B = some (1, B') ∧ zK S Sx t f B' := by
  have hN1 : 100 < N := by omega
  have h1 : n % 100 < 100 := Nat.mod_lt _ (by decide)
  have h2 : n / 128 % 100 < 100 := Nat.mod_lt _ (by decide)
  have hd : n / 128 < 2 ^ 31 := Nat.lt_of_le_of_lt (Nat.div_le_self _ _) hn
  have hm : n % 9 < 9 := Nat.mod_lt _ (by decide)
  obtain ⟨x, e1, hx⟩ := rd_nearest (N := N) (a := nI (n % 100)) (b := nI (n / 128 % 100)) hN1 h (by rw [nI_toInt (by omega)]; omega) (by rw [nI_toInt (by omega)]; omega)
  unfold f_L_refuses_j352
  rw [zi_100 hn, m_n, zi_128 hn, m_n, zi_100 hd, m_n, e1, m_b2]
  rcases hx with hx | ⟨i, hi, hp, rfl⟩
  · rw [hx, if_pos (by decide)]
    exact rf_472 hN hn h
  · have hr : f_L_call N 2 (nI i) 2 0 B = some (f (4 * i + 2), B) := rd_rect (N := N) (k := 2) hN1 h hi (by omega) hp
    obtain ⟨_, r2, r3, _⟩ := zwf_cr h.2.1.2.2.1 i hi hp
    have r0 := (zwf_cr h.2.1.2.2.1 i hi hp).1
    have k2 := h.2.1.2.2.2.1.1 i 2 hi (by omega) hp
    rw [h.2.2 _ (by omega)] at k2
    rw [← k2] at r2 r3
    rw [if_neg (by rw [zl0, nI_ltI (by omega) (by omega)]; omega), if_neg (by decide), zi_9 hn, m_n, zt_5, th_rect1 h hi hp (by omega) (by omega), m_b2, if_pos (by decide), m_n, zt_100, th_move1 h hi hp (by rw [nI_toInt (by omega)]; omega), m_b2, if_pos (by decide), hr, m_b2]
    have p100 : (100 : Int32).toInt = 100 := by decide
    have hs : ((100 : Int32) - f (4 * i + 2)).toInt = 100 - (f (4 * i + 2)).toInt := by
      rw [zi_subT (by rw [p100]; omega) (by rw [p100]; omega), p100]
    unfold f_L_refuses_j463 f_L_refuses_j471
    by_cases c : f (4 * i + 2) = 0
    · rw [th_move1 h hi hp (by rw [hs, c]; decide), m_b2, hr, m_b2, if_pos c, if_pos rfl]
      exact rf_472 hN hn h
    · have cp : 0 < (f (4 * i + 2)).toInt := by
        have : (f (4 * i + 2)).toInt ≠ 0 := fun z => c (Int32.toInt_inj.mp (by rw [z]; rfl))
        omega
      rw [th_move2 h hi hp (by rw [hs]; omega) (by rw [hs]; omega), m_b2, hr, m_b2, if_neg c, if_pos rfl]
      exact rf_472 hN hn h
theorem rf_174 (hN : 6000 < N) {n : Nat} (hn : n < 2 ^ 31) (h : zK S Sx t f B) : ∃ B', f_L_refuses_j174 N (nI n) 1 B = some (1, B') ∧ zK S Sx t f B' := by
  have hN1 : 100 < N := by omega
  have hm : n % 9 < 9 := Nat.mod_lt _ (by decide)
  have s1 := zi_m1s (k := n % 9) (by omega)
  have nb : ∀ {a b c d : Int32}, (a.toInt < 0 ∨ 100 ≤ c.toInt ∨ c.toInt < a.toInt ∨ d.toInt < b.toInt ∨ b.toInt < 0) → ¬ zbk a b c d := by
    intro a b c d q z
    unfold zbk at z
    omega
  unfold f_L_refuses_j174 f_L_refuses_j347
  rw [if_neg (by decide), zi_9 hn, m_n, th_remove h (Or.inl (by omega)), m_b2, if_pos (by decide), th_move3 h (Or.inr (by decide)), m_b2, if_pos (by decide), th_window (nb (by decide)), m_b2, if_pos (by decide), m_n, zt_100, th_looks (nb (Or.inr (Or.inl (by rw [nI_toInt (by omega)]; omega)))), m_b2, if_pos (by decide), m_n, th_chosen (nb (Or.inl (by omega))), m_b2, if_pos (by decide), th_ifAdded (nb (by decide)), m_b2, if_pos (by decide), m_n, zt_100, th_nearest (fun z => by rw [nI_toInt (by omega)] at z; omega), m_b2, if_pos (by decide), m_n, th_nearest (fun z => by omega), m_b2, if_pos (by decide), rd_about0 hN1 h, m_b2]
  have hle := zct_le (t := t) 24
  by_cases c : zct t 24 < 24
  · rw [if_pos (by rw [zl24, nI_ltI (by omega) (by decide)]; exact c)]
    exact rf_352 hN hn h
  · rw [if_neg (by rw [zl24, nI_ltI (by omega) (by decide)]; exact c), th_add2 hN1 h (by omega), m_b2, if_pos (by decide)]
    exact rf_352 hN hn h
theorem rf_all (hN : 6000 < N) {n : Nat} (hn : n < 2 ^ 31) (h : zK S Sx t f B) : ∃ B', f_L_refuses N (nI n) B = some (1, B') ∧ zK S Sx t f B' := by
  have hN1 : 100 < N := by omega
  have hm : n % 9 < 9 := Nat.mod_lt _ (by decide)
  have hle := zdo_le h.2.1.2.2.1
  have s1 := zi_m1s (k := n % 9) (by omega)
  have hl1 : 1 ≤ (zdo t).length := by
    obtain ⟨u, eu⟩ := zdo_0 (t := t)
    rw [eu]; simp
  have hml : n % (zdo t).length < (zdo t).length := Nat.mod_lt _ hl1
  have nb : ∀ {a b c d : Int32}, (a.toInt < 0 ∨ 100 ≤ a.toInt ∨ c.toInt < a.toInt ∨ d.toInt < b.toInt ∨ b.toInt < 0) → ¬ zbk a b c d := by
    intro a b c d q z
    unfold zbk at z
    omega
  obtain ⟨B1, e1, h1⟩ := rd_about1 (N := N) hN1 h
  obtain ⟨B2, e2, h2⟩ := th_node3 (N := N) (n := (zdo t).length + n % 9) (q := 9) hN1 h1 (by omega) (by omega)
  obtain ⟨B3, e3, h3⟩ := th_node1 (N := N) (k := 7 + n % 9) hN1 h2 hml (by omega) (by omega)
  obtain ⟨B4, e4, h4⟩ := th_entry3 (N := N) (n := (zdo t).length) (q := -1) hN1 h3 (Nat.le_refl _) (by omega)
  obtain ⟨B5, e5, h5⟩ := th_entry1 (N := N) (q := -1 - nI (n % 9)) hN1 h4 hml (by omega)
  have hnz : ¬ nI (zdo t).length = 0 := by rw [zl0, nI_eq (by omega) (by omega)]; omega
  unfold f_L_refuses
  rw [e1, m_b2, zi_9 hn, m_n, zt_8, th_about (by omega) (by omega), m_b2, if_pos (by decide), m_n, zt_24, th_rect3 hN1 h1 (by omega) (by omega), m_b2, if_pos (by decide), m_n, nI_add, e2, m_b2, if_pos (by decide), m_nz32 hnz, zi_mod hn (by omega), m_n, m_n, zt_7, e3, m_b2, if_pos (by decide), e4, m_b2, if_pos (by decide), m_nz32 hnz, m_n, m_n, e5, m_b2, if_pos (by decide), m_n, zt_100, th_add1 (nb (Or.inr (Or.inl (by rw [nI_toInt (by omega)]; omega)))), m_b2, if_pos (by decide), th_add1 (nb (by decide)), m_b2, if_pos (by decide), th_add1 (nb (by decide)), m_b2, if_pos (by decide)]
  exact rf_174 hN hn h5
end RF
