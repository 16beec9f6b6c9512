/-! the reference's row: insert, cutOut, newSlot, clearSlot -/
theorem r_at {N : Nat} (s : Nat) : f_X3_at N (nI s) = some (nI (120 + 8 * s)) := by
  unfold f_X3_at
  simp (disch := omega) only [↓zlm1, ↓zlm2, zi_e1, zi_e2, zi_1e, zi_12, zi_21, zi_1n, zi_n1, if_true, if_false, eq_self, not_false_eq_true, not_true_eq_false, nI_add, zi_4m, zi_5m, zi_8m, zi_mul4, zi_mul5, zi_sub, nI_leI, nI_ltI, nI_eq, zl0, zl1, zl2, zl3, zl4, zl5, zl6, zl8, zl9, zl24, zl32, zl48, zl49, zl99, zl100, zl120, zl376, zl377, zl378, zl379, zl380, ↓zi_192, zi_dec, Nat.add_zero, Nat.zero_add]
theorem r_levelOf {N : Nat} {r : Nat → Int32} {s v : Nat} (hs : s < 32) (h : r (120 + 8 * s) = nI v) (hv : 0 < v) : f_X3_levelOf N 380 (nI s) r = some (nI (v - 1)) := by
  unfold f_X3_levelOf
  simp (disch := omega) only [r_at, ↓zlm1, ↓zlm2, zi_e1, zi_e2, zi_1e, zi_12, zi_21, zi_1n, zi_n1, if_true, if_false, eq_self, not_false_eq_true, not_true_eq_false, nI_add, zi_4m, zi_5m, zi_8m, zi_mul4, zi_mul5, zi_sub, nI_leI, nI_ltI, nI_eq, zl0, zl1, zl2, zl3, zl4, zl5, zl6, zl8, zl9, zl24, zl32, zl48, zl49, zl99, zl100, zl120, zl376, zl377, zl378, zl379, zl380, ↓zi_192, zi_dec, Nat.add_zero, Nat.zero_add, m_n, m_b1, m_b2, m_rd, m_wr, m_get, m_put, nI_clamp, st_at, st_ne, up_at, up_ne, if_pos, if_neg, h]
theorem r_many {N : Nat} {r : Nat → Int32} {s : Nat} (hs : s < 32) : f_X3_many N 380 (nI s) r = some (r (120 + 8 * s + 1)) := by
  unfold f_X3_many
  simp (disch := omega) only [r_at, ↓zlm1, ↓zlm2, zi_e1, zi_e2, zi_1e, zi_12, zi_21, zi_1n, zi_n1, if_true, if_false, eq_self, not_false_eq_true, not_true_eq_false, nI_add, zi_4m, zi_5m, zi_8m, zi_mul4, zi_mul5, zi_sub, nI_leI, nI_ltI, nI_eq, zl0, zl1, zl2, zl3, zl4, zl5, zl6, zl8, zl9, zl24, zl32, zl48, zl49, zl99, zl100, zl120, zl376, zl377, zl378, zl379, zl380, ↓zi_192, zi_dec, Nat.add_zero, Nat.zero_add, m_n, m_b1, m_b2, m_rd, m_wr, m_get, m_put, nI_clamp, st_at, st_ne, up_at, up_ne, if_pos, if_neg]
theorem r_entryOf {N : Nat} {r : Nat → Int32} {s k : Nat} (hs : s < 32) (hk : k < 6) : f_X3_entryOf N 380 (nI s) (nI k) r = some (r (120 + 8 * s + 2 + k)) := by
  unfold f_X3_entryOf
  simp (disch := omega) only [r_at, ↓zlm1, ↓zlm2, zi_e1, zi_e2, zi_1e, zi_12, zi_21, zi_1n, zi_n1, if_true, if_false, eq_self, not_false_eq_true, not_true_eq_false, nI_add, zi_4m, zi_5m, zi_8m, zi_mul4, zi_mul5, zi_sub, nI_leI, nI_ltI, nI_eq, zl0, zl1, zl2, zl3, zl4, zl5, zl6, zl8, zl9, zl24, zl32, zl48, zl49, zl99, zl100, zl120, zl376, zl377, zl378, zl379, zl380, ↓zi_192, zi_dec, Nat.add_zero, Nat.zero_add, m_n, m_b1, m_b2, m_rd, m_wr, m_get, m_put, nI_clamp, st_at, st_ne, up_at, up_ne, if_pos, if_neg]
theorem r_insert_l {N : Nat} (s p c m : Nat) (hs : s < 32) (hm : m < 6) : ∀ (d n : Nat) (r : Nat → Int32), d < n → p + d ≤ m → r (120 + 8 * s + 1) = nI m →
    ∃ r', f_X3_insert_l15 N 380 n (nI s) (nI p) (nI c) (nI (120 + 8 * s + 2)) (nI (p + d)) r = some r' ∧ r' (120 + 8 * s + 1) = nI (m + 1) ∧ r' (120 + 8 * s + 2 + p) = nI c ∧ (∀ j, 120 + 8 * s + 2 + p ≤ j → j < 120 + 8 * s + 2 + p + d → r' (j + 1) = r j) ∧ (∀ j, (j < 120 + 8 * s + 1 ∨ (120 + 8 * s + 1 < j ∧ j < 120 + 8 * s + 2 + p) ∨ 120 + 8 * s + 2 + p + d < j) → r' j = r j)
  | 0, n + 1, r, _, hb, hr => by
    rw [f_X3_insert_l15]
    simp (disch := omega) only [r_at, ↓zlm1, ↓zlm2, zi_e1, zi_e2, zi_1e, zi_12, zi_21, zi_1n, zi_n1, if_true, if_false, eq_self, not_false_eq_true, not_true_eq_false, nI_add, zi_4m, zi_5m, zi_8m, zi_mul4, zi_mul5, zi_sub, nI_leI, nI_ltI, nI_eq, zl0, zl1, zl2, zl3, zl4, zl5, zl6, zl8, zl9, zl24, zl32, zl48, zl49, zl99, zl100, zl120, zl376, zl377, zl378, zl379, zl380, ↓zi_192, zi_dec, Nat.add_zero, Nat.zero_add, m_n, m_b1, m_b2, m_rd, m_wr, m_get, m_put, nI_clamp, st_at, st_ne, up_at, up_ne, if_pos, if_neg, hr]
    refine ⟨_, rfl, ?_, ?_, ?_, ?_⟩
    · simp (disch := omega) only [m_n, m_b1, m_b2, m_rd, m_wr, m_get, m_put, nI_clamp, st_at, st_ne, up_at, up_ne, if_pos, if_neg]
    · simp (disch := omega) only [m_n, m_b1, m_b2, m_rd, m_wr, m_get, m_put, nI_clamp, st_at, st_ne, up_at, up_ne, if_pos, if_neg]
    · intro j h1 h2; omega
    · intro j h1
      simp (disch := omega) only [m_n, m_b1, m_b2, m_rd, m_wr, m_get, m_put, nI_clamp, st_at, st_ne, up_at, up_ne, if_pos, if_neg]
  | d + 1, n + 1, r, hd, hb, hr => by
    rw [f_X3_insert_l15]
    simp (disch := omega) only [↓zlm1, ↓zlm2, zi_e1, zi_e2, zi_1e, zi_12, zi_21, zi_1n, zi_n1, if_true, if_false, eq_self, not_false_eq_true, not_true_eq_false, nI_add, zi_4m, zi_5m, zi_8m, zi_mul4, zi_mul5, zi_sub, nI_leI, nI_ltI, nI_eq, zl0, zl1, zl2, zl3, zl4, zl5, zl6, zl8, zl9, zl24, zl32, zl48, zl49, zl99, zl100, zl120, zl376, zl377, zl378, zl379, zl380, ↓zi_192, zi_dec, Nat.add_zero, Nat.zero_add, m_n, m_b1, m_b2, m_rd, m_wr, m_get, m_put, nI_clamp, st_at, st_ne, up_at, up_ne, if_pos, if_neg]
    obtain ⟨r', e, h1, h4, h5, h6⟩ := r_insert_l (N := N) s p c m hs hm d n (upd r (120 + 8 * s + 2 + (p + (d + 1))) (r (120 + 8 * s + 2 + (p + (d + 1)) - 1))) (by omega) (by omega) (by rw [up_ne (by omega)]; exact hr)
    rw [show p + (d + 1) - 1 = p + d from rfl, e]
    refine ⟨r', rfl, h1, h4, ?_, ?_⟩
    · intro j hj1 hj2
      by_cases hj : j < 120 + 8 * s + 2 + p + d
      · rw [h5 j hj1 hj]
        simp (disch := omega) only [m_n, m_b1, m_b2, m_rd, m_wr, m_get, m_put, nI_clamp, st_at, st_ne, up_at, up_ne, if_pos, if_neg]
      · rw [h6 (j + 1) (by omega), show j + 1 = 120 + 8 * s + 2 + (p + (d + 1)) by omega, up_at]
        exact congrArg r (by omega)
    · intro j hj
      rw [h6 j (by omega)]
      simp (disch := omega) only [m_n, m_b1, m_b2, m_rd, m_wr, m_get, m_put, nI_clamp, st_at, st_ne, up_at, up_ne, if_pos, if_neg]
theorem r_insert {N : Nat} (hN : 100 < N) {r : Nat → Int32} {s c : Nat} {l m : List Nat} (hs : s < 32) (hr : r (120 + 8 * s + 1) = nI (l ++ m).length) (hz : zat r (120 + 8 * s + 2) (l ++ m)) (hb : (l ++ m).length < 6) :
    ∃ r', f_X3_insert N 380 (nI s) (nI l.length) (nI c) r = some r' ∧ r' (120 + 8 * s + 1) = nI (l ++ c :: m).length ∧ zat r' (120 + 8 * s + 2) (l ++ c :: m) ∧ (∀ j, (j < 120 + 8 * s + 1 ∨ 120 + 8 * s + 8 ≤ j) → r' j = r j) := by
  have hlen : (l ++ m).length = l.length + m.length := List.length_append
  have hlen2 : (l ++ c :: m).length = l.length + m.length + 1 := by simp [Nat.add_assoc]
  rw [hlen] at hb hr
  obtain ⟨r', e, h1, h4, h5, h6⟩ := r_insert_l (N := N) s l.length c (l.length + m.length) hs hb m.length N r (by omega) (by omega) hr
  refine ⟨r', ?_, by rw [hlen2]; exact h1, ?_, fun j hj => h6 j (by omega)⟩
  · unfold f_X3_insert
    simp (disch := omega) only [r_at, r_many, ↓zlm1, ↓zlm2, zi_e1, zi_e2, zi_1e, zi_12, zi_21, zi_1n, zi_n1, if_true, if_false, eq_self, not_false_eq_true, not_true_eq_false, nI_add, zi_4m, zi_5m, zi_8m, zi_mul4, zi_mul5, zi_sub, nI_leI, nI_ltI, nI_eq, zl0, zl1, zl2, zl3, zl4, zl5, zl6, zl8, zl9, zl24, zl32, zl48, zl49, zl99, zl100, zl120, zl376, zl377, zl378, zl379, zl380, ↓zi_192, zi_dec, Nat.add_zero, Nat.zero_add, m_n, m_b1, m_b2, m_rd, m_wr, m_get, m_put, nI_clamp, st_at, st_ne, up_at, up_ne, if_pos, if_neg, hr, e]
  · rw [zat_app] at hz
    rw [zat_app]
    refine ⟨zat_congr (fun j z1 z2 => h6 j (by omega)) hz.1, h4, ?_⟩
    exact zat_up (fun j z1 z2 => h5 j z1 z2) hz.2
theorem r_cut_l2 {N : Nat} (s M : Nat) (hs : s < 32) (hM : M < 6) : ∀ (d p n : Nat) (r : Nat → Int32), d < n → p + d = M → r (120 + 8 * s + 1) = nI M →
    ∃ r', f_X3_cutOut_l42 N 380 n (nI s) (nI (120 + 8 * s + 2)) (nI p) r = some r' ∧ (∀ j, 120 + 8 * s + 2 + p ≤ j → j < 120 + 8 * s + 2 + M → r' j = r (j + 1)) ∧ (∀ j, (j < 120 + 8 * s + 2 + p ∨ 120 + 8 * s + 2 + M < j) → r' j = r j)
  | 0, p, n + 1, r, _, hb, hr => by
    rw [f_X3_cutOut_l42]
    simp (disch := omega) only [r_at, r_many, ↓zlm1, ↓zlm2, zi_e1, zi_e2, zi_1e, zi_12, zi_21, zi_1n, zi_n1, if_true, if_false, eq_self, not_false_eq_true, not_true_eq_false, nI_add, zi_4m, zi_5m, zi_8m, zi_mul4, zi_mul5, zi_sub, nI_leI, nI_ltI, nI_eq, zl0, zl1, zl2, zl3, zl4, zl5, zl6, zl8, zl9, zl24, zl32, zl48, zl49, zl99, zl100, zl120, zl376, zl377, zl378, zl379, zl380, ↓zi_192, zi_dec, Nat.add_zero, Nat.zero_add, m_n, m_b1, m_b2, m_rd, m_wr, m_get, m_put, nI_clamp, st_at, st_ne, up_at, up_ne, if_pos, if_neg, hr]
    refine ⟨_, rfl, ?_, ?_⟩
    · intro j h1 h2; omega
    · intro j h1
      simp (disch := omega) only [m_n, m_b1, m_b2, m_rd, m_wr, m_get, m_put, nI_clamp, st_at, st_ne, up_at, up_ne, if_pos, if_neg]
  | d + 1, p, n + 1, r, hd, hb, hr => by
    rw [f_X3_cutOut_l42]
    simp (disch := omega) only [r_at, r_many, ↓zlm1, ↓zlm2, zi_e1, zi_e2, zi_1e, zi_12, zi_21, zi_1n, zi_n1, if_true, if_false, eq_self, not_false_eq_true, not_true_eq_false, nI_add, zi_4m, zi_5m, zi_8m, zi_mul4, zi_mul5, zi_sub, nI_leI, nI_ltI, nI_eq, zl0, zl1, zl2, zl3, zl4, zl5, zl6, zl8, zl9, zl24, zl32, zl48, zl49, zl99, zl100, zl120, zl376, zl377, zl378, zl379, zl380, ↓zi_192, zi_dec, Nat.add_zero, Nat.zero_add, m_n, m_b1, m_b2, m_rd, m_wr, m_get, m_put, nI_clamp, st_at, st_ne, up_at, up_ne, if_pos, if_neg, hr]
    obtain ⟨r', e, h5, h6⟩ := r_cut_l2 (N := N) s M hs hM d (p + 1) n (upd r (120 + 8 * s + 2 + p) (r (120 + 8 * s + 2 + p + 1))) (by omega) (by omega) (by rw [up_ne (by omega)]; exact hr)
    rw [e]
    refine ⟨r', rfl, ?_, ?_⟩
    · intro j hj1 hj2
      by_cases hj : j = 120 + 8 * s + 2 + p
      · rw [h6 j (by omega), hj, up_at]
      · rw [h5 j (by omega) (by omega)]
        simp (disch := omega) only [m_n, m_b1, m_b2, m_rd, m_wr, m_get, m_put, nI_clamp, st_at, st_ne, up_at, up_ne, if_pos, if_neg]
    · intro j hj
      rw [h6 j (by omega)]
      simp (disch := omega) only [m_n, m_b1, m_b2, m_rd, m_wr, m_get, m_put, nI_clamp, st_at, st_ne, up_at, up_ne, if_pos, if_neg]
theorem r_cut_l {N : Nat} (hN : 100 < N) {r : Nat → Int32} (s c : Nat) (hs : s < 32) (hc : c < 100) : ∀ (l m : List Nat) (k n : Nat), l.length < n → zat r (120 + 8 * s + 2 + k) (l ++ c :: m) → c ∉ l → (∀ x, x ∈ l → x < 100) → k + (l ++ c :: m).length < 7 → r (120 + 8 * s + 1) = nI (k + (l ++ c :: m).length) →
    ∃ r', f_X3_cutOut_l10 N 380 n (nI s) (nI c) (nI (120 + 8 * s + 2)) (nI k) r = some r' ∧ r' (120 + 8 * s + 1) = nI (k + (l ++ m).length) ∧ zat r' (120 + 8 * s + 2 + k) (l ++ m) ∧ (∀ j, (j < 120 + 8 * s + 1 ∨ (120 + 8 * s + 2 ≤ j ∧ j < 120 + 8 * s + 2 + k + l.length) ∨ 120 + 8 * s + 8 ≤ j) → r' j = r j)
  | [], m, k, n + 1, _, hz, _, _, hb, hr => by
    have h0 : r (120 + 8 * s + 2 + k) = nI c := hz.1
    simp only [List.nil_append, List.length_cons] at hb hr
    rw [f_X3_cutOut_l10]
    obtain ⟨r', e, h5, h6⟩ := r_cut_l2 (N := N) s (k + m.length) hs (by omega) m.length k N (upd r (120 + 8 * s + 1) (nI (k + m.length))) (by omega) (by omega) up_at
    simp (disch := omega) only [r_at, ↓zlm1, ↓zlm2, zi_e1, zi_e2, zi_1e, zi_12, zi_21, zi_1n, zi_n1, if_true, if_false, eq_self, not_false_eq_true, not_true_eq_false, nI_add, zi_4m, zi_5m, zi_8m, zi_mul4, zi_mul5, zi_sub, nI_leI, nI_ltI, nI_eq, zl0, zl1, zl2, zl3, zl4, zl5, zl6, zl8, zl9, zl24, zl32, zl48, zl49, zl99, zl100, zl120, zl376, zl377, zl378, zl379, zl380, ↓zi_192, zi_dec, Nat.add_zero, Nat.zero_add, m_n, m_b1, m_b2, m_rd, m_wr, m_get, m_put, nI_clamp, st_at, st_ne, up_at, up_ne, if_pos, if_neg, h0, hr]
    rw [show k + (m.length + 1) - 1 = k + m.length from rfl, e]
    refine ⟨r', rfl, ?_, ?_, ?_⟩
    · rw [h6 _ (by omega), up_at]; simp
    · simp only [List.nil_append]
      refine zat_dn (f := r) (fun j z1 z2 => ?_) hz.2
      rw [h5 j (by omega) (by omega), up_ne (by omega)]
    · intro j hj
      simp only [List.length_nil] at hj
      rw [h6 j (by omega), up_ne (by omega)]
  | x :: l, m, k, n + 1, hn, hz, hx, hi, hb, hr => by
    have h0 : r (120 + 8 * s + 2 + k) = nI x := hz.1
    have h1 : x < 100 := hi x (by simp)
    have h2 : ¬ x = c := fun e => hx (by simp [e])
    have hl2 : (l ++ c :: m).length = l.length + (m.length + 1) := by simp
    simp only [List.cons_append, List.length_cons, hl2] at hb hr hn
    rw [f_X3_cutOut_l10]
    simp (disch := omega) only [↓zlm1, ↓zlm2, zi_e1, zi_e2, zi_1e, zi_12, zi_21, zi_1n, zi_n1, if_true, if_false, eq_self, not_false_eq_true, not_true_eq_false, nI_add, zi_4m, zi_5m, zi_8m, zi_mul4, zi_mul5, zi_sub, nI_leI, nI_ltI, nI_eq, zl0, zl1, zl2, zl3, zl4, zl5, zl6, zl8, zl9, zl24, zl32, zl48, zl49, zl99, zl100, zl120, zl376, zl377, zl378, zl379, zl380, ↓zi_192, zi_dec, Nat.add_zero, Nat.zero_add, m_n, m_b1, m_b2, m_rd, m_wr, m_get, m_put, nI_clamp, st_at, st_ne, up_at, up_ne, if_pos, if_neg, h0]
    obtain ⟨r', e, h3, h4, h5⟩ := r_cut_l (N := N) hN s c hs hc l m (k + 1) n (by omega) (by rw [← Nat.add_assoc]; exact hz.2) (fun z => hx (List.mem_cons_of_mem _ z)) (fun y hy => hi y (List.mem_cons_of_mem _ hy)) (by rw [hl2]; omega) (by rw [hr, hl2]; congr 1; omega)
    rw [e]
    refine ⟨r', rfl, ?_, ⟨?_, ?_⟩, ?_⟩
    · rw [h3]; simp only [List.cons_append, List.length_cons]; congr 1; omega
    · rw [h5 _ (by omega)]; exact h0
    · rw [← Nat.add_assoc] at h4; exact h4
    · intro j hj
      simp only [List.length_cons] at hj
      exact h5 j (by omega)
theorem r_cutOut {N : Nat} (hN : 100 < N) {r : Nat → Int32} {s c : Nat} {l m : List Nat} (hs : s < 32) (hc : c < 100) (hz : zat r (120 + 8 * s + 2) (l ++ c :: m)) (hx : c ∉ l) (hi : ∀ x, x ∈ l → x < 100) (hb : (l ++ c :: m).length < 7) (hr : r (120 + 8 * s + 1) = nI (l ++ c :: m).length) :
    ∃ r', f_X3_cutOut N 380 (nI s) (nI c) r = some r' ∧ r' (120 + 8 * s + 1) = nI (l ++ m).length ∧ zat r' (120 + 8 * s + 2) (l ++ m) ∧ (∀ j, (j < 120 + 8 * s + 1 ∨ 120 + 8 * s + 8 ≤ j) → r' j = r j) := by
  have hlen : (l ++ c :: m).length = l.length + (m.length + 1) := by simp
  obtain ⟨r', e, h1, h2, h3⟩ := r_cut_l (N := N) hN s c hs hc l m 0 N (by omega) hz hx hi (by omega) (by rw [hr, Nat.zero_add])
  refine ⟨r', ?_, by rw [h1, Nat.zero_add], h2, fun j hj => h3 j (by omega)⟩
  unfold f_X3_cutOut
  simp (disch := omega) only [r_at, ↓zlm1, ↓zlm2, zi_e1, zi_e2, zi_1e, zi_12, zi_21, zi_1n, zi_n1, if_true, if_false, eq_self, not_false_eq_true, not_true_eq_false, nI_add, zi_4m, zi_5m, zi_8m, zi_mul4, zi_mul5, zi_sub, nI_leI, nI_ltI, nI_eq, zl0, zl1, zl2, zl3, zl4, zl5, zl6, zl8, zl9, zl24, zl32, zl48, zl49, zl99, zl100, zl120, zl376, zl377, zl378, zl379, zl380, ↓zi_192, zi_dec, Nat.add_zero, Nat.zero_add, m_n, m_b1, m_b2, m_rd, m_wr, m_get, m_put, nI_clamp, st_at, st_ne, up_at, up_ne, if_pos, if_neg]
  exact e
theorem r_clear_l {N : Nat} (s : Nat) (hs : s < 32) : ∀ (d k n : Nat) (r : Nat → Int32), d < n → k + d = 8 →
    ∃ r', f_X3_clearSlot_l2 N 380 n (nI s) (nI k) r = some r' ∧ (∀ j, 120 + 8 * s + k ≤ j → j < 120 + 8 * s + 8 → r' j = 0) ∧ (∀ j, (j < 120 + 8 * s + k ∨ 120 + 8 * s + 8 ≤ j) → r' j = r j)
  | 0, k, n + 1, r, _, hk => by
    rw [f_X3_clearSlot_l2]
    simp (disch := omega) only [r_at, ↓zlm1, ↓zlm2, zi_e1, zi_e2, zi_1e, zi_12, zi_21, zi_1n, zi_n1, if_true, if_false, eq_self, not_false_eq_true, not_true_eq_false, nI_add, zi_4m, zi_5m, zi_8m, zi_mul4, zi_mul5, zi_sub, nI_leI, nI_ltI, nI_eq, zl0, zl1, zl2, zl3, zl4, zl5, zl6, zl8, zl9, zl24, zl32, zl48, zl49, zl99, zl100, zl120, zl376, zl377, zl378, zl379, zl380, ↓zi_192, zi_dec, Nat.add_zero, Nat.zero_add, m_n, m_b1, m_b2, m_rd, m_wr, m_get, m_put, nI_clamp, st_at, st_ne, up_at, up_ne, if_pos, if_neg]
    exact ⟨_, rfl, fun j h1 h2 => by omega, fun j _ => rfl⟩
  | d + 1, k, n + 1, r, hd, hk => by
    rw [f_X3_clearSlot_l2]
    simp (disch := omega) only [r_at, ↓zlm1, ↓zlm2, zi_e1, zi_e2, zi_1e, zi_12, zi_21, zi_1n, zi_n1, if_true, if_false, eq_self, not_false_eq_true, not_true_eq_false, nI_add, zi_4m, zi_5m, zi_8m, zi_mul4, zi_mul5, zi_sub, nI_leI, nI_ltI, nI_eq, zl0, zl1, zl2, zl3, zl4, zl5, zl6, zl8, zl9, zl24, zl32, zl48, zl49, zl99, zl100, zl120, zl376, zl377, zl378, zl379, zl380, ↓zi_192, zi_dec, Nat.add_zero, Nat.zero_add, m_n, m_b1, m_b2, m_rd, m_wr, m_get, m_put, nI_clamp, st_at, st_ne, up_at, up_ne, if_pos, if_neg]
    obtain ⟨r', e, h5, h6⟩ := r_clear_l (N := N) s hs d (k + 1) n (upd r (120 + 8 * s + k) (nI 0)) (by omega) (by omega)
    rw [e]
    refine ⟨r', rfl, ?_, ?_⟩
    · intro j hj1 hj2
      by_cases hj : j = 120 + 8 * s + k
      · rw [h6 j (by omega), hj, up_at]
      · exact h5 j (by omega) hj2
    · intro j hj
      rw [h6 j (by omega), up_ne (by omega)]
theorem r_clear {N : Nat} (hN : 100 < N) {r : Nat → Int32} {s : Nat} (hs : s < 32) :
    ∃ r', f_X3_clearSlot N 380 (nI s) r = some r' ∧ (∀ j, 120 + 8 * s ≤ j → j < 120 + 8 * s + 8 → r' j = 0) ∧ (∀ j, (j < 120 + 8 * s ∨ 120 + 8 * s + 8 ≤ j) → r' j = r j) := by
  obtain ⟨r', e, h5, h6⟩ := r_clear_l (N := N) s hs 8 0 N r (by omega) (by omega)
  exact ⟨r', e, h5, h6⟩
theorem r_new_l {N : Nat} (hN : 100 < N) {r : Nat → Int32} (v s : Nat) (hs : s < 32) (hf : r (120 + 8 * s) = nI 0) : ∀ (d n k : Nat), d < n → k + d = s → (∀ i, k ≤ i → i < s → ∃ w, r (120 + 8 * i) = nI (w + 1) ∧ w < 100) →
    ∃ r', f_X3_newSlot_l2 N 380 n (nI v) (nI k) r = some (nI s, r') ∧ r' (120 + 8 * s) = nI (v + 1) ∧ (∀ j, 120 + 8 * s < j → j < 120 + 8 * s + 8 → r' j = 0) ∧ (∀ j, (j < 120 + 8 * s ∨ 120 + 8 * s + 8 ≤ j) → r' j = r j)
  | 0, n + 1, k, _, hk, _ => by
    have : k = s := by omega
    subst this
    obtain ⟨g, e, h5, h6⟩ := r_clear (N := N) hN (r := r) hs
    rw [f_X3_newSlot_l2]
    simp (disch := omega) only [r_at, ↓zlm1, ↓zlm2, zi_e1, zi_e2, zi_1e, zi_12, zi_21, zi_1n, zi_n1, if_true, if_false, eq_self, not_false_eq_true, not_true_eq_false, nI_add, zi_4m, zi_5m, zi_8m, zi_mul4, zi_mul5, zi_sub, nI_leI, nI_ltI, nI_eq, zl0, zl1, zl2, zl3, zl4, zl5, zl6, zl8, zl9, zl24, zl32, zl48, zl49, zl99, zl100, zl120, zl376, zl377, zl378, zl379, zl380, ↓zi_192, zi_dec, Nat.add_zero, Nat.zero_add, m_n, m_b1, m_b2, m_rd, m_wr, m_get, m_put, nI_clamp, st_at, st_ne, up_at, up_ne, if_pos, if_neg, hf, e]
    refine ⟨_, rfl, up_at, fun j h1 h2 => ?_, fun j h1 => ?_⟩
    · rw [up_ne (by omega)]; exact h5 j (by omega) h2
    · rw [up_ne (by omega)]; exact h6 j h1
  | d + 1, n + 1, k, hd, hk, hh => by
    obtain ⟨w, h1, hw⟩ := hh k (Nat.le_refl k) (by omega)
    rw [f_X3_newSlot_l2]
    simp (disch := omega) only [r_at, ↓zlm1, ↓zlm2, zi_e1, zi_e2, zi_1e, zi_12, zi_21, zi_1n, zi_n1, if_true, if_false, eq_self, not_false_eq_true, not_true_eq_false, nI_add, zi_4m, zi_5m, zi_8m, zi_mul4, zi_mul5, zi_sub, nI_leI, nI_ltI, nI_eq, zl0, zl1, zl2, zl3, zl4, zl5, zl6, zl8, zl9, zl24, zl32, zl48, zl49, zl99, zl100, zl120, zl376, zl377, zl378, zl379, zl380, ↓zi_192, zi_dec, Nat.add_zero, Nat.zero_add, m_n, m_b1, m_b2, m_rd, m_wr, m_get, m_put, nI_clamp, st_at, st_ne, up_at, up_ne, if_pos, if_neg, h1]
    exact r_new_l hN v s hs hf d n (k + 1) (by omega) (by omega) (fun i z1 z2 => hh i (by omega) z2)
theorem r_new {N : Nat} (hN : 100 < N) {r : Nat → Int32} (v s : Nat) (hs : s < 32) (hf : r (120 + 8 * s) = nI 0) (hh : ∀ i, i < s → ∃ w, r (120 + 8 * i) = nI (w + 1) ∧ w < 100) :
    ∃ r', f_X3_newSlot N 380 (nI v) r = some (nI s, r') ∧ r' (120 + 8 * s) = nI (v + 1) ∧ (∀ j, 120 + 8 * s < j → j < 120 + 8 * s + 8 → r' j = 0) ∧ (∀ j, (j < 120 + 8 * s ∨ 120 + 8 * s + 8 ≤ j) → r' j = r j) := by
  unfold f_X3_newSlot
  exact r_new_l hN v s hs hf s N 0 (by omega) (by omega) (fun i _ z2 => hh i z2)
