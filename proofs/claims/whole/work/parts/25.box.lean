/-! numbers of boxes, in the class and in the reference -/
theorem m_area {N : Nat} {T : zx_S} {c : Nat} (hc : c < 49) : f_X1_area N (nI c) T = some (zar (T 0) c) := by
  unfold f_X1_area zar
  simp (disch := omega) only [↓zlm1, ↓zlm2, zi_e1, zi_e2, zi_1e, zi_12, zi_21, zi_1n, zi_n1, if_true, if_false, eq_self, not_false_eq_true, not_true_eq_false, nI_add, zi_4m, zi_5m, zi_8m, zi_mul4, zi_mul5, zi_sub, nI_leI, nI_ltI, nI_eq, zl0, zl1, zl2, zl3, zl4, zl5, zl6, zl8, zl9, zl24, zl32, zl48, zl49, zl99, zl100, zl120, zl376, zl377, zl378, zl379, zl380, ↓zi_192, zi_dec, Nat.add_zero, Nat.zero_add, m_n, m_b1, m_b2, m_rd, m_wr, m_get, m_put, nI_clamp, st_at, st_ne, up_at, up_ne, if_pos, if_neg]
theorem m_joinArea {N : Nat} {T : zx_S} {c d : Nat} (hc : c < 49) (hd : d < 49) : f_X1_joinArea N (nI c) (nI d) T = some (zja (T 0) c d) := by
  unfold f_X1_joinArea zja zmx zmn
  simp (disch := omega) only [↓zlm1, ↓zlm2, zi_e1, zi_e2, zi_1e, zi_12, zi_21, zi_1n, zi_n1, if_true, if_false, eq_self, not_false_eq_true, not_true_eq_false, nI_add, zi_4m, zi_5m, zi_8m, zi_mul4, zi_mul5, zi_sub, nI_leI, nI_ltI, nI_eq, zl0, zl1, zl2, zl3, zl4, zl5, zl6, zl8, zl9, zl24, zl32, zl48, zl49, zl99, zl100, zl120, zl376, zl377, zl378, zl379, zl380, ↓zi_192, zi_dec, Nat.add_zero, Nat.zero_add, m_n, m_b1, m_b2, m_rd, m_wr, m_get, m_put, nI_clamp, st_at, st_ne, up_at, up_ne, if_pos, if_neg]
theorem m_common {N : Nat} {T : zx_S} {c d : Nat} (hc : c < 49) (hd : d < 49) : f_X1_commonCells N (nI c) (nI d) T = some (zcc (T 0) c d) := by
  unfold f_X1_commonCells
  simp (disch := omega) only [↓zlm1, ↓zlm2, zi_e1, zi_e2, zi_1e, zi_12, zi_21, zi_1n, zi_n1, if_true, if_false, eq_self, not_false_eq_true, not_true_eq_false, nI_add, zi_4m, zi_5m, zi_8m, zi_mul4, zi_mul5, zi_sub, nI_leI, nI_ltI, nI_eq, zl0, zl1, zl2, zl3, zl4, zl5, zl6, zl8, zl9, zl24, zl32, zl48, zl49, zl99, zl100, zl120, zl376, zl377, zl378, zl379, zl380, ↓zi_192, zi_dec, Nat.add_zero, Nat.zero_add, m_n, m_b1, m_b2, m_rd, m_wr, m_get, m_put, nI_clamp, st_at, st_ne, up_at, up_ne, if_pos, if_neg]
  change (if zcw (T 0) c d ≤ nI 0 then some (nI 0) else if zch (T 0) c d ≤ nI 0 then some (nI 0) else some (zcw (T 0) c d * zch (T 0) c d)) = some (if zcw (T 0) c d ≤ nI 0 then nI 0 else if zch (T 0) c d ≤ nI 0 then nI 0 else zcw (T 0) c d * zch (T 0) c d)
  split
  · rfl
  · split <;> rfl
theorem m_middle {N : Nat} {T : zx_S} {c d : Nat} (hc : c < 49) (hd : d < 49) : f_X1_middleDistance N (nI c) (nI d) T = some (zmd (T 0) c d) := by
  unfold f_X1_middleDistance zmd
  simp (disch := omega) only [↓zlm1, ↓zlm2, zi_e1, zi_e2, zi_1e, zi_12, zi_21, zi_1n, zi_n1, if_true, if_false, eq_self, not_false_eq_true, not_true_eq_false, nI_add, zi_4m, zi_5m, zi_8m, zi_mul4, zi_mul5, zi_sub, nI_leI, nI_ltI, nI_eq, zl0, zl1, zl2, zl3, zl4, zl5, zl6, zl8, zl9, zl24, zl32, zl48, zl49, zl99, zl100, zl120, zl376, zl377, zl378, zl379, zl380, ↓zi_192, zi_dec, Nat.add_zero, Nat.zero_add, m_n, m_b1, m_b2, m_rd, m_wr, m_get, m_put, nI_clamp, st_at, st_ne, up_at, up_ne, if_pos, if_neg]
theorem m_corner {N : Nat} {T : zx_S} {c k : Nat} (hc : c < 49) (hk : k < 4) : f_X1_corner N (nI c) (nI k) T = some (T 0 (4 * c + k)) := by
  unfold f_X1_corner
  simp (disch := omega) only [↓zlm1, ↓zlm2, zi_e1, zi_e2, zi_1e, zi_12, zi_21, zi_1n, zi_n1, if_true, if_false, eq_self, not_false_eq_true, not_true_eq_false, nI_add, zi_4m, zi_5m, zi_8m, zi_mul4, zi_mul5, zi_sub, nI_leI, nI_ltI, nI_eq, zl0, zl1, zl2, zl3, zl4, zl5, zl6, zl8, zl9, zl24, zl32, zl48, zl49, zl99, zl100, zl120, zl376, zl377, zl378, zl379, zl380, ↓zi_192, zi_dec, Nat.add_zero, Nat.zero_add, m_n, m_b1, m_b2, m_rd, m_wr, m_get, m_put, nI_clamp, st_at, st_ne, up_at, up_ne, if_pos, if_neg]
theorem r_less {N : Nat} {a b : Int32} : f_X3_less N a b = some (zmn a b) := by
  unfold f_X3_less zmn
  by_cases h : b ≤ a
  · by_cases h2 : b < a
    · rw [if_pos h, if_pos h2]
    · have : b = a := by
        rw [Int32.lt_iff_toInt_lt] at h2
        rw [Int32.le_iff_toInt_le] at h
        exact Int32.toInt_inj.mp (by omega)
      rw [if_pos h, if_neg h2, this]
  · have h2 : ¬ b < a := by
      rw [Int32.lt_iff_toInt_lt]
      rw [Int32.le_iff_toInt_le] at h
      omega
    rw [if_neg h, if_neg h2]
theorem r_more {N : Nat} {a b : Int32} : f_X3_more N a b = some (zmx a b) := by
  unfold f_X3_more zmx
  by_cases h : a ≤ b
  · by_cases h2 : a < b
    · rw [if_pos h, if_pos h2]
    · have : b = a := by
        rw [Int32.lt_iff_toInt_lt] at h2
        rw [Int32.le_iff_toInt_le] at h
        exact Int32.toInt_inj.mp (by omega)
      rw [if_pos h, if_neg h2, this]
  · have h2 : ¬ a < b := by
      rw [Int32.lt_iff_toInt_lt]
      rw [Int32.le_iff_toInt_le] at h
      omega
    rw [if_neg h, if_neg h2]
theorem r_area {N : Nat} {S : zx_S} {c : Nat} (hc : c < 56) : f_X3_area N (nI c) S = some (zar (S 6) c) := by
  unfold f_X3_area zar
  simp (disch := omega) only [↓zlm1, ↓zlm2, zi_e1, zi_e2, zi_1e, zi_12, zi_21, zi_1n, zi_n1, if_true, if_false, eq_self, not_false_eq_true, not_true_eq_false, nI_add, zi_4m, zi_5m, zi_8m, zi_mul4, zi_mul5, zi_sub, nI_leI, nI_ltI, nI_eq, zl0, zl1, zl2, zl3, zl4, zl5, zl6, zl8, zl9, zl24, zl32, zl48, zl49, zl99, zl100, zl120, zl376, zl377, zl378, zl379, zl380, ↓zi_192, zi_dec, Nat.add_zero, Nat.zero_add, m_n, m_b1, m_b2, m_rd, m_wr, m_get, m_put, nI_clamp, st_at, st_ne, up_at, up_ne, if_pos, if_neg]
theorem r_joinArea {N : Nat} {S : zx_S} {c d : Nat} (hc : c < 56) (hd : d < 56) : f_X3_joinArea N (nI c) (nI d) S = some (zja (S 6) c d) := by
  unfold f_X3_joinArea zja
  simp (disch := omega) only [r_less, r_more, ↓zlm1, ↓zlm2, zi_e1, zi_e2, zi_1e, zi_12, zi_21, zi_1n, zi_n1, if_true, if_false, eq_self, not_false_eq_true, not_true_eq_false, nI_add, zi_4m, zi_5m, zi_8m, zi_mul4, zi_mul5, zi_sub, nI_leI, nI_ltI, nI_eq, zl0, zl1, zl2, zl3, zl4, zl5, zl6, zl8, zl9, zl24, zl32, zl48, zl49, zl99, zl100, zl120, zl376, zl377, zl378, zl379, zl380, ↓zi_192, zi_dec, Nat.add_zero, Nat.zero_add, m_n, m_b1, m_b2, m_rd, m_wr, m_get, m_put, nI_clamp, st_at, st_ne, up_at, up_ne, if_pos, if_neg]
theorem r_common {N : Nat} {S : zx_S} {c d : Nat} (hc : c < 56) (hd : d < 56) : f_X3_common N (nI c) (nI d) S = some (zcc (S 6) c d) := by
  unfold f_X3_common zcc zcw zch
  simp (disch := omega) only [r_less, r_more, ↓zlm1, ↓zlm2, zi_e1, zi_e2, zi_1e, zi_12, zi_21, zi_1n, zi_n1, if_true, if_false, eq_self, not_false_eq_true, not_true_eq_false, nI_add, zi_4m, zi_5m, zi_8m, zi_mul4, zi_mul5, zi_sub, nI_leI, nI_ltI, nI_eq, zl0, zl1, zl2, zl3, zl4, zl5, zl6, zl8, zl9, zl24, zl32, zl48, zl49, zl99, zl100, zl120, zl376, zl377, zl378, zl379, zl380, ↓zi_192, zi_dec, Nat.add_zero, Nat.zero_add, m_n, m_b1, m_b2, m_rd, m_wr, m_get, m_put, nI_clamp, st_at, st_ne, up_at, up_ne, if_pos, if_neg]
  split
  · rfl
  · split <;> rfl
theorem r_apart {N : Nat} {S : zx_S} {c d : Nat} (hc : c < 56) (hd : d < 56) : f_X3_apart N (nI c) (nI d) S = some (zmd (S 6) c d) := by
  unfold f_X3_apart zmd
  simp (disch := omega) only [↓zlm1, ↓zlm2, zi_e1, zi_e2, zi_1e, zi_12, zi_21, zi_1n, zi_n1, if_true, if_false, eq_self, not_false_eq_true, not_true_eq_false, nI_add, zi_4m, zi_5m, zi_8m, zi_mul4, zi_mul5, zi_sub, nI_leI, nI_ltI, nI_eq, zl0, zl1, zl2, zl3, zl4, zl5, zl6, zl8, zl9, zl24, zl32, zl48, zl49, zl99, zl100, zl120, zl376, zl377, zl378, zl379, zl380, ↓zi_192, zi_dec, Nat.add_zero, Nat.zero_add, m_n, m_b1, m_b2, m_rd, m_wr, m_get, m_put, nI_clamp, st_at, st_ne, up_at, up_ne, if_pos, if_neg]
theorem r_waste {N : Nat} {S : zx_S} {c d : Nat} (hc : c < 56) (hd : d < 56) : f_X3_waste N (nI c) (nI d) S = some (zja (S 6) c d - zar (S 6) c - zar (S 6) d) := by
  unfold f_X3_waste
  simp (disch := omega) only [r_area, r_joinArea, m_n, m_b1, m_b2, m_rd, m_wr, m_get, m_put, nI_clamp, st_at, st_ne, up_at, up_ne, if_pos, if_neg]
/-- the class's fit -/
theorem m_fit_l {N : Nat} (a M : Nat) (ha : a < 49) (hM : M ≤ 5) : ∀ (l : List Nat) (k n : Nat) (T : zx_S) (x0 x1 x2 x3 : Int32), l.length < n → k + l.length = M → zat (T 4) (5 * a + k) l → (∀ x, x ∈ l → x < 49) →
    ∃ T', f_X1_fit_l25 N n (nI a) (nI M) x0 x1 x2 x3 (nI k) T = some T' ∧ zfr [0] T T' ∧ T' 0 (4 * a) = zjf (T 0) 0 x0 l ∧ T' 0 (4 * a + 1) = zjf (T 0) 1 x1 l ∧ T' 0 (4 * a + 2) = zjf (T 0) 2 x2 l ∧ T' 0 (4 * a + 3) = zjf (T 0) 3 x3 l ∧ (∀ j, (j < 4 * a ∨ 4 * a + 4 ≤ j) → T' 0 j = T 0 j)
  | [], k, n + 1, T, x0, x1, x2, x3, _, hk, _, _ => by
    simp only [List.length_nil] at hk
    rw [f_X1_fit_l25]
    simp (disch := omega) only [↓zlm1, ↓zlm2, zi_e1, zi_e2, zi_1e, zi_12, zi_21, zi_1n, zi_n1, if_true, if_false, eq_self, not_false_eq_true, not_true_eq_false, nI_add, zi_4m, zi_5m, zi_8m, zi_mul4, zi_mul5, zi_sub, nI_leI, nI_ltI, nI_eq, zl0, zl1, zl2, zl3, zl4, zl5, zl6, zl8, zl9, zl24, zl32, zl48, zl49, zl99, zl100, zl120, zl376, zl377, zl378, zl379, zl380, ↓zi_192, zi_dec, Nat.add_zero, Nat.zero_add, m_n, m_b1, m_b2, m_rd, m_wr, m_get, m_put, nI_clamp, st_at, st_ne, up_at, up_ne, if_pos, if_neg]
    refine ⟨_, rfl, ?_, ?_, ?_, ?_, ?_, ?_⟩
    · exact zfr_st (by decide) (zfr_st (by decide) (zfr_st (by decide) (zfr_st (by decide) zfr_refl)))
    · simp (disch := omega) only [m_n, m_b1, m_b2, m_rd, m_wr, m_get, m_put, nI_clamp, st_at, st_ne, up_at, up_ne, if_pos, if_neg, zjf]
    · simp (disch := omega) only [m_n, m_b1, m_b2, m_rd, m_wr, m_get, m_put, nI_clamp, st_at, st_ne, up_at, up_ne, if_pos, if_neg, zjf]
    · simp (disch := omega) only [m_n, m_b1, m_b2, m_rd, m_wr, m_get, m_put, nI_clamp, st_at, st_ne, up_at, up_ne, if_pos, if_neg, zjf]
    · simp (disch := omega) only [m_n, m_b1, m_b2, m_rd, m_wr, m_get, m_put, nI_clamp, st_at, st_ne, up_at, up_ne, if_pos, if_neg, zjf]
    · intro j hj
      simp (disch := omega) only [m_n, m_b1, m_b2, m_rd, m_wr, m_get, m_put, nI_clamp, st_at, st_ne, up_at, up_ne, if_pos, if_neg]
  | x :: l, k, n + 1, T, x0, x1, x2, x3, hn, hk, hz, hi => by
    have h0 : T 4 (5 * a + k) = nI x := hz.1
    have h1 : x < 49 := hi x (by simp)
    simp only [List.length_cons] at hk hn
    rw [f_X1_fit_l25]
    simp (disch := omega) only [↓zlm1, ↓zlm2, zi_e1, zi_e2, zi_1e, zi_12, zi_21, zi_1n, zi_n1, if_true, if_false, eq_self, not_false_eq_true, not_true_eq_false, nI_add, zi_4m, zi_5m, zi_8m, zi_mul4, zi_mul5, zi_sub, nI_leI, nI_ltI, nI_eq, zl0, zl1, zl2, zl3, zl4, zl5, zl6, zl8, zl9, zl24, zl32, zl48, zl49, zl99, zl100, zl120, zl376, zl377, zl378, zl379, zl380, ↓zi_192, zi_dec, Nat.add_zero, Nat.zero_add, m_n, m_b1, m_b2, m_rd, m_wr, m_get, m_put, nI_clamp, st_at, st_ne, up_at, up_ne, if_pos, if_neg, h0]
    exact m_fit_l a M ha hM l (k + 1) n T _ _ _ _ (by omega) (by omega) (by rw [← Nat.add_assoc]; exact hz.2) (fun y hy => hi y (List.mem_cons_of_mem _ hy))
