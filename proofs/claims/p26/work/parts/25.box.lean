/-! numbers of boxes, in the class and in the reference -/
theorem m_area {N : Nat} {T : zx_S} {c : Nat} (hc : c < 49) : f_X1_area N (nI c) T = some (zar (T 0) c) := by
  unfold f_X1_area zar
  simp (disch := omega) only [↓zlm1, ↓zlm2, zi_e1, zi_e2, zi_1e, zi_12, zi_21, zi_1n, zi_n1, if_true, if_false, eq_self, not_false_eq_true, not_true_eq_false, nI_add, zi_4m, zi_5m, zi_8m, zi_mul4, zi_mul5, zi_sub, nI_leI, nI_ltI, nI_eq, zl0, zl1, zl2, zl3, zl4, zl5, zl6, zl8, zl9, zl24, zl32, zl48, zl49, zl99, zl100, zl120, zl376, zl377, zl378, zl379, zl380, ↓zi_192, zi_dec, Nat.add_zero, Nat.zero_add, m_n, m_b1, m_b2, m_rd, m_wr, m_get, m_put, nI_clamp, st_at, st_ne, up_at, up_ne, if_pos, if_neg]
theorem m_joinArea {N : Nat} {T : zx_S} {c d : Nat} (hc : c < 49) (hd : d < 49) : f_X1_joinArea N (nI c) (nI d) T = some (zja (T 0) c d) := by
  unfold f_X1_joinArea zja zmx zmn
  simp (disch := omega) only [↓zlm1, ↓zlm2, zi_e1, zi_e2, zi_1e, zi_12, zi_21, zi_1n, zi_n1, if_true, if_false, eq_self, not_false_eq_true, not_true_eq_false, nI_add, zi_4m, zi_5m, zi_8m, zi_mul4, zi_mul5, zi_sub, nI_leI, nI_ltI, nI_eq, zl0, zl1, zl2, zl3, zl4, zl5, zl6, zl8, zl9, zl24, zl32, zl48, zl49, zl99, zl100, zl120, zl376, zl377, zl378, zl379, zl380, ↓zi_192, zi_dec, Nat.add_zero, Nat.zero_add, m_n, m_b1, m_b2, m_rd, m_wr, m_get, m_put, nI_clamp, st_at, st_ne, up_at, up_ne, if_pos, if_neg]
theorem m_common {N : Nat} {T : zx_S} {c d : Nat} (hc : c < 49) (hd : d < 49) : f_X1_commonCells N (nI c) (nI d) T = some (zcc (T 0) c d) := by
  unfold f_X1_commonCells
  simp (disch := omega) only [↓zlm1, ↓zlm2, zi_e1, zi_e2, zi_1e, zi_12, zi_21, zi_1n, zi_n1, if_true, if_false, eq_self, not_false_eq_true, not_true_eq_false, nI_add, zi_4m, zi_5m, zi_8m, zi_mul4, zi_mul5, zi_sub, nI_leI, nI_ltI, nI_eq, zl0, zl1, zl2, zl3, zl4, zl5, zl6, zl8, zl9, zl24, zl32, zl48, zl49, zl99, zl100, zl120, zl376, zl377, zl378, zl379, zl380, ↓zi_192, zi_dec, Nat.add_zero, Nat.zero_add, m_n, m_b1, m_b2, m_rd, m_wr, m_get, m_put, nI_clamp, st_at, st_ne, up_at, up_ne, if_pos, if_neg]
  change (if zcw (T 0) c d ≤ nI 0 then some (nI 0) else if zch (T 0) c d ≤ nI 0 then some (nI 0) else some (zcw (T 0) c d * zch (T 0) c d)) = some (if zcw (T 0) c d ≤ nI 0 then nI 0 else if zch (T 0) c d ≤ nI 0 then nI 0 else zcw (T 0) c d * zch (T 0) c d)
  split
  · rfl
  · split <;> rfl
theorem m_middle {N : Nat} {T : zx_S} {c d : Nat} (hc : c < 49) (hd : d < 49) : f_X1_middleDistance N (nI c) (nI d) T = some (zmd (T 0) c d) := by
  unfold f_X1_middleDistance zmd
  simp (disch := omega) only [↓zlm1, ↓zlm2, zi_e1, zi_e2, zi_1e, zi_12, zi_21, zi_1n, zi_n1, if_true, if_false, eq_self, not_false_eq_true, not_true_eq_false, nI_add, zi_4m, zi_5m, zi_8m, zi_mul4, zi_mul5, zi_sub, nI_leI, nI_ltI, nI_eq, zl0, zl1, zl2, zl3, zl4, zl5, zl6, zl8, zl9, zl24, zl32, zl48, zl49, zl99, zl100, zl120, zl376, zl377, zl378, zl379, zl380, ↓zi_192, zi_dec, Nat.add_zero, Nat.zero_add, m_n, m_b1, m_b2, m_rd, m_wr, m_get, m_put, nI_clamp, st_at, st_ne, up_at, up_ne, if_pos, if_neg]
theorem m_corner {N : Nat} {T : zx_S} {c k : Nat} (hc : c < 49) (hk : k < 4) : f_X1_corner N (nI c) (nI k) T = some (T 0 (4 * c + k)) := by
  unfold f_X1_corner
  simp (disch := omega) only [↓zlm1, ↓zlm2, zi_e1, zi_e2, zi_1e, zi_12, zi_21, zi_1n, zi_n1, if_true, if_false, eq_self, not_false_eq_true, not_true_eq_false, nI_add, zi_4m, zi_5m, zi_8m, zi_mul4, zi_mul5, zi_sub, nI_leI, nI_ltI, nI_eq, zl0, zl1, zl2, zl3, zl4, zl5, zl6, zl8, zl9, zl24, zl32, zl48, zl49, zl99, zl100, zl120, zl376, zl377, zl378, zl379, zl380, ↓zi_192, zi_dec, Nat.add_zero, Nat.zero_add, m_n, m_b1, m_b2, m_rd, m_wr, m_get, m_put, nI_clamp, st_at, st_ne, up_at, up_ne, if_pos, if_neg]
theorem r_less {N : Nat} {a b : Int32} : f_X3_less N a b = some (zmn a b) := by
  unfold f_X3_less zmn
  by_cases h : b ≤ a
  · by_cases h2 : b < a
    · rw [if_pos h, if_pos h2]
    · have : b = a := by
        rw [Int32.lt_iff_toInt_lt] at h2
        rw [Int32.le_iff_toInt_le] at h
        exact Int32.toInt_inj.mp (by omega)
      rw [if_pos h, if_neg h2, this]
  · have h2 : ¬ b < a := by
      rw [Int32.lt_iff_toInt_lt]
      rw [Int32.le_iff_toInt_le] at h
      omega
    rw [if_neg h, if_neg h2]
theorem r_more {N : Nat} {a b : Int32} : f_X3_more N a b = some (zmx a b) := by
  unfold f_X3_more zmx
  by_cases h : a ≤ b
  · by_cases h2 : a < b
    · rw [if_pos h, if_pos h2]
    · have : b = a := by
        rw [Int32.lt_iff_toInt_lt] at h2
        rw [Int32.le_iff_toInt_le] at h
        exact Int32.toInt_inj.mp (by omega)
      rw [if_pos h, if_neg h2, this]
  · have h2 : ¬ a < b := by
      rw [Int32.lt_iff_toInt_lt]
      rw [Int32.le_iff_toInt_le] at h
      omega
    rw [if_neg h, if_neg h2]
theorem r_area {N : Nat} {S : zx_S} {c : Nat} (hc : c < 56) : f_X3_area N (nI c) S = some (zar (S 6) c) := by
  unfold f_X3_area zar
  simp (disch := omega) only [↓zlm1, ↓zlm2, zi_e1, zi_e2, zi_1e, zi_12, zi_21, zi_1n, zi_n1, if_true, if_false, eq_self, not_false_eq_true, not_true_eq_false, nI_add, zi_4m, zi_5m, zi_8m, zi_mul4, zi_mul5, zi_sub, nI_leI, nI_ltI, nI_eq, zl0, zl1, zl2, zl3, zl4, zl5, zl6, zl8, zl9, zl24, zl32, zl48, zl49, zl99, zl100, zl120, zl376, zl377, zl378, zl379, zl380, ↓zi_192, zi_dec, Nat.add_zero, Nat.zero_add, m_n, m_b1, m_b2, m_rd, m_wr, m_get, m_put, nI_clamp, st_at, st_ne, up_at, up_ne, if_pos, if_neg]
theorem r_joinArea {N : Nat} {S : zx_S} {c d : Nat} (hc : c < 56) (hd : d < 56) : f_X3_joinArea N (nI c) (nI d) S = some (zja (S 6) c d) := by
  unfold f_X3_joinArea zja
  simp (disch := omega) only [r_less, r_more, ↓zlm1, ↓zlm2, zi_e1, zi_e2, zi_1e, zi_12, zi_21, zi_1n, zi_n1, if_true, if_false, eq_self, not_false_eq_true, not_true_eq_false, nI_add, zi_4m, zi_5m, zi_8m, zi_mul4, zi_mul5, zi_sub, nI_leI, nI_ltI, nI_eq, zl0, zl1, zl2, zl3, zl4, zl5, zl6, zl8, zl9, zl24, zl32, zl48, zl49, zl99, zl100, zl120, zl376, zl377, zl378, zl379, zl380, ↓zi_192, zi_dec, Nat.add_zero, Nat.zero_add, m_n, m_b1, m_b2, m_rd, m_wr, m_get, m_put, nI_clamp, st_at, st_ne, up_at, up_ne, if_pos, if_neg]
theorem r_common {N : Nat} {S : zx_S} {c d : Nat} (hc : c < 56) (hd : d < 56) : f_X3_common N (nI c) (nI d) S = some (zcc (S 6) c d) := by
  unfold f_X3_common zcc zcw zch
  simp (disch := omega) only [r_less, r_more, ↓zlm1, ↓zlm2, zi_e1, zi_e2, zi_1e, zi_12, zi_21, zi_1n, zi_n1, if_true, if_false, eq_self, not_false_eq_true, not_true_eq_false, nI_add, zi_4m, zi_5m, zi_8m, zi_mul4, zi_mul5, zi_sub, nI_leI, nI_ltI, nI_eq, zl0, zl1, zl2, zl3, zl4, zl5, zl6, zl8, zl9, zl24, zl32, zl48, zl49, zl99, zl100, zl120, zl376, zl377, zl378, zl379, zl380, ↓zi_192, zi_dec, Nat.add_zero, Nat.zero_add, m_n, m_b1, m_b2, m_rd, m_wr, m_get, m_put, nI_clamp, st_at, st_ne, up_at, up_ne, if_pos, if_neg]
  split
  · rfl
  · split <;> rfl
theorem r_apart {N : Nat} {S : zx_S} {c d : Nat} (hc : c < 56) (hd : d < 56) : f_X3_apart N (nI c) (nI d) S = some (zmd (S 6) c d) := by
  unfold f_X3_apart zmd
  simp (disch := omega) only [↓zlm1, ↓zlm2, zi_e1, zi_e2, zi_1e, zi_12, zi_21, zi_1n, zi_n1, if_true, if_false, eq_self, not_false_eq_true, not_true_eq_false, nI_add, zi_4m, zi_5m, zi_8m, zi_mul4, zi_mul5, zi_sub, nI_leI, nI_ltI, nI_eq, zl0, zl1, zl2, zl3, zl4, zl5, zl6, zl8, zl9, zl24, zl32, zl48, zl49, zl99, zl100, zl120, zl376, zl377, zl378, zl379, zl380, ↓zi_192, zi_dec, Nat.add_zero, Nat.zero_add, m_n, m_b1, m_b2, m_rd, m_wr, m_get, m_put, nI_clamp, st_at, st_ne, up_at, up_ne, if_pos, if_neg]
theorem r_waste {N : Nat} {S : zx_S} {c d : Nat} (hc : c < 56) (hd : d < 56) : f_X3_waste N (nI c) (nI d) S = some (zja (S 6) c d - zar (S 6) c - zar (S 6) d) := by
  unfold f_X3_waste
  simp (disch := omega) only [r_area, r_joinArea, m_n, m_b1, m_b2, m_rd, m_wr, m_get, m_put, nI_clamp, st_at, st_ne, up_at, up_ne, if_pos, if_neg]
/-- the class's fit -/
theorem m_fit_l {N : Nat} (a M : Nat) (ha : a < 49) (hM : M ≤ 5) : ∀ (l : List Nat) (k n : Nat) (T : zx_S) (x0 x1 x2 x3 : Int32), l.length < n → k + l.length = M → zat (T 4) (5 * a + k) l → (∀ x, x ∈ l → x < 49) →
    ∃ T', f_X1_fit_l25 N n (nI a) (nI M) x0 x1 x2 x3 (nI k) T = some T' ∧ zfr [0] T T' ∧ T' 0 (4 * a) = zjf (T 0) 0 x0 l ∧ T' 0 (4 * a + 1) = zjf (T 0) 1 x1 l ∧ T' 0 (4 * a + 2) = zjf (T 0) 2 x2 l ∧ T' 0 (4 * a + 3) = zjf (T 0) 3 x3 l ∧ (∀ j, (j < 4 * a ∨ 4 * a + 4 ≤ j) → T' 0 j = T 0 j)
  | [], k, n + 1, T, x0, x1, x2, x3, _, hk, _, _ => by
    simp only [List.length_nil] at hk
    rw [f_X1_fit_l25]
    simp (disch := omega) only [↓zlm1, ↓zlm2, zi_e1, zi_e2, zi_1e, zi_12, zi_21, zi_1n, zi_n1, if_true, if_false, eq_self, not_false_eq_true, not_true_eq_false, nI_add, zi_4m, zi_5m, zi_8m, zi_mul4, zi_mul5, zi_sub, nI_leI, nI_ltI, nI_eq, zl0, zl1, zl2, zl3, zl4, zl5, zl6, zl8, zl9, zl24, zl32, zl48, zl49, zl99, zl100, zl120, zl376, zl377, zl378, zl379, zl380, ↓zi_192, zi_dec, Nat.add_zero, Nat.zero_add, m_n, m_b1, m_b2, m_rd, m_wr, m_get, m_put, nI_clamp, st_at, st_ne, up_at, up_ne, if_pos, if_neg]
    refine ⟨_, rfl, ?_, ?_, ?_, ?_, ?_, ?_⟩
    · exact zfr_st (by decide) (zfr_st (by decide) (zfr_st (by decide) (zfr_st (by decide) zfr_refl)))
    · simp (disch := omega) only [m_n, m_b1, m_b2, m_rd, m_wr, m_get, m_put, nI_clamp, st_at, st_ne, up_at, up_ne, if_pos, if_neg, zjf]
    · simp (disch := omega) only [m_n, m_b1, m_b2, m_rd, m_wr, m_get, m_put, nI_clamp, st_at, st_ne, up_at, up_ne, if_pos, if_neg, zjf]
    · simp (disch := omega) only [m_n, m_b1, m_b2, m_rd, m_wr, m_get, m_put, nI_clamp, st_at, st_ne, up_at, up_ne, if_pos, if_neg, zjf]
    · simp (disch := omega) only [m_n, m_b1, m_b2, m_rd, m_wr, m_get, m_put, nI_clamp, st_at, st_ne, up_at, up_ne, if_pos, if_neg, zjf]
    · intro j hj
      simp (disch := omega) only [m_n, m_b1, m_b2, m_rd, m_wr, m_get, m_put, nI_clamp, st_at, st_ne, up_at, up_ne, if_pos, if_neg]
  | x :: l, k, n + 1, T, x0, x1, x2, x3, hn, hk, hz, hi => by
    have h0 : T 4 (5 * a + k) = nI x := hz.1
    have h1 : x < 49 := hi x (by simp)
    simp only [List.length_cons] at hk hn
    rw [f_X1_fit_l25]
    simp (disch := omega) only [↓zlm1, ↓zlm2, zi_e1, zi_e2, zi_1e, zi_12, zi_21, zi_1n, zi_n1, if_true, if_false, eq_self, not_false_eq_true, not_true_eq_false, nI_add, zi_4m, zi_5m, zi_8m, zi_mul4, zi_mul5, zi_sub, nI_leI, nI_ltI, nI_eq, zl0, zl1, zl2, zl3, zl4, zl5, zl6, zl8, zl9, zl24, zl32, zl48, zl49, zl99, zl100, zl120, zl376, zl377, zl378, zl379, zl380, ↓zi_192, zi_dec, Nat.add_zero, Nat.zero_add, m_n, m_b1, m_b2, m_rd, m_wr, m_get, m_put, nI_clamp, st_at, st_ne, up_at, up_ne, if_pos, if_neg, h0]
    exact m_fit_l a M ha hM l (k + 1) n T _ _ _ _ (by omega) (by omega) (by rw [← Nat.add_assoc]; exact hz.2) (fun y hy => hi y (List.mem_cons_of_mem _ hy))
theorem zjf_congr {f g : Nat → Int32} {k : Nat} : ∀ {l : List Nat} {a : Int32}, (∀ x, x ∈ l → f (4 * x + k) = g (4 * x + k)) → zjf f k a l = zjf g k a l
  | [], _, _ => rfl
  | c :: l, a, h => by
    simp only [zjf]
    rw [h c (by simp)]
    exact zjf_congr (fun x hx => h x (List.mem_cons_of_mem _ hx))
theorem zjn_congr {f g : Nat → Int32} {k : Nat} {l : List Nat} (h : ∀ x, x ∈ l → f (4 * x + k) = g (4 * x + k)) : zjn f l k = zjn g l k := by
  cases l with
  | nil => rfl
  | cons c l =>
    simp only [zjn]
    rw [h c (by simp)]
    exact zjf_congr (fun x hx => h x (List.mem_cons_of_mem _ hx))
theorem zjf_app {f : Nat → Int32} {k c : Nat} : ∀ {l : List Nat} {a : Int32}, zjf f k a (l ++ [c]) = zmm k (zjf f k a l) (f (4 * c + k))
  | [], a => rfl
  | x :: l, a => by simp only [List.cons_append, zjf]; exact zjf_app
theorem zjn_app {f : Nat → Int32} {k c : Nat} {l : List Nat} (h : l ≠ []) : zjn f (l ++ [c]) k = zmm k (zjn f l k) (f (4 * c + k)) := by
  cases l with
  | nil => exact absurd rfl h
  | cons x l => simp only [List.cons_append, zjn]; exact zjf_app
theorem zjn_one {f : Nat → Int32} {k c : Nat} : zjn f [c] k = f (4 * c + k) := rfl
theorem zmm_b {k : Nat} {a b : Int32} (ha : 0 ≤ a.toInt ∧ a.toInt ≤ 99) (hb : 0 ≤ b.toInt ∧ b.toInt ≤ 99) : 0 ≤ (zmm k a b).toInt ∧ (zmm k a b).toInt ≤ 99 := by
  unfold zmm zmn zmx
  split <;> split <;> assumption
theorem zjf_b {f : Nat → Int32} {k : Nat} : ∀ {l : List Nat} {a : Int32}, (0 ≤ a.toInt ∧ a.toInt ≤ 99) → (∀ x, x ∈ l → 0 ≤ (f (4 * x + k)).toInt ∧ (f (4 * x + k)).toInt ≤ 99) → 0 ≤ (zjf f k a l).toInt ∧ (zjf f k a l).toInt ≤ 99
  | [], a, h, _ => h
  | c :: l, a, h, hh => by
    simp only [zjf]
    exact zjf_b (zmm_b h (hh c (by simp))) (fun x hx => hh x (List.mem_cons_of_mem _ hx))
theorem zjn_b {f : Nat → Int32} {k : Nat} {l : List Nat} (h : ∀ x, x ∈ l → 0 ≤ (f (4 * x + k)).toInt ∧ (f (4 * x + k)).toInt ≤ 99) (hl : l ≠ []) : 0 ≤ (zjn f l k).toInt ∧ (zjn f l k).toInt ≤ 99 := by
  cases l with
  | nil => exact absurd rfl hl
  | cons c l => exact zjf_b (h c (by simp)) (fun x hx => h x (List.mem_cons_of_mem _ hx))
theorem zmm_lo {k : Nat} {b : Int32} (hk : k < 2) (hb : 0 ≤ b.toInt ∧ b.toInt ≤ 99) : zmm k (nI 100) b = b := by
  unfold zmm zmn
  rw [if_pos hk, if_pos]
  rw [Int32.lt_iff_toInt_lt, show (nI 100).toInt = 100 from by decide]
  omega
theorem zmm_hi {k : Nat} {b : Int32} (hk : ¬ k < 2) (hb : 0 ≤ b.toInt ∧ b.toInt ≤ 99) : zmm k zM1 b = b := by
  unfold zmm zmx
  rw [if_neg hk, if_pos]
  rw [Int32.lt_iff_toInt_lt, show zM1.toInt = -1 from by decide]
  omega
theorem m_fit {N : Nat} (hN : 100 < N) {T : zx_S} {a : Nat} {l : List Nat} (ha : a < 49) (hs : T 3 a = nI l.length) (hl : l.length ≤ 5) (hz : zat (T 4) (5 * a) l) (hi : ∀ x, x ∈ l → x < 49) (hb : ∀ x k, x ∈ l → k < 4 → 0 ≤ (T 0 (4 * x + k)).toInt ∧ (T 0 (4 * x + k)).toInt ≤ 99) :
    ∃ T', f_X1_fit N (nI a) T = some T' ∧ zfr [0] T T' ∧ (l ≠ [] → ∀ k, k < 4 → T' 0 (4 * a + k) = zjn (T 0) l k) ∧ (∀ j, (j < 4 * a ∨ 4 * a + 4 ≤ j) → T' 0 j = T 0 j) := by
  obtain ⟨T', e, h1, h2, h3, h4, h5, h6⟩ := m_fit_l (N := N) a l.length ha hl l 0 N T (nI 100) (nI 100) zM1 zM1 (by omega) (by omega) hz hi
  refine ⟨T', ?_, h1, ?_, h6⟩
  · unfold f_X1_fit
    simp (disch := omega) only [↓zlm1, ↓zlm2, zi_e1, zi_e2, zi_1e, zi_12, zi_21, zi_1n, zi_n1, if_true, if_false, eq_self, not_false_eq_true, not_true_eq_false, nI_add, zi_4m, zi_5m, zi_8m, zi_mul4, zi_mul5, zi_sub, nI_leI, nI_ltI, nI_eq, zl0, zl1, zl2, zl3, zl4, zl5, zl6, zl8, zl9, zl24, zl32, zl48, zl49, zl99, zl100, zl120, zl376, zl377, zl378, zl379, zl380, ↓zi_192, zi_dec, Nat.add_zero, Nat.zero_add, m_n, m_b1, m_b2, m_rd, m_wr, m_get, m_put, nI_clamp, st_at, st_ne, up_at, up_ne, if_pos, if_neg, hs, e]
  · intro hne k hk
    cases l with
    | nil => exact absurd rfl hne
    | cons c l =>
      have hc := hb c
      simp only [zjn]
      match k, hk with
      | 0, _ => rw [Nat.add_zero, h2]; simp only [zjf]; rw [zmm_lo (by decide) (hc 0 (by simp) (by decide))]
      | 1, _ => rw [h3]; simp only [zjf]; rw [zmm_lo (by decide) (hc 1 (by simp) (by decide))]
      | 2, _ => rw [h4]; simp only [zjf]; rw [zmm_hi (by decide) (hc 2 (by simp) (by decide))]
      | 3, _ => rw [h5]; simp only [zjf]; rw [zmm_hi (by decide) (hc 3 (by simp) (by decide))]
/-! the reference lays its boxes -/
theorem zmx_le {a b : Int32} : (if b ≤ a then a else b) = zmx a b := by
  have := r_more (N := 0) (a := b) (b := a)
  unfold zmx
  by_cases h : b ≤ a
  · have h2 : ¬ a < b := by rw [Int32.lt_iff_toInt_lt]; rw [Int32.le_iff_toInt_le] at h; omega
    rw [if_pos h, if_neg h2]
  · have h2 : a < b := by rw [Int32.lt_iff_toInt_lt]; rw [Int32.le_iff_toInt_le] at h; omega
    rw [if_neg h, if_pos h2]
theorem zmn_le {a b : Int32} : (if a ≤ b then a else b) = zmn a b := by
  unfold zmn
  by_cases h : a ≤ b
  · have h2 : ¬ b < a := by rw [Int32.lt_iff_toInt_lt]; rw [Int32.le_iff_toInt_le] at h; omega
    rw [if_pos h, if_neg h2]
  · have h2 : b < a := by rw [Int32.lt_iff_toInt_lt]; rw [Int32.le_iff_toInt_le] at h; omega
    rw [if_neg h, if_pos h2]
theorem r_join_s0 {N n a c k : Nat} {S : zx_S} (ha : a < 56) (hc : c < 56) (hk : k < 4) : f_X3_joinInto_l3 N (n + 1) (nI a) (nI c) (nI 0) (nI k) S = f_X3_joinInto_l3 N n (nI a) (nI c) (nI 0) (nI (k + 1)) (zx_st S 6 (upd (S 6) (4 * a + k) (zmm k (S 6 (4 * a + k)) (S 6 (4 * c + k))))) := by
  rw [f_X3_joinInto_l3]
  unfold f_X3_joinInto_j66 f_X3_joinInto_j62 f_X3_joinInto_j67 f_X3_joinInto_j91
  by_cases h2 : k < 2
  · have : zmm k (S 6 (4 * a + k)) (S 6 (4 * c + k)) = if (S 6 (4 * a + k)) ≤ (S 6 (4 * c + k)) then (S 6 (4 * a + k)) else (S 6 (4 * c + k)) := by rw [zmn_le]; exact if_pos h2
    rw [this]
    simp (disch := omega) only [↓zlm1, ↓zlm2, zi_e1, zi_e2, zi_1e, zi_12, zi_21, zi_1n, zi_n1, if_true, if_false, eq_self, not_false_eq_true, not_true_eq_false, nI_add, zi_4m, zi_5m, zi_8m, zi_mul4, zi_mul5, zi_sub, nI_leI, nI_ltI, nI_eq, zl0, zl1, zl2, zl3, zl4, zl5, zl6, zl8, zl9, zl24, zl32, zl48, zl49, zl99, zl100, zl120, zl376, zl377, zl378, zl379, zl380, ↓zi_192, zi_dec, Nat.add_zero, Nat.zero_add, m_n, m_b1, m_b2, m_rd, m_wr, m_get, m_put, nI_clamp, st_at, st_ne, up_at, up_ne, if_pos, if_neg]
    split <;> rfl
  · have : zmm k (S 6 (4 * a + k)) (S 6 (4 * c + k)) = if (S 6 (4 * c + k)) ≤ (S 6 (4 * a + k)) then (S 6 (4 * a + k)) else (S 6 (4 * c + k)) := by rw [zmx_le]; exact if_neg h2
    rw [this]
    simp (disch := omega) only [↓zlm1, ↓zlm2, zi_e1, zi_e2, zi_1e, zi_12, zi_21, zi_1n, zi_n1, if_true, if_false, eq_self, not_false_eq_true, not_true_eq_false, nI_add, zi_4m, zi_5m, zi_8m, zi_mul4, zi_mul5, zi_sub, nI_leI, nI_ltI, nI_eq, zl0, zl1, zl2, zl3, zl4, zl5, zl6, zl8, zl9, zl24, zl32, zl48, zl49, zl99, zl100, zl120, zl376, zl377, zl378, zl379, zl380, ↓zi_192, zi_dec, Nat.add_zero, Nat.zero_add, m_n, m_b1, m_b2, m_rd, m_wr, m_get, m_put, nI_clamp, st_at, st_ne, up_at, up_ne, if_pos, if_neg]
    split <;> rfl
theorem r_join_s1 {N n a c k : Nat} {S : zx_S} (ha : a < 56) (hc : c < 56) (hk : k < 4) : f_X3_joinInto_l3 N (n + 1) (nI a) (nI c) (nI 1) (nI k) S = f_X3_joinInto_l3 N n (nI a) (nI c) (nI 1) (nI (k + 1)) (zx_st S 6 (upd (S 6) (4 * a + k) (S 6 (4 * c + k)))) := by
  rw [f_X3_joinInto_l3]
  unfold f_X3_joinInto_j62 f_X3_joinInto_j67 f_X3_joinInto_j91
  simp (disch := omega) only [↓zlm1, ↓zlm2, zi_e1, zi_e2, zi_1e, zi_12, zi_21, zi_1n, zi_n1, if_true, if_false, eq_self, not_false_eq_true, not_true_eq_false, nI_add, zi_4m, zi_5m, zi_8m, zi_mul4, zi_mul5, zi_sub, nI_leI, nI_ltI, nI_eq, zl0, zl1, zl2, zl3, zl4, zl5, zl6, zl8, zl9, zl24, zl32, zl48, zl49, zl99, zl100, zl120, zl376, zl377, zl378, zl379, zl380, ↓zi_192, zi_dec, Nat.add_zero, Nat.zero_add, m_n, m_b1, m_b2, m_rd, m_wr, m_get, m_put, nI_clamp, st_at, st_ne, up_at, up_ne, if_pos, if_neg]
theorem r_join0 {N : Nat} (hN : 100 < N) {S : zx_S} {a c : Nat} (ha : a < 56) (hc : c < 56) (hac : a ≠ c) :
    ∃ S', f_X3_joinInto N (nI a) (nI c) (nI 0) S = some S' ∧ zfr [6] S S' ∧ (∀ k, k < 4 → S' 6 (4 * a + k) = zmm k (S 6 (4 * a + k)) (S 6 (4 * c + k))) ∧ (∀ j, (j < 4 * a ∨ 4 * a + 4 ≤ j) → S' 6 j = S 6 j) := by
  obtain ⟨n, rfl⟩ : ∃ n, N = n + 5 := ⟨N - 5, by omega⟩
  unfold f_X3_joinInto
  rw [zl0]
  rw [r_join_s0 ha hc (by decide), r_join_s0 ha hc (by decide), r_join_s0 ha hc (by decide), r_join_s0 ha hc (by decide), f_X3_joinInto_l3]
  simp (disch := omega) only [↓zlm1, ↓zlm2, zi_e1, zi_e2, zi_1e, zi_12, zi_21, zi_1n, zi_n1, if_true, if_false, eq_self, not_false_eq_true, not_true_eq_false, nI_add, zi_4m, zi_5m, zi_8m, zi_mul4, zi_mul5, zi_sub, nI_leI, nI_ltI, nI_eq, zl0, zl1, zl2, zl3, zl4, zl5, zl6, zl8, zl9, zl24, zl32, zl48, zl49, zl99, zl100, zl120, zl376, zl377, zl378, zl379, zl380, ↓zi_192, zi_dec, Nat.add_zero, Nat.zero_add, m_n, m_b1, m_b2, m_rd, m_wr, m_get, m_put, nI_clamp, st_at, st_ne, up_at, up_ne, if_pos, if_neg]
  refine ⟨_, rfl, zfr_st (by decide) (zfr_st (by decide) (zfr_st (by decide) (zfr_st (by decide) zfr_refl))), ?_, ?_⟩
  · intro k hk
    match k, hk with
    | 0, _ => simp (disch := omega) only [m_n, m_b1, m_b2, m_rd, m_wr, m_get, m_put, nI_clamp, st_at, st_ne, up_at, up_ne, if_pos, if_neg, Nat.add_zero]
    | 1, _ => simp (disch := omega) only [m_n, m_b1, m_b2, m_rd, m_wr, m_get, m_put, nI_clamp, st_at, st_ne, up_at, up_ne, if_pos, if_neg]
    | 2, _ => simp (disch := omega) only [m_n, m_b1, m_b2, m_rd, m_wr, m_get, m_put, nI_clamp, st_at, st_ne, up_at, up_ne, if_pos, if_neg]
    | 3, _ => simp (disch := omega) only [m_n, m_b1, m_b2, m_rd, m_wr, m_get, m_put, nI_clamp, st_at, st_ne, up_at, up_ne, if_pos, if_neg]
  · intro j hj
    simp (disch := omega) only [m_n, m_b1, m_b2, m_rd, m_wr, m_get, m_put, nI_clamp, st_at, st_ne, up_at, up_ne, if_pos, if_neg]
theorem r_join1 {N : Nat} (hN : 100 < N) {S : zx_S} {a c : Nat} (ha : a < 56) (hc : c < 56) (hac : a ≠ c) :
    ∃ S', f_X3_joinInto N (nI a) (nI c) (nI 1) S = some S' ∧ zfr [6] S S' ∧ (∀ k, k < 4 → S' 6 (4 * a + k) = S 6 (4 * c + k)) ∧ (∀ j, (j < 4 * a ∨ 4 * a + 4 ≤ j) → S' 6 j = S 6 j) := by
  obtain ⟨n, rfl⟩ : ∃ n, N = n + 5 := ⟨N - 5, by omega⟩
  unfold f_X3_joinInto
  rw [zl0]
  rw [r_join_s1 ha hc (by decide), r_join_s1 ha hc (by decide), r_join_s1 ha hc (by decide), r_join_s1 ha hc (by decide), f_X3_joinInto_l3]
  simp (disch := omega) only [↓zlm1, ↓zlm2, zi_e1, zi_e2, zi_1e, zi_12, zi_21, zi_1n, zi_n1, if_true, if_false, eq_self, not_false_eq_true, not_true_eq_false, nI_add, zi_4m, zi_5m, zi_8m, zi_mul4, zi_mul5, zi_sub, nI_leI, nI_ltI, nI_eq, zl0, zl1, zl2, zl3, zl4, zl5, zl6, zl8, zl9, zl24, zl32, zl48, zl49, zl99, zl100, zl120, zl376, zl377, zl378, zl379, zl380, ↓zi_192, zi_dec, Nat.add_zero, Nat.zero_add, m_n, m_b1, m_b2, m_rd, m_wr, m_get, m_put, nI_clamp, st_at, st_ne, up_at, up_ne, if_pos, if_neg]
  refine ⟨_, rfl, zfr_st (by decide) (zfr_st (by decide) (zfr_st (by decide) (zfr_st (by decide) zfr_refl))), ?_, ?_⟩
  · intro k hk
    match k, hk with
    | 0, _ => simp (disch := omega) only [m_n, m_b1, m_b2, m_rd, m_wr, m_get, m_put, nI_clamp, st_at, st_ne, up_at, up_ne, if_pos, if_neg, Nat.add_zero]
    | 1, _ => simp (disch := omega) only [m_n, m_b1, m_b2, m_rd, m_wr, m_get, m_put, nI_clamp, st_at, st_ne, up_at, up_ne, if_pos, if_neg]
    | 2, _ => simp (disch := omega) only [m_n, m_b1, m_b2, m_rd, m_wr, m_get, m_put, nI_clamp, st_at, st_ne, up_at, up_ne, if_pos, if_neg]
    | 3, _ => simp (disch := omega) only [m_n, m_b1, m_b2, m_rd, m_wr, m_get, m_put, nI_clamp, st_at, st_ne, up_at, up_ne, if_pos, if_neg]
  · intro j hj
    simp (disch := omega) only [m_n, m_b1, m_b2, m_rd, m_wr, m_get, m_put, nI_clamp, st_at, st_ne, up_at, up_ne, if_pos, if_neg]
