/-! the reference's seeds; the crowds -/
theorem d_seed1 {N w n : Nat} {S : zx_S} {K : Int32 → Int32 → Int32 → Int32 → Int32 → zx_S → Option (Int32 × zx_S)} {cr : Nat → Nat} {v2 : Int32} (h7 : ∀ k, k < 5 → S 7 k = nI (cr k) ∧ cr k < 56) {i j : Nat} (p : Nat × Nat) (hp : p.1 < 5 ∧ p.2 < 5) (hi : i < j ∧ j < 5) :
    f_X3_split_l56 N w K (n + 1) v2 (nI 5) (nI p.1) (nI p.2) (nI i) (nI j) S = f_X3_split_l56 N w K n v2 (nI 5) (nI (zsp (S 6) cr i j p).1) (nI (zsp (S 6) cr i j p).2) (nI i) (nI (j + 1)) S := by
  obtain ⟨h1, h2⟩ := h7 i (by omega)
  obtain ⟨h3, h4⟩ := h7 j hi.2
  obtain ⟨h5, h6⟩ := h7 p.1 hp.1
  obtain ⟨h8, h9⟩ := h7 p.2 hp.2
  rw [f_X3_split_l56]
  unfold f_X3_split_j106 f_X3_split_j120 f_X3_split_j134
  simp (disch := omega) only [↓zlm1, ↓zlm2, zi_e1, zi_e2, zi_1e, zi_12, zi_21, zi_1n, zi_n1, if_true, if_false, eq_self, not_false_eq_true, not_true_eq_false, nI_add, zi_4m, zi_5m, zi_8m, zi_mul4, zi_mul5, zi_sub, nI_leI, nI_ltI, nI_eq, zl0, zl1, zl2, zl3, zl4, zl5, zl6, zl8, zl9, zl24, zl32, zl48, zl49, zl99, zl100, zl120, zl376, zl377, zl378, zl379, zl380, ↓zi_192, zi_dec, Nat.add_zero, Nat.zero_add, m_n, m_b1, m_b2, m_rd, m_wr, m_get, m_put, nI_clamp, st_at, st_ne, up_at, up_ne, if_pos, if_neg, h1, h3, h5, h8, r_waste]
  have hw : ∀ a b, zja (S 6) (cr a) (cr b) - zar (S 6) (cr a) - zar (S 6) (cr b) = zsw (S 6) cr a b := fun a b => rfl
  rw [hw, hw]
  unfold zsp
  by_cases q : zsw (S 6) cr i j ≤ zsw (S 6) cr p.1 p.2
  · rw [if_pos q, if_neg (fun z => zi_nle.mpr z q)]
  · rw [if_neg q, if_pos (zi_nle.mp q)]
theorem d_seedE {N w n : Nat} {S : zx_S} {K : Int32 → Int32 → Int32 → Int32 → Int32 → zx_S → Option (Int32 × zx_S)} {v2 a b : Int32} {i : Nat} : f_X3_split_l56 N w K (n + 1) v2 (nI 5) a b (nI i) (nI 5) S = K v2 (nI 5) a b (nI (i + 1)) S := by
  rw [f_X3_split_l56]
  simp (disch := omega) only [↓zlm1, ↓zlm2, zi_e1, zi_e2, zi_1e, zi_12, zi_21, zi_1n, zi_n1, if_true, if_false, eq_self, not_false_eq_true, not_true_eq_false, nI_add, zi_4m, zi_5m, zi_8m, zi_mul4, zi_mul5, zi_sub, nI_leI, nI_ltI, nI_eq, zl0, zl1, zl2, zl3, zl4, zl5, zl6, zl8, zl9, zl24, zl32, zl48, zl49, zl99, zl100, zl120, zl376, zl377, zl378, zl379, zl380, ↓zi_192, zi_dec, Nat.add_zero, Nat.zero_add, m_n, m_b1, m_b2, m_rd, m_wr, m_get, m_put, nI_clamp, st_at, st_ne, up_at, up_ne, if_pos, if_neg]
theorem d_seedO {N w n : Nat} {S : zx_S} {v2 a b : Int32} {i : Nat} (hi : i < 5) : f_X3_split_l44 N w (n + 1) v2 (nI 5) a b (nI i) S = f_X3_split_l56 N w (f_X3_split_l44 N w n) N v2 (nI 5) a b (nI i) (nI (i + 1)) S := by
  rw [f_X3_split_l44]
  simp (disch := omega) only [↓zlm1, ↓zlm2, zi_e1, zi_e2, zi_1e, zi_12, zi_21, zi_1n, zi_n1, if_true, if_false, eq_self, not_false_eq_true, not_true_eq_false, nI_add, zi_4m, zi_5m, zi_8m, zi_mul4, zi_mul5, zi_sub, nI_leI, nI_ltI, nI_eq, zl0, zl1, zl2, zl3, zl4, zl5, zl6, zl8, zl9, zl24, zl32, zl48, zl49, zl99, zl100, zl120, zl376, zl377, zl378, zl379, zl380, ↓zi_192, zi_dec, Nat.add_zero, Nat.zero_add, m_n, m_b1, m_b2, m_rd, m_wr, m_get, m_put, nI_clamp, st_at, st_ne, up_at, up_ne, if_pos, if_neg]
theorem d_seeds {N w : Nat} (hN : 100 < N) {S : zx_S} {cr : Nat → Nat} {v2 : Int32} (h7 : ∀ k, k < 5 → S 7 k = nI (cr k) ∧ cr k < 56) :
    ∃ m, f_X3_split_l44 N w N v2 (nI 5) (nI 0) (nI 1) (nI 0) S = f_X3_split_l44 N w (m + 1) v2 (nI 5) (nI (zsd (S 6) cr).1) (nI (zsd (S 6) cr).2) (nI 5) S := by
  obtain ⟨n, hn⟩ : ∃ n, N = n + 7 := ⟨N - 7, by omega⟩
  have hs : ∀ m i j p (hp : p.1 < p.2 ∧ p.2 < 5) (hi : i < j ∧ j < 5) K, f_X3_split_l56 N w K (m + 1) v2 (nI 5) (nI p.1) (nI p.2) (nI i) (nI j) S = f_X3_split_l56 N w K m v2 (nI 5) (nI (zsp (S 6) cr i j p).1) (nI (zsp (S 6) cr i j p).2) (nI i) (nI (j + 1)) S := fun m i j p hp hi K => d_seed1 h7 p (by omega) hi
  have fuel : ∀ (K : Int32 → Int32 → Int32 → Int32 → Int32 → zx_S → Option (Int32 × zx_S)) a b i j, f_X3_split_l56 N w K N v2 (nI 5) a b i j S = f_X3_split_l56 N w K (n + 7) v2 (nI 5) a b i j S := fun K a b i j => by rw [← hn]
  have e0 : f_X3_split_l44 N w N v2 (nI 5) (nI 0) (nI 1) (nI 0) S = f_X3_split_l44 N w (n + 7) v2 (nI 5) (nI 0) (nI 1) (nI 0) S := by rw [← hn]
  have h01 : zsp (S 6) cr 0 1 (0, 1) = (0, 1) := by
    unfold zsp
    split <;> rfl
  have e01 : ∀ m K, f_X3_split_l56 N w K (m + 1) v2 (nI 5) (nI 0) (nI 1) (nI 0) (nI 1) S = f_X3_split_l56 N w K m v2 (nI 5) (nI 0) (nI 1) (nI 0) (nI 2) S := by
    intro m K
    have := hs m 0 1 (0, 1) (by decide) (by decide) K
    rw [h01] at this
    exact this
  have b0 : ((0, 1) : Nat × Nat).1 < ((0, 1) : Nat × Nat).2 ∧ ((0, 1) : Nat × Nat).2 < 5 := by decide
  have b1 := zsp_b (f := S 6) (cr := cr) (i := 0) (j := 2) b0 (by decide)
  have b2 := zsp_b (f := S 6) (cr := cr) (i := 0) (j := 3) b1 (by decide)
  have b3 := zsp_b (f := S 6) (cr := cr) (i := 0) (j := 4) b2 (by decide)
  have b4 := zsp_b (f := S 6) (cr := cr) (i := 1) (j := 2) b3 (by decide)
  have b5 := zsp_b (f := S 6) (cr := cr) (i := 1) (j := 3) b4 (by decide)
  have b6 := zsp_b (f := S 6) (cr := cr) (i := 1) (j := 4) b5 (by decide)
  have b7 := zsp_b (f := S 6) (cr := cr) (i := 2) (j := 3) b6 (by decide)
  have b8 := zsp_b (f := S 6) (cr := cr) (i := 2) (j := 4) b7 (by decide)
  have e02 : ∀ m K, f_X3_split_l56 N w K (m + 1) v2 (nI 5) (nI 0) (nI 1) (nI 0) (nI 2) S = _ := fun m K => hs m 0 2 (0, 1) b0 (by decide) K
  refine ⟨n + 1, ?_⟩
  unfold zsd
  rw [e0]
  rw [d_seedO (by decide), fuel, e01, e02, hs _ 0 3 _ b1 (by decide), hs _ 0 4 _ b2 (by decide), d_seedE]
  rw [d_seedO (by decide), fuel, hs _ 1 2 _ b3 (by decide), hs _ 1 3 _ b4 (by decide), hs _ 1 4 _ b5 (by decide), d_seedE]
  rw [d_seedO (by decide), fuel, hs _ 2 3 _ b6 (by decide), hs _ 2 4 _ b7 (by decide), d_seedE]
  rw [d_seedO (by decide), fuel, hs _ 3 4 _ b8 (by decide), d_seedE]
  rw [d_seedO (by decide), fuel, d_seedE]
theorem m_crowd {N : Nat} (a : Nat) (ha : a < 49) : ∀ (d k n : Nat) (T : zx_S), d < n → k + d = 5 →
    ∃ m T', f_X1_split_l2 N n (nI a) (nI k) T = f_X1_split_l2 N (m + 1) (nI a) (nI 5) T' ∧ zfr [7] T T' ∧ (∀ j, k ≤ j → j < 5 → T' 7 j = T 4 (5 * a + j)) ∧ (∀ j, j < k → T' 7 j = T 7 j)
  | 0, k, n + 1, T, _, hk => ⟨n, T, by rw [show k = 5 by omega], zfr_refl, fun j h1 h2 => by omega, fun j _ => rfl⟩
  | d + 1, k, n + 1, T, hd, hk => by
    rw [f_X1_split_l2]
    simp (disch := omega) only [↓zlm1, ↓zlm2, zi_e1, zi_e2, zi_1e, zi_12, zi_21, zi_1n, zi_n1, if_true, if_false, eq_self, not_false_eq_true, not_true_eq_false, nI_add, zi_4m, zi_5m, zi_8m, zi_mul4, zi_mul5, zi_sub, nI_leI, nI_ltI, nI_eq, zl0, zl1, zl2, zl3, zl4, zl5, zl6, zl8, zl9, zl24, zl32, zl48, zl49, zl99, zl100, zl120, zl376, zl377, zl378, zl379, zl380, ↓zi_192, zi_dec, Nat.add_zero, Nat.zero_add, m_n, m_b1, m_b2, m_rd, m_wr, m_get, m_put, nI_clamp, st_at, st_ne, up_at, up_ne, if_pos, if_neg]
    obtain ⟨m, T', e, h1, h5, h6⟩ := m_crowd (N := N) a ha d (k + 1) n (zx_st T 7 (upd (T 7) k (T 4 (5 * a + k)))) (by omega) (by omega)
    rw [e]
    simp (disch := omega) only [m_n, m_b1, m_b2, m_rd, m_wr, m_get, m_put, nI_clamp, st_at, st_ne, up_at, up_ne, if_pos, if_neg] at h5 h6
    refine ⟨m, T', rfl, zfr_trans (zfr_st (by decide) zfr_refl) h1, ?_, ?_⟩
    · intro j hj1 hj2
      by_cases hj : j = k
      · rw [h6 j (by omega), hj, up_at]
      · exact h5 j (by omega) hj2
    · intro j hj
      rw [h6 j (by omega), up_ne (by omega)]
theorem d_crowd {N w : Nat} (hw : w ≠ 7) (s : Nat) (hs : s < 32) : ∀ (d k n : Nat) (S : zx_S), d < n → k + d = 5 →
    ∃ S', f_X3_split_l15 N w n (nI s) (nI 5) (nI 0) (nI 1) (nI k) S = f_X3_split_l44 N w N (nI s) (nI 5) (nI 0) (nI 1) (nI 0) S' ∧ zfr [7] S S' ∧ (∀ j, k ≤ j → j < 5 → S' 7 j = S w (120 + 8 * s + 2 + j)) ∧ (∀ j, j < k → S' 7 j = S 7 j)
  | 0, k, n + 1, S, _, hk => by
    have : k = 5 := by omega
    subst this
    rw [f_X3_split_l15]
    simp (disch := omega) only [↓zlm1, ↓zlm2, zi_e1, zi_e2, zi_1e, zi_12, zi_21, zi_1n, zi_n1, if_true, if_false, eq_self, not_false_eq_true, not_true_eq_false, nI_add, zi_4m, zi_5m, zi_8m, zi_mul4, zi_mul5, zi_sub, nI_leI, nI_ltI, nI_eq, zl0, zl1, zl2, zl3, zl4, zl5, zl6, zl8, zl9, zl24, zl32, zl48, zl49, zl99, zl100, zl120, zl376, zl377, zl378, zl379, zl380, ↓zi_192, zi_dec, Nat.add_zero, Nat.zero_add, m_n, m_b1, m_b2, m_rd, m_wr, m_get, m_put, nI_clamp, st_at, st_ne, up_at, up_ne, if_pos, if_neg]
    exact ⟨S, rfl, zfr_refl, fun j h1 h2 => by omega, fun j _ => rfl⟩
  | d + 1, k, n + 1, S, hd, hk => by
    rw [f_X3_split_l15]
    simp (disch := omega) only [r_entryOf, ↓zlm1, ↓zlm2, zi_e1, zi_e2, zi_1e, zi_12, zi_21, zi_1n, zi_n1, if_true, if_false, eq_self, not_false_eq_true, not_true_eq_false, nI_add, zi_4m, zi_5m, zi_8m, zi_mul4, zi_mul5, zi_sub, nI_leI, nI_ltI, nI_eq, zl0, zl1, zl2, zl3, zl4, zl5, zl6, zl8, zl9, zl24, zl32, zl48, zl49, zl99, zl100, zl120, zl376, zl377, zl378, zl379, zl380, ↓zi_192, zi_dec, Nat.add_zero, Nat.zero_add, m_n, m_b1, m_b2, m_rd, m_wr, m_get, m_put, nI_clamp, st_at, st_ne, up_at, up_ne, if_pos, if_neg]
    obtain ⟨S', e, h1, h5, h6⟩ := d_crowd (N := N) hw s hs d (k + 1) n (zx_st S 7 (upd (S 7) k (S w (120 + 8 * s + 2 + k)))) (by omega) (by omega)
    rw [e]
    simp (disch := omega) only [m_n, m_b1, m_b2, m_rd, m_wr, m_get, m_put, nI_clamp, st_at, st_ne, up_at, up_ne, if_pos, if_neg] at h5 h6
    refine ⟨S', rfl, zfr_trans (zfr_st (by decide) zfr_refl) h1, ?_, ?_⟩
    · intro j hj1 hj2
      by_cases hj : j = k
      · rw [h6 j (by omega), hj, up_at]
      · exact h5 j (by omega) hj2
    · intro j hj
      rw [h6 j (by omega), up_ne (by omega)]
