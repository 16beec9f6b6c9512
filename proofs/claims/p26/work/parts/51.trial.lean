/-! the empty tree; trials -/
def zt0 : ZT := (fun s => if s = 0 then 1 else 0, fun _ => [], 0, fun _ => false, fun _ _ => 0)
theorem zt0_lv {s : Nat} : zlv zt0 s = if s = 0 then 1 else 0 := rfl
theorem zt0_es {s : Nat} : zes zt0 s = [] := rfl
theorem zt0_rt : zrt zt0 = 0 := rfl
theorem zt0_pr {i : Nat} : zpr zt0 i = false := rfl
theorem zt0_wf : zwf zt0 [] 99 99 := by
  have h0 : ∀ {s : Nat}, zlv zt0 s ≠ 0 → s = 0 := fun {s} h => by
    rcases Nat.eq_zero_or_pos s with e | e
    · exact e
    · rw [zt0_lv, if_neg (by omega)] at h; exact absurd rfl h
  refine ⟨⟨fun s => List.nodup_nil, fun s s' c h => absurd h (List.not_mem_nil)⟩, ⟨List.nodup_nil, fun c h => absurd h (List.not_mem_nil)⟩, fun c => ⟨fun h => ?_, fun h => ?_⟩, fun s e h => absurd h (List.not_mem_nil), fun s _ => rfl, fun s hs => ?_, ⟨by decide, by decide⟩, fun s h1 h2 => absurd (h0 h1) h2, fun s h1 h2 => absurd (h0 h1) h2, fun s => ⟨by rw [zt0_es]; simp, fun _ => by rw [zt0_es]; simp⟩, fun h => ?_, fun c _ h => ?_⟩
  · rcases h with h | ⟨s, h⟩
    · exact absurd h (List.not_mem_nil)
    · exact absurd h (List.not_mem_nil)
  · rcases h with ⟨_, h⟩ | ⟨_, _, h1, h2⟩
    · exact absurd h (by rw [zt0_pr]; decide)
    · exact absurd (h0 h1) h2
  · rw [zt0_lv, if_neg (by omega)]
  · exact absurd h (by decide)
  · exact absurd h (by rw [zt0_pr]; decide)
theorem m_clear_l {N : Nat} : ∀ (d n k : Nat) (T : zx_S), d < n → k + d = 49 → ∃ T' n2, f_X1_clear_l2 N n (nI k) T = f_X1_clear_l2 N (n2 + 1) (nI 49) T' ∧ zfr [1, 2, 3] T T' ∧ (∀ j, k ≤ j → j < 49 → T' 1 j = (if 24 ≤ j then zM2 else zM1) ∧ T' 2 j = zM1 ∧ T' 3 j = nI 0) ∧ ∀ j, j < k → T' 1 j = T 1 j ∧ T' 2 j = T 2 j ∧ T' 3 j = T 3 j
  | 0, n + 1, k, T, hn, hk => by
    obtain rfl : k = 49 := by omega
    exact ⟨T, n, rfl, zfr_refl, fun j h1 h2 => by omega, fun _ _ => ⟨rfl, rfl, rfl⟩⟩
  | d + 1, n + 1, k, T, hn, hk => by
    obtain ⟨T1, eT1⟩ : ∃ T1, T1 = zx_st (zx_st (zx_st T 1 (upd (T 1) k (if 24 ≤ k then zM2 else zM1))) 2 (upd (T 2) k zM1)) 3 (upd (T 3) k (nI 0)) := ⟨_, rfl⟩
    obtain ⟨T', n2, e, f, h1, h2⟩ := m_clear_l (N := N) d n (k + 1) T1 (by omega) (by omega)
    have q1 : T1 1 = upd (T 1) k (if 24 ≤ k then zM2 else zM1) := by rw [eT1, st_ne (by decide), st_ne (by decide), st_at]
    have q2 : T1 2 = upd (T 2) k zM1 := by rw [eT1, st_ne (by decide), st_at]
    have q3 : T1 3 = upd (T 3) k (nI 0) := by rw [eT1, st_at]
    refine ⟨T', n2, ?_, zfr_trans (T1 := T1) (by rw [eT1]; exact zfr_st (by simp) (zfr_st (by simp) (zfr_st (by simp) zfr_refl))) f, fun j a b => ?_, fun j a => ?_⟩
    · rw [f_X1_clear_l2, ← e]
      unfold f_X1_clear_j25
      by_cases h24 : 24 ≤ k
      · rw [if_pos h24] at eT1
        simp (disch := omega) only [↓zlm1, ↓zlm2, zi_e1, zi_e2, zi_1e, zi_12, zi_21, zi_1n, zi_n1, if_true, if_false, eq_self, not_false_eq_true, not_true_eq_false, nI_add, zi_4m, zi_5m, zi_8m, zi_mul4, zi_mul5, zi_sub, nI_leI, nI_ltI, nI_eq, zl0, zl1, zl2, zl3, zl4, zl5, zl6, zl8, zl9, zl24, zl32, zl48, zl49, zl99, zl100, zl120, zl376, zl377, zl378, zl379, zl380, ↓zi_192, zi_dec, Nat.add_zero, Nat.zero_add, m_n, m_b1, m_b2, m_rd, m_wr, m_get, m_put, nI_clamp, st_at, st_ne, up_at, up_ne, if_pos, if_neg]
        rw [eT1]
      · rw [if_neg h24] at eT1
        simp (disch := omega) only [↓zlm1, ↓zlm2, zi_e1, zi_e2, zi_1e, zi_12, zi_21, zi_1n, zi_n1, if_true, if_false, eq_self, not_false_eq_true, not_true_eq_false, nI_add, zi_4m, zi_5m, zi_8m, zi_mul4, zi_mul5, zi_sub, nI_leI, nI_ltI, nI_eq, zl0, zl1, zl2, zl3, zl4, zl5, zl6, zl8, zl9, zl24, zl32, zl48, zl49, zl99, zl100, zl120, zl376, zl377, zl378, zl379, zl380, ↓zi_192, zi_dec, Nat.add_zero, Nat.zero_add, m_n, m_b1, m_b2, m_rd, m_wr, m_get, m_put, nI_clamp, st_at, st_ne, up_at, up_ne, if_pos, if_neg]
        rw [eT1]
    · by_cases c : j = k
      · obtain ⟨p1, p2, p3⟩ := h2 j (by omega)
        rw [p1, p2, p3, q1, q2, q3, c, up_at, up_at, up_at]
        exact ⟨rfl, rfl, rfl⟩
      · exact h1 j (by omega) b
    · obtain ⟨p1, p2, p3⟩ := h2 j (by omega)
      rw [p1, p2, p3, q1, q2, q3, up_ne (by omega), up_ne (by omega), up_ne (by omega)]
      exact ⟨rfl, rfl, rfl⟩
theorem r_begin_l {N : Nat} : ∀ (d n k : Nat) (r : Nat → Int32), d < n → k + d = 380 → ∃ g, f_X3_begin_l2 N 380 n (nI k) r = some g ∧ g 120 = nI 1 ∧ (∀ j, k ≤ j → j < 380 → j ≠ 120 → g j = nI 0) ∧ ∀ j, j < k → j ≠ 120 → g j = r j
  | 0, n + 1, k, r, hn, hk => by
    obtain rfl : k = 380 := by omega
    refine ⟨upd r 120 (nI 1), ?_, up_at, fun j h1 h2 => by omega, fun j _ h => up_ne h⟩
    rw [f_X3_begin_l2]
    simp (disch := omega) only [↓zlm1, ↓zlm2, zi_e1, zi_e2, zi_1e, zi_12, zi_21, zi_1n, zi_n1, if_true, if_false, eq_self, not_false_eq_true, not_true_eq_false, nI_add, zi_4m, zi_5m, zi_8m, zi_mul4, zi_mul5, zi_sub, nI_leI, nI_ltI, nI_eq, zl0, zl1, zl2, zl3, zl4, zl5, zl6, zl8, zl9, zl24, zl32, zl48, zl49, zl99, zl100, zl120, zl376, zl377, zl378, zl379, zl380, ↓zi_192, zi_dec, Nat.add_zero, Nat.zero_add, m_n, m_b1, m_b2, m_rd, m_wr, m_get, m_put, nI_clamp, st_at, st_ne, up_at, up_ne, if_pos, if_neg]
  | d + 1, n + 1, k, r, hn, hk => by
    obtain ⟨g, e, h0, h1, h2⟩ := r_begin_l (N := N) d n (k + 1) (upd r k (nI 0)) (by omega) (by omega)
    refine ⟨g, ?_, h0, fun j a b c => ?_, fun j a c => ?_⟩
    · rw [f_X3_begin_l2]
      simp (disch := omega) only [↓zlm1, ↓zlm2, zi_e1, zi_e2, zi_1e, zi_12, zi_21, zi_1n, zi_n1, if_true, if_false, eq_self, not_false_eq_true, not_true_eq_false, nI_add, zi_4m, zi_5m, zi_8m, zi_mul4, zi_mul5, zi_sub, nI_leI, nI_ltI, nI_eq, zl0, zl1, zl2, zl3, zl4, zl5, zl6, zl8, zl9, zl24, zl32, zl48, zl49, zl99, zl100, zl120, zl376, zl377, zl378, zl379, zl380, ↓zi_192, zi_dec, Nat.add_zero, Nat.zero_add, m_n, m_b1, m_b2, m_rd, m_wr, m_get, m_put, nI_clamp, st_at, st_ne, up_at, up_ne, if_pos, if_neg]
      exact e
    · by_cases x : j = k
      · rw [x] at c ⊢
        rw [h2 k (by omega) c, up_at]
      · exact h1 j (by omega) b c
    · rw [h2 j (by omega) c, up_ne (by omega)]
theorem z_clear {N : Nat} (hN : 6000 < N) (T : zx_S) (r : Nat → Int32) : ∃ T' g, f_X1_clear N T = some T' ∧ f_X3_begin N 380 r = some g ∧ ∀ (w : Nat) (S : zx_S), S w = g → zQ w T' S zt0 := by
  obtain ⟨T1, n2, e1, f1, h1, _⟩ := m_clear_l (N := N) 49 N 0 T (by omega) (by omega)
  obtain ⟨g, e2, g0, g1, _⟩ := r_begin_l (N := N) 380 N 0 r (by omega) (by omega)
  obtain ⟨T4, eT4⟩ : ∃ T4, T4 = zx_st (zx_st (zx_st T1 10 (upd (T1 10) 1 (nI 0))) 10 (upd (upd (T1 10) 1 (nI 0)) 2 (nI 0))) 10 (upd (upd (upd (T1 10) 1 (nI 0)) 2 (nI 0)) 3 (nI 0)) := ⟨_, rfl⟩
  have f4 : zfr [10] T1 T4 := by rw [eT4]; exact zfr_st (by simp) (zfr_st (by simp) (zfr_st (by simp) zfr_refl))
  have h410 : T4 10 = upd (upd (upd (T1 10) 1 (nI 0)) 2 (nI 0)) 3 (nI 0) := by rw [eT4, st_at]
  have hnew := m_newNode (N := N) (by omega) (T := T4) (nI 0) 0 (by decide) (by rw [f4 1 (by decide), (h1 24 (by decide) (by decide)).1]; rfl) (fun i hi => absurd hi (Nat.not_lt_zero i))
  obtain ⟨T6, eT6⟩ : ∃ T6, T6 = zx_st (zx_st (zx_st T4 1 (upd (T4 1) (24 + 0) (nI 0))) 2 (upd (T4 2) (24 + 0) zM1)) 3 (upd (T4 3) (24 + 0) (nI 0)) := ⟨_, rfl⟩
  rw [← eT6] at hnew
  have k1 : T6 1 = upd (T1 1) 24 (nI 0) := by rw [eT6, st_ne (by decide), st_ne (by decide), st_at, f4 1 (by decide)]
  have k2 : T6 2 = upd (T1 2) 24 zM1 := by rw [eT6, st_ne (by decide), st_at, f4 2 (by decide)]
  have k3 : T6 3 = upd (T1 3) 24 (nI 0) := by rw [eT6, st_at, f4 3 (by decide)]
  have k10 : T6 10 = T4 10 := by rw [eT6, st_ne (by decide), st_ne (by decide), st_ne (by decide)]
  obtain ⟨T8, eT8⟩ : ∃ T8, T8 = zx_st T6 10 (upd (T6 10) 0 (nI 24)) := ⟨_, rfl⟩
  have m1 : T8 1 = upd (T1 1) 24 (nI 0) := by rw [eT8, st_ne (by decide), k1]
  have m2 : T8 2 = upd (T1 2) 24 zM1 := by rw [eT8, st_ne (by decide), k2]
  have m3 : T8 3 = upd (T1 3) 24 (nI 0) := by rw [eT8, st_ne (by decide), k3]
  have m10 : T8 10 = upd (T4 10) 0 (nI 24) := by rw [eT8, st_at, k10]
  refine ⟨T8, g, ?_, by unfold f_X3_begin; rw [zl0]; exact e2, fun w S hS => ⟨?_, ?_, zt0_wf, ⟨?_, ?_⟩, ?_, ?_, ?_⟩⟩
  · unfold f_X1_clear
    rw [zl0, e1, f_X1_clear_l2]
    simp (disch := omega) only [↓zlm1, ↓zlm2, zi_e1, zi_e2, zi_1e, zi_12, zi_21, zi_1n, zi_n1, if_true, if_false, eq_self, not_false_eq_true, not_true_eq_false, nI_add, zi_4m, zi_5m, zi_8m, zi_mul4, zi_mul5, zi_sub, nI_leI, nI_ltI, nI_eq, zl0, zl1, zl2, zl3, zl4, zl5, zl6, zl8, zl9, zl24, zl32, zl48, zl49, zl99, zl100, zl120, zl376, zl377, zl378, zl379, zl380, ↓zi_192, zi_dec, Nat.add_zero, Nat.zero_add, m_n, m_b1, m_b2, m_rd, m_wr, m_get, m_put, nI_clamp, st_at, st_ne, up_at, up_ne, if_pos, if_neg]
    rw [← eT4, hnew, m_b2, eT8]
  · refine ⟨fun i hi => ?_, fun s hs => ?_, fun s hs h0 => ?_, fun s hs => trivial, fun s e hs he => absurd he (List.not_mem_nil), fun c hc _ _ => ?_, ?_⟩
    · rw [m1, up_ne (by omega), (h1 i (Nat.zero_le i) (by omega)).1, if_neg (by omega)]
    · rw [m1, zt0_lv]
      by_cases c : s = 0
      · rw [c, Nat.add_zero, up_at]; rfl
      · rw [up_ne (by omega), (h1 (24 + s) (Nat.zero_le _) (by omega)).1, if_pos (by omega), if_neg c, if_pos rfl]
    · rw [zt0_lv] at h0
      have c : s = 0 := by
        rcases Nat.eq_zero_or_pos s with e | e
        · exact e
        · rw [if_neg (by omega)] at h0; exact absurd rfl h0
      rw [m3, c, Nat.add_zero, up_at]; rfl
    · rw [m2]
      by_cases c2 : c = 24
      · rw [c2, up_at]
      · rw [up_ne c2]; exact (h1 c (Nat.zero_le c) (by omega)).2.1
    · rw [m10, up_at]; rfl
  · rw [hS]
    refine ⟨fun i hi => ?_, fun i k hi hk hp => ?_, fun s hs => ?_, fun s hs => ?_, fun s hs => trivial, ?_⟩
    · rw [g1 _ (Nat.zero_le _) (by omega) (by omega), zt0_pr]; rfl
    · rw [zt0_pr] at hp; cases hp
    · rw [zt0_lv]
      by_cases c : s = 0
      · rw [c]; exact g0
      · rw [if_neg c]; exact g1 _ (Nat.zero_le _) (by omega) (by omega)
    · rw [g1 _ (Nat.zero_le _) (by omega) (by omega)]; rfl
    · rw [g1 _ (Nat.zero_le _) (by omega) (by omega)]; rfl
  · intro i k hi hk hp
    rw [zt0_pr] at hp; cases hp
  · intro s _ h
    exact absurd zt0_es h
  · rw [m10, up_ne (by decide), h410, up_ne (by decide), up_ne (by decide), up_at, hS, g1 _ (Nat.zero_le _) (by decide) (by decide)]
  · rw [m10, up_ne (by decide), h410, up_ne (by decide), up_at, hS, g1 _ (Nat.zero_le _) (by decide) (by decide)]
  · rw [m10, up_ne (by decide), h410, up_at, hS, g1 _ (Nat.zero_le _) (by decide) (by decide)]
/-- the tree is copied into the trial -/
theorem z_copyT {N : Nat} (hN : 6000 < N) {B : zx_B} {S : zx_S} {t : ZT} (hQ : zQ 1 (B 0) S t) : ∃ T1 g, f_X1_takeOver N (B 1) (B 0) = some T1 ∧ f_X3_copyState N 380 380 0 0 (S 1) (S 2) = some g ∧ zQ 2 T1 (zx_st S 2 g) t := by
  obtain ⟨g, e1, k1, _⟩ := d_copy (N := N) (n0 := 380) (n1 := 380) (a := 0) (b := 0) (f0 := S 1) (f1 := S 2) hN (by decide) (by decide) (by decide) (by decide)
  obtain ⟨T', e, f, k0, k11, k2, k3, k4, k10⟩ := m_takeOver (N := N) (T := B 1) (T2 := B 0)
  refine ⟨T', g, e, by rw [zl0]; exact e1, zQ_copy hQ k0 k11 k2 k3 k4 k10 fun j hj => ?_⟩
  have := k1 j hj
  rw [Nat.zero_add] at this
  rw [st_at]; exact this
theorem z_try {N : Nat} (hN : 6000 < N) {B : zx_B} {S : zx_S} {t : ZT} {a b c d : Int32} (hQ : zQ 2 (B 1) S t) (hb : zbk a b c d) (h24 : zct t 24 < 24) : ∃ i T' S' t', f_X2_tryAdding N a b c d B = some (zx_sb B 1 T') ∧ f_X3_addOn N 2 a b c d (zx_st S 12 (upd (S 12) 3 0)) = some (nI i, S') ∧ zQ 2 T' S' t' ∧ zct t' 24 = zct t 24 + 1 ∧ zfr [2, 6, 7, 12] S S' ∧ zf12 S S' := by
  have hN1 : 100 < N := by omega
  obtain ⟨i, hi, hp, hj⟩ := zct_free 24 h24
  obtain ⟨Tb, e3, f3, hP⟩ := z_begin (N := N) hN1 hQ (by decide)
  obtain ⟨T1, T', S', t', m', g1, g2, g3, g4, g5, g6, g7, g8⟩ := z_addOn (N := N) (w := 2) hN1 (by decide) (by decide) (by decide) hi hp hj hP hb
  have hlow := m_low (N := N) hN1 hQ.1 hQ.2.2.1 hi hp hj
  refine ⟨i, T', S', t', ?_, g3, zQ_PI g4, ?_, zfr_trans (zfr_st (by simp) zfr_refl) g7, zf12_trans ⟨fun j hj => by rw [st_at, up_ne (by omega)], fun j hj => by rw [st_at, up_ne (by omega)]⟩ g8⟩
  · unfold f_X2_tryAdding
    rw [hlow, m_b1, e3, m_b1, m_n, zsb_at, g1, m_b1, m_n, zsb_sb, zsb_at, g2, m_b1, m_n, zsb_sb]
  · rw [zct_add g5 hp 24, if_pos hi]
theorem op_ifAdded {N : Nat} (hN : 6000 < N) : zs_ifAdded N ZInv := by
  intro a b c d B S hI
  have hN1 : 100 < N := by omega
  obtain ⟨t, S0, eS0, hQ, hQ0, fS0, h120, h121, h122, hI0⟩ := z_setup hI
  rcases z_isBox (N := N) (a := a) (b := b) (c := c) (d := d) with ⟨hb, i1, i2⟩ | ⟨hb, i1, i2⟩
  · obtain ⟨c1, c2⟩ := z_count (N := N) hN1 hQ0
    have hle := zct_le (t := t) 24
    by_cases h24 : zct t 24 < 24
    · obtain ⟨x8, T17, S1, o1, o2, o3, o4⟩ := z_overlap (N := N) (w := 1) hN1 (by decide) hQ0
      have hQ1 : zQ 1 (B 0) S1 t := zQ_cg hQ0 rfl rfl rfl rfl rfl rfl (o4 1 (by decide))
      obtain ⟨T1, g, k1, k2, hQ2⟩ := z_copyT hN hQ1
      have hQ2' : zQ 2 ((zx_sb B 1 T1) 1) (zx_st S1 2 g) t := by rw [zsb_at]; exact hQ2
      obtain ⟨i, T', S', t', m1, m2, m3, _, m5, m6⟩ := z_try (N := N) (B := zx_sb B 1 T1) hN hQ2' hb h24
      rw [zsb_sb] at m1
      obtain ⟨x12, T13, S3, p1, p2, p3, p4⟩ := z_overlap (N := N) (w := 2) hN1 (by decide) m3
      have fS : zfr [2, 6, 7, 8, 9, 10, 11, 12] S0 S3 := zfr_trans (zfr_sub o4 (by decide)) (zfr_trans (zfr_st (by simp) zfr_refl) (zfr_trans (zfr_sub m5 (by decide)) (zfr_sub p4 (by decide))))
      have z12 : zf12 S0 S3 := zf12_trans (zf12_eq (o4 12 (by decide))) (zf12_trans (zf12_eq (st_ne (by decide))) (zf12_trans m6 (zf12_eq (p4 12 (by decide)))))
      have hIL := ZInv_look hI0 (zfr_sub o3 (by decide)) fS ⟨z12.1 1 (by decide), z12.1 2 (by decide)⟩
      refine ⟨(x12 - x8, (0, zx_sb (zx_sb B 1 T13) 0 T17)), x12 - x8, S3, ?_, ?_, ?_, Or.inl ⟨rfl, by rw [z12.1 0 (by decide)]; exact h120, rfl⟩⟩
      · unfold f_X2_ifAdded
        rw [i1, m_b1, if_neg (by decide), c1, m_b1, zl24, if_pos (by rw [nI_ltI (by omega) (by decide)]; exact h24), k1, m_b1, m_n, m1, m_b1, zsb_at, p1, m_b2, m_n, zsb_sb, zsb_ne (by decide), o1, m_b2, m_n]
      · unfold f_X3_ifAdded
        rw [i2, m_b1, if_neg (by decide)]
        unfold f_X3_ifAdded_j17
        rw [m_ref0, m_b2, if_pos (by decide), ← eS0, c2, m_b1, zl24, if_neg (by rw [nI_eq (by omega) (by decide)]; omega), o2, m_b2, k2, m_b1, m_n, m_n, m2, m_b2, p2, m_b2]
      · refine ZInv_congr (fun j h1 h2 => ?_) ⟨?_, ?_⟩ ?_ ⟨rfl, rfl, rfl, rfl, rfl⟩ ⟨rfl, rfl⟩ hIL
        · show zx_sb (zx_sb B 1 T13) 0 T17 j = zx_sb B 0 T17 j
          by_cases c : j = 0
          · rw [c, zsb_at, zsb_at]
          · rw [zsb_ne c, zsb_ne h2, zsb_ne c]
        · show zx_sb (zx_sb B 1 T13) 0 T17 18 0 = zx_sb B 0 T17 18 0
          rw [zsb_ne (by decide), zsb_ne (by decide), zsb_ne (by decide)]
        · show zx_sb (zx_sb B 1 T13) 0 T17 18 2 0 = zx_sb B 0 T17 18 2 0
          rw [zsb_ne (by decide), zsb_ne (by decide), zsb_ne (by decide)]
        · show zx_sb (zx_sb B 1 T13) 0 T17 19 = zx_sb B 0 T17 19
          rw [zsb_ne (by decide), zsb_ne (by decide), zsb_ne (by decide)]
    · have h24e : zct t 24 = 24 := by omega
      refine ⟨(-100001, (0, B)), -100001, S0, ?_, ?_, hI0, Or.inl ⟨rfl, h120, rfl⟩⟩
      · unfold f_X2_ifAdded
        rw [i1, m_b1, if_neg (by decide), c1, m_b1, h24e, if_neg (by decide)]
      · unfold f_X3_ifAdded
        rw [i2, m_b1, if_neg (by decide)]
        unfold f_X3_ifAdded_j17
        rw [m_ref0, m_b2, if_pos (by decide), ← eS0, c2, m_b1, h24e, if_pos (by decide)]
  · refine ⟨(0, (1, B)), 0, _, ?_, ?_, ZInv_ref (k := 1) hI, Or.inr ⟨rfl, by rw [st_at, up_at]⟩⟩
    · unfold f_X2_ifAdded
      rw [i1, m_b1, if_pos (by decide)]
    · unfold f_X3_ifAdded
      rw [i2, m_b1, if_pos (by decide)]
      unfold f_X3_ifAdded_j17
      rw [m_ref1, m_b2, if_neg (by decide)]
/-- the best removal -/
theorem z_best_l {N : Nat} (hN : 6000 < N) {t : ZT} : ∀ (d n n' k : Nat) (v1 v2 : Int32) (B : zx_B) (S : zx_S), d < n → d < n' → k + d = 24 → zQ 1 (B 0) S t → ∃ r B' S', f_X2_bestRemoval_l6 N n v1 v2 (nI k) B = some (r, B') ∧ f_X3_bestRemoval_l11 N n' v1 v2 (nI k) S = some (r, S') ∧ (∀ j, j ≠ 1 → B' j = B j) ∧ zfr [2, 6, 7, 8, 12] S S' ∧ zf12 S S'
  | 0, n + 1, n' + 1, k, v1, v2, B, S, hn, hn', hk, hQ => by
    obtain rfl : k = 24 := by omega
    exact ⟨v1, B, S, by rw [f_X2_bestRemoval_l6, if_pos (by decide)], by rw [f_X3_bestRemoval_l11, if_pos (by decide)], fun _ _ => rfl, zfr_refl, zf12_refl⟩
  | d + 1, n + 1, n' + 1, k, v1, v2, B, S, hn, hn', hk, hQ => by
    have hN1 : 100 < N := by omega
    have h24 : ¬ (24 : Int32) ≤ nI k := by rw [zl24, nI_leI (by omega) (by omega)]; omega
    have hk1 : nI k + 1 = nI (k + 1) := by rw [zl1, nI_add]
    rw [f_X2_bestRemoval_l6, if_neg h24, f_X3_bestRemoval_l11, if_neg h24]
    unfold f_X2_bestRemoval_j69 f_X2_bestRemoval_j74 f_X3_bestRemoval_j72 f_X3_bestRemoval_j77 f_X3_bestRemoval_j89 f_X3_bestRemoval_j101 f_X3_bestRemoval_j102
    rw [hk1]
    rcases z_has (N := N) hQ (nI k) with ⟨i, hi, e, hp, c1, c2⟩ | ⟨hno, c1, c2⟩
    · have := (nI_eq (by omega) (by omega)).mp e
      subst this
      obtain ⟨T1, g, k1, k2, hQ2⟩ := z_copyT hN hQ
      obtain ⟨Tb, T', S', t', g1, g2, g3, g4, g5, g6, g7, g8⟩ := z_removeOn (N := N) (w := 2) hN1 (by decide) (by decide) (by decide) (by decide) hi hp hQ2
      obtain ⟨x, T3, S3, p1, p2, p3, p4⟩ := z_overlap (N := N) (w := 2) hN1 (by decide) g4
      have fS : zfr [2, 6, 7, 8, 12] S S3 := zfr_trans (zfr_st (by simp) zfr_refl) (zfr_trans g7 (zfr_sub p4 (by decide)))
      have z12 : zf12 S S3 := zf12_trans (zf12_eq (st_ne (by decide))) (zf12_trans g8 (zf12_eq (p4 12 (by decide))))
      have hB : ∀ j, j ≠ 1 → zx_sb B 1 T3 j = B j := fun j hj => zsb_ne hj
      have hQ3 : zQ 1 ((zx_sb B 1 T3) 0) S3 t := by
        rw [hB 0 (by decide)]
        exact zQ_cg hQ rfl rfl rfl rfl rfl rfl (fS 1 (by decide))
      have ih : ∀ v1 v2, ∃ r B' S', f_X2_bestRemoval_l6 N n v1 v2 (nI (k + 1)) (zx_sb B 1 T3) = some (r, B') ∧ f_X3_bestRemoval_l11 N n' v1 v2 (nI (k + 1)) S3 = some (r, S') ∧ (∀ j, j ≠ 1 → B' j = B j) ∧ zfr [2, 6, 7, 8, 12] S S' ∧ zf12 S S' := fun v1 v2 => by
        obtain ⟨r, B', S', a1, a2, a3, a4, a5⟩ := z_best_l hN d n n' (k + 1) v1 v2 (zx_sb B 1 T3) S3 (by omega) (by omega) (by omega) hQ3
        exact ⟨r, B', S', a1, a2, fun j hj => by rw [a3 j hj, hB j hj], zfr_trans fS a4, zf12_trans z12 a5⟩
      rw [c1, m_b1, if_neg (show ¬ nI 1 = 0 by decide), c2, m_b1, if_neg (show ¬ nI 1 = 0 by decide), k1, m_b1, m_n, zsb_at, g1, m_b1, m_n, zsb_sb, zsb_at, g2, m_b1, m_n, zsb_sb, zsb_at, p1, m_b2, m_n, zsb_sb, k2, m_b1, m_n (zx_st S 2 g), g3, m_b2, p2, m_b2]
      simp only [m_n]
      by_cases q : v1 = -1
      · rw [if_pos q, if_pos q, if_neg (show ¬ (1 : Int32) = 0 by decide), if_neg (show ¬ (1 : Int32) = 0 by decide)]
        exact ih (nI k) x
      · rw [if_neg q, if_neg q]
        by_cases q2 : v2 ≤ x
        · rw [if_pos q2, if_pos q2, if_pos trivial, if_pos trivial]
          exact ih v1 v2
        · rw [if_neg q2, if_neg q2, if_neg (show ¬ (1 : Int32) = 0 by decide), if_neg (show ¬ (1 : Int32) = 0 by decide)]
          exact ih (nI k) x
    · rw [c1, m_b1, if_pos (show nI 0 = 0 from rfl), c2, m_b1, if_pos (show nI 0 = 0 from rfl)]
      simp only [m_n]
      exact z_best_l hN d n n' (k + 1) v1 v2 B S (by omega) (by omega) (by omega) hQ
theorem z_finT {B B' : zx_B} {S S' : zx_S} (hI : ZInv B S) (hB : ∀ j, j ≠ 1 → B' j = B j) (fS : zfr [2, 6, 7, 8, 9, 10, 11, 12] S S') (h12 : zf12 S S') : ZInv B' S' :=
  ZInv_congr (fun j _ h => hB j h) ⟨by rw [hB 18 (by decide)], by rw [hB 18 (by decide)]⟩ (hB 19 (by decide)) ⟨fS 0 (by decide), fS 1 (by decide), fS 3 (by decide), fS 4 (by decide), fS 5 (by decide)⟩ ⟨h12.1 1 (by decide), h12.1 2 (by decide)⟩ hI
theorem op_bestRemoval {N : Nat} (hN : 6000 < N) : zs_bestRemoval N ZInv := by
  intro B S hI
  obtain ⟨t, S0, eS0, hQ, hQ0, fS0, h120, h121, h122, hI0⟩ := z_setup hI
  obtain ⟨r, B', S', a1, a2, a3, a4, a5⟩ := z_best_l hN 24 N N 0 (-1) 0 B S0 (by omega) (by omega) (by omega) hQ0
  refine ⟨r, B', S', ?_, ?_, z_finT hI0 a3 (zfr_sub a4 (by decide)) a5⟩
  · unfold f_X2_bestRemoval; exact a1
  · unfold f_X3_bestRemoval
    rw [m_n, ← eS0]; exact a2
/-- all anew -/
theorem z_anew_l {N : Nat} (hN : 6000 < N) {t : ZT} : ∀ (d n n' k : Nat) (B : zx_B) (S : zx_S) (t2 : ZT), d < n → d < n' → k + d = 24 → zQ 1 (B 0) S t → zQ 2 (B 1) S t2 → zct t2 24 ≤ k → ∃ r B' S', f_X2_anew_l9 N n (nI k) B = some (r, B') ∧ f_X3_anew_l14 N n' (nI k) S = some (r, S') ∧ (∀ j, j ≠ 1 → B' j = B j) ∧ zfr [2, 6, 7, 8, 12] S S' ∧ zf12 S S'
  | 0, n + 1, n' + 1, k, B, S, t2, hn, hn', hk, hQ, hQ2, hc => by
    obtain rfl : k = 24 := by omega
    obtain ⟨x, T3, S3, p1, p2, p3, p4⟩ := z_overlap (N := N) (w := 2) (by omega) (by decide) hQ2
    refine ⟨x, zx_sb B 1 T3, S3, ?_, ?_, fun j hj => zsb_ne hj, zfr_sub p4 (by decide), zf12_eq (p4 12 (by decide))⟩
    · rw [f_X2_anew_l9, if_pos (by decide), p1, m_b2, m_n]
    · rw [f_X3_anew_l14, if_pos (by decide), p2, m_b2]
  | d + 1, n + 1, n' + 1, k, B, S, t2, hn, hn', hk, hQ, hQ2, hc => by
    have h24 : ¬ (24 : Int32) ≤ nI k := by rw [zl24, nI_leI (by omega) (by omega)]; omega
    have hk1 : nI k + 1 = nI (k + 1) := by rw [zl1, nI_add]
    rw [f_X2_anew_l9, if_neg h24, f_X3_anew_l14, if_neg h24]
    unfold f_X2_anew_j66 f_X3_anew_j81
    rw [hk1]
    rcases z_has (N := N) hQ (nI k) with ⟨i, hi, e, hp, c1, c2⟩ | ⟨hno, c1, c2⟩
    · have := (nI_eq (by omega) (by omega)).mp e
      subst this
      have hb := zwf_cr hQ.2.2.1 k hi hp
      obtain ⟨i, T', S', t', m1, m2, m3, m4, m5, m6⟩ := z_try (N := N) (a := zrc t k 0) (b := zrc t k 1) (c := zrc t k 2) (d := zrc t k 3) hN hQ2 hb (by omega)
      have hB : ∀ j, j ≠ 1 → zx_sb B 1 T' j = B j := fun j hj => zsb_ne hj
      obtain ⟨r, B', S2, a1, a2, a3, a4, a5⟩ := z_anew_l hN d n n' (k + 1) (zx_sb B 1 T') S' t' (by omega) (by omega) (by omega) (by
        rw [hB 0 (by decide)]
        exact zQ_cg hQ rfl rfl rfl rfl rfl rfl (m5 1 (by decide))) (by rw [zsb_at]; exact m3) (by omega)
      have k0 := hQ.2.2.2.1.1 k 0 hi (by omega) hp
      have k1 := hQ.2.2.2.1.1 k 1 hi (by omega) hp
      have k2 := hQ.2.2.2.1.1 k 2 hi (by omega) hp
      have k3 := hQ.2.2.2.1.1 k 3 hi (by omega) hp
      have q0 := hQ.2.1.2.1 k 0 hi (by omega) hp
      have q1 := hQ.2.1.2.1 k 1 hi (by omega) hp
      have q2 := hQ.2.1.2.1 k 2 hi (by omega) hp
      have q3 := hQ.2.1.2.1 k 3 hi (by omega) hp
      rw [Nat.add_zero] at q0
      rw [show 5 * k + 1 + 1 = 5 * k + 2 from rfl] at q1
      rw [show 5 * k + 1 + 2 = 5 * k + 3 from rfl] at q2
      rw [show 5 * k + 1 + 3 = 5 * k + 4 from rfl] at q3
      refine ⟨r, B', S2, ?_, ?_, fun j hj => by rw [a3 j hj, hB j hj], zfr_trans (zfr_sub m5 (by decide)) a4, zf12_trans m6 a5⟩
      · rw [c1, m_b1, if_neg (show ¬ nI 1 = 0 by decide), zl0, m_corner (by omega) (by omega), m_b1, zl1, m_corner (by omega) (by omega), m_b1, zl2, m_corner (by omega) (by omega), m_b1, zl3, m_corner (by omega) (by omega), m_b1, k0, k1, k2, k3, m1, m_b1, m_n]
        exact a1
      · rw [c2, m_b1, if_neg (show ¬ nI 1 = 0 by decide), m_n, m_n]
        have s1 : zx_st S 12 (upd (S 12) 3 0) 1 = S 1 := st_ne (by decide)
        have g0 : ∀ {β : Type} (f : Int32 → Option β), zx_rd 380 (S 1) (5 * nI k + 1) f = f (zrc t k 0) := fun f => by
          simp (disch := omega) only [↓zlm1, ↓zlm2, zi_e1, zi_e2, zi_1e, zi_12, zi_21, zi_1n, zi_n1, if_true, if_false, eq_self, not_false_eq_true, not_true_eq_false, nI_add, zi_4m, zi_5m, zi_8m, zi_mul4, zi_mul5, zi_sub, nI_leI, nI_ltI, nI_eq, zl0, zl1, zl2, zl3, zl4, zl5, zl6, zl8, zl9, zl24, zl32, zl48, zl49, zl99, zl100, zl120, zl376, zl377, zl378, zl379, zl380, ↓zi_192, zi_dec, Nat.add_zero, Nat.zero_add, m_n, m_b1, m_b2, m_rd, m_wr, m_get, m_put, nI_clamp, st_at, st_ne, up_at, up_ne, if_pos, if_neg, q0]
        have g1 : ∀ {β : Type} (f : Int32 → Option β), zx_rd 380 (S 1) (5 * nI k + 2) f = f (zrc t k 1) := fun f => by
          simp (disch := omega) only [↓zlm1, ↓zlm2, zi_e1, zi_e2, zi_1e, zi_12, zi_21, zi_1n, zi_n1, if_true, if_false, eq_self, not_false_eq_true, not_true_eq_false, nI_add, zi_4m, zi_5m, zi_8m, zi_mul4, zi_mul5, zi_sub, nI_leI, nI_ltI, nI_eq, zl0, zl1, zl2, zl3, zl4, zl5, zl6, zl8, zl9, zl24, zl32, zl48, zl49, zl99, zl100, zl120, zl376, zl377, zl378, zl379, zl380, ↓zi_192, zi_dec, Nat.add_zero, Nat.zero_add, m_n, m_b1, m_b2, m_rd, m_wr, m_get, m_put, nI_clamp, st_at, st_ne, up_at, up_ne, if_pos, if_neg, q1]
        have g2 : ∀ {β : Type} (f : Int32 → Option β), zx_rd 380 (S 1) (5 * nI k + 3) f = f (zrc t k 2) := fun f => by
          simp (disch := omega) only [↓zlm1, ↓zlm2, zi_e1, zi_e2, zi_1e, zi_12, zi_21, zi_1n, zi_n1, if_true, if_false, eq_self, not_false_eq_true, not_true_eq_false, nI_add, zi_4m, zi_5m, zi_8m, zi_mul4, zi_mul5, zi_sub, nI_leI, nI_ltI, nI_eq, zl0, zl1, zl2, zl3, zl4, zl5, zl6, zl8, zl9, zl24, zl32, zl48, zl49, zl99, zl100, zl120, zl376, zl377, zl378, zl379, zl380, ↓zi_192, zi_dec, Nat.add_zero, Nat.zero_add, m_n, m_b1, m_b2, m_rd, m_wr, m_get, m_put, nI_clamp, st_at, st_ne, up_at, up_ne, if_pos, if_neg, q2]
        have g3 : ∀ {β : Type} (f : Int32 → Option β), zx_rd 380 (S 1) (5 * nI k + 4) f = f (zrc t k 3) := fun f => by
          simp (disch := omega) only [↓zlm1, ↓zlm2, zi_e1, zi_e2, zi_1e, zi_12, zi_21, zi_1n, zi_n1, if_true, if_false, eq_self, not_false_eq_true, not_true_eq_false, nI_add, zi_4m, zi_5m, zi_8m, zi_mul4, zi_mul5, zi_sub, nI_leI, nI_ltI, nI_eq, zl0, zl1, zl2, zl3, zl4, zl5, zl6, zl8, zl9, zl24, zl32, zl48, zl49, zl99, zl100, zl120, zl376, zl377, zl378, zl379, zl380, ↓zi_192, zi_dec, Nat.add_zero, Nat.zero_add, m_n, m_b1, m_b2, m_rd, m_wr, m_get, m_put, nI_clamp, st_at, st_ne, up_at, up_ne, if_pos, if_neg, q3]
        rw [s1, g0, g1, g2, g3, m2, m_b2, m_n]
        exact a2
    · rw [c1, m_b1, if_pos (show nI 0 = 0 from rfl), c2, m_b1, if_pos (show nI 0 = 0 from rfl), m_n, m_n]
      exact z_anew_l hN d n n' (k + 1) B S t2 (by omega) (by omega) (by omega) hQ hQ2 (by omega)
theorem op_anew {N : Nat} (hN : 6000 < N) : zs_anew N ZInv := by
  intro B S hI
  obtain ⟨t, S0, eS0, hQ, hQ0, fS0, h120, h121, h122, hI0⟩ := z_setup hI
  obtain ⟨T1, g, e1, e2, h⟩ := z_clear (N := N) hN (B 1) (S0 2)
  obtain ⟨r, B', S', a1, a2, a3, a4, a5⟩ := z_anew_l hN (t := t) 24 N N 0 (zx_sb B 1 T1) (zx_st S0 2 g) zt0 (by omega) (by omega) (by omega) (by
    rw [zsb_ne (by decide)]
    exact zQ_cg hQ0 rfl rfl rfl rfl rfl rfl (st_ne (by decide))) (by rw [zsb_at]; exact h 2 _ st_at) (by decide)
  refine ⟨r, B', S', ?_, ?_, z_finT hI0 (fun j hj => by rw [a3 j hj, zsb_ne hj]) (zfr_trans (zfr_st (by simp) zfr_refl) (zfr_sub a4 (by decide))) (zf12_trans (zf12_eq (st_ne (by decide))) a5)⟩
  · unfold f_X2_anew
    rw [e1, m_b1, m_n]; exact a1
  · unfold f_X3_anew
    rw [m_n, ← eS0, e2, m_b1, m_n]; exact a2
theorem z_inv0 {N : Nat} (hN : 6000 < N) {R0 : zx_S} {g0 : Nat → Int32} (hT : f_X1_clear N (fun _ _ => 0) = some R0) (hG : f_X3_begin N 380 (fun _ => 0) = some g0) : ZInv (zx_B0 R0) (zx_st (fun _ _ => 0) 1 g0) := by
  obtain ⟨T1, g, e1, e2, h⟩ := z_clear (N := N) hN (fun _ _ => 0) (fun _ => 0)
  rw [hT] at e1
  rw [hG] at e2
  cases e1
  cases e2
  refine ⟨?_, ⟨0, by decide, rfl, rfl, fun i hi => absurd hi (Nat.not_lt_zero i)⟩, ⟨0, 0, by decide, by decide, rfl, rfl, rfl, fun i hi => absurd hi (Nat.not_lt_zero i)⟩, fun j hj => Or.inl ⟨?_, rfl⟩⟩
  · exact zQ_same (h 1 (zx_st (fun _ _ => 0) 1 g0) rfl)
  · rfl
