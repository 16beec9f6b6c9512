/-! a rectangle is taken out: the root, and what is put in again -/
theorem zks_cg {T S T' S' : zx_S} {t t' : ZT} {ks : List Nat} (h : zks T S t ks) (h6 : T' 6 = T 6) (h8 : S' 8 = S 8) (hl : ∀ x, x ∈ ks → zil t' x = zil t x) : zks T' S' t' ks := by
  refine ⟨h.1, fun k hk => ?_, fun k h1 h2 => by rw [h8]; exact h.2.2 k h1 h2⟩
  obtain ⟨a1, a2, a3⟩ := h.2.1 k hk
  refine ⟨by rw [h6]; exact a1, by rw [h8]; exact a2, ?_⟩
  rw [hl _ (zgetD_mem hk)]
  exact a3
theorem z_down {N w : Nat} (hN : 100 < N) (hw8 : w ≠ 8) {i : Nat} (hi : i < 24) {T S : zx_S} {t : ZT} {ks : List Nat} (hT : zcx T t []) (hr : zref (S w) t) (hwf : zwf t (ks.reverse ++ [i]) 99 (zrt t)) (hR : zlv t (zrt t) ≤ 4) (hne : 1 < zlv t (zrt t) → zes t (zrt t) ≠ []) (hkl : ks.length < zlv t (zrt t)) (hk : zks T S t ks) (hbx : zcbx T t) (hcnt : zcnt T (S w)) :
    ∃ T' S' t', f_X1_takeOut_l23 N N (nI ks.length) (nI 0) T = f_X1_takeOut_l108 N N (nI ks.length) (nI 0) T' ∧ f_X3_takeOut_l119 N w N S = f_X3_takeOut_l181 N w N (nI 0) S' ∧ zcx T' t' [] ∧ zref (S' w) t' ∧ zwf t' (ks.reverse ++ [i]) 99 99 ∧ zks T' S' t' ks ∧ zcbx T' t' ∧ zcnt T' (S' w) ∧ zpr t' = zpr t ∧ zrc t' = zrc t ∧ zfr [1, 2, 3, 4, 10] T T' ∧ zfr [w] S S' := by
  have ht := zwf_zb hwf (by omega)
  have hu := hwf.1
  have hrt := hwf.2.2.2.2.2.2.1
  have hroot : T 10 0 = nI (24 + zrt t) := hT.2.2.2.2.2.2
  have hroot2 : S w 376 = nI (zrt t) := hr.2.2.2.2.2
  have hlvT : ∀ (T : zx_S) (t : ZT), zcx T t [] → zwf t (ks.reverse ++ [i]) 99 99 → T 1 (24 + zrt t) = nI (zlv t (zrt t) - 1) := fun T t hT hw => by
    have := hT.2.1 (zrt t) hw.2.2.2.2.2.2.1.1
    rw [if_neg hw.2.2.2.2.2.2.1.2] at this
    exact this
  -- a tree that is well made stops the loops
  have stop : ∀ (n n' step : Nat) (T S : zx_S) (t : ZT), zcx T t [] → zref (S w) t → zwf t (ks.reverse ++ [i]) 99 99 → step < 8 → f_X1_takeOut_l23 N (n + 1) (nI ks.length) (nI step) T = f_X1_takeOut_l108 N N (nI ks.length) (nI 0) T ∧ f_X3_takeOut_l119 N w (n' + 1) S = f_X3_takeOut_l181 N w N (nI 0) S := by
    intro n n' step T S t hT hr hw hst
    have hrt := hw.2.2.2.2.2.2.1
    have hl1 := hlvT T t hT hw
    have hroot : T 10 0 = nI (24 + zrt t) := hT.2.2.2.2.2.2
    have hroot2 : S w 376 = nI (zrt t) := hr.2.2.2.2.2
    have hR := zwf_lv hw (by decide)
    have hl5 := (hw.2.2.2.2.2.2.2.2.2.1 (zrt t)).1
    have hl3 := hT.2.2.1 _ hrt.1 hrt.2
    have hm1 := hr.2.2.2.1 (zrt t) (by omega)
    have hlo := r_levelOf (N := N) (r := S w) (s := zrt t) (v := zlv t (zrt t)) (by omega) (hr.2.2.1 _ (by omega)) (by omega)
    rw [f_X1_takeOut_l23, f_X3_takeOut_l119]
    unfold f_X1_takeOut_j105 f_X3_takeOut_j178
    by_cases h1 : zlv t (zrt t) = 1
    · simp (disch := omega) only [↓zlm1, ↓zlm2, zi_e1, zi_e2, zi_1e, zi_12, zi_21, zi_1n, zi_n1, if_true, if_false, eq_self, not_false_eq_true, not_true_eq_false, nI_add, zi_4m, zi_5m, zi_8m, zi_mul4, zi_mul5, zi_sub, nI_leI, nI_ltI, nI_eq, zl0, zl1, zl2, zl3, zl4, zl5, zl6, zl8, zl9, zl24, zl32, zl48, zl49, zl99, zl100, zl120, zl376, zl377, zl378, zl379, zl380, ↓zi_192, zi_dec, Nat.add_zero, Nat.zero_add, m_n, m_b1, m_b2, m_rd, m_wr, m_get, m_put, nI_clamp, st_at, st_ne, up_at, up_ne, if_pos, if_neg, hroot, hroot2, hl1, hlo]
      exact ⟨trivial, trivial⟩
    · have h2 := hw.2.2.2.2.2.2.2.2.2.2.1 (by omega) (by omega)
      simp (disch := omega) only [↓zlm1, ↓zlm2, zi_e1, zi_e2, zi_1e, zi_12, zi_21, zi_1n, zi_n1, if_true, if_false, eq_self, not_false_eq_true, not_true_eq_false, nI_add, zi_4m, zi_5m, zi_8m, zi_mul4, zi_mul5, zi_sub, nI_leI, nI_ltI, nI_eq, zl0, zl1, zl2, zl3, zl4, zl5, zl6, zl8, zl9, zl24, zl32, zl48, zl49, zl99, zl100, zl120, zl376, zl377, zl378, zl379, zl380, ↓zi_192, zi_dec, Nat.add_zero, Nat.zero_add, m_n, m_b1, m_b2, m_rd, m_wr, m_get, m_put, nI_clamp, st_at, st_ne, up_at, up_ne, if_pos, if_neg, hroot, hroot2, hl1, hlo, hl3, r_many, hm1]
      exact ⟨trivial, trivial⟩
  obtain ⟨n, hn⟩ : ∃ n, N = n + 2 := ⟨N - 2, by omega⟩
  by_cases h1 : zlv t (zrt t) = 1
  · have hw9 := zwf_lv1 hwf h1
    obtain ⟨e1, e2⟩ := stop (n + 1) (n + 1) 0 T S t hT hr hw9 (by omega)
    exact ⟨T, S, t, by rw [← e1, ← hn], by rw [← e2, ← hn], hT, hr, hw9, hk, hbx, hcnt, rfl, rfl, zfr_refl, zfr_refl⟩
  · by_cases h2 : 2 ≤ (zes t (zrt t)).length
    · have hw9 := zwf_un hwf h2
      obtain ⟨e1, e2⟩ := stop (n + 1) (n + 1) 0 T S t hT hr hw9 (by omega)
      exact ⟨T, S, t, by rw [← e1, ← hn], by rw [← e2, ← hn], hT, hr, hw9, hk, hbx, hcnt, rfl, rfl, zfr_refl, zfr_refl⟩
    · have hne1 := hne (by omega)
      obtain ⟨x, hes⟩ : ∃ x, zes t (zrt t) = [x] := by
        rcases hq : zes t (zrt t) with _ | ⟨a, _ | ⟨b, l⟩⟩
        · exact absurd hq hne1
        · exact ⟨a, rfl⟩
        · rw [hq] at h2; simp at h2
      have hx := ht.1 (zrt t) x (by rw [hes]; simp)
      obtain ⟨c, rfl⟩ : ∃ c, x = 24 + c := by
        have h3 := hx.2.1
        unfold zil at h3
        by_cases h24 : x < 24
        · rw [if_pos h24] at h3; omega
        · exact ⟨x - 24, by omega⟩
      have hcl := hx.2.1
      unfold zil at hcl
      rw [if_neg (by omega), Nat.add_sub_cancel_left] at hcl
      have hcr : c ≠ zrt t := fun z => by rw [z] at hcl; omega
      have hlen1 : (zes t (zrt t)).length = 1 := by rw [hes]; rfl
      have h48 := fun j x (hx : x ∈ zes t j) => (ht.1 j x hx).1
      have hlo9 : ∀ y, y ∈ ks.reverse ++ [i] → zil t y + 2 ≤ zlv t (zrt t) := fun y hy => by
        rcases List.mem_append.mp hy with z | z
        · have := zks_lt hk (List.mem_reverse.mp z); omega
        · rw [List.mem_singleton.mp z]; unfold zil; rw [if_pos hi]; omega
      have hw9 := zwf_down hwf hes (by omega) hlo9
      obtain ⟨t9, et9⟩ : ∃ t9, t9 = zR (zL (zE t (zrt t) []) (zrt t) 0) c := ⟨_, rfl⟩
      rw [← et9] at hw9
      -- the class
      have hT1 := zcx_root (q := c) hT
      obtain ⟨T1, eT1⟩ : ∃ T1, T1 = zx_st T 10 (upd (T 10) 0 (nI (24 + c))) := ⟨_, rfl⟩
      rw [← eT1] at hT1
      have hT110 : T1 10 0 = nI (24 + c) := by rw [eT1, st_at, up_at]
      obtain ⟨T2, d2, hT2, f2⟩ := c_detach (N := N) hN (s := zrt t) (l := []) (m := []) hT1 hu ht.2.2.2.1 h48 hrt.1 hrt.2 hes
      have hT3 := c_free (q := zrt t) hT2 hrt.1 zE_at
      obtain ⟨T3, eT3⟩ : ∃ T3, T3 = zx_st T2 1 (upd (T2 1) (24 + zrt t) zM2) := ⟨_, rfl⟩
      rw [← eT3] at hT3
      have hT39 : zcx T3 t9 [] := by rw [et9]; exact hT3
      -- the reference
      obtain ⟨r1, q1, hr1, k1⟩ := d_clear (N := N) hN hr ht.2.2.2.1 (s := zrt t) (by omega)
      have hr2 : zref (upd r1 376 (nI c)) t9 := by
        rw [et9]
        refine zref_root hr1 (fun j => ?_)
        rw [zL_es]
        by_cases hj : j = zrt t
        · rw [hj, zE_at]; simp
        · rw [zE_ne hj]; exact ht.2.2.2.1 j
      obtain ⟨S2, eS2⟩ : ∃ S2, S2 = zx_st (zx_st S w r1) w (upd r1 376 (nI c)) := ⟨_, rfl⟩
      have hS2w : S2 w = upd r1 376 (nI c) := by rw [eS2, st_at]
      obtain ⟨e1, e2⟩ := stop n n 1 T3 S2 t9 hT39 (by rw [hS2w]; exact hr2) hw9 (by omega)
      have h0e : T 4 (5 * (24 + zrt t)) = nI (24 + c) := by
        have := hT.2.2.2.1 (zrt t) hrt.1
        rw [hes] at this
        exact this.1
      have hz0 : S w (120 + 8 * zrt t + 2) = nI (24 + c) := by
        have := hr.2.2.2.2.1 (zrt t) (by omega)
        rw [hes] at this
        exact this.1
      have hl1 : T 1 (24 + zrt t) = nI (zlv t (zrt t) - 1) := by
        have := hT.2.1 (zrt t) hrt.1
        rw [if_neg hrt.2] at this
        exact this
      have hl3 := hT.2.2.1 _ hrt.1 hrt.2
      have hm1 := hr.2.2.2.1 (zrt t) (by omega)
      have hlo := r_levelOf (N := N) (r := S w) (s := zrt t) (v := zlv t (zrt t)) (by omega) (hr.2.2.1 _ (by omega)) (by omega)
      have hT30 : T3 0 = T 0 := by rw [eT3, st_ne (by decide), f2 0 (by decide), eT1, st_ne (by decide)]
      have hT310 : ∀ j, j ≠ 0 → T3 10 j = T 10 j := fun j hj => by rw [eT3, st_ne (by decide), f2 10 (by decide), eT1, st_at, up_ne hj]
      have hrti : 24 + zrt t ∉ ks := fun z => by
        have h3 := hlo9 (24 + zrt t) (List.mem_append_left _ (List.mem_reverse.mpr z))
        unfold zil at h3
        rw [if_neg (by omega), Nat.add_sub_cancel_left] at h3
        omega
      refine ⟨T3, S2, t9, ?_, ?_, hT39, by rw [hS2w]; exact hr2, hw9, ?_, ⟨?_, fun j hj => ?_⟩, ?_, ?_, ?_, ?_, ?_⟩
      · rw [hn, f_X1_takeOut_l23, ← hn]
        simp (disch := omega) only [↓zlm1, ↓zlm2, zi_e1, zi_e2, zi_1e, zi_12, zi_21, zi_1n, zi_n1, if_true, if_false, eq_self, not_false_eq_true, not_true_eq_false, nI_add, zi_4m, zi_5m, zi_8m, zi_mul4, zi_mul5, zi_sub, nI_leI, nI_ltI, nI_eq, zl0, zl1, zl2, zl3, zl4, zl5, zl6, zl8, zl9, zl24, zl32, zl48, zl49, zl99, zl100, zl120, zl376, zl377, zl378, zl379, zl380, ↓zi_192, zi_dec, Nat.add_zero, Nat.zero_add, m_n, m_b1, m_b2, m_rd, m_wr, m_get, m_put, nI_clamp, st_at, st_ne, up_at, up_ne, if_pos, if_neg, hroot, hl1, hl3, hlen1, h0e]
        rw [← eT1, d2]
        simp (disch := omega) only [↓zlm1, ↓zlm2, zi_e1, zi_e2, zi_1e, zi_12, zi_21, zi_1n, zi_n1, if_true, if_false, eq_self, not_false_eq_true, not_true_eq_false, nI_add, zi_4m, zi_5m, zi_8m, zi_mul4, zi_mul5, zi_sub, nI_leI, nI_ltI, nI_eq, zl0, zl1, zl2, zl3, zl4, zl5, zl6, zl8, zl9, zl24, zl32, zl48, zl49, zl99, zl100, zl120, zl376, zl377, zl378, zl379, zl380, ↓zi_192, zi_dec, Nat.add_zero, Nat.zero_add, m_n, m_b1, m_b2, m_rd, m_wr, m_get, m_put, nI_clamp, st_at, st_ne, up_at, up_ne, if_pos, if_neg]
        rw [← eT3, e1]
      · rw [hn, f_X3_takeOut_l119, ← hn]
        simp (disch := omega) only [↓zlm1, ↓zlm2, zi_e1, zi_e2, zi_1e, zi_12, zi_21, zi_1n, zi_n1, if_true, if_false, eq_self, not_false_eq_true, not_true_eq_false, nI_add, zi_4m, zi_5m, zi_8m, zi_mul4, zi_mul5, zi_sub, nI_leI, nI_ltI, nI_eq, zl0, zl1, zl2, zl3, zl4, zl5, zl6, zl8, zl9, zl24, zl32, zl48, zl49, zl99, zl100, zl120, zl376, zl377, zl378, zl379, zl380, ↓zi_192, zi_dec, Nat.add_zero, Nat.zero_add, m_n, m_b1, m_b2, m_rd, m_wr, m_get, m_put, nI_clamp, st_at, st_ne, up_at, up_ne, if_pos, if_neg, hroot2, hlo, r_many, hm1, hlen1, r_entryOf, Nat.add_zero, hz0, q1, Nat.add_sub_cancel_left]
        rw [← eS2, e2]
      · refine zks_cg hk ?_ ?_ (fun x hx => ?_)
        · rw [eT3, st_ne (by decide), f2 6 (by decide), eT1, st_ne (by decide)]
        · rw [eS2, st_ne (Ne.symm hw8), st_ne (Ne.symm hw8)]
        · have hxr : x ≠ 24 + zrt t := fun z => hrti (by rw [← z]; exact hx)
          unfold zil
          by_cases h24 : x < 24
          · rw [if_pos h24, if_pos h24]
          · rw [if_neg h24, if_neg h24, et9, zR_lv, zL_ne (by omega)]; rfl
      · rw [hT30, et9]; exact hbx.1
      · have hjr : j ≠ zrt t := fun z => hj (by rw [z, et9, zR_lv, zL_at])
        rw [et9, zR_lv, zL_ne hjr] at hj
        rw [hT30]
        refine zLC_ext (hbx.2 j hj) ?_ (fun k hk => rfl) (fun x hx k hk => rfl)
        rw [et9, zR_es, zL_es, zE_ne hjr]
      · unfold zcnt
        rw [hT310 1 (by decide), hT310 2 (by decide), hT310 3 (by decide), hS2w, up_ne (by decide), up_ne (by decide), up_ne (by decide), k1 377 (by omega), k1 378 (by omega), k1 379 (by omega)]
        exact hcnt
      · rw [et9]; rfl
      · rw [et9]; rfl
      · refine zfr_trans (T1 := T1) (by rw [eT1]; exact zfr_st (by decide) zfr_refl) (zfr_trans (zfr_sub f2 (by decide)) (T2 := T3) (by rw [eT3]; exact zfr_st (by decide) zfr_refl))
      · rw [eS2]; exact zfr_st (by simp) (zfr_st (by simp) zfr_refl)
/-- the kept entries are put in -/
theorem z_back {N w : Nat} (hN : 100 < N) (hw : w ≠ 6) (hw7 : w ≠ 7) (hw12 : w ≠ 12) (hw8 : w ≠ 8) {i M : Nat} (hM : M ≤ 6) : ∀ (rest : List Nat) (k n n' : Nat) (T S : zx_S) (t : ZT) (m : Nat), 8 < n + k → 8 < n' + k → k + rest.length = M → (∀ j, j < rest.length → T 6 (k + j) = nI (rest.getD j 0) ∧ S 8 (k + j) = nI (rest.getD j 0) ∧ zil t (rest.getD j 0) = k + j) → (∀ j, M ≤ j → j < 6 → S 8 j = zM1) → zPI w T S t (rest ++ [i]) 99 m →
    ∃ T' S' t' m', f_X1_takeOut_l108 N n (nI M) (nI k) T = some T' ∧ f_X3_takeOut_l181 N w n' (nI k) S = some S' ∧ zPI w T' S' t' [i] 99 m' ∧ zpr t' = zpr t ∧ zrc t' = zrc t ∧ zfr [0, 1, 2, 3, 4, 5, 7, 10] T T' ∧ zfr [w, 6, 7, 12] S S' ∧ zf12 S S'
  | [], k, n, n', T, S, t, m, hn, hn', hk, _, hE, hP => by
    simp only [List.length_nil] at hk
    have hkM : k = M := by omega
    subst hkM
    -- the reference runs through the empty levels
    have run : ∀ (d k n' : Nat), d < n' → k + d = 6 → (∀ j, k ≤ j → j < 6 → S 8 j = zM1) → f_X3_takeOut_l181 N w n' (nI k) S = some S := by
      intro d
      induction d with
      | zero =>
        intro k n' hn' hk _
        obtain ⟨q, rfl⟩ : ∃ q, n' = q + 1 := ⟨n' - 1, by omega⟩
        rw [f_X3_takeOut_l181]
        simp (disch := omega) only [↓zlm1, ↓zlm2, zi_e1, zi_e2, zi_1e, zi_12, zi_21, zi_1n, zi_n1, if_true, if_false, eq_self, not_false_eq_true, not_true_eq_false, nI_add, zi_4m, zi_5m, zi_8m, zi_mul4, zi_mul5, zi_sub, nI_leI, nI_ltI, nI_eq, zl0, zl1, zl2, zl3, zl4, zl5, zl6, zl8, zl9, zl24, zl32, zl48, zl49, zl99, zl100, zl120, zl376, zl377, zl378, zl379, zl380, ↓zi_192, zi_dec, Nat.add_zero, Nat.zero_add, m_n, m_b1, m_b2, m_rd, m_wr, m_get, m_put, nI_clamp, st_at, st_ne, up_at, up_ne, if_pos, if_neg]
      | succ d ih =>
        intro k n' hn' hk hE
        obtain ⟨q, rfl⟩ : ∃ q, n' = q + 1 := ⟨n' - 1, by omega⟩
        rw [f_X3_takeOut_l181]
        unfold f_X3_takeOut_j213
        simp (disch := omega) only [↓zlm1, ↓zlm2, zi_e1, zi_e2, zi_1e, zi_12, zi_21, zi_1n, zi_n1, if_true, if_false, eq_self, not_false_eq_true, not_true_eq_false, nI_add, zi_4m, zi_5m, zi_8m, zi_mul4, zi_mul5, zi_sub, nI_leI, nI_ltI, nI_eq, zl0, zl1, zl2, zl3, zl4, zl5, zl6, zl8, zl9, zl24, zl32, zl48, zl49, zl99, zl100, zl120, zl376, zl377, zl378, zl379, zl380, ↓zi_192, zi_dec, Nat.add_zero, Nat.zero_add, m_n, m_b1, m_b2, m_rd, m_wr, m_get, m_put, nI_clamp, st_at, st_ne, up_at, up_ne, if_pos, if_neg, hE k (Nat.le_refl k) (by omega)]
        exact ih (k + 1) q (by omega) (by omega) (fun j h1 h2 => hE j (by omega) h2)
    refine ⟨T, S, t, m, ?_, run (6 - k) k n' (by omega) (by omega) hE, hP, rfl, rfl, zfr_refl, zfr_refl, zf12_refl⟩
    obtain ⟨q, rfl⟩ : ∃ q, n = q + 1 := ⟨n - 1, by omega⟩
    rw [f_X1_takeOut_l108]
    simp (disch := omega) only [↓zlm1, ↓zlm2, zi_e1, zi_e2, zi_1e, zi_12, zi_21, zi_1n, zi_n1, if_true, if_false, eq_self, not_false_eq_true, not_true_eq_false, nI_add, zi_4m, zi_5m, zi_8m, zi_mul4, zi_mul5, zi_sub, nI_leI, nI_ltI, nI_eq, zl0, zl1, zl2, zl3, zl4, zl5, zl6, zl8, zl9, zl24, zl32, zl48, zl49, zl99, zl100, zl120, zl376, zl377, zl378, zl379, zl380, ↓zi_192, zi_dec, Nat.add_zero, Nat.zero_add, m_n, m_b1, m_b2, m_rd, m_wr, m_get, m_put, nI_clamp, st_at, st_ne, up_at, up_ne, if_pos, if_neg]
  | x :: rest, k, n, n', T, S, t, m, hn, hn', hk, hks, hE, hP => by
    simp only [List.length_cons] at hk
    obtain ⟨g1, g2, g3⟩ := hks 0 (by simp)
    simp only [List.getD_cons_zero, Nat.add_zero] at g1 g2 g3
    obtain ⟨q, rfl⟩ : ∃ q, n = q + 1 := ⟨n - 1, by omega⟩
    obtain ⟨q', rfl⟩ : ∃ q', n' = q' + 1 := ⟨n' - 1, by omega⟩
    obtain ⟨hT, hr, hwf, hbx, hfl, hcnt⟩ := id hP
    have hx48 : x < 48 := by
      rcases (hwf.2.2.1 x).mp (Or.inl (by simp)) with z | z <;> omega
    obtain ⟨S1, eS1⟩ : ∃ S1, S1 = zx_st (zx_st S 12 (upd (S 12) 4 (nI x))) 12 (upd (upd (S 12) 4 (nI x)) 5 (nI k)) := ⟨_, rfl⟩
    have hS1w : S1 w = S w := by rw [eS1, st_ne hw12, st_ne hw12]
    have hS112 : S1 12 = upd (upd (S 12) 4 (nI x)) 5 (nI k) := by rw [eS1, st_at]
    have hPI : zPI w T S1 t (x :: (rest ++ [i])) 99 m := ⟨hT, by rw [hS1w]; exact hr, hwf, hbx, ⟨hfl.1, by rw [hS112, up_ne (by decide), up_ne (by decide)]; exact hfl.2.1, hfl.2.2⟩, by rw [hS1w]; exact hcnt⟩
    obtain ⟨T2, S2, t2, m2, e1, e2, hP2, hkp, f1, f2, f3⟩ := z_putIn (N := N) (w := w) hN hw hw7 hw12 6 N N 0 T S1 t (rest ++ [i]) x m (by omega) (by omega) (zun_6 m hfl.1) (by omega) hPI (by rw [hS112, up_ne (by decide), up_at]) (by rw [hS112, up_at, g3])
    have hw2 := hP2.2.2.1
    have hlv : ∀ y, y ∈ rest → zil t2 y = zil t y := fun y hy => by
      unfold zil
      by_cases h24 : y < 24
      · rw [if_pos h24, if_pos h24]
      · rw [if_neg h24, if_neg h24]
        refine hkp.2.2 _ ?_
        rcases (hwf.2.2.1 y).mp (Or.inl (by simp [hy])) with z | z
        · omega
        · exact z.2.2.1
    obtain ⟨T', S', t', m', r1, r2, r3, r4, r5, r6, r7, r8⟩ := z_back hN hw hw7 hw12 hw8 hM rest (k + 1) q q' T2 S2 t2 m2 (by omega) (by omega) (by omega) (fun j hj => by
      obtain ⟨b1, b2, b3⟩ := hks (j + 1) (by simp; omega)
      rw [List.getD_cons_succ] at b1 b2 b3
      rw [f1 6 (by decide), f2 8 (by simp; exact Ne.symm hw8), show k + 1 + j = k + (j + 1) by omega, hlv _ (zgetD_mem hj)]
      refine ⟨b1, ?_, b3⟩
      rw [eS1, st_ne (by decide), st_ne (by decide)]
      exact b2) (fun j h1 h2 => by
      rw [f2 8 (by simp; exact Ne.symm hw8), eS1, st_ne (by decide), st_ne (by decide)]
      exact hE j h1 h2) hP2
    refine ⟨T', S', t', m', ?_, ?_, r3, r4.trans hkp.1, r5.trans hkp.2.1, zfr_trans f1 r6, zfr_trans (T1 := S1) (by rw [eS1]; exact zfr_st (by simp) (zfr_st (by simp) zfr_refl)) (zfr_trans f2 r7), zf12_trans (zf12_trans (S1 := S1) ⟨fun j hj => by rw [hS112, up_ne (by omega), up_ne (by omega)], fun j hj => by rw [hS112, up_ne (by omega), up_ne (by omega)]⟩ f3) r8⟩
    · rw [← r1, f_X1_takeOut_l108]
      unfold f_X1_putIn
      simp (disch := omega) only [↓zlm1, ↓zlm2, zi_e1, zi_e2, zi_1e, zi_12, zi_21, zi_1n, zi_n1, if_true, if_false, eq_self, not_false_eq_true, not_true_eq_false, nI_add, zi_4m, zi_5m, zi_8m, zi_mul4, zi_mul5, zi_sub, nI_leI, nI_ltI, nI_eq, zl0, zl1, zl2, zl3, zl4, zl5, zl6, zl8, zl9, zl24, zl32, zl48, zl49, zl99, zl100, zl120, zl376, zl377, zl378, zl379, zl380, ↓zi_192, zi_dec, Nat.add_zero, Nat.zero_add, m_n, m_b1, m_b2, m_rd, m_wr, m_get, m_put, nI_clamp, st_at, st_ne, up_at, up_ne, if_pos, if_neg, g1, e1]
    · rw [← r2, f_X3_takeOut_l181]
      unfold f_X3_takeOut_j213 f_X3_putIn
      simp (disch := omega) only [↓zlm1, ↓zlm2, zi_e1, zi_e2, zi_1e, zi_12, zi_21, zi_1n, zi_n1, if_true, if_false, eq_self, not_false_eq_true, not_true_eq_false, nI_add, zi_4m, zi_5m, zi_8m, zi_mul4, zi_mul5, zi_sub, nI_leI, nI_ltI, nI_eq, zl0, zl1, zl2, zl3, zl4, zl5, zl6, zl8, zl9, zl24, zl32, zl48, zl49, zl99, zl100, zl120, zl376, zl377, zl378, zl379, zl380, ↓zi_192, zi_dec, Nat.add_zero, Nat.zero_add, m_n, m_b1, m_b2, m_rd, m_wr, m_get, m_put, nI_clamp, st_at, st_ne, up_at, up_ne, if_pos, if_neg, g2]
      rw [← eS1, e2]
      simp (disch := omega) only [↓zlm1, ↓zlm2, zi_e1, zi_e2, zi_1e, zi_12, zi_21, zi_1n, zi_n1, if_true, if_false, eq_self, not_false_eq_true, not_true_eq_false, nI_add, zi_4m, zi_5m, zi_8m, zi_mul4, zi_mul5, zi_sub, nI_leI, nI_ltI, nI_eq, zl0, zl1, zl2, zl3, zl4, zl5, zl6, zl8, zl9, zl24, zl32, zl48, zl49, zl99, zl100, zl120, zl376, zl377, zl378, zl379, zl380, ↓zi_192, zi_dec, Nat.add_zero, Nat.zero_add, m_n, m_b1, m_b2, m_rd, m_wr, m_get, m_put, nI_clamp, st_at, st_ne, up_at, up_ne, if_pos, if_neg]
theorem d_tko {N w : Nat} (hw8 : w ≠ 8) {v2 : Int32} : ∀ (d n k : Nat) (S : zx_S), d < n → k + d = 6 →
    ∃ S', f_X3_takeOut_l2 N w n v2 (nI k) S = f_X3_takeOut_l2 N w 1 v2 (nI 6) S' ∧ zfr [8] S S' ∧ (∀ j, k ≤ j → j < 6 → S' 8 j = zM1) ∧ (∀ j, j < k → S' 8 j = S 8 j)
  | 0, n + 1, k, S, _, hk => by
    have : k = 6 := by omega
    subst this
    refine ⟨S, ?_, zfr_refl, fun j h1 h2 => by omega, fun j _ => rfl⟩
    rw [f_X3_takeOut_l2, f_X3_takeOut_l2]
    simp (disch := omega) only [↓zlm1, ↓zlm2, zi_e1, zi_e2, zi_1e, zi_12, zi_21, zi_1n, zi_n1, if_true, if_false, eq_self, not_false_eq_true, not_true_eq_false, nI_add, zi_4m, zi_5m, zi_8m, zi_mul4, zi_mul5, zi_sub, nI_leI, nI_ltI, nI_eq, zl0, zl1, zl2, zl3, zl4, zl5, zl6, zl8, zl9, zl24, zl32, zl48, zl49, zl99, zl100, zl120, zl376, zl377, zl378, zl379, zl380, ↓zi_192, zi_dec, Nat.add_zero, Nat.zero_add, m_n, m_b1, m_b2, m_rd, m_wr, m_get, m_put, nI_clamp, st_at, st_ne, up_at, up_ne, if_pos, if_neg]
  | d + 1, n + 1, k, S, hn, hk => by
    obtain ⟨S', e, f, g, o⟩ := d_tko (N := N) hw8 (v2 := v2) d n (k + 1) (zx_st S 8 (upd (S 8) k zM1)) (by omega) (by omega)
    refine ⟨S', ?_, zfr_trans (zfr_st (by simp) zfr_refl) f, fun j h1 h2 => ?_, fun j h1 => ?_⟩
    · rw [f_X3_takeOut_l2]
      simp (disch := omega) only [↓zlm1, ↓zlm2, zi_e1, zi_e2, zi_1e, zi_12, zi_21, zi_1n, zi_n1, if_true, if_false, eq_self, not_false_eq_true, not_true_eq_false, nI_add, zi_4m, zi_5m, zi_8m, zi_mul4, zi_mul5, zi_sub, nI_leI, nI_ltI, nI_eq, zl0, zl1, zl2, zl3, zl4, zl5, zl6, zl8, zl9, zl24, zl32, zl48, zl49, zl99, zl100, zl120, zl376, zl377, zl378, zl379, zl380, ↓zi_192, zi_dec, Nat.add_zero, Nat.zero_add, m_n, m_b1, m_b2, m_rd, m_wr, m_get, m_put, nI_clamp, st_at, st_ne, up_at, up_ne, if_pos, if_neg]
      exact e
    · by_cases hj : j = k
      · rw [o j (by omega), st_at, hj, up_at]
      · exact g j (by omega) h2
    · rw [o j (by omega), st_at, up_ne (by omega)]
theorem z_takeOut {N w : Nat} (hN : 100 < N) (hw : w ≠ 6) (hw7 : w ≠ 7) (hw8 : w ≠ 8) (hw12 : w ≠ 12) {T S : zx_S} {t : ZT} {i m : Nat} (hi : i < 24) (hp : zpr t i = true) (hP : zPI w T S t [] 99 m) :
    ∃ T' S' t' m', f_X1_takeOut N (nI i) T = some T' ∧ f_X3_takeOut N w (nI i) S = some S' ∧ zPI w T' S' t' [i] 99 m' ∧ zpr t' = zpr t ∧ zrc t' = zrc t ∧ zfr [0, 1, 2, 3, 4, 5, 6, 7, 10] T T' ∧ zfr [w, 6, 7, 8, 12] S S' ∧ zf12 S S' := by
  obtain ⟨hT, hr, hwf, hbx, hfl, hcnt⟩ := id hP
  have hR := zwf_lv hwf (by decide)
  have ht := zwf_zb hwf (by omega)
  have hu := hwf.1
  obtain ⟨s, hs⟩ : ∃ s, i ∈ zes t s := by
    rcases (hwf.2.2.1 i).mpr (Or.inl ⟨hi, hp⟩) with z | z
    · cases z
    · exact z
  have hsl := (ht.1 s i hs).2.1
  unfold zil at hsl
  rw [if_pos hi] at hsl
  have hs0 : zlv t s ≠ 0 := by omega
  have hs24 := zb_lt ht hs0
  have h48 := fun j x (hx : x ∈ zes t j) => (ht.1 j x hx).1
  obtain ⟨l, r, hlr⟩ := List.append_of_mem hs
  have h2 := hT.2.2.2.2.1 s i hs24 hs
  obtain ⟨T1, d1, hT1, f1⟩ := c_detach (N := N) hN hT hu ht.2.2.2.1 h48 hs24 hs0 hlr
  have hw1 : zwf (zE t s (l ++ r)) [i] 99 s := zwf_take hwf hlr (Or.inl rfl)
  have hT10 : T1 0 = T 0 := f1 0 (by decide)
  obtain ⟨S1, e1, g1, k1, _⟩ := d_tko (N := N) (w := w) hw8 (v2 := nI i) 6 N 0 S (by omega) (by omega)
  have hS1w : S1 w = S w := g1 w (by simp; exact hw8)
  have hnw := d_nodeWith1 (N := N) hN ht hu hr hs
  obtain ⟨r1, q1, hr1, p1⟩ := d_cutOut (N := N) hN hr hu ht.2.2.2.1 h48 (by omega) hlr
  obtain ⟨S2, eS2⟩ : ∃ S2, S2 = zx_st S1 w r1 := ⟨_, rfl⟩
  have hS2w : S2 w = r1 := by rw [eS2, st_at]
  have hS28 : S2 8 = S1 8 := by rw [eS2, st_ne (Ne.symm hw8)]
  obtain ⟨T2, S3, t2, ks, a1, a2, a3, a4, a5, a6, a7, a8, a9, a10, a11, a12, a13, a14, a15, a16⟩ := z_dis (N := N) (w := w) hN hw8 hi (7 - zlv t s) N N s 0 T1 S2 (zE t s (l ++ r)) [] (by omega) (by omega) (by rw [zE_lv]; omega) (by omega) (by rw [zE_lv, ← hsl]; rfl) hT1 (by rw [hS2w]; exact hr1) hw1 hR (by
    by_cases hsr : s = zrt t
    · exact Or.inr ⟨hsr, by rw [zE_lv]; omega⟩
    · refine Or.inl ?_
      have h3 := hwf.2.2.2.2.2.2.2.2.1 s hs0 hsr (by omega)
      rw [zE_at]
      intro z
      rw [hlr] at h3
      have h0 : (l ++ r).length = 0 := by rw [z]; rfl
      simp at h3 h0
      rw [h0.1, h0.2] at h3
      simp at h3) ⟨by simp, fun k hk => absurd hk (Nat.not_lt_zero k), fun k _ hk => by rw [hS28]; exact k1 k (Nat.zero_le k) hk⟩ (by rw [hT10]; exact hbx.1) (fun j z1 z2 => by
    rw [hT10]
    exact zLC_ext (hbx.2 j z1) (zE_ne z2) (fun k hk => rfl) (fun x hx k hk => rfl)) (by
    unfold zcnt
    rw [f1 10 (by decide), hS2w, p1 377 (by omega), p1 378 (by omega), p1 379 (by omega)]
    exact hcnt)
  obtain ⟨T3, S4, t3, b1, b2, b3, b4, b5, b6, b7, b8, b9, b10, b11, b12⟩ := z_down (N := N) (w := w) hN hw8 hi a3 a4 a5 (by rw [a7]; exact hR) a8 a9 a10 a11 a12
  have fT : zfr [0, 1, 2, 3, 4, 6, 10] T T3 := zfr_trans (zfr_sub f1 (by decide)) (zfr_trans a15 (zfr_sub b11 (by decide)))
  have fS : zfr [w, 8] S S4 := by
    refine zfr_trans (zfr_sub g1 (by simp)) (zfr_trans (T1 := S2) (by rw [eS2]; exact zfr_st (by simp) zfr_refl) (zfr_trans a16 (zfr_sub b12 (by simp))))
  have hS412 : S4 12 = S 12 := fS 12 (by simp; exact Ne.symm hw12)
  have hfl3 : zfl T3 S4 m := ⟨hfl.1, by rw [hS412]; exact hfl.2.1, fun j hj => by rw [fT 5 (by decide)]; exact hfl.2.2 j hj⟩
  obtain ⟨T', S', t', m', c1, c2, c3, c4, c5, c6, c7, c8⟩ := z_back (N := N) (w := w) hN hw hw7 hw12 hw8 (i := i) b6.1 ks 0 N N T3 S4 t3 m (by omega) (by omega) (by omega) (fun j hj => by
    rw [Nat.zero_add]
    exact b6.2.1 j hj) b6.2.2 ⟨b3, b4, zwf_perm b5 ((List.reverse_perm ks).append_right [i]), b7, hfl3, b8⟩
  refine ⟨T', S', t', m', ?_, ?_, c3, ?_, ?_, zfr_trans (zfr_sub fT (by decide)) (zfr_sub c6 (by decide)), zfr_trans (zfr_sub fS (by simp)) (zfr_sub c7 (by simp)), zf12_trans (zf12_eq hS412) c8⟩
  · unfold f_X1_takeOut f_X1_dissolveUpward
    simp (disch := omega) only [↓zlm1, ↓zlm2, zi_e1, zi_e2, zi_1e, zi_12, zi_21, zi_1n, zi_n1, if_true, if_false, eq_self, not_false_eq_true, not_true_eq_false, nI_add, zi_4m, zi_5m, zi_8m, zi_mul4, zi_mul5, zi_sub, nI_leI, nI_ltI, nI_eq, zl0, zl1, zl2, zl3, zl4, zl5, zl6, zl8, zl9, zl24, zl32, zl48, zl49, zl99, zl100, zl120, zl376, zl377, zl378, zl379, zl380, ↓zi_192, zi_dec, Nat.add_zero, Nat.zero_add, m_n, m_b1, m_b2, m_rd, m_wr, m_get, m_put, nI_clamp, st_at, st_ne, up_at, up_ne, if_pos, if_neg, h2, d1]
    simp only [List.length_nil] at a1
    rw [a1]
    simp (disch := omega) only [↓zlm1, ↓zlm2, zi_e1, zi_e2, zi_1e, zi_12, zi_21, zi_1n, zi_n1, if_true, if_false, eq_self, not_false_eq_true, not_true_eq_false, nI_add, zi_4m, zi_5m, zi_8m, zi_mul4, zi_mul5, zi_sub, nI_leI, nI_ltI, nI_eq, zl0, zl1, zl2, zl3, zl4, zl5, zl6, zl8, zl9, zl24, zl32, zl48, zl49, zl99, zl100, zl120, zl376, zl377, zl378, zl379, zl380, ↓zi_192, zi_dec, Nat.add_zero, Nat.zero_add, m_n, m_b1, m_b2, m_rd, m_wr, m_get, m_put, nI_clamp, st_at, st_ne, up_at, up_ne, if_pos, if_neg]
    rw [b1, c1]
  · unfold f_X3_takeOut
    rw [zl0, e1, f_X3_takeOut_l2]
    simp (disch := omega) only [↓zlm1, ↓zlm2, zi_e1, zi_e2, zi_1e, zi_12, zi_21, zi_1n, zi_n1, if_true, if_false, eq_self, not_false_eq_true, not_true_eq_false, nI_add, zi_4m, zi_5m, zi_8m, zi_mul4, zi_mul5, zi_sub, nI_leI, nI_ltI, nI_eq, zl0, zl1, zl2, zl3, zl4, zl5, zl6, zl8, zl9, zl24, zl32, zl48, zl49, zl99, zl100, zl120, zl376, zl377, zl378, zl379, zl380, ↓zi_192, zi_dec, Nat.add_zero, Nat.zero_add, m_n, m_b1, m_b2, m_rd, m_wr, m_get, m_put, nI_clamp, st_at, st_ne, up_at, up_ne, if_pos, if_neg, hS1w, hnw, q1]
    rw [← eS2, a2, b2, c2]
  · rw [c4, b9, a13, zE_pr]
  · rw [c5, b10, a14, zE_rc]
