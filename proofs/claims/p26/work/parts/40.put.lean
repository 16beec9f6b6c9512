/-! an item is put in -/
theorem zwf_cr {t : ZT} {lo : List Nat} {ov un : Nat} (h : zwf t lo ov un) : zcr t := h.2.2.2.2.2.2.2.2.2.2.2
def zf12 (S S' : zx_S) : Prop := (∀ j, j < 3 → S' 12 j = S 12 j) ∧ (∀ j, 5 < j → S' 12 j = S 12 j)
theorem zf12_refl {S : zx_S} : zf12 S S := ⟨fun _ _ => rfl, fun _ _ => rfl⟩
theorem zf12_trans {S S1 S2 : zx_S} (h : zf12 S S1) (h2 : zf12 S1 S2) : zf12 S S2 := ⟨fun j hj => (h2.1 j hj).trans (h.1 j hj), fun j hj => (h2.2 j hj).trans (h.2 j hj)⟩
theorem zf12_eq {S S1 : zx_S} (h : S1 12 = S 12) : zf12 S S1 := ⟨fun j _ => by rw [h], fun j _ => by rw [h]⟩
/-- both, between two steps -/
def zPI (w : Nat) (T S : zx_S) (t : ZT) (lo : List Nat) (ov m : Nat) : Prop := zcx T t [] ∧ zref (S w) t ∧ zwf t lo ov 99 ∧ zcbx T t ∧ zfl T S m ∧ zcnt T (S w)
/-- boxes of a whole tree agree, and lie in the field -/
theorem zA_all {f g : Nat → Int32} {t : ZT} {lo : List Nat} {ov : Nat} (hw : zwf t lo ov 99) (hf : zrb f t) (hf2 : ∀ j, zlv t j ≠ 0 → zLC f t j) (hg : zrb g t) (hg2 : ∀ j, zlv t j ≠ 0 → zLC g t j) {c : Nat} (hc : zgd t c) : zbd f c ∧ ∀ k, k < 4 → f (4 * c + k) = g (4 * c + k) := by
  have hR := zwf_lv hw (by decide)
  have ht := zwf_zb hw (by omega)
  have hgg := zwf_zg hw (zwf_un24 hw)
  refine ⟨zbounds ht hgg hf (zwf_cr hw) (zil t c) (fun s h1 _ => hf2 s h1) c (Nat.le_refl _) hc, fun k hk => ?_⟩
  exact zagree ht hgg hf hg (zil t c) (fun s h1 _ => ⟨hf2 s h1, hg2 s h1⟩) c (Nat.le_refl _) hc k hk
theorem zgd_node {t : ZT} {s : Nat} (hs : s < 24) (h0 : zlv t s ≠ 0) (hne : zes t s ≠ []) : zgd t (24 + s) := Or.inr ⟨by omega, by omega, by rw [Nat.add_sub_cancel_left]; exact h0, by rw [Nat.add_sub_cancel_left]; exact hne⟩
theorem z_treat {N w : Nat} (hN : 100 < N) (hw : w ≠ 6) (hw7 : w ≠ 7) (hw12 : w ≠ 12) {K : Int32 → Int32 → zx_S → Option zx_S} {v3 : Int32} : ∀ (d n n' s step : Nat) (T S : zx_S) (t : ZT) (lo : List Nat) (m : Nat), d < n → d < n' → 7 ≤ zlv t s + d → step + d ≤ 8 → zPI w T S t lo s m → zlv t s ≠ 0 → (∃ k, zhn t k s) → S 12 4 = zM1 →
    ∃ T' S' t' lo' m' nx, f_X1_putIn_l59 N K n zM1 v3 (nI (24 + s)) (nI step) T = f_X1_putIn_j137 N K nx v3 T' ∧ f_X3_treat_l2 N w n' (nI s) S = some S' ∧ zPI w T' S' t' lo' 99 m' ∧ zkp t t' ∧
      ((nx = zM1 ∧ S' 12 4 = zM1 ∧ lo' = lo ∧ m' = m) ∨ (∃ c, nx = nI c ∧ S' 12 4 = nI c ∧ S' 12 5 = nI (zil t' c) ∧ lo' = c :: lo ∧ zun m' + 1 = zun m)) ∧ zfr [0, 1, 2, 3, 4, 5, 7, 10] T T' ∧ zfr [w, 6, 7, 12] S S' ∧ zf12 S S'
  | d, n + 1, n' + 1, s, step, T, S, t, lo, m, hn, hn', hl, hst, hP, hs0, hch, h124 => by
    obtain ⟨hT, hr, hwf, ⟨hrb, hLC⟩, hfl, hcnt⟩ := id hP
    have hR := zwf_lv hwf (by decide)
    have ht := zwf_zb hwf (by omega)
    have hu := hwf.1
    have hg := zwf_zg hwf (zwf_un24 hwf)
    have hs := zb_lt ht hs0
    have hl3 := hT.2.2.1 s hs hs0
    have hm1 := hr.2.2.2.1 s (by omega)
    have hl5 := ht.2.2.2.1 s
    by_cases h4 : (zes t s).length ≤ 4
    · refine ⟨T, S, t, lo, m, zM1, ?_, ?_, ⟨hT, hr, zwf_le4 hwf h4, ⟨hrb, hLC⟩, hfl, hcnt⟩, zkp_refl, Or.inl ⟨rfl, h124, rfl, rfl⟩, zfr_refl, zfr_refl, zf12_refl⟩
      · rw [f_X1_putIn_l59]
        by_cases h8 : 8 ≤ step
        · simp (disch := omega) only [↓zlm1, ↓zlm2, zi_e1, zi_e2, zi_1e, zi_12, zi_21, zi_1n, zi_n1, if_true, if_false, eq_self, not_false_eq_true, not_true_eq_false, nI_add, zi_4m, zi_5m, zi_8m, zi_mul4, zi_mul5, zi_sub, nI_leI, nI_ltI, nI_eq, zl0, zl1, zl2, zl3, zl4, zl5, zl6, zl8, zl9, zl24, zl32, zl48, zl49, zl99, zl100, zl120, zl376, zl377, zl378, zl379, zl380, ↓zi_192, zi_dec, Nat.add_zero, Nat.zero_add, m_n, m_b1, m_b2, m_rd, m_wr, m_get, m_put, nI_clamp, st_at, st_ne, up_at, up_ne, if_pos, if_neg]
        · simp (disch := omega) only [↓zlm1, ↓zlm2, zi_e1, zi_e2, zi_1e, zi_12, zi_21, zi_1n, zi_n1, if_true, if_false, eq_self, not_false_eq_true, not_true_eq_false, nI_add, zi_4m, zi_5m, zi_8m, zi_mul4, zi_mul5, zi_sub, nI_leI, nI_ltI, nI_eq, zl0, zl1, zl2, zl3, zl4, zl5, zl6, zl8, zl9, zl24, zl32, zl48, zl49, zl99, zl100, zl120, zl376, zl377, zl378, zl379, zl380, ↓zi_192, zi_dec, Nat.add_zero, Nat.zero_add, m_n, m_b1, m_b2, m_rd, m_wr, m_get, m_put, nI_clamp, st_at, st_ne, up_at, up_ne, if_pos, if_neg, hl3]
      · rw [f_X3_treat_l2]
        simp (disch := omega) only [↓zlm1, ↓zlm2, zi_e1, zi_e2, zi_1e, zi_12, zi_21, zi_1n, zi_n1, if_true, if_false, eq_self, not_false_eq_true, not_true_eq_false, nI_add, zi_4m, zi_5m, zi_8m, zi_mul4, zi_mul5, zi_sub, nI_leI, nI_ltI, nI_eq, zl0, zl1, zl2, zl3, zl4, zl5, zl6, zl8, zl9, zl24, zl32, zl48, zl49, zl99, zl100, zl120, zl376, zl377, zl378, zl379, zl380, ↓zi_192, zi_dec, Nat.add_zero, Nat.zero_add, m_n, m_b1, m_b2, m_rd, m_wr, m_get, m_put, nI_clamp, st_at, st_ne, up_at, up_ne, if_pos, if_neg, r_many, hm1]
    · have hs5 : (zes t s).length = 5 := by omega
      have hne : zes t s ≠ [] := fun z => by rw [z] at hs5; cases hs5
      have hle : zlv t s ≤ zlv t (zrt t) := by
        by_cases hsr : s = zrt t
        · rw [hsr]; exact Nat.le_refl _
        · have := hwf.2.2.2.2.2.2.2.1 s hs0 hsr; omega
      obtain ⟨S1, e1, f1, hrb1, hLC1, _⟩ := r_lay (N := N) (w := w) hN hw ht hr
      have hS1w : S1 w = S w := f1 w (by simp; exact hw)
      have hS112 : S1 12 = S 12 := f1 12 (by simp)
      have hr1 : zref (S1 w) t := by rw [hS1w]; exact hr
      have hA : ∀ x, x ∈ zes t s → zbd (T 0) x ∧ ∀ k, k < 4 → T 0 (4 * x + k) = S1 6 (4 * x + k) := fun x hx => zA_all hwf hrb hLC hrb1 hLC1 (hg s x hx)
      have hAs := zA_all hwf hrb hLC hrb1 hLC1 (zgd_node hs hs0 hne)
      have hroot : T 10 0 = nI (24 + zrt t) := hT.2.2.2.2.2.2
      have hrt := hwf.2.2.2.2.2.2.1
      have hroot2 : S1 w 376 = nI (zrt t) := hr1.2.2.2.2.2
      have hlo := r_levelOf (N := N) (r := S1 w) (s := s) (v := zlv t s) (by omega) (hr1.2.2.1 s (by omega)) (by omega)
      have h1 := hT.2.1 s hs
      rw [if_neg hs0] at h1
      obtain ⟨f1a, f1b, f1c⟩ := hfl
      have hT5 := f1c (zlv t s - 1) (by omega)
      have hbit := zfl_get m f1a (zlv t s - 1) (by omega)
      by_cases hthrow : s ≠ zrt t ∧ m.testBit (zlv t s - 1) = false
      · -- an entry is thrown out
        obtain ⟨hsr, hb⟩ := hthrow
        obtain ⟨c, l, r, T1, S2, hes, e2, e3, hT1, hr2, hfl1, g1, g2, g3, ⟨g4, g5, g6, g7⟩, ⟨g8, g9, g10, g11⟩⟩ := z_throw (N := N) hN hw hw12 (m := m) hT hr1 ht hu hs hs0 hne (fun x hx k hk => by
          rcases hx with z | z
          · exact (hA x z).2 k hk
          · rw [z]; exact hAs.2 k hk) ⟨f1a, by rw [hS112]; exact f1b, f1c⟩
        have hlr : (l ++ r).length = 4 := by rw [hes] at hs5; simp at hs5 ⊢; omega
        have hw1 : zwf (zE t s (l ++ r)) (c :: lo) 99 99 := zwf_le4 (zwf_un (zwf_take hwf hes (Or.inl rfl)) (by rw [zE_at]; omega)) (by rw [zE_at]; omega)
        have hR1 := zwf_lv hw1 (by decide)
        have ht1 := zwf_zb hw1 (by omega)
        have hg1 := zwf_zg hw1 (zwf_un24 hw1)
        obtain ⟨T2, e4, k1, k2, k3⟩ := z_fitUpward (N := N) hN (T := T1) (s := s) ht1 hw1.1 hg1 (zwf_cr hw1) hs0 hT1 (by rw [g3]; exact hrb) (fun j z1 z2 => by
          rw [g3]
          exact zLC_ext (hLC j z1) (zE_ne z2) (fun k hk => rfl) (fun x hx k hk => rfl))
        have hT2 : zcx T2 (zE t s (l ++ r)) [] := zcx_keep hT1 (k1 1 (by decide)) (k1 2 (by decide)) (k1 3 (by decide)) (k1 4 (by decide)) (by rw [k1 10 (by decide)])
        have hl3' := hT2.2.2.1 s hs hs0
        rw [zE_at, hlr] at hl3'
        obtain ⟨n2, rfl⟩ : ∃ n2, n = n2 + 1 := ⟨n - 1, by omega⟩
        obtain ⟨n3, rfl⟩ : ∃ n3, n' = n3 + 1 := ⟨n' - 1, by omega⟩
        refine ⟨T2, S2, _, c :: lo, m ||| 2 ^ (zlv t s - 1), nI c, ?_, ?_, ⟨hT2, hr2, hw1, ⟨k2, k3⟩, ⟨hfl1.1, hfl1.2.1, fun j hj => by rw [k1 5 (by decide)]; exact hfl1.2.2 j hj⟩, ?_⟩, ⟨rfl, rfl, fun _ _ => rfl⟩, Or.inr ⟨c, rfl, g1, ?_, rfl, ?_⟩, zfr_trans (zfr_sub g4 (by decide)) (zfr_sub k1 (by decide)), zfr_trans (zfr_sub f1 (by simp)) (zfr_sub g8 (by simp)), zf12_trans (zf12_eq hS112) ⟨g9, g10⟩⟩
        · rw [f_X1_putIn_l59]
          unfold f_X1_putIn_j125
          have hne2 : ¬ s = zrt t := hsr
          simp (disch := omega) only [↓zlm1, ↓zlm2, zi_e1, zi_e2, zi_1e, zi_12, zi_21, zi_1n, zi_n1, if_true, if_false, eq_self, not_false_eq_true, not_true_eq_false, nI_add, zi_4m, zi_5m, zi_8m, zi_mul4, zi_mul5, zi_sub, nI_leI, nI_ltI, nI_eq, zl0, zl1, zl2, zl3, zl4, zl5, zl6, zl8, zl9, zl24, zl32, zl48, zl49, zl99, zl100, zl120, zl376, zl377, zl378, zl379, zl380, ↓zi_192, zi_dec, Nat.add_zero, Nat.zero_add, m_n, m_b1, m_b2, m_rd, m_wr, m_get, m_put, nI_clamp, st_at, st_ne, up_at, up_ne, if_pos, if_neg, hl3, hs5, hroot, h1, hT5, hb, e2, e4, Nat.add_left_cancel_iff, Bool.false_eq_true]
          rw [f_X1_putIn_l59]
          simp (disch := omega) only [↓zlm1, ↓zlm2, zi_e1, zi_e2, zi_1e, zi_12, zi_21, zi_1n, zi_n1, if_true, if_false, eq_self, not_false_eq_true, not_true_eq_false, nI_add, zi_4m, zi_5m, zi_8m, zi_mul4, zi_mul5, zi_sub, nI_leI, nI_ltI, nI_eq, zl0, zl1, zl2, zl3, zl4, zl5, zl6, zl8, zl9, zl24, zl32, zl48, zl49, zl99, zl100, zl120, zl376, zl377, zl378, zl379, zl380, ↓zi_192, zi_dec, Nat.add_zero, Nat.zero_add, m_n, m_b1, m_b2, m_rd, m_wr, m_get, m_put, nI_clamp, st_at, st_ne, up_at, up_ne, if_pos, if_neg, hl3']
        · rw [f_X3_treat_l2]
          have hne2 : ¬ s = zrt t := hsr
          have hbt := hbit.mpr hb
          rw [zl1, zl0] at hbt
          simp (disch := omega) only [↓zlm1, ↓zlm2, zi_e1, zi_e2, zi_1e, zi_12, zi_21, zi_1n, zi_n1, if_true, if_false, eq_self, not_false_eq_true, not_true_eq_false, nI_add, zi_4m, zi_5m, zi_8m, zi_mul4, zi_mul5, zi_sub, nI_leI, nI_ltI, nI_eq, zl0, zl1, zl2, zl3, zl4, zl5, zl6, zl8, zl9, zl24, zl32, zl48, zl49, zl99, zl100, zl120, zl376, zl377, zl378, zl379, zl380, ↓zi_192, zi_dec, Nat.add_zero, Nat.zero_add, m_n, m_b1, m_b2, m_rd, m_wr, m_get, m_put, nI_clamp, st_at, st_ne, up_at, up_ne, if_pos, if_neg, r_many, hm1, hs5, e1, hroot2, hlo, hS112, f1b]
          rw [e3, m_b1, f_X3_treat_l2]
          simp (disch := omega) only [↓zlm1, ↓zlm2, zi_e1, zi_e2, zi_1e, zi_12, zi_21, zi_1n, zi_n1, if_true, if_false, eq_self, not_false_eq_true, not_true_eq_false, nI_add, zi_4m, zi_5m, zi_8m, zi_mul4, zi_mul5, zi_sub, nI_leI, nI_ltI, nI_eq, zl0, zl1, zl2, zl3, zl4, zl5, zl6, zl8, zl9, zl24, zl32, zl48, zl49, zl99, zl100, zl120, zl376, zl377, zl378, zl379, zl380, ↓zi_192, zi_dec, Nat.add_zero, Nat.zero_add, m_n, m_b1, m_b2, m_rd, m_wr, m_get, m_put, nI_clamp, st_at, st_ne, up_at, up_ne, if_pos, if_neg]
        · unfold zcnt
          rw [k1 10 (by decide), g5, g6, g7, g11 377 (by omega), g11 378 (by omega), g11 379 (by omega), hS1w]
          exact ⟨by rw [if_pos rfl, hcnt.1], hcnt.2.1, hcnt.2.2⟩
        · rw [g2, zE_il]
          have := hwf.2.2.2.1 s c (by rw [hes]; simp)
          congr 1
          omega
        · exact zun_set m f1a (zlv t s - 1) (by omega) hb
      · -- the node is split
        obtain ⟨d', rfl⟩ : ∃ d', d = d' + 1 := ⟨d - 1, by omega⟩
        obtain ⟨up, T1, S2, t1, hch1, e2, e3, hT1, hr2, hw1, hlu, hp1, hrb2, hLC2, ⟨g4, g5, g6, g7⟩, g8, g11⟩ := z_splitStep (N := N) hN hw hw7 hw12 (K := f_X3_treat_l2 N w n') hT hr1 hwf hs5 hrb hLC (fun x hx => ⟨(hA x hx).1, fun k hk => ((hA x hx).2 k hk).symm⟩) hch
        have hR1 := zwf_lv hw1 (by decide)
        have ht1 := zwf_zb hw1 (by omega)
        have hg1 := zwf_zg hw1 (zwf_un24 hw1)
        have hup0 : zlv t1 up ≠ 0 := by omega
        obtain ⟨T2, e4, k1, k2, k3⟩ := z_fitUpward (N := N) hN (T := T1) (s := up) ht1 hw1.1 hg1 (zwf_cr hw1) hup0 hT1 hrb2 hLC2
        have hT2 : zcx T2 t1 [] := zcx_keep hT1 (k1 1 (by decide)) (k1 2 (by decide)) (k1 3 (by decide)) (k1 4 (by decide)) (by rw [k1 10 (by decide)])
        have hS212 : S2 12 = S1 12 := g8 12 (by simp; exact Ne.symm hw12)
        have hPI : zPI w T2 S2 t1 lo up m := by
          refine ⟨hT2, hr2, hw1, ⟨k2, k3⟩, ⟨f1a, by rw [hS212, hS112]; exact f1b, fun j hj => by rw [k1 5 (by decide), g4 5 (by decide)]; exact f1c j hj⟩, ?_⟩
          unfold zcnt
          rw [k1 10 (by decide), g5, g6, g7, g11 377 (by omega), g11 378 (by omega), g11 379 (by omega), hS1w]
          exact ⟨hcnt.1, by rw [if_pos rfl, hcnt.2.1], hcnt.2.2⟩
        obtain ⟨T', S', t', lo', m', nx, r1, r2, r3, r4, r6, r7, r8, r9⟩ := z_treat hN hw hw7 hw12 (K := K) (v3 := v3) d' n n' up (step + 1) T2 S2 t1 lo m (by omega) (by omega) (by omega) (by omega) hPI hup0 hch1 (by rw [hS212, hS112]; exact h124)
        refine ⟨T', S', t', lo', m', nx, ?_, ?_, r3, zkp_trans hp1 r4, r6, zfr_trans (zfr_sub g4 (by decide)) (zfr_trans (zfr_sub k1 (by decide)) r7), zfr_trans (zfr_sub f1 (by simp)) (zfr_trans (zfr_sub g8 (by simp)) r8), zf12_trans (zf12_eq (hS212.trans hS112)) r9⟩
        · rw [← r1, f_X1_putIn_l59]
          unfold f_X1_putIn_j117 f_X1_putIn_j125
          by_cases hsr : s = zrt t
          · simp (disch := omega) only [↓zlm1, ↓zlm2, zi_e1, zi_e2, zi_1e, zi_12, zi_21, zi_1n, zi_n1, if_true, if_false, eq_self, not_false_eq_true, not_true_eq_false, nI_add, zi_4m, zi_5m, zi_8m, zi_mul4, zi_mul5, zi_sub, nI_leI, nI_ltI, nI_eq, zl0, zl1, zl2, zl3, zl4, zl5, zl6, zl8, zl9, zl24, zl32, zl48, zl49, zl99, zl100, zl120, zl376, zl377, zl378, zl379, zl380, ↓zi_192, zi_dec, Nat.add_zero, Nat.zero_add, m_n, m_b1, m_b2, m_rd, m_wr, m_get, m_put, nI_clamp, st_at, st_ne, up_at, up_ne, if_pos, if_neg, hl3, hs5, hroot]
            rw [e2]
            simp (disch := omega) only [↓zlm1, ↓zlm2, zi_e1, zi_e2, zi_1e, zi_12, zi_21, zi_1n, zi_n1, if_true, if_false, eq_self, not_false_eq_true, not_true_eq_false, nI_add, zi_4m, zi_5m, zi_8m, zi_mul4, zi_mul5, zi_sub, nI_leI, nI_ltI, nI_eq, zl0, zl1, zl2, zl3, zl4, zl5, zl6, zl8, zl9, zl24, zl32, zl48, zl49, zl99, zl100, zl120, zl376, zl377, zl378, zl379, zl380, ↓zi_192, zi_dec, Nat.add_zero, Nat.zero_add, m_n, m_b1, m_b2, m_rd, m_wr, m_get, m_put, nI_clamp, st_at, st_ne, up_at, up_ne, if_pos, if_neg, e4]
          · have hb : m.testBit (zlv t s - 1) = true := by
              cases hq : m.testBit (zlv t s - 1)
              · exact absurd ⟨hsr, hq⟩ hthrow
              · rfl
            simp (disch := omega) only [↓zlm1, ↓zlm2, zi_e1, zi_e2, zi_1e, zi_12, zi_21, zi_1n, zi_n1, if_true, if_false, eq_self, not_false_eq_true, not_true_eq_false, nI_add, zi_4m, zi_5m, zi_8m, zi_mul4, zi_mul5, zi_sub, nI_leI, nI_ltI, nI_eq, zl0, zl1, zl2, zl3, zl4, zl5, zl6, zl8, zl9, zl24, zl32, zl48, zl49, zl99, zl100, zl120, zl376, zl377, zl378, zl379, zl380, ↓zi_192, zi_dec, Nat.add_zero, Nat.zero_add, m_n, m_b1, m_b2, m_rd, m_wr, m_get, m_put, nI_clamp, st_at, st_ne, up_at, up_ne, if_pos, if_neg, hl3, hs5, hroot, h1, hT5, hb, e2, e4]
        · rw [← r2, ← e3, f_X3_treat_l2]
          by_cases hsr : s = zrt t
          · simp (disch := omega) only [↓zlm1, ↓zlm2, zi_e1, zi_e2, zi_1e, zi_12, zi_21, zi_1n, zi_n1, if_true, if_false, eq_self, not_false_eq_true, not_true_eq_false, nI_add, zi_4m, zi_5m, zi_8m, zi_mul4, zi_mul5, zi_sub, nI_leI, nI_ltI, nI_eq, zl0, zl1, zl2, zl3, zl4, zl5, zl6, zl8, zl9, zl24, zl32, zl48, zl49, zl99, zl100, zl120, zl376, zl377, zl378, zl379, zl380, ↓zi_192, zi_dec, Nat.add_zero, Nat.zero_add, m_n, m_b1, m_b2, m_rd, m_wr, m_get, m_put, nI_clamp, st_at, st_ne, up_at, up_ne, if_pos, if_neg, r_many, hm1, hs5, e1, hroot2]
          · have hb : m.testBit (zlv t s - 1) = true := by
              cases hq : m.testBit (zlv t s - 1)
              · exact absurd ⟨hsr, hq⟩ hthrow
              · rfl
            have hbt : ¬ ((nI m >>> (nI (zlv t s - 1) &&& 31)) &&& 1 = 0) := fun z => by
              rw [hbit, hb] at z
              cases z
            rw [zl1, zl0] at hbt
            simp (disch := omega) only [↓zlm1, ↓zlm2, zi_e1, zi_e2, zi_1e, zi_12, zi_21, zi_1n, zi_n1, if_true, if_false, eq_self, not_false_eq_true, not_true_eq_false, nI_add, zi_4m, zi_5m, zi_8m, zi_mul4, zi_mul5, zi_sub, nI_leI, nI_ltI, nI_eq, zl0, zl1, zl2, zl3, zl4, zl5, zl6, zl8, zl9, zl24, zl32, zl48, zl49, zl99, zl100, zl120, zl376, zl377, zl378, zl379, zl380, ↓zi_192, zi_dec, Nat.add_zero, Nat.zero_add, m_n, m_b1, m_b2, m_rd, m_wr, m_get, m_put, nI_clamp, st_at, st_ne, up_at, up_ne, if_pos, if_neg, r_many, hm1, hs5, e1, hroot2, hlo, hS112, f1b]
/-- an item is put in, in both -/
theorem z_putIn {N w : Nat} (hN : 100 < N) (hw : w ≠ 6) (hw7 : w ≠ 7) (hw12 : w ≠ 12) : ∀ (u n n' round : Nat) (T S : zx_S) (t : ZT) (lo : List Nat) (c m : Nat), u + 1 < n → u + 1 < n' → zun m ≤ u → round + u ≤ 8 → zPI w T S t (c :: lo) 99 m → S 12 4 = nI c → S 12 5 = nI (zil t c) →
    ∃ T' S' t' m', f_X1_putIn_l4 N n (nI c) (nI round) T = some T' ∧ f_X3_putIn_l10 N w n' S = some S' ∧ zPI w T' S' t' lo 99 m' ∧ zkp t t' ∧ zfr [0, 1, 2, 3, 4, 5, 7, 10] T T' ∧ zfr [w, 6, 7, 12] S S' ∧ zf12 S S'
  | u, n + 1, n' + 1, round, T, S, t, lo, c, m, hn, hn', hun, hrd, hP, h124, h125 => by
    obtain ⟨hT, hr, hwf, ⟨hrb, hLC⟩, hfl, hcnt⟩ := id hP
    have hR := zwf_lv hwf (by decide)
    have ht := zwf_zb hwf (by omega)
    have hu := hwf.1
    have hg := zwf_zg hwf (zwf_un24 hwf)
    have hci := (hwf.2.2.1 c).mp (Or.inl (by simp))
    have hgc : zgd t c := zwf_gd hwf (zwf_un24 hwf) (Or.inl (by simp))
    have hcno : ∀ j, c ∉ zes t j := hwf.2.1.2 c (by simp)
    have hc48 : c < 48 := by rcases hci with z | z <;> omega
    have hrt := hwf.2.2.2.2.2.2.1
    have hcl : zil t c < zlv t (zrt t) := by
      unfold zil
      rcases hci with z | z
      · rw [if_pos z.1]; omega
      · rw [if_neg (by omega)]; exact hwf.2.2.2.2.2.2.2.1 _ z.2.2.1 z.2.2.2
    -- the reference lays its boxes
    obtain ⟨S0, eS0⟩ : ∃ S0, S0 = zx_st S 12 (upd (S 12) 4 zM1) := ⟨_, rfl⟩
    have hS0w : S0 w = S w := by rw [eS0, st_ne hw12]
    obtain ⟨S1, e1, f1, hrb1, hLC1, _⟩ := r_lay (N := N) (w := w) (S := S0) hN hw ht (by rw [hS0w]; exact hr)
    have hS1w : S1 w = S w := by rw [f1 w (by simp; exact hw), hS0w]
    have hS112 : S1 12 = upd (S 12) 4 zM1 := by rw [f1 12 (by simp), eS0, st_at]
    have hr1 : zref (S1 w) t := by rw [hS1w]; exact hr
    have hA : ∀ x, zgd t x → zbd (T 0) x ∧ ∀ k, k < 4 → T 0 (4 * x + k) = S1 6 (4 * x + k) := fun x hx => zA_all hwf hrb hLC hrb1 hLC1 hx
    obtain ⟨s, ⟨hs, hch⟩, hsl, e2, e3⟩ := z_reach (N := N) (w := w) hN (S := S1) (c := c) (c' := c) (v := zil t c + 1) hT hr1 ht hg hA (fun s hs1 => zwf_ne hwf (zwf_un24 hwf) hs1) (by omega) (by omega) (hA c hgc).1 (hA c hgc).2 (by omega) (zlv t (zrt t) - (zil t c + 1)) N N (zrt t) 0 (by omega) (by omega) hrt.1 (by omega) (by omega) ⟨0, by rw [zhn]⟩
    rw [Nat.add_sub_cancel] at e2 e3
    have hs0 : zlv t s ≠ 0 := by omega
    have hl4 : (zes t s).length ≤ 4 := by
      have := hwf.2.2.2.2.2.2.2.2.2.1 s
      exact this.2 (by omega)
    have hl3 := hT.2.2.1 s hs hs0
    have hm1 := hr1.2.2.2.1 s (by omega)
    obtain ⟨T1, e4, hT1, f2⟩ := c_attach (N := N) hN (c := c) (l := zes t s) (m := []) hT ht.2.2.2.1 hs hs0 (by simp) (by simp; omega) hc48 hcno
    obtain ⟨r1, e5, hr2, f3⟩ := d_insert (N := N) hN (c := c) (l := zes t s) (m := []) (s := s) hr1 ht.2.2.2.1 (by omega) (by simp) (by simp; omega)
    have hw1 : zwf (zE t s (zes t s ++ c :: [])) lo s 99 := zwf_put hwf (by simp) hsl
    have hR1 := zwf_lv hw1 (by decide)
    have ht1 := zwf_zb hw1 (by omega)
    have hg1 := zwf_zg hw1 (zwf_un24 hw1)
    have hT10 : T1 0 = T 0 := f2 0 (by decide)
    obtain ⟨T2, e6, k1, k2, k3⟩ := z_fitUpward (N := N) hN (T := T1) (s := s) ht1 hw1.1 hg1 (zwf_cr hw1) hs0 hT1 (by rw [hT10]; exact hrb) (fun j z1 z2 => by
      rw [hT10]
      exact zLC_ext (hLC j z1) (zE_ne z2) (fun k hk => rfl) (fun x hx k hk => rfl))
    have hT2 : zcx T2 (zE t s (zes t s ++ c :: [])) [] := zcx_keep hT1 (k1 1 (by decide)) (k1 2 (by decide)) (k1 3 (by decide)) (k1 4 (by decide)) (by rw [k1 10 (by decide)])
    obtain ⟨S2, eS2⟩ : ∃ S2, S2 = zx_st S1 w r1 := ⟨_, rfl⟩
    have hS2w : S2 w = r1 := by rw [eS2, st_at]
    have hS212 : S2 12 = upd (S 12) 4 zM1 := by rw [eS2, st_ne (Ne.symm hw12)]; exact hS112
    have hPI : zPI w T2 S2 (zE t s (zes t s ++ c :: [])) lo s m := by
      refine ⟨hT2, by rw [hS2w]; exact hr2, hw1, ⟨k2, k3⟩, ⟨hfl.1, by rw [hS212, up_ne (by decide)]; exact hfl.2.1, fun j hj => by rw [k1 5 (by decide), f2 5 (by decide)]; exact hfl.2.2 j hj⟩, ?_⟩
      unfold zcnt
      rw [k1 10 (by decide), f2 10 (by decide), hS2w, f3 377 (by omega), f3 378 (by omega), f3 379 (by omega), hS1w]
      exact hcnt
    obtain ⟨T3, S3, t3, lo3, m3, nx, r1', r2, r3, r4, r6, r7, r8, r9⟩ := z_treat (N := N) (w := w) hN hw hw7 hw12 (K := f_X1_putIn_l4 N n) (v3 := nI round) 7 N N s 0 T2 S2 _ lo m (by omega) (by omega) (by omega) (by omega) hPI hs0 (by
      obtain ⟨k, hk⟩ := hch
      refine ⟨k, zhn_keep (t' := zE t s (zes t s ++ c :: [])) (L := 0) ht rfl (fun j hj x hx => ?_) k s (Nat.zero_le _) hk⟩
      by_cases hjs : j = s
      · rw [hjs, zE_at]; rw [hjs] at hx; simp [hx]
      · rw [zE_ne hjs]; exact hx) (by rw [hS212, up_at])
    have hx23 : T 1 c + 1 = nI (zil t c) := by
      unfold zil
      rcases hci with z | z
      · rw [hT.1 c z.1, if_pos z.1]; rfl
      · rw [if_neg (by omega)]
        have := hT.2.1 (c - 24) (by omega)
        rw [if_neg z.2.2.1, show 24 + (c - 24) = c by omega] at this
        rw [this, nI_1]
        congr 1
        have := z.2.2.1
        omega
    have stepT : f_X1_putIn_l4 N (n + 1) (nI c) (nI round) T = f_X1_putIn_l4 N n nx (nI (round + 1)) T3 := by
      rw [f_X1_putIn_l4]
      have hroot : T 10 0 = nI (24 + zrt t) := hT.2.2.2.2.2.2
      simp (disch := omega) only [↓zlm1, ↓zlm2, zi_e1, zi_e2, zi_1e, zi_12, zi_21, zi_1n, zi_n1, if_true, if_false, eq_self, not_false_eq_true, not_true_eq_false, nI_add, zi_4m, zi_5m, zi_8m, zi_mul4, zi_mul5, zi_sub, nI_leI, nI_ltI, nI_eq, zl0, zl1, zl2, zl3, zl4, zl5, zl6, zl8, zl9, zl24, zl32, zl48, zl49, zl99, zl100, zl120, zl376, zl377, zl378, zl379, zl380, ↓zi_192, zi_dec, Nat.add_zero, Nat.zero_add, m_n, m_b1, m_b2, m_rd, m_wr, m_get, m_put, nI_clamp, st_at, st_ne, up_at, up_ne, if_pos, if_neg]
      rw [show T 1 c + nI 1 = nI (zil t c) from hx23]
      unfold f_X1_reached
      rw [hroot]
      simp (disch := omega) only [↓zlm1, ↓zlm2, zi_e1, zi_e2, zi_1e, zi_12, zi_21, zi_1n, zi_n1, if_true, if_false, eq_self, not_false_eq_true, not_true_eq_false, nI_add, zi_4m, zi_5m, zi_8m, zi_mul4, zi_mul5, zi_sub, nI_leI, nI_ltI, nI_eq, zl0, zl1, zl2, zl3, zl4, zl5, zl6, zl8, zl9, zl24, zl32, zl48, zl49, zl99, zl100, zl120, zl376, zl377, zl378, zl379, zl380, ↓zi_192, zi_dec, Nat.add_zero, Nat.zero_add, m_n, m_b1, m_b2, m_rd, m_wr, m_get, m_put, nI_clamp, st_at, st_ne, up_at, up_ne, if_pos, if_neg, e2, hl3, e4, e6]
      rw [r1']
      unfold f_X1_putIn_j137
      simp (disch := omega) only [↓zlm1, ↓zlm2, zi_e1, zi_e2, zi_1e, zi_12, zi_21, zi_1n, zi_n1, if_true, if_false, eq_self, not_false_eq_true, not_true_eq_false, nI_add, zi_4m, zi_5m, zi_8m, zi_mul4, zi_mul5, zi_sub, nI_leI, nI_ltI, nI_eq, zl0, zl1, zl2, zl3, zl4, zl5, zl6, zl8, zl9, zl24, zl32, zl48, zl49, zl99, zl100, zl120, zl376, zl377, zl378, zl379, zl380, ↓zi_192, zi_dec, Nat.add_zero, Nat.zero_add, m_n, m_b1, m_b2, m_rd, m_wr, m_get, m_put, nI_clamp, st_at, st_ne, up_at, up_ne, if_pos, if_neg]
    have stepS : f_X3_putIn_l10 N w (n' + 1) S = f_X3_putIn_l10 N w n' S3 := by
      rw [f_X3_putIn_l10]
      have hroot : S1 w 376 = nI (zrt t) := hr1.2.2.2.2.2
      unfold f_X3_reach f_X3_treat
      simp (disch := omega) only [↓zlm1, ↓zlm2, zi_e1, zi_e2, zi_1e, zi_12, zi_21, zi_1n, zi_n1, if_true, if_false, eq_self, not_false_eq_true, not_true_eq_false, nI_add, zi_4m, zi_5m, zi_8m, zi_mul4, zi_mul5, zi_sub, nI_leI, nI_ltI, nI_eq, zl0, zl1, zl2, zl3, zl4, zl5, zl6, zl8, zl9, zl24, zl32, zl48, zl49, zl99, zl100, zl120, zl376, zl377, zl378, zl379, zl380, ↓zi_192, zi_dec, Nat.add_zero, Nat.zero_add, m_n, m_b1, m_b2, m_rd, m_wr, m_get, m_put, nI_clamp, st_at, st_ne, up_at, up_ne, if_pos, if_neg, h124, r_many]
      rw [← eS0, e1]
      simp (disch := omega) only [↓zlm1, ↓zlm2, zi_e1, zi_e2, zi_1e, zi_12, zi_21, zi_1n, zi_n1, if_true, if_false, eq_self, not_false_eq_true, not_true_eq_false, nI_add, zi_4m, zi_5m, zi_8m, zi_mul4, zi_mul5, zi_sub, nI_leI, nI_ltI, nI_eq, zl0, zl1, zl2, zl3, zl4, zl5, zl6, zl8, zl9, zl24, zl32, zl48, zl49, zl99, zl100, zl120, zl376, zl377, zl378, zl379, zl380, ↓zi_192, zi_dec, Nat.add_zero, Nat.zero_add, m_n, m_b1, m_b2, m_rd, m_wr, m_get, m_put, nI_clamp, st_at, st_ne, up_at, up_ne, if_pos, if_neg, hroot, hS112, h125, e3, r_many, hm1, e5]
      rw [← eS2, r2]
      simp (disch := omega) only [m_n, m_b1, m_b2, m_rd, m_wr, m_get, m_put, nI_clamp, st_at, st_ne, up_at, up_ne, if_pos, if_neg]
    rw [stepT, stepS]
    have k12 : zf12 S S3 := zf12_trans ⟨fun j hj => by rw [hS212, up_ne (by omega)], fun j hj => by rw [hS212, up_ne (by omega)]⟩ r9
    have kT : zfr [0, 1, 2, 3, 4, 5, 7, 10] T T3 := zfr_trans (zfr_sub f2 (by decide)) (zfr_trans (zfr_sub k1 (by decide)) r7)
    have kS : zfr [w, 6, 7, 12] S S3 := by
      refine zfr_trans (T1 := S0) (by rw [eS0]; exact zfr_st (by simp) zfr_refl) (zfr_trans (zfr_sub f1 (by simp)) (zfr_trans (T1 := S2) (by rw [eS2]; exact zfr_st (by simp) zfr_refl) r8))
    obtain ⟨n2, rfl⟩ : ∃ n2, n = n2 + 1 := ⟨n - 1, by omega⟩
    obtain ⟨n3, rfl⟩ : ∃ n3, n' = n3 + 1 := ⟨n' - 1, by omega⟩
    rcases r6 with ⟨q1, q2, q3, q4⟩ | ⟨c2, q1, q2, q3, q4, q5⟩
    · subst q1
      rw [q3] at r3
      refine ⟨T3, S3, t3, m3, ?_, ?_, r3, zkp_trans ⟨rfl, rfl, fun _ _ => rfl⟩ r4, kT, kS, k12⟩
      · rw [f_X1_putIn_l4]
        simp (disch := omega) only [↓zlm1, ↓zlm2, zi_e1, zi_e2, zi_1e, zi_12, zi_21, zi_1n, zi_n1, if_true, if_false, eq_self, not_false_eq_true, not_true_eq_false, nI_add, zi_4m, zi_5m, zi_8m, zi_mul4, zi_mul5, zi_sub, nI_leI, nI_ltI, nI_eq, zl0, zl1, zl2, zl3, zl4, zl5, zl6, zl8, zl9, zl24, zl32, zl48, zl49, zl99, zl100, zl120, zl376, zl377, zl378, zl379, zl380, ↓zi_192, zi_dec, Nat.add_zero, Nat.zero_add, m_n, m_b1, m_b2, m_rd, m_wr, m_get, m_put, nI_clamp, st_at, st_ne, up_at, up_ne, if_pos, if_neg, ite_self]
      · rw [f_X3_putIn_l10]
        simp (disch := omega) only [↓zlm1, ↓zlm2, zi_e1, zi_e2, zi_1e, zi_12, zi_21, zi_1n, zi_n1, if_true, if_false, eq_self, not_false_eq_true, not_true_eq_false, nI_add, zi_4m, zi_5m, zi_8m, zi_mul4, zi_mul5, zi_sub, nI_leI, nI_ltI, nI_eq, zl0, zl1, zl2, zl3, zl4, zl5, zl6, zl8, zl9, zl24, zl32, zl48, zl49, zl99, zl100, zl120, zl376, zl377, zl378, zl379, zl380, ↓zi_192, zi_dec, Nat.add_zero, Nat.zero_add, m_n, m_b1, m_b2, m_rd, m_wr, m_get, m_put, nI_clamp, st_at, st_ne, up_at, up_ne, if_pos, if_neg, q2]
    · subst q1
      rw [q4] at r3
      obtain ⟨u', rfl⟩ : ∃ u', u = u' + 1 := ⟨u - 1, by omega⟩
      obtain ⟨T', S', t', m', p1, p2, p3, p4, p6, p7, p8⟩ := z_putIn hN hw hw7 hw12 u' (n2 + 1) (n3 + 1) (round + 1) T3 S3 t3 lo c2 m3 (by omega) (by omega) (by omega) (by omega) r3 q2 q3
      exact ⟨T', S', t', m', p1, p2, p3, zkp_trans (zkp_trans ⟨rfl, rfl, fun _ _ => rfl⟩ r4) p4, zfr_trans kT p6, zfr_trans kS p7, zf12_trans k12 p8⟩
