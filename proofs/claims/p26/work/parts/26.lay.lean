/-! the reference's boxes of a whole tree -/
/-- a tree's plain bounds -/
def zb (t : ZT) : Prop := (∀ s e, e ∈ zes t s → e < 48 ∧ zil t e + 1 = zlv t s ∧ (24 ≤ e → zlv t (e - 24) ≠ 0)) ∧ (∀ s, zlv t s = 0 → zes t s = []) ∧ (∀ s, 24 ≤ s → zlv t s = 0) ∧ (∀ s, (zes t s).length ≤ 5) ∧ (∀ s, zlv t s ≤ 6)
theorem zb_lt {t : ZT} (h : zb t) {s : Nat} (hs : zlv t s ≠ 0) : s < 24 := by
  rcases Nat.lt_or_ge s 24 with z | z
  · exact z
  · exact absurd (h.2.2.1 s z) hs
theorem r_lay10 {N w n i k : Nat} {K : Int32 → zx_S → Option zx_S} {S : zx_S} (hw : w ≠ 6) (hi : i < 24) (hk : k < 4) : f_X3_layBoxes_l10 N w K (n + 1) (nI i) (nI k) S = f_X3_layBoxes_l10 N w K n (nI i) (nI (k + 1)) (zx_st S 6 (upd (S 6) (4 * i + k) (S w (5 * i + 1 + k)))) := by
  rw [f_X3_layBoxes_l10]
  simp (disch := omega) only [↓zlm1, ↓zlm2, zi_e1, zi_e2, zi_1e, zi_12, zi_21, zi_1n, zi_n1, if_true, if_false, eq_self, not_false_eq_true, not_true_eq_false, nI_add, zi_4m, zi_5m, zi_8m, zi_mul4, zi_mul5, zi_sub, nI_leI, nI_ltI, nI_eq, zl0, zl1, zl2, zl3, zl4, zl5, zl6, zl8, zl9, zl24, zl32, zl48, zl49, zl99, zl100, zl120, zl376, zl377, zl378, zl379, zl380, ↓zi_192, zi_dec, Nat.add_zero, Nat.zero_add, m_n, m_b1, m_b2, m_rd, m_wr, m_get, m_put, nI_clamp, st_at, st_ne, up_at, up_ne, if_pos, if_neg]
theorem r_lay10a {N w : Nat} (hN : 100 < N) {i : Nat} {K : Int32 → zx_S → Option zx_S} {S : zx_S} (hw : w ≠ 6) (hi : i < 24) :
    ∃ S', f_X3_layBoxes_l10 N w K N (nI i) (nI 0) S = K (nI (i + 1)) S' ∧ zfr [6] S S' ∧ (∀ k, k < 4 → S' 6 (4 * i + k) = S w (5 * i + 1 + k)) ∧ (∀ j, (j < 4 * i ∨ 4 * i + 4 ≤ j) → S' 6 j = S 6 j) := by
  obtain ⟨n, rfl⟩ : ∃ n, N = n + 5 := ⟨N - 5, by omega⟩
  rw [r_lay10 hw hi (by decide), r_lay10 hw hi (by decide), r_lay10 hw hi (by decide), r_lay10 hw hi (by decide), f_X3_layBoxes_l10]
  simp (disch := omega) only [↓zlm1, ↓zlm2, zi_e1, zi_e2, zi_1e, zi_12, zi_21, zi_1n, zi_n1, if_true, if_false, eq_self, not_false_eq_true, not_true_eq_false, nI_add, zi_4m, zi_5m, zi_8m, zi_mul4, zi_mul5, zi_sub, nI_leI, nI_ltI, nI_eq, zl0, zl1, zl2, zl3, zl4, zl5, zl6, zl8, zl9, zl24, zl32, zl48, zl49, zl99, zl100, zl120, zl376, zl377, zl378, zl379, zl380, ↓zi_192, zi_dec, Nat.add_zero, Nat.zero_add, m_n, m_b1, m_b2, m_rd, m_wr, m_get, m_put, nI_clamp, st_at, st_ne, up_at, up_ne, if_pos, if_neg]
  refine ⟨_, rfl, zfr_st (by decide) (zfr_st (by decide) (zfr_st (by decide) (zfr_st (by decide) zfr_refl))), ?_, ?_⟩
  · intro k hk
    match k, hk with
    | 0, _ => simp (disch := omega) only [m_n, m_b1, m_b2, m_rd, m_wr, m_get, m_put, nI_clamp, st_at, st_ne, up_at, up_ne, if_pos, if_neg, Nat.add_zero]
    | 1, _ => simp (disch := omega) only [m_n, m_b1, m_b2, m_rd, m_wr, m_get, m_put, nI_clamp, st_at, st_ne, up_at, up_ne, if_pos, if_neg]
    | 2, _ => simp (disch := omega) only [m_n, m_b1, m_b2, m_rd, m_wr, m_get, m_put, nI_clamp, st_at, st_ne, up_at, up_ne, if_pos, if_neg]
    | 3, _ => simp (disch := omega) only [m_n, m_b1, m_b2, m_rd, m_wr, m_get, m_put, nI_clamp, st_at, st_ne, up_at, up_ne, if_pos, if_neg]
  · intro j hj
    simp (disch := omega) only [m_n, m_b1, m_b2, m_rd, m_wr, m_get, m_put, nI_clamp, st_at, st_ne, up_at, up_ne, if_pos, if_neg]
theorem r_lay2 {N w : Nat} (hN : 100 < N) (hw : w ≠ 6) : ∀ (d n i : Nat) (S : zx_S), d < n → i + d = 24 →
    ∃ S', f_X3_layBoxes_l2 N w n (nI i) S = f_X3_layBoxes_l48 N w N (nI 0) S' ∧ zfr [6] S S' ∧ (∀ i' k, i ≤ i' → i' < 24 → k < 4 → S' 6 (4 * i' + k) = S w (5 * i' + 1 + k)) ∧ (∀ j, j < 4 * i → S' 6 j = S 6 j)
  | 0, n + 1, i, S, _, hi => by
    rw [f_X3_layBoxes_l2]
    simp (disch := omega) only [↓zlm1, ↓zlm2, zi_e1, zi_e2, zi_1e, zi_12, zi_21, zi_1n, zi_n1, if_true, if_false, eq_self, not_false_eq_true, not_true_eq_false, nI_add, zi_4m, zi_5m, zi_8m, zi_mul4, zi_mul5, zi_sub, nI_leI, nI_ltI, nI_eq, zl0, zl1, zl2, zl3, zl4, zl5, zl6, zl8, zl9, zl24, zl32, zl48, zl49, zl99, zl100, zl120, zl376, zl377, zl378, zl379, zl380, ↓zi_192, zi_dec, Nat.add_zero, Nat.zero_add, m_n, m_b1, m_b2, m_rd, m_wr, m_get, m_put, nI_clamp, st_at, st_ne, up_at, up_ne, if_pos, if_neg]
    exact ⟨S, rfl, zfr_refl, fun i' k h1 h2 => by omega, fun j _ => rfl⟩
  | d + 1, n + 1, i, S, hn, hi => by
    rw [f_X3_layBoxes_l2]
    obtain ⟨S1, e1, f1, h1, g1⟩ := r_lay10a (N := N) hN (i := i) (K := f_X3_layBoxes_l2 N w n) (S := S) hw (by omega)
    simp (disch := omega) only [↓zlm1, ↓zlm2, zi_e1, zi_e2, zi_1e, zi_12, zi_21, zi_1n, zi_n1, if_true, if_false, eq_self, not_false_eq_true, not_true_eq_false, nI_add, zi_4m, zi_5m, zi_8m, zi_mul4, zi_mul5, zi_sub, nI_leI, nI_ltI, nI_eq, zl0, zl1, zl2, zl3, zl4, zl5, zl6, zl8, zl9, zl24, zl32, zl48, zl49, zl99, zl100, zl120, zl376, zl377, zl378, zl379, zl380, ↓zi_192, zi_dec, Nat.add_zero, Nat.zero_add, m_n, m_b1, m_b2, m_rd, m_wr, m_get, m_put, nI_clamp, st_at, st_ne, up_at, up_ne, if_pos, if_neg]
    rw [e1]
    obtain ⟨S2, e2, f2, h2, g2⟩ := r_lay2 hN hw d n (i + 1) S1 (by omega) (by omega)
    refine ⟨S2, e2, zfr_trans f1 f2, ?_, ?_⟩
    · intro i' k z1 z2 z3
      by_cases hz : i' = i
      · subst hz
        rw [g2 _ (by omega), h1 k z3]
      · rw [h2 i' k (by omega) z2 z3, f1 w (by simp; exact hw)]
    · intro j hj
      rw [g2 j (by omega), g1 j (by omega)]
theorem r_lay65 {N w : Nat} (hN : 100 < N) (hw : w ≠ 6) {K48 : Int32 → zx_S → Option zx_S} {K56 : Int32 → Int32 → zx_S → Option zx_S} {r : Nat → Int32} (L s M : Nat) (hs : s < 32) (hL : L < 100) (hM : M < 6) (hr0 : r (120 + 8 * s) = nI (L + 1)) (hr1 : r (120 + 8 * s + 1) = nI M) : ∀ (l : List Nat) (k n : Nat) (S : zx_S), S w = r → l.length < n → 1 ≤ k → k + l.length = M → zat r (120 + 8 * s + 2 + k) l → (∀ x, x ∈ l → x < 56 ∧ x ≠ 24 + s) →
    ∃ S', f_X3_layBoxes_l65 N w K48 K56 n (nI L) (nI s) (nI k) S = K56 (nI L) (nI (s + 1)) S' ∧ zfr [6] S S' ∧ (∀ k', k' < 4 → S' 6 (4 * (24 + s) + k') = zjf (S 6) k' (S 6 (4 * (24 + s) + k')) l) ∧ (∀ j, (j < 4 * (24 + s) ∨ 4 * (24 + s) + 4 ≤ j) → S' 6 j = S 6 j)
  | [], k, n + 1, S, hS, _, hk, hk2, _, _ => by
    simp only [List.length_nil] at hk2
    rw [f_X3_layBoxes_l65]
    unfold f_X3_layBoxes_j115
    simp (disch := omega) only [r_many, ↓zlm1, ↓zlm2, zi_e1, zi_e2, zi_1e, zi_12, zi_21, zi_1n, zi_n1, if_true, if_false, eq_self, not_false_eq_true, not_true_eq_false, nI_add, zi_4m, zi_5m, zi_8m, zi_mul4, zi_mul5, zi_sub, nI_leI, nI_ltI, nI_eq, zl0, zl1, zl2, zl3, zl4, zl5, zl6, zl8, zl9, zl24, zl32, zl48, zl49, zl99, zl100, zl120, zl376, zl377, zl378, zl379, zl380, ↓zi_192, zi_dec, Nat.add_zero, Nat.zero_add, m_n, m_b1, m_b2, m_rd, m_wr, m_get, m_put, nI_clamp, st_at, st_ne, up_at, up_ne, if_pos, if_neg, hS, hr1]
    exact ⟨S, rfl, zfr_refl, fun k' _ => rfl, fun j _ => rfl⟩
  | x :: l, k, n + 1, S, hS, hn, hk, hk2, hz, hi => by
    have h0 : r (120 + 8 * s + 2 + k) = nI x := hz.1
    obtain ⟨h1, h2⟩ := hi x (by simp)
    simp only [List.length_cons] at hk2 hn
    obtain ⟨S1, e1, f1, g1, o1⟩ := r_join0 (N := N) hN (S := S) (a := 24 + s) (c := x) (by omega) h1 (Ne.symm h2)
    have hlo := r_levelOf (N := N) (r := r) (s := s) (v := L + 1) hs hr0 (by omega)
    rw [f_X3_layBoxes_l65]
    unfold f_X3_layBoxes_j106
    simp (disch := omega) only [r_many, r_entryOf, ↓zlm1, ↓zlm2, zi_e1, zi_e2, zi_1e, zi_12, zi_21, zi_1n, zi_n1, if_true, if_false, eq_self, not_false_eq_true, not_true_eq_false, nI_add, zi_4m, zi_5m, zi_8m, zi_mul4, zi_mul5, zi_sub, nI_leI, nI_ltI, nI_eq, zl0, zl1, zl2, zl3, zl4, zl5, zl6, zl8, zl9, zl24, zl32, zl48, zl49, zl99, zl100, zl120, zl376, zl377, zl378, zl379, zl380, ↓zi_192, zi_dec, Nat.add_zero, Nat.zero_add, m_n, m_b1, m_b2, m_rd, m_wr, m_get, m_put, nI_clamp, st_at, st_ne, up_at, up_ne, if_pos, if_neg, hS, hr1, hlo, h0, Nat.add_sub_cancel, e1]
    obtain ⟨S2, e2, f2, g2, o2⟩ := r_lay65 hN hw (K48 := K48) (K56 := K56) L s M hs hL hM hr0 hr1 l (k + 1) n S1 (by rw [f1 w (by simp; exact hw)]; exact hS) (by omega) (by omega) (by omega) (by rw [← Nat.add_assoc]; exact hz.2) (fun y hy => hi y (List.mem_cons_of_mem _ hy))
    rw [e2]
    refine ⟨S2, rfl, zfr_trans f1 f2, ?_, ?_⟩
    · intro k' hk'
      rw [g2 k' hk', g1 k' hk']
      simp only [zjf]
      refine zjf_congr (fun y hy => ?_)
      have := (hi y (List.mem_cons_of_mem _ hy)).2
      exact o1 _ (by omega)
    · intro j hj
      rw [o2 j hj, o1 j hj]
theorem zb_self {t : ZT} (h : zb t) {s e : Nat} (he : e ∈ zes t s) : e ≠ 24 + s := by
  intro z
  subst z
  have h1 := (h.1 s _ he).2.1
  unfold zil at h1
  rw [if_neg (by omega), Nat.add_sub_cancel_left] at h1
  omega
theorem r_laySlot {N w : Nat} (hN : 100 < N) (hw : w ≠ 6) {K48 : Int32 → zx_S → Option zx_S} {K56 : Int32 → Int32 → zx_S → Option zx_S} {t : ZT} (ht : zb t) (L s : Nat) (hs : s < 32) (hL : L < 6) {S : zx_S} (hr : zref (S w) t) :
    ∃ S', f_X3_layBoxes_l65 N w K48 K56 N (nI L) (nI s) (nI 0) S = K56 (nI L) (nI (s + 1)) S' ∧ zfr [6] S S' ∧ (zlv t s = L + 1 → zLC (S' 6) t s) ∧ (∀ j, (j < 4 * (24 + s) ∨ 4 * (24 + s) + 4 ≤ j) → S' 6 j = S 6 j) ∧ (zlv t s ≠ L + 1 → S' 6 = S 6) := by
  obtain ⟨n, hn⟩ : ∃ n, N = n + 1 := ⟨N - 1, by omega⟩
  have hr1 := hr.2.2.2.1 s hs
  have hr0 := hr.2.2.1 s hs
  have hz := hr.2.2.2.2.1 s hs
  have hlv := ht.2.2.2.2 s
  rcases hes : zes t s with _ | ⟨c, l⟩
  · rw [hes] at hr1
    simp only [List.length_nil] at hr1
    refine ⟨S, ?_, zfr_refl, ?_, fun j _ => rfl, fun _ => rfl⟩
    · rw [hn, f_X3_layBoxes_l65, ← hn]
      unfold f_X3_layBoxes_j115
      simp (disch := omega) only [r_many, ↓zlm1, ↓zlm2, zi_e1, zi_e2, zi_1e, zi_12, zi_21, zi_1n, zi_n1, if_true, if_false, eq_self, not_false_eq_true, not_true_eq_false, nI_add, zi_4m, zi_5m, zi_8m, zi_mul4, zi_mul5, zi_sub, nI_leI, nI_ltI, nI_eq, zl0, zl1, zl2, zl3, zl4, zl5, zl6, zl8, zl9, zl24, zl32, zl48, zl49, zl99, zl100, zl120, zl376, zl377, zl378, zl379, zl380, ↓zi_192, zi_dec, Nat.add_zero, Nat.zero_add, m_n, m_b1, m_b2, m_rd, m_wr, m_get, m_put, nI_clamp, st_at, st_ne, up_at, up_ne, if_pos, if_neg, hr1]
    · intro _ h; exact absurd hes h
  · have hlen : (zes t s).length = l.length + 1 := by rw [hes]; rfl
    have hl5 := ht.2.2.2.1 s
    have h0 : zlv t s ≠ 0 := fun z => by have := ht.2.1 s z; rw [hes] at this; cases this
    rw [hlen] at hr1
    rw [hes] at hz
    have hlo := r_levelOf (N := N) (r := S w) (s := s) (v := zlv t s) hs hr0 (by omega)
    by_cases hLv : zlv t s = L + 1
    · have hcx : c < 48 := (ht.1 s c (by rw [hes]; simp)).1
      have hcs : c ≠ 24 + s := zb_self ht (s := s) (by rw [hes]; simp)
      obtain ⟨S1, e1, f1, g1, o1⟩ := r_join1 (N := N) hN (S := S) (a := 24 + s) (c := c) (by omega) (by omega) (Ne.symm hcs)
      have hc0 : S w (120 + 8 * s + 2) = nI c := hz.1
      obtain ⟨S2, e2, f2, g2, o2⟩ := r_lay65 hN hw (K48 := K48) (K56 := K56) (r := S w) L s (l.length + 1) hs (by omega) (by omega) (by rw [hr0, hLv]) hr1 l 1 n S1 (f1 w (by simp; exact hw)) (by omega) (Nat.le_refl 1) (by omega) hz.2 (fun x hx => ⟨by have := (ht.1 s x (by rw [hes]; simp [hx])).1; omega, zb_self ht (s := s) (by rw [hes]; simp [hx])⟩)
      refine ⟨S2, ?_, zfr_trans f1 f2, ?_, fun j hj => by rw [o2 j hj, o1 j hj], fun z => absurd hLv z⟩
      · rw [← e2, hn, f_X3_layBoxes_l65, ← hn]
        unfold f_X3_layBoxes_j106
        simp (disch := omega) only [r_many, r_entryOf, ↓zlm1, ↓zlm2, zi_e1, zi_e2, zi_1e, zi_12, zi_21, zi_1n, zi_n1, if_true, if_false, eq_self, not_false_eq_true, not_true_eq_false, nI_add, zi_4m, zi_5m, zi_8m, zi_mul4, zi_mul5, zi_sub, nI_leI, nI_ltI, nI_eq, zl0, zl1, zl2, zl3, zl4, zl5, zl6, zl8, zl9, zl24, zl32, zl48, zl49, zl99, zl100, zl120, zl376, zl377, zl378, zl379, zl380, ↓zi_192, zi_dec, Nat.add_zero, Nat.zero_add, m_n, m_b1, m_b2, m_rd, m_wr, m_get, m_put, nI_clamp, st_at, st_ne, up_at, up_ne, if_pos, if_neg, hr1, hlo, hLv, hc0, Nat.add_sub_cancel, e1]
      · intro _ _ k hk
        rw [g2 k hk, g1 k hk, hes]
        simp only [zjn]
        rw [o2 (4 * c + k) (by omega), o1 (4 * c + k) (by omega)]
        refine zjf_congr (fun y hy => ?_)
        have := zb_self ht (s := s) (e := y) (by rw [hes]; simp [hy])
        rw [o2 (4 * y + k) (by omega)]
    · refine ⟨S, ?_, zfr_refl, fun z => absurd z hLv, fun j _ => rfl, fun _ => rfl⟩
      rw [hn, f_X3_layBoxes_l65, ← hn]
      unfold f_X3_layBoxes_j115
      have hne : ¬ zlv t s - 1 = L := by omega
      simp (disch := omega) only [r_many, ↓zlm1, ↓zlm2, zi_e1, zi_e2, zi_1e, zi_12, zi_21, zi_1n, zi_n1, if_true, if_false, eq_self, not_false_eq_true, not_true_eq_false, nI_add, zi_4m, zi_5m, zi_8m, zi_mul4, zi_mul5, zi_sub, nI_leI, nI_ltI, nI_eq, zl0, zl1, zl2, zl3, zl4, zl5, zl6, zl8, zl9, zl24, zl32, zl48, zl49, zl99, zl100, zl120, zl376, zl377, zl378, zl379, zl380, ↓zi_192, zi_dec, Nat.add_zero, Nat.zero_add, m_n, m_b1, m_b2, m_rd, m_wr, m_get, m_put, nI_clamp, st_at, st_ne, up_at, up_ne, if_pos, if_neg, hr1, hlo, hne]
theorem zLC_keep {f g : Nat → Int32} {t : ZT} (ht : zb t) {s s' : Nat} (h : zLC f t s') (ho : ∀ j, (j < 4 * (24 + s) ∨ 4 * (24 + s) + 4 ≤ j) → g j = f j) (hne : s' ≠ s) (hl : zlv t s' ≤ zlv t s) : zLC g t s' := by
  intro he k hk
  rw [ho _ (by omega), h he k hk]
  refine zjn_congr (fun x hx => ?_)
  have h1 := (ht.1 s' x hx).2.1
  have : x ≠ 24 + s := by
    intro z
    subst z
    unfold zil at h1
    rw [if_neg (by omega), Nat.add_sub_cancel_left] at h1
    omega
  rw [ho _ (by omega)]
theorem r_lay56 {N w : Nat} (hN : 100 < N) (hw : w ≠ 6) {K48 : Int32 → zx_S → Option zx_S} {t : ZT} (ht : zb t) (L : Nat) (hL : L < 6) : ∀ (d n s : Nat) (S : zx_S), d < n → s + d = 32 → zref (S w) t → (∀ s', zlv t s' ≠ 0 → (zlv t s' ≤ L ∨ (zlv t s' = L + 1 ∧ s' < s)) → zLC (S 6) t s') →
    ∃ S', f_X3_layBoxes_l56 N w K48 n (nI L) (nI s) S = K48 (nI (L + 1)) S' ∧ zfr [6] S S' ∧ (∀ s', zlv t s' ≠ 0 → zlv t s' ≤ L + 1 → zLC (S' 6) t s') ∧ (∀ j, j < 96 → S' 6 j = S 6 j)
  | 0, n + 1, s, S, _, hs, _, hI => by
    rw [f_X3_layBoxes_l56]
    simp (disch := omega) only [↓zlm1, ↓zlm2, zi_e1, zi_e2, zi_1e, zi_12, zi_21, zi_1n, zi_n1, if_true, if_false, eq_self, not_false_eq_true, not_true_eq_false, nI_add, zi_4m, zi_5m, zi_8m, zi_mul4, zi_mul5, zi_sub, nI_leI, nI_ltI, nI_eq, zl0, zl1, zl2, zl3, zl4, zl5, zl6, zl8, zl9, zl24, zl32, zl48, zl49, zl99, zl100, zl120, zl376, zl377, zl378, zl379, zl380, ↓zi_192, zi_dec, Nat.add_zero, Nat.zero_add, m_n, m_b1, m_b2, m_rd, m_wr, m_get, m_put, nI_clamp, st_at, st_ne, up_at, up_ne, if_pos, if_neg]
    refine ⟨S, rfl, zfr_refl, fun s' h1 h2 => hI s' h1 ?_, fun j _ => rfl⟩
    have := zb_lt ht h1
    omega
  | d + 1, n + 1, s, S, hn, hs, hr, hI => by
    rw [f_X3_layBoxes_l56]
    obtain ⟨S1, e1, f1, g1, o1, p1⟩ := r_laySlot (N := N) hN hw (K48 := K48) (K56 := f_X3_layBoxes_l56 N w K48 n) ht L s (by omega) hL hr
    simp (disch := omega) only [↓zlm1, ↓zlm2, zi_e1, zi_e2, zi_1e, zi_12, zi_21, zi_1n, zi_n1, if_true, if_false, eq_self, not_false_eq_true, not_true_eq_false, nI_add, zi_4m, zi_5m, zi_8m, zi_mul4, zi_mul5, zi_sub, nI_leI, nI_ltI, nI_eq, zl0, zl1, zl2, zl3, zl4, zl5, zl6, zl8, zl9, zl24, zl32, zl48, zl49, zl99, zl100, zl120, zl376, zl377, zl378, zl379, zl380, ↓zi_192, zi_dec, Nat.add_zero, Nat.zero_add, m_n, m_b1, m_b2, m_rd, m_wr, m_get, m_put, nI_clamp, st_at, st_ne, up_at, up_ne, if_pos, if_neg]
    rw [e1]
    have hw1 : S1 w = S w := f1 w (by simp; exact hw)
    obtain ⟨S2, e2, f2, g2, o2⟩ := r_lay56 hN hw (K48 := K48) ht L hL d n (s + 1) S1 (by omega) (by omega) (by rw [hw1]; exact hr) (fun s' h1 h2 => by
      by_cases hss : s' = s
      · subst hss
        by_cases hl : zlv t s' = L + 1
        · exact g1 hl
        · rw [p1 hl]; exact hI s' h1 (by omega)
      · by_cases hl : zlv t s = L + 1
        · exact zLC_keep ht (hI s' h1 (by omega)) o1 hss (by omega)
        · rw [p1 hl]; exact hI s' h1 (by omega))
    exact ⟨S2, e2, zfr_trans f1 f2, g2, fun j hj => by rw [o2 j hj, o1 j (by omega)]⟩
theorem r_lay48 {N w : Nat} (hN : 100 < N) (hw : w ≠ 6) {t : ZT} (ht : zb t) : ∀ (d n L : Nat) (S : zx_S), d < n → L + d = 6 → zref (S w) t → (∀ s', zlv t s' ≠ 0 → zlv t s' ≤ L → zLC (S 6) t s') →
    ∃ S', f_X3_layBoxes_l48 N w n (nI L) S = some S' ∧ zfr [6] S S' ∧ (∀ s', zlv t s' ≠ 0 → zLC (S' 6) t s') ∧ (∀ j, j < 96 → S' 6 j = S 6 j)
  | 0, n + 1, L, S, _, hL, _, hI => by
    rw [f_X3_layBoxes_l48]
    simp (disch := omega) only [↓zlm1, ↓zlm2, zi_e1, zi_e2, zi_1e, zi_12, zi_21, zi_1n, zi_n1, if_true, if_false, eq_self, not_false_eq_true, not_true_eq_false, nI_add, zi_4m, zi_5m, zi_8m, zi_mul4, zi_mul5, zi_sub, nI_leI, nI_ltI, nI_eq, zl0, zl1, zl2, zl3, zl4, zl5, zl6, zl8, zl9, zl24, zl32, zl48, zl49, zl99, zl100, zl120, zl376, zl377, zl378, zl379, zl380, ↓zi_192, zi_dec, Nat.add_zero, Nat.zero_add, m_n, m_b1, m_b2, m_rd, m_wr, m_get, m_put, nI_clamp, st_at, st_ne, up_at, up_ne, if_pos, if_neg]
    refine ⟨S, rfl, zfr_refl, fun s' h1 => hI s' h1 ?_, fun j _ => rfl⟩
    have := ht.2.2.2.2 s'
    omega
  | d + 1, n + 1, L, S, hn, hL, hr, hI => by
    rw [f_X3_layBoxes_l48]
    obtain ⟨S1, e1, f1, g1, o1⟩ := r_lay56 (N := N) hN hw (K48 := f_X3_layBoxes_l48 N w n) ht L (by omega) 32 N 0 S (by omega) (by omega) hr (fun s' h1 h2 => hI s' h1 (by omega))
    simp (disch := omega) only [↓zlm1, ↓zlm2, zi_e1, zi_e2, zi_1e, zi_12, zi_21, zi_1n, zi_n1, if_true, if_false, eq_self, not_false_eq_true, not_true_eq_false, nI_add, zi_4m, zi_5m, zi_8m, zi_mul4, zi_mul5, zi_sub, nI_leI, nI_ltI, nI_eq, zl0, zl1, zl2, zl3, zl4, zl5, zl6, zl8, zl9, zl24, zl32, zl48, zl49, zl99, zl100, zl120, zl376, zl377, zl378, zl379, zl380, ↓zi_192, zi_dec, Nat.add_zero, Nat.zero_add, m_n, m_b1, m_b2, m_rd, m_wr, m_get, m_put, nI_clamp, st_at, st_ne, up_at, up_ne, if_pos, if_neg]
    rw [e1]
    have hw1 : S1 w = S w := f1 w (by simp; exact hw)
    obtain ⟨S2, e2, f2, g2, o2⟩ := r_lay48 hN hw ht d n (L + 1) S1 (by omega) (by omega) (by rw [hw1]; exact hr) g1
    exact ⟨S2, e2, zfr_trans f1 f2, g2, fun j hj => by rw [o2 j hj, o1 j hj]⟩
/-- all boxes laid -/
theorem r_lay {N w : Nat} (hN : 100 < N) (hw : w ≠ 6) {t : ZT} (ht : zb t) {S : zx_S} (hr : zref (S w) t) :
    ∃ S', f_X3_layBoxes N w S = some S' ∧ zfr [6] S S' ∧ zrb (S' 6) t ∧ (∀ s, zlv t s ≠ 0 → zLC (S' 6) t s) ∧ (∀ i k, i < 24 → k < 4 → S' 6 (4 * i + k) = S w (5 * i + 1 + k)) := by
  obtain ⟨S1, e1, f1, g1, _⟩ := r_lay2 (N := N) hN hw 24 N 0 S (by omega) (by omega)
  have hw1 : S1 w = S w := f1 w (by simp; exact hw)
  obtain ⟨S2, e2, f2, g2, o2⟩ := r_lay48 (N := N) hN hw ht 6 N 0 S1 (by omega) (by omega) (by rw [hw1]; exact hr) (fun s' h1 h2 => absurd (Nat.le_zero.mp h2) h1)
  have hk : ∀ i k, i < 24 → k < 4 → S2 6 (4 * i + k) = S w (5 * i + 1 + k) := fun i k hi hk => by rw [o2 _ (by omega), g1 i k (Nat.zero_le i) hi hk]
  refine ⟨S2, ?_, zfr_trans f1 f2, fun i k hi hk2 hp => ?_, g2, hk⟩
  · unfold f_X3_layBoxes
    rw [zl0, e1, e2]
  · rw [hk i k hi hk2]
    exact hr.2.1 i k hi hk2 hp
