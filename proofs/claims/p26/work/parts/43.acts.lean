/-! the actions on a tree: a rectangle is laid, taken out, moved -/
theorem zP_lv {t : ZT} {i : Nat} {b : Bool} : zlv (zP t i b) = zlv t := rfl
theorem zP_es {t : ZT} {i : Nat} {b : Bool} : zes (zP t i b) = zes t := rfl
theorem zP_rt {t : ZT} {i : Nat} {b : Bool} : zrt (zP t i b) = zrt t := rfl
theorem zP_rc {t : ZT} {i : Nat} {b : Bool} : zrc (zP t i b) = zrc t := rfl
theorem zP_il {t : ZT} {i : Nat} {b : Bool} : zil (zP t i b) = zil t := rfl
theorem zP_pr {t : ZT} {i j : Nat} {b : Bool} : zpr (zP t i b) j = if j = i then b else zpr t j := rfl
theorem zC_lv {t : ZT} {i : Nat} {f : Nat → Int32} : zlv (zC t i f) = zlv t := rfl
theorem zC_es {t : ZT} {i : Nat} {f : Nat → Int32} : zes (zC t i f) = zes t := rfl
theorem zC_rt {t : ZT} {i : Nat} {f : Nat → Int32} : zrt (zC t i f) = zrt t := rfl
theorem zC_pr {t : ZT} {i : Nat} {f : Nat → Int32} : zpr (zC t i f) = zpr t := rfl
theorem zC_il {t : ZT} {i : Nat} {f : Nat → Int32} : zil (zC t i f) = zil t := rfl
theorem zC_rc {t : ZT} {i j : Nat} {f : Nat → Int32} : zrc (zC t i f) j = if j = i then f else zrc t j := rfl
/-- the call begins -/
theorem m_begin_l {N : Nat} : ∀ (d n k : Nat) (T : zx_S), d < n → k + d = 8 → ∃ T', f_X1_beginCall_l2 N n (nI k) T = some T' ∧ zfr [5] T T' ∧ (∀ j, k ≤ j → j < 8 → T' 5 j = nI 0) ∧ ∀ j, j < k → T' 5 j = T 5 j
  | 0, n + 1, k, T, hn, hk => by
    refine ⟨T, ?_, zfr_refl, fun j h1 h2 => by omega, fun _ _ => rfl⟩
    rw [f_X1_beginCall_l2]
    simp (disch := omega) only [↓zlm1, ↓zlm2, zi_e1, zi_e2, zi_1e, zi_12, zi_21, zi_1n, zi_n1, if_true, if_false, eq_self, not_false_eq_true, not_true_eq_false, nI_add, zi_4m, zi_5m, zi_8m, zi_mul4, zi_mul5, zi_sub, nI_leI, nI_ltI, nI_eq, zl0, zl1, zl2, zl3, zl4, zl5, zl6, zl8, zl9, zl24, zl32, zl48, zl49, zl99, zl100, zl120, zl376, zl377, zl378, zl379, zl380, ↓zi_192, zi_dec, Nat.add_zero, Nat.zero_add, m_n, m_b1, m_b2, m_rd, m_wr, m_get, m_put, nI_clamp, st_at, st_ne, up_at, up_ne, if_pos, if_neg]
  | d + 1, n + 1, k, T, hn, hk => by
    obtain ⟨T', e, f, h1, h2⟩ := m_begin_l (N := N) d n (k + 1) (zx_st T 5 (upd (T 5) k (nI 0))) (by omega) (by omega)
    refine ⟨T', ?_, zfr_trans (zfr_st (by simp) zfr_refl) f, fun j a b => ?_, fun j a => ?_⟩
    · rw [f_X1_beginCall_l2]
      simp (disch := omega) only [↓zlm1, ↓zlm2, zi_e1, zi_e2, zi_1e, zi_12, zi_21, zi_1n, zi_n1, if_true, if_false, eq_self, not_false_eq_true, not_true_eq_false, nI_add, zi_4m, zi_5m, zi_8m, zi_mul4, zi_mul5, zi_sub, nI_leI, nI_ltI, nI_eq, zl0, zl1, zl2, zl3, zl4, zl5, zl6, zl8, zl9, zl24, zl32, zl48, zl49, zl99, zl100, zl120, zl376, zl377, zl378, zl379, zl380, ↓zi_192, zi_dec, Nat.add_zero, Nat.zero_add, m_n, m_b1, m_b2, m_rd, m_wr, m_get, m_put, nI_clamp, st_at, st_ne, up_at, up_ne, if_pos, if_neg]
      exact e
    · by_cases c : j = k
      · rw [c, h2 k (by omega), st_at, up_at]
      · exact h1 j (by omega) b
    · rw [h2 j (by omega), st_at, up_ne (by omega)]
/-- both are one well made tree, between two calls -/
def zQ (w : Nat) (T S : zx_S) (t : ZT) : Prop := zcx T t [] ∧ zref (S w) t ∧ zwf t [] 99 99 ∧ zcbx T t ∧ zcnt T (S w)
theorem zQ_PI {w : Nat} {T S : zx_S} {t : ZT} {m : Nat} (h : zPI w T S t [] 99 m) : zQ w T S t := ⟨h.1, h.2.1, h.2.2.1, h.2.2.2.1, h.2.2.2.2.2⟩
theorem zQ_cg {w : Nat} {T T' S S' : zx_S} {t : ZT} (h : zQ w T S t) (h0 : T' 0 = T 0) (h1 : T' 1 = T 1) (h2 : T' 2 = T 2) (h3 : T' 3 = T 3) (h4 : T' 4 = T 4) (h10 : T' 10 = T 10) (hS : S' w = S w) : zQ w T' S' t := by
  obtain ⟨a1, a2, a3, a4, a5⟩ := h
  refine ⟨zcx_keep a1 h1 h2 h3 h4 (by rw [h10]), by rw [hS]; exact a2, a3, ?_, ?_⟩
  · unfold zcbx; rw [h0]; exact a4
  · unfold zcnt; rw [h10, hS]; exact a5
theorem z_begin {N w : Nat} (hN : 100 < N) {T S : zx_S} {t : ZT} (h : zQ w T S t) (hw : w ≠ 12) :
    ∃ T', f_X1_beginCall N T = some T' ∧ zfr [5] T T' ∧ zPI w T' (zx_st S 12 (upd (S 12) 3 0)) t [] 99 0 := by
  obtain ⟨T', e, f, h1, _⟩ := m_begin_l (N := N) 8 N 0 T (by omega) (by omega)
  obtain ⟨a1, a2, a3, a4, a5⟩ := zQ_cg (T' := T') (S' := zx_st S 12 (upd (S 12) 3 0)) h (f 0 (by decide)) (f 1 (by decide)) (f 2 (by decide)) (f 3 (by decide)) (f 4 (by decide)) (f 10 (by decide)) (st_ne hw)
  refine ⟨T', ?_, f, a1, a2, a3, a4, ⟨by omega, ?_, fun j hj => ?_⟩, a5⟩
  · unfold f_X1_beginCall; rw [zl0]; exact e
  · rw [st_at, up_at]; rfl
  · rw [h1 j (Nat.zero_le j) hj, Nat.zero_testBit]; rfl
/-- which rectangles there are -/
theorem z_pr2 {T : zx_S} {t : ZT} (hT : zcx T t []) (hw : zwf t [] 99 99) {i : Nat} (hi : i < 24) : (zpr t i = true → ∃ s, s < 24 ∧ i ∈ zes t s ∧ T 2 i = nI (24 + s)) ∧ (zpr t i = false → T 2 i = zM1) := by
  refine ⟨fun h => ?_, fun h => ?_⟩
  · rcases (hw.2.2.1 i).mpr (Or.inl ⟨hi, h⟩) with z | ⟨s, hs⟩
    · cases z
    · have hs24 : s < 24 := by
        rcases Nat.lt_or_ge s 24 with z | z
        · exact z
        · rw [hw.2.2.2.2.1 s (hw.2.2.2.2.2.1 s z)] at hs; cases hs
      exact ⟨s, hs24, hs, hT.2.2.2.2.1 s i hs24 hs⟩
  · refine hT.2.2.2.2.2.1 i (by omega) (by simp) fun s _ hs => ?_
    rcases (hw.2.2.1 i).mp (Or.inr ⟨s, hs⟩) with z | z
    · rw [h] at z; exact absurd z.2 (by decide)
    · omega
theorem zi_24 {x : Int32} : (24 : Int32) ≤ x ↔ 24 ≤ x.toInt := by rw [Int32.le_iff_toInt_le]; rfl
theorem z_has {N w : Nat} {T S : zx_S} {t : ZT} (h : zQ w T S t) (p : Int32) :
    (∃ i, i < 24 ∧ p = nI i ∧ zpr t i = true ∧ f_X1_hasRectangle N p T = some (nI 1) ∧ f_X3_isThere N 380 p (S w) = some (nI 1)) ∨ ((∀ i, i < 24 → p = nI i → zpr t i = false) ∧ f_X1_hasRectangle N p T = some (nI 0) ∧ f_X3_isThere N 380 p (S w) = some (nI 0)) := by
  obtain ⟨hT, hr, hw, _, _⟩ := h
  have hin := m_in (N := N) (x := p) (lo := 0) (hi := 23) (a := 0) (b := 23) (by decide) (by decide)
  by_cases c : ∃ j, j < 24 ∧ p = nI j
  · obtain ⟨j, hj, rfl⟩ := c
    rw [nI_toInt (by omega), if_pos (by omega)] at hin
    obtain ⟨q1, q2⟩ := z_pr2 hT hw hj
    have hr1 := hr.1 j hj
    rcases hb : zpr t j with _ | _
    · refine Or.inr ⟨fun i hi e => ?_, ?_, ?_⟩
      · have := (nI_eq (by omega) (by omega)).mp e
        rw [← this, hb]
      · unfold f_X1_hasRectangle
        rw [if_neg (nI_pos (by omega))]
        simp (disch := omega) only [↓zlm1, ↓zlm2, zi_e1, zi_e2, zi_1e, zi_12, zi_21, zi_1n, zi_n1, if_true, if_false, eq_self, not_false_eq_true, not_true_eq_false, nI_add, zi_4m, zi_5m, zi_8m, zi_mul4, zi_mul5, zi_sub, nI_leI, nI_ltI, nI_eq, zl0, zl1, zl2, zl3, zl4, zl5, zl6, zl8, zl9, zl24, zl32, zl48, zl49, zl99, zl100, zl120, zl376, zl377, zl378, zl379, zl380, ↓zi_192, zi_dec, Nat.add_zero, Nat.zero_add, m_n, m_b1, m_b2, m_rd, m_wr, m_get, m_put, nI_clamp, st_at, st_ne, up_at, up_ne, if_pos, if_neg, q2 hb]
      · rw [hb, if_neg (by decide), zl0] at hr1
        unfold f_X3_isThere
        rw [hin]
        simp (disch := omega) only [↓zlm1, ↓zlm2, zi_e1, zi_e2, zi_1e, zi_12, zi_21, zi_1n, zi_n1, if_true, if_false, eq_self, not_false_eq_true, not_true_eq_false, nI_add, zi_4m, zi_5m, zi_8m, zi_mul4, zi_mul5, zi_sub, nI_leI, nI_ltI, nI_eq, zl0, zl1, zl2, zl3, zl4, zl5, zl6, zl8, zl9, zl24, zl32, zl48, zl49, zl99, zl100, zl120, zl376, zl377, zl378, zl379, zl380, ↓zi_192, zi_dec, Nat.add_zero, Nat.zero_add, m_n, m_b1, m_b2, m_rd, m_wr, m_get, m_put, nI_clamp, st_at, st_ne, up_at, up_ne, if_pos, if_neg, hr1]
    · refine Or.inl ⟨j, hj, rfl, hb, ?_, ?_⟩
      · obtain ⟨s, hs, _, h2⟩ := q1 hb
        unfold f_X1_hasRectangle
        rw [if_neg (nI_pos (by omega))]
        simp (disch := omega) only [↓zlm1, ↓zlm2, zi_e1, zi_e2, zi_1e, zi_12, zi_21, zi_1n, zi_n1, if_true, if_false, eq_self, not_false_eq_true, not_true_eq_false, nI_add, zi_4m, zi_5m, zi_8m, zi_mul4, zi_mul5, zi_sub, nI_leI, nI_ltI, nI_eq, zl0, zl1, zl2, zl3, zl4, zl5, zl6, zl8, zl9, zl24, zl32, zl48, zl49, zl99, zl100, zl120, zl376, zl377, zl378, zl379, zl380, ↓zi_192, zi_dec, Nat.add_zero, Nat.zero_add, m_n, m_b1, m_b2, m_rd, m_wr, m_get, m_put, nI_clamp, st_at, st_ne, up_at, up_ne, if_pos, if_neg, h2]
      · rw [hb, if_pos rfl, zl1] at hr1
        unfold f_X3_isThere
        rw [hin]
        simp (disch := omega) only [↓zlm1, ↓zlm2, zi_e1, zi_e2, zi_1e, zi_12, zi_21, zi_1n, zi_n1, if_true, if_false, eq_self, not_false_eq_true, not_true_eq_false, nI_add, zi_4m, zi_5m, zi_8m, zi_mul4, zi_mul5, zi_sub, nI_leI, nI_ltI, nI_eq, zl0, zl1, zl2, zl3, zl4, zl5, zl6, zl8, zl9, zl24, zl32, zl48, zl49, zl99, zl100, zl120, zl376, zl377, zl378, zl379, zl380, ↓zi_192, zi_dec, Nat.add_zero, Nat.zero_add, m_n, m_b1, m_b2, m_rd, m_wr, m_get, m_put, nI_clamp, st_at, st_ne, up_at, up_ne, if_pos, if_neg, hr1]
  · refine Or.inr ⟨fun i hi e => absurd ⟨i, hi, e⟩ c, ?_, ?_⟩
    · rcases zi_cases p 24 (by omega) with z | z | z
      · exact absurd z c
      · unfold f_X1_hasRectangle; rw [if_pos (zi_lt0.mpr z)]; rfl
      · unfold f_X1_hasRectangle
        rw [if_neg (by rw [zi_lt0]; omega), if_pos (zi_24.mpr (by omega))]; rfl
    · rw [if_neg (by
        rcases zi_cases p 24 (by omega) with z | z | z
        · exact absurd z c
        · omega
        · omega)] at hin
      unfold f_X3_isThere
      rw [hin]
      rfl
/-- how many rectangles there are -/
def zct (t : ZT) : Nat → Nat
  | 0 => 0
  | k + 1 => zct t k + (if zpr t k = true then 1 else 0)
theorem zct_le {t : ZT} : ∀ k, zct t k ≤ k
  | 0 => Nat.le_refl _
  | k + 1 => by
    have := zct_le (t := t) k
    rw [zct]
    split <;> omega
theorem zct_full {t : ZT} : ∀ k, zct t k = k → ∀ j, j < k → zpr t j = true
  | 0, _, j, hj => absurd hj (Nat.not_lt_zero j)
  | k + 1, h, j, hj => by
    have := zct_le (t := t) k
    rw [zct] at h
    by_cases c : zpr t k = true
    · rw [if_pos c] at h
      by_cases e : j = k
      · rw [e]; exact c
      · exact zct_full k (by omega) j (by omega)
    · rw [if_neg c] at h; omega
theorem zct_free {t : ZT} : ∀ k, zct t k < k → ∃ i, i < k ∧ zpr t i = false ∧ ∀ j, j < i → zpr t j = true
  | 0, h => absurd h (Nat.not_lt_zero _)
  | k + 1, h => by
    by_cases c : zct t k < k
    · obtain ⟨i, h1, h2, h3⟩ := zct_free k c
      exact ⟨i, by omega, h2, h3⟩
    · have h1 := zct_le (t := t) k
      have h2 : zct t k = k := by omega
      refine ⟨k, by omega, ?_, zct_full k h2⟩
      rw [zct, h2] at h
      by_cases e : zpr t k = true
      · rw [if_pos e] at h; omega
      · exact Bool.eq_false_iff.mpr e
theorem zct_cg {t t' : ZT} (h : zpr t' = zpr t) : ∀ k, zct t' k = zct t k
  | 0 => rfl
  | k + 1 => by rw [zct, zct, zct_cg h k, h]
theorem zct_add {t t' : ZT} {i : Nat} (h : ∀ j, zpr t' j = if j = i then true else zpr t j) (hi : zpr t i = false) : ∀ k, zct t' k = zct t k + if i < k then 1 else 0
  | 0 => rfl
  | k + 1 => by
    rw [zct, zct, zct_add h hi k, h]
    by_cases c : k = i
    · subst c
      rw [hi, if_pos rfl, if_pos rfl, if_neg (Nat.lt_irrefl k), if_pos (Nat.lt_succ_self k)]
      simp
    · rw [if_neg c]
      by_cases c2 : i < k
      · rw [if_pos c2, if_pos (show i < k + 1 by omega)]; omega
      · rw [if_neg c2, if_neg (show ¬ i < k + 1 by omega)]; omega
theorem m_count_l {N : Nat} {T : zx_S} {t : ZT} (hT : zcx T t []) (hw : zwf t [] 99 99) : ∀ (d n k : Nat), d < n → k + d = 24 → f_X1_countRectangles_l4 N T n (nI (zct t k)) (nI k) = some (nI (zct t 24))
  | 0, n + 1, k, hn, hk => by
    obtain rfl : k = 24 := by omega
    rw [f_X1_countRectangles_l4]
    simp (disch := omega) only [↓zlm1, ↓zlm2, zi_e1, zi_e2, zi_1e, zi_12, zi_21, zi_1n, zi_n1, if_true, if_false, eq_self, not_false_eq_true, not_true_eq_false, nI_add, zi_4m, zi_5m, zi_8m, zi_mul4, zi_mul5, zi_sub, nI_leI, nI_ltI, nI_eq, zl0, zl1, zl2, zl3, zl4, zl5, zl6, zl8, zl9, zl24, zl32, zl48, zl49, zl99, zl100, zl120, zl376, zl377, zl378, zl379, zl380, ↓zi_192, zi_dec, Nat.add_zero, Nat.zero_add, m_n, m_b1, m_b2, m_rd, m_wr, m_get, m_put, nI_clamp, st_at, st_ne, up_at, up_ne, if_pos, if_neg]
  | d + 1, n + 1, k, hn, hk => by
    have ih := m_count_l (N := N) hT hw d n (k + 1) (by omega) (by omega)
    obtain ⟨q1, q2⟩ := z_pr2 hT hw (i := k) (by omega)
    rw [f_X1_countRectangles_l4]
    unfold f_X1_countRectangles_j25
    rw [zct] at ih
    rcases hb : zpr t k with _ | _
    · rw [hb, if_neg (by decide), Nat.add_zero] at ih
      simp (disch := omega) only [↓zlm1, ↓zlm2, zi_e1, zi_e2, zi_1e, zi_12, zi_21, zi_1n, zi_n1, if_true, if_false, eq_self, not_false_eq_true, not_true_eq_false, nI_add, zi_4m, zi_5m, zi_8m, zi_mul4, zi_mul5, zi_sub, nI_leI, nI_ltI, nI_eq, zl0, zl1, zl2, zl3, zl4, zl5, zl6, zl8, zl9, zl24, zl32, zl48, zl49, zl99, zl100, zl120, zl376, zl377, zl378, zl379, zl380, ↓zi_192, zi_dec, Nat.add_zero, Nat.zero_add, m_n, m_b1, m_b2, m_rd, m_wr, m_get, m_put, nI_clamp, st_at, st_ne, up_at, up_ne, if_pos, if_neg, q2 hb]
      exact ih
    · obtain ⟨s, hs, _, h2⟩ := q1 hb
      rw [hb, if_pos rfl] at ih
      simp (disch := omega) only [↓zlm1, ↓zlm2, zi_e1, zi_e2, zi_1e, zi_12, zi_21, zi_1n, zi_n1, if_true, if_false, eq_self, not_false_eq_true, not_true_eq_false, nI_add, zi_4m, zi_5m, zi_8m, zi_mul4, zi_mul5, zi_sub, nI_leI, nI_ltI, nI_eq, zl0, zl1, zl2, zl3, zl4, zl5, zl6, zl8, zl9, zl24, zl32, zl48, zl49, zl99, zl100, zl120, zl376, zl377, zl378, zl379, zl380, ↓zi_192, zi_dec, Nat.add_zero, Nat.zero_add, m_n, m_b1, m_b2, m_rd, m_wr, m_get, m_put, nI_clamp, st_at, st_ne, up_at, up_ne, if_pos, if_neg, h2]
      exact ih
theorem d_count_l {N : Nat} {r : Nat → Int32} {t : ZT} (hr : zref r t) : ∀ (d n k : Nat), d < n → k + d = 24 → f_X3_count_l4 N 380 r n (nI (zct t k)) (nI k) = some (nI (zct t 24))
  | 0, n + 1, k, hn, hk => by
    obtain rfl : k = 24 := by omega
    rw [f_X3_count_l4]
    simp (disch := omega) only [↓zlm1, ↓zlm2, zi_e1, zi_e2, zi_1e, zi_12, zi_21, zi_1n, zi_n1, if_true, if_false, eq_self, not_false_eq_true, not_true_eq_false, nI_add, zi_4m, zi_5m, zi_8m, zi_mul4, zi_mul5, zi_sub, nI_leI, nI_ltI, nI_eq, zl0, zl1, zl2, zl3, zl4, zl5, zl6, zl8, zl9, zl24, zl32, zl48, zl49, zl99, zl100, zl120, zl376, zl377, zl378, zl379, zl380, ↓zi_192, zi_dec, Nat.add_zero, Nat.zero_add, m_n, m_b1, m_b2, m_rd, m_wr, m_get, m_put, nI_clamp, st_at, st_ne, up_at, up_ne, if_pos, if_neg]
  | d + 1, n + 1, k, hn, hk => by
    have ih := d_count_l (N := N) hr d n (k + 1) (by omega) (by omega)
    have h1 := hr.1 k (by omega)
    rw [f_X3_count_l4]
    rw [zct] at ih
    rcases hb : zpr t k with _ | _
    · rw [hb, if_neg (by decide), Nat.add_zero] at ih
      rw [hb, if_neg (by decide), zl0] at h1
      simp (disch := omega) only [↓zlm1, ↓zlm2, zi_e1, zi_e2, zi_1e, zi_12, zi_21, zi_1n, zi_n1, if_true, if_false, eq_self, not_false_eq_true, not_true_eq_false, nI_add, zi_4m, zi_5m, zi_8m, zi_mul4, zi_mul5, zi_sub, nI_leI, nI_ltI, nI_eq, zl0, zl1, zl2, zl3, zl4, zl5, zl6, zl8, zl9, zl24, zl32, zl48, zl49, zl99, zl100, zl120, zl376, zl377, zl378, zl379, zl380, ↓zi_192, zi_dec, Nat.add_zero, Nat.zero_add, m_n, m_b1, m_b2, m_rd, m_wr, m_get, m_put, nI_clamp, st_at, st_ne, up_at, up_ne, if_pos, if_neg, h1]
      exact ih
    · rw [hb, if_pos rfl] at ih
      rw [hb, if_pos rfl, zl1] at h1
      simp (disch := omega) only [↓zlm1, ↓zlm2, zi_e1, zi_e2, zi_1e, zi_12, zi_21, zi_1n, zi_n1, if_true, if_false, eq_self, not_false_eq_true, not_true_eq_false, nI_add, zi_4m, zi_5m, zi_8m, zi_mul4, zi_mul5, zi_sub, nI_leI, nI_ltI, nI_eq, zl0, zl1, zl2, zl3, zl4, zl5, zl6, zl8, zl9, zl24, zl32, zl48, zl49, zl99, zl100, zl120, zl376, zl377, zl378, zl379, zl380, ↓zi_192, zi_dec, Nat.add_zero, Nat.zero_add, m_n, m_b1, m_b2, m_rd, m_wr, m_get, m_put, nI_clamp, st_at, st_ne, up_at, up_ne, if_pos, if_neg, h1]
      exact ih
theorem z_count {N w : Nat} (hN : 100 < N) {T S : zx_S} {t : ZT} (h : zQ w T S t) : f_X1_countRectangles N T = some (nI (zct t 24)) ∧ f_X3_count N 380 (S w) = some (nI (zct t 24)) := by
  unfold f_X1_countRectangles f_X3_count
  rw [zl0]
  exact ⟨m_count_l h.1 h.2.2.1 24 N 0 (by omega) (by omega), d_count_l h.2.1 24 N 0 (by omega) (by omega)⟩
theorem m_low_l {N : Nat} {T : zx_S} {t : ZT} (hT : zcx T t []) (hw : zwf t [] 99 99) {i : Nat} (hi : i < 24) (hp : zpr t i = false) (hj : ∀ j, j < i → zpr t j = true) : ∀ (d n k : Nat), d < n → k + d = i → f_X1_lowestFreeNumber_l2 N T n (nI k) = some (nI i)
  | 0, n + 1, k, hn, hk => by
    obtain rfl : k = i := by omega
    rw [f_X1_lowestFreeNumber_l2]
    simp (disch := omega) only [↓zlm1, ↓zlm2, zi_e1, zi_e2, zi_1e, zi_12, zi_21, zi_1n, zi_n1, if_true, if_false, eq_self, not_false_eq_true, not_true_eq_false, nI_add, zi_4m, zi_5m, zi_8m, zi_mul4, zi_mul5, zi_sub, nI_leI, nI_ltI, nI_eq, zl0, zl1, zl2, zl3, zl4, zl5, zl6, zl8, zl9, zl24, zl32, zl48, zl49, zl99, zl100, zl120, zl376, zl377, zl378, zl379, zl380, ↓zi_192, zi_dec, Nat.add_zero, Nat.zero_add, m_n, m_b1, m_b2, m_rd, m_wr, m_get, m_put, nI_clamp, st_at, st_ne, up_at, up_ne, if_pos, if_neg, (z_pr2 hT hw hi).2 hp]
  | d + 1, n + 1, k, hn, hk => by
    have ih := m_low_l (N := N) hT hw hi hp hj d n (k + 1) (by omega) (by omega)
    obtain ⟨s, hs, _, h2⟩ := (z_pr2 hT hw (i := k) (by omega)).1 (hj k (by omega))
    rw [f_X1_lowestFreeNumber_l2]
    simp (disch := omega) only [↓zlm1, ↓zlm2, zi_e1, zi_e2, zi_1e, zi_12, zi_21, zi_1n, zi_n1, if_true, if_false, eq_self, not_false_eq_true, not_true_eq_false, nI_add, zi_4m, zi_5m, zi_8m, zi_mul4, zi_mul5, zi_sub, nI_leI, nI_ltI, nI_eq, zl0, zl1, zl2, zl3, zl4, zl5, zl6, zl8, zl9, zl24, zl32, zl48, zl49, zl99, zl100, zl120, zl376, zl377, zl378, zl379, zl380, ↓zi_192, zi_dec, Nat.add_zero, Nat.zero_add, m_n, m_b1, m_b2, m_rd, m_wr, m_get, m_put, nI_clamp, st_at, st_ne, up_at, up_ne, if_pos, if_neg, h2]
    exact ih
theorem m_low {N : Nat} (hN : 100 < N) {T : zx_S} {t : ZT} (hT : zcx T t []) (hw : zwf t [] 99 99) {i : Nat} (hi : i < 24) (hp : zpr t i = false) (hj : ∀ j, j < i → zpr t j = true) : f_X1_lowestFreeNumber N T = some (nI i) := by
  unfold f_X1_lowestFreeNumber
  rw [zl0]
  exact m_low_l hT hw hi hp hj i N 0 (by omega) (by omega)
/-- a rectangle's corners are laid -/
def zrk (a b c d : Int32) : Nat → Int32 := fun k => if k = 0 then a else if k = 1 then b else if k = 2 then c else d
theorem m_setBox {N : Nat} {T : zx_S} {i : Nat} {a b c d : Int32} (hi : i < 49) : ∃ T', f_X1_setBox N (nI i) a b c d T = some T' ∧ zfr [0] T T' ∧ (∀ k, k < 4 → T' 0 (4 * i + k) = zrk a b c d k) ∧ ∀ j, (j < 4 * i ∨ 4 * i + 4 ≤ j) → T' 0 j = T 0 j := by
  obtain ⟨g, eg⟩ : ∃ g, g = upd (upd (upd (upd (T 0) (4 * i) a) (4 * i + 1) b) (4 * i + 2) c) (4 * i + 3) d := ⟨_, rfl⟩
  refine ⟨zx_st (zx_st (zx_st (zx_st T 0 (upd (T 0) (4 * i) a)) 0 (upd (upd (T 0) (4 * i) a) (4 * i + 1) b)) 0 (upd (upd (upd (T 0) (4 * i) a) (4 * i + 1) b) (4 * i + 2) c)) 0 g, ?_, zfr_st (by simp) (zfr_st (by simp) (zfr_st (by simp) (zfr_st (by simp) zfr_refl))), fun k hk => ?_, fun j hj => ?_⟩
  · unfold f_X1_setBox
    simp (disch := omega) only [↓zlm1, ↓zlm2, zi_e1, zi_e2, zi_1e, zi_12, zi_21, zi_1n, zi_n1, if_true, if_false, eq_self, not_false_eq_true, not_true_eq_false, nI_add, zi_4m, zi_5m, zi_8m, zi_mul4, zi_mul5, zi_sub, nI_leI, nI_ltI, nI_eq, zl0, zl1, zl2, zl3, zl4, zl5, zl6, zl8, zl9, zl24, zl32, zl48, zl49, zl99, zl100, zl120, zl376, zl377, zl378, zl379, zl380, ↓zi_192, zi_dec, Nat.add_zero, Nat.zero_add, m_n, m_b1, m_b2, m_rd, m_wr, m_get, m_put, nI_clamp, st_at, st_ne, up_at, up_ne, if_pos, if_neg]
    rw [eg]
  · rw [st_at, eg]
    unfold zrk
    rcases (show k = 0 ∨ k = 1 ∨ k = 2 ∨ k = 3 by omega) with rfl | rfl | rfl | rfl
    · rw [up_ne (by omega), up_ne (by omega), up_ne (by omega), show 4 * i + 0 = 4 * i from rfl, up_at, if_pos rfl]
    · rw [up_ne (by omega), up_ne (by omega), up_at, if_neg (by decide), if_pos rfl]
    · rw [up_ne (by omega), up_at, if_neg (by decide), if_neg (by decide), if_pos rfl]
    · rw [up_at, if_neg (by decide), if_neg (by decide), if_neg (by decide)]
  · rw [st_at, eg, up_ne (by omega), up_ne (by omega), up_ne (by omega), up_ne (by omega)]
theorem r_layR {N : Nat} {r : Nat → Int32} {i : Nat} {a b c d : Int32} (hi : i < 24) : ∃ r', f_X3_layRectangle N 380 (nI i) a b c d r = some r' ∧ r' (5 * i) = nI 1 ∧ (∀ k, k < 4 → r' (5 * i + 1 + k) = zrk a b c d k) ∧ ∀ j, (j < 5 * i ∨ 5 * i + 5 ≤ j) → r' j = r j := by
  obtain ⟨g, eg⟩ : ∃ g, g = upd (upd (upd (upd (upd r (5 * i) (nI 1)) (5 * i + 1) a) (5 * i + 2) b) (5 * i + 3) c) (5 * i + 4) d := ⟨_, rfl⟩
  refine ⟨g, ?_, ?_, fun k hk => ?_, fun j hj => ?_⟩
  · unfold f_X3_layRectangle
    simp (disch := omega) only [↓zlm1, ↓zlm2, zi_e1, zi_e2, zi_1e, zi_12, zi_21, zi_1n, zi_n1, if_true, if_false, eq_self, not_false_eq_true, not_true_eq_false, nI_add, zi_4m, zi_5m, zi_8m, zi_mul4, zi_mul5, zi_sub, nI_leI, nI_ltI, nI_eq, zl0, zl1, zl2, zl3, zl4, zl5, zl6, zl8, zl9, zl24, zl32, zl48, zl49, zl99, zl100, zl120, zl376, zl377, zl378, zl379, zl380, ↓zi_192, zi_dec, Nat.add_zero, Nat.zero_add, m_n, m_b1, m_b2, m_rd, m_wr, m_get, m_put, nI_clamp, st_at, st_ne, up_at, up_ne, if_pos, if_neg]
    rw [eg]
  · rw [eg, up_ne (by omega), up_ne (by omega), up_ne (by omega), up_ne (by omega), up_at]
  · rw [eg]
    unfold zrk
    rcases (show k = 0 ∨ k = 1 ∨ k = 2 ∨ k = 3 by omega) with rfl | rfl | rfl | rfl
    · rw [Nat.add_zero, up_ne (by omega), up_ne (by omega), up_ne (by omega), up_at, if_pos rfl]
    · rw [up_ne (by omega), up_ne (by omega), up_at, if_neg (by decide), if_pos rfl]
    · rw [up_ne (by omega), up_at, if_neg (by decide), if_neg (by decide), if_pos rfl]
    · rw [up_at, if_neg (by decide), if_neg (by decide), if_neg (by decide)]
  · rw [eg, up_ne (by omega), up_ne (by omega), up_ne (by omega), up_ne (by omega), up_ne (by omega)]
/-- corners that lie in the field -/
def zbk (a b c d : Int32) : Prop := 0 ≤ a.toInt ∧ a.toInt ≤ c.toInt ∧ c.toInt ≤ 99 ∧ 0 ≤ b.toInt ∧ b.toInt ≤ d.toInt ∧ d.toInt ≤ 99
theorem z_lay {N w : Nat} (hw12 : w ≠ 12) {T S : zx_S} {t : ZT} {lo : List Nat} {i m : Nat} {a b c d : Int32} (hi : i < 24) (hP : zPI w T S t lo 99 m) (h : (lo = [] ∧ zpr t i = false) ∨ lo = [i]) (hb : zbk a b c d) :
    ∃ T' r', f_X1_setBox N (nI i) a b c d T = some T' ∧ f_X3_layRectangle N 380 (nI i) a b c d (S w) = some r' ∧ zPI w T' (zx_st S w r') (zC (zP t i true) i (zrk a b c d)) [i] 99 m ∧ zfr [0] T T' := by
  obtain ⟨hT, hr, hwf, ⟨hrb, hLC⟩, hfl, hcnt⟩ := hP
  obtain ⟨T', e1, f1, k1, o1⟩ := m_setBox (N := N) (T := T) (i := i) (a := a) (b := b) (c := c) (d := d) (by omega)
  obtain ⟨r', e2, g1, k2, o2⟩ := r_layR (N := N) (r := S w) (a := a) (b := b) (c := c) (d := d) hi
  have hns : ∀ s, i ∉ zes t s := by
    intro s hs
    rcases h with ⟨h1, h2⟩ | h1
    · rcases (hwf.2.2.1 i).mp (Or.inr ⟨s, hs⟩) with z | z
      · rw [h2] at z; exact absurd z.2 (by decide)
      · omega
    · exact hwf.2.1.2 i (by rw [h1]; simp) s hs
  refine ⟨T', r', e1, e2, ⟨zcx_keep hT (f1 1 (by decide)) (f1 2 (by decide)) (f1 3 (by decide)) (f1 4 (by decide)) (by rw [f1 10 (by decide)]), ?_, ?_, ⟨?_, ?_⟩, ?_, ?_⟩, f1⟩
  · rw [st_at]
    have hes : ∀ s, s < 32 → (zes t s).length ≤ 6 := fun s _ => by have := (hwf.2.2.2.2.2.2.2.2.2.1 s).1; omega
    refine ⟨fun j hj => ?_, fun j k hj hk hp => ?_, fun s hs => ?_, fun s hs => ?_, fun s hs => ?_, ?_⟩
    · rw [zC_pr, zP_pr]
      by_cases e : j = i
      · rw [e, g1, if_pos rfl, if_pos rfl]; rfl
      · rw [if_neg e, o2 _ (by omega)]; exact hr.1 j hj
    · rw [zC_pr, zP_pr] at hp
      rw [zC_rc]
      by_cases e : j = i
      · rw [e, if_pos rfl]; exact k2 k hk
      · rw [if_neg e] at hp
        rw [if_neg e, o2 _ (by omega)]; exact hr.2.1 j k hj hk hp
    · rw [o2 _ (by omega)]; exact hr.2.2.1 s hs
    · rw [o2 _ (by omega)]; exact hr.2.2.2.1 s hs
    · refine zat_congr (fun j h1 h2 => o2 j ?_) (hr.2.2.2.2.1 s hs)
      omega
    · rw [o2 _ (by omega)]; exact hr.2.2.2.2.2
  · refine ⟨hwf.1, ⟨by simp, fun x hx s => ?_⟩, fun x => ?_, hwf.2.2.2.1, hwf.2.2.2.2.1, hwf.2.2.2.2.2.1, hwf.2.2.2.2.2.2.1, hwf.2.2.2.2.2.2.2.1, hwf.2.2.2.2.2.2.2.2.1, hwf.2.2.2.2.2.2.2.2.2.1, hwf.2.2.2.2.2.2.2.2.2.2.1, fun x hx hp => ?_⟩
    · have : x = i := by simpa using hx
      rw [this]; exact hns s
    · show (x ∈ [i] ∨ ∃ s, x ∈ zes t s) ↔ (x < 24 ∧ (if x = i then true else zpr t x) = true) ∨ (24 ≤ x ∧ x < 48 ∧ zlv t (x - 24) ≠ 0 ∧ x - 24 ≠ zrt t)
      by_cases e : x = i
      · rw [e, if_pos rfl]
        exact ⟨fun _ => Or.inl ⟨hi, rfl⟩, fun _ => Or.inl (by simp)⟩
      · rw [if_neg e, ← hwf.2.2.1 x]
        have hnl : x ∉ lo := by
          rcases h with ⟨h1, _⟩ | h1
          · rw [h1]; simp
          · rw [h1]; simpa using e
        have hn2 : x ∉ [i] := by simpa using e
        exact ⟨fun z => Or.inr (z.resolve_left hn2), fun z => Or.inr (z.resolve_left hnl)⟩
    · rw [zC_pr, zP_pr] at hp
      rw [zC_rc]
      by_cases e : x = i
      · rw [if_pos e]; exact hb
      · rw [if_neg e] at hp
        rw [if_neg e]; exact zwf_cr hwf x hx hp
  · intro j k hj hk hp
    rw [zC_pr, zP_pr] at hp
    rw [zC_rc]
    by_cases e : j = i
    · rw [e, if_pos rfl]; exact k1 k hk
    · rw [if_neg e] at hp
      rw [if_neg e, o1 _ (by omega)]; exact hrb j k hj hk hp
  · intro s hs
    refine zLC_ext (hLC s hs) rfl (fun k hk => o1 _ (by omega)) (fun x hx k hk => o1 _ ?_)
    have hne : x ≠ i := fun e => hns s (e ▸ hx)
    omega
  · exact ⟨hfl.1, by rw [st_ne (Ne.symm hw12)]; exact hfl.2.1, fun j hj => by rw [f1 5 (by decide)]; exact hfl.2.2 j hj⟩
  · unfold zcnt
    rw [st_at, f1 10 (by decide), o2 377 (by omega), o2 378 (by omega), o2 379 (by omega)]
    exact hcnt
theorem z_put1 {N w : Nat} (hN : 100 < N) (hw : w ≠ 6) (hw7 : w ≠ 7) (hw12 : w ≠ 12) {T S : zx_S} {t : ZT} {i m : Nat} (hi : i < 24) (hP : zPI w T S t [i] 99 m) :
    ∃ T' S' t' m', f_X1_putIn N (nI i) T = some T' ∧ f_X3_putIn N w (nI i) (nI 0) S = some S' ∧ zPI w T' S' t' [] 99 m' ∧ zkp t t' ∧ zfr [0, 1, 2, 3, 4, 5, 7, 10] T T' ∧ zfr [w, 6, 7, 12] S S' ∧ zf12 S S' := by
  obtain ⟨S1, eS1⟩ : ∃ S1, S1 = zx_st (zx_st S 12 (upd (S 12) 4 (nI i))) 12 (upd (upd (S 12) 4 (nI i)) 5 (nI 0)) := ⟨_, rfl⟩
  have h12 : S1 12 = upd (upd (S 12) 4 (nI i)) 5 (nI 0) := by rw [eS1, st_at]
  have hSw : ∀ j, j ≠ 12 → S1 j = S j := fun j hj => by rw [eS1, st_ne hj, st_ne hj]
  obtain ⟨hT, hr, hwf, hbx, hfl, hcnt⟩ := hP
  have hm := zun_6 m hfl.1
  obtain ⟨T', S', t', m', a1, a2, a3, a4, a5, a6, a7⟩ := z_putIn (N := N) (w := w) hN hw hw7 hw12 6 N N 0 T S1 t [] i m (by omega) (by omega) hm (by omega) ⟨hT, by rw [hSw w hw12]; exact hr, hwf, hbx, ⟨hfl.1, by rw [h12, up_ne (by decide), up_ne (by decide)]; exact hfl.2.1, hfl.2.2⟩, by rw [hSw w hw12]; exact hcnt⟩ (by rw [h12, up_ne (by decide), up_at]) (by
    rw [h12, up_at]
    unfold zil
    rw [if_pos hi])
  refine ⟨T', S', t', m', ?_, ?_, a3, a4, a5, zfr_trans (T1 := S1) (fun j hj => hSw j (fun e => hj (by rw [e]; simp))) a6, zf12_trans ⟨fun j hj => ?_, fun j hj => ?_⟩ a7⟩
  · unfold f_X1_putIn
    rw [zl0]
    exact a1
  · unfold f_X3_putIn
    simp (disch := omega) only [↓zlm1, ↓zlm2, zi_e1, zi_e2, zi_1e, zi_12, zi_21, zi_1n, zi_n1, if_true, if_false, eq_self, not_false_eq_true, not_true_eq_false, nI_add, zi_4m, zi_5m, zi_8m, zi_mul4, zi_mul5, zi_sub, nI_leI, nI_ltI, nI_eq, zl0, zl1, zl2, zl3, zl4, zl5, zl6, zl8, zl9, zl24, zl32, zl48, zl49, zl99, zl100, zl120, zl376, zl377, zl378, zl379, zl380, ↓zi_192, zi_dec, Nat.add_zero, Nat.zero_add, m_n, m_b1, m_b2, m_rd, m_wr, m_get, m_put, nI_clamp, st_at, st_ne, up_at, up_ne, if_pos, if_neg]
    rw [← eS1]
    exact a2
  · rw [h12, up_ne (by omega), up_ne (by omega)]
  · rw [h12, up_ne (by omega), up_ne (by omega)]
/-- a rectangle is added -/
theorem d_addOn_l {N w : Nat} {S S' : zx_S} {t : ZT} {r' : Nat → Int32} {i : Nat} {a b c d : Int32} (hr : zref (S w) t) (hi : i < 24) (hp : zpr t i = false) (hj : ∀ j, j < i → zpr t j = true) (e1 : f_X3_layRectangle N 380 (nI i) a b c d (S w) = some r') (e2 : f_X3_putIn N w (nI i) (nI 0) (zx_st S w r') = some S') : ∀ (x n k : Nat), x < n → k + x = i → f_X3_addOn_l3 N w n a b c d (nI k) S = some (nI i, S')
  | 0, n + 1, k, hn, hk => by
    obtain rfl : k = i := by omega
    have h1 := hr.1 k hi
    rw [hp, if_neg (by decide), zl0] at h1
    rw [f_X3_addOn_l3]
    simp (disch := omega) only [↓zlm1, ↓zlm2, zi_e1, zi_e2, zi_1e, zi_12, zi_21, zi_1n, zi_n1, if_true, if_false, eq_self, not_false_eq_true, not_true_eq_false, nI_add, zi_4m, zi_5m, zi_8m, zi_mul4, zi_mul5, zi_sub, nI_leI, nI_ltI, nI_eq, zl0, zl1, zl2, zl3, zl4, zl5, zl6, zl8, zl9, zl24, zl32, zl48, zl49, zl99, zl100, zl120, zl376, zl377, zl378, zl379, zl380, ↓zi_192, zi_dec, Nat.add_zero, Nat.zero_add, m_n, m_b1, m_b2, m_rd, m_wr, m_get, m_put, nI_clamp, st_at, st_ne, up_at, up_ne, if_pos, if_neg, h1, e1, e2]
  | x + 1, n + 1, k, hn, hk => by
    have ih := d_addOn_l hr hi hp hj e1 e2 x n (k + 1) (by omega) (by omega)
    have h1 := hr.1 k (by omega)
    rw [hj k (by omega), if_pos rfl, zl1] at h1
    rw [f_X3_addOn_l3]
    simp (disch := omega) only [↓zlm1, ↓zlm2, zi_e1, zi_e2, zi_1e, zi_12, zi_21, zi_1n, zi_n1, if_true, if_false, eq_self, not_false_eq_true, not_true_eq_false, nI_add, zi_4m, zi_5m, zi_8m, zi_mul4, zi_mul5, zi_sub, nI_leI, nI_ltI, nI_eq, zl0, zl1, zl2, zl3, zl4, zl5, zl6, zl8, zl9, zl24, zl32, zl48, zl49, zl99, zl100, zl120, zl376, zl377, zl378, zl379, zl380, ↓zi_192, zi_dec, Nat.add_zero, Nat.zero_add, m_n, m_b1, m_b2, m_rd, m_wr, m_get, m_put, nI_clamp, st_at, st_ne, up_at, up_ne, if_pos, if_neg, h1]
    exact ih
theorem z_addOn {N w : Nat} (hN : 100 < N) (hw : w ≠ 6) (hw7 : w ≠ 7) (hw12 : w ≠ 12) {T S : zx_S} {t : ZT} {i m : Nat} {a b c d : Int32} (hi : i < 24) (hp : zpr t i = false) (hj : ∀ j, j < i → zpr t j = true) (hP : zPI w T S t [] 99 m) (hb : zbk a b c d) :
    ∃ T1 T' S' t' m', f_X1_setBox N (nI i) a b c d T = some T1 ∧ f_X1_putIn N (nI i) T1 = some T' ∧ f_X3_addOn N w a b c d S = some (nI i, S') ∧ zPI w T' S' t' [] 99 m' ∧ (∀ j, zpr t' j = if j = i then true else zpr t j) ∧ zfr [0, 1, 2, 3, 4, 5, 7, 10] T T' ∧ zfr [w, 6, 7, 12] S S' ∧ zf12 S S' := by
  obtain ⟨T1, r', e1, e2, h1, f1⟩ := z_lay (N := N) (w := w) hw12 hi hP (Or.inl ⟨rfl, hp⟩) hb
  obtain ⟨T', S', t', m', a1, a2, a3, a4, a5, a6, a7⟩ := z_put1 (N := N) (w := w) hN hw hw7 hw12 hi h1
  refine ⟨T1, T', S', t', m', e1, a1, ?_, a3, fun j => ?_, zfr_trans (zfr_sub f1 (by decide)) a5, zfr_trans (zfr_st (by simp) zfr_refl) a6, zf12_trans (zf12_eq (st_ne (Ne.symm hw12))) a7⟩
  · unfold f_X3_addOn
    rw [zl0]
    exact d_addOn_l hP.2.1 hi hp hj e2 a2 i N 0 (by omega) (by omega)
  · rw [a4.1]; rfl
/-- how many nodes there are -/
def znd (t : ZT) : Nat → Nat
  | 0 => 0
  | k + 1 => znd t k + (if zlv t k ≠ 0 then 1 else 0)
theorem znd_le {t : ZT} : ∀ k, znd t k ≤ k
  | 0 => Nat.le_refl _
  | k + 1 => by
    have := znd_le (t := t) k
    rw [znd]
    split <;> omega
theorem znd_range {t : ZT} : ∀ k, znd t k = ((List.range k).filter (fun s => decide (zlv t s ≠ 0))).length
  | 0 => rfl
  | k + 1 => by
    rw [znd, znd_range k, List.range_succ, List.filter_append, List.length_append]
    by_cases c : zlv t k = 0
    · rw [if_neg (by simpa using c), List.filter_cons_of_neg (by simpa using c)]; rfl
    · rw [if_pos c, List.filter_cons_of_pos (by simpa using c)]; rfl
theorem znd_more {t : ZT} (h : ∀ s, 24 ≤ s → zlv t s = 0) : ∀ k, znd t (24 + k) = znd t 24
  | 0 => rfl
  | k + 1 => by
    rw [← Nat.add_assoc, znd, znd_more h k, if_neg (by rw [h _ (by omega)]; simp), Nat.add_zero]
theorem znd_zlc {t : ZT} (h : ∀ s, 24 ≤ s → zlv t s = 0) : znd t 32 = (zlc t).length := by
  rw [show (32 : Nat) = 24 + 8 from rfl, znd_more h 8, znd_range]; rfl
theorem r_nodes_l {N : Nat} {r : Nat → Int32} {t : ZT} (hr : zref r t) (hlv : ∀ s, zlv t s ≤ 10) : ∀ (d n k : Nat), d < n → k + d = 32 → f_X3_nodes_l4 N 380 r n (nI (znd t k)) (nI k) = some (nI (znd t 32))
  | 0, n + 1, k, hn, hk => by
    obtain rfl : k = 32 := by omega
    rw [f_X3_nodes_l4]
    simp (disch := omega) only [↓zlm1, ↓zlm2, zi_e1, zi_e2, zi_1e, zi_12, zi_21, zi_1n, zi_n1, if_true, if_false, eq_self, not_false_eq_true, not_true_eq_false, nI_add, zi_4m, zi_5m, zi_8m, zi_mul4, zi_mul5, zi_sub, nI_leI, nI_ltI, nI_eq, zl0, zl1, zl2, zl3, zl4, zl5, zl6, zl8, zl9, zl24, zl32, zl48, zl49, zl99, zl100, zl120, zl376, zl377, zl378, zl379, zl380, ↓zi_192, zi_dec, Nat.add_zero, Nat.zero_add, m_n, m_b1, m_b2, m_rd, m_wr, m_get, m_put, nI_clamp, st_at, st_ne, up_at, up_ne, if_pos, if_neg]
  | d + 1, n + 1, k, hn, hk => by
    have ih := r_nodes_l (N := N) hr hlv d n (k + 1) (by omega) (by omega)
    have h1 := hr.2.2.1 k (by omega)
    have h2 := hlv k
    rw [f_X3_nodes_l4]
    unfold f_X3_nodes_j25
    rw [znd] at ih
    by_cases c : zlv t k = 0
    · rw [if_neg (by simpa using c), Nat.add_zero] at ih
      simp (disch := omega) only [↓zlm1, ↓zlm2, zi_e1, zi_e2, zi_1e, zi_12, zi_21, zi_1n, zi_n1, if_true, if_false, eq_self, not_false_eq_true, not_true_eq_false, nI_add, zi_4m, zi_5m, zi_8m, zi_mul4, zi_mul5, zi_sub, nI_leI, nI_ltI, nI_eq, zl0, zl1, zl2, zl3, zl4, zl5, zl6, zl8, zl9, zl24, zl32, zl48, zl49, zl99, zl100, zl120, zl376, zl377, zl378, zl379, zl380, ↓zi_192, zi_dec, Nat.add_zero, Nat.zero_add, m_n, m_b1, m_b2, m_rd, m_wr, m_get, m_put, nI_clamp, st_at, st_ne, up_at, up_ne, if_pos, if_neg, r_at, h1]
      exact ih
    · rw [if_pos c] at ih
      simp (disch := omega) only [↓zlm1, ↓zlm2, zi_e1, zi_e2, zi_1e, zi_12, zi_21, zi_1n, zi_n1, if_true, if_false, eq_self, not_false_eq_true, not_true_eq_false, nI_add, zi_4m, zi_5m, zi_8m, zi_mul4, zi_mul5, zi_sub, nI_leI, nI_ltI, nI_eq, zl0, zl1, zl2, zl3, zl4, zl5, zl6, zl8, zl9, zl24, zl32, zl48, zl49, zl99, zl100, zl120, zl376, zl377, zl378, zl379, zl380, ↓zi_192, zi_dec, Nat.add_zero, Nat.zero_add, m_n, m_b1, m_b2, m_rd, m_wr, m_get, m_put, nI_clamp, st_at, st_ne, up_at, up_ne, if_pos, if_neg, r_at, h1]
      exact ih
theorem r_nodes {N : Nat} (hN : 100 < N) {r : Nat → Int32} {t : ZT} (hr : zref r t) (hlv : ∀ s, zlv t s ≤ 10) : f_X3_nodes N 380 r = some (nI (znd t 32)) := by
  unfold f_X3_nodes
  rw [zl0]
  exact r_nodes_l hr hlv 32 N 0 (by omega) (by omega)
theorem zwf_le10 {t : ZT} {lo : List Nat} {ov : Nat} (h : zwf t lo ov 99) (s : Nat) : zlv t s ≤ 10 := by
  have := zwf_lv h (by decide)
  have h2 := (zwf_zb h (by omega)).2.2.2.2 s
  omega
/-- a rectangle is wiped -/
theorem r_wipe_l {N : Nat} {i : Nat} (hi : i < 24) : ∀ (d n k : Nat) (r : Nat → Int32), d < n → k + d = 5 → ∃ r', f_X3_wipe_l2 N 380 n (nI i) (nI k) r = some r' ∧ (∀ j, 5 * i + k ≤ j → j < 5 * i + 5 → r' j = nI 0) ∧ ∀ j, (j < 5 * i + k ∨ 5 * i + 5 ≤ j) → r' j = r j
  | 0, n + 1, k, r, hn, hk => by
    refine ⟨r, ?_, fun j h1 h2 => by omega, fun _ _ => rfl⟩
    rw [f_X3_wipe_l2]
    simp (disch := omega) only [↓zlm1, ↓zlm2, zi_e1, zi_e2, zi_1e, zi_12, zi_21, zi_1n, zi_n1, if_true, if_false, eq_self, not_false_eq_true, not_true_eq_false, nI_add, zi_4m, zi_5m, zi_8m, zi_mul4, zi_mul5, zi_sub, nI_leI, nI_ltI, nI_eq, zl0, zl1, zl2, zl3, zl4, zl5, zl6, zl8, zl9, zl24, zl32, zl48, zl49, zl99, zl100, zl120, zl376, zl377, zl378, zl379, zl380, ↓zi_192, zi_dec, Nat.add_zero, Nat.zero_add, m_n, m_b1, m_b2, m_rd, m_wr, m_get, m_put, nI_clamp, st_at, st_ne, up_at, up_ne, if_pos, if_neg]
  | d + 1, n + 1, k, r, hn, hk => by
    obtain ⟨r', e, h1, h2⟩ := r_wipe_l (N := N) hi d n (k + 1) (upd r (5 * i + k) (nI 0)) (by omega) (by omega)
    refine ⟨r', ?_, fun j a b => ?_, fun j a => ?_⟩
    · rw [f_X3_wipe_l2]
      simp (disch := omega) only [↓zlm1, ↓zlm2, zi_e1, zi_e2, zi_1e, zi_12, zi_21, zi_1n, zi_n1, if_true, if_false, eq_self, not_false_eq_true, not_true_eq_false, nI_add, zi_4m, zi_5m, zi_8m, zi_mul4, zi_mul5, zi_sub, nI_leI, nI_ltI, nI_eq, zl0, zl1, zl2, zl3, zl4, zl5, zl6, zl8, zl9, zl24, zl32, zl48, zl49, zl99, zl100, zl120, zl376, zl377, zl378, zl379, zl380, ↓zi_192, zi_dec, Nat.add_zero, Nat.zero_add, m_n, m_b1, m_b2, m_rd, m_wr, m_get, m_put, nI_clamp, st_at, st_ne, up_at, up_ne, if_pos, if_neg]
      exact e
    · by_cases c : j = 5 * i + k
      · rw [c, h2 _ (by omega), up_at]
      · exact h1 j (by omega) b
    · rw [h2 j (by omega), up_ne (by omega)]
theorem z_wiped {w : Nat} {T S : zx_S} {t : ZT} {r' : Nat → Int32} {i m : Nat} (hi : i < 24) (hP : zPI w T S t [i] 99 m) (g1 : ∀ j, 5 * i ≤ j → j < 5 * i + 5 → r' j = nI 0) (o2 : ∀ j, (j < 5 * i ∨ 5 * i + 5 ≤ j) → r' j = S w j) : zQ w T (zx_st S w r') (zP t i false) := by
  obtain ⟨hT, hr, hwf, ⟨hrb, hLC⟩, hfl, hcnt⟩ := hP
  have hns : ∀ s, i ∉ zes t s := fun s => hwf.2.1.2 i (by simp) s
  refine ⟨hT, ?_, ?_, ⟨?_, hLC⟩, ?_⟩
  · rw [st_at]
    have hes : ∀ s, s < 32 → (zes t s).length ≤ 6 := fun s _ => by have := (hwf.2.2.2.2.2.2.2.2.2.1 s).1; omega
    refine ⟨fun j hj => ?_, fun j k hj hk hp => ?_, fun s hs => ?_, fun s hs => ?_, fun s hs => ?_, ?_⟩
    · rw [zP_pr]
      by_cases e : j = i
      · rw [e, g1 _ (by omega) (by omega), if_pos rfl, if_neg (by decide)]; rfl
      · rw [if_neg e, o2 _ (by omega)]; exact hr.1 j hj
    · rw [zP_pr] at hp
      by_cases e : j = i
      · rw [if_pos e] at hp; cases hp
      · rw [if_neg e] at hp
        rw [o2 _ (by omega)]; exact hr.2.1 j k hj hk hp
    · rw [o2 _ (by omega)]; exact hr.2.2.1 s hs
    · rw [o2 _ (by omega)]; exact hr.2.2.2.1 s hs
    · refine zat_congr (fun j h1 h2 => o2 j ?_) (hr.2.2.2.2.1 s hs)
      omega
    · rw [o2 _ (by omega)]; exact hr.2.2.2.2.2
  · refine ⟨hwf.1, ⟨by simp, fun x hx => by cases hx⟩, fun x => ?_, hwf.2.2.2.1, hwf.2.2.2.2.1, hwf.2.2.2.2.2.1, hwf.2.2.2.2.2.2.1, hwf.2.2.2.2.2.2.2.1, hwf.2.2.2.2.2.2.2.2.1, hwf.2.2.2.2.2.2.2.2.2.1, hwf.2.2.2.2.2.2.2.2.2.2.1, fun x hx hp => ?_⟩
    · show (x ∈ [] ∨ ∃ s, x ∈ zes t s) ↔ (x < 24 ∧ (if x = i then false else zpr t x) = true) ∨ (24 ≤ x ∧ x < 48 ∧ zlv t (x - 24) ≠ 0 ∧ x - 24 ≠ zrt t)
      by_cases e : x = i
      · rw [e, if_pos rfl]
        refine ⟨fun z => ?_, fun z => ?_⟩
        · rcases z with z | ⟨s, z⟩
          · cases z
          · exact absurd z (hns s)
        · rcases z with z | z
          · exact absurd z.2 (by decide)
          · omega
      · rw [if_neg e, ← hwf.2.2.1 x]
        have hn2 : x ∉ [i] := by simpa using e
        exact ⟨fun z => Or.inr (z.resolve_left (by simp)), fun z => Or.inr (z.resolve_left hn2)⟩
    · rw [zP_pr] at hp
      by_cases e : x = i
      · rw [if_pos e] at hp; cases hp
      · rw [if_neg e] at hp
        exact zwf_cr hwf x hx hp
  · intro j k hj hk hp
    rw [zP_pr] at hp
    by_cases e : j = i
    · rw [if_pos e] at hp; cases hp
    · rw [if_neg e] at hp
      exact hrb j k hj hk hp
  · unfold zcnt
    rw [st_at, o2 377 (by omega), o2 378 (by omega), o2 379 (by omega)]
    exact hcnt
theorem z_removeOn {N w : Nat} (hN : 100 < N) (hw : w ≠ 6) (hw7 : w ≠ 7) (hw8 : w ≠ 8) (hw12 : w ≠ 12) {T S : zx_S} {t : ZT} {i : Nat} (hi : i < 24) (hp : zpr t i = true) (hQ : zQ w T S t) :
    ∃ Tb T' S' t', f_X1_beginCall N T = some Tb ∧ f_X1_takeOut N (nI i) Tb = some T' ∧ f_X3_removeOn N w (nI i) S = some (nI (znd t' 32), S') ∧ zQ w T' S' t' ∧ (∀ j, zpr t' j = if j = i then false else zpr t j) ∧ zfr [0, 1, 2, 3, 4, 5, 6, 7, 10] T T' ∧ zfr [w, 6, 7, 8, 12] S S' ∧ zf12 S S' := by
  obtain ⟨Tb, e1, f1, h1⟩ := z_begin (N := N) hN hQ hw12
  obtain ⟨T', S1, t1, m', a1, a2, a3, a4, a5, a6, a7, a8⟩ := z_takeOut (N := N) (w := w) hN hw hw7 hw8 hw12 hi hp h1
  obtain ⟨r', b1, b2, b3⟩ := r_wipe_l (N := N) hi 5 N 0 (S1 w) (by omega) (by omega)
  have hQ' := z_wiped hi a3 b2 b3
  refine ⟨Tb, T', zx_st S1 w r', zP t1 i false, e1, a1, ?_, hQ', fun j => ?_, zfr_trans (zfr_sub f1 (by decide)) (zfr_sub a6 (by decide)), zfr_trans (zfr_st (by simp) zfr_refl) (zfr_trans a7 (zfr_st (by simp) zfr_refl)), ?_⟩
  · have hn := r_nodes (N := N) hN hQ'.2.1 (zwf_le10 hQ'.2.2.1)
    rw [st_at] at hn
    unfold f_X3_removeOn f_X3_wipe
    rw [m_n, a2, m_b1, zl0, b1, m_b1, m_n, st_at, hn, m_b1]
  · rw [zP_pr, a4]
  · refine zf12_trans ⟨fun j hj => ?_, fun j hj => ?_⟩ (zf12_trans a8 (zf12_eq (st_ne (Ne.symm hw12))))
    · rw [st_at, up_ne (by omega)]
    · rw [st_at, up_ne (by omega)]
/-- a rectangle is moved -/
theorem z_moveOn {N w : Nat} (hN : 100 < N) (hw : w ≠ 6) (hw7 : w ≠ 7) (hw8 : w ≠ 8) (hw12 : w ≠ 12) {T S : zx_S} {t : ZT} {i : Nat} {dx dy : Int32} (hi : i < 24) (hp : zpr t i = true) (hQ : zQ w T S t) (hb : zbk (zrc t i 0 + dx) (zrc t i 1 + dy) (zrc t i 2 + dx) (zrc t i 3 + dy)) :
    ∃ Tb T1 T2 T' S' t', f_X1_beginCall N T = some Tb ∧ f_X1_takeOut N (nI i) Tb = some T1 ∧ f_X1_shiftBox N (nI i) dx dy T1 = some T2 ∧ f_X1_putIn N (nI i) T2 = some T' ∧ f_X3_moveOn N w (nI i) dx dy S = some S' ∧ zQ w T' S' t' ∧ zpr t' = zpr t ∧ zfr [0, 1, 2, 3, 4, 5, 6, 7, 10] T T' ∧ zfr [w, 6, 7, 8, 12] S S' ∧ zf12 S S' := by
  obtain ⟨Tb, e1, f1, h1⟩ := z_begin (N := N) hN hQ hw12
  obtain ⟨T1, S1, t1, m1, a1, a2, a3, a4, a5, a6, a7, a8⟩ := z_takeOut (N := N) (w := w) hN hw hw7 hw8 hw12 hi hp h1
  rw [← a5] at hb
  have hp1 : zpr t1 i = true := by rw [a4]; exact hp
  have hc : ∀ k, k < 4 → T1 0 (4 * i + k) = zrc t1 i k := fun k hk => a3.2.2.2.1.1 i k hi hk hp1
  have hd : ∀ k, k < 4 → S1 w (5 * i + 1 + k) = zrc t1 i k := fun k hk => a3.2.1.2.1 i k hi hk hp1
  obtain ⟨T2, r', b1, b2, b3, b4⟩ := z_lay (N := N) (w := w) hw12 hi a3 (Or.inr rfl) hb
  obtain ⟨T', S', t', m', c1, c2, c3, c4, c5, c6, c7⟩ := z_put1 (N := N) (w := w) hN hw hw7 hw12 hi b3
  refine ⟨Tb, T1, T2, T', S', t', e1, a1, ?_, c1, ?_, zQ_PI c3, ?_, zfr_trans (zfr_sub f1 (by decide)) (zfr_trans (zfr_sub a6 (by decide)) (zfr_trans (zfr_sub b4 (by decide)) (zfr_sub c5 (by decide)))), zfr_trans (zfr_st (by simp) zfr_refl) (zfr_trans a7 (zfr_trans (zfr_st (by simp) zfr_refl) (zfr_sub c6 (by simp)))), ?_⟩
  · have k0 := hc 0 (by omega)
    have k1 := hc 1 (by omega)
    have k2 := hc 2 (by omega)
    have k3 := hc 3 (by omega)
    unfold f_X1_shiftBox
    rw [zl0, m_corner (by omega) (by omega), m_b1, zl1, m_corner (by omega) (by omega), m_b1, zl2, m_corner (by omega) (by omega), m_b1, zl3, m_corner (by omega) (by omega), m_b1, k0, k1, k2, k3, b1, m_b1]
  · have k0 := hd 0 (by omega)
    have k1 := hd 1 (by omega)
    have k2 := hd 2 (by omega)
    have k3 := hd 3 (by omega)
    rw [Nat.add_zero] at k0
    rw [show 5 * i + 1 + 1 = 5 * i + 2 from rfl] at k1
    rw [show 5 * i + 1 + 2 = 5 * i + 3 from rfl] at k2
    rw [show 5 * i + 1 + 3 = 5 * i + 4 from rfl] at k3
    unfold f_X3_moveOn
    rw [m_n, a2, m_b1, m_n]
    simp (disch := omega) only [↓zlm1, ↓zlm2, zi_e1, zi_e2, zi_1e, zi_12, zi_21, zi_1n, zi_n1, if_true, if_false, eq_self, not_false_eq_true, not_true_eq_false, nI_add, zi_4m, zi_5m, zi_8m, zi_mul4, zi_mul5, zi_sub, nI_leI, nI_ltI, nI_eq, zl0, zl1, zl2, zl3, zl4, zl5, zl6, zl8, zl9, zl24, zl32, zl48, zl49, zl99, zl100, zl120, zl376, zl377, zl378, zl379, zl380, ↓zi_192, zi_dec, Nat.add_zero, Nat.zero_add, m_n, m_b1, m_b2, m_rd, m_wr, m_get, m_put, nI_clamp, st_at, st_ne, up_at, up_ne, if_pos, if_neg, k0, k1, k2, k3, b2]
    rw [c2, m_b1]
  · funext j
    rw [c4.1, zC_pr, zP_pr, a4]
    by_cases e : j = i
    · rw [if_pos e, e, hp]
    · rw [if_neg e]
  · refine zf12_trans ⟨fun j hj => ?_, fun j hj => ?_⟩ (zf12_trans a8 (zf12_trans (zf12_eq (st_ne (Ne.symm hw12))) c7))
    · rw [st_at, up_ne (by omega)]
    · rw [st_at, up_ne (by omega)]
/-- may it be moved -/
theorem z_why {N w : Nat} {T S : zx_S} {t : ZT} {i : Nat} {dx dy : Int32} (hQ : zQ w T S t) (hi : i < 24) (hp : zpr t i = true) (hx : -99 ≤ dx.toInt ∧ dx.toInt ≤ 99) (hy : -99 ≤ dy.toInt ∧ dy.toInt ≤ 99) (hthere : f_X3_isThere N 380 (nI i) (S w) = some (nI 1)) :
    (zbk (zrc t i 0 + dx) (zrc t i 1 + dy) (zrc t i 2 + dx) (zrc t i 3 + dy) ∧ f_X1_canShift N (nI i) dx dy T = some (nI 1) ∧ f_X3_whyNotMove N 380 (nI i) dx dy (S w) = some 0) ∨ (f_X1_canShift N (nI i) dx dy T = some (nI 0) ∧ f_X3_whyNotMove N 380 (nI i) dx dy (S w) = some 3) := by
  obtain ⟨hT, hr, hwf, hbx, _⟩ := hQ
  obtain ⟨b1, b2, b3, b4, b5, b6⟩ := zwf_cr hwf i hi hp
  have k0 := hbx.1 i 0 hi (by omega) hp
  have k1 := hbx.1 i 1 hi (by omega) hp
  have k2 := hbx.1 i 2 hi (by omega) hp
  have k3 := hbx.1 i 3 hi (by omega) hp
  have q0 := hr.2.1 i 0 hi (by omega) hp
  have q1 := hr.2.1 i 1 hi (by omega) hp
  have q2 := hr.2.1 i 2 hi (by omega) hp
  have q3 := hr.2.1 i 3 hi (by omega) hp
  rw [Nat.add_zero] at q0
  rw [show 5 * i + 1 + 1 = 5 * i + 2 from rfl] at q1
  rw [show 5 * i + 1 + 2 = 5 * i + 3 from rfl] at q2
  rw [show 5 * i + 1 + 3 = 5 * i + 4 from rfl] at q3
  have i1 := m_in (N := N) (x := dx) (lo := -99) (hi := 99) (a := -99) (b := 99) (by decide) (by decide)
  have i2 := m_in (N := N) (x := dy) (lo := -99) (hi := 99) (a := -99) (b := 99) (by decide) (by decide)
  rw [if_pos hx] at i1
  rw [if_pos hy] at i2
  have s0 : (zrc t i 0 + dx).toInt = (zrc t i 0).toInt + dx.toInt := zi_addT (by omega) (by omega)
  have s1 : (zrc t i 1 + dy).toInt = (zrc t i 1).toInt + dy.toInt := zi_addT (by omega) (by omega)
  have s2 : (zrc t i 2 + dx).toInt = (zrc t i 2).toInt + dx.toInt := zi_addT (by omega) (by omega)
  have s3 : (zrc t i 3 + dy).toInt = (zrc t i 3).toInt + dy.toInt := zi_addT (by omega) (by omega)
  have z100 : ∀ x : Int32, (100 : Int32) ≤ x ↔ 100 ≤ x.toInt := fun x => by rw [Int32.le_iff_toInt_le]; rfl
  obtain ⟨A, eA⟩ : ∃ A, A = zrc t i 0 + dx := ⟨_, rfl⟩
  obtain ⟨B, eB⟩ : ∃ B, B = zrc t i 1 + dy := ⟨_, rfl⟩
  obtain ⟨C, eC⟩ : ∃ C, C = zrc t i 2 + dx := ⟨_, rfl⟩
  obtain ⟨D, eD⟩ : ∃ D, D = zrc t i 3 + dy := ⟨_, rfl⟩
  rw [← eA] at s0; rw [← eB] at s1; rw [← eC] at s2; rw [← eD] at s3
  have hcan : ∀ y, f_X2_isBox N A B C D = some y → (y = 0 ∨ y = 1) → f_X1_canShift N (nI i) dx dy T = some y := by
    intro y hy hy2
    unfold f_X1_canShift
    rw [zl0, m_corner (by omega) (by omega), m_b1, zl1, m_corner (by omega) (by omega), m_b1, zl2, m_corner (by omega) (by omega), m_b1, zl3, m_corner (by omega) (by omega), m_b1, k0, k1, k2, k3, ← eA, ← eB, ← eC, ← eD, hy, m_b1]
    exact if_pos hy2
  have hwhy : f_X3_whyNotMove N 380 (nI i) dx dy (S w) = if A < 0 then some 3 else if B < 0 then some 3 else if 100 ≤ C then some 3 else if 100 ≤ D then some 3 else some 0 := by
    unfold f_X3_whyNotMove
    rw [hthere, m_b1, if_neg (by decide), i1, m_b1, if_neg (by decide), i2, m_b1, if_neg (by decide), m_n]
    have g0 : ∀ {β : Type} (k : Int32 → Option β), zx_rd 380 (S w) (5 * nI i + 1) k = k (zrc t i 0) := fun k => by
      simp (disch := omega) only [↓zlm1, ↓zlm2, zi_e1, zi_e2, zi_1e, zi_12, zi_21, zi_1n, zi_n1, if_true, if_false, eq_self, not_false_eq_true, not_true_eq_false, nI_add, zi_4m, zi_5m, zi_8m, zi_mul4, zi_mul5, zi_sub, nI_leI, nI_ltI, nI_eq, zl0, zl1, zl2, zl3, zl4, zl5, zl6, zl8, zl9, zl24, zl32, zl48, zl49, zl99, zl100, zl120, zl376, zl377, zl378, zl379, zl380, ↓zi_192, zi_dec, Nat.add_zero, Nat.zero_add, m_n, m_b1, m_b2, m_rd, m_wr, m_get, m_put, nI_clamp, st_at, st_ne, up_at, up_ne, if_pos, if_neg, q0]
    have g1 : ∀ {β : Type} (k : Int32 → Option β), zx_rd 380 (S w) (5 * nI i + 2) k = k (zrc t i 1) := fun k => by
      simp (disch := omega) only [↓zlm1, ↓zlm2, zi_e1, zi_e2, zi_1e, zi_12, zi_21, zi_1n, zi_n1, if_true, if_false, eq_self, not_false_eq_true, not_true_eq_false, nI_add, zi_4m, zi_5m, zi_8m, zi_mul4, zi_mul5, zi_sub, nI_leI, nI_ltI, nI_eq, zl0, zl1, zl2, zl3, zl4, zl5, zl6, zl8, zl9, zl24, zl32, zl48, zl49, zl99, zl100, zl120, zl376, zl377, zl378, zl379, zl380, ↓zi_192, zi_dec, Nat.add_zero, Nat.zero_add, m_n, m_b1, m_b2, m_rd, m_wr, m_get, m_put, nI_clamp, st_at, st_ne, up_at, up_ne, if_pos, if_neg, q1]
    have g2 : ∀ {β : Type} (k : Int32 → Option β), zx_rd 380 (S w) (5 * nI i + 3) k = k (zrc t i 2) := fun k => by
      simp (disch := omega) only [↓zlm1, ↓zlm2, zi_e1, zi_e2, zi_1e, zi_12, zi_21, zi_1n, zi_n1, if_true, if_false, eq_self, not_false_eq_true, not_true_eq_false, nI_add, zi_4m, zi_5m, zi_8m, zi_mul4, zi_mul5, zi_sub, nI_leI, nI_ltI, nI_eq, zl0, zl1, zl2, zl3, zl4, zl5, zl6, zl8, zl9, zl24, zl32, zl48, zl49, zl99, zl100, zl120, zl376, zl377, zl378, zl379, zl380, ↓zi_192, zi_dec, Nat.add_zero, Nat.zero_add, m_n, m_b1, m_b2, m_rd, m_wr, m_get, m_put, nI_clamp, st_at, st_ne, up_at, up_ne, if_pos, if_neg, q2]
    have g3 : ∀ {β : Type} (k : Int32 → Option β), zx_rd 380 (S w) (5 * nI i + 4) k = k (zrc t i 3) := fun k => by
      simp (disch := omega) only [↓zlm1, ↓zlm2, zi_e1, zi_e2, zi_1e, zi_12, zi_21, zi_1n, zi_n1, if_true, if_false, eq_self, not_false_eq_true, not_true_eq_false, nI_add, zi_4m, zi_5m, zi_8m, zi_mul4, zi_mul5, zi_sub, nI_leI, nI_ltI, nI_eq, zl0, zl1, zl2, zl3, zl4, zl5, zl6, zl8, zl9, zl24, zl32, zl48, zl49, zl99, zl100, zl120, zl376, zl377, zl378, zl379, zl380, ↓zi_192, zi_dec, Nat.add_zero, Nat.zero_add, m_n, m_b1, m_b2, m_rd, m_wr, m_get, m_put, nI_clamp, st_at, st_ne, up_at, up_ne, if_pos, if_neg, q3]
    rw [g0, g1, g2, g3, eA, eB, eC, eD]
  rw [hwhy, ← eA, ← eB, ← eC, ← eD]
  have hno : ¬ (0 ≤ A.toInt ∧ 0 ≤ B.toInt ∧ C.toInt ≤ 99 ∧ D.toInt ≤ 99) → f_X1_canShift N (nI i) dx dy T = some (nI 0) := by
    intro h
    refine hcan (nI 0) ?_ (Or.inl rfl)
    unfold f_X2_isBox
    simp only [z100, Int32.lt_iff_toInt_lt, show (0 : Int32).toInt = 0 from by decide]
    split
    · rfl
    split
    · rfl
    split
    · rfl
    split
    · rfl
    split
    · rfl
    split
    · rfl
    exact absurd ⟨by omega, by omega, by omega, by omega⟩ h
  unfold zbk
  simp only [z100, Int32.lt_iff_toInt_lt, show (0 : Int32).toInt = 0 from by decide]
  by_cases c1 : A.toInt < 0
  · exact Or.inr ⟨hno (by omega), if_pos c1⟩
  by_cases c2 : B.toInt < 0
  · exact Or.inr ⟨hno (by omega), by rw [if_neg c1, if_pos c2]⟩
  by_cases c3 : 100 ≤ C.toInt
  · exact Or.inr ⟨hno (by omega), by rw [if_neg c1, if_neg c2, if_pos c3]⟩
  by_cases c4 : 100 ≤ D.toInt
  · exact Or.inr ⟨hno (by omega), by rw [if_neg c1, if_neg c2, if_neg c3, if_pos c4]⟩
  refine Or.inl ⟨⟨by omega, by omega, by omega, by omega, by omega, by omega⟩, hcan (nI 1) ?_ (Or.inr rfl), by rw [if_neg c1, if_neg c2, if_neg c3, if_neg c4]⟩
  unfold f_X2_isBox
  simp only [z100, Int32.lt_iff_toInt_lt, show (0 : Int32).toInt = 0 from by decide]
  rw [if_neg c1, if_neg (by omega), if_neg c3, if_neg c2, if_neg (by omega), if_neg c4]
  rfl
/-- may it be laid -/
theorem z_isBox {N : Nat} {a b c d : Int32} : (zbk a b c d ∧ f_X2_isBox N a b c d = some (nI 1) ∧ f_X3_isRectangle N a b c d = some (nI 1)) ∨ (¬ zbk a b c d ∧ f_X2_isBox N a b c d = some (nI 0) ∧ f_X3_isRectangle N a b c d = some (nI 0)) := by
  have z100 : ∀ x : Int32, (100 : Int32) ≤ x ↔ 100 ≤ x.toInt := fun x => by rw [Int32.le_iff_toInt_le]; rfl
  have i1 := m_in (N := N) (x := a) (lo := 0) (hi := 99) (a := 0) (b := 99) (by decide) (by decide)
  have i2 := m_in (N := N) (x := b) (lo := 0) (hi := 99) (a := 0) (b := 99) (by decide) (by decide)
  have i3 := m_in (N := N) (x := c) (lo := a.toInt) (hi := 99) (a := Int32.toInt64 a) (b := 99) (by simp) (by decide)
  have i4 := m_in (N := N) (x := d) (lo := b.toInt) (hi := 99) (a := Int32.toInt64 b) (b := 99) (by simp) (by decide)
  have hR : f_X3_isRectangle N a b c d = if 0 ≤ a.toInt ∧ a.toInt ≤ 99 then if 0 ≤ b.toInt ∧ b.toInt ≤ 99 then if a.toInt ≤ c.toInt ∧ c.toInt ≤ 99 then if b.toInt ≤ d.toInt ∧ d.toInt ≤ 99 then some 1 else some 0 else some 0 else some 0 else some 0 := by
    unfold f_X3_isRectangle
    rw [i1, m_b1]
    by_cases c1 : 0 ≤ a.toInt ∧ a.toInt ≤ 99
    · rw [if_pos c1, if_pos c1, if_neg (by decide), i2, m_b1]
      by_cases c2 : 0 ≤ b.toInt ∧ b.toInt ≤ 99
      · rw [if_pos c2, if_pos c2, if_neg (by decide), i3, m_b1]
        by_cases c3 : a.toInt ≤ c.toInt ∧ c.toInt ≤ 99
        · rw [if_pos c3, if_pos c3, if_neg (by decide), i4, m_b1]
          by_cases c4 : b.toInt ≤ d.toInt ∧ d.toInt ≤ 99
          · rw [if_pos c4, if_pos c4, if_neg (by decide)]
          · rw [if_neg c4, if_neg c4, if_pos rfl]
        · rw [if_neg c3, if_neg c3, if_pos rfl]
      · rw [if_neg c2, if_neg c2, if_pos rfl]
    · rw [if_neg c1, if_neg c1, if_pos rfl]
  by_cases h : zbk a b c d
  · obtain ⟨b1, b2, b3, b4, b5, b6⟩ := id h
    refine Or.inl ⟨h, ?_, ?_⟩
    · unfold f_X2_isBox
      simp only [z100, Int32.lt_iff_toInt_lt, show (0 : Int32).toInt = 0 from by decide]
      rw [if_neg (by omega), if_neg (by omega), if_neg (by omega), if_neg (by omega), if_neg (by omega), if_neg (by omega)]
      rfl
    · rw [hR, if_pos (by omega), if_pos (by omega), if_pos (by omega), if_pos (by omega)]
      rfl
  · refine Or.inr ⟨h, ?_, ?_⟩
    · unfold f_X2_isBox
      simp only [z100, Int32.lt_iff_toInt_lt, show (0 : Int32).toInt = 0 from by decide]
      split
      · rfl
      split
      · rfl
      split
      · rfl
      split
      · rfl
      split
      · rfl
      split
      · rfl
      exact absurd (by unfold zbk; omega) h
    · rw [hR]
      split
      · split
        · split
          · split
            · exact absurd (by unfold zbk; omega) h
            · rfl
          · rfl
        · rfl
      · rfl
