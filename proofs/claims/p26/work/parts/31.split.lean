/-! the class's join, the reference's take: an item comes to a group -/
theorem c_join {N : Nat} (hN : 100 < N) {T : zx_S} {t : ZT} {X : List Nat} {s c : Nat} (h : zcx T t X) (h5 : ∀ j, (zes t j).length ≤ 5) (h48 : ∀ x, x ∈ zes t s → x < 48) (hs : s < 24) (hv : zlv t s ≠ 0) (hlen : (zes t s).length < 5) (hc : c < 48) (hx : ∀ j, c ∉ zes t j) (hb : ∀ x, x ∈ zes t s ++ [c] → zbd (T 0) x) :
    ∃ T', f_X1_join N (nI (24 + s)) (nI c) T = some T' ∧ zcx T' (zE t s (zes t s ++ [c])) X ∧ zfr [0, 2, 3, 4] T T' ∧ (∀ k, k < 4 → T' 0 (4 * (24 + s) + k) = zjn (T 0) (zes t s ++ [c]) k) ∧ (∀ j, (j < 4 * (24 + s) ∨ 4 * (24 + s) + 4 ≤ j) → T' 0 j = T 0 j) := by
  have hl := h.2.2.1 s hs hv
  have hz := h.2.2.2.1 s hs
  obtain ⟨T1, eT1⟩ : ∃ T1, T1 = zx_st (zx_st (zx_st T 4 (upd (T 4) (5 * (24 + s) + (zes t s).length) (nI c))) 3 (upd (T 3) (24 + s) (nI ((zes t s).length + 1)))) 2 (upd (T 2) c (nI (24 + s))) := ⟨_, rfl⟩
  have f1 : zfr [2, 3, 4] T T1 := by rw [eT1]; exact zfr_st (by decide) (zfr_st (by decide) (zfr_st (by decide) zfr_refl))
  have hz1 : zat (T1 4) (5 * (24 + s)) (zes t s ++ [c]) := by
    rw [zat_app]
    refine ⟨zat_congr (fun j z1 z2 => ?_) hz, ?_, trivial⟩
    · rw [eT1]; simp (disch := omega) only [m_n, m_b1, m_b2, m_rd, m_wr, m_get, m_put, nI_clamp, st_at, st_ne, up_at, up_ne, if_pos, if_neg]
    · rw [eT1]; simp (disch := omega) only [m_n, m_b1, m_b2, m_rd, m_wr, m_get, m_put, nI_clamp, st_at, st_ne, up_at, up_ne, if_pos, if_neg]
  have hcx : zcx T1 (zE t s (zes t s ++ [c])) X := by
    refine zcx_ins h h5 hs (by simp) hx (f1 1 (by decide)) (by rw [f1 10 (by decide)]) ?_ ?_ hz1 ?_
    · rw [eT1]; simp (disch := omega) only [m_n, m_b1, m_b2, m_rd, m_wr, m_get, m_put, nI_clamp, st_at, st_ne, up_at, up_ne, if_pos, if_neg, List.append_nil]
    · rw [eT1]; simp (disch := omega) only [m_n, m_b1, m_b2, m_rd, m_wr, m_get, m_put, nI_clamp, st_at, st_ne, up_at, up_ne, if_pos, if_neg]
    · intro j hj; rw [eT1]; simp (disch := omega) only [m_n, m_b1, m_b2, m_rd, m_wr, m_get, m_put, nI_clamp, st_at, st_ne, up_at, up_ne, if_pos, if_neg]
  have h3 : T1 3 (24 + s) = nI (zes t s ++ [c]).length := by rw [eT1]; simp (disch := omega) only [m_n, m_b1, m_b2, m_rd, m_wr, m_get, m_put, nI_clamp, st_at, st_ne, up_at, up_ne, if_pos, if_neg, List.length_append, List.length_cons, List.length_nil, Nat.zero_add]
  have h0 : T1 0 = T 0 := f1 0 (by decide)
  obtain ⟨T2, e2, f2, g2, o2⟩ := m_fit (N := N) hN (T := T1) (a := 24 + s) (l := zes t s ++ [c]) (by omega) h3 (by simp; omega) hz1 (fun x hx => by
    rcases List.mem_append.mp hx with z | z
    · have := h48 x z; omega
    · have := List.mem_singleton.mp z; omega) (fun x k hx hk => by rw [h0]; exact hb x hx k hk)
  refine ⟨T2, ?_, zcx_keep hcx (f2 1 (by decide)) (f2 2 (by decide)) (f2 3 (by decide)) (f2 4 (by decide)) (by rw [f2 10 (by decide)]), zfr_trans (zfr_sub f1 (by decide)) (zfr_sub f2 (by decide)), ?_, ?_⟩
  · unfold f_X1_join
    simp (disch := omega) only [↓zlm1, ↓zlm2, zi_e1, zi_e2, zi_1e, zi_12, zi_21, zi_1n, zi_n1, if_true, if_false, eq_self, not_false_eq_true, not_true_eq_false, nI_add, zi_4m, zi_5m, zi_8m, zi_mul4, zi_mul5, zi_sub, nI_leI, nI_ltI, nI_eq, zl0, zl1, zl2, zl3, zl4, zl5, zl6, zl8, zl9, zl24, zl32, zl48, zl49, zl99, zl100, zl120, zl376, zl377, zl378, zl379, zl380, ↓zi_192, zi_dec, Nat.add_zero, Nat.zero_add, m_n, m_b1, m_b2, m_rd, m_wr, m_get, m_put, nI_clamp, st_at, st_ne, up_at, up_ne, if_pos, if_neg, hl]
    rw [← eT1, e2, m_b1]
  · intro k hk
    rw [g2 (by simp) k hk, h0]
  · intro j hj
    rw [o2 j hj, h0]
theorem d_take {N w : Nat} (hN : 100 < N) (hw : w ≠ 6) {S : zx_S} {t : ZT} {s c : Nat} (h : zref (S w) t) (h5 : ∀ j, (zes t j).length ≤ 5) (hs : s < 24) (hc : c < 48) (hcs : c ≠ 24 + s) (hbx : zes t s ≠ [] → ∀ k, k < 4 → S 6 (4 * (24 + s) + k) = zjn (S 6) (zes t s) k) :
    ∃ S', f_X3_take N w (nI s) (nI c) S = some S' ∧ zref (S' w) (zE t s (zes t s ++ [c])) ∧ zfr [w, 6] S S' ∧ (∀ j, 376 ≤ j → S' w j = S w j) ∧ (∀ k, k < 4 → S' 6 (4 * (24 + s) + k) = zjn (S 6) (zes t s ++ [c]) k) ∧ (∀ j, (j < 4 * (24 + s) ∨ 4 * (24 + s) + 4 ≤ j) → S' 6 j = S 6 j) := by
  have hr1 := h.2.2.2.1 s (by omega)
  have hl := h5 s
  have aux : ∀ S1 : zx_S, zfr [6] S S1 → (∀ k, k < 4 → S1 6 (4 * (24 + s) + k) = zjn (S 6) (zes t s ++ [c]) k) → (∀ j, (j < 4 * (24 + s) ∨ 4 * (24 + s) + 4 ≤ j) → S1 6 j = S 6 j) →
      ∃ S', f_X3_insert N 380 (nI s) (nI (zes t s).length) (nI c) (S1 w) = some (S' w) ∧ S' = zx_st S1 w (S' w) ∧ zref (S' w) (zE t s (zes t s ++ [c])) ∧ zfr [w, 6] S S' ∧ (∀ j, 376 ≤ j → S' w j = S w j) ∧ (∀ k, k < 4 → S' 6 (4 * (24 + s) + k) = zjn (S 6) (zes t s ++ [c]) k) ∧ (∀ j, (j < 4 * (24 + s) ∨ 4 * (24 + s) + 4 ≤ j) → S' 6 j = S 6 j) := by
    intro S1 f1 g1 o1
    have hw1 : S1 w = S w := f1 w (by simp; exact hw)
    obtain ⟨r', e, q1, q2⟩ := d_insert (N := N) hN (s := s) (c := c) (l := zes t s) (m := []) h h5 (by omega) (by simp) (by simp; omega)
    refine ⟨zx_st S1 w r', ?_, ?_, ?_, ?_, ?_, ?_, ?_⟩
    · rw [hw1, st_at, e]
    · rw [st_at]
    · rw [st_at]; exact q1
    · exact zfr_st (by simp) (zfr_sub f1 (by simp))
    · intro j hj; rw [st_at]; exact q2 j hj
    · intro k hk; rw [st_ne (Ne.symm hw)]; exact g1 k hk
    · intro j hj; rw [st_ne (Ne.symm hw)]; exact o1 j hj
  by_cases he : zes t s = []
  · obtain ⟨S1, e1, f1, g1, o1⟩ := r_join1 (N := N) hN (S := S) (a := 24 + s) (c := c) (by omega) (by omega) (Ne.symm hcs)
    obtain ⟨S2, e2, d2, q⟩ := aux S1 f1 (fun k hk => by rw [g1 k hk, he]; rfl) o1
    refine ⟨S2, ?_, q⟩
    have hw1 : S1 w = S w := f1 w (by simp; exact hw)
    rw [hw1] at e2
    rw [he, List.length_nil] at hr1 e2
    unfold f_X3_take f_X3_take_j19
    simp (disch := omega) only [r_many, ↓zlm1, ↓zlm2, zi_e1, zi_e2, zi_1e, zi_12, zi_21, zi_1n, zi_n1, if_true, if_false, eq_self, not_false_eq_true, not_true_eq_false, nI_add, zi_4m, zi_5m, zi_8m, zi_mul4, zi_mul5, zi_sub, nI_leI, nI_ltI, nI_eq, zl0, zl1, zl2, zl3, zl4, zl5, zl6, zl8, zl9, zl24, zl32, zl48, zl49, zl99, zl100, zl120, zl376, zl377, zl378, zl379, zl380, ↓zi_192, zi_dec, Nat.add_zero, Nat.zero_add, m_n, m_b1, m_b2, m_rd, m_wr, m_get, m_put, nI_clamp, st_at, st_ne, up_at, up_ne, if_pos, if_neg, hr1, e1, hw1, e2]
    rw [← d2]
  · obtain ⟨S1, e1, f1, g1, o1⟩ := r_join0 (N := N) hN (S := S) (a := 24 + s) (c := c) (by omega) (by omega) (Ne.symm hcs)
    obtain ⟨S2, e2, d2, q⟩ := aux S1 f1 (fun k hk => by rw [g1 k hk, zjn_app he, hbx he k hk]) o1
    refine ⟨S2, ?_, q⟩
    have hw1 : S1 w = S w := f1 w (by simp; exact hw)
    rw [hw1] at e2
    have hpos : 0 < (zes t s).length := List.length_pos_iff.mpr he
    unfold f_X3_take f_X3_take_j19
    simp (disch := omega) only [r_many, ↓zlm1, ↓zlm2, zi_e1, zi_e2, zi_1e, zi_12, zi_21, zi_1n, zi_n1, if_true, if_false, eq_self, not_false_eq_true, not_true_eq_false, nI_add, zi_4m, zi_5m, zi_8m, zi_mul4, zi_mul5, zi_sub, nI_leI, nI_ltI, nI_eq, zl0, zl1, zl2, zl3, zl4, zl5, zl6, zl8, zl9, zl24, zl32, zl48, zl49, zl99, zl100, zl120, zl376, zl377, zl378, zl379, zl380, ↓zi_192, zi_dec, Nat.add_zero, Nat.zero_add, m_n, m_b1, m_b2, m_rd, m_wr, m_get, m_put, nI_clamp, st_at, st_ne, up_at, up_ne, if_pos, if_neg, hr1, e1, hw1, e2]
    rw [← d2]
/-! the seeds -/
def zsw (f : Nat → Int32) (cr : Nat → Nat) (i j : Nat) : Int32 := zja f (cr i) (cr j) - zar f (cr i) - zar f (cr j)
def zsp (f : Nat → Int32) (cr : Nat → Nat) (i j : Nat) (p : Nat × Nat) : Nat × Nat := if zsw f cr p.1 p.2 < zsw f cr i j then (i, j) else p
def zsd (f : Nat → Int32) (cr : Nat → Nat) : Nat × Nat := zsp f cr 3 4 (zsp f cr 2 4 (zsp f cr 2 3 (zsp f cr 1 4 (zsp f cr 1 3 (zsp f cr 1 2 (zsp f cr 0 4 (zsp f cr 0 3 (zsp f cr 0 2 (0, 1)))))))))
theorem zsp_b {f : Nat → Int32} {cr : Nat → Nat} {i j : Nat} {p : Nat × Nat} (h : p.1 < p.2 ∧ p.2 < 5) (hi : i < j ∧ j < 5) : (zsp f cr i j p).1 < (zsp f cr i j p).2 ∧ (zsp f cr i j p).2 < 5 := by
  unfold zsp
  split
  · exact hi
  · exact h
theorem zsd_b (f : Nat → Int32) (cr : Nat → Nat) : (zsd f cr).1 < (zsd f cr).2 ∧ (zsd f cr).2 < 5 := by
  unfold zsd
  refine zsp_b (zsp_b (zsp_b (zsp_b (zsp_b (zsp_b (zsp_b (zsp_b (zsp_b ?_ ?_) ?_) ?_) ?_) ?_) ?_) ?_) ?_) ?_ <;> decide
theorem zsp_cg {f g : Nat → Int32} {cr : Nat → Nat} (h : ∀ k, k < 5 → ∀ j, j < 4 → f (4 * cr k + j) = g (4 * cr k + j)) {i j : Nat} {p : Nat × Nat} (hp : p.1 < p.2 ∧ p.2 < 5) (hi : i < j ∧ j < 5) : zsp f cr i j p = zsp g cr i j p := by
  have w : ∀ a b, a < 5 → b < 5 → zsw f cr a b = zsw g cr a b := by
    intro a b ha hb
    unfold zsw
    rw [zja_cg (h a ha) (h b hb), zar_cg (h a ha), zar_cg (h b hb)]
  unfold zsp
  rw [w _ _ (by omega) (by omega), w i j (by omega) (by omega)]
theorem zsd_cg {f g : Nat → Int32} {cr : Nat → Nat} (h : ∀ k, k < 5 → ∀ j, j < 4 → f (4 * cr k + j) = g (4 * cr k + j)) : zsd f cr = zsd g cr := by
  have q (i j : Nat) (p : Nat × Nat) (hp : p.1 < p.2 ∧ p.2 < 5) (hi : i < j ∧ j < 5) : zsp f cr i j p = zsp g cr i j p ∧ (zsp g cr i j p).1 < (zsp g cr i j p).2 ∧ (zsp g cr i j p).2 < 5 := ⟨zsp_cg h hp hi, zsp_b hp hi⟩
  obtain ⟨e1, b1⟩ := q 0 2 (0, 1) (by decide) (by decide)
  obtain ⟨e2, b2⟩ := q 0 3 _ b1 (by decide)
  obtain ⟨e3, b3⟩ := q 0 4 _ b2 (by decide)
  obtain ⟨e4, b4⟩ := q 1 2 _ b3 (by decide)
  obtain ⟨e5, b5⟩ := q 1 3 _ b4 (by decide)
  obtain ⟨e6, b6⟩ := q 1 4 _ b5 (by decide)
  obtain ⟨e7, b7⟩ := q 2 3 _ b6 (by decide)
  obtain ⟨e8, b8⟩ := q 2 4 _ b7 (by decide)
  obtain ⟨e9, b9⟩ := q 3 4 _ b8 (by decide)
  unfold zsd
  rw [e1, e2, e3, e4, e5, e6, e7, e8, e9]
theorem m_seed1 {N n : Nat} {T : zx_S} {K : Int32 → Int32 → Int32 → Option Int32} {cr : Nat → Nat} (h7 : ∀ k, k < 5 → T 7 k = nI (cr k) ∧ cr k < 49) {i j : Nat} (p : Nat × Nat) (hi : i < j ∧ j < 5) (h01 : ¬ (i = 0 ∧ j = 1)) :
    f_X1_seedPair_l16 N T K (n + 1) (nI (5 * p.1 + p.2)) (zsw (T 0) cr p.1 p.2) (nI i) (nI j) = f_X1_seedPair_l16 N T K n (nI (5 * (zsp (T 0) cr i j p).1 + (zsp (T 0) cr i j p).2)) (zsw (T 0) cr (zsp (T 0) cr i j p).1 (zsp (T 0) cr i j p).2) (nI i) (nI (j + 1)) := by
  obtain ⟨h1, h2⟩ := h7 i (by omega)
  obtain ⟨h3, h4⟩ := h7 j hi.2
  rw [f_X1_seedPair_l16]
  unfold f_X1_seedPair_j83 f_X1_seedPair_j77 f_X1_seedPair_j83 f_X1_seedPair_j93
  simp (disch := omega) only [↓zlm1, ↓zlm2, zi_e1, zi_e2, zi_1e, zi_12, zi_21, zi_1n, zi_n1, if_true, if_false, eq_self, not_false_eq_true, not_true_eq_false, nI_add, zi_4m, zi_5m, zi_8m, zi_mul4, zi_mul5, zi_sub, nI_leI, nI_ltI, nI_eq, zl0, zl1, zl2, zl3, zl4, zl5, zl6, zl8, zl9, zl24, zl32, zl48, zl49, zl99, zl100, zl120, zl376, zl377, zl378, zl379, zl380, ↓zi_192, zi_dec, Nat.add_zero, Nat.zero_add, m_n, m_b1, m_b2, m_rd, m_wr, m_get, m_put, nI_clamp, st_at, st_ne, up_at, up_ne, if_pos, if_neg, h1, h3, m_area, m_joinArea]
  have hw : zja (T 0) (cr i) (cr j) - zar (T 0) (cr i) - zar (T 0) (cr j) = zsw (T 0) cr i j := rfl
  rw [hw]
  have key : (if zsw (T 0) cr i j ≤ zsw (T 0) cr p.1 p.2 then f_X1_seedPair_l16 N T K n (nI (5 * p.1 + p.2)) (zsw (T 0) cr p.1 p.2) (nI i) (nI (j + 1)) else f_X1_seedPair_l16 N T K n (nI (5 * i + j)) (zsw (T 0) cr i j) (nI i) (nI (j + 1))) = f_X1_seedPair_l16 N T K n (nI (5 * (zsp (T 0) cr i j p).1 + (zsp (T 0) cr i j p).2)) (zsw (T 0) cr (zsp (T 0) cr i j p).1 (zsp (T 0) cr i j p).2) (nI i) (nI (j + 1)) := by
    unfold zsp
    by_cases q : zsw (T 0) cr i j ≤ zsw (T 0) cr p.1 p.2
    · rw [if_pos q, if_neg (fun z => zi_nle.mpr z q)]
    · rw [if_neg q, if_pos (zi_nle.mp q)]
  by_cases h0 : i = 0
  · have hj1 : ¬ j = 1 := fun z => h01 ⟨h0, z⟩
    simp (disch := omega) only [↓zlm1, ↓zlm2, zi_e1, zi_e2, zi_1e, zi_12, zi_21, zi_1n, zi_n1, if_true, if_false, eq_self, not_false_eq_true, not_true_eq_false, nI_add, zi_4m, zi_5m, zi_8m, zi_mul4, zi_mul5, zi_sub, nI_leI, nI_ltI, nI_eq, zl0, zl1, zl2, zl3, zl4, zl5, zl6, zl8, zl9, zl24, zl32, zl48, zl49, zl99, zl100, zl120, zl376, zl377, zl378, zl379, zl380, ↓zi_192, zi_dec, Nat.add_zero, Nat.zero_add, m_n, m_b1, m_b2, m_rd, m_wr, m_get, m_put, nI_clamp, st_at, st_ne, up_at, up_ne, if_pos, if_neg]
    exact key
  · simp (disch := omega) only [↓zlm1, ↓zlm2, zi_e1, zi_e2, zi_1e, zi_12, zi_21, zi_1n, zi_n1, if_true, if_false, eq_self, not_false_eq_true, not_true_eq_false, nI_add, zi_4m, zi_5m, zi_8m, zi_mul4, zi_mul5, zi_sub, nI_leI, nI_ltI, nI_eq, zl0, zl1, zl2, zl3, zl4, zl5, zl6, zl8, zl9, zl24, zl32, zl48, zl49, zl99, zl100, zl120, zl376, zl377, zl378, zl379, zl380, ↓zi_192, zi_dec, Nat.add_zero, Nat.zero_add, m_n, m_b1, m_b2, m_rd, m_wr, m_get, m_put, nI_clamp, st_at, st_ne, up_at, up_ne, if_pos, if_neg]
    exact key
theorem m_seed0 {N n : Nat} {T : zx_S} {K : Int32 → Int32 → Int32 → Option Int32} {cr : Nat → Nat} (h7 : ∀ k, k < 5 → T 7 k = nI (cr k) ∧ cr k < 49) :
    f_X1_seedPair_l16 N T K (n + 1) (nI 1) (nI 0) (nI 0) (nI 1) = f_X1_seedPair_l16 N T K n (nI (5 * 0 + 1)) (zsw (T 0) cr 0 1) (nI 0) (nI 2) := by
  obtain ⟨h1, h2⟩ := h7 0 (by omega)
  obtain ⟨h3, h4⟩ := h7 1 (by omega)
  rw [f_X1_seedPair_l16]
  unfold f_X1_seedPair_j83 f_X1_seedPair_j93
  simp (disch := omega) only [↓zlm1, ↓zlm2, zi_e1, zi_e2, zi_1e, zi_12, zi_21, zi_1n, zi_n1, if_true, if_false, eq_self, not_false_eq_true, not_true_eq_false, nI_add, zi_4m, zi_5m, zi_8m, zi_mul4, zi_mul5, zi_sub, nI_leI, nI_ltI, nI_eq, zl0, zl1, zl2, zl3, zl4, zl5, zl6, zl8, zl9, zl24, zl32, zl48, zl49, zl99, zl100, zl120, zl376, zl377, zl378, zl379, zl380, ↓zi_192, zi_dec, Nat.add_zero, Nat.zero_add, m_n, m_b1, m_b2, m_rd, m_wr, m_get, m_put, nI_clamp, st_at, st_ne, up_at, up_ne, if_pos, if_neg, h1, h3, m_area, m_joinArea]
  rfl
theorem m_seedE {N n : Nat} {T : zx_S} {K : Int32 → Int32 → Int32 → Option Int32} {a b : Int32} {i : Nat} : f_X1_seedPair_l16 N T K (n + 1) a b (nI i) (nI 5) = K a b (nI (i + 1)) := by
  rw [f_X1_seedPair_l16]
  simp (disch := omega) only [↓zlm1, ↓zlm2, zi_e1, zi_e2, zi_1e, zi_12, zi_21, zi_1n, zi_n1, if_true, if_false, eq_self, not_false_eq_true, not_true_eq_false, nI_add, zi_4m, zi_5m, zi_8m, zi_mul4, zi_mul5, zi_sub, nI_leI, nI_ltI, nI_eq, zl0, zl1, zl2, zl3, zl4, zl5, zl6, zl8, zl9, zl24, zl32, zl48, zl49, zl99, zl100, zl120, zl376, zl377, zl378, zl379, zl380, ↓zi_192, zi_dec, Nat.add_zero, Nat.zero_add, m_n, m_b1, m_b2, m_rd, m_wr, m_get, m_put, nI_clamp, st_at, st_ne, up_at, up_ne, if_pos, if_neg]
theorem m_seedO {N n : Nat} {T : zx_S} {a b : Int32} {i : Nat} (hi : i < 5) : f_X1_seedPair_l6 N T (n + 1) a b (nI i) = f_X1_seedPair_l16 N T (f_X1_seedPair_l6 N T n) N a b (nI i) (nI (i + 1)) := by
  rw [f_X1_seedPair_l6]
  simp (disch := omega) only [↓zlm1, ↓zlm2, zi_e1, zi_e2, zi_1e, zi_12, zi_21, zi_1n, zi_n1, if_true, if_false, eq_self, not_false_eq_true, not_true_eq_false, nI_add, zi_4m, zi_5m, zi_8m, zi_mul4, zi_mul5, zi_sub, nI_leI, nI_ltI, nI_eq, zl0, zl1, zl2, zl3, zl4, zl5, zl6, zl8, zl9, zl24, zl32, zl48, zl49, zl99, zl100, zl120, zl376, zl377, zl378, zl379, zl380, ↓zi_192, zi_dec, Nat.add_zero, Nat.zero_add, m_n, m_b1, m_b2, m_rd, m_wr, m_get, m_put, nI_clamp, st_at, st_ne, up_at, up_ne, if_pos, if_neg]
theorem m_seeds {N : Nat} (hN : 100 < N) {T : zx_S} {cr : Nat → Nat} (h7 : ∀ k, k < 5 → T 7 k = nI (cr k) ∧ cr k < 49) :
    f_X1_seedPair N T = some (nI (5 * (zsd (T 0) cr).1 + (zsd (T 0) cr).2)) := by
  obtain ⟨n, hn⟩ : ∃ n, N = n + 7 := ⟨N - 7, by omega⟩
  have hs : ∀ m i j p (hi : i < j ∧ j < 5) (h01 : ¬ (i = 0 ∧ j = 1)) K, f_X1_seedPair_l16 N T K (m + 1) (nI (5 * p.1 + p.2)) (zsw (T 0) cr p.1 p.2) (nI i) (nI j) = f_X1_seedPair_l16 N T K m (nI (5 * (zsp (T 0) cr i j p).1 + (zsp (T 0) cr i j p).2)) (zsw (T 0) cr (zsp (T 0) cr i j p).1 (zsp (T 0) cr i j p).2) (nI i) (nI (j + 1)) := fun m i j p hi h01 K => m_seed1 h7 p hi h01
  have fuel : ∀ (K : Int32 → Int32 → Int32 → Option Int32) a b i j, f_X1_seedPair_l16 N T K N a b i j = f_X1_seedPair_l16 N T K (n + 7) a b i j := fun K a b i j => by rw [← hn]
  unfold f_X1_seedPair zsd
  rw [zl0, zl1]
  have e0 : f_X1_seedPair_l6 N T N (nI 1) (nI 0) (nI 0) = f_X1_seedPair_l6 N T (n + 7) (nI 1) (nI 0) (nI 0) := by rw [← hn]
  rw [e0]
  rw [m_seedO (by decide), fuel, m_seed0 h7, hs _ 0 2 (0, 1) (by decide) (by decide), hs _ 0 3 _ (by decide) (by decide), hs _ 0 4 _ (by decide) (by decide), m_seedE]
  rw [m_seedO (by decide), fuel, hs _ 1 2 _ (by decide) (by decide), hs _ 1 3 _ (by decide) (by decide), hs _ 1 4 _ (by decide) (by decide), m_seedE]
  rw [m_seedO (by decide), fuel, hs _ 2 3 _ (by decide) (by decide), hs _ 2 4 _ (by decide) (by decide), m_seedE]
  rw [m_seedO (by decide), fuel, hs _ 3 4 _ (by decide) (by decide), m_seedE]
  rw [m_seedO (by decide), fuel, m_seedE]
  rw [f_X1_seedPair_l6]
  simp (disch := omega) only [↓zlm1, ↓zlm2, zi_e1, zi_e2, zi_1e, zi_12, zi_21, zi_1n, zi_n1, if_true, if_false, eq_self, not_false_eq_true, not_true_eq_false, nI_add, zi_4m, zi_5m, zi_8m, zi_mul4, zi_mul5, zi_sub, nI_leI, nI_ltI, nI_eq, zl0, zl1, zl2, zl3, zl4, zl5, zl6, zl8, zl9, zl24, zl32, zl48, zl49, zl99, zl100, zl120, zl376, zl377, zl378, zl379, zl380, ↓zi_192, zi_dec, Nat.add_zero, Nat.zero_add, m_n, m_b1, m_b2, m_rd, m_wr, m_get, m_put, nI_clamp, st_at, st_ne, up_at, up_ne, if_pos, if_neg]
