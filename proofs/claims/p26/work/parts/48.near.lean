/-! distances and ranks -/
def zbe (p lo hi : Int32) : Int32 := if lo ≤ p then (if p ≤ hi then 0 else p - hi) else lo - p
def zdi (r : Nat → Int32) (i : Nat) (px py : Int32) : Int32 := zbe px (r (5 * i + 1)) (r (5 * i + 3)) * zbe px (r (5 * i + 1)) (r (5 * i + 3)) + zbe py (r (5 * i + 2)) (r (5 * i + 4)) * zbe py (r (5 * i + 2)) (r (5 * i + 4))
theorem r_beyond {N : Nat} {p lo hi : Int32} : f_X3_beyond N p lo hi = some (zbe p lo hi) := by
  unfold f_X3_beyond zbe
  split
  · split <;> rfl
  · rfl
theorem r_dist {N : Nat} {r : Nat → Int32} {i : Nat} {px py : Int32} (hi : i < 24) : f_X3_distance N 380 (nI i) px py r = some (zdi r i px py) := by
  unfold f_X3_distance zdi
  simp (disch := omega) only [↓zlm1, ↓zlm2, zi_e1, zi_e2, zi_1e, zi_12, zi_21, zi_1n, zi_n1, if_true, if_false, eq_self, not_false_eq_true, not_true_eq_false, nI_add, zi_4m, zi_5m, zi_8m, zi_mul4, zi_mul5, zi_sub, nI_leI, nI_ltI, nI_eq, zl0, zl1, zl2, zl3, zl4, zl5, zl6, zl8, zl9, zl24, zl32, zl48, zl49, zl99, zl100, zl120, zl376, zl377, zl378, zl379, zl380, ↓zi_192, zi_dec, Nat.add_zero, Nat.zero_add, m_n, m_b1, m_b2, m_rd, m_wr, m_get, m_put, nI_clamp, st_at, st_ne, up_at, up_ne, if_pos, if_neg, r_beyond]
theorem z_bey {p a c : Int32} (ha : 0 ≤ a.toInt) (hac : a.toInt ≤ c.toInt) (hc : c.toInt ≤ 99) (hp : 0 ≤ p.toInt) (hp2 : p.toInt ≤ 99) : (if 0 < (if a - p < p - c then p - c else a - p) then (if a - p < p - c then p - c else a - p) else 0) = zbe p a c := by
  have s1 : (a - p).toInt = a.toInt - p.toInt := zi_subT (by omega) (by omega)
  have s2 : (p - c).toInt = p.toInt - c.toInt := zi_subT (by omega) (by omega)
  have z0 : ∀ x : Int32, 0 < x ↔ 0 < x.toInt := fun x => by rw [zi_ltt]; rfl
  unfold zbe
  by_cases h1 : a.toInt ≤ p.toInt
  · rw [if_pos (zi_le.mpr h1)]
    by_cases h2 : p.toInt ≤ c.toInt
    · rw [if_pos (zi_le.mpr h2), if_neg]
      rw [z0]
      split <;> omega
    · have h3 : a - p < p - c := by rw [zi_ltt]; omega
      rw [if_neg (fun h => h2 (zi_le.mp h)), if_pos h3, if_pos (by rw [z0]; omega)]
  · have h3 : ¬ a - p < p - c := by rw [zi_ltt]; omega
    rw [if_neg (fun h => h1 (zi_le.mp h)), if_neg h3, if_pos (by rw [z0]; omega)]
theorem m_dist {N w : Nat} {T S : zx_S} {t : ZT} {i : Nat} {px py : Int32} (hQ : zQ w T S t) (hi : i < 24) (hp : zpr t i = true) (hx : 0 ≤ px.toInt ∧ px.toInt ≤ 99) (hy : 0 ≤ py.toInt ∧ py.toInt ≤ 99) : f_X1_distance N (nI i) px py T = some (zdi (S w) i px py) := by
  obtain ⟨hT, hr, hwf, hbx, _⟩ := hQ
  obtain ⟨b1, b2, b3, b4, b5, b6⟩ := zwf_cr hwf i hi hp
  have k0 := hbx.1 i 0 hi (by omega) hp
  have k1 := hbx.1 i 1 hi (by omega) hp
  have k2 := hbx.1 i 2 hi (by omega) hp
  have k3 := hbx.1 i 3 hi (by omega) hp
  have q0 := hr.2.1 i 0 hi (by omega) hp
  have q1 := hr.2.1 i 1 hi (by omega) hp
  have q2 := hr.2.1 i 2 hi (by omega) hp
  have q3 := hr.2.1 i 3 hi (by omega) hp
  rw [Nat.add_zero] at q0
  rw [show 5 * i + 1 + 1 = 5 * i + 2 from rfl] at q1
  rw [show 5 * i + 1 + 2 = 5 * i + 3 from rfl] at q2
  rw [show 5 * i + 1 + 3 = 5 * i + 4 from rfl] at q3
  unfold f_X1_distance
  rw [zl0, m_corner (by omega) (by omega), m_b1, zl2, m_corner (by omega) (by omega), m_b1, zl1, m_corner (by omega) (by omega), zl3, m_corner (by omega) (by omega), m_n, m_n, m_b1, m_b1, m_n, m_n, k0, k1, k2, k3, ← zl0]
  rw [z_bey b1 b2 b3 hx.1 hx.2, z_bey b4 b5 b6 hy.1 hy.2]
  unfold zdi
  rw [q0, q1, q2, q3]
theorem z_near_c {N w : Nat} {T S : zx_S} {t : ZT} {px py rank D : Int32} {c : Nat} (hQ : zQ w T S t) (hx : 0 ≤ px.toInt ∧ px.toInt ≤ 99) (hy : 0 ≤ py.toInt ∧ py.toInt ≤ 99) {K : Int32 → Int32 → Int32 → Int32 → Option Int32} : ∀ (d k n n' : Nat) (acc : Int32), d < n → d < n' → k + d = 24 →
    ∃ acc' n2, f_X1_countNearer_l15 N T n (nI c) px py D acc (nI k) = some acc' ∧ f_X3_nearestOn_l26 N 380 (S w) K n' px py rank (nI c) D acc (nI k) = f_X3_nearestOn_l26 N 380 (S w) K (n2 + 1) px py rank (nI c) D acc' (nI 24)
  | 0, k, n + 1, n' + 1, acc, hn, hn', hk => by
    obtain rfl : k = 24 := by omega
    refine ⟨acc, n', ?_, rfl⟩
    rw [f_X1_countNearer_l15, if_pos (by decide)]
  | d + 1, k, n + 1, n' + 1, acc, hn, hn', hk => by
    have ih := fun acc => z_near_c (N := N) (rank := rank) (D := D) (c := c) hQ hx hy (K := K) d (k + 1) n n' acc (by omega) (by omega) (by omega)
    have h24 : ¬ (24 : Int32) ≤ nI k := by rw [zl24, nI_leI (by omega) (by omega)]; omega
    have hk1 : nI k + 1 = nI (k + 1) := by rw [zl1, nI_add]
    rw [f_X1_countNearer_l15, if_neg h24, f_X3_nearestOn_l26, if_neg h24, r_dist (by omega), m_b1]
    unfold f_X1_countNearer_j61 f_X1_countNearer_j64 f_X3_nearestOn_j79 f_X3_nearestOn_j75 f_X3_nearestOn_j80
    rw [hk1]
    simp only [m_n, Int32.add_zero]
    rcases z_has (N := N) hQ (nI k) with ⟨i, hi, e, hp, c1, c2⟩ | ⟨hno, c1, c2⟩
    · have := (nI_eq (by omega) (by omega)).mp e
      subst this
      rw [c1, m_b1, if_neg (show ¬ nI 1 = 0 by decide), c2, m_b1, if_neg (show ¬ nI 1 = 0 by decide), m_dist hQ (by omega) hp hx hy, m_b1]
      by_cases q1 : zdi (S w) k px py < D
      · rw [if_pos q1, if_pos q1]; exact ih (acc + 1)
      · rw [if_neg q1, if_neg q1]
        by_cases q2 : zdi (S w) k px py = D
        · rw [if_pos q2, if_pos q2]
          by_cases q3 : nI c ≤ nI k
          · rw [if_pos q3, if_pos q3]; exact ih acc
          · rw [if_neg q3, if_neg q3]; exact ih (acc + 1)
        · rw [if_neg q2, if_neg q2]; exact ih acc
    · rw [c1, m_b1, if_pos (by decide), c2, m_b1, if_pos (by decide)]
      exact ih acc
theorem z_near_l {N w : Nat} (hN : 100 < N) {T S : zx_S} {t : ZT} {px py rank : Int32} (hQ : zQ w T S t) (hx : 0 ≤ px.toInt ∧ px.toInt ≤ 99) (hy : 0 ≤ py.toInt ∧ py.toInt ≤ 99) : ∀ (d k n n' : Nat), d < n → d < n' → k + d = 24 →
    ∃ x, f_X1_ranked_l3 N T n px py rank (nI k) = some x ∧ f_X3_nearestOn_l3 N 380 (S w) n' px py rank (nI k) = some x
  | 0, k, n + 1, n' + 1, hn, hn', hk => by
    obtain rfl : k = 24 := by omega
    exact ⟨-1, by rw [f_X1_ranked_l3, if_pos (by decide)], by rw [f_X3_nearestOn_l3, if_pos (by decide)]⟩
  | d + 1, k, n + 1, n' + 1, hn, hn', hk => by
    have ih := z_near_l hN hQ hx hy (rank := rank) d (k + 1) n n' (by omega) (by omega) (by omega)
    have h24 : ¬ (24 : Int32) ≤ nI k := by rw [zl24, nI_leI (by omega) (by omega)]; omega
    have hk1 : nI k + 1 = nI (k + 1) := by rw [zl1, nI_add]
    obtain ⟨acc, n2, e1, e2⟩ := z_near_c (N := N) (rank := rank) (D := zdi (S w) k px py) (c := k) hQ hx hy (K := f_X3_nearestOn_l3 N 380 (S w) n') 24 0 N N 0 (by omega) (by omega) (by omega)
    rw [f_X1_ranked_l3, if_neg h24, f_X3_nearestOn_l3, if_neg h24, r_dist (by omega), m_b1]
    unfold f_X1_ranked_j34 f_X1_countNearer
    rw [hk1, zl0]
    rw [zl0] at e1 e2
    rw [e2, f_X3_nearestOn_l26, if_pos (by decide)]
    unfold f_X3_nearestOn_j107
    rw [hk1]
    simp only [m_n]
    rcases z_has (N := N) hQ (nI k) with ⟨i, hi, e, hp, c1, c2⟩ | ⟨hno, c1, c2⟩
    · have := (nI_eq (by omega) (by omega)).mp e
      subst this
      rw [c1, m_b1, if_neg (by decide), c2, m_b1, if_neg (by decide), m_dist hQ (by omega) hp hx hy, m_b1, e1, m_b1]
      by_cases q : acc = rank
      · rw [if_pos q, if_pos q]; exact ⟨_, rfl, rfl⟩
      · rw [if_neg q, if_neg q]; exact ih
    · rw [c1, m_b1, if_pos (by decide), c2, m_b1, if_pos (by decide)]
      exact ih
theorem z_near {N w : Nat} (hN : 100 < N) {T S : zx_S} {t : ZT} {px py rank : Int32} (hQ : zQ w T S t) (hx : 0 ≤ px.toInt ∧ px.toInt ≤ 99) (hy : 0 ≤ py.toInt ∧ py.toInt ≤ 99) : ∃ x, f_X1_ranked N px py rank T = some x ∧ f_X3_nearestOn N 380 px py rank (S w) = some x := by
  unfold f_X1_ranked f_X3_nearestOn
  rw [zl0]
  exact z_near_l hN hQ hx hy 24 0 N N (by omega) (by omega) (by omega)
theorem z_isCell {N : Nat} {a b : Int32} : (((0 ≤ a.toInt ∧ a.toInt ≤ 99) ∧ 0 ≤ b.toInt ∧ b.toInt ≤ 99) ∧ f_X2_isCell N a b = some (nI 1) ∧ f_X3_isCell N a b = some (nI 1)) ∨ (f_X2_isCell N a b = some (nI 0) ∧ f_X3_isCell N a b = some (nI 0)) := by
  have z100 : ∀ x : Int32, (100 : Int32) ≤ x ↔ 100 ≤ x.toInt := fun x => by rw [Int32.le_iff_toInt_le]; rfl
  have i1 := m_in (N := N) (x := a) (lo := 0) (hi := 99) (a := 0) (b := 99) (by decide) (by decide)
  have i2 := m_in (N := N) (x := b) (lo := 0) (hi := 99) (a := 0) (b := 99) (by decide) (by decide)
  by_cases c1 : 0 ≤ a.toInt ∧ a.toInt ≤ 99
  · rw [if_pos c1] at i1
    by_cases c2 : 0 ≤ b.toInt ∧ b.toInt ≤ 99
    · rw [if_pos c2] at i2
      refine Or.inl ⟨⟨c1, c2⟩, ?_, ?_⟩
      · unfold f_X2_isCell
        rw [if_neg (by rw [zi_lt0]; omega), if_neg (by rw [z100]; omega), if_neg (by rw [zi_lt0]; omega), if_neg (by rw [z100]; omega)]; rfl
      · unfold f_X3_isCell
        rw [i1, m_b1, if_neg (by decide), i2, m_b1, if_neg (by decide)]; rfl
    · rw [if_neg c2] at i2
      refine Or.inr ⟨?_, ?_⟩
      · unfold f_X2_isCell
        rw [if_neg (by rw [zi_lt0]; omega), if_neg (by rw [z100]; omega)]
        by_cases q : b.toInt < 0
        · rw [if_pos (by rw [zi_lt0]; omega)]; rfl
        · rw [if_neg (by rw [zi_lt0]; omega), if_pos (by rw [z100]; omega)]; rfl
      · unfold f_X3_isCell
        rw [i1, m_b1, if_neg (by decide), i2, m_b1, if_pos (by decide)]; rfl
  · rw [if_neg c1] at i1
    refine Or.inr ⟨?_, ?_⟩
    · unfold f_X2_isCell
      by_cases q : a.toInt < 0
      · rw [if_pos (by rw [zi_lt0]; omega)]; rfl
      · rw [if_neg (by rw [zi_lt0]; omega), if_pos (by rw [z100]; omega)]; rfl
    · unfold f_X3_isCell
      rw [i1, m_b1, if_pos (by decide)]; rfl
theorem op_nearest {N : Nat} (hN : 100 < N) : zs_nearest N ZInv := by
  intro a b c B S hI
  obtain ⟨t, S0, eS0, hQ, hQ0, fS0, h120, h121, h122, hI0⟩ := z_setup hI
  rcases z_isCell (N := N) (a := a) (b := b) with ⟨⟨ha, hb⟩, i1, i2⟩ | ⟨i1, i2⟩
  · by_cases hc : 0 ≤ c.toInt
    · obtain ⟨x, e1, e2⟩ := z_near (N := N) (rank := c) hN hQ0 ha hb
      refine ⟨(x, (0, B)), x, S0, ?_, ?_, hI0, Or.inl ⟨rfl, h120, rfl⟩⟩
      · unfold f_X2_nearest
        rw [i1, m_b1, if_neg (by decide), if_pos (by rw [zi_le]; exact hc), e1, m_b1]
      · unfold f_X3_nearest
        rw [i2, m_b1, if_neg (by decide), if_neg (by rw [zi_lt0]; omega)]
        unfold f_X3_nearest_j18
        rw [m_ref0, m_b2, if_pos (by decide), ← eS0, e2, m_b1]
    · refine ⟨(0, (1, B)), 0, _, ?_, ?_, ZInv_ref (k := 1) hI, Or.inr ⟨rfl, by rw [st_at, up_at]⟩⟩
      · unfold f_X2_nearest
        rw [i1, m_b1, if_neg (by decide), if_neg (by rw [zi_le]; exact hc)]
      · unfold f_X3_nearest
        rw [i2, m_b1, if_neg (by decide), if_pos (by rw [zi_lt0]; omega)]
        unfold f_X3_nearest_j17 f_X3_nearest_j18
        rw [m_ref1, m_b2, if_neg (by decide)]
  · refine ⟨(0, (1, B)), 0, _, ?_, ?_, ZInv_ref (k := 1) hI, Or.inr ⟨rfl, by rw [st_at, up_at]⟩⟩
    · unfold f_X2_nearest
      rw [i1, m_b1, if_pos (by decide)]
    · unfold f_X3_nearest
      rw [i2, m_b1, if_pos (by decide)]
      unfold f_X3_nearest_j17 f_X3_nearest_j18
      rw [m_ref1, m_b2, if_neg (by decide)]
/-- the chosen node -/
theorem op_chosen {N : Nat} (hN : 100 < N) : zs_chosen N ZInv := by
  intro a b c d B S hI
  obtain ⟨t, S0, eS0, hQ, hQ0, fS0, h120, h121, h122, hI0⟩ := z_setup hI
  rcases z_isBox (N := N) (a := a) (b := b) (c := c) (d := d) with ⟨hb, i1, i2⟩ | ⟨hb, i1, i2⟩
  · obtain ⟨T1, S1, e1, e2, f1, f2, hQ1, hbd, hor, hk, hA, _⟩ := z_win (N := N) hN hQ0 hb
    have hw := hQ1.2.2.1
    have hR := zwf_lv hw (by decide)
    have ht := zwf_zb hw (by omega)
    have hg := zwf_zg hw (zwf_un24 hw)
    obtain ⟨g, eg⟩ : ∃ g, g = upd (upd (upd (upd (S1 6) 220 a) 221 b) 222 c) 223 d := ⟨_, rfl⟩
    obtain ⟨S2, eS2⟩ : ∃ S2, S2 = zx_st (zx_st (zx_st (zx_st S1 6 (upd (S1 6) 220 a)) 6 (upd (upd (S1 6) 220 a) 221 b)) 6 (upd (upd (upd (S1 6) 220 a) 221 b) 222 c)) 6 g := ⟨_, rfl⟩
    have fS : zfr [6] S1 S2 := by rw [eS2]; exact zfr_st (by simp) (zfr_st (by simp) (zfr_st (by simp) (zfr_st (by simp) zfr_refl)))
    have hS26 : S2 6 = g := by rw [eS2, st_at]
    have hlow : ∀ j, j < 220 → g j = S1 6 j := fun j hj => by rw [eg, up_ne (by omega), up_ne (by omega), up_ne (by omega), up_ne (by omega)]
    have hQ2 : zQ 1 T1 S2 t := zQ_fr hQ1 zfr_refl (fS 1 (by decide))
    have hA2 : ∀ e, zgd t e → zbd (T1 0) e ∧ ∀ k, k < 4 → T1 0 (4 * e + k) = S2 6 (4 * e + k) := by
      intro e he
      obtain ⟨h1, h2⟩ := hA e he
      refine ⟨h1, fun k hk => ?_⟩
      have he48 : e < 48 := by rcases he with z | z <;> omega
      rw [hS26, hlow _ (by omega)]
      exact h2 k hk
    have hcc : ∀ k, k < 4 → T1 0 (4 * 48 + k) = S2 6 (4 * 55 + k) := by
      intro k hk4
      rw [hk k hk4, hS26, eg]
      unfold zrk
      rcases (show k = 0 ∨ k = 1 ∨ k = 2 ∨ k = 3 by omega) with rfl | rfl | rfl | rfl
      · rw [up_ne (by decide), up_ne (by decide), up_ne (by decide), show 4 * 55 + 0 = 220 from rfl, up_at, if_pos rfl]
      · rw [up_ne (by decide), up_ne (by decide), show 4 * 55 + 1 = 221 from rfl, up_at, if_neg (by decide), if_pos rfl]
      · rw [up_ne (by decide), show 4 * 55 + 2 = 222 from rfl, up_at, if_neg (by decide), if_neg (by decide), if_pos rfl]
      · rw [show 4 * 55 + 3 = 223 from rfl, up_at, if_neg (by decide), if_neg (by decide), if_neg (by decide)]
    have hrt := hw.2.2.2.2.2.2.1
    obtain ⟨s', ⟨hs', _⟩, hl', r1, r2⟩ := z_reach (N := N) (w := 1) hN hQ2.1 hQ2.2.1 ht hg hA2 (fun s hs => zwf_ne hw (zwf_un24 hw) hs) (c := 48) (c' := 55) (v := 1) (by decide) (by decide) hbd hcc (by decide) (zlv t (zrt t) - 1) N N (zrt t) 0 (by omega) (by omega) hrt.1 (by omega) (by omega) ⟨0, rfl⟩
    have hs0 : zlv t s' ≠ 0 := by omega
    obtain ⟨S3, d1, d2, d3, d4⟩ := r_number (N := N) (w := 1) hN (by decide) (by decide) (by decide) hQ2.2.1 hw
    obtain ⟨T2, j, n1, n2, n3, n4⟩ := m_numberOf (N := N) hN hQ2.1 hw hs0
    have hj := d3 j n2
    rw [n3] at hj
    have hQ3 : zQ 1 T2 S3 t := zQ_fr hQ2 (zfr_sub n4 (by decide)) (d4 1 (by decide))
    have hroot : T1 10 0 = nI (24 + zrt t) := hQ1.1.2.2.2.2.2.2
    have hroot2 : S1 1 376 = nI (zrt t) := hQ1.2.1.2.2.2.2.2
    obtain ⟨j1, j2⟩ := z_finQ hI0 h120 hQ3 (zfr_trans (zfr_sub f2 (by decide)) (zfr_trans (zfr_sub fS (by decide)) (zfr_sub d4 (by decide))))
    refine ⟨(nI j, (0, zx_sb B 0 T2)), nI j, S3, ?_, ?_, j1, Or.inl ⟨rfl, j2, rfl⟩⟩
    · unfold f_X2_chosen f_X1_reached
      rw [i1, m_b1, if_neg (by decide), zl48, e1, m_b1, m_n, zsb_at, hroot, zl0, r1, m_b1, n1, m_b2, m_n, zsb_sb]
    · unfold f_X3_chosen
      rw [i2, m_b1, if_neg (by decide)]
      unfold f_X3_chosen_j17 f_X3_reach
      rw [m_ref0, m_b2, if_pos (by decide), ← eS0, e2, m_b1]
      rw [show (4 * 55 : Int32) = nI 220 by decide, show nI 220 + 1 = nI 221 by decide, show nI 220 + 2 = nI 222 by decide, show nI 220 + 3 = nI 223 by decide]
      simp (disch := omega) only [m_n, m_b1, m_b2, m_rd, m_wr, m_get, m_put, nI_clamp, st_at, st_ne, up_at, up_ne, if_pos, if_neg]
      rw [← eg, ← eS2, zl376, m_rd (by decide) (by decide), hroot2, show (55 : Int32) = nI 55 from rfl, zl0, r2, m_b1, d1, m_b2, m_rd (by omega) (by decide), hj]
  · refine ⟨(0, (1, B)), 0, _, ?_, ?_, ZInv_ref (k := 1) hI, Or.inr ⟨rfl, by rw [st_at, up_at]⟩⟩
    · unfold f_X2_chosen
      rw [i1, m_b1, if_pos (by decide)]
    · unfold f_X3_chosen
      rw [i2, m_b1, if_pos (by decide)]
      unfold f_X3_chosen_j17
      rw [m_ref1, m_b2, if_neg (by decide)]
