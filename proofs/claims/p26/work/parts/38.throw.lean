/-! fitUpward; the flags; an entry is thrown out -/
theorem zLC_ext {f g : Nat → Int32} {t t' : ZT} {s : Nat} (h : zLC f t s) (he : zes t' s = zes t s) (hs : ∀ k, k < 4 → g (4 * (24 + s) + k) = f (4 * (24 + s) + k)) (ho : ∀ x, x ∈ zes t s → ∀ k, k < 4 → g (4 * x + k) = f (4 * x + k)) : zLC g t' s := by
  intro hne k hk
  rw [he] at hne ⊢
  rw [hs k hk, h hne k hk]
  exact zjn_congr (fun x hx => (ho x hx k hk).symm)
theorem z_fitUp {N : Nat} (hN : 100 < N) {t : ZT} (ht : zb t) (hu : zuq t) (hg : zg t) (hc : zcr t) : ∀ (d n s step : Nat) (T : zx_S), d < n → zlv t s + d = 7 → step + d ≤ 8 → zlv t s ≠ 0 → zcx T t [] → zrb (T 0) t → (∀ j, zlv t j ≠ 0 → j ≠ s → zLC (T 0) t j) →
    ∃ T', f_X1_fitUpward_l4 N n (nI (24 + s)) (nI step) T = some T' ∧ zfr [0] T T' ∧ zrb (T' 0) t ∧ (∀ j, zlv t j ≠ 0 → zLC (T' 0) t j)
  | 0, n + 1, s, step, T, _, hl, _, _, _, _, _ => by
    have := ht.2.2.2.2 s
    omega
  | d + 1, n + 1, s, step, T, hn, hl, hst, hs0, hT, hrb, hLC => by
    have hs : s < 24 := zb_lt ht hs0
    have hl5 := ht.2.2.2.1 s
    obtain ⟨T1, e1, f1, g1, o1⟩ := m_fit (N := N) hN (T := T) (a := 24 + s) (l := zes t s) (by omega) (hT.2.2.1 s hs hs0) hl5 (hT.2.2.2.1 s hs) (fun x hx => by have := (ht.1 s x hx).1; omega) (fun x k hx hk => by
      refine zbounds ht hg hrb hc (zlv t s - 1) (fun j z1 z2 => hLC j z1 (fun z => by rw [z] at z2; omega)) x ?_ (hg s x hx) k hk
      have := (ht.1 s x hx).2.1
      omega)
    have hT1 : zcx T1 t [] := zcx_keep hT (f1 1 (by decide)) (f1 2 (by decide)) (f1 3 (by decide)) (f1 4 (by decide)) (by rw [f1 10 (by decide)])
    have hrb1 : zrb (T1 0) t := fun i k hi hk hp => by rw [o1 _ (by omega)]; exact hrb i k hi hk hp
    have hLs : zLC (T1 0) t s := by
      intro hne k hk
      rw [g1 hne k hk]
      exact zjn_congr (fun x hx => by
        have := zb_self ht hx
        rw [o1 _ (by omega)])
    have hLo : ∀ j, zlv t j ≠ 0 → j ≠ s → 24 + s ∉ zes t j → zLC (T1 0) t j := fun j z1 z2 z3 => by
      refine zLC_ext (hLC j z1 z2) rfl (fun k hk => o1 _ (by omega)) (fun x hx k hk => ?_)
      have : x ≠ 24 + s := fun z => z3 (z ▸ hx)
      exact o1 _ (by omega)
    by_cases hp : ∃ p, 24 + s ∈ zes t p
    · obtain ⟨p, hp⟩ := hp
      have hpi := (ht.1 p _ hp).2.1
      unfold zil at hpi
      rw [if_neg (by omega), Nat.add_sub_cancel_left] at hpi
      have hp0 : zlv t p ≠ 0 := by omega
      have hp24 := zb_lt ht hp0
      have h2 := hT1.2.2.2.2.1 p _ hp24 hp
      have hp6 := ht.2.2.2.2 p
      obtain ⟨T2, e2, f2, g2, o2⟩ := z_fitUp hN ht hu hg hc d n p (step + 1) T1 (by omega) (by omega) (by omega) hp0 hT1 hrb1 (fun j z1 z2 => by
        by_cases hj : j = s
        · rw [hj]; exact hLs
        · exact hLo j z1 hj (fun z => z2 (hu.2 j p _ z hp)))
      refine ⟨T2, ?_, zfr_trans f1 f2, g2, o2⟩
      rw [f_X1_fitUpward_l4]
      simp (disch := omega) only [↓zlm1, ↓zlm2, zi_e1, zi_e2, zi_1e, zi_12, zi_21, zi_1n, zi_n1, if_true, if_false, eq_self, not_false_eq_true, not_true_eq_false, nI_add, zi_4m, zi_5m, zi_8m, zi_mul4, zi_mul5, zi_sub, nI_leI, nI_ltI, nI_eq, zl0, zl1, zl2, zl3, zl4, zl5, zl6, zl8, zl9, zl24, zl32, zl48, zl49, zl99, zl100, zl120, zl376, zl377, zl378, zl379, zl380, ↓zi_192, zi_dec, Nat.add_zero, Nat.zero_add, m_n, m_b1, m_b2, m_rd, m_wr, m_get, m_put, nI_clamp, st_at, st_ne, up_at, up_ne, if_pos, if_neg, e1, h2, e2]
    · have h2 := hT1.2.2.2.2.2.1 (24 + s) (by omega) (by simp) (fun j _ z => hp ⟨j, z⟩)
      refine ⟨T1, ?_, f1, hrb1, fun j z1 => ?_⟩
      · obtain ⟨n', rfl⟩ : ∃ n', n = n' + 1 := ⟨n - 1, by omega⟩
        rw [f_X1_fitUpward_l4]
        simp (disch := omega) only [↓zlm1, ↓zlm2, zi_e1, zi_e2, zi_1e, zi_12, zi_21, zi_1n, zi_n1, if_true, if_false, eq_self, not_false_eq_true, not_true_eq_false, nI_add, zi_4m, zi_5m, zi_8m, zi_mul4, zi_mul5, zi_sub, nI_leI, nI_ltI, nI_eq, zl0, zl1, zl2, zl3, zl4, zl5, zl6, zl8, zl9, zl24, zl32, zl48, zl49, zl99, zl100, zl120, zl376, zl377, zl378, zl379, zl380, ↓zi_192, zi_dec, Nat.add_zero, Nat.zero_add, m_n, m_b1, m_b2, m_rd, m_wr, m_get, m_put, nI_clamp, st_at, st_ne, up_at, up_ne, if_pos, if_neg, e1, h2]
        rw [f_X1_fitUpward_l4]
        simp (disch := omega) only [↓zlm1, ↓zlm2, zi_e1, zi_e2, zi_1e, zi_12, zi_21, zi_1n, zi_n1, if_true, if_false, eq_self, not_false_eq_true, not_true_eq_false, nI_add, zi_4m, zi_5m, zi_8m, zi_mul4, zi_mul5, zi_sub, nI_leI, nI_ltI, nI_eq, zl0, zl1, zl2, zl3, zl4, zl5, zl6, zl8, zl9, zl24, zl32, zl48, zl49, zl99, zl100, zl120, zl376, zl377, zl378, zl379, zl380, ↓zi_192, zi_dec, Nat.add_zero, Nat.zero_add, m_n, m_b1, m_b2, m_rd, m_wr, m_get, m_put, nI_clamp, st_at, st_ne, up_at, up_ne, if_pos, if_neg, ite_self]
      · by_cases hj : j = s
        · rw [hj]; exact hLs
        · exact hLo j z1 hj (fun z => hp ⟨j, z⟩)
theorem z_fitUpward {N : Nat} (hN : 100 < N) {t : ZT} {T : zx_S} {s : Nat} (ht : zb t) (hu : zuq t) (hg : zg t) (hc : zcr t) (hs0 : zlv t s ≠ 0) (hT : zcx T t []) (hrb : zrb (T 0) t) (hLC : ∀ j, zlv t j ≠ 0 → j ≠ s → zLC (T 0) t j) :
    ∃ T', f_X1_fitUpward N (nI (24 + s)) T = some T' ∧ zfr [0] T T' ∧ zrb (T' 0) t ∧ (∀ j, zlv t j ≠ 0 → zLC (T' 0) t j) := by
  have := ht.2.2.2.2 s
  obtain ⟨T', h⟩ := z_fitUp (N := N) hN ht hu hg hc (7 - zlv t s) N s 0 T (by omega) (by omega) (by omega) hs0 hT hrb hLC
  exact ⟨T', h⟩
/-- the flags of the levels that threw out: 64 numbers -/
def zfl (T S : zx_S) (m : Nat) : Prop := m < 64 ∧ S 12 3 = nI m ∧ ∀ j, j < 8 → T 5 j = if m.testBit j = true then nI 1 else nI 0
theorem zfl_get : ∀ m, m < 64 → ∀ x, x < 6 → (((nI m >>> (nI x &&& 31)) &&& 1 = 0) ↔ m.testBit x = false) := by decide +kernel
theorem zfl_set : ∀ m, m < 64 → ∀ x, x < 6 → (nI m ||| ((1 : Int32) <<< (nI x &&& 31))) = nI (m ||| 2 ^ x) ∧ (m ||| 2 ^ x) < 64 := by decide +kernel
theorem zfl_bit : ∀ m, m < 64 → ∀ x, x < 6 → ∀ j, j < 8 → (m ||| 2 ^ x).testBit j = (if j = x then true else m.testBit j) := by decide +kernel
/-- how many levels have not thrown out -/
def zun (m : Nat) : Nat := ((List.range 6).filter (fun j => !m.testBit j)).length
theorem zun_6 : ∀ m, m < 64 → zun m ≤ 6 := by decide +kernel
theorem zun_set : ∀ m, m < 64 → ∀ x, x < 6 → m.testBit x = false → zun (m ||| 2 ^ x) + 1 = zun m := by decide +kernel
theorem z_throw {N w : Nat} (hN : 100 < N) (hw6 : w ≠ 6) (hw12 : w ≠ 12) {T S : zx_S} {t : ZT} {s m : Nat} (hT : zcx T t []) (hr : zref (S w) t) (ht : zb t) (hu : zuq t) (hs : s < 24) (hs0 : zlv t s ≠ 0) (hne : zes t s ≠ []) (hA : ∀ x, (x ∈ zes t s ∨ x = 24 + s) → ∀ k, k < 4 → T 0 (4 * x + k) = S 6 (4 * x + k)) (hf : zfl T S m) :
    ∃ c l r T' S', zes t s = l ++ c :: r ∧ f_X1_throwOut N (nI (24 + s)) T = some (nI c, T') ∧ f_X3_throwOut N w (nI s) S = some S' ∧
      zcx T' (zE t s (l ++ r)) [] ∧ zref (S' w) (zE t s (l ++ r)) ∧ zfl T' S' (m ||| 2 ^ (zlv t s - 1)) ∧ S' 12 4 = nI c ∧ S' 12 5 = nI (zlv t s - 1) ∧
      T' 0 = T 0 ∧ (zfr [2, 3, 4, 5, 10] T T' ∧ T' 10 1 = T 10 1 + 1 ∧ T' 10 2 = T 10 2 ∧ T' 10 3 = T 10 3) ∧ (zfr [w, 12] S S' ∧ (∀ j, j < 3 → S' 12 j = S 12 j) ∧ (∀ j, 5 < j → S' 12 j = S 12 j) ∧ (∀ j, 376 ≤ j → S' w j = if j = 377 then S w 377 + 1 else S w j)) := by
  have hl5 := ht.2.2.2.1 s
  have hl6 := ht.2.2.2.2 s
  have hl3 := hT.2.2.1 s hs hs0
  have hz := hT.2.2.2.1 s hs
  have hr1 := hr.2.2.2.1 s (by omega)
  have hrz := hr.2.2.2.2.1 s (by omega)
  have h48 := fun j x (hx : x ∈ zes t j) => (ht.1 j x hx).1
  obtain ⟨b, l0, hes⟩ : ∃ b l0, zes t s = b :: l0 := by
    rcases hq : zes t s with _ | ⟨b, l0⟩
    · exact absurd hq hne
    · exact ⟨b, l0, rfl⟩
  obtain ⟨c, ec⟩ : ∃ c, c = zfd (zfa (T 0) (24 + s)) b l0 := ⟨_, rfl⟩
  have hcm : c ∈ zes t s := by rw [ec, hes]; exact zfd_mem
  have hcg : zfd (zfa (S 6) (24 + s)) b l0 = c := by
    rw [ec]
    refine zfd_congr (fun x y hx hy => ?_)
    have gx := hA x (Or.inl (by rw [hes]; exact hx))
    have gy := hA y (Or.inl (by rw [hes]; exact hy))
    have gs := hA (24 + s) (Or.inr rfl)
    unfold zfa
    rw [zmd_cg gx gs, zmd_cg gy gs]
  rw [hes] at hl5 hl3 hz hr1 hrz
  simp only [List.length_cons] at hl5 hl3 hr1
  obtain ⟨n1, e1⟩ := m_far_l (N := N) (T := T) (24 + s) (l0.length + 1) (by omega) hl5 l0 b 1 N (by omega) (by omega) hz.2 (by have := h48 s b (by rw [hes]; simp); omega) (fun x hx => by have := h48 s x (by rw [hes]; simp [hx]); omega)
  obtain ⟨n2, e2⟩ := d_far_l (N := N) (w := w) (S := S) s (l0.length + 1) (by omega) (by omega) rfl hr1 l0 b 1 N (by omega) (by omega) hrz.2 (by have := h48 s b (by rw [hes]; simp); omega) (fun x hx => by have := h48 s x (by rw [hes]; simp [hx]); omega)
  rw [← ec] at e1
  rw [hcg] at e2
  obtain ⟨l, r, hlr⟩ := List.append_of_mem hcm
  obtain ⟨T1, d1, d2, d3⟩ := c_detach (N := N) hN hT hu ht.2.2.2.1 h48 hs hs0 hlr
  obtain ⟨r1, q1, q2, q3⟩ := d_cutOut (N := N) hN hr hu ht.2.2.2.1 h48 (by omega) hlr
  obtain ⟨f1, f2, f3⟩ := hf
  obtain ⟨g1, g2⟩ := zfl_set m f1 (zlv t s - 1) (by omega)
  have h1 := hT.2.1 s hs
  rw [if_neg hs0] at h1
  have h1' : T1 1 (24 + s) = nI (zlv t s - 1) := by rw [d3 1 (by decide)]; exact h1
  have hw5 : T1 5 = T 5 := d3 5 (by decide)
  have h0b : T 4 (5 * (24 + s)) = nI b := hz.1
  have h0r : S w (120 + 8 * s + 2) = nI b := hrz.1
  have hlo := r_levelOf (N := N) (r := r1) (s := s) (v := zlv t s) (by omega) (q2.2.2.1 s (by omega)) (by omega)
  have hlo2 := r_levelOf (N := N) (r := upd r1 377 (S w 377 + nI 1)) (s := s) (v := zlv t s) (by omega) (by rw [up_ne (by omega)]; exact q2.2.2.1 s (by omega)) (by omega)
  have hk377 : r1 377 = S w 377 := q3 377 (by omega)
  have hw12' : (12 : Nat) ≠ w := Ne.symm hw12
  rw [zl1] at g1
  refine ⟨c, l, r, zx_st (zx_st T1 5 (upd (T1 5) (zlv t s - 1) (nI 1))) 10 (upd (T1 10) 1 (T1 10 1 + nI 1)), zx_st (zx_st (zx_st (zx_st (zx_st S w r1) 12 (upd (S 12) 3 (nI (m ||| 2 ^ (zlv t s - 1))))) w (upd r1 377 (S w 377 + nI 1))) 12 (upd (upd (S 12) 3 (nI (m ||| 2 ^ (zlv t s - 1)))) 4 (nI c))) 12 (upd (upd (upd (S 12) 3 (nI (m ||| 2 ^ (zlv t s - 1)))) 4 (nI c)) 5 (nI (zlv t s - 1))), hlr, ?_, ?_, ?_, ?_, ⟨g2, ?_, ?_⟩, ?_, ?_, ?_, ⟨?_, ?_, ?_, ?_⟩, ?_, ?_, ?_, ?_⟩
  · unfold f_X1_throwOut
    simp (disch := omega) only [↓zlm1, ↓zlm2, zi_e1, zi_e2, zi_1e, zi_12, zi_21, zi_1n, zi_n1, if_true, if_false, eq_self, not_false_eq_true, not_true_eq_false, nI_add, zi_4m, zi_5m, zi_8m, zi_mul4, zi_mul5, zi_sub, nI_leI, nI_ltI, nI_eq, zl0, zl1, zl2, zl3, zl4, zl5, zl6, zl8, zl9, zl24, zl32, zl48, zl49, zl99, zl100, zl120, zl376, zl377, zl378, zl379, zl380, ↓zi_192, zi_dec, Nat.add_zero, Nat.zero_add, m_n, m_b1, m_b2, m_rd, m_wr, m_get, m_put, nI_clamp, st_at, st_ne, up_at, up_ne, if_pos, if_neg, hl3, h0b, e1]
    rw [f_X1_throwOut_l23]
    simp (disch := omega) only [↓zlm1, ↓zlm2, zi_e1, zi_e2, zi_1e, zi_12, zi_21, zi_1n, zi_n1, if_true, if_false, eq_self, not_false_eq_true, not_true_eq_false, nI_add, zi_4m, zi_5m, zi_8m, zi_mul4, zi_mul5, zi_sub, nI_leI, nI_ltI, nI_eq, zl0, zl1, zl2, zl3, zl4, zl5, zl6, zl8, zl9, zl24, zl32, zl48, zl49, zl99, zl100, zl120, zl376, zl377, zl378, zl379, zl380, ↓zi_192, zi_dec, Nat.add_zero, Nat.zero_add, m_n, m_b1, m_b2, m_rd, m_wr, m_get, m_put, nI_clamp, st_at, st_ne, up_at, up_ne, if_pos, if_neg, d1, h1']
  · unfold f_X3_throwOut
    simp (disch := omega) only [↓zlm1, ↓zlm2, zi_e1, zi_e2, zi_1e, zi_12, zi_21, zi_1n, zi_n1, if_true, if_false, eq_self, not_false_eq_true, not_true_eq_false, nI_add, zi_4m, zi_5m, zi_8m, zi_mul4, zi_mul5, zi_sub, nI_leI, nI_ltI, nI_eq, zl0, zl1, zl2, zl3, zl4, zl5, zl6, zl8, zl9, zl24, zl32, zl48, zl49, zl99, zl100, zl120, zl376, zl377, zl378, zl379, zl380, ↓zi_192, zi_dec, Nat.add_zero, Nat.zero_add, m_n, m_b1, m_b2, m_rd, m_wr, m_get, m_put, nI_clamp, st_at, st_ne, up_at, up_ne, if_pos, if_neg, r_entryOf, Nat.add_zero, h0r, e2]
    rw [f_X3_throwOut_l10]
    simp (disch := omega) only [↓zlm1, ↓zlm2, zi_e1, zi_e2, zi_1e, zi_12, zi_21, zi_1n, zi_n1, if_true, if_false, eq_self, not_false_eq_true, not_true_eq_false, nI_add, zi_4m, zi_5m, zi_8m, zi_mul4, zi_mul5, zi_sub, nI_leI, nI_ltI, nI_eq, zl0, zl1, zl2, zl3, zl4, zl5, zl6, zl8, zl9, zl24, zl32, zl48, zl49, zl99, zl100, zl120, zl376, zl377, zl378, zl379, zl380, ↓zi_192, zi_dec, Nat.add_zero, Nat.zero_add, m_n, m_b1, m_b2, m_rd, m_wr, m_get, m_put, nI_clamp, st_at, st_ne, up_at, up_ne, if_pos, if_neg, r_many, hr1, q1, hlo, hlo2, hk377, f2]
    have g1' : (nI m ||| nI 1 <<< (nI (zlv t s - 1) &&& 31)) = nI (m ||| 2 ^ (zlv t s - 1)) := g1
    rw [g1']
  · refine zcx_keep d2 ?_ ?_ ?_ ?_ ?_
    all_goals simp (disch := omega) only [m_n, m_b1, m_b2, m_rd, m_wr, m_get, m_put, nI_clamp, st_at, st_ne, up_at, up_ne, if_pos, if_neg]
  · simp (disch := omega) only [m_n, m_b1, m_b2, m_rd, m_wr, m_get, m_put, nI_clamp, st_at, st_ne, up_at, up_ne, if_pos, if_neg]
    refine zref_cnt q2 (fun j => ?_) (by omega)
    by_cases hj : j = s
    · have : (zes t s).length = (l ++ r).length + 1 := by rw [hlr]; simp; omega
      have h55 := ht.2.2.2.1 s
      rw [hj, zE_at]; omega
    · rw [zE_ne hj]; exact ht.2.2.2.1 j
  · simp (disch := omega) only [m_n, m_b1, m_b2, m_rd, m_wr, m_get, m_put, nI_clamp, st_at, st_ne, up_at, up_ne, if_pos, if_neg]
  · intro j hj
    simp (disch := omega) only [m_n, m_b1, m_b2, m_rd, m_wr, m_get, m_put, nI_clamp, st_at, st_ne, up_at, up_ne, if_pos, if_neg]
    rw [zfl_bit m f1 (zlv t s - 1) (by omega) j hj]
    by_cases hjx : j = zlv t s - 1
    · rw [if_pos hjx, if_pos rfl, hjx, up_at]
    · rw [if_neg hjx, up_ne hjx, hw5]; exact f3 j hj
  · simp (disch := omega) only [m_n, m_b1, m_b2, m_rd, m_wr, m_get, m_put, nI_clamp, st_at, st_ne, up_at, up_ne, if_pos, if_neg]
  · simp (disch := omega) only [m_n, m_b1, m_b2, m_rd, m_wr, m_get, m_put, nI_clamp, st_at, st_ne, up_at, up_ne, if_pos, if_neg]
  · simp (disch := omega) only [m_n, m_b1, m_b2, m_rd, m_wr, m_get, m_put, nI_clamp, st_at, st_ne, up_at, up_ne, if_pos, if_neg]
    exact d3 0 (by decide)
  · exact zfr_st (by decide) (zfr_st (by decide) (zfr_sub d3 (by decide)))
  · simp (disch := omega) only [m_n, m_b1, m_b2, m_rd, m_wr, m_get, m_put, nI_clamp, st_at, st_ne, up_at, up_ne, if_pos, if_neg]
    rw [d3 10 (by decide)]; rfl
  · simp (disch := omega) only [m_n, m_b1, m_b2, m_rd, m_wr, m_get, m_put, nI_clamp, st_at, st_ne, up_at, up_ne, if_pos, if_neg]
    rw [d3 10 (by decide)]
  · simp (disch := omega) only [m_n, m_b1, m_b2, m_rd, m_wr, m_get, m_put, nI_clamp, st_at, st_ne, up_at, up_ne, if_pos, if_neg]
    rw [d3 10 (by decide)]
  · exact zfr_st (by simp) (zfr_st (by simp) (zfr_st (by simp) (zfr_st (by simp) (zfr_st (by simp) zfr_refl))))
  · intro j hj
    simp (disch := omega) only [m_n, m_b1, m_b2, m_rd, m_wr, m_get, m_put, nI_clamp, st_at, st_ne, up_at, up_ne, if_pos, if_neg]
  · intro j hj
    simp (disch := omega) only [m_n, m_b1, m_b2, m_rd, m_wr, m_get, m_put, nI_clamp, st_at, st_ne, up_at, up_ne, if_pos, if_neg]
  · intro j hj
    simp (disch := omega) only [m_n, m_b1, m_b2, m_rd, m_wr, m_get, m_put, nI_clamp, st_at, st_ne, up_at, up_ne, if_pos, if_neg]
    by_cases h377 : j = 377
    · rw [h377, up_at, if_pos rfl]; rfl
    · rw [up_ne h377, if_neg h377]; exact q3 j hj
