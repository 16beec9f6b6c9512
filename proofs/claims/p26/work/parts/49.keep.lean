/-! states are copied; what is remembered -/
theorem m_copy {N n : Nat} {f g : Nat → Int32} (hn : n < 2 ^ 31) : ∃ h, f_X2_copy N n n f g = some h ∧ (∀ j, j < n → h j = f j) ∧ ∀ j, n ≤ j → h j = g j := by
  refine ⟨va_cpy f g 0 0 n, ?_, fun j hj => ?_, fun j hj => ?_⟩
  · unfold f_X2_copy zx_cp
    have e : (if Int32.ofNat n < Int32.ofNat n then Int32.ofNat n else Int32.ofNat n) = nI n := by split <;> rfl
    have hc : (nI n).toNatClampNeg = n := nI_clamp hn
    have hz : ((0 : Int32)).toNatClampNeg = 0 := by decide
    rw [m_n, e, if_neg, hc, hz]
    rw [hc, hz]
    rintro (h | h | h | h | h)
    · exact absurd h (by decide)
    · exact absurd h (by decide)
    · exact nI_pos hn h
    · omega
    · omega
  · unfold va_cpy
    rw [if_pos ⟨Nat.zero_le j, by omega⟩, Nat.sub_zero, Nat.zero_add]
  · unfold va_cpy
    rw [if_neg (by omega)]
theorem m_takeOver {N : Nat} {T T2 : zx_S} : ∃ T', f_X1_takeOver N T T2 = some T' ∧ zfr [0, 1, 2, 3, 4, 10] T T' ∧ (∀ j, j < 196 → T' 0 j = T2 0 j) ∧ (∀ j, j < 49 → T' 1 j = T2 1 j) ∧ (∀ j, j < 49 → T' 2 j = T2 2 j) ∧ (∀ j, j < 49 → T' 3 j = T2 3 j) ∧ (∀ j, j < 245 → T' 4 j = T2 4 j) ∧ ∀ j, j < 4 → T' 10 j = T2 10 j := by
  obtain ⟨g0, e0, k0, _⟩ := m_copy (N := N) (n := 196) (f := T2 0) (g := T 0) (by decide)
  obtain ⟨g1, e1, k1, _⟩ := m_copy (N := N) (n := 49) (f := T2 1) (g := T 1) (by decide)
  obtain ⟨g2, e2, k2, _⟩ := m_copy (N := N) (n := 49) (f := T2 2) (g := T 2) (by decide)
  obtain ⟨g3, e3, k3, _⟩ := m_copy (N := N) (n := 49) (f := T2 3) (g := T 3) (by decide)
  obtain ⟨g4, e4, k4, _⟩ := m_copy (N := N) (n := 245) (f := T2 4) (g := T 4) (by decide)
  obtain ⟨g, eg⟩ : ∃ g, g = upd (upd (upd (upd (T 10) 0 (T2 10 0)) 1 (T2 10 1)) 2 (T2 10 2)) 3 (T2 10 3) := ⟨_, rfl⟩
  refine ⟨zx_st (zx_st (zx_st (zx_st (zx_st (zx_st (zx_st (zx_st (zx_st T 0 g0) 1 g1) 2 g2) 3 g3) 4 g4) 10 (upd (T 10) 0 (T2 10 0))) 10 (upd (upd (T 10) 0 (T2 10 0)) 1 (T2 10 1))) 10 (upd (upd (upd (T 10) 0 (T2 10 0)) 1 (T2 10 1)) 2 (T2 10 2))) 10 g, ?_, ?_, ?_, ?_, ?_, ?_, ?_, ?_⟩
  · unfold f_X1_takeOver
    simp (disch := decide) only [m_b1, m_n, st_at, st_ne, e0, e1, e2, e3, e4]
    rw [eg]
  · exact zfr_st (by simp) (zfr_st (by simp) (zfr_st (by simp) (zfr_st (by simp) (zfr_st (by simp) (zfr_st (by simp) (zfr_st (by simp) (zfr_st (by simp) (zfr_st (by simp) zfr_refl))))))))
  · intro j hj
    rw [st_ne (by decide), st_ne (by decide), st_ne (by decide), st_ne (by decide), st_ne (by decide), st_ne (by decide), st_ne (by decide), st_ne (by decide), st_at]
    exact k0 j hj
  · intro j hj
    rw [st_ne (by decide), st_ne (by decide), st_ne (by decide), st_ne (by decide), st_ne (by decide), st_ne (by decide), st_ne (by decide), st_at]
    exact k1 j hj
  · intro j hj
    rw [st_ne (by decide), st_ne (by decide), st_ne (by decide), st_ne (by decide), st_ne (by decide), st_ne (by decide), st_at]
    exact k2 j hj
  · intro j hj
    rw [st_ne (by decide), st_ne (by decide), st_ne (by decide), st_ne (by decide), st_ne (by decide), st_at]
    exact k3 j hj
  · intro j hj
    rw [st_ne (by decide), st_ne (by decide), st_ne (by decide), st_ne (by decide), st_at]
    exact k4 j hj
  · intro j hj
    rw [st_at, eg]
    rcases (show j = 0 ∨ j = 1 ∨ j = 2 ∨ j = 3 by omega) with rfl | rfl | rfl | rfl
    · rw [up_ne (by decide), up_ne (by decide), up_ne (by decide), up_at]
    · rw [up_ne (by decide), up_ne (by decide), up_at]
    · rw [up_ne (by decide), up_at]
    · rw [up_at]
theorem d_copy_l {N n0 n1 a b : Nat} {f0 : Nat → Int32} (ha : a + 380 ≤ n0) (hb : b + 380 ≤ n1) (h0 : n0 < 10000) (h1 : n1 < 10000) : ∀ (d n k : Nat) (f1 : Nat → Int32), d < n → k + d = 380 → ∃ g, f_X3_copyState_l3 N n0 n1 f0 n (nI a) (nI b) (nI k) f1 = some g ∧ (∀ j, k ≤ j → j < 380 → g (b + j) = f0 (a + j)) ∧ ∀ j, (j < b + k ∨ b + 380 ≤ j) → g j = f1 j
  | 0, n + 1, k, f1, hn, hk => by
    refine ⟨f1, ?_, fun j h1 h2 => by omega, fun _ _ => rfl⟩
    rw [f_X3_copyState_l3]
    simp (disch := omega) only [↓zlm1, ↓zlm2, zi_e1, zi_e2, zi_1e, zi_12, zi_21, zi_1n, zi_n1, if_true, if_false, eq_self, not_false_eq_true, not_true_eq_false, nI_add, zi_4m, zi_5m, zi_8m, zi_mul4, zi_mul5, zi_sub, nI_leI, nI_ltI, nI_eq, zl0, zl1, zl2, zl3, zl4, zl5, zl6, zl8, zl9, zl24, zl32, zl48, zl49, zl99, zl100, zl120, zl376, zl377, zl378, zl379, zl380, ↓zi_192, zi_dec, Nat.add_zero, Nat.zero_add, m_n, m_b1, m_b2, m_rd, m_wr, m_get, m_put, nI_clamp, st_at, st_ne, up_at, up_ne, if_pos, if_neg]
  | d + 1, n + 1, k, f1, hn, hk => by
    obtain ⟨g, e, k1, k2⟩ := d_copy_l (N := N) ha hb h0 h1 d n (k + 1) (upd f1 (b + k) (f0 (a + k))) (by omega) (by omega)
    refine ⟨g, ?_, fun j q1 q2 => ?_, fun j q => ?_⟩
    · rw [f_X3_copyState_l3]
      simp (disch := omega) only [↓zlm1, ↓zlm2, zi_e1, zi_e2, zi_1e, zi_12, zi_21, zi_1n, zi_n1, if_true, if_false, eq_self, not_false_eq_true, not_true_eq_false, nI_add, zi_4m, zi_5m, zi_8m, zi_mul4, zi_mul5, zi_sub, nI_leI, nI_ltI, nI_eq, zl0, zl1, zl2, zl3, zl4, zl5, zl6, zl8, zl9, zl24, zl32, zl48, zl49, zl99, zl100, zl120, zl376, zl377, zl378, zl379, zl380, ↓zi_192, zi_dec, Nat.add_zero, Nat.zero_add, m_n, m_b1, m_b2, m_rd, m_wr, m_get, m_put, nI_clamp, st_at, st_ne, up_at, up_ne, if_pos, if_neg]
      exact e
    · by_cases c : j = k
      · rw [c, k2 _ (by omega), up_at]
      · exact k1 j (by omega) q2
    · rw [k2 j (by omega), up_ne (by omega)]
theorem d_copy {N n0 n1 a b : Nat} {f0 f1 : Nat → Int32} (hN : 6000 < N) (ha : a + 380 ≤ n0) (hb : b + 380 ≤ n1) (h0 : n0 < 10000) (h1 : n1 < 10000) : ∃ g, f_X3_copyState N n0 n1 (nI a) (nI b) f0 f1 = some g ∧ (∀ j, j < 380 → g (b + j) = f0 (a + j)) ∧ ∀ j, (j < b ∨ b + 380 ≤ j) → g j = f1 j := by
  obtain ⟨g, e, k1, k2⟩ := d_copy_l (N := N) (f0 := f0) ha hb h0 h1 380 N 0 f1 (by omega) (by omega)
  exact ⟨g, by unfold f_X3_copyState; rw [zl0]; exact e, fun j hj => k1 j (Nat.zero_le j) hj, k2⟩
/-- what a tree's row and the class's tree are read at -/
theorem zref_cong {r r' : Nat → Int32} {t : ZT} (h : zref r t) (h5 : ∀ j, (zes t j).length ≤ 5) (e : ∀ j, j < 380 → r' j = r j) : zref r' t := by
  refine ⟨fun i hi => ?_, fun i k hi hk hp => ?_, fun s hs => ?_, fun s hs => ?_, fun s hs => ?_, ?_⟩
  · rw [e _ (by omega)]; exact h.1 i hi
  · rw [e _ (by omega)]; exact h.2.1 i k hi hk hp
  · rw [e _ (by omega)]; exact h.2.2.1 s hs
  · rw [e _ (by omega)]; exact h.2.2.2.1 s hs
  · have := h5 s
    exact zat_congr (fun j h1 h2 => e j (by omega)) (h.2.2.2.2.1 s hs)
  · rw [e _ (by omega)]; exact h.2.2.2.2.2
theorem zcx_cong {T T' : zx_S} {t : ZT} (h : zcx T t []) (h5 : ∀ j, (zes t j).length ≤ 5) (h48 : ∀ s x, x ∈ zes t s → x < 48) (e1 : ∀ j, j < 49 → T' 1 j = T 1 j) (e2 : ∀ j, j < 49 → T' 2 j = T 2 j) (e3 : ∀ j, j < 49 → T' 3 j = T 3 j) (e4 : ∀ j, j < 245 → T' 4 j = T 4 j) (e10 : ∀ j, j < 4 → T' 10 j = T 10 j) : zcx T' t [] := by
  refine ⟨fun i hi => ?_, fun s hs => ?_, fun s hs h0 => ?_, fun s hs => ?_, fun s e hs he => ?_, fun c hc hX hx => ?_, ?_⟩
  · rw [e1 _ (by omega)]; exact h.1 i hi
  · rw [e1 _ (by omega)]; exact h.2.1 s hs
  · rw [e3 _ (by omega)]; exact h.2.2.1 s hs h0
  · have := h5 s
    exact zat_congr (fun j h1 h2 => e4 j (by omega)) (h.2.2.2.1 s hs)
  · have := h48 s e he
    rw [e2 _ (by omega)]; exact h.2.2.2.2.1 s e hs he
  · rw [e2 _ (by omega)]; exact h.2.2.2.2.2.1 c hc hX hx
  · rw [e10 _ (by omega)]; exact h.2.2.2.2.2.2
theorem zQ_copy {v w : Nat} {T T' S S' : zx_S} {t : ZT} (h : zQ v T S t) (e0 : ∀ j, j < 196 → T' 0 j = T 0 j) (e1 : ∀ j, j < 49 → T' 1 j = T 1 j) (e2 : ∀ j, j < 49 → T' 2 j = T 2 j) (e3 : ∀ j, j < 49 → T' 3 j = T 3 j) (e4 : ∀ j, j < 245 → T' 4 j = T 4 j) (e10 : ∀ j, j < 4 → T' 10 j = T 10 j) (er : ∀ j, j < 380 → S' w j = S v j) : zQ w T' S' t := by
  obtain ⟨hT, hr, hw, ⟨hrb, hLC⟩, k1, k2, k3⟩ := h
  have hR := zwf_lv hw (by decide)
  have ht := zwf_zb hw (by omega)
  have h48 : ∀ s x, x ∈ zes t s → x < 48 := fun s x hx => (ht.1 s x hx).1
  refine ⟨zcx_cong hT ht.2.2.2.1 h48 e1 e2 e3 e4 e10, zref_cong hr ht.2.2.2.1 er, hw, ⟨fun i k hi hk hp => ?_, fun s hs => ?_⟩, ?_, ?_, ?_⟩
  · rw [e0 _ (by omega)]; exact hrb i k hi hk hp
  · have hs24 := zb_lt ht hs
    exact zLC_ext (hLC s hs) rfl (fun k hk => e0 _ (by omega)) (fun x hx k hk => e0 _ (by have := h48 s x hx; omega))
  · rw [e10 1 (by decide), er 377 (by decide)]; exact k1
  · rw [e10 2 (by decide), er 378 (by decide)]; exact k2
  · rw [e10 3 (by decide), er 379 (by decide)]; exact k3
theorem zsame_zQ {T : zx_S} {r : Nat → Int32} (h : zsame T r) : ∃ t, zQ 0 T (fun _ => r) t := same_zQ (w := 0) (S := fun _ => r) h
/-- a copy of a tree, and a copy of its row -/
theorem zsame_copy {N : Nat} {T T2 : zx_S} {r r' : Nat → Int32} (h : zsame T2 r) (er : ∀ j, j < 380 → r' j = r j) : ∃ T', f_X1_takeOver N T T2 = some T' ∧ zsame T' r' ∧ zfr [0, 1, 2, 3, 4, 10] T T' := by
  obtain ⟨t, hQ⟩ := zsame_zQ h
  obtain ⟨T', e, f, k0, k1, k2, k3, k4, k10⟩ := m_takeOver (N := N) (T := T) (T2 := T2)
  exact ⟨T', e, zQ_same (w := 0) (S := fun _ => r') (zQ_copy (w := 0) (S' := fun _ => r') hQ k0 k1 k2 k3 k4 k10 er), f⟩
theorem zsame_cg {T : zx_S} {r r' : Nat → Int32} (h : zsame T r) (er : ∀ j, j < 380 → r' j = r j) : zsame T r' := by
  obtain ⟨t, hQ⟩ := zsame_zQ h
  exact zQ_same (w := 0) (S := fun _ => r') (zQ_copy (w := 0) (S' := fun _ => r') hQ (fun _ _ => rfl) (fun _ _ => rfl) (fun _ _ => rfl) (fun _ _ => rfl) (fun _ _ => rfl) (fun _ _ => rfl) er)
/-- whole numbers are divided -/
theorem zi_div {a b : Nat} (ha : a < 2 ^ 31) (hb : b < 2 ^ 31) : nI a / nI b = nI (a / b) := by
  have h1 : a / b ≤ a := Nat.div_le_self a b
  apply Int32.toInt_inj.mp
  rw [Int32.toInt_div, nI_toInt ha, nI_toInt hb, nI_toInt (by omega)]
  rw [show ((a : Int)).tdiv (b : Int) = ((a / b : Nat) : Int) from rfl, Int.bmod_def]
  generalize a / b = c at h1 ⊢
  split <;> omega
theorem zi_mod {a b : Nat} (ha : a < 2 ^ 31) (hb : b < 2 ^ 31) : nI a - nI a / nI b * nI b = nI (a % b) := by
  have h1 : a / b * b ≤ a := Nat.div_mul_le_self a b
  rw [zi_div ha hb, zi_mul, zi_sub h1]
  congr 1
  have := Nat.div_add_mod a b
  rw [Nat.mul_comm] at this
  omega
theorem m_treeAt {n i : Nat} (h : i < n) (hn : n < 2 ^ 31) : f_X2_treeAt n (nI i) = some i := by
  unfold f_X2_treeAt
  rw [nI_clamp (by omega), if_neg]
  rintro (h1 | h1)
  · exact nI_pos (by omega) h1
  · omega
/-- the ring and the diary -/
def zring (B : zx_B) (S : zx_S) (a o : Nat) : Prop := B 19 1 0 = nI o ∧ B 19 1 1 = nI a ∧ S 12 2 = nI a ∧ ∀ i, i < a → zsame (B (2 + (o + i) % 14)) (fun j => S 3 (380 * i + j))
theorem ZInv_ring {B B' : zx_B} {S S' : zx_S} {a o : Nat} (h : ZInv B S) (hr : zring B' S' a o) (ha : a ≤ 14) (ho : o < 14) (h0 : zsame (B' 0) (S' 1)) (hB : ∀ j, 15 < j → j < 18 → B' j = B j) (h18 : B' 18 0 = B 18 0 ∧ B' 18 2 0 = B 18 2 0) (h19 : B' 19 0 = B 19 0) (hS : S' 0 = S 0 ∧ S' 4 = S 4 ∧ S' 5 = S 5) (h12 : S' 12 1 = S 12 1) : ZInv B' S' := by
  obtain ⟨_, h2, _, h4⟩ := h
  refine ⟨h0, ?_, ⟨a, o, ha, ho, hr.1, hr.2.1, hr.2.2.1, hr.2.2.2⟩, ?_⟩
  · rw [h18.1, h18.2, hS.1, h12]; exact h2
  · rw [h19, hS.2.1, hS.2.2]
    intro j hj
    rw [hB _ (by omega) (by omega)]
    exact h4 j hj
theorem z_rem32 {N : Nat} (hN : 6000 < N) {B : zx_B} {S : zx_S} {a o : Nat} (ha : a ≤ 13) (ho : o < 14) (hr : zring B S a o) (h0 : zsame (B 0) (S 1)) : ∃ B' S', f_X2_remember_j32 N B = some B' ∧ f_X3_remember_j50 N S = some S' ∧ zring B' S' (a + 1) o ∧ (∀ j, (j < 2 ∨ 15 < j) → j ≠ 19 → B' j = B j) ∧ B' 19 0 = B 19 0 ∧ zfr [3, 12] S S' ∧ ∀ j, j ≠ 2 → S' 12 j = S 12 j := by
  obtain ⟨r1, r2, r3, r4⟩ := hr
  obtain ⟨i, ei⟩ : ∃ i, i = (o + a) % 14 := ⟨_, rfl⟩
  have hi : i < 14 := by omega
  obtain ⟨g, e1, k1, k2⟩ := d_copy (N := N) (n0 := 380) (n1 := 5320) (a := 0) (b := 380 * a) (f0 := S 1) (f1 := S 3) hN (by omega) (by omega) (by decide) (by decide)
  obtain ⟨S1, eS1⟩ : ∃ S1, S1 = zx_st S 3 g := ⟨_, rfl⟩
  have hS13 : S1 3 = g := by rw [eS1, st_at]
  have hS112 : S1 12 = S 12 := by rw [eS1, st_ne (by decide)]
  obtain ⟨S2, eS2⟩ : ∃ S2, S2 = zx_st S1 12 (upd (S1 12) 2 (nI (a + 1))) := ⟨_, rfl⟩
  have hS23 : S2 3 = g := by rw [eS2, st_ne (by decide), hS13]
  obtain ⟨T', e2, hT', f2⟩ := zsame_copy (N := N) (T := B (2 + i)) (r' := fun j => S2 3 (380 * a + j)) h0 (fun j hj => by
    show S2 3 (380 * a + j) = S 1 j
    rw [hS23, k1 j hj, Nat.zero_add])
  obtain ⟨B1, eB1⟩ : ∃ B1, B1 = zx_sb B (2 + i) T' := ⟨_, rfl⟩
  have hB19 : B1 19 = B 19 := by rw [eB1, zsb_ne (by omega)]
  obtain ⟨B2, eB2⟩ : ∃ B2, B2 = zx_sb B1 19 (zx_st (B1 19) 1 (upd (B1 19 1) 1 (nI (a + 1)))) := ⟨_, rfl⟩
  have hBj : ∀ j, j ≠ 2 + i → j ≠ 19 → B2 j = B j := fun j h1 h2 => by rw [eB2, zsb_ne h2, eB1, zsb_ne h1]
  refine ⟨B2, S2, ?_, ?_, ⟨?_, ?_, ?_, fun x hx => ?_⟩, fun j h1 h2 => hBj j (by omega) h2, ?_, ?_, fun j hj => ?_⟩
  · unfold f_X2_remember_j32 f_X2_remember_j64
    rw [r1, r2, nI_add, show (14 : Int32) = nI 14 from rfl, zi_mod (by omega) (by decide), ← ei, m_n, m_treeAt hi (by decide), m_b1, e2, m_b1, m_n, ← eB1, hB19, r2, show nI a + 1 = nI (a + 1) by rw [zl1, nI_add], m_n, eB2, hB19]
  · unfold f_X3_remember_j50
    rw [r3, zl380, zl0, zi_mul, e1, m_b1, m_n, ← eS1, hS112, r3, show nI a + 1 = nI (a + 1) by rw [zl1, nI_add], m_n, eS2, hS112]
  · rw [eB2, zsb_at, st_at, up_ne (by decide), hB19]; exact r1
  · rw [eB2, zsb_at, st_at, up_at]
  · rw [eS2, st_at, up_at]
  · by_cases c : x = a
    · rw [c, ← ei, eB2, zsb_ne (by omega), eB1, zsb_at]
      exact hT'
    · rw [hBj _ (by omega) (by omega)]
      refine zsame_cg (r4 x (by omega)) (fun j hj => ?_)
      show S2 3 (380 * x + j) = S 3 (380 * x + j)
      rw [hS23, k2 _ (by omega)]
  · rw [eB2, zsb_at, st_ne (by decide), hB19]
  · rw [eS2]
    exact zfr_st (by simp) (by rw [eS1]; exact zfr_st (by simp) zfr_refl)
  · rw [eS2, st_at, up_ne hj, hS112]
/-- the diary is moved down by one -/
theorem d_shift_l {N : Nat} : ∀ (d n k : Nat) (S : zx_S), d < n → k + d = 4940 → ∃ S', f_X3_remember_l11 N n (nI k) S = f_X3_remember_j50 N (zx_st S' 12 (upd (S' 12) 2 ((S' 12 2) - 1))) ∧ zfr [3] S S' ∧ (∀ j, k ≤ j → j < 4940 → S' 3 j = S 3 (j + 380)) ∧ ∀ j, (j < k ∨ 4940 ≤ j) → S' 3 j = S 3 j
  | 0, n + 1, k, S, hn, hk => by
    obtain rfl : k = 4940 := by omega
    refine ⟨S, ?_, zfr_refl, fun j h1 h2 => by omega, fun _ _ => rfl⟩
    rw [f_X3_remember_l11, if_pos (by decide), m_n]
  | d + 1, n + 1, k, S, hn, hk => by
    obtain ⟨S', e, f, k1, k2⟩ := d_shift_l (N := N) d n (k + 1) (zx_st S 3 (upd (S 3) k (S 3 (k + 380)))) (by omega) (by omega)
    refine ⟨S', ?_, zfr_trans (zfr_st (by simp) zfr_refl) f, fun j q1 q2 => ?_, fun j q => ?_⟩
    · rw [f_X3_remember_l11, if_neg (by rw [show (4940 : Int32) = nI 4940 from rfl, nI_leI (by decide) (by omega)]; omega), zl380, nI_add, m_rd (by omega) (by decide), m_wr (by omega) (by decide), nI_clamp (by omega), m_n, zl1, nI_add]
      exact e
    · by_cases c : j = k
      · rw [c, k2 k (by omega), st_at, up_at]
      · rw [k1 j (by omega) q2, st_at, up_ne (by omega)]
    · rw [k2 j (by omega), st_at, up_ne (by omega)]
theorem z_remember {N : Nat} (hN : 6000 < N) {B : zx_B} {S : zx_S} (hI : ZInv B S) : ∃ B' S', f_X2_remember N B = some B' ∧ f_X3_remember N S = some S' ∧ ZInv B' S' ∧ (∀ j, (j < 2 ∨ 15 < j) → j ≠ 19 → B' j = B j) ∧ zfr [3, 12] S S' ∧ ∀ j, j ≠ 2 → S' 12 j = S 12 j := by
  obtain ⟨a, o, ha, ho, r1, r2, r3, r4⟩ := hI.2.2.1
  by_cases c : a = 14
  · subst c
    obtain ⟨S1, e1, f1, k1, k2⟩ := d_shift_l (N := N) 4940 N 0 S (by omega) (by omega)
    have hS112 : S1 12 = S 12 := f1 12 (by decide)
    obtain ⟨S2, eS2⟩ : ∃ S2, S2 = zx_st S1 12 (upd (S1 12) 2 (nI 13)) := ⟨_, rfl⟩
    have hS23 : S2 3 = S1 3 := by rw [eS2, st_ne (by decide)]
    obtain ⟨B1, eB1⟩ : ∃ B1, B1 = zx_sb B 19 (zx_st (B 19) 1 (upd (B 19 1) 0 (nI ((o + 1) % 14)))) := ⟨_, rfl⟩
    have hB119 : B1 19 = zx_st (B 19) 1 (upd (B 19 1) 0 (nI ((o + 1) % 14))) := by rw [eB1, zsb_at]
    obtain ⟨B2, eB2⟩ : ∃ B2, B2 = zx_sb B1 19 (zx_st (B1 19) 1 (upd (B1 19 1) 1 (nI 13))) := ⟨_, rfl⟩
    have hBj : ∀ j, j ≠ 19 → B2 j = B j := fun j h2 => by rw [eB2, zsb_ne h2, eB1, zsb_ne h2]
    have hr : zring B2 S2 13 ((o + 1) % 14) := by
      refine ⟨?_, ?_, ?_, fun x hx => ?_⟩
      · rw [eB2, zsb_at, st_at, up_ne (by decide), hB119, st_at, up_at]
      · rw [eB2, zsb_at, st_at, up_at]
      · rw [eS2, st_at, up_at]
      · rw [hBj _ (by omega), show ((o + 1) % 14 + x) % 14 = (o + (x + 1)) % 14 by omega]
        refine zsame_cg (r4 (x + 1) (by omega)) (fun j hj => ?_)
        show S2 3 (380 * x + j) = S 3 (380 * (x + 1) + j)
        rw [hS23, k1 _ (Nat.zero_le _) (by omega)]
        congr 1
        omega
    obtain ⟨B3, S3, a1, a2, a3, a4, a5, a6, a7⟩ := z_rem32 (N := N) hN (a := 13) (o := (o + 1) % 14) (by decide) (by omega) hr (by
      rw [hBj 0 (by decide), eS2, st_ne (by decide), f1 1 (by decide)]
      exact hI.1)
    have fS : zfr [3, 12] S S3 := zfr_trans (zfr_sub f1 (by decide)) (zfr_trans (T1 := S2) (by rw [eS2]; exact zfr_st (by simp) zfr_refl) a6)
    have fB : ∀ j, (j < 2 ∨ 15 < j) → j ≠ 19 → B3 j = B j := fun j h1 h2 => by rw [a4 j h1 h2, hBj j h2]
    have k12 : ∀ j, j ≠ 2 → S3 12 j = S 12 j := fun j hj => by rw [a7 j hj, eS2, st_at, up_ne hj, hS112]
    refine ⟨B3, S3, ?_, ?_, ?_, fB, fS, k12⟩
    · unfold f_X2_remember
      rw [r2, if_pos (by decide), r1, zl1, nI_add, show (14 : Int32) = nI 14 from rfl, zi_mod (by omega) (by decide), m_n, m_n, ← eB1, hB119, st_at, up_ne (by decide), r2, show nI 14 - nI 1 = nI 13 from by decide, m_n]
      rw [eB2, hB119, st_at] at a1
      exact a1
    · unfold f_X3_remember
      rw [r3, if_pos (by decide), zl0, e1, hS112, r3, show nI 14 - 1 = nI 13 from by decide]
      rw [eS2, hS112] at a2
      exact a2
    · refine ZInv_ring hI a3 (by decide) (by omega) ?_ (fun j h1 h2 => fB j (by omega) (by omega)) ⟨by rw [fB 18 (by decide) (by decide)], by rw [fB 18 (by decide) (by decide)]⟩ ?_ ⟨fS 0 (by decide), fS 4 (by decide), fS 5 (by decide)⟩ (k12 1 (by decide))
      · rw [fB 0 (by decide) (by decide), fS 1 (by decide)]; exact hI.1
      · rw [a5, eB2, zsb_at, st_ne (by decide), hB119, st_ne (by decide)]
  · obtain ⟨B3, S3, a1, a2, a3, a4, a5, a6, a7⟩ := z_rem32 (N := N) hN (a := a) (o := o) (by omega) ho ⟨r1, r2, r3, r4⟩ hI.1
    refine ⟨B3, S3, ?_, ?_, ?_, a4, a6, a7⟩
    · unfold f_X2_remember
      rw [r2, if_neg (by rw [show (14 : Int32) = nI 14 from rfl, nI_eq (by omega) (by decide)]; exact c)]
      exact a1
    · unfold f_X3_remember
      rw [r3, if_neg (by rw [show (14 : Int32) = nI 14 from rfl, nI_eq (by omega) (by decide)]; exact c)]
      exact a2
    · refine ZInv_ring hI a3 (by omega) ho ?_ (fun j h1 h2 => a4 j (by omega) (by omega)) ⟨by rw [a4 18 (by decide) (by decide)], by rw [a4 18 (by decide) (by decide)]⟩ a5 ⟨a6 0 (by decide), a6 4 (by decide), a6 5 (by decide)⟩ (a7 1 (by decide))
      rw [a4 0 (by decide) (by decide), a6 1 (by decide)]; exact hI.1
theorem op_undo {N : Nat} (hN : 6000 < N) : zs_undo N ZInv := by
  intro B S hI
  obtain ⟨t, S0, eS0, hQ, hQ0, fS0, h120, h121, h122, hI0⟩ := z_setup hI
  obtain ⟨a, o, ha, ho, r1, r2, r3, r4⟩ := hI0.2.2.1
  rw [h122] at r3
  by_cases c : a = 0
  · subst c
    refine ⟨(0, (2, B)), 0, _, ?_, ?_, ZInv_ref (k := 1) hI, Or.inr ⟨rfl, by rw [st_at, up_at]⟩⟩
    · unfold f_X2_undo
      rw [r2, if_pos (by decide)]
    · unfold f_X3_undo
      rw [r3, if_pos (by decide)]
      unfold f_X3_undo_j13
      rw [m_ref1, m_b2, if_neg (by decide)]
  · obtain ⟨b, rfl⟩ : ∃ b, a = b + 1 := ⟨a - 1, by omega⟩
    have hne : ¬ nI (b + 1) = 0 := by rw [zl0, nI_eq (by omega) (by decide)]; omega
    have hd : nI (b + 1) - 1 = nI b := by rw [zl1, zi_sub (by omega), Nat.add_sub_cancel]
    obtain ⟨i, ei⟩ : ∃ i, i = (o + b) % 14 := ⟨_, rfl⟩
    have hi : i < 14 := by omega
    obtain ⟨S1, eS1⟩ : ∃ S1, S1 = zx_st S0 12 (upd (S0 12) 2 (nI b)) := ⟨_, rfl⟩
    have hS13 : S1 3 = S0 3 := by rw [eS1, st_ne (by decide)]
    obtain ⟨g, e1, k1, k2⟩ := d_copy (N := N) (n0 := 5320) (n1 := 380) (a := 380 * b) (b := 0) (f0 := S1 3) (f1 := S1 1) hN (by omega) (by omega) (by decide) (by decide)
    obtain ⟨S2, eS2⟩ : ∃ S2, S2 = zx_st S1 1 g := ⟨_, rfl⟩
    obtain ⟨B1, eB1⟩ : ∃ B1, B1 = zx_sb B 19 (zx_st (B 19) 1 (upd (B 19 1) 1 (nI b))) := ⟨_, rfl⟩
    have hB1 : ∀ j, j ≠ 19 → B1 j = B j := fun j hj => by rw [eB1, zsb_ne hj]
    have hB10 : B1 19 1 0 = nI o := by rw [eB1, zsb_at, st_at, up_ne (by decide)]; exact r1
    have hB11 : B1 19 1 1 = nI b := by rw [eB1, zsb_at, st_at, up_at]
    have h4 := r4 b (by omega)
    rw [← ei] at h4
    obtain ⟨T', e2, hT', f2⟩ := zsame_copy (N := N) (T := B1 0) (r' := S2 1) h4 (fun j hj => by
      rw [eS2, st_at]
      have := k1 j hj
      rw [Nat.zero_add, hS13] at this
      exact this)
    rw [← hB1 (2 + i) (by omega)] at e2
    have f12 : ∀ j, j ≠ 2 → S2 12 j = S0 12 j := fun j hj => by rw [eS2, st_ne (by decide), eS1, st_at, up_ne hj]
    have f122 : S2 12 2 = nI b := by rw [eS2, st_ne (by decide), eS1, st_at, up_at]
    have fS : zfr [1, 12] S0 S2 := by
      rw [eS2]
      exact zfr_st (by simp) (by rw [eS1]; exact zfr_st (by simp) zfr_refl)
    refine ⟨(nI b, (0, zx_sb B1 0 T')), nI b, S2, ?_, ?_, ?_, Or.inl ⟨rfl, by rw [f12 0 (by decide)]; exact h120, rfl⟩⟩
    · unfold f_X2_undo
      rw [r2, if_neg hne, hd, m_n, ← eB1, hB10, hB11, nI_add, show (14 : Int32) = nI 14 from rfl, zi_mod (by omega) (by decide), ← ei, m_n, m_treeAt hi (by decide), m_b1, e2, m_b1, m_n, zsb_ne (by decide), hB11]
    · unfold f_X3_undo
      rw [r3, if_neg hne]
      unfold f_X3_undo_j13
      rw [m_ref0, m_b2, if_pos (by decide), ← eS0, h122, r3, hd, m_n, ← eS1, show S1 12 2 = nI b by rw [eS1, st_at, up_at], zl380, zl0, zi_mul, e1, m_b1, m_n, ← eS2, f122]
    · refine ZInv_ring (a := b) (o := o) hI0 ⟨?_, ?_, f122, fun x hx => ?_⟩ (by omega) ho ?_ (fun j h1 h2 => ?_) ⟨?_, ?_⟩ ?_ ⟨fS 0 (by decide), fS 4 (by decide), fS 5 (by decide)⟩ (f12 1 (by decide))
      · show zx_sb B1 0 T' 19 1 0 = nI o
        rw [zsb_ne (by decide)]; exact hB10
      · show zx_sb B1 0 T' 19 1 1 = nI b
        rw [zsb_ne (by decide)]; exact hB11
      · show zsame (zx_sb B1 0 T' (2 + (o + x) % 14)) _
        rw [zsb_ne (by omega), hB1 _ (by omega), fS 3 (by decide)]
        exact r4 x (by omega)
      · show zsame (zx_sb B1 0 T' 0) _
        rw [zsb_at]; exact hT'
      · show zx_sb B1 0 T' j = B j
        rw [zsb_ne (by omega), hB1 j (by omega)]
      · show zx_sb B1 0 T' 18 0 = _
        rw [zsb_ne (by decide), hB1 18 (by decide)]
      · show zx_sb B1 0 T' 18 2 0 = _
        rw [zsb_ne (by decide), hB1 18 (by decide)]
      · show zx_sb B1 0 T' 19 0 = _
        rw [zsb_ne (by decide), eB1, zsb_at, st_ne (by decide)]
