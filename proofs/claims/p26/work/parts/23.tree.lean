/-! numbers, and lists in rows -/
theorem zi_mul (a b : Nat) : nI a * nI b = nI (a * b) := by unfold nI; exact (Int32.ofNat_mul a b).symm
theorem zi_mul4 (a : Nat) : nI a * nI 4 = nI (4 * a) := by rw [zi_mul, Nat.mul_comm]
theorem zi_4m (a : Nat) : nI 4 * nI a = nI (4 * a) := zi_mul 4 a
theorem zi_5m (a : Nat) : nI 5 * nI a = nI (5 * a) := zi_mul 5 a
theorem zi_8m (a : Nat) : nI 8 * nI a = nI (8 * a) := zi_mul 8 a
theorem zi_mul5 (a : Nat) : nI a * nI 5 = nI (5 * a) := by rw [zi_mul, Nat.mul_comm]
theorem zi_sub {a b : Nat} (h : b ≤ a) : nI a - nI b = nI (a - b) := by
  have : nI a = nI (a - b) + nI b := by rw [nI_add, Nat.sub_add_cancel h]
  rw [this, Int32.add_sub_cancel]
theorem zi_192 : (196 : Int32) - 4 = nI 192 := by decide
theorem zi_dec {a : Nat} (h : 0 < a) : nI a + zM1 = nI (a - 1) := by
  rw [← zi_sub (b := 1) h, Int32.sub_eq_add_neg]; rfl
theorem zlm1 : (-1 : Int32) = zM1 := by decide
theorem zlm2 : (-2 : Int32) = zM2 := by decide
theorem zi_e1 {a : Nat} (h : a < 2 ^ 31) : (nI a = zM1) ↔ False := ⟨zi_m1 h, False.elim⟩
theorem zi_e2 {a : Nat} (h : a < 2 ^ 31) : (nI a = zM2) ↔ False := ⟨zi_m2 h, False.elim⟩
theorem zi_1e {a : Nat} (h : a < 2 ^ 31) : (zM1 = nI a) ↔ False := ⟨fun e => zi_m1 h e.symm, False.elim⟩
theorem zi_12 : (zM1 = zM2) ↔ False := by decide
theorem zi_21 : (zM2 = zM1) ↔ False := by decide
theorem zi_1n {a : Nat} (h : a < 2 ^ 31) : zM1 ≤ nI a ↔ True := ⟨fun _ => trivial, fun _ => by rw [Int32.le_iff_toInt_le, nI_toInt h, show zM1.toInt = -1 from by decide]; omega⟩
theorem zi_n1 {a : Nat} (h : a < 2 ^ 31) : nI a ≤ zM1 ↔ False := ⟨fun x => by rw [Int32.le_iff_toInt_le, nI_toInt h, show zM1.toInt = -1 from by decide] at x; omega, False.elim⟩
theorem zl0 : (0 : Int32) = nI 0 := by decide
theorem zl1 : (1 : Int32) = nI 1 := by decide
theorem zl2 : (2 : Int32) = nI 2 := by decide
theorem zl3 : (3 : Int32) = nI 3 := by decide
theorem zl4 : (4 : Int32) = nI 4 := by decide
theorem zl5 : (5 : Int32) = nI 5 := by decide
theorem zl6 : (6 : Int32) = nI 6 := by decide
theorem zl8 : (8 : Int32) = nI 8 := by decide
theorem zl9 : (9 : Int32) = nI 9 := by decide
theorem zl24 : (24 : Int32) = nI 24 := by decide
theorem zl32 : (32 : Int32) = nI 32 := by decide
theorem zl48 : (48 : Int32) = nI 48 := by decide
theorem zl49 : (49 : Int32) = nI 49 := by decide
theorem zl99 : (99 : Int32) = nI 99 := by decide
theorem zl100 : (100 : Int32) = nI 100 := by decide
theorem zl120 : (120 : Int32) = nI 120 := by decide
theorem zl376 : (376 : Int32) = nI 376 := by decide
theorem zl377 : (377 : Int32) = nI 377 := by decide
theorem zl378 : (378 : Int32) = nI 378 := by decide
theorem zl379 : (379 : Int32) = nI 379 := by decide
theorem zl380 : (380 : Int32) = nI 380 := by decide
theorem zat_get {f : Nat → Int32} : ∀ {l : List Nat} {b k : Nat}, zat f b l → k < l.length → f (b + k) = nI (l.getD k 0)
  | c :: l, b, 0, h, _ => h.1
  | c :: l, b, k + 1, h, hk => by
    have := zat_get (k := k) h.2 (by simpa using hk)
    rw [show b + (k + 1) = b + 1 + k by omega, this]
    simp
theorem zat_app {f : Nat → Int32} : ∀ {l m : List Nat} {b : Nat}, zat f b (l ++ m) ↔ zat f b l ∧ zat f (b + l.length) m
  | [], m, b => by simp [zat]
  | c :: l, m, b => by
    simp only [List.cons_append, zat, List.length_cons, zat_app (l := l) (m := m) (b := b + 1), and_assoc, Nat.add_assoc, Nat.add_comm 1]
theorem zat_congr {f g : Nat → Int32} : ∀ {l : List Nat} {b : Nat}, (∀ j, b ≤ j → j < b + l.length → g j = f j) → zat f b l → zat g b l
  | [], b, _, _ => trivial
  | c :: l, b, h, hf => ⟨by rw [h b (Nat.le_refl b) (by simp)]; exact hf.1, zat_congr (fun j h1 h2 => h j (by omega) (by simp only [List.length_cons]; omega)) hf.2⟩
theorem zat_up {f g : Nat → Int32} : ∀ {l : List Nat} {b : Nat}, (∀ j, b ≤ j → j < b + l.length → g (j + 1) = f j) → zat f b l → zat g (b + 1) l
  | [], b, _, _ => trivial
  | c :: l, b, h, hf => ⟨by rw [h b (Nat.le_refl b) (by simp)]; exact hf.1, zat_up (fun j h1 h2 => h j (by omega) (by simp only [List.length_cons]; omega)) hf.2⟩
theorem zat_dn {f g : Nat → Int32} : ∀ {l : List Nat} {b : Nat}, (∀ j, b ≤ j → j < b + l.length → g j = f (j + 1)) → zat f (b + 1) l → zat g b l
  | [], b, _, _ => trivial
  | c :: l, b, h, hf => ⟨by rw [h b (Nat.le_refl b) (by simp)]; exact hf.1, zat_dn (fun j h1 h2 => h j (by omega) (by simp only [List.length_cons]; omega)) hf.2⟩
theorem zfr_refl {l : List Nat} {T : zx_S} : zfr l T T := fun _ _ => rfl
theorem zfr_trans {l : List Nat} {T T1 T2 : zx_S} (h : zfr l T T1) (h2 : zfr l T1 T2) : zfr l T T2 := fun j hj => (h2 j hj).trans (h j hj)
theorem zfr_sub {l m : List Nat} {T T1 : zx_S} (h : zfr l T T1) (hs : ∀ j, j ∈ l → j ∈ m) : zfr m T T1 := fun j hj => h j (fun z => hj (hs j z))
theorem zfr_st {l : List Nat} {T T1 : zx_S} {k : Nat} {f : Nat → Int32} (hk : k ∈ l) (h : zfr l T T1) : zfr l T (zx_st T1 k f) := fun j hj => (st_ne (fun e => hj (by rw [e]; exact hk))).trans (h j hj)
/-! attach, detach, newNode -/
theorem m_attach_l {N : Nat} (a p c m : Nat) (ha : a < 49) (hc : c < 49) (hm : m < 100) : ∀ (d n : Nat) (T : zx_S), d < n → 5 * a + p + d < 245 →
    ∃ T', f_X1_attach_l19 N n (nI a) (nI p) (nI c) (nI m) (nI (5 * a)) (nI (p + d)) T = some T' ∧ zfr [2, 3, 4] T T' ∧ T' 3 = upd (T 3) a (nI (m + 1)) ∧ T' 2 = upd (T 2) c (nI a) ∧ T' 4 (5 * a + p) = nI c ∧ (∀ j, 5 * a + p ≤ j → j < 5 * a + p + d → T' 4 (j + 1) = T 4 j) ∧ (∀ j, (j < 5 * a + p ∨ 5 * a + p + d < j) → T' 4 j = T 4 j)
  | 0, n + 1, T, _, hb => by
    rw [f_X1_attach_l19]
    simp (disch := omega) only [↓zlm1, ↓zlm2, zi_e1, zi_e2, zi_1e, zi_12, zi_21, zi_1n, zi_n1, if_true, if_false, eq_self, not_false_eq_true, not_true_eq_false, nI_add, zi_4m, zi_5m, zi_8m, zi_mul4, zi_mul5, zi_sub, nI_leI, nI_ltI, nI_eq, zl0, zl1, zl2, zl3, zl4, zl5, zl6, zl8, zl9, zl24, zl32, zl48, zl49, zl99, zl100, zl120, zl376, zl377, zl378, zl379, zl380, ↓zi_192, zi_dec, Nat.add_zero, Nat.zero_add, m_n, m_b1, m_b2, m_rd, m_wr, m_get, m_put, nI_clamp, st_at, st_ne, up_at, up_ne, if_pos, if_neg]
    refine ⟨_, rfl, ?_, ?_, ?_, ?_, ?_, ?_⟩
    · exact zfr_st (by decide) (zfr_st (by decide) (zfr_st (by decide) zfr_refl))
    · simp (disch := omega) only [m_n, m_b1, m_b2, m_rd, m_wr, m_get, m_put, nI_clamp, st_at, st_ne, up_at, up_ne, if_pos, if_neg]
    · simp (disch := omega) only [m_n, m_b1, m_b2, m_rd, m_wr, m_get, m_put, nI_clamp, st_at, st_ne, up_at, up_ne, if_pos, if_neg]
    · simp (disch := omega) only [m_n, m_b1, m_b2, m_rd, m_wr, m_get, m_put, nI_clamp, st_at, st_ne, up_at, up_ne, if_pos, if_neg]
    · intro j h1 h2; omega
    · intro j h1
      simp (disch := omega) only [m_n, m_b1, m_b2, m_rd, m_wr, m_get, m_put, nI_clamp, st_at, st_ne, up_at, up_ne, if_pos, if_neg]
  | d + 1, n + 1, T, hd, hb => by
    rw [f_X1_attach_l19]
    simp (disch := omega) only [↓zlm1, ↓zlm2, zi_e1, zi_e2, zi_1e, zi_12, zi_21, zi_1n, zi_n1, if_true, if_false, eq_self, not_false_eq_true, not_true_eq_false, nI_add, zi_4m, zi_5m, zi_8m, zi_mul4, zi_mul5, zi_sub, nI_leI, nI_ltI, nI_eq, zl0, zl1, zl2, zl3, zl4, zl5, zl6, zl8, zl9, zl24, zl32, zl48, zl49, zl99, zl100, zl120, zl376, zl377, zl378, zl379, zl380, ↓zi_192, zi_dec, Nat.add_zero, Nat.zero_add, m_n, m_b1, m_b2, m_rd, m_wr, m_get, m_put, nI_clamp, st_at, st_ne, up_at, up_ne, if_pos, if_neg]
    obtain ⟨T', e, h1, h2, h3, h4, h5, h6⟩ := m_attach_l (N := N) a p c m ha hc hm d n (zx_st T 4 (upd (T 4) (5 * a + (p + (d + 1))) (T 4 (5 * a + (p + (d + 1)) - 1)))) (by omega) (by omega)
    rw [show p + (d + 1) - 1 = p + d from rfl, e]
    simp (disch := omega) only [m_n, m_b1, m_b2, m_rd, m_wr, m_get, m_put, nI_clamp, st_at, st_ne, up_at, up_ne, if_pos, if_neg] at h2 h3 h5 h6
    refine ⟨T', rfl, zfr_trans (zfr_st (by decide) zfr_refl) h1, h2, h3, h4, ?_, ?_⟩
    · intro j hj1 hj2
      by_cases hj : j < 5 * a + p + d
      · rw [h5 j hj1 hj]
        simp (disch := omega) only [m_n, m_b1, m_b2, m_rd, m_wr, m_get, m_put, nI_clamp, st_at, st_ne, up_at, up_ne, if_pos, if_neg]
      · rw [h6 (j + 1) (by omega), show j + 1 = 5 * a + (p + (d + 1)) by omega, up_at]
        exact congrArg (T 4) (by omega)
    · intro j hj
      rw [h6 j (by omega)]
      simp (disch := omega) only [m_n, m_b1, m_b2, m_rd, m_wr, m_get, m_put, nI_clamp, st_at, st_ne, up_at, up_ne, if_pos, if_neg]
/-- a list's item goes in at a place -/
theorem m_attach {N : Nat} (hN : 100 < N) {T : zx_S} {a c : Nat} {l m : List Nat} (ha : a < 49) (hc : c < 49) (hl : zat (T 4) (5 * a) (l ++ m)) (hs : T 3 a = nI (l ++ m).length) (hb : (l ++ m).length < 5) :
    ∃ T', f_X1_attach N (nI a) (nI l.length) (nI c) T = some T' ∧ zfr [2, 3, 4] T T' ∧ T' 3 = upd (T 3) a (nI ((l ++ m).length + 1)) ∧ T' 2 = upd (T 2) c (nI a) ∧ zat (T' 4) (5 * a) (l ++ c :: m) ∧ (∀ j, (j < 5 * a ∨ 5 * a + 5 ≤ j) → T' 4 j = T 4 j) := by
  have hlen : (l ++ m).length = l.length + m.length := List.length_append
  rw [hlen] at hb hs
  obtain ⟨T', e, h1, h2, h3, h4, h5, h6⟩ := m_attach_l (N := N) a l.length c (l.length + m.length) ha hc (by omega) m.length N T (by omega) (by omega)
  refine ⟨T', ?_, h1, by rw [hlen]; exact h2, h3, ?_, fun j hj => h6 j (by omega)⟩
  · unfold f_X1_attach
    simp (disch := omega) only [↓zlm1, ↓zlm2, zi_e1, zi_e2, zi_1e, zi_12, zi_21, zi_1n, zi_n1, if_true, if_false, eq_self, not_false_eq_true, not_true_eq_false, nI_add, zi_4m, zi_5m, zi_8m, zi_mul4, zi_mul5, zi_sub, nI_leI, nI_ltI, nI_eq, zl0, zl1, zl2, zl3, zl4, zl5, zl6, zl8, zl9, zl24, zl32, zl48, zl49, zl99, zl100, zl120, zl376, zl377, zl378, zl379, zl380, ↓zi_192, zi_dec, Nat.add_zero, Nat.zero_add, m_n, m_b1, m_b2, m_rd, m_wr, m_get, m_put, nI_clamp, st_at, st_ne, up_at, up_ne, if_pos, if_neg, hs, e]
  · rw [zat_app] at hl
    rw [zat_app]
    refine ⟨zat_congr (fun j z1 z2 => h6 j (by omega)) hl.1, h4, ?_⟩
    exact zat_up (fun j z1 z2 => h5 j z1 z2) hl.2
theorem m_place_l {N : Nat} {T : zx_S} (a c M : Nat) (ha : a < 49) (hc : c < 49) (hM : M ≤ 5) : ∀ (l m : List Nat) (k n : Nat), l.length < n → zat (T 4) (5 * a + k) (l ++ c :: m) → k + l.length < M → c ∉ l → (∀ x, x ∈ l → x < 49) →
    f_X1_placeOf_l12 N T n (nI a) (nI c) (nI M) (nI k) = some (nI (k + l.length))
  | [], m, k, n + 1, _, hz, hk, _, _ => by
    have h0 : T 4 (5 * a + k) = nI c := hz.1
    simp only [List.length_nil] at hk
    rw [f_X1_placeOf_l12]
    simp (disch := omega) only [↓zlm1, ↓zlm2, zi_e1, zi_e2, zi_1e, zi_12, zi_21, zi_1n, zi_n1, if_true, if_false, eq_self, not_false_eq_true, not_true_eq_false, nI_add, zi_4m, zi_5m, zi_8m, zi_mul4, zi_mul5, zi_sub, nI_leI, nI_ltI, nI_eq, zl0, zl1, zl2, zl3, zl4, zl5, zl6, zl8, zl9, zl24, zl32, zl48, zl49, zl99, zl100, zl120, zl376, zl377, zl378, zl379, zl380, ↓zi_192, zi_dec, Nat.add_zero, Nat.zero_add, m_n, m_b1, m_b2, m_rd, m_wr, m_get, m_put, nI_clamp, st_at, st_ne, up_at, up_ne, if_pos, if_neg, h0, List.length_nil]
  | x :: l, m, k, n + 1, hn, hz, hk, hx, hb => by
    have h0 : T 4 (5 * a + k) = nI x := hz.1
    have h1 : x < 49 := hb x (by simp)
    have h2 : ¬ x = c := fun e => hx (by simp [e])
    simp only [List.length_cons] at hk hn
    rw [f_X1_placeOf_l12]
    simp (disch := omega) only [↓zlm1, ↓zlm2, zi_e1, zi_e2, zi_1e, zi_12, zi_21, zi_1n, zi_n1, if_true, if_false, eq_self, not_false_eq_true, not_true_eq_false, nI_add, zi_4m, zi_5m, zi_8m, zi_mul4, zi_mul5, zi_sub, nI_leI, nI_ltI, nI_eq, zl0, zl1, zl2, zl3, zl4, zl5, zl6, zl8, zl9, zl24, zl32, zl48, zl49, zl99, zl100, zl120, zl376, zl377, zl378, zl379, zl380, ↓zi_192, zi_dec, Nat.add_zero, Nat.zero_add, m_n, m_b1, m_b2, m_rd, m_wr, m_get, m_put, nI_clamp, st_at, st_ne, up_at, up_ne, if_pos, if_neg, h0, List.length_cons]
    rw [m_place_l a c M ha hc hM l m (k + 1) n (by omega) (by rw [← Nat.add_assoc]; exact hz.2) (by omega) (fun z => hx (List.mem_cons_of_mem _ z)) (fun y hy => hb y (List.mem_cons_of_mem _ hy))]
    rw [show k + 1 + l.length = k + (l.length + 1) by omega]
theorem m_place {N : Nat} (hN : 100 < N) {T : zx_S} {a c : Nat} {l m : List Nat} (ha : a < 49) (hc : c < 49) (hl : zat (T 4) (5 * a) (l ++ c :: m)) (hs : T 3 a = nI (l ++ c :: m).length) (hb : (l ++ c :: m).length ≤ 5) (hx : c ∉ l) (hi : ∀ x, x ∈ l → x < 49) :
    f_X1_placeOf N (nI a) (nI c) T = some (nI l.length) := by
  have hlen : (l ++ c :: m).length = l.length + (m.length + 1) := by simp
  unfold f_X1_placeOf
  rw [hlen] at hs hb
  simp (disch := omega) only [↓zlm1, ↓zlm2, zi_e1, zi_e2, zi_1e, zi_12, zi_21, zi_1n, zi_n1, if_true, if_false, eq_self, not_false_eq_true, not_true_eq_false, nI_add, zi_4m, zi_5m, zi_8m, zi_mul4, zi_mul5, zi_sub, nI_leI, nI_ltI, nI_eq, zl0, zl1, zl2, zl3, zl4, zl5, zl6, zl8, zl9, zl24, zl32, zl48, zl49, zl99, zl100, zl120, zl376, zl377, zl378, zl379, zl380, ↓zi_192, zi_dec, Nat.add_zero, Nat.zero_add, m_n, m_b1, m_b2, m_rd, m_wr, m_get, m_put, nI_clamp, st_at, st_ne, up_at, up_ne, if_pos, if_neg, hs]
  rw [m_place_l a c _ ha hc hb l m 0 N (by omega) hl (by omega) hx hi, Nat.zero_add]
theorem m_detach_l {N : Nat} (a c M : Nat) (ha : a < 49) (hc : c < 49) (hM : M ≤ 5) : ∀ (d p n : Nat) (T : zx_S), d < n → p + d + 1 = M →
    ∃ T', f_X1_detach_l31 N n (nI c) (nI a) (nI M) (nI (5 * a)) (nI p) T = some T' ∧ zfr [2, 3, 4] T T' ∧ T' 3 = upd (T 3) a (nI (M - 1)) ∧ T' 2 = upd (T 2) c zM1 ∧ (∀ j, 5 * a + p ≤ j → j < 5 * a + p + d → T' 4 j = T 4 (j + 1)) ∧ (∀ j, (j < 5 * a + p ∨ 5 * a + p + d ≤ j) → T' 4 j = T 4 j)
  | 0, p, n + 1, T, _, hb => by
    rw [f_X1_detach_l31]
    simp (disch := omega) only [↓zlm1, ↓zlm2, zi_e1, zi_e2, zi_1e, zi_12, zi_21, zi_1n, zi_n1, if_true, if_false, eq_self, not_false_eq_true, not_true_eq_false, nI_add, zi_4m, zi_5m, zi_8m, zi_mul4, zi_mul5, zi_sub, nI_leI, nI_ltI, nI_eq, zl0, zl1, zl2, zl3, zl4, zl5, zl6, zl8, zl9, zl24, zl32, zl48, zl49, zl99, zl100, zl120, zl376, zl377, zl378, zl379, zl380, ↓zi_192, zi_dec, Nat.add_zero, Nat.zero_add, m_n, m_b1, m_b2, m_rd, m_wr, m_get, m_put, nI_clamp, st_at, st_ne, up_at, up_ne, if_pos, if_neg]
    refine ⟨_, rfl, ?_, ?_, ?_, ?_, ?_⟩
    · exact zfr_st (by decide) (zfr_st (by decide) zfr_refl)
    · simp (disch := omega) only [m_n, m_b1, m_b2, m_rd, m_wr, m_get, m_put, nI_clamp, st_at, st_ne, up_at, up_ne, if_pos, if_neg]
    · simp (disch := omega) only [m_n, m_b1, m_b2, m_rd, m_wr, m_get, m_put, nI_clamp, st_at, st_ne, up_at, up_ne, if_pos, if_neg]
    · intro j h1 h2; omega
    · intro j h1
      simp (disch := omega) only [m_n, m_b1, m_b2, m_rd, m_wr, m_get, m_put, nI_clamp, st_at, st_ne, up_at, up_ne, if_pos, if_neg]
  | d + 1, p, n + 1, T, hd, hb => by
    rw [f_X1_detach_l31]
    simp (disch := omega) only [↓zlm1, ↓zlm2, zi_e1, zi_e2, zi_1e, zi_12, zi_21, zi_1n, zi_n1, if_true, if_false, eq_self, not_false_eq_true, not_true_eq_false, nI_add, zi_4m, zi_5m, zi_8m, zi_mul4, zi_mul5, zi_sub, nI_leI, nI_ltI, nI_eq, zl0, zl1, zl2, zl3, zl4, zl5, zl6, zl8, zl9, zl24, zl32, zl48, zl49, zl99, zl100, zl120, zl376, zl377, zl378, zl379, zl380, ↓zi_192, zi_dec, Nat.add_zero, Nat.zero_add, m_n, m_b1, m_b2, m_rd, m_wr, m_get, m_put, nI_clamp, st_at, st_ne, up_at, up_ne, if_pos, if_neg]
    obtain ⟨T', e, h1, h2, h3, h5, h6⟩ := m_detach_l (N := N) a c M ha hc hM d (p + 1) n (zx_st T 4 (upd (T 4) (5 * a + p) (T 4 (5 * a + p + 1)))) (by omega) (by omega)
    rw [e]
    simp (disch := omega) only [m_n, m_b1, m_b2, m_rd, m_wr, m_get, m_put, nI_clamp, st_at, st_ne, up_at, up_ne, if_pos, if_neg] at h2 h3 h5 h6
    refine ⟨T', rfl, zfr_trans (zfr_st (by decide) zfr_refl) h1, h2, h3, ?_, ?_⟩
    · intro j hj1 hj2
      by_cases hj : j = 5 * a + p
      · rw [h6 j (by omega), hj, up_at]
      · rw [h5 j (by omega) (by omega)]
        simp (disch := omega) only [m_n, m_b1, m_b2, m_rd, m_wr, m_get, m_put, nI_clamp, st_at, st_ne, up_at, up_ne, if_pos, if_neg]
    · intro j hj
      rw [h6 j (by omega)]
      simp (disch := omega) only [m_n, m_b1, m_b2, m_rd, m_wr, m_get, m_put, nI_clamp, st_at, st_ne, up_at, up_ne, if_pos, if_neg]
/-- a list's item goes out -/
theorem m_detach {N : Nat} (hN : 100 < N) {T : zx_S} {a c : Nat} {l m : List Nat} (ha : a < 49) (hc : c < 49) (h2 : T 2 c = nI a) (hl : zat (T 4) (5 * a) (l ++ c :: m)) (hs : T 3 a = nI (l ++ c :: m).length) (hb : (l ++ c :: m).length ≤ 5) (hx : c ∉ l) (hi : ∀ x, x ∈ l → x < 49) :
    ∃ T', f_X1_detach N (nI c) T = some T' ∧ zfr [2, 3, 4] T T' ∧ T' 3 = upd (T 3) a (nI (l ++ m).length) ∧ T' 2 = upd (T 2) c zM1 ∧ zat (T' 4) (5 * a) (l ++ m) ∧ (∀ j, (j < 5 * a ∨ 5 * a + 5 ≤ j) → T' 4 j = T 4 j) := by
  have hlen : (l ++ c :: m).length = l.length + (m.length + 1) := by simp
  have hlen2 : (l ++ m).length = l.length + m.length := by simp
  have hp := m_place hN ha hc hl hs hb hx hi
  rw [hlen] at hs hb
  obtain ⟨T', e, h1, h3, h4, h5, h6⟩ := m_detach_l (N := N) a c (l.length + (m.length + 1)) ha hc hb m.length l.length N T (by omega) (by omega)
  refine ⟨T', ?_, h1, by rw [hlen2]; exact h3, h4, ?_, fun j hj => h6 j (by omega)⟩
  · unfold f_X1_detach
    simp (disch := omega) only [↓zlm1, ↓zlm2, zi_e1, zi_e2, zi_1e, zi_12, zi_21, zi_1n, zi_n1, if_true, if_false, eq_self, not_false_eq_true, not_true_eq_false, nI_add, zi_4m, zi_5m, zi_8m, zi_mul4, zi_mul5, zi_sub, nI_leI, nI_ltI, nI_eq, zl0, zl1, zl2, zl3, zl4, zl5, zl6, zl8, zl9, zl24, zl32, zl48, zl49, zl99, zl100, zl120, zl376, zl377, zl378, zl379, zl380, ↓zi_192, zi_dec, Nat.add_zero, Nat.zero_add, m_n, m_b1, m_b2, m_rd, m_wr, m_get, m_put, nI_clamp, st_at, st_ne, up_at, up_ne, if_pos, if_neg, h2, hs, hp, e]
  · rw [zat_app] at hl
    rw [zat_app]
    refine ⟨zat_congr (fun j z1 z2 => h6 j (by omega)) hl.1, ?_⟩
    exact zat_dn (fun j z1 z2 => h5 j z1 z2) hl.2.2
/-- the lowest free node is taken -/
theorem m_newNode_l {N : Nat} {T : zx_S} (v : Int32) (s : Nat) (hs : s < 24) (hf : T 1 (24 + s) = zM2) : ∀ (d n k : Nat), d < n → k + d = s → (∀ i, k ≤ i → i < s → T 1 (24 + i) ≠ zM2) →
    f_X1_newNode_l3 N n v (nI (24 + k)) T = some (nI (24 + s), zx_st (zx_st (zx_st T 1 (upd (T 1) (24 + s) v)) 2 (upd (T 2) (24 + s) zM1)) 3 (upd (T 3) (24 + s) (nI 0)))
  | 0, n + 1, k, _, hk, _ => by
    have : k = s := by omega
    subst this
    rw [f_X1_newNode_l3]
    simp (disch := omega) only [↓zlm1, ↓zlm2, zi_e1, zi_e2, zi_1e, zi_12, zi_21, zi_1n, zi_n1, if_true, if_false, eq_self, not_false_eq_true, not_true_eq_false, nI_add, zi_4m, zi_5m, zi_8m, zi_mul4, zi_mul5, zi_sub, nI_leI, nI_ltI, nI_eq, zl0, zl1, zl2, zl3, zl4, zl5, zl6, zl8, zl9, zl24, zl32, zl48, zl49, zl99, zl100, zl120, zl376, zl377, zl378, zl379, zl380, ↓zi_192, zi_dec, Nat.add_zero, Nat.zero_add, m_n, m_b1, m_b2, m_rd, m_wr, m_get, m_put, nI_clamp, st_at, st_ne, up_at, up_ne, if_pos, if_neg, hf]
  | d + 1, n + 1, k, hd, hk, hh => by
    have h1 : ¬ T 1 (24 + k) = zM2 := hh k (Nat.le_refl k) (by omega)
    rw [f_X1_newNode_l3]
    simp (disch := omega) only [↓zlm1, ↓zlm2, zi_e1, zi_e2, zi_1e, zi_12, zi_21, zi_1n, zi_n1, if_true, if_false, eq_self, not_false_eq_true, not_true_eq_false, nI_add, zi_4m, zi_5m, zi_8m, zi_mul4, zi_mul5, zi_sub, nI_leI, nI_ltI, nI_eq, zl0, zl1, zl2, zl3, zl4, zl5, zl6, zl8, zl9, zl24, zl32, zl48, zl49, zl99, zl100, zl120, zl376, zl377, zl378, zl379, zl380, ↓zi_192, zi_dec, Nat.add_zero, Nat.zero_add, m_n, m_b1, m_b2, m_rd, m_wr, m_get, m_put, nI_clamp, st_at, st_ne, up_at, up_ne, if_pos, if_neg]
    have h2 := m_newNode_l (N := N) v s hs hf d n (k + 1) (by omega) (by omega) (fun i z1 z2 => hh i (by omega) z2)
    rw [← Nat.add_assoc] at h2
    rw [h2]
theorem m_newNode {N : Nat} (hN : 100 < N) {T : zx_S} (v : Int32) (s : Nat) (hs : s < 24) (hf : T 1 (24 + s) = zM2) (hh : ∀ i, i < s → T 1 (24 + i) ≠ zM2) :
    f_X1_newNode N v T = some (nI (24 + s), zx_st (zx_st (zx_st T 1 (upd (T 1) (24 + s) v)) 2 (upd (T 2) (24 + s) zM1)) 3 (upd (T 3) (24 + s) (nI 0))) := by
  unfold f_X1_newNode
  exact m_newNode_l v s hs hf s N 0 (by omega) (by omega) (fun i _ z2 => hh i z2)
