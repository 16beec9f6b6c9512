/-! the reference finds the node above -/
theorem d_nw_l53 {N : Nat} {r : Nat → Int32} {K : Int32 → Int32 → Option Int32} (s c M : Nat) (may : Int32) (hs : s < 32) (hc : c < 48) (hM : M < 6) (hr1 : r (120 + 8 * s + 1) = nI M) : ∀ (l : List Nat) (k n : Nat), l.length < n → k + l.length = M → zat r (120 + 8 * s + 2 + k) l → c ∉ l → (∀ x, x ∈ l → x < 48) →
    f_X3_nodeWith_l53 N 380 r K n (nI c) (nI s) may (nI k) = K (nI c) (nI (s + 1))
  | [], k, n + 1, _, hk2, _, _, _ => by
    simp only [List.length_nil] at hk2
    rw [f_X3_nodeWith_l53]
    unfold f_X3_nodeWith_j86
    simp (disch := omega) only [r_many, ↓zlm1, ↓zlm2, zi_e1, zi_e2, zi_1e, zi_12, zi_21, zi_1n, zi_n1, if_true, if_false, eq_self, not_false_eq_true, not_true_eq_false, nI_add, zi_4m, zi_5m, zi_8m, zi_mul4, zi_mul5, zi_sub, nI_leI, nI_ltI, nI_eq, zl0, zl1, zl2, zl3, zl4, zl5, zl6, zl8, zl9, zl24, zl32, zl48, zl49, zl99, zl100, zl120, zl376, zl377, zl378, zl379, zl380, ↓zi_192, zi_dec, Nat.add_zero, Nat.zero_add, m_n, m_b1, m_b2, m_rd, m_wr, m_get, m_put, nI_clamp, st_at, st_ne, up_at, up_ne, if_pos, if_neg, hr1]
  | x :: l, k, n + 1, hn, hk2, hz, hx, hi => by
    have h0 : r (120 + 8 * s + 2 + k) = nI x := hz.1
    have h1 := hi x (by simp)
    have h2 : ¬ x = c := fun z => hx (by simp [z])
    simp only [List.length_cons] at hk2 hn
    rw [f_X3_nodeWith_l53]
    unfold f_X3_nodeWith_j86
    simp (disch := omega) only [r_many, r_entryOf, ↓zlm1, ↓zlm2, zi_e1, zi_e2, zi_1e, zi_12, zi_21, zi_1n, zi_n1, if_true, if_false, eq_self, not_false_eq_true, not_true_eq_false, nI_add, zi_4m, zi_5m, zi_8m, zi_mul4, zi_mul5, zi_sub, nI_leI, nI_ltI, nI_eq, zl0, zl1, zl2, zl3, zl4, zl5, zl6, zl8, zl9, zl24, zl32, zl48, zl49, zl99, zl100, zl120, zl376, zl377, zl378, zl379, zl380, ↓zi_192, zi_dec, Nat.add_zero, Nat.zero_add, m_n, m_b1, m_b2, m_rd, m_wr, m_get, m_put, nI_clamp, st_at, st_ne, up_at, up_ne, if_pos, if_neg, hr1, h0]
    rw [d_nw_l53 s c M may hs hc hM hr1 l (k + 1) n (by omega) (by omega) (by rw [← Nat.add_assoc]; exact hz.2) (fun z => hx (List.mem_cons_of_mem _ z)) (fun y hy => hi y (List.mem_cons_of_mem _ hy))]
    exact ite_self _
theorem d_nw_hit {N : Nat} {r : Nat → Int32} {K : Int32 → Int32 → Option Int32} (s c M : Nat) (hs : s < 32) (hc : c < 48) (hM : M < 6) (hr1 : r (120 + 8 * s + 1) = nI M) : ∀ (l m : List Nat) (k n : Nat), l.length < n → k + l.length < M → zat r (120 + 8 * s + 2 + k) (l ++ c :: m) → c ∉ l → (∀ x, x ∈ l → x < 48) →
    f_X3_nodeWith_l53 N 380 r K n (nI c) (nI s) (nI 1) (nI k) = some (nI s)
  | [], m, k, n + 1, _, hk2, hz, _, _ => by
    have h0 : r (120 + 8 * s + 2 + k) = nI c := hz.1
    simp only [List.length_nil] at hk2
    rw [f_X3_nodeWith_l53]
    simp (disch := omega) only [r_many, r_entryOf, ↓zlm1, ↓zlm2, zi_e1, zi_e2, zi_1e, zi_12, zi_21, zi_1n, zi_n1, if_true, if_false, eq_self, not_false_eq_true, not_true_eq_false, nI_add, zi_4m, zi_5m, zi_8m, zi_mul4, zi_mul5, zi_sub, nI_leI, nI_ltI, nI_eq, zl0, zl1, zl2, zl3, zl4, zl5, zl6, zl8, zl9, zl24, zl32, zl48, zl49, zl99, zl100, zl120, zl376, zl377, zl378, zl379, zl380, ↓zi_192, zi_dec, Nat.add_zero, Nat.zero_add, m_n, m_b1, m_b2, m_rd, m_wr, m_get, m_put, nI_clamp, st_at, st_ne, up_at, up_ne, if_pos, if_neg, hr1, h0]
  | x :: l, m, k, n + 1, hn, hk2, hz, hx, hi => by
    have h0 : r (120 + 8 * s + 2 + k) = nI x := hz.1
    have h1 := hi x (by simp)
    have h2 : ¬ x = c := fun z => hx (by simp [z])
    simp only [List.length_cons] at hk2 hn
    rw [f_X3_nodeWith_l53]
    simp (disch := omega) only [r_many, r_entryOf, ↓zlm1, ↓zlm2, zi_e1, zi_e2, zi_1e, zi_12, zi_21, zi_1n, zi_n1, if_true, if_false, eq_self, not_false_eq_true, not_true_eq_false, nI_add, zi_4m, zi_5m, zi_8m, zi_mul4, zi_mul5, zi_sub, nI_leI, nI_ltI, nI_eq, zl0, zl1, zl2, zl3, zl4, zl5, zl6, zl8, zl9, zl24, zl32, zl48, zl49, zl99, zl100, zl120, zl376, zl377, zl378, zl379, zl380, ↓zi_192, zi_dec, Nat.add_zero, Nat.zero_add, m_n, m_b1, m_b2, m_rd, m_wr, m_get, m_put, nI_clamp, st_at, st_ne, up_at, up_ne, if_pos, if_neg, hr1, h0]
    exact d_nw_hit s c M hs hc hM hr1 l m (k + 1) n (by omega) (by omega) (by rw [← Nat.add_assoc]; exact hz.2) (fun z => hx (List.mem_cons_of_mem _ z)) (fun y hy => hi y (List.mem_cons_of_mem _ hy))
theorem d_nw_skip {N : Nat} (hN : 100 < N) {r : Nat → Int32} {t : ZT} (ht : zb t) (hr : zref r t) {n s c : Nat} (hs : s < 32) (hc : c < 48) (hx : c ∉ zes t s) :
    f_X3_nodeWith_l2 N 380 r (n + 1) (nI c) (nI s) = f_X3_nodeWith_l2 N 380 r n (nI c) (nI (s + 1)) := by
  have hl5 := ht.2.2.2.1 s
  have hlv := ht.2.2.2.2 s
  have hr0 := hr.2.2.1 s hs
  have hz := hr.2.2.2.2.1 s hs
  have key : ∀ may, f_X3_nodeWith_l53 N 380 r (f_X3_nodeWith_l2 N 380 r n) N (nI c) (nI s) may (nI 0) = f_X3_nodeWith_l2 N 380 r n (nI c) (nI (s + 1)) := fun may => d_nw_l53 s c _ may hs hc (by omega) (hr.2.2.2.1 s hs) (zes t s) 0 N (by omega) (by omega) hz hx (fun x hxx => (ht.1 s x hxx).1)
  rw [f_X3_nodeWith_l2]
  unfold f_X3_nodeWith_j48 f_X3_nodeWith_j30 f_X3_nodeWith_j41 f_X3_nodeWith_j48 f_X3_nodeWith_j49
  by_cases h0 : zlv t s = 0
  · rw [h0] at hr0
    simp (disch := omega) only [r_at, ↓zlm1, ↓zlm2, zi_e1, zi_e2, zi_1e, zi_12, zi_21, zi_1n, zi_n1, if_true, if_false, eq_self, not_false_eq_true, not_true_eq_false, nI_add, zi_4m, zi_5m, zi_8m, zi_mul4, zi_mul5, zi_sub, nI_leI, nI_ltI, nI_eq, zl0, zl1, zl2, zl3, zl4, zl5, zl6, zl8, zl9, zl24, zl32, zl48, zl49, zl99, zl100, zl120, zl376, zl377, zl378, zl379, zl380, ↓zi_192, zi_dec, Nat.add_zero, Nat.zero_add, m_n, m_b1, m_b2, m_rd, m_wr, m_get, m_put, nI_clamp, st_at, st_ne, up_at, up_ne, if_pos, if_neg, hr0, key]
  · have hlo := r_levelOf (N := N) (r := r) (s := s) (v := zlv t s) hs hr0 (by omega)
    simp (disch := omega) only [r_at, ↓zlm1, ↓zlm2, zi_e1, zi_e2, zi_1e, zi_12, zi_21, zi_1n, zi_n1, if_true, if_false, eq_self, not_false_eq_true, not_true_eq_false, nI_add, zi_4m, zi_5m, zi_8m, zi_mul4, zi_mul5, zi_sub, nI_leI, nI_ltI, nI_eq, zl0, zl1, zl2, zl3, zl4, zl5, zl6, zl8, zl9, zl24, zl32, zl48, zl49, zl99, zl100, zl120, zl376, zl377, zl378, zl379, zl380, ↓zi_192, zi_dec, Nat.add_zero, Nat.zero_add, m_n, m_b1, m_b2, m_rd, m_wr, m_get, m_put, nI_clamp, st_at, st_ne, up_at, up_ne, if_pos, if_neg, hr0, key, hlo]
    split <;> split <;> rfl
theorem d_nw_none {N : Nat} (hN : 100 < N) {r : Nat → Int32} {t : ZT} (ht : zb t) (hr : zref r t) {c : Nat} (hc : c < 48) : ∀ (d n s : Nat), d < n → s + d = 32 → (∀ j, c ∉ zes t j) → f_X3_nodeWith_l2 N 380 r n (nI c) (nI s) = some zM1
  | 0, n + 1, s, _, hs, _ => by
    rw [f_X3_nodeWith_l2]
    simp (disch := omega) only [↓zlm1, ↓zlm2, zi_e1, zi_e2, zi_1e, zi_12, zi_21, zi_1n, zi_n1, if_true, if_false, eq_self, not_false_eq_true, not_true_eq_false, nI_add, zi_4m, zi_5m, zi_8m, zi_mul4, zi_mul5, zi_sub, nI_leI, nI_ltI, nI_eq, zl0, zl1, zl2, zl3, zl4, zl5, zl6, zl8, zl9, zl24, zl32, zl48, zl49, zl99, zl100, zl120, zl376, zl377, zl378, zl379, zl380, ↓zi_192, zi_dec, Nat.add_zero, Nat.zero_add, m_n, m_b1, m_b2, m_rd, m_wr, m_get, m_put, nI_clamp, st_at, st_ne, up_at, up_ne, if_pos, if_neg]
  | d + 1, n + 1, s, hn, hs, hx => by
    rw [d_nw_skip hN ht hr (by omega) hc (hx s)]
    exact d_nw_none hN ht hr hc d n (s + 1) (by omega) (by omega) hx
theorem d_nodeWith0 {N : Nat} (hN : 100 < N) {r : Nat → Int32} {t : ZT} (ht : zb t) (hr : zref r t) {c : Nat} (hc : c < 48) (hx : ∀ j, c ∉ zes t j) : f_X3_nodeWith N 380 (nI c) r = some zM1 := by
  unfold f_X3_nodeWith
  rw [zl0]
  exact d_nw_none hN ht hr hc 32 N 0 (by omega) (by omega) hx
theorem d_nw_some {N : Nat} (hN : 100 < N) {r : Nat → Int32} {t : ZT} (ht : zb t) (hr : zref r t) {c p : Nat} (hc : c < 48) (hp : p < 24) {l m : List Nat} (he : zes t p = l ++ c :: m) (hcl : c ∉ l) : ∀ (d n s : Nat), d < n → s + d = p → (∀ j, j ≠ p → c ∉ zes t j) → f_X3_nodeWith_l2 N 380 r n (nI c) (nI s) = some (nI p)
  | 0, n + 1, s, _, hs, _ => by
    have : s = p := by omega
    subst this
    have hl5 := ht.2.2.2.1 s
    have hlv := ht.2.2.2.2 s
    have hr0 := hr.2.2.1 s (by omega)
    have hr1 := hr.2.2.2.1 s (by omega)
    have hz := hr.2.2.2.2.1 s (by omega)
    have hcm := ht.1 s c (by rw [he]; simp)
    rw [he] at hz
    have hlen : (zes t s).length = l.length + (m.length + 1) := by rw [he]; simp
    have key := d_nw_hit (N := N) (K := f_X3_nodeWith_l2 N 380 r n) s c _ (by omega) hc (by omega) hr1 l m 0 N (by omega) (by omega) hz hcl (fun x hxx => (ht.1 s x (by rw [he]; simp [hxx])).1)
    have h0 : 0 < zlv t s := by omega
    have hlo := r_levelOf (N := N) (r := r) (s := s) (v := zlv t s) (by omega) hr0 h0
    rw [f_X3_nodeWith_l2]
    unfold f_X3_nodeWith_j30 f_X3_nodeWith_j41 f_X3_nodeWith_j49
    have h1 := hcm.2.1
    have h2 := hcm.2.2
    unfold zil at h1
    by_cases hc24 : c < 24
    · rw [if_pos hc24] at h1
      simp (disch := omega) only [r_at, ↓zlm1, ↓zlm2, zi_e1, zi_e2, zi_1e, zi_12, zi_21, zi_1n, zi_n1, if_true, if_false, eq_self, not_false_eq_true, not_true_eq_false, nI_add, zi_4m, zi_5m, zi_8m, zi_mul4, zi_mul5, zi_sub, nI_leI, nI_ltI, nI_eq, zl0, zl1, zl2, zl3, zl4, zl5, zl6, zl8, zl9, zl24, zl32, zl48, zl49, zl99, zl100, zl120, zl376, zl377, zl378, zl379, zl380, ↓zi_192, zi_dec, Nat.add_zero, Nat.zero_add, m_n, m_b1, m_b2, m_rd, m_wr, m_get, m_put, nI_clamp, st_at, st_ne, up_at, up_ne, if_pos, if_neg, hr0, key, hlo]
    · rw [if_neg hc24] at h1
      have h3 := h2 (by omega)
      simp (disch := omega) only [r_at, ↓zlm1, ↓zlm2, zi_e1, zi_e2, zi_1e, zi_12, zi_21, zi_1n, zi_n1, if_true, if_false, eq_self, not_false_eq_true, not_true_eq_false, nI_add, zi_4m, zi_5m, zi_8m, zi_mul4, zi_mul5, zi_sub, nI_leI, nI_ltI, nI_eq, zl0, zl1, zl2, zl3, zl4, zl5, zl6, zl8, zl9, zl24, zl32, zl48, zl49, zl99, zl100, zl120, zl376, zl377, zl378, zl379, zl380, ↓zi_192, zi_dec, Nat.add_zero, Nat.zero_add, m_n, m_b1, m_b2, m_rd, m_wr, m_get, m_put, nI_clamp, st_at, st_ne, up_at, up_ne, if_pos, if_neg, hr0, key, hlo]
  | d + 1, n + 1, s, hn, hs, hx => by
    rw [d_nw_skip hN ht hr (by omega) hc (hx s (by omega))]
    exact d_nw_some hN ht hr hc hp he hcl d n (s + 1) (by omega) (by omega) hx
theorem d_nodeWith1 {N : Nat} (hN : 100 < N) {r : Nat → Int32} {t : ZT} (ht : zb t) (hu : zuq t) (hr : zref r t) {c p : Nat} (hm : c ∈ zes t p) : f_X3_nodeWith N 380 (nI c) r = some (nI p) := by
  obtain ⟨l, m, he⟩ := List.append_of_mem hm
  have h1 := ht.1 p c hm
  have hp : p < 24 := zb_lt ht (by omega)
  unfold f_X3_nodeWith
  rw [zl0]
  exact d_nw_some hN ht hr h1.1 hp he (zuq_nd hu he).1 p N 0 (by omega) (by omega) (fun j hj hjm => hj (hu.2 j p c hjm hm))
