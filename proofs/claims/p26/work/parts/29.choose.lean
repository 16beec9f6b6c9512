/-! numbers without overflow, and the choices -/
theorem zi_addT {a b : Int32} (h1 : -2147483648 ≤ a.toInt + b.toInt) (h2 : a.toInt + b.toInt < 2147483648) : (a + b).toInt = a.toInt + b.toInt := by
  rw [Int32.toInt_add, Int.bmod_def]
  split <;> omega
theorem zi_subT {a b : Int32} (h1 : -2147483648 ≤ a.toInt - b.toInt) (h2 : a.toInt - b.toInt < 2147483648) : (a - b).toInt = a.toInt - b.toInt := by
  rw [Int32.toInt_sub, Int.bmod_def]
  split <;> omega
theorem zi_mulT {a b : Int32} (h1 : -2147483648 ≤ a.toInt * b.toInt) (h2 : a.toInt * b.toInt < 2147483648) : (a * b).toInt = a.toInt * b.toInt := by
  rw [Int32.toInt_mul, Int.bmod_def]
  split <;> omega
theorem zi_mulB {a b : Int} {c : Int} (h1 : -c ≤ a) (h2 : a ≤ c) (h3 : -c ≤ b) (h4 : b ≤ c) : -(c * c) ≤ a * b ∧ a * b ≤ c * c := by
  have e1 := Int.mul_nonneg (a := c - a) (b := c + b) (by omega) (by omega)
  have e2 := Int.mul_nonneg (a := c + a) (b := c - b) (by omega) (by omega)
  have e3 := Int.mul_nonneg (a := c - a) (b := c - b) (by omega) (by omega)
  have e4 := Int.mul_nonneg (a := c + a) (b := c + b) (by omega) (by omega)
  simp only [Int.sub_mul, Int.add_mul, Int.mul_sub, Int.mul_add] at e1 e2 e3 e4
  have c1 : a * c = c * a := Int.mul_comm a c
  have c2 : b * c = c * b := Int.mul_comm b c
  rw [c1] at e1 e2 e3 e4
  constructor <;> omega
/-- a box within the field -/
def zbd (f : Nat → Int32) (c : Nat) : Prop := ∀ k, k < 4 → 0 ≤ (f (4 * c + k)).toInt ∧ (f (4 * c + k)).toInt ≤ 99
theorem zbd_mm {a b : Int32} (ha : 0 ≤ a.toInt ∧ a.toInt ≤ 99) (hb : 0 ≤ b.toInt ∧ b.toInt ≤ 99) : (0 ≤ (zmx a b).toInt ∧ (zmx a b).toInt ≤ 99) ∧ (0 ≤ (zmn a b).toInt ∧ (zmn a b).toInt ≤ 99) := by
  unfold zmx zmn
  constructor <;> split <;> assumption
theorem zbd_w {a b : Int32} (ha : 0 ≤ a.toInt ∧ a.toInt ≤ 99) (hb : 0 ≤ b.toInt ∧ b.toInt ≤ 99) : (a - b + 1).toInt = a.toInt - b.toInt + 1 := by
  have h1 : (a - b).toInt = a.toInt - b.toInt := zi_subT (by omega) (by omega)
  have h2 : (1 : Int32).toInt = 1 := by decide
  rw [zi_addT, h1, h2] <;> rw [h1, h2] <;> omega
theorem zbd_p {a b c d : Int32} (ha : 0 ≤ a.toInt ∧ a.toInt ≤ 99) (hb : 0 ≤ b.toInt ∧ b.toInt ≤ 99) (hc : 0 ≤ c.toInt ∧ c.toInt ≤ 99) (hd : 0 ≤ d.toInt ∧ d.toInt ≤ 99) : ((a - b + 1) * (c - d + 1)).toInt = (a.toInt - b.toInt + 1) * (c.toInt - d.toInt + 1) ∧ -10000 ≤ ((a - b + 1) * (c - d + 1)).toInt ∧ ((a - b + 1) * (c - d + 1)).toInt ≤ 10000 := by
  have h1 := zbd_w ha hb
  have h2 := zbd_w hc hd
  have h3 := zi_mulB (a := a.toInt - b.toInt + 1) (b := c.toInt - d.toInt + 1) (c := 100) (by omega) (by omega) (by omega) (by omega)
  have h4 : ((a - b + 1) * (c - d + 1)).toInt = (a.toInt - b.toInt + 1) * (c.toInt - d.toInt + 1) := by
    rw [zi_mulT, h1, h2] <;> rw [h1, h2] <;> omega
  rw [h4]
  exact ⟨rfl, by omega, by omega⟩
theorem zar_b {f : Nat → Int32} {c : Nat} (h : zbd f c) : -10000 ≤ (zar f c).toInt ∧ (zar f c).toInt ≤ 10000 := (zbd_p (h 2 (by decide)) (h 0 (by decide)) (h 3 (by decide)) (h 1 (by decide))).2
theorem zja_b {f : Nat → Int32} {c d : Nat} (h : zbd f c) (h2 : zbd f d) : -10000 ≤ (zja f c d).toInt ∧ (zja f c d).toInt ≤ 10000 :=
  (zbd_p (zbd_mm (h 2 (by decide)) (h2 2 (by decide))).1 (zbd_mm (h 0 (by decide)) (h2 0 (by decide))).2 (zbd_mm (h 3 (by decide)) (h2 3 (by decide))).1 (zbd_mm (h 1 (by decide)) (h2 1 (by decide))).2).2
/-- e is better than b for c -/
def zbr (f : Nat → Int32) (c e b : Nat) : Bool := decide (zja f e c - zar f e < zja f b c - zar f b ∨ (zja f e c - zar f e = zja f b c - zar f b ∧ zar f e < zar f b))
theorem zbr_t {f : Nat → Int32} {c e b : Nat} : zbr f c e b = true ↔ (zja f e c - zar f e < zja f b c - zar f b ∨ (zja f e c - zar f e = zja f b c - zar f b ∧ zar f e < zar f b)) := by
  unfold zbr
  exact decide_eq_true_iff
theorem zbr_c {f : Nat → Int32} {c e b : Nat} (hc : zbd f c) (he : zbd f e) (hb : zbd f b) :
    (zja f e c - zar f e - zja f b c + zar f b < 0 ↔ zja f e c - zar f e < zja f b c - zar f b) ∧ (zja f e c - zar f e - zja f b c + zar f b = 0 ↔ zja f e c - zar f e = zja f b c - zar f b) := by
  have a1 := zar_b he
  have a2 := zar_b hb
  have a3 := zja_b he hc
  have a4 := zja_b hb hc
  have e1 : (zja f e c - zar f e).toInt = (zja f e c).toInt - (zar f e).toInt := zi_subT (by omega) (by omega)
  have e2 : (zja f b c - zar f b).toInt = (zja f b c).toInt - (zar f b).toInt := zi_subT (by omega) (by omega)
  have e3 : (zja f e c - zar f e - zja f b c).toInt = (zja f e c).toInt - (zar f e).toInt - (zja f b c).toInt := by rw [zi_subT, e1] <;> rw [e1] <;> omega
  have e4 : (zja f e c - zar f e - zja f b c + zar f b).toInt = (zja f e c).toInt - (zar f e).toInt - (zja f b c).toInt + (zar f b).toInt := by rw [zi_addT, e3] <;> rw [e3] <;> omega
  have e0 : (0 : Int32).toInt = 0 := by decide
  constructor
  · rw [Int32.lt_iff_toInt_lt, Int32.lt_iff_toInt_lt, e4, e1, e2, e0]; omega
  · rw [← Int32.toInt_inj, ← Int32.toInt_inj, e4, e1, e2, e0]; omega
theorem zfd_mem {p : Nat → Nat → Bool} : ∀ {l : List Nat} {b : Nat}, zfd p b l ∈ b :: l
  | [], b => by simp [zfd]
  | c :: l, b => by
    simp only [zfd]
    have := zfd_mem (p := p) (l := l) (b := if p c b = true then c else b)
    split at this
    · rename_i h; rw [if_pos h]; simp only [List.mem_cons] at this ⊢; rcases this with z | z
      · exact Or.inr (Or.inl z)
      · exact Or.inr (Or.inr z)
    · rename_i h; rw [if_neg h]; simp only [List.mem_cons] at this ⊢; rcases this with z | z
      · exact Or.inl z
      · exact Or.inr (Or.inr z)
theorem zfd_congr {p q : Nat → Nat → Bool} : ∀ {l : List Nat} {b : Nat}, (∀ c d, c ∈ b :: l → d ∈ b :: l → p c d = q c d) → zfd p b l = zfd q b l
  | [], _, _ => rfl
  | c :: l, b, h => by
    simp only [zfd]
    rw [h c b (by simp) (by simp)]
    refine zfd_congr (fun x y hx hy => h x y ?_ ?_)
    · split at hx <;> simp only [List.mem_cons] at hx ⊢ <;> rcases hx with z | z <;> simp [z]
    · split at hy <;> simp only [List.mem_cons] at hy ⊢ <;> rcases hy with z | z <;> simp [z]
theorem zi_nle {a b : Int32} : ¬ a ≤ b ↔ b < a := by rw [Int32.lt_iff_toInt_lt, Int32.le_iff_toInt_le]; omega
theorem m_branch_l {N : Nat} {T : zx_S} (a c M : Nat) (ha : a < 49) (hc : c < 49) (hM : M ≤ 5) (hbc : zbd (T 0) c) : ∀ (l : List Nat) (b k n : Nat), l.length < n → k + l.length = M → zat (T 4) (5 * a + k) l → b < 49 → zbd (T 0) b → (∀ x, x ∈ l → x < 49 ∧ zbd (T 0) x) →
    f_X1_branch_l24 N T n (nI a) (nI c) (nI M) (nI b) (nI k) = some (nI (zfd (zbr (T 0) c) b l))
  | [], b, k, n + 1, _, hk, _, _, _, _ => by
    simp only [List.length_nil] at hk
    rw [f_X1_branch_l24]
    simp (disch := omega) only [↓zlm1, ↓zlm2, zi_e1, zi_e2, zi_1e, zi_12, zi_21, zi_1n, zi_n1, if_true, if_false, eq_self, not_false_eq_true, not_true_eq_false, nI_add, zi_4m, zi_5m, zi_8m, zi_mul4, zi_mul5, zi_sub, nI_leI, nI_ltI, nI_eq, zl0, zl1, zl2, zl3, zl4, zl5, zl6, zl8, zl9, zl24, zl32, zl48, zl49, zl99, zl100, zl120, zl376, zl377, zl378, zl379, zl380, ↓zi_192, zi_dec, Nat.add_zero, Nat.zero_add, m_n, m_b1, m_b2, m_rd, m_wr, m_get, m_put, nI_clamp, st_at, st_ne, up_at, up_ne, if_pos, if_neg, zfd]
  | x :: l, b, k, n + 1, hn, hk, hz, hb, hbb, hi => by
    have h0 : T 4 (5 * a + k) = nI x := hz.1
    obtain ⟨h1, h2⟩ := hi x (by simp)
    simp only [List.length_cons] at hk hn
    obtain ⟨q1, q2⟩ := zbr_c hbc h2 hbb
    have key : ∀ y, y < 49 → zbd (T 0) y → f_X1_branch_l24 N T n (nI a) (nI c) (nI M) (nI y) (nI (k + 1)) = some (nI (zfd (zbr (T 0) c) y l)) := fun y hy hy2 => m_branch_l a c M ha hc hM hbc l y (k + 1) n (by omega) (by omega) (by rw [← Nat.add_assoc]; exact hz.2) hy hy2 (fun z hz => hi z (List.mem_cons_of_mem _ hz))
    rw [zl0] at q1 q2
    rw [f_X1_branch_l24]
    unfold f_X1_branch_j101 f_X1_branch_j105
    simp (disch := omega) only [↓zlm1, ↓zlm2, zi_e1, zi_e2, zi_1e, zi_12, zi_21, zi_1n, zi_n1, if_true, if_false, eq_self, not_false_eq_true, not_true_eq_false, nI_add, zi_4m, zi_5m, zi_8m, zi_mul4, zi_mul5, zi_sub, nI_leI, nI_ltI, nI_eq, zl0, zl1, zl2, zl3, zl4, zl5, zl6, zl8, zl9, zl24, zl32, zl48, zl49, zl99, zl100, zl120, zl376, zl377, zl378, zl379, zl380, ↓zi_192, zi_dec, Nat.add_zero, Nat.zero_add, m_n, m_b1, m_b2, m_rd, m_wr, m_get, m_put, nI_clamp, st_at, st_ne, up_at, up_ne, if_pos, if_neg, h0, m_area, m_joinArea, zfd]
    by_cases p1 : zja (T 0) x c - zar (T 0) x - zja (T 0) b c + zar (T 0) b < nI 0
    · rw [if_pos p1, key x h1 h2, if_pos (zbr_t.mpr (Or.inl (q1.mp p1)))]
    · rw [if_neg p1]
      by_cases p2 : zja (T 0) x c - zar (T 0) x - zja (T 0) b c + zar (T 0) b = nI 0
      · rw [if_pos p2]
        by_cases p3 : zar (T 0) b ≤ zar (T 0) x
        · rw [if_pos p3, key b hb hbb, if_neg]
          unfold zbr
          rw [decide_eq_true_iff]
          rintro (z | z)
          · exact p1 (q1.mpr z)
          · exact zi_nle.mpr z.2 p3
        · rw [if_neg p3, key x h1 h2, if_pos (zbr_t.mpr (Or.inr ⟨q2.mp p2, zi_nle.mp p3⟩))]
      · rw [if_neg p2, key b hb hbb, if_neg]
        unfold zbr
        rw [decide_eq_true_iff]
        rintro (z | z)
        · exact p1 (q1.mpr z)
        · exact p2 (q2.mpr z.1)
theorem m_branch {N : Nat} (hN : 100 < N) {T : zx_S} {a c b : Nat} {l : List Nat} (ha : a < 49) (hc : c < 49) (hs : T 3 a = nI (b :: l).length) (hl : (b :: l).length ≤ 5) (hz : zat (T 4) (5 * a) (b :: l)) (hbc : zbd (T 0) c) (hi : ∀ x, x ∈ b :: l → x < 49 ∧ zbd (T 0) x) :
    f_X1_branch N (nI a) (nI c) T = some (nI (zfd (zbr (T 0) c) b l)) := by
  have h0 : T 4 (5 * a) = nI b := hz.1
  simp only [List.length_cons] at hs hl
  have key := m_branch_l (N := N) (T := T) a c (l.length + 1) ha hc hl hbc l b 1 N (by omega) (by omega) hz.2 (hi b (by simp)).1 (hi b (by simp)).2 (fun x hx => hi x (List.mem_cons_of_mem _ hx))
  unfold f_X1_branch
  simp (disch := omega) only [↓zlm1, ↓zlm2, zi_e1, zi_e2, zi_1e, zi_12, zi_21, zi_1n, zi_n1, if_true, if_false, eq_self, not_false_eq_true, not_true_eq_false, nI_add, zi_4m, zi_5m, zi_8m, zi_mul4, zi_mul5, zi_sub, nI_leI, nI_ltI, nI_eq, zl0, zl1, zl2, zl3, zl4, zl5, zl6, zl8, zl9, zl24, zl32, zl48, zl49, zl99, zl100, zl120, zl376, zl377, zl378, zl379, zl380, ↓zi_192, zi_dec, Nat.add_zero, Nat.zero_add, m_n, m_b1, m_b2, m_rd, m_wr, m_get, m_put, nI_clamp, st_at, st_ne, up_at, up_ne, if_pos, if_neg, hs, h0, key]
theorem d_reach_l {N w : Nat} {S : zx_S} {r : Nat → Int32} {K : Int32 → Int32 → Int32 → Option Int32} (s c M : Nat) (v3 : Int32) (hs : s < 32) (hc : c < 56) (hM : M < 6) (hr : S w = r) (hr1 : r (120 + 8 * s + 1) = nI M) : ∀ (l : List Nat) (b k n : Nat), l.length < n → k + l.length = M → zat r (120 + 8 * s + 2 + k) l → 24 ≤ b → b < 56 → (∀ x, x ∈ l → 24 ≤ x ∧ x < 56) →
    f_X3_reach_l23 N w S K n (nI c) v3 (nI s) (nI b) (nI k) = K (nI c) v3 (nI (zfd (zbr (S 6) c) b l - 24))
  | [], b, k, n + 1, _, hk, _, hb0, hb, _ => by
    simp only [List.length_nil] at hk
    rw [f_X3_reach_l23]
    simp (disch := omega) only [r_many, ↓zlm1, ↓zlm2, zi_e1, zi_e2, zi_1e, zi_12, zi_21, zi_1n, zi_n1, if_true, if_false, eq_self, not_false_eq_true, not_true_eq_false, nI_add, zi_4m, zi_5m, zi_8m, zi_mul4, zi_mul5, zi_sub, nI_leI, nI_ltI, nI_eq, zl0, zl1, zl2, zl3, zl4, zl5, zl6, zl8, zl9, zl24, zl32, zl48, zl49, zl99, zl100, zl120, zl376, zl377, zl378, zl379, zl380, ↓zi_192, zi_dec, Nat.add_zero, Nat.zero_add, m_n, m_b1, m_b2, m_rd, m_wr, m_get, m_put, nI_clamp, st_at, st_ne, up_at, up_ne, if_pos, if_neg, hr, hr1, zfd]
  | x :: l, b, k, n + 1, hn, hk, hz, hb0, hb, hi => by
    have h0 : r (120 + 8 * s + 2 + k) = nI x := hz.1
    obtain ⟨h1, h2⟩ := hi x (by simp)
    simp only [List.length_cons] at hk hn
    have key : ∀ y, 24 ≤ y → y < 56 → f_X3_reach_l23 N w S K n (nI c) v3 (nI s) (nI y) (nI (k + 1)) = K (nI c) v3 (nI (zfd (zbr (S 6) c) y l - 24)) := fun y hy hy2 => d_reach_l s c M v3 hs hc hM hr hr1 l y (k + 1) n (by omega) (by omega) (by rw [← Nat.add_assoc]; exact hz.2) hy hy2 (fun z hz => hi z (List.mem_cons_of_mem _ hz))
    rw [f_X3_reach_l23]
    unfold f_X3_reach_j55 f_X3_reach_j123 f_X3_reach_j127 f_X3_reach_j128 f_X3_reach_j130 f_X3_reach_j142
    simp (disch := omega) only [r_many, r_entryOf, ↓zlm1, ↓zlm2, zi_e1, zi_e2, zi_1e, zi_12, zi_21, zi_1n, zi_n1, if_true, if_false, eq_self, not_false_eq_true, not_true_eq_false, nI_add, zi_4m, zi_5m, zi_8m, zi_mul4, zi_mul5, zi_sub, nI_leI, nI_ltI, nI_eq, zl0, zl1, zl2, zl3, zl4, zl5, zl6, zl8, zl9, zl24, zl32, zl48, zl49, zl99, zl100, zl120, zl376, zl377, zl378, zl379, zl380, ↓zi_192, zi_dec, Nat.add_zero, Nat.zero_add, m_n, m_b1, m_b2, m_rd, m_wr, m_get, m_put, nI_clamp, st_at, st_ne, up_at, up_ne, if_pos, if_neg, hr, hr1, h0, r_area, r_joinArea, zfd]
    by_cases p1 : zja (S 6) x c - zar (S 6) x < zja (S 6) b c - zar (S 6) b
    · rw [if_pos p1, key x h1 h2, if_pos (zbr_t.mpr (Or.inl p1))]
    · rw [if_neg p1]
      by_cases p2 : zja (S 6) x c - zar (S 6) x = zja (S 6) b c - zar (S 6) b
      · rw [if_pos p2]
        by_cases p3 : zar (S 6) b ≤ zar (S 6) x
        · rw [if_pos p3, key b hb0 hb, if_neg]
          unfold zbr
          rw [decide_eq_true_iff]
          rintro (z | z)
          · exact p1 z
          · exact zi_nle.mpr z.2 p3
        · rw [if_neg p3, key x h1 h2, if_pos (zbr_t.mpr (Or.inr ⟨p2, zi_nle.mp p3⟩))]
      · rw [if_neg p2, key b hb0 hb, if_neg]
        unfold zbr
        rw [decide_eq_true_iff]
        rintro (z | z)
        · exact p1 z
        · exact p2 z.1
theorem d_reach1 {N w : Nat} (hN : 100 < N) {S : zx_S} {K : Int32 → Int32 → Int32 → Option Int32} {s c b : Nat} {v3 : Int32} {l : List Nat} (hs : s < 32) (hc : c < 56) (hr1 : S w (120 + 8 * s + 1) = nI (b :: l).length) (hl : (b :: l).length ≤ 5) (hz : zat (S w) (120 + 8 * s + 2) (b :: l)) (hi : ∀ x, x ∈ b :: l → 24 ≤ x ∧ x < 56) :
    f_X3_reach_l23 N w S K N (nI c) v3 (nI s) zM1 (nI 0) = K (nI c) v3 (nI (zfd (zbr (S 6) c) b l - 24)) := by
  have h0 : S w (120 + 8 * s + 2) = nI b := hz.1
  simp only [List.length_cons] at hr1 hl
  obtain ⟨n, hn⟩ : ∃ n, N = n + 1 := ⟨N - 1, by omega⟩
  have key := d_reach_l (N := N) (w := w) (S := S) (K := K) s c (l.length + 1) v3 hs hc (by omega) rfl hr1 l b 1 n (by omega) (by omega) hz.2 (hi b (by simp)).1 (hi b (by simp)).2 (fun x hx => hi x (List.mem_cons_of_mem _ hx))
  rw [← key, hn, f_X3_reach_l23, ← hn]
  unfold f_X3_reach_j55 f_X3_reach_j130 f_X3_reach_j142
  simp (disch := omega) only [r_many, r_entryOf, ↓zlm1, ↓zlm2, zi_e1, zi_e2, zi_1e, zi_12, zi_21, zi_1n, zi_n1, if_true, if_false, eq_self, not_false_eq_true, not_true_eq_false, nI_add, zi_4m, zi_5m, zi_8m, zi_mul4, zi_mul5, zi_sub, nI_leI, nI_ltI, nI_eq, zl0, zl1, zl2, zl3, zl4, zl5, zl6, zl8, zl9, zl24, zl32, zl48, zl49, zl99, zl100, zl120, zl376, zl377, zl378, zl379, zl380, ↓zi_192, zi_dec, Nat.add_zero, Nat.zero_add, m_n, m_b1, m_b2, m_rd, m_wr, m_get, m_put, nI_clamp, st_at, st_ne, up_at, up_ne, if_pos, if_neg, hr1, h0]
