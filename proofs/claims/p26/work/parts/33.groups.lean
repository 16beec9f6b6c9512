/-! the groups of a split -/
def zgf (f : Nat → Int32) (a b x n1 n2 left : Nat) : Bool := if n1 + left ≤ 2 then true else if n2 + left ≤ 2 then false else
  if zja f a x - zar f a = zja f b x - zar f b then (if zar f a = zar f b then decide (n1 ≤ n2) else decide (zar f a < zar f b)) else decide (zja f a x - zar f a < zja f b x - zar f b)
theorem zi_dlt {a b : Int32} : (if b ≤ a then (false : Bool) else true) = decide (a < b) := by
  by_cases h : b ≤ a
  · rw [if_pos h, decide_eq_false (fun z => zi_nle.mpr z h)]
  · rw [if_neg h, decide_eq_true (zi_nle.mp h)]
theorem m_groupFor {N : Nat} {T : zx_S} {a b x n1 n2 left : Nat} (ha : a < 49) (hb : b < 49) (hx : x < 49) (h1 : T 3 a = nI n1) (h2 : T 3 b = nI n2) (hn1 : n1 < 10) (hn2 : n2 < 10) (hl : left < 10) :
    f_X1_groupFor N (nI x) (nI a) (nI b) (nI left) T = some (nI (if zgf (T 0) a b x n1 n2 left = true then a else b)) := by
  unfold f_X1_groupFor zgf
  simp (disch := omega) only [↓zlm1, ↓zlm2, zi_e1, zi_e2, zi_1e, zi_12, zi_21, zi_1n, zi_n1, if_true, if_false, eq_self, not_false_eq_true, not_true_eq_false, nI_add, zi_4m, zi_5m, zi_8m, zi_mul4, zi_mul5, zi_sub, nI_leI, nI_ltI, nI_eq, zl0, zl1, zl2, zl3, zl4, zl5, zl6, zl8, zl9, zl24, zl32, zl48, zl49, zl99, zl100, zl120, zl376, zl377, zl378, zl379, zl380, ↓zi_192, zi_dec, Nat.add_zero, Nat.zero_add, m_n, m_b1, m_b2, m_rd, m_wr, m_get, m_put, nI_clamp, st_at, st_ne, up_at, up_ne, if_pos, if_neg, h1, h2, m_area, m_joinArea]
  by_cases p1 : n1 + left ≤ 2
  · rw [if_neg (show ¬ 2 < n1 + left by omega), if_pos p1, if_pos rfl]
  · rw [if_pos (show 2 < n1 + left by omega), if_neg p1]
    by_cases p2 : n2 + left ≤ 2
    · rw [if_neg (show ¬ 2 < n2 + left by omega), if_pos p2, if_neg (by decide)]
    · rw [if_pos (show 2 < n2 + left by omega), if_neg p2]
      by_cases p3 : zja (T 0) a x - zar (T 0) a = zja (T 0) b x - zar (T 0) b
      · rw [if_pos p3, if_pos p3]
        by_cases p4 : zar (T 0) a = zar (T 0) b
        · rw [if_pos p4, if_pos p4]
          by_cases p5 : n1 ≤ n2
          · rw [if_neg (show ¬ n2 < n1 by omega), if_pos (decide_eq_true p5)]
          · rw [if_pos (show n2 < n1 by omega), if_neg (by rw [decide_eq_true_iff]; exact p5)]
        · rw [if_neg p4, if_neg p4]
          by_cases p5 : zar (T 0) b ≤ zar (T 0) a
          · rw [if_pos p5, if_neg (by rw [decide_eq_true_iff]; exact fun z => zi_nle.mpr z p5)]
          · rw [if_neg p5, if_pos (decide_eq_true (zi_nle.mp p5))]
      · rw [if_neg p3, if_neg p3]
        by_cases p5 : zja (T 0) b x - zar (T 0) b ≤ zja (T 0) a x - zar (T 0) a
        · rw [if_pos p5, if_neg (by rw [decide_eq_true_iff]; exact fun z => zi_nle.mpr z p5)]
        · rw [if_neg p5, if_pos (decide_eq_true (zi_nle.mp p5))]
theorem d_goesFirst {N w : Nat} {S : zx_S} {s q x n1 n2 left : Nat} (hs : s < 24) (hq : q < 24) (hx : x < 49) (h1 : S w (120 + 8 * s + 1) = nI n1) (h2 : S w (120 + 8 * q + 1) = nI n2) (hn1 : n1 < 10) (hn2 : n2 < 10) (hl : left < 10) (hm1 : 2 ≤ n1 + left) (hm2 : 2 ≤ n2 + left) :
    f_X3_goesFirst N w (nI s) (nI q) (nI x) (nI left) S = some (nI (if zgf (S 6) (24 + s) (24 + q) x n1 n2 left = true then 1 else 0)) := by
  unfold f_X3_goesFirst f_X3_goesFirst_j24 zgf
  simp (disch := omega) only [r_many, r_area, r_joinArea, ↓zlm1, ↓zlm2, zi_e1, zi_e2, zi_1e, zi_12, zi_21, zi_1n, zi_n1, if_true, if_false, eq_self, not_false_eq_true, not_true_eq_false, nI_add, zi_4m, zi_5m, zi_8m, zi_mul4, zi_mul5, zi_sub, nI_leI, nI_ltI, nI_eq, zl0, zl1, zl2, zl3, zl4, zl5, zl6, zl8, zl9, zl24, zl32, zl48, zl49, zl99, zl100, zl120, zl376, zl377, zl378, zl379, zl380, ↓zi_192, zi_dec, Nat.add_zero, Nat.zero_add, m_n, m_b1, m_b2, m_rd, m_wr, m_get, m_put, nI_clamp, st_at, st_ne, up_at, up_ne, if_pos, if_neg, h1, h2]
  by_cases p1 : n1 + left = 2
  · rw [if_pos p1, if_pos (show n1 + left ≤ 2 by omega), if_pos rfl]
  · rw [if_neg p1, if_neg (show ¬ n1 + left ≤ 2 by omega)]
    by_cases p2 : n2 + left = 2
    · rw [if_pos p2, if_pos (show n2 + left ≤ 2 by omega), if_neg (by decide)]
    · rw [if_neg p2, if_neg (show ¬ n2 + left ≤ 2 by omega)]
      by_cases p3 : zja (S 6) (24 + s) x - zar (S 6) (24 + s) = zja (S 6) (24 + q) x - zar (S 6) (24 + q)
      · rw [if_pos p3, if_pos p3]
        by_cases p4 : zar (S 6) (24 + s) = zar (S 6) (24 + q)
        · rw [if_pos p4, if_pos p4]
          by_cases p5 : n1 ≤ n2
          · rw [if_neg (show ¬ n2 < n1 by omega), if_pos (decide_eq_true p5)]
          · rw [if_pos (show n2 < n1 by omega), if_neg (by rw [decide_eq_true_iff]; exact p5)]
        · rw [if_neg p4, if_neg p4]
          by_cases p5 : zar (S 6) (24 + q) ≤ zar (S 6) (24 + s)
          · rw [if_pos p5, if_neg (by rw [decide_eq_true_iff]; exact fun z => zi_nle.mpr z p5)]
          · rw [if_neg p5, if_pos (decide_eq_true (zi_nle.mp p5))]
      · rw [if_neg p3, if_neg p3]
        by_cases p5 : zja (S 6) (24 + q) x - zar (S 6) (24 + q) ≤ zja (S 6) (24 + s) x - zar (S 6) (24 + s)
        · rw [if_pos p5, if_neg (by rw [decide_eq_true_iff]; exact fun z => zi_nle.mpr z p5)]
        · rw [if_neg p5, if_pos (decide_eq_true (zi_nle.mp p5))]
/-- trees that differ in their entries alone -/
def zsm (t t' : ZT) : Prop := zlv t' = zlv t ∧ zrt t' = zrt t ∧ zpr t' = zpr t ∧ zrc t' = zrc t
theorem zsm_refl {t : ZT} : zsm t t := ⟨rfl, rfl, rfl, rfl⟩
theorem zsm_E {t : ZT} {s : Nat} {l : List Nat} : zsm t (zE t s l) := ⟨rfl, rfl, rfl, rfl⟩
theorem zsm_trans {t u v : ZT} (h : zsm t u) (h2 : zsm u v) : zsm t v := ⟨h2.1.trans h.1, h2.2.1.trans h.2.1, h2.2.2.1.trans h.2.2.1, h2.2.2.2.trans h.2.2.2⟩
/-- a split under way: two groups s and q, and what is left -/
def zGI (w : Nat) (X : List Nat) (cr : Nat → Nat) (s q : Nat) (T S : zx_S) (t : ZT) (rest : List Nat) : Prop :=
  zcx T t X ∧ zref (S w) t ∧ (∀ j, (zes t j).length ≤ 5) ∧ (∀ k, k < 5 → T 7 k = nI (cr k) ∧ S 7 k = nI (cr k)) ∧ (zlv t s ≠ 0 ∧ zlv t q ≠ 0) ∧
  (zes t s ≠ [] ∧ zes t q ≠ []) ∧
  (∀ k, k < 4 → T 0 (4 * (24 + s) + k) = zjn (T 0) (zes t s) k ∧ S 6 (4 * (24 + s) + k) = T 0 (4 * (24 + s) + k) ∧ T 0 (4 * (24 + q) + k) = zjn (T 0) (zes t q) k ∧ S 6 (4 * (24 + q) + k) = T 0 (4 * (24 + q) + k)) ∧
  (∀ x, (x ∈ zes t s ∨ x ∈ zes t q ∨ x ∈ rest) → x < 48 ∧ x ≠ 24 + s ∧ x ≠ 24 + q ∧ zbd (T 0) x ∧ ∀ k, k < 4 → S 6 (4 * x + k) = T 0 (4 * x + k)) ∧
  rest.Nodup ∧ (∀ x, x ∈ rest → ∀ j, x ∉ zes t j) ∧
  ((zes t s).length + (zes t q).length + rest.length = 5 ∧ 2 ≤ (zes t s).length + rest.length ∧ 2 ≤ (zes t q).length + rest.length)
theorem zGI_swap {w : Nat} {X : List Nat} {cr : Nat → Nat} {s q : Nat} {T S : zx_S} {t : ZT} {rest : List Nat} (h : zGI w X cr s q T S t rest) : zGI w X cr q s T S t rest := by
  obtain ⟨a1, a2, a3, a4, a5, a6, a7, a8, a9, a10, a11⟩ := h
  refine ⟨a1, a2, a3, a4, a5.symm, a6.symm, fun k hk => ?_, fun x hx => ?_, a9, a10, by omega, by omega, by omega⟩
  · obtain ⟨b1, b2, b3, b4⟩ := a7 k hk
    exact ⟨b3, b4, b1, b2⟩
  · obtain ⟨b1, b2, b3, b4, b5⟩ := a8 x (by rcases hx with z | z | z <;> simp [z])
    exact ⟨b1, b3, b2, b4, b5⟩
theorem z_gput {N w : Nat} (hN : 100 < N) (hw : w ≠ 6) (hw7 : w ≠ 7) {X : List Nat} {cr : Nat → Nat} {s q x : Nat} {T S : zx_S} {t : ZT} {rest : List Nat} (hs : s < 24) (hq : q < 24) (hsq : s ≠ q) (h : zGI w X cr s q T S t (x :: rest)) (hsz : 2 ≤ (zes t q).length + rest.length) :
    ∃ T' S', f_X1_join N (nI (24 + s)) (nI x) T = some T' ∧ f_X3_take N w (nI s) (nI x) S = some S' ∧ zGI w X cr s q T' S' (zE t s (zes t s ++ [x])) rest ∧ zfr [0, 2, 3, 4] T T' ∧ zfr [w, 6] S S' ∧ (∀ j, 376 ≤ j → S' w j = S w j) ∧ (∀ j, (j < 4 * (24 + s) ∨ 4 * (24 + s) + 4 ≤ j) → T' 0 j = T 0 j ∧ S' 6 j = S 6 j) := by
  obtain ⟨a1, a2, a3, a4, a5, a6, a7, a8, a9, a10, a11⟩ := h
  have hx := a8 x (by simp)
  simp only [List.length_cons] at a11
  have hqp : 0 < (zes t q).length := List.length_pos_iff.mpr a6.2
  obtain ⟨T', e1, b1, b2, b3, b4⟩ := c_join (N := N) hN (c := x) a1 a3 (fun y hy => (a8 y (Or.inl hy)).1) hs a5.1 (by omega) hx.1 (a10 x (by simp)) (fun y hy => by
    rcases List.mem_append.mp hy with z | z
    · exact (a8 y (Or.inl z)).2.2.2.1
    · rw [List.mem_singleton.mp z]; exact hx.2.2.2.1)
  obtain ⟨S', e2, c1, c2, c3, c4, c5⟩ := d_take (N := N) hN hw (c := x) a2 a3 hs hx.1 hx.2.1 (fun _ k hk => by
    rw [(a7 k hk).2.1, (a7 k hk).1]
    exact zjn_congr (fun y hy => ((a8 y (Or.inl hy)).2.2.2.2 k hk).symm))
  have hnd := List.nodup_cons.mp a9
  have hmem : ∀ y, y ∈ zes t s ++ [x] → y < 48 ∧ y ≠ 24 + s ∧ y ≠ 24 + q ∧ zbd (T 0) y ∧ ∀ k, k < 4 → S 6 (4 * y + k) = T 0 (4 * y + k) := by
    intro y hy
    rcases List.mem_append.mp hy with z | z
    · exact a8 y (Or.inl z)
    · rw [List.mem_singleton.mp z]; exact hx
  have keepT : ∀ y, y ≠ 24 + s → ∀ k, k < 4 → T' 0 (4 * y + k) = T 0 (4 * y + k) := fun y hy k hk => b4 _ (by omega)
  have keepS : ∀ y, y ≠ 24 + s → ∀ k, k < 4 → S' 6 (4 * y + k) = S 6 (4 * y + k) := fun y hy k hk => c5 _ (by omega)
  refine ⟨T', S', e1, e2, ⟨b1, c1, ?_, ?_, ?_, ?_, ?_, ?_, hnd.2, ?_, ?_⟩, b2, c2, c3, fun j hj => ⟨b4 j hj, c5 j hj⟩⟩
  · intro j
    by_cases hj : j = s
    · rw [hj, zE_at]; simp; omega
    · rw [zE_ne hj]; exact a3 j
  · intro k hk
    rw [b2 7 (by decide), c2 7 (by simp; omega)]
    exact a4 k hk
  · exact a5
  · rw [zE_at, zE_ne (Ne.symm hsq)]
    exact ⟨by simp, a6.2⟩
  · intro k hk
    rw [zE_at, zE_ne (Ne.symm hsq)]
    obtain ⟨d1, d2, d3, d4⟩ := a7 k hk
    refine ⟨?_, ?_, ?_, ?_⟩
    · rw [b3 k hk]
      exact zjn_congr (fun y hy => (keepT y (hmem y hy).2.1 k hk).symm)
    · rw [b3 k hk, c4 k hk]
      exact zjn_congr (fun y hy => (hmem y hy).2.2.2.2 k hk)
    · rw [keepT _ (by omega) k hk, d3]
      exact zjn_congr (fun y hy => (keepT y (a8 y (Or.inr (Or.inl hy))).2.1 k hk).symm)
    · rw [keepT _ (by omega) k hk, keepS _ (by omega) k hk, d4]
  · intro y hy
    rw [zE_at, zE_ne (Ne.symm hsq)] at hy
    have hy2 : y < 48 ∧ y ≠ 24 + s ∧ y ≠ 24 + q ∧ zbd (T 0) y ∧ ∀ k, k < 4 → S 6 (4 * y + k) = T 0 (4 * y + k) := by
      rcases hy with z | z | z
      · exact hmem y z
      · exact a8 y (Or.inr (Or.inl z))
      · exact a8 y (Or.inr (Or.inr (List.mem_cons_of_mem _ z)))
    obtain ⟨d1, d2, d3, d4, d5⟩ := hy2
    refine ⟨d1, d2, d3, fun k hk => by rw [keepT y d2 k hk]; exact d4 k hk, fun k hk => by rw [keepT y d2 k hk, keepS y d2 k hk]; exact d5 k hk⟩
  · intro y hy j
    by_cases hj : j = s
    · rw [hj, zE_at]
      intro z
      rcases List.mem_append.mp z with z | z
      · exact a10 y (List.mem_cons_of_mem _ hy) s z
      · exact hnd.1 (by rw [← List.mem_singleton.mp z]; exact hy)
    · rw [zE_ne hj]; exact a10 y (List.mem_cons_of_mem _ hy) j
  · rw [zE_at, zE_ne (Ne.symm hsq)]
    simp only [List.length_append, List.length_cons, List.length_nil]
    omega
/-- the places of the crowd that are left, d before the end -/
def zrem (a b : Nat) : Nat → List Nat
  | 0 => []
  | d + 1 => if 4 - d = a ∨ 4 - d = b then zrem a b d else (4 - d) :: zrem a b d
theorem z_groups {N w : Nat} (hN : 100 < N) (hw : w ≠ 6) (hw7 : w ≠ 7) {X : List Nat} {cr : Nat → Nat} {s q a b : Nat} (hs : s < 24) (hq : q < 24) (hsq : s ≠ q) (ha : a < 5) (hb : b < 5) : ∀ (d k n n' : Nat) (T S : zx_S) (t : ZT), d < n → d < n' → k + d = 5 → zGI w X cr s q T S t ((zrem a b d).map cr) →
    ∃ m m' T' S' t', f_X1_split_l104 N n (nI (24 + s)) (nI a) (nI b) (nI (24 + q)) (nI (zrem a b d).length) (nI k) T = f_X1_split_l104 N (m + 1) (nI (24 + s)) (nI a) (nI b) (nI (24 + q)) (nI 0) (nI 5) T' ∧
      f_X3_split_l213 N w n' (nI s) (nI 5) (nI a) (nI b) (nI q) (nI (zrem a b d).length) (nI k) S = f_X3_split_l213 N w (m' + 1) (nI s) (nI 5) (nI a) (nI b) (nI q) (nI 0) (nI 5) S' ∧
      zGI w X cr s q T' S' t' [] ∧ zsm t t' ∧ (∀ j, j ≠ s → j ≠ q → zes t' j = zes t j) ∧ (zes t' s ++ zes t' q).Perm (zes t s ++ zes t q ++ (zrem a b d).map cr) ∧ zfr [0, 2, 3, 4] T T' ∧ zfr [w, 6] S S' ∧ (∀ j, 376 ≤ j → S' w j = S w j) ∧ (∀ j, (j < 4 * (24 + s) ∨ 4 * (24 + s) + 4 ≤ j) → (j < 4 * (24 + q) ∨ 4 * (24 + q) + 4 ≤ j) → T' 0 j = T 0 j ∧ S' 6 j = S 6 j)
  | 0, k, n + 1, n' + 1, T, S, t, _, _, hk, hG => by
    have : k = 5 := by omega
    subst this
    exact ⟨n, n', T, S, t, rfl, rfl, hG, zsm_refl, fun _ _ _ => rfl, by simp [zrem], zfr_refl, zfr_refl, fun _ _ => rfl, fun _ _ _ => ⟨rfl, rfl⟩⟩
  | d + 1, k, n + 1, n' + 1, T, S, t, hn, hn', hk, hG => by
    have hkd : k = 4 - d := by omega
    by_cases hab : k = a ∨ k = b
    · have hz : zrem a b (d + 1) = zrem a b d := by
        show (if 4 - d = a ∨ 4 - d = b then zrem a b d else (4 - d) :: zrem a b d) = _
        rw [if_pos (by rw [← hkd]; exact hab)]
      rw [hz] at hG ⊢
      obtain ⟨m, m', T', S', t', e1, e2, e3⟩ := z_groups hN hw hw7 hs hq hsq ha hb d (k + 1) n n' T S t (by omega) (by omega) (by omega) hG
      refine ⟨m, m', T', S', t', ?_, ?_, e3⟩
      · rw [← e1, f_X1_split_l104]
        unfold f_X1_split_j157
        by_cases hka : k = a
        · simp (disch := omega) only [↓zlm1, ↓zlm2, zi_e1, zi_e2, zi_1e, zi_12, zi_21, zi_1n, zi_n1, if_true, if_false, eq_self, not_false_eq_true, not_true_eq_false, nI_add, zi_4m, zi_5m, zi_8m, zi_mul4, zi_mul5, zi_sub, nI_leI, nI_ltI, nI_eq, zl0, zl1, zl2, zl3, zl4, zl5, zl6, zl8, zl9, zl24, zl32, zl48, zl49, zl99, zl100, zl120, zl376, zl377, zl378, zl379, zl380, ↓zi_192, zi_dec, Nat.add_zero, Nat.zero_add, m_n, m_b1, m_b2, m_rd, m_wr, m_get, m_put, nI_clamp, st_at, st_ne, up_at, up_ne, if_pos, if_neg]
        · have hkb : k = b := by omega
          simp (disch := omega) only [↓zlm1, ↓zlm2, zi_e1, zi_e2, zi_1e, zi_12, zi_21, zi_1n, zi_n1, if_true, if_false, eq_self, not_false_eq_true, not_true_eq_false, nI_add, zi_4m, zi_5m, zi_8m, zi_mul4, zi_mul5, zi_sub, nI_leI, nI_ltI, nI_eq, zl0, zl1, zl2, zl3, zl4, zl5, zl6, zl8, zl9, zl24, zl32, zl48, zl49, zl99, zl100, zl120, zl376, zl377, zl378, zl379, zl380, ↓zi_192, zi_dec, Nat.add_zero, Nat.zero_add, m_n, m_b1, m_b2, m_rd, m_wr, m_get, m_put, nI_clamp, st_at, st_ne, up_at, up_ne, if_pos, if_neg]
      · rw [← e2, f_X3_split_l213]
        unfold f_X3_split_j274
        by_cases hka : k = a
        · simp (disch := omega) only [↓zlm1, ↓zlm2, zi_e1, zi_e2, zi_1e, zi_12, zi_21, zi_1n, zi_n1, if_true, if_false, eq_self, not_false_eq_true, not_true_eq_false, nI_add, zi_4m, zi_5m, zi_8m, zi_mul4, zi_mul5, zi_sub, nI_leI, nI_ltI, nI_eq, zl0, zl1, zl2, zl3, zl4, zl5, zl6, zl8, zl9, zl24, zl32, zl48, zl49, zl99, zl100, zl120, zl376, zl377, zl378, zl379, zl380, ↓zi_192, zi_dec, Nat.add_zero, Nat.zero_add, m_n, m_b1, m_b2, m_rd, m_wr, m_get, m_put, nI_clamp, st_at, st_ne, up_at, up_ne, if_pos, if_neg]
        · have hkb : k = b := by omega
          simp (disch := omega) only [↓zlm1, ↓zlm2, zi_e1, zi_e2, zi_1e, zi_12, zi_21, zi_1n, zi_n1, if_true, if_false, eq_self, not_false_eq_true, not_true_eq_false, nI_add, zi_4m, zi_5m, zi_8m, zi_mul4, zi_mul5, zi_sub, nI_leI, nI_ltI, nI_eq, zl0, zl1, zl2, zl3, zl4, zl5, zl6, zl8, zl9, zl24, zl32, zl48, zl49, zl99, zl100, zl120, zl376, zl377, zl378, zl379, zl380, ↓zi_192, zi_dec, Nat.add_zero, Nat.zero_add, m_n, m_b1, m_b2, m_rd, m_wr, m_get, m_put, nI_clamp, st_at, st_ne, up_at, up_ne, if_pos, if_neg]
    · have hz : zrem a b (d + 1) = k :: zrem a b d := by
        show (if 4 - d = a ∨ 4 - d = b then zrem a b d else (4 - d) :: zrem a b d) = _
        rw [if_neg (by rw [← hkd]; exact hab), hkd]
      have hka : ¬ k = a := fun z => hab (Or.inl z)
      have hkb : ¬ k = b := fun z => hab (Or.inr z)
      rw [hz] at hG ⊢
      rw [List.map_cons] at hG
      obtain ⟨a1, a2, a3, a4, a5, a6, a7, a8, a9, a10, a11⟩ := id hG
      have hxx := a8 (cr k) (by simp)
      have h7 := a4 k (by omega)
      have hlr : (List.map cr (zrem a b d)).length = (zrem a b d).length := List.length_map ..
      simp only [List.length_cons, hlr] at a11
      have g1 := m_groupFor (N := N) (T := T) (a := 24 + s) (b := 24 + q) (x := cr k) (left := (zrem a b d).length + 1) (by omega) (by omega) (by omega) (a1.2.2.1 s hs a5.1) (a1.2.2.1 q hq a5.2) (by omega) (by omega) (by omega)
      have g2 := d_goesFirst (N := N) (w := w) (S := S) (s := s) (q := q) (x := cr k) (left := (zrem a b d).length + 1) hs hq (by omega) (a2.2.2.2.1 s (by omega)) (a2.2.2.2.1 q (by omega)) (by omega) (by omega) (by omega) (by omega) (by omega)
      have hgg : zgf (S 6) (24 + s) (24 + q) (cr k) (zes t s).length (zes t q).length ((zrem a b d).length + 1) = zgf (T 0) (24 + s) (24 + q) (cr k) (zes t s).length (zes t q).length ((zrem a b d).length + 1) := by
        have u1 := zja_cg (f := S 6) (g := T 0) (fun j hj => (a7 j hj).2.1) (fun j hj => hxx.2.2.2.2 j hj)
        have u2 := zja_cg (f := S 6) (g := T 0) (fun j hj => (a7 j hj).2.2.2) (fun j hj => hxx.2.2.2.2 j hj)
        have u3 := zar_cg (f := S 6) (g := T 0) (fun j hj => (a7 j hj).2.1)
        have u4 := zar_cg (f := S 6) (g := T 0) (fun j hj => (a7 j hj).2.2.2)
        unfold zgf
        rw [u1, u2, u3, u4]
      rw [hgg] at g2
      by_cases hg : zgf (T 0) (24 + s) (24 + q) (cr k) (zes t s).length (zes t q).length ((zrem a b d).length + 1) = true
      · rw [if_pos hg] at g1 g2
        have hsz : 2 ≤ (zes t q).length + (List.map cr (zrem a b d)).length := by
          rw [hlr]
          rcases Nat.lt_or_ge 2 ((zes t s).length + ((zrem a b d).length + 1)) with z | z
          · rcases Nat.lt_or_ge 2 ((zes t q).length + ((zrem a b d).length + 1)) with z2 | z2
            · omega
            · unfold zgf at hg
              rw [if_neg (by omega), if_pos z2] at hg
              cases hg
          · omega
        obtain ⟨T1, S1, e1, e2, hG1, f1, f2, f3, f4⟩ := z_gput (N := N) hN hw hw7 hs hq hsq hG hsz
        obtain ⟨m, m', T', S', t', r1, r2, r3, r4, r5, r6, r7, r8, r9, r10⟩ := z_groups hN hw hw7 hs hq hsq ha hb d (k + 1) n n' T1 S1 _ (by omega) (by omega) (by omega) hG1
        refine ⟨m, m', T', S', t', ?_, ?_, r3, zsm_trans zsm_E r4, ?_, ?_, zfr_trans f1 r7, zfr_trans f2 r8, fun j hj => (r9 j hj).trans (f3 j hj), fun j h1 h2 => ⟨(r10 j h1 h2).1.trans (f4 j h1).1, (r10 j h1 h2).2.trans (f4 j h1).2⟩⟩
        · rw [← r1, f_X1_split_l104]
          unfold f_X1_split_j157
          simp (disch := omega) only [↓zlm1, ↓zlm2, zi_e1, zi_e2, zi_1e, zi_12, zi_21, zi_1n, zi_n1, if_true, if_false, eq_self, not_false_eq_true, not_true_eq_false, nI_add, zi_4m, zi_5m, zi_8m, zi_mul4, zi_mul5, zi_sub, nI_leI, nI_ltI, nI_eq, zl0, zl1, zl2, zl3, zl4, zl5, zl6, zl8, zl9, zl24, zl32, zl48, zl49, zl99, zl100, zl120, zl376, zl377, zl378, zl379, zl380, ↓zi_192, zi_dec, Nat.add_zero, Nat.zero_add, m_n, m_b1, m_b2, m_rd, m_wr, m_get, m_put, nI_clamp, st_at, st_ne, up_at, up_ne, if_pos, if_neg, h7.1, g1, e1, List.length_cons, Nat.add_sub_cancel]
        · rw [← r2, f_X3_split_l213]
          unfold f_X3_split_j261 f_X3_split_j274
          simp (disch := omega) only [↓zlm1, ↓zlm2, zi_e1, zi_e2, zi_1e, zi_12, zi_21, zi_1n, zi_n1, if_true, if_false, eq_self, not_false_eq_true, not_true_eq_false, nI_add, zi_4m, zi_5m, zi_8m, zi_mul4, zi_mul5, zi_sub, nI_leI, nI_ltI, nI_eq, zl0, zl1, zl2, zl3, zl4, zl5, zl6, zl8, zl9, zl24, zl32, zl48, zl49, zl99, zl100, zl120, zl376, zl377, zl378, zl379, zl380, ↓zi_192, zi_dec, Nat.add_zero, Nat.zero_add, m_n, m_b1, m_b2, m_rd, m_wr, m_get, m_put, nI_clamp, st_at, st_ne, up_at, up_ne, if_pos, if_neg, h7.2, g2, e2, List.length_cons, Nat.add_sub_cancel]
        · intro j hj1 hj2
          rw [r5 j hj1 hj2, zE_ne hj1]
        · rw [zE_at, zE_ne (Ne.symm hsq)] at r6
          refine r6.trans ?_
          rw [List.map_cons, List.append_assoc, List.append_assoc, List.append_assoc]
          refine List.Perm.append_left _ ?_
          rw [List.singleton_append]
          exact List.perm_middle.symm
      · rw [if_neg hg] at g1 g2
        have hsz : 2 ≤ (zes t s).length + (List.map cr (zrem a b d)).length := by
          rw [hlr]
          rcases Nat.lt_or_ge 2 ((zes t s).length + ((zrem a b d).length + 1)) with z | z
          · omega
          · unfold zgf at hg
            rw [if_pos z] at hg
            exact absurd rfl hg
        obtain ⟨T1, S1, e1, e2, hG1, f1, f2, f3, f4⟩ := z_gput (N := N) hN hw hw7 hq hs (Ne.symm hsq) (zGI_swap hG) hsz
        obtain ⟨m, m', T', S', t', r1, r2, r3, r4, r5, r6, r7, r8, r9, r10⟩ := z_groups hN hw hw7 hs hq hsq ha hb d (k + 1) n n' T1 S1 _ (by omega) (by omega) (by omega) (zGI_swap hG1)
        refine ⟨m, m', T', S', t', ?_, ?_, r3, zsm_trans zsm_E r4, ?_, ?_, zfr_trans f1 r7, zfr_trans f2 r8, fun j hj => (r9 j hj).trans (f3 j hj), fun j h1 h2 => ⟨(r10 j h1 h2).1.trans (f4 j h2).1, (r10 j h1 h2).2.trans (f4 j h2).2⟩⟩
        · rw [← r1, f_X1_split_l104]
          unfold f_X1_split_j157
          simp (disch := omega) only [↓zlm1, ↓zlm2, zi_e1, zi_e2, zi_1e, zi_12, zi_21, zi_1n, zi_n1, if_true, if_false, eq_self, not_false_eq_true, not_true_eq_false, nI_add, zi_4m, zi_5m, zi_8m, zi_mul4, zi_mul5, zi_sub, nI_leI, nI_ltI, nI_eq, zl0, zl1, zl2, zl3, zl4, zl5, zl6, zl8, zl9, zl24, zl32, zl48, zl49, zl99, zl100, zl120, zl376, zl377, zl378, zl379, zl380, ↓zi_192, zi_dec, Nat.add_zero, Nat.zero_add, m_n, m_b1, m_b2, m_rd, m_wr, m_get, m_put, nI_clamp, st_at, st_ne, up_at, up_ne, if_pos, if_neg, h7.1, g1, e1, List.length_cons, Nat.add_sub_cancel]
        · rw [← r2, f_X3_split_l213]
          unfold f_X3_split_j261 f_X3_split_j274
          simp (disch := omega) only [↓zlm1, ↓zlm2, zi_e1, zi_e2, zi_1e, zi_12, zi_21, zi_1n, zi_n1, if_true, if_false, eq_self, not_false_eq_true, not_true_eq_false, nI_add, zi_4m, zi_5m, zi_8m, zi_mul4, zi_mul5, zi_sub, nI_leI, nI_ltI, nI_eq, zl0, zl1, zl2, zl3, zl4, zl5, zl6, zl8, zl9, zl24, zl32, zl48, zl49, zl99, zl100, zl120, zl376, zl377, zl378, zl379, zl380, ↓zi_192, zi_dec, Nat.add_zero, Nat.zero_add, m_n, m_b1, m_b2, m_rd, m_wr, m_get, m_put, nI_clamp, st_at, st_ne, up_at, up_ne, if_pos, if_neg, h7.2, g2, e2, List.length_cons, Nat.add_sub_cancel]
        · intro j hj1 hj2
          rw [r5 j hj1 hj2, zE_ne hj2]
        · rw [zE_at, zE_ne hsq] at r6
          refine r6.trans ?_
          rw [List.map_cons, List.append_assoc, List.append_assoc, List.append_assoc]
          refine List.Perm.append_left _ (List.Perm.append_left _ ?_)
          rw [List.singleton_append]
