/-! a full node is split, up to the node above -/
theorem z_j209 {N : Nat} (hN : 100 < N) {T : zx_S} {t : ZT} {s q up : Nat} {l m : List Nat} (hT : zcx T t []) (hu : zuq t) (h5 : ∀ j, (zes t j).length ≤ 5) (h48 : ∀ j x, x ∈ zes t j → x < 48) (hup : up < 24) (hv : zlv t up ≠ 0) (he : zes t up = l ++ (24 + s) :: m) (hlen : (zes t up).length < 5) (hs : s < 24) (hq : q < 24) (hx : ∀ j, 24 + q ∉ zes t j) :
    ∃ T', f_X1_split_j209 N (nI (24 + s)) (nI (24 + q)) T = some (nI (24 + up), T') ∧ zcx T' (zE t up (l ++ (24 + s) :: (24 + q) :: m)) [] ∧ zfr [2, 3, 4] T T' := by
  have hsm : 24 + s ∈ zes t up := by rw [he]; simp
  have h2 := hT.2.2.2.2.1 up _ hup hsm
  have hl := hT.2.2.1 up hup hv
  have hz := hT.2.2.2.1 up hup
  have hl5 := h5 up
  rw [he] at hz hl hl5 hlen
  have hp := m_place (N := N) hN (T := T) (a := 24 + up) (c := 24 + s) (l := l) (m := m) (by omega) (by omega) hz hl hl5 (zuq_nd hu he).1 (fun x hx => by have := h48 up x (by rw [he]; simp [hx]); omega)
  have he2 : zes t up = (l ++ [24 + s]) ++ m := by rw [he]; simp
  obtain ⟨T', e, g1, g2⟩ := c_attach (N := N) hN (c := 24 + q) hT h5 hup hv he2 (by rw [← he2, he]; exact hlen) (by omega) hx
  refine ⟨T', ?_, ?_, g2⟩
  · rw [show (l ++ [24 + s]).length = l.length + 1 by simp] at e
    unfold f_X1_split_j209
    simp (disch := omega) only [↓zlm1, ↓zlm2, zi_e1, zi_e2, zi_1e, zi_12, zi_21, zi_1n, zi_n1, if_true, if_false, eq_self, not_false_eq_true, not_true_eq_false, nI_add, zi_4m, zi_5m, zi_8m, zi_mul4, zi_mul5, zi_sub, nI_leI, nI_ltI, nI_eq, zl0, zl1, zl2, zl3, zl4, zl5, zl6, zl8, zl9, zl24, zl32, zl48, zl49, zl99, zl100, zl120, zl376, zl377, zl378, zl379, zl380, ↓zi_192, zi_dec, Nat.add_zero, Nat.zero_add, m_n, m_b1, m_b2, m_rd, m_wr, m_get, m_put, nI_clamp, st_at, st_ne, up_at, up_ne, if_pos, if_neg, h2, hp, e]
  · rw [List.append_assoc, List.singleton_append] at g1
    exact g1
theorem d_l114 {N w : Nat} (hN : 100 < N) {S : zx_S} {K : Int32 → zx_S → Option zx_S} {t : ZT} {s q up : Nat} {l0 m : List Nat} (hr : zref (S w) t) (h5 : ∀ j, (zes t j).length ≤ 5) (h48 : ∀ j x, x ∈ zes t j → x < 48) (hup : up < 24) (he : zes t up = l0 ++ (24 + s) :: m) (hlen : (zes t up).length < 5) (hs : s < 24) (hq : q < 24) (hns : 24 + s ∉ l0) : ∀ (l : List Nat) (k n : Nat), l.length < n → k + l.length = l0.length → zat (S w) (120 + 8 * up + 2 + k) (l ++ (24 + s) :: m) → 24 + s ∉ l → (∀ x, x ∈ l → x < 48) →
    ∃ r', f_X3_treat_l114 N w K n (nI s) (nI up) (nI q) (nI k) S = K (nI up) (zx_st S w r') ∧ zref r' (zE t up (l0 ++ (24 + s) :: (24 + q) :: m)) ∧ (∀ j, 376 ≤ j → r' j = S w j)
  | [], k, n + 1, _, hk, hz, _, _ => by
    have h0 : S w (120 + 8 * up + 2 + k) = nI (24 + s) := hz.1
    simp only [List.length_nil] at hk
    have hl : l0.length < 5 := by rw [he] at hlen; simp at hlen; omega
    have he2 : zes t up = (l0 ++ [24 + s]) ++ m := by rw [he]; simp
    obtain ⟨r', e, g1, g2⟩ := d_insert (N := N) hN (c := 24 + q) hr h5 (by omega) he2 (by rw [← he2]; omega)
    rw [List.append_assoc, List.singleton_append] at g1
    rw [show (l0 ++ [24 + s]).length = l0.length + 1 by simp] at e
    refine ⟨r', ?_, g1, g2⟩
    have hkl : k = l0.length := by omega
    rw [f_X3_treat_l114]
    rw [hkl] at h0 ⊢
    simp (disch := omega) only [r_entryOf, ↓zlm1, ↓zlm2, zi_e1, zi_e2, zi_1e, zi_12, zi_21, zi_1n, zi_n1, if_true, if_false, eq_self, not_false_eq_true, not_true_eq_false, nI_add, zi_4m, zi_5m, zi_8m, zi_mul4, zi_mul5, zi_sub, nI_leI, nI_ltI, nI_eq, zl0, zl1, zl2, zl3, zl4, zl5, zl6, zl8, zl9, zl24, zl32, zl48, zl49, zl99, zl100, zl120, zl376, zl377, zl378, zl379, zl380, ↓zi_192, zi_dec, Nat.add_zero, Nat.zero_add, m_n, m_b1, m_b2, m_rd, m_wr, m_get, m_put, nI_clamp, st_at, st_ne, up_at, up_ne, if_pos, if_neg, h0, e]
  | x :: l, k, n + 1, hn, hk, hz, hx, hi => by
    have h0 : S w (120 + 8 * up + 2 + k) = nI x := hz.1
    have h1 := hi x (by simp)
    have h2 : ¬ x = 24 + s := fun z => hx (by simp [z])
    simp only [List.length_cons] at hk hn
    have hl : l0.length < 5 := by rw [he] at hlen; simp at hlen; omega
    obtain ⟨r', e, g⟩ := d_l114 (N := N) hN (K := K) hr h5 h48 hup he hlen hs hq hns l (k + 1) n (by omega) (by omega) (by rw [← Nat.add_assoc]; exact hz.2) (fun z => hx (List.mem_cons_of_mem _ z)) (fun y hy => hi y (List.mem_cons_of_mem _ hy))
    refine ⟨r', ?_, g⟩
    rw [f_X3_treat_l114]
    simp (disch := omega) only [r_entryOf, ↓zlm1, ↓zlm2, zi_e1, zi_e2, zi_1e, zi_12, zi_21, zi_1n, zi_n1, if_true, if_false, eq_self, not_false_eq_true, not_true_eq_false, nI_add, zi_4m, zi_5m, zi_8m, zi_mul4, zi_mul5, zi_sub, nI_leI, nI_ltI, nI_eq, zl0, zl1, zl2, zl3, zl4, zl5, zl6, zl8, zl9, zl24, zl32, zl48, zl49, zl99, zl100, zl120, zl376, zl377, zl378, zl379, zl380, ↓zi_192, zi_dec, Nat.add_zero, Nat.zero_add, m_n, m_b1, m_b2, m_rd, m_wr, m_get, m_put, nI_clamp, st_at, st_ne, up_at, up_ne, if_pos, if_neg, h0, e]
theorem zwf_un24 {t : ZT} {lo : List Nat} {ov : Nat} (h : zwf t lo ov 99) : zlv t 99 ≠ 0 → zes t 99 ≠ [] := fun z => absurd (h.2.2.2.2.2.1 99 (by decide)) z
theorem zLC_spl {f g : Nat → Int32} {t t1 : ZT} {s q : Nat} (ht : zb t) (h : zspl t t1 s q) (hq0 : zlv t q = 0) (hLC : ∀ j, zlv t j ≠ 0 → zLC f t j) (hb : ∀ k, k < 4 → g (4 * (24 + s) + k) = zjn g (zes t1 s) k ∧ g (4 * (24 + q) + k) = zjn g (zes t1 q) k) (ho : ∀ j, (j < 4 * (24 + s) ∨ 4 * (24 + s) + 4 ≤ j) → (j < 4 * (24 + q) ∨ 4 * (24 + q) + 4 ≤ j) → g j = f j) : ∀ j, zlv t1 j ≠ 0 → 24 + s ∉ zes t j → zLC g t1 j := by
  intro j hj hnp
  by_cases h1 : j = s
  · intro _ k hk
    rw [h1]; exact (hb k hk).1
  · by_cases h2 : j = q
    · intro _ k hk
      rw [h2]; exact (hb k hk).2
    · refine zLC_ext (hLC j (by rw [← (zspl_lv h).1 j h2]; exact hj)) (h.2.2.1 j h1 h2) (fun k hk => ho _ (by omega) (by omega)) (fun x hx k hk => ?_)
      have e1 : x ≠ 24 + s := fun z => hnp (z ▸ hx)
      have e2 : x ≠ 24 + q := fun z => by
        have := (ht.1 j x hx).2.2 (by omega)
        rw [z, Nat.add_sub_cancel_left] at this
        exact this hq0
      exact ho _ (by omega) (by omega)
/-- what putting in keeps -/
def zkp (t t' : ZT) : Prop := zpr t' = zpr t ∧ zrc t' = zrc t ∧ ∀ j, zlv t j ≠ 0 → zlv t' j = zlv t j
theorem zkp_refl {t : ZT} : zkp t t := ⟨rfl, rfl, fun _ _ => rfl⟩
theorem zkp_trans {t u v : ZT} (h : zkp t u) (h2 : zkp u v) : zkp t v := ⟨h2.1.trans h.1, h2.2.1.trans h.2.1, fun j hj => by
  have h1 := h.2.2 j hj
  rw [h2.2.2 j (by rw [h1]; exact hj), h1]⟩
theorem z_splitStep {N w : Nat} (hN : 100 < N) (hw : w ≠ 6) (hw7 : w ≠ 7) (hw12 : w ≠ 12) {T S : zx_S} {K : Int32 → zx_S → Option zx_S} {t : ZT} {lo : List Nat} {s : Nat} (hT : zcx T t []) (hr : zref (S w) t) (hwf : zwf t lo s 99) (hs5 : (zes t s).length = 5) (hrb : zrb (T 0) t) (hLC : ∀ j, zlv t j ≠ 0 → zLC (T 0) t j) (hA : ∀ x, x ∈ zes t s → zbd (T 0) x ∧ ∀ k, k < 4 → S 6 (4 * x + k) = T 0 (4 * x + k)) (hch : ∃ k, zhn t k s) :
    ∃ up T' S' t', (∃ k, zhn t' k up) ∧ f_X1_split N (nI (24 + s)) T = some (nI (24 + up), T') ∧ f_X3_treat_j56 N w K (nI s) S = K (nI up) S' ∧
      zcx T' t' [] ∧ zref (S' w) t' ∧ zwf t' lo up 99 ∧ zlv t' up = zlv t s + 1 ∧ zkp t t' ∧ zrb (T' 0) t' ∧ (∀ j, zlv t' j ≠ 0 → j ≠ up → zLC (T' 0) t' j) ∧
      (zfr [0, 1, 2, 3, 4, 7, 10] T T' ∧ T' 10 1 = T 10 1 ∧ T' 10 2 = T 10 2 + 1 ∧ T' 10 3 = T 10 3) ∧ zfr [w, 6, 7] S S' ∧ (∀ j, 376 < j → S' w j = if j = 378 then S w 378 + 1 else S w j) := by
  have hR := zwf_lv hwf (by decide)
  have ht := zwf_zb hwf (by omega)
  have hu := hwf.1
  have hg := zwf_zg hwf (zwf_un24 hwf)
  have hs0 : zlv t s ≠ 0 := fun z => by have := ht.2.1 s z; rw [this] at hs5; cases hs5
  have hs := zb_lt ht hs0
  obtain ⟨q, hq, hp⟩ := zfree_two (zwf_count hwf hs5)
  have hsq : s ≠ q := fun z => hs0 (by rw [z]; exact hq.2.1)
  obtain ⟨m, a, b, T1, S1, t1, e1, e2, hT1, hr1, hlv1, hes1, hpm, hz1, hz2, fT, fS, kS, hb1, o1⟩ := z_core (N := N) hN hw hw7 hT hr ht hu hs hs5 hA hq
  have hspl : zspl t t1 s q := ⟨hlv1.1, hlv1.2, hes1, hpm, hz1, hz2⟩
  have hu1 := zspl_uq hspl hsq hu
  have h4 := zspl_4 hspl hwf
  have h51 : ∀ j, (zes t1 j).length ≤ 5 := fun j => by have := h4 j; omega
  obtain ⟨v1, v2⟩ := zspl_lv hspl
  have hmm := zspl_mem hspl (ht.2.1 q hq.2.1)
  have h481 : ∀ j x, x ∈ zes t1 j → x < 48 := fun j x hx => by
    obtain ⟨j', hj'⟩ := (hmm x).mp ⟨j, hx⟩
    exact (ht.1 j' x hj').1
  have hqi : ∀ j, 24 + q ∉ zes t j := fun j z => by
    have := (ht.1 j _ z).2.2 (by omega)
    rw [Nat.add_sub_cancel_left] at this
    exact this hq.2.1
  have hqi1 : ∀ j, 24 + q ∉ zes t1 j := fun j z => by
    obtain ⟨j', hj'⟩ := (hmm _).mp ⟨j, z⟩
    exact hqi j' hj'
  have hLC1 := zLC_spl ht hspl hq.2.1 hLC hb1 o1
  have hrb1 : zrb (T1 0) t1 := fun i k hi hk hpi => by
    rw [hlv1.2.2.1] at hpi
    rw [hlv1.2.2.2, o1 _ (by omega) (by omega)]
    exact hrb i k hi hk hpi
  obtain ⟨T2, eT2⟩ : ∃ T2, T2 = zx_st T1 10 (upd (T1 10) 2 (T1 10 2 + nI 1)) := ⟨_, rfl⟩
  have hT2 : zcx T2 t1 [] := by
    refine zcx_keep hT1 ?_ ?_ ?_ ?_ ?_
    all_goals rw [eT2]; simp (disch := omega) only [m_n, m_b1, m_b2, m_rd, m_wr, m_get, m_put, nI_clamp, st_at, st_ne, up_at, up_ne, if_pos, if_neg]
  have hT20 : T2 0 = T1 0 := by rw [eT2]; simp (disch := omega) only [m_n, m_b1, m_b2, m_rd, m_wr, m_get, m_put, nI_clamp, st_at, st_ne, up_at, up_ne, if_pos, if_neg]
  have hT100 : T1 10 = T 10 := fT 10 (by decide)
  have f2 : zfr [10] T1 T2 := by rw [eT2]; exact zfr_st (by decide) zfr_refl
  have c1 : T2 10 1 = T 10 1 := by rw [eT2]; simp (disch := omega) only [m_n, m_b1, m_b2, m_rd, m_wr, m_get, m_put, nI_clamp, st_at, st_ne, up_at, up_ne, if_pos, if_neg, hT100]
  have c2 : T2 10 2 = T 10 2 + 1 := by rw [eT2]; simp (disch := omega) only [m_n, m_b1, m_b2, m_rd, m_wr, m_get, m_put, nI_clamp, st_at, st_ne, up_at, up_ne, if_pos, if_neg, hT100]; rfl
  have c3 : T2 10 3 = T 10 3 := by rw [eT2]; simp (disch := omega) only [m_n, m_b1, m_b2, m_rd, m_wr, m_get, m_put, nI_clamp, st_at, st_ne, up_at, up_ne, if_pos, if_neg, hT100]
  have hroot2 : T2 10 0 = nI (24 + zrt t) := by rw [hT2.2.2.2.2.2.2, hlv1.2.1]
  have hrt24 := hwf.2.2.2.2.2.2.1
  have hsm6 := ht.2.2.2.2 s
  by_cases hsr : s = zrt t
  · -- the root
    obtain ⟨p, hpq, hpf⟩ := hp (zlv t s)
    have hpf := hpf hs0
    have hp0 : zlv t p = 0 := by have := hpf.2.1; rw [zL_ne hpq] at this; exact this
    have hps : p ≠ s := fun z => hs0 (by rw [← z]; exact hp0)
    have hni : ∀ j, 24 + p ∉ zes t j := fun j z => by
      have := (ht.1 j _ z).2.2 (by omega)
      rw [Nat.add_sub_cancel_left] at this
      exact this hp0
    have hni1 : ∀ j, 24 + p ∉ zes t1 j := fun j z => by
      obtain ⟨j', hj'⟩ := (hmm _).mp ⟨j, z⟩
      exact hni j' hj'
    have hsi : ∀ j, 24 + s ∉ zes t j := fun j z => by
      rcases (hwf.2.2.1 _).mp (Or.inr ⟨j, z⟩) with y | y
      · omega
      · rw [Nat.add_sub_cancel_left] at y; exact y.2.2.2 hsr
    have hsi1 : ∀ j, 24 + s ∉ zes t1 j := fun j z => by
      obtain ⟨j', hj'⟩ := (hmm _).mp ⟨j, z⟩
      exact hsi j' hj'
    have hpf1 : zfree t1 p := by unfold zfree; rw [hlv1.1]; exact hpf
    have hesp : zes t1 p = [] := by rw [hes1 p hps hpq]; exact ht.2.1 p hp0
    have h10 : ∀ j, zlv t1 j ≤ 10 := fun j => by
      by_cases hj : j = q
      · rw [hj, v2]; omega
      · rw [v1 j hj]; have := ht.2.2.2.2 j; omega
    obtain ⟨T3, e3, hT3, f3⟩ := c_new (N := N) hN (v := zlv t s) hT2 h10 hpf1 hesp (by omega) hni1
    have hT4 := zcx_root (q := p) hT3
    obtain ⟨T4, eT4⟩ : ∃ T4, T4 = zx_st T3 10 (upd (T3 10) 0 (nI (24 + p))) := ⟨_, rfl⟩
    rw [← eT4] at hT4
    have f4 : zfr [10] T3 T4 := by rw [eT4]; exact zfr_st (by decide) zfr_refl
    have h54 : ∀ j, (zes (zR (zL t1 p (zlv t s + 1)) p) j).length ≤ 5 := h51
    have hvp : zlv (zR (zL t1 p (zlv t s + 1)) p) p ≠ 0 := by rw [zR_lv, zL_at]; omega
    obtain ⟨T5, e5, hT5, f5⟩ := c_attach (N := N) hN (l := []) (m := []) (s := p) (c := 24 + s) hT4 h54 hpf.1 hvp hesp (by decide) (by omega) hsi1
    obtain ⟨t5, et5⟩ : ∃ t5, t5 = zE (zR (zL t1 p (zlv t s + 1)) p) p ([] ++ (24 + s) :: []) := ⟨_, rfl⟩
    rw [← et5] at hT5
    have hes5p : zes t5 p = [] ++ (24 + s) :: [] := by rw [et5]; exact zE_at
    have hes5 : ∀ j, j ≠ p → zes t5 j = zes t1 j := fun j hj => by rw [et5, zE_ne hj]; rfl
    have hu5 : zuq t5 := by
      refine ⟨fun j => ?_, fun j j' x h1 h2 => ?_⟩
      · by_cases hj : j = p
        · rw [hj, hes5p]; simp
        · rw [hes5 j hj]; exact hu1.1 j
      · by_cases hj : j = p
        · rw [hj, hes5p] at h1
          by_cases hj' : j' = p
          · rw [hj, hj']
          · rw [hes5 j' hj'] at h2
            have : x = 24 + s := by simpa using h1
            exact absurd (this ▸ h2) (hsi1 j')
        · rw [hes5 j hj] at h1
          by_cases hj' : j' = p
          · rw [hj', hes5p] at h2
            have : x = 24 + s := by simpa using h2
            exact absurd (this ▸ h1) (hsi1 j)
          · rw [hes5 j' hj'] at h2
            exact hu1.2 j j' x h1 h2
    have h55 : ∀ j, (zes t5 j).length ≤ 5 := fun j => by
      by_cases hj : j = p
      · rw [hj, hes5p]; simp
      · rw [hes5 j hj]; exact h51 j
    have h485 : ∀ j x, x ∈ zes t5 j → x < 48 := fun j x hx => by
      by_cases hj : j = p
      · rw [hj, hes5p] at hx
        have : x = 24 + s := by simpa using hx
        omega
      · rw [hes5 j hj] at hx; exact h481 j x hx
    have hvp5 : zlv t5 p = zlv t s + 1 := by rw [et5, zE_lv, zR_lv, zL_at]
    have hq5 : ∀ j, 24 + q ∉ zes t5 j := fun j hx => by
      by_cases hj : j = p
      · rw [hj, hes5p] at hx
        have : 24 + q = 24 + s := by simpa using hx
        omega
      · rw [hes5 j hj] at hx; exact hqi1 j hx
    obtain ⟨T6, e6, hT6, f6⟩ := z_j209 (N := N) hN (up := p) hT5 hu5 h55 h485 hpf.1 (by rw [hvp5]; omega) hes5p (by rw [hes5p]; simp) hs hq.1 hq5
    -- the reference
    obtain ⟨r2, d2, hr2, k2⟩ := d_new (N := N) hN (v := zlv t s) hr1 h10 h51 hpf1 hesp
    have h5r2 : ∀ j, (zes (zL t1 p (zlv t s + 1)) j).length ≤ 5 := h51
    obtain ⟨r3, d3, hr3, k3⟩ := d_insert (N := N) hN (l := []) (m := []) (s := p) (c := 24 + s) hr2 h5r2 (by have := hpf.1; omega) hesp (by decide)
    have h5r3 : ∀ j, (zes (zE (zL t1 p (zlv t s + 1)) p ([] ++ (24 + s) :: [])) j).length ≤ 5 := fun j => by
      by_cases hj : j = p
      · rw [hj, zE_at]; simp
      · rw [zE_ne hj]; exact h51 j
    have hr4 := zref_root (q := p) hr3 h5r3
    have hr5 : zref (upd r3 376 (nI p)) t5 := by rw [et5]; exact hr4
    obtain ⟨S5, eS5⟩ : ∃ S5, S5 = zx_st (zx_st (zx_st S1 w r2) w r3) w (upd r3 376 (nI p)) := ⟨_, rfl⟩
    have hS5w : S5 w = upd r3 376 (nI p) := by rw [eS5, st_at]
    have fS5 : zfr [w] S1 S5 := by rw [eS5]; exact zfr_st (by simp) (zfr_st (by simp) (zfr_st (by simp) zfr_refl))
    obtain ⟨r6, d6, hr6, k6⟩ := d_l114 (N := N) (w := w) hN (S := S5) (K := K) (by rw [hS5w]; exact hr5) h55 h485 hpf.1 hes5p (by rw [hes5p]; simp) hs hq.1 (by simp) [] 0 N (by simp; omega) (by simp) (by rw [hS5w]; have := hr5.2.2.2.2.1 p (by have := hpf.1; omega); rw [hes5p] at this; exact this) (by simp) (by simp)
    have hrt1 : zwf (zR (zL t1 p (zlv t s + 1)) p) ((24 + s) :: (24 + q) :: lo) 99 p := zwf_splitR hwf hspl hsq hq.1 hq.2.1 hsr hpf.1 hp0 hpq
    have hil : zil (zR (zL t1 p (zlv t s + 1)) p) (24 + s) = zlv t s := by
      unfold zil
      rw [if_neg (by omega), Nat.add_sub_cancel_left, zR_lv, zL_ne (Ne.symm hps), v1 s hsq]
    have hil2 : zil t5 (24 + q) = zlv t s := by
      unfold zil
      rw [if_neg (by omega), Nat.add_sub_cancel_left, et5, zE_lv, zR_lv, zL_ne (Ne.symm hpq), v2]
    have hw5 : zwf t5 ((24 + q) :: lo) p p := by
      rw [et5]
      exact zwf_put hrt1 hesp (by rw [hil, zR_lv, zL_at])
    have hw6 : zwf (zE t5 p ([] ++ (24 + s) :: (24 + q) :: [])) lo p p := by
      have := zwf_put (l := [] ++ [24 + s]) (m := []) (s := p) (zwf_le4 hw5 (by rw [hes5p]; simp)) (by rw [hes5p]; rfl) (by rw [hil2, hvp5])
      exact this
    have hw7 := zwf_un hw6 (by rw [zE_at]; simp)
    have hT60 : T6 0 = T1 0 := by rw [f6 0 (by decide), f5 0 (by decide), f4 0 (by decide), f3 0 (by decide), hT20]
    refine ⟨p, T6, zx_st S5 w r6, _, ⟨0, by rw [zhn, zE_rt, et5]; rfl⟩, ?_, ?_, hT6, by rw [st_at]; exact hr6, hw7, ?_, ?_, ?_, ?_, ⟨?_, ?_, ?_, ?_⟩, ?_, ?_⟩
    · rw [e1, f_X1_split_l104]
      have hl1 := hT1.2.1 s hs
      rw [v1 s hsq, if_neg hs0] at hl1
      have hroot1 : T1 10 0 = nI (24 + zrt t) := by rw [hT1.2.2.2.2.2.2, hlv1.2.1]
      rw [hsr] at hl1 e6 e5 ⊢
      simp (disch := omega) only [↓zlm1, ↓zlm2, zi_e1, zi_e2, zi_1e, zi_12, zi_21, zi_1n, zi_n1, if_true, if_false, eq_self, not_false_eq_true, not_true_eq_false, nI_add, zi_4m, zi_5m, zi_8m, zi_mul4, zi_mul5, zi_sub, nI_leI, nI_ltI, nI_eq, zl0, zl1, zl2, zl3, zl4, zl5, zl6, zl8, zl9, zl24, zl32, zl48, zl49, zl99, zl100, zl120, zl376, zl377, zl378, zl379, zl380, ↓zi_192, zi_dec, Nat.add_zero, Nat.zero_add, m_n, m_b1, m_b2, m_rd, m_wr, m_get, m_put, nI_clamp, st_at, st_ne, up_at, up_ne, if_pos, if_neg]
      rw [← eT2, hroot1]
      simp (disch := omega) only [↓zlm1, ↓zlm2, zi_e1, zi_e2, zi_1e, zi_12, zi_21, zi_1n, zi_n1, if_true, if_false, eq_self, not_false_eq_true, not_true_eq_false, nI_add, zi_4m, zi_5m, zi_8m, zi_mul4, zi_mul5, zi_sub, nI_leI, nI_ltI, nI_eq, zl0, zl1, zl2, zl3, zl4, zl5, zl6, zl8, zl9, zl24, zl32, zl48, zl49, zl99, zl100, zl120, zl376, zl377, zl378, zl379, zl380, ↓zi_192, zi_dec, Nat.add_zero, Nat.zero_add, m_n, m_b1, m_b2, m_rd, m_wr, m_get, m_put, nI_clamp, st_at, st_ne, up_at, up_ne, if_pos, if_neg, hl1]
      rw [hsr] at e3
      have hpos : 0 < zlv t (zrt t) := by omega
      rw [show zlv t (zrt t) - 1 + 1 = zlv t (zrt t) by omega, e3]
      simp (disch := omega) only [↓zlm1, ↓zlm2, zi_e1, zi_e2, zi_1e, zi_12, zi_21, zi_1n, zi_n1, if_true, if_false, eq_self, not_false_eq_true, not_true_eq_false, nI_add, zi_4m, zi_5m, zi_8m, zi_mul4, zi_mul5, zi_sub, nI_leI, nI_ltI, nI_eq, zl0, zl1, zl2, zl3, zl4, zl5, zl6, zl8, zl9, zl24, zl32, zl48, zl49, zl99, zl100, zl120, zl376, zl377, zl378, zl379, zl380, ↓zi_192, zi_dec, Nat.add_zero, Nat.zero_add, m_n, m_b1, m_b2, m_rd, m_wr, m_get, m_put, nI_clamp, st_at, st_ne, up_at, up_ne, if_pos, if_neg]
      rw [← eT4]
      rw [show (nI 0 : Int32) = nI ([] : List Nat).length from rfl, e5]
      simp (disch := omega) only [↓zlm1, ↓zlm2, zi_e1, zi_e2, zi_1e, zi_12, zi_21, zi_1n, zi_n1, if_true, if_false, eq_self, not_false_eq_true, not_true_eq_false, nI_add, zi_4m, zi_5m, zi_8m, zi_mul4, zi_mul5, zi_sub, nI_leI, nI_ltI, nI_eq, zl0, zl1, zl2, zl3, zl4, zl5, zl6, zl8, zl9, zl24, zl32, zl48, zl49, zl99, zl100, zl120, zl376, zl377, zl378, zl379, zl380, ↓zi_192, zi_dec, Nat.add_zero, Nat.zero_add, m_n, m_b1, m_b2, m_rd, m_wr, m_get, m_put, nI_clamp, st_at, st_ne, up_at, up_ne, if_pos, if_neg]
      exact e6
    · have hnw := d_nodeWith0 (N := N) hN ht hr (c := 24 + s) (by omega) hsi
      have hlo := r_levelOf (N := N) (r := S1 w) (s := s) (v := zlv t s) (by omega) (by rw [hr1.2.2.1 s (by omega), v1 s hsq]) (by omega)
      unfold f_X3_treat_j56 f_X3_treat_j111
      simp (disch := omega) only [↓zlm1, ↓zlm2, zi_e1, zi_e2, zi_1e, zi_12, zi_21, zi_1n, zi_n1, if_true, if_false, eq_self, not_false_eq_true, not_true_eq_false, nI_add, zi_4m, zi_5m, zi_8m, zi_mul4, zi_mul5, zi_sub, nI_leI, nI_ltI, nI_eq, zl0, zl1, zl2, zl3, zl4, zl5, zl6, zl8, zl9, zl24, zl32, zl48, zl49, zl99, zl100, zl120, zl376, zl377, zl378, zl379, zl380, ↓zi_192, zi_dec, Nat.add_zero, Nat.zero_add, m_n, m_b1, m_b2, m_rd, m_wr, m_get, m_put, nI_clamp, st_at, st_ne, up_at, up_ne, if_pos, if_neg, hnw, e2, hlo]
      rw [show zlv t s - 1 + 1 = zlv t s by omega, d2]
      simp (disch := omega) only [↓zlm1, ↓zlm2, zi_e1, zi_e2, zi_1e, zi_12, zi_21, zi_1n, zi_n1, if_true, if_false, eq_self, not_false_eq_true, not_true_eq_false, nI_add, zi_4m, zi_5m, zi_8m, zi_mul4, zi_mul5, zi_sub, nI_leI, nI_ltI, nI_eq, zl0, zl1, zl2, zl3, zl4, zl5, zl6, zl8, zl9, zl24, zl32, zl48, zl49, zl99, zl100, zl120, zl376, zl377, zl378, zl379, zl380, ↓zi_192, zi_dec, Nat.add_zero, Nat.zero_add, m_n, m_b1, m_b2, m_rd, m_wr, m_get, m_put, nI_clamp, st_at, st_ne, up_at, up_ne, if_pos, if_neg]
      rw [show (nI 0 : Int32) = nI ([] : List Nat).length from rfl, d3]
      simp (disch := omega) only [↓zlm1, ↓zlm2, zi_e1, zi_e2, zi_1e, zi_12, zi_21, zi_1n, zi_n1, if_true, if_false, eq_self, not_false_eq_true, not_true_eq_false, nI_add, zi_4m, zi_5m, zi_8m, zi_mul4, zi_mul5, zi_sub, nI_leI, nI_ltI, nI_eq, zl0, zl1, zl2, zl3, zl4, zl5, zl6, zl8, zl9, zl24, zl32, zl48, zl49, zl99, zl100, zl120, zl376, zl377, zl378, zl379, zl380, ↓zi_192, zi_dec, Nat.add_zero, Nat.zero_add, m_n, m_b1, m_b2, m_rd, m_wr, m_get, m_put, nI_clamp, st_at, st_ne, up_at, up_ne, if_pos, if_neg]
      rw [← eS5]
      exact d6
    · rw [zE_lv]; exact hvp5
    · refine ⟨by rw [zE_pr, et5]; exact hlv1.2.2.1, by rw [zE_rc, et5]; exact hlv1.2.2.2, fun j hj => ?_⟩
      have h1 : j ≠ p := fun z => hj (by rw [z]; exact hp0)
      have h2 : j ≠ q := fun z => hj (by rw [z]; exact hq.2.1)
      rw [zE_lv, et5, zE_lv, zR_lv, zL_ne h1, v1 j h2]
    · rw [hT60]
      intro i k hi hk hpi
      rw [zE_pr, et5] at hpi
      rw [zE_rc, et5]
      exact hrb1 i k hi hk hpi
    · intro j hj hjp
      rw [hT60]
      rw [zE_lv, et5, zE_lv, zR_lv, zL_ne hjp] at hj
      have := hLC1 j hj (hsi j)
      refine zLC_ext this ?_ (fun k hk => rfl) (fun x hx k hk => rfl)
      rw [zE_ne hjp, hes5 j hjp]
    · exact zfr_trans (zfr_sub fT (by decide)) (zfr_trans (zfr_sub f2 (by decide)) (zfr_trans (zfr_sub f3 (by decide)) (zfr_trans (zfr_sub f4 (by decide)) (zfr_trans (zfr_sub f5 (by decide)) (zfr_sub f6 (by decide))))))
    · rw [f6 10 (by decide), f5 10 (by decide), eT4, st_at, up_ne (by decide), f3 10 (by decide), c1]
    · rw [f6 10 (by decide), f5 10 (by decide), eT4, st_at, up_ne (by decide), f3 10 (by decide), c2]
    · rw [f6 10 (by decide), f5 10 (by decide), eT4, st_at, up_ne (by decide), f3 10 (by decide), c3]
    · exact zfr_st (by simp) (zfr_trans fS (zfr_sub fS5 (by simp)))
    · intro j hj
      rw [st_at, k6 j (by omega), hS5w, up_ne (by omega), k3 j (by omega), k2 j (by omega), kS j (by omega)]
  · -- not the root
    obtain ⟨k, hk⟩ := hch
    obtain ⟨up, k', hsu, hk'⟩ := zhn_up hk hsr
    have hlu := (ht.1 up _ hsu).2.1
    unfold zil at hlu
    rw [if_neg (by omega), Nat.add_sub_cancel_left] at hlu
    have hup0 : zlv t up ≠ 0 := by omega
    have hup := zb_lt ht hup0
    have hus : up ≠ s := fun z => by rw [z] at hlu; omega
    have huq : up ≠ q := fun z => hup0 (by rw [z]; exact hq.2.1)
    obtain ⟨l, r, hlr⟩ := List.append_of_mem hsu
    have hes1u : zes t1 up = l ++ (24 + s) :: r := by rw [hes1 up hus huq]; exact hlr
    have hl4 := h4 up
    obtain ⟨T6, e6, hT6, f6⟩ := z_j209 (N := N) hN (up := up) hT2 hu1 h51 h481 hup (by rw [v1 up huq]; exact hup0) hes1u (by omega) hs hq.1 hqi1
    obtain ⟨n1, n2⟩ := zuq_nd hu hlr
    obtain ⟨r6, d6, hr6, k6⟩ := d_l114 (N := N) (w := w) hN (S := S1) (K := K) hr1 h51 h481 hup hes1u (by omega) hs hq.1 n1 l 0 N (by rw [hes1u] at hl4; simp at hl4; omega) (by omega) (by have := hr1.2.2.2.2.1 up (by omega); rw [hes1u] at this; exact this) n1 (fun x hx => h481 up x (by rw [hes1u]; simp [hx]))
    have hw1 := zwf_split hwf hspl hsq hs0 hq.1 hq.2.1 hsr
    have hil2 : zil t1 (24 + q) = zlv t s := by
      unfold zil
      rw [if_neg (by omega), Nat.add_sub_cancel_left, v2]
    have hw2 : zwf (zE t1 up (l ++ (24 + s) :: (24 + q) :: r)) lo up 99 := by
      have := zwf_put (l := l ++ [24 + s]) (m := r) (s := up) hw1 (by rw [hes1u]; simp) (by rw [hil2, v1 up huq]; omega)
      rw [List.append_assoc, List.singleton_append] at this
      exact this
    have hT60 : T6 0 = T1 0 := by rw [f6 0 (by decide), hT20]
    refine ⟨up, T6, zx_st S1 w r6, _, ⟨k', ?_⟩, ?_, ?_, hT6, by rw [st_at]; exact hr6, hw2, ?_, ?_, ?_, ?_, ⟨?_, ?_, ?_, ?_⟩, ?_, ?_⟩
    · refine zhn_keep (t' := zE t1 up (l ++ (24 + s) :: (24 + q) :: r)) (L := zlv t s) ht hlv1.2.1 (fun j hj x hx => ?_) k' up (by omega) hk'
      by_cases hju : j = up
      · rw [hju, zE_at]
        rw [hju, hlr] at hx
        simp only [List.mem_append, List.mem_cons] at hx ⊢
        rcases hx with z | z | z
        · exact Or.inl z
        · exact Or.inr (Or.inl z)
        · exact Or.inr (Or.inr (Or.inr z))
      · have h1 : j ≠ s := fun z => by rw [z] at hj; omega
        have h2 : j ≠ q := fun z => by rw [z, hq.2.1] at hj; omega
        rw [zE_ne hju, hes1 j h1 h2]; exact hx
    · rw [e1, f_X1_split_l104]
      have hroot1 : T1 10 0 = nI (24 + zrt t) := by rw [hT1.2.2.2.2.2.2, hlv1.2.1]
      simp (disch := omega) only [↓zlm1, ↓zlm2, zi_e1, zi_e2, zi_1e, zi_12, zi_21, zi_1n, zi_n1, if_true, if_false, eq_self, not_false_eq_true, not_true_eq_false, nI_add, zi_4m, zi_5m, zi_8m, zi_mul4, zi_mul5, zi_sub, nI_leI, nI_ltI, nI_eq, zl0, zl1, zl2, zl3, zl4, zl5, zl6, zl8, zl9, zl24, zl32, zl48, zl49, zl99, zl100, zl120, zl376, zl377, zl378, zl379, zl380, ↓zi_192, zi_dec, Nat.add_zero, Nat.zero_add, m_n, m_b1, m_b2, m_rd, m_wr, m_get, m_put, nI_clamp, st_at, st_ne, up_at, up_ne, if_pos, if_neg]
      rw [← eT2, hroot1]
      simp (disch := omega) only [↓zlm1, ↓zlm2, zi_e1, zi_e2, zi_1e, zi_12, zi_21, zi_1n, zi_n1, if_true, if_false, eq_self, not_false_eq_true, not_true_eq_false, nI_add, zi_4m, zi_5m, zi_8m, zi_mul4, zi_mul5, zi_sub, nI_leI, nI_ltI, nI_eq, zl0, zl1, zl2, zl3, zl4, zl5, zl6, zl8, zl9, zl24, zl32, zl48, zl49, zl99, zl100, zl120, zl376, zl377, zl378, zl379, zl380, ↓zi_192, zi_dec, Nat.add_zero, Nat.zero_add, m_n, m_b1, m_b2, m_rd, m_wr, m_get, m_put, nI_clamp, st_at, st_ne, up_at, up_ne, if_pos, if_neg]
      exact e6
    · have hnw := d_nodeWith1 (N := N) hN ht hu hr hsu
      unfold f_X3_treat_j56 f_X3_treat_j111
      simp (disch := omega) only [↓zlm1, ↓zlm2, zi_e1, zi_e2, zi_1e, zi_12, zi_21, zi_1n, zi_n1, if_true, if_false, eq_self, not_false_eq_true, not_true_eq_false, nI_add, zi_4m, zi_5m, zi_8m, zi_mul4, zi_mul5, zi_sub, nI_leI, nI_ltI, nI_eq, zl0, zl1, zl2, zl3, zl4, zl5, zl6, zl8, zl9, zl24, zl32, zl48, zl49, zl99, zl100, zl120, zl376, zl377, zl378, zl379, zl380, ↓zi_192, zi_dec, Nat.add_zero, Nat.zero_add, m_n, m_b1, m_b2, m_rd, m_wr, m_get, m_put, nI_clamp, st_at, st_ne, up_at, up_ne, if_pos, if_neg, hnw, e2]
      exact d6
    · rw [zE_lv, v1 up huq]; omega
    · refine ⟨by rw [zE_pr]; exact hlv1.2.2.1, by rw [zE_rc]; exact hlv1.2.2.2, fun j hj => ?_⟩
      have h2 : j ≠ q := fun z => hj (by rw [z]; exact hq.2.1)
      rw [zE_lv, v1 j h2]
    · rw [hT60]
      intro i k hi hk hpi
      exact hrb1 i k hi hk hpi
    · intro j hj hjp
      rw [hT60]
      rw [zE_lv] at hj
      have := hLC1 j hj (fun z => hjp (hu.2 j up _ z hsu))
      refine zLC_ext this ?_ (fun k hk => rfl) (fun x hx k hk => rfl)
      rw [zE_ne hjp]
    · exact zfr_trans (zfr_sub fT (by decide)) (zfr_trans (zfr_sub f2 (by decide)) (zfr_sub f6 (by decide)))
    · rw [f6 10 (by decide), c1]
    · rw [f6 10 (by decide), c2]
    · rw [f6 10 (by decide), c3]
    · exact zfr_st (by simp) fS
    · intro j hj
      rw [st_at, k6 j (by omega), kS j (by omega)]
