/-! a split up to its two groups -/
theorem c_empty {T : zx_S} {t : ZT} {s : Nat} (h : zcx T t []) (hs : s < 24) : zcx (zx_st T 3 (upd (T 3) (24 + s) (nI 0))) (zE t s []) (zes t s) := by
  obtain ⟨a1, a2, a3, a4, a5, a6, a7⟩ := h
  refine ⟨?_, ?_, ?_, ?_, ?_, ?_, ?_⟩
  · simp (disch := omega) only [m_n, m_b1, m_b2, m_rd, m_wr, m_get, m_put, nI_clamp, st_at, st_ne, up_at, up_ne, if_pos, if_neg]; exact a1
  · simp (disch := omega) only [m_n, m_b1, m_b2, m_rd, m_wr, m_get, m_put, nI_clamp, st_at, st_ne, up_at, up_ne, if_pos, if_neg]; exact a2
  · intro j hj hl
    rw [st_at]
    by_cases hjs : j = s
    · rw [hjs, zE_at, up_at]; rfl
    · rw [zE_ne hjs, up_ne (by omega)]; exact a3 j hj hl
  · intro j hj
    rw [st_ne (by decide)]
    by_cases hjs : j = s
    · rw [hjs, zE_at]; trivial
    · rw [zE_ne hjs]; exact a4 j hj
  · intro j e hj he
    rw [st_ne (by decide)]
    by_cases hjs : j = s
    · rw [hjs, zE_at] at he; cases he
    · rw [zE_ne hjs] at he; exact a5 j e hj he
  · intro c hc hX hno
    rw [st_ne (by decide)]
    refine a6 c hc (by simp) (fun j hj hm => ?_)
    by_cases hjs : j = s
    · exact hX (hjs ▸ hm)
    · exact hno j hj (by rw [zE_ne hjs]; exact hm)
  · simp (disch := omega) only [m_n, m_b1, m_b2, m_rd, m_wr, m_get, m_put, nI_clamp, st_at, st_ne, up_at, up_ne, if_pos, if_neg]; exact a7
theorem zrem_perm : ∀ a, a < 5 → ∀ b, b < 5 → a < b → ([a, b] ++ zrem a b 5).Perm [0, 1, 2, 3, 4] := by decide
theorem zrem_len : ∀ a, a < 5 → ∀ b, b < 5 → a < b → (zrem a b 5).length = 3 := by decide
theorem zdiv5 : ∀ a, a < 5 → ∀ b, b < 5 → (nI (5 * a + b)) / nI 5 = nI a := by decide
theorem zgetD_mem : ∀ {l : List Nat} {k : Nat}, k < l.length → l.getD k 0 ∈ l
  | c :: l, 0, _ => by simp
  | c :: l, k + 1, h => by
    have := zgetD_mem (l := l) (k := k) (by simpa using h)
    rw [List.getD_cons_succ]
    exact List.mem_cons_of_mem _ this
theorem zget_map {l : List Nat} (h : l.length = 5) : [0, 1, 2, 3, 4].map (fun k => l.getD k 0) = l := by
  match l, h with
  | [a, b, c, d, e], _ => rfl
theorem zref_lev {r : Nat → Int32} {t : ZT} {s v : Nat} (h : zref r t) (h5 : ∀ j, (zes t j).length ≤ 5) (hs : s < 32) : zref (upd r (120 + 8 * s) (nI v)) (zL t s v) := by
  obtain ⟨a1, a2, a3, a4, a5, a6⟩ := h
  refine ⟨?_, ?_, ?_, ?_, ?_, ?_⟩
  · intro i hi; rw [up_ne (by omega)]; exact a1 i hi
  · intro i k hi hk hp; rw [up_ne (by omega)]; exact a2 i k hi hk hp
  · intro j hj
    by_cases hjs : j = s
    · rw [hjs, zL_at, up_at]
    · rw [zL_ne hjs, up_ne (by omega)]; exact a3 j hj
  · intro j hj; rw [up_ne (by omega)]; exact a4 j hj
  · intro j hj
    have := h5 j
    exact zat_congr (fun i z1 z2 => up_ne (by rw [zL_es] at z2; omega)) (a5 j hj)
  · rw [up_ne (by omega)]; exact a6
theorem zref_ext {r : Nat → Int32} {t t' : ZT} (h : zref r t) (h1 : ∀ j, zlv t' j = zlv t j) (h2 : ∀ j, zes t' j = zes t j) (h3 : zrt t' = zrt t) (h4 : zpr t' = zpr t) (h5 : zrc t' = zrc t) : zref r t' := by
  unfold zref
  simp only [h1, h2, h3, h4, h5]
  exact h
theorem z_core {N w : Nat} (hN : 100 < N) (hw : w ≠ 6) (hw7 : w ≠ 7) {s q : Nat} {T S : zx_S} {t : ZT} (hT : zcx T t []) (hr : zref (S w) t) (ht : zb t) (hu : zuq t) (hs : s < 24) (hlen : (zes t s).length = 5) (hA : ∀ x, x ∈ zes t s → zbd (T 0) x ∧ ∀ k, k < 4 → S 6 (4 * x + k) = T 0 (4 * x + k)) (hq : zfree t q) :
    ∃ m a b T' S' t1, f_X1_split N (nI (24 + s)) T = f_X1_split_l104 N (m + 1) (nI (24 + s)) (nI a) (nI b) (nI (24 + q)) (nI 0) (nI 5) T' ∧ f_X3_split N w (nI s) S = some (nI q, S') ∧
      zcx T' t1 [] ∧ zref (S' w) t1 ∧ (zlv t1 = zlv (zL t q (zlv t s)) ∧ zrt t1 = zrt t ∧ zpr t1 = zpr t ∧ zrc t1 = zrc t) ∧ (∀ j, j ≠ s → j ≠ q → zes t1 j = zes t j) ∧ (zes t1 s ++ zes t1 q).Perm (zes t s) ∧ 2 ≤ (zes t1 s).length ∧ 2 ≤ (zes t1 q).length ∧
      zfr [0, 1, 2, 3, 4, 7] T T' ∧ zfr [w, 6, 7] S S' ∧ (∀ j, 376 ≤ j → S' w j = if j = 378 then S w 378 + 1 else S w j) ∧
      (∀ k, k < 4 → T' 0 (4 * (24 + s) + k) = zjn (T' 0) (zes t1 s) k ∧ T' 0 (4 * (24 + q) + k) = zjn (T' 0) (zes t1 q) k) ∧
      (∀ j, (j < 4 * (24 + s) ∨ 4 * (24 + s) + 4 ≤ j) → (j < 4 * (24 + q) ∨ 4 * (24 + q) + 4 ≤ j) → T' 0 j = T 0 j) := by
  have hv0 : zlv t s ≠ 0 := fun z => by have := ht.2.1 s z; rw [this] at hlen; cases hlen
  have hv6 := ht.2.2.2.2 s
  have hsq : s ≠ q := fun z => hv0 (by rw [z]; exact hq.2.1)
  have hesq : zes t q = [] := ht.2.1 q hq.2.1
  have hq24 : ∀ j, 24 + q ∉ zes t j := fun j z => by
    have := (ht.1 j _ z).2.2 (by omega)
    rw [Nat.add_sub_cancel_left] at this
    exact this hq.2.1
  have hcr : ∀ k, k < 5 → (zes t s).getD k 0 ∈ zes t s := fun k hk => zgetD_mem (by omega)
  obtain ⟨cr, ecr⟩ : ∃ cr : Nat → Nat, cr = fun k => (zes t s).getD k 0 := ⟨_, rfl⟩
  have hcm : ∀ k, k < 5 → cr k ∈ zes t s := fun k hk => by rw [ecr]; exact hcr k hk
  have hc48 : ∀ k, k < 5 → cr k < 48 := fun k hk => (ht.1 s _ (hcm k hk)).1
  have hcA := fun k (hk : k < 5) => hA _ (hcm k hk)
  have h5 := ht.2.2.2.1
  have h10 : ∀ j, zlv t j ≤ 10 := fun j => by have := ht.2.2.2.2 j; omega
  have hmap : [0, 1, 2, 3, 4].map cr = zes t s := by rw [ecr]; exact zget_map hlen
  -- crowds
  obtain ⟨m1, T1, e1, f1, g1, _⟩ := m_crowd (N := N) (24 + s) (by omega) 5 0 N T (by omega) (by omega)
  obtain ⟨S1, e2, f2, g2, _⟩ := d_crowd (N := N) (w := w) hw7 s (by omega) 5 0 N S (by omega) (by omega)
  have hT7 : ∀ k, k < 5 → T1 7 k = nI (cr k) := fun k hk => by
    rw [g1 k (Nat.zero_le k) hk, zat_get (hT.2.2.2.1 s hs) (by omega), ecr]
  have hS7 : ∀ k, k < 5 → S1 7 k = nI (cr k) := fun k hk => by
    rw [g2 k (Nat.zero_le k) hk, zat_get (hr.2.2.2.2.1 s (by omega)) (by omega), ecr]
  have hT10 : T1 0 = T 0 := f1 0 (by decide)
  have hS16 : S1 6 = S 6 := f2 6 (by decide)
  have hS1w : S1 w = S w := f2 w (by simp; exact hw7)
  have hseed := m_seeds (N := N) hN (T := T1) (cr := cr) (fun k hk => ⟨hT7 k hk, by have := hc48 k hk; omega⟩)
  obtain ⟨m2, hseed2⟩ := d_seeds (N := N) (w := w) hN (S := S1) (cr := cr) (v2 := nI s) (fun k hk => ⟨hS7 k hk, by have := hc48 k hk; omega⟩)
  have hsd : zsd (S1 6) cr = zsd (T1 0) cr := by
    refine zsd_cg (fun k hk j hj => ?_)
    rw [hT10, hS16]
    exact (hcA k hk).2 j hj
  rw [hsd] at hseed2
  obtain ⟨b1, b2⟩ := zsd_b (T1 0) cr
  obtain ⟨a, ea⟩ : ∃ a, a = (zsd (T1 0) cr).1 := ⟨_, rfl⟩
  obtain ⟨b, eb⟩ : ∃ b, b = (zsd (T1 0) cr).2 := ⟨_, rfl⟩
  rw [← ea, ← eb] at b1 hseed hseed2
  rw [← eb] at b2
  have ha5 : a < 5 := by omega
  have hperm := ((zrem_perm a ha5 b b2 b1).map cr)
  rw [hmap] at hperm
  have hnd : ([cr a, cr b] ++ (zrem a b 5).map cr).Nodup := by
    have := hperm.nodup_iff.mpr (hu.1 s)
    rw [List.map_append] at this
    exact this
  have hrest : ∀ x, x ∈ (zrem a b 5).map cr → x ∈ zes t s := fun x hx => hperm.mem_iff.mp (by rw [List.map_append]; exact List.mem_append_right _ hx)
  have hno : ∀ x, x ∈ zes t s → ∀ j, x ∉ zes (zE (zL t q (zlv t s)) s []) j := fun x hx j hj => by
    by_cases hjs : j = s
    · rw [hjs, zE_at] at hj; cases hj
    · rw [zE_ne hjs, zL_es] at hj
      exact hjs (hu.2 j s x hj hx)
  have hneq : ∀ x, x ∈ zes t s → x ≠ 24 + s ∧ x ≠ 24 + q := fun x hx => ⟨zb_self ht hx, fun z => hq24 s (by rw [← z]; exact hx)⟩
  -- the class: a new node, and an empty one
  have hT1 : zcx T1 t [] := zcx_keep hT (f1 1 (by decide)) (f1 2 (by decide)) (f1 3 (by decide)) (f1 4 (by decide)) (by rw [f1 10 (by decide)])
  obtain ⟨T2, e3, hT2, f3⟩ := c_new (N := N) hN (v := zlv t s - 1) hT1 h10 hq hesq (by omega) hq24
  rw [show zlv t s - 1 + 1 = zlv t s by omega] at hT2
  obtain ⟨T3, eT3⟩ : ∃ T3, T3 = zx_st T2 3 (upd (T2 3) (24 + s) (nI 0)) := ⟨_, rfl⟩
  have hT3 : zcx T3 (zE (zL t q (zlv t s)) s []) (zes t s) := by rw [eT3]; exact c_empty hT2 hs
  have f4 : zfr [3] T2 T3 := by rw [eT3]; exact zfr_st (by decide) zfr_refl
  have h5' : ∀ j, (zes (zE (zL t q (zlv t s)) s []) j).length ≤ 5 := fun j => by
    by_cases hjs : j = s
    · rw [hjs, zE_at]; exact Nat.zero_le _
    · rw [zE_ne hjs]; exact h5 j
  have hT30 : T3 0 = T 0 := by rw [f4 0 (by decide), f3 0 (by decide), hT10]
  have hT37 : T3 7 = T1 7 := by rw [f4 7 (by decide), f3 7 (by decide)]
  have hv3s : zlv (zE (zL t q (zlv t s)) s []) s = zlv t s := by rw [zE_lv, zL_ne hsq]
  have hv3q : zlv (zE (zL t q (zlv t s)) s []) q = zlv t s := by rw [zE_lv, zL_at]
  have hes3 : zes (zE (zL t q (zlv t s)) s []) s = [] := zE_at
  obtain ⟨T4, e4, hT4, f5, x1, o1⟩ := c_join (N := N) hN (c := cr a) hT3 h5' (by rw [hes3]; simp) hs (by rw [hv3s]; exact hv0) (by rw [hes3]; decide) (hc48 a ha5) (hno _ (hcm a ha5)) (by
    rw [hes3]; intro x hx; rw [List.mem_singleton.mp hx, hT30]; exact (hcA a ha5).1)
  rw [hes3, List.nil_append] at hT4 x1
  obtain ⟨t4, et4⟩ : ∃ t4, t4 = zE (zE (zL t q (zlv t s)) s []) s [cr a] := ⟨_, rfl⟩
  rw [← et4] at hT4
  have hes4s : zes t4 s = [cr a] := by rw [et4]; exact zE_at
  have hes4 : ∀ j, j ≠ s → zes t4 j = zes t j := fun j hj => by rw [et4, zE_ne hj, zE_ne hj]; rfl
  have hlv4 : zlv t4 = zlv (zL t q (zlv t s)) := by rw [et4]; rfl
  have hes4q : zes t4 q = [] := by rw [hes4 q (Ne.symm hsq), hesq]
  have h54 : ∀ j, (zes t4 j).length ≤ 5 := fun j => by
    by_cases hjs : j = s
    · rw [hjs, hes4s]; simp
    · rw [hes4 j hjs]; exact h5 j
  have hab : cr a ≠ cr b := by
    intro z
    rw [z] at hnd
    have := (List.nodup_append.mp hnd).1
    simp at this
  have hno4 : ∀ x, x ∈ zes t s → x ≠ cr a → ∀ j, x ∉ zes t4 j := fun x hx hxa j hj => by
    by_cases hjs : j = s
    · rw [hjs, hes4s] at hj; exact hxa (List.mem_singleton.mp hj)
    · rw [hes4 j hjs] at hj
      exact hjs (hu.2 j s x hj hx)
  have k4 : ∀ x, x ∈ zes t s → ∀ k, k < 4 → T4 0 (4 * x + k) = T 0 (4 * x + k) := fun x hx k hk => by
    have := (hneq x hx).1
    rw [o1 _ (by omega), hT30]
  obtain ⟨T5, e5, hT5, f6, x2, o2⟩ := c_join (N := N) hN (s := q) (c := cr b) hT4 h54 (by rw [hes4q]; simp) hq.1 (by rw [hlv4, zL_at]; exact hv0) (by rw [hes4q]; decide) (hc48 b b2) (hno4 _ (hcm b b2) (Ne.symm hab)) (by
    rw [hes4q]; intro x hx k hk; rw [List.mem_singleton.mp hx, k4 _ (hcm b b2) k hk]; exact (hcA b b2).1 k hk)
  rw [hes4q, List.nil_append] at hT5 x2
  -- the reference
  obtain ⟨r6, e6, hr6, f7⟩ := d_clear (N := N) hN (r := S1 w) (s := s) (by rw [hS1w]; exact hr) h5 (by omega)
  have h56 : ∀ j, (zes (zL (zE t s []) s 0) j).length ≤ 5 := fun j => by
    rw [zL_es]
    by_cases hjs : j = s
    · rw [hjs, zE_at]; exact Nat.zero_le _
    · rw [zE_ne hjs]; exact h5 j
  obtain ⟨r7, er7⟩ : ∃ r7, r7 = upd r6 (120 + 8 * s) (nI (zlv t s)) := ⟨_, rfl⟩
  have hr7 : zref r7 (zE t s []) := by
    rw [er7]
    refine zref_ext (zref_lev (v := zlv t s) hr6 h56 (by omega)) (fun j => ?_) (fun j => rfl) rfl rfl rfl
    by_cases hjs : j = s
    · rw [hjs, zL_at]; rfl
    · rw [zL_ne hjs, zL_ne hjs]
  have h57 : ∀ j, (zes (zE t s []) j).length ≤ 5 := h56
  obtain ⟨r8, e8, hr8, f9⟩ := d_new (N := N) hN (v := zlv t s - 1) hr7 h10 h57 hq (by rw [zE_ne (Ne.symm hsq)]; exact hesq)
  rw [show zlv t s - 1 + 1 = zlv t s by omega] at hr8
  obtain ⟨S8, eS8⟩ : ∃ S8, S8 = zx_st (zx_st (zx_st S1 w r6) w r7) w r8 := ⟨_, rfl⟩
  have hS8w : S8 w = r8 := by rw [eS8, st_at]
  have f8 : zfr [w] S1 S8 := by rw [eS8]; exact zfr_st (by simp) (zfr_st (by simp) (zfr_st (by simp) zfr_refl))
  have hS87 : S8 7 = S1 7 := f8 7 (by simp; exact Ne.symm hw7)
  have hS86 : S8 6 = S 6 := by rw [f8 6 (by simp; exact Ne.symm hw), hS16]
  have hr83 : zref (S8 w) (zE (zL t q (zlv t s)) s []) := by rw [hS8w]; exact hr8
  obtain ⟨S9, e9, hr9, f10, g10, x3, o3⟩ := d_take (N := N) hN hw (c := cr a) hr83 h5' hs (hc48 a ha5) (hneq _ (hcm a ha5)).1 (fun z => absurd hes3 z)
  rw [hes3, List.nil_append] at hr9 x3
  rw [← et4] at hr9
  obtain ⟨S10, e10, hr10, f11, g11, x4, o4⟩ := d_take (N := N) hN hw (s := q) (c := cr b) hr9 h54 hq.1 (hc48 b b2) (hneq _ (hcm b b2)).2 (fun z => absurd hes4q z)
  rw [hes4q, List.nil_append] at hr10 x4
  -- the groups
  have kT : ∀ x, x ∈ zes t s → ∀ k, k < 4 → T5 0 (4 * x + k) = T 0 (4 * x + k) := fun x hx k hk => by
    have := (hneq x hx).2
    rw [o2 _ (by omega), k4 x hx k hk]
  have kS9 : ∀ x, x ∈ zes t s → ∀ k, k < 4 → S9 6 (4 * x + k) = T 0 (4 * x + k) := fun x hx k hk => by
    have := (hneq x hx).1
    rw [o3 _ (by omega), hS86]; exact (hA x hx).2 k hk
  have kS : ∀ x, x ∈ zes t s → ∀ k, k < 4 → S10 6 (4 * x + k) = T 0 (4 * x + k) := fun x hx k hk => by
    have := (hneq x hx).2
    rw [o4 _ (by omega), kS9 x hx k hk]
  obtain ⟨t5, et5⟩ : ∃ t5, t5 = zE t4 q [cr b] := ⟨_, rfl⟩
  rw [← et5] at hT5 hr10
  have hes5s : zes t5 s = [cr a] := by rw [et5, zE_ne hsq]; exact hes4s
  have hes5q : zes t5 q = [cr b] := by rw [et5]; exact zE_at
  have hes5 : ∀ j, j ≠ s → j ≠ q → zes t5 j = zes t j := fun j h1 h2 => by rw [et5, zE_ne h2]; exact hes4 j h1
  have hlv5 : zlv t5 = zlv (zL t q (zlv t s)) := by rw [et5, zE_lv]; exact hlv4
  have hG : zGI w (zes t s) cr s q T5 S10 t5 ((zrem a b 5).map cr) := by
    refine ⟨hT5, hr10, ?_, ?_, ?_, ?_, ?_, ?_, ?_, ?_, ?_⟩
    · intro j
      by_cases h1 : j = s
      · rw [h1, hes5s]; simp
      · by_cases h2 : j = q
        · rw [h2, hes5q]; simp
        · rw [hes5 j h1 h2]; exact h5 j
    · intro k hk
      rw [f6 7 (by decide), f5 7 (by decide), hT37, f11 7 (by simp; exact Ne.symm hw7), f10 7 (by simp; exact Ne.symm hw7), hS87]
      exact ⟨hT7 k hk, hS7 k hk⟩
    · rw [hlv5, zL_ne hsq, zL_at]; exact ⟨hv0, hv0⟩
    · rw [hes5s, hes5q]; exact ⟨by simp, by simp⟩
    · intro k hk
      rw [hes5s, hes5q]
      refine ⟨?_, ?_, ?_, ?_⟩
      · rw [zjn_one, kT _ (hcm a ha5) k hk, o2 _ (by omega), x1 k hk, zjn_one, hT30]
      · rw [o4 _ (by omega), x3 k hk, zjn_one, hS86, o2 _ (by omega), x1 k hk, zjn_one, hT30]; exact (hcA a ha5).2 k hk
      · rw [zjn_one, kT _ (hcm b b2) k hk, x2 k hk, zjn_one, k4 _ (hcm b b2) k hk]
      · rw [x4 k hk, zjn_one, kS9 _ (hcm b b2) k hk, x2 k hk, zjn_one, k4 _ (hcm b b2) k hk]
    · intro x hx
      have hxs : x ∈ zes t s := by
        rw [hes5s, hes5q] at hx
        rcases hx with z | z | z
        · rw [List.mem_singleton.mp z]; exact hcm a ha5
        · rw [List.mem_singleton.mp z]; exact hcm b b2
        · exact hrest x z
      refine ⟨(ht.1 s x hxs).1, (hneq x hxs).1, (hneq x hxs).2, fun k hk => by rw [kT x hxs k hk]; exact (hA x hxs).1 k hk, fun k hk => by rw [kS x hxs k hk, kT x hxs k hk]⟩
    · exact (List.nodup_append.mp hnd).2.1
    · intro x hx j hj
      have hd := (List.nodup_append.mp hnd).2.2
      by_cases h1 : j = s
      · rw [h1, hes5s] at hj
        exact hd (cr a) (by simp) x hx (List.mem_singleton.mp hj).symm
      · by_cases h2 : j = q
        · rw [h2, hes5q] at hj
          exact hd (cr b) (by simp) x hx (List.mem_singleton.mp hj).symm
        · rw [hes5 j h1 h2] at hj
          exact h1 (hu.2 j s x hj (hrest x hx))
    · rw [hes5s, hes5q, List.length_map, zrem_len a ha5 b b2 b1]; simp
  obtain ⟨m, m', T', S', t1, r1, r2, r3, r4, r5, r6', r7', r8', r9', r10'⟩ := z_groups (N := N) hN hw hw7 hs hq.1 hsq ha5 b2 5 0 N N T5 S10 t5 (by omega) (by omega) (by omega) hG
  obtain ⟨a1, a2, a3, a4, a5, a6, a7, a8, a9, a10, a11⟩ := id r3
  simp only [List.length_nil] at a11
  have hpf : (zes t1 s ++ zes t1 q).Perm (zes t s) := by
    refine r6'.trans ?_
    rw [hes5s, hes5q]
    rw [List.map_append] at hperm
    exact hperm
  rw [zrem_len a ha5 b b2 b1] at r1 r2
  refine ⟨m, a, b, T', zx_st S' w (upd (S' w) 378 (S' w 378 + nI 1)), t1, ?_, ?_, ?_, ?_, ⟨r4.1.trans hlv5, ?_, ?_, ?_⟩, fun j h1 h2 => by rw [r5 j h1 h2, hes5 j h1 h2], hpf, by omega, by omega, ?_, ?_, ?_, ?_, ?_⟩
  · rw [← r1]
    unfold f_X1_split
    rw [zl0, e1, f_X1_split_l2]
    have hl1 := hT1.2.1 s hs
    rw [if_neg hv0] at hl1
    have hd1 := zdiv5 a ha5 b b2
    simp (disch := omega) only [↓zlm1, ↓zlm2, zi_e1, zi_e2, zi_1e, zi_12, zi_21, zi_1n, zi_n1, if_true, if_false, eq_self, not_false_eq_true, not_true_eq_false, nI_add, zi_4m, zi_5m, zi_8m, zi_mul4, zi_mul5, zi_sub, nI_leI, nI_ltI, nI_eq, zl0, zl1, zl2, zl3, zl4, zl5, zl6, zl8, zl9, zl24, zl32, zl48, zl49, zl99, zl100, zl120, zl376, zl377, zl378, zl379, zl380, ↓zi_192, zi_dec, Nat.add_zero, Nat.zero_add, m_n, m_b1, m_b2, m_rd, m_wr, m_get, m_put, nI_clamp, st_at, st_ne, up_at, up_ne, if_pos, if_neg, hseed, hl1, e3, hd1]
    rw [Nat.add_sub_cancel_left, ← eT3]
    simp (disch := omega) only [↓zlm1, ↓zlm2, zi_e1, zi_e2, zi_1e, zi_12, zi_21, zi_1n, zi_n1, if_true, if_false, eq_self, not_false_eq_true, not_true_eq_false, nI_add, zi_4m, zi_5m, zi_8m, zi_mul4, zi_mul5, zi_sub, nI_leI, nI_ltI, nI_eq, zl0, zl1, zl2, zl3, zl4, zl5, zl6, zl8, zl9, zl24, zl32, zl48, zl49, zl99, zl100, zl120, zl376, zl377, zl378, zl379, zl380, ↓zi_192, zi_dec, Nat.add_zero, Nat.zero_add, m_n, m_b1, m_b2, m_rd, m_wr, m_get, m_put, nI_clamp, st_at, st_ne, up_at, up_ne, if_pos, if_neg, f3 7 (by decide), hT37, hT7 a ha5, hT7 b b2, e4, f5 7 (by decide), e5]
  · unfold f_X3_split
    have hmn := hr.2.2.2.1 s (by omega)
    rw [hlen] at hmn
    have hlo := r_levelOf (N := N) (r := S1 w) (s := s) (v := zlv t s) (by omega) (by rw [hS1w]; exact hr.2.2.1 s (by omega)) (by omega)
    simp (disch := omega) only [r_many, ↓zlm1, ↓zlm2, zi_e1, zi_e2, zi_1e, zi_12, zi_21, zi_1n, zi_n1, if_true, if_false, eq_self, not_false_eq_true, not_true_eq_false, nI_add, zi_4m, zi_5m, zi_8m, zi_mul4, zi_mul5, zi_sub, nI_leI, nI_ltI, nI_eq, zl0, zl1, zl2, zl3, zl4, zl5, zl6, zl8, zl9, zl24, zl32, zl48, zl49, zl99, zl100, zl120, zl376, zl377, zl378, zl379, zl380, ↓zi_192, zi_dec, Nat.add_zero, Nat.zero_add, m_n, m_b1, m_b2, m_rd, m_wr, m_get, m_put, nI_clamp, st_at, st_ne, up_at, up_ne, if_pos, if_neg, hmn]
    rw [e2, hseed2, f_X3_split_l44]
    simp (disch := omega) only [↓zlm1, ↓zlm2, zi_e1, zi_e2, zi_1e, zi_12, zi_21, zi_1n, zi_n1, if_true, if_false, eq_self, not_false_eq_true, not_true_eq_false, nI_add, zi_4m, zi_5m, zi_8m, zi_mul4, zi_mul5, zi_sub, nI_leI, nI_ltI, nI_eq, zl0, zl1, zl2, zl3, zl4, zl5, zl6, zl8, zl9, zl24, zl32, zl48, zl49, zl99, zl100, zl120, zl376, zl377, zl378, zl379, zl380, ↓zi_192, zi_dec, Nat.add_zero, Nat.zero_add, m_n, m_b1, m_b2, m_rd, m_wr, m_get, m_put, nI_clamp, st_at, st_ne, up_at, up_ne, if_pos, if_neg, hlo, e6, r_at]
    rw [show zlv t s - 1 + 1 = zlv t s by omega, ← er7, e8]
    simp (disch := omega) only [↓zlm1, ↓zlm2, zi_e1, zi_e2, zi_1e, zi_12, zi_21, zi_1n, zi_n1, if_true, if_false, eq_self, not_false_eq_true, not_true_eq_false, nI_add, zi_4m, zi_5m, zi_8m, zi_mul4, zi_mul5, zi_sub, nI_leI, nI_ltI, nI_eq, zl0, zl1, zl2, zl3, zl4, zl5, zl6, zl8, zl9, zl24, zl32, zl48, zl49, zl99, zl100, zl120, zl376, zl377, zl378, zl379, zl380, ↓zi_192, zi_dec, Nat.add_zero, Nat.zero_add, m_n, m_b1, m_b2, m_rd, m_wr, m_get, m_put, nI_clamp, st_at, st_ne, up_at, up_ne, if_pos, if_neg]
    rw [← eS8]
    simp (disch := omega) only [↓zlm1, ↓zlm2, zi_e1, zi_e2, zi_1e, zi_12, zi_21, zi_1n, zi_n1, if_true, if_false, eq_self, not_false_eq_true, not_true_eq_false, nI_add, zi_4m, zi_5m, zi_8m, zi_mul4, zi_mul5, zi_sub, nI_leI, nI_ltI, nI_eq, zl0, zl1, zl2, zl3, zl4, zl5, zl6, zl8, zl9, zl24, zl32, zl48, zl49, zl99, zl100, zl120, zl376, zl377, zl378, zl379, zl380, ↓zi_192, zi_dec, Nat.add_zero, Nat.zero_add, m_n, m_b1, m_b2, m_rd, m_wr, m_get, m_put, nI_clamp, st_at, st_ne, up_at, up_ne, if_pos, if_neg, hS87, hS7 a ha5, hS7 b b2, e9, f10 7 (by simp; exact Ne.symm hw7), e10]
    rw [r2, f_X3_split_l213]
    simp (disch := omega) only [↓zlm1, ↓zlm2, zi_e1, zi_e2, zi_1e, zi_12, zi_21, zi_1n, zi_n1, if_true, if_false, eq_self, not_false_eq_true, not_true_eq_false, nI_add, zi_4m, zi_5m, zi_8m, zi_mul4, zi_mul5, zi_sub, nI_leI, nI_ltI, nI_eq, zl0, zl1, zl2, zl3, zl4, zl5, zl6, zl8, zl9, zl24, zl32, zl48, zl49, zl99, zl100, zl120, zl376, zl377, zl378, zl379, zl380, ↓zi_192, zi_dec, Nat.add_zero, Nat.zero_add, m_n, m_b1, m_b2, m_rd, m_wr, m_get, m_put, nI_clamp, st_at, st_ne, up_at, up_ne, if_pos, if_neg]
  · refine ⟨a1.1, a1.2.1, a1.2.2.1, a1.2.2.2.1, a1.2.2.2.2.1, fun c hc _ hnot => ?_, a1.2.2.2.2.2.2⟩
    refine a1.2.2.2.2.2.1 c hc (fun z => ?_) hnot
    rcases List.mem_append.mp (hpf.mem_iff.mpr z) with z | z
    · exact hnot s hs z
    · exact hnot q hq.1 z
  · rw [st_at]
    exact zref_cnt a2 a3 (by omega)
  · rw [r4.2.1, et5, et4]; rfl
  · rw [r4.2.2.1, et5, et4]; rfl
  · rw [r4.2.2.2, et5, et4]; rfl
  · refine zfr_trans (zfr_sub f1 (by decide)) (zfr_trans (zfr_sub f3 (by decide)) (zfr_trans (zfr_sub f4 (by decide)) (zfr_trans (zfr_sub f5 (by decide)) (zfr_trans (zfr_sub f6 (by decide)) (zfr_sub r7' (by decide))))))
  · refine zfr_st (by simp) (zfr_trans (zfr_sub f2 (by simp)) (zfr_trans (zfr_sub f8 (by simp)) (zfr_trans (zfr_sub f10 (by simp)) (zfr_trans (zfr_sub f11 (by simp)) (zfr_sub r8' (by simp))))))
  · have hk : ∀ j, 376 ≤ j → S' w j = S w j := fun j hj => by
      rw [r9' j hj, g11 j hj, g10 j hj, hS8w, f9 j hj, er7, up_ne (by omega), f7 j hj, hS1w]
    intro j hj
    rw [st_at]
    by_cases h378 : j = 378
    · rw [h378, up_at, if_pos rfl, hk 378 (by omega)]; rfl
    · rw [up_ne h378, if_neg h378, hk j hj]
  · intro k hk
    exact ⟨(a7 k hk).1, (a7 k hk).2.2.1⟩
  · intro j h1 h2
    rw [(r10' j h1 h2).1, o2 j h2, o1 j h1, hT30]
