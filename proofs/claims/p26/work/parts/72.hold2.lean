section HM
variable {N : Nat} {S Sx : zx_S} {t : ZT} {f : Nat → Int32}
theorem zjf_in {k : Nat} {a : Int32} {l : List Nat} (hl : l ≠ []) (ha : ∀ c, c ∈ l → zmm k a (f (4 * c + k)) = f (4 * c + k)) : zjf f k a l = zjn f l k := by
  match l, hl with
  | c :: l, _ =>
    show zjf f k (zmm k a (f (4 * c + k))) l = zjf f k (f (4 * c + k)) l
    rw [ha c (List.mem_cons_self ..)]
theorem hl_415 (hN : 100 < N) {K70 : Int32 → Int32 → Int32 → Int32 → Int32 → Int32 → Int32 → Int32 → zx_B → Option (Int32 × zx_B)} {x v2 v3 v4 v5 v6 : Int32} {n s : Nat} (hn : n < (zdo t).length) (hs : (zdo t).getD n 0 = s) {B : zx_B} (h : zK S Sx t f B) : ∃ B', f_L_holds_j415 N K70 x v2 v3 v4 v5 v6 1 (nI n) (nI (zes t s).length) (zjf f 0 100 (zes t s)) (zjf f 3 (-1) (zes t s)) B = K70 x v2 v3 v4 v5 v6 1 (nI (n + 1)) B' ∧ zK S Sx t f B' := by
  have ht := zK_zb h
  have h5 := ht.2.2.2.1 s
  have hs0 : zlv t s ≠ 0 := by rw [← hs]; exact (rd_ndK h hn).1
  have hn1 : nI n + 1 = nI (n + 1) := by rw [zl1, nI_add]
  obtain ⟨B1, e1, h1⟩ := rd_nodeb (N := N) (c := 0) hN h hn (by omega)
  rw [hs] at e1
  unfold f_L_holds_j415 f_L_holds_j469 f_L_holds_j474
  rw [if_neg (show ¬ (1 : Int32) = 0 by decide)]
  by_cases h0 : zes t s = []
  · rw [if_pos h0] at e1
    have e1' : f_L_call N 3 (nI n) 2 0 B = some (zM1, B1) := e1
    refine ⟨B1, ?_, h1⟩
    rw [h0, List.length_nil, if_pos (by decide), e1', m_b2, if_pos (by decide), m_n, hn1]
  · have hlen : (zes t s).length ≠ 0 := fun z => h0 (List.eq_nil_of_length_eq_zero z)
    obtain ⟨B2, e2, h2⟩ := rd_nodeb (N := N) (c := 3) hN h1 hn (by omega)
    rw [hs, if_neg h0] at e2
    rw [if_neg h0] at e1
    have e1' : f_L_call N 3 (nI n) 2 0 B = some (f (4 * (24 + s) + 0), B1) := e1
    have e2' : f_L_call N 3 (nI n) 5 0 B1 = some (f (4 * (24 + s) + 3), B2) := e2
    have g0 := zK_LC h hs0 h0 0 (by omega)
    have g3 := zK_LC h hs0 h0 3 (by omega)
    have q0 : zjf f 0 100 (zes t s) = f (4 * (24 + s) + 0) := by
      rw [g0]
      exact zjf_in h0 (fun c hc => zmm_lo (by omega) (zK_bd h hc 0 (by omega)))
    have q3 : zjf f 3 (-1) (zes t s) = f (4 * (24 + s) + 3) := by
      rw [g3]
      exact zjf_in h0 (fun c hc => zmm_hi (by omega) (zK_bd h hc 3 (by omega)))
    refine ⟨B2, ?_, h2⟩
    rw [if_neg (by rw [zl0, nI_eq (by omega) (by omega)]; exact hlen), e1', m_b2, if_pos q0.symm, e2', m_b2, if_pos q3.symm, m_n, hn1]
theorem hl_70 (hN : 100 < N) {x v3 v4 : Int32} : ∀ (suf pre : List Nat) (m : Nat) (B : zx_B), zdo t = pre ++ suf → suf.length < m → zK S Sx t f B → ∃ B', f_L_holds_l70 N m x (nI (zdo t).length) v3 v4 (nI (zs1 t pre)) (nI (zs2 t pre)) 1 (nI pre.length) B = f_L_holds_j482 N x (nI (zdo t).length) v3 v4 (nI (zs1 t (zdo t))) (nI (zs2 t (zdo t))) 1 B' ∧ zK S Sx t f B'
  | [], pre, m + 1, B, he, hm, h => by
    have hle := zdo_le h.2.1.2.2.1
    rw [List.append_nil] at he
    refine ⟨B, ?_, h⟩
    rw [← he, f_L_holds_l70, if_pos (by rw [nI_leI (by omega) (by omega)]; exact Nat.le_refl _)]
  | s :: suf, pre, m + 1, B, he, hm, h => by
    have ht := zK_zb h
    have hw := h.2.1.2.2.1
    have hle := zdo_le hw
    have hlen : (zdo t).length = pre.length + (suf.length + 1) := by rw [he, List.length_append, List.length_cons]
    have hn : pre.length < (zdo t).length := by omega
    have hs : (zdo t).getD pre.length 0 = s := by
      have := zgD_r (l := pre) (m := s :: suf) (j := 0)
      rw [Nat.add_zero] at this
      rw [he, this]; rfl
    have hs0 : zlv t s ≠ 0 := by rw [← hs]; exact (rd_ndK h hn).1
    have h4 : (zes t s).length ≤ 4 := (hw.2.2.2.2.2.2.2.2.2.1 s).2 (by have := zb_lt ht hs0; omega)
    have h6 := ht.2.2.2.2 s
    obtain ⟨B1, e1, h1⟩ := rd_node0 (N := N) hN h hn
    obtain ⟨B2, e2, h2⟩ := rd_node1 (N := N) hN h1 hn
    rw [hs] at e1 e2
    have go : ∀ B3, zK S Sx t f B3 → ∃ B', f_L_holds_j173 N (f_L_holds_l70 N m) x (nI (zdo t).length) v3 v4 (nI (zs1 t pre)) (nI (zs2 t pre)) (nI pre.length) (nI (zlv t s - 1)) (nI (zes t s).length) B3 = f_L_holds_j482 N x (nI (zdo t).length) v3 v4 (nI (zs1 t (zdo t))) (nI (zs2 t (zdo t))) 1 B' ∧ zK S Sx t f B' := by
      intro B3 h3
      obtain ⟨B4, e4, h4'⟩ := rd_entryN (N := N) (k := (zes t s).length) hN h3 hn (by rw [hs]; exact Nat.le_refl _) (by omega)
      obtain ⟨B5, e5, h5⟩ := hl_204 (N := N) hN (K70 := f_L_holds_l70 N m) (x := x) (v2 := nI (zdo t).length) (v3 := v3) (v4 := v4) (r1 := zs1 t pre) (r2 := zs2 t pre) hn hs (zes t s) [] 30 B4 rfl (by omega) h4'
      obtain ⟨B6, e6, h6'⟩ := hl_415 (N := N) hN (K70 := f_L_holds_l70 N m) (x := x) (v2 := nI (zdo t).length) (v3 := v3) (v4 := v4) (v5 := nI (zs1 t pre + if zlv t s = 1 then (zes t s).length else 0)) (v6 := nI (zs2 t pre + if zlv t s = 1 then 0 else (zes t s).length)) hn hs h5
      obtain ⟨B', e7, h7⟩ := hl_70 hN (x := x) (v3 := v3) (v4 := v4) suf (pre ++ [s]) m B6 (by rw [he]; simp) (by rw [List.length_cons] at hm; omega) h6'
      refine ⟨B', ?_, h7⟩
      rw [zs1_app, zs2_app, List.length_append] at e7
      have s1 : zs1 t [s] = if zlv t s = 1 then (zes t s).length else 0 := by rw [zs1, zs1, Nat.add_zero]
      have s2 : zs2 t [s] = if zlv t s = 1 then 0 else (zes t s).length := by rw [zs2, zs2, Nat.add_zero]
      rw [s1, s2] at e7
      unfold f_L_holds_j173 f_L_holds_j192
      rw [e4, m_b2, if_pos rfl]
      have i0 : ∀ (a : Nat), (a + if zlv t s = 1 then ([] : List Nat).length else 0) = a := by
        intro a
        rw [List.length_nil]
        split <;> rfl
      have i1 : ∀ (a : Nat), (a + if zlv t s = 1 then 0 else ([] : List Nat).length) = a := by
        intro a
        rw [List.length_nil]
        split <;> rfl
      rw [i0, i1] at e5
      exact (e5.trans e6).trans e7
    rw [f_L_holds_l70, if_neg (by rw [nI_leI (by omega) (by omega)]; omega), if_neg (show ¬ (1 : Int32) = 0 by decide), e1, m_b2, e2, m_b2, if_neg (by rw [zl4, nI_ltI (by omega) (by omega)]; omega)]
    have hroot : pre.length = 0 ↔ s = zrt t := by
      obtain ⟨u, eu⟩ := zdo_0 (t := t)
      have hr0 : (zdo t).getD 0 0 = zrt t := by rw [eu]; rfl
      constructor
      · intro z
        rw [z] at hs
        rw [← hs, hr0]
      · intro z
        exact zgD_i (zdo_nd hw) hn (by omega) (by rw [hs, hr0, z])
    by_cases hp : pre.length = 0
    · rw [if_pos (by rw [hp]; rfl)]
      have hsr := hroot.mp hp
      by_cases hl : zlv t s = 1
      · rw [if_pos (by rw [hl]; rfl)]
        exact go B2 h2
      · have h2e := hw.2.2.2.2.2.2.2.2.2.2.1 (by rw [← hsr]; omega) (by have := hw.2.2.2.2.2.2.1.1; omega)
        rw [← hsr] at h2e
        rw [if_neg (by rw [zl0, nI_eq (by omega) (by omega)]; omega), if_neg (by rw [zl2, nI_ltI (by omega) (by omega)]; omega)]
        exact go B2 h2
    · have hsr : s ≠ zrt t := fun z => hp (hroot.mpr z)
      have h2e := hw.2.2.2.2.2.2.2.2.1 s hs0 hsr (by have := zb_lt ht hs0; omega)
      rw [if_neg (by rw [zl0, nI_eq (by omega) (by omega)]; exact hp), if_neg (by rw [zl2, nI_ltI (by omega) (by omega)]; omega)]
      obtain ⟨p, B3, e3, h3, p1, p2⟩ := rd_node6 (N := N) hN h2 hn (by rw [hs]; exact hsr)
      obtain ⟨B4, e4, h4'⟩ := rd_node0 (N := N) hN h3 p1
      obtain ⟨q, B5, e5, h5, q1, q2⟩ := rd_node6 (N := N) hN h4' hn (by rw [hs]; exact hsr)
      have hlp := (ht.1 _ _ p2).2.1
      unfold zil at hlp
      rw [if_neg (by omega), Nat.add_sub_cancel_left, hs] at hlp
      have hqn := zdo_par hw q1 hn q2
      rw [e3, m_b2, e4, m_b2, if_pos (by rw [zl1, nI_add]; congr 1; omega), e5, m_b2, if_neg (by rw [nI_leI (by omega) (by omega)]; omega)]
      exact go B5 h5
theorem hl_482 (hN : 100 < N) {x v4 : Int32} {B : zx_B} (h : zK S Sx t f B) : ∃ B', f_L_holds_j482 N x (nI (zdo t).length) (nI (zct t 24)) v4 (nI (zs1 t (zdo t))) (nI (zs2 t (zdo t))) 1 B = f_L_holds_j533 N x (nI (zdo t).length) (nI (zct t 24)) v4 1 B' ∧ zK S Sx t f B' := by
  have ht := zK_zb h
  have hw := h.2.1.2.2.1
  have hle := zdo_le hw
  have hz2 := zs2_all hw
  unfold f_L_holds_j482 f_L_holds_j528
  rw [if_neg (show ¬ (1 : Int32) = 0 by decide), zs1_all hw, if_pos rfl, if_pos (by rw [zl1, zi_sub (by omega)]; congr 1; omega)]
  by_cases c : 1 < (zdo t).length
  · rw [if_pos (by rw [zl1, nI_ltI (by omega) (by omega)]; exact c)]
    exact ⟨B, rfl, h⟩
  · obtain ⟨B1, e1, h1⟩ := rd_about3 (N := N) hN h
    obtain ⟨B2, e2, h2⟩ := rd_about4 (N := N) hN h1 (by omega)
    have z0 : zsum (zov f t) (zdo t) = 0 := by
      obtain ⟨u, eu⟩ := zdo_0 (t := t)
      have hu : u = [] := by
        rw [eu, List.length_cons] at c
        exact List.eq_nil_of_length_eq_zero (by omega)
      rw [hu] at eu
      rw [eu, zs2, zs2, Nat.add_zero] at hz2
      have hl : zlv t (zrt t) ≤ 1 := by
        rcases Nat.lt_or_ge 1 (zlv t (zrt t)) with q | q
        · have h2e := hw.2.2.2.2.2.2.2.2.2.2.1 q (by have := hw.2.2.2.2.2.2.1.1; omega)
          rw [if_neg (by omega)] at hz2
          simp at hz2
          rw [hz2] at h2e
          simp at h2e
        · exact q
      rw [eu, zsum, zsum]
      unfold zov
      rw [if_pos hl]
      rfl
    rw [if_neg (by rw [zl1, nI_ltI (by omega) (by omega)]; exact c), e1, m_b2, if_pos z0, e2, m_b2, if_pos rfl]
    exact ⟨B2, rfl, h2⟩
end HM
