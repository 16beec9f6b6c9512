/-! holds: the nodes, one behind another -/
theorem zK_LC {S Sx : zx_S} {t : ZT} {f : Nat → Int32} {B : zx_B} (h : zK S Sx t f B) {s : Nat} (hs : zlv t s ≠ 0) : zLC f t s := by
  have ht := zK_zb h
  intro hne k hk
  have hs24 := zb_lt ht hs
  have := h.2.1.2.2.2.1.2 s hs hne k hk
  rw [h.2.2 _ (by omega)] at this
  rw [this]
  exact zjn_congr (fun x hx => h.2.2 _ (by have := (ht.1 s x hx).1; omega))
theorem zK_bd {S Sx : zx_S} {t : ZT} {f : Nat → Int32} {B : zx_B} (h : zK S Sx t f B) {s e : Nat} (he : e ∈ zes t s) : zbd f e := by
  have ht := zK_zb h
  have hw := h.2.1.2.2.1
  have hg := zwf_zg hw (zwf_un24 hw)
  have hb := zbounds ht hg h.2.1.2.2.2.1.1 (zwf_cr hw) (zil t e) (fun s hs _ => h.2.1.2.2.2.1.2 s hs) e (Nat.le_refl _) (hg s e he)
  intro k hk
  have := hb k hk
  rw [h.2.2 _ (by have := (ht.1 s e he).1; omega)] at this
  exact this
theorem hj_312 {N : Nat} {K70 : Int32 → Int32 → Int32 → Int32 → Int32 → Int32 → Int32 → Int32 → zx_B → Option (Int32 × zx_B)} {K204 : Int32 → Int32 → Int32 → Int32 → Int32 → Int32 → Int32 → Int32 → Int32 → Int32 → Int32 → Int32 → Int32 → zx_B → Option (Int32 × zx_B)} {v1 v2 v3 v4 v5 v6 v8 v9 v10 v11 v12 v13 v14 v15 w : Int32} {B : zx_B} : f_L_holds_j312 N K70 K204 v1 v2 v3 v4 v5 v6 v8 v9 v10 v11 v12 v13 v14 v15 w B = f_L_holds_j344 N K70 K204 v1 v2 v3 v4 v5 v6 v8 v9 v10 (zmn v11 v15) v13 v14 (zmx v12 w) B := by
  unfold f_L_holds_j312 f_L_holds_j328
  rw [← zmn_le, ← zmx_le]
  by_cases c1 : v11 ≤ v15
  · rw [if_pos c1, if_pos c1]
    by_cases c2 : w ≤ v12
    · rw [if_pos c2, if_pos c2]
    · rw [if_neg c2, if_neg c2]
  · rw [if_neg c1, if_neg c1]
    by_cases c2 : w ≤ v12
    · rw [if_pos c2, if_pos c2]
    · rw [if_neg c2, if_neg c2]
section HL
variable {N : Nat} {S Sx : zx_S} {t : ZT} {f : Nat → Int32}
theorem zc_uq (hw : zwf t [] 99 99) {i j c : Nat} (hi : i < (zdo t).length) (hj : j < (zdo t).length) (h1 : c ∈ zes t ((zdo t).getD i 0)) (h2 : c ∈ zes t ((zdo t).getD j 0)) : i = j := zgD_i (zdo_nd hw) hi hj (hw.1.2 _ _ _ h1 h2)
theorem hl_204 (hN : 100 < N) {K70 : Int32 → Int32 → Int32 → Int32 → Int32 → Int32 → Int32 → Int32 → zx_B → Option (Int32 × zx_B)} {x v2 v3 v4 : Int32} {n s r1 r2 : Nat} (hn : n < (zdo t).length) (hs : (zdo t).getD n 0 = s) : ∀ (rest dn : List Nat) (m : Nat) (B : zx_B), zes t s = dn ++ rest → rest.length < m → zK S Sx t f B → ∃ B', f_L_holds_l204 N K70 m x v2 v3 v4 (nI (r1 + if zlv t s = 1 then dn.length else 0)) (nI (r2 + if zlv t s = 1 then 0 else dn.length)) 1 (nI n) (nI (zlv t s - 1)) (nI (zes t s).length) (zjf f 0 100 dn) (zjf f 3 (-1) dn) (nI dn.length) B = f_L_holds_j415 N K70 x v2 v3 v4 (nI (r1 + if zlv t s = 1 then (zes t s).length else 0)) (nI (r2 + if zlv t s = 1 then 0 else (zes t s).length)) 1 (nI n) (nI (zes t s).length) (zjf f 0 100 (zes t s)) (zjf f 3 (-1) (zes t s)) B' ∧ zK S Sx t f B'
  | [], dn, m + 1, B, he, hm, h => by
    have ht := zK_zb h
    have h5 := ht.2.2.2.1 s
    rw [List.append_nil] at he
    refine ⟨B, ?_, h⟩
    rw [← he, f_L_holds_l204, if_pos (by rw [nI_leI (by omega) (by omega)]; exact Nat.le_refl _)]
  | c :: rest, dn, m + 1, B, he, hm, h => by
    have ht := zK_zb h
    have hw := h.2.1.2.2.1
    have h5 := ht.2.2.2.1 s
    have hlen : (zes t s).length = dn.length + (rest.length + 1) := by rw [he, List.length_append, List.length_cons]
    have hcm : c ∈ zes t s := by rw [he]; simp
    have hcd : (zes t s).getD dn.length 0 = c := by
      have := zgD_r (l := dn) (m := c :: rest) (j := 0)
      rw [Nat.add_zero] at this
      rw [he, this]; rfl
    have hs0 : zlv t s ≠ 0 := fun z => by rw [ht.2.1 s z] at hcm; cases hcm
    have hk : dn.length < (zes t s).length := by omega
    have hk1 : nI dn.length + 1 = nI (dn ++ [c]).length := by rw [zl1, nI_add, List.length_append]; rfl
    rw [f_L_holds_l204, if_neg (by rw [nI_leI (by omega) (by omega)]; omega), if_neg (show ¬ (1 : Int32) = 0 by decide)]
    have a0 : zjf f 0 100 (dn ++ [c]) = zmn (zjf f 0 100 dn) (f (4 * c + 0)) := by rw [zjf_app]; rfl
    have a3 : zjf f 3 (-1) (dn ++ [c]) = zmx (zjf f 3 (-1) dn) (f (4 * c + 3)) := by rw [zjf_app]; rfl
    have hl1 : (dn ++ [c]).length = dn.length + 1 := by simp
    have he2 : zes t s = (dn ++ [c]) ++ rest := by rw [he]; simp
    by_cases hl : zlv t s = 1
    · have hc24 : c < 24 := by
        rcases Nat.lt_or_ge c 24 with y | y
        · exact y
        · have b2 := (ht.1 s c hcm).2
          unfold zil at b2
          rw [if_neg (by omega)] at b2
          have := b2.2 y
          omega
      have hp : zpr t c = true := by
        rcases (hw.2.2.1 c).mp (Or.inr ⟨s, hcm⟩) with z | z
        · exact z.2
        · omega
      obtain ⟨B1, e1, h1⟩ := rd_entry0 (N := N) hN h hn (by rw [hs]; exact hk) (by rw [hs]; exact hl)
      rw [hs, hcd] at e1
      have e2 : f_L_call N 2 (nI c) 0 0 B1 = some (f (4 * c + 0), B1) := rd_rect (N := N) (k := 0) hN h1 hc24 (by omega) hp
      have e3 : f_L_call N 2 (nI c) 3 0 B1 = some (f (4 * c + 3), B1) := rd_rect (N := N) (k := 3) hN h1 hc24 (by omega) hp
      obtain ⟨j, B2, e4, h2, j1, j2⟩ := rd_rect4 (N := N) hN h1 hc24 hp
      have hjn : j = n := zc_uq hw j1 hn j2 (by rw [hs]; exact hcm)
      rw [hjn] at e4
      obtain ⟨B', g1, g2⟩ := hl_204 hN (K70 := K70) (x := x) (v2 := v2) (v3 := v3) (v4 := v4) (r1 := r1) (r2 := r2) hn hs rest (dn ++ [c]) m B2 he2 (by rw [List.length_cons] at hm; omega) h2
      refine ⟨B', ?_, g2⟩
      rw [hl1] at g1
      simp only [if_pos hl] at g1 ⊢
      have z0 : nI (zlv t s - 1) = 0 := by rw [hl]; rfl
      rw [z0] at g1 ⊢
      rw [e1, m_b2, if_pos rfl]
      unfold f_L_holds_j240 f_L_holds_j255 f_L_holds_j284
      rw [m_n, if_pos rfl, m_n, if_pos rfl, e2, m_b2, if_pos rfl, e3, m_b2, hj_312]
      unfold f_L_holds_j344 f_L_holds_j407
      rw [if_pos rfl, e4, m_b2, if_pos rfl, m_n, ← a0, ← a3, Int32.add_zero, zl1, nI_add, nI_add, ← zl1, Nat.add_assoc]
      exact g1
    · have hl2 : 1 < zlv t s := by omega
      obtain ⟨j, B1, e1, h1, j1, j2⟩ := rd_entry1 (N := N) hN h hn (by rw [hs]; exact hk) (by rw [hs]; exact hl2)
      rw [hs, hcd] at j2
      have hj0 := rd_ndK h j1
      have hcj := hcm
      rw [j2] at hcj
      have hjr : (zdo t).getD j 0 ≠ zrt t := fun z => by rw [z] at hcj; exact zwf_root hw s hcj
      have hje : zes t ((zdo t).getD j 0) ≠ [] := by
        have := hw.2.2.2.2.2.2.2.2.1 _ hj0.1 hjr (by omega)
        intro z
        rw [z] at this
        simp at this
      obtain ⟨B2, e2, h2⟩ := rd_nodeb (N := N) (c := 0) hN h1 j1 (by omega)
      obtain ⟨B3, e3, h3⟩ := rd_nodeb (N := N) (c := 3) hN h2 j1 (by omega)
      rw [if_neg hje, ← j2] at e2 e3
      have e2' : f_L_call N 3 (nI j) 2 0 B1 = some (f (4 * c + 0), B2) := e2
      have e3' : f_L_call N 3 (nI j) 5 0 B2 = some (f (4 * c + 3), B3) := e3
      obtain ⟨p, B4, e4, h4, p1, p2⟩ := rd_node6 (N := N) hN h3 j1 hjr
      have hpn : p = n := zc_uq hw p1 hn p2 (by rw [hs]; exact hcj)
      rw [hpn] at e4
      obtain ⟨B', g1, g2⟩ := hl_204 hN (K70 := K70) (x := x) (v2 := v2) (v3 := v3) (v4 := v4) (r1 := r1) (r2 := r2) hn hs rest (dn ++ [c]) m B4 he2 (by rw [List.length_cons] at hm; omega) h4
      refine ⟨B', ?_, g2⟩
      have h6 := ht.2.2.2.2 s
      have z0 : ¬ nI (zlv t s - 1) = 0 := by rw [zl0, nI_eq (by omega) (by omega)]; omega
      rw [hl1] at g1
      simp only [if_neg hl] at g1 ⊢
      rw [e1, m_b2, if_neg z0]
      unfold f_L_holds_j240 f_L_holds_j255 f_L_holds_j284
      rw [m_n, if_neg z0, m_n, if_neg z0, e2', m_b2, if_neg z0, e3', m_b2, hj_312]
      unfold f_L_holds_j344 f_L_holds_j402 f_L_holds_j407
      have hif : ∀ {α : Type} (P R : α), (if 0 < nI dn.length then P else if nI j = nI n + 1 then P else R) = P := by
        intro α P R
        by_cases q : 0 < dn.length
        · rw [if_pos (by rw [zl0, nI_ltI (by omega) (by omega)]; exact q)]
        · have q0 : dn.length = 0 := by omega
          rw [q0] at hcd
          have hk2 := zdo_kid hw hn (by rw [hs]; exact hl2) (by rw [hs, hcd]; exact j2) (by rw [hs]; omega)
          have hj1 := zgD_i (zdo_nd hw) hk2.1 j1 hk2.2
          have hle := zdo_le hw
          rw [if_neg (by rw [zl0, nI_ltI (by omega) (by omega)]; exact q), if_pos (by rw [zl1, nI_add, hj1])]
      rw [if_neg z0, e4, m_b2, if_pos rfl, hif, m_n, ← a0, ← a3, Int32.add_zero, hk1, hl1, zl1, nI_add, ← zl1, Nat.add_assoc]
      exact g1
end HL
