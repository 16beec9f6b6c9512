/-! one step of the tree, in the class and in the reference -/
theorem zE_lv {t : ZT} {s : Nat} {l : List Nat} : zlv (zE t s l) = zlv t := rfl
theorem zE_es {t : ZT} {s j : Nat} {l : List Nat} : zes (zE t s l) j = if j = s then l else zes t j := rfl
theorem zE_rt {t : ZT} {s : Nat} {l : List Nat} : zrt (zE t s l) = zrt t := rfl
theorem zE_pr {t : ZT} {s : Nat} {l : List Nat} : zpr (zE t s l) = zpr t := rfl
theorem zE_rc {t : ZT} {s : Nat} {l : List Nat} : zrc (zE t s l) = zrc t := rfl
theorem zE_il {t : ZT} {s : Nat} {l : List Nat} : zil (zE t s l) = zil t := rfl
theorem zL_lv {t : ZT} {s v j : Nat} : zlv (zL t s v) j = if j = s then v else zlv t j := rfl
theorem zL_es {t : ZT} {s v : Nat} : zes (zL t s v) = zes t := rfl
theorem zL_rt {t : ZT} {s v : Nat} : zrt (zL t s v) = zrt t := rfl
theorem zL_pr {t : ZT} {s v : Nat} : zpr (zL t s v) = zpr t := rfl
theorem zL_rc {t : ZT} {s v : Nat} : zrc (zL t s v) = zrc t := rfl
theorem zR_lv {t : ZT} {r : Nat} : zlv (zR t r) = zlv t := rfl
theorem zR_es {t : ZT} {r : Nat} : zes (zR t r) = zes t := rfl
theorem zR_rt {t : ZT} {r : Nat} : zrt (zR t r) = r := rfl
theorem zR_pr {t : ZT} {r : Nat} : zpr (zR t r) = zpr t := rfl
theorem zR_rc {t : ZT} {r : Nat} : zrc (zR t r) = zrc t := rfl
theorem zR_il {t : ZT} {r : Nat} : zil (zR t r) = zil t := rfl
theorem zE_at {t : ZT} {s : Nat} {l : List Nat} : zes (zE t s l) s = l := if_pos rfl
theorem zE_ne {t : ZT} {s j : Nat} {l : List Nat} (h : j ≠ s) : zes (zE t s l) j = zes t j := if_neg h
theorem zL_at {t : ZT} {s v : Nat} : zlv (zL t s v) s = v := if_pos rfl
theorem zL_ne {t : ZT} {s j v : Nat} (h : j ≠ s) : zlv (zL t s v) j = zlv t j := if_neg h
/-- entries at a row's place -/
theorem zcx_row {T : zx_S} {t : ZT} {X : List Nat} (h : zcx T t X) {s : Nat} (hs : s < 24) : zat (T 4) (5 * (24 + s)) (zes t s) := h.2.2.2.1 s hs
theorem zcx_ins {T T' : zx_S} {t : ZT} {X l m : List Nat} {s c : Nat} (h : zcx T t X) (h5 : ∀ j, (zes t j).length ≤ 5) (hs : s < 24) (he : zes t s = l ++ m) (hx : ∀ j, c ∉ zes t j) (f1 : T' 1 = T 1) (f10 : T' 10 0 = T 10 0) (g3 : T' 3 = upd (T 3) (24 + s) (nI ((l ++ m).length + 1))) (g2 : T' 2 = upd (T 2) c (nI (24 + s))) (g4 : zat (T' 4) (5 * (24 + s)) (l ++ c :: m)) (o4 : ∀ j, (j < 5 * (24 + s) ∨ 5 * (24 + s) + 5 ≤ j) → T' 4 j = T 4 j) : zcx T' (zE t s (l ++ c :: m)) X := by
  obtain ⟨a1, a2, a3, a4, a5, a6, a7⟩ := h
  refine ⟨?_, ?_, ?_, ?_, ?_, ?_, ?_⟩
  · rw [f1]; exact a1
  · rw [f1]; exact a2
  · intro j hj hlv
    rw [g3]
    by_cases hjs : j = s
    · subst hjs
      rw [up_at, zE_at]
      congr 1
      simp
      omega
    · rw [up_ne (by omega), zE_ne hjs]
      exact a3 j hj hlv
  · intro j hj
    by_cases hjs : j = s
    · subst hjs
      rw [zE_at]; exact g4
    · rw [zE_ne hjs]
      have := h5 j
      exact zat_congr (fun i z1 z2 => o4 i (by omega)) (a4 j hj)
  · intro j x hj hxm
    rw [g2]
    by_cases hjs : j = s
    · subst hjs
      rw [zE_at] at hxm
      by_cases hxc : x = c
      · rw [hxc, up_at]
      · rw [up_ne hxc]
        refine a5 j x hj ?_
        rw [he]
        simp only [List.mem_append, List.mem_cons] at hxm ⊢
        rcases hxm with z | z | z
        · exact Or.inl z
        · exact absurd z hxc
        · exact Or.inr z
    · rw [zE_ne hjs] at hxm
      have hxc : x ≠ c := fun z => hx j (by rw [← z]; exact hxm)
      rw [up_ne hxc]
      exact a5 j x hj hxm
  · intro x hx48 hX hno
    have hxc : x ≠ c := fun z => hno s hs (by rw [zE_at, z]; simp)
    rw [g2, up_ne hxc]
    refine a6 x hx48 hX (fun j hj hm => ?_)
    by_cases hjs : j = s
    · subst hjs
      refine hno j hj ?_
      rw [zE_at]
      rw [he] at hm
      simp only [List.mem_append, List.mem_cons] at hm ⊢
      rcases hm with z | z
      · exact Or.inl z
      · exact Or.inr (Or.inr z)
    · exact hno j hj (by rw [zE_ne hjs]; exact hm)
  · rw [f10]; exact a7
theorem c_attach {N : Nat} (hN : 100 < N) {T : zx_S} {t : ZT} {X l m : List Nat} {s c : Nat} (h : zcx T t X) (h5 : ∀ j, (zes t j).length ≤ 5) (hs : s < 24) (hv : zlv t s ≠ 0) (he : zes t s = l ++ m) (hlen : (l ++ m).length < 5) (hc : c < 48) (hx : ∀ j, c ∉ zes t j) :
    ∃ T', f_X1_attach N (nI (24 + s)) (nI l.length) (nI c) T = some T' ∧ zcx T' (zE t s (l ++ c :: m)) X ∧ zfr [2, 3, 4] T T' := by
  have hz := h.2.2.2.1 s hs
  have hl := h.2.2.1 s hs hv
  rw [he] at hz hl
  obtain ⟨T', e, f1, g3, g2, g4, o4⟩ := m_attach (N := N) hN (T := T) (a := 24 + s) (c := c) (l := l) (m := m) (by omega) (by omega) hz hl hlen
  exact ⟨T', e, zcx_ins h h5 hs he hx (f1 1 (by decide)) (by rw [f1 10 (by decide)]) g3 g2 g4 o4, f1⟩
theorem zuq_nd {t : ZT} (h : zuq t) {s c : Nat} {l m : List Nat} (he : zes t s = l ++ c :: m) : c ∉ l ∧ c ∉ m := by
  have h1 := h.1 s
  rw [he] at h1
  have h2 := List.nodup_append.mp h1
  refine ⟨fun z => h2.2.2 c z c (by simp) rfl, fun z => ?_⟩
  exact (List.nodup_cons.mp h2.2.1).1 z
theorem c_detach {N : Nat} (hN : 100 < N) {T : zx_S} {t : ZT} {X l m : List Nat} {s c : Nat} (h : zcx T t X) (hu : zuq t) (h5 : ∀ j, (zes t j).length ≤ 5) (h48 : ∀ j x, x ∈ zes t j → x < 48) (hs : s < 24) (hv : zlv t s ≠ 0) (he : zes t s = l ++ c :: m) :
    ∃ T', f_X1_detach N (nI c) T = some T' ∧ zcx T' (zE t s (l ++ m)) X ∧ zfr [2, 3, 4] T T' := by
  obtain ⟨a1, a2, a3, a4, a5, a6, a7⟩ := h
  have hz := a4 s hs
  have hl := a3 s hs hv
  have hc : c ∈ zes t s := by rw [he]; simp
  have hc48 := h48 s c hc
  obtain ⟨n1, n2⟩ := zuq_nd hu he
  have hlen := h5 s
  rw [he] at hz hl hlen
  obtain ⟨T', e, f1, g3, g2, g4, o4⟩ := m_detach (N := N) hN (T := T) (a := 24 + s) (c := c) (l := l) (m := m) (by omega) (by omega) (a5 s c hs hc) hz hl hlen n1 (fun x hx => by have := h48 s x (by rw [he]; simp [hx]); omega)
  have f (j : Nat) (hj : j ∉ [2, 3, 4]) : T' j = T j := f1 j hj
  refine ⟨T', e, ⟨?_, ?_, ?_, ?_, ?_, ?_, ?_⟩, f1⟩
  · rw [f 1 (by decide)]; exact a1
  · rw [f 1 (by decide)]; exact a2
  · intro j hj hlv
    rw [g3]
    by_cases hjs : j = s
    · subst hjs
      rw [up_at, zE_at]
    · rw [up_ne (by omega), zE_ne hjs]
      exact a3 j hj hlv
  · intro j hj
    by_cases hjs : j = s
    · subst hjs
      rw [zE_at]; exact g4
    · rw [zE_ne hjs]
      have := h5 j
      exact zat_congr (fun i z1 z2 => o4 i (by omega)) (a4 j hj)
  · intro j x hj hxm
    rw [g2]
    by_cases hjs : j = s
    · subst hjs
      rw [zE_at] at hxm
      have hxc : x ≠ c := by
        rintro rfl
        rcases List.mem_append.mp hxm with z | z
        · exact n1 z
        · exact n2 z
      rw [up_ne hxc]
      refine a5 j x hj ?_
      rw [he]
      simp only [List.mem_append, List.mem_cons] at hxm ⊢
      rcases hxm with z | z
      · exact Or.inl z
      · exact Or.inr (Or.inr z)
    · rw [zE_ne hjs] at hxm
      have hxc : x ≠ c := fun z => hjs (hu.2 j s c (by rw [← z]; exact hxm) hc)
      rw [up_ne hxc]
      exact a5 j x hj hxm
  · intro x hx48 hX hno
    rw [g2]
    by_cases hxc : x = c
    · rw [hxc, up_at]
    · rw [up_ne hxc]
      refine a6 x hx48 hX (fun j hj hm => ?_)
      by_cases hjs : j = s
      · subst hjs
        refine hno j hj ?_
        rw [zE_at]
        rw [he] at hm
        simp only [List.mem_append, List.mem_cons] at hm ⊢
        rcases hm with z | z | z
        · exact Or.inl z
        · exact absurd z hxc
        · exact Or.inr z
      · exact hno j hj (by rw [zE_ne hjs]; exact hm)
  · rw [f 10 (by decide)]; exact a7
/-- the first free slot -/
def zfree (t : ZT) (q : Nat) : Prop := q < 24 ∧ zlv t q = 0 ∧ ∀ i, i < q → zlv t i ≠ 0
theorem c_new {N : Nat} (hN : 100 < N) {T : zx_S} {t : ZT} {X : List Nat} {q v : Nat} (h : zcx T t X) (hlv : ∀ s, zlv t s ≤ 10) (hq : zfree t q) (he : zes t q = []) (hv : v < 100) (hx : ∀ j, 24 + q ∉ zes t j) :
    ∃ T', f_X1_newNode N (nI v) T = some (nI (24 + q), T') ∧ zcx T' (zL t q (v + 1)) X ∧ zfr [1, 2, 3] T T' := by
  obtain ⟨a1, a2, a3, a4, a5, a6, a7⟩ := h
  obtain ⟨q1, q2, q3⟩ := hq
  have hn := m_newNode (N := N) hN (T := T) (nI v) q q1 (by rw [a2 q q1, if_pos q2]) (fun i hi => by
    rw [a2 i (by omega), if_neg (q3 i hi)]
    have := hlv i
    exact zi_m2 (by omega))
  refine ⟨_, hn, ⟨?_, ?_, ?_, ?_, ?_, ?_, ?_⟩, ?_⟩
  · intro i hi
    simp (disch := omega) only [m_n, m_b1, m_b2, m_rd, m_wr, m_get, m_put, nI_clamp, st_at, st_ne, up_at, up_ne, if_pos, if_neg]
    exact a1 i hi
  · intro s hs
    by_cases hsq : s = q
    · subst hsq
      rw [zL_at]
      simp (disch := omega) only [m_n, m_b1, m_b2, m_rd, m_wr, m_get, m_put, nI_clamp, st_at, st_ne, up_at, up_ne, if_pos, if_neg, Nat.add_sub_cancel]
    · rw [zL_ne hsq]
      simp (disch := omega) only [m_n, m_b1, m_b2, m_rd, m_wr, m_get, m_put, nI_clamp, st_at, st_ne, up_at, up_ne, if_pos, if_neg]
      exact a2 s hs
  · intro s hs hl
    by_cases hsq : s = q
    · subst hsq
      simp (disch := omega) only [m_n, m_b1, m_b2, m_rd, m_wr, m_get, m_put, nI_clamp, st_at, st_ne, up_at, up_ne, if_pos, if_neg, zL_es, he, List.length_nil]
    · rw [zL_ne hsq] at hl
      simp (disch := omega) only [m_n, m_b1, m_b2, m_rd, m_wr, m_get, m_put, nI_clamp, st_at, st_ne, up_at, up_ne, if_pos, if_neg, zL_es]
      exact a3 s hs hl
  · intro s hs
    simp (disch := omega) only [m_n, m_b1, m_b2, m_rd, m_wr, m_get, m_put, nI_clamp, st_at, st_ne, up_at, up_ne, if_pos, if_neg, zL_es]
    exact a4 s hs
  · intro s e hs hm
    rw [zL_es] at hm
    have : e ≠ 24 + q := fun z => hx s (by rw [← z]; exact hm)
    simp (disch := omega) only [m_n, m_b1, m_b2, m_rd, m_wr, m_get, m_put, nI_clamp, st_at, st_ne, up_at, up_ne, if_pos, if_neg]
    exact a5 s e hs hm
  · intro c hc hX hno
    by_cases hcq : c = 24 + q
    · subst hcq
      simp (disch := omega) only [m_n, m_b1, m_b2, m_rd, m_wr, m_get, m_put, nI_clamp, st_at, st_ne, up_at, up_ne, if_pos, if_neg]
    · simp (disch := omega) only [m_n, m_b1, m_b2, m_rd, m_wr, m_get, m_put, nI_clamp, st_at, st_ne, up_at, up_ne, if_pos, if_neg]
      exact a6 c hc hX hno
  · simp (disch := omega) only [m_n, m_b1, m_b2, m_rd, m_wr, m_get, m_put, nI_clamp, st_at, st_ne, up_at, up_ne, if_pos, if_neg, zL_rt]
    exact a7
  · exact zfr_st (by decide) (zfr_st (by decide) (zfr_st (by decide) zfr_refl))
/-- a node is free again -/
theorem c_free {T : zx_S} {t : ZT} {X : List Nat} {q : Nat} (h : zcx T t X) (hq : q < 24) (he : zes t q = []) :
    zcx (zx_st T 1 (upd (T 1) (24 + q) zM2)) (zL t q 0) X := by
  obtain ⟨a1, a2, a3, a4, a5, a6, a7⟩ := h
  refine ⟨?_, ?_, ?_, ?_, ?_, ?_, ?_⟩
  · intro i hi
    simp (disch := omega) only [m_n, m_b1, m_b2, m_rd, m_wr, m_get, m_put, nI_clamp, st_at, st_ne, up_at, up_ne, if_pos, if_neg]
    exact a1 i hi
  · intro s hs
    by_cases hsq : s = q
    · subst hsq
      rw [zL_at]
      simp (disch := omega) only [m_n, m_b1, m_b2, m_rd, m_wr, m_get, m_put, nI_clamp, st_at, st_ne, up_at, up_ne, if_pos, if_neg, if_true]
    · rw [zL_ne hsq]
      simp (disch := omega) only [m_n, m_b1, m_b2, m_rd, m_wr, m_get, m_put, nI_clamp, st_at, st_ne, up_at, up_ne, if_pos, if_neg]
      exact a2 s hs
  · intro s hs hl
    by_cases hsq : s = q
    · subst hsq
      rw [zL_at] at hl
      exact absurd rfl hl
    · rw [zL_ne hsq] at hl
      simp (disch := omega) only [m_n, m_b1, m_b2, m_rd, m_wr, m_get, m_put, nI_clamp, st_at, st_ne, up_at, up_ne, if_pos, if_neg, zL_es]
      exact a3 s hs hl
  · intro s hs
    simp (disch := omega) only [m_n, m_b1, m_b2, m_rd, m_wr, m_get, m_put, nI_clamp, st_at, st_ne, up_at, up_ne, if_pos, if_neg, zL_es]
    exact a4 s hs
  · intro s e hs hm
    simp (disch := omega) only [m_n, m_b1, m_b2, m_rd, m_wr, m_get, m_put, nI_clamp, st_at, st_ne, up_at, up_ne, if_pos, if_neg]
    exact a5 s e hs hm
  · intro c hc hX hno
    simp (disch := omega) only [m_n, m_b1, m_b2, m_rd, m_wr, m_get, m_put, nI_clamp, st_at, st_ne, up_at, up_ne, if_pos, if_neg]
    exact a6 c hc hX hno
  · simp (disch := omega) only [m_n, m_b1, m_b2, m_rd, m_wr, m_get, m_put, nI_clamp, st_at, st_ne, up_at, up_ne, if_pos, if_neg, zL_rt]
    exact a7
theorem zcx_root {T : zx_S} {t : ZT} {X : List Nat} {q : Nat} (h : zcx T t X) : zcx (zx_st T 10 (upd (T 10) 0 (nI (24 + q)))) (zR t q) X := by
  obtain ⟨a1, a2, a3, a4, a5, a6, a7⟩ := h
  refine ⟨?_, ?_, ?_, ?_, ?_, ?_, ?_⟩
  all_goals simp (disch := omega) only [m_n, m_b1, m_b2, m_rd, m_wr, m_get, m_put, nI_clamp, st_at, st_ne, up_at, up_ne, if_pos, if_neg]
  all_goals first | assumption | rfl
theorem zcx_keep {T T' : zx_S} {t : ZT} {X : List Nat} (h : zcx T t X) (h1 : T' 1 = T 1) (h2 : T' 2 = T 2) (h3 : T' 3 = T 3) (h4 : T' 4 = T 4) (h10 : T' 10 0 = T 10 0) : zcx T' t X := by
  obtain ⟨a1, a2, a3, a4, a5, a6, a7⟩ := h
  refine ⟨?_, ?_, ?_, ?_, ?_, ?_, ?_⟩
  · rw [h1]; exact a1
  · rw [h1]; exact a2
  · rw [h3]; exact a3
  · rw [h4]; exact a4
  · rw [h2]; exact a5
  · rw [h2]; exact a6
  · rw [h10]; exact a7
theorem zcx_more {T : zx_S} {t : ZT} {X Y : List Nat} (h : zcx T t X) (hs : ∀ c, c ∈ X → c ∈ Y) : zcx T t Y := by
  obtain ⟨a1, a2, a3, a4, a5, a6, a7⟩ := h
  exact ⟨a1, a2, a3, a4, a5, fun c hc hY hno => a6 c hc (fun z => hY (hs c z)) hno, a7⟩
/-! the reference's -/
theorem zref_frame {r r' : Nat → Int32} {t : ZT} {s : Nat} (h : zref r t) (hs : s < 32) (ho : ∀ j, (j < 120 + 8 * s + 1 ∨ 120 + 8 * s + 8 ≤ j) → r' j = r j) {l : List Nat} (h1 : r' (120 + 8 * s + 1) = nI l.length) (hz : zat r' (120 + 8 * s + 2) l) (h5 : ∀ j, (zes t j).length ≤ 5) : zref r' (zE t s l) := by
  obtain ⟨a1, a2, a3, a4, a5, a6⟩ := h
  refine ⟨?_, ?_, ?_, ?_, ?_, ?_⟩
  · intro i hi; rw [ho _ (by omega)]; exact a1 i hi
  · intro i k hi hk hp; rw [ho _ (by omega)]; exact a2 i k hi hk hp
  · intro j hj; rw [ho _ (by omega)]; exact a3 j hj
  · intro j hj
    by_cases hjs : j = s
    · subst hjs; rw [zE_at]; exact h1
    · rw [zE_ne hjs, ho _ (by omega)]; exact a4 j hj
  · intro j hj
    by_cases hjs : j = s
    · subst hjs; rw [zE_at]; exact hz
    · rw [zE_ne hjs]
      have := h5 j
      exact zat_congr (fun i z1 z2 => ho i (by omega)) (a5 j hj)
  · rw [ho _ (by omega)]; exact a6
theorem d_insert {N : Nat} (hN : 100 < N) {r : Nat → Int32} {t : ZT} {l m : List Nat} {s c : Nat} (h : zref r t) (h5 : ∀ j, (zes t j).length ≤ 5) (hs : s < 32) (he : zes t s = l ++ m) (hlen : (l ++ m).length < 6) :
    ∃ r', f_X3_insert N 380 (nI s) (nI l.length) (nI c) r = some r' ∧ zref r' (zE t s (l ++ c :: m)) ∧ (∀ j, 376 ≤ j → r' j = r j) := by
  have hz := h.2.2.2.2.1 s hs
  have hr := h.2.2.2.1 s hs
  rw [he] at hz hr
  obtain ⟨r', e, h1, h2, h3⟩ := r_insert (N := N) hN (c := c) hs hr hz hlen
  exact ⟨r', e, zref_frame h hs h3 h1 h2 h5, fun j hj => h3 j (by omega)⟩
theorem d_cutOut {N : Nat} (hN : 100 < N) {r : Nat → Int32} {t : ZT} {l m : List Nat} {s c : Nat} (h : zref r t) (hu : zuq t) (h5 : ∀ j, (zes t j).length ≤ 5) (h48 : ∀ j x, x ∈ zes t j → x < 48) (hs : s < 32) (he : zes t s = l ++ c :: m) :
    ∃ r', f_X3_cutOut N 380 (nI s) (nI c) r = some r' ∧ zref r' (zE t s (l ++ m)) ∧ (∀ j, 376 ≤ j → r' j = r j) := by
  have hz := h.2.2.2.2.1 s hs
  have hr := h.2.2.2.1 s hs
  have hl := h5 s
  obtain ⟨n1, n2⟩ := zuq_nd hu he
  have hc48 := h48 s c (by rw [he]; simp)
  rw [he] at hz hr hl
  obtain ⟨r', e, h1, h2, h3⟩ := r_cutOut (N := N) hN hs (by omega) hz n1 (fun x hx => by have := h48 s x (by rw [he]; simp [hx]); omega) (by omega) hr
  exact ⟨r', e, zref_frame h hs h3 h1 h2 h5, fun j hj => h3 j (by omega)⟩
theorem zref_slot {r r' : Nat → Int32} {t : ZT} {s v : Nat} (h : zref r t) (hs : s < 32) (he : zes t s = []) (ho : ∀ j, (j < 120 + 8 * s ∨ 120 + 8 * s + 8 ≤ j) → r' j = r j) (h0 : r' (120 + 8 * s) = nI v) (h1 : ∀ j, 120 + 8 * s < j → j < 120 + 8 * s + 8 → r' j = 0) (h5 : ∀ j, (zes t j).length ≤ 5) : zref r' (zL t s v) := by
  obtain ⟨a1, a2, a3, a4, a5, a6⟩ := h
  refine ⟨?_, ?_, ?_, ?_, ?_, ?_⟩
  · intro i hi; rw [ho _ (by omega)]; exact a1 i hi
  · intro i k hi hk hp; rw [ho _ (by omega)]; exact a2 i k hi hk hp
  · intro j hj
    by_cases hjs : j = s
    · subst hjs; rw [zL_at]; exact h0
    · rw [zL_ne hjs, ho _ (by omega)]; exact a3 j hj
  · intro j hj
    rw [zL_es]
    by_cases hjs : j = s
    · subst hjs; rw [h1 _ (by omega) (by omega), he]; rfl
    · rw [ho _ (by omega)]; exact a4 j hj
  · intro j hj
    rw [zL_es]
    by_cases hjs : j = s
    · subst hjs; rw [he]; trivial
    · have := h5 j
      exact zat_congr (fun i z1 z2 => ho i (by omega)) (a5 j hj)
  · rw [ho _ (by omega)]; exact a6
theorem d_new {N : Nat} (hN : 100 < N) {r : Nat → Int32} {t : ZT} {q v : Nat} (h : zref r t) (hlv : ∀ s, zlv t s ≤ 10) (h5 : ∀ j, (zes t j).length ≤ 5) (hq : zfree t q) (he : zes t q = []) :
    ∃ r', f_X3_newSlot N 380 (nI v) r = some (nI q, r') ∧ zref r' (zL t q (v + 1)) ∧ (∀ j, 376 ≤ j → r' j = r j) := by
  obtain ⟨q1, q2, q3⟩ := hq
  obtain ⟨r', e, h1, h2, h3⟩ := r_new (N := N) hN (r := r) v q (by omega) (by rw [h.2.2.1 q (by omega), q2]) (fun i hi => by
    have := q3 i hi
    have h10 := hlv i
    refine ⟨zlv t i - 1, ?_, by omega⟩
    rw [h.2.2.1 i (by omega)]
    congr 1
    omega)
  exact ⟨r', e, zref_slot h (by omega) he h3 h1 h2 h5, fun j hj => h3 j (by omega)⟩
/-- a slot is cleared: no entries, no level -/
theorem d_clear {N : Nat} (hN : 100 < N) {r : Nat → Int32} {t : ZT} {s : Nat} (h : zref r t) (h5 : ∀ j, (zes t j).length ≤ 5) (hs : s < 32) :
    ∃ r', f_X3_clearSlot N 380 (nI s) r = some r' ∧ zref r' (zL (zE t s []) s 0) ∧ (∀ j, 376 ≤ j → r' j = r j) := by
  obtain ⟨r', e, h1, h2⟩ := r_clear (N := N) hN (r := r) hs
  refine ⟨r', e, ?_, fun j hj => h2 j (by omega)⟩
  obtain ⟨a1, a2, a3, a4, a5, a6⟩ := h
  refine ⟨?_, ?_, ?_, ?_, ?_, ?_⟩
  · intro i hi; rw [h2 _ (by omega)]; exact a1 i hi
  · intro i k hi hk hp; rw [h2 _ (by omega)]; exact a2 i k hi hk hp
  · intro j hj
    by_cases hjs : j = s
    · subst hjs; rw [zL_at, h1 _ (by omega) (by omega)]; rfl
    · rw [zL_ne hjs, h2 _ (by omega)]; exact a3 j hj
  · intro j hj
    rw [zL_es]
    by_cases hjs : j = s
    · subst hjs; rw [zE_at, h1 _ (by omega) (by omega)]; rfl
    · rw [zE_ne hjs, h2 _ (by omega)]; exact a4 j hj
  · intro j hj
    rw [zL_es]
    by_cases hjs : j = s
    · subst hjs; rw [zE_at]; trivial
    · rw [zE_ne hjs]
      have := h5 j
      exact zat_congr (fun i z1 z2 => h2 i (by omega)) (a5 j hj)
  · rw [h2 _ (by omega)]; exact a6
theorem zref_root {r : Nat → Int32} {t : ZT} {q : Nat} (h : zref r t) (h5 : ∀ j, (zes t j).length ≤ 5) : zref (upd r 376 (nI q)) (zR t q) := by
  obtain ⟨a1, a2, a3, a4, a5, a6⟩ := h
  refine ⟨?_, ?_, ?_, ?_, ?_, ?_⟩
  · intro i hi; rw [up_ne (by omega)]; exact a1 i hi
  · intro i k hi hk hp; rw [up_ne (by omega)]; exact a2 i k hi hk hp
  · intro j hj; rw [up_ne (by omega)]; exact a3 j hj
  · intro j hj; rw [up_ne (by omega)]; exact a4 j hj
  · intro j hj
    have := h5 j
    exact zat_congr (fun i z1 z2 => up_ne (by rw [zR_es] at z2; omega)) (a5 j hj)
  · exact up_at
theorem zref_cnt {r : Nat → Int32} {t : ZT} {k : Nat} {x : Int32} (h : zref r t) (h5 : ∀ j, (zes t j).length ≤ 5) (hk : 376 < k) : zref (upd r k x) t := by
  obtain ⟨a1, a2, a3, a4, a5, a6⟩ := h
  refine ⟨?_, ?_, ?_, ?_, ?_, ?_⟩
  · intro i hi; rw [up_ne (by omega)]; exact a1 i hi
  · intro i k hi hk hp; rw [up_ne (by omega)]; exact a2 i k hi hk hp
  · intro j hj; rw [up_ne (by omega)]; exact a3 j hj
  · intro j hj; rw [up_ne (by omega)]; exact a4 j hj
  · intro j hj
    have := h5 j
    exact zat_congr (fun i z1 z2 => up_ne (by omega)) (a5 j hj)
  · rw [up_ne (by omega)]; exact a6
