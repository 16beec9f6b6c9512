/-! the nodes in their order -/
def zkd (t : ZT) (x : Nat) : List Nat := if zlv t x ≤ 1 then [] else (zes t x).map (fun e => e - 24)
def zdo_l (t : ZT) : Nat → List Nat → List Nat → List Nat
  | 0, vis, _ => vis
  | _ + 1, vis, [] => vis
  | n + 1, vis, x :: r => zdo_l t n (vis ++ [x]) (zkd t x ++ r)
def zdo (t : ZT) : List Nat := zdo_l t 24 [] [zrt t]
theorem zkd_ge {t : ZT} (ht : zb t) {x e : Nat} (h : ¬ zlv t x ≤ 1) (he : e ∈ zes t x) : 24 ≤ e := by
  rcases Nat.lt_or_ge e 24 with z | z
  · have h2 := (ht.1 x e he).2.1
    unfold zil at h2
    rw [if_pos z] at h2
    omega
  · exact z
theorem zkd_mem {t : ZT} (ht : zb t) {x c : Nat} : c ∈ zkd t x ↔ 24 + c ∈ zes t x := by
  unfold zkd
  refine ⟨fun h => ?_, fun h => ?_⟩
  · split at h
    · cases h
    · rename_i h0
      obtain ⟨e, he, hc⟩ := List.mem_map.mp h
      have := zkd_ge ht h0 he
      rw [show 24 + c = e by omega]; exact he
  · have h1 := ht.1 x _ h
    have h2 := h1.2.1
    unfold zil at h2
    rw [if_neg (by omega), Nat.add_sub_cancel_left] at h2
    have h3 := h1.2.2 (by omega)
    rw [Nat.add_sub_cancel_left] at h3
    rw [if_neg (by omega)]
    exact List.mem_map.mpr ⟨24 + c, h, by omega⟩
theorem zkd_nd {t : ZT} (ht : zb t) (hu : zuq t) {x : Nat} : (zkd t x).Nodup := by
  unfold zkd
  split
  · exact List.nodup_nil
  · rename_i h0
    refine List.pairwise_map.mpr (List.Pairwise.imp_of_mem (fun {a b} ha hb hab => ?_) (hu.1 x))
    have h1 := zkd_ge ht h0 ha
    have h2 := zkd_ge ht h0 hb
    intro e
    exact hab (by omega)
/-- visited, and waiting (the next first) -/
def zdf (t : ZT) (vis stk : List Nat) : Prop :=
  vis.Nodup ∧ stk.Nodup ∧ (∀ y, y ∈ vis → y ∉ stk) ∧ (∀ y, (y ∈ vis ∨ y ∈ stk) → zlv t y ≠ 0 ∧ (y = zrt t ∨ ∃ p, p ∈ vis ∧ 24 + y ∈ zes t p)) ∧ (∀ y, y ∈ vis → ∀ c, 24 + c ∈ zes t y → c ∈ vis ∨ c ∈ stk) ∧ (zrt t ∈ vis ∨ zrt t ∈ stk)
theorem zdf_len {t : ZT} (ht : zb t) {vis stk : List Nat} (h : zdf t vis stk) : vis.length + stk.length ≤ 24 := by
  have h1 : (vis ++ stk).Nodup := List.nodup_append.mpr ⟨h.1, h.2.1, fun a ha b hb e => h.2.2.1 a ha (e ▸ hb)⟩
  have h2 := zsub_len (m := List.range 24) h1 (fun x hx => List.mem_range.mpr (zb_lt ht (h.2.2.2.1 x (List.mem_append.mp hx)).1))
  rw [List.length_append, List.length_range] at h2
  exact h2
theorem zwf_root {t : ZT} {lo : List Nat} {ov un : Nat} (h : zwf t lo ov un) (s : Nat) : 24 + zrt t ∉ zes t s := by
  intro hs
  rcases (h.2.2.1 _).mp (Or.inr ⟨s, hs⟩) with z | z
  · omega
  · exact z.2.2.2 (by omega)
theorem zdf_step {t : ZT} (ht : zb t) (hw : zwf t [] 99 99) {vis r : List Nat} {x : Nat} (h : zdf t vis (x :: r)) : zdf t (vis ++ [x]) (zkd t x ++ r) := by
  obtain ⟨h1, h2, h3, h4, h5, h6⟩ := h
  have hu := hw.1
  have hxv : x ∉ vis := fun z => h3 x z (List.mem_cons_self ..)
  have hxr : x ∉ r := (List.nodup_cons.mp h2).1
  have hnew : ∀ c, c ∈ zkd t x → c ∉ vis ∧ c ≠ x ∧ c ∉ r := by
    intro c hc
    have hc2 := (zkd_mem ht).mp hc
    have key : ¬ (c ∈ vis ∨ c ∈ x :: r) := by
      intro z
      rcases (h4 c z).2 with e | ⟨p, hp, he⟩
      · rw [e] at hc2; exact zwf_root hw x hc2
      · have := hu.2 _ _ _ he hc2
        rw [this] at hp
        exact hxv hp
    exact ⟨fun z => key (Or.inl z), fun z => key (Or.inr (by rw [z]; exact List.mem_cons_self ..)), fun z => key (Or.inr (List.mem_cons_of_mem _ z))⟩
  refine ⟨?_, ?_, ?_, ?_, ?_, ?_⟩
  · exact List.nodup_append.mpr ⟨h1, by simp, fun a ha b hb e => by
      have : b = x := by simpa using hb
      rw [e, this] at ha
      exact hxv ha⟩
  · exact List.nodup_append.mpr ⟨zkd_nd ht hu, (List.nodup_cons.mp h2).2, fun a ha b hb e => (hnew a ha).2.2 (e ▸ hb)⟩
  · intro y hy z
    rcases List.mem_append.mp hy with hy | hy
    · rcases List.mem_append.mp z with z | z
      · exact (hnew y z).1 hy
      · exact h3 y hy (List.mem_cons_of_mem _ z)
    · have hyx : y = x := by simpa using hy
      rw [hyx] at z
      rcases List.mem_append.mp z with z | z
      · exact (hnew x z).2.1 rfl
      · exact hxr z
  · intro y hy
    have hold : ∀ y, (y ∈ vis ∨ y ∈ x :: r) → zlv t y ≠ 0 ∧ (y = zrt t ∨ ∃ p, p ∈ vis ++ [x] ∧ 24 + y ∈ zes t p) := by
      intro y hy
      obtain ⟨a, b⟩ := h4 y hy
      exact ⟨a, b.imp id fun ⟨p, hp, he⟩ => ⟨p, List.mem_append_left _ hp, he⟩⟩
    rcases hy with hy | hy
    · rcases List.mem_append.mp hy with hy | hy
      · exact hold y (Or.inl hy)
      · have hyx : y = x := by simpa using hy
        rw [hyx]
        exact hold x (Or.inr (List.mem_cons_self ..))
    · rcases List.mem_append.mp hy with hy | hy
      · have hc2 := (zkd_mem ht).mp hy
        have h7 := (ht.1 x _ hc2).2.2 (by omega)
        rw [Nat.add_sub_cancel_left] at h7
        exact ⟨h7, Or.inr ⟨x, List.mem_append_right _ (by simp), hc2⟩⟩
      · exact hold y (Or.inr (List.mem_cons_of_mem _ hy))
  · intro y hy c hc
    rcases List.mem_append.mp hy with hy | hy
    · rcases h5 y hy c hc with z | z
      · exact Or.inl (List.mem_append_left _ z)
      · rcases List.mem_cons.mp z with z | z
        · exact Or.inl (List.mem_append_right _ (by rw [z]; simp))
        · exact Or.inr (List.mem_append_right _ z)
    · have hyx : y = x := by simpa using hy
      rw [hyx] at hc
      exact Or.inr (List.mem_append_left _ ((zkd_mem ht).mpr hc))
  · rcases h6 with z | z
    · exact Or.inl (List.mem_append_left _ z)
    · rcases List.mem_cons.mp z with z | z
      · exact Or.inl (List.mem_append_right _ (by rw [z]; simp))
      · exact Or.inr (List.mem_append_right _ z)
theorem zdo_spec {t : ZT} (ht : zb t) (hw : zwf t [] 99 99) : ∀ (n : Nat) (vis stk : List Nat), zdf t vis stk → vis.length + n = 24 → zdf t (zdo_l t n vis stk) []
  | 0, vis, stk, h, hn => by
    have h1 := zdf_len ht h
    have h2 : stk = [] := List.eq_nil_of_length_eq_zero (by omega)
    rw [h2] at h
    rw [h2, zdo_l]
    exact h
  | n + 1, vis, [], h, hn => by rw [zdo_l]; exact h
  | n + 1, vis, x :: r, h, hn => by
    rw [zdo_l]
    exact zdo_spec ht hw n _ _ (zdf_step ht hw h) (by rw [List.length_append]; simp; omega)
theorem zdf_init {t : ZT} (hw : zwf t [] 99 99) : zdf t [] [zrt t] := by
  refine ⟨List.nodup_nil, by simp, fun y hy => absurd hy (List.not_mem_nil), fun y hy => ?_, fun y hy => absurd hy (List.not_mem_nil), Or.inr (by simp)⟩
  rcases hy with hy | hy
  · cases hy
  · have : y = zrt t := by simpa using hy
    rw [this]
    exact ⟨hw.2.2.2.2.2.2.1.2, Or.inl rfl⟩
theorem zdo_df {t : ZT} (hw : zwf t [] 99 99) : zdf t (zdo t) [] := by
  have hR := zwf_lv hw (by decide)
  exact zdo_spec (zwf_zb hw (by omega)) hw 24 [] [zrt t] (zdf_init hw) rfl
theorem zdo_nd {t : ZT} (hw : zwf t [] 99 99) : (zdo t).Nodup := (zdo_df hw).1
theorem zdo_all {t : ZT} (hw : zwf t [] 99 99) {vis : List Nat} (h : zdf t vis []) (ht : zb t) : ∀ (d y : Nat), zlv t y + d = 7 → zlv t y ≠ 0 → y ∈ vis
  | d, y, hd, h0 => by
    by_cases hr : y = zrt t
    · rw [hr]
      exact h.2.2.2.2.2.resolve_right (by simp)
    · have hy := zb_lt ht h0
      rcases (hw.2.2.1 (24 + y)).mpr (Or.inr ⟨by omega, by omega, by rw [Nat.add_sub_cancel_left]; exact h0, by rw [Nat.add_sub_cancel_left]; exact hr⟩) with z | ⟨p, hp⟩
      · cases z
      · have h1 := (ht.1 p _ hp).2.1
        unfold zil at h1
        rw [if_neg (by omega), Nat.add_sub_cancel_left] at h1
        have h2 := ht.2.2.2.2 p
        match d, hd with
        | 0, hd => omega
        | d + 1, hd =>
          have := zdo_all hw h ht d p (by omega) (by omega)
          exact (h.2.2.2.2.1 p this y hp).resolve_right (by simp)
theorem zdo_mem {t : ZT} (hw : zwf t [] 99 99) {y : Nat} : y ∈ zdo t ↔ zlv t y ≠ 0 := by
  have hR := zwf_lv hw (by decide)
  have ht := zwf_zb hw (by omega)
  refine ⟨fun h => ((zdo_df hw).2.2.2.1 y (Or.inl h)).1, fun h => ?_⟩
  have := ht.2.2.2.2 y
  exact zdo_all hw (zdo_df hw) ht (7 - zlv t y) y (by omega) h
theorem zdo_lt {t : ZT} (hw : zwf t [] 99 99) {y : Nat} (h : y ∈ zdo t) : y < 24 := by
  have hR := zwf_lv hw (by decide)
  exact zb_lt (zwf_zb hw (by omega)) ((zdo_mem hw).mp h)
theorem zdo_len {t : ZT} (hw : zwf t [] 99 99) : (zdo t).length = znd t 32 := by
  rw [znd_zlc hw.2.2.2.2.2.1]
  refine Nat.le_antisymm (zsub_len (zdo_nd hw) fun x hx => zlc_mem.mpr ⟨zdo_lt hw hx, (zdo_mem hw).mp hx⟩) (zsub_len zlc_nd fun x hx => (zdo_mem hw).mpr (zlc_mem.mp hx).2)
theorem zdo_le {t : ZT} (hw : zwf t [] 99 99) : (zdo t).length ≤ 24 := by
  have hR := zwf_lv hw (by decide)
  exact zdf_len (zwf_zb hw (by omega)) (zdo_df hw)
theorem zdo_pre {t : ZT} : ∀ (n : Nat) (vis stk : List Nat), ∃ u, zdo_l t n vis stk = vis ++ u
  | 0, vis, _ => ⟨[], by rw [zdo_l, List.append_nil]⟩
  | _ + 1, vis, [] => ⟨[], by rw [zdo_l, List.append_nil]⟩
  | n + 1, vis, x :: r => by
    obtain ⟨u, e⟩ := zdo_pre (t := t) n (vis ++ [x]) (zkd t x ++ r)
    exact ⟨x :: u, by rw [zdo_l, e, List.append_assoc]; rfl⟩
theorem zdo_0 {t : ZT} : ∃ u, zdo t = zrt t :: u := by
  obtain ⟨u, e⟩ := zdo_pre (t := t) 23 ([] ++ [zrt t]) (zkd t (zrt t) ++ [])
  exact ⟨u, by unfold zdo; rw [zdo_l, e]; rfl⟩
/-- the place below k -/
def zix (k : Nat) : Int32 := if k = 0 then zM1 else nI (k - 1)
theorem zix_0 : zix 0 = zM1 := rfl
theorem zix_s {k : Nat} : zix (k + 1) = nI k := rfl
theorem zix_dec {k : Nat} : nI k + zM1 = zix k := by
  match k with
  | 0 => decide
  | k + 1 => exact zi_dec (by omega)
theorem zix_sub {k : Nat} : nI k - nI 1 = zix k := by
  match k with
  | 0 => decide
  | k + 1 => rw [zi_sub (by omega)]; rfl
theorem zM1_lt : (zM1 < nI 0) = True := eq_true (by decide)
theorem m_push {N x : Nat} (hx : x < 24) {K : Int32 → Int32 → Int32 → zx_S → Option (Int32 × zx_S)} {v1 v3 : Int32} : ∀ (k n : Nat) (l m st : List Nat) (T : zx_S), l.length = k → k < n → k ≤ 5 → zat (T 4) (5 * (24 + x)) (l ++ m) → st.length + k ≤ 24 → zat (T 9) 0 st →
    ∃ T', f_X1_countNodes_l79 N K n v1 (nI st.length) v3 (nI (24 + x)) (zix k) T = f_X1_countNodes_j115 N K v1 (nI (st.length + k)) v3 T' ∧ zfr [9] T T' ∧ zat (T' 9) 0 (st ++ l.reverse)
  | 0, n + 1, l, m, st, T, hl, hn, hk, h4, hs, h9 => by
    obtain rfl : l = [] := List.eq_nil_of_length_eq_zero hl
    refine ⟨T, ?_, zfr_refl, by simpa using h9⟩
    rw [f_X1_countNodes_l79, zix_0, zl0, if_pos (by decide)]
    rfl
  | k + 1, n + 1, l, m, st, T, hl, hn, hk, h4, hs, h9 => by
    obtain ⟨l', c, rfl⟩ : ∃ l' c, l = l' ++ [c] := by
      rcases List.eq_nil_or_concat l with e | ⟨l', c, e⟩
      · rw [e] at hl; cases hl
      · exact ⟨l', c, by rw [e, List.concat_eq_append]⟩
    have hl' : l'.length = k := by simpa using hl
    have hg : T 4 (5 * (24 + x) + k) = nI c := by
      have := zat_get (k := k) h4 (by simp; omega)
      rw [this, ← hl']
      simp
    obtain ⟨T1, eT1⟩ : ∃ T1, T1 = zx_st T 9 (upd (T 9) st.length (nI c)) := ⟨_, rfl⟩
    have hT4 : T1 4 = T 4 := by rw [eT1, st_ne (by decide)]
    have hT9 : zat (T1 9) 0 (st ++ [c]) := by
      rw [eT1, st_at]
      refine zat_app.mpr ⟨zat_congr (fun j h1 h2 => up_ne (by omega)) h9, ?_, trivial⟩
      rw [Nat.zero_add, up_at]
    obtain ⟨T', e, f, g⟩ := m_push (N := N) hx (K := K) (v1 := v1) (v3 := v3) k n l' (c :: m) (st ++ [c]) T1 hl' (by omega) (by omega) (by rw [hT4]; rw [List.append_assoc] at h4; exact h4) (by simp; omega) hT9
    refine ⟨T', ?_, zfr_trans (T1 := T1) (by rw [eT1]; exact zfr_st (by simp) zfr_refl) f, by rw [List.reverse_append]; simpa using g⟩
    rw [f_X1_countNodes_l79, zix_s]
    simp (disch := omega) only [↓zlm1, ↓zlm2, zi_e1, zi_e2, zi_1e, zi_12, zi_21, zi_1n, zi_n1, if_true, if_false, eq_self, not_false_eq_true, not_true_eq_false, nI_add, zi_4m, zi_5m, zi_8m, zi_mul4, zi_mul5, zi_sub, nI_leI, nI_ltI, nI_eq, zl0, zl1, zl2, zl3, zl4, zl5, zl6, zl8, zl9, zl24, zl32, zl48, zl49, zl99, zl100, zl120, zl376, zl377, zl378, zl379, zl380, ↓zi_192, zi_dec, Nat.add_zero, Nat.zero_add, m_n, m_b1, m_b2, m_rd, m_wr, m_get, m_put, nI_clamp, st_at, st_ne, up_at, up_ne, if_pos, if_neg, hg, zix_dec]
    rw [← eT1]
    rw [List.length_append] at e
    simp only [List.length_cons, List.length_nil, Nat.zero_add] at e
    rw [e]
    rw [show st.length + 1 + k = st.length + (k + 1) by omega]
theorem zat_map {f : Nat → Int32} {g : Nat → Nat} : ∀ {l : List Nat} {b k : Nat}, zat f b (l.map g) → k < l.length → f (b + k) = nI (g (l.getD k 0))
  | [], b, k, _, h => absurd h (Nat.not_lt_zero _)
  | c :: l, b, 0, h, _ => h.1
  | c :: l, b, k + 1, h, hk => by
    have := zat_map (l := l) (b := b + 1) (k := k) h.2 (by simpa using hk)
    rw [show b + (k + 1) = b + 1 + k by omega, this]
    rfl
theorem zrev_map {t : ZT} (ht : zb t) {x : Nat} (h : ¬ zlv t x ≤ 1) : (zkd t x).map (fun s => 24 + s) = zes t x := by
  unfold zkd
  rw [if_neg h, List.map_map]
  refine (List.map_congr_left fun e he => ?_).trans (List.map_id' _)
  have := zkd_ge ht h he
  show 24 + (e - 24) = e
  omega
theorem m_dfs_l {N : Nat} (hN : 100 < N) {t : ZT} (ht : zb t) (hw : zwf t [] 99 99) : ∀ (d n : Nat) (vis stk : List Nat) (T : zx_S), vis.length + d = 24 → d < n → zdf t vis stk → zcx T t [] → zat (T 8) 0 (vis.map (fun s => 24 + s)) → zat (T 9) 0 (stk.reverse.map (fun s => 24 + s)) →
    ∃ T', f_X1_countNodes_l18 N n (nI vis.length) (nI stk.length) (nI vis.length) T = some (nI (zdo_l t d vis stk).length, T') ∧ zat (T' 8) 0 ((zdo_l t d vis stk).map (fun s => 24 + s)) ∧ zfr [8, 9] T T'
  | 0, n + 1, vis, stk, T, hv, hn, hd, hT, h8, h9 => by
    refine ⟨T, ?_, by rw [zdo_l]; exact h8, zfr_refl⟩
    rw [f_X1_countNodes_l18, zdo_l]
    simp (disch := omega) only [↓zlm1, ↓zlm2, zi_e1, zi_e2, zi_1e, zi_12, zi_21, zi_1n, zi_n1, if_true, if_false, eq_self, not_false_eq_true, not_true_eq_false, nI_add, zi_4m, zi_5m, zi_8m, zi_mul4, zi_mul5, zi_sub, nI_leI, nI_ltI, nI_eq, zl0, zl1, zl2, zl3, zl4, zl5, zl6, zl8, zl9, zl24, zl32, zl48, zl49, zl99, zl100, zl120, zl376, zl377, zl378, zl379, zl380, ↓zi_192, zi_dec, Nat.add_zero, Nat.zero_add, m_n, m_b1, m_b2, m_rd, m_wr, m_get, m_put, nI_clamp, st_at, st_ne, up_at, up_ne, if_pos, if_neg]
  | d + 1, n + 1, vis, [], T, hv, hn, hd, hT, h8, h9 => by
    refine ⟨T, ?_, by rw [zdo_l]; exact h8, zfr_refl⟩
    rw [f_X1_countNodes_l18, zdo_l, List.length_nil]
    simp (disch := omega) only [↓zlm1, ↓zlm2, zi_e1, zi_e2, zi_1e, zi_12, zi_21, zi_1n, zi_n1, if_true, if_false, eq_self, not_false_eq_true, not_true_eq_false, nI_add, zi_4m, zi_5m, zi_8m, zi_mul4, zi_mul5, zi_sub, nI_leI, nI_ltI, nI_eq, zl0, zl1, zl2, zl3, zl4, zl5, zl6, zl8, zl9, zl24, zl32, zl48, zl49, zl99, zl100, zl120, zl376, zl377, zl378, zl379, zl380, ↓zi_192, zi_dec, Nat.add_zero, Nat.zero_add, m_n, m_b1, m_b2, m_rd, m_wr, m_get, m_put, nI_clamp, st_at, st_ne, up_at, up_ne, if_pos, if_neg]
  | d + 1, n + 1, vis, x :: r, T, hv, hn, hd, hT, h8, h9 => by
    have hlen := zdf_len ht hd
    rw [List.length_cons] at hlen
    have hd2 := zdf_step ht hw hd
    have hlen2 := zdf_len ht hd2
    have hx0 := (hd.2.2.2.1 x (Or.inr (List.mem_cons_self ..))).1
    have hx := zb_lt ht hx0
    have h1 := hT.2.1 x hx
    rw [if_neg hx0] at h1
    have h3 := hT.2.2.1 x hx hx0
    have h6 := ht.2.2.2.2 x
    rw [List.reverse_cons, List.map_append] at h9
    have h9a := zat_app.mp h9
    have htop : T 9 r.length = nI (24 + x) := by
      have := h9a.2.1
      rw [List.length_map, List.length_reverse, Nat.zero_add] at this
      exact this
    obtain ⟨T1, eT1⟩ : ∃ T1, T1 = zx_st T 8 (upd (T 8) vis.length (nI (24 + x))) := ⟨_, rfl⟩
    have f1 : zfr [8, 9] T T1 := by rw [eT1]; exact zfr_st (by simp) zfr_refl
    have hT1 : zcx T1 t [] := zcx_keep hT (f1 1 (by decide)) (f1 2 (by decide)) (f1 3 (by decide)) (f1 4 (by decide)) (by rw [f1 10 (by decide)])
    have h18 : zat (T1 8) 0 ((vis ++ [x]).map (fun s => 24 + s)) := by
      rw [eT1, st_at, List.map_append]
      refine zat_app.mpr ⟨zat_congr (fun j h1 h2 => up_ne (by rw [List.length_map] at h2; omega)) h8, ?_, trivial⟩
      rw [List.length_map, Nat.zero_add, up_at]
    have h19 : T1 9 = T 9 := by rw [eT1, st_ne (by decide)]
    have hT11 : T1 1 = T 1 := f1 1 (by decide)
    have hT13 : T1 3 = T 3 := f1 3 (by decide)
    have hvl : (vis ++ [x]).length = vis.length + 1 := by simp
    by_cases hl : zlv t x ≤ 1
    · have hk : zkd t x = [] := by unfold zkd; rw [if_pos hl]
      rw [hk, List.nil_append] at hd2
      obtain ⟨T', e, g, f⟩ := m_dfs_l hN ht hw d n (vis ++ [x]) r T1 (by rw [hvl]; omega) (by omega) hd2 hT1 h18 (by rw [h19]; exact h9a.1)
      rw [zdo_l, hk, List.nil_append]
      refine ⟨T', ?_, g, zfr_trans f1 f⟩
      rw [hvl] at e
      rw [f_X1_countNodes_l18, List.length_cons]
      simp (disch := omega) only [↓zlm1, ↓zlm2, zi_e1, zi_e2, zi_1e, zi_12, zi_21, zi_1n, zi_n1, if_true, if_false, eq_self, not_false_eq_true, not_true_eq_false, nI_add, zi_4m, zi_5m, zi_8m, zi_mul4, zi_mul5, zi_sub, nI_leI, nI_ltI, nI_eq, zl0, zl1, zl2, zl3, zl4, zl5, zl6, zl8, zl9, zl24, zl32, zl48, zl49, zl99, zl100, zl120, zl376, zl377, zl378, zl379, zl380, ↓zi_192, zi_dec, Nat.add_zero, Nat.zero_add, m_n, m_b1, m_b2, m_rd, m_wr, m_get, m_put, nI_clamp, st_at, st_ne, up_at, up_ne, if_pos, if_neg, htop, Nat.add_sub_cancel]
      rw [← eT1, h1]
      unfold f_X1_countNodes_j115
      simp (disch := omega) only [↓zlm1, ↓zlm2, zi_e1, zi_e2, zi_1e, zi_12, zi_21, zi_1n, zi_n1, if_true, if_false, eq_self, not_false_eq_true, not_true_eq_false, nI_add, zi_4m, zi_5m, zi_8m, zi_mul4, zi_mul5, zi_sub, nI_leI, nI_ltI, nI_eq, zl0, zl1, zl2, zl3, zl4, zl5, zl6, zl8, zl9, zl24, zl32, zl48, zl49, zl99, zl100, zl120, zl376, zl377, zl378, zl379, zl380, ↓zi_192, zi_dec, Nat.add_zero, Nat.zero_add, m_n, m_b1, m_b2, m_rd, m_wr, m_get, m_put, nI_clamp, st_at, st_ne, up_at, up_ne, if_pos, if_neg]
      exact e
    · have h4 := hT1.2.2.2.1 x hx
      have hk := zrev_map ht hl
      have hkl : (zkd t x).length = (zes t x).length := by rw [← hk, List.length_map]
      have h5 := ht.2.2.2.1 x
      rw [List.length_append, List.length_append, hkl] at hlen2
      simp only [List.length_cons, List.length_nil, Nat.zero_add] at hlen2
      have hrl : (r.reverse.map (fun s => 24 + s)).length = r.length := by simp
      obtain ⟨T2, e2, f2, g2⟩ := m_push (N := N) hx (K := f_X1_countNodes_l18 N n) (v1 := nI (vis.length + 1)) (v3 := nI vis.length) (zes t x).length N (zes t x) [] (r.reverse.map (fun s => 24 + s)) T1 rfl (by omega) h5 (by rw [List.append_nil]; exact h4) (by rw [hrl]; omega) (by rw [h19]; exact h9a.1)
      rw [hrl] at e2
      have hT2 : zcx T2 t [] := zcx_keep hT1 (f2 1 (by decide)) (f2 2 (by decide)) (f2 3 (by decide)) (f2 4 (by decide)) (by rw [f2 10 (by decide)])
      obtain ⟨T', e, g, f⟩ := m_dfs_l hN ht hw d n (vis ++ [x]) (zkd t x ++ r) T2 (by rw [hvl]; omega) (by omega) hd2 hT2 (by rw [f2 8 (by decide)]; exact h18) (by
        rw [List.reverse_append, List.map_append, List.map_reverse (l := zkd t x), hk]
        exact g2)
      rw [zdo_l]
      refine ⟨T', ?_, g, zfr_trans f1 (zfr_trans (zfr_sub f2 (by decide)) f)⟩
      rw [hvl, List.length_append, hkl] at e
      rw [f_X1_countNodes_l18, List.length_cons]
      simp (disch := omega) only [↓zlm1, ↓zlm2, zi_e1, zi_e2, zi_1e, zi_12, zi_21, zi_1n, zi_n1, if_true, if_false, eq_self, not_false_eq_true, not_true_eq_false, nI_add, zi_4m, zi_5m, zi_8m, zi_mul4, zi_mul5, zi_sub, nI_leI, nI_ltI, nI_eq, zl0, zl1, zl2, zl3, zl4, zl5, zl6, zl8, zl9, zl24, zl32, zl48, zl49, zl99, zl100, zl120, zl376, zl377, zl378, zl379, zl380, ↓zi_192, zi_dec, Nat.add_zero, Nat.zero_add, m_n, m_b1, m_b2, m_rd, m_wr, m_get, m_put, nI_clamp, st_at, st_ne, up_at, up_ne, if_pos, if_neg, htop, Nat.add_sub_cancel]
      rw [← eT1, h1, h3]
      simp (disch := omega) only [↓zlm1, ↓zlm2, zi_e1, zi_e2, zi_1e, zi_12, zi_21, zi_1n, zi_n1, if_true, if_false, eq_self, not_false_eq_true, not_true_eq_false, nI_add, zi_4m, zi_5m, zi_8m, zi_mul4, zi_mul5, zi_sub, nI_leI, nI_ltI, nI_eq, zl0, zl1, zl2, zl3, zl4, zl5, zl6, zl8, zl9, zl24, zl32, zl48, zl49, zl99, zl100, zl120, zl376, zl377, zl378, zl379, zl380, ↓zi_192, zi_dec, Nat.add_zero, Nat.zero_add, m_n, m_b1, m_b2, m_rd, m_wr, m_get, m_put, nI_clamp, st_at, st_ne, up_at, up_ne, if_pos, if_neg, zix_sub]
      rw [e2]
      unfold f_X1_countNodes_j115
      simp (disch := omega) only [↓zlm1, ↓zlm2, zi_e1, zi_e2, zi_1e, zi_12, zi_21, zi_1n, zi_n1, if_true, if_false, eq_self, not_false_eq_true, not_true_eq_false, nI_add, zi_4m, zi_5m, zi_8m, zi_mul4, zi_mul5, zi_sub, nI_leI, nI_ltI, nI_eq, zl0, zl1, zl2, zl3, zl4, zl5, zl6, zl8, zl9, zl24, zl32, zl48, zl49, zl99, zl100, zl120, zl376, zl377, zl378, zl379, zl380, ↓zi_192, zi_dec, Nat.add_zero, Nat.zero_add, m_n, m_b1, m_b2, m_rd, m_wr, m_get, m_put, nI_clamp, st_at, st_ne, up_at, up_ne, if_pos, if_neg]
      rw [Nat.add_comm r.length]
      exact e
theorem m_nodes {N : Nat} (hN : 100 < N) {T : zx_S} {t : ZT} (hT : zcx T t []) (hw : zwf t [] 99 99) : ∃ T', f_X1_countNodes N T = some (nI (zdo t).length, T') ∧ zat (T' 8) 0 ((zdo t).map (fun s => 24 + s)) ∧ zfr [8, 9] T T' := by
  have hR := zwf_lv hw (by decide)
  have ht := zwf_zb hw (by omega)
  obtain ⟨T1, eT1⟩ : ∃ T1, T1 = zx_st T 9 (upd (T 9) 0 (nI (24 + zrt t))) := ⟨_, rfl⟩
  have f1 : zfr [8, 9] T T1 := by rw [eT1]; exact zfr_st (by simp) zfr_refl
  have hT1 : zcx T1 t [] := zcx_keep hT (f1 1 (by decide)) (f1 2 (by decide)) (f1 3 (by decide)) (f1 4 (by decide)) (by rw [f1 10 (by decide)])
  obtain ⟨T', e, g, f⟩ := m_dfs_l hN ht hw 24 N [] [zrt t] T1 rfl (by omega) (zdf_init hw) hT1 trivial ⟨by rw [eT1, st_at, up_at], trivial⟩
  refine ⟨T', ?_, g, zfr_trans f1 f⟩
  have hroot : T 10 0 = nI (24 + zrt t) := hT.2.2.2.2.2.2
  unfold f_X1_countNodes
  simp (disch := omega) only [↓zlm1, ↓zlm2, zi_e1, zi_e2, zi_1e, zi_12, zi_21, zi_1n, zi_n1, if_true, if_false, eq_self, not_false_eq_true, not_true_eq_false, nI_add, zi_4m, zi_5m, zi_8m, zi_mul4, zi_mul5, zi_sub, nI_leI, nI_ltI, nI_eq, zl0, zl1, zl2, zl3, zl4, zl5, zl6, zl8, zl9, zl24, zl32, zl48, zl49, zl99, zl100, zl120, zl376, zl377, zl378, zl379, zl380, ↓zi_192, zi_dec, Nat.add_zero, Nat.zero_add, m_n, m_b1, m_b2, m_rd, m_wr, m_get, m_put, nI_clamp, st_at, st_ne, up_at, up_ne, if_pos, if_neg, hroot]
  rw [← eT1]
  exact e
/-- the reference's -/
theorem r_push {N w x : Nat} (hx : x < 24) (hw : w ≠ 11) {K : Int32 → Int32 → zx_S → Option (Int32 × zx_S)} {v2 : Int32} {v : Nat} (hv : 1 < v) (hv2 : v < 100) : ∀ (k n : Nat) (l m st : List Nat) (S : zx_S), l.length = k → k < n → k ≤ 5 → (∀ e, e ∈ l → 24 ≤ e) → zat (S w) (120 + 8 * x + 2) (l ++ m) → S w (120 + 8 * x) = nI v → st.length + k ≤ 24 → zat (S 11) 0 st →
    ∃ S', f_X3_numberNodes_l59 N w K n v2 (nI st.length) (nI x) (zix k) S = K v2 (nI (st.length + k)) S' ∧ zfr [11] S S' ∧ zat (S' 11) 0 (st ++ (l.map (fun e => e - 24)).reverse)
  | 0, n + 1, l, m, st, S, hl, hn, hk, h24, h4, hlv, hs, h9 => by
    obtain rfl : l = [] := List.eq_nil_of_length_eq_zero hl
    refine ⟨S, ?_, zfr_refl, by simpa using h9⟩
    rw [f_X3_numberNodes_l59, zix_0, zl0, if_pos (by decide)]
    rfl
  | k + 1, n + 1, l, m, st, S, hl, hn, hk, h24, h4, hlv, hs, h9 => by
    obtain ⟨l', c, rfl⟩ : ∃ l' c, l = l' ++ [c] := by
      rcases List.eq_nil_or_concat l with e | ⟨l', c, e⟩
      · rw [e] at hl; cases hl
      · exact ⟨l', c, by rw [e, List.concat_eq_append]⟩
    have hl' : l'.length = k := by simpa using hl
    have hg : S w (120 + 8 * x + 2 + k) = nI c := by
      have := zat_get (k := k) h4 (by simp; omega)
      rw [this, ← hl']
      simp
    have hc24 : 24 ≤ c := h24 c (by simp)
    have hlo := r_levelOf (N := N) (r := S w) (s := x) (v := v) (by omega) hlv (by omega)
    obtain ⟨S1, eS1⟩ : ∃ S1, S1 = zx_st S 11 (upd (S 11) st.length (nI (c - 24))) := ⟨_, rfl⟩
    have hSw : S1 w = S w := by rw [eS1, st_ne hw]
    have hS11 : zat (S1 11) 0 (st ++ [c - 24]) := by
      rw [eS1, st_at]
      refine zat_app.mpr ⟨zat_congr (fun j h1 h2 => up_ne (by omega)) h9, ?_, trivial⟩
      rw [Nat.zero_add, up_at]
    obtain ⟨S', e, f, g⟩ := r_push (N := N) hx hw (K := K) (v2 := v2) hv hv2 k n l' (c :: m) (st ++ [c - 24]) S1 hl' (by omega) (by omega) (fun e he => h24 e (by simp [he])) (by rw [hSw]; rw [List.append_assoc] at h4; exact h4) (by rw [hSw]; exact hlv) (by simp; omega) hS11
    refine ⟨S', ?_, zfr_trans (T1 := S1) (by rw [eS1]; exact zfr_st (by simp) zfr_refl) f, by rw [List.map_append, List.reverse_append]; simpa using g⟩
    rw [f_X3_numberNodes_l59, zix_s]
    simp (disch := omega) only [↓zlm1, ↓zlm2, zi_e1, zi_e2, zi_1e, zi_12, zi_21, zi_1n, zi_n1, if_true, if_false, eq_self, not_false_eq_true, not_true_eq_false, nI_add, zi_4m, zi_5m, zi_8m, zi_mul4, zi_mul5, zi_sub, nI_leI, nI_ltI, nI_eq, zl0, zl1, zl2, zl3, zl4, zl5, zl6, zl8, zl9, zl24, zl32, zl48, zl49, zl99, zl100, zl120, zl376, zl377, zl378, zl379, zl380, ↓zi_192, zi_dec, Nat.add_zero, Nat.zero_add, m_n, m_b1, m_b2, m_rd, m_wr, m_get, m_put, nI_clamp, st_at, st_ne, up_at, up_ne, if_pos, if_neg, hlo, r_entryOf, hg, zix_dec]
    rw [← eS1]
    rw [List.length_append] at e
    simp only [List.length_cons, List.length_nil, Nat.zero_add] at e
    rw [e]
    rw [show st.length + 1 + k = st.length + (k + 1) by omega]
theorem r_dfs_l {N w : Nat} (hN : 100 < N) (hw9 : w ≠ 9) (hw10 : w ≠ 10) (hw11 : w ≠ 11) {t : ZT} (ht : zb t) (hw : zwf t [] 99 99) : ∀ (d n : Nat) (vis stk : List Nat) (S : zx_S), vis.length + d = 24 → d < n → zdf t vis stk → zref (S w) t → zat (S 10) 0 vis → (∀ j, j < vis.length → S 9 (vis.getD j 0) = nI j) → zat (S 11) 0 stk.reverse →
    ∃ S', f_X3_numberNodes_l15 N w n (nI vis.length) (nI stk.length) S = some (nI (zdo_l t d vis stk).length, S') ∧ zat (S' 10) 0 (zdo_l t d vis stk) ∧ (∀ j, j < (zdo_l t d vis stk).length → S' 9 ((zdo_l t d vis stk).getD j 0) = nI j) ∧ zfr [9, 10, 11] S S'
  | 0, n + 1, vis, stk, S, hv, hn, hd, hr, h10, h9, h11 => by
    have h1 := zdf_len ht hd
    obtain rfl : stk = [] := List.eq_nil_of_length_eq_zero (by omega)
    rw [zdo_l]
    refine ⟨S, ?_, h10, h9, zfr_refl⟩
    rw [f_X3_numberNodes_l15, List.length_nil]
    simp (disch := omega) only [↓zlm1, ↓zlm2, zi_e1, zi_e2, zi_1e, zi_12, zi_21, zi_1n, zi_n1, if_true, if_false, eq_self, not_false_eq_true, not_true_eq_false, nI_add, zi_4m, zi_5m, zi_8m, zi_mul4, zi_mul5, zi_sub, nI_leI, nI_ltI, nI_eq, zl0, zl1, zl2, zl3, zl4, zl5, zl6, zl8, zl9, zl24, zl32, zl48, zl49, zl99, zl100, zl120, zl376, zl377, zl378, zl379, zl380, ↓zi_192, zi_dec, Nat.add_zero, Nat.zero_add, m_n, m_b1, m_b2, m_rd, m_wr, m_get, m_put, nI_clamp, st_at, st_ne, up_at, up_ne, if_pos, if_neg]
  | d + 1, n + 1, vis, [], S, hv, hn, hd, hr, h10, h9, h11 => by
    rw [zdo_l]
    refine ⟨S, ?_, h10, h9, zfr_refl⟩
    rw [f_X3_numberNodes_l15, List.length_nil]
    simp (disch := omega) only [↓zlm1, ↓zlm2, zi_e1, zi_e2, zi_1e, zi_12, zi_21, zi_1n, zi_n1, if_true, if_false, eq_self, not_false_eq_true, not_true_eq_false, nI_add, zi_4m, zi_5m, zi_8m, zi_mul4, zi_mul5, zi_sub, nI_leI, nI_ltI, nI_eq, zl0, zl1, zl2, zl3, zl4, zl5, zl6, zl8, zl9, zl24, zl32, zl48, zl49, zl99, zl100, zl120, zl376, zl377, zl378, zl379, zl380, ↓zi_192, zi_dec, Nat.add_zero, Nat.zero_add, m_n, m_b1, m_b2, m_rd, m_wr, m_get, m_put, nI_clamp, st_at, st_ne, up_at, up_ne, if_pos, if_neg]
  | d + 1, n + 1, vis, x :: r, S, hv, hn, hd, hr, h10, h9, h11 => by
    have hlen := zdf_len ht hd
    rw [List.length_cons] at hlen
    have hd2 := zdf_step ht hw hd
    have hlen2 := zdf_len ht hd2
    have hx0 := (hd.2.2.2.1 x (Or.inr (List.mem_cons_self ..))).1
    have hx := zb_lt ht hx0
    have h6 := ht.2.2.2.2 x
    have h5 := ht.2.2.2.1 x
    have hxv : x ∉ vis := fun z => hd.2.2.1 x z (List.mem_cons_self ..)
    rw [List.reverse_cons] at h11
    have h11a := zat_app.mp h11
    have htop : S 11 r.length = nI x := by
      have := h11a.2.1
      rw [List.length_reverse, Nat.zero_add] at this
      exact this
    obtain ⟨S1, eS1⟩ : ∃ S1, S1 = zx_st (zx_st S 9 (upd (S 9) x (nI vis.length))) 10 (upd (S 10) vis.length (nI x)) := ⟨_, rfl⟩
    have f1 : zfr [9, 10, 11] S S1 := by rw [eS1]; exact zfr_st (by simp) (zfr_st (by simp) zfr_refl)
    have hS1w : S1 w = S w := f1 w (by simp; omega)
    have hS111 : S1 11 = S 11 := by rw [eS1, st_ne (by decide), st_ne (by decide)]
    have hS19 : S1 9 = upd (S 9) x (nI vis.length) := by rw [eS1, st_ne (by decide), st_at]
    have hvl : (vis ++ [x]).length = vis.length + 1 := by simp
    have k10 : zat (S1 10) 0 (vis ++ [x]) := by
      rw [eS1, st_at]
      refine zat_app.mpr ⟨zat_congr (fun j h1 h2 => up_ne (by omega)) h10, ?_, trivial⟩
      rw [Nat.zero_add, up_at]
    have k9 : ∀ j, j < (vis ++ [x]).length → S1 9 ((vis ++ [x]).getD j 0) = nI j := by
      intro j hj
      rw [hS19]
      by_cases c : j < vis.length
      · have e1 : (vis ++ [x]).getD j 0 = vis.getD j 0 := by
          simp [List.getD, List.getElem?_append_left c]
        rw [e1, up_ne (show vis.getD j 0 ≠ x from fun e => hxv (by rw [← e]; exact zgetD_mem c))]
        exact h9 j c
      · have e1 : (vis ++ [x]).getD j 0 = x := by
          have : j = vis.length := by rw [hvl] at hj; omega
          rw [this]
          simp [List.getD]
        have : j = vis.length := by rw [hvl] at hj; omega
        rw [e1, up_at, this]
    have hm : S w (120 + 8 * x + 1) = nI (zes t x).length := hr.2.2.2.1 x (by omega)
    have hlv : S w (120 + 8 * x) = nI (zlv t x) := hr.2.2.1 x (by omega)
    by_cases hl : zlv t x ≤ 1
    · have hk : zkd t x = [] := by unfold zkd; rw [if_pos hl]
      rw [hk, List.nil_append] at hd2
      obtain ⟨S', e, g, g2, f⟩ := r_dfs_l hN hw9 hw10 hw11 ht hw d n (vis ++ [x]) r S1 (by rw [hvl]; omega) (by omega) hd2 (by rw [hS1w]; exact hr) k10 k9 (by rw [hS111]; exact h11a.1)
      rw [zdo_l, hk, List.nil_append]
      refine ⟨S', ?_, g, g2, zfr_trans f1 f⟩
      rw [hvl] at e
      have hlo := r_levelOf (N := N) (r := S1 w) (s := x) (v := zlv t x) (by omega) (by rw [hS1w]; exact hlv) (by omega)
      rw [f_X3_numberNodes_l15, List.length_cons]
      simp (disch := omega) only [↓zlm1, ↓zlm2, zi_e1, zi_e2, zi_1e, zi_12, zi_21, zi_1n, zi_n1, if_true, if_false, eq_self, not_false_eq_true, not_true_eq_false, nI_add, zi_4m, zi_5m, zi_8m, zi_mul4, zi_mul5, zi_sub, nI_leI, nI_ltI, nI_eq, zl0, zl1, zl2, zl3, zl4, zl5, zl6, zl8, zl9, zl24, zl32, zl48, zl49, zl99, zl100, zl120, zl376, zl377, zl378, zl379, zl380, ↓zi_192, zi_dec, Nat.add_zero, Nat.zero_add, m_n, m_b1, m_b2, m_rd, m_wr, m_get, m_put, nI_clamp, st_at, st_ne, up_at, up_ne, if_pos, if_neg, htop, Nat.add_sub_cancel]
      rw [← eS1]
      simp (disch := omega) only [↓zlm1, ↓zlm2, zi_e1, zi_e2, zi_1e, zi_12, zi_21, zi_1n, zi_n1, if_true, if_false, eq_self, not_false_eq_true, not_true_eq_false, nI_add, zi_4m, zi_5m, zi_8m, zi_mul4, zi_mul5, zi_sub, nI_leI, nI_ltI, nI_eq, zl0, zl1, zl2, zl3, zl4, zl5, zl6, zl8, zl9, zl24, zl32, zl48, zl49, zl99, zl100, zl120, zl376, zl377, zl378, zl379, zl380, ↓zi_192, zi_dec, Nat.add_zero, Nat.zero_add, m_n, m_b1, m_b2, m_rd, m_wr, m_get, m_put, nI_clamp, st_at, st_ne, up_at, up_ne, if_pos, if_neg, r_many, hS1w, hm, zix_sub]
      obtain ⟨n2, hn2⟩ : ∃ n2, N = n2 + 1 := ⟨N - 1, by omega⟩
      rw [hn2, f_X3_numberNodes_l59, ← hn2]
      unfold f_X3_numberNodes_j99
      by_cases h0 : (zes t x).length = 0
      · rw [h0, zix_0, zl0, if_pos (by decide)]
        exact e
      · obtain ⟨k, hk⟩ : ∃ k, (zes t x).length = k + 1 := ⟨(zes t x).length - 1, by omega⟩
        rw [hS1w] at hlo
        rw [hk, zix_s]
        simp (disch := omega) only [↓zlm1, ↓zlm2, zi_e1, zi_e2, zi_1e, zi_12, zi_21, zi_1n, zi_n1, if_true, if_false, eq_self, not_false_eq_true, not_true_eq_false, nI_add, zi_4m, zi_5m, zi_8m, zi_mul4, zi_mul5, zi_sub, nI_leI, nI_ltI, nI_eq, zl0, zl1, zl2, zl3, zl4, zl5, zl6, zl8, zl9, zl24, zl32, zl48, zl49, zl99, zl100, zl120, zl376, zl377, zl378, zl379, zl380, ↓zi_192, zi_dec, Nat.add_zero, Nat.zero_add, m_n, m_b1, m_b2, m_rd, m_wr, m_get, m_put, nI_clamp, st_at, st_ne, up_at, up_ne, if_pos, if_neg, hS1w, hlo]
        exact e
    · have hkr : (zkd t x).reverse = ((zes t x).map (fun e => e - 24)).reverse := by unfold zkd; rw [if_neg hl]
      have hkl : (zkd t x).length = (zes t x).length := by unfold zkd; rw [if_neg hl, List.length_map]
      rw [List.length_append, List.length_append, hkl] at hlen2
      simp only [List.length_cons, List.length_nil, Nat.zero_add] at hlen2
      obtain ⟨S2, e2, f2, g2⟩ := r_push (N := N) (w := w) hx hw11 (K := f_X3_numberNodes_l15 N w n) (v2 := nI (vis.length + 1)) (v := zlv t x) (by omega) (by omega) (zes t x).length N (zes t x) [] r.reverse S1 rfl (by omega) h5 (fun e he => zkd_ge ht hl he) (by rw [List.append_nil, hS1w]; exact hr.2.2.2.2.1 x (by omega)) (by rw [hS1w]; exact hlv) (by rw [List.length_reverse]; omega) (by rw [hS111]; exact h11a.1)
      rw [List.length_reverse] at e2
      have hS2w : S2 w = S w := by rw [f2 w (by simp; omega), hS1w]
      obtain ⟨S', e, g, g3, f⟩ := r_dfs_l hN hw9 hw10 hw11 ht hw d n (vis ++ [x]) (zkd t x ++ r) S2 (by rw [hvl]; omega) (by omega) hd2 (by rw [hS2w]; exact hr) (by rw [f2 10 (by decide)]; exact k10) (by rw [f2 9 (by decide)]; exact k9) (by
        rw [List.reverse_append, hkr]
        exact g2)
      rw [zdo_l]
      refine ⟨S', ?_, g, g3, zfr_trans f1 (zfr_trans (zfr_sub f2 (by decide)) f)⟩
      rw [hvl, List.length_append, hkl] at e
      rw [f_X3_numberNodes_l15, List.length_cons]
      simp (disch := omega) only [↓zlm1, ↓zlm2, zi_e1, zi_e2, zi_1e, zi_12, zi_21, zi_1n, zi_n1, if_true, if_false, eq_self, not_false_eq_true, not_true_eq_false, nI_add, zi_4m, zi_5m, zi_8m, zi_mul4, zi_mul5, zi_sub, nI_leI, nI_ltI, nI_eq, zl0, zl1, zl2, zl3, zl4, zl5, zl6, zl8, zl9, zl24, zl32, zl48, zl49, zl99, zl100, zl120, zl376, zl377, zl378, zl379, zl380, ↓zi_192, zi_dec, Nat.add_zero, Nat.zero_add, m_n, m_b1, m_b2, m_rd, m_wr, m_get, m_put, nI_clamp, st_at, st_ne, up_at, up_ne, if_pos, if_neg, htop, Nat.add_sub_cancel]
      rw [← eS1]
      simp (disch := omega) only [↓zlm1, ↓zlm2, zi_e1, zi_e2, zi_1e, zi_12, zi_21, zi_1n, zi_n1, if_true, if_false, eq_self, not_false_eq_true, not_true_eq_false, nI_add, zi_4m, zi_5m, zi_8m, zi_mul4, zi_mul5, zi_sub, nI_leI, nI_ltI, nI_eq, zl0, zl1, zl2, zl3, zl4, zl5, zl6, zl8, zl9, zl24, zl32, zl48, zl49, zl99, zl100, zl120, zl376, zl377, zl378, zl379, zl380, ↓zi_192, zi_dec, Nat.add_zero, Nat.zero_add, m_n, m_b1, m_b2, m_rd, m_wr, m_get, m_put, nI_clamp, st_at, st_ne, up_at, up_ne, if_pos, if_neg, r_many, hS1w, hm, zix_sub]
      rw [e2, Nat.add_comm r.length]
      exact e
theorem r_number {N w : Nat} (hN : 100 < N) (hw9 : w ≠ 9) (hw10 : w ≠ 10) (hw11 : w ≠ 11) {S : zx_S} {t : ZT} (hr : zref (S w) t) (hw : zwf t [] 99 99) : ∃ S', f_X3_numberNodes N w S = some (nI (zdo t).length, S') ∧ zat (S' 10) 0 (zdo t) ∧ (∀ j, j < (zdo t).length → S' 9 ((zdo t).getD j 0) = nI j) ∧ zfr [9, 10, 11] S S' := by
  have hR := zwf_lv hw (by decide)
  have ht := zwf_zb hw (by omega)
  obtain ⟨S1, eS1⟩ : ∃ S1, S1 = zx_st S 11 (upd (S 11) 0 (nI (zrt t))) := ⟨_, rfl⟩
  have f1 : zfr [9, 10, 11] S S1 := by rw [eS1]; exact zfr_st (by simp) zfr_refl
  obtain ⟨S', e, g, g2, f⟩ := r_dfs_l hN hw9 hw10 hw11 ht hw 24 N [] [zrt t] S1 rfl (by omega) (zdf_init hw) (by rw [f1 w (by simp; omega)]; exact hr) trivial (fun j hj => absurd hj (Nat.not_lt_zero j)) ⟨by rw [eS1, st_at, up_at], trivial⟩
  refine ⟨S', ?_, g, g2, zfr_trans f1 f⟩
  have hroot : S w 376 = nI (zrt t) := hr.2.2.2.2.2
  unfold f_X3_numberNodes
  simp (disch := omega) only [↓zlm1, ↓zlm2, zi_e1, zi_e2, zi_1e, zi_12, zi_21, zi_1n, zi_n1, if_true, if_false, eq_self, not_false_eq_true, not_true_eq_false, nI_add, zi_4m, zi_5m, zi_8m, zi_mul4, zi_mul5, zi_sub, nI_leI, nI_ltI, nI_eq, zl0, zl1, zl2, zl3, zl4, zl5, zl6, zl8, zl9, zl24, zl32, zl48, zl49, zl99, zl100, zl120, zl376, zl377, zl378, zl379, zl380, ↓zi_192, zi_dec, Nat.add_zero, Nat.zero_add, m_n, m_b1, m_b2, m_rd, m_wr, m_get, m_put, nI_clamp, st_at, st_ne, up_at, up_ne, if_pos, if_neg, hroot]
  rw [← eS1]
  exact e
/-- a node's number -/
theorem m_num_l {N : Nat} {T : zx_S} {s M : Nat} (hs : s < 24) (hM : M ≤ 24) : ∀ (l m : List Nat) (k n : Nat), l.length < n → zat (T 8) k ((l ++ s :: m).map (fun s => 24 + s)) → k + l.length < M → s ∉ l → (∀ x, x ∈ l → x < 24) → f_X1_numberOf_l7 N n (nI (24 + s)) (nI M) (nI k) T = some (nI (k + l.length), T)
  | [], m, k, n + 1, hn, hz, hk, hx, hi => by
    have h1 : T 8 k = nI (24 + s) := hz.1
    rw [List.length_nil, Nat.add_zero] at hk
    rw [f_X1_numberOf_l7]
    simp (disch := omega) only [↓zlm1, ↓zlm2, zi_e1, zi_e2, zi_1e, zi_12, zi_21, zi_1n, zi_n1, if_true, if_false, eq_self, not_false_eq_true, not_true_eq_false, nI_add, zi_4m, zi_5m, zi_8m, zi_mul4, zi_mul5, zi_sub, nI_leI, nI_ltI, nI_eq, zl0, zl1, zl2, zl3, zl4, zl5, zl6, zl8, zl9, zl24, zl32, zl48, zl49, zl99, zl100, zl120, zl376, zl377, zl378, zl379, zl380, ↓zi_192, zi_dec, Nat.add_zero, Nat.zero_add, m_n, m_b1, m_b2, m_rd, m_wr, m_get, m_put, nI_clamp, st_at, st_ne, up_at, up_ne, if_pos, if_neg, h1, List.length_nil]
  | c :: l, m, k, n + 1, hn, hz, hk, hx, hi => by
    have h1 : T 8 k = nI (24 + c) := hz.1
    have hc : c ≠ s := fun e => hx (by rw [e]; exact List.mem_cons_self ..)
    have hc2 := hi c (List.mem_cons_self ..)
    rw [List.length_cons] at hk hn
    have ih := m_num_l (N := N) (T := T) hs hM l m (k + 1) n (by omega) hz.2 (by omega) (fun z => hx (List.mem_cons_of_mem _ z)) (fun x hx => hi x (List.mem_cons_of_mem _ hx))
    rw [f_X1_numberOf_l7]
    simp (disch := omega) only [↓zlm1, ↓zlm2, zi_e1, zi_e2, zi_1e, zi_12, zi_21, zi_1n, zi_n1, if_true, if_false, eq_self, not_false_eq_true, not_true_eq_false, nI_add, zi_4m, zi_5m, zi_8m, zi_mul4, zi_mul5, zi_sub, nI_leI, nI_ltI, nI_eq, zl0, zl1, zl2, zl3, zl4, zl5, zl6, zl8, zl9, zl24, zl32, zl48, zl49, zl99, zl100, zl120, zl376, zl377, zl378, zl379, zl380, ↓zi_192, zi_dec, Nat.add_zero, Nat.zero_add, m_n, m_b1, m_b2, m_rd, m_wr, m_get, m_put, nI_clamp, st_at, st_ne, up_at, up_ne, if_pos, if_neg, h1]
    rw [ih, List.length_cons, show k + 1 + l.length = k + (l.length + 1) by omega]
theorem m_num_n {N : Nat} {T : zx_S} {M : Nat} (hM : M ≤ 24) : ∀ (l : List Nat) (k n : Nat), l.length < n → zat (T 8) k (l.map (fun s => 24 + s)) → k + l.length = M → (∀ x, x ∈ l → x < 24) → f_X1_numberOf_l7 N n zM1 (nI M) (nI k) T = some (zM1, T)
  | [], k, n + 1, hn, hz, hk, hi => by
    rw [List.length_nil, Nat.add_zero] at hk
    rw [f_X1_numberOf_l7]
    simp (disch := omega) only [↓zlm1, ↓zlm2, zi_e1, zi_e2, zi_1e, zi_12, zi_21, zi_1n, zi_n1, if_true, if_false, eq_self, not_false_eq_true, not_true_eq_false, nI_add, zi_4m, zi_5m, zi_8m, zi_mul4, zi_mul5, zi_sub, nI_leI, nI_ltI, nI_eq, zl0, zl1, zl2, zl3, zl4, zl5, zl6, zl8, zl9, zl24, zl32, zl48, zl49, zl99, zl100, zl120, zl376, zl377, zl378, zl379, zl380, ↓zi_192, zi_dec, Nat.add_zero, Nat.zero_add, m_n, m_b1, m_b2, m_rd, m_wr, m_get, m_put, nI_clamp, st_at, st_ne, up_at, up_ne, if_pos, if_neg]
  | c :: l, k, n + 1, hn, hz, hk, hi => by
    have h1 : T 8 k = nI (24 + c) := hz.1
    have hc2 := hi c (List.mem_cons_self ..)
    rw [List.length_cons] at hk hn
    have ih := m_num_n (N := N) (T := T) hM l (k + 1) n (by omega) hz.2 (by omega) (fun x hx => hi x (List.mem_cons_of_mem _ hx))
    rw [f_X1_numberOf_l7]
    simp (disch := omega) only [↓zlm1, ↓zlm2, zi_e1, zi_e2, zi_1e, zi_12, zi_21, zi_1n, zi_n1, if_true, if_false, eq_self, not_false_eq_true, not_true_eq_false, nI_add, zi_4m, zi_5m, zi_8m, zi_mul4, zi_mul5, zi_sub, nI_leI, nI_ltI, nI_eq, zl0, zl1, zl2, zl3, zl4, zl5, zl6, zl8, zl9, zl24, zl32, zl48, zl49, zl99, zl100, zl120, zl376, zl377, zl378, zl379, zl380, ↓zi_192, zi_dec, Nat.add_zero, Nat.zero_add, m_n, m_b1, m_b2, m_rd, m_wr, m_get, m_put, nI_clamp, st_at, st_ne, up_at, up_ne, if_pos, if_neg, h1]
    exact ih
theorem m_numberOf {N : Nat} (hN : 100 < N) {T : zx_S} {t : ZT} (hT : zcx T t []) (hw : zwf t [] 99 99) {s : Nat} (hs : zlv t s ≠ 0) : ∃ T' j, f_X1_numberOf N (nI (24 + s)) T = some (nI j, T') ∧ j < (zdo t).length ∧ (zdo t).getD j 0 = s ∧ zfr [8, 9] T T' := by
  obtain ⟨T', e, g, f⟩ := m_nodes (N := N) hN hT hw
  have hmem := (zdo_mem hw).mpr hs
  have hs24 := zdo_lt hw hmem
  have hle := zdo_le hw
  have hlt : ∀ x, x ∈ zdo t → x < 24 := fun x hx => zdo_lt hw hx
  have hnd := zdo_nd hw
  obtain ⟨l, m, hlm⟩ := List.append_of_mem hmem
  rw [hlm] at g hnd hle hlt ⊢
  rw [hlm] at e
  have hx : s ∉ l := fun z => (List.nodup_append.mp hnd).2.2 s z s (List.mem_cons_self ..) rfl
  refine ⟨T', l.length, ?_, by simp, by simp [List.getD], f⟩
  have := m_num_l (N := N) (T := T') hs24 hle l m 0 N (by rw [List.length_append] at hle; omega) g (by simp) hx (fun x hx => hlt x (List.mem_append_left _ hx))
  rw [Nat.zero_add] at this
  unfold f_X1_numberOf
  rw [e, m_b2, zl0]
  exact this
theorem m_numberOf1 {N : Nat} (hN : 100 < N) {T : zx_S} {t : ZT} (hT : zcx T t []) (hw : zwf t [] 99 99) : ∃ T', f_X1_numberOf N zM1 T = some (zM1, T') ∧ zfr [8, 9] T T' := by
  obtain ⟨T', e, g, f⟩ := m_nodes (N := N) hN hT hw
  have hle := zdo_le hw
  refine ⟨T', ?_, f⟩
  have := m_num_n (N := N) (T := T') hle (zdo t) 0 N (by omega) g (by omega) (fun x hx => zdo_lt hw hx)
  unfold f_X1_numberOf
  rw [e, m_b2, zl0]
  exact this
theorem m_nodeNumbered {N : Nat} (hN : 100 < N) {T : zx_S} {t : ZT} (hT : zcx T t []) (hw : zwf t [] 99 99) (p : Int32) :
    (∃ j T', j < (zdo t).length ∧ p = nI j ∧ f_X1_nodeNumbered N p T = some (nI (24 + (zdo t).getD j 0), T') ∧ zfr [8, 9] T T') ∨ (¬ (0 ≤ p.toInt ∧ p.toInt ≤ ((zdo t).length : Int) - 1) ∧ ∃ T', f_X1_nodeNumbered N p T = some (zM1, T') ∧ zfr [8, 9] T T') := by
  obtain ⟨T', e, g, f⟩ := m_nodes (N := N) hN hT hw
  have hle := zdo_le hw
  unfold f_X1_nodeNumbered
  rcases zi_cases p (zdo t).length (by omega) with ⟨j, hj, rfl⟩ | z | z
  · refine Or.inl ⟨j, T', hj, rfl, ?_, f⟩
    have h8 := zat_map g hj
    rw [Nat.zero_add] at h8
    rw [if_neg (nI_pos (by omega)), e]
    simp (disch := omega) only [↓zlm1, ↓zlm2, zi_e1, zi_e2, zi_1e, zi_12, zi_21, zi_1n, zi_n1, if_true, if_false, eq_self, not_false_eq_true, not_true_eq_false, nI_add, zi_4m, zi_5m, zi_8m, zi_mul4, zi_mul5, zi_sub, nI_leI, nI_ltI, nI_eq, zl0, zl1, zl2, zl3, zl4, zl5, zl6, zl8, zl9, zl24, zl32, zl48, zl49, zl99, zl100, zl120, zl376, zl377, zl378, zl379, zl380, ↓zi_192, zi_dec, Nat.add_zero, Nat.zero_add, m_n, m_b1, m_b2, m_rd, m_wr, m_get, m_put, nI_clamp, st_at, st_ne, up_at, up_ne, if_pos, if_neg, h8]
  · refine Or.inr ⟨by omega, T, ?_, zfr_refl⟩
    rw [if_pos (zi_lt0.mpr z)]
    rfl
  · refine Or.inr ⟨by omega, T', ?_, f⟩
    rw [if_neg (by rw [zi_lt0]; omega), e, m_b2, if_pos]
    · rfl
    · rw [Int32.le_iff_toInt_le, nI_toInt (by omega)]; exact z
