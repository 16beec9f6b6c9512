/-! windows: what they meet -/
def zmq (f : Nat → Int32) (a b c d : Int32) (e : Nat) : Bool := decide ((f (4 * e)).toInt ≤ c.toInt) && decide (a.toInt ≤ (f (4 * e + 2)).toInt) && decide ((f (4 * e + 1)).toInt ≤ d.toInt) && decide (b.toInt ≤ (f (4 * e + 3)).toInt)
theorem zmq_iff {f : Nat → Int32} {a b c d : Int32} {e : Nat} : zmq f a b c d e = true ↔ (f (4 * e)).toInt ≤ c.toInt ∧ a.toInt ≤ (f (4 * e + 2)).toInt ∧ (f (4 * e + 1)).toInt ≤ d.toInt ∧ b.toInt ≤ (f (4 * e + 3)).toInt := by
  unfold zmq
  rw [Bool.and_eq_true, Bool.and_eq_true, Bool.and_eq_true, decide_eq_true_iff, decide_eq_true_iff, decide_eq_true_iff, decide_eq_true_iff, and_assoc, and_assoc]
/-- the box that is asked about is laid -/
theorem rd_asked {N : Nat} (hN : 100 < N) {S Sx : zx_S} {t : ZT} {f : Nat → Int32} {B : zx_B} {a b c d : Int32} (h : zK S Sx t f B) (hb : zbk a b c d) : ∃ T1, f_X1_setBox N (nI 48) a b c d (B 0) = some T1 ∧ zK S Sx t f (zx_sb B 0 T1) ∧ (∀ e, zgd t e → (zcc (T1 0) e 48 ≤ 0 ↔ zmq f a b c d e = false)) ∧ zbd (T1 0) 48 ∧ (∀ k, k < 4 → T1 0 (4 * 48 + k) = zrk a b c d k) ∧ ∀ e, zgd t e → zbd (T1 0) e := by
  obtain ⟨T1, e1, f1, k1, o1⟩ := m_setBox (N := N) (T := B 0) (i := 48) (a := a) (b := b) (c := c) (d := d) (by omega)
  obtain ⟨T1', S1, e1', e2, _, _, hQ1, hbd, hor, _, hA, _⟩ := z_win (N := N) hN h.2.1 hb
  have := Option.some.inj (e1'.symm.trans e1)
  subst this
  have hte : zte (B 0) T1' := ⟨fun j hj => o1 j (by omega), fun _ _ => by rw [f1 1 (by decide)], fun _ _ => by rw [f1 2 (by decide)], fun _ _ => by rw [f1 3 (by decide)], fun _ _ => by rw [f1 4 (by decide)], fun _ _ => by rw [f1 10 (by decide)]⟩
  have ht := zK_zb h
  have hw := hQ1.2.2.1
  have hg := zwf_zg hw (zwf_un24 hw)
  refine ⟨T1', e1, zK_sc h (zsc_sb hte), fun e he => ?_, hbd, k1, fun e he => (hA e he).1⟩
  have hoe := zord ht hg hQ1.2.2.2.1.1 (zwf_cr hw) hQ1.2.2.2.1.2 (zil t e) e (Nat.le_refl _) he
  rw [zcc_meet (hA e he).1 hbd hoe hor]
  have he48 : e < 48 := by rcases he with z | z <;> omega
  have g : ∀ k, k < 4 → T1' 0 (4 * e + k) = f (4 * e + k) := fun k hk => (hte.1 _ (by omega)).trans (h.2.2 _ (by omega))
  have g0 := g 0 (by omega)
  rw [Nat.add_zero] at g0
  have k0 := k1 0 (by omega)
  rw [Nat.add_zero] at k0
  rw [g0, g 1 (by omega), g 2 (by omega), g 3 (by omega), k0, k1 1 (by omega), k1 2 (by omega), k1 3 (by omega)]
  have r0 : zrk a b c d 0 = a := rfl
  have r1 : zrk a b c d 1 = b := rfl
  have r2 : zrk a b c d 2 = c := rfl
  have r3 : zrk a b c d 3 = d := rfl
  rw [r0, r1, r2, r3, ← Bool.not_eq_true, zmq_iff]
  omega
theorem m_win_l {N : Nat} {S : zx_S} {t : ZT} {B : zx_B} {p : Nat → Bool} (hQ : zQ 1 (B 0) S t) (hp1 : ∀ i, i < 24 → zpr t i = false → p i = false) (hp2 : ∀ i, i < 24 → zpr t i = true → (zcc (B 0 0) i 48 ≤ 0 ↔ p i = false)) : ∀ (d n k : Nat) (acc : Int32), d < n → k + d = 24 → f_X2_window_l41 N n acc (nI k) B = some (zwl p d k acc, (0, B))
  | 0, n + 1, k, acc, hn, hk => by
    rw [f_X2_window_l41, zwl]
    simp (disch := omega) only [↓zlm1, ↓zlm2, zi_e1, zi_e2, zi_1e, zi_12, zi_21, zi_1n, zi_n1, if_true, if_false, eq_self, not_false_eq_true, not_true_eq_false, nI_add, zi_4m, zi_5m, zi_8m, zi_mul4, zi_mul5, zi_sub, nI_leI, nI_ltI, nI_eq, zl0, zl1, zl2, zl3, zl4, zl5, zl6, zl8, zl9, zl24, zl32, zl48, zl49, zl99, zl100, zl120, zl376, zl377, zl378, zl379, zl380, ↓zi_192, zi_dec, Nat.add_zero, Nat.zero_add, m_n, m_b1, m_b2, m_rd, m_wr, m_get, m_put, nI_clamp, st_at, st_ne, up_at, up_ne, if_pos, if_neg]
  | d + 1, n + 1, k, acc, hn, hk => by
    have ih := fun acc => m_win_l (N := N) hQ hp1 hp2 d n (k + 1) acc (by omega) (by omega)
    rw [f_X2_window_l41, zwl]
    unfold f_X2_window_j83
    have h24 : ¬ (24 : Int32) ≤ nI k := by rw [zl24, nI_leI (by omega) (by omega)]; omega
    rcases z_has (N := N) hQ (nI k) with ⟨i, hi, e, hp, c1, _⟩ | ⟨hno, c1, _⟩
    · have := (nI_eq (by omega) (by omega)).mp e
      subst this
      have h2 := hp2 k hi hp
      by_cases q1 : zcc (B 0 0) k 48 ≤ 0
      · rw [if_neg (show ¬ p k = true by rw [h2.mp q1]; decide)]
        rw [if_neg h24, c1, m_b1, if_neg (by decide), zl48, m_common (by omega) (by omega), m_b1, if_pos q1, m_n, zl1, nI_add]
        exact ih acc
      · rw [if_pos (show p k = true by cases hx : p k; exact absurd (h2.mpr hx) q1; rfl)]
        rw [if_neg h24, c1, m_b1, if_neg (by decide), zl48, m_common (by omega) (by omega), m_b1, if_neg q1, m_n, m_n, show nI k + 1 = nI (k + 1) by rw [zl1, nI_add]]
        exact ih _
    · have hpf := hp1 k (by omega) (hno k (by omega) rfl)
      rw [if_neg (show ¬ p k = true by rw [hpf]; decide)]
      rw [if_neg h24, c1, m_b1, if_pos (by decide), m_n, show nI k + 1 = nI (k + 1) by rw [zl1, nI_add]]
      exact ih acc
def zmt (t : ZT) (f : Nat → Int32) (a b c d : Int32) (i : Nat) : Bool := zpr t i && zmq f a b c d i
theorem rd_window {N : Nat} (hN : 100 < N) {S Sx : zx_S} {t : ZT} {f : Nat → Int32} {B : zx_B} {a b c d : Int32} (h : zK S Sx t f B) (hb : zbk a b c d) : ∃ B', f_L_tryWindow N a b c d B = some (zwl (zmt t f a b c d) 24 0 0, B') ∧ zK S Sx t f B' := by
  obtain ⟨T1, e1, hK, hm, _⟩ := rd_asked (N := N) hN h hb
  refine ⟨zx_sb B 0 T1, ?_, hK⟩
  refine tr_tryWindow0 ?_
  have g1 := m_win_l (N := N) (p := zmt t f a b c d) hK.2.1 (fun i hi hp => by unfold zmt; rw [hp, Bool.false_and]) (fun i hi hp => by rw [zsb_at, hm i (Or.inl ⟨hi, hp⟩)]; unfold zmt; rw [hp, Bool.true_and]) 24 N 0 0 (by omega) (by omega)
  rcases z_isBox (N := N) (a := a) (b := b) (c := c) (d := d) with ⟨_, i1, _⟩ | ⟨hn, _, _⟩
  · unfold f_X2_window
    rw [i1, m_b1, if_neg (by decide), zl48, e1, m_b1, m_n]
    exact g1
  · exact absurd hb hn
/-! looks -/
theorem m_look_in {N : Nat} {x M : Nat} (hx : x < 24) (hM : M ≤ 5) {q : Nat → Bool} {K : Int32 → Int32 → Int32 → Int32 → zx_S → Option (Int32 × zx_S)} {v2 v4 : Int32} :
    ∀ (l : List Nat) (k n : Nat) (T : zx_S) (st : List Nat), l.length < n → k + l.length = M → zat (T 4) (5 * (24 + x) + k) l → st.length + l.length ≤ 24 → zat (T 9) 0 (st.map (fun s => 24 + s)) → l.Nodup → (∀ e, e ∈ l → 24 ≤ e ∧ e < 48 ∧ (zcc (T 0) e 48 ≤ 0 ↔ q e = false)) →
    ∃ T' ks, f_X1_lookedAt_l76 N K n (nI 48) v2 (nI st.length) v4 (nI (24 + x)) (nI M) (nI k) T = K (nI 48) v2 (nI (st.length + ks.length)) (v4 + nI 1) T' ∧ zat (T' 9) 0 ((st ++ ks).map (fun s => 24 + s)) ∧ ks.Nodup ∧ (∀ c, c ∈ ks → 24 + c ∈ l) ∧ (∀ c, 24 + c ∈ l → q (24 + c) = true → c ∈ ks) ∧ zfr [9] T T'
  | [], k, n + 1, T, st, hn, hk, hz, hs, h9, hnd, he => by
    rw [List.length_nil, Nat.add_zero] at hk
    refine ⟨T, [], ?_, by rw [List.append_nil]; exact h9, List.nodup_nil, fun c hc => absurd hc (List.not_mem_nil), fun c hc => absurd hc (List.not_mem_nil), zfr_refl⟩
    rw [f_X1_lookedAt_l76, if_pos (by rw [nI_leI (by omega) (by omega)]; omega), m_n]
    rfl
  | e :: l, k, n + 1, T, st, hn, hk, hz, hs, h9, hnd, he => by
    rw [List.length_cons] at hn hk hs
    have h1 : T 4 (5 * (24 + x) + k) = nI e := hz.1
    obtain ⟨e24, e48, em⟩ := he e (List.mem_cons_self ..)
    have hnd2 := List.nodup_cons.mp hnd
    have hMk : ¬ nI M ≤ nI k := by rw [nI_leI (by omega) (by omega)]; omega
    have g1 : f_X2_get N 245 (nI (24 + x) * 5 + nI k) (T 4) = some (nI e) := by
      simp (disch := omega) only [↓zlm1, ↓zlm2, zi_e1, zi_e2, zi_1e, zi_12, zi_21, zi_1n, zi_n1, if_true, if_false, eq_self, not_false_eq_true, not_true_eq_false, nI_add, zi_4m, zi_5m, zi_8m, zi_mul4, zi_mul5, zi_sub, nI_leI, nI_ltI, nI_eq, zl0, zl1, zl2, zl3, zl4, zl5, zl6, zl8, zl9, zl24, zl32, zl48, zl49, zl99, zl100, zl120, zl376, zl377, zl378, zl379, zl380, ↓zi_192, zi_dec, Nat.add_zero, Nat.zero_add, m_n, m_b1, m_b2, m_rd, m_wr, m_get, m_put, nI_clamp, st_at, st_ne, up_at, up_ne, if_pos, if_neg, h1]
    rw [f_X1_lookedAt_l76, if_neg hMk, g1, m_b1, m_common (by omega) (by omega), m_b1]
    unfold f_X1_lookedAt_j122
    rw [show nI k + 1 = nI (k + 1) by rw [zl1, nI_add]]
    by_cases q1 : zcc (T 0) e 48 ≤ 0
    · obtain ⟨T', ks, a1, a3, a5, a6, a7, a8⟩ := m_look_in (N := N) hx hM (q := q) (K := K) (v2 := v2) (v4 := v4) l (k + 1) n T st (by omega) (by omega) hz.2 (by omega) h9 hnd2.2 (fun e h => he e (List.mem_cons_of_mem _ h))
      refine ⟨T', ks, ?_, a3, a5, fun c hc => List.mem_cons_of_mem _ (a6 c hc), fun c hc hq => ?_, a8⟩
      · rw [if_pos q1, m_n]; exact a1
      · rcases List.mem_cons.mp hc with z | z
        · rw [z, em.mp q1] at hq; cases hq
        · exact a7 c z hq
    · obtain ⟨T1, eT1⟩ : ∃ T1, T1 = zx_st T 9 (upd (T 9) st.length (nI e)) := ⟨_, rfl⟩
      have fT : zfr [9] T T1 := by rw [eT1]; exact zfr_st (by simp) zfr_refl
      have k9 : zat (T1 9) 0 ((st ++ [e - 24]).map (fun s => 24 + s)) := by
        rw [eT1, st_at, List.map_append]
        refine zat_app.mpr ⟨zat_congr (fun j h1 h2 => up_ne (by rw [List.length_map] at h2; omega)) h9, ?_, trivial⟩
        rw [List.length_map, Nat.zero_add, up_at]
        show nI e = nI (24 + (e - 24))
        rw [show 24 + (e - 24) = e by omega]
      have hl1 : (st ++ [e - 24]).length = st.length + 1 := by simp
      obtain ⟨T', ks, a1, a3, a5, a6, a7, a8⟩ := m_look_in (N := N) hx hM (q := q) (K := K) (v2 := v2) (v4 := v4) l (k + 1) n T1 (st ++ [e - 24]) (by omega) (by omega) (by rw [fT 4 (by decide)]; exact hz.2) (by rw [hl1]; omega) k9 hnd2.2 (fun y h => by
        obtain ⟨b1, b2, b3⟩ := he y (List.mem_cons_of_mem _ h)
        exact ⟨b1, b2, by rw [fT 0 (by decide)]; exact b3⟩)
      rw [List.append_assoc] at a3
      rw [hl1] at a1
      refine ⟨T', [e - 24] ++ ks, ?_, a3, ?_, ?_, ?_, zfr_trans fT a8⟩
      · rw [if_neg q1, m_put (by omega) (by decide), m_b1, m_n, m_n, ← eT1, show nI st.length + 1 = nI (st.length + 1) by rw [zl1, nI_add], m_n, a1]
        rw [List.length_append, show ([e - 24] : List Nat).length = 1 from rfl, Nat.add_assoc]
      · refine List.nodup_append.mpr ⟨by simp, a5, fun y hy z hz e2 => ?_⟩
        have hy2 : y = e - 24 := by simpa using hy
        have := a6 z hz
        rw [← e2, hy2, show 24 + (e - 24) = e by omega] at this
        exact hnd2.1 this
      · intro y hy
        rcases List.mem_append.mp hy with hy | hy
        · have hy2 : y = e - 24 := by simpa using hy
          rw [hy2, show 24 + (e - 24) = e by omega]
          exact List.mem_cons_self ..
        · exact List.mem_cons_of_mem _ (a6 y hy)
      · intro y hy hq
        rcases List.mem_cons.mp hy with z | z
        · exact List.mem_append_left _ (by rw [show y = e - 24 by omega]; simp)
        · exact List.mem_append_right _ (a7 y z hq)
/-- what is visited is closed under what the window meets -/
def zdh (t : ZT) (q : Nat → Bool) (vis stk : List Nat) : Prop := (∀ y, y ∈ vis → ∀ c, 24 + c ∈ zes t y → q (24 + c) = true → c ∈ vis ∨ c ∈ stk) ∧ (zrt t ∈ vis ∨ zrt t ∈ stk)
theorem zdh_step {t : ZT} {q : Nat → Bool} {vis st ks : List Nat} {x : Nat} (h : zdh t q vis (st ++ [x])) (hk : ∀ c, 24 + c ∈ zes t x → q (24 + c) = true → c ∈ ks) : zdh t q (vis ++ [x]) (st ++ ks) := by
  have key : ∀ c, (c ∈ vis ∨ c ∈ st ++ [x]) → c ∈ vis ++ [x] ∨ c ∈ st ++ ks := by
    intro c hc
    rcases hc with z | z
    · exact Or.inl (List.mem_append_left _ z)
    · rcases List.mem_append.mp z with z | z
      · exact Or.inr (List.mem_append_left _ z)
      · exact Or.inl (List.mem_append_right _ z)
  refine ⟨fun y hy c hc hq => ?_, key _ h.2⟩
  rcases List.mem_append.mp hy with hy | hy
  · exact key c (h.1 y hy c hc hq)
  · have : y = x := by simpa using hy
    rw [this] at hc
    exact Or.inr (List.mem_append_right _ (hk c hc hq))
theorem m_look_l {N : Nat} (hN : 100 < N) {t : ZT} (ht : zb t) (hw : zwf t [] 99 99) {q : Nat → Bool} : ∀ (x n : Nat) (vis st : List Nat) (T : zx_S), vis.length + x = 24 → x < n → zdg t vis st → zdh t q vis st → zcx T t [] → zat (T 9) 0 (st.map (fun s => 24 + s)) → (∀ e, zgd t e → (zcc (T 0) e 48 ≤ 0 ↔ q e = false)) →
    ∃ vis' T', f_X1_lookedAt_l19 N n (nI 48) (nI vis.length) (nI st.length) (nI vis.length) T = some (nI vis'.length, T') ∧ zfr [9] T T' ∧ zdg t vis' [] ∧ zdh t q vis' []
  | x, n + 1, vis, st, T, hv, hn, hd, hdh, hT, h9, hm => by
    have hlen := zdg_len ht hd
    rcases List.eq_nil_or_concat st with e | ⟨st', y, e⟩
    · subst e
      refine ⟨vis, T, ?_, zfr_refl, hd, hdh⟩
      rw [f_X1_lookedAt_l19, List.length_nil]
      by_cases h24 : 24 ≤ vis.length
      · rw [if_pos (by rw [zl24, nI_leI (by omega) (by omega)]; exact h24)]
      · rw [if_neg (by rw [zl24, nI_leI (by omega) (by omega)]; exact h24), if_pos (by decide)]
    · rw [List.concat_eq_append] at e
      subst e
      rw [List.length_append, show ([y] : List Nat).length = 1 from rfl] at hlen
      match x, hv, hn with
      | 0, hv, hn => omega
      | x + 1, hv, hn =>
        have hy0 := (hd.2.2.2 y (Or.inr (by simp))).1
        have hy := zb_lt ht hy0
        have h6 := ht.2.2.2.2 y
        have h5 := ht.2.2.2.1 y
        have hl1 := hT.2.1 y hy
        rw [if_neg hy0] at hl1
        have hl3 := hT.2.2.1 y hy hy0
        rw [List.map_append] at h9
        have h9a := zat_app.mp h9
        have htop : T 9 st'.length = nI (24 + y) := by
          have := h9a.2.1
          rw [List.length_map, Nat.zero_add] at this
          exact this
        have hst : (st' ++ [y]).length = st'.length + 1 := by simp
        have hvl : (vis ++ [y]).length = vis.length + 1 := by simp
        have c1 : ¬ (24 : Int32) ≤ nI vis.length := by rw [zl24, nI_leI (by omega) (by omega)]; omega
        have c2 : ¬ nI (st'.length + 1) ≤ (0 : Int32) := by rw [zl0, nI_leI (by omega) (by omega)]; omega
        have c3 : nI (st'.length + 1) + -1 = nI st'.length := by rw [zlm1, zi_dec (by omega), Nat.add_sub_cancel]
        have c4 : nI vis.length + 1 = nI (vis.length + 1) := by rw [zl1, nI_add]
        rw [f_X1_lookedAt_l19, hst, if_neg c1, if_neg c2, m_n, c3, m_get (by omega) (by decide), m_b1, htop, m_n, c4, m_get (by omega) (by decide), m_b1, hl1]
        unfold f_X1_lookedAt_j71
        by_cases hl : zlv t y ≤ 1
        · rw [if_pos (by rw [zl0, nI_leI (by omega) (by omega)]; omega)]
          have hnk : ∀ c, 24 + c ∈ zes t y → q (24 + c) = true → c ∈ ([] : List Nat) := by
            intro c hc _
            have h2 := ht.1 y _ hc
            have h3 := h2.2.1
            unfold zil at h3
            rw [if_neg (by omega)] at h3
            have := h2.2.2 (by omega)
            omega
          obtain ⟨vis', T', a1, a3, a4, a5⟩ := m_look_l hN ht hw (q := q) x n (vis ++ [y]) (st' ++ []) T (by rw [hvl]; omega) (by omega) (zdg_step ht hw hd List.nodup_nil (fun c hc => absurd hc (List.not_mem_nil))) (zdh_step hdh hnk) hT (by rw [List.append_nil]; exact h9a.1) hm
          rw [List.append_nil, hvl] at a1
          refine ⟨vis', T', ?_, a3, a4, a5⟩
          obtain ⟨n2, hn2⟩ : ∃ n2, N = n2 + 1 := ⟨N - 1, by omega⟩
          rw [hn2, f_X1_lookedAt_l76, ← hn2, if_pos (by decide), m_n, c4]
          exact a1
        · rw [if_neg (by rw [zl0, nI_leI (by omega) (by omega)]; omega), m_get (by omega) (by decide), m_b1, hl3]
          have hg := zwf_zg hw (zwf_un24 hw)
          have hfull := zdg_len ht (zdg_step ht hw hd (zkd_nd ht hw.1) (fun c hc => (zkd_mem ht).mp hc))
          have hkl : (zkd t y).length = (zes t y).length := by unfold zkd; rw [if_neg hl, List.length_map]
          rw [List.length_append, List.length_append, hkl] at hfull
          obtain ⟨T1, ks, a1, a3, a5, a6, a7, a8⟩ := m_look_in (N := N) (x := y) (M := (zes t y).length) hy h5 (q := q) (K := f_X1_lookedAt_l19 N n) (v2 := nI (vis.length + 1)) (v4 := nI vis.length) (zes t y) 0 N T st' (by omega) (by omega) (by rw [Nat.add_zero]; exact hT.2.2.2.1 y hy) (by omega) h9a.1 (hw.1.1 y) (fun e he => ⟨zkd_ge ht hl he, (ht.1 y e he).1, hm e (hg y e he)⟩)
          have hT1 : zcx T1 t [] := zcx_keep hT (a8 1 (by decide)) (a8 2 (by decide)) (a8 3 (by decide)) (a8 4 (by decide)) (by rw [a8 10 (by decide)])
          obtain ⟨vis', T', b1, b3, b4, b5⟩ := m_look_l hN ht hw (q := q) x n (vis ++ [y]) (st' ++ ks) T1 (by rw [hvl]; omega) (by omega) (zdg_step ht hw hd a5 a6) (zdh_step hdh a7) hT1 a3 (fun e he => by
            rw [a8 0 (by decide)]
            exact hm e he)
          rw [hvl, List.length_append] at b1
          refine ⟨vis', T', ?_, zfr_trans a8 b3, b4, b5⟩
          rw [zl0, a1, nI_add]; exact b1
/-- a join holds what it joins -/
theorem zjf_le {f : Nat → Int32} {k : Nat} (hk : k < 2) : ∀ {l : List Nat} {a : Int32} {x : Nat}, x ∈ l → (zjf f k a l).toInt ≤ (f (4 * x + k)).toInt
  | y :: l, a, x, h => by
    rw [zjf]
    rcases List.mem_cons.mp h with e | h
    · rw [e]
      refine Int.le_trans (zjf_ord0 hk) ?_
      unfold zmm zmn
      rw [if_pos hk]
      split
      · exact Int.le_refl _
      · rename_i q
        rw [zi_ltt] at q
        omega
    · exact zjf_le hk h
theorem zjf_ge {f : Nat → Int32} {k : Nat} (hk : ¬ k < 2) : ∀ {l : List Nat} {a : Int32} {x : Nat}, x ∈ l → (f (4 * x + k)).toInt ≤ (zjf f k a l).toInt
  | y :: l, a, x, h => by
    rw [zjf]
    rcases List.mem_cons.mp h with e | h
    · rw [e]
      refine Int.le_trans ?_ (zjf_ord1 hk)
      unfold zmm zmx
      rw [if_neg hk]
      split
      · exact Int.le_refl _
      · rename_i q
        rw [zi_ltt] at q
        omega
    · exact zjf_ge hk h
theorem zjn_le {f : Nat → Int32} {k : Nat} (hk : k < 2) : ∀ {l : List Nat} {x : Nat}, x ∈ l → (zjn f l k).toInt ≤ (f (4 * x + k)).toInt
  | y :: l, x, h => by
    show (zjf f k (f (4 * y + k)) l).toInt ≤ _
    rcases List.mem_cons.mp h with e | h
    · rw [e]; exact zjf_ord0 hk
    · exact zjf_le hk h
theorem zjn_ge {f : Nat → Int32} {k : Nat} (hk : ¬ k < 2) : ∀ {l : List Nat} {x : Nat}, x ∈ l → (f (4 * x + k)).toInt ≤ (zjn f l k).toInt
  | y :: l, x, h => by
    show _ ≤ (zjf f k (f (4 * y + k)) l).toInt
    rcases List.mem_cons.mp h with e | h
    · rw [e]; exact zjf_ord1 hk
    · exact zjf_ge hk h
theorem zmq_up {f : Nat → Int32} {t : ZT} {a b c d : Int32} {s x : Nat} (hLC : zLC f t s) (hx : x ∈ zes t s) (h : zmq f a b c d x = true) : zmq f a b c d (24 + s) = true := by
  rw [zmq_iff] at h ⊢
  have hne : zes t s ≠ [] := fun z => by rw [z] at hx; cases hx
  have h0 := hLC hne 0 (by omega)
  have h1 := hLC hne 1 (by omega)
  have h2 := hLC hne 2 (by omega)
  have h3 := hLC hne 3 (by omega)
  have g0 := zjn_le (f := f) (k := 0) (by omega) hx
  have g1 := zjn_le (f := f) (k := 1) (by omega) hx
  have g2 := zjn_ge (f := f) (k := 2) (by omega) hx
  have g3 := zjn_ge (f := f) (k := 3) (by omega) hx
  rw [← h0, Nat.add_zero, Nat.add_zero] at g0
  rw [← h1] at g1
  rw [← h2] at g2
  rw [← h3] at g3
  omega
theorem zdh_up {f : Nat → Int32} {t : ZT} {a b c d : Int32} (ht : zb t) (hw : zwf t [] 99 99) (hLC : ∀ s, zlv t s ≠ 0 → zLC f t s) {vis : List Nat} (h : zdh t (zmq f a b c d) vis []) : ∀ (n y : Nat), zlv t y + n = zlv t (zrt t) → zlv t y ≠ 0 → zmq f a b c d (24 + y) = true → y ∈ vis ∧ ∀ v, zlv t y ≤ v → v ≤ zlv t (zrt t) → ∃ z, z ∈ vis ∧ zlv t z = v
  | 0, y, hn, h0, hq => by
    have hy : y = zrt t := by
      rcases Nat.decEq y (zrt t) with q | q
      · have := hw.2.2.2.2.2.2.2.1 y h0 q
        omega
      · exact q
    have hv : y ∈ vis := by
      rw [hy]
      rcases h.2 with z | z
      · exact z
      · cases z
    exact ⟨hv, fun v h1 h2 => ⟨y, hv, by omega⟩⟩
  | n + 1, y, hn, h0, hq => by
    have hyr : y ≠ zrt t := fun z => by rw [z] at hn; omega
    have hy24 := zb_lt ht h0
    rcases (hw.2.2.1 (24 + y)).mpr (Or.inr ⟨by omega, by omega, by rw [Nat.add_sub_cancel_left]; exact h0, by rw [Nat.add_sub_cancel_left]; exact hyr⟩) with z | ⟨p, hp⟩
    · cases z
    have hp0 : zlv t p ≠ 0 := fun z => by rw [ht.2.1 p z] at hp; cases hp
    have hlp := (ht.1 p _ hp).2.1
    unfold zil at hlp
    rw [if_neg (by omega), Nat.add_sub_cancel_left] at hlp
    obtain ⟨i1, i2⟩ := zdh_up ht hw hLC h n p (by omega) hp0 (zmq_up (hLC p hp0) hp hq)
    have hv : y ∈ vis := by
      rcases h.1 p i1 y hp hq with z | z
      · exact z
      · cases z
    refine ⟨hv, fun v h1 h2 => ?_⟩
    rcases Nat.lt_or_ge (zlv t y) v with q | q
    · exact i2 v (by omega) h2
    · exact ⟨y, hv, by omega⟩
theorem rd_looks {N : Nat} (hN : 100 < N) {S Sx : zx_S} {t : ZT} {f : Nat → Int32} {B : zx_B} {a b c d : Int32} (h : zK S Sx t f B) (hb : zbk a b c d) : ∃ v B', f_L_tryLooks N a b c d B = some (nI v, B') ∧ zK S Sx t f B' ∧ 1 ≤ v ∧ v ≤ (zdo t).length ∧ ((∃ i, i < 24 ∧ zmt t f a b c d i = true) → zlv t (zrt t) ≤ v) := by
  obtain ⟨T1, e1, hK, hm, _⟩ := rd_asked (N := N) hN h hb
  have ht := zK_zb h
  have hw := hK.2.1.2.2.1
  obtain ⟨T2, eT2⟩ : ∃ T2, T2 = zx_st T1 9 (upd (T1 9) 0 (nI (24 + zrt t))) := ⟨_, rfl⟩
  have fT : zfr [9] T1 T2 := by rw [eT2]; exact zfr_st (by simp) zfr_refl
  have hT1 := hK.2.1.1
  rw [zsb_at] at hT1
  have hroot : T1 10 0 = nI (24 + zrt t) := hT1.2.2.2.2.2.2
  have hT2 : zcx T2 t [] := zcx_keep hT1 (fT 1 (by decide)) (fT 2 (by decide)) (fT 3 (by decide)) (fT 4 (by decide)) (by rw [fT 10 (by decide)])
  have hd : zdg t [] [zrt t] := by
    have := zdf_init hw
    exact ⟨this.1, this.2.1, this.2.2.1, this.2.2.2.1⟩
  obtain ⟨vis, T3, a1, a3, a4, a5⟩ := m_look_l (N := N) hN ht hw (q := zmq f a b c d) 24 N [] [zrt t] T2 rfl (by omega) hd ⟨fun y hy => absurd hy (List.not_mem_nil), Or.inr (by simp)⟩ hT2 ⟨by rw [eT2, st_at, up_at], trivial⟩ (fun e he => by
    rw [fT 0 (by decide)]
    exact hm e he)
  have hroot' : zrt t ∈ vis := by
    rcases a5.2 with z | z
    · exact z
    · cases z
  refine ⟨vis.length, zx_sb (zx_sb B 0 T1) 0 T3, ?_, zK_sc hK (zsc_sb (by rw [zsb_at]; exact zte_fr (zfr_trans (zfr_sub fT (by decide)) (zfr_sub a3 (by decide))))), ?_, ?_, ?_⟩
  · refine tr_tryLooks0 ?_
    rcases z_isBox (N := N) (a := a) (b := b) (c := c) (d := d) with ⟨_, i1, _⟩ | ⟨hn, _, _⟩
    · unfold f_X2_looks f_X1_lookedAt
      rw [i1, m_b1, if_neg (by decide), zl48, e1, m_b1, m_n, zsb_at, hroot, zl0, m_put (by decide) (by decide), m_b1, m_n, ← eT2]
      simp only [List.length_nil] at a1
      rw [show nI [zrt t].length = 1 from rfl] at a1
      rw [a1, m_b2, m_n]
    · exact absurd hb hn
  · match vis, hroot' with
    | x :: l, _ => simp
  · exact zsub_len a4.1 (fun x hx => (zdo_mem hw).mpr (a4.2.2.2 x (Or.inl hx)).1)
  · rintro ⟨i, hi, hmt⟩
    unfold zmt at hmt
    rw [Bool.and_eq_true] at hmt
    have hLC : ∀ s, zlv t s ≠ 0 → zLC f t s := by
      intro s hs hne k hk
      have hs24 := zb_lt ht hs
      have := h.2.1.2.2.2.1.2 s hs hne k hk
      rw [h.2.2 _ (by omega)] at this
      rw [this]
      exact zjn_congr (fun x hx => h.2.2 _ (by have := (ht.1 s x hx).1; omega))
    obtain ⟨s, hs, hms, _⟩ := (z_pr2 h.2.1.1 h.2.1.2.2.1 hi).1 hmt.1
    have hs0 : zlv t s ≠ 0 := fun z => by rw [ht.2.1 s z] at hms; cases hms
    have hl1 : zlv t s = 1 := by
      have := (ht.1 s i hms).2.1
      unfold zil at this
      rw [if_pos hi] at this
      omega
    have hle : zlv t s ≤ zlv t (zrt t) := by
      rcases Nat.decEq s (zrt t) with q | q
      · have := hw.2.2.2.2.2.2.2.1 s hs0 q
        omega
      · rw [q]; exact Nat.le_refl _
    obtain ⟨_, g2⟩ := zdh_up ht hw hLC a5 (zlv t (zrt t) - zlv t s) s (by omega) hs0 (zmq_up (hLC s hs0) hms hmt.2)
    have hlen := zsub_len (l := (List.range (zlv t (zrt t))).map (fun j => j + 1)) (m := vis.map (fun y => zlv t y)) (List.pairwise_map.mpr (List.Pairwise.imp (fun h => by omega) List.nodup_range)) (fun x hx => by
      obtain ⟨j, hj, rfl⟩ := List.mem_map.mp hx
      have hj2 := List.mem_range.mp hj
      obtain ⟨z, hz, ez⟩ := g2 (j + 1) (by omega) (by omega)
      exact List.mem_map.mpr ⟨z, hz, ez⟩)
    rw [List.length_map, List.length_map, List.length_range] at hlen
    exact hlen
/-- the chosen node -/
theorem rd_chosen {N : Nat} (hN : 100 < N) {S Sx : zx_S} {t : ZT} {f : Nat → Int32} {B : zx_B} {a b c d : Int32} (h : zK S Sx t f B) (hb : zbk a b c d) : ∃ j B', f_L_tryChosen N a b c d B = some (nI j, B') ∧ zK S Sx t f B' ∧ j < (zdo t).length ∧ zlv t ((zdo t).getD j 0) = 1 := by
  obtain ⟨T1, e1, hK, _, hbd, hk, _⟩ := rd_asked (N := N) hN h hb
  have hw := hK.2.1.2.2.1
  have ht := zK_zb h
  have hg := zwf_zg hw (zwf_un24 hw)
  obtain ⟨S1, e2, f2, hr1, hA⟩ := z_layA (N := N) hN (by decide) hK.2.1
  rw [zsb_at] at hA
  obtain ⟨S2, eS2⟩ : ∃ S2, S2 = zx_st S1 6 (fun j => if j < 220 then S1 6 j else zrk a b c d (j - 220)) := ⟨_, rfl⟩
  have fS : zfr [6] S1 S2 := by rw [eS2]; exact zfr_st (by simp) zfr_refl
  have hS26 : ∀ j, S2 6 j = if j < 220 then S1 6 j else zrk a b c d (j - 220) := fun j => by rw [eS2, st_at]
  have hT1 := hK.2.1.1
  rw [zsb_at] at hT1
  have hr2 : zref (S2 1) t := by rw [fS 1 (by decide)]; exact hr1
  have hA2 : ∀ e, zgd t e → zbd (T1 0) e ∧ ∀ k, k < 4 → T1 0 (4 * e + k) = S2 6 (4 * e + k) := by
    intro e he
    obtain ⟨h1, h2⟩ := hA e he
    refine ⟨h1, fun k hk => ?_⟩
    have he48 : e < 48 := by rcases he with z | z <;> omega
    rw [hS26, if_pos (by omega)]
    exact h2 k hk
  have hcc : ∀ k, k < 4 → T1 0 (4 * 48 + k) = S2 6 (4 * 55 + k) := by
    intro k hk4
    rw [hk k hk4, hS26, if_neg (by omega), show 4 * 55 + k - 220 = k by omega]
  have hrt := hw.2.2.2.2.2.2.1
  have hR := zwf_lv hw (by decide)
  obtain ⟨s', ⟨hs', _⟩, hl', r1, _⟩ := z_reach (N := N) (w := 1) hN hT1 hr2 ht hg hA2 (fun s hs => zwf_ne hw (zwf_un24 hw) hs) (c := 48) (c' := 55) (v := 1) (by decide) (by decide) hbd hcc (by decide) (zlv t (zrt t) - 1) N N (zrt t) 0 (by omega) (by omega) hrt.1 (by omega) (by omega) ⟨0, rfl⟩
  have hs0 : zlv t s' ≠ 0 := by omega
  obtain ⟨T2, j, n1, n2, n3, n4⟩ := m_numberOf (N := N) hN hT1 hw hs0
  have hroot : T1 10 0 = nI (24 + zrt t) := hT1.2.2.2.2.2.2
  refine ⟨j, zx_sb (zx_sb B 0 T1) 0 T2, ?_, zK_sc hK (zsc_sb (by rw [zsb_at]; exact zte_fr (zfr_sub n4 (by decide)))), n2, by rw [n3]; exact hl'⟩
  refine tr_tryChosen0 ?_
  rcases z_isBox (N := N) (a := a) (b := b) (c := c) (d := d) with ⟨_, i1, _⟩ | ⟨hn, _, _⟩
  · unfold f_X2_chosen f_X1_reached
    rw [i1, m_b1, if_neg (by decide), zl48, e1, m_b1, m_n, zsb_at, hroot, zl0, r1, m_b1, n1, m_b2, m_n]
  · exact absurd hb hn
theorem z_isCell2 {N : Nat} {a b : Int32} (c1 : 0 ≤ a.toInt ∧ a.toInt ≤ 99) (c2 : 0 ≤ b.toInt ∧ b.toInt ≤ 99) : f_X2_isCell N a b = some (nI 1) := by
  have z100 : ∀ x : Int32, (100 : Int32) ≤ x ↔ 100 ≤ x.toInt := fun x => by rw [Int32.le_iff_toInt_le]; rfl
  unfold f_X2_isCell
  rw [if_neg (by rw [zi_lt0]; omega), if_neg (by rw [z100]; omega), if_neg (by rw [zi_lt0]; omega), if_neg (by rw [z100]; omega)]; rfl
/-- the nearest one is there, or none is -/
theorem m_rk_l {N w : Nat} {T S : zx_S} {t : ZT} {px py rank : Int32} (hQ : zQ w T S t) : ∀ (d n k : Nat) (x : Int32), d < n → k + d = 24 → f_X1_ranked_l3 N T n px py rank (nI k) = some x → x = -1 ∨ ∃ i, i < 24 ∧ zpr t i = true ∧ x = nI i
  | 0, n + 1, k, x, hn, hk, h => by
    obtain rfl : k = 24 := by omega
    rw [f_X1_ranked_l3, if_pos (by decide)] at h
    exact Or.inl (Option.some.inj h).symm
  | d + 1, n + 1, k, x, hn, hk, h => by
    have h24 : ¬ (24 : Int32) ≤ nI k := by rw [zl24, nI_leI (by omega) (by omega)]; omega
    have hk1 : nI k + 1 = nI (k + 1) := by rw [zl1, nI_add]
    rw [f_X1_ranked_l3, if_neg h24] at h
    unfold f_X1_ranked_j34 at h
    rw [hk1] at h
    simp only [m_n] at h
    rcases z_has (N := N) hQ (nI k) with ⟨i, hi, e, hp, c1, _⟩ | ⟨hno, c1, _⟩
    · have := (nI_eq (by omega) (by omega)).mp e
      subst this
      rw [c1, m_b1, if_neg (by decide)] at h
      obtain ⟨acc, _, h⟩ := zx_b1E h
      by_cases q : acc = rank
      · rw [if_pos q] at h
        exact Or.inr ⟨k, hi, hp, (Option.some.inj h).symm⟩
      · rw [if_neg q] at h
        exact m_rk_l hQ d n (k + 1) x (by omega) (by omega) h
    · rw [c1, m_b1, if_pos (by decide)] at h
      exact m_rk_l hQ d n (k + 1) x (by omega) (by omega) h
theorem rd_nearest {N : Nat} (hN : 100 < N) {S Sx : zx_S} {t : ZT} {f : Nat → Int32} {B : zx_B} {a b : Int32} (h : zK S Sx t f B) (ha : 0 ≤ a.toInt ∧ a.toInt ≤ 99) (hb : 0 ≤ b.toInt ∧ b.toInt ≤ 99) : ∃ x, f_L_call N 9 a b 0 B = some (x, B) ∧ (x = -1 ∨ ∃ i, i < 24 ∧ zpr t i = true ∧ x = nI i) := by
  obtain ⟨x, e1, _⟩ := z_near (N := N) (rank := 0) hN h.2.1 ha hb
  refine ⟨x, ?_, m_rk_l (N := N) (px := a) (py := b) (rank := 0) h.2.1 24 N 0 x (by omega) (by omega) ?_⟩
  · rw [ca_9]
    refine tr_tryNearest0 ?_
    rcases z_isCell (N := N) (a := a) (b := b) with ⟨_, i1, _⟩ | ⟨i1, i2⟩
    · unfold f_X2_nearest
      rw [i1, m_b1, if_neg (by decide), if_pos (by decide), e1, m_b1]
    · exfalso
      have i3 := z_isCell2 (N := N) ha hb
      rw [i1] at i3
      exact absurd (Option.some.inj i3) (by decide)
  · unfold f_X1_ranked at e1
    exact e1
