/-! a rectangle is taken out: nodes that dissolve -/
theorem zwf_weak {t : ZT} {lo : List Nat} {ov un : Nat} (h : zwf t lo ov 99) : zwf t lo ov un := by
  obtain ⟨a1, a2, a3, a4, a5, a6, a7, a8, a9, a10, a11, a12⟩ := h
  refine ⟨a1, a2, a3, a4, a5, a6, a7, a8, fun s z1 z2 _ => a9 s z1 z2 (fun z => ?_), a10, fun z _ => a11 z (fun z2 => ?_), a12⟩
  · exact z1 (a6 s (by omega))
  · have := a7.1; omega
theorem zwf_perm {t : ZT} {lo lo' : List Nat} {ov un : Nat} (h : zwf t lo ov un) (hp : lo.Perm lo') : zwf t lo' ov un := by
  obtain ⟨a1, a2, a3, a4⟩ := h
  refine ⟨a1, ⟨hp.nodup_iff.mp a2.1, fun c hc => a2.2 c (hp.mem_iff.mpr hc)⟩, fun c => ?_, a4⟩
  rw [← hp.mem_iff]
  exact a3 c
theorem zwf_lv1 {t : ZT} {lo : List Nat} {ov un : Nat} (h : zwf t lo ov un) (h1 : zlv t (zrt t) = 1) : zwf t lo ov 99 := by
  obtain ⟨a1, a2, a3, a4, a5, a6, a7, a8, a9, a10, a11, a12⟩ := h
  refine ⟨a1, a2, a3, a4, a5, a6, a7, a8, fun s z1 z2 _ => ?_, a10, fun z _ => ?_, a12⟩
  · have := a8 s z1 z2; omega
  · omega
theorem zwf_zg2 {t : ZT} {lo : List Nat} {ov un : Nat} (h : zwf t lo ov un) (hun : un = zrt t ∨ zes t un ≠ []) : zg t := by
  intro s c hc
  obtain ⟨a1, a2, a3, a4, a5, a6, a7, a8, a9, a10, a11, a12⟩ := h
  rcases (a3 c).mp (Or.inr ⟨s, hc⟩) with ⟨z1, z2⟩ | ⟨z1, z2, z3, z4⟩
  · exact Or.inl ⟨z1, z2⟩
  · refine Or.inr ⟨z1, z2, z3, ?_⟩
    by_cases hu : c - 24 = un
    · rcases hun with z | z
      · exact absurd (hu.trans z) z4
      · rw [hu]; exact z
    · have := a9 (c - 24) z3 z4 hu
      intro z
      rw [z] at this
      simp at this
/-- one box is laid anew -/
theorem z_fit1 {N : Nat} (hN : 100 < N) {t : ZT} (ht : zb t) (hg : zg t) (hc : zcr t) {s : Nat} {T : zx_S} (hs0 : zlv t s ≠ 0) (hT : zcx T t []) (hrb : zrb (T 0) t) (hLC : ∀ j, zlv t j ≠ 0 → j ≠ s → zLC (T 0) t j) :
    ∃ T', f_X1_fit N (nI (24 + s)) T = some T' ∧ zfr [0] T T' ∧ zcx T' t [] ∧ zrb (T' 0) t ∧ (∀ j, zlv t j ≠ 0 → 24 + s ∉ zes t j → zLC (T' 0) t j) := by
  have hs : s < 24 := zb_lt ht hs0
  have hl5 := ht.2.2.2.1 s
  obtain ⟨T1, e1, f1, g1, o1⟩ := m_fit (N := N) hN (T := T) (a := 24 + s) (l := zes t s) (by omega) (hT.2.2.1 s hs hs0) hl5 (hT.2.2.2.1 s hs) (fun x hx => by have := (ht.1 s x hx).1; omega) (fun x k hx hk => by
    refine zbounds ht hg hrb hc (zlv t s - 1) (fun j z1 z2 => hLC j z1 (fun z => by rw [z] at z2; omega)) x ?_ (hg s x hx) k hk
    have := (ht.1 s x hx).2.1
    omega)
  refine ⟨T1, e1, f1, zcx_keep hT (f1 1 (by decide)) (f1 2 (by decide)) (f1 3 (by decide)) (f1 4 (by decide)) (by rw [f1 10 (by decide)]), fun i k hi hk hp => by rw [o1 _ (by omega)]; exact hrb i k hi hk hp, fun j z1 z3 => ?_⟩
  by_cases hj : j = s
  · rw [hj]
    intro hne k hk
    rw [g1 hne k hk]
    exact zjn_congr (fun x hx => by
      have := zb_self ht hx
      rw [o1 _ (by omega)])
  · refine zLC_ext (hLC j z1 hj) rfl (fun k hk => o1 _ (by omega)) (fun x hx k hk => ?_)
    have : x ≠ 24 + s := fun z => z3 (z ▸ hx)
    exact o1 _ (by omega)
/-- the class lays the boxes up to the root -/
theorem z_disFit {N : Nat} (hN : 100 < N) {t : ZT} {lo : List Nat} (hwf : zwf t lo 99 (zrt t)) (ht : zb t) {v2 : Int32} : ∀ (d n s step : Nat) (T : zx_S), d < n → zlv t s + d = 7 → step + d ≤ 8 → zlv t s ≠ 0 → (∀ c, c ∈ lo → zil t c < zlv t s) → zcx T t [] → zrb (T 0) t → (∀ j, zlv t j ≠ 0 → j ≠ s → zLC (T 0) t j) →
    ∃ T', f_X1_dissolveUpward_l7 N n v2 (nI (24 + s)) (nI step) T = some (v2, T') ∧ zfr [0] T T' ∧ zcx T' t [] ∧ zcbx T' t
  | 0, n + 1, s, step, T, _, hl, _, _, _, _, _, _ => by
    have := ht.2.2.2.2 s
    omega
  | d + 1, n + 1, s, step, T, hn, hl, hst, hs0, hlo, hT, hrb, hLC => by
    have hs : s < 24 := zb_lt ht hs0
    have hg := zwf_zg2 hwf (Or.inl rfl)
    have hc := zwf_cr hwf
    have hroot : T 10 0 = nI (24 + zrt t) := hT.2.2.2.2.2.2
    have hrt := hwf.2.2.2.2.2.2.1
    obtain ⟨T1, e1, f1, hT1, hrb1, hLC1⟩ := z_fit1 (N := N) hN ht hg hc hs0 hT hrb hLC
    by_cases hsr : s = zrt t
    · refine ⟨T1, ?_, f1, hT1, hrb1, fun j z1 => hLC1 j z1 (fun z => ?_)⟩
      · rw [f_X1_dissolveUpward_l7]
        unfold f_X1_dissolveUpward_j134
        rw [hsr] at e1 ⊢
        simp (disch := omega) only [↓zlm1, ↓zlm2, zi_e1, zi_e2, zi_1e, zi_12, zi_21, zi_1n, zi_n1, if_true, if_false, eq_self, not_false_eq_true, not_true_eq_false, nI_add, zi_4m, zi_5m, zi_8m, zi_mul4, zi_mul5, zi_sub, nI_leI, nI_ltI, nI_eq, zl0, zl1, zl2, zl3, zl4, zl5, zl6, zl8, zl9, zl24, zl32, zl48, zl49, zl99, zl100, zl120, zl376, zl377, zl378, zl379, zl380, ↓zi_192, zi_dec, Nat.add_zero, Nat.zero_add, m_n, m_b1, m_b2, m_rd, m_wr, m_get, m_put, nI_clamp, st_at, st_ne, up_at, up_ne, if_pos, if_neg, hroot, e1]
      · rcases (hwf.2.2.1 _).mp (Or.inr ⟨j, z⟩) with y | y
        · omega
        · rw [Nat.add_sub_cancel_left] at y; exact y.2.2.2 hsr
    · have hil : zil t (24 + s) = zlv t s := by unfold zil; rw [if_neg (by omega), Nat.add_sub_cancel_left]
      obtain ⟨p, hp⟩ : ∃ p, 24 + s ∈ zes t p := by
        rcases (hwf.2.2.1 (24 + s)).mpr (Or.inr ⟨by omega, by omega, by rw [Nat.add_sub_cancel_left]; exact hs0, by rw [Nat.add_sub_cancel_left]; exact hsr⟩) with z | z
        · have := hlo _ z; omega
        · exact z
      have hpl := (ht.1 p _ hp).2.1
      rw [hil] at hpl
      have hp0 : zlv t p ≠ 0 := by omega
      have hp24 := zb_lt ht hp0
      have h2 := hT.2.2.2.2.1 p _ hp24 hp
      have hl2 := hwf.2.2.2.2.2.2.2.2.1 s hs0 hsr hsr
      have hl5 := ht.2.2.2.1 s
      have hl3 := hT.2.2.1 s hs hs0
      obtain ⟨T2, e2, f2, hT2, hbx⟩ := z_disFit hN hwf ht (v2 := v2) d n p (step + 1) T1 (by omega) (by omega) (by omega) hp0 (fun c hcl => by have := hlo c hcl; omega) hT1 hrb1 (fun j z1 z2 => hLC1 j z1 (fun z => z2 (hwf.1.2 j p _ z hp)))
      refine ⟨T2, ?_, zfr_trans f1 f2, hT2, hbx⟩
      have hp6 := ht.2.2.2.2 p
      rw [f_X1_dissolveUpward_l7]
      unfold f_X1_dissolveUpward_j125
      simp (disch := omega) only [↓zlm1, ↓zlm2, zi_e1, zi_e2, zi_1e, zi_12, zi_21, zi_1n, zi_n1, if_true, if_false, eq_self, not_false_eq_true, not_true_eq_false, nI_add, zi_4m, zi_5m, zi_8m, zi_mul4, zi_mul5, zi_sub, nI_leI, nI_ltI, nI_eq, zl0, zl1, zl2, zl3, zl4, zl5, zl6, zl8, zl9, zl24, zl32, zl48, zl49, zl99, zl100, zl120, zl376, zl377, zl378, zl379, zl380, ↓zi_192, zi_dec, Nat.add_zero, Nat.zero_add, m_n, m_b1, m_b2, m_rd, m_wr, m_get, m_put, nI_clamp, st_at, st_ne, up_at, up_ne, if_pos, if_neg, hroot, h2, hl3, e1, e2]
/-- the kept entries: one a level from the lowest on -/
def zks (T S : zx_S) (t : ZT) (ks : List Nat) : Prop := ks.length ≤ 6 ∧ (∀ k, k < ks.length → T 6 k = nI (ks.getD k 0) ∧ S 8 k = nI (ks.getD k 0) ∧ zil t (ks.getD k 0) = k) ∧ (∀ k, ks.length ≤ k → k < 6 → S 8 k = zM1)
theorem zks_lt {T S : zx_S} {t : ZT} {ks : List Nat} (h : zks T S t ks) {x : Nat} (hx : x ∈ ks) : zil t x < ks.length := by
  obtain ⟨k, hk, e⟩ := List.getElem_of_mem hx
  have := (h.2.1 k hk).2.2
  rw [List.getD_eq_getElem?_getD, List.getElem?_eq_getElem hk] at this
  simp only [Option.getD_some] at this
  rw [e] at this
  omega
theorem z_dis {N w : Nat} (hN : 100 < N) (hw8 : w ≠ 8) {i : Nat} (hi : i < 24) : ∀ (d n n' s step : Nat) (T S : zx_S) (t : ZT) (ks : List Nat), d < n → d < n' → zlv t s + d = 7 → step + d ≤ 8 → ks.length + 1 = zlv t s → zcx T t [] → zref (S w) t → zwf t (ks.reverse ++ [i]) 99 s → zlv t (zrt t) ≤ 4 → (zes t s ≠ [] ∨ (s = zrt t ∧ zlv t s = 1)) → zks T S t ks → zrb (T 0) t → (∀ j, zlv t j ≠ 0 → j ≠ s → zLC (T 0) t j) → zcnt T (S w) →
    ∃ T' S' t' ks', f_X1_dissolveUpward_l7 N n (nI ks.length) (nI (24 + s)) (nI step) T = some (nI ks'.length, T') ∧ f_X3_takeOut_l33 N w n' (nI s) S = f_X3_takeOut_l119 N w N S' ∧ zcx T' t' [] ∧ zref (S' w) t' ∧ zwf t' (ks'.reverse ++ [i]) 99 (zrt t') ∧ zrt t' = zrt t ∧ zlv t' (zrt t') = zlv t (zrt t) ∧ (1 < zlv t' (zrt t') → zes t' (zrt t') ≠ []) ∧ ks'.length < zlv t' (zrt t') ∧ zks T' S' t' ks' ∧ zcbx T' t' ∧ zcnt T' (S' w) ∧ zpr t' = zpr t ∧ zrc t' = zrc t ∧ zfr [0, 1, 2, 3, 4, 6, 10] T T' ∧ zfr [w, 8] S S'
  | 0, n + 1, n' + 1, s, step, T, S, t, ks, _, _, hl, _, hks, hT, hr, hwf, hR, hne, hk, hrb, hLC, hcnt => by
    have ht := zwf_zb hwf (by omega)
    have := ht.2.2.2.2 s
    omega
  | d + 1, n + 1, n' + 1, s, step, T, S, t, ks, hn, hn', hl, hst, hks, hT, hr, hwf, hR, hne, hk, hrb, hLC, hcnt => by
    have ht := zwf_zb hwf (by omega)
    have hu := hwf.1
    have hs0 : zlv t s ≠ 0 := by omega
    have hs : s < 24 := zb_lt ht hs0
    have hrt := hwf.2.2.2.2.2.2.1
    have hroot : T 10 0 = nI (24 + zrt t) := hT.2.2.2.2.2.2
    have hroot2 : S w 376 = nI (zrt t) := hr.2.2.2.2.2
    have hlo : ∀ c, c ∈ ks.reverse ++ [i] → zil t c < zlv t s := fun c hc => by
      rcases List.mem_append.mp hc with z | z
      · have := zks_lt hk (List.mem_reverse.mp z); omega
      · rw [List.mem_singleton.mp z]; unfold zil; rw [if_pos hi]; omega
    have hm1 := hr.2.2.2.1 s (by omega)
    have hl3 := hT.2.2.1 s hs hs0
    have hl5 := ht.2.2.2.1 s
    by_cases hstop : s = zrt t ∨ 2 ≤ (zes t s).length
    · -- nothing more dissolves
      have hwr : zwf t (ks.reverse ++ [i]) 99 (zrt t) := by
        rcases hstop with z | z
        · rw [← z]; exact hwf
        · exact zwf_weak (zwf_un hwf z)
      obtain ⟨T2, e2, f2, hT2, hbx⟩ := z_disFit (N := N) hN hwr ht (v2 := nI ks.length) (d + 1) (n + 1) s step T (by omega) (by omega) (by omega) hs0 hlo hT hrb hLC
      refine ⟨T2, S, t, ks, e2, ?_, hT2, hr, hwr, rfl, rfl, fun h1 => ?_, ?_, ⟨hk.1, fun k z => ?_, hk.2.2⟩, hbx, ?_, rfl, rfl, zfr_sub f2 (by decide), zfr_refl⟩
      · rw [f_X3_takeOut_l33]
        by_cases hsr : s = zrt t
        · simp (disch := omega) only [↓zlm1, ↓zlm2, zi_e1, zi_e2, zi_1e, zi_12, zi_21, zi_1n, zi_n1, if_true, if_false, eq_self, not_false_eq_true, not_true_eq_false, nI_add, zi_4m, zi_5m, zi_8m, zi_mul4, zi_mul5, zi_sub, nI_leI, nI_ltI, nI_eq, zl0, zl1, zl2, zl3, zl4, zl5, zl6, zl8, zl9, zl24, zl32, zl48, zl49, zl99, zl100, zl120, zl376, zl377, zl378, zl379, zl380, ↓zi_192, zi_dec, Nat.add_zero, Nat.zero_add, m_n, m_b1, m_b2, m_rd, m_wr, m_get, m_put, nI_clamp, st_at, st_ne, up_at, up_ne, if_pos, if_neg, hroot2]
        · have h2 : 2 ≤ (zes t s).length := by rcases hstop with z | z; exact absurd z hsr; exact z
          simp (disch := omega) only [↓zlm1, ↓zlm2, zi_e1, zi_e2, zi_1e, zi_12, zi_21, zi_1n, zi_n1, if_true, if_false, eq_self, not_false_eq_true, not_true_eq_false, nI_add, zi_4m, zi_5m, zi_8m, zi_mul4, zi_mul5, zi_sub, nI_leI, nI_ltI, nI_eq, zl0, zl1, zl2, zl3, zl4, zl5, zl6, zl8, zl9, zl24, zl32, zl48, zl49, zl99, zl100, zl120, zl376, zl377, zl378, zl379, zl380, ↓zi_192, zi_dec, Nat.add_zero, Nat.zero_add, m_n, m_b1, m_b2, m_rd, m_wr, m_get, m_put, nI_clamp, st_at, st_ne, up_at, up_ne, if_pos, if_neg, hroot2, r_many, hm1]
      · by_cases hsr : s = zrt t
        · rcases hne with z | z
          · rw [← hsr]; exact z
          · rw [← hsr] at h1; omega
        · have := hwf.2.2.2.2.2.2.2.2.2.2.1 h1 (Ne.symm hsr)
          intro z
          rw [z] at this
          simp at this
      · by_cases hsr : s = zrt t
        · rw [← hsr]; omega
        · have := hwf.2.2.2.2.2.2.2.1 s hs0 hsr; omega
      · rw [f2 6 (by decide)]; exact hk.2.1 k z
      · unfold zcnt; rw [f2 10 (by decide)]; exact hcnt
    · -- the node dissolves
      have hsr : s ≠ zrt t := fun z => hstop (Or.inl z)
      have hlt : (zes t s).length < 2 := by
        rcases Nat.lt_or_ge (zes t s).length 2 with z | z
        · exact z
        · exact absurd (Or.inr z) hstop
      have hne1 : zes t s ≠ [] := by rcases hne with z | z; exact z; exact absurd z.1 hsr
      obtain ⟨e, hes⟩ : ∃ e, zes t s = [e] := by
        rcases hq : zes t s with _ | ⟨a, _ | ⟨b, l⟩⟩
        · exact absurd hq hne1
        · exact ⟨a, rfl⟩
        · rw [hq] at hlt; simp at hlt; omega
      have hil : zil t (24 + s) = zlv t s := by unfold zil; rw [if_neg (by omega), Nat.add_sub_cancel_left]
      obtain ⟨p, hp⟩ : ∃ p, 24 + s ∈ zes t p := by
        rcases (hwf.2.2.1 (24 + s)).mpr (Or.inr ⟨by omega, by omega, by rw [Nat.add_sub_cancel_left]; exact hs0, by rw [Nat.add_sub_cancel_left]; exact hsr⟩) with z | z
        · have := hlo _ z; omega
        · exact z
      have hpl := (ht.1 p _ hp).2.1
      rw [hil] at hpl
      have hp0 : zlv t p ≠ 0 := by omega
      have hp24 := zb_lt ht hp0
      have hps : p ≠ s := fun z => by rw [z] at hpl; omega
      have h2 := hT.2.2.2.2.1 p _ hp24 hp
      obtain ⟨l, m, hlm⟩ := List.append_of_mem hp
      have hei := ht.1 s e (by rw [hes]; simp)
      have h48 := fun j x (hx : x ∈ zes t j) => (ht.1 j x hx).1
      have hlen1 : (zes t s).length = 1 := by rw [hes]; rfl
      -- the class
      obtain ⟨T1, d1, hT1, f1⟩ := c_detach (N := N) hN (l := []) (m := []) (c := e) hT hu ht.2.2.2.1 h48 hs hs0 hes
      obtain ⟨t1, et1⟩ : ∃ t1, t1 = zE t s ([] ++ []) := ⟨_, rfl⟩
      rw [← et1] at hT1
      have hw1 : zwf t1 (e :: (ks.reverse ++ [i])) 99 s := by rw [et1]; exact zwf_take hwf (l := []) (m := []) hes (Or.inr rfl)
      have ht1 := zwf_zb hw1 (by rw [et1, zE_lv, zE_rt]; omega)
      have hes1 : ∀ j, j ≠ s → zes t1 j = zes t j := fun j hj => by rw [et1, zE_ne hj]
      have hes1s : zes t1 s = [] := by rw [et1, zE_at]; rfl
      have hlv1 : zlv t1 = zlv t := by rw [et1]; rfl
      obtain ⟨T2, eT2⟩ : ∃ T2, T2 = zx_st T1 6 (upd (T1 6) ks.length (nI e)) := ⟨_, rfl⟩
      have hT2 : zcx T2 t1 [] := by
        refine zcx_keep hT1 ?_ ?_ ?_ ?_ ?_
        all_goals rw [eT2]; simp (disch := omega) only [m_n, m_b1, m_b2, m_rd, m_wr, m_get, m_put, nI_clamp, st_at, st_ne, up_at, up_ne, if_pos, if_neg]
      have hlm1 : zes t1 p = l ++ (24 + s) :: m := by rw [hes1 p hps]; exact hlm
      obtain ⟨T3, d3, hT3, f3⟩ := c_detach (N := N) hN hT2 hw1.1 ht1.2.2.2.1 (fun j x hx => (ht1.1 j x hx).1) hp24 (by rw [hlv1]; exact hp0) hlm1
      have hT4 := c_free (q := s) hT3 hs (by rw [zE_ne (Ne.symm hps)]; exact hes1s)
      obtain ⟨T4, eT4⟩ : ∃ T4, T4 = zx_st T3 1 (upd (T3 1) (24 + s) zM2) := ⟨_, rfl⟩
      rw [← eT4] at hT4
      obtain ⟨t4, et4⟩ : ∃ t4, t4 = zL (zE t1 p (l ++ m)) s 0 := ⟨_, rfl⟩
      rw [← et4] at hT4
      have hw4 : zwf t4 ((ks ++ [e]).reverse ++ [i]) 99 p := by
        rw [et4, List.reverse_append]
        exact zwf_drop hw1 (by rw [et1]; exact hsr) (by rw [hlv1]; exact hs0) hes1s hlm1
      obtain ⟨T5, eT5⟩ : ∃ T5, T5 = zx_st T4 10 (upd (T4 10) 3 (T4 10 3 + nI 1)) := ⟨_, rfl⟩
      have hT5 : zcx T5 t4 [] := by
        refine zcx_keep hT4 ?_ ?_ ?_ ?_ ?_
        all_goals rw [eT5]; simp (disch := omega) only [m_n, m_b1, m_b2, m_rd, m_wr, m_get, m_put, nI_clamp, st_at, st_ne, up_at, up_ne, if_pos, if_neg]
      -- the reference
      have hnw := d_nodeWith1 (N := N) hN ht hu hr hp
      have hlo2 := r_levelOf (N := N) (r := S w) (s := s) (v := zlv t s) (by omega) (hr.2.2.1 s (by omega)) (by omega)
      have hz := hr.2.2.2.2.1 s (by omega)
      rw [hes] at hz
      have hz0 : S w (120 + 8 * s + 2) = nI e := hz.1
      obtain ⟨r1, q1, hr1, k1⟩ := d_cutOut (N := N) hN hr hu ht.2.2.2.1 h48 (by omega) hlm
      have h5r1 : ∀ j, (zes (zE t p (l ++ m)) j).length ≤ 5 := fun j => by
        by_cases hj : j = p
        · have := ht.2.2.2.1 p
          rw [hlm] at this
          rw [hj, zE_at]; simp at this ⊢; omega
        · rw [zE_ne hj]; exact ht.2.2.2.1 j
      obtain ⟨r2, q2, hr2, k2⟩ := d_clear (N := N) hN hr1 h5r1 (s := s) (by omega)
      have hr3 : zref (upd r2 379 (r2 379 + nI 1)) t4 := by
        refine zref_ext (zref_cnt hr2 (fun j => ?_) (by omega)) (fun j => ?_) (fun j => ?_) ?_ ?_ ?_
        · rw [zL_es]
          by_cases hj : j = s
          · rw [hj, zE_at]; simp
          · rw [zE_ne hj]; exact h5r1 j
        · rw [et4]
          by_cases hj : j = s
          · rw [hj, zL_at, zL_at]
          · rw [zL_ne hj, zL_ne hj, zE_lv, hlv1]; rfl
        · rw [et4, zL_es, zL_es]
          by_cases hj : j = s
          · rw [hj, zE_at, zE_ne (Ne.symm hps)]; exact hes1s
          · by_cases hjp : j = p
            · rw [hjp, zE_at, zE_ne hps, zE_at]
            · rw [zE_ne hjp, zE_ne hj, zE_ne hjp]; exact hes1 j hj
        · rw [et4, et1]; rfl
        · rw [et4, et1]; rfl
        · rw [et4, et1]; rfl
      obtain ⟨S3, eS3⟩ : ∃ S3, S3 = zx_st (zx_st (zx_st (zx_st S 8 (upd (S 8) (zlv t s - 1) (nI e))) w r1) w r2) w (upd r2 379 (r2 379 + nI 1)) := ⟨_, rfl⟩
      have hS3w : S3 w = upd r2 379 (r2 379 + nI 1) := by rw [eS3, st_at]
      have hS38 : S3 8 = upd (S 8) (zlv t s - 1) (nI e) := by rw [eS3, st_ne (Ne.symm hw8), st_ne (Ne.symm hw8), st_ne (Ne.symm hw8), st_at]
      have hT56 : T5 6 = upd (T 6) ks.length (nI e) := by
        rw [eT5, st_ne (by decide), eT4, st_ne (by decide), f3 6 (by decide), eT2, st_at, f1 6 (by decide)]
      have hT50 : T5 0 = T 0 := by
        rw [eT5, st_ne (by decide), eT4, st_ne (by decide), f3 0 (by decide), eT2, st_ne (by decide), f1 0 (by decide)]
      have hT410 : T4 10 = T 10 := by
        rw [eT4, st_ne (by decide), f3 10 (by decide), eT2, st_ne (by decide), f1 10 (by decide)]
      have hlv4 : ∀ j, j ≠ s → zlv t4 j = zlv t j := fun j hj => by rw [et4, zL_ne hj, zE_lv, hlv1]
      have hes4 : ∀ j, j ≠ s → j ≠ p → zes t4 j = zes t j := fun j h1 h2 => by rw [et4, zL_es, zE_ne h2]; exact hes1 j h1
      have hes4p : zes t4 p = l ++ m := by rw [et4, zL_es, zE_at]
      have hil4 : ∀ x, x ≠ 24 + s → zil t4 x = zil t x := fun x hx => by
        unfold zil
        by_cases h24 : x < 24
        · rw [if_pos h24, if_pos h24]
        · rw [if_neg h24, if_neg h24, hlv4 _ (by omega)]
      have hrt4 : zrt t4 = zrt t := by rw [et4, et1]; rfl
      have hpge : 2 ≤ (zes t p).length := by
        by_cases hpr : p = zrt t
        · rw [hpr]; exact hwf.2.2.2.2.2.2.2.2.2.2.1 (by rw [← hpr]; omega) (Ne.symm hsr)
        · exact hwf.2.2.2.2.2.2.2.2.1 p hp0 hpr hps
      have hee : e ≠ 24 + s := zb_self ht (by rw [hes]; simp)
      have hks4 : zks T5 S3 t4 (ks ++ [e]) := by
        have hlen : (ks ++ [e]).length = ks.length + 1 := by simp
        refine ⟨by rw [hlen]; have := ht.2.2.2.2 s; omega, fun k hk2 => ?_, fun k hk2 hk3 => ?_⟩
        · rw [hlen] at hk2
          by_cases hkk : k = ks.length
          · have hg : (ks ++ [e]).getD k 0 = e := by rw [hkk]; simp
            rw [hg, hT56, hS38]
            refine ⟨by rw [hkk, up_at], by rw [show zlv t s - 1 = k by omega, up_at], ?_⟩
            rw [hil4 e hee]; omega
          · have hg : (ks ++ [e]).getD k 0 = ks.getD k 0 := by
              rw [List.getD_eq_getElem?_getD, List.getD_eq_getElem?_getD, List.getElem?_append_left (by omega)]
            obtain ⟨g1, g2, g3⟩ := hk.2.1 k (by omega)
            rw [hg, hT56, hS38, up_ne hkk, up_ne (by omega)]
            refine ⟨g1, g2, ?_⟩
            rw [hil4 _ (fun z => by rw [z, hil] at g3; omega)]
            exact g3
        · rw [hlen] at hk2
          rw [hS38, up_ne (by omega)]
          exact hk.2.2 k (by omega) hk3
      obtain ⟨T', S', t', ks', r1', r2', r3, r4, r5, r6, r7, r8, r9, r10, r11, r12, r13, r14, r15, r16⟩ := z_dis hN hw8 hi d n n' p (step + 1) T5 S3 t4 (ks ++ [e]) (by omega) (by omega) (by rw [hlv4 p hps]; omega) (by omega) (by rw [hlv4 p hps]; simp; omega) hT5 (by rw [hS3w]; exact hr3) hw4 (by rw [hrt4, hlv4 _ (Ne.symm hsr)]; exact hR) (Or.inl (by
          rw [hes4p]
          intro z
          rw [hlm] at hpge
          have h0 : (l ++ m).length = 0 := by rw [z]; rfl
          simp at hpge h0
          rw [h0.1, h0.2] at hpge
          simp at hpge)) hks4 (by
          rw [hT50]
          intro a b ha hb hp4
          rw [et4, et1] at hp4
          rw [et4, et1]
          exact hrb a b ha hb hp4) (fun j z1 z2 => by
          rw [hT50]
          have hjs : j ≠ s := fun z => z1 (by rw [z, et4, zL_at])
          rw [hlv4 j hjs] at z1
          exact zLC_ext (hLC j z1 hjs) (hes4 j hjs z2) (fun k hk => rfl) (fun x hx k hk => rfl)) (by
          unfold zcnt
          rw [hS3w, up_at, up_ne (by decide), up_ne (by decide), k2 377 (by omega), k2 378 (by omega), k2 379 (by omega), k1 377 (by omega), k1 378 (by omega), k1 379 (by omega), eT5, st_at, up_at, up_ne (by decide), up_ne (by decide), hT410]
          exact ⟨hcnt.1, hcnt.2.1, by rw [hcnt.2.2]⟩)
      refine ⟨T', S', t', ks', ?_, ?_, r3, r4, r5, r6.trans hrt4, ?_, r8, r9, r10, r11, r12, r13.trans (by rw [et4, et1]; rfl), r14.trans (by rw [et4, et1]; rfl), ?_, ?_⟩
      · rw [← r1', f_X1_dissolveUpward_l7]
        unfold f_X1_dissolveUpward_j92 f_X1_dissolveUpward_j125
        have h0e : T 4 (5 * (24 + s)) = nI e := by
          have := hT.2.2.2.1 s hs
          rw [hes] at this
          exact this.1
        have hksl : ks.length < 8 := by have := hk.1; omega
        simp (disch := omega) only [↓zlm1, ↓zlm2, zi_e1, zi_e2, zi_1e, zi_12, zi_21, zi_1n, zi_n1, if_true, if_false, eq_self, not_false_eq_true, not_true_eq_false, nI_add, zi_4m, zi_5m, zi_8m, zi_mul4, zi_mul5, zi_sub, nI_leI, nI_ltI, nI_eq, zl0, zl1, zl2, zl3, zl4, zl5, zl6, zl8, zl9, zl24, zl32, zl48, zl49, zl99, zl100, zl120, zl376, zl377, zl378, zl379, zl380, ↓zi_192, zi_dec, Nat.add_zero, Nat.zero_add, m_n, m_b1, m_b2, m_rd, m_wr, m_get, m_put, nI_clamp, st_at, st_ne, up_at, up_ne, if_pos, if_neg, hroot, h2, hl3, hlen1, h0e, d1]
        rw [← eT2, d3]
        simp (disch := omega) only [↓zlm1, ↓zlm2, zi_e1, zi_e2, zi_1e, zi_12, zi_21, zi_1n, zi_n1, if_true, if_false, eq_self, not_false_eq_true, not_true_eq_false, nI_add, zi_4m, zi_5m, zi_8m, zi_mul4, zi_mul5, zi_sub, nI_leI, nI_ltI, nI_eq, zl0, zl1, zl2, zl3, zl4, zl5, zl6, zl8, zl9, zl24, zl32, zl48, zl49, zl99, zl100, zl120, zl376, zl377, zl378, zl379, zl380, ↓zi_192, zi_dec, Nat.add_zero, Nat.zero_add, m_n, m_b1, m_b2, m_rd, m_wr, m_get, m_put, nI_clamp, st_at, st_ne, up_at, up_ne, if_pos, if_neg]
        rw [← eT4, show T3 10 = T4 10 by rw [eT4, st_ne (by decide)], ← eT5]
        rw [show (ks ++ [e]).length = ks.length + 1 by simp]
      · rw [← r2', f_X3_takeOut_l33]
        unfold f_X3_takeOut_j88
        simp (disch := omega) only [↓zlm1, ↓zlm2, zi_e1, zi_e2, zi_1e, zi_12, zi_21, zi_1n, zi_n1, if_true, if_false, eq_self, not_false_eq_true, not_true_eq_false, nI_add, zi_4m, zi_5m, zi_8m, zi_mul4, zi_mul5, zi_sub, nI_leI, nI_ltI, nI_eq, zl0, zl1, zl2, zl3, zl4, zl5, zl6, zl8, zl9, zl24, zl32, zl48, zl49, zl99, zl100, zl120, zl376, zl377, zl378, zl379, zl380, ↓zi_192, zi_dec, Nat.add_zero, Nat.zero_add, m_n, m_b1, m_b2, m_rd, m_wr, m_get, m_put, nI_clamp, st_at, st_ne, up_at, up_ne, if_pos, if_neg, hroot2, r_many, hm1, hlen1, hnw, hlo2, r_entryOf, Nat.add_zero, hz0]
        rw [q1]
        simp (disch := omega) only [↓zlm1, ↓zlm2, zi_e1, zi_e2, zi_1e, zi_12, zi_21, zi_1n, zi_n1, if_true, if_false, eq_self, not_false_eq_true, not_true_eq_false, nI_add, zi_4m, zi_5m, zi_8m, zi_mul4, zi_mul5, zi_sub, nI_leI, nI_ltI, nI_eq, zl0, zl1, zl2, zl3, zl4, zl5, zl6, zl8, zl9, zl24, zl32, zl48, zl49, zl99, zl100, zl120, zl376, zl377, zl378, zl379, zl380, ↓zi_192, zi_dec, Nat.add_zero, Nat.zero_add, m_n, m_b1, m_b2, m_rd, m_wr, m_get, m_put, nI_clamp, st_at, st_ne, up_at, up_ne, if_pos, if_neg, q2]
        rw [← eS3]
      · rw [r7, hrt4, hlv4 _ (Ne.symm hsr)]
      · refine zfr_trans (zfr_sub f1 (by decide)) (zfr_trans (T1 := T2) (by rw [eT2]; exact zfr_st (by decide) zfr_refl) (zfr_trans (zfr_sub f3 (by decide)) (zfr_trans (T1 := T4) (by rw [eT4]; exact zfr_st (by decide) zfr_refl) (zfr_trans (T1 := T5) (by rw [eT5]; exact zfr_st (by decide) zfr_refl) r15))))
      · refine zfr_trans (T1 := S3) (by rw [eS3]; exact zfr_st (by simp) (zfr_st (by simp) (zfr_st (by simp) (zfr_st (by simp) zfr_refl)))) r16
