/-! the ring of remembered trees -/
def zrg (B : zx_B) (a o : Nat) : Prop := B 19 1 0 = nI o ∧ B 19 1 1 = nI a ∧ a ≤ 14 ∧ o < 14
theorem zrg_of {B : zx_B} {S : zx_S} (h : ZInv B S) : ∃ a o, zrg B a o := by
  obtain ⟨a, o, ha, ho, r1, r2, _⟩ := h.2.2.1
  exact ⟨a, o, r1, r2, ha, ho⟩
theorem m_takeTe {N : Nat} {T T2 : zx_S} : ∃ T', f_X1_takeOver N T T2 = some T' ∧ zte T2 T' := by
  obtain ⟨T', e, _, k0, k1, k2, k3, k4, k10⟩ := m_takeOver (N := N) (T := T) (T2 := T2)
  exact ⟨T', e, fun j hj => k0 j (by omega), k1, k2, k3, k4, k10⟩
theorem m_rem32 {N : Nat} {B : zx_B} {a o : Nat} (ha : a ≤ 13) (ho : o < 14) (r1 : B 19 1 0 = nI o) (r2 : B 19 1 1 = nI a) : ∃ B', f_X2_remember_j32 N B = some B' ∧ zrg B' (a + 1) o ∧ zte (B 0) (B' (2 + (o + a) % 14)) ∧ (∀ j, j ≠ 2 + (o + a) % 14 → j ≠ 19 → B' j = B j) ∧ B' 19 0 = B 19 0 := by
  obtain ⟨i, ei⟩ : ∃ i, i = (o + a) % 14 := ⟨_, rfl⟩
  have hi : i < 14 := by omega
  obtain ⟨T', e2, hT'⟩ := m_takeTe (N := N) (T := B (2 + i)) (T2 := B 0)
  obtain ⟨B1, eB1⟩ : ∃ B1, B1 = zx_sb B (2 + i) T' := ⟨_, rfl⟩
  have hB19 : B1 19 = B 19 := by rw [eB1, zsb_ne (by omega)]
  obtain ⟨B2, eB2⟩ : ∃ B2, B2 = zx_sb B1 19 (zx_st (B1 19) 1 (upd (B1 19 1) 1 (nI (a + 1)))) := ⟨_, rfl⟩
  refine ⟨B2, ?_, ⟨?_, ?_, by omega, ho⟩, ?_, fun j h1 h2 => ?_, ?_⟩
  · unfold f_X2_remember_j32 f_X2_remember_j64
    rw [r1, r2, nI_add, show (14 : Int32) = nI 14 from rfl, zi_mod (by omega) (by decide), ← ei, m_n, m_treeAt hi (by decide), m_b1, e2, m_b1, m_n, ← eB1, hB19, r2, show nI a + 1 = nI (a + 1) by rw [zl1, nI_add], m_n, eB2, hB19]
  · rw [eB2, zsb_at, st_at, up_ne (by decide), hB19]; exact r1
  · rw [eB2, zsb_at, st_at, up_at]
  · rw [← ei, eB2, zsb_ne (by omega), eB1, zsb_at]
    exact hT'
  · rw [← ei] at h1
    rw [eB2, zsb_ne h2, eB1, zsb_ne h1]
  · rw [eB2, zsb_at, st_ne (by decide), hB19]
theorem m_remember {N : Nat} {B : zx_B} {a o : Nat} (h : zrg B a o) : ∃ B' a' o', f_X2_remember N B = some B' ∧ zrg B' a' o' ∧ 1 ≤ a' ∧ zte (B 0) (B' (2 + (o' + (a' - 1)) % 14)) ∧ (1 ≤ a → 2 ≤ a' ∧ B' (2 + (o' + (a' - 2)) % 14) = B (2 + (o + (a - 1)) % 14)) ∧ (∀ j, (j < 2 ∨ 15 < j) → j ≠ 19 → B' j = B j) ∧ B' 19 0 = B 19 0 := by
  obtain ⟨r1, r2, ha, ho⟩ := h
  unfold f_X2_remember
  by_cases c : a = 14
  · subst c
    rw [r2, if_pos (by decide), r1]
    obtain ⟨o1, eo1⟩ : ∃ o1, o1 = (o + 1) % 14 := ⟨_, rfl⟩
    have ho1 : o1 < 14 := by omega
    obtain ⟨B1, eB1⟩ : ∃ B1, B1 = zx_sb B 19 (zx_st (B 19) 1 (upd (B 19 1) 0 (nI o1))) := ⟨_, rfl⟩
    have h11 : B1 19 1 1 = nI 14 := by rw [eB1, zsb_at, st_at, up_ne (by decide)]; exact r2
    obtain ⟨B2, eB2⟩ : ∃ B2, B2 = zx_sb B1 19 (zx_st (B1 19) 1 (upd (B1 19 1) 1 (nI 13))) := ⟨_, rfl⟩
    have hB2 : ∀ j, j ≠ 19 → B2 j = B j := fun j hj => by rw [eB2, zsb_ne hj, eB1, zsb_ne hj]
    have s1 : B2 19 1 0 = nI o1 := by rw [eB2, zsb_at, st_at, up_ne (by decide), eB1, zsb_at, st_at, up_at]
    have s2 : B2 19 1 1 = nI 13 := by rw [eB2, zsb_at, st_at, up_at]
    obtain ⟨B', e, g, k1, k2, k3⟩ := m_rem32 (N := N) (B := B2) (a := 13) (o := o1) (by decide) ho1 s1 s2
    refine ⟨B', 14, o1, ?_, g, by decide, ?_, fun _ => ⟨by decide, ?_⟩, fun j h1 h2 => ?_, ?_⟩
    · rw [show nI o + 1 = nI (o + 1) by rw [zl1, nI_add], show (14 : Int32) = nI 14 from rfl, zi_mod (by omega) (by decide), ← eo1, m_n, m_n, ← eB1, h11, show nI 14 - 1 = nI 13 by decide, m_n, ← eB2]
      exact e
    · rw [hB2 0 (by decide)] at k1
      exact k1
    · rw [k2 _ (by omega) (by omega), hB2 _ (by omega)]
      rw [show (o1 + (14 - 2)) % 14 = (o + (14 - 1)) % 14 by omega]
    · rw [k2 j (by omega) h2, hB2 j h2]
    · rw [k3, eB2, zsb_at, st_ne (by decide), eB1, zsb_at, st_ne (by decide)]
  · rw [r2, if_neg (by rw [show (14 : Int32) = nI 14 from rfl, nI_eq (by omega) (by decide)]; exact c)]
    obtain ⟨B', e, g, k1, k2, k3⟩ := m_rem32 (N := N) (B := B) (a := a) (o := o) (by omega) ho r1 r2
    refine ⟨B', a + 1, o, e, g, by omega, by rw [Nat.add_sub_cancel]; exact k1, fun h1 => ⟨by omega, ?_⟩, fun j h1 h2 => k2 j (by omega) h2, k3⟩
    rw [k2 _ (by omega) (by omega), show a + 1 - 2 = a - 1 by omega]
/-- undone -/
theorem ac_undo {N : Nat} (hN : 6000 < N) {B : zx_B} {S : zx_S} {a o : Nat} (h : ZInv B S) (hr : zrg B (a + 1) o) : ∃ B' S' r, f_L_call N 8 0 0 0 B = some (nI a, B') ∧ ZInv B' S' ∧ f_X3_undo N S = some (r, S') ∧ zrg B' a o ∧ zte (B (2 + (o + a) % 14)) (B' 0) ∧ ∀ j, j ≠ 0 → j ≠ 19 → B' j = B j := by
  obtain ⟨R, r, S2, e1, e2, hI, _⟩ := op_undo hN B S h
  obtain ⟨r1, r2, ha, ho⟩ := hr
  have hne : ¬ nI (a + 1) = 0 := by rw [zl0, nI_eq (by omega) (by decide)]; omega
  have hd : nI (a + 1) - 1 = nI a := by rw [zl1, zi_sub (by omega), Nat.add_sub_cancel]
  obtain ⟨i, ei⟩ : ∃ i, i = (o + a) % 14 := ⟨_, rfl⟩
  have hi : i < 14 := by omega
  obtain ⟨B1, eB1⟩ : ∃ B1, B1 = zx_sb B 19 (zx_st (B 19) 1 (upd (B 19 1) 1 (nI a))) := ⟨_, rfl⟩
  have hB1 : ∀ j, j ≠ 19 → B1 j = B j := fun j hj => by rw [eB1, zsb_ne hj]
  have hB10 : B1 19 1 0 = nI o := by rw [eB1, zsb_at, st_at, up_ne (by decide)]; exact r1
  have hB11 : B1 19 1 1 = nI a := by rw [eB1, zsb_at, st_at, up_at]
  obtain ⟨T', e3, hT'⟩ := m_takeTe (N := N) (T := B1 0) (T2 := B1 (2 + i))
  have key : f_X2_undo N B = some (nI a, (0, zx_sb B1 0 T')) := by
    unfold f_X2_undo
    rw [r2, if_neg hne, hd, m_n, ← eB1, hB10, hB11, nI_add, show (14 : Int32) = nI 14 from rfl, zi_mod (by omega) (by decide), ← ei, m_n, m_treeAt hi (by decide), m_b1, e3, m_b1, m_n, zsb_ne (by decide), hB11]
  have hR := Option.some.inj (e1.symm.trans key)
  rw [hR] at hI
  refine ⟨zx_sb B1 0 T', S2, r, ?_, hI, e2, ⟨by rw [zsb_ne (by decide)]; exact hB10, by rw [zsb_ne (by decide)]; exact hB11, by omega, ho⟩, ?_, fun j h1 h2 => by rw [zsb_ne h1, hB1 j h2]⟩
  · rw [ca_8]
    exact tr_tryUndo0 key
  · rw [zsb_at, ← ei, ← hB1 _ (by omega)]
    exact hT'
/-! one more, and what there would be with one more -/
def zgho (Sx : zx_S) : zx_S := zx_st (zx_st Sx 2 (Sx 1)) 12 (upd ((zx_st Sx 2 (Sx 1)) 12) 3 0)
def zxo (N : Nat) (Sx : zx_S) (a b c d x : Int32) : Prop := ∃ r G G3, f_X3_addOn N 2 a b c d (zgho Sx) = some (r, G) ∧ f_X3_overlap N 2 G = some (x, G3)
theorem zxo_uq {N : Nat} {Sx : zx_S} {a b c d x y : Int32} (h : zxo N Sx a b c d x) (g : zxo N Sx a b c d y) : x = y := by
  obtain ⟨r, G, G3, h1, h2⟩ := h
  obtain ⟨r', G', G3', g1, g2⟩ := g
  have e := Option.some.inj (h1.symm.trans g1)
  have e2 : G = G' := congrArg Prod.snd e
  subst e2
  exact congrArg Prod.fst (Option.some.inj (h2.symm.trans g2))
theorem zQ_gho {T Sx : zx_S} {t : ZT} (h : zQ 1 T Sx t) : zQ 2 T (zx_st Sx 2 (Sx 1)) t := zQ_te h zte_refl (fun j _ => by rw [st_at])
theorem zxo_on {N : Nat} (hN : 100 < N) {T Sx : zx_S} {t : ZT} {a b c d : Int32} {i : Nat} (hQ : zQ 1 T Sx t) (hb : zbk a b c d) (hi : i < 24) (hp : zpr t i = false) (hj : ∀ j, j < i → zpr t j = true) {Tb T1 T' : zx_S} (e1 : f_X1_beginCall N T = some Tb) (e2 : f_X1_setBox N (nI i) a b c d Tb = some T1) (e3 : f_X1_putIn N (nI i) T1 = some T') : ∃ x T3, zxo N Sx a b c d x ∧ f_X1_overlap N T' = some (x, T3) := by
  obtain ⟨Tb', g0, _, hP⟩ := z_begin (N := N) hN (zQ_gho hQ) (by decide)
  have := Option.some.inj (g0.symm.trans e1)
  subst this
  obtain ⟨T1', T'', S', t', m', g1, g2, g3, g4, _⟩ := z_addOn (N := N) (w := 2) hN (by decide) (by decide) (by decide) hi hp hj hP hb
  have := Option.some.inj (g1.symm.trans e2)
  subst this
  have := Option.some.inj (g2.symm.trans e3)
  subst this
  obtain ⟨x, T3, S3, p1, p2, _⟩ := z_overlap (N := N) (w := 2) hN (by decide) (zQ_PI g4)
  exact ⟨x, T3, ⟨_, _, _, g3, p2⟩, p1⟩
theorem z_addOn2 {N w : Nat} (hN : 100 < N) (hw : w ≠ 6) (hw7 : w ≠ 7) (hw12 : w ≠ 12) {T S : zx_S} {t : ZT} {i m : Nat} {a b c d : Int32} (hi : i < 24) (hp : zpr t i = false) (hj : ∀ j, j < i → zpr t j = true) (hP : zPI w T S t [] 99 m) (hb : zbk a b c d) :
    ∃ T1 T' S' t' m', f_X1_setBox N (nI i) a b c d T = some T1 ∧ f_X1_putIn N (nI i) T1 = some T' ∧ f_X3_addOn N w a b c d S = some (nI i, S') ∧ zPI w T' S' t' [] 99 m' ∧ (∀ j, zpr t' j = if j = i then true else zpr t j) ∧ zfr [0, 1, 2, 3, 4, 5, 7, 10] T T' ∧ zfr [w, 6, 7, 12] S S' ∧ zf12 S S' ∧ zrc t' i = zrk a b c d := by
  obtain ⟨T1, r', e1, e2, h1, f1⟩ := z_lay (N := N) (w := w) hw12 hi hP (Or.inl ⟨rfl, hp⟩) hb
  obtain ⟨T', S', t', m', a1, a2, a3, a4, a5, a6, a7⟩ := z_put1 (N := N) (w := w) hN hw hw7 hw12 hi h1
  refine ⟨T1, T', S', t', m', e1, a1, ?_, a3, fun j => ?_, zfr_trans (zfr_sub f1 (by decide)) a5, zfr_trans (zfr_st (by simp) zfr_refl) a6, zf12_trans (zf12_eq (st_ne (Ne.symm hw12))) a7, ?_⟩
  · unfold f_X3_addOn
    rw [zl0]
    exact d_addOn_l hP.2.1 hi hp hj e2 a2 i N 0 (by omega) (by omega)
  · rw [a4.1]; rfl
  · rw [a4.2.1, zC_rc, if_pos rfl]
theorem ac_add {N : Nat} (hN : 6000 < N) {S Sx : zx_S} {t : ZT} {f : Nat → Int32} {B : zx_B} {a b c d : Int32} (h : zK S Sx t f B) (hb : zbk a b c d) (h24 : zct t 24 < 24) : ∃ i B1 T' S' t' x, f_L_tryAdd N a b c d B = some (nI i, zx_sb B1 0 T') ∧ f_X2_remember N B = some B1 ∧ zK S' S' t' (T' 0) (zx_sb B1 0 T') ∧ f_X3_add N a b c d S = some (nI i, S') ∧ i < 24 ∧ zpr t' i = true ∧ T' 0 (4 * i + 2) = c ∧ zct t' 24 = zct t 24 + 1 ∧ zxo N Sx a b c d x ∧ zsum (zov (T' 0) t') (zdo t') = x := by
  have hN1 : 100 < N := by omega
  obtain ⟨t0, S0, eS0, hQ, hQ0, fS0, h120, h121, h122, hI0⟩ := z_setup h.1
  obtain ⟨i1, i2⟩ : f_X2_isBox N a b c d = some (nI 1) ∧ f_X3_isRectangle N a b c d = some (nI 1) := by
    rcases z_isBox (N := N) (a := a) (b := b) (c := c) (d := d) with ⟨_, i1, i2⟩ | ⟨hn, _, _⟩
    · exact ⟨i1, i2⟩
    · exact absurd hb hn
  obtain ⟨c1, c2⟩ := z_count (N := N) hN1 hQ
  have c1' := (z_count (N := N) hN1 h.2.1).1
  have hle0 := zct_le (t := t0) 24
  have hle := zct_le (t := t) 24
  have hct : zct t0 24 = zct t 24 := (nI_eq (by omega) (by omega)).mp (Option.some.inj (c1.symm.trans c1'))
  obtain ⟨i, hi, hp, hj⟩ := zct_free 24 h24
  obtain ⟨i0, hi0, hp0, hj0⟩ := zct_free (t := t0) 24 (by omega)
  have hlow := m_low (N := N) hN1 h.2.1.1 h.2.1.2.2.1 hi hp hj
  have hlow0 := m_low (N := N) hN1 hQ0.1 hQ0.2.2.1 hi0 hp0 hj0
  have hii : i0 = i := (nI_eq (by omega) (by omega)).mp (Option.some.inj (hlow0.symm.trans hlow))
  subst hii
  obtain ⟨B1, S1, e1, e2, hI1, hQ1, k0, hB0⟩ := z_rem0 hN hI0 hQ0 h120
  obtain ⟨Tb, e3, f3, hP⟩ := z_begin (N := N) hN1 hQ1 (by decide)
  obtain ⟨T1, T', S', t', m', g1, g2, g3, g4, g5, g6, g7, g8, g9⟩ := z_addOn2 (N := N) (w := 1) hN1 (by decide) (by decide) (by decide) hi0 hp0 hj0 hP hb
  have z12 : zf12 S1 S' := zf12_trans ⟨fun j hj => by rw [st_at, up_ne (by omega)], fun j hj => by rw [st_at, up_ne (by omega)]⟩ g8
  have hQ' := zQ_PI g4
  have hI' := z_finA hI1 hQ' (zfr_trans (zfr_st (by simp) zfr_refl) (zfr_sub g7 (by decide))) z12
  rw [hB0] at e3
  obtain ⟨x, T3, hx1, hx2⟩ := zxo_on (N := N) hN1 h.2.1 hb hi hp hj e3 g1 g2
  have hp' : zpr t' i0 = true := by rw [g5 i0, if_pos rfl]
  have hK : zK S' S' t' (T' 0) (zx_sb B1 0 T') := ⟨hI', by rw [zsb_at]; exact hQ', fun _ _ => by rw [zsb_at]⟩
  refine ⟨i0, B1, T', S', t', x, ?_, e1, hK, ?_, hi, hp', ?_, ?_, hx1, ?_⟩
  · refine tr_tryAdd0 ?_
    unfold f_X2_add
    rw [i1, m_b1, if_neg (by decide), c1, m_b1, zl24, if_pos (by rw [nI_ltI (by omega) (by decide)]; omega), e1, m_b1, hB0, hlow, m_b1, e3, m_b1, m_n, zsb_at, g1, m_b1, m_n, zsb_sb, zsb_at, g2, m_b1, m_n, zsb_sb]
  · unfold f_X3_add
    rw [i2, m_b1, if_neg (by decide), c2, m_b1, zl24, if_neg (by rw [nI_eq (by omega) (by decide)]; omega)]
    unfold f_X3_add_j33
    rw [m_ref0, m_b2, if_pos (by decide), ← eS0, e2, m_b1, m_n, g3, m_b2]
  · have q1 := hQ'.2.2.2.1.1 i0 2 hi (by omega) hp'
    rw [q1, g9]
    rfl
  · rw [zct_add g5 hp0 24, if_pos hi, hct]
  · obtain ⟨T4, n1, _⟩ := m_ov (N := N) hN1 hQ'.1 hQ'.2.2.1
    exact congrArg Prod.fst (Option.some.inj (n1.symm.trans hx2))
/-- one less -/
theorem ac_remove {N : Nat} (hN : 6000 < N) {S Sx : zx_S} {t : ZT} {f : Nat → Int32} {B : zx_B} {i : Nat} (h : zK S Sx t f B) (hi : i < 24) (hp : zpr t i = true) : ∃ B1 T' S' t' n, f_L_call N 6 (nI i) 0 0 B = some (nI n, zx_sb B1 0 T') ∧ 1 ≤ n ∧ n < 100 ∧ f_X2_remember N B = some B1 ∧ zK S' S' t' (T' 0) (zx_sb B1 0 T') ∧ f_X3_remove N (nI i) S = some (nI n, S') ∧ zct t' 24 + 1 = zct t 24 := by
  have hN1 : 100 < N := by omega
  obtain ⟨t0, S0, eS0, hQ, hQ0, fS0, h120, h121, h122, hI0⟩ := z_setup h.1
  have hcx := (z_count (N := N) hN1 hQ).1
  have hcx' := (z_count (N := N) hN1 h.2.1).1
  have hle0 := zct_le (t := t0) 24
  have hle := zct_le (t := t) 24
  have hct : zct t0 24 = zct t 24 := (nI_eq (by omega) (by omega)).mp (Option.some.inj (hcx.symm.trans hcx'))
  have hp0 : zpr t0 i = true := by
    rcases z_has (N := N) hQ (nI i) with ⟨i', hi', e, hp', _, _⟩ | ⟨_, c1, _⟩
    · have := (nI_eq (by omega) (by omega)).mp e
      rw [this]; exact hp'
    · rcases z_has (N := N) h.2.1 (nI i) with ⟨_, _, _, _, d1, _⟩ | ⟨hno, _, _⟩
      · exact absurd (Option.some.inj (c1.symm.trans d1)) (by decide)
      · rw [hno i hi rfl] at hp; cases hp
  obtain ⟨c1, c2⟩ : f_X1_hasRectangle N (nI i) (B 0) = some (nI 1) ∧ f_X3_isThere N 380 (nI i) (S 1) = some (nI 1) := by
    rcases z_has (N := N) hQ (nI i) with ⟨_, _, _, _, c1, c2⟩ | ⟨hno, _, _⟩
    · exact ⟨c1, c2⟩
    · rw [hno i hi rfl] at hp0; cases hp0
  obtain ⟨B1, S1, e1, e2, hI1, hQ1, k0, hB0⟩ := z_rem0 hN hI0 hQ0 h120
  obtain ⟨Tb, T', S', t', g1, g2, g3, g4, g5, g6, g7, g8⟩ := z_removeOn (N := N) (w := 1) hN1 (by decide) (by decide) (by decide) (by decide) hi hp0 hQ1
  obtain ⟨T2, n1, _, n3⟩ := m_nodes (N := N) hN1 g4.1 g4.2.2.1
  have hdl := zdo_le g4.2.2.1
  have hd1 : 1 ≤ (zdo t').length := by
    obtain ⟨u, eu⟩ := zdo_0 (t := t')
    rw [eu]; simp
  rw [zdo_len g4.2.2.1] at n1 hdl hd1
  have hQ' : zQ 1 T2 S' t' := zQ_fr g4 (zfr_sub n3 (by decide)) rfl
  have hI' := z_finA hI1 hQ' (zfr_sub g7 (by decide)) g8
  have hct' := zct_add (t := t') (t' := t0) (i := i) (fun j => by
    by_cases q : j = i
    · rw [if_pos q, q]; exact hp0
    · rw [if_neg q, g5 j, if_neg q]) (by rw [g5 i, if_pos rfl]) 24
  rw [if_pos hi] at hct'
  refine ⟨B1, T2, S', t', znd t' 32, ?_, hd1, by omega, e1, ⟨hI', by rw [zsb_at]; exact hQ', fun _ _ => by rw [zsb_at]⟩, ?_, by omega⟩
  · rw [ca_6]
    refine tr_tryRemove0 ?_
    unfold f_X2_remove
    rw [c1, m_b1, if_neg (by decide), e1, m_b1, g1, m_b1, m_n, zsb_at, g2, m_b1, m_n, zsb_sb, zsb_at, n1, m_b2, m_n, zsb_sb]
  · unfold f_X3_remove
    rw [c2, m_b1, if_neg (by decide)]
    unfold f_X3_remove_j17
    rw [m_ref0, m_b2, if_pos (by decide), ← eS0, e2, m_b1, g3, m_b2]
/-- how much more overlap there would be -/
theorem rd_ifAdded {N : Nat} (hN : 6000 < N) {S Sx : zx_S} {t : ZT} {f : Nat → Int32} {B : zx_B} {a b c d : Int32} (h : zK S Sx t f B) (hb : zbk a b c d) (h24 : zct t 24 < 24) : ∃ x B', f_L_tryIfAdded N a b c d B = some (x - zsum (zov f t) (zdo t), B') ∧ zK S Sx t f B' ∧ zxo N Sx a b c d x := by
  have hN1 : 100 < N := by omega
  have i1 : f_X2_isBox N a b c d = some (nI 1) := by
    rcases z_isBox (N := N) (a := a) (b := b) (c := c) (d := d) with ⟨_, i1, _⟩ | ⟨hn, _, _⟩
    · exact i1
    · exact absurd hb hn
  have c1 := (z_count (N := N) hN1 h.2.1).1
  have hle := zct_le (t := t) 24
  obtain ⟨Tt, k1, kte⟩ := m_takeTe (N := N) (T := B 1) (T2 := B 0)
  have hQt : zQ 1 Tt Sx t := zQ_te h.2.1 kte (fun _ _ => rfl)
  obtain ⟨i, hi, hp, hj⟩ := zct_free 24 h24
  have hlow := m_low (N := N) hN1 hQt.1 hQt.2.2.1 hi hp hj
  obtain ⟨Tb, g0, _, hP⟩ := z_begin (N := N) hN1 (zQ_gho hQt) (by decide)
  obtain ⟨T1, T', G, t', m', g1, g2, g3, g4, _⟩ := z_addOn (N := N) (w := 2) hN1 (by decide) (by decide) (by decide) hi hp hj hP hb
  obtain ⟨x, T3, hx1, hx2⟩ := zxo_on (N := N) hN1 hQt hb hi hp hj g0 g1 g2
  obtain ⟨T4, o1, o2⟩ := m_ov (N := N) hN1 h.2.1.1 h.2.1.2.2.1
  rw [zsum_cg (fun x _ => zov_cg (zK_zb h) h.2.2)] at o1
  refine ⟨x, zx_sb (zx_sb B 1 T3) 0 T4, ?_, zK_sc h (zsc_trans (zsc_1 (B' := zx_sb B 1 T3) (fun j hj => zsb_ne hj)) (zsc_sb (by rw [zsb_ne (by decide)]; exact zte_fr (zfr_sub o2 (by decide))))), hx1⟩
  refine tr_tryIfAdded0 ?_
  unfold f_X2_ifAdded f_X2_tryAdding
  rw [i1, m_b1, if_neg (by decide), c1, m_b1, zl24, if_pos (by rw [nI_ltI (by omega) (by decide)]; exact h24), k1, m_b1, m_n, zsb_at, hlow, m_b1, g0, m_b1, m_n, zsb_sb, zsb_at, g1, m_b1, m_n, zsb_sb, zsb_at, g2, m_b1, m_n, zsb_sb, m_b1, zsb_at, hx2, m_b2, m_n, zsb_sb, zsb_ne (by decide), o1, m_b2, m_n]
theorem rd_ifFull {N : Nat} (hN : 6000 < N) {S Sx : zx_S} {t : ZT} {f : Nat → Int32} {B : zx_B} {a b c d : Int32} (h : zK S Sx t f B) (hb : zbk a b c d) (h24 : zct t 24 = 24) : f_L_tryIfAdded N a b c d B = some (-100001, B) := by
  have hN1 : 100 < N := by omega
  have c1 := (z_count (N := N) hN1 h.2.1).1
  refine tr_tryIfAdded0 ?_
  rcases z_isBox (N := N) (a := a) (b := b) (c := c) (d := d) with ⟨_, i1, _⟩ | ⟨hn, _, _⟩
  · unfold f_X2_ifAdded
    rw [i1, m_b1, if_neg (by decide), c1, m_b1, h24, if_neg (by decide)]
  · exact absurd hb hn
/-! the best removal -/
theorem m_best_l {N : Nat} (hN : 6000 < N) {Sx : zx_S} {t : ZT} : ∀ (d n k : Nat) (v1 v2 : Int32) (B : zx_B), d < n → k + d = 24 → zQ 1 (B 0) Sx t → (v1 = -1 ∨ ∃ j, j < 24 ∧ v1 = nI j) → ∃ r B', f_X2_bestRemoval_l6 N n v1 v2 (nI k) B = some (r, B') ∧ (∀ j, j ≠ 1 → B' j = B j) ∧ (r = -1 ↔ v1 = -1 ∧ ∀ i, k ≤ i → i < 24 → zpr t i = false)
  | 0, n + 1, k, v1, v2, B, hn, hk, hQ, hv => by
    obtain rfl : k = 24 := by omega
    exact ⟨v1, B, by rw [f_X2_bestRemoval_l6, if_pos (by decide)], fun _ _ => rfl, ⟨fun z => ⟨z, fun i h1 h2 => absurd h2 (by omega)⟩, fun z => z.1⟩⟩
  | d + 1, n + 1, k, v1, v2, B, hn, hk, hQ, hv => by
    have hN1 : 100 < N := by omega
    have h24 : ¬ (24 : Int32) ≤ nI k := by rw [zl24, nI_leI (by omega) (by omega)]; omega
    have hk1 : nI k + 1 = nI (k + 1) := by rw [zl1, nI_add]
    rw [f_X2_bestRemoval_l6, if_neg h24]
    unfold f_X2_bestRemoval_j69 f_X2_bestRemoval_j74
    rw [hk1]
    rcases z_has (N := N) hQ (nI k) with ⟨i, hi, e, hp, c1, _⟩ | ⟨hno, c1, _⟩
    · have := (nI_eq (by omega) (by omega)).mp e
      subst this
      obtain ⟨T1, k1, kte⟩ := m_takeTe (N := N) (T := B 1) (T2 := B 0)
      have hQt : zQ 2 T1 (zx_st Sx 2 (Sx 1)) t := zQ_gho (zQ_te hQ kte (fun _ _ => rfl))
      obtain ⟨Tb, T', S', t', g1, g2, g3, g4, _⟩ := z_removeOn (N := N) (w := 2) hN1 (by decide) (by decide) (by decide) (by decide) hi hp hQt
      obtain ⟨x, T3, S3, p1, _⟩ := z_overlap (N := N) (w := 2) hN1 (by decide) g4
      have hB : ∀ j, j ≠ 1 → zx_sb B 1 T3 j = B j := fun j hj => zsb_ne hj
      have ih : ∀ v1 v2, (∃ j, j < 24 ∧ v1 = nI j) → ∃ r B', f_X2_bestRemoval_l6 N n v1 v2 (nI (k + 1)) (zx_sb B 1 T3) = some (r, B') ∧ (∀ j, j ≠ 1 → B' j = B j) ∧ ¬ r = -1 := fun v1 v2 hv => by
        obtain ⟨r, B', a1, a3, a4⟩ := m_best_l hN d n (k + 1) v1 v2 (zx_sb B 1 T3) (by omega) (by omega) (by rw [hB 0 (by decide)]; exact hQ) (Or.inr hv)
        refine ⟨r, B', a1, fun j hj => by rw [a3 j hj, hB j hj], fun z => ?_⟩
        obtain ⟨j, hj, e⟩ := hv
        have := (a4.mp z).1
        rw [e] at this
        exact zi_m1 (by omega) this
      have fin : (∃ r B', f_X2_bestRemoval_l6 N n (nI k) x (nI (k + 1)) (zx_sb B 1 T3) = some (r, B') ∧ (∀ j, j ≠ 1 → B' j = B j) ∧ ¬ r = -1) := ih _ _ ⟨k, hi, rfl⟩
      rw [c1, m_b1, if_neg (show ¬ nI 1 = 0 by decide), k1, m_b1, m_n, zsb_at, g1, m_b1, m_n, zsb_sb, zsb_at, g2, m_b1, m_n, zsb_sb, zsb_at, p1, m_b2, m_n, zsb_sb]
      simp only [m_n]
      have conv : ∀ {Z : Option (Int32 × zx_B)}, (∃ r B', Z = some (r, B') ∧ (∀ j, j ≠ 1 → B' j = B j) ∧ ¬ r = -1) → ∃ r B', Z = some (r, B') ∧ (∀ j, j ≠ 1 → B' j = B j) ∧ (r = -1 ↔ v1 = -1 ∧ ∀ i, k ≤ i → i < 24 → zpr t i = false) := by
        rintro Z ⟨r, B', z1, z2, z3⟩
        refine ⟨r, B', z1, z2, ⟨fun z => absurd z z3, fun z => ?_⟩⟩
        have := z.2 k (Nat.le_refl _) hi
        rw [hp] at this; cases this
      refine conv ?_
      by_cases q : v1 = -1
      · rw [if_pos q]; exact fin
      · rw [if_neg q]
        by_cases q2 : v2 ≤ x
        · rw [if_pos q2]
          exact ih v1 v2 (hv.resolve_left q)
        · rw [if_neg q2]; exact fin
    · rw [c1, m_b1, if_pos (show nI 0 = 0 from rfl)]
      simp only [m_n]
      obtain ⟨r, B', a1, a2, a3⟩ := m_best_l hN d n (k + 1) v1 v2 B (by omega) (by omega) hQ hv
      refine ⟨r, B', a1, a2, a3.trans ⟨fun z => ⟨z.1, fun i h1 h2 => ?_⟩, fun z => ⟨z.1, fun i h1 h2 => z.2 i (by omega) h2⟩⟩⟩
      rcases Nat.lt_or_ge k i with y | y
      · exact z.2 i (by omega) h2
      · obtain rfl : i = k := by omega
        exact hno i h2 rfl
theorem zct_0 {t : ZT} : ∀ k, zct t k = 0 ↔ ∀ i, i < k → zpr t i = false
  | 0 => ⟨fun _ i hi => absurd hi (Nat.not_lt_zero _), fun _ => rfl⟩
  | k + 1 => by
    have ih := zct_0 (t := t) k
    rw [zct]
    constructor
    · intro h i hi
      by_cases c : i = k
      · subst c
        cases hx : zpr t i
        · rfl
        · rw [hx, if_pos rfl] at h; omega
      · exact ih.mp (by omega) i (by omega)
    · intro h
      rw [ih.mpr (fun i hi => h i (by omega)), h k (by omega)]
      rfl
theorem rd_best {N : Nat} (hN : 6000 < N) {S Sx : zx_S} {t : ZT} {f : Nat → Int32} {B : zx_B} (h : zK S Sx t f B) : ∃ r B', f_X2_bestRemoval N B = some (r, B') ∧ zK S Sx t f B' ∧ (r = -1 ↔ zct t 24 = 0) := by
  obtain ⟨r, B', a1, a2, a3⟩ := m_best_l hN 24 N 0 (-1) 0 B (by omega) (by omega) h.2.1 (Or.inl rfl)
  refine ⟨r, B', ?_, zK_sc h (zsc_1 a2), a3.trans ⟨fun z => (zct_0 24).mpr (fun i hi => z.2 i (Nat.zero_le _) hi), fun z => ⟨rfl, fun i _ hi => (zct_0 24).mp z i hi⟩⟩⟩
  unfold f_X2_bestRemoval; exact a1
/-! an overlap is no negative number -/
theorem zcc_b {f : Nat → Int32} {c d : Nat} (hc : zbd f c) (hd : zbd f d) : 0 ≤ (zcc f c d).toInt ∧ (zcc f c d).toInt ≤ 10000 := by
  have c0 := hc 0 (by omega)
  have c1 := hc 1 (by omega)
  have c2 := hc 2 (by omega)
  have c3 := hc 3 (by omega)
  have d0 := hd 0 (by omega)
  have d1 := hd 1 (by omega)
  have d2 := hd 2 (by omega)
  have d3 := hd 3 (by omega)
  rw [Nat.add_zero] at c0 d0
  have t1 : ((1 : Int32)).toInt = 1 := by decide
  have z0 : ∀ x : Int32, x ≤ 0 ↔ x.toInt ≤ 0 := fun x => by rw [zi_le]; rfl
  have e0 : (0 : Int32).toInt = 0 := by decide
  have hw : (zcw f c d).toInt ≤ 100 := by
    unfold zcw
    have b1 := (zbd_mm c2 d2).2
    have b2 := (zbd_mm c0 d0).1
    have s1 := zi_subT (a := zmn (f (4 * c + 2)) (f (4 * d + 2))) (b := zmx (f (4 * c)) (f (4 * d))) (by omega) (by omega)
    have m1 := zmn_T (a := f (4 * c + 2)) (b := f (4 * d + 2))
    have m2 := zmx_T (a := f (4 * c)) (b := f (4 * d))
    rw [zi_addT (by rw [s1, t1]; omega) (by rw [s1, t1]; omega), s1, t1, m1, m2]
    split <;> split <;> omega
  have hh : (zch f c d).toInt ≤ 100 := by
    unfold zch
    have b1 := (zbd_mm c3 d3).2
    have b2 := (zbd_mm c1 d1).1
    have s1 := zi_subT (a := zmn (f (4 * c + 3)) (f (4 * d + 3))) (b := zmx (f (4 * c + 1)) (f (4 * d + 1))) (by omega) (by omega)
    have m1 := zmn_T (a := f (4 * c + 3)) (b := f (4 * d + 3))
    have m2 := zmx_T (a := f (4 * c + 1)) (b := f (4 * d + 1))
    rw [zi_addT (by rw [s1, t1]; omega) (by rw [s1, t1]; omega), s1, t1, m1, m2]
    split <;> split <;> omega
  unfold zcc
  simp only [z0]
  by_cases q1 : (zcw f c d).toInt ≤ 0
  · rw [if_pos q1, e0]; omega
  · rw [if_neg q1]
    by_cases q2 : (zch f c d).toInt ≤ 0
    · rw [if_pos q2, e0]; omega
    · rw [if_neg q2]
      have hp : 0 < (zcw f c d).toInt * (zch f c d).toInt := Int.mul_pos (by omega) (by omega)
      have hq : (zcw f c d).toInt * (zch f c d).toInt ≤ 10000 := by
        have := Int.mul_le_mul hw hh (by omega) (by omega)
        simpa using this
      rw [zi_mulT (by omega) (by omega)]
      omega
theorem zpa_b {f : Nat → Int32} {c : Nat} (hc : zbd f c) : ∀ {l : List Nat} {a : Int32} {M : Int}, (∀ x, x ∈ l → zbd f x) → 0 ≤ a.toInt → a.toInt ≤ M → M + 10000 * (l.length : Int) < 2000000000 → 0 ≤ (zpa f c a l).toInt ∧ (zpa f c a l).toInt ≤ M + 10000 * (l.length : Int)
  | [], a, M, _, h0, h1, _ => by
    rw [zpa, List.length_nil]; omega
  | x :: l, a, M, hb, h0, h1, h2 => by
    rw [List.length_cons] at h2 ⊢
    have hx := zcc_b hc (hb x (List.mem_cons_self ..))
    have hs := zi_addT (a := a) (b := zcc f c x) (by omega) (by omega)
    have := zpa_b hc (l := l) (a := a + zcc f c x) (M := M + 10000) (fun y hy => hb y (List.mem_cons_of_mem _ hy)) (by omega) (by omega) (by omega)
    rw [zpa]
    omega
theorem zpp_b {f : Nat → Int32} : ∀ {l : List Nat} {a : Int32} {M : Int}, (∀ x, x ∈ l → zbd f x) → l.length ≤ 5 → 0 ≤ a.toInt → a.toInt ≤ M → M + 50000 * (l.length : Int) < 1900000000 → 0 ≤ (zpp f a l).toInt ∧ (zpp f a l).toInt ≤ M + 50000 * (l.length : Int)
  | [], a, M, _, _, h0, h1, _ => by
    rw [zpp, List.length_nil]; omega
  | x :: l, a, M, hb, h5, h0, h1, h2 => by
    rw [List.length_cons] at h2 h5 ⊢
    have hx := zpa_b (hb x (List.mem_cons_self ..)) (l := l) (a := a) (M := M) (fun y hy => hb y (List.mem_cons_of_mem _ hy)) h0 h1 (by omega)
    have := zpp_b (l := l) (a := zpa f x a l) (M := M + 50000) (fun y hy => hb y (List.mem_cons_of_mem _ hy)) (by omega) (by omega) (by omega) (by omega)
    rw [zpp]
    omega
theorem zsum_b {g : Nat → Int32} : ∀ {l : List Nat}, (∀ x, x ∈ l → 0 ≤ (g x).toInt ∧ (g x).toInt ≤ 250000) → l.length ≤ 1000 → 0 ≤ (zsum g l).toInt ∧ (zsum g l).toInt ≤ 250000 * (l.length : Int)
  | [], _, _ => by
    rw [zsum, List.length_nil]
    exact ⟨by decide, by decide⟩
  | x :: l, h, hl => by
    rw [List.length_cons] at hl ⊢
    have h1 := h x (List.mem_cons_self ..)
    have h2 := zsum_b (l := l) (fun y hy => h y (List.mem_cons_of_mem _ hy)) (by omega)
    have hs := zi_addT (a := g x) (b := zsum g l) (by omega) (by omega)
    rw [zsum]
    omega
theorem zov_nn {w : Nat} {T S : zx_S} {t : ZT} (hQ : zQ w T S t) : 0 ≤ (zsum (zov (T 0) t) (zdo t)).toInt := by
  obtain ⟨hT, hr, hw, hbx, _⟩ := hQ
  have hR := zwf_lv hw (by decide)
  have ht := zwf_zb hw (by omega)
  have hg := zwf_zg hw (zwf_un24 hw)
  have hle := zdo_le hw
  refine (zsum_b (fun x hx => ?_) (by omega)).1
  unfold zov
  split
  · exact ⟨by decide, by decide⟩
  · have h5 := ht.2.2.2.1 x
    have := zpp_b (f := T 0) (l := zes t x) (a := 0) (M := 0) (fun e he => zbounds ht hg hbx.1 (zwf_cr hw) (zil t e) (fun s hs _ => hbx.2 s hs) e (Nat.le_refl _) (hg x e he)) h5 (by decide) (by decide) (by omega)
    omega
/-! all anew -/
theorem m_anew_l {N : Nat} (hN : 6000 < N) {Sx : zx_S} {t : ZT} : ∀ (d n k : Nat) (B : zx_B) (S : zx_S) (t2 : ZT), d < n → k + d = 24 → zQ 1 (B 0) Sx t → zQ 2 (B 1) S t2 → zct t2 24 ≤ k → ∃ r B', f_X2_anew_l9 N n (nI k) B = some (r, B') ∧ (∀ j, j ≠ 1 → B' j = B j) ∧ 0 ≤ r.toInt
  | 0, n + 1, k, B, S, t2, hn, hk, hQ, hQ2, hc => by
    obtain rfl : k = 24 := by omega
    obtain ⟨T3, p1, _⟩ := m_ov (N := N) (by omega) hQ2.1 hQ2.2.2.1
    refine ⟨_, zx_sb B 1 T3, ?_, fun j hj => zsb_ne hj, zov_nn hQ2⟩
    rw [f_X2_anew_l9, if_pos (by decide), p1, m_b2, m_n]
  | d + 1, n + 1, k, B, S, t2, hn, hk, hQ, hQ2, hc => by
    have h24 : ¬ (24 : Int32) ≤ nI k := by rw [zl24, nI_leI (by omega) (by omega)]; omega
    have hk1 : nI k + 1 = nI (k + 1) := by rw [zl1, nI_add]
    rw [f_X2_anew_l9, if_neg h24]
    unfold f_X2_anew_j66
    rw [hk1]
    rcases z_has (N := N) hQ (nI k) with ⟨i, hi, e, hp, c1, _⟩ | ⟨hno, c1, _⟩
    · have := (nI_eq (by omega) (by omega)).mp e
      subst this
      have hb := zwf_cr hQ.2.2.1 k hi hp
      obtain ⟨i, T', S', t', m1, m2, m3, m4, _⟩ := z_try (N := N) (a := zrc t k 0) (b := zrc t k 1) (c := zrc t k 2) (d := zrc t k 3) hN hQ2 hb (by omega)
      have hB : ∀ j, j ≠ 1 → zx_sb B 1 T' j = B j := fun j hj => zsb_ne hj
      obtain ⟨r, B', a1, a3, a4⟩ := m_anew_l hN d n (k + 1) (zx_sb B 1 T') S' t' (by omega) (by omega) (by
        rw [hB 0 (by decide)]; exact hQ) (by rw [zsb_at]; exact m3) (by omega)
      have k0 := hQ.2.2.2.1.1 k 0 hi (by omega) hp
      have k1 := hQ.2.2.2.1.1 k 1 hi (by omega) hp
      have k2 := hQ.2.2.2.1.1 k 2 hi (by omega) hp
      have k3 := hQ.2.2.2.1.1 k 3 hi (by omega) hp
      refine ⟨r, B', ?_, fun j hj => by rw [a3 j hj, hB j hj], a4⟩
      rw [c1, m_b1, if_neg (show ¬ nI 1 = 0 by decide), zl0, m_corner (by omega) (by omega), m_b1, zl1, m_corner (by omega) (by omega), m_b1, zl2, m_corner (by omega) (by omega), m_b1, zl3, m_corner (by omega) (by omega), m_b1, k0, k1, k2, k3, m1, m_b1, m_n]
      exact a1
    · rw [c1, m_b1, if_pos (show nI 0 = 0 from rfl), m_n]
      exact m_anew_l hN d n (k + 1) B S t2 (by omega) (by omega) hQ hQ2 (by omega)
theorem rd_anew {N : Nat} (hN : 6000 < N) {S Sx : zx_S} {t : ZT} {f : Nat → Int32} {B : zx_B} (h : zK S Sx t f B) : ∃ r B', f_X2_anew N B = some (r, B') ∧ zK S Sx t f B' ∧ 0 ≤ r.toInt := by
  obtain ⟨T1, g, e1, e2, hc⟩ := z_clear (N := N) hN (B 1) (Sx 2)
  obtain ⟨r, B', a1, a3, a4⟩ := m_anew_l hN (Sx := Sx) (t := t) 24 N 0 (zx_sb B 1 T1) (zx_st Sx 2 g) zt0 (by omega) (by omega) (by
    rw [zsb_ne (by decide)]; exact h.2.1) (by rw [zsb_at]; exact hc 2 _ st_at) (by decide)
  refine ⟨r, B', ?_, zK_sc h (zsc_1 (fun j hj => by rw [a3 j hj, zsb_ne hj])), a4⟩
  unfold f_X2_anew
  rw [e1, m_b1, m_n]; exact a1
