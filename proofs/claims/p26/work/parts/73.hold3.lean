/-! holds: the window, what is chosen, one more and undone -/
section HW
variable {N : Nat} {S Sx : zx_S} {t : ZT} {f : Nat → Int32}
theorem hl_687 {K : Int32 → Int32 → Int32 → Int32 → Int32 → Int32 → Int32 → Int32 → Int32 → Int32 → Int32 → zx_B → Option (Int32 × zx_B)} {v2 v3 v4 a b c d w : Int32} {k m : Nat} {B : zx_B} (hk : k < 24) (p : Bool) (hw : bt w k = p) : f_L_holds_j687 N K v2 v3 v4 a b c d w (nI m) (nI k) (if p = true then 1 else 0) B = K v2 v3 v4 1 a b c d w (nI (m + if p = true then 1 else 0)) (nI (k + 1)) B := by
  have hb := zbit_on (x := w) hk
  unfold f_L_holds_j687 f_L_holds_j701 f_L_holds_j722 f_L_holds_j730
  have hk1 : nI k + 1 = nI (k + 1) := by rw [zl1, nI_add]
  by_cases hp : p = true
  · simp only [if_pos hp]
    rw [hp] at hw
    rw [if_neg (show ¬ (1 : Int32) = 0 by decide), m_n, if_pos (hb.mpr hw), if_pos trivial, m_n, hk1, zl1, nI_add]
  · simp only [if_neg hp]
    have hw2 : ¬ bt w k = true := by rw [hw]; exact hp
    rw [if_pos trivial, m_n, if_neg (fun z => hw2 (hb.mp z)), if_pos trivial, m_n, hk1, zl0, nI_add]
theorem hl_602 (hN : 100 < N) {v2 v3 v4 a b c d w : Int32} (hwb : ∀ i, i < 24 → bt w i = zmt t f a b c d i) : ∀ (e n k m : Nat) (B : zx_B), e < n → k + e = 24 → m ≤ k → (m ≠ 0 → ∃ i, i < 24 ∧ zmt t f a b c d i = true) → zK S Sx t f B → ∃ m' B', f_L_holds_l602 N n v2 v3 v4 1 a b c d w (nI m) (nI k) B = f_L_holds_j738 N v2 v3 v4 1 a b c d w (nI m') B' ∧ m' ≤ 24 ∧ (m' ≠ 0 → ∃ i, i < 24 ∧ zmt t f a b c d i = true) ∧ zK S Sx t f B'
  | 0, n + 1, k, m, B, hn, hk, hm, hq, h => by
    obtain rfl : k = 24 := by omega
    exact ⟨m, B, by rw [f_L_holds_l602, if_pos (by decide)], hm, hq, h⟩
  | e + 1, n + 1, k, m, B, hn, hk, hm, hq, h => by
    have hk24 : k < 24 := by omega
    have h24 : ¬ (24 : Int32) ≤ nI k := by rw [zl24, nI_leI (by omega) (by omega)]; omega
    have fin : ∀ p, zmt t f a b c d k = p → ∃ m' B', f_L_holds_j687 N (f_L_holds_l602 N n) v2 v3 v4 a b c d w (nI m) (nI k) (if p = true then 1 else 0) B = f_L_holds_j738 N v2 v3 v4 1 a b c d w (nI m') B' ∧ m' ≤ 24 ∧ (m' ≠ 0 → ∃ i, i < 24 ∧ zmt t f a b c d i = true) ∧ zK S Sx t f B' := by
      intro p hp
      rw [hl_687 hk24 p (by rw [hwb k hk24, hp])]
      refine hl_602 hN hwb e n (k + 1) _ B (by omega) (by omega) (by split <;> omega) (fun z => ?_) h
      by_cases q : p = true
      · exact ⟨k, hk24, by rw [hp]; exact q⟩
      · rw [if_neg q] at z
        exact hq (by omega)
    rw [f_L_holds_l602, if_neg h24, if_neg (show ¬ (1 : Int32) = 0 by decide)]
    unfold f_L_holds_j686
    cases hp : zpr t k
    · have e0 : f_L_call N 2 (nI k) 0 0 B = some (-9999001, B) := rd_rectN (N := N) hN h (fun j hj ee => by
        have := (nI_eq (by omega) (by omega)).mp ee
        rw [← this]; exact hp)
      rw [e0, m_b2, if_pos (by decide)]
      exact fin false (by unfold zmt; rw [hp, Bool.false_and])
    · have e0 : f_L_call N 2 (nI k) 0 0 B = some (f (4 * k + 0), B) := rd_rect (N := N) (k := 0) hN h hk24 (by omega) hp
      have e1 : f_L_call N 2 (nI k) 1 0 B = some (f (4 * k + 1), B) := rd_rect (N := N) (k := 1) hN h hk24 (by omega) hp
      have e2 : f_L_call N 2 (nI k) 2 0 B = some (f (4 * k + 2), B) := rd_rect (N := N) (k := 2) hN h hk24 (by omega) hp
      have e3 : f_L_call N 2 (nI k) 3 0 B = some (f (4 * k + 3), B) := rd_rect (N := N) (k := 3) hN h hk24 (by omega) hp
      have k0 := h.2.1.2.2.2.1.1 k 0 hk24 (by omega) hp
      rw [h.2.2 _ (by omega)] at k0
      have r0 := (zwf_cr h.2.1.2.2.1 k hk24 hp).1
      rw [← k0] at r0
      have nz : ¬ f (4 * k + 0) < 0 := by rw [zi_lt0]; omega
      have hmq := zmq_iff (f := f) (a := a) (b := b) (c := c) (d := d) (e := k)
      have hmt : zmt t f a b c d k = zmq f a b c d k := by unfold zmt; rw [hp, Bool.true_and]
      rw [← Nat.add_zero (4 * k)] at hmq
      have nf : ¬ ((f (4 * k + 0)).toInt ≤ c.toInt ∧ a.toInt ≤ (f (4 * k + 0 + 2)).toInt ∧ (f (4 * k + 0 + 1)).toInt ≤ d.toInt ∧ b.toInt ≤ (f (4 * k + 0 + 3)).toInt) → zmt t f a b c d k = false := fun z => by
        rw [hmt]
        exact ts_nt' (fun q => z (hmq.mp q))
      rw [Nat.add_zero] at nf hmq
      rw [e0, m_b2, if_neg nz, e0, m_b2]
      by_cases q1 : c < f (4 * k + 0)
      · rw [if_pos q1]
        rw [zi_ltt, Nat.add_zero] at q1
        exact fin false (nf (by omega))
      rw [if_neg q1, e2, m_b2]
      by_cases q2 : f (4 * k + 2) < a
      · rw [if_pos q2]
        rw [zi_ltt] at q2
        exact fin false (nf (by omega))
      rw [if_neg q2, e1, m_b2]
      by_cases q3 : d < f (4 * k + 1)
      · rw [if_pos q3]
        rw [zi_ltt] at q3
        exact fin false (nf (by omega))
      rw [if_neg q3, e3, m_b2]
      by_cases q4 : f (4 * k + 3) < b
      · rw [if_pos q4]
        rw [zi_ltt] at q4
        exact fin false (nf (by omega))
      rw [if_neg q4]
      rw [zi_ltt] at q1 q2 q3 q4
      rw [Nat.add_zero] at q1
      exact fin true (by rw [hmt]; exact hmq.mpr ⟨by omega, by omega, by omega, by omega⟩)
theorem rd_about3s (hN : 100 < N) {B : zx_B} (h : zK S Sx t f B) : ∃ B', f_L_call N 1 3 0 0 B = some (zsum (zov f t) (zdo t), B') ∧ zsc B B' := by
  obtain ⟨T1, n1, n3⟩ := m_ov (N := N) hN h.2.1.1 h.2.1.2.2.1
  refine ⟨zx_sb B 0 T1, ?_, zsc_sb (zte_fr (zfr_sub n3 (by decide)))⟩
  rw [ca_1]
  refine tr_tryAbout0 ?_
  unfold f_X2_about
  rw [if_neg (by decide), if_neg (by decide), if_neg (by decide), if_pos (by decide), n1, m_b2, m_n]
  rw [zsum_cg (fun x _ => zov_cg (zK_zb h) h.2.2)]
/-- what becomes of the ghost -/
def zgst (N : Nat) (a b c d : Int32) (S S' : zx_S) : Prop := (f_X3_count N 380 (S 1) = some (nI 24) ∧ S' = S) ∨ (¬ f_X3_count N 380 (S 1) = some (nI 24) ∧ ∃ r1 S1 r2 S2 r3 S3 r4, f_X3_add N a b c d S = some (r1, S1) ∧ f_X3_remove N r1 S1 = some (r2, S2) ∧ f_X3_undo N S2 = some (r3, S3) ∧ f_X3_undo N S3 = some (r4, S'))
theorem zgst_uq {a b c d : Int32} {S' S'' : zx_S} (h : zgst N a b c d S S') (g : zgst N a b c d S S'') : S' = S'' := by
  rcases h with ⟨h1, h2⟩ | ⟨h1, r1, S1, r2, S2, r3, S3, r4, e1, e2, e3, e4⟩
  · rcases g with ⟨_, g2⟩ | ⟨g1, _⟩
    · rw [h2, g2]
    · exact absurd h1 g1
  · rcases g with ⟨g1, _⟩ | ⟨_, q1, T1, q2, T2, q3, T3, q4, d1, d2, d3, d4⟩
    · exact absurd g1 h1
    · obtain ⟨rfl, rfl⟩ := Prod.mk.inj (Option.some.inj (e1.symm.trans d1))
      obtain ⟨_, rfl⟩ := Prod.mk.inj (Option.some.inj (e2.symm.trans d2))
      obtain ⟨_, rfl⟩ := Prod.mk.inj (Option.some.inj (e3.symm.trans d3))
      exact (Prod.mk.inj (Option.some.inj (e4.symm.trans d4))).2
theorem z_cnt {B : zx_B} (hN : 100 < N) (h : zK S Sx t f B) : f_X3_count N 380 (S 1) = some (nI (zct t 24)) := by
  obtain ⟨t0, hQ⟩ := same_zQ (w := 1) h.1.1
  obtain ⟨c1, c2⟩ := z_count (N := N) hN hQ
  have c1' := (z_count (N := N) hN h.2.1).1
  rw [c2, ← c1, c1']
theorem hl_1023 (hN : 100 < N) {a b c d : Int32} (hb : zbk a b c d) {B : zx_B} (h : zK S Sx t f B) : ∃ B', f_L_holds_j1023 N (nI (zdo t).length) 1 a b c d (zwl (zmt t f a b c d) 24 0 0) (zsum (zov f t) (zdo t)) B = some (1, B') ∧ ZInv B' S := by
  obtain ⟨B1, e1, h1⟩ := rd_about1 (N := N) hN h
  obtain ⟨B2, e2, h2⟩ := rd_about3 (N := N) hN h1
  obtain ⟨B3, e3, h3⟩ := rd_window (N := N) hN h2 hb
  refine ⟨B3, ?_, h3.1⟩
  unfold f_L_holds_j1023
  rw [if_neg (show ¬ (1 : Int32) = 0 by decide), e1, m_b2, if_pos rfl, e2, m_b2, if_pos rfl, e3, m_b2, if_pos rfl]
theorem hl_844 (hN : 6000 < N) {a b c d : Int32} (hb : zbk a b c d) {B : zx_B} (h : zK S Sx t f B) : ∃ B' S', f_L_holds_j844 N (nI (zdo t).length) (nI (zct t 24)) a b c d (zwl (zmt t f a b c d) 24 0 0) 1 B = some (1, B') ∧ ZInv B' S' ∧ zgst N a b c d S S' := by
  have hN1 : 100 < N := by omega
  have hle := zct_le (t := t) 24
  obtain ⟨B1, e1, h1⟩ := rd_about3 (N := N) hN1 h
  have hc := z_cnt (N := N) hN1 h
  unfold f_L_holds_j844
  rw [e1, m_b2]
  by_cases h24 : zct t 24 < 24
  · obtain ⟨xo, B2, e2, h2, hx⟩ := rd_ifAdded (N := N) hN h1 hb h24
    obtain ⟨i, Br, T', S1, t1, xo', e3, er, h3, k3, hi, hp1, hcn, hct1, hx', hov⟩ := ac_add (N := N) hN h2 hb h24
    have := zxo_uq hx hx'
    subst this
    obtain ⟨a0, o0, hr0⟩ := zrg_of h2.1
    obtain ⟨Br', a1, o1, er', hr1, ha1, hte1, _, _, _⟩ := m_remember (N := N) hr0
    have := Option.some.inj (er.symm.trans er')
    subst this
    have er4 : f_L_call N 2 (nI i) 2 0 (zx_sb Br 0 T') = some (T' 0 (4 * i + 2), zx_sb Br 0 T') := rd_rect (N := N) (k := 2) hN1 h3 hi (by omega) hp1
    obtain ⟨B4, e4, s4⟩ := rd_about3s (N := N) hN1 h3
    have h4 := zK_sc h3 s4
    have e5 := rd_about0 (N := N) hN1 h4
    obtain ⟨Bs, T'', S2, t2, n2, e6, n1, n100, es, h6, k6, hct2⟩ := ac_remove (N := N) hN h4 hi hp1
    have hr4 : zrg B4 a1 o1 := by
      obtain ⟨q1, q2, q3, q4⟩ := hr1
      refine ⟨?_, ?_, q3, q4⟩
      · rw [s4.2.2.2, zsb_ne (by decide)]; exact q1
      · rw [s4.2.2.2, zsb_ne (by decide)]; exact q2
    obtain ⟨Bs', a2, o2, es', hr2, ha2, _, hpr, _, _⟩ := m_remember (N := N) hr4
    have := Option.some.inj (es.symm.trans es')
    subst this
    obtain ⟨ha2', hpr2⟩ := hpr ha1
    have e7 := rd_about0 (N := N) hN1 h6
    obtain ⟨x2, rfl⟩ : ∃ x2, a2 = x2 + 2 := ⟨a2 - 2, by omega⟩
    have hr6 : zrg (zx_sb Bs 0 T'') (x2 + 1 + 1) o2 := by
      obtain ⟨q1, q2, q3, q4⟩ := hr2
      exact ⟨by rw [zsb_ne (by decide)]; exact q1, by rw [zsb_ne (by decide)]; exact q2, q3, q4⟩
    obtain ⟨B8, S3, r3, e8, h8, k8, hr8, _, f8⟩ := ac_undo (N := N) hN h6.1 hr6
    obtain ⟨B9, S4, r4, e9, h9, k9, hr9, te9, f9⟩ := ac_undo (N := N) hN h8 hr8
    have ho2 := hr2.2.2.2
    have hx2 := hr2.2.2.1
    have ho1 := hr1.2.2.2
    have te : zte (B2 0) (B9 0) := by
      refine zte_trans hte1 ?_
      rw [show x2 + 2 - 2 = x2 by omega] at hpr2
      have hB8 : B8 (2 + (o2 + x2) % 14) = Br (2 + (o1 + (a1 - 1)) % 14) := by
        rw [f8 _ (by omega) (by omega), zsb_ne (by omega), hpr2, s4.1 _ (by omega) (by omega), zsb_ne (by omega)]
      rw [← hB8]
      exact te9
    have hK9 : zK S4 Sx t f B9 := ⟨h9, zQ_te h2.2.1 te (fun _ _ => rfl), fun j hj => (te.1 j hj).trans (h2.2.2 j hj)⟩
    obtain ⟨B', e10, h10⟩ := hl_1023 (N := N) hN1 hb hK9
    have hov0 : zsum (zov (T' 0) t1) (zdo t1) = zsum (zov f t) (zdo t) + (xo - zsum (zov f t) (zdo t)) := by rw [hov, Int32.add_comm, Int32.sub_add_cancel]
    refine ⟨B', S4, ?_, h10, Or.inr ⟨?_, _, _, _, _, _, _, _, k3, k6, k8, k9⟩⟩
    · unfold f_L_holds_j999
      rw [e2, m_b2, if_neg (by rw [zl24, nI_leI (by decide) (by omega)]; omega), if_neg (show ¬ (1 : Int32) = 0 by decide), e3, m_b2, if_neg (by rw [zl0, nI_ltI (by omega) (by omega)]; omega), er4, m_b2, if_pos hcn, e4, m_b2, if_pos hov0, e5, m_b2, if_pos (by rw [hct1, zl1, nI_add]), e6, m_b2, if_neg (by rw [zl1, nI_ltI (by omega) (by omega)]; omega), e7, m_b2, if_pos (by congr 1; omega), e8, m_b2, if_neg (by rw [zl0, nI_ltI (by omega) (by omega)]; omega), e9, m_b2, if_neg (by rw [zl0, nI_ltI (by omega) (by omega)]; omega)]
      exact e10
    · rw [hc]
      intro z
      have := (nI_eq (by omega) (by omega)).mp (Option.some.inj z)
      omega
  · have h24e : zct t 24 = 24 := by omega
    have e2 := rd_ifFull (N := N) hN h1 hb h24e
    obtain ⟨B', e10, h10⟩ := hl_1023 (N := N) hN1 hb h1
    refine ⟨B', S, ?_, h10, Or.inl ⟨by rw [hc, h24e], rfl⟩⟩
    unfold f_L_holds_j1004 f_L_holds_j1021
    rw [e2, m_b2, h24e, if_pos (by decide), if_neg (show ¬ (1 : Int32) = 0 by decide), if_pos rfl]
    exact e10
theorem hl_738 (hN : 6000 < N) {a b c d : Int32} (hb : zbk a b c d) {m : Nat} (hm : m ≤ 24) (hmt : m ≠ 0 → ∃ i, i < 24 ∧ zmt t f a b c d i = true) {B : zx_B} (h : zK S Sx t f B) : ∃ B' S', f_L_holds_j738 N (nI (zdo t).length) (nI (zct t 24)) (nI (zlv t (zrt t) - 1)) 1 a b c d (zwl (zmt t f a b c d) 24 0 0) (nI m) B = some (1, B') ∧ ZInv B' S' ∧ zgst N a b c d S S' := by
  have hN1 : 100 < N := by omega
  have hle := zct_le (t := t) 24
  have hdl := zdo_le h.2.1.2.2.1
  have ht := zK_zb h
  have h6 := ht.2.2.2.2 (zrt t)
  have hrt := h.2.1.2.2.1.2.2.2.2.2.2.1.2
  obtain ⟨v, B1, e1, h1, v1, v2, v3⟩ := rd_looks (N := N) hN1 h hb
  obtain ⟨j, B2, e2, h2, j1, j2⟩ := rd_chosen (N := N) hN1 h1 hb
  obtain ⟨B3, e3, h3⟩ := rd_node0 (N := N) hN1 h2 j1
  rw [j2] at e3
  obtain ⟨r, B4, e4, h4, hr⟩ := rd_best (N := N) hN h3
  obtain ⟨r2, B5, e5, h5, hr2⟩ := rd_anew (N := N) hN h4
  obtain ⟨B', S', e6, h6', h7⟩ := hl_844 (N := N) hN hb h5
  refine ⟨B', S', ?_, h6', h7⟩
  have g795 : f_L_holds_j795 N (nI (zdo t).length) (nI (zct t 24)) a b c d (zwl (zmt t f a b c d) 24 0 0) (nI j) B2 = some (1, B') := by
    unfold f_L_holds_j795 f_L_holds_j816 f_L_holds_j829
    rw [e3, m_b2, if_pos (show nI (1 - 1) = 0 from rfl)]
    have hz : nI (zct t 24) = 0 ↔ zct t 24 = 0 := by rw [zl0, nI_eq (by omega) (by omega)]
    have n5 : ¬ r2 < 0 := by rw [zi_lt0]; omega
    by_cases q : zct t 24 = 0
    · rw [if_pos (hz.mpr q), e4, m_b2, if_pos (hr.mpr q), if_pos rfl, e5, m_b2, if_neg n5]
      exact e6
    · rw [if_neg (fun z => q (hz.mp z)), e4, m_b2, if_neg (fun z => q (hr.mp z)), if_pos rfl, e5, m_b2, if_neg n5]
      exact e6
  unfold f_L_holds_j738
  rw [e1, m_b2, e2, m_b2, if_neg (show ¬ (1 : Int32) = 0 by decide), if_neg (by rw [zl1, nI_ltI (by omega) (by omega)]; omega), if_neg (by rw [nI_ltI (by omega) (by omega)]; omega)]
  by_cases q : m = 0
  · rw [if_pos (by rw [q]; rfl)]
    exact g795
  · have := v3 (hmt q)
    rw [if_neg (by rw [zl0, nI_eq (by omega) (by omega)]; exact q), if_neg (by rw [nI_leI (by omega) (by omega)]; omega)]
    exact g795
/-- the window of a number -/
def zwc (n : Nat) : Nat := n % 100 + n / 16384 % (100 - n % 100)
def zwd (n : Nat) : Nat := n / 128 % 100 + n / 131072 % (100 - n / 128 % 100)
theorem hl_533 (hN : 6000 < N) {n : Nat} (hn : n < 2 ^ 31) {B : zx_B} (h : zK S Sx t f B) : ∃ B' S', f_L_holds_j533 N (nI n) (nI (zdo t).length) (nI (zct t 24)) (nI (zlv t (zrt t) - 1)) 1 B = some (1, B') ∧ ZInv B' S' ∧ zgst N (nI (n % 100)) (nI (n / 128 % 100)) (nI (zwc n)) (nI (zwd n)) S S' := by
  have hN1 : 100 < N := by omega
  have h1 : n % 100 < 100 := Nat.mod_lt _ (by decide)
  have h2 : n / 128 % 100 < 100 := Nat.mod_lt _ (by decide)
  have h3 : n / 16384 % (100 - n % 100) < 100 - n % 100 := Nat.mod_lt _ (by omega)
  have h4 : n / 131072 % (100 - n / 128 % 100) < 100 - n / 128 % 100 := Nat.mod_lt _ (by omega)
  have hd : ∀ k, n / k < 2 ^ 31 := fun k => Nat.lt_of_le_of_lt (Nat.div_le_self _ _) hn
  have hb : zbk (nI (n % 100)) (nI (n / 128 % 100)) (nI (zwc n)) (nI (zwd n)) := by
    unfold zbk zwc zwd
    rw [nI_toInt (by omega), nI_toInt (by omega), nI_toInt (by omega), nI_toInt (by omega)]
    omega
  obtain ⟨B1, e1, k1⟩ := rd_window (N := N) hN1 h hb
  obtain ⟨m, B2, e2, m1, m2, k2⟩ := hl_602 (N := N) hN1 (v2 := nI (zdo t).length) (v3 := nI (zct t 24)) (v4 := nI (zlv t (zrt t) - 1)) (a := nI (n % 100)) (b := nI (n / 128 % 100)) (c := nI (zwc n)) (d := nI (zwd n)) (w := zwl (zmt t f (nI (n % 100)) (nI (n / 128 % 100)) (nI (zwc n)) (nI (zwd n))) 24 0 0) (fun i hi => by
    rw [zwl_bt 24 0 0 rfl (fun i _ => by rw [b_0, decide_eq_false (Nat.not_lt_zero _), Bool.false_and]) i (by omega), decide_eq_true hi, Bool.true_and]) 24 30 0 0 B1 (by omega) rfl (Nat.le_refl _) (fun z => absurd rfl z) k1
  obtain ⟨B', S', e3, k3, k4⟩ := hl_738 (N := N) hN hb m1 m2 k2
  refine ⟨B', S', ?_, k3, k4⟩
  have s1 : (100 : Int32) - nI (n % 100) = nI (100 - n % 100) := by rw [zl100, zi_sub (by omega)]
  have s2 : (100 : Int32) - nI (n / 128 % 100) = nI (100 - n / 128 % 100) := by rw [zl100, zi_sub (by omega)]
  have z1 : ¬ nI (100 - n % 100) = 0 := by rw [zl0, nI_eq (by omega) (by omega)]; omega
  have z2 : ¬ nI (100 - n / 128 % 100) = 0 := by rw [zl0, nI_eq (by omega) (by omega)]; omega
  have d1 : nI n / 16384 = nI (n / 16384) := zi_div (b := 16384) hn (by decide)
  have d2 : nI n / 131072 = nI (n / 131072) := zi_div (b := 131072) hn (by decide)
  unfold f_L_holds_j533
  rw [zi_100 hn, m_n, zi_128 hn, m_n, zi_100 (hd 128), m_n, d1, m_n, s1, m_nz32 z1, zi_mod (hd 16384) (by omega), m_n, nI_add, m_n, d2, m_n, s2, m_nz32 z2, zi_mod (hd 131072) (by omega), m_n, nI_add, m_n]
  have e1' : f_L_tryWindow N (nI (n % 100)) (nI (n / 128 % 100)) (nI (n % 100 + n / 16384 % (100 - n % 100))) (nI (n / 128 % 100 + n / 131072 % (100 - n / 128 % 100))) B = _ := e1
  rw [e1', m_b2]
  exact e2.trans e3
theorem hl_all (hN : 6000 < N) {n : Nat} (hn : n < 2 ^ 31) {B : zx_B} (h : zK S Sx t f B) : ∃ B' S', f_L_holds N (nI n) B = some (1, B') ∧ ZInv B' S' ∧ zgst N (nI (n % 100)) (nI (n / 128 % 100)) (nI (zwc n)) (nI (zwd n)) S S' := by
  have hN1 : 100 < N := by omega
  obtain ⟨B1, e1, h1⟩ := rd_about1 (N := N) hN1 h
  have e2 := rd_about0 (N := N) hN1 h1
  have e3 := rd_about2 (N := N) hN1 h1
  obtain ⟨u, eu⟩ := zdo_0 (t := t)
  have hl1 : 0 < (zdo t).length := by rw [eu]; simp
  have hr0 : (zdo t).getD 0 0 = zrt t := by rw [eu]; rfl
  obtain ⟨B2, e4, h2⟩ := rd_node0 (N := N) hN1 h1 hl1
  rw [hr0] at e4
  have e4' : f_L_call N 3 0 0 0 B1 = some (nI (zlv t (zrt t) - 1), B2) := e4
  obtain ⟨B3, e5, h3⟩ := rd_node60 (N := N) hN1 h2
  obtain ⟨B4, e6, h4⟩ := hl_70 (N := N) hN1 (x := nI n) (v3 := nI (zct t 24)) (v4 := nI (zlv t (zrt t) - 1)) (zdo t) [] 30 B3 rfl (by have := zdo_le h.2.1.2.2.1; omega) h3
  obtain ⟨B5, e7, h5⟩ := hl_482 (N := N) hN1 (x := nI n) (v4 := nI (zlv t (zrt t) - 1)) h4
  obtain ⟨B', S', e8, h8, h9⟩ := hl_533 (N := N) hN hn h5
  refine ⟨B', S', ?_, h8, h9⟩
  unfold f_L_holds f_L_holds_j65
  rw [e1, m_b2, e2, m_b2, e3, m_b2, e4', m_b2, if_pos rfl, e5, m_b2, if_pos rfl]
  exact (e6.trans e7).trans e8
end HW
/-- of two objects with one ghost holds is true, and both go on with one ghost -/
theorem hl_pair {N : Nat} (hN : 6000 < N) {n : Nat} (hn : n < 2 ^ 31) {B C : zx_B} {S : zx_S} (hB : ZInv B S) (hC : ZInv C S) : ∃ B' C' S', f_L_holds N (nI n) B = some (1, B') ∧ f_L_holds N (nI n) C = some (1, C') ∧ ZInv B' S' ∧ ZInv C' S' := by
  obtain ⟨t, f, hK⟩ := zK_mk hB
  obtain ⟨t2, f2, hK2⟩ := zK_mk hC
  obtain ⟨B', S1, e1, h1, c1⟩ := hl_all (N := N) hN hn hK
  obtain ⟨C', S2, e2, h2, c2⟩ := hl_all (N := N) hN hn hK2
  have := zgst_uq c1 c2
  subst this
  exact ⟨B', C', S1, e1, e2, h1, h2⟩
