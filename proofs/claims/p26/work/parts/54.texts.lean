/-! the whole text; errorPosition, addAll -/
def zpt (ch : Nat → Nat) (L : Nat) : Nat → Nat → List ZQd → List ZQd × Option Nat
  | 0, p, rs => (rs, some p)
  | n + 1, p, rs => match zpr1 ch L p with
    | .inl q => (rs, some q)
    | .inr (r, p7) => if p7 = L then (rs ++ [r], none) else match zpsep ch L 59 p7 with
      | none => (rs ++ [r], some p7)
      | some q => zpt ch L n q (rs ++ [r])
theorem zpt_s {ch : Nat → Nat} {L n p : Nat} {rs : List ZQd} : zpt ch L (n + 1) p rs = match zpr1 ch L p with
    | .inl q => (rs, some q)
    | .inr (r, p7) => if p7 = L then (rs ++ [r], none) else match zpsep ch L 59 p7 with
      | none => (rs ++ [r], some p7)
      | some q => zpt ch L n q (rs ++ [r]) := rfl
def zer (e : Option Nat) : Int32 := match e with
  | none => -1
  | some q => nI q
def zbf (g : Nat → Int32) : Nat → List ZQd → Prop
  | _, [] => True
  | k, q :: l => zb4 g k q ∧ zbf g (k + 1) l
theorem zbf_app {g : Nat → Int32} : ∀ {l m : List ZQd} {k : Nat}, zbf g k (l ++ m) ↔ zbf g k l ∧ zbf g (k + l.length) m
  | [], m, k => by simp [zbf]
  | q :: l, m, k => by
    rw [List.cons_append, zbf, zbf, zbf_app (l := l), List.length_cons, show k + 1 + l.length = k + (l.length + 1) by omega, and_assoc]
theorem zb4_cg {g g' : Nat → Int32} {k : Nat} {q : ZQd} (h : ∀ j, 4 * k ≤ j → j < 4 * k + 4 → g' j = g j) (hb : zb4 g k q) : zb4 g' k q := by
  unfold zb4 at hb ⊢
  rw [h (4 * k) (by omega) (by omega), h (4 * k + 1) (by omega) (by omega), h (4 * k + 2) (by omega) (by omega), h (4 * k + 3) (by omega) (by omega)]
  exact hb
theorem zbf_cg {g g' : Nat → Int32} : ∀ {l : List ZQd} {k : Nat}, (∀ j, 4 * k ≤ j → j < 4 * (k + l.length) → g' j = g j) → zbf g k l → zbf g' k l
  | [], k, _, _ => trivial
  | q :: l, k, h, hb => by
    rw [List.length_cons] at h
    exact ⟨zb4_cg (fun j h1 h2 => h j h1 (by omega)) hb.1, zbf_cg (fun j h1 h2 => h j (by omega) (by omega)) hb.2⟩
theorem m_read_l {N L : Nat} (hN : 100 < N) {ch : Nat → Nat} : ∀ (n k p : Nat) (rs : List ZQd) (S : zx_S), n + rs.length = 13 → n + 1 < k → 8 * rs.length ≤ p → p ≤ L → zchs (S 0) ch L → ztx S L p rs.length 0 → zbf (S 1) 0 rs →
    ∃ S', f_X0_read_l17 N k (nI rs.length) S = some (zer (zpt ch L n p rs).2, S') ∧ S' 2 0 = nI L ∧ S' 2 1 = nI (zpt ch L n p rs).1.length ∧ zfr [1, 2] S S' ∧ zbf (S' 1) 0 (zpt ch L n p rs).1
  | 0, k, p, rs, S, hn, hk, h8, hp, hch, hx, hb => by
    have := hch.1
    omega
  | n + 1, k + 1, p, rs, S, hn, hk, h8, hp, hch, hx, hb => by
    have hL := hch.1
    obtain ⟨a1, a2⟩ := m_rect (N := N) hN hp (by omega) hch hx
    -- wrong: the place is the answer
    have wrong : ∀ (S1 : zx_S) (q cnt : Nat), ztx S1 L q cnt 1 → ∃ S2, f_X0_read_j54 N (f_X0_read_l17 N k) (nI rs.length) S1 = some (nI q, S2) ∧ ztx S2 L q cnt 1 ∧ zfr [2] S1 S2 := by
      intro S1 q cnt h1
      obtain ⟨S2, e2, k2, f2⟩ := m_exp_w (N := N) (c := 59) h1
      refine ⟨S2, ?_, k2, f2⟩
      obtain ⟨k', rfl⟩ : ∃ k', k = k' + 1 := ⟨k - 1, by omega⟩
      unfold f_X0_read_j54
      rw [e2, m_b1, m_n, show nI rs.length + 1 = nI (rs.length + 1) by rw [zl1, nI_add], f_X0_read_l17, if_neg (by rw [zl100, nI_ltI (by decide) (by omega)]; omega), if_neg (by rw [k2.2.2.2]; decide)]
      unfold f_X0_read_j66
      rw [k2.2.1]
    rw [f_X0_read_l17, if_neg (by rw [zl100, nI_ltI (by decide) (by omega)]; omega), if_pos hx.2.2.2, zpt_s]
    rcases hz : zpr1 ch L p with q | ⟨r, p7⟩
    · obtain ⟨q1, q2, S1, e1, k1, f1⟩ := a1 q hz
      obtain ⟨S2, e2, k2, f2⟩ := wrong S1 q rs.length k1
      refine ⟨S2, ?_, k2.1, k2.2.2.1, zfr_trans (zfr_sub f1 (by decide)) (zfr_sub f2 (by decide)), ?_⟩
      · rw [e1, m_b1, if_neg (by rw [k1.2.2.2]; decide), e2]; rfl
      · rw [f2 1 (by decide), f1 1 (by decide)]; exact hb
    · obtain ⟨q1, q2, q3, S1, e1, k1, f1, b1, o1⟩ := a2 r p7 hz
      have hb1 : zbf (S1 1) 0 (rs ++ [r]) := zbf_app.mpr ⟨zbf_cg (fun j _ h => o1 j (by omega)) hb, by rw [Nat.zero_add]; exact b1, trivial⟩
      have hlen : (rs ++ [r]).length = rs.length + 1 := by simp
      rw [e1, m_b1, if_pos k1.2.2.2, k1.2.1, k1.1]
      simp only
      by_cases cL : p7 = L
      · rw [if_pos cL]
        refine ⟨S1, by rw [if_pos (by rw [cL])]; rfl, k1.1, by rw [hlen]; exact k1.2.2.1, f1, hb1⟩
      · rw [if_neg cL, if_neg (by rw [nI_eq (by omega) (by omega)]; exact cL)]
        have c1 : zchs (S1 0) ch L := by rw [f1 0 (by decide)]; exact hch
        obtain ⟨b2, b3⟩ := m_exp (N := N) (c := 59) (by decide) q3 c1 k1
        rcases hs : zpsep ch L 59 p7 with _ | q
        · obtain ⟨S2, e2, k2, f2⟩ := b3 hs
          obtain ⟨k', rfl⟩ : ∃ k', k = k' + 1 := ⟨k - 1, by omega⟩
          refine ⟨S2, ?_, k2.1, by rw [hlen]; exact k2.2.2.1, zfr_trans f1 (zfr_sub f2 (by decide)), by rw [f2 1 (by decide)]; exact hb1⟩
          unfold f_X0_read_j54
          rw [show (59 : Int32) = nI 59 from rfl, e2, m_b1, m_n, show nI rs.length + 1 = nI (rs.length + 1) by rw [zl1, nI_add], f_X0_read_l17, if_neg (by rw [zl100, nI_ltI (by decide) (by omega)]; omega), if_neg (by rw [k2.2.2.2]; decide)]
          unfold f_X0_read_j66
          rw [k2.2.1]
          rfl
        · obtain ⟨S2, e2, k2, f2⟩ := b2 q hs
          have hq := zpsep_sp hs
          obtain ⟨S3, e3, g1, g2, g3, g4⟩ := m_read_l (L := L) (ch := ch) hN n k q (rs ++ [r]) S2 (by rw [hlen]; omega) (by omega) (by rw [hlen]; omega) (by omega) (by rw [f2 0 (by decide)]; exact c1) (by rw [hlen]; exact k2) (by rw [f2 1 (by decide)]; exact hb1)
          refine ⟨S3, ?_, g1, g2, zfr_trans f1 (zfr_trans (zfr_sub f2 (by decide)) g3), g4⟩
          unfold f_X0_read_j54
          rw [show (59 : Int32) = nI 59 from rfl, e2, m_b1, m_n, show nI rs.length + 1 = nI (rs ++ [r]).length by rw [zl1, nI_add, hlen]]
          exact e3
theorem m_read {N L : Nat} (hN : 100 < N) {ch : Nat → Nat} {S : zx_S} (hch : zchs (S 0) ch L) (h0 : S 2 0 = nI L) :
    ∃ S', f_X0_read N S = some (zer (zpt ch L 13 0 []).2, S') ∧ S' 2 0 = nI L ∧ S' 2 1 = nI (zpt ch L 13 0 []).1.length ∧ zfr [1, 2] S S' ∧ zbf (S' 1) 0 (zpt ch L 13 0 []).1 := by
  obtain ⟨S1, eS1⟩ : ∃ S1, S1 = zx_st (zx_st (zx_st S 2 (upd (S 2) 2 0)) 2 (upd (upd (S 2) 2 0) 1 0)) 2 (upd (upd (upd (S 2) 2 0) 1 0) 3 0) := ⟨_, rfl⟩
  have f1 : zfr [1, 2] S S1 := by rw [eS1]; exact zfr_st (by simp) (zfr_st (by simp) (zfr_st (by simp) zfr_refl))
  have h2 : S1 2 = upd (upd (upd (S 2) 2 0) 1 0) 3 0 := by rw [eS1, st_at]
  obtain ⟨S', e, g1, g2, g3, g4⟩ := m_read_l (N := N) (L := L) (ch := ch) hN 13 N 0 [] S1 rfl (by omega) (by simp) (Nat.zero_le _) (by rw [f1 0 (by decide)]; exact hch) (by
    refine ⟨?_, ?_, ?_, ?_⟩
    · rw [h2, up_ne (by decide), up_ne (by decide), up_ne (by decide)]; exact h0
    · rw [h2, up_ne (by decide), up_ne (by decide), up_at]; rfl
    · rw [h2, up_ne (by decide), up_at]; rfl
    · rw [h2, up_at]) trivial
  refine ⟨S', ?_, g1, g2, zfr_trans f1 g3, g4⟩
  unfold f_X0_read
  rw [m_n, m_n, m_n]
  simp only [st_at]
  rw [← eS1]
  exact e
theorem r_read_l {N L w : Nat} (hN : 100 < N) {ch : Nat → Nat} : ∀ (n k p : Nat) (rs : List ZQd) (S : zx_S), n + rs.length = 13 → n + 1 < k → 8 * rs.length ≤ p → p ≤ L → zchs (S 0) ch L → zrx S L p → S 12 7 = nI rs.length →
    ∃ S', f_X3_readText_l12 N w k 0 1 S = some (zer (zpt ch L n p rs).2, S') ∧ zfr [12] S S' ∧ (∀ j, j ≠ 6 → j ≠ 7 → S' 12 j = S 12 j) ∧ S' 12 7 = nI (zpt ch L n p rs).1.length
  | 0, k, p, rs, S, hn, hk, h8, hp, hch, hx, h7 => by
    have := hch.1
    omega
  | n + 1, k + 1, p, rs, S, hn, hk, h8, hp, hch, hx, h7 => by
    have hL := hch.1
    obtain ⟨a1, a2⟩ := r_one (N := N) (w := w) (v2 := 0) hN hp hch hx
    obtain ⟨m1, m2⟩ := m_rect (N := N) (S := fun j => if j = 0 then S 0 else fun i => if i = 0 then nI L else if i = 2 then nI p else 0) (L := L) (cnt := 0) hN hp (by decide) hch ⟨rfl, rfl, rfl, rfl⟩
    rw [f_X3_readText_l12, if_neg (by decide), zpt_s]
    rcases hz : zpr1 ch L p with q | ⟨r, p7⟩
    · obtain ⟨S1, e1, k1, f1⟩ := a1 q hz
      refine ⟨S1, ?_, f1.1, fun j h _ => f1.2 j h, by rw [f1.2 7 (by decide)]; exact h7⟩
      rw [e1, m_b2, if_pos rfl, k1.2]; rfl
    · obtain ⟨S1, S2, f1, k1, eS2, e1⟩ := a2 r p7 hz
      obtain ⟨_, q2, q3, _⟩ := m2 r p7 hz
      rw [if_pos rfl] at e1
      have hlen : (rs ++ [r]).length = rs.length + 1 := by simp
      have f2 : zfr [12] S S2 := zfr_trans f1.1 (by rw [eS2]; exact zfr_st (by simp) zfr_refl)
      have g2 : ∀ j, j ≠ 6 → j ≠ 7 → S2 12 j = S 12 j := fun j h6 h7 => by rw [eS2, st_at, up_ne h7]; exact f1.2 j h6
      have h27 : S2 12 7 = nI (rs ++ [r]).length := by rw [eS2, st_at, up_at, f1.2 7 (by decide), h7, hlen, zl1, nI_add]
      have k2 : zrx S2 L p7 := ⟨by rw [eS2, st_at, up_ne (by decide)]; exact k1.1, by rw [eS2, st_at, up_ne (by decide)]; exact k1.2⟩
      have c2 : zchs (S2 0) ch L := by rw [f2 0 (by decide)]; exact hch
      obtain ⟨b2, b3⟩ := r_pass (N := N) (c := 59) (by decide) q3 c2 k2
      rw [e1, m_b2, if_neg (by decide)]
      simp only
      have fin : zpsep ch L 59 p7 = none → (zx_b2 (f_X3_passed N 59 S2) fun x7 T8 => f_X3_readText_l12 N w k 0 x7 T8) = some (if p7 = L then -1 else nI p7, S2) := by
        intro hs
        obtain ⟨k', rfl⟩ : ∃ k', k = k' + 1 := ⟨k - 1, by omega⟩
        rw [show (59 : Int32) = nI 59 from rfl, b3 hs, m_b2, f_X3_readText_l12, if_pos rfl, k2.1, k2.2]
        by_cases cL : p7 = L
        · rw [if_pos cL, if_pos (by rw [cL, nI_leI (by omega) (by omega)]; omega)]
        · rw [if_neg cL, if_neg (by rw [nI_leI (by omega) (by omega)]; omega)]
      by_cases cL : p7 = L
      · rw [if_pos cL]
        have hs : zpsep ch L 59 p7 = none := by unfold zpsep; rw [if_neg (by omega)]
        refine ⟨S2, ?_, f2, g2, h27⟩
        rw [fin hs, if_pos cL]; rfl
      · rw [if_neg cL]
        rcases hs : zpsep ch L 59 p7 with _ | q
        · refine ⟨S2, ?_, f2, g2, h27⟩
          rw [fin hs, if_neg cL]; rfl
        · obtain ⟨S3, e3, k3, f3⟩ := b2 q hs
          have hq := zpsep_sp hs
          obtain ⟨S4, e4, g4, g5, g6⟩ := r_read_l (L := L) (ch := ch) (w := w) hN n k q (rs ++ [r]) S3 (by rw [hlen]; omega) (by omega) (by rw [hlen]; omega) (by omega) (by rw [f3.1 0 (by decide)]; exact c2) k3 (by rw [f3.2 7 (by decide)]; exact h27)
          refine ⟨S4, ?_, zfr_trans f2 (zfr_trans f3.1 g4), fun j h6 h7 => by rw [g5 j h6 h7, f3.2 j h6, g2 j h6 h7], g6⟩
          rw [show (59 : Int32) = nI 59 from rfl, e3, m_b2]
          exact e4
theorem r_read {N L w : Nat} (hN : 100 < N) {ch : Nat → Nat} {S : zx_S} (hch : zchs (S 0) ch L) (h1 : S 12 1 = nI L) :
    ∃ S', f_X3_readText N w 0 S = some (zer (zpt ch L 13 0 []).2, S') ∧ zfr [12] S S' ∧ (∀ j, j ≠ 6 → j ≠ 7 → S' 12 j = S 12 j) ∧ S' 12 7 = nI (zpt ch L 13 0 []).1.length := by
  obtain ⟨S1, eS1⟩ : ∃ S1, S1 = zx_st (zx_st S 12 (upd (S 12) 6 0)) 12 (upd (upd (S 12) 6 0) 7 0) := ⟨_, rfl⟩
  have f1 : zfr [12] S S1 := by rw [eS1]; exact zfr_st (by simp) (zfr_st (by simp) zfr_refl)
  have h12 : S1 12 = upd (upd (S 12) 6 0) 7 0 := by rw [eS1, st_at]
  obtain ⟨S', e, g1, g2, g3⟩ := r_read_l (N := N) (L := L) (w := w) (ch := ch) hN 13 N 0 [] S1 rfl (by omega) (by simp) (Nat.zero_le _) (by rw [f1 0 (by decide)]; exact hch) ⟨by rw [h12, up_ne (by decide), up_ne (by decide)]; exact h1, by rw [h12, up_ne (by decide), up_at]; rfl⟩ (by rw [h12, up_at]; rfl)
  refine ⟨S', ?_, zfr_trans f1 g1, fun j h6 h7 => by rw [g2 j h6 h7, h12, up_ne h7, up_ne h6], g3⟩
  unfold f_X3_readText
  rw [m_n, m_n]
  simp only [st_at]
  rw [← eS1]
  exact e
/-- the text of now -/
theorem z_text {B : zx_B} {S : zx_S} (hI : ZInv B S) : ∃ L ch, zchs (S 0) ch L ∧ zchs (B 18 0) ch L ∧ S 12 1 = nI L ∧ B 18 2 0 = nI L := by
  obtain ⟨_, ⟨n, hn, e1, e2, hc⟩, _, _⟩ := hI
  have key : ∀ i, i < n → S 0 i = nI (S 0 i).toInt.toNat ∧ (S 0 i).toInt.toNat < 256 := by
    intro i hi
    obtain ⟨_, h1, h2⟩ := hc i hi
    rcases zi_cases (S 0 i) 256 (by decide) with ⟨j, hj, e⟩ | z | z
    · have : (S 0 i).toInt.toNat = j := by rw [e, nI_toInt (by omega)]; rfl
      rw [this]; exact ⟨e, hj⟩
    · omega
    · omega
  refine ⟨n, fun i => (S 0 i).toInt.toNat, ⟨hn, key⟩, ⟨hn, fun i hi => ?_⟩, e2, e1⟩
  rw [(hc i hi).1]; exact key i hi
theorem op_errorPosition {N : Nat} (hN : 6000 < N) : zs_errorPosition N ZInv := by
  intro B S hI
  obtain ⟨t, S0, eS0, hQ, hQ0, fS0, h120, h121, h122, hI0⟩ := z_setup hI
  obtain ⟨L, ch, c1, c2, l1, l2⟩ := z_text hI0
  obtain ⟨T', e1, g1, g2, g3, g4⟩ := m_read (N := N) (by omega) c2 l2
  obtain ⟨S', e2, f1, f2, f3⟩ := r_read (N := N) (w := 1) (by omega) c1 l1
  refine ⟨zer (zpt ch L 13 0 []).2, zx_sb B 18 T', S', ?_, ?_, ZInv_congr (fun j h1 h2 => zsb_ne (by omega)) ⟨by rw [zsb_at, g3 0 (by decide)], by rw [zsb_at, g1, l2]⟩ (zsb_ne (by decide)) ⟨f1 0 (by decide), f1 1 (by decide), f1 3 (by decide), f1 4 (by decide), f1 5 (by decide)⟩ ⟨f2 1 (by decide) (by decide), f2 2 (by decide) (by decide)⟩ hI0⟩
  · unfold f_X2_errorPosition
    rw [e1, m_b2, m_n]
  · unfold f_X3_errorPosition
    rw [m_n, ← eS0, e2, m_b2]
theorem zpt_pre {ch : Nat → Nat} {L : Nat} : ∀ (n p : Nat) (rs : List ZQd), ∃ u, (zpt ch L n p rs).1 = rs ++ u
  | 0, p, rs => ⟨[], by rw [List.append_nil]; rfl⟩
  | n + 1, p, rs => by
    rw [zpt_s]
    rcases zpr1 ch L p with q | ⟨r, p7⟩
    · exact ⟨[], by rw [List.append_nil]⟩
    · simp only
      by_cases cL : p7 = L
      · rw [if_pos cL]; exact ⟨[r], rfl⟩
      · rw [if_neg cL]
        rcases zpsep ch L 59 p7 with _ | q
        · exact ⟨[r], rfl⟩
        · obtain ⟨u, e⟩ := zpt_pre (ch := ch) (L := L) n q (rs ++ [r])
          exact ⟨[r] ++ u, by simp only; rw [e, List.append_assoc]⟩
theorem zpr1_sp {ch : Nat → Nat} {L p : Nat} (hL : L ≤ 100) (hc : ∀ i, i < L → ch i < 256) (hp : p ≤ L) : (∀ q, zpr1 ch L p = .inl q → q ≤ L) ∧ ∀ r q, zpr1 ch L p = .inr (r, q) → zqo r ∧ p + 7 ≤ q ∧ q ≤ L := by
  obtain ⟨m1, m2⟩ := m_rect (N := 200) (S := fun j => if j = 0 then fun i => nI (ch i) else fun i => if i = 0 then nI L else if i = 2 then nI p else 0) (L := L) (cnt := 0) (by decide) hp (by decide) (ch := ch) ⟨hL, fun i hi => ⟨rfl, hc i hi⟩⟩ ⟨rfl, rfl, rfl, rfl⟩
  exact ⟨fun q h => (m1 q h).2.1, fun r q h => ⟨(m2 r q h).1, (m2 r q h).2.1, (m2 r q h).2.2.1⟩⟩
theorem zpt_pos {ch : Nat → Nat} {L : Nat} (hL : L ≤ 100) (hc : ∀ i, i < L → ch i < 256) : ∀ (n p : Nat) (rs : List ZQd), p ≤ L → ∀ q, (zpt ch L n p rs).2 = some q → q ≤ L
  | 0, p, rs, hp, q, h => by
    have : p = q := Option.some.inj h
    omega
  | n + 1, p, rs, hp, q, h => by
    obtain ⟨a1, a2⟩ := zpr1_sp hL hc hp
    rw [zpt_s] at h
    rcases hz : zpr1 ch L p with x | ⟨r, p7⟩
    · rw [hz] at h
      have : x = q := Option.some.inj h
      have := a1 x hz
      omega
    · rw [hz] at h
      have h7 := (a2 r p7 hz).2.2
      simp only at h
      by_cases cL : p7 = L
      · rw [if_pos cL] at h; cases h
      · rw [if_neg cL] at h
        rcases hs : zpsep ch L 59 p7 with _ | y
        · rw [hs] at h
          have : p7 = q := Option.some.inj h
          omega
        · rw [hs] at h
          have hy := zpsep_sp hs
          exact zpt_pos hL hc n y (rs ++ [r]) (by omega) q h
theorem m_corner0 {N : Nat} {S : zx_S} {k c : Nat} (hk : k < 14) (hc : c < 4) : f_X0_corner N (nI k) (nI c) S = some (S 1 (4 * k + c)) := by
  unfold f_X0_corner
  simp (disch := omega) only [↓zlm1, ↓zlm2, zi_e1, zi_e2, zi_1e, zi_12, zi_21, zi_1n, zi_n1, if_true, if_false, eq_self, not_false_eq_true, not_true_eq_false, nI_add, zi_4m, zi_5m, zi_8m, zi_mul4, zi_mul5, zi_sub, nI_leI, nI_ltI, nI_eq, zl0, zl1, zl2, zl3, zl4, zl5, zl6, zl8, zl9, zl24, zl32, zl48, zl49, zl99, zl100, zl120, zl376, zl377, zl378, zl379, zl380, ↓zi_192, zi_dec, Nat.add_zero, Nat.zero_add, m_n, m_b1, m_b2, m_rd, m_wr, m_get, m_put, nI_clamp, st_at, st_ne, up_at, up_ne, if_pos, if_neg]
theorem zPI_12 {w : Nat} {T S S' : zx_S} {t : ZT} {lo : List Nat} {ov m : Nat} (h : zPI w T S t lo ov m) (hw : S' w = S w) (h3 : S' 12 3 = S 12 3) : zPI w T S' t lo ov m := by
  obtain ⟨a1, a2, a3, a4, ⟨a5, a6, a7⟩, a8⟩ := h
  exact ⟨a1, by rw [hw]; exact a2, a3, a4, ⟨a5, by rw [h3]; exact a6, a7⟩, by unfold zcnt; rw [hw]; exact a8⟩
theorem zqo_bk {q : ZQd} (h : zqo q) : zbk (nI q.1) (nI q.2.1) (nI (q.1 + q.2.2.1 - 1)) (nI (q.2.1 + q.2.2.2 - 1)) := by
  obtain ⟨h1, h2, h3, h4, h5, h6⟩ := h
  unfold zbk
  rw [nI_toInt (by omega), nI_toInt (by omega), nI_toInt (by omega), nI_toInt (by omega)]
  omega
theorem z_addAll_l {N L : Nat} (hN : 6000 < N) {ch : Nat → Nat} : ∀ (n k k' p : Nat) (rs0 rs : List ZQd) (B : zx_B) (S : zx_S) (t : ZT) (m : Nat), n + rs0.length = 13 → n + 1 < k → n + 1 < k' → 8 * rs0.length ≤ p → p ≤ L → zchs (S 0) ch L → zrx S L p → zpt ch L n p rs0 = (rs, none) → zbf (B 18 1) 0 rs → B 18 2 1 = nI rs.length → zPI 1 (B 0) S t [] 99 m → zct t 24 + (rs.length - rs0.length) ≤ 24 →
    ∃ B' S' t', f_X2_addAll_l64 N k (nI rs0.length) B = some (nI (zct t' 24), (0, B')) ∧ f_X3_readText_l12 N 1 k' 1 1 S = some (-1, S') ∧ zQ 1 (B' 0) S' t' ∧ (∀ j, j ≠ 0 → B' j = B j) ∧ zfr [1, 6, 7, 12] S S' ∧ ∀ j, j < 3 → S' 12 j = S 12 j
  | 0, k, k', p, rs0, rs, B, S, t, m, hn, hk, hk', h8, hp, hch, hx, hz, hb, hl, hP, hct => by
    have := hch.1
    omega
  | n + 1, k + 1, k' + 1, p, rs0, rs, B, S, t, m, hn, hk, hk', h8, hp, hch, hx, hz, hb, hl, hP, hct => by
    have hN1 : 100 < N := by omega
    have hL := hch.1
    obtain ⟨a1, a2⟩ := r_one (N := N) (w := 1) (v2 := 1) hN1 hp hch hx
    obtain ⟨m1, m2⟩ := m_rect (N := N) (S := fun j => if j = 0 then S 0 else fun i => if i = 0 then nI L else if i = 2 then nI p else 0) (L := L) (cnt := 0) hN1 hp (by decide) hch ⟨rfl, rfl, rfl, rfl⟩
    have hpre := zpt_pre (ch := ch) (L := L) (n + 1) p rs0
    rw [zpt_s] at hz
    rcases hq : zpr1 ch L p with q | ⟨r, p7⟩
    · rw [hq] at hz
      have := (Prod.mk.inj hz).2
      cases this
    rw [hq] at hz
    simp only at hz
    obtain ⟨S1, S2, f1, k1, eS2, e1⟩ := a2 r p7 hq
    obtain ⟨hqo, q2, q3, _⟩ := m2 r p7 hq
    rw [if_neg (by decide)] at e1
    have hlen : (rs0 ++ [r]).length = rs0.length + 1 := by simp
    -- what is in the row
    have hrs : ∃ u, rs = rs0 ++ ([r] ++ u) := by
      by_cases cL : p7 = L
      · rw [if_pos cL] at hz
        exact ⟨[], by rw [← (Prod.mk.inj hz).1]; simp⟩
      · rw [if_neg cL] at hz
        rcases hs : zpsep ch L 59 p7 with _ | q
        · rw [hs] at hz
          have := (Prod.mk.inj hz).2
          cases this
        · rw [hs] at hz
          simp only at hz
          obtain ⟨u, e⟩ := zpt_pre (ch := ch) (L := L) n q (rs0 ++ [r])
          rw [hz] at e
          exact ⟨u, by rw [← List.append_assoc]; exact e⟩
    obtain ⟨u, hu⟩ := hrs
    have hb4 : zb4 (B 18 1) rs0.length r := by
      rw [hu] at hb
      have := (zbf_app.mp hb).2.1
      rw [Nat.zero_add] at this
      exact this
    have hrl : rs0.length < rs.length := by rw [hu, List.length_append, List.length_append]; simp; omega
    have h24 : zct t 24 < 24 := by omega
    obtain ⟨i, hi, hpf, hj⟩ := zct_free 24 h24
    have f2 : zfr [12] S S2 := zfr_trans f1.1 (by rw [eS2]; exact zfr_st (by simp) zfr_refl)
    have g2 : ∀ j, j ≠ 6 → j ≠ 7 → S2 12 j = S 12 j := fun j h6 h7 => by rw [eS2, st_at, up_ne h7]; exact f1.2 j h6
    have k2 : zrx S2 L p7 := ⟨by rw [eS2, st_at, up_ne (by decide)]; exact k1.1, by rw [eS2, st_at, up_ne (by decide)]; exact k1.2⟩
    have hP2 : zPI 1 (B 0) S2 t [] 99 m := zPI_12 hP (f2 1 (by decide)) (g2 3 (by decide) (by decide))
    obtain ⟨T1, T', S3, t', m', d1, d2, d3, d4, d5, d6, d7, d8⟩ := z_addOn (N := N) (w := 1) hN1 (by decide) (by decide) (by decide) hi hpf hj hP2 (zqo_bk hqo)
    have hlow := m_low (N := N) hN1 hP.1 hP.2.2.1 hi hpf hj
    have hct' : zct t' 24 = zct t 24 + 1 := by rw [zct_add d5 hpf 24, if_pos hi]
    have k3 : zrx S3 L p7 := ⟨by rw [d8.1 1 (by decide)]; exact k2.1, by rw [d8.2 6 (by decide)]; exact k2.2⟩
    have c3 : zchs (S3 0) ch L := by rw [d7 0 (by decide), f2 0 (by decide)]; exact hch
    have fS : zfr [1, 6, 7, 12] S S3 := zfr_trans (zfr_sub f2 (by decide)) d7
    have g3 : ∀ j, j < 3 → S3 12 j = S 12 j := fun j hj => by rw [d8.1 j hj, g2 j (by omega) (by omega)]
    obtain ⟨b2, b3⟩ := r_pass (N := N) (c := 59) (by decide) q3 c3 k3
    rw [d3, m_b2] at e1
    -- one step of the class
    have hstep : f_X2_addAll_l64 N (k + 1) (nI rs0.length) B = f_X2_addAll_l64 N k (nI (rs0.length + 1)) (zx_sb B 0 T') := by
      obtain ⟨v0, v1, v2, v3⟩ := hb4
      rw [f_X2_addAll_l64, hl, if_neg (by rw [nI_leI (by omega) (by omega)]; omega), hlow, m_b1, zl0, m_corner0 (by omega) (by omega), m_b1, zl1, m_corner0 (by omega) (by omega), m_b1, zl2, m_corner0 (by omega) (by omega), m_b1, zl3, m_corner0 (by omega) (by omega), m_b1, Nat.add_zero, v0, v1, v2, v3, d1, m_b1, m_n, zsb_at, d2, m_b1, m_n, zsb_sb, m_n, nI_add]
    rw [hstep, f_X3_readText_l12, if_neg (by decide), e1, m_b2, if_neg (by decide)]
    by_cases cL : p7 = L
    · rw [if_pos cL] at hz
      have hrs2 : rs.length = rs0.length + 1 := by rw [← (Prod.mk.inj hz).1, hlen]
      have hs : zpsep ch L 59 p7 = none := by unfold zpsep; rw [if_neg (by omega)]
      have hQ' : zQ 1 ((zx_sb B 0 T') 0) S3 t' := by rw [zsb_at]; exact zQ_PI d4
      obtain ⟨w1, w2⟩ := z_count (N := N) hN1 hQ'
      obtain ⟨k0, rfl⟩ : ∃ k0, k = k0 + 1 := ⟨k - 1, by omega⟩
      obtain ⟨k0', rfl⟩ : ∃ k0', k' = k0' + 1 := ⟨k' - 1, by omega⟩
      refine ⟨zx_sb B 0 T', S3, t', ?_, ?_, hQ', fun j hj => zsb_ne hj, fS, g3⟩
      · rw [f_X2_addAll_l64, zsb_ne (by decide), hl, if_pos (by rw [nI_leI (by omega) (by omega)]; omega), w1, m_b1]
      · rw [show (59 : Int32) = nI 59 from rfl, b3 hs, m_b2, f_X3_readText_l12, if_pos rfl, k3.1, k3.2, if_pos (by rw [nI_leI (by omega) (by omega)]; omega)]
    · rw [if_neg cL] at hz
      rcases hs : zpsep ch L 59 p7 with _ | q
      · rw [hs] at hz
        have := (Prod.mk.inj hz).2
        cases this
      · rw [hs] at hz
        simp only at hz
        obtain ⟨S4, e4, k4, f4⟩ := b2 q hs
        have hq7 := zpsep_sp hs
        obtain ⟨B', S', t2, r1, r2, r3, r4, r5, r6⟩ := z_addAll_l (L := L) (ch := ch) hN n k k' q (rs0 ++ [r]) rs (zx_sb B 0 T') S4 t' m' (by rw [hlen]; omega) (by omega) (by omega) (by rw [hlen]; omega) (by omega) (by rw [f4.1 0 (by decide)]; exact c3) k4 hz (by rw [zsb_ne (by decide)]; exact hb) (by rw [zsb_ne (by decide)]; exact hl) (by
          rw [zsb_at]
          exact zPI_12 d4 (f4.1 1 (by decide)) (f4.2 3 (by decide))) (by rw [hlen, hct']; omega)
        rw [hlen] at r1
        refine ⟨B', S', t2, r1, ?_, r3, fun j hj => by rw [r4 j hj, zsb_ne hj], zfr_trans fS (zfr_trans (zfr_sub f4.1 (by decide)) r5), fun j hj => by rw [r6 j hj, f4.2 j (by omega), g3 j hj]⟩
        rw [show (59 : Int32) = nI 59 from rfl, e4, m_b2]
        exact r2
theorem op_addAll {N : Nat} (hN : 6000 < N) : zs_addAll N ZInv := by
  intro B S hI
  have hN1 : 100 < N := by omega
  obtain ⟨L, ch, c1, c2, l1, l2⟩ := z_text hI
  obtain ⟨T', e1, g1, g2, g3, g4⟩ := m_read (N := N) hN1 c2 l2
  obtain ⟨S1, e2, f1, f2, f3⟩ := r_read (N := N) (w := 1) hN1 c1 l1
  obtain ⟨B1, eB1⟩ : ∃ B1, B1 = zx_sb B 18 T' := ⟨_, rfl⟩
  have hB1 : ∀ j, j ≠ 18 → B1 j = B j := fun j hj => by rw [eB1, zsb_ne hj]
  have hB118 : B1 18 = T' := by rw [eB1, zsb_at]
  have hI1 : ZInv B1 S1 := ZInv_congr (fun j h1 h2 => hB1 j (by omega)) ⟨by rw [hB118, g3 0 (by decide)], by rw [hB118, g1, l2]⟩ (hB1 19 (by decide)) ⟨f1 0 (by decide), f1 1 (by decide), f1 3 (by decide), f1 4 (by decide), f1 5 (by decide)⟩ ⟨f2 1 (by decide) (by decide), f2 2 (by decide) (by decide)⟩ hI
  obtain ⟨t, S2, eS2, hQ, hQ2, fS2, h120, h121, h122, hI2⟩ := z_setup hI1
  obtain ⟨w1, w2⟩ := z_count (N := N) hN1 hQ
  have refuse : ∀ {X : Prop}, f_X2_addAll N B = some (0, (2, B1)) → f_X3_addAll N S = f_X3_addAll_j36 N 1 S1 → ∃ (R : Int32 × (Nat × zx_B)) (r : Int32) (S2 : zx_S), f_X2_addAll N B = some R ∧ f_X3_addAll N S = some (r, S2) ∧ ZInv R.2.2 S2 ∧ ((R.2.1 = 0 ∧ S2 12 0 = 0 ∧ R.1 = r) ∨ (R.2.1 = 2 ∧ S2 12 0 = 1)) := by
    intro X h1 h2
    refine ⟨_, 0, _, h1, ?_, ZInv_ref (k := 1) hI1, Or.inr ⟨rfl, by rw [st_at, up_at]⟩⟩
    rw [h2]
    unfold f_X3_addAll_j36
    rw [m_ref1, m_b2, if_neg (by decide)]
  obtain ⟨rs, e, hpt⟩ : ∃ rs e, zpt ch L 13 0 [] = (rs, e) := ⟨_, _, rfl⟩
  rw [hpt] at e1 e2 f3 g2 g4
  simp only at e1 e2 f3 g2 g4
  have hrsl : ∀ (n p : Nat) (rs0 : List ZQd), n + rs0.length = 13 → (zpt ch L n p rs0).1.length ≤ 13 := by
    intro n
    induction n with
    | zero =>
      intro p rs0 h
      show rs0.length ≤ 13
      omega
    | succ n ih =>
      intro p rs0 h
      rw [zpt_s]
      rcases zpr1 ch L p with q | ⟨r, p7⟩
      · show rs0.length ≤ 13
        omega
      · simp only
        by_cases cL : p7 = L
        · rw [if_pos cL]
          show (rs0 ++ [r]).length ≤ 13
          rw [List.length_append]; simp; omega
        · rw [if_neg cL]
          rcases zpsep ch L 59 p7 with _ | q
          · show (rs0 ++ [r]).length ≤ 13
            rw [List.length_append]; simp; omega
          · exact ih q (rs0 ++ [r]) (by rw [List.length_append]; simp; omega)
  have hrs13 : rs.length ≤ 13 := by
    have := hrsl 13 0 [] rfl
    rw [hpt] at this
    exact this
  have hle := zct_le (t := t) 24
  rcases e with _ | pos
  · by_cases hfit : zct t 24 + rs.length ≤ 24
    · obtain ⟨B3, S3, m1, m2, hI3, hQ3, k0, hB30⟩ := z_rem0 hN hI2 hQ2 h120
      obtain ⟨B3', S3', m1', m2', _, hB3, fS3, h312⟩ := z_remember (N := N) hN hI2
      rw [m1] at m1'
      rw [m2] at m2'
      obtain rfl := Option.some.inj m1'
      obtain rfl := Option.some.inj m2'
      obtain ⟨Tb, n1, n2, hP⟩ := z_begin (N := N) hN1 hQ3 (by decide)
      obtain ⟨S4, eS4⟩ : ∃ S4, S4 = zx_st S3 12 (upd (S3 12) 3 0) := ⟨_, rfl⟩
      rw [← eS4] at hP
      obtain ⟨S5, eS5⟩ : ∃ S5, S5 = zx_st (zx_st S4 12 (upd (S4 12) 6 0)) 12 (upd (upd (S4 12) 6 0) 7 0) := ⟨_, rfl⟩
      have h512 : S5 12 = upd (upd (upd (S3 12) 3 0) 6 0) 7 0 := by rw [eS5, st_at, eS4, st_at]
      have f5 : zfr [12] S3 S5 := by
        rw [eS5]
        exact zfr_st (by simp) (zfr_st (by simp) (by rw [eS4]; exact zfr_st (by simp) zfr_refl))
      have h512j : ∀ j, j < 3 → S5 12 j = S3 12 j := fun j hj => by rw [h512, up_ne (by omega), up_ne (by omega), up_ne (by omega)]
      have hP5 : zPI 1 Tb S5 t [] 99 0 := zPI_12 hP (by rw [f5 1 (by decide), eS4, st_ne (by decide)]) (by rw [h512, up_ne (by decide), up_ne (by decide), up_at, eS4, st_at, up_at])
      have hS50 : S5 0 = S 0 := by rw [f5 0 (by decide), fS3 0 (by decide), fS2 0 (by decide), f1 0 (by decide)]
      have hS51 : S5 12 1 = nI L := by rw [h512j 1 (by decide), h312 1 (by decide), h121, f2 1 (by decide) (by decide)]; exact l1
      have hB318 : B3 18 = T' := by rw [hB3 18 (by decide) (by decide), hB118]
      obtain ⟨B', S', t', r1, r2, r3, r4, r5, r6⟩ := z_addAll_l (N := N) (L := L) (ch := ch) hN 13 N N 0 [] rs (zx_sb B3 0 Tb) S5 t 0 rfl (by omega) (by omega) (by simp) (Nat.zero_le _) (by rw [hS50]; exact c1) ⟨hS51, by rw [h512, up_ne (by decide), up_at]; rfl⟩ hpt (by rw [zsb_ne (by decide), hB318]; exact g4) (by rw [zsb_ne (by decide), hB318]; exact g2) (by rw [zsb_at]; exact hP5) (by simpa using hfit)
      obtain ⟨_, w4⟩ := z_count (N := N) hN1 r3
      have hS'0 : S' 12 0 = 0 := by rw [r6 0 (by decide), h512j 0 (by decide)]; exact k0
      refine ⟨(nI (zct t' 24), (0, B')), nI (zct t' 24), S', ?_, ?_, ?_, Or.inl ⟨rfl, hS'0, rfl⟩⟩
      · unfold f_X2_addAll
        rw [e1, m_b2, m_n, ← eB1, if_pos (show zer none = -1 from rfl), w1, m_b1, hB118, g2, nI_add, zl24, if_pos (by rw [nI_leI (by omega) (by decide)]; exact hfit), m1, m_b1, n1, m_b1, m_n]
        exact r1
      · unfold f_X3_addAll
        rw [e2, m_b2, if_pos (show zer none = -1 from rfl), w2, m_b1, f3, nI_add, zl24, if_neg (by rw [nI_ltI (by decide) (by omega)]; omega)]
        unfold f_X3_addAll_j36 f_X3_readText
        rw [m_ref0, m_b2, if_pos rfl, ← eS2, m2, m_b1, m_n, ← eS4, m_n, m_n]
        simp only [st_at]
        rw [← eS5, r2, m_b2, w4, m_b1]
      · show ZInv B' S'
        refine ZInv_mk hI3 (zQ_same r3) (fun j h1 _ => by rw [r4 j (by omega), zsb_ne (by omega)]) ⟨?_, ?_⟩ ?_ ⟨?_, ?_, ?_, ?_⟩ ⟨?_, ?_⟩
        · show B' 18 0 = B3 18 0
          rw [r4 18 (by decide), zsb_ne (by decide)]
        · show B' 18 2 0 = B3 18 2 0
          rw [r4 18 (by decide), zsb_ne (by decide)]
        · show B' 19 = B3 19
          rw [r4 19 (by decide), zsb_ne (by decide)]
        · rw [r5 0 (by decide), f5 0 (by decide)]
        · rw [r5 3 (by decide), f5 3 (by decide)]
        · rw [r5 4 (by decide), f5 4 (by decide)]
        · rw [r5 5 (by decide), f5 5 (by decide)]
        · rw [r6 1 (by decide), h512j 1 (by decide)]
        · rw [r6 2 (by decide), h512j 2 (by decide)]
    · refine refuse (X := True) ?_ ?_
      · unfold f_X2_addAll
        rw [e1, m_b2, m_n, ← eB1, if_pos (show zer none = -1 from rfl), w1, m_b1, hB118, g2, nI_add, zl24, if_neg (by rw [nI_leI (by omega) (by decide)]; exact hfit)]
      · unfold f_X3_addAll f_X3_addAll_j35
        rw [e2, m_b2, if_pos (show zer none = -1 from rfl), w2, m_b1, f3, nI_add, zl24, if_pos (by rw [nI_ltI (by decide) (by omega)]; omega)]
  · have hpos : ¬ zer (some pos) = -1 := by
      have h1 := zpt_pos (ch := ch) c1.1 (fun i hi => (c1.2 i hi).2) 13 0 [] (Nat.zero_le _) pos (by rw [hpt])
      have h2 := c1.1
      show ¬ nI pos = -1
      rw [zlm1, zi_e1 (by omega)]
      exact id
    refine refuse (X := True) ?_ ?_
    · unfold f_X2_addAll
      rw [e1, m_b2, m_n, ← eB1, if_neg hpos]
    · unfold f_X3_addAll f_X3_addAll_j35
      rw [e2, m_b2, if_neg hpos]
