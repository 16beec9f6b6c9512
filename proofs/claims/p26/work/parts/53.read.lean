/-! a rectangle, the whole text -/
abbrev ZQd : Type := Nat × Nat × Nat × Nat
def zpr1 (ch : Nat → Nat) (L p : Nat) : Nat ⊕ (ZQd × Nat) :=
  match zpn ch L 0 99 p with
  | none => .inl p
  | some (a, p1) => match zpsep ch L 44 p1 with
    | none => .inl p1
    | some p2 => match zpn ch L 0 99 p2 with
      | none => .inl p2
      | some (b, p3) => match zpsep ch L 58 p3 with
        | none => .inl p3
        | some p4 => match zpn ch L 1 (100 - a) p4 with
          | none => .inl p4
          | some (c, p5) => match zpsep ch L 120 p5 with
            | none => .inl p5
            | some p6 => match zpn ch L 1 (100 - b) p6 with
              | none => .inl p6
              | some (d, p7) => .inr ((a, b, c, d), p7)
/-- the class's steps, from each on -/
def zr7 (N : Nat) (x1 x6 x11 : Int32) (T14 : zx_S) : Option zx_S :=
  zx_b2 (f_X0_readNumber N 1 (100 - x6) T14) (fun x16 T17 => if (T17 2 3) = 0 then
    (zx_n ((T17 2 1) * 4) (fun x20 =>
    (zx_b1 (f_X2_put N 56 x20 x1 (T17 1)) (fun g21 =>
    (zx_n (zx_st T17 1 g21) (fun T23 =>
    (zx_b1 (f_X2_put N 56 (x20 + 1) x6 (T23 1)) (fun g24 =>
    (zx_n (zx_st T23 1 g24) (fun T26 =>
    (zx_b1 (f_X2_put N 56 (x20 + 2) ((x1 + x11) - 1) (T26 1)) (fun g27 =>
    (zx_n (zx_st T26 1 g27) (fun T29 =>
    (zx_b1 (f_X2_put N 56 (x20 + 3) ((x6 + x16) - 1) (T29 1)) (fun g30 =>
    (zx_n (zx_st T29 1 g30) (fun T32 =>
    (zx_n (zx_st T32 2 (upd (T32 2) 1 ((T32 2 1) + 1))) (fun T33 =>
    some T33)))))))))))))))))))) else some T17)
def zr6 (N : Nat) (x1 x6 x11 : Int32) (T : zx_S) : Option zx_S := zx_b1 (f_X0_expect N 120 T) (zr7 N x1 x6 x11)
def zr5 (N : Nat) (x1 x6 : Int32) (T : zx_S) : Option zx_S := zx_b2 (f_X0_readNumber N 1 (100 - x1) T) (fun x11 T12 => zr6 N x1 x6 x11 T12)
def zr4 (N : Nat) (x1 x6 : Int32) (T : zx_S) : Option zx_S := zx_b1 (f_X0_expect N 58 T) (zr5 N x1 x6)
def zr3 (N : Nat) (x1 : Int32) (T : zx_S) : Option zx_S := zx_b2 (f_X0_readNumber N 0 99 T) (fun x6 T7 => zr4 N x1 x6 T7)
def zr2 (N : Nat) (x1 : Int32) (T : zx_S) : Option zx_S := zx_b1 (f_X0_expect N 44 T) (zr3 N x1)
theorem zr1_eq {N : Nat} {S : zx_S} : f_X0_readRectangle N S = zx_b2 (f_X0_readNumber N 0 99 S) (fun x1 T2 => zr2 N x1 T2) := rfl
/-- once wrong, always wrong -/
theorem zr7_w {N L : Nat} (hN : 100 < N) {x1 x6 x11 : Int32} {p cnt : Nat} {S : zx_S} (hx : ztx S L p cnt 1) : ∃ S', zr7 N x1 x6 x11 S = some S' ∧ ztx S' L p cnt 1 ∧ zfr [2] S S' := by
  obtain ⟨S1, e, h1, h2⟩ := m_rdn_w (N := N) (a := 1) (b := 100 - x6) hN hx
  exact ⟨S1, by unfold zr7; rw [e, m_b2, if_neg (by rw [h1.2.2.2]; decide)], h1, h2⟩
theorem zr6_w {N L : Nat} (hN : 100 < N) {x1 x6 x11 : Int32} {p cnt : Nat} {S : zx_S} (hx : ztx S L p cnt 1) : ∃ S', zr6 N x1 x6 x11 S = some S' ∧ ztx S' L p cnt 1 ∧ zfr [2] S S' := by
  obtain ⟨S1, e, h1, h2⟩ := m_exp_w (N := N) (c := 120) hx
  obtain ⟨S2, e2, h3, h4⟩ := zr7_w (N := N) (x1 := x1) (x6 := x6) (x11 := x11) hN h1
  exact ⟨S2, by unfold zr6; rw [e, m_b1, e2], h3, zfr_trans h2 h4⟩
theorem zr5_w {N L : Nat} (hN : 100 < N) {x1 x6 : Int32} {p cnt : Nat} {S : zx_S} (hx : ztx S L p cnt 1) : ∃ S', zr5 N x1 x6 S = some S' ∧ ztx S' L p cnt 1 ∧ zfr [2] S S' := by
  obtain ⟨S1, e, h1, h2⟩ := m_rdn_w (N := N) (a := 1) (b := 100 - x1) hN hx
  obtain ⟨S2, e2, h3, h4⟩ := zr6_w (N := N) (x1 := x1) (x6 := x6) (x11 := nI 0) hN h1
  exact ⟨S2, by unfold zr5; rw [e, m_b2, e2], h3, zfr_trans h2 h4⟩
theorem zr4_w {N L : Nat} (hN : 100 < N) {x1 x6 : Int32} {p cnt : Nat} {S : zx_S} (hx : ztx S L p cnt 1) : ∃ S', zr4 N x1 x6 S = some S' ∧ ztx S' L p cnt 1 ∧ zfr [2] S S' := by
  obtain ⟨S1, e, h1, h2⟩ := m_exp_w (N := N) (c := 58) hx
  obtain ⟨S2, e2, h3, h4⟩ := zr5_w (N := N) (x1 := x1) (x6 := x6) hN h1
  exact ⟨S2, by unfold zr4; rw [e, m_b1, e2], h3, zfr_trans h2 h4⟩
theorem zr3_w {N L : Nat} (hN : 100 < N) {x1 : Int32} {p cnt : Nat} {S : zx_S} (hx : ztx S L p cnt 1) : ∃ S', zr3 N x1 S = some S' ∧ ztx S' L p cnt 1 ∧ zfr [2] S S' := by
  obtain ⟨S1, e, h1, h2⟩ := m_rdn_w (N := N) (a := 0) (b := 99) hN hx
  obtain ⟨S2, e2, h3, h4⟩ := zr4_w (N := N) (x1 := x1) (x6 := nI 0) hN h1
  exact ⟨S2, by unfold zr3; rw [e, m_b2, e2], h3, zfr_trans h2 h4⟩
theorem zr2_w {N L : Nat} (hN : 100 < N) {x1 : Int32} {p cnt : Nat} {S : zx_S} (hx : ztx S L p cnt 1) : ∃ S', zr2 N x1 S = some S' ∧ ztx S' L p cnt 1 ∧ zfr [2] S S' := by
  obtain ⟨S1, e, h1, h2⟩ := m_exp_w (N := N) (c := 44) hx
  obtain ⟨S2, e2, h3, h4⟩ := zr3_w (N := N) (x1 := x1) hN h1
  exact ⟨S2, by unfold zr2; rw [e, m_b1, e2], h3, zfr_trans h2 h4⟩
/-- one rectangle's four numbers in the class's row -/
def zb4 (g : Nat → Int32) (k : Nat) (q : ZQd) : Prop := g (4 * k) = nI q.1 ∧ g (4 * k + 1) = nI q.2.1 ∧ g (4 * k + 2) = nI (q.1 + q.2.2.1 - 1) ∧ g (4 * k + 3) = nI (q.2.1 + q.2.2.2 - 1)
def zqo (q : ZQd) : Prop := q.1 ≤ 99 ∧ q.2.1 ≤ 99 ∧ 1 ≤ q.2.2.1 ∧ q.2.2.1 ≤ 100 - q.1 ∧ 1 ≤ q.2.2.2 ∧ q.2.2.2 ≤ 100 - q.2.1
theorem m_rect {N L : Nat} (hN : 100 < N) {ch : Nat → Nat} {p cnt : Nat} {S : zx_S} (hp : p ≤ L) (hcnt : cnt < 14) (hch : zchs (S 0) ch L) (hx : ztx S L p cnt 0) :
    (∀ q, zpr1 ch L p = .inl q → p ≤ q ∧ q ≤ L ∧ ∃ S', f_X0_readRectangle N S = some S' ∧ ztx S' L q cnt 1 ∧ zfr [2] S S') ∧
    (∀ q p7, zpr1 ch L p = .inr (q, p7) → zqo q ∧ p + 7 ≤ p7 ∧ p7 ≤ L ∧ ∃ S', f_X0_readRectangle N S = some S' ∧ ztx S' L p7 (cnt + 1) 0 ∧ zfr [1, 2] S S' ∧ zb4 (S' 1) cnt q ∧ ∀ j, (j < 4 * cnt ∨ 4 * cnt + 4 ≤ j) → S' 1 j = S 1 j) := by
  have z99 : (99 : Int32) = nI 99 := rfl
  unfold zpr1
  rw [zr1_eq, zl0, z99]
  obtain ⟨a1, a2⟩ := m_rdn (N := N) (lo := 0) (hi := 99) hN (by decide) (by decide) hp hch hx
  rcases h1 : zpn ch L 0 99 p with _ | ⟨a, p1⟩
  · obtain ⟨S1, e1, k1, f1⟩ := a2 h1
    obtain ⟨S2, e2, k2, f2⟩ := zr2_w (N := N) (x1 := nI 0) hN k1
    refine ⟨fun q h => ?_, fun q p7 h => (by cases h)⟩
    obtain rfl := Sum.inl.inj h
    exact ⟨Nat.le_refl _, hp, S2, by rw [e1, m_b2, e2], k2, zfr_trans f1 f2⟩
  obtain ⟨S1, e1, k1, f1⟩ := a1 a p1 h1
  obtain ⟨_, ha, hp1, hp1L⟩ := zpn_sp h1
  have c1 : zchs (S1 0) ch L := by rw [f1 0 (by decide)]; exact hch
  obtain ⟨a1, a2⟩ := m_exp (N := N) (c := 44) (by decide) hp1L c1 k1
  simp only
  rcases h2 : zpsep ch L 44 p1 with _ | p2
  · obtain ⟨S2, e2, k2, f2⟩ := a2 h2
    obtain ⟨S3, e3, k3, f3⟩ := zr3_w (N := N) (x1 := nI a) hN k2
    refine ⟨fun q h => ?_, fun q p7 h => (by cases h)⟩
    obtain rfl := Sum.inl.inj h
    exact ⟨by omega, hp1L, S3, by rw [e1, m_b2]; unfold zr2; rw [show (44 : Int32) = nI 44 from rfl, e2, m_b1, e3], k3, zfr_trans f1 (zfr_trans f2 f3)⟩
  obtain ⟨S2, e2, k2, f2⟩ := a1 p2 h2
  have hp2 := zpsep_sp h2
  have c2 : zchs (S2 0) ch L := by rw [f2 0 (by decide)]; exact c1
  obtain ⟨a1, a2⟩ := m_rdn (N := N) (lo := 0) (hi := 99) hN (by decide) (by decide) (by omega) c2 k2
  simp only
  rcases h3 : zpn ch L 0 99 p2 with _ | ⟨b, p3⟩
  · obtain ⟨S3, e3, k3, f3⟩ := a2 h3
    obtain ⟨S4, e4, k4, f4⟩ := zr4_w (N := N) (x1 := nI a) (x6 := nI 0) hN k3
    refine ⟨fun q h => ?_, fun q p7 h => (by cases h)⟩
    obtain rfl := Sum.inl.inj h
    exact ⟨by omega, by omega, S4, by rw [e1, m_b2]; unfold zr2; rw [show (44 : Int32) = nI 44 from rfl, e2, m_b1]; unfold zr3; rw [zl0, z99, e3, m_b2, e4], k4, zfr_trans f1 (zfr_trans f2 (zfr_trans f3 f4))⟩
  obtain ⟨S3, e3, k3, f3⟩ := a1 b p3 h3
  obtain ⟨_, hb, hp3, hp3L⟩ := zpn_sp h3
  have c3 : zchs (S3 0) ch L := by rw [f3 0 (by decide)]; exact c2
  obtain ⟨a1, a2⟩ := m_exp (N := N) (c := 58) (by decide) hp3L c3 k3
  have g3 : f_X0_readRectangle N S = zr4 N (nI a) (nI b) S3 := by
    rw [zr1_eq, zl0, z99, e1, m_b2]; unfold zr2; rw [show (44 : Int32) = nI 44 from rfl, e2, m_b1]; unfold zr3; rw [zl0, z99, e3, m_b2]
  rw [zr1_eq, zl0, z99] at g3
  rw [g3]
  have fS3 : zfr [2] S S3 := zfr_trans f1 (zfr_trans f2 f3)
  simp only
  rcases h4 : zpsep ch L 58 p3 with _ | p4
  · obtain ⟨S4, e4, k4, f4⟩ := a2 h4
    obtain ⟨S5, e5, k5, f5⟩ := zr5_w (N := N) (x1 := nI a) (x6 := nI b) hN k4
    refine ⟨fun q h => ?_, fun q p7 h => (by cases h)⟩
    obtain rfl := Sum.inl.inj h
    exact ⟨by omega, hp3L, S5, by unfold zr4; rw [show (58 : Int32) = nI 58 from rfl, e4, m_b1, e5], k5, zfr_trans fS3 (zfr_trans f4 f5)⟩
  obtain ⟨S4, e4, k4, f4⟩ := a1 p4 h4
  have hp4 := zpsep_sp h4
  have c4 : zchs (S4 0) ch L := by rw [f4 0 (by decide)]; exact c3
  obtain ⟨a1, a2⟩ := m_rdn (N := N) (lo := 1) (hi := 100 - a) hN (by decide) (by omega) (by omega) c4 k4
  have z100a : (100 : Int32) - nI a = nI (100 - a) := by rw [zl100, zi_sub (by omega)]
  have z100b : (100 : Int32) - nI b = nI (100 - b) := by rw [zl100, zi_sub (by omega)]
  have g4 : zr4 N (nI a) (nI b) S3 = zr5 N (nI a) (nI b) S4 := by unfold zr4; rw [show (58 : Int32) = nI 58 from rfl, e4, m_b1]
  rw [g4]
  have fS4 : zfr [2] S S4 := zfr_trans fS3 f4
  simp only
  rcases h5 : zpn ch L 1 (100 - a) p4 with _ | ⟨c, p5⟩
  · obtain ⟨S5, e5, k5, f5⟩ := a2 h5
    obtain ⟨S6, e6, k6, f6⟩ := zr6_w (N := N) (x1 := nI a) (x6 := nI b) (x11 := nI 0) hN k5
    refine ⟨fun q h => ?_, fun q p7 h => (by cases h)⟩
    obtain rfl := Sum.inl.inj h
    exact ⟨by omega, by omega, S6, by unfold zr5; rw [z100a, zl1, e5, m_b2, e6], k6, zfr_trans fS4 (zfr_trans f5 f6)⟩
  obtain ⟨S5, e5, k5, f5⟩ := a1 c p5 h5
  obtain ⟨hc1, hc, hp5, hp5L⟩ := zpn_sp h5
  have c5 : zchs (S5 0) ch L := by rw [f5 0 (by decide)]; exact c4
  obtain ⟨a1, a2⟩ := m_exp (N := N) (c := 120) (by decide) hp5L c5 k5
  have g5 : zr5 N (nI a) (nI b) S4 = zr6 N (nI a) (nI b) (nI c) S5 := by unfold zr5; rw [z100a, zl1, e5, m_b2]
  rw [g5]
  have fS5 : zfr [2] S S5 := zfr_trans fS4 f5
  simp only
  rcases h6 : zpsep ch L 120 p5 with _ | p6
  · obtain ⟨S6, e6, k6, f6⟩ := a2 h6
    obtain ⟨S7, e7, k7, f7⟩ := zr7_w (N := N) (x1 := nI a) (x6 := nI b) (x11 := nI c) hN k6
    refine ⟨fun q h => ?_, fun q p7 h => (by cases h)⟩
    obtain rfl := Sum.inl.inj h
    exact ⟨by omega, hp5L, S7, by unfold zr6; rw [zl120, e6, m_b1, e7], k7, zfr_trans fS5 (zfr_trans f6 f7)⟩
  obtain ⟨S6, e6, k6, f6⟩ := a1 p6 h6
  have hp6 := zpsep_sp h6
  have c6 : zchs (S6 0) ch L := by rw [f6 0 (by decide)]; exact c5
  obtain ⟨a1, a2⟩ := m_rdn (N := N) (lo := 1) (hi := 100 - b) hN (by decide) (by omega) (by omega) c6 k6
  have g6 : zr6 N (nI a) (nI b) (nI c) S5 = zr7 N (nI a) (nI b) (nI c) S6 := by unfold zr6; rw [zl120, e6, m_b1]
  rw [g6]
  have fS6 : zfr [2] S S6 := zfr_trans fS5 f6
  simp only
  rcases h7 : zpn ch L 1 (100 - b) p6 with _ | ⟨d, p7⟩
  · obtain ⟨S7, e7, k7, f7⟩ := a2 h7
    refine ⟨fun q h => ?_, fun q p7 h => (by cases h)⟩
    obtain rfl := Sum.inl.inj h
    exact ⟨by omega, by omega, S7, by unfold zr7; rw [z100b, zl1, e7, m_b2, if_neg (by rw [k7.2.2.2]; decide)], k7, zfr_trans fS6 f7⟩
  obtain ⟨S7, e7, k7, f7⟩ := a1 d p7 h7
  obtain ⟨hd1, hd, hp7, hp7L⟩ := zpn_sp h7
  have fS7 : zfr [2] S S7 := zfr_trans fS6 f7
  refine ⟨fun q h => (by cases h), fun q p8 h => ?_⟩
  obtain ⟨hq, hp8⟩ := Prod.mk.inj (Sum.inr.inj h)
  subst hp8
  obtain ⟨g, eg⟩ : ∃ g, g = upd (upd (upd (upd (S7 1) (4 * cnt) (nI a)) (4 * cnt + 1) (nI b)) (4 * cnt + 2) (nI (a + c - 1))) (4 * cnt + 3) (nI (b + d - 1)) := ⟨_, rfl⟩
  obtain ⟨S8, eS8⟩ : ∃ S8, S8 = zx_st (zx_st (zx_st (zx_st (zx_st S7 1 (upd (S7 1) (4 * cnt) (nI a))) 1 (upd (upd (S7 1) (4 * cnt) (nI a)) (4 * cnt + 1) (nI b))) 1 (upd (upd (upd (S7 1) (4 * cnt) (nI a)) (4 * cnt + 1) (nI b)) (4 * cnt + 2) (nI (a + c - 1)))) 1 g) 2 (upd (S7 2) 1 (nI (cnt + 1))) := ⟨_, rfl⟩
  have s82 : S8 2 = upd (S7 2) 1 (nI (cnt + 1)) := by rw [eS8, st_at]
  have s81 : S8 1 = g := by rw [eS8, st_ne (by decide), st_at]
  refine ⟨?_, by omega, hp7L, S8, ?_, ?_, ?_, ?_, fun j hj => ?_⟩
  · rw [← hq]
    exact ⟨ha, hb, hc1, hc, hd1, hd⟩
  · have v1 : nI a + nI c - nI 1 = nI (a + c - 1) := by rw [nI_add, zi_sub (by omega)]
    have v2 : nI b + nI d - nI 1 = nI (b + d - 1) := by rw [nI_add, zi_sub (by omega)]
    unfold zr7
    rw [z100b, zl1, e7, m_b2, if_pos k7.2.2.2]
    have hc7 : S7 2 1 = nI cnt := k7.2.2.1
    simp (disch := omega) only [m_n, m_b1, m_put, st_at, st_ne, up_at, up_ne, hc7, zi_mul4, zl2, zl3, zl4, zl1, nI_add, v1, v2]
    rw [zi_sub (show 1 ≤ a + c by omega), zi_sub (show 1 ≤ b + d by omega), eS8, eg]
  · obtain ⟨t1, t2, t3, t4⟩ := k7
    exact ⟨by rw [s82, up_ne (by decide)]; exact t1, by rw [s82, up_ne (by decide)]; exact t2, by rw [s82, up_at], by rw [s82, up_ne (by decide)]; exact t4⟩
  · refine zfr_trans (zfr_sub fS7 (by decide)) ?_
    rw [eS8]
    exact zfr_st (by simp) (zfr_st (by simp) (zfr_st (by simp) (zfr_st (by simp) (zfr_st (by simp) zfr_refl))))
  · rw [s81, eg, ← hq]
    refine ⟨?_, ?_, ?_, ?_⟩
    · rw [up_ne (by omega), up_ne (by omega), up_ne (by omega), up_at]
    · rw [up_ne (by omega), up_ne (by omega), up_at]
    · rw [up_ne (by omega), up_at]
    · rw [up_at]
  · rw [s81, eg, up_ne (by omega), up_ne (by omega), up_ne (by omega), up_ne (by omega), fS7 1 (by decide)]
/-- the reference's -/
theorem r_one {N L w : Nat} (hN : 100 < N) {ch : Nat → Nat} {p : Nat} {v2 : Int32} {S : zx_S} (hp : p ≤ L) (hch : zchs (S 0) ch L) (hx : zrx S L p) :
    (∀ q, zpr1 ch L p = .inl q → ∃ S', f_X3_readOne N w v2 S = some (0, S') ∧ zrx S' L q ∧ zq6 S S') ∧
    (∀ q p7, zpr1 ch L p = .inr (q, p7) → ∃ S1 S', zq6 S S1 ∧ zrx S1 L p7 ∧ S' = zx_st S1 12 (upd (S1 12) 7 (S1 12 7 + 1)) ∧ f_X3_readOne N w v2 S = if v2 = 0 then some (1, S') else zx_b2 (f_X3_addOn N w (nI q.1) (nI q.2.1) (nI (q.1 + q.2.2.1 - 1)) (nI (q.2.1 + q.2.2.2 - 1)) S') (fun _ T => some (1, T))) := by
  have z99 : (99 : Int32) = nI 99 := rfl
  have n1 : ∀ x : Nat, x < 1000 → ¬ nI x = -1 := fun x h => by rw [zlm1, zi_e1 (by omega)]; exact id
  have n0 : ¬ (1 : Int32) = 0 := by decide
  unfold zpr1 f_X3_readOne
  rw [zl0, z99]
  obtain ⟨a1, a2⟩ := r_num (N := N) (lo := 0) (hi := 99) hN (by decide) (by decide) hp hch hx
  rcases h1 : zpn ch L 0 99 p with _ | ⟨a, p1⟩
  · refine ⟨fun q h => ?_, fun q p7 h => (by cases h)⟩
    obtain rfl := Sum.inl.inj h
    exact ⟨S, by rw [a2 h1, m_b2, if_pos rfl], hx, zq6_refl⟩
  obtain ⟨S1, e1, k1, f1⟩ := a1 a p1 h1
  obtain ⟨_, ha, hp1, hp1L⟩ := zpn_sp h1
  have c1 : zchs (S1 0) ch L := by rw [f1.1 0 (by decide)]; exact hch
  obtain ⟨a1, a2⟩ := r_pass (N := N) (c := 44) (by decide) hp1L c1 k1
  rw [e1, m_b2, if_neg (n1 a (by omega)), show (44 : Int32) = nI 44 from rfl]
  simp only
  rcases h2 : zpsep ch L 44 p1 with _ | p2
  · refine ⟨fun q h => ?_, fun q p7 h => (by cases h)⟩
    obtain rfl := Sum.inl.inj h
    exact ⟨S1, by rw [a2 h2, m_b2, if_pos (by decide)], k1, f1⟩
  obtain ⟨S2, e2, k2, f2⟩ := a1 p2 h2
  have hp2 := zpsep_sp h2
  have c2 : zchs (S2 0) ch L := by rw [f2.1 0 (by decide)]; exact c1
  have q2 : zq6 S S2 := zq6_trans f1 f2
  obtain ⟨a1, a2⟩ := r_num (N := N) (lo := 0) (hi := 99) hN (by decide) (by decide) (by omega) c2 k2
  rw [e2, m_b2, if_neg (show ¬ (1 : Int32) = nI 0 from n0)]
  simp only
  rcases h3 : zpn ch L 0 99 p2 with _ | ⟨b, p3⟩
  · refine ⟨fun q h => ?_, fun q p7 h => (by cases h)⟩
    obtain rfl := Sum.inl.inj h
    exact ⟨S2, by rw [a2 h3, m_b2, if_pos rfl], k2, q2⟩
  obtain ⟨S3, e3, k3, f3⟩ := a1 b p3 h3
  obtain ⟨_, hb, hp3, hp3L⟩ := zpn_sp h3
  have c3 : zchs (S3 0) ch L := by rw [f3.1 0 (by decide)]; exact c2
  have q3 : zq6 S S3 := zq6_trans q2 f3
  obtain ⟨a1, a2⟩ := r_pass (N := N) (c := 58) (by decide) hp3L c3 k3
  rw [e3, m_b2, if_neg (n1 b (by omega)), show (58 : Int32) = nI 58 from rfl]
  simp only
  rcases h4 : zpsep ch L 58 p3 with _ | p4
  · refine ⟨fun q h => ?_, fun q p7 h => (by cases h)⟩
    obtain rfl := Sum.inl.inj h
    exact ⟨S3, by rw [a2 h4, m_b2, if_pos (by decide)], k3, q3⟩
  obtain ⟨S4, e4, k4, f4⟩ := a1 p4 h4
  have hp4 := zpsep_sp h4
  have c4 : zchs (S4 0) ch L := by rw [f4.1 0 (by decide)]; exact c3
  have q4 : zq6 S S4 := zq6_trans q3 f4
  have z100a : (100 : Int32) - nI a = nI (100 - a) := by rw [zl100, zi_sub (by omega)]
  have z100b : (100 : Int32) - nI b = nI (100 - b) := by rw [zl100, zi_sub (by omega)]
  have A := r_num (N := N) (lo := 1) (hi := 100 - a) hN (by decide) (by omega) (by omega) c4 k4
  rw [show nI 1 = (1 : Int32) from rfl] at A
  obtain ⟨a1, a2⟩ := A
  rw [e4, m_b2, if_neg (show ¬ (1 : Int32) = nI 0 from n0), z100a]
  simp only
  rcases h5 : zpn ch L 1 (100 - a) p4 with _ | ⟨c, p5⟩
  · refine ⟨fun q h => ?_, fun q p7 h => (by cases h)⟩
    obtain rfl := Sum.inl.inj h
    exact ⟨S4, by rw [a2 h5, m_b2, if_pos rfl], k4, q4⟩
  obtain ⟨S5, e5, k5, f5⟩ := a1 c p5 h5
  obtain ⟨hc1, hc, hp5, hp5L⟩ := zpn_sp h5
  have c5 : zchs (S5 0) ch L := by rw [f5.1 0 (by decide)]; exact c4
  have q5 : zq6 S S5 := zq6_trans q4 f5
  obtain ⟨a1, a2⟩ := r_pass (N := N) (c := 120) (by decide) hp5L c5 k5
  rw [e5, m_b2, if_neg (n1 c (by omega)), zl120]
  simp only
  rcases h6 : zpsep ch L 120 p5 with _ | p6
  · refine ⟨fun q h => ?_, fun q p7 h => (by cases h)⟩
    obtain rfl := Sum.inl.inj h
    exact ⟨S5, by rw [a2 h6, m_b2, if_pos (by decide)], k5, q5⟩
  obtain ⟨S6, e6, k6, f6⟩ := a1 p6 h6
  have hp6 := zpsep_sp h6
  have c6 : zchs (S6 0) ch L := by rw [f6.1 0 (by decide)]; exact c5
  have q6 : zq6 S S6 := zq6_trans q5 f6
  have A := r_num (N := N) (lo := 1) (hi := 100 - b) hN (by decide) (by omega) (by omega) c6 k6
  rw [show nI 1 = (1 : Int32) from rfl] at A
  obtain ⟨a1, a2⟩ := A
  rw [e6, m_b2, if_neg (show ¬ (1 : Int32) = nI 0 from n0), z100b]
  simp only
  rcases h7 : zpn ch L 1 (100 - b) p6 with _ | ⟨d, p7⟩
  · refine ⟨fun q h => ?_, fun q p7 h => (by cases h)⟩
    obtain rfl := Sum.inl.inj h
    exact ⟨S6, by rw [a2 h7, m_b2, if_pos rfl], k6, q6⟩
  obtain ⟨S7, e7, k7, f7⟩ := a1 d p7 h7
  obtain ⟨hd1, hd, hp7, hp7L⟩ := zpn_sp h7
  refine ⟨fun q h => (by cases h), fun q p8 h => ?_⟩
  obtain ⟨hq, hp8⟩ := Prod.mk.inj (Sum.inr.inj h)
  subst hp8
  subst hq
  refine ⟨S7, _, zq6_trans q6 f7, k7, rfl, ?_⟩
  have v1 : nI a + nI c - 1 = nI (a + c - 1) := by rw [nI_add, zl1, zi_sub (by omega)]
  have v2' : nI b + nI d - 1 = nI (b + d - 1) := by rw [nI_add, zl1, zi_sub (by omega)]
  rw [e7, m_b2, if_neg (n1 d (by omega)), m_n, v1, v2']
