/-! one command of a script; runScript -/
theorem zi_negT {q : Nat} (h : q < 1000) : (-(nI q)).toInt = -(q : Int) := by
  rw [Int32.toInt_neg, nI_toInt (by omega), Int.bmod_def]
  split <;> omega
/-- a move on the trial -/
theorem z_cmove {N : Nat} (hN : 6000 < N) {B : zx_B} {S : zx_S} {t : ZT} {p s : Nat} {dx dy : Int32} (hQ : zQ 2 (B 1) S t) (hs : s < 100) (hx : -99 ≤ dx.toInt ∧ dx.toInt ≤ 99) (hy : -99 ≤ dy.toInt ∧ dy.toInt ≤ 99) (hp : p < 100) :
    ∃ y B' S' t', f_X2_succeeds_j190 N (nI p) (nI s) dx dy B = some (y, B') ∧ (if nI s = 0 then zx_b2 (f_X3_moves N (nI p) dx dy S) (fun x T => if x = 0 then some (0, T) else some (1, T)) else some (0, S)) = some (y, S') ∧ zQ 2 (B' 1) S' t' ∧ zkt B B' S S' := by
  unfold f_X2_succeeds_j190 f_X3_moves
  by_cases hs0 : nI s = 0
  · rw [if_pos hs0, if_pos hs0]
    rcases z_has (N := N) hQ (nI p) with ⟨i, hi, e, hpr, h1, h2⟩ | ⟨_, h1, h2⟩
    · rw [e] at h1 h2 ⊢
      rcases z_why (N := N) hQ hi hpr hx hy h2 with ⟨hb, w1, w2⟩ | ⟨w1, w2⟩
      · obtain ⟨Tb, T1, T2, T', S', t', g1, g2, g3, g4, g5, g6, g7, g8, g9, g10⟩ := z_moveOn (N := N) (w := 2) (by omega) (by decide) (by decide) (by decide) (by decide) hi hpr hQ hb
        refine ⟨1, zx_sb B 1 T', S', t', ?_, ?_, by rw [zsb_at]; exact g6, fun j hj => zsb_ne hj, g9, g10⟩
        · rw [h1, m_b1, if_neg (by decide), w1, m_b1, if_neg (by decide), g1, m_b1, m_n, zsb_at, g2, m_b1, m_n, zsb_sb, zsb_at, g3, m_b1, m_n, zsb_sb, zsb_at, g4, m_b1, m_n, zsb_sb]
        · rw [w2, m_b1, if_pos rfl, g5, m_b1, m_b2, if_neg (by decide)]
      · refine ⟨0, B, S, t, ?_, ?_, hQ, zkt_refl⟩
        · rw [h1, m_b1, if_neg (by decide), w1, m_b1, if_pos (by decide)]
        · rw [w2, m_b1, if_neg (by decide), m_b2, if_pos rfl]
    · refine ⟨0, B, S, t, ?_, ?_, hQ, zkt_refl⟩
      · rw [h1, m_b1, if_pos (by decide)]
      · unfold f_X3_whyNotMove
        rw [h2, m_b1, if_pos (by decide), m_b1, if_neg (by decide), m_b2, if_pos rfl]
  · rw [if_neg hs0, if_neg hs0]
    exact ⟨0, B, S, t, rfl, rfl, hQ, zkt_refl⟩
theorem z_holds {N : Nat} (hN : 6000 < N) {B : zx_B} {S : zx_S} {t : ZT} {o p q r s : Nat} (hQ : zQ 2 (B 1) S t) (ho : o < 10) (hp : p < 100) (hq : q < 100) (hr : r < 100) (hs : s < 100) (h1 : o ≠ 1) (h2 : o ≠ 2) (h3 : o ≠ 3) (h4 : o ≠ 4) :
    ∃ y B' S' t', f_X2_holds N (nI o) (nI p) (nI q) (nI r) (nI s) B = some (y, B') ∧ f_X3_command N (nI o) (nI p) (nI q) (nI r) (nI s) S = some (y, S') ∧ (y = 0 ∨ y = 1) ∧ zQ 2 (B' 1) S' t' ∧ zkt B B' S S' := by
  have hN1 : 100 < N := by omega
  have ne : ∀ k, k < 100 → o ≠ k → ¬ nI o = nI k := fun k hk h e => h ((nI_eq (by omega) (by omega)).mp e)
  have hz : ∀ x, x < 1000 → (nI x = 0 ↔ x = 0) := fun x hx => by rw [zl0, nI_eq (by omega) (by decide)]
  unfold f_X2_holds f_X3_command
  rw [if_neg (show ¬ nI o = 1 from ne 1 (by decide) h1), if_neg (show ¬ nI o = 2 from ne 2 (by decide) h2), if_neg (show ¬ nI o = 3 from ne 3 (by decide) h3), if_neg (show ¬ nI o = 4 from ne 4 (by decide) h4)]
  have no : ∃ y B' S' t', (some ((0 : Int32), B) : Option (Int32 × zx_B)) = some (y, B') ∧ (some ((0 : Int32), S) : Option (Int32 × zx_S)) = some (y, S') ∧ (y = 0 ∨ y = 1) ∧ zQ 2 (B' 1) S' t' ∧ zkt B B' S S' := ⟨0, B, S, t, rfl, rfl, Or.inl rfl, hQ, zkt_refl⟩
  have yes : ∃ y B' S' t', (some ((1 : Int32), B) : Option (Int32 × zx_B)) = some (y, B') ∧ (some ((1 : Int32), S) : Option (Int32 × zx_S)) = some (y, S') ∧ (y = 0 ∨ y = 1) ∧ zQ 2 (B' 1) S' t' ∧ zkt B B' S S' := ⟨1, B, S, t, rfl, rfl, Or.inr rfl, hQ, zkt_refl⟩
  by_cases c5 : o = 5
  · subst c5
    rw [if_pos (show nI 5 = 5 from rfl), if_pos (show nI 5 = 5 from rfl), nI_add, nI_add]
    by_cases c : p + q + r = 0
    · rw [if_pos (show nI p = 0 by rw [hz p (by omega)]; omega), if_pos (show nI q = 0 by rw [hz q (by omega)]; omega), if_pos (show nI r = 0 by rw [hz r (by omega)]; omega), if_pos (show nI (p + q + r) = 0 by rw [hz _ (by omega)]; omega)]
      obtain ⟨T', e1, _, f1⟩ := m_nodes (N := N) hN1 hQ.1 hQ.2.2.1
      have hn2 := r_nodes (N := N) hN1 hQ.2.1 (zwf_le10 hQ.2.2.1)
      rw [← zdo_len hQ.2.2.1] at hn2
      have hQ' : zQ 2 ((zx_sb B 1 T') 1) S t := by rw [zsb_at]; exact zQ_fr hQ (zfr_sub f1 (by decide)) rfl
      rw [e1, m_b2, m_n, hn2, m_b1]
      by_cases d : nI s < nI (zdo t).length
      · rw [if_pos d, if_pos d]; exact ⟨0, _, S, t, rfl, rfl, Or.inl rfl, hQ', zkt_sb⟩
      · rw [if_neg d, if_neg d]; exact ⟨1, _, S, t, rfl, rfl, Or.inr rfl, hQ', zkt_sb⟩
    · rw [if_neg (show ¬ nI (p + q + r) = 0 by rw [hz _ (by omega)]; exact c)]
      by_cases cp : p = 0
      · rw [if_pos (show nI p = 0 by rw [hz p (by omega)]; exact cp)]
        by_cases cq : q = 0
        · rw [if_pos (show nI q = 0 by rw [hz q (by omega)]; exact cq), if_neg (show ¬ nI r = 0 by rw [hz r (by omega)]; omega)]; exact no
        · rw [if_neg (show ¬ nI q = 0 by rw [hz q (by omega)]; exact cq)]; exact no
      · rw [if_neg (show ¬ nI p = 0 by rw [hz p (by omega)]; exact cp)]; exact no
  have n5 : ¬ nI o = 5 := ne 5 (by decide) c5
  rw [if_neg n5, if_neg n5]
  by_cases c6 : o = 6
  · subst c6
    rw [if_pos (show nI 6 = 6 from rfl), if_pos (show nI 6 = 6 from rfl)]
    by_cases cp : nI p = 0
    · rw [if_pos cp, if_pos cp]
      by_cases c10 : 10 ≤ nI q
      · rw [if_pos c10, if_pos c10]; exact no
      · rw [if_neg c10, if_neg c10]
        obtain ⟨x, T', S', o1, o2, o3, o4⟩ := z_overlap (N := N) (w := 2) hN1 (by decide) hQ
        have hQ' : zQ 2 ((zx_sb B 1 T') 1) S' t := by rw [zsb_at]; exact zQ_fr hQ (zfr_sub o3 (by decide)) (o4 2 (by decide))
        have hk : zkt B (zx_sb B 1 T') S S' := ⟨fun _ hj => zsb_ne hj, zfr_sub o4 (by decide), zf12_eq (o4 12 (by decide))⟩
        have v1 : ((nI q * 100 + nI r) * 100 + nI s) = nI (10000 * q + 100 * r + s) := by
          rw [show (100 : Int32) = nI 100 from rfl, zi_mul, nI_add, zi_mul, nI_add]
          congr 1
          omega
        have v2 : (10000 * nI q + 100 * nI r + nI s) = nI (10000 * q + 100 * r + s) := by
          rw [show (100 : Int32) = nI 100 from rfl, show (10000 : Int32) = nI 10000 from rfl, zi_mul, zi_mul, nI_add, nI_add]
        rw [o1, m_b2, m_n, o2, m_b2, v1, v2]
        by_cases d : nI (10000 * q + 100 * r + s) < x
        · rw [if_pos d, if_pos d]; exact ⟨0, _, S', t, rfl, rfl, Or.inl rfl, hQ', hk⟩
        · rw [if_neg d, if_neg d]; exact ⟨1, _, S', t, rfl, rfl, Or.inr rfl, hQ', hk⟩
    · rw [if_neg cp, if_neg cp]; exact no
  have n6 : ¬ nI o = 6 := ne 6 (by decide) c6
  rw [if_neg n6, if_neg n6]
  have hpx : 0 ≤ (nI p).toInt ∧ (nI p).toInt ≤ 99 := by rw [nI_toInt (by omega)]; omega
  have hqx : 0 ≤ (nI q).toInt ∧ (nI q).toInt ≤ 99 := by rw [nI_toInt (by omega)]; omega
  by_cases c7 : o = 7
  · subst c7
    rw [if_pos (show nI 7 = 7 from rfl), if_pos (show nI 7 = 7 from rfl)]
    by_cases cs : nI s = 0
    · rw [if_pos cs, if_pos cs]
      rcases z_has (N := N) hQ (nI r) with ⟨i, hi, e, hpr, a1, a2⟩ | ⟨_, a1, a2⟩
      · obtain ⟨x, e1, e2⟩ := z_near (N := N) (rank := 0) hN1 hQ hpx hqx
        rw [a1, m_b1, if_neg (show ¬ nI 1 = 0 by decide), a2, m_b1, if_neg (show ¬ nI 1 = 0 by decide), e1, m_b1, e2, m_b1]
        by_cases d : x = nI r
        · rw [if_pos d, if_pos d]; exact yes
        · rw [if_neg d, if_neg d]; exact no
      · rw [a1, m_b1, if_pos (show nI 0 = 0 from rfl), a2, m_b1, if_pos (show nI 0 = 0 from rfl)]; exact no
    · rw [if_neg cs, if_neg cs]; exact no
  have n7 : ¬ nI o = 7 := ne 7 (by decide) c7
  rw [if_neg n7, if_neg n7]
  by_cases c8 : o = 8
  · subst c8
    rw [if_pos (show nI 8 = 8 from rfl), if_pos (show nI 8 = 8 from rfl)]
    by_cases cs : nI s = 0
    · rw [if_pos cs, if_pos cs]
      rcases z_has (N := N) hQ (nI r) with ⟨i, hi, e, hpr, a1, a2⟩ | ⟨_, a1, a2⟩
      · have e1 := m_dist (N := N) hQ hi hpr hpx hqx
        have e2 := r_dist (N := N) (r := S 2) (px := nI p) (py := nI q) hi
        rw [a1, m_b1, if_neg (show ¬ nI 1 = 0 by decide), a2, m_b1, if_neg (show ¬ nI 1 = 0 by decide), e, e1, m_b1, e2, m_b1]
        by_cases d : zdi (S 2) i (nI p) (nI q) = 0
        · rw [if_pos d, if_pos d]; exact yes
        · rw [if_neg d, if_neg d]; exact no
      · rw [a1, m_b1, if_pos (show nI 0 = 0 from rfl), a2, m_b1, if_pos (show nI 0 = 0 from rfl)]; exact no
    · rw [if_neg cs, if_neg cs]; exact no
  have n8 : ¬ nI o = 8 := ne 8 (by decide) c8
  rw [if_neg n8, if_neg n8]
  exact no
/-- one command, decoded -/
def zcmd (N : Nat) (x29 x23 x25 x27 x28 : Int32) (S : zx_B) : Option (Int32 × zx_B) :=
  (if x29 = 1 then
  (zx_b1 (f_X2_isBox N x23 x25 (x23 + x27) (x25 + x28)) (fun x31 =>
(if x31 = 0 then
  some (0, S) else
  (zx_b1 (f_X1_countRectangles N (S 1)) (fun x34 =>
(if x34 < 24 then
  (zx_b1 (f_X2_tryAdding N x23 x25 (x23 + x27) (x25 + x28) S) (fun T37 =>
some (1, T37))) else
  some (0, S))))))) else
(if x29 = 2 then
  (if x25 = 0 then
  (if x27 = 0 then
  (if x28 = 0 then
  (zx_b1 (f_X1_hasRectangle N x23 (S 1)) (fun x43 =>
(if x43 = 0 then
  some (0, S) else
  (zx_b1 (f_X1_beginCall N (S 1)) (fun T46 =>
(zx_n (zx_sb S 1 T46) (fun T48 =>
(zx_b1 (f_X1_takeOut N x23 (T48 1)) (fun T49 =>
(zx_n (zx_sb T48 1 T49) (fun T51 =>
some (1, T51)))))))))))) else
  some (0, S)) else
  some (0, S)) else
  some (0, S)) else
(if x29 = 3 then
  f_X2_succeeds_j162 N  x23 x25 x27 x28 x29 S else
(if x29 = 4 then
  f_X2_succeeds_j162 N  x23 x25 x27 x28 x29 S else
(zx_b2 (f_X2_holds N x29 x23 x25 x27 x28 S) (fun x54 T55 =>
(zx_bl x54 (
some (x54, T55)))))))))
theorem zcmd_eq {N : Nat} {p1 : Int32} {S : zx_B} : f_X2_succeeds N p1 S = zcmd N (p1 / 100000000) (p1 / 1000000 - p1 / 1000000 / 100 * 100) (p1 / 10000 - p1 / 10000 / 100 * 100) (p1 / 100 - p1 / 100 / 100 * 100) (p1 - p1 / 100 * 100) S := rfl
theorem z_cmd {N : Nat} (hN : 6000 < N) {B : zx_B} {S : zx_S} {t : ZT} {o p q r s : Nat} (hQ : zQ 2 (B 1) S t) (ho : o < 10) (hp : p < 100) (hq : q < 100) (hr : r < 100) (hs : s < 100) :
    ∃ y B' S' t', zcmd N (nI o) (nI p) (nI q) (nI r) (nI s) B = some (y, B') ∧ f_X3_command N (nI o) (nI p) (nI q) (nI r) (nI s) S = some (y, S') ∧ zQ 2 (B' 1) S' t' ∧ zkt B B' S S' := by
  have hN1 : 100 < N := by omega
  have ne : ∀ k, k < 100 → o ≠ k → ¬ nI o = nI k := fun k hk h e => h ((nI_eq (by omega) (by omega)).mp e)
  have hz : ∀ x, x < 1000 → (nI x = 0 ↔ x = 0) := fun x hx => by rw [zl0, nI_eq (by omega) (by decide)]
  have no : ∃ y B' S' t', (some ((0 : Int32), B) : Option (Int32 × zx_B)) = some (y, B') ∧ (some ((0 : Int32), S) : Option (Int32 × zx_S)) = some (y, S') ∧ zQ 2 (B' 1) S' t' ∧ zkt B B' S S' := ⟨0, B, S, t, rfl, rfl, hQ, zkt_refl⟩
  by_cases c1 : o = 1
  · subst c1
    unfold zcmd f_X3_command f_X3_adds
    rw [if_pos (show nI 1 = 1 from rfl), if_pos (show nI 1 = 1 from rfl)]
    rcases z_isBox (N := N) (a := nI p) (b := nI q) (c := nI p + nI r) (d := nI q + nI s) with ⟨hb, i1, i2⟩ | ⟨_, i1, i2⟩
    · obtain ⟨w1, w2⟩ := z_count (N := N) hN1 hQ
      have hle := zct_le (t := t) 24
      by_cases h24 : zct t 24 < 24
      · obtain ⟨i, T', S', t', m1, m2, m3, _, m5, m6⟩ := z_try (N := N) hN hQ hb h24
        refine ⟨1, zx_sb B 1 T', S', t', ?_, ?_, by rw [zsb_at]; exact m3, fun j hj => zsb_ne hj, zfr_sub m5 (by decide), m6⟩
        · rw [i1, m_b1, if_neg (by decide), w1, m_b1, zl24, if_pos (by rw [nI_ltI (by omega) (by decide)]; exact h24), m1, m_b1]
        · rw [i2, m_b1, if_neg (by decide), w2, m_b1, zl24, if_neg (by rw [nI_eq (by omega) (by decide)]; omega), m_n, m2, m_b2, m_b2]
          exact if_pos (Or.inr rfl)
      · have h24e : zct t 24 = 24 := by omega
        refine ⟨0, B, S, t, ?_, ?_, hQ, zkt_refl⟩
        · rw [i1, m_b1, if_neg (by decide), w1, m_b1, h24e, if_neg (by decide)]
        · rw [i2, m_b1, if_neg (by decide), w2, m_b1, h24e, if_pos (by decide), m_b2]
          exact if_pos (Or.inl rfl)
    · refine ⟨0, B, S, t, ?_, ?_, hQ, zkt_refl⟩
      · rw [i1, m_b1, if_pos (by decide)]
      · rw [i2, m_b1, if_pos (by decide), m_b2]
        exact if_pos (Or.inl rfl)
  have n1 : ¬ nI o = 1 := ne 1 (by decide) c1
  by_cases c2 : o = 2
  · subst c2
    unfold zcmd f_X3_command
    rw [if_neg n1, if_neg n1, if_pos (show nI 2 = 2 from rfl), if_pos (show nI 2 = 2 from rfl), nI_add, nI_add]
    by_cases c : q + r + s = 0
    · rw [if_pos (show nI q = 0 by rw [hz q (by omega)]; omega), if_pos (show nI r = 0 by rw [hz r (by omega)]; omega), if_pos (show nI s = 0 by rw [hz s (by omega)]; omega), if_pos (show nI (q + r + s) = 0 by rw [hz _ (by omega)]; omega)]
      rcases z_has (N := N) hQ (nI p) with ⟨i, hi, e, hpr, a1, a2⟩ | ⟨_, a1, a2⟩
      · obtain ⟨Tb, T', S', t', g1, g2, g3, g4, g5, g5b, g6⟩ := z_trem hN hQ hi hpr
        refine ⟨1, zx_sb B 1 T', S', t', ?_, ?_, by rw [zsb_at]; exact g4, g6⟩
        · rw [a1, m_b1, if_neg (by decide), g1, m_b1, m_n, zsb_at, e, g2, m_b1, m_n, zsb_sb]
        · rw [a2, m_b1, if_neg (by decide), e, g3, m_b2, if_neg (by rw [zl0, nI_leI (by omega) (by decide)]; omega)]
      · rw [a1, m_b1, if_pos (show nI 0 = 0 from rfl), a2, m_b1, if_pos (show nI 0 = 0 from rfl)]; exact no
    · rw [if_neg (show ¬ nI (q + r + s) = 0 by rw [hz _ (by omega)]; exact c)]
      by_cases cq : q = 0
      · rw [if_pos (show nI q = 0 by rw [hz q (by omega)]; exact cq)]
        by_cases cr : r = 0
        · rw [if_pos (show nI r = 0 by rw [hz r (by omega)]; exact cr), if_neg (show ¬ nI s = 0 by rw [hz s (by omega)]; omega)]; exact no
        · rw [if_neg (show ¬ nI r = 0 by rw [hz r (by omega)]; exact cr)]; exact no
      · rw [if_neg (show ¬ nI q = 0 by rw [hz q (by omega)]; exact cq)]; exact no
  have n2 : ¬ nI o = 2 := ne 2 (by decide) c2
  have bq : -99 ≤ (nI q).toInt ∧ (nI q).toInt ≤ 99 := by rw [nI_toInt (by omega)]; omega
  have br : -99 ≤ (nI r).toInt ∧ (nI r).toInt ≤ 99 := by rw [nI_toInt (by omega)]; omega
  have bq' : -99 ≤ (-(nI q)).toInt ∧ (-(nI q)).toInt ≤ 99 := by rw [zi_negT (by omega)]; omega
  have br' : -99 ≤ (-(nI r)).toInt ∧ (-(nI r)).toInt ≤ 99 := by rw [zi_negT (by omega)]; omega
  by_cases c3 : o = 3
  · subst c3
    unfold zcmd f_X3_command f_X2_succeeds_j162 f_X2_succeeds_j174
    rw [if_neg n1, if_neg n1, if_neg n2, if_neg n2]
    simp only [show nI 3 = 3 from rfl, if_true]
    exact z_cmove hN hQ hs bq br hp
  have n3 : ¬ nI o = 3 := ne 3 (by decide) c3
  by_cases c4 : o = 4
  · subst c4
    unfold zcmd f_X3_command f_X2_succeeds_j162 f_X2_succeeds_j174
    rw [if_neg n1, if_neg n1, if_neg n2, if_neg n2, if_neg n3, if_neg n3, if_pos (show nI 4 = 4 from rfl), if_pos (show nI 4 = 4 from rfl), if_neg n3, if_neg n3]
    exact z_cmove hN hQ hs bq' br' hp
  have n4 : ¬ nI o = 4 := ne 4 (by decide) c4
  obtain ⟨y, B', S', t', a1, a2, a3, a4, a5⟩ := z_holds hN hQ ho hp hq hr hs c1 c2 c3 c4
  refine ⟨y, B', S', t', ?_, a2, a4, a5⟩
  unfold zcmd
  rw [if_neg n1, if_neg n2, if_neg n3, if_neg n4, a1, m_b2]
  exact if_pos a3
/-- one command of a number below 10^9 -/
theorem z_code {N : Nat} (hN : 6000 < N) {B : zx_B} {S : zx_S} {t : ZT} {m : Nat} (hm : m < 1000000000) (hQ : zQ 2 (B 1) S t) :
    ∃ y B' S' t', f_X2_succeeds N (nI m) B = some (y, B') ∧ f_X3_command N (nI m / 100000000) (nI m / 1000000 - nI m / 1000000 / 100 * 100) (nI m / 10000 - nI m / 10000 / 100 * 100) (nI m / 100 - nI m / 100 / 100 * 100) (nI m - nI m / 100 * 100) S = some (y, S') ∧ zQ 2 (B' 1) S' t' ∧ zkt B B' S S' := by
  have z2 : (100 : Int32) = nI 100 := rfl
  have z4 : (10000 : Int32) = nI 10000 := rfl
  have z6 : (1000000 : Int32) = nI 1000000 := rfl
  have z8 : (100000000 : Int32) = nI 100000000 := rfl
  have b : m < 2 ^ 31 := by omega
  have d8 : nI m / nI 100000000 = nI (m / 100000000) := zi_div b (by decide)
  have d6 : nI m / nI 1000000 = nI (m / 1000000) := zi_div b (by decide)
  have d4 : nI m / nI 10000 = nI (m / 10000) := zi_div b (by decide)
  have d0 : nI m - nI m / nI 100 * nI 100 = nI (m % 100) := zi_mod b (by decide)
  have d2 : nI m / nI 100 = nI (m / 100) := zi_div b (by decide)
  have e6 : nI (m / 1000000) - nI (m / 1000000) / nI 100 * nI 100 = nI (m / 1000000 % 100) := zi_mod (by omega) (by decide)
  have e4 : nI (m / 10000) - nI (m / 10000) / nI 100 * nI 100 = nI (m / 10000 % 100) := zi_mod (by omega) (by decide)
  have e2 : nI (m / 100) - nI (m / 100) / nI 100 * nI 100 = nI (m / 100 % 100) := zi_mod (by omega) (by decide)
  rw [zcmd_eq, z2, z4, z6, z8, d8, d6, d4, d0, d2, e6, e4, e2]
  exact z_cmd hN hQ (by omega) (by omega) (by omega) (by omega) (by omega)
/-- the two numbers that a script may be of -/
theorem z_b9 : (1000000000 : Int64).toInt = 1000000000 := by decide
theorem z_digit {x : Int64} (h : 0 ≤ x.toInt) : ∃ m, m < 1000000000 ∧ Int64.toInt32 (x - x / 1000000000 * 1000000000) = nI m := by
  have h1 := z64_mod h (y := 1000000000) (by rw [z_b9]; decide)
  rw [z_b9] at h1
  have h2 := Int.emod_nonneg x.toInt (show (1000000000 : Int) ≠ 0 by decide)
  have h3 := Int.emod_lt_of_pos x.toInt (show (0 : Int) < 1000000000 by decide)
  exact ⟨(x.toInt % 1000000000).toNat, by omega, z64_32 (by rw [h1]; omega) (by omega)⟩
theorem z_hi {x : Int64} (h : 0 ≤ x.toInt) (h2 : x.toInt < 1000000000000000000) : x / 1000000000 - x / 1000000000 / 1000000000 * 1000000000 = x / 1000000000 := by
  have hd := z64_div h (y := 1000000000) (by rw [z_b9]; decide)
  rw [z_b9] at hd
  have h0 : 0 ≤ (x / 1000000000).toInt := by rw [hd]; omega
  have h1 := z64_mod h0 (y := 1000000000) (by rw [z_b9]; decide)
  rw [z_b9, hd] at h1
  apply Int64.toInt_inj.mp
  rw [h1, hd]
  omega
theorem z_div1 {x : Int64} (h : 0 ≤ x.toInt) : x / 1 = x := by
  apply Int64.toInt_inj.mp
  rw [z64_div h (by decide), show (1 : Int64).toInt = 1 from by decide, Int.ediv_one]
theorem z_b18 : (1000000000000000000 : Int64).toInt = 1000000000000000000 := by decide
theorem z_b1 : (1 : Int64).toInt = 1 := by decide
theorem z_d9 : (1000000000 : Int64) / 1000000000 = 1 := by
  apply Int64.toInt_inj.mp
  rw [z64_div (by rw [z_b9]; decide) (by rw [z_b9]; decide), z_b9, z_b1]
  decide
theorem z_d18 : (1000000000000000000 : Int64) / 1000000000 = 1000000000 := by
  apply Int64.toInt_inj.mp
  rw [z64_div (by rw [z_b18]; decide) (by rw [z_b9]; decide), z_b9, z_b18]
  decide
theorem m_nz {β : Type} {y : Int64} {k : Option β} (h : ¬ y = 0) : zx_nz y k = k := if_neg h
