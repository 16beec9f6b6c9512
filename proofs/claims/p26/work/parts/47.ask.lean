/-! windows, distances, the chosen node -/
theorem zi_le {a b : Int32} : a ≤ b ↔ a.toInt ≤ b.toInt := Int32.le_iff_toInt_le
theorem zi_ltt {a b : Int32} : a < b ↔ a.toInt < b.toInt := Int32.lt_iff_toInt_lt
/-- a box that is one: its corners in order -/
def zor (f : Nat → Int32) (c : Nat) : Prop := (f (4 * c)).toInt ≤ (f (4 * c + 2)).toInt ∧ (f (4 * c + 1)).toInt ≤ (f (4 * c + 3)).toInt
theorem zmm_ord0 {k : Nat} {a b : Int32} (hk : k < 2) : (zmm k a b).toInt ≤ a.toInt := by
  unfold zmm zmn
  rw [if_pos hk]
  split
  · rename_i h; rw [zi_ltt] at h; omega
  · omega
theorem zmm_ord1 {k : Nat} {a b : Int32} (hk : ¬ k < 2) : a.toInt ≤ (zmm k a b).toInt := by
  unfold zmm zmx
  rw [if_neg hk]
  split
  · rename_i h; rw [zi_ltt] at h; omega
  · omega
theorem zjf_ord0 {f : Nat → Int32} {k : Nat} (hk : k < 2) : ∀ {l : List Nat} {a : Int32}, (zjf f k a l).toInt ≤ a.toInt
  | [], a => Int.le_refl _
  | c :: l, a => Int.le_trans (zjf_ord0 hk (l := l)) (zmm_ord0 hk)
theorem zjf_ord1 {f : Nat → Int32} {k : Nat} (hk : ¬ k < 2) : ∀ {l : List Nat} {a : Int32}, a.toInt ≤ (zjf f k a l).toInt
  | [], a => Int.le_refl _
  | c :: l, a => Int.le_trans (zmm_ord1 hk) (zjf_ord1 hk (l := l))
theorem zord {f : Nat → Int32} {t : ZT} (ht : zb t) (hg : zg t) (hf : zrb f t) (hc0 : zcr t) (hLC : ∀ s, zlv t s ≠ 0 → zLC f t s) : ∀ (L : Nat) (c : Nat), zil t c ≤ L → zgd t c → zor f c
  | L, c, hc, hgd => by
    rcases hgd with ⟨h1, h2⟩ | ⟨h1, h2, h3, h4⟩
    · obtain ⟨a1, a2, a3, a4, a5, a6⟩ := hc0 c h1 h2
      have k0 := hf c 0 h1 (by omega) h2
      have k1 := hf c 1 h1 (by omega) h2
      have k2 := hf c 2 h1 (by omega) h2
      have k3 := hf c 3 h1 (by omega) h2
      rw [Nat.add_zero] at k0
      unfold zor
      rw [k0, k1, k2, k3]
      exact ⟨a2, a5⟩
    · have hil : zil t c = zlv t (c - 24) := by unfold zil; rw [if_neg (by omega)]
      have hL := hLC (c - 24) h3 h4
      rw [show 24 + (c - 24) = c by omega] at hL
      have hL0 := hL 0 (by omega)
      have hL1 := hL 1 (by omega)
      have hL2 := hL 2 (by omega)
      have hL3 := hL 3 (by omega)
      rw [Nat.add_zero] at hL0
      rcases hes : zes t (c - 24) with _ | ⟨e, l⟩
      · exact absurd hes h4
      have he : e ∈ zes t (c - 24) := by rw [hes]; exact List.mem_cons_self ..
      have hle := (ht.1 _ e he).2.1
      match L, hc with
      | 0, hc => omega
      | L + 1, hc =>
        have ih := zord ht hg hf hc0 hLC L e (by omega) (hg _ e he)
        rw [hes] at hL0 hL1 hL2 hL3
        unfold zor at ih ⊢
        rw [hL0, hL1, hL2, hL3]
        have g0 : (zjn f (e :: l) 0).toInt ≤ (f (4 * e)).toInt := zjf_ord0 (by omega)
        have g1 : (zjn f (e :: l) 1).toInt ≤ (f (4 * e + 1)).toInt := zjf_ord0 (by omega)
        have g2 : (f (4 * e + 2)).toInt ≤ (zjn f (e :: l) 2).toInt := zjf_ord1 (by omega)
        have g3 : (f (4 * e + 3)).toInt ≤ (zjn f (e :: l) 3).toInt := zjf_ord1 (by omega)
        exact ⟨by omega, by omega⟩
theorem zmn_T {a b : Int32} : (zmn a b).toInt = if b.toInt < a.toInt then b.toInt else a.toInt := by
  unfold zmn
  rw [apply_ite Int32.toInt]
  simp only [zi_ltt]
theorem zmx_T {a b : Int32} : (zmx a b).toInt = if a.toInt < b.toInt then b.toInt else a.toInt := by
  unfold zmx
  rw [apply_ite Int32.toInt]
  simp only [zi_ltt]
/-- two boxes share cells, or not -/
theorem zcc_meet {f : Nat → Int32} {c d : Nat} (hc : zbd f c) (hd : zbd f d) (oc : zor f c) (od : zor f d) : zcc f c d ≤ 0 ↔ ((f (4 * d + 2)).toInt < (f (4 * c)).toInt ∨ (f (4 * c + 2)).toInt < (f (4 * d)).toInt ∨ (f (4 * d + 3)).toInt < (f (4 * c + 1)).toInt ∨ (f (4 * c + 3)).toInt < (f (4 * d + 1)).toInt) := by
  have c0 := hc 0 (by omega)
  have c1 := hc 1 (by omega)
  have c2 := hc 2 (by omega)
  have c3 := hc 3 (by omega)
  have d0 := hd 0 (by omega)
  have d1 := hd 1 (by omega)
  have d2 := hd 2 (by omega)
  have d3 := hd 3 (by omega)
  rw [Nat.add_zero] at c0 d0
  unfold zor at oc od
  have t1 : ((1 : Int32)).toInt = 1 := by decide
  have z0 : ∀ x : Int32, x ≤ 0 ↔ x.toInt ≤ 0 := fun x => by rw [zi_le]; rfl
  have hw : (zcw f c d).toInt = (zmn (f (4 * c + 2)) (f (4 * d + 2))).toInt - (zmx (f (4 * c)) (f (4 * d))).toInt + 1 := by
    unfold zcw
    have b1 := (zbd_mm c2 d2).2
    have b2 := (zbd_mm c0 d0).1
    have s1 := zi_subT (a := zmn (f (4 * c + 2)) (f (4 * d + 2))) (b := zmx (f (4 * c)) (f (4 * d))) (by omega) (by omega)
    rw [zi_addT (by rw [s1, t1]; omega) (by rw [s1, t1]; omega), s1, t1]
  have hh : (zch f c d).toInt = (zmn (f (4 * c + 3)) (f (4 * d + 3))).toInt - (zmx (f (4 * c + 1)) (f (4 * d + 1))).toInt + 1 := by
    unfold zch
    have b1 := (zbd_mm c3 d3).2
    have b2 := (zbd_mm c1 d1).1
    have s1 := zi_subT (a := zmn (f (4 * c + 3)) (f (4 * d + 3))) (b := zmx (f (4 * c + 1)) (f (4 * d + 1))) (by omega) (by omega)
    rw [zi_addT (by rw [s1, t1]; omega) (by rw [s1, t1]; omega), s1, t1]
  rw [zmn_T, zmx_T] at hw hh
  unfold zcc
  simp only [z0]
  by_cases q1 : (zcw f c d).toInt ≤ 0
  · rw [if_pos q1]
    refine ⟨fun _ => ?_, fun _ => by decide⟩
    split at hw <;> split at hw <;> omega
  · rw [if_neg q1]
    by_cases q2 : (zch f c d).toInt ≤ 0
    · rw [if_pos q2]
      refine ⟨fun _ => ?_, fun _ => by decide⟩
      split at hh <;> split at hh <;> omega
    · rw [if_neg q2]
      have w100 : (zcw f c d).toInt ≤ 100 := by split at hw <;> split at hw <;> omega
      have h100 : (zch f c d).toInt ≤ 100 := by split at hh <;> split at hh <;> omega
      have hp : 0 < (zcw f c d).toInt * (zch f c d).toInt := Int.mul_pos (by omega) (by omega)
      have hq : (zcw f c d).toInt * (zch f c d).toInt ≤ 10000 := by
        have := Int.mul_le_mul w100 h100 (by omega) (by omega)
        simpa using this
      rw [zi_mulT (by omega) (by omega)]
      refine ⟨fun h => by omega, fun h => ?_⟩
      exfalso
      split at hw <;> split at hw <;> split at hh <;> split at hh <;> omega
theorem r_meets {N : Nat} {S : zx_S} {c : Nat} {a b c' d : Int32} (hc : c < 56) : f_X3_meets N (nI c) a b c' d S = some (if (c'.toInt < (S 6 (4 * c)).toInt ∨ (S 6 (4 * c + 2)).toInt < a.toInt ∨ d.toInt < (S 6 (4 * c + 1)).toInt ∨ (S 6 (4 * c + 3)).toInt < b.toInt) then nI 0 else nI 1) := by
  unfold f_X3_meets
  simp (disch := omega) only [↓zlm1, ↓zlm2, zi_e1, zi_e2, zi_1e, zi_12, zi_21, zi_1n, zi_n1, if_true, if_false, eq_self, not_false_eq_true, not_true_eq_false, nI_add, zi_4m, zi_5m, zi_8m, zi_mul4, zi_mul5, zi_sub, nI_leI, nI_ltI, nI_eq, zl0, zl1, zl2, zl3, zl4, zl5, zl6, zl8, zl9, zl24, zl32, zl48, zl49, zl99, zl100, zl120, zl376, zl377, zl378, zl379, zl380, ↓zi_192, zi_dec, Nat.add_zero, Nat.zero_add, m_n, m_b1, m_b2, m_rd, m_wr, m_get, m_put, nI_clamp, st_at, st_ne, up_at, up_ne, if_pos, if_neg]
  simp only [zi_ltt]
  by_cases h1 : c'.toInt < (S 6 (4 * c)).toInt
  · rw [if_pos h1, if_pos (Or.inl h1)]
  rw [if_neg h1]
  by_cases h2 : (S 6 (4 * c + 2)).toInt < a.toInt
  · rw [if_pos h2, if_pos (Or.inr (Or.inl h2))]
  rw [if_neg h2]
  by_cases h3 : d.toInt < (S 6 (4 * c + 1)).toInt
  · rw [if_pos h3, if_pos (Or.inr (Or.inr (Or.inl h3)))]
  rw [if_neg h3]
  by_cases h4 : (S 6 (4 * c + 3)).toInt < b.toInt
  · rw [if_pos h4, if_pos (Or.inr (Or.inr (Or.inr h4)))]
  rw [if_neg h4, if_neg (by rintro (z | z | z | z) <;> contradiction)]
/-- the component's answer and the reference's, of one thing and the window -/
def zmeet (N : Nat) (T S : zx_S) (a b c d : Int32) (e : Nat) : Prop := ∀ S', S' 6 = S 6 → ((zcc (T 0) e 48 ≤ 0 ∧ f_X3_meets N (nI e) a b c d S' = some (nI 0)) ∨ (¬ zcc (T 0) e 48 ≤ 0 ∧ f_X3_meets N (nI e) a b c d S' = some (nI 1)))
/-- the window's box is set, the reference's boxes are laid -/
theorem z_win {N : Nat} (hN : 100 < N) {T S : zx_S} {t : ZT} {a b c d : Int32} (hQ : zQ 1 T S t) (hb : zbk a b c d) : ∃ T1 S1, f_X1_setBox N (nI 48) a b c d T = some T1 ∧ f_X3_layBoxes N 1 S = some S1 ∧ zfr [0] T T1 ∧ zfr [6] S S1 ∧ zQ 1 T1 S1 t ∧ zbd (T1 0) 48 ∧ zor (T1 0) 48 ∧ (∀ k, k < 4 → T1 0 (4 * 48 + k) = zrk a b c d k) ∧ (∀ e, zgd t e → zbd (T1 0) e ∧ ∀ k, k < 4 → T1 0 (4 * e + k) = S1 6 (4 * e + k)) ∧ ∀ e, zgd t e → zmeet N T1 S1 a b c d e := by
  obtain ⟨T1, e1, f1, k1, o1⟩ := m_setBox (N := N) (T := T) (i := 48) (a := a) (b := b) (c := c) (d := d) (by omega)
  obtain ⟨hT, hr, hw, hbx, hcnt⟩ := id hQ
  have hR := zwf_lv hw (by decide)
  have ht := zwf_zb hw (by omega)
  have hg := zwf_zg hw (zwf_un24 hw)
  have hT1 : zcx T1 t [] := zcx_keep hT (f1 1 (by decide)) (f1 2 (by decide)) (f1 3 (by decide)) (f1 4 (by decide)) (by rw [f1 10 (by decide)])
  have hbx1 : zcbx T1 t := by
    refine ⟨fun i k hi hk hp => ?_, fun s hs => ?_⟩
    · rw [o1 _ (by omega)]; exact hbx.1 i k hi hk hp
    · have hs24 := zb_lt ht hs
      exact zLC_ext (hbx.2 s hs) rfl (fun k hk => o1 _ (by omega)) (fun x hx k hk => o1 _ (by have := (ht.1 s x hx).1; omega))
  have hQ1 : zQ 1 T1 S t := ⟨hT1, hr, hw, hbx1, by unfold zcnt; rw [f1 10 (by decide)]; exact hcnt⟩
  obtain ⟨S1, e2, f2, hr1, hA⟩ := z_layA (N := N) hN (by decide) hQ1
  obtain ⟨b1, b2, b3, b4, b5, b6⟩ := hb
  have k0 := k1 0 (by omega)
  have k2 := k1 1 (by omega)
  have k3 := k1 2 (by omega)
  have k4 := k1 3 (by omega)
  rw [Nat.add_zero] at k0
  have r0 : zrk a b c d 0 = a := rfl
  have r1 : zrk a b c d 1 = b := rfl
  have r2 : zrk a b c d 2 = c := rfl
  have r3 : zrk a b c d 3 = d := rfl
  rw [r0] at k0; rw [r1] at k2; rw [r2] at k3; rw [r3] at k4
  have hd48 : zbd (T1 0) 48 := by
    intro k hk
    rcases (show k = 0 ∨ k = 1 ∨ k = 2 ∨ k = 3 by omega) with rfl | rfl | rfl | rfl
    · rw [Nat.add_zero, k0]; omega
    · rw [k2]; omega
    · rw [k3]; omega
    · rw [k4]; omega
  have ho48 : zor (T1 0) 48 := by
    unfold zor
    rw [k0, k2, k3, k4]; exact ⟨b2, b5⟩
  refine ⟨T1, S1, e1, e2, f1, f2, ⟨hT1, hr1, hw, hbx1, by unfold zcnt; rw [f1 10 (by decide), f2 1 (by decide)]; exact hcnt⟩, hd48, ho48, k1, hA, fun e he S' hS' => ?_⟩
  have he56 : e < 48 := by rcases he with z | z <;> omega
  obtain ⟨h1, h2⟩ := hA e he
  have hoe := zord ht hg hbx1.1 (zwf_cr hw) hbx1.2 (zil t e) e (Nat.le_refl _) he
  have hm := zcc_meet h1 hd48 hoe ho48
  rw [r_meets (by omega), hS']
  have g0 := h2 0 (by omega)
  have g1 := h2 1 (by omega)
  have g2 := h2 2 (by omega)
  have g3 := h2 3 (by omega)
  rw [Nat.add_zero] at g0
  rw [← g0, ← g1, ← g2, ← g3]
  rw [k0, k2, k3, k4] at hm
  by_cases q : zcc (T1 0) e 48 ≤ 0
  · exact Or.inl ⟨q, by rw [if_pos (hm.mp q)]⟩
  · exact Or.inr ⟨q, by rw [if_neg (fun z => q (hm.mpr z))]⟩
theorem z_win_l {N : Nat} {B : zx_B} {S : zx_S} {t : ZT} {a b c d : Int32} (hQ : zQ 1 (B 0) S t) (hm : ∀ e, zgd t e → zmeet N (B 0) S a b c d e) : ∀ (x n n' k : Nat) (acc : Int32), x < n → x < n' → k + x = 24 → ∃ r, f_X2_window_l41 N n acc (nI k) B = some (r, (0, B)) ∧ f_X3_window_l39 N n' a b c d acc (nI k) S = some (r, S)
  | 0, n + 1, n' + 1, k, acc, hn, hn', hk => by
    refine ⟨acc, ?_, ?_⟩
    · rw [f_X2_window_l41]
      simp (disch := omega) only [↓zlm1, ↓zlm2, zi_e1, zi_e2, zi_1e, zi_12, zi_21, zi_1n, zi_n1, if_true, if_false, eq_self, not_false_eq_true, not_true_eq_false, nI_add, zi_4m, zi_5m, zi_8m, zi_mul4, zi_mul5, zi_sub, nI_leI, nI_ltI, nI_eq, zl0, zl1, zl2, zl3, zl4, zl5, zl6, zl8, zl9, zl24, zl32, zl48, zl49, zl99, zl100, zl120, zl376, zl377, zl378, zl379, zl380, ↓zi_192, zi_dec, Nat.add_zero, Nat.zero_add, m_n, m_b1, m_b2, m_rd, m_wr, m_get, m_put, nI_clamp, st_at, st_ne, up_at, up_ne, if_pos, if_neg]
    · rw [f_X3_window_l39]
      simp (disch := omega) only [↓zlm1, ↓zlm2, zi_e1, zi_e2, zi_1e, zi_12, zi_21, zi_1n, zi_n1, if_true, if_false, eq_self, not_false_eq_true, not_true_eq_false, nI_add, zi_4m, zi_5m, zi_8m, zi_mul4, zi_mul5, zi_sub, nI_leI, nI_ltI, nI_eq, zl0, zl1, zl2, zl3, zl4, zl5, zl6, zl8, zl9, zl24, zl32, zl48, zl49, zl99, zl100, zl120, zl376, zl377, zl378, zl379, zl380, ↓zi_192, zi_dec, Nat.add_zero, Nat.zero_add, m_n, m_b1, m_b2, m_rd, m_wr, m_get, m_put, nI_clamp, st_at, st_ne, up_at, up_ne, if_pos, if_neg]
  | x + 1, n + 1, n' + 1, k, acc, hn, hn', hk => by
    have ih := fun acc => z_win_l hQ hm x n n' (k + 1) acc (by omega) (by omega) (by omega)
    have h1 := hQ.2.1.1 k (by omega)
    rw [f_X2_window_l41, f_X3_window_l39]
    unfold f_X2_window_j83 f_X3_window_j82 f_X3_window_j83
    have h24 : ¬ (24 : Int32) ≤ nI k := by rw [zl24, nI_leI (by omega) (by omega)]; omega
    rcases z_has (N := N) hQ (nI k) with ⟨i, hi, e, hp, c1, c2⟩ | ⟨hno, c1, c2⟩
    · have := (nI_eq (by omega) (by omega)).mp e
      subst this
      rw [if_pos hp, zl1] at h1
      rcases hm k (Or.inl ⟨by omega, hp⟩) S rfl with ⟨q1, q2⟩ | ⟨q1, q2⟩
      · obtain ⟨r, e1, e2⟩ := ih acc
        refine ⟨r, ?_, ?_⟩
        · rw [if_neg h24, c1, m_b1, if_neg (by decide), zl48, m_common (by omega) (by omega), m_b1, if_pos q1, m_n, zl1, nI_add]
          exact e1
        · rw [if_neg h24, zl5, zi_5m, m_rd (by omega) (by decide), h1, zl1, if_pos (by decide), q2, m_b1, if_pos (by decide), m_n, m_n, Int32.or_zero, nI_add]
          exact e2
      · obtain ⟨r, e1, e2⟩ := ih (acc ||| (1 <<< (nI k &&& 31)))
        refine ⟨r, ?_, ?_⟩
        · rw [if_neg h24, c1, m_b1, if_neg (by decide), zl48, m_common (by omega) (by omega), m_b1, if_neg q1, m_n, m_n, show nI k + 1 = nI (k + 1) by rw [zl1, nI_add]]
          exact e1
        · rw [if_neg h24, zl5, zi_5m, m_rd (by omega) (by decide), h1, if_pos (by decide), q2, m_b1, if_neg (by decide), m_n, m_n, show nI k + 1 = nI (k + 1) by rw [zl1, nI_add]]
          exact e2
    · have hpf := hno k (by omega) rfl
      rw [if_neg (by rw [hpf]; decide), zl0] at h1
      obtain ⟨r, e1, e2⟩ := ih acc
      refine ⟨r, ?_, ?_⟩
      · rw [if_neg h24, c1, m_b1, if_pos (by decide), m_n, show nI k + 1 = nI (k + 1) by rw [zl1, nI_add]]
        exact e1
      · rw [if_neg h24, zl5, zi_5m, m_rd (by omega) (by decide), h1, if_neg (by decide), m_n, m_n, Int32.or_zero, show nI k + 1 = nI (k + 1) by rw [zl1, nI_add]]
        exact e2
/-- the invariant, after a window's box is set -/
theorem z_finQ {B : zx_B} {S0 S' T' : zx_S} {t : ZT} (hI : ZInv B S0) (h0 : S0 12 0 = 0) (hQ : zQ 1 T' S' t) (fS : zfr [2, 6, 7, 9, 10, 11] S0 S') : ZInv (zx_sb B 0 T') S' ∧ S' 12 0 = 0 := by
  refine ⟨ZInv_mk hI (by rw [zsb_at]; exact zQ_same hQ) (fun j h1 _ => zsb_ne (by omega)) ⟨by rw [zsb_ne (by decide)], by rw [zsb_ne (by decide)]⟩ (zsb_ne (by decide)) ⟨fS 0 (by decide), fS 3 (by decide), fS 4 (by decide), fS 5 (by decide)⟩ ⟨by rw [fS 12 (by decide)], by rw [fS 12 (by decide)]⟩, ?_⟩
  rw [fS 12 (by decide)]; exact h0
theorem op_window {N : Nat} (hN : 100 < N) : zs_window N ZInv := by
  intro a b c d B S hI
  obtain ⟨t, S0, eS0, hQ, hQ0, fS0, h120, h121, h122, hI0⟩ := z_setup hI
  rcases z_isBox (N := N) (a := a) (b := b) (c := c) (d := d) with ⟨hb, i1, i2⟩ | ⟨hb, i1, i2⟩
  · obtain ⟨T1, S1, e1, e2, f1, f2, hQ1, _, _, _, _, hm⟩ := z_win (N := N) hN hQ0 hb
    have hQ1' : zQ 1 ((zx_sb B 0 T1) 0) S1 t := by rw [zsb_at]; exact hQ1
    obtain ⟨r, g1, g2⟩ := z_win_l (N := N) (B := zx_sb B 0 T1) hQ1' (by rw [zsb_at]; exact hm) 24 N N 0 0 (by omega) (by omega) (by omega)
    obtain ⟨j1, j2⟩ := z_finQ hI0 h120 hQ1 (zfr_sub f2 (by decide))
    refine ⟨(r, (0, zx_sb B 0 T1)), r, S1, ?_, ?_, j1, Or.inl ⟨rfl, j2, rfl⟩⟩
    · unfold f_X2_window
      rw [i1, m_b1, if_neg (by decide), zl48, e1, m_b1, m_n]
      exact g1
    · unfold f_X3_window
      rw [i2, m_b1, if_neg (by decide)]
      unfold f_X3_window_j17
      rw [m_ref0, m_b2, if_pos (by decide), ← eS0, e2, m_b1]
      exact g2
  · refine ⟨(0, (1, B)), 0, _, ?_, ?_, ZInv_ref (k := 1) hI, Or.inr ⟨rfl, by rw [st_at, up_at]⟩⟩
    · unfold f_X2_window
      rw [i1, m_b1, if_pos (by decide)]
    · unfold f_X3_window
      rw [i2, m_b1, if_pos (by decide)]
      unfold f_X3_window_j17
      rw [m_ref1, m_b2, if_neg (by decide)]
/-! looks -/
def zdg (t : ZT) (vis stk : List Nat) : Prop :=
  vis.Nodup ∧ stk.Nodup ∧ (∀ y, y ∈ vis → y ∉ stk) ∧ (∀ y, (y ∈ vis ∨ y ∈ stk) → zlv t y ≠ 0 ∧ (y = zrt t ∨ ∃ p, p ∈ vis ∧ 24 + y ∈ zes t p))
theorem zdg_len {t : ZT} (ht : zb t) {vis stk : List Nat} (h : zdg t vis stk) : vis.length + stk.length ≤ 24 := by
  have h1 : (vis ++ stk).Nodup := List.nodup_append.mpr ⟨h.1, h.2.1, fun a ha b hb e => h.2.2.1 a ha (e ▸ hb)⟩
  have h2 := zsub_len (m := List.range 24) h1 (fun x hx => List.mem_range.mpr (zb_lt ht (h.2.2.2 x (List.mem_append.mp hx)).1))
  rw [List.length_append, List.length_range] at h2
  exact h2
theorem zdg_step {t : ZT} (ht : zb t) (hw : zwf t [] 99 99) {vis st ks : List Nat} {x : Nat} (h : zdg t vis (st ++ [x])) (hk : ks.Nodup) (hks : ∀ c, c ∈ ks → 24 + c ∈ zes t x) : zdg t (vis ++ [x]) (st ++ ks) := by
  obtain ⟨h1, h2, h3, h4⟩ := h
  have hu := hw.1
  have h2a := List.nodup_append.mp h2
  have hxv : x ∉ vis := fun z => h3 x z (by simp)
  have hxr : x ∉ st := fun z => h2a.2.2 x z x (by simp) rfl
  have hnew : ∀ c, c ∈ ks → c ∉ vis ∧ c ≠ x ∧ c ∉ st := by
    intro c hc
    have hc2 := hks c hc
    have key : ¬ (c ∈ vis ∨ c ∈ st ++ [x]) := by
      intro z
      rcases (h4 c z).2 with e | ⟨p, hp, he⟩
      · rw [e] at hc2; exact zwf_root hw x hc2
      · have := hu.2 _ _ _ he hc2
        rw [this] at hp
        exact hxv hp
    exact ⟨fun z => key (Or.inl z), fun z => key (Or.inr (by rw [z]; simp)), fun z => key (Or.inr (List.mem_append_left _ z))⟩
  refine ⟨?_, ?_, ?_, ?_⟩
  · exact List.nodup_append.mpr ⟨h1, by simp, fun a ha b hb e => by
      have : b = x := by simpa using hb
      rw [e, this] at ha
      exact hxv ha⟩
  · exact List.nodup_append.mpr ⟨h2a.1, hk, fun a ha b hb e => (hnew b hb).2.2 (e ▸ ha)⟩
  · intro y hy z
    rcases List.mem_append.mp hy with hy | hy
    · rcases List.mem_append.mp z with z | z
      · exact h3 y hy (List.mem_append_left _ z)
      · exact (hnew y z).1 hy
    · have hyx : y = x := by simpa using hy
      rw [hyx] at z
      rcases List.mem_append.mp z with z | z
      · exact hxr z
      · exact (hnew x z).2.1 rfl
  · intro y hy
    have hold : ∀ y, (y ∈ vis ∨ y ∈ st ++ [x]) → zlv t y ≠ 0 ∧ (y = zrt t ∨ ∃ p, p ∈ vis ++ [x] ∧ 24 + y ∈ zes t p) := by
      intro y hy
      obtain ⟨a, b⟩ := h4 y hy
      exact ⟨a, b.imp id fun ⟨p, hp, he⟩ => ⟨p, List.mem_append_left _ hp, he⟩⟩
    rcases hy with hy | hy
    · rcases List.mem_append.mp hy with hy | hy
      · exact hold y (Or.inl hy)
      · have hyx : y = x := by simpa using hy
        rw [hyx]
        exact hold x (Or.inr (by simp))
    · rcases List.mem_append.mp hy with hy | hy
      · exact hold y (Or.inr (List.mem_append_left _ hy))
      · have hc2 := hks y hy
        have h7 := (ht.1 x _ hc2).2.2 (by omega)
        rw [Nat.add_sub_cancel_left] at h7
        exact ⟨h7, Or.inr ⟨x, List.mem_append_right _ (by simp), hc2⟩⟩
/-- the entries of one node -/
theorem z_look_in {N : Nat} {a b c d : Int32} {x M v : Nat} (hx : x < 24) (hM : M ≤ 5) (hv : 1 < v) (hv2 : v < 100) {K : Int32 → Int32 → Int32 → Int32 → zx_S → Option (Int32 × zx_S)} {K2 : Int32 → Int32 → Int32 → Int32 → Int32 → Int32 → zx_S → Option (Int32 × zx_S)} {v2 v4 v5 : Int32} :
    ∀ (l : List Nat) (k n n' : Nat) (T S : zx_S) (st : List Nat), l.length < n → l.length < n' → k + l.length = M → zat (T 4) (5 * (24 + x) + k) l → zat (S 1) (120 + 8 * x + 2 + k) l → S 1 (120 + 8 * x + 1) = nI M → S 1 (120 + 8 * x) = nI v → st.length + l.length ≤ 24 → zat (T 9) 0 (st.map (fun s => 24 + s)) → zat (S 11) 0 st → l.Nodup → (∀ e, e ∈ l → 24 ≤ e ∧ e < 48 ∧ zmeet N T S a b c d e) →
    ∃ T' S' ks, f_X1_lookedAt_l76 N K n (nI 48) v2 (nI st.length) v4 (nI (24 + x)) (nI M) (nI k) T = K (nI 48) v2 (nI (st.length + ks.length)) (v4 + nI 1) T' ∧ f_X3_looks_l76 N K2 n' a b c d v5 (nI st.length) (nI x) (nI k) S = K2 a b c d v5 (nI (st.length + ks.length)) S' ∧ zat (T' 9) 0 ((st ++ ks).map (fun s => 24 + s)) ∧ zat (S' 11) 0 (st ++ ks) ∧ ks.Nodup ∧ (∀ c, c ∈ ks → 24 + c ∈ l) ∧ zfr [9] T T' ∧ zfr [11] S S'
  | [], k, n + 1, n' + 1, T, S, st, hn, hn', hk, hz, hz2, hm, hlv, hs, h9, h11, hnd, he => by
    rw [List.length_nil, Nat.add_zero] at hk
    refine ⟨T, S, [], ?_, ?_, by rw [List.append_nil]; exact h9, by rw [List.append_nil]; exact h11, List.nodup_nil, fun c hc => absurd hc (List.not_mem_nil), zfr_refl, zfr_refl⟩
    · rw [f_X1_lookedAt_l76, if_pos (by rw [nI_leI (by omega) (by omega)]; omega), m_n]
      rfl
    · rw [f_X3_looks_l76, r_many (by omega), m_b1, hm, if_pos (by rw [nI_leI (by omega) (by omega)]; omega)]
      rfl
  | e :: l, k, n + 1, n' + 1, T, S, st, hn, hn', hk, hz, hz2, hm, hlv, hs, h9, h11, hnd, he => by
    rw [List.length_cons] at hn hn' hk hs
    have h1 : T 4 (5 * (24 + x) + k) = nI e := hz.1
    have h2 : S 1 (120 + 8 * x + 2 + k) = nI e := hz2.1
    obtain ⟨e24, e48, em⟩ := he e (List.mem_cons_self ..)
    have hnd2 := List.nodup_cons.mp hnd
    have hlo := r_levelOf (N := N) (r := S 1) (s := x) (v := v) (by omega) hlv (by omega)
    have hMk : ¬ nI M ≤ nI k := by rw [nI_leI (by omega) (by omega)]; omega
    have hl0 : ¬ nI (v - 1) ≤ (0 : Int32) := by rw [zl0, nI_leI (by omega) (by omega)]; omega
    have g1 : f_X2_get N 245 (nI (24 + x) * 5 + nI k) (T 4) = some (nI e) := by
      simp (disch := omega) only [↓zlm1, ↓zlm2, zi_e1, zi_e2, zi_1e, zi_12, zi_21, zi_1n, zi_n1, if_true, if_false, eq_self, not_false_eq_true, not_true_eq_false, nI_add, zi_4m, zi_5m, zi_8m, zi_mul4, zi_mul5, zi_sub, nI_leI, nI_ltI, nI_eq, zl0, zl1, zl2, zl3, zl4, zl5, zl6, zl8, zl9, zl24, zl32, zl48, zl49, zl99, zl100, zl120, zl376, zl377, zl378, zl379, zl380, ↓zi_192, zi_dec, Nat.add_zero, Nat.zero_add, m_n, m_b1, m_b2, m_rd, m_wr, m_get, m_put, nI_clamp, st_at, st_ne, up_at, up_ne, if_pos, if_neg, h1]
    have g2 : f_X3_entryOf N 380 (nI x) (nI k) (S 1) = some (nI e) := by rw [r_entryOf (by omega) (by omega), h2]
    rw [f_X1_lookedAt_l76, if_neg hMk, g1, m_b1, m_common (by omega) (by omega), m_b1, f_X3_looks_l76, r_many (by omega), m_b1, hm, if_neg hMk, hlo, m_b1, if_neg hl0, g2, m_b1]
    unfold f_X1_lookedAt_j122 f_X3_looks_j149
    rw [show nI k + 1 = nI (k + 1) by rw [zl1, nI_add]]
    rcases em S rfl with ⟨q1, q2⟩ | ⟨q1, q2⟩
    · obtain ⟨T', S', ks, a1, a2, a3, a4, a5, a6, a7, a8⟩ := z_look_in (N := N) hx hM hv hv2 (K := K) (K2 := K2) (v2 := v2) (v4 := v4) (v5 := v5) l (k + 1) n n' T S st (by omega) (by omega) (by omega) hz.2 hz2.2 hm hlv (by omega) h9 h11 hnd2.2 (fun e h => he e (List.mem_cons_of_mem _ h))
      refine ⟨T', S', ks, ?_, ?_, a3, a4, a5, fun c hc => List.mem_cons_of_mem _ (a6 c hc), a7, a8⟩
      · rw [if_pos q1, m_n]; exact a1
      · rw [q2, m_b1, if_pos (by decide), m_n]; exact a2
    · obtain ⟨T1, eT1⟩ : ∃ T1, T1 = zx_st T 9 (upd (T 9) st.length (nI e)) := ⟨_, rfl⟩
      obtain ⟨S1, eS1⟩ : ∃ S1, S1 = zx_st S 11 (upd (S 11) st.length (nI (e - 24))) := ⟨_, rfl⟩
      have fT : zfr [9] T T1 := by rw [eT1]; exact zfr_st (by simp) zfr_refl
      have fS : zfr [11] S S1 := by rw [eS1]; exact zfr_st (by simp) zfr_refl
      have k9 : zat (T1 9) 0 ((st ++ [e - 24]).map (fun s => 24 + s)) := by
        rw [eT1, st_at, List.map_append]
        refine zat_app.mpr ⟨zat_congr (fun j h1 h2 => up_ne (by rw [List.length_map] at h2; omega)) h9, ?_, trivial⟩
        rw [List.length_map, Nat.zero_add, up_at]
        show nI e = nI (24 + (e - 24))
        rw [show 24 + (e - 24) = e by omega]
      have k11 : zat (S1 11) 0 (st ++ [e - 24]) := by
        rw [eS1, st_at]
        refine zat_app.mpr ⟨zat_congr (fun j h1 h2 => up_ne (by omega)) h11, ?_, trivial⟩
        rw [Nat.zero_add, up_at]
      have hS1 : S1 1 = S 1 := fS 1 (by decide)
      have hl1 : (st ++ [e - 24]).length = st.length + 1 := by simp
      obtain ⟨T', S', ks, a1, a2, a3, a4, a5, a6, a7, a8⟩ := z_look_in (N := N) hx hM hv hv2 (K := K) (K2 := K2) (v2 := v2) (v4 := v4) (v5 := v5) l (k + 1) n n' T1 S1 (st ++ [e - 24]) (by omega) (by omega) (by omega) (by rw [fT 4 (by decide)]; exact hz.2) (by rw [hS1]; exact hz2.2) (by rw [hS1]; exact hm) (by rw [hS1]; exact hlv) (by rw [hl1]; omega) k9 k11 hnd2.2 (fun y h => by
        obtain ⟨b1, b2, b3⟩ := he y (List.mem_cons_of_mem _ h)
        refine ⟨b1, b2, fun S' hS' => ?_⟩
        rw [fT 0 (by decide)]
        exact b3 S' (by rw [hS', fS 6 (by decide)]))
      rw [List.append_assoc] at a3 a4
      rw [hl1] at a1 a2
      refine ⟨T', S', [e - 24] ++ ks, ?_, ?_, a3, a4, ?_, ?_, zfr_trans fT a7, zfr_trans fS a8⟩
      · rw [if_neg q1, m_put (by omega) (by decide), m_b1, m_n, m_n, ← eT1, show nI st.length + 1 = nI (st.length + 1) by rw [zl1, nI_add], m_n, a1]
        rw [List.length_append, show ([e - 24] : List Nat).length = 1 from rfl, Nat.add_assoc]
      · rw [q2, m_b1, if_neg (by decide), m_b1, m_wr (by omega) (by decide), nI_clamp (by omega), zl24, zi_sub e24, ← eS1, m_n, show nI st.length + 1 = nI (st.length + 1) by rw [zl1, nI_add], m_n, a2]
        rw [List.length_append, show ([e - 24] : List Nat).length = 1 from rfl, Nat.add_assoc]
      · refine List.nodup_append.mpr ⟨by simp, a5, fun y hy z hz e2 => ?_⟩
        have hy2 : y = e - 24 := by simpa using hy
        have := a6 z hz
        rw [← e2, hy2, show 24 + (e - 24) = e by omega] at this
        exact hnd2.1 this
      · intro y hy
        rcases List.mem_append.mp hy with hy | hy
        · have hy2 : y = e - 24 := by simpa using hy
          rw [hy2, show 24 + (e - 24) = e by omega]
          exact List.mem_cons_self ..
        · exact List.mem_cons_of_mem _ (a6 y hy)
theorem z_look_l {N : Nat} (hN : 100 < N) {a b c d : Int32} {t : ZT} (ht : zb t) (hw : zwf t [] 99 99) : ∀ (x n n' : Nat) (vis st : List Nat) (T S : zx_S), vis.length + x = 24 → x < n → x < n' → zdg t vis st → zcx T t [] → zref (S 1) t → zat (T 9) 0 (st.map (fun s => 24 + s)) → zat (S 11) 0 st → (∀ e, zgd t e → zmeet N T S a b c d e) →
    ∃ r T' S', f_X1_lookedAt_l19 N n (nI 48) (nI vis.length) (nI st.length) (nI vis.length) T = some (r, T') ∧ f_X3_looks_l53 N n' a b c d (nI vis.length) (nI st.length) S = some (r, S') ∧ zfr [9] T T' ∧ zfr [11] S S'
  | x, n + 1, n' + 1, vis, st, T, S, hv, hn, hn', hd, hT, hr, h9, h11, hm => by
    have hlen := zdg_len ht hd
    rcases List.eq_nil_or_concat st with e | ⟨st', y, e⟩
    · subst e
      refine ⟨nI vis.length, T, S, ?_, ?_, zfr_refl, zfr_refl⟩
      · rw [f_X1_lookedAt_l19, List.length_nil]
        by_cases h24 : 24 ≤ vis.length
        · rw [if_pos (by rw [zl24, nI_leI (by omega) (by omega)]; exact h24)]
        · rw [if_neg (by rw [zl24, nI_leI (by omega) (by omega)]; exact h24), if_pos (by decide)]
      · rw [f_X3_looks_l53, List.length_nil, if_pos (by decide)]
    · rw [List.concat_eq_append] at e
      subst e
      rw [List.length_append, show ([y] : List Nat).length = 1 from rfl] at hlen
      match x, hv, hn, hn' with
      | 0, hv, hn, hn' => omega
      | x + 1, hv, hn, hn' =>
        have hy0 := (hd.2.2.2 y (Or.inr (by simp))).1
        have hy := zb_lt ht hy0
        have h6 := ht.2.2.2.2 y
        have h5 := ht.2.2.2.1 y
        have hl1 := hT.2.1 y hy
        rw [if_neg hy0] at hl1
        have hl3 := hT.2.2.1 y hy hy0
        have hmn := hr.2.2.2.1 y (by omega)
        have hlv := hr.2.2.1 y (by omega)
        rw [List.map_append] at h9
        have h9a := zat_app.mp h9
        have h11a := zat_app.mp h11
        have htop : T 9 st'.length = nI (24 + y) := by
          have := h9a.2.1
          rw [List.length_map, Nat.zero_add] at this
          exact this
        have htop2 : S 11 st'.length = nI y := by
          have := h11a.2.1
          rw [Nat.zero_add] at this
          exact this
        have hst : (st' ++ [y]).length = st'.length + 1 := by simp
        have hvl : (vis ++ [y]).length = vis.length + 1 := by simp
        have c1 : ¬ (24 : Int32) ≤ nI vis.length := by rw [zl24, nI_leI (by omega) (by omega)]; omega
        have c2 : ¬ nI (st'.length + 1) ≤ (0 : Int32) := by rw [zl0, nI_leI (by omega) (by omega)]; omega
        have c3 : nI (st'.length + 1) + -1 = nI st'.length := by rw [zlm1, zi_dec (by omega), Nat.add_sub_cancel]
        have c4 : nI vis.length + 1 = nI (vis.length + 1) := by rw [zl1, nI_add]
        rw [f_X1_lookedAt_l19, hst, if_neg c1, if_neg c2, m_n, c3, m_get (by omega) (by decide), m_b1, htop, m_n, c4, m_get (by omega) (by decide), m_b1, hl1, f_X3_looks_l53, if_neg c2, m_n, c3, m_rd (by omega) (by decide), htop2, m_n, c4]
        unfold f_X1_lookedAt_j71
        by_cases hl : zlv t y ≤ 1
        · rw [if_pos (by rw [zl0, nI_leI (by omega) (by omega)]; omega)]
          obtain ⟨r, T', S', a1, a2, a3, a4⟩ := z_look_l hN ht hw x n n' (vis ++ [y]) (st' ++ []) T S (by rw [hvl]; omega) (by omega) (by omega) (zdg_step ht hw hd List.nodup_nil (fun c hc => absurd hc (List.not_mem_nil))) hT hr (by rw [List.append_nil]; exact h9a.1) (by rw [List.append_nil]; exact h11a.1) hm
          rw [List.append_nil, hvl] at a1 a2
          refine ⟨r, T', S', ?_, ?_, a3, a4⟩
          · obtain ⟨n2, hn2⟩ : ∃ n2, N = n2 + 1 := ⟨N - 1, by omega⟩
            rw [hn2, f_X1_lookedAt_l76, ← hn2, if_pos (by decide), m_n, c4]
            exact a1
          · obtain ⟨n2, hn2⟩ : ∃ n2, N = n2 + 1 := ⟨N - 1, by omega⟩
            rw [hn2, f_X3_looks_l76, ← hn2, r_many (by omega), m_b1, hmn]
            unfold f_X3_looks_j155
            by_cases h0 : (zes t y).length = 0
            · rw [h0, if_pos (by decide)]; exact a2
            · rw [if_neg (by rw [zl0, nI_leI (by omega) (by omega)]; omega), r_levelOf (by omega) hlv (by omega), m_b1, if_pos (by rw [zl0, nI_leI (by omega) (by omega)]; omega)]
              exact a2
        · rw [if_neg (by rw [zl0, nI_leI (by omega) (by omega)]; omega), m_get (by omega) (by decide), m_b1, hl3]
          have hg := zwf_zg hw (zwf_un24 hw)
          have hfull := zdg_len ht (zdg_step ht hw hd (zkd_nd ht hw.1) (fun c hc => (zkd_mem ht).mp hc))
          have hkl : (zkd t y).length = (zes t y).length := by unfold zkd; rw [if_neg hl, List.length_map]
          rw [List.length_append, List.length_append, hkl] at hfull
          obtain ⟨T1, S1, ks, a1, a2, a3, a4, a5, a6, a7, a8⟩ := z_look_in (N := N) (a := a) (b := b) (c := c) (d := d) (x := y) (M := (zes t y).length) (v := zlv t y) hy h5 (by omega) (by omega) (K := f_X1_lookedAt_l19 N n) (K2 := f_X3_looks_l53 N n') (v2 := nI (vis.length + 1)) (v4 := nI vis.length) (v5 := nI (vis.length + 1)) (zes t y) 0 N N T S st' (by omega) (by omega) (by omega) (by rw [Nat.add_zero]; exact hT.2.2.2.1 y hy) (by rw [Nat.add_zero]; exact hr.2.2.2.2.1 y (by omega)) hmn hlv (by omega) h9a.1 h11a.1 (hw.1.1 y) (fun e he => ⟨zkd_ge ht hl he, (ht.1 y e he).1, hm e (hg y e he)⟩)
          have hT1 : zcx T1 t [] := zcx_keep hT (a7 1 (by decide)) (a7 2 (by decide)) (a7 3 (by decide)) (a7 4 (by decide)) (by rw [a7 10 (by decide)])
          obtain ⟨r, T', S', b1, b2, b3, b4⟩ := z_look_l hN ht hw x n n' (vis ++ [y]) (st' ++ ks) T1 S1 (by rw [hvl]; omega) (by omega) (by omega) (zdg_step ht hw hd a5 a6) hT1 (by rw [a8 1 (by decide)]; exact hr) a3 a4 (fun e he S' hS' => by
            rw [a7 0 (by decide)]
            exact hm e he S' (by rw [hS', a8 6 (by decide)]))
          rw [hvl, List.length_append] at b1 b2
          refine ⟨r, T', S', ?_, ?_, zfr_trans a7 b3, zfr_trans a8 b4⟩
          · rw [zl0, a1, nI_add]; exact b1
          · rw [zl0, a2]; exact b2
theorem op_looks {N : Nat} (hN : 100 < N) : zs_looks N ZInv := by
  intro a b c d B S hI
  obtain ⟨t, S0, eS0, hQ, hQ0, fS0, h120, h121, h122, hI0⟩ := z_setup hI
  rcases z_isBox (N := N) (a := a) (b := b) (c := c) (d := d) with ⟨hb, i1, i2⟩ | ⟨hb, i1, i2⟩
  · obtain ⟨T1, S1, e1, e2, f1, f2, hQ1, _, _, _, _, hm⟩ := z_win (N := N) hN hQ0 hb
    have hR := zwf_lv hQ1.2.2.1 (by decide)
    have ht := zwf_zb hQ1.2.2.1 (by omega)
    obtain ⟨T2, eT2⟩ : ∃ T2, T2 = zx_st T1 9 (upd (T1 9) 0 (nI (24 + zrt t))) := ⟨_, rfl⟩
    obtain ⟨S2, eS2⟩ : ∃ S2, S2 = zx_st S1 11 (upd (S1 11) 0 (nI (zrt t))) := ⟨_, rfl⟩
    have fT : zfr [9] T1 T2 := by rw [eT2]; exact zfr_st (by simp) zfr_refl
    have fS : zfr [11] S1 S2 := by rw [eS2]; exact zfr_st (by simp) zfr_refl
    have hQ2 : zQ 1 T2 S2 t := zQ_fr hQ1 (zfr_sub fT (by decide)) (fS 1 (by decide))
    have hroot : T1 10 0 = nI (24 + zrt t) := hQ1.1.2.2.2.2.2.2
    have hroot2 : S1 1 376 = nI (zrt t) := hQ1.2.1.2.2.2.2.2
    have hd : zdg t [] [zrt t] := by
      have := zdf_init hQ1.2.2.1
      exact ⟨this.1, this.2.1, this.2.2.1, this.2.2.2.1⟩
    obtain ⟨r, T3, S3, a1, a2, a3, a4⟩ := z_look_l (N := N) (a := a) (b := b) (c := c) (d := d) hN ht hQ1.2.2.1 24 N N [] [zrt t] T2 S2 rfl (by omega) (by omega) hd hQ2.1 hQ2.2.1 ⟨by rw [eT2, st_at, up_at], trivial⟩ ⟨by rw [eS2, st_at, up_at], trivial⟩ (fun e he S' hS' => by
      rw [fT 0 (by decide)]
      exact hm e he S' (by rw [hS', fS 6 (by decide)]))
    have hQ3 : zQ 1 T3 S3 t := zQ_fr hQ2 (zfr_sub a3 (by decide)) (a4 1 (by decide))
    obtain ⟨j1, j2⟩ := z_finQ hI0 h120 hQ3 (zfr_trans (zfr_sub f2 (by decide)) (zfr_trans (zfr_sub fS (by decide)) (zfr_sub a4 (by decide))))
    refine ⟨(r, (0, zx_sb B 0 T3)), r, S3, ?_, ?_, j1, Or.inl ⟨rfl, j2, rfl⟩⟩
    · unfold f_X2_looks f_X1_lookedAt
      rw [i1, m_b1, if_neg (by decide), zl48, e1, m_b1, m_n, zsb_at, hroot, zl0, m_put (by decide) (by decide), m_b1, m_n, ← eT2]
      simp only [List.length_nil] at a1
      rw [show nI [zrt t].length = 1 from rfl] at a1
      rw [a1, m_b2, m_n, zsb_sb]
    · unfold f_X3_looks
      rw [i2, m_b1, if_neg (by decide)]
      unfold f_X3_looks_j17
      rw [m_ref0, m_b2, if_pos (by decide), ← eS0, e2, m_b1, zl376, m_rd (by decide) (by decide), hroot2, zl0, m_wr (by decide) (by decide), nI_clamp (by decide), ← eS2]
      simp only [List.length_nil] at a2
      rw [show nI [zrt t].length = 1 from rfl] at a2
      exact a2
  · refine ⟨(0, (1, B)), 0, _, ?_, ?_, ZInv_ref (k := 1) hI, Or.inr ⟨rfl, by rw [st_at, up_at]⟩⟩
    · unfold f_X2_looks
      rw [i1, m_b1, if_pos (by decide)]
    · unfold f_X3_looks
      rw [i2, m_b1, if_pos (by decide)]
      unfold f_X3_looks_j17
      rw [m_ref1, m_b2, if_neg (by decide)]
