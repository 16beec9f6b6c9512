/-! boxes that are laid anew, and boxes that are kept, agree -/
def zgd (t : ZT) (c : Nat) : Prop := (c < 24 ∧ zpr t c = true) ∨ (24 ≤ c ∧ c < 48 ∧ zlv t (c - 24) ≠ 0 ∧ zes t (c - 24) ≠ [])
def zg (t : ZT) : Prop := ∀ s e, e ∈ zes t s → zgd t e
def zcr (t : ZT) : Prop := ∀ c, c < 24 → zpr t c = true → 0 ≤ (zrc t c 0).toInt ∧ (zrc t c 0).toInt ≤ (zrc t c 2).toInt ∧ (zrc t c 2).toInt ≤ 99 ∧ 0 ≤ (zrc t c 1).toInt ∧ (zrc t c 1).toInt ≤ (zrc t c 3).toInt ∧ (zrc t c 3).toInt ≤ 99
theorem zagree {f g : Nat → Int32} {t : ZT} (ht : zb t) (hg : zg t) (hf : zrb f t) (hg2 : zrb g t) : ∀ (L : Nat), (∀ s, zlv t s ≠ 0 → zlv t s ≤ L → zLC f t s ∧ zLC g t s) → ∀ c, zil t c ≤ L → zgd t c → ∀ k, k < 4 → f (4 * c + k) = g (4 * c + k)
  | L, hL, c, hc, hgd, k, hk => by
    rcases hgd with ⟨h1, h2⟩ | ⟨h1, h2, h3, h4⟩
    · rw [hf c k h1 hk h2, hg2 c k h1 hk h2]
    · have hil : zil t c = zlv t (c - 24) := by unfold zil; rw [if_neg (by omega)]
      match L, hL, hc with
      | 0, _, hc => omega
      | L + 1, hL, hc =>
        obtain ⟨e1, e2⟩ := hL (c - 24) h3 (by omega)
        have q1 := e1 h4 k hk
        have q2 := e2 h4 k hk
        rw [show 24 + (c - 24) = c by omega] at q1 q2
        rw [q1, q2]
        refine zjn_congr (fun e he => ?_)
        have h5 := (ht.1 _ e he).2.1
        exact zagree ht hg hf hg2 L (fun s z1 z2 => hL s z1 (by omega)) e (by omega) (hg _ e he) k hk
theorem zbounds {f : Nat → Int32} {t : ZT} (ht : zb t) (hg : zg t) (hf : zrb f t) (hc0 : zcr t) : ∀ (L : Nat), (∀ s, zlv t s ≠ 0 → zlv t s ≤ L → zLC f t s) → ∀ c, zil t c ≤ L → zgd t c → zbd f c
  | L, hL, c, hc, hgd => by
    intro k hk
    rcases hgd with ⟨h1, h2⟩ | ⟨h1, h2, h3, h4⟩
    · rw [hf c k h1 hk h2]
      obtain ⟨a1, a2, a3, a4, a5, a6⟩ := hc0 c h1 h2
      match k, hk with
      | 0, _ => omega
      | 1, _ => omega
      | 2, _ => omega
      | 3, _ => omega
    · have hil : zil t c = zlv t (c - 24) := by unfold zil; rw [if_neg (by omega)]
      match L, hL, hc with
      | 0, _, hc => omega
      | L + 1, hL, hc =>
        have q1 := hL (c - 24) h3 (by omega) h4 k hk
        rw [show 24 + (c - 24) = c by omega] at q1
        rw [q1]
        refine zjn_b (fun e he => ?_) h4
        have h5 := (ht.1 _ e he).2.1
        exact zbounds ht hg hf hc0 L (fun s z1 z2 => hL s z1 (by omega)) e (by omega) (hg _ e he) k hk
theorem zar_cg {f g : Nat → Int32} {c c' : Nat} (h : ∀ k, k < 4 → f (4 * c + k) = g (4 * c' + k)) : zar f c = zar g c' := by
  unfold zar
  rw [h 2 (by decide), h 3 (by decide), h 1 (by decide)]
  have := h 0 (by decide)
  rw [Nat.add_zero, Nat.add_zero] at this
  rw [this]
theorem zja_cg {f g : Nat → Int32} {c c' d d' : Nat} (h : ∀ k, k < 4 → f (4 * c + k) = g (4 * c' + k)) (h2 : ∀ k, k < 4 → f (4 * d + k) = g (4 * d' + k)) : zja f c d = zja g c' d' := by
  unfold zja
  rw [h 2 (by decide), h 3 (by decide), h 1 (by decide), h2 2 (by decide), h2 3 (by decide), h2 1 (by decide)]
  have := h 0 (by decide)
  have h3 := h2 0 (by decide)
  rw [Nat.add_zero, Nat.add_zero] at this h3
  rw [this, h3]
theorem zcc_cg {f g : Nat → Int32} {c c' d d' : Nat} (h : ∀ k, k < 4 → f (4 * c + k) = g (4 * c' + k)) (h2 : ∀ k, k < 4 → f (4 * d + k) = g (4 * d' + k)) : zcc f c d = zcc g c' d' := by
  have := h 0 (by decide)
  have h3 := h2 0 (by decide)
  rw [Nat.add_zero, Nat.add_zero] at this h3
  unfold zcc zcw zch
  rw [h 2 (by decide), h 3 (by decide), h 1 (by decide), h2 2 (by decide), h2 3 (by decide), h2 1 (by decide), this, h3]
theorem zmd_cg {f g : Nat → Int32} {c c' d d' : Nat} (h : ∀ k, k < 4 → f (4 * c + k) = g (4 * c' + k)) (h2 : ∀ k, k < 4 → f (4 * d + k) = g (4 * d' + k)) : zmd f c d = zmd g c' d' := by
  have := h 0 (by decide)
  have h3 := h2 0 (by decide)
  rw [Nat.add_zero, Nat.add_zero] at this h3
  unfold zmd
  rw [h 2 (by decide), h 3 (by decide), h 1 (by decide), h2 2 (by decide), h2 3 (by decide), h2 1 (by decide), this, h3]
/-- a node that hangs from the root, k steps below -/
def zhn (t : ZT) : Nat → Nat → Prop
  | 0, s => s = zrt t
  | k + 1, s => s = zrt t ∨ ∃ p, 24 + s ∈ zes t p ∧ zhn t k p
theorem zhn_keep {t t' : ZT} {L : Nat} (ht : zb t) (hr : zrt t' = zrt t) (h : ∀ j, L < zlv t j → ∀ x, x ∈ zes t j → x ∈ zes t' j) : ∀ (k s : Nat), L ≤ zlv t s → zhn t k s → zhn t' k s
  | 0, s, _, hc => by rw [zhn] at hc ⊢; rw [hr]; exact hc
  | k + 1, s, hl, hc => by
    rw [zhn] at hc ⊢
    rcases hc with z | ⟨p, z1, z2⟩
    · exact Or.inl (by rw [hr]; exact z)
    · have h1 := (ht.1 p _ z1).2.1
      unfold zil at h1
      rw [if_neg (by omega), Nat.add_sub_cancel_left] at h1
      exact Or.inr ⟨p, h p (by omega) _ z1, zhn_keep ht hr h k p (by omega) z2⟩
theorem zhn_up {t : ZT} {k s : Nat} (hc : zhn t k s) (hs : s ≠ zrt t) : ∃ p k', 24 + s ∈ zes t p ∧ zhn t k' p := by
  cases k with
  | zero => rw [zhn] at hc; exact absurd hc hs
  | succ k =>
    rw [zhn] at hc
    rcases hc with z | ⟨p, z1, z2⟩
    · exact absurd z hs
    · exact ⟨p, k, z1, z2⟩
/-- both go down the same way -/
theorem z_reach {N w : Nat} (hN : 100 < N) {T S : zx_S} {t : ZT} {X : List Nat} (hT : zcx T t X) (hr : zref (S w) t) (ht : zb t) (hg : zg t) (hA : ∀ e, zgd t e → zbd (T 0) e ∧ ∀ k, k < 4 → T 0 (4 * e + k) = S 6 (4 * e + k)) (hne : ∀ s, 1 < zlv t s → zes t s ≠ []) {c c' v : Nat} (hc : c < 49) (hc' : c' < 56) (hcb : zbd (T 0) c) (hcc : ∀ k, k < 4 → T 0 (4 * c + k) = S 6 (4 * c' + k)) (hv : 1 ≤ v) : ∀ (d n n' s step : Nat), d < n → d < n' → s < 24 → zlv t s = v + d → step + d ≤ 8 → (∃ k, zhn t k s) →
    ∃ s', (s' < 24 ∧ ∃ k, zhn t k s') ∧ zlv t s' = v ∧ f_X1_reached_l8 N T n (nI c) (nI (v - 1)) (nI (24 + s)) (nI step) = some (nI (24 + s')) ∧ f_X3_reach_l7 N w S n' (nI c') (nI (v - 1)) (nI s) = some (nI s')
  | 0, n + 1, n' + 1, s, step, _, _, hs, hl, hst, hch => by
    have h1 := hT.2.1 s hs
    rw [if_neg (by omega)] at h1
    have hlv := ht.2.2.2.2 s
    have hlo := r_levelOf (N := N) (r := S w) (s := s) (v := zlv t s) (by omega) (hr.2.2.1 s (by omega)) (by omega)
    refine ⟨s, ⟨hs, hch⟩, hl, ?_, ?_⟩
    · rw [f_X1_reached_l8]
      by_cases h8 : 8 ≤ step
      · simp (disch := omega) only [↓zlm1, ↓zlm2, zi_e1, zi_e2, zi_1e, zi_12, zi_21, zi_1n, zi_n1, if_true, if_false, eq_self, not_false_eq_true, not_true_eq_false, nI_add, zi_4m, zi_5m, zi_8m, zi_mul4, zi_mul5, zi_sub, nI_leI, nI_ltI, nI_eq, zl0, zl1, zl2, zl3, zl4, zl5, zl6, zl8, zl9, zl24, zl32, zl48, zl49, zl99, zl100, zl120, zl376, zl377, zl378, zl379, zl380, ↓zi_192, zi_dec, Nat.add_zero, Nat.zero_add, m_n, m_b1, m_b2, m_rd, m_wr, m_get, m_put, nI_clamp, st_at, st_ne, up_at, up_ne, if_pos, if_neg]
      · simp (disch := omega) only [↓zlm1, ↓zlm2, zi_e1, zi_e2, zi_1e, zi_12, zi_21, zi_1n, zi_n1, if_true, if_false, eq_self, not_false_eq_true, not_true_eq_false, nI_add, zi_4m, zi_5m, zi_8m, zi_mul4, zi_mul5, zi_sub, nI_leI, nI_ltI, nI_eq, zl0, zl1, zl2, zl3, zl4, zl5, zl6, zl8, zl9, zl24, zl32, zl48, zl49, zl99, zl100, zl120, zl376, zl377, zl378, zl379, zl380, ↓zi_192, zi_dec, Nat.add_zero, Nat.zero_add, m_n, m_b1, m_b2, m_rd, m_wr, m_get, m_put, nI_clamp, st_at, st_ne, up_at, up_ne, if_pos, if_neg, h1]
    · rw [f_X3_reach_l7]
      simp (disch := omega) only [↓zlm1, ↓zlm2, zi_e1, zi_e2, zi_1e, zi_12, zi_21, zi_1n, zi_n1, if_true, if_false, eq_self, not_false_eq_true, not_true_eq_false, nI_add, zi_4m, zi_5m, zi_8m, zi_mul4, zi_mul5, zi_sub, nI_leI, nI_ltI, nI_eq, zl0, zl1, zl2, zl3, zl4, zl5, zl6, zl8, zl9, zl24, zl32, zl48, zl49, zl99, zl100, zl120, zl376, zl377, zl378, zl379, zl380, ↓zi_192, zi_dec, Nat.add_zero, Nat.zero_add, m_n, m_b1, m_b2, m_rd, m_wr, m_get, m_put, nI_clamp, st_at, st_ne, up_at, up_ne, if_pos, if_neg, hlo]
  | d + 1, n + 1, n' + 1, s, step, hn, hn', hs, hl, hst, hch => by
    have h1 := hT.2.1 s hs
    rw [if_neg (by omega)] at h1
    have hlv := ht.2.2.2.2 s
    have hl5 := ht.2.2.2.1 s
    have hlo := r_levelOf (N := N) (r := S w) (s := s) (v := zlv t s) (by omega) (hr.2.2.1 s (by omega)) (by omega)
    rcases hes : zes t s with _ | ⟨b, l⟩
    · exact absurd hes (hne s (by omega))
    · have hin : ∀ x, x ∈ b :: l → 24 ≤ x ∧ x < 48 ∧ zlv t (x - 24) = v + d := by
        intro x hx
        have := ht.1 s x (by rw [hes]; exact hx)
        unfold zil at this
        by_cases h24 : x < 24
        · rw [if_pos h24] at this; omega
        · rw [if_neg h24] at this; omega
      have hz := hT.2.2.2.1 s hs
      have hs3 := hT.2.2.1 s hs (by omega)
      have hr1 := hr.2.2.2.1 s (by omega)
      have hz1 := hr.2.2.2.2.1 s (by omega)
      have hag : ∀ x, x ∈ b :: l → zgd t x := fun x hx => hg s x (by rw [hes]; exact hx)
      rw [hes] at hz hs3 hr1 hz1 hl5
      have kb := m_branch (N := N) hN (T := T) (a := 24 + s) (c := c) (b := b) (l := l) (by omega) hc hs3 hl5 hz hcb (fun x hx => ⟨by have := hin x hx; omega, (hA x (hag x hx)).1⟩)
      have kr := d_reach1 (N := N) (w := w) hN (S := S) (K := f_X3_reach_l7 N w S n') (s := s) (c := c') (b := b) (v3 := nI (v - 1)) (l := l) (by omega) hc' hr1 hl5 hz1 (fun x hx => by have := hin x hx; omega)
      have hcg : zfd (zbr (T 0) c) b l = zfd (zbr (S 6) c') b l := by
        refine zfd_congr (fun x y hx hy => ?_)
        have gx := (hA x (hag x hx)).2
        have gy := (hA y (hag y hy)).2
        unfold zbr
        rw [zja_cg gx hcc, zja_cg gy hcc, zar_cg gx, zar_cg gy]
      have hm := hin _ (zfd_mem (p := zbr (T 0) c) (l := l) (b := b))
      rw [← hcg] at kr
      obtain ⟨e, he⟩ : ∃ e, zfd (zbr (T 0) c) b l = 24 + e := ⟨zfd (zbr (T 0) c) b l - 24, by omega⟩
      have hem := zfd_mem (p := zbr (T 0) c) (l := l) (b := b)
      rw [he, ← hes] at hem
      rw [he] at kb kr hm
      rw [Nat.add_sub_cancel_left] at kr hm
      obtain ⟨s', r1, r2, r3, r4⟩ := z_reach hN hT hr ht hg hA hne hc hc' hcb hcc hv d n n' e (step + 1) (by omega) (by omega) (by omega) (by omega) (by omega) (by obtain ⟨k, hk⟩ := hch; exact ⟨k + 1, by rw [zhn]; exact Or.inr ⟨s, hem, hk⟩⟩)
      refine ⟨s', r1, r2, ?_, ?_⟩
      · rw [f_X1_reached_l8]
        simp (disch := omega) only [↓zlm1, ↓zlm2, zi_e1, zi_e2, zi_1e, zi_12, zi_21, zi_1n, zi_n1, if_true, if_false, eq_self, not_false_eq_true, not_true_eq_false, nI_add, zi_4m, zi_5m, zi_8m, zi_mul4, zi_mul5, zi_sub, nI_leI, nI_ltI, nI_eq, zl0, zl1, zl2, zl3, zl4, zl5, zl6, zl8, zl9, zl24, zl32, zl48, zl49, zl99, zl100, zl120, zl376, zl377, zl378, zl379, zl380, ↓zi_192, zi_dec, Nat.add_zero, Nat.zero_add, m_n, m_b1, m_b2, m_rd, m_wr, m_get, m_put, nI_clamp, st_at, st_ne, up_at, up_ne, if_pos, if_neg, h1, kb, r3]
      · rw [f_X3_reach_l7]
        simp (disch := omega) only [↓zlm1, ↓zlm2, zi_e1, zi_e2, zi_1e, zi_12, zi_21, zi_1n, zi_n1, if_true, if_false, eq_self, not_false_eq_true, not_true_eq_false, nI_add, zi_4m, zi_5m, zi_8m, zi_mul4, zi_mul5, zi_sub, nI_leI, nI_ltI, nI_eq, zl0, zl1, zl2, zl3, zl4, zl5, zl6, zl8, zl9, zl24, zl32, zl48, zl49, zl99, zl100, zl120, zl376, zl377, zl378, zl379, zl380, ↓zi_192, zi_dec, Nat.add_zero, Nat.zero_add, m_n, m_b1, m_b2, m_rd, m_wr, m_get, m_put, nI_clamp, st_at, st_ne, up_at, up_ne, if_pos, if_neg, hlo]
        rw [← zlm1, zlm1, kr, r4]
/-- the farthest entry -/
def zfa (f : Nat → Int32) (n e b : Nat) : Bool := decide (zmd f b n < zmd f e n)
theorem zfa_t {f : Nat → Int32} {n e b : Nat} : zfa f n e b = true ↔ zmd f b n < zmd f e n := by
  unfold zfa
  exact decide_eq_true_iff
theorem m_far_l {N : Nat} {T : zx_S} (a M : Nat) (ha : a < 49) (hM : M ≤ 5) : ∀ (l : List Nat) (b k n : Nat), l.length < n → k + l.length = M → zat (T 4) (5 * a + k) l → b < 49 → (∀ x, x ∈ l → x < 49) →
    ∃ n', f_X1_throwOut_l23 N n (nI a) (nI M) (nI b) (nI k) T = f_X1_throwOut_l23 N (n' + 1) (nI a) (nI M) (nI (zfd (zfa (T 0) a) b l)) (nI M) T
  | [], b, k, n + 1, _, hk, _, _, _ => by
    simp only [List.length_nil] at hk
    exact ⟨n, by rw [show k = M by omega]; rfl⟩
  | x :: l, b, k, n + 1, hn, hk, hz, hb, hi => by
    have h0 : T 4 (5 * a + k) = nI x := hz.1
    have h1 := hi x (by simp)
    simp only [List.length_cons] at hk hn
    have key := fun y (hy : y < 49) => m_far_l (N := N) (T := T) a M ha hM l y (k + 1) n (by omega) (by omega) (by rw [← Nat.add_assoc]; exact hz.2) hy (fun z hz => hi z (List.mem_cons_of_mem _ hz))
    rw [f_X1_throwOut_l23]
    unfold f_X1_throwOut_j63
    simp (disch := omega) only [↓zlm1, ↓zlm2, zi_e1, zi_e2, zi_1e, zi_12, zi_21, zi_1n, zi_n1, if_true, if_false, eq_self, not_false_eq_true, not_true_eq_false, nI_add, zi_4m, zi_5m, zi_8m, zi_mul4, zi_mul5, zi_sub, nI_leI, nI_ltI, nI_eq, zl0, zl1, zl2, zl3, zl4, zl5, zl6, zl8, zl9, zl24, zl32, zl48, zl49, zl99, zl100, zl120, zl376, zl377, zl378, zl379, zl380, ↓zi_192, zi_dec, Nat.add_zero, Nat.zero_add, m_n, m_b1, m_b2, m_rd, m_wr, m_get, m_put, nI_clamp, st_at, st_ne, up_at, up_ne, if_pos, if_neg, h0, m_middle, zfd]
    by_cases p : zmd (T 0) x a ≤ zmd (T 0) b a
    · have q : ¬ zfa (T 0) a x b = true := by rw [zfa_t]; exact fun z => zi_nle.mpr z p
      rw [if_pos p, if_neg q]
      exact key b hb
    · rw [if_neg p, if_pos (zfa_t.mpr (zi_nle.mp p))]
      exact key x h1
theorem d_far_l {N w : Nat} {S : zx_S} {r : Nat → Int32} (s M : Nat) (hs : s < 32) (hM : M < 6) (hr : S w = r) (hr1 : r (120 + 8 * s + 1) = nI M) : ∀ (l : List Nat) (b k n : Nat), l.length < n → k + l.length = M → zat r (120 + 8 * s + 2 + k) l → b < 56 → (∀ x, x ∈ l → x < 56) →
    ∃ n', f_X3_throwOut_l10 N w n (nI s) (nI b) (nI k) S = f_X3_throwOut_l10 N w (n' + 1) (nI s) (nI (zfd (zfa (S 6) (24 + s)) b l)) (nI M) S
  | [], b, k, n + 1, _, hk, _, _, _ => by
    simp only [List.length_nil] at hk
    exact ⟨n, by rw [show k = M by omega]; rfl⟩
  | x :: l, b, k, n + 1, hn, hk, hz, hb, hi => by
    have h0 : r (120 + 8 * s + 2 + k) = nI x := hz.1
    have h1 := hi x (by simp)
    simp only [List.length_cons] at hk hn
    have key := fun y (hy : y < 56) => d_far_l (N := N) (w := w) (S := S) s M hs hM hr hr1 l y (k + 1) n (by omega) (by omega) (by rw [← Nat.add_assoc]; exact hz.2) hy (fun z hz => hi z (List.mem_cons_of_mem _ hz))
    rw [f_X3_throwOut_l10]
    unfold f_X3_throwOut_j57
    simp (disch := omega) only [r_many, r_entryOf, ↓zlm1, ↓zlm2, zi_e1, zi_e2, zi_1e, zi_12, zi_21, zi_1n, zi_n1, if_true, if_false, eq_self, not_false_eq_true, not_true_eq_false, nI_add, zi_4m, zi_5m, zi_8m, zi_mul4, zi_mul5, zi_sub, nI_leI, nI_ltI, nI_eq, zl0, zl1, zl2, zl3, zl4, zl5, zl6, zl8, zl9, zl24, zl32, zl48, zl49, zl99, zl100, zl120, zl376, zl377, zl378, zl379, zl380, ↓zi_192, zi_dec, Nat.add_zero, Nat.zero_add, m_n, m_b1, m_b2, m_rd, m_wr, m_get, m_put, nI_clamp, st_at, st_ne, up_at, up_ne, if_pos, if_neg, hr, hr1, h0, r_apart, zfd]
    by_cases p : zmd (S 6) x (24 + s) ≤ zmd (S 6) b (24 + s)
    · have q : ¬ zfa (S 6) (24 + s) x b = true := by rw [zfa_t]; exact fun z => zi_nle.mpr z p
      rw [if_pos p, if_neg q]
      exact key b hb
    · rw [if_neg p, if_pos (zfa_t.mpr (zi_nle.mp p))]
      exact key x h1
