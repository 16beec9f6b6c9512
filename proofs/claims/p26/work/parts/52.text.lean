/-! the text is read -/
def zdg1 (ch : Nat → Nat) (L p : Nat) : Option Nat := if p < L ∧ 48 ≤ ch p ∧ ch p ≤ 57 then some (ch p - 48) else none
def zpm (ch : Nat → Nat) (L hi : Nat) : Nat → Nat → Nat → Nat × Nat
  | 0, v, p => (v, p)
  | n + 1, v, p => if v = 0 then (v, p) else match zdg1 ch L p with
    | none => (v, p)
    | some x => if hi < 10 * v + x then (v, p) else zpm ch L hi n (10 * v + x) (p + 1)
def zpn (ch : Nat → Nat) (L lo hi p : Nat) : Option (Nat × Nat) := match zdg1 ch L p with
  | none => none
  | some x => if lo ≤ x ∧ x ≤ hi then some (zpm ch L hi 3 x (p + 1)) else none
def zpsep (ch : Nat → Nat) (L c p : Nat) : Option Nat := if p < L ∧ ch p = c then some (p + 1) else none
theorem zdg1_sp {ch : Nat → Nat} {L p x : Nat} (h : zdg1 ch L p = some x) : p < L ∧ 48 ≤ ch p ∧ ch p ≤ 57 ∧ x = ch p - 48 := by
  unfold zdg1 at h
  by_cases c : p < L ∧ 48 ≤ ch p ∧ ch p ≤ 57
  · rw [if_pos c] at h
    exact ⟨c.1, c.2.1, c.2.2, (Option.some.inj h).symm⟩
  · rw [if_neg c] at h; cases h
theorem zdg1_no {ch : Nat → Nat} {L p : Nat} (h : zdg1 ch L p = none) : ¬ (p < L ∧ 48 ≤ ch p ∧ ch p ≤ 57) := by
  unfold zdg1 at h
  intro c
  rw [if_pos c] at h; cases h
theorem zpm_s {ch : Nat → Nat} {L hi n v p : Nat} : zpm ch L hi (n + 1) v p = if v = 0 then (v, p) else match zdg1 ch L p with
    | none => (v, p)
    | some x => if hi < 10 * v + x then (v, p) else zpm ch L hi n (10 * v + x) (p + 1) := rfl
theorem zpm_sp {ch : Nat → Nat} {L hi : Nat} : ∀ (n v p : Nat), v ≤ hi → p ≤ L → (zpm ch L hi n v p).1 ≤ hi ∧ v ≤ (zpm ch L hi n v p).1 ∧ p ≤ (zpm ch L hi n v p).2 ∧ (zpm ch L hi n v p).2 ≤ L
  | 0, v, p, hv, hp => ⟨hv, Nat.le_refl _, Nat.le_refl _, hp⟩
  | n + 1, v, p, hv, hp => by
    rw [zpm_s]
    by_cases c : v = 0
    · rw [if_pos c]; exact ⟨hv, Nat.le_refl _, Nat.le_refl _, hp⟩
    · rw [if_neg c]
      rcases hd : zdg1 ch L p with _ | x
      · exact ⟨hv, Nat.le_refl _, Nat.le_refl _, hp⟩
      · have hs := zdg1_sp hd
        by_cases c2 : hi < 10 * v + x
        · simp only [c2, if_true]; exact ⟨hv, Nat.le_refl _, Nat.le_refl _, hp⟩
        · simp only [c2, if_false]
          obtain ⟨h1, h2, h3, h4⟩ := zpm_sp (ch := ch) (L := L) (hi := hi) n (10 * v + x) (p + 1) (by omega) (by omega)
          exact ⟨h1, by omega, by omega, h4⟩
theorem zpn_sp {ch : Nat → Nat} {L lo hi p v q : Nat} (h : zpn ch L lo hi p = some (v, q)) : lo ≤ v ∧ v ≤ hi ∧ p < q ∧ q ≤ L := by
  unfold zpn at h
  rcases hd : zdg1 ch L p with _ | x
  · rw [hd] at h; cases h
  · rw [hd] at h
    have hs := zdg1_sp hd
    by_cases c : lo ≤ x ∧ x ≤ hi
    · simp only [c, and_self, if_true] at h
      have e := Option.some.inj h
      obtain ⟨h1, h2, h3, h4⟩ := zpm_sp (ch := ch) (L := L) (hi := hi) 3 x (p + 1) c.2 (by omega)
      rw [e] at h1 h2 h3 h4
      exact ⟨by omega, h1, by omega, h4⟩
    · simp only [c, if_false] at h; cases h
theorem zpsep_sp {ch : Nat → Nat} {L c p q : Nat} (h : zpsep ch L c p = some q) : q = p + 1 ∧ p < L ∧ ch p = c := by
  unfold zpsep at h
  by_cases d : p < L ∧ ch p = c
  · rw [if_pos d] at h
    exact ⟨(Option.some.inj h).symm, d.1, d.2⟩
  · rw [if_neg d] at h; cases h
/-- the characters -/
def zchs (f : Nat → Int32) (ch : Nat → Nat) (L : Nat) : Prop := L ≤ 100 ∧ ∀ i, i < L → f i = nI (ch i) ∧ ch i < 256
/-- the class's text object: length, place, how many, wrong -/
def ztx (S : zx_S) (L p cnt : Nat) (wr : Int32) : Prop := S 2 0 = nI L ∧ S 2 2 = nI p ∧ S 2 1 = nI cnt ∧ S 2 3 = wr
theorem zi_neg48 {c : Nat} (h : c < 48) : nI c - 48 < 0 := by
  rw [zi_lt0, zi_subT (by rw [nI_toInt (by omega)]; show _ ≤ (c : Int) - 48; omega) (by rw [nI_toInt (by omega)]; show (c : Int) - 48 < _; omega), nI_toInt (by omega)]
  show (c : Int) - 48 < 0
  omega
theorem zl48' : (48 : Int32) = nI 48 := by decide
theorem ztx_at {S S' : zx_S} {L p q cnt : Nat} {wr : Int32} (h : ztx S L p cnt wr) (e : S' 2 = upd (S 2) 2 (nI q)) : ztx S' L q cnt wr := by
  obtain ⟨h1, h2, h3, h4⟩ := h
  exact ⟨by rw [e, up_ne (by decide)]; exact h1, by rw [e, up_at], by rw [e, up_ne (by decide)]; exact h3, by rw [e, up_ne (by decide)]; exact h4⟩
theorem ztx_wr {S S' : zx_S} {L p cnt : Nat} {wr : Int32} (h : ztx S L p cnt wr) (e : S' 2 = upd (S 2) 3 1) : ztx S' L p cnt 1 := by
  obtain ⟨h1, h2, h3, h4⟩ := h
  exact ⟨by rw [e, up_ne (by decide)]; exact h1, by rw [e, up_ne (by decide)]; exact h2, by rw [e, up_ne (by decide)]; exact h3, by rw [e, up_at]⟩
/-- further digits -/
theorem m_dig_l {N L lo hi : Nat} {ch : Nat → Nat} (hlo : lo ≤ 1) (hhi : hi ≤ 100) : ∀ (n k v p q cnt : Nat) (S : zx_S), n < k → v ≤ hi → (v = 0 ∨ hi < v * 10 ^ n) → p ≤ L → q + n < 50 → zchs (S 0) ch L → ztx S L p cnt 0 →
    ∃ S', f_X0_readNumber_l5 N k (nI lo) (nI hi) (nI v) (nI (q + 1)) S = some (nI (zpm ch L hi n v p).1, S') ∧ ztx S' L (zpm ch L hi n v p).2 cnt 0 ∧ zfr [2] S S'
  | n, k + 1, v, p, q, cnt, S, hk, hv, hb, hp, hq, hch, hx => by
    obtain ⟨x1, x2, x3, x4⟩ := id hx
    obtain ⟨hL, hc⟩ := id hch
    have stop : f_X0_readNumber_j103 N (nI v) (nI (q + 1)) S = some (nI v, S) := by
      unfold f_X0_readNumber_j103
      rw [if_neg (by rw [zl0, nI_eq (by omega) (by decide)]; omega)]
    have hz : ¬ nI (q + 1) = 0 := by rw [zl0, nI_eq (by omega) (by decide)]; omega
    rw [f_X0_readNumber_l5, x4, if_pos rfl, x1, x2]
    by_cases c0 : v = 0
    · have e : zpm ch L hi n v p = (v, p) := by
        cases n with
        | zero => rfl
        | succ n => rw [zpm_s, if_pos c0]
      rw [e]
      refine ⟨S, ?_, hx, zfr_refl⟩
      by_cases cl : L ≤ p
      · rw [if_pos (by rw [nI_leI (by omega) (by omega)]; exact cl)]; exact stop
      · rw [if_neg (by rw [nI_leI (by omega) (by omega)]; exact cl), if_neg hz, if_pos (by rw [zl0, nI_leI (by omega) (by omega)]; omega)]; exact stop
    · match n, hk, hb, hq with
      | 0, hk, hb, hq => rcases hb with z | z <;> omega
      | n + 1, hk, hb, hq =>
        rw [zpm_s, if_neg c0]
        by_cases cl : L ≤ p
        · have hd : zdg1 ch L p = none := by unfold zdg1; rw [if_neg (by omega)]
          rw [hd]
          exact ⟨S, by rw [if_pos (by rw [nI_leI (by omega) (by omega)]; exact cl)]; exact stop, hx, zfr_refl⟩
        · rw [if_neg (by rw [nI_leI (by omega) (by omega)]; exact cl), if_neg hz, if_neg (by rw [zl0, nI_leI (by omega) (by omega)]; omega)]
          obtain ⟨hf, h256⟩ := hc p (by omega)
          have hR : ∀ {X}, (∃ S', f_X0_readNumber_j32 N (f_X0_readNumber_l5 N k) (nI lo) (nI hi) (nI v) (nI (q + 1)) S = some (X, S') ∧ True) → True := fun _ => trivial
          unfold f_X0_readNumber_j32
          rw [x2, m_get (by omega) (by decide), m_b1, hf, m_n, m_n]
          by_cases d1 : ch p < 48
          · have hd : zdg1 ch L p = none := by unfold zdg1; rw [if_neg (by omega)]
            rw [hd]
            exact ⟨S, by rw [if_pos (zi_neg48 d1)]; exact stop, hx, zfr_refl⟩
          · have hs : nI (ch p) - 48 = nI (ch p - 48) := by rw [zl48', zi_sub (by omega)]
            rw [hs, if_neg (nI_pos (by omega))]
            by_cases d2 : 57 < ch p
            · have hd : zdg1 ch L p = none := by unfold zdg1; rw [if_neg (by omega)]
              rw [hd]
              exact ⟨S, by rw [if_pos (by rw [zl9, nI_ltI (by decide) (by omega)]; omega)]; exact stop, hx, zfr_refl⟩
            · have hd : zdg1 ch L p = some (ch p - 48) := by unfold zdg1; rw [if_pos (by omega)]
              rw [hd, if_neg (by rw [zl9, nI_ltI (by decide) (by omega)]; omega)]
              have hval : nI v * 10 + nI (ch p - 48) = nI (10 * v + (ch p - 48)) := by
                rw [show (10 : Int32) = nI 10 from rfl, zi_mul, nI_add, Nat.mul_comm]
              rw [hval, if_neg (by rw [nI_ltI (by omega) (by omega)]; omega)]
              by_cases d3 : hi < 10 * v + (ch p - 48)
              · simp only [d3, if_true]
                exact ⟨S, by rw [if_neg (by rw [nI_leI (by omega) (by omega)]; omega)]; exact stop, hx, zfr_refl⟩
              · simp only [d3, if_false]
                obtain ⟨S1, eS1⟩ : ∃ S1, S1 = zx_st S 2 (upd (S 2) 2 (nI (p + 1))) := ⟨_, rfl⟩
                have f1 : zfr [2] S S1 := by rw [eS1]; exact zfr_st (by simp) zfr_refl
                obtain ⟨S', e, h1, h2⟩ := m_dig_l (N := N) (L := L) (ch := ch) hlo hhi n k (10 * v + (ch p - 48)) (p + 1) (q + 1) cnt S1 (by omega) (by omega) (Or.inr (by
                  rcases hb with z | z
                  · omega
                  · rw [Nat.pow_succ] at z
                    have : v * (10 ^ n * 10) ≤ (10 * v + (ch p - 48)) * 10 ^ n := by
                      rw [Nat.add_mul, Nat.mul_comm (10 ^ n) 10, ← Nat.mul_assoc, Nat.mul_comm v 10]
                      exact Nat.le_add_right _ _
                    omega)) (by omega) (by omega) (by rw [f1 0 (by decide)]; exact hch) (ztx_at hx (by rw [eS1, st_at]))
                refine ⟨S', ?_, h1, zfr_trans f1 h2⟩
                rw [if_pos (by rw [nI_leI (by omega) (by omega)]; omega), m_n, m_n, show nI p + 1 = nI (p + 1) by rw [zl1, nI_add], ← eS1, show nI (q + 1) + 1 = nI (q + 1 + 1) by rw [zl1, nI_add]]
                exact e
theorem m_rdn {N L lo hi : Nat} (hN : 100 < N) {ch : Nat → Nat} (hlo : lo ≤ 1) (hhi : hi ≤ 100) {p cnt : Nat} {S : zx_S} (hp : p ≤ L) (hch : zchs (S 0) ch L) (hx : ztx S L p cnt 0) :
    (∀ v q, zpn ch L lo hi p = some (v, q) → ∃ S', f_X0_readNumber N (nI lo) (nI hi) S = some (nI v, S') ∧ ztx S' L q cnt 0 ∧ zfr [2] S S') ∧ (zpn ch L lo hi p = none → ∃ S', f_X0_readNumber N (nI lo) (nI hi) S = some (nI 0, S') ∧ ztx S' L p cnt 1 ∧ zfr [2] S S') := by
  obtain ⟨x1, x2, x3, x4⟩ := id hx
  obtain ⟨hL, hc⟩ := id hch
  obtain ⟨n, hn⟩ : ∃ n, N = n + 1 := ⟨N - 1, by omega⟩
  have stop : ∃ S', f_X0_readNumber_j103 N (nI 0) (nI 0) S = some (nI 0, S') ∧ ztx S' L p cnt 1 ∧ zfr [2] S S' := by
    refine ⟨zx_st S 2 (upd (S 2) 3 1), ?_, ztx_wr hx st_at, zfr_st (by simp) zfr_refl⟩
    unfold f_X0_readNumber_j103
    rw [if_pos (by decide), m_n]
  have hstep : f_X0_readNumber N (nI lo) (nI hi) S = if nI L ≤ nI p then f_X0_readNumber_j103 N (nI 0) (nI 0) S else f_X0_readNumber_j32 N (f_X0_readNumber_l5 N n) (nI lo) (nI hi) (nI 0) (nI 0) S := by
    unfold f_X0_readNumber
    rw [zl0]
    rw [show f_X0_readNumber_l5 N N = f_X0_readNumber_l5 N (n + 1) by rw [← hn], f_X0_readNumber_l5, x4, if_pos rfl, x1, x2]
    by_cases c : nI L ≤ nI p
    · rw [if_pos c, if_pos c]
    · rw [if_neg c, if_neg c, if_pos (by decide)]
  unfold zpn
  by_cases cl : L ≤ p
  · have hd : zdg1 ch L p = none := by unfold zdg1; rw [if_neg (by omega)]
    rw [hd]
    refine ⟨fun v q h => (by cases h), fun _ => ?_⟩
    rw [hstep, if_pos (by rw [nI_leI (by omega) (by omega)]; exact cl)]; exact stop
  · rw [if_neg (by rw [nI_leI (by omega) (by omega)]; exact cl)] at hstep
    obtain ⟨hf, h256⟩ := hc p (by omega)
    unfold f_X0_readNumber_j32 at hstep
    rw [x2, m_get (by omega) (by decide), m_b1, hf, m_n, m_n] at hstep
    by_cases d1 : ch p < 48
    · have hd : zdg1 ch L p = none := by unfold zdg1; rw [if_neg (by omega)]
      rw [hd]
      refine ⟨fun v q h => (by cases h), fun _ => ?_⟩
      rw [hstep, if_pos (zi_neg48 d1)]; exact stop
    · have hs : nI (ch p) - 48 = nI (ch p - 48) := by rw [zl48', zi_sub (by omega)]
      rw [hs, if_neg (nI_pos (by omega))] at hstep
      by_cases d2 : 57 < ch p
      · have hd : zdg1 ch L p = none := by unfold zdg1; rw [if_neg (by omega)]
        rw [hd]
        refine ⟨fun v q h => (by cases h), fun _ => ?_⟩
        rw [hstep, if_pos (by rw [zl9, nI_ltI (by decide) (by omega)]; omega)]; exact stop
      · have hd : zdg1 ch L p = some (ch p - 48) := by unfold zdg1; rw [if_pos (by omega)]
        rw [hd]
        have hval : nI 0 * 10 + nI (ch p - 48) = nI (ch p - 48) := by
          rw [show (10 : Int32) = nI 10 from rfl, zi_mul, nI_add, Nat.zero_mul, Nat.zero_add]
        rw [if_neg (by rw [zl9, nI_ltI (by decide) (by omega)]; omega), hval] at hstep
        by_cases c : lo ≤ ch p - 48 ∧ ch p - 48 ≤ hi
        · simp only [c, and_self, if_true]
          refine ⟨fun v q h => ?_, fun h => (by cases h)⟩
          have e := Option.some.inj h
          obtain ⟨S1, eS1⟩ : ∃ S1, S1 = zx_st S 2 (upd (S 2) 2 (nI (p + 1))) := ⟨_, rfl⟩
          have f1 : zfr [2] S S1 := by rw [eS1]; exact zfr_st (by simp) zfr_refl
          obtain ⟨S', e2, h1, h2⟩ := m_dig_l (N := N) (L := L) (ch := ch) (lo := lo) (hi := hi) hlo hhi 3 n (ch p - 48) (p + 1) 0 cnt S1 (by omega) c.2 (by
            rcases Nat.eq_zero_or_pos (ch p - 48) with z | z
            · exact Or.inl z
            · refine Or.inr ?_
              show hi < (ch p - 48) * 1000
              omega) (by omega) (by omega) (by rw [f1 0 (by decide)]; exact hch) (ztx_at hx (by rw [eS1, st_at]))
          rw [e] at e2 h1
          refine ⟨S', ?_, h1, zfr_trans f1 h2⟩
          rw [hstep, if_neg (by rw [nI_ltI (by omega) (by omega)]; omega), if_pos (by rw [nI_leI (by omega) (by omega)]; omega), m_n, m_n, show nI p + 1 = nI (p + 1) by rw [zl1, nI_add], ← eS1, show nI 0 + 1 = nI (0 + 1) by rw [zl1, nI_add]]
          exact e2
        · simp only [c, if_false]
          refine ⟨fun v q h => (by cases h), fun _ => ?_⟩
          rw [hstep]
          by_cases d4 : ch p - 48 < lo
          · rw [if_pos (by rw [nI_ltI (by omega) (by omega)]; exact d4)]; exact stop
          · rw [if_neg (by rw [nI_ltI (by omega) (by omega)]; exact d4), if_neg (by rw [nI_leI (by omega) (by omega)]; omega)]; exact stop
theorem m_rdn_w {N L : Nat} (hN : 100 < N) {a b : Int32} {p cnt : Nat} {S : zx_S} (hx : ztx S L p cnt 1) : ∃ S', f_X0_readNumber N a b S = some (nI 0, S') ∧ ztx S' L p cnt 1 ∧ zfr [2] S S' := by
  obtain ⟨n, hn⟩ : ∃ n, N = n + 1 := ⟨N - 1, by omega⟩
  refine ⟨zx_st S 2 (upd (S 2) 3 1), ?_, ztx_wr hx st_at, zfr_st (by simp) zfr_refl⟩
  unfold f_X0_readNumber
  rw [show f_X0_readNumber_l5 N N = f_X0_readNumber_l5 N (n + 1) by rw [← hn], f_X0_readNumber_l5, hx.2.2.2, if_neg (by decide)]
  unfold f_X0_readNumber_j103
  rw [if_pos rfl, m_n]
  rfl
theorem m_exp {N L c : Nat} {ch : Nat → Nat} {p cnt : Nat} {S : zx_S} (hc256 : c < 256) (hp : p ≤ L) (hch : zchs (S 0) ch L) (hx : ztx S L p cnt 0) :
    (∀ q, zpsep ch L c p = some q → ∃ S', f_X0_expect N (nI c) S = some S' ∧ ztx S' L q cnt 0 ∧ zfr [2] S S') ∧ (zpsep ch L c p = none → ∃ S', f_X0_expect N (nI c) S = some S' ∧ ztx S' L p cnt 1 ∧ zfr [2] S S') := by
  obtain ⟨x1, x2, x3, x4⟩ := id hx
  obtain ⟨hL, hc⟩ := id hch
  have stop : ∃ S', f_X0_expect_j33 N S = some S' ∧ ztx S' L p cnt 1 ∧ zfr [2] S S' := ⟨zx_st S 2 (upd (S 2) 3 1), by unfold f_X0_expect_j33; rw [m_n], ztx_wr hx st_at, zfr_st (by simp) zfr_refl⟩
  unfold f_X0_expect zpsep
  rw [x4, if_pos rfl, x1, x2]
  by_cases cl : L ≤ p
  · rw [if_neg (show ¬ (p < L ∧ ch p = c) by omega), if_pos (show nI L ≤ nI p by rw [nI_leI (by omega) (by omega)]; exact cl)]
    exact ⟨fun q h => (by cases h), fun _ => stop⟩
  · rw [if_neg (show ¬ nI L ≤ nI p by rw [nI_leI (by omega) (by omega)]; exact cl)]
    obtain ⟨hf, h256⟩ := hc p (by omega)
    rw [m_get (by omega) (by decide), m_b1, hf]
    by_cases e : ch p = c
    · rw [if_pos (show p < L ∧ ch p = c from ⟨by omega, e⟩), if_pos (show nI (ch p) = nI c by rw [e])]
      refine ⟨fun q h => ?_, fun h => (by cases h)⟩
      have := Option.some.inj h
      subst this
      exact ⟨zx_st S 2 (upd (S 2) 2 (nI (p + 1))), by rw [m_n, show nI p + 1 = nI (p + 1) by rw [zl1, nI_add]], ztx_at hx st_at, zfr_st (by simp) zfr_refl⟩
    · rw [if_neg (show ¬ (p < L ∧ ch p = c) from fun z => e z.2), if_neg (show ¬ nI (ch p) = nI c by rw [nI_eq (by omega) (by omega)]; exact e)]
      exact ⟨fun q h => (by cases h), fun _ => stop⟩
theorem m_exp_w {N L : Nat} {c : Int32} {p cnt : Nat} {S : zx_S} (hx : ztx S L p cnt 1) : ∃ S', f_X0_expect N c S = some S' ∧ ztx S' L p cnt 1 ∧ zfr [2] S S' := by
  refine ⟨zx_st S 2 (upd (S 2) 3 1), ?_, ztx_wr hx st_at, zfr_st (by simp) zfr_refl⟩
  unfold f_X0_expect
  rw [hx.2.2.2, if_neg (by decide)]
  unfold f_X0_expect_j33
  rw [m_n]
/-- the reference's text: length, place -/
def zrx (S : zx_S) (L p : Nat) : Prop := S 12 1 = nI L ∧ S 12 6 = nI p
def zq6 (S S' : zx_S) : Prop := zfr [12] S S' ∧ ∀ j, j ≠ 6 → S' 12 j = S 12 j
theorem zq6_refl {S : zx_S} : zq6 S S := ⟨zfr_refl, fun _ _ => rfl⟩
theorem zq6_trans {S S1 S2 : zx_S} (h : zq6 S S1) (h2 : zq6 S1 S2) : zq6 S S2 := ⟨zfr_trans h.1 h2.1, fun j hj => (h2.2 j hj).trans (h.2 j hj)⟩
theorem zq6_at {S : zx_S} {L p q : Nat} (h : zrx S L p) : zq6 S (zx_st S 12 (upd (S 12) 6 (nI q))) ∧ zrx (zx_st S 12 (upd (S 12) 6 (nI q))) L q :=
  ⟨⟨zfr_st (by simp) zfr_refl, fun j hj => by rw [st_at, up_ne hj]⟩, by rw [st_at, up_ne (by decide)]; exact h.1, by rw [st_at, up_at]⟩
theorem r_here {N L p : Nat} {ch : Nat → Nat} {S : zx_S} (hp : p ≤ L) (hch : zchs (S 0) ch L) (hx : zrx S L p) : f_X3_here N S = some (if p < L then nI (ch p) else -1) := by
  obtain ⟨hL, hc⟩ := hch
  unfold f_X3_here
  rw [hx.1, hx.2]
  by_cases c : p < L
  · rw [if_neg (by rw [nI_leI (by omega) (by omega)]; omega), m_rd (by omega) (by decide), (hc p c).1, if_pos c]
  · rw [if_pos (by rw [nI_leI (by omega) (by omega)]; omega), if_neg c]
/-- the digit here, as the reference asks for it -/
theorem r_dig {N L p : Nat} {ch : Nat → Nat} (hp : p ≤ L) {f : Nat → Int32} (hch : zchs f ch L) : (zdg1 ch L p = none → f_X3_in N (Int32.toInt64 (if p < L then nI (ch p) else -1)) 48 57 = some 0) ∧ (∀ x, zdg1 ch L p = some x → (if p < L then nI (ch p) else -1) = nI (ch p) ∧ f_X3_in N (Int32.toInt64 (nI (ch p))) 48 57 = some 1) := by
  have i1 := fun y => m_in (N := N) (x := y) (lo := 48) (hi := 57) (a := 48) (b := 57) (by decide) (by decide)
  refine ⟨fun h => ?_, fun x h => ?_⟩
  · have hn := zdg1_no h
    rw [i1]
    by_cases c : p < L
    · have := (hch.2 p c).2
      rw [if_pos c, nI_toInt (by omega), if_neg (by omega)]
    · rw [if_neg c, if_neg (by decide)]
  · obtain ⟨h1, h2, h3, _⟩ := zdg1_sp h
    have := (hch.2 p h1).2
    rw [if_pos h1, i1, nI_toInt (by omega), if_pos (by omega)]
    exact ⟨rfl, rfl⟩
theorem r_dig_l {N L hi : Nat} {ch : Nat → Nat} (hhi : hi ≤ 100) : ∀ (n k v p : Nat) (S : zx_S), n < k → v ≤ hi → (v = 0 ∨ hi < v * 10 ^ n) → p ≤ L → zchs (S 0) ch L → zrx S L p →
    ∃ S', f_X3_number_l49 N k (nI hi) (nI v) S = some (nI (zpm ch L hi n v p).1, S') ∧ zrx S' L (zpm ch L hi n v p).2 ∧ zq6 S S'
  | n, k + 1, v, p, S, hk, hv, hb, hp, hch, hx => by
    rw [f_X3_number_l49]
    by_cases c0 : v = 0
    · have e : zpm ch L hi n v p = (v, p) := by
        cases n with
        | zero => rfl
        | succ n => rw [zpm_s, if_pos c0]
      rw [e]
      exact ⟨S, by rw [if_pos (by rw [zl0, nI_leI (by omega) (by omega)]; omega)], hx, zq6_refl⟩
    · rw [if_neg (by rw [zl0, nI_leI (by omega) (by omega)]; omega), r_here hp hch hx, m_b1]
      obtain ⟨g1, g2⟩ := r_dig (N := N) (p := p) hp hch
      match n, hk, hb with
      | 0, hk, hb => rcases hb with z | z <;> omega
      | n + 1, hk, hb =>
        rw [zpm_s, if_neg c0]
        rcases hd : zdg1 ch L p with _ | x
        · rw [g1 hd, m_b1, if_pos rfl]
          exact ⟨S, rfl, hx, zq6_refl⟩
        · obtain ⟨e1, e2⟩ := g2 x hd
          obtain ⟨s1, s2, s3, s4⟩ := zdg1_sp hd
          rw [e1, e2, m_b1, if_neg (by decide), m_b1]
          have hval : 10 * nI v + nI (ch p) - 48 = nI (10 * v + x) := by
            rw [show (10 : Int32) = nI 10 from rfl, zi_mul, nI_add, zl48', zi_sub (by omega), s4]
            congr 1
            omega
          rw [hval]
          by_cases d3 : hi < 10 * v + x
          · simp only [d3, if_true]
            exact ⟨S, by rw [if_pos (by rw [nI_ltI (by omega) (by omega)]; exact d3)], hx, zq6_refl⟩
          · simp only [d3, if_false]
            obtain ⟨q1, q2⟩ := zq6_at (q := p + 1) hx
            obtain ⟨S1, eS1⟩ : ∃ S1, S1 = zx_st S 12 (upd (S 12) 6 (nI (p + 1))) := ⟨_, rfl⟩
            rw [← eS1] at q1 q2
            obtain ⟨S', e, h1, h2⟩ := r_dig_l (N := N) (L := L) (ch := ch) hhi n k (10 * v + x) (p + 1) S1 (by omega) (by omega) (Or.inr (by
              rcases hb with z | z
              · omega
              · rw [Nat.pow_succ] at z
                have : v * (10 ^ n * 10) ≤ (10 * v + x) * 10 ^ n := by
                  rw [Nat.add_mul, Nat.mul_comm (10 ^ n) 10, ← Nat.mul_assoc, Nat.mul_comm v 10]
                  exact Nat.le_add_right _ _
                omega)) (by omega) (by rw [q1.1 0 (by decide)]; exact hch) q2
            refine ⟨S', ?_, h1, zq6_trans q1 h2⟩
            rw [if_neg (by rw [nI_ltI (by omega) (by omega)]; exact d3), m_b1, hval, m_n, m_n, hx.2, show nI p + 1 = nI (p + 1) by rw [zl1, nI_add], ← eS1]
            exact e
theorem r_num {N L lo hi : Nat} (hN : 100 < N) {ch : Nat → Nat} (hlo : lo ≤ 1) (hhi : hi ≤ 100) {p : Nat} {S : zx_S} (hp : p ≤ L) (hch : zchs (S 0) ch L) (hx : zrx S L p) :
    (∀ v q, zpn ch L lo hi p = some (v, q) → ∃ S', f_X3_number N (nI lo) (nI hi) S = some (nI v, S') ∧ zrx S' L q ∧ zq6 S S') ∧ (zpn ch L lo hi p = none → f_X3_number N (nI lo) (nI hi) S = some (-1, S)) := by
  obtain ⟨g1, g2⟩ := r_dig (N := N) (p := p) hp hch
  unfold f_X3_number zpn
  rw [r_here hp hch hx, m_b1, m_n, m_b1]
  rcases hd : zdg1 ch L p with _ | x
  · rw [g1 hd, m_b1, if_pos rfl]
    exact ⟨fun v q h => (by cases h), fun _ => rfl⟩
  · obtain ⟨e1, e2⟩ := g2 x hd
    obtain ⟨s1, s2, s3, s4⟩ := zdg1_sp hd
    have hs : nI (ch p) - 48 = nI x := by rw [zl48', zi_sub (by omega), s4]
    have hin := m_in (N := N) (x := nI x) (lo := lo) (hi := hi) (a := Int32.toInt64 (nI lo)) (b := Int32.toInt64 (nI hi)) (by rw [Int32.toInt_toInt64, nI_toInt (by omega)]) (by rw [Int32.toInt_toInt64, nI_toInt (by omega)])
    rw [nI_toInt (by omega)] at hin
    by_cases c : lo ≤ x ∧ x ≤ hi
    · rw [if_pos (show (lo : Int) ≤ x ∧ (x : Int) ≤ hi by omega)] at hin
      rw [e1, e2, m_b1, if_neg (show ¬ (1 : Int32) = 0 by decide), hs, hin, m_b1, if_neg (show ¬ (1 : Int32) = 0 by decide)]
      simp only [c, and_self, if_true]
      refine ⟨fun v q h => ?_, fun h => (by cases h)⟩
      have e := Option.some.inj h
      obtain ⟨q1, q2⟩ := zq6_at (q := p + 1) hx
      obtain ⟨S1, eS1⟩ : ∃ S1, S1 = zx_st S 12 (upd (S 12) 6 (nI (p + 1))) := ⟨_, rfl⟩
      rw [← eS1] at q1 q2
      obtain ⟨S', e2, h1, h2⟩ := r_dig_l (N := N) (L := L) (ch := ch) (hi := hi) hhi 3 N x (p + 1) S1 (by omega) c.2 (by
        rcases Nat.eq_zero_or_pos x with z | z
        · exact Or.inl z
        · refine Or.inr ?_
          show hi < x * 1000
          omega) (by omega) (by rw [q1.1 0 (by decide)]; exact hch) q2
      rw [e] at e2 h1
      refine ⟨S', ?_, h1, zq6_trans q1 h2⟩
      rw [m_n, hx.2, show nI p + 1 = nI (p + 1) by rw [zl1, nI_add], ← eS1]
      exact e2
    · rw [if_neg (show ¬ ((lo : Int) ≤ x ∧ (x : Int) ≤ hi) by omega)] at hin
      rw [e1, e2, m_b1, if_neg (show ¬ (1 : Int32) = 0 by decide), hs, hin, m_b1, if_pos (show (0 : Int32) = 0 from rfl)]
      simp only [c, if_false]
      exact ⟨fun v q h => (by cases h), fun _ => trivial⟩
theorem r_pass {N L c : Nat} {ch : Nat → Nat} {p : Nat} {S : zx_S} (hc256 : c < 256) (hp : p ≤ L) (hch : zchs (S 0) ch L) (hx : zrx S L p) :
    (∀ q, zpsep ch L c p = some q → ∃ S', f_X3_passed N (nI c) S = some (1, S') ∧ zrx S' L q ∧ zq6 S S') ∧ (zpsep ch L c p = none → f_X3_passed N (nI c) S = some (0, S)) := by
  unfold f_X3_passed zpsep
  rw [r_here hp hch hx, m_b1]
  by_cases cl : p < L
  · have h256 := (hch.2 p cl).2
    rw [if_pos cl]
    by_cases e : ch p = c
    · rw [if_pos (show p < L ∧ ch p = c from ⟨cl, e⟩), if_pos (show nI (ch p) = nI c by rw [e])]
      refine ⟨fun q h => ?_, fun h => (by cases h)⟩
      have := Option.some.inj h
      subst this
      obtain ⟨q1, q2⟩ := zq6_at (q := p + 1) hx
      exact ⟨_, by rw [m_n, hx.2, show nI p + 1 = nI (p + 1) by rw [zl1, nI_add]], q2, q1⟩
    · rw [if_neg (show ¬ (p < L ∧ ch p = c) from fun z => e z.2), if_neg (show ¬ nI (ch p) = nI c by rw [nI_eq (by omega) (by omega)]; exact e)]
      exact ⟨fun q h => (by cases h), fun _ => rfl⟩
  · rw [if_neg cl, if_neg (show ¬ (p < L ∧ ch p = c) from fun z => cl z.1), if_neg (show ¬ (-1 : Int32) = nI c by rw [zlm1, zi_1e (by omega)]; exact id)]
    exact ⟨fun q h => (by cases h), fun _ => rfl⟩
