/-! runScript -/
theorem m_n2 {α β : Type} (a : α) (k : α → β) : zx_n a k = k a := by
  cases (0 : Nat) with
  | zero => exact m_n a k
  | succ n => exact m_n a k
/-- the last command -/
theorem z_last {N : Nat} (hN : 6000 < N) {M : Nat} (hM : M < 3) {x : Int64} (hx : 0 ≤ x.toInt) {B : zx_B} {S : zx_S} {t : ZT} (hQ : zQ 2 (B 1) S t) (n n' : Nat) : ∃ r B' S', f_X2_runScript_l69 N (n + 2) (nI (M + 1)) x (nI M) B = some (r, (0, B')) ∧ f_X3_runScript_l86 N (n' + 2) (nI (M + 1)) x 1000000000 (nI M) S = some (r, S') ∧ zkt B B' S S' := by
  obtain ⟨m, hm, em⟩ := z_digit hx
  obtain ⟨y, B', S', t', a1, a2, a3, a4⟩ := z_code hN hm hQ
  have h1 : ¬ nI (M + 1) ≤ nI M := by rw [nI_leI (by omega) (by omega)]; omega
  have h2 : nI M = nI (M + 1) - 1 := by rw [zl1, zi_sub (by omega), Nat.add_sub_cancel]
  have h3 : nI M + 1 = nI (M + 1) := by rw [zl1, nI_add]
  have h4 : nI (M + 1) ≤ nI (M + 1) := by rw [nI_leI (by omega) (by omega)]; omega
  have h5 : (1000000000 : Int64) / 1000000000 = 1 := z_d9
  rw [f_X2_runScript_l69, if_neg h1, if_pos h2, f_X3_runScript_l86, if_neg h1]
  unfold f_X2_runScript_j96
  simp only [m_n2]
  rw [h5, m_nz (by decide), z_div1 hx, em, a1, m_b2, a2, m_b2]
  by_cases c : y = 0
  · rw [if_pos c, if_pos c]
    exact ⟨_, B', S', rfl, rfl, a4⟩
  · rw [if_neg c, if_neg c, h3, f_X2_runScript_l69, if_pos h4, f_X3_runScript_l86, if_pos h4]
    exact ⟨_, B', S', rfl, rfl, a4⟩
theorem z_first {N : Nat} (hN : 6000 < N) {x : Int64} (hx : 0 ≤ x.toInt) (hx2 : x.toInt < 1000000000000000000) {B : zx_B} {S : zx_S} {t : ZT} (hQ : zQ 2 (B 1) S t) (n n' : Nat) : ∃ r B' S', f_X2_runScript_l69 N (n + 3) (nI 2) x (nI 0) B = some (r, (0, B')) ∧ f_X3_runScript_l86 N (n' + 3) (nI 2) x 1000000000000000000 (nI 0) S = some (r, S') ∧ zkt B B' S S' := by
  have hd := z64_div hx (y := 1000000000) (by rw [z_b9]; decide)
  rw [z_b9] at hd
  obtain ⟨m, hm, em⟩ := z_digit (x := x / 1000000000) (by rw [hd]; omega)
  rw [z_hi hx hx2] at em
  obtain ⟨y, B', S', t', a1, a2, a3, a4⟩ := z_code hN hm hQ
  have h1 : ¬ nI 2 ≤ nI 0 := by decide
  have h2 : ¬ nI 0 = nI 2 - 1 := by decide
  have h3 : nI 0 + 1 = nI 1 := by decide
  have h5 : (1000000000000000000 : Int64) / 1000000000 = 1000000000 := z_d18
  rw [f_X2_runScript_l69, if_neg h1, if_neg h2, f_X3_runScript_l86, if_neg h1]
  unfold f_X2_runScript_j96
  simp only [m_n2]
  rw [h5, m_nz (by decide), z_hi hx hx2, em, a1, m_b2, a2, m_b2]
  by_cases c : y = 0
  · rw [if_pos c, if_pos c]
    exact ⟨_, B', S', rfl, rfl, a4⟩
  · rw [if_neg c, if_neg c, h3]
    obtain ⟨r, B2, S2, b1, b2, b3⟩ := z_last hN (M := 1) (by decide) hx a3 n n'
    exact ⟨r, B2, S2, b1, b2, zkt_trans a4 b3⟩
theorem op_runScript {N : Nat} (hN : 6000 < N) : zs_runScript N ZInv := by
  intro p1 p2 B S hI
  obtain ⟨t, S0, eS0, hQ, hQ0, fS0, h120, h121, h122, hI0⟩ := z_setup hI
  have hin := m_in (N := N) (x := p1) (lo := 1) (hi := 2) (a := 1) (b := 2) (by decide) (by decide)
  have z1 : p1 < (1 : Int32) ↔ p1.toInt < 1 := by rw [Int32.lt_iff_toInt_lt]; rfl
  have z2 : p1 ≤ (2 : Int32) ↔ p1.toInt ≤ 2 := by rw [Int32.le_iff_toInt_le]; rfl
  obtain ⟨n, hn⟩ : ∃ n, N = n + 3 := ⟨N - 3, by omega⟩
  have refuse : f_X2_runScript N p1 p2 B = some (0, (1, B)) → (∃ v4, f_X3_runScript N p1 p2 S = f_X3_runScript_j62 N p1 p2 v4 1 S) → ∃ (R : Int32 × (Nat × zx_B)) (r : Int32) (S2 : zx_S), f_X2_runScript N p1 p2 B = some R ∧ f_X3_runScript N p1 p2 S = some (r, S2) ∧ ZInv R.2.2 S2 ∧ ((R.2.1 = 0 ∧ S2 12 0 = 0 ∧ R.1 = r) ∨ (R.2.1 = 1 ∧ S2 12 0 = 1)) := by
    intro h1 ⟨v4, h2⟩
    refine ⟨_, 0, _, h1, ?_, ZInv_ref (k := 1) hI, Or.inr ⟨rfl, by rw [st_at, up_at]⟩⟩
    rw [h2]
    unfold f_X3_runScript_j62
    rw [m_ref1, m_b2, if_neg (by decide)]
  -- the reference's power of ten
  have hstart : ∀ v4, (p1 = 1 ∧ v4 = 1000000000) ∨ (p1 = 2 ∧ v4 = 1000000000000000000) → f_X3_runScript N p1 p2 S = f_X3_runScript_j32 N p1 p2 v4 S := by
    intro v4 h
    unfold f_X3_runScript
    rw [show f_X3_runScript_l6 N N = f_X3_runScript_l6 N (n + 3) by rw [← hn]]
    rcases h with ⟨rfl, rfl⟩ | ⟨rfl, rfl⟩
    · rw [f_X3_runScript_l6, if_neg (by decide), if_neg (by decide), m_n, m_n, show (0 : Int32) + 1 = 1 by decide, show (1 : Int64) * 1000000000 = 1000000000 by decide, f_X3_runScript_l6, if_pos (by decide)]
    · rw [f_X3_runScript_l6, if_neg (by decide), if_neg (by decide), m_n, m_n, show (0 : Int32) + 1 = 1 by decide, show (1 : Int64) * 1000000000 = 1000000000 by decide, f_X3_runScript_l6, if_neg (by decide), if_neg (by decide), m_n, m_n, show (1 : Int32) + 1 = 2 by decide, show (1000000000 : Int64) * 1000000000 = 1000000000000000000 by decide, f_X3_runScript_l6, if_pos (by decide)]
  by_cases c : 1 ≤ p1.toInt ∧ p1.toInt ≤ 2
  · rw [if_pos c] at hin
    have hcase : p1 = 1 ∨ p1 = 2 := by
      rcases (show p1.toInt = 1 ∨ p1.toInt = 2 by omega) with z | z
      · exact Or.inl (Int32.toInt_inj.mp (by rw [z]; decide))
      · exact Or.inr (Int32.toInt_inj.mp (by rw [z]; decide))
    obtain ⟨v4, hv, hv1⟩ : ∃ v4 : Int64, ((p1 = 1 ∧ v4 = 1000000000) ∨ (p1 = 2 ∧ v4 = 1000000000000000000)) ∧ (v4 - 1).toInt = v4.toInt - 1 := by
      rcases hcase with z | z
      · exact ⟨1000000000, Or.inl ⟨z, rfl⟩, by decide⟩
      · exact ⟨1000000000000000000, Or.inr ⟨z, rfl⟩, by decide⟩
    have hst := hstart v4 hv
    have hi2 := m_in64 (N := N) (x := p2) (a := 0) (b := v4 - 1)
    rw [hv1, show (0 : Int64).toInt = 0 by decide] at hi2
    have hX2 : f_X2_runScript N p1 p2 B = if p2.toInt < 0 then some (0, (1, B)) else f_X2_runScript_j41 N p1 p2 p2 v4 B := by
      unfold f_X2_runScript f_X2_runScript_j45
      rw [if_neg (by rw [z1]; omega), if_pos (by rw [z2]; omega)]
      by_cases q : p2.toInt < 0
      · rw [if_pos (by rw [zcmp_lt]; exact q), if_pos q]
      · rw [if_neg (by rw [zcmp_lt]; exact q), if_neg q]
        rcases hv with ⟨z, zv⟩ | ⟨z, zv⟩
        · rw [if_pos z, zv]
        · rw [if_neg (by rw [z]; decide), zv]
    by_cases hr : 0 ≤ p2.toInt ∧ p2.toInt ≤ v4.toInt - 1
    · rw [if_pos hr] at hi2
      obtain ⟨T1, g, k1, k2, hQ2⟩ := z_copyT hN hQ0
      have hQ2' : zQ 2 ((zx_sb B 1 T1) 1) (zx_st S0 2 g) t := by rw [zsb_at]; exact hQ2
      have hrun : ∃ r B' S', f_X2_runScript_l69 N N p1 p2 0 (zx_sb B 1 T1) = some (r, (0, B')) ∧ f_X3_runScript_l86 N N p1 p2 v4 0 (zx_st S0 2 g) = some (r, S') ∧ zkt (zx_sb B 1 T1) B' (zx_st S0 2 g) S' := by
        rw [show f_X2_runScript_l69 N N = f_X2_runScript_l69 N (n + 3) by rw [← hn], show f_X3_runScript_l86 N N = f_X3_runScript_l86 N (n + 3) by rw [← hn]]
        rcases hv with ⟨z, zv⟩ | ⟨z, zv⟩
        · rw [z, zv]
          exact z_last hN (M := 0) (by decide) hr.1 hQ2' (n + 1) (n + 1)
        · rw [z, zv]
          rw [zv, show (1000000000000000000 : Int64).toInt = 1000000000000000000 by decide] at hr
          exact z_first hN hr.1 (by omega) hQ2' n n
      obtain ⟨r, B', S', a1, a2, a3⟩ := hrun
      obtain ⟨i1, i2⟩ := zkt_inv hI0 (B1 := zx_sb B 1 T1) (fun j hj => zsb_ne hj) (zfr_st (by simp) zfr_refl) a3 h120
      refine ⟨(r, (0, B')), r, S', ?_, ?_, i1, Or.inl ⟨rfl, i2, rfl⟩⟩
      · rw [hX2, if_neg (by omega)]
        unfold f_X2_runScript_j41
        rw [if_pos (by rw [zcmp_lt]; omega), k1, m_b1, m_n]
        exact a1
      · rw [hst]
        unfold f_X3_runScript_j32
        rw [hin, m_b1, if_neg (by decide), hi2, m_b1, if_neg (by decide)]
        unfold f_X3_runScript_j62
        rw [m_ref0, m_b2, if_pos rfl, ← eS0, k2, m_b1, m_n]
        exact a2
    · rw [if_neg hr] at hi2
      refine refuse ?_ ⟨v4, ?_⟩
      · rw [hX2]
        by_cases q : p2.toInt < 0
        · rw [if_pos q]
        · rw [if_neg q]
          unfold f_X2_runScript_j41 f_X2_runScript_j45
          rw [if_neg (by rw [zcmp_lt]; omega)]
      · rw [hst]
        unfold f_X3_runScript_j32 f_X3_runScript_j61
        rw [hin, m_b1, if_neg (by decide), hi2, m_b1, if_pos rfl]
  · rw [if_neg c] at hin
    refine refuse ?_ ?_
    · unfold f_X2_runScript f_X2_runScript_j10
      by_cases q : p1.toInt < 1
      · rw [if_pos (by rw [z1]; exact q)]
      · rw [if_neg (by rw [z1]; exact q), if_neg (by rw [z2]; omega)]
    · unfold f_X3_runScript
      rw [show f_X3_runScript_l6 N N = f_X3_runScript_l6 N (n + 3) by rw [← hn]]
      have hj : ∀ v4, f_X3_runScript_j32 N p1 p2 v4 S = f_X3_runScript_j62 N p1 p2 v4 1 S := by
        intro v4
        unfold f_X3_runScript_j32 f_X3_runScript_j61
        rw [hin, m_b1, if_pos rfl]
      have zz : ∀ k : Int32, p1 ≤ k ↔ p1.toInt ≤ k.toInt := fun k => Int32.le_iff_toInt_le
      rw [f_X3_runScript_l6]
      by_cases q0 : p1 ≤ 0
      · rw [if_pos q0]; exact ⟨1, hj 1⟩
      · have q3 : 2 < p1.toInt := by
          rw [zz] at q0
          have : (0 : Int32).toInt = 0 := by decide
          omega
        rw [if_neg q0, if_neg (by decide), m_n, m_n, show (0 : Int32) + 1 = 1 by decide, f_X3_runScript_l6, if_neg (by rw [zz]; show ¬ p1.toInt ≤ 1; omega), if_neg (by decide), m_n, m_n, show (1 : Int32) + 1 = 2 by decide, f_X3_runScript_l6, if_neg (by rw [zz]; show ¬ p1.toInt ≤ 2; omega), if_pos (by decide)]
        exact ⟨_, hj _⟩
