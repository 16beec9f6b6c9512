/-! scripts and turns -/
theorem zcmp_lt {p q : Int64} : lg_cmp p q < 0 ↔ p.toInt < q.toInt := by
  unfold lg_cmp
  by_cases h1 : q < p
  · have h2 : ¬ p.toInt < q.toInt := by rw [Int64.lt_iff_toInt_lt] at h1; omega
    simp [h1, h2]
  · by_cases h2 : q = p
    · subst h2
      simp
    · have h3 : p.toInt < q.toInt := by
        rw [Int64.lt_iff_toInt_lt] at *
        have : q.toInt ≠ p.toInt := fun e => h2 (Int64.toInt_inj.mp e)
        omega
      simp [h1, Ne.symm h2, h3]
theorem zcmp_gt {p q : Int64} : 0 < lg_cmp p q ↔ q.toInt < p.toInt := by
  unfold lg_cmp
  by_cases h1 : q < p
  · have h2 : q.toInt < p.toInt := by rw [Int64.lt_iff_toInt_lt] at h1; omega
    simp [h1, h2]
  · have h2 : ¬ q.toInt < p.toInt := by rw [Int64.lt_iff_toInt_lt] at h1; omega
    by_cases h3 : q = p
    · subst h3
      simp
    · simp [h1, Ne.symm h3, h2]
theorem m_in64 {N : Nat} {x a b : Int64} : f_X3_in N x a b = some (if a.toInt ≤ x.toInt ∧ x.toInt ≤ b.toInt then 1 else 0) := by
  unfold f_X3_in
  by_cases h1 : x.toInt < a.toInt
  · rw [if_pos (zcmp_lt.mpr h1), if_neg (by omega)]
  · rw [if_neg (fun h => h1 (zcmp_lt.mp h))]
    by_cases h2 : b.toInt < x.toInt
    · rw [if_pos (zcmp_gt.mpr h2), if_neg (by omega)]
    · rw [if_neg (fun h => h2 (zcmp_gt.mp h)), if_pos (by omega)]
theorem z64_div {x y : Int64} (hx : 0 ≤ x.toInt) (hy : 0 < y.toInt) : (x / y).toInt = x.toInt / y.toInt := by
  have h1 : x.toInt.tdiv y.toInt = x.toInt / y.toInt := Int.tdiv_eq_ediv_of_nonneg hx
  have h2 : 0 ≤ x.toInt / y.toInt := Int.ediv_nonneg hx (by omega)
  have h3 : x.toInt / y.toInt ≤ x.toInt := Int.ediv_le_self _ hx
  have h4 := Int64.toInt_lt x
  rw [Int64.toInt_div, h1, Int.bmod_def]
  generalize x.toInt / y.toInt = q at *
  split <;> omega
theorem z64_mod {x y : Int64} (hx : 0 ≤ x.toInt) (hy : 0 < y.toInt) : (x - x / y * y).toInt = x.toInt % y.toInt := by
  have hd := z64_div hx hy
  have h4 := Int64.toInt_lt x
  have h5 := Int.mul_ediv_add_emod x.toInt y.toInt
  have h6 := Int.emod_nonneg x.toInt (show y.toInt ≠ 0 by omega)
  have h7 := Int.emod_lt_of_pos x.toInt hy
  have h8 : 0 ≤ y.toInt * (x.toInt / y.toInt) := Int.mul_nonneg (by omega) (Int.ediv_nonneg hx (by omega))
  have hm : (x / y * y).toInt = y.toInt * (x.toInt / y.toInt) := by
    rw [Int64.toInt_mul, hd, Int.mul_comm, Int.bmod_def]
    generalize y.toInt * (x.toInt / y.toInt) = z at *
    split <;> omega
  rw [Int64.toInt_sub, hm, Int.bmod_def]
  generalize y.toInt * (x.toInt / y.toInt) = z at *
  split <;> omega
theorem z64_32 {x : Int64} {n : Nat} (h : x.toInt = n) (hn : n < 2 ^ 31) : Int64.toInt32 x = nI n := by
  apply Int32.toInt_inj.mp
  rw [Int64.toInt_toInt32, h, nI_toInt hn, Int.bmod_def]
  split <;> omega
theorem z_draw (x : Int64) : ∃ n, n < 2 ^ 31 ∧ Int64.toInt32 ((x).toUInt64 >>> ((33 : Int32).toInt64.toUInt64 &&& Int64.toUInt64 63)).toInt64 = nI n := by
  have e33 : ((33 : Int32).toInt64.toUInt64 &&& Int64.toUInt64 63) = (33 : UInt64) := by decide
  rw [e33]
  obtain ⟨v, ev⟩ : ∃ v, v = x.toUInt64 >>> (33 : UInt64) := ⟨_, rfl⟩
  rw [← ev]
  have hv : v.toNat < 2 ^ 31 := by
    rw [ev, UInt64.toNat_shiftRight, Nat.shiftRight_eq_div_pow]
    have h1 := x.toUInt64.toNat_lt
    have h2 : (33 : UInt64).toNat % 64 = 33 := by decide
    rw [h2]
    omega
  refine ⟨v.toNat, hv, z64_32 ?_ hv⟩
  show v.toBitVec.toInt = _
  rw [BitVec.toInt_eq_toNat_of_lt (by show 2 * v.toNat < 2 ^ 64; omega)]
  rfl
/-- what the trial keeps -/
def zkt (B B' : zx_B) (S S' : zx_S) : Prop := (∀ j, j ≠ 1 → B' j = B j) ∧ zfr [2, 6, 7, 8, 12] S S' ∧ zf12 S S'
theorem zkt_refl {B : zx_B} {S : zx_S} : zkt B B S S := ⟨fun _ _ => rfl, zfr_refl, zf12_refl⟩
theorem zkt_trans {B B1 B2 : zx_B} {S S1 S2 : zx_S} (h : zkt B B1 S S1) (h2 : zkt B1 B2 S1 S2) : zkt B B2 S S2 := ⟨fun j hj => (h2.1 j hj).trans (h.1 j hj), zfr_trans h.2.1 h2.2.1, zf12_trans h.2.2 h2.2.2⟩
theorem zkt_sb {B : zx_B} {T : zx_S} {S : zx_S} : zkt B (zx_sb B 1 T) S S := ⟨fun _ hj => zsb_ne hj, zfr_refl, zf12_refl⟩
/-- a removal on the trial -/
theorem z_trem {N : Nat} (hN : 6000 < N) {B : zx_B} {S : zx_S} {t : ZT} {i : Nat} (hQ : zQ 2 (B 1) S t) (hi : i < 24) (hp : zpr t i = true) : ∃ Tb T' S' t', f_X1_beginCall N (B 1) = some Tb ∧ f_X1_takeOut N (nI i) Tb = some T' ∧ f_X3_removeOn N 2 (nI i) S = some (nI (znd t' 32), S') ∧ zQ 2 T' S' t' ∧ 1 ≤ znd t' 32 ∧ znd t' 32 ≤ 32 ∧ zkt B (zx_sb B 1 T') S S' := by
  obtain ⟨Tb, T', S', t', g1, g2, g3, g4, g5, g6, g7, g8⟩ := z_removeOn (N := N) (w := 2) (by omega) (by decide) (by decide) (by decide) (by decide) hi hp hQ
  refine ⟨Tb, T', S', t', g1, g2, g3, g4, ?_, znd_le 32, fun j hj => zsb_ne hj, g7, g8⟩
  rw [← zdo_len g4.2.2.1]
  obtain ⟨u, eu⟩ := zdo_0 (t := t')
  rw [eu]; simp
theorem z_turn {N : Nat} (hN : 6000 < N) {B : zx_B} {S : zx_S} {t : ZT} {n : Nat} (hn : n < 2 ^ 31) (hQ : zQ 2 (B 1) S t) : ∃ B' S' t', f_X2_takeTurn N (nI n) B = some B' ∧ f_X3_turn N (nI n) S = some S' ∧ zQ 2 (B' 1) S' t' ∧ zkt B B' S S' := by
  have hN1 : 100 < N := by omega
  obtain ⟨c1, c2⟩ := z_count (N := N) hN1 hQ
  have hle := zct_le (t := t) 24
  have j24 : ∃ B' S' t', f_X2_takeTurn_j24 N (nI n) B = some B' ∧ f_X3_turn_j24 N (nI n) S = some S' ∧ zQ 2 (B' 1) S' t' ∧ zkt B B' S S' := by
    unfold f_X2_takeTurn_j24 f_X3_turn_j24
    simp only [m_n]
    obtain ⟨p, ep⟩ : ∃ p, p = nI n / 4 - nI n / 4 / 24 * 24 := ⟨_, rfl⟩
    rw [← ep]
    rcases z_has (N := N) hQ p with ⟨i, hi, e, hp, h1, h2⟩ | ⟨_, h1, h2⟩
    · obtain ⟨Tb, T', S', t', g1, g2, g3, g4, _, _, g5⟩ := z_trem hN hQ hi hp
      refine ⟨zx_sb B 1 T', S', t', ?_, ?_, by rw [zsb_at]; exact g4, g5⟩
      · rw [h1, m_b1, if_neg (by decide), g1, m_b1, zsb_at, e, g2, m_b1, zsb_sb]
      · rw [h2, m_b1, if_neg (by decide), e, g3, m_b2]
    · exact ⟨B, S, t, by rw [h1, m_b1, if_pos (by decide)], by rw [h2, m_b1, if_pos (by decide)], hQ, zkt_refl⟩
  have j58 : zct t 24 < 24 → ∃ B' S' t', f_X2_takeTurn_j60 N (nI n) B = some B' ∧ f_X3_turn_j58 N (nI n) S = some S' ∧ zQ 2 (B' 1) S' t' ∧ zkt B B' S S' := by
    intro h24
    have z4 : (4 : Int32) = nI 4 := rfl
    have z90 : (90 : Int32) = nI 90 := rfl
    have z512 : (512 : Int32) = nI 512 := rfl
    have z65536 : (65536 : Int32) = nI 65536 := rfl
    have z10 : (10 : Int32) = nI 10 := rfl
    have z1048576 : (1048576 : Int32) = nI 1048576 := rfl
    have b1 : n / 4 < 2 ^ 31 := by omega
    have b2 : n / 512 < 2 ^ 31 := by omega
    have b3 : n / 65536 < 2 ^ 31 := by omega
    have b4 : n / 1048576 < 2 ^ 31 := by omega
    obtain ⟨a, ea⟩ : ∃ a, a = n / 4 % 90 := ⟨_, rfl⟩
    obtain ⟨b, eb⟩ : ∃ b, b = n / 512 % 90 := ⟨_, rfl⟩
    obtain ⟨c, ec⟩ : ∃ c, c = n / 65536 % 10 := ⟨_, rfl⟩
    obtain ⟨d, ed⟩ : ∃ d, d = n / 1048576 % 10 := ⟨_, rfl⟩
    have hb : zbk (nI a) (nI b) (nI a + nI c) (nI b + nI d) := by
      unfold zbk
      rw [nI_add, nI_add, nI_toInt (by omega), nI_toInt (by omega), nI_toInt (by omega), nI_toInt (by omega)]
      omega
    obtain ⟨i, T', S', t', m1, m2, m3, _, m5, m6⟩ := z_try (N := N) hN hQ hb h24
    refine ⟨zx_sb B 1 T', S', t', ?_, ?_, by rw [zsb_at]; exact m3, fun j hj => zsb_ne hj, zfr_sub m5 (by decide), m6⟩
    · unfold f_X2_takeTurn_j60
      simp only [m_n]
      rw [z4, z512, z65536, z1048576, z90, z10, zi_div hn (by decide), zi_div hn (by decide), zi_div hn (by decide), zi_div hn (by decide), zi_mod b1 (by decide), zi_mod b2 (by decide), zi_mod b3 (by decide), zi_mod b4 (by decide), ← ea, ← eb, ← ec, ← ed, m1, m_b1]
    · unfold f_X3_turn_j58 f_X3_adds
      simp only [m_n]
      rw [z4, z512, z65536, z1048576, z90, z10, zi_div hn (by decide), zi_div hn (by decide), zi_div hn (by decide), zi_div hn (by decide), zi_mod b1 (by decide), zi_mod b2 (by decide), zi_mod b3 (by decide), zi_mod b4 (by decide), ← ea, ← eb, ← ec, ← ed]
      rcases z_isBox (N := N) (a := nI a) (b := nI b) (c := nI a + nI c) (d := nI b + nI d) with ⟨_, _, i2⟩ | ⟨hno, _, _⟩
      · rw [i2, m_b1, if_neg (by decide), c2, m_b1, zl24, if_neg (by rw [nI_eq (by omega) (by decide)]; omega), m2, m_b2, m_b2]
      · exact absurd hb hno
  unfold f_X2_takeTurn f_X3_turn
  rw [c1, c2, m_b1, m_b1]
  by_cases h24 : zct t 24 = 24
  · rw [h24, if_pos (by decide), if_pos (by decide)]; exact j24
  · have hne : ¬ nI (zct t 24) = 24 := by rw [zl24, nI_eq (by omega) (by decide)]; exact h24
    rw [if_neg hne, if_neg hne, m_n, m_n]
    by_cases q : nI n - nI n / 4 * 4 = 0
    · rw [if_pos q, if_pos q]
      by_cases q2 : nI (zct t 24) ≤ 0
      · rw [if_pos q2, if_pos q2]; exact j58 (by omega)
      · rw [if_neg q2, if_neg q2]; exact j24
    · rw [if_neg q, if_neg q]; exact j58 (by omega)
theorem z_sim_l {N : Nat} (hN : 6000 < N) {M : Nat} (hM : M ≤ 60) : ∀ (d n n' k : Nat) (v : Int64) (B : zx_B) (S : zx_S) (t : ZT), d < n → d < n' → k + d = M → zQ 2 (B 1) S t → ∃ r B' S', f_X2_simulate_l38 N n (nI M) v (nI k) B = some (r, (0, B')) ∧ f_X3_simulate_l45 N n' (nI M) v (nI k) S = some (r, S') ∧ zkt B B' S S'
  | 0, n + 1, n' + 1, k, v, B, S, t, hn, hn', hk, hQ => by
    have hN1 : 100 < N := by omega
    obtain rfl : k = M := by omega
    obtain ⟨T', e1, _, f1⟩ := m_nodes (N := N) hN1 hQ.1 hQ.2.2.1
    have hQ' : zQ 2 ((zx_sb B 1 T') 1) S t := by rw [zsb_at]; exact zQ_fr hQ (zfr_sub f1 (by decide)) rfl
    obtain ⟨c1, c2⟩ := z_count (N := N) hN1 hQ'
    have hn2 := r_nodes (N := N) hN1 hQ.2.1 (zwf_le10 hQ.2.2.1)
    rw [← zdo_len hQ.2.2.1] at hn2
    refine ⟨1000 * nI (zdo t).length + nI (zct t 24), zx_sb B 1 T', S, ?_, ?_, zkt_sb⟩
    · rw [f_X2_simulate_l38, if_pos (by rw [nI_leI (by omega) (by omega)]; omega), e1, m_b2, m_n, c1, m_b1]
    · rw [f_X3_simulate_l45, if_pos (by rw [nI_leI (by omega) (by omega)]; omega), hn2, m_b1, c2, m_b1]
  | d + 1, n + 1, n' + 1, k, v, B, S, t, hn, hn', hk, hQ => by
    obtain ⟨x, hx, ex⟩ := z_draw (v * 6364136223846793005 + 1442695040888963407)
    obtain ⟨B1, S1, t1, a1, a2, a3, a4⟩ := z_turn (n := x) hN hx hQ
    obtain ⟨r, B', S', b1, b2, b3⟩ := z_sim_l hN hM d n n' (k + 1) (v * 6364136223846793005 + 1442695040888963407) B1 S1 t1 (by omega) (by omega) (by omega) a3
    refine ⟨r, B', S', ?_, ?_, zkt_trans a4 b3⟩
    · rw [f_X2_simulate_l38, if_neg (by rw [nI_leI (by omega) (by omega)]; omega), m_n, ex, a1, m_b1, m_n, show nI k + 1 = nI (k + 1) by rw [zl1, nI_add]]
      exact b1
    · rw [f_X3_simulate_l45, if_neg (by rw [nI_leI (by omega) (by omega)]; omega), m_n, ex, a2, m_b1, m_n, show nI k + 1 = nI (k + 1) by rw [zl1, nI_add]]
      exact b2
theorem zkt_inv {B B1 B' : zx_B} {S S1 S' : zx_S} (hI : ZInv B S) (hB : ∀ j, j ≠ 1 → B1 j = B j) (hS : zfr [2] S S1) (h : zkt B1 B' S1 S') (h0 : S 12 0 = 0) : ZInv B' S' ∧ S' 12 0 = 0 := by
  have z12 : zf12 S S' := zf12_trans (zf12_eq (hS 12 (by decide))) h.2.2
  exact ⟨z_finT hI (fun j hj => by rw [h.1 j hj, hB j hj]) (zfr_trans (zfr_sub hS (by decide)) (zfr_sub h.2.1 (by decide))) z12, by rw [z12.1 0 (by decide)]; exact h0⟩
theorem op_simulate {N : Nat} (hN : 6000 < N) : zs_simulate N ZInv := by
  intro p1 p3 B S hI
  obtain ⟨t, S0, eS0, hQ, hQ0, fS0, h120, h121, h122, hI0⟩ := z_setup hI
  have hin := m_in (N := N) (x := p3) (lo := 1) (hi := 60) (a := 1) (b := 60) (by decide) (by decide)
  have z1 : p3 < (1 : Int32) ↔ p3.toInt < 1 := by rw [Int32.lt_iff_toInt_lt]; rfl
  have z60 : p3 ≤ (60 : Int32) ↔ p3.toInt ≤ 60 := by rw [Int32.le_iff_toInt_le]; rfl
  have refuse : f_X2_simulate N p1 p3 B = some (0, (1, B)) → f_X3_in N (Int32.toInt64 p3) 1 60 = some 0 → ∃ (R : Int32 × (Nat × zx_B)) (r : Int32) (S2 : zx_S), f_X2_simulate N p1 p3 B = some R ∧ f_X3_simulate N p1 p3 S = some (r, S2) ∧ ZInv R.2.2 S2 ∧ ((R.2.1 = 0 ∧ S2 12 0 = 0 ∧ R.1 = r) ∨ (R.2.1 = 1 ∧ S2 12 0 = 1)) := by
    intro h1 h2
    refine ⟨_, 0, _, h1, ?_, ZInv_ref (k := 1) hI, Or.inr ⟨rfl, by rw [st_at, up_at]⟩⟩
    unfold f_X3_simulate
    rw [h2, m_b1, if_pos rfl]
    unfold f_X3_simulate_j18
    rw [m_ref1, m_b2, if_neg (by decide)]
  by_cases c : 1 ≤ p3.toInt ∧ p3.toInt ≤ 60
  · rw [if_pos c] at hin
    rcases zi_cases p3 61 (by decide) with ⟨M, hM, e⟩ | z | z
    · obtain ⟨T1, g, k1, k2, hQ2⟩ := z_copyT hN hQ0
      obtain ⟨r, B', S', a1, a2, a3⟩ := z_sim_l hN (M := M) (by omega) M N N 0 p1 (zx_sb B 1 T1) (zx_st S0 2 g) t (by omega) (by omega) (by omega) (by rw [zsb_at]; exact hQ2)
      obtain ⟨i1, i2⟩ := zkt_inv hI0 (B1 := zx_sb B 1 T1) (fun j hj => zsb_ne hj) (zfr_st (by simp) zfr_refl) a3 h120
      refine ⟨(r, (0, B')), r, S', ?_, ?_, i1, Or.inl ⟨rfl, i2, rfl⟩⟩
      · unfold f_X2_simulate
        rw [if_neg (by rw [z1]; omega), if_pos (by rw [z60]; omega), k1, m_b1, m_n, e]
        exact a1
      · unfold f_X3_simulate
        rw [hin, m_b1, if_neg (by decide)]
        unfold f_X3_simulate_j18
        rw [m_ref0, m_b2, if_pos rfl, ← eS0, k2, m_b1, m_n, e]
        exact a2
    · omega
    · omega
  · rw [if_neg c] at hin
    refine refuse ?_ hin
    unfold f_X2_simulate f_X2_simulate_j11
    by_cases q : p3.toInt < 1
    · rw [if_pos (by rw [z1]; exact q)]
    · rw [if_neg (by rw [z1]; exact q), if_neg (by rw [z60]; omega)]
