/-! the law is true -/
theorem zi_mask (y : Int32) : ∃ n, n < 2 ^ 31 ∧ y &&& 2147483647 = nI n := by
  refine ⟨y.toBitVec.toNat % 2 ^ 31, Nat.mod_lt _ (by decide), Int32.toBitVec_inj.mp (BitVec.eq_of_toNat_eq ?_)⟩
  rw [Int32.toBitVec_and, BitVec.toNat_and]
  show y.toBitVec.toNat &&& (2 ^ 31 - 1) = (BitVec.ofNat 32 (y.toBitVec.toNat % 2 ^ 31)).toNat
  rw [Nat.and_two_pow_sub_one_eq_mod, BitVec.toNat_ofNat, Nat.mod_eq_of_lt (a := y.toBitVec.toNat % 2 ^ 31)]
  exact Nat.lt_of_lt_of_le (Nat.mod_lt _ (by decide)) (by decide)
theorem zi_cell {L k : Nat} {xs : Nat → Int32} (hL : L ≤ 260) (hk : k < 1000) : ∃ n, n < 2 ^ 31 ∧ f_L_cell L xs (nI k) = some (nI n) := by
  unfold f_L_cell
  by_cases c : L ≤ k
  · obtain ⟨n, h1, h2⟩ := zi_mask (15518507 * (nI k + 3) + 10733)
    refine ⟨n, h1, ?_⟩
    rw [if_pos (show Int32.ofNat L ≤ nI k by rw [show Int32.ofNat L = nI L from rfl]; rw [nI_leI (by omega) (by omega)]; exact c), h2]
  · obtain ⟨n, h1, h2⟩ := zi_mask (xs k)
    refine ⟨n, h1, ?_⟩
    rw [if_neg (show ¬ Int32.ofNat L ≤ nI k by rw [show Int32.ofNat L = nI L from rfl]; rw [nI_leI (by omega) (by omega)]; exact c), m_rd (by omega) (by omega), h2]
theorem lw_l21 {N : Nat} (hN : 6000 < N) {L : Nat} {xs : Nat → Int32} (hL : L ≤ 260) : ∀ (d n k : Nat) (B C : zx_B) (S : zx_S), d < n → k + d = 28 → ZInv B S → ZInv C S → ∃ R, f_L_law_l21 N L xs n 1 (nI k) B C = some R ∧ R.1 = 1
  | 0, n + 1, k, B, C, S, hn, hk, hB, hC => by
    obtain rfl : k = 28 := by omega
    exact ⟨(1, (B, C)), by rw [f_L_law_l21, if_pos (by decide)], rfl⟩
  | d + 1, n + 1, k, B, C, S, hn, hk, hB, hC => by
    have h28 : ¬ (28 : Int32) ≤ nI k := by rw [show (28 : Int32) = nI 28 from rfl, nI_leI (by omega) (by omega)]; omega
    obtain ⟨x, hx, ex⟩ := zi_cell (L := L) (xs := xs) (k := 2 * k) hL (by omega)
    obtain ⟨y, hy, ey⟩ := zi_cell (L := L) (xs := xs) (k := 2 * k + 1) hL (by omega)
    obtain ⟨t, f, hK⟩ := zK_mk hB
    obtain ⟨B1, e1, h1⟩ := rf_all (N := N) hN hx hK
    obtain ⟨v2, B2, C2, S2, e2, g2, b2, c2⟩ := zdet_pair (u_act hN (nI x) (nI y)) h1.1 hC
    obtain ⟨t2, f2, hK2⟩ := zK_mk b2
    obtain ⟨B3, e3, h3⟩ := rf_all (N := N) hN hy hK2
    obtain ⟨B4, C4, S4, e4, b4, c4⟩ := al_all (N := N) (x := nI x) hN h3.1 c2
    have e2k : (2 : Int32) * nI k = nI (2 * k) := by rw [zl2, zi_mul]
    have e21 : nI (2 * k) + 1 = nI (2 * k + 1) := by rw [zl1, nI_add]
    have k5 : nI k - nI k / 5 * 5 = nI (k % 5) := zi_mod (b := 5) (by omega) (by decide)
    have k1 : nI k + 1 = nI (k + 1) := by rw [zl1, nI_add]
    rw [f_L_law_l21, if_neg h28, if_neg (show ¬ (1 : Int32) = 0 by decide), e2k, ex, m_b1, e21, ey, m_b1, e1, m_b2, if_neg (by decide), e2, m_b2, g2, m_b2, if_pos rfl, e3, m_b2, if_neg (by decide), e4, m_b2, if_neg (by decide)]
    unfold f_L_law_j106 f_L_law_j236
    rw [k5, m_n, k1]
    simp only [m_n]
    by_cases c : nI (k % 5) = 4
    · rw [if_pos c, if_neg (by decide)]
      obtain ⟨B5, C5, S5, e5, g5, b5, c5⟩ := hl_pair (N := N) hN hy b4 c4
      rw [e5, m_b2, if_neg (by decide), g5, m_b2, if_neg (by decide)]
      obtain ⟨q, eq⟩ : ∃ q, q = ((Int32.toInt64 (nI x)) * 3434251559) - 821 := ⟨_, rfl⟩
      obtain ⟨z, ez⟩ : ∃ z, z = (Int32.toInt64 (nI y)) * 400000 := ⟨_, rfl⟩
      obtain ⟨w, ew⟩ : ∃ w, w = nI y - nI y / 20 * 20 := ⟨_, rfl⟩
      unfold f_L_law_j142 f_L_law_j235
      rw [← eq, ← ez, ← ew, m_n2, m_n2]
      obtain ⟨v6, B6, C6, S6, e6, g6, b6, c6⟩ := zdet_pair (u_trySimulate hN q (1 + w)) b5 c5
      obtain ⟨v7, B7, C7, S7, e7, g7, b7, c7⟩ := zdet_pair (u_tryScript hN 2 z) b6 c6
      obtain ⟨B8, C8, S8, e8, b8, c8⟩ := al_all (N := N) (x := nI y) hN b7 c7
      rw [e6, m_b2, if_neg (by decide), m_n2, g6, m_b2, if_pos rfl, e7, m_b2, g7, m_b2, if_pos rfl, e8, m_b2, if_neg (by decide)]
      unfold f_L_law_j236
      rw [k1, m_n2]
      exact lw_l21 hN hL d n (k + 1) B8 C8 S8 (by omega) (by omega) b8 c8
    · rw [if_neg c]
      exact lw_l21 hN hL d n (k + 1) B4 C4 S4 (by omega) (by omega) b4 c4
/-- from the entry: the law comes to its end with true -/
theorem whole_start {p : Program} {e : Env} {s : State} {m : MethodId} {below : List Frame} {meth : Method} {c : Code} (l : Launch) (hflags : l.flags = flags0) {b L : Nat} {xs : Nat → Int32} (hL : L ≤ 260) (C0 : lw_At p s m meth c b L xs) : W p l e room_1 s m #[Value.ref b] below meth c s.heap [] 0 0 (lw_Z below #[Value.ref b] s) (entryFrame m ([Value.ref b] : List Value).toArray 10) := by
  have hlt : l.stackTraces = false := by
    unfold Launch.stackTraces
    rw [hflags]
    decide
  obtain ⟨R0, g0, e1, e2, _⟩ := z_clear (N := 6001) (by decide) (fun _ _ => 0) (fun _ => 0)
  have hI := z_inv0 (N := 6001) (by decide) e1 e2
  obtain ⟨R, h1, h2⟩ := lw_l21 (N := 6001) (by decide) (L := L) (xs := xs) hL 28 30 0 _ _ _ (by decide) rfl hI hI
  exact start_open l hlt hL C0 e1 h2 h1
