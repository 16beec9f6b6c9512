/-! ===== the maths layer: no machine from here on ===== -/
theorem zi_lit (n : Nat) : (OfNat.ofNat n : Int32) = nI n := rfl
theorem zi_lt {a b : Nat} (ha : a < 2 ^ 31) (hb : b < 2 ^ 31) : nI a < nI b ↔ a < b := nI_ltI ha hb
theorem zi_m1 {a : Nat} (h : a < 2 ^ 31) : ¬ nI a = -1 := by
  intro e
  have h1 : (nI a).toInt = (-1 : Int32).toInt := by rw [e]
  rw [nI_toInt h] at h1
  have h2 : (-1 : Int32).toInt = -1 := by decide
  omega
theorem zi_m2 {a : Nat} (h : a < 2 ^ 31) : ¬ nI a = -2 := by
  intro e
  have h1 : (nI a).toInt = (-2 : Int32).toInt := by rw [e]
  rw [nI_toInt h] at h1
  have h2 : (-2 : Int32).toInt = -2 := by decide
  omega
theorem m_n {α β : Type} (a : α) (k : α → β) : zx_n a k = k a := rfl
theorem m_b1 {α β : Type} (a : α) (k : α → Option β) : zx_b1 (some a) k = k a := rfl
theorem m_b2 {α γ β : Type} (a : α) (c : γ) (k : α → γ → Option β) : zx_b2 (some (a, c)) k = k a c := rfl
theorem m_rd {β : Type} {n j : Nat} {f : Nat → Int32} {k : Int32 → Option β} (h : j < n) (hn : n < 2 ^ 31) : zx_rd n f (nI j) k = k (f j) := by
  unfold zx_rd
  rw [if_neg (vp_in_nI h hn), nI_clamp (by omega)]
theorem m_wr {α β : Type} {n j : Nat} {x : α} {k : α → Option β} (h : j < n) (hn : n < 2 ^ 31) : zx_wr n (nI j) x k = k x := by
  unfold zx_wr
  rw [if_neg (vp_in_nI h hn)]
theorem m_get {N n j : Nat} {f : Nat → Int32} (h : j < n) (hn : n < 2 ^ 31) : f_X2_get N n (nI j) f = some (f j) := by
  unfold f_X2_get
  rw [if_neg (nI_pos (by omega)), if_neg (show ¬ Int32.ofNat n ≤ nI j from nI_ge h hn), m_rd h hn]
theorem m_put {N n j : Nat} {f : Nat → Int32} {v : Int32} (h : j < n) (hn : n < 2 ^ 31) : f_X2_put N n (nI j) v f = some (upd f j v) := by
  unfold f_X2_put
  rw [if_neg (nI_pos (by omega)), if_neg (show ¬ Int32.ofNat n ≤ nI j from nI_ge h hn), m_wr h hn, nI_clamp (by omega)]
theorem m_getO {N n j : Nat} {f : Nat → Int32} (h : n ≤ j) (hj : j < 2 ^ 31) : f_X2_get N n (nI j) f = some 0 := by
  unfold f_X2_get
  rw [if_neg (nI_pos (by omega)), if_pos (show Int32.ofNat n ≤ nI j from nI_le h hj)]
theorem m_putO {N n j : Nat} {f : Nat → Int32} {v : Int32} (h : n ≤ j) (hj : j < 2 ^ 31) : f_X2_put N n (nI j) v f = some f := by
  unfold f_X2_put
  rw [if_neg (nI_pos (by omega)), if_pos (show Int32.ofNat n ≤ nI j from nI_le h hj)]
/-- in(v, low, high) for an int between two written numbers -/
theorem m_in {N : Nat} {x : Int32} {lo hi : Int} {a b : Int64} (ha : a.toInt = lo) (hb : b.toInt = hi) : f_X3_in N (Int32.toInt64 x) a b = some (if lo ≤ x.toInt ∧ x.toInt ≤ hi then 1 else 0) := by
  have hc : ∀ p q : Int64, lg_cmp p q < 0 ↔ p < q := by
    intro p q
    unfold lg_cmp
    by_cases h1 : q < p
    · have h2 : ¬ p < q := by rw [Int64.lt_iff_toInt_lt] at *; omega
      simp [h1, h2]
    · by_cases h2 : q = p
      · subst h2
        simp [h1]
      · have h3 : p < q := by
          rw [Int64.lt_iff_toInt_lt] at *
          have : q.toInt ≠ p.toInt := fun e => h2 (Int64.toInt_inj.mp e)
          omega
        simp [h1, Ne.symm h2, h3]
  have hd : ∀ p q : Int64, 0 < lg_cmp p q ↔ q < p := by
    intro p q
    unfold lg_cmp
    by_cases h1 : q < p
    · simp [h1]
    · by_cases h2 : q = p
      · subst h2
        simp [h1]
      · simp [h1, Ne.symm h2]
  unfold f_X3_in
  have hx : (Int32.toInt64 x).toInt = x.toInt := by simp
  by_cases h1 : lg_cmp (Int32.toInt64 x) a < 0
  · rw [if_pos h1]
    rw [hc, Int64.lt_iff_toInt_lt, hx, ha] at h1
    rw [if_neg (by omega)]
  · rw [if_neg h1]
    rw [hc, Int64.lt_iff_toInt_lt, hx, ha] at h1
    by_cases h2 : 0 < lg_cmp (Int32.toInt64 x) b
    · rw [if_pos h2]
      rw [hd, Int64.lt_iff_toInt_lt, hx, hb] at h2
      rw [if_neg (by omega)]
    · rw [if_neg h2]
      rw [hd, Int64.lt_iff_toInt_lt, hx, hb] at h2
      rw [if_pos (by omega)]
/-- an Int32 that is none of the numbers 0 .. n-1, or one -/
theorem zi_cases (x : Int32) (n : Nat) (hn : n < 2 ^ 31) : (∃ j, j < n ∧ x = nI j) ∨ x.toInt < 0 ∨ (n : Int) ≤ x.toInt := by
  rcases Int.lt_or_le x.toInt 0 with h | h
  · exact Or.inr (Or.inl h)
  · rcases Int.lt_or_le x.toInt n with h2 | h2
    · exact Or.inl (vp_in_of (vp_in_iff.mpr ⟨h, h2⟩) hn)
    · exact Or.inr (Or.inr h2)
