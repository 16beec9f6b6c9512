/-! the kit's rows on bits (pasted: kit/laws/BITS.to-paste) -/
def bt (x : Int32) (i : Nat) : Bool := x.toBitVec.getLsbD i
theorem b_ext {x y : Int32} (h : ∀ i, i < 32 → bt x i = bt y i) : x = y := Int32.toBitVec_inj.mp (BitVec.eq_of_getLsbD_eq (fun i hi => h i hi))
theorem b_or (x y : Int32) (i : Nat) : bt (x ||| y) i = (bt x i || bt y i) := by unfold bt; rw [Int32.toBitVec_or, BitVec.getLsbD_or]
theorem b_and (x y : Int32) (i : Nat) : bt (x &&& y) i = (bt x i && bt y i) := by unfold bt; rw [Int32.toBitVec_and, BitVec.getLsbD_and]
theorem b_xor (x y : Int32) (i : Nat) : bt (x ^^^ y) i = (bt x i ^^ bt y i) := by unfold bt; rw [Int32.toBitVec_xor, BitVec.getLsbD_xor]
theorem b_big {x : Int32} {i : Nat} (h : 32 ≤ i) : bt x i = false := BitVec.getLsbD_of_ge _ _ h
theorem b_255 (i : Nat) : bt 255 i = decide (i < 8) := by
  rcases Nat.lt_or_ge i 32 with h | h
  · exact (by decide +kernel : ∀ i, i < 32 → bt 255 i = decide (i < 8)) i h
  · rw [b_big h, decide_eq_false (by omega)]
theorem b_65535 (i : Nat) : bt 65535 i = decide (i < 16) := by
  rcases Nat.lt_or_ge i 32 with h | h
  · exact (by decide +kernel : ∀ i, i < 32 → bt 65535 i = decide (i < 16)) i h
  · rw [b_big h, decide_eq_false (by omega)]
theorem b_m1 : ∀ i, i < 32 → bt (-1) i = true := by decide +kernel
theorem b_0 (i : Nat) : bt 0 i = false := BitVec.getLsbD_zero
theorem s_l : ∀ n, n < 32 → ((nI n &&& 31).toBitVec.smod 32).toNat = n := by decide +kernel
theorem s_u : ∀ n, n < 32 → (((nI n).toUInt32 &&& Int32.toUInt32 31).toBitVec % 32).toNat = n := by decide +kernel
theorem b_shl (n : Nat) (hn : n < 32) (x : Int32) {i : Nat} (hi : i < 32) : bt (x <<< (nI n &&& 31)) i = (decide (n ≤ i) && bt x (i - n)) := by
  unfold bt
  rw [Int32.toBitVec_shiftLeft]
  show (x.toBitVec <<< ((nI n &&& 31).toBitVec.smod 32).toNat).getLsbD i = _
  rw [s_l n hn, BitVec.getLsbD_shiftLeft]
  rcases Nat.lt_or_ge i n with h | h
  · simp [h, Nat.not_le.mpr h]
  · simp [hi, h, Nat.not_lt.mpr h]
theorem b_ushr (n : Nat) (hn : n < 32) (x : Int32) (i : Nat) : bt ((x.toUInt32 >>> ((nI n).toUInt32 &&& Int32.toUInt32 31)).toInt32) i = bt x (n + i) := by
  show (x.toUInt32 >>> ((nI n).toUInt32 &&& Int32.toUInt32 31)).toBitVec.getLsbD i = x.toUInt32.toBitVec.getLsbD (n + i)
  rw [UInt32.toBitVec_shiftRight]
  show (x.toUInt32.toBitVec >>> (((nI n).toUInt32 &&& Int32.toUInt32 31).toBitVec % 32).toNat).getLsbD i = _
  rw [s_u n hn, BitVec.getLsbD_ushiftRight]
theorem b_sshr (n : Nat) (hn : n < 32) (x : Int32) {i : Nat} (hi : i < 32) : bt (x >>> (nI n &&& 31)) i = if n + i < 32 then bt x (n + i) else bt x 31 := by
  unfold bt
  rw [Int32.toBitVec_shiftRight]
  show (x.toBitVec.sshiftRight ((nI n &&& 31).toBitVec.smod 32).toNat).getLsbD i = _
  rw [s_l n hn, BitVec.getLsbD_sshiftRight, BitVec.msb_eq_getLsbD_last]
  simp [hi]
theorem ts_nt' {x : Bool} (h : ¬ x = true) : x = false := by cases x <;> first | rfl | exact absurd rfl h
/-! a window's answer, by its bits -/
def zwl (p : Nat → Bool) : Nat → Nat → Int32 → Int32
  | 0, _, acc => acc
  | d + 1, k, acc => zwl p d (k + 1) (if p k = true then acc ||| (1 <<< (nI k &&& 31)) else acc)
theorem b_1 : ∀ j, j < 32 → bt 1 j = decide (j = 0) := by decide +kernel
theorem zwl_bt {p : Nat → Bool} : ∀ (d k : Nat) (acc : Int32), k + d = 24 → (∀ i, i < 32 → bt acc i = (decide (i < k) && p i)) → ∀ i, i < 32 → bt (zwl p d k acc) i = (decide (i < 24) && p i)
  | 0, k, acc, hk, h, i, hi => by
    rw [zwl, h i hi, show k = 24 by omega]
  | d + 1, k, acc, hk, h, i, hi => by
    rw [zwl]
    refine zwl_bt d (k + 1) _ (by omega) (fun j hj => ?_) i hi
    by_cases hp : p k = true
    · rw [if_pos hp, b_or, h j hj, b_shl k (by omega) 1 hj]
      by_cases c1 : j < k
      · have e1 : decide (k ≤ j) = false := decide_eq_false (by omega)
        have e2 : decide (j < k) = true := decide_eq_true c1
        have e3 : decide (j < k + 1) = true := decide_eq_true (by omega)
        rw [e1, e2, e3, Bool.false_and, Bool.or_false]
      · by_cases c2 : j = k
        · subst c2
          have e1 : decide (j < j) = false := decide_eq_false (by omega)
          have e3 : decide (j < j + 1) = true := decide_eq_true (by omega)
          have e4 : decide (j ≤ j) = true := decide_eq_true (by omega)
          rw [e1, e3, e4, hp, Nat.sub_self, b_1 0 (by omega)]
          rfl
        · have e2 : decide (j < k) = false := decide_eq_false c1
          have e3 : decide (j < k + 1) = false := decide_eq_false (by omega)
          have e5 : decide (j - k = 0) = false := decide_eq_false (by omega)
          rw [e2, e3, b_1 _ (by omega), e5, Bool.and_false, Bool.false_and]
          rfl
    · rw [if_neg hp, h j hj]
      by_cases c2 : j = k
      · subst c2
        rw [ts_nt' hp, Bool.and_false, Bool.and_false]
      · have e : decide (j < k) = decide (j < k + 1) := by
          by_cases c1 : j < k
          · rw [decide_eq_true c1, decide_eq_true (by omega)]
          · rw [decide_eq_false c1, decide_eq_false (by omega)]
        rw [e]
theorem zbit_on {x : Int32} {i : Nat} (hi : i < 24) : ((x >>> (nI i &&& 31)) &&& 1 = 1) ↔ bt x i = true := by
  have key : (x >>> (nI i &&& 31)) &&& 1 = if bt x i = true then 1 else 0 := by
    refine b_ext (fun j hj => ?_)
    rw [b_and, b_1 j hj]
    by_cases j0 : j = 0
    · subst j0
      rw [b_sshr i (by omega) x hj, if_pos (by omega), Nat.add_zero, decide_eq_true rfl, Bool.and_true]
      by_cases c : bt x i = true
      · rw [if_pos c, c]; rfl
      · rw [if_neg c, ts_nt' c, b_0]
    · rw [decide_eq_false j0, Bool.and_false]
      by_cases c : bt x i = true
      · rw [if_pos c, b_1 j hj, decide_eq_false j0]
      · rw [if_neg c, b_0]
  rw [key]
  by_cases c : bt x i = true
  · rw [if_pos c]; exact ⟨fun _ => c, fun _ => rfl⟩
  · rw [if_neg c]; exact ⟨fun z => absurd z (by decide), fun z => absurd z c⟩
