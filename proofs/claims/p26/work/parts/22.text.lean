/-! append, clearText, the refusal -/
theorem st_at {S : zx_S} {j : Nat} {f : Nat → Int32} : zx_st S j f j = f := if_pos rfl
theorem st_ne {S : zx_S} {i j : Nat} {f : Nat → Int32} (h : i ≠ j) : zx_st S j f i = S i := if_neg h
theorem up_at {f : Nat → Int32} {k : Nat} {x : Int32} : upd f k x k = x := pk_us
theorem up_ne {f : Nat → Int32} {k j : Nat} {x : Int32} (h : j ≠ k) : upd f k x j = f j := pk_un h
theorem zsb_at {B : zx_B} {j : Nat} {S : zx_S} : zx_sb B j S j = S := if_pos rfl
theorem zsb_ne {B : zx_B} {i j : Nat} {S : zx_S} (h : i ≠ j) : zx_sb B j S i = B i := if_neg h
/-- what the invariant looks at -/
theorem ZInv_congr {B B' : zx_B} {S S' : zx_S} (hB : ∀ j, j < 18 → j ≠ 1 → B' j = B j) (h18 : B' 18 0 = B 18 0 ∧ B' 18 2 0 = B 18 2 0) (h19 : B' 19 = B 19) (hS : S' 0 = S 0 ∧ S' 1 = S 1 ∧ S' 3 = S 3 ∧ S' 4 = S 4 ∧ S' 5 = S 5) (h12 : S' 12 1 = S 12 1 ∧ S' 12 2 = S 12 2) (h : ZInv B S) : ZInv B' S' := by
  obtain ⟨h1, h2, h3, h4⟩ := h
  refine ⟨?_, ?_, ?_, ?_⟩
  · rw [hB 0 (by omega) (by omega), hS.2.1]; exact h1
  · rw [h18.1, h18.2, hS.1, h12.1]; exact h2
  · rw [h19, h12.2, hS.2.2.1]
    obtain ⟨a, o, ha, ho, e1, e2, e3, hh⟩ := h3
    refine ⟨a, o, ha, ho, e1, e2, e3, fun i hi => ?_⟩
    rw [hB _ (by omega) (by omega)]
    exact hh i hi
  · rw [h19, hS.2.2.2.1, hS.2.2.2.2]
    intro j hj
    rw [hB _ (by omega) (by omega)]
    exact h4 j hj
theorem m_ref0 {N : Nat} {S : zx_S} : f_X3_refused N 0 S = some (0, zx_st S 12 (upd (S 12) 0 0)) := by
  unfold f_X3_refused
  rw [m_n, if_pos (by decide)]
theorem m_ref1 {N : Nat} {S : zx_S} : f_X3_refused N 1 S = some (1, zx_st S 12 (upd (S 12) 0 1)) := by
  unfold f_X3_refused
  rw [m_n, if_neg (by decide)]
theorem m_ref2 {N : Nat} {S : zx_S} : f_X3_refused N 2 S = some (1, zx_st S 12 (upd (S 12) 0 2)) := by
  unfold f_X3_refused
  rw [m_n, if_neg (by decide)]
theorem m_ref3 {N : Nat} {S : zx_S} : f_X3_refused N 3 S = some (1, zx_st S 12 (upd (S 12) 0 3)) := by
  unfold f_X3_refused
  rw [m_n, if_neg (by decide)]
/-- a refusal changes nothing that counts -/
theorem ZInv_ref {B : zx_B} {S : zx_S} {k : Int32} (h : ZInv B S) : ZInv B (zx_st S 12 (upd (S 12) 0 k)) := by
  refine ZInv_congr (fun _ _ _ => rfl) ⟨rfl, rfl⟩ rfl ⟨?_, ?_, ?_, ?_, ?_⟩ ⟨?_, ?_⟩ h
  · exact st_ne (by decide)
  · exact st_ne (by decide)
  · exact st_ne (by decide)
  · exact st_ne (by decide)
  · exact st_ne (by decide)
  · rw [st_at, up_ne (by decide)]
  · rw [st_at, up_ne (by decide)]
theorem zi_le255 {x : Int32} : x ≤ 255 ↔ x.toInt ≤ 255 := by
  rw [Int32.le_iff_toInt_le]; rfl
theorem zi_lt0 {x : Int32} : x < 0 ↔ x.toInt < 0 := by
  rw [Int32.lt_iff_toInt_lt]; rfl
theorem op_append (N : Nat) : zs_append N ZInv := by
  intro p B S hI
  have hI0 := hI
  obtain ⟨h1, ⟨n, hn, e1, e2, hch⟩, h3, h4⟩ := hI
  have hin := m_in (N := N) (x := p) (lo := 0) (hi := 255) (a := 0) (b := 255) (by decide) (by decide)
  by_cases hr : 0 ≤ p.toInt ∧ p.toInt ≤ 255
  · have n1 : ¬ p < 0 := by rw [zi_lt0]; omega
    have n2 : p ≤ 255 := by rw [zi_le255]; omega
    rw [if_pos hr] at hin
    by_cases hf : n < 100
    · have e3 : B 18 2 0 < 100 := by rw [e1]; exact (show nI n < nI 100 from nI_lt hf (by decide))
      have e4 : ¬ S 12 1 = 100 := by
        rw [e2, show (100 : Int32) = nI 100 from rfl, nI_eq (by omega) (by omega)]
        omega
      have hlen : f_X0_lengthen N p (B 18) = some (nI (n + 1), zx_st (zx_st (B 18) 0 (upd (B 18 0) n p)) 2 (upd (B 18 2) 0 (nI (n + 1)))) := by
        unfold f_X0_lengthen
        rw [e1, m_put hf (by omega), m_b1, m_n, m_n]
        rw [show zx_st (B 18) 0 (upd (B 18 0) n p) 2 = B 18 2 from st_ne (by decide), e1, nI_1, st_at, up_at]
      have hc : f_X2_append N p B = some (nI (n + 1), (0, zx_sb B 18 (zx_st (zx_st (B 18) 0 (upd (B 18 0) n p)) 2 (upd (B 18 2) 0 (nI (n + 1)))))) := by
        unfold f_X2_append
        rw [if_neg n1, if_pos n2, if_pos e3, hlen, m_b2, m_n]
      obtain ⟨S2, eS2⟩ : ∃ S2, S2 = zx_st S 12 (upd (S 12) 0 0) := ⟨_, rfl⟩
      have s121 : S2 12 1 = nI n := by rw [eS2, st_at, up_ne (by decide), e2]
      obtain ⟨S3, eS3⟩ : ∃ S3, S3 = zx_st S2 0 (upd (S2 0) n p) := ⟨_, rfl⟩
      have s12 : S3 12 = S2 12 := by rw [eS3]; exact st_ne (by decide)
      have hm : f_X3_append N p S = some (nI (n + 1), zx_st S3 12 (upd (S3 12) 1 (nI (n + 1)))) := by
        unfold f_X3_append
        rw [hin, m_b1, if_neg (by decide), if_neg e4]
        unfold f_X3_append_j31
        rw [m_ref0, m_b2, if_pos rfl, ← eS2, s121, m_wr hf (by omega), nI_clamp (by omega), ← eS3, m_n, s12, s121, nI_1, st_at, up_at]
      obtain ⟨B2, eB2⟩ : ∃ B2, B2 = zx_sb B 18 (zx_st (zx_st (B 18) 0 (upd (B 18 0) n p)) 2 (upd (B 18 2) 0 (nI (n + 1)))) := ⟨_, rfl⟩
      rw [← eB2] at hc
      have b0 : ∀ j, j ≠ 18 → B2 j = B j := fun j hj => by rw [eB2, zsb_ne hj]
      have q0 : S2 0 = S 0 := by rw [eS2]; exact st_ne (by decide)
      obtain ⟨S4, eS4⟩ : ∃ S4, S4 = zx_st S3 12 (upd (S3 12) 1 (nI (n + 1))) := ⟨_, rfl⟩
      rw [← eS4] at hm
      have c0 : ∀ j, j ≠ 0 → j ≠ 12 → S4 j = S j := fun j h0 h12 => by rw [eS4, st_ne h12, eS3, st_ne h0, eS2, st_ne h12]
      have hI2 : ZInv B2 S4 := by
        refine ⟨?_, ⟨n + 1, by omega, ?_, ?_, fun i hi => ?_⟩, ?_, ?_⟩
        · rw [b0 0 (by decide), c0 1 (by decide) (by decide)]; exact h1
        · rw [eB2, zsb_at, st_at, up_at]
        · rw [eS4, st_at, up_at]
        · rw [eB2, zsb_at, st_ne (by decide), st_at, eS4, st_ne (by decide), eS3, st_at, q0]
          by_cases hin2 : i = n
          · subst hin2
            rw [up_at, up_at]
            exact ⟨rfl, hr⟩
          · rw [up_ne hin2, up_ne hin2]
            exact hch i (by omega)
        · obtain ⟨a, o, ha, ho, f1, f2, f3, hh⟩ := h3
          refine ⟨a, o, ha, ho, ?_, ?_, ?_, fun i hi => ?_⟩
          · rw [b0 19 (by decide)]; exact f1
          · rw [b0 19 (by decide)]; exact f2
          · rw [eS4, st_at, up_ne (by decide), s12, eS2, st_at, up_ne (by decide)]; exact f3
          · rw [b0 _ (by omega), c0 3 (by decide) (by decide)]; exact hh i hi
        · intro j hj
          rw [b0 19 (by decide), b0 (16 + j) (by omega), c0 5 (by decide) (by decide), c0 4 (by decide) (by decide)]
          exact h4 j hj
      refine ⟨_, _, _, hc, hm, hI2, Or.inl ⟨rfl, ?_, rfl⟩⟩
      rw [eS4, st_at, up_ne (by decide), s12, eS2, st_at, up_at]
    · have hn100 : n = 100 := by omega
      subst hn100
      have e3 : ¬ B 18 2 0 < 100 := by rw [e1]; exact (show ¬ nI 100 < nI 100 from nI_nlt (Nat.le_refl 100) (by decide))
      have hc : f_X2_append N p B = some (0, (2, B)) := by
        unfold f_X2_append
        rw [if_neg n1, if_pos n2, if_neg e3]
      have hm : f_X3_append N p S = some (0, zx_st S 12 (upd (S 12) 0 2)) := by
        unfold f_X3_append
        rw [hin, m_b1, if_neg (by decide), if_pos (show S 12 1 = 100 from e2)]
        unfold f_X3_append_j31
        rw [m_ref2, m_b2, if_neg (by decide)]
      exact ⟨_, _, _, hc, hm, ZInv_ref hI0, Or.inr (Or.inr ⟨rfl, by rw [st_at, up_at]⟩)⟩
  · rw [if_neg hr] at hin
    have hc : f_X2_append N p B = some (0, (1, B)) := by
      unfold f_X2_append
      by_cases n1 : p < 0
      · rw [if_pos n1]; rfl
      · rw [if_neg n1]
        have n2 : ¬ p ≤ 255 := by rw [zi_le255]; rw [zi_lt0] at n1; omega
        rw [if_neg n2]; rfl
    have hm : f_X3_append N p S = some (0, zx_st S 12 (upd (S 12) 0 1)) := by
      unfold f_X3_append
      rw [hin, m_b1, if_pos rfl]
      unfold f_X3_append_j31
      rw [m_ref1, m_b2, if_neg (by decide)]
    exact ⟨_, _, _, hc, hm, ZInv_ref hI0, Or.inr (Or.inl ⟨rfl, by rw [st_at, up_at]⟩)⟩
theorem op_clearText (N : Nat) : zs_clearText N ZInv := by
  intro B S hI
  obtain ⟨h1, ⟨n, hn, e1, e2, hch⟩, h3, h4⟩ := hI
  obtain ⟨S2, eS2⟩ : ∃ S2, S2 = zx_st S 12 (upd (S 12) 0 0) := ⟨_, rfl⟩
  have s121 : S2 12 1 = nI n := by rw [eS2, st_at, up_ne (by decide), e2]
  have hc : f_X2_clearText N B = some (nI n, zx_sb B 18 (zx_st (B 18) 2 (upd (B 18 2) 0 0))) := by
    unfold f_X2_clearText
    rw [m_n, e1]
  have hm : f_X3_clearText N S = some (nI n, zx_st S2 12 (upd (S2 12) 1 0)) := by
    unfold f_X3_clearText
    rw [m_n, m_n, ← eS2, s121]
  refine ⟨_, _, _, hc, hm, ?_, ⟨0, by omega, ?_, ?_, fun i hi => absurd hi (Nat.not_lt_zero i)⟩, ?_, ?_⟩
  · rw [zsb_ne (by decide), st_ne (by decide), eS2, st_ne (by decide)]
    exact h1
  · rw [zsb_at, st_at, up_at]; rfl
  · rw [st_at, up_at]; rfl
  · obtain ⟨a, o, ha, ho, f1, f2, f3, hh⟩ := h3
    refine ⟨a, o, ha, ho, ?_, ?_, ?_, fun i hi => ?_⟩
    · rw [zsb_ne (by decide)]; exact f1
    · rw [zsb_ne (by decide)]; exact f2
    · rw [st_at, up_ne (by decide), eS2, st_at, up_ne (by decide)]; exact f3
    · rw [zsb_ne (by omega), st_ne (by decide), eS2, st_ne (by decide)]; exact hh i hi
  · intro j hj
    rw [zsb_ne (by decide), zsb_ne (by omega), st_ne (by decide), st_ne (by decide), eS2, st_ne (by decide), st_ne (by decide)]
    exact h4 j hj
