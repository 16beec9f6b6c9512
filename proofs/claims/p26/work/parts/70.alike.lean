/-! act: a function of the ghost -/
theorem zdet_n {S : zx_S} {α : Type} {a : α} {g : α → zx_B → Option (Int32 × zx_B)} (h : zdet (g a) S) : zdet (fun B => zx_n a (fun x => g x B)) S := h
theorem zdet_nz {S : zx_S} {y : Int32} {g : zx_B → Option (Int32 × zx_B)} (hy : ¬ y = 0) (h : zdet g S) : zdet (fun B => zx_nz y (g B)) S := by
  have e : (fun B => zx_nz y (g B)) = g := funext (fun B => if_neg hy)
  rw [e]; exact h
theorem zdet_if {S : zx_S} {c : Prop} [Decidable c] {g h : zx_B → Option (Int32 × zx_B)} (h1 : zdet g S) (h2 : zdet h S) : zdet (fun B => if c then g B else h B) S := by
  by_cases hc : c
  · have e : (fun B => if c then g B else h B) = g := funext (fun B => if_pos hc)
    rw [e]; exact h1
  · have e : (fun B => if c then g B else h B) = h := funext (fun B => if_neg hc)
    rw [e]; exact h2
section AC
variable {N : Nat} {S : zx_S}
theorem u_56 (hN : 6000 < N) (v : Int32) : zdet (f_L_act_j56 N v) S := zdet_bind (u_call hN _ _ _ _) (fun v _ => zdet_ret v)
theorem u_66 (hN : 6000 < N) (v w : Int32) : zdet (f_L_act_j66 N v w) S := by
  show zdet (fun B => f_L_act_j66 N v w B) S
  unfold f_L_act_j66
  exact zdet_n (zdet_n (zdet_n (zdet_n (zdet_bind (u_call hN _ _ _ _) (fun v _ => zdet_ret v)))))
theorem u_366 (hN : 6000 < N) (a b c d : Int32) : zdet (f_L_act_j366 N a b c d) S := zdet_bind (u_tryAdd hN _ _ _ _) (fun v _ => zdet_ret v)
theorem u_352 (hN : 6000 < N) (a b c d : Int32) : zdet (f_L_act_j352 N a b c d) S := zdet_if (u_366 hN _ _ _ _) (u_366 hN _ _ _ _)
theorem u_304 (hN : 6000 < N) (v1 v2 v4 t0 t1 : Int32) (h : ¬ t1 = 0) : zdet (f_L_act_j304 N v1 v2 v4 t0 t1) S := by
  show zdet (fun B => f_L_act_j304 N v1 v2 v4 t0 t1 B) S
  unfold f_L_act_j304
  exact zdet_nz h (zdet_n (zdet_n (zdet_n (zdet_n (zdet_n (zdet_n (zdet_n (zdet_if (u_352 hN _ _ _ _) (u_352 hN _ _ _ _)))))))))
theorem u_279 (hN : 6000 < N) (v1 v2 t0 t1 : Int32) (h : ¬ t1 = 0) : zdet (f_L_act_j279 N v1 v2 t0 t1) S := by
  show zdet (fun B => f_L_act_j279 N v1 v2 t0 t1 B) S
  unfold f_L_act_j279
  exact zdet_nz h (zdet_n (zdet_n (zdet_n (zdet_n (zdet_if (u_304 hN _ _ _ _ _ (by decide)) (u_304 hN _ _ _ _ _ (by decide)))))))
theorem u_act (hN : 6000 < N) (x y : Int32) : zdet (f_L_act N x y) S := by
  show zdet (fun B => f_L_act N x y B) S
  unfold f_L_act
  refine zdet_n (zdet_n ?_)
  refine zdet_if (u_56 hN _) ?_
  refine zdet_if (u_56 hN _) ?_
  refine zdet_if (u_66 hN _ _) ?_
  refine zdet_if (u_66 hN _ _) ?_
  refine zdet_if (zdet_bind (u_call hN _ _ _ _) (fun v _ => zdet_ret v)) ?_
  refine zdet_if (zdet_n (zdet_bind (u_call hN _ _ _ _) (fun v _ => zdet_ret v))) ?_
  refine zdet_if (zdet_n (zdet_bind (u_call hN _ _ _ _) (fun v _ => zdet_ret v))) ?_
  refine zdet_if ?_ (zdet_n (zdet_n (zdet_if (u_279 hN _ _ _ _ (by decide)) (u_279 hN _ _ _ _ (by decide)))))
  refine zdet_bind (u_clearText hN) (fun _ _ => zdet_n ?_)
  refine zdet_bind (u_call hN _ _ _ _) (fun _ _ => ?_)
  refine zdet_bind (u_call hN _ _ _ _) (fun _ _ => zdet_n (zdet_n ?_))
  refine zdet_bind (u_call hN _ _ _ _) (fun _ _ => zdet_n (zdet_n ?_))
  refine zdet_bind (u_call hN _ _ _ _) (fun _ _ => ?_)
  refine zdet_bind (u_call hN _ _ _ _) (fun _ _ => zdet_n (zdet_n ?_))
  refine zdet_bind (u_call hN _ _ _ _) (fun _ _ => ?_)
  refine zdet_bind (u_call hN _ _ _ _) (fun _ _ => zdet_n (zdet_n ?_))
  refine zdet_bind (u_call hN _ _ _ _) (fun _ _ => ?_)
  exact zdet_bind (u_call hN _ _ _ _) (fun _ _ => zdet_ret _)
end AC
/-! alike: two objects with one ghost are alike -/
section AL
variable {N : Nat} {x : Int32}
theorem al_243 (hN : 6000 < N) {B C : zx_B} {S : zx_S} (hB : ZInv B S) (hC : ZInv C S) : ∃ B' C' S', f_L_alike_j243 N x 1 B C = some (1, (B', C')) ∧ ZInv B' S' ∧ ZInv C' S' := by
  obtain ⟨a, ea⟩ : ∃ a, a = x - x / 100 * 100 := ⟨_, rfl⟩
  obtain ⟨b, eb⟩ : ∃ b, b = x / 128 - x / 128 / 100 * 100 := ⟨_, rfl⟩
  obtain ⟨r, er⟩ : ∃ r, r = x - x / 5 * 5 := ⟨_, rfl⟩
  obtain ⟨v1, B1, C1, S1, e1, g1, b1, c1⟩ := zdet_pair (u_tryWindow hN a b 99 99) hB hC
  obtain ⟨v2, B2, C2, S2, e2, g2, b2, c2⟩ := zdet_pair (u_tryLooks hN 0 0 a b) b1 c1
  obtain ⟨v3, B3, C3, S3, e3, g3, b3, c3⟩ := zdet_pair (u_tryChosen hN a b a b) b2 c2
  obtain ⟨v4, B4, C4, S4, e4, g4, b4, c4⟩ := zdet_pair (u_call hN 9 a b r) b3 c3
  refine ⟨B4, C4, S4, ?_, b4, c4⟩
  unfold f_L_alike_j243
  simp only [m_n]
  rw [if_neg (by decide), ← ea, ← eb, ← er, e1, m_b2, g1, m_b2, if_pos rfl, e2, m_b2, g2, m_b2, if_pos rfl, e3, m_b2, g3, m_b2, if_pos rfl, e4, m_b2, g4, m_b2, if_pos rfl]
theorem al_195 (hN : 6000 < N) : ∀ (d n k : Nat) (B C : zx_B) (S : zx_S), d < n → k + d = 24 → ZInv B S → ZInv C S → ∃ B' C' S', f_L_alike_l195 N n x 1 (nI k) B C = some (1, (B', C')) ∧ ZInv B' S' ∧ ZInv C' S'
  | 0, n + 1, k, B, C, S, hn, hk, hB, hC => by
    obtain rfl : k = 24 := by omega
    obtain ⟨B', C', S', e, b, c⟩ := al_243 (x := x) hN hB hC
    exact ⟨B', C', S', by rw [f_L_alike_l195, if_pos (by decide)]; exact e, b, c⟩
  | d + 1, n + 1, k, B, C, S, hn, hk, hB, hC => by
    have h24 : ¬ (24 : Int32) ≤ nI k := by rw [zl24, nI_leI (by omega) (by omega)]; omega
    obtain ⟨v1, B1, C1, S1, e1, g1, b1, c1⟩ := zdet_pair (u_call hN 2 (nI k) (x - x / 5 * 5) 0) hB hC
    obtain ⟨B', C', S', e, b, c⟩ := al_195 hN d n (k + 1) B1 C1 S1 (by omega) (by omega) b1 c1
    refine ⟨B', C', S', ?_, b, c⟩
    rw [f_L_alike_l195, if_neg h24, if_neg (by decide)]
    unfold f_L_alike_j236
    simp only [m_n]
    rw [e1, m_b2, g1, m_b2, if_pos rfl, show nI k + 1 = nI (k + 1) by rw [zl1, nI_add]]
    exact e
theorem al_141 (hN : 6000 < N) {K : Int32 → Int32 → Int32 → zx_B → zx_B → Option (Int32 × (zx_B × zx_B))} {v : Int32} : ∀ (d n k : Nat) (B C : zx_B) (S : zx_S), d < n → k + d = 4 → ZInv B S → ZInv C S → ∃ B' C' S', f_L_alike_l141 N K n x 1 v (nI k) B C = K x 1 (v + 1) B' C' ∧ ZInv B' S' ∧ ZInv C' S'
  | 0, n + 1, k, B, C, S, hn, hk, hB, hC => by
    obtain rfl : k = 4 := by omega
    refine ⟨B, C, S, ?_, hB, hC⟩
    rw [f_L_alike_l141, if_pos (by decide)]
    unfold f_L_alike_j186
    rw [m_n]
  | d + 1, n + 1, k, B, C, S, hn, hk, hB, hC => by
    have h24 : ¬ (4 : Int32) ≤ nI k := by rw [zl4, nI_leI (by omega) (by omega)]; omega
    obtain ⟨v1, B1, C1, S1, e1, g1, b1, c1⟩ := zdet_pair (u_call hN 4 v (nI k) 0) hB hC
    obtain ⟨B', C', S', e, b, c⟩ := al_141 hN (K := K) (v := v) d n (k + 1) B1 C1 S1 (by omega) (by omega) b1 c1
    refine ⟨B', C', S', ?_, b, c⟩
    rw [f_L_alike_l141, if_neg h24, if_neg (by decide)]
    unfold f_L_alike_j179
    simp only [m_n]
    rw [e1, m_b2, g1, m_b2, if_pos rfl, show nI k + 1 = nI (k + 1) by rw [zl1, nI_add]]
    exact e
theorem al_67 (hN : 6000 < N) : ∀ (d n k : Nat) (B C : zx_B) (S : zx_S), d < n → k + d = 24 → ZInv B S → ZInv C S → ∃ B' C' S', f_L_alike_l67 N n x 1 (nI k) B C = some (1, (B', C')) ∧ ZInv B' S' ∧ ZInv C' S'
  | d, n + 1, k, B, C, S, hn, hk, hB, hC => by
    obtain ⟨t, f, hK⟩ := zK_mk hB
    have hle := zdo_le hK.2.1.2.2.1
    obtain ⟨B0, e0, h0⟩ := rd_about1 (N := N) (by omega) hK
    have hB0 := h0.1
    by_cases c : (zdo t).length ≤ k
    · obtain ⟨B', C', S', e, b, c2⟩ := al_195 (x := x) hN 24 30 0 B0 C S (by omega) (by omega) hB0 hC
      refine ⟨B', C', S', ?_, b, c2⟩
      rw [f_L_alike_l67, e0, m_b2, if_pos (by rw [nI_leI (by omega) (by omega)]; exact c)]
      unfold f_L_alike_j192
      exact e
    · match d, hn, hk with
      | 0, hn, hk => omega
      | d + 1, hn, hk =>
        obtain ⟨v1, B1, C1, S1, e1, g1, b1, c1⟩ := zdet_pair (u_call hN 3 (nI k) (x - x / 7 * 7) 0) hB0 hC
        obtain ⟨v2, B2, C2, S2, e2, g2, b2, c2⟩ := zdet_pair (u_call hN 3 (nI k) 1 0) b1 c1
        obtain ⟨B3, C3, S3, e3, b3, c3⟩ := al_141 (x := x) hN (K := f_L_alike_l67 N n) (v := nI k) 4 30 0 B2 C2 S2 (by omega) (by omega) b2 c2
        obtain ⟨B', C', S', e, b, c⟩ := al_67 hN d n (k + 1) B3 C3 S3 (by omega) (by omega) b3 c3
        refine ⟨B', C', S', ?_, b, c⟩
        rw [f_L_alike_l67, e0, m_b2, if_neg (by rw [nI_leI (by omega) (by omega)]; assumption), if_neg (by decide)]
        unfold f_L_alike_j137
        simp only [m_n]
        rw [e1, m_b2, g1, m_b2, if_pos rfl, e2, m_b2, g2, m_b2, if_pos rfl]
        rw [show nI k + 1 = nI (k + 1) by rw [zl1, nI_add]] at e3
        exact e3.trans e
theorem al_20 (hN : 6000 < N) : ∀ (d n k : Nat) (B C : zx_B) (S : zx_S), d < n → k + d = 8 → ZInv B S → ZInv C S → ∃ B' C' S', f_L_alike_l20 N n x 1 (nI k) B C = some (1, (B', C')) ∧ ZInv B' S' ∧ ZInv C' S'
  | 0, n + 1, k, B, C, S, hn, hk, hB, hC => by
    obtain rfl : k = 8 := by omega
    obtain ⟨B', C', S', e, b, c⟩ := al_67 (x := x) hN 24 30 0 B C S (by omega) (by omega) hB hC
    exact ⟨B', C', S', by rw [f_L_alike_l20, if_pos (by decide)]; unfold f_L_alike_j64; exact e, b, c⟩
  | d + 1, n + 1, k, B, C, S, hn, hk, hB, hC => by
    have h24 : ¬ (8 : Int32) ≤ nI k := by rw [zl8, nI_leI (by omega) (by omega)]; omega
    obtain ⟨v1, B1, C1, S1, e1, g1, b1, c1⟩ := zdet_pair (u_call hN 1 (nI k) 0 0) hB hC
    obtain ⟨B', C', S', e, b, c⟩ := al_20 hN d n (k + 1) B1 C1 S1 (by omega) (by omega) b1 c1
    refine ⟨B', C', S', ?_, b, c⟩
    rw [f_L_alike_l20, if_neg h24, if_neg (by decide)]
    unfold f_L_alike_j57
    simp only [m_n]
    rw [e1, m_b2, g1, m_b2, if_pos rfl, show nI k + 1 = nI (k + 1) by rw [zl1, nI_add]]
    exact e
theorem al_all (hN : 6000 < N) {B C : zx_B} {S : zx_S} (hB : ZInv B S) (hC : ZInv C S) : ∃ B' C' S', f_L_alike N x B C = some (1, (B', C')) ∧ ZInv B' S' ∧ ZInv C' S' := by
  obtain ⟨v1, B1, C1, S1, e1, g1, b1, c1⟩ := zdet_pair (u_errorPosition hN) hB hC
  obtain ⟨B', C', S', e, b, c⟩ := al_20 (x := x) hN 8 30 0 B1 C1 S1 (by omega) (by omega) b1 c1
  refine ⟨B', C', S', ?_, b, c⟩
  unfold f_L_alike f_L_alike_j16
  rw [e1, m_b2, g1, m_b2, if_pos rfl]
  exact e
end AL
