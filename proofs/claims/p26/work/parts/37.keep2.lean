/-! and when a node is split -/
/-- t1 is t with the node s split in s and q -/
def zspl (t t1 : ZT) (s q : Nat) : Prop := zlv t1 = zlv (zL t q (zlv t s)) ∧ (zrt t1 = zrt t ∧ zpr t1 = zpr t ∧ zrc t1 = zrc t) ∧ (∀ j, j ≠ s → j ≠ q → zes t1 j = zes t j) ∧ (zes t1 s ++ zes t1 q).Perm (zes t s) ∧ 2 ≤ (zes t1 s).length ∧ 2 ≤ (zes t1 q).length
theorem zspl_uq {t t1 : ZT} {s q : Nat} (h : zspl t t1 s q) (hsq : s ≠ q) (hu : zuq t) : zuq t1 := by
  obtain ⟨c1, c2, c3, c4, c5, c6⟩ := h
  have hnd := c4.nodup_iff.mpr (hu.1 s)
  have hd := List.nodup_append.mp hnd
  have hms : ∀ x, x ∈ zes t1 s → x ∈ zes t s := fun x hx => c4.mem_iff.mp (List.mem_append_left _ hx)
  have hmq : ∀ x, x ∈ zes t1 q → x ∈ zes t s := fun x hx => c4.mem_iff.mp (List.mem_append_right _ hx)
  refine ⟨fun j => ?_, fun j j' x h1 h2 => ?_⟩
  · by_cases h1 : j = s
    · rw [h1]; exact hd.1
    · by_cases h2 : j = q
      · rw [h2]; exact hd.2.1
      · rw [c3 j h1 h2]; exact hu.1 j
  · by_cases a1 : j = s
    · by_cases b1 : j' = s
      · rw [a1, b1]
      · by_cases b2 : j' = q
        · exact absurd rfl (hd.2.2 x (a1 ▸ h1) x (b2 ▸ h2))
        · rw [c3 j' b1 b2] at h2
          exact absurd (hu.2 j' s x h2 (hms x (a1 ▸ h1))) b1
    · by_cases a2 : j = q
      · by_cases b1 : j' = s
        · exact absurd rfl (hd.2.2 x (b1 ▸ h2) x (a2 ▸ h1))
        · by_cases b2 : j' = q
          · rw [a2, b2]
          · rw [c3 j' b1 b2] at h2
            exact absurd (hu.2 j' s x h2 (hmq x (a2 ▸ h1))) b1
      · rw [c3 j a1 a2] at h1
        by_cases b1 : j' = s
        · exact absurd (hu.2 j s x h1 (hms x (b1 ▸ h2))) a1
        · by_cases b2 : j' = q
          · exact absurd (hu.2 j s x h1 (hmq x (b2 ▸ h2))) a1
          · rw [c3 j' b1 b2] at h2
            exact hu.2 j j' x h1 h2
theorem zspl_mem {t t1 : ZT} {s q : Nat} (h : zspl t t1 s q) (hesq : zes t q = []) (x : Nat) : (∃ j, x ∈ zes t1 j) ↔ ∃ j, x ∈ zes t j := by
  obtain ⟨c1, c2, c3, c4, c5, c6⟩ := h
  constructor
  · rintro ⟨j, hj⟩
    by_cases h1 : j = s
    · exact ⟨s, c4.mem_iff.mp (List.mem_append_left _ (h1 ▸ hj))⟩
    · by_cases h2 : j = q
      · exact ⟨s, c4.mem_iff.mp (List.mem_append_right _ (h2 ▸ hj))⟩
      · rw [c3 j h1 h2] at hj; exact ⟨j, hj⟩
  · rintro ⟨j, hj⟩
    by_cases h1 : j = s
    · rcases List.mem_append.mp (c4.mem_iff.mpr (h1 ▸ hj)) with z | z
      · exact ⟨s, z⟩
      · exact ⟨q, z⟩
    · by_cases h2 : j = q
      · rw [h2, hesq] at hj; cases hj
      · exact ⟨j, by rw [c3 j h1 h2]; exact hj⟩
theorem zspl_lv {t t1 : ZT} {s q : Nat} (h : zspl t t1 s q) : (∀ j, j ≠ q → zlv t1 j = zlv t j) ∧ zlv t1 q = zlv t s := by
  refine ⟨fun j hj => ?_, ?_⟩
  · rw [h.1, zL_ne hj]
  · rw [h.1, zL_at]
theorem zspl_4 {t t1 : ZT} {lo : List Nat} {s q un : Nat} (h : zspl t t1 s q) (hw : zwf t lo s un) (j : Nat) : (zes t1 j).length ≤ 4 := by
  obtain ⟨a1, a2, a3, a4, a5, a6, a7, a8, a9, a10, a11, a12⟩ := hw
  obtain ⟨c1, c2, c3, c4, c5, c6⟩ := h
  have h5 := (a10 s).1
  have hl := c4.length_eq
  rw [List.length_append] at hl
  by_cases h1 : j = s
  · rw [h1]; omega
  · by_cases h2 : j = q
    · rw [h2]; omega
    · rw [c3 j h1 h2]; exact (a10 j).2 h1
theorem zwf_split {t t1 : ZT} {lo : List Nat} {s q : Nat} (hw : zwf t lo s 99) (h : zspl t t1 s q) (hsq : s ≠ q) (hs0 : zlv t s ≠ 0) (hq : q < 24) (hq0 : zlv t q = 0) (hsr : s ≠ zrt t) : zwf t1 ((24 + q) :: lo) 99 99 := by
  have h4 := zspl_4 h hw
  obtain ⟨a1, a2, a3, a4, a5, a6, a7, a8, a9, a10, a11, a12⟩ := hw
  have hesq := a5 q hq0
  have hu := zspl_uq h hsq a1
  have hmm := zspl_mem h hesq
  obtain ⟨v1, v2⟩ := zspl_lv h
  obtain ⟨c1, ⟨d1, d2, d3⟩, c3, c4, c5, c6⟩ := h
  have hqi : ¬ (24 + q ∈ lo ∨ ∃ j, 24 + q ∈ zes t j) := fun z => by
    rcases (a3 _).mp z with z | z
    · omega
    · rw [Nat.add_sub_cancel_left] at z; exact z.2.2.1 hq0
  have hrq : zrt t ≠ q := fun z => a7.2 (by rw [z]; exact hq0)
  have hil : ∀ x, x ≠ 24 + q → zil t1 x = zil t x := fun x hx => by
    unfold zil
    by_cases h24 : x < 24
    · rw [if_pos h24, if_pos h24]
    · rw [if_neg h24, if_neg h24, v1 _ (by omega)]
  refine ⟨hu, ⟨List.nodup_cons.mpr ⟨fun z => hqi (Or.inl z), a2.1⟩, fun x hx j hj => ?_⟩, fun x => ?_, fun j x hx => ?_, fun j hj => ?_, fun j hj => ?_, ?_, fun j z1 z2 => ?_, fun j z1 z2 z3 => ?_, fun j => ⟨by have := h4 j; omega, fun _ => h4 j⟩, fun z1 z2 => ?_, ?_⟩
  · obtain ⟨j', hj'⟩ := (hmm x).mp ⟨j, hj⟩
    rcases List.mem_cons.mp hx with z | z
    · exact hqi (Or.inr ⟨j', z ▸ hj'⟩)
    · exact a2.2 x z j' hj'
  · rw [d2, d1]
    have h1 := a3 x
    by_cases hxq : x = 24 + q
    · constructor
      · intro _
        refine Or.inr ⟨by omega, by omega, ?_, by omega⟩
        rw [hxq, Nat.add_sub_cancel_left, v2]; exact hs0
      · intro _
        exact Or.inl (by rw [hxq]; simp)
    · have h2 : (x ∈ (24 + q) :: lo ∨ ∃ j, x ∈ zes t1 j) ↔ (x ∈ lo ∨ ∃ j, x ∈ zes t j) := by
        rw [hmm, List.mem_cons]
        constructor
        · rintro ((z | z) | z)
          · exact absurd z hxq
          · exact Or.inl z
          · exact Or.inr z
        · rintro (z | z)
          · exact Or.inl (Or.inr z)
          · exact Or.inr z
      rw [h2, h1]
      by_cases h24 : 24 ≤ x
      · rw [v1 (x - 24) (by omega)]
      · constructor
        · rintro (z | z)
          · exact Or.inl z
          · omega
        · rintro (z | z)
          · exact Or.inl z
          · omega
  · have hxq : x ≠ 24 + q := fun z => hqi (Or.inr ((hmm _).mp ⟨j, z ▸ hx⟩))
    rw [hil x hxq]
    by_cases h1 : j = s
    · rw [h1] at hx ⊢
      rw [v1 s hsq]
      exact a4 s x (c4.mem_iff.mp (List.mem_append_left _ hx))
    · by_cases h2 : j = q
      · rw [h2] at hx ⊢
        rw [v2]
        exact a4 s x (c4.mem_iff.mp (List.mem_append_right _ hx))
      · rw [c3 j h1 h2] at hx
        rw [v1 j h2]
        exact a4 j x hx
  · have h2 : j ≠ q := fun z => by rw [z, v2] at hj; exact hs0 hj
    rw [v1 j h2] at hj
    have h1 : j ≠ s := fun z => hs0 (z ▸ hj)
    rw [c3 j h1 h2]; exact a5 j hj
  · rw [v1 j (by omega)]; exact a6 j hj
  · rw [d1, v1 _ hrq]; exact a7
  · rw [d1] at z2 ⊢
    rw [v1 _ hrq]
    by_cases h2 : j = q
    · rw [h2, v2]; exact a8 s hs0 hsr
    · rw [v1 j h2] at z1 ⊢
      exact a8 j z1 z2
  · rw [d1] at z2
    by_cases h1 : j = s
    · rw [h1]; exact c5
    · by_cases h2 : j = q
      · rw [h2]; exact c6
      · rw [v1 j h2] at z1
        rw [c3 j h1 h2]; exact a9 j z1 z2 z3
  · rw [d1, v1 _ hrq] at z1
    rw [d1] at z2 ⊢
    rw [c3 _ (Ne.symm hsr) hrq]
    exact a11 z1 z2
  · rw [d2, d3]; exact a12
theorem zwf_splitR {t t1 : ZT} {lo : List Nat} {s q p : Nat} (hw : zwf t lo s 99) (h : zspl t t1 s q) (hsq : s ≠ q) (hq : q < 24) (hq0 : zlv t q = 0) (hsr : s = zrt t) (hp : p < 24) (hp0 : zlv t p = 0) (hpq : p ≠ q) : zwf (zR (zL t1 p (zlv t s + 1)) p) ((24 + s) :: (24 + q) :: lo) 99 p := by
  have h4 := zspl_4 h hw
  obtain ⟨a1, a2, a3, a4, a5, a6, a7, a8, a9, a10, a11, a12⟩ := hw
  have hesq := a5 q hq0
  have hs0 : zlv t s ≠ 0 := by rw [hsr]; exact a7.2
  have hs24 : s < 24 := by rw [hsr]; exact a7.1
  have hps : p ≠ s := fun z => hs0 (by rw [← z]; exact hp0)
  have hu := zspl_uq h hsq a1
  have hmm := zspl_mem h hesq
  obtain ⟨v1, v2⟩ := zspl_lv h
  obtain ⟨c1, ⟨d1, d2, d3⟩, c3, c4, c5, c6⟩ := h
  have hni : ∀ y, zlv t y = 0 → ¬ (24 + y ∈ lo ∨ ∃ j, 24 + y ∈ zes t j) := fun y hy z => by
    rcases (a3 _).mp z with z | z
    · omega
    · rw [Nat.add_sub_cancel_left] at z; exact z.2.2.1 hy
  have hqi := hni q hq0
  have hpi := hni p hp0
  have hsi : ¬ (24 + s ∈ lo ∨ ∃ j, 24 + s ∈ zes t j) := fun z => by
    rcases (a3 _).mp z with z | z
    · omega
    · rw [Nat.add_sub_cancel_left] at z; exact z.2.2.2 hsr
  obtain ⟨t2, et⟩ : ∃ t2, t2 = zR (zL t1 p (zlv t s + 1)) p := ⟨_, rfl⟩
  rw [← et]
  have hE : zes t2 = zes t1 := by rw [et]; rfl
  have hR : zrt t2 = p := by rw [et]; rfl
  have hP : zpr t2 = zpr t := by rw [et]; exact d2
  have hC : zrc t2 = zrc t := by rw [et]; exact d3
  have hVp : zlv t2 p = zlv t s + 1 := by rw [et]; exact zL_at
  have hVq : zlv t2 q = zlv t s := by rw [et, zR_lv, zL_ne (Ne.symm hpq)]; exact v2
  have hV : ∀ j, j ≠ p → j ≠ q → zlv t2 j = zlv t j := fun j h1 h2 => by rw [et, zR_lv, zL_ne h1]; exact v1 j h2
  have hesp : zes t1 p = [] := by rw [c3 p hps hpq]; exact a5 p hp0
  have hil : ∀ x, x ≠ 24 + q → x ≠ 24 + p → zil t2 x = zil t x := fun x hx hx2 => by
    unfold zil
    by_cases h24 : x < 24
    · rw [if_pos h24, if_pos h24]
    · rw [if_neg h24, if_neg h24, hV _ (by omega) (by omega)]
  have hle : ∀ j, zlv t j ≤ zlv t s := fun j => by
    by_cases h0 : zlv t j = 0
    · omega
    · by_cases hr : j = zrt t
      · rw [hr, hsr]; exact Nat.le_refl _
      · have := a8 j h0 hr; rw [hsr]; omega
  refine ⟨?_, ⟨?_, fun x hx j hj => ?_⟩, fun x => ?_, fun j x hx => ?_, fun j hj => ?_, fun j hj => ?_, ?_, fun j z1 z2 => ?_, fun j z1 z2 z3 => ?_, fun j => ?_, fun z1 z2 => ?_, ?_⟩
  · unfold zuq; rw [hE]; exact hu
  · refine List.nodup_cons.mpr ⟨fun z => ?_, List.nodup_cons.mpr ⟨fun z => hqi (Or.inl z), a2.1⟩⟩
    rcases List.mem_cons.mp z with z | z
    · omega
    · exact hsi (Or.inl z)
  · rw [hE] at hj
    obtain ⟨j', hj'⟩ := (hmm x).mp ⟨j, hj⟩
    rcases List.mem_cons.mp hx with z | z
    · exact hsi (Or.inr ⟨j', z ▸ hj'⟩)
    · rcases List.mem_cons.mp z with z | z
      · exact hqi (Or.inr ⟨j', z ▸ hj'⟩)
      · exact a2.2 x z j' hj'
  · rw [hP, hR, hE]
    have h1 := a3 x
    by_cases hxq : x = 24 + q
    · constructor
      · intro _
        refine Or.inr ⟨by omega, by omega, ?_, by omega⟩
        rw [hxq, Nat.add_sub_cancel_left, hVq]; exact hs0
      · intro _
        exact Or.inl (by rw [hxq]; simp)
    · by_cases hxs : x = 24 + s
      · constructor
        · intro _
          refine Or.inr ⟨by omega, by omega, ?_, by omega⟩
          rw [hxs, Nat.add_sub_cancel_left, hV s (Ne.symm hps) hsq]; exact hs0
        · intro _
          exact Or.inl (by rw [hxs]; simp)
      · have h2 : (x ∈ (24 + s) :: (24 + q) :: lo ∨ ∃ j, x ∈ zes t1 j) ↔ (x ∈ lo ∨ ∃ j, x ∈ zes t j) := by
          rw [hmm, List.mem_cons, List.mem_cons]
          constructor
          · rintro ((z | z | z) | z)
            · exact absurd z hxs
            · exact absurd z hxq
            · exact Or.inl z
            · exact Or.inr z
          · rintro (z | z)
            · exact Or.inl (Or.inr (Or.inr z))
            · exact Or.inr z
        rw [h2, h1]
        by_cases hxp : x = 24 + p
        · constructor
          · rintro (z | z)
            · omega
            · rw [hxp, Nat.add_sub_cancel_left] at z; exact absurd hp0 z.2.2.1
          · rintro (z | z)
            · omega
            · rw [hxp, Nat.add_sub_cancel_left] at z; exact absurd rfl z.2.2.2
        · by_cases h24 : 24 ≤ x
          · rw [hV (x - 24) (by omega) (by omega)]
            constructor
            · rintro (z | z)
              · exact Or.inl z
              · exact Or.inr ⟨z.1, z.2.1, z.2.2.1, by omega⟩
            · rintro (z | z)
              · exact Or.inl z
              · exact Or.inr ⟨z.1, z.2.1, z.2.2.1, by omega⟩
          · constructor
            · rintro (z | z)
              · exact Or.inl z
              · omega
            · rintro (z | z)
              · exact Or.inl z
              · omega
  · rw [hE] at hx
    have hxq : x ≠ 24 + q := fun z => hqi (Or.inr ((hmm _).mp ⟨j, z ▸ hx⟩))
    have hxp : x ≠ 24 + p := fun z => hpi (Or.inr ((hmm _).mp ⟨j, z ▸ hx⟩))
    rw [hil x hxq hxp]
    by_cases h1 : j = s
    · rw [h1] at hx ⊢
      rw [hV s (Ne.symm hps) hsq]
      exact a4 s x (c4.mem_iff.mp (List.mem_append_left _ hx))
    · by_cases h2 : j = q
      · rw [h2] at hx ⊢
        rw [hVq]
        exact a4 s x (c4.mem_iff.mp (List.mem_append_right _ hx))
      · have h3 : j ≠ p := fun z => by rw [z, hesp] at hx; cases hx
        rw [c3 j h1 h2] at hx
        rw [hV j h3 h2]
        exact a4 j x hx
  · rw [hE]
    have h2 : j ≠ q := fun z => by rw [z, hVq] at hj; exact hs0 hj
    have h3 : j ≠ p := fun z => by rw [z, hVp] at hj; omega
    rw [hV j h3 h2] at hj
    have h1 : j ≠ s := fun z => hs0 (z ▸ hj)
    rw [c3 j h1 h2]; exact a5 j hj
  · rw [hV j (by omega) (by omega)]; exact a6 j hj
  · rw [hR, hVp]; exact ⟨hp, by omega⟩
  · rw [hR] at z2 ⊢
    rw [hVp]
    by_cases h2 : j = q
    · rw [h2, hVq]; omega
    · rw [hV j z2 h2]; have := hle j; omega
  · rw [hR] at z2
    rw [hE]
    by_cases h1 : j = s
    · rw [h1]; exact c5
    · by_cases h2 : j = q
      · rw [h2]; exact c6
      · rw [hV j z2 h2] at z1
        rw [c3 j h1 h2]
        refine a9 j z1 (by rw [← hsr]; exact h1) (fun z => ?_)
        have := a6 j (by omega)
        exact z1 this
  · rw [hE]; exact ⟨by have := h4 j; omega, fun _ => h4 j⟩
  · exact absurd hR z2
  · rw [hP, hC]; exact a12
