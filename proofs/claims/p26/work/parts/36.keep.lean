/-! trees stay well made, step by step -/
theorem zwf_le4 {t : ZT} {lo : List Nat} {ov un : Nat} (h : zwf t lo ov un) (h4 : (zes t ov).length ≤ 4) : zwf t lo 99 un := by
  obtain ⟨a1, a2, a3, a4, a5, a6, a7, a8, a9, a10, a11, a12⟩ := h
  refine ⟨a1, a2, a3, a4, a5, a6, a7, a8, a9, fun s => ⟨(a10 s).1, fun _ => ?_⟩, a11, a12⟩
  by_cases hs : s = ov
  · rw [hs]; exact h4
  · exact (a10 s).2 hs
theorem zwf_un {t : ZT} {lo : List Nat} {ov un : Nat} (h : zwf t lo ov un) (h2 : 2 ≤ (zes t un).length) : zwf t lo ov 99 := by
  obtain ⟨a1, a2, a3, a4, a5, a6, a7, a8, a9, a10, a11, a12⟩ := h
  refine ⟨a1, a2, a3, a4, a5, a6, a7, a8, fun s z1 z2 _ => ?_, a10, fun z _ => ?_, a12⟩
  · by_cases hs : s = un
    · rw [hs]; exact h2
    · exact a9 s z1 z2 hs
  · by_cases hs : zrt t = un
    · rw [hs]; exact h2
    · exact a11 z hs
theorem zwf_put {t : ZT} {lo l m : List Nat} {s c un : Nat} (h : zwf t (c :: lo) 99 un) (he : zes t s = l ++ m) (hl : zlv t s = zil t c + 1) : zwf (zE t s (l ++ c :: m)) lo s un := by
  obtain ⟨⟨b1, b2⟩, a2, a3, a4, a5, a6, a7, a8, a9, a10, a11, a12⟩ := h
  have hmem : ∀ x, x ∈ l ++ c :: m ↔ x = c ∨ x ∈ zes t s := by
    intro x; rw [he]; simp only [List.mem_append, List.mem_cons]
    constructor
    · rintro (z | z | z)
      · exact Or.inr (Or.inl z)
      · exact Or.inl z
      · exact Or.inr (Or.inr z)
    · rintro (z | z | z)
      · exact Or.inr (Or.inl z)
      · exact Or.inl z
      · exact Or.inr (Or.inr z)
  have hlen : (l ++ c :: m).length = (zes t s).length + 1 := by rw [he]; simp; omega
  have hcs : ∀ j, c ∉ zes t j := a2.2 c (by simp)
  have hnd : (l ++ c :: m).Nodup := by
    have h1 := b1 s
    rw [he] at h1
    exact (List.perm_middle.nodup_iff).mpr (List.nodup_cons.mpr ⟨fun z => hcs s (by rw [he]; exact z), h1⟩)
  have hM : ∀ j x, x ∈ zes (zE t s (l ++ c :: m)) j ↔ (j = s ∧ x = c) ∨ x ∈ zes t j := by
    intro j x
    by_cases hj : j = s
    · rw [hj, zE_at, hmem]; simp
    · rw [zE_ne hj]; simp [hj]
  have hlo := List.nodup_cons.mp a2.1
  refine ⟨⟨fun j => ?_, fun j j' x h1 h2 => ?_⟩, ⟨hlo.2, fun x hx j hj => ?_⟩, fun x => ?_, fun j x hx => ?_, fun j hj => ?_, a6, a7, a8, fun j z1 z2 z3 => ?_, fun j => ?_, fun z1 z2 => ?_, a12⟩
  · by_cases hj : j = s
    · rw [hj, zE_at]; exact hnd
    · rw [zE_ne hj]; exact b1 j
  · rw [hM] at h1 h2
    rcases h1 with ⟨z1, z2⟩ | z1
    · rcases h2 with ⟨z3, z4⟩ | z3
      · rw [z1, z3]
      · exact absurd (z2 ▸ z3) (hcs j')
    · rcases h2 with ⟨z3, z4⟩ | z3
      · exact absurd (z4 ▸ z1) (hcs j)
      · exact b2 j j' x z1 z3
  · rw [hM] at hj
    rcases hj with ⟨z1, z2⟩ | z1
    · exact hlo.1 (z2 ▸ hx)
    · exact a2.2 x (List.mem_cons_of_mem _ hx) j z1
  · refine Iff.trans ?_ (a3 x)
    constructor
    · rintro (z | ⟨j, hj⟩)
      · exact Or.inl (List.mem_cons_of_mem _ z)
      · rw [hM] at hj
        rcases hj with ⟨z1, z2⟩ | z1
        · exact Or.inl (by rw [z2]; simp)
        · exact Or.inr ⟨j, z1⟩
    · rintro (z | ⟨j, hj⟩)
      · rcases List.mem_cons.mp z with z | z
        · exact Or.inr ⟨s, by rw [hM]; exact Or.inl ⟨rfl, z⟩⟩
        · exact Or.inl z
      · exact Or.inr ⟨j, by rw [hM]; exact Or.inr hj⟩
  · rw [zE_il, zE_lv]
    rw [hM] at hx
    rcases hx with ⟨z1, z2⟩ | z1
    · rw [z1, z2, hl]
    · exact a4 j x z1
  · rw [zE_lv] at hj
    have hjs : j ≠ s := fun z => by rw [z, hl] at hj; omega
    rw [zE_ne hjs]; exact a5 j hj
  · by_cases hj : j = s
    · have := a9 j z1 z2 z3
      rw [hj, zE_at, hlen]; rw [hj] at this; omega
    · rw [zE_ne hj]; exact a9 j z1 z2 z3
  · by_cases hj : j = s
    · refine ⟨?_, fun z => absurd hj z⟩
      have := (a10 s).2
      rw [hj, zE_at, hlen]
      rcases Nat.lt_or_ge s 24 with z | z
      · have := (a10 s).2 (by omega); omega
      · have := a6 s z; omega
    · rw [zE_ne hj]
      refine ⟨(a10 j).1, fun _ => ?_⟩
      rcases Nat.lt_or_ge j 24 with z | z
      · exact (a10 j).2 (by omega)
      · rw [a5 j (a6 j z)]; exact Nat.zero_le _
  · rw [zE_lv, zE_rt] at z1
    rw [zE_rt] at z2 ⊢
    by_cases hj : zrt t = s
    · have := a11 z1 z2
      rw [hj, zE_at, hlen]; rw [hj] at this; omega
    · rw [zE_ne hj]; exact a11 z1 z2
theorem zwf_take {t : ZT} {lo l m : List Nat} {s c ov un : Nat} (h : zwf t lo ov un) (he : zes t s = l ++ c :: m) (hun : un = 99 ∨ un = s) : zwf (zE t s (l ++ m)) (c :: lo) ov s := by
  obtain ⟨⟨b1, b2⟩, a2, a3, a4, a5, a6, a7, a8, a9, a10, a11, a12⟩ := h
  obtain ⟨n1, n2⟩ := zuq_nd ⟨b1, b2⟩ he
  have hc : c ∈ zes t s := by rw [he]; simp
  have hmem : ∀ x, x ∈ l ++ m ↔ x ≠ c ∧ x ∈ zes t s := by
    intro x; rw [he]; simp only [List.mem_append, List.mem_cons]
    constructor
    · rintro (z | z)
      · exact ⟨fun e => n1 (e ▸ z), Or.inl z⟩
      · exact ⟨fun e => n2 (e ▸ z), Or.inr (Or.inr z)⟩
    · rintro ⟨z0, z | z | z⟩
      · exact Or.inl z
      · exact absurd z z0
      · exact Or.inr z
  have hlen : (zes t s).length = (l ++ m).length + 1 := by rw [he]; simp; omega
  have hnd : (l ++ m).Nodup := by
    have h1 := b1 s
    rw [he] at h1
    exact (List.nodup_cons.mp ((List.perm_middle.nodup_iff).mp h1)).2
  have hM : ∀ j x, x ∈ zes (zE t s (l ++ m)) j ↔ x ≠ c ∧ x ∈ zes t j := by
    intro j x
    by_cases hj : j = s
    · rw [hj, zE_at, hmem]
    · rw [zE_ne hj]
      exact ⟨fun z => ⟨fun e => hj (b2 j s c (e ▸ z) hc), z⟩, fun z => z.2⟩
  refine ⟨⟨fun j => ?_, fun j j' x h1 h2 => ?_⟩, ⟨?_, fun x hx j hj => ?_⟩, fun x => ?_, fun j x hx => ?_, fun j hj => ?_, a6, a7, a8, fun j z1 z2 z3 => ?_, fun j => ?_, fun z1 z2 => ?_, a12⟩
  · by_cases hj : j = s
    · rw [hj, zE_at]; exact hnd
    · rw [zE_ne hj]; exact b1 j
  · rw [hM] at h1 h2
    exact b2 j j' x h1.2 h2.2
  · exact List.nodup_cons.mpr ⟨fun z => a2.2 c z s hc, a2.1⟩
  · rw [hM] at hj
    rcases List.mem_cons.mp hx with z | z
    · exact hj.1 z
    · exact a2.2 x z j hj.2
  · refine Iff.trans ?_ (a3 x)
    constructor
    · rintro (z | ⟨j, hj⟩)
      · rcases List.mem_cons.mp z with z | z
        · exact Or.inr ⟨s, by rw [z]; exact hc⟩
        · exact Or.inl z
      · rw [hM] at hj
        exact Or.inr ⟨j, hj.2⟩
    · rintro (z | ⟨j, hj⟩)
      · exact Or.inl (List.mem_cons_of_mem _ z)
      · by_cases hxc : x = c
        · exact Or.inl (by rw [hxc]; simp)
        · exact Or.inr ⟨j, by rw [hM]; exact ⟨hxc, hj⟩⟩
  · rw [zE_il, zE_lv]
    rw [hM] at hx
    exact a4 j x hx.2
  · rw [zE_lv] at hj
    have hjs : j ≠ s := fun z => by rw [z] at hj; rw [a5 s hj] at hc; cases hc
    rw [zE_ne hjs]; exact a5 j hj
  · rw [zE_ne z3]
    exact a9 j z1 z2 (by
      rcases hun with z | z
      · intro e
        have := a6 j (by omega)
        exact z1 this
      · rw [z]; exact z3)
  · by_cases hj : j = s
    · have := a10 s
      rw [hj, zE_at]
      exact ⟨by omega, fun z => by have := this.2 z; omega⟩
    · rw [zE_ne hj]; exact a10 j
  · rw [zE_lv, zE_rt] at z1
    rw [zE_rt] at z2 ⊢
    rw [zE_ne z2]
    exact a11 z1 (by
      rcases hun with z | z
      · have := a7.1; omega
      · rw [z]; exact z2)
/-- an empty node goes -/
theorem zwf_drop {t : ZT} {lo l m : List Nat} {s p ov : Nat} (h : zwf t lo ov s) (hs : s ≠ zrt t) (hs0 : zlv t s ≠ 0) (hes : zes t s = []) (he : zes t p = l ++ (24 + s) :: m) : zwf (zL (zE t p (l ++ m)) s 0) lo ov p := by
  obtain ⟨⟨b1, b2⟩, a2, a3, a4, a5, a6, a7, a8, a9, a10, a11, a12⟩ := h
  obtain ⟨n1, n2⟩ := zuq_nd ⟨b1, b2⟩ he
  have hc : 24 + s ∈ zes t p := by rw [he]; simp
  have hps : p ≠ s := fun z => by rw [z, hes] at hc; cases hc
  have hmem : ∀ x, x ∈ l ++ m ↔ x ≠ 24 + s ∧ x ∈ zes t p := by
    intro x; rw [he]; simp only [List.mem_append, List.mem_cons]
    constructor
    · rintro (z | z)
      · exact ⟨fun e => n1 (e ▸ z), Or.inl z⟩
      · exact ⟨fun e => n2 (e ▸ z), Or.inr (Or.inr z)⟩
    · rintro ⟨z0, z | z | z⟩
      · exact Or.inl z
      · exact absurd z z0
      · exact Or.inr z
  have hlen : (zes t p).length = (l ++ m).length + 1 := by rw [he]; simp; omega
  have hnd : (l ++ m).Nodup := by
    have h1 := b1 p
    rw [he] at h1
    exact (List.nodup_cons.mp ((List.perm_middle.nodup_iff).mp h1)).2
  have hM : ∀ j x, x ∈ zes (zL (zE t p (l ++ m)) s 0) j ↔ x ≠ 24 + s ∧ x ∈ zes t j := by
    intro j x
    rw [zL_es]
    by_cases hj : j = p
    · rw [hj, zE_at, hmem]
    · rw [zE_ne hj]
      exact ⟨fun z => ⟨fun e => hj (b2 j p _ (e ▸ z) hc), z⟩, fun z => z.2⟩
  have hE : ∀ j, j ≠ p → zes (zL (zE t p (l ++ m)) s 0) j = zes t j := fun j hj => zE_ne hj
  have hEp : zes (zL (zE t p (l ++ m)) s 0) p = l ++ m := zE_at
  have hV : ∀ j, j ≠ s → zlv (zL (zE t p (l ++ m)) s 0) j = zlv t j := fun j hj => zL_ne hj
  have hVs : zlv (zL (zE t p (l ++ m)) s 0) s = 0 := zL_at
  have hil : ∀ x, x ≠ 24 + s → zil (zL (zE t p (l ++ m)) s 0) x = zil t x := fun x hx => by
    unfold zil
    by_cases h24 : x < 24
    · rw [if_pos h24, if_pos h24]
    · rw [if_neg h24, if_neg h24, hV _ (by omega)]
  have hlos : 24 + s ∉ lo := fun z => a2.2 _ z p hc
  have hp0 : zlv t p ≠ 0 := fun z => by rw [a5 p z] at hc; cases hc
  refine ⟨⟨fun j => ?_, fun j j' x h1 h2 => ?_⟩, ⟨a2.1, fun x hx j hj => ?_⟩, fun x => ?_, fun j x hx => ?_, fun j hj => ?_, fun j hj => ?_, ?_, fun j z1 z2 => ?_, fun j z1 z2 z3 => ?_, fun j => ?_, fun z1 z2 => ?_, a12⟩
  · by_cases hj : j = p
    · rw [hj, hEp]; exact hnd
    · rw [hE j hj]; exact b1 j
  · rw [hM] at h1 h2
    exact b2 j j' x h1.2 h2.2
  · rw [hM] at hj
    exact a2.2 x hx j hj.2
  · show (x ∈ lo ∨ ∃ j, x ∈ zes (zL (zE t p (l ++ m)) s 0) j) ↔ (x < 24 ∧ zpr t x = true) ∨ (24 ≤ x ∧ x < 48 ∧ zlv (zL (zE t p (l ++ m)) s 0) (x - 24) ≠ 0 ∧ x - 24 ≠ zrt t)
    by_cases hxs : x = 24 + s
    · constructor
      · rintro (z | ⟨j, hj⟩)
        · exact absurd (hxs ▸ z) hlos
        · rw [hM] at hj; exact absurd hxs hj.1
      · rintro (z | z)
        · omega
        · rw [hxs, Nat.add_sub_cancel_left, hVs] at z
          exact absurd rfl z.2.2.1
    · have h1 := a3 x
      by_cases h24 : 24 ≤ x
      · rw [hV (x - 24) (by omega), ← h1]
        constructor
        · rintro (z | ⟨j, hj⟩)
          · exact Or.inl z
          · exact Or.inr ⟨j, ((hM j x).mp hj).2⟩
        · rintro (z | ⟨j, hj⟩)
          · exact Or.inl z
          · exact Or.inr ⟨j, (hM j x).mpr ⟨hxs, hj⟩⟩
      · constructor
        · rintro (z | ⟨j, hj⟩)
          · rcases h1.mp (Or.inl z) with z | z
            · exact Or.inl z
            · omega
          · rcases h1.mp (Or.inr ⟨j, ((hM j x).mp hj).2⟩) with z | z
            · exact Or.inl z
            · omega
        · rintro (z | z)
          · rcases h1.mpr (Or.inl z) with z | ⟨j, hj⟩
            · exact Or.inl z
            · exact Or.inr ⟨j, (hM j x).mpr ⟨hxs, hj⟩⟩
          · omega
  · rw [hM] at hx
    have hjs : j ≠ s := fun z => by rw [z, hes] at hx; cases hx.2
    rw [hil x hx.1, hV j hjs]
    exact a4 j x hx.2
  · by_cases hjs : j = s
    · rw [hjs, hE s (Ne.symm hps)]; exact hes
    · rw [hV j hjs] at hj
      have hjp : j ≠ p := fun z => hp0 (z ▸ hj)
      rw [hE j hjp]; exact a5 j hj
  · by_cases hjs : j = s
    · rw [hjs, hVs]
    · rw [hV j hjs]; exact a6 j hj
  · show zrt t < 24 ∧ zlv (zL (zE t p (l ++ m)) s 0) (zrt t) ≠ 0
    rw [hV _ (Ne.symm hs)]
    exact a7
  · show zlv (zL (zE t p (l ++ m)) s 0) j < zlv (zL (zE t p (l ++ m)) s 0) (zrt t)
    have hjs : j ≠ s := fun z => z1 (by rw [z]; exact hVs)
    rw [hV j hjs] at z1 ⊢
    rw [hV _ (Ne.symm hs)]
    exact a8 j z1 z2
  · have hjs : j ≠ s := fun z => z1 (by rw [z]; exact hVs)
    rw [hV j hjs] at z1
    rw [hE j z3]
    exact a9 j z1 z2 hjs
  · by_cases hj : j = p
    · have := a10 p
      rw [hj, hEp]
      exact ⟨by omega, fun z => by have := this.2 z; omega⟩
    · rw [hE j hj]; exact a10 j
  · have z1' : 1 < zlv (zL (zE t p (l ++ m)) s 0) (zrt t) := z1
    have z2' : zrt t ≠ p := z2
    show 2 ≤ (zes (zL (zE t p (l ++ m)) s 0) (zrt t)).length
    rw [hV _ (Ne.symm hs)] at z1'
    rw [hE _ z2']
    exact a11 z1' (Ne.symm hs)
/-- the root's only entry is the root -/
theorem zwf_down {t : ZT} {lo : List Nat} {n ov : Nat} (h : zwf t lo ov (zrt t)) (he : zes t (zrt t) = [24 + n]) (hlv : 1 < zlv t (zrt t)) (hlo : ∀ c, c ∈ lo → zil t c + 2 ≤ zlv t (zrt t)) : zwf (zR (zL (zE t (zrt t) []) (zrt t) 0) n) lo ov 99 := by
  obtain ⟨⟨b1, b2⟩, a2, a3, a4, a5, a6, a7, a8, a9, a10, a11, a12⟩ := h
  have hn : 24 + n ∈ zes t (zrt t) := by rw [he]; simp
  have hni := (a3 (24 + n)).mp (Or.inr ⟨_, hn⟩)
  have hni2 : n < 24 ∧ zlv t n ≠ 0 ∧ n ≠ zrt t := by
    rcases hni with z | z
    · omega
    · rw [Nat.add_sub_cancel_left] at z
      exact ⟨by omega, z.2.2.1, z.2.2.2⟩
  have hnl : zlv t n + 1 = zlv t (zrt t) := by
    have := a4 _ _ hn
    unfold zil at this
    rw [if_neg (by omega), Nat.add_sub_cancel_left] at this
    exact this
  obtain ⟨t', et⟩ : ∃ t', t' = zR (zL (zE t (zrt t) []) (zrt t) 0) n := ⟨_, rfl⟩
  rw [← et]
  have hE : ∀ j, j ≠ zrt t → zes t' j = zes t j := fun j hj => by rw [et]; exact zE_ne hj
  have hEr : zes t' (zrt t) = [] := by rw [et]; exact zE_at
  have hV : ∀ j, j ≠ zrt t → zlv t' j = zlv t j := fun j hj => by rw [et]; exact zL_ne hj
  have hVr : zlv t' (zrt t) = 0 := by rw [et]; exact zL_at
  have hR : zrt t' = n := by rw [et]; rfl
  have hP : zpr t' = zpr t := by rw [et]; rfl
  have hC : zrc t' = zrc t := by rw [et]; rfl
  have hrti : ∀ j, 24 + zrt t ∉ zes t j := fun j hj => by
    rcases (a3 _).mp (Or.inr ⟨j, hj⟩) with z | z
    · omega
    · rw [Nat.add_sub_cancel_left] at z; exact z.2.2.2 rfl
  have hrtl : 24 + zrt t ∉ lo := fun hj => by
    rcases (a3 _).mp (Or.inl hj) with z | z
    · omega
    · rw [Nat.add_sub_cancel_left] at z; exact z.2.2.2 rfl
  have hnlo : 24 + n ∉ lo := fun z => a2.2 _ z _ hn
  have hM : ∀ j x, x ∈ zes t' j ↔ x ≠ 24 + n ∧ x ∈ zes t j := by
    intro j x
    by_cases hj : j = zrt t
    · rw [hj, hEr, he]
      simp
    · rw [hE j hj]
      exact ⟨fun z => ⟨fun e => hj (b2 j _ _ (e ▸ z) hn), z⟩, fun z => z.2⟩
  have hil : ∀ x, x ≠ 24 + zrt t → zil t' x = zil t x := fun x hx => by
    unfold zil
    by_cases h24 : x < 24
    · rw [if_pos h24, if_pos h24]
    · rw [if_neg h24, if_neg h24, hV _ (by omega)]
  have hless : ∀ j, zlv t j ≠ 0 → j ≠ zrt t → j ≠ n → zlv t j < zlv t n := by
    intro j h1 h2 h3
    have h24 : j < 24 := by
      rcases Nat.lt_or_ge j 24 with z | z
      · exact z
      · exact absurd (a6 j z) h1
    rcases (a3 (24 + j)).mpr (Or.inr ⟨by omega, by omega, by rw [Nat.add_sub_cancel_left]; exact h1, by rw [Nat.add_sub_cancel_left]; exact h2⟩) with z | ⟨p, hp⟩
    · have := hlo _ z
      unfold zil at this
      rw [if_neg (by omega), Nat.add_sub_cancel_left] at this
      omega
    · have h4 := a4 p _ hp
      unfold zil at h4
      rw [if_neg (by omega), Nat.add_sub_cancel_left] at h4
      by_cases hpr : p = zrt t
      · rw [hpr, he] at hp
        have := List.mem_singleton.mp hp
        omega
      · have := a8 p (by omega) hpr
        omega
  refine ⟨⟨fun j => ?_, fun j j' x h1 h2 => ?_⟩, ⟨a2.1, fun x hx j hj => ?_⟩, fun x => ?_, fun j x hx => ?_, fun j hj => ?_, fun j hj => ?_, ?_, fun j z1 z2 => ?_, fun j z1 z2 z3 => ?_, fun j => ?_, fun z1 z2 => ?_, ?_⟩
  · by_cases hj : j = zrt t
    · rw [hj, hEr]; simp
    · rw [hE j hj]; exact b1 j
  · rw [hM] at h1 h2
    exact b2 j j' x h1.2 h2.2
  · rw [hM] at hj
    exact a2.2 x hx j hj.2
  · rw [hP, hR]
    by_cases hxn : x = 24 + n
    · constructor
      · rintro (z | ⟨j, hj⟩)
        · exact absurd (hxn ▸ z) hnlo
        · rw [hM] at hj; exact absurd hxn hj.1
      · rintro (z | z)
        · omega
        · omega
    · by_cases hxr : x = 24 + zrt t
      · constructor
        · rintro (z | ⟨j, hj⟩)
          · exact absurd (hxr ▸ z) hrtl
          · rw [hM] at hj; exact absurd (hxr ▸ hj.2) (hrti j)
        · rintro (z | z)
          · omega
          · rw [hxr, Nat.add_sub_cancel_left, hVr] at z
            exact absurd rfl z.2.2.1
      · have h1 := a3 x
        have h2 : (x ∈ lo ∨ ∃ j, x ∈ zes t' j) ↔ (x ∈ lo ∨ ∃ j, x ∈ zes t j) := by
          constructor
          · rintro (z | ⟨j, hj⟩)
            · exact Or.inl z
            · exact Or.inr ⟨j, ((hM j x).mp hj).2⟩
          · rintro (z | ⟨j, hj⟩)
            · exact Or.inl z
            · exact Or.inr ⟨j, (hM j x).mpr ⟨hxn, hj⟩⟩
        rw [h2, h1]
        by_cases h24 : 24 ≤ x
        · rw [hV (x - 24) (by omega)]
          constructor
          · rintro (z | z)
            · exact Or.inl z
            · exact Or.inr ⟨z.1, z.2.1, z.2.2.1, by omega⟩
          · rintro (z | z)
            · exact Or.inl z
            · exact Or.inr ⟨z.1, z.2.1, z.2.2.1, by omega⟩
        · constructor
          · rintro (z | z)
            · exact Or.inl z
            · omega
          · rintro (z | z)
            · exact Or.inl z
            · omega
  · rw [hM] at hx
    have hjr : j ≠ zrt t := fun z => by
      rw [z, he] at hx
      exact hx.1 (List.mem_singleton.mp hx.2)
    rw [hil x (fun z => hrti j (z ▸ hx.2)), hV j hjr]
    exact a4 j x hx.2
  · by_cases hjr : j = zrt t
    · rw [hjr, hEr]
    · rw [hV j hjr] at hj
      rw [hE j hjr]; exact a5 j hj
  · by_cases hjr : j = zrt t
    · rw [hjr, hVr]
    · rw [hV j hjr]; exact a6 j hj
  · rw [hR, hV n hni2.2.2]
    exact ⟨hni2.1, hni2.2.1⟩
  · have hjr : j ≠ zrt t := fun z => z1 (by rw [z]; exact hVr)
    rw [hR] at z2
    rw [hV j hjr] at z1
    rw [hR, hV j hjr, hV n hni2.2.2]
    exact hless j z1 hjr z2
  · have hjr : j ≠ zrt t := fun z => z1 (by rw [z]; exact hVr)
    rw [hV j hjr] at z1
    rw [hE j hjr]
    exact a9 j z1 hjr hjr
  · by_cases hjr : j = zrt t
    · rw [hjr, hEr]; exact ⟨by simp, fun _ => by simp⟩
    · rw [hE j hjr]; exact a10 j
  · rw [hR, hE n hni2.2.2]
    exact a9 n hni2.2.1 hni2.2.2 hni2.2.2
  · rw [hP, hC]; exact a12
