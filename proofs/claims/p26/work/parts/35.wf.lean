/-! trees stay well made -/
theorem zsub_len : ∀ {l m : List Nat}, l.Nodup → (∀ x, x ∈ l → x ∈ m) → l.length ≤ m.length
  | [], _, _, _ => Nat.zero_le _
  | x :: l, m, hn, h => by
    obtain ⟨m1, m2, rfl⟩ := List.append_of_mem (h x (by simp))
    have h1 := List.nodup_cons.mp hn
    have := zsub_len (m := m1 ++ m2) h1.2 (fun y hy => by
      have h2 := h y (List.mem_cons_of_mem _ hy)
      have h3 : y ≠ x := fun z => h1.1 (z ▸ hy)
      simp only [List.mem_append, List.mem_cons] at h2 ⊢
      rcases h2 with z | z | z
      · exact Or.inl z
      · exact absurd z h3
      · exact Or.inr z)
    simp only [List.length_cons, List.length_append] at this ⊢
    omega
theorem zflat_nd {t : ZT} (hu : zuq t) : ∀ {L : List Nat}, L.Nodup → (L.flatMap (zes t)).Nodup
  | [], _ => by simp
  | s :: L, h => by
    have h1 := List.nodup_cons.mp h
    rw [List.flatMap_cons, List.nodup_append]
    refine ⟨hu.1 s, zflat_nd hu h1.2, fun x hx y hy e => ?_⟩
    obtain ⟨s', hs', hy'⟩ := List.mem_flatMap.mp hy
    have : s = s' := hu.2 s s' x hx (by rw [e]; exact hy')
    exact h1.1 (this ▸ hs')
theorem zflat_len {t : ZT} : ∀ {L : List Nat}, (∀ s, s ∈ L → 2 ≤ (zes t s).length) → 2 * L.length ≤ (L.flatMap (zes t)).length
  | [], _ => by simp
  | s :: L, h => by
    have h1 := h s (by simp)
    have h2 := zflat_len (L := L) (fun x hx => h x (List.mem_cons_of_mem _ hx))
    rw [List.flatMap_cons, List.length_append, List.length_cons]
    omega
theorem zflat_len5 {t : ZT} : ∀ {L : List Nat} {s : Nat}, s ∈ L → (zes t s).length = 5 → (∀ x, x ∈ L → 2 ≤ (zes t x).length) → 2 * L.length + 3 ≤ (L.flatMap (zes t)).length
  | [], _, h, _, _ => by cases h
  | x :: L, s, hm, h5, h => by
    rw [List.flatMap_cons, List.length_append, List.length_cons]
    rcases List.mem_cons.mp hm with z | z
    · have h2 := zflat_len (t := t) (L := L) (fun y hy => h y (List.mem_cons_of_mem _ hy))
      rw [← z]
      omega
    · have h1 := h x (by simp)
      have h2 := zflat_len5 z h5 (fun y hy => h y (List.mem_cons_of_mem _ hy))
      omega
/-- the slots of a level -/
def zsl (t : ZT) (v : Nat) : List Nat := (List.range 24).filter (fun s => decide (zlv t s = v))
theorem zsl_mem {t : ZT} {v s : Nat} : s ∈ zsl t v ↔ s < 24 ∧ zlv t s = v := by
  unfold zsl
  rw [List.mem_filter, List.mem_range, decide_eq_true_iff]
theorem zsl_nd {t : ZT} {v : Nat} : (zsl t v).Nodup := List.nodup_range.filter _
theorem zwf_lv {t : ZT} {lo : List Nat} {ov un : Nat} (h : zwf t lo ov un) (hun : 24 ≤ un) : zlv t (zrt t) ≤ 4 := by
  obtain ⟨a1, a2, a3, a4, a5, a6, a7, a8, a9, a10, a11, a12⟩ := h
  have step : ∀ v, 1 ≤ v → 2 * (zsl t (v + 1)).length ≤ (zsl t v).length := by
    intro v hv
    have h1 : 2 * (zsl t (v + 1)).length ≤ ((zsl t (v + 1)).flatMap (zes t)).length := by
      refine zflat_len (fun s hs => ?_)
      rw [zsl_mem] at hs
      by_cases hr : s = zrt t
      · rw [hr]; rw [hr] at hs; exact a11 (by omega) (by omega)
      · exact a9 s (by omega) hr (by omega)
    have h2 : ((zsl t (v + 1)).flatMap (zes t)).length ≤ ((zsl t v).map (fun s => 24 + s)).length := by
      refine zsub_len (zflat_nd a1 zsl_nd) (fun x hx => ?_)
      obtain ⟨s, hs, hxs⟩ := List.mem_flatMap.mp hx
      rw [zsl_mem] at hs
      have h3 := a4 s x hxs
      have h4 := (a3 x).mp (Or.inr ⟨s, hxs⟩)
      unfold zil at h3
      rw [List.mem_map]
      rcases h4 with ⟨z1, z2⟩ | ⟨z1, z2, z3, z4⟩
      · rw [if_pos z1] at h3; omega
      · rw [if_neg (by omega)] at h3
        exact ⟨x - 24, zsl_mem.mpr ⟨by omega, by omega⟩, by omega⟩
    rw [List.length_map] at h2
    omega
  have base : 1 < zlv t (zrt t) → 2 * (zsl t 1).length ≤ 24 := by
    intro hR
    have h1 : 2 * (zsl t 1).length ≤ ((zsl t 1).flatMap (zes t)).length := by
      refine zflat_len (fun s hs => ?_)
      rw [zsl_mem] at hs
      refine a9 s (by omega) (fun z => ?_) (by omega)
      rw [z] at hs
      omega
    have h2 : ((zsl t 1).flatMap (zes t)).length ≤ (List.range 24).length := by
      refine zsub_len (zflat_nd a1 zsl_nd) (fun x hx => ?_)
      obtain ⟨s, hs, hxs⟩ := List.mem_flatMap.mp hx
      rw [zsl_mem] at hs
      have h3 := a4 s x hxs
      have h4 := (a3 x).mp (Or.inr ⟨s, hxs⟩)
      unfold zil at h3
      rw [List.mem_range]
      rcases h4 with ⟨z1, z2⟩ | ⟨z1, z2, z3, z4⟩
      · exact z1
      · rw [if_neg (by omega)] at h3; omega
    rw [List.length_range] at h2
    omega
  have grow : ∀ j, j < zlv t (zrt t) → 2 ^ j ≤ (zsl t (zlv t (zrt t) - j)).length := by
    intro j
    induction j with
    | zero =>
      intro _
      have : zrt t ∈ zsl t (zlv t (zrt t) - 0) := zsl_mem.mpr ⟨a7.1, rfl⟩
      exact List.length_pos_of_mem this
    | succ j ih =>
      intro hj
      have h1 := ih (by omega)
      have h2 := step (zlv t (zrt t) - (j + 1)) (by omega)
      rw [show zlv t (zrt t) - (j + 1) + 1 = zlv t (zrt t) - j by omega] at h2
      rw [Nat.pow_succ]
      omega
  rcases Nat.lt_or_ge 4 (zlv t (zrt t)) with hR | hR
  · have h1 := grow (zlv t (zrt t) - 1) (by omega)
    have h2 := base (by omega)
    rw [show zlv t (zrt t) - (zlv t (zrt t) - 1) = 1 by omega] at h1
    have h3 : 2 ^ 4 ≤ 2 ^ (zlv t (zrt t) - 1) := Nat.pow_le_pow_right (by decide) (by omega)
    omega
  · exact hR
theorem zwf_zb {t : ZT} {lo : List Nat} {ov un : Nat} (h : zwf t lo ov un) (hR : zlv t (zrt t) ≤ 6) : zb t := by
  obtain ⟨a1, a2, a3, a4, a5, a6, a7, a8, a9, a10, a11, a12⟩ := h
  refine ⟨fun s e he => ?_, a5, a6, fun s => (a10 s).1, fun s => ?_⟩
  · have h4 := (a3 e).mp (Or.inr ⟨s, he⟩)
    rcases h4 with ⟨z1, z2⟩ | ⟨z1, z2, z3, z4⟩
    · exact ⟨by omega, a4 s e he, fun z => by omega⟩
    · exact ⟨z2, a4 s e he, fun _ => z3⟩
  · by_cases h0 : zlv t s = 0
    · omega
    · by_cases hr : s = zrt t
      · rw [hr]; exact hR
      · have := a8 s h0 hr; omega
theorem zwf_gd {t : ZT} {lo : List Nat} {ov un : Nat} (h : zwf t lo ov un) (hun : zlv t un ≠ 0 → zes t un ≠ []) {c : Nat} (hc : c ∈ lo ∨ ∃ s, c ∈ zes t s) : zgd t c := by
  obtain ⟨a1, a2, a3, a4, a5, a6, a7, a8, a9, a10, a11, a12⟩ := h
  rcases (a3 c).mp hc with ⟨z1, z2⟩ | ⟨z1, z2, z3, z4⟩
  · exact Or.inl ⟨z1, z2⟩
  · refine Or.inr ⟨z1, z2, z3, ?_⟩
    by_cases hu : c - 24 = un
    · rw [hu] at z3 ⊢; exact hun z3
    · have := a9 (c - 24) z3 z4 hu
      intro z
      rw [z] at this
      simp at this
theorem zwf_zg {t : ZT} {lo : List Nat} {ov un : Nat} (h : zwf t lo ov un) (hun : zlv t un ≠ 0 → zes t un ≠ []) : zg t := fun s _ he => zwf_gd h hun (Or.inr ⟨s, he⟩)
theorem zwf_ne {t : ZT} {lo : List Nat} {ov un : Nat} (h : zwf t lo ov un) (hun : zlv t un ≠ 0 → zes t un ≠ []) {s : Nat} (hs : 1 < zlv t s) : zes t s ≠ [] := by
  obtain ⟨a1, a2, a3, a4, a5, a6, a7, a8, a9, a10, a11, a12⟩ := h
  by_cases hu : s = un
  · rw [hu] at hs ⊢; exact hun (by omega)
  · intro z
    by_cases hr : s = zrt t
    · have := a11 (by rw [← hr]; exact hs) (by rw [← hr]; exact hu)
      rw [← hr, z] at this
      simp at this
    · have := a9 s (by omega) hr hu
      rw [z] at this
      simp at this
/-- how many nodes there are -/
def zlc (t : ZT) : List Nat := (List.range 24).filter (fun s => decide (zlv t s ≠ 0))
theorem zlc_mem {t : ZT} {s : Nat} : s ∈ zlc t ↔ s < 24 ∧ zlv t s ≠ 0 := by
  unfold zlc
  rw [List.mem_filter, List.mem_range, decide_eq_true_iff]
theorem zlc_nd {t : ZT} : (zlc t).Nodup := List.nodup_range.filter _
theorem zwf_count {t : ZT} {lo : List Nat} {ov : Nat} (h : zwf t lo ov 99) {s : Nat} (h5 : (zes t s).length = 5) : (zlc t).length ≤ 20 := by
  obtain ⟨a1, a2, a3, a4, a5, a6, a7, a8, a9, a10, a11, a12⟩ := h
  have hs0 : zlv t s ≠ 0 := fun z => by rw [a5 s z] at h5; simp at h5
  have hs24 : s < 24 := by
    rcases Nat.lt_or_ge s 24 with z | z
    · exact z
    · exact absurd (a6 s z) hs0
  have h1 : 2 * (zlc t).length + 3 ≤ ((zlc t).flatMap (zes t)).length := by
    refine zflat_len5 (zlc_mem.mpr ⟨hs24, hs0⟩) h5 (fun x hx => ?_)
    rw [zlc_mem] at hx
    by_cases hr : x = zrt t
    · by_cases hsr : s = zrt t
      · rw [hr, ← hsr, h5]; decide
      · have := a8 s hs0 hsr
        rw [hr]; exact a11 (by omega) (by omega)
    · exact a9 x hx.2 hr (by omega)
  have h2 : ((zlc t).flatMap (zes t)).length ≤ (List.range 24 ++ ((zlc t).erase (zrt t)).map (fun s => 24 + s)).length := by
    refine zsub_len (zflat_nd a1 zlc_nd) (fun x hx => ?_)
    obtain ⟨s', hs', hxs⟩ := List.mem_flatMap.mp hx
    rw [List.mem_append, List.mem_range, List.mem_map]
    rcases (a3 x).mp (Or.inr ⟨s', hxs⟩) with ⟨z1, z2⟩ | ⟨z1, z2, z3, z4⟩
    · exact Or.inl z1
    · exact Or.inr ⟨x - 24, (List.mem_erase_of_ne z4).mpr (zlc_mem.mpr ⟨by omega, z3⟩), by omega⟩
  rw [List.length_append, List.length_range, List.length_map, List.length_erase_of_mem (zlc_mem.mpr a7)] at h2
  have : 0 < (zlc t).length := List.length_pos_of_mem (zlc_mem.mpr a7)
  omega
theorem zfree_least {t : ZT} : ∀ (n : Nat), n ≤ 24 → (∃ s, s < n ∧ zlv t s = 0) → ∃ q, q < n ∧ zfree t q
  | 0, _, ⟨s, h, _⟩ => absurd h (Nat.not_lt_zero s)
  | n + 1, hn, ⟨s, h, h0⟩ => by
    by_cases hex : ∃ s, s < n ∧ zlv t s = 0
    · obtain ⟨q, h1, h2⟩ := zfree_least n (by omega) hex
      exact ⟨q, by omega, h2⟩
    · have : s = n := by
        rcases Nat.lt_or_ge s n with z | z
        · exact absurd ⟨s, z, h0⟩ hex
        · omega
      subst this
      exact ⟨s, by omega, by omega, h0, fun i hi hz => hex ⟨i, hi, hz⟩⟩
theorem zfree_two {t : ZT} (h : (zlc t).length ≤ 20) : ∃ q, zfree t q ∧ ∀ v, ∃ p, p ≠ q ∧ (v ≠ 0 → zfree (zL t q v) p) := by
  have h1 : ∃ s, s < 24 ∧ zlv t s = 0 := by
    refine Classical.byContradiction fun hno => ?_
    have : (List.range 24).length ≤ (zlc t).length := zsub_len List.nodup_range (fun x hx => zlc_mem.mpr ⟨List.mem_range.mp hx, fun z => hno ⟨x, List.mem_range.mp hx, z⟩⟩)
    rw [List.length_range] at this
    omega
  obtain ⟨q, hq24, hq⟩ := zfree_least 24 (Nat.le_refl 24) h1
  refine ⟨q, hq, fun v => ?_⟩
  by_cases hv : v = 0
  · exact ⟨q + 1, by omega, fun z => absurd hv z⟩
  · have h2 : ∃ s, s < 24 ∧ zlv (zL t q v) s = 0 := by
      refine Classical.byContradiction fun hno => ?_
      have : ((List.range 24).erase q).length ≤ (zlc t).length := zsub_len (List.nodup_range.erase q) (fun x hx => by
        have hx2 := (List.nodup_range.mem_erase_iff).mp hx
        refine zlc_mem.mpr ⟨List.mem_range.mp hx2.2, fun z => hno ⟨x, List.mem_range.mp hx2.2, ?_⟩⟩
        rw [zL_ne hx2.1]; exact z)
      rw [List.length_erase_of_mem (List.mem_range.mpr hq24), List.length_range] at this
      omega
    obtain ⟨p, hp24, hp⟩ := zfree_least 24 (Nat.le_refl 24) h2
    refine ⟨p, fun z => ?_, fun _ => hp⟩
    have := hp.2.1
    rw [z, zL_at] at this
    exact hv this
