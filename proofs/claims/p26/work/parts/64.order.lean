/-! the order of the nodes: a node's parent comes before it, its first entry right behind it -/
theorem zgD_l {l m : List Nat} {j : Nat} (h : j < l.length) : (l ++ m).getD j 0 = l.getD j 0 := by
  rw [List.getD_eq_getElem?_getD, List.getElem?_append_left h, ← List.getD_eq_getElem?_getD]
theorem zgD_r {l m : List Nat} {j : Nat} : (l ++ m).getD (l.length + j) 0 = m.getD j 0 := by
  rw [List.getD_eq_getElem?_getD, List.getElem?_append_right (by omega), Nat.add_sub_cancel_left, ← List.getD_eq_getElem?_getD]
theorem zgD_m {x : Nat} : ∀ {l : List Nat}, x ∈ l → ∃ j, j < l.length ∧ l.getD j 0 = x
  | y :: l, h => by
    rcases List.mem_cons.mp h with e | h
    · exact ⟨0, by simp, e.symm⟩
    · obtain ⟨j, h1, h2⟩ := zgD_m h
      exact ⟨j + 1, by simp; omega, h2⟩
theorem zgD_i : ∀ {l : List Nat} {i j : Nat}, l.Nodup → i < l.length → j < l.length → l.getD i 0 = l.getD j 0 → i = j
  | x :: l, 0, 0, hn, hi, hj, e => rfl
  | x :: l, 0, j + 1, hn, hi, hj, e => by
    exfalso
    have h1 : x = l.getD j 0 := e
    have h2 : l.getD j 0 ∈ l := zgetD_mem (by simpa using hj)
    rw [← h1] at h2
    exact (List.nodup_cons.mp hn).1 h2
  | x :: l, i + 1, 0, hn, hi, hj, e => by
    exfalso
    have h1 : l.getD i 0 = x := e
    have h2 : l.getD i 0 ∈ l := zgetD_mem (by simpa using hi)
    rw [h1] at h2
    exact (List.nodup_cons.mp hn).1 h2
  | x :: l, i + 1, j + 1, hn, hi, hj, e => by
    have := zgD_i (l := l) (i := i) (j := j) (List.nodup_cons.mp hn).2 (by simpa using hi) (by simpa using hj) e
    omega
def zoc (t : ZT) (vis stk : List Nat) : Prop := (∀ j p, j < vis.length → 24 + vis.getD j 0 ∈ zes t p → ∃ i, i < j ∧ vis.getD i 0 = p) ∧ ∀ j e m, j < vis.length → zkd t (vis.getD j 0) = e :: m → (vis ++ stk).getD (j + 1) 0 = e ∧ j + 1 < (vis ++ stk).length
theorem zoc_step {t : ZT} (hw : zwf t [] 99 99) {vis r : List Nat} {x : Nat} (hd : zdf t vis (x :: r)) (h : zoc t vis (x :: r)) : zoc t (vis ++ [x]) (zkd t x ++ r) := by
  obtain ⟨h1, h2⟩ := h
  have hl : (vis ++ [x]).length = vis.length + 1 := by simp
  have hx : (vis ++ [x]).getD vis.length 0 = x := by
    have := zgD_r (l := vis) (m := [x]) (j := 0)
    rw [Nat.add_zero] at this
    exact this
  refine ⟨fun j p hj hp => ?_, fun j e m hj hk => ?_⟩
  · by_cases c : j < vis.length
    · rw [zgD_l c] at hp
      obtain ⟨i, a, b⟩ := h1 j p c hp
      exact ⟨i, a, by rw [zgD_l (by omega)]; exact b⟩
    · obtain rfl : j = vis.length := by omega
      rw [hx] at hp
      rcases (hd.2.2.2.1 x (Or.inr (List.mem_cons_self ..))).2 with e | ⟨q, hq, hq2⟩
      · rw [e] at hp; exact absurd hp (zwf_root hw p)
      · obtain ⟨i, a, b⟩ := zgD_m hq
        refine ⟨i, a, ?_⟩
        rw [zgD_l a, b]
        exact hw.1.2 _ _ _ hq2 hp
  · by_cases c : j < vis.length
    · rw [zgD_l c] at hk
      obtain ⟨a, b⟩ := h2 j e m c hk
      have e1 : vis ++ (x :: r) = (vis ++ [x]) ++ r := by simp
      rw [e1, zgD_l (by omega)] at a
      refine ⟨by rw [zgD_l (by omega)]; exact a, ?_⟩
      rw [List.length_append]
      omega
    · obtain rfl : j = vis.length := by omega
      rw [hx] at hk
      rw [hk]
      refine ⟨?_, by simp⟩
      have := zgD_r (l := vis ++ [x]) (m := (e :: m) ++ r) (j := 0)
      rw [hl, Nat.add_zero] at this
      exact this
theorem zoc_l {t : ZT} (ht : zb t) (hw : zwf t [] 99 99) : ∀ (n : Nat) (vis stk : List Nat), zdf t vis stk → zoc t vis stk → vis.length + n = 24 → zoc t (zdo_l t n vis stk) []
  | 0, vis, stk, hd, h, hn => by
    have h1 := zdf_len ht hd
    have h2 : stk = [] := List.eq_nil_of_length_eq_zero (by omega)
    rw [h2] at h
    rw [h2, zdo_l]
    exact h
  | n + 1, vis, [], hd, h, hn => by rw [zdo_l]; exact h
  | n + 1, vis, x :: r, hd, h, hn => by
    rw [zdo_l]
    exact zoc_l ht hw n _ _ (zdf_step ht hw hd) (zoc_step hw hd h) (by rw [List.length_append]; simp; omega)
theorem zdo_oc {t : ZT} (hw : zwf t [] 99 99) : zoc t (zdo t) [] := by
  have hR := zwf_lv hw (by decide)
  exact zoc_l (zwf_zb hw (by omega)) hw 24 [] [zrt t] (zdf_init hw) ⟨fun j p hj => absurd hj (Nat.not_lt_zero _), fun j e m hj => absurd hj (Nat.not_lt_zero _)⟩ rfl
/-- a parent stands ahead -/
theorem zdo_par {t : ZT} (hw : zwf t [] 99 99) {i j : Nat} (hi : i < (zdo t).length) (hj : j < (zdo t).length) (h : 24 + (zdo t).getD j 0 ∈ zes t ((zdo t).getD i 0)) : i < j := by
  obtain ⟨i', a, b⟩ := (zdo_oc hw).1 j _ hj h
  have := zgD_i (zdo_nd hw) (by omega) hi b
  omega
/-- the first entry stands right behind -/
theorem zdo_kid {t : ZT} (hw : zwf t [] 99 99) {j c : Nat} (hj : j < (zdo t).length) (h1 : 1 < zlv t ((zdo t).getD j 0)) (h : (zes t ((zdo t).getD j 0)).getD 0 0 = 24 + c) (hne : 0 < (zes t ((zdo t).getD j 0)).length) : j + 1 < (zdo t).length ∧ (zdo t).getD (j + 1) 0 = c := by
  have hk : ∃ m, zkd t ((zdo t).getD j 0) = c :: m := by
    unfold zkd
    rw [if_neg (by omega)]
    match hz : zes t ((zdo t).getD j 0), hne with
    | e :: m, _ =>
      rw [hz] at h
      have : e = 24 + c := h
      exact ⟨m.map (fun e => e - 24), by rw [List.map_cons, this, Nat.add_sub_cancel_left]⟩
  obtain ⟨m, hk⟩ := hk
  have := (zdo_oc hw).2 j c m hj hk
  rw [List.append_nil] at this
  exact ⟨this.2, this.1⟩
/-! how many entries there are, on the level 0 and above -/
def zs1 (t : ZT) : List Nat → Nat
  | [] => 0
  | x :: l => (if zlv t x = 1 then (zes t x).length else 0) + zs1 t l
def zs2 (t : ZT) : List Nat → Nat
  | [] => 0
  | x :: l => (if zlv t x = 1 then 0 else (zes t x).length) + zs2 t l
theorem zs1_app {t : ZT} {m : List Nat} : ∀ {l : List Nat}, zs1 t (l ++ m) = zs1 t l + zs1 t m
  | [] => by rw [List.nil_append, zs1, Nat.zero_add]
  | x :: l => by rw [List.cons_append, zs1, zs1, zs1_app (l := l), Nat.add_assoc]
theorem zs2_app {t : ZT} {m : List Nat} : ∀ {l : List Nat}, zs2 t (l ++ m) = zs2 t l + zs2 t m
  | [] => by rw [List.nil_append, zs2, Nat.zero_add]
  | x :: l => by rw [List.cons_append, zs2, zs2, zs2_app (l := l), Nat.add_assoc]
theorem zct_flt {t : ZT} : ∀ k, zct t k = ((List.range k).filter (fun i => zpr t i)).length
  | 0 => rfl
  | k + 1 => by
    rw [zct, zct_flt k, List.range_succ, List.filter_append, List.length_append]
    congr 1
    by_cases h : zpr t k = true
    · simp [h]
    · simp [h]
theorem zs_flt {t : ZT} (ht : zb t) : ∀ {l : List Nat}, (∀ x, x ∈ l → zlv t x ≠ 0) → zs1 t l = ((l.flatMap (zes t)).filter (fun e => decide (e < 24))).length ∧ zs2 t l = ((l.flatMap (zes t)).filter (fun e => decide (24 ≤ e))).length
  | [], _ => ⟨rfl, rfl⟩
  | x :: l, h => by
    obtain ⟨i1, i2⟩ := zs_flt ht (l := l) (fun y hy => h y (List.mem_cons_of_mem _ hy))
    have hx := h x (List.mem_cons_self ..)
    rw [zs1, zs2, List.flatMap_cons, List.filter_append, List.filter_append, List.length_append, List.length_append, i1, i2]
    by_cases c : zlv t x = 1
    · have a : ∀ e, e ∈ zes t x → e < 24 := by
        intro e he
        rcases Nat.lt_or_ge e 24 with z | z
        · exact z
        · have h2 := (ht.1 x e he).2
          unfold zil at h2
          rw [if_neg (by omega)] at h2
          have := h2.2 z
          omega
      have f1 : (zes t x).filter (fun e => decide (e < 24)) = zes t x := List.filter_eq_self.mpr (fun e he => decide_eq_true (a e he))
      have f2 : (zes t x).filter (fun e => decide (24 ≤ e)) = [] := List.filter_eq_nil_iff.mpr (fun e he z => by have := a e he; have := of_decide_eq_true z; omega)
      rw [if_pos c, if_pos c, f1, f2]
      exact ⟨rfl, rfl⟩
    · have a : ∀ e, e ∈ zes t x → 24 ≤ e := fun e he => zkd_ge ht (by omega) he
      have f1 : (zes t x).filter (fun e => decide (24 ≤ e)) = zes t x := List.filter_eq_self.mpr (fun e he => decide_eq_true (a e he))
      have f2 : (zes t x).filter (fun e => decide (e < 24)) = [] := List.filter_eq_nil_iff.mpr (fun e he z => by have := a e he; have := of_decide_eq_true z; omega)
      rw [if_neg c, if_neg c, f1, f2]
      exact ⟨rfl, rfl⟩
theorem zflat_mem {t : ZT} (ht : zb t) (hw : zwf t [] 99 99) (e : Nat) : e ∈ (zdo t).flatMap (zes t) ↔ ∃ s, e ∈ zes t s := by
  rw [List.mem_flatMap]
  refine ⟨fun ⟨s, _, h⟩ => ⟨s, h⟩, fun ⟨s, h⟩ => ⟨s, (zdo_mem hw).mpr (fun z => by rw [ht.2.1 s z] at h; cases h), h⟩⟩
/-- all rectangles are in one node each -/
theorem zs1_all {t : ZT} (hw : zwf t [] 99 99) : zs1 t (zdo t) = zct t 24 := by
  have hR := zwf_lv hw (by decide)
  have ht := zwf_zb hw (by omega)
  rw [(zs_flt ht (fun x hx => (zdo_mem hw).mp hx)).1, zct_flt]
  refine (zperm_nd ((zflat_nd hw.1 (zdo_nd hw)).filter _) (List.nodup_range.filter _) (fun e => ?_)).length_eq
  rw [List.mem_filter, List.mem_filter, zflat_mem ht hw, List.mem_range, decide_eq_true_iff]
  constructor
  · rintro ⟨h, h24⟩
    rcases (hw.2.2.1 e).mp (Or.inr h) with z | z
    · exact z
    · omega
  · intro h
    rcases (hw.2.2.1 e).mpr (Or.inl h) with z | z
    · cases z
    · exact ⟨z, h.1⟩
/-- all nodes but the root are entries -/
theorem zs2_all {t : ZT} (hw : zwf t [] 99 99) : zs2 t (zdo t) + 1 = (zdo t).length := by
  have hR := zwf_lv hw (by decide)
  have ht := zwf_zb hw (by omega)
  obtain ⟨u, eu⟩ := zdo_0 (t := t)
  have hnd := zdo_nd hw
  rw [(zs_flt ht (fun x hx => (zdo_mem hw).mp hx)).2]
  have key : (((zdo t).flatMap (zes t)).filter (fun e => decide (24 ≤ e))).length = (u.map (fun s => 24 + s)).length := by
    have hu2 : (u.map (fun s => 24 + s)).Nodup := by
      rw [eu] at hnd
      exact List.pairwise_map.mpr (List.Pairwise.imp (fun h => by omega) (List.nodup_cons.mp hnd).2)
    refine (zperm_nd ((zflat_nd hw.1 (zdo_nd hw)).filter _) hu2 (fun e => ?_)).length_eq
    rw [List.mem_filter, zflat_mem ht hw, decide_eq_true_iff, List.mem_map]
    constructor
    · rintro ⟨h, h24⟩
      rcases (hw.2.2.1 e).mp (Or.inr h) with z | z
      · omega
      · have hm := (zdo_mem (y := e - 24) hw).mpr z.2.2.1
        rw [eu] at hm
        rcases List.mem_cons.mp hm with q | q
        · exact absurd q z.2.2.2
        · exact ⟨e - 24, q, by omega⟩
    · rintro ⟨s, hs, rfl⟩
      have hm : s ∈ zdo t := by rw [eu]; exact List.mem_cons_of_mem _ hs
      have h0 := (zdo_mem hw).mp hm
      have hr : s ≠ zrt t := fun z => by rw [eu] at hnd; exact (List.nodup_cons.mp hnd).1 (z ▸ hs)
      have h24 := zb_lt ht h0
      rcases (hw.2.2.1 (24 + s)).mpr (Or.inr ⟨by omega, by omega, by rw [Nat.add_sub_cancel_left]; exact h0, by rw [Nat.add_sub_cancel_left]; exact hr⟩) with z | z
      · cases z
      · exact ⟨z, by omega⟩
  rw [key, List.length_map, eu, List.length_cons]
