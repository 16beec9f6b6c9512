/-! sums over the nodes; overlap, areas, about -/
def zsum (g : Nat → Int32) : List Nat → Int32
  | [] => 0
  | c :: l => g c + zsum g l
theorem zsum_perm {g : Nat → Int32} {l m : List Nat} (h : l.Perm m) : zsum g l = zsum g m := by
  induction h with
  | nil => rfl
  | cons x _ ih => rw [zsum, zsum, ih]
  | swap x y l =>
    rw [zsum, zsum, zsum, zsum, ← Int32.add_assoc, ← Int32.add_assoc, Int32.add_comm (g y)]
  | trans _ _ ih1 ih2 => rw [ih1, ih2]
theorem zsum_filter {g : Nat → Int32} {p : Nat → Bool} : ∀ {l : List Nat}, (∀ x, x ∈ l → p x = false → g x = 0) → zsum g (l.filter p) = zsum g l
  | [], _ => rfl
  | c :: l, h => by
    have ih := zsum_filter (l := l) (fun x hx => h x (List.mem_cons_of_mem _ hx))
    rcases hc : p c with _ | _
    · rw [List.filter_cons_of_neg (by rw [hc]; decide), zsum, h c (List.mem_cons_self ..) hc, ih, Int32.zero_add]
    · rw [List.filter_cons_of_pos hc, zsum, zsum, ih]
theorem zsum_app {g : Nat → Int32} : ∀ {l m : List Nat}, zsum g (l ++ m) = zsum g l + zsum g m
  | [], m => by rw [List.nil_append, zsum, Int32.zero_add]
  | c :: l, m => by rw [List.cons_append, zsum, zsum, zsum_app, Int32.add_assoc]
theorem zsum_cg {g h : Nat → Int32} : ∀ {l : List Nat}, (∀ x, x ∈ l → g x = h x) → zsum g l = zsum h l
  | [], _ => rfl
  | c :: l, hh => by rw [zsum, zsum, hh c (List.mem_cons_self ..), zsum_cg (fun x hx => hh x (List.mem_cons_of_mem _ hx))]
theorem zperm_nd : ∀ {l m : List Nat}, l.Nodup → m.Nodup → (∀ x, x ∈ l ↔ x ∈ m) → l.Perm m
  | [], m, _, _, h => by
    rcases m with _ | ⟨c, m⟩
    · exact List.Perm.nil
    · exact absurd ((h c).mpr (List.mem_cons_self ..)) (by simp)
  | c :: l, m, hl, hm, h => by
    obtain ⟨m1, m2, e⟩ := List.append_of_mem ((h c).mp (List.mem_cons_self ..))
    subst e
    have h1 := List.nodup_append.mp hm
    have hc1 : c ∉ m1 := fun z => h1.2.2 c z c (List.mem_cons_self ..) rfl
    have hc2 : c ∉ m2 := (List.nodup_cons.mp h1.2.1).1
    have hnd : (m1 ++ m2).Nodup := List.nodup_append.mpr ⟨h1.1, (List.nodup_cons.mp h1.2.1).2, fun a ha b hb => h1.2.2 a ha b (List.mem_cons_of_mem _ hb)⟩
    have hcl := (List.nodup_cons.mp hl).1
    have ih := zperm_nd (List.nodup_cons.mp hl).2 hnd (fun x => by
      have h2 := h x
      rw [List.mem_cons, List.mem_append, List.mem_cons] at h2
      rw [List.mem_append]
      refine ⟨fun hx => ?_, fun hx => ?_⟩
      · rcases h2.mp (Or.inr hx) with z | z | z
        · exact Or.inl z
        · rw [z] at hx; exact absurd hx hcl
        · exact Or.inr z
      · rcases h2.mpr (hx.imp id Or.inr) with z | z
        · rw [z] at hx; exact absurd hx (by rintro (a | a); exact hc1 a; exact hc2 a)
        · exact z)
    exact (List.Perm.cons c ih).trans List.perm_middle.symm
/-- over the nodes in their order, and over all slots -/
theorem zsum_nodes {g : Nat → Int32} {t : ZT} (hw : zwf t [] 99 99) (h0 : ∀ s, zlv t s = 0 → g s = 0) : zsum g (List.range 32) = zsum g (zdo t) := by
  rw [← zsum_filter (p := fun s => decide (zlv t s ≠ 0)) (l := List.range 32) (fun x _ hx => h0 x (by simpa using hx))]
  refine (zsum_perm (zperm_nd (zdo_nd hw) (List.Nodup.sublist List.filter_sublist List.nodup_range) fun x => ?_)).symm
  rw [zdo_mem hw, List.mem_filter, List.mem_range, decide_eq_true_iff]
  refine ⟨fun h => ⟨?_, h⟩, fun h => h.2⟩
  have := zdo_lt hw ((zdo_mem hw).mpr h)
  omega
/-- the cells that a list's items share, two by two -/
def zpa (f : Nat → Int32) (c : Nat) : Int32 → List Nat → Int32
  | a, [] => a
  | a, d :: l => zpa f c (a + zcc f c d) l
def zpp (f : Nat → Int32) : Int32 → List Nat → Int32
  | a, [] => a
  | a, c :: l => zpp f (zpa f c a l) l
theorem zpa_add {f : Nat → Int32} {c : Nat} {b : Int32} : ∀ {l : List Nat} {a : Int32}, zpa f c (b + a) l = b + zpa f c a l
  | [], a => rfl
  | d :: l, a => by rw [zpa, zpa, Int32.add_assoc, zpa_add]
theorem zpp_add {f : Nat → Int32} {b : Int32} : ∀ {l : List Nat} {a : Int32}, zpp f (b + a) l = b + zpp f a l
  | [], a => rfl
  | d :: l, a => by rw [zpp, zpp, zpa_add, zpp_add]
theorem zpp_0 {f : Nat → Int32} {l : List Nat} {a : Int32} : zpp f a l = a + zpp f 0 l := by rw [← zpp_add, Int32.add_zero]
theorem zpa_cg {f g : Nat → Int32} {c : Nat} (hc : ∀ k, k < 4 → f (4 * c + k) = g (4 * c + k)) : ∀ {l : List Nat} {a : Int32}, (∀ x, x ∈ l → ∀ k, k < 4 → f (4 * x + k) = g (4 * x + k)) → zpa f c a l = zpa g c a l
  | [], a, _ => rfl
  | d :: l, a, h => by rw [zpa, zpa, zcc_cg hc (h d (List.mem_cons_self ..)), zpa_cg hc (fun x hx => h x (List.mem_cons_of_mem _ hx))]
theorem zpp_cg {f g : Nat → Int32} : ∀ {l : List Nat} {a : Int32}, (∀ x, x ∈ l → ∀ k, k < 4 → f (4 * x + k) = g (4 * x + k)) → zpp f a l = zpp g a l
  | [], a, _ => rfl
  | d :: l, a, h => by rw [zpp, zpp, zpa_cg (h d (List.mem_cons_self ..)) (fun x hx => h x (List.mem_cons_of_mem _ hx)), zpp_cg (fun x hx => h x (List.mem_cons_of_mem _ hx))]
def zov (f : Nat → Int32) (t : ZT) (s : Nat) : Int32 := if zlv t s ≤ 1 then 0 else zpp f 0 (zes t s)
theorem m_ov26 {N : Nat} {T : zx_S} {a M i c : Nat} (ha : a < 49) (hM : M ≤ 5) (hi : i < 5) (hc : c < 49) (hci : T 4 (5 * a + i) = nI c) {K : Int32 → Int32 → Int32 → Int32 → Option Int32} : ∀ (l : List Nat) (k n : Nat) (acc : Int32), l.length < n → k + l.length = M → zat (T 4) (5 * a + k) l → (∀ x, x ∈ l → x < 49) → f_X1_overlapIn_l26 N T K n (nI a) acc (nI M) (nI i) (nI k) = K (nI a) (zpa (T 0) c acc l) (nI M) (nI (i + 1))
  | [], k, n + 1, acc, hn, hk, hz, hx => by
    rw [List.length_nil, Nat.add_zero] at hk
    rw [f_X1_overlapIn_l26]
    simp (disch := omega) only [↓zlm1, ↓zlm2, zi_e1, zi_e2, zi_1e, zi_12, zi_21, zi_1n, zi_n1, if_true, if_false, eq_self, not_false_eq_true, not_true_eq_false, nI_add, zi_4m, zi_5m, zi_8m, zi_mul4, zi_mul5, zi_sub, nI_leI, nI_ltI, nI_eq, zl0, zl1, zl2, zl3, zl4, zl5, zl6, zl8, zl9, zl24, zl32, zl48, zl49, zl99, zl100, zl120, zl376, zl377, zl378, zl379, zl380, ↓zi_192, zi_dec, Nat.add_zero, Nat.zero_add, m_n, m_b1, m_b2, m_rd, m_wr, m_get, m_put, nI_clamp, st_at, st_ne, up_at, up_ne, if_pos, if_neg]
    rfl
  | d :: l, k, n + 1, acc, hn, hk, hz, hx => by
    rw [List.length_cons] at hk hn
    have h1 : T 4 (5 * a + k) = nI d := hz.1
    have hd := hx d (List.mem_cons_self ..)
    have ih := m_ov26 (N := N) ha hM hi hc hci (K := K) l (k + 1) n (acc + zcc (T 0) c d) (by omega) (by omega) hz.2 (fun x hx2 => hx x (List.mem_cons_of_mem _ hx2))
    rw [f_X1_overlapIn_l26]
    simp (disch := omega) only [↓zlm1, ↓zlm2, zi_e1, zi_e2, zi_1e, zi_12, zi_21, zi_1n, zi_n1, if_true, if_false, eq_self, not_false_eq_true, not_true_eq_false, nI_add, zi_4m, zi_5m, zi_8m, zi_mul4, zi_mul5, zi_sub, nI_leI, nI_ltI, nI_eq, zl0, zl1, zl2, zl3, zl4, zl5, zl6, zl8, zl9, zl24, zl32, zl48, zl49, zl99, zl100, zl120, zl376, zl377, zl378, zl379, zl380, ↓zi_192, zi_dec, Nat.add_zero, Nat.zero_add, m_n, m_b1, m_b2, m_rd, m_wr, m_get, m_put, nI_clamp, st_at, st_ne, up_at, up_ne, if_pos, if_neg, h1, hci, m_common]
    exact ih
theorem m_ov14 {N : Nat} (hN : 100 < N) {T : zx_S} {a M : Nat} (ha : a < 49) (hM : M ≤ 5) : ∀ (l : List Nat) (k n : Nat) (acc : Int32), l.length < n → k + l.length = M → zat (T 4) (5 * a + k) l → (∀ x, x ∈ l → x < 49) → f_X1_overlapIn_l14 N T n (nI a) acc (nI M) (nI k) = some (zpp (T 0) acc l)
  | [], k, n + 1, acc, hn, hk, hz, hx => by
    rw [List.length_nil, Nat.add_zero] at hk
    rw [f_X1_overlapIn_l14]
    simp (disch := omega) only [↓zlm1, ↓zlm2, zi_e1, zi_e2, zi_1e, zi_12, zi_21, zi_1n, zi_n1, if_true, if_false, eq_self, not_false_eq_true, not_true_eq_false, nI_add, zi_4m, zi_5m, zi_8m, zi_mul4, zi_mul5, zi_sub, nI_leI, nI_ltI, nI_eq, zl0, zl1, zl2, zl3, zl4, zl5, zl6, zl8, zl9, zl24, zl32, zl48, zl49, zl99, zl100, zl120, zl376, zl377, zl378, zl379, zl380, ↓zi_192, zi_dec, Nat.add_zero, Nat.zero_add, m_n, m_b1, m_b2, m_rd, m_wr, m_get, m_put, nI_clamp, st_at, st_ne, up_at, up_ne, if_pos, if_neg]
    rfl
  | c :: l, k, n + 1, acc, hn, hk, hz, hx => by
    rw [List.length_cons] at hk hn
    have h1 : T 4 (5 * a + k) = nI c := hz.1
    have hc := hx c (List.mem_cons_self ..)
    have e := m_ov26 (N := N) (i := k) ha hM (by omega) hc h1 (K := f_X1_overlapIn_l14 N T n) l (k + 1) N acc (by omega) (by omega) hz.2 (fun x hx2 => hx x (List.mem_cons_of_mem _ hx2))
    rw [f_X1_overlapIn_l14]
    simp (disch := omega) only [↓zlm1, ↓zlm2, zi_e1, zi_e2, zi_1e, zi_12, zi_21, zi_1n, zi_n1, if_true, if_false, eq_self, not_false_eq_true, not_true_eq_false, nI_add, zi_4m, zi_5m, zi_8m, zi_mul4, zi_mul5, zi_sub, nI_leI, nI_ltI, nI_eq, zl0, zl1, zl2, zl3, zl4, zl5, zl6, zl8, zl9, zl24, zl32, zl48, zl49, zl99, zl100, zl120, zl376, zl377, zl378, zl379, zl380, ↓zi_192, zi_dec, Nat.add_zero, Nat.zero_add, m_n, m_b1, m_b2, m_rd, m_wr, m_get, m_put, nI_clamp, st_at, st_ne, up_at, up_ne, if_pos, if_neg]
    rw [e]
    exact m_ov14 hN ha hM l (k + 1) n _ (by omega) (by omega) hz.2 (fun x hx2 => hx x (List.mem_cons_of_mem _ hx2))
theorem m_ovIn {N : Nat} (hN : 100 < N) {T : zx_S} {t : ZT} (hT : zcx T t []) (ht : zb t) {s : Nat} (hs0 : zlv t s ≠ 0) : f_X1_overlapIn N (nI (24 + s)) T = some (zpp (T 0) 0 (zes t s)) := by
  have hs := zb_lt ht hs0
  have h5 := ht.2.2.2.1 s
  have h3 := hT.2.2.1 s hs hs0
  have e := m_ov14 hN (T := T) (a := 24 + s) (M := (zes t s).length) (by omega) h5 (zes t s) 0 N 0 (by omega) (by omega) (by rw [Nat.add_zero]; exact hT.2.2.2.1 s hs) (fun x hx => by have := (ht.1 s x hx).1; omega)
  unfold f_X1_overlapIn
  rw [zl0] at e ⊢
  simp (disch := omega) only [↓zlm1, ↓zlm2, zi_e1, zi_e2, zi_1e, zi_12, zi_21, zi_1n, zi_n1, if_true, if_false, eq_self, not_false_eq_true, not_true_eq_false, nI_add, zi_4m, zi_5m, zi_8m, zi_mul4, zi_mul5, zi_sub, nI_leI, nI_ltI, nI_eq, zl0, zl1, zl2, zl3, zl4, zl5, zl6, zl8, zl9, zl24, zl32, zl48, zl49, zl99, zl100, zl120, zl376, zl377, zl378, zl379, zl380, ↓zi_192, zi_dec, Nat.add_zero, Nat.zero_add, m_n, m_b1, m_b2, m_rd, m_wr, m_get, m_put, nI_clamp, st_at, st_ne, up_at, up_ne, if_pos, if_neg, h3]
  exact e
theorem m_ov9 {N : Nat} (hN : 100 < N) {T : zx_S} {t : ZT} (hT : zcx T t []) (ht : zb t) {M : Nat} (hM : M ≤ 24) : ∀ (l : List Nat) (k n : Nat) (acc : Int32), l.length < n → k + l.length = M → zat (T 8) k (l.map (fun s => 24 + s)) → (∀ x, x ∈ l → zlv t x ≠ 0) → f_X1_overlap_l9 N n acc (nI M) (nI k) T = some (acc + zsum (zov (T 0) t) l, T)
  | [], k, n + 1, acc, hn, hk, hz, hx => by
    rw [List.length_nil, Nat.add_zero] at hk
    rw [f_X1_overlap_l9, zsum, Int32.add_zero]
    simp (disch := omega) only [↓zlm1, ↓zlm2, zi_e1, zi_e2, zi_1e, zi_12, zi_21, zi_1n, zi_n1, if_true, if_false, eq_self, not_false_eq_true, not_true_eq_false, nI_add, zi_4m, zi_5m, zi_8m, zi_mul4, zi_mul5, zi_sub, nI_leI, nI_ltI, nI_eq, zl0, zl1, zl2, zl3, zl4, zl5, zl6, zl8, zl9, zl24, zl32, zl48, zl49, zl99, zl100, zl120, zl376, zl377, zl378, zl379, zl380, ↓zi_192, zi_dec, Nat.add_zero, Nat.zero_add, m_n, m_b1, m_b2, m_rd, m_wr, m_get, m_put, nI_clamp, st_at, st_ne, up_at, up_ne, if_pos, if_neg]
  | c :: l, k, n + 1, acc, hn, hk, hz, hx => by
    rw [List.length_cons] at hk hn
    have h1 : T 8 k = nI (24 + c) := hz.1
    have hc0 := hx c (List.mem_cons_self ..)
    have hc := zb_lt ht hc0
    have h2 := hT.2.1 c hc
    rw [if_neg hc0] at h2
    have h6 := ht.2.2.2.2 c
    have e := m_ovIn (N := N) hN hT ht hc0
    have ih := fun acc => m_ov9 hN hT ht hM l (k + 1) n acc (by omega) (by omega) hz.2 (fun x hx2 => hx x (List.mem_cons_of_mem _ hx2))
    rw [f_X1_overlap_l9]
    unfold f_X1_overlap_j45
    rw [zsum, zov]
    by_cases hl : zlv t c ≤ 1
    · rw [if_pos hl, Int32.zero_add]
      simp (disch := omega) only [↓zlm1, ↓zlm2, zi_e1, zi_e2, zi_1e, zi_12, zi_21, zi_1n, zi_n1, if_true, if_false, eq_self, not_false_eq_true, not_true_eq_false, nI_add, zi_4m, zi_5m, zi_8m, zi_mul4, zi_mul5, zi_sub, nI_leI, nI_ltI, nI_eq, zl0, zl1, zl2, zl3, zl4, zl5, zl6, zl8, zl9, zl24, zl32, zl48, zl49, zl99, zl100, zl120, zl376, zl377, zl378, zl379, zl380, ↓zi_192, zi_dec, Nat.add_zero, Nat.zero_add, m_n, m_b1, m_b2, m_rd, m_wr, m_get, m_put, nI_clamp, st_at, st_ne, up_at, up_ne, if_pos, if_neg, h1, h2]
      exact ih acc
    · rw [if_neg hl, ← Int32.add_assoc]
      simp (disch := omega) only [↓zlm1, ↓zlm2, zi_e1, zi_e2, zi_1e, zi_12, zi_21, zi_1n, zi_n1, if_true, if_false, eq_self, not_false_eq_true, not_true_eq_false, nI_add, zi_4m, zi_5m, zi_8m, zi_mul4, zi_mul5, zi_sub, nI_leI, nI_ltI, nI_eq, zl0, zl1, zl2, zl3, zl4, zl5, zl6, zl8, zl9, zl24, zl32, zl48, zl49, zl99, zl100, zl120, zl376, zl377, zl378, zl379, zl380, ↓zi_192, zi_dec, Nat.add_zero, Nat.zero_add, m_n, m_b1, m_b2, m_rd, m_wr, m_get, m_put, nI_clamp, st_at, st_ne, up_at, up_ne, if_pos, if_neg, h1, h2]
      rw [e, m_b1]
      exact ih _
/-- the reference's -/
theorem r_ov42 {N w : Nat} {S : zx_S} {s M i c : Nat} (hs : s < 32) (hM : M ≤ 5) (hi : i < 5) (hc : c < 56) (hci : S w (120 + 8 * s + 2 + i) = nI c) (hm : S w (120 + 8 * s + 1) = nI M) {K : Int32 → Int32 → zx_S → Option (Int32 × zx_S)} {K2 : Int32 → Int32 → Int32 → zx_S → Option (Int32 × zx_S)} : ∀ (l : List Nat) (k n : Nat) (acc : Int32), l.length < n → k + l.length = M → zat (S w) (120 + 8 * s + 2 + k) l → (∀ x, x ∈ l → x < 56) → f_X3_overlap_l42 N w K K2 n acc (nI s) (nI i) (nI k) S = K2 (zpa (S 6) c acc l) (nI s) (nI (i + 1)) S
  | [], k, n + 1, acc, hn, hk, hz, hx => by
    rw [List.length_nil, Nat.add_zero] at hk
    rw [f_X3_overlap_l42]
    simp (disch := omega) only [↓zlm1, ↓zlm2, zi_e1, zi_e2, zi_1e, zi_12, zi_21, zi_1n, zi_n1, if_true, if_false, eq_self, not_false_eq_true, not_true_eq_false, nI_add, zi_4m, zi_5m, zi_8m, zi_mul4, zi_mul5, zi_sub, nI_leI, nI_ltI, nI_eq, zl0, zl1, zl2, zl3, zl4, zl5, zl6, zl8, zl9, zl24, zl32, zl48, zl49, zl99, zl100, zl120, zl376, zl377, zl378, zl379, zl380, ↓zi_192, zi_dec, Nat.add_zero, Nat.zero_add, m_n, m_b1, m_b2, m_rd, m_wr, m_get, m_put, nI_clamp, st_at, st_ne, up_at, up_ne, if_pos, if_neg, r_many, hm]
    rfl
  | d :: l, k, n + 1, acc, hn, hk, hz, hx => by
    rw [List.length_cons] at hk hn
    have h1 : S w (120 + 8 * s + 2 + k) = nI d := hz.1
    have hd := hx d (List.mem_cons_self ..)
    have ih := r_ov42 (N := N) hs hM hi hc hci hm (K := K) (K2 := K2) l (k + 1) n (acc + zcc (S 6) c d) (by omega) (by omega) hz.2 (fun x hx2 => hx x (List.mem_cons_of_mem _ hx2))
    rw [f_X3_overlap_l42]
    simp (disch := omega) only [↓zlm1, ↓zlm2, zi_e1, zi_e2, zi_1e, zi_12, zi_21, zi_1n, zi_n1, if_true, if_false, eq_self, not_false_eq_true, not_true_eq_false, nI_add, zi_4m, zi_5m, zi_8m, zi_mul4, zi_mul5, zi_sub, nI_leI, nI_ltI, nI_eq, zl0, zl1, zl2, zl3, zl4, zl5, zl6, zl8, zl9, zl24, zl32, zl48, zl49, zl99, zl100, zl120, zl376, zl377, zl378, zl379, zl380, ↓zi_192, zi_dec, Nat.add_zero, Nat.zero_add, m_n, m_b1, m_b2, m_rd, m_wr, m_get, m_put, nI_clamp, st_at, st_ne, up_at, up_ne, if_pos, if_neg, r_many, hm, r_entryOf, h1, hci, r_common]
    exact ih
theorem r_ov18 {N w : Nat} (hN : 100 < N) {S : zx_S} {s M v : Nat} (hs : s < 32) (hM : M ≤ 5) (hm : S w (120 + 8 * s + 1) = nI M) (hv : 1 < v) (hv2 : v < 100) (hlv : S w (120 + 8 * s) = nI v) {K : Int32 → Int32 → zx_S → Option (Int32 × zx_S)} : ∀ (l : List Nat) (k n : Nat) (acc : Int32), l.length < n → k + l.length = M → zat (S w) (120 + 8 * s + 2 + k) l → (∀ x, x ∈ l → x < 56) → f_X3_overlap_l18 N w K n acc (nI s) (nI k) S = K (zpp (S 6) acc l) (nI (s + 1)) S
  | [], k, n + 1, acc, hn, hk, hz, hx => by
    rw [List.length_nil, Nat.add_zero] at hk
    rw [f_X3_overlap_l18]
    unfold f_X3_overlap_j85
    simp (disch := omega) only [↓zlm1, ↓zlm2, zi_e1, zi_e2, zi_1e, zi_12, zi_21, zi_1n, zi_n1, if_true, if_false, eq_self, not_false_eq_true, not_true_eq_false, nI_add, zi_4m, zi_5m, zi_8m, zi_mul4, zi_mul5, zi_sub, nI_leI, nI_ltI, nI_eq, zl0, zl1, zl2, zl3, zl4, zl5, zl6, zl8, zl9, zl24, zl32, zl48, zl49, zl99, zl100, zl120, zl376, zl377, zl378, zl379, zl380, ↓zi_192, zi_dec, Nat.add_zero, Nat.zero_add, m_n, m_b1, m_b2, m_rd, m_wr, m_get, m_put, nI_clamp, st_at, st_ne, up_at, up_ne, if_pos, if_neg, r_many, hm]
    rfl
  | c :: l, k, n + 1, acc, hn, hk, hz, hx => by
    rw [List.length_cons] at hk hn
    have h1 : S w (120 + 8 * s + 2 + k) = nI c := hz.1
    have hc := hx c (List.mem_cons_self ..)
    have hlo := r_levelOf (N := N) (r := S w) (s := s) (v := v) hs hlv (by omega)
    have e := r_ov42 (N := N) (w := w) (i := k) hs hM (by omega) hc h1 hm (K := K) (K2 := f_X3_overlap_l18 N w K n) l (k + 1) N acc (by omega) (by omega) hz.2 (fun x hx2 => hx x (List.mem_cons_of_mem _ hx2))
    rw [f_X3_overlap_l18]
    simp (disch := omega) only [↓zlm1, ↓zlm2, zi_e1, zi_e2, zi_1e, zi_12, zi_21, zi_1n, zi_n1, if_true, if_false, eq_self, not_false_eq_true, not_true_eq_false, nI_add, zi_4m, zi_5m, zi_8m, zi_mul4, zi_mul5, zi_sub, nI_leI, nI_ltI, nI_eq, zl0, zl1, zl2, zl3, zl4, zl5, zl6, zl8, zl9, zl24, zl32, zl48, zl49, zl99, zl100, zl120, zl376, zl377, zl378, zl379, zl380, ↓zi_192, zi_dec, Nat.add_zero, Nat.zero_add, m_n, m_b1, m_b2, m_rd, m_wr, m_get, m_put, nI_clamp, st_at, st_ne, up_at, up_ne, if_pos, if_neg, r_many, hm, hlo]
    rw [e]
    exact r_ov18 hN hs hM hm hv hv2 hlv l (k + 1) n _ (by omega) (by omega) hz.2 (fun x hx2 => hx x (List.mem_cons_of_mem _ hx2))
theorem r_lev0 {N : Nat} {r : Nat → Int32} {s : Nat} (hs : s < 32) (h : r (120 + 8 * s) = nI 0) : f_X3_levelOf N 380 (nI s) r = some zM1 := by
  unfold f_X3_levelOf
  rw [r_at, m_b1, m_rd (by omega) (by omega), h]
  rfl
theorem zrange_s {k : Nat} : ∀ {d : Nat}, k + (d + 1) = 32 → List.range' k (d + 1) = k :: List.range' (k + 1) d := fun _ => rfl
theorem r_ov9 {N w : Nat} (hN : 100 < N) {S : zx_S} {t : ZT} (hr : zref (S w) t) (ht : zb t) : ∀ (d k n : Nat) (acc : Int32), d < n → k + d = 32 → f_X3_overlap_l9 N w n acc (nI k) S = some (acc + zsum (zov (S 6) t) (List.range' k d), S)
  | 0, k, n + 1, acc, hn, hk => by
    rw [f_X3_overlap_l9]
    simp (disch := omega) only [↓zlm1, ↓zlm2, zi_e1, zi_e2, zi_1e, zi_12, zi_21, zi_1n, zi_n1, if_true, if_false, eq_self, not_false_eq_true, not_true_eq_false, nI_add, zi_4m, zi_5m, zi_8m, zi_mul4, zi_mul5, zi_sub, nI_leI, nI_ltI, nI_eq, zl0, zl1, zl2, zl3, zl4, zl5, zl6, zl8, zl9, zl24, zl32, zl48, zl49, zl99, zl100, zl120, zl376, zl377, zl378, zl379, zl380, ↓zi_192, zi_dec, Nat.add_zero, Nat.zero_add, m_n, m_b1, m_b2, m_rd, m_wr, m_get, m_put, nI_clamp, st_at, st_ne, up_at, up_ne, if_pos, if_neg]
    rw [List.range'_zero, zsum, Int32.add_zero]
  | d + 1, k, n + 1, acc, hn, hk => by
    have ih := fun acc => r_ov9 (w := w) hN hr ht d (k + 1) n acc (by omega) (by omega)
    have hm := hr.2.2.2.1 k (by omega)
    have hlv := hr.2.2.1 k (by omega)
    have h5 := ht.2.2.2.1 k
    have h6 := ht.2.2.2.2 k
    rw [f_X3_overlap_l9, List.range'_succ, zsum, zov]
    obtain ⟨n2, hn2⟩ : ∃ n2, N = n2 + 1 := ⟨N - 1, by omega⟩
    by_cases hl : zlv t k ≤ 1
    · rw [if_pos hl, Int32.zero_add]
      simp (disch := omega) only [↓zlm1, ↓zlm2, zi_e1, zi_e2, zi_1e, zi_12, zi_21, zi_1n, zi_n1, if_true, if_false, eq_self, not_false_eq_true, not_true_eq_false, nI_add, zi_4m, zi_5m, zi_8m, zi_mul4, zi_mul5, zi_sub, nI_leI, nI_ltI, nI_eq, zl0, zl1, zl2, zl3, zl4, zl5, zl6, zl8, zl9, zl24, zl32, zl48, zl49, zl99, zl100, zl120, zl376, zl377, zl378, zl379, zl380, ↓zi_192, zi_dec, Nat.add_zero, Nat.zero_add, m_n, m_b1, m_b2, m_rd, m_wr, m_get, m_put, nI_clamp, st_at, st_ne, up_at, up_ne, if_pos, if_neg]
      have hst : f_X3_overlap_l18 N w (f_X3_overlap_l9 N w n) N acc (nI k) (nI 0) S = f_X3_overlap_l9 N w n acc (nI (k + 1)) S := by
        rw [hn2, f_X3_overlap_l18, ← hn2]
        unfold f_X3_overlap_j85
        by_cases h0 : zlv t k = 0
        · have := ht.2.1 k h0
          rw [this] at hm
          simp (disch := omega) only [↓zlm1, ↓zlm2, zi_e1, zi_e2, zi_1e, zi_12, zi_21, zi_1n, zi_n1, if_true, if_false, eq_self, not_false_eq_true, not_true_eq_false, nI_add, zi_4m, zi_5m, zi_8m, zi_mul4, zi_mul5, zi_sub, nI_leI, nI_ltI, nI_eq, zl0, zl1, zl2, zl3, zl4, zl5, zl6, zl8, zl9, zl24, zl32, zl48, zl49, zl99, zl100, zl120, zl376, zl377, zl378, zl379, zl380, ↓zi_192, zi_dec, Nat.add_zero, Nat.zero_add, m_n, m_b1, m_b2, m_rd, m_wr, m_get, m_put, nI_clamp, st_at, st_ne, up_at, up_ne, if_pos, if_neg, r_many, hm, List.length_nil]
        · have hlo := r_levelOf (N := N) (r := S w) (s := k) (v := zlv t k) (by omega) hlv (by omega)
          by_cases he : (zes t k).length = 0
          · rw [he] at hm
            simp (disch := omega) only [↓zlm1, ↓zlm2, zi_e1, zi_e2, zi_1e, zi_12, zi_21, zi_1n, zi_n1, if_true, if_false, eq_self, not_false_eq_true, not_true_eq_false, nI_add, zi_4m, zi_5m, zi_8m, zi_mul4, zi_mul5, zi_sub, nI_leI, nI_ltI, nI_eq, zl0, zl1, zl2, zl3, zl4, zl5, zl6, zl8, zl9, zl24, zl32, zl48, zl49, zl99, zl100, zl120, zl376, zl377, zl378, zl379, zl380, ↓zi_192, zi_dec, Nat.add_zero, Nat.zero_add, m_n, m_b1, m_b2, m_rd, m_wr, m_get, m_put, nI_clamp, st_at, st_ne, up_at, up_ne, if_pos, if_neg, r_many, hm]
          · simp (disch := omega) only [↓zlm1, ↓zlm2, zi_e1, zi_e2, zi_1e, zi_12, zi_21, zi_1n, zi_n1, if_true, if_false, eq_self, not_false_eq_true, not_true_eq_false, nI_add, zi_4m, zi_5m, zi_8m, zi_mul4, zi_mul5, zi_sub, nI_leI, nI_ltI, nI_eq, zl0, zl1, zl2, zl3, zl4, zl5, zl6, zl8, zl9, zl24, zl32, zl48, zl49, zl99, zl100, zl120, zl376, zl377, zl378, zl379, zl380, ↓zi_192, zi_dec, Nat.add_zero, Nat.zero_add, m_n, m_b1, m_b2, m_rd, m_wr, m_get, m_put, nI_clamp, st_at, st_ne, up_at, up_ne, if_pos, if_neg, r_many, hm, hlo]
      rw [hst]
      exact ih acc
    · rw [if_neg hl, ← Int32.add_assoc]
      simp (disch := omega) only [↓zlm1, ↓zlm2, zi_e1, zi_e2, zi_1e, zi_12, zi_21, zi_1n, zi_n1, if_true, if_false, eq_self, not_false_eq_true, not_true_eq_false, nI_add, zi_4m, zi_5m, zi_8m, zi_mul4, zi_mul5, zi_sub, nI_leI, nI_ltI, nI_eq, zl0, zl1, zl2, zl3, zl4, zl5, zl6, zl8, zl9, zl24, zl32, zl48, zl49, zl99, zl100, zl120, zl376, zl377, zl378, zl379, zl380, ↓zi_192, zi_dec, Nat.add_zero, Nat.zero_add, m_n, m_b1, m_b2, m_rd, m_wr, m_get, m_put, nI_clamp, st_at, st_ne, up_at, up_ne, if_pos, if_neg]
      rw [r_ov18 (w := w) hN (s := k) (M := (zes t k).length) (v := zlv t k) (by omega) h5 hm (by omega) (by omega) hlv (zes t k) 0 N acc (by omega) (by omega) (by rw [Nat.add_zero]; exact hr.2.2.2.2.1 k (by omega)) (fun x hx => by have := (ht.1 k x hx).1; omega), zpp_0]
      exact ih _
/-- the boxes that the reference lays are the class's -/
theorem z_layA {N w : Nat} (hN : 100 < N) (hw6 : w ≠ 6) {T S : zx_S} {t : ZT} (hQ : zQ w T S t) : ∃ S1, f_X3_layBoxes N w S = some S1 ∧ zfr [6] S S1 ∧ zref (S1 w) t ∧ ∀ c, zgd t c → zbd (T 0) c ∧ ∀ k, k < 4 → T 0 (4 * c + k) = S1 6 (4 * c + k) := by
  obtain ⟨hT, hr, hw, hbx, _⟩ := hQ
  have hR := zwf_lv hw (by decide)
  have ht := zwf_zb hw (by omega)
  obtain ⟨S1, e1, f1, hrb1, hLC1, _⟩ := r_lay (N := N) (w := w) hN hw6 ht hr
  exact ⟨S1, e1, f1, by rw [f1 w (by simp; exact hw6)]; exact hr, fun c hc => zA_all hw hbx.1 hbx.2 hrb1 hLC1 hc⟩
theorem z_overlap {N w : Nat} (hN : 100 < N) (hw6 : w ≠ 6) {T S : zx_S} {t : ZT} (hQ : zQ w T S t) : ∃ x T' S', f_X1_overlap N T = some (x, T') ∧ f_X3_overlap N w S = some (x, S') ∧ zfr [8, 9] T T' ∧ zfr [6] S S' := by
  obtain ⟨S1, e1, f1, hr1, hA⟩ := z_layA (N := N) hN hw6 hQ
  obtain ⟨hT, hr, hw, hbx, _⟩ := hQ
  have hR := zwf_lv hw (by decide)
  have ht := zwf_zb hw (by omega)
  obtain ⟨T', e, g, f⟩ := m_nodes (N := N) hN hT hw
  have hT' : zcx T' t [] := zcx_keep hT (f 1 (by decide)) (f 2 (by decide)) (f 3 (by decide)) (f 4 (by decide)) (by rw [f 10 (by decide)])
  have hle := zdo_le hw
  have hg := zwf_zg hw (zwf_un24 hw)
  have a := m_ov9 (N := N) hN hT' ht hle (zdo t) 0 N 0 (by omega) (by omega) g (fun x hx => (zdo_mem hw).mp hx)
  have b := r_ov9 (N := N) (w := w) hN hr1 ht 32 0 N 0 (by omega) (by omega)
  refine ⟨0 + zsum (zov (S1 6) t) (zdo t), T', S1, ?_, ?_, f, f1⟩
  rotate_left
  · unfold f_X3_overlap
    rw [e1, m_b1]
    rw [← List.range_eq_range', zsum_nodes hw (fun s h => by unfold zov; rw [if_pos (by omega)])] at b
    exact b
  · unfold f_X1_overlap
    rw [e, m_b2]
    rw [f 0 (by decide)] at a
    refine a.trans ?_
    rw [zsum_cg (g := zov (T 0) t) (h := zov (S1 6) t)]
    intro x hx
    unfold zov
    split
    · rfl
    · exact zpp_cg fun y hy k hk => (hA y (hg x y hy)).2 k hk
/-- areas below the root -/
theorem m_ar9 {N : Nat} {T : zx_S} {M : Nat} (hM : M ≤ 24) : ∀ (l : List Nat) (k n : Nat) (acc : Int32), l.length < n → k + l.length = M → zat (T 8) k (l.map (fun s => 24 + s)) → (∀ x, x ∈ l → x < 24) → f_X1_areaBelowRoot_l9 N n acc (nI M) (nI k) T = some (acc + zsum (fun s => zar (T 0) (24 + s)) l, T)
  | [], k, n + 1, acc, hn, hk, hz, hx => by
    rw [List.length_nil, Nat.add_zero] at hk
    rw [f_X1_areaBelowRoot_l9, zsum, Int32.add_zero]
    simp (disch := omega) only [↓zlm1, ↓zlm2, zi_e1, zi_e2, zi_1e, zi_12, zi_21, zi_1n, zi_n1, if_true, if_false, eq_self, not_false_eq_true, not_true_eq_false, nI_add, zi_4m, zi_5m, zi_8m, zi_mul4, zi_mul5, zi_sub, nI_leI, nI_ltI, nI_eq, zl0, zl1, zl2, zl3, zl4, zl5, zl6, zl8, zl9, zl24, zl32, zl48, zl49, zl99, zl100, zl120, zl376, zl377, zl378, zl379, zl380, ↓zi_192, zi_dec, Nat.add_zero, Nat.zero_add, m_n, m_b1, m_b2, m_rd, m_wr, m_get, m_put, nI_clamp, st_at, st_ne, up_at, up_ne, if_pos, if_neg]
  | c :: l, k, n + 1, acc, hn, hk, hz, hx => by
    rw [List.length_cons] at hk hn
    have h1 : T 8 k = nI (24 + c) := hz.1
    have hc := hx c (List.mem_cons_self ..)
    have ih := m_ar9 (N := N) (T := T) hM l (k + 1) n (acc + zar (T 0) (24 + c)) (by omega) (by omega) hz.2 (fun x hx2 => hx x (List.mem_cons_of_mem _ hx2))
    rw [f_X1_areaBelowRoot_l9]
    simp (disch := omega) only [↓zlm1, ↓zlm2, zi_e1, zi_e2, zi_1e, zi_12, zi_21, zi_1n, zi_n1, if_true, if_false, eq_self, not_false_eq_true, not_true_eq_false, nI_add, zi_4m, zi_5m, zi_8m, zi_mul4, zi_mul5, zi_sub, nI_leI, nI_ltI, nI_eq, zl0, zl1, zl2, zl3, zl4, zl5, zl6, zl8, zl9, zl24, zl32, zl48, zl49, zl99, zl100, zl120, zl376, zl377, zl378, zl379, zl380, ↓zi_192, zi_dec, Nat.add_zero, Nat.zero_add, m_n, m_b1, m_b2, m_rd, m_wr, m_get, m_put, nI_clamp, st_at, st_ne, up_at, up_ne, if_pos, if_neg, h1, m_area]
    rw [ih, zsum, ← Int32.add_assoc]
theorem r_ar {N : Nat} {S : zx_S} {t : ZT} (hr : zref (S 1) t) (ht : zb t) (hrt : zrt t < 24) : ∀ (d k n : Nat) (acc : Int32), d < n → k + d = 32 → f_X3_areas_l12 N n acc (nI k) S = some (acc + zsum (fun s => if zlv t s = 0 then 0 else if s = zrt t then 0 else zar (S 6) (24 + s)) (List.range' k d), S)
  | 0, k, n + 1, acc, hn, hk => by
    rw [f_X3_areas_l12]
    simp (disch := omega) only [↓zlm1, ↓zlm2, zi_e1, zi_e2, zi_1e, zi_12, zi_21, zi_1n, zi_n1, if_true, if_false, eq_self, not_false_eq_true, not_true_eq_false, nI_add, zi_4m, zi_5m, zi_8m, zi_mul4, zi_mul5, zi_sub, nI_leI, nI_ltI, nI_eq, zl0, zl1, zl2, zl3, zl4, zl5, zl6, zl8, zl9, zl24, zl32, zl48, zl49, zl99, zl100, zl120, zl376, zl377, zl378, zl379, zl380, ↓zi_192, zi_dec, Nat.add_zero, Nat.zero_add, m_n, m_b1, m_b2, m_rd, m_wr, m_get, m_put, nI_clamp, st_at, st_ne, up_at, up_ne, if_pos, if_neg]
    rw [List.range'_zero, zsum, Int32.add_zero]
  | d + 1, k, n + 1, acc, hn, hk => by
    have ih := fun acc => r_ar (N := N) hr ht hrt d (k + 1) n acc (by omega) (by omega)
    have hlv := hr.2.2.1 k (by omega)
    have h6 := ht.2.2.2.2 k
    have hroot : S 1 376 = nI (zrt t) := hr.2.2.2.2.2
    rw [f_X3_areas_l12, List.range'_succ, zsum]
    unfold f_X3_areas_j54 f_X3_areas_j55
    by_cases h0 : zlv t k = 0
    · rw [if_pos h0, Int32.zero_add]
      rw [h0] at hlv
      simp (disch := omega) only [↓zlm1, ↓zlm2, zi_e1, zi_e2, zi_1e, zi_12, zi_21, zi_1n, zi_n1, if_true, if_false, eq_self, not_false_eq_true, not_true_eq_false, nI_add, zi_4m, zi_5m, zi_8m, zi_mul4, zi_mul5, zi_sub, nI_leI, nI_ltI, nI_eq, zl0, zl1, zl2, zl3, zl4, zl5, zl6, zl8, zl9, zl24, zl32, zl48, zl49, zl99, zl100, zl120, zl376, zl377, zl378, zl379, zl380, ↓zi_192, zi_dec, Nat.add_zero, Nat.zero_add, m_n, m_b1, m_b2, m_rd, m_wr, m_get, m_put, nI_clamp, st_at, st_ne, up_at, up_ne, if_pos, if_neg, r_at, hlv]
      rw [← zl0, Int32.add_zero]
      exact ih acc
    · rw [if_neg h0]
      have hk24 := zb_lt ht h0
      by_cases hkr : k = zrt t
      · rw [if_pos hkr, Int32.zero_add]
        simp (disch := omega) only [↓zlm1, ↓zlm2, zi_e1, zi_e2, zi_1e, zi_12, zi_21, zi_1n, zi_n1, if_true, if_false, eq_self, not_false_eq_true, not_true_eq_false, nI_add, zi_4m, zi_5m, zi_8m, zi_mul4, zi_mul5, zi_sub, nI_leI, nI_ltI, nI_eq, zl0, zl1, zl2, zl3, zl4, zl5, zl6, zl8, zl9, zl24, zl32, zl48, zl49, zl99, zl100, zl120, zl376, zl377, zl378, zl379, zl380, ↓zi_192, zi_dec, Nat.add_zero, Nat.zero_add, m_n, m_b1, m_b2, m_rd, m_wr, m_get, m_put, nI_clamp, st_at, st_ne, up_at, up_ne, if_pos, if_neg, r_at, hlv, hroot]
        rw [← zl0, Int32.add_zero]
        exact ih acc
      · rw [if_neg hkr, ← Int32.add_assoc]
        simp (disch := omega) only [↓zlm1, ↓zlm2, zi_e1, zi_e2, zi_1e, zi_12, zi_21, zi_1n, zi_n1, if_true, if_false, eq_self, not_false_eq_true, not_true_eq_false, nI_add, zi_4m, zi_5m, zi_8m, zi_mul4, zi_mul5, zi_sub, nI_leI, nI_ltI, nI_eq, zl0, zl1, zl2, zl3, zl4, zl5, zl6, zl8, zl9, zl24, zl32, zl48, zl49, zl99, zl100, zl120, zl376, zl377, zl378, zl379, zl380, ↓zi_192, zi_dec, Nat.add_zero, Nat.zero_add, m_n, m_b1, m_b2, m_rd, m_wr, m_get, m_put, nI_clamp, st_at, st_ne, up_at, up_ne, if_pos, if_neg, r_at, hlv, hroot, r_area]
        exact ih _
theorem z_areas {N : Nat} (hN : 100 < N) {T S : zx_S} {t : ZT} (hQ : zQ 1 T S t) : ∃ x T' S', f_X1_areaBelowRoot N T = some (x, T') ∧ f_X3_areas N S = some (x, S') ∧ zfr [8, 9] T T' ∧ zfr [6] S S' := by
  obtain ⟨S1, e1, f1, hr1, hA⟩ := z_layA (N := N) hN (by decide) hQ
  obtain ⟨hT, hr, hw, hbx, _⟩ := hQ
  have hR := zwf_lv hw (by decide)
  have ht := zwf_zb hw (by omega)
  obtain ⟨T', e, g, f⟩ := m_nodes (N := N) hN hT hw
  have hle := zdo_le hw
  have hnd := zdo_nd hw
  have hmem := fun x => zdo_mem (y := x) hw
  obtain ⟨u, eu⟩ := zdo_0 (t := t)
  have b := r_ar (N := N) hr1 ht hw.2.2.2.2.2.2.1.1 32 0 N 0 (by omega) (by omega)
  rw [← List.range_eq_range', zsum_nodes hw (fun s h => if_pos h), eu, zsum, if_neg hw.2.2.2.2.2.2.1.2, if_pos rfl] at b
  rw [eu] at e g hle hnd
  rw [List.length_cons] at hle
  have a := m_ar9 (N := N) (T := T') (M := u.length + 1) hle u 1 N 0 (by omega) (by omega) g.2 (fun x hx => zdo_lt hw (by rw [eu]; exact List.mem_cons_of_mem _ hx))
  refine ⟨0 + (0 + zsum (fun s => if zlv t s = 0 then 0 else if s = zrt t then 0 else zar (S1 6) (24 + s)) u), T', S1, ?_, ?_, f, f1⟩
  rotate_left
  · unfold f_X3_areas
    rw [e1, m_b1]
    exact b
  · unfold f_X1_areaBelowRoot
    rw [e, m_b2, List.length_cons]
    rw [f 0 (by decide)] at a
    refine a.trans ?_
    have key : zsum (fun s => zar (T 0) (24 + s)) u = zsum (fun s => if zlv t s = 0 then 0 else if s = zrt t then 0 else zar (S1 6) (24 + s)) u := by
      refine zsum_cg fun x hx => ?_
      have hx0 := (hmem x).mp (by rw [eu]; exact List.mem_cons_of_mem _ hx)
      have hxr : x ≠ zrt t := fun z => (List.nodup_cons.mp hnd).1 (z ▸ hx)
      have h2 := hw.2.2.2.2.2.2.2.2.1 x hx0 hxr (by have := zb_lt ht hx0; omega)
      show zar (T 0) (24 + x) = if zlv t x = 0 then 0 else if x = zrt t then 0 else zar (S1 6) (24 + x)
      rw [if_neg hx0, if_neg hxr]
      exact zar_cg fun k hk => (hA (24 + x) (zgd_node (zb_lt ht hx0) hx0 (fun z => by rw [z] at h2; simp at h2))).2 k hk
    rw [key, Int32.zero_add, Int32.zero_add]
/-- the invariant, with the tree of now anew -/
theorem zQ_same {w : Nat} {T S : zx_S} {t : ZT} (h : zQ w T S t) : zsame T (S w) := ⟨t, h.2.2.1, h.2.1, h.1, h.2.2.2.1, h.2.2.2.2⟩
theorem same_zQ {w : Nat} {T S : zx_S} (h : zsame T (S w)) : ∃ t, zQ w T S t := by
  obtain ⟨t, a, b, c, d, e⟩ := h
  exact ⟨t, c, b, a, d, e⟩
theorem zsb_self {B : zx_B} {j : Nat} : zx_sb B j (B j) = B := by
  funext i
  by_cases h : i = j
  · rw [h, zsb_at]
  · rw [zsb_ne h]
theorem ZInv_mk {B B' : zx_B} {S S' : zx_S} (h : ZInv B S) (h0 : zsame (B' 0) (S' 1)) (hB : ∀ j, 1 < j → j < 18 → B' j = B j) (h18 : B' 18 0 = B 18 0 ∧ B' 18 2 0 = B 18 2 0) (h19 : B' 19 = B 19) (hS : S' 0 = S 0 ∧ S' 3 = S 3 ∧ S' 4 = S 4 ∧ S' 5 = S 5) (h12 : S' 12 1 = S 12 1 ∧ S' 12 2 = S 12 2) : ZInv B' S' := by
  obtain ⟨_, h2, h3, h4⟩ := h
  refine ⟨h0, ?_, ?_, ?_⟩
  · rw [h18.1, h18.2, hS.1, h12.1]; exact h2
  · rw [h19, h12.2, hS.2.1]
    obtain ⟨a, o, ha, ho, e1, e2, e3, hh⟩ := h3
    refine ⟨a, o, ha, ho, e1, e2, e3, fun i hi => ?_⟩
    rw [hB _ (by omega) (by omega)]
    exact hh i hi
  · rw [h19, hS.2.2.1, hS.2.2.2]
    intro j hj
    rw [hB _ (by omega) (by omega)]
    exact h4 j hj
theorem ZInv_look {B : zx_B} {S S' : zx_S} {T' : zx_S} (h : ZInv B S) (fT : zfr [5, 6, 7, 8, 9] (B 0) T') (fS : zfr [2, 6, 7, 8, 9, 10, 11, 12] S S') (h12 : S' 12 1 = S 12 1 ∧ S' 12 2 = S 12 2) : ZInv (zx_sb B 0 T') S' := by
  obtain ⟨t, hQ⟩ := same_zQ (w := 1) h.1
  have hQ' : zQ 1 T' S' t := zQ_cg hQ (fT 0 (by decide)) (fT 1 (by decide)) (fT 2 (by decide)) (fT 3 (by decide)) (fT 4 (by decide)) (fT 10 (by decide)) (fS 1 (by decide))
  refine ZInv_mk h (by rw [zsb_at]; exact zQ_same hQ') (fun j h1 _ => zsb_ne (by omega)) ⟨by rw [zsb_ne (by decide)], by rw [zsb_ne (by decide)]⟩ (zsb_ne (by decide)) ⟨fS 0 (by decide), fS 3 (by decide), fS 4 (by decide), fS 5 (by decide)⟩ h12
theorem m_levRoot {N w : Nat} {T S : zx_S} {t : ZT} (hQ : zQ w T S t) {s : Nat} (hs0 : zlv t s ≠ 0) : f_X1_levelOf N (nI (24 + s)) T = some (nI (zlv t s - 1)) ∧ f_X3_levelOf N 380 (nI s) (S w) = some (nI (zlv t s - 1)) := by
  obtain ⟨hT, hr, hw, _, _⟩ := hQ
  have hR := zwf_lv hw (by decide)
  have ht := zwf_zb hw (by omega)
  have hs := zb_lt ht hs0
  have h1 := hT.2.1 s hs
  rw [if_neg hs0] at h1
  refine ⟨?_, r_levelOf (by omega) (hr.2.2.1 s (by omega)) (by omega)⟩
  unfold f_X1_levelOf
  simp (disch := omega) only [↓zlm1, ↓zlm2, zi_e1, zi_e2, zi_1e, zi_12, zi_21, zi_1n, zi_n1, if_true, if_false, eq_self, not_false_eq_true, not_true_eq_false, nI_add, zi_4m, zi_5m, zi_8m, zi_mul4, zi_mul5, zi_sub, nI_leI, nI_ltI, nI_eq, zl0, zl1, zl2, zl3, zl4, zl5, zl6, zl8, zl9, zl24, zl32, zl48, zl49, zl99, zl100, zl120, zl376, zl377, zl378, zl379, zl380, ↓zi_192, zi_dec, Nat.add_zero, Nat.zero_add, m_n, m_b1, m_b2, m_rd, m_wr, m_get, m_put, nI_clamp, st_at, st_ne, up_at, up_ne, if_pos, if_neg, h1]
theorem op_about {N : Nat} (hN : 100 < N) : zs_about N ZInv := by
  intro p B S hI
  obtain ⟨t, hQ⟩ := same_zQ (w := 1) hI.1
  obtain ⟨S0, eS0⟩ : ∃ S0, S0 = zx_st S 12 (upd (S 12) 0 0) := ⟨_, rfl⟩
  have hQ0 : zQ 1 (B 0) S0 t := zQ_cg hQ rfl rfl rfl rfl rfl rfl (by rw [eS0]; exact st_ne (by decide))
  have fS0 : zfr [12] S S0 := by rw [eS0]; exact zfr_st (by simp) zfr_refl
  have h120 : S0 12 0 = 0 := by rw [eS0, st_at, up_at]
  have h121 : S0 12 1 = S 12 1 := by rw [eS0, st_at, up_ne (by decide)]
  have h122 : S0 12 2 = S 12 2 := by rw [eS0, st_at, up_ne (by decide)]
  have hin := m_in (N := N) (x := p) (lo := 0) (hi := 7) (a := 0) (b := 7) (by decide) (by decide)
  rcases zi_cases p 8 (by decide) with ⟨j, hj, rfl⟩ | z | z
  · rw [nI_toInt (by omega), if_pos (by omega)] at hin
    have hgo : f_X3_about N (nI j) S = f_X3_about_j18 N (nI j) 0 S := by
      unfold f_X3_about
      rw [hin, m_b1, if_neg (by decide)]
    have hj18 : ∀ {X}, f_X3_about_j18 N (nI j) 0 S = X → f_X3_about N (nI j) S = X := fun h => hgo.trans h
    have fin : ∀ (x : Int32) (T' S' : zx_S), zfr [8, 9] (B 0) T' → zfr [6] S0 S' → f_X2_about N (nI j) B = some (x, (0, zx_sb B 0 T')) → f_X3_about N (nI j) S = some (x, S') → ∃ (R : Int32 × (Nat × zx_B)) (r : Int32) (S2 : zx_S), f_X2_about N (nI j) B = some R ∧ f_X3_about N (nI j) S = some (r, S2) ∧ ZInv R.2.2 S2 ∧ ((R.2.1 = 0 ∧ S2 12 0 = 0 ∧ R.1 = r) ∨ (R.2.1 = 1 ∧ S2 12 0 = 1)) := by
      intro x T' S' fT fS hc hm
      refine ⟨_, _, _, hc, hm, ZInv_look hI (zfr_sub fT (by decide)) (zfr_trans (zfr_sub fS0 (by decide)) (zfr_sub fS (by decide))) ⟨?_, ?_⟩, Or.inl ⟨rfl, ?_, rfl⟩⟩
      · rw [fS 12 (by decide), h121]
      · rw [fS 12 (by decide), h122]
      · rw [fS 12 (by decide), h120]
    have hroot : B 0 10 0 = nI (24 + zrt t) := hQ.1.2.2.2.2.2.2
    have hroot2 : S0 1 376 = nI (zrt t) := hQ0.2.1.2.2.2.2.2
    have hrt := hQ.2.2.1.2.2.2.2.2.2.1
    obtain ⟨c1, c2⟩ := z_count (N := N) hN hQ0
    obtain ⟨T1, n1, _, n3⟩ := m_nodes (N := N) hN hQ.1 hQ.2.2.1
    have n4 := r_nodes (N := N) hN hQ0.2.1 (zwf_le10 hQ0.2.2.1)
    rw [← zdo_len hQ.2.2.1] at n4
    obtain ⟨l1, l2⟩ := m_levRoot (N := N) hQ0 hrt.2
    obtain ⟨x3, T3, S3, o1, o2, o3, o4⟩ := z_overlap (N := N) hN (by decide) hQ0
    obtain ⟨x4, T4, S4, a1, a2, a3, a4⟩ := z_areas (N := N) hN hQ0
    obtain ⟨k1, k2, k3⟩ := hQ0.2.2.2.2
    have hlt : zrt t < 2 ^ 31 := by omega
    rcases (show j = 0 ∨ j = 1 ∨ j = 2 ∨ j = 3 ∨ j = 4 ∨ j = 5 ∨ j = 6 ∨ j = 7 by omega) with rfl | rfl | rfl | rfl | rfl | rfl | rfl | rfl
    · refine fin (nI (zct t 24)) (B 0) S0 zfr_refl zfr_refl ?_ (hj18 ?_)
      · unfold f_X2_about
        rw [if_pos (by decide), c1, m_b1, zsb_self]
      · unfold f_X3_about_j18
        rw [m_ref0, m_b2, if_pos (by decide), ← eS0, if_pos (by decide), c2, m_b1]
    · refine fin (nI (zdo t).length) T1 S0 n3 zfr_refl ?_ (hj18 ?_)
      · unfold f_X2_about
        rw [if_neg (by decide), if_pos (by decide), n1, m_b2, m_n]
      · unfold f_X3_about_j18
        rw [m_ref0, m_b2, if_pos (by decide), ← eS0, if_neg (by decide), if_pos (by decide), n4, m_b1]
    · refine fin (nI (zlv t (zrt t) - 1)) (B 0) S0 zfr_refl zfr_refl ?_ (hj18 ?_)
      · unfold f_X2_about
        rw [if_neg (by decide), if_neg (by decide), if_pos (by decide), hroot, l1, m_b1, zsb_self]
      · unfold f_X3_about_j18
        rw [m_ref0, m_b2, if_pos (by decide), ← eS0, if_neg (by decide), if_neg (by decide), if_pos (by decide), zl376, m_rd (by decide) (by decide), hroot2, l2, m_b1]
    · refine fin x3 T3 S3 o3 o4 ?_ (hj18 ?_)
      · unfold f_X2_about
        rw [if_neg (by decide), if_neg (by decide), if_neg (by decide), if_pos (by decide), o1, m_b2, m_n]
      · unfold f_X3_about_j18
        rw [m_ref0, m_b2, if_pos (by decide), ← eS0, if_neg (by decide), if_neg (by decide), if_neg (by decide), if_pos (by decide), o2, m_b2]
    · refine fin x4 T4 S4 a3 a4 ?_ (hj18 ?_)
      · unfold f_X2_about
        rw [if_neg (by decide), if_neg (by decide), if_neg (by decide), if_neg (by decide), if_pos (by decide), a1, m_b2, m_n]
      · unfold f_X3_about_j18
        rw [m_ref0, m_b2, if_pos (by decide), ← eS0, if_neg (by decide), if_neg (by decide), if_neg (by decide), if_neg (by decide), if_pos (by decide), a2, m_b2]
    · refine fin (B 0 10 1) (B 0) S0 zfr_refl zfr_refl ?_ (hj18 ?_)
      · unfold f_X2_about
        rw [if_neg (by decide), if_neg (by decide), if_neg (by decide), if_neg (by decide), if_neg (by decide), if_pos (by decide), zsb_self]
      · unfold f_X3_about_j18
        rw [m_ref0, m_b2, if_pos (by decide), ← eS0, if_neg (by decide), if_neg (by decide), if_neg (by decide), if_neg (by decide), if_neg (by decide), show (377 : Int32) + nI 5 - 5 = nI 377 from by decide, m_rd (by decide) (by decide), k1]
    · refine fin (B 0 10 2) (B 0) S0 zfr_refl zfr_refl ?_ (hj18 ?_)
      · unfold f_X2_about
        rw [if_neg (by decide), if_neg (by decide), if_neg (by decide), if_neg (by decide), if_neg (by decide), if_neg (by decide), if_pos (by decide), zsb_self]
      · unfold f_X3_about_j18
        rw [m_ref0, m_b2, if_pos (by decide), ← eS0, if_neg (by decide), if_neg (by decide), if_neg (by decide), if_neg (by decide), if_neg (by decide), show (377 : Int32) + nI 6 - 5 = nI 378 from by decide, m_rd (by decide) (by decide), k2]
    · refine fin (B 0 10 3) (B 0) S0 zfr_refl zfr_refl ?_ (hj18 ?_)
      · unfold f_X2_about
        rw [if_neg (by decide), if_neg (by decide), if_neg (by decide), if_neg (by decide), if_neg (by decide), if_neg (by decide), if_neg (by decide), if_pos (by decide), zsb_self]
      · unfold f_X3_about_j18
        rw [m_ref0, m_b2, if_pos (by decide), ← eS0, if_neg (by decide), if_neg (by decide), if_neg (by decide), if_neg (by decide), if_neg (by decide), show (377 : Int32) + nI 7 - 5 = nI 379 from by decide, m_rd (by decide) (by decide), k3]
  all_goals
    rw [if_neg (by omega)] at hin
    have hne : ∀ k, k < 8 → ¬ p = nI k := fun k hk e => by
      rw [e, nI_toInt (by omega)] at z; omega
    have hc : f_X2_about N p B = some (0, (1, B)) := by
      unfold f_X2_about
      rw [if_neg (show ¬ p = 0 from hne 0 (by decide)), if_neg (show ¬ p = 1 from hne 1 (by decide)), if_neg (show ¬ p = 2 from hne 2 (by decide)), if_neg (show ¬ p = 3 from hne 3 (by decide)), if_neg (show ¬ p = 4 from hne 4 (by decide)), if_neg (show ¬ p = 5 from hne 5 (by decide)), if_neg (show ¬ p = 6 from hne 6 (by decide)), if_neg (show ¬ p = 7 from hne 7 (by decide))]
    have hm : f_X3_about N p S = some (0, zx_st S 12 (upd (S 12) 0 1)) := by
      unfold f_X3_about
      rw [hin, m_b1, if_pos (by decide)]
      unfold f_X3_about_j18
      rw [m_ref1, m_b2, if_neg (by decide)]
    exact ⟨_, _, _, hc, hm, ZInv_ref hI, Or.inr ⟨rfl, by rw [st_at, up_at]⟩⟩
