/-! the state of a ShallowBoxes: trees 0 (tree), 1 (trial), 2..15 (remembered), 16, 17 (slots); 18 the text; 19: 0 slotUsed, 1 (oldest, rememberedCount) -/
abbrev zx_B : Type := Nat → zx_S
def zx_sb (B : zx_B) (j : Nat) (S : zx_S) : zx_B := fun i => if i = j then S else B i
def zx_tr (cI : ClassId) (hh : Nat → Nat) (aa : Nat → Nat → Nat) (B : zx_B) (n : Nat) : va_W := if h : n = 0 then [] else zx_tr cI hh aa B (n - 1) ++ xW1 cI (hh (n - 1)) (aa (n - 1)) (B (n - 1))
termination_by n
decreasing_by omega
theorem zx_tr_0 {cI : ClassId} {hh : Nat → Nat} {aa : Nat → Nat → Nat} {B : zx_B} : zx_tr cI hh aa B 0 = [] := by rw [zx_tr]; exact dif_pos rfl
theorem zx_tr_s {cI : ClassId} {hh : Nat → Nat} {aa : Nat → Nat → Nat} {B : zx_B} (n : Nat) : zx_tr cI hh aa B (n + 1) = zx_tr cI hh aa B n ++ xW1 cI (hh n) (aa n) (B n) := by rw [zx_tr]; exact dif_neg (Nat.succ_ne_zero n)
def xW2h (cI cT : ClassId) (h : Nat) (hh : Nat → Nat) (aa : Nat → Nat → Nat) (B : zx_B) : va_W := [(h, .inr (2, [.ref (hh 0), .ref (hh 1), .ref (aa 19 1), .int (B 19 1 0), .int (B 19 1 1), .ref (aa 19 2), .ref (aa 19 0), .ref (hh 18)])), (aa 19 0, .inl (cI, 2, .inl (B 19 0))), (aa 19 1, .inl (cT, 14, .inr (.inr (.inr (.inr (fun i => some (hh (2 + i)))))))), (aa 19 2, .inl (cT, 2, .inr (.inr (.inr (.inr (fun i => some (hh (16 + i))))))))]
def xW2 (cI cT : ClassId) (h : Nat) (hh : Nat → Nat) (aa : Nat → Nat → Nat) (B : zx_B) : va_W := (h, .inr (2, [.ref (hh 0), .ref (hh 1), .ref (aa 19 1), .int (B 19 1 0), .int (B 19 1 1), .ref (aa 19 2), .ref (aa 19 0), .ref (hh 18)])) :: (aa 19 0, .inl (cI, 2, .inl (B 19 0))) :: (aa 19 1, .inl (cT, 14, .inr (.inr (.inr (.inr (fun i => some (hh (2 + i)))))))) :: (aa 19 2, .inl (cT, 2, .inr (.inr (.inr (.inr (fun i => some (hh (16 + i)))))))) :: (hh 18, .inr (0, [.ref (aa 18 0), .int (B 18 2 0), .ref (aa 18 1), .int (B 18 2 1), .int (B 18 2 2), .int (B 18 2 3)])) :: (aa 18 0, .inl (cI, 100, .inl (B 18 0))) :: (aa 18 1, .inl (cI, 56, .inl (B 18 1))) :: zx_tr cI hh aa B 18
section T
theorem zx_tr_len {cI : ClassId} {hh : Nat → Nat} {aa : Nat → Nat → Nat} {B : zx_B} : ∀ n, (zx_tr cI hh aa B n).length = 11 * n
  | 0 => by rw [zx_tr_0]; rfl
  | n + 1 => by rw [zx_tr_s, List.length_append, zx_tr_len n]; show 11 * n + 11 = _; omega
theorem zx_tr_at {cI : ClassId} {hh : Nat → Nat} {aa : Nat → Nat → Nat} {B : zx_B} {j t : Nat} (ht : t < 11) : ∀ n, j < n → (zx_tr cI hh aa B n)[11 * j + t]? = (xW1 cI (hh j) (aa j) (B j))[t]?
  | 0, h => absurd h (Nat.not_lt_zero _)
  | n + 1, h => by
    rw [zx_tr_s]
    by_cases hj : j < n
    · rw [List.getElem?_append_left (by rw [zx_tr_len]; omega)]
      exact zx_tr_at ht n hj
    · have : j = n := by omega
      subst this
      rw [List.getElem?_append_right (by rw [zx_tr_len]; omega), zx_tr_len, Nat.add_sub_cancel_left]
theorem zx_tr_congr {cI : ClassId} {hh : Nat → Nat} {aa : Nat → Nat → Nat} {B B' : zx_B} : ∀ n, (∀ j, j < n → B j = B' j) → zx_tr cI hh aa B n = zx_tr cI hh aa B' n
  | 0, _ => by rw [zx_tr_0, zx_tr_0]
  | n + 1, h => by
    rw [zx_tr_s, zx_tr_s, zx_tr_congr n (fun j hj => h j (by omega)), h n (by omega)]
theorem zx_tr_fst {cI : ClassId} {hh : Nat → Nat} {aa : Nat → Nat → Nat} {B B' : zx_B} : ∀ n, (zx_tr cI hh aa B n).map Prod.fst = (zx_tr cI hh aa B' n).map Prod.fst
  | 0 => by rw [zx_tr_0, zx_tr_0]
  | n + 1 => by
    rw [zx_tr_s, zx_tr_s, List.map_append, List.map_append, zx_tr_fst n]; rfl
end T
theorem zx2_Da {cI cT : ClassId} {h : Nat} {hh : Nat → Nat} {aa : Nat → Nat → Nat} {B : zx_B} {A : Nat → Prop} (B' : zx_B) (hD : va_D A (xW2 cI cT h hh aa B)) : va_D A (xW2 cI cT h hh aa B') := zx_Deq (ws := xW2 cI cT h hh aa B) (by simp only [xW2, List.map_cons]; rw [zx_tr_fst 18]) hD
/-! a part of a world, by a map of places -/
theorem zx_mP {D : va_G} {cl : List vw_C} {ws wc : va_W} {H : Heap} (f : Nat → Nat) (h : ∀ t, t < wc.length → ws[f t]? = wc[t]?) (hP : va_P D cl ws H) : va_P D cl wc H := fun k q hk => hP (f k) q ((h k (List.getElem?_eq_some_iff.mp hk).1).trans hk)
theorem zx_mD {A : Nat → Prop} {ws wc : va_W} (f : Nat → Nat) (h : ∀ t, t < wc.length → ws[f t]? = wc[t]?) (inj : ∀ t u, t < wc.length → u < wc.length → f t = f u → t = u) (hD : va_D A ws) : va_D A wc := by
  refine ⟨fun i j p q hi hj hpq => ?_, fun k q hk => ?_⟩
  · have li := (List.getElem?_eq_some_iff.mp hi).1
    have lj := (List.getElem?_eq_some_iff.mp hj).1
    exact inj i j li lj (hD.1 (f i) (f j) p q ((h i li).trans hi) ((h j lj).trans hj) hpq)
  · exact hD.2 (f k) q ((h k (List.getElem?_eq_some_iff.mp hk).1).trans hk)
theorem zx_mS {D : va_G} {cl : List vw_C} {A : Nat → Prop} {ws wc w1 ws' : va_W} {H H1 : Heap} (f : Nat → Nat) (h : ∀ t, t < wc.length → ws[f t]? = wc[t]?) (hP : va_P D cl ws H) (hD : va_D A ws) (hk : ∀ q : Nat, q < H.size → ¬ va_A wc H.size q → H1[q]? = H[q]?) (hB : va_P D cl w1 H1) (h1 : ∀ t, t < wc.length → ws'[f t]? = w1[t]?) (h2 : ∀ k, (∀ t, t < wc.length → f t ≠ k) → ws'[k]? = ws[k]?) : va_P D cl ws' H1 := by
  intro k q hq
  by_cases hc : ∃ t, t < wc.length ∧ f t = k
  · obtain ⟨t, ht, rfl⟩ := hc
    exact hB t q ((h1 t ht).symm.trans hq)
  · have hq0 : ws[k]? = some q := (h2 k (fun t ht e => hc ⟨t, ht, e⟩)).symm.trans hq
    have hlt := (hP k q hq0).lt
    refine (hP k q hq0).kept (hk q.1 hlt ?_)
    rintro (⟨t, e9, ht⟩ | hj)
    · have lt := (List.getElem?_eq_some_iff.mp ht).1
      exact hc ⟨t, lt, hD.1 (f t) k (q.1, e9) q ((h t lt).trans ht) hq0 rfl⟩
    · omega
section P
variable {D : va_G} {cl : List vw_C} {A : Nat → Prop} {cI cT : ClassId} {h : Nat} {hh : Nat → Nat} {aa : Nat → Nat → Nat} {B : zx_B} {H H1 : Heap}
theorem zx2_at {j t : Nat} (hj : j < 18) (ht : t < 11) : (xW2 cI cT h hh aa B)[7 + (11 * j + t)]? = (xW1 cI (hh j) (aa j) (B j))[t]? := by
  rw [← zx_tr_at (B := B) ht 18 hj]
  show (_ :: _ :: _ :: _ :: _ :: _ :: _ :: zx_tr cI hh aa B 18)[7 + (11 * j + t)]? = _
  rw [show 7 + (11 * j + t) = (11 * j + t) + 1 + 1 + 1 + 1 + 1 + 1 + 1 by omega]
  rfl
theorem zx2_P {j : Nat} (hj : j < 18) (hP : va_P D cl (xW2 cI cT h hh aa B) H) : va_P D cl (xW1 cI (hh j) (aa j) (B j)) H := zx_mP (fun t => 7 + (11 * j + t)) (fun t ht => zx2_at hj ht) hP
theorem zx2_D {j : Nat} (hj : j < 18) (hD : va_D A (xW2 cI cT h hh aa B)) : va_D A (xW1 cI (hh j) (aa j) (B j)) := zx_mD (fun t => 7 + (11 * j + t)) (fun t ht => zx2_at hj ht) (fun t u _ _ e => by have e : 7 + (11 * j + t) = 7 + (11 * j + u) := e; omega) hD
theorem zx2_k7 {k : Nat} (hk : k < 7) {j : Nat} (hj : j < 18) {S : zx_S} : (xW2 cI cT h hh aa (zx_sb B j S))[k]? = (xW2 cI cT h hh aa B)[k]? := by
  have e1 : (zx_sb B j S) 18 = B 18 := if_neg (by omega)
  have e2 : (zx_sb B j S) 19 = B 19 := if_neg (by omega)
  simp only [xW2, e1, e2]
  match k, hk with
  | 0, _ => rfl
  | 1, _ => rfl
  | 2, _ => rfl
  | 3, _ => rfl
  | 4, _ => rfl
  | 5, _ => rfl
  | 6, _ => rfl
theorem zx2_o {j k : Nat} (hj : j < 18) {S : zx_S} (hk : ∀ t, t < 11 → 7 + (11 * j + t) ≠ k) : (xW2 cI cT h hh aa (zx_sb B j S))[k]? = (xW2 cI cT h hh aa B)[k]? := by
  by_cases h7 : k < 7
  · exact zx2_k7 h7 hj
  · by_cases hl : k < 205
    · have hi : (k - 7) / 11 < 18 := by omega
      have ht : (k - 7) % 11 < 11 := Nat.mod_lt _ (by omega)
      have e : k = 7 + (11 * ((k - 7) / 11) + (k - 7) % 11) := by omega
      have hne : (k - 7) / 11 ≠ j := fun q => hk _ ht (by rw [← q]; exact e.symm)
      rw [e, zx2_at hi ht, zx2_at hi ht, show (zx_sb B j S) ((k - 7) / 11) = B ((k - 7) / 11) from if_neg hne]
    · have l1 : ∀ B', (xW2 cI cT h hh aa B').length = 205 := fun B' => by
        show (zx_tr cI hh aa B' 18).length + 7 = 205
        rw [zx_tr_len]
      rw [List.getElem?_eq_none (by rw [l1]; omega), List.getElem?_eq_none (by rw [l1]; omega)]
theorem zx2_S {j : Nat} (hj : j < 18) {S : zx_S} (hP : va_P D cl (xW2 cI cT h hh aa B) H) (hD : va_D A (xW2 cI cT h hh aa B)) (hk : ∀ q : Nat, q < H.size → ¬ va_A (xW1 cI (hh j) (aa j) (B j)) H.size q → H1[q]? = H[q]?) (hB : va_P D cl (xW1 cI (hh j) (aa j) S) H1) : va_P D cl (xW2 cI cT h hh aa (zx_sb B j S)) H1 :=
  zx_mS (fun t => 7 + (11 * j + t)) (fun t ht => zx2_at hj ht) hP hD hk hB (fun t ht => by rw [zx2_at hj ht, show (zx_sb B j S) j = S from if_pos rfl]) (fun k hk => zx2_o hj hk)
theorem zx2_Pt (hP : va_P D cl (xW2 cI cT h hh aa B) H) : va_P D cl (xW0 cI (hh 18) (aa 18) (B 18)) H := hP.sub [4, 5, 6] rfl
theorem zx2_Dt (hD : va_D A (xW2 cI cT h hh aa B)) : va_D A (xW0 cI (hh 18) (aa 18) (B 18)) := hD.sub [4, 5, 6] rfl rfl
theorem zx2_tr {S : zx_S} {j : Nat} (hj : 18 ≤ j) : zx_tr cI hh aa (zx_sb B j S) 18 = zx_tr cI hh aa B 18 := zx_tr_congr 18 (fun i hi => if_neg (by omega))
theorem zx2_St {S : zx_S} (hP : va_P D cl (xW2 cI cT h hh aa B) H) (hD : va_D A (xW2 cI cT h hh aa B)) (hk : ∀ q : Nat, q < H.size → ¬ va_A (xW0 cI (hh 18) (aa 18) (B 18)) H.size q → H1[q]? = H[q]?) (hB : va_P D cl (xW0 cI (hh 18) (aa 18) S) H1) : va_P D cl (xW2 cI cT h hh aa (zx_sb B 18 S)) H1 := by
  refine zx_mS (ws := xW2 cI cT h hh aa B) (wc := xW0 cI (hh 18) (aa 18) (B 18)) (w1 := xW0 cI (hh 18) (aa 18) S) (fun t => 4 + t) (fun t ht => ?_) hP hD hk hB (fun t ht => ?_) (fun k hk => ?_)
  · match t, ht with
    | 0, _ => rfl
    | 1, _ => rfl
    | 2, _ => rfl
  · match t, ht with
    | 0, _ => rfl
    | 1, _ => rfl
    | 2, _ => rfl
  · have h4 := hk 0 (by show 0 < 3; omega)
    have h5 := hk 1 (by show 1 < 3; omega)
    have h6 := hk 2 (by show 2 < 3; omega)
    match k, h4, h5, h6 with
    | 0, _, _, _ => rfl
    | 1, _, _, _ => rfl
    | 2, _, _, _ => rfl
    | 3, _, _, _ => rfl
    | 4, q, _, _ => exact absurd rfl q
    | 5, _, q, _ => exact absurd rfl q
    | 6, _, _, q => exact absurd rfl q
    | k + 7, _, _, _ =>
      show (zx_tr cI hh aa (zx_sb B 18 S) 18)[k]? = (zx_tr cI hh aa B 18)[k]?
      rw [zx2_tr (Nat.le_refl 18)]
/-! two trees -/
theorem zx2_at2 {j i : Nat} (hj : j < 18) (hi : i < 18) : ∀ t, t < (xT2 cI (hh j) (aa j) (B j) (hh i) (aa i) (B i)).length → (xW2 cI cT h hh aa B)[if t < 11 then 7 + (11 * j + t) else 7 + (11 * i + (t - 11))]? = (xT2 cI (hh j) (aa j) (B j) (hh i) (aa i) (B i))[t]? := by
  intro t ht
  have ht : t < 22 := ht
  by_cases c : t < 11
  · rw [if_pos c, zx2_at hj c]
    exact (List.getElem?_append_left (show t < (xW1 cI (hh j) (aa j) (B j)).length from c)).symm
  · rw [if_neg c, zx2_at hi (by omega)]
    exact (List.getElem?_append_right (show (xW1 cI (hh j) (aa j) (B j)).length ≤ t from Nat.not_lt.mp c)).symm
theorem zx2_P2 {j i : Nat} (hj : j < 18) (hi : i < 18) (hP : va_P D cl (xW2 cI cT h hh aa B) H) : va_P D cl (xT2 cI (hh j) (aa j) (B j) (hh i) (aa i) (B i)) H := zx_mP _ (zx2_at2 hj hi) hP
theorem zx2_D2 {j i : Nat} (hj : j < 18) (hi : i < 18) (hne : j ≠ i) (hD : va_D A (xW2 cI cT h hh aa B)) : va_D A (xT2 cI (hh j) (aa j) (B j) (hh i) (aa i) (B i)) := zx_mD _ (zx2_at2 hj hi) (fun t u ht hu e => by
  have ht : t < 22 := ht
  have hu : u < 22 := hu
  split at e <;> split at e <;> omega) hD
theorem zx2_S2 {j i : Nat} (hj : j < 18) (hi : i < 18) (hne : j ≠ i) {S : zx_S} (hP : va_P D cl (xW2 cI cT h hh aa B) H) (hD : va_D A (xW2 cI cT h hh aa B)) (hk : ∀ q : Nat, q < H.size → ¬ va_A (xT2 cI (hh j) (aa j) (B j) (hh i) (aa i) (B i)) H.size q → H1[q]? = H[q]?) (hB : va_P D cl (xT2 cI (hh j) (aa j) S (hh i) (aa i) (B i)) H1) : va_P D cl (xW2 cI cT h hh aa (zx_sb B j S)) H1 := by
  refine zx_mS _ (zx2_at2 hj hi) hP hD hk hB (fun t ht => ?_) (fun k hk => zx2_o hj (fun t ht => ?_))
  · have ht : t < 22 := ht
    by_cases c : t < 11
    · rw [if_pos c, zx2_at hj c, show (zx_sb B j S) j = S from if_pos rfl]
      exact (List.getElem?_append_left (show t < (xW1 cI (hh j) (aa j) S).length from c)).symm
    · rw [if_neg c, zx2_at hi (by omega), show (zx_sb B j S) i = B i from if_neg (Ne.symm hne)]
      exact (List.getElem?_append_right (show (xW1 cI (hh j) (aa j) S).length ≤ t from Nat.not_lt.mp c)).symm
  · have := hk t (show t < 22 by omega)
    rwa [if_pos ht] at this
theorem xW2_pa0 {f : Nat → Int32} : (xW2 cI cT h hh aa B).set 1 (aa 19 0, .inl (cI, 2, .inl f)) = xW2 cI cT h hh aa (zx_sb B 19 (zx_st (B 19) 0 f)) := by
  have e := zx2_tr (cI := cI) (hh := hh) (aa := aa) (B := B) (S := zx_st (B 19) 0 f) (j := 19) (by omega)
  unfold xW2
  rw [e]
  rfl
theorem xW2_pf3 {v : Int32} (hP : va_P D cl ((xW2 cI cT h hh aa B).set 0 (h, .inr (2, ([.ref (hh 0), .ref (hh 1), .ref (aa 19 1), .int (B 19 1 0), .int (B 19 1 1), .ref (aa 19 2), .ref (aa 19 0), .ref (hh 18)] : List Value).set 3 (.int v)))) H) : va_P D cl (xW2 cI cT h hh aa (zx_sb B 19 (zx_st (B 19) 1 (upd (B 19 1) 0 v)))) H := by
  have e := zx2_tr (cI := cI) (hh := hh) (aa := aa) (B := B) (S := zx_st (B 19) 1 (upd (B 19 1) 0 v)) (j := 19) (by omega)
  unfold xW2 at hP ⊢
  rw [e]
  exact hP
theorem xW2_pf4 {v : Int32} (hP : va_P D cl ((xW2 cI cT h hh aa B).set 0 (h, .inr (2, ([.ref (hh 0), .ref (hh 1), .ref (aa 19 1), .int (B 19 1 0), .int (B 19 1 1), .ref (aa 19 2), .ref (aa 19 0), .ref (hh 18)] : List Value).set 4 (.int v)))) H) : va_P D cl (xW2 cI cT h hh aa (zx_sb B 19 (zx_st (B 19) 1 (upd (B 19 1) 1 v)))) H := by
  have e := zx2_tr (cI := cI) (hh := hh) (aa := aa) (B := B) (S := zx_st (B 19) 1 (upd (B 19 1) 1 v)) (j := 19) (by omega)
  unfold xW2 at hP ⊢
  rw [e]
  exact hP
theorem xW2_pt1 {v : Int32} (hP : va_P D cl ((xW2 cI cT h hh aa B).set 4 (hh 18, .inr (0, ([.ref (aa 18 0), .int (B 18 2 0), .ref (aa 18 1), .int (B 18 2 1), .int (B 18 2 2), .int (B 18 2 3)] : List Value).set 1 (.int v)))) H) : va_P D cl (xW2 cI cT h hh aa (zx_sb B 18 (zx_st (B 18) 2 (upd (B 18 2) 0 v)))) H := by
  have e := zx2_tr (cI := cI) (hh := hh) (aa := aa) (B := B) (S := zx_st (B 18) 2 (upd (B 18 2) 0 v)) (j := 18) (by omega)
  unfold xW2 at hP ⊢
  rw [e]
  exact hP
end P
/-! what a throw needs of the start: the statics of Throwable, the texts, the words that are not good -/
def zx_strs : List (Nat × String) := [(39, "no character"), (50, "the text is full"), (88, "what is not 0 to 7"), (96, "no such rectangle"), (99, "what is not 0 to 4"), (114, "no such node"), (116, "what is not 0 to 6"), (121, "k is negative"), (130, "no such box"), (132, "there are 24 rectangles"), (151, "the text is not rectangles"), (156, "there would be more than 24 rectangles"), (162, "dx or dy is not -99 to 99"), (168, "it would have cells that there are not"), (177, "no state is remembered"), (200, "no such cell"), (217, "n is not 1 or 2"), (223, "script is negative or too long"), (228, "m is not 1 to 60"), (237, "no such save slot"), (247, "nothing has been saved in it")]
theorem zx_str_39 : (39, "no character") ∈ zx_strs := List.mem_of_getElem? (i := 0) rfl
theorem zx_str_50 : (50, "the text is full") ∈ zx_strs := List.mem_of_getElem? (i := 1) rfl
theorem zx_str_88 : (88, "what is not 0 to 7") ∈ zx_strs := List.mem_of_getElem? (i := 2) rfl
theorem zx_str_96 : (96, "no such rectangle") ∈ zx_strs := List.mem_of_getElem? (i := 3) rfl
theorem zx_str_99 : (99, "what is not 0 to 4") ∈ zx_strs := List.mem_of_getElem? (i := 4) rfl
theorem zx_str_114 : (114, "no such node") ∈ zx_strs := List.mem_of_getElem? (i := 5) rfl
theorem zx_str_116 : (116, "what is not 0 to 6") ∈ zx_strs := List.mem_of_getElem? (i := 6) rfl
theorem zx_str_121 : (121, "k is negative") ∈ zx_strs := List.mem_of_getElem? (i := 7) rfl
theorem zx_str_130 : (130, "no such box") ∈ zx_strs := List.mem_of_getElem? (i := 8) rfl
theorem zx_str_132 : (132, "there are 24 rectangles") ∈ zx_strs := List.mem_of_getElem? (i := 9) rfl
theorem zx_str_151 : (151, "the text is not rectangles") ∈ zx_strs := List.mem_of_getElem? (i := 10) rfl
theorem zx_str_156 : (156, "there would be more than 24 rectangles") ∈ zx_strs := List.mem_of_getElem? (i := 11) rfl
theorem zx_str_162 : (162, "dx or dy is not -99 to 99") ∈ zx_strs := List.mem_of_getElem? (i := 12) rfl
theorem zx_str_168 : (168, "it would have cells that there are not") ∈ zx_strs := List.mem_of_getElem? (i := 13) rfl
theorem zx_str_177 : (177, "no state is remembered") ∈ zx_strs := List.mem_of_getElem? (i := 14) rfl
theorem zx_str_200 : (200, "no such cell") ∈ zx_strs := List.mem_of_getElem? (i := 15) rfl
theorem zx_str_217 : (217, "n is not 1 or 2") ∈ zx_strs := List.mem_of_getElem? (i := 16) rfl
theorem zx_str_223 : (223, "script is negative or too long") ∈ zx_strs := List.mem_of_getElem? (i := 17) rfl
theorem zx_str_228 : (228, "m is not 1 to 60") ∈ zx_strs := List.mem_of_getElem? (i := 18) rfl
theorem zx_str_237 : (237, "no such save slot") ∈ zx_strs := List.mem_of_getElem? (i := 19) rfl
theorem zx_str_247 : (247, "nothing has been saved in it") ∈ zx_strs := List.mem_of_getElem? (i := 20) rfl
def zx_xw : List Cond := [.castable "java/lang/IllegalArgumentException" "java/lang/IllegalArgumentException", .castable "java/lang/IllegalStateException" "java/lang/IllegalStateException", .castable "java/lang/IndexOutOfBoundsException" "java/lang/IndexOutOfBoundsException", .declares ⟨"java/lang/RuntimeException", "<init>", "(Ljava/lang/String;)V"⟩, .declares ⟨"java/lang/Exception", "<init>", "(Ljava/lang/String;)V"⟩, .declares ⟨"java/lang/Throwable", "<init>", "(Ljava/lang/String;)V"⟩]
theorem zx_xw_warm {s U : State} (hW : s.WarmedH U.vm) (h : ∀ w ∈ zx_xw, va_Nw w s) : ∀ w ∈ zx_xw, va_Nw w U := by
  intro w hw
  have h2 := h w hw
  simp only [zx_xw, List.mem_cons, List.not_mem_nil, or_false] at hw
  rcases hw with rfl | rfl | rfl | rfl | rfl | rfl
  all_goals first | exact va_Nw.warmC hW h2 | exact va_Nw.warmD hW h2
theorem zx_xw_on : ∀ w ∈ zx_xw, w.onTables = true := by decide +kernel
def zx_X (A : Nat → Prop) (U : State) (H : Heap) : Prop := vx_Zq Bundle.tN "UNASSIGNED_STACK" Bundle.steD A U H ∧ vx_Zq Bundle.tN "SUPPRESSED_SENTINEL" Bundle.listD A U H ∧ (∀ w ∈ zx_xw, va_Nw w U) ∧ ∀ i t, (i, t) ∈ zx_strs → ∃ sa, vk_R RX2 i t sa U
def bX (D : va_G) (tys : List (ClassId × FieldType)) (ws : va_W) (sz : Nat) : State → Prop := fun U => bS D tys ws sz U ∧ zx_X (va_A ws sz) U U.heap
theorem bX_blind {av : List Value} {D : va_G} {tys : List (ClassId × FieldType)} {ws : va_W} {sz : Nat} : FrameBlind (va_Pc av (bX D tys ws sz)) := fun a U g mk q => by
  obtain ⟨q0, q1, q2, q3, q4, q5⟩ := q
  have z := bS_blind (av := av) (D := D) (tys := tys) (ws := ws) (sz := sz) a U g mk ⟨q0, q1⟩
  exact ⟨q0, z.2, vx_Zq.moved (Vm.Alike.refl U.vm) q2, vx_Zq.moved (Vm.Alike.refl U.vm) q3, fun w hw => va_Nw.same (u := U) (U := U.calling g mk a) (zx_xw_on w hw) rfl (q4 w hw), fun i t h => by obtain ⟨sa, h⟩ := q5 i t h; exact ⟨sa, vk_R.same (u := U) (U := U.calling g mk a) rfl h⟩⟩
theorem bX_pre {av : List Value} {D : va_G} {tys : List (ClassId × FieldType)} {ws wc : va_W} {A : Nat → Prop} {s : State} {H H0 : Heap} {lc : List Loc} (hP : va_P D vwCl wc H) (hK : va_K D vwCl tys s) (hD : va_D A wc) (hN : ∀ w ∈ zx_nw, va_Nw w s) (hX : zx_X A s H0) (hS : va_S A H0 H lc) (hF : ∀ q, va_A wc H.size q → A q) : ∀ U : State, U.heap = H → s.WarmedH U.vm → va_Pc av (bX D tys wc H.size) av.toArray U := fun U hU hW =>
  ⟨(bS_pre (av := av) hP hK hD hN U hU hW).1, (bS_pre (av := av) hP hK hD hN U hU hW).2, by
    have k1 := vx_Zq.narrow (vx_Zq.moved hW.alike (vx_Zq.kept (H1 := H) hX.1 hS.2.1)) hF
    rw [hU]; exact k1, by
    have k1 := vx_Zq.narrow (vx_Zq.moved hW.alike (vx_Zq.kept (H1 := H) hX.2.1 hS.2.1)) hF
    rw [hU]; exact k1, zx_xw_warm hW hX.2.2.1, fun i t h => by obtain ⟨sa, h⟩ := hX.2.2.2 i t h; exact ⟨sa, vk_R.warm hW h⟩⟩
def zx_E (k : Nat) : String := if k = 1 then "java/lang/IllegalArgumentException" else if k = 2 then "java/lang/IllegalStateException" else "java/lang/IndexOutOfBoundsException"
theorem zx_XC {D : va_G} {A : Nat → Prop} {S : Type} {R : Int32 × (Nat × S)} {k : Nat} {u : S} {W : S → va_W} {E : String} {s t : State} {H : Heap} {lc : List Loc} (hR : R = (0, (k, u))) (hk : k ≠ 0) (hE : E = zx_E k) (hP : va_P D vwCl (W u) H) (hS : va_S A s.heap H lc) (hz : H.size ≤ t.heap.size) (hq : ∀ q : Nat, q < H.size → t.heap[q]? = H[q]?) : vx_X (fun u : Nat × S => R = (0, u) ∧ u.1 ≠ 0) (fun E u t => E = zx_E u.1 ∧ va_P D vwCl (W u.2) t.heap) A E s t :=
  ⟨(k, u), ⟨hR, hk⟩, ⟨hE, hP.kept (fun i q h => hq q.1 (hP i q h).lt)⟩, Nat.le_trans hS.1 hz, fun q h1 h2 => by rw [hq q (Nat.lt_of_lt_of_le h1 hS.1)]; exact hS.2.1 q h1 h2⟩
section
variable {p : Program} {l : Launch} {e : Env} {R : Room} {s : State} {m : MethodId} {args : Array Value} {below : List Frame} {meth : Method} {c : Code} {H : Heap} {locs : List Loc} {cells slots : Nat}
variable {mc ms : Nat} {free : Addr → Prop} {ls : Array Slot} {rest : List Value} {Qc : Array Value → State → Outcome → State → Prop} {XC : String → State → State → Prop}
theorem zx_thr1 {cc : ByteArray} {pc : Nat} (hexec : p.tables.exec = Jvm.exec) (hb : c.code = cc) (hl : l.stackTraces = false) {text : String} {is : Nat} {A : Nat → Prop} (hown : s.vm.findClass RX2 = some m.cls) (hk : (Cond.classLink RX2 37 "java/lang/IllegalArgumentException").before args s = true) (hini : (Cond.initialized "java/lang/IllegalArgumentException").before args s = true) (hstr : ∃ sa, vk_R RX2 is text sa s) (hts : ∀ w ∈ wsL_law, w.before args s = true) (hXw : ∀ w ∈ zx_xw, va_Nw w s)
    (hU : vx_Zq Bundle.tN "UNASSIGNED_STACK" Bundle.steD A s s.heap) (hN : vx_Zq Bundle.tN "SUPPRESSED_SENTINEL" Bundle.listD A s s.heap) (hS : va_S A s.heap H locs) (hsize : ls.size = c.maxLocals)
    (d0 : decode cc pc = .ok (.new 37, 3)) (d3 : decode cc (pc + 3) = .ok (.dup, 1)) (d4 : decode cc (pc + 4) = .ok (.ldc is, 2)) (d6 : decode cc (pc + 6) = .ok (.invokespecial 41, 3)) (d9 : decode cc (pc + 9) = .ok (.athrow, 1))
    (hout : ∀ x ∈ c.exceptionTable.toList, False) (hRframes : 5 < R.frames) (hRlocals : (rest.map fun v => v.category).sum + 82 ≤ R.locals) (hRcells : cells + 1 ≤ R.cells) (hRslots : slots + 6 ≤ R.slots) (hlocks : meth.locks = false)
    (hx : ∀ t : State, s.vm.Alike t.vm → H.size ≤ t.heap.size → (∀ q : Nat, q < H.size → t.heap[q]? = H[q]?) → XC "java/lang/IllegalArgumentException" s t)
    (hf : ∀ z ∈ locs, free z.base) (hc : cells + 1 ≤ mc) (hs : slots + 6 ≤ ms) : W p l e R s m args below meth c H locs cells slots (vx_MQ below Qc XC args s mc ms free) (F0 m pc ls rest) := by
  obtain ⟨sa, hstr⟩ := hstr
  refine vx_throwS hexec hb hl (own := RX2) (cls := "java/lang/IllegalArgumentException") (names := ["java/lang/RuntimeException", "java/lang/Exception"]) hown (by decide +kernel) (by decide +kernel) hk hini hstr ?_ (by decide +kernel) hU hN hS hsize d0 d3 d4 d6 d9 (fun x hx => (hout x hx).elim) hRframes hRlocals hRcells hRslots hlocks hx hf hc hs
  exact vx_hat (B := zx_xw) (fun w hw => hts w (List.mem_append_left _ (List.mem_append_left _ (List.mem_append_right _ hw)))) (by decide +kernel) (fun w hw => va_Nw.use (zx_xw_on w hw) (hXw w hw))
end
section
variable {p : Program} {l : Launch} {e : Env} {R : Room} {s : State} {m : MethodId} {args : Array Value} {below : List Frame} {meth : Method} {c : Code} {H : Heap} {locs : List Loc} {cells slots : Nat}
variable {mc ms : Nat} {free : Addr → Prop} {ls : Array Slot} {rest : List Value} {Qc : Array Value → State → Outcome → State → Prop} {XC : String → State → State → Prop}
theorem zx_thr2 {cc : ByteArray} {pc : Nat} (hexec : p.tables.exec = Jvm.exec) (hb : c.code = cc) (hl : l.stackTraces = false) {text : String} {is : Nat} {A : Nat → Prop} (hown : s.vm.findClass RX2 = some m.cls) (hk : (Cond.classLink RX2 48 "java/lang/IllegalStateException").before args s = true) (hini : (Cond.initialized "java/lang/IllegalStateException").before args s = true) (hstr : ∃ sa, vk_R RX2 is text sa s) (hts : ∀ w ∈ wsL_law, w.before args s = true) (hXw : ∀ w ∈ zx_xw, va_Nw w s)
    (hU : vx_Zq Bundle.tN "UNASSIGNED_STACK" Bundle.steD A s s.heap) (hN : vx_Zq Bundle.tN "SUPPRESSED_SENTINEL" Bundle.listD A s s.heap) (hS : va_S A s.heap H locs) (hsize : ls.size = c.maxLocals)
    (d0 : decode cc pc = .ok (.new 48, 3)) (d3 : decode cc (pc + 3) = .ok (.dup, 1)) (d4 : decode cc (pc + 4) = .ok (.ldc is, 2)) (d6 : decode cc (pc + 6) = .ok (.invokespecial 52, 3)) (d9 : decode cc (pc + 9) = .ok (.athrow, 1))
    (hout : ∀ x ∈ c.exceptionTable.toList, False) (hRframes : 5 < R.frames) (hRlocals : (rest.map fun v => v.category).sum + 82 ≤ R.locals) (hRcells : cells + 1 ≤ R.cells) (hRslots : slots + 6 ≤ R.slots) (hlocks : meth.locks = false)
    (hx : ∀ t : State, s.vm.Alike t.vm → H.size ≤ t.heap.size → (∀ q : Nat, q < H.size → t.heap[q]? = H[q]?) → XC "java/lang/IllegalStateException" s t)
    (hf : ∀ z ∈ locs, free z.base) (hc : cells + 1 ≤ mc) (hs : slots + 6 ≤ ms) : W p l e R s m args below meth c H locs cells slots (vx_MQ below Qc XC args s mc ms free) (F0 m pc ls rest) := by
  obtain ⟨sa, hstr⟩ := hstr
  refine vx_throwS hexec hb hl (own := RX2) (cls := "java/lang/IllegalStateException") (names := ["java/lang/RuntimeException", "java/lang/Exception"]) hown (by decide +kernel) (by decide +kernel) hk hini hstr ?_ (by decide +kernel) hU hN hS hsize d0 d3 d4 d6 d9 (fun x hx => (hout x hx).elim) hRframes hRlocals hRcells hRslots hlocks hx hf hc hs
  exact vx_hat (B := zx_xw) (fun w hw => hts w (List.mem_append_left _ (List.mem_append_right _ hw))) (by decide +kernel) (fun w hw => va_Nw.use (zx_xw_on w hw) (hXw w hw))
end
section
variable {p : Program} {l : Launch} {e : Env} {R : Room} {s : State} {m : MethodId} {args : Array Value} {below : List Frame} {meth : Method} {c : Code} {H : Heap} {locs : List Loc} {cells slots : Nat}
variable {mc ms : Nat} {free : Addr → Prop} {ls : Array Slot} {rest : List Value} {Qc : Array Value → State → Outcome → State → Prop} {XC : String → State → State → Prop}
theorem zx_thr3 {cc : ByteArray} {pc : Nat} (hexec : p.tables.exec = Jvm.exec) (hb : c.code = cc) (hl : l.stackTraces = false) {text : String} {is : Nat} {A : Nat → Prop} (hown : s.vm.findClass RX2 = some m.cls) (hk : (Cond.classLink RX2 94 "java/lang/IndexOutOfBoundsException").before args s = true) (hini : (Cond.initialized "java/lang/IndexOutOfBoundsException").before args s = true) (hstr : ∃ sa, vk_R RX2 is text sa s) (hts : ∀ w ∈ wsL_law, w.before args s = true) (hXw : ∀ w ∈ zx_xw, va_Nw w s)
    (hU : vx_Zq Bundle.tN "UNASSIGNED_STACK" Bundle.steD A s s.heap) (hN : vx_Zq Bundle.tN "SUPPRESSED_SENTINEL" Bundle.listD A s s.heap) (hS : va_S A s.heap H locs) (hsize : ls.size = c.maxLocals)
    (d0 : decode cc pc = .ok (.new 94, 3)) (d3 : decode cc (pc + 3) = .ok (.dup, 1)) (d4 : decode cc (pc + 4) = .ok (.ldc is, 2)) (d6 : decode cc (pc + 6) = .ok (.invokespecial 98, 3)) (d9 : decode cc (pc + 9) = .ok (.athrow, 1))
    (hout : ∀ x ∈ c.exceptionTable.toList, False) (hRframes : 5 < R.frames) (hRlocals : (rest.map fun v => v.category).sum + 82 ≤ R.locals) (hRcells : cells + 1 ≤ R.cells) (hRslots : slots + 6 ≤ R.slots) (hlocks : meth.locks = false)
    (hx : ∀ t : State, s.vm.Alike t.vm → H.size ≤ t.heap.size → (∀ q : Nat, q < H.size → t.heap[q]? = H[q]?) → XC "java/lang/IndexOutOfBoundsException" s t)
    (hf : ∀ z ∈ locs, free z.base) (hc : cells + 1 ≤ mc) (hs : slots + 6 ≤ ms) : W p l e R s m args below meth c H locs cells slots (vx_MQ below Qc XC args s mc ms free) (F0 m pc ls rest) := by
  obtain ⟨sa, hstr⟩ := hstr
  refine vx_throwS hexec hb hl (own := RX2) (cls := "java/lang/IndexOutOfBoundsException") (names := ["java/lang/RuntimeException", "java/lang/Exception"]) hown (by decide +kernel) (by decide +kernel) hk hini hstr ?_ (by decide +kernel) hU hN hS hsize d0 d3 d4 d6 d9 (fun x hx => (hout x hx).elim) hRframes hRlocals hRcells hRslots hlocks hx hf hc hs
  exact vx_hat (B := zx_xw) (fun w hw => hts w (List.mem_append_right _ hw)) (by decide +kernel) (fun w hw => va_Nw.use (zx_xw_on w hw) (hXw w hw))
end
/-! the row of trees: one of them by its place -/
def f_X2_treeAt (n : Nat) (i : Int32) : Option Nat := if i < 0 ∨ n ≤ i.toNatClampNeg then none else some i.toNatClampNeg
theorem f_X2_treeAt_lt {n u : Nat} {i : Int32} (h : f_X2_treeAt n i = some u) : u < n := by
  unfold f_X2_treeAt at h
  split at h
  · cases h
  · rename_i q
    cases h
    exact Nat.not_le.mp (fun z => q (Or.inr z))
