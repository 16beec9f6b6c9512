/-! the pure words of what the bytecode computes: none = the machine would throw, or the fuel N is spent -/
abbrev zx_S : Type := Nat → Nat → Int32
def zx_st (S : zx_S) (j : Nat) (f : Nat → Int32) : zx_S := fun i => if i = j then f else S i
def zx_n {α β : Type} (a : α) (k : α → β) : β := k a
def zx_b1 {α β : Type} (x : Option α) (k : α → Option β) : Option β := match x with
  | none => none
  | some a => k a
def zx_b2 {α γ β : Type} (x : Option (α × γ)) (k : α → γ → Option β) : Option β := match x with
  | none => none
  | some a => k a.1 a.2
def zx_rd {β : Type} (n : Nat) (f : Nat → Int32) (i : Int32) (k : Int32 → Option β) : Option β := if i < 0 ∨ n ≤ i.toNatClampNeg then none else k (f i.toNatClampNeg)
def zx_wr {α β : Type} (n : Nat) (i : Int32) (x : α) (k : α → Option β) : Option β := if i < 0 ∨ n ≤ i.toNatClampNeg then none else k x
def zx_nz {α β : Type} [DecidableEq α] [OfNat α 0] (y : α) (k : Option β) : Option β := if y = 0 then none else k
def zx_cp {β : Type} (n0 n1 : Nat) (f g : Nat → Int32) (sp dp n : Int32) (k : (Nat → Int32) → Option β) : Option β := if sp < 0 ∨ dp < 0 ∨ n < 0 ∨ n0 < sp.toNatClampNeg + n.toNatClampNeg ∨ n1 < dp.toNatClampNeg + n.toNatClampNeg then none else k (va_cpy f g sp.toNatClampNeg dp.toNatClampNeg n.toNatClampNeg)
theorem zx_nE {α β : Type} {a : α} {k : α → Option β} {r : β} (h : zx_n a k = some r) : ∃ x, x = a ∧ k x = some r := ⟨a, rfl, h⟩
theorem zx_b1E {α β : Type} {x : Option α} {k : α → Option β} {r : β} (h : zx_b1 x k = some r) : ∃ a, x = some a ∧ k a = some r := by
  cases x with
  | none => cases h
  | some a => exact ⟨a, rfl, h⟩
theorem zx_b2E {α γ β : Type} {x : Option (α × γ)} {k : α → γ → Option β} {r : β} (h : zx_b2 x k = some r) : ∃ a c, x = some (a, c) ∧ k a c = some r := by
  cases x with
  | none => cases h
  | some a => exact ⟨a.1, a.2, rfl, h⟩
theorem zx_rdE {β : Type} {n : Nat} {f : Nat → Int32} {i : Int32} {k : Int32 → Option β} {r : β} (h : zx_rd n f i k = some r) : ∃ x, vp_in i n ∧ x = f i.toNatClampNeg ∧ k x = some r := by
  unfold zx_rd at h
  split at h
  · cases h
  · rename_i q; exact ⟨_, q, rfl, h⟩
theorem zx_wrE {α β : Type} {n : Nat} {i : Int32} {x : α} {k : α → Option β} {r : β} (h : zx_wr n i x k = some r) : ∃ y, vp_in i n ∧ y = x ∧ k y = some r := by
  unfold zx_wr at h
  split at h
  · cases h
  · rename_i q; exact ⟨_, q, rfl, h⟩
theorem zx_nzE {α β : Type} [DecidableEq α] [OfNat α 0] {y : α} {k : Option β} {r : β} (h : zx_nz y k = some r) : ¬ y = 0 ∧ k = some r := by
  unfold zx_nz at h
  split at h
  · cases h
  · rename_i q; exact ⟨q, h⟩
theorem zx_cpE {β : Type} {n0 n1 : Nat} {f g : Nat → Int32} {sp dp n : Int32} {k : (Nat → Int32) → Option β} {r : β} (h : zx_cp n0 n1 f g sp dp n k = some r) : ∃ x, ¬ sp < 0 ∧ ¬ dp < 0 ∧ ¬ n < 0 ∧ sp.toNatClampNeg + n.toNatClampNeg ≤ n0 ∧ dp.toNatClampNeg + n.toNatClampNeg ≤ n1 ∧ x = va_cpy f g sp.toNatClampNeg dp.toNatClampNeg n.toNatClampNeg ∧ k x = some r := by
  unfold zx_cp at h
  split at h
  · cases h
  · rename_i q
    exact ⟨_, fun z => q (Or.inl z), fun z => q (Or.inr (Or.inl z)), fun z => q (Or.inr (Or.inr (Or.inl z))), Nat.not_lt.mp fun z => q (Or.inr (Or.inr (Or.inr (Or.inl z)))), Nat.not_lt.mp fun z => q (Or.inr (Or.inr (Or.inr (Or.inr z)))), rfl, h⟩
def zx_bl {β : Type} (x : Int32) (k : Option β) : Option β := if x = 0 ∨ x = 1 then k else none
theorem zx_blE {β : Type} {x : Int32} {k : Option β} {r : β} (h : zx_bl x k = some r) : (x = 0 ∨ x = 1) ∧ k = some r := by
  unfold zx_bl at h
  split at h
  · rename_i q; exact ⟨q, h⟩
  · cases h
theorem zx_nar {x : Int32} (h : x = 0 ∨ x = 1) : narrow .boolean (.int x) = .int x := by rcases h with rfl | rfl <;> rfl
theorem zx_t {c : Prop} [Decidable c] {β : Type} {a b : Option β} {r : β} (h : c) (hM : (if c then a else b) = some r) : a = some r := by rw [if_pos h] at hM; exact hM
theorem zx_f {c : Prop} [Decidable c] {β : Type} {a b : Option β} {r : β} (h : ¬ c) (hM : (if c then a else b) = some r) : b = some r := by rw [if_neg h] at hM; exact hM
theorem zx_sw {x : Int32} {lo hi : Int} (h1 : -2147483648 ≤ lo) (h2 : hi ≤ 2147483647) (h : ∀ k : Int, lo ≤ k → k ≤ hi → ¬ x = Int32.ofInt k) : x.toInt < lo ∨ hi < x.toInt := by
  by_cases q : x.toInt < lo
  · exact Or.inl q
  · by_cases q2 : hi < x.toInt
    · exact Or.inr q2
    · exact absurd (Int32.ofInt_toInt x).symm (h x.toInt (Int.not_lt.mp q) (Int.not_lt.mp q2))
section ZX
variable {p : Program} {l : Launch} {e : Env} {R : Room} {s : State} {m : MethodId} {args : Array Value} {below : List Frame} {meth : Method} {c : Code} {H : Heap} {locs : List Loc} {cells slots : Nat} {Q : State → Prop}
theorem zx_top {pc : Nat} {ls : Array Slot} {rest : List Value} {x y : Int32} (h : y = x) (k : W p l e R s m args below meth c H locs cells slots Q (F0 m pc ls (.int y :: rest))) : W p l e R s m args below meth c H locs cells slots Q (F0 m pc ls (.int x :: rest)) := by subst h; exact k
theorem zx_topl {pc : Nat} {ls : Array Slot} {rest : List Value} {x y : Int64} (h : y = x) (k : W p l e R s m args below meth c H locs cells slots Q (F0 m pc ls (.long y :: rest))) : W p l e R s m args below meth c H locs cells slots Q (F0 m pc ls (.long x :: rest)) := by subst h; exact k
end ZX
/-! worlds: cells kept, set, cut out -/
theorem zx_P0 {D : va_G} {cl : List vw_C} {ws : va_W} {H : Heap} (_ : va_P D cl ws H) : va_P D cl [] H := fun k q h => by simp at h
theorem zx_D0 {A : Nat → Prop} {ws : va_W} (_ : va_D A ws) : va_D A [] := ⟨fun i j p q h => by simp at h, fun k q h => by simp at h⟩
theorem zx_keep {D : va_G} {cl : List vw_C} {ws : va_W} {H H1 : Heap} (hP : va_P D cl ws H) (hk : ∀ q : Nat, q < H.size → ¬ H.size ≤ q → H1[q]? = H[q]?) : va_P D cl ws H1 := hP.kept (fun k q h => hk q.1 (hP k q h).lt (Nat.not_le.mpr (hP k q h).lt))
theorem zx_one {ws : va_W} {k : Nat} {a : Nat} {e : va_E} (h : ws[k]? = some (a, e)) : [k].filterMap (fun i => ws[i]?) = [(a, e)] := by simp [h]
theorem zx_oneM {ws : va_W} {k : Nat} {a : Nat} {e : va_E} (h : ws[k]? = some (a, e)) : [k].map (fun i => ws[i]?) = [(a, e)].map some := by simp [h]
theorem zx_P1 {D : va_G} {cl : List vw_C} {ws : va_W} {H : Heap} (hP : va_P D cl ws H) (k : Nat) {a : Nat} {e : va_E} (h : ws[k]? = some (a, e)) : va_P D cl [(a, e)] H := hP.sub [k] (zx_one h)
theorem zx_D1 {A : Nat → Prop} {ws : va_W} (hD : va_D A ws) (k : Nat) {a : Nat} {e : va_E} (h : ws[k]? = some (a, e)) : va_D A [(a, e)] := hD.sub [k] rfl (zx_oneM h)
theorem zx_two {ws : va_W} {k j : Nat} {a b : Nat} {e f : va_E} (h : ws[k]? = some (a, e)) (h2 : ws[j]? = some (b, f)) : [k, j].filterMap (fun i => ws[i]?) = [(a, e), (b, f)] := by simp [h, h2]
theorem zx_twoM {ws : va_W} {k j : Nat} {a b : Nat} {e f : va_E} (h : ws[k]? = some (a, e)) (h2 : ws[j]? = some (b, f)) : [k, j].map (fun i => ws[i]?) = [(a, e), (b, f)].map some := by simp [h, h2]
theorem zx_P2 {D : va_G} {cl : List vw_C} {ws : va_W} {H : Heap} (hP : va_P D cl ws H) (k j : Nat) {a b : Nat} {e f : va_E} (h : ws[k]? = some (a, e)) (h2 : ws[j]? = some (b, f)) : va_P D cl [(a, e), (b, f)] H := hP.sub [k, j] (zx_two h h2)
theorem zx_D2 {A : Nat → Prop} {ws : va_W} (hD : va_D A ws) (k j : Nat) {a b : Nat} {e f : va_E} (h : ws[k]? = some (a, e)) (h2 : ws[j]? = some (b, f)) (hkj : k ≠ j) : va_D A [(a, e), (b, f)] := hD.sub [k, j] (by simp [va_nd, hkj]) (zx_twoM h h2)
theorem zx_fW {A : Nat → Prop} {ws : va_W} {H0 H : Heap} {lc : List Loc} (hD : va_D A ws) (hS : va_S A H0 H lc) (hA : ∀ q, H0.size ≤ q → A q) : ∀ q, va_A ws H.size q → A q := by
  intro q h
  rcases h with ⟨k, e, h⟩ | h
  · exact hD.2 k _ h
  · exact hA q (Nat.le_trans hS.1 h)
theorem zx_f1 {A : Nat → Prop} {ws : va_W} {H0 H : Heap} {lc : List Loc} (hD : va_D A ws) (hS : va_S A H0 H lc) (hA : ∀ q, H0.size ≤ q → A q) {k a : Nat} {e : va_E} (h : ws[k]? = some (a, e)) : ∀ q, va_A [(a, e)] H.size q → A q := fun q z => zx_fW (hD.sub [k] rfl (zx_oneM h)) hS hA q z
theorem zx_f2 {A : Nat → Prop} {ws : va_W} {H0 H : Heap} {lc : List Loc} (hD : va_D A ws) (hS : va_S A H0 H lc) (hA : ∀ q, H0.size ≤ q → A q) {k j a b : Nat} {e f : va_E} (h : ws[k]? = some (a, e)) (h2 : ws[j]? = some (b, f)) : ∀ q, va_A [(a, e), (b, f)] H.size q → A q := by
  intro q z
  rcases z with ⟨i, e', h'⟩ | z
  · match i, h' with
    | 0, h' => cases h'; exact hD.2 k _ h
    | 1, h' => cases h'; exact hD.2 j _ h2
    | i + 2, h' => simp at h'
  · exact hA q (Nat.le_trans hS.1 z)
theorem zx_set1 {D : va_G} {cl : List vw_C} {A : Nat → Prop} {ws : va_W} {H H1 : Heap} {k a : Nat} {e e' : va_E} (hP : va_P D cl ws H) (hD : va_D A ws) (h : ws[k]? = some (a, e)) (hk : ∀ q : Nat, q < H.size → ¬ va_A [(a, e)] H.size q → H1[q]? = H[q]?) (hB : va_P D cl [(a, e')] H1) : va_P D cl (ws.set k (a, e')) H1 := by
  have hl := (List.getElem?_eq_some_iff.mp h).1
  intro i q hi
  by_cases hik : i = k
  · subst hik
    rw [List.getElem?_set_self hl] at hi
    cases hi
    exact hB 0 _ rfl
  · rw [List.getElem?_set_ne (Ne.symm hik)] at hi
    have hlt := (hP i q hi).lt
    refine (hP i q hi).kept (hk q.1 hlt ?_)
    rintro (⟨j, e9, hj⟩ | hj)
    · match j, hj with
      | 0, hj =>
        have he : a = q.1 := congrArg Prod.fst (Option.some.inj hj)
        exact hik (hD.1 i k q (a, e) hi h he.symm)
      | j + 1, hj => simp at hj
    · omega
theorem zx_set2 {D : va_G} {cl : List vw_C} {A : Nat → Prop} {ws : va_W} {H H1 : Heap} {k j a b : Nat} {e e' f : va_E} (hkj : k ≠ j) (hP : va_P D cl ws H) (hD : va_D A ws) (h : ws[k]? = some (a, e)) (h2 : ws[j]? = some (b, f)) (hk : ∀ q : Nat, q < H.size → ¬ va_A [(b, f), (a, e)] H.size q → H1[q]? = H[q]?) (hB : va_P D cl [(b, f), (a, e')] H1) : va_P D cl (ws.set k (a, e')) H1 := by
  have hl := (List.getElem?_eq_some_iff.mp h).1
  intro i q hi
  by_cases hik : i = k
  · subst hik
    rw [List.getElem?_set_self hl] at hi
    cases hi
    exact hB 1 _ rfl
  · rw [List.getElem?_set_ne (Ne.symm hik)] at hi
    by_cases hij : i = j
    · subst hij
      cases hi.symm.trans h2
      exact hB 0 _ rfl
    have hlt := (hP i q hi).lt
    refine (hP i q hi).kept (hk q.1 hlt ?_)
    rintro (⟨j', e9, hj⟩ | hj)
    · match j', hj with
      | 0, hj =>
        have he : b = q.1 := congrArg Prod.fst (Option.some.inj hj)
        exact hij (hD.1 i j q (b, f) hi h2 he.symm)
      | 1, hj =>
        have he : a = q.1 := congrArg Prod.fst (Option.some.inj hj)
        exact hik (hD.1 i k q (a, e) hi h he.symm)
      | j' + 2, hj => simp at hj
    · omega
theorem zx_Deq {A : Nat → Prop} {ws ws' : va_W} (h : ws.map Prod.fst = ws'.map Prod.fst) (hD : va_D A ws) : va_D A ws' := by
  have key : ∀ (k : Nat) (q : Nat × va_E), ws'[k]? = some q → ∃ q0, ws[k]? = some q0 ∧ q0.1 = q.1 := by
    intro k q hk
    have h1 : (ws'.map Prod.fst)[k]? = some q.1 := by rw [List.getElem?_map, hk]; rfl
    rw [← h, List.getElem?_map] at h1
    cases h2 : ws[k]? with
    | none => rw [h2] at h1; cases h1
    | some q0 => rw [h2] at h1; exact ⟨q0, rfl, Option.some.inj h1⟩
  refine ⟨fun i j x y hi hj hxy => ?_, fun k q hk => ?_⟩
  · obtain ⟨x0, h1, h2⟩ := key i x hi
    obtain ⟨y0, h3, h4⟩ := key j y hj
    exact hD.1 i j x0 y0 h1 h3 (h2.trans (hxy.trans h4.symm))
  · obtain ⟨q0, h1, h2⟩ := key k q hk
    rw [← h2]
    exact hD.2 k q0 h1

abbrev zx_ty (cI cZ cT : ClassId) : List (ClassId × FieldType) := [(cI, .int), (cI, .int), (cT, .object RX1)]
def zx_nw : List Cond := [.fieldLinkNest RX2 153 "ShallowBoxes$RectangleText" "count" "I" RX2, .fieldLinkNest RX2 44 "ShallowBoxes$RectangleText" "length" "I" RX2, .fieldLinkNest RX2 67 "ShallowBoxes$Tree" "root" "I" RX2, .fieldLinkNest RX2 79 "ShallowBoxes$Tree" "thrownOut" "I" RX2, .fieldLinkNest RX2 82 "ShallowBoxes$Tree" "splits" "I" RX2, .fieldLinkNest RX2 85 "ShallowBoxes$Tree" "dissolved" "I" RX2, .methodLinkNest RX2 32 ⟨RX0, "<init>", "()V"⟩ RX2, .methodLinkNest RX0 22 ⟨RX2, "put", "([III)V"⟩ RX2, .methodLinkNest RX0 26 ⟨RX2, "get", "([II)I"⟩ RX2, .methodLinkNest RX1 101 ⟨RX2, "isBox", "(IIII)Z"⟩ RX2, .methodLinkNest RX1 45 ⟨RX2, "put", "([III)V"⟩ RX2, .methodLinkNest RX1 66 ⟨RX2, "copy", "([I[I)V"⟩ RX2, .methodLinkNest RX1 70 ⟨RX2, "get", "([II)I"⟩ RX2]
theorem zx_nw_X2_153 : Cond.fieldLinkNest RX2 153 "ShallowBoxes$RectangleText" "count" "I" RX2 ∈ zx_nw := List.mem_of_getElem? (i := 0) rfl
theorem zx_nw_X2_44 : Cond.fieldLinkNest RX2 44 "ShallowBoxes$RectangleText" "length" "I" RX2 ∈ zx_nw := List.mem_of_getElem? (i := 1) rfl
theorem zx_nw_X2_67 : Cond.fieldLinkNest RX2 67 "ShallowBoxes$Tree" "root" "I" RX2 ∈ zx_nw := List.mem_of_getElem? (i := 2) rfl
theorem zx_nw_X2_79 : Cond.fieldLinkNest RX2 79 "ShallowBoxes$Tree" "thrownOut" "I" RX2 ∈ zx_nw := List.mem_of_getElem? (i := 3) rfl
theorem zx_nw_X2_82 : Cond.fieldLinkNest RX2 82 "ShallowBoxes$Tree" "splits" "I" RX2 ∈ zx_nw := List.mem_of_getElem? (i := 4) rfl
theorem zx_nw_X2_85 : Cond.fieldLinkNest RX2 85 "ShallowBoxes$Tree" "dissolved" "I" RX2 ∈ zx_nw := List.mem_of_getElem? (i := 5) rfl
theorem zx_nw_X2_32 : Cond.methodLinkNest RX2 32 ⟨RX0, "<init>", "()V"⟩ RX2 ∈ zx_nw := List.mem_of_getElem? (i := 6) rfl
theorem zx_nw_X0_22 : Cond.methodLinkNest RX0 22 ⟨RX2, "put", "([III)V"⟩ RX2 ∈ zx_nw := List.mem_of_getElem? (i := 7) rfl
theorem zx_nw_X0_26 : Cond.methodLinkNest RX0 26 ⟨RX2, "get", "([II)I"⟩ RX2 ∈ zx_nw := List.mem_of_getElem? (i := 8) rfl
theorem zx_nw_X1_101 : Cond.methodLinkNest RX1 101 ⟨RX2, "isBox", "(IIII)Z"⟩ RX2 ∈ zx_nw := List.mem_of_getElem? (i := 9) rfl
theorem zx_nw_X1_45 : Cond.methodLinkNest RX1 45 ⟨RX2, "put", "([III)V"⟩ RX2 ∈ zx_nw := List.mem_of_getElem? (i := 10) rfl
theorem zx_nw_X1_66 : Cond.methodLinkNest RX1 66 ⟨RX2, "copy", "([I[I)V"⟩ RX2 ∈ zx_nw := List.mem_of_getElem? (i := 11) rfl
theorem zx_nw_X1_70 : Cond.methodLinkNest RX1 70 ⟨RX2, "get", "([II)I"⟩ RX2 ∈ zx_nw := List.mem_of_getElem? (i := 12) rfl
theorem zx_nw_on : ∀ w ∈ zx_nw, w.onTables = true := by decide +kernel
theorem zx_nw_warm {s U : State} (hW : s.WarmedH U.vm) (h : ∀ w ∈ zx_nw, va_Nw w s) : ∀ w ∈ zx_nw, va_Nw w U := by
  intro w hw
  have h2 := h w hw
  simp only [zx_nw, List.mem_cons, List.not_mem_nil, or_false] at hw
  rcases hw with rfl | rfl | rfl | rfl | rfl | rfl | rfl | rfl | rfl | rfl | rfl | rfl | rfl
  all_goals first | exact va_Nw.warmM hW h2 | exact va_Nw.warmF hW h2
theorem zx_nw_in : ∀ w ∈ zx_nw, w ∈ lw_tbl := by decide +kernel
/-- a method's start: the heap's size, the world, what is known of classes, the nest words -/
def bS (D : va_G) (tys : List (ClassId × FieldType)) (ws : va_W) (sz : Nat) : State → Prop := fun U => U.heap.size = sz ∧ va_P D vwCl ws U.heap ∧ va_K D vwCl tys U ∧ va_D (fun _ => True) ws ∧ ∀ w ∈ zx_nw, va_Nw w U
theorem bS_blind {av : List Value} {D : va_G} {tys : List (ClassId × FieldType)} {ws : va_W} {sz : Nat} : FrameBlind (va_Pc av (bS D tys ws sz)) := fun a U g mk q => by
  obtain ⟨q0, q1, qP, qK, qD, qN⟩ := q
  exact ⟨q0, q1, qP, va_K.moved (u := U) (U := U.calling g mk a) (Vm.Alike.refl U.vm) qK, qD, fun w hw => va_Nw.same (u := U) (U := U.calling g mk a) (zx_nw_on w hw) rfl (qN w hw)⟩
theorem bS_pre {av : List Value} {D : va_G} {tys : List (ClassId × FieldType)} {ws : va_W} {A : Nat → Prop} {s : State} {H : Heap} (hP : va_P D vwCl ws H) (hK : va_K D vwCl tys s) (hD : va_D A ws) (hN : ∀ w ∈ zx_nw, va_Nw w s) : ∀ U : State, U.heap = H → s.WarmedH U.vm → va_Pc av (bS D tys ws H.size) av.toArray U := fun U hU hW => ⟨rfl, by rw [hU], by rw [hU]; exact hP, va_K.moved hW.alike hK, hD.weaken (fun _ _ _ _ => trivial), zx_nw_warm hW hN⟩
abbrev pW1 (cI : ClassId) (a0 n0 : Nat) (f0 : Nat → Int32) : va_W := [(a0, .inl (cI, n0, .inl f0))]
abbrev pW2 (cI : ClassId) (a0 n0 : Nat) (f0 : Nat → Int32) (a1 n1 : Nat) (f1 : Nat → Int32) : va_W := [(a0, .inl (cI, n0, .inl f0)), (a1, .inl (cI, n1, .inl f1))]
theorem pW1_p0 {cI : ClassId} {a0 n0 : Nat} {f0 g : Nat → Int32} : (pW1 cI a0 n0 f0).set 0 (a0, .inl (cI, n0, .inl g)) = pW1 cI a0 n0 g := rfl
theorem pW2_p0 {cI : ClassId} {a0 n0 : Nat} {f0 g : Nat → Int32} {a1 n1 : Nat} {f1 : Nat → Int32} : (pW2 cI a0 n0 f0 a1 n1 f1).set 0 (a0, .inl (cI, n0, .inl g)) = pW2 cI a0 n0 g a1 n1 f1 := rfl
theorem pW2_p1 {cI : ClassId} {a0 n0 : Nat} {f0 g : Nat → Int32} {a1 n1 : Nat} {f1 : Nat → Int32} : (pW2 cI a0 n0 f0 a1 n1 f1).set 1 (a1, .inl (cI, n1, .inl g)) = pW2 cI a0 n0 f0 a1 n1 g := rfl
def xW0 (cI : ClassId) (h : Nat) (ad : Nat → Nat) (S : zx_S) : va_W := [(h, .inr (0, [.ref (ad 0), .int (S 2 0), .ref (ad 1), .int (S 2 1), .int (S 2 2), .int (S 2 3)])), (ad 0, .inl (cI, 100, .inl (S 0))), (ad 1, .inl (cI, 56, .inl (S 1)))]
theorem xW0_pa0 {cI : ClassId} {h : Nat} {ad : Nat → Nat} {S : zx_S} {f : Nat → Int32} : (xW0 cI h ad S).set 1 (ad 0, .inl (cI, 100, .inl f)) = xW0 cI h ad (zx_st S 0 f) := rfl
theorem xW0_pa1 {cI : ClassId} {h : Nat} {ad : Nat → Nat} {S : zx_S} {f : Nat → Int32} : (xW0 cI h ad S).set 2 (ad 1, .inl (cI, 56, .inl f)) = xW0 cI h ad (zx_st S 1 f) := rfl
theorem xW0_D {cI : ClassId} {h : Nat} {ad : Nat → Nat} {S : zx_S} {A : Nat → Prop} (S2 : zx_S) (hD : va_D A (xW0 cI h ad S)) : va_D A (xW0 cI h ad S2) := zx_Deq (ws := xW0 cI h ad S) rfl hD
def xW1 (cI : ClassId) (h : Nat) (ad : Nat → Nat) (S : zx_S) : va_W := [(h, .inr (1, [.ref (ad 0), .ref (ad 1), .ref (ad 2), .ref (ad 3), .ref (ad 4), .int (S 10 0), .int (S 10 1), .int (S 10 2), .int (S 10 3), .ref (ad 5), .ref (ad 6), .ref (ad 7), .ref (ad 8), .ref (ad 9)])), (ad 0, .inl (cI, 196, .inl (S 0))), (ad 1, .inl (cI, 49, .inl (S 1))), (ad 2, .inl (cI, 49, .inl (S 2))), (ad 3, .inl (cI, 49, .inl (S 3))), (ad 4, .inl (cI, 245, .inl (S 4))), (ad 5, .inl (cI, 8, .inl (S 5))), (ad 6, .inl (cI, 8, .inl (S 6))), (ad 7, .inl (cI, 5, .inl (S 7))), (ad 8, .inl (cI, 24, .inl (S 8))), (ad 9, .inl (cI, 24, .inl (S 9)))]
theorem xW1_pa0 {cI : ClassId} {h : Nat} {ad : Nat → Nat} {S : zx_S} {f : Nat → Int32} : (xW1 cI h ad S).set 1 (ad 0, .inl (cI, 196, .inl f)) = xW1 cI h ad (zx_st S 0 f) := rfl
theorem xW1_pa1 {cI : ClassId} {h : Nat} {ad : Nat → Nat} {S : zx_S} {f : Nat → Int32} : (xW1 cI h ad S).set 2 (ad 1, .inl (cI, 49, .inl f)) = xW1 cI h ad (zx_st S 1 f) := rfl
theorem xW1_pa2 {cI : ClassId} {h : Nat} {ad : Nat → Nat} {S : zx_S} {f : Nat → Int32} : (xW1 cI h ad S).set 3 (ad 2, .inl (cI, 49, .inl f)) = xW1 cI h ad (zx_st S 2 f) := rfl
theorem xW1_pa3 {cI : ClassId} {h : Nat} {ad : Nat → Nat} {S : zx_S} {f : Nat → Int32} : (xW1 cI h ad S).set 4 (ad 3, .inl (cI, 49, .inl f)) = xW1 cI h ad (zx_st S 3 f) := rfl
theorem xW1_pa4 {cI : ClassId} {h : Nat} {ad : Nat → Nat} {S : zx_S} {f : Nat → Int32} : (xW1 cI h ad S).set 5 (ad 4, .inl (cI, 245, .inl f)) = xW1 cI h ad (zx_st S 4 f) := rfl
theorem xW1_pa5 {cI : ClassId} {h : Nat} {ad : Nat → Nat} {S : zx_S} {f : Nat → Int32} : (xW1 cI h ad S).set 6 (ad 5, .inl (cI, 8, .inl f)) = xW1 cI h ad (zx_st S 5 f) := rfl
theorem xW1_pa6 {cI : ClassId} {h : Nat} {ad : Nat → Nat} {S : zx_S} {f : Nat → Int32} : (xW1 cI h ad S).set 7 (ad 6, .inl (cI, 8, .inl f)) = xW1 cI h ad (zx_st S 6 f) := rfl
theorem xW1_pa7 {cI : ClassId} {h : Nat} {ad : Nat → Nat} {S : zx_S} {f : Nat → Int32} : (xW1 cI h ad S).set 8 (ad 7, .inl (cI, 5, .inl f)) = xW1 cI h ad (zx_st S 7 f) := rfl
theorem xW1_pa8 {cI : ClassId} {h : Nat} {ad : Nat → Nat} {S : zx_S} {f : Nat → Int32} : (xW1 cI h ad S).set 9 (ad 8, .inl (cI, 24, .inl f)) = xW1 cI h ad (zx_st S 8 f) := rfl
theorem xW1_pa9 {cI : ClassId} {h : Nat} {ad : Nat → Nat} {S : zx_S} {f : Nat → Int32} : (xW1 cI h ad S).set 10 (ad 9, .inl (cI, 24, .inl f)) = xW1 cI h ad (zx_st S 9 f) := rfl
theorem xW1_D {cI : ClassId} {h : Nat} {ad : Nat → Nat} {S : zx_S} {A : Nat → Prop} (S2 : zx_S) (hD : va_D A (xW1 cI h ad S)) : va_D A (xW1 cI h ad S2) := zx_Deq (ws := xW1 cI h ad S) rfl hD
def xT2 (cI : ClassId) (h : Nat) (ad : Nat → Nat) (S : zx_S) (h2 : Nat) (ad2 : Nat → Nat) (S2 : zx_S) : va_W := xW1 cI h ad S ++ xW1 cI h2 ad2 S2
theorem xT2_pa0 {cI : ClassId} {h : Nat} {ad : Nat → Nat} {S : zx_S} {h2 : Nat} {ad2 : Nat → Nat} {S2 : zx_S} {f : Nat → Int32} : (xT2 cI h ad S h2 ad2 S2).set 1 (ad 0, .inl (cI, 196, .inl f)) = xT2 cI h ad (zx_st S 0 f) h2 ad2 S2 := rfl
theorem xT2_pa1 {cI : ClassId} {h : Nat} {ad : Nat → Nat} {S : zx_S} {h2 : Nat} {ad2 : Nat → Nat} {S2 : zx_S} {f : Nat → Int32} : (xT2 cI h ad S h2 ad2 S2).set 2 (ad 1, .inl (cI, 49, .inl f)) = xT2 cI h ad (zx_st S 1 f) h2 ad2 S2 := rfl
theorem xT2_pa2 {cI : ClassId} {h : Nat} {ad : Nat → Nat} {S : zx_S} {h2 : Nat} {ad2 : Nat → Nat} {S2 : zx_S} {f : Nat → Int32} : (xT2 cI h ad S h2 ad2 S2).set 3 (ad 2, .inl (cI, 49, .inl f)) = xT2 cI h ad (zx_st S 2 f) h2 ad2 S2 := rfl
theorem xT2_pa3 {cI : ClassId} {h : Nat} {ad : Nat → Nat} {S : zx_S} {h2 : Nat} {ad2 : Nat → Nat} {S2 : zx_S} {f : Nat → Int32} : (xT2 cI h ad S h2 ad2 S2).set 4 (ad 3, .inl (cI, 49, .inl f)) = xT2 cI h ad (zx_st S 3 f) h2 ad2 S2 := rfl
theorem xT2_pa4 {cI : ClassId} {h : Nat} {ad : Nat → Nat} {S : zx_S} {h2 : Nat} {ad2 : Nat → Nat} {S2 : zx_S} {f : Nat → Int32} : (xT2 cI h ad S h2 ad2 S2).set 5 (ad 4, .inl (cI, 245, .inl f)) = xT2 cI h ad (zx_st S 4 f) h2 ad2 S2 := rfl
theorem xT2_pa5 {cI : ClassId} {h : Nat} {ad : Nat → Nat} {S : zx_S} {h2 : Nat} {ad2 : Nat → Nat} {S2 : zx_S} {f : Nat → Int32} : (xT2 cI h ad S h2 ad2 S2).set 6 (ad 5, .inl (cI, 8, .inl f)) = xT2 cI h ad (zx_st S 5 f) h2 ad2 S2 := rfl
theorem xT2_pa6 {cI : ClassId} {h : Nat} {ad : Nat → Nat} {S : zx_S} {h2 : Nat} {ad2 : Nat → Nat} {S2 : zx_S} {f : Nat → Int32} : (xT2 cI h ad S h2 ad2 S2).set 7 (ad 6, .inl (cI, 8, .inl f)) = xT2 cI h ad (zx_st S 6 f) h2 ad2 S2 := rfl
theorem xT2_pa7 {cI : ClassId} {h : Nat} {ad : Nat → Nat} {S : zx_S} {h2 : Nat} {ad2 : Nat → Nat} {S2 : zx_S} {f : Nat → Int32} : (xT2 cI h ad S h2 ad2 S2).set 8 (ad 7, .inl (cI, 5, .inl f)) = xT2 cI h ad (zx_st S 7 f) h2 ad2 S2 := rfl
theorem xT2_pa8 {cI : ClassId} {h : Nat} {ad : Nat → Nat} {S : zx_S} {h2 : Nat} {ad2 : Nat → Nat} {S2 : zx_S} {f : Nat → Int32} : (xT2 cI h ad S h2 ad2 S2).set 9 (ad 8, .inl (cI, 24, .inl f)) = xT2 cI h ad (zx_st S 8 f) h2 ad2 S2 := rfl
theorem xT2_pa9 {cI : ClassId} {h : Nat} {ad : Nat → Nat} {S : zx_S} {h2 : Nat} {ad2 : Nat → Nat} {S2 : zx_S} {f : Nat → Int32} : (xT2 cI h ad S h2 ad2 S2).set 10 (ad 9, .inl (cI, 24, .inl f)) = xT2 cI h ad (zx_st S 9 f) h2 ad2 S2 := rfl
theorem zx_rw {x k : Int32} {ps : List (Int × Int)} {d o : Int} (h : x = k) (h2 : Op.lookupswitch.offset ps d k.toInt = o) : Op.lookupswitch.offset ps d x.toInt = o := by subst h; exact h2
theorem zx_os {ps : List (Int × Int)} {d x o : Int} {r : List (Int × Int)} (h : Op.lookupswitch.offset ps d x = Op.lookupswitch.offset r d x) (h2 : Op.lookupswitch.offset r d x = o := by rfl) : Op.lookupswitch.offset ps d x = o := h.trans h2
