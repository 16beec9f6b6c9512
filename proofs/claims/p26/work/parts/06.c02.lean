/-! ShallowBoxes$Tree.sizeOf(I)I -/
def f_X1_sizeOf (N : Nat) (p1 : Int32) (S : zx_S) : Option (Int32) :=
  (zx_b1 (f_X2_get N 49 p1 (S 3)) (fun x1 =>
some x1))
abbrev rmX1_sizeOf : Room := { frames := 1, cells := 0, slots := 0, locals := 21 }
abbrev zsX1_sizeOf : List Cond := .code yX1_sizeOf cX1_sizeOf 2 (some .int) :: wsL_law
theorem zyX1_sizeOf : yX1_sizeOf.cls ≠ "java/lang/invoke/MethodHandle" ∧ yX1_sizeOf.cls ≠ "java/lang/invoke/VarHandle" ∧ (parseMethodDescriptor yX1_sizeOf.desc).map (fun d => d.parameters.length) = some 1 := by decide +kernel
set_option maxHeartbeats 4000000 in
set_option maxRecDepth 100000 in
theorem c_X1_sizeOf (l : Launch) (D : va_G) (cI cZ cT : ClassId) (h : Nat) (ad : Nat → Nat) (S : zx_S) (sz : Nat) (N : Nat) (p1 : Int32) {R : Int32} (hM : f_X1_sizeOf N p1 S = some R) : Met l yX1_sizeOf zsX1_sizeOf rmX1_sizeOf (va_Pc [.ref h, .int p1] (bS D (zx_ty cI cZ cT) (xW1 cI h ad S) sz)) (va_Qi (fun r (_ : Unit) => R = r) (fun _ _ => True) (fun q => sz ≤ q)) 0 0 (fun q => sz ≤ q) := by
  refine Met.ofW (cc := cX1_sizeOf) (maxL := 2) (ret := (some .int)) (by decide) rfl ?_
  intro p e s m args below meth c s₁ B hml hv
  obtain ⟨rfl, hsz, hP, hK, hD0, hN⟩ := hv
  have hx := B.exec
  have hb := B.bytes
  have hr := B.returns
  have hts : ∀ w ∈ wsL_law, w.before _ s = true := fun w hw => atoms_spec (ws := zsX1_sizeOf) B.pre w (List.mem_cons_of_mem _ hw)
  have hown : s.vm.findClass RX1 = some m.cls := findClass_of_methodNamed B.named
  have hlocks := B.notSynchronized
  subst hsz
  generalize hAe : (fun q : Nat => s.heap.size ≤ q) = A
  have hA : ∀ q : Nat, s.heap.size ≤ q → A q := fun q h => by rw [← hAe]; exact h
  have hD := hD0
  have hS : va_S A s.heap s.heap [] := va_S.rf
  have hl := lv_entry ([.ref h, .int p1]) (n := 2) (Nat.le_of_ble_eq_true rfl)
  rw [lg_entry_eq]
  generalize (lg_sl ([.ref h, .int p1]) ++ List.replicate (2 - (lg_sl ([.ref h, .int p1])).length) Slot.unset).toArray = ls at hl ⊢
  have hl : lv_has ls 2 [(0, .ref h), (1, .int p1)] := hl
  generalize hQ : MQ below (va_Qi (fun r (_ : Unit) => R = r) (fun _ _ => True) A) ([.ref h, .int p1] : List Value).toArray s 0 0 A = Q9
  replace hQ := hQ.symm
  unfold f_X1_sizeOf at hM
  refine lv_aload_n hx hb dX1_sizeOf_0 rfl (lv_at hl 0 rfl) ?_
  refine va_get (D := D) (ci := 1) (v := .ref (ad 3)) (C := RX1) (T := TX1) (N := 14) hx hb hts inlX1 hown hK hP 0 rfl rfl 3 (by decide) (hts _ zw_2_8) (fun _ h9 => h9) rfl dX1_sizeOf_1 ?_
  refine lv_iload_n hx hb dX1_sizeOf_4 rfl (lv_at hl 1 rfl) ?_
  obtain ⟨x1, hz2, hM⟩ := zx_b1E hM
  refine va_calli (va_runSN (As := [.ref (ad 3), .int p1]) (rest := []) ⟨hx, hb, hml, hown, hts⟩ (c_X2_get l D cI cZ cT (ad 3) 49 (S 3) _ N p1 hz2) ⟨va_cnB 2 hts (zg_c zw_3_6) rfl rfl rfl (hN _ (zx_nw_X1_70)) (hts _ zw_1_2) zyX2_get ⟨Nat.le_of_ble_eq_true rfl, Nat.le_of_ble_eq_true rfl⟩, (hts _ zw_3_5), trivial⟩ ⟨bS_blind, bS_pre (zx_P1 hP 4 (rfl)) hK (zx_D1 hD 4 (rfl)) hN⟩ rfl rfl hl.1 rfl (lv_room (Nat.le_of_ble_eq_true rfl)) dX1_sizeOf_5 ⟨Nat.zero_le _, Nat.zero_le _⟩) hS (fun q h1 h2 => absurd h1 (Nat.not_lt.mpr h2)) (fun q h => hA q (Nat.le_trans hS.1 h)) (fun r u t H1 lc ht hvm hw hB hz1 hk1 hS => ?_)
  replace hw : x1 = r := hw; subst hw
  replace hP := zx_keep hP hk1
  rw [hQ]
  exact W.iret hx hb hr (fun t ht hW => ⟨⟨x1, (), rfl, (Option.some.inj hM).symm, trivial⟩, hS.F ht⟩) hS.2.2 dX1_sizeOf_8

/-! ShallowBoxes$Tree.nodeAbove(I)I -/
def f_X1_nodeAbove (N : Nat) (p1 : Int32) (S : zx_S) : Option (Int32) :=
  (zx_b1 (f_X2_get N 49 p1 (S 2)) (fun x1 =>
some x1))
abbrev rmX1_nodeAbove : Room := { frames := 1, cells := 0, slots := 0, locals := 21 }
abbrev zsX1_nodeAbove : List Cond := .code yX1_nodeAbove cX1_nodeAbove 2 (some .int) :: wsL_law
theorem zyX1_nodeAbove : yX1_nodeAbove.cls ≠ "java/lang/invoke/MethodHandle" ∧ yX1_nodeAbove.cls ≠ "java/lang/invoke/VarHandle" ∧ (parseMethodDescriptor yX1_nodeAbove.desc).map (fun d => d.parameters.length) = some 1 := by decide +kernel
set_option maxHeartbeats 4000000 in
set_option maxRecDepth 100000 in
theorem c_X1_nodeAbove (l : Launch) (D : va_G) (cI cZ cT : ClassId) (h : Nat) (ad : Nat → Nat) (S : zx_S) (sz : Nat) (N : Nat) (p1 : Int32) {R : Int32} (hM : f_X1_nodeAbove N p1 S = some R) : Met l yX1_nodeAbove zsX1_nodeAbove rmX1_nodeAbove (va_Pc [.ref h, .int p1] (bS D (zx_ty cI cZ cT) (xW1 cI h ad S) sz)) (va_Qi (fun r (_ : Unit) => R = r) (fun _ _ => True) (fun q => sz ≤ q)) 0 0 (fun q => sz ≤ q) := by
  refine Met.ofW (cc := cX1_nodeAbove) (maxL := 2) (ret := (some .int)) (by decide) rfl ?_
  intro p e s m args below meth c s₁ B hml hv
  obtain ⟨rfl, hsz, hP, hK, hD0, hN⟩ := hv
  have hx := B.exec
  have hb := B.bytes
  have hr := B.returns
  have hts : ∀ w ∈ wsL_law, w.before _ s = true := fun w hw => atoms_spec (ws := zsX1_nodeAbove) B.pre w (List.mem_cons_of_mem _ hw)
  have hown : s.vm.findClass RX1 = some m.cls := findClass_of_methodNamed B.named
  have hlocks := B.notSynchronized
  subst hsz
  generalize hAe : (fun q : Nat => s.heap.size ≤ q) = A
  have hA : ∀ q : Nat, s.heap.size ≤ q → A q := fun q h => by rw [← hAe]; exact h
  have hD := hD0
  have hS : va_S A s.heap s.heap [] := va_S.rf
  have hl := lv_entry ([.ref h, .int p1]) (n := 2) (Nat.le_of_ble_eq_true rfl)
  rw [lg_entry_eq]
  generalize (lg_sl ([.ref h, .int p1]) ++ List.replicate (2 - (lg_sl ([.ref h, .int p1])).length) Slot.unset).toArray = ls at hl ⊢
  have hl : lv_has ls 2 [(0, .ref h), (1, .int p1)] := hl
  generalize hQ : MQ below (va_Qi (fun r (_ : Unit) => R = r) (fun _ _ => True) A) ([.ref h, .int p1] : List Value).toArray s 0 0 A = Q9
  replace hQ := hQ.symm
  unfold f_X1_nodeAbove at hM
  refine lv_aload_n hx hb dX1_nodeAbove_0 rfl (lv_at hl 0 rfl) ?_
  refine va_get (D := D) (ci := 1) (v := .ref (ad 2)) (C := RX1) (T := TX1) (N := 14) hx hb hts inlX1 hown hK hP 0 rfl rfl 2 (by decide) (hts _ zw_2_7) (fun _ h9 => h9) rfl dX1_nodeAbove_1 ?_
  refine lv_iload_n hx hb dX1_nodeAbove_4 rfl (lv_at hl 1 rfl) ?_
  obtain ⟨x1, hz2, hM⟩ := zx_b1E hM
  refine va_calli (va_runSN (As := [.ref (ad 2), .int p1]) (rest := []) ⟨hx, hb, hml, hown, hts⟩ (c_X2_get l D cI cZ cT (ad 2) 49 (S 2) _ N p1 hz2) ⟨va_cnB 2 hts (zg_c zw_3_6) rfl rfl rfl (hN _ (zx_nw_X1_70)) (hts _ zw_1_2) zyX2_get ⟨Nat.le_of_ble_eq_true rfl, Nat.le_of_ble_eq_true rfl⟩, (hts _ zw_3_5), trivial⟩ ⟨bS_blind, bS_pre (zx_P1 hP 3 (rfl)) hK (zx_D1 hD 3 (rfl)) hN⟩ rfl rfl hl.1 rfl (lv_room (Nat.le_of_ble_eq_true rfl)) dX1_nodeAbove_5 ⟨Nat.zero_le _, Nat.zero_le _⟩) hS (fun q h1 h2 => absurd h1 (Nat.not_lt.mpr h2)) (fun q h => hA q (Nat.le_trans hS.1 h)) (fun r u t H1 lc ht hvm hw hB hz1 hk1 hS => ?_)
  replace hw : x1 = r := hw; subst hw
  replace hP := zx_keep hP hk1
  rw [hQ]
  exact W.iret hx hb hr (fun t ht hW => ⟨⟨x1, (), rfl, (Option.some.inj hM).symm, trivial⟩, hS.F ht⟩) hS.2.2 dX1_nodeAbove_8

/-! ShallowBoxes$Tree.entryOf(II)I -/
def f_X1_entryOf (N : Nat) (p1 : Int32) (p2 : Int32) (S : zx_S) : Option (Int32) :=
  (zx_b1 (f_X2_get N 245 ((p1 * 5) + p2) (S 4)) (fun x1 =>
some x1))
abbrev rmX1_entryOf : Room := { frames := 1, cells := 0, slots := 0, locals := 21 }
abbrev zsX1_entryOf : List Cond := .code yX1_entryOf cX1_entryOf 3 (some .int) :: wsL_law
theorem zyX1_entryOf : yX1_entryOf.cls ≠ "java/lang/invoke/MethodHandle" ∧ yX1_entryOf.cls ≠ "java/lang/invoke/VarHandle" ∧ (parseMethodDescriptor yX1_entryOf.desc).map (fun d => d.parameters.length) = some 2 := by decide +kernel
set_option maxHeartbeats 4000000 in
set_option maxRecDepth 100000 in
theorem c_X1_entryOf (l : Launch) (D : va_G) (cI cZ cT : ClassId) (h : Nat) (ad : Nat → Nat) (S : zx_S) (sz : Nat) (N : Nat) (p1 : Int32) (p2 : Int32) {R : Int32} (hM : f_X1_entryOf N p1 p2 S = some R) : Met l yX1_entryOf zsX1_entryOf rmX1_entryOf (va_Pc [.ref h, .int p1, .int p2] (bS D (zx_ty cI cZ cT) (xW1 cI h ad S) sz)) (va_Qi (fun r (_ : Unit) => R = r) (fun _ _ => True) (fun q => sz ≤ q)) 0 0 (fun q => sz ≤ q) := by
  refine Met.ofW (cc := cX1_entryOf) (maxL := 3) (ret := (some .int)) (by decide) rfl ?_
  intro p e s m args below meth c s₁ B hml hv
  obtain ⟨rfl, hsz, hP, hK, hD0, hN⟩ := hv
  have hx := B.exec
  have hb := B.bytes
  have hr := B.returns
  have hts : ∀ w ∈ wsL_law, w.before _ s = true := fun w hw => atoms_spec (ws := zsX1_entryOf) B.pre w (List.mem_cons_of_mem _ hw)
  have hown : s.vm.findClass RX1 = some m.cls := findClass_of_methodNamed B.named
  have hlocks := B.notSynchronized
  subst hsz
  generalize hAe : (fun q : Nat => s.heap.size ≤ q) = A
  have hA : ∀ q : Nat, s.heap.size ≤ q → A q := fun q h => by rw [← hAe]; exact h
  have hD := hD0
  have hS : va_S A s.heap s.heap [] := va_S.rf
  have hl := lv_entry ([.ref h, .int p1, .int p2]) (n := 3) (Nat.le_of_ble_eq_true rfl)
  rw [lg_entry_eq]
  generalize (lg_sl ([.ref h, .int p1, .int p2]) ++ List.replicate (3 - (lg_sl ([.ref h, .int p1, .int p2])).length) Slot.unset).toArray = ls at hl ⊢
  have hl : lv_has ls 3 [(0, .ref h), (1, .int p1), (2, .int p2)] := hl
  generalize hQ : MQ below (va_Qi (fun r (_ : Unit) => R = r) (fun _ _ => True) A) ([.ref h, .int p1, .int p2] : List Value).toArray s 0 0 A = Q9
  replace hQ := hQ.symm
  unfold f_X1_entryOf at hM
  refine lv_aload_n hx hb dX1_entryOf_0 rfl (lv_at hl 0 rfl) ?_
  refine va_get (D := D) (ci := 1) (v := .ref (ad 4)) (C := RX1) (T := TX1) (N := 14) hx hb hts inlX1 hown hK hP 0 rfl rfl 4 (by decide) (hts _ zw_2_9) (fun _ h9 => h9) rfl dX1_entryOf_1 ?_
  refine lv_iload_n hx hb dX1_entryOf_4 rfl (lv_at hl 1 rfl) ?_
  refine lv_iconst (v := 5) hx hb dX1_entryOf_5 (by decide) ?_
  refine lv_imul hx hb dX1_entryOf_6 ?_
  refine lv_iload_n hx hb dX1_entryOf_7 rfl (lv_at hl 2 rfl) ?_
  refine lv_iadd hx hb dX1_entryOf_8 ?_
  obtain ⟨x1, hz2, hM⟩ := zx_b1E hM
  refine va_calli (va_runSN (As := [.ref (ad 4), .int ((p1 * 5) + p2)]) (rest := []) ⟨hx, hb, hml, hown, hts⟩ (c_X2_get l D cI cZ cT (ad 4) 245 (S 4) _ N ((p1 * 5) + p2) hz2) ⟨va_cnB 2 hts (zg_c zw_3_6) rfl rfl rfl (hN _ (zx_nw_X1_70)) (hts _ zw_1_2) zyX2_get ⟨Nat.le_of_ble_eq_true rfl, Nat.le_of_ble_eq_true rfl⟩, (hts _ zw_3_5), trivial⟩ ⟨bS_blind, bS_pre (zx_P1 hP 5 (rfl)) hK (zx_D1 hD 5 (rfl)) hN⟩ rfl rfl hl.1 rfl (lv_room (Nat.le_of_ble_eq_true rfl)) dX1_entryOf_9 ⟨Nat.zero_le _, Nat.zero_le _⟩) hS (fun q h1 h2 => absurd h1 (Nat.not_lt.mpr h2)) (fun q h => hA q (Nat.le_trans hS.1 h)) (fun r u t H1 lc ht hvm hw hB hz1 hk1 hS => ?_)
  replace hw : x1 = r := hw; subst hw
  replace hP := zx_keep hP hk1
  rw [hQ]
  exact W.iret hx hb hr (fun t ht hW => ⟨⟨x1, (), rfl, (Option.some.inj hM).symm, trivial⟩, hS.F ht⟩) hS.2.2 dX1_entryOf_12

/-! ShallowBoxes$Tree.placeOf(II)I -/
def f_X1_placeOf_l12 (N : Nat) (S : zx_S) : Nat → Int32 → Int32 → Int32 → Int32 → Option (Int32)
  | 0, _, _, _, _ => none
  | n12 + 1, v1, v2, v3, v4 => (if v3 ≤ v4 then
  some v3 else
  (zx_b1 (f_X2_get N 245 ((v1 * 5) + v4) (S 4)) (fun x2 =>
(if x2 = v2 then
  some v4 else
  (zx_n (v4 + 1) (fun x5 =>
f_X1_placeOf_l12 N S  n12 v1 v2 v3 x5))))))
def f_X1_placeOf (N : Nat) (p1 : Int32) (p2 : Int32) (S : zx_S) : Option (Int32) :=
  (zx_b1 (f_X2_get N 49 p1 (S 3)) (fun x6 =>
f_X1_placeOf_l12 N S  N p1 p2 x6 0))
abbrev rmX1_placeOf : Room := { frames := 1, cells := 0, slots := 0, locals := 21 }
abbrev zsX1_placeOf : List Cond := .code yX1_placeOf cX1_placeOf 5 (some .int) :: wsL_law
theorem zyX1_placeOf : yX1_placeOf.cls ≠ "java/lang/invoke/MethodHandle" ∧ yX1_placeOf.cls ≠ "java/lang/invoke/VarHandle" ∧ (parseMethodDescriptor yX1_placeOf.desc).map (fun d => d.parameters.length) = some 2 := by decide +kernel
set_option maxHeartbeats 4000000 in
set_option maxRecDepth 100000 in
theorem c_X1_placeOf (l : Launch) (D : va_G) (cI cZ cT : ClassId) (h : Nat) (ad : Nat → Nat) (S : zx_S) (sz : Nat) (N : Nat) (p1 : Int32) (p2 : Int32) {R : Int32} (hM : f_X1_placeOf N p1 p2 S = some R) : Met l yX1_placeOf zsX1_placeOf rmX1_placeOf (va_Pc [.ref h, .int p1, .int p2] (bS D (zx_ty cI cZ cT) (xW1 cI h ad S) sz)) (va_Qi (fun r (_ : Unit) => R = r) (fun _ _ => True) (fun q => sz ≤ q)) 0 0 (fun q => sz ≤ q) := by
  refine Met.ofW (cc := cX1_placeOf) (maxL := 5) (ret := (some .int)) (by decide) rfl ?_
  intro p e s m args below meth c s₁ B hml hv
  obtain ⟨rfl, hsz, hP, hK, hD0, hN⟩ := hv
  have hx := B.exec
  have hb := B.bytes
  have hr := B.returns
  have hts : ∀ w ∈ wsL_law, w.before _ s = true := fun w hw => atoms_spec (ws := zsX1_placeOf) B.pre w (List.mem_cons_of_mem _ hw)
  have hown : s.vm.findClass RX1 = some m.cls := findClass_of_methodNamed B.named
  have hlocks := B.notSynchronized
  subst hsz
  generalize hAe : (fun q : Nat => s.heap.size ≤ q) = A
  have hA : ∀ q : Nat, s.heap.size ≤ q → A q := fun q h => by rw [← hAe]; exact h
  have hD := hD0
  have hS : va_S A s.heap s.heap [] := va_S.rf
  have hl := lv_entry ([.ref h, .int p1, .int p2]) (n := 5) (Nat.le_of_ble_eq_true rfl)
  rw [lg_entry_eq]
  generalize (lg_sl ([.ref h, .int p1, .int p2]) ++ List.replicate (5 - (lg_sl ([.ref h, .int p1, .int p2])).length) Slot.unset).toArray = ls at hl ⊢
  have hl : lv_has ls 5 [(0, .ref h), (1, .int p1), (2, .int p2)] := hl
  generalize hQ : MQ below (va_Qi (fun r (_ : Unit) => R = r) (fun _ _ => True) A) ([.ref h, .int p1, .int p2] : List Value).toArray s 0 0 A = Q9
  replace hQ := hQ.symm
  unfold f_X1_placeOf at hM
  have l12 : ∀ (n12 : Nat) (v1 : Int32) (v2 : Int32) (v3 : Int32) (v4 : Int32) (H : Heap) (lc : List Loc) (ls : Array Slot), va_P D vwCl (xW1 cI h ad S) H → va_S A s.heap H lc → lv_has ls 5 [(0, .ref h), (1, .int v1), (2, .int v2), (3, .int v3), (4, .int v4)] → f_X1_placeOf_l12 N S n12 v1 v2 v3 v4 = some R → W p l e (headSpec zsX1_placeOf rmX1_placeOf).room s m ([.ref h, .int p1, .int p2] : List Value).toArray below meth c H lc 0 0 Q9 (F0 m 12 ls []) := by
    intro n12
    induction n12 with
    | zero =>
      intro v1 v2 v3 v4 H lc ls hP hS hl hM
      rw [f_X1_placeOf_l12] at hM; exact absurd hM (by intro h; cases h)
    | succ n12 ih12 =>
      intro v1 v2 v3 v4 H lc ls hP hS hl hM
      rw [f_X1_placeOf_l12] at hM
      refine lv_iload hx hb dX1_placeOf_12 (lv_at hl 4 rfl) ?_
      refine lv_iload_n hx hb dX1_placeOf_14 rfl (lv_at hl 3 rfl) ?_
      refine lv_icmp_ge (tgt := 44) hx hb dX1_placeOf_15 (by decide) (fun q1 => ?_) (fun q1 => ?_)
      · replace hM := zx_t q1 hM
        refine lv_iload_n hx hb dX1_placeOf_44 rfl (lv_at hl 3 rfl) ?_
        rw [hQ]
        exact W.iret hx hb hr (fun t ht hW => ⟨⟨v3, (), rfl, (Option.some.inj hM).symm, trivial⟩, hS.F ht⟩) hS.2.2 dX1_placeOf_45
      · replace hM := zx_f q1 hM
        refine lv_aload_n hx hb dX1_placeOf_18 rfl (lv_at hl 0 rfl) ?_
        refine va_get (D := D) (ci := 1) (v := .ref (ad 4)) (C := RX1) (T := TX1) (N := 14) hx hb hts inlX1 hown hK hP 0 rfl rfl 4 (by decide) (hts _ zw_2_9) (fun _ h9 => h9) rfl dX1_placeOf_19 ?_
        refine lv_iload_n hx hb dX1_placeOf_22 rfl (lv_at hl 1 rfl) ?_
        refine lv_iconst (v := 5) hx hb dX1_placeOf_23 (by decide) ?_
        refine lv_imul hx hb dX1_placeOf_24 ?_
        refine lv_iload hx hb dX1_placeOf_25 (lv_at hl 4 rfl) ?_
        refine lv_iadd hx hb dX1_placeOf_27 ?_
        obtain ⟨x2, hz3, hM⟩ := zx_b1E hM
        refine va_calli (va_runSN (As := [.ref (ad 4), .int ((v1 * 5) + v4)]) (rest := []) ⟨hx, hb, hml, hown, hts⟩ (c_X2_get l D cI cZ cT (ad 4) 245 (S 4) _ N ((v1 * 5) + v4) hz3) ⟨va_cnB 2 hts (zg_c zw_3_6) rfl rfl rfl (hN _ (zx_nw_X1_70)) (hts _ zw_1_2) zyX2_get ⟨Nat.le_of_ble_eq_true rfl, Nat.le_of_ble_eq_true rfl⟩, (hts _ zw_3_5), trivial⟩ ⟨bS_blind, bS_pre (zx_P1 hP 5 (rfl)) hK (zx_D1 hD 5 (rfl)) hN⟩ rfl rfl hl.1 rfl (lv_room (Nat.le_of_ble_eq_true rfl)) dX1_placeOf_28 ⟨Nat.zero_le _, Nat.zero_le _⟩) hS (fun q h1 h2 => absurd h1 (Nat.not_lt.mpr h2)) (fun q h => hA q (Nat.le_trans hS.1 h)) (fun r u t H1 lc ht hvm hw hB hz1 hk1 hS => ?_)
        replace hw : x2 = r := hw; subst hw
        replace hP := zx_keep hP hk1
        refine lv_iload_n hx hb dX1_placeOf_31 rfl (lv_at hl 2 rfl) ?_
        refine lv_icmp_ne (tgt := 38) hx hb dX1_placeOf_32 (by decide) (fun q4 => ?_) (fun q4 => ?_)
        · replace hM := zx_f q4 hM
          obtain ⟨x5, ex5, hM⟩ := zx_nE hM
          refine lv_iinc (v := x5) (lv' := [(4, .int x5), (0, .ref h), (1, .int v1), (2, .int v2), (3, .int v3)]) hx hb dX1_placeOf_38 hl (k := 4) rfl (by rw [ex5]; rfl) (by decide) rfl (fun ls hl => ?_)
          refine lv_goto (tgt := 12) hx hb dX1_placeOf_41 (by decide) ?_
          exact ih12 v1 v2 v3 x5 _ _ _ hP hS (lv_sub hl [1, 2, 3, 4, 0] rfl) hM
        · replace hM := zx_t q4 hM
          refine lv_iload hx hb dX1_placeOf_35 (lv_at hl 4 rfl) ?_
          rw [hQ]
          exact W.iret hx hb hr (fun t ht hW => ⟨⟨v4, (), rfl, (Option.some.inj hM).symm, trivial⟩, hS.F ht⟩) hS.2.2 dX1_placeOf_37
  refine lv_aload_n hx hb dX1_placeOf_0 rfl (lv_at hl 0 rfl) ?_
  refine va_get (D := D) (ci := 1) (v := .ref (ad 3)) (C := RX1) (T := TX1) (N := 14) hx hb hts inlX1 hown hK hP 0 rfl rfl 3 (by decide) (hts _ zw_2_8) (fun _ h9 => h9) rfl dX1_placeOf_1 ?_
  refine lv_iload_n hx hb dX1_placeOf_4 rfl (lv_at hl 1 rfl) ?_
  obtain ⟨x6, hz7, hM⟩ := zx_b1E hM
  refine va_calli (va_runSN (As := [.ref (ad 3), .int p1]) (rest := []) ⟨hx, hb, hml, hown, hts⟩ (c_X2_get l D cI cZ cT (ad 3) 49 (S 3) _ N p1 hz7) ⟨va_cnB 2 hts (zg_c zw_3_6) rfl rfl rfl (hN _ (zx_nw_X1_70)) (hts _ zw_1_2) zyX2_get ⟨Nat.le_of_ble_eq_true rfl, Nat.le_of_ble_eq_true rfl⟩, (hts _ zw_3_5), trivial⟩ ⟨bS_blind, bS_pre (zx_P1 hP 4 (rfl)) hK (zx_D1 hD 4 (rfl)) hN⟩ rfl rfl hl.1 rfl (lv_room (Nat.le_of_ble_eq_true rfl)) dX1_placeOf_5 ⟨Nat.zero_le _, Nat.zero_le _⟩) hS (fun q h1 h2 => absurd h1 (Nat.not_lt.mpr h2)) (fun q h => hA q (Nat.le_trans hS.1 h)) (fun r u t H1 lc ht hvm hw hB hz1 hk1 hS => ?_)
  replace hw : x6 = r := hw; subst hw
  replace hP := zx_keep hP hk1
  refine lv_istore_n (lv' := [(3, .int x6), (0, .ref h), (1, .int p1), (2, .int p2)]) hx hb dX1_placeOf_8 rfl hl (by decide) rfl (fun ls hl => ?_)
  refine lv_iconst (v := 0) hx hb dX1_placeOf_9 (by decide) ?_
  refine lv_istore (lv' := [(4, .int 0), (3, .int x6), (0, .ref h), (1, .int p1), (2, .int p2)]) hx hb dX1_placeOf_10 hl (by decide) rfl (fun ls hl => ?_)
  exact l12 N p1 p2 x6 0 _ _ _ hP hS (lv_sub hl [2, 3, 4, 1, 0] rfl) hM

/-! ShallowBoxes$Tree.attach(III)V -/
def f_X1_attach_l19 (N : Nat) : Nat → Int32 → Int32 → Int32 → Int32 → Int32 → Int32 → zx_S → Option (zx_S)
  | 0, _, _, _, _, _, _, _ => none
  | n19 + 1, v1, v2, v3, v4, v5, v6, S_ => (if v6 ≤ v2 then
  (zx_b1 (f_X2_put N 245 (v5 + v2) v3 (S_ 4)) (fun g2 =>
(zx_n (zx_st S_ 4 g2) (fun T4 =>
(zx_b1 (f_X2_put N 49 v1 (v4 + 1) (T4 3)) (fun g5 =>
(zx_n (zx_st T4 3 g5) (fun T7 =>
(zx_b1 (f_X2_put N 49 v3 v1 (T7 2)) (fun g8 =>
(zx_n (zx_st T7 2 g8) (fun T10 =>
some T10)))))))))))) else
  (zx_b1 (f_X2_get N 245 ((v5 + v6) - 1) (S_ 4)) (fun x11 =>
(zx_b1 (f_X2_put N 245 (v5 + v6) x11 (S_ 4)) (fun g13 =>
(zx_n (zx_st S_ 4 g13) (fun T15 =>
(zx_n (v6 + (-1)) (fun x16 =>
f_X1_attach_l19 N  n19 v1 v2 v3 v4 v5 x16 T15)))))))))
def f_X1_attach (N : Nat) (p1 : Int32) (p2 : Int32) (p3 : Int32) (S : zx_S) : Option (zx_S) :=
  (zx_b1 (f_X2_get N 49 p1 (S 3)) (fun x17 =>
(zx_n (p1 * 5) (fun x19 =>
f_X1_attach_l19 N  N p1 p2 p3 x17 x19 x17 S))))
abbrev rmX1_attach : Room := { frames := 1, cells := 0, slots := 0, locals := 22 }
abbrev zsX1_attach : List Cond := .code yX1_attach cX1_attach 7 none :: wsL_law
theorem zyX1_attach : yX1_attach.cls ≠ "java/lang/invoke/MethodHandle" ∧ yX1_attach.cls ≠ "java/lang/invoke/VarHandle" ∧ (parseMethodDescriptor yX1_attach.desc).map (fun d => d.parameters.length) = some 3 := by decide +kernel
set_option maxHeartbeats 4000000 in
set_option maxRecDepth 100000 in
theorem c_X1_attach (l : Launch) (D : va_G) (cI cZ cT : ClassId) (h : Nat) (ad : Nat → Nat) (S : zx_S) (sz : Nat) (N : Nat) (p1 : Int32) (p2 : Int32) (p3 : Int32) {R : zx_S} (hM : f_X1_attach N p1 p2 p3 S = some R) : Met l yX1_attach zsX1_attach rmX1_attach (va_Pc [.ref h, .int p1, .int p2, .int p3] (bS D (zx_ty cI cZ cT) (xW1 cI h ad S) sz)) (va_Qv (fun u => R = u) (fun u t => va_P D vwCl (xW1 cI h ad u) t.heap) (va_A (xW1 cI h ad S) sz)) 0 0 (va_A (xW1 cI h ad S) sz) := by
  refine Met.ofW (cc := cX1_attach) (maxL := 7) (ret := none) (by decide) rfl ?_
  intro p e s m args below meth c s₁ B hml hv
  obtain ⟨rfl, hsz, hP, hK, hD0, hN⟩ := hv
  have hx := B.exec
  have hb := B.bytes
  have hr := B.returns
  have hts : ∀ w ∈ wsL_law, w.before _ s = true := fun w hw => atoms_spec (ws := zsX1_attach) B.pre w (List.mem_cons_of_mem _ hw)
  have hown : s.vm.findClass RX1 = some m.cls := findClass_of_methodNamed B.named
  have hlocks := B.notSynchronized
  subst hsz
  have hD := hD0.self (sz := s.heap.size)
  generalize hAe : va_A (xW1 cI h ad S) s.heap.size = A at hD ⊢
  have hA : ∀ q : Nat, s.heap.size ≤ q → A q := fun q h => by rw [← hAe]; exact Or.inr h
  have hS : va_S A s.heap s.heap [] := va_S.rf
  have hl := lv_entry ([.ref h, .int p1, .int p2, .int p3]) (n := 7) (Nat.le_of_ble_eq_true rfl)
  rw [lg_entry_eq]
  generalize (lg_sl ([.ref h, .int p1, .int p2, .int p3]) ++ List.replicate (7 - (lg_sl ([.ref h, .int p1, .int p2, .int p3])).length) Slot.unset).toArray = ls at hl ⊢
  have hl : lv_has ls 7 [(0, .ref h), (1, .int p1), (2, .int p2), (3, .int p3)] := hl
  generalize hQ : MQ below (va_Qv (fun u => R = u) (fun u t => va_P D vwCl (xW1 cI h ad u) t.heap) A) ([.ref h, .int p1, .int p2, .int p3] : List Value).toArray s 0 0 A = Q9
  replace hQ := hQ.symm
  unfold f_X1_attach at hM
  have l19 : ∀ (n19 : Nat) (v1 : Int32) (v2 : Int32) (v3 : Int32) (v4 : Int32) (v5 : Int32) (v6 : Int32) (S_ : zx_S) (H : Heap) (lc : List Loc) (ls : Array Slot), va_P D vwCl (xW1 cI h ad S_) H → va_D A (xW1 cI h ad S_) → va_S A s.heap H lc → lv_has ls 7 [(0, .ref h), (1, .int v1), (2, .int v2), (3, .int v3), (4, .int v4), (5, .int v5), (6, .int v6)] → f_X1_attach_l19 N n19 v1 v2 v3 v4 v5 v6 S_ = some R → W p l e (headSpec zsX1_attach rmX1_attach).room s m ([.ref h, .int p1, .int p2, .int p3] : List Value).toArray below meth c H lc 0 0 Q9 (F0 m 19 ls []) := by
    intro n19
    induction n19 with
    | zero =>
      intro v1 v2 v3 v4 v5 v6 S_ H lc ls hP hD hS hl hM
      rw [f_X1_attach_l19] at hM; exact absurd hM (by intro h; cases h)
    | succ n19 ih19 =>
      intro v1 v2 v3 v4 v5 v6 S_ H lc ls hP hD hS hl hM
      rw [f_X1_attach_l19] at hM
      refine lv_iload hx hb dX1_attach_19 (lv_at hl 6 rfl) ?_
      refine lv_iload_n hx hb dX1_attach_21 rfl (lv_at hl 2 rfl) ?_
      refine lv_icmp_le (tgt := 57) hx hb dX1_attach_22 (by decide) (fun q1 => ?_) (fun q1 => ?_)
      · replace hM := zx_t q1 hM
        refine lv_aload_n hx hb dX1_attach_57 rfl (lv_at hl 0 rfl) ?_
        refine va_get (D := D) (ci := 1) (v := .ref (ad 4)) (C := RX1) (T := TX1) (N := 14) hx hb hts inlX1 hown hK hP 0 rfl rfl 4 (by decide) (hts _ zw_2_9) (fun _ h9 => h9) rfl dX1_attach_58 ?_
        refine lv_iload hx hb dX1_attach_61 (lv_at hl 5 rfl) ?_
        refine lv_iload_n hx hb dX1_attach_63 rfl (lv_at hl 2 rfl) ?_
        refine lv_iadd hx hb dX1_attach_64 ?_
        refine lv_iload_n hx hb dX1_attach_65 rfl (lv_at hl 3 rfl) ?_
        obtain ⟨g2, hz3, hM⟩ := zx_b1E hM
        refine va_callv (va_runSN (As := [.ref (ad 4), .int (v5 + v2), .int v3]) (rest := []) ⟨hx, hb, hml, hown, hts⟩ (c_X2_put l D cI cZ cT (ad 4) 245 (S_ 4) _ N (v5 + v2) v3 hz3) ⟨va_cnB 3 hts (zg_c zw_3_0) rfl rfl rfl (hN _ (zx_nw_X1_45)) (hts _ zw_1_2) zyX2_put ⟨Nat.le_of_ble_eq_true rfl, Nat.le_of_ble_eq_true rfl⟩, (hts _ zw_2_23), trivial⟩ ⟨bS_blind, bS_pre (zx_P1 hP 5 (rfl)) hK (zx_D1 hD 5 (rfl)) hN⟩ rfl rfl hl.1 rfl (lv_room (Nat.le_of_ble_eq_true rfl)) dX1_attach_66 ⟨Nat.zero_le _, Nat.zero_le _⟩) hS (fun q _ h => zx_f1 hD hS hA (k := 5) rfl q h) (fun q h => zx_f1 hD hS hA (k := 5) rfl q h) (fun u t H1 lc ht hvm hw hB hz1 hk1 hS => ?_)
        replace hw : g2 = u := hw; subst hw
        rw [ht] at hB
        replace hP := zx_set1 (k := 5) hP hD rfl hk1 hB
        replace hD := va_D.set (p := 5) (e := .inl (cI, 245, .inl g2)) hD rfl
        rw [xW1_pa4] at hP hD
        obtain ⟨T4, eT4, hM⟩ := zx_nE hM
        rw [← eT4] at hP hD
        refine lv_aload_n hx hb dX1_attach_69 rfl (lv_at hl 0 rfl) ?_
        refine va_get (D := D) (ci := 1) (v := .ref (ad 3)) (C := RX1) (T := TX1) (N := 14) hx hb hts inlX1 hown hK hP 0 rfl rfl 3 (by decide) (hts _ zw_2_8) (fun _ h9 => h9) rfl dX1_attach_70 ?_
        refine lv_iload_n hx hb dX1_attach_73 rfl (lv_at hl 1 rfl) ?_
        refine lv_iload hx hb dX1_attach_74 (lv_at hl 4 rfl) ?_
        refine lv_iconst (v := 1) hx hb dX1_attach_76 (by decide) ?_
        refine lv_iadd hx hb dX1_attach_77 ?_
        obtain ⟨g5, hz6, hM⟩ := zx_b1E hM
        refine va_callv (va_runSN (As := [.ref (ad 3), .int v1, .int (v4 + 1)]) (rest := []) ⟨hx, hb, hml, hown, hts⟩ (c_X2_put l D cI cZ cT (ad 3) 49 (T4 3) _ N v1 (v4 + 1) hz6) ⟨va_cnB 3 hts (zg_c zw_3_0) rfl rfl rfl (hN _ (zx_nw_X1_45)) (hts _ zw_1_2) zyX2_put ⟨Nat.le_of_ble_eq_true rfl, Nat.le_of_ble_eq_true rfl⟩, (hts _ zw_2_23), trivial⟩ ⟨bS_blind, bS_pre (zx_P1 hP 4 (rfl)) hK (zx_D1 hD 4 (rfl)) hN⟩ rfl rfl hl.1 rfl (lv_room (Nat.le_of_ble_eq_true rfl)) dX1_attach_78 ⟨Nat.zero_le _, Nat.zero_le _⟩) hS (fun q _ h => zx_f1 hD hS hA (k := 4) rfl q h) (fun q h => zx_f1 hD hS hA (k := 4) rfl q h) (fun u t H1 lc ht hvm hw hB hz1 hk1 hS => ?_)
        replace hw : g5 = u := hw; subst hw
        rw [ht] at hB
        replace hP := zx_set1 (k := 4) hP hD rfl hk1 hB
        replace hD := va_D.set (p := 4) (e := .inl (cI, 49, .inl g5)) hD rfl
        rw [xW1_pa3] at hP hD
        obtain ⟨T7, eT7, hM⟩ := zx_nE hM
        rw [← eT7] at hP hD
        refine lv_aload_n hx hb dX1_attach_81 rfl (lv_at hl 0 rfl) ?_
        refine va_get (D := D) (ci := 1) (v := .ref (ad 2)) (C := RX1) (T := TX1) (N := 14) hx hb hts inlX1 hown hK hP 0 rfl rfl 2 (by decide) (hts _ zw_2_7) (fun _ h9 => h9) rfl dX1_attach_82 ?_
        refine lv_iload_n hx hb dX1_attach_85 rfl (lv_at hl 3 rfl) ?_
        refine lv_iload_n hx hb dX1_attach_86 rfl (lv_at hl 1 rfl) ?_
        obtain ⟨g8, hz9, hM⟩ := zx_b1E hM
        refine va_callv (va_runSN (As := [.ref (ad 2), .int v3, .int v1]) (rest := []) ⟨hx, hb, hml, hown, hts⟩ (c_X2_put l D cI cZ cT (ad 2) 49 (T7 2) _ N v3 v1 hz9) ⟨va_cnB 3 hts (zg_c zw_3_0) rfl rfl rfl (hN _ (zx_nw_X1_45)) (hts _ zw_1_2) zyX2_put ⟨Nat.le_of_ble_eq_true rfl, Nat.le_of_ble_eq_true rfl⟩, (hts _ zw_2_23), trivial⟩ ⟨bS_blind, bS_pre (zx_P1 hP 3 (rfl)) hK (zx_D1 hD 3 (rfl)) hN⟩ rfl rfl hl.1 rfl (lv_room (Nat.le_of_ble_eq_true rfl)) dX1_attach_87 ⟨Nat.zero_le _, Nat.zero_le _⟩) hS (fun q _ h => zx_f1 hD hS hA (k := 3) rfl q h) (fun q h => zx_f1 hD hS hA (k := 3) rfl q h) (fun u t H1 lc ht hvm hw hB hz1 hk1 hS => ?_)
        replace hw : g8 = u := hw; subst hw
        rw [ht] at hB
        replace hP := zx_set1 (k := 3) hP hD rfl hk1 hB
        replace hD := va_D.set (p := 3) (e := .inl (cI, 49, .inl g8)) hD rfl
        rw [xW1_pa2] at hP hD
        obtain ⟨T10, eT10, hM⟩ := zx_nE hM
        rw [← eT10] at hP hD
        rw [hQ]
        exact W.vret hx hb hr (fun t ht hW => ⟨⟨T10, rfl, (Option.some.inj hM).symm, by show va_P D vwCl _ t.heap; rw [ht]; exact hP⟩, hS.F ht⟩) hS.2.2 dX1_attach_90
      · replace hM := zx_f q1 hM
        refine lv_aload_n hx hb dX1_attach_25 rfl (lv_at hl 0 rfl) ?_
        refine va_get (D := D) (ci := 1) (v := .ref (ad 4)) (C := RX1) (T := TX1) (N := 14) hx hb hts inlX1 hown hK hP 0 rfl rfl 4 (by decide) (hts _ zw_2_9) (fun _ h9 => h9) rfl dX1_attach_26 ?_
        refine lv_iload hx hb dX1_attach_29 (lv_at hl 5 rfl) ?_
        refine lv_iload hx hb dX1_attach_31 (lv_at hl 6 rfl) ?_
        refine lv_iadd hx hb dX1_attach_33 ?_
        refine lv_aload_n hx hb dX1_attach_34 rfl (lv_at hl 0 rfl) ?_
        refine va_get (D := D) (ci := 1) (v := .ref (ad 4)) (C := RX1) (T := TX1) (N := 14) hx hb hts inlX1 hown hK hP 0 rfl rfl 4 (by decide) (hts _ zw_2_9) (fun _ h9 => h9) rfl dX1_attach_35 ?_
        refine lv_iload hx hb dX1_attach_38 (lv_at hl 5 rfl) ?_
        refine lv_iload hx hb dX1_attach_40 (lv_at hl 6 rfl) ?_
        refine lv_iadd hx hb dX1_attach_42 ?_
        refine lv_iconst (v := 1) hx hb dX1_attach_43 (by decide) ?_
        refine lv_isub hx hb dX1_attach_44 ?_
        obtain ⟨x11, hz12, hM⟩ := zx_b1E hM
        refine va_calli (va_runSN (As := [.ref (ad 4), .int ((v5 + v6) - 1)]) (rest := [.int (v5 + v6), .ref (ad 4)]) ⟨hx, hb, hml, hown, hts⟩ (c_X2_get l D cI cZ cT (ad 4) 245 (S_ 4) _ N ((v5 + v6) - 1) hz12) ⟨va_cnB 2 hts (zg_c zw_3_6) rfl rfl rfl (hN _ (zx_nw_X1_70)) (hts _ zw_1_2) zyX2_get ⟨Nat.le_of_ble_eq_true rfl, Nat.le_of_ble_eq_true rfl⟩, (hts _ zw_3_5), trivial⟩ ⟨bS_blind, bS_pre (zx_P1 hP 5 (rfl)) hK (zx_D1 hD 5 (rfl)) hN⟩ rfl rfl hl.1 rfl (lv_room (Nat.le_of_ble_eq_true rfl)) dX1_attach_45 ⟨Nat.zero_le _, Nat.zero_le _⟩) hS (fun q h1 h2 => absurd h1 (Nat.not_lt.mpr h2)) (fun q h => hA q (Nat.le_trans hS.1 h)) (fun r u t H1 lc ht hvm hw hB hz1 hk1 hS => ?_)
        replace hw : x11 = r := hw; subst hw
        replace hP := zx_keep hP hk1
        obtain ⟨g13, hz14, hM⟩ := zx_b1E hM
        refine va_callv (va_runSN (As := [.ref (ad 4), .int (v5 + v6), .int x11]) (rest := []) ⟨hx, hb, hml, hown, hts⟩ (c_X2_put l D cI cZ cT (ad 4) 245 (S_ 4) _ N (v5 + v6) x11 hz14) ⟨va_cnB 3 hts (zg_c zw_3_0) rfl rfl rfl (hN _ (zx_nw_X1_45)) (hts _ zw_1_2) zyX2_put ⟨Nat.le_of_ble_eq_true rfl, Nat.le_of_ble_eq_true rfl⟩, (hts _ zw_2_23), trivial⟩ ⟨bS_blind, bS_pre (zx_P1 hP 5 (rfl)) hK (zx_D1 hD 5 (rfl)) hN⟩ rfl rfl hl.1 rfl (lv_room (Nat.le_of_ble_eq_true rfl)) dX1_attach_48 ⟨Nat.zero_le _, Nat.zero_le _⟩) hS (fun q _ h => zx_f1 hD hS hA (k := 5) rfl q h) (fun q h => zx_f1 hD hS hA (k := 5) rfl q h) (fun u t H1 lc ht hvm hw hB hz1 hk1 hS => ?_)
        replace hw : g13 = u := hw; subst hw
        rw [ht] at hB
        replace hP := zx_set1 (k := 5) hP hD rfl hk1 hB
        replace hD := va_D.set (p := 5) (e := .inl (cI, 245, .inl g13)) hD rfl
        rw [xW1_pa4] at hP hD
        obtain ⟨T15, eT15, hM⟩ := zx_nE hM
        rw [← eT15] at hP hD
        obtain ⟨x16, ex16, hM⟩ := zx_nE hM
        refine lv_iinc (v := x16) (lv' := [(6, .int x16), (0, .ref h), (1, .int v1), (2, .int v2), (3, .int v3), (4, .int v4), (5, .int v5)]) hx hb dX1_attach_51 hl (k := 6) rfl (by rw [ex16]; rfl) (by decide) rfl (fun ls hl => ?_)
        refine lv_goto (tgt := 19) hx hb dX1_attach_54 (by decide) ?_
        exact ih19 v1 v2 v3 v4 v5 x16 T15 _ _ _ hP hD hS (lv_sub hl [1, 2, 3, 4, 5, 6, 0] rfl) hM
  refine lv_aload_n hx hb dX1_attach_0 rfl (lv_at hl 0 rfl) ?_
  refine va_get (D := D) (ci := 1) (v := .ref (ad 3)) (C := RX1) (T := TX1) (N := 14) hx hb hts inlX1 hown hK hP 0 rfl rfl 3 (by decide) (hts _ zw_2_8) (fun _ h9 => h9) rfl dX1_attach_1 ?_
  refine lv_iload_n hx hb dX1_attach_4 rfl (lv_at hl 1 rfl) ?_
  obtain ⟨x17, hz18, hM⟩ := zx_b1E hM
  refine va_calli (va_runSN (As := [.ref (ad 3), .int p1]) (rest := []) ⟨hx, hb, hml, hown, hts⟩ (c_X2_get l D cI cZ cT (ad 3) 49 (S 3) _ N p1 hz18) ⟨va_cnB 2 hts (zg_c zw_3_6) rfl rfl rfl (hN _ (zx_nw_X1_70)) (hts _ zw_1_2) zyX2_get ⟨Nat.le_of_ble_eq_true rfl, Nat.le_of_ble_eq_true rfl⟩, (hts _ zw_3_5), trivial⟩ ⟨bS_blind, bS_pre (zx_P1 hP 4 (rfl)) hK (zx_D1 hD 4 (rfl)) hN⟩ rfl rfl hl.1 rfl (lv_room (Nat.le_of_ble_eq_true rfl)) dX1_attach_5 ⟨Nat.zero_le _, Nat.zero_le _⟩) hS (fun q h1 h2 => absurd h1 (Nat.not_lt.mpr h2)) (fun q h => hA q (Nat.le_trans hS.1 h)) (fun r u t H1 lc ht hvm hw hB hz1 hk1 hS => ?_)
  replace hw : x17 = r := hw; subst hw
  replace hP := zx_keep hP hk1
  refine lv_istore (lv' := [(4, .int x17), (0, .ref h), (1, .int p1), (2, .int p2), (3, .int p3)]) hx hb dX1_attach_8 hl (by decide) rfl (fun ls hl => ?_)
  refine lv_iload_n hx hb dX1_attach_10 rfl (lv_at hl 2 rfl) ?_
  refine lv_iconst (v := 5) hx hb dX1_attach_11 (by decide) ?_
  refine lv_imul hx hb dX1_attach_12 ?_
  obtain ⟨x19, ex19, hM⟩ := zx_nE hM
  refine zx_top ex19 ?_
  refine lv_istore (lv' := [(5, .int x19), (4, .int x17), (0, .ref h), (1, .int p1), (2, .int p2), (3, .int p3)]) hx hb dX1_attach_13 hl (by decide) rfl (fun ls hl => ?_)
  refine lv_iload hx hb dX1_attach_15 (lv_at hl 1 rfl) ?_
  refine lv_istore (lv' := [(6, .int x17), (5, .int x19), (4, .int x17), (0, .ref h), (1, .int p1), (2, .int p2), (3, .int p3)]) hx hb dX1_attach_17 hl (by decide) rfl (fun ls hl => ?_)
  exact l19 N p1 p2 p3 x17 x19 x17 S _ _ _ hP hD hS (lv_sub hl [3, 4, 5, 6, 2, 1, 0] rfl) hM

/-! ShallowBoxes$Tree.detach(I)V -/
def f_X1_detach_l31 (N : Nat) : Nat → Int32 → Int32 → Int32 → Int32 → Int32 → zx_S → Option (zx_S)
  | 0, _, _, _, _, _, _ => none
  | n31 + 1, v1, v2, v3, v4, v5, S_ => (if (v3 - 1) ≤ v5 then
  (zx_b1 (f_X2_put N 49 v2 (v3 - 1) (S_ 3)) (fun g2 =>
(zx_n (zx_st S_ 3 g2) (fun T4 =>
(zx_b1 (f_X2_put N 49 v1 (-1) (T4 2)) (fun g5 =>
(zx_n (zx_st T4 2 g5) (fun T7 =>
some T7)))))))) else
  (zx_b1 (f_X2_get N 245 ((v4 + v5) + 1) (S_ 4)) (fun x8 =>
(zx_b1 (f_X2_put N 245 (v4 + v5) x8 (S_ 4)) (fun g10 =>
(zx_n (zx_st S_ 4 g10) (fun T12 =>
(zx_n (v5 + 1) (fun x13 =>
f_X1_detach_l31 N  n31 v1 v2 v3 v4 x13 T12)))))))))
def f_X1_detach (N : Nat) (p1 : Int32) (S : zx_S) : Option (zx_S) :=
  (zx_b1 (f_X2_get N 49 p1 (S 2)) (fun x14 =>
(zx_b1 (f_X2_get N 49 x14 (S 3)) (fun x16 =>
(zx_n (x14 * 5) (fun x18 =>
(zx_b1 (f_X1_placeOf N x14 p1 S) (fun x19 =>
f_X1_detach_l31 N  N p1 x14 x16 x18 x19 S))))))))
abbrev rmX1_detach : Room := { frames := 2, cells := 0, slots := 0, locals := 45 }
abbrev zsX1_detach : List Cond := .code yX1_detach cX1_detach 6 none :: wsL_law
theorem zyX1_detach : yX1_detach.cls ≠ "java/lang/invoke/MethodHandle" ∧ yX1_detach.cls ≠ "java/lang/invoke/VarHandle" ∧ (parseMethodDescriptor yX1_detach.desc).map (fun d => d.parameters.length) = some 1 := by decide +kernel
set_option maxHeartbeats 4000000 in
set_option maxRecDepth 100000 in
theorem c_X1_detach (l : Launch) (D : va_G) (cI cZ cT : ClassId) (h : Nat) (ad : Nat → Nat) (S : zx_S) (sz : Nat) (N : Nat) (p1 : Int32) {R : zx_S} (hM : f_X1_detach N p1 S = some R) : Met l yX1_detach zsX1_detach rmX1_detach (va_Pc [.ref h, .int p1] (bS D (zx_ty cI cZ cT) (xW1 cI h ad S) sz)) (va_Qv (fun u => R = u) (fun u t => va_P D vwCl (xW1 cI h ad u) t.heap) (va_A (xW1 cI h ad S) sz)) 0 0 (va_A (xW1 cI h ad S) sz) := by
  refine Met.ofW (cc := cX1_detach) (maxL := 6) (ret := none) (by decide) rfl ?_
  intro p e s m args below meth c s₁ B hml hv
  obtain ⟨rfl, hsz, hP, hK, hD0, hN⟩ := hv
  have hx := B.exec
  have hb := B.bytes
  have hr := B.returns
  have hts : ∀ w ∈ wsL_law, w.before _ s = true := fun w hw => atoms_spec (ws := zsX1_detach) B.pre w (List.mem_cons_of_mem _ hw)
  have hown : s.vm.findClass RX1 = some m.cls := findClass_of_methodNamed B.named
  have hlocks := B.notSynchronized
  subst hsz
  have hD := hD0.self (sz := s.heap.size)
  generalize hAe : va_A (xW1 cI h ad S) s.heap.size = A at hD ⊢
  have hA : ∀ q : Nat, s.heap.size ≤ q → A q := fun q h => by rw [← hAe]; exact Or.inr h
  have hS : va_S A s.heap s.heap [] := va_S.rf
  have hl := lv_entry ([.ref h, .int p1]) (n := 6) (Nat.le_of_ble_eq_true rfl)
  rw [lg_entry_eq]
  generalize (lg_sl ([.ref h, .int p1]) ++ List.replicate (6 - (lg_sl ([.ref h, .int p1])).length) Slot.unset).toArray = ls at hl ⊢
  have hl : lv_has ls 6 [(0, .ref h), (1, .int p1)] := hl
  generalize hQ : MQ below (va_Qv (fun u => R = u) (fun u t => va_P D vwCl (xW1 cI h ad u) t.heap) A) ([.ref h, .int p1] : List Value).toArray s 0 0 A = Q9
  replace hQ := hQ.symm
  unfold f_X1_detach at hM
  have l31 : ∀ (n31 : Nat) (v1 : Int32) (v2 : Int32) (v3 : Int32) (v4 : Int32) (v5 : Int32) (S_ : zx_S) (H : Heap) (lc : List Loc) (ls : Array Slot), va_P D vwCl (xW1 cI h ad S_) H → va_D A (xW1 cI h ad S_) → va_S A s.heap H lc → lv_has ls 6 [(0, .ref h), (1, .int v1), (2, .int v2), (3, .int v3), (4, .int v4), (5, .int v5)] → f_X1_detach_l31 N n31 v1 v2 v3 v4 v5 S_ = some R → W p l e (headSpec zsX1_detach rmX1_detach).room s m ([.ref h, .int p1] : List Value).toArray below meth c H lc 0 0 Q9 (F0 m 31 ls []) := by
    intro n31
    induction n31 with
    | zero =>
      intro v1 v2 v3 v4 v5 S_ H lc ls hP hD hS hl hM
      rw [f_X1_detach_l31] at hM; exact absurd hM (by intro h; cases h)
    | succ n31 ih31 =>
      intro v1 v2 v3 v4 v5 S_ H lc ls hP hD hS hl hM
      rw [f_X1_detach_l31] at hM
      refine lv_iload hx hb dX1_detach_31 (lv_at hl 5 rfl) ?_
      refine lv_iload_n hx hb dX1_detach_33 rfl (lv_at hl 3 rfl) ?_
      refine lv_iconst (v := 1) hx hb dX1_detach_34 (by decide) ?_
      refine lv_isub hx hb dX1_detach_35 ?_
      refine lv_icmp_ge (tgt := 71) hx hb dX1_detach_36 (by decide) (fun q1 => ?_) (fun q1 => ?_)
      · replace hM := zx_t q1 hM
        refine lv_aload_n hx hb dX1_detach_71 rfl (lv_at hl 0 rfl) ?_
        refine va_get (D := D) (ci := 1) (v := .ref (ad 3)) (C := RX1) (T := TX1) (N := 14) hx hb hts inlX1 hown hK hP 0 rfl rfl 3 (by decide) (hts _ zw_2_8) (fun _ h9 => h9) rfl dX1_detach_72 ?_
        refine lv_iload_n hx hb dX1_detach_75 rfl (lv_at hl 2 rfl) ?_
        refine lv_iload_n hx hb dX1_detach_76 rfl (lv_at hl 3 rfl) ?_
        refine lv_iconst (v := 1) hx hb dX1_detach_77 (by decide) ?_
        refine lv_isub hx hb dX1_detach_78 ?_
        obtain ⟨g2, hz3, hM⟩ := zx_b1E hM
        refine va_callv (va_runSN (As := [.ref (ad 3), .int v2, .int (v3 - 1)]) (rest := []) ⟨hx, hb, hml, hown, hts⟩ (c_X2_put l D cI cZ cT (ad 3) 49 (S_ 3) _ N v2 (v3 - 1) hz3) ⟨va_cnB 3 hts (zg_c zw_3_0) rfl rfl rfl (hN _ (zx_nw_X1_45)) (hts _ zw_1_2) zyX2_put ⟨Nat.le_of_ble_eq_true rfl, Nat.le_of_ble_eq_true rfl⟩, (hts _ zw_2_23), trivial⟩ ⟨bS_blind, bS_pre (zx_P1 hP 4 (rfl)) hK (zx_D1 hD 4 (rfl)) hN⟩ rfl rfl hl.1 rfl (lv_room (Nat.le_of_ble_eq_true rfl)) dX1_detach_79 ⟨Nat.zero_le _, Nat.zero_le _⟩) hS (fun q _ h => zx_f1 hD hS hA (k := 4) rfl q h) (fun q h => zx_f1 hD hS hA (k := 4) rfl q h) (fun u t H1 lc ht hvm hw hB hz1 hk1 hS => ?_)
        replace hw : g2 = u := hw; subst hw
        rw [ht] at hB
        replace hP := zx_set1 (k := 4) hP hD rfl hk1 hB
        replace hD := va_D.set (p := 4) (e := .inl (cI, 49, .inl g2)) hD rfl
        rw [xW1_pa3] at hP hD
        obtain ⟨T4, eT4, hM⟩ := zx_nE hM
        rw [← eT4] at hP hD
        refine lv_aload_n hx hb dX1_detach_82 rfl (lv_at hl 0 rfl) ?_
        refine va_get (D := D) (ci := 1) (v := .ref (ad 2)) (C := RX1) (T := TX1) (N := 14) hx hb hts inlX1 hown hK hP 0 rfl rfl 2 (by decide) (hts _ zw_2_7) (fun _ h9 => h9) rfl dX1_detach_83 ?_
        refine lv_iload_n hx hb dX1_detach_86 rfl (lv_at hl 1 rfl) ?_
        refine lv_iconst (v := (-1)) hx hb dX1_detach_87 (by decide) ?_
        obtain ⟨g5, hz6, hM⟩ := zx_b1E hM
        refine va_callv (va_runSN (As := [.ref (ad 2), .int v1, .int (-1)]) (rest := []) ⟨hx, hb, hml, hown, hts⟩ (c_X2_put l D cI cZ cT (ad 2) 49 (T4 2) _ N v1 (-1) hz6) ⟨va_cnB 3 hts (zg_c zw_3_0) rfl rfl rfl (hN _ (zx_nw_X1_45)) (hts _ zw_1_2) zyX2_put ⟨Nat.le_of_ble_eq_true rfl, Nat.le_of_ble_eq_true rfl⟩, (hts _ zw_2_23), trivial⟩ ⟨bS_blind, bS_pre (zx_P1 hP 3 (rfl)) hK (zx_D1 hD 3 (rfl)) hN⟩ rfl rfl hl.1 rfl (lv_room (Nat.le_of_ble_eq_true rfl)) dX1_detach_88 ⟨Nat.zero_le _, Nat.zero_le _⟩) hS (fun q _ h => zx_f1 hD hS hA (k := 3) rfl q h) (fun q h => zx_f1 hD hS hA (k := 3) rfl q h) (fun u t H1 lc ht hvm hw hB hz1 hk1 hS => ?_)
        replace hw : g5 = u := hw; subst hw
        rw [ht] at hB
        replace hP := zx_set1 (k := 3) hP hD rfl hk1 hB
        replace hD := va_D.set (p := 3) (e := .inl (cI, 49, .inl g5)) hD rfl
        rw [xW1_pa2] at hP hD
        obtain ⟨T7, eT7, hM⟩ := zx_nE hM
        rw [← eT7] at hP hD
        rw [hQ]
        exact W.vret hx hb hr (fun t ht hW => ⟨⟨T7, rfl, (Option.some.inj hM).symm, by show va_P D vwCl _ t.heap; rw [ht]; exact hP⟩, hS.F ht⟩) hS.2.2 dX1_detach_91
      · replace hM := zx_f q1 hM
        refine lv_aload_n hx hb dX1_detach_39 rfl (lv_at hl 0 rfl) ?_
        refine va_get (D := D) (ci := 1) (v := .ref (ad 4)) (C := RX1) (T := TX1) (N := 14) hx hb hts inlX1 hown hK hP 0 rfl rfl 4 (by decide) (hts _ zw_2_9) (fun _ h9 => h9) rfl dX1_detach_40 ?_
        refine lv_iload hx hb dX1_detach_43 (lv_at hl 4 rfl) ?_
        refine lv_iload hx hb dX1_detach_45 (lv_at hl 5 rfl) ?_
        refine lv_iadd hx hb dX1_detach_47 ?_
        refine lv_aload_n hx hb dX1_detach_48 rfl (lv_at hl 0 rfl) ?_
        refine va_get (D := D) (ci := 1) (v := .ref (ad 4)) (C := RX1) (T := TX1) (N := 14) hx hb hts inlX1 hown hK hP 0 rfl rfl 4 (by decide) (hts _ zw_2_9) (fun _ h9 => h9) rfl dX1_detach_49 ?_
        refine lv_iload hx hb dX1_detach_52 (lv_at hl 4 rfl) ?_
        refine lv_iload hx hb dX1_detach_54 (lv_at hl 5 rfl) ?_
        refine lv_iadd hx hb dX1_detach_56 ?_
        refine lv_iconst (v := 1) hx hb dX1_detach_57 (by decide) ?_
        refine lv_iadd hx hb dX1_detach_58 ?_
        obtain ⟨x8, hz9, hM⟩ := zx_b1E hM
        refine va_calli (va_runSN (As := [.ref (ad 4), .int ((v4 + v5) + 1)]) (rest := [.int (v4 + v5), .ref (ad 4)]) ⟨hx, hb, hml, hown, hts⟩ (c_X2_get l D cI cZ cT (ad 4) 245 (S_ 4) _ N ((v4 + v5) + 1) hz9) ⟨va_cnB 2 hts (zg_c zw_3_6) rfl rfl rfl (hN _ (zx_nw_X1_70)) (hts _ zw_1_2) zyX2_get ⟨Nat.le_of_ble_eq_true rfl, Nat.le_of_ble_eq_true rfl⟩, (hts _ zw_3_5), trivial⟩ ⟨bS_blind, bS_pre (zx_P1 hP 5 (rfl)) hK (zx_D1 hD 5 (rfl)) hN⟩ rfl rfl hl.1 rfl (lv_room (Nat.le_of_ble_eq_true rfl)) dX1_detach_59 ⟨Nat.zero_le _, Nat.zero_le _⟩) hS (fun q h1 h2 => absurd h1 (Nat.not_lt.mpr h2)) (fun q h => hA q (Nat.le_trans hS.1 h)) (fun r u t H1 lc ht hvm hw hB hz1 hk1 hS => ?_)
        replace hw : x8 = r := hw; subst hw
        replace hP := zx_keep hP hk1
        obtain ⟨g10, hz11, hM⟩ := zx_b1E hM
        refine va_callv (va_runSN (As := [.ref (ad 4), .int (v4 + v5), .int x8]) (rest := []) ⟨hx, hb, hml, hown, hts⟩ (c_X2_put l D cI cZ cT (ad 4) 245 (S_ 4) _ N (v4 + v5) x8 hz11) ⟨va_cnB 3 hts (zg_c zw_3_0) rfl rfl rfl (hN _ (zx_nw_X1_45)) (hts _ zw_1_2) zyX2_put ⟨Nat.le_of_ble_eq_true rfl, Nat.le_of_ble_eq_true rfl⟩, (hts _ zw_2_23), trivial⟩ ⟨bS_blind, bS_pre (zx_P1 hP 5 (rfl)) hK (zx_D1 hD 5 (rfl)) hN⟩ rfl rfl hl.1 rfl (lv_room (Nat.le_of_ble_eq_true rfl)) dX1_detach_62 ⟨Nat.zero_le _, Nat.zero_le _⟩) hS (fun q _ h => zx_f1 hD hS hA (k := 5) rfl q h) (fun q h => zx_f1 hD hS hA (k := 5) rfl q h) (fun u t H1 lc ht hvm hw hB hz1 hk1 hS => ?_)
        replace hw : g10 = u := hw; subst hw
        rw [ht] at hB
        replace hP := zx_set1 (k := 5) hP hD rfl hk1 hB
        replace hD := va_D.set (p := 5) (e := .inl (cI, 245, .inl g10)) hD rfl
        rw [xW1_pa4] at hP hD
        obtain ⟨T12, eT12, hM⟩ := zx_nE hM
        rw [← eT12] at hP hD
        obtain ⟨x13, ex13, hM⟩ := zx_nE hM
        refine lv_iinc (v := x13) (lv' := [(5, .int x13), (0, .ref h), (1, .int v1), (2, .int v2), (3, .int v3), (4, .int v4)]) hx hb dX1_detach_65 hl (k := 5) rfl (by rw [ex13]; rfl) (by decide) rfl (fun ls hl => ?_)
        refine lv_goto (tgt := 31) hx hb dX1_detach_68 (by decide) ?_
        exact ih31 v1 v2 v3 v4 x13 T12 _ _ _ hP hD hS (lv_sub hl [1, 2, 3, 4, 5, 0] rfl) hM
  refine lv_aload_n hx hb dX1_detach_0 rfl (lv_at hl 0 rfl) ?_
  refine va_get (D := D) (ci := 1) (v := .ref (ad 2)) (C := RX1) (T := TX1) (N := 14) hx hb hts inlX1 hown hK hP 0 rfl rfl 2 (by decide) (hts _ zw_2_7) (fun _ h9 => h9) rfl dX1_detach_1 ?_
  refine lv_iload_n hx hb dX1_detach_4 rfl (lv_at hl 1 rfl) ?_
  obtain ⟨x14, hz15, hM⟩ := zx_b1E hM
  refine va_calli (va_runSN (As := [.ref (ad 2), .int p1]) (rest := []) ⟨hx, hb, hml, hown, hts⟩ (c_X2_get l D cI cZ cT (ad 2) 49 (S 2) _ N p1 hz15) ⟨va_cnB 2 hts (zg_c zw_3_6) rfl rfl rfl (hN _ (zx_nw_X1_70)) (hts _ zw_1_2) zyX2_get ⟨Nat.le_of_ble_eq_true rfl, Nat.le_of_ble_eq_true rfl⟩, (hts _ zw_3_5), trivial⟩ ⟨bS_blind, bS_pre (zx_P1 hP 3 (rfl)) hK (zx_D1 hD 3 (rfl)) hN⟩ rfl rfl hl.1 rfl (lv_room (Nat.le_of_ble_eq_true rfl)) dX1_detach_5 ⟨Nat.zero_le _, Nat.zero_le _⟩) hS (fun q h1 h2 => absurd h1 (Nat.not_lt.mpr h2)) (fun q h => hA q (Nat.le_trans hS.1 h)) (fun r u t H1 lc ht hvm hw hB hz1 hk1 hS => ?_)
  replace hw : x14 = r := hw; subst hw
  replace hP := zx_keep hP hk1
  refine lv_istore_n (lv' := [(2, .int x14), (0, .ref h), (1, .int p1)]) hx hb dX1_detach_8 rfl hl (by decide) rfl (fun ls hl => ?_)
  refine lv_aload_n hx hb dX1_detach_9 rfl (lv_at hl 1 rfl) ?_
  refine va_get (D := D) (ci := 1) (v := .ref (ad 3)) (C := RX1) (T := TX1) (N := 14) hx hb hts inlX1 hown hK hP 0 rfl rfl 3 (by decide) (hts _ zw_2_8) (fun _ h9 => h9) rfl dX1_detach_10 ?_
  refine lv_iload_n hx hb dX1_detach_13 rfl (lv_at hl 0 rfl) ?_
  obtain ⟨x16, hz17, hM⟩ := zx_b1E hM
  refine va_calli (va_runSN (As := [.ref (ad 3), .int x14]) (rest := []) ⟨hx, hb, hml, hown, hts⟩ (c_X2_get l D cI cZ cT (ad 3) 49 (S 3) _ N x14 hz17) ⟨va_cnB 2 hts (zg_c zw_3_6) rfl rfl rfl (hN _ (zx_nw_X1_70)) (hts _ zw_1_2) zyX2_get ⟨Nat.le_of_ble_eq_true rfl, Nat.le_of_ble_eq_true rfl⟩, (hts _ zw_3_5), trivial⟩ ⟨bS_blind, bS_pre (zx_P1 hP 4 (rfl)) hK (zx_D1 hD 4 (rfl)) hN⟩ rfl rfl hl.1 rfl (lv_room (Nat.le_of_ble_eq_true rfl)) dX1_detach_14 ⟨Nat.zero_le _, Nat.zero_le _⟩) hS (fun q h1 h2 => absurd h1 (Nat.not_lt.mpr h2)) (fun q h => hA q (Nat.le_trans hS.1 h)) (fun r u t H1 lc ht hvm hw hB hz1 hk1 hS => ?_)
  replace hw : x16 = r := hw; subst hw
  replace hP := zx_keep hP hk1
  refine lv_istore_n (lv' := [(3, .int x16), (2, .int x14), (0, .ref h), (1, .int p1)]) hx hb dX1_detach_17 rfl hl (by decide) rfl (fun ls hl => ?_)
  refine lv_iload_n hx hb dX1_detach_18 rfl (lv_at hl 1 rfl) ?_
  refine lv_iconst (v := 5) hx hb dX1_detach_19 (by decide) ?_
  refine lv_imul hx hb dX1_detach_20 ?_
  obtain ⟨x18, ex18, hM⟩ := zx_nE hM
  refine zx_top ex18 ?_
  refine lv_istore (lv' := [(4, .int x18), (3, .int x16), (2, .int x14), (0, .ref h), (1, .int p1)]) hx hb dX1_detach_21 hl (by decide) rfl (fun ls hl => ?_)
  refine lv_aload_n hx hb dX1_detach_23 rfl (lv_at hl 3 rfl) ?_
  refine lv_iload_n hx hb dX1_detach_24 rfl (lv_at hl 2 rfl) ?_
  refine lv_iload_n hx hb dX1_detach_25 rfl (lv_at hl 4 rfl) ?_
  obtain ⟨x19, hz20, hM⟩ := zx_b1E hM
  refine va_calli (va_runV (As := [.int x14, .int p1]) (rest := []) ⟨hx, hb, hml, hown, hts⟩ (c_X1_placeOf l D cI cZ cT h ad S _ N x14 p1  hz20) (cwV 2 hts (zg_V zw_13_8 zw_13_9 zw_13_10 zw_1_14 zw_13_11) rfl rfl rfl ⟨rfl, zyX1_placeOf⟩ ⟨Nat.le_of_ble_eq_true rfl, Nat.le_of_ble_eq_true rfl⟩) ⟨bS_blind, va_recv hK hP (ci := 1) (q0 := 0) rfl rfl, bS_pre hP hK hD hN⟩ rfl rfl hl.1 rfl (lv_room (Nat.le_of_ble_eq_true rfl)) dX1_detach_26 ⟨Nat.zero_le _, Nat.zero_le _⟩) hS (fun q h1 h2 => absurd h1 (Nat.not_lt.mpr h2)) (fun q h => hA q (Nat.le_trans hS.1 h)) (fun r u t H1 lc ht hvm hw hB hz1 hk1 hS => ?_)
  replace hw : x19 = r := hw; subst hw
  replace hP := zx_keep hP hk1
  refine lv_istore (lv' := [(5, .int x19), (4, .int x18), (3, .int x16), (2, .int x14), (0, .ref h), (1, .int p1)]) hx hb dX1_detach_29 hl (by decide) rfl (fun ls hl => ?_)
  exact l31 N p1 x14 x16 x18 x19 S _ _ _ hP hD hS (lv_sub hl [4, 5, 3, 2, 1, 0] rfl) hM

/-! ShallowBoxes$Tree.countNodes()I -/
def f_X1_countNodes_j115 (N : Nat) (k18 : Int32 → Int32 → Int32 → zx_S → Option (Int32 × zx_S)) (v1 : Int32) (v2 : Int32) (v3 : Int32) (S_ : zx_S) : Option (Int32 × zx_S) :=
  (zx_n (v3 + 1) (fun x3 =>
k18 v1 v2 x3 S_))
def f_X1_countNodes_l79 (N : Nat) (k18 : Int32 → Int32 → Int32 → zx_S → Option (Int32 × zx_S)) : Nat → Int32 → Int32 → Int32 → Int32 → Int32 → zx_S → Option (Int32 × zx_S)
  | 0, _, _, _, _, _, _ => none
  | n79 + 1, v1, v2, v3, v4, v5, S_ => (if v5 < 0 then
  f_X1_countNodes_j115 N k18 v1 v2 v3 S_ else
  (zx_b1 (f_X2_get N 245 ((v4 * 5) + v5) (S_ 4)) (fun x15 =>
(zx_b1 (f_X2_put N 24 v2 x15 (S_ 9)) (fun g17 =>
(zx_n (zx_st S_ 9 g17) (fun T19 =>
(zx_n (v2 + 1) (fun x20 =>
(zx_n (v5 + (-1)) (fun x21 =>
f_X1_countNodes_l79 N k18  n79 v1 x20 v3 v4 x21 T19)))))))))))
def f_X1_countNodes_l18 (N : Nat) : Nat → Int32 → Int32 → Int32 → zx_S → Option (Int32 × zx_S)
  | 0, _, _, _, _ => none
  | n18 + 1, v1, v2, v3, S_ => (if 24 ≤ v3 then
  some (v1, S_) else
  (if v2 ≤ 0 then
  some (v1, S_) else
  (zx_n (v2 + (-1)) (fun x4 =>
(zx_b1 (f_X2_get N 24 x4 (S_ 9)) (fun x5 =>
(zx_b1 (f_X2_put N 24 v1 x5 (S_ 8)) (fun g7 =>
(zx_n (zx_st S_ 8 g7) (fun T9 =>
(zx_n (v1 + 1) (fun x10 =>
(zx_b1 (f_X2_get N 49 x5 (T9 1)) (fun x11 =>
(if x11 ≤ 0 then
  f_X1_countNodes_j115 N (f_X1_countNodes_l18 N  n18) x10 x4 v3 T9 else
  (zx_b1 (f_X2_get N 49 x5 (T9 3)) (fun x22 =>
(zx_n (x22 - 1) (fun x24 =>
f_X1_countNodes_l79 N (f_X1_countNodes_l18 N  n18) N x10 x4 v3 x5 x24 T9)))))))))))))))))))
def f_X1_countNodes (N : Nat) (S : zx_S) : Option (Int32 × zx_S) :=
  (zx_b1 (f_X2_put N 24 0 (S 10 0) (S 9)) (fun g25 =>
(zx_n (zx_st S 9 g25) (fun T27 =>
f_X1_countNodes_l18 N  N 0 1 0 T27))))
abbrev rmX1_countNodes : Room := { frames := 1, cells := 0, slots := 0, locals := 22 }
abbrev zsX1_countNodes : List Cond := .code yX1_countNodes cX1_countNodes 6 (some .int) :: wsL_law
theorem zyX1_countNodes : yX1_countNodes.cls ≠ "java/lang/invoke/MethodHandle" ∧ yX1_countNodes.cls ≠ "java/lang/invoke/VarHandle" ∧ (parseMethodDescriptor yX1_countNodes.desc).map (fun d => d.parameters.length) = some 0 := by decide +kernel
set_option maxHeartbeats 4000000 in
set_option maxRecDepth 100000 in
theorem c_X1_countNodes (l : Launch) (D : va_G) (cI cZ cT : ClassId) (h : Nat) (ad : Nat → Nat) (S : zx_S) (sz : Nat) (N : Nat) {R : Int32 × zx_S} (hM : f_X1_countNodes N S = some R) : Met l yX1_countNodes zsX1_countNodes rmX1_countNodes (va_Pc [.ref h] (bS D (zx_ty cI cZ cT) (xW1 cI h ad S) sz)) (va_Qi (fun r u => R = (r, u)) (fun u t => va_P D vwCl (xW1 cI h ad u) t.heap) (va_A (xW1 cI h ad S) sz)) 0 0 (va_A (xW1 cI h ad S) sz) := by
  refine Met.ofW (cc := cX1_countNodes) (maxL := 6) (ret := (some .int)) (by decide) rfl ?_
  intro p e s m args below meth c s₁ B hml hv
  obtain ⟨rfl, hsz, hP, hK, hD0, hN⟩ := hv
  have hx := B.exec
  have hb := B.bytes
  have hr := B.returns
  have hts : ∀ w ∈ wsL_law, w.before _ s = true := fun w hw => atoms_spec (ws := zsX1_countNodes) B.pre w (List.mem_cons_of_mem _ hw)
  have hown : s.vm.findClass RX1 = some m.cls := findClass_of_methodNamed B.named
  have hlocks := B.notSynchronized
  subst hsz
  have hD := hD0.self (sz := s.heap.size)
  generalize hAe : va_A (xW1 cI h ad S) s.heap.size = A at hD ⊢
  have hA : ∀ q : Nat, s.heap.size ≤ q → A q := fun q h => by rw [← hAe]; exact Or.inr h
  have hS : va_S A s.heap s.heap [] := va_S.rf
  have hl := lv_entry ([.ref h]) (n := 6) (Nat.le_of_ble_eq_true rfl)
  rw [lg_entry_eq]
  generalize (lg_sl ([.ref h]) ++ List.replicate (6 - (lg_sl ([.ref h])).length) Slot.unset).toArray = ls at hl ⊢
  have hl : lv_has ls 6 [(0, .ref h)] := hl
  generalize hQ : MQ below (va_Qi (fun r u => R = (r, u)) (fun u t => va_P D vwCl (xW1 cI h ad u) t.heap) A) ([.ref h] : List Value).toArray s 0 0 A = Q9
  replace hQ := hQ.symm
  unfold f_X1_countNodes at hM
  have l18 : ∀ (n18 : Nat) (v1 : Int32) (v2 : Int32) (v3 : Int32) (S_ : zx_S) (H : Heap) (lc : List Loc) (ls : Array Slot), va_P D vwCl (xW1 cI h ad S_) H → va_D A (xW1 cI h ad S_) → va_S A s.heap H lc → lv_has ls 6 [(0, .ref h), (1, .int v1), (2, .int v2), (3, .int v3)] → f_X1_countNodes_l18 N n18 v1 v2 v3 S_ = some R → W p l e (headSpec zsX1_countNodes rmX1_countNodes).room s m ([.ref h] : List Value).toArray below meth c H lc 0 0 Q9 (F0 m 18 ls []) := by
    intro n18
    induction n18 with
    | zero =>
      intro v1 v2 v3 S_ H lc ls hP hD hS hl hM
      rw [f_X1_countNodes_l18] at hM; exact absurd hM (by intro h; cases h)
    | succ n18 ih18 =>
      intro v1 v2 v3 S_ H lc ls hP hD hS hl hM
      rw [f_X1_countNodes_l18] at hM
      refine lv_iload_n hx hb dX1_countNodes_18 rfl (lv_at hl 3 rfl) ?_
      refine lv_bipush (v := 24) hx hb dX1_countNodes_19 (by decide) ?_
      refine lv_icmp_ge (tgt := 121) hx hb dX1_countNodes_21 (by decide) (fun q1 => ?_) (fun q1 => ?_)
      · replace hM := zx_t q1 hM
        refine lv_iload_n hx hb dX1_countNodes_121 rfl (lv_at hl 1 rfl) ?_
        rw [hQ]
        exact W.iret hx hb hr (fun t ht hW => ⟨⟨v1, S_, rfl, (Option.some.inj hM).symm, by show va_P D vwCl _ t.heap; rw [ht]; exact hP⟩, hS.F ht⟩) hS.2.2 dX1_countNodes_122
      · replace hM := zx_f q1 hM
        refine lv_iload_n hx hb dX1_countNodes_24 rfl (lv_at hl 2 rfl) ?_
        refine lv_if_le (tgt := 121) hx hb dX1_countNodes_25 (by decide) (fun q2 => ?_) (fun q2 => ?_)
        · replace hM := zx_t q2 hM
          refine lv_iload_n hx hb dX1_countNodes_121 rfl (lv_at hl 1 rfl) ?_
          rw [hQ]
          exact W.iret hx hb hr (fun t ht hW => ⟨⟨v1, S_, rfl, (Option.some.inj hM).symm, by show va_P D vwCl _ t.heap; rw [ht]; exact hP⟩, hS.F ht⟩) hS.2.2 dX1_countNodes_122
        · replace hM := zx_f q2 hM
          have j115 : ∀ (v1 : Int32) (v2 : Int32) (v3 : Int32) (S_ : zx_S) (H : Heap) (lc : List Loc) (ls : Array Slot), va_P D vwCl (xW1 cI h ad S_) H → va_D A (xW1 cI h ad S_) → va_S A s.heap H lc → lv_has ls 6 [(0, .ref h), (1, .int v1), (2, .int v2), (3, .int v3)] → f_X1_countNodes_j115 N (f_X1_countNodes_l18 N  n18) v1 v2 v3 S_ = some R → W p l e (headSpec zsX1_countNodes rmX1_countNodes).room s m ([.ref h] : List Value).toArray below meth c H lc 0 0 Q9 (F0 m 115 ls []) := by
            intro v1 v2 v3 S_ H lc ls hP hD hS hl hM
            unfold f_X1_countNodes_j115 at hM
            obtain ⟨x3, ex3, hM⟩ := zx_nE hM
            refine lv_iinc (v := x3) (lv' := [(3, .int x3), (0, .ref h), (1, .int v1), (2, .int v2)]) hx hb dX1_countNodes_115 hl (k := 3) rfl (by rw [ex3]; rfl) (by decide) rfl (fun ls hl => ?_)
            refine lv_goto (tgt := 18) hx hb dX1_countNodes_118 (by decide) ?_
            exact ih18 v1 v2 x3 S_ _ _ _ hP hD hS (lv_sub hl [1, 2, 3, 0] rfl) hM
          obtain ⟨x4, ex4, hM⟩ := zx_nE hM
          refine lv_iinc (v := x4) (lv' := [(2, .int x4), (0, .ref h), (1, .int v1), (3, .int v3)]) hx hb dX1_countNodes_28 hl (k := 2) rfl (by rw [ex4]; rfl) (by decide) rfl (fun ls hl => ?_)
          refine lv_aload_n hx hb dX1_countNodes_31 rfl (lv_at hl 1 rfl) ?_
          refine va_get (D := D) (ci := 1) (v := .ref (ad 9)) (C := RX1) (T := TX1) (N := 14) hx hb hts inlX1 hown hK hP 0 rfl rfl 13 (by decide) (hts _ zw_2_14) (fun _ h9 => h9) rfl dX1_countNodes_32 ?_
          refine lv_iload_n hx hb dX1_countNodes_35 rfl (lv_at hl 0 rfl) ?_
          obtain ⟨x5, hz6, hM⟩ := zx_b1E hM
          refine va_calli (va_runSN (As := [.ref (ad 9), .int x4]) (rest := []) ⟨hx, hb, hml, hown, hts⟩ (c_X2_get l D cI cZ cT (ad 9) 24 (S_ 9) _ N x4 hz6) ⟨va_cnB 2 hts (zg_c zw_3_6) rfl rfl rfl (hN _ (zx_nw_X1_70)) (hts _ zw_1_2) zyX2_get ⟨Nat.le_of_ble_eq_true rfl, Nat.le_of_ble_eq_true rfl⟩, (hts _ zw_3_5), trivial⟩ ⟨bS_blind, bS_pre (zx_P1 hP 10 (rfl)) hK (zx_D1 hD 10 (rfl)) hN⟩ rfl rfl hl.1 rfl (lv_room (Nat.le_of_ble_eq_true rfl)) dX1_countNodes_36 ⟨Nat.zero_le _, Nat.zero_le _⟩) hS (fun q h1 h2 => absurd h1 (Nat.not_lt.mpr h2)) (fun q h => hA q (Nat.le_trans hS.1 h)) (fun r u t H1 lc ht hvm hw hB hz1 hk1 hS => ?_)
          replace hw : x5 = r := hw; subst hw
          replace hP := zx_keep hP hk1
          refine lv_istore (lv' := [(4, .int x5), (2, .int x4), (0, .ref h), (1, .int v1), (3, .int v3)]) hx hb dX1_countNodes_39 hl (by decide) rfl (fun ls hl => ?_)
          refine lv_aload_n hx hb dX1_countNodes_41 rfl (lv_at hl 2 rfl) ?_
          refine va_get (D := D) (ci := 1) (v := .ref (ad 8)) (C := RX1) (T := TX1) (N := 14) hx hb hts inlX1 hown hK hP 0 rfl rfl 12 (by decide) (hts _ zw_2_13) (fun _ h9 => h9) rfl dX1_countNodes_42 ?_
          refine lv_iload_n hx hb dX1_countNodes_45 rfl (lv_at hl 3 rfl) ?_
          refine lv_iload hx hb dX1_countNodes_46 (lv_at hl 0 rfl) ?_
          obtain ⟨g7, hz8, hM⟩ := zx_b1E hM
          refine va_callv (va_runSN (As := [.ref (ad 8), .int v1, .int x5]) (rest := []) ⟨hx, hb, hml, hown, hts⟩ (c_X2_put l D cI cZ cT (ad 8) 24 (S_ 8) _ N v1 x5 hz8) ⟨va_cnB 3 hts (zg_c zw_3_0) rfl rfl rfl (hN _ (zx_nw_X1_45)) (hts _ zw_1_2) zyX2_put ⟨Nat.le_of_ble_eq_true rfl, Nat.le_of_ble_eq_true rfl⟩, (hts _ zw_2_23), trivial⟩ ⟨bS_blind, bS_pre (zx_P1 hP 9 (rfl)) hK (zx_D1 hD 9 (rfl)) hN⟩ rfl rfl hl.1 rfl (lv_room (Nat.le_of_ble_eq_true rfl)) dX1_countNodes_48 ⟨Nat.zero_le _, Nat.zero_le _⟩) hS (fun q _ h => zx_f1 hD hS hA (k := 9) rfl q h) (fun q h => zx_f1 hD hS hA (k := 9) rfl q h) (fun u t H1 lc ht hvm hw hB hz1 hk1 hS => ?_)
          replace hw : g7 = u := hw; subst hw
          rw [ht] at hB
          replace hP := zx_set1 (k := 9) hP hD rfl hk1 hB
          replace hD := va_D.set (p := 9) (e := .inl (cI, 24, .inl g7)) hD rfl
          rw [xW1_pa8] at hP hD
          obtain ⟨T9, eT9, hM⟩ := zx_nE hM
          rw [← eT9] at hP hD
          obtain ⟨x10, ex10, hM⟩ := zx_nE hM
          refine lv_iinc (v := x10) (lv' := [(1, .int x10), (4, .int x5), (2, .int x4), (0, .ref h), (3, .int v3)]) hx hb dX1_countNodes_51 hl (k := 3) rfl (by rw [ex10]; rfl) (by decide) rfl (fun ls hl => ?_)
          refine lv_aload_n hx hb dX1_countNodes_54 rfl (lv_at hl 3 rfl) ?_
          refine va_get (D := D) (ci := 1) (v := .ref (ad 1)) (C := RX1) (T := TX1) (N := 14) hx hb hts inlX1 hown hK hP 0 rfl rfl 1 (by decide) (hts _ zw_2_6) (fun _ h9 => h9) rfl dX1_countNodes_55 ?_
          refine lv_iload hx hb dX1_countNodes_58 (lv_at hl 1 rfl) ?_
          obtain ⟨x11, hz12, hM⟩ := zx_b1E hM
          refine va_calli (va_runSN (As := [.ref (ad 1), .int x5]) (rest := []) ⟨hx, hb, hml, hown, hts⟩ (c_X2_get l D cI cZ cT (ad 1) 49 (T9 1) _ N x5 hz12) ⟨va_cnB 2 hts (zg_c zw_3_6) rfl rfl rfl (hN _ (zx_nw_X1_70)) (hts _ zw_1_2) zyX2_get ⟨Nat.le_of_ble_eq_true rfl, Nat.le_of_ble_eq_true rfl⟩, (hts _ zw_3_5), trivial⟩ ⟨bS_blind, bS_pre (zx_P1 hP 2 (rfl)) hK (zx_D1 hD 2 (rfl)) hN⟩ rfl rfl hl.1 rfl (lv_room (Nat.le_of_ble_eq_true rfl)) dX1_countNodes_60 ⟨Nat.zero_le _, Nat.zero_le _⟩) hS (fun q h1 h2 => absurd h1 (Nat.not_lt.mpr h2)) (fun q h => hA q (Nat.le_trans hS.1 h)) (fun r u t H1 lc ht hvm hw hB hz1 hk1 hS => ?_)
          replace hw : x11 = r := hw; subst hw
          replace hP := zx_keep hP hk1
          refine lv_if_le (tgt := 115) hx hb dX1_countNodes_63 (by decide) (fun q13 => ?_) (fun q13 => ?_)
          · replace hM := zx_t q13 hM
            exact j115 x10 x4 v3 T9 _ _ _ hP hD hS (lv_sub hl [3, 0, 2, 4] rfl) hM
          · replace hM := zx_f q13 hM
            have l79 : ∀ (n79 : Nat) (v1 : Int32) (v2 : Int32) (v3 : Int32) (v4 : Int32) (v5 : Int32) (S_ : zx_S) (H : Heap) (lc : List Loc) (ls : Array Slot), va_P D vwCl (xW1 cI h ad S_) H → va_D A (xW1 cI h ad S_) → va_S A s.heap H lc → lv_has ls 6 [(0, .ref h), (1, .int v1), (2, .int v2), (3, .int v3), (4, .int v4), (5, .int v5)] → f_X1_countNodes_l79 N (f_X1_countNodes_l18 N  n18) n79 v1 v2 v3 v4 v5 S_ = some R → W p l e (headSpec zsX1_countNodes rmX1_countNodes).room s m ([.ref h] : List Value).toArray below meth c H lc 0 0 Q9 (F0 m 79 ls []) := by
              intro n79
              induction n79 with
              | zero =>
                intro v1 v2 v3 v4 v5 S_ H lc ls hP hD hS hl hM
                rw [f_X1_countNodes_l79] at hM; exact absurd hM (by intro h; cases h)
              | succ n79 ih79 =>
                intro v1 v2 v3 v4 v5 S_ H lc ls hP hD hS hl hM
                rw [f_X1_countNodes_l79] at hM
                refine lv_iload hx hb dX1_countNodes_79 (lv_at hl 5 rfl) ?_
                refine lv_if_lt (tgt := 115) hx hb dX1_countNodes_81 (by decide) (fun q14 => ?_) (fun q14 => ?_)
                · replace hM := zx_t q14 hM
                  exact j115 v1 v2 v3 S_ _ _ _ hP hD hS (lv_sub hl [0, 1, 2, 3] rfl) hM
                · replace hM := zx_f q14 hM
                  refine lv_aload_n hx hb dX1_countNodes_84 rfl (lv_at hl 0 rfl) ?_
                  refine va_get (D := D) (ci := 1) (v := .ref (ad 9)) (C := RX1) (T := TX1) (N := 14) hx hb hts inlX1 hown hK hP 0 rfl rfl 13 (by decide) (hts _ zw_2_14) (fun _ h9 => h9) rfl dX1_countNodes_85 ?_
                  refine lv_iload_n hx hb dX1_countNodes_88 rfl (lv_at hl 2 rfl) ?_
                  refine lv_aload_n hx hb dX1_countNodes_89 rfl (lv_at hl 0 rfl) ?_
                  refine va_get (D := D) (ci := 1) (v := .ref (ad 4)) (C := RX1) (T := TX1) (N := 14) hx hb hts inlX1 hown hK hP 0 rfl rfl 4 (by decide) (hts _ zw_2_9) (fun _ h9 => h9) rfl dX1_countNodes_90 ?_
                  refine lv_iload hx hb dX1_countNodes_93 (lv_at hl 4 rfl) ?_
                  refine lv_iconst (v := 5) hx hb dX1_countNodes_95 (by decide) ?_
                  refine lv_imul hx hb dX1_countNodes_96 ?_
                  refine lv_iload hx hb dX1_countNodes_97 (lv_at hl 5 rfl) ?_
                  refine lv_iadd hx hb dX1_countNodes_99 ?_
                  obtain ⟨x15, hz16, hM⟩ := zx_b1E hM
                  refine va_calli (va_runSN (As := [.ref (ad 4), .int ((v4 * 5) + v5)]) (rest := [.int v2, .ref (ad 9)]) ⟨hx, hb, hml, hown, hts⟩ (c_X2_get l D cI cZ cT (ad 4) 245 (S_ 4) _ N ((v4 * 5) + v5) hz16) ⟨va_cnB 2 hts (zg_c zw_3_6) rfl rfl rfl (hN _ (zx_nw_X1_70)) (hts _ zw_1_2) zyX2_get ⟨Nat.le_of_ble_eq_true rfl, Nat.le_of_ble_eq_true rfl⟩, (hts _ zw_3_5), trivial⟩ ⟨bS_blind, bS_pre (zx_P1 hP 5 (rfl)) hK (zx_D1 hD 5 (rfl)) hN⟩ rfl rfl hl.1 rfl (lv_room (Nat.le_of_ble_eq_true rfl)) dX1_countNodes_100 ⟨Nat.zero_le _, Nat.zero_le _⟩) hS (fun q h1 h2 => absurd h1 (Nat.not_lt.mpr h2)) (fun q h => hA q (Nat.le_trans hS.1 h)) (fun r u t H1 lc ht hvm hw hB hz1 hk1 hS => ?_)
                  replace hw : x15 = r := hw; subst hw
                  replace hP := zx_keep hP hk1
                  obtain ⟨g17, hz18, hM⟩ := zx_b1E hM
                  refine va_callv (va_runSN (As := [.ref (ad 9), .int v2, .int x15]) (rest := []) ⟨hx, hb, hml, hown, hts⟩ (c_X2_put l D cI cZ cT (ad 9) 24 (S_ 9) _ N v2 x15 hz18) ⟨va_cnB 3 hts (zg_c zw_3_0) rfl rfl rfl (hN _ (zx_nw_X1_45)) (hts _ zw_1_2) zyX2_put ⟨Nat.le_of_ble_eq_true rfl, Nat.le_of_ble_eq_true rfl⟩, (hts _ zw_2_23), trivial⟩ ⟨bS_blind, bS_pre (zx_P1 hP 10 (rfl)) hK (zx_D1 hD 10 (rfl)) hN⟩ rfl rfl hl.1 rfl (lv_room (Nat.le_of_ble_eq_true rfl)) dX1_countNodes_103 ⟨Nat.zero_le _, Nat.zero_le _⟩) hS (fun q _ h => zx_f1 hD hS hA (k := 10) rfl q h) (fun q h => zx_f1 hD hS hA (k := 10) rfl q h) (fun u t H1 lc ht hvm hw hB hz1 hk1 hS => ?_)
                  replace hw : g17 = u := hw; subst hw
                  rw [ht] at hB
                  replace hP := zx_set1 (k := 10) hP hD rfl hk1 hB
                  replace hD := va_D.set (p := 10) (e := .inl (cI, 24, .inl g17)) hD rfl
                  rw [xW1_pa9] at hP hD
                  obtain ⟨T19, eT19, hM⟩ := zx_nE hM
                  rw [← eT19] at hP hD
                  obtain ⟨x20, ex20, hM⟩ := zx_nE hM
                  refine lv_iinc (v := x20) (lv' := [(2, .int x20), (0, .ref h), (1, .int v1), (3, .int v3), (4, .int v4), (5, .int v5)]) hx hb dX1_countNodes_106 hl (k := 2) rfl (by rw [ex20]; rfl) (by decide) rfl (fun ls hl => ?_)
                  obtain ⟨x21, ex21, hM⟩ := zx_nE hM
                  refine lv_iinc (v := x21) (lv' := [(5, .int x21), (2, .int x20), (0, .ref h), (1, .int v1), (3, .int v3), (4, .int v4)]) hx hb dX1_countNodes_109 hl (k := 5) rfl (by rw [ex21]; rfl) (by decide) rfl (fun ls hl => ?_)
                  refine lv_goto (tgt := 79) hx hb dX1_countNodes_112 (by decide) ?_
                  exact ih79 v1 x20 v3 v4 x21 T19 _ _ _ hP hD hS (lv_sub hl [2, 3, 1, 4, 5, 0] rfl) hM
            refine lv_aload_n hx hb dX1_countNodes_66 rfl (lv_at hl 3 rfl) ?_
            refine va_get (D := D) (ci := 1) (v := .ref (ad 3)) (C := RX1) (T := TX1) (N := 14) hx hb hts inlX1 hown hK hP 0 rfl rfl 3 (by decide) (hts _ zw_2_8) (fun _ h9 => h9) rfl dX1_countNodes_67 ?_
            refine lv_iload hx hb dX1_countNodes_70 (lv_at hl 1 rfl) ?_
            obtain ⟨x22, hz23, hM⟩ := zx_b1E hM
            refine va_calli (va_runSN (As := [.ref (ad 3), .int x5]) (rest := []) ⟨hx, hb, hml, hown, hts⟩ (c_X2_get l D cI cZ cT (ad 3) 49 (T9 3) _ N x5 hz23) ⟨va_cnB 2 hts (zg_c zw_3_6) rfl rfl rfl (hN _ (zx_nw_X1_70)) (hts _ zw_1_2) zyX2_get ⟨Nat.le_of_ble_eq_true rfl, Nat.le_of_ble_eq_true rfl⟩, (hts _ zw_3_5), trivial⟩ ⟨bS_blind, bS_pre (zx_P1 hP 4 (rfl)) hK (zx_D1 hD 4 (rfl)) hN⟩ rfl rfl hl.1 rfl (lv_room (Nat.le_of_ble_eq_true rfl)) dX1_countNodes_72 ⟨Nat.zero_le _, Nat.zero_le _⟩) hS (fun q h1 h2 => absurd h1 (Nat.not_lt.mpr h2)) (fun q h => hA q (Nat.le_trans hS.1 h)) (fun r u t H1 lc ht hvm hw hB hz1 hk1 hS => ?_)
            replace hw : x22 = r := hw; subst hw
            replace hP := zx_keep hP hk1
            refine lv_iconst (v := 1) hx hb dX1_countNodes_75 (by decide) ?_
            refine lv_isub hx hb dX1_countNodes_76 ?_
            obtain ⟨x24, ex24, hM⟩ := zx_nE hM
            refine zx_top ex24 ?_
            refine lv_istore (lv' := [(5, .int x24), (1, .int x10), (4, .int x5), (2, .int x4), (0, .ref h), (3, .int v3)]) hx hb dX1_countNodes_77 hl (by decide) rfl (fun ls hl => ?_)
            exact l79 N x10 x4 v3 x5 x24 T9 _ _ _ hP hD hS (lv_sub hl [4, 1, 3, 5, 2, 0] rfl) hM
  refine lv_iconst (v := 0) hx hb dX1_countNodes_0 (by decide) ?_
  refine lv_istore_n (lv' := [(1, .int 0), (0, .ref h)]) hx hb dX1_countNodes_1 rfl hl (by decide) rfl (fun ls hl => ?_)
  refine lv_iconst (v := 1) hx hb dX1_countNodes_2 (by decide) ?_
  refine lv_istore_n (lv' := [(2, .int 1), (1, .int 0), (0, .ref h)]) hx hb dX1_countNodes_3 rfl hl (by decide) rfl (fun ls hl => ?_)
  refine lv_aload_n hx hb dX1_countNodes_4 rfl (lv_at hl 2 rfl) ?_
  refine va_get (D := D) (ci := 1) (v := .ref (ad 9)) (C := RX1) (T := TX1) (N := 14) hx hb hts inlX1 hown hK hP 0 rfl rfl 13 (by decide) (hts _ zw_2_14) (fun _ h9 => h9) rfl dX1_countNodes_5 ?_
  refine lv_iconst (v := 0) hx hb dX1_countNodes_8 (by decide) ?_
  refine lv_aload_n hx hb dX1_countNodes_9 rfl (lv_at hl 2 rfl) ?_
  refine va_get (D := D) (ci := 1) (v := .int (S 10 0)) (C := RX1) (T := TX1) (N := 14) hx hb hts inlX1 hown hK hP 0 rfl rfl 5 (by decide) (hts _ zw_2_22) (fun _ h9 => h9) rfl dX1_countNodes_10 ?_
  obtain ⟨g25, hz26, hM⟩ := zx_b1E hM
  refine va_callv (va_runSN (As := [.ref (ad 9), .int 0, .int (S 10 0)]) (rest := []) ⟨hx, hb, hml, hown, hts⟩ (c_X2_put l D cI cZ cT (ad 9) 24 (S 9) _ N 0 (S 10 0) hz26) ⟨va_cnB 3 hts (zg_c zw_3_0) rfl rfl rfl (hN _ (zx_nw_X1_45)) (hts _ zw_1_2) zyX2_put ⟨Nat.le_of_ble_eq_true rfl, Nat.le_of_ble_eq_true rfl⟩, (hts _ zw_2_23), trivial⟩ ⟨bS_blind, bS_pre (zx_P1 hP 10 (rfl)) hK (zx_D1 hD 10 (rfl)) hN⟩ rfl rfl hl.1 rfl (lv_room (Nat.le_of_ble_eq_true rfl)) dX1_countNodes_13 ⟨Nat.zero_le _, Nat.zero_le _⟩) hS (fun q _ h => zx_f1 hD hS hA (k := 10) rfl q h) (fun q h => zx_f1 hD hS hA (k := 10) rfl q h) (fun u t H1 lc ht hvm hw hB hz1 hk1 hS => ?_)
  replace hw : g25 = u := hw; subst hw
  rw [ht] at hB
  replace hP := zx_set1 (k := 10) hP hD rfl hk1 hB
  replace hD := va_D.set (p := 10) (e := .inl (cI, 24, .inl g25)) hD rfl
  rw [xW1_pa9] at hP hD
  obtain ⟨T27, eT27, hM⟩ := zx_nE hM
  rw [← eT27] at hP hD
  refine lv_iconst (v := 0) hx hb dX1_countNodes_16 (by decide) ?_
  refine lv_istore_n (lv' := [(3, .int 0), (2, .int 1), (1, .int 0), (0, .ref h)]) hx hb dX1_countNodes_17 rfl hl (by decide) rfl (fun ls hl => ?_)
  exact l18 N 0 1 0 T27 _ _ _ hP hD hS (lv_sub hl [3, 2, 1, 0] rfl) hM

/-! ShallowBoxes$Tree.nodeNumbered(I)I -/
def f_X1_nodeNumbered (N : Nat) (p1 : Int32) (S : zx_S) : Option (Int32 × zx_S) :=
  (if p1 < 0 then
  some ((-1), S) else
  (zx_b2 (f_X1_countNodes N S) (fun x2 T3 =>
(if x2 ≤ p1 then
  some ((-1), T3) else
  (zx_b1 (f_X2_get N 24 p1 (T3 8)) (fun x6 =>
some (x6, T3)))))))
abbrev rmX1_nodeNumbered : Room := { frames := 2, cells := 0, slots := 0, locals := 47 }
abbrev zsX1_nodeNumbered : List Cond := .code yX1_nodeNumbered cX1_nodeNumbered 2 (some .int) :: wsL_law
theorem zyX1_nodeNumbered : yX1_nodeNumbered.cls ≠ "java/lang/invoke/MethodHandle" ∧ yX1_nodeNumbered.cls ≠ "java/lang/invoke/VarHandle" ∧ (parseMethodDescriptor yX1_nodeNumbered.desc).map (fun d => d.parameters.length) = some 1 := by decide +kernel
set_option maxHeartbeats 4000000 in
set_option maxRecDepth 100000 in
theorem c_X1_nodeNumbered (l : Launch) (D : va_G) (cI cZ cT : ClassId) (h : Nat) (ad : Nat → Nat) (S : zx_S) (sz : Nat) (N : Nat) (p1 : Int32) {R : Int32 × zx_S} (hM : f_X1_nodeNumbered N p1 S = some R) : Met l yX1_nodeNumbered zsX1_nodeNumbered rmX1_nodeNumbered (va_Pc [.ref h, .int p1] (bS D (zx_ty cI cZ cT) (xW1 cI h ad S) sz)) (va_Qi (fun r u => R = (r, u)) (fun u t => va_P D vwCl (xW1 cI h ad u) t.heap) (va_A (xW1 cI h ad S) sz)) 0 0 (va_A (xW1 cI h ad S) sz) := by
  refine Met.ofW (cc := cX1_nodeNumbered) (maxL := 2) (ret := (some .int)) (by decide) rfl ?_
  intro p e s m args below meth c s₁ B hml hv
  obtain ⟨rfl, hsz, hP, hK, hD0, hN⟩ := hv
  have hx := B.exec
  have hb := B.bytes
  have hr := B.returns
  have hts : ∀ w ∈ wsL_law, w.before _ s = true := fun w hw => atoms_spec (ws := zsX1_nodeNumbered) B.pre w (List.mem_cons_of_mem _ hw)
  have hown : s.vm.findClass RX1 = some m.cls := findClass_of_methodNamed B.named
  have hlocks := B.notSynchronized
  subst hsz
  have hD := hD0.self (sz := s.heap.size)
  generalize hAe : va_A (xW1 cI h ad S) s.heap.size = A at hD ⊢
  have hA : ∀ q : Nat, s.heap.size ≤ q → A q := fun q h => by rw [← hAe]; exact Or.inr h
  have hS : va_S A s.heap s.heap [] := va_S.rf
  have hl := lv_entry ([.ref h, .int p1]) (n := 2) (Nat.le_of_ble_eq_true rfl)
  rw [lg_entry_eq]
  generalize (lg_sl ([.ref h, .int p1]) ++ List.replicate (2 - (lg_sl ([.ref h, .int p1])).length) Slot.unset).toArray = ls at hl ⊢
  have hl : lv_has ls 2 [(0, .ref h), (1, .int p1)] := hl
  generalize hQ : MQ below (va_Qi (fun r u => R = (r, u)) (fun u t => va_P D vwCl (xW1 cI h ad u) t.heap) A) ([.ref h, .int p1] : List Value).toArray s 0 0 A = Q9
  replace hQ := hQ.symm
  unfold f_X1_nodeNumbered at hM
  refine lv_iload_n hx hb dX1_nodeNumbered_0 rfl (lv_at hl 1 rfl) ?_
  refine lv_if_lt (tgt := 23) hx hb dX1_nodeNumbered_1 (by decide) (fun q1 => ?_) (fun q1 => ?_)
  · replace hM := zx_t q1 hM
    refine lv_iconst (v := (-1)) hx hb dX1_nodeNumbered_23 (by decide) ?_
    rw [hQ]
    exact W.iret hx hb hr (fun t ht hW => ⟨⟨(-1), S, rfl, (Option.some.inj hM).symm, by show va_P D vwCl _ t.heap; rw [ht]; exact hP⟩, hS.F ht⟩) hS.2.2 dX1_nodeNumbered_24
  · replace hM := zx_f q1 hM
    refine lv_iload_n hx hb dX1_nodeNumbered_4 rfl (lv_at hl 1 rfl) ?_
    refine lv_aload_n hx hb dX1_nodeNumbered_5 rfl (lv_at hl 0 rfl) ?_
    obtain ⟨x2, T3, hz4, hM⟩ := zx_b2E hM
    refine va_calli (va_runV (As := []) (rest := [.int p1]) ⟨hx, hb, hml, hown, hts⟩ (c_X1_countNodes l D cI cZ cT h ad S _ N  hz4) (cwV 0 hts (zg_V zw_5_22 zw_5_11 zw_5_12 zw_1_14 zw_5_13) rfl rfl rfl ⟨rfl, zyX1_countNodes⟩ ⟨Nat.le_of_ble_eq_true rfl, Nat.le_of_ble_eq_true rfl⟩) ⟨bS_blind, va_recv hK hP (ci := 1) (q0 := 0) rfl rfl, bS_pre hP hK hD hN⟩ rfl rfl hl.1 rfl (lv_room (Nat.le_of_ble_eq_true rfl)) dX1_nodeNumbered_6 ⟨Nat.zero_le _, Nat.zero_le _⟩) hS (fun q _ h => zx_fW hD hS hA q h) (fun q h => zx_fW hD hS hA q h) (fun r u t H1 lc ht hvm hw hB hz1 hk1 hS => ?_)
    obtain ⟨hw1, hw2⟩ := Prod.mk.inj hw; subst hw1; subst hw2
    rw [ht] at hB
    replace hP := hB
    replace hD := xW1_D T3 hD
    refine lv_icmp_ge (tgt := 23) hx hb dX1_nodeNumbered_9 (by decide) (fun q5 => ?_) (fun q5 => ?_)
    · replace hM := zx_t q5 hM
      refine lv_iconst (v := (-1)) hx hb dX1_nodeNumbered_23 (by decide) ?_
      rw [hQ]
      exact W.iret hx hb hr (fun t ht hW => ⟨⟨(-1), T3, rfl, (Option.some.inj hM).symm, by show va_P D vwCl _ t.heap; rw [ht]; exact hP⟩, hS.F ht⟩) hS.2.2 dX1_nodeNumbered_24
    · replace hM := zx_f q5 hM
      refine lv_aload_n hx hb dX1_nodeNumbered_12 rfl (lv_at hl 0 rfl) ?_
      refine va_get (D := D) (ci := 1) (v := .ref (ad 8)) (C := RX1) (T := TX1) (N := 14) hx hb hts inlX1 hown hK hP 0 rfl rfl 12 (by decide) (hts _ zw_2_13) (fun _ h9 => h9) rfl dX1_nodeNumbered_13 ?_
      refine lv_iload_n hx hb dX1_nodeNumbered_16 rfl (lv_at hl 1 rfl) ?_
      obtain ⟨x6, hz7, hM⟩ := zx_b1E hM
      refine va_calli (va_runSN (As := [.ref (ad 8), .int p1]) (rest := []) ⟨hx, hb, hml, hown, hts⟩ (c_X2_get l D cI cZ cT (ad 8) 24 (T3 8) _ N p1 hz7) ⟨va_cnB 2 hts (zg_c zw_3_6) rfl rfl rfl (hN _ (zx_nw_X1_70)) (hts _ zw_1_2) zyX2_get ⟨Nat.le_of_ble_eq_true rfl, Nat.le_of_ble_eq_true rfl⟩, (hts _ zw_3_5), trivial⟩ ⟨bS_blind, bS_pre (zx_P1 hP 9 (rfl)) hK (zx_D1 hD 9 (rfl)) hN⟩ rfl rfl hl.1 rfl (lv_room (Nat.le_of_ble_eq_true rfl)) dX1_nodeNumbered_17 ⟨Nat.zero_le _, Nat.zero_le _⟩) hS (fun q h1 h2 => absurd h1 (Nat.not_lt.mpr h2)) (fun q h => hA q (Nat.le_trans hS.1 h)) (fun r u t H1 lc ht hvm hw hB hz1 hk1 hS => ?_)
      replace hw : x6 = r := hw; subst hw
      replace hP := zx_keep hP hk1
      refine lv_goto (tgt := 24) hx hb dX1_nodeNumbered_20 (by decide) ?_
      rw [hQ]
      exact W.iret hx hb hr (fun t ht hW => ⟨⟨x6, T3, rfl, (Option.some.inj hM).symm, by show va_P D vwCl _ t.heap; rw [ht]; exact hP⟩, hS.F ht⟩) hS.2.2 dX1_nodeNumbered_24

/-! ShallowBoxes$Tree.numberOf(I)I -/
def f_X1_numberOf_l7 (N : Nat) : Nat → Int32 → Int32 → Int32 → zx_S → Option (Int32 × zx_S)
  | 0, _, _, _, _ => none
  | n7 + 1, v1, v2, v3, S_ => (if v2 ≤ v3 then
  some ((-1), S_) else
  (zx_b1 (f_X2_get N 24 v3 (S_ 8)) (fun x2 =>
(if x2 = v1 then
  some (v3, S_) else
  (zx_n (v3 + 1) (fun x5 =>
f_X1_numberOf_l7 N  n7 v1 v2 x5 S_))))))
def f_X1_numberOf (N : Nat) (p1 : Int32) (S : zx_S) : Option (Int32 × zx_S) :=
  (zx_b2 (f_X1_countNodes N S) (fun x6 T7 =>
f_X1_numberOf_l7 N  N p1 x6 0 T7))
abbrev rmX1_numberOf : Room := { frames := 2, cells := 0, slots := 0, locals := 47 }
abbrev zsX1_numberOf : List Cond := .code yX1_numberOf cX1_numberOf 4 (some .int) :: wsL_law
theorem zyX1_numberOf : yX1_numberOf.cls ≠ "java/lang/invoke/MethodHandle" ∧ yX1_numberOf.cls ≠ "java/lang/invoke/VarHandle" ∧ (parseMethodDescriptor yX1_numberOf.desc).map (fun d => d.parameters.length) = some 1 := by decide +kernel
set_option maxHeartbeats 4000000 in
set_option maxRecDepth 100000 in
theorem c_X1_numberOf (l : Launch) (D : va_G) (cI cZ cT : ClassId) (h : Nat) (ad : Nat → Nat) (S : zx_S) (sz : Nat) (N : Nat) (p1 : Int32) {R : Int32 × zx_S} (hM : f_X1_numberOf N p1 S = some R) : Met l yX1_numberOf zsX1_numberOf rmX1_numberOf (va_Pc [.ref h, .int p1] (bS D (zx_ty cI cZ cT) (xW1 cI h ad S) sz)) (va_Qi (fun r u => R = (r, u)) (fun u t => va_P D vwCl (xW1 cI h ad u) t.heap) (va_A (xW1 cI h ad S) sz)) 0 0 (va_A (xW1 cI h ad S) sz) := by
  refine Met.ofW (cc := cX1_numberOf) (maxL := 4) (ret := (some .int)) (by decide) rfl ?_
  intro p e s m args below meth c s₁ B hml hv
  obtain ⟨rfl, hsz, hP, hK, hD0, hN⟩ := hv
  have hx := B.exec
  have hb := B.bytes
  have hr := B.returns
  have hts : ∀ w ∈ wsL_law, w.before _ s = true := fun w hw => atoms_spec (ws := zsX1_numberOf) B.pre w (List.mem_cons_of_mem _ hw)
  have hown : s.vm.findClass RX1 = some m.cls := findClass_of_methodNamed B.named
  have hlocks := B.notSynchronized
  subst hsz
  have hD := hD0.self (sz := s.heap.size)
  generalize hAe : va_A (xW1 cI h ad S) s.heap.size = A at hD ⊢
  have hA : ∀ q : Nat, s.heap.size ≤ q → A q := fun q h => by rw [← hAe]; exact Or.inr h
  have hS : va_S A s.heap s.heap [] := va_S.rf
  have hl := lv_entry ([.ref h, .int p1]) (n := 4) (Nat.le_of_ble_eq_true rfl)
  rw [lg_entry_eq]
  generalize (lg_sl ([.ref h, .int p1]) ++ List.replicate (4 - (lg_sl ([.ref h, .int p1])).length) Slot.unset).toArray = ls at hl ⊢
  have hl : lv_has ls 4 [(0, .ref h), (1, .int p1)] := hl
  generalize hQ : MQ below (va_Qi (fun r u => R = (r, u)) (fun u t => va_P D vwCl (xW1 cI h ad u) t.heap) A) ([.ref h, .int p1] : List Value).toArray s 0 0 A = Q9
  replace hQ := hQ.symm
  unfold f_X1_numberOf at hM
  have l7 : ∀ (n7 : Nat) (v1 : Int32) (v2 : Int32) (v3 : Int32) (S_ : zx_S) (H : Heap) (lc : List Loc) (ls : Array Slot), va_P D vwCl (xW1 cI h ad S_) H → va_D A (xW1 cI h ad S_) → va_S A s.heap H lc → lv_has ls 4 [(0, .ref h), (1, .int v1), (2, .int v2), (3, .int v3)] → f_X1_numberOf_l7 N n7 v1 v2 v3 S_ = some R → W p l e (headSpec zsX1_numberOf rmX1_numberOf).room s m ([.ref h, .int p1] : List Value).toArray below meth c H lc 0 0 Q9 (F0 m 7 ls []) := by
    intro n7
    induction n7 with
    | zero =>
      intro v1 v2 v3 S_ H lc ls hP hD hS hl hM
      rw [f_X1_numberOf_l7] at hM; exact absurd hM (by intro h; cases h)
    | succ n7 ih7 =>
      intro v1 v2 v3 S_ H lc ls hP hD hS hl hM
      rw [f_X1_numberOf_l7] at hM
      refine lv_iload_n hx hb dX1_numberOf_7 rfl (lv_at hl 3 rfl) ?_
      refine lv_iload_n hx hb dX1_numberOf_8 rfl (lv_at hl 2 rfl) ?_
      refine lv_icmp_ge (tgt := 32) hx hb dX1_numberOf_9 (by decide) (fun q1 => ?_) (fun q1 => ?_)
      · replace hM := zx_t q1 hM
        refine lv_iconst (v := (-1)) hx hb dX1_numberOf_32 (by decide) ?_
        rw [hQ]
        exact W.iret hx hb hr (fun t ht hW => ⟨⟨(-1), S_, rfl, (Option.some.inj hM).symm, by show va_P D vwCl _ t.heap; rw [ht]; exact hP⟩, hS.F ht⟩) hS.2.2 dX1_numberOf_33
      · replace hM := zx_f q1 hM
        refine lv_aload_n hx hb dX1_numberOf_12 rfl (lv_at hl 0 rfl) ?_
        refine va_get (D := D) (ci := 1) (v := .ref (ad 8)) (C := RX1) (T := TX1) (N := 14) hx hb hts inlX1 hown hK hP 0 rfl rfl 12 (by decide) (hts _ zw_2_13) (fun _ h9 => h9) rfl dX1_numberOf_13 ?_
        refine lv_iload_n hx hb dX1_numberOf_16 rfl (lv_at hl 3 rfl) ?_
        obtain ⟨x2, hz3, hM⟩ := zx_b1E hM
        refine va_calli (va_runSN (As := [.ref (ad 8), .int v3]) (rest := []) ⟨hx, hb, hml, hown, hts⟩ (c_X2_get l D cI cZ cT (ad 8) 24 (S_ 8) _ N v3 hz3) ⟨va_cnB 2 hts (zg_c zw_3_6) rfl rfl rfl (hN _ (zx_nw_X1_70)) (hts _ zw_1_2) zyX2_get ⟨Nat.le_of_ble_eq_true rfl, Nat.le_of_ble_eq_true rfl⟩, (hts _ zw_3_5), trivial⟩ ⟨bS_blind, bS_pre (zx_P1 hP 9 (rfl)) hK (zx_D1 hD 9 (rfl)) hN⟩ rfl rfl hl.1 rfl (lv_room (Nat.le_of_ble_eq_true rfl)) dX1_numberOf_17 ⟨Nat.zero_le _, Nat.zero_le _⟩) hS (fun q h1 h2 => absurd h1 (Nat.not_lt.mpr h2)) (fun q h => hA q (Nat.le_trans hS.1 h)) (fun r u t H1 lc ht hvm hw hB hz1 hk1 hS => ?_)
        replace hw : x2 = r := hw; subst hw
        replace hP := zx_keep hP hk1
        refine lv_iload_n hx hb dX1_numberOf_20 rfl (lv_at hl 1 rfl) ?_
        refine lv_icmp_ne (tgt := 26) hx hb dX1_numberOf_21 (by decide) (fun q4 => ?_) (fun q4 => ?_)
        · replace hM := zx_f q4 hM
          obtain ⟨x5, ex5, hM⟩ := zx_nE hM
          refine lv_iinc (v := x5) (lv' := [(3, .int x5), (0, .ref h), (1, .int v1), (2, .int v2)]) hx hb dX1_numberOf_26 hl (k := 3) rfl (by rw [ex5]; rfl) (by decide) rfl (fun ls hl => ?_)
          refine lv_goto (tgt := 7) hx hb dX1_numberOf_29 (by decide) ?_
          exact ih7 v1 v2 x5 S_ _ _ _ hP hD hS (lv_sub hl [1, 2, 3, 0] rfl) hM
        · replace hM := zx_t q4 hM
          refine lv_iload_n hx hb dX1_numberOf_24 rfl (lv_at hl 3 rfl) ?_
          rw [hQ]
          exact W.iret hx hb hr (fun t ht hW => ⟨⟨v3, S_, rfl, (Option.some.inj hM).symm, by show va_P D vwCl _ t.heap; rw [ht]; exact hP⟩, hS.F ht⟩) hS.2.2 dX1_numberOf_25
  refine lv_aload_n hx hb dX1_numberOf_0 rfl (lv_at hl 0 rfl) ?_
  obtain ⟨x6, T7, hz8, hM⟩ := zx_b2E hM
  refine va_calli (va_runV (As := []) (rest := []) ⟨hx, hb, hml, hown, hts⟩ (c_X1_countNodes l D cI cZ cT h ad S _ N  hz8) (cwV 0 hts (zg_V zw_5_22 zw_5_11 zw_5_12 zw_1_14 zw_5_13) rfl rfl rfl ⟨rfl, zyX1_countNodes⟩ ⟨Nat.le_of_ble_eq_true rfl, Nat.le_of_ble_eq_true rfl⟩) ⟨bS_blind, va_recv hK hP (ci := 1) (q0 := 0) rfl rfl, bS_pre hP hK hD hN⟩ rfl rfl hl.1 rfl (lv_room (Nat.le_of_ble_eq_true rfl)) dX1_numberOf_1 ⟨Nat.zero_le _, Nat.zero_le _⟩) hS (fun q _ h => zx_fW hD hS hA q h) (fun q h => zx_fW hD hS hA q h) (fun r u t H1 lc ht hvm hw hB hz1 hk1 hS => ?_)
  obtain ⟨hw1, hw2⟩ := Prod.mk.inj hw; subst hw1; subst hw2
  rw [ht] at hB
  replace hP := hB
  replace hD := xW1_D T7 hD
  refine lv_istore_n (lv' := [(2, .int x6), (0, .ref h), (1, .int p1)]) hx hb dX1_numberOf_4 rfl hl (by decide) rfl (fun ls hl => ?_)
  refine lv_iconst (v := 0) hx hb dX1_numberOf_5 (by decide) ?_
  refine lv_istore_n (lv' := [(3, .int 0), (2, .int x6), (0, .ref h), (1, .int p1)]) hx hb dX1_numberOf_6 rfl hl (by decide) rfl (fun ls hl => ?_)
  exact l7 N p1 x6 0 T7 _ _ _ hP hD hS (lv_sub hl [2, 3, 1, 0] rfl) hM

/-! ShallowBoxes$Tree.hasRectangle(I)Z -/
def f_X1_hasRectangle (N : Nat) (p1 : Int32) (S : zx_S) : Option (Int32) :=
  (if p1 < 0 then
  some 0 else
  (if 24 ≤ p1 then
  some 0 else
  (zx_b1 (f_X2_get N 49 p1 (S 2)) (fun x3 =>
(if x3 = (-1) then
  some 0 else
  some 1)))))
abbrev rmX1_hasRectangle : Room := { frames := 1, cells := 0, slots := 0, locals := 21 }
abbrev zsX1_hasRectangle : List Cond := .code yX1_hasRectangle cX1_hasRectangle 2 (some .boolean) :: wsL_law
theorem zyX1_hasRectangle : yX1_hasRectangle.cls ≠ "java/lang/invoke/MethodHandle" ∧ yX1_hasRectangle.cls ≠ "java/lang/invoke/VarHandle" ∧ (parseMethodDescriptor yX1_hasRectangle.desc).map (fun d => d.parameters.length) = some 1 := by decide +kernel
set_option maxHeartbeats 4000000 in
set_option maxRecDepth 100000 in
theorem c_X1_hasRectangle (l : Launch) (D : va_G) (cI cZ cT : ClassId) (h : Nat) (ad : Nat → Nat) (S : zx_S) (sz : Nat) (N : Nat) (p1 : Int32) {R : Int32} (hM : f_X1_hasRectangle N p1 S = some R) : Met l yX1_hasRectangle zsX1_hasRectangle rmX1_hasRectangle (va_Pc [.ref h, .int p1] (bS D (zx_ty cI cZ cT) (xW1 cI h ad S) sz)) (va_Qi (fun r (_ : Unit) => R = r) (fun _ _ => True) (fun q => sz ≤ q)) 0 0 (fun q => sz ≤ q) := by
  refine Met.ofW (cc := cX1_hasRectangle) (maxL := 2) (ret := (some .boolean)) (by decide) rfl ?_
  intro p e s m args below meth c s₁ B hml hv
  obtain ⟨rfl, hsz, hP, hK, hD0, hN⟩ := hv
  have hx := B.exec
  have hb := B.bytes
  have hr := B.returns
  have hts : ∀ w ∈ wsL_law, w.before _ s = true := fun w hw => atoms_spec (ws := zsX1_hasRectangle) B.pre w (List.mem_cons_of_mem _ hw)
  have hown : s.vm.findClass RX1 = some m.cls := findClass_of_methodNamed B.named
  have hlocks := B.notSynchronized
  subst hsz
  generalize hAe : (fun q : Nat => s.heap.size ≤ q) = A
  have hA : ∀ q : Nat, s.heap.size ≤ q → A q := fun q h => by rw [← hAe]; exact h
  have hD := hD0
  have hS : va_S A s.heap s.heap [] := va_S.rf
  have hl := lv_entry ([.ref h, .int p1]) (n := 2) (Nat.le_of_ble_eq_true rfl)
  rw [lg_entry_eq]
  generalize (lg_sl ([.ref h, .int p1]) ++ List.replicate (2 - (lg_sl ([.ref h, .int p1])).length) Slot.unset).toArray = ls at hl ⊢
  have hl : lv_has ls 2 [(0, .ref h), (1, .int p1)] := hl
  generalize hQ : MQ below (va_Qi (fun r (_ : Unit) => R = r) (fun _ _ => True) A) ([.ref h, .int p1] : List Value).toArray s 0 0 A = Q9
  replace hQ := hQ.symm
  unfold f_X1_hasRectangle at hM
  refine lv_iload_n hx hb dX1_hasRectangle_0 rfl (lv_at hl 1 rfl) ?_
  refine lv_if_lt (tgt := 26) hx hb dX1_hasRectangle_1 (by decide) (fun q1 => ?_) (fun q1 => ?_)
  · replace hM := zx_t q1 hM
    refine lv_iconst (v := 0) hx hb dX1_hasRectangle_26 (by decide) ?_
    rw [hQ]
    exact W.zret hx hb hr (by rfl) (fun t ht hW => ⟨⟨0, (), rfl, (Option.some.inj hM).symm, trivial⟩, hS.F ht⟩) hS.2.2 dX1_hasRectangle_27
  · replace hM := zx_f q1 hM
    refine lv_iload_n hx hb dX1_hasRectangle_4 rfl (lv_at hl 1 rfl) ?_
    refine lv_bipush (v := 24) hx hb dX1_hasRectangle_5 (by decide) ?_
    refine lv_icmp_ge (tgt := 26) hx hb dX1_hasRectangle_7 (by decide) (fun q2 => ?_) (fun q2 => ?_)
    · replace hM := zx_t q2 hM
      refine lv_iconst (v := 0) hx hb dX1_hasRectangle_26 (by decide) ?_
      rw [hQ]
      exact W.zret hx hb hr (by rfl) (fun t ht hW => ⟨⟨0, (), rfl, (Option.some.inj hM).symm, trivial⟩, hS.F ht⟩) hS.2.2 dX1_hasRectangle_27
    · replace hM := zx_f q2 hM
      refine lv_aload_n hx hb dX1_hasRectangle_10 rfl (lv_at hl 0 rfl) ?_
      refine va_get (D := D) (ci := 1) (v := .ref (ad 2)) (C := RX1) (T := TX1) (N := 14) hx hb hts inlX1 hown hK hP 0 rfl rfl 2 (by decide) (hts _ zw_2_7) (fun _ h9 => h9) rfl dX1_hasRectangle_11 ?_
      refine lv_iload_n hx hb dX1_hasRectangle_14 rfl (lv_at hl 1 rfl) ?_
      obtain ⟨x3, hz4, hM⟩ := zx_b1E hM
      refine va_calli (va_runSN (As := [.ref (ad 2), .int p1]) (rest := []) ⟨hx, hb, hml, hown, hts⟩ (c_X2_get l D cI cZ cT (ad 2) 49 (S 2) _ N p1 hz4) ⟨va_cnB 2 hts (zg_c zw_3_6) rfl rfl rfl (hN _ (zx_nw_X1_70)) (hts _ zw_1_2) zyX2_get ⟨Nat.le_of_ble_eq_true rfl, Nat.le_of_ble_eq_true rfl⟩, (hts _ zw_3_5), trivial⟩ ⟨bS_blind, bS_pre (zx_P1 hP 3 (rfl)) hK (zx_D1 hD 3 (rfl)) hN⟩ rfl rfl hl.1 rfl (lv_room (Nat.le_of_ble_eq_true rfl)) dX1_hasRectangle_15 ⟨Nat.zero_le _, Nat.zero_le _⟩) hS (fun q h1 h2 => absurd h1 (Nat.not_lt.mpr h2)) (fun q h => hA q (Nat.le_trans hS.1 h)) (fun r u t H1 lc ht hvm hw hB hz1 hk1 hS => ?_)
      replace hw : x3 = r := hw; subst hw
      replace hP := zx_keep hP hk1
      refine lv_iconst (v := (-1)) hx hb dX1_hasRectangle_18 (by decide) ?_
      refine lv_icmp_eq (tgt := 26) hx hb dX1_hasRectangle_19 (by decide) (fun q5 => ?_) (fun q5 => ?_)
      · replace hM := zx_t q5 hM
        refine lv_iconst (v := 0) hx hb dX1_hasRectangle_26 (by decide) ?_
        rw [hQ]
        exact W.zret hx hb hr (by rfl) (fun t ht hW => ⟨⟨0, (), rfl, (Option.some.inj hM).symm, trivial⟩, hS.F ht⟩) hS.2.2 dX1_hasRectangle_27
      · replace hM := zx_f q5 hM
        refine lv_iconst (v := 1) hx hb dX1_hasRectangle_22 (by decide) ?_
        refine lv_goto (tgt := 27) hx hb dX1_hasRectangle_23 (by decide) ?_
        rw [hQ]
        exact W.zret hx hb hr (by rfl) (fun t ht hW => ⟨⟨1, (), rfl, (Option.some.inj hM).symm, trivial⟩, hS.F ht⟩) hS.2.2 dX1_hasRectangle_27

/-! ShallowBoxes$Tree.countRectangles()I -/
def f_X1_countRectangles_j25 (N : Nat) (S : zx_S) (k4 : Int32 → Int32 → Option (Int32)) (v1 : Int32) (v2 : Int32) : Option (Int32) :=
  (zx_n (v2 + 1) (fun x2 =>
k4 v1 x2))
def f_X1_countRectangles_l4 (N : Nat) (S : zx_S) : Nat → Int32 → Int32 → Option (Int32)
  | 0, _, _ => none
  | n4 + 1, v1, v2 => (if 24 ≤ v2 then
  some v1 else
  (zx_b1 (f_X2_get N 49 v2 (S 2)) (fun x3 =>
(if x3 = (-1) then
  f_X1_countRectangles_j25 N S (f_X1_countRectangles_l4 N S  n4) v1 v2 else
  (zx_n (v1 + 1) (fun x6 =>
f_X1_countRectangles_j25 N S (f_X1_countRectangles_l4 N S  n4) x6 v2))))))
def f_X1_countRectangles (N : Nat) (S : zx_S) : Option (Int32) :=
  f_X1_countRectangles_l4 N S  N 0 0
abbrev rmX1_countRectangles : Room := { frames := 1, cells := 0, slots := 0, locals := 21 }
abbrev zsX1_countRectangles : List Cond := .code yX1_countRectangles cX1_countRectangles 3 (some .int) :: wsL_law
theorem zyX1_countRectangles : yX1_countRectangles.cls ≠ "java/lang/invoke/MethodHandle" ∧ yX1_countRectangles.cls ≠ "java/lang/invoke/VarHandle" ∧ (parseMethodDescriptor yX1_countRectangles.desc).map (fun d => d.parameters.length) = some 0 := by decide +kernel
set_option maxHeartbeats 4000000 in
set_option maxRecDepth 100000 in
theorem c_X1_countRectangles (l : Launch) (D : va_G) (cI cZ cT : ClassId) (h : Nat) (ad : Nat → Nat) (S : zx_S) (sz : Nat) (N : Nat) {R : Int32} (hM : f_X1_countRectangles N S = some R) : Met l yX1_countRectangles zsX1_countRectangles rmX1_countRectangles (va_Pc [.ref h] (bS D (zx_ty cI cZ cT) (xW1 cI h ad S) sz)) (va_Qi (fun r (_ : Unit) => R = r) (fun _ _ => True) (fun q => sz ≤ q)) 0 0 (fun q => sz ≤ q) := by
  refine Met.ofW (cc := cX1_countRectangles) (maxL := 3) (ret := (some .int)) (by decide) rfl ?_
  intro p e s m args below meth c s₁ B hml hv
  obtain ⟨rfl, hsz, hP, hK, hD0, hN⟩ := hv
  have hx := B.exec
  have hb := B.bytes
  have hr := B.returns
  have hts : ∀ w ∈ wsL_law, w.before _ s = true := fun w hw => atoms_spec (ws := zsX1_countRectangles) B.pre w (List.mem_cons_of_mem _ hw)
  have hown : s.vm.findClass RX1 = some m.cls := findClass_of_methodNamed B.named
  have hlocks := B.notSynchronized
  subst hsz
  generalize hAe : (fun q : Nat => s.heap.size ≤ q) = A
  have hA : ∀ q : Nat, s.heap.size ≤ q → A q := fun q h => by rw [← hAe]; exact h
  have hD := hD0
  have hS : va_S A s.heap s.heap [] := va_S.rf
  have hl := lv_entry ([.ref h]) (n := 3) (Nat.le_of_ble_eq_true rfl)
  rw [lg_entry_eq]
  generalize (lg_sl ([.ref h]) ++ List.replicate (3 - (lg_sl ([.ref h])).length) Slot.unset).toArray = ls at hl ⊢
  have hl : lv_has ls 3 [(0, .ref h)] := hl
  generalize hQ : MQ below (va_Qi (fun r (_ : Unit) => R = r) (fun _ _ => True) A) ([.ref h] : List Value).toArray s 0 0 A = Q9
  replace hQ := hQ.symm
  unfold f_X1_countRectangles at hM
  have l4 : ∀ (n4 : Nat) (v1 : Int32) (v2 : Int32) (H : Heap) (lc : List Loc) (ls : Array Slot), va_P D vwCl (xW1 cI h ad S) H → va_S A s.heap H lc → lv_has ls 3 [(0, .ref h), (1, .int v1), (2, .int v2)] → f_X1_countRectangles_l4 N S n4 v1 v2 = some R → W p l e (headSpec zsX1_countRectangles rmX1_countRectangles).room s m ([.ref h] : List Value).toArray below meth c H lc 0 0 Q9 (F0 m 4 ls []) := by
    intro n4
    induction n4 with
    | zero =>
      intro v1 v2 H lc ls hP hS hl hM
      rw [f_X1_countRectangles_l4] at hM; exact absurd hM (by intro h; cases h)
    | succ n4 ih4 =>
      intro v1 v2 H lc ls hP hS hl hM
      rw [f_X1_countRectangles_l4] at hM
      refine lv_iload_n hx hb dX1_countRectangles_4 rfl (lv_at hl 2 rfl) ?_
      refine lv_bipush (v := 24) hx hb dX1_countRectangles_5 (by decide) ?_
      refine lv_icmp_ge (tgt := 31) hx hb dX1_countRectangles_7 (by decide) (fun q1 => ?_) (fun q1 => ?_)
      · replace hM := zx_t q1 hM
        refine lv_iload_n hx hb dX1_countRectangles_31 rfl (lv_at hl 1 rfl) ?_
        rw [hQ]
        exact W.iret hx hb hr (fun t ht hW => ⟨⟨v1, (), rfl, (Option.some.inj hM).symm, trivial⟩, hS.F ht⟩) hS.2.2 dX1_countRectangles_32
      · replace hM := zx_f q1 hM
        have j25 : ∀ (v1 : Int32) (v2 : Int32) (H : Heap) (lc : List Loc) (ls : Array Slot), va_P D vwCl (xW1 cI h ad S) H → va_S A s.heap H lc → lv_has ls 3 [(0, .ref h), (1, .int v1), (2, .int v2)] → f_X1_countRectangles_j25 N S (f_X1_countRectangles_l4 N S  n4) v1 v2 = some R → W p l e (headSpec zsX1_countRectangles rmX1_countRectangles).room s m ([.ref h] : List Value).toArray below meth c H lc 0 0 Q9 (F0 m 25 ls []) := by
          intro v1 v2 H lc ls hP hS hl hM
          unfold f_X1_countRectangles_j25 at hM
          obtain ⟨x2, ex2, hM⟩ := zx_nE hM
          refine lv_iinc (v := x2) (lv' := [(2, .int x2), (0, .ref h), (1, .int v1)]) hx hb dX1_countRectangles_25 hl (k := 2) rfl (by rw [ex2]; rfl) (by decide) rfl (fun ls hl => ?_)
          refine lv_goto (tgt := 4) hx hb dX1_countRectangles_28 (by decide) ?_
          exact ih4 v1 x2 _ _ _ hP hS (lv_sub hl [1, 2, 0] rfl) hM
        refine lv_aload_n hx hb dX1_countRectangles_10 rfl (lv_at hl 0 rfl) ?_
        refine va_get (D := D) (ci := 1) (v := .ref (ad 2)) (C := RX1) (T := TX1) (N := 14) hx hb hts inlX1 hown hK hP 0 rfl rfl 2 (by decide) (hts _ zw_2_7) (fun _ h9 => h9) rfl dX1_countRectangles_11 ?_
        refine lv_iload_n hx hb dX1_countRectangles_14 rfl (lv_at hl 2 rfl) ?_
        obtain ⟨x3, hz4, hM⟩ := zx_b1E hM
        refine va_calli (va_runSN (As := [.ref (ad 2), .int v2]) (rest := []) ⟨hx, hb, hml, hown, hts⟩ (c_X2_get l D cI cZ cT (ad 2) 49 (S 2) _ N v2 hz4) ⟨va_cnB 2 hts (zg_c zw_3_6) rfl rfl rfl (hN _ (zx_nw_X1_70)) (hts _ zw_1_2) zyX2_get ⟨Nat.le_of_ble_eq_true rfl, Nat.le_of_ble_eq_true rfl⟩, (hts _ zw_3_5), trivial⟩ ⟨bS_blind, bS_pre (zx_P1 hP 3 (rfl)) hK (zx_D1 hD 3 (rfl)) hN⟩ rfl rfl hl.1 rfl (lv_room (Nat.le_of_ble_eq_true rfl)) dX1_countRectangles_15 ⟨Nat.zero_le _, Nat.zero_le _⟩) hS (fun q h1 h2 => absurd h1 (Nat.not_lt.mpr h2)) (fun q h => hA q (Nat.le_trans hS.1 h)) (fun r u t H1 lc ht hvm hw hB hz1 hk1 hS => ?_)
        replace hw : x3 = r := hw; subst hw
        replace hP := zx_keep hP hk1
        refine lv_iconst (v := (-1)) hx hb dX1_countRectangles_18 (by decide) ?_
        refine lv_icmp_eq (tgt := 25) hx hb dX1_countRectangles_19 (by decide) (fun q5 => ?_) (fun q5 => ?_)
        · replace hM := zx_t q5 hM
          exact j25 v1 v2 _ _ _ hP hS (lv_sub hl [0, 1, 2] rfl) hM
        · replace hM := zx_f q5 hM
          obtain ⟨x6, ex6, hM⟩ := zx_nE hM
          refine lv_iinc (v := x6) (lv' := [(1, .int x6), (0, .ref h), (2, .int v2)]) hx hb dX1_countRectangles_22 hl (k := 1) rfl (by rw [ex6]; rfl) (by decide) rfl (fun ls hl => ?_)
          exact j25 x6 v2 _ _ _ hP hS (lv_sub hl [1, 0, 2] rfl) hM
  refine lv_iconst (v := 0) hx hb dX1_countRectangles_0 (by decide) ?_
  refine lv_istore_n (lv' := [(1, .int 0), (0, .ref h)]) hx hb dX1_countRectangles_1 rfl hl (by decide) rfl (fun ls hl => ?_)
  refine lv_iconst (v := 0) hx hb dX1_countRectangles_2 (by decide) ?_
  refine lv_istore_n (lv' := [(2, .int 0), (1, .int 0), (0, .ref h)]) hx hb dX1_countRectangles_3 rfl hl (by decide) rfl (fun ls hl => ?_)
  exact l4 N 0 0 _ _ _ hP hS (lv_sub hl [2, 1, 0] rfl) hM

/-! ShallowBoxes$Tree.lowestFreeNumber()I -/
def f_X1_lowestFreeNumber_l2 (N : Nat) (S : zx_S) : Nat → Int32 → Option (Int32)
  | 0, _ => none
  | n2 + 1, v1 => (if 24 ≤ v1 then
  some (-1) else
  (zx_b1 (f_X2_get N 49 v1 (S 2)) (fun x2 =>
(if x2 = (-1) then
  some v1 else
  (zx_n (v1 + 1) (fun x5 =>
f_X1_lowestFreeNumber_l2 N S  n2 x5))))))
def f_X1_lowestFreeNumber (N : Nat) (S : zx_S) : Option (Int32) :=
  f_X1_lowestFreeNumber_l2 N S  N 0
abbrev rmX1_lowestFreeNumber : Room := { frames := 1, cells := 0, slots := 0, locals := 21 }
abbrev zsX1_lowestFreeNumber : List Cond := .code yX1_lowestFreeNumber cX1_lowestFreeNumber 2 (some .int) :: wsL_law
theorem zyX1_lowestFreeNumber : yX1_lowestFreeNumber.cls ≠ "java/lang/invoke/MethodHandle" ∧ yX1_lowestFreeNumber.cls ≠ "java/lang/invoke/VarHandle" ∧ (parseMethodDescriptor yX1_lowestFreeNumber.desc).map (fun d => d.parameters.length) = some 0 := by decide +kernel
set_option maxHeartbeats 4000000 in
set_option maxRecDepth 100000 in
theorem c_X1_lowestFreeNumber (l : Launch) (D : va_G) (cI cZ cT : ClassId) (h : Nat) (ad : Nat → Nat) (S : zx_S) (sz : Nat) (N : Nat) {R : Int32} (hM : f_X1_lowestFreeNumber N S = some R) : Met l yX1_lowestFreeNumber zsX1_lowestFreeNumber rmX1_lowestFreeNumber (va_Pc [.ref h] (bS D (zx_ty cI cZ cT) (xW1 cI h ad S) sz)) (va_Qi (fun r (_ : Unit) => R = r) (fun _ _ => True) (fun q => sz ≤ q)) 0 0 (fun q => sz ≤ q) := by
  refine Met.ofW (cc := cX1_lowestFreeNumber) (maxL := 2) (ret := (some .int)) (by decide) rfl ?_
  intro p e s m args below meth c s₁ B hml hv
  obtain ⟨rfl, hsz, hP, hK, hD0, hN⟩ := hv
  have hx := B.exec
  have hb := B.bytes
  have hr := B.returns
  have hts : ∀ w ∈ wsL_law, w.before _ s = true := fun w hw => atoms_spec (ws := zsX1_lowestFreeNumber) B.pre w (List.mem_cons_of_mem _ hw)
  have hown : s.vm.findClass RX1 = some m.cls := findClass_of_methodNamed B.named
  have hlocks := B.notSynchronized
  subst hsz
  generalize hAe : (fun q : Nat => s.heap.size ≤ q) = A
  have hA : ∀ q : Nat, s.heap.size ≤ q → A q := fun q h => by rw [← hAe]; exact h
  have hD := hD0
  have hS : va_S A s.heap s.heap [] := va_S.rf
  have hl := lv_entry ([.ref h]) (n := 2) (Nat.le_of_ble_eq_true rfl)
  rw [lg_entry_eq]
  generalize (lg_sl ([.ref h]) ++ List.replicate (2 - (lg_sl ([.ref h])).length) Slot.unset).toArray = ls at hl ⊢
  have hl : lv_has ls 2 [(0, .ref h)] := hl
  generalize hQ : MQ below (va_Qi (fun r (_ : Unit) => R = r) (fun _ _ => True) A) ([.ref h] : List Value).toArray s 0 0 A = Q9
  replace hQ := hQ.symm
  unfold f_X1_lowestFreeNumber at hM
  have l2 : ∀ (n2 : Nat) (v1 : Int32) (H : Heap) (lc : List Loc) (ls : Array Slot), va_P D vwCl (xW1 cI h ad S) H → va_S A s.heap H lc → lv_has ls 2 [(0, .ref h), (1, .int v1)] → f_X1_lowestFreeNumber_l2 N S n2 v1 = some R → W p l e (headSpec zsX1_lowestFreeNumber rmX1_lowestFreeNumber).room s m ([.ref h] : List Value).toArray below meth c H lc 0 0 Q9 (F0 m 2 ls []) := by
    intro n2
    induction n2 with
    | zero =>
      intro v1 H lc ls hP hS hl hM
      rw [f_X1_lowestFreeNumber_l2] at hM; exact absurd hM (by intro h; cases h)
    | succ n2 ih2 =>
      intro v1 H lc ls hP hS hl hM
      rw [f_X1_lowestFreeNumber_l2] at hM
      refine lv_iload_n hx hb dX1_lowestFreeNumber_2 rfl (lv_at hl 1 rfl) ?_
      refine lv_bipush (v := 24) hx hb dX1_lowestFreeNumber_3 (by decide) ?_
      refine lv_icmp_ge (tgt := 28) hx hb dX1_lowestFreeNumber_5 (by decide) (fun q1 => ?_) (fun q1 => ?_)
      · replace hM := zx_t q1 hM
        refine lv_iconst (v := (-1)) hx hb dX1_lowestFreeNumber_28 (by decide) ?_
        rw [hQ]
        exact W.iret hx hb hr (fun t ht hW => ⟨⟨(-1), (), rfl, (Option.some.inj hM).symm, trivial⟩, hS.F ht⟩) hS.2.2 dX1_lowestFreeNumber_29
      · replace hM := zx_f q1 hM
        refine lv_aload_n hx hb dX1_lowestFreeNumber_8 rfl (lv_at hl 0 rfl) ?_
        refine va_get (D := D) (ci := 1) (v := .ref (ad 2)) (C := RX1) (T := TX1) (N := 14) hx hb hts inlX1 hown hK hP 0 rfl rfl 2 (by decide) (hts _ zw_2_7) (fun _ h9 => h9) rfl dX1_lowestFreeNumber_9 ?_
        refine lv_iload_n hx hb dX1_lowestFreeNumber_12 rfl (lv_at hl 1 rfl) ?_
        obtain ⟨x2, hz3, hM⟩ := zx_b1E hM
        refine va_calli (va_runSN (As := [.ref (ad 2), .int v1]) (rest := []) ⟨hx, hb, hml, hown, hts⟩ (c_X2_get l D cI cZ cT (ad 2) 49 (S 2) _ N v1 hz3) ⟨va_cnB 2 hts (zg_c zw_3_6) rfl rfl rfl (hN _ (zx_nw_X1_70)) (hts _ zw_1_2) zyX2_get ⟨Nat.le_of_ble_eq_true rfl, Nat.le_of_ble_eq_true rfl⟩, (hts _ zw_3_5), trivial⟩ ⟨bS_blind, bS_pre (zx_P1 hP 3 (rfl)) hK (zx_D1 hD 3 (rfl)) hN⟩ rfl rfl hl.1 rfl (lv_room (Nat.le_of_ble_eq_true rfl)) dX1_lowestFreeNumber_13 ⟨Nat.zero_le _, Nat.zero_le _⟩) hS (fun q h1 h2 => absurd h1 (Nat.not_lt.mpr h2)) (fun q h => hA q (Nat.le_trans hS.1 h)) (fun r u t H1 lc ht hvm hw hB hz1 hk1 hS => ?_)
        replace hw : x2 = r := hw; subst hw
        replace hP := zx_keep hP hk1
        refine lv_iconst (v := (-1)) hx hb dX1_lowestFreeNumber_16 (by decide) ?_
        refine lv_icmp_ne (tgt := 22) hx hb dX1_lowestFreeNumber_17 (by decide) (fun q4 => ?_) (fun q4 => ?_)
        · replace hM := zx_f q4 hM
          obtain ⟨x5, ex5, hM⟩ := zx_nE hM
          refine lv_iinc (v := x5) (lv' := [(1, .int x5), (0, .ref h)]) hx hb dX1_lowestFreeNumber_22 hl (k := 1) rfl (by rw [ex5]; rfl) (by decide) rfl (fun ls hl => ?_)
          refine lv_goto (tgt := 2) hx hb dX1_lowestFreeNumber_25 (by decide) ?_
          exact ih2 x5 _ _ _ hP hS (lv_sub hl [1, 0] rfl) hM
        · replace hM := zx_t q4 hM
          refine lv_iload_n hx hb dX1_lowestFreeNumber_20 rfl (lv_at hl 1 rfl) ?_
          rw [hQ]
          exact W.iret hx hb hr (fun t ht hW => ⟨⟨v1, (), rfl, (Option.some.inj hM).symm, trivial⟩, hS.F ht⟩) hS.2.2 dX1_lowestFreeNumber_21
  refine lv_iconst (v := 0) hx hb dX1_lowestFreeNumber_0 (by decide) ?_
  refine lv_istore_n (lv' := [(1, .int 0), (0, .ref h)]) hx hb dX1_lowestFreeNumber_1 rfl hl (by decide) rfl (fun ls hl => ?_)
  exact l2 N 0 _ _ _ hP hS (lv_sub hl [1, 0] rfl) hM

/-! ShallowBoxes.isBox(IIII)Z -/
def f_X2_isBox (N : Nat) (p0 : Int32) (p1 : Int32) (p2 : Int32) (p3 : Int32) : Option (Int32) :=
  (if p0 < 0 then
  some 0 else
  (if p2 < p0 then
  some 0 else
  (if 100 ≤ p2 then
  some 0 else
  (if p1 < 0 then
  some 0 else
  (if p3 < p1 then
  some 0 else
  (if 100 ≤ p3 then
  some 0 else
  some 1))))))
abbrev rmX2_isBox : Room := { frames := 0, cells := 0, slots := 0, locals := 0 }
abbrev zsX2_isBox : List Cond := .code yX2_isBox cX2_isBox 4 (some .boolean) :: wsL_law
theorem zyX2_isBox : yX2_isBox.cls ≠ "java/lang/invoke/MethodHandle" ∧ yX2_isBox.cls ≠ "java/lang/invoke/VarHandle" ∧ (parseMethodDescriptor yX2_isBox.desc).map (fun d => d.parameters.length) = some 4 := by decide +kernel
set_option maxHeartbeats 4000000 in
set_option maxRecDepth 100000 in
theorem c_X2_isBox (l : Launch) (D : va_G) (cI cZ cT : ClassId) (sz : Nat) (N : Nat) (p0 : Int32) (p1 : Int32) (p2 : Int32) (p3 : Int32) {R : Int32} (hM : f_X2_isBox N p0 p1 p2 p3 = some R) : Met l yX2_isBox zsX2_isBox rmX2_isBox (va_Pc [.int p0, .int p1, .int p2, .int p3] (bS D (zx_ty cI cZ cT) [] sz)) (va_Qi (fun r (_ : Unit) => R = r) (fun _ _ => True) (fun q => sz ≤ q)) 0 0 (fun q => sz ≤ q) := by
  refine Met.ofW (cc := cX2_isBox) (maxL := 4) (ret := (some .boolean)) (by decide) rfl ?_
  intro p e s m args below meth c s₁ B hml hv
  obtain ⟨rfl, hsz, hP, hK, hD0, hN⟩ := hv
  have hx := B.exec
  have hb := B.bytes
  have hr := B.returns
  have hts : ∀ w ∈ wsL_law, w.before _ s = true := fun w hw => atoms_spec (ws := zsX2_isBox) B.pre w (List.mem_cons_of_mem _ hw)
  have hown : s.vm.findClass RX2 = some m.cls := findClass_of_methodNamed B.named
  have hlocks := B.notSynchronized
  subst hsz
  generalize hAe : (fun q : Nat => s.heap.size ≤ q) = A
  have hA : ∀ q : Nat, s.heap.size ≤ q → A q := fun q h => by rw [← hAe]; exact h
  have hD := hD0
  have hS : va_S A s.heap s.heap [] := va_S.rf
  have hl := lv_entry ([.int p0, .int p1, .int p2, .int p3]) (n := 4) (Nat.le_of_ble_eq_true rfl)
  rw [lg_entry_eq]
  generalize (lg_sl ([.int p0, .int p1, .int p2, .int p3]) ++ List.replicate (4 - (lg_sl ([.int p0, .int p1, .int p2, .int p3])).length) Slot.unset).toArray = ls at hl ⊢
  have hl : lv_has ls 4 [(0, .int p0), (1, .int p1), (2, .int p2), (3, .int p3)] := hl
  generalize hQ : MQ below (va_Qi (fun r (_ : Unit) => R = r) (fun _ _ => True) A) ([.int p0, .int p1, .int p2, .int p3] : List Value).toArray s 0 0 A = Q9
  replace hQ := hQ.symm
  unfold f_X2_isBox at hM
  refine lv_iload_n hx hb dX2_isBox_0 rfl (lv_at hl 0 rfl) ?_
  refine lv_if_lt (tgt := 34) hx hb dX2_isBox_1 (by decide) (fun q1 => ?_) (fun q1 => ?_)
  · replace hM := zx_t q1 hM
    refine lv_iconst (v := 0) hx hb dX2_isBox_34 (by decide) ?_
    rw [hQ]
    exact W.zret hx hb hr (by rfl) (fun t ht hW => ⟨⟨0, (), rfl, (Option.some.inj hM).symm, trivial⟩, hS.F ht⟩) hS.2.2 dX2_isBox_35
  · replace hM := zx_f q1 hM
    refine lv_iload_n hx hb dX2_isBox_4 rfl (lv_at hl 0 rfl) ?_
    refine lv_iload_n hx hb dX2_isBox_5 rfl (lv_at hl 2 rfl) ?_
    refine lv_icmp_gt (tgt := 34) hx hb dX2_isBox_6 (by decide) (fun q2 => ?_) (fun q2 => ?_)
    · replace hM := zx_t q2 hM
      refine lv_iconst (v := 0) hx hb dX2_isBox_34 (by decide) ?_
      rw [hQ]
      exact W.zret hx hb hr (by rfl) (fun t ht hW => ⟨⟨0, (), rfl, (Option.some.inj hM).symm, trivial⟩, hS.F ht⟩) hS.2.2 dX2_isBox_35
    · replace hM := zx_f q2 hM
      refine lv_iload_n hx hb dX2_isBox_9 rfl (lv_at hl 2 rfl) ?_
      refine lv_bipush (v := 100) hx hb dX2_isBox_10 (by decide) ?_
      refine lv_icmp_ge (tgt := 34) hx hb dX2_isBox_12 (by decide) (fun q3 => ?_) (fun q3 => ?_)
      · replace hM := zx_t q3 hM
        refine lv_iconst (v := 0) hx hb dX2_isBox_34 (by decide) ?_
        rw [hQ]
        exact W.zret hx hb hr (by rfl) (fun t ht hW => ⟨⟨0, (), rfl, (Option.some.inj hM).symm, trivial⟩, hS.F ht⟩) hS.2.2 dX2_isBox_35
      · replace hM := zx_f q3 hM
        refine lv_iload_n hx hb dX2_isBox_15 rfl (lv_at hl 1 rfl) ?_
        refine lv_if_lt (tgt := 34) hx hb dX2_isBox_16 (by decide) (fun q4 => ?_) (fun q4 => ?_)
        · replace hM := zx_t q4 hM
          refine lv_iconst (v := 0) hx hb dX2_isBox_34 (by decide) ?_
          rw [hQ]
          exact W.zret hx hb hr (by rfl) (fun t ht hW => ⟨⟨0, (), rfl, (Option.some.inj hM).symm, trivial⟩, hS.F ht⟩) hS.2.2 dX2_isBox_35
        · replace hM := zx_f q4 hM
          refine lv_iload_n hx hb dX2_isBox_19 rfl (lv_at hl 1 rfl) ?_
          refine lv_iload_n hx hb dX2_isBox_20 rfl (lv_at hl 3 rfl) ?_
          refine lv_icmp_gt (tgt := 34) hx hb dX2_isBox_21 (by decide) (fun q5 => ?_) (fun q5 => ?_)
          · replace hM := zx_t q5 hM
            refine lv_iconst (v := 0) hx hb dX2_isBox_34 (by decide) ?_
            rw [hQ]
            exact W.zret hx hb hr (by rfl) (fun t ht hW => ⟨⟨0, (), rfl, (Option.some.inj hM).symm, trivial⟩, hS.F ht⟩) hS.2.2 dX2_isBox_35
          · replace hM := zx_f q5 hM
            refine lv_iload_n hx hb dX2_isBox_24 rfl (lv_at hl 3 rfl) ?_
            refine lv_bipush (v := 100) hx hb dX2_isBox_25 (by decide) ?_
            refine lv_icmp_ge (tgt := 34) hx hb dX2_isBox_27 (by decide) (fun q6 => ?_) (fun q6 => ?_)
            · replace hM := zx_t q6 hM
              refine lv_iconst (v := 0) hx hb dX2_isBox_34 (by decide) ?_
              rw [hQ]
              exact W.zret hx hb hr (by rfl) (fun t ht hW => ⟨⟨0, (), rfl, (Option.some.inj hM).symm, trivial⟩, hS.F ht⟩) hS.2.2 dX2_isBox_35
            · replace hM := zx_f q6 hM
              refine lv_iconst (v := 1) hx hb dX2_isBox_30 (by decide) ?_
              refine lv_goto (tgt := 35) hx hb dX2_isBox_31 (by decide) ?_
              rw [hQ]
              exact W.zret hx hb hr (by rfl) (fun t ht hW => ⟨⟨1, (), rfl, (Option.some.inj hM).symm, trivial⟩, hS.F ht⟩) hS.2.2 dX2_isBox_35

/-! ShallowBoxes$Tree.canShift(III)Z -/
def f_X1_canShift (N : Nat) (p1 : Int32) (p2 : Int32) (p3 : Int32) (S : zx_S) : Option (Int32) :=
  (zx_b1 (f_X1_corner N p1 0 S) (fun x1 =>
(zx_b1 (f_X1_corner N p1 1 S) (fun x3 =>
(zx_b1 (f_X1_corner N p1 2 S) (fun x5 =>
(zx_b1 (f_X1_corner N p1 3 S) (fun x7 =>
(zx_b1 (f_X2_isBox N (x1 + p2) (x3 + p3) (x5 + p2) (x7 + p3)) (fun x9 =>
(zx_bl x9 (
some x9))))))))))))
abbrev rmX1_canShift : Room := { frames := 2, cells := 0, slots := 0, locals := 43 }
abbrev zsX1_canShift : List Cond := .code yX1_canShift cX1_canShift 4 (some .boolean) :: wsL_law
theorem zyX1_canShift : yX1_canShift.cls ≠ "java/lang/invoke/MethodHandle" ∧ yX1_canShift.cls ≠ "java/lang/invoke/VarHandle" ∧ (parseMethodDescriptor yX1_canShift.desc).map (fun d => d.parameters.length) = some 3 := by decide +kernel
set_option maxHeartbeats 4000000 in
set_option maxRecDepth 100000 in
theorem c_X1_canShift (l : Launch) (D : va_G) (cI cZ cT : ClassId) (h : Nat) (ad : Nat → Nat) (S : zx_S) (sz : Nat) (N : Nat) (p1 : Int32) (p2 : Int32) (p3 : Int32) {R : Int32} (hM : f_X1_canShift N p1 p2 p3 S = some R) : Met l yX1_canShift zsX1_canShift rmX1_canShift (va_Pc [.ref h, .int p1, .int p2, .int p3] (bS D (zx_ty cI cZ cT) (xW1 cI h ad S) sz)) (va_Qi (fun r (_ : Unit) => R = r) (fun _ _ => True) (fun q => sz ≤ q)) 0 0 (fun q => sz ≤ q) := by
  refine Met.ofW (cc := cX1_canShift) (maxL := 4) (ret := (some .boolean)) (by decide) rfl ?_
  intro p e s m args below meth c s₁ B hml hv
  obtain ⟨rfl, hsz, hP, hK, hD0, hN⟩ := hv
  have hx := B.exec
  have hb := B.bytes
  have hr := B.returns
  have hts : ∀ w ∈ wsL_law, w.before _ s = true := fun w hw => atoms_spec (ws := zsX1_canShift) B.pre w (List.mem_cons_of_mem _ hw)
  have hown : s.vm.findClass RX1 = some m.cls := findClass_of_methodNamed B.named
  have hlocks := B.notSynchronized
  subst hsz
  generalize hAe : (fun q : Nat => s.heap.size ≤ q) = A
  have hA : ∀ q : Nat, s.heap.size ≤ q → A q := fun q h => by rw [← hAe]; exact h
  have hD := hD0
  have hS : va_S A s.heap s.heap [] := va_S.rf
  have hl := lv_entry ([.ref h, .int p1, .int p2, .int p3]) (n := 4) (Nat.le_of_ble_eq_true rfl)
  rw [lg_entry_eq]
  generalize (lg_sl ([.ref h, .int p1, .int p2, .int p3]) ++ List.replicate (4 - (lg_sl ([.ref h, .int p1, .int p2, .int p3])).length) Slot.unset).toArray = ls at hl ⊢
  have hl : lv_has ls 4 [(0, .ref h), (1, .int p1), (2, .int p2), (3, .int p3)] := hl
  generalize hQ : MQ below (va_Qi (fun r (_ : Unit) => R = r) (fun _ _ => True) A) ([.ref h, .int p1, .int p2, .int p3] : List Value).toArray s 0 0 A = Q9
  replace hQ := hQ.symm
  unfold f_X1_canShift at hM
  refine lv_aload_n hx hb dX1_canShift_0 rfl (lv_at hl 0 rfl) ?_
  refine lv_iload_n hx hb dX1_canShift_1 rfl (lv_at hl 1 rfl) ?_
  refine lv_iconst (v := 0) hx hb dX1_canShift_2 (by decide) ?_
  obtain ⟨x1, hz2, hM⟩ := zx_b1E hM
  refine va_calli (va_runV (As := [.int p1, .int 0]) (rest := []) ⟨hx, hb, hml, hown, hts⟩ (c_X1_corner l D cI cZ cT h ad S _ N p1 0  hz2) (cwV 2 hts (zg_V zw_15_7 zw_7_21 zw_7_22 zw_1_14 zw_7_23) rfl rfl rfl ⟨rfl, zyX1_corner⟩ ⟨Nat.le_of_ble_eq_true rfl, Nat.le_of_ble_eq_true rfl⟩) ⟨bS_blind, va_recv hK hP (ci := 1) (q0 := 0) rfl rfl, bS_pre hP hK hD hN⟩ rfl rfl hl.1 rfl (lv_room (Nat.le_of_ble_eq_true rfl)) dX1_canShift_3 ⟨Nat.zero_le _, Nat.zero_le _⟩) hS (fun q h1 h2 => absurd h1 (Nat.not_lt.mpr h2)) (fun q h => hA q (Nat.le_trans hS.1 h)) (fun r u t H1 lc ht hvm hw hB hz1 hk1 hS => ?_)
  replace hw : x1 = r := hw; subst hw
  replace hP := zx_keep hP hk1
  refine lv_iload_n hx hb dX1_canShift_6 rfl (lv_at hl 2 rfl) ?_
  refine lv_iadd hx hb dX1_canShift_7 ?_
  refine lv_aload_n hx hb dX1_canShift_8 rfl (lv_at hl 0 rfl) ?_
  refine lv_iload_n hx hb dX1_canShift_9 rfl (lv_at hl 1 rfl) ?_
  refine lv_iconst (v := 1) hx hb dX1_canShift_10 (by decide) ?_
  obtain ⟨x3, hz4, hM⟩ := zx_b1E hM
  refine va_calli (va_runV (As := [.int p1, .int 1]) (rest := [.int (x1 + p2)]) ⟨hx, hb, hml, hown, hts⟩ (c_X1_corner l D cI cZ cT h ad S _ N p1 1  hz4) (cwV 2 hts (zg_V zw_15_7 zw_7_21 zw_7_22 zw_1_14 zw_7_23) rfl rfl rfl ⟨rfl, zyX1_corner⟩ ⟨Nat.le_of_ble_eq_true rfl, Nat.le_of_ble_eq_true rfl⟩) ⟨bS_blind, va_recv hK hP (ci := 1) (q0 := 0) rfl rfl, bS_pre hP hK hD hN⟩ rfl rfl hl.1 rfl (lv_room (Nat.le_of_ble_eq_true rfl)) dX1_canShift_11 ⟨Nat.zero_le _, Nat.zero_le _⟩) hS (fun q h1 h2 => absurd h1 (Nat.not_lt.mpr h2)) (fun q h => hA q (Nat.le_trans hS.1 h)) (fun r u t H1 lc ht hvm hw hB hz1 hk1 hS => ?_)
  replace hw : x3 = r := hw; subst hw
  replace hP := zx_keep hP hk1
  refine lv_iload_n hx hb dX1_canShift_14 rfl (lv_at hl 3 rfl) ?_
  refine lv_iadd hx hb dX1_canShift_15 ?_
  refine lv_aload_n hx hb dX1_canShift_16 rfl (lv_at hl 0 rfl) ?_
  refine lv_iload_n hx hb dX1_canShift_17 rfl (lv_at hl 1 rfl) ?_
  refine lv_iconst (v := 2) hx hb dX1_canShift_18 (by decide) ?_
  obtain ⟨x5, hz6, hM⟩ := zx_b1E hM
  refine va_calli (va_runV (As := [.int p1, .int 2]) (rest := [.int (x3 + p3), .int (x1 + p2)]) ⟨hx, hb, hml, hown, hts⟩ (c_X1_corner l D cI cZ cT h ad S _ N p1 2  hz6) (cwV 2 hts (zg_V zw_15_7 zw_7_21 zw_7_22 zw_1_14 zw_7_23) rfl rfl rfl ⟨rfl, zyX1_corner⟩ ⟨Nat.le_of_ble_eq_true rfl, Nat.le_of_ble_eq_true rfl⟩) ⟨bS_blind, va_recv hK hP (ci := 1) (q0 := 0) rfl rfl, bS_pre hP hK hD hN⟩ rfl rfl hl.1 rfl (lv_room (Nat.le_of_ble_eq_true rfl)) dX1_canShift_19 ⟨Nat.zero_le _, Nat.zero_le _⟩) hS (fun q h1 h2 => absurd h1 (Nat.not_lt.mpr h2)) (fun q h => hA q (Nat.le_trans hS.1 h)) (fun r u t H1 lc ht hvm hw hB hz1 hk1 hS => ?_)
  replace hw : x5 = r := hw; subst hw
  replace hP := zx_keep hP hk1
  refine lv_iload_n hx hb dX1_canShift_22 rfl (lv_at hl 2 rfl) ?_
  refine lv_iadd hx hb dX1_canShift_23 ?_
  refine lv_aload_n hx hb dX1_canShift_24 rfl (lv_at hl 0 rfl) ?_
  refine lv_iload_n hx hb dX1_canShift_25 rfl (lv_at hl 1 rfl) ?_
  refine lv_iconst (v := 3) hx hb dX1_canShift_26 (by decide) ?_
  obtain ⟨x7, hz8, hM⟩ := zx_b1E hM
  refine va_calli (va_runV (As := [.int p1, .int 3]) (rest := [.int (x5 + p2), .int (x3 + p3), .int (x1 + p2)]) ⟨hx, hb, hml, hown, hts⟩ (c_X1_corner l D cI cZ cT h ad S _ N p1 3  hz8) (cwV 2 hts (zg_V zw_15_7 zw_7_21 zw_7_22 zw_1_14 zw_7_23) rfl rfl rfl ⟨rfl, zyX1_corner⟩ ⟨Nat.le_of_ble_eq_true rfl, Nat.le_of_ble_eq_true rfl⟩) ⟨bS_blind, va_recv hK hP (ci := 1) (q0 := 0) rfl rfl, bS_pre hP hK hD hN⟩ rfl rfl hl.1 rfl (lv_room (Nat.le_of_ble_eq_true rfl)) dX1_canShift_27 ⟨Nat.zero_le _, Nat.zero_le _⟩) hS (fun q h1 h2 => absurd h1 (Nat.not_lt.mpr h2)) (fun q h => hA q (Nat.le_trans hS.1 h)) (fun r u t H1 lc ht hvm hw hB hz1 hk1 hS => ?_)
  replace hw : x7 = r := hw; subst hw
  replace hP := zx_keep hP hk1
  refine lv_iload_n hx hb dX1_canShift_30 rfl (lv_at hl 3 rfl) ?_
  refine lv_iadd hx hb dX1_canShift_31 ?_
  obtain ⟨x9, hz10, hM⟩ := zx_b1E hM
  refine va_calli (va_runSN (As := [.int (x1 + p2), .int (x3 + p3), .int (x5 + p2), .int (x7 + p3)]) (rest := []) ⟨hx, hb, hml, hown, hts⟩ (c_X2_isBox l D cI cZ cT _ N (x1 + p2) (x3 + p3) (x5 + p2) (x7 + p3) hz10) ⟨va_cnB 4 hts (zg_c zw_15_9) rfl rfl rfl (hN _ (zx_nw_X1_101)) (hts _ zw_1_2) zyX2_isBox ⟨Nat.le_of_ble_eq_true rfl, Nat.le_of_ble_eq_true rfl⟩, (hts _ zw_15_8), trivial⟩ ⟨bS_blind, bS_pre (zx_P0 hP) hK (zx_D0 hD) hN⟩ rfl rfl hl.1 rfl (lv_room (Nat.le_of_ble_eq_true rfl)) dX1_canShift_32 ⟨Nat.zero_le _, Nat.zero_le _⟩) hS (fun q h1 h2 => absurd h1 (Nat.not_lt.mpr h2)) (fun q h => hA q (Nat.le_trans hS.1 h)) (fun r u t H1 lc ht hvm hw hB hz1 hk1 hS => ?_)
  replace hw : x9 = r := hw; subst hw
  replace hP := zx_keep hP hk1
  obtain ⟨q11, hM⟩ := zx_blE hM
  rw [hQ]
  exact W.zret hx hb hr (zx_nar q11) (fun t ht hW => ⟨⟨x9, (), rfl, (Option.some.inj hM).symm, trivial⟩, hS.F ht⟩) hS.2.2 dX1_canShift_35
