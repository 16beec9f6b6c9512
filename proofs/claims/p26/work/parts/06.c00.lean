/-! ShallowBoxes.put([III)V -/
def f_X2_put (N : Nat) (n0 : Nat) (p1 : Int32) (p2 : Int32) (f0 : (Nat → Int32)) : Option ((Nat → Int32)) :=
  (if p1 < 0 then
  some f0 else
  (if (Int32.ofNat n0) ≤ p1 then
  some f0 else
  (zx_wr n0 p1 (upd f0 (Int32.toNatClampNeg p1) p2) (fun g3 =>
some g3))))
abbrev rmX2_put : Room := { frames := 0, cells := 0, slots := 0, locals := 0 }
abbrev zsX2_put : List Cond := .code yX2_put cX2_put 3 none :: wsL_law
theorem zyX2_put : yX2_put.cls ≠ "java/lang/invoke/MethodHandle" ∧ yX2_put.cls ≠ "java/lang/invoke/VarHandle" ∧ (parseMethodDescriptor yX2_put.desc).map (fun d => d.parameters.length) = some 3 := by decide +kernel
set_option maxHeartbeats 4000000 in
set_option maxRecDepth 100000 in
theorem c_X2_put (l : Launch) (D : va_G) (cI cZ cT : ClassId) (a0 n0 : Nat) (f0 : Nat → Int32) (sz : Nat) (N : Nat) (p1 : Int32) (p2 : Int32) {R : (Nat → Int32)} (hM : f_X2_put N n0 p1 p2 f0 = some R) : Met l yX2_put zsX2_put rmX2_put (va_Pc [.ref a0, .int p1, .int p2] (bS D (zx_ty cI cZ cT) (pW1 cI a0 n0 f0) sz)) (va_Qv (fun u => R = u) (fun u t => va_P D vwCl (pW1 cI a0 n0 u) t.heap) (va_A (pW1 cI a0 n0 f0) sz)) 0 0 (va_A (pW1 cI a0 n0 f0) sz) := by
  refine Met.ofW (cc := cX2_put) (maxL := 3) (ret := none) (by decide) rfl ?_
  intro p e s m args below meth c s₁ B hml hv
  obtain ⟨rfl, hsz, hP, hK, hD0, hN⟩ := hv
  have hx := B.exec
  have hb := B.bytes
  have hr := B.returns
  have hts : ∀ w ∈ wsL_law, w.before _ s = true := fun w hw => atoms_spec (ws := zsX2_put) B.pre w (List.mem_cons_of_mem _ hw)
  have hown : s.vm.findClass RX2 = some m.cls := findClass_of_methodNamed B.named
  have hlocks := B.notSynchronized
  subst hsz
  have hD := hD0.self (sz := s.heap.size)
  generalize hAe : va_A (pW1 cI a0 n0 f0) s.heap.size = A at hD ⊢
  have hA : ∀ q : Nat, s.heap.size ≤ q → A q := fun q h => by rw [← hAe]; exact Or.inr h
  have hS : va_S A s.heap s.heap [] := va_S.rf
  have hl := lv_entry ([.ref a0, .int p1, .int p2]) (n := 3) (Nat.le_of_ble_eq_true rfl)
  rw [lg_entry_eq]
  generalize (lg_sl ([.ref a0, .int p1, .int p2]) ++ List.replicate (3 - (lg_sl ([.ref a0, .int p1, .int p2])).length) Slot.unset).toArray = ls at hl ⊢
  have hl : lv_has ls 3 [(0, .ref a0), (1, .int p1), (2, .int p2)] := hl
  generalize hQ : MQ below (va_Qv (fun u => R = u) (fun u t => va_P D vwCl (pW1 cI a0 n0 u) t.heap) A) ([.ref a0, .int p1, .int p2] : List Value).toArray s 0 0 A = Q9
  replace hQ := hQ.symm
  unfold f_X2_put at hM
  refine lv_aload_n hx hb dX2_put_0 rfl (lv_at hl 0 rfl) ?_
  refine lv_ifnull hx hb dX2_put_1 ?_
  refine lv_iload_n hx hb dX2_put_4 rfl (lv_at hl 1 rfl) ?_
  refine lv_if_lt (tgt := 18) hx hb dX2_put_5 (by decide) (fun q1 => ?_) (fun q1 => ?_)
  · replace hM := zx_t q1 hM
    rw [hQ]
    exact W.vret hx hb hr (fun t ht hW => ⟨⟨f0, rfl, (Option.some.inj hM).symm, by show va_P D vwCl _ t.heap; rw [ht]; exact hP⟩, hS.F ht⟩) hS.2.2 dX2_put_18
  · replace hM := zx_f q1 hM
    refine lv_iload_n hx hb dX2_put_8 rfl (lv_at hl 1 rfl) ?_
    refine lv_aload_n hx hb dX2_put_9 rfl (lv_at hl 0 rfl) ?_
    refine va_alen (D := D) (v := (Int32.ofNat n0)) hx hb hK hP 0 0 rfl rfl rfl dX2_put_10 ?_
    refine lv_icmp_ge (tgt := 18) hx hb dX2_put_11 (by decide) (fun q2 => ?_) (fun q2 => ?_)
    · replace hM := zx_t q2 hM
      rw [hQ]
      exact W.vret hx hb hr (fun t ht hW => ⟨⟨f0, rfl, (Option.some.inj hM).symm, by show va_P D vwCl _ t.heap; rw [ht]; exact hP⟩, hS.F ht⟩) hS.2.2 dX2_put_18
    · replace hM := zx_f q2 hM
      refine lv_aload_n hx hb dX2_put_14 rfl (lv_at hl 0 rfl) ?_
      refine lv_iload_n hx hb dX2_put_15 rfl (lv_at hl 1 rfl) ?_
      refine lv_iload_n hx hb dX2_put_16 rfl (lv_at hl 2 rfl) ?_
      obtain ⟨g3, q4, eg3, hM⟩ := zx_wrE hM
      refine va_iast (D := D) hx hb hK hP hD hS 0 0 rfl rfl q4 dX2_put_17 (fun H lc hP hD hS => ?_)
      rw [pW1_p0] at hP hD
      rw [← eg3] at hP hD
      rw [hQ]
      exact W.vret hx hb hr (fun t ht hW => ⟨⟨g3, rfl, (Option.some.inj hM).symm, by show va_P D vwCl _ t.heap; rw [ht]; exact hP⟩, hS.F ht⟩) hS.2.2 dX2_put_18

/-! ShallowBoxes$RectangleText.lengthen(I)I -/
def f_X0_lengthen (N : Nat) (p1 : Int32) (S : zx_S) : Option (Int32 × zx_S) :=
  (zx_b1 (f_X2_put N 100 (S 2 0) p1 (S 0)) (fun g1 =>
(zx_n (zx_st S 0 g1) (fun T3 =>
(zx_n (zx_st T3 2 (upd (T3 2) 0 ((T3 2 0) + 1))) (fun T4 =>
some ((T4 2 0), T4)))))))
abbrev rmX0_lengthen : Room := { frames := 1, cells := 0, slots := 0, locals := 22 }
abbrev zsX0_lengthen : List Cond := .code yX0_lengthen cX0_lengthen 2 (some .int) :: wsL_law
theorem zyX0_lengthen : yX0_lengthen.cls ≠ "java/lang/invoke/MethodHandle" ∧ yX0_lengthen.cls ≠ "java/lang/invoke/VarHandle" ∧ (parseMethodDescriptor yX0_lengthen.desc).map (fun d => d.parameters.length) = some 1 := by decide +kernel
set_option maxHeartbeats 4000000 in
set_option maxRecDepth 100000 in
theorem c_X0_lengthen (l : Launch) (D : va_G) (cI cZ cT : ClassId) (h : Nat) (ad : Nat → Nat) (S : zx_S) (sz : Nat) (N : Nat) (p1 : Int32) {R : Int32 × zx_S} (hM : f_X0_lengthen N p1 S = some R) : Met l yX0_lengthen zsX0_lengthen rmX0_lengthen (va_Pc [.ref h, .int p1] (bS D (zx_ty cI cZ cT) (xW0 cI h ad S) sz)) (va_Qi (fun r u => R = (r, u)) (fun u t => va_P D vwCl (xW0 cI h ad u) t.heap) (va_A (xW0 cI h ad S) sz)) 0 0 (va_A (xW0 cI h ad S) sz) := by
  refine Met.ofW (cc := cX0_lengthen) (maxL := 2) (ret := (some .int)) (by decide) rfl ?_
  intro p e s m args below meth c s₁ B hml hv
  obtain ⟨rfl, hsz, hP, hK, hD0, hN⟩ := hv
  have hx := B.exec
  have hb := B.bytes
  have hr := B.returns
  have hts : ∀ w ∈ wsL_law, w.before _ s = true := fun w hw => atoms_spec (ws := zsX0_lengthen) B.pre w (List.mem_cons_of_mem _ hw)
  have hown : s.vm.findClass RX0 = some m.cls := findClass_of_methodNamed B.named
  have hlocks := B.notSynchronized
  subst hsz
  have hD := hD0.self (sz := s.heap.size)
  generalize hAe : va_A (xW0 cI h ad S) s.heap.size = A at hD ⊢
  have hA : ∀ q : Nat, s.heap.size ≤ q → A q := fun q h => by rw [← hAe]; exact Or.inr h
  have hS : va_S A s.heap s.heap [] := va_S.rf
  have hl := lv_entry ([.ref h, .int p1]) (n := 2) (Nat.le_of_ble_eq_true rfl)
  rw [lg_entry_eq]
  generalize (lg_sl ([.ref h, .int p1]) ++ List.replicate (2 - (lg_sl ([.ref h, .int p1])).length) Slot.unset).toArray = ls at hl ⊢
  have hl : lv_has ls 2 [(0, .ref h), (1, .int p1)] := hl
  generalize hQ : MQ below (va_Qi (fun r u => R = (r, u)) (fun u t => va_P D vwCl (xW0 cI h ad u) t.heap) A) ([.ref h, .int p1] : List Value).toArray s 0 0 A = Q9
  replace hQ := hQ.symm
  unfold f_X0_lengthen at hM
  refine lv_aload_n hx hb dX0_lengthen_0 rfl (lv_at hl 0 rfl) ?_
  refine va_get (D := D) (ci := 0) (v := .ref (ad 0)) (C := RX0) (T := TX0) (N := 6) hx hb hts inlX0 hown hK hP 0 rfl rfl 0 (by decide) (hts _ zw_3_10) (fun _ h9 => h9) rfl dX0_lengthen_1 ?_
  refine lv_aload_n hx hb dX0_lengthen_4 rfl (lv_at hl 0 rfl) ?_
  refine va_get (D := D) (ci := 0) (v := .int (S 2 0)) (C := RX0) (T := TX0) (N := 6) hx hb hts inlX0 hown hK hP 0 rfl rfl 1 (by decide) (hts _ zw_4_22) (fun _ h9 => h9) rfl dX0_lengthen_5 ?_
  refine lv_iload_n hx hb dX0_lengthen_8 rfl (lv_at hl 1 rfl) ?_
  obtain ⟨g1, hz2, hM⟩ := zx_b1E hM
  refine va_callv (va_runSN (As := [.ref (ad 0), .int (S 2 0), .int p1]) (rest := []) ⟨hx, hb, hml, hown, hts⟩ (c_X2_put l D cI cZ cT (ad 0) 100 (S 0) _ N (S 2 0) p1 hz2) ⟨va_cnB 3 hts (zg_c zw_3_0) rfl rfl rfl (hN _ (zx_nw_X0_22)) (hts _ zw_1_2) zyX2_put ⟨Nat.le_of_ble_eq_true rfl, Nat.le_of_ble_eq_true rfl⟩, (hts _ zw_2_23), trivial⟩ ⟨bS_blind, bS_pre (zx_P1 hP 1 (rfl)) hK (zx_D1 hD 1 (rfl)) hN⟩ rfl rfl hl.1 rfl (lv_room (Nat.le_of_ble_eq_true rfl)) dX0_lengthen_9 ⟨Nat.zero_le _, Nat.zero_le _⟩) hS (fun q _ h => zx_f1 hD hS hA (k := 1) rfl q h) (fun q h => zx_f1 hD hS hA (k := 1) rfl q h) (fun u t H1 lc ht hvm hw hB hz1 hk1 hS => ?_)
  replace hw : g1 = u := hw; subst hw
  rw [ht] at hB
  replace hP := zx_set1 (k := 1) hP hD rfl hk1 hB
  replace hD := va_D.set (p := 1) (e := .inl (cI, 100, .inl g1)) hD rfl
  rw [xW0_pa0] at hP hD
  obtain ⟨T3, eT3, hM⟩ := zx_nE hM
  rw [← eT3] at hP hD
  refine lv_aload_n hx hb dX0_lengthen_12 rfl (lv_at hl 0 rfl) ?_
  refine lv_dup hx hb dX0_lengthen_13 rfl ?_
  refine va_get (D := D) (ci := 0) (v := .int (T3 2 0)) (C := RX0) (T := TX0) (N := 6) hx hb hts inlX0 hown hK hP 0 rfl rfl 1 (by decide) (hts _ zw_4_22) (fun _ h9 => h9) rfl dX0_lengthen_14 ?_
  refine lv_iconst (v := 1) hx hb dX0_lengthen_17 (by decide) ?_
  refine lv_iadd hx hb dX0_lengthen_18 ?_
  obtain ⟨T4, eT4, hM⟩ := zx_nE hM
  refine va_put (D := D) (ci := 0) (v := .int ((T3 2 0) + 1)) (ty := .int) (C := RX0) (T := TX0) (N := 6) hx hb hts inlX0 tyX0 tyX0_ok nmX0 hown hK hP hD hS 0 rfl rfl 1 (by decide) (hts _ zw_4_22) (fun _ h9 => h9) rfl (by decide +kernel) rfl rfl (Nat.le_of_ble_eq_true rfl) dX0_lengthen_19 (fun H lc hP hD hS => ?_)
  replace hP : va_P D vwCl (xW0 cI h ad T4) H := by rw [eT4]; exact hP
  replace hD : va_D A (xW0 cI h ad T4) := by rw [eT4]; exact hD
  refine lv_aload_n hx hb dX0_lengthen_22 rfl (lv_at hl 0 rfl) ?_
  refine va_get (D := D) (ci := 0) (v := .int (T4 2 0)) (C := RX0) (T := TX0) (N := 6) hx hb hts inlX0 hown hK hP 0 rfl rfl 1 (by decide) (hts _ zw_4_22) (fun _ h9 => h9) rfl dX0_lengthen_23 ?_
  rw [hQ]
  exact W.iret hx hb hr (fun t ht hW => ⟨⟨(T4 2 0), T4, rfl, (Option.some.inj hM).symm, by show va_P D vwCl _ t.heap; rw [ht]; exact hP⟩, hS.F ht⟩) hS.2.2 dX0_lengthen_26

/-! ShallowBoxes.get([II)I -/
def f_X2_get (N : Nat) (n0 : Nat) (p1 : Int32) (f0 : (Nat → Int32)) : Option (Int32) :=
  (if p1 < 0 then
  some 0 else
  (if (Int32.ofNat n0) ≤ p1 then
  some 0 else
  (zx_rd n0 f0 p1 (fun x3 =>
some x3))))
abbrev rmX2_get : Room := { frames := 0, cells := 0, slots := 0, locals := 0 }
abbrev zsX2_get : List Cond := .code yX2_get cX2_get 2 (some .int) :: wsL_law
theorem zyX2_get : yX2_get.cls ≠ "java/lang/invoke/MethodHandle" ∧ yX2_get.cls ≠ "java/lang/invoke/VarHandle" ∧ (parseMethodDescriptor yX2_get.desc).map (fun d => d.parameters.length) = some 2 := by decide +kernel
set_option maxHeartbeats 4000000 in
set_option maxRecDepth 100000 in
theorem c_X2_get (l : Launch) (D : va_G) (cI cZ cT : ClassId) (a0 n0 : Nat) (f0 : Nat → Int32) (sz : Nat) (N : Nat) (p1 : Int32) {R : Int32} (hM : f_X2_get N n0 p1 f0 = some R) : Met l yX2_get zsX2_get rmX2_get (va_Pc [.ref a0, .int p1] (bS D (zx_ty cI cZ cT) (pW1 cI a0 n0 f0) sz)) (va_Qi (fun r (_ : Unit) => R = r) (fun _ _ => True) (fun q => sz ≤ q)) 0 0 (fun q => sz ≤ q) := by
  refine Met.ofW (cc := cX2_get) (maxL := 2) (ret := (some .int)) (by decide) rfl ?_
  intro p e s m args below meth c s₁ B hml hv
  obtain ⟨rfl, hsz, hP, hK, hD0, hN⟩ := hv
  have hx := B.exec
  have hb := B.bytes
  have hr := B.returns
  have hts : ∀ w ∈ wsL_law, w.before _ s = true := fun w hw => atoms_spec (ws := zsX2_get) B.pre w (List.mem_cons_of_mem _ hw)
  have hown : s.vm.findClass RX2 = some m.cls := findClass_of_methodNamed B.named
  have hlocks := B.notSynchronized
  subst hsz
  generalize hAe : (fun q : Nat => s.heap.size ≤ q) = A
  have hA : ∀ q : Nat, s.heap.size ≤ q → A q := fun q h => by rw [← hAe]; exact h
  have hD := hD0
  have hS : va_S A s.heap s.heap [] := va_S.rf
  have hl := lv_entry ([.ref a0, .int p1]) (n := 2) (Nat.le_of_ble_eq_true rfl)
  rw [lg_entry_eq]
  generalize (lg_sl ([.ref a0, .int p1]) ++ List.replicate (2 - (lg_sl ([.ref a0, .int p1])).length) Slot.unset).toArray = ls at hl ⊢
  have hl : lv_has ls 2 [(0, .ref a0), (1, .int p1)] := hl
  generalize hQ : MQ below (va_Qi (fun r (_ : Unit) => R = r) (fun _ _ => True) A) ([.ref a0, .int p1] : List Value).toArray s 0 0 A = Q9
  replace hQ := hQ.symm
  unfold f_X2_get at hM
  refine lv_aload_n hx hb dX2_get_0 rfl (lv_at hl 0 rfl) ?_
  refine lv_ifnull hx hb dX2_get_1 ?_
  refine lv_iload_n hx hb dX2_get_4 rfl (lv_at hl 1 rfl) ?_
  refine lv_if_lt (tgt := 20) hx hb dX2_get_5 (by decide) (fun q1 => ?_) (fun q1 => ?_)
  · replace hM := zx_t q1 hM
    refine lv_iconst (v := 0) hx hb dX2_get_20 (by decide) ?_
    rw [hQ]
    exact W.iret hx hb hr (fun t ht hW => ⟨⟨0, (), rfl, (Option.some.inj hM).symm, trivial⟩, hS.F ht⟩) hS.2.2 dX2_get_21
  · replace hM := zx_f q1 hM
    refine lv_iload_n hx hb dX2_get_8 rfl (lv_at hl 1 rfl) ?_
    refine lv_aload_n hx hb dX2_get_9 rfl (lv_at hl 0 rfl) ?_
    refine va_alen (D := D) (v := (Int32.ofNat n0)) hx hb hK hP 0 0 rfl rfl rfl dX2_get_10 ?_
    refine lv_icmp_ge (tgt := 20) hx hb dX2_get_11 (by decide) (fun q2 => ?_) (fun q2 => ?_)
    · replace hM := zx_t q2 hM
      refine lv_iconst (v := 0) hx hb dX2_get_20 (by decide) ?_
      rw [hQ]
      exact W.iret hx hb hr (fun t ht hW => ⟨⟨0, (), rfl, (Option.some.inj hM).symm, trivial⟩, hS.F ht⟩) hS.2.2 dX2_get_21
    · replace hM := zx_f q2 hM
      refine lv_aload_n hx hb dX2_get_14 rfl (lv_at hl 0 rfl) ?_
      refine lv_iload_n hx hb dX2_get_15 rfl (lv_at hl 1 rfl) ?_
      obtain ⟨x3, q4, ex3, hM⟩ := zx_rdE hM
      refine va_iald (D := D) hx hb hK hP 0 0 rfl rfl q4 dX2_get_16 ?_
      refine zx_top ex3 ?_
      refine lv_goto (tgt := 21) hx hb dX2_get_17 (by decide) ?_
      rw [hQ]
      exact W.iret hx hb hr (fun t ht hW => ⟨⟨x3, (), rfl, (Option.some.inj hM).symm, trivial⟩, hS.F ht⟩) hS.2.2 dX2_get_21

/-! ShallowBoxes$RectangleText.corner(II)I -/
def f_X0_corner (N : Nat) (p1 : Int32) (p2 : Int32) (S : zx_S) : Option (Int32) :=
  (zx_b1 (f_X2_get N 56 ((p1 * 4) + p2) (S 1)) (fun x1 =>
some x1))
abbrev rmX0_corner : Room := { frames := 1, cells := 0, slots := 0, locals := 21 }
abbrev zsX0_corner : List Cond := .code yX0_corner cX0_corner 3 (some .int) :: wsL_law
theorem zyX0_corner : yX0_corner.cls ≠ "java/lang/invoke/MethodHandle" ∧ yX0_corner.cls ≠ "java/lang/invoke/VarHandle" ∧ (parseMethodDescriptor yX0_corner.desc).map (fun d => d.parameters.length) = some 2 := by decide +kernel
set_option maxHeartbeats 4000000 in
set_option maxRecDepth 100000 in
theorem c_X0_corner (l : Launch) (D : va_G) (cI cZ cT : ClassId) (h : Nat) (ad : Nat → Nat) (S : zx_S) (sz : Nat) (N : Nat) (p1 : Int32) (p2 : Int32) {R : Int32} (hM : f_X0_corner N p1 p2 S = some R) : Met l yX0_corner zsX0_corner rmX0_corner (va_Pc [.ref h, .int p1, .int p2] (bS D (zx_ty cI cZ cT) (xW0 cI h ad S) sz)) (va_Qi (fun r (_ : Unit) => R = r) (fun _ _ => True) (fun q => sz ≤ q)) 0 0 (fun q => sz ≤ q) := by
  refine Met.ofW (cc := cX0_corner) (maxL := 3) (ret := (some .int)) (by decide) rfl ?_
  intro p e s m args below meth c s₁ B hml hv
  obtain ⟨rfl, hsz, hP, hK, hD0, hN⟩ := hv
  have hx := B.exec
  have hb := B.bytes
  have hr := B.returns
  have hts : ∀ w ∈ wsL_law, w.before _ s = true := fun w hw => atoms_spec (ws := zsX0_corner) B.pre w (List.mem_cons_of_mem _ hw)
  have hown : s.vm.findClass RX0 = some m.cls := findClass_of_methodNamed B.named
  have hlocks := B.notSynchronized
  subst hsz
  generalize hAe : (fun q : Nat => s.heap.size ≤ q) = A
  have hA : ∀ q : Nat, s.heap.size ≤ q → A q := fun q h => by rw [← hAe]; exact h
  have hD := hD0
  have hS : va_S A s.heap s.heap [] := va_S.rf
  have hl := lv_entry ([.ref h, .int p1, .int p2]) (n := 3) (Nat.le_of_ble_eq_true rfl)
  rw [lg_entry_eq]
  generalize (lg_sl ([.ref h, .int p1, .int p2]) ++ List.replicate (3 - (lg_sl ([.ref h, .int p1, .int p2])).length) Slot.unset).toArray = ls at hl ⊢
  have hl : lv_has ls 3 [(0, .ref h), (1, .int p1), (2, .int p2)] := hl
  generalize hQ : MQ below (va_Qi (fun r (_ : Unit) => R = r) (fun _ _ => True) A) ([.ref h, .int p1, .int p2] : List Value).toArray s 0 0 A = Q9
  replace hQ := hQ.symm
  unfold f_X0_corner at hM
  refine lv_aload_n hx hb dX0_corner_0 rfl (lv_at hl 0 rfl) ?_
  refine va_get (D := D) (ci := 0) (v := .ref (ad 1)) (C := RX0) (T := TX0) (N := 6) hx hb hts inlX0 hown hK hP 0 rfl rfl 2 (by decide) (hts _ zw_3_11) (fun _ h9 => h9) rfl dX0_corner_1 ?_
  refine lv_iload_n hx hb dX0_corner_4 rfl (lv_at hl 1 rfl) ?_
  refine lv_iconst (v := 4) hx hb dX0_corner_5 (by decide) ?_
  refine lv_imul hx hb dX0_corner_6 ?_
  refine lv_iload_n hx hb dX0_corner_7 rfl (lv_at hl 2 rfl) ?_
  refine lv_iadd hx hb dX0_corner_8 ?_
  obtain ⟨x1, hz2, hM⟩ := zx_b1E hM
  refine va_calli (va_runSN (As := [.ref (ad 1), .int ((p1 * 4) + p2)]) (rest := []) ⟨hx, hb, hml, hown, hts⟩ (c_X2_get l D cI cZ cT (ad 1) 56 (S 1) _ N ((p1 * 4) + p2) hz2) ⟨va_cnB 2 hts (zg_c zw_3_6) rfl rfl rfl (hN _ (zx_nw_X0_26)) (hts _ zw_1_2) zyX2_get ⟨Nat.le_of_ble_eq_true rfl, Nat.le_of_ble_eq_true rfl⟩, (hts _ zw_3_5), trivial⟩ ⟨bS_blind, bS_pre (zx_P1 hP 2 (rfl)) hK (zx_D1 hD 2 (rfl)) hN⟩ rfl rfl hl.1 rfl (lv_room (Nat.le_of_ble_eq_true rfl)) dX0_corner_9 ⟨Nat.zero_le _, Nat.zero_le _⟩) hS (fun q h1 h2 => absurd h1 (Nat.not_lt.mpr h2)) (fun q h => hA q (Nat.le_trans hS.1 h)) (fun r u t H1 lc ht hvm hw hB hz1 hk1 hS => ?_)
  replace hw : x1 = r := hw; subst hw
  replace hP := zx_keep hP hk1
  rw [hQ]
  exact W.iret hx hb hr (fun t ht hW => ⟨⟨x1, (), rfl, (Option.some.inj hM).symm, trivial⟩, hS.F ht⟩) hS.2.2 dX0_corner_12

/-! ShallowBoxes$RectangleText.readNumber(II)I -/
def f_X0_readNumber_j103 (N : Nat) (v3 : Int32) (v4 : Int32) (S_ : zx_S) : Option (Int32 × zx_S) :=
  (if v4 = 0 then
  (zx_n (zx_st S_ 2 (upd (S_ 2) 3 1)) (fun T2 =>
some (v3, T2))) else
  some (v3, S_))
def f_X0_readNumber_j32 (N : Nat) (k5 : Int32 → Int32 → Int32 → Int32 → zx_S → Option (Int32 × zx_S)) (v1 : Int32) (v2 : Int32) (v3 : Int32) (v4 : Int32) (S_ : zx_S) : Option (Int32 × zx_S) :=
  (zx_b1 (f_X2_get N 100 (S_ 2 2) (S_ 0)) (fun x5 =>
(zx_n (x5 - 48) (fun x7 =>
(zx_n ((v3 * 10) + x7) (fun x8 =>
(if x7 < 0 then
  f_X0_readNumber_j103 N  v3 v4 S_ else
  (if 9 < x7 then
  f_X0_readNumber_j103 N  v3 v4 S_ else
  (if x8 < v1 then
  f_X0_readNumber_j103 N  v3 v4 S_ else
  (if x8 ≤ v2 then
  (zx_n (v4 + 1) (fun x13 =>
(zx_n (zx_st S_ 2 (upd (S_ 2) 2 ((S_ 2 2) + 1))) (fun T14 =>
k5 v1 v2 x8 x13 T14)))) else
  f_X0_readNumber_j103 N  v3 v4 S_))))))))))
def f_X0_readNumber_l5 (N : Nat) : Nat → Int32 → Int32 → Int32 → Int32 → zx_S → Option (Int32 × zx_S)
  | 0, _, _, _, _, _ => none
  | n5 + 1, v1, v2, v3, v4, S_ => (if (S_ 2 3) = 0 then
  (if (S_ 2 0) ≤ (S_ 2 2) then
  f_X0_readNumber_j103 N  v3 v4 S_ else
  (if v4 = 0 then
  f_X0_readNumber_j32 N (f_X0_readNumber_l5 N  n5) v1 v2 v3 v4 S_ else
  (if v3 ≤ 0 then
  f_X0_readNumber_j103 N  v3 v4 S_ else
  f_X0_readNumber_j32 N (f_X0_readNumber_l5 N  n5) v1 v2 v3 v4 S_))) else
  f_X0_readNumber_j103 N  v3 v4 S_)
def f_X0_readNumber (N : Nat) (p1 : Int32) (p2 : Int32) (S : zx_S) : Option (Int32 × zx_S) :=
  f_X0_readNumber_l5 N  N p1 p2 0 0 S
abbrev rmX0_readNumber : Room := { frames := 1, cells := 0, slots := 0, locals := 21 }
abbrev zsX0_readNumber : List Cond := .code yX0_readNumber cX0_readNumber 7 (some .int) :: wsL_law
theorem zyX0_readNumber : yX0_readNumber.cls ≠ "java/lang/invoke/MethodHandle" ∧ yX0_readNumber.cls ≠ "java/lang/invoke/VarHandle" ∧ (parseMethodDescriptor yX0_readNumber.desc).map (fun d => d.parameters.length) = some 2 := by decide +kernel
set_option maxHeartbeats 4000000 in
set_option maxRecDepth 100000 in
theorem c_X0_readNumber (l : Launch) (D : va_G) (cI cZ cT : ClassId) (h : Nat) (ad : Nat → Nat) (S : zx_S) (sz : Nat) (N : Nat) (p1 : Int32) (p2 : Int32) {R : Int32 × zx_S} (hM : f_X0_readNumber N p1 p2 S = some R) : Met l yX0_readNumber zsX0_readNumber rmX0_readNumber (va_Pc [.ref h, .int p1, .int p2] (bS D (zx_ty cI cZ cT) (xW0 cI h ad S) sz)) (va_Qi (fun r u => R = (r, u)) (fun u t => va_P D vwCl (xW0 cI h ad u) t.heap) (va_A (xW0 cI h ad S) sz)) 0 0 (va_A (xW0 cI h ad S) sz) := by
  refine Met.ofW (cc := cX0_readNumber) (maxL := 7) (ret := (some .int)) (by decide) rfl ?_
  intro p e s m args below meth c s₁ B hml hv
  obtain ⟨rfl, hsz, hP, hK, hD0, hN⟩ := hv
  have hx := B.exec
  have hb := B.bytes
  have hr := B.returns
  have hts : ∀ w ∈ wsL_law, w.before _ s = true := fun w hw => atoms_spec (ws := zsX0_readNumber) B.pre w (List.mem_cons_of_mem _ hw)
  have hown : s.vm.findClass RX0 = some m.cls := findClass_of_methodNamed B.named
  have hlocks := B.notSynchronized
  subst hsz
  have hD := hD0.self (sz := s.heap.size)
  generalize hAe : va_A (xW0 cI h ad S) s.heap.size = A at hD ⊢
  have hA : ∀ q : Nat, s.heap.size ≤ q → A q := fun q h => by rw [← hAe]; exact Or.inr h
  have hS : va_S A s.heap s.heap [] := va_S.rf
  have hl := lv_entry ([.ref h, .int p1, .int p2]) (n := 7) (Nat.le_of_ble_eq_true rfl)
  rw [lg_entry_eq]
  generalize (lg_sl ([.ref h, .int p1, .int p2]) ++ List.replicate (7 - (lg_sl ([.ref h, .int p1, .int p2])).length) Slot.unset).toArray = ls at hl ⊢
  have hl : lv_has ls 7 [(0, .ref h), (1, .int p1), (2, .int p2)] := hl
  generalize hQ : MQ below (va_Qi (fun r u => R = (r, u)) (fun u t => va_P D vwCl (xW0 cI h ad u) t.heap) A) ([.ref h, .int p1, .int p2] : List Value).toArray s 0 0 A = Q9
  replace hQ := hQ.symm
  unfold f_X0_readNumber at hM
  have l5 : ∀ (n5 : Nat) (v1 : Int32) (v2 : Int32) (v3 : Int32) (v4 : Int32) (S_ : zx_S) (H : Heap) (lc : List Loc) (ls : Array Slot), va_P D vwCl (xW0 cI h ad S_) H → va_D A (xW0 cI h ad S_) → va_S A s.heap H lc → lv_has ls 7 [(0, .ref h), (1, .int v1), (2, .int v2), (3, .int v3), (4, .int v4)] → f_X0_readNumber_l5 N n5 v1 v2 v3 v4 S_ = some R → W p l e (headSpec zsX0_readNumber rmX0_readNumber).room s m ([.ref h, .int p1, .int p2] : List Value).toArray below meth c H lc 0 0 Q9 (F0 m 5 ls []) := by
    intro n5
    induction n5 with
    | zero =>
      intro v1 v2 v3 v4 S_ H lc ls hP hD hS hl hM
      rw [f_X0_readNumber_l5] at hM; exact absurd hM (by intro h; cases h)
    | succ n5 ih5 =>
      intro v1 v2 v3 v4 S_ H lc ls hP hD hS hl hM
      rw [f_X0_readNumber_l5] at hM
      have j103 : ∀ (v3 : Int32) (v4 : Int32) (S_ : zx_S) (H : Heap) (lc : List Loc) (ls : Array Slot), va_P D vwCl (xW0 cI h ad S_) H → va_D A (xW0 cI h ad S_) → va_S A s.heap H lc → lv_has ls 7 [(0, .ref h), (3, .int v3), (4, .int v4)] → f_X0_readNumber_j103 N v3 v4 S_ = some R → W p l e (headSpec zsX0_readNumber rmX0_readNumber).room s m ([.ref h, .int p1, .int p2] : List Value).toArray below meth c H lc 0 0 Q9 (F0 m 103 ls []) := by
        intro v3 v4 S_ H lc ls hP hD hS hl hM
        unfold f_X0_readNumber_j103 at hM
        refine lv_iload hx hb dX0_readNumber_103 (lv_at hl 2 rfl) ?_
        refine lv_if_ne (tgt := 113) hx hb dX0_readNumber_105 (by decide) (fun q1 => ?_) (fun q1 => ?_)
        · replace hM := zx_f q1 hM
          refine lv_iload_n hx hb dX0_readNumber_113 rfl (lv_at hl 1 rfl) ?_
          rw [hQ]
          exact W.iret hx hb hr (fun t ht hW => ⟨⟨v3, S_, rfl, (Option.some.inj hM).symm, by show va_P D vwCl _ t.heap; rw [ht]; exact hP⟩, hS.F ht⟩) hS.2.2 dX0_readNumber_114
        · replace hM := zx_t q1 hM
          refine lv_aload_n hx hb dX0_readNumber_108 rfl (lv_at hl 0 rfl) ?_
          refine lv_iconst (v := 1) hx hb dX0_readNumber_109 (by decide) ?_
          obtain ⟨T2, eT2, hM⟩ := zx_nE hM
          refine va_put (D := D) (ci := 0) (v := .int 1) (ty := .boolean) (C := RX0) (T := TX0) (N := 6) hx hb hts inlX0 tyX0 tyX0_ok nmX0 hown hK hP hD hS 0 rfl rfl 5 (by decide) (hts _ zw_9_15) (fun _ h9 => h9) rfl (by decide +kernel) rfl rfl (Nat.le_of_ble_eq_true rfl) dX0_readNumber_110 (fun H lc hP hD hS => ?_)
          replace hP : va_P D vwCl (xW0 cI h ad T2) H := by rw [eT2]; exact hP
          replace hD : va_D A (xW0 cI h ad T2) := by rw [eT2]; exact hD
          refine lv_iload_n hx hb dX0_readNumber_113 rfl (lv_at hl 1 rfl) ?_
          rw [hQ]
          exact W.iret hx hb hr (fun t ht hW => ⟨⟨v3, T2, rfl, (Option.some.inj hM).symm, by show va_P D vwCl _ t.heap; rw [ht]; exact hP⟩, hS.F ht⟩) hS.2.2 dX0_readNumber_114
      refine lv_aload_n hx hb dX0_readNumber_5 rfl (lv_at hl 0 rfl) ?_
      refine va_get (D := D) (ci := 0) (v := .int (S_ 2 3)) (C := RX0) (T := TX0) (N := 6) hx hb hts inlX0 hown hK hP 0 rfl rfl 5 (by decide) (hts _ zw_9_15) (fun _ h9 => h9) rfl dX0_readNumber_6 ?_
      refine lv_if_ne (tgt := 103) hx hb dX0_readNumber_9 (by decide) (fun q3 => ?_) (fun q3 => ?_)
      · replace hM := zx_f q3 hM
        exact j103 v3 v4 S_ _ _ _ hP hD hS (lv_sub hl [0, 3, 4] rfl) hM
      · replace hM := zx_t q3 hM
        refine lv_aload_n hx hb dX0_readNumber_12 rfl (lv_at hl 0 rfl) ?_
        refine va_get (D := D) (ci := 0) (v := .int (S_ 2 2)) (C := RX0) (T := TX0) (N := 6) hx hb hts inlX0 hown hK hP 0 rfl rfl 4 (by decide) (hts _ zw_9_13) (fun _ h9 => h9) rfl dX0_readNumber_13 ?_
        refine lv_aload_n hx hb dX0_readNumber_16 rfl (lv_at hl 0 rfl) ?_
        refine va_get (D := D) (ci := 0) (v := .int (S_ 2 0)) (C := RX0) (T := TX0) (N := 6) hx hb hts inlX0 hown hK hP 0 rfl rfl 1 (by decide) (hts _ zw_4_22) (fun _ h9 => h9) rfl dX0_readNumber_17 ?_
        refine lv_icmp_ge (tgt := 103) hx hb dX0_readNumber_20 (by decide) (fun q4 => ?_) (fun q4 => ?_)
        · replace hM := zx_t q4 hM
          exact j103 v3 v4 S_ _ _ _ hP hD hS (lv_sub hl [0, 3, 4] rfl) hM
        · replace hM := zx_f q4 hM
          have j32 : ∀ (v1 : Int32) (v2 : Int32) (v3 : Int32) (v4 : Int32) (S_ : zx_S) (H : Heap) (lc : List Loc) (ls : Array Slot), va_P D vwCl (xW0 cI h ad S_) H → va_D A (xW0 cI h ad S_) → va_S A s.heap H lc → lv_has ls 7 [(0, .ref h), (1, .int v1), (2, .int v2), (3, .int v3), (4, .int v4)] → f_X0_readNumber_j32 N (f_X0_readNumber_l5 N  n5) v1 v2 v3 v4 S_ = some R → W p l e (headSpec zsX0_readNumber rmX0_readNumber).room s m ([.ref h, .int p1, .int p2] : List Value).toArray below meth c H lc 0 0 Q9 (F0 m 32 ls []) := by
            intro v1 v2 v3 v4 S_ H lc ls hP hD hS hl hM
            unfold f_X0_readNumber_j32 at hM
            refine lv_aload_n hx hb dX0_readNumber_32 rfl (lv_at hl 0 rfl) ?_
            refine va_get (D := D) (ci := 0) (v := .ref (ad 0)) (C := RX0) (T := TX0) (N := 6) hx hb hts inlX0 hown hK hP 0 rfl rfl 0 (by decide) (hts _ zw_3_10) (fun _ h9 => h9) rfl dX0_readNumber_33 ?_
            refine lv_aload_n hx hb dX0_readNumber_36 rfl (lv_at hl 0 rfl) ?_
            refine va_get (D := D) (ci := 0) (v := .int (S_ 2 2)) (C := RX0) (T := TX0) (N := 6) hx hb hts inlX0 hown hK hP 0 rfl rfl 4 (by decide) (hts _ zw_9_13) (fun _ h9 => h9) rfl dX0_readNumber_37 ?_
            obtain ⟨x5, hz6, hM⟩ := zx_b1E hM
            refine va_calli (va_runSN (As := [.ref (ad 0), .int (S_ 2 2)]) (rest := []) ⟨hx, hb, hml, hown, hts⟩ (c_X2_get l D cI cZ cT (ad 0) 100 (S_ 0) _ N (S_ 2 2) hz6) ⟨va_cnB 2 hts (zg_c zw_3_6) rfl rfl rfl (hN _ (zx_nw_X0_26)) (hts _ zw_1_2) zyX2_get ⟨Nat.le_of_ble_eq_true rfl, Nat.le_of_ble_eq_true rfl⟩, (hts _ zw_3_5), trivial⟩ ⟨bS_blind, bS_pre (zx_P1 hP 1 (rfl)) hK (zx_D1 hD 1 (rfl)) hN⟩ rfl rfl hl.1 rfl (lv_room (Nat.le_of_ble_eq_true rfl)) dX0_readNumber_40 ⟨Nat.zero_le _, Nat.zero_le _⟩) hS (fun q h1 h2 => absurd h1 (Nat.not_lt.mpr h2)) (fun q h => hA q (Nat.le_trans hS.1 h)) (fun r u t H1 lc ht hvm hw hB hz1 hk1 hS => ?_)
            replace hw : x5 = r := hw; subst hw
            replace hP := zx_keep hP hk1
            refine lv_bipush (v := 48) hx hb dX0_readNumber_43 (by decide) ?_
            refine lv_isub hx hb dX0_readNumber_45 ?_
            obtain ⟨x7, ex7, hM⟩ := zx_nE hM
            refine zx_top ex7 ?_
            refine lv_istore (lv' := [(5, .int x7), (0, .ref h), (1, .int v1), (2, .int v2), (3, .int v3), (4, .int v4)]) hx hb dX0_readNumber_46 hl (by decide) rfl (fun ls hl => ?_)
            refine lv_iload_n hx hb dX0_readNumber_48 rfl (lv_at hl 4 rfl) ?_
            refine lv_bipush (v := 10) hx hb dX0_readNumber_49 (by decide) ?_
            refine lv_imul hx hb dX0_readNumber_51 ?_
            refine lv_iload hx hb dX0_readNumber_52 (lv_at hl 0 rfl) ?_
            refine lv_iadd hx hb dX0_readNumber_54 ?_
            obtain ⟨x8, ex8, hM⟩ := zx_nE hM
            refine zx_top ex8 ?_
            refine lv_istore (lv' := [(6, .int x8), (5, .int x7), (0, .ref h), (1, .int v1), (2, .int v2), (3, .int v3), (4, .int v4)]) hx hb dX0_readNumber_55 hl (by decide) rfl (fun ls hl => ?_)
            refine lv_iload hx hb dX0_readNumber_57 (lv_at hl 1 rfl) ?_
            refine lv_if_lt (tgt := 103) hx hb dX0_readNumber_59 (by decide) (fun q9 => ?_) (fun q9 => ?_)
            · replace hM := zx_t q9 hM
              exact j103 v3 v4 S_ _ _ _ hP hD hS (lv_sub hl [2, 5, 6] rfl) hM
            · replace hM := zx_f q9 hM
              refine lv_iload hx hb dX0_readNumber_62 (lv_at hl 1 rfl) ?_
              refine lv_bipush (v := 9) hx hb dX0_readNumber_64 (by decide) ?_
              refine lv_icmp_gt (tgt := 103) hx hb dX0_readNumber_66 (by decide) (fun q10 => ?_) (fun q10 => ?_)
              · replace hM := zx_t q10 hM
                exact j103 v3 v4 S_ _ _ _ hP hD hS (lv_sub hl [2, 5, 6] rfl) hM
              · replace hM := zx_f q10 hM
                refine lv_iload hx hb dX0_readNumber_69 (lv_at hl 0 rfl) ?_
                refine lv_iload_n hx hb dX0_readNumber_71 rfl (lv_at hl 3 rfl) ?_
                refine lv_icmp_lt (tgt := 103) hx hb dX0_readNumber_72 (by decide) (fun q11 => ?_) (fun q11 => ?_)
                · replace hM := zx_t q11 hM
                  exact j103 v3 v4 S_ _ _ _ hP hD hS (lv_sub hl [2, 5, 6] rfl) hM
                · replace hM := zx_f q11 hM
                  refine lv_iload hx hb dX0_readNumber_75 (lv_at hl 0 rfl) ?_
                  refine lv_iload_n hx hb dX0_readNumber_77 rfl (lv_at hl 4 rfl) ?_
                  refine lv_icmp_le (tgt := 84) hx hb dX0_readNumber_78 (by decide) (fun q12 => ?_) (fun q12 => ?_)
                  · replace hM := zx_t q12 hM
                    refine lv_iload hx hb dX0_readNumber_84 (lv_at hl 0 rfl) ?_
                    refine lv_istore_n (lv' := [(3, .int x8), (6, .int x8), (5, .int x7), (0, .ref h), (1, .int v1), (2, .int v2), (4, .int v4)]) hx hb dX0_readNumber_86 rfl hl (by decide) rfl (fun ls hl => ?_)
                    obtain ⟨x13, ex13, hM⟩ := zx_nE hM
                    refine lv_iinc (v := x13) (lv' := [(4, .int x13), (3, .int x8), (6, .int x8), (5, .int x7), (0, .ref h), (1, .int v1), (2, .int v2)]) hx hb dX0_readNumber_87 hl (k := 6) rfl (by rw [ex13]; rfl) (by decide) rfl (fun ls hl => ?_)
                    refine lv_aload_n hx hb dX0_readNumber_90 rfl (lv_at hl 4 rfl) ?_
                    refine lv_dup hx hb dX0_readNumber_91 rfl ?_
                    refine va_get (D := D) (ci := 0) (v := .int (S_ 2 2)) (C := RX0) (T := TX0) (N := 6) hx hb hts inlX0 hown hK hP 0 rfl rfl 4 (by decide) (hts _ zw_9_13) (fun _ h9 => h9) rfl dX0_readNumber_92 ?_
                    refine lv_iconst (v := 1) hx hb dX0_readNumber_95 (by decide) ?_
                    refine lv_iadd hx hb dX0_readNumber_96 ?_
                    obtain ⟨T14, eT14, hM⟩ := zx_nE hM
                    refine va_put (D := D) (ci := 0) (v := .int ((S_ 2 2) + 1)) (ty := .int) (C := RX0) (T := TX0) (N := 6) hx hb hts inlX0 tyX0 tyX0_ok nmX0 hown hK hP hD hS 0 rfl rfl 4 (by decide) (hts _ zw_9_13) (fun _ h9 => h9) rfl (by decide +kernel) rfl rfl (Nat.le_of_ble_eq_true rfl) dX0_readNumber_97 (fun H lc hP hD hS => ?_)
                    replace hP : va_P D vwCl (xW0 cI h ad T14) H := by rw [eT14]; exact hP
                    replace hD : va_D A (xW0 cI h ad T14) := by rw [eT14]; exact hD
                    refine lv_goto (tgt := 5) hx hb dX0_readNumber_100 (by decide) ?_
                    exact ih5 v1 v2 x8 x13 T14 _ _ _ hP hD hS (lv_sub hl [4, 5, 6, 1, 0] rfl) hM
                  · replace hM := zx_f q12 hM
                    refine lv_goto (tgt := 103) hx hb dX0_readNumber_81 (by decide) ?_
                    exact j103 v3 v4 S_ _ _ _ hP hD hS (lv_sub hl [2, 5, 6] rfl) hM
          refine lv_iload hx hb dX0_readNumber_23 (lv_at hl 4 rfl) ?_
          refine lv_if_eq (tgt := 32) hx hb dX0_readNumber_25 (by decide) (fun q15 => ?_) (fun q15 => ?_)
          · replace hM := zx_t q15 hM
            exact j32 v1 v2 v3 v4 S_ _ _ _ hP hD hS (lv_sub hl [0, 1, 2, 3, 4] rfl) hM
          · replace hM := zx_f q15 hM
            refine lv_iload_n hx hb dX0_readNumber_28 rfl (lv_at hl 3 rfl) ?_
            refine lv_if_le (tgt := 103) hx hb dX0_readNumber_29 (by decide) (fun q16 => ?_) (fun q16 => ?_)
            · replace hM := zx_t q16 hM
              exact j103 v3 v4 S_ _ _ _ hP hD hS (lv_sub hl [0, 3, 4] rfl) hM
            · replace hM := zx_f q16 hM
              exact j32 v1 v2 v3 v4 S_ _ _ _ hP hD hS (lv_sub hl [0, 1, 2, 3, 4] rfl) hM
  refine lv_iconst (v := 0) hx hb dX0_readNumber_0 (by decide) ?_
  refine lv_istore_n (lv' := [(3, .int 0), (0, .ref h), (1, .int p1), (2, .int p2)]) hx hb dX0_readNumber_1 rfl hl (by decide) rfl (fun ls hl => ?_)
  refine lv_iconst (v := 0) hx hb dX0_readNumber_2 (by decide) ?_
  refine lv_istore (lv' := [(4, .int 0), (3, .int 0), (0, .ref h), (1, .int p1), (2, .int p2)]) hx hb dX0_readNumber_3 hl (by decide) rfl (fun ls hl => ?_)
  exact l5 N p1 p2 0 0 S _ _ _ hP hD hS (lv_sub hl [2, 3, 4, 1, 0] rfl) hM

/-! ShallowBoxes$RectangleText.expect(I)V -/
def f_X0_expect_j33 (N : Nat) (S_ : zx_S) : Option (zx_S) :=
  (zx_n (zx_st S_ 2 (upd (S_ 2) 3 1)) (fun T1 =>
some T1))
def f_X0_expect (N : Nat) (p1 : Int32) (S : zx_S) : Option (zx_S) :=
  (if (S 2 3) = 0 then
  (if (S 2 0) ≤ (S 2 2) then
  f_X0_expect_j33 N  S else
  (zx_b1 (f_X2_get N 100 (S 2 2) (S 0)) (fun x4 =>
(if x4 = p1 then
  (zx_n (zx_st S 2 (upd (S 2) 2 ((S 2 2) + 1))) (fun T7 =>
some T7)) else
  f_X0_expect_j33 N  S)))) else
  f_X0_expect_j33 N  S)
abbrev rmX0_expect : Room := { frames := 1, cells := 0, slots := 0, locals := 21 }
abbrev zsX0_expect : List Cond := .code yX0_expect cX0_expect 2 none :: wsL_law
theorem zyX0_expect : yX0_expect.cls ≠ "java/lang/invoke/MethodHandle" ∧ yX0_expect.cls ≠ "java/lang/invoke/VarHandle" ∧ (parseMethodDescriptor yX0_expect.desc).map (fun d => d.parameters.length) = some 1 := by decide +kernel
set_option maxHeartbeats 4000000 in
set_option maxRecDepth 100000 in
theorem c_X0_expect (l : Launch) (D : va_G) (cI cZ cT : ClassId) (h : Nat) (ad : Nat → Nat) (S : zx_S) (sz : Nat) (N : Nat) (p1 : Int32) {R : zx_S} (hM : f_X0_expect N p1 S = some R) : Met l yX0_expect zsX0_expect rmX0_expect (va_Pc [.ref h, .int p1] (bS D (zx_ty cI cZ cT) (xW0 cI h ad S) sz)) (va_Qv (fun u => R = u) (fun u t => va_P D vwCl (xW0 cI h ad u) t.heap) (va_A (xW0 cI h ad S) sz)) 0 0 (va_A (xW0 cI h ad S) sz) := by
  refine Met.ofW (cc := cX0_expect) (maxL := 2) (ret := none) (by decide) rfl ?_
  intro p e s m args below meth c s₁ B hml hv
  obtain ⟨rfl, hsz, hP, hK, hD0, hN⟩ := hv
  have hx := B.exec
  have hb := B.bytes
  have hr := B.returns
  have hts : ∀ w ∈ wsL_law, w.before _ s = true := fun w hw => atoms_spec (ws := zsX0_expect) B.pre w (List.mem_cons_of_mem _ hw)
  have hown : s.vm.findClass RX0 = some m.cls := findClass_of_methodNamed B.named
  have hlocks := B.notSynchronized
  subst hsz
  have hD := hD0.self (sz := s.heap.size)
  generalize hAe : va_A (xW0 cI h ad S) s.heap.size = A at hD ⊢
  have hA : ∀ q : Nat, s.heap.size ≤ q → A q := fun q h => by rw [← hAe]; exact Or.inr h
  have hS : va_S A s.heap s.heap [] := va_S.rf
  have hl := lv_entry ([.ref h, .int p1]) (n := 2) (Nat.le_of_ble_eq_true rfl)
  rw [lg_entry_eq]
  generalize (lg_sl ([.ref h, .int p1]) ++ List.replicate (2 - (lg_sl ([.ref h, .int p1])).length) Slot.unset).toArray = ls at hl ⊢
  have hl : lv_has ls 2 [(0, .ref h), (1, .int p1)] := hl
  generalize hQ : MQ below (va_Qv (fun u => R = u) (fun u t => va_P D vwCl (xW0 cI h ad u) t.heap) A) ([.ref h, .int p1] : List Value).toArray s 0 0 A = Q9
  replace hQ := hQ.symm
  unfold f_X0_expect at hM
  have j33 : ∀ (S_ : zx_S) (H : Heap) (lc : List Loc) (ls : Array Slot), va_P D vwCl (xW0 cI h ad S_) H → va_D A (xW0 cI h ad S_) → va_S A s.heap H lc → lv_has ls 2 [(0, .ref h)] → f_X0_expect_j33 N S_ = some R → W p l e (headSpec zsX0_expect rmX0_expect).room s m ([.ref h, .int p1] : List Value).toArray below meth c H lc 0 0 Q9 (F0 m 33 ls []) := by
    intro S_ H lc ls hP hD hS hl hM
    unfold f_X0_expect_j33 at hM
    refine lv_aload_n hx hb dX0_expect_33 rfl (lv_at hl 0 rfl) ?_
    refine lv_iconst (v := 1) hx hb dX0_expect_34 (by decide) ?_
    obtain ⟨T1, eT1, hM⟩ := zx_nE hM
    refine va_put (D := D) (ci := 0) (v := .int 1) (ty := .boolean) (C := RX0) (T := TX0) (N := 6) hx hb hts inlX0 tyX0 tyX0_ok nmX0 hown hK hP hD hS 0 rfl rfl 5 (by decide) (hts _ zw_9_15) (fun _ h9 => h9) rfl (by decide +kernel) rfl rfl (Nat.le_of_ble_eq_true rfl) dX0_expect_35 (fun H lc hP hD hS => ?_)
    replace hP : va_P D vwCl (xW0 cI h ad T1) H := by rw [eT1]; exact hP
    replace hD : va_D A (xW0 cI h ad T1) := by rw [eT1]; exact hD
    refine lv_goto (tgt := 51) hx hb dX0_expect_38 (by decide) ?_
    rw [hQ]
    exact W.vret hx hb hr (fun t ht hW => ⟨⟨T1, rfl, (Option.some.inj hM).symm, by show va_P D vwCl _ t.heap; rw [ht]; exact hP⟩, hS.F ht⟩) hS.2.2 dX0_expect_51
  refine lv_aload_n hx hb dX0_expect_0 rfl (lv_at hl 0 rfl) ?_
  refine va_get (D := D) (ci := 0) (v := .int (S 2 3)) (C := RX0) (T := TX0) (N := 6) hx hb hts inlX0 hown hK hP 0 rfl rfl 5 (by decide) (hts _ zw_9_15) (fun _ h9 => h9) rfl dX0_expect_1 ?_
  refine lv_if_ne (tgt := 33) hx hb dX0_expect_4 (by decide) (fun q2 => ?_) (fun q2 => ?_)
  · replace hM := zx_f q2 hM
    exact j33 S _ _ _ hP hD hS (lv_sub hl [0] rfl) hM
  · replace hM := zx_t q2 hM
    refine lv_aload_n hx hb dX0_expect_7 rfl (lv_at hl 0 rfl) ?_
    refine va_get (D := D) (ci := 0) (v := .int (S 2 2)) (C := RX0) (T := TX0) (N := 6) hx hb hts inlX0 hown hK hP 0 rfl rfl 4 (by decide) (hts _ zw_9_13) (fun _ h9 => h9) rfl dX0_expect_8 ?_
    refine lv_aload_n hx hb dX0_expect_11 rfl (lv_at hl 0 rfl) ?_
    refine va_get (D := D) (ci := 0) (v := .int (S 2 0)) (C := RX0) (T := TX0) (N := 6) hx hb hts inlX0 hown hK hP 0 rfl rfl 1 (by decide) (hts _ zw_4_22) (fun _ h9 => h9) rfl dX0_expect_12 ?_
    refine lv_icmp_ge (tgt := 33) hx hb dX0_expect_15 (by decide) (fun q3 => ?_) (fun q3 => ?_)
    · replace hM := zx_t q3 hM
      exact j33 S _ _ _ hP hD hS (lv_sub hl [0] rfl) hM
    · replace hM := zx_f q3 hM
      refine lv_aload_n hx hb dX0_expect_18 rfl (lv_at hl 0 rfl) ?_
      refine va_get (D := D) (ci := 0) (v := .ref (ad 0)) (C := RX0) (T := TX0) (N := 6) hx hb hts inlX0 hown hK hP 0 rfl rfl 0 (by decide) (hts _ zw_3_10) (fun _ h9 => h9) rfl dX0_expect_19 ?_
      refine lv_aload_n hx hb dX0_expect_22 rfl (lv_at hl 0 rfl) ?_
      refine va_get (D := D) (ci := 0) (v := .int (S 2 2)) (C := RX0) (T := TX0) (N := 6) hx hb hts inlX0 hown hK hP 0 rfl rfl 4 (by decide) (hts _ zw_9_13) (fun _ h9 => h9) rfl dX0_expect_23 ?_
      obtain ⟨x4, hz5, hM⟩ := zx_b1E hM
      refine va_calli (va_runSN (As := [.ref (ad 0), .int (S 2 2)]) (rest := []) ⟨hx, hb, hml, hown, hts⟩ (c_X2_get l D cI cZ cT (ad 0) 100 (S 0) _ N (S 2 2) hz5) ⟨va_cnB 2 hts (zg_c zw_3_6) rfl rfl rfl (hN _ (zx_nw_X0_26)) (hts _ zw_1_2) zyX2_get ⟨Nat.le_of_ble_eq_true rfl, Nat.le_of_ble_eq_true rfl⟩, (hts _ zw_3_5), trivial⟩ ⟨bS_blind, bS_pre (zx_P1 hP 1 (rfl)) hK (zx_D1 hD 1 (rfl)) hN⟩ rfl rfl hl.1 rfl (lv_room (Nat.le_of_ble_eq_true rfl)) dX0_expect_26 ⟨Nat.zero_le _, Nat.zero_le _⟩) hS (fun q h1 h2 => absurd h1 (Nat.not_lt.mpr h2)) (fun q h => hA q (Nat.le_trans hS.1 h)) (fun r u t H1 lc ht hvm hw hB hz1 hk1 hS => ?_)
      replace hw : x4 = r := hw; subst hw
      replace hP := zx_keep hP hk1
      refine lv_iload_n hx hb dX0_expect_29 rfl (lv_at hl 1 rfl) ?_
      refine lv_icmp_eq (tgt := 41) hx hb dX0_expect_30 (by decide) (fun q6 => ?_) (fun q6 => ?_)
      · replace hM := zx_t q6 hM
        refine lv_aload_n hx hb dX0_expect_41 rfl (lv_at hl 0 rfl) ?_
        refine lv_dup hx hb dX0_expect_42 rfl ?_
        refine va_get (D := D) (ci := 0) (v := .int (S 2 2)) (C := RX0) (T := TX0) (N := 6) hx hb hts inlX0 hown hK hP 0 rfl rfl 4 (by decide) (hts _ zw_9_13) (fun _ h9 => h9) rfl dX0_expect_43 ?_
        refine lv_iconst (v := 1) hx hb dX0_expect_46 (by decide) ?_
        refine lv_iadd hx hb dX0_expect_47 ?_
        obtain ⟨T7, eT7, hM⟩ := zx_nE hM
        refine va_put (D := D) (ci := 0) (v := .int ((S 2 2) + 1)) (ty := .int) (C := RX0) (T := TX0) (N := 6) hx hb hts inlX0 tyX0 tyX0_ok nmX0 hown hK hP hD hS 0 rfl rfl 4 (by decide) (hts _ zw_9_13) (fun _ h9 => h9) rfl (by decide +kernel) rfl rfl (Nat.le_of_ble_eq_true rfl) dX0_expect_48 (fun H lc hP hD hS => ?_)
        replace hP : va_P D vwCl (xW0 cI h ad T7) H := by rw [eT7]; exact hP
        replace hD : va_D A (xW0 cI h ad T7) := by rw [eT7]; exact hD
        rw [hQ]
        exact W.vret hx hb hr (fun t ht hW => ⟨⟨T7, rfl, (Option.some.inj hM).symm, by show va_P D vwCl _ t.heap; rw [ht]; exact hP⟩, hS.F ht⟩) hS.2.2 dX0_expect_51
      · replace hM := zx_f q6 hM
        exact j33 S _ _ _ hP hD hS (lv_sub hl [0] rfl) hM

/-! ShallowBoxes$RectangleText.readRectangle()V -/
def f_X0_readRectangle (N : Nat) (S : zx_S) : Option (zx_S) :=
  (zx_b2 (f_X0_readNumber N 0 99 S) (fun x1 T2 =>
(zx_b1 (f_X0_expect N 44 T2) (fun T4 =>
(zx_b2 (f_X0_readNumber N 0 99 T4) (fun x6 T7 =>
(zx_b1 (f_X0_expect N 58 T7) (fun T9 =>
(zx_b2 (f_X0_readNumber N 1 (100 - x1) T9) (fun x11 T12 =>
(zx_b1 (f_X0_expect N 120 T12) (fun T14 =>
(zx_b2 (f_X0_readNumber N 1 (100 - x6) T14) (fun x16 T17 =>
(if (T17 2 3) = 0 then
  (zx_n ((T17 2 1) * 4) (fun x20 =>
(zx_b1 (f_X2_put N 56 x20 x1 (T17 1)) (fun g21 =>
(zx_n (zx_st T17 1 g21) (fun T23 =>
(zx_b1 (f_X2_put N 56 (x20 + 1) x6 (T23 1)) (fun g24 =>
(zx_n (zx_st T23 1 g24) (fun T26 =>
(zx_b1 (f_X2_put N 56 (x20 + 2) ((x1 + x11) - 1) (T26 1)) (fun g27 =>
(zx_n (zx_st T26 1 g27) (fun T29 =>
(zx_b1 (f_X2_put N 56 (x20 + 3) ((x6 + x16) - 1) (T29 1)) (fun g30 =>
(zx_n (zx_st T29 1 g30) (fun T32 =>
(zx_n (zx_st T32 2 (upd (T32 2) 1 ((T32 2 1) + 1))) (fun T33 =>
some T33)))))))))))))))))))) else
  some T17)))))))))))))))
abbrev rmX0_readRectangle : Room := { frames := 2, cells := 0, slots := 0, locals := 47 }
abbrev zsX0_readRectangle : List Cond := .code yX0_readRectangle cX0_readRectangle 6 none :: wsL_law
theorem zyX0_readRectangle : yX0_readRectangle.cls ≠ "java/lang/invoke/MethodHandle" ∧ yX0_readRectangle.cls ≠ "java/lang/invoke/VarHandle" ∧ (parseMethodDescriptor yX0_readRectangle.desc).map (fun d => d.parameters.length) = some 0 := by decide +kernel
set_option maxHeartbeats 4000000 in
set_option maxRecDepth 100000 in
theorem c_X0_readRectangle (l : Launch) (D : va_G) (cI cZ cT : ClassId) (h : Nat) (ad : Nat → Nat) (S : zx_S) (sz : Nat) (N : Nat) {R : zx_S} (hM : f_X0_readRectangle N S = some R) : Met l yX0_readRectangle zsX0_readRectangle rmX0_readRectangle (va_Pc [.ref h] (bS D (zx_ty cI cZ cT) (xW0 cI h ad S) sz)) (va_Qv (fun u => R = u) (fun u t => va_P D vwCl (xW0 cI h ad u) t.heap) (va_A (xW0 cI h ad S) sz)) 0 0 (va_A (xW0 cI h ad S) sz) := by
  refine Met.ofW (cc := cX0_readRectangle) (maxL := 6) (ret := none) (by decide) rfl ?_
  intro p e s m args below meth c s₁ B hml hv
  obtain ⟨rfl, hsz, hP, hK, hD0, hN⟩ := hv
  have hx := B.exec
  have hb := B.bytes
  have hr := B.returns
  have hts : ∀ w ∈ wsL_law, w.before _ s = true := fun w hw => atoms_spec (ws := zsX0_readRectangle) B.pre w (List.mem_cons_of_mem _ hw)
  have hown : s.vm.findClass RX0 = some m.cls := findClass_of_methodNamed B.named
  have hlocks := B.notSynchronized
  subst hsz
  have hD := hD0.self (sz := s.heap.size)
  generalize hAe : va_A (xW0 cI h ad S) s.heap.size = A at hD ⊢
  have hA : ∀ q : Nat, s.heap.size ≤ q → A q := fun q h => by rw [← hAe]; exact Or.inr h
  have hS : va_S A s.heap s.heap [] := va_S.rf
  have hl := lv_entry ([.ref h]) (n := 6) (Nat.le_of_ble_eq_true rfl)
  rw [lg_entry_eq]
  generalize (lg_sl ([.ref h]) ++ List.replicate (6 - (lg_sl ([.ref h])).length) Slot.unset).toArray = ls at hl ⊢
  have hl : lv_has ls 6 [(0, .ref h)] := hl
  generalize hQ : MQ below (va_Qv (fun u => R = u) (fun u t => va_P D vwCl (xW0 cI h ad u) t.heap) A) ([.ref h] : List Value).toArray s 0 0 A = Q9
  replace hQ := hQ.symm
  unfold f_X0_readRectangle at hM
  refine lv_aload_n hx hb dX0_readRectangle_0 rfl (lv_at hl 0 rfl) ?_
  refine lv_iconst (v := 0) hx hb dX0_readRectangle_1 (by decide) ?_
  refine lv_bipush (v := 99) hx hb dX0_readRectangle_2 (by decide) ?_
  obtain ⟨x1, T2, hz3, hM⟩ := zx_b2E hM
  refine va_calli (va_runV (As := [.int 0, .int 99]) (rest := []) ⟨hx, hb, hml, hown, hts⟩ (c_X0_readNumber l D cI cZ cT h ad S _ N 0 99  hz3) (cwV 2 hts (zg_V zw_9_20 zw_9_21 zw_9_22 zw_1_23 zw_9_23) rfl rfl rfl ⟨rfl, zyX0_readNumber⟩ ⟨Nat.le_of_ble_eq_true rfl, Nat.le_of_ble_eq_true rfl⟩) ⟨bS_blind, va_recv hK hP (ci := 0) (q0 := 0) rfl rfl, bS_pre hP hK hD hN⟩ rfl rfl hl.1 rfl (lv_room (Nat.le_of_ble_eq_true rfl)) dX0_readRectangle_4 ⟨Nat.zero_le _, Nat.zero_le _⟩) hS (fun q _ h => zx_fW hD hS hA q h) (fun q h => zx_fW hD hS hA q h) (fun r u t H1 lc ht hvm hw hB hz1 hk1 hS => ?_)
  obtain ⟨hw1, hw2⟩ := Prod.mk.inj hw; subst hw1; subst hw2
  rw [ht] at hB
  replace hP := hB
  replace hD := xW0_D T2 hD
  refine lv_istore_n (lv' := [(1, .int x1), (0, .ref h)]) hx hb dX0_readRectangle_7 rfl hl (by decide) rfl (fun ls hl => ?_)
  refine lv_aload_n hx hb dX0_readRectangle_8 rfl (lv_at hl 1 rfl) ?_
  refine lv_bipush (v := 44) hx hb dX0_readRectangle_9 (by decide) ?_
  obtain ⟨T4, hz5, hM⟩ := zx_b1E hM
  refine va_callv (va_runV (As := [.int 44]) (rest := []) ⟨hx, hb, hml, hown, hts⟩ (c_X0_expect l D cI cZ cT h ad T2 _ N 44  hz5) (cwV 1 hts (zg_V zw_10_0 zw_10_1 zw_10_2 zw_1_23 zw_10_3) rfl rfl rfl ⟨rfl, zyX0_expect⟩ ⟨Nat.le_of_ble_eq_true rfl, Nat.le_of_ble_eq_true rfl⟩) ⟨bS_blind, va_recv hK hP (ci := 0) (q0 := 0) rfl rfl, bS_pre hP hK hD hN⟩ rfl rfl hl.1 rfl (lv_room (Nat.le_of_ble_eq_true rfl)) dX0_readRectangle_11 ⟨Nat.zero_le _, Nat.zero_le _⟩) hS (fun q _ h => zx_fW hD hS hA q h) (fun q h => zx_fW hD hS hA q h) (fun u t H1 lc ht hvm hw hB hz1 hk1 hS => ?_)
  replace hw : T4 = u := hw; subst hw
  rw [ht] at hB
  replace hP := hB
  replace hD := xW0_D T4 hD
  refine lv_aload_n hx hb dX0_readRectangle_14 rfl (lv_at hl 1 rfl) ?_
  refine lv_iconst (v := 0) hx hb dX0_readRectangle_15 (by decide) ?_
  refine lv_bipush (v := 99) hx hb dX0_readRectangle_16 (by decide) ?_
  obtain ⟨x6, T7, hz8, hM⟩ := zx_b2E hM
  refine va_calli (va_runV (As := [.int 0, .int 99]) (rest := []) ⟨hx, hb, hml, hown, hts⟩ (c_X0_readNumber l D cI cZ cT h ad T4 _ N 0 99  hz8) (cwV 2 hts (zg_V zw_9_20 zw_9_21 zw_9_22 zw_1_23 zw_9_23) rfl rfl rfl ⟨rfl, zyX0_readNumber⟩ ⟨Nat.le_of_ble_eq_true rfl, Nat.le_of_ble_eq_true rfl⟩) ⟨bS_blind, va_recv hK hP (ci := 0) (q0 := 0) rfl rfl, bS_pre hP hK hD hN⟩ rfl rfl hl.1 rfl (lv_room (Nat.le_of_ble_eq_true rfl)) dX0_readRectangle_18 ⟨Nat.zero_le _, Nat.zero_le _⟩) hS (fun q _ h => zx_fW hD hS hA q h) (fun q h => zx_fW hD hS hA q h) (fun r u t H1 lc ht hvm hw hB hz1 hk1 hS => ?_)
  obtain ⟨hw1, hw2⟩ := Prod.mk.inj hw; subst hw1; subst hw2
  rw [ht] at hB
  replace hP := hB
  replace hD := xW0_D T7 hD
  refine lv_istore_n (lv' := [(2, .int x6), (1, .int x1), (0, .ref h)]) hx hb dX0_readRectangle_21 rfl hl (by decide) rfl (fun ls hl => ?_)
  refine lv_aload_n hx hb dX0_readRectangle_22 rfl (lv_at hl 2 rfl) ?_
  refine lv_bipush (v := 58) hx hb dX0_readRectangle_23 (by decide) ?_
  obtain ⟨T9, hz10, hM⟩ := zx_b1E hM
  refine va_callv (va_runV (As := [.int 58]) (rest := []) ⟨hx, hb, hml, hown, hts⟩ (c_X0_expect l D cI cZ cT h ad T7 _ N 58  hz10) (cwV 1 hts (zg_V zw_10_0 zw_10_1 zw_10_2 zw_1_23 zw_10_3) rfl rfl rfl ⟨rfl, zyX0_expect⟩ ⟨Nat.le_of_ble_eq_true rfl, Nat.le_of_ble_eq_true rfl⟩) ⟨bS_blind, va_recv hK hP (ci := 0) (q0 := 0) rfl rfl, bS_pre hP hK hD hN⟩ rfl rfl hl.1 rfl (lv_room (Nat.le_of_ble_eq_true rfl)) dX0_readRectangle_25 ⟨Nat.zero_le _, Nat.zero_le _⟩) hS (fun q _ h => zx_fW hD hS hA q h) (fun q h => zx_fW hD hS hA q h) (fun u t H1 lc ht hvm hw hB hz1 hk1 hS => ?_)
  replace hw : T9 = u := hw; subst hw
  rw [ht] at hB
  replace hP := hB
  replace hD := xW0_D T9 hD
  refine lv_aload_n hx hb dX0_readRectangle_28 rfl (lv_at hl 2 rfl) ?_
  refine lv_iconst (v := 1) hx hb dX0_readRectangle_29 (by decide) ?_
  refine lv_bipush (v := 100) hx hb dX0_readRectangle_30 (by decide) ?_
  refine lv_iload_n hx hb dX0_readRectangle_32 rfl (lv_at hl 1 rfl) ?_
  refine lv_isub hx hb dX0_readRectangle_33 ?_
  obtain ⟨x11, T12, hz13, hM⟩ := zx_b2E hM
  refine va_calli (va_runV (As := [.int 1, .int (100 - x1)]) (rest := []) ⟨hx, hb, hml, hown, hts⟩ (c_X0_readNumber l D cI cZ cT h ad T9 _ N 1 (100 - x1)  hz13) (cwV 2 hts (zg_V zw_9_20 zw_9_21 zw_9_22 zw_1_23 zw_9_23) rfl rfl rfl ⟨rfl, zyX0_readNumber⟩ ⟨Nat.le_of_ble_eq_true rfl, Nat.le_of_ble_eq_true rfl⟩) ⟨bS_blind, va_recv hK hP (ci := 0) (q0 := 0) rfl rfl, bS_pre hP hK hD hN⟩ rfl rfl hl.1 rfl (lv_room (Nat.le_of_ble_eq_true rfl)) dX0_readRectangle_34 ⟨Nat.zero_le _, Nat.zero_le _⟩) hS (fun q _ h => zx_fW hD hS hA q h) (fun q h => zx_fW hD hS hA q h) (fun r u t H1 lc ht hvm hw hB hz1 hk1 hS => ?_)
  obtain ⟨hw1, hw2⟩ := Prod.mk.inj hw; subst hw1; subst hw2
  rw [ht] at hB
  replace hP := hB
  replace hD := xW0_D T12 hD
  refine lv_istore_n (lv' := [(3, .int x11), (2, .int x6), (1, .int x1), (0, .ref h)]) hx hb dX0_readRectangle_37 rfl hl (by decide) rfl (fun ls hl => ?_)
  refine lv_aload_n hx hb dX0_readRectangle_38 rfl (lv_at hl 3 rfl) ?_
  refine lv_bipush (v := 120) hx hb dX0_readRectangle_39 (by decide) ?_
  obtain ⟨T14, hz15, hM⟩ := zx_b1E hM
  refine va_callv (va_runV (As := [.int 120]) (rest := []) ⟨hx, hb, hml, hown, hts⟩ (c_X0_expect l D cI cZ cT h ad T12 _ N 120  hz15) (cwV 1 hts (zg_V zw_10_0 zw_10_1 zw_10_2 zw_1_23 zw_10_3) rfl rfl rfl ⟨rfl, zyX0_expect⟩ ⟨Nat.le_of_ble_eq_true rfl, Nat.le_of_ble_eq_true rfl⟩) ⟨bS_blind, va_recv hK hP (ci := 0) (q0 := 0) rfl rfl, bS_pre hP hK hD hN⟩ rfl rfl hl.1 rfl (lv_room (Nat.le_of_ble_eq_true rfl)) dX0_readRectangle_41 ⟨Nat.zero_le _, Nat.zero_le _⟩) hS (fun q _ h => zx_fW hD hS hA q h) (fun q h => zx_fW hD hS hA q h) (fun u t H1 lc ht hvm hw hB hz1 hk1 hS => ?_)
  replace hw : T14 = u := hw; subst hw
  rw [ht] at hB
  replace hP := hB
  replace hD := xW0_D T14 hD
  refine lv_aload_n hx hb dX0_readRectangle_44 rfl (lv_at hl 3 rfl) ?_
  refine lv_iconst (v := 1) hx hb dX0_readRectangle_45 (by decide) ?_
  refine lv_bipush (v := 100) hx hb dX0_readRectangle_46 (by decide) ?_
  refine lv_iload_n hx hb dX0_readRectangle_48 rfl (lv_at hl 1 rfl) ?_
  refine lv_isub hx hb dX0_readRectangle_49 ?_
  obtain ⟨x16, T17, hz18, hM⟩ := zx_b2E hM
  refine va_calli (va_runV (As := [.int 1, .int (100 - x6)]) (rest := []) ⟨hx, hb, hml, hown, hts⟩ (c_X0_readNumber l D cI cZ cT h ad T14 _ N 1 (100 - x6)  hz18) (cwV 2 hts (zg_V zw_9_20 zw_9_21 zw_9_22 zw_1_23 zw_9_23) rfl rfl rfl ⟨rfl, zyX0_readNumber⟩ ⟨Nat.le_of_ble_eq_true rfl, Nat.le_of_ble_eq_true rfl⟩) ⟨bS_blind, va_recv hK hP (ci := 0) (q0 := 0) rfl rfl, bS_pre hP hK hD hN⟩ rfl rfl hl.1 rfl (lv_room (Nat.le_of_ble_eq_true rfl)) dX0_readRectangle_50 ⟨Nat.zero_le _, Nat.zero_le _⟩) hS (fun q _ h => zx_fW hD hS hA q h) (fun q h => zx_fW hD hS hA q h) (fun r u t H1 lc ht hvm hw hB hz1 hk1 hS => ?_)
  obtain ⟨hw1, hw2⟩ := Prod.mk.inj hw; subst hw1; subst hw2
  rw [ht] at hB
  replace hP := hB
  replace hD := xW0_D T17 hD
  refine lv_istore (lv' := [(4, .int x16), (3, .int x11), (2, .int x6), (1, .int x1), (0, .ref h)]) hx hb dX0_readRectangle_53 hl (by decide) rfl (fun ls hl => ?_)
  refine lv_aload_n hx hb dX0_readRectangle_55 rfl (lv_at hl 4 rfl) ?_
  refine va_get (D := D) (ci := 0) (v := .int (T17 2 3)) (C := RX0) (T := TX0) (N := 6) hx hb hts inlX0 hown hK hP 0 rfl rfl 5 (by decide) (hts _ zw_9_15) (fun _ h9 => h9) rfl dX0_readRectangle_56 ?_
  refine lv_if_ne (tgt := 135) hx hb dX0_readRectangle_59 (by decide) (fun q19 => ?_) (fun q19 => ?_)
  · replace hM := zx_f q19 hM
    rw [hQ]
    exact W.vret hx hb hr (fun t ht hW => ⟨⟨T17, rfl, (Option.some.inj hM).symm, by show va_P D vwCl _ t.heap; rw [ht]; exact hP⟩, hS.F ht⟩) hS.2.2 dX0_readRectangle_135
  · replace hM := zx_t q19 hM
    refine lv_aload_n hx hb dX0_readRectangle_62 rfl (lv_at hl 4 rfl) ?_
    refine va_get (D := D) (ci := 0) (v := .int (T17 2 1)) (C := RX0) (T := TX0) (N := 6) hx hb hts inlX0 hown hK hP 0 rfl rfl 3 (by decide) (hts _ zw_9_14) (fun _ h9 => h9) rfl dX0_readRectangle_63 ?_
    refine lv_iconst (v := 4) hx hb dX0_readRectangle_66 (by decide) ?_
    refine lv_imul hx hb dX0_readRectangle_67 ?_
    obtain ⟨x20, ex20, hM⟩ := zx_nE hM
    refine zx_top ex20 ?_
    refine lv_istore (lv' := [(5, .int x20), (4, .int x16), (3, .int x11), (2, .int x6), (1, .int x1), (0, .ref h)]) hx hb dX0_readRectangle_68 hl (by decide) rfl (fun ls hl => ?_)
    refine lv_aload_n hx hb dX0_readRectangle_70 rfl (lv_at hl 5 rfl) ?_
    refine va_get (D := D) (ci := 0) (v := .ref (ad 1)) (C := RX0) (T := TX0) (N := 6) hx hb hts inlX0 hown hK hP 0 rfl rfl 2 (by decide) (hts _ zw_3_11) (fun _ h9 => h9) rfl dX0_readRectangle_71 ?_
    refine lv_iload hx hb dX0_readRectangle_74 (lv_at hl 0 rfl) ?_
    refine lv_iload_n hx hb dX0_readRectangle_76 rfl (lv_at hl 4 rfl) ?_
    obtain ⟨g21, hz22, hM⟩ := zx_b1E hM
    refine va_callv (va_runSN (As := [.ref (ad 1), .int x20, .int x1]) (rest := []) ⟨hx, hb, hml, hown, hts⟩ (c_X2_put l D cI cZ cT (ad 1) 56 (T17 1) _ N x20 x1 hz22) ⟨va_cnB 3 hts (zg_c zw_3_0) rfl rfl rfl (hN _ (zx_nw_X0_22)) (hts _ zw_1_2) zyX2_put ⟨Nat.le_of_ble_eq_true rfl, Nat.le_of_ble_eq_true rfl⟩, (hts _ zw_2_23), trivial⟩ ⟨bS_blind, bS_pre (zx_P1 hP 2 (rfl)) hK (zx_D1 hD 2 (rfl)) hN⟩ rfl rfl hl.1 rfl (lv_room (Nat.le_of_ble_eq_true rfl)) dX0_readRectangle_77 ⟨Nat.zero_le _, Nat.zero_le _⟩) hS (fun q _ h => zx_f1 hD hS hA (k := 2) rfl q h) (fun q h => zx_f1 hD hS hA (k := 2) rfl q h) (fun u t H1 lc ht hvm hw hB hz1 hk1 hS => ?_)
    replace hw : g21 = u := hw; subst hw
    rw [ht] at hB
    replace hP := zx_set1 (k := 2) hP hD rfl hk1 hB
    replace hD := va_D.set (p := 2) (e := .inl (cI, 56, .inl g21)) hD rfl
    rw [xW0_pa1] at hP hD
    obtain ⟨T23, eT23, hM⟩ := zx_nE hM
    rw [← eT23] at hP hD
    refine lv_aload_n hx hb dX0_readRectangle_80 rfl (lv_at hl 5 rfl) ?_
    refine va_get (D := D) (ci := 0) (v := .ref (ad 1)) (C := RX0) (T := TX0) (N := 6) hx hb hts inlX0 hown hK hP 0 rfl rfl 2 (by decide) (hts _ zw_3_11) (fun _ h9 => h9) rfl dX0_readRectangle_81 ?_
    refine lv_iload hx hb dX0_readRectangle_84 (lv_at hl 0 rfl) ?_
    refine lv_iconst (v := 1) hx hb dX0_readRectangle_86 (by decide) ?_
    refine lv_iadd hx hb dX0_readRectangle_87 ?_
    refine lv_iload_n hx hb dX0_readRectangle_88 rfl (lv_at hl 3 rfl) ?_
    obtain ⟨g24, hz25, hM⟩ := zx_b1E hM
    refine va_callv (va_runSN (As := [.ref (ad 1), .int (x20 + 1), .int x6]) (rest := []) ⟨hx, hb, hml, hown, hts⟩ (c_X2_put l D cI cZ cT (ad 1) 56 (T23 1) _ N (x20 + 1) x6 hz25) ⟨va_cnB 3 hts (zg_c zw_3_0) rfl rfl rfl (hN _ (zx_nw_X0_22)) (hts _ zw_1_2) zyX2_put ⟨Nat.le_of_ble_eq_true rfl, Nat.le_of_ble_eq_true rfl⟩, (hts _ zw_2_23), trivial⟩ ⟨bS_blind, bS_pre (zx_P1 hP 2 (rfl)) hK (zx_D1 hD 2 (rfl)) hN⟩ rfl rfl hl.1 rfl (lv_room (Nat.le_of_ble_eq_true rfl)) dX0_readRectangle_89 ⟨Nat.zero_le _, Nat.zero_le _⟩) hS (fun q _ h => zx_f1 hD hS hA (k := 2) rfl q h) (fun q h => zx_f1 hD hS hA (k := 2) rfl q h) (fun u t H1 lc ht hvm hw hB hz1 hk1 hS => ?_)
    replace hw : g24 = u := hw; subst hw
    rw [ht] at hB
    replace hP := zx_set1 (k := 2) hP hD rfl hk1 hB
    replace hD := va_D.set (p := 2) (e := .inl (cI, 56, .inl g24)) hD rfl
    rw [xW0_pa1] at hP hD
    obtain ⟨T26, eT26, hM⟩ := zx_nE hM
    rw [← eT26] at hP hD
    refine lv_aload_n hx hb dX0_readRectangle_92 rfl (lv_at hl 5 rfl) ?_
    refine va_get (D := D) (ci := 0) (v := .ref (ad 1)) (C := RX0) (T := TX0) (N := 6) hx hb hts inlX0 hown hK hP 0 rfl rfl 2 (by decide) (hts _ zw_3_11) (fun _ h9 => h9) rfl dX0_readRectangle_93 ?_
    refine lv_iload hx hb dX0_readRectangle_96 (lv_at hl 0 rfl) ?_
    refine lv_iconst (v := 2) hx hb dX0_readRectangle_98 (by decide) ?_
    refine lv_iadd hx hb dX0_readRectangle_99 ?_
    refine lv_iload_n hx hb dX0_readRectangle_100 rfl (lv_at hl 4 rfl) ?_
    refine lv_iload_n hx hb dX0_readRectangle_101 rfl (lv_at hl 2 rfl) ?_
    refine lv_iadd hx hb dX0_readRectangle_102 ?_
    refine lv_iconst (v := 1) hx hb dX0_readRectangle_103 (by decide) ?_
    refine lv_isub hx hb dX0_readRectangle_104 ?_
    obtain ⟨g27, hz28, hM⟩ := zx_b1E hM
    refine va_callv (va_runSN (As := [.ref (ad 1), .int (x20 + 2), .int ((x1 + x11) - 1)]) (rest := []) ⟨hx, hb, hml, hown, hts⟩ (c_X2_put l D cI cZ cT (ad 1) 56 (T26 1) _ N (x20 + 2) ((x1 + x11) - 1) hz28) ⟨va_cnB 3 hts (zg_c zw_3_0) rfl rfl rfl (hN _ (zx_nw_X0_22)) (hts _ zw_1_2) zyX2_put ⟨Nat.le_of_ble_eq_true rfl, Nat.le_of_ble_eq_true rfl⟩, (hts _ zw_2_23), trivial⟩ ⟨bS_blind, bS_pre (zx_P1 hP 2 (rfl)) hK (zx_D1 hD 2 (rfl)) hN⟩ rfl rfl hl.1 rfl (lv_room (Nat.le_of_ble_eq_true rfl)) dX0_readRectangle_105 ⟨Nat.zero_le _, Nat.zero_le _⟩) hS (fun q _ h => zx_f1 hD hS hA (k := 2) rfl q h) (fun q h => zx_f1 hD hS hA (k := 2) rfl q h) (fun u t H1 lc ht hvm hw hB hz1 hk1 hS => ?_)
    replace hw : g27 = u := hw; subst hw
    rw [ht] at hB
    replace hP := zx_set1 (k := 2) hP hD rfl hk1 hB
    replace hD := va_D.set (p := 2) (e := .inl (cI, 56, .inl g27)) hD rfl
    rw [xW0_pa1] at hP hD
    obtain ⟨T29, eT29, hM⟩ := zx_nE hM
    rw [← eT29] at hP hD
    refine lv_aload_n hx hb dX0_readRectangle_108 rfl (lv_at hl 5 rfl) ?_
    refine va_get (D := D) (ci := 0) (v := .ref (ad 1)) (C := RX0) (T := TX0) (N := 6) hx hb hts inlX0 hown hK hP 0 rfl rfl 2 (by decide) (hts _ zw_3_11) (fun _ h9 => h9) rfl dX0_readRectangle_109 ?_
    refine lv_iload hx hb dX0_readRectangle_112 (lv_at hl 0 rfl) ?_
    refine lv_iconst (v := 3) hx hb dX0_readRectangle_114 (by decide) ?_
    refine lv_iadd hx hb dX0_readRectangle_115 ?_
    refine lv_iload_n hx hb dX0_readRectangle_116 rfl (lv_at hl 3 rfl) ?_
    refine lv_iload hx hb dX0_readRectangle_117 (lv_at hl 1 rfl) ?_
    refine lv_iadd hx hb dX0_readRectangle_119 ?_
    refine lv_iconst (v := 1) hx hb dX0_readRectangle_120 (by decide) ?_
    refine lv_isub hx hb dX0_readRectangle_121 ?_
    obtain ⟨g30, hz31, hM⟩ := zx_b1E hM
    refine va_callv (va_runSN (As := [.ref (ad 1), .int (x20 + 3), .int ((x6 + x16) - 1)]) (rest := []) ⟨hx, hb, hml, hown, hts⟩ (c_X2_put l D cI cZ cT (ad 1) 56 (T29 1) _ N (x20 + 3) ((x6 + x16) - 1) hz31) ⟨va_cnB 3 hts (zg_c zw_3_0) rfl rfl rfl (hN _ (zx_nw_X0_22)) (hts _ zw_1_2) zyX2_put ⟨Nat.le_of_ble_eq_true rfl, Nat.le_of_ble_eq_true rfl⟩, (hts _ zw_2_23), trivial⟩ ⟨bS_blind, bS_pre (zx_P1 hP 2 (rfl)) hK (zx_D1 hD 2 (rfl)) hN⟩ rfl rfl hl.1 rfl (lv_room (Nat.le_of_ble_eq_true rfl)) dX0_readRectangle_122 ⟨Nat.zero_le _, Nat.zero_le _⟩) hS (fun q _ h => zx_f1 hD hS hA (k := 2) rfl q h) (fun q h => zx_f1 hD hS hA (k := 2) rfl q h) (fun u t H1 lc ht hvm hw hB hz1 hk1 hS => ?_)
    replace hw : g30 = u := hw; subst hw
    rw [ht] at hB
    replace hP := zx_set1 (k := 2) hP hD rfl hk1 hB
    replace hD := va_D.set (p := 2) (e := .inl (cI, 56, .inl g30)) hD rfl
    rw [xW0_pa1] at hP hD
    obtain ⟨T32, eT32, hM⟩ := zx_nE hM
    rw [← eT32] at hP hD
    refine lv_aload_n hx hb dX0_readRectangle_125 rfl (lv_at hl 5 rfl) ?_
    refine lv_dup hx hb dX0_readRectangle_126 rfl ?_
    refine va_get (D := D) (ci := 0) (v := .int (T32 2 1)) (C := RX0) (T := TX0) (N := 6) hx hb hts inlX0 hown hK hP 0 rfl rfl 3 (by decide) (hts _ zw_9_14) (fun _ h9 => h9) rfl dX0_readRectangle_127 ?_
    refine lv_iconst (v := 1) hx hb dX0_readRectangle_130 (by decide) ?_
    refine lv_iadd hx hb dX0_readRectangle_131 ?_
    obtain ⟨T33, eT33, hM⟩ := zx_nE hM
    refine va_put (D := D) (ci := 0) (v := .int ((T32 2 1) + 1)) (ty := .int) (C := RX0) (T := TX0) (N := 6) hx hb hts inlX0 tyX0 tyX0_ok nmX0 hown hK hP hD hS 0 rfl rfl 3 (by decide) (hts _ zw_9_14) (fun _ h9 => h9) rfl (by decide +kernel) rfl rfl (Nat.le_of_ble_eq_true rfl) dX0_readRectangle_132 (fun H lc hP hD hS => ?_)
    replace hP : va_P D vwCl (xW0 cI h ad T33) H := by rw [eT33]; exact hP
    replace hD : va_D A (xW0 cI h ad T33) := by rw [eT33]; exact hD
    rw [hQ]
    exact W.vret hx hb hr (fun t ht hW => ⟨⟨T33, rfl, (Option.some.inj hM).symm, by show va_P D vwCl _ t.heap; rw [ht]; exact hP⟩, hS.F ht⟩) hS.2.2 dX0_readRectangle_135

/-! ShallowBoxes$RectangleText.read()I -/
def f_X0_read_j66 (N : Nat) (S_ : zx_S) : Option (Int32 × zx_S) :=
  some ((S_ 2 2), S_)
def f_X0_read_j54 (N : Nat) (k17 : Int32 → zx_S → Option (Int32 × zx_S)) (v1 : Int32) (S_ : zx_S) : Option (Int32 × zx_S) :=
  (zx_b1 (f_X0_expect N 59 S_) (fun T3 =>
(zx_n (v1 + 1) (fun x5 =>
k17 x5 T3))))
def f_X0_read_l17 (N : Nat) : Nat → Int32 → zx_S → Option (Int32 × zx_S)
  | 0, _, _ => none
  | n17 + 1, v1, S_ => (if 100 < v1 then
  f_X0_read_j66 N  S_ else
  (if (S_ 2 3) = 0 then
  (zx_b1 (f_X0_readRectangle N S_) (fun T6 =>
(if (T6 2 3) = 0 then
  (if (T6 2 2) = (T6 2 0) then
  some ((-1), T6) else
  f_X0_read_j54 N (f_X0_read_l17 N  n17) v1 T6) else
  f_X0_read_j54 N (f_X0_read_l17 N  n17) v1 T6))) else
  f_X0_read_j66 N  S_))
def f_X0_read (N : Nat) (S : zx_S) : Option (Int32 × zx_S) :=
  (zx_n (zx_st S 2 (upd (S 2) 2 0)) (fun T10 =>
(zx_n (zx_st T10 2 (upd (T10 2) 1 0)) (fun T11 =>
(zx_n (zx_st T11 2 (upd (T11 2) 3 0)) (fun T12 =>
f_X0_read_l17 N  N 0 T12))))))
abbrev rmX0_read : Room := { frames := 3, cells := 0, slots := 0, locals := 72 }
abbrev zsX0_read : List Cond := .code yX0_read cX0_read 2 (some .int) :: wsL_law
theorem zyX0_read : yX0_read.cls ≠ "java/lang/invoke/MethodHandle" ∧ yX0_read.cls ≠ "java/lang/invoke/VarHandle" ∧ (parseMethodDescriptor yX0_read.desc).map (fun d => d.parameters.length) = some 0 := by decide +kernel
set_option maxHeartbeats 4000000 in
set_option maxRecDepth 100000 in
theorem c_X0_read (l : Launch) (D : va_G) (cI cZ cT : ClassId) (h : Nat) (ad : Nat → Nat) (S : zx_S) (sz : Nat) (N : Nat) {R : Int32 × zx_S} (hM : f_X0_read N S = some R) : Met l yX0_read zsX0_read rmX0_read (va_Pc [.ref h] (bS D (zx_ty cI cZ cT) (xW0 cI h ad S) sz)) (va_Qi (fun r u => R = (r, u)) (fun u t => va_P D vwCl (xW0 cI h ad u) t.heap) (va_A (xW0 cI h ad S) sz)) 0 0 (va_A (xW0 cI h ad S) sz) := by
  refine Met.ofW (cc := cX0_read) (maxL := 2) (ret := (some .int)) (by decide) rfl ?_
  intro p e s m args below meth c s₁ B hml hv
  obtain ⟨rfl, hsz, hP, hK, hD0, hN⟩ := hv
  have hx := B.exec
  have hb := B.bytes
  have hr := B.returns
  have hts : ∀ w ∈ wsL_law, w.before _ s = true := fun w hw => atoms_spec (ws := zsX0_read) B.pre w (List.mem_cons_of_mem _ hw)
  have hown : s.vm.findClass RX0 = some m.cls := findClass_of_methodNamed B.named
  have hlocks := B.notSynchronized
  subst hsz
  have hD := hD0.self (sz := s.heap.size)
  generalize hAe : va_A (xW0 cI h ad S) s.heap.size = A at hD ⊢
  have hA : ∀ q : Nat, s.heap.size ≤ q → A q := fun q h => by rw [← hAe]; exact Or.inr h
  have hS : va_S A s.heap s.heap [] := va_S.rf
  have hl := lv_entry ([.ref h]) (n := 2) (Nat.le_of_ble_eq_true rfl)
  rw [lg_entry_eq]
  generalize (lg_sl ([.ref h]) ++ List.replicate (2 - (lg_sl ([.ref h])).length) Slot.unset).toArray = ls at hl ⊢
  have hl : lv_has ls 2 [(0, .ref h)] := hl
  generalize hQ : MQ below (va_Qi (fun r u => R = (r, u)) (fun u t => va_P D vwCl (xW0 cI h ad u) t.heap) A) ([.ref h] : List Value).toArray s 0 0 A = Q9
  replace hQ := hQ.symm
  unfold f_X0_read at hM
  have l17 : ∀ (n17 : Nat) (v1 : Int32) (S_ : zx_S) (H : Heap) (lc : List Loc) (ls : Array Slot), va_P D vwCl (xW0 cI h ad S_) H → va_D A (xW0 cI h ad S_) → va_S A s.heap H lc → lv_has ls 2 [(0, .ref h), (1, .int v1)] → f_X0_read_l17 N n17 v1 S_ = some R → W p l e (headSpec zsX0_read rmX0_read).room s m ([.ref h] : List Value).toArray below meth c H lc 0 0 Q9 (F0 m 17 ls []) := by
    intro n17
    induction n17 with
    | zero =>
      intro v1 S_ H lc ls hP hD hS hl hM
      rw [f_X0_read_l17] at hM; exact absurd hM (by intro h; cases h)
    | succ n17 ih17 =>
      intro v1 S_ H lc ls hP hD hS hl hM
      rw [f_X0_read_l17] at hM
      have j66 : ∀ (S_ : zx_S) (H : Heap) (lc : List Loc) (ls : Array Slot), va_P D vwCl (xW0 cI h ad S_) H → va_D A (xW0 cI h ad S_) → va_S A s.heap H lc → lv_has ls 2 [(0, .ref h)] → f_X0_read_j66 N S_ = some R → W p l e (headSpec zsX0_read rmX0_read).room s m ([.ref h] : List Value).toArray below meth c H lc 0 0 Q9 (F0 m 66 ls []) := by
        intro S_ H lc ls hP hD hS hl hM
        unfold f_X0_read_j66 at hM
        refine lv_aload_n hx hb dX0_read_66 rfl (lv_at hl 0 rfl) ?_
        refine va_get (D := D) (ci := 0) (v := .int (S_ 2 2)) (C := RX0) (T := TX0) (N := 6) hx hb hts inlX0 hown hK hP 0 rfl rfl 4 (by decide) (hts _ zw_9_13) (fun _ h9 => h9) rfl dX0_read_67 ?_
        rw [hQ]
        exact W.iret hx hb hr (fun t ht hW => ⟨⟨(S_ 2 2), S_, rfl, (Option.some.inj hM).symm, by show va_P D vwCl _ t.heap; rw [ht]; exact hP⟩, hS.F ht⟩) hS.2.2 dX0_read_70
      refine lv_iload_n hx hb dX0_read_17 rfl (lv_at hl 1 rfl) ?_
      refine lv_bipush (v := 100) hx hb dX0_read_18 (by decide) ?_
      refine lv_icmp_gt (tgt := 66) hx hb dX0_read_20 (by decide) (fun q1 => ?_) (fun q1 => ?_)
      · replace hM := zx_t q1 hM
        exact j66 S_ _ _ _ hP hD hS (lv_sub hl [0] rfl) hM
      · replace hM := zx_f q1 hM
        refine lv_aload_n hx hb dX0_read_23 rfl (lv_at hl 0 rfl) ?_
        refine va_get (D := D) (ci := 0) (v := .int (S_ 2 3)) (C := RX0) (T := TX0) (N := 6) hx hb hts inlX0 hown hK hP 0 rfl rfl 5 (by decide) (hts _ zw_9_15) (fun _ h9 => h9) rfl dX0_read_24 ?_
        refine lv_if_ne (tgt := 66) hx hb dX0_read_27 (by decide) (fun q2 => ?_) (fun q2 => ?_)
        · replace hM := zx_f q2 hM
          exact j66 S_ _ _ _ hP hD hS (lv_sub hl [0] rfl) hM
        · replace hM := zx_t q2 hM
          have j54 : ∀ (v1 : Int32) (S_ : zx_S) (H : Heap) (lc : List Loc) (ls : Array Slot), va_P D vwCl (xW0 cI h ad S_) H → va_D A (xW0 cI h ad S_) → va_S A s.heap H lc → lv_has ls 2 [(0, .ref h), (1, .int v1)] → f_X0_read_j54 N (f_X0_read_l17 N  n17) v1 S_ = some R → W p l e (headSpec zsX0_read rmX0_read).room s m ([.ref h] : List Value).toArray below meth c H lc 0 0 Q9 (F0 m 54 ls []) := by
            intro v1 S_ H lc ls hP hD hS hl hM
            unfold f_X0_read_j54 at hM
            refine lv_aload_n hx hb dX0_read_54 rfl (lv_at hl 0 rfl) ?_
            refine lv_bipush (v := 59) hx hb dX0_read_55 (by decide) ?_
            obtain ⟨T3, hz4, hM⟩ := zx_b1E hM
            refine va_callv (va_runV (As := [.int 59]) (rest := []) ⟨hx, hb, hml, hown, hts⟩ (c_X0_expect l D cI cZ cT h ad S_ _ N 59  hz4) (cwV 1 hts (zg_V zw_10_0 zw_10_1 zw_10_2 zw_1_23 zw_10_3) rfl rfl rfl ⟨rfl, zyX0_expect⟩ ⟨Nat.le_of_ble_eq_true rfl, Nat.le_of_ble_eq_true rfl⟩) ⟨bS_blind, va_recv hK hP (ci := 0) (q0 := 0) rfl rfl, bS_pre hP hK hD hN⟩ rfl rfl hl.1 rfl (lv_room (Nat.le_of_ble_eq_true rfl)) dX0_read_57 ⟨Nat.zero_le _, Nat.zero_le _⟩) hS (fun q _ h => zx_fW hD hS hA q h) (fun q h => zx_fW hD hS hA q h) (fun u t H1 lc ht hvm hw hB hz1 hk1 hS => ?_)
            replace hw : T3 = u := hw; subst hw
            rw [ht] at hB
            replace hP := hB
            replace hD := xW0_D T3 hD
            obtain ⟨x5, ex5, hM⟩ := zx_nE hM
            refine lv_iinc (v := x5) (lv' := [(1, .int x5), (0, .ref h)]) hx hb dX0_read_60 hl (k := 1) rfl (by rw [ex5]; rfl) (by decide) rfl (fun ls hl => ?_)
            refine lv_goto (tgt := 17) hx hb dX0_read_63 (by decide) ?_
            exact ih17 x5 T3 _ _ _ hP hD hS (lv_sub hl [1, 0] rfl) hM
          refine lv_aload_n hx hb dX0_read_30 rfl (lv_at hl 0 rfl) ?_
          obtain ⟨T6, hz7, hM⟩ := zx_b1E hM
          refine va_callv (va_runV (As := []) (rest := []) ⟨hx, hb, hml, hown, hts⟩ (c_X0_readRectangle l D cI cZ cT h ad S_ _ N  hz7) (cwV 0 hts (zg_V zw_9_16 zw_9_17 zw_9_18 zw_1_23 zw_9_19) rfl rfl rfl ⟨rfl, zyX0_readRectangle⟩ ⟨Nat.le_of_ble_eq_true rfl, Nat.le_of_ble_eq_true rfl⟩) ⟨bS_blind, va_recv hK hP (ci := 0) (q0 := 0) rfl rfl, bS_pre hP hK hD hN⟩ rfl rfl hl.1 rfl (lv_room (Nat.le_of_ble_eq_true rfl)) dX0_read_31 ⟨Nat.zero_le _, Nat.zero_le _⟩) hS (fun q _ h => zx_fW hD hS hA q h) (fun q h => zx_fW hD hS hA q h) (fun u t H1 lc ht hvm hw hB hz1 hk1 hS => ?_)
          replace hw : T6 = u := hw; subst hw
          rw [ht] at hB
          replace hP := hB
          replace hD := xW0_D T6 hD
          refine lv_aload_n hx hb dX0_read_34 rfl (lv_at hl 0 rfl) ?_
          refine va_get (D := D) (ci := 0) (v := .int (T6 2 3)) (C := RX0) (T := TX0) (N := 6) hx hb hts inlX0 hown hK hP 0 rfl rfl 5 (by decide) (hts _ zw_9_15) (fun _ h9 => h9) rfl dX0_read_35 ?_
          refine lv_if_ne (tgt := 54) hx hb dX0_read_38 (by decide) (fun q8 => ?_) (fun q8 => ?_)
          · replace hM := zx_f q8 hM
            exact j54 v1 T6 _ _ _ hP hD hS (lv_sub hl [0, 1] rfl) hM
          · replace hM := zx_t q8 hM
            refine lv_aload_n hx hb dX0_read_41 rfl (lv_at hl 0 rfl) ?_
            refine va_get (D := D) (ci := 0) (v := .int (T6 2 2)) (C := RX0) (T := TX0) (N := 6) hx hb hts inlX0 hown hK hP 0 rfl rfl 4 (by decide) (hts _ zw_9_13) (fun _ h9 => h9) rfl dX0_read_42 ?_
            refine lv_aload_n hx hb dX0_read_45 rfl (lv_at hl 0 rfl) ?_
            refine va_get (D := D) (ci := 0) (v := .int (T6 2 0)) (C := RX0) (T := TX0) (N := 6) hx hb hts inlX0 hown hK hP 0 rfl rfl 1 (by decide) (hts _ zw_4_22) (fun _ h9 => h9) rfl dX0_read_46 ?_
            refine lv_icmp_ne (tgt := 54) hx hb dX0_read_49 (by decide) (fun q9 => ?_) (fun q9 => ?_)
            · replace hM := zx_f q9 hM
              exact j54 v1 T6 _ _ _ hP hD hS (lv_sub hl [0, 1] rfl) hM
            · replace hM := zx_t q9 hM
              refine lv_iconst (v := (-1)) hx hb dX0_read_52 (by decide) ?_
              rw [hQ]
              exact W.iret hx hb hr (fun t ht hW => ⟨⟨(-1), T6, rfl, (Option.some.inj hM).symm, by show va_P D vwCl _ t.heap; rw [ht]; exact hP⟩, hS.F ht⟩) hS.2.2 dX0_read_53
  refine lv_aload_n hx hb dX0_read_0 rfl (lv_at hl 0 rfl) ?_
  refine lv_iconst (v := 0) hx hb dX0_read_1 (by decide) ?_
  obtain ⟨T10, eT10, hM⟩ := zx_nE hM
  refine va_put (D := D) (ci := 0) (v := .int 0) (ty := .int) (C := RX0) (T := TX0) (N := 6) hx hb hts inlX0 tyX0 tyX0_ok nmX0 hown hK hP hD hS 0 rfl rfl 4 (by decide) (hts _ zw_9_13) (fun _ h9 => h9) rfl (by decide +kernel) rfl rfl (Nat.le_of_ble_eq_true rfl) dX0_read_2 (fun H lc hP hD hS => ?_)
  replace hP : va_P D vwCl (xW0 cI h ad T10) H := by rw [eT10]; exact hP
  replace hD : va_D A (xW0 cI h ad T10) := by rw [eT10]; exact hD
  refine lv_aload_n hx hb dX0_read_5 rfl (lv_at hl 0 rfl) ?_
  refine lv_iconst (v := 0) hx hb dX0_read_6 (by decide) ?_
  obtain ⟨T11, eT11, hM⟩ := zx_nE hM
  refine va_put (D := D) (ci := 0) (v := .int 0) (ty := .int) (C := RX0) (T := TX0) (N := 6) hx hb hts inlX0 tyX0 tyX0_ok nmX0 hown hK hP hD hS 0 rfl rfl 3 (by decide) (hts _ zw_9_14) (fun _ h9 => h9) rfl (by decide +kernel) rfl rfl (Nat.le_of_ble_eq_true rfl) dX0_read_7 (fun H lc hP hD hS => ?_)
  replace hP : va_P D vwCl (xW0 cI h ad T11) H := by rw [eT11]; exact hP
  replace hD : va_D A (xW0 cI h ad T11) := by rw [eT11]; exact hD
  refine lv_aload_n hx hb dX0_read_10 rfl (lv_at hl 0 rfl) ?_
  refine lv_iconst (v := 0) hx hb dX0_read_11 (by decide) ?_
  obtain ⟨T12, eT12, hM⟩ := zx_nE hM
  refine va_put (D := D) (ci := 0) (v := .int 0) (ty := .boolean) (C := RX0) (T := TX0) (N := 6) hx hb hts inlX0 tyX0 tyX0_ok nmX0 hown hK hP hD hS 0 rfl rfl 5 (by decide) (hts _ zw_9_15) (fun _ h9 => h9) rfl (by decide +kernel) rfl rfl (Nat.le_of_ble_eq_true rfl) dX0_read_12 (fun H lc hP hD hS => ?_)
  replace hP : va_P D vwCl (xW0 cI h ad T12) H := by rw [eT12]; exact hP
  replace hD : va_D A (xW0 cI h ad T12) := by rw [eT12]; exact hD
  refine lv_iconst (v := 0) hx hb dX0_read_15 (by decide) ?_
  refine lv_istore_n (lv' := [(1, .int 0), (0, .ref h)]) hx hb dX0_read_16 rfl hl (by decide) rfl (fun ls hl => ?_)
  exact l17 N 0 T12 _ _ _ hP hD hS (lv_sub hl [1, 0] rfl) hM

/-! ShallowBoxes$Tree.newNode(I)I -/
def f_X1_newNode_l3 (N : Nat) : Nat → Int32 → Int32 → zx_S → Option (Int32 × zx_S)
  | 0, _, _, _ => none
  | n3 + 1, v1, v2, S_ => (if 48 ≤ v2 then
  some ((-1), S_) else
  (zx_b1 (f_X2_get N 49 v2 (S_ 1)) (fun x2 =>
(if x2 = (-2) then
  (zx_b1 (f_X2_put N 49 v2 v1 (S_ 1)) (fun g6 =>
(zx_n (zx_st S_ 1 g6) (fun T8 =>
(zx_b1 (f_X2_put N 49 v2 (-1) (T8 2)) (fun g9 =>
(zx_n (zx_st T8 2 g9) (fun T11 =>
(zx_b1 (f_X2_put N 49 v2 0 (T11 3)) (fun g12 =>
(zx_n (zx_st T11 3 g12) (fun T14 =>
some (v2, T14))))))))))))) else
  (zx_n (v2 + 1) (fun x5 =>
f_X1_newNode_l3 N  n3 v1 x5 S_))))))
def f_X1_newNode (N : Nat) (p1 : Int32) (S : zx_S) : Option (Int32 × zx_S) :=
  f_X1_newNode_l3 N  N p1 24 S
abbrev rmX1_newNode : Room := { frames := 1, cells := 0, slots := 0, locals := 22 }
abbrev zsX1_newNode : List Cond := .code yX1_newNode cX1_newNode 3 (some .int) :: wsL_law
theorem zyX1_newNode : yX1_newNode.cls ≠ "java/lang/invoke/MethodHandle" ∧ yX1_newNode.cls ≠ "java/lang/invoke/VarHandle" ∧ (parseMethodDescriptor yX1_newNode.desc).map (fun d => d.parameters.length) = some 1 := by decide +kernel
set_option maxHeartbeats 4000000 in
set_option maxRecDepth 100000 in
theorem c_X1_newNode (l : Launch) (D : va_G) (cI cZ cT : ClassId) (h : Nat) (ad : Nat → Nat) (S : zx_S) (sz : Nat) (N : Nat) (p1 : Int32) {R : Int32 × zx_S} (hM : f_X1_newNode N p1 S = some R) : Met l yX1_newNode zsX1_newNode rmX1_newNode (va_Pc [.ref h, .int p1] (bS D (zx_ty cI cZ cT) (xW1 cI h ad S) sz)) (va_Qi (fun r u => R = (r, u)) (fun u t => va_P D vwCl (xW1 cI h ad u) t.heap) (va_A (xW1 cI h ad S) sz)) 0 0 (va_A (xW1 cI h ad S) sz) := by
  refine Met.ofW (cc := cX1_newNode) (maxL := 3) (ret := (some .int)) (by decide) rfl ?_
  intro p e s m args below meth c s₁ B hml hv
  obtain ⟨rfl, hsz, hP, hK, hD0, hN⟩ := hv
  have hx := B.exec
  have hb := B.bytes
  have hr := B.returns
  have hts : ∀ w ∈ wsL_law, w.before _ s = true := fun w hw => atoms_spec (ws := zsX1_newNode) B.pre w (List.mem_cons_of_mem _ hw)
  have hown : s.vm.findClass RX1 = some m.cls := findClass_of_methodNamed B.named
  have hlocks := B.notSynchronized
  subst hsz
  have hD := hD0.self (sz := s.heap.size)
  generalize hAe : va_A (xW1 cI h ad S) s.heap.size = A at hD ⊢
  have hA : ∀ q : Nat, s.heap.size ≤ q → A q := fun q h => by rw [← hAe]; exact Or.inr h
  have hS : va_S A s.heap s.heap [] := va_S.rf
  have hl := lv_entry ([.ref h, .int p1]) (n := 3) (Nat.le_of_ble_eq_true rfl)
  rw [lg_entry_eq]
  generalize (lg_sl ([.ref h, .int p1]) ++ List.replicate (3 - (lg_sl ([.ref h, .int p1])).length) Slot.unset).toArray = ls at hl ⊢
  have hl : lv_has ls 3 [(0, .ref h), (1, .int p1)] := hl
  generalize hQ : MQ below (va_Qi (fun r u => R = (r, u)) (fun u t => va_P D vwCl (xW1 cI h ad u) t.heap) A) ([.ref h, .int p1] : List Value).toArray s 0 0 A = Q9
  replace hQ := hQ.symm
  unfold f_X1_newNode at hM
  have l3 : ∀ (n3 : Nat) (v1 : Int32) (v2 : Int32) (S_ : zx_S) (H : Heap) (lc : List Loc) (ls : Array Slot), va_P D vwCl (xW1 cI h ad S_) H → va_D A (xW1 cI h ad S_) → va_S A s.heap H lc → lv_has ls 3 [(0, .ref h), (1, .int v1), (2, .int v2)] → f_X1_newNode_l3 N n3 v1 v2 S_ = some R → W p l e (headSpec zsX1_newNode rmX1_newNode).room s m ([.ref h, .int p1] : List Value).toArray below meth c H lc 0 0 Q9 (F0 m 3 ls []) := by
    intro n3
    induction n3 with
    | zero =>
      intro v1 v2 S_ H lc ls hP hD hS hl hM
      rw [f_X1_newNode_l3] at hM; exact absurd hM (by intro h; cases h)
    | succ n3 ih3 =>
      intro v1 v2 S_ H lc ls hP hD hS hl hM
      rw [f_X1_newNode_l3] at hM
      refine lv_iload_n hx hb dX1_newNode_3 rfl (lv_at hl 2 rfl) ?_
      refine lv_bipush (v := 48) hx hb dX1_newNode_4 (by decide) ?_
      refine lv_icmp_ge (tgt := 57) hx hb dX1_newNode_6 (by decide) (fun q1 => ?_) (fun q1 => ?_)
      · replace hM := zx_t q1 hM
        refine lv_iconst (v := (-1)) hx hb dX1_newNode_57 (by decide) ?_
        rw [hQ]
        exact W.iret hx hb hr (fun t ht hW => ⟨⟨(-1), S_, rfl, (Option.some.inj hM).symm, by show va_P D vwCl _ t.heap; rw [ht]; exact hP⟩, hS.F ht⟩) hS.2.2 dX1_newNode_58
      · replace hM := zx_f q1 hM
        refine lv_aload_n hx hb dX1_newNode_9 rfl (lv_at hl 0 rfl) ?_
        refine va_get (D := D) (ci := 1) (v := .ref (ad 1)) (C := RX1) (T := TX1) (N := 14) hx hb hts inlX1 hown hK hP 0 rfl rfl 1 (by decide) (hts _ zw_2_6) (fun _ h9 => h9) rfl dX1_newNode_10 ?_
        refine lv_iload_n hx hb dX1_newNode_13 rfl (lv_at hl 2 rfl) ?_
        obtain ⟨x2, hz3, hM⟩ := zx_b1E hM
        refine va_calli (va_runSN (As := [.ref (ad 1), .int v2]) (rest := []) ⟨hx, hb, hml, hown, hts⟩ (c_X2_get l D cI cZ cT (ad 1) 49 (S_ 1) _ N v2 hz3) ⟨va_cnB 2 hts (zg_c zw_3_6) rfl rfl rfl (hN _ (zx_nw_X1_70)) (hts _ zw_1_2) zyX2_get ⟨Nat.le_of_ble_eq_true rfl, Nat.le_of_ble_eq_true rfl⟩, (hts _ zw_3_5), trivial⟩ ⟨bS_blind, bS_pre (zx_P1 hP 2 (rfl)) hK (zx_D1 hD 2 (rfl)) hN⟩ rfl rfl hl.1 rfl (lv_room (Nat.le_of_ble_eq_true rfl)) dX1_newNode_14 ⟨Nat.zero_le _, Nat.zero_le _⟩) hS (fun q h1 h2 => absurd h1 (Nat.not_lt.mpr h2)) (fun q h => hA q (Nat.le_trans hS.1 h)) (fun r u t H1 lc ht hvm hw hB hz1 hk1 hS => ?_)
        replace hw : x2 = r := hw; subst hw
        replace hP := zx_keep hP hk1
        refine lv_bipush (v := (-2)) hx hb dX1_newNode_17 (by decide) ?_
        refine lv_icmp_ne (tgt := 51) hx hb dX1_newNode_19 (by decide) (fun q4 => ?_) (fun q4 => ?_)
        · replace hM := zx_f q4 hM
          obtain ⟨x5, ex5, hM⟩ := zx_nE hM
          refine lv_iinc (v := x5) (lv' := [(2, .int x5), (0, .ref h), (1, .int v1)]) hx hb dX1_newNode_51 hl (k := 2) rfl (by rw [ex5]; rfl) (by decide) rfl (fun ls hl => ?_)
          refine lv_goto (tgt := 3) hx hb dX1_newNode_54 (by decide) ?_
          exact ih3 v1 x5 S_ _ _ _ hP hD hS (lv_sub hl [1, 2, 0] rfl) hM
        · replace hM := zx_t q4 hM
          refine lv_aload_n hx hb dX1_newNode_22 rfl (lv_at hl 0 rfl) ?_
          refine va_get (D := D) (ci := 1) (v := .ref (ad 1)) (C := RX1) (T := TX1) (N := 14) hx hb hts inlX1 hown hK hP 0 rfl rfl 1 (by decide) (hts _ zw_2_6) (fun _ h9 => h9) rfl dX1_newNode_23 ?_
          refine lv_iload_n hx hb dX1_newNode_26 rfl (lv_at hl 2 rfl) ?_
          refine lv_iload_n hx hb dX1_newNode_27 rfl (lv_at hl 1 rfl) ?_
          obtain ⟨g6, hz7, hM⟩ := zx_b1E hM
          refine va_callv (va_runSN (As := [.ref (ad 1), .int v2, .int v1]) (rest := []) ⟨hx, hb, hml, hown, hts⟩ (c_X2_put l D cI cZ cT (ad 1) 49 (S_ 1) _ N v2 v1 hz7) ⟨va_cnB 3 hts (zg_c zw_3_0) rfl rfl rfl (hN _ (zx_nw_X1_45)) (hts _ zw_1_2) zyX2_put ⟨Nat.le_of_ble_eq_true rfl, Nat.le_of_ble_eq_true rfl⟩, (hts _ zw_2_23), trivial⟩ ⟨bS_blind, bS_pre (zx_P1 hP 2 (rfl)) hK (zx_D1 hD 2 (rfl)) hN⟩ rfl rfl hl.1 rfl (lv_room (Nat.le_of_ble_eq_true rfl)) dX1_newNode_28 ⟨Nat.zero_le _, Nat.zero_le _⟩) hS (fun q _ h => zx_f1 hD hS hA (k := 2) rfl q h) (fun q h => zx_f1 hD hS hA (k := 2) rfl q h) (fun u t H1 lc ht hvm hw hB hz1 hk1 hS => ?_)
          replace hw : g6 = u := hw; subst hw
          rw [ht] at hB
          replace hP := zx_set1 (k := 2) hP hD rfl hk1 hB
          replace hD := va_D.set (p := 2) (e := .inl (cI, 49, .inl g6)) hD rfl
          rw [xW1_pa1] at hP hD
          obtain ⟨T8, eT8, hM⟩ := zx_nE hM
          rw [← eT8] at hP hD
          refine lv_aload_n hx hb dX1_newNode_31 rfl (lv_at hl 0 rfl) ?_
          refine va_get (D := D) (ci := 1) (v := .ref (ad 2)) (C := RX1) (T := TX1) (N := 14) hx hb hts inlX1 hown hK hP 0 rfl rfl 2 (by decide) (hts _ zw_2_7) (fun _ h9 => h9) rfl dX1_newNode_32 ?_
          refine lv_iload_n hx hb dX1_newNode_35 rfl (lv_at hl 2 rfl) ?_
          refine lv_iconst (v := (-1)) hx hb dX1_newNode_36 (by decide) ?_
          obtain ⟨g9, hz10, hM⟩ := zx_b1E hM
          refine va_callv (va_runSN (As := [.ref (ad 2), .int v2, .int (-1)]) (rest := []) ⟨hx, hb, hml, hown, hts⟩ (c_X2_put l D cI cZ cT (ad 2) 49 (T8 2) _ N v2 (-1) hz10) ⟨va_cnB 3 hts (zg_c zw_3_0) rfl rfl rfl (hN _ (zx_nw_X1_45)) (hts _ zw_1_2) zyX2_put ⟨Nat.le_of_ble_eq_true rfl, Nat.le_of_ble_eq_true rfl⟩, (hts _ zw_2_23), trivial⟩ ⟨bS_blind, bS_pre (zx_P1 hP 3 (rfl)) hK (zx_D1 hD 3 (rfl)) hN⟩ rfl rfl hl.1 rfl (lv_room (Nat.le_of_ble_eq_true rfl)) dX1_newNode_37 ⟨Nat.zero_le _, Nat.zero_le _⟩) hS (fun q _ h => zx_f1 hD hS hA (k := 3) rfl q h) (fun q h => zx_f1 hD hS hA (k := 3) rfl q h) (fun u t H1 lc ht hvm hw hB hz1 hk1 hS => ?_)
          replace hw : g9 = u := hw; subst hw
          rw [ht] at hB
          replace hP := zx_set1 (k := 3) hP hD rfl hk1 hB
          replace hD := va_D.set (p := 3) (e := .inl (cI, 49, .inl g9)) hD rfl
          rw [xW1_pa2] at hP hD
          obtain ⟨T11, eT11, hM⟩ := zx_nE hM
          rw [← eT11] at hP hD
          refine lv_aload_n hx hb dX1_newNode_40 rfl (lv_at hl 0 rfl) ?_
          refine va_get (D := D) (ci := 1) (v := .ref (ad 3)) (C := RX1) (T := TX1) (N := 14) hx hb hts inlX1 hown hK hP 0 rfl rfl 3 (by decide) (hts _ zw_2_8) (fun _ h9 => h9) rfl dX1_newNode_41 ?_
          refine lv_iload_n hx hb dX1_newNode_44 rfl (lv_at hl 2 rfl) ?_
          refine lv_iconst (v := 0) hx hb dX1_newNode_45 (by decide) ?_
          obtain ⟨g12, hz13, hM⟩ := zx_b1E hM
          refine va_callv (va_runSN (As := [.ref (ad 3), .int v2, .int 0]) (rest := []) ⟨hx, hb, hml, hown, hts⟩ (c_X2_put l D cI cZ cT (ad 3) 49 (T11 3) _ N v2 0 hz13) ⟨va_cnB 3 hts (zg_c zw_3_0) rfl rfl rfl (hN _ (zx_nw_X1_45)) (hts _ zw_1_2) zyX2_put ⟨Nat.le_of_ble_eq_true rfl, Nat.le_of_ble_eq_true rfl⟩, (hts _ zw_2_23), trivial⟩ ⟨bS_blind, bS_pre (zx_P1 hP 4 (rfl)) hK (zx_D1 hD 4 (rfl)) hN⟩ rfl rfl hl.1 rfl (lv_room (Nat.le_of_ble_eq_true rfl)) dX1_newNode_46 ⟨Nat.zero_le _, Nat.zero_le _⟩) hS (fun q _ h => zx_f1 hD hS hA (k := 4) rfl q h) (fun q h => zx_f1 hD hS hA (k := 4) rfl q h) (fun u t H1 lc ht hvm hw hB hz1 hk1 hS => ?_)
          replace hw : g12 = u := hw; subst hw
          rw [ht] at hB
          replace hP := zx_set1 (k := 4) hP hD rfl hk1 hB
          replace hD := va_D.set (p := 4) (e := .inl (cI, 49, .inl g12)) hD rfl
          rw [xW1_pa3] at hP hD
          obtain ⟨T14, eT14, hM⟩ := zx_nE hM
          rw [← eT14] at hP hD
          refine lv_iload_n hx hb dX1_newNode_49 rfl (lv_at hl 2 rfl) ?_
          rw [hQ]
          exact W.iret hx hb hr (fun t ht hW => ⟨⟨v2, T14, rfl, (Option.some.inj hM).symm, by show va_P D vwCl _ t.heap; rw [ht]; exact hP⟩, hS.F ht⟩) hS.2.2 dX1_newNode_50
  refine lv_bipush (v := 24) hx hb dX1_newNode_0 (by decide) ?_
  refine lv_istore_n (lv' := [(2, .int 24), (0, .ref h), (1, .int p1)]) hx hb dX1_newNode_2 rfl hl (by decide) rfl (fun ls hl => ?_)
  exact l3 N p1 24 S _ _ _ hP hD hS (lv_sub hl [1, 2, 0] rfl) hM

/-! ShallowBoxes$Tree.clear()V -/
def f_X1_clear_j25 (N : Nat) (k2 : Int32 → zx_S → Option (zx_S)) (v1 : Int32) (t1 : Int32) (t2 : Int32) (S_ : zx_S) : Option (zx_S) :=
  (zx_b1 (f_X2_put N 49 t1 t2 (S_ 1)) (fun g9 =>
(zx_n (zx_st S_ 1 g9) (fun T11 =>
(zx_b1 (f_X2_put N 49 v1 (-1) (T11 2)) (fun g12 =>
(zx_n (zx_st T11 2 g12) (fun T14 =>
(zx_b1 (f_X2_put N 49 v1 0 (T14 3)) (fun g15 =>
(zx_n (zx_st T14 3 g15) (fun T17 =>
(zx_n (v1 + 1) (fun x18 =>
k2 x18 T17))))))))))))))
def f_X1_clear_l2 (N : Nat) : Nat → Int32 → zx_S → Option (zx_S)
  | 0, _, _ => none
  | n2 + 1, v1, S_ => (if 49 ≤ v1 then
  (zx_n (zx_st S_ 10 (upd (S_ 10) 1 0)) (fun T2 =>
(zx_n (zx_st T2 10 (upd (T2 10) 2 0)) (fun T3 =>
(zx_n (zx_st T3 10 (upd (T3 10) 3 0)) (fun T4 =>
(zx_b2 (f_X1_newNode N 0 T4) (fun x5 T6 =>
(zx_n (zx_st T6 10 (upd (T6 10) 0 x5)) (fun T8 =>
some T8)))))))))) else
  (if 24 ≤ v1 then
  f_X1_clear_j25 N (f_X1_clear_l2 N  n2) v1 v1 (-2) S_ else
  f_X1_clear_j25 N (f_X1_clear_l2 N  n2) v1 v1 (-1) S_))
def f_X1_clear (N : Nat) (S : zx_S) : Option (zx_S) :=
  f_X1_clear_l2 N  N 0 S
abbrev rmX1_clear : Room := { frames := 2, cells := 0, slots := 0, locals := 44 }
abbrev zsX1_clear : List Cond := .code yX1_clear cX1_clear 2 none :: wsL_law
theorem zyX1_clear : yX1_clear.cls ≠ "java/lang/invoke/MethodHandle" ∧ yX1_clear.cls ≠ "java/lang/invoke/VarHandle" ∧ (parseMethodDescriptor yX1_clear.desc).map (fun d => d.parameters.length) = some 0 := by decide +kernel
set_option maxHeartbeats 4000000 in
set_option maxRecDepth 100000 in
theorem c_X1_clear (l : Launch) (D : va_G) (cI cZ cT : ClassId) (h : Nat) (ad : Nat → Nat) (S : zx_S) (sz : Nat) (N : Nat) {R : zx_S} (hM : f_X1_clear N S = some R) : Met l yX1_clear zsX1_clear rmX1_clear (va_Pc [.ref h] (bS D (zx_ty cI cZ cT) (xW1 cI h ad S) sz)) (va_Qv (fun u => R = u) (fun u t => va_P D vwCl (xW1 cI h ad u) t.heap) (va_A (xW1 cI h ad S) sz)) 0 0 (va_A (xW1 cI h ad S) sz) := by
  refine Met.ofW (cc := cX1_clear) (maxL := 2) (ret := none) (by decide) rfl ?_
  intro p e s m args below meth c s₁ B hml hv
  obtain ⟨rfl, hsz, hP, hK, hD0, hN⟩ := hv
  have hx := B.exec
  have hb := B.bytes
  have hr := B.returns
  have hts : ∀ w ∈ wsL_law, w.before _ s = true := fun w hw => atoms_spec (ws := zsX1_clear) B.pre w (List.mem_cons_of_mem _ hw)
  have hown : s.vm.findClass RX1 = some m.cls := findClass_of_methodNamed B.named
  have hlocks := B.notSynchronized
  subst hsz
  have hD := hD0.self (sz := s.heap.size)
  generalize hAe : va_A (xW1 cI h ad S) s.heap.size = A at hD ⊢
  have hA : ∀ q : Nat, s.heap.size ≤ q → A q := fun q h => by rw [← hAe]; exact Or.inr h
  have hS : va_S A s.heap s.heap [] := va_S.rf
  have hl := lv_entry ([.ref h]) (n := 2) (Nat.le_of_ble_eq_true rfl)
  rw [lg_entry_eq]
  generalize (lg_sl ([.ref h]) ++ List.replicate (2 - (lg_sl ([.ref h])).length) Slot.unset).toArray = ls at hl ⊢
  have hl : lv_has ls 2 [(0, .ref h)] := hl
  generalize hQ : MQ below (va_Qv (fun u => R = u) (fun u t => va_P D vwCl (xW1 cI h ad u) t.heap) A) ([.ref h] : List Value).toArray s 0 0 A = Q9
  replace hQ := hQ.symm
  unfold f_X1_clear at hM
  have l2 : ∀ (n2 : Nat) (v1 : Int32) (S_ : zx_S) (H : Heap) (lc : List Loc) (ls : Array Slot), va_P D vwCl (xW1 cI h ad S_) H → va_D A (xW1 cI h ad S_) → va_S A s.heap H lc → lv_has ls 2 [(0, .ref h), (1, .int v1)] → f_X1_clear_l2 N n2 v1 S_ = some R → W p l e (headSpec zsX1_clear rmX1_clear).room s m ([.ref h] : List Value).toArray below meth c H lc 0 0 Q9 (F0 m 2 ls []) := by
    intro n2
    induction n2 with
    | zero =>
      intro v1 S_ H lc ls hP hD hS hl hM
      rw [f_X1_clear_l2] at hM; exact absurd hM (by intro h; cases h)
    | succ n2 ih2 =>
      intro v1 S_ H lc ls hP hD hS hl hM
      rw [f_X1_clear_l2] at hM
      refine lv_iload_n hx hb dX1_clear_2 rfl (lv_at hl 1 rfl) ?_
      refine lv_bipush (v := 49) hx hb dX1_clear_3 (by decide) ?_
      refine lv_icmp_ge (tgt := 52) hx hb dX1_clear_5 (by decide) (fun q1 => ?_) (fun q1 => ?_)
      · replace hM := zx_t q1 hM
        refine lv_aload_n hx hb dX1_clear_52 rfl (lv_at hl 0 rfl) ?_
        refine lv_iconst (v := 0) hx hb dX1_clear_53 (by decide) ?_
        obtain ⟨T2, eT2, hM⟩ := zx_nE hM
        refine va_put (D := D) (ci := 1) (v := .int 0) (ty := .int) (C := RX1) (T := TX1) (N := 14) hx hb hts inlX1 tyX1 tyX1_ok nmX1 hown hK hP hD hS 0 rfl rfl 6 (by decide) (hts _ zw_2_19) (fun _ h9 => h9) rfl (by decide +kernel) rfl rfl (Nat.le_of_ble_eq_true rfl) dX1_clear_54 (fun H lc hP hD hS => ?_)
        replace hP : va_P D vwCl (xW1 cI h ad T2) H := by rw [eT2]; exact hP
        replace hD : va_D A (xW1 cI h ad T2) := by rw [eT2]; exact hD
        refine lv_aload_n hx hb dX1_clear_57 rfl (lv_at hl 0 rfl) ?_
        refine lv_iconst (v := 0) hx hb dX1_clear_58 (by decide) ?_
        obtain ⟨T3, eT3, hM⟩ := zx_nE hM
        refine va_put (D := D) (ci := 1) (v := .int 0) (ty := .int) (C := RX1) (T := TX1) (N := 14) hx hb hts inlX1 tyX1 tyX1_ok nmX1 hown hK hP hD hS 0 rfl rfl 7 (by decide) (hts _ zw_2_20) (fun _ h9 => h9) rfl (by decide +kernel) rfl rfl (Nat.le_of_ble_eq_true rfl) dX1_clear_59 (fun H lc hP hD hS => ?_)
        replace hP : va_P D vwCl (xW1 cI h ad T3) H := by rw [eT3]; exact hP
        replace hD : va_D A (xW1 cI h ad T3) := by rw [eT3]; exact hD
        refine lv_aload_n hx hb dX1_clear_62 rfl (lv_at hl 0 rfl) ?_
        refine lv_iconst (v := 0) hx hb dX1_clear_63 (by decide) ?_
        obtain ⟨T4, eT4, hM⟩ := zx_nE hM
        refine va_put (D := D) (ci := 1) (v := .int 0) (ty := .int) (C := RX1) (T := TX1) (N := 14) hx hb hts inlX1 tyX1 tyX1_ok nmX1 hown hK hP hD hS 0 rfl rfl 8 (by decide) (hts _ zw_2_21) (fun _ h9 => h9) rfl (by decide +kernel) rfl rfl (Nat.le_of_ble_eq_true rfl) dX1_clear_64 (fun H lc hP hD hS => ?_)
        replace hP : va_P D vwCl (xW1 cI h ad T4) H := by rw [eT4]; exact hP
        replace hD : va_D A (xW1 cI h ad T4) := by rw [eT4]; exact hD
        refine lv_aload_n hx hb dX1_clear_67 rfl (lv_at hl 0 rfl) ?_
        refine lv_aload_n hx hb dX1_clear_68 rfl (lv_at hl 0 rfl) ?_
        refine lv_iconst (v := 0) hx hb dX1_clear_69 (by decide) ?_
        obtain ⟨x5, T6, hz7, hM⟩ := zx_b2E hM
        refine va_calli (va_runV (As := [.int 0]) (rest := [.ref h]) ⟨hx, hb, hml, hown, hts⟩ (c_X1_newNode l D cI cZ cT h ad T4 _ N 0  hz7) (cwV 1 hts (zg_V zw_3_1 zw_3_2 zw_3_3 zw_1_14 zw_3_4) rfl rfl rfl ⟨rfl, zyX1_newNode⟩ ⟨Nat.le_of_ble_eq_true rfl, Nat.le_of_ble_eq_true rfl⟩) ⟨bS_blind, va_recv hK hP (ci := 1) (q0 := 0) rfl rfl, bS_pre hP hK hD hN⟩ rfl rfl hl.1 rfl (lv_room (Nat.le_of_ble_eq_true rfl)) dX1_clear_70 ⟨Nat.zero_le _, Nat.zero_le _⟩) hS (fun q _ h => zx_fW hD hS hA q h) (fun q h => zx_fW hD hS hA q h) (fun r u t H1 lc ht hvm hw hB hz1 hk1 hS => ?_)
        obtain ⟨hw1, hw2⟩ := Prod.mk.inj hw; subst hw1; subst hw2
        rw [ht] at hB
        replace hP := hB
        replace hD := xW1_D T6 hD
        obtain ⟨T8, eT8, hM⟩ := zx_nE hM
        refine va_put (D := D) (ci := 1) (v := .int x5) (ty := .int) (C := RX1) (T := TX1) (N := 14) hx hb hts inlX1 tyX1 tyX1_ok nmX1 hown hK hP hD hS 0 rfl rfl 5 (by decide) (hts _ zw_2_22) (fun _ h9 => h9) rfl (by decide +kernel) rfl rfl (Nat.le_of_ble_eq_true rfl) dX1_clear_73 (fun H lc hP hD hS => ?_)
        replace hP : va_P D vwCl (xW1 cI h ad T8) H := by rw [eT8]; exact hP
        replace hD : va_D A (xW1 cI h ad T8) := by rw [eT8]; exact hD
        rw [hQ]
        exact W.vret hx hb hr (fun t ht hW => ⟨⟨T8, rfl, (Option.some.inj hM).symm, by show va_P D vwCl _ t.heap; rw [ht]; exact hP⟩, hS.F ht⟩) hS.2.2 dX1_clear_76
      · replace hM := zx_f q1 hM
        have j25 : ∀ (v1 : Int32) (t1 : Int32) (t2 : Int32) (S_ : zx_S) (H : Heap) (lc : List Loc) (ls : Array Slot), va_P D vwCl (xW1 cI h ad S_) H → va_D A (xW1 cI h ad S_) → va_S A s.heap H lc → lv_has ls 2 [(0, .ref h), (1, .int v1)] → f_X1_clear_j25 N (f_X1_clear_l2 N  n2) v1 t1 t2 S_ = some R → W p l e (headSpec zsX1_clear rmX1_clear).room s m ([.ref h] : List Value).toArray below meth c H lc 0 0 Q9 (F0 m 25 ls [.int t2, .int t1, .ref (ad 1)]) := by
          intro v1 t1 t2 S_ H lc ls hP hD hS hl hM
          unfold f_X1_clear_j25 at hM
          obtain ⟨g9, hz10, hM⟩ := zx_b1E hM
          refine va_callv (va_runSN (As := [.ref (ad 1), .int t1, .int t2]) (rest := []) ⟨hx, hb, hml, hown, hts⟩ (c_X2_put l D cI cZ cT (ad 1) 49 (S_ 1) _ N t1 t2 hz10) ⟨va_cnB 3 hts (zg_c zw_3_0) rfl rfl rfl (hN _ (zx_nw_X1_45)) (hts _ zw_1_2) zyX2_put ⟨Nat.le_of_ble_eq_true rfl, Nat.le_of_ble_eq_true rfl⟩, (hts _ zw_2_23), trivial⟩ ⟨bS_blind, bS_pre (zx_P1 hP 2 (rfl)) hK (zx_D1 hD 2 (rfl)) hN⟩ rfl rfl hl.1 rfl (lv_room (Nat.le_of_ble_eq_true rfl)) dX1_clear_25 ⟨Nat.zero_le _, Nat.zero_le _⟩) hS (fun q _ h => zx_f1 hD hS hA (k := 2) rfl q h) (fun q h => zx_f1 hD hS hA (k := 2) rfl q h) (fun u t H1 lc ht hvm hw hB hz1 hk1 hS => ?_)
          replace hw : g9 = u := hw; subst hw
          rw [ht] at hB
          replace hP := zx_set1 (k := 2) hP hD rfl hk1 hB
          replace hD := va_D.set (p := 2) (e := .inl (cI, 49, .inl g9)) hD rfl
          rw [xW1_pa1] at hP hD
          obtain ⟨T11, eT11, hM⟩ := zx_nE hM
          rw [← eT11] at hP hD
          refine lv_aload_n hx hb dX1_clear_28 rfl (lv_at hl 0 rfl) ?_
          refine va_get (D := D) (ci := 1) (v := .ref (ad 2)) (C := RX1) (T := TX1) (N := 14) hx hb hts inlX1 hown hK hP 0 rfl rfl 2 (by decide) (hts _ zw_2_7) (fun _ h9 => h9) rfl dX1_clear_29 ?_
          refine lv_iload_n hx hb dX1_clear_32 rfl (lv_at hl 1 rfl) ?_
          refine lv_iconst (v := (-1)) hx hb dX1_clear_33 (by decide) ?_
          obtain ⟨g12, hz13, hM⟩ := zx_b1E hM
          refine va_callv (va_runSN (As := [.ref (ad 2), .int v1, .int (-1)]) (rest := []) ⟨hx, hb, hml, hown, hts⟩ (c_X2_put l D cI cZ cT (ad 2) 49 (T11 2) _ N v1 (-1) hz13) ⟨va_cnB 3 hts (zg_c zw_3_0) rfl rfl rfl (hN _ (zx_nw_X1_45)) (hts _ zw_1_2) zyX2_put ⟨Nat.le_of_ble_eq_true rfl, Nat.le_of_ble_eq_true rfl⟩, (hts _ zw_2_23), trivial⟩ ⟨bS_blind, bS_pre (zx_P1 hP 3 (rfl)) hK (zx_D1 hD 3 (rfl)) hN⟩ rfl rfl hl.1 rfl (lv_room (Nat.le_of_ble_eq_true rfl)) dX1_clear_34 ⟨Nat.zero_le _, Nat.zero_le _⟩) hS (fun q _ h => zx_f1 hD hS hA (k := 3) rfl q h) (fun q h => zx_f1 hD hS hA (k := 3) rfl q h) (fun u t H1 lc ht hvm hw hB hz1 hk1 hS => ?_)
          replace hw : g12 = u := hw; subst hw
          rw [ht] at hB
          replace hP := zx_set1 (k := 3) hP hD rfl hk1 hB
          replace hD := va_D.set (p := 3) (e := .inl (cI, 49, .inl g12)) hD rfl
          rw [xW1_pa2] at hP hD
          obtain ⟨T14, eT14, hM⟩ := zx_nE hM
          rw [← eT14] at hP hD
          refine lv_aload_n hx hb dX1_clear_37 rfl (lv_at hl 0 rfl) ?_
          refine va_get (D := D) (ci := 1) (v := .ref (ad 3)) (C := RX1) (T := TX1) (N := 14) hx hb hts inlX1 hown hK hP 0 rfl rfl 3 (by decide) (hts _ zw_2_8) (fun _ h9 => h9) rfl dX1_clear_38 ?_
          refine lv_iload_n hx hb dX1_clear_41 rfl (lv_at hl 1 rfl) ?_
          refine lv_iconst (v := 0) hx hb dX1_clear_42 (by decide) ?_
          obtain ⟨g15, hz16, hM⟩ := zx_b1E hM
          refine va_callv (va_runSN (As := [.ref (ad 3), .int v1, .int 0]) (rest := []) ⟨hx, hb, hml, hown, hts⟩ (c_X2_put l D cI cZ cT (ad 3) 49 (T14 3) _ N v1 0 hz16) ⟨va_cnB 3 hts (zg_c zw_3_0) rfl rfl rfl (hN _ (zx_nw_X1_45)) (hts _ zw_1_2) zyX2_put ⟨Nat.le_of_ble_eq_true rfl, Nat.le_of_ble_eq_true rfl⟩, (hts _ zw_2_23), trivial⟩ ⟨bS_blind, bS_pre (zx_P1 hP 4 (rfl)) hK (zx_D1 hD 4 (rfl)) hN⟩ rfl rfl hl.1 rfl (lv_room (Nat.le_of_ble_eq_true rfl)) dX1_clear_43 ⟨Nat.zero_le _, Nat.zero_le _⟩) hS (fun q _ h => zx_f1 hD hS hA (k := 4) rfl q h) (fun q h => zx_f1 hD hS hA (k := 4) rfl q h) (fun u t H1 lc ht hvm hw hB hz1 hk1 hS => ?_)
          replace hw : g15 = u := hw; subst hw
          rw [ht] at hB
          replace hP := zx_set1 (k := 4) hP hD rfl hk1 hB
          replace hD := va_D.set (p := 4) (e := .inl (cI, 49, .inl g15)) hD rfl
          rw [xW1_pa3] at hP hD
          obtain ⟨T17, eT17, hM⟩ := zx_nE hM
          rw [← eT17] at hP hD
          obtain ⟨x18, ex18, hM⟩ := zx_nE hM
          refine lv_iinc (v := x18) (lv' := [(1, .int x18), (0, .ref h)]) hx hb dX1_clear_46 hl (k := 1) rfl (by rw [ex18]; rfl) (by decide) rfl (fun ls hl => ?_)
          refine lv_goto (tgt := 2) hx hb dX1_clear_49 (by decide) ?_
          exact ih2 x18 T17 _ _ _ hP hD hS (lv_sub hl [1, 0] rfl) hM
        refine lv_aload_n hx hb dX1_clear_8 rfl (lv_at hl 0 rfl) ?_
        refine va_get (D := D) (ci := 1) (v := .ref (ad 1)) (C := RX1) (T := TX1) (N := 14) hx hb hts inlX1 hown hK hP 0 rfl rfl 1 (by decide) (hts _ zw_2_6) (fun _ h9 => h9) rfl dX1_clear_9 ?_
        refine lv_iload_n hx hb dX1_clear_12 rfl (lv_at hl 1 rfl) ?_
        refine lv_iload_n hx hb dX1_clear_13 rfl (lv_at hl 1 rfl) ?_
        refine lv_bipush (v := 24) hx hb dX1_clear_14 (by decide) ?_
        refine lv_icmp_ge (tgt := 23) hx hb dX1_clear_16 (by decide) (fun q19 => ?_) (fun q19 => ?_)
        · replace hM := zx_t q19 hM
          refine lv_bipush (v := (-2)) hx hb dX1_clear_23 (by decide) ?_
          exact j25 v1 v1 (-2) S_ _ _ _ hP hD hS (lv_sub hl [0, 1] rfl) hM
        · replace hM := zx_f q19 hM
          refine lv_iconst (v := (-1)) hx hb dX1_clear_19 (by decide) ?_
          refine lv_goto (tgt := 25) hx hb dX1_clear_20 (by decide) ?_
          exact j25 v1 v1 (-1) S_ _ _ _ hP hD hS (lv_sub hl [0, 1] rfl) hM
  refine lv_iconst (v := 0) hx hb dX1_clear_0 (by decide) ?_
  refine lv_istore_n (lv' := [(1, .int 0), (0, .ref h)]) hx hb dX1_clear_1 rfl hl (by decide) rfl (fun ls hl => ?_)
  exact l2 N 0 S _ _ _ hP hD hS (lv_sub hl [1, 0] rfl) hM

/-! ShallowBoxes.copy([I[I)V -/
def f_X2_copy (N : Nat) (n0 : Nat) (n1 : Nat) (f0 : (Nat → Int32)) (f1 : (Nat → Int32)) : Option ((Nat → Int32)) :=
  (zx_n (if (Int32.ofNat n1) < (Int32.ofNat n0) then (Int32.ofNat n1) else (Int32.ofNat n0)) (fun x1 =>
(zx_cp n0 n1 f0 f1 0 0 x1 (fun g2 =>
some g2))))
abbrev rmX2_copy : Room := { frames := 1, cells := 0, slots := 0, locals := 40 }
abbrev zsX2_copy : List Cond := .code yX2_copy cX2_copy 2 none :: wsL_law
theorem zyX2_copy : yX2_copy.cls ≠ "java/lang/invoke/MethodHandle" ∧ yX2_copy.cls ≠ "java/lang/invoke/VarHandle" ∧ (parseMethodDescriptor yX2_copy.desc).map (fun d => d.parameters.length) = some 2 := by decide +kernel
set_option maxHeartbeats 4000000 in
set_option maxRecDepth 100000 in
theorem c_X2_copy (l : Launch) (D : va_G) (cI cZ cT : ClassId) (a0 n0 : Nat) (f0 : Nat → Int32) (a1 n1 : Nat) (f1 : Nat → Int32) (sz : Nat) (N : Nat) {R : (Nat → Int32)} (hM : f_X2_copy N n0 n1 f0 f1 = some R) : Met l yX2_copy zsX2_copy rmX2_copy (va_Pc [.ref a0, .ref a1] (bS D (zx_ty cI cZ cT) (pW2 cI a0 n0 f0 a1 n1 f1) sz)) (va_Qv (fun u => R = u) (fun u t => va_P D vwCl (pW2 cI a0 n0 f0 a1 n1 u) t.heap) (va_A (pW2 cI a0 n0 f0 a1 n1 f1) sz)) 0 0 (va_A (pW2 cI a0 n0 f0 a1 n1 f1) sz) := by
  refine Met.ofW (cc := cX2_copy) (maxL := 2) (ret := none) (by decide) rfl ?_
  intro p e s m args below meth c s₁ B hml hv
  obtain ⟨rfl, hsz, hP, hK, hD0, hN⟩ := hv
  have hx := B.exec
  have hb := B.bytes
  have hr := B.returns
  have hts : ∀ w ∈ wsL_law, w.before _ s = true := fun w hw => atoms_spec (ws := zsX2_copy) B.pre w (List.mem_cons_of_mem _ hw)
  have hown : s.vm.findClass RX2 = some m.cls := findClass_of_methodNamed B.named
  have hlocks := B.notSynchronized
  subst hsz
  have hD := hD0.self (sz := s.heap.size)
  generalize hAe : va_A (pW2 cI a0 n0 f0 a1 n1 f1) s.heap.size = A at hD ⊢
  have hA : ∀ q : Nat, s.heap.size ≤ q → A q := fun q h => by rw [← hAe]; exact Or.inr h
  have hS : va_S A s.heap s.heap [] := va_S.rf
  have hl := lv_entry ([.ref a0, .ref a1]) (n := 2) (Nat.le_of_ble_eq_true rfl)
  rw [lg_entry_eq]
  generalize (lg_sl ([.ref a0, .ref a1]) ++ List.replicate (2 - (lg_sl ([.ref a0, .ref a1])).length) Slot.unset).toArray = ls at hl ⊢
  have hl : lv_has ls 2 [(0, .ref a0), (1, .ref a1)] := hl
  generalize hQ : MQ below (va_Qv (fun u => R = u) (fun u t => va_P D vwCl (pW2 cI a0 n0 f0 a1 n1 u) t.heap) A) ([.ref a0, .ref a1] : List Value).toArray s 0 0 A = Q9
  replace hQ := hQ.symm
  unfold f_X2_copy at hM
  refine lv_aload_n hx hb dX2_copy_0 rfl (lv_at hl 0 rfl) ?_
  refine lv_ifnull hx hb dX2_copy_1 ?_
  refine lv_aload_n hx hb dX2_copy_4 rfl (lv_at hl 1 rfl) ?_
  refine lv_ifnull hx hb dX2_copy_5 ?_
  refine lv_aload_n hx hb dX2_copy_8 rfl (lv_at hl 0 rfl) ?_
  refine lv_iconst (v := 0) hx hb dX2_copy_9 (by decide) ?_
  refine lv_aload_n hx hb dX2_copy_10 rfl (lv_at hl 1 rfl) ?_
  refine lv_iconst (v := 0) hx hb dX2_copy_11 (by decide) ?_
  refine lv_aload_n hx hb dX2_copy_12 rfl (lv_at hl 0 rfl) ?_
  refine va_alen (D := D) (v := (Int32.ofNat n0)) hx hb hK hP 0 0 rfl rfl rfl dX2_copy_13 ?_
  refine lv_aload_n hx hb dX2_copy_14 rfl (lv_at hl 1 rfl) ?_
  refine va_alen (D := D) (v := (Int32.ofNat n1)) hx hb hK hP 1 0 rfl rfl rfl dX2_copy_15 ?_
  refine va_mmin hx hb (hml.trans hl.1.symm) hown (hts _ zw_10_19) (hts _ zw_6_8) (hts _ zw_6_9) (hts _ zw_6_10) (Nat.le_of_ble_eq_true rfl) (Nat.le_of_ble_eq_true rfl) (Nat.zero_le _) (Nat.zero_le _) dX2_copy_16 ?_
  obtain ⟨x1, ex1, hM⟩ := zx_nE hM
  refine zx_top ex1 ?_
  obtain ⟨g2, q31, q32, q33, q34, q35, eg2, hM⟩ := zx_cpE hM
  refine va_copyi (D := D) (ty := .int) hx hb (hml.trans hl.1.symm) hown (hts _ zw_10_20) (hts _ zw_10_21) (hts _ zw_10_22) (hts _ zw_10_23) hK hP hD hS 0 1 0 0 rfl rfl rfl rfl rfl q31 q32 q33 q34 q35 (fun _ _ => rfl) (Nat.le_of_ble_eq_true rfl) (Nat.le_of_ble_eq_true rfl) dX2_copy_19 (fun H lc hP hD hS => ?_)
  rw [pW2_p1] at hP hD
  rw [← eg2] at hP hD
  rw [hQ]
  exact W.vret hx hb hr (fun t ht hW => ⟨⟨g2, rfl, (Option.some.inj hM).symm, by show va_P D vwCl _ t.heap; rw [ht]; exact hP⟩, hS.F ht⟩) hS.2.2 dX2_copy_22

/-! ShallowBoxes$Tree.takeOver(LShallowBoxes$Tree;)V -/
def f_X1_takeOver (N : Nat) (S : zx_S) (S2 : zx_S) : Option (zx_S) :=
  (zx_b1 (f_X2_copy N 196 196 (S2 0) (S 0)) (fun g1 =>
(zx_n (zx_st S 0 g1) (fun T3 =>
(zx_b1 (f_X2_copy N 49 49 (S2 1) (T3 1)) (fun g4 =>
(zx_n (zx_st T3 1 g4) (fun T6 =>
(zx_b1 (f_X2_copy N 49 49 (S2 2) (T6 2)) (fun g7 =>
(zx_n (zx_st T6 2 g7) (fun T9 =>
(zx_b1 (f_X2_copy N 49 49 (S2 3) (T9 3)) (fun g10 =>
(zx_n (zx_st T9 3 g10) (fun T12 =>
(zx_b1 (f_X2_copy N 245 245 (S2 4) (T12 4)) (fun g13 =>
(zx_n (zx_st T12 4 g13) (fun T15 =>
(zx_n (zx_st T15 10 (upd (T15 10) 0 (S2 10 0))) (fun T16 =>
(zx_n (zx_st T16 10 (upd (T16 10) 1 (S2 10 1))) (fun T17 =>
(zx_n (zx_st T17 10 (upd (T17 10) 2 (S2 10 2))) (fun T18 =>
(zx_n (zx_st T18 10 (upd (T18 10) 3 (S2 10 3))) (fun T19 =>
some T19))))))))))))))))))))))))))))
abbrev rmX1_takeOver : Room := { frames := 2, cells := 0, slots := 0, locals := 61 }
abbrev zsX1_takeOver : List Cond := .code yX1_takeOver cX1_takeOver 2 none :: wsL_law
theorem zyX1_takeOver : yX1_takeOver.cls ≠ "java/lang/invoke/MethodHandle" ∧ yX1_takeOver.cls ≠ "java/lang/invoke/VarHandle" ∧ (parseMethodDescriptor yX1_takeOver.desc).map (fun d => d.parameters.length) = some 1 := by decide +kernel
set_option maxHeartbeats 4000000 in
set_option maxRecDepth 100000 in
theorem c_X1_takeOver (l : Launch) (D : va_G) (cI cZ cT : ClassId) (h : Nat) (ad : Nat → Nat) (S : zx_S) (h2 : Nat) (ad2 : Nat → Nat) (S2 : zx_S) (sz : Nat) (N : Nat) {R : zx_S} (hM : f_X1_takeOver N S S2 = some R) : Met l yX1_takeOver zsX1_takeOver rmX1_takeOver (va_Pc [.ref h, .ref h2] (bS D (zx_ty cI cZ cT) (xT2 cI h ad S h2 ad2 S2) sz)) (va_Qv (fun u => R = u) (fun u t => va_P D vwCl (xT2 cI h ad u h2 ad2 S2) t.heap) (va_A (xT2 cI h ad S h2 ad2 S2) sz)) 0 0 (va_A (xT2 cI h ad S h2 ad2 S2) sz) := by
  refine Met.ofW (cc := cX1_takeOver) (maxL := 2) (ret := none) (by decide) rfl ?_
  intro p e s m args below meth c s₁ B hml hv
  obtain ⟨rfl, hsz, hP, hK, hD0, hN⟩ := hv
  have hx := B.exec
  have hb := B.bytes
  have hr := B.returns
  have hts : ∀ w ∈ wsL_law, w.before _ s = true := fun w hw => atoms_spec (ws := zsX1_takeOver) B.pre w (List.mem_cons_of_mem _ hw)
  have hown : s.vm.findClass RX1 = some m.cls := findClass_of_methodNamed B.named
  have hlocks := B.notSynchronized
  subst hsz
  have hD := hD0.self (sz := s.heap.size)
  generalize hAe : va_A (xT2 cI h ad S h2 ad2 S2) s.heap.size = A at hD ⊢
  have hA : ∀ q : Nat, s.heap.size ≤ q → A q := fun q h => by rw [← hAe]; exact Or.inr h
  have hS : va_S A s.heap s.heap [] := va_S.rf
  have hl := lv_entry ([.ref h, .ref h2]) (n := 2) (Nat.le_of_ble_eq_true rfl)
  rw [lg_entry_eq]
  generalize (lg_sl ([.ref h, .ref h2]) ++ List.replicate (2 - (lg_sl ([.ref h, .ref h2])).length) Slot.unset).toArray = ls at hl ⊢
  have hl : lv_has ls 2 [(0, .ref h), (1, .ref h2)] := hl
  generalize hQ : MQ below (va_Qv (fun u => R = u) (fun u t => va_P D vwCl (xT2 cI h ad u h2 ad2 S2) t.heap) A) ([.ref h, .ref h2] : List Value).toArray s 0 0 A = Q9
  replace hQ := hQ.symm
  unfold f_X1_takeOver at hM
  refine lv_aload_n hx hb dX1_takeOver_0 rfl (lv_at hl 1 rfl) ?_
  refine lv_ifnull hx hb dX1_takeOver_1 ?_
  refine lv_aload_n hx hb dX1_takeOver_4 rfl (lv_at hl 1 rfl) ?_
  refine va_get (D := D) (ci := 1) (v := .ref (ad2 0)) (C := RX1) (T := TX1) (N := 14) hx hb hts inlX1 hown hK hP 11 rfl rfl 0 (by decide) (hts _ zw_2_5) (fun _ h9 => h9) rfl dX1_takeOver_5 ?_
  refine lv_aload_n hx hb dX1_takeOver_8 rfl (lv_at hl 0 rfl) ?_
  refine va_get (D := D) (ci := 1) (v := .ref (ad 0)) (C := RX1) (T := TX1) (N := 14) hx hb hts inlX1 hown hK hP 0 rfl rfl 0 (by decide) (hts _ zw_2_5) (fun _ h9 => h9) rfl dX1_takeOver_9 ?_
  obtain ⟨g1, hz2, hM⟩ := zx_b1E hM
  refine va_callv (va_runSN (As := [.ref (ad2 0), .ref (ad 0)]) (rest := []) ⟨hx, hb, hml, hown, hts⟩ (c_X2_copy l D cI cZ cT (ad2 0) 196 (S2 0) (ad 0) 196 (S 0) _ N hz2) ⟨va_cnB 2 hts (zg_c zw_10_18) rfl rfl rfl (hN _ (zx_nw_X1_66)) (hts _ zw_1_2) zyX2_copy ⟨Nat.le_of_ble_eq_true rfl, Nat.le_of_ble_eq_true rfl⟩, (hts _ zw_10_17), trivial⟩ ⟨bS_blind, bS_pre (zx_P2 hP 12 1 (rfl) (rfl)) hK (zx_D2 hD 12 1 (rfl) (rfl) (by decide)) hN⟩ rfl rfl hl.1 rfl (lv_room (Nat.le_of_ble_eq_true rfl)) dX1_takeOver_12 ⟨Nat.zero_le _, Nat.zero_le _⟩) hS (fun q _ h => zx_f2 hD hS hA (k := 12) (j := 1) rfl rfl q h) (fun q h => zx_f2 hD hS hA (k := 12) (j := 1) rfl rfl q h) (fun u t H1 lc ht hvm hw hB hz1 hk1 hS => ?_)
  replace hw : g1 = u := hw; subst hw
  rw [ht] at hB
  replace hP := zx_set2 (k := 1) (j := 12) (by decide) hP hD rfl rfl hk1 hB
  replace hD := va_D.set (p := 1) (e := .inl (cI, 196, .inl g1)) hD rfl
  rw [xT2_pa0] at hP hD
  obtain ⟨T3, eT3, hM⟩ := zx_nE hM
  rw [← eT3] at hP hD
  refine lv_aload_n hx hb dX1_takeOver_15 rfl (lv_at hl 1 rfl) ?_
  refine va_get (D := D) (ci := 1) (v := .ref (ad2 1)) (C := RX1) (T := TX1) (N := 14) hx hb hts inlX1 hown hK hP 11 rfl rfl 1 (by decide) (hts _ zw_2_6) (fun _ h9 => h9) rfl dX1_takeOver_16 ?_
  refine lv_aload_n hx hb dX1_takeOver_19 rfl (lv_at hl 0 rfl) ?_
  refine va_get (D := D) (ci := 1) (v := .ref (ad 1)) (C := RX1) (T := TX1) (N := 14) hx hb hts inlX1 hown hK hP 0 rfl rfl 1 (by decide) (hts _ zw_2_6) (fun _ h9 => h9) rfl dX1_takeOver_20 ?_
  obtain ⟨g4, hz5, hM⟩ := zx_b1E hM
  refine va_callv (va_runSN (As := [.ref (ad2 1), .ref (ad 1)]) (rest := []) ⟨hx, hb, hml, hown, hts⟩ (c_X2_copy l D cI cZ cT (ad2 1) 49 (S2 1) (ad 1) 49 (T3 1) _ N hz5) ⟨va_cnB 2 hts (zg_c zw_10_18) rfl rfl rfl (hN _ (zx_nw_X1_66)) (hts _ zw_1_2) zyX2_copy ⟨Nat.le_of_ble_eq_true rfl, Nat.le_of_ble_eq_true rfl⟩, (hts _ zw_10_17), trivial⟩ ⟨bS_blind, bS_pre (zx_P2 hP 13 2 (rfl) (rfl)) hK (zx_D2 hD 13 2 (rfl) (rfl) (by decide)) hN⟩ rfl rfl hl.1 rfl (lv_room (Nat.le_of_ble_eq_true rfl)) dX1_takeOver_23 ⟨Nat.zero_le _, Nat.zero_le _⟩) hS (fun q _ h => zx_f2 hD hS hA (k := 13) (j := 2) rfl rfl q h) (fun q h => zx_f2 hD hS hA (k := 13) (j := 2) rfl rfl q h) (fun u t H1 lc ht hvm hw hB hz1 hk1 hS => ?_)
  replace hw : g4 = u := hw; subst hw
  rw [ht] at hB
  replace hP := zx_set2 (k := 2) (j := 13) (by decide) hP hD rfl rfl hk1 hB
  replace hD := va_D.set (p := 2) (e := .inl (cI, 49, .inl g4)) hD rfl
  rw [xT2_pa1] at hP hD
  obtain ⟨T6, eT6, hM⟩ := zx_nE hM
  rw [← eT6] at hP hD
  refine lv_aload_n hx hb dX1_takeOver_26 rfl (lv_at hl 1 rfl) ?_
  refine va_get (D := D) (ci := 1) (v := .ref (ad2 2)) (C := RX1) (T := TX1) (N := 14) hx hb hts inlX1 hown hK hP 11 rfl rfl 2 (by decide) (hts _ zw_2_7) (fun _ h9 => h9) rfl dX1_takeOver_27 ?_
  refine lv_aload_n hx hb dX1_takeOver_30 rfl (lv_at hl 0 rfl) ?_
  refine va_get (D := D) (ci := 1) (v := .ref (ad 2)) (C := RX1) (T := TX1) (N := 14) hx hb hts inlX1 hown hK hP 0 rfl rfl 2 (by decide) (hts _ zw_2_7) (fun _ h9 => h9) rfl dX1_takeOver_31 ?_
  obtain ⟨g7, hz8, hM⟩ := zx_b1E hM
  refine va_callv (va_runSN (As := [.ref (ad2 2), .ref (ad 2)]) (rest := []) ⟨hx, hb, hml, hown, hts⟩ (c_X2_copy l D cI cZ cT (ad2 2) 49 (S2 2) (ad 2) 49 (T6 2) _ N hz8) ⟨va_cnB 2 hts (zg_c zw_10_18) rfl rfl rfl (hN _ (zx_nw_X1_66)) (hts _ zw_1_2) zyX2_copy ⟨Nat.le_of_ble_eq_true rfl, Nat.le_of_ble_eq_true rfl⟩, (hts _ zw_10_17), trivial⟩ ⟨bS_blind, bS_pre (zx_P2 hP 14 3 (rfl) (rfl)) hK (zx_D2 hD 14 3 (rfl) (rfl) (by decide)) hN⟩ rfl rfl hl.1 rfl (lv_room (Nat.le_of_ble_eq_true rfl)) dX1_takeOver_34 ⟨Nat.zero_le _, Nat.zero_le _⟩) hS (fun q _ h => zx_f2 hD hS hA (k := 14) (j := 3) rfl rfl q h) (fun q h => zx_f2 hD hS hA (k := 14) (j := 3) rfl rfl q h) (fun u t H1 lc ht hvm hw hB hz1 hk1 hS => ?_)
  replace hw : g7 = u := hw; subst hw
  rw [ht] at hB
  replace hP := zx_set2 (k := 3) (j := 14) (by decide) hP hD rfl rfl hk1 hB
  replace hD := va_D.set (p := 3) (e := .inl (cI, 49, .inl g7)) hD rfl
  rw [xT2_pa2] at hP hD
  obtain ⟨T9, eT9, hM⟩ := zx_nE hM
  rw [← eT9] at hP hD
  refine lv_aload_n hx hb dX1_takeOver_37 rfl (lv_at hl 1 rfl) ?_
  refine va_get (D := D) (ci := 1) (v := .ref (ad2 3)) (C := RX1) (T := TX1) (N := 14) hx hb hts inlX1 hown hK hP 11 rfl rfl 3 (by decide) (hts _ zw_2_8) (fun _ h9 => h9) rfl dX1_takeOver_38 ?_
  refine lv_aload_n hx hb dX1_takeOver_41 rfl (lv_at hl 0 rfl) ?_
  refine va_get (D := D) (ci := 1) (v := .ref (ad 3)) (C := RX1) (T := TX1) (N := 14) hx hb hts inlX1 hown hK hP 0 rfl rfl 3 (by decide) (hts _ zw_2_8) (fun _ h9 => h9) rfl dX1_takeOver_42 ?_
  obtain ⟨g10, hz11, hM⟩ := zx_b1E hM
  refine va_callv (va_runSN (As := [.ref (ad2 3), .ref (ad 3)]) (rest := []) ⟨hx, hb, hml, hown, hts⟩ (c_X2_copy l D cI cZ cT (ad2 3) 49 (S2 3) (ad 3) 49 (T9 3) _ N hz11) ⟨va_cnB 2 hts (zg_c zw_10_18) rfl rfl rfl (hN _ (zx_nw_X1_66)) (hts _ zw_1_2) zyX2_copy ⟨Nat.le_of_ble_eq_true rfl, Nat.le_of_ble_eq_true rfl⟩, (hts _ zw_10_17), trivial⟩ ⟨bS_blind, bS_pre (zx_P2 hP 15 4 (rfl) (rfl)) hK (zx_D2 hD 15 4 (rfl) (rfl) (by decide)) hN⟩ rfl rfl hl.1 rfl (lv_room (Nat.le_of_ble_eq_true rfl)) dX1_takeOver_45 ⟨Nat.zero_le _, Nat.zero_le _⟩) hS (fun q _ h => zx_f2 hD hS hA (k := 15) (j := 4) rfl rfl q h) (fun q h => zx_f2 hD hS hA (k := 15) (j := 4) rfl rfl q h) (fun u t H1 lc ht hvm hw hB hz1 hk1 hS => ?_)
  replace hw : g10 = u := hw; subst hw
  rw [ht] at hB
  replace hP := zx_set2 (k := 4) (j := 15) (by decide) hP hD rfl rfl hk1 hB
  replace hD := va_D.set (p := 4) (e := .inl (cI, 49, .inl g10)) hD rfl
  rw [xT2_pa3] at hP hD
  obtain ⟨T12, eT12, hM⟩ := zx_nE hM
  rw [← eT12] at hP hD
  refine lv_aload_n hx hb dX1_takeOver_48 rfl (lv_at hl 1 rfl) ?_
  refine va_get (D := D) (ci := 1) (v := .ref (ad2 4)) (C := RX1) (T := TX1) (N := 14) hx hb hts inlX1 hown hK hP 11 rfl rfl 4 (by decide) (hts _ zw_2_9) (fun _ h9 => h9) rfl dX1_takeOver_49 ?_
  refine lv_aload_n hx hb dX1_takeOver_52 rfl (lv_at hl 0 rfl) ?_
  refine va_get (D := D) (ci := 1) (v := .ref (ad 4)) (C := RX1) (T := TX1) (N := 14) hx hb hts inlX1 hown hK hP 0 rfl rfl 4 (by decide) (hts _ zw_2_9) (fun _ h9 => h9) rfl dX1_takeOver_53 ?_
  obtain ⟨g13, hz14, hM⟩ := zx_b1E hM
  refine va_callv (va_runSN (As := [.ref (ad2 4), .ref (ad 4)]) (rest := []) ⟨hx, hb, hml, hown, hts⟩ (c_X2_copy l D cI cZ cT (ad2 4) 245 (S2 4) (ad 4) 245 (T12 4) _ N hz14) ⟨va_cnB 2 hts (zg_c zw_10_18) rfl rfl rfl (hN _ (zx_nw_X1_66)) (hts _ zw_1_2) zyX2_copy ⟨Nat.le_of_ble_eq_true rfl, Nat.le_of_ble_eq_true rfl⟩, (hts _ zw_10_17), trivial⟩ ⟨bS_blind, bS_pre (zx_P2 hP 16 5 (rfl) (rfl)) hK (zx_D2 hD 16 5 (rfl) (rfl) (by decide)) hN⟩ rfl rfl hl.1 rfl (lv_room (Nat.le_of_ble_eq_true rfl)) dX1_takeOver_56 ⟨Nat.zero_le _, Nat.zero_le _⟩) hS (fun q _ h => zx_f2 hD hS hA (k := 16) (j := 5) rfl rfl q h) (fun q h => zx_f2 hD hS hA (k := 16) (j := 5) rfl rfl q h) (fun u t H1 lc ht hvm hw hB hz1 hk1 hS => ?_)
  replace hw : g13 = u := hw; subst hw
  rw [ht] at hB
  replace hP := zx_set2 (k := 5) (j := 16) (by decide) hP hD rfl rfl hk1 hB
  replace hD := va_D.set (p := 5) (e := .inl (cI, 245, .inl g13)) hD rfl
  rw [xT2_pa4] at hP hD
  obtain ⟨T15, eT15, hM⟩ := zx_nE hM
  rw [← eT15] at hP hD
  refine lv_aload_n hx hb dX1_takeOver_59 rfl (lv_at hl 0 rfl) ?_
  refine lv_aload_n hx hb dX1_takeOver_60 rfl (lv_at hl 1 rfl) ?_
  refine va_get (D := D) (ci := 1) (v := .int (S2 10 0)) (C := RX1) (T := TX1) (N := 14) hx hb hts inlX1 hown hK hP 11 rfl rfl 5 (by decide) (hts _ zw_2_22) (fun _ h9 => h9) rfl dX1_takeOver_61 ?_
  obtain ⟨T16, eT16, hM⟩ := zx_nE hM
  refine va_put (D := D) (ci := 1) (v := .int (S2 10 0)) (ty := .int) (C := RX1) (T := TX1) (N := 14) hx hb hts inlX1 tyX1 tyX1_ok nmX1 hown hK hP hD hS 0 rfl rfl 5 (by decide) (hts _ zw_2_22) (fun _ h9 => h9) rfl (by decide +kernel) rfl rfl (Nat.le_of_ble_eq_true rfl) dX1_takeOver_64 (fun H lc hP hD hS => ?_)
  replace hP : va_P D vwCl (xT2 cI h ad T16 h2 ad2 S2) H := by rw [eT16]; exact hP
  replace hD : va_D A (xT2 cI h ad T16 h2 ad2 S2) := by rw [eT16]; exact hD
  refine lv_aload_n hx hb dX1_takeOver_67 rfl (lv_at hl 0 rfl) ?_
  refine lv_aload_n hx hb dX1_takeOver_68 rfl (lv_at hl 1 rfl) ?_
  refine va_get (D := D) (ci := 1) (v := .int (S2 10 1)) (C := RX1) (T := TX1) (N := 14) hx hb hts inlX1 hown hK hP 11 rfl rfl 6 (by decide) (hts _ zw_2_19) (fun _ h9 => h9) rfl dX1_takeOver_69 ?_
  obtain ⟨T17, eT17, hM⟩ := zx_nE hM
  refine va_put (D := D) (ci := 1) (v := .int (S2 10 1)) (ty := .int) (C := RX1) (T := TX1) (N := 14) hx hb hts inlX1 tyX1 tyX1_ok nmX1 hown hK hP hD hS 0 rfl rfl 6 (by decide) (hts _ zw_2_19) (fun _ h9 => h9) rfl (by decide +kernel) rfl rfl (Nat.le_of_ble_eq_true rfl) dX1_takeOver_72 (fun H lc hP hD hS => ?_)
  replace hP : va_P D vwCl (xT2 cI h ad T17 h2 ad2 S2) H := by rw [eT17]; exact hP
  replace hD : va_D A (xT2 cI h ad T17 h2 ad2 S2) := by rw [eT17]; exact hD
  refine lv_aload_n hx hb dX1_takeOver_75 rfl (lv_at hl 0 rfl) ?_
  refine lv_aload_n hx hb dX1_takeOver_76 rfl (lv_at hl 1 rfl) ?_
  refine va_get (D := D) (ci := 1) (v := .int (S2 10 2)) (C := RX1) (T := TX1) (N := 14) hx hb hts inlX1 hown hK hP 11 rfl rfl 7 (by decide) (hts _ zw_2_20) (fun _ h9 => h9) rfl dX1_takeOver_77 ?_
  obtain ⟨T18, eT18, hM⟩ := zx_nE hM
  refine va_put (D := D) (ci := 1) (v := .int (S2 10 2)) (ty := .int) (C := RX1) (T := TX1) (N := 14) hx hb hts inlX1 tyX1 tyX1_ok nmX1 hown hK hP hD hS 0 rfl rfl 7 (by decide) (hts _ zw_2_20) (fun _ h9 => h9) rfl (by decide +kernel) rfl rfl (Nat.le_of_ble_eq_true rfl) dX1_takeOver_80 (fun H lc hP hD hS => ?_)
  replace hP : va_P D vwCl (xT2 cI h ad T18 h2 ad2 S2) H := by rw [eT18]; exact hP
  replace hD : va_D A (xT2 cI h ad T18 h2 ad2 S2) := by rw [eT18]; exact hD
  refine lv_aload_n hx hb dX1_takeOver_83 rfl (lv_at hl 0 rfl) ?_
  refine lv_aload_n hx hb dX1_takeOver_84 rfl (lv_at hl 1 rfl) ?_
  refine va_get (D := D) (ci := 1) (v := .int (S2 10 3)) (C := RX1) (T := TX1) (N := 14) hx hb hts inlX1 hown hK hP 11 rfl rfl 8 (by decide) (hts _ zw_2_21) (fun _ h9 => h9) rfl dX1_takeOver_85 ?_
  obtain ⟨T19, eT19, hM⟩ := zx_nE hM
  refine va_put (D := D) (ci := 1) (v := .int (S2 10 3)) (ty := .int) (C := RX1) (T := TX1) (N := 14) hx hb hts inlX1 tyX1 tyX1_ok nmX1 hown hK hP hD hS 0 rfl rfl 8 (by decide) (hts _ zw_2_21) (fun _ h9 => h9) rfl (by decide +kernel) rfl rfl (Nat.le_of_ble_eq_true rfl) dX1_takeOver_88 (fun H lc hP hD hS => ?_)
  replace hP : va_P D vwCl (xT2 cI h ad T19 h2 ad2 S2) H := by rw [eT19]; exact hP
  replace hD : va_D A (xT2 cI h ad T19 h2 ad2 S2) := by rw [eT19]; exact hD
  rw [hQ]
  exact W.vret hx hb hr (fun t ht hW => ⟨⟨T19, rfl, (Option.some.inj hM).symm, by show va_P D vwCl _ t.heap; rw [ht]; exact hP⟩, hS.F ht⟩) hS.2.2 dX1_takeOver_91
