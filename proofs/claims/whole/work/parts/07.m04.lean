/-! ShallowBoxesModel.append(I)I -/
def f_X3_append_j31 (N : Nat) (v1 : Int32) (t1 : Int32) (S_ : zx_S) : Option (Int32 × zx_S) :=
  (zx_b2 (f_X3_refused N t1 S_) (fun x1 T2 =>
(if x1 = 0 then
  (zx_wr 100 (T2 12 1) (zx_st T2 0 (upd (T2 0) (Int32.toNatClampNeg (T2 12 1)) v1)) (fun T5 =>
(zx_n (zx_st T5 12 (upd (T5 12) 1 ((T5 12 1) + 1))) (fun T7 =>
some ((T7 12 1), T7))))) else
  some (0, T2))))
def f_X3_append (N : Nat) (p1 : Int32) (S : zx_S) : Option (Int32 × zx_S) :=
  (zx_b1 (f_X3_in N (Int32.toInt64 p1) 0 255) (fun x8 =>
(if x8 = 0 then
  f_X3_append_j31 N  p1 1 S else
  (if (S 12 1) = 100 then
  f_X3_append_j31 N  p1 2 S else
  f_X3_append_j31 N  p1 0 S))))
abbrev rmX3_append : Room := { frames := 1, cells := 0, slots := 0, locals := 25 }
abbrev zsX3_append : List Cond := .code yX3_append cX3_append 2 (some .int) :: wsL_law
theorem zyX3_append : yX3_append.cls ≠ "java/lang/invoke/MethodHandle" ∧ yX3_append.cls ≠ "java/lang/invoke/VarHandle" ∧ (parseMethodDescriptor yX3_append.desc).map (fun d => d.parameters.length) = some 1 := by decide +kernel
set_option maxHeartbeats 4000000 in
set_option maxRecDepth 100000 in
theorem c_X3_append (l : Launch) (D : va_G) (cI cZ cT : ClassId) (h : Nat) (ad : Nat → Nat) (S : zx_S) (sz : Nat) (N : Nat) (p1 : Int32) {R : Int32 × zx_S} (hM : f_X3_append N p1 S = some R) : Met l yX3_append zsX3_append rmX3_append (va_Pc [.ref h, .int p1] (bS D (zx_ty cI cZ cT) (xW3 cI cZ h ad S) sz)) (va_Qi (fun r u => R = (r, u)) (fun u t => va_P D vwCl (xW3 cI cZ h ad u) t.heap) (va_A (xW3 cI cZ h ad S) sz)) 0 0 (va_A (xW3 cI cZ h ad S) sz) := by
  refine Met.ofW (cc := cX3_append) (maxL := 2) (ret := (some .int)) (by decide) rfl ?_
  intro p e s m args below meth c s₁ B hml hv
  obtain ⟨rfl, hsz, hP, hK, hD0, hN⟩ := hv
  have hx := B.exec
  have hb := B.bytes
  have hr := B.returns
  have hts : ∀ w ∈ wsL_law, w.before _ s = true := fun w hw => atoms_spec (ws := zsX3_append) B.pre w (List.mem_cons_of_mem _ hw)
  have hown : s.vm.findClass RX3 = some m.cls := findClass_of_methodNamed B.named
  have hlocks := B.notSynchronized
  subst hsz
  have hD := hD0.self (sz := s.heap.size)
  generalize hAe : va_A (xW3 cI cZ h ad S) s.heap.size = A at hD ⊢
  have hA : ∀ q : Nat, s.heap.size ≤ q → A q := fun q h => by rw [← hAe]; exact Or.inr h
  have hS : va_S A s.heap s.heap [] := va_S.rf
  have hl := lv_entry ([.ref h, .int p1]) (n := 2) (Nat.le_of_ble_eq_true rfl)
  rw [lg_entry_eq]
  generalize (lg_sl ([.ref h, .int p1]) ++ List.replicate (2 - (lg_sl ([.ref h, .int p1])).length) Slot.unset).toArray = ls at hl ⊢
  have hl : lv_has ls 2 [(0, .ref h), (1, .int p1)] := hl
  generalize hQ : MQ below (va_Qi (fun r u => R = (r, u)) (fun u t => va_P D vwCl (xW3 cI cZ h ad u) t.heap) A) ([.ref h, .int p1] : List Value).toArray s 0 0 A = Q9
  replace hQ := hQ.symm
  unfold f_X3_append at hM
  have j31 : ∀ (v1 : Int32) (t1 : Int32) (S_ : zx_S) (H : Heap) (lc : List Loc) (ls : Array Slot), va_P D vwCl (xW3 cI cZ h ad S_) H → va_D A (xW3 cI cZ h ad S_) → va_S A s.heap H lc → lv_has ls 2 [(0, .ref h), (1, .int v1)] → f_X3_append_j31 N v1 t1 S_ = some R → W p l e (headSpec zsX3_append rmX3_append).room s m ([.ref h, .int p1] : List Value).toArray below meth c H lc 0 0 Q9 (F0 m 31 ls [.int t1, .ref h]) := by
    intro v1 t1 S_ H lc ls hP hD hS hl hM
    unfold f_X3_append_j31 at hM
    obtain ⟨x1, T2, hz3, hM⟩ := zx_b2E hM
    refine va_calli (va_runV (As := [.int t1]) (rest := []) ⟨hx, hb, hml, hown, hts⟩ (c_X3_refused l D cI cZ cT h ad S_ _ N t1  hz3) (cwV 1 hts (zg_V zw_5_14 zw_5_15 zw_5_16 zw_1_5 zw_5_17) rfl rfl rfl ⟨rfl, zyX3_refused⟩ ⟨Nat.le_of_ble_eq_true rfl, Nat.le_of_ble_eq_true rfl⟩) ⟨bS_blind, va_recv hK hP (ci := 3) (q0 := 0) rfl rfl, bS_pre hP hK hD hN⟩ rfl rfl hl.1 rfl (lv_room (Nat.le_of_ble_eq_true rfl)) dX3_append_31 ⟨Nat.zero_le _, Nat.zero_le _⟩) hS (fun q _ h => zx_fW hD hS hA q h) (fun q h => zx_fW hD hS hA q h) (fun r u t H1 lc ht hvm hw hB hz1 hk1 hS => ?_)
    obtain ⟨hw1, hw2⟩ := Prod.mk.inj hw; subst hw1; subst hw2
    rw [ht] at hB
    replace hP := hB
    replace hD := xW3_D T2 hD
    refine lv_if_eq (tgt := 39) hx hb dX3_append_34 (by decide) (fun q4 => ?_) (fun q4 => ?_)
    · replace hM := zx_t q4 hM
      refine lv_aload_n hx hb dX3_append_39 rfl (lv_at hl 0 rfl) ?_
      refine va_get (D := D) (ci := 3) (v := .ref (ad 0)) (C := RX3) (T := TX3) (N := 20) hx hb hts inlX3 hown hK hP 0 rfl rfl 1 (by decide) (hts _ zw_3_18) (fun _ h9 => h9) rfl dX3_append_40 ?_
      refine lv_aload_n hx hb dX3_append_43 rfl (lv_at hl 0 rfl) ?_
      refine va_get (D := D) (ci := 3) (v := .int (T2 12 1)) (C := RX3) (T := TX3) (N := 20) hx hb hts inlX3 hown hK hP 0 rfl rfl 2 (by decide) (hts _ zw_5_10) (fun _ h9 => h9) rfl dX3_append_44 ?_
      refine lv_iload_n hx hb dX3_append_47 rfl (lv_at hl 1 rfl) ?_
      obtain ⟨T5, q6, eT5, hM⟩ := zx_wrE hM
      refine va_iast (D := D) hx hb hK hP hD hS 1 0 rfl rfl q6 dX3_append_48 (fun H lc hP hD hS => ?_)
      rw [xW3_pa0] at hP hD
      rw [← eT5] at hP hD
      refine lv_aload_n hx hb dX3_append_49 rfl (lv_at hl 0 rfl) ?_
      refine lv_dup hx hb dX3_append_50 rfl ?_
      refine va_get (D := D) (ci := 3) (v := .int (T5 12 1)) (C := RX3) (T := TX3) (N := 20) hx hb hts inlX3 hown hK hP 0 rfl rfl 2 (by decide) (hts _ zw_5_10) (fun _ h9 => h9) rfl dX3_append_51 ?_
      refine lv_iconst (v := 1) hx hb dX3_append_54 (by decide) ?_
      refine lv_iadd hx hb dX3_append_55 ?_
      obtain ⟨T7, eT7, hM⟩ := zx_nE hM
      refine va_put (D := D) (ci := 3) (v := .int ((T5 12 1) + 1)) (ty := .int) (C := RX3) (T := TX3) (N := 20) hx hb hts inlX3 tyX3 tyX3_ok nmX3 hown hK hP hD hS 0 rfl rfl 2 (by decide) (hts _ zw_5_10) (fun _ h9 => h9) rfl (by decide +kernel) rfl rfl (Nat.le_of_ble_eq_true rfl) dX3_append_56 (fun H lc hP hD hS => ?_)
      replace hP : va_P D vwCl (xW3 cI cZ h ad T7) H := by rw [eT7]; exact hP
      replace hD : va_D A (xW3 cI cZ h ad T7) := by rw [eT7]; exact hD
      refine lv_aload_n hx hb dX3_append_59 rfl (lv_at hl 0 rfl) ?_
      refine va_get (D := D) (ci := 3) (v := .int (T7 12 1)) (C := RX3) (T := TX3) (N := 20) hx hb hts inlX3 hown hK hP 0 rfl rfl 2 (by decide) (hts _ zw_5_10) (fun _ h9 => h9) rfl dX3_append_60 ?_
      rw [hQ]
      exact W.iret hx hb hr (fun t ht hW => ⟨⟨(T7 12 1), T7, rfl, (Option.some.inj hM).symm, by show va_P D vwCl _ t.heap; rw [ht]; exact hP⟩, hS.F ht⟩) hS.2.2 dX3_append_63
    · replace hM := zx_f q4 hM
      refine lv_iconst (v := 0) hx hb dX3_append_37 (by decide) ?_
      rw [hQ]
      exact W.iret hx hb hr (fun t ht hW => ⟨⟨0, T2, rfl, (Option.some.inj hM).symm, by show va_P D vwCl _ t.heap; rw [ht]; exact hP⟩, hS.F ht⟩) hS.2.2 dX3_append_38
  refine lv_aload_n hx hb dX3_append_0 rfl (lv_at hl 0 rfl) ?_
  refine lv_iload_n hx hb dX3_append_1 rfl (lv_at hl 1 rfl) ?_
  refine lv_i2l hx hb dX3_append_2 rfl ?_
  refine lv_lconst (v := 0) hx hb dX3_append_3 (by decide) ?_
  refine lv_ldc2 (v := 255) hx hb hown (hts _ zw_5_9) dX3_append_4 ?_
  obtain ⟨x8, hz9, hM⟩ := zx_b1E hM
  refine va_calli (va_runS (As := [.long (Int32.toInt64 p1), .long 0, .long 255]) (rest := [.ref h]) ⟨hx, hb, hml, hown, hts⟩ (c_X3_in l D cI cZ cT _ N (Int32.toInt64 p1) 0 255 hz9) (va_cwS 3 hts (zg_S zw_5_11 zw_5_12 zw_1_5 zw_5_13) rfl rfl rfl zyX3_in ⟨Nat.le_of_ble_eq_true rfl, Nat.le_of_ble_eq_true rfl⟩) ⟨bS_blind, bS_pre (zx_P0 hP) hK (zx_D0 hD) hN⟩ rfl rfl hl.1 rfl (lv_room (Nat.le_of_ble_eq_true rfl)) dX3_append_7 ⟨Nat.zero_le _, Nat.zero_le _⟩) hS (fun q h1 h2 => absurd h1 (Nat.not_lt.mpr h2)) (fun q h => hA q (Nat.le_trans hS.1 h)) (fun r u t H1 lc ht hvm hw hB hz1 hk1 hS => ?_)
  replace hw : x8 = r := hw; subst hw
  replace hP := zx_keep hP hk1
  refine lv_if_ne (tgt := 17) hx hb dX3_append_10 (by decide) (fun q10 => ?_) (fun q10 => ?_)
  · replace hM := zx_f q10 hM
    refine lv_aload_n hx hb dX3_append_17 rfl (lv_at hl 0 rfl) ?_
    refine va_get (D := D) (ci := 3) (v := .int (S 12 1)) (C := RX3) (T := TX3) (N := 20) hx hb hts inlX3 hown hK hP 0 rfl rfl 2 (by decide) (hts _ zw_5_10) (fun _ h9 => h9) rfl dX3_append_18 ?_
    refine lv_bipush (v := 100) hx hb dX3_append_21 (by decide) ?_
    refine lv_icmp_ne (tgt := 30) hx hb dX3_append_23 (by decide) (fun q11 => ?_) (fun q11 => ?_)
    · replace hM := zx_f q11 hM
      refine lv_iconst (v := 0) hx hb dX3_append_30 (by decide) ?_
      exact j31 p1 0 S _ _ _ hP hD hS (lv_sub hl [0, 1] rfl) hM
    · replace hM := zx_t q11 hM
      refine lv_iconst (v := 2) hx hb dX3_append_26 (by decide) ?_
      refine lv_goto (tgt := 31) hx hb dX3_append_27 (by decide) ?_
      exact j31 p1 2 S _ _ _ hP hD hS (lv_sub hl [0, 1] rfl) hM
  · replace hM := zx_t q10 hM
    refine lv_iconst (v := 1) hx hb dX3_append_13 (by decide) ?_
    refine lv_goto (tgt := 31) hx hb dX3_append_14 (by decide) ?_
    exact j31 p1 1 S _ _ _ hP hD hS (lv_sub hl [0, 1] rfl) hM

/-! ShallowBoxesModel.clearText()I -/
def f_X3_clearText (N : Nat) (S : zx_S) : Option (Int32 × zx_S) :=
  (zx_n (zx_st S 12 (upd (S 12) 0 0)) (fun T1 =>
(zx_n (zx_st T1 12 (upd (T1 12) 1 0)) (fun T2 =>
some ((T1 12 1), T2)))))
abbrev rmX3_clearText : Room := { frames := 0, cells := 0, slots := 0, locals := 0 }
abbrev zsX3_clearText : List Cond := .code yX3_clearText cX3_clearText 2 (some .int) :: wsL_law
theorem zyX3_clearText : yX3_clearText.cls ≠ "java/lang/invoke/MethodHandle" ∧ yX3_clearText.cls ≠ "java/lang/invoke/VarHandle" ∧ (parseMethodDescriptor yX3_clearText.desc).map (fun d => d.parameters.length) = some 0 := by decide +kernel
set_option maxHeartbeats 4000000 in
set_option maxRecDepth 100000 in
theorem c_X3_clearText (l : Launch) (D : va_G) (cI cZ cT : ClassId) (h : Nat) (ad : Nat → Nat) (S : zx_S) (sz : Nat) (N : Nat) {R : Int32 × zx_S} (hM : f_X3_clearText N S = some R) : Met l yX3_clearText zsX3_clearText rmX3_clearText (va_Pc [.ref h] (bS D (zx_ty cI cZ cT) (xW3 cI cZ h ad S) sz)) (va_Qi (fun r u => R = (r, u)) (fun u t => va_P D vwCl (xW3 cI cZ h ad u) t.heap) (va_A (xW3 cI cZ h ad S) sz)) 0 0 (va_A (xW3 cI cZ h ad S) sz) := by
  refine Met.ofW (cc := cX3_clearText) (maxL := 2) (ret := (some .int)) (by decide) rfl ?_
  intro p e s m args below meth c s₁ B hml hv
  obtain ⟨rfl, hsz, hP, hK, hD0, hN⟩ := hv
  have hx := B.exec
  have hb := B.bytes
  have hr := B.returns
  have hts : ∀ w ∈ wsL_law, w.before _ s = true := fun w hw => atoms_spec (ws := zsX3_clearText) B.pre w (List.mem_cons_of_mem _ hw)
  have hown : s.vm.findClass RX3 = some m.cls := findClass_of_methodNamed B.named
  have hlocks := B.notSynchronized
  subst hsz
  have hD := hD0.self (sz := s.heap.size)
  generalize hAe : va_A (xW3 cI cZ h ad S) s.heap.size = A at hD ⊢
  have hA : ∀ q : Nat, s.heap.size ≤ q → A q := fun q h => by rw [← hAe]; exact Or.inr h
  have hS : va_S A s.heap s.heap [] := va_S.rf
  have hl := lv_entry ([.ref h]) (n := 2) (Nat.le_of_ble_eq_true rfl)
  rw [lg_entry_eq]
  generalize (lg_sl ([.ref h]) ++ List.replicate (2 - (lg_sl ([.ref h])).length) Slot.unset).toArray = ls at hl ⊢
  have hl : lv_has ls 2 [(0, .ref h)] := hl
  generalize hQ : MQ below (va_Qi (fun r u => R = (r, u)) (fun u t => va_P D vwCl (xW3 cI cZ h ad u) t.heap) A) ([.ref h] : List Value).toArray s 0 0 A = Q9
  replace hQ := hQ.symm
  unfold f_X3_clearText at hM
  refine lv_aload_n hx hb dX3_clearText_0 rfl (lv_at hl 0 rfl) ?_
  refine lv_iconst (v := 0) hx hb dX3_clearText_1 (by decide) ?_
  obtain ⟨T1, eT1, hM⟩ := zx_nE hM
  refine va_put (D := D) (ci := 3) (v := .int 0) (ty := .int) (C := RX3) (T := TX3) (N := 20) hx hb hts inlX3 tyX3 tyX3_ok nmX3 hown hK hP hD hS 0 rfl rfl 0 (by decide) (hts _ zw_5_18) (fun _ h9 => h9) rfl (by decide +kernel) rfl rfl (Nat.le_of_ble_eq_true rfl) dX3_clearText_2 (fun H lc hP hD hS => ?_)
  replace hP : va_P D vwCl (xW3 cI cZ h ad T1) H := by rw [eT1]; exact hP
  replace hD : va_D A (xW3 cI cZ h ad T1) := by rw [eT1]; exact hD
  refine lv_aload_n hx hb dX3_clearText_5 rfl (lv_at hl 0 rfl) ?_
  refine va_get (D := D) (ci := 3) (v := .int (T1 12 1)) (C := RX3) (T := TX3) (N := 20) hx hb hts inlX3 hown hK hP 0 rfl rfl 2 (by decide) (hts _ zw_5_10) (fun _ h9 => h9) rfl dX3_clearText_6 ?_
  refine lv_istore_n (lv' := [(1, .int (T1 12 1)), (0, .ref h)]) hx hb dX3_clearText_9 rfl hl (by decide) rfl (fun ls hl => ?_)
  refine lv_aload_n hx hb dX3_clearText_10 rfl (lv_at hl 1 rfl) ?_
  refine lv_iconst (v := 0) hx hb dX3_clearText_11 (by decide) ?_
  obtain ⟨T2, eT2, hM⟩ := zx_nE hM
  refine va_put (D := D) (ci := 3) (v := .int 0) (ty := .int) (C := RX3) (T := TX3) (N := 20) hx hb hts inlX3 tyX3 tyX3_ok nmX3 hown hK hP hD hS 0 rfl rfl 2 (by decide) (hts _ zw_5_10) (fun _ h9 => h9) rfl (by decide +kernel) rfl rfl (Nat.le_of_ble_eq_true rfl) dX3_clearText_12 (fun H lc hP hD hS => ?_)
  replace hP : va_P D vwCl (xW3 cI cZ h ad T2) H := by rw [eT2]; exact hP
  replace hD : va_D A (xW3 cI cZ h ad T2) := by rw [eT2]; exact hD
  refine lv_iload_n hx hb dX3_clearText_15 rfl (lv_at hl 0 rfl) ?_
  rw [hQ]
  exact W.iret hx hb hr (fun t ht hW => ⟨⟨(T1 12 1), T2, rfl, (Option.some.inj hM).symm, by show va_P D vwCl _ t.heap; rw [ht]; exact hP⟩, hS.F ht⟩) hS.2.2 dX3_clearText_16

/-! ShallowBoxesModel.here()I -/
def f_X3_here (N : Nat) (S : zx_S) : Option (Int32) :=
  (if (S 12 1) ≤ (S 12 6) then
  some (-1) else
  (zx_rd 100 (S 0) (S 12 6) (fun x2 =>
some x2)))
abbrev rmX3_here : Room := { frames := 0, cells := 0, slots := 0, locals := 0 }
abbrev zsX3_here : List Cond := .code yX3_here cX3_here 1 (some .int) :: wsL_law
theorem zyX3_here : yX3_here.cls ≠ "java/lang/invoke/MethodHandle" ∧ yX3_here.cls ≠ "java/lang/invoke/VarHandle" ∧ (parseMethodDescriptor yX3_here.desc).map (fun d => d.parameters.length) = some 0 := by decide +kernel
set_option maxHeartbeats 4000000 in
set_option maxRecDepth 100000 in
theorem c_X3_here (l : Launch) (D : va_G) (cI cZ cT : ClassId) (h : Nat) (ad : Nat → Nat) (S : zx_S) (sz : Nat) (N : Nat) {R : Int32} (hM : f_X3_here N S = some R) : Met l yX3_here zsX3_here rmX3_here (va_Pc [.ref h] (bS D (zx_ty cI cZ cT) (xW3 cI cZ h ad S) sz)) (va_Qi (fun r (_ : Unit) => R = r) (fun _ _ => True) (fun q => sz ≤ q)) 0 0 (fun q => sz ≤ q) := by
  refine Met.ofW (cc := cX3_here) (maxL := 1) (ret := (some .int)) (by decide) rfl ?_
  intro p e s m args below meth c s₁ B hml hv
  obtain ⟨rfl, hsz, hP, hK, hD0, hN⟩ := hv
  have hx := B.exec
  have hb := B.bytes
  have hr := B.returns
  have hts : ∀ w ∈ wsL_law, w.before _ s = true := fun w hw => atoms_spec (ws := zsX3_here) B.pre w (List.mem_cons_of_mem _ hw)
  have hown : s.vm.findClass RX3 = some m.cls := findClass_of_methodNamed B.named
  have hlocks := B.notSynchronized
  subst hsz
  generalize hAe : (fun q : Nat => s.heap.size ≤ q) = A
  have hA : ∀ q : Nat, s.heap.size ≤ q → A q := fun q h => by rw [← hAe]; exact h
  have hD := hD0
  have hS : va_S A s.heap s.heap [] := va_S.rf
  have hl := lv_entry ([.ref h]) (n := 1) (Nat.le_of_ble_eq_true rfl)
  rw [lg_entry_eq]
  generalize (lg_sl ([.ref h]) ++ List.replicate (1 - (lg_sl ([.ref h])).length) Slot.unset).toArray = ls at hl ⊢
  have hl : lv_has ls 1 [(0, .ref h)] := hl
  generalize hQ : MQ below (va_Qi (fun r (_ : Unit) => R = r) (fun _ _ => True) A) ([.ref h] : List Value).toArray s 0 0 A = Q9
  replace hQ := hQ.symm
  unfold f_X3_here at hM
  refine lv_aload_n hx hb dX3_here_0 rfl (lv_at hl 0 rfl) ?_
  refine va_get (D := D) (ci := 3) (v := .int (S 12 6)) (C := RX3) (T := TX3) (N := 20) hx hb hts inlX3 hown hK hP 0 rfl rfl 18 (by decide) (hts _ zw_7_14) (fun _ h9 => h9) rfl dX3_here_1 ?_
  refine lv_aload_n hx hb dX3_here_4 rfl (lv_at hl 0 rfl) ?_
  refine va_get (D := D) (ci := 3) (v := .int (S 12 1)) (C := RX3) (T := TX3) (N := 20) hx hb hts inlX3 hown hK hP 0 rfl rfl 2 (by decide) (hts _ zw_5_10) (fun _ h9 => h9) rfl dX3_here_5 ?_
  refine lv_icmp_ge (tgt := 23) hx hb dX3_here_8 (by decide) (fun q1 => ?_) (fun q1 => ?_)
  · replace hM := zx_t q1 hM
    refine lv_iconst (v := (-1)) hx hb dX3_here_23 (by decide) ?_
    rw [hQ]
    exact W.iret hx hb hr (fun t ht hW => ⟨⟨(-1), (), rfl, (Option.some.inj hM).symm, trivial⟩, hS.F ht⟩) hS.2.2 dX3_here_24
  · replace hM := zx_f q1 hM
    refine lv_aload_n hx hb dX3_here_11 rfl (lv_at hl 0 rfl) ?_
    refine va_get (D := D) (ci := 3) (v := .ref (ad 0)) (C := RX3) (T := TX3) (N := 20) hx hb hts inlX3 hown hK hP 0 rfl rfl 1 (by decide) (hts _ zw_3_18) (fun _ h9 => h9) rfl dX3_here_12 ?_
    refine lv_aload_n hx hb dX3_here_15 rfl (lv_at hl 0 rfl) ?_
    refine va_get (D := D) (ci := 3) (v := .int (S 12 6)) (C := RX3) (T := TX3) (N := 20) hx hb hts inlX3 hown hK hP 0 rfl rfl 18 (by decide) (hts _ zw_7_14) (fun _ h9 => h9) rfl dX3_here_16 ?_
    obtain ⟨x2, q3, ex2, hM⟩ := zx_rdE hM
    refine va_iald (D := D) hx hb hK hP 1 0 rfl rfl q3 dX3_here_19 ?_
    refine zx_top ex2 ?_
    refine lv_goto (tgt := 24) hx hb dX3_here_20 (by decide) ?_
    rw [hQ]
    exact W.iret hx hb hr (fun t ht hW => ⟨⟨x2, (), rfl, (Option.some.inj hM).symm, trivial⟩, hS.F ht⟩) hS.2.2 dX3_here_24

/-! ShallowBoxesModel.passed(I)Z -/
def f_X3_passed (N : Nat) (p1 : Int32) (S : zx_S) : Option (Int32 × zx_S) :=
  (zx_b1 (f_X3_here N S) (fun x1 =>
(if x1 = p1 then
  (zx_n (zx_st S 12 (upd (S 12) 6 ((S 12 6) + 1))) (fun T4 =>
some (1, T4))) else
  some (0, S))))
abbrev rmX3_passed : Room := { frames := 1, cells := 0, slots := 0, locals := 20 }
abbrev zsX3_passed : List Cond := .code yX3_passed cX3_passed 2 (some .boolean) :: wsL_law
theorem zyX3_passed : yX3_passed.cls ≠ "java/lang/invoke/MethodHandle" ∧ yX3_passed.cls ≠ "java/lang/invoke/VarHandle" ∧ (parseMethodDescriptor yX3_passed.desc).map (fun d => d.parameters.length) = some 1 := by decide +kernel
set_option maxHeartbeats 4000000 in
set_option maxRecDepth 100000 in
theorem c_X3_passed (l : Launch) (D : va_G) (cI cZ cT : ClassId) (h : Nat) (ad : Nat → Nat) (S : zx_S) (sz : Nat) (N : Nat) (p1 : Int32) {R : Int32 × zx_S} (hM : f_X3_passed N p1 S = some R) : Met l yX3_passed zsX3_passed rmX3_passed (va_Pc [.ref h, .int p1] (bS D (zx_ty cI cZ cT) (xW3 cI cZ h ad S) sz)) (va_Qi (fun r u => R = (r, u)) (fun u t => va_P D vwCl (xW3 cI cZ h ad u) t.heap) (va_A (xW3 cI cZ h ad S) sz)) 0 0 (va_A (xW3 cI cZ h ad S) sz) := by
  refine Met.ofW (cc := cX3_passed) (maxL := 2) (ret := (some .boolean)) (by decide) rfl ?_
  intro p e s m args below meth c s₁ B hml hv
  obtain ⟨rfl, hsz, hP, hK, hD0, hN⟩ := hv
  have hx := B.exec
  have hb := B.bytes
  have hr := B.returns
  have hts : ∀ w ∈ wsL_law, w.before _ s = true := fun w hw => atoms_spec (ws := zsX3_passed) B.pre w (List.mem_cons_of_mem _ hw)
  have hown : s.vm.findClass RX3 = some m.cls := findClass_of_methodNamed B.named
  have hlocks := B.notSynchronized
  subst hsz
  have hD := hD0.self (sz := s.heap.size)
  generalize hAe : va_A (xW3 cI cZ h ad S) s.heap.size = A at hD ⊢
  have hA : ∀ q : Nat, s.heap.size ≤ q → A q := fun q h => by rw [← hAe]; exact Or.inr h
  have hS : va_S A s.heap s.heap [] := va_S.rf
  have hl := lv_entry ([.ref h, .int p1]) (n := 2) (Nat.le_of_ble_eq_true rfl)
  rw [lg_entry_eq]
  generalize (lg_sl ([.ref h, .int p1]) ++ List.replicate (2 - (lg_sl ([.ref h, .int p1])).length) Slot.unset).toArray = ls at hl ⊢
  have hl : lv_has ls 2 [(0, .ref h), (1, .int p1)] := hl
  generalize hQ : MQ below (va_Qi (fun r u => R = (r, u)) (fun u t => va_P D vwCl (xW3 cI cZ h ad u) t.heap) A) ([.ref h, .int p1] : List Value).toArray s 0 0 A = Q9
  replace hQ := hQ.symm
  unfold f_X3_passed at hM
  refine lv_aload_n hx hb dX3_passed_0 rfl (lv_at hl 0 rfl) ?_
  obtain ⟨x1, hz2, hM⟩ := zx_b1E hM
  refine va_calli (va_runV (As := []) (rest := []) ⟨hx, hb, hml, hown, hts⟩ (c_X3_here l D cI cZ cT h ad S _ N  hz2) (cwV 0 hts (zg_V zw_8_2 zw_8_3 zw_8_4 zw_1_5 zw_8_5) rfl rfl rfl ⟨rfl, zyX3_here⟩ ⟨Nat.le_of_ble_eq_true rfl, Nat.le_of_ble_eq_true rfl⟩) ⟨bS_blind, va_recv hK hP (ci := 3) (q0 := 0) rfl rfl, bS_pre hP hK hD hN⟩ rfl rfl hl.1 rfl (lv_room (Nat.le_of_ble_eq_true rfl)) dX3_passed_1 ⟨Nat.zero_le _, Nat.zero_le _⟩) hS (fun q h1 h2 => absurd h1 (Nat.not_lt.mpr h2)) (fun q h => hA q (Nat.le_trans hS.1 h)) (fun r u t H1 lc ht hvm hw hB hz1 hk1 hS => ?_)
  replace hw : x1 = r := hw; subst hw
  replace hP := zx_keep hP hk1
  refine lv_iload_n hx hb dX3_passed_4 rfl (lv_at hl 1 rfl) ?_
  refine lv_icmp_eq (tgt := 10) hx hb dX3_passed_5 (by decide) (fun q3 => ?_) (fun q3 => ?_)
  · replace hM := zx_t q3 hM
    refine lv_aload_n hx hb dX3_passed_10 rfl (lv_at hl 0 rfl) ?_
    refine lv_dup hx hb dX3_passed_11 rfl ?_
    refine va_get (D := D) (ci := 3) (v := .int (S 12 6)) (C := RX3) (T := TX3) (N := 20) hx hb hts inlX3 hown hK hP 0 rfl rfl 18 (by decide) (hts _ zw_7_14) (fun _ h9 => h9) rfl dX3_passed_12 ?_
    refine lv_iconst (v := 1) hx hb dX3_passed_15 (by decide) ?_
    refine lv_iadd hx hb dX3_passed_16 ?_
    obtain ⟨T4, eT4, hM⟩ := zx_nE hM
    refine va_put (D := D) (ci := 3) (v := .int ((S 12 6) + 1)) (ty := .int) (C := RX3) (T := TX3) (N := 20) hx hb hts inlX3 tyX3 tyX3_ok nmX3 hown hK hP hD hS 0 rfl rfl 18 (by decide) (hts _ zw_7_14) (fun _ h9 => h9) rfl (by decide +kernel) rfl rfl (Nat.le_of_ble_eq_true rfl) dX3_passed_17 (fun H lc hP hD hS => ?_)
    replace hP : va_P D vwCl (xW3 cI cZ h ad T4) H := by rw [eT4]; exact hP
    replace hD : va_D A (xW3 cI cZ h ad T4) := by rw [eT4]; exact hD
    refine lv_iconst (v := 1) hx hb dX3_passed_20 (by decide) ?_
    rw [hQ]
    exact W.zret hx hb hr (by rfl) (fun t ht hW => ⟨⟨1, T4, rfl, (Option.some.inj hM).symm, by show va_P D vwCl _ t.heap; rw [ht]; exact hP⟩, hS.F ht⟩) hS.2.2 dX3_passed_21
  · replace hM := zx_f q3 hM
    refine lv_iconst (v := 0) hx hb dX3_passed_8 (by decide) ?_
    rw [hQ]
    exact W.zret hx hb hr (by rfl) (fun t ht hW => ⟨⟨0, S, rfl, (Option.some.inj hM).symm, by show va_P D vwCl _ t.heap; rw [ht]; exact hP⟩, hS.F ht⟩) hS.2.2 dX3_passed_9

/-! ShallowBoxesModel.number(II)I -/
def f_X3_number_l49 (N : Nat) : Nat → Int32 → Int32 → zx_S → Option (Int32 × zx_S)
  | 0, _, _, _ => none
  | n49 + 1, v2, v3, S_ => (if v3 ≤ 0 then
  some (v3, S_) else
  (zx_b1 (f_X3_here N S_) (fun x13 =>
(zx_b1 (f_X3_in N (Int32.toInt64 x13) 48 57) (fun x15 =>
(if x15 = 0 then
  some (v3, S_) else
  (zx_b1 (f_X3_here N S_) (fun x18 =>
(if v2 < (((10 * v3) + x18) - 48) then
  some (v3, S_) else
  (zx_b1 (f_X3_here N S_) (fun x21 =>
(zx_n (((10 * v3) + x21) - 48) (fun x23 =>
(zx_n (zx_st S_ 12 (upd (S_ 12) 6 ((S_ 12 6) + 1))) (fun T24 =>
f_X3_number_l49 N  n49 v2 x23 T24)))))))))))))))
def f_X3_number (N : Nat) (p1 : Int32) (p2 : Int32) (S : zx_S) : Option (Int32 × zx_S) :=
  (zx_b1 (f_X3_here N S) (fun x1 =>
(zx_n (x1 - 48) (fun x3 =>
(zx_b1 (f_X3_here N S) (fun x4 =>
(zx_b1 (f_X3_in N (Int32.toInt64 x4) 48 57) (fun x6 =>
(if x6 = 0 then
  some ((-1), S) else
  (zx_b1 (f_X3_in N (Int32.toInt64 x3) (Int32.toInt64 p1) (Int32.toInt64 p2)) (fun x9 =>
(if x9 = 0 then
  some ((-1), S) else
  (zx_n (zx_st S 12 (upd (S 12) 6 ((S 12 6) + 1))) (fun T25 =>
f_X3_number_l49 N  N p2 x3 T25))))))))))))))
abbrev rmX3_number : Room := { frames := 1, cells := 0, slots := 0, locals := 25 }
abbrev zsX3_number : List Cond := .code yX3_number cX3_number 4 (some .int) :: wsL_law
theorem zyX3_number : yX3_number.cls ≠ "java/lang/invoke/MethodHandle" ∧ yX3_number.cls ≠ "java/lang/invoke/VarHandle" ∧ (parseMethodDescriptor yX3_number.desc).map (fun d => d.parameters.length) = some 2 := by decide +kernel
set_option maxHeartbeats 4000000 in
set_option maxRecDepth 100000 in
theorem c_X3_number (l : Launch) (D : va_G) (cI cZ cT : ClassId) (h : Nat) (ad : Nat → Nat) (S : zx_S) (sz : Nat) (N : Nat) (p1 : Int32) (p2 : Int32) {R : Int32 × zx_S} (hM : f_X3_number N p1 p2 S = some R) : Met l yX3_number zsX3_number rmX3_number (va_Pc [.ref h, .int p1, .int p2] (bS D (zx_ty cI cZ cT) (xW3 cI cZ h ad S) sz)) (va_Qi (fun r u => R = (r, u)) (fun u t => va_P D vwCl (xW3 cI cZ h ad u) t.heap) (va_A (xW3 cI cZ h ad S) sz)) 0 0 (va_A (xW3 cI cZ h ad S) sz) := by
  refine Met.ofW (cc := cX3_number) (maxL := 4) (ret := (some .int)) (by decide) rfl ?_
  intro p e s m args below meth c s₁ B hml hv
  obtain ⟨rfl, hsz, hP, hK, hD0, hN⟩ := hv
  have hx := B.exec
  have hb := B.bytes
  have hr := B.returns
  have hts : ∀ w ∈ wsL_law, w.before _ s = true := fun w hw => atoms_spec (ws := zsX3_number) B.pre w (List.mem_cons_of_mem _ hw)
  have hown : s.vm.findClass RX3 = some m.cls := findClass_of_methodNamed B.named
  have hlocks := B.notSynchronized
  subst hsz
  have hD := hD0.self (sz := s.heap.size)
  generalize hAe : va_A (xW3 cI cZ h ad S) s.heap.size = A at hD ⊢
  have hA : ∀ q : Nat, s.heap.size ≤ q → A q := fun q h => by rw [← hAe]; exact Or.inr h
  have hS : va_S A s.heap s.heap [] := va_S.rf
  have hl := lv_entry ([.ref h, .int p1, .int p2]) (n := 4) (Nat.le_of_ble_eq_true rfl)
  rw [lg_entry_eq]
  generalize (lg_sl ([.ref h, .int p1, .int p2]) ++ List.replicate (4 - (lg_sl ([.ref h, .int p1, .int p2])).length) Slot.unset).toArray = ls at hl ⊢
  have hl : lv_has ls 4 [(0, .ref h), (1, .int p1), (2, .int p2)] := hl
  generalize hQ : MQ below (va_Qi (fun r u => R = (r, u)) (fun u t => va_P D vwCl (xW3 cI cZ h ad u) t.heap) A) ([.ref h, .int p1, .int p2] : List Value).toArray s 0 0 A = Q9
  replace hQ := hQ.symm
  unfold f_X3_number at hM
  refine lv_aload_n hx hb dX3_number_0 rfl (lv_at hl 0 rfl) ?_
  obtain ⟨x1, hz2, hM⟩ := zx_b1E hM
  refine va_calli (va_runV (As := []) (rest := []) ⟨hx, hb, hml, hown, hts⟩ (c_X3_here l D cI cZ cT h ad S _ N  hz2) (cwV 0 hts (zg_V zw_8_2 zw_8_3 zw_8_4 zw_1_5 zw_8_5) rfl rfl rfl ⟨rfl, zyX3_here⟩ ⟨Nat.le_of_ble_eq_true rfl, Nat.le_of_ble_eq_true rfl⟩) ⟨bS_blind, va_recv hK hP (ci := 3) (q0 := 0) rfl rfl, bS_pre hP hK hD hN⟩ rfl rfl hl.1 rfl (lv_room (Nat.le_of_ble_eq_true rfl)) dX3_number_1 ⟨Nat.zero_le _, Nat.zero_le _⟩) hS (fun q h1 h2 => absurd h1 (Nat.not_lt.mpr h2)) (fun q h => hA q (Nat.le_trans hS.1 h)) (fun r u t H1 lc ht hvm hw hB hz1 hk1 hS => ?_)
  replace hw : x1 = r := hw; subst hw
  replace hP := zx_keep hP hk1
  refine lv_bipush (v := 48) hx hb dX3_number_4 (by decide) ?_
  refine lv_isub hx hb dX3_number_6 ?_
  obtain ⟨x3, ex3, hM⟩ := zx_nE hM
  refine zx_top ex3 ?_
  refine lv_istore_n (lv' := [(3, .int x3), (0, .ref h), (1, .int p1), (2, .int p2)]) hx hb dX3_number_7 rfl hl (by decide) rfl (fun ls hl => ?_)
  refine lv_aload_n hx hb dX3_number_8 rfl (lv_at hl 1 rfl) ?_
  obtain ⟨x4, hz5, hM⟩ := zx_b1E hM
  refine va_calli (va_runV (As := []) (rest := []) ⟨hx, hb, hml, hown, hts⟩ (c_X3_here l D cI cZ cT h ad S _ N  hz5) (cwV 0 hts (zg_V zw_8_2 zw_8_3 zw_8_4 zw_1_5 zw_8_5) rfl rfl rfl ⟨rfl, zyX3_here⟩ ⟨Nat.le_of_ble_eq_true rfl, Nat.le_of_ble_eq_true rfl⟩) ⟨bS_blind, va_recv hK hP (ci := 3) (q0 := 0) rfl rfl, bS_pre hP hK hD hN⟩ rfl rfl hl.1 rfl (lv_room (Nat.le_of_ble_eq_true rfl)) dX3_number_9 ⟨Nat.zero_le _, Nat.zero_le _⟩) hS (fun q h1 h2 => absurd h1 (Nat.not_lt.mpr h2)) (fun q h => hA q (Nat.le_trans hS.1 h)) (fun r u t H1 lc ht hvm hw hB hz1 hk1 hS => ?_)
  replace hw : x4 = r := hw; subst hw
  replace hP := zx_keep hP hk1
  refine lv_i2l hx hb dX3_number_12 rfl ?_
  refine lv_ldc2 (v := 48) hx hb hown (hts _ zw_8_0) dX3_number_13 ?_
  refine lv_ldc2 (v := 57) hx hb hown (hts _ zw_8_1) dX3_number_16 ?_
  obtain ⟨x6, hz7, hM⟩ := zx_b1E hM
  refine va_calli (va_runS (As := [.long (Int32.toInt64 x4), .long 48, .long 57]) (rest := []) ⟨hx, hb, hml, hown, hts⟩ (c_X3_in l D cI cZ cT _ N (Int32.toInt64 x4) 48 57 hz7) (va_cwS 3 hts (zg_S zw_5_11 zw_5_12 zw_1_5 zw_5_13) rfl rfl rfl zyX3_in ⟨Nat.le_of_ble_eq_true rfl, Nat.le_of_ble_eq_true rfl⟩) ⟨bS_blind, bS_pre (zx_P0 hP) hK (zx_D0 hD) hN⟩ rfl rfl hl.1 rfl (lv_room (Nat.le_of_ble_eq_true rfl)) dX3_number_19 ⟨Nat.zero_le _, Nat.zero_le _⟩) hS (fun q h1 h2 => absurd h1 (Nat.not_lt.mpr h2)) (fun q h => hA q (Nat.le_trans hS.1 h)) (fun r u t H1 lc ht hvm hw hB hz1 hk1 hS => ?_)
  replace hw : x6 = r := hw; subst hw
  replace hP := zx_keep hP hk1
  refine lv_if_eq (tgt := 37) hx hb dX3_number_22 (by decide) (fun q8 => ?_) (fun q8 => ?_)
  · replace hM := zx_t q8 hM
    refine lv_iconst (v := (-1)) hx hb dX3_number_37 (by decide) ?_
    rw [hQ]
    exact W.iret hx hb hr (fun t ht hW => ⟨⟨(-1), S, rfl, (Option.some.inj hM).symm, by show va_P D vwCl _ t.heap; rw [ht]; exact hP⟩, hS.F ht⟩) hS.2.2 dX3_number_38
  · replace hM := zx_f q8 hM
    refine lv_iload_n hx hb dX3_number_25 rfl (lv_at hl 0 rfl) ?_
    refine lv_i2l hx hb dX3_number_26 rfl ?_
    refine lv_iload_n hx hb dX3_number_27 rfl (lv_at hl 2 rfl) ?_
    refine lv_i2l hx hb dX3_number_28 rfl ?_
    refine lv_iload_n hx hb dX3_number_29 rfl (lv_at hl 3 rfl) ?_
    refine lv_i2l hx hb dX3_number_30 rfl ?_
    obtain ⟨x9, hz10, hM⟩ := zx_b1E hM
    refine va_calli (va_runS (As := [.long (Int32.toInt64 x3), .long (Int32.toInt64 p1), .long (Int32.toInt64 p2)]) (rest := []) ⟨hx, hb, hml, hown, hts⟩ (c_X3_in l D cI cZ cT _ N (Int32.toInt64 x3) (Int32.toInt64 p1) (Int32.toInt64 p2) hz10) (va_cwS 3 hts (zg_S zw_5_11 zw_5_12 zw_1_5 zw_5_13) rfl rfl rfl zyX3_in ⟨Nat.le_of_ble_eq_true rfl, Nat.le_of_ble_eq_true rfl⟩) ⟨bS_blind, bS_pre (zx_P0 hP) hK (zx_D0 hD) hN⟩ rfl rfl hl.1 rfl (lv_room (Nat.le_of_ble_eq_true rfl)) dX3_number_31 ⟨Nat.zero_le _, Nat.zero_le _⟩) hS (fun q h1 h2 => absurd h1 (Nat.not_lt.mpr h2)) (fun q h => hA q (Nat.le_trans hS.1 h)) (fun r u t H1 lc ht hvm hw hB hz1 hk1 hS => ?_)
    replace hw : x9 = r := hw; subst hw
    replace hP := zx_keep hP hk1
    refine lv_if_ne (tgt := 39) hx hb dX3_number_34 (by decide) (fun q11 => ?_) (fun q11 => ?_)
    · replace hM := zx_f q11 hM
      have l49 : ∀ (n49 : Nat) (v2 : Int32) (v3 : Int32) (S_ : zx_S) (H : Heap) (lc : List Loc) (ls : Array Slot), va_P D vwCl (xW3 cI cZ h ad S_) H → va_D A (xW3 cI cZ h ad S_) → va_S A s.heap H lc → lv_has ls 4 [(0, .ref h), (2, .int v2), (3, .int v3)] → f_X3_number_l49 N n49 v2 v3 S_ = some R → W p l e (headSpec zsX3_number rmX3_number).room s m ([.ref h, .int p1, .int p2] : List Value).toArray below meth c H lc 0 0 Q9 (F0 m 49 ls []) := by
        intro n49
        induction n49 with
        | zero =>
          intro v2 v3 S_ H lc ls hP hD hS hl hM
          rw [f_X3_number_l49] at hM; exact absurd hM (by intro h; cases h)
        | succ n49 ih49 =>
          intro v2 v3 S_ H lc ls hP hD hS hl hM
          rw [f_X3_number_l49] at hM
          refine lv_iload_n hx hb dX3_number_49 rfl (lv_at hl 2 rfl) ?_
          refine lv_if_le (tgt := 112) hx hb dX3_number_50 (by decide) (fun q12 => ?_) (fun q12 => ?_)
          · replace hM := zx_t q12 hM
            refine lv_iload_n hx hb dX3_number_112 rfl (lv_at hl 2 rfl) ?_
            rw [hQ]
            exact W.iret hx hb hr (fun t ht hW => ⟨⟨v3, S_, rfl, (Option.some.inj hM).symm, by show va_P D vwCl _ t.heap; rw [ht]; exact hP⟩, hS.F ht⟩) hS.2.2 dX3_number_113
          · replace hM := zx_f q12 hM
            refine lv_aload_n hx hb dX3_number_53 rfl (lv_at hl 0 rfl) ?_
            obtain ⟨x13, hz14, hM⟩ := zx_b1E hM
            refine va_calli (va_runV (As := []) (rest := []) ⟨hx, hb, hml, hown, hts⟩ (c_X3_here l D cI cZ cT h ad S_ _ N  hz14) (cwV 0 hts (zg_V zw_8_2 zw_8_3 zw_8_4 zw_1_5 zw_8_5) rfl rfl rfl ⟨rfl, zyX3_here⟩ ⟨Nat.le_of_ble_eq_true rfl, Nat.le_of_ble_eq_true rfl⟩) ⟨bS_blind, va_recv hK hP (ci := 3) (q0 := 0) rfl rfl, bS_pre hP hK hD hN⟩ rfl rfl hl.1 rfl (lv_room (Nat.le_of_ble_eq_true rfl)) dX3_number_54 ⟨Nat.zero_le _, Nat.zero_le _⟩) hS (fun q h1 h2 => absurd h1 (Nat.not_lt.mpr h2)) (fun q h => hA q (Nat.le_trans hS.1 h)) (fun r u t H1 lc ht hvm hw hB hz1 hk1 hS => ?_)
            replace hw : x13 = r := hw; subst hw
            replace hP := zx_keep hP hk1
            refine lv_i2l hx hb dX3_number_57 rfl ?_
            refine lv_ldc2 (v := 48) hx hb hown (hts _ zw_8_0) dX3_number_58 ?_
            refine lv_ldc2 (v := 57) hx hb hown (hts _ zw_8_1) dX3_number_61 ?_
            obtain ⟨x15, hz16, hM⟩ := zx_b1E hM
            refine va_calli (va_runS (As := [.long (Int32.toInt64 x13), .long 48, .long 57]) (rest := []) ⟨hx, hb, hml, hown, hts⟩ (c_X3_in l D cI cZ cT _ N (Int32.toInt64 x13) 48 57 hz16) (va_cwS 3 hts (zg_S zw_5_11 zw_5_12 zw_1_5 zw_5_13) rfl rfl rfl zyX3_in ⟨Nat.le_of_ble_eq_true rfl, Nat.le_of_ble_eq_true rfl⟩) ⟨bS_blind, bS_pre (zx_P0 hP) hK (zx_D0 hD) hN⟩ rfl rfl hl.1 rfl (lv_room (Nat.le_of_ble_eq_true rfl)) dX3_number_64 ⟨Nat.zero_le _, Nat.zero_le _⟩) hS (fun q h1 h2 => absurd h1 (Nat.not_lt.mpr h2)) (fun q h => hA q (Nat.le_trans hS.1 h)) (fun r u t H1 lc ht hvm hw hB hz1 hk1 hS => ?_)
            replace hw : x15 = r := hw; subst hw
            replace hP := zx_keep hP hk1
            refine lv_if_eq (tgt := 112) hx hb dX3_number_67 (by decide) (fun q17 => ?_) (fun q17 => ?_)
            · replace hM := zx_t q17 hM
              refine lv_iload_n hx hb dX3_number_112 rfl (lv_at hl 2 rfl) ?_
              rw [hQ]
              exact W.iret hx hb hr (fun t ht hW => ⟨⟨v3, S_, rfl, (Option.some.inj hM).symm, by show va_P D vwCl _ t.heap; rw [ht]; exact hP⟩, hS.F ht⟩) hS.2.2 dX3_number_113
            · replace hM := zx_f q17 hM
              refine lv_bipush (v := 10) hx hb dX3_number_70 (by decide) ?_
              refine lv_iload_n hx hb dX3_number_72 rfl (lv_at hl 2 rfl) ?_
              refine lv_imul hx hb dX3_number_73 ?_
              refine lv_aload_n hx hb dX3_number_74 rfl (lv_at hl 0 rfl) ?_
              obtain ⟨x18, hz19, hM⟩ := zx_b1E hM
              refine va_calli (va_runV (As := []) (rest := [.int (10 * v3)]) ⟨hx, hb, hml, hown, hts⟩ (c_X3_here l D cI cZ cT h ad S_ _ N  hz19) (cwV 0 hts (zg_V zw_8_2 zw_8_3 zw_8_4 zw_1_5 zw_8_5) rfl rfl rfl ⟨rfl, zyX3_here⟩ ⟨Nat.le_of_ble_eq_true rfl, Nat.le_of_ble_eq_true rfl⟩) ⟨bS_blind, va_recv hK hP (ci := 3) (q0 := 0) rfl rfl, bS_pre hP hK hD hN⟩ rfl rfl hl.1 rfl (lv_room (Nat.le_of_ble_eq_true rfl)) dX3_number_75 ⟨Nat.zero_le _, Nat.zero_le _⟩) hS (fun q h1 h2 => absurd h1 (Nat.not_lt.mpr h2)) (fun q h => hA q (Nat.le_trans hS.1 h)) (fun r u t H1 lc ht hvm hw hB hz1 hk1 hS => ?_)
              replace hw : x18 = r := hw; subst hw
              replace hP := zx_keep hP hk1
              refine lv_iadd hx hb dX3_number_78 ?_
              refine lv_bipush (v := 48) hx hb dX3_number_79 (by decide) ?_
              refine lv_isub hx hb dX3_number_81 ?_
              refine lv_iload_n hx hb dX3_number_82 rfl (lv_at hl 1 rfl) ?_
              refine lv_icmp_gt (tgt := 112) hx hb dX3_number_83 (by decide) (fun q20 => ?_) (fun q20 => ?_)
              · replace hM := zx_t q20 hM
                refine lv_iload_n hx hb dX3_number_112 rfl (lv_at hl 2 rfl) ?_
                rw [hQ]
                exact W.iret hx hb hr (fun t ht hW => ⟨⟨v3, S_, rfl, (Option.some.inj hM).symm, by show va_P D vwCl _ t.heap; rw [ht]; exact hP⟩, hS.F ht⟩) hS.2.2 dX3_number_113
              · replace hM := zx_f q20 hM
                refine lv_bipush (v := 10) hx hb dX3_number_86 (by decide) ?_
                refine lv_iload_n hx hb dX3_number_88 rfl (lv_at hl 2 rfl) ?_
                refine lv_imul hx hb dX3_number_89 ?_
                refine lv_aload_n hx hb dX3_number_90 rfl (lv_at hl 0 rfl) ?_
                obtain ⟨x21, hz22, hM⟩ := zx_b1E hM
                refine va_calli (va_runV (As := []) (rest := [.int (10 * v3)]) ⟨hx, hb, hml, hown, hts⟩ (c_X3_here l D cI cZ cT h ad S_ _ N  hz22) (cwV 0 hts (zg_V zw_8_2 zw_8_3 zw_8_4 zw_1_5 zw_8_5) rfl rfl rfl ⟨rfl, zyX3_here⟩ ⟨Nat.le_of_ble_eq_true rfl, Nat.le_of_ble_eq_true rfl⟩) ⟨bS_blind, va_recv hK hP (ci := 3) (q0 := 0) rfl rfl, bS_pre hP hK hD hN⟩ rfl rfl hl.1 rfl (lv_room (Nat.le_of_ble_eq_true rfl)) dX3_number_91 ⟨Nat.zero_le _, Nat.zero_le _⟩) hS (fun q h1 h2 => absurd h1 (Nat.not_lt.mpr h2)) (fun q h => hA q (Nat.le_trans hS.1 h)) (fun r u t H1 lc ht hvm hw hB hz1 hk1 hS => ?_)
                replace hw : x21 = r := hw; subst hw
                replace hP := zx_keep hP hk1
                refine lv_iadd hx hb dX3_number_94 ?_
                refine lv_bipush (v := 48) hx hb dX3_number_95 (by decide) ?_
                refine lv_isub hx hb dX3_number_97 ?_
                obtain ⟨x23, ex23, hM⟩ := zx_nE hM
                refine zx_top ex23 ?_
                refine lv_istore_n (lv' := [(3, .int x23), (0, .ref h), (2, .int v2)]) hx hb dX3_number_98 rfl hl (by decide) rfl (fun ls hl => ?_)
                refine lv_aload_n hx hb dX3_number_99 rfl (lv_at hl 1 rfl) ?_
                refine lv_dup hx hb dX3_number_100 rfl ?_
                refine va_get (D := D) (ci := 3) (v := .int (S_ 12 6)) (C := RX3) (T := TX3) (N := 20) hx hb hts inlX3 hown hK hP 0 rfl rfl 18 (by decide) (hts _ zw_7_14) (fun _ h9 => h9) rfl dX3_number_101 ?_
                refine lv_iconst (v := 1) hx hb dX3_number_104 (by decide) ?_
                refine lv_iadd hx hb dX3_number_105 ?_
                obtain ⟨T24, eT24, hM⟩ := zx_nE hM
                refine va_put (D := D) (ci := 3) (v := .int ((S_ 12 6) + 1)) (ty := .int) (C := RX3) (T := TX3) (N := 20) hx hb hts inlX3 tyX3 tyX3_ok nmX3 hown hK hP hD hS 0 rfl rfl 18 (by decide) (hts _ zw_7_14) (fun _ h9 => h9) rfl (by decide +kernel) rfl rfl (Nat.le_of_ble_eq_true rfl) dX3_number_106 (fun H lc hP hD hS => ?_)
                replace hP : va_P D vwCl (xW3 cI cZ h ad T24) H := by rw [eT24]; exact hP
                replace hD : va_D A (xW3 cI cZ h ad T24) := by rw [eT24]; exact hD
                refine lv_goto (tgt := 49) hx hb dX3_number_109 (by decide) ?_
                exact ih49 v2 x23 T24 _ _ _ hP hD hS (lv_sub hl [1, 2, 0] rfl) hM
      refine lv_aload_n hx hb dX3_number_39 rfl (lv_at hl 1 rfl) ?_
      refine lv_dup hx hb dX3_number_40 rfl ?_
      refine va_get (D := D) (ci := 3) (v := .int (S 12 6)) (C := RX3) (T := TX3) (N := 20) hx hb hts inlX3 hown hK hP 0 rfl rfl 18 (by decide) (hts _ zw_7_14) (fun _ h9 => h9) rfl dX3_number_41 ?_
      refine lv_iconst (v := 1) hx hb dX3_number_44 (by decide) ?_
      refine lv_iadd hx hb dX3_number_45 ?_
      obtain ⟨T25, eT25, hM⟩ := zx_nE hM
      refine va_put (D := D) (ci := 3) (v := .int ((S 12 6) + 1)) (ty := .int) (C := RX3) (T := TX3) (N := 20) hx hb hts inlX3 tyX3 tyX3_ok nmX3 hown hK hP hD hS 0 rfl rfl 18 (by decide) (hts _ zw_7_14) (fun _ h9 => h9) rfl (by decide +kernel) rfl rfl (Nat.le_of_ble_eq_true rfl) dX3_number_46 (fun H lc hP hD hS => ?_)
      replace hP : va_P D vwCl (xW3 cI cZ h ad T25) H := by rw [eT25]; exact hP
      replace hD : va_D A (xW3 cI cZ h ad T25) := by rw [eT25]; exact hD
      exact l49 N p2 x3 T25 _ _ _ hP hD hS (lv_sub hl [1, 3, 0] rfl) hM
    · replace hM := zx_t q11 hM
      refine lv_iconst (v := (-1)) hx hb dX3_number_37 (by decide) ?_
      rw [hQ]
      exact W.iret hx hb hr (fun t ht hW => ⟨⟨(-1), S, rfl, (Option.some.inj hM).symm, by show va_P D vwCl _ t.heap; rw [ht]; exact hP⟩, hS.F ht⟩) hS.2.2 dX3_number_38

/-! ShallowBoxesModel.readOne([IZ)Z -/
def f_X3_readOne (N : Nat) (w : Nat) (p2 : Int32) (S : zx_S) : Option (Int32 × zx_S) :=
  (zx_b2 (f_X3_number N 0 99 S) (fun x1 T2 =>
(if x1 = (-1) then
  some (0, T2) else
  (zx_b2 (f_X3_passed N 44 T2) (fun x5 T6 =>
(if x5 = 0 then
  some (0, T6) else
  (zx_b2 (f_X3_number N 0 99 T6) (fun x9 T10 =>
(if x9 = (-1) then
  some (0, T10) else
  (zx_b2 (f_X3_passed N 58 T10) (fun x13 T14 =>
(if x13 = 0 then
  some (0, T14) else
  (zx_b2 (f_X3_number N 1 (100 - x1) T14) (fun x17 T18 =>
(if x17 = (-1) then
  some (0, T18) else
  (zx_b2 (f_X3_passed N 120 T18) (fun x21 T22 =>
(if x21 = 0 then
  some (0, T22) else
  (zx_b2 (f_X3_number N 1 (100 - x9) T22) (fun x25 T26 =>
(if x25 = (-1) then
  some (0, T26) else
  (zx_n (zx_st T26 12 (upd (T26 12) 7 ((T26 12 7) + 1))) (fun T29 =>
(if p2 = 0 then
  some (1, T29) else
  (zx_b2 (f_X3_addOn N w x1 x9 ((x1 + x17) - 1) ((x9 + x25) - 1) T29) (fun x31 T32 =>
some (1, T32)))))))))))))))))))))))))))
abbrev rmX3_readOne : Room := { frames := 8, cells := 0, slots := 0, locals := 195 }
abbrev zsX3_readOne : List Cond := .code yX3_readOne cX3_readOne 7 (some .boolean) :: wsL_law
theorem zyX3_readOne : yX3_readOne.cls ≠ "java/lang/invoke/MethodHandle" ∧ yX3_readOne.cls ≠ "java/lang/invoke/VarHandle" ∧ (parseMethodDescriptor yX3_readOne.desc).map (fun d => d.parameters.length) = some 2 := by decide +kernel
set_option maxHeartbeats 4000000 in
set_option maxRecDepth 100000 in
theorem c_X3_readOne (l : Launch) (D : va_G) (cI cZ cT : ClassId) (h : Nat) (ad : Nat → Nat) (S : zx_S) (sz : Nat) (N : Nat) (w : Nat) (hrw : w = 1 ∨ w = 2) (p2 : Int32) {R : Int32 × zx_S} (hM : f_X3_readOne N w p2 S = some R) : Met l yX3_readOne zsX3_readOne rmX3_readOne (va_Pc [.ref h, .ref (ad w), .int p2] (bS D (zx_ty cI cZ cT) (xW3 cI cZ h ad S) sz)) (va_Qi (fun r u => R = (r, u)) (fun u t => va_P D vwCl (xW3 cI cZ h ad u) t.heap) (va_A (xW3 cI cZ h ad S) sz)) 0 0 (va_A (xW3 cI cZ h ad S) sz) := by
  refine Met.ofW (cc := cX3_readOne) (maxL := 7) (ret := (some .boolean)) (by decide) rfl ?_
  intro p e s m args below meth c s₁ B hml hv
  obtain ⟨rfl, hsz, hP, hK, hD0, hN⟩ := hv
  have hx := B.exec
  have hb := B.bytes
  have hr := B.returns
  have hts : ∀ w ∈ wsL_law, w.before _ s = true := fun w hw => atoms_spec (ws := zsX3_readOne) B.pre w (List.mem_cons_of_mem _ hw)
  have hown : s.vm.findClass RX3 = some m.cls := findClass_of_methodNamed B.named
  have hlocks := B.notSynchronized
  subst hsz
  have hD := hD0.self (sz := s.heap.size)
  generalize hAe : va_A (xW3 cI cZ h ad S) s.heap.size = A at hD ⊢
  have hA : ∀ q : Nat, s.heap.size ≤ q → A q := fun q h => by rw [← hAe]; exact Or.inr h
  have hS : va_S A s.heap s.heap [] := va_S.rf
  have hl := lv_entry ([.ref h, .ref (ad w), .int p2]) (n := 7) (Nat.le_of_ble_eq_true rfl)
  rw [lg_entry_eq]
  generalize (lg_sl ([.ref h, .ref (ad w), .int p2]) ++ List.replicate (7 - (lg_sl ([.ref h, .ref (ad w), .int p2])).length) Slot.unset).toArray = ls at hl ⊢
  have hl : lv_has ls 7 [(0, .ref h), (1, .ref (ad w)), (2, .int p2)] := hl
  generalize hQ : MQ below (va_Qi (fun r u => R = (r, u)) (fun u t => va_P D vwCl (xW3 cI cZ h ad u) t.heap) A) ([.ref h, .ref (ad w), .int p2] : List Value).toArray s 0 0 A = Q9
  replace hQ := hQ.symm
  unfold f_X3_readOne at hM
  refine lv_aload_n hx hb dX3_readOne_0 rfl (lv_at hl 0 rfl) ?_
  refine lv_iconst (v := 0) hx hb dX3_readOne_1 (by decide) ?_
  refine lv_bipush (v := 99) hx hb dX3_readOne_2 (by decide) ?_
  obtain ⟨x1, T2, hz3, hM⟩ := zx_b2E hM
  refine va_calli (va_runV (As := [.int 0, .int 99]) (rest := []) ⟨hx, hb, hml, hown, hts⟩ (c_X3_number l D cI cZ cT h ad S _ N 0 99  hz3) (cwV 2 hts (zg_V zw_7_20 zw_7_21 zw_7_22 zw_1_5 zw_7_23) rfl rfl rfl ⟨rfl, zyX3_number⟩ ⟨Nat.le_of_ble_eq_true rfl, Nat.le_of_ble_eq_true rfl⟩) ⟨bS_blind, va_recv hK hP (ci := 3) (q0 := 0) rfl rfl, bS_pre hP hK hD hN⟩ rfl rfl hl.1 rfl (lv_room (Nat.le_of_ble_eq_true rfl)) dX3_readOne_4 ⟨Nat.zero_le _, Nat.zero_le _⟩) hS (fun q _ h => zx_fW hD hS hA q h) (fun q h => zx_fW hD hS hA q h) (fun r u t H1 lc ht hvm hw hB hz1 hk1 hS => ?_)
  obtain ⟨hw1, hw2⟩ := Prod.mk.inj hw; subst hw1; subst hw2
  rw [ht] at hB
  replace hP := hB
  replace hD := xW3_D T2 hD
  refine lv_istore_n (lv' := [(3, .int x1), (0, .ref h), (1, .ref (ad w)), (2, .int p2)]) hx hb dX3_readOne_7 rfl hl (by decide) rfl (fun ls hl => ?_)
  refine lv_iload_n hx hb dX3_readOne_8 rfl (lv_at hl 0 rfl) ?_
  refine lv_iconst (v := (-1)) hx hb dX3_readOne_9 (by decide) ?_
  refine lv_icmp_eq (tgt := 22) hx hb dX3_readOne_10 (by decide) (fun q4 => ?_) (fun q4 => ?_)
  · replace hM := zx_t q4 hM
    refine lv_iconst (v := 0) hx hb dX3_readOne_22 (by decide) ?_
    rw [hQ]
    exact W.zret hx hb hr (by rfl) (fun t ht hW => ⟨⟨0, T2, rfl, (Option.some.inj hM).symm, by show va_P D vwCl _ t.heap; rw [ht]; exact hP⟩, hS.F ht⟩) hS.2.2 dX3_readOne_23
  · replace hM := zx_f q4 hM
    refine lv_aload_n hx hb dX3_readOne_13 rfl (lv_at hl 1 rfl) ?_
    refine lv_bipush (v := 44) hx hb dX3_readOne_14 (by decide) ?_
    obtain ⟨x5, T6, hz7, hM⟩ := zx_b2E hM
    refine va_calli (va_runV (As := [.int 44]) (rest := []) ⟨hx, hb, hml, hown, hts⟩ (c_X3_passed l D cI cZ cT h ad T2 _ N 44  hz7) (cwV 1 hts (zg_V zw_8_6 zw_8_7 zw_8_8 zw_1_5 zw_8_9) rfl rfl rfl ⟨rfl, zyX3_passed⟩ ⟨Nat.le_of_ble_eq_true rfl, Nat.le_of_ble_eq_true rfl⟩) ⟨bS_blind, va_recv hK hP (ci := 3) (q0 := 0) rfl rfl, bS_pre hP hK hD hN⟩ rfl rfl hl.1 rfl (lv_room (Nat.le_of_ble_eq_true rfl)) dX3_readOne_16 ⟨Nat.zero_le _, Nat.zero_le _⟩) hS (fun q _ h => zx_fW hD hS hA q h) (fun q h => zx_fW hD hS hA q h) (fun r u t H1 lc ht hvm hw hB hz1 hk1 hS => ?_)
    obtain ⟨hw1, hw2⟩ := Prod.mk.inj hw; subst hw1; subst hw2
    rw [ht] at hB
    replace hP := hB
    replace hD := xW3_D T6 hD
    refine lv_if_ne (tgt := 24) hx hb dX3_readOne_19 (by decide) (fun q8 => ?_) (fun q8 => ?_)
    · replace hM := zx_f q8 hM
      refine lv_aload_n hx hb dX3_readOne_24 rfl (lv_at hl 1 rfl) ?_
      refine lv_iconst (v := 0) hx hb dX3_readOne_25 (by decide) ?_
      refine lv_bipush (v := 99) hx hb dX3_readOne_26 (by decide) ?_
      obtain ⟨x9, T10, hz11, hM⟩ := zx_b2E hM
      refine va_calli (va_runV (As := [.int 0, .int 99]) (rest := []) ⟨hx, hb, hml, hown, hts⟩ (c_X3_number l D cI cZ cT h ad T6 _ N 0 99  hz11) (cwV 2 hts (zg_V zw_7_20 zw_7_21 zw_7_22 zw_1_5 zw_7_23) rfl rfl rfl ⟨rfl, zyX3_number⟩ ⟨Nat.le_of_ble_eq_true rfl, Nat.le_of_ble_eq_true rfl⟩) ⟨bS_blind, va_recv hK hP (ci := 3) (q0 := 0) rfl rfl, bS_pre hP hK hD hN⟩ rfl rfl hl.1 rfl (lv_room (Nat.le_of_ble_eq_true rfl)) dX3_readOne_28 ⟨Nat.zero_le _, Nat.zero_le _⟩) hS (fun q _ h => zx_fW hD hS hA q h) (fun q h => zx_fW hD hS hA q h) (fun r u t H1 lc ht hvm hw hB hz1 hk1 hS => ?_)
      obtain ⟨hw1, hw2⟩ := Prod.mk.inj hw; subst hw1; subst hw2
      rw [ht] at hB
      replace hP := hB
      replace hD := xW3_D T10 hD
      refine lv_istore (lv' := [(4, .int x9), (3, .int x1), (0, .ref h), (1, .ref (ad w)), (2, .int p2)]) hx hb dX3_readOne_31 hl (by decide) rfl (fun ls hl => ?_)
      refine lv_iload hx hb dX3_readOne_33 (lv_at hl 0 rfl) ?_
      refine lv_iconst (v := (-1)) hx hb dX3_readOne_35 (by decide) ?_
      refine lv_icmp_eq (tgt := 48) hx hb dX3_readOne_36 (by decide) (fun q12 => ?_) (fun q12 => ?_)
      · replace hM := zx_t q12 hM
        refine lv_iconst (v := 0) hx hb dX3_readOne_48 (by decide) ?_
        rw [hQ]
        exact W.zret hx hb hr (by rfl) (fun t ht hW => ⟨⟨0, T10, rfl, (Option.some.inj hM).symm, by show va_P D vwCl _ t.heap; rw [ht]; exact hP⟩, hS.F ht⟩) hS.2.2 dX3_readOne_49
      · replace hM := zx_f q12 hM
        refine lv_aload_n hx hb dX3_readOne_39 rfl (lv_at hl 2 rfl) ?_
        refine lv_bipush (v := 58) hx hb dX3_readOne_40 (by decide) ?_
        obtain ⟨x13, T14, hz15, hM⟩ := zx_b2E hM
        refine va_calli (va_runV (As := [.int 58]) (rest := []) ⟨hx, hb, hml, hown, hts⟩ (c_X3_passed l D cI cZ cT h ad T10 _ N 58  hz15) (cwV 1 hts (zg_V zw_8_6 zw_8_7 zw_8_8 zw_1_5 zw_8_9) rfl rfl rfl ⟨rfl, zyX3_passed⟩ ⟨Nat.le_of_ble_eq_true rfl, Nat.le_of_ble_eq_true rfl⟩) ⟨bS_blind, va_recv hK hP (ci := 3) (q0 := 0) rfl rfl, bS_pre hP hK hD hN⟩ rfl rfl hl.1 rfl (lv_room (Nat.le_of_ble_eq_true rfl)) dX3_readOne_42 ⟨Nat.zero_le _, Nat.zero_le _⟩) hS (fun q _ h => zx_fW hD hS hA q h) (fun q h => zx_fW hD hS hA q h) (fun r u t H1 lc ht hvm hw hB hz1 hk1 hS => ?_)
        obtain ⟨hw1, hw2⟩ := Prod.mk.inj hw; subst hw1; subst hw2
        rw [ht] at hB
        replace hP := hB
        replace hD := xW3_D T14 hD
        refine lv_if_ne (tgt := 50) hx hb dX3_readOne_45 (by decide) (fun q16 => ?_) (fun q16 => ?_)
        · replace hM := zx_f q16 hM
          refine lv_aload_n hx hb dX3_readOne_50 rfl (lv_at hl 2 rfl) ?_
          refine lv_iconst (v := 1) hx hb dX3_readOne_51 (by decide) ?_
          refine lv_bipush (v := 100) hx hb dX3_readOne_52 (by decide) ?_
          refine lv_iload_n hx hb dX3_readOne_54 rfl (lv_at hl 1 rfl) ?_
          refine lv_isub hx hb dX3_readOne_55 ?_
          obtain ⟨x17, T18, hz19, hM⟩ := zx_b2E hM
          refine va_calli (va_runV (As := [.int 1, .int (100 - x1)]) (rest := []) ⟨hx, hb, hml, hown, hts⟩ (c_X3_number l D cI cZ cT h ad T14 _ N 1 (100 - x1)  hz19) (cwV 2 hts (zg_V zw_7_20 zw_7_21 zw_7_22 zw_1_5 zw_7_23) rfl rfl rfl ⟨rfl, zyX3_number⟩ ⟨Nat.le_of_ble_eq_true rfl, Nat.le_of_ble_eq_true rfl⟩) ⟨bS_blind, va_recv hK hP (ci := 3) (q0 := 0) rfl rfl, bS_pre hP hK hD hN⟩ rfl rfl hl.1 rfl (lv_room (Nat.le_of_ble_eq_true rfl)) dX3_readOne_56 ⟨Nat.zero_le _, Nat.zero_le _⟩) hS (fun q _ h => zx_fW hD hS hA q h) (fun q h => zx_fW hD hS hA q h) (fun r u t H1 lc ht hvm hw hB hz1 hk1 hS => ?_)
          obtain ⟨hw1, hw2⟩ := Prod.mk.inj hw; subst hw1; subst hw2
          rw [ht] at hB
          replace hP := hB
          replace hD := xW3_D T18 hD
          refine lv_istore (lv' := [(5, .int x17), (4, .int x9), (3, .int x1), (0, .ref h), (1, .ref (ad w)), (2, .int p2)]) hx hb dX3_readOne_59 hl (by decide) rfl (fun ls hl => ?_)
          refine lv_iload hx hb dX3_readOne_61 (lv_at hl 0 rfl) ?_
          refine lv_iconst (v := (-1)) hx hb dX3_readOne_63 (by decide) ?_
          refine lv_icmp_eq (tgt := 76) hx hb dX3_readOne_64 (by decide) (fun q20 => ?_) (fun q20 => ?_)
          · replace hM := zx_t q20 hM
            refine lv_iconst (v := 0) hx hb dX3_readOne_76 (by decide) ?_
            rw [hQ]
            exact W.zret hx hb hr (by rfl) (fun t ht hW => ⟨⟨0, T18, rfl, (Option.some.inj hM).symm, by show va_P D vwCl _ t.heap; rw [ht]; exact hP⟩, hS.F ht⟩) hS.2.2 dX3_readOne_77
          · replace hM := zx_f q20 hM
            refine lv_aload_n hx hb dX3_readOne_67 rfl (lv_at hl 3 rfl) ?_
            refine lv_bipush (v := 120) hx hb dX3_readOne_68 (by decide) ?_
            obtain ⟨x21, T22, hz23, hM⟩ := zx_b2E hM
            refine va_calli (va_runV (As := [.int 120]) (rest := []) ⟨hx, hb, hml, hown, hts⟩ (c_X3_passed l D cI cZ cT h ad T18 _ N 120  hz23) (cwV 1 hts (zg_V zw_8_6 zw_8_7 zw_8_8 zw_1_5 zw_8_9) rfl rfl rfl ⟨rfl, zyX3_passed⟩ ⟨Nat.le_of_ble_eq_true rfl, Nat.le_of_ble_eq_true rfl⟩) ⟨bS_blind, va_recv hK hP (ci := 3) (q0 := 0) rfl rfl, bS_pre hP hK hD hN⟩ rfl rfl hl.1 rfl (lv_room (Nat.le_of_ble_eq_true rfl)) dX3_readOne_70 ⟨Nat.zero_le _, Nat.zero_le _⟩) hS (fun q _ h => zx_fW hD hS hA q h) (fun q h => zx_fW hD hS hA q h) (fun r u t H1 lc ht hvm hw hB hz1 hk1 hS => ?_)
            obtain ⟨hw1, hw2⟩ := Prod.mk.inj hw; subst hw1; subst hw2
            rw [ht] at hB
            replace hP := hB
            replace hD := xW3_D T22 hD
            refine lv_if_ne (tgt := 78) hx hb dX3_readOne_73 (by decide) (fun q24 => ?_) (fun q24 => ?_)
            · replace hM := zx_f q24 hM
              refine lv_aload_n hx hb dX3_readOne_78 rfl (lv_at hl 3 rfl) ?_
              refine lv_iconst (v := 1) hx hb dX3_readOne_79 (by decide) ?_
              refine lv_bipush (v := 100) hx hb dX3_readOne_80 (by decide) ?_
              refine lv_iload hx hb dX3_readOne_82 (lv_at hl 1 rfl) ?_
              refine lv_isub hx hb dX3_readOne_84 ?_
              obtain ⟨x25, T26, hz27, hM⟩ := zx_b2E hM
              refine va_calli (va_runV (As := [.int 1, .int (100 - x9)]) (rest := []) ⟨hx, hb, hml, hown, hts⟩ (c_X3_number l D cI cZ cT h ad T22 _ N 1 (100 - x9)  hz27) (cwV 2 hts (zg_V zw_7_20 zw_7_21 zw_7_22 zw_1_5 zw_7_23) rfl rfl rfl ⟨rfl, zyX3_number⟩ ⟨Nat.le_of_ble_eq_true rfl, Nat.le_of_ble_eq_true rfl⟩) ⟨bS_blind, va_recv hK hP (ci := 3) (q0 := 0) rfl rfl, bS_pre hP hK hD hN⟩ rfl rfl hl.1 rfl (lv_room (Nat.le_of_ble_eq_true rfl)) dX3_readOne_85 ⟨Nat.zero_le _, Nat.zero_le _⟩) hS (fun q _ h => zx_fW hD hS hA q h) (fun q h => zx_fW hD hS hA q h) (fun r u t H1 lc ht hvm hw hB hz1 hk1 hS => ?_)
              obtain ⟨hw1, hw2⟩ := Prod.mk.inj hw; subst hw1; subst hw2
              rw [ht] at hB
              replace hP := hB
              replace hD := xW3_D T26 hD
              refine lv_istore (lv' := [(6, .int x25), (5, .int x17), (4, .int x9), (3, .int x1), (0, .ref h), (1, .ref (ad w)), (2, .int p2)]) hx hb dX3_readOne_88 hl (by decide) rfl (fun ls hl => ?_)
              refine lv_iload hx hb dX3_readOne_90 (lv_at hl 0 rfl) ?_
              refine lv_iconst (v := (-1)) hx hb dX3_readOne_92 (by decide) ?_
              refine lv_icmp_ne (tgt := 98) hx hb dX3_readOne_93 (by decide) (fun q28 => ?_) (fun q28 => ?_)
              · replace hM := zx_f q28 hM
                refine lv_aload_n hx hb dX3_readOne_98 rfl (lv_at hl 4 rfl) ?_
                refine lv_dup hx hb dX3_readOne_99 rfl ?_
                refine va_get (D := D) (ci := 3) (v := .int (T26 12 7)) (C := RX3) (T := TX3) (N := 20) hx hb hts inlX3 hown hK hP 0 rfl rfl 19 (by decide) (hts _ zw_7_15) (fun _ h9 => h9) rfl dX3_readOne_100 ?_
                refine lv_iconst (v := 1) hx hb dX3_readOne_103 (by decide) ?_
                refine lv_iadd hx hb dX3_readOne_104 ?_
                obtain ⟨T29, eT29, hM⟩ := zx_nE hM
                refine va_put (D := D) (ci := 3) (v := .int ((T26 12 7) + 1)) (ty := .int) (C := RX3) (T := TX3) (N := 20) hx hb hts inlX3 tyX3 tyX3_ok nmX3 hown hK hP hD hS 0 rfl rfl 19 (by decide) (hts _ zw_7_15) (fun _ h9 => h9) rfl (by decide +kernel) rfl rfl (Nat.le_of_ble_eq_true rfl) dX3_readOne_105 (fun H lc hP hD hS => ?_)
                replace hP : va_P D vwCl (xW3 cI cZ h ad T29) H := by rw [eT29]; exact hP
                replace hD : va_D A (xW3 cI cZ h ad T29) := by rw [eT29]; exact hD
                refine lv_iload_n hx hb dX3_readOne_108 rfl (lv_at hl 6 rfl) ?_
                refine lv_if_eq (tgt := 134) hx hb dX3_readOne_109 (by decide) (fun q30 => ?_) (fun q30 => ?_)
                · replace hM := zx_t q30 hM
                  refine lv_iconst (v := 1) hx hb dX3_readOne_134 (by decide) ?_
                  rw [hQ]
                  exact W.zret hx hb hr (by rfl) (fun t ht hW => ⟨⟨1, T29, rfl, (Option.some.inj hM).symm, by show va_P D vwCl _ t.heap; rw [ht]; exact hP⟩, hS.F ht⟩) hS.2.2 dX3_readOne_135
                · replace hM := zx_f q30 hM
                  refine lv_aload_n hx hb dX3_readOne_112 rfl (lv_at hl 4 rfl) ?_
                  refine lv_aload_n hx hb dX3_readOne_113 rfl (lv_at hl 5 rfl) ?_
                  refine lv_iload_n hx hb dX3_readOne_114 rfl (lv_at hl 3 rfl) ?_
                  refine lv_iload hx hb dX3_readOne_115 (lv_at hl 2 rfl) ?_
                  refine lv_iload_n hx hb dX3_readOne_117 rfl (lv_at hl 3 rfl) ?_
                  refine lv_iload hx hb dX3_readOne_118 (lv_at hl 1 rfl) ?_
                  refine lv_iadd hx hb dX3_readOne_120 ?_
                  refine lv_iconst (v := 1) hx hb dX3_readOne_121 (by decide) ?_
                  refine lv_isub hx hb dX3_readOne_122 ?_
                  refine lv_iload hx hb dX3_readOne_123 (lv_at hl 2 rfl) ?_
                  refine lv_iload hx hb dX3_readOne_125 (lv_at hl 0 rfl) ?_
                  refine lv_iadd hx hb dX3_readOne_127 ?_
                  refine lv_iconst (v := 1) hx hb dX3_readOne_128 (by decide) ?_
                  refine lv_isub hx hb dX3_readOne_129 ?_
                  obtain ⟨x31, T32, hz33, hM⟩ := zx_b2E hM
                  refine va_calli (va_runV (As := [.ref (ad w), .int x1, .int x9, .int ((x1 + x17) - 1), .int ((x9 + x25) - 1)]) (rest := []) ⟨hx, hb, hml, hown, hts⟩ (c_X3_addOn l D cI cZ cT h ad T29 _ N w hrw x1 x9 ((x1 + x17) - 1) ((x9 + x25) - 1)  hz33) (cwV 5 hts (zg_V zw_8_10 zw_8_11 zw_8_12 zw_1_5 zw_8_13) rfl rfl rfl ⟨rfl, zyX3_addOn⟩ ⟨Nat.le_of_ble_eq_true rfl, Nat.le_of_ble_eq_true rfl⟩) ⟨bS_blind, va_recv hK hP (ci := 3) (q0 := 0) rfl rfl, bS_pre hP hK hD hN⟩ rfl rfl hl.1 rfl (lv_room (Nat.le_of_ble_eq_true rfl)) dX3_readOne_130 ⟨Nat.zero_le _, Nat.zero_le _⟩) hS (fun q _ h => zx_fW hD hS hA q h) (fun q h => zx_fW hD hS hA q h) (fun r u t H1 lc ht hvm hw hB hz1 hk1 hS => ?_)
                  obtain ⟨hw1, hw2⟩ := Prod.mk.inj hw; subst hw1; subst hw2
                  rw [ht] at hB
                  replace hP := hB
                  replace hD := xW3_D T32 hD
                  refine lv_pop hx hb dX3_readOne_133 rfl ?_
                  refine lv_iconst (v := 1) hx hb dX3_readOne_134 (by decide) ?_
                  rw [hQ]
                  exact W.zret hx hb hr (by rfl) (fun t ht hW => ⟨⟨1, T32, rfl, (Option.some.inj hM).symm, by show va_P D vwCl _ t.heap; rw [ht]; exact hP⟩, hS.F ht⟩) hS.2.2 dX3_readOne_135
              · replace hM := zx_t q28 hM
                refine lv_iconst (v := 0) hx hb dX3_readOne_96 (by decide) ?_
                rw [hQ]
                exact W.zret hx hb hr (by rfl) (fun t ht hW => ⟨⟨0, T26, rfl, (Option.some.inj hM).symm, by show va_P D vwCl _ t.heap; rw [ht]; exact hP⟩, hS.F ht⟩) hS.2.2 dX3_readOne_97
            · replace hM := zx_t q24 hM
              refine lv_iconst (v := 0) hx hb dX3_readOne_76 (by decide) ?_
              rw [hQ]
              exact W.zret hx hb hr (by rfl) (fun t ht hW => ⟨⟨0, T22, rfl, (Option.some.inj hM).symm, by show va_P D vwCl _ t.heap; rw [ht]; exact hP⟩, hS.F ht⟩) hS.2.2 dX3_readOne_77
        · replace hM := zx_t q16 hM
          refine lv_iconst (v := 0) hx hb dX3_readOne_48 (by decide) ?_
          rw [hQ]
          exact W.zret hx hb hr (by rfl) (fun t ht hW => ⟨⟨0, T14, rfl, (Option.some.inj hM).symm, by show va_P D vwCl _ t.heap; rw [ht]; exact hP⟩, hS.F ht⟩) hS.2.2 dX3_readOne_49
    · replace hM := zx_t q8 hM
      refine lv_iconst (v := 0) hx hb dX3_readOne_22 (by decide) ?_
      rw [hQ]
      exact W.zret hx hb hr (by rfl) (fun t ht hW => ⟨⟨0, T6, rfl, (Option.some.inj hM).symm, by show va_P D vwCl _ t.heap; rw [ht]; exact hP⟩, hS.F ht⟩) hS.2.2 dX3_readOne_23

/-! ShallowBoxesModel.readText([IZ)I -/
def f_X3_readText_l12 (N : Nat) (w : Nat) : Nat → Int32 → Int32 → zx_S → Option (Int32 × zx_S)
  | 0, _, _, _ => none
  | n12 + 1, v2, v3, S_ => (if v3 = 0 then
  (if (S_ 12 1) ≤ (S_ 12 6) then
  some ((-1), S_) else
  some ((S_ 12 6), S_)) else
  (zx_b2 (f_X3_readOne N w v2 S_) (fun x3 T4 =>
(if x3 = 0 then
  some ((T4 12 6), T4) else
  (zx_b2 (f_X3_passed N 59 T4) (fun x7 T8 =>
f_X3_readText_l12 N w  n12 v2 x7 T8))))))
def f_X3_readText (N : Nat) (w : Nat) (p2 : Int32) (S : zx_S) : Option (Int32 × zx_S) :=
  (zx_n (zx_st S 12 (upd (S 12) 6 0)) (fun T10 =>
(zx_n (zx_st T10 12 (upd (T10 12) 7 0)) (fun T11 =>
f_X3_readText_l12 N w  N p2 1 T11))))
abbrev rmX3_readText : Room := { frames := 9, cells := 0, slots := 0, locals := 221 }
abbrev zsX3_readText : List Cond := .code yX3_readText cX3_readText 4 (some .int) :: wsL_law
theorem zyX3_readText : yX3_readText.cls ≠ "java/lang/invoke/MethodHandle" ∧ yX3_readText.cls ≠ "java/lang/invoke/VarHandle" ∧ (parseMethodDescriptor yX3_readText.desc).map (fun d => d.parameters.length) = some 2 := by decide +kernel
set_option maxHeartbeats 4000000 in
set_option maxRecDepth 100000 in
theorem c_X3_readText (l : Launch) (D : va_G) (cI cZ cT : ClassId) (h : Nat) (ad : Nat → Nat) (S : zx_S) (sz : Nat) (N : Nat) (w : Nat) (hrw : w = 1 ∨ w = 2) (p2 : Int32) {R : Int32 × zx_S} (hM : f_X3_readText N w p2 S = some R) : Met l yX3_readText zsX3_readText rmX3_readText (va_Pc [.ref h, .ref (ad w), .int p2] (bS D (zx_ty cI cZ cT) (xW3 cI cZ h ad S) sz)) (va_Qi (fun r u => R = (r, u)) (fun u t => va_P D vwCl (xW3 cI cZ h ad u) t.heap) (va_A (xW3 cI cZ h ad S) sz)) 0 0 (va_A (xW3 cI cZ h ad S) sz) := by
  refine Met.ofW (cc := cX3_readText) (maxL := 4) (ret := (some .int)) (by decide) rfl ?_
  intro p e s m args below meth c s₁ B hml hv
  obtain ⟨rfl, hsz, hP, hK, hD0, hN⟩ := hv
  have hx := B.exec
  have hb := B.bytes
  have hr := B.returns
  have hts : ∀ w ∈ wsL_law, w.before _ s = true := fun w hw => atoms_spec (ws := zsX3_readText) B.pre w (List.mem_cons_of_mem _ hw)
  have hown : s.vm.findClass RX3 = some m.cls := findClass_of_methodNamed B.named
  have hlocks := B.notSynchronized
  subst hsz
  have hD := hD0.self (sz := s.heap.size)
  generalize hAe : va_A (xW3 cI cZ h ad S) s.heap.size = A at hD ⊢
  have hA : ∀ q : Nat, s.heap.size ≤ q → A q := fun q h => by rw [← hAe]; exact Or.inr h
  have hS : va_S A s.heap s.heap [] := va_S.rf
  have hl := lv_entry ([.ref h, .ref (ad w), .int p2]) (n := 4) (Nat.le_of_ble_eq_true rfl)
  rw [lg_entry_eq]
  generalize (lg_sl ([.ref h, .ref (ad w), .int p2]) ++ List.replicate (4 - (lg_sl ([.ref h, .ref (ad w), .int p2])).length) Slot.unset).toArray = ls at hl ⊢
  have hl : lv_has ls 4 [(0, .ref h), (1, .ref (ad w)), (2, .int p2)] := hl
  generalize hQ : MQ below (va_Qi (fun r u => R = (r, u)) (fun u t => va_P D vwCl (xW3 cI cZ h ad u) t.heap) A) ([.ref h, .ref (ad w), .int p2] : List Value).toArray s 0 0 A = Q9
  replace hQ := hQ.symm
  unfold f_X3_readText at hM
  have l12 : ∀ (n12 : Nat) (v2 : Int32) (v3 : Int32) (S_ : zx_S) (H : Heap) (lc : List Loc) (ls : Array Slot), va_P D vwCl (xW3 cI cZ h ad S_) H → va_D A (xW3 cI cZ h ad S_) → va_S A s.heap H lc → lv_has ls 4 [(0, .ref h), (1, .ref (ad w)), (2, .int v2), (3, .int v3)] → f_X3_readText_l12 N w n12 v2 v3 S_ = some R → W p l e (headSpec zsX3_readText rmX3_readText).room s m ([.ref h, .ref (ad w), .int p2] : List Value).toArray below meth c H lc 0 0 Q9 (F0 m 12 ls []) := by
    intro n12
    induction n12 with
    | zero =>
      intro v2 v3 S_ H lc ls hP hD hS hl hM
      rw [f_X3_readText_l12] at hM; exact absurd hM (by intro h; cases h)
    | succ n12 ih12 =>
      intro v2 v3 S_ H lc ls hP hD hS hl hM
      rw [f_X3_readText_l12] at hM
      refine lv_iload_n hx hb dX3_readText_12 rfl (lv_at hl 3 rfl) ?_
      refine lv_if_eq (tgt := 40) hx hb dX3_readText_13 (by decide) (fun q1 => ?_) (fun q1 => ?_)
      · replace hM := zx_t q1 hM
        refine lv_aload_n hx hb dX3_readText_40 rfl (lv_at hl 0 rfl) ?_
        refine va_get (D := D) (ci := 3) (v := .int (S_ 12 6)) (C := RX3) (T := TX3) (N := 20) hx hb hts inlX3 hown hK hP 0 rfl rfl 18 (by decide) (hts _ zw_7_14) (fun _ h9 => h9) rfl dX3_readText_41 ?_
        refine lv_aload_n hx hb dX3_readText_44 rfl (lv_at hl 0 rfl) ?_
        refine va_get (D := D) (ci := 3) (v := .int (S_ 12 1)) (C := RX3) (T := TX3) (N := 20) hx hb hts inlX3 hown hK hP 0 rfl rfl 2 (by decide) (hts _ zw_5_10) (fun _ h9 => h9) rfl dX3_readText_45 ?_
        refine lv_icmp_ge (tgt := 58) hx hb dX3_readText_48 (by decide) (fun q2 => ?_) (fun q2 => ?_)
        · replace hM := zx_t q2 hM
          refine lv_iconst (v := (-1)) hx hb dX3_readText_58 (by decide) ?_
          rw [hQ]
          exact W.iret hx hb hr (fun t ht hW => ⟨⟨(-1), S_, rfl, (Option.some.inj hM).symm, by show va_P D vwCl _ t.heap; rw [ht]; exact hP⟩, hS.F ht⟩) hS.2.2 dX3_readText_59
        · replace hM := zx_f q2 hM
          refine lv_aload_n hx hb dX3_readText_51 rfl (lv_at hl 0 rfl) ?_
          refine va_get (D := D) (ci := 3) (v := .int (S_ 12 6)) (C := RX3) (T := TX3) (N := 20) hx hb hts inlX3 hown hK hP 0 rfl rfl 18 (by decide) (hts _ zw_7_14) (fun _ h9 => h9) rfl dX3_readText_52 ?_
          refine lv_goto (tgt := 59) hx hb dX3_readText_55 (by decide) ?_
          rw [hQ]
          exact W.iret hx hb hr (fun t ht hW => ⟨⟨(S_ 12 6), S_, rfl, (Option.some.inj hM).symm, by show va_P D vwCl _ t.heap; rw [ht]; exact hP⟩, hS.F ht⟩) hS.2.2 dX3_readText_59
      · replace hM := zx_f q1 hM
        refine lv_aload_n hx hb dX3_readText_16 rfl (lv_at hl 0 rfl) ?_
        refine lv_aload_n hx hb dX3_readText_17 rfl (lv_at hl 1 rfl) ?_
        refine lv_iload_n hx hb dX3_readText_18 rfl (lv_at hl 2 rfl) ?_
        obtain ⟨x3, T4, hz5, hM⟩ := zx_b2E hM
        refine va_calli (va_runV (As := [.ref (ad w), .int v2]) (rest := []) ⟨hx, hb, hml, hown, hts⟩ (c_X3_readOne l D cI cZ cT h ad S_ _ N w hrw v2  hz5) (cwV 2 hts (zg_V zw_7_16 zw_7_17 zw_7_18 zw_1_5 zw_7_19) rfl rfl rfl ⟨rfl, zyX3_readOne⟩ ⟨Nat.le_of_ble_eq_true rfl, Nat.le_of_ble_eq_true rfl⟩) ⟨bS_blind, va_recv hK hP (ci := 3) (q0 := 0) rfl rfl, bS_pre hP hK hD hN⟩ rfl rfl hl.1 rfl (lv_room (Nat.le_of_ble_eq_true rfl)) dX3_readText_19 ⟨Nat.zero_le _, Nat.zero_le _⟩) hS (fun q _ h => zx_fW hD hS hA q h) (fun q h => zx_fW hD hS hA q h) (fun r u t H1 lc ht hvm hw hB hz1 hk1 hS => ?_)
        obtain ⟨hw1, hw2⟩ := Prod.mk.inj hw; subst hw1; subst hw2
        rw [ht] at hB
        replace hP := hB
        replace hD := xW3_D T4 hD
        refine lv_if_ne (tgt := 30) hx hb dX3_readText_22 (by decide) (fun q6 => ?_) (fun q6 => ?_)
        · replace hM := zx_f q6 hM
          refine lv_aload_n hx hb dX3_readText_30 rfl (lv_at hl 0 rfl) ?_
          refine lv_bipush (v := 59) hx hb dX3_readText_31 (by decide) ?_
          obtain ⟨x7, T8, hz9, hM⟩ := zx_b2E hM
          refine va_calli (va_runV (As := [.int 59]) (rest := []) ⟨hx, hb, hml, hown, hts⟩ (c_X3_passed l D cI cZ cT h ad T4 _ N 59  hz9) (cwV 1 hts (zg_V zw_8_6 zw_8_7 zw_8_8 zw_1_5 zw_8_9) rfl rfl rfl ⟨rfl, zyX3_passed⟩ ⟨Nat.le_of_ble_eq_true rfl, Nat.le_of_ble_eq_true rfl⟩) ⟨bS_blind, va_recv hK hP (ci := 3) (q0 := 0) rfl rfl, bS_pre hP hK hD hN⟩ rfl rfl hl.1 rfl (lv_room (Nat.le_of_ble_eq_true rfl)) dX3_readText_33 ⟨Nat.zero_le _, Nat.zero_le _⟩) hS (fun q _ h => zx_fW hD hS hA q h) (fun q h => zx_fW hD hS hA q h) (fun r u t H1 lc ht hvm hw hB hz1 hk1 hS => ?_)
          obtain ⟨hw1, hw2⟩ := Prod.mk.inj hw; subst hw1; subst hw2
          rw [ht] at hB
          replace hP := hB
          replace hD := xW3_D T8 hD
          refine lv_istore_n (lv' := [(3, .int x7), (0, .ref h), (1, .ref (ad w)), (2, .int v2)]) hx hb dX3_readText_36 rfl hl (by decide) rfl (fun ls hl => ?_)
          refine lv_goto (tgt := 12) hx hb dX3_readText_37 (by decide) ?_
          exact ih12 v2 x7 T8 _ _ _ hP hD hS (lv_sub hl [1, 2, 3, 0] rfl) hM
        · replace hM := zx_t q6 hM
          refine lv_aload_n hx hb dX3_readText_25 rfl (lv_at hl 0 rfl) ?_
          refine va_get (D := D) (ci := 3) (v := .int (T4 12 6)) (C := RX3) (T := TX3) (N := 20) hx hb hts inlX3 hown hK hP 0 rfl rfl 18 (by decide) (hts _ zw_7_14) (fun _ h9 => h9) rfl dX3_readText_26 ?_
          rw [hQ]
          exact W.iret hx hb hr (fun t ht hW => ⟨⟨(T4 12 6), T4, rfl, (Option.some.inj hM).symm, by show va_P D vwCl _ t.heap; rw [ht]; exact hP⟩, hS.F ht⟩) hS.2.2 dX3_readText_29
  refine lv_aload_n hx hb dX3_readText_0 rfl (lv_at hl 0 rfl) ?_
  refine lv_iconst (v := 0) hx hb dX3_readText_1 (by decide) ?_
  obtain ⟨T10, eT10, hM⟩ := zx_nE hM
  refine va_put (D := D) (ci := 3) (v := .int 0) (ty := .int) (C := RX3) (T := TX3) (N := 20) hx hb hts inlX3 tyX3 tyX3_ok nmX3 hown hK hP hD hS 0 rfl rfl 18 (by decide) (hts _ zw_7_14) (fun _ h9 => h9) rfl (by decide +kernel) rfl rfl (Nat.le_of_ble_eq_true rfl) dX3_readText_2 (fun H lc hP hD hS => ?_)
  replace hP : va_P D vwCl (xW3 cI cZ h ad T10) H := by rw [eT10]; exact hP
  replace hD : va_D A (xW3 cI cZ h ad T10) := by rw [eT10]; exact hD
  refine lv_aload_n hx hb dX3_readText_5 rfl (lv_at hl 0 rfl) ?_
  refine lv_iconst (v := 0) hx hb dX3_readText_6 (by decide) ?_
  obtain ⟨T11, eT11, hM⟩ := zx_nE hM
  refine va_put (D := D) (ci := 3) (v := .int 0) (ty := .int) (C := RX3) (T := TX3) (N := 20) hx hb hts inlX3 tyX3 tyX3_ok nmX3 hown hK hP hD hS 0 rfl rfl 19 (by decide) (hts _ zw_7_15) (fun _ h9 => h9) rfl (by decide +kernel) rfl rfl (Nat.le_of_ble_eq_true rfl) dX3_readText_7 (fun H lc hP hD hS => ?_)
  replace hP : va_P D vwCl (xW3 cI cZ h ad T11) H := by rw [eT11]; exact hP
  replace hD : va_D A (xW3 cI cZ h ad T11) := by rw [eT11]; exact hD
  refine lv_iconst (v := 1) hx hb dX3_readText_10 (by decide) ?_
  refine lv_istore_n (lv' := [(3, .int 1), (0, .ref h), (1, .ref (ad w)), (2, .int p2)]) hx hb dX3_readText_11 rfl hl (by decide) rfl (fun ls hl => ?_)
  exact l12 N p2 1 T11 _ _ _ hP hD hS (lv_sub hl [1, 2, 3, 0] rfl) hM

/-! ShallowBoxesModel.errorPosition()I -/
def f_X3_errorPosition (N : Nat) (S : zx_S) : Option (Int32 × zx_S) :=
  (zx_n (zx_st S 12 (upd (S 12) 0 0)) (fun T1 =>
(zx_b2 (f_X3_readText N 1 0 T1) (fun x2 T3 =>
some (x2, T3)))))
abbrev rmX3_errorPosition : Room := { frames := 10, cells := 0, slots := 0, locals := 244 }
abbrev zsX3_errorPosition : List Cond := .code yX3_errorPosition cX3_errorPosition 1 (some .int) :: wsL_law
theorem zyX3_errorPosition : yX3_errorPosition.cls ≠ "java/lang/invoke/MethodHandle" ∧ yX3_errorPosition.cls ≠ "java/lang/invoke/VarHandle" ∧ (parseMethodDescriptor yX3_errorPosition.desc).map (fun d => d.parameters.length) = some 0 := by decide +kernel
set_option maxHeartbeats 4000000 in
set_option maxRecDepth 100000 in
theorem c_X3_errorPosition (l : Launch) (D : va_G) (cI cZ cT : ClassId) (h : Nat) (ad : Nat → Nat) (S : zx_S) (sz : Nat) (N : Nat) {R : Int32 × zx_S} (hM : f_X3_errorPosition N S = some R) : Met l yX3_errorPosition zsX3_errorPosition rmX3_errorPosition (va_Pc [.ref h] (bS D (zx_ty cI cZ cT) (xW3 cI cZ h ad S) sz)) (va_Qi (fun r u => R = (r, u)) (fun u t => va_P D vwCl (xW3 cI cZ h ad u) t.heap) (va_A (xW3 cI cZ h ad S) sz)) 0 0 (va_A (xW3 cI cZ h ad S) sz) := by
  refine Met.ofW (cc := cX3_errorPosition) (maxL := 1) (ret := (some .int)) (by decide) rfl ?_
  intro p e s m args below meth c s₁ B hml hv
  obtain ⟨rfl, hsz, hP, hK, hD0, hN⟩ := hv
  have hx := B.exec
  have hb := B.bytes
  have hr := B.returns
  have hts : ∀ w ∈ wsL_law, w.before _ s = true := fun w hw => atoms_spec (ws := zsX3_errorPosition) B.pre w (List.mem_cons_of_mem _ hw)
  have hown : s.vm.findClass RX3 = some m.cls := findClass_of_methodNamed B.named
  have hlocks := B.notSynchronized
  subst hsz
  have hD := hD0.self (sz := s.heap.size)
  generalize hAe : va_A (xW3 cI cZ h ad S) s.heap.size = A at hD ⊢
  have hA : ∀ q : Nat, s.heap.size ≤ q → A q := fun q h => by rw [← hAe]; exact Or.inr h
  have hS : va_S A s.heap s.heap [] := va_S.rf
  have hl := lv_entry ([.ref h]) (n := 1) (Nat.le_of_ble_eq_true rfl)
  rw [lg_entry_eq]
  generalize (lg_sl ([.ref h]) ++ List.replicate (1 - (lg_sl ([.ref h])).length) Slot.unset).toArray = ls at hl ⊢
  have hl : lv_has ls 1 [(0, .ref h)] := hl
  generalize hQ : MQ below (va_Qi (fun r u => R = (r, u)) (fun u t => va_P D vwCl (xW3 cI cZ h ad u) t.heap) A) ([.ref h] : List Value).toArray s 0 0 A = Q9
  replace hQ := hQ.symm
  unfold f_X3_errorPosition at hM
  refine lv_aload_n hx hb dX3_errorPosition_0 rfl (lv_at hl 0 rfl) ?_
  refine lv_iconst (v := 0) hx hb dX3_errorPosition_1 (by decide) ?_
  obtain ⟨T1, eT1, hM⟩ := zx_nE hM
  refine va_put (D := D) (ci := 3) (v := .int 0) (ty := .int) (C := RX3) (T := TX3) (N := 20) hx hb hts inlX3 tyX3 tyX3_ok nmX3 hown hK hP hD hS 0 rfl rfl 0 (by decide) (hts _ zw_5_18) (fun _ h9 => h9) rfl (by decide +kernel) rfl rfl (Nat.le_of_ble_eq_true rfl) dX3_errorPosition_2 (fun H lc hP hD hS => ?_)
  replace hP : va_P D vwCl (xW3 cI cZ h ad T1) H := by rw [eT1]; exact hP
  replace hD : va_D A (xW3 cI cZ h ad T1) := by rw [eT1]; exact hD
  refine lv_aload_n hx hb dX3_errorPosition_5 rfl (lv_at hl 0 rfl) ?_
  refine lv_aload_n hx hb dX3_errorPosition_6 rfl (lv_at hl 0 rfl) ?_
  refine va_get (D := D) (ci := 3) (v := .ref (ad 1)) (C := RX3) (T := TX3) (N := 20) hx hb hts inlX3 hown hK hP 0 rfl rfl 3 (by decide) (hts _ zw_3_19) (fun _ h9 => h9) rfl dX3_errorPosition_7 ?_
  refine lv_iconst (v := 0) hx hb dX3_errorPosition_10 (by decide) ?_
  obtain ⟨x2, T3, hz4, hM⟩ := zx_b2E hM
  refine va_calli (va_runV (As := [.ref (ad 1), .int 0]) (rest := []) ⟨hx, hb, hml, hown, hts⟩ (c_X3_readText l D cI cZ cT h ad T1 _ N 1 (Or.inl rfl) 0  hz4) (cwV 2 hts (zg_V zw_7_10 zw_7_11 zw_7_12 zw_1_5 zw_7_13) rfl rfl rfl ⟨rfl, zyX3_readText⟩ ⟨Nat.le_of_ble_eq_true rfl, Nat.le_of_ble_eq_true rfl⟩) ⟨bS_blind, va_recv hK hP (ci := 3) (q0 := 0) rfl rfl, bS_pre hP hK hD hN⟩ rfl rfl hl.1 rfl (lv_room (Nat.le_of_ble_eq_true rfl)) dX3_errorPosition_11 ⟨Nat.zero_le _, Nat.zero_le _⟩) hS (fun q _ h => zx_fW hD hS hA q h) (fun q h => zx_fW hD hS hA q h) (fun r u t H1 lc ht hvm hw hB hz1 hk1 hS => ?_)
  obtain ⟨hw1, hw2⟩ := Prod.mk.inj hw; subst hw1; subst hw2
  rw [ht] at hB
  replace hP := hB
  replace hD := xW3_D T3 hD
  rw [hQ]
  exact W.iret hx hb hr (fun t ht hW => ⟨⟨x2, T3, rfl, (Option.some.inj hM).symm, by show va_P D vwCl _ t.heap; rw [ht]; exact hP⟩, hS.F ht⟩) hS.2.2 dX3_errorPosition_14

/-! ShallowBoxesModel.areas()I -/
def f_X3_areas_j55 (N : Nat) (k12 : Int32 → Int32 → zx_S → Option (Int32 × zx_S)) (v2 : Int32) (t0 : Int32) (t1 : Int32) (S_ : zx_S) : Option (Int32 × zx_S) :=
  (zx_n (t0 + t1) (fun x2 =>
(zx_n (v2 + 1) (fun x3 =>
k12 x2 x3 S_))))
def f_X3_areas_j54 (N : Nat) (k12 : Int32 → Int32 → zx_S → Option (Int32 × zx_S)) (v2 : Int32) (t0 : Int32) (S_ : zx_S) : Option (Int32 × zx_S) :=
  f_X3_areas_j55 N k12 v2 t0 0 S_
def f_X3_areas_l12 (N : Nat) : Nat → Int32 → Int32 → zx_S → Option (Int32 × zx_S)
  | 0, _, _, _ => none
  | n12 + 1, v1, v2, S_ => (if 32 ≤ v2 then
  some (v1, S_) else
  (zx_b1 (f_X3_at N v2) (fun x4 =>
(zx_rd 380 (S_ 1) x4 (fun x6 =>
(if x6 ≤ 0 then
  f_X3_areas_j54 N (f_X3_areas_l12 N  n12) v2 v1 S_ else
  (zx_rd 380 (S_ 1) 376 (fun x9 =>
(if v2 = x9 then
  f_X3_areas_j54 N (f_X3_areas_l12 N  n12) v2 v1 S_ else
  (zx_b1 (f_X3_area N (24 + v2) S_) (fun x12 =>
f_X3_areas_j55 N (f_X3_areas_l12 N  n12) v2 v1 x12 S_)))))))))))
def f_X3_areas (N : Nat) (S : zx_S) : Option (Int32 × zx_S) :=
  (zx_b1 (f_X3_layBoxes N 1 S) (fun T14 =>
f_X3_areas_l12 N  N 0 0 T14))
abbrev rmX3_areas : Room := { frames := 3, cells := 0, slots := 0, locals := 66 }
abbrev zsX3_areas : List Cond := .code yX3_areas cX3_areas 3 (some .int) :: wsL_law
theorem zyX3_areas : yX3_areas.cls ≠ "java/lang/invoke/MethodHandle" ∧ yX3_areas.cls ≠ "java/lang/invoke/VarHandle" ∧ (parseMethodDescriptor yX3_areas.desc).map (fun d => d.parameters.length) = some 0 := by decide +kernel
set_option maxHeartbeats 4000000 in
set_option maxRecDepth 100000 in
theorem c_X3_areas (l : Launch) (D : va_G) (cI cZ cT : ClassId) (h : Nat) (ad : Nat → Nat) (S : zx_S) (sz : Nat) (N : Nat) {R : Int32 × zx_S} (hM : f_X3_areas N S = some R) : Met l yX3_areas zsX3_areas rmX3_areas (va_Pc [.ref h] (bS D (zx_ty cI cZ cT) (xW3 cI cZ h ad S) sz)) (va_Qi (fun r u => R = (r, u)) (fun u t => va_P D vwCl (xW3 cI cZ h ad u) t.heap) (va_A (xW3 cI cZ h ad S) sz)) 0 0 (va_A (xW3 cI cZ h ad S) sz) := by
  refine Met.ofW (cc := cX3_areas) (maxL := 3) (ret := (some .int)) (by decide) rfl ?_
  intro p e s m args below meth c s₁ B hml hv
  obtain ⟨rfl, hsz, hP, hK, hD0, hN⟩ := hv
  have hx := B.exec
  have hb := B.bytes
  have hr := B.returns
  have hts : ∀ w ∈ wsL_law, w.before _ s = true := fun w hw => atoms_spec (ws := zsX3_areas) B.pre w (List.mem_cons_of_mem _ hw)
  have hown : s.vm.findClass RX3 = some m.cls := findClass_of_methodNamed B.named
  have hlocks := B.notSynchronized
  subst hsz
  have hD := hD0.self (sz := s.heap.size)
  generalize hAe : va_A (xW3 cI cZ h ad S) s.heap.size = A at hD ⊢
  have hA : ∀ q : Nat, s.heap.size ≤ q → A q := fun q h => by rw [← hAe]; exact Or.inr h
  have hS : va_S A s.heap s.heap [] := va_S.rf
  have hl := lv_entry ([.ref h]) (n := 3) (Nat.le_of_ble_eq_true rfl)
  rw [lg_entry_eq]
  generalize (lg_sl ([.ref h]) ++ List.replicate (3 - (lg_sl ([.ref h])).length) Slot.unset).toArray = ls at hl ⊢
  have hl : lv_has ls 3 [(0, .ref h)] := hl
  generalize hQ : MQ below (va_Qi (fun r u => R = (r, u)) (fun u t => va_P D vwCl (xW3 cI cZ h ad u) t.heap) A) ([.ref h] : List Value).toArray s 0 0 A = Q9
  replace hQ := hQ.symm
  unfold f_X3_areas at hM
  have l12 : ∀ (n12 : Nat) (v1 : Int32) (v2 : Int32) (S_ : zx_S) (H : Heap) (lc : List Loc) (ls : Array Slot), va_P D vwCl (xW3 cI cZ h ad S_) H → va_D A (xW3 cI cZ h ad S_) → va_S A s.heap H lc → lv_has ls 3 [(0, .ref h), (1, .int v1), (2, .int v2)] → f_X3_areas_l12 N n12 v1 v2 S_ = some R → W p l e (headSpec zsX3_areas rmX3_areas).room s m ([.ref h] : List Value).toArray below meth c H lc 0 0 Q9 (F0 m 12 ls []) := by
    intro n12
    induction n12 with
    | zero =>
      intro v1 v2 S_ H lc ls hP hD hS hl hM
      rw [f_X3_areas_l12] at hM; exact absurd hM (by intro h; cases h)
    | succ n12 ih12 =>
      intro v1 v2 S_ H lc ls hP hD hS hl hM
      rw [f_X3_areas_l12] at hM
      refine lv_iload_n hx hb dX3_areas_12 rfl (lv_at hl 2 rfl) ?_
      refine lv_bipush (v := 32) hx hb dX3_areas_13 (by decide) ?_
      refine lv_icmp_ge (tgt := 63) hx hb dX3_areas_15 (by decide) (fun q1 => ?_) (fun q1 => ?_)
      · replace hM := zx_t q1 hM
        refine lv_iload_n hx hb dX3_areas_63 rfl (lv_at hl 1 rfl) ?_
        rw [hQ]
        exact W.iret hx hb hr (fun t ht hW => ⟨⟨v1, S_, rfl, (Option.some.inj hM).symm, by show va_P D vwCl _ t.heap; rw [ht]; exact hP⟩, hS.F ht⟩) hS.2.2 dX3_areas_64
      · replace hM := zx_f q1 hM
        have j55 : ∀ (v2 : Int32) (t0 : Int32) (t1 : Int32) (S_ : zx_S) (H : Heap) (lc : List Loc) (ls : Array Slot), va_P D vwCl (xW3 cI cZ h ad S_) H → va_D A (xW3 cI cZ h ad S_) → va_S A s.heap H lc → lv_has ls 3 [(0, .ref h), (2, .int v2)] → f_X3_areas_j55 N (f_X3_areas_l12 N  n12) v2 t0 t1 S_ = some R → W p l e (headSpec zsX3_areas rmX3_areas).room s m ([.ref h] : List Value).toArray below meth c H lc 0 0 Q9 (F0 m 55 ls [.int t1, .int t0]) := by
          intro v2 t0 t1 S_ H lc ls hP hD hS hl hM
          unfold f_X3_areas_j55 at hM
          refine lv_iadd hx hb dX3_areas_55 ?_
          obtain ⟨x2, ex2, hM⟩ := zx_nE hM
          refine zx_top ex2 ?_
          refine lv_istore_n (lv' := [(1, .int x2), (0, .ref h), (2, .int v2)]) hx hb dX3_areas_56 rfl hl (by decide) rfl (fun ls hl => ?_)
          obtain ⟨x3, ex3, hM⟩ := zx_nE hM
          refine lv_iinc (v := x3) (lv' := [(2, .int x3), (1, .int x2), (0, .ref h)]) hx hb dX3_areas_57 hl (k := 2) rfl (by rw [ex3]; rfl) (by decide) rfl (fun ls hl => ?_)
          refine lv_goto (tgt := 12) hx hb dX3_areas_60 (by decide) ?_
          exact ih12 x2 x3 S_ _ _ _ hP hD hS (lv_sub hl [2, 1, 0] rfl) hM
        have j54 : ∀ (v2 : Int32) (t0 : Int32) (S_ : zx_S) (H : Heap) (lc : List Loc) (ls : Array Slot), va_P D vwCl (xW3 cI cZ h ad S_) H → va_D A (xW3 cI cZ h ad S_) → va_S A s.heap H lc → lv_has ls 3 [(0, .ref h), (2, .int v2)] → f_X3_areas_j54 N (f_X3_areas_l12 N  n12) v2 t0 S_ = some R → W p l e (headSpec zsX3_areas rmX3_areas).room s m ([.ref h] : List Value).toArray below meth c H lc 0 0 Q9 (F0 m 54 ls [.int t0]) := by
          intro v2 t0 S_ H lc ls hP hD hS hl hM
          unfold f_X3_areas_j54 at hM
          refine lv_iconst (v := 0) hx hb dX3_areas_54 (by decide) ?_
          exact j55 v2 t0 0 S_ _ _ _ hP hD hS (lv_sub hl [0, 1] rfl) hM
        refine lv_iload_n hx hb dX3_areas_18 rfl (lv_at hl 1 rfl) ?_
        refine lv_aload_n hx hb dX3_areas_19 rfl (lv_at hl 0 rfl) ?_
        refine va_get (D := D) (ci := 3) (v := .ref (ad 1)) (C := RX3) (T := TX3) (N := 20) hx hb hts inlX3 hown hK hP 0 rfl rfl 3 (by decide) (hts _ zw_3_19) (fun _ h9 => h9) rfl dX3_areas_20 ?_
        refine lv_iload_n hx hb dX3_areas_23 rfl (lv_at hl 2 rfl) ?_
        obtain ⟨x4, hz5, hM⟩ := zx_b1E hM
        refine va_calli (va_runS (As := [.int v2]) (rest := [.ref (ad 1), .int v1]) ⟨hx, hb, hml, hown, hts⟩ (c_X3_at l D cI cZ cT _ N v2 hz5) (va_cwS 1 hts (zg_S zw_9_6 zw_9_7 zw_1_5 zw_9_8) rfl rfl rfl zyX3_at ⟨Nat.le_of_ble_eq_true rfl, Nat.le_of_ble_eq_true rfl⟩) ⟨bS_blind, bS_pre (zx_P0 hP) hK (zx_D0 hD) hN⟩ rfl rfl hl.1 rfl (lv_room (Nat.le_of_ble_eq_true rfl)) dX3_areas_24 ⟨Nat.zero_le _, Nat.zero_le _⟩) hS (fun q h1 h2 => absurd h1 (Nat.not_lt.mpr h2)) (fun q h => hA q (Nat.le_trans hS.1 h)) (fun r u t H1 lc ht hvm hw hB hz1 hk1 hS => ?_)
        replace hw : x4 = r := hw; subst hw
        replace hP := zx_keep hP hk1
        obtain ⟨x6, q7, ex6, hM⟩ := zx_rdE hM
        refine va_iald (D := D) hx hb hK hP 2 0 rfl rfl q7 dX3_areas_27 ?_
        refine zx_top ex6 ?_
        refine lv_if_le (tgt := 54) hx hb dX3_areas_28 (by decide) (fun q8 => ?_) (fun q8 => ?_)
        · replace hM := zx_t q8 hM
          exact j54 v2 v1 S_ _ _ _ hP hD hS (lv_sub hl [0, 2] rfl) hM
        · replace hM := zx_f q8 hM
          refine lv_iload_n hx hb dX3_areas_31 rfl (lv_at hl 2 rfl) ?_
          refine lv_aload_n hx hb dX3_areas_32 rfl (lv_at hl 0 rfl) ?_
          refine va_get (D := D) (ci := 3) (v := .ref (ad 1)) (C := RX3) (T := TX3) (N := 20) hx hb hts inlX3 hown hK hP 0 rfl rfl 3 (by decide) (hts _ zw_3_19) (fun _ h9 => h9) rfl dX3_areas_33 ?_
          refine lv_sipush (v := 376) hx hb dX3_areas_36 (by decide) ?_
          obtain ⟨x9, q10, ex9, hM⟩ := zx_rdE hM
          refine va_iald (D := D) hx hb hK hP 2 0 rfl rfl q10 dX3_areas_39 ?_
          refine zx_top ex9 ?_
          refine lv_icmp_eq (tgt := 54) hx hb dX3_areas_40 (by decide) (fun q11 => ?_) (fun q11 => ?_)
          · replace hM := zx_t q11 hM
            exact j54 v2 v1 S_ _ _ _ hP hD hS (lv_sub hl [0, 2] rfl) hM
          · replace hM := zx_f q11 hM
            refine lv_aload_n hx hb dX3_areas_43 rfl (lv_at hl 0 rfl) ?_
            refine lv_bipush (v := 24) hx hb dX3_areas_44 (by decide) ?_
            refine lv_iload_n hx hb dX3_areas_46 rfl (lv_at hl 2 rfl) ?_
            refine lv_iadd hx hb dX3_areas_47 ?_
            obtain ⟨x12, hz13, hM⟩ := zx_b1E hM
            refine va_calli (va_runV (As := [.int (24 + v2)]) (rest := [.int v1]) ⟨hx, hb, hml, hown, hts⟩ (c_X3_area l D cI cZ cT h ad S_ _ N (24 + v2)  hz13) (cwV 1 hts (zg_V zw_10_9 zw_10_10 zw_10_11 zw_1_5 zw_10_12) rfl rfl rfl ⟨rfl, zyX3_area⟩ ⟨Nat.le_of_ble_eq_true rfl, Nat.le_of_ble_eq_true rfl⟩) ⟨bS_blind, va_recv hK hP (ci := 3) (q0 := 0) rfl rfl, bS_pre hP hK hD hN⟩ rfl rfl hl.1 rfl (lv_room (Nat.le_of_ble_eq_true rfl)) dX3_areas_48 ⟨Nat.zero_le _, Nat.zero_le _⟩) hS (fun q h1 h2 => absurd h1 (Nat.not_lt.mpr h2)) (fun q h => hA q (Nat.le_trans hS.1 h)) (fun r u t H1 lc ht hvm hw hB hz1 hk1 hS => ?_)
            replace hw : x12 = r := hw; subst hw
            replace hP := zx_keep hP hk1
            refine lv_goto (tgt := 55) hx hb dX3_areas_51 (by decide) ?_
            exact j55 v2 v1 x12 S_ _ _ _ hP hD hS (lv_sub hl [0, 2] rfl) hM
  refine lv_aload_n hx hb dX3_areas_0 rfl (lv_at hl 0 rfl) ?_
  refine lv_aload_n hx hb dX3_areas_1 rfl (lv_at hl 0 rfl) ?_
  refine va_get (D := D) (ci := 3) (v := .ref (ad 1)) (C := RX3) (T := TX3) (N := 20) hx hb hts inlX3 hown hK hP 0 rfl rfl 3 (by decide) (hts _ zw_3_19) (fun _ h9 => h9) rfl dX3_areas_2 ?_
  obtain ⟨T14, hz15, hM⟩ := zx_b1E hM
  refine va_callv (va_runV (As := [.ref (ad 1)]) (rest := []) ⟨hx, hb, hml, hown, hts⟩ (c_X3_layBoxes l D cI cZ cT h ad S _ N 1 (Or.inl rfl)  hz15) (cwV 1 hts (zg_V zw_8_23 zw_9_0 zw_9_1 zw_1_5 zw_9_2) rfl rfl rfl ⟨rfl, zyX3_layBoxes⟩ ⟨Nat.le_of_ble_eq_true rfl, Nat.le_of_ble_eq_true rfl⟩) ⟨bS_blind, va_recv hK hP (ci := 3) (q0 := 0) rfl rfl, bS_pre hP hK hD hN⟩ rfl rfl hl.1 rfl (lv_room (Nat.le_of_ble_eq_true rfl)) dX3_areas_5 ⟨Nat.zero_le _, Nat.zero_le _⟩) hS (fun q _ h => zx_fW hD hS hA q h) (fun q h => zx_fW hD hS hA q h) (fun u t H1 lc ht hvm hw hB hz1 hk1 hS => ?_)
  replace hw : T14 = u := hw; subst hw
  rw [ht] at hB
  replace hP := hB
  replace hD := xW3_D T14 hD
  refine lv_iconst (v := 0) hx hb dX3_areas_8 (by decide) ?_
  refine lv_istore_n (lv' := [(1, .int 0), (0, .ref h)]) hx hb dX3_areas_9 rfl hl (by decide) rfl (fun ls hl => ?_)
  refine lv_iconst (v := 0) hx hb dX3_areas_10 (by decide) ?_
  refine lv_istore_n (lv' := [(2, .int 0), (1, .int 0), (0, .ref h)]) hx hb dX3_areas_11 rfl hl (by decide) rfl (fun ls hl => ?_)
  exact l12 N 0 0 T14 _ _ _ hP hD hS (lv_sub hl [2, 1, 0] rfl) hM

/-! ShallowBoxesModel.about(I)I -/
def f_X3_about_j18 (N : Nat) (v1 : Int32) (t1 : Int32) (S_ : zx_S) : Option (Int32 × zx_S) :=
  (zx_b2 (f_X3_refused N t1 S_) (fun x1 T2 =>
(if x1 = 0 then
  (if v1 = 0 then
  (zx_b1 (f_X3_count N 380 (T2 1)) (fun x6 =>
some (x6, T2))) else
(if v1 = 1 then
  (zx_b1 (f_X3_nodes N 380 (T2 1)) (fun x9 =>
some (x9, T2))) else
(if v1 = 2 then
  (zx_rd 380 (T2 1) 376 (fun x12 =>
(zx_b1 (f_X3_levelOf N 380 x12 (T2 1)) (fun x14 =>
some (x14, T2))))) else
(if v1 = 3 then
  (zx_b2 (f_X3_overlap N 1 T2) (fun x17 T18 =>
some (x17, T18))) else
(if v1 = 4 then
  (zx_b2 (f_X3_areas N T2) (fun x21 T22 =>
some (x21, T22))) else
(zx_rd 380 (T2 1) ((377 + v1) - 5) (fun x24 =>
some (x24, T2)))))))) else
  some (0, T2))))
def f_X3_about (N : Nat) (p1 : Int32) (S : zx_S) : Option (Int32 × zx_S) :=
  (zx_b1 (f_X3_in N (Int32.toInt64 p1) 0 7) (fun x26 =>
(if x26 = 0 then
  f_X3_about_j18 N  p1 1 S else
  f_X3_about_j18 N  p1 0 S)))
abbrev rmX3_about : Room := { frames := 4, cells := 0, slots := 0, locals := 91 }
abbrev zsX3_about : List Cond := .code yX3_about cX3_about 2 (some .int) :: wsL_law
theorem zyX3_about : yX3_about.cls ≠ "java/lang/invoke/MethodHandle" ∧ yX3_about.cls ≠ "java/lang/invoke/VarHandle" ∧ (parseMethodDescriptor yX3_about.desc).map (fun d => d.parameters.length) = some 1 := by decide +kernel
set_option maxHeartbeats 4000000 in
set_option maxRecDepth 100000 in
theorem c_X3_about (l : Launch) (D : va_G) (cI cZ cT : ClassId) (h : Nat) (ad : Nat → Nat) (S : zx_S) (sz : Nat) (N : Nat) (p1 : Int32) {R : Int32 × zx_S} (hM : f_X3_about N p1 S = some R) : Met l yX3_about zsX3_about rmX3_about (va_Pc [.ref h, .int p1] (bS D (zx_ty cI cZ cT) (xW3 cI cZ h ad S) sz)) (va_Qi (fun r u => R = (r, u)) (fun u t => va_P D vwCl (xW3 cI cZ h ad u) t.heap) (va_A (xW3 cI cZ h ad S) sz)) 0 0 (va_A (xW3 cI cZ h ad S) sz) := by
  refine Met.ofW (cc := cX3_about) (maxL := 2) (ret := (some .int)) (by decide) rfl ?_
  intro p e s m args below meth c s₁ B hml hv
  obtain ⟨rfl, hsz, hP, hK, hD0, hN⟩ := hv
  have hx := B.exec
  have hb := B.bytes
  have hr := B.returns
  have hts : ∀ w ∈ wsL_law, w.before _ s = true := fun w hw => atoms_spec (ws := zsX3_about) B.pre w (List.mem_cons_of_mem _ hw)
  have hown : s.vm.findClass RX3 = some m.cls := findClass_of_methodNamed B.named
  have hlocks := B.notSynchronized
  subst hsz
  have hD := hD0.self (sz := s.heap.size)
  generalize hAe : va_A (xW3 cI cZ h ad S) s.heap.size = A at hD ⊢
  have hA : ∀ q : Nat, s.heap.size ≤ q → A q := fun q h => by rw [← hAe]; exact Or.inr h
  have hS : va_S A s.heap s.heap [] := va_S.rf
  have hl := lv_entry ([.ref h, .int p1]) (n := 2) (Nat.le_of_ble_eq_true rfl)
  rw [lg_entry_eq]
  generalize (lg_sl ([.ref h, .int p1]) ++ List.replicate (2 - (lg_sl ([.ref h, .int p1])).length) Slot.unset).toArray = ls at hl ⊢
  have hl : lv_has ls 2 [(0, .ref h), (1, .int p1)] := hl
  generalize hQ : MQ below (va_Qi (fun r u => R = (r, u)) (fun u t => va_P D vwCl (xW3 cI cZ h ad u) t.heap) A) ([.ref h, .int p1] : List Value).toArray s 0 0 A = Q9
  replace hQ := hQ.symm
  unfold f_X3_about at hM
  have j18 : ∀ (v1 : Int32) (t1 : Int32) (S_ : zx_S) (H : Heap) (lc : List Loc) (ls : Array Slot), va_P D vwCl (xW3 cI cZ h ad S_) H → va_D A (xW3 cI cZ h ad S_) → va_S A s.heap H lc → lv_has ls 2 [(0, .ref h), (1, .int v1)] → f_X3_about_j18 N v1 t1 S_ = some R → W p l e (headSpec zsX3_about rmX3_about).room s m ([.ref h, .int p1] : List Value).toArray below meth c H lc 0 0 Q9 (F0 m 18 ls [.int t1, .ref h]) := by
    intro v1 t1 S_ H lc ls hP hD hS hl hM
    unfold f_X3_about_j18 at hM
    obtain ⟨x1, T2, hz3, hM⟩ := zx_b2E hM
    refine va_calli (va_runV (As := [.int t1]) (rest := []) ⟨hx, hb, hml, hown, hts⟩ (c_X3_refused l D cI cZ cT h ad S_ _ N t1  hz3) (cwV 1 hts (zg_V zw_5_14 zw_5_15 zw_5_16 zw_1_5 zw_5_17) rfl rfl rfl ⟨rfl, zyX3_refused⟩ ⟨Nat.le_of_ble_eq_true rfl, Nat.le_of_ble_eq_true rfl⟩) ⟨bS_blind, va_recv hK hP (ci := 3) (q0 := 0) rfl rfl, bS_pre hP hK hD hN⟩ rfl rfl hl.1 rfl (lv_room (Nat.le_of_ble_eq_true rfl)) dX3_about_18 ⟨Nat.zero_le _, Nat.zero_le _⟩) hS (fun q _ h => zx_fW hD hS hA q h) (fun q h => zx_fW hD hS hA q h) (fun r u t H1 lc ht hvm hw hB hz1 hk1 hS => ?_)
    obtain ⟨hw1, hw2⟩ := Prod.mk.inj hw; subst hw1; subst hw2
    rw [ht] at hB
    replace hP := hB
    replace hD := xW3_D T2 hD
    refine lv_if_eq (tgt := 26) hx hb dX3_about_21 (by decide) (fun q4 => ?_) (fun q4 => ?_)
    · replace hM := zx_t q4 hM
      refine lv_iload_n hx hb dX3_about_26 rfl (lv_at hl 1 rfl) ?_
      by_cases q5 : v1 = 0
      · replace hM := zx_t q5 hM
        refine lv_tableIn (tgt := 60) hx hb dX3_about_27 (by rw [q5]; decide) (by rw [q5]; decide) (by rw [q5]; rfl) (by decide) ?_
        refine lv_aload_n hx hb dX3_about_60 rfl (lv_at hl 0 rfl) ?_
        refine va_get (D := D) (ci := 3) (v := .ref (ad 1)) (C := RX3) (T := TX3) (N := 20) hx hb hts inlX3 hown hK hP 0 rfl rfl 3 (by decide) (hts _ zw_3_19) (fun _ h9 => h9) rfl dX3_about_61 ?_
        obtain ⟨x6, hz7, hM⟩ := zx_b1E hM
        refine va_calli (va_runS (As := [.ref (ad 1)]) (rest := []) ⟨hx, hb, hml, hown, hts⟩ (c_X3_count l D cI cZ cT (ad 1) 380 (T2 1) _ N hz7) (va_cwS 1 hts (zg_S zw_14_13 zw_14_14 zw_1_5 zw_14_15) rfl rfl rfl zyX3_count ⟨Nat.le_of_ble_eq_true rfl, Nat.le_of_ble_eq_true rfl⟩) ⟨bS_blind, bS_pre (zx_P1 hP 2 (rfl)) hK (zx_D1 hD 2 (rfl)) hN⟩ rfl rfl hl.1 rfl (lv_room (Nat.le_of_ble_eq_true rfl)) dX3_about_64 ⟨Nat.zero_le _, Nat.zero_le _⟩) hS (fun q h1 h2 => absurd h1 (Nat.not_lt.mpr h2)) (fun q h => hA q (Nat.le_trans hS.1 h)) (fun r u t H1 lc ht hvm hw hB hz1 hk1 hS => ?_)
        replace hw : x6 = r := hw; subst hw
        replace hP := zx_keep hP hk1
        rw [hQ]
        exact W.iret hx hb hr (fun t ht hW => ⟨⟨x6, T2, rfl, (Option.some.inj hM).symm, by show va_P D vwCl _ t.heap; rw [ht]; exact hP⟩, hS.F ht⟩) hS.2.2 dX3_about_67
      · replace hM := zx_f q5 hM
        by_cases q8 : v1 = 1
        · replace hM := zx_t q8 hM
          refine lv_tableIn (tgt := 68) hx hb dX3_about_27 (by rw [q8]; decide) (by rw [q8]; decide) (by rw [q8]; rfl) (by decide) ?_
          refine lv_aload_n hx hb dX3_about_68 rfl (lv_at hl 0 rfl) ?_
          refine va_get (D := D) (ci := 3) (v := .ref (ad 1)) (C := RX3) (T := TX3) (N := 20) hx hb hts inlX3 hown hK hP 0 rfl rfl 3 (by decide) (hts _ zw_3_19) (fun _ h9 => h9) rfl dX3_about_69 ?_
          obtain ⟨x9, hz10, hM⟩ := zx_b1E hM
          refine va_calli (va_runS (As := [.ref (ad 1)]) (rest := []) ⟨hx, hb, hml, hown, hts⟩ (c_X3_nodes l D cI cZ cT (ad 1) 380 (T2 1) _ N hz10) (va_cwS 1 hts (zg_S zw_14_16 zw_14_17 zw_1_5 zw_14_18) rfl rfl rfl zyX3_nodes ⟨Nat.le_of_ble_eq_true rfl, Nat.le_of_ble_eq_true rfl⟩) ⟨bS_blind, bS_pre (zx_P1 hP 2 (rfl)) hK (zx_D1 hD 2 (rfl)) hN⟩ rfl rfl hl.1 rfl (lv_room (Nat.le_of_ble_eq_true rfl)) dX3_about_72 ⟨Nat.zero_le _, Nat.zero_le _⟩) hS (fun q h1 h2 => absurd h1 (Nat.not_lt.mpr h2)) (fun q h => hA q (Nat.le_trans hS.1 h)) (fun r u t H1 lc ht hvm hw hB hz1 hk1 hS => ?_)
          replace hw : x9 = r := hw; subst hw
          replace hP := zx_keep hP hk1
          rw [hQ]
          exact W.iret hx hb hr (fun t ht hW => ⟨⟨x9, T2, rfl, (Option.some.inj hM).symm, by show va_P D vwCl _ t.heap; rw [ht]; exact hP⟩, hS.F ht⟩) hS.2.2 dX3_about_75
        · replace hM := zx_f q8 hM
          by_cases q11 : v1 = 2
          · replace hM := zx_t q11 hM
            refine lv_tableIn (tgt := 76) hx hb dX3_about_27 (by rw [q11]; decide) (by rw [q11]; decide) (by rw [q11]; rfl) (by decide) ?_
            refine lv_aload_n hx hb dX3_about_76 rfl (lv_at hl 0 rfl) ?_
            refine va_get (D := D) (ci := 3) (v := .ref (ad 1)) (C := RX3) (T := TX3) (N := 20) hx hb hts inlX3 hown hK hP 0 rfl rfl 3 (by decide) (hts _ zw_3_19) (fun _ h9 => h9) rfl dX3_about_77 ?_
            refine lv_aload_n hx hb dX3_about_80 rfl (lv_at hl 0 rfl) ?_
            refine va_get (D := D) (ci := 3) (v := .ref (ad 1)) (C := RX3) (T := TX3) (N := 20) hx hb hts inlX3 hown hK hP 0 rfl rfl 3 (by decide) (hts _ zw_3_19) (fun _ h9 => h9) rfl dX3_about_81 ?_
            refine lv_sipush (v := 376) hx hb dX3_about_84 (by decide) ?_
            obtain ⟨x12, q13, ex12, hM⟩ := zx_rdE hM
            refine va_iald (D := D) hx hb hK hP 2 0 rfl rfl q13 dX3_about_87 ?_
            refine zx_top ex12 ?_
            obtain ⟨x14, hz15, hM⟩ := zx_b1E hM
            refine va_calli (va_runS (As := [.ref (ad 1), .int x12]) (rest := []) ⟨hx, hb, hml, hown, hts⟩ (c_X3_levelOf l D cI cZ cT (ad 1) 380 (T2 1) _ N x12 hz15) (va_cwS 2 hts (zg_S zw_9_9 zw_9_10 zw_1_5 zw_9_11) rfl rfl rfl zyX3_levelOf ⟨Nat.le_of_ble_eq_true rfl, Nat.le_of_ble_eq_true rfl⟩) ⟨bS_blind, bS_pre (zx_P1 hP 2 (rfl)) hK (zx_D1 hD 2 (rfl)) hN⟩ rfl rfl hl.1 rfl (lv_room (Nat.le_of_ble_eq_true rfl)) dX3_about_88 ⟨Nat.zero_le _, Nat.zero_le _⟩) hS (fun q h1 h2 => absurd h1 (Nat.not_lt.mpr h2)) (fun q h => hA q (Nat.le_trans hS.1 h)) (fun r u t H1 lc ht hvm hw hB hz1 hk1 hS => ?_)
            replace hw : x14 = r := hw; subst hw
            replace hP := zx_keep hP hk1
            rw [hQ]
            exact W.iret hx hb hr (fun t ht hW => ⟨⟨x14, T2, rfl, (Option.some.inj hM).symm, by show va_P D vwCl _ t.heap; rw [ht]; exact hP⟩, hS.F ht⟩) hS.2.2 dX3_about_91
          · replace hM := zx_f q11 hM
            by_cases q16 : v1 = 3
            · replace hM := zx_t q16 hM
              refine lv_tableIn (tgt := 92) hx hb dX3_about_27 (by rw [q16]; decide) (by rw [q16]; decide) (by rw [q16]; rfl) (by decide) ?_
              refine lv_aload_n hx hb dX3_about_92 rfl (lv_at hl 0 rfl) ?_
              refine lv_aload_n hx hb dX3_about_93 rfl (lv_at hl 0 rfl) ?_
              refine va_get (D := D) (ci := 3) (v := .ref (ad 1)) (C := RX3) (T := TX3) (N := 20) hx hb hts inlX3 hown hK hP 0 rfl rfl 3 (by decide) (hts _ zw_3_19) (fun _ h9 => h9) rfl dX3_about_94 ?_
              obtain ⟨x17, T18, hz19, hM⟩ := zx_b2E hM
              refine va_calli (va_runV (As := [.ref (ad 1)]) (rest := []) ⟨hx, hb, hml, hown, hts⟩ (c_X3_overlap l D cI cZ cT h ad T2 _ N 1 (Or.inl rfl)  hz19) (cwV 1 hts (zg_V zw_14_19 zw_14_20 zw_14_21 zw_1_5 zw_14_22) rfl rfl rfl ⟨rfl, zyX3_overlap⟩ ⟨Nat.le_of_ble_eq_true rfl, Nat.le_of_ble_eq_true rfl⟩) ⟨bS_blind, va_recv hK hP (ci := 3) (q0 := 0) rfl rfl, bS_pre hP hK hD hN⟩ rfl rfl hl.1 rfl (lv_room (Nat.le_of_ble_eq_true rfl)) dX3_about_97 ⟨Nat.zero_le _, Nat.zero_le _⟩) hS (fun q _ h => zx_fW hD hS hA q h) (fun q h => zx_fW hD hS hA q h) (fun r u t H1 lc ht hvm hw hB hz1 hk1 hS => ?_)
              obtain ⟨hw1, hw2⟩ := Prod.mk.inj hw; subst hw1; subst hw2
              rw [ht] at hB
              replace hP := hB
              replace hD := xW3_D T18 hD
              rw [hQ]
              exact W.iret hx hb hr (fun t ht hW => ⟨⟨x17, T18, rfl, (Option.some.inj hM).symm, by show va_P D vwCl _ t.heap; rw [ht]; exact hP⟩, hS.F ht⟩) hS.2.2 dX3_about_100
            · replace hM := zx_f q16 hM
              by_cases q20 : v1 = 4
              · replace hM := zx_t q20 hM
                refine lv_tableIn (tgt := 101) hx hb dX3_about_27 (by rw [q20]; decide) (by rw [q20]; decide) (by rw [q20]; rfl) (by decide) ?_
                refine lv_aload_n hx hb dX3_about_101 rfl (lv_at hl 0 rfl) ?_
                obtain ⟨x21, T22, hz23, hM⟩ := zx_b2E hM
                refine va_calli (va_runV (As := []) (rest := []) ⟨hx, hb, hml, hown, hts⟩ (c_X3_areas l D cI cZ cT h ad T2 _ N  hz23) (cwV 0 hts (zg_V zw_15_3 zw_15_4 zw_15_5 zw_1_5 zw_15_6) rfl rfl rfl ⟨rfl, zyX3_areas⟩ ⟨Nat.le_of_ble_eq_true rfl, Nat.le_of_ble_eq_true rfl⟩) ⟨bS_blind, va_recv hK hP (ci := 3) (q0 := 0) rfl rfl, bS_pre hP hK hD hN⟩ rfl rfl hl.1 rfl (lv_room (Nat.le_of_ble_eq_true rfl)) dX3_about_102 ⟨Nat.zero_le _, Nat.zero_le _⟩) hS (fun q _ h => zx_fW hD hS hA q h) (fun q h => zx_fW hD hS hA q h) (fun r u t H1 lc ht hvm hw hB hz1 hk1 hS => ?_)
                obtain ⟨hw1, hw2⟩ := Prod.mk.inj hw; subst hw1; subst hw2
                rw [ht] at hB
                replace hP := hB
                replace hD := xW3_D T22 hD
                rw [hQ]
                exact W.iret hx hb hr (fun t ht hW => ⟨⟨x21, T22, rfl, (Option.some.inj hM).symm, by show va_P D vwCl _ t.heap; rw [ht]; exact hP⟩, hS.F ht⟩) hS.2.2 dX3_about_105
              · replace hM := zx_f q20 hM
                refine lv_tableOut (tgt := 106) hx hb dX3_about_27 (zx_sw (lo := 0) (hi := 4) (by decide) (by decide) (fun k h1 h2 => by rcases (show k = 0 ∨ k = 1 ∨ k = 2 ∨ k = 3 ∨ k = 4 by omega) with rfl | rfl | rfl | rfl | rfl <;> assumption)) (by decide) ?_
                refine lv_aload_n hx hb dX3_about_106 rfl (lv_at hl 0 rfl) ?_
                refine va_get (D := D) (ci := 3) (v := .ref (ad 1)) (C := RX3) (T := TX3) (N := 20) hx hb hts inlX3 hown hK hP 0 rfl rfl 3 (by decide) (hts _ zw_3_19) (fun _ h9 => h9) rfl dX3_about_107 ?_
                refine lv_sipush (v := 377) hx hb dX3_about_110 (by decide) ?_
                refine lv_iload_n hx hb dX3_about_113 rfl (lv_at hl 1 rfl) ?_
                refine lv_iadd hx hb dX3_about_114 ?_
                refine lv_iconst (v := 5) hx hb dX3_about_115 (by decide) ?_
                refine lv_isub hx hb dX3_about_116 ?_
                obtain ⟨x24, q25, ex24, hM⟩ := zx_rdE hM
                refine va_iald (D := D) hx hb hK hP 2 0 rfl rfl q25 dX3_about_117 ?_
                refine zx_top ex24 ?_
                rw [hQ]
                exact W.iret hx hb hr (fun t ht hW => ⟨⟨x24, T2, rfl, (Option.some.inj hM).symm, by show va_P D vwCl _ t.heap; rw [ht]; exact hP⟩, hS.F ht⟩) hS.2.2 dX3_about_118
    · replace hM := zx_f q4 hM
      refine lv_iconst (v := 0) hx hb dX3_about_24 (by decide) ?_
      rw [hQ]
      exact W.iret hx hb hr (fun t ht hW => ⟨⟨0, T2, rfl, (Option.some.inj hM).symm, by show va_P D vwCl _ t.heap; rw [ht]; exact hP⟩, hS.F ht⟩) hS.2.2 dX3_about_25
  refine lv_aload_n hx hb dX3_about_0 rfl (lv_at hl 0 rfl) ?_
  refine lv_iload_n hx hb dX3_about_1 rfl (lv_at hl 1 rfl) ?_
  refine lv_i2l hx hb dX3_about_2 rfl ?_
  refine lv_lconst (v := 0) hx hb dX3_about_3 (by decide) ?_
  refine lv_ldc2 (v := 7) hx hb hown (hts _ zw_14_12) dX3_about_4 ?_
  obtain ⟨x26, hz27, hM⟩ := zx_b1E hM
  refine va_calli (va_runS (As := [.long (Int32.toInt64 p1), .long 0, .long 7]) (rest := [.ref h]) ⟨hx, hb, hml, hown, hts⟩ (c_X3_in l D cI cZ cT _ N (Int32.toInt64 p1) 0 7 hz27) (va_cwS 3 hts (zg_S zw_5_11 zw_5_12 zw_1_5 zw_5_13) rfl rfl rfl zyX3_in ⟨Nat.le_of_ble_eq_true rfl, Nat.le_of_ble_eq_true rfl⟩) ⟨bS_blind, bS_pre (zx_P0 hP) hK (zx_D0 hD) hN⟩ rfl rfl hl.1 rfl (lv_room (Nat.le_of_ble_eq_true rfl)) dX3_about_7 ⟨Nat.zero_le _, Nat.zero_le _⟩) hS (fun q h1 h2 => absurd h1 (Nat.not_lt.mpr h2)) (fun q h => hA q (Nat.le_trans hS.1 h)) (fun r u t H1 lc ht hvm hw hB hz1 hk1 hS => ?_)
  replace hw : x26 = r := hw; subst hw
  replace hP := zx_keep hP hk1
  refine lv_if_eq (tgt := 17) hx hb dX3_about_10 (by decide) (fun q28 => ?_) (fun q28 => ?_)
  · replace hM := zx_t q28 hM
    refine lv_iconst (v := 1) hx hb dX3_about_17 (by decide) ?_
    exact j18 p1 1 S _ _ _ hP hD hS (lv_sub hl [0, 1] rfl) hM
  · replace hM := zx_f q28 hM
    refine lv_iconst (v := 0) hx hb dX3_about_13 (by decide) ?_
    refine lv_goto (tgt := 18) hx hb dX3_about_14 (by decide) ?_
    exact j18 p1 0 S _ _ _ hP hD hS (lv_sub hl [0, 1] rfl) hM

/-! ShallowBoxesModel.rectangle(II)I -/
def f_X3_rectangle_j33 (N : Nat) (v1 : Int32) (v2 : Int32) (t1 : Int32) (S_ : zx_S) : Option (Int32 × zx_S) :=
  (zx_b2 (f_X3_refused N t1 S_) (fun x1 T2 =>
(if x1 = 0 then
  (zx_b2 (f_X3_numberNodes N 1 T2) (fun x5 T6 =>
(if 4 ≤ v2 then
  (zx_b1 (f_X3_nodeWith N 380 v1 (T6 1)) (fun x9 =>
(zx_rd 32 (T6 9) x9 (fun x11 =>
some (x11, T6))))) else
  (zx_rd 380 (T6 1) (((5 * v1) + 1) + v2) (fun x13 =>
some (x13, T6)))))) else
  some (0, T2))))
def f_X3_rectangle (N : Nat) (p1 : Int32) (p2 : Int32) (S : zx_S) : Option (Int32 × zx_S) :=
  (zx_b1 (f_X3_isThere N 380 p1 (S 1)) (fun x15 =>
(if x15 = 0 then
  f_X3_rectangle_j33 N  p1 p2 1 S else
  (zx_b1 (f_X3_in N (Int32.toInt64 p2) 0 4) (fun x18 =>
(if x18 = 0 then
  f_X3_rectangle_j33 N  p1 p2 2 S else
  f_X3_rectangle_j33 N  p1 p2 0 S))))))
abbrev rmX3_rectangle : Room := { frames := 3, cells := 0, slots := 0, locals := 67 }
abbrev zsX3_rectangle : List Cond := .code yX3_rectangle cX3_rectangle 3 (some .int) :: wsL_law
theorem zyX3_rectangle : yX3_rectangle.cls ≠ "java/lang/invoke/MethodHandle" ∧ yX3_rectangle.cls ≠ "java/lang/invoke/VarHandle" ∧ (parseMethodDescriptor yX3_rectangle.desc).map (fun d => d.parameters.length) = some 2 := by decide +kernel
set_option maxHeartbeats 4000000 in
set_option maxRecDepth 100000 in
theorem c_X3_rectangle (l : Launch) (D : va_G) (cI cZ cT : ClassId) (h : Nat) (ad : Nat → Nat) (S : zx_S) (sz : Nat) (N : Nat) (p1 : Int32) (p2 : Int32) {R : Int32 × zx_S} (hM : f_X3_rectangle N p1 p2 S = some R) : Met l yX3_rectangle zsX3_rectangle rmX3_rectangle (va_Pc [.ref h, .int p1, .int p2] (bS D (zx_ty cI cZ cT) (xW3 cI cZ h ad S) sz)) (va_Qi (fun r u => R = (r, u)) (fun u t => va_P D vwCl (xW3 cI cZ h ad u) t.heap) (va_A (xW3 cI cZ h ad S) sz)) 0 0 (va_A (xW3 cI cZ h ad S) sz) := by
  refine Met.ofW (cc := cX3_rectangle) (maxL := 3) (ret := (some .int)) (by decide) rfl ?_
  intro p e s m args below meth c s₁ B hml hv
  obtain ⟨rfl, hsz, hP, hK, hD0, hN⟩ := hv
  have hx := B.exec
  have hb := B.bytes
  have hr := B.returns
  have hts : ∀ w ∈ wsL_law, w.before _ s = true := fun w hw => atoms_spec (ws := zsX3_rectangle) B.pre w (List.mem_cons_of_mem _ hw)
  have hown : s.vm.findClass RX3 = some m.cls := findClass_of_methodNamed B.named
  have hlocks := B.notSynchronized
  subst hsz
  have hD := hD0.self (sz := s.heap.size)
  generalize hAe : va_A (xW3 cI cZ h ad S) s.heap.size = A at hD ⊢
  have hA : ∀ q : Nat, s.heap.size ≤ q → A q := fun q h => by rw [← hAe]; exact Or.inr h
  have hS : va_S A s.heap s.heap [] := va_S.rf
  have hl := lv_entry ([.ref h, .int p1, .int p2]) (n := 3) (Nat.le_of_ble_eq_true rfl)
  rw [lg_entry_eq]
  generalize (lg_sl ([.ref h, .int p1, .int p2]) ++ List.replicate (3 - (lg_sl ([.ref h, .int p1, .int p2])).length) Slot.unset).toArray = ls at hl ⊢
  have hl : lv_has ls 3 [(0, .ref h), (1, .int p1), (2, .int p2)] := hl
  generalize hQ : MQ below (va_Qi (fun r u => R = (r, u)) (fun u t => va_P D vwCl (xW3 cI cZ h ad u) t.heap) A) ([.ref h, .int p1, .int p2] : List Value).toArray s 0 0 A = Q9
  replace hQ := hQ.symm
  unfold f_X3_rectangle at hM
  have j33 : ∀ (v1 : Int32) (v2 : Int32) (t1 : Int32) (S_ : zx_S) (H : Heap) (lc : List Loc) (ls : Array Slot), va_P D vwCl (xW3 cI cZ h ad S_) H → va_D A (xW3 cI cZ h ad S_) → va_S A s.heap H lc → lv_has ls 3 [(0, .ref h), (1, .int v1), (2, .int v2)] → f_X3_rectangle_j33 N v1 v2 t1 S_ = some R → W p l e (headSpec zsX3_rectangle rmX3_rectangle).room s m ([.ref h, .int p1, .int p2] : List Value).toArray below meth c H lc 0 0 Q9 (F0 m 33 ls [.int t1, .ref h]) := by
    intro v1 v2 t1 S_ H lc ls hP hD hS hl hM
    unfold f_X3_rectangle_j33 at hM
    obtain ⟨x1, T2, hz3, hM⟩ := zx_b2E hM
    refine va_calli (va_runV (As := [.int t1]) (rest := []) ⟨hx, hb, hml, hown, hts⟩ (c_X3_refused l D cI cZ cT h ad S_ _ N t1  hz3) (cwV 1 hts (zg_V zw_5_14 zw_5_15 zw_5_16 zw_1_5 zw_5_17) rfl rfl rfl ⟨rfl, zyX3_refused⟩ ⟨Nat.le_of_ble_eq_true rfl, Nat.le_of_ble_eq_true rfl⟩) ⟨bS_blind, va_recv hK hP (ci := 3) (q0 := 0) rfl rfl, bS_pre hP hK hD hN⟩ rfl rfl hl.1 rfl (lv_room (Nat.le_of_ble_eq_true rfl)) dX3_rectangle_33 ⟨Nat.zero_le _, Nat.zero_le _⟩) hS (fun q _ h => zx_fW hD hS hA q h) (fun q h => zx_fW hD hS hA q h) (fun r u t H1 lc ht hvm hw hB hz1 hk1 hS => ?_)
    obtain ⟨hw1, hw2⟩ := Prod.mk.inj hw; subst hw1; subst hw2
    rw [ht] at hB
    replace hP := hB
    replace hD := xW3_D T2 hD
    refine lv_if_eq (tgt := 41) hx hb dX3_rectangle_36 (by decide) (fun q4 => ?_) (fun q4 => ?_)
    · replace hM := zx_t q4 hM
      refine lv_aload_n hx hb dX3_rectangle_41 rfl (lv_at hl 0 rfl) ?_
      refine lv_aload_n hx hb dX3_rectangle_42 rfl (lv_at hl 0 rfl) ?_
      refine va_get (D := D) (ci := 3) (v := .ref (ad 1)) (C := RX3) (T := TX3) (N := 20) hx hb hts inlX3 hown hK hP 0 rfl rfl 3 (by decide) (hts _ zw_3_19) (fun _ h9 => h9) rfl dX3_rectangle_43 ?_
      obtain ⟨x5, T6, hz7, hM⟩ := zx_b2E hM
      refine va_calli (va_runV (As := [.ref (ad 1)]) (rest := []) ⟨hx, hb, hml, hown, hts⟩ (c_X3_numberNodes l D cI cZ cT h ad T2 _ N 1 (Or.inl rfl)  hz7) (cwV 1 hts (zg_V zw_16_18 zw_16_19 zw_16_20 zw_1_5 zw_16_21) rfl rfl rfl ⟨rfl, zyX3_numberNodes⟩ ⟨Nat.le_of_ble_eq_true rfl, Nat.le_of_ble_eq_true rfl⟩) ⟨bS_blind, va_recv hK hP (ci := 3) (q0 := 0) rfl rfl, bS_pre hP hK hD hN⟩ rfl rfl hl.1 rfl (lv_room (Nat.le_of_ble_eq_true rfl)) dX3_rectangle_46 ⟨Nat.zero_le _, Nat.zero_le _⟩) hS (fun q _ h => zx_fW hD hS hA q h) (fun q h => zx_fW hD hS hA q h) (fun r u t H1 lc ht hvm hw hB hz1 hk1 hS => ?_)
      obtain ⟨hw1, hw2⟩ := Prod.mk.inj hw; subst hw1; subst hw2
      rw [ht] at hB
      replace hP := hB
      replace hD := xW3_D T6 hD
      refine lv_pop hx hb dX3_rectangle_49 rfl ?_
      refine lv_iload_n hx hb dX3_rectangle_50 rfl (lv_at hl 2 rfl) ?_
      refine lv_iconst (v := 4) hx hb dX3_rectangle_51 (by decide) ?_
      refine lv_icmp_ge (tgt := 70) hx hb dX3_rectangle_52 (by decide) (fun q8 => ?_) (fun q8 => ?_)
      · replace hM := zx_t q8 hM
        refine lv_aload_n hx hb dX3_rectangle_70 rfl (lv_at hl 0 rfl) ?_
        refine va_get (D := D) (ci := 3) (v := .ref (ad 9)) (C := RX3) (T := TX3) (N := 20) hx hb hts inlX3 hown hK hP 0 rfl rfl 15 (by decide) (hts _ zw_4_4) (fun _ h9 => h9) rfl dX3_rectangle_71 ?_
        refine lv_aload_n hx hb dX3_rectangle_74 rfl (lv_at hl 0 rfl) ?_
        refine va_get (D := D) (ci := 3) (v := .ref (ad 1)) (C := RX3) (T := TX3) (N := 20) hx hb hts inlX3 hown hK hP 0 rfl rfl 3 (by decide) (hts _ zw_3_19) (fun _ h9 => h9) rfl dX3_rectangle_75 ?_
        refine lv_iload_n hx hb dX3_rectangle_78 rfl (lv_at hl 1 rfl) ?_
        obtain ⟨x9, hz10, hM⟩ := zx_b1E hM
        refine va_calli (va_runS (As := [.ref (ad 1), .int v1]) (rest := [.ref (ad 9)]) ⟨hx, hb, hml, hown, hts⟩ (c_X3_nodeWith l D cI cZ cT (ad 1) 380 (T6 1) _ N v1 hz10) (va_cwS 2 hts (zg_S zw_11_8 zw_11_9 zw_1_5 zw_11_10) rfl rfl rfl zyX3_nodeWith ⟨Nat.le_of_ble_eq_true rfl, Nat.le_of_ble_eq_true rfl⟩) ⟨bS_blind, bS_pre (zx_P1 hP 2 (rfl)) hK (zx_D1 hD 2 (rfl)) hN⟩ rfl rfl hl.1 rfl (lv_room (Nat.le_of_ble_eq_true rfl)) dX3_rectangle_79 ⟨Nat.zero_le _, Nat.zero_le _⟩) hS (fun q h1 h2 => absurd h1 (Nat.not_lt.mpr h2)) (fun q h => hA q (Nat.le_trans hS.1 h)) (fun r u t H1 lc ht hvm hw hB hz1 hk1 hS => ?_)
        replace hw : x9 = r := hw; subst hw
        replace hP := zx_keep hP hk1
        obtain ⟨x11, q12, ex11, hM⟩ := zx_rdE hM
        refine va_iald (D := D) hx hb hK hP 10 0 rfl rfl q12 dX3_rectangle_82 ?_
        refine zx_top ex11 ?_
        rw [hQ]
        exact W.iret hx hb hr (fun t ht hW => ⟨⟨x11, T6, rfl, (Option.some.inj hM).symm, by show va_P D vwCl _ t.heap; rw [ht]; exact hP⟩, hS.F ht⟩) hS.2.2 dX3_rectangle_83
      · replace hM := zx_f q8 hM
        refine lv_aload_n hx hb dX3_rectangle_55 rfl (lv_at hl 0 rfl) ?_
        refine va_get (D := D) (ci := 3) (v := .ref (ad 1)) (C := RX3) (T := TX3) (N := 20) hx hb hts inlX3 hown hK hP 0 rfl rfl 3 (by decide) (hts _ zw_3_19) (fun _ h9 => h9) rfl dX3_rectangle_56 ?_
        refine lv_iconst (v := 5) hx hb dX3_rectangle_59 (by decide) ?_
        refine lv_iload_n hx hb dX3_rectangle_60 rfl (lv_at hl 1 rfl) ?_
        refine lv_imul hx hb dX3_rectangle_61 ?_
        refine lv_iconst (v := 1) hx hb dX3_rectangle_62 (by decide) ?_
        refine lv_iadd hx hb dX3_rectangle_63 ?_
        refine lv_iload_n hx hb dX3_rectangle_64 rfl (lv_at hl 2 rfl) ?_
        refine lv_iadd hx hb dX3_rectangle_65 ?_
        obtain ⟨x13, q14, ex13, hM⟩ := zx_rdE hM
        refine va_iald (D := D) hx hb hK hP 2 0 rfl rfl q14 dX3_rectangle_66 ?_
        refine zx_top ex13 ?_
        refine lv_goto (tgt := 83) hx hb dX3_rectangle_67 (by decide) ?_
        rw [hQ]
        exact W.iret hx hb hr (fun t ht hW => ⟨⟨x13, T6, rfl, (Option.some.inj hM).symm, by show va_P D vwCl _ t.heap; rw [ht]; exact hP⟩, hS.F ht⟩) hS.2.2 dX3_rectangle_83
    · replace hM := zx_f q4 hM
      refine lv_iconst (v := 0) hx hb dX3_rectangle_39 (by decide) ?_
      rw [hQ]
      exact W.iret hx hb hr (fun t ht hW => ⟨⟨0, T2, rfl, (Option.some.inj hM).symm, by show va_P D vwCl _ t.heap; rw [ht]; exact hP⟩, hS.F ht⟩) hS.2.2 dX3_rectangle_40
  refine lv_aload_n hx hb dX3_rectangle_0 rfl (lv_at hl 0 rfl) ?_
  refine lv_aload_n hx hb dX3_rectangle_1 rfl (lv_at hl 0 rfl) ?_
  refine va_get (D := D) (ci := 3) (v := .ref (ad 1)) (C := RX3) (T := TX3) (N := 20) hx hb hts inlX3 hown hK hP 0 rfl rfl 3 (by decide) (hts _ zw_3_19) (fun _ h9 => h9) rfl dX3_rectangle_2 ?_
  refine lv_iload_n hx hb dX3_rectangle_5 rfl (lv_at hl 1 rfl) ?_
  obtain ⟨x15, hz16, hM⟩ := zx_b1E hM
  refine va_calli (va_runS (As := [.ref (ad 1), .int p1]) (rest := [.ref h]) ⟨hx, hb, hml, hown, hts⟩ (c_X3_isThere l D cI cZ cT (ad 1) 380 (S 1) _ N p1 hz16) (va_cwS 2 hts (zg_S zw_16_14 zw_16_15 zw_1_5 zw_16_16) rfl rfl rfl zyX3_isThere ⟨Nat.le_of_ble_eq_true rfl, Nat.le_of_ble_eq_true rfl⟩) ⟨bS_blind, bS_pre (zx_P1 hP 2 (rfl)) hK (zx_D1 hD 2 (rfl)) hN⟩ rfl rfl hl.1 rfl (lv_room (Nat.le_of_ble_eq_true rfl)) dX3_rectangle_6 ⟨Nat.zero_le _, Nat.zero_le _⟩) hS (fun q h1 h2 => absurd h1 (Nat.not_lt.mpr h2)) (fun q h => hA q (Nat.le_trans hS.1 h)) (fun r u t H1 lc ht hvm hw hB hz1 hk1 hS => ?_)
  replace hw : x15 = r := hw; subst hw
  replace hP := zx_keep hP hk1
  refine lv_if_ne (tgt := 16) hx hb dX3_rectangle_9 (by decide) (fun q17 => ?_) (fun q17 => ?_)
  · replace hM := zx_f q17 hM
    refine lv_iload_n hx hb dX3_rectangle_16 rfl (lv_at hl 2 rfl) ?_
    refine lv_i2l hx hb dX3_rectangle_17 rfl ?_
    refine lv_lconst (v := 0) hx hb dX3_rectangle_18 (by decide) ?_
    refine lv_ldc2 (v := 4) hx hb hown (hts _ zw_16_13) dX3_rectangle_19 ?_
    obtain ⟨x18, hz19, hM⟩ := zx_b1E hM
    refine va_calli (va_runS (As := [.long (Int32.toInt64 p2), .long 0, .long 4]) (rest := [.ref h]) ⟨hx, hb, hml, hown, hts⟩ (c_X3_in l D cI cZ cT _ N (Int32.toInt64 p2) 0 4 hz19) (va_cwS 3 hts (zg_S zw_5_11 zw_5_12 zw_1_5 zw_5_13) rfl rfl rfl zyX3_in ⟨Nat.le_of_ble_eq_true rfl, Nat.le_of_ble_eq_true rfl⟩) ⟨bS_blind, bS_pre (zx_P0 hP) hK (zx_D0 hD) hN⟩ rfl rfl hl.1 rfl (lv_room (Nat.le_of_ble_eq_true rfl)) dX3_rectangle_22 ⟨Nat.zero_le _, Nat.zero_le _⟩) hS (fun q h1 h2 => absurd h1 (Nat.not_lt.mpr h2)) (fun q h => hA q (Nat.le_trans hS.1 h)) (fun r u t H1 lc ht hvm hw hB hz1 hk1 hS => ?_)
    replace hw : x18 = r := hw; subst hw
    replace hP := zx_keep hP hk1
    refine lv_if_eq (tgt := 32) hx hb dX3_rectangle_25 (by decide) (fun q20 => ?_) (fun q20 => ?_)
    · replace hM := zx_t q20 hM
      refine lv_iconst (v := 2) hx hb dX3_rectangle_32 (by decide) ?_
      exact j33 p1 p2 2 S _ _ _ hP hD hS (lv_sub hl [0, 1, 2] rfl) hM
    · replace hM := zx_f q20 hM
      refine lv_iconst (v := 0) hx hb dX3_rectangle_28 (by decide) ?_
      refine lv_goto (tgt := 33) hx hb dX3_rectangle_29 (by decide) ?_
      exact j33 p1 p2 0 S _ _ _ hP hD hS (lv_sub hl [0, 1, 2] rfl) hM
  · replace hM := zx_t q17 hM
    refine lv_iconst (v := 1) hx hb dX3_rectangle_12 (by decide) ?_
    refine lv_goto (tgt := 33) hx hb dX3_rectangle_13 (by decide) ?_
    exact j33 p1 p2 1 S _ _ _ hP hD hS (lv_sub hl [0, 1, 2] rfl) hM
