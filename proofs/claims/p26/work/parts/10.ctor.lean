/-! the array classes are the ones that are known -/
theorem zx_cI {D : va_G} {cI cZ cT cA : ClassId} {s : State} (h : va_K D vwCl (zx_ty cI cZ cT ++ [(cA, .int)]) s) : cA = cI := by
  have h1 : s.vm.findClass ("[" ++ FieldType.int.toString) = some cI := (h.2 0 _ rfl).2
  have h2 : s.vm.findClass ("[" ++ FieldType.int.toString) = some cA := (h.2 3 _ rfl).2
  exact Option.some.inj (h2.symm.trans h1)
theorem zx_cT {D : va_G} {cI cZ cT cA : ClassId} {s : State} (h : va_K D vwCl (zx_ty cI cZ cT ++ [(cA, .object RX1)]) s) : cA = cT := by
  obtain ⟨-, -, -, -, -, h1⟩ := (h.2 2 _ rfl).2
  obtain ⟨-, -, -, -, -, h2⟩ := (h.2 3 _ rfl).2
  exact Option.some.inj (h2.symm.trans h1)
/-! ShallowBoxes$RectangleText() -/
abbrev zsX0_init : List Cond := .code yX0_init cX0_init 1 none :: wsL_law
theorem zyX0_init : yX0_init.cls ≠ "java/lang/invoke/MethodHandle" ∧ yX0_init.cls ≠ "java/lang/invoke/VarHandle" ∧ (parseMethodDescriptor yX0_init.desc).map (fun d => d.parameters.length) = some 0 := by decide +kernel
abbrev rmX0_init : Room := { frames := 1, cells := 2, slots := 156, locals := 20 }
set_option maxHeartbeats 4000000 in
set_option maxRecDepth 100000 in
theorem c_X0_init (l : Launch) (D : va_G) (cI cZ cT : ClassId) (h : Nat) (sz : Nat) (N : Nat) : Met l yX0_init zsX0_init rmX0_init (va_Pc [.ref h] (bS D (zx_ty cI cZ cT) [(h, .inr (0, [.null, .int 0, .null, .int 0, .int 0, .int 0]))] sz)) (va_Qv (fun _ : Nat → Nat => True) (fun ad t => va_P D vwCl (xW0 cI h ad (fun _ _ => 0)) t.heap ∧ va_D (va_A [(h, .inr (0, [.null, .int 0, .null, .int 0, .int 0, .int 0]))] sz) (xW0 cI h ad (fun _ _ => 0))) (va_A [(h, .inr (0, [.null, .int 0, .null, .int 0, .int 0, .int 0]))] sz)) 2 156 (va_A [(h, .inr (0, [.null, .int 0, .null, .int 0, .int 0, .int 0]))] sz) := by
  refine Met.ofW (cc := cX0_init) (maxL := 1) (ret := none) (by decide) rfl ?_
  intro p e s m args below meth c s₁ B hml hv
  obtain ⟨rfl, hsz, hP, hK, hD0, hN⟩ := hv
  have hx := B.exec
  have hb := B.bytes
  have hr := B.returns
  have hts : ∀ w ∈ wsL_law, w.before _ s = true := fun w hw => atoms_spec (ws := zsX0_init) B.pre w (List.mem_cons_of_mem _ hw)
  have hown : s.vm.findClass RX0 = some m.cls := findClass_of_methodNamed B.named
  have hlocks := B.notSynchronized
  have hin : meth.name = "<init>" := (name_of_methodNamed B.named B.method).1
  subst hsz
  have hD := hD0.self (sz := s.heap.size)
  generalize hAe : va_A [(h, .inr (0, [.null, .int 0, .null, .int 0, .int 0, .int 0]))] s.heap.size = A at hD ⊢
  have hA : ∀ q : Nat, s.heap.size ≤ q → A q := fun q h => by rw [← hAe]; exact Or.inr h
  have hS : va_S A s.heap s.heap [] := va_S.rf
  have hl := lv_entry ([.ref h]) (n := 1) (Nat.le_of_ble_eq_true rfl)
  rw [lg_entry_eq]
  generalize (lg_sl ([.ref h]) ++ List.replicate (1 - (lg_sl ([.ref h])).length) Slot.unset).toArray = ls at hl ⊢
  have hl : lv_has ls 1 [(0, .ref h)] := hl
  refine lv_aload_n hx hb dX0_init_0 rfl (lv_at hl 0 rfl) ?_
  refine W.objInit hx hb hown (hts _ zw_3_9) (hts _ zw_1_10) (hts _ zw_1_11) rfl (by rw [hml]; exact hl.1) rfl dX0_init_1 (Nat.le_of_ble_eq_true rfl) (Nat.le_of_ble_eq_true rfl) ?_
  refine W.eq (g2 := F0 m 4 ls []) rfl ?_
  refine lv_aload_n hx hb dX0_init_4 rfl (lv_at hl 0 rfl) ?_
  refine lv_bipush (v := 100) hx hb dX0_init_5 (by decide) ?_
  refine va_newa (atype := .int) (ty := .int) (N' := 100) (a0 := (100, .inl (fun _ => 0))) hx hb (hts _ zw_1_19) rfl hK hP hD hS hA (fun _ => rfl) (by decide) (by decide) (by decide) (Nat.le_of_ble_eq_true rfl) (Nat.le_of_ble_eq_true rfl) dX0_init_7 (fun q0 cA H hK2 hP hD hS => ?_)
  rw [zx_cI hK2] at hP hD
  replace hP : va_P D vwCl [(h, .inr (0, [.null, .int 0, .null, .int 0, .int 0, .int 0])), (q0, .inl (cI, 100, .inl (fun _ => 0)))] H := hP
  replace hD : va_D A [(h, .inr (0, [.null, .int 0, .null, .int 0, .int 0, .int 0])), (q0, .inl (cI, 100, .inl (fun _ => 0)))] := hD
  refine va_putF (D := D) (ci := 0) (v := .ref q0) (ty := .array .int) (C := RX0) (T := TX0) (N := 6) hx hb hts inlX0 tyX0 tyX0_ok nmX0 hown hK hP hD hS 0 rfl rfl 0 (by decide) (hts _ zw_3_10) (fun _ h9 => h9) rfl hin rfl (by decide +kernel) rfl rfl (Nat.le_of_ble_eq_true rfl) dX0_init_9 (fun H lc hP hD hS => ?_)
  replace hP : va_P D vwCl [(h, .inr (0, [.ref q0, .int 0, .null, .int 0, .int 0, .int 0])), (q0, .inl (cI, 100, .inl (fun _ => 0)))] H := hP
  replace hD : va_D A [(h, .inr (0, [.ref q0, .int 0, .null, .int 0, .int 0, .int 0])), (q0, .inl (cI, 100, .inl (fun _ => 0)))] := hD
  refine lv_aload_n hx hb dX0_init_12 rfl (lv_at hl 0 rfl) ?_
  refine lv_bipush (v := 56) hx hb dX0_init_13 (by decide) ?_
  refine va_newa (atype := .int) (ty := .int) (N' := 56) (a0 := (56, .inl (fun _ => 0))) hx hb (hts _ zw_1_19) rfl hK hP hD hS hA (fun _ => rfl) (by decide) (by decide) (by decide) (Nat.le_of_ble_eq_true rfl) (Nat.le_of_ble_eq_true rfl) dX0_init_15 (fun q1 cA H hK2 hP hD hS => ?_)
  rw [zx_cI hK2] at hP hD
  replace hP : va_P D vwCl [(h, .inr (0, [.ref q0, .int 0, .null, .int 0, .int 0, .int 0])), (q0, .inl (cI, 100, .inl (fun _ => 0))), (q1, .inl (cI, 56, .inl (fun _ => 0)))] H := hP
  replace hD : va_D A [(h, .inr (0, [.ref q0, .int 0, .null, .int 0, .int 0, .int 0])), (q0, .inl (cI, 100, .inl (fun _ => 0))), (q1, .inl (cI, 56, .inl (fun _ => 0)))] := hD
  refine va_putF (D := D) (ci := 0) (v := .ref q1) (ty := .array .int) (C := RX0) (T := TX0) (N := 6) hx hb hts inlX0 tyX0 tyX0_ok nmX0 hown hK hP hD hS 0 rfl rfl 2 (by decide) (hts _ zw_3_11) (fun _ h9 => h9) rfl hin rfl (by decide +kernel) rfl rfl (Nat.le_of_ble_eq_true rfl) dX0_init_17 (fun H lc hP hD hS => ?_)
  replace hP : va_P D vwCl [(h, .inr (0, [.ref q0, .int 0, .ref q1, .int 0, .int 0, .int 0])), (q0, .inl (cI, 100, .inl (fun _ => 0))), (q1, .inl (cI, 56, .inl (fun _ => 0)))] H := hP
  replace hD : va_D A [(h, .inr (0, [.ref q0, .int 0, .ref q1, .int 0, .int 0, .int 0])), (q0, .inl (cI, 100, .inl (fun _ => 0))), (q1, .inl (cI, 56, .inl (fun _ => 0)))] := hD
  obtain ⟨ad, had⟩ : ∃ ad : Nat → Nat, ad = fun j => ([q0, q1] : List Nat).getD j 0 := ⟨_, rfl⟩
  replace hP : va_P D vwCl (xW0 cI h ad (fun _ _ => 0)) H := by subst had; exact hP
  replace hD : va_D A (xW0 cI h ad (fun _ _ => 0)) := by subst had; exact hD
  refine W.widen (k := 2) (n := 156) (Nat.le_of_ble_eq_true rfl) (Nat.le_of_ble_eq_true rfl) ?_
  exact W.vret hx hb hr (fun t ht hW => ⟨⟨ad, rfl, trivial, by show va_P D vwCl _ t.heap; rw [ht]; exact hP, hD⟩, hS.F ht⟩) hS.2.2 dX0_init_20

/-! ShallowBoxes$Tree() -/
abbrev zsX1_init : List Cond := .code yX1_init cX1_init 1 none :: wsL_law
theorem zyX1_init : yX1_init.cls ≠ "java/lang/invoke/MethodHandle" ∧ yX1_init.cls ≠ "java/lang/invoke/VarHandle" ∧ (parseMethodDescriptor yX1_init.desc).map (fun d => d.parameters.length) = some 0 := by decide +kernel
abbrev rmX1_init : Room := { frames := 3, cells := 10, slots := 657, locals := 65 }
set_option maxHeartbeats 4000000 in
set_option maxRecDepth 100000 in
theorem c_X1_init (l : Launch) (D : va_G) (cI cZ cT : ClassId) (h : Nat) (sz : Nat) (N : Nat) {R : zx_S} (hM : f_X1_clear N (fun _ _ => 0) = some R) : Met l yX1_init zsX1_init rmX1_init (va_Pc [.ref h] (bS D (zx_ty cI cZ cT) [(h, .inr (1, [.null, .null, .null, .null, .null, .int 0, .int 0, .int 0, .int 0, .null, .null, .null, .null, .null]))] sz)) (va_Qv (fun _ : Nat → Nat => True) (fun ad t => va_P D vwCl (xW1 cI h ad R) t.heap ∧ va_D (va_A [(h, .inr (1, [.null, .null, .null, .null, .null, .int 0, .int 0, .int 0, .int 0, .null, .null, .null, .null, .null]))] sz) (xW1 cI h ad R)) (va_A [(h, .inr (1, [.null, .null, .null, .null, .null, .int 0, .int 0, .int 0, .int 0, .null, .null, .null, .null, .null]))] sz)) 10 657 (va_A [(h, .inr (1, [.null, .null, .null, .null, .null, .int 0, .int 0, .int 0, .int 0, .null, .null, .null, .null, .null]))] sz) := by
  refine Met.ofW (cc := cX1_init) (maxL := 1) (ret := none) (by decide) rfl ?_
  intro p e s m args below meth c s₁ B hml hv
  obtain ⟨rfl, hsz, hP, hK, hD0, hN⟩ := hv
  have hx := B.exec
  have hb := B.bytes
  have hr := B.returns
  have hts : ∀ w ∈ wsL_law, w.before _ s = true := fun w hw => atoms_spec (ws := zsX1_init) B.pre w (List.mem_cons_of_mem _ hw)
  have hown : s.vm.findClass RX1 = some m.cls := findClass_of_methodNamed B.named
  have hlocks := B.notSynchronized
  have hin : meth.name = "<init>" := (name_of_methodNamed B.named B.method).1
  subst hsz
  have hD := hD0.self (sz := s.heap.size)
  generalize hAe : va_A [(h, .inr (1, [.null, .null, .null, .null, .null, .int 0, .int 0, .int 0, .int 0, .null, .null, .null, .null, .null]))] s.heap.size = A at hD ⊢
  have hA : ∀ q : Nat, s.heap.size ≤ q → A q := fun q h => by rw [← hAe]; exact Or.inr h
  have hS : va_S A s.heap s.heap [] := va_S.rf
  have hl := lv_entry ([.ref h]) (n := 1) (Nat.le_of_ble_eq_true rfl)
  rw [lg_entry_eq]
  generalize (lg_sl ([.ref h]) ++ List.replicate (1 - (lg_sl ([.ref h])).length) Slot.unset).toArray = ls at hl ⊢
  have hl : lv_has ls 1 [(0, .ref h)] := hl
  refine lv_aload_n hx hb dX1_init_0 rfl (lv_at hl 0 rfl) ?_
  refine W.objInit hx hb hown (hts _ zw_2_4) (hts _ zw_1_10) (hts _ zw_1_11) rfl (by rw [hml]; exact hl.1) rfl dX1_init_1 (Nat.le_of_ble_eq_true rfl) (Nat.le_of_ble_eq_true rfl) ?_
  refine W.eq (g2 := F0 m 4 ls []) rfl ?_
  refine lv_aload_n hx hb dX1_init_4 rfl (lv_at hl 0 rfl) ?_
  refine lv_sipush (v := 196) hx hb dX1_init_5 (by decide) ?_
  refine va_newa (atype := .int) (ty := .int) (N' := 196) (a0 := (196, .inl (fun _ => 0))) hx hb (hts _ zw_1_19) rfl hK hP hD hS hA (fun _ => rfl) (by decide) (by decide) (by decide) (Nat.le_of_ble_eq_true rfl) (Nat.le_of_ble_eq_true rfl) dX1_init_8 (fun q0 cA H hK2 hP hD hS => ?_)
  rw [zx_cI hK2] at hP hD
  replace hP : va_P D vwCl [(h, .inr (1, [.null, .null, .null, .null, .null, .int 0, .int 0, .int 0, .int 0, .null, .null, .null, .null, .null])), (q0, .inl (cI, 196, .inl (fun _ => 0)))] H := hP
  replace hD : va_D A [(h, .inr (1, [.null, .null, .null, .null, .null, .int 0, .int 0, .int 0, .int 0, .null, .null, .null, .null, .null])), (q0, .inl (cI, 196, .inl (fun _ => 0)))] := hD
  refine va_putF (D := D) (ci := 1) (v := .ref q0) (ty := .array .int) (C := RX1) (T := TX1) (N := 14) hx hb hts inlX1 tyX1 tyX1_ok nmX1 hown hK hP hD hS 0 rfl rfl 0 (by decide) (hts _ zw_2_5) (fun _ h9 => h9) rfl hin rfl (by decide +kernel) rfl rfl (Nat.le_of_ble_eq_true rfl) dX1_init_10 (fun H lc hP hD hS => ?_)
  replace hP : va_P D vwCl [(h, .inr (1, [.ref q0, .null, .null, .null, .null, .int 0, .int 0, .int 0, .int 0, .null, .null, .null, .null, .null])), (q0, .inl (cI, 196, .inl (fun _ => 0)))] H := hP
  replace hD : va_D A [(h, .inr (1, [.ref q0, .null, .null, .null, .null, .int 0, .int 0, .int 0, .int 0, .null, .null, .null, .null, .null])), (q0, .inl (cI, 196, .inl (fun _ => 0)))] := hD
  refine lv_aload_n hx hb dX1_init_13 rfl (lv_at hl 0 rfl) ?_
  refine lv_bipush (v := 49) hx hb dX1_init_14 (by decide) ?_
  refine va_newa (atype := .int) (ty := .int) (N' := 49) (a0 := (49, .inl (fun _ => 0))) hx hb (hts _ zw_1_19) rfl hK hP hD hS hA (fun _ => rfl) (by decide) (by decide) (by decide) (Nat.le_of_ble_eq_true rfl) (Nat.le_of_ble_eq_true rfl) dX1_init_16 (fun q1 cA H hK2 hP hD hS => ?_)
  rw [zx_cI hK2] at hP hD
  replace hP : va_P D vwCl [(h, .inr (1, [.ref q0, .null, .null, .null, .null, .int 0, .int 0, .int 0, .int 0, .null, .null, .null, .null, .null])), (q0, .inl (cI, 196, .inl (fun _ => 0))), (q1, .inl (cI, 49, .inl (fun _ => 0)))] H := hP
  replace hD : va_D A [(h, .inr (1, [.ref q0, .null, .null, .null, .null, .int 0, .int 0, .int 0, .int 0, .null, .null, .null, .null, .null])), (q0, .inl (cI, 196, .inl (fun _ => 0))), (q1, .inl (cI, 49, .inl (fun _ => 0)))] := hD
  refine va_putF (D := D) (ci := 1) (v := .ref q1) (ty := .array .int) (C := RX1) (T := TX1) (N := 14) hx hb hts inlX1 tyX1 tyX1_ok nmX1 hown hK hP hD hS 0 rfl rfl 1 (by decide) (hts _ zw_2_6) (fun _ h9 => h9) rfl hin rfl (by decide +kernel) rfl rfl (Nat.le_of_ble_eq_true rfl) dX1_init_18 (fun H lc hP hD hS => ?_)
  replace hP : va_P D vwCl [(h, .inr (1, [.ref q0, .ref q1, .null, .null, .null, .int 0, .int 0, .int 0, .int 0, .null, .null, .null, .null, .null])), (q0, .inl (cI, 196, .inl (fun _ => 0))), (q1, .inl (cI, 49, .inl (fun _ => 0)))] H := hP
  replace hD : va_D A [(h, .inr (1, [.ref q0, .ref q1, .null, .null, .null, .int 0, .int 0, .int 0, .int 0, .null, .null, .null, .null, .null])), (q0, .inl (cI, 196, .inl (fun _ => 0))), (q1, .inl (cI, 49, .inl (fun _ => 0)))] := hD
  refine lv_aload_n hx hb dX1_init_21 rfl (lv_at hl 0 rfl) ?_
  refine lv_bipush (v := 49) hx hb dX1_init_22 (by decide) ?_
  refine va_newa (atype := .int) (ty := .int) (N' := 49) (a0 := (49, .inl (fun _ => 0))) hx hb (hts _ zw_1_19) rfl hK hP hD hS hA (fun _ => rfl) (by decide) (by decide) (by decide) (Nat.le_of_ble_eq_true rfl) (Nat.le_of_ble_eq_true rfl) dX1_init_24 (fun q2 cA H hK2 hP hD hS => ?_)
  rw [zx_cI hK2] at hP hD
  replace hP : va_P D vwCl [(h, .inr (1, [.ref q0, .ref q1, .null, .null, .null, .int 0, .int 0, .int 0, .int 0, .null, .null, .null, .null, .null])), (q0, .inl (cI, 196, .inl (fun _ => 0))), (q1, .inl (cI, 49, .inl (fun _ => 0))), (q2, .inl (cI, 49, .inl (fun _ => 0)))] H := hP
  replace hD : va_D A [(h, .inr (1, [.ref q0, .ref q1, .null, .null, .null, .int 0, .int 0, .int 0, .int 0, .null, .null, .null, .null, .null])), (q0, .inl (cI, 196, .inl (fun _ => 0))), (q1, .inl (cI, 49, .inl (fun _ => 0))), (q2, .inl (cI, 49, .inl (fun _ => 0)))] := hD
  refine va_putF (D := D) (ci := 1) (v := .ref q2) (ty := .array .int) (C := RX1) (T := TX1) (N := 14) hx hb hts inlX1 tyX1 tyX1_ok nmX1 hown hK hP hD hS 0 rfl rfl 2 (by decide) (hts _ zw_2_7) (fun _ h9 => h9) rfl hin rfl (by decide +kernel) rfl rfl (Nat.le_of_ble_eq_true rfl) dX1_init_26 (fun H lc hP hD hS => ?_)
  replace hP : va_P D vwCl [(h, .inr (1, [.ref q0, .ref q1, .ref q2, .null, .null, .int 0, .int 0, .int 0, .int 0, .null, .null, .null, .null, .null])), (q0, .inl (cI, 196, .inl (fun _ => 0))), (q1, .inl (cI, 49, .inl (fun _ => 0))), (q2, .inl (cI, 49, .inl (fun _ => 0)))] H := hP
  replace hD : va_D A [(h, .inr (1, [.ref q0, .ref q1, .ref q2, .null, .null, .int 0, .int 0, .int 0, .int 0, .null, .null, .null, .null, .null])), (q0, .inl (cI, 196, .inl (fun _ => 0))), (q1, .inl (cI, 49, .inl (fun _ => 0))), (q2, .inl (cI, 49, .inl (fun _ => 0)))] := hD
  refine lv_aload_n hx hb dX1_init_29 rfl (lv_at hl 0 rfl) ?_
  refine lv_bipush (v := 49) hx hb dX1_init_30 (by decide) ?_
  refine va_newa (atype := .int) (ty := .int) (N' := 49) (a0 := (49, .inl (fun _ => 0))) hx hb (hts _ zw_1_19) rfl hK hP hD hS hA (fun _ => rfl) (by decide) (by decide) (by decide) (Nat.le_of_ble_eq_true rfl) (Nat.le_of_ble_eq_true rfl) dX1_init_32 (fun q3 cA H hK2 hP hD hS => ?_)
  rw [zx_cI hK2] at hP hD
  replace hP : va_P D vwCl [(h, .inr (1, [.ref q0, .ref q1, .ref q2, .null, .null, .int 0, .int 0, .int 0, .int 0, .null, .null, .null, .null, .null])), (q0, .inl (cI, 196, .inl (fun _ => 0))), (q1, .inl (cI, 49, .inl (fun _ => 0))), (q2, .inl (cI, 49, .inl (fun _ => 0))), (q3, .inl (cI, 49, .inl (fun _ => 0)))] H := hP
  replace hD : va_D A [(h, .inr (1, [.ref q0, .ref q1, .ref q2, .null, .null, .int 0, .int 0, .int 0, .int 0, .null, .null, .null, .null, .null])), (q0, .inl (cI, 196, .inl (fun _ => 0))), (q1, .inl (cI, 49, .inl (fun _ => 0))), (q2, .inl (cI, 49, .inl (fun _ => 0))), (q3, .inl (cI, 49, .inl (fun _ => 0)))] := hD
  refine va_putF (D := D) (ci := 1) (v := .ref q3) (ty := .array .int) (C := RX1) (T := TX1) (N := 14) hx hb hts inlX1 tyX1 tyX1_ok nmX1 hown hK hP hD hS 0 rfl rfl 3 (by decide) (hts _ zw_2_8) (fun _ h9 => h9) rfl hin rfl (by decide +kernel) rfl rfl (Nat.le_of_ble_eq_true rfl) dX1_init_34 (fun H lc hP hD hS => ?_)
  replace hP : va_P D vwCl [(h, .inr (1, [.ref q0, .ref q1, .ref q2, .ref q3, .null, .int 0, .int 0, .int 0, .int 0, .null, .null, .null, .null, .null])), (q0, .inl (cI, 196, .inl (fun _ => 0))), (q1, .inl (cI, 49, .inl (fun _ => 0))), (q2, .inl (cI, 49, .inl (fun _ => 0))), (q3, .inl (cI, 49, .inl (fun _ => 0)))] H := hP
  replace hD : va_D A [(h, .inr (1, [.ref q0, .ref q1, .ref q2, .ref q3, .null, .int 0, .int 0, .int 0, .int 0, .null, .null, .null, .null, .null])), (q0, .inl (cI, 196, .inl (fun _ => 0))), (q1, .inl (cI, 49, .inl (fun _ => 0))), (q2, .inl (cI, 49, .inl (fun _ => 0))), (q3, .inl (cI, 49, .inl (fun _ => 0)))] := hD
  refine lv_aload_n hx hb dX1_init_37 rfl (lv_at hl 0 rfl) ?_
  refine lv_sipush (v := 245) hx hb dX1_init_38 (by decide) ?_
  refine va_newa (atype := .int) (ty := .int) (N' := 245) (a0 := (245, .inl (fun _ => 0))) hx hb (hts _ zw_1_19) rfl hK hP hD hS hA (fun _ => rfl) (by decide) (by decide) (by decide) (Nat.le_of_ble_eq_true rfl) (Nat.le_of_ble_eq_true rfl) dX1_init_41 (fun q4 cA H hK2 hP hD hS => ?_)
  rw [zx_cI hK2] at hP hD
  replace hP : va_P D vwCl [(h, .inr (1, [.ref q0, .ref q1, .ref q2, .ref q3, .null, .int 0, .int 0, .int 0, .int 0, .null, .null, .null, .null, .null])), (q0, .inl (cI, 196, .inl (fun _ => 0))), (q1, .inl (cI, 49, .inl (fun _ => 0))), (q2, .inl (cI, 49, .inl (fun _ => 0))), (q3, .inl (cI, 49, .inl (fun _ => 0))), (q4, .inl (cI, 245, .inl (fun _ => 0)))] H := hP
  replace hD : va_D A [(h, .inr (1, [.ref q0, .ref q1, .ref q2, .ref q3, .null, .int 0, .int 0, .int 0, .int 0, .null, .null, .null, .null, .null])), (q0, .inl (cI, 196, .inl (fun _ => 0))), (q1, .inl (cI, 49, .inl (fun _ => 0))), (q2, .inl (cI, 49, .inl (fun _ => 0))), (q3, .inl (cI, 49, .inl (fun _ => 0))), (q4, .inl (cI, 245, .inl (fun _ => 0)))] := hD
  refine va_putF (D := D) (ci := 1) (v := .ref q4) (ty := .array .int) (C := RX1) (T := TX1) (N := 14) hx hb hts inlX1 tyX1 tyX1_ok nmX1 hown hK hP hD hS 0 rfl rfl 4 (by decide) (hts _ zw_2_9) (fun _ h9 => h9) rfl hin rfl (by decide +kernel) rfl rfl (Nat.le_of_ble_eq_true rfl) dX1_init_43 (fun H lc hP hD hS => ?_)
  replace hP : va_P D vwCl [(h, .inr (1, [.ref q0, .ref q1, .ref q2, .ref q3, .ref q4, .int 0, .int 0, .int 0, .int 0, .null, .null, .null, .null, .null])), (q0, .inl (cI, 196, .inl (fun _ => 0))), (q1, .inl (cI, 49, .inl (fun _ => 0))), (q2, .inl (cI, 49, .inl (fun _ => 0))), (q3, .inl (cI, 49, .inl (fun _ => 0))), (q4, .inl (cI, 245, .inl (fun _ => 0)))] H := hP
  replace hD : va_D A [(h, .inr (1, [.ref q0, .ref q1, .ref q2, .ref q3, .ref q4, .int 0, .int 0, .int 0, .int 0, .null, .null, .null, .null, .null])), (q0, .inl (cI, 196, .inl (fun _ => 0))), (q1, .inl (cI, 49, .inl (fun _ => 0))), (q2, .inl (cI, 49, .inl (fun _ => 0))), (q3, .inl (cI, 49, .inl (fun _ => 0))), (q4, .inl (cI, 245, .inl (fun _ => 0)))] := hD
  refine lv_aload_n hx hb dX1_init_46 rfl (lv_at hl 0 rfl) ?_
  refine lv_bipush (v := 8) hx hb dX1_init_47 (by decide) ?_
  refine va_newa (atype := .int) (ty := .int) (N' := 8) (a0 := (8, .inl (fun _ => 0))) hx hb (hts _ zw_1_19) rfl hK hP hD hS hA (fun _ => rfl) (by decide) (by decide) (by decide) (Nat.le_of_ble_eq_true rfl) (Nat.le_of_ble_eq_true rfl) dX1_init_49 (fun q5 cA H hK2 hP hD hS => ?_)
  rw [zx_cI hK2] at hP hD
  replace hP : va_P D vwCl [(h, .inr (1, [.ref q0, .ref q1, .ref q2, .ref q3, .ref q4, .int 0, .int 0, .int 0, .int 0, .null, .null, .null, .null, .null])), (q0, .inl (cI, 196, .inl (fun _ => 0))), (q1, .inl (cI, 49, .inl (fun _ => 0))), (q2, .inl (cI, 49, .inl (fun _ => 0))), (q3, .inl (cI, 49, .inl (fun _ => 0))), (q4, .inl (cI, 245, .inl (fun _ => 0))), (q5, .inl (cI, 8, .inl (fun _ => 0)))] H := hP
  replace hD : va_D A [(h, .inr (1, [.ref q0, .ref q1, .ref q2, .ref q3, .ref q4, .int 0, .int 0, .int 0, .int 0, .null, .null, .null, .null, .null])), (q0, .inl (cI, 196, .inl (fun _ => 0))), (q1, .inl (cI, 49, .inl (fun _ => 0))), (q2, .inl (cI, 49, .inl (fun _ => 0))), (q3, .inl (cI, 49, .inl (fun _ => 0))), (q4, .inl (cI, 245, .inl (fun _ => 0))), (q5, .inl (cI, 8, .inl (fun _ => 0)))] := hD
  refine va_putF (D := D) (ci := 1) (v := .ref q5) (ty := .array .int) (C := RX1) (T := TX1) (N := 14) hx hb hts inlX1 tyX1 tyX1_ok nmX1 hown hK hP hD hS 0 rfl rfl 9 (by decide) (hts _ zw_2_10) (fun _ h9 => h9) rfl hin rfl (by decide +kernel) rfl rfl (Nat.le_of_ble_eq_true rfl) dX1_init_51 (fun H lc hP hD hS => ?_)
  replace hP : va_P D vwCl [(h, .inr (1, [.ref q0, .ref q1, .ref q2, .ref q3, .ref q4, .int 0, .int 0, .int 0, .int 0, .ref q5, .null, .null, .null, .null])), (q0, .inl (cI, 196, .inl (fun _ => 0))), (q1, .inl (cI, 49, .inl (fun _ => 0))), (q2, .inl (cI, 49, .inl (fun _ => 0))), (q3, .inl (cI, 49, .inl (fun _ => 0))), (q4, .inl (cI, 245, .inl (fun _ => 0))), (q5, .inl (cI, 8, .inl (fun _ => 0)))] H := hP
  replace hD : va_D A [(h, .inr (1, [.ref q0, .ref q1, .ref q2, .ref q3, .ref q4, .int 0, .int 0, .int 0, .int 0, .ref q5, .null, .null, .null, .null])), (q0, .inl (cI, 196, .inl (fun _ => 0))), (q1, .inl (cI, 49, .inl (fun _ => 0))), (q2, .inl (cI, 49, .inl (fun _ => 0))), (q3, .inl (cI, 49, .inl (fun _ => 0))), (q4, .inl (cI, 245, .inl (fun _ => 0))), (q5, .inl (cI, 8, .inl (fun _ => 0)))] := hD
  refine lv_aload_n hx hb dX1_init_54 rfl (lv_at hl 0 rfl) ?_
  refine lv_bipush (v := 8) hx hb dX1_init_55 (by decide) ?_
  refine va_newa (atype := .int) (ty := .int) (N' := 8) (a0 := (8, .inl (fun _ => 0))) hx hb (hts _ zw_1_19) rfl hK hP hD hS hA (fun _ => rfl) (by decide) (by decide) (by decide) (Nat.le_of_ble_eq_true rfl) (Nat.le_of_ble_eq_true rfl) dX1_init_57 (fun q6 cA H hK2 hP hD hS => ?_)
  rw [zx_cI hK2] at hP hD
  replace hP : va_P D vwCl [(h, .inr (1, [.ref q0, .ref q1, .ref q2, .ref q3, .ref q4, .int 0, .int 0, .int 0, .int 0, .ref q5, .null, .null, .null, .null])), (q0, .inl (cI, 196, .inl (fun _ => 0))), (q1, .inl (cI, 49, .inl (fun _ => 0))), (q2, .inl (cI, 49, .inl (fun _ => 0))), (q3, .inl (cI, 49, .inl (fun _ => 0))), (q4, .inl (cI, 245, .inl (fun _ => 0))), (q5, .inl (cI, 8, .inl (fun _ => 0))), (q6, .inl (cI, 8, .inl (fun _ => 0)))] H := hP
  replace hD : va_D A [(h, .inr (1, [.ref q0, .ref q1, .ref q2, .ref q3, .ref q4, .int 0, .int 0, .int 0, .int 0, .ref q5, .null, .null, .null, .null])), (q0, .inl (cI, 196, .inl (fun _ => 0))), (q1, .inl (cI, 49, .inl (fun _ => 0))), (q2, .inl (cI, 49, .inl (fun _ => 0))), (q3, .inl (cI, 49, .inl (fun _ => 0))), (q4, .inl (cI, 245, .inl (fun _ => 0))), (q5, .inl (cI, 8, .inl (fun _ => 0))), (q6, .inl (cI, 8, .inl (fun _ => 0)))] := hD
  refine va_putF (D := D) (ci := 1) (v := .ref q6) (ty := .array .int) (C := RX1) (T := TX1) (N := 14) hx hb hts inlX1 tyX1 tyX1_ok nmX1 hown hK hP hD hS 0 rfl rfl 10 (by decide) (hts _ zw_2_11) (fun _ h9 => h9) rfl hin rfl (by decide +kernel) rfl rfl (Nat.le_of_ble_eq_true rfl) dX1_init_59 (fun H lc hP hD hS => ?_)
  replace hP : va_P D vwCl [(h, .inr (1, [.ref q0, .ref q1, .ref q2, .ref q3, .ref q4, .int 0, .int 0, .int 0, .int 0, .ref q5, .ref q6, .null, .null, .null])), (q0, .inl (cI, 196, .inl (fun _ => 0))), (q1, .inl (cI, 49, .inl (fun _ => 0))), (q2, .inl (cI, 49, .inl (fun _ => 0))), (q3, .inl (cI, 49, .inl (fun _ => 0))), (q4, .inl (cI, 245, .inl (fun _ => 0))), (q5, .inl (cI, 8, .inl (fun _ => 0))), (q6, .inl (cI, 8, .inl (fun _ => 0)))] H := hP
  replace hD : va_D A [(h, .inr (1, [.ref q0, .ref q1, .ref q2, .ref q3, .ref q4, .int 0, .int 0, .int 0, .int 0, .ref q5, .ref q6, .null, .null, .null])), (q0, .inl (cI, 196, .inl (fun _ => 0))), (q1, .inl (cI, 49, .inl (fun _ => 0))), (q2, .inl (cI, 49, .inl (fun _ => 0))), (q3, .inl (cI, 49, .inl (fun _ => 0))), (q4, .inl (cI, 245, .inl (fun _ => 0))), (q5, .inl (cI, 8, .inl (fun _ => 0))), (q6, .inl (cI, 8, .inl (fun _ => 0)))] := hD
  refine lv_aload_n hx hb dX1_init_62 rfl (lv_at hl 0 rfl) ?_
  refine lv_iconst (v := 5) hx hb dX1_init_63 (by decide) ?_
  refine va_newa (atype := .int) (ty := .int) (N' := 5) (a0 := (5, .inl (fun _ => 0))) hx hb (hts _ zw_1_19) rfl hK hP hD hS hA (fun _ => rfl) (by decide) (by decide) (by decide) (Nat.le_of_ble_eq_true rfl) (Nat.le_of_ble_eq_true rfl) dX1_init_64 (fun q7 cA H hK2 hP hD hS => ?_)
  rw [zx_cI hK2] at hP hD
  replace hP : va_P D vwCl [(h, .inr (1, [.ref q0, .ref q1, .ref q2, .ref q3, .ref q4, .int 0, .int 0, .int 0, .int 0, .ref q5, .ref q6, .null, .null, .null])), (q0, .inl (cI, 196, .inl (fun _ => 0))), (q1, .inl (cI, 49, .inl (fun _ => 0))), (q2, .inl (cI, 49, .inl (fun _ => 0))), (q3, .inl (cI, 49, .inl (fun _ => 0))), (q4, .inl (cI, 245, .inl (fun _ => 0))), (q5, .inl (cI, 8, .inl (fun _ => 0))), (q6, .inl (cI, 8, .inl (fun _ => 0))), (q7, .inl (cI, 5, .inl (fun _ => 0)))] H := hP
  replace hD : va_D A [(h, .inr (1, [.ref q0, .ref q1, .ref q2, .ref q3, .ref q4, .int 0, .int 0, .int 0, .int 0, .ref q5, .ref q6, .null, .null, .null])), (q0, .inl (cI, 196, .inl (fun _ => 0))), (q1, .inl (cI, 49, .inl (fun _ => 0))), (q2, .inl (cI, 49, .inl (fun _ => 0))), (q3, .inl (cI, 49, .inl (fun _ => 0))), (q4, .inl (cI, 245, .inl (fun _ => 0))), (q5, .inl (cI, 8, .inl (fun _ => 0))), (q6, .inl (cI, 8, .inl (fun _ => 0))), (q7, .inl (cI, 5, .inl (fun _ => 0)))] := hD
  refine va_putF (D := D) (ci := 1) (v := .ref q7) (ty := .array .int) (C := RX1) (T := TX1) (N := 14) hx hb hts inlX1 tyX1 tyX1_ok nmX1 hown hK hP hD hS 0 rfl rfl 11 (by decide) (hts _ zw_2_12) (fun _ h9 => h9) rfl hin rfl (by decide +kernel) rfl rfl (Nat.le_of_ble_eq_true rfl) dX1_init_66 (fun H lc hP hD hS => ?_)
  replace hP : va_P D vwCl [(h, .inr (1, [.ref q0, .ref q1, .ref q2, .ref q3, .ref q4, .int 0, .int 0, .int 0, .int 0, .ref q5, .ref q6, .ref q7, .null, .null])), (q0, .inl (cI, 196, .inl (fun _ => 0))), (q1, .inl (cI, 49, .inl (fun _ => 0))), (q2, .inl (cI, 49, .inl (fun _ => 0))), (q3, .inl (cI, 49, .inl (fun _ => 0))), (q4, .inl (cI, 245, .inl (fun _ => 0))), (q5, .inl (cI, 8, .inl (fun _ => 0))), (q6, .inl (cI, 8, .inl (fun _ => 0))), (q7, .inl (cI, 5, .inl (fun _ => 0)))] H := hP
  replace hD : va_D A [(h, .inr (1, [.ref q0, .ref q1, .ref q2, .ref q3, .ref q4, .int 0, .int 0, .int 0, .int 0, .ref q5, .ref q6, .ref q7, .null, .null])), (q0, .inl (cI, 196, .inl (fun _ => 0))), (q1, .inl (cI, 49, .inl (fun _ => 0))), (q2, .inl (cI, 49, .inl (fun _ => 0))), (q3, .inl (cI, 49, .inl (fun _ => 0))), (q4, .inl (cI, 245, .inl (fun _ => 0))), (q5, .inl (cI, 8, .inl (fun _ => 0))), (q6, .inl (cI, 8, .inl (fun _ => 0))), (q7, .inl (cI, 5, .inl (fun _ => 0)))] := hD
  refine lv_aload_n hx hb dX1_init_69 rfl (lv_at hl 0 rfl) ?_
  refine lv_bipush (v := 24) hx hb dX1_init_70 (by decide) ?_
  refine va_newa (atype := .int) (ty := .int) (N' := 24) (a0 := (24, .inl (fun _ => 0))) hx hb (hts _ zw_1_19) rfl hK hP hD hS hA (fun _ => rfl) (by decide) (by decide) (by decide) (Nat.le_of_ble_eq_true rfl) (Nat.le_of_ble_eq_true rfl) dX1_init_72 (fun q8 cA H hK2 hP hD hS => ?_)
  rw [zx_cI hK2] at hP hD
  replace hP : va_P D vwCl [(h, .inr (1, [.ref q0, .ref q1, .ref q2, .ref q3, .ref q4, .int 0, .int 0, .int 0, .int 0, .ref q5, .ref q6, .ref q7, .null, .null])), (q0, .inl (cI, 196, .inl (fun _ => 0))), (q1, .inl (cI, 49, .inl (fun _ => 0))), (q2, .inl (cI, 49, .inl (fun _ => 0))), (q3, .inl (cI, 49, .inl (fun _ => 0))), (q4, .inl (cI, 245, .inl (fun _ => 0))), (q5, .inl (cI, 8, .inl (fun _ => 0))), (q6, .inl (cI, 8, .inl (fun _ => 0))), (q7, .inl (cI, 5, .inl (fun _ => 0))), (q8, .inl (cI, 24, .inl (fun _ => 0)))] H := hP
  replace hD : va_D A [(h, .inr (1, [.ref q0, .ref q1, .ref q2, .ref q3, .ref q4, .int 0, .int 0, .int 0, .int 0, .ref q5, .ref q6, .ref q7, .null, .null])), (q0, .inl (cI, 196, .inl (fun _ => 0))), (q1, .inl (cI, 49, .inl (fun _ => 0))), (q2, .inl (cI, 49, .inl (fun _ => 0))), (q3, .inl (cI, 49, .inl (fun _ => 0))), (q4, .inl (cI, 245, .inl (fun _ => 0))), (q5, .inl (cI, 8, .inl (fun _ => 0))), (q6, .inl (cI, 8, .inl (fun _ => 0))), (q7, .inl (cI, 5, .inl (fun _ => 0))), (q8, .inl (cI, 24, .inl (fun _ => 0)))] := hD
  refine va_putF (D := D) (ci := 1) (v := .ref q8) (ty := .array .int) (C := RX1) (T := TX1) (N := 14) hx hb hts inlX1 tyX1 tyX1_ok nmX1 hown hK hP hD hS 0 rfl rfl 12 (by decide) (hts _ zw_2_13) (fun _ h9 => h9) rfl hin rfl (by decide +kernel) rfl rfl (Nat.le_of_ble_eq_true rfl) dX1_init_74 (fun H lc hP hD hS => ?_)
  replace hP : va_P D vwCl [(h, .inr (1, [.ref q0, .ref q1, .ref q2, .ref q3, .ref q4, .int 0, .int 0, .int 0, .int 0, .ref q5, .ref q6, .ref q7, .ref q8, .null])), (q0, .inl (cI, 196, .inl (fun _ => 0))), (q1, .inl (cI, 49, .inl (fun _ => 0))), (q2, .inl (cI, 49, .inl (fun _ => 0))), (q3, .inl (cI, 49, .inl (fun _ => 0))), (q4, .inl (cI, 245, .inl (fun _ => 0))), (q5, .inl (cI, 8, .inl (fun _ => 0))), (q6, .inl (cI, 8, .inl (fun _ => 0))), (q7, .inl (cI, 5, .inl (fun _ => 0))), (q8, .inl (cI, 24, .inl (fun _ => 0)))] H := hP
  replace hD : va_D A [(h, .inr (1, [.ref q0, .ref q1, .ref q2, .ref q3, .ref q4, .int 0, .int 0, .int 0, .int 0, .ref q5, .ref q6, .ref q7, .ref q8, .null])), (q0, .inl (cI, 196, .inl (fun _ => 0))), (q1, .inl (cI, 49, .inl (fun _ => 0))), (q2, .inl (cI, 49, .inl (fun _ => 0))), (q3, .inl (cI, 49, .inl (fun _ => 0))), (q4, .inl (cI, 245, .inl (fun _ => 0))), (q5, .inl (cI, 8, .inl (fun _ => 0))), (q6, .inl (cI, 8, .inl (fun _ => 0))), (q7, .inl (cI, 5, .inl (fun _ => 0))), (q8, .inl (cI, 24, .inl (fun _ => 0)))] := hD
  refine lv_aload_n hx hb dX1_init_77 rfl (lv_at hl 0 rfl) ?_
  refine lv_bipush (v := 24) hx hb dX1_init_78 (by decide) ?_
  refine va_newa (atype := .int) (ty := .int) (N' := 24) (a0 := (24, .inl (fun _ => 0))) hx hb (hts _ zw_1_19) rfl hK hP hD hS hA (fun _ => rfl) (by decide) (by decide) (by decide) (Nat.le_of_ble_eq_true rfl) (Nat.le_of_ble_eq_true rfl) dX1_init_80 (fun q9 cA H hK2 hP hD hS => ?_)
  rw [zx_cI hK2] at hP hD
  replace hP : va_P D vwCl [(h, .inr (1, [.ref q0, .ref q1, .ref q2, .ref q3, .ref q4, .int 0, .int 0, .int 0, .int 0, .ref q5, .ref q6, .ref q7, .ref q8, .null])), (q0, .inl (cI, 196, .inl (fun _ => 0))), (q1, .inl (cI, 49, .inl (fun _ => 0))), (q2, .inl (cI, 49, .inl (fun _ => 0))), (q3, .inl (cI, 49, .inl (fun _ => 0))), (q4, .inl (cI, 245, .inl (fun _ => 0))), (q5, .inl (cI, 8, .inl (fun _ => 0))), (q6, .inl (cI, 8, .inl (fun _ => 0))), (q7, .inl (cI, 5, .inl (fun _ => 0))), (q8, .inl (cI, 24, .inl (fun _ => 0))), (q9, .inl (cI, 24, .inl (fun _ => 0)))] H := hP
  replace hD : va_D A [(h, .inr (1, [.ref q0, .ref q1, .ref q2, .ref q3, .ref q4, .int 0, .int 0, .int 0, .int 0, .ref q5, .ref q6, .ref q7, .ref q8, .null])), (q0, .inl (cI, 196, .inl (fun _ => 0))), (q1, .inl (cI, 49, .inl (fun _ => 0))), (q2, .inl (cI, 49, .inl (fun _ => 0))), (q3, .inl (cI, 49, .inl (fun _ => 0))), (q4, .inl (cI, 245, .inl (fun _ => 0))), (q5, .inl (cI, 8, .inl (fun _ => 0))), (q6, .inl (cI, 8, .inl (fun _ => 0))), (q7, .inl (cI, 5, .inl (fun _ => 0))), (q8, .inl (cI, 24, .inl (fun _ => 0))), (q9, .inl (cI, 24, .inl (fun _ => 0)))] := hD
  refine va_putF (D := D) (ci := 1) (v := .ref q9) (ty := .array .int) (C := RX1) (T := TX1) (N := 14) hx hb hts inlX1 tyX1 tyX1_ok nmX1 hown hK hP hD hS 0 rfl rfl 13 (by decide) (hts _ zw_2_14) (fun _ h9 => h9) rfl hin rfl (by decide +kernel) rfl rfl (Nat.le_of_ble_eq_true rfl) dX1_init_82 (fun H lc hP hD hS => ?_)
  replace hP : va_P D vwCl [(h, .inr (1, [.ref q0, .ref q1, .ref q2, .ref q3, .ref q4, .int 0, .int 0, .int 0, .int 0, .ref q5, .ref q6, .ref q7, .ref q8, .ref q9])), (q0, .inl (cI, 196, .inl (fun _ => 0))), (q1, .inl (cI, 49, .inl (fun _ => 0))), (q2, .inl (cI, 49, .inl (fun _ => 0))), (q3, .inl (cI, 49, .inl (fun _ => 0))), (q4, .inl (cI, 245, .inl (fun _ => 0))), (q5, .inl (cI, 8, .inl (fun _ => 0))), (q6, .inl (cI, 8, .inl (fun _ => 0))), (q7, .inl (cI, 5, .inl (fun _ => 0))), (q8, .inl (cI, 24, .inl (fun _ => 0))), (q9, .inl (cI, 24, .inl (fun _ => 0)))] H := hP
  replace hD : va_D A [(h, .inr (1, [.ref q0, .ref q1, .ref q2, .ref q3, .ref q4, .int 0, .int 0, .int 0, .int 0, .ref q5, .ref q6, .ref q7, .ref q8, .ref q9])), (q0, .inl (cI, 196, .inl (fun _ => 0))), (q1, .inl (cI, 49, .inl (fun _ => 0))), (q2, .inl (cI, 49, .inl (fun _ => 0))), (q3, .inl (cI, 49, .inl (fun _ => 0))), (q4, .inl (cI, 245, .inl (fun _ => 0))), (q5, .inl (cI, 8, .inl (fun _ => 0))), (q6, .inl (cI, 8, .inl (fun _ => 0))), (q7, .inl (cI, 5, .inl (fun _ => 0))), (q8, .inl (cI, 24, .inl (fun _ => 0))), (q9, .inl (cI, 24, .inl (fun _ => 0)))] := hD
  refine lv_aload_n hx hb dX1_init_85 rfl (lv_at hl 0 rfl) ?_
  obtain ⟨ad, had⟩ : ∃ ad : Nat → Nat, ad = fun j => ([q0, q1, q2, q3, q4, q5, q6, q7, q8, q9] : List Nat).getD j 0 := ⟨_, rfl⟩
  replace hP : va_P D vwCl (xW1 cI h ad (fun _ _ => 0)) H := by subst had; exact hP
  replace hD : va_D A (xW1 cI h ad (fun _ _ => 0)) := by subst had; exact hD
  refine va_callv (va_runV (As := []) (rest := []) ⟨hx, hb, hml, hown, hts⟩ (c_X1_clear l D cI cZ cT h ad (fun _ _ => 0) _ N hM) (cwV 0 hts (zg_V zw_2_15 zw_2_16 zw_2_17 zw_1_14 zw_2_18) rfl rfl rfl ⟨rfl, zyX1_clear⟩ ⟨Nat.le_of_ble_eq_true rfl, Nat.le_of_ble_eq_true rfl⟩) ⟨bS_blind, va_recv hK hP (ci := 1) (q0 := 0) rfl rfl, bS_pre hP hK hD hN⟩ rfl rfl hl.1 rfl (lv_room (Nat.le_of_ble_eq_true rfl)) dX1_init_86 ⟨Nat.le_of_ble_eq_true rfl, Nat.le_of_ble_eq_true rfl⟩) hS (fun q _ h => zx_fW hD hS hA q h) (fun q h => zx_fW hD hS hA q h) (fun u t H1 lc ht hvm hw hB hz1 hk1 hS => ?_)
  replace hw : R = u := hw; subst hw
  rw [ht] at hB
  replace hP := hB
  replace hD := xW1_D R hD
  refine W.widen (k := 10) (n := 657) (Nat.le_of_ble_eq_true rfl) (Nat.le_of_ble_eq_true rfl) ?_
  exact W.vret hx hb hr (fun t ht hW => ⟨⟨ad, rfl, trivial, by show va_P D vwCl _ t.heap; rw [ht]; exact hP, hD⟩, hS.F ht⟩) hS.2.2 dX1_init_89
