/-! ShallowBoxes$Tree.corner(II)I -/
def f_X1_corner (N : Nat) (p1 : Int32) (p2 : Int32) (S : zx_S) : Option (Int32) :=
  (zx_b1 (f_X2_get N 196 ((p1 * 4) + p2) (S 0)) (fun x1 =>
some x1))
abbrev rmX1_corner : Room := { frames := 1, cells := 0, slots := 0, locals := 21 }
abbrev zsX1_corner : List Cond := .code yX1_corner cX1_corner 3 (some .int) :: wsL_law
theorem zyX1_corner : yX1_corner.cls ≠ "java/lang/invoke/MethodHandle" ∧ yX1_corner.cls ≠ "java/lang/invoke/VarHandle" ∧ (parseMethodDescriptor yX1_corner.desc).map (fun d => d.parameters.length) = some 2 := by decide +kernel
set_option maxHeartbeats 4000000 in
set_option maxRecDepth 100000 in
theorem c_X1_corner (l : Launch) (D : va_G) (cI cZ cT : ClassId) (h : Nat) (ad : Nat → Nat) (S : zx_S) (sz : Nat) (N : Nat) (p1 : Int32) (p2 : Int32) {R : Int32} (hM : f_X1_corner N p1 p2 S = some R) : Met l yX1_corner zsX1_corner rmX1_corner (va_Pc [.ref h, .int p1, .int p2] (bS D (zx_ty cI cZ cT) (xW1 cI h ad S) sz)) (va_Qi (fun r (_ : Unit) => R = r) (fun _ _ => True) (fun q => sz ≤ q)) 0 0 (fun q => sz ≤ q) := by
  refine Met.ofW (cc := cX1_corner) (maxL := 3) (ret := (some .int)) (by decide) rfl ?_
  intro p e s m args below meth c s₁ B hml hv
  obtain ⟨rfl, hsz, hP, hK, hD0, hN⟩ := hv
  have hx := B.exec
  have hb := B.bytes
  have hr := B.returns
  have hts : ∀ w ∈ wsL_law, w.before _ s = true := fun w hw => atoms_spec (ws := zsX1_corner) B.pre w (List.mem_cons_of_mem _ hw)
  have hown : s.vm.findClass RX1 = some m.cls := findClass_of_methodNamed B.named
  have hlocks := B.notSynchronized
  subst hsz
  generalize hAe : (fun q : Nat => s.heap.size ≤ q) = A
  have hA : ∀ q : Nat, s.heap.size ≤ q → A q := fun q h => by rw [← hAe]; exact h
  have hD := hD0
  have hS : va_S A s.heap s.heap [] := va_S.rf
  have hl := lv_entry ([.ref h, .int p1, .int p2]) (n := 3) (Nat.le_of_ble_eq_true rfl)
  rw [lg_entry_eq]
  generalize (lg_sl ([.ref h, .int p1, .int p2]) ++ List.replicate (3 - (lg_sl ([.ref h, .int p1, .int p2])).length) Slot.unset).toArray = ls at hl ⊢
  have hl : lv_has ls 3 [(0, .ref h), (1, .int p1), (2, .int p2)] := hl
  generalize hQ : MQ below (va_Qi (fun r (_ : Unit) => R = r) (fun _ _ => True) A) ([.ref h, .int p1, .int p2] : List Value).toArray s 0 0 A = Q9
  replace hQ := hQ.symm
  unfold f_X1_corner at hM
  refine lv_aload_n hx hb dX1_corner_0 rfl (lv_at hl 0 rfl) ?_
  refine va_get (D := D) (ci := 1) (v := .ref (ad 0)) (C := RX1) (T := TX1) (N := 14) hx hb hts inlX1 hown hK hP 0 rfl rfl 0 (by decide) (hts _ zw_2_5) (fun _ h9 => h9) rfl dX1_corner_1 ?_
  refine lv_iload_n hx hb dX1_corner_4 rfl (lv_at hl 1 rfl) ?_
  refine lv_iconst (v := 4) hx hb dX1_corner_5 (by decide) ?_
  refine lv_imul hx hb dX1_corner_6 ?_
  refine lv_iload_n hx hb dX1_corner_7 rfl (lv_at hl 2 rfl) ?_
  refine lv_iadd hx hb dX1_corner_8 ?_
  obtain ⟨x1, hz2, hM⟩ := zx_b1E hM
  refine va_calli (va_runSN (As := [.ref (ad 0), .int ((p1 * 4) + p2)]) (rest := []) ⟨hx, hb, hml, hown, hts⟩ (c_X2_get l D cI cZ cT (ad 0) 196 (S 0) _ N ((p1 * 4) + p2) hz2) ⟨va_cnB 2 hts (zg_c zw_3_6) rfl rfl rfl (hN _ (zx_nw_X1_70)) (hts _ zw_1_2) zyX2_get ⟨Nat.le_of_ble_eq_true rfl, Nat.le_of_ble_eq_true rfl⟩, (hts _ zw_3_5), trivial⟩ ⟨bS_blind, bS_pre (zx_P1 hP 1 (rfl)) hK (zx_D1 hD 1 (rfl)) hN⟩ rfl rfl hl.1 rfl (lv_room (Nat.le_of_ble_eq_true rfl)) dX1_corner_9 ⟨Nat.zero_le _, Nat.zero_le _⟩) hS (fun q h1 h2 => absurd h1 (Nat.not_lt.mpr h2)) (fun q h => hA q (Nat.le_trans hS.1 h)) (fun r u t H1 lc ht hvm hw hB hz1 hk1 hS => ?_)
  replace hw : x1 = r := hw; subst hw
  replace hP := zx_keep hP hk1
  rw [hQ]
  exact W.iret hx hb hr (fun t ht hW => ⟨⟨x1, (), rfl, (Option.some.inj hM).symm, trivial⟩, hS.F ht⟩) hS.2.2 dX1_corner_12

/-! ShallowBoxes$Tree.setBox(IIIII)V -/
def f_X1_setBox (N : Nat) (p1 : Int32) (p2 : Int32) (p3 : Int32) (p4 : Int32) (p5 : Int32) (S : zx_S) : Option (zx_S) :=
  (zx_n (p1 * 4) (fun x1 =>
(zx_b1 (f_X2_put N 196 x1 p2 (S 0)) (fun g2 =>
(zx_n (zx_st S 0 g2) (fun T4 =>
(zx_b1 (f_X2_put N 196 (x1 + 1) p3 (T4 0)) (fun g5 =>
(zx_n (zx_st T4 0 g5) (fun T7 =>
(zx_b1 (f_X2_put N 196 (x1 + 2) p4 (T7 0)) (fun g8 =>
(zx_n (zx_st T7 0 g8) (fun T10 =>
(zx_b1 (f_X2_put N 196 (x1 + 3) p5 (T10 0)) (fun g11 =>
(zx_n (zx_st T10 0 g11) (fun T13 =>
some T13))))))))))))))))))
abbrev rmX1_setBox : Room := { frames := 1, cells := 0, slots := 0, locals := 22 }
abbrev zsX1_setBox : List Cond := .code yX1_setBox cX1_setBox 7 none :: wsL_law
theorem zyX1_setBox : yX1_setBox.cls ≠ "java/lang/invoke/MethodHandle" ∧ yX1_setBox.cls ≠ "java/lang/invoke/VarHandle" ∧ (parseMethodDescriptor yX1_setBox.desc).map (fun d => d.parameters.length) = some 5 := by decide +kernel
set_option maxHeartbeats 4000000 in
set_option maxRecDepth 100000 in
theorem c_X1_setBox (l : Launch) (D : va_G) (cI cZ cT : ClassId) (h : Nat) (ad : Nat → Nat) (S : zx_S) (sz : Nat) (N : Nat) (p1 : Int32) (p2 : Int32) (p3 : Int32) (p4 : Int32) (p5 : Int32) {R : zx_S} (hM : f_X1_setBox N p1 p2 p3 p4 p5 S = some R) : Met l yX1_setBox zsX1_setBox rmX1_setBox (va_Pc [.ref h, .int p1, .int p2, .int p3, .int p4, .int p5] (bS D (zx_ty cI cZ cT) (xW1 cI h ad S) sz)) (va_Qv (fun u => R = u) (fun u t => va_P D vwCl (xW1 cI h ad u) t.heap) (va_A (xW1 cI h ad S) sz)) 0 0 (va_A (xW1 cI h ad S) sz) := by
  refine Met.ofW (cc := cX1_setBox) (maxL := 7) (ret := none) (by decide) rfl ?_
  intro p e s m args below meth c s₁ B hml hv
  obtain ⟨rfl, hsz, hP, hK, hD0, hN⟩ := hv
  have hx := B.exec
  have hb := B.bytes
  have hr := B.returns
  have hts : ∀ w ∈ wsL_law, w.before _ s = true := fun w hw => atoms_spec (ws := zsX1_setBox) B.pre w (List.mem_cons_of_mem _ hw)
  have hown : s.vm.findClass RX1 = some m.cls := findClass_of_methodNamed B.named
  have hlocks := B.notSynchronized
  subst hsz
  have hD := hD0.self (sz := s.heap.size)
  generalize hAe : va_A (xW1 cI h ad S) s.heap.size = A at hD ⊢
  have hA : ∀ q : Nat, s.heap.size ≤ q → A q := fun q h => by rw [← hAe]; exact Or.inr h
  have hS : va_S A s.heap s.heap [] := va_S.rf
  have hl := lv_entry ([.ref h, .int p1, .int p2, .int p3, .int p4, .int p5]) (n := 7) (Nat.le_of_ble_eq_true rfl)
  rw [lg_entry_eq]
  generalize (lg_sl ([.ref h, .int p1, .int p2, .int p3, .int p4, .int p5]) ++ List.replicate (7 - (lg_sl ([.ref h, .int p1, .int p2, .int p3, .int p4, .int p5])).length) Slot.unset).toArray = ls at hl ⊢
  have hl : lv_has ls 7 [(0, .ref h), (1, .int p1), (2, .int p2), (3, .int p3), (4, .int p4), (5, .int p5)] := hl
  generalize hQ : MQ below (va_Qv (fun u => R = u) (fun u t => va_P D vwCl (xW1 cI h ad u) t.heap) A) ([.ref h, .int p1, .int p2, .int p3, .int p4, .int p5] : List Value).toArray s 0 0 A = Q9
  replace hQ := hQ.symm
  unfold f_X1_setBox at hM
  refine lv_iload_n hx hb dX1_setBox_0 rfl (lv_at hl 1 rfl) ?_
  refine lv_iconst (v := 4) hx hb dX1_setBox_1 (by decide) ?_
  refine lv_imul hx hb dX1_setBox_2 ?_
  obtain ⟨x1, ex1, hM⟩ := zx_nE hM
  refine zx_top ex1 ?_
  refine lv_istore (lv' := [(6, .int x1), (0, .ref h), (1, .int p1), (2, .int p2), (3, .int p3), (4, .int p4), (5, .int p5)]) hx hb dX1_setBox_3 hl (by decide) rfl (fun ls hl => ?_)
  refine lv_aload_n hx hb dX1_setBox_5 rfl (lv_at hl 1 rfl) ?_
  refine va_get (D := D) (ci := 1) (v := .ref (ad 0)) (C := RX1) (T := TX1) (N := 14) hx hb hts inlX1 hown hK hP 0 rfl rfl 0 (by decide) (hts _ zw_2_5) (fun _ h9 => h9) rfl dX1_setBox_6 ?_
  refine lv_iload hx hb dX1_setBox_9 (lv_at hl 0 rfl) ?_
  refine lv_iload_n hx hb dX1_setBox_11 rfl (lv_at hl 3 rfl) ?_
  obtain ⟨g2, hz3, hM⟩ := zx_b1E hM
  refine va_callv (va_runSN (As := [.ref (ad 0), .int x1, .int p2]) (rest := []) ⟨hx, hb, hml, hown, hts⟩ (c_X2_put l D cI cZ cT (ad 0) 196 (S 0) _ N x1 p2 hz3) ⟨va_cnB 3 hts (zg_c zw_3_0) rfl rfl rfl (hN _ (zx_nw_X1_45)) (hts _ zw_1_2) zyX2_put ⟨Nat.le_of_ble_eq_true rfl, Nat.le_of_ble_eq_true rfl⟩, (hts _ zw_2_23), trivial⟩ ⟨bS_blind, bS_pre (zx_P1 hP 1 (rfl)) hK (zx_D1 hD 1 (rfl)) hN⟩ rfl rfl hl.1 rfl (lv_room (Nat.le_of_ble_eq_true rfl)) dX1_setBox_12 ⟨Nat.zero_le _, Nat.zero_le _⟩) hS (fun q _ h => zx_f1 hD hS hA (k := 1) rfl q h) (fun q h => zx_f1 hD hS hA (k := 1) rfl q h) (fun u t H1 lc ht hvm hw hB hz1 hk1 hS => ?_)
  replace hw : g2 = u := hw; subst hw
  rw [ht] at hB
  replace hP := zx_set1 (k := 1) hP hD rfl hk1 hB
  replace hD := va_D.set (p := 1) (e := .inl (cI, 196, .inl g2)) hD rfl
  rw [xW1_pa0] at hP hD
  obtain ⟨T4, eT4, hM⟩ := zx_nE hM
  rw [← eT4] at hP hD
  refine lv_aload_n hx hb dX1_setBox_15 rfl (lv_at hl 1 rfl) ?_
  refine va_get (D := D) (ci := 1) (v := .ref (ad 0)) (C := RX1) (T := TX1) (N := 14) hx hb hts inlX1 hown hK hP 0 rfl rfl 0 (by decide) (hts _ zw_2_5) (fun _ h9 => h9) rfl dX1_setBox_16 ?_
  refine lv_iload hx hb dX1_setBox_19 (lv_at hl 0 rfl) ?_
  refine lv_iconst (v := 1) hx hb dX1_setBox_21 (by decide) ?_
  refine lv_iadd hx hb dX1_setBox_22 ?_
  refine lv_iload_n hx hb dX1_setBox_23 rfl (lv_at hl 4 rfl) ?_
  obtain ⟨g5, hz6, hM⟩ := zx_b1E hM
  refine va_callv (va_runSN (As := [.ref (ad 0), .int (x1 + 1), .int p3]) (rest := []) ⟨hx, hb, hml, hown, hts⟩ (c_X2_put l D cI cZ cT (ad 0) 196 (T4 0) _ N (x1 + 1) p3 hz6) ⟨va_cnB 3 hts (zg_c zw_3_0) rfl rfl rfl (hN _ (zx_nw_X1_45)) (hts _ zw_1_2) zyX2_put ⟨Nat.le_of_ble_eq_true rfl, Nat.le_of_ble_eq_true rfl⟩, (hts _ zw_2_23), trivial⟩ ⟨bS_blind, bS_pre (zx_P1 hP 1 (rfl)) hK (zx_D1 hD 1 (rfl)) hN⟩ rfl rfl hl.1 rfl (lv_room (Nat.le_of_ble_eq_true rfl)) dX1_setBox_24 ⟨Nat.zero_le _, Nat.zero_le _⟩) hS (fun q _ h => zx_f1 hD hS hA (k := 1) rfl q h) (fun q h => zx_f1 hD hS hA (k := 1) rfl q h) (fun u t H1 lc ht hvm hw hB hz1 hk1 hS => ?_)
  replace hw : g5 = u := hw; subst hw
  rw [ht] at hB
  replace hP := zx_set1 (k := 1) hP hD rfl hk1 hB
  replace hD := va_D.set (p := 1) (e := .inl (cI, 196, .inl g5)) hD rfl
  rw [xW1_pa0] at hP hD
  obtain ⟨T7, eT7, hM⟩ := zx_nE hM
  rw [← eT7] at hP hD
  refine lv_aload_n hx hb dX1_setBox_27 rfl (lv_at hl 1 rfl) ?_
  refine va_get (D := D) (ci := 1) (v := .ref (ad 0)) (C := RX1) (T := TX1) (N := 14) hx hb hts inlX1 hown hK hP 0 rfl rfl 0 (by decide) (hts _ zw_2_5) (fun _ h9 => h9) rfl dX1_setBox_28 ?_
  refine lv_iload hx hb dX1_setBox_31 (lv_at hl 0 rfl) ?_
  refine lv_iconst (v := 2) hx hb dX1_setBox_33 (by decide) ?_
  refine lv_iadd hx hb dX1_setBox_34 ?_
  refine lv_iload hx hb dX1_setBox_35 (lv_at hl 5 rfl) ?_
  obtain ⟨g8, hz9, hM⟩ := zx_b1E hM
  refine va_callv (va_runSN (As := [.ref (ad 0), .int (x1 + 2), .int p4]) (rest := []) ⟨hx, hb, hml, hown, hts⟩ (c_X2_put l D cI cZ cT (ad 0) 196 (T7 0) _ N (x1 + 2) p4 hz9) ⟨va_cnB 3 hts (zg_c zw_3_0) rfl rfl rfl (hN _ (zx_nw_X1_45)) (hts _ zw_1_2) zyX2_put ⟨Nat.le_of_ble_eq_true rfl, Nat.le_of_ble_eq_true rfl⟩, (hts _ zw_2_23), trivial⟩ ⟨bS_blind, bS_pre (zx_P1 hP 1 (rfl)) hK (zx_D1 hD 1 (rfl)) hN⟩ rfl rfl hl.1 rfl (lv_room (Nat.le_of_ble_eq_true rfl)) dX1_setBox_37 ⟨Nat.zero_le _, Nat.zero_le _⟩) hS (fun q _ h => zx_f1 hD hS hA (k := 1) rfl q h) (fun q h => zx_f1 hD hS hA (k := 1) rfl q h) (fun u t H1 lc ht hvm hw hB hz1 hk1 hS => ?_)
  replace hw : g8 = u := hw; subst hw
  rw [ht] at hB
  replace hP := zx_set1 (k := 1) hP hD rfl hk1 hB
  replace hD := va_D.set (p := 1) (e := .inl (cI, 196, .inl g8)) hD rfl
  rw [xW1_pa0] at hP hD
  obtain ⟨T10, eT10, hM⟩ := zx_nE hM
  rw [← eT10] at hP hD
  refine lv_aload_n hx hb dX1_setBox_40 rfl (lv_at hl 1 rfl) ?_
  refine va_get (D := D) (ci := 1) (v := .ref (ad 0)) (C := RX1) (T := TX1) (N := 14) hx hb hts inlX1 hown hK hP 0 rfl rfl 0 (by decide) (hts _ zw_2_5) (fun _ h9 => h9) rfl dX1_setBox_41 ?_
  refine lv_iload hx hb dX1_setBox_44 (lv_at hl 0 rfl) ?_
  refine lv_iconst (v := 3) hx hb dX1_setBox_46 (by decide) ?_
  refine lv_iadd hx hb dX1_setBox_47 ?_
  refine lv_iload hx hb dX1_setBox_48 (lv_at hl 6 rfl) ?_
  obtain ⟨g11, hz12, hM⟩ := zx_b1E hM
  refine va_callv (va_runSN (As := [.ref (ad 0), .int (x1 + 3), .int p5]) (rest := []) ⟨hx, hb, hml, hown, hts⟩ (c_X2_put l D cI cZ cT (ad 0) 196 (T10 0) _ N (x1 + 3) p5 hz12) ⟨va_cnB 3 hts (zg_c zw_3_0) rfl rfl rfl (hN _ (zx_nw_X1_45)) (hts _ zw_1_2) zyX2_put ⟨Nat.le_of_ble_eq_true rfl, Nat.le_of_ble_eq_true rfl⟩, (hts _ zw_2_23), trivial⟩ ⟨bS_blind, bS_pre (zx_P1 hP 1 (rfl)) hK (zx_D1 hD 1 (rfl)) hN⟩ rfl rfl hl.1 rfl (lv_room (Nat.le_of_ble_eq_true rfl)) dX1_setBox_50 ⟨Nat.zero_le _, Nat.zero_le _⟩) hS (fun q _ h => zx_f1 hD hS hA (k := 1) rfl q h) (fun q h => zx_f1 hD hS hA (k := 1) rfl q h) (fun u t H1 lc ht hvm hw hB hz1 hk1 hS => ?_)
  replace hw : g11 = u := hw; subst hw
  rw [ht] at hB
  replace hP := zx_set1 (k := 1) hP hD rfl hk1 hB
  replace hD := va_D.set (p := 1) (e := .inl (cI, 196, .inl g11)) hD rfl
  rw [xW1_pa0] at hP hD
  obtain ⟨T13, eT13, hM⟩ := zx_nE hM
  rw [← eT13] at hP hD
  rw [hQ]
  exact W.vret hx hb hr (fun t ht hW => ⟨⟨T13, rfl, (Option.some.inj hM).symm, by show va_P D vwCl _ t.heap; rw [ht]; exact hP⟩, hS.F ht⟩) hS.2.2 dX1_setBox_53

/-! ShallowBoxes$Tree.shiftBox(III)V -/
def f_X1_shiftBox (N : Nat) (p1 : Int32) (p2 : Int32) (p3 : Int32) (S : zx_S) : Option (zx_S) :=
  (zx_b1 (f_X1_corner N p1 0 S) (fun x1 =>
(zx_b1 (f_X1_corner N p1 1 S) (fun x3 =>
(zx_b1 (f_X1_corner N p1 2 S) (fun x5 =>
(zx_b1 (f_X1_corner N p1 3 S) (fun x7 =>
(zx_b1 (f_X1_setBox N p1 (x1 + p2) (x3 + p3) (x5 + p2) (x7 + p3) S) (fun T9 =>
some T9))))))))))
abbrev rmX1_shiftBox : Room := { frames := 2, cells := 0, slots := 0, locals := 48 }
abbrev zsX1_shiftBox : List Cond := .code yX1_shiftBox cX1_shiftBox 4 none :: wsL_law
theorem zyX1_shiftBox : yX1_shiftBox.cls ≠ "java/lang/invoke/MethodHandle" ∧ yX1_shiftBox.cls ≠ "java/lang/invoke/VarHandle" ∧ (parseMethodDescriptor yX1_shiftBox.desc).map (fun d => d.parameters.length) = some 3 := by decide +kernel
set_option maxHeartbeats 4000000 in
set_option maxRecDepth 100000 in
theorem c_X1_shiftBox (l : Launch) (D : va_G) (cI cZ cT : ClassId) (h : Nat) (ad : Nat → Nat) (S : zx_S) (sz : Nat) (N : Nat) (p1 : Int32) (p2 : Int32) (p3 : Int32) {R : zx_S} (hM : f_X1_shiftBox N p1 p2 p3 S = some R) : Met l yX1_shiftBox zsX1_shiftBox rmX1_shiftBox (va_Pc [.ref h, .int p1, .int p2, .int p3] (bS D (zx_ty cI cZ cT) (xW1 cI h ad S) sz)) (va_Qv (fun u => R = u) (fun u t => va_P D vwCl (xW1 cI h ad u) t.heap) (va_A (xW1 cI h ad S) sz)) 0 0 (va_A (xW1 cI h ad S) sz) := by
  refine Met.ofW (cc := cX1_shiftBox) (maxL := 4) (ret := none) (by decide) rfl ?_
  intro p e s m args below meth c s₁ B hml hv
  obtain ⟨rfl, hsz, hP, hK, hD0, hN⟩ := hv
  have hx := B.exec
  have hb := B.bytes
  have hr := B.returns
  have hts : ∀ w ∈ wsL_law, w.before _ s = true := fun w hw => atoms_spec (ws := zsX1_shiftBox) B.pre w (List.mem_cons_of_mem _ hw)
  have hown : s.vm.findClass RX1 = some m.cls := findClass_of_methodNamed B.named
  have hlocks := B.notSynchronized
  subst hsz
  have hD := hD0.self (sz := s.heap.size)
  generalize hAe : va_A (xW1 cI h ad S) s.heap.size = A at hD ⊢
  have hA : ∀ q : Nat, s.heap.size ≤ q → A q := fun q h => by rw [← hAe]; exact Or.inr h
  have hS : va_S A s.heap s.heap [] := va_S.rf
  have hl := lv_entry ([.ref h, .int p1, .int p2, .int p3]) (n := 4) (Nat.le_of_ble_eq_true rfl)
  rw [lg_entry_eq]
  generalize (lg_sl ([.ref h, .int p1, .int p2, .int p3]) ++ List.replicate (4 - (lg_sl ([.ref h, .int p1, .int p2, .int p3])).length) Slot.unset).toArray = ls at hl ⊢
  have hl : lv_has ls 4 [(0, .ref h), (1, .int p1), (2, .int p2), (3, .int p3)] := hl
  generalize hQ : MQ below (va_Qv (fun u => R = u) (fun u t => va_P D vwCl (xW1 cI h ad u) t.heap) A) ([.ref h, .int p1, .int p2, .int p3] : List Value).toArray s 0 0 A = Q9
  replace hQ := hQ.symm
  unfold f_X1_shiftBox at hM
  refine lv_aload_n hx hb dX1_shiftBox_0 rfl (lv_at hl 0 rfl) ?_
  refine lv_iload_n hx hb dX1_shiftBox_1 rfl (lv_at hl 1 rfl) ?_
  refine lv_aload_n hx hb dX1_shiftBox_2 rfl (lv_at hl 0 rfl) ?_
  refine lv_iload_n hx hb dX1_shiftBox_3 rfl (lv_at hl 1 rfl) ?_
  refine lv_iconst (v := 0) hx hb dX1_shiftBox_4 (by decide) ?_
  obtain ⟨x1, hz2, hM⟩ := zx_b1E hM
  refine va_calli (va_runV (As := [.int p1, .int 0]) (rest := [.int p1, .ref h]) ⟨hx, hb, hml, hown, hts⟩ (c_X1_corner l D cI cZ cT h ad S _ N p1 0  hz2) (cwV 2 hts (zg_V zw_15_7 zw_7_21 zw_7_22 zw_1_14 zw_7_23) rfl rfl rfl ⟨rfl, zyX1_corner⟩ ⟨Nat.le_of_ble_eq_true rfl, Nat.le_of_ble_eq_true rfl⟩) ⟨bS_blind, va_recv hK hP (ci := 1) (q0 := 0) rfl rfl, bS_pre hP hK hD hN⟩ rfl rfl hl.1 rfl (lv_room (Nat.le_of_ble_eq_true rfl)) dX1_shiftBox_5 ⟨Nat.zero_le _, Nat.zero_le _⟩) hS (fun q h1 h2 => absurd h1 (Nat.not_lt.mpr h2)) (fun q h => hA q (Nat.le_trans hS.1 h)) (fun r u t H1 lc ht hvm hw hB hz1 hk1 hS => ?_)
  replace hw : x1 = r := hw; subst hw
  replace hP := zx_keep hP hk1
  refine lv_iload_n hx hb dX1_shiftBox_8 rfl (lv_at hl 2 rfl) ?_
  refine lv_iadd hx hb dX1_shiftBox_9 ?_
  refine lv_aload_n hx hb dX1_shiftBox_10 rfl (lv_at hl 0 rfl) ?_
  refine lv_iload_n hx hb dX1_shiftBox_11 rfl (lv_at hl 1 rfl) ?_
  refine lv_iconst (v := 1) hx hb dX1_shiftBox_12 (by decide) ?_
  obtain ⟨x3, hz4, hM⟩ := zx_b1E hM
  refine va_calli (va_runV (As := [.int p1, .int 1]) (rest := [.int (x1 + p2), .int p1, .ref h]) ⟨hx, hb, hml, hown, hts⟩ (c_X1_corner l D cI cZ cT h ad S _ N p1 1  hz4) (cwV 2 hts (zg_V zw_15_7 zw_7_21 zw_7_22 zw_1_14 zw_7_23) rfl rfl rfl ⟨rfl, zyX1_corner⟩ ⟨Nat.le_of_ble_eq_true rfl, Nat.le_of_ble_eq_true rfl⟩) ⟨bS_blind, va_recv hK hP (ci := 1) (q0 := 0) rfl rfl, bS_pre hP hK hD hN⟩ rfl rfl hl.1 rfl (lv_room (Nat.le_of_ble_eq_true rfl)) dX1_shiftBox_13 ⟨Nat.zero_le _, Nat.zero_le _⟩) hS (fun q h1 h2 => absurd h1 (Nat.not_lt.mpr h2)) (fun q h => hA q (Nat.le_trans hS.1 h)) (fun r u t H1 lc ht hvm hw hB hz1 hk1 hS => ?_)
  replace hw : x3 = r := hw; subst hw
  replace hP := zx_keep hP hk1
  refine lv_iload_n hx hb dX1_shiftBox_16 rfl (lv_at hl 3 rfl) ?_
  refine lv_iadd hx hb dX1_shiftBox_17 ?_
  refine lv_aload_n hx hb dX1_shiftBox_18 rfl (lv_at hl 0 rfl) ?_
  refine lv_iload_n hx hb dX1_shiftBox_19 rfl (lv_at hl 1 rfl) ?_
  refine lv_iconst (v := 2) hx hb dX1_shiftBox_20 (by decide) ?_
  obtain ⟨x5, hz6, hM⟩ := zx_b1E hM
  refine va_calli (va_runV (As := [.int p1, .int 2]) (rest := [.int (x3 + p3), .int (x1 + p2), .int p1, .ref h]) ⟨hx, hb, hml, hown, hts⟩ (c_X1_corner l D cI cZ cT h ad S _ N p1 2  hz6) (cwV 2 hts (zg_V zw_15_7 zw_7_21 zw_7_22 zw_1_14 zw_7_23) rfl rfl rfl ⟨rfl, zyX1_corner⟩ ⟨Nat.le_of_ble_eq_true rfl, Nat.le_of_ble_eq_true rfl⟩) ⟨bS_blind, va_recv hK hP (ci := 1) (q0 := 0) rfl rfl, bS_pre hP hK hD hN⟩ rfl rfl hl.1 rfl (lv_room (Nat.le_of_ble_eq_true rfl)) dX1_shiftBox_21 ⟨Nat.zero_le _, Nat.zero_le _⟩) hS (fun q h1 h2 => absurd h1 (Nat.not_lt.mpr h2)) (fun q h => hA q (Nat.le_trans hS.1 h)) (fun r u t H1 lc ht hvm hw hB hz1 hk1 hS => ?_)
  replace hw : x5 = r := hw; subst hw
  replace hP := zx_keep hP hk1
  refine lv_iload_n hx hb dX1_shiftBox_24 rfl (lv_at hl 2 rfl) ?_
  refine lv_iadd hx hb dX1_shiftBox_25 ?_
  refine lv_aload_n hx hb dX1_shiftBox_26 rfl (lv_at hl 0 rfl) ?_
  refine lv_iload_n hx hb dX1_shiftBox_27 rfl (lv_at hl 1 rfl) ?_
  refine lv_iconst (v := 3) hx hb dX1_shiftBox_28 (by decide) ?_
  obtain ⟨x7, hz8, hM⟩ := zx_b1E hM
  refine va_calli (va_runV (As := [.int p1, .int 3]) (rest := [.int (x5 + p2), .int (x3 + p3), .int (x1 + p2), .int p1, .ref h]) ⟨hx, hb, hml, hown, hts⟩ (c_X1_corner l D cI cZ cT h ad S _ N p1 3  hz8) (cwV 2 hts (zg_V zw_15_7 zw_7_21 zw_7_22 zw_1_14 zw_7_23) rfl rfl rfl ⟨rfl, zyX1_corner⟩ ⟨Nat.le_of_ble_eq_true rfl, Nat.le_of_ble_eq_true rfl⟩) ⟨bS_blind, va_recv hK hP (ci := 1) (q0 := 0) rfl rfl, bS_pre hP hK hD hN⟩ rfl rfl hl.1 rfl (lv_room (Nat.le_of_ble_eq_true rfl)) dX1_shiftBox_29 ⟨Nat.zero_le _, Nat.zero_le _⟩) hS (fun q h1 h2 => absurd h1 (Nat.not_lt.mpr h2)) (fun q h => hA q (Nat.le_trans hS.1 h)) (fun r u t H1 lc ht hvm hw hB hz1 hk1 hS => ?_)
  replace hw : x7 = r := hw; subst hw
  replace hP := zx_keep hP hk1
  refine lv_iload_n hx hb dX1_shiftBox_32 rfl (lv_at hl 3 rfl) ?_
  refine lv_iadd hx hb dX1_shiftBox_33 ?_
  obtain ⟨T9, hz10, hM⟩ := zx_b1E hM
  refine va_callv (va_runV (As := [.int p1, .int (x1 + p2), .int (x3 + p3), .int (x5 + p2), .int (x7 + p3)]) (rest := []) ⟨hx, hb, hml, hown, hts⟩ (c_X1_setBox l D cI cZ cT h ad S _ N p1 (x1 + p2) (x3 + p3) (x5 + p2) (x7 + p3)  hz10) (cwV 5 hts (zg_V zw_15_14 zw_11_13 zw_11_14 zw_1_14 zw_11_15) rfl rfl rfl ⟨rfl, zyX1_setBox⟩ ⟨Nat.le_of_ble_eq_true rfl, Nat.le_of_ble_eq_true rfl⟩) ⟨bS_blind, va_recv hK hP (ci := 1) (q0 := 0) rfl rfl, bS_pre hP hK hD hN⟩ rfl rfl hl.1 rfl (lv_room (Nat.le_of_ble_eq_true rfl)) dX1_shiftBox_34 ⟨Nat.zero_le _, Nat.zero_le _⟩) hS (fun q _ h => zx_fW hD hS hA q h) (fun q h => zx_fW hD hS hA q h) (fun u t H1 lc ht hvm hw hB hz1 hk1 hS => ?_)
  replace hw : T9 = u := hw; subst hw
  rw [ht] at hB
  replace hP := hB
  replace hD := xW1_D T9 hD
  rw [hQ]
  exact W.vret hx hb hr (fun t ht hW => ⟨⟨T9, rfl, (Option.some.inj hM).symm, by show va_P D vwCl _ t.heap; rw [ht]; exact hP⟩, hS.F ht⟩) hS.2.2 dX1_shiftBox_37

/-! ShallowBoxes$Tree.area(I)I -/
def f_X1_area (N : Nat) (p1 : Int32) (S : zx_S) : Option (Int32) :=
  (zx_n (p1 * 4) (fun x1 =>
(if x1 < 0 then
  some 0 else
  (if x1 ≤ (196 - 4) then
  (zx_rd 196 (S 0) (x1 + 2) (fun x4 =>
(zx_rd 196 (S 0) x1 (fun x6 =>
(zx_rd 196 (S 0) (x1 + 3) (fun x8 =>
(zx_rd 196 (S 0) (x1 + 1) (fun x10 =>
some (((x4 - x6) + 1) * ((x8 - x10) + 1)))))))))) else
  some 0))))
abbrev rmX1_area : Room := { frames := 0, cells := 0, slots := 0, locals := 0 }
abbrev zsX1_area : List Cond := .code yX1_area cX1_area 3 (some .int) :: wsL_law
theorem zyX1_area : yX1_area.cls ≠ "java/lang/invoke/MethodHandle" ∧ yX1_area.cls ≠ "java/lang/invoke/VarHandle" ∧ (parseMethodDescriptor yX1_area.desc).map (fun d => d.parameters.length) = some 1 := by decide +kernel
set_option maxHeartbeats 4000000 in
set_option maxRecDepth 100000 in
theorem c_X1_area (l : Launch) (D : va_G) (cI cZ cT : ClassId) (h : Nat) (ad : Nat → Nat) (S : zx_S) (sz : Nat) (N : Nat) (p1 : Int32) {R : Int32} (hM : f_X1_area N p1 S = some R) : Met l yX1_area zsX1_area rmX1_area (va_Pc [.ref h, .int p1] (bS D (zx_ty cI cZ cT) (xW1 cI h ad S) sz)) (va_Qi (fun r (_ : Unit) => R = r) (fun _ _ => True) (fun q => sz ≤ q)) 0 0 (fun q => sz ≤ q) := by
  refine Met.ofW (cc := cX1_area) (maxL := 3) (ret := (some .int)) (by decide) rfl ?_
  intro p e s m args below meth c s₁ B hml hv
  obtain ⟨rfl, hsz, hP, hK, hD0, hN⟩ := hv
  have hx := B.exec
  have hb := B.bytes
  have hr := B.returns
  have hts : ∀ w ∈ wsL_law, w.before _ s = true := fun w hw => atoms_spec (ws := zsX1_area) B.pre w (List.mem_cons_of_mem _ hw)
  have hown : s.vm.findClass RX1 = some m.cls := findClass_of_methodNamed B.named
  have hlocks := B.notSynchronized
  subst hsz
  generalize hAe : (fun q : Nat => s.heap.size ≤ q) = A
  have hA : ∀ q : Nat, s.heap.size ≤ q → A q := fun q h => by rw [← hAe]; exact h
  have hD := hD0
  have hS : va_S A s.heap s.heap [] := va_S.rf
  have hl := lv_entry ([.ref h, .int p1]) (n := 3) (Nat.le_of_ble_eq_true rfl)
  rw [lg_entry_eq]
  generalize (lg_sl ([.ref h, .int p1]) ++ List.replicate (3 - (lg_sl ([.ref h, .int p1])).length) Slot.unset).toArray = ls at hl ⊢
  have hl : lv_has ls 3 [(0, .ref h), (1, .int p1)] := hl
  generalize hQ : MQ below (va_Qi (fun r (_ : Unit) => R = r) (fun _ _ => True) A) ([.ref h, .int p1] : List Value).toArray s 0 0 A = Q9
  replace hQ := hQ.symm
  unfold f_X1_area at hM
  refine lv_iload_n hx hb dX1_area_0 rfl (lv_at hl 1 rfl) ?_
  refine lv_iconst (v := 4) hx hb dX1_area_1 (by decide) ?_
  refine lv_imul hx hb dX1_area_2 ?_
  obtain ⟨x1, ex1, hM⟩ := zx_nE hM
  refine zx_top ex1 ?_
  refine lv_istore_n (lv' := [(2, .int x1), (0, .ref h), (1, .int p1)]) hx hb dX1_area_3 rfl hl (by decide) rfl (fun ls hl => ?_)
  refine lv_iload_n hx hb dX1_area_4 rfl (lv_at hl 0 rfl) ?_
  refine lv_if_lt (tgt := 19) hx hb dX1_area_5 (by decide) (fun q2 => ?_) (fun q2 => ?_)
  · replace hM := zx_t q2 hM
    refine lv_iconst (v := 0) hx hb dX1_area_19 (by decide) ?_
    rw [hQ]
    exact W.iret hx hb hr (fun t ht hW => ⟨⟨0, (), rfl, (Option.some.inj hM).symm, trivial⟩, hS.F ht⟩) hS.2.2 dX1_area_20
  · replace hM := zx_f q2 hM
    refine lv_iload_n hx hb dX1_area_8 rfl (lv_at hl 0 rfl) ?_
    refine lv_aload_n hx hb dX1_area_9 rfl (lv_at hl 1 rfl) ?_
    refine va_get (D := D) (ci := 1) (v := .ref (ad 0)) (C := RX1) (T := TX1) (N := 14) hx hb hts inlX1 hown hK hP 0 rfl rfl 0 (by decide) (hts _ zw_2_5) (fun _ h9 => h9) rfl dX1_area_10 ?_
    refine va_alen (D := D) (v := 196) hx hb hK hP 1 0 rfl rfl rfl dX1_area_13 ?_
    refine lv_iconst (v := 4) hx hb dX1_area_14 (by decide) ?_
    refine lv_isub hx hb dX1_area_15 ?_
    refine lv_icmp_le (tgt := 21) hx hb dX1_area_16 (by decide) (fun q3 => ?_) (fun q3 => ?_)
    · replace hM := zx_t q3 hM
      refine lv_aload_n hx hb dX1_area_21 rfl (lv_at hl 1 rfl) ?_
      refine va_get (D := D) (ci := 1) (v := .ref (ad 0)) (C := RX1) (T := TX1) (N := 14) hx hb hts inlX1 hown hK hP 0 rfl rfl 0 (by decide) (hts _ zw_2_5) (fun _ h9 => h9) rfl dX1_area_22 ?_
      refine lv_iload_n hx hb dX1_area_25 rfl (lv_at hl 0 rfl) ?_
      refine lv_iconst (v := 2) hx hb dX1_area_26 (by decide) ?_
      refine lv_iadd hx hb dX1_area_27 ?_
      obtain ⟨x4, q5, ex4, hM⟩ := zx_rdE hM
      refine va_iald (D := D) hx hb hK hP 1 0 rfl rfl q5 dX1_area_28 ?_
      refine zx_top ex4 ?_
      refine lv_aload_n hx hb dX1_area_29 rfl (lv_at hl 1 rfl) ?_
      refine va_get (D := D) (ci := 1) (v := .ref (ad 0)) (C := RX1) (T := TX1) (N := 14) hx hb hts inlX1 hown hK hP 0 rfl rfl 0 (by decide) (hts _ zw_2_5) (fun _ h9 => h9) rfl dX1_area_30 ?_
      refine lv_iload_n hx hb dX1_area_33 rfl (lv_at hl 0 rfl) ?_
      obtain ⟨x6, q7, ex6, hM⟩ := zx_rdE hM
      refine va_iald (D := D) hx hb hK hP 1 0 rfl rfl q7 dX1_area_34 ?_
      refine zx_top ex6 ?_
      refine lv_isub hx hb dX1_area_35 ?_
      refine lv_iconst (v := 1) hx hb dX1_area_36 (by decide) ?_
      refine lv_iadd hx hb dX1_area_37 ?_
      refine lv_aload_n hx hb dX1_area_38 rfl (lv_at hl 1 rfl) ?_
      refine va_get (D := D) (ci := 1) (v := .ref (ad 0)) (C := RX1) (T := TX1) (N := 14) hx hb hts inlX1 hown hK hP 0 rfl rfl 0 (by decide) (hts _ zw_2_5) (fun _ h9 => h9) rfl dX1_area_39 ?_
      refine lv_iload_n hx hb dX1_area_42 rfl (lv_at hl 0 rfl) ?_
      refine lv_iconst (v := 3) hx hb dX1_area_43 (by decide) ?_
      refine lv_iadd hx hb dX1_area_44 ?_
      obtain ⟨x8, q9, ex8, hM⟩ := zx_rdE hM
      refine va_iald (D := D) hx hb hK hP 1 0 rfl rfl q9 dX1_area_45 ?_
      refine zx_top ex8 ?_
      refine lv_aload_n hx hb dX1_area_46 rfl (lv_at hl 1 rfl) ?_
      refine va_get (D := D) (ci := 1) (v := .ref (ad 0)) (C := RX1) (T := TX1) (N := 14) hx hb hts inlX1 hown hK hP 0 rfl rfl 0 (by decide) (hts _ zw_2_5) (fun _ h9 => h9) rfl dX1_area_47 ?_
      refine lv_iload_n hx hb dX1_area_50 rfl (lv_at hl 0 rfl) ?_
      refine lv_iconst (v := 1) hx hb dX1_area_51 (by decide) ?_
      refine lv_iadd hx hb dX1_area_52 ?_
      obtain ⟨x10, q11, ex10, hM⟩ := zx_rdE hM
      refine va_iald (D := D) hx hb hK hP 1 0 rfl rfl q11 dX1_area_53 ?_
      refine zx_top ex10 ?_
      refine lv_isub hx hb dX1_area_54 ?_
      refine lv_iconst (v := 1) hx hb dX1_area_55 (by decide) ?_
      refine lv_iadd hx hb dX1_area_56 ?_
      refine lv_imul hx hb dX1_area_57 ?_
      rw [hQ]
      exact W.iret hx hb hr (fun t ht hW => ⟨⟨(((x4 - x6) + 1) * ((x8 - x10) + 1)), (), rfl, (Option.some.inj hM).symm, trivial⟩, hS.F ht⟩) hS.2.2 dX1_area_58
    · replace hM := zx_f q3 hM
      refine lv_iconst (v := 0) hx hb dX1_area_19 (by decide) ?_
      rw [hQ]
      exact W.iret hx hb hr (fun t ht hW => ⟨⟨0, (), rfl, (Option.some.inj hM).symm, trivial⟩, hS.F ht⟩) hS.2.2 dX1_area_20

/-! ShallowBoxes$Tree.joinArea(II)I -/
def f_X1_joinArea (N : Nat) (p1 : Int32) (p2 : Int32) (S : zx_S) : Option (Int32) :=
  (zx_n (p1 * 4) (fun x1 =>
(zx_n (p2 * 4) (fun x2 =>
(if x1 < 0 then
  some 0 else
  (if (196 - 4) < x1 then
  some 0 else
  (if x2 < 0 then
  some 0 else
  (if x2 ≤ (196 - 4) then
  (zx_rd 196 (S 0) (x1 + 2) (fun x7 =>
(zx_rd 196 (S 0) (x2 + 2) (fun x9 =>
(zx_n (if x7 < x9 then x9 else x7) (fun x11 =>
(zx_rd 196 (S 0) x1 (fun x12 =>
(zx_rd 196 (S 0) x2 (fun x14 =>
(zx_n (if x14 < x12 then x14 else x12) (fun x16 =>
(zx_n ((x11 - x16) + 1) (fun x17 =>
(zx_rd 196 (S 0) (x1 + 3) (fun x18 =>
(zx_rd 196 (S 0) (x2 + 3) (fun x20 =>
(zx_n (if x18 < x20 then x20 else x18) (fun x22 =>
(zx_rd 196 (S 0) (x1 + 1) (fun x23 =>
(zx_rd 196 (S 0) (x2 + 1) (fun x25 =>
(zx_n (if x25 < x23 then x25 else x23) (fun x27 =>
(zx_n ((x22 - x27) + 1) (fun x28 =>
some (x17 * x28))))))))))))))))))))))))))))) else
  some 0))))))))
abbrev rmX1_joinArea : Room := { frames := 1, cells := 0, slots := 0, locals := 21 }
abbrev zsX1_joinArea : List Cond := .code yX1_joinArea cX1_joinArea 7 (some .int) :: wsL_law
theorem zyX1_joinArea : yX1_joinArea.cls ≠ "java/lang/invoke/MethodHandle" ∧ yX1_joinArea.cls ≠ "java/lang/invoke/VarHandle" ∧ (parseMethodDescriptor yX1_joinArea.desc).map (fun d => d.parameters.length) = some 2 := by decide +kernel
set_option maxHeartbeats 4000000 in
set_option maxRecDepth 100000 in
theorem c_X1_joinArea (l : Launch) (D : va_G) (cI cZ cT : ClassId) (h : Nat) (ad : Nat → Nat) (S : zx_S) (sz : Nat) (N : Nat) (p1 : Int32) (p2 : Int32) {R : Int32} (hM : f_X1_joinArea N p1 p2 S = some R) : Met l yX1_joinArea zsX1_joinArea rmX1_joinArea (va_Pc [.ref h, .int p1, .int p2] (bS D (zx_ty cI cZ cT) (xW1 cI h ad S) sz)) (va_Qi (fun r (_ : Unit) => R = r) (fun _ _ => True) (fun q => sz ≤ q)) 0 0 (fun q => sz ≤ q) := by
  refine Met.ofW (cc := cX1_joinArea) (maxL := 7) (ret := (some .int)) (by decide) rfl ?_
  intro p e s m args below meth c s₁ B hml hv
  obtain ⟨rfl, hsz, hP, hK, hD0, hN⟩ := hv
  have hx := B.exec
  have hb := B.bytes
  have hr := B.returns
  have hts : ∀ w ∈ wsL_law, w.before _ s = true := fun w hw => atoms_spec (ws := zsX1_joinArea) B.pre w (List.mem_cons_of_mem _ hw)
  have hown : s.vm.findClass RX1 = some m.cls := findClass_of_methodNamed B.named
  have hlocks := B.notSynchronized
  subst hsz
  generalize hAe : (fun q : Nat => s.heap.size ≤ q) = A
  have hA : ∀ q : Nat, s.heap.size ≤ q → A q := fun q h => by rw [← hAe]; exact h
  have hD := hD0
  have hS : va_S A s.heap s.heap [] := va_S.rf
  have hl := lv_entry ([.ref h, .int p1, .int p2]) (n := 7) (Nat.le_of_ble_eq_true rfl)
  rw [lg_entry_eq]
  generalize (lg_sl ([.ref h, .int p1, .int p2]) ++ List.replicate (7 - (lg_sl ([.ref h, .int p1, .int p2])).length) Slot.unset).toArray = ls at hl ⊢
  have hl : lv_has ls 7 [(0, .ref h), (1, .int p1), (2, .int p2)] := hl
  generalize hQ : MQ below (va_Qi (fun r (_ : Unit) => R = r) (fun _ _ => True) A) ([.ref h, .int p1, .int p2] : List Value).toArray s 0 0 A = Q9
  replace hQ := hQ.symm
  unfold f_X1_joinArea at hM
  refine lv_iload_n hx hb dX1_joinArea_0 rfl (lv_at hl 1 rfl) ?_
  refine lv_iconst (v := 4) hx hb dX1_joinArea_1 (by decide) ?_
  refine lv_imul hx hb dX1_joinArea_2 ?_
  obtain ⟨x1, ex1, hM⟩ := zx_nE hM
  refine zx_top ex1 ?_
  refine lv_istore_n (lv' := [(3, .int x1), (0, .ref h), (1, .int p1), (2, .int p2)]) hx hb dX1_joinArea_3 rfl hl (by decide) rfl (fun ls hl => ?_)
  refine lv_iload_n hx hb dX1_joinArea_4 rfl (lv_at hl 3 rfl) ?_
  refine lv_iconst (v := 4) hx hb dX1_joinArea_5 (by decide) ?_
  refine lv_imul hx hb dX1_joinArea_6 ?_
  obtain ⟨x2, ex2, hM⟩ := zx_nE hM
  refine zx_top ex2 ?_
  refine lv_istore (lv' := [(4, .int x2), (3, .int x1), (0, .ref h), (1, .int p1), (2, .int p2)]) hx hb dX1_joinArea_7 hl (by decide) rfl (fun ls hl => ?_)
  refine lv_iload_n hx hb dX1_joinArea_9 rfl (lv_at hl 1 rfl) ?_
  refine lv_if_lt (tgt := 41) hx hb dX1_joinArea_10 (by decide) (fun q3 => ?_) (fun q3 => ?_)
  · replace hM := zx_t q3 hM
    refine lv_iconst (v := 0) hx hb dX1_joinArea_41 (by decide) ?_
    rw [hQ]
    exact W.iret hx hb hr (fun t ht hW => ⟨⟨0, (), rfl, (Option.some.inj hM).symm, trivial⟩, hS.F ht⟩) hS.2.2 dX1_joinArea_42
  · replace hM := zx_f q3 hM
    refine lv_iload_n hx hb dX1_joinArea_13 rfl (lv_at hl 1 rfl) ?_
    refine lv_aload_n hx hb dX1_joinArea_14 rfl (lv_at hl 2 rfl) ?_
    refine va_get (D := D) (ci := 1) (v := .ref (ad 0)) (C := RX1) (T := TX1) (N := 14) hx hb hts inlX1 hown hK hP 0 rfl rfl 0 (by decide) (hts _ zw_2_5) (fun _ h9 => h9) rfl dX1_joinArea_15 ?_
    refine va_alen (D := D) (v := 196) hx hb hK hP 1 0 rfl rfl rfl dX1_joinArea_18 ?_
    refine lv_iconst (v := 4) hx hb dX1_joinArea_19 (by decide) ?_
    refine lv_isub hx hb dX1_joinArea_20 ?_
    refine lv_icmp_gt (tgt := 41) hx hb dX1_joinArea_21 (by decide) (fun q4 => ?_) (fun q4 => ?_)
    · replace hM := zx_t q4 hM
      refine lv_iconst (v := 0) hx hb dX1_joinArea_41 (by decide) ?_
      rw [hQ]
      exact W.iret hx hb hr (fun t ht hW => ⟨⟨0, (), rfl, (Option.some.inj hM).symm, trivial⟩, hS.F ht⟩) hS.2.2 dX1_joinArea_42
    · replace hM := zx_f q4 hM
      refine lv_iload hx hb dX1_joinArea_24 (lv_at hl 0 rfl) ?_
      refine lv_if_lt (tgt := 41) hx hb dX1_joinArea_26 (by decide) (fun q5 => ?_) (fun q5 => ?_)
      · replace hM := zx_t q5 hM
        refine lv_iconst (v := 0) hx hb dX1_joinArea_41 (by decide) ?_
        rw [hQ]
        exact W.iret hx hb hr (fun t ht hW => ⟨⟨0, (), rfl, (Option.some.inj hM).symm, trivial⟩, hS.F ht⟩) hS.2.2 dX1_joinArea_42
      · replace hM := zx_f q5 hM
        refine lv_iload hx hb dX1_joinArea_29 (lv_at hl 0 rfl) ?_
        refine lv_aload_n hx hb dX1_joinArea_31 rfl (lv_at hl 2 rfl) ?_
        refine va_get (D := D) (ci := 1) (v := .ref (ad 0)) (C := RX1) (T := TX1) (N := 14) hx hb hts inlX1 hown hK hP 0 rfl rfl 0 (by decide) (hts _ zw_2_5) (fun _ h9 => h9) rfl dX1_joinArea_32 ?_
        refine va_alen (D := D) (v := 196) hx hb hK hP 1 0 rfl rfl rfl dX1_joinArea_35 ?_
        refine lv_iconst (v := 4) hx hb dX1_joinArea_36 (by decide) ?_
        refine lv_isub hx hb dX1_joinArea_37 ?_
        refine lv_icmp_le (tgt := 43) hx hb dX1_joinArea_38 (by decide) (fun q6 => ?_) (fun q6 => ?_)
        · replace hM := zx_t q6 hM
          refine lv_aload_n hx hb dX1_joinArea_43 rfl (lv_at hl 2 rfl) ?_
          refine va_get (D := D) (ci := 1) (v := .ref (ad 0)) (C := RX1) (T := TX1) (N := 14) hx hb hts inlX1 hown hK hP 0 rfl rfl 0 (by decide) (hts _ zw_2_5) (fun _ h9 => h9) rfl dX1_joinArea_44 ?_
          refine lv_iload_n hx hb dX1_joinArea_47 rfl (lv_at hl 1 rfl) ?_
          refine lv_iconst (v := 2) hx hb dX1_joinArea_48 (by decide) ?_
          refine lv_iadd hx hb dX1_joinArea_49 ?_
          obtain ⟨x7, q8, ex7, hM⟩ := zx_rdE hM
          refine va_iald (D := D) hx hb hK hP 1 0 rfl rfl q8 dX1_joinArea_50 ?_
          refine zx_top ex7 ?_
          refine lv_aload_n hx hb dX1_joinArea_51 rfl (lv_at hl 2 rfl) ?_
          refine va_get (D := D) (ci := 1) (v := .ref (ad 0)) (C := RX1) (T := TX1) (N := 14) hx hb hts inlX1 hown hK hP 0 rfl rfl 0 (by decide) (hts _ zw_2_5) (fun _ h9 => h9) rfl dX1_joinArea_52 ?_
          refine lv_iload hx hb dX1_joinArea_55 (lv_at hl 0 rfl) ?_
          refine lv_iconst (v := 2) hx hb dX1_joinArea_57 (by decide) ?_
          refine lv_iadd hx hb dX1_joinArea_58 ?_
          obtain ⟨x9, q10, ex9, hM⟩ := zx_rdE hM
          refine va_iald (D := D) hx hb hK hP 1 0 rfl rfl q10 dX1_joinArea_59 ?_
          refine zx_top ex9 ?_
          refine va_mmax hx hb (hml.trans hl.1.symm) hown (hts _ zw_6_11) (hts _ zw_6_12) (hts _ zw_6_9) (hts _ zw_6_13) (Nat.le_of_ble_eq_true rfl) (Nat.le_of_ble_eq_true rfl) (Nat.zero_le _) (Nat.zero_le _) dX1_joinArea_60 ?_
          obtain ⟨x11, ex11, hM⟩ := zx_nE hM
          refine zx_top ex11 ?_
          refine lv_aload_n hx hb dX1_joinArea_63 rfl (lv_at hl 2 rfl) ?_
          refine va_get (D := D) (ci := 1) (v := .ref (ad 0)) (C := RX1) (T := TX1) (N := 14) hx hb hts inlX1 hown hK hP 0 rfl rfl 0 (by decide) (hts _ zw_2_5) (fun _ h9 => h9) rfl dX1_joinArea_64 ?_
          refine lv_iload_n hx hb dX1_joinArea_67 rfl (lv_at hl 1 rfl) ?_
          obtain ⟨x12, q13, ex12, hM⟩ := zx_rdE hM
          refine va_iald (D := D) hx hb hK hP 1 0 rfl rfl q13 dX1_joinArea_68 ?_
          refine zx_top ex12 ?_
          refine lv_aload_n hx hb dX1_joinArea_69 rfl (lv_at hl 2 rfl) ?_
          refine va_get (D := D) (ci := 1) (v := .ref (ad 0)) (C := RX1) (T := TX1) (N := 14) hx hb hts inlX1 hown hK hP 0 rfl rfl 0 (by decide) (hts _ zw_2_5) (fun _ h9 => h9) rfl dX1_joinArea_70 ?_
          refine lv_iload hx hb dX1_joinArea_73 (lv_at hl 0 rfl) ?_
          obtain ⟨x14, q15, ex14, hM⟩ := zx_rdE hM
          refine va_iald (D := D) hx hb hK hP 1 0 rfl rfl q15 dX1_joinArea_75 ?_
          refine zx_top ex14 ?_
          refine va_mmin hx hb (hml.trans hl.1.symm) hown (hts _ zw_6_7) (hts _ zw_6_8) (hts _ zw_6_9) (hts _ zw_6_10) (Nat.le_of_ble_eq_true rfl) (Nat.le_of_ble_eq_true rfl) (Nat.zero_le _) (Nat.zero_le _) dX1_joinArea_76 ?_
          obtain ⟨x16, ex16, hM⟩ := zx_nE hM
          refine zx_top ex16 ?_
          refine lv_isub hx hb dX1_joinArea_79 ?_
          refine lv_iconst (v := 1) hx hb dX1_joinArea_80 (by decide) ?_
          refine lv_iadd hx hb dX1_joinArea_81 ?_
          obtain ⟨x17, ex17, hM⟩ := zx_nE hM
          refine zx_top ex17 ?_
          refine lv_istore (lv' := [(5, .int x17), (4, .int x2), (3, .int x1), (0, .ref h), (1, .int p1), (2, .int p2)]) hx hb dX1_joinArea_82 hl (by decide) rfl (fun ls hl => ?_)
          refine lv_aload_n hx hb dX1_joinArea_84 rfl (lv_at hl 3 rfl) ?_
          refine va_get (D := D) (ci := 1) (v := .ref (ad 0)) (C := RX1) (T := TX1) (N := 14) hx hb hts inlX1 hown hK hP 0 rfl rfl 0 (by decide) (hts _ zw_2_5) (fun _ h9 => h9) rfl dX1_joinArea_85 ?_
          refine lv_iload_n hx hb dX1_joinArea_88 rfl (lv_at hl 2 rfl) ?_
          refine lv_iconst (v := 3) hx hb dX1_joinArea_89 (by decide) ?_
          refine lv_iadd hx hb dX1_joinArea_90 ?_
          obtain ⟨x18, q19, ex18, hM⟩ := zx_rdE hM
          refine va_iald (D := D) hx hb hK hP 1 0 rfl rfl q19 dX1_joinArea_91 ?_
          refine zx_top ex18 ?_
          refine lv_aload_n hx hb dX1_joinArea_92 rfl (lv_at hl 3 rfl) ?_
          refine va_get (D := D) (ci := 1) (v := .ref (ad 0)) (C := RX1) (T := TX1) (N := 14) hx hb hts inlX1 hown hK hP 0 rfl rfl 0 (by decide) (hts _ zw_2_5) (fun _ h9 => h9) rfl dX1_joinArea_93 ?_
          refine lv_iload hx hb dX1_joinArea_96 (lv_at hl 1 rfl) ?_
          refine lv_iconst (v := 3) hx hb dX1_joinArea_98 (by decide) ?_
          refine lv_iadd hx hb dX1_joinArea_99 ?_
          obtain ⟨x20, q21, ex20, hM⟩ := zx_rdE hM
          refine va_iald (D := D) hx hb hK hP 1 0 rfl rfl q21 dX1_joinArea_100 ?_
          refine zx_top ex20 ?_
          refine va_mmax hx hb (hml.trans hl.1.symm) hown (hts _ zw_6_11) (hts _ zw_6_12) (hts _ zw_6_9) (hts _ zw_6_13) (Nat.le_of_ble_eq_true rfl) (Nat.le_of_ble_eq_true rfl) (Nat.zero_le _) (Nat.zero_le _) dX1_joinArea_101 ?_
          obtain ⟨x22, ex22, hM⟩ := zx_nE hM
          refine zx_top ex22 ?_
          refine lv_aload_n hx hb dX1_joinArea_104 rfl (lv_at hl 3 rfl) ?_
          refine va_get (D := D) (ci := 1) (v := .ref (ad 0)) (C := RX1) (T := TX1) (N := 14) hx hb hts inlX1 hown hK hP 0 rfl rfl 0 (by decide) (hts _ zw_2_5) (fun _ h9 => h9) rfl dX1_joinArea_105 ?_
          refine lv_iload_n hx hb dX1_joinArea_108 rfl (lv_at hl 2 rfl) ?_
          refine lv_iconst (v := 1) hx hb dX1_joinArea_109 (by decide) ?_
          refine lv_iadd hx hb dX1_joinArea_110 ?_
          obtain ⟨x23, q24, ex23, hM⟩ := zx_rdE hM
          refine va_iald (D := D) hx hb hK hP 1 0 rfl rfl q24 dX1_joinArea_111 ?_
          refine zx_top ex23 ?_
          refine lv_aload_n hx hb dX1_joinArea_112 rfl (lv_at hl 3 rfl) ?_
          refine va_get (D := D) (ci := 1) (v := .ref (ad 0)) (C := RX1) (T := TX1) (N := 14) hx hb hts inlX1 hown hK hP 0 rfl rfl 0 (by decide) (hts _ zw_2_5) (fun _ h9 => h9) rfl dX1_joinArea_113 ?_
          refine lv_iload hx hb dX1_joinArea_116 (lv_at hl 1 rfl) ?_
          refine lv_iconst (v := 1) hx hb dX1_joinArea_118 (by decide) ?_
          refine lv_iadd hx hb dX1_joinArea_119 ?_
          obtain ⟨x25, q26, ex25, hM⟩ := zx_rdE hM
          refine va_iald (D := D) hx hb hK hP 1 0 rfl rfl q26 dX1_joinArea_120 ?_
          refine zx_top ex25 ?_
          refine va_mmin hx hb (hml.trans hl.1.symm) hown (hts _ zw_6_7) (hts _ zw_6_8) (hts _ zw_6_9) (hts _ zw_6_10) (Nat.le_of_ble_eq_true rfl) (Nat.le_of_ble_eq_true rfl) (Nat.zero_le _) (Nat.zero_le _) dX1_joinArea_121 ?_
          obtain ⟨x27, ex27, hM⟩ := zx_nE hM
          refine zx_top ex27 ?_
          refine lv_isub hx hb dX1_joinArea_124 ?_
          refine lv_iconst (v := 1) hx hb dX1_joinArea_125 (by decide) ?_
          refine lv_iadd hx hb dX1_joinArea_126 ?_
          obtain ⟨x28, ex28, hM⟩ := zx_nE hM
          refine zx_top ex28 ?_
          refine lv_istore (lv' := [(6, .int x28), (5, .int x17), (4, .int x2), (3, .int x1), (0, .ref h), (1, .int p1), (2, .int p2)]) hx hb dX1_joinArea_127 hl (by decide) rfl (fun ls hl => ?_)
          refine lv_iload hx hb dX1_joinArea_129 (lv_at hl 1 rfl) ?_
          refine lv_iload hx hb dX1_joinArea_131 (lv_at hl 0 rfl) ?_
          refine lv_imul hx hb dX1_joinArea_133 ?_
          rw [hQ]
          exact W.iret hx hb hr (fun t ht hW => ⟨⟨(x17 * x28), (), rfl, (Option.some.inj hM).symm, trivial⟩, hS.F ht⟩) hS.2.2 dX1_joinArea_134
        · replace hM := zx_f q6 hM
          refine lv_iconst (v := 0) hx hb dX1_joinArea_41 (by decide) ?_
          rw [hQ]
          exact W.iret hx hb hr (fun t ht hW => ⟨⟨0, (), rfl, (Option.some.inj hM).symm, trivial⟩, hS.F ht⟩) hS.2.2 dX1_joinArea_42

/-! ShallowBoxes$Tree.commonCells(II)I -/
def f_X1_commonCells (N : Nat) (p1 : Int32) (p2 : Int32) (S : zx_S) : Option (Int32) :=
  (zx_n (p1 * 4) (fun x1 =>
(zx_n (p2 * 4) (fun x2 =>
(if x1 < 0 then
  some 0 else
  (if (196 - 4) < x1 then
  some 0 else
  (if x2 < 0 then
  some 0 else
  (if x2 ≤ (196 - 4) then
  (zx_rd 196 (S 0) (x1 + 2) (fun x7 =>
(zx_rd 196 (S 0) (x2 + 2) (fun x9 =>
(zx_n (if x9 < x7 then x9 else x7) (fun x11 =>
(zx_rd 196 (S 0) x1 (fun x12 =>
(zx_rd 196 (S 0) x2 (fun x14 =>
(zx_n (if x12 < x14 then x14 else x12) (fun x16 =>
(zx_n ((x11 - x16) + 1) (fun x17 =>
(zx_rd 196 (S 0) (x1 + 3) (fun x18 =>
(zx_rd 196 (S 0) (x2 + 3) (fun x20 =>
(zx_n (if x20 < x18 then x20 else x18) (fun x22 =>
(zx_rd 196 (S 0) (x1 + 1) (fun x23 =>
(zx_rd 196 (S 0) (x2 + 1) (fun x25 =>
(zx_n (if x23 < x25 then x25 else x23) (fun x27 =>
(zx_n ((x22 - x27) + 1) (fun x28 =>
(if x17 ≤ 0 then
  some 0 else
  (if x28 ≤ 0 then
  some 0 else
  some (x17 * x28))))))))))))))))))))))))))))))) else
  some 0))))))))
abbrev rmX1_commonCells : Room := { frames := 1, cells := 0, slots := 0, locals := 21 }
abbrev zsX1_commonCells : List Cond := .code yX1_commonCells cX1_commonCells 7 (some .int) :: wsL_law
theorem zyX1_commonCells : yX1_commonCells.cls ≠ "java/lang/invoke/MethodHandle" ∧ yX1_commonCells.cls ≠ "java/lang/invoke/VarHandle" ∧ (parseMethodDescriptor yX1_commonCells.desc).map (fun d => d.parameters.length) = some 2 := by decide +kernel
set_option maxHeartbeats 4000000 in
set_option maxRecDepth 100000 in
theorem c_X1_commonCells (l : Launch) (D : va_G) (cI cZ cT : ClassId) (h : Nat) (ad : Nat → Nat) (S : zx_S) (sz : Nat) (N : Nat) (p1 : Int32) (p2 : Int32) {R : Int32} (hM : f_X1_commonCells N p1 p2 S = some R) : Met l yX1_commonCells zsX1_commonCells rmX1_commonCells (va_Pc [.ref h, .int p1, .int p2] (bS D (zx_ty cI cZ cT) (xW1 cI h ad S) sz)) (va_Qi (fun r (_ : Unit) => R = r) (fun _ _ => True) (fun q => sz ≤ q)) 0 0 (fun q => sz ≤ q) := by
  refine Met.ofW (cc := cX1_commonCells) (maxL := 7) (ret := (some .int)) (by decide) rfl ?_
  intro p e s m args below meth c s₁ B hml hv
  obtain ⟨rfl, hsz, hP, hK, hD0, hN⟩ := hv
  have hx := B.exec
  have hb := B.bytes
  have hr := B.returns
  have hts : ∀ w ∈ wsL_law, w.before _ s = true := fun w hw => atoms_spec (ws := zsX1_commonCells) B.pre w (List.mem_cons_of_mem _ hw)
  have hown : s.vm.findClass RX1 = some m.cls := findClass_of_methodNamed B.named
  have hlocks := B.notSynchronized
  subst hsz
  generalize hAe : (fun q : Nat => s.heap.size ≤ q) = A
  have hA : ∀ q : Nat, s.heap.size ≤ q → A q := fun q h => by rw [← hAe]; exact h
  have hD := hD0
  have hS : va_S A s.heap s.heap [] := va_S.rf
  have hl := lv_entry ([.ref h, .int p1, .int p2]) (n := 7) (Nat.le_of_ble_eq_true rfl)
  rw [lg_entry_eq]
  generalize (lg_sl ([.ref h, .int p1, .int p2]) ++ List.replicate (7 - (lg_sl ([.ref h, .int p1, .int p2])).length) Slot.unset).toArray = ls at hl ⊢
  have hl : lv_has ls 7 [(0, .ref h), (1, .int p1), (2, .int p2)] := hl
  generalize hQ : MQ below (va_Qi (fun r (_ : Unit) => R = r) (fun _ _ => True) A) ([.ref h, .int p1, .int p2] : List Value).toArray s 0 0 A = Q9
  replace hQ := hQ.symm
  unfold f_X1_commonCells at hM
  refine lv_iload_n hx hb dX1_commonCells_0 rfl (lv_at hl 1 rfl) ?_
  refine lv_iconst (v := 4) hx hb dX1_commonCells_1 (by decide) ?_
  refine lv_imul hx hb dX1_commonCells_2 ?_
  obtain ⟨x1, ex1, hM⟩ := zx_nE hM
  refine zx_top ex1 ?_
  refine lv_istore_n (lv' := [(3, .int x1), (0, .ref h), (1, .int p1), (2, .int p2)]) hx hb dX1_commonCells_3 rfl hl (by decide) rfl (fun ls hl => ?_)
  refine lv_iload_n hx hb dX1_commonCells_4 rfl (lv_at hl 3 rfl) ?_
  refine lv_iconst (v := 4) hx hb dX1_commonCells_5 (by decide) ?_
  refine lv_imul hx hb dX1_commonCells_6 ?_
  obtain ⟨x2, ex2, hM⟩ := zx_nE hM
  refine zx_top ex2 ?_
  refine lv_istore (lv' := [(4, .int x2), (3, .int x1), (0, .ref h), (1, .int p1), (2, .int p2)]) hx hb dX1_commonCells_7 hl (by decide) rfl (fun ls hl => ?_)
  refine lv_iload_n hx hb dX1_commonCells_9 rfl (lv_at hl 1 rfl) ?_
  refine lv_if_lt (tgt := 41) hx hb dX1_commonCells_10 (by decide) (fun q3 => ?_) (fun q3 => ?_)
  · replace hM := zx_t q3 hM
    refine lv_iconst (v := 0) hx hb dX1_commonCells_41 (by decide) ?_
    rw [hQ]
    exact W.iret hx hb hr (fun t ht hW => ⟨⟨0, (), rfl, (Option.some.inj hM).symm, trivial⟩, hS.F ht⟩) hS.2.2 dX1_commonCells_42
  · replace hM := zx_f q3 hM
    refine lv_iload_n hx hb dX1_commonCells_13 rfl (lv_at hl 1 rfl) ?_
    refine lv_aload_n hx hb dX1_commonCells_14 rfl (lv_at hl 2 rfl) ?_
    refine va_get (D := D) (ci := 1) (v := .ref (ad 0)) (C := RX1) (T := TX1) (N := 14) hx hb hts inlX1 hown hK hP 0 rfl rfl 0 (by decide) (hts _ zw_2_5) (fun _ h9 => h9) rfl dX1_commonCells_15 ?_
    refine va_alen (D := D) (v := 196) hx hb hK hP 1 0 rfl rfl rfl dX1_commonCells_18 ?_
    refine lv_iconst (v := 4) hx hb dX1_commonCells_19 (by decide) ?_
    refine lv_isub hx hb dX1_commonCells_20 ?_
    refine lv_icmp_gt (tgt := 41) hx hb dX1_commonCells_21 (by decide) (fun q4 => ?_) (fun q4 => ?_)
    · replace hM := zx_t q4 hM
      refine lv_iconst (v := 0) hx hb dX1_commonCells_41 (by decide) ?_
      rw [hQ]
      exact W.iret hx hb hr (fun t ht hW => ⟨⟨0, (), rfl, (Option.some.inj hM).symm, trivial⟩, hS.F ht⟩) hS.2.2 dX1_commonCells_42
    · replace hM := zx_f q4 hM
      refine lv_iload hx hb dX1_commonCells_24 (lv_at hl 0 rfl) ?_
      refine lv_if_lt (tgt := 41) hx hb dX1_commonCells_26 (by decide) (fun q5 => ?_) (fun q5 => ?_)
      · replace hM := zx_t q5 hM
        refine lv_iconst (v := 0) hx hb dX1_commonCells_41 (by decide) ?_
        rw [hQ]
        exact W.iret hx hb hr (fun t ht hW => ⟨⟨0, (), rfl, (Option.some.inj hM).symm, trivial⟩, hS.F ht⟩) hS.2.2 dX1_commonCells_42
      · replace hM := zx_f q5 hM
        refine lv_iload hx hb dX1_commonCells_29 (lv_at hl 0 rfl) ?_
        refine lv_aload_n hx hb dX1_commonCells_31 rfl (lv_at hl 2 rfl) ?_
        refine va_get (D := D) (ci := 1) (v := .ref (ad 0)) (C := RX1) (T := TX1) (N := 14) hx hb hts inlX1 hown hK hP 0 rfl rfl 0 (by decide) (hts _ zw_2_5) (fun _ h9 => h9) rfl dX1_commonCells_32 ?_
        refine va_alen (D := D) (v := 196) hx hb hK hP 1 0 rfl rfl rfl dX1_commonCells_35 ?_
        refine lv_iconst (v := 4) hx hb dX1_commonCells_36 (by decide) ?_
        refine lv_isub hx hb dX1_commonCells_37 ?_
        refine lv_icmp_le (tgt := 43) hx hb dX1_commonCells_38 (by decide) (fun q6 => ?_) (fun q6 => ?_)
        · replace hM := zx_t q6 hM
          refine lv_aload_n hx hb dX1_commonCells_43 rfl (lv_at hl 2 rfl) ?_
          refine va_get (D := D) (ci := 1) (v := .ref (ad 0)) (C := RX1) (T := TX1) (N := 14) hx hb hts inlX1 hown hK hP 0 rfl rfl 0 (by decide) (hts _ zw_2_5) (fun _ h9 => h9) rfl dX1_commonCells_44 ?_
          refine lv_iload_n hx hb dX1_commonCells_47 rfl (lv_at hl 1 rfl) ?_
          refine lv_iconst (v := 2) hx hb dX1_commonCells_48 (by decide) ?_
          refine lv_iadd hx hb dX1_commonCells_49 ?_
          obtain ⟨x7, q8, ex7, hM⟩ := zx_rdE hM
          refine va_iald (D := D) hx hb hK hP 1 0 rfl rfl q8 dX1_commonCells_50 ?_
          refine zx_top ex7 ?_
          refine lv_aload_n hx hb dX1_commonCells_51 rfl (lv_at hl 2 rfl) ?_
          refine va_get (D := D) (ci := 1) (v := .ref (ad 0)) (C := RX1) (T := TX1) (N := 14) hx hb hts inlX1 hown hK hP 0 rfl rfl 0 (by decide) (hts _ zw_2_5) (fun _ h9 => h9) rfl dX1_commonCells_52 ?_
          refine lv_iload hx hb dX1_commonCells_55 (lv_at hl 0 rfl) ?_
          refine lv_iconst (v := 2) hx hb dX1_commonCells_57 (by decide) ?_
          refine lv_iadd hx hb dX1_commonCells_58 ?_
          obtain ⟨x9, q10, ex9, hM⟩ := zx_rdE hM
          refine va_iald (D := D) hx hb hK hP 1 0 rfl rfl q10 dX1_commonCells_59 ?_
          refine zx_top ex9 ?_
          refine va_mmin hx hb (hml.trans hl.1.symm) hown (hts _ zw_6_7) (hts _ zw_6_8) (hts _ zw_6_9) (hts _ zw_6_10) (Nat.le_of_ble_eq_true rfl) (Nat.le_of_ble_eq_true rfl) (Nat.zero_le _) (Nat.zero_le _) dX1_commonCells_60 ?_
          obtain ⟨x11, ex11, hM⟩ := zx_nE hM
          refine zx_top ex11 ?_
          refine lv_aload_n hx hb dX1_commonCells_63 rfl (lv_at hl 2 rfl) ?_
          refine va_get (D := D) (ci := 1) (v := .ref (ad 0)) (C := RX1) (T := TX1) (N := 14) hx hb hts inlX1 hown hK hP 0 rfl rfl 0 (by decide) (hts _ zw_2_5) (fun _ h9 => h9) rfl dX1_commonCells_64 ?_
          refine lv_iload_n hx hb dX1_commonCells_67 rfl (lv_at hl 1 rfl) ?_
          obtain ⟨x12, q13, ex12, hM⟩ := zx_rdE hM
          refine va_iald (D := D) hx hb hK hP 1 0 rfl rfl q13 dX1_commonCells_68 ?_
          refine zx_top ex12 ?_
          refine lv_aload_n hx hb dX1_commonCells_69 rfl (lv_at hl 2 rfl) ?_
          refine va_get (D := D) (ci := 1) (v := .ref (ad 0)) (C := RX1) (T := TX1) (N := 14) hx hb hts inlX1 hown hK hP 0 rfl rfl 0 (by decide) (hts _ zw_2_5) (fun _ h9 => h9) rfl dX1_commonCells_70 ?_
          refine lv_iload hx hb dX1_commonCells_73 (lv_at hl 0 rfl) ?_
          obtain ⟨x14, q15, ex14, hM⟩ := zx_rdE hM
          refine va_iald (D := D) hx hb hK hP 1 0 rfl rfl q15 dX1_commonCells_75 ?_
          refine zx_top ex14 ?_
          refine va_mmax hx hb (hml.trans hl.1.symm) hown (hts _ zw_6_11) (hts _ zw_6_12) (hts _ zw_6_9) (hts _ zw_6_13) (Nat.le_of_ble_eq_true rfl) (Nat.le_of_ble_eq_true rfl) (Nat.zero_le _) (Nat.zero_le _) dX1_commonCells_76 ?_
          obtain ⟨x16, ex16, hM⟩ := zx_nE hM
          refine zx_top ex16 ?_
          refine lv_isub hx hb dX1_commonCells_79 ?_
          refine lv_iconst (v := 1) hx hb dX1_commonCells_80 (by decide) ?_
          refine lv_iadd hx hb dX1_commonCells_81 ?_
          obtain ⟨x17, ex17, hM⟩ := zx_nE hM
          refine zx_top ex17 ?_
          refine lv_istore (lv' := [(5, .int x17), (4, .int x2), (3, .int x1), (0, .ref h), (1, .int p1), (2, .int p2)]) hx hb dX1_commonCells_82 hl (by decide) rfl (fun ls hl => ?_)
          refine lv_aload_n hx hb dX1_commonCells_84 rfl (lv_at hl 3 rfl) ?_
          refine va_get (D := D) (ci := 1) (v := .ref (ad 0)) (C := RX1) (T := TX1) (N := 14) hx hb hts inlX1 hown hK hP 0 rfl rfl 0 (by decide) (hts _ zw_2_5) (fun _ h9 => h9) rfl dX1_commonCells_85 ?_
          refine lv_iload_n hx hb dX1_commonCells_88 rfl (lv_at hl 2 rfl) ?_
          refine lv_iconst (v := 3) hx hb dX1_commonCells_89 (by decide) ?_
          refine lv_iadd hx hb dX1_commonCells_90 ?_
          obtain ⟨x18, q19, ex18, hM⟩ := zx_rdE hM
          refine va_iald (D := D) hx hb hK hP 1 0 rfl rfl q19 dX1_commonCells_91 ?_
          refine zx_top ex18 ?_
          refine lv_aload_n hx hb dX1_commonCells_92 rfl (lv_at hl 3 rfl) ?_
          refine va_get (D := D) (ci := 1) (v := .ref (ad 0)) (C := RX1) (T := TX1) (N := 14) hx hb hts inlX1 hown hK hP 0 rfl rfl 0 (by decide) (hts _ zw_2_5) (fun _ h9 => h9) rfl dX1_commonCells_93 ?_
          refine lv_iload hx hb dX1_commonCells_96 (lv_at hl 1 rfl) ?_
          refine lv_iconst (v := 3) hx hb dX1_commonCells_98 (by decide) ?_
          refine lv_iadd hx hb dX1_commonCells_99 ?_
          obtain ⟨x20, q21, ex20, hM⟩ := zx_rdE hM
          refine va_iald (D := D) hx hb hK hP 1 0 rfl rfl q21 dX1_commonCells_100 ?_
          refine zx_top ex20 ?_
          refine va_mmin hx hb (hml.trans hl.1.symm) hown (hts _ zw_6_7) (hts _ zw_6_8) (hts _ zw_6_9) (hts _ zw_6_10) (Nat.le_of_ble_eq_true rfl) (Nat.le_of_ble_eq_true rfl) (Nat.zero_le _) (Nat.zero_le _) dX1_commonCells_101 ?_
          obtain ⟨x22, ex22, hM⟩ := zx_nE hM
          refine zx_top ex22 ?_
          refine lv_aload_n hx hb dX1_commonCells_104 rfl (lv_at hl 3 rfl) ?_
          refine va_get (D := D) (ci := 1) (v := .ref (ad 0)) (C := RX1) (T := TX1) (N := 14) hx hb hts inlX1 hown hK hP 0 rfl rfl 0 (by decide) (hts _ zw_2_5) (fun _ h9 => h9) rfl dX1_commonCells_105 ?_
          refine lv_iload_n hx hb dX1_commonCells_108 rfl (lv_at hl 2 rfl) ?_
          refine lv_iconst (v := 1) hx hb dX1_commonCells_109 (by decide) ?_
          refine lv_iadd hx hb dX1_commonCells_110 ?_
          obtain ⟨x23, q24, ex23, hM⟩ := zx_rdE hM
          refine va_iald (D := D) hx hb hK hP 1 0 rfl rfl q24 dX1_commonCells_111 ?_
          refine zx_top ex23 ?_
          refine lv_aload_n hx hb dX1_commonCells_112 rfl (lv_at hl 3 rfl) ?_
          refine va_get (D := D) (ci := 1) (v := .ref (ad 0)) (C := RX1) (T := TX1) (N := 14) hx hb hts inlX1 hown hK hP 0 rfl rfl 0 (by decide) (hts _ zw_2_5) (fun _ h9 => h9) rfl dX1_commonCells_113 ?_
          refine lv_iload hx hb dX1_commonCells_116 (lv_at hl 1 rfl) ?_
          refine lv_iconst (v := 1) hx hb dX1_commonCells_118 (by decide) ?_
          refine lv_iadd hx hb dX1_commonCells_119 ?_
          obtain ⟨x25, q26, ex25, hM⟩ := zx_rdE hM
          refine va_iald (D := D) hx hb hK hP 1 0 rfl rfl q26 dX1_commonCells_120 ?_
          refine zx_top ex25 ?_
          refine va_mmax hx hb (hml.trans hl.1.symm) hown (hts _ zw_6_11) (hts _ zw_6_12) (hts _ zw_6_9) (hts _ zw_6_13) (Nat.le_of_ble_eq_true rfl) (Nat.le_of_ble_eq_true rfl) (Nat.zero_le _) (Nat.zero_le _) dX1_commonCells_121 ?_
          obtain ⟨x27, ex27, hM⟩ := zx_nE hM
          refine zx_top ex27 ?_
          refine lv_isub hx hb dX1_commonCells_124 ?_
          refine lv_iconst (v := 1) hx hb dX1_commonCells_125 (by decide) ?_
          refine lv_iadd hx hb dX1_commonCells_126 ?_
          obtain ⟨x28, ex28, hM⟩ := zx_nE hM
          refine zx_top ex28 ?_
          refine lv_istore (lv' := [(6, .int x28), (5, .int x17), (4, .int x2), (3, .int x1), (0, .ref h), (1, .int p1), (2, .int p2)]) hx hb dX1_commonCells_127 hl (by decide) rfl (fun ls hl => ?_)
          refine lv_iload hx hb dX1_commonCells_129 (lv_at hl 1 rfl) ?_
          refine lv_if_le (tgt := 147) hx hb dX1_commonCells_131 (by decide) (fun q29 => ?_) (fun q29 => ?_)
          · replace hM := zx_t q29 hM
            refine lv_iconst (v := 0) hx hb dX1_commonCells_147 (by decide) ?_
            rw [hQ]
            exact W.iret hx hb hr (fun t ht hW => ⟨⟨0, (), rfl, (Option.some.inj hM).symm, trivial⟩, hS.F ht⟩) hS.2.2 dX1_commonCells_148
          · replace hM := zx_f q29 hM
            refine lv_iload hx hb dX1_commonCells_134 (lv_at hl 0 rfl) ?_
            refine lv_if_le (tgt := 147) hx hb dX1_commonCells_136 (by decide) (fun q30 => ?_) (fun q30 => ?_)
            · replace hM := zx_t q30 hM
              refine lv_iconst (v := 0) hx hb dX1_commonCells_147 (by decide) ?_
              rw [hQ]
              exact W.iret hx hb hr (fun t ht hW => ⟨⟨0, (), rfl, (Option.some.inj hM).symm, trivial⟩, hS.F ht⟩) hS.2.2 dX1_commonCells_148
            · replace hM := zx_f q30 hM
              refine lv_iload hx hb dX1_commonCells_139 (lv_at hl 1 rfl) ?_
              refine lv_iload hx hb dX1_commonCells_141 (lv_at hl 0 rfl) ?_
              refine lv_imul hx hb dX1_commonCells_143 ?_
              refine lv_goto (tgt := 148) hx hb dX1_commonCells_144 (by decide) ?_
              rw [hQ]
              exact W.iret hx hb hr (fun t ht hW => ⟨⟨(x17 * x28), (), rfl, (Option.some.inj hM).symm, trivial⟩, hS.F ht⟩) hS.2.2 dX1_commonCells_148
        · replace hM := zx_f q6 hM
          refine lv_iconst (v := 0) hx hb dX1_commonCells_41 (by decide) ?_
          rw [hQ]
          exact W.iret hx hb hr (fun t ht hW => ⟨⟨0, (), rfl, (Option.some.inj hM).symm, trivial⟩, hS.F ht⟩) hS.2.2 dX1_commonCells_42

/-! ShallowBoxes$Tree.middleDistance(II)I -/
def f_X1_middleDistance (N : Nat) (p1 : Int32) (p2 : Int32) (S : zx_S) : Option (Int32) :=
  (zx_n (p1 * 4) (fun x1 =>
(zx_n (p2 * 4) (fun x2 =>
(if x1 < 0 then
  some 0 else
  (if (196 - 4) < x1 then
  some 0 else
  (if x2 < 0 then
  some 0 else
  (if x2 ≤ (196 - 4) then
  (zx_rd 196 (S 0) x1 (fun x7 =>
(zx_rd 196 (S 0) (x1 + 2) (fun x9 =>
(zx_rd 196 (S 0) x2 (fun x11 =>
(zx_rd 196 (S 0) (x2 + 2) (fun x13 =>
(zx_n (((x7 + x9) - x11) - x13) (fun x15 =>
(zx_rd 196 (S 0) (x1 + 1) (fun x16 =>
(zx_rd 196 (S 0) (x1 + 3) (fun x18 =>
(zx_rd 196 (S 0) (x2 + 1) (fun x20 =>
(zx_rd 196 (S 0) (x2 + 3) (fun x22 =>
(zx_n (((x16 + x18) - x20) - x22) (fun x24 =>
some ((x15 * x15) + (x24 * x24)))))))))))))))))))))) else
  some 0))))))))
abbrev rmX1_middleDistance : Room := { frames := 0, cells := 0, slots := 0, locals := 0 }
abbrev zsX1_middleDistance : List Cond := .code yX1_middleDistance cX1_middleDistance 7 (some .int) :: wsL_law
theorem zyX1_middleDistance : yX1_middleDistance.cls ≠ "java/lang/invoke/MethodHandle" ∧ yX1_middleDistance.cls ≠ "java/lang/invoke/VarHandle" ∧ (parseMethodDescriptor yX1_middleDistance.desc).map (fun d => d.parameters.length) = some 2 := by decide +kernel
set_option maxHeartbeats 4000000 in
set_option maxRecDepth 100000 in
theorem c_X1_middleDistance (l : Launch) (D : va_G) (cI cZ cT : ClassId) (h : Nat) (ad : Nat → Nat) (S : zx_S) (sz : Nat) (N : Nat) (p1 : Int32) (p2 : Int32) {R : Int32} (hM : f_X1_middleDistance N p1 p2 S = some R) : Met l yX1_middleDistance zsX1_middleDistance rmX1_middleDistance (va_Pc [.ref h, .int p1, .int p2] (bS D (zx_ty cI cZ cT) (xW1 cI h ad S) sz)) (va_Qi (fun r (_ : Unit) => R = r) (fun _ _ => True) (fun q => sz ≤ q)) 0 0 (fun q => sz ≤ q) := by
  refine Met.ofW (cc := cX1_middleDistance) (maxL := 7) (ret := (some .int)) (by decide) rfl ?_
  intro p e s m args below meth c s₁ B hml hv
  obtain ⟨rfl, hsz, hP, hK, hD0, hN⟩ := hv
  have hx := B.exec
  have hb := B.bytes
  have hr := B.returns
  have hts : ∀ w ∈ wsL_law, w.before _ s = true := fun w hw => atoms_spec (ws := zsX1_middleDistance) B.pre w (List.mem_cons_of_mem _ hw)
  have hown : s.vm.findClass RX1 = some m.cls := findClass_of_methodNamed B.named
  have hlocks := B.notSynchronized
  subst hsz
  generalize hAe : (fun q : Nat => s.heap.size ≤ q) = A
  have hA : ∀ q : Nat, s.heap.size ≤ q → A q := fun q h => by rw [← hAe]; exact h
  have hD := hD0
  have hS : va_S A s.heap s.heap [] := va_S.rf
  have hl := lv_entry ([.ref h, .int p1, .int p2]) (n := 7) (Nat.le_of_ble_eq_true rfl)
  rw [lg_entry_eq]
  generalize (lg_sl ([.ref h, .int p1, .int p2]) ++ List.replicate (7 - (lg_sl ([.ref h, .int p1, .int p2])).length) Slot.unset).toArray = ls at hl ⊢
  have hl : lv_has ls 7 [(0, .ref h), (1, .int p1), (2, .int p2)] := hl
  generalize hQ : MQ below (va_Qi (fun r (_ : Unit) => R = r) (fun _ _ => True) A) ([.ref h, .int p1, .int p2] : List Value).toArray s 0 0 A = Q9
  replace hQ := hQ.symm
  unfold f_X1_middleDistance at hM
  refine lv_iload_n hx hb dX1_middleDistance_0 rfl (lv_at hl 1 rfl) ?_
  refine lv_iconst (v := 4) hx hb dX1_middleDistance_1 (by decide) ?_
  refine lv_imul hx hb dX1_middleDistance_2 ?_
  obtain ⟨x1, ex1, hM⟩ := zx_nE hM
  refine zx_top ex1 ?_
  refine lv_istore_n (lv' := [(3, .int x1), (0, .ref h), (1, .int p1), (2, .int p2)]) hx hb dX1_middleDistance_3 rfl hl (by decide) rfl (fun ls hl => ?_)
  refine lv_iload_n hx hb dX1_middleDistance_4 rfl (lv_at hl 3 rfl) ?_
  refine lv_iconst (v := 4) hx hb dX1_middleDistance_5 (by decide) ?_
  refine lv_imul hx hb dX1_middleDistance_6 ?_
  obtain ⟨x2, ex2, hM⟩ := zx_nE hM
  refine zx_top ex2 ?_
  refine lv_istore (lv' := [(4, .int x2), (3, .int x1), (0, .ref h), (1, .int p1), (2, .int p2)]) hx hb dX1_middleDistance_7 hl (by decide) rfl (fun ls hl => ?_)
  refine lv_iload_n hx hb dX1_middleDistance_9 rfl (lv_at hl 1 rfl) ?_
  refine lv_if_lt (tgt := 41) hx hb dX1_middleDistance_10 (by decide) (fun q3 => ?_) (fun q3 => ?_)
  · replace hM := zx_t q3 hM
    refine lv_iconst (v := 0) hx hb dX1_middleDistance_41 (by decide) ?_
    rw [hQ]
    exact W.iret hx hb hr (fun t ht hW => ⟨⟨0, (), rfl, (Option.some.inj hM).symm, trivial⟩, hS.F ht⟩) hS.2.2 dX1_middleDistance_42
  · replace hM := zx_f q3 hM
    refine lv_iload_n hx hb dX1_middleDistance_13 rfl (lv_at hl 1 rfl) ?_
    refine lv_aload_n hx hb dX1_middleDistance_14 rfl (lv_at hl 2 rfl) ?_
    refine va_get (D := D) (ci := 1) (v := .ref (ad 0)) (C := RX1) (T := TX1) (N := 14) hx hb hts inlX1 hown hK hP 0 rfl rfl 0 (by decide) (hts _ zw_2_5) (fun _ h9 => h9) rfl dX1_middleDistance_15 ?_
    refine va_alen (D := D) (v := 196) hx hb hK hP 1 0 rfl rfl rfl dX1_middleDistance_18 ?_
    refine lv_iconst (v := 4) hx hb dX1_middleDistance_19 (by decide) ?_
    refine lv_isub hx hb dX1_middleDistance_20 ?_
    refine lv_icmp_gt (tgt := 41) hx hb dX1_middleDistance_21 (by decide) (fun q4 => ?_) (fun q4 => ?_)
    · replace hM := zx_t q4 hM
      refine lv_iconst (v := 0) hx hb dX1_middleDistance_41 (by decide) ?_
      rw [hQ]
      exact W.iret hx hb hr (fun t ht hW => ⟨⟨0, (), rfl, (Option.some.inj hM).symm, trivial⟩, hS.F ht⟩) hS.2.2 dX1_middleDistance_42
    · replace hM := zx_f q4 hM
      refine lv_iload hx hb dX1_middleDistance_24 (lv_at hl 0 rfl) ?_
      refine lv_if_lt (tgt := 41) hx hb dX1_middleDistance_26 (by decide) (fun q5 => ?_) (fun q5 => ?_)
      · replace hM := zx_t q5 hM
        refine lv_iconst (v := 0) hx hb dX1_middleDistance_41 (by decide) ?_
        rw [hQ]
        exact W.iret hx hb hr (fun t ht hW => ⟨⟨0, (), rfl, (Option.some.inj hM).symm, trivial⟩, hS.F ht⟩) hS.2.2 dX1_middleDistance_42
      · replace hM := zx_f q5 hM
        refine lv_iload hx hb dX1_middleDistance_29 (lv_at hl 0 rfl) ?_
        refine lv_aload_n hx hb dX1_middleDistance_31 rfl (lv_at hl 2 rfl) ?_
        refine va_get (D := D) (ci := 1) (v := .ref (ad 0)) (C := RX1) (T := TX1) (N := 14) hx hb hts inlX1 hown hK hP 0 rfl rfl 0 (by decide) (hts _ zw_2_5) (fun _ h9 => h9) rfl dX1_middleDistance_32 ?_
        refine va_alen (D := D) (v := 196) hx hb hK hP 1 0 rfl rfl rfl dX1_middleDistance_35 ?_
        refine lv_iconst (v := 4) hx hb dX1_middleDistance_36 (by decide) ?_
        refine lv_isub hx hb dX1_middleDistance_37 ?_
        refine lv_icmp_le (tgt := 43) hx hb dX1_middleDistance_38 (by decide) (fun q6 => ?_) (fun q6 => ?_)
        · replace hM := zx_t q6 hM
          refine lv_aload_n hx hb dX1_middleDistance_43 rfl (lv_at hl 2 rfl) ?_
          refine va_get (D := D) (ci := 1) (v := .ref (ad 0)) (C := RX1) (T := TX1) (N := 14) hx hb hts inlX1 hown hK hP 0 rfl rfl 0 (by decide) (hts _ zw_2_5) (fun _ h9 => h9) rfl dX1_middleDistance_44 ?_
          refine lv_iload_n hx hb dX1_middleDistance_47 rfl (lv_at hl 1 rfl) ?_
          obtain ⟨x7, q8, ex7, hM⟩ := zx_rdE hM
          refine va_iald (D := D) hx hb hK hP 1 0 rfl rfl q8 dX1_middleDistance_48 ?_
          refine zx_top ex7 ?_
          refine lv_aload_n hx hb dX1_middleDistance_49 rfl (lv_at hl 2 rfl) ?_
          refine va_get (D := D) (ci := 1) (v := .ref (ad 0)) (C := RX1) (T := TX1) (N := 14) hx hb hts inlX1 hown hK hP 0 rfl rfl 0 (by decide) (hts _ zw_2_5) (fun _ h9 => h9) rfl dX1_middleDistance_50 ?_
          refine lv_iload_n hx hb dX1_middleDistance_53 rfl (lv_at hl 1 rfl) ?_
          refine lv_iconst (v := 2) hx hb dX1_middleDistance_54 (by decide) ?_
          refine lv_iadd hx hb dX1_middleDistance_55 ?_
          obtain ⟨x9, q10, ex9, hM⟩ := zx_rdE hM
          refine va_iald (D := D) hx hb hK hP 1 0 rfl rfl q10 dX1_middleDistance_56 ?_
          refine zx_top ex9 ?_
          refine lv_iadd hx hb dX1_middleDistance_57 ?_
          refine lv_aload_n hx hb dX1_middleDistance_58 rfl (lv_at hl 2 rfl) ?_
          refine va_get (D := D) (ci := 1) (v := .ref (ad 0)) (C := RX1) (T := TX1) (N := 14) hx hb hts inlX1 hown hK hP 0 rfl rfl 0 (by decide) (hts _ zw_2_5) (fun _ h9 => h9) rfl dX1_middleDistance_59 ?_
          refine lv_iload hx hb dX1_middleDistance_62 (lv_at hl 0 rfl) ?_
          obtain ⟨x11, q12, ex11, hM⟩ := zx_rdE hM
          refine va_iald (D := D) hx hb hK hP 1 0 rfl rfl q12 dX1_middleDistance_64 ?_
          refine zx_top ex11 ?_
          refine lv_isub hx hb dX1_middleDistance_65 ?_
          refine lv_aload_n hx hb dX1_middleDistance_66 rfl (lv_at hl 2 rfl) ?_
          refine va_get (D := D) (ci := 1) (v := .ref (ad 0)) (C := RX1) (T := TX1) (N := 14) hx hb hts inlX1 hown hK hP 0 rfl rfl 0 (by decide) (hts _ zw_2_5) (fun _ h9 => h9) rfl dX1_middleDistance_67 ?_
          refine lv_iload hx hb dX1_middleDistance_70 (lv_at hl 0 rfl) ?_
          refine lv_iconst (v := 2) hx hb dX1_middleDistance_72 (by decide) ?_
          refine lv_iadd hx hb dX1_middleDistance_73 ?_
          obtain ⟨x13, q14, ex13, hM⟩ := zx_rdE hM
          refine va_iald (D := D) hx hb hK hP 1 0 rfl rfl q14 dX1_middleDistance_74 ?_
          refine zx_top ex13 ?_
          refine lv_isub hx hb dX1_middleDistance_75 ?_
          obtain ⟨x15, ex15, hM⟩ := zx_nE hM
          refine zx_top ex15 ?_
          refine lv_istore (lv' := [(5, .int x15), (4, .int x2), (3, .int x1), (0, .ref h), (1, .int p1), (2, .int p2)]) hx hb dX1_middleDistance_76 hl (by decide) rfl (fun ls hl => ?_)
          refine lv_aload_n hx hb dX1_middleDistance_78 rfl (lv_at hl 3 rfl) ?_
          refine va_get (D := D) (ci := 1) (v := .ref (ad 0)) (C := RX1) (T := TX1) (N := 14) hx hb hts inlX1 hown hK hP 0 rfl rfl 0 (by decide) (hts _ zw_2_5) (fun _ h9 => h9) rfl dX1_middleDistance_79 ?_
          refine lv_iload_n hx hb dX1_middleDistance_82 rfl (lv_at hl 2 rfl) ?_
          refine lv_iconst (v := 1) hx hb dX1_middleDistance_83 (by decide) ?_
          refine lv_iadd hx hb dX1_middleDistance_84 ?_
          obtain ⟨x16, q17, ex16, hM⟩ := zx_rdE hM
          refine va_iald (D := D) hx hb hK hP 1 0 rfl rfl q17 dX1_middleDistance_85 ?_
          refine zx_top ex16 ?_
          refine lv_aload_n hx hb dX1_middleDistance_86 rfl (lv_at hl 3 rfl) ?_
          refine va_get (D := D) (ci := 1) (v := .ref (ad 0)) (C := RX1) (T := TX1) (N := 14) hx hb hts inlX1 hown hK hP 0 rfl rfl 0 (by decide) (hts _ zw_2_5) (fun _ h9 => h9) rfl dX1_middleDistance_87 ?_
          refine lv_iload_n hx hb dX1_middleDistance_90 rfl (lv_at hl 2 rfl) ?_
          refine lv_iconst (v := 3) hx hb dX1_middleDistance_91 (by decide) ?_
          refine lv_iadd hx hb dX1_middleDistance_92 ?_
          obtain ⟨x18, q19, ex18, hM⟩ := zx_rdE hM
          refine va_iald (D := D) hx hb hK hP 1 0 rfl rfl q19 dX1_middleDistance_93 ?_
          refine zx_top ex18 ?_
          refine lv_iadd hx hb dX1_middleDistance_94 ?_
          refine lv_aload_n hx hb dX1_middleDistance_95 rfl (lv_at hl 3 rfl) ?_
          refine va_get (D := D) (ci := 1) (v := .ref (ad 0)) (C := RX1) (T := TX1) (N := 14) hx hb hts inlX1 hown hK hP 0 rfl rfl 0 (by decide) (hts _ zw_2_5) (fun _ h9 => h9) rfl dX1_middleDistance_96 ?_
          refine lv_iload hx hb dX1_middleDistance_99 (lv_at hl 1 rfl) ?_
          refine lv_iconst (v := 1) hx hb dX1_middleDistance_101 (by decide) ?_
          refine lv_iadd hx hb dX1_middleDistance_102 ?_
          obtain ⟨x20, q21, ex20, hM⟩ := zx_rdE hM
          refine va_iald (D := D) hx hb hK hP 1 0 rfl rfl q21 dX1_middleDistance_103 ?_
          refine zx_top ex20 ?_
          refine lv_isub hx hb dX1_middleDistance_104 ?_
          refine lv_aload_n hx hb dX1_middleDistance_105 rfl (lv_at hl 3 rfl) ?_
          refine va_get (D := D) (ci := 1) (v := .ref (ad 0)) (C := RX1) (T := TX1) (N := 14) hx hb hts inlX1 hown hK hP 0 rfl rfl 0 (by decide) (hts _ zw_2_5) (fun _ h9 => h9) rfl dX1_middleDistance_106 ?_
          refine lv_iload hx hb dX1_middleDistance_109 (lv_at hl 1 rfl) ?_
          refine lv_iconst (v := 3) hx hb dX1_middleDistance_111 (by decide) ?_
          refine lv_iadd hx hb dX1_middleDistance_112 ?_
          obtain ⟨x22, q23, ex22, hM⟩ := zx_rdE hM
          refine va_iald (D := D) hx hb hK hP 1 0 rfl rfl q23 dX1_middleDistance_113 ?_
          refine zx_top ex22 ?_
          refine lv_isub hx hb dX1_middleDistance_114 ?_
          obtain ⟨x24, ex24, hM⟩ := zx_nE hM
          refine zx_top ex24 ?_
          refine lv_istore (lv' := [(6, .int x24), (5, .int x15), (4, .int x2), (3, .int x1), (0, .ref h), (1, .int p1), (2, .int p2)]) hx hb dX1_middleDistance_115 hl (by decide) rfl (fun ls hl => ?_)
          refine lv_iload hx hb dX1_middleDistance_117 (lv_at hl 1 rfl) ?_
          refine lv_iload hx hb dX1_middleDistance_119 (lv_at hl 1 rfl) ?_
          refine lv_imul hx hb dX1_middleDistance_121 ?_
          refine lv_iload hx hb dX1_middleDistance_122 (lv_at hl 0 rfl) ?_
          refine lv_iload hx hb dX1_middleDistance_124 (lv_at hl 0 rfl) ?_
          refine lv_imul hx hb dX1_middleDistance_126 ?_
          refine lv_iadd hx hb dX1_middleDistance_127 ?_
          rw [hQ]
          exact W.iret hx hb hr (fun t ht hW => ⟨⟨((x15 * x15) + (x24 * x24)), (), rfl, (Option.some.inj hM).symm, trivial⟩, hS.F ht⟩) hS.2.2 dX1_middleDistance_128
        · replace hM := zx_f q6 hM
          refine lv_iconst (v := 0) hx hb dX1_middleDistance_41 (by decide) ?_
          rw [hQ]
          exact W.iret hx hb hr (fun t ht hW => ⟨⟨0, (), rfl, (Option.some.inj hM).symm, trivial⟩, hS.F ht⟩) hS.2.2 dX1_middleDistance_42

/-! ShallowBoxes$Tree.distance(III)I -/
def f_X1_distance (N : Nat) (p1 : Int32) (p2 : Int32) (p3 : Int32) (S : zx_S) : Option (Int32) :=
  (zx_b1 (f_X1_corner N p1 0 S) (fun x1 =>
(zx_b1 (f_X1_corner N p1 2 S) (fun x3 =>
(zx_n (if (x1 - p2) < (p2 - x3) then (p2 - x3) else (x1 - p2)) (fun x5 =>
(zx_n (if 0 < x5 then x5 else 0) (fun x6 =>
(zx_b1 (f_X1_corner N p1 1 S) (fun x7 =>
(zx_b1 (f_X1_corner N p1 3 S) (fun x9 =>
(zx_n (if (x7 - p3) < (p3 - x9) then (p3 - x9) else (x7 - p3)) (fun x11 =>
(zx_n (if 0 < x11 then x11 else 0) (fun x12 =>
some ((x6 * x6) + (x12 * x12))))))))))))))))))
abbrev rmX1_distance : Room := { frames := 2, cells := 0, slots := 0, locals := 43 }
abbrev zsX1_distance : List Cond := .code yX1_distance cX1_distance 6 (some .int) :: wsL_law
theorem zyX1_distance : yX1_distance.cls ≠ "java/lang/invoke/MethodHandle" ∧ yX1_distance.cls ≠ "java/lang/invoke/VarHandle" ∧ (parseMethodDescriptor yX1_distance.desc).map (fun d => d.parameters.length) = some 3 := by decide +kernel
set_option maxHeartbeats 4000000 in
set_option maxRecDepth 100000 in
theorem c_X1_distance (l : Launch) (D : va_G) (cI cZ cT : ClassId) (h : Nat) (ad : Nat → Nat) (S : zx_S) (sz : Nat) (N : Nat) (p1 : Int32) (p2 : Int32) (p3 : Int32) {R : Int32} (hM : f_X1_distance N p1 p2 p3 S = some R) : Met l yX1_distance zsX1_distance rmX1_distance (va_Pc [.ref h, .int p1, .int p2, .int p3] (bS D (zx_ty cI cZ cT) (xW1 cI h ad S) sz)) (va_Qi (fun r (_ : Unit) => R = r) (fun _ _ => True) (fun q => sz ≤ q)) 0 0 (fun q => sz ≤ q) := by
  refine Met.ofW (cc := cX1_distance) (maxL := 6) (ret := (some .int)) (by decide) rfl ?_
  intro p e s m args below meth c s₁ B hml hv
  obtain ⟨rfl, hsz, hP, hK, hD0, hN⟩ := hv
  have hx := B.exec
  have hb := B.bytes
  have hr := B.returns
  have hts : ∀ w ∈ wsL_law, w.before _ s = true := fun w hw => atoms_spec (ws := zsX1_distance) B.pre w (List.mem_cons_of_mem _ hw)
  have hown : s.vm.findClass RX1 = some m.cls := findClass_of_methodNamed B.named
  have hlocks := B.notSynchronized
  subst hsz
  generalize hAe : (fun q : Nat => s.heap.size ≤ q) = A
  have hA : ∀ q : Nat, s.heap.size ≤ q → A q := fun q h => by rw [← hAe]; exact h
  have hD := hD0
  have hS : va_S A s.heap s.heap [] := va_S.rf
  have hl := lv_entry ([.ref h, .int p1, .int p2, .int p3]) (n := 6) (Nat.le_of_ble_eq_true rfl)
  rw [lg_entry_eq]
  generalize (lg_sl ([.ref h, .int p1, .int p2, .int p3]) ++ List.replicate (6 - (lg_sl ([.ref h, .int p1, .int p2, .int p3])).length) Slot.unset).toArray = ls at hl ⊢
  have hl : lv_has ls 6 [(0, .ref h), (1, .int p1), (2, .int p2), (3, .int p3)] := hl
  generalize hQ : MQ below (va_Qi (fun r (_ : Unit) => R = r) (fun _ _ => True) A) ([.ref h, .int p1, .int p2, .int p3] : List Value).toArray s 0 0 A = Q9
  replace hQ := hQ.symm
  unfold f_X1_distance at hM
  refine lv_iconst (v := 0) hx hb dX1_distance_0 (by decide) ?_
  refine lv_aload_n hx hb dX1_distance_1 rfl (lv_at hl 0 rfl) ?_
  refine lv_iload_n hx hb dX1_distance_2 rfl (lv_at hl 1 rfl) ?_
  refine lv_iconst (v := 0) hx hb dX1_distance_3 (by decide) ?_
  obtain ⟨x1, hz2, hM⟩ := zx_b1E hM
  refine va_calli (va_runV (As := [.int p1, .int 0]) (rest := [.int 0]) ⟨hx, hb, hml, hown, hts⟩ (c_X1_corner l D cI cZ cT h ad S _ N p1 0  hz2) (cwV 2 hts (zg_V zw_15_7 zw_7_21 zw_7_22 zw_1_14 zw_7_23) rfl rfl rfl ⟨rfl, zyX1_corner⟩ ⟨Nat.le_of_ble_eq_true rfl, Nat.le_of_ble_eq_true rfl⟩) ⟨bS_blind, va_recv hK hP (ci := 1) (q0 := 0) rfl rfl, bS_pre hP hK hD hN⟩ rfl rfl hl.1 rfl (lv_room (Nat.le_of_ble_eq_true rfl)) dX1_distance_4 ⟨Nat.zero_le _, Nat.zero_le _⟩) hS (fun q h1 h2 => absurd h1 (Nat.not_lt.mpr h2)) (fun q h => hA q (Nat.le_trans hS.1 h)) (fun r u t H1 lc ht hvm hw hB hz1 hk1 hS => ?_)
  replace hw : x1 = r := hw; subst hw
  replace hP := zx_keep hP hk1
  refine lv_iload_n hx hb dX1_distance_7 rfl (lv_at hl 2 rfl) ?_
  refine lv_isub hx hb dX1_distance_8 ?_
  refine lv_iload_n hx hb dX1_distance_9 rfl (lv_at hl 2 rfl) ?_
  refine lv_aload_n hx hb dX1_distance_10 rfl (lv_at hl 0 rfl) ?_
  refine lv_iload_n hx hb dX1_distance_11 rfl (lv_at hl 1 rfl) ?_
  refine lv_iconst (v := 2) hx hb dX1_distance_12 (by decide) ?_
  obtain ⟨x3, hz4, hM⟩ := zx_b1E hM
  refine va_calli (va_runV (As := [.int p1, .int 2]) (rest := [.int p2, .int (x1 - p2), .int 0]) ⟨hx, hb, hml, hown, hts⟩ (c_X1_corner l D cI cZ cT h ad S _ N p1 2  hz4) (cwV 2 hts (zg_V zw_15_7 zw_7_21 zw_7_22 zw_1_14 zw_7_23) rfl rfl rfl ⟨rfl, zyX1_corner⟩ ⟨Nat.le_of_ble_eq_true rfl, Nat.le_of_ble_eq_true rfl⟩) ⟨bS_blind, va_recv hK hP (ci := 1) (q0 := 0) rfl rfl, bS_pre hP hK hD hN⟩ rfl rfl hl.1 rfl (lv_room (Nat.le_of_ble_eq_true rfl)) dX1_distance_13 ⟨Nat.zero_le _, Nat.zero_le _⟩) hS (fun q h1 h2 => absurd h1 (Nat.not_lt.mpr h2)) (fun q h => hA q (Nat.le_trans hS.1 h)) (fun r u t H1 lc ht hvm hw hB hz1 hk1 hS => ?_)
  replace hw : x3 = r := hw; subst hw
  replace hP := zx_keep hP hk1
  refine lv_isub hx hb dX1_distance_16 ?_
  refine va_mmax hx hb (hml.trans hl.1.symm) hown (hts _ zw_6_11) (hts _ zw_6_12) (hts _ zw_6_9) (hts _ zw_6_13) (Nat.le_of_ble_eq_true rfl) (Nat.le_of_ble_eq_true rfl) (Nat.zero_le _) (Nat.zero_le _) dX1_distance_17 ?_
  obtain ⟨x5, ex5, hM⟩ := zx_nE hM
  refine zx_top ex5 ?_
  refine va_mmax hx hb (hml.trans hl.1.symm) hown (hts _ zw_6_11) (hts _ zw_6_12) (hts _ zw_6_9) (hts _ zw_6_13) (Nat.le_of_ble_eq_true rfl) (Nat.le_of_ble_eq_true rfl) (Nat.zero_le _) (Nat.zero_le _) dX1_distance_20 ?_
  obtain ⟨x6, ex6, hM⟩ := zx_nE hM
  refine zx_top ex6 ?_
  refine lv_istore (lv' := [(4, .int x6), (0, .ref h), (1, .int p1), (2, .int p2), (3, .int p3)]) hx hb dX1_distance_23 hl (by decide) rfl (fun ls hl => ?_)
  refine lv_iconst (v := 0) hx hb dX1_distance_25 (by decide) ?_
  refine lv_aload_n hx hb dX1_distance_26 rfl (lv_at hl 1 rfl) ?_
  refine lv_iload_n hx hb dX1_distance_27 rfl (lv_at hl 2 rfl) ?_
  refine lv_iconst (v := 1) hx hb dX1_distance_28 (by decide) ?_
  obtain ⟨x7, hz8, hM⟩ := zx_b1E hM
  refine va_calli (va_runV (As := [.int p1, .int 1]) (rest := [.int 0]) ⟨hx, hb, hml, hown, hts⟩ (c_X1_corner l D cI cZ cT h ad S _ N p1 1  hz8) (cwV 2 hts (zg_V zw_15_7 zw_7_21 zw_7_22 zw_1_14 zw_7_23) rfl rfl rfl ⟨rfl, zyX1_corner⟩ ⟨Nat.le_of_ble_eq_true rfl, Nat.le_of_ble_eq_true rfl⟩) ⟨bS_blind, va_recv hK hP (ci := 1) (q0 := 0) rfl rfl, bS_pre hP hK hD hN⟩ rfl rfl hl.1 rfl (lv_room (Nat.le_of_ble_eq_true rfl)) dX1_distance_29 ⟨Nat.zero_le _, Nat.zero_le _⟩) hS (fun q h1 h2 => absurd h1 (Nat.not_lt.mpr h2)) (fun q h => hA q (Nat.le_trans hS.1 h)) (fun r u t H1 lc ht hvm hw hB hz1 hk1 hS => ?_)
  replace hw : x7 = r := hw; subst hw
  replace hP := zx_keep hP hk1
  refine lv_iload_n hx hb dX1_distance_32 rfl (lv_at hl 4 rfl) ?_
  refine lv_isub hx hb dX1_distance_33 ?_
  refine lv_iload_n hx hb dX1_distance_34 rfl (lv_at hl 4 rfl) ?_
  refine lv_aload_n hx hb dX1_distance_35 rfl (lv_at hl 1 rfl) ?_
  refine lv_iload_n hx hb dX1_distance_36 rfl (lv_at hl 2 rfl) ?_
  refine lv_iconst (v := 3) hx hb dX1_distance_37 (by decide) ?_
  obtain ⟨x9, hz10, hM⟩ := zx_b1E hM
  refine va_calli (va_runV (As := [.int p1, .int 3]) (rest := [.int p3, .int (x7 - p3), .int 0]) ⟨hx, hb, hml, hown, hts⟩ (c_X1_corner l D cI cZ cT h ad S _ N p1 3  hz10) (cwV 2 hts (zg_V zw_15_7 zw_7_21 zw_7_22 zw_1_14 zw_7_23) rfl rfl rfl ⟨rfl, zyX1_corner⟩ ⟨Nat.le_of_ble_eq_true rfl, Nat.le_of_ble_eq_true rfl⟩) ⟨bS_blind, va_recv hK hP (ci := 1) (q0 := 0) rfl rfl, bS_pre hP hK hD hN⟩ rfl rfl hl.1 rfl (lv_room (Nat.le_of_ble_eq_true rfl)) dX1_distance_38 ⟨Nat.zero_le _, Nat.zero_le _⟩) hS (fun q h1 h2 => absurd h1 (Nat.not_lt.mpr h2)) (fun q h => hA q (Nat.le_trans hS.1 h)) (fun r u t H1 lc ht hvm hw hB hz1 hk1 hS => ?_)
  replace hw : x9 = r := hw; subst hw
  replace hP := zx_keep hP hk1
  refine lv_isub hx hb dX1_distance_41 ?_
  refine va_mmax hx hb (hml.trans hl.1.symm) hown (hts _ zw_6_11) (hts _ zw_6_12) (hts _ zw_6_9) (hts _ zw_6_13) (Nat.le_of_ble_eq_true rfl) (Nat.le_of_ble_eq_true rfl) (Nat.zero_le _) (Nat.zero_le _) dX1_distance_42 ?_
  obtain ⟨x11, ex11, hM⟩ := zx_nE hM
  refine zx_top ex11 ?_
  refine va_mmax hx hb (hml.trans hl.1.symm) hown (hts _ zw_6_11) (hts _ zw_6_12) (hts _ zw_6_9) (hts _ zw_6_13) (Nat.le_of_ble_eq_true rfl) (Nat.le_of_ble_eq_true rfl) (Nat.zero_le _) (Nat.zero_le _) dX1_distance_45 ?_
  obtain ⟨x12, ex12, hM⟩ := zx_nE hM
  refine zx_top ex12 ?_
  refine lv_istore (lv' := [(5, .int x12), (4, .int x6), (0, .ref h), (1, .int p1), (2, .int p2), (3, .int p3)]) hx hb dX1_distance_48 hl (by decide) rfl (fun ls hl => ?_)
  refine lv_iload hx hb dX1_distance_50 (lv_at hl 1 rfl) ?_
  refine lv_iload hx hb dX1_distance_52 (lv_at hl 1 rfl) ?_
  refine lv_imul hx hb dX1_distance_54 ?_
  refine lv_iload hx hb dX1_distance_55 (lv_at hl 0 rfl) ?_
  refine lv_iload hx hb dX1_distance_57 (lv_at hl 0 rfl) ?_
  refine lv_imul hx hb dX1_distance_59 ?_
  refine lv_iadd hx hb dX1_distance_60 ?_
  rw [hQ]
  exact W.iret hx hb hr (fun t ht hW => ⟨⟨((x6 * x6) + (x12 * x12)), (), rfl, (Option.some.inj hM).symm, trivial⟩, hS.F ht⟩) hS.2.2 dX1_distance_61

/-! ShallowBoxes$Tree.fit(I)V -/
def f_X1_fit_l25 (N : Nat) : Nat → Int32 → Int32 → Int32 → Int32 → Int32 → Int32 → Int32 → zx_S → Option (zx_S)
  | 0, _, _, _, _, _, _, _, _ => none
  | n25 + 1, v1, v2, v3, v4, v5, v6, v7, S_ => (if v2 ≤ v7 then
  (zx_n (v1 * 4) (fun x2 =>
(zx_b1 (f_X2_put N 196 x2 v3 (S_ 0)) (fun g3 =>
(zx_n (zx_st S_ 0 g3) (fun T5 =>
(zx_b1 (f_X2_put N 196 (x2 + 1) v4 (T5 0)) (fun g6 =>
(zx_n (zx_st T5 0 g6) (fun T8 =>
(zx_b1 (f_X2_put N 196 (x2 + 2) v5 (T8 0)) (fun g9 =>
(zx_n (zx_st T8 0 g9) (fun T11 =>
(zx_b1 (f_X2_put N 196 (x2 + 3) v6 (T11 0)) (fun g12 =>
(zx_n (zx_st T11 0 g12) (fun T14 =>
some T14)))))))))))))))))) else
  (zx_b1 (f_X2_get N 245 ((v1 * 5) + v7) (S_ 4)) (fun x15 =>
(zx_n (x15 * 4) (fun x17 =>
(zx_b1 (f_X2_get N 196 x17 (S_ 0)) (fun x18 =>
(zx_n (if x18 < v3 then x18 else v3) (fun x20 =>
(zx_b1 (f_X2_get N 196 (x17 + 1) (S_ 0)) (fun x21 =>
(zx_n (if x21 < v4 then x21 else v4) (fun x23 =>
(zx_b1 (f_X2_get N 196 (x17 + 2) (S_ 0)) (fun x24 =>
(zx_n (if v5 < x24 then x24 else v5) (fun x26 =>
(zx_b1 (f_X2_get N 196 (x17 + 3) (S_ 0)) (fun x27 =>
(zx_n (if v6 < x27 then x27 else v6) (fun x29 =>
(zx_n (v7 + 1) (fun x30 =>
f_X1_fit_l25 N  n25 v1 v2 x20 x23 x26 x29 x30 S_)))))))))))))))))))))))
def f_X1_fit (N : Nat) (p1 : Int32) (S : zx_S) : Option (zx_S) :=
  (zx_b1 (f_X2_get N 49 p1 (S 3)) (fun x31 =>
f_X1_fit_l25 N  N p1 x31 100 100 (-1) (-1) 0 S))
abbrev rmX1_fit : Room := { frames := 1, cells := 0, slots := 0, locals := 22 }
abbrev zsX1_fit : List Cond := .code yX1_fit cX1_fit 9 none :: wsL_law
theorem zyX1_fit : yX1_fit.cls ≠ "java/lang/invoke/MethodHandle" ∧ yX1_fit.cls ≠ "java/lang/invoke/VarHandle" ∧ (parseMethodDescriptor yX1_fit.desc).map (fun d => d.parameters.length) = some 1 := by decide +kernel
set_option maxHeartbeats 4000000 in
set_option maxRecDepth 100000 in
theorem c_X1_fit (l : Launch) (D : va_G) (cI cZ cT : ClassId) (h : Nat) (ad : Nat → Nat) (S : zx_S) (sz : Nat) (N : Nat) (p1 : Int32) {R : zx_S} (hM : f_X1_fit N p1 S = some R) : Met l yX1_fit zsX1_fit rmX1_fit (va_Pc [.ref h, .int p1] (bS D (zx_ty cI cZ cT) (xW1 cI h ad S) sz)) (va_Qv (fun u => R = u) (fun u t => va_P D vwCl (xW1 cI h ad u) t.heap) (va_A (xW1 cI h ad S) sz)) 0 0 (va_A (xW1 cI h ad S) sz) := by
  refine Met.ofW (cc := cX1_fit) (maxL := 9) (ret := none) (by decide) rfl ?_
  intro p e s m args below meth c s₁ B hml hv
  obtain ⟨rfl, hsz, hP, hK, hD0, hN⟩ := hv
  have hx := B.exec
  have hb := B.bytes
  have hr := B.returns
  have hts : ∀ w ∈ wsL_law, w.before _ s = true := fun w hw => atoms_spec (ws := zsX1_fit) B.pre w (List.mem_cons_of_mem _ hw)
  have hown : s.vm.findClass RX1 = some m.cls := findClass_of_methodNamed B.named
  have hlocks := B.notSynchronized
  subst hsz
  have hD := hD0.self (sz := s.heap.size)
  generalize hAe : va_A (xW1 cI h ad S) s.heap.size = A at hD ⊢
  have hA : ∀ q : Nat, s.heap.size ≤ q → A q := fun q h => by rw [← hAe]; exact Or.inr h
  have hS : va_S A s.heap s.heap [] := va_S.rf
  have hl := lv_entry ([.ref h, .int p1]) (n := 9) (Nat.le_of_ble_eq_true rfl)
  rw [lg_entry_eq]
  generalize (lg_sl ([.ref h, .int p1]) ++ List.replicate (9 - (lg_sl ([.ref h, .int p1])).length) Slot.unset).toArray = ls at hl ⊢
  have hl : lv_has ls 9 [(0, .ref h), (1, .int p1)] := hl
  generalize hQ : MQ below (va_Qv (fun u => R = u) (fun u t => va_P D vwCl (xW1 cI h ad u) t.heap) A) ([.ref h, .int p1] : List Value).toArray s 0 0 A = Q9
  replace hQ := hQ.symm
  unfold f_X1_fit at hM
  have l25 : ∀ (n25 : Nat) (v1 : Int32) (v2 : Int32) (v3 : Int32) (v4 : Int32) (v5 : Int32) (v6 : Int32) (v7 : Int32) (S_ : zx_S) (H : Heap) (lc : List Loc) (ls : Array Slot), va_P D vwCl (xW1 cI h ad S_) H → va_D A (xW1 cI h ad S_) → va_S A s.heap H lc → lv_has ls 9 [(0, .ref h), (1, .int v1), (2, .int v2), (3, .int v3), (4, .int v4), (5, .int v5), (6, .int v6), (7, .int v7)] → f_X1_fit_l25 N n25 v1 v2 v3 v4 v5 v6 v7 S_ = some R → W p l e (headSpec zsX1_fit rmX1_fit).room s m ([.ref h, .int p1] : List Value).toArray below meth c H lc 0 0 Q9 (F0 m 25 ls []) := by
    intro n25
    induction n25 with
    | zero =>
      intro v1 v2 v3 v4 v5 v6 v7 S_ H lc ls hP hD hS hl hM
      rw [f_X1_fit_l25] at hM; exact absurd hM (by intro h; cases h)
    | succ n25 ih25 =>
      intro v1 v2 v3 v4 v5 v6 v7 S_ H lc ls hP hD hS hl hM
      rw [f_X1_fit_l25] at hM
      refine lv_iload hx hb dX1_fit_25 (lv_at hl 7 rfl) ?_
      refine lv_iload_n hx hb dX1_fit_27 rfl (lv_at hl 2 rfl) ?_
      refine lv_icmp_ge (tgt := 122) hx hb dX1_fit_28 (by decide) (fun q1 => ?_) (fun q1 => ?_)
      · replace hM := zx_t q1 hM
        refine lv_iload_n hx hb dX1_fit_122 rfl (lv_at hl 1 rfl) ?_
        refine lv_iconst (v := 4) hx hb dX1_fit_123 (by decide) ?_
        refine lv_imul hx hb dX1_fit_124 ?_
        obtain ⟨x2, ex2, hM⟩ := zx_nE hM
        refine zx_top ex2 ?_
        refine lv_istore (lv' := [(7, .int x2), (0, .ref h), (1, .int v1), (2, .int v2), (3, .int v3), (4, .int v4), (5, .int v5), (6, .int v6)]) hx hb dX1_fit_125 hl (by decide) rfl (fun ls hl => ?_)
        refine lv_aload_n hx hb dX1_fit_127 rfl (lv_at hl 1 rfl) ?_
        refine va_get (D := D) (ci := 1) (v := .ref (ad 0)) (C := RX1) (T := TX1) (N := 14) hx hb hts inlX1 hown hK hP 0 rfl rfl 0 (by decide) (hts _ zw_2_5) (fun _ h9 => h9) rfl dX1_fit_128 ?_
        refine lv_iload hx hb dX1_fit_131 (lv_at hl 0 rfl) ?_
        refine lv_iload_n hx hb dX1_fit_133 rfl (lv_at hl 4 rfl) ?_
        obtain ⟨g3, hz4, hM⟩ := zx_b1E hM
        refine va_callv (va_runSN (As := [.ref (ad 0), .int x2, .int v3]) (rest := []) ⟨hx, hb, hml, hown, hts⟩ (c_X2_put l D cI cZ cT (ad 0) 196 (S_ 0) _ N x2 v3 hz4) ⟨va_cnB 3 hts (zg_c zw_3_0) rfl rfl rfl (hN _ (zx_nw_X1_45)) (hts _ zw_1_2) zyX2_put ⟨Nat.le_of_ble_eq_true rfl, Nat.le_of_ble_eq_true rfl⟩, (hts _ zw_2_23), trivial⟩ ⟨bS_blind, bS_pre (zx_P1 hP 1 (rfl)) hK (zx_D1 hD 1 (rfl)) hN⟩ rfl rfl hl.1 rfl (lv_room (Nat.le_of_ble_eq_true rfl)) dX1_fit_134 ⟨Nat.zero_le _, Nat.zero_le _⟩) hS (fun q _ h => zx_f1 hD hS hA (k := 1) rfl q h) (fun q h => zx_f1 hD hS hA (k := 1) rfl q h) (fun u t H1 lc ht hvm hw hB hz1 hk1 hS => ?_)
        replace hw : g3 = u := hw; subst hw
        rw [ht] at hB
        replace hP := zx_set1 (k := 1) hP hD rfl hk1 hB
        replace hD := va_D.set (p := 1) (e := .inl (cI, 196, .inl g3)) hD rfl
        rw [xW1_pa0] at hP hD
        obtain ⟨T5, eT5, hM⟩ := zx_nE hM
        rw [← eT5] at hP hD
        refine lv_aload_n hx hb dX1_fit_137 rfl (lv_at hl 1 rfl) ?_
        refine va_get (D := D) (ci := 1) (v := .ref (ad 0)) (C := RX1) (T := TX1) (N := 14) hx hb hts inlX1 hown hK hP 0 rfl rfl 0 (by decide) (hts _ zw_2_5) (fun _ h9 => h9) rfl dX1_fit_138 ?_
        refine lv_iload hx hb dX1_fit_141 (lv_at hl 0 rfl) ?_
        refine lv_iconst (v := 1) hx hb dX1_fit_143 (by decide) ?_
        refine lv_iadd hx hb dX1_fit_144 ?_
        refine lv_iload hx hb dX1_fit_145 (lv_at hl 5 rfl) ?_
        obtain ⟨g6, hz7, hM⟩ := zx_b1E hM
        refine va_callv (va_runSN (As := [.ref (ad 0), .int (x2 + 1), .int v4]) (rest := []) ⟨hx, hb, hml, hown, hts⟩ (c_X2_put l D cI cZ cT (ad 0) 196 (T5 0) _ N (x2 + 1) v4 hz7) ⟨va_cnB 3 hts (zg_c zw_3_0) rfl rfl rfl (hN _ (zx_nw_X1_45)) (hts _ zw_1_2) zyX2_put ⟨Nat.le_of_ble_eq_true rfl, Nat.le_of_ble_eq_true rfl⟩, (hts _ zw_2_23), trivial⟩ ⟨bS_blind, bS_pre (zx_P1 hP 1 (rfl)) hK (zx_D1 hD 1 (rfl)) hN⟩ rfl rfl hl.1 rfl (lv_room (Nat.le_of_ble_eq_true rfl)) dX1_fit_147 ⟨Nat.zero_le _, Nat.zero_le _⟩) hS (fun q _ h => zx_f1 hD hS hA (k := 1) rfl q h) (fun q h => zx_f1 hD hS hA (k := 1) rfl q h) (fun u t H1 lc ht hvm hw hB hz1 hk1 hS => ?_)
        replace hw : g6 = u := hw; subst hw
        rw [ht] at hB
        replace hP := zx_set1 (k := 1) hP hD rfl hk1 hB
        replace hD := va_D.set (p := 1) (e := .inl (cI, 196, .inl g6)) hD rfl
        rw [xW1_pa0] at hP hD
        obtain ⟨T8, eT8, hM⟩ := zx_nE hM
        rw [← eT8] at hP hD
        refine lv_aload_n hx hb dX1_fit_150 rfl (lv_at hl 1 rfl) ?_
        refine va_get (D := D) (ci := 1) (v := .ref (ad 0)) (C := RX1) (T := TX1) (N := 14) hx hb hts inlX1 hown hK hP 0 rfl rfl 0 (by decide) (hts _ zw_2_5) (fun _ h9 => h9) rfl dX1_fit_151 ?_
        refine lv_iload hx hb dX1_fit_154 (lv_at hl 0 rfl) ?_
        refine lv_iconst (v := 2) hx hb dX1_fit_156 (by decide) ?_
        refine lv_iadd hx hb dX1_fit_157 ?_
        refine lv_iload hx hb dX1_fit_158 (lv_at hl 6 rfl) ?_
        obtain ⟨g9, hz10, hM⟩ := zx_b1E hM
        refine va_callv (va_runSN (As := [.ref (ad 0), .int (x2 + 2), .int v5]) (rest := []) ⟨hx, hb, hml, hown, hts⟩ (c_X2_put l D cI cZ cT (ad 0) 196 (T8 0) _ N (x2 + 2) v5 hz10) ⟨va_cnB 3 hts (zg_c zw_3_0) rfl rfl rfl (hN _ (zx_nw_X1_45)) (hts _ zw_1_2) zyX2_put ⟨Nat.le_of_ble_eq_true rfl, Nat.le_of_ble_eq_true rfl⟩, (hts _ zw_2_23), trivial⟩ ⟨bS_blind, bS_pre (zx_P1 hP 1 (rfl)) hK (zx_D1 hD 1 (rfl)) hN⟩ rfl rfl hl.1 rfl (lv_room (Nat.le_of_ble_eq_true rfl)) dX1_fit_160 ⟨Nat.zero_le _, Nat.zero_le _⟩) hS (fun q _ h => zx_f1 hD hS hA (k := 1) rfl q h) (fun q h => zx_f1 hD hS hA (k := 1) rfl q h) (fun u t H1 lc ht hvm hw hB hz1 hk1 hS => ?_)
        replace hw : g9 = u := hw; subst hw
        rw [ht] at hB
        replace hP := zx_set1 (k := 1) hP hD rfl hk1 hB
        replace hD := va_D.set (p := 1) (e := .inl (cI, 196, .inl g9)) hD rfl
        rw [xW1_pa0] at hP hD
        obtain ⟨T11, eT11, hM⟩ := zx_nE hM
        rw [← eT11] at hP hD
        refine lv_aload_n hx hb dX1_fit_163 rfl (lv_at hl 1 rfl) ?_
        refine va_get (D := D) (ci := 1) (v := .ref (ad 0)) (C := RX1) (T := TX1) (N := 14) hx hb hts inlX1 hown hK hP 0 rfl rfl 0 (by decide) (hts _ zw_2_5) (fun _ h9 => h9) rfl dX1_fit_164 ?_
        refine lv_iload hx hb dX1_fit_167 (lv_at hl 0 rfl) ?_
        refine lv_iconst (v := 3) hx hb dX1_fit_169 (by decide) ?_
        refine lv_iadd hx hb dX1_fit_170 ?_
        refine lv_iload hx hb dX1_fit_171 (lv_at hl 7 rfl) ?_
        obtain ⟨g12, hz13, hM⟩ := zx_b1E hM
        refine va_callv (va_runSN (As := [.ref (ad 0), .int (x2 + 3), .int v6]) (rest := []) ⟨hx, hb, hml, hown, hts⟩ (c_X2_put l D cI cZ cT (ad 0) 196 (T11 0) _ N (x2 + 3) v6 hz13) ⟨va_cnB 3 hts (zg_c zw_3_0) rfl rfl rfl (hN _ (zx_nw_X1_45)) (hts _ zw_1_2) zyX2_put ⟨Nat.le_of_ble_eq_true rfl, Nat.le_of_ble_eq_true rfl⟩, (hts _ zw_2_23), trivial⟩ ⟨bS_blind, bS_pre (zx_P1 hP 1 (rfl)) hK (zx_D1 hD 1 (rfl)) hN⟩ rfl rfl hl.1 rfl (lv_room (Nat.le_of_ble_eq_true rfl)) dX1_fit_173 ⟨Nat.zero_le _, Nat.zero_le _⟩) hS (fun q _ h => zx_f1 hD hS hA (k := 1) rfl q h) (fun q h => zx_f1 hD hS hA (k := 1) rfl q h) (fun u t H1 lc ht hvm hw hB hz1 hk1 hS => ?_)
        replace hw : g12 = u := hw; subst hw
        rw [ht] at hB
        replace hP := zx_set1 (k := 1) hP hD rfl hk1 hB
        replace hD := va_D.set (p := 1) (e := .inl (cI, 196, .inl g12)) hD rfl
        rw [xW1_pa0] at hP hD
        obtain ⟨T14, eT14, hM⟩ := zx_nE hM
        rw [← eT14] at hP hD
        rw [hQ]
        exact W.vret hx hb hr (fun t ht hW => ⟨⟨T14, rfl, (Option.some.inj hM).symm, by show va_P D vwCl _ t.heap; rw [ht]; exact hP⟩, hS.F ht⟩) hS.2.2 dX1_fit_176
      · replace hM := zx_f q1 hM
        refine lv_aload_n hx hb dX1_fit_31 rfl (lv_at hl 0 rfl) ?_
        refine va_get (D := D) (ci := 1) (v := .ref (ad 4)) (C := RX1) (T := TX1) (N := 14) hx hb hts inlX1 hown hK hP 0 rfl rfl 4 (by decide) (hts _ zw_2_9) (fun _ h9 => h9) rfl dX1_fit_32 ?_
        refine lv_iload_n hx hb dX1_fit_35 rfl (lv_at hl 1 rfl) ?_
        refine lv_iconst (v := 5) hx hb dX1_fit_36 (by decide) ?_
        refine lv_imul hx hb dX1_fit_37 ?_
        refine lv_iload hx hb dX1_fit_38 (lv_at hl 7 rfl) ?_
        refine lv_iadd hx hb dX1_fit_40 ?_
        obtain ⟨x15, hz16, hM⟩ := zx_b1E hM
        refine va_calli (va_runSN (As := [.ref (ad 4), .int ((v1 * 5) + v7)]) (rest := []) ⟨hx, hb, hml, hown, hts⟩ (c_X2_get l D cI cZ cT (ad 4) 245 (S_ 4) _ N ((v1 * 5) + v7) hz16) ⟨va_cnB 2 hts (zg_c zw_3_6) rfl rfl rfl (hN _ (zx_nw_X1_70)) (hts _ zw_1_2) zyX2_get ⟨Nat.le_of_ble_eq_true rfl, Nat.le_of_ble_eq_true rfl⟩, (hts _ zw_3_5), trivial⟩ ⟨bS_blind, bS_pre (zx_P1 hP 5 (rfl)) hK (zx_D1 hD 5 (rfl)) hN⟩ rfl rfl hl.1 rfl (lv_room (Nat.le_of_ble_eq_true rfl)) dX1_fit_41 ⟨Nat.zero_le _, Nat.zero_le _⟩) hS (fun q h1 h2 => absurd h1 (Nat.not_lt.mpr h2)) (fun q h => hA q (Nat.le_trans hS.1 h)) (fun r u t H1 lc ht hvm hw hB hz1 hk1 hS => ?_)
        replace hw : x15 = r := hw; subst hw
        replace hP := zx_keep hP hk1
        refine lv_iconst (v := 4) hx hb dX1_fit_44 (by decide) ?_
        refine lv_imul hx hb dX1_fit_45 ?_
        obtain ⟨x17, ex17, hM⟩ := zx_nE hM
        refine zx_top ex17 ?_
        refine lv_istore (lv' := [(8, .int x17), (0, .ref h), (1, .int v1), (2, .int v2), (3, .int v3), (4, .int v4), (5, .int v5), (6, .int v6), (7, .int v7)]) hx hb dX1_fit_46 hl (by decide) rfl (fun ls hl => ?_)
        refine lv_iload_n hx hb dX1_fit_48 rfl (lv_at hl 4 rfl) ?_
        refine lv_aload_n hx hb dX1_fit_49 rfl (lv_at hl 1 rfl) ?_
        refine va_get (D := D) (ci := 1) (v := .ref (ad 0)) (C := RX1) (T := TX1) (N := 14) hx hb hts inlX1 hown hK hP 0 rfl rfl 0 (by decide) (hts _ zw_2_5) (fun _ h9 => h9) rfl dX1_fit_50 ?_
        refine lv_iload hx hb dX1_fit_53 (lv_at hl 0 rfl) ?_
        obtain ⟨x18, hz19, hM⟩ := zx_b1E hM
        refine va_calli (va_runSN (As := [.ref (ad 0), .int x17]) (rest := [.int v3]) ⟨hx, hb, hml, hown, hts⟩ (c_X2_get l D cI cZ cT (ad 0) 196 (S_ 0) _ N x17 hz19) ⟨va_cnB 2 hts (zg_c zw_3_6) rfl rfl rfl (hN _ (zx_nw_X1_70)) (hts _ zw_1_2) zyX2_get ⟨Nat.le_of_ble_eq_true rfl, Nat.le_of_ble_eq_true rfl⟩, (hts _ zw_3_5), trivial⟩ ⟨bS_blind, bS_pre (zx_P1 hP 1 (rfl)) hK (zx_D1 hD 1 (rfl)) hN⟩ rfl rfl hl.1 rfl (lv_room (Nat.le_of_ble_eq_true rfl)) dX1_fit_55 ⟨Nat.zero_le _, Nat.zero_le _⟩) hS (fun q h1 h2 => absurd h1 (Nat.not_lt.mpr h2)) (fun q h => hA q (Nat.le_trans hS.1 h)) (fun r u t H1 lc ht hvm hw hB hz1 hk1 hS => ?_)
        replace hw : x18 = r := hw; subst hw
        replace hP := zx_keep hP hk1
        refine va_mmin hx hb (hml.trans hl.1.symm) hown (hts _ zw_6_7) (hts _ zw_6_8) (hts _ zw_6_9) (hts _ zw_6_10) (Nat.le_of_ble_eq_true rfl) (Nat.le_of_ble_eq_true rfl) (Nat.zero_le _) (Nat.zero_le _) dX1_fit_58 ?_
        obtain ⟨x20, ex20, hM⟩ := zx_nE hM
        refine zx_top ex20 ?_
        refine lv_istore_n (lv' := [(3, .int x20), (8, .int x17), (0, .ref h), (1, .int v1), (2, .int v2), (4, .int v4), (5, .int v5), (6, .int v6), (7, .int v7)]) hx hb dX1_fit_61 rfl hl (by decide) rfl (fun ls hl => ?_)
        refine lv_iload hx hb dX1_fit_62 (lv_at hl 5 rfl) ?_
        refine lv_aload_n hx hb dX1_fit_64 rfl (lv_at hl 2 rfl) ?_
        refine va_get (D := D) (ci := 1) (v := .ref (ad 0)) (C := RX1) (T := TX1) (N := 14) hx hb hts inlX1 hown hK hP 0 rfl rfl 0 (by decide) (hts _ zw_2_5) (fun _ h9 => h9) rfl dX1_fit_65 ?_
        refine lv_iload hx hb dX1_fit_68 (lv_at hl 1 rfl) ?_
        refine lv_iconst (v := 1) hx hb dX1_fit_70 (by decide) ?_
        refine lv_iadd hx hb dX1_fit_71 ?_
        obtain ⟨x21, hz22, hM⟩ := zx_b1E hM
        refine va_calli (va_runSN (As := [.ref (ad 0), .int (x17 + 1)]) (rest := [.int v4]) ⟨hx, hb, hml, hown, hts⟩ (c_X2_get l D cI cZ cT (ad 0) 196 (S_ 0) _ N (x17 + 1) hz22) ⟨va_cnB 2 hts (zg_c zw_3_6) rfl rfl rfl (hN _ (zx_nw_X1_70)) (hts _ zw_1_2) zyX2_get ⟨Nat.le_of_ble_eq_true rfl, Nat.le_of_ble_eq_true rfl⟩, (hts _ zw_3_5), trivial⟩ ⟨bS_blind, bS_pre (zx_P1 hP 1 (rfl)) hK (zx_D1 hD 1 (rfl)) hN⟩ rfl rfl hl.1 rfl (lv_room (Nat.le_of_ble_eq_true rfl)) dX1_fit_72 ⟨Nat.zero_le _, Nat.zero_le _⟩) hS (fun q h1 h2 => absurd h1 (Nat.not_lt.mpr h2)) (fun q h => hA q (Nat.le_trans hS.1 h)) (fun r u t H1 lc ht hvm hw hB hz1 hk1 hS => ?_)
        replace hw : x21 = r := hw; subst hw
        replace hP := zx_keep hP hk1
        refine va_mmin hx hb (hml.trans hl.1.symm) hown (hts _ zw_6_7) (hts _ zw_6_8) (hts _ zw_6_9) (hts _ zw_6_10) (Nat.le_of_ble_eq_true rfl) (Nat.le_of_ble_eq_true rfl) (Nat.zero_le _) (Nat.zero_le _) dX1_fit_75 ?_
        obtain ⟨x23, ex23, hM⟩ := zx_nE hM
        refine zx_top ex23 ?_
        refine lv_istore (lv' := [(4, .int x23), (3, .int x20), (8, .int x17), (0, .ref h), (1, .int v1), (2, .int v2), (5, .int v5), (6, .int v6), (7, .int v7)]) hx hb dX1_fit_78 hl (by decide) rfl (fun ls hl => ?_)
        refine lv_iload hx hb dX1_fit_80 (lv_at hl 6 rfl) ?_
        refine lv_aload_n hx hb dX1_fit_82 rfl (lv_at hl 3 rfl) ?_
        refine va_get (D := D) (ci := 1) (v := .ref (ad 0)) (C := RX1) (T := TX1) (N := 14) hx hb hts inlX1 hown hK hP 0 rfl rfl 0 (by decide) (hts _ zw_2_5) (fun _ h9 => h9) rfl dX1_fit_83 ?_
        refine lv_iload hx hb dX1_fit_86 (lv_at hl 2 rfl) ?_
        refine lv_iconst (v := 2) hx hb dX1_fit_88 (by decide) ?_
        refine lv_iadd hx hb dX1_fit_89 ?_
        obtain ⟨x24, hz25, hM⟩ := zx_b1E hM
        refine va_calli (va_runSN (As := [.ref (ad 0), .int (x17 + 2)]) (rest := [.int v5]) ⟨hx, hb, hml, hown, hts⟩ (c_X2_get l D cI cZ cT (ad 0) 196 (S_ 0) _ N (x17 + 2) hz25) ⟨va_cnB 2 hts (zg_c zw_3_6) rfl rfl rfl (hN _ (zx_nw_X1_70)) (hts _ zw_1_2) zyX2_get ⟨Nat.le_of_ble_eq_true rfl, Nat.le_of_ble_eq_true rfl⟩, (hts _ zw_3_5), trivial⟩ ⟨bS_blind, bS_pre (zx_P1 hP 1 (rfl)) hK (zx_D1 hD 1 (rfl)) hN⟩ rfl rfl hl.1 rfl (lv_room (Nat.le_of_ble_eq_true rfl)) dX1_fit_90 ⟨Nat.zero_le _, Nat.zero_le _⟩) hS (fun q h1 h2 => absurd h1 (Nat.not_lt.mpr h2)) (fun q h => hA q (Nat.le_trans hS.1 h)) (fun r u t H1 lc ht hvm hw hB hz1 hk1 hS => ?_)
        replace hw : x24 = r := hw; subst hw
        replace hP := zx_keep hP hk1
        refine va_mmax hx hb (hml.trans hl.1.symm) hown (hts _ zw_6_11) (hts _ zw_6_12) (hts _ zw_6_9) (hts _ zw_6_13) (Nat.le_of_ble_eq_true rfl) (Nat.le_of_ble_eq_true rfl) (Nat.zero_le _) (Nat.zero_le _) dX1_fit_93 ?_
        obtain ⟨x26, ex26, hM⟩ := zx_nE hM
        refine zx_top ex26 ?_
        refine lv_istore (lv' := [(5, .int x26), (4, .int x23), (3, .int x20), (8, .int x17), (0, .ref h), (1, .int v1), (2, .int v2), (6, .int v6), (7, .int v7)]) hx hb dX1_fit_96 hl (by decide) rfl (fun ls hl => ?_)
        refine lv_iload hx hb dX1_fit_98 (lv_at hl 7 rfl) ?_
        refine lv_aload_n hx hb dX1_fit_100 rfl (lv_at hl 4 rfl) ?_
        refine va_get (D := D) (ci := 1) (v := .ref (ad 0)) (C := RX1) (T := TX1) (N := 14) hx hb hts inlX1 hown hK hP 0 rfl rfl 0 (by decide) (hts _ zw_2_5) (fun _ h9 => h9) rfl dX1_fit_101 ?_
        refine lv_iload hx hb dX1_fit_104 (lv_at hl 3 rfl) ?_
        refine lv_iconst (v := 3) hx hb dX1_fit_106 (by decide) ?_
        refine lv_iadd hx hb dX1_fit_107 ?_
        obtain ⟨x27, hz28, hM⟩ := zx_b1E hM
        refine va_calli (va_runSN (As := [.ref (ad 0), .int (x17 + 3)]) (rest := [.int v6]) ⟨hx, hb, hml, hown, hts⟩ (c_X2_get l D cI cZ cT (ad 0) 196 (S_ 0) _ N (x17 + 3) hz28) ⟨va_cnB 2 hts (zg_c zw_3_6) rfl rfl rfl (hN _ (zx_nw_X1_70)) (hts _ zw_1_2) zyX2_get ⟨Nat.le_of_ble_eq_true rfl, Nat.le_of_ble_eq_true rfl⟩, (hts _ zw_3_5), trivial⟩ ⟨bS_blind, bS_pre (zx_P1 hP 1 (rfl)) hK (zx_D1 hD 1 (rfl)) hN⟩ rfl rfl hl.1 rfl (lv_room (Nat.le_of_ble_eq_true rfl)) dX1_fit_108 ⟨Nat.zero_le _, Nat.zero_le _⟩) hS (fun q h1 h2 => absurd h1 (Nat.not_lt.mpr h2)) (fun q h => hA q (Nat.le_trans hS.1 h)) (fun r u t H1 lc ht hvm hw hB hz1 hk1 hS => ?_)
        replace hw : x27 = r := hw; subst hw
        replace hP := zx_keep hP hk1
        refine va_mmax hx hb (hml.trans hl.1.symm) hown (hts _ zw_6_11) (hts _ zw_6_12) (hts _ zw_6_9) (hts _ zw_6_13) (Nat.le_of_ble_eq_true rfl) (Nat.le_of_ble_eq_true rfl) (Nat.zero_le _) (Nat.zero_le _) dX1_fit_111 ?_
        obtain ⟨x29, ex29, hM⟩ := zx_nE hM
        refine zx_top ex29 ?_
        refine lv_istore (lv' := [(6, .int x29), (5, .int x26), (4, .int x23), (3, .int x20), (8, .int x17), (0, .ref h), (1, .int v1), (2, .int v2), (7, .int v7)]) hx hb dX1_fit_114 hl (by decide) rfl (fun ls hl => ?_)
        obtain ⟨x30, ex30, hM⟩ := zx_nE hM
        refine lv_iinc (v := x30) (lv' := [(7, .int x30), (6, .int x29), (5, .int x26), (4, .int x23), (3, .int x20), (8, .int x17), (0, .ref h), (1, .int v1), (2, .int v2)]) hx hb dX1_fit_116 hl (k := 8) rfl (by rw [ex30]; rfl) (by decide) rfl (fun ls hl => ?_)
        refine lv_goto (tgt := 25) hx hb dX1_fit_119 (by decide) ?_
        exact ih25 v1 v2 x20 x23 x26 x29 x30 S_ _ _ _ hP hD hS (lv_sub hl [6, 7, 8, 4, 3, 2, 1, 0] rfl) hM
  refine lv_aload_n hx hb dX1_fit_0 rfl (lv_at hl 0 rfl) ?_
  refine va_get (D := D) (ci := 1) (v := .ref (ad 3)) (C := RX1) (T := TX1) (N := 14) hx hb hts inlX1 hown hK hP 0 rfl rfl 3 (by decide) (hts _ zw_2_8) (fun _ h9 => h9) rfl dX1_fit_1 ?_
  refine lv_iload_n hx hb dX1_fit_4 rfl (lv_at hl 1 rfl) ?_
  obtain ⟨x31, hz32, hM⟩ := zx_b1E hM
  refine va_calli (va_runSN (As := [.ref (ad 3), .int p1]) (rest := []) ⟨hx, hb, hml, hown, hts⟩ (c_X2_get l D cI cZ cT (ad 3) 49 (S 3) _ N p1 hz32) ⟨va_cnB 2 hts (zg_c zw_3_6) rfl rfl rfl (hN _ (zx_nw_X1_70)) (hts _ zw_1_2) zyX2_get ⟨Nat.le_of_ble_eq_true rfl, Nat.le_of_ble_eq_true rfl⟩, (hts _ zw_3_5), trivial⟩ ⟨bS_blind, bS_pre (zx_P1 hP 4 (rfl)) hK (zx_D1 hD 4 (rfl)) hN⟩ rfl rfl hl.1 rfl (lv_room (Nat.le_of_ble_eq_true rfl)) dX1_fit_5 ⟨Nat.zero_le _, Nat.zero_le _⟩) hS (fun q h1 h2 => absurd h1 (Nat.not_lt.mpr h2)) (fun q h => hA q (Nat.le_trans hS.1 h)) (fun r u t H1 lc ht hvm hw hB hz1 hk1 hS => ?_)
  replace hw : x31 = r := hw; subst hw
  replace hP := zx_keep hP hk1
  refine lv_istore_n (lv' := [(2, .int x31), (0, .ref h), (1, .int p1)]) hx hb dX1_fit_8 rfl hl (by decide) rfl (fun ls hl => ?_)
  refine lv_bipush (v := 100) hx hb dX1_fit_9 (by decide) ?_
  refine lv_istore_n (lv' := [(3, .int 100), (2, .int x31), (0, .ref h), (1, .int p1)]) hx hb dX1_fit_11 rfl hl (by decide) rfl (fun ls hl => ?_)
  refine lv_bipush (v := 100) hx hb dX1_fit_12 (by decide) ?_
  refine lv_istore (lv' := [(4, .int 100), (3, .int 100), (2, .int x31), (0, .ref h), (1, .int p1)]) hx hb dX1_fit_14 hl (by decide) rfl (fun ls hl => ?_)
  refine lv_iconst (v := (-1)) hx hb dX1_fit_16 (by decide) ?_
  refine lv_istore (lv' := [(5, .int (-1)), (4, .int 100), (3, .int 100), (2, .int x31), (0, .ref h), (1, .int p1)]) hx hb dX1_fit_17 hl (by decide) rfl (fun ls hl => ?_)
  refine lv_iconst (v := (-1)) hx hb dX1_fit_19 (by decide) ?_
  refine lv_istore (lv' := [(6, .int (-1)), (5, .int (-1)), (4, .int 100), (3, .int 100), (2, .int x31), (0, .ref h), (1, .int p1)]) hx hb dX1_fit_20 hl (by decide) rfl (fun ls hl => ?_)
  refine lv_iconst (v := 0) hx hb dX1_fit_22 (by decide) ?_
  refine lv_istore (lv' := [(7, .int 0), (6, .int (-1)), (5, .int (-1)), (4, .int 100), (3, .int 100), (2, .int x31), (0, .ref h), (1, .int p1)]) hx hb dX1_fit_23 hl (by decide) rfl (fun ls hl => ?_)
  exact l25 N p1 x31 100 100 (-1) (-1) 0 S _ _ _ hP hD hS (lv_sub hl [6, 7, 5, 4, 3, 2, 1, 0] rfl) hM

/-! ShallowBoxes$Tree.fitUpward(I)V -/
def f_X1_fitUpward_l4 (N : Nat) : Nat → Int32 → Int32 → zx_S → Option (zx_S)
  | 0, _, _, _ => none
  | n4 + 1, v2, v3, S_ => (if 8 ≤ v3 then
  some S_ else
  (if v2 = (-1) then
  some S_ else
  (zx_b1 (f_X1_fit N v2 S_) (fun T3 =>
(zx_b1 (f_X2_get N 49 v2 (T3 2)) (fun x5 =>
(zx_n (v3 + 1) (fun x7 =>
f_X1_fitUpward_l4 N  n4 x5 x7 T3))))))))
def f_X1_fitUpward (N : Nat) (p1 : Int32) (S : zx_S) : Option (zx_S) :=
  f_X1_fitUpward_l4 N  N p1 0 S
abbrev rmX1_fitUpward : Room := { frames := 2, cells := 0, slots := 0, locals := 50 }
abbrev zsX1_fitUpward : List Cond := .code yX1_fitUpward cX1_fitUpward 4 none :: wsL_law
theorem zyX1_fitUpward : yX1_fitUpward.cls ≠ "java/lang/invoke/MethodHandle" ∧ yX1_fitUpward.cls ≠ "java/lang/invoke/VarHandle" ∧ (parseMethodDescriptor yX1_fitUpward.desc).map (fun d => d.parameters.length) = some 1 := by decide +kernel
set_option maxHeartbeats 4000000 in
set_option maxRecDepth 100000 in
theorem c_X1_fitUpward (l : Launch) (D : va_G) (cI cZ cT : ClassId) (h : Nat) (ad : Nat → Nat) (S : zx_S) (sz : Nat) (N : Nat) (p1 : Int32) {R : zx_S} (hM : f_X1_fitUpward N p1 S = some R) : Met l yX1_fitUpward zsX1_fitUpward rmX1_fitUpward (va_Pc [.ref h, .int p1] (bS D (zx_ty cI cZ cT) (xW1 cI h ad S) sz)) (va_Qv (fun u => R = u) (fun u t => va_P D vwCl (xW1 cI h ad u) t.heap) (va_A (xW1 cI h ad S) sz)) 0 0 (va_A (xW1 cI h ad S) sz) := by
  refine Met.ofW (cc := cX1_fitUpward) (maxL := 4) (ret := none) (by decide) rfl ?_
  intro p e s m args below meth c s₁ B hml hv
  obtain ⟨rfl, hsz, hP, hK, hD0, hN⟩ := hv
  have hx := B.exec
  have hb := B.bytes
  have hr := B.returns
  have hts : ∀ w ∈ wsL_law, w.before _ s = true := fun w hw => atoms_spec (ws := zsX1_fitUpward) B.pre w (List.mem_cons_of_mem _ hw)
  have hown : s.vm.findClass RX1 = some m.cls := findClass_of_methodNamed B.named
  have hlocks := B.notSynchronized
  subst hsz
  have hD := hD0.self (sz := s.heap.size)
  generalize hAe : va_A (xW1 cI h ad S) s.heap.size = A at hD ⊢
  have hA : ∀ q : Nat, s.heap.size ≤ q → A q := fun q h => by rw [← hAe]; exact Or.inr h
  have hS : va_S A s.heap s.heap [] := va_S.rf
  have hl := lv_entry ([.ref h, .int p1]) (n := 4) (Nat.le_of_ble_eq_true rfl)
  rw [lg_entry_eq]
  generalize (lg_sl ([.ref h, .int p1]) ++ List.replicate (4 - (lg_sl ([.ref h, .int p1])).length) Slot.unset).toArray = ls at hl ⊢
  have hl : lv_has ls 4 [(0, .ref h), (1, .int p1)] := hl
  generalize hQ : MQ below (va_Qv (fun u => R = u) (fun u t => va_P D vwCl (xW1 cI h ad u) t.heap) A) ([.ref h, .int p1] : List Value).toArray s 0 0 A = Q9
  replace hQ := hQ.symm
  unfold f_X1_fitUpward at hM
  have l4 : ∀ (n4 : Nat) (v2 : Int32) (v3 : Int32) (S_ : zx_S) (H : Heap) (lc : List Loc) (ls : Array Slot), va_P D vwCl (xW1 cI h ad S_) H → va_D A (xW1 cI h ad S_) → va_S A s.heap H lc → lv_has ls 4 [(0, .ref h), (2, .int v2), (3, .int v3)] → f_X1_fitUpward_l4 N n4 v2 v3 S_ = some R → W p l e (headSpec zsX1_fitUpward rmX1_fitUpward).room s m ([.ref h, .int p1] : List Value).toArray below meth c H lc 0 0 Q9 (F0 m 4 ls []) := by
    intro n4
    induction n4 with
    | zero =>
      intro v2 v3 S_ H lc ls hP hD hS hl hM
      rw [f_X1_fitUpward_l4] at hM; exact absurd hM (by intro h; cases h)
    | succ n4 ih4 =>
      intro v2 v3 S_ H lc ls hP hD hS hl hM
      rw [f_X1_fitUpward_l4] at hM
      refine lv_iload_n hx hb dX1_fitUpward_4 rfl (lv_at hl 2 rfl) ?_
      refine lv_bipush (v := 8) hx hb dX1_fitUpward_5 (by decide) ?_
      refine lv_icmp_ge (tgt := 35) hx hb dX1_fitUpward_7 (by decide) (fun q1 => ?_) (fun q1 => ?_)
      · replace hM := zx_t q1 hM
        rw [hQ]
        exact W.vret hx hb hr (fun t ht hW => ⟨⟨S_, rfl, (Option.some.inj hM).symm, by show va_P D vwCl _ t.heap; rw [ht]; exact hP⟩, hS.F ht⟩) hS.2.2 dX1_fitUpward_35
      · replace hM := zx_f q1 hM
        refine lv_iload_n hx hb dX1_fitUpward_10 rfl (lv_at hl 1 rfl) ?_
        refine lv_iconst (v := (-1)) hx hb dX1_fitUpward_11 (by decide) ?_
        refine lv_icmp_eq (tgt := 35) hx hb dX1_fitUpward_12 (by decide) (fun q2 => ?_) (fun q2 => ?_)
        · replace hM := zx_t q2 hM
          rw [hQ]
          exact W.vret hx hb hr (fun t ht hW => ⟨⟨S_, rfl, (Option.some.inj hM).symm, by show va_P D vwCl _ t.heap; rw [ht]; exact hP⟩, hS.F ht⟩) hS.2.2 dX1_fitUpward_35
        · replace hM := zx_f q2 hM
          refine lv_aload_n hx hb dX1_fitUpward_15 rfl (lv_at hl 0 rfl) ?_
          refine lv_iload_n hx hb dX1_fitUpward_16 rfl (lv_at hl 1 rfl) ?_
          obtain ⟨T3, hz4, hM⟩ := zx_b1E hM
          refine va_callv (va_runV (As := [.int v2]) (rest := []) ⟨hx, hb, hml, hown, hts⟩ (c_X1_fit l D cI cZ cT h ad S_ _ N v2  hz4) (cwV 1 hts (zg_V zw_12_16 zw_12_17 zw_12_18 zw_1_14 zw_12_19) rfl rfl rfl ⟨rfl, zyX1_fit⟩ ⟨Nat.le_of_ble_eq_true rfl, Nat.le_of_ble_eq_true rfl⟩) ⟨bS_blind, va_recv hK hP (ci := 1) (q0 := 0) rfl rfl, bS_pre hP hK hD hN⟩ rfl rfl hl.1 rfl (lv_room (Nat.le_of_ble_eq_true rfl)) dX1_fitUpward_17 ⟨Nat.zero_le _, Nat.zero_le _⟩) hS (fun q _ h => zx_fW hD hS hA q h) (fun q h => zx_fW hD hS hA q h) (fun u t H1 lc ht hvm hw hB hz1 hk1 hS => ?_)
          replace hw : T3 = u := hw; subst hw
          rw [ht] at hB
          replace hP := hB
          replace hD := xW1_D T3 hD
          refine lv_aload_n hx hb dX1_fitUpward_20 rfl (lv_at hl 0 rfl) ?_
          refine va_get (D := D) (ci := 1) (v := .ref (ad 2)) (C := RX1) (T := TX1) (N := 14) hx hb hts inlX1 hown hK hP 0 rfl rfl 2 (by decide) (hts _ zw_2_7) (fun _ h9 => h9) rfl dX1_fitUpward_21 ?_
          refine lv_iload_n hx hb dX1_fitUpward_24 rfl (lv_at hl 1 rfl) ?_
          obtain ⟨x5, hz6, hM⟩ := zx_b1E hM
          refine va_calli (va_runSN (As := [.ref (ad 2), .int v2]) (rest := []) ⟨hx, hb, hml, hown, hts⟩ (c_X2_get l D cI cZ cT (ad 2) 49 (T3 2) _ N v2 hz6) ⟨va_cnB 2 hts (zg_c zw_3_6) rfl rfl rfl (hN _ (zx_nw_X1_70)) (hts _ zw_1_2) zyX2_get ⟨Nat.le_of_ble_eq_true rfl, Nat.le_of_ble_eq_true rfl⟩, (hts _ zw_3_5), trivial⟩ ⟨bS_blind, bS_pre (zx_P1 hP 3 (rfl)) hK (zx_D1 hD 3 (rfl)) hN⟩ rfl rfl hl.1 rfl (lv_room (Nat.le_of_ble_eq_true rfl)) dX1_fitUpward_25 ⟨Nat.zero_le _, Nat.zero_le _⟩) hS (fun q h1 h2 => absurd h1 (Nat.not_lt.mpr h2)) (fun q h => hA q (Nat.le_trans hS.1 h)) (fun r u t H1 lc ht hvm hw hB hz1 hk1 hS => ?_)
          replace hw : x5 = r := hw; subst hw
          replace hP := zx_keep hP hk1
          refine lv_istore_n (lv' := [(2, .int x5), (0, .ref h), (3, .int v3)]) hx hb dX1_fitUpward_28 rfl hl (by decide) rfl (fun ls hl => ?_)
          obtain ⟨x7, ex7, hM⟩ := zx_nE hM
          refine lv_iinc (v := x7) (lv' := [(3, .int x7), (2, .int x5), (0, .ref h)]) hx hb dX1_fitUpward_29 hl (k := 2) rfl (by rw [ex7]; rfl) (by decide) rfl (fun ls hl => ?_)
          refine lv_goto (tgt := 4) hx hb dX1_fitUpward_32 (by decide) ?_
          exact ih4 x5 x7 T3 _ _ _ hP hD hS (lv_sub hl [2, 1, 0] rfl) hM
  refine lv_iload_n hx hb dX1_fitUpward_0 rfl (lv_at hl 1 rfl) ?_
  refine lv_istore_n (lv' := [(2, .int p1), (0, .ref h), (1, .int p1)]) hx hb dX1_fitUpward_1 rfl hl (by decide) rfl (fun ls hl => ?_)
  refine lv_iconst (v := 0) hx hb dX1_fitUpward_2 (by decide) ?_
  refine lv_istore_n (lv' := [(3, .int 0), (2, .int p1), (0, .ref h), (1, .int p1)]) hx hb dX1_fitUpward_3 rfl hl (by decide) rfl (fun ls hl => ?_)
  exact l4 N p1 0 S _ _ _ hP hD hS (lv_sub hl [2, 1, 0] rfl) hM

/-! ShallowBoxes$Tree.levelOf(I)I -/
def f_X1_levelOf (N : Nat) (p1 : Int32) (S : zx_S) : Option (Int32) :=
  (zx_b1 (f_X2_get N 49 p1 (S 1)) (fun x1 =>
some x1))
abbrev rmX1_levelOf : Room := { frames := 1, cells := 0, slots := 0, locals := 21 }
abbrev zsX1_levelOf : List Cond := .code yX1_levelOf cX1_levelOf 2 (some .int) :: wsL_law
theorem zyX1_levelOf : yX1_levelOf.cls ≠ "java/lang/invoke/MethodHandle" ∧ yX1_levelOf.cls ≠ "java/lang/invoke/VarHandle" ∧ (parseMethodDescriptor yX1_levelOf.desc).map (fun d => d.parameters.length) = some 1 := by decide +kernel
set_option maxHeartbeats 4000000 in
set_option maxRecDepth 100000 in
theorem c_X1_levelOf (l : Launch) (D : va_G) (cI cZ cT : ClassId) (h : Nat) (ad : Nat → Nat) (S : zx_S) (sz : Nat) (N : Nat) (p1 : Int32) {R : Int32} (hM : f_X1_levelOf N p1 S = some R) : Met l yX1_levelOf zsX1_levelOf rmX1_levelOf (va_Pc [.ref h, .int p1] (bS D (zx_ty cI cZ cT) (xW1 cI h ad S) sz)) (va_Qi (fun r (_ : Unit) => R = r) (fun _ _ => True) (fun q => sz ≤ q)) 0 0 (fun q => sz ≤ q) := by
  refine Met.ofW (cc := cX1_levelOf) (maxL := 2) (ret := (some .int)) (by decide) rfl ?_
  intro p e s m args below meth c s₁ B hml hv
  obtain ⟨rfl, hsz, hP, hK, hD0, hN⟩ := hv
  have hx := B.exec
  have hb := B.bytes
  have hr := B.returns
  have hts : ∀ w ∈ wsL_law, w.before _ s = true := fun w hw => atoms_spec (ws := zsX1_levelOf) B.pre w (List.mem_cons_of_mem _ hw)
  have hown : s.vm.findClass RX1 = some m.cls := findClass_of_methodNamed B.named
  have hlocks := B.notSynchronized
  subst hsz
  generalize hAe : (fun q : Nat => s.heap.size ≤ q) = A
  have hA : ∀ q : Nat, s.heap.size ≤ q → A q := fun q h => by rw [← hAe]; exact h
  have hD := hD0
  have hS : va_S A s.heap s.heap [] := va_S.rf
  have hl := lv_entry ([.ref h, .int p1]) (n := 2) (Nat.le_of_ble_eq_true rfl)
  rw [lg_entry_eq]
  generalize (lg_sl ([.ref h, .int p1]) ++ List.replicate (2 - (lg_sl ([.ref h, .int p1])).length) Slot.unset).toArray = ls at hl ⊢
  have hl : lv_has ls 2 [(0, .ref h), (1, .int p1)] := hl
  generalize hQ : MQ below (va_Qi (fun r (_ : Unit) => R = r) (fun _ _ => True) A) ([.ref h, .int p1] : List Value).toArray s 0 0 A = Q9
  replace hQ := hQ.symm
  unfold f_X1_levelOf at hM
  refine lv_aload_n hx hb dX1_levelOf_0 rfl (lv_at hl 0 rfl) ?_
  refine va_get (D := D) (ci := 1) (v := .ref (ad 1)) (C := RX1) (T := TX1) (N := 14) hx hb hts inlX1 hown hK hP 0 rfl rfl 1 (by decide) (hts _ zw_2_6) (fun _ h9 => h9) rfl dX1_levelOf_1 ?_
  refine lv_iload_n hx hb dX1_levelOf_4 rfl (lv_at hl 1 rfl) ?_
  obtain ⟨x1, hz2, hM⟩ := zx_b1E hM
  refine va_calli (va_runSN (As := [.ref (ad 1), .int p1]) (rest := []) ⟨hx, hb, hml, hown, hts⟩ (c_X2_get l D cI cZ cT (ad 1) 49 (S 1) _ N p1 hz2) ⟨va_cnB 2 hts (zg_c zw_3_6) rfl rfl rfl (hN _ (zx_nw_X1_70)) (hts _ zw_1_2) zyX2_get ⟨Nat.le_of_ble_eq_true rfl, Nat.le_of_ble_eq_true rfl⟩, (hts _ zw_3_5), trivial⟩ ⟨bS_blind, bS_pre (zx_P1 hP 2 (rfl)) hK (zx_D1 hD 2 (rfl)) hN⟩ rfl rfl hl.1 rfl (lv_room (Nat.le_of_ble_eq_true rfl)) dX1_levelOf_5 ⟨Nat.zero_le _, Nat.zero_le _⟩) hS (fun q h1 h2 => absurd h1 (Nat.not_lt.mpr h2)) (fun q h => hA q (Nat.le_trans hS.1 h)) (fun r u t H1 lc ht hvm hw hB hz1 hk1 hS => ?_)
  replace hw : x1 = r := hw; subst hw
  replace hP := zx_keep hP hk1
  rw [hQ]
  exact W.iret hx hb hr (fun t ht hW => ⟨⟨x1, (), rfl, (Option.some.inj hM).symm, trivial⟩, hS.F ht⟩) hS.2.2 dX1_levelOf_8
