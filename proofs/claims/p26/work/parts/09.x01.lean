/-! ShallowBoxes.remove(I)I -/
def f_X2_remove (N : Nat) (p1 : Int32) (S : zx_B) : Option (Int32 × (Nat × zx_B)) :=
  (zx_b1 (f_X1_hasRectangle N p1 (S 0)) (fun x1 =>
(if x1 = 0 then
  some (0, (3, S)) else
  (zx_b1 (f_X2_remember N S) (fun T4 =>
(zx_b1 (f_X1_beginCall N (T4 0)) (fun T6 =>
(zx_n (zx_sb T4 0 T6) (fun T8 =>
(zx_b1 (f_X1_takeOut N p1 (T8 0)) (fun T9 =>
(zx_n (zx_sb T8 0 T9) (fun T11 =>
(zx_b2 (f_X1_countNodes N (T11 0)) (fun x12 T13 =>
(zx_n (zx_sb T11 0 T13) (fun T15 =>
some (x12, (0, T15)))))))))))))))))))
abbrev rmX2_remove : Room := { frames := 6, cells := 1, slots := 6, locals := 152 }
abbrev zsX2_remove : List Cond := .code yX2_remove cX2_remove 2 (some .int) :: wsL_law
theorem zyX2_remove : yX2_remove.cls ≠ "java/lang/invoke/MethodHandle" ∧ yX2_remove.cls ≠ "java/lang/invoke/VarHandle" ∧ (parseMethodDescriptor yX2_remove.desc).map (fun d => d.parameters.length) = some 1 := by decide +kernel
set_option maxHeartbeats 4000000 in
set_option maxRecDepth 100000 in
theorem c_X2_remove (l : Launch) (D : va_G) (cI cZ cT : ClassId) (hlt : l.stackTraces = false) (h : Nat) (hh : Nat → Nat) (aa : Nat → Nat → Nat) (S : zx_B) (sz : Nat) (N : Nat) (p1 : Int32) {R : Int32 × (Nat × zx_B)} (hM : f_X2_remove N p1 S = some R) : vx_Met l yX2_remove zsX2_remove rmX2_remove (va_Pc [.ref h, .int p1] (bX D (zx_ty cI cZ cT) (xW2 cI cT h hh aa S) sz)) (va_Qi (fun r u => R = (r, (0, u))) (fun u t => va_P D vwCl (xW2 cI cT h hh aa u) t.heap) (va_A (xW2 cI cT h hh aa S) sz)) (vx_X (fun u : Nat × zx_B => R = (0, u) ∧ u.1 ≠ 0) (fun E u t => E = zx_E u.1 ∧ va_P D vwCl (xW2 cI cT h hh aa u.2) t.heap) (va_A (xW2 cI cT h hh aa S) sz)) 1 6 (va_A (xW2 cI cT h hh aa S) sz) := by
  refine vx_ofW (cc := cX2_remove) (maxL := 2) (ret := (some .int)) (by decide) rfl ?_
  intro p e s m args below meth c s₁ B hml hout hv
  obtain ⟨rfl, ⟨hsz, hP, hK, hD0, hN⟩, hX⟩ := hv
  have hx := B.exec
  have hb := B.bytes
  have hr := B.returns
  have hts : ∀ w ∈ wsL_law, w.before _ s = true := fun w hw => atoms_spec (ws := zsX2_remove) B.pre w (List.mem_cons_of_mem _ hw)
  have hown : s.vm.findClass RX2 = some m.cls := findClass_of_methodNamed B.named
  have hlocks := B.notSynchronized
  subst hsz
  have hD := hD0.self (sz := s.heap.size)
  generalize hAe : va_A (xW2 cI cT h hh aa S) s.heap.size = A at hD hX ⊢
  have hU := hX.1
  have hNN := hX.2.1
  have hXw := hX.2.2.1
  have hXs := hX.2.2.2
  have hA : ∀ q : Nat, s.heap.size ≤ q → A q := fun q h => by rw [← hAe]; exact Or.inr h
  have hS : va_S A s.heap s.heap [] := va_S.rf
  have hl := lv_entry ([.ref h, .int p1]) (n := 2) (Nat.le_of_ble_eq_true rfl)
  rw [lg_entry_eq]
  generalize (lg_sl ([.ref h, .int p1]) ++ List.replicate (2 - (lg_sl ([.ref h, .int p1])).length) Slot.unset).toArray = ls at hl ⊢
  have hl : lv_has ls 2 [(0, .ref h), (1, .int p1)] := hl
  generalize hQ : vx_MQ below (va_Qi (fun r u => R = (r, (0, u))) (fun u t => va_P D vwCl (xW2 cI cT h hh aa u) t.heap) A) (vx_X (fun u : Nat × zx_B => R = (0, u) ∧ u.1 ≠ 0) (fun E u t => E = zx_E u.1 ∧ va_P D vwCl (xW2 cI cT h hh aa u.2) t.heap) A) ([.ref h, .int p1] : List Value).toArray s 1 6 A = Q9
  replace hQ := hQ.symm
  unfold f_X2_remove at hM
  refine lv_aload_n hx hb dX2_remove_0 rfl (lv_at hl 0 rfl) ?_
  refine va_get (D := D) (ci := 2) (v := .ref (hh 0)) (C := RX2) (T := TX2) (N := 8) hx hb hts inlX2 hown hK hP 0 rfl rfl 0 (by decide) (hts _ zw_1_15) (fun _ h9 => h9) rfl dX2_remove_1 ?_
  refine lv_iload_n hx hb dX2_remove_4 rfl (lv_at hl 1 rfl) ?_
  obtain ⟨x1, hz2, hM⟩ := zx_b1E hM
  refine va_calli (va_runV (As := [.int p1]) (rest := []) ⟨hx, hb, hml, hown, hts⟩ (c_X1_hasRectangle l D cI cZ cT (hh 0) (aa 0) (S 0) _ N p1 hz2) (cwV 1 hts (zg_V zw_7_8 zw_7_9 zw_7_10 zw_1_14 zw_7_11) rfl rfl rfl ⟨rfl, zyX1_hasRectangle⟩ ⟨Nat.le_of_ble_eq_true rfl, Nat.le_of_ble_eq_true rfl⟩) ⟨bS_blind, va_recv hK (zx2_P (show 0 < 18 by decide) hP) (ci := 1) (q0 := 0) rfl rfl, bS_pre (zx2_P (show 0 < 18 by decide) hP) hK (zx2_D (show 0 < 18 by decide) hD) hN⟩ rfl rfl hl.1 rfl (lv_room (Nat.le_of_ble_eq_true rfl)) dX2_remove_5 ⟨Nat.zero_le _, Nat.zero_le _⟩) hS (fun q h1 h2 => absurd h1 (Nat.not_lt.mpr h2)) (fun q h => hA q (Nat.le_trans hS.1 h)) (fun r u t H1 lc ht hvm hw hB hz1 hk1 hS => ?_)
  replace hw : x1 = r := hw; subst hw
  replace hP := zx_keep hP hk1
  refine lv_if_ne (tgt := 21) hx hb dX2_remove_8 (by decide) (fun q3 => ?_) (fun q3 => ?_)
  · replace hM := zx_f q3 hM
    refine lv_aload_n hx hb dX2_remove_21 rfl (lv_at hl 0 rfl) ?_
    obtain ⟨T4, hz5, hM⟩ := zx_b1E hM
    refine va_callv (va_runV (As := []) (rest := []) ⟨hx, hb, hml, hown, hts⟩ (c_X2_remember l D cI cZ cT h hh aa S _ N hz5) (cwV 0 hts (zg_V zw_10_4 zw_10_5 zw_10_6 zw_1_2 zw_10_7) rfl rfl rfl ⟨rfl, zyX2_remember⟩ ⟨Nat.le_of_ble_eq_true rfl, Nat.le_of_ble_eq_true rfl⟩) ⟨bS_blind, va_recv hK hP (ci := 2) (q0 := 0) rfl rfl, bS_pre hP hK hD hN⟩ rfl rfl hl.1 rfl (lv_room (Nat.le_of_ble_eq_true rfl)) dX2_remove_22 ⟨Nat.zero_le _, Nat.zero_le _⟩) hS (fun q _ h => zx_fW hD hS hA q h) (fun q h => zx_fW hD hS hA q h) (fun u t H1 lc ht hvm hw hB hz1 hk1 hS => ?_)
    replace hw : T4 = u := hw; subst hw
    rw [ht] at hB
    replace hP := hB
    replace hD := zx2_Da T4 hD
    refine lv_aload_n hx hb dX2_remove_25 rfl (lv_at hl 0 rfl) ?_
    refine va_get (D := D) (ci := 2) (v := .ref (hh 0)) (C := RX2) (T := TX2) (N := 8) hx hb hts inlX2 hown hK hP 0 rfl rfl 0 (by decide) (hts _ zw_1_15) (fun _ h9 => h9) rfl dX2_remove_26 ?_
    obtain ⟨T6, hz7, hM⟩ := zx_b1E hM
    refine va_callv (va_runV (As := []) (rest := []) ⟨hx, hb, hml, hown, hts⟩ (c_X1_beginCall l D cI cZ cT (hh 0) (aa 0) (T4 0) _ N hz7) (cwV 0 hts (zg_V zw_11_0 zw_11_1 zw_11_2 zw_1_14 zw_11_3) rfl rfl rfl ⟨rfl, zyX1_beginCall⟩ ⟨Nat.le_of_ble_eq_true rfl, Nat.le_of_ble_eq_true rfl⟩) ⟨bS_blind, va_recv hK (zx2_P (show 0 < 18 by decide) hP) (ci := 1) (q0 := 0) rfl rfl, bS_pre (zx2_P (show 0 < 18 by decide) hP) hK (zx2_D (show 0 < 18 by decide) hD) hN⟩ rfl rfl hl.1 rfl (lv_room (Nat.le_of_ble_eq_true rfl)) dX2_remove_29 ⟨Nat.zero_le _, Nat.zero_le _⟩) hS (fun q _ h => zx_fW (zx2_D (show 0 < 18 by decide) hD) hS hA q h) (fun q h => zx_fW (zx2_D (show 0 < 18 by decide) hD) hS hA q h) (fun u t H1 lc ht hvm hw hB hz1 hk1 hS => ?_)
    replace hw : T6 = u := hw; subst hw
    rw [ht] at hB
    replace hP := zx2_S (show 0 < 18 by decide) hP hD hk1 hB
    obtain ⟨T8, eT8, hM⟩ := zx_nE hM
    rw [← eT8] at hP
    replace hD := zx2_Da T8 hD
    refine lv_aload_n hx hb dX2_remove_32 rfl (lv_at hl 0 rfl) ?_
    refine va_get (D := D) (ci := 2) (v := .ref (hh 0)) (C := RX2) (T := TX2) (N := 8) hx hb hts inlX2 hown hK hP 0 rfl rfl 0 (by decide) (hts _ zw_1_15) (fun _ h9 => h9) rfl dX2_remove_33 ?_
    refine lv_iload_n hx hb dX2_remove_36 rfl (lv_at hl 1 rfl) ?_
    obtain ⟨T9, hz10, hM⟩ := zx_b1E hM
    refine va_callv (va_runV (As := [.int p1]) (rest := []) ⟨hx, hb, hml, hown, hts⟩ (c_X1_takeOut l D cI cZ cT (hh 0) (aa 0) (T8 0) _ N p1 hz10) (cwV 1 hts (zg_V zw_14_11 zw_14_12 zw_14_13 zw_1_14 zw_14_14) rfl rfl rfl ⟨rfl, zyX1_takeOut⟩ ⟨Nat.le_of_ble_eq_true rfl, Nat.le_of_ble_eq_true rfl⟩) ⟨bS_blind, va_recv hK (zx2_P (show 0 < 18 by decide) hP) (ci := 1) (q0 := 0) rfl rfl, bS_pre (zx2_P (show 0 < 18 by decide) hP) hK (zx2_D (show 0 < 18 by decide) hD) hN⟩ rfl rfl hl.1 rfl (lv_room (Nat.le_of_ble_eq_true rfl)) dX2_remove_37 ⟨Nat.zero_le _, Nat.zero_le _⟩) hS (fun q _ h => zx_fW (zx2_D (show 0 < 18 by decide) hD) hS hA q h) (fun q h => zx_fW (zx2_D (show 0 < 18 by decide) hD) hS hA q h) (fun u t H1 lc ht hvm hw hB hz1 hk1 hS => ?_)
    replace hw : T9 = u := hw; subst hw
    rw [ht] at hB
    replace hP := zx2_S (show 0 < 18 by decide) hP hD hk1 hB
    obtain ⟨T11, eT11, hM⟩ := zx_nE hM
    rw [← eT11] at hP
    replace hD := zx2_Da T11 hD
    refine lv_aload_n hx hb dX2_remove_40 rfl (lv_at hl 0 rfl) ?_
    refine va_get (D := D) (ci := 2) (v := .ref (hh 0)) (C := RX2) (T := TX2) (N := 8) hx hb hts inlX2 hown hK hP 0 rfl rfl 0 (by decide) (hts _ zw_1_15) (fun _ h9 => h9) rfl dX2_remove_41 ?_
    obtain ⟨x12, T13, hz14, hM⟩ := zx_b2E hM
    refine va_calli (va_runV (As := []) (rest := []) ⟨hx, hb, hml, hown, hts⟩ (c_X1_countNodes l D cI cZ cT (hh 0) (aa 0) (T11 0) _ N hz14) (cwV 0 hts (zg_V zw_5_10 zw_5_11 zw_5_12 zw_1_14 zw_5_13) rfl rfl rfl ⟨rfl, zyX1_countNodes⟩ ⟨Nat.le_of_ble_eq_true rfl, Nat.le_of_ble_eq_true rfl⟩) ⟨bS_blind, va_recv hK (zx2_P (show 0 < 18 by decide) hP) (ci := 1) (q0 := 0) rfl rfl, bS_pre (zx2_P (show 0 < 18 by decide) hP) hK (zx2_D (show 0 < 18 by decide) hD) hN⟩ rfl rfl hl.1 rfl (lv_room (Nat.le_of_ble_eq_true rfl)) dX2_remove_44 ⟨Nat.zero_le _, Nat.zero_le _⟩) hS (fun q _ h => zx_fW (zx2_D (show 0 < 18 by decide) hD) hS hA q h) (fun q h => zx_fW (zx2_D (show 0 < 18 by decide) hD) hS hA q h) (fun r u t H1 lc ht hvm hw hB hz1 hk1 hS => ?_)
    obtain ⟨hw1, hw2⟩ := Prod.mk.inj hw; subst hw1; subst hw2
    rw [ht] at hB
    replace hP := zx2_S (show 0 < 18 by decide) hP hD hk1 hB
    obtain ⟨T15, eT15, hM⟩ := zx_nE hM
    rw [← eT15] at hP
    replace hD := zx2_Da T15 hD
    rw [hQ]
    refine vx_ret ?_
    refine W.widen (k := 1) (n := 6) (Nat.le_of_ble_eq_true rfl) (Nat.le_of_ble_eq_true rfl) ?_
    exact W.iret hx hb hr (fun t ht hW => ⟨⟨x12, T15, rfl, (Option.some.inj hM).symm, by show va_P D vwCl _ t.heap; rw [ht]; exact hP⟩, hS.F ht⟩) hS.2.2 dX2_remove_47
  · replace hM := zx_t q3 hM
    rw [hQ]
    exact zx_thr3 hx hb hlt hown (hts _ zw_7_6) (hts _ zw_7_7) (hXs _ _ (zx_str_96)) hts hXw hU hNN hS (hl.1.trans hml.symm) dX2_remove_11 dX2_remove_14 dX2_remove_15 dX2_remove_17 dX2_remove_20 hout (Nat.le_of_ble_eq_true rfl) (Nat.le_of_ble_eq_true rfl) (Nat.le_of_ble_eq_true rfl) (Nat.le_of_ble_eq_true rfl) hlocks (fun t hvm hz hk => zx_XC (Option.some.inj hM).symm (by decide) rfl hP hS hz hk) hS.2.2 (Nat.le_of_ble_eq_true rfl) (Nat.le_of_ble_eq_true rfl)

/-! ShallowBoxes.move(III)I -/
def f_X2_move_j45 (N : Nat) (S_ : zx_B) : Option (Int32 × (Nat × zx_B)) :=
  some (0, (1, S_))
def f_X2_move (N : Nat) (p1 : Int32) (p2 : Int32) (p3 : Int32) (S : zx_B) : Option (Int32 × (Nat × zx_B)) :=
  (zx_b1 (f_X1_hasRectangle N p1 (S 0)) (fun x1 =>
(if x1 = 0 then
  some (0, (3, S)) else
  (if p2 ≤ (-100) then
  f_X2_move_j45 N  S else
  (if 100 ≤ p2 then
  f_X2_move_j45 N  S else
  (if p3 ≤ (-100) then
  f_X2_move_j45 N  S else
  (if p3 < 100 then
  (zx_b1 (f_X1_canShift N p1 p2 p3 (S 0)) (fun x8 =>
(if x8 = 0 then
  some (0, (2, S)) else
  (zx_b1 (f_X2_remember N S) (fun T11 =>
(zx_b1 (f_X1_beginCall N (T11 0)) (fun T13 =>
(zx_n (zx_sb T11 0 T13) (fun T15 =>
(zx_b1 (f_X1_takeOut N p1 (T15 0)) (fun T16 =>
(zx_n (zx_sb T15 0 T16) (fun T18 =>
(zx_b1 (f_X1_shiftBox N p1 p2 p3 (T18 0)) (fun T19 =>
(zx_n (zx_sb T18 0 T19) (fun T21 =>
(zx_b1 (f_X1_putIn N p1 (T21 0)) (fun T22 =>
(zx_n (zx_sb T21 0 T22) (fun T24 =>
(zx_b1 (f_X1_nodeAbove N p1 (T24 0)) (fun x25 =>
(zx_b2 (f_X1_numberOf N x25 (T24 0)) (fun x27 T28 =>
(zx_n (zx_sb T24 0 T28) (fun T30 =>
some (x27, (0, T30))))))))))))))))))))))))))))) else
  f_X2_move_j45 N  S)))))))
abbrev rmX2_move : Room := { frames := 6, cells := 1, slots := 6, locals := 152 }
abbrev zsX2_move : List Cond := .code yX2_move cX2_move 4 (some .int) :: wsL_law
theorem zyX2_move : yX2_move.cls ≠ "java/lang/invoke/MethodHandle" ∧ yX2_move.cls ≠ "java/lang/invoke/VarHandle" ∧ (parseMethodDescriptor yX2_move.desc).map (fun d => d.parameters.length) = some 3 := by decide +kernel
set_option maxHeartbeats 4000000 in
set_option maxRecDepth 100000 in
theorem c_X2_move (l : Launch) (D : va_G) (cI cZ cT : ClassId) (hlt : l.stackTraces = false) (h : Nat) (hh : Nat → Nat) (aa : Nat → Nat → Nat) (S : zx_B) (sz : Nat) (N : Nat) (p1 : Int32) (p2 : Int32) (p3 : Int32) {R : Int32 × (Nat × zx_B)} (hM : f_X2_move N p1 p2 p3 S = some R) : vx_Met l yX2_move zsX2_move rmX2_move (va_Pc [.ref h, .int p1, .int p2, .int p3] (bX D (zx_ty cI cZ cT) (xW2 cI cT h hh aa S) sz)) (va_Qi (fun r u => R = (r, (0, u))) (fun u t => va_P D vwCl (xW2 cI cT h hh aa u) t.heap) (va_A (xW2 cI cT h hh aa S) sz)) (vx_X (fun u : Nat × zx_B => R = (0, u) ∧ u.1 ≠ 0) (fun E u t => E = zx_E u.1 ∧ va_P D vwCl (xW2 cI cT h hh aa u.2) t.heap) (va_A (xW2 cI cT h hh aa S) sz)) 1 6 (va_A (xW2 cI cT h hh aa S) sz) := by
  refine vx_ofW (cc := cX2_move) (maxL := 4) (ret := (some .int)) (by decide) rfl ?_
  intro p e s m args below meth c s₁ B hml hout hv
  obtain ⟨rfl, ⟨hsz, hP, hK, hD0, hN⟩, hX⟩ := hv
  have hx := B.exec
  have hb := B.bytes
  have hr := B.returns
  have hts : ∀ w ∈ wsL_law, w.before _ s = true := fun w hw => atoms_spec (ws := zsX2_move) B.pre w (List.mem_cons_of_mem _ hw)
  have hown : s.vm.findClass RX2 = some m.cls := findClass_of_methodNamed B.named
  have hlocks := B.notSynchronized
  subst hsz
  have hD := hD0.self (sz := s.heap.size)
  generalize hAe : va_A (xW2 cI cT h hh aa S) s.heap.size = A at hD hX ⊢
  have hU := hX.1
  have hNN := hX.2.1
  have hXw := hX.2.2.1
  have hXs := hX.2.2.2
  have hA : ∀ q : Nat, s.heap.size ≤ q → A q := fun q h => by rw [← hAe]; exact Or.inr h
  have hS : va_S A s.heap s.heap [] := va_S.rf
  have hl := lv_entry ([.ref h, .int p1, .int p2, .int p3]) (n := 4) (Nat.le_of_ble_eq_true rfl)
  rw [lg_entry_eq]
  generalize (lg_sl ([.ref h, .int p1, .int p2, .int p3]) ++ List.replicate (4 - (lg_sl ([.ref h, .int p1, .int p2, .int p3])).length) Slot.unset).toArray = ls at hl ⊢
  have hl : lv_has ls 4 [(0, .ref h), (1, .int p1), (2, .int p2), (3, .int p3)] := hl
  generalize hQ : vx_MQ below (va_Qi (fun r u => R = (r, (0, u))) (fun u t => va_P D vwCl (xW2 cI cT h hh aa u) t.heap) A) (vx_X (fun u : Nat × zx_B => R = (0, u) ∧ u.1 ≠ 0) (fun E u t => E = zx_E u.1 ∧ va_P D vwCl (xW2 cI cT h hh aa u.2) t.heap) A) ([.ref h, .int p1, .int p2, .int p3] : List Value).toArray s 1 6 A = Q9
  replace hQ := hQ.symm
  unfold f_X2_move at hM
  refine lv_aload_n hx hb dX2_move_0 rfl (lv_at hl 0 rfl) ?_
  refine va_get (D := D) (ci := 2) (v := .ref (hh 0)) (C := RX2) (T := TX2) (N := 8) hx hb hts inlX2 hown hK hP 0 rfl rfl 0 (by decide) (hts _ zw_1_15) (fun _ h9 => h9) rfl dX2_move_1 ?_
  refine lv_iload_n hx hb dX2_move_4 rfl (lv_at hl 1 rfl) ?_
  obtain ⟨x1, hz2, hM⟩ := zx_b1E hM
  refine va_calli (va_runV (As := [.int p1]) (rest := []) ⟨hx, hb, hml, hown, hts⟩ (c_X1_hasRectangle l D cI cZ cT (hh 0) (aa 0) (S 0) _ N p1 hz2) (cwV 1 hts (zg_V zw_7_8 zw_7_9 zw_7_10 zw_1_14 zw_7_11) rfl rfl rfl ⟨rfl, zyX1_hasRectangle⟩ ⟨Nat.le_of_ble_eq_true rfl, Nat.le_of_ble_eq_true rfl⟩) ⟨bS_blind, va_recv hK (zx2_P (show 0 < 18 by decide) hP) (ci := 1) (q0 := 0) rfl rfl, bS_pre (zx2_P (show 0 < 18 by decide) hP) hK (zx2_D (show 0 < 18 by decide) hD) hN⟩ rfl rfl hl.1 rfl (lv_room (Nat.le_of_ble_eq_true rfl)) dX2_move_5 ⟨Nat.zero_le _, Nat.zero_le _⟩) hS (fun q h1 h2 => absurd h1 (Nat.not_lt.mpr h2)) (fun q h => hA q (Nat.le_trans hS.1 h)) (fun r u t H1 lc ht hvm hw hB hz1 hk1 hS => ?_)
  replace hw : x1 = r := hw; subst hw
  replace hP := zx_keep hP hk1
  refine lv_if_ne (tgt := 21) hx hb dX2_move_8 (by decide) (fun q3 => ?_) (fun q3 => ?_)
  · replace hM := zx_f q3 hM
    have j45 : ∀ (S_ : zx_B) (H : Heap) (lc : List Loc) (ls : Array Slot), va_P D vwCl (xW2 cI cT h hh aa S_) H → va_D A (xW2 cI cT h hh aa S_) → va_S A s.heap H lc → lv_has ls 4 [] → f_X2_move_j45 N S_ = some R → W p l e (headSpec zsX2_move rmX2_move).room s m ([.ref h, .int p1, .int p2, .int p3] : List Value).toArray below meth c H lc 0 0 Q9 (F0 m 45 ls []) := by
      intro S_ H lc ls hP hD hS hl hM
      unfold f_X2_move_j45 at hM
      rw [hQ]
      exact zx_thr1 hx hb hlt hown (hts _ zw_4_14) (hts _ zw_4_15) (hXs _ _ (zx_str_162)) hts hXw hU hNN hS (hl.1.trans hml.symm) dX2_move_45 dX2_move_48 dX2_move_49 dX2_move_51 dX2_move_54 hout (Nat.le_of_ble_eq_true rfl) (Nat.le_of_ble_eq_true rfl) (Nat.le_of_ble_eq_true rfl) (Nat.le_of_ble_eq_true rfl) hlocks (fun t hvm hz hk => zx_XC (Option.some.inj hM).symm (by decide) rfl hP hS hz hk) hS.2.2 (Nat.le_of_ble_eq_true rfl) (Nat.le_of_ble_eq_true rfl)
    refine lv_iload_n hx hb dX2_move_21 rfl (lv_at hl 2 rfl) ?_
    refine lv_bipush (v := (-100)) hx hb dX2_move_22 (by decide) ?_
    refine lv_icmp_le (tgt := 45) hx hb dX2_move_24 (by decide) (fun q4 => ?_) (fun q4 => ?_)
    · replace hM := zx_t q4 hM
      exact j45 S _ _ _ hP hD hS (lv_sub hl [] rfl) hM
    · replace hM := zx_f q4 hM
      refine lv_iload_n hx hb dX2_move_27 rfl (lv_at hl 2 rfl) ?_
      refine lv_bipush (v := 100) hx hb dX2_move_28 (by decide) ?_
      refine lv_icmp_ge (tgt := 45) hx hb dX2_move_30 (by decide) (fun q5 => ?_) (fun q5 => ?_)
      · replace hM := zx_t q5 hM
        exact j45 S _ _ _ hP hD hS (lv_sub hl [] rfl) hM
      · replace hM := zx_f q5 hM
        refine lv_iload_n hx hb dX2_move_33 rfl (lv_at hl 3 rfl) ?_
        refine lv_bipush (v := (-100)) hx hb dX2_move_34 (by decide) ?_
        refine lv_icmp_le (tgt := 45) hx hb dX2_move_36 (by decide) (fun q6 => ?_) (fun q6 => ?_)
        · replace hM := zx_t q6 hM
          exact j45 S _ _ _ hP hD hS (lv_sub hl [] rfl) hM
        · replace hM := zx_f q6 hM
          refine lv_iload_n hx hb dX2_move_39 rfl (lv_at hl 3 rfl) ?_
          refine lv_bipush (v := 100) hx hb dX2_move_40 (by decide) ?_
          refine lv_icmp_lt (tgt := 55) hx hb dX2_move_42 (by decide) (fun q7 => ?_) (fun q7 => ?_)
          · replace hM := zx_t q7 hM
            refine lv_aload_n hx hb dX2_move_55 rfl (lv_at hl 0 rfl) ?_
            refine va_get (D := D) (ci := 2) (v := .ref (hh 0)) (C := RX2) (T := TX2) (N := 8) hx hb hts inlX2 hown hK hP 0 rfl rfl 0 (by decide) (hts _ zw_1_15) (fun _ h9 => h9) rfl dX2_move_56 ?_
            refine lv_iload_n hx hb dX2_move_59 rfl (lv_at hl 1 rfl) ?_
            refine lv_iload_n hx hb dX2_move_60 rfl (lv_at hl 2 rfl) ?_
            refine lv_iload_n hx hb dX2_move_61 rfl (lv_at hl 3 rfl) ?_
            obtain ⟨x8, hz9, hM⟩ := zx_b1E hM
            refine va_calli (va_runV (As := [.int p1, .int p2, .int p3]) (rest := []) ⟨hx, hb, hml, hown, hts⟩ (c_X1_canShift l D cI cZ cT (hh 0) (aa 0) (S 0) _ N p1 p2 p3 hz9) (cwV 3 hts (zg_V zw_15_3 zw_15_4 zw_15_5 zw_1_14 zw_15_6) rfl rfl rfl ⟨rfl, zyX1_canShift⟩ ⟨Nat.le_of_ble_eq_true rfl, Nat.le_of_ble_eq_true rfl⟩) ⟨bS_blind, va_recv hK (zx2_P (show 0 < 18 by decide) hP) (ci := 1) (q0 := 0) rfl rfl, bS_pre (zx2_P (show 0 < 18 by decide) hP) hK (zx2_D (show 0 < 18 by decide) hD) hN⟩ rfl rfl hl.1 rfl (lv_room (Nat.le_of_ble_eq_true rfl)) dX2_move_62 ⟨Nat.zero_le _, Nat.zero_le _⟩) hS (fun q h1 h2 => absurd h1 (Nat.not_lt.mpr h2)) (fun q h => hA q (Nat.le_trans hS.1 h)) (fun r u t H1 lc ht hvm hw hB hz1 hk1 hS => ?_)
            replace hw : x8 = r := hw; subst hw
            replace hP := zx_keep hP hk1
            refine lv_if_ne (tgt := 78) hx hb dX2_move_65 (by decide) (fun q10 => ?_) (fun q10 => ?_)
            · replace hM := zx_f q10 hM
              refine lv_aload_n hx hb dX2_move_78 rfl (lv_at hl 0 rfl) ?_
              obtain ⟨T11, hz12, hM⟩ := zx_b1E hM
              refine va_callv (va_runV (As := []) (rest := []) ⟨hx, hb, hml, hown, hts⟩ (c_X2_remember l D cI cZ cT h hh aa S _ N hz12) (cwV 0 hts (zg_V zw_10_4 zw_10_5 zw_10_6 zw_1_2 zw_10_7) rfl rfl rfl ⟨rfl, zyX2_remember⟩ ⟨Nat.le_of_ble_eq_true rfl, Nat.le_of_ble_eq_true rfl⟩) ⟨bS_blind, va_recv hK hP (ci := 2) (q0 := 0) rfl rfl, bS_pre hP hK hD hN⟩ rfl rfl hl.1 rfl (lv_room (Nat.le_of_ble_eq_true rfl)) dX2_move_79 ⟨Nat.zero_le _, Nat.zero_le _⟩) hS (fun q _ h => zx_fW hD hS hA q h) (fun q h => zx_fW hD hS hA q h) (fun u t H1 lc ht hvm hw hB hz1 hk1 hS => ?_)
              replace hw : T11 = u := hw; subst hw
              rw [ht] at hB
              replace hP := hB
              replace hD := zx2_Da T11 hD
              refine lv_aload_n hx hb dX2_move_82 rfl (lv_at hl 0 rfl) ?_
              refine va_get (D := D) (ci := 2) (v := .ref (hh 0)) (C := RX2) (T := TX2) (N := 8) hx hb hts inlX2 hown hK hP 0 rfl rfl 0 (by decide) (hts _ zw_1_15) (fun _ h9 => h9) rfl dX2_move_83 ?_
              obtain ⟨T13, hz14, hM⟩ := zx_b1E hM
              refine va_callv (va_runV (As := []) (rest := []) ⟨hx, hb, hml, hown, hts⟩ (c_X1_beginCall l D cI cZ cT (hh 0) (aa 0) (T11 0) _ N hz14) (cwV 0 hts (zg_V zw_11_0 zw_11_1 zw_11_2 zw_1_14 zw_11_3) rfl rfl rfl ⟨rfl, zyX1_beginCall⟩ ⟨Nat.le_of_ble_eq_true rfl, Nat.le_of_ble_eq_true rfl⟩) ⟨bS_blind, va_recv hK (zx2_P (show 0 < 18 by decide) hP) (ci := 1) (q0 := 0) rfl rfl, bS_pre (zx2_P (show 0 < 18 by decide) hP) hK (zx2_D (show 0 < 18 by decide) hD) hN⟩ rfl rfl hl.1 rfl (lv_room (Nat.le_of_ble_eq_true rfl)) dX2_move_86 ⟨Nat.zero_le _, Nat.zero_le _⟩) hS (fun q _ h => zx_fW (zx2_D (show 0 < 18 by decide) hD) hS hA q h) (fun q h => zx_fW (zx2_D (show 0 < 18 by decide) hD) hS hA q h) (fun u t H1 lc ht hvm hw hB hz1 hk1 hS => ?_)
              replace hw : T13 = u := hw; subst hw
              rw [ht] at hB
              replace hP := zx2_S (show 0 < 18 by decide) hP hD hk1 hB
              obtain ⟨T15, eT15, hM⟩ := zx_nE hM
              rw [← eT15] at hP
              replace hD := zx2_Da T15 hD
              refine lv_aload_n hx hb dX2_move_89 rfl (lv_at hl 0 rfl) ?_
              refine va_get (D := D) (ci := 2) (v := .ref (hh 0)) (C := RX2) (T := TX2) (N := 8) hx hb hts inlX2 hown hK hP 0 rfl rfl 0 (by decide) (hts _ zw_1_15) (fun _ h9 => h9) rfl dX2_move_90 ?_
              refine lv_iload_n hx hb dX2_move_93 rfl (lv_at hl 1 rfl) ?_
              obtain ⟨T16, hz17, hM⟩ := zx_b1E hM
              refine va_callv (va_runV (As := [.int p1]) (rest := []) ⟨hx, hb, hml, hown, hts⟩ (c_X1_takeOut l D cI cZ cT (hh 0) (aa 0) (T15 0) _ N p1 hz17) (cwV 1 hts (zg_V zw_14_11 zw_14_12 zw_14_13 zw_1_14 zw_14_14) rfl rfl rfl ⟨rfl, zyX1_takeOut⟩ ⟨Nat.le_of_ble_eq_true rfl, Nat.le_of_ble_eq_true rfl⟩) ⟨bS_blind, va_recv hK (zx2_P (show 0 < 18 by decide) hP) (ci := 1) (q0 := 0) rfl rfl, bS_pre (zx2_P (show 0 < 18 by decide) hP) hK (zx2_D (show 0 < 18 by decide) hD) hN⟩ rfl rfl hl.1 rfl (lv_room (Nat.le_of_ble_eq_true rfl)) dX2_move_94 ⟨Nat.zero_le _, Nat.zero_le _⟩) hS (fun q _ h => zx_fW (zx2_D (show 0 < 18 by decide) hD) hS hA q h) (fun q h => zx_fW (zx2_D (show 0 < 18 by decide) hD) hS hA q h) (fun u t H1 lc ht hvm hw hB hz1 hk1 hS => ?_)
              replace hw : T16 = u := hw; subst hw
              rw [ht] at hB
              replace hP := zx2_S (show 0 < 18 by decide) hP hD hk1 hB
              obtain ⟨T18, eT18, hM⟩ := zx_nE hM
              rw [← eT18] at hP
              replace hD := zx2_Da T18 hD
              refine lv_aload_n hx hb dX2_move_97 rfl (lv_at hl 0 rfl) ?_
              refine va_get (D := D) (ci := 2) (v := .ref (hh 0)) (C := RX2) (T := TX2) (N := 8) hx hb hts inlX2 hown hK hP 0 rfl rfl 0 (by decide) (hts _ zw_1_15) (fun _ h9 => h9) rfl dX2_move_98 ?_
              refine lv_iload_n hx hb dX2_move_101 rfl (lv_at hl 1 rfl) ?_
              refine lv_iload_n hx hb dX2_move_102 rfl (lv_at hl 2 rfl) ?_
              refine lv_iload_n hx hb dX2_move_103 rfl (lv_at hl 3 rfl) ?_
              obtain ⟨T19, hz20, hM⟩ := zx_b1E hM
              refine va_callv (va_runV (As := [.int p1, .int p2, .int p3]) (rest := []) ⟨hx, hb, hml, hown, hts⟩ (c_X1_shiftBox l D cI cZ cT (hh 0) (aa 0) (T18 0) _ N p1 p2 p3 hz20) (cwV 3 hts (zg_V zw_15_10 zw_15_11 zw_15_12 zw_1_14 zw_15_13) rfl rfl rfl ⟨rfl, zyX1_shiftBox⟩ ⟨Nat.le_of_ble_eq_true rfl, Nat.le_of_ble_eq_true rfl⟩) ⟨bS_blind, va_recv hK (zx2_P (show 0 < 18 by decide) hP) (ci := 1) (q0 := 0) rfl rfl, bS_pre (zx2_P (show 0 < 18 by decide) hP) hK (zx2_D (show 0 < 18 by decide) hD) hN⟩ rfl rfl hl.1 rfl (lv_room (Nat.le_of_ble_eq_true rfl)) dX2_move_104 ⟨Nat.zero_le _, Nat.zero_le _⟩) hS (fun q _ h => zx_fW (zx2_D (show 0 < 18 by decide) hD) hS hA q h) (fun q h => zx_fW (zx2_D (show 0 < 18 by decide) hD) hS hA q h) (fun u t H1 lc ht hvm hw hB hz1 hk1 hS => ?_)
              replace hw : T19 = u := hw; subst hw
              rw [ht] at hB
              replace hP := zx2_S (show 0 < 18 by decide) hP hD hk1 hB
              obtain ⟨T21, eT21, hM⟩ := zx_nE hM
              rw [← eT21] at hP
              replace hD := zx2_Da T21 hD
              refine lv_aload_n hx hb dX2_move_107 rfl (lv_at hl 0 rfl) ?_
              refine va_get (D := D) (ci := 2) (v := .ref (hh 0)) (C := RX2) (T := TX2) (N := 8) hx hb hts inlX2 hown hK hP 0 rfl rfl 0 (by decide) (hts _ zw_1_15) (fun _ h9 => h9) rfl dX2_move_108 ?_
              refine lv_iload_n hx hb dX2_move_111 rfl (lv_at hl 1 rfl) ?_
              obtain ⟨T22, hz23, hM⟩ := zx_b1E hM
              refine va_callv (va_runV (As := [.int p1]) (rest := []) ⟨hx, hb, hml, hown, hts⟩ (c_X1_putIn l D cI cZ cT (hh 0) (aa 0) (T21 0) _ N p1 hz23) (cwV 1 hts (zg_V zw_11_16 zw_11_17 zw_11_18 zw_1_14 zw_11_19) rfl rfl rfl ⟨rfl, zyX1_putIn⟩ ⟨Nat.le_of_ble_eq_true rfl, Nat.le_of_ble_eq_true rfl⟩) ⟨bS_blind, va_recv hK (zx2_P (show 0 < 18 by decide) hP) (ci := 1) (q0 := 0) rfl rfl, bS_pre (zx2_P (show 0 < 18 by decide) hP) hK (zx2_D (show 0 < 18 by decide) hD) hN⟩ rfl rfl hl.1 rfl (lv_room (Nat.le_of_ble_eq_true rfl)) dX2_move_112 ⟨Nat.zero_le _, Nat.zero_le _⟩) hS (fun q _ h => zx_fW (zx2_D (show 0 < 18 by decide) hD) hS hA q h) (fun q h => zx_fW (zx2_D (show 0 < 18 by decide) hD) hS hA q h) (fun u t H1 lc ht hvm hw hB hz1 hk1 hS => ?_)
              replace hw : T22 = u := hw; subst hw
              rw [ht] at hB
              replace hP := zx2_S (show 0 < 18 by decide) hP hD hk1 hB
              obtain ⟨T24, eT24, hM⟩ := zx_nE hM
              rw [← eT24] at hP
              replace hD := zx2_Da T24 hD
              refine lv_aload_n hx hb dX2_move_115 rfl (lv_at hl 0 rfl) ?_
              refine va_get (D := D) (ci := 2) (v := .ref (hh 0)) (C := RX2) (T := TX2) (N := 8) hx hb hts inlX2 hown hK hP 0 rfl rfl 0 (by decide) (hts _ zw_1_15) (fun _ h9 => h9) rfl dX2_move_116 ?_
              refine lv_aload_n hx hb dX2_move_119 rfl (lv_at hl 0 rfl) ?_
              refine va_get (D := D) (ci := 2) (v := .ref (hh 0)) (C := RX2) (T := TX2) (N := 8) hx hb hts inlX2 hown hK hP 0 rfl rfl 0 (by decide) (hts _ zw_1_15) (fun _ h9 => h9) rfl dX2_move_120 ?_
              refine lv_iload_n hx hb dX2_move_123 rfl (lv_at hl 1 rfl) ?_
              obtain ⟨x25, hz26, hM⟩ := zx_b1E hM
              refine va_calli (va_runV (As := [.int p1]) (rest := [.ref (hh 0)]) ⟨hx, hb, hml, hown, hts⟩ (c_X1_nodeAbove l D cI cZ cT (hh 0) (aa 0) (T24 0) _ N p1 hz26) (cwV 1 hts (zg_V zw_7_12 zw_7_13 zw_7_14 zw_1_14 zw_7_15) rfl rfl rfl ⟨rfl, zyX1_nodeAbove⟩ ⟨Nat.le_of_ble_eq_true rfl, Nat.le_of_ble_eq_true rfl⟩) ⟨bS_blind, va_recv hK (zx2_P (show 0 < 18 by decide) hP) (ci := 1) (q0 := 0) rfl rfl, bS_pre (zx2_P (show 0 < 18 by decide) hP) hK (zx2_D (show 0 < 18 by decide) hD) hN⟩ rfl rfl hl.1 rfl (lv_room (Nat.le_of_ble_eq_true rfl)) dX2_move_124 ⟨Nat.zero_le _, Nat.zero_le _⟩) hS (fun q h1 h2 => absurd h1 (Nat.not_lt.mpr h2)) (fun q h => hA q (Nat.le_trans hS.1 h)) (fun r u t H1 lc ht hvm hw hB hz1 hk1 hS => ?_)
              replace hw : x25 = r := hw; subst hw
              replace hP := zx_keep hP hk1
              obtain ⟨x27, T28, hz29, hM⟩ := zx_b2E hM
              refine va_calli (va_runV (As := [.int x25]) (rest := []) ⟨hx, hb, hml, hown, hts⟩ (c_X1_numberOf l D cI cZ cT (hh 0) (aa 0) (T24 0) _ N x25 hz29) (cwV 1 hts (zg_V zw_7_16 zw_7_17 zw_7_18 zw_1_14 zw_7_19) rfl rfl rfl ⟨rfl, zyX1_numberOf⟩ ⟨Nat.le_of_ble_eq_true rfl, Nat.le_of_ble_eq_true rfl⟩) ⟨bS_blind, va_recv hK (zx2_P (show 0 < 18 by decide) hP) (ci := 1) (q0 := 0) rfl rfl, bS_pre (zx2_P (show 0 < 18 by decide) hP) hK (zx2_D (show 0 < 18 by decide) hD) hN⟩ rfl rfl hl.1 rfl (lv_room (Nat.le_of_ble_eq_true rfl)) dX2_move_127 ⟨Nat.zero_le _, Nat.zero_le _⟩) hS (fun q _ h => zx_fW (zx2_D (show 0 < 18 by decide) hD) hS hA q h) (fun q h => zx_fW (zx2_D (show 0 < 18 by decide) hD) hS hA q h) (fun r u t H1 lc ht hvm hw hB hz1 hk1 hS => ?_)
              obtain ⟨hw1, hw2⟩ := Prod.mk.inj hw; subst hw1; subst hw2
              rw [ht] at hB
              replace hP := zx2_S (show 0 < 18 by decide) hP hD hk1 hB
              obtain ⟨T30, eT30, hM⟩ := zx_nE hM
              rw [← eT30] at hP
              replace hD := zx2_Da T30 hD
              rw [hQ]
              refine vx_ret ?_
              refine W.widen (k := 1) (n := 6) (Nat.le_of_ble_eq_true rfl) (Nat.le_of_ble_eq_true rfl) ?_
              exact W.iret hx hb hr (fun t ht hW => ⟨⟨x27, T30, rfl, (Option.some.inj hM).symm, by show va_P D vwCl _ t.heap; rw [ht]; exact hP⟩, hS.F ht⟩) hS.2.2 dX2_move_130
            · replace hM := zx_t q10 hM
              rw [hQ]
              exact zx_thr2 hx hb hlt hown (hts _ zw_4_16) (hts _ zw_4_17) (hXs _ _ (zx_str_168)) hts hXw hU hNN hS (hl.1.trans hml.symm) dX2_move_68 dX2_move_71 dX2_move_72 dX2_move_74 dX2_move_77 hout (Nat.le_of_ble_eq_true rfl) (Nat.le_of_ble_eq_true rfl) (Nat.le_of_ble_eq_true rfl) (Nat.le_of_ble_eq_true rfl) hlocks (fun t hvm hz hk => zx_XC (Option.some.inj hM).symm (by decide) rfl hP hS hz hk) hS.2.2 (Nat.le_of_ble_eq_true rfl) (Nat.le_of_ble_eq_true rfl)
          · replace hM := zx_f q7 hM
            exact j45 S _ _ _ hP hD hS (lv_sub hl [] rfl) hM
  · replace hM := zx_t q3 hM
    rw [hQ]
    exact zx_thr3 hx hb hlt hown (hts _ zw_7_6) (hts _ zw_7_7) (hXs _ _ (zx_str_96)) hts hXw hU hNN hS (hl.1.trans hml.symm) dX2_move_11 dX2_move_14 dX2_move_15 dX2_move_17 dX2_move_20 hout (Nat.le_of_ble_eq_true rfl) (Nat.le_of_ble_eq_true rfl) (Nat.le_of_ble_eq_true rfl) (Nat.le_of_ble_eq_true rfl) hlocks (fun t hvm hz hk => zx_XC (Option.some.inj hM).symm (by decide) rfl hP hS hz hk) hS.2.2 (Nat.le_of_ble_eq_true rfl) (Nat.le_of_ble_eq_true rfl)

/-! ShallowBoxes.undo()I -/
def f_X2_undo (N : Nat) (S : zx_B) : Option (Int32 × (Nat × zx_B)) :=
  (if (S 19 1 1) = 0 then
  some (0, (2, S)) else
  (zx_n (zx_sb S 19 (zx_st (S 19) 1 (upd (S 19 1) 1 ((S 19 1 1) - 1)))) (fun T2 =>
(zx_n (((T2 19 1 0) + (T2 19 1 1)) - ((T2 19 1 0) + (T2 19 1 1)) / 14 * 14) (fun x3 =>
(zx_b1 (f_X2_treeAt 14 x3) (fun u4 =>
(zx_b1 (f_X1_takeOver N (T2 0) (T2 (2 + u4))) (fun T6 =>
(zx_n (zx_sb T2 0 T6) (fun T8 =>
some ((T8 19 1 1), (0, T8)))))))))))))
abbrev rmX2_undo : Room := { frames := 6, cells := 1, slots := 6, locals := 82 }
abbrev zsX2_undo : List Cond := .code yX2_undo cX2_undo 1 (some .int) :: wsL_law
theorem zyX2_undo : yX2_undo.cls ≠ "java/lang/invoke/MethodHandle" ∧ yX2_undo.cls ≠ "java/lang/invoke/VarHandle" ∧ (parseMethodDescriptor yX2_undo.desc).map (fun d => d.parameters.length) = some 0 := by decide +kernel
set_option maxHeartbeats 4000000 in
set_option maxRecDepth 100000 in
theorem c_X2_undo (l : Launch) (D : va_G) (cI cZ cT : ClassId) (hlt : l.stackTraces = false) (h : Nat) (hh : Nat → Nat) (aa : Nat → Nat → Nat) (S : zx_B) (sz : Nat) (N : Nat) {R : Int32 × (Nat × zx_B)} (hM : f_X2_undo N S = some R) : vx_Met l yX2_undo zsX2_undo rmX2_undo (va_Pc [.ref h] (bX D (zx_ty cI cZ cT) (xW2 cI cT h hh aa S) sz)) (va_Qi (fun r u => R = (r, (0, u))) (fun u t => va_P D vwCl (xW2 cI cT h hh aa u) t.heap) (va_A (xW2 cI cT h hh aa S) sz)) (vx_X (fun u : Nat × zx_B => R = (0, u) ∧ u.1 ≠ 0) (fun E u t => E = zx_E u.1 ∧ va_P D vwCl (xW2 cI cT h hh aa u.2) t.heap) (va_A (xW2 cI cT h hh aa S) sz)) 1 6 (va_A (xW2 cI cT h hh aa S) sz) := by
  refine vx_ofW (cc := cX2_undo) (maxL := 1) (ret := (some .int)) (by decide) rfl ?_
  intro p e s m args below meth c s₁ B hml hout hv
  obtain ⟨rfl, ⟨hsz, hP, hK, hD0, hN⟩, hX⟩ := hv
  have hx := B.exec
  have hb := B.bytes
  have hr := B.returns
  have hts : ∀ w ∈ wsL_law, w.before _ s = true := fun w hw => atoms_spec (ws := zsX2_undo) B.pre w (List.mem_cons_of_mem _ hw)
  have hown : s.vm.findClass RX2 = some m.cls := findClass_of_methodNamed B.named
  have hlocks := B.notSynchronized
  subst hsz
  have hD := hD0.self (sz := s.heap.size)
  generalize hAe : va_A (xW2 cI cT h hh aa S) s.heap.size = A at hD hX ⊢
  have hU := hX.1
  have hNN := hX.2.1
  have hXw := hX.2.2.1
  have hXs := hX.2.2.2
  have hA : ∀ q : Nat, s.heap.size ≤ q → A q := fun q h => by rw [← hAe]; exact Or.inr h
  have hS : va_S A s.heap s.heap [] := va_S.rf
  have hl := lv_entry ([.ref h]) (n := 1) (Nat.le_of_ble_eq_true rfl)
  rw [lg_entry_eq]
  generalize (lg_sl ([.ref h]) ++ List.replicate (1 - (lg_sl ([.ref h])).length) Slot.unset).toArray = ls at hl ⊢
  have hl : lv_has ls 1 [(0, .ref h)] := hl
  generalize hQ : vx_MQ below (va_Qi (fun r u => R = (r, (0, u))) (fun u t => va_P D vwCl (xW2 cI cT h hh aa u) t.heap) A) (vx_X (fun u : Nat × zx_B => R = (0, u) ∧ u.1 ≠ 0) (fun E u t => E = zx_E u.1 ∧ va_P D vwCl (xW2 cI cT h hh aa u.2) t.heap) A) ([.ref h] : List Value).toArray s 1 6 A = Q9
  replace hQ := hQ.symm
  unfold f_X2_undo at hM
  refine lv_aload_n hx hb dX2_undo_0 rfl (lv_at hl 0 rfl) ?_
  refine va_get (D := D) (ci := 2) (v := .int (S 19 1 1)) (C := RX2) (T := TX2) (N := 8) hx hb hts inlX2 hown hK hP 0 rfl rfl 4 (by decide) (hts _ zw_10_8) (fun _ h9 => h9) rfl dX2_undo_1 ?_
  refine lv_if_ne (tgt := 17) hx hb dX2_undo_4 (by decide) (fun q1 => ?_) (fun q1 => ?_)
  · replace hM := zx_f q1 hM
    refine lv_aload_n hx hb dX2_undo_17 rfl (lv_at hl 0 rfl) ?_
    refine lv_dup hx hb dX2_undo_18 rfl ?_
    refine va_get (D := D) (ci := 2) (v := .int (S 19 1 1)) (C := RX2) (T := TX2) (N := 8) hx hb hts inlX2 hown hK hP 0 rfl rfl 4 (by decide) (hts _ zw_10_8) (fun _ h9 => h9) rfl dX2_undo_19 ?_
    refine lv_iconst (v := 1) hx hb dX2_undo_22 (by decide) ?_
    refine lv_isub hx hb dX2_undo_23 ?_
    obtain ⟨T2, eT2, hM⟩ := zx_nE hM
    refine va_put (D := D) (ci := 2) (v := .int ((S 19 1 1) - 1)) (ty := .int) (C := RX2) (T := TX2) (N := 8) hx hb hts inlX2 tyX2 tyX2_ok nmX2 hown hK hP hD hS 0 rfl rfl 4 (by decide) (hts _ zw_10_8) (fun _ h9 => h9) rfl (by decide +kernel) rfl rfl (Nat.le_of_ble_eq_true rfl) dX2_undo_24 (fun H lc hP _ hS => ?_)
    replace hP : va_P D vwCl (xW2 cI cT h hh aa T2) H := by rw [eT2]; exact xW2_pf4 hP
    replace hD : va_D A (xW2 cI cT h hh aa T2) := zx2_Da T2 hD
    refine lv_aload_n hx hb dX2_undo_27 rfl (lv_at hl 0 rfl) ?_
    refine va_get (D := D) (ci := 2) (v := .ref (hh 0)) (C := RX2) (T := TX2) (N := 8) hx hb hts inlX2 hown hK hP 0 rfl rfl 0 (by decide) (hts _ zw_1_15) (fun _ h9 => h9) rfl dX2_undo_28 ?_
    refine lv_aload_n hx hb dX2_undo_31 rfl (lv_at hl 0 rfl) ?_
    refine va_get (D := D) (ci := 2) (v := .ref (aa 19 1)) (C := RX2) (T := TX2) (N := 8) hx hb hts inlX2 hown hK hP 0 rfl rfl 2 (by decide) (hts _ zw_1_17) (fun _ h9 => h9) rfl dX2_undo_32 ?_
    refine lv_aload_n hx hb dX2_undo_35 rfl (lv_at hl 0 rfl) ?_
    refine va_get (D := D) (ci := 2) (v := .int (T2 19 1 0)) (C := RX2) (T := TX2) (N := 8) hx hb hts inlX2 hown hK hP 0 rfl rfl 3 (by decide) (hts _ zw_10_9) (fun _ h9 => h9) rfl dX2_undo_36 ?_
    refine lv_aload_n hx hb dX2_undo_39 rfl (lv_at hl 0 rfl) ?_
    refine va_get (D := D) (ci := 2) (v := .int (T2 19 1 1)) (C := RX2) (T := TX2) (N := 8) hx hb hts inlX2 hown hK hP 0 rfl rfl 4 (by decide) (hts _ zw_10_8) (fun _ h9 => h9) rfl dX2_undo_40 ?_
    refine lv_iadd hx hb dX2_undo_43 ?_
    refine lv_bipush (v := 14) hx hb dX2_undo_44 (by decide) ?_
    refine lv_irem hx hb dX2_undo_46 (by decide) ?_
    obtain ⟨x3, ex3, hM⟩ := zx_nE hM
    refine zx_top ex3 ?_
    obtain ⟨u4, hz5, hM⟩ := zx_b1E hM
    have hju4 : 2 + u4 < 18 := by have := f_X2_treeAt_lt hz5; omega
    refine va_callr (va_runS (As := [.ref (aa 19 1), .int x3]) (rest := [.ref (hh 0)]) ⟨hx, hb, hml, hown, hts⟩ (c_X2_treeAt l D cI cZ cT (aa 19 1) 14 (by decide) (fun i => hh (2 + i)) _ x3 hz5) (va_cwS 2 hts (zg_S zw_10_10 zw_10_11 zw_1_2 zw_10_12) rfl rfl rfl zyX2_treeAt ⟨Nat.le_of_ble_eq_true rfl, Nat.le_of_ble_eq_true rfl⟩) ⟨bS_blind, bS_pre (zx_P1 hP 2 rfl) hK (zx_D1 hD 2 rfl) hN⟩ rfl rfl hl.1 rfl (lv_room (Nat.le_of_ble_eq_true rfl)) dX2_undo_47 ⟨Nat.zero_le _, Nat.zero_le _⟩) hS (fun q h1 h2 => absurd h1 (Nat.not_lt.mpr h2)) (fun q h => hA q (Nat.le_trans hS.1 h)) (fun u ra t H1 lc ht hvm hw hB hz1 hk1 hS => ?_)
    replace hw : u4 = u := hw; subst hw; replace hB : ra = hh (2 + u4) := hB; subst hB
    replace hP := zx_keep hP hk1
    obtain ⟨T6, hz7, hM⟩ := zx_b1E hM
    refine va_callv (va_runV (As := [.ref (hh (2 + u4))]) (rest := []) ⟨hx, hb, hml, hown, hts⟩ (c_X1_takeOver l D cI cZ cT (hh 0) (aa 0) (T2 0) (hh (2 + u4)) (aa (2 + u4)) (T2 (2 + u4)) _ N hz7) (cwV 1 hts (zg_V zw_10_13 zw_10_14 zw_10_15 zw_1_14 zw_10_16) rfl rfl rfl ⟨rfl, zyX1_takeOver⟩ ⟨Nat.le_of_ble_eq_true rfl, Nat.le_of_ble_eq_true rfl⟩) ⟨bS_blind, va_recv hK (zx2_P2 (show 0 < 18 by decide) hju4 hP) (ci := 1) (q0 := 0) rfl rfl, bS_pre (zx2_P2 (show 0 < 18 by decide) hju4 hP) hK (zx2_D2 (show 0 < 18 by decide) hju4 (by omega) hD) hN⟩ rfl rfl hl.1 rfl (lv_room (Nat.le_of_ble_eq_true rfl)) dX2_undo_50 ⟨Nat.zero_le _, Nat.zero_le _⟩) hS (fun q _ h => zx_fW (zx2_D2 (show 0 < 18 by decide) hju4 (by omega) hD) hS hA q h) (fun q h => zx_fW (zx2_D2 (show 0 < 18 by decide) hju4 (by omega) hD) hS hA q h) (fun u t H1 lc ht hvm hw hB hz1 hk1 hS => ?_)
    replace hw : T6 = u := hw; subst hw
    rw [ht] at hB
    replace hP := zx2_S2 (show 0 < 18 by decide) hju4 (by omega) hP hD hk1 hB
    obtain ⟨T8, eT8, hM⟩ := zx_nE hM
    rw [← eT8] at hP
    replace hD := zx2_Da T8 hD
    refine lv_aload_n hx hb dX2_undo_53 rfl (lv_at hl 0 rfl) ?_
    refine va_get (D := D) (ci := 2) (v := .int (T8 19 1 1)) (C := RX2) (T := TX2) (N := 8) hx hb hts inlX2 hown hK hP 0 rfl rfl 4 (by decide) (hts _ zw_10_8) (fun _ h9 => h9) rfl dX2_undo_54 ?_
    rw [hQ]
    refine vx_ret ?_
    refine W.widen (k := 1) (n := 6) (Nat.le_of_ble_eq_true rfl) (Nat.le_of_ble_eq_true rfl) ?_
    exact W.iret hx hb hr (fun t ht hW => ⟨⟨(T8 19 1 1), T8, rfl, (Option.some.inj hM).symm, by show va_P D vwCl _ t.heap; rw [ht]; exact hP⟩, hS.F ht⟩) hS.2.2 dX2_undo_57
  · replace hM := zx_t q1 hM
    rw [hQ]
    exact zx_thr2 hx hb hlt hown (hts _ zw_4_16) (hts _ zw_4_17) (hXs _ _ (zx_str_177)) hts hXw hU hNN hS (hl.1.trans hml.symm) dX2_undo_7 dX2_undo_10 dX2_undo_11 dX2_undo_13 dX2_undo_16 hout (Nat.le_of_ble_eq_true rfl) (Nat.le_of_ble_eq_true rfl) (Nat.le_of_ble_eq_true rfl) (Nat.le_of_ble_eq_true rfl) hlocks (fun t hvm hz hk => zx_XC (Option.some.inj hM).symm (by decide) rfl hP hS hz hk) hS.2.2 (Nat.le_of_ble_eq_true rfl) (Nat.le_of_ble_eq_true rfl)

/-! ShallowBoxes.window(IIII)I -/
def f_X2_window_j83 (N : Nat) (k41 : Int32 → Int32 → zx_B → Option (Int32 × (Nat × zx_B))) (v5 : Int32) (v6 : Int32) (S_ : zx_B) : Option (Int32 × (Nat × zx_B)) :=
  (zx_n (v6 + 1) (fun x5 =>
k41 v5 x5 S_))
def f_X2_window_l41 (N : Nat) : Nat → Int32 → Int32 → zx_B → Option (Int32 × (Nat × zx_B))
  | 0, _, _, _ => none
  | n41 + 1, v5, v6, S_ => (if 24 ≤ v6 then
  some (v5, (0, S_)) else
  (zx_b1 (f_X1_hasRectangle N v6 (S_ 0)) (fun x6 =>
(if x6 = 0 then
  f_X2_window_j83 N (f_X2_window_l41 N  n41) v5 v6 S_ else
  (zx_b1 (f_X1_commonCells N v6 48 (S_ 0)) (fun x9 =>
(if x9 ≤ 0 then
  f_X2_window_j83 N (f_X2_window_l41 N  n41) v5 v6 S_ else
  (zx_n (v5 ||| (1 <<< (v6 &&& 31))) (fun x12 =>
f_X2_window_j83 N (f_X2_window_l41 N  n41) x12 v6 S_)))))))))
def f_X2_window (N : Nat) (p1 : Int32) (p2 : Int32) (p3 : Int32) (p4 : Int32) (S : zx_B) : Option (Int32 × (Nat × zx_B)) :=
  (zx_b1 (f_X2_isBox N p1 p2 p3 p4) (fun x1 =>
(if x1 = 0 then
  some (0, (1, S)) else
  (zx_b1 (f_X1_setBox N 48 p1 p2 p3 p4 (S 0)) (fun T13 =>
(zx_n (zx_sb S 0 T13) (fun T15 =>
f_X2_window_l41 N  N 0 0 T15)))))))
abbrev rmX2_window : Room := { frames := 6, cells := 1, slots := 6, locals := 82 }
abbrev zsX2_window : List Cond := .code yX2_window cX2_window 7 (some .int) :: wsL_law
theorem zyX2_window : yX2_window.cls ≠ "java/lang/invoke/MethodHandle" ∧ yX2_window.cls ≠ "java/lang/invoke/VarHandle" ∧ (parseMethodDescriptor yX2_window.desc).map (fun d => d.parameters.length) = some 4 := by decide +kernel
set_option maxHeartbeats 4000000 in
set_option maxRecDepth 100000 in
theorem c_X2_window (l : Launch) (D : va_G) (cI cZ cT : ClassId) (hlt : l.stackTraces = false) (h : Nat) (hh : Nat → Nat) (aa : Nat → Nat → Nat) (S : zx_B) (sz : Nat) (N : Nat) (p1 : Int32) (p2 : Int32) (p3 : Int32) (p4 : Int32) {R : Int32 × (Nat × zx_B)} (hM : f_X2_window N p1 p2 p3 p4 S = some R) : vx_Met l yX2_window zsX2_window rmX2_window (va_Pc [.ref h, .int p1, .int p2, .int p3, .int p4] (bX D (zx_ty cI cZ cT) (xW2 cI cT h hh aa S) sz)) (va_Qi (fun r u => R = (r, (0, u))) (fun u t => va_P D vwCl (xW2 cI cT h hh aa u) t.heap) (va_A (xW2 cI cT h hh aa S) sz)) (vx_X (fun u : Nat × zx_B => R = (0, u) ∧ u.1 ≠ 0) (fun E u t => E = zx_E u.1 ∧ va_P D vwCl (xW2 cI cT h hh aa u.2) t.heap) (va_A (xW2 cI cT h hh aa S) sz)) 1 6 (va_A (xW2 cI cT h hh aa S) sz) := by
  refine vx_ofW (cc := cX2_window) (maxL := 7) (ret := (some .int)) (by decide) rfl ?_
  intro p e s m args below meth c s₁ B hml hout hv
  obtain ⟨rfl, ⟨hsz, hP, hK, hD0, hN⟩, hX⟩ := hv
  have hx := B.exec
  have hb := B.bytes
  have hr := B.returns
  have hts : ∀ w ∈ wsL_law, w.before _ s = true := fun w hw => atoms_spec (ws := zsX2_window) B.pre w (List.mem_cons_of_mem _ hw)
  have hown : s.vm.findClass RX2 = some m.cls := findClass_of_methodNamed B.named
  have hlocks := B.notSynchronized
  subst hsz
  have hD := hD0.self (sz := s.heap.size)
  generalize hAe : va_A (xW2 cI cT h hh aa S) s.heap.size = A at hD hX ⊢
  have hU := hX.1
  have hNN := hX.2.1
  have hXw := hX.2.2.1
  have hXs := hX.2.2.2
  have hA : ∀ q : Nat, s.heap.size ≤ q → A q := fun q h => by rw [← hAe]; exact Or.inr h
  have hS : va_S A s.heap s.heap [] := va_S.rf
  have hl := lv_entry ([.ref h, .int p1, .int p2, .int p3, .int p4]) (n := 7) (Nat.le_of_ble_eq_true rfl)
  rw [lg_entry_eq]
  generalize (lg_sl ([.ref h, .int p1, .int p2, .int p3, .int p4]) ++ List.replicate (7 - (lg_sl ([.ref h, .int p1, .int p2, .int p3, .int p4])).length) Slot.unset).toArray = ls at hl ⊢
  have hl : lv_has ls 7 [(0, .ref h), (1, .int p1), (2, .int p2), (3, .int p3), (4, .int p4)] := hl
  generalize hQ : vx_MQ below (va_Qi (fun r u => R = (r, (0, u))) (fun u t => va_P D vwCl (xW2 cI cT h hh aa u) t.heap) A) (vx_X (fun u : Nat × zx_B => R = (0, u) ∧ u.1 ≠ 0) (fun E u t => E = zx_E u.1 ∧ va_P D vwCl (xW2 cI cT h hh aa u.2) t.heap) A) ([.ref h, .int p1, .int p2, .int p3, .int p4] : List Value).toArray s 1 6 A = Q9
  replace hQ := hQ.symm
  unfold f_X2_window at hM
  refine lv_iload_n hx hb dX2_window_0 rfl (lv_at hl 1 rfl) ?_
  refine lv_iload_n hx hb dX2_window_1 rfl (lv_at hl 2 rfl) ?_
  refine lv_iload_n hx hb dX2_window_2 rfl (lv_at hl 3 rfl) ?_
  refine lv_iload hx hb dX2_window_3 (lv_at hl 4 rfl) ?_
  obtain ⟨x1, hz2, hM⟩ := zx_b1E hM
  refine va_calli (va_runS (As := [.int p1, .int p2, .int p3, .int p4]) (rest := []) ⟨hx, hb, hml, hown, hts⟩ (c_X2_isBox l D cI cZ cT _ N p1 p2 p3 p4 hz2) (va_cwS 4 hts (zg_S zw_17_20 zw_15_8 zw_1_2 zw_15_9) rfl rfl rfl zyX2_isBox ⟨Nat.le_of_ble_eq_true rfl, Nat.le_of_ble_eq_true rfl⟩) ⟨bS_blind, bS_pre (zx_P0 hP) hK (zx_D0 hD) hN⟩ rfl rfl hl.1 rfl (lv_room (Nat.le_of_ble_eq_true rfl)) dX2_window_5 ⟨Nat.zero_le _, Nat.zero_le _⟩) hS (fun q h1 h2 => absurd h1 (Nat.not_lt.mpr h2)) (fun q h => hA q (Nat.le_trans hS.1 h)) (fun r u t H1 lc ht hvm hw hB hz1 hk1 hS => ?_)
  replace hw : x1 = r := hw; subst hw
  replace hP := zx_keep hP hk1
  refine lv_if_ne (tgt := 21) hx hb dX2_window_8 (by decide) (fun q3 => ?_) (fun q3 => ?_)
  · replace hM := zx_f q3 hM
    have l41 : ∀ (n41 : Nat) (v5 : Int32) (v6 : Int32) (S_ : zx_B) (H : Heap) (lc : List Loc) (ls : Array Slot), va_P D vwCl (xW2 cI cT h hh aa S_) H → va_D A (xW2 cI cT h hh aa S_) → va_S A s.heap H lc → lv_has ls 7 [(0, .ref h), (5, .int v5), (6, .int v6)] → f_X2_window_l41 N n41 v5 v6 S_ = some R → W p l e (headSpec zsX2_window rmX2_window).room s m ([.ref h, .int p1, .int p2, .int p3, .int p4] : List Value).toArray below meth c H lc 0 0 Q9 (F0 m 41 ls []) := by
      intro n41
      induction n41 with
      | zero =>
        intro v5 v6 S_ H lc ls hP hD hS hl hM
        rw [f_X2_window_l41] at hM; exact absurd hM (by intro h; cases h)
      | succ n41 ih41 =>
        intro v5 v6 S_ H lc ls hP hD hS hl hM
        rw [f_X2_window_l41] at hM
        refine lv_iload hx hb dX2_window_41 (lv_at hl 2 rfl) ?_
        refine lv_bipush (v := 24) hx hb dX2_window_43 (by decide) ?_
        refine lv_icmp_ge (tgt := 89) hx hb dX2_window_45 (by decide) (fun q4 => ?_) (fun q4 => ?_)
        · replace hM := zx_t q4 hM
          refine lv_iload hx hb dX2_window_89 (lv_at hl 1 rfl) ?_
          rw [hQ]
          refine vx_ret ?_
          refine W.widen (k := 1) (n := 6) (Nat.le_of_ble_eq_true rfl) (Nat.le_of_ble_eq_true rfl) ?_
          exact W.iret hx hb hr (fun t ht hW => ⟨⟨v5, S_, rfl, (Option.some.inj hM).symm, by show va_P D vwCl _ t.heap; rw [ht]; exact hP⟩, hS.F ht⟩) hS.2.2 dX2_window_91
        · replace hM := zx_f q4 hM
          have j83 : ∀ (v5 : Int32) (v6 : Int32) (S_ : zx_B) (H : Heap) (lc : List Loc) (ls : Array Slot), va_P D vwCl (xW2 cI cT h hh aa S_) H → va_D A (xW2 cI cT h hh aa S_) → va_S A s.heap H lc → lv_has ls 7 [(0, .ref h), (5, .int v5), (6, .int v6)] → f_X2_window_j83 N (f_X2_window_l41 N  n41) v5 v6 S_ = some R → W p l e (headSpec zsX2_window rmX2_window).room s m ([.ref h, .int p1, .int p2, .int p3, .int p4] : List Value).toArray below meth c H lc 0 0 Q9 (F0 m 83 ls []) := by
            intro v5 v6 S_ H lc ls hP hD hS hl hM
            unfold f_X2_window_j83 at hM
            obtain ⟨x5, ex5, hM⟩ := zx_nE hM
            refine lv_iinc (v := x5) (lv' := [(6, .int x5), (0, .ref h), (5, .int v5)]) hx hb dX2_window_83 hl (k := 2) rfl (by rw [ex5]; rfl) (by decide) rfl (fun ls hl => ?_)
            refine lv_goto (tgt := 41) hx hb dX2_window_86 (by decide) ?_
            exact ih41 v5 x5 S_ _ _ _ hP hD hS (lv_sub hl [1, 2, 0] rfl) hM
          refine lv_aload_n hx hb dX2_window_48 rfl (lv_at hl 0 rfl) ?_
          refine va_get (D := D) (ci := 2) (v := .ref (hh 0)) (C := RX2) (T := TX2) (N := 8) hx hb hts inlX2 hown hK hP 0 rfl rfl 0 (by decide) (hts _ zw_1_15) (fun _ h9 => h9) rfl dX2_window_49 ?_
          refine lv_iload hx hb dX2_window_52 (lv_at hl 2 rfl) ?_
          obtain ⟨x6, hz7, hM⟩ := zx_b1E hM
          refine va_calli (va_runV (As := [.int v6]) (rest := []) ⟨hx, hb, hml, hown, hts⟩ (c_X1_hasRectangle l D cI cZ cT (hh 0) (aa 0) (S_ 0) _ N v6 hz7) (cwV 1 hts (zg_V zw_7_8 zw_7_9 zw_7_10 zw_1_14 zw_7_11) rfl rfl rfl ⟨rfl, zyX1_hasRectangle⟩ ⟨Nat.le_of_ble_eq_true rfl, Nat.le_of_ble_eq_true rfl⟩) ⟨bS_blind, va_recv hK (zx2_P (show 0 < 18 by decide) hP) (ci := 1) (q0 := 0) rfl rfl, bS_pre (zx2_P (show 0 < 18 by decide) hP) hK (zx2_D (show 0 < 18 by decide) hD) hN⟩ rfl rfl hl.1 rfl (lv_room (Nat.le_of_ble_eq_true rfl)) dX2_window_54 ⟨Nat.zero_le _, Nat.zero_le _⟩) hS (fun q h1 h2 => absurd h1 (Nat.not_lt.mpr h2)) (fun q h => hA q (Nat.le_trans hS.1 h)) (fun r u t H1 lc ht hvm hw hB hz1 hk1 hS => ?_)
          replace hw : x6 = r := hw; subst hw
          replace hP := zx_keep hP hk1
          refine lv_if_eq (tgt := 83) hx hb dX2_window_57 (by decide) (fun q8 => ?_) (fun q8 => ?_)
          · replace hM := zx_t q8 hM
            exact j83 v5 v6 S_ _ _ _ hP hD hS (lv_sub hl [0, 1, 2] rfl) hM
          · replace hM := zx_f q8 hM
            refine lv_aload_n hx hb dX2_window_60 rfl (lv_at hl 0 rfl) ?_
            refine va_get (D := D) (ci := 2) (v := .ref (hh 0)) (C := RX2) (T := TX2) (N := 8) hx hb hts inlX2 hown hK hP 0 rfl rfl 0 (by decide) (hts _ zw_1_15) (fun _ h9 => h9) rfl dX2_window_61 ?_
            refine lv_iload hx hb dX2_window_64 (lv_at hl 2 rfl) ?_
            refine lv_bipush (v := 48) hx hb dX2_window_66 (by decide) ?_
            obtain ⟨x9, hz10, hM⟩ := zx_b1E hM
            refine va_calli (va_runV (As := [.int v6, .int 48]) (rest := []) ⟨hx, hb, hml, hown, hts⟩ (c_X1_commonCells l D cI cZ cT (hh 0) (aa 0) (S_ 0) _ N v6 48 hz10) (cwV 2 hts (zg_V zw_18_4 zw_6_4 zw_6_5 zw_1_14 zw_6_6) rfl rfl rfl ⟨rfl, zyX1_commonCells⟩ ⟨Nat.le_of_ble_eq_true rfl, Nat.le_of_ble_eq_true rfl⟩) ⟨bS_blind, va_recv hK (zx2_P (show 0 < 18 by decide) hP) (ci := 1) (q0 := 0) rfl rfl, bS_pre (zx2_P (show 0 < 18 by decide) hP) hK (zx2_D (show 0 < 18 by decide) hD) hN⟩ rfl rfl hl.1 rfl (lv_room (Nat.le_of_ble_eq_true rfl)) dX2_window_68 ⟨Nat.zero_le _, Nat.zero_le _⟩) hS (fun q h1 h2 => absurd h1 (Nat.not_lt.mpr h2)) (fun q h => hA q (Nat.le_trans hS.1 h)) (fun r u t H1 lc ht hvm hw hB hz1 hk1 hS => ?_)
            replace hw : x9 = r := hw; subst hw
            replace hP := zx_keep hP hk1
            refine lv_if_le (tgt := 83) hx hb dX2_window_71 (by decide) (fun q11 => ?_) (fun q11 => ?_)
            · replace hM := zx_t q11 hM
              exact j83 v5 v6 S_ _ _ _ hP hD hS (lv_sub hl [0, 1, 2] rfl) hM
            · replace hM := zx_f q11 hM
              refine lv_iload hx hb dX2_window_74 (lv_at hl 1 rfl) ?_
              refine lv_iconst (v := 1) hx hb dX2_window_76 (by decide) ?_
              refine lv_iload hx hb dX2_window_77 (lv_at hl 2 rfl) ?_
              refine lv_ishl hx hb dX2_window_79 ?_
              refine lv_ior hx hb dX2_window_80 ?_
              obtain ⟨x12, ex12, hM⟩ := zx_nE hM
              refine zx_top ex12 ?_
              refine lv_istore (lv' := [(5, .int x12), (0, .ref h), (6, .int v6)]) hx hb dX2_window_81 hl (by decide) rfl (fun ls hl => ?_)
              exact j83 x12 v6 S_ _ _ _ hP hD hS (lv_sub hl [1, 0, 2] rfl) hM
    refine lv_aload_n hx hb dX2_window_21 rfl (lv_at hl 0 rfl) ?_
    refine va_get (D := D) (ci := 2) (v := .ref (hh 0)) (C := RX2) (T := TX2) (N := 8) hx hb hts inlX2 hown hK hP 0 rfl rfl 0 (by decide) (hts _ zw_1_15) (fun _ h9 => h9) rfl dX2_window_22 ?_
    refine lv_bipush (v := 48) hx hb dX2_window_25 (by decide) ?_
    refine lv_iload_n hx hb dX2_window_27 rfl (lv_at hl 1 rfl) ?_
    refine lv_iload_n hx hb dX2_window_28 rfl (lv_at hl 2 rfl) ?_
    refine lv_iload_n hx hb dX2_window_29 rfl (lv_at hl 3 rfl) ?_
    refine lv_iload hx hb dX2_window_30 (lv_at hl 4 rfl) ?_
    obtain ⟨T13, hz14, hM⟩ := zx_b1E hM
    refine va_callv (va_runV (As := [.int 48, .int p1, .int p2, .int p3, .int p4]) (rest := []) ⟨hx, hb, hml, hown, hts⟩ (c_X1_setBox l D cI cZ cT (hh 0) (aa 0) (S 0) _ N 48 p1 p2 p3 p4 hz14) (cwV 5 hts (zg_V zw_11_12 zw_11_13 zw_11_14 zw_1_14 zw_11_15) rfl rfl rfl ⟨rfl, zyX1_setBox⟩ ⟨Nat.le_of_ble_eq_true rfl, Nat.le_of_ble_eq_true rfl⟩) ⟨bS_blind, va_recv hK (zx2_P (show 0 < 18 by decide) hP) (ci := 1) (q0 := 0) rfl rfl, bS_pre (zx2_P (show 0 < 18 by decide) hP) hK (zx2_D (show 0 < 18 by decide) hD) hN⟩ rfl rfl hl.1 rfl (lv_room (Nat.le_of_ble_eq_true rfl)) dX2_window_32 ⟨Nat.zero_le _, Nat.zero_le _⟩) hS (fun q _ h => zx_fW (zx2_D (show 0 < 18 by decide) hD) hS hA q h) (fun q h => zx_fW (zx2_D (show 0 < 18 by decide) hD) hS hA q h) (fun u t H1 lc ht hvm hw hB hz1 hk1 hS => ?_)
    replace hw : T13 = u := hw; subst hw
    rw [ht] at hB
    replace hP := zx2_S (show 0 < 18 by decide) hP hD hk1 hB
    obtain ⟨T15, eT15, hM⟩ := zx_nE hM
    rw [← eT15] at hP
    replace hD := zx2_Da T15 hD
    refine lv_iconst (v := 0) hx hb dX2_window_35 (by decide) ?_
    refine lv_istore (lv' := [(5, .int 0), (0, .ref h), (1, .int p1), (2, .int p2), (3, .int p3), (4, .int p4)]) hx hb dX2_window_36 hl (by decide) rfl (fun ls hl => ?_)
    refine lv_iconst (v := 0) hx hb dX2_window_38 (by decide) ?_
    refine lv_istore (lv' := [(6, .int 0), (5, .int 0), (0, .ref h), (1, .int p1), (2, .int p2), (3, .int p3), (4, .int p4)]) hx hb dX2_window_39 hl (by decide) rfl (fun ls hl => ?_)
    exact l41 N 0 0 T15 _ _ _ hP hD hS (lv_sub hl [2, 1, 0] rfl) hM
  · replace hM := zx_t q3 hM
    rw [hQ]
    exact zx_thr1 hx hb hlt hown (hts _ zw_4_14) (hts _ zw_4_15) (hXs _ _ (zx_str_130)) hts hXw hU hNN hS (hl.1.trans hml.symm) dX2_window_11 dX2_window_14 dX2_window_15 dX2_window_17 dX2_window_20 hout (Nat.le_of_ble_eq_true rfl) (Nat.le_of_ble_eq_true rfl) (Nat.le_of_ble_eq_true rfl) (Nat.le_of_ble_eq_true rfl) hlocks (fun t hvm hz hk => zx_XC (Option.some.inj hM).symm (by decide) rfl hP hS hz hk) hS.2.2 (Nat.le_of_ble_eq_true rfl) (Nat.le_of_ble_eq_true rfl)

/-! ShallowBoxes.looks(IIII)I -/
def f_X2_looks (N : Nat) (p1 : Int32) (p2 : Int32) (p3 : Int32) (p4 : Int32) (S : zx_B) : Option (Int32 × (Nat × zx_B)) :=
  (zx_b1 (f_X2_isBox N p1 p2 p3 p4) (fun x1 =>
(if x1 = 0 then
  some (0, (1, S)) else
  (zx_b1 (f_X1_setBox N 48 p1 p2 p3 p4 (S 0)) (fun T4 =>
(zx_n (zx_sb S 0 T4) (fun T6 =>
(zx_b2 (f_X1_lookedAt N 48 (T6 0)) (fun x7 T8 =>
(zx_n (zx_sb T6 0 T8) (fun T10 =>
some (x7, (0, T10)))))))))))))
abbrev rmX2_looks : Room := { frames := 6, cells := 1, slots := 6, locals := 82 }
abbrev zsX2_looks : List Cond := .code yX2_looks cX2_looks 5 (some .int) :: wsL_law
theorem zyX2_looks : yX2_looks.cls ≠ "java/lang/invoke/MethodHandle" ∧ yX2_looks.cls ≠ "java/lang/invoke/VarHandle" ∧ (parseMethodDescriptor yX2_looks.desc).map (fun d => d.parameters.length) = some 4 := by decide +kernel
set_option maxHeartbeats 4000000 in
set_option maxRecDepth 100000 in
theorem c_X2_looks (l : Launch) (D : va_G) (cI cZ cT : ClassId) (hlt : l.stackTraces = false) (h : Nat) (hh : Nat → Nat) (aa : Nat → Nat → Nat) (S : zx_B) (sz : Nat) (N : Nat) (p1 : Int32) (p2 : Int32) (p3 : Int32) (p4 : Int32) {R : Int32 × (Nat × zx_B)} (hM : f_X2_looks N p1 p2 p3 p4 S = some R) : vx_Met l yX2_looks zsX2_looks rmX2_looks (va_Pc [.ref h, .int p1, .int p2, .int p3, .int p4] (bX D (zx_ty cI cZ cT) (xW2 cI cT h hh aa S) sz)) (va_Qi (fun r u => R = (r, (0, u))) (fun u t => va_P D vwCl (xW2 cI cT h hh aa u) t.heap) (va_A (xW2 cI cT h hh aa S) sz)) (vx_X (fun u : Nat × zx_B => R = (0, u) ∧ u.1 ≠ 0) (fun E u t => E = zx_E u.1 ∧ va_P D vwCl (xW2 cI cT h hh aa u.2) t.heap) (va_A (xW2 cI cT h hh aa S) sz)) 1 6 (va_A (xW2 cI cT h hh aa S) sz) := by
  refine vx_ofW (cc := cX2_looks) (maxL := 5) (ret := (some .int)) (by decide) rfl ?_
  intro p e s m args below meth c s₁ B hml hout hv
  obtain ⟨rfl, ⟨hsz, hP, hK, hD0, hN⟩, hX⟩ := hv
  have hx := B.exec
  have hb := B.bytes
  have hr := B.returns
  have hts : ∀ w ∈ wsL_law, w.before _ s = true := fun w hw => atoms_spec (ws := zsX2_looks) B.pre w (List.mem_cons_of_mem _ hw)
  have hown : s.vm.findClass RX2 = some m.cls := findClass_of_methodNamed B.named
  have hlocks := B.notSynchronized
  subst hsz
  have hD := hD0.self (sz := s.heap.size)
  generalize hAe : va_A (xW2 cI cT h hh aa S) s.heap.size = A at hD hX ⊢
  have hU := hX.1
  have hNN := hX.2.1
  have hXw := hX.2.2.1
  have hXs := hX.2.2.2
  have hA : ∀ q : Nat, s.heap.size ≤ q → A q := fun q h => by rw [← hAe]; exact Or.inr h
  have hS : va_S A s.heap s.heap [] := va_S.rf
  have hl := lv_entry ([.ref h, .int p1, .int p2, .int p3, .int p4]) (n := 5) (Nat.le_of_ble_eq_true rfl)
  rw [lg_entry_eq]
  generalize (lg_sl ([.ref h, .int p1, .int p2, .int p3, .int p4]) ++ List.replicate (5 - (lg_sl ([.ref h, .int p1, .int p2, .int p3, .int p4])).length) Slot.unset).toArray = ls at hl ⊢
  have hl : lv_has ls 5 [(0, .ref h), (1, .int p1), (2, .int p2), (3, .int p3), (4, .int p4)] := hl
  generalize hQ : vx_MQ below (va_Qi (fun r u => R = (r, (0, u))) (fun u t => va_P D vwCl (xW2 cI cT h hh aa u) t.heap) A) (vx_X (fun u : Nat × zx_B => R = (0, u) ∧ u.1 ≠ 0) (fun E u t => E = zx_E u.1 ∧ va_P D vwCl (xW2 cI cT h hh aa u.2) t.heap) A) ([.ref h, .int p1, .int p2, .int p3, .int p4] : List Value).toArray s 1 6 A = Q9
  replace hQ := hQ.symm
  unfold f_X2_looks at hM
  refine lv_iload_n hx hb dX2_looks_0 rfl (lv_at hl 1 rfl) ?_
  refine lv_iload_n hx hb dX2_looks_1 rfl (lv_at hl 2 rfl) ?_
  refine lv_iload_n hx hb dX2_looks_2 rfl (lv_at hl 3 rfl) ?_
  refine lv_iload hx hb dX2_looks_3 (lv_at hl 4 rfl) ?_
  obtain ⟨x1, hz2, hM⟩ := zx_b1E hM
  refine va_calli (va_runS (As := [.int p1, .int p2, .int p3, .int p4]) (rest := []) ⟨hx, hb, hml, hown, hts⟩ (c_X2_isBox l D cI cZ cT _ N p1 p2 p3 p4 hz2) (va_cwS 4 hts (zg_S zw_17_20 zw_15_8 zw_1_2 zw_15_9) rfl rfl rfl zyX2_isBox ⟨Nat.le_of_ble_eq_true rfl, Nat.le_of_ble_eq_true rfl⟩) ⟨bS_blind, bS_pre (zx_P0 hP) hK (zx_D0 hD) hN⟩ rfl rfl hl.1 rfl (lv_room (Nat.le_of_ble_eq_true rfl)) dX2_looks_5 ⟨Nat.zero_le _, Nat.zero_le _⟩) hS (fun q h1 h2 => absurd h1 (Nat.not_lt.mpr h2)) (fun q h => hA q (Nat.le_trans hS.1 h)) (fun r u t H1 lc ht hvm hw hB hz1 hk1 hS => ?_)
  replace hw : x1 = r := hw; subst hw
  replace hP := zx_keep hP hk1
  refine lv_if_ne (tgt := 21) hx hb dX2_looks_8 (by decide) (fun q3 => ?_) (fun q3 => ?_)
  · replace hM := zx_f q3 hM
    refine lv_aload_n hx hb dX2_looks_21 rfl (lv_at hl 0 rfl) ?_
    refine va_get (D := D) (ci := 2) (v := .ref (hh 0)) (C := RX2) (T := TX2) (N := 8) hx hb hts inlX2 hown hK hP 0 rfl rfl 0 (by decide) (hts _ zw_1_15) (fun _ h9 => h9) rfl dX2_looks_22 ?_
    refine lv_bipush (v := 48) hx hb dX2_looks_25 (by decide) ?_
    refine lv_iload_n hx hb dX2_looks_27 rfl (lv_at hl 1 rfl) ?_
    refine lv_iload_n hx hb dX2_looks_28 rfl (lv_at hl 2 rfl) ?_
    refine lv_iload_n hx hb dX2_looks_29 rfl (lv_at hl 3 rfl) ?_
    refine lv_iload hx hb dX2_looks_30 (lv_at hl 4 rfl) ?_
    obtain ⟨T4, hz5, hM⟩ := zx_b1E hM
    refine va_callv (va_runV (As := [.int 48, .int p1, .int p2, .int p3, .int p4]) (rest := []) ⟨hx, hb, hml, hown, hts⟩ (c_X1_setBox l D cI cZ cT (hh 0) (aa 0) (S 0) _ N 48 p1 p2 p3 p4 hz5) (cwV 5 hts (zg_V zw_11_12 zw_11_13 zw_11_14 zw_1_14 zw_11_15) rfl rfl rfl ⟨rfl, zyX1_setBox⟩ ⟨Nat.le_of_ble_eq_true rfl, Nat.le_of_ble_eq_true rfl⟩) ⟨bS_blind, va_recv hK (zx2_P (show 0 < 18 by decide) hP) (ci := 1) (q0 := 0) rfl rfl, bS_pre (zx2_P (show 0 < 18 by decide) hP) hK (zx2_D (show 0 < 18 by decide) hD) hN⟩ rfl rfl hl.1 rfl (lv_room (Nat.le_of_ble_eq_true rfl)) dX2_looks_32 ⟨Nat.zero_le _, Nat.zero_le _⟩) hS (fun q _ h => zx_fW (zx2_D (show 0 < 18 by decide) hD) hS hA q h) (fun q h => zx_fW (zx2_D (show 0 < 18 by decide) hD) hS hA q h) (fun u t H1 lc ht hvm hw hB hz1 hk1 hS => ?_)
    replace hw : T4 = u := hw; subst hw
    rw [ht] at hB
    replace hP := zx2_S (show 0 < 18 by decide) hP hD hk1 hB
    obtain ⟨T6, eT6, hM⟩ := zx_nE hM
    rw [← eT6] at hP
    replace hD := zx2_Da T6 hD
    refine lv_aload_n hx hb dX2_looks_35 rfl (lv_at hl 0 rfl) ?_
    refine va_get (D := D) (ci := 2) (v := .ref (hh 0)) (C := RX2) (T := TX2) (N := 8) hx hb hts inlX2 hown hK hP 0 rfl rfl 0 (by decide) (hts _ zw_1_15) (fun _ h9 => h9) rfl dX2_looks_36 ?_
    refine lv_bipush (v := 48) hx hb dX2_looks_39 (by decide) ?_
    obtain ⟨x7, T8, hz9, hM⟩ := zx_b2E hM
    refine va_calli (va_runV (As := [.int 48]) (rest := []) ⟨hx, hb, hml, hown, hts⟩ (c_X1_lookedAt l D cI cZ cT (hh 0) (aa 0) (T6 0) _ N 48 hz9) (cwV 1 hts (zg_V zw_18_12 zw_18_13 zw_18_14 zw_1_14 zw_18_15) rfl rfl rfl ⟨rfl, zyX1_lookedAt⟩ ⟨Nat.le_of_ble_eq_true rfl, Nat.le_of_ble_eq_true rfl⟩) ⟨bS_blind, va_recv hK (zx2_P (show 0 < 18 by decide) hP) (ci := 1) (q0 := 0) rfl rfl, bS_pre (zx2_P (show 0 < 18 by decide) hP) hK (zx2_D (show 0 < 18 by decide) hD) hN⟩ rfl rfl hl.1 rfl (lv_room (Nat.le_of_ble_eq_true rfl)) dX2_looks_41 ⟨Nat.zero_le _, Nat.zero_le _⟩) hS (fun q _ h => zx_fW (zx2_D (show 0 < 18 by decide) hD) hS hA q h) (fun q h => zx_fW (zx2_D (show 0 < 18 by decide) hD) hS hA q h) (fun r u t H1 lc ht hvm hw hB hz1 hk1 hS => ?_)
    obtain ⟨hw1, hw2⟩ := Prod.mk.inj hw; subst hw1; subst hw2
    rw [ht] at hB
    replace hP := zx2_S (show 0 < 18 by decide) hP hD hk1 hB
    obtain ⟨T10, eT10, hM⟩ := zx_nE hM
    rw [← eT10] at hP
    replace hD := zx2_Da T10 hD
    rw [hQ]
    refine vx_ret ?_
    refine W.widen (k := 1) (n := 6) (Nat.le_of_ble_eq_true rfl) (Nat.le_of_ble_eq_true rfl) ?_
    exact W.iret hx hb hr (fun t ht hW => ⟨⟨x7, T10, rfl, (Option.some.inj hM).symm, by show va_P D vwCl _ t.heap; rw [ht]; exact hP⟩, hS.F ht⟩) hS.2.2 dX2_looks_44
  · replace hM := zx_t q3 hM
    rw [hQ]
    exact zx_thr1 hx hb hlt hown (hts _ zw_4_14) (hts _ zw_4_15) (hXs _ _ (zx_str_130)) hts hXw hU hNN hS (hl.1.trans hml.symm) dX2_looks_11 dX2_looks_14 dX2_looks_15 dX2_looks_17 dX2_looks_20 hout (Nat.le_of_ble_eq_true rfl) (Nat.le_of_ble_eq_true rfl) (Nat.le_of_ble_eq_true rfl) (Nat.le_of_ble_eq_true rfl) hlocks (fun t hvm hz hk => zx_XC (Option.some.inj hM).symm (by decide) rfl hP hS hz hk) hS.2.2 (Nat.le_of_ble_eq_true rfl) (Nat.le_of_ble_eq_true rfl)

/-! ShallowBoxes.isCell(II)Z -/
def f_X2_isCell (N : Nat) (p0 : Int32) (p1 : Int32) : Option (Int32) :=
  (if p0 < 0 then
  some 0 else
  (if 100 ≤ p0 then
  some 0 else
  (if p1 < 0 then
  some 0 else
  (if 100 ≤ p1 then
  some 0 else
  some 1))))
abbrev rmX2_isCell : Room := { frames := 0, cells := 0, slots := 0, locals := 0 }
abbrev zsX2_isCell : List Cond := .code yX2_isCell cX2_isCell 2 (some .boolean) :: wsL_law
theorem zyX2_isCell : yX2_isCell.cls ≠ "java/lang/invoke/MethodHandle" ∧ yX2_isCell.cls ≠ "java/lang/invoke/VarHandle" ∧ (parseMethodDescriptor yX2_isCell.desc).map (fun d => d.parameters.length) = some 2 := by decide +kernel
set_option maxHeartbeats 4000000 in
set_option maxRecDepth 100000 in
theorem c_X2_isCell (l : Launch) (D : va_G) (cI cZ cT : ClassId) (sz : Nat) (N : Nat) (p0 : Int32) (p1 : Int32) {R : Int32} (hM : f_X2_isCell N p0 p1 = some R) : Met l yX2_isCell zsX2_isCell rmX2_isCell (va_Pc [.int p0, .int p1] (bS D (zx_ty cI cZ cT) [] sz)) (va_Qi (fun r (_ : Unit) => R = r) (fun _ _ => True) (fun q => sz ≤ q)) 0 0 (fun q => sz ≤ q) := by
  refine Met.ofW (cc := cX2_isCell) (maxL := 2) (ret := (some .boolean)) (by decide) rfl ?_
  intro p e s m args below meth c s₁ B hml hv
  obtain ⟨rfl, hsz, hP, hK, hD0, hN⟩ := hv
  have hx := B.exec
  have hb := B.bytes
  have hr := B.returns
  have hts : ∀ w ∈ wsL_law, w.before _ s = true := fun w hw => atoms_spec (ws := zsX2_isCell) B.pre w (List.mem_cons_of_mem _ hw)
  have hown : s.vm.findClass RX2 = some m.cls := findClass_of_methodNamed B.named
  have hlocks := B.notSynchronized
  subst hsz
  generalize hAe : (fun q : Nat => s.heap.size ≤ q) = A
  have hA : ∀ q : Nat, s.heap.size ≤ q → A q := fun q h => by rw [← hAe]; exact h
  have hD := hD0
  have hS : va_S A s.heap s.heap [] := va_S.rf
  have hl := lv_entry ([.int p0, .int p1]) (n := 2) (Nat.le_of_ble_eq_true rfl)
  rw [lg_entry_eq]
  generalize (lg_sl ([.int p0, .int p1]) ++ List.replicate (2 - (lg_sl ([.int p0, .int p1])).length) Slot.unset).toArray = ls at hl ⊢
  have hl : lv_has ls 2 [(0, .int p0), (1, .int p1)] := hl
  generalize hQ : MQ below (va_Qi (fun r (_ : Unit) => R = r) (fun _ _ => True) A) ([.int p0, .int p1] : List Value).toArray s 0 0 A = Q9
  replace hQ := hQ.symm
  unfold f_X2_isCell at hM
  refine lv_iload_n hx hb dX2_isCell_0 rfl (lv_at hl 0 rfl) ?_
  refine lv_if_lt (tgt := 24) hx hb dX2_isCell_1 (by decide) (fun q1 => ?_) (fun q1 => ?_)
  · replace hM := zx_t q1 hM
    refine lv_iconst (v := 0) hx hb dX2_isCell_24 (by decide) ?_
    rw [hQ]
    exact W.zret hx hb hr (by rfl) (fun t ht hW => ⟨⟨0, (), rfl, (Option.some.inj hM).symm, trivial⟩, hS.F ht⟩) hS.2.2 dX2_isCell_25
  · replace hM := zx_f q1 hM
    refine lv_iload_n hx hb dX2_isCell_4 rfl (lv_at hl 0 rfl) ?_
    refine lv_bipush (v := 100) hx hb dX2_isCell_5 (by decide) ?_
    refine lv_icmp_ge (tgt := 24) hx hb dX2_isCell_7 (by decide) (fun q2 => ?_) (fun q2 => ?_)
    · replace hM := zx_t q2 hM
      refine lv_iconst (v := 0) hx hb dX2_isCell_24 (by decide) ?_
      rw [hQ]
      exact W.zret hx hb hr (by rfl) (fun t ht hW => ⟨⟨0, (), rfl, (Option.some.inj hM).symm, trivial⟩, hS.F ht⟩) hS.2.2 dX2_isCell_25
    · replace hM := zx_f q2 hM
      refine lv_iload_n hx hb dX2_isCell_10 rfl (lv_at hl 1 rfl) ?_
      refine lv_if_lt (tgt := 24) hx hb dX2_isCell_11 (by decide) (fun q3 => ?_) (fun q3 => ?_)
      · replace hM := zx_t q3 hM
        refine lv_iconst (v := 0) hx hb dX2_isCell_24 (by decide) ?_
        rw [hQ]
        exact W.zret hx hb hr (by rfl) (fun t ht hW => ⟨⟨0, (), rfl, (Option.some.inj hM).symm, trivial⟩, hS.F ht⟩) hS.2.2 dX2_isCell_25
      · replace hM := zx_f q3 hM
        refine lv_iload_n hx hb dX2_isCell_14 rfl (lv_at hl 1 rfl) ?_
        refine lv_bipush (v := 100) hx hb dX2_isCell_15 (by decide) ?_
        refine lv_icmp_ge (tgt := 24) hx hb dX2_isCell_17 (by decide) (fun q4 => ?_) (fun q4 => ?_)
        · replace hM := zx_t q4 hM
          refine lv_iconst (v := 0) hx hb dX2_isCell_24 (by decide) ?_
          rw [hQ]
          exact W.zret hx hb hr (by rfl) (fun t ht hW => ⟨⟨0, (), rfl, (Option.some.inj hM).symm, trivial⟩, hS.F ht⟩) hS.2.2 dX2_isCell_25
        · replace hM := zx_f q4 hM
          refine lv_iconst (v := 1) hx hb dX2_isCell_20 (by decide) ?_
          refine lv_goto (tgt := 25) hx hb dX2_isCell_21 (by decide) ?_
          rw [hQ]
          exact W.zret hx hb hr (by rfl) (fun t ht hW => ⟨⟨1, (), rfl, (Option.some.inj hM).symm, trivial⟩, hS.F ht⟩) hS.2.2 dX2_isCell_25

/-! ShallowBoxes.nearest(III)I -/
def f_X2_nearest (N : Nat) (p1 : Int32) (p2 : Int32) (p3 : Int32) (S : zx_B) : Option (Int32 × (Nat × zx_B)) :=
  (zx_b1 (f_X2_isCell N p1 p2) (fun x1 =>
(if x1 = 0 then
  some (0, (1, S)) else
  (if 0 ≤ p3 then
  (zx_b1 (f_X1_ranked N p1 p2 p3 (S 0)) (fun x5 =>
some (x5, (0, S)))) else
  some (0, (1, S))))))
abbrev rmX2_nearest : Room := { frames := 6, cells := 1, slots := 6, locals := 119 }
abbrev zsX2_nearest : List Cond := .code yX2_nearest cX2_nearest 4 (some .int) :: wsL_law
theorem zyX2_nearest : yX2_nearest.cls ≠ "java/lang/invoke/MethodHandle" ∧ yX2_nearest.cls ≠ "java/lang/invoke/VarHandle" ∧ (parseMethodDescriptor yX2_nearest.desc).map (fun d => d.parameters.length) = some 3 := by decide +kernel
set_option maxHeartbeats 4000000 in
set_option maxRecDepth 100000 in
theorem c_X2_nearest (l : Launch) (D : va_G) (cI cZ cT : ClassId) (hlt : l.stackTraces = false) (h : Nat) (hh : Nat → Nat) (aa : Nat → Nat → Nat) (S : zx_B) (sz : Nat) (N : Nat) (p1 : Int32) (p2 : Int32) (p3 : Int32) {R : Int32 × (Nat × zx_B)} (hM : f_X2_nearest N p1 p2 p3 S = some R) : vx_Met l yX2_nearest zsX2_nearest rmX2_nearest (va_Pc [.ref h, .int p1, .int p2, .int p3] (bX D (zx_ty cI cZ cT) (xW2 cI cT h hh aa S) sz)) (va_Qi (fun r u => R = (r, (0, u))) (fun u t => va_P D vwCl (xW2 cI cT h hh aa u) t.heap) (va_A (xW2 cI cT h hh aa S) sz)) (vx_X (fun u : Nat × zx_B => R = (0, u) ∧ u.1 ≠ 0) (fun E u t => E = zx_E u.1 ∧ va_P D vwCl (xW2 cI cT h hh aa u.2) t.heap) (va_A (xW2 cI cT h hh aa S) sz)) 1 6 (va_A (xW2 cI cT h hh aa S) sz) := by
  refine vx_ofW (cc := cX2_nearest) (maxL := 4) (ret := (some .int)) (by decide) rfl ?_
  intro p e s m args below meth c s₁ B hml hout hv
  obtain ⟨rfl, ⟨hsz, hP, hK, hD0, hN⟩, hX⟩ := hv
  have hx := B.exec
  have hb := B.bytes
  have hr := B.returns
  have hts : ∀ w ∈ wsL_law, w.before _ s = true := fun w hw => atoms_spec (ws := zsX2_nearest) B.pre w (List.mem_cons_of_mem _ hw)
  have hown : s.vm.findClass RX2 = some m.cls := findClass_of_methodNamed B.named
  have hlocks := B.notSynchronized
  subst hsz
  have hD := hD0.self (sz := s.heap.size)
  generalize hAe : va_A (xW2 cI cT h hh aa S) s.heap.size = A at hD hX ⊢
  have hU := hX.1
  have hNN := hX.2.1
  have hXw := hX.2.2.1
  have hXs := hX.2.2.2
  have hA : ∀ q : Nat, s.heap.size ≤ q → A q := fun q h => by rw [← hAe]; exact Or.inr h
  have hS : va_S A s.heap s.heap [] := va_S.rf
  have hl := lv_entry ([.ref h, .int p1, .int p2, .int p3]) (n := 4) (Nat.le_of_ble_eq_true rfl)
  rw [lg_entry_eq]
  generalize (lg_sl ([.ref h, .int p1, .int p2, .int p3]) ++ List.replicate (4 - (lg_sl ([.ref h, .int p1, .int p2, .int p3])).length) Slot.unset).toArray = ls at hl ⊢
  have hl : lv_has ls 4 [(0, .ref h), (1, .int p1), (2, .int p2), (3, .int p3)] := hl
  generalize hQ : vx_MQ below (va_Qi (fun r u => R = (r, (0, u))) (fun u t => va_P D vwCl (xW2 cI cT h hh aa u) t.heap) A) (vx_X (fun u : Nat × zx_B => R = (0, u) ∧ u.1 ≠ 0) (fun E u t => E = zx_E u.1 ∧ va_P D vwCl (xW2 cI cT h hh aa u.2) t.heap) A) ([.ref h, .int p1, .int p2, .int p3] : List Value).toArray s 1 6 A = Q9
  replace hQ := hQ.symm
  unfold f_X2_nearest at hM
  refine lv_iload_n hx hb dX2_nearest_0 rfl (lv_at hl 1 rfl) ?_
  refine lv_iload_n hx hb dX2_nearest_1 rfl (lv_at hl 2 rfl) ?_
  obtain ⟨x1, hz2, hM⟩ := zx_b1E hM
  refine va_calli (va_runS (As := [.int p1, .int p2]) (rest := []) ⟨hx, hb, hml, hown, hts⟩ (c_X2_isCell l D cI cZ cT _ N p1 p2 hz2) (va_cwS 2 hts (zg_S zw_16_5 zw_16_6 zw_1_2 zw_16_7) rfl rfl rfl zyX2_isCell ⟨Nat.le_of_ble_eq_true rfl, Nat.le_of_ble_eq_true rfl⟩) ⟨bS_blind, bS_pre (zx_P0 hP) hK (zx_D0 hD) hN⟩ rfl rfl hl.1 rfl (lv_room (Nat.le_of_ble_eq_true rfl)) dX2_nearest_2 ⟨Nat.zero_le _, Nat.zero_le _⟩) hS (fun q h1 h2 => absurd h1 (Nat.not_lt.mpr h2)) (fun q h => hA q (Nat.le_trans hS.1 h)) (fun r u t H1 lc ht hvm hw hB hz1 hk1 hS => ?_)
  replace hw : x1 = r := hw; subst hw
  replace hP := zx_keep hP hk1
  refine lv_if_ne (tgt := 18) hx hb dX2_nearest_5 (by decide) (fun q3 => ?_) (fun q3 => ?_)
  · replace hM := zx_f q3 hM
    refine lv_iload_n hx hb dX2_nearest_18 rfl (lv_at hl 3 rfl) ?_
    refine lv_if_ge (tgt := 32) hx hb dX2_nearest_19 (by decide) (fun q4 => ?_) (fun q4 => ?_)
    · replace hM := zx_t q4 hM
      refine lv_aload_n hx hb dX2_nearest_32 rfl (lv_at hl 0 rfl) ?_
      refine va_get (D := D) (ci := 2) (v := .ref (hh 0)) (C := RX2) (T := TX2) (N := 8) hx hb hts inlX2 hown hK hP 0 rfl rfl 0 (by decide) (hts _ zw_1_15) (fun _ h9 => h9) rfl dX2_nearest_33 ?_
      refine lv_iload_n hx hb dX2_nearest_36 rfl (lv_at hl 1 rfl) ?_
      refine lv_iload_n hx hb dX2_nearest_37 rfl (lv_at hl 2 rfl) ?_
      refine lv_iload_n hx hb dX2_nearest_38 rfl (lv_at hl 3 rfl) ?_
      obtain ⟨x5, hz6, hM⟩ := zx_b1E hM
      refine va_calli (va_runV (As := [.int p1, .int p2, .int p3]) (rest := []) ⟨hx, hb, hml, hown, hts⟩ (c_X1_ranked l D cI cZ cT (hh 0) (aa 0) (S 0) _ N p1 p2 p3 hz6) (cwV 3 hts (zg_V zw_16_8 zw_16_9 zw_16_10 zw_1_14 zw_16_11) rfl rfl rfl ⟨rfl, zyX1_ranked⟩ ⟨Nat.le_of_ble_eq_true rfl, Nat.le_of_ble_eq_true rfl⟩) ⟨bS_blind, va_recv hK (zx2_P (show 0 < 18 by decide) hP) (ci := 1) (q0 := 0) rfl rfl, bS_pre (zx2_P (show 0 < 18 by decide) hP) hK (zx2_D (show 0 < 18 by decide) hD) hN⟩ rfl rfl hl.1 rfl (lv_room (Nat.le_of_ble_eq_true rfl)) dX2_nearest_39 ⟨Nat.zero_le _, Nat.zero_le _⟩) hS (fun q h1 h2 => absurd h1 (Nat.not_lt.mpr h2)) (fun q h => hA q (Nat.le_trans hS.1 h)) (fun r u t H1 lc ht hvm hw hB hz1 hk1 hS => ?_)
      replace hw : x5 = r := hw; subst hw
      replace hP := zx_keep hP hk1
      rw [hQ]
      refine vx_ret ?_
      refine W.widen (k := 1) (n := 6) (Nat.le_of_ble_eq_true rfl) (Nat.le_of_ble_eq_true rfl) ?_
      exact W.iret hx hb hr (fun t ht hW => ⟨⟨x5, S, rfl, (Option.some.inj hM).symm, by show va_P D vwCl _ t.heap; rw [ht]; exact hP⟩, hS.F ht⟩) hS.2.2 dX2_nearest_42
    · replace hM := zx_f q4 hM
      rw [hQ]
      exact zx_thr1 hx hb hlt hown (hts _ zw_4_14) (hts _ zw_4_15) (hXs _ _ (zx_str_121)) hts hXw hU hNN hS (hl.1.trans hml.symm) dX2_nearest_22 dX2_nearest_25 dX2_nearest_26 dX2_nearest_28 dX2_nearest_31 hout (Nat.le_of_ble_eq_true rfl) (Nat.le_of_ble_eq_true rfl) (Nat.le_of_ble_eq_true rfl) (Nat.le_of_ble_eq_true rfl) hlocks (fun t hvm hz hk => zx_XC (Option.some.inj hM).symm (by decide) rfl hP hS hz hk) hS.2.2 (Nat.le_of_ble_eq_true rfl) (Nat.le_of_ble_eq_true rfl)
  · replace hM := zx_t q3 hM
    rw [hQ]
    exact zx_thr1 hx hb hlt hown (hts _ zw_4_14) (hts _ zw_4_15) (hXs _ _ (zx_str_200)) hts hXw hU hNN hS (hl.1.trans hml.symm) dX2_nearest_8 dX2_nearest_11 dX2_nearest_12 dX2_nearest_14 dX2_nearest_17 hout (Nat.le_of_ble_eq_true rfl) (Nat.le_of_ble_eq_true rfl) (Nat.le_of_ble_eq_true rfl) (Nat.le_of_ble_eq_true rfl) hlocks (fun t hvm hz hk => zx_XC (Option.some.inj hM).symm (by decide) rfl hP hS hz hk) hS.2.2 (Nat.le_of_ble_eq_true rfl) (Nat.le_of_ble_eq_true rfl)

/-! ShallowBoxes.chosen(IIII)I -/
def f_X2_chosen (N : Nat) (p1 : Int32) (p2 : Int32) (p3 : Int32) (p4 : Int32) (S : zx_B) : Option (Int32 × (Nat × zx_B)) :=
  (zx_b1 (f_X2_isBox N p1 p2 p3 p4) (fun x1 =>
(if x1 = 0 then
  some (0, (1, S)) else
  (zx_b1 (f_X1_setBox N 48 p1 p2 p3 p4 (S 0)) (fun T4 =>
(zx_n (zx_sb S 0 T4) (fun T6 =>
(zx_b1 (f_X1_reached N 48 0 (T6 0)) (fun x7 =>
(zx_b2 (f_X1_numberOf N x7 (T6 0)) (fun x9 T10 =>
(zx_n (zx_sb T6 0 T10) (fun T12 =>
some (x9, (0, T12)))))))))))))))
abbrev rmX2_chosen : Room := { frames := 6, cells := 1, slots := 6, locals := 98 }
abbrev zsX2_chosen : List Cond := .code yX2_chosen cX2_chosen 5 (some .int) :: wsL_law
theorem zyX2_chosen : yX2_chosen.cls ≠ "java/lang/invoke/MethodHandle" ∧ yX2_chosen.cls ≠ "java/lang/invoke/VarHandle" ∧ (parseMethodDescriptor yX2_chosen.desc).map (fun d => d.parameters.length) = some 4 := by decide +kernel
set_option maxHeartbeats 4000000 in
set_option maxRecDepth 100000 in
theorem c_X2_chosen (l : Launch) (D : va_G) (cI cZ cT : ClassId) (hlt : l.stackTraces = false) (h : Nat) (hh : Nat → Nat) (aa : Nat → Nat → Nat) (S : zx_B) (sz : Nat) (N : Nat) (p1 : Int32) (p2 : Int32) (p3 : Int32) (p4 : Int32) {R : Int32 × (Nat × zx_B)} (hM : f_X2_chosen N p1 p2 p3 p4 S = some R) : vx_Met l yX2_chosen zsX2_chosen rmX2_chosen (va_Pc [.ref h, .int p1, .int p2, .int p3, .int p4] (bX D (zx_ty cI cZ cT) (xW2 cI cT h hh aa S) sz)) (va_Qi (fun r u => R = (r, (0, u))) (fun u t => va_P D vwCl (xW2 cI cT h hh aa u) t.heap) (va_A (xW2 cI cT h hh aa S) sz)) (vx_X (fun u : Nat × zx_B => R = (0, u) ∧ u.1 ≠ 0) (fun E u t => E = zx_E u.1 ∧ va_P D vwCl (xW2 cI cT h hh aa u.2) t.heap) (va_A (xW2 cI cT h hh aa S) sz)) 1 6 (va_A (xW2 cI cT h hh aa S) sz) := by
  refine vx_ofW (cc := cX2_chosen) (maxL := 5) (ret := (some .int)) (by decide) rfl ?_
  intro p e s m args below meth c s₁ B hml hout hv
  obtain ⟨rfl, ⟨hsz, hP, hK, hD0, hN⟩, hX⟩ := hv
  have hx := B.exec
  have hb := B.bytes
  have hr := B.returns
  have hts : ∀ w ∈ wsL_law, w.before _ s = true := fun w hw => atoms_spec (ws := zsX2_chosen) B.pre w (List.mem_cons_of_mem _ hw)
  have hown : s.vm.findClass RX2 = some m.cls := findClass_of_methodNamed B.named
  have hlocks := B.notSynchronized
  subst hsz
  have hD := hD0.self (sz := s.heap.size)
  generalize hAe : va_A (xW2 cI cT h hh aa S) s.heap.size = A at hD hX ⊢
  have hU := hX.1
  have hNN := hX.2.1
  have hXw := hX.2.2.1
  have hXs := hX.2.2.2
  have hA : ∀ q : Nat, s.heap.size ≤ q → A q := fun q h => by rw [← hAe]; exact Or.inr h
  have hS : va_S A s.heap s.heap [] := va_S.rf
  have hl := lv_entry ([.ref h, .int p1, .int p2, .int p3, .int p4]) (n := 5) (Nat.le_of_ble_eq_true rfl)
  rw [lg_entry_eq]
  generalize (lg_sl ([.ref h, .int p1, .int p2, .int p3, .int p4]) ++ List.replicate (5 - (lg_sl ([.ref h, .int p1, .int p2, .int p3, .int p4])).length) Slot.unset).toArray = ls at hl ⊢
  have hl : lv_has ls 5 [(0, .ref h), (1, .int p1), (2, .int p2), (3, .int p3), (4, .int p4)] := hl
  generalize hQ : vx_MQ below (va_Qi (fun r u => R = (r, (0, u))) (fun u t => va_P D vwCl (xW2 cI cT h hh aa u) t.heap) A) (vx_X (fun u : Nat × zx_B => R = (0, u) ∧ u.1 ≠ 0) (fun E u t => E = zx_E u.1 ∧ va_P D vwCl (xW2 cI cT h hh aa u.2) t.heap) A) ([.ref h, .int p1, .int p2, .int p3, .int p4] : List Value).toArray s 1 6 A = Q9
  replace hQ := hQ.symm
  unfold f_X2_chosen at hM
  refine lv_iload_n hx hb dX2_chosen_0 rfl (lv_at hl 1 rfl) ?_
  refine lv_iload_n hx hb dX2_chosen_1 rfl (lv_at hl 2 rfl) ?_
  refine lv_iload_n hx hb dX2_chosen_2 rfl (lv_at hl 3 rfl) ?_
  refine lv_iload hx hb dX2_chosen_3 (lv_at hl 4 rfl) ?_
  obtain ⟨x1, hz2, hM⟩ := zx_b1E hM
  refine va_calli (va_runS (As := [.int p1, .int p2, .int p3, .int p4]) (rest := []) ⟨hx, hb, hml, hown, hts⟩ (c_X2_isBox l D cI cZ cT _ N p1 p2 p3 p4 hz2) (va_cwS 4 hts (zg_S zw_17_20 zw_15_8 zw_1_2 zw_15_9) rfl rfl rfl zyX2_isBox ⟨Nat.le_of_ble_eq_true rfl, Nat.le_of_ble_eq_true rfl⟩) ⟨bS_blind, bS_pre (zx_P0 hP) hK (zx_D0 hD) hN⟩ rfl rfl hl.1 rfl (lv_room (Nat.le_of_ble_eq_true rfl)) dX2_chosen_5 ⟨Nat.zero_le _, Nat.zero_le _⟩) hS (fun q h1 h2 => absurd h1 (Nat.not_lt.mpr h2)) (fun q h => hA q (Nat.le_trans hS.1 h)) (fun r u t H1 lc ht hvm hw hB hz1 hk1 hS => ?_)
  replace hw : x1 = r := hw; subst hw
  replace hP := zx_keep hP hk1
  refine lv_if_ne (tgt := 21) hx hb dX2_chosen_8 (by decide) (fun q3 => ?_) (fun q3 => ?_)
  · replace hM := zx_f q3 hM
    refine lv_aload_n hx hb dX2_chosen_21 rfl (lv_at hl 0 rfl) ?_
    refine va_get (D := D) (ci := 2) (v := .ref (hh 0)) (C := RX2) (T := TX2) (N := 8) hx hb hts inlX2 hown hK hP 0 rfl rfl 0 (by decide) (hts _ zw_1_15) (fun _ h9 => h9) rfl dX2_chosen_22 ?_
    refine lv_bipush (v := 48) hx hb dX2_chosen_25 (by decide) ?_
    refine lv_iload_n hx hb dX2_chosen_27 rfl (lv_at hl 1 rfl) ?_
    refine lv_iload_n hx hb dX2_chosen_28 rfl (lv_at hl 2 rfl) ?_
    refine lv_iload_n hx hb dX2_chosen_29 rfl (lv_at hl 3 rfl) ?_
    refine lv_iload hx hb dX2_chosen_30 (lv_at hl 4 rfl) ?_
    obtain ⟨T4, hz5, hM⟩ := zx_b1E hM
    refine va_callv (va_runV (As := [.int 48, .int p1, .int p2, .int p3, .int p4]) (rest := []) ⟨hx, hb, hml, hown, hts⟩ (c_X1_setBox l D cI cZ cT (hh 0) (aa 0) (S 0) _ N 48 p1 p2 p3 p4 hz5) (cwV 5 hts (zg_V zw_11_12 zw_11_13 zw_11_14 zw_1_14 zw_11_15) rfl rfl rfl ⟨rfl, zyX1_setBox⟩ ⟨Nat.le_of_ble_eq_true rfl, Nat.le_of_ble_eq_true rfl⟩) ⟨bS_blind, va_recv hK (zx2_P (show 0 < 18 by decide) hP) (ci := 1) (q0 := 0) rfl rfl, bS_pre (zx2_P (show 0 < 18 by decide) hP) hK (zx2_D (show 0 < 18 by decide) hD) hN⟩ rfl rfl hl.1 rfl (lv_room (Nat.le_of_ble_eq_true rfl)) dX2_chosen_32 ⟨Nat.zero_le _, Nat.zero_le _⟩) hS (fun q _ h => zx_fW (zx2_D (show 0 < 18 by decide) hD) hS hA q h) (fun q h => zx_fW (zx2_D (show 0 < 18 by decide) hD) hS hA q h) (fun u t H1 lc ht hvm hw hB hz1 hk1 hS => ?_)
    replace hw : T4 = u := hw; subst hw
    rw [ht] at hB
    replace hP := zx2_S (show 0 < 18 by decide) hP hD hk1 hB
    obtain ⟨T6, eT6, hM⟩ := zx_nE hM
    rw [← eT6] at hP
    replace hD := zx2_Da T6 hD
    refine lv_aload_n hx hb dX2_chosen_35 rfl (lv_at hl 0 rfl) ?_
    refine va_get (D := D) (ci := 2) (v := .ref (hh 0)) (C := RX2) (T := TX2) (N := 8) hx hb hts inlX2 hown hK hP 0 rfl rfl 0 (by decide) (hts _ zw_1_15) (fun _ h9 => h9) rfl dX2_chosen_36 ?_
    refine lv_aload_n hx hb dX2_chosen_39 rfl (lv_at hl 0 rfl) ?_
    refine va_get (D := D) (ci := 2) (v := .ref (hh 0)) (C := RX2) (T := TX2) (N := 8) hx hb hts inlX2 hown hK hP 0 rfl rfl 0 (by decide) (hts _ zw_1_15) (fun _ h9 => h9) rfl dX2_chosen_40 ?_
    refine lv_bipush (v := 48) hx hb dX2_chosen_43 (by decide) ?_
    refine lv_iconst (v := 0) hx hb dX2_chosen_45 (by decide) ?_
    obtain ⟨x7, hz8, hM⟩ := zx_b1E hM
    refine va_calli (va_runV (As := [.int 48, .int 0]) (rest := [.ref (hh 0)]) ⟨hx, hb, hml, hown, hts⟩ (c_X1_reached l D cI cZ cT (hh 0) (aa 0) (T6 0) _ N 48 0 hz8) (cwV 2 hts (zg_V zw_18_23 zw_11_21 zw_11_22 zw_1_14 zw_11_23) rfl rfl rfl ⟨rfl, zyX1_reached⟩ ⟨Nat.le_of_ble_eq_true rfl, Nat.le_of_ble_eq_true rfl⟩) ⟨bS_blind, va_recv hK (zx2_P (show 0 < 18 by decide) hP) (ci := 1) (q0 := 0) rfl rfl, bS_pre (zx2_P (show 0 < 18 by decide) hP) hK (zx2_D (show 0 < 18 by decide) hD) hN⟩ rfl rfl hl.1 rfl (lv_room (Nat.le_of_ble_eq_true rfl)) dX2_chosen_46 ⟨Nat.zero_le _, Nat.zero_le _⟩) hS (fun q h1 h2 => absurd h1 (Nat.not_lt.mpr h2)) (fun q h => hA q (Nat.le_trans hS.1 h)) (fun r u t H1 lc ht hvm hw hB hz1 hk1 hS => ?_)
    replace hw : x7 = r := hw; subst hw
    replace hP := zx_keep hP hk1
    obtain ⟨x9, T10, hz11, hM⟩ := zx_b2E hM
    refine va_calli (va_runV (As := [.int x7]) (rest := []) ⟨hx, hb, hml, hown, hts⟩ (c_X1_numberOf l D cI cZ cT (hh 0) (aa 0) (T6 0) _ N x7 hz11) (cwV 1 hts (zg_V zw_7_16 zw_7_17 zw_7_18 zw_1_14 zw_7_19) rfl rfl rfl ⟨rfl, zyX1_numberOf⟩ ⟨Nat.le_of_ble_eq_true rfl, Nat.le_of_ble_eq_true rfl⟩) ⟨bS_blind, va_recv hK (zx2_P (show 0 < 18 by decide) hP) (ci := 1) (q0 := 0) rfl rfl, bS_pre (zx2_P (show 0 < 18 by decide) hP) hK (zx2_D (show 0 < 18 by decide) hD) hN⟩ rfl rfl hl.1 rfl (lv_room (Nat.le_of_ble_eq_true rfl)) dX2_chosen_49 ⟨Nat.zero_le _, Nat.zero_le _⟩) hS (fun q _ h => zx_fW (zx2_D (show 0 < 18 by decide) hD) hS hA q h) (fun q h => zx_fW (zx2_D (show 0 < 18 by decide) hD) hS hA q h) (fun r u t H1 lc ht hvm hw hB hz1 hk1 hS => ?_)
    obtain ⟨hw1, hw2⟩ := Prod.mk.inj hw; subst hw1; subst hw2
    rw [ht] at hB
    replace hP := zx2_S (show 0 < 18 by decide) hP hD hk1 hB
    obtain ⟨T12, eT12, hM⟩ := zx_nE hM
    rw [← eT12] at hP
    replace hD := zx2_Da T12 hD
    rw [hQ]
    refine vx_ret ?_
    refine W.widen (k := 1) (n := 6) (Nat.le_of_ble_eq_true rfl) (Nat.le_of_ble_eq_true rfl) ?_
    exact W.iret hx hb hr (fun t ht hW => ⟨⟨x9, T12, rfl, (Option.some.inj hM).symm, by show va_P D vwCl _ t.heap; rw [ht]; exact hP⟩, hS.F ht⟩) hS.2.2 dX2_chosen_52
  · replace hM := zx_t q3 hM
    rw [hQ]
    exact zx_thr1 hx hb hlt hown (hts _ zw_4_14) (hts _ zw_4_15) (hXs _ _ (zx_str_130)) hts hXw hU hNN hS (hl.1.trans hml.symm) dX2_chosen_11 dX2_chosen_14 dX2_chosen_15 dX2_chosen_17 dX2_chosen_20 hout (Nat.le_of_ble_eq_true rfl) (Nat.le_of_ble_eq_true rfl) (Nat.le_of_ble_eq_true rfl) (Nat.le_of_ble_eq_true rfl) hlocks (fun t hvm hz hk => zx_XC (Option.some.inj hM).symm (by decide) rfl hP hS hz hk) hS.2.2 (Nat.le_of_ble_eq_true rfl) (Nat.le_of_ble_eq_true rfl)

/-! ShallowBoxes.tryAdding(IIII)V -/
def f_X2_tryAdding (N : Nat) (p1 : Int32) (p2 : Int32) (p3 : Int32) (p4 : Int32) (S : zx_B) : Option (zx_B) :=
  (zx_b1 (f_X1_lowestFreeNumber N (S 1)) (fun x1 =>
(zx_b1 (f_X1_beginCall N (S 1)) (fun T3 =>
(zx_n (zx_sb S 1 T3) (fun T5 =>
(zx_b1 (f_X1_setBox N x1 p1 p2 p3 p4 (T5 1)) (fun T6 =>
(zx_n (zx_sb T5 1 T6) (fun T8 =>
(zx_b1 (f_X1_putIn N x1 (T8 1)) (fun T9 =>
(zx_n (zx_sb T8 1 T9) (fun T11 =>
some T11))))))))))))))
abbrev rmX2_tryAdding : Room := { frames := 5, cells := 0, slots := 0, locals := 127 }
abbrev zsX2_tryAdding : List Cond := .code yX2_tryAdding cX2_tryAdding 6 none :: wsL_law
theorem zyX2_tryAdding : yX2_tryAdding.cls ≠ "java/lang/invoke/MethodHandle" ∧ yX2_tryAdding.cls ≠ "java/lang/invoke/VarHandle" ∧ (parseMethodDescriptor yX2_tryAdding.desc).map (fun d => d.parameters.length) = some 4 := by decide +kernel
set_option maxHeartbeats 4000000 in
set_option maxRecDepth 100000 in
theorem c_X2_tryAdding (l : Launch) (D : va_G) (cI cZ cT : ClassId) (h : Nat) (hh : Nat → Nat) (aa : Nat → Nat → Nat) (S : zx_B) (sz : Nat) (N : Nat) (p1 : Int32) (p2 : Int32) (p3 : Int32) (p4 : Int32) {R : zx_B} (hM : f_X2_tryAdding N p1 p2 p3 p4 S = some R) : Met l yX2_tryAdding zsX2_tryAdding rmX2_tryAdding (va_Pc [.ref h, .int p1, .int p2, .int p3, .int p4] (bS D (zx_ty cI cZ cT) (xW2 cI cT h hh aa S) sz)) (va_Qv (fun u => R = u) (fun u t => va_P D vwCl (xW2 cI cT h hh aa u) t.heap) (va_A (xW2 cI cT h hh aa S) sz)) 0 0 (va_A (xW2 cI cT h hh aa S) sz) := by
  refine Met.ofW (cc := cX2_tryAdding) (maxL := 6) (ret := none) (by decide) rfl ?_
  intro p e s m args below meth c s₁ B hml hv
  obtain ⟨rfl, hsz, hP, hK, hD0, hN⟩ := hv
  have hx := B.exec
  have hb := B.bytes
  have hr := B.returns
  have hts : ∀ w ∈ wsL_law, w.before _ s = true := fun w hw => atoms_spec (ws := zsX2_tryAdding) B.pre w (List.mem_cons_of_mem _ hw)
  have hown : s.vm.findClass RX2 = some m.cls := findClass_of_methodNamed B.named
  have hlocks := B.notSynchronized
  subst hsz
  have hD := hD0.self (sz := s.heap.size)
  generalize hAe : va_A (xW2 cI cT h hh aa S) s.heap.size = A at hD ⊢
  have hA : ∀ q : Nat, s.heap.size ≤ q → A q := fun q h => by rw [← hAe]; exact Or.inr h
  have hS : va_S A s.heap s.heap [] := va_S.rf
  have hl := lv_entry ([.ref h, .int p1, .int p2, .int p3, .int p4]) (n := 6) (Nat.le_of_ble_eq_true rfl)
  rw [lg_entry_eq]
  generalize (lg_sl ([.ref h, .int p1, .int p2, .int p3, .int p4]) ++ List.replicate (6 - (lg_sl ([.ref h, .int p1, .int p2, .int p3, .int p4])).length) Slot.unset).toArray = ls at hl ⊢
  have hl : lv_has ls 6 [(0, .ref h), (1, .int p1), (2, .int p2), (3, .int p3), (4, .int p4)] := hl
  generalize hQ : MQ below (va_Qv (fun u => R = u) (fun u t => va_P D vwCl (xW2 cI cT h hh aa u) t.heap) A) ([.ref h, .int p1, .int p2, .int p3, .int p4] : List Value).toArray s 0 0 A = Q9
  replace hQ := hQ.symm
  unfold f_X2_tryAdding at hM
  refine lv_aload_n hx hb dX2_tryAdding_0 rfl (lv_at hl 0 rfl) ?_
  refine va_get (D := D) (ci := 2) (v := .ref (hh 1)) (C := RX2) (T := TX2) (N := 8) hx hb hts inlX2 hown hK hP 0 rfl rfl 1 (by decide) (hts _ zw_1_16) (fun _ h9 => h9) rfl dX2_tryAdding_1 ?_
  obtain ⟨x1, hz2, hM⟩ := zx_b1E hM
  refine va_calli (va_runV (As := []) (rest := []) ⟨hx, hb, hml, hown, hts⟩ (c_X1_lowestFreeNumber l D cI cZ cT (hh 1) (aa 1) (S 1) _ N hz2) (cwV 0 hts (zg_V zw_11_4 zw_11_5 zw_11_6 zw_1_14 zw_11_7) rfl rfl rfl ⟨rfl, zyX1_lowestFreeNumber⟩ ⟨Nat.le_of_ble_eq_true rfl, Nat.le_of_ble_eq_true rfl⟩) ⟨bS_blind, va_recv hK (zx2_P (show 1 < 18 by decide) hP) (ci := 1) (q0 := 0) rfl rfl, bS_pre (zx2_P (show 1 < 18 by decide) hP) hK (zx2_D (show 1 < 18 by decide) hD) hN⟩ rfl rfl hl.1 rfl (lv_room (Nat.le_of_ble_eq_true rfl)) dX2_tryAdding_4 ⟨Nat.zero_le _, Nat.zero_le _⟩) hS (fun q h1 h2 => absurd h1 (Nat.not_lt.mpr h2)) (fun q h => hA q (Nat.le_trans hS.1 h)) (fun r u t H1 lc ht hvm hw hB hz1 hk1 hS => ?_)
  replace hw : x1 = r := hw; subst hw
  replace hP := zx_keep hP hk1
  refine lv_istore (lv' := [(5, .int x1), (0, .ref h), (1, .int p1), (2, .int p2), (3, .int p3), (4, .int p4)]) hx hb dX2_tryAdding_7 hl (by decide) rfl (fun ls hl => ?_)
  refine lv_aload_n hx hb dX2_tryAdding_9 rfl (lv_at hl 1 rfl) ?_
  refine va_get (D := D) (ci := 2) (v := .ref (hh 1)) (C := RX2) (T := TX2) (N := 8) hx hb hts inlX2 hown hK hP 0 rfl rfl 1 (by decide) (hts _ zw_1_16) (fun _ h9 => h9) rfl dX2_tryAdding_10 ?_
  obtain ⟨T3, hz4, hM⟩ := zx_b1E hM
  refine va_callv (va_runV (As := []) (rest := []) ⟨hx, hb, hml, hown, hts⟩ (c_X1_beginCall l D cI cZ cT (hh 1) (aa 1) (S 1) _ N hz4) (cwV 0 hts (zg_V zw_11_0 zw_11_1 zw_11_2 zw_1_14 zw_11_3) rfl rfl rfl ⟨rfl, zyX1_beginCall⟩ ⟨Nat.le_of_ble_eq_true rfl, Nat.le_of_ble_eq_true rfl⟩) ⟨bS_blind, va_recv hK (zx2_P (show 1 < 18 by decide) hP) (ci := 1) (q0 := 0) rfl rfl, bS_pre (zx2_P (show 1 < 18 by decide) hP) hK (zx2_D (show 1 < 18 by decide) hD) hN⟩ rfl rfl hl.1 rfl (lv_room (Nat.le_of_ble_eq_true rfl)) dX2_tryAdding_13 ⟨Nat.zero_le _, Nat.zero_le _⟩) hS (fun q _ h => zx_fW (zx2_D (show 1 < 18 by decide) hD) hS hA q h) (fun q h => zx_fW (zx2_D (show 1 < 18 by decide) hD) hS hA q h) (fun u t H1 lc ht hvm hw hB hz1 hk1 hS => ?_)
  replace hw : T3 = u := hw; subst hw
  rw [ht] at hB
  replace hP := zx2_S (show 1 < 18 by decide) hP hD hk1 hB
  obtain ⟨T5, eT5, hM⟩ := zx_nE hM
  rw [← eT5] at hP
  replace hD := zx2_Da T5 hD
  refine lv_aload_n hx hb dX2_tryAdding_16 rfl (lv_at hl 1 rfl) ?_
  refine va_get (D := D) (ci := 2) (v := .ref (hh 1)) (C := RX2) (T := TX2) (N := 8) hx hb hts inlX2 hown hK hP 0 rfl rfl 1 (by decide) (hts _ zw_1_16) (fun _ h9 => h9) rfl dX2_tryAdding_17 ?_
  refine lv_iload hx hb dX2_tryAdding_20 (lv_at hl 0 rfl) ?_
  refine lv_iload_n hx hb dX2_tryAdding_22 rfl (lv_at hl 2 rfl) ?_
  refine lv_iload_n hx hb dX2_tryAdding_23 rfl (lv_at hl 3 rfl) ?_
  refine lv_iload_n hx hb dX2_tryAdding_24 rfl (lv_at hl 4 rfl) ?_
  refine lv_iload hx hb dX2_tryAdding_25 (lv_at hl 5 rfl) ?_
  obtain ⟨T6, hz7, hM⟩ := zx_b1E hM
  refine va_callv (va_runV (As := [.int x1, .int p1, .int p2, .int p3, .int p4]) (rest := []) ⟨hx, hb, hml, hown, hts⟩ (c_X1_setBox l D cI cZ cT (hh 1) (aa 1) (T5 1) _ N x1 p1 p2 p3 p4 hz7) (cwV 5 hts (zg_V zw_11_12 zw_11_13 zw_11_14 zw_1_14 zw_11_15) rfl rfl rfl ⟨rfl, zyX1_setBox⟩ ⟨Nat.le_of_ble_eq_true rfl, Nat.le_of_ble_eq_true rfl⟩) ⟨bS_blind, va_recv hK (zx2_P (show 1 < 18 by decide) hP) (ci := 1) (q0 := 0) rfl rfl, bS_pre (zx2_P (show 1 < 18 by decide) hP) hK (zx2_D (show 1 < 18 by decide) hD) hN⟩ rfl rfl hl.1 rfl (lv_room (Nat.le_of_ble_eq_true rfl)) dX2_tryAdding_27 ⟨Nat.zero_le _, Nat.zero_le _⟩) hS (fun q _ h => zx_fW (zx2_D (show 1 < 18 by decide) hD) hS hA q h) (fun q h => zx_fW (zx2_D (show 1 < 18 by decide) hD) hS hA q h) (fun u t H1 lc ht hvm hw hB hz1 hk1 hS => ?_)
  replace hw : T6 = u := hw; subst hw
  rw [ht] at hB
  replace hP := zx2_S (show 1 < 18 by decide) hP hD hk1 hB
  obtain ⟨T8, eT8, hM⟩ := zx_nE hM
  rw [← eT8] at hP
  replace hD := zx2_Da T8 hD
  refine lv_aload_n hx hb dX2_tryAdding_30 rfl (lv_at hl 1 rfl) ?_
  refine va_get (D := D) (ci := 2) (v := .ref (hh 1)) (C := RX2) (T := TX2) (N := 8) hx hb hts inlX2 hown hK hP 0 rfl rfl 1 (by decide) (hts _ zw_1_16) (fun _ h9 => h9) rfl dX2_tryAdding_31 ?_
  refine lv_iload hx hb dX2_tryAdding_34 (lv_at hl 0 rfl) ?_
  obtain ⟨T9, hz10, hM⟩ := zx_b1E hM
  refine va_callv (va_runV (As := [.int x1]) (rest := []) ⟨hx, hb, hml, hown, hts⟩ (c_X1_putIn l D cI cZ cT (hh 1) (aa 1) (T8 1) _ N x1 hz10) (cwV 1 hts (zg_V zw_11_16 zw_11_17 zw_11_18 zw_1_14 zw_11_19) rfl rfl rfl ⟨rfl, zyX1_putIn⟩ ⟨Nat.le_of_ble_eq_true rfl, Nat.le_of_ble_eq_true rfl⟩) ⟨bS_blind, va_recv hK (zx2_P (show 1 < 18 by decide) hP) (ci := 1) (q0 := 0) rfl rfl, bS_pre (zx2_P (show 1 < 18 by decide) hP) hK (zx2_D (show 1 < 18 by decide) hD) hN⟩ rfl rfl hl.1 rfl (lv_room (Nat.le_of_ble_eq_true rfl)) dX2_tryAdding_36 ⟨Nat.zero_le _, Nat.zero_le _⟩) hS (fun q _ h => zx_fW (zx2_D (show 1 < 18 by decide) hD) hS hA q h) (fun q h => zx_fW (zx2_D (show 1 < 18 by decide) hD) hS hA q h) (fun u t H1 lc ht hvm hw hB hz1 hk1 hS => ?_)
  replace hw : T9 = u := hw; subst hw
  rw [ht] at hB
  replace hP := zx2_S (show 1 < 18 by decide) hP hD hk1 hB
  obtain ⟨T11, eT11, hM⟩ := zx_nE hM
  rw [← eT11] at hP
  replace hD := zx2_Da T11 hD
  rw [hQ]
  exact W.vret hx hb hr (fun t ht hW => ⟨⟨T11, rfl, (Option.some.inj hM).symm, by show va_P D vwCl _ t.heap; rw [ht]; exact hP⟩, hS.F ht⟩) hS.2.2 dX2_tryAdding_39

/-! ShallowBoxes.ifAdded(IIII)I -/
def f_X2_ifAdded (N : Nat) (p1 : Int32) (p2 : Int32) (p3 : Int32) (p4 : Int32) (S : zx_B) : Option (Int32 × (Nat × zx_B)) :=
  (zx_b1 (f_X2_isBox N p1 p2 p3 p4) (fun x1 =>
(if x1 = 0 then
  some (0, (1, S)) else
  (zx_b1 (f_X1_countRectangles N (S 0)) (fun x4 =>
(if x4 < 24 then
  (zx_b1 (f_X1_takeOver N (S 1) (S 0)) (fun T7 =>
(zx_n (zx_sb S 1 T7) (fun T9 =>
(zx_b1 (f_X2_tryAdding N p1 p2 p3 p4 T9) (fun T10 =>
(zx_b2 (f_X1_overlap N (T10 1)) (fun x12 T13 =>
(zx_n (zx_sb T10 1 T13) (fun T15 =>
(zx_b2 (f_X1_overlap N (T15 0)) (fun x16 T17 =>
(zx_n (zx_sb T15 0 T17) (fun T19 =>
some ((x12 - x16), (0, T19)))))))))))))))) else
  some ((-100001), (0, S))))))))
abbrev rmX2_ifAdded : Room := { frames := 6, cells := 1, slots := 6, locals := 152 }
abbrev zsX2_ifAdded : List Cond := .code yX2_ifAdded cX2_ifAdded 5 (some .int) :: wsL_law
theorem zyX2_ifAdded : yX2_ifAdded.cls ≠ "java/lang/invoke/MethodHandle" ∧ yX2_ifAdded.cls ≠ "java/lang/invoke/VarHandle" ∧ (parseMethodDescriptor yX2_ifAdded.desc).map (fun d => d.parameters.length) = some 4 := by decide +kernel
set_option maxHeartbeats 4000000 in
set_option maxRecDepth 100000 in
theorem c_X2_ifAdded (l : Launch) (D : va_G) (cI cZ cT : ClassId) (hlt : l.stackTraces = false) (h : Nat) (hh : Nat → Nat) (aa : Nat → Nat → Nat) (S : zx_B) (sz : Nat) (N : Nat) (p1 : Int32) (p2 : Int32) (p3 : Int32) (p4 : Int32) {R : Int32 × (Nat × zx_B)} (hM : f_X2_ifAdded N p1 p2 p3 p4 S = some R) : vx_Met l yX2_ifAdded zsX2_ifAdded rmX2_ifAdded (va_Pc [.ref h, .int p1, .int p2, .int p3, .int p4] (bX D (zx_ty cI cZ cT) (xW2 cI cT h hh aa S) sz)) (va_Qi (fun r u => R = (r, (0, u))) (fun u t => va_P D vwCl (xW2 cI cT h hh aa u) t.heap) (va_A (xW2 cI cT h hh aa S) sz)) (vx_X (fun u : Nat × zx_B => R = (0, u) ∧ u.1 ≠ 0) (fun E u t => E = zx_E u.1 ∧ va_P D vwCl (xW2 cI cT h hh aa u.2) t.heap) (va_A (xW2 cI cT h hh aa S) sz)) 1 6 (va_A (xW2 cI cT h hh aa S) sz) := by
  refine vx_ofW (cc := cX2_ifAdded) (maxL := 5) (ret := (some .int)) (by decide) rfl ?_
  intro p e s m args below meth c s₁ B hml hout hv
  obtain ⟨rfl, ⟨hsz, hP, hK, hD0, hN⟩, hX⟩ := hv
  have hx := B.exec
  have hb := B.bytes
  have hr := B.returns
  have hts : ∀ w ∈ wsL_law, w.before _ s = true := fun w hw => atoms_spec (ws := zsX2_ifAdded) B.pre w (List.mem_cons_of_mem _ hw)
  have hown : s.vm.findClass RX2 = some m.cls := findClass_of_methodNamed B.named
  have hlocks := B.notSynchronized
  subst hsz
  have hD := hD0.self (sz := s.heap.size)
  generalize hAe : va_A (xW2 cI cT h hh aa S) s.heap.size = A at hD hX ⊢
  have hU := hX.1
  have hNN := hX.2.1
  have hXw := hX.2.2.1
  have hXs := hX.2.2.2
  have hA : ∀ q : Nat, s.heap.size ≤ q → A q := fun q h => by rw [← hAe]; exact Or.inr h
  have hS : va_S A s.heap s.heap [] := va_S.rf
  have hl := lv_entry ([.ref h, .int p1, .int p2, .int p3, .int p4]) (n := 5) (Nat.le_of_ble_eq_true rfl)
  rw [lg_entry_eq]
  generalize (lg_sl ([.ref h, .int p1, .int p2, .int p3, .int p4]) ++ List.replicate (5 - (lg_sl ([.ref h, .int p1, .int p2, .int p3, .int p4])).length) Slot.unset).toArray = ls at hl ⊢
  have hl : lv_has ls 5 [(0, .ref h), (1, .int p1), (2, .int p2), (3, .int p3), (4, .int p4)] := hl
  generalize hQ : vx_MQ below (va_Qi (fun r u => R = (r, (0, u))) (fun u t => va_P D vwCl (xW2 cI cT h hh aa u) t.heap) A) (vx_X (fun u : Nat × zx_B => R = (0, u) ∧ u.1 ≠ 0) (fun E u t => E = zx_E u.1 ∧ va_P D vwCl (xW2 cI cT h hh aa u.2) t.heap) A) ([.ref h, .int p1, .int p2, .int p3, .int p4] : List Value).toArray s 1 6 A = Q9
  replace hQ := hQ.symm
  unfold f_X2_ifAdded at hM
  refine lv_iload_n hx hb dX2_ifAdded_0 rfl (lv_at hl 1 rfl) ?_
  refine lv_iload_n hx hb dX2_ifAdded_1 rfl (lv_at hl 2 rfl) ?_
  refine lv_iload_n hx hb dX2_ifAdded_2 rfl (lv_at hl 3 rfl) ?_
  refine lv_iload hx hb dX2_ifAdded_3 (lv_at hl 4 rfl) ?_
  obtain ⟨x1, hz2, hM⟩ := zx_b1E hM
  refine va_calli (va_runS (As := [.int p1, .int p2, .int p3, .int p4]) (rest := []) ⟨hx, hb, hml, hown, hts⟩ (c_X2_isBox l D cI cZ cT _ N p1 p2 p3 p4 hz2) (va_cwS 4 hts (zg_S zw_17_20 zw_15_8 zw_1_2 zw_15_9) rfl rfl rfl zyX2_isBox ⟨Nat.le_of_ble_eq_true rfl, Nat.le_of_ble_eq_true rfl⟩) ⟨bS_blind, bS_pre (zx_P0 hP) hK (zx_D0 hD) hN⟩ rfl rfl hl.1 rfl (lv_room (Nat.le_of_ble_eq_true rfl)) dX2_ifAdded_5 ⟨Nat.zero_le _, Nat.zero_le _⟩) hS (fun q h1 h2 => absurd h1 (Nat.not_lt.mpr h2)) (fun q h => hA q (Nat.le_trans hS.1 h)) (fun r u t H1 lc ht hvm hw hB hz1 hk1 hS => ?_)
  replace hw : x1 = r := hw; subst hw
  replace hP := zx_keep hP hk1
  refine lv_if_ne (tgt := 21) hx hb dX2_ifAdded_8 (by decide) (fun q3 => ?_) (fun q3 => ?_)
  · replace hM := zx_f q3 hM
    refine lv_aload_n hx hb dX2_ifAdded_21 rfl (lv_at hl 0 rfl) ?_
    refine va_get (D := D) (ci := 2) (v := .ref (hh 0)) (C := RX2) (T := TX2) (N := 8) hx hb hts inlX2 hown hK hP 0 rfl rfl 0 (by decide) (hts _ zw_1_15) (fun _ h9 => h9) rfl dX2_ifAdded_22 ?_
    obtain ⟨x4, hz5, hM⟩ := zx_b1E hM
    refine va_calli (va_runV (As := []) (rest := []) ⟨hx, hb, hml, hown, hts⟩ (c_X1_countRectangles l D cI cZ cT (hh 0) (aa 0) (S 0) _ N hz5) (cwV 0 hts (zg_V zw_5_6 zw_5_7 zw_5_8 zw_1_14 zw_5_9) rfl rfl rfl ⟨rfl, zyX1_countRectangles⟩ ⟨Nat.le_of_ble_eq_true rfl, Nat.le_of_ble_eq_true rfl⟩) ⟨bS_blind, va_recv hK (zx2_P (show 0 < 18 by decide) hP) (ci := 1) (q0 := 0) rfl rfl, bS_pre (zx2_P (show 0 < 18 by decide) hP) hK (zx2_D (show 0 < 18 by decide) hD) hN⟩ rfl rfl hl.1 rfl (lv_room (Nat.le_of_ble_eq_true rfl)) dX2_ifAdded_25 ⟨Nat.zero_le _, Nat.zero_le _⟩) hS (fun q h1 h2 => absurd h1 (Nat.not_lt.mpr h2)) (fun q h => hA q (Nat.le_trans hS.1 h)) (fun r u t H1 lc ht hvm hw hB hz1 hk1 hS => ?_)
    replace hw : x4 = r := hw; subst hw
    replace hP := zx_keep hP hk1
    refine lv_bipush (v := 24) hx hb dX2_ifAdded_28 (by decide) ?_
    refine lv_icmp_lt (tgt := 36) hx hb dX2_ifAdded_30 (by decide) (fun q6 => ?_) (fun q6 => ?_)
    · replace hM := zx_t q6 hM
      refine lv_aload_n hx hb dX2_ifAdded_36 rfl (lv_at hl 0 rfl) ?_
      refine va_get (D := D) (ci := 2) (v := .ref (hh 1)) (C := RX2) (T := TX2) (N := 8) hx hb hts inlX2 hown hK hP 0 rfl rfl 1 (by decide) (hts _ zw_1_16) (fun _ h9 => h9) rfl dX2_ifAdded_37 ?_
      refine lv_aload_n hx hb dX2_ifAdded_40 rfl (lv_at hl 0 rfl) ?_
      refine va_get (D := D) (ci := 2) (v := .ref (hh 0)) (C := RX2) (T := TX2) (N := 8) hx hb hts inlX2 hown hK hP 0 rfl rfl 0 (by decide) (hts _ zw_1_15) (fun _ h9 => h9) rfl dX2_ifAdded_41 ?_
      obtain ⟨T7, hz8, hM⟩ := zx_b1E hM
      refine va_callv (va_runV (As := [.ref (hh 0)]) (rest := []) ⟨hx, hb, hml, hown, hts⟩ (c_X1_takeOver l D cI cZ cT (hh 1) (aa 1) (S 1) (hh 0) (aa 0) (S 0) _ N hz8) (cwV 1 hts (zg_V zw_10_13 zw_10_14 zw_10_15 zw_1_14 zw_10_16) rfl rfl rfl ⟨rfl, zyX1_takeOver⟩ ⟨Nat.le_of_ble_eq_true rfl, Nat.le_of_ble_eq_true rfl⟩) ⟨bS_blind, va_recv hK (zx2_P2 (show 1 < 18 by decide) (show 0 < 18 by decide) hP) (ci := 1) (q0 := 0) rfl rfl, bS_pre (zx2_P2 (show 1 < 18 by decide) (show 0 < 18 by decide) hP) hK (zx2_D2 (show 1 < 18 by decide) (show 0 < 18 by decide) (by omega) hD) hN⟩ rfl rfl hl.1 rfl (lv_room (Nat.le_of_ble_eq_true rfl)) dX2_ifAdded_44 ⟨Nat.zero_le _, Nat.zero_le _⟩) hS (fun q _ h => zx_fW (zx2_D2 (show 1 < 18 by decide) (show 0 < 18 by decide) (by omega) hD) hS hA q h) (fun q h => zx_fW (zx2_D2 (show 1 < 18 by decide) (show 0 < 18 by decide) (by omega) hD) hS hA q h) (fun u t H1 lc ht hvm hw hB hz1 hk1 hS => ?_)
      replace hw : T7 = u := hw; subst hw
      rw [ht] at hB
      replace hP := zx2_S2 (show 1 < 18 by decide) (show 0 < 18 by decide) (by omega) hP hD hk1 hB
      obtain ⟨T9, eT9, hM⟩ := zx_nE hM
      rw [← eT9] at hP
      replace hD := zx2_Da T9 hD
      refine lv_aload_n hx hb dX2_ifAdded_47 rfl (lv_at hl 0 rfl) ?_
      refine lv_iload_n hx hb dX2_ifAdded_48 rfl (lv_at hl 1 rfl) ?_
      refine lv_iload_n hx hb dX2_ifAdded_49 rfl (lv_at hl 2 rfl) ?_
      refine lv_iload_n hx hb dX2_ifAdded_50 rfl (lv_at hl 3 rfl) ?_
      refine lv_iload hx hb dX2_ifAdded_51 (lv_at hl 4 rfl) ?_
      obtain ⟨T10, hz11, hM⟩ := zx_b1E hM
      refine va_callv (va_runV (As := [.int p1, .int p2, .int p3, .int p4]) (rest := []) ⟨hx, hb, hml, hown, hts⟩ (c_X2_tryAdding l D cI cZ cT h hh aa T9 _ N p1 p2 p3 p4 hz11) (cwV 4 hts (zg_V zw_19_8 zw_19_9 zw_19_10 zw_1_2 zw_19_11) rfl rfl rfl ⟨rfl, zyX2_tryAdding⟩ ⟨Nat.le_of_ble_eq_true rfl, Nat.le_of_ble_eq_true rfl⟩) ⟨bS_blind, va_recv hK hP (ci := 2) (q0 := 0) rfl rfl, bS_pre hP hK hD hN⟩ rfl rfl hl.1 rfl (lv_room (Nat.le_of_ble_eq_true rfl)) dX2_ifAdded_53 ⟨Nat.zero_le _, Nat.zero_le _⟩) hS (fun q _ h => zx_fW hD hS hA q h) (fun q h => zx_fW hD hS hA q h) (fun u t H1 lc ht hvm hw hB hz1 hk1 hS => ?_)
      replace hw : T10 = u := hw; subst hw
      rw [ht] at hB
      replace hP := hB
      replace hD := zx2_Da T10 hD
      refine lv_aload_n hx hb dX2_ifAdded_56 rfl (lv_at hl 0 rfl) ?_
      refine va_get (D := D) (ci := 2) (v := .ref (hh 1)) (C := RX2) (T := TX2) (N := 8) hx hb hts inlX2 hown hK hP 0 rfl rfl 1 (by decide) (hts _ zw_1_16) (fun _ h9 => h9) rfl dX2_ifAdded_57 ?_
      obtain ⟨x12, T13, hz14, hM⟩ := zx_b2E hM
      refine va_calli (va_runV (As := []) (rest := []) ⟨hx, hb, hml, hown, hts⟩ (c_X1_overlap l D cI cZ cT (hh 1) (aa 1) (T10 1) _ N hz14) (cwV 0 hts (zg_V zw_5_18 zw_5_19 zw_5_20 zw_1_14 zw_5_21) rfl rfl rfl ⟨rfl, zyX1_overlap⟩ ⟨Nat.le_of_ble_eq_true rfl, Nat.le_of_ble_eq_true rfl⟩) ⟨bS_blind, va_recv hK (zx2_P (show 1 < 18 by decide) hP) (ci := 1) (q0 := 0) rfl rfl, bS_pre (zx2_P (show 1 < 18 by decide) hP) hK (zx2_D (show 1 < 18 by decide) hD) hN⟩ rfl rfl hl.1 rfl (lv_room (Nat.le_of_ble_eq_true rfl)) dX2_ifAdded_60 ⟨Nat.zero_le _, Nat.zero_le _⟩) hS (fun q _ h => zx_fW (zx2_D (show 1 < 18 by decide) hD) hS hA q h) (fun q h => zx_fW (zx2_D (show 1 < 18 by decide) hD) hS hA q h) (fun r u t H1 lc ht hvm hw hB hz1 hk1 hS => ?_)
      obtain ⟨hw1, hw2⟩ := Prod.mk.inj hw; subst hw1; subst hw2
      rw [ht] at hB
      replace hP := zx2_S (show 1 < 18 by decide) hP hD hk1 hB
      obtain ⟨T15, eT15, hM⟩ := zx_nE hM
      rw [← eT15] at hP
      replace hD := zx2_Da T15 hD
      refine lv_aload_n hx hb dX2_ifAdded_63 rfl (lv_at hl 0 rfl) ?_
      refine va_get (D := D) (ci := 2) (v := .ref (hh 0)) (C := RX2) (T := TX2) (N := 8) hx hb hts inlX2 hown hK hP 0 rfl rfl 0 (by decide) (hts _ zw_1_15) (fun _ h9 => h9) rfl dX2_ifAdded_64 ?_
      obtain ⟨x16, T17, hz18, hM⟩ := zx_b2E hM
      refine va_calli (va_runV (As := []) (rest := [.int x12]) ⟨hx, hb, hml, hown, hts⟩ (c_X1_overlap l D cI cZ cT (hh 0) (aa 0) (T15 0) _ N hz18) (cwV 0 hts (zg_V zw_5_18 zw_5_19 zw_5_20 zw_1_14 zw_5_21) rfl rfl rfl ⟨rfl, zyX1_overlap⟩ ⟨Nat.le_of_ble_eq_true rfl, Nat.le_of_ble_eq_true rfl⟩) ⟨bS_blind, va_recv hK (zx2_P (show 0 < 18 by decide) hP) (ci := 1) (q0 := 0) rfl rfl, bS_pre (zx2_P (show 0 < 18 by decide) hP) hK (zx2_D (show 0 < 18 by decide) hD) hN⟩ rfl rfl hl.1 rfl (lv_room (Nat.le_of_ble_eq_true rfl)) dX2_ifAdded_67 ⟨Nat.zero_le _, Nat.zero_le _⟩) hS (fun q _ h => zx_fW (zx2_D (show 0 < 18 by decide) hD) hS hA q h) (fun q h => zx_fW (zx2_D (show 0 < 18 by decide) hD) hS hA q h) (fun r u t H1 lc ht hvm hw hB hz1 hk1 hS => ?_)
      obtain ⟨hw1, hw2⟩ := Prod.mk.inj hw; subst hw1; subst hw2
      rw [ht] at hB
      replace hP := zx2_S (show 0 < 18 by decide) hP hD hk1 hB
      obtain ⟨T19, eT19, hM⟩ := zx_nE hM
      rw [← eT19] at hP
      replace hD := zx2_Da T19 hD
      refine lv_isub hx hb dX2_ifAdded_70 ?_
      rw [hQ]
      refine vx_ret ?_
      refine W.widen (k := 1) (n := 6) (Nat.le_of_ble_eq_true rfl) (Nat.le_of_ble_eq_true rfl) ?_
      exact W.iret hx hb hr (fun t ht hW => ⟨⟨(x12 - x16), T19, rfl, (Option.some.inj hM).symm, by show va_P D vwCl _ t.heap; rw [ht]; exact hP⟩, hS.F ht⟩) hS.2.2 dX2_ifAdded_71
    · replace hM := zx_f q6 hM
      refine lv_ldc (v := (-100001)) hx hb hown (hts _ zw_19_7) dX2_ifAdded_33 ?_
      rw [hQ]
      refine vx_ret ?_
      refine W.widen (k := 1) (n := 6) (Nat.le_of_ble_eq_true rfl) (Nat.le_of_ble_eq_true rfl) ?_
      exact W.iret hx hb hr (fun t ht hW => ⟨⟨(-100001), S, rfl, (Option.some.inj hM).symm, by show va_P D vwCl _ t.heap; rw [ht]; exact hP⟩, hS.F ht⟩) hS.2.2 dX2_ifAdded_35
  · replace hM := zx_t q3 hM
    rw [hQ]
    exact zx_thr1 hx hb hlt hown (hts _ zw_4_14) (hts _ zw_4_15) (hXs _ _ (zx_str_130)) hts hXw hU hNN hS (hl.1.trans hml.symm) dX2_ifAdded_11 dX2_ifAdded_14 dX2_ifAdded_15 dX2_ifAdded_17 dX2_ifAdded_20 hout (Nat.le_of_ble_eq_true rfl) (Nat.le_of_ble_eq_true rfl) (Nat.le_of_ble_eq_true rfl) (Nat.le_of_ble_eq_true rfl) hlocks (fun t hvm hz hk => zx_XC (Option.some.inj hM).symm (by decide) rfl hP hS hz hk) hS.2.2 (Nat.le_of_ble_eq_true rfl) (Nat.le_of_ble_eq_true rfl)
