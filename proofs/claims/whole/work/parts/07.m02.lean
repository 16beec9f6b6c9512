/-! ShallowBoxesModel.waste(II)I -/
def f_X3_waste (N : Nat) (p1 : Int32) (p2 : Int32) (S : zx_S) : Option (Int32) :=
  (zx_b1 (f_X3_joinArea N p1 p2 S) (fun x1 =>
(zx_b1 (f_X3_area N p1 S) (fun x3 =>
(zx_b1 (f_X3_area N p2 S) (fun x5 =>
some ((x1 - x3) - x5)))))))
abbrev rmX3_waste : Room := { frames := 2, cells := 0, slots := 0, locals := 45 }
abbrev zsX3_waste : List Cond := .code yX3_waste cX3_waste 3 (some .int) :: wsL_law
theorem zyX3_waste : yX3_waste.cls ≠ "java/lang/invoke/MethodHandle" ∧ yX3_waste.cls ≠ "java/lang/invoke/VarHandle" ∧ (parseMethodDescriptor yX3_waste.desc).map (fun d => d.parameters.length) = some 2 := by decide +kernel
set_option maxHeartbeats 4000000 in
set_option maxRecDepth 100000 in
theorem c_X3_waste (l : Launch) (D : va_G) (cI cZ cT : ClassId) (h : Nat) (ad : Nat → Nat) (S : zx_S) (sz : Nat) (N : Nat) (p1 : Int32) (p2 : Int32) {R : Int32} (hM : f_X3_waste N p1 p2 S = some R) : Met l yX3_waste zsX3_waste rmX3_waste (va_Pc [.ref h, .int p1, .int p2] (bS D (zx_ty cI cZ cT) (xW3 cI cZ h ad S) sz)) (va_Qi (fun r (_ : Unit) => R = r) (fun _ _ => True) (fun q => sz ≤ q)) 0 0 (fun q => sz ≤ q) := by
  refine Met.ofW (cc := cX3_waste) (maxL := 3) (ret := (some .int)) (by decide) rfl ?_
  intro p e s m args below meth c s₁ B hml hv
  obtain ⟨rfl, hsz, hP, hK, hD0, hN⟩ := hv
  have hx := B.exec
  have hb := B.bytes
  have hr := B.returns
  have hts : ∀ w ∈ wsL_law, w.before _ s = true := fun w hw => atoms_spec (ws := zsX3_waste) B.pre w (List.mem_cons_of_mem _ hw)
  have hown : s.vm.findClass RX3 = some m.cls := findClass_of_methodNamed B.named
  have hlocks := B.notSynchronized
  subst hsz
  generalize hAe : (fun q : Nat => s.heap.size ≤ q) = A
  have hA : ∀ q : Nat, s.heap.size ≤ q → A q := fun q h => by rw [← hAe]; exact h
  have hD := hD0
  have hS : va_S A s.heap s.heap [] := va_S.rf
  have hl := lv_entry ([.ref h, .int p1, .int p2]) (n := 3) (Nat.le_of_ble_eq_true rfl)
  rw [lg_entry_eq]
  generalize (lg_sl ([.ref h, .int p1, .int p2]) ++ List.replicate (3 - (lg_sl ([.ref h, .int p1, .int p2])).length) Slot.unset).toArray = ls at hl ⊢
  have hl : lv_has ls 3 [(0, .ref h), (1, .int p1), (2, .int p2)] := hl
  generalize hQ : MQ below (va_Qi (fun r (_ : Unit) => R = r) (fun _ _ => True) A) ([.ref h, .int p1, .int p2] : List Value).toArray s 0 0 A = Q9
  replace hQ := hQ.symm
  unfold f_X3_waste at hM
  refine lv_aload_n hx hb dX3_waste_0 rfl (lv_at hl 0 rfl) ?_
  refine lv_iload_n hx hb dX3_waste_1 rfl (lv_at hl 1 rfl) ?_
  refine lv_iload_n hx hb dX3_waste_2 rfl (lv_at hl 2 rfl) ?_
  obtain ⟨x1, hz2, hM⟩ := zx_b1E hM
  refine va_calli (va_runV (As := [.int p1, .int p2]) (rest := []) ⟨hx, hb, hml, hown, hts⟩ (c_X3_joinArea l D cI cZ cT h ad S _ N p1 p2  hz2) (cwV 2 hts (zg_V zw_9_23 zw_10_0 zw_10_1 zw_1_5 zw_10_2) rfl rfl rfl ⟨rfl, zyX3_joinArea⟩ ⟨Nat.le_of_ble_eq_true rfl, Nat.le_of_ble_eq_true rfl⟩) ⟨bS_blind, va_recv hK hP (ci := 3) (q0 := 0) rfl rfl, bS_pre hP hK hD hN⟩ rfl rfl hl.1 rfl (lv_room (Nat.le_of_ble_eq_true rfl)) dX3_waste_3 ⟨Nat.zero_le _, Nat.zero_le _⟩) hS (fun q h1 h2 => absurd h1 (Nat.not_lt.mpr h2)) (fun q h => hA q (Nat.le_trans hS.1 h)) (fun r u t H1 lc ht hvm hw hB hz1 hk1 hS => ?_)
  replace hw : x1 = r := hw; subst hw
  replace hP := zx_keep hP hk1
  refine lv_aload_n hx hb dX3_waste_6 rfl (lv_at hl 0 rfl) ?_
  refine lv_iload_n hx hb dX3_waste_7 rfl (lv_at hl 1 rfl) ?_
  obtain ⟨x3, hz4, hM⟩ := zx_b1E hM
  refine va_calli (va_runV (As := [.int p1]) (rest := [.int x1]) ⟨hx, hb, hml, hown, hts⟩ (c_X3_area l D cI cZ cT h ad S _ N p1  hz4) (cwV 1 hts (zg_V zw_10_9 zw_10_10 zw_10_11 zw_1_5 zw_10_12) rfl rfl rfl ⟨rfl, zyX3_area⟩ ⟨Nat.le_of_ble_eq_true rfl, Nat.le_of_ble_eq_true rfl⟩) ⟨bS_blind, va_recv hK hP (ci := 3) (q0 := 0) rfl rfl, bS_pre hP hK hD hN⟩ rfl rfl hl.1 rfl (lv_room (Nat.le_of_ble_eq_true rfl)) dX3_waste_8 ⟨Nat.zero_le _, Nat.zero_le _⟩) hS (fun q h1 h2 => absurd h1 (Nat.not_lt.mpr h2)) (fun q h => hA q (Nat.le_trans hS.1 h)) (fun r u t H1 lc ht hvm hw hB hz1 hk1 hS => ?_)
  replace hw : x3 = r := hw; subst hw
  replace hP := zx_keep hP hk1
  refine lv_isub hx hb dX3_waste_11 ?_
  refine lv_aload_n hx hb dX3_waste_12 rfl (lv_at hl 0 rfl) ?_
  refine lv_iload_n hx hb dX3_waste_13 rfl (lv_at hl 2 rfl) ?_
  obtain ⟨x5, hz6, hM⟩ := zx_b1E hM
  refine va_calli (va_runV (As := [.int p2]) (rest := [.int (x1 - x3)]) ⟨hx, hb, hml, hown, hts⟩ (c_X3_area l D cI cZ cT h ad S _ N p2  hz6) (cwV 1 hts (zg_V zw_10_9 zw_10_10 zw_10_11 zw_1_5 zw_10_12) rfl rfl rfl ⟨rfl, zyX3_area⟩ ⟨Nat.le_of_ble_eq_true rfl, Nat.le_of_ble_eq_true rfl⟩) ⟨bS_blind, va_recv hK hP (ci := 3) (q0 := 0) rfl rfl, bS_pre hP hK hD hN⟩ rfl rfl hl.1 rfl (lv_room (Nat.le_of_ble_eq_true rfl)) dX3_waste_14 ⟨Nat.zero_le _, Nat.zero_le _⟩) hS (fun q h1 h2 => absurd h1 (Nat.not_lt.mpr h2)) (fun q h => hA q (Nat.le_trans hS.1 h)) (fun r u t H1 lc ht hvm hw hB hz1 hk1 hS => ?_)
  replace hw : x5 = r := hw; subst hw
  replace hP := zx_keep hP hk1
  refine lv_isub hx hb dX3_waste_17 ?_
  rw [hQ]
  exact W.iret hx hb hr (fun t ht hW => ⟨⟨((x1 - x3) - x5), (), rfl, (Option.some.inj hM).symm, trivial⟩, hS.F ht⟩) hS.2.2 dX3_waste_18

/-! ShallowBoxesModel.take([III)V -/
def f_X3_take_j19 (N : Nat) (w : Nat) (v2 : Int32) (v3 : Int32) (t1 : Int32) (t2 : Int32) (t3 : Int32) (S_ : zx_S) : Option (zx_S) :=
  (zx_b1 (f_X3_joinInto N t1 t2 t3 S_) (fun T1 =>
(zx_b1 (f_X3_many N 380 v2 (T1 w)) (fun x3 =>
(zx_b1 (f_X3_insert N 380 v2 x3 v3 (T1 w)) (fun g5 =>
(zx_n (zx_st T1 w g5) (fun T7 =>
some T7))))))))
def f_X3_take (N : Nat) (w : Nat) (p2 : Int32) (p3 : Int32) (S : zx_S) : Option (zx_S) :=
  (zx_b1 (f_X3_many N 380 p2 (S w)) (fun x8 =>
(if x8 = 0 then
  f_X3_take_j19 N w  p2 p3 (24 + p2) p3 1 S else
  f_X3_take_j19 N w  p2 p3 (24 + p2) p3 0 S)))
abbrev rmX3_take : Room := { frames := 3, cells := 0, slots := 0, locals := 66 }
abbrev zsX3_take : List Cond := .code yX3_take cX3_take 4 none :: wsL_law
theorem zyX3_take : yX3_take.cls ≠ "java/lang/invoke/MethodHandle" ∧ yX3_take.cls ≠ "java/lang/invoke/VarHandle" ∧ (parseMethodDescriptor yX3_take.desc).map (fun d => d.parameters.length) = some 3 := by decide +kernel
set_option maxHeartbeats 4000000 in
set_option maxRecDepth 100000 in
theorem c_X3_take (l : Launch) (D : va_G) (cI cZ cT : ClassId) (h : Nat) (ad : Nat → Nat) (S : zx_S) (sz : Nat) (N : Nat) (w : Nat) (hrw : w = 1 ∨ w = 2) (p2 : Int32) (p3 : Int32) {R : zx_S} (hM : f_X3_take N w p2 p3 S = some R) : Met l yX3_take zsX3_take rmX3_take (va_Pc [.ref h, .ref (ad w), .int p2, .int p3] (bS D (zx_ty cI cZ cT) (xW3 cI cZ h ad S) sz)) (va_Qv (fun u => R = u) (fun u t => va_P D vwCl (xW3 cI cZ h ad u) t.heap) (va_A (xW3 cI cZ h ad S) sz)) 0 0 (va_A (xW3 cI cZ h ad S) sz) := by
  refine Met.ofW (cc := cX3_take) (maxL := 4) (ret := none) (by decide) rfl ?_
  intro p e s m args below meth c s₁ B hml hv
  obtain ⟨rfl, hsz, hP, hK, hD0, hN⟩ := hv
  have hx := B.exec
  have hb := B.bytes
  have hr := B.returns
  have hts : ∀ w ∈ wsL_law, w.before _ s = true := fun w hw => atoms_spec (ws := zsX3_take) B.pre w (List.mem_cons_of_mem _ hw)
  have hown : s.vm.findClass RX3 = some m.cls := findClass_of_methodNamed B.named
  have hlocks := B.notSynchronized
  subst hsz
  have hD := hD0.self (sz := s.heap.size)
  generalize hAe : va_A (xW3 cI cZ h ad S) s.heap.size = A at hD ⊢
  have hA : ∀ q : Nat, s.heap.size ≤ q → A q := fun q h => by rw [← hAe]; exact Or.inr h
  have hS : va_S A s.heap s.heap [] := va_S.rf
  have hl := lv_entry ([.ref h, .ref (ad w), .int p2, .int p3]) (n := 4) (Nat.le_of_ble_eq_true rfl)
  rw [lg_entry_eq]
  generalize (lg_sl ([.ref h, .ref (ad w), .int p2, .int p3]) ++ List.replicate (4 - (lg_sl ([.ref h, .ref (ad w), .int p2, .int p3])).length) Slot.unset).toArray = ls at hl ⊢
  have hl : lv_has ls 4 [(0, .ref h), (1, .ref (ad w)), (2, .int p2), (3, .int p3)] := hl
  generalize hQ : MQ below (va_Qv (fun u => R = u) (fun u t => va_P D vwCl (xW3 cI cZ h ad u) t.heap) A) ([.ref h, .ref (ad w), .int p2, .int p3] : List Value).toArray s 0 0 A = Q9
  replace hQ := hQ.symm
  unfold f_X3_take at hM
  have j19 : ∀ (v2 : Int32) (v3 : Int32) (t1 : Int32) (t2 : Int32) (t3 : Int32) (S_ : zx_S) (H : Heap) (lc : List Loc) (ls : Array Slot), va_P D vwCl (xW3 cI cZ h ad S_) H → va_D A (xW3 cI cZ h ad S_) → va_S A s.heap H lc → lv_has ls 4 [(1, .ref (ad w)), (2, .int v2), (3, .int v3)] → f_X3_take_j19 N w v2 v3 t1 t2 t3 S_ = some R → W p l e (headSpec zsX3_take rmX3_take).room s m ([.ref h, .ref (ad w), .int p2, .int p3] : List Value).toArray below meth c H lc 0 0 Q9 (F0 m 19 ls [.int t3, .int t2, .int t1, .ref h]) := by
    intro v2 v3 t1 t2 t3 S_ H lc ls hP hD hS hl hM
    unfold f_X3_take_j19 at hM
    obtain ⟨T1, hz2, hM⟩ := zx_b1E hM
    refine va_callv (va_runV (As := [.int t1, .int t2, .int t3]) (rest := []) ⟨hx, hb, hml, hown, hts⟩ (c_X3_joinInto l D cI cZ cT h ad S_ _ N t1 t2 t3  hz2) (cwV 3 hts (zg_V zw_9_15 zw_9_16 zw_9_17 zw_1_5 zw_9_18) rfl rfl rfl ⟨rfl, zyX3_joinInto⟩ ⟨Nat.le_of_ble_eq_true rfl, Nat.le_of_ble_eq_true rfl⟩) ⟨bS_blind, va_recv hK hP (ci := 3) (q0 := 0) rfl rfl, bS_pre hP hK hD hN⟩ rfl rfl hl.1 rfl (lv_room (Nat.le_of_ble_eq_true rfl)) dX3_take_19 ⟨Nat.zero_le _, Nat.zero_le _⟩) hS (fun q _ h => zx_fW hD hS hA q h) (fun q h => zx_fW hD hS hA q h) (fun u t H1 lc ht hvm hw hB hz1 hk1 hS => ?_)
    replace hw : T1 = u := hw; subst hw
    rw [ht] at hB
    replace hP := hB
    replace hD := xW3_D T1 hD
    refine lv_aload_n hx hb dX3_take_22 rfl (lv_at hl 0 rfl) ?_
    refine lv_iload_n hx hb dX3_take_23 rfl (lv_at hl 1 rfl) ?_
    refine lv_aload_n hx hb dX3_take_24 rfl (lv_at hl 0 rfl) ?_
    refine lv_iload_n hx hb dX3_take_25 rfl (lv_at hl 1 rfl) ?_
    obtain ⟨x3, hz4, hM⟩ := zx_b1E hM
    refine va_calli (va_runS (As := [.ref (ad w), .int v2]) (rest := [.int v2, .ref (ad w)]) ⟨hx, hb, hml, hown, hts⟩ (c_X3_many l D cI cZ cT (ad w) 380 (T1 w) _ N v2 hz4) (va_cwS 2 hts (zg_S zw_9_3 zw_9_4 zw_1_5 zw_9_5) rfl rfl rfl zyX3_many ⟨Nat.le_of_ble_eq_true rfl, Nat.le_of_ble_eq_true rfl⟩) ⟨bS_blind, bS_pre (zx_P1 hP (w + 1) ((xW3_aw hrw))) hK (zx_D1 hD (w + 1) ((xW3_aw hrw))) hN⟩ rfl rfl hl.1 rfl (lv_room (Nat.le_of_ble_eq_true rfl)) dX3_take_26 ⟨Nat.zero_le _, Nat.zero_le _⟩) hS (fun q h1 h2 => absurd h1 (Nat.not_lt.mpr h2)) (fun q h => hA q (Nat.le_trans hS.1 h)) (fun r u t H1 lc ht hvm hw hB hz1 hk1 hS => ?_)
    replace hw : x3 = r := hw; subst hw
    replace hP := zx_keep hP hk1
    refine lv_iload_n hx hb dX3_take_29 rfl (lv_at hl 2 rfl) ?_
    obtain ⟨g5, hz6, hM⟩ := zx_b1E hM
    refine va_callv (va_runS (As := [.ref (ad w), .int v2, .int x3, .int v3]) (rest := []) ⟨hx, hb, hml, hown, hts⟩ (c_X3_insert l D cI cZ cT (ad w) 380 (T1 w) _ N v2 x3 v3 hz6) (va_cwS 4 hts (zg_S zw_10_13 zw_10_14 zw_1_5 zw_10_15) rfl rfl rfl zyX3_insert ⟨Nat.le_of_ble_eq_true rfl, Nat.le_of_ble_eq_true rfl⟩) ⟨bS_blind, bS_pre (zx_P1 hP (w + 1) ((xW3_aw hrw))) hK (zx_D1 hD (w + 1) ((xW3_aw hrw))) hN⟩ rfl rfl hl.1 rfl (lv_room (Nat.le_of_ble_eq_true rfl)) dX3_take_30 ⟨Nat.zero_le _, Nat.zero_le _⟩) hS (fun q _ h => zx_f1 hD hS hA (k := (w + 1)) (xW3_aw hrw) q h) (fun q h => zx_f1 hD hS hA (k := (w + 1)) (xW3_aw hrw) q h) (fun u t H1 lc ht hvm hw hB hz1 hk1 hS => ?_)
    replace hw : g5 = u := hw; subst hw
    rw [ht] at hB
    replace hP := zx_set1 (k := (w + 1)) hP hD (xW3_aw hrw) hk1 hB
    replace hD := va_D.set (p := (w + 1)) (e := .inl (cI, 380, .inl g5)) hD (xW3_aw hrw)
    rw [xW3_paw hrw] at hP hD
    obtain ⟨T7, eT7, hM⟩ := zx_nE hM
    rw [← eT7] at hP hD
    rw [hQ]
    exact W.vret hx hb hr (fun t ht hW => ⟨⟨T7, rfl, (Option.some.inj hM).symm, by show va_P D vwCl _ t.heap; rw [ht]; exact hP⟩, hS.F ht⟩) hS.2.2 dX3_take_33
  refine lv_aload_n hx hb dX3_take_0 rfl (lv_at hl 0 rfl) ?_
  refine lv_bipush (v := 24) hx hb dX3_take_1 (by decide) ?_
  refine lv_iload_n hx hb dX3_take_3 rfl (lv_at hl 2 rfl) ?_
  refine lv_iadd hx hb dX3_take_4 ?_
  refine lv_iload_n hx hb dX3_take_5 rfl (lv_at hl 3 rfl) ?_
  refine lv_aload_n hx hb dX3_take_6 rfl (lv_at hl 1 rfl) ?_
  refine lv_iload_n hx hb dX3_take_7 rfl (lv_at hl 2 rfl) ?_
  obtain ⟨x8, hz9, hM⟩ := zx_b1E hM
  refine va_calli (va_runS (As := [.ref (ad w), .int p2]) (rest := [.int p3, .int (24 + p2), .ref h]) ⟨hx, hb, hml, hown, hts⟩ (c_X3_many l D cI cZ cT (ad w) 380 (S w) _ N p2 hz9) (va_cwS 2 hts (zg_S zw_9_3 zw_9_4 zw_1_5 zw_9_5) rfl rfl rfl zyX3_many ⟨Nat.le_of_ble_eq_true rfl, Nat.le_of_ble_eq_true rfl⟩) ⟨bS_blind, bS_pre (zx_P1 hP (w + 1) ((xW3_aw hrw))) hK (zx_D1 hD (w + 1) ((xW3_aw hrw))) hN⟩ rfl rfl hl.1 rfl (lv_room (Nat.le_of_ble_eq_true rfl)) dX3_take_8 ⟨Nat.zero_le _, Nat.zero_le _⟩) hS (fun q h1 h2 => absurd h1 (Nat.not_lt.mpr h2)) (fun q h => hA q (Nat.le_trans hS.1 h)) (fun r u t H1 lc ht hvm hw hB hz1 hk1 hS => ?_)
  replace hw : x8 = r := hw; subst hw
  replace hP := zx_keep hP hk1
  refine lv_if_ne (tgt := 18) hx hb dX3_take_11 (by decide) (fun q10 => ?_) (fun q10 => ?_)
  · replace hM := zx_f q10 hM
    refine lv_iconst (v := 0) hx hb dX3_take_18 (by decide) ?_
    exact j19 p2 p3 (24 + p2) p3 0 S _ _ _ hP hD hS (lv_sub hl [1, 2, 3] rfl) hM
  · replace hM := zx_t q10 hM
    refine lv_iconst (v := 1) hx hb dX3_take_14 (by decide) ?_
    refine lv_goto (tgt := 19) hx hb dX3_take_15 (by decide) ?_
    exact j19 p2 p3 (24 + p2) p3 1 S _ _ _ hP hD hS (lv_sub hl [1, 2, 3] rfl) hM

/-! ShallowBoxesModel.goesFirst([IIIII)Z -/
def f_X3_goesFirst_j24 (N : Nat) (w : Nat) (S : zx_S) (v2 : Int32) (v5 : Int32) : Option (Int32) :=
  (zx_b1 (f_X3_many N 380 v2 (S w)) (fun x1 =>
(if (x1 + v5) = 2 then
  some 1 else
  some 0)))
def f_X3_goesFirst (N : Nat) (w : Nat) (p2 : Int32) (p3 : Int32) (p4 : Int32) (p5 : Int32) (S : zx_S) : Option (Int32) :=
  (zx_b1 (f_X3_many N 380 p2 (S w)) (fun x4 =>
(if (x4 + p5) = 2 then
  f_X3_goesFirst_j24 N w S  p2 p5 else
  (zx_b1 (f_X3_many N 380 p3 (S w)) (fun x7 =>
(if (x7 + p5) = 2 then
  f_X3_goesFirst_j24 N w S  p2 p5 else
  (zx_n (24 + p2) (fun x10 =>
(zx_n (24 + p3) (fun x11 =>
(zx_b1 (f_X3_joinArea N x10 p4 S) (fun x12 =>
(zx_b1 (f_X3_area N x10 S) (fun x14 =>
(zx_n (x12 - x14) (fun x16 =>
(zx_b1 (f_X3_joinArea N x11 p4 S) (fun x17 =>
(zx_b1 (f_X3_area N x11 S) (fun x19 =>
(zx_n (x17 - x19) (fun x21 =>
(if x16 = x21 then
  (zx_b1 (f_X3_area N x10 S) (fun x23 =>
(zx_b1 (f_X3_area N x11 S) (fun x25 =>
(if x23 = x25 then
  (zx_b1 (f_X3_many N 380 p2 (S w)) (fun x28 =>
(zx_b1 (f_X3_many N 380 p3 (S w)) (fun x30 =>
(if x30 < x28 then
  some 0 else
  some 1))))) else
  (zx_b1 (f_X3_area N x10 S) (fun x33 =>
(zx_b1 (f_X3_area N x11 S) (fun x35 =>
(if x35 ≤ x33 then
  some 0 else
  some 1)))))))))) else
  (if x21 ≤ x16 then
  some 0 else
  some 1))))))))))))))))))))))))
abbrev rmX3_goesFirst : Room := { frames := 2, cells := 0, slots := 0, locals := 45 }
abbrev zsX3_goesFirst : List Cond := .code yX3_goesFirst cX3_goesFirst 10 (some .boolean) :: wsL_law
theorem zyX3_goesFirst : yX3_goesFirst.cls ≠ "java/lang/invoke/MethodHandle" ∧ yX3_goesFirst.cls ≠ "java/lang/invoke/VarHandle" ∧ (parseMethodDescriptor yX3_goesFirst.desc).map (fun d => d.parameters.length) = some 5 := by decide +kernel
set_option maxHeartbeats 4000000 in
set_option maxRecDepth 100000 in
theorem c_X3_goesFirst (l : Launch) (D : va_G) (cI cZ cT : ClassId) (h : Nat) (ad : Nat → Nat) (S : zx_S) (sz : Nat) (N : Nat) (w : Nat) (hrw : w = 1 ∨ w = 2) (p2 : Int32) (p3 : Int32) (p4 : Int32) (p5 : Int32) {R : Int32} (hM : f_X3_goesFirst N w p2 p3 p4 p5 S = some R) : Met l yX3_goesFirst zsX3_goesFirst rmX3_goesFirst (va_Pc [.ref h, .ref (ad w), .int p2, .int p3, .int p4, .int p5] (bS D (zx_ty cI cZ cT) (xW3 cI cZ h ad S) sz)) (va_Qi (fun r (_ : Unit) => R = r) (fun _ _ => True) (fun q => sz ≤ q)) 0 0 (fun q => sz ≤ q) := by
  refine Met.ofW (cc := cX3_goesFirst) (maxL := 10) (ret := (some .boolean)) (by decide) rfl ?_
  intro p e s m args below meth c s₁ B hml hv
  obtain ⟨rfl, hsz, hP, hK, hD0, hN⟩ := hv
  have hx := B.exec
  have hb := B.bytes
  have hr := B.returns
  have hts : ∀ w ∈ wsL_law, w.before _ s = true := fun w hw => atoms_spec (ws := zsX3_goesFirst) B.pre w (List.mem_cons_of_mem _ hw)
  have hown : s.vm.findClass RX3 = some m.cls := findClass_of_methodNamed B.named
  have hlocks := B.notSynchronized
  subst hsz
  generalize hAe : (fun q : Nat => s.heap.size ≤ q) = A
  have hA : ∀ q : Nat, s.heap.size ≤ q → A q := fun q h => by rw [← hAe]; exact h
  have hD := hD0
  have hS : va_S A s.heap s.heap [] := va_S.rf
  have hl := lv_entry ([.ref h, .ref (ad w), .int p2, .int p3, .int p4, .int p5]) (n := 10) (Nat.le_of_ble_eq_true rfl)
  rw [lg_entry_eq]
  generalize (lg_sl ([.ref h, .ref (ad w), .int p2, .int p3, .int p4, .int p5]) ++ List.replicate (10 - (lg_sl ([.ref h, .ref (ad w), .int p2, .int p3, .int p4, .int p5])).length) Slot.unset).toArray = ls at hl ⊢
  have hl : lv_has ls 10 [(0, .ref h), (1, .ref (ad w)), (2, .int p2), (3, .int p3), (4, .int p4), (5, .int p5)] := hl
  generalize hQ : MQ below (va_Qi (fun r (_ : Unit) => R = r) (fun _ _ => True) A) ([.ref h, .ref (ad w), .int p2, .int p3, .int p4, .int p5] : List Value).toArray s 0 0 A = Q9
  replace hQ := hQ.symm
  unfold f_X3_goesFirst at hM
  have j24 : ∀ (v2 : Int32) (v5 : Int32) (H : Heap) (lc : List Loc) (ls : Array Slot), va_P D vwCl (xW3 cI cZ h ad S) H → va_S A s.heap H lc → lv_has ls 10 [(1, .ref (ad w)), (2, .int v2), (5, .int v5)] → f_X3_goesFirst_j24 N w S v2 v5 = some R → W p l e (headSpec zsX3_goesFirst rmX3_goesFirst).room s m ([.ref h, .ref (ad w), .int p2, .int p3, .int p4, .int p5] : List Value).toArray below meth c H lc 0 0 Q9 (F0 m 24 ls []) := by
    intro v2 v5 H lc ls hP hS hl hM
    unfold f_X3_goesFirst_j24 at hM
    refine lv_aload_n hx hb dX3_goesFirst_24 rfl (lv_at hl 0 rfl) ?_
    refine lv_iload_n hx hb dX3_goesFirst_25 rfl (lv_at hl 1 rfl) ?_
    obtain ⟨x1, hz2, hM⟩ := zx_b1E hM
    refine va_calli (va_runS (As := [.ref (ad w), .int v2]) (rest := []) ⟨hx, hb, hml, hown, hts⟩ (c_X3_many l D cI cZ cT (ad w) 380 (S w) _ N v2 hz2) (va_cwS 2 hts (zg_S zw_9_3 zw_9_4 zw_1_5 zw_9_5) rfl rfl rfl zyX3_many ⟨Nat.le_of_ble_eq_true rfl, Nat.le_of_ble_eq_true rfl⟩) ⟨bS_blind, bS_pre (zx_P1 hP (w + 1) ((xW3_aw hrw))) hK (zx_D1 hD (w + 1) ((xW3_aw hrw))) hN⟩ rfl rfl hl.1 rfl (lv_room (Nat.le_of_ble_eq_true rfl)) dX3_goesFirst_26 ⟨Nat.zero_le _, Nat.zero_le _⟩) hS (fun q h1 h2 => absurd h1 (Nat.not_lt.mpr h2)) (fun q h => hA q (Nat.le_trans hS.1 h)) (fun r u t H1 lc ht hvm hw hB hz1 hk1 hS => ?_)
    replace hw : x1 = r := hw; subst hw
    replace hP := zx_keep hP hk1
    refine lv_iload hx hb dX3_goesFirst_29 (lv_at hl 2 rfl) ?_
    refine lv_iadd hx hb dX3_goesFirst_31 ?_
    refine lv_iconst (v := 2) hx hb dX3_goesFirst_32 (by decide) ?_
    refine lv_icmp_ne (tgt := 40) hx hb dX3_goesFirst_33 (by decide) (fun q3 => ?_) (fun q3 => ?_)
    · replace hM := zx_f q3 hM
      refine lv_iconst (v := 0) hx hb dX3_goesFirst_40 (by decide) ?_
      rw [hQ]
      exact W.zret hx hb hr (by rfl) (fun t ht hW => ⟨⟨0, (), rfl, (Option.some.inj hM).symm, trivial⟩, hS.F ht⟩) hS.2.2 dX3_goesFirst_41
    · replace hM := zx_t q3 hM
      refine lv_iconst (v := 1) hx hb dX3_goesFirst_36 (by decide) ?_
      refine lv_goto (tgt := 41) hx hb dX3_goesFirst_37 (by decide) ?_
      rw [hQ]
      exact W.zret hx hb hr (by rfl) (fun t ht hW => ⟨⟨1, (), rfl, (Option.some.inj hM).symm, trivial⟩, hS.F ht⟩) hS.2.2 dX3_goesFirst_41
  refine lv_aload_n hx hb dX3_goesFirst_0 rfl (lv_at hl 1 rfl) ?_
  refine lv_iload_n hx hb dX3_goesFirst_1 rfl (lv_at hl 2 rfl) ?_
  obtain ⟨x4, hz5, hM⟩ := zx_b1E hM
  refine va_calli (va_runS (As := [.ref (ad w), .int p2]) (rest := []) ⟨hx, hb, hml, hown, hts⟩ (c_X3_many l D cI cZ cT (ad w) 380 (S w) _ N p2 hz5) (va_cwS 2 hts (zg_S zw_9_3 zw_9_4 zw_1_5 zw_9_5) rfl rfl rfl zyX3_many ⟨Nat.le_of_ble_eq_true rfl, Nat.le_of_ble_eq_true rfl⟩) ⟨bS_blind, bS_pre (zx_P1 hP (w + 1) ((xW3_aw hrw))) hK (zx_D1 hD (w + 1) ((xW3_aw hrw))) hN⟩ rfl rfl hl.1 rfl (lv_room (Nat.le_of_ble_eq_true rfl)) dX3_goesFirst_2 ⟨Nat.zero_le _, Nat.zero_le _⟩) hS (fun q h1 h2 => absurd h1 (Nat.not_lt.mpr h2)) (fun q h => hA q (Nat.le_trans hS.1 h)) (fun r u t H1 lc ht hvm hw hB hz1 hk1 hS => ?_)
  replace hw : x4 = r := hw; subst hw
  replace hP := zx_keep hP hk1
  refine lv_iload hx hb dX3_goesFirst_5 (lv_at hl 5 rfl) ?_
  refine lv_iadd hx hb dX3_goesFirst_7 ?_
  refine lv_iconst (v := 2) hx hb dX3_goesFirst_8 (by decide) ?_
  refine lv_icmp_eq (tgt := 24) hx hb dX3_goesFirst_9 (by decide) (fun q6 => ?_) (fun q6 => ?_)
  · replace hM := zx_t q6 hM
    exact j24 p2 p5 _ _ _ hP hS (lv_sub hl [1, 2, 5] rfl) hM
  · replace hM := zx_f q6 hM
    refine lv_aload_n hx hb dX3_goesFirst_12 rfl (lv_at hl 1 rfl) ?_
    refine lv_iload_n hx hb dX3_goesFirst_13 rfl (lv_at hl 3 rfl) ?_
    obtain ⟨x7, hz8, hM⟩ := zx_b1E hM
    refine va_calli (va_runS (As := [.ref (ad w), .int p3]) (rest := []) ⟨hx, hb, hml, hown, hts⟩ (c_X3_many l D cI cZ cT (ad w) 380 (S w) _ N p3 hz8) (va_cwS 2 hts (zg_S zw_9_3 zw_9_4 zw_1_5 zw_9_5) rfl rfl rfl zyX3_many ⟨Nat.le_of_ble_eq_true rfl, Nat.le_of_ble_eq_true rfl⟩) ⟨bS_blind, bS_pre (zx_P1 hP (w + 1) ((xW3_aw hrw))) hK (zx_D1 hD (w + 1) ((xW3_aw hrw))) hN⟩ rfl rfl hl.1 rfl (lv_room (Nat.le_of_ble_eq_true rfl)) dX3_goesFirst_14 ⟨Nat.zero_le _, Nat.zero_le _⟩) hS (fun q h1 h2 => absurd h1 (Nat.not_lt.mpr h2)) (fun q h => hA q (Nat.le_trans hS.1 h)) (fun r u t H1 lc ht hvm hw hB hz1 hk1 hS => ?_)
    replace hw : x7 = r := hw; subst hw
    replace hP := zx_keep hP hk1
    refine lv_iload hx hb dX3_goesFirst_17 (lv_at hl 5 rfl) ?_
    refine lv_iadd hx hb dX3_goesFirst_19 ?_
    refine lv_iconst (v := 2) hx hb dX3_goesFirst_20 (by decide) ?_
    refine lv_icmp_ne (tgt := 42) hx hb dX3_goesFirst_21 (by decide) (fun q9 => ?_) (fun q9 => ?_)
    · replace hM := zx_f q9 hM
      refine lv_bipush (v := 24) hx hb dX3_goesFirst_42 (by decide) ?_
      refine lv_iload_n hx hb dX3_goesFirst_44 rfl (lv_at hl 2 rfl) ?_
      refine lv_iadd hx hb dX3_goesFirst_45 ?_
      obtain ⟨x10, ex10, hM⟩ := zx_nE hM
      refine zx_top ex10 ?_
      refine lv_istore (lv' := [(6, .int x10), (0, .ref h), (1, .ref (ad w)), (2, .int p2), (3, .int p3), (4, .int p4), (5, .int p5)]) hx hb dX3_goesFirst_46 hl (by decide) rfl (fun ls hl => ?_)
      refine lv_bipush (v := 24) hx hb dX3_goesFirst_48 (by decide) ?_
      refine lv_iload_n hx hb dX3_goesFirst_50 rfl (lv_at hl 4 rfl) ?_
      refine lv_iadd hx hb dX3_goesFirst_51 ?_
      obtain ⟨x11, ex11, hM⟩ := zx_nE hM
      refine zx_top ex11 ?_
      refine lv_istore (lv' := [(7, .int x11), (6, .int x10), (0, .ref h), (1, .ref (ad w)), (2, .int p2), (3, .int p3), (4, .int p4), (5, .int p5)]) hx hb dX3_goesFirst_52 hl (by decide) rfl (fun ls hl => ?_)
      refine lv_aload_n hx hb dX3_goesFirst_54 rfl (lv_at hl 2 rfl) ?_
      refine lv_iload hx hb dX3_goesFirst_55 (lv_at hl 1 rfl) ?_
      refine lv_iload hx hb dX3_goesFirst_57 (lv_at hl 6 rfl) ?_
      obtain ⟨x12, hz13, hM⟩ := zx_b1E hM
      refine va_calli (va_runV (As := [.int x10, .int p4]) (rest := []) ⟨hx, hb, hml, hown, hts⟩ (c_X3_joinArea l D cI cZ cT h ad S _ N x10 p4  hz13) (cwV 2 hts (zg_V zw_9_23 zw_10_0 zw_10_1 zw_1_5 zw_10_2) rfl rfl rfl ⟨rfl, zyX3_joinArea⟩ ⟨Nat.le_of_ble_eq_true rfl, Nat.le_of_ble_eq_true rfl⟩) ⟨bS_blind, va_recv hK hP (ci := 3) (q0 := 0) rfl rfl, bS_pre hP hK hD hN⟩ rfl rfl hl.1 rfl (lv_room (Nat.le_of_ble_eq_true rfl)) dX3_goesFirst_59 ⟨Nat.zero_le _, Nat.zero_le _⟩) hS (fun q h1 h2 => absurd h1 (Nat.not_lt.mpr h2)) (fun q h => hA q (Nat.le_trans hS.1 h)) (fun r u t H1 lc ht hvm hw hB hz1 hk1 hS => ?_)
      replace hw : x12 = r := hw; subst hw
      replace hP := zx_keep hP hk1
      refine lv_aload_n hx hb dX3_goesFirst_62 rfl (lv_at hl 2 rfl) ?_
      refine lv_iload hx hb dX3_goesFirst_63 (lv_at hl 1 rfl) ?_
      obtain ⟨x14, hz15, hM⟩ := zx_b1E hM
      refine va_calli (va_runV (As := [.int x10]) (rest := [.int x12]) ⟨hx, hb, hml, hown, hts⟩ (c_X3_area l D cI cZ cT h ad S _ N x10  hz15) (cwV 1 hts (zg_V zw_10_9 zw_10_10 zw_10_11 zw_1_5 zw_10_12) rfl rfl rfl ⟨rfl, zyX3_area⟩ ⟨Nat.le_of_ble_eq_true rfl, Nat.le_of_ble_eq_true rfl⟩) ⟨bS_blind, va_recv hK hP (ci := 3) (q0 := 0) rfl rfl, bS_pre hP hK hD hN⟩ rfl rfl hl.1 rfl (lv_room (Nat.le_of_ble_eq_true rfl)) dX3_goesFirst_65 ⟨Nat.zero_le _, Nat.zero_le _⟩) hS (fun q h1 h2 => absurd h1 (Nat.not_lt.mpr h2)) (fun q h => hA q (Nat.le_trans hS.1 h)) (fun r u t H1 lc ht hvm hw hB hz1 hk1 hS => ?_)
      replace hw : x14 = r := hw; subst hw
      replace hP := zx_keep hP hk1
      refine lv_isub hx hb dX3_goesFirst_68 ?_
      obtain ⟨x16, ex16, hM⟩ := zx_nE hM
      refine zx_top ex16 ?_
      refine lv_istore (lv' := [(8, .int x16), (7, .int x11), (6, .int x10), (0, .ref h), (1, .ref (ad w)), (2, .int p2), (3, .int p3), (4, .int p4), (5, .int p5)]) hx hb dX3_goesFirst_69 hl (by decide) rfl (fun ls hl => ?_)
      refine lv_aload_n hx hb dX3_goesFirst_71 rfl (lv_at hl 3 rfl) ?_
      refine lv_iload hx hb dX3_goesFirst_72 (lv_at hl 1 rfl) ?_
      refine lv_iload hx hb dX3_goesFirst_74 (lv_at hl 7 rfl) ?_
      obtain ⟨x17, hz18, hM⟩ := zx_b1E hM
      refine va_calli (va_runV (As := [.int x11, .int p4]) (rest := []) ⟨hx, hb, hml, hown, hts⟩ (c_X3_joinArea l D cI cZ cT h ad S _ N x11 p4  hz18) (cwV 2 hts (zg_V zw_9_23 zw_10_0 zw_10_1 zw_1_5 zw_10_2) rfl rfl rfl ⟨rfl, zyX3_joinArea⟩ ⟨Nat.le_of_ble_eq_true rfl, Nat.le_of_ble_eq_true rfl⟩) ⟨bS_blind, va_recv hK hP (ci := 3) (q0 := 0) rfl rfl, bS_pre hP hK hD hN⟩ rfl rfl hl.1 rfl (lv_room (Nat.le_of_ble_eq_true rfl)) dX3_goesFirst_76 ⟨Nat.zero_le _, Nat.zero_le _⟩) hS (fun q h1 h2 => absurd h1 (Nat.not_lt.mpr h2)) (fun q h => hA q (Nat.le_trans hS.1 h)) (fun r u t H1 lc ht hvm hw hB hz1 hk1 hS => ?_)
      replace hw : x17 = r := hw; subst hw
      replace hP := zx_keep hP hk1
      refine lv_aload_n hx hb dX3_goesFirst_79 rfl (lv_at hl 3 rfl) ?_
      refine lv_iload hx hb dX3_goesFirst_80 (lv_at hl 1 rfl) ?_
      obtain ⟨x19, hz20, hM⟩ := zx_b1E hM
      refine va_calli (va_runV (As := [.int x11]) (rest := [.int x17]) ⟨hx, hb, hml, hown, hts⟩ (c_X3_area l D cI cZ cT h ad S _ N x11  hz20) (cwV 1 hts (zg_V zw_10_9 zw_10_10 zw_10_11 zw_1_5 zw_10_12) rfl rfl rfl ⟨rfl, zyX3_area⟩ ⟨Nat.le_of_ble_eq_true rfl, Nat.le_of_ble_eq_true rfl⟩) ⟨bS_blind, va_recv hK hP (ci := 3) (q0 := 0) rfl rfl, bS_pre hP hK hD hN⟩ rfl rfl hl.1 rfl (lv_room (Nat.le_of_ble_eq_true rfl)) dX3_goesFirst_82 ⟨Nat.zero_le _, Nat.zero_le _⟩) hS (fun q h1 h2 => absurd h1 (Nat.not_lt.mpr h2)) (fun q h => hA q (Nat.le_trans hS.1 h)) (fun r u t H1 lc ht hvm hw hB hz1 hk1 hS => ?_)
      replace hw : x19 = r := hw; subst hw
      replace hP := zx_keep hP hk1
      refine lv_isub hx hb dX3_goesFirst_85 ?_
      obtain ⟨x21, ex21, hM⟩ := zx_nE hM
      refine zx_top ex21 ?_
      refine lv_istore (lv' := [(9, .int x21), (8, .int x16), (7, .int x11), (6, .int x10), (0, .ref h), (1, .ref (ad w)), (2, .int p2), (3, .int p3), (4, .int p4), (5, .int p5)]) hx hb dX3_goesFirst_86 hl (by decide) rfl (fun ls hl => ?_)
      refine lv_iload hx hb dX3_goesFirst_88 (lv_at hl 1 rfl) ?_
      refine lv_iload hx hb dX3_goesFirst_90 (lv_at hl 0 rfl) ?_
      refine lv_icmp_eq (tgt := 110) hx hb dX3_goesFirst_92 (by decide) (fun q22 => ?_) (fun q22 => ?_)
      · replace hM := zx_t q22 hM
        refine lv_aload_n hx hb dX3_goesFirst_110 rfl (lv_at hl 4 rfl) ?_
        refine lv_iload hx hb dX3_goesFirst_111 (lv_at hl 3 rfl) ?_
        obtain ⟨x23, hz24, hM⟩ := zx_b1E hM
        refine va_calli (va_runV (As := [.int x10]) (rest := []) ⟨hx, hb, hml, hown, hts⟩ (c_X3_area l D cI cZ cT h ad S _ N x10  hz24) (cwV 1 hts (zg_V zw_10_9 zw_10_10 zw_10_11 zw_1_5 zw_10_12) rfl rfl rfl ⟨rfl, zyX3_area⟩ ⟨Nat.le_of_ble_eq_true rfl, Nat.le_of_ble_eq_true rfl⟩) ⟨bS_blind, va_recv hK hP (ci := 3) (q0 := 0) rfl rfl, bS_pre hP hK hD hN⟩ rfl rfl hl.1 rfl (lv_room (Nat.le_of_ble_eq_true rfl)) dX3_goesFirst_113 ⟨Nat.zero_le _, Nat.zero_le _⟩) hS (fun q h1 h2 => absurd h1 (Nat.not_lt.mpr h2)) (fun q h => hA q (Nat.le_trans hS.1 h)) (fun r u t H1 lc ht hvm hw hB hz1 hk1 hS => ?_)
        replace hw : x23 = r := hw; subst hw
        replace hP := zx_keep hP hk1
        refine lv_aload_n hx hb dX3_goesFirst_116 rfl (lv_at hl 4 rfl) ?_
        refine lv_iload hx hb dX3_goesFirst_117 (lv_at hl 2 rfl) ?_
        obtain ⟨x25, hz26, hM⟩ := zx_b1E hM
        refine va_calli (va_runV (As := [.int x11]) (rest := [.int x23]) ⟨hx, hb, hml, hown, hts⟩ (c_X3_area l D cI cZ cT h ad S _ N x11  hz26) (cwV 1 hts (zg_V zw_10_9 zw_10_10 zw_10_11 zw_1_5 zw_10_12) rfl rfl rfl ⟨rfl, zyX3_area⟩ ⟨Nat.le_of_ble_eq_true rfl, Nat.le_of_ble_eq_true rfl⟩) ⟨bS_blind, va_recv hK hP (ci := 3) (q0 := 0) rfl rfl, bS_pre hP hK hD hN⟩ rfl rfl hl.1 rfl (lv_room (Nat.le_of_ble_eq_true rfl)) dX3_goesFirst_119 ⟨Nat.zero_le _, Nat.zero_le _⟩) hS (fun q h1 h2 => absurd h1 (Nat.not_lt.mpr h2)) (fun q h => hA q (Nat.le_trans hS.1 h)) (fun r u t H1 lc ht hvm hw hB hz1 hk1 hS => ?_)
        replace hw : x25 = r := hw; subst hw
        replace hP := zx_keep hP hk1
        refine lv_icmp_eq (tgt := 148) hx hb dX3_goesFirst_122 (by decide) (fun q27 => ?_) (fun q27 => ?_)
        · replace hM := zx_t q27 hM
          refine lv_aload_n hx hb dX3_goesFirst_148 rfl (lv_at hl 5 rfl) ?_
          refine lv_iload_n hx hb dX3_goesFirst_149 rfl (lv_at hl 6 rfl) ?_
          obtain ⟨x28, hz29, hM⟩ := zx_b1E hM
          refine va_calli (va_runS (As := [.ref (ad w), .int p2]) (rest := []) ⟨hx, hb, hml, hown, hts⟩ (c_X3_many l D cI cZ cT (ad w) 380 (S w) _ N p2 hz29) (va_cwS 2 hts (zg_S zw_9_3 zw_9_4 zw_1_5 zw_9_5) rfl rfl rfl zyX3_many ⟨Nat.le_of_ble_eq_true rfl, Nat.le_of_ble_eq_true rfl⟩) ⟨bS_blind, bS_pre (zx_P1 hP (w + 1) ((xW3_aw hrw))) hK (zx_D1 hD (w + 1) ((xW3_aw hrw))) hN⟩ rfl rfl hl.1 rfl (lv_room (Nat.le_of_ble_eq_true rfl)) dX3_goesFirst_150 ⟨Nat.zero_le _, Nat.zero_le _⟩) hS (fun q h1 h2 => absurd h1 (Nat.not_lt.mpr h2)) (fun q h => hA q (Nat.le_trans hS.1 h)) (fun r u t H1 lc ht hvm hw hB hz1 hk1 hS => ?_)
          replace hw : x28 = r := hw; subst hw
          replace hP := zx_keep hP hk1
          refine lv_aload_n hx hb dX3_goesFirst_153 rfl (lv_at hl 5 rfl) ?_
          refine lv_iload_n hx hb dX3_goesFirst_154 rfl (lv_at hl 7 rfl) ?_
          obtain ⟨x30, hz31, hM⟩ := zx_b1E hM
          refine va_calli (va_runS (As := [.ref (ad w), .int p3]) (rest := [.int x28]) ⟨hx, hb, hml, hown, hts⟩ (c_X3_many l D cI cZ cT (ad w) 380 (S w) _ N p3 hz31) (va_cwS 2 hts (zg_S zw_9_3 zw_9_4 zw_1_5 zw_9_5) rfl rfl rfl zyX3_many ⟨Nat.le_of_ble_eq_true rfl, Nat.le_of_ble_eq_true rfl⟩) ⟨bS_blind, bS_pre (zx_P1 hP (w + 1) ((xW3_aw hrw))) hK (zx_D1 hD (w + 1) ((xW3_aw hrw))) hN⟩ rfl rfl hl.1 rfl (lv_room (Nat.le_of_ble_eq_true rfl)) dX3_goesFirst_155 ⟨Nat.zero_le _, Nat.zero_le _⟩) hS (fun q h1 h2 => absurd h1 (Nat.not_lt.mpr h2)) (fun q h => hA q (Nat.le_trans hS.1 h)) (fun r u t H1 lc ht hvm hw hB hz1 hk1 hS => ?_)
          replace hw : x30 = r := hw; subst hw
          replace hP := zx_keep hP hk1
          refine lv_icmp_gt (tgt := 165) hx hb dX3_goesFirst_158 (by decide) (fun q32 => ?_) (fun q32 => ?_)
          · replace hM := zx_t q32 hM
            refine lv_iconst (v := 0) hx hb dX3_goesFirst_165 (by decide) ?_
            rw [hQ]
            exact W.zret hx hb hr (by rfl) (fun t ht hW => ⟨⟨0, (), rfl, (Option.some.inj hM).symm, trivial⟩, hS.F ht⟩) hS.2.2 dX3_goesFirst_166
          · replace hM := zx_f q32 hM
            refine lv_iconst (v := 1) hx hb dX3_goesFirst_161 (by decide) ?_
            refine lv_goto (tgt := 166) hx hb dX3_goesFirst_162 (by decide) ?_
            rw [hQ]
            exact W.zret hx hb hr (by rfl) (fun t ht hW => ⟨⟨1, (), rfl, (Option.some.inj hM).symm, trivial⟩, hS.F ht⟩) hS.2.2 dX3_goesFirst_166
        · replace hM := zx_f q27 hM
          refine lv_aload_n hx hb dX3_goesFirst_125 rfl (lv_at hl 4 rfl) ?_
          refine lv_iload hx hb dX3_goesFirst_126 (lv_at hl 3 rfl) ?_
          obtain ⟨x33, hz34, hM⟩ := zx_b1E hM
          refine va_calli (va_runV (As := [.int x10]) (rest := []) ⟨hx, hb, hml, hown, hts⟩ (c_X3_area l D cI cZ cT h ad S _ N x10  hz34) (cwV 1 hts (zg_V zw_10_9 zw_10_10 zw_10_11 zw_1_5 zw_10_12) rfl rfl rfl ⟨rfl, zyX3_area⟩ ⟨Nat.le_of_ble_eq_true rfl, Nat.le_of_ble_eq_true rfl⟩) ⟨bS_blind, va_recv hK hP (ci := 3) (q0 := 0) rfl rfl, bS_pre hP hK hD hN⟩ rfl rfl hl.1 rfl (lv_room (Nat.le_of_ble_eq_true rfl)) dX3_goesFirst_128 ⟨Nat.zero_le _, Nat.zero_le _⟩) hS (fun q h1 h2 => absurd h1 (Nat.not_lt.mpr h2)) (fun q h => hA q (Nat.le_trans hS.1 h)) (fun r u t H1 lc ht hvm hw hB hz1 hk1 hS => ?_)
          replace hw : x33 = r := hw; subst hw
          replace hP := zx_keep hP hk1
          refine lv_aload_n hx hb dX3_goesFirst_131 rfl (lv_at hl 4 rfl) ?_
          refine lv_iload hx hb dX3_goesFirst_132 (lv_at hl 2 rfl) ?_
          obtain ⟨x35, hz36, hM⟩ := zx_b1E hM
          refine va_calli (va_runV (As := [.int x11]) (rest := [.int x33]) ⟨hx, hb, hml, hown, hts⟩ (c_X3_area l D cI cZ cT h ad S _ N x11  hz36) (cwV 1 hts (zg_V zw_10_9 zw_10_10 zw_10_11 zw_1_5 zw_10_12) rfl rfl rfl ⟨rfl, zyX3_area⟩ ⟨Nat.le_of_ble_eq_true rfl, Nat.le_of_ble_eq_true rfl⟩) ⟨bS_blind, va_recv hK hP (ci := 3) (q0 := 0) rfl rfl, bS_pre hP hK hD hN⟩ rfl rfl hl.1 rfl (lv_room (Nat.le_of_ble_eq_true rfl)) dX3_goesFirst_134 ⟨Nat.zero_le _, Nat.zero_le _⟩) hS (fun q h1 h2 => absurd h1 (Nat.not_lt.mpr h2)) (fun q h => hA q (Nat.le_trans hS.1 h)) (fun r u t H1 lc ht hvm hw hB hz1 hk1 hS => ?_)
          replace hw : x35 = r := hw; subst hw
          replace hP := zx_keep hP hk1
          refine lv_icmp_ge (tgt := 144) hx hb dX3_goesFirst_137 (by decide) (fun q37 => ?_) (fun q37 => ?_)
          · replace hM := zx_t q37 hM
            refine lv_iconst (v := 0) hx hb dX3_goesFirst_144 (by decide) ?_
            refine lv_goto (tgt := 166) hx hb dX3_goesFirst_145 (by decide) ?_
            rw [hQ]
            exact W.zret hx hb hr (by rfl) (fun t ht hW => ⟨⟨0, (), rfl, (Option.some.inj hM).symm, trivial⟩, hS.F ht⟩) hS.2.2 dX3_goesFirst_166
          · replace hM := zx_f q37 hM
            refine lv_iconst (v := 1) hx hb dX3_goesFirst_140 (by decide) ?_
            refine lv_goto (tgt := 166) hx hb dX3_goesFirst_141 (by decide) ?_
            rw [hQ]
            exact W.zret hx hb hr (by rfl) (fun t ht hW => ⟨⟨1, (), rfl, (Option.some.inj hM).symm, trivial⟩, hS.F ht⟩) hS.2.2 dX3_goesFirst_166
      · replace hM := zx_f q22 hM
        refine lv_iload hx hb dX3_goesFirst_95 (lv_at hl 1 rfl) ?_
        refine lv_iload hx hb dX3_goesFirst_97 (lv_at hl 0 rfl) ?_
        refine lv_icmp_ge (tgt := 106) hx hb dX3_goesFirst_99 (by decide) (fun q38 => ?_) (fun q38 => ?_)
        · replace hM := zx_t q38 hM
          refine lv_iconst (v := 0) hx hb dX3_goesFirst_106 (by decide) ?_
          refine lv_goto (tgt := 166) hx hb dX3_goesFirst_107 (by decide) ?_
          rw [hQ]
          exact W.zret hx hb hr (by rfl) (fun t ht hW => ⟨⟨0, (), rfl, (Option.some.inj hM).symm, trivial⟩, hS.F ht⟩) hS.2.2 dX3_goesFirst_166
        · replace hM := zx_f q38 hM
          refine lv_iconst (v := 1) hx hb dX3_goesFirst_102 (by decide) ?_
          refine lv_goto (tgt := 166) hx hb dX3_goesFirst_103 (by decide) ?_
          rw [hQ]
          exact W.zret hx hb hr (by rfl) (fun t ht hW => ⟨⟨1, (), rfl, (Option.some.inj hM).symm, trivial⟩, hS.F ht⟩) hS.2.2 dX3_goesFirst_166
    · replace hM := zx_t q9 hM
      exact j24 p2 p5 _ _ _ hP hS (lv_sub hl [1, 2, 5] rfl) hM

/-! ShallowBoxesModel.split([II)I -/
def f_X3_split_j274 (N : Nat) (w : Nat) (k213 : Int32 → Int32 → Int32 → Int32 → Int32 → Int32 → Int32 → zx_S → Option (Int32 × zx_S)) (v2 : Int32) (v3 : Int32) (v4 : Int32) (v5 : Int32) (v7 : Int32) (v8 : Int32) (v9 : Int32) (S_ : zx_S) : Option (Int32 × zx_S) :=
  (zx_n (v9 + 1) (fun x8 =>
k213 v2 v3 v4 v5 v7 v8 x8 S_))
def f_X3_split_j261 (N : Nat) (w : Nat) (k213 : Int32 → Int32 → Int32 → Int32 → Int32 → Int32 → Int32 → zx_S → Option (Int32 × zx_S)) (v2 : Int32) (v3 : Int32) (v4 : Int32) (v5 : Int32) (v7 : Int32) (v8 : Int32) (v9 : Int32) (t2 : Int32) (S_ : zx_S) : Option (Int32 × zx_S) :=
  (zx_rd 5 (S_ 7) v9 (fun x11 =>
(zx_b1 (f_X3_take N w t2 x11 S_) (fun T13 =>
(zx_n (v8 + (-1)) (fun x15 =>
f_X3_split_j274 N w k213 v2 v3 v4 v5 v7 x15 v9 T13))))))
def f_X3_split_l213 (N : Nat) (w : Nat) : Nat → Int32 → Int32 → Int32 → Int32 → Int32 → Int32 → Int32 → zx_S → Option (Int32 × zx_S)
  | 0, _, _, _, _, _, _, _, _ => none
  | n213 + 1, v2, v3, v4, v5, v7, v8, v9, S_ => (if v3 ≤ v9 then
  (zx_rd 380 (S_ w) 378 (fun x4 =>
(zx_wr 380 378 (zx_st S_ w (upd (S_ w) (Int32.toNatClampNeg 378) (x4 + 1))) (fun T6 =>
some (v7, T6))))) else
  (if v9 = v4 then
  f_X3_split_j274 N w (f_X3_split_l213 N w  n213) v2 v3 v4 v5 v7 v8 v9 S_ else
  (if v9 = v5 then
  f_X3_split_j274 N w (f_X3_split_l213 N w  n213) v2 v3 v4 v5 v7 v8 v9 S_ else
  (zx_rd 5 (S_ 7) v9 (fun x16 =>
(zx_b1 (f_X3_goesFirst N w v2 v7 x16 v8 S_) (fun x18 =>
(if x18 = 0 then
  f_X3_split_j261 N w (f_X3_split_l213 N w  n213) v2 v3 v4 v5 v7 v8 v9 v7 S_ else
  f_X3_split_j261 N w (f_X3_split_l213 N w  n213) v2 v3 v4 v5 v7 v8 v9 v2 S_))))))))
def f_X3_split_j134 (N : Nat) (w : Nat) (k44 : Int32 → Int32 → Int32 → Int32 → Int32 → zx_S → Option (Int32 × zx_S)) (k56 : Int32 → Int32 → Int32 → Int32 → Int32 → Int32 → zx_S → Option (Int32 × zx_S)) (v2 : Int32) (v3 : Int32) (v4 : Int32) (v6 : Int32) (v7 : Int32) (t0 : Int32) (S_ : zx_S) : Option (Int32 × zx_S) :=
  (zx_n (v7 + 1) (fun x45 =>
k56 v2 v3 v4 t0 v6 x45 S_))
def f_X3_split_j120 (N : Nat) (w : Nat) (k44 : Int32 → Int32 → Int32 → Int32 → Int32 → zx_S → Option (Int32 × zx_S)) (k56 : Int32 → Int32 → Int32 → Int32 → Int32 → Int32 → zx_S → Option (Int32 × zx_S)) (v2 : Int32) (v3 : Int32) (v5 : Int32) (v6 : Int32) (v7 : Int32) (v8 : Int32) (t0 : Int32) (S_ : zx_S) : Option (Int32 × zx_S) :=
  (if v8 = 0 then
  f_X3_split_j134 N w k44 k56 v2 v3 t0 v6 v7 v5 S_ else
  f_X3_split_j134 N w k44 k56 v2 v3 t0 v6 v7 v7 S_)
def f_X3_split_j106 (N : Nat) (w : Nat) (k44 : Int32 → Int32 → Int32 → Int32 → Int32 → zx_S → Option (Int32 × zx_S)) (k56 : Int32 → Int32 → Int32 → Int32 → Int32 → Int32 → zx_S → Option (Int32 × zx_S)) (v2 : Int32) (v3 : Int32) (v4 : Int32) (v5 : Int32) (v6 : Int32) (v7 : Int32) (t0 : Int32) (S_ : zx_S) : Option (Int32 × zx_S) :=
  (if t0 = 0 then
  f_X3_split_j120 N w k44 k56 v2 v3 v5 v6 v7 t0 v4 S_ else
  f_X3_split_j120 N w k44 k56 v2 v3 v5 v6 v7 t0 v6 S_)
def f_X3_split_l56 (N : Nat) (w : Nat) (k44 : Int32 → Int32 → Int32 → Int32 → Int32 → zx_S → Option (Int32 × zx_S)) : Nat → Int32 → Int32 → Int32 → Int32 → Int32 → Int32 → zx_S → Option (Int32 × zx_S)
  | 0, _, _, _, _, _, _, _ => none
  | n56 + 1, v2, v3, v4, v5, v6, v7, S_ => (if v3 ≤ v7 then
  (zx_n (v6 + 1) (fun x44 =>
k44 v2 v3 v4 v5 x44 S_)) else
  (zx_rd 5 (S_ 7) v6 (fun x48 =>
(zx_rd 5 (S_ 7) v7 (fun x50 =>
(zx_b1 (f_X3_waste N x48 x50 S_) (fun x52 =>
(zx_rd 5 (S_ 7) v4 (fun x54 =>
(zx_rd 5 (S_ 7) v5 (fun x56 =>
(zx_b1 (f_X3_waste N x54 x56 S_) (fun x58 =>
(if x52 ≤ x58 then
  f_X3_split_j106 N w k44 (f_X3_split_l56 N w k44  n56) v2 v3 v4 v5 v6 v7 0 S_ else
  f_X3_split_j106 N w k44 (f_X3_split_l56 N w k44  n56) v2 v3 v4 v5 v6 v7 1 S_))))))))))))))
def f_X3_split_l44 (N : Nat) (w : Nat) : Nat → Int32 → Int32 → Int32 → Int32 → Int32 → zx_S → Option (Int32 × zx_S)
  | 0, _, _, _, _, _, _ => none
  | n44 + 1, v2, v3, v4, v5, v6, S_ => (if v3 ≤ v6 then
  (zx_b1 (f_X3_levelOf N 380 v2 (S_ w)) (fun x21 =>
(zx_b1 (f_X3_clearSlot N 380 v2 (S_ w)) (fun g23 =>
(zx_n (zx_st S_ w g23) (fun T25 =>
(zx_b1 (f_X3_at N v2) (fun x26 =>
(zx_wr 380 x26 (zx_st T25 w (upd (T25 w) (Int32.toNatClampNeg x26) (x21 + 1))) (fun T28 =>
(zx_b2 (f_X3_newSlot N 380 x21 (T28 w)) (fun x30 g31 =>
(zx_n (zx_st T28 w g31) (fun T33 =>
(zx_rd 5 (T33 7) v4 (fun x34 =>
(zx_b1 (f_X3_take N w v2 x34 T33) (fun T36 =>
(zx_rd 5 (T36 7) v5 (fun x38 =>
(zx_b1 (f_X3_take N w x30 x38 T36) (fun T40 =>
(zx_n (v3 - 2) (fun x42 =>
f_X3_split_l213 N w  N v2 v3 v4 v5 x30 x42 0 T40)))))))))))))))))))))))) else
  (zx_n (v6 + 1) (fun x61 =>
f_X3_split_l56 N w (f_X3_split_l44 N w  n44) N v2 v3 v4 v5 v6 x61 S_)))
def f_X3_split_l15 (N : Nat) (w : Nat) : Nat → Int32 → Int32 → Int32 → Int32 → Int32 → zx_S → Option (Int32 × zx_S)
  | 0, _, _, _, _, _, _ => none
  | n15 + 1, v2, v3, v4, v5, v6, S_ => (if v3 ≤ v6 then
  f_X3_split_l44 N w  N v2 v3 v4 v5 0 S_ else
  (zx_b1 (f_X3_entryOf N 380 v2 v6 (S_ w)) (fun x62 =>
(zx_wr 5 v6 (zx_st S_ 7 (upd (S_ 7) (Int32.toNatClampNeg v6) x62)) (fun T64 =>
(zx_n (v6 + 1) (fun x66 =>
f_X3_split_l15 N w  n15 v2 v3 v4 v5 x66 T64)))))))
def f_X3_split (N : Nat) (w : Nat) (p2 : Int32) (S : zx_S) : Option (Int32 × zx_S) :=
  (zx_b1 (f_X3_many N 380 p2 (S w)) (fun x67 =>
f_X3_split_l15 N w  N p2 x67 0 1 0 S))
abbrev rmX3_split : Room := { frames := 4, cells := 0, slots := 0, locals := 89 }
abbrev zsX3_split : List Cond := .code yX3_split cX3_split 10 (some .int) :: wsL_law
theorem zyX3_split : yX3_split.cls ≠ "java/lang/invoke/MethodHandle" ∧ yX3_split.cls ≠ "java/lang/invoke/VarHandle" ∧ (parseMethodDescriptor yX3_split.desc).map (fun d => d.parameters.length) = some 2 := by decide +kernel
set_option maxHeartbeats 4000000 in
set_option maxRecDepth 100000 in
theorem c_X3_split (l : Launch) (D : va_G) (cI cZ cT : ClassId) (h : Nat) (ad : Nat → Nat) (S : zx_S) (sz : Nat) (N : Nat) (w : Nat) (hrw : w = 1 ∨ w = 2) (p2 : Int32) {R : Int32 × zx_S} (hM : f_X3_split N w p2 S = some R) : Met l yX3_split zsX3_split rmX3_split (va_Pc [.ref h, .ref (ad w), .int p2] (bS D (zx_ty cI cZ cT) (xW3 cI cZ h ad S) sz)) (va_Qi (fun r u => R = (r, u)) (fun u t => va_P D vwCl (xW3 cI cZ h ad u) t.heap) (va_A (xW3 cI cZ h ad S) sz)) 0 0 (va_A (xW3 cI cZ h ad S) sz) := by
  refine Met.ofW (cc := cX3_split) (maxL := 10) (ret := (some .int)) (by decide) rfl ?_
  intro p e s m args below meth c s₁ B hml hv
  obtain ⟨rfl, hsz, hP, hK, hD0, hN⟩ := hv
  have hx := B.exec
  have hb := B.bytes
  have hr := B.returns
  have hts : ∀ w ∈ wsL_law, w.before _ s = true := fun w hw => atoms_spec (ws := zsX3_split) B.pre w (List.mem_cons_of_mem _ hw)
  have hown : s.vm.findClass RX3 = some m.cls := findClass_of_methodNamed B.named
  have hlocks := B.notSynchronized
  subst hsz
  have hD := hD0.self (sz := s.heap.size)
  generalize hAe : va_A (xW3 cI cZ h ad S) s.heap.size = A at hD ⊢
  have hA : ∀ q : Nat, s.heap.size ≤ q → A q := fun q h => by rw [← hAe]; exact Or.inr h
  have hS : va_S A s.heap s.heap [] := va_S.rf
  have hl := lv_entry ([.ref h, .ref (ad w), .int p2]) (n := 10) (Nat.le_of_ble_eq_true rfl)
  rw [lg_entry_eq]
  generalize (lg_sl ([.ref h, .ref (ad w), .int p2]) ++ List.replicate (10 - (lg_sl ([.ref h, .ref (ad w), .int p2])).length) Slot.unset).toArray = ls at hl ⊢
  have hl : lv_has ls 10 [(0, .ref h), (1, .ref (ad w)), (2, .int p2)] := hl
  generalize hQ : MQ below (va_Qi (fun r u => R = (r, u)) (fun u t => va_P D vwCl (xW3 cI cZ h ad u) t.heap) A) ([.ref h, .ref (ad w), .int p2] : List Value).toArray s 0 0 A = Q9
  replace hQ := hQ.symm
  unfold f_X3_split at hM
  have l15 : ∀ (n15 : Nat) (v2 : Int32) (v3 : Int32) (v4 : Int32) (v5 : Int32) (v6 : Int32) (S_ : zx_S) (H : Heap) (lc : List Loc) (ls : Array Slot), va_P D vwCl (xW3 cI cZ h ad S_) H → va_D A (xW3 cI cZ h ad S_) → va_S A s.heap H lc → lv_has ls 10 [(0, .ref h), (1, .ref (ad w)), (2, .int v2), (3, .int v3), (4, .int v4), (5, .int v5), (6, .int v6)] → f_X3_split_l15 N w n15 v2 v3 v4 v5 v6 S_ = some R → W p l e (headSpec zsX3_split rmX3_split).room s m ([.ref h, .ref (ad w), .int p2] : List Value).toArray below meth c H lc 0 0 Q9 (F0 m 15 ls []) := by
    intro n15
    induction n15 with
    | zero =>
      intro v2 v3 v4 v5 v6 S_ H lc ls hP hD hS hl hM
      rw [f_X3_split_l15] at hM; exact absurd hM (by intro h; cases h)
    | succ n15 ih15 =>
      intro v2 v3 v4 v5 v6 S_ H lc ls hP hD hS hl hM
      rw [f_X3_split_l15] at hM
      refine lv_iload hx hb dX3_split_15 (lv_at hl 6 rfl) ?_
      refine lv_iload_n hx hb dX3_split_17 rfl (lv_at hl 3 rfl) ?_
      refine lv_icmp_ge (tgt := 41) hx hb dX3_split_18 (by decide) (fun q1 => ?_) (fun q1 => ?_)
      · replace hM := zx_t q1 hM
        have l44 : ∀ (n44 : Nat) (v2 : Int32) (v3 : Int32) (v4 : Int32) (v5 : Int32) (v6 : Int32) (S_ : zx_S) (H : Heap) (lc : List Loc) (ls : Array Slot), va_P D vwCl (xW3 cI cZ h ad S_) H → va_D A (xW3 cI cZ h ad S_) → va_S A s.heap H lc → lv_has ls 10 [(0, .ref h), (1, .ref (ad w)), (2, .int v2), (3, .int v3), (4, .int v4), (5, .int v5), (6, .int v6)] → f_X3_split_l44 N w n44 v2 v3 v4 v5 v6 S_ = some R → W p l e (headSpec zsX3_split rmX3_split).room s m ([.ref h, .ref (ad w), .int p2] : List Value).toArray below meth c H lc 0 0 Q9 (F0 m 44 ls []) := by
          intro n44
          induction n44 with
          | zero =>
            intro v2 v3 v4 v5 v6 S_ H lc ls hP hD hS hl hM
            rw [f_X3_split_l44] at hM; exact absurd hM (by intro h; cases h)
          | succ n44 ih44 =>
            intro v2 v3 v4 v5 v6 S_ H lc ls hP hD hS hl hM
            rw [f_X3_split_l44] at hM
            refine lv_iload hx hb dX3_split_44 (lv_at hl 6 rfl) ?_
            refine lv_iload_n hx hb dX3_split_46 rfl (lv_at hl 3 rfl) ?_
            refine lv_icmp_ge (tgt := 148) hx hb dX3_split_47 (by decide) (fun q2 => ?_) (fun q2 => ?_)
            · replace hM := zx_t q2 hM
              have l213 : ∀ (n213 : Nat) (v2 : Int32) (v3 : Int32) (v4 : Int32) (v5 : Int32) (v7 : Int32) (v8 : Int32) (v9 : Int32) (S_ : zx_S) (H : Heap) (lc : List Loc) (ls : Array Slot), va_P D vwCl (xW3 cI cZ h ad S_) H → va_D A (xW3 cI cZ h ad S_) → va_S A s.heap H lc → lv_has ls 10 [(0, .ref h), (1, .ref (ad w)), (2, .int v2), (3, .int v3), (4, .int v4), (5, .int v5), (7, .int v7), (8, .int v8), (9, .int v9)] → f_X3_split_l213 N w n213 v2 v3 v4 v5 v7 v8 v9 S_ = some R → W p l e (headSpec zsX3_split rmX3_split).room s m ([.ref h, .ref (ad w), .int p2] : List Value).toArray below meth c H lc 0 0 Q9 (F0 m 213 ls []) := by
                intro n213
                induction n213 with
                | zero =>
                  intro v2 v3 v4 v5 v7 v8 v9 S_ H lc ls hP hD hS hl hM
                  rw [f_X3_split_l213] at hM; exact absurd hM (by intro h; cases h)
                | succ n213 ih213 =>
                  intro v2 v3 v4 v5 v7 v8 v9 S_ H lc ls hP hD hS hl hM
                  rw [f_X3_split_l213] at hM
                  refine lv_iload hx hb dX3_split_213 (lv_at hl 8 rfl) ?_
                  refine lv_iload_n hx hb dX3_split_215 rfl (lv_at hl 3 rfl) ?_
                  refine lv_icmp_ge (tgt := 280) hx hb dX3_split_216 (by decide) (fun q3 => ?_) (fun q3 => ?_)
                  · replace hM := zx_t q3 hM
                    refine lv_aload_n hx hb dX3_split_280 rfl (lv_at hl 1 rfl) ?_
                    refine lv_sipush (v := 378) hx hb dX3_split_281 (by decide) ?_
                    refine lv_dup2_11 hx hb dX3_split_284 rfl rfl ?_
                    obtain ⟨x4, q5, ex4, hM⟩ := zx_rdE hM
                    refine va_iald (D := D) hx hb hK hP (w + 1) 0 (xW3_aw hrw) rfl q5 dX3_split_285 ?_
                    refine zx_top ex4 ?_
                    refine lv_iconst (v := 1) hx hb dX3_split_286 (by decide) ?_
                    refine lv_iadd hx hb dX3_split_287 ?_
                    obtain ⟨T6, q7, eT6, hM⟩ := zx_wrE hM
                    refine va_iast (D := D) hx hb hK hP hD hS (w + 1) 0 (xW3_aw hrw) rfl q7 dX3_split_288 (fun H lc hP hD hS => ?_)
                    rw [xW3_paw hrw] at hP hD
                    rw [← eT6] at hP hD
                    refine lv_iload hx hb dX3_split_289 (lv_at hl 6 rfl) ?_
                    rw [hQ]
                    exact W.iret hx hb hr (fun t ht hW => ⟨⟨v7, T6, rfl, (Option.some.inj hM).symm, by show va_P D vwCl _ t.heap; rw [ht]; exact hP⟩, hS.F ht⟩) hS.2.2 dX3_split_291
                  · replace hM := zx_f q3 hM
                    have j274 : ∀ (v2 : Int32) (v3 : Int32) (v4 : Int32) (v5 : Int32) (v7 : Int32) (v8 : Int32) (v9 : Int32) (S_ : zx_S) (H : Heap) (lc : List Loc) (ls : Array Slot), va_P D vwCl (xW3 cI cZ h ad S_) H → va_D A (xW3 cI cZ h ad S_) → va_S A s.heap H lc → lv_has ls 10 [(0, .ref h), (1, .ref (ad w)), (2, .int v2), (3, .int v3), (4, .int v4), (5, .int v5), (7, .int v7), (8, .int v8), (9, .int v9)] → f_X3_split_j274 N w (f_X3_split_l213 N w  n213) v2 v3 v4 v5 v7 v8 v9 S_ = some R → W p l e (headSpec zsX3_split rmX3_split).room s m ([.ref h, .ref (ad w), .int p2] : List Value).toArray below meth c H lc 0 0 Q9 (F0 m 274 ls []) := by
                      intro v2 v3 v4 v5 v7 v8 v9 S_ H lc ls hP hD hS hl hM
                      unfold f_X3_split_j274 at hM
                      obtain ⟨x8, ex8, hM⟩ := zx_nE hM
                      refine lv_iinc (v := x8) (lv' := [(9, .int x8), (0, .ref h), (1, .ref (ad w)), (2, .int v2), (3, .int v3), (4, .int v4), (5, .int v5), (7, .int v7), (8, .int v8)]) hx hb dX3_split_274 hl (k := 8) rfl (by rw [ex8]; rfl) (by decide) rfl (fun ls hl => ?_)
                      refine lv_goto (tgt := 213) hx hb dX3_split_277 (by decide) ?_
                      exact ih213 v2 v3 v4 v5 v7 v8 x8 S_ _ _ _ hP hD hS (lv_sub hl [1, 2, 3, 4, 5, 6, 7, 8, 0] rfl) hM
                    refine lv_iload hx hb dX3_split_219 (lv_at hl 8 rfl) ?_
                    refine lv_iload hx hb dX3_split_221 (lv_at hl 4 rfl) ?_
                    refine lv_icmp_eq (tgt := 274) hx hb dX3_split_223 (by decide) (fun q9 => ?_) (fun q9 => ?_)
                    · replace hM := zx_t q9 hM
                      exact j274 v2 v3 v4 v5 v7 v8 v9 S_ _ _ _ hP hD hS (lv_sub hl [0, 1, 2, 3, 4, 5, 6, 7, 8] rfl) hM
                    · replace hM := zx_f q9 hM
                      refine lv_iload hx hb dX3_split_226 (lv_at hl 8 rfl) ?_
                      refine lv_iload hx hb dX3_split_228 (lv_at hl 5 rfl) ?_
                      refine lv_icmp_eq (tgt := 274) hx hb dX3_split_230 (by decide) (fun q10 => ?_) (fun q10 => ?_)
                      · replace hM := zx_t q10 hM
                        exact j274 v2 v3 v4 v5 v7 v8 v9 S_ _ _ _ hP hD hS (lv_sub hl [0, 1, 2, 3, 4, 5, 6, 7, 8] rfl) hM
                      · replace hM := zx_f q10 hM
                        have j261 : ∀ (v2 : Int32) (v3 : Int32) (v4 : Int32) (v5 : Int32) (v7 : Int32) (v8 : Int32) (v9 : Int32) (t2 : Int32) (S_ : zx_S) (H : Heap) (lc : List Loc) (ls : Array Slot), va_P D vwCl (xW3 cI cZ h ad S_) H → va_D A (xW3 cI cZ h ad S_) → va_S A s.heap H lc → lv_has ls 10 [(0, .ref h), (1, .ref (ad w)), (2, .int v2), (3, .int v3), (4, .int v4), (5, .int v5), (7, .int v7), (8, .int v8), (9, .int v9)] → f_X3_split_j261 N w (f_X3_split_l213 N w  n213) v2 v3 v4 v5 v7 v8 v9 t2 S_ = some R → W p l e (headSpec zsX3_split rmX3_split).room s m ([.ref h, .ref (ad w), .int p2] : List Value).toArray below meth c H lc 0 0 Q9 (F0 m 261 ls [.int t2, .ref (ad w), .ref h]) := by
                          intro v2 v3 v4 v5 v7 v8 v9 t2 S_ H lc ls hP hD hS hl hM
                          unfold f_X3_split_j261 at hM
                          refine lv_aload_n hx hb dX3_split_261 rfl (lv_at hl 0 rfl) ?_
                          refine va_get (D := D) (ci := 3) (v := .ref (ad 7)) (C := RX3) (T := TX3) (N := 20) hx hb hts inlX3 hown hK hP 0 rfl rfl 13 (by decide) (hts _ zw_4_2) (fun _ h9 => h9) rfl dX3_split_262 ?_
                          refine lv_iload hx hb dX3_split_265 (lv_at hl 8 rfl) ?_
                          obtain ⟨x11, q12, ex11, hM⟩ := zx_rdE hM
                          refine va_iald (D := D) hx hb hK hP 8 0 rfl rfl q12 dX3_split_267 ?_
                          refine zx_top ex11 ?_
                          obtain ⟨T13, hz14, hM⟩ := zx_b1E hM
                          refine va_callv (va_runV (As := [.ref (ad w), .int t2, .int x11]) (rest := []) ⟨hx, hb, hml, hown, hts⟩ (c_X3_take l D cI cZ cT h ad S_ _ N w hrw t2 x11  hz14) (cwV 3 hts (zg_V zw_12_1 zw_12_2 zw_12_3 zw_1_5 zw_12_4) rfl rfl rfl ⟨rfl, zyX3_take⟩ ⟨Nat.le_of_ble_eq_true rfl, Nat.le_of_ble_eq_true rfl⟩) ⟨bS_blind, va_recv hK hP (ci := 3) (q0 := 0) rfl rfl, bS_pre hP hK hD hN⟩ rfl rfl hl.1 rfl (lv_room (Nat.le_of_ble_eq_true rfl)) dX3_split_268 ⟨Nat.zero_le _, Nat.zero_le _⟩) hS (fun q _ h => zx_fW hD hS hA q h) (fun q h => zx_fW hD hS hA q h) (fun u t H1 lc ht hvm hw hB hz1 hk1 hS => ?_)
                          replace hw : T13 = u := hw; subst hw
                          rw [ht] at hB
                          replace hP := hB
                          replace hD := xW3_D T13 hD
                          obtain ⟨x15, ex15, hM⟩ := zx_nE hM
                          refine lv_iinc (v := x15) (lv' := [(8, .int x15), (0, .ref h), (1, .ref (ad w)), (2, .int v2), (3, .int v3), (4, .int v4), (5, .int v5), (7, .int v7), (9, .int v9)]) hx hb dX3_split_271 hl (k := 7) rfl (by rw [ex15]; rfl) (by decide) rfl (fun ls hl => ?_)
                          exact j274 v2 v3 v4 v5 v7 x15 v9 T13 _ _ _ hP hD hS (lv_sub hl [1, 2, 3, 4, 5, 6, 7, 0, 8] rfl) hM
                        refine lv_aload_n hx hb dX3_split_233 rfl (lv_at hl 0 rfl) ?_
                        refine lv_aload_n hx hb dX3_split_234 rfl (lv_at hl 1 rfl) ?_
                        refine lv_aload_n hx hb dX3_split_235 rfl (lv_at hl 0 rfl) ?_
                        refine lv_aload_n hx hb dX3_split_236 rfl (lv_at hl 1 rfl) ?_
                        refine lv_iload_n hx hb dX3_split_237 rfl (lv_at hl 2 rfl) ?_
                        refine lv_iload hx hb dX3_split_238 (lv_at hl 6 rfl) ?_
                        refine lv_aload_n hx hb dX3_split_240 rfl (lv_at hl 0 rfl) ?_
                        refine va_get (D := D) (ci := 3) (v := .ref (ad 7)) (C := RX3) (T := TX3) (N := 20) hx hb hts inlX3 hown hK hP 0 rfl rfl 13 (by decide) (hts _ zw_4_2) (fun _ h9 => h9) rfl dX3_split_241 ?_
                        refine lv_iload hx hb dX3_split_244 (lv_at hl 8 rfl) ?_
                        obtain ⟨x16, q17, ex16, hM⟩ := zx_rdE hM
                        refine va_iald (D := D) hx hb hK hP 8 0 rfl rfl q17 dX3_split_246 ?_
                        refine zx_top ex16 ?_
                        refine lv_iload hx hb dX3_split_247 (lv_at hl 7 rfl) ?_
                        obtain ⟨x18, hz19, hM⟩ := zx_b1E hM
                        refine va_calli (va_runV (As := [.ref (ad w), .int v2, .int v7, .int x16, .int v8]) (rest := [.ref (ad w), .ref h]) ⟨hx, hb, hml, hown, hts⟩ (c_X3_goesFirst l D cI cZ cT h ad S_ _ N w hrw v2 v7 x16 v8  hz19) (cwV 5 hts (zg_V zw_12_5 zw_12_6 zw_12_7 zw_1_5 zw_12_8) rfl rfl rfl ⟨rfl, zyX3_goesFirst⟩ ⟨Nat.le_of_ble_eq_true rfl, Nat.le_of_ble_eq_true rfl⟩) ⟨bS_blind, va_recv hK hP (ci := 3) (q0 := 0) rfl rfl, bS_pre hP hK hD hN⟩ rfl rfl hl.1 rfl (lv_room (Nat.le_of_ble_eq_true rfl)) dX3_split_249 ⟨Nat.zero_le _, Nat.zero_le _⟩) hS (fun q h1 h2 => absurd h1 (Nat.not_lt.mpr h2)) (fun q h => hA q (Nat.le_trans hS.1 h)) (fun r u t H1 lc ht hvm hw hB hz1 hk1 hS => ?_)
                        replace hw : x18 = r := hw; subst hw
                        replace hP := zx_keep hP hk1
                        refine lv_if_eq (tgt := 259) hx hb dX3_split_252 (by decide) (fun q20 => ?_) (fun q20 => ?_)
                        · replace hM := zx_t q20 hM
                          refine lv_iload hx hb dX3_split_259 (lv_at hl 6 rfl) ?_
                          exact j261 v2 v3 v4 v5 v7 v8 v9 v7 S_ _ _ _ hP hD hS (lv_sub hl [0, 1, 2, 3, 4, 5, 6, 7, 8] rfl) hM
                        · replace hM := zx_f q20 hM
                          refine lv_iload_n hx hb dX3_split_255 rfl (lv_at hl 2 rfl) ?_
                          refine lv_goto (tgt := 261) hx hb dX3_split_256 (by decide) ?_
                          exact j261 v2 v3 v4 v5 v7 v8 v9 v2 S_ _ _ _ hP hD hS (lv_sub hl [0, 1, 2, 3, 4, 5, 6, 7, 8] rfl) hM
              refine lv_aload_n hx hb dX3_split_148 rfl (lv_at hl 1 rfl) ?_
              refine lv_iload_n hx hb dX3_split_149 rfl (lv_at hl 2 rfl) ?_
              obtain ⟨x21, hz22, hM⟩ := zx_b1E hM
              refine va_calli (va_runS (As := [.ref (ad w), .int v2]) (rest := []) ⟨hx, hb, hml, hown, hts⟩ (c_X3_levelOf l D cI cZ cT (ad w) 380 (S_ w) _ N v2 hz22) (va_cwS 2 hts (zg_S zw_9_9 zw_9_10 zw_1_5 zw_9_11) rfl rfl rfl zyX3_levelOf ⟨Nat.le_of_ble_eq_true rfl, Nat.le_of_ble_eq_true rfl⟩) ⟨bS_blind, bS_pre (zx_P1 hP (w + 1) ((xW3_aw hrw))) hK (zx_D1 hD (w + 1) ((xW3_aw hrw))) hN⟩ rfl rfl hl.1 rfl (lv_room (Nat.le_of_ble_eq_true rfl)) dX3_split_150 ⟨Nat.zero_le _, Nat.zero_le _⟩) hS (fun q h1 h2 => absurd h1 (Nat.not_lt.mpr h2)) (fun q h => hA q (Nat.le_trans hS.1 h)) (fun r u t H1 lc ht hvm hw hB hz1 hk1 hS => ?_)
              replace hw : x21 = r := hw; subst hw
              replace hP := zx_keep hP hk1
              refine lv_istore (lv' := [(6, .int x21), (0, .ref h), (1, .ref (ad w)), (2, .int v2), (3, .int v3), (4, .int v4), (5, .int v5)]) hx hb dX3_split_153 hl (by decide) rfl (fun ls hl => ?_)
              refine lv_aload_n hx hb dX3_split_155 rfl (lv_at hl 2 rfl) ?_
              refine lv_iload_n hx hb dX3_split_156 rfl (lv_at hl 3 rfl) ?_
              obtain ⟨g23, hz24, hM⟩ := zx_b1E hM
              refine va_callv (va_runS (As := [.ref (ad w), .int v2]) (rest := []) ⟨hx, hb, hml, hown, hts⟩ (c_X3_clearSlot l D cI cZ cT (ad w) 380 (S_ w) _ N v2 hz24) (va_cwS 2 hts (zg_S zw_11_19 zw_11_20 zw_1_5 zw_11_21) rfl rfl rfl zyX3_clearSlot ⟨Nat.le_of_ble_eq_true rfl, Nat.le_of_ble_eq_true rfl⟩) ⟨bS_blind, bS_pre (zx_P1 hP (w + 1) ((xW3_aw hrw))) hK (zx_D1 hD (w + 1) ((xW3_aw hrw))) hN⟩ rfl rfl hl.1 rfl (lv_room (Nat.le_of_ble_eq_true rfl)) dX3_split_157 ⟨Nat.zero_le _, Nat.zero_le _⟩) hS (fun q _ h => zx_f1 hD hS hA (k := (w + 1)) (xW3_aw hrw) q h) (fun q h => zx_f1 hD hS hA (k := (w + 1)) (xW3_aw hrw) q h) (fun u t H1 lc ht hvm hw hB hz1 hk1 hS => ?_)
              replace hw : g23 = u := hw; subst hw
              rw [ht] at hB
              replace hP := zx_set1 (k := (w + 1)) hP hD (xW3_aw hrw) hk1 hB
              replace hD := va_D.set (p := (w + 1)) (e := .inl (cI, 380, .inl g23)) hD (xW3_aw hrw)
              rw [xW3_paw hrw] at hP hD
              obtain ⟨T25, eT25, hM⟩ := zx_nE hM
              rw [← eT25] at hP hD
              refine lv_aload_n hx hb dX3_split_160 rfl (lv_at hl 2 rfl) ?_
              refine lv_iload_n hx hb dX3_split_161 rfl (lv_at hl 3 rfl) ?_
              obtain ⟨x26, hz27, hM⟩ := zx_b1E hM
              refine va_calli (va_runS (As := [.int v2]) (rest := [.ref (ad w)]) ⟨hx, hb, hml, hown, hts⟩ (c_X3_at l D cI cZ cT _ N v2 hz27) (va_cwS 1 hts (zg_S zw_9_6 zw_9_7 zw_1_5 zw_9_8) rfl rfl rfl zyX3_at ⟨Nat.le_of_ble_eq_true rfl, Nat.le_of_ble_eq_true rfl⟩) ⟨bS_blind, bS_pre (zx_P0 hP) hK (zx_D0 hD) hN⟩ rfl rfl hl.1 rfl (lv_room (Nat.le_of_ble_eq_true rfl)) dX3_split_162 ⟨Nat.zero_le _, Nat.zero_le _⟩) hS (fun q h1 h2 => absurd h1 (Nat.not_lt.mpr h2)) (fun q h => hA q (Nat.le_trans hS.1 h)) (fun r u t H1 lc ht hvm hw hB hz1 hk1 hS => ?_)
              replace hw : x26 = r := hw; subst hw
              replace hP := zx_keep hP hk1
              refine lv_iload hx hb dX3_split_165 (lv_at hl 0 rfl) ?_
              refine lv_iconst (v := 1) hx hb dX3_split_167 (by decide) ?_
              refine lv_iadd hx hb dX3_split_168 ?_
              obtain ⟨T28, q29, eT28, hM⟩ := zx_wrE hM
              refine va_iast (D := D) hx hb hK hP hD hS (w + 1) 0 (xW3_aw hrw) rfl q29 dX3_split_169 (fun H lc hP hD hS => ?_)
              rw [xW3_paw hrw] at hP hD
              rw [← eT28] at hP hD
              refine lv_aload_n hx hb dX3_split_170 rfl (lv_at hl 2 rfl) ?_
              refine lv_iload hx hb dX3_split_171 (lv_at hl 0 rfl) ?_
              obtain ⟨x30, g31, hz32, hM⟩ := zx_b2E hM
              refine va_calli (va_runS (As := [.ref (ad w), .int x21]) (rest := []) ⟨hx, hb, hml, hown, hts⟩ (c_X3_newSlot l D cI cZ cT (ad w) 380 (T28 w) _ N x21 hz32) (va_cwS 2 hts (zg_S zw_11_22 zw_11_23 zw_1_5 zw_12_0) rfl rfl rfl zyX3_newSlot ⟨Nat.le_of_ble_eq_true rfl, Nat.le_of_ble_eq_true rfl⟩) ⟨bS_blind, bS_pre (zx_P1 hP (w + 1) ((xW3_aw hrw))) hK (zx_D1 hD (w + 1) ((xW3_aw hrw))) hN⟩ rfl rfl hl.1 rfl (lv_room (Nat.le_of_ble_eq_true rfl)) dX3_split_173 ⟨Nat.zero_le _, Nat.zero_le _⟩) hS (fun q _ h => zx_f1 hD hS hA (k := (w + 1)) (xW3_aw hrw) q h) (fun q h => zx_f1 hD hS hA (k := (w + 1)) (xW3_aw hrw) q h) (fun r u t H1 lc ht hvm hw hB hz1 hk1 hS => ?_)
              obtain ⟨hw1, hw2⟩ := Prod.mk.inj hw; subst hw1; subst hw2
              rw [ht] at hB
              replace hP := zx_set1 (k := (w + 1)) hP hD (xW3_aw hrw) hk1 hB
              replace hD := va_D.set (p := (w + 1)) (e := .inl (cI, 380, .inl g31)) hD (xW3_aw hrw)
              rw [xW3_paw hrw] at hP hD
              obtain ⟨T33, eT33, hM⟩ := zx_nE hM
              rw [← eT33] at hP hD
              refine lv_istore (lv' := [(7, .int x30), (6, .int x21), (0, .ref h), (1, .ref (ad w)), (2, .int v2), (3, .int v3), (4, .int v4), (5, .int v5)]) hx hb dX3_split_176 hl (by decide) rfl (fun ls hl => ?_)
              refine lv_aload_n hx hb dX3_split_178 rfl (lv_at hl 2 rfl) ?_
              refine lv_aload_n hx hb dX3_split_179 rfl (lv_at hl 3 rfl) ?_
              refine lv_iload_n hx hb dX3_split_180 rfl (lv_at hl 4 rfl) ?_
              refine lv_aload_n hx hb dX3_split_181 rfl (lv_at hl 2 rfl) ?_
              refine va_get (D := D) (ci := 3) (v := .ref (ad 7)) (C := RX3) (T := TX3) (N := 20) hx hb hts inlX3 hown hK hP 0 rfl rfl 13 (by decide) (hts _ zw_4_2) (fun _ h9 => h9) rfl dX3_split_182 ?_
              refine lv_iload hx hb dX3_split_185 (lv_at hl 6 rfl) ?_
              obtain ⟨x34, q35, ex34, hM⟩ := zx_rdE hM
              refine va_iald (D := D) hx hb hK hP 8 0 rfl rfl q35 dX3_split_187 ?_
              refine zx_top ex34 ?_
              obtain ⟨T36, hz37, hM⟩ := zx_b1E hM
              refine va_callv (va_runV (As := [.ref (ad w), .int v2, .int x34]) (rest := []) ⟨hx, hb, hml, hown, hts⟩ (c_X3_take l D cI cZ cT h ad T33 _ N w hrw v2 x34  hz37) (cwV 3 hts (zg_V zw_12_1 zw_12_2 zw_12_3 zw_1_5 zw_12_4) rfl rfl rfl ⟨rfl, zyX3_take⟩ ⟨Nat.le_of_ble_eq_true rfl, Nat.le_of_ble_eq_true rfl⟩) ⟨bS_blind, va_recv hK hP (ci := 3) (q0 := 0) rfl rfl, bS_pre hP hK hD hN⟩ rfl rfl hl.1 rfl (lv_room (Nat.le_of_ble_eq_true rfl)) dX3_split_188 ⟨Nat.zero_le _, Nat.zero_le _⟩) hS (fun q _ h => zx_fW hD hS hA q h) (fun q h => zx_fW hD hS hA q h) (fun u t H1 lc ht hvm hw hB hz1 hk1 hS => ?_)
              replace hw : T36 = u := hw; subst hw
              rw [ht] at hB
              replace hP := hB
              replace hD := xW3_D T36 hD
              refine lv_aload_n hx hb dX3_split_191 rfl (lv_at hl 2 rfl) ?_
              refine lv_aload_n hx hb dX3_split_192 rfl (lv_at hl 3 rfl) ?_
              refine lv_iload hx hb dX3_split_193 (lv_at hl 0 rfl) ?_
              refine lv_aload_n hx hb dX3_split_195 rfl (lv_at hl 2 rfl) ?_
              refine va_get (D := D) (ci := 3) (v := .ref (ad 7)) (C := RX3) (T := TX3) (N := 20) hx hb hts inlX3 hown hK hP 0 rfl rfl 13 (by decide) (hts _ zw_4_2) (fun _ h9 => h9) rfl dX3_split_196 ?_
              refine lv_iload hx hb dX3_split_199 (lv_at hl 7 rfl) ?_
              obtain ⟨x38, q39, ex38, hM⟩ := zx_rdE hM
              refine va_iald (D := D) hx hb hK hP 8 0 rfl rfl q39 dX3_split_201 ?_
              refine zx_top ex38 ?_
              obtain ⟨T40, hz41, hM⟩ := zx_b1E hM
              refine va_callv (va_runV (As := [.ref (ad w), .int x30, .int x38]) (rest := []) ⟨hx, hb, hml, hown, hts⟩ (c_X3_take l D cI cZ cT h ad T36 _ N w hrw x30 x38  hz41) (cwV 3 hts (zg_V zw_12_1 zw_12_2 zw_12_3 zw_1_5 zw_12_4) rfl rfl rfl ⟨rfl, zyX3_take⟩ ⟨Nat.le_of_ble_eq_true rfl, Nat.le_of_ble_eq_true rfl⟩) ⟨bS_blind, va_recv hK hP (ci := 3) (q0 := 0) rfl rfl, bS_pre hP hK hD hN⟩ rfl rfl hl.1 rfl (lv_room (Nat.le_of_ble_eq_true rfl)) dX3_split_202 ⟨Nat.zero_le _, Nat.zero_le _⟩) hS (fun q _ h => zx_fW hD hS hA q h) (fun q h => zx_fW hD hS hA q h) (fun u t H1 lc ht hvm hw hB hz1 hk1 hS => ?_)
              replace hw : T40 = u := hw; subst hw
              rw [ht] at hB
              replace hP := hB
              replace hD := xW3_D T40 hD
              refine lv_iload_n hx hb dX3_split_205 rfl (lv_at hl 5 rfl) ?_
              refine lv_iconst (v := 2) hx hb dX3_split_206 (by decide) ?_
              refine lv_isub hx hb dX3_split_207 ?_
              obtain ⟨x42, ex42, hM⟩ := zx_nE hM
              refine zx_top ex42 ?_
              refine lv_istore (lv' := [(8, .int x42), (7, .int x30), (6, .int x21), (0, .ref h), (1, .ref (ad w)), (2, .int v2), (3, .int v3), (4, .int v4), (5, .int v5)]) hx hb dX3_split_208 hl (by decide) rfl (fun ls hl => ?_)
              refine lv_iconst (v := 0) hx hb dX3_split_210 (by decide) ?_
              refine lv_istore (lv' := [(9, .int 0), (8, .int x42), (7, .int x30), (6, .int x21), (0, .ref h), (1, .ref (ad w)), (2, .int v2), (3, .int v3), (4, .int v4), (5, .int v5)]) hx hb dX3_split_211 hl (by decide) rfl (fun ls hl => ?_)
              exact l213 N v2 v3 v4 v5 x30 x42 0 T40 _ _ _ hP hD hS (lv_sub hl [4, 5, 6, 7, 8, 9, 2, 1, 0] rfl) hM
            · replace hM := zx_f q2 hM
              have l56 : ∀ (n56 : Nat) (v2 : Int32) (v3 : Int32) (v4 : Int32) (v5 : Int32) (v6 : Int32) (v7 : Int32) (S_ : zx_S) (H : Heap) (lc : List Loc) (ls : Array Slot), va_P D vwCl (xW3 cI cZ h ad S_) H → va_D A (xW3 cI cZ h ad S_) → va_S A s.heap H lc → lv_has ls 10 [(0, .ref h), (1, .ref (ad w)), (2, .int v2), (3, .int v3), (4, .int v4), (5, .int v5), (6, .int v6), (7, .int v7)] → f_X3_split_l56 N w (f_X3_split_l44 N w  n44) n56 v2 v3 v4 v5 v6 v7 S_ = some R → W p l e (headSpec zsX3_split rmX3_split).room s m ([.ref h, .ref (ad w), .int p2] : List Value).toArray below meth c H lc 0 0 Q9 (F0 m 56 ls []) := by
                intro n56
                induction n56 with
                | zero =>
                  intro v2 v3 v4 v5 v6 v7 S_ H lc ls hP hD hS hl hM
                  rw [f_X3_split_l56] at hM; exact absurd hM (by intro h; cases h)
                | succ n56 ih56 =>
                  intro v2 v3 v4 v5 v6 v7 S_ H lc ls hP hD hS hl hM
                  rw [f_X3_split_l56] at hM
                  refine lv_iload hx hb dX3_split_56 (lv_at hl 7 rfl) ?_
                  refine lv_iload_n hx hb dX3_split_58 rfl (lv_at hl 3 rfl) ?_
                  refine lv_icmp_ge (tgt := 142) hx hb dX3_split_59 (by decide) (fun q43 => ?_) (fun q43 => ?_)
                  · replace hM := zx_t q43 hM
                    obtain ⟨x44, ex44, hM⟩ := zx_nE hM
                    refine lv_iinc (v := x44) (lv' := [(6, .int x44), (0, .ref h), (1, .ref (ad w)), (2, .int v2), (3, .int v3), (4, .int v4), (5, .int v5), (7, .int v7)]) hx hb dX3_split_142 hl (k := 6) rfl (by rw [ex44]; rfl) (by decide) rfl (fun ls hl => ?_)
                    refine lv_goto (tgt := 44) hx hb dX3_split_145 (by decide) ?_
                    exact ih44 v2 v3 v4 v5 x44 S_ _ _ _ hP hD hS (lv_sub hl [1, 2, 3, 4, 5, 6, 0] rfl) hM
                  · replace hM := zx_f q43 hM
                    have j106 : ∀ (v2 : Int32) (v3 : Int32) (v4 : Int32) (v5 : Int32) (v6 : Int32) (v7 : Int32) (t0 : Int32) (S_ : zx_S) (H : Heap) (lc : List Loc) (ls : Array Slot), va_P D vwCl (xW3 cI cZ h ad S_) H → va_D A (xW3 cI cZ h ad S_) → va_S A s.heap H lc → lv_has ls 10 [(0, .ref h), (1, .ref (ad w)), (2, .int v2), (3, .int v3), (4, .int v4), (5, .int v5), (6, .int v6), (7, .int v7)] → f_X3_split_j106 N w (f_X3_split_l44 N w  n44) (f_X3_split_l56 N w (f_X3_split_l44 N w  n44)  n56) v2 v3 v4 v5 v6 v7 t0 S_ = some R → W p l e (headSpec zsX3_split rmX3_split).room s m ([.ref h, .ref (ad w), .int p2] : List Value).toArray below meth c H lc 0 0 Q9 (F0 m 106 ls [.int t0]) := by
                      intro v2 v3 v4 v5 v6 v7 t0 S_ H lc ls hP hD hS hl hM
                      unfold f_X3_split_j106 at hM
                      have j120 : ∀ (v2 : Int32) (v3 : Int32) (v5 : Int32) (v6 : Int32) (v7 : Int32) (v8 : Int32) (t0 : Int32) (S_ : zx_S) (H : Heap) (lc : List Loc) (ls : Array Slot), va_P D vwCl (xW3 cI cZ h ad S_) H → va_D A (xW3 cI cZ h ad S_) → va_S A s.heap H lc → lv_has ls 10 [(0, .ref h), (1, .ref (ad w)), (2, .int v2), (3, .int v3), (5, .int v5), (6, .int v6), (7, .int v7), (8, .int v8)] → f_X3_split_j120 N w (f_X3_split_l44 N w  n44) (f_X3_split_l56 N w (f_X3_split_l44 N w  n44)  n56) v2 v3 v5 v6 v7 v8 t0 S_ = some R → W p l e (headSpec zsX3_split rmX3_split).room s m ([.ref h, .ref (ad w), .int p2] : List Value).toArray below meth c H lc 0 0 Q9 (F0 m 120 ls [.int t0]) := by
                        intro v2 v3 v5 v6 v7 v8 t0 S_ H lc ls hP hD hS hl hM
                        unfold f_X3_split_j120 at hM
                        have j134 : ∀ (v2 : Int32) (v3 : Int32) (v4 : Int32) (v6 : Int32) (v7 : Int32) (t0 : Int32) (S_ : zx_S) (H : Heap) (lc : List Loc) (ls : Array Slot), va_P D vwCl (xW3 cI cZ h ad S_) H → va_D A (xW3 cI cZ h ad S_) → va_S A s.heap H lc → lv_has ls 10 [(0, .ref h), (1, .ref (ad w)), (2, .int v2), (3, .int v3), (4, .int v4), (6, .int v6), (7, .int v7)] → f_X3_split_j134 N w (f_X3_split_l44 N w  n44) (f_X3_split_l56 N w (f_X3_split_l44 N w  n44)  n56) v2 v3 v4 v6 v7 t0 S_ = some R → W p l e (headSpec zsX3_split rmX3_split).room s m ([.ref h, .ref (ad w), .int p2] : List Value).toArray below meth c H lc 0 0 Q9 (F0 m 134 ls [.int t0]) := by
                          intro v2 v3 v4 v6 v7 t0 S_ H lc ls hP hD hS hl hM
                          unfold f_X3_split_j134 at hM
                          refine lv_istore (lv' := [(5, .int t0), (0, .ref h), (1, .ref (ad w)), (2, .int v2), (3, .int v3), (4, .int v4), (6, .int v6), (7, .int v7)]) hx hb dX3_split_134 hl (by decide) rfl (fun ls hl => ?_)
                          obtain ⟨x45, ex45, hM⟩ := zx_nE hM
                          refine lv_iinc (v := x45) (lv' := [(7, .int x45), (5, .int t0), (0, .ref h), (1, .ref (ad w)), (2, .int v2), (3, .int v3), (4, .int v4), (6, .int v6)]) hx hb dX3_split_136 hl (k := 7) rfl (by rw [ex45]; rfl) (by decide) rfl (fun ls hl => ?_)
                          refine lv_goto (tgt := 56) hx hb dX3_split_139 (by decide) ?_
                          exact ih56 v2 v3 v4 t0 v6 x45 S_ _ _ _ hP hD hS (lv_sub hl [2, 3, 4, 5, 6, 1, 7, 0] rfl) hM
                        refine lv_istore (lv' := [(4, .int t0), (0, .ref h), (1, .ref (ad w)), (2, .int v2), (3, .int v3), (5, .int v5), (6, .int v6), (7, .int v7), (8, .int v8)]) hx hb dX3_split_120 hl (by decide) rfl (fun ls hl => ?_)
                        refine lv_iload hx hb dX3_split_122 (lv_at hl 8 rfl) ?_
                        refine lv_if_eq (tgt := 132) hx hb dX3_split_124 (by decide) (fun q46 => ?_) (fun q46 => ?_)
                        · replace hM := zx_t q46 hM
                          refine lv_iload hx hb dX3_split_132 (lv_at hl 5 rfl) ?_
                          exact j134 v2 v3 t0 v6 v7 v5 S_ _ _ _ hP hD hS (lv_sub hl [1, 2, 3, 4, 0, 6, 7] rfl) hM
                        · replace hM := zx_f q46 hM
                          refine lv_iload hx hb dX3_split_127 (lv_at hl 7 rfl) ?_
                          refine lv_goto (tgt := 134) hx hb dX3_split_129 (by decide) ?_
                          exact j134 v2 v3 t0 v6 v7 v7 S_ _ _ _ hP hD hS (lv_sub hl [1, 2, 3, 4, 0, 6, 7] rfl) hM
                      refine lv_istore (lv' := [(8, .int t0), (0, .ref h), (1, .ref (ad w)), (2, .int v2), (3, .int v3), (4, .int v4), (5, .int v5), (6, .int v6), (7, .int v7)]) hx hb dX3_split_106 hl (by decide) rfl (fun ls hl => ?_)
                      refine lv_iload hx hb dX3_split_108 (lv_at hl 0 rfl) ?_
                      refine lv_if_eq (tgt := 118) hx hb dX3_split_110 (by decide) (fun q47 => ?_) (fun q47 => ?_)
                      · replace hM := zx_t q47 hM
                        refine lv_iload hx hb dX3_split_118 (lv_at hl 5 rfl) ?_
                        exact j120 v2 v3 v5 v6 v7 t0 v4 S_ _ _ _ hP hD hS (lv_sub hl [1, 2, 3, 4, 6, 7, 8, 0] rfl) hM
                      · replace hM := zx_f q47 hM
                        refine lv_iload hx hb dX3_split_113 (lv_at hl 7 rfl) ?_
                        refine lv_goto (tgt := 120) hx hb dX3_split_115 (by decide) ?_
                        exact j120 v2 v3 v5 v6 v7 t0 v6 S_ _ _ _ hP hD hS (lv_sub hl [1, 2, 3, 4, 6, 7, 8, 0] rfl) hM
                    refine lv_aload_n hx hb dX3_split_62 rfl (lv_at hl 0 rfl) ?_
                    refine lv_aload_n hx hb dX3_split_63 rfl (lv_at hl 0 rfl) ?_
                    refine va_get (D := D) (ci := 3) (v := .ref (ad 7)) (C := RX3) (T := TX3) (N := 20) hx hb hts inlX3 hown hK hP 0 rfl rfl 13 (by decide) (hts _ zw_4_2) (fun _ h9 => h9) rfl dX3_split_64 ?_
                    refine lv_iload hx hb dX3_split_67 (lv_at hl 6 rfl) ?_
                    obtain ⟨x48, q49, ex48, hM⟩ := zx_rdE hM
                    refine va_iald (D := D) hx hb hK hP 8 0 rfl rfl q49 dX3_split_69 ?_
                    refine zx_top ex48 ?_
                    refine lv_aload_n hx hb dX3_split_70 rfl (lv_at hl 0 rfl) ?_
                    refine va_get (D := D) (ci := 3) (v := .ref (ad 7)) (C := RX3) (T := TX3) (N := 20) hx hb hts inlX3 hown hK hP 0 rfl rfl 13 (by decide) (hts _ zw_4_2) (fun _ h9 => h9) rfl dX3_split_71 ?_
                    refine lv_iload hx hb dX3_split_74 (lv_at hl 7 rfl) ?_
                    obtain ⟨x50, q51, ex50, hM⟩ := zx_rdE hM
                    refine va_iald (D := D) hx hb hK hP 8 0 rfl rfl q51 dX3_split_76 ?_
                    refine zx_top ex50 ?_
                    obtain ⟨x52, hz53, hM⟩ := zx_b1E hM
                    refine va_calli (va_runV (As := [.int x48, .int x50]) (rest := []) ⟨hx, hb, hml, hown, hts⟩ (c_X3_waste l D cI cZ cT h ad S_ _ N x48 x50  hz53) (cwV 2 hts (zg_V zw_11_15 zw_11_16 zw_11_17 zw_1_5 zw_11_18) rfl rfl rfl ⟨rfl, zyX3_waste⟩ ⟨Nat.le_of_ble_eq_true rfl, Nat.le_of_ble_eq_true rfl⟩) ⟨bS_blind, va_recv hK hP (ci := 3) (q0 := 0) rfl rfl, bS_pre hP hK hD hN⟩ rfl rfl hl.1 rfl (lv_room (Nat.le_of_ble_eq_true rfl)) dX3_split_77 ⟨Nat.zero_le _, Nat.zero_le _⟩) hS (fun q h1 h2 => absurd h1 (Nat.not_lt.mpr h2)) (fun q h => hA q (Nat.le_trans hS.1 h)) (fun r u t H1 lc ht hvm hw hB hz1 hk1 hS => ?_)
                    replace hw : x52 = r := hw; subst hw
                    replace hP := zx_keep hP hk1
                    refine lv_aload_n hx hb dX3_split_80 rfl (lv_at hl 0 rfl) ?_
                    refine lv_aload_n hx hb dX3_split_81 rfl (lv_at hl 0 rfl) ?_
                    refine va_get (D := D) (ci := 3) (v := .ref (ad 7)) (C := RX3) (T := TX3) (N := 20) hx hb hts inlX3 hown hK hP 0 rfl rfl 13 (by decide) (hts _ zw_4_2) (fun _ h9 => h9) rfl dX3_split_82 ?_
                    refine lv_iload hx hb dX3_split_85 (lv_at hl 4 rfl) ?_
                    obtain ⟨x54, q55, ex54, hM⟩ := zx_rdE hM
                    refine va_iald (D := D) hx hb hK hP 8 0 rfl rfl q55 dX3_split_87 ?_
                    refine zx_top ex54 ?_
                    refine lv_aload_n hx hb dX3_split_88 rfl (lv_at hl 0 rfl) ?_
                    refine va_get (D := D) (ci := 3) (v := .ref (ad 7)) (C := RX3) (T := TX3) (N := 20) hx hb hts inlX3 hown hK hP 0 rfl rfl 13 (by decide) (hts _ zw_4_2) (fun _ h9 => h9) rfl dX3_split_89 ?_
                    refine lv_iload hx hb dX3_split_92 (lv_at hl 5 rfl) ?_
                    obtain ⟨x56, q57, ex56, hM⟩ := zx_rdE hM
                    refine va_iald (D := D) hx hb hK hP 8 0 rfl rfl q57 dX3_split_94 ?_
                    refine zx_top ex56 ?_
                    obtain ⟨x58, hz59, hM⟩ := zx_b1E hM
                    refine va_calli (va_runV (As := [.int x54, .int x56]) (rest := [.int x52]) ⟨hx, hb, hml, hown, hts⟩ (c_X3_waste l D cI cZ cT h ad S_ _ N x54 x56  hz59) (cwV 2 hts (zg_V zw_11_15 zw_11_16 zw_11_17 zw_1_5 zw_11_18) rfl rfl rfl ⟨rfl, zyX3_waste⟩ ⟨Nat.le_of_ble_eq_true rfl, Nat.le_of_ble_eq_true rfl⟩) ⟨bS_blind, va_recv hK hP (ci := 3) (q0 := 0) rfl rfl, bS_pre hP hK hD hN⟩ rfl rfl hl.1 rfl (lv_room (Nat.le_of_ble_eq_true rfl)) dX3_split_95 ⟨Nat.zero_le _, Nat.zero_le _⟩) hS (fun q h1 h2 => absurd h1 (Nat.not_lt.mpr h2)) (fun q h => hA q (Nat.le_trans hS.1 h)) (fun r u t H1 lc ht hvm hw hB hz1 hk1 hS => ?_)
                    replace hw : x58 = r := hw; subst hw
                    replace hP := zx_keep hP hk1
                    refine lv_icmp_le (tgt := 105) hx hb dX3_split_98 (by decide) (fun q60 => ?_) (fun q60 => ?_)
                    · replace hM := zx_t q60 hM
                      refine lv_iconst (v := 0) hx hb dX3_split_105 (by decide) ?_
                      exact j106 v2 v3 v4 v5 v6 v7 0 S_ _ _ _ hP hD hS (lv_sub hl [0, 1, 2, 3, 4, 5, 6, 7] rfl) hM
                    · replace hM := zx_f q60 hM
                      refine lv_iconst (v := 1) hx hb dX3_split_101 (by decide) ?_
                      refine lv_goto (tgt := 106) hx hb dX3_split_102 (by decide) ?_
                      exact j106 v2 v3 v4 v5 v6 v7 1 S_ _ _ _ hP hD hS (lv_sub hl [0, 1, 2, 3, 4, 5, 6, 7] rfl) hM
              refine lv_iload hx hb dX3_split_50 (lv_at hl 6 rfl) ?_
              refine lv_iconst (v := 1) hx hb dX3_split_52 (by decide) ?_
              refine lv_iadd hx hb dX3_split_53 ?_
              obtain ⟨x61, ex61, hM⟩ := zx_nE hM
              refine zx_top ex61 ?_
              refine lv_istore (lv' := [(7, .int x61), (0, .ref h), (1, .ref (ad w)), (2, .int v2), (3, .int v3), (4, .int v4), (5, .int v5), (6, .int v6)]) hx hb dX3_split_54 hl (by decide) rfl (fun ls hl => ?_)
              exact l56 N v2 v3 v4 v5 v6 x61 S_ _ _ _ hP hD hS (lv_sub hl [1, 2, 3, 4, 5, 6, 7, 0] rfl) hM
        refine lv_iconst (v := 0) hx hb dX3_split_41 (by decide) ?_
        refine lv_istore (lv' := [(6, .int 0), (0, .ref h), (1, .ref (ad w)), (2, .int v2), (3, .int v3), (4, .int v4), (5, .int v5)]) hx hb dX3_split_42 hl (by decide) rfl (fun ls hl => ?_)
        exact l44 N v2 v3 v4 v5 0 S_ _ _ _ hP hD hS (lv_sub hl [1, 2, 3, 4, 5, 6, 0] rfl) hM
      · replace hM := zx_f q1 hM
        refine lv_aload_n hx hb dX3_split_21 rfl (lv_at hl 0 rfl) ?_
        refine va_get (D := D) (ci := 3) (v := .ref (ad 7)) (C := RX3) (T := TX3) (N := 20) hx hb hts inlX3 hown hK hP 0 rfl rfl 13 (by decide) (hts _ zw_4_2) (fun _ h9 => h9) rfl dX3_split_22 ?_
        refine lv_iload hx hb dX3_split_25 (lv_at hl 6 rfl) ?_
        refine lv_aload_n hx hb dX3_split_27 rfl (lv_at hl 1 rfl) ?_
        refine lv_iload_n hx hb dX3_split_28 rfl (lv_at hl 2 rfl) ?_
        refine lv_iload hx hb dX3_split_29 (lv_at hl 6 rfl) ?_
        obtain ⟨x62, hz63, hM⟩ := zx_b1E hM
        refine va_calli (va_runS (As := [.ref (ad w), .int v2, .int v6]) (rest := [.int v6, .ref (ad 7)]) ⟨hx, hb, hml, hown, hts⟩ (c_X3_entryOf l D cI cZ cT (ad w) 380 (S_ w) _ N v2 v6 hz63) (va_cwS 3 hts (zg_S zw_9_12 zw_9_13 zw_1_5 zw_9_14) rfl rfl rfl zyX3_entryOf ⟨Nat.le_of_ble_eq_true rfl, Nat.le_of_ble_eq_true rfl⟩) ⟨bS_blind, bS_pre (zx_P1 hP (w + 1) ((xW3_aw hrw))) hK (zx_D1 hD (w + 1) ((xW3_aw hrw))) hN⟩ rfl rfl hl.1 rfl (lv_room (Nat.le_of_ble_eq_true rfl)) dX3_split_31 ⟨Nat.zero_le _, Nat.zero_le _⟩) hS (fun q h1 h2 => absurd h1 (Nat.not_lt.mpr h2)) (fun q h => hA q (Nat.le_trans hS.1 h)) (fun r u t H1 lc ht hvm hw hB hz1 hk1 hS => ?_)
        replace hw : x62 = r := hw; subst hw
        replace hP := zx_keep hP hk1
        obtain ⟨T64, q65, eT64, hM⟩ := zx_wrE hM
        refine va_iast (D := D) hx hb hK hP hD hS 8 0 rfl rfl q65 dX3_split_34 (fun H lc hP hD hS => ?_)
        rw [xW3_pa7] at hP hD
        rw [← eT64] at hP hD
        obtain ⟨x66, ex66, hM⟩ := zx_nE hM
        refine lv_iinc (v := x66) (lv' := [(6, .int x66), (0, .ref h), (1, .ref (ad w)), (2, .int v2), (3, .int v3), (4, .int v4), (5, .int v5)]) hx hb dX3_split_35 hl (k := 6) rfl (by rw [ex66]; rfl) (by decide) rfl (fun ls hl => ?_)
        refine lv_goto (tgt := 15) hx hb dX3_split_38 (by decide) ?_
        exact ih15 v2 v3 v4 v5 x66 T64 _ _ _ hP hD hS (lv_sub hl [1, 2, 3, 4, 5, 6, 0] rfl) hM
  refine lv_aload_n hx hb dX3_split_0 rfl (lv_at hl 1 rfl) ?_
  refine lv_iload_n hx hb dX3_split_1 rfl (lv_at hl 2 rfl) ?_
  obtain ⟨x67, hz68, hM⟩ := zx_b1E hM
  refine va_calli (va_runS (As := [.ref (ad w), .int p2]) (rest := []) ⟨hx, hb, hml, hown, hts⟩ (c_X3_many l D cI cZ cT (ad w) 380 (S w) _ N p2 hz68) (va_cwS 2 hts (zg_S zw_9_3 zw_9_4 zw_1_5 zw_9_5) rfl rfl rfl zyX3_many ⟨Nat.le_of_ble_eq_true rfl, Nat.le_of_ble_eq_true rfl⟩) ⟨bS_blind, bS_pre (zx_P1 hP (w + 1) ((xW3_aw hrw))) hK (zx_D1 hD (w + 1) ((xW3_aw hrw))) hN⟩ rfl rfl hl.1 rfl (lv_room (Nat.le_of_ble_eq_true rfl)) dX3_split_2 ⟨Nat.zero_le _, Nat.zero_le _⟩) hS (fun q h1 h2 => absurd h1 (Nat.not_lt.mpr h2)) (fun q h => hA q (Nat.le_trans hS.1 h)) (fun r u t H1 lc ht hvm hw hB hz1 hk1 hS => ?_)
  replace hw : x67 = r := hw; subst hw
  replace hP := zx_keep hP hk1
  refine lv_istore_n (lv' := [(3, .int x67), (0, .ref h), (1, .ref (ad w)), (2, .int p2)]) hx hb dX3_split_5 rfl hl (by decide) rfl (fun ls hl => ?_)
  refine lv_iconst (v := 0) hx hb dX3_split_6 (by decide) ?_
  refine lv_istore (lv' := [(4, .int 0), (3, .int x67), (0, .ref h), (1, .ref (ad w)), (2, .int p2)]) hx hb dX3_split_7 hl (by decide) rfl (fun ls hl => ?_)
  refine lv_iconst (v := 1) hx hb dX3_split_9 (by decide) ?_
  refine lv_istore (lv' := [(5, .int 1), (4, .int 0), (3, .int x67), (0, .ref h), (1, .ref (ad w)), (2, .int p2)]) hx hb dX3_split_10 hl (by decide) rfl (fun ls hl => ?_)
  refine lv_iconst (v := 0) hx hb dX3_split_12 (by decide) ?_
  refine lv_istore (lv' := [(6, .int 0), (5, .int 1), (4, .int 0), (3, .int x67), (0, .ref h), (1, .ref (ad w)), (2, .int p2)]) hx hb dX3_split_13 hl (by decide) rfl (fun ls hl => ?_)
  exact l15 N p2 x67 0 1 0 S _ _ _ hP hD hS (lv_sub hl [4, 5, 6, 3, 2, 1, 0] rfl) hM

/-! ShallowBoxesModel.treat([II)V -/
def f_X3_treat_l114 (N : Nat) (w : Nat) (k2 : Int32 → zx_S → Option (zx_S)) : Nat → Int32 → Int32 → Int32 → Int32 → zx_S → Option (zx_S)
  | 0, _, _, _, _, _ => none
  | n114 + 1, v3, v4, v5, v6, S_ => (zx_b1 (f_X3_entryOf N 380 v4 v6 (S_ w)) (fun x5 =>
(if x5 = (24 + v3) then
  (zx_b1 (f_X3_insert N 380 v4 (v6 + 1) (24 + v5) (S_ w)) (fun g8 =>
(zx_n (zx_st S_ w g8) (fun T10 =>
k2 v4 T10)))) else
  (zx_n (v6 + 1) (fun x11 =>
f_X3_treat_l114 N w k2  n114 v3 v4 v5 x11 S_)))))
def f_X3_treat_j111 (N : Nat) (w : Nat) (k2 : Int32 → zx_S → Option (zx_S)) (v3 : Int32) (v4 : Int32) (v5 : Int32) (S_ : zx_S) : Option (zx_S) :=
  f_X3_treat_l114 N w k2 N v3 v4 v5 0 S_
def f_X3_treat_j56 (N : Nat) (w : Nat) (k2 : Int32 → zx_S → Option (zx_S)) (v3 : Int32) (S_ : zx_S) : Option (zx_S) :=
  (zx_b1 (f_X3_nodeWith N 380 (24 + v3) (S_ w)) (fun x12 =>
(zx_b2 (f_X3_split N w v3 S_) (fun x14 T15 =>
(if x12 = (-1) then
  (zx_b1 (f_X3_levelOf N 380 v3 (T15 w)) (fun x18 =>
(zx_b2 (f_X3_newSlot N 380 (x18 + 1) (T15 w)) (fun x20 g21 =>
(zx_n (zx_st T15 w g21) (fun T23 =>
(zx_b1 (f_X3_insert N 380 x20 0 (24 + v3) (T23 w)) (fun g24 =>
(zx_n (zx_st T23 w g24) (fun T26 =>
(zx_wr 380 376 (zx_st T26 w (upd (T26 w) (Int32.toNatClampNeg 376) x20)) (fun T27 =>
f_X3_treat_j111 N w k2 v3 x20 x14 T27)))))))))))) else
  f_X3_treat_j111 N w k2 v3 x12 x14 T15)))))
def f_X3_treat_l2 (N : Nat) (w : Nat) : Nat → Int32 → zx_S → Option (zx_S)
  | 0, _, _ => none
  | n2 + 1, v3, S_ => (if v3 = (-1) then
  some S_ else
  (zx_b1 (f_X3_many N 380 v3 (S_ w)) (fun x2 =>
(if x2 ≤ 4 then
  some S_ else
  (zx_b1 (f_X3_layBoxes N w S_) (fun T29 =>
(zx_rd 380 (T29 w) 376 (fun x31 =>
(if v3 = x31 then
  f_X3_treat_j56 N w (f_X3_treat_l2 N w  n2) v3 T29 else
  (zx_b1 (f_X3_levelOf N 380 v3 (T29 w)) (fun x34 =>
(if (((T29 12 3) >>> (x34 &&& 31)) &&& 1) = 0 then
  (zx_b1 (f_X3_throwOut N w v3 T29) (fun T37 =>
f_X3_treat_l2 N w  n2 (-1) T37)) else
  f_X3_treat_j56 N w (f_X3_treat_l2 N w  n2) v3 T29))))))))))))
def f_X3_treat (N : Nat) (w : Nat) (p2 : Int32) (S : zx_S) : Option (zx_S) :=
  f_X3_treat_l2 N w  N p2 S
abbrev rmX3_treat : Room := { frames := 5, cells := 0, slots := 0, locals := 118 }
abbrev zsX3_treat : List Cond := .code yX3_treat cX3_treat 7 none :: wsL_law
theorem zyX3_treat : yX3_treat.cls ≠ "java/lang/invoke/MethodHandle" ∧ yX3_treat.cls ≠ "java/lang/invoke/VarHandle" ∧ (parseMethodDescriptor yX3_treat.desc).map (fun d => d.parameters.length) = some 2 := by decide +kernel
set_option maxHeartbeats 4000000 in
set_option maxRecDepth 100000 in
theorem c_X3_treat (l : Launch) (D : va_G) (cI cZ cT : ClassId) (h : Nat) (ad : Nat → Nat) (S : zx_S) (sz : Nat) (N : Nat) (w : Nat) (hrw : w = 1 ∨ w = 2) (p2 : Int32) {R : zx_S} (hM : f_X3_treat N w p2 S = some R) : Met l yX3_treat zsX3_treat rmX3_treat (va_Pc [.ref h, .ref (ad w), .int p2] (bS D (zx_ty cI cZ cT) (xW3 cI cZ h ad S) sz)) (va_Qv (fun u => R = u) (fun u t => va_P D vwCl (xW3 cI cZ h ad u) t.heap) (va_A (xW3 cI cZ h ad S) sz)) 0 0 (va_A (xW3 cI cZ h ad S) sz) := by
  refine Met.ofW (cc := cX3_treat) (maxL := 7) (ret := none) (by decide) rfl ?_
  intro p e s m args below meth c s₁ B hml hv
  obtain ⟨rfl, hsz, hP, hK, hD0, hN⟩ := hv
  have hx := B.exec
  have hb := B.bytes
  have hr := B.returns
  have hts : ∀ w ∈ wsL_law, w.before _ s = true := fun w hw => atoms_spec (ws := zsX3_treat) B.pre w (List.mem_cons_of_mem _ hw)
  have hown : s.vm.findClass RX3 = some m.cls := findClass_of_methodNamed B.named
  have hlocks := B.notSynchronized
  subst hsz
  have hD := hD0.self (sz := s.heap.size)
  generalize hAe : va_A (xW3 cI cZ h ad S) s.heap.size = A at hD ⊢
  have hA : ∀ q : Nat, s.heap.size ≤ q → A q := fun q h => by rw [← hAe]; exact Or.inr h
  have hS : va_S A s.heap s.heap [] := va_S.rf
  have hl := lv_entry ([.ref h, .ref (ad w), .int p2]) (n := 7) (Nat.le_of_ble_eq_true rfl)
  rw [lg_entry_eq]
  generalize (lg_sl ([.ref h, .ref (ad w), .int p2]) ++ List.replicate (7 - (lg_sl ([.ref h, .ref (ad w), .int p2])).length) Slot.unset).toArray = ls at hl ⊢
  have hl : lv_has ls 7 [(0, .ref h), (1, .ref (ad w)), (2, .int p2)] := hl
  generalize hQ : MQ below (va_Qv (fun u => R = u) (fun u t => va_P D vwCl (xW3 cI cZ h ad u) t.heap) A) ([.ref h, .ref (ad w), .int p2] : List Value).toArray s 0 0 A = Q9
  replace hQ := hQ.symm
  unfold f_X3_treat at hM
  have l2 : ∀ (n2 : Nat) (v3 : Int32) (S_ : zx_S) (H : Heap) (lc : List Loc) (ls : Array Slot), va_P D vwCl (xW3 cI cZ h ad S_) H → va_D A (xW3 cI cZ h ad S_) → va_S A s.heap H lc → lv_has ls 7 [(0, .ref h), (1, .ref (ad w)), (3, .int v3)] → f_X3_treat_l2 N w n2 v3 S_ = some R → W p l e (headSpec zsX3_treat rmX3_treat).room s m ([.ref h, .ref (ad w), .int p2] : List Value).toArray below meth c H lc 0 0 Q9 (F0 m 2 ls []) := by
    intro n2
    induction n2 with
    | zero =>
      intro v3 S_ H lc ls hP hD hS hl hM
      rw [f_X3_treat_l2] at hM; exact absurd hM (by intro h; cases h)
    | succ n2 ih2 =>
      intro v3 S_ H lc ls hP hD hS hl hM
      rw [f_X3_treat_l2] at hM
      refine lv_iload_n hx hb dX3_treat_2 rfl (lv_at hl 2 rfl) ?_
      refine lv_iconst (v := (-1)) hx hb dX3_treat_3 (by decide) ?_
      refine lv_icmp_eq (tgt := 156) hx hb dX3_treat_4 (by decide) (fun q1 => ?_) (fun q1 => ?_)
      · replace hM := zx_t q1 hM
        rw [hQ]
        exact W.vret hx hb hr (fun t ht hW => ⟨⟨S_, rfl, (Option.some.inj hM).symm, by show va_P D vwCl _ t.heap; rw [ht]; exact hP⟩, hS.F ht⟩) hS.2.2 dX3_treat_156
      · replace hM := zx_f q1 hM
        refine lv_aload_n hx hb dX3_treat_7 rfl (lv_at hl 1 rfl) ?_
        refine lv_iload_n hx hb dX3_treat_8 rfl (lv_at hl 2 rfl) ?_
        obtain ⟨x2, hz3, hM⟩ := zx_b1E hM
        refine va_calli (va_runS (As := [.ref (ad w), .int v3]) (rest := []) ⟨hx, hb, hml, hown, hts⟩ (c_X3_many l D cI cZ cT (ad w) 380 (S_ w) _ N v3 hz3) (va_cwS 2 hts (zg_S zw_9_3 zw_9_4 zw_1_5 zw_9_5) rfl rfl rfl zyX3_many ⟨Nat.le_of_ble_eq_true rfl, Nat.le_of_ble_eq_true rfl⟩) ⟨bS_blind, bS_pre (zx_P1 hP (w + 1) ((xW3_aw hrw))) hK (zx_D1 hD (w + 1) ((xW3_aw hrw))) hN⟩ rfl rfl hl.1 rfl (lv_room (Nat.le_of_ble_eq_true rfl)) dX3_treat_9 ⟨Nat.zero_le _, Nat.zero_le _⟩) hS (fun q h1 h2 => absurd h1 (Nat.not_lt.mpr h2)) (fun q h => hA q (Nat.le_trans hS.1 h)) (fun r u t H1 lc ht hvm hw hB hz1 hk1 hS => ?_)
        replace hw : x2 = r := hw; subst hw
        replace hP := zx_keep hP hk1
        refine lv_iconst (v := 4) hx hb dX3_treat_12 (by decide) ?_
        refine lv_icmp_le (tgt := 156) hx hb dX3_treat_13 (by decide) (fun q4 => ?_) (fun q4 => ?_)
        · replace hM := zx_t q4 hM
          rw [hQ]
          exact W.vret hx hb hr (fun t ht hW => ⟨⟨S_, rfl, (Option.some.inj hM).symm, by show va_P D vwCl _ t.heap; rw [ht]; exact hP⟩, hS.F ht⟩) hS.2.2 dX3_treat_156
        · replace hM := zx_f q4 hM
          have j56 : ∀ (v3 : Int32) (S_ : zx_S) (H : Heap) (lc : List Loc) (ls : Array Slot), va_P D vwCl (xW3 cI cZ h ad S_) H → va_D A (xW3 cI cZ h ad S_) → va_S A s.heap H lc → lv_has ls 7 [(0, .ref h), (1, .ref (ad w)), (3, .int v3)] → f_X3_treat_j56 N w (f_X3_treat_l2 N w  n2) v3 S_ = some R → W p l e (headSpec zsX3_treat rmX3_treat).room s m ([.ref h, .ref (ad w), .int p2] : List Value).toArray below meth c H lc 0 0 Q9 (F0 m 56 ls []) := by
            intro v3 S_ H lc ls hP hD hS hl hM
            unfold f_X3_treat_j56 at hM
            have j111 : ∀ (v3 : Int32) (v4 : Int32) (v5 : Int32) (S_ : zx_S) (H : Heap) (lc : List Loc) (ls : Array Slot), va_P D vwCl (xW3 cI cZ h ad S_) H → va_D A (xW3 cI cZ h ad S_) → va_S A s.heap H lc → lv_has ls 7 [(0, .ref h), (1, .ref (ad w)), (3, .int v3), (4, .int v4), (5, .int v5)] → f_X3_treat_j111 N w (f_X3_treat_l2 N w  n2) v3 v4 v5 S_ = some R → W p l e (headSpec zsX3_treat rmX3_treat).room s m ([.ref h, .ref (ad w), .int p2] : List Value).toArray below meth c H lc 0 0 Q9 (F0 m 111 ls []) := by
              intro v3 v4 v5 S_ H lc ls hP hD hS hl hM
              unfold f_X3_treat_j111 at hM
              have l114 : ∀ (n114 : Nat) (v3 : Int32) (v4 : Int32) (v5 : Int32) (v6 : Int32) (S_ : zx_S) (H : Heap) (lc : List Loc) (ls : Array Slot), va_P D vwCl (xW3 cI cZ h ad S_) H → va_D A (xW3 cI cZ h ad S_) → va_S A s.heap H lc → lv_has ls 7 [(0, .ref h), (1, .ref (ad w)), (3, .int v3), (4, .int v4), (5, .int v5), (6, .int v6)] → f_X3_treat_l114 N w (f_X3_treat_l2 N w  n2) n114 v3 v4 v5 v6 S_ = some R → W p l e (headSpec zsX3_treat rmX3_treat).room s m ([.ref h, .ref (ad w), .int p2] : List Value).toArray below meth c H lc 0 0 Q9 (F0 m 114 ls []) := by
                intro n114
                induction n114 with
                | zero =>
                  intro v3 v4 v5 v6 S_ H lc ls hP hD hS hl hM
                  rw [f_X3_treat_l114] at hM; exact absurd hM (by intro h; cases h)
                | succ n114 ih114 =>
                  intro v3 v4 v5 v6 S_ H lc ls hP hD hS hl hM
                  rw [f_X3_treat_l114] at hM
                  refine lv_aload_n hx hb dX3_treat_114 rfl (lv_at hl 1 rfl) ?_
                  refine lv_iload hx hb dX3_treat_115 (lv_at hl 3 rfl) ?_
                  refine lv_iload hx hb dX3_treat_117 (lv_at hl 5 rfl) ?_
                  obtain ⟨x5, hz6, hM⟩ := zx_b1E hM
                  refine va_calli (va_runS (As := [.ref (ad w), .int v4, .int v6]) (rest := []) ⟨hx, hb, hml, hown, hts⟩ (c_X3_entryOf l D cI cZ cT (ad w) 380 (S_ w) _ N v4 v6 hz6) (va_cwS 3 hts (zg_S zw_9_12 zw_9_13 zw_1_5 zw_9_14) rfl rfl rfl zyX3_entryOf ⟨Nat.le_of_ble_eq_true rfl, Nat.le_of_ble_eq_true rfl⟩) ⟨bS_blind, bS_pre (zx_P1 hP (w + 1) ((xW3_aw hrw))) hK (zx_D1 hD (w + 1) ((xW3_aw hrw))) hN⟩ rfl rfl hl.1 rfl (lv_room (Nat.le_of_ble_eq_true rfl)) dX3_treat_119 ⟨Nat.zero_le _, Nat.zero_le _⟩) hS (fun q h1 h2 => absurd h1 (Nat.not_lt.mpr h2)) (fun q h => hA q (Nat.le_trans hS.1 h)) (fun r u t H1 lc ht hvm hw hB hz1 hk1 hS => ?_)
                  replace hw : x5 = r := hw; subst hw
                  replace hP := zx_keep hP hk1
                  refine lv_bipush (v := 24) hx hb dX3_treat_122 (by decide) ?_
                  refine lv_iload_n hx hb dX3_treat_124 rfl (lv_at hl 2 rfl) ?_
                  refine lv_iadd hx hb dX3_treat_125 ?_
                  refine lv_icmp_eq (tgt := 135) hx hb dX3_treat_126 (by decide) (fun q7 => ?_) (fun q7 => ?_)
                  · replace hM := zx_t q7 hM
                    refine lv_aload_n hx hb dX3_treat_135 rfl (lv_at hl 1 rfl) ?_
                    refine lv_iload hx hb dX3_treat_136 (lv_at hl 3 rfl) ?_
                    refine lv_iload hx hb dX3_treat_138 (lv_at hl 5 rfl) ?_
                    refine lv_iconst (v := 1) hx hb dX3_treat_140 (by decide) ?_
                    refine lv_iadd hx hb dX3_treat_141 ?_
                    refine lv_bipush (v := 24) hx hb dX3_treat_142 (by decide) ?_
                    refine lv_iload hx hb dX3_treat_144 (lv_at hl 4 rfl) ?_
                    refine lv_iadd hx hb dX3_treat_146 ?_
                    obtain ⟨g8, hz9, hM⟩ := zx_b1E hM
                    refine va_callv (va_runS (As := [.ref (ad w), .int v4, .int (v6 + 1), .int (24 + v5)]) (rest := []) ⟨hx, hb, hml, hown, hts⟩ (c_X3_insert l D cI cZ cT (ad w) 380 (S_ w) _ N v4 (v6 + 1) (24 + v5) hz9) (va_cwS 4 hts (zg_S zw_10_13 zw_10_14 zw_1_5 zw_10_15) rfl rfl rfl zyX3_insert ⟨Nat.le_of_ble_eq_true rfl, Nat.le_of_ble_eq_true rfl⟩) ⟨bS_blind, bS_pre (zx_P1 hP (w + 1) ((xW3_aw hrw))) hK (zx_D1 hD (w + 1) ((xW3_aw hrw))) hN⟩ rfl rfl hl.1 rfl (lv_room (Nat.le_of_ble_eq_true rfl)) dX3_treat_147 ⟨Nat.zero_le _, Nat.zero_le _⟩) hS (fun q _ h => zx_f1 hD hS hA (k := (w + 1)) (xW3_aw hrw) q h) (fun q h => zx_f1 hD hS hA (k := (w + 1)) (xW3_aw hrw) q h) (fun u t H1 lc ht hvm hw hB hz1 hk1 hS => ?_)
                    replace hw : g8 = u := hw; subst hw
                    rw [ht] at hB
                    replace hP := zx_set1 (k := (w + 1)) hP hD (xW3_aw hrw) hk1 hB
                    replace hD := va_D.set (p := (w + 1)) (e := .inl (cI, 380, .inl g8)) hD (xW3_aw hrw)
                    rw [xW3_paw hrw] at hP hD
                    obtain ⟨T10, eT10, hM⟩ := zx_nE hM
                    rw [← eT10] at hP hD
                    refine lv_iload hx hb dX3_treat_150 (lv_at hl 3 rfl) ?_
                    refine lv_istore_n (lv' := [(3, .int v4), (0, .ref h), (1, .ref (ad w)), (4, .int v4), (5, .int v5), (6, .int v6)]) hx hb dX3_treat_152 rfl hl (by decide) rfl (fun ls hl => ?_)
                    refine lv_goto (tgt := 2) hx hb dX3_treat_153 (by decide) ?_
                    exact ih2 v4 T10 _ _ _ hP hD hS (lv_sub hl [1, 2, 0] rfl) hM
                  · replace hM := zx_f q7 hM
                    obtain ⟨x11, ex11, hM⟩ := zx_nE hM
                    refine lv_iinc (v := x11) (lv' := [(6, .int x11), (0, .ref h), (1, .ref (ad w)), (3, .int v3), (4, .int v4), (5, .int v5)]) hx hb dX3_treat_129 hl (k := 5) rfl (by rw [ex11]; rfl) (by decide) rfl (fun ls hl => ?_)
                    refine lv_goto (tgt := 114) hx hb dX3_treat_132 (by decide) ?_
                    exact ih114 v3 v4 v5 x11 S_ _ _ _ hP hD hS (lv_sub hl [1, 2, 3, 4, 5, 0] rfl) hM
              refine lv_iconst (v := 0) hx hb dX3_treat_111 (by decide) ?_
              refine lv_istore (lv' := [(6, .int 0), (0, .ref h), (1, .ref (ad w)), (3, .int v3), (4, .int v4), (5, .int v5)]) hx hb dX3_treat_112 hl (by decide) rfl (fun ls hl => ?_)
              exact l114 N v3 v4 v5 0 S_ _ _ _ hP hD hS (lv_sub hl [1, 2, 3, 4, 5, 0] rfl) hM
            refine lv_aload_n hx hb dX3_treat_56 rfl (lv_at hl 1 rfl) ?_
            refine lv_bipush (v := 24) hx hb dX3_treat_57 (by decide) ?_
            refine lv_iload_n hx hb dX3_treat_59 rfl (lv_at hl 2 rfl) ?_
            refine lv_iadd hx hb dX3_treat_60 ?_
            obtain ⟨x12, hz13, hM⟩ := zx_b1E hM
            refine va_calli (va_runS (As := [.ref (ad w), .int (24 + v3)]) (rest := []) ⟨hx, hb, hml, hown, hts⟩ (c_X3_nodeWith l D cI cZ cT (ad w) 380 (S_ w) _ N (24 + v3) hz13) (va_cwS 2 hts (zg_S zw_11_8 zw_11_9 zw_1_5 zw_11_10) rfl rfl rfl zyX3_nodeWith ⟨Nat.le_of_ble_eq_true rfl, Nat.le_of_ble_eq_true rfl⟩) ⟨bS_blind, bS_pre (zx_P1 hP (w + 1) ((xW3_aw hrw))) hK (zx_D1 hD (w + 1) ((xW3_aw hrw))) hN⟩ rfl rfl hl.1 rfl (lv_room (Nat.le_of_ble_eq_true rfl)) dX3_treat_61 ⟨Nat.zero_le _, Nat.zero_le _⟩) hS (fun q h1 h2 => absurd h1 (Nat.not_lt.mpr h2)) (fun q h => hA q (Nat.le_trans hS.1 h)) (fun r u t H1 lc ht hvm hw hB hz1 hk1 hS => ?_)
            replace hw : x12 = r := hw; subst hw
            replace hP := zx_keep hP hk1
            refine lv_istore (lv' := [(4, .int x12), (0, .ref h), (1, .ref (ad w)), (3, .int v3)]) hx hb dX3_treat_64 hl (by decide) rfl (fun ls hl => ?_)
            refine lv_aload_n hx hb dX3_treat_66 rfl (lv_at hl 1 rfl) ?_
            refine lv_aload_n hx hb dX3_treat_67 rfl (lv_at hl 2 rfl) ?_
            refine lv_iload_n hx hb dX3_treat_68 rfl (lv_at hl 3 rfl) ?_
            obtain ⟨x14, T15, hz16, hM⟩ := zx_b2E hM
            refine va_calli (va_runV (As := [.ref (ad w), .int v3]) (rest := []) ⟨hx, hb, hml, hown, hts⟩ (c_X3_split l D cI cZ cT h ad S_ _ N w hrw v3  hz16) (cwV 2 hts (zg_V zw_11_11 zw_11_12 zw_11_13 zw_1_5 zw_11_14) rfl rfl rfl ⟨rfl, zyX3_split⟩ ⟨Nat.le_of_ble_eq_true rfl, Nat.le_of_ble_eq_true rfl⟩) ⟨bS_blind, va_recv hK hP (ci := 3) (q0 := 0) rfl rfl, bS_pre hP hK hD hN⟩ rfl rfl hl.1 rfl (lv_room (Nat.le_of_ble_eq_true rfl)) dX3_treat_69 ⟨Nat.zero_le _, Nat.zero_le _⟩) hS (fun q _ h => zx_fW hD hS hA q h) (fun q h => zx_fW hD hS hA q h) (fun r u t H1 lc ht hvm hw hB hz1 hk1 hS => ?_)
            obtain ⟨hw1, hw2⟩ := Prod.mk.inj hw; subst hw1; subst hw2
            rw [ht] at hB
            replace hP := hB
            replace hD := xW3_D T15 hD
            refine lv_istore (lv' := [(5, .int x14), (4, .int x12), (0, .ref h), (1, .ref (ad w)), (3, .int v3)]) hx hb dX3_treat_72 hl (by decide) rfl (fun ls hl => ?_)
            refine lv_iload hx hb dX3_treat_74 (lv_at hl 1 rfl) ?_
            refine lv_iconst (v := (-1)) hx hb dX3_treat_76 (by decide) ?_
            refine lv_icmp_ne (tgt := 111) hx hb dX3_treat_77 (by decide) (fun q17 => ?_) (fun q17 => ?_)
            · replace hM := zx_f q17 hM
              exact j111 v3 x12 x14 T15 _ _ _ hP hD hS (lv_sub hl [2, 3, 4, 1, 0] rfl) hM
            · replace hM := zx_t q17 hM
              refine lv_aload_n hx hb dX3_treat_80 rfl (lv_at hl 3 rfl) ?_
              refine lv_aload_n hx hb dX3_treat_81 rfl (lv_at hl 3 rfl) ?_
              refine lv_iload_n hx hb dX3_treat_82 rfl (lv_at hl 4 rfl) ?_
              obtain ⟨x18, hz19, hM⟩ := zx_b1E hM
              refine va_calli (va_runS (As := [.ref (ad w), .int v3]) (rest := [.ref (ad w)]) ⟨hx, hb, hml, hown, hts⟩ (c_X3_levelOf l D cI cZ cT (ad w) 380 (T15 w) _ N v3 hz19) (va_cwS 2 hts (zg_S zw_9_9 zw_9_10 zw_1_5 zw_9_11) rfl rfl rfl zyX3_levelOf ⟨Nat.le_of_ble_eq_true rfl, Nat.le_of_ble_eq_true rfl⟩) ⟨bS_blind, bS_pre (zx_P1 hP (w + 1) ((xW3_aw hrw))) hK (zx_D1 hD (w + 1) ((xW3_aw hrw))) hN⟩ rfl rfl hl.1 rfl (lv_room (Nat.le_of_ble_eq_true rfl)) dX3_treat_83 ⟨Nat.zero_le _, Nat.zero_le _⟩) hS (fun q h1 h2 => absurd h1 (Nat.not_lt.mpr h2)) (fun q h => hA q (Nat.le_trans hS.1 h)) (fun r u t H1 lc ht hvm hw hB hz1 hk1 hS => ?_)
              replace hw : x18 = r := hw; subst hw
              replace hP := zx_keep hP hk1
              refine lv_iconst (v := 1) hx hb dX3_treat_86 (by decide) ?_
              refine lv_iadd hx hb dX3_treat_87 ?_
              obtain ⟨x20, g21, hz22, hM⟩ := zx_b2E hM
              refine va_calli (va_runS (As := [.ref (ad w), .int (x18 + 1)]) (rest := []) ⟨hx, hb, hml, hown, hts⟩ (c_X3_newSlot l D cI cZ cT (ad w) 380 (T15 w) _ N (x18 + 1) hz22) (va_cwS 2 hts (zg_S zw_11_22 zw_11_23 zw_1_5 zw_12_0) rfl rfl rfl zyX3_newSlot ⟨Nat.le_of_ble_eq_true rfl, Nat.le_of_ble_eq_true rfl⟩) ⟨bS_blind, bS_pre (zx_P1 hP (w + 1) ((xW3_aw hrw))) hK (zx_D1 hD (w + 1) ((xW3_aw hrw))) hN⟩ rfl rfl hl.1 rfl (lv_room (Nat.le_of_ble_eq_true rfl)) dX3_treat_88 ⟨Nat.zero_le _, Nat.zero_le _⟩) hS (fun q _ h => zx_f1 hD hS hA (k := (w + 1)) (xW3_aw hrw) q h) (fun q h => zx_f1 hD hS hA (k := (w + 1)) (xW3_aw hrw) q h) (fun r u t H1 lc ht hvm hw hB hz1 hk1 hS => ?_)
              obtain ⟨hw1, hw2⟩ := Prod.mk.inj hw; subst hw1; subst hw2
              rw [ht] at hB
              replace hP := zx_set1 (k := (w + 1)) hP hD (xW3_aw hrw) hk1 hB
              replace hD := va_D.set (p := (w + 1)) (e := .inl (cI, 380, .inl g21)) hD (xW3_aw hrw)
              rw [xW3_paw hrw] at hP hD
              obtain ⟨T23, eT23, hM⟩ := zx_nE hM
              rw [← eT23] at hP hD
              refine lv_istore (lv' := [(4, .int x20), (5, .int x14), (0, .ref h), (1, .ref (ad w)), (3, .int v3)]) hx hb dX3_treat_91 hl (by decide) rfl (fun ls hl => ?_)
              refine lv_aload_n hx hb dX3_treat_93 rfl (lv_at hl 3 rfl) ?_
              refine lv_iload hx hb dX3_treat_94 (lv_at hl 0 rfl) ?_
              refine lv_iconst (v := 0) hx hb dX3_treat_96 (by decide) ?_
              refine lv_bipush (v := 24) hx hb dX3_treat_97 (by decide) ?_
              refine lv_iload_n hx hb dX3_treat_99 rfl (lv_at hl 4 rfl) ?_
              refine lv_iadd hx hb dX3_treat_100 ?_
              obtain ⟨g24, hz25, hM⟩ := zx_b1E hM
              refine va_callv (va_runS (As := [.ref (ad w), .int x20, .int 0, .int (24 + v3)]) (rest := []) ⟨hx, hb, hml, hown, hts⟩ (c_X3_insert l D cI cZ cT (ad w) 380 (T23 w) _ N x20 0 (24 + v3) hz25) (va_cwS 4 hts (zg_S zw_10_13 zw_10_14 zw_1_5 zw_10_15) rfl rfl rfl zyX3_insert ⟨Nat.le_of_ble_eq_true rfl, Nat.le_of_ble_eq_true rfl⟩) ⟨bS_blind, bS_pre (zx_P1 hP (w + 1) ((xW3_aw hrw))) hK (zx_D1 hD (w + 1) ((xW3_aw hrw))) hN⟩ rfl rfl hl.1 rfl (lv_room (Nat.le_of_ble_eq_true rfl)) dX3_treat_101 ⟨Nat.zero_le _, Nat.zero_le _⟩) hS (fun q _ h => zx_f1 hD hS hA (k := (w + 1)) (xW3_aw hrw) q h) (fun q h => zx_f1 hD hS hA (k := (w + 1)) (xW3_aw hrw) q h) (fun u t H1 lc ht hvm hw hB hz1 hk1 hS => ?_)
              replace hw : g24 = u := hw; subst hw
              rw [ht] at hB
              replace hP := zx_set1 (k := (w + 1)) hP hD (xW3_aw hrw) hk1 hB
              replace hD := va_D.set (p := (w + 1)) (e := .inl (cI, 380, .inl g24)) hD (xW3_aw hrw)
              rw [xW3_paw hrw] at hP hD
              obtain ⟨T26, eT26, hM⟩ := zx_nE hM
              rw [← eT26] at hP hD
              refine lv_aload_n hx hb dX3_treat_104 rfl (lv_at hl 3 rfl) ?_
              refine lv_sipush (v := 376) hx hb dX3_treat_105 (by decide) ?_
              refine lv_iload hx hb dX3_treat_108 (lv_at hl 0 rfl) ?_
              obtain ⟨T27, q28, eT27, hM⟩ := zx_wrE hM
              refine va_iast (D := D) hx hb hK hP hD hS (w + 1) 0 (xW3_aw hrw) rfl q28 dX3_treat_110 (fun H lc hP hD hS => ?_)
              rw [xW3_paw hrw] at hP hD
              rw [← eT27] at hP hD
              exact j111 v3 x20 x14 T27 _ _ _ hP hD hS (lv_sub hl [2, 3, 4, 0, 1] rfl) hM
          refine lv_aload_n hx hb dX3_treat_16 rfl (lv_at hl 0 rfl) ?_
          refine lv_aload_n hx hb dX3_treat_17 rfl (lv_at hl 1 rfl) ?_
          obtain ⟨T29, hz30, hM⟩ := zx_b1E hM
          refine va_callv (va_runV (As := [.ref (ad w)]) (rest := []) ⟨hx, hb, hml, hown, hts⟩ (c_X3_layBoxes l D cI cZ cT h ad S_ _ N w hrw  hz30) (cwV 1 hts (zg_V zw_8_23 zw_9_0 zw_9_1 zw_1_5 zw_9_2) rfl rfl rfl ⟨rfl, zyX3_layBoxes⟩ ⟨Nat.le_of_ble_eq_true rfl, Nat.le_of_ble_eq_true rfl⟩) ⟨bS_blind, va_recv hK hP (ci := 3) (q0 := 0) rfl rfl, bS_pre hP hK hD hN⟩ rfl rfl hl.1 rfl (lv_room (Nat.le_of_ble_eq_true rfl)) dX3_treat_18 ⟨Nat.zero_le _, Nat.zero_le _⟩) hS (fun q _ h => zx_fW hD hS hA q h) (fun q h => zx_fW hD hS hA q h) (fun u t H1 lc ht hvm hw hB hz1 hk1 hS => ?_)
          replace hw : T29 = u := hw; subst hw
          rw [ht] at hB
          replace hP := hB
          replace hD := xW3_D T29 hD
          refine lv_iload_n hx hb dX3_treat_21 rfl (lv_at hl 2 rfl) ?_
          refine lv_aload_n hx hb dX3_treat_22 rfl (lv_at hl 1 rfl) ?_
          refine lv_sipush (v := 376) hx hb dX3_treat_23 (by decide) ?_
          obtain ⟨x31, q32, ex31, hM⟩ := zx_rdE hM
          refine va_iald (D := D) hx hb hK hP (w + 1) 0 (xW3_aw hrw) rfl q32 dX3_treat_26 ?_
          refine zx_top ex31 ?_
          refine lv_icmp_eq (tgt := 56) hx hb dX3_treat_27 (by decide) (fun q33 => ?_) (fun q33 => ?_)
          · replace hM := zx_t q33 hM
            exact j56 v3 T29 _ _ _ hP hD hS (lv_sub hl [0, 1, 2] rfl) hM
          · replace hM := zx_f q33 hM
            refine lv_aload_n hx hb dX3_treat_30 rfl (lv_at hl 0 rfl) ?_
            refine va_get (D := D) (ci := 3) (v := .int (T29 12 3)) (C := RX3) (T := TX3) (N := 20) hx hb hts inlX3 hown hK hP 0 rfl rfl 10 (by decide) (hts _ zw_10_20) (fun _ h9 => h9) rfl dX3_treat_31 ?_
            refine lv_aload_n hx hb dX3_treat_34 rfl (lv_at hl 1 rfl) ?_
            refine lv_iload_n hx hb dX3_treat_35 rfl (lv_at hl 2 rfl) ?_
            obtain ⟨x34, hz35, hM⟩ := zx_b1E hM
            refine va_calli (va_runS (As := [.ref (ad w), .int v3]) (rest := [.int (T29 12 3)]) ⟨hx, hb, hml, hown, hts⟩ (c_X3_levelOf l D cI cZ cT (ad w) 380 (T29 w) _ N v3 hz35) (va_cwS 2 hts (zg_S zw_9_9 zw_9_10 zw_1_5 zw_9_11) rfl rfl rfl zyX3_levelOf ⟨Nat.le_of_ble_eq_true rfl, Nat.le_of_ble_eq_true rfl⟩) ⟨bS_blind, bS_pre (zx_P1 hP (w + 1) ((xW3_aw hrw))) hK (zx_D1 hD (w + 1) ((xW3_aw hrw))) hN⟩ rfl rfl hl.1 rfl (lv_room (Nat.le_of_ble_eq_true rfl)) dX3_treat_36 ⟨Nat.zero_le _, Nat.zero_le _⟩) hS (fun q h1 h2 => absurd h1 (Nat.not_lt.mpr h2)) (fun q h => hA q (Nat.le_trans hS.1 h)) (fun r u t H1 lc ht hvm hw hB hz1 hk1 hS => ?_)
            replace hw : x34 = r := hw; subst hw
            replace hP := zx_keep hP hk1
            refine lv_ishr hx hb dX3_treat_39 ?_
            refine lv_iconst (v := 1) hx hb dX3_treat_40 (by decide) ?_
            refine lv_iand hx hb dX3_treat_41 ?_
            refine lv_if_ne (tgt := 56) hx hb dX3_treat_42 (by decide) (fun q36 => ?_) (fun q36 => ?_)
            · replace hM := zx_f q36 hM
              exact j56 v3 T29 _ _ _ hP hD hS (lv_sub hl [0, 1, 2] rfl) hM
            · replace hM := zx_t q36 hM
              refine lv_aload_n hx hb dX3_treat_45 rfl (lv_at hl 0 rfl) ?_
              refine lv_aload_n hx hb dX3_treat_46 rfl (lv_at hl 1 rfl) ?_
              refine lv_iload_n hx hb dX3_treat_47 rfl (lv_at hl 2 rfl) ?_
              obtain ⟨T37, hz38, hM⟩ := zx_b1E hM
              refine va_callv (va_runV (As := [.ref (ad w), .int v3]) (rest := []) ⟨hx, hb, hml, hown, hts⟩ (c_X3_throwOut l D cI cZ cT h ad T29 _ N w hrw v3  hz38) (cwV 2 hts (zg_V zw_10_21 zw_10_22 zw_10_23 zw_1_5 zw_11_0) rfl rfl rfl ⟨rfl, zyX3_throwOut⟩ ⟨Nat.le_of_ble_eq_true rfl, Nat.le_of_ble_eq_true rfl⟩) ⟨bS_blind, va_recv hK hP (ci := 3) (q0 := 0) rfl rfl, bS_pre hP hK hD hN⟩ rfl rfl hl.1 rfl (lv_room (Nat.le_of_ble_eq_true rfl)) dX3_treat_48 ⟨Nat.zero_le _, Nat.zero_le _⟩) hS (fun q _ h => zx_fW hD hS hA q h) (fun q h => zx_fW hD hS hA q h) (fun u t H1 lc ht hvm hw hB hz1 hk1 hS => ?_)
              replace hw : T37 = u := hw; subst hw
              rw [ht] at hB
              replace hP := hB
              replace hD := xW3_D T37 hD
              refine lv_iconst (v := (-1)) hx hb dX3_treat_51 (by decide) ?_
              refine lv_istore_n (lv' := [(3, .int (-1)), (0, .ref h), (1, .ref (ad w))]) hx hb dX3_treat_52 rfl hl (by decide) rfl (fun ls hl => ?_)
              refine lv_goto (tgt := 2) hx hb dX3_treat_53 (by decide) ?_
              exact ih2 (-1) T37 _ _ _ hP hD hS (lv_sub hl [1, 2, 0] rfl) hM
  refine lv_iload_n hx hb dX3_treat_0 rfl (lv_at hl 2 rfl) ?_
  refine lv_istore_n (lv' := [(3, .int p2), (0, .ref h), (1, .ref (ad w)), (2, .int p2)]) hx hb dX3_treat_1 rfl hl (by decide) rfl (fun ls hl => ?_)
  exact l2 N p2 S _ _ _ hP hD hS (lv_sub hl [1, 2, 0] rfl) hM

/-! ShallowBoxesModel.putIn([III)V -/
def f_X3_putIn_l10 (N : Nat) (w : Nat) : Nat → zx_S → Option (zx_S)
  | 0, _ => none
  | n10 + 1, S_ => (if (S_ 12 4) = (-1) then
  some S_ else
  (zx_n (zx_st S_ 12 (upd (S_ 12) 4 (-1))) (fun T2 =>
(zx_b1 (f_X3_layBoxes N w T2) (fun T3 =>
(zx_b1 (f_X3_reach N w (S_ 12 4) (T3 12 5) T3) (fun x5 =>
(zx_b1 (f_X3_many N 380 x5 (T3 w)) (fun x7 =>
(zx_b1 (f_X3_insert N 380 x5 x7 (S_ 12 4) (T3 w)) (fun g9 =>
(zx_n (zx_st T3 w g9) (fun T11 =>
(zx_b1 (f_X3_treat N w x5 T11) (fun T12 =>
f_X3_putIn_l10 N w  n10 T12)))))))))))))))
def f_X3_putIn (N : Nat) (w : Nat) (p2 : Int32) (p3 : Int32) (S : zx_S) : Option (zx_S) :=
  (zx_n (zx_st S 12 (upd (S 12) 4 p2)) (fun T14 =>
(zx_n (zx_st T14 12 (upd (T14 12) 5 p3)) (fun T15 =>
f_X3_putIn_l10 N w  N T15))))
abbrev rmX3_putIn : Room := { frames := 6, cells := 0, slots := 0, locals := 144 }
abbrev zsX3_putIn : List Cond := .code yX3_putIn cX3_putIn 6 none :: wsL_law
theorem zyX3_putIn : yX3_putIn.cls ≠ "java/lang/invoke/MethodHandle" ∧ yX3_putIn.cls ≠ "java/lang/invoke/VarHandle" ∧ (parseMethodDescriptor yX3_putIn.desc).map (fun d => d.parameters.length) = some 3 := by decide +kernel
set_option maxHeartbeats 4000000 in
set_option maxRecDepth 100000 in
theorem c_X3_putIn (l : Launch) (D : va_G) (cI cZ cT : ClassId) (h : Nat) (ad : Nat → Nat) (S : zx_S) (sz : Nat) (N : Nat) (w : Nat) (hrw : w = 1 ∨ w = 2) (p2 : Int32) (p3 : Int32) {R : zx_S} (hM : f_X3_putIn N w p2 p3 S = some R) : Met l yX3_putIn zsX3_putIn rmX3_putIn (va_Pc [.ref h, .ref (ad w), .int p2, .int p3] (bS D (zx_ty cI cZ cT) (xW3 cI cZ h ad S) sz)) (va_Qv (fun u => R = u) (fun u t => va_P D vwCl (xW3 cI cZ h ad u) t.heap) (va_A (xW3 cI cZ h ad S) sz)) 0 0 (va_A (xW3 cI cZ h ad S) sz) := by
  refine Met.ofW (cc := cX3_putIn) (maxL := 6) (ret := none) (by decide) rfl ?_
  intro p e s m args below meth c s₁ B hml hv
  obtain ⟨rfl, hsz, hP, hK, hD0, hN⟩ := hv
  have hx := B.exec
  have hb := B.bytes
  have hr := B.returns
  have hts : ∀ w ∈ wsL_law, w.before _ s = true := fun w hw => atoms_spec (ws := zsX3_putIn) B.pre w (List.mem_cons_of_mem _ hw)
  have hown : s.vm.findClass RX3 = some m.cls := findClass_of_methodNamed B.named
  have hlocks := B.notSynchronized
  subst hsz
  have hD := hD0.self (sz := s.heap.size)
  generalize hAe : va_A (xW3 cI cZ h ad S) s.heap.size = A at hD ⊢
  have hA : ∀ q : Nat, s.heap.size ≤ q → A q := fun q h => by rw [← hAe]; exact Or.inr h
  have hS : va_S A s.heap s.heap [] := va_S.rf
  have hl := lv_entry ([.ref h, .ref (ad w), .int p2, .int p3]) (n := 6) (Nat.le_of_ble_eq_true rfl)
  rw [lg_entry_eq]
  generalize (lg_sl ([.ref h, .ref (ad w), .int p2, .int p3]) ++ List.replicate (6 - (lg_sl ([.ref h, .ref (ad w), .int p2, .int p3])).length) Slot.unset).toArray = ls at hl ⊢
  have hl : lv_has ls 6 [(0, .ref h), (1, .ref (ad w)), (2, .int p2), (3, .int p3)] := hl
  generalize hQ : MQ below (va_Qv (fun u => R = u) (fun u t => va_P D vwCl (xW3 cI cZ h ad u) t.heap) A) ([.ref h, .ref (ad w), .int p2, .int p3] : List Value).toArray s 0 0 A = Q9
  replace hQ := hQ.symm
  unfold f_X3_putIn at hM
  have l10 : ∀ (n10 : Nat) (S_ : zx_S) (H : Heap) (lc : List Loc) (ls : Array Slot), va_P D vwCl (xW3 cI cZ h ad S_) H → va_D A (xW3 cI cZ h ad S_) → va_S A s.heap H lc → lv_has ls 6 [(0, .ref h), (1, .ref (ad w))] → f_X3_putIn_l10 N w n10 S_ = some R → W p l e (headSpec zsX3_putIn rmX3_putIn).room s m ([.ref h, .ref (ad w), .int p2, .int p3] : List Value).toArray below meth c H lc 0 0 Q9 (F0 m 10 ls []) := by
    intro n10
    induction n10 with
    | zero =>
      intro S_ H lc ls hP hD hS hl hM
      rw [f_X3_putIn_l10] at hM; exact absurd hM (by intro h; cases h)
    | succ n10 ih10 =>
      intro S_ H lc ls hP hD hS hl hM
      rw [f_X3_putIn_l10] at hM
      refine lv_aload_n hx hb dX3_putIn_10 rfl (lv_at hl 0 rfl) ?_
      refine va_get (D := D) (ci := 3) (v := .int (S_ 12 4)) (C := RX3) (T := TX3) (N := 20) hx hb hts inlX3 hown hK hP 0 rfl rfl 11 (by decide) (hts _ zw_8_21) (fun _ h9 => h9) rfl dX3_putIn_11 ?_
      refine lv_iconst (v := (-1)) hx hb dX3_putIn_14 (by decide) ?_
      refine lv_icmp_eq (tgt := 71) hx hb dX3_putIn_15 (by decide) (fun q1 => ?_) (fun q1 => ?_)
      · replace hM := zx_t q1 hM
        rw [hQ]
        exact W.vret hx hb hr (fun t ht hW => ⟨⟨S_, rfl, (Option.some.inj hM).symm, by show va_P D vwCl _ t.heap; rw [ht]; exact hP⟩, hS.F ht⟩) hS.2.2 dX3_putIn_71
      · replace hM := zx_f q1 hM
        refine lv_aload_n hx hb dX3_putIn_18 rfl (lv_at hl 0 rfl) ?_
        refine va_get (D := D) (ci := 3) (v := .int (S_ 12 4)) (C := RX3) (T := TX3) (N := 20) hx hb hts inlX3 hown hK hP 0 rfl rfl 11 (by decide) (hts _ zw_8_21) (fun _ h9 => h9) rfl dX3_putIn_19 ?_
        refine lv_istore (lv' := [(4, .int (S_ 12 4)), (0, .ref h), (1, .ref (ad w))]) hx hb dX3_putIn_22 hl (by decide) rfl (fun ls hl => ?_)
        refine lv_aload_n hx hb dX3_putIn_24 rfl (lv_at hl 1 rfl) ?_
        refine lv_iconst (v := (-1)) hx hb dX3_putIn_25 (by decide) ?_
        obtain ⟨T2, eT2, hM⟩ := zx_nE hM
        refine va_put (D := D) (ci := 3) (v := .int (-1)) (ty := .int) (C := RX3) (T := TX3) (N := 20) hx hb hts inlX3 tyX3 tyX3_ok nmX3 hown hK hP hD hS 0 rfl rfl 11 (by decide) (hts _ zw_8_21) (fun _ h9 => h9) rfl (by decide +kernel) rfl rfl (Nat.le_of_ble_eq_true rfl) dX3_putIn_26 (fun H lc hP hD hS => ?_)
        replace hP : va_P D vwCl (xW3 cI cZ h ad T2) H := by rw [eT2]; exact hP
        replace hD : va_D A (xW3 cI cZ h ad T2) := by rw [eT2]; exact hD
        refine lv_aload_n hx hb dX3_putIn_29 rfl (lv_at hl 1 rfl) ?_
        refine lv_aload_n hx hb dX3_putIn_30 rfl (lv_at hl 2 rfl) ?_
        obtain ⟨T3, hz4, hM⟩ := zx_b1E hM
        refine va_callv (va_runV (As := [.ref (ad w)]) (rest := []) ⟨hx, hb, hml, hown, hts⟩ (c_X3_layBoxes l D cI cZ cT h ad T2 _ N w hrw  hz4) (cwV 1 hts (zg_V zw_8_23 zw_9_0 zw_9_1 zw_1_5 zw_9_2) rfl rfl rfl ⟨rfl, zyX3_layBoxes⟩ ⟨Nat.le_of_ble_eq_true rfl, Nat.le_of_ble_eq_true rfl⟩) ⟨bS_blind, va_recv hK hP (ci := 3) (q0 := 0) rfl rfl, bS_pre hP hK hD hN⟩ rfl rfl hl.1 rfl (lv_room (Nat.le_of_ble_eq_true rfl)) dX3_putIn_31 ⟨Nat.zero_le _, Nat.zero_le _⟩) hS (fun q _ h => zx_fW hD hS hA q h) (fun q h => zx_fW hD hS hA q h) (fun u t H1 lc ht hvm hw hB hz1 hk1 hS => ?_)
        replace hw : T3 = u := hw; subst hw
        rw [ht] at hB
        replace hP := hB
        replace hD := xW3_D T3 hD
        refine lv_aload_n hx hb dX3_putIn_34 rfl (lv_at hl 1 rfl) ?_
        refine lv_aload_n hx hb dX3_putIn_35 rfl (lv_at hl 2 rfl) ?_
        refine lv_iload hx hb dX3_putIn_36 (lv_at hl 0 rfl) ?_
        refine lv_aload_n hx hb dX3_putIn_38 rfl (lv_at hl 1 rfl) ?_
        refine va_get (D := D) (ci := 3) (v := .int (T3 12 5)) (C := RX3) (T := TX3) (N := 20) hx hb hts inlX3 hown hK hP 0 rfl rfl 12 (by decide) (hts _ zw_8_22) (fun _ h9 => h9) rfl dX3_putIn_39 ?_
        obtain ⟨x5, hz6, hM⟩ := zx_b1E hM
        refine va_calli (va_runV (As := [.ref (ad w), .int (S_ 12 4), .int (T3 12 5)]) (rest := []) ⟨hx, hb, hml, hown, hts⟩ (c_X3_reach l D cI cZ cT h ad T3 _ N w hrw (S_ 12 4) (T3 12 5)  hz6) (cwV 3 hts (zg_V zw_9_19 zw_9_20 zw_9_21 zw_1_5 zw_9_22) rfl rfl rfl ⟨rfl, zyX3_reach⟩ ⟨Nat.le_of_ble_eq_true rfl, Nat.le_of_ble_eq_true rfl⟩) ⟨bS_blind, va_recv hK hP (ci := 3) (q0 := 0) rfl rfl, bS_pre hP hK hD hN⟩ rfl rfl hl.1 rfl (lv_room (Nat.le_of_ble_eq_true rfl)) dX3_putIn_42 ⟨Nat.zero_le _, Nat.zero_le _⟩) hS (fun q h1 h2 => absurd h1 (Nat.not_lt.mpr h2)) (fun q h => hA q (Nat.le_trans hS.1 h)) (fun r u t H1 lc ht hvm hw hB hz1 hk1 hS => ?_)
        replace hw : x5 = r := hw; subst hw
        replace hP := zx_keep hP hk1
        refine lv_istore (lv' := [(5, .int x5), (4, .int (S_ 12 4)), (0, .ref h), (1, .ref (ad w))]) hx hb dX3_putIn_45 hl (by decide) rfl (fun ls hl => ?_)
        refine lv_aload_n hx hb dX3_putIn_47 rfl (lv_at hl 3 rfl) ?_
        refine lv_iload hx hb dX3_putIn_48 (lv_at hl 0 rfl) ?_
        refine lv_aload_n hx hb dX3_putIn_50 rfl (lv_at hl 3 rfl) ?_
        refine lv_iload hx hb dX3_putIn_51 (lv_at hl 0 rfl) ?_
        obtain ⟨x7, hz8, hM⟩ := zx_b1E hM
        refine va_calli (va_runS (As := [.ref (ad w), .int x5]) (rest := [.int x5, .ref (ad w)]) ⟨hx, hb, hml, hown, hts⟩ (c_X3_many l D cI cZ cT (ad w) 380 (T3 w) _ N x5 hz8) (va_cwS 2 hts (zg_S zw_9_3 zw_9_4 zw_1_5 zw_9_5) rfl rfl rfl zyX3_many ⟨Nat.le_of_ble_eq_true rfl, Nat.le_of_ble_eq_true rfl⟩) ⟨bS_blind, bS_pre (zx_P1 hP (w + 1) ((xW3_aw hrw))) hK (zx_D1 hD (w + 1) ((xW3_aw hrw))) hN⟩ rfl rfl hl.1 rfl (lv_room (Nat.le_of_ble_eq_true rfl)) dX3_putIn_53 ⟨Nat.zero_le _, Nat.zero_le _⟩) hS (fun q h1 h2 => absurd h1 (Nat.not_lt.mpr h2)) (fun q h => hA q (Nat.le_trans hS.1 h)) (fun r u t H1 lc ht hvm hw hB hz1 hk1 hS => ?_)
        replace hw : x7 = r := hw; subst hw
        replace hP := zx_keep hP hk1
        refine lv_iload hx hb dX3_putIn_56 (lv_at hl 1 rfl) ?_
        obtain ⟨g9, hz10, hM⟩ := zx_b1E hM
        refine va_callv (va_runS (As := [.ref (ad w), .int x5, .int x7, .int (S_ 12 4)]) (rest := []) ⟨hx, hb, hml, hown, hts⟩ (c_X3_insert l D cI cZ cT (ad w) 380 (T3 w) _ N x5 x7 (S_ 12 4) hz10) (va_cwS 4 hts (zg_S zw_10_13 zw_10_14 zw_1_5 zw_10_15) rfl rfl rfl zyX3_insert ⟨Nat.le_of_ble_eq_true rfl, Nat.le_of_ble_eq_true rfl⟩) ⟨bS_blind, bS_pre (zx_P1 hP (w + 1) ((xW3_aw hrw))) hK (zx_D1 hD (w + 1) ((xW3_aw hrw))) hN⟩ rfl rfl hl.1 rfl (lv_room (Nat.le_of_ble_eq_true rfl)) dX3_putIn_58 ⟨Nat.zero_le _, Nat.zero_le _⟩) hS (fun q _ h => zx_f1 hD hS hA (k := (w + 1)) (xW3_aw hrw) q h) (fun q h => zx_f1 hD hS hA (k := (w + 1)) (xW3_aw hrw) q h) (fun u t H1 lc ht hvm hw hB hz1 hk1 hS => ?_)
        replace hw : g9 = u := hw; subst hw
        rw [ht] at hB
        replace hP := zx_set1 (k := (w + 1)) hP hD (xW3_aw hrw) hk1 hB
        replace hD := va_D.set (p := (w + 1)) (e := .inl (cI, 380, .inl g9)) hD (xW3_aw hrw)
        rw [xW3_paw hrw] at hP hD
        obtain ⟨T11, eT11, hM⟩ := zx_nE hM
        rw [← eT11] at hP hD
        refine lv_aload_n hx hb dX3_putIn_61 rfl (lv_at hl 2 rfl) ?_
        refine lv_aload_n hx hb dX3_putIn_62 rfl (lv_at hl 3 rfl) ?_
        refine lv_iload hx hb dX3_putIn_63 (lv_at hl 0 rfl) ?_
        obtain ⟨T12, hz13, hM⟩ := zx_b1E hM
        refine va_callv (va_runV (As := [.ref (ad w), .int x5]) (rest := []) ⟨hx, hb, hml, hown, hts⟩ (c_X3_treat l D cI cZ cT h ad T11 _ N w hrw x5  hz13) (cwV 2 hts (zg_V zw_10_16 zw_10_17 zw_10_18 zw_1_5 zw_10_19) rfl rfl rfl ⟨rfl, zyX3_treat⟩ ⟨Nat.le_of_ble_eq_true rfl, Nat.le_of_ble_eq_true rfl⟩) ⟨bS_blind, va_recv hK hP (ci := 3) (q0 := 0) rfl rfl, bS_pre hP hK hD hN⟩ rfl rfl hl.1 rfl (lv_room (Nat.le_of_ble_eq_true rfl)) dX3_putIn_65 ⟨Nat.zero_le _, Nat.zero_le _⟩) hS (fun q _ h => zx_fW hD hS hA q h) (fun q h => zx_fW hD hS hA q h) (fun u t H1 lc ht hvm hw hB hz1 hk1 hS => ?_)
        replace hw : T12 = u := hw; subst hw
        rw [ht] at hB
        replace hP := hB
        replace hD := xW3_D T12 hD
        refine lv_goto (tgt := 10) hx hb dX3_putIn_68 (by decide) ?_
        exact ih10 T12 _ _ _ hP hD hS (lv_sub hl [2, 3] rfl) hM
  refine lv_aload_n hx hb dX3_putIn_0 rfl (lv_at hl 0 rfl) ?_
  refine lv_iload_n hx hb dX3_putIn_1 rfl (lv_at hl 2 rfl) ?_
  obtain ⟨T14, eT14, hM⟩ := zx_nE hM
  refine va_put (D := D) (ci := 3) (v := .int p2) (ty := .int) (C := RX3) (T := TX3) (N := 20) hx hb hts inlX3 tyX3 tyX3_ok nmX3 hown hK hP hD hS 0 rfl rfl 11 (by decide) (hts _ zw_8_21) (fun _ h9 => h9) rfl (by decide +kernel) rfl rfl (Nat.le_of_ble_eq_true rfl) dX3_putIn_2 (fun H lc hP hD hS => ?_)
  replace hP : va_P D vwCl (xW3 cI cZ h ad T14) H := by rw [eT14]; exact hP
  replace hD : va_D A (xW3 cI cZ h ad T14) := by rw [eT14]; exact hD
  refine lv_aload_n hx hb dX3_putIn_5 rfl (lv_at hl 0 rfl) ?_
  refine lv_iload_n hx hb dX3_putIn_6 rfl (lv_at hl 3 rfl) ?_
  obtain ⟨T15, eT15, hM⟩ := zx_nE hM
  refine va_put (D := D) (ci := 3) (v := .int p3) (ty := .int) (C := RX3) (T := TX3) (N := 20) hx hb hts inlX3 tyX3 tyX3_ok nmX3 hown hK hP hD hS 0 rfl rfl 12 (by decide) (hts _ zw_8_22) (fun _ h9 => h9) rfl (by decide +kernel) rfl rfl (Nat.le_of_ble_eq_true rfl) dX3_putIn_7 (fun H lc hP hD hS => ?_)
  replace hP : va_P D vwCl (xW3 cI cZ h ad T15) H := by rw [eT15]; exact hP
  replace hD : va_D A (xW3 cI cZ h ad T15) := by rw [eT15]; exact hD
  exact l10 N T15 _ _ _ hP hD hS (lv_sub hl [0, 1] rfl) hM
