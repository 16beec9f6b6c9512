/-! ShallowBoxesModel.save(I)I -/
def f_X3_save_j16 (N : Nat) (v1 : Int32) (t1 : Int32) (S_ : zx_S) : Option (Int32 × zx_S) :=
  (zx_b2 (f_X3_refused N t1 S_) (fun x1 T2 =>
(if x1 = 0 then
  (zx_b1 (f_X3_copyState N 380 760 0 (380 * v1) (T2 1) (T2 4)) (fun g5 =>
(zx_n (zx_st T2 4 g5) (fun T7 =>
(zx_wr 2 v1 (zx_st T7 5 (upd (T7 5) (Int32.toNatClampNeg v1) (vp_nar .boolean 1))) (fun T8 =>
(zx_b1 (f_X3_count N 380 (T8 1)) (fun x10 =>
some (x10, T8))))))))) else
  some (0, T2))))
def f_X3_save (N : Nat) (p1 : Int32) (S : zx_S) : Option (Int32 × zx_S) :=
  (zx_b1 (f_X3_in N (Int32.toInt64 p1) 0 1) (fun x12 =>
(if x12 = 0 then
  f_X3_save_j16 N  p1 1 S else
  f_X3_save_j16 N  p1 0 S)))
abbrev rmX3_save : Room := { frames := 1, cells := 0, slots := 0, locals := 25 }
abbrev zsX3_save : List Cond := .code yX3_save cX3_save 2 (some .int) :: wsL_law
theorem zyX3_save : yX3_save.cls ≠ "java/lang/invoke/MethodHandle" ∧ yX3_save.cls ≠ "java/lang/invoke/VarHandle" ∧ (parseMethodDescriptor yX3_save.desc).map (fun d => d.parameters.length) = some 1 := by decide +kernel
set_option maxHeartbeats 4000000 in
set_option maxRecDepth 100000 in
theorem c_X3_save (l : Launch) (D : va_G) (cI cZ cT : ClassId) (h : Nat) (ad : Nat → Nat) (S : zx_S) (sz : Nat) (N : Nat) (p1 : Int32) {R : Int32 × zx_S} (hM : f_X3_save N p1 S = some R) : Met l yX3_save zsX3_save rmX3_save (va_Pc [.ref h, .int p1] (bS D (zx_ty cI cZ cT) (xW3 cI cZ h ad S) sz)) (va_Qi (fun r u => R = (r, u)) (fun u t => va_P D vwCl (xW3 cI cZ h ad u) t.heap) (va_A (xW3 cI cZ h ad S) sz)) 0 0 (va_A (xW3 cI cZ h ad S) sz) := by
  refine Met.ofW (cc := cX3_save) (maxL := 2) (ret := (some .int)) (by decide) rfl ?_
  intro p e s m args below meth c s₁ B hml hv
  obtain ⟨rfl, hsz, hP, hK, hD0, hN⟩ := hv
  have hx := B.exec
  have hb := B.bytes
  have hr := B.returns
  have hts : ∀ w ∈ wsL_law, w.before _ s = true := fun w hw => atoms_spec (ws := zsX3_save) B.pre w (List.mem_cons_of_mem _ hw)
  have hown : s.vm.findClass RX3 = some m.cls := findClass_of_methodNamed B.named
  have hlocks := B.notSynchronized
  subst hsz
  have hD := hD0.self (sz := s.heap.size)
  generalize hAe : va_A (xW3 cI cZ h ad S) s.heap.size = A at hD ⊢
  have hA : ∀ q : Nat, s.heap.size ≤ q → A q := fun q h => by rw [← hAe]; exact Or.inr h
  have hS : va_S A s.heap s.heap [] := va_S.rf
  have hl := lv_entry ([.ref h, .int p1]) (n := 2) (Nat.le_of_ble_eq_true rfl)
  rw [lg_entry_eq]
  generalize (lg_sl ([.ref h, .int p1]) ++ List.replicate (2 - (lg_sl ([.ref h, .int p1])).length) Slot.unset).toArray = ls at hl ⊢
  have hl : lv_has ls 2 [(0, .ref h), (1, .int p1)] := hl
  generalize hQ : MQ below (va_Qi (fun r u => R = (r, u)) (fun u t => va_P D vwCl (xW3 cI cZ h ad u) t.heap) A) ([.ref h, .int p1] : List Value).toArray s 0 0 A = Q9
  replace hQ := hQ.symm
  unfold f_X3_save at hM
  have j16 : ∀ (v1 : Int32) (t1 : Int32) (S_ : zx_S) (H : Heap) (lc : List Loc) (ls : Array Slot), va_P D vwCl (xW3 cI cZ h ad S_) H → va_D A (xW3 cI cZ h ad S_) → va_S A s.heap H lc → lv_has ls 2 [(0, .ref h), (1, .int v1)] → f_X3_save_j16 N v1 t1 S_ = some R → W p l e (headSpec zsX3_save rmX3_save).room s m ([.ref h, .int p1] : List Value).toArray below meth c H lc 0 0 Q9 (F0 m 16 ls [.int t1, .ref h]) := by
    intro v1 t1 S_ H lc ls hP hD hS hl hM
    unfold f_X3_save_j16 at hM
    obtain ⟨x1, T2, hz3, hM⟩ := zx_b2E hM
    refine va_calli (va_runV (As := [.int t1]) (rest := []) ⟨hx, hb, hml, hown, hts⟩ (c_X3_refused l D cI cZ cT h ad S_ _ N t1  hz3) (cwV 1 hts (zg_V zw_5_14 zw_5_15 zw_5_16 zw_1_5 zw_5_17) rfl rfl rfl ⟨rfl, zyX3_refused⟩ ⟨Nat.le_of_ble_eq_true rfl, Nat.le_of_ble_eq_true rfl⟩) ⟨bS_blind, va_recv hK hP (ci := 3) (q0 := 0) rfl rfl, bS_pre hP hK hD hN⟩ rfl rfl hl.1 rfl (lv_room (Nat.le_of_ble_eq_true rfl)) dX3_save_16 ⟨Nat.zero_le _, Nat.zero_le _⟩) hS (fun q _ h => zx_fW hD hS hA q h) (fun q h => zx_fW hD hS hA q h) (fun r u t H1 lc ht hvm hw hB hz1 hk1 hS => ?_)
    obtain ⟨hw1, hw2⟩ := Prod.mk.inj hw; subst hw1; subst hw2
    rw [ht] at hB
    replace hP := hB
    replace hD := xW3_D T2 hD
    refine lv_if_eq (tgt := 24) hx hb dX3_save_19 (by decide) (fun q4 => ?_) (fun q4 => ?_)
    · replace hM := zx_t q4 hM
      refine lv_aload_n hx hb dX3_save_24 rfl (lv_at hl 0 rfl) ?_
      refine va_get (D := D) (ci := 3) (v := .ref (ad 1)) (C := RX3) (T := TX3) (N := 20) hx hb hts inlX3 hown hK hP 0 rfl rfl 3 (by decide) (hts _ zw_3_19) (fun _ h9 => h9) rfl dX3_save_25 ?_
      refine lv_iconst (v := 0) hx hb dX3_save_28 (by decide) ?_
      refine lv_aload_n hx hb dX3_save_29 rfl (lv_at hl 0 rfl) ?_
      refine va_get (D := D) (ci := 3) (v := .ref (ad 4)) (C := RX3) (T := TX3) (N := 20) hx hb hts inlX3 hown hK hP 0 rfl rfl 7 (by decide) (hts _ zw_3_22) (fun _ h9 => h9) rfl dX3_save_30 ?_
      refine lv_sipush (v := 380) hx hb dX3_save_33 (by decide) ?_
      refine lv_iload_n hx hb dX3_save_36 rfl (lv_at hl 1 rfl) ?_
      refine lv_imul hx hb dX3_save_37 ?_
      obtain ⟨g5, hz6, hM⟩ := zx_b1E hM
      refine va_callv (va_runS (As := [.ref (ad 1), .int 0, .ref (ad 4), .int (380 * v1)]) (rest := []) ⟨hx, hb, hml, hown, hts⟩ (c_X3_copyState l D cI cZ cT (ad 1) 380 (T2 1) (ad 4) 760 (T2 4) _ N 0 (380 * v1) hz6) (va_cwS 4 hts (zg_S zw_23_4 zw_23_5 zw_1_5 zw_23_6) rfl rfl rfl zyX3_copyState ⟨Nat.le_of_ble_eq_true rfl, Nat.le_of_ble_eq_true rfl⟩) ⟨bS_blind, bS_pre (zx_P2 hP 2 5 (rfl) (rfl)) hK (zx_D2 hD 2 5 (rfl) (rfl) (by decide)) hN⟩ rfl rfl hl.1 rfl (lv_room (Nat.le_of_ble_eq_true rfl)) dX3_save_38 ⟨Nat.zero_le _, Nat.zero_le _⟩) hS (fun q _ h => zx_f2 hD hS hA (k := 2) (j := 5) rfl rfl q h) (fun q h => zx_f2 hD hS hA (k := 2) (j := 5) rfl rfl q h) (fun u t H1 lc ht hvm hw hB hz1 hk1 hS => ?_)
      replace hw : g5 = u := hw; subst hw
      rw [ht] at hB
      replace hP := zx_set2 (k := 5) (j := 2) (by decide) hP hD rfl rfl hk1 hB
      replace hD := va_D.set (p := 5) (e := .inl (cI, 760, .inl g5)) hD rfl
      rw [xW3_pa4] at hP hD
      obtain ⟨T7, eT7, hM⟩ := zx_nE hM
      rw [← eT7] at hP hD
      refine lv_aload_n hx hb dX3_save_41 rfl (lv_at hl 0 rfl) ?_
      refine va_get (D := D) (ci := 3) (v := .ref (ad 5)) (C := RX3) (T := TX3) (N := 20) hx hb hts inlX3 hown hK hP 0 rfl rfl 8 (by decide) (hts _ zw_4_0) (fun _ h9 => h9) rfl dX3_save_42 ?_
      refine lv_iload_n hx hb dX3_save_45 rfl (lv_at hl 1 rfl) ?_
      refine lv_iconst (v := 1) hx hb dX3_save_46 (by decide) ?_
      obtain ⟨T8, q9, eT8, hM⟩ := zx_wrE hM
      refine va_zast (D := D) hx hb hK hP hD hS 6 1 rfl rfl q9 dX3_save_47 (fun H lc hP hD hS => ?_)
      rw [xW3_pa5] at hP hD
      rw [← eT8] at hP hD
      refine lv_aload_n hx hb dX3_save_48 rfl (lv_at hl 0 rfl) ?_
      refine va_get (D := D) (ci := 3) (v := .ref (ad 1)) (C := RX3) (T := TX3) (N := 20) hx hb hts inlX3 hown hK hP 0 rfl rfl 3 (by decide) (hts _ zw_3_19) (fun _ h9 => h9) rfl dX3_save_49 ?_
      obtain ⟨x10, hz11, hM⟩ := zx_b1E hM
      refine va_calli (va_runS (As := [.ref (ad 1)]) (rest := []) ⟨hx, hb, hml, hown, hts⟩ (c_X3_count l D cI cZ cT (ad 1) 380 (T8 1) _ N hz11) (va_cwS 1 hts (zg_S zw_14_13 zw_14_14 zw_1_5 zw_14_15) rfl rfl rfl zyX3_count ⟨Nat.le_of_ble_eq_true rfl, Nat.le_of_ble_eq_true rfl⟩) ⟨bS_blind, bS_pre (zx_P1 hP 2 (rfl)) hK (zx_D1 hD 2 (rfl)) hN⟩ rfl rfl hl.1 rfl (lv_room (Nat.le_of_ble_eq_true rfl)) dX3_save_52 ⟨Nat.zero_le _, Nat.zero_le _⟩) hS (fun q h1 h2 => absurd h1 (Nat.not_lt.mpr h2)) (fun q h => hA q (Nat.le_trans hS.1 h)) (fun r u t H1 lc ht hvm hw hB hz1 hk1 hS => ?_)
      replace hw : x10 = r := hw; subst hw
      replace hP := zx_keep hP hk1
      rw [hQ]
      exact W.iret hx hb hr (fun t ht hW => ⟨⟨x10, T8, rfl, (Option.some.inj hM).symm, by show va_P D vwCl _ t.heap; rw [ht]; exact hP⟩, hS.F ht⟩) hS.2.2 dX3_save_55
    · replace hM := zx_f q4 hM
      refine lv_iconst (v := 0) hx hb dX3_save_22 (by decide) ?_
      rw [hQ]
      exact W.iret hx hb hr (fun t ht hW => ⟨⟨0, T2, rfl, (Option.some.inj hM).symm, by show va_P D vwCl _ t.heap; rw [ht]; exact hP⟩, hS.F ht⟩) hS.2.2 dX3_save_23
  refine lv_aload_n hx hb dX3_save_0 rfl (lv_at hl 0 rfl) ?_
  refine lv_iload_n hx hb dX3_save_1 rfl (lv_at hl 1 rfl) ?_
  refine lv_i2l hx hb dX3_save_2 rfl ?_
  refine lv_lconst (v := 0) hx hb dX3_save_3 (by decide) ?_
  refine lv_lconst (v := 1) hx hb dX3_save_4 (by decide) ?_
  obtain ⟨x12, hz13, hM⟩ := zx_b1E hM
  refine va_calli (va_runS (As := [.long (Int32.toInt64 p1), .long 0, .long 1]) (rest := [.ref h]) ⟨hx, hb, hml, hown, hts⟩ (c_X3_in l D cI cZ cT _ N (Int32.toInt64 p1) 0 1 hz13) (va_cwS 3 hts (zg_S zw_5_11 zw_5_12 zw_1_5 zw_5_13) rfl rfl rfl zyX3_in ⟨Nat.le_of_ble_eq_true rfl, Nat.le_of_ble_eq_true rfl⟩) ⟨bS_blind, bS_pre (zx_P0 hP) hK (zx_D0 hD) hN⟩ rfl rfl hl.1 rfl (lv_room (Nat.le_of_ble_eq_true rfl)) dX3_save_5 ⟨Nat.zero_le _, Nat.zero_le _⟩) hS (fun q h1 h2 => absurd h1 (Nat.not_lt.mpr h2)) (fun q h => hA q (Nat.le_trans hS.1 h)) (fun r u t H1 lc ht hvm hw hB hz1 hk1 hS => ?_)
  replace hw : x12 = r := hw; subst hw
  replace hP := zx_keep hP hk1
  refine lv_if_eq (tgt := 15) hx hb dX3_save_8 (by decide) (fun q14 => ?_) (fun q14 => ?_)
  · replace hM := zx_t q14 hM
    refine lv_iconst (v := 1) hx hb dX3_save_15 (by decide) ?_
    exact j16 p1 1 S _ _ _ hP hD hS (lv_sub hl [0, 1] rfl) hM
  · replace hM := zx_f q14 hM
    refine lv_iconst (v := 0) hx hb dX3_save_11 (by decide) ?_
    refine lv_goto (tgt := 16) hx hb dX3_save_12 (by decide) ?_
    exact j16 p1 0 S _ _ _ hP hD hS (lv_sub hl [0, 1] rfl) hM

/-! ShallowBoxesModel.restore(I)I -/
def f_X3_restore_j29 (N : Nat) (v1 : Int32) (t1 : Int32) (S_ : zx_S) : Option (Int32 × zx_S) :=
  (zx_b2 (f_X3_refused N t1 S_) (fun x1 T2 =>
(if x1 = 0 then
  (zx_b1 (f_X3_copyState N 760 380 (380 * v1) 0 (T2 4) (T2 1)) (fun g5 =>
(zx_n (zx_st T2 1 g5) (fun T7 =>
(zx_n (zx_st T7 12 (upd (T7 12) 2 0)) (fun T8 =>
(zx_b1 (f_X3_count N 380 (T8 1)) (fun x9 =>
some (x9, T8))))))))) else
  some (0, T2))))
def f_X3_restore (N : Nat) (p1 : Int32) (S : zx_S) : Option (Int32 × zx_S) :=
  (zx_b1 (f_X3_in N (Int32.toInt64 p1) 0 1) (fun x11 =>
(if x11 = 0 then
  f_X3_restore_j29 N  p1 1 S else
  (zx_rd 2 (S 5) p1 (fun x14 =>
(if x14 = 0 then
  f_X3_restore_j29 N  p1 2 S else
  f_X3_restore_j29 N  p1 0 S))))))
abbrev rmX3_restore : Room := { frames := 1, cells := 0, slots := 0, locals := 25 }
abbrev zsX3_restore : List Cond := .code yX3_restore cX3_restore 2 (some .int) :: wsL_law
theorem zyX3_restore : yX3_restore.cls ≠ "java/lang/invoke/MethodHandle" ∧ yX3_restore.cls ≠ "java/lang/invoke/VarHandle" ∧ (parseMethodDescriptor yX3_restore.desc).map (fun d => d.parameters.length) = some 1 := by decide +kernel
set_option maxHeartbeats 4000000 in
set_option maxRecDepth 100000 in
theorem c_X3_restore (l : Launch) (D : va_G) (cI cZ cT : ClassId) (h : Nat) (ad : Nat → Nat) (S : zx_S) (sz : Nat) (N : Nat) (p1 : Int32) {R : Int32 × zx_S} (hM : f_X3_restore N p1 S = some R) : Met l yX3_restore zsX3_restore rmX3_restore (va_Pc [.ref h, .int p1] (bS D (zx_ty cI cZ cT) (xW3 cI cZ h ad S) sz)) (va_Qi (fun r u => R = (r, u)) (fun u t => va_P D vwCl (xW3 cI cZ h ad u) t.heap) (va_A (xW3 cI cZ h ad S) sz)) 0 0 (va_A (xW3 cI cZ h ad S) sz) := by
  refine Met.ofW (cc := cX3_restore) (maxL := 2) (ret := (some .int)) (by decide) rfl ?_
  intro p e s m args below meth c s₁ B hml hv
  obtain ⟨rfl, hsz, hP, hK, hD0, hN⟩ := hv
  have hx := B.exec
  have hb := B.bytes
  have hr := B.returns
  have hts : ∀ w ∈ wsL_law, w.before _ s = true := fun w hw => atoms_spec (ws := zsX3_restore) B.pre w (List.mem_cons_of_mem _ hw)
  have hown : s.vm.findClass RX3 = some m.cls := findClass_of_methodNamed B.named
  have hlocks := B.notSynchronized
  subst hsz
  have hD := hD0.self (sz := s.heap.size)
  generalize hAe : va_A (xW3 cI cZ h ad S) s.heap.size = A at hD ⊢
  have hA : ∀ q : Nat, s.heap.size ≤ q → A q := fun q h => by rw [← hAe]; exact Or.inr h
  have hS : va_S A s.heap s.heap [] := va_S.rf
  have hl := lv_entry ([.ref h, .int p1]) (n := 2) (Nat.le_of_ble_eq_true rfl)
  rw [lg_entry_eq]
  generalize (lg_sl ([.ref h, .int p1]) ++ List.replicate (2 - (lg_sl ([.ref h, .int p1])).length) Slot.unset).toArray = ls at hl ⊢
  have hl : lv_has ls 2 [(0, .ref h), (1, .int p1)] := hl
  generalize hQ : MQ below (va_Qi (fun r u => R = (r, u)) (fun u t => va_P D vwCl (xW3 cI cZ h ad u) t.heap) A) ([.ref h, .int p1] : List Value).toArray s 0 0 A = Q9
  replace hQ := hQ.symm
  unfold f_X3_restore at hM
  have j29 : ∀ (v1 : Int32) (t1 : Int32) (S_ : zx_S) (H : Heap) (lc : List Loc) (ls : Array Slot), va_P D vwCl (xW3 cI cZ h ad S_) H → va_D A (xW3 cI cZ h ad S_) → va_S A s.heap H lc → lv_has ls 2 [(0, .ref h), (1, .int v1)] → f_X3_restore_j29 N v1 t1 S_ = some R → W p l e (headSpec zsX3_restore rmX3_restore).room s m ([.ref h, .int p1] : List Value).toArray below meth c H lc 0 0 Q9 (F0 m 29 ls [.int t1, .ref h]) := by
    intro v1 t1 S_ H lc ls hP hD hS hl hM
    unfold f_X3_restore_j29 at hM
    obtain ⟨x1, T2, hz3, hM⟩ := zx_b2E hM
    refine va_calli (va_runV (As := [.int t1]) (rest := []) ⟨hx, hb, hml, hown, hts⟩ (c_X3_refused l D cI cZ cT h ad S_ _ N t1  hz3) (cwV 1 hts (zg_V zw_5_14 zw_5_15 zw_5_16 zw_1_5 zw_5_17) rfl rfl rfl ⟨rfl, zyX3_refused⟩ ⟨Nat.le_of_ble_eq_true rfl, Nat.le_of_ble_eq_true rfl⟩) ⟨bS_blind, va_recv hK hP (ci := 3) (q0 := 0) rfl rfl, bS_pre hP hK hD hN⟩ rfl rfl hl.1 rfl (lv_room (Nat.le_of_ble_eq_true rfl)) dX3_restore_29 ⟨Nat.zero_le _, Nat.zero_le _⟩) hS (fun q _ h => zx_fW hD hS hA q h) (fun q h => zx_fW hD hS hA q h) (fun r u t H1 lc ht hvm hw hB hz1 hk1 hS => ?_)
    obtain ⟨hw1, hw2⟩ := Prod.mk.inj hw; subst hw1; subst hw2
    rw [ht] at hB
    replace hP := hB
    replace hD := xW3_D T2 hD
    refine lv_if_eq (tgt := 37) hx hb dX3_restore_32 (by decide) (fun q4 => ?_) (fun q4 => ?_)
    · replace hM := zx_t q4 hM
      refine lv_aload_n hx hb dX3_restore_37 rfl (lv_at hl 0 rfl) ?_
      refine va_get (D := D) (ci := 3) (v := .ref (ad 4)) (C := RX3) (T := TX3) (N := 20) hx hb hts inlX3 hown hK hP 0 rfl rfl 7 (by decide) (hts _ zw_3_22) (fun _ h9 => h9) rfl dX3_restore_38 ?_
      refine lv_sipush (v := 380) hx hb dX3_restore_41 (by decide) ?_
      refine lv_iload_n hx hb dX3_restore_44 rfl (lv_at hl 1 rfl) ?_
      refine lv_imul hx hb dX3_restore_45 ?_
      refine lv_aload_n hx hb dX3_restore_46 rfl (lv_at hl 0 rfl) ?_
      refine va_get (D := D) (ci := 3) (v := .ref (ad 1)) (C := RX3) (T := TX3) (N := 20) hx hb hts inlX3 hown hK hP 0 rfl rfl 3 (by decide) (hts _ zw_3_19) (fun _ h9 => h9) rfl dX3_restore_47 ?_
      refine lv_iconst (v := 0) hx hb dX3_restore_50 (by decide) ?_
      obtain ⟨g5, hz6, hM⟩ := zx_b1E hM
      refine va_callv (va_runS (As := [.ref (ad 4), .int (380 * v1), .ref (ad 1), .int 0]) (rest := []) ⟨hx, hb, hml, hown, hts⟩ (c_X3_copyState l D cI cZ cT (ad 4) 760 (T2 4) (ad 1) 380 (T2 1) _ N (380 * v1) 0 hz6) (va_cwS 4 hts (zg_S zw_23_4 zw_23_5 zw_1_5 zw_23_6) rfl rfl rfl zyX3_copyState ⟨Nat.le_of_ble_eq_true rfl, Nat.le_of_ble_eq_true rfl⟩) ⟨bS_blind, bS_pre (zx_P2 hP 5 2 (rfl) (rfl)) hK (zx_D2 hD 5 2 (rfl) (rfl) (by decide)) hN⟩ rfl rfl hl.1 rfl (lv_room (Nat.le_of_ble_eq_true rfl)) dX3_restore_51 ⟨Nat.zero_le _, Nat.zero_le _⟩) hS (fun q _ h => zx_f2 hD hS hA (k := 5) (j := 2) rfl rfl q h) (fun q h => zx_f2 hD hS hA (k := 5) (j := 2) rfl rfl q h) (fun u t H1 lc ht hvm hw hB hz1 hk1 hS => ?_)
      replace hw : g5 = u := hw; subst hw
      rw [ht] at hB
      replace hP := zx_set2 (k := 2) (j := 5) (by decide) hP hD rfl rfl hk1 hB
      replace hD := va_D.set (p := 2) (e := .inl (cI, 380, .inl g5)) hD rfl
      rw [xW3_pa1] at hP hD
      obtain ⟨T7, eT7, hM⟩ := zx_nE hM
      rw [← eT7] at hP hD
      refine lv_aload_n hx hb dX3_restore_54 rfl (lv_at hl 0 rfl) ?_
      refine lv_iconst (v := 0) hx hb dX3_restore_55 (by decide) ?_
      obtain ⟨T8, eT8, hM⟩ := zx_nE hM
      refine va_put (D := D) (ci := 3) (v := .int 0) (ty := .int) (C := RX3) (T := TX3) (N := 20) hx hb hts inlX3 tyX3 tyX3_ok nmX3 hown hK hP hD hS 0 rfl rfl 6 (by decide) (hts _ zw_23_3) (fun _ h9 => h9) rfl (by decide +kernel) rfl rfl (Nat.le_of_ble_eq_true rfl) dX3_restore_56 (fun H lc hP hD hS => ?_)
      replace hP : va_P D vwCl (xW3 cI cZ h ad T8) H := by rw [eT8]; exact hP
      replace hD : va_D A (xW3 cI cZ h ad T8) := by rw [eT8]; exact hD
      refine lv_aload_n hx hb dX3_restore_59 rfl (lv_at hl 0 rfl) ?_
      refine va_get (D := D) (ci := 3) (v := .ref (ad 1)) (C := RX3) (T := TX3) (N := 20) hx hb hts inlX3 hown hK hP 0 rfl rfl 3 (by decide) (hts _ zw_3_19) (fun _ h9 => h9) rfl dX3_restore_60 ?_
      obtain ⟨x9, hz10, hM⟩ := zx_b1E hM
      refine va_calli (va_runS (As := [.ref (ad 1)]) (rest := []) ⟨hx, hb, hml, hown, hts⟩ (c_X3_count l D cI cZ cT (ad 1) 380 (T8 1) _ N hz10) (va_cwS 1 hts (zg_S zw_14_13 zw_14_14 zw_1_5 zw_14_15) rfl rfl rfl zyX3_count ⟨Nat.le_of_ble_eq_true rfl, Nat.le_of_ble_eq_true rfl⟩) ⟨bS_blind, bS_pre (zx_P1 hP 2 (rfl)) hK (zx_D1 hD 2 (rfl)) hN⟩ rfl rfl hl.1 rfl (lv_room (Nat.le_of_ble_eq_true rfl)) dX3_restore_63 ⟨Nat.zero_le _, Nat.zero_le _⟩) hS (fun q h1 h2 => absurd h1 (Nat.not_lt.mpr h2)) (fun q h => hA q (Nat.le_trans hS.1 h)) (fun r u t H1 lc ht hvm hw hB hz1 hk1 hS => ?_)
      replace hw : x9 = r := hw; subst hw
      replace hP := zx_keep hP hk1
      rw [hQ]
      exact W.iret hx hb hr (fun t ht hW => ⟨⟨x9, T8, rfl, (Option.some.inj hM).symm, by show va_P D vwCl _ t.heap; rw [ht]; exact hP⟩, hS.F ht⟩) hS.2.2 dX3_restore_66
    · replace hM := zx_f q4 hM
      refine lv_iconst (v := 0) hx hb dX3_restore_35 (by decide) ?_
      rw [hQ]
      exact W.iret hx hb hr (fun t ht hW => ⟨⟨0, T2, rfl, (Option.some.inj hM).symm, by show va_P D vwCl _ t.heap; rw [ht]; exact hP⟩, hS.F ht⟩) hS.2.2 dX3_restore_36
  refine lv_aload_n hx hb dX3_restore_0 rfl (lv_at hl 0 rfl) ?_
  refine lv_iload_n hx hb dX3_restore_1 rfl (lv_at hl 1 rfl) ?_
  refine lv_i2l hx hb dX3_restore_2 rfl ?_
  refine lv_lconst (v := 0) hx hb dX3_restore_3 (by decide) ?_
  refine lv_lconst (v := 1) hx hb dX3_restore_4 (by decide) ?_
  obtain ⟨x11, hz12, hM⟩ := zx_b1E hM
  refine va_calli (va_runS (As := [.long (Int32.toInt64 p1), .long 0, .long 1]) (rest := [.ref h]) ⟨hx, hb, hml, hown, hts⟩ (c_X3_in l D cI cZ cT _ N (Int32.toInt64 p1) 0 1 hz12) (va_cwS 3 hts (zg_S zw_5_11 zw_5_12 zw_1_5 zw_5_13) rfl rfl rfl zyX3_in ⟨Nat.le_of_ble_eq_true rfl, Nat.le_of_ble_eq_true rfl⟩) ⟨bS_blind, bS_pre (zx_P0 hP) hK (zx_D0 hD) hN⟩ rfl rfl hl.1 rfl (lv_room (Nat.le_of_ble_eq_true rfl)) dX3_restore_5 ⟨Nat.zero_le _, Nat.zero_le _⟩) hS (fun q h1 h2 => absurd h1 (Nat.not_lt.mpr h2)) (fun q h => hA q (Nat.le_trans hS.1 h)) (fun r u t H1 lc ht hvm hw hB hz1 hk1 hS => ?_)
  replace hw : x11 = r := hw; subst hw
  replace hP := zx_keep hP hk1
  refine lv_if_ne (tgt := 15) hx hb dX3_restore_8 (by decide) (fun q13 => ?_) (fun q13 => ?_)
  · replace hM := zx_f q13 hM
    refine lv_aload_n hx hb dX3_restore_15 rfl (lv_at hl 0 rfl) ?_
    refine va_get (D := D) (ci := 3) (v := .ref (ad 5)) (C := RX3) (T := TX3) (N := 20) hx hb hts inlX3 hown hK hP 0 rfl rfl 8 (by decide) (hts _ zw_4_0) (fun _ h9 => h9) rfl dX3_restore_16 ?_
    refine lv_iload_n hx hb dX3_restore_19 rfl (lv_at hl 1 rfl) ?_
    obtain ⟨x14, q15, ex14, hM⟩ := zx_rdE hM
    refine va_zald (D := D) hx hb hK hP 6 1 rfl rfl q15 dX3_restore_20 ?_
    refine zx_top ex14 ?_
    refine lv_if_ne (tgt := 28) hx hb dX3_restore_21 (by decide) (fun q16 => ?_) (fun q16 => ?_)
    · replace hM := zx_f q16 hM
      refine lv_iconst (v := 0) hx hb dX3_restore_28 (by decide) ?_
      exact j29 p1 0 S _ _ _ hP hD hS (lv_sub hl [0, 1] rfl) hM
    · replace hM := zx_t q16 hM
      refine lv_iconst (v := 2) hx hb dX3_restore_24 (by decide) ?_
      refine lv_goto (tgt := 29) hx hb dX3_restore_25 (by decide) ?_
      exact j29 p1 2 S _ _ _ hP hD hS (lv_sub hl [0, 1] rfl) hM
  · replace hM := zx_t q13 hM
    refine lv_iconst (v := 1) hx hb dX3_restore_11 (by decide) ?_
    refine lv_goto (tgt := 29) hx hb dX3_restore_12 (by decide) ?_
    exact j29 p1 1 S _ _ _ hP hD hS (lv_sub hl [0, 1] rfl) hM
