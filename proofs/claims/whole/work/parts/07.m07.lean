/-! ShallowBoxesModel.anew()I -/
def f_X3_anew_j81 (N : Nat) (k14 : Int32 → zx_S → Option (Int32 × zx_S)) (v1 : Int32) (S_ : zx_S) : Option (Int32 × zx_S) :=
  (zx_n (v1 + 1) (fun x5 =>
k14 x5 S_))
def f_X3_anew_l14 (N : Nat) : Nat → Int32 → zx_S → Option (Int32 × zx_S)
  | 0, _, _ => none
  | n14 + 1, v1, S_ => (if 24 ≤ v1 then
  (zx_b2 (f_X3_overlap N 2 S_) (fun x2 T3 =>
some (x2, T3))) else
  (zx_b1 (f_X3_isThere N 380 v1 (S_ 1)) (fun x6 =>
(if x6 = 0 then
  f_X3_anew_j81 N (f_X3_anew_l14 N  n14) v1 S_ else
  (zx_n (zx_st S_ 12 (upd (S_ 12) 3 0)) (fun T9 =>
(zx_n (5 * v1) (fun x10 =>
(zx_rd 380 (T9 1) (x10 + 1) (fun x11 =>
(zx_rd 380 (T9 1) (x10 + 2) (fun x13 =>
(zx_rd 380 (T9 1) (x10 + 3) (fun x15 =>
(zx_rd 380 (T9 1) (x10 + 4) (fun x17 =>
(zx_b2 (f_X3_addOn N 2 x11 x13 x15 x17 T9) (fun x19 T20 =>
f_X3_anew_j81 N (f_X3_anew_l14 N  n14) v1 T20))))))))))))))))))
def f_X3_anew (N : Nat) (S : zx_S) : Option (Int32 × zx_S) :=
  (zx_n (zx_st S 12 (upd (S 12) 0 0)) (fun T22 =>
(zx_b1 (f_X3_begin N 380 (T22 2)) (fun g23 =>
(zx_n (zx_st T22 2 g23) (fun T25 =>
f_X3_anew_l14 N  N 0 T25))))))
abbrev rmX3_anew : Room := { frames := 8, cells := 0, slots := 0, locals := 195 }
abbrev zsX3_anew : List Cond := .code yX3_anew cX3_anew 3 (some .int) :: wsL_law
theorem zyX3_anew : yX3_anew.cls ≠ "java/lang/invoke/MethodHandle" ∧ yX3_anew.cls ≠ "java/lang/invoke/VarHandle" ∧ (parseMethodDescriptor yX3_anew.desc).map (fun d => d.parameters.length) = some 0 := by decide +kernel
set_option maxHeartbeats 4000000 in
set_option maxRecDepth 100000 in
theorem c_X3_anew (l : Launch) (D : va_G) (cI cZ cT : ClassId) (h : Nat) (ad : Nat → Nat) (S : zx_S) (sz : Nat) (N : Nat) {R : Int32 × zx_S} (hM : f_X3_anew N S = some R) : Met l yX3_anew zsX3_anew rmX3_anew (va_Pc [.ref h] (bS D (zx_ty cI cZ cT) (xW3 cI cZ h ad S) sz)) (va_Qi (fun r u => R = (r, u)) (fun u t => va_P D vwCl (xW3 cI cZ h ad u) t.heap) (va_A (xW3 cI cZ h ad S) sz)) 0 0 (va_A (xW3 cI cZ h ad S) sz) := by
  refine Met.ofW (cc := cX3_anew) (maxL := 3) (ret := (some .int)) (by decide) rfl ?_
  intro p e s m args below meth c s₁ B hml hv
  obtain ⟨rfl, hsz, hP, hK, hD0, hN⟩ := hv
  have hx := B.exec
  have hb := B.bytes
  have hr := B.returns
  have hts : ∀ w ∈ wsL_law, w.before _ s = true := fun w hw => atoms_spec (ws := zsX3_anew) B.pre w (List.mem_cons_of_mem _ hw)
  have hown : s.vm.findClass RX3 = some m.cls := findClass_of_methodNamed B.named
  have hlocks := B.notSynchronized
  subst hsz
  have hD := hD0.self (sz := s.heap.size)
  generalize hAe : va_A (xW3 cI cZ h ad S) s.heap.size = A at hD ⊢
  have hA : ∀ q : Nat, s.heap.size ≤ q → A q := fun q h => by rw [← hAe]; exact Or.inr h
  have hS : va_S A s.heap s.heap [] := va_S.rf
  have hl := lv_entry ([.ref h]) (n := 3) (Nat.le_of_ble_eq_true rfl)
  rw [lg_entry_eq]
  generalize (lg_sl ([.ref h]) ++ List.replicate (3 - (lg_sl ([.ref h])).length) Slot.unset).toArray = ls at hl ⊢
  have hl : lv_has ls 3 [(0, .ref h)] := hl
  generalize hQ : MQ below (va_Qi (fun r u => R = (r, u)) (fun u t => va_P D vwCl (xW3 cI cZ h ad u) t.heap) A) ([.ref h] : List Value).toArray s 0 0 A = Q9
  replace hQ := hQ.symm
  unfold f_X3_anew at hM
  have l14 : ∀ (n14 : Nat) (v1 : Int32) (S_ : zx_S) (H : Heap) (lc : List Loc) (ls : Array Slot), va_P D vwCl (xW3 cI cZ h ad S_) H → va_D A (xW3 cI cZ h ad S_) → va_S A s.heap H lc → lv_has ls 3 [(0, .ref h), (1, .int v1)] → f_X3_anew_l14 N n14 v1 S_ = some R → W p l e (headSpec zsX3_anew rmX3_anew).room s m ([.ref h] : List Value).toArray below meth c H lc 0 0 Q9 (F0 m 14 ls []) := by
    intro n14
    induction n14 with
    | zero =>
      intro v1 S_ H lc ls hP hD hS hl hM
      rw [f_X3_anew_l14] at hM; exact absurd hM (by intro h; cases h)
    | succ n14 ih14 =>
      intro v1 S_ H lc ls hP hD hS hl hM
      rw [f_X3_anew_l14] at hM
      refine lv_iload_n hx hb dX3_anew_14 rfl (lv_at hl 1 rfl) ?_
      refine lv_bipush (v := 24) hx hb dX3_anew_15 (by decide) ?_
      refine lv_icmp_ge (tgt := 87) hx hb dX3_anew_17 (by decide) (fun q1 => ?_) (fun q1 => ?_)
      · replace hM := zx_t q1 hM
        refine lv_aload_n hx hb dX3_anew_87 rfl (lv_at hl 0 rfl) ?_
        refine lv_aload_n hx hb dX3_anew_88 rfl (lv_at hl 0 rfl) ?_
        refine va_get (D := D) (ci := 3) (v := .ref (ad 2)) (C := RX3) (T := TX3) (N := 20) hx hb hts inlX3 hown hK hP 0 rfl rfl 4 (by decide) (hts _ zw_3_20) (fun _ h9 => h9) rfl dX3_anew_89 ?_
        obtain ⟨x2, T3, hz4, hM⟩ := zx_b2E hM
        refine va_calli (va_runV (As := [.ref (ad 2)]) (rest := []) ⟨hx, hb, hml, hown, hts⟩ (c_X3_overlap l D cI cZ cT h ad S_ _ N 2 (Or.inr rfl)  hz4) (cwV 1 hts (zg_V zw_14_19 zw_14_20 zw_14_21 zw_1_5 zw_14_22) rfl rfl rfl ⟨rfl, zyX3_overlap⟩ ⟨Nat.le_of_ble_eq_true rfl, Nat.le_of_ble_eq_true rfl⟩) ⟨bS_blind, va_recv hK hP (ci := 3) (q0 := 0) rfl rfl, bS_pre hP hK hD hN⟩ rfl rfl hl.1 rfl (lv_room (Nat.le_of_ble_eq_true rfl)) dX3_anew_92 ⟨Nat.zero_le _, Nat.zero_le _⟩) hS (fun q _ h => zx_fW hD hS hA q h) (fun q h => zx_fW hD hS hA q h) (fun r u t H1 lc ht hvm hw hB hz1 hk1 hS => ?_)
        obtain ⟨hw1, hw2⟩ := Prod.mk.inj hw; subst hw1; subst hw2
        rw [ht] at hB
        replace hP := hB
        replace hD := xW3_D T3 hD
        rw [hQ]
        exact W.iret hx hb hr (fun t ht hW => ⟨⟨x2, T3, rfl, (Option.some.inj hM).symm, by show va_P D vwCl _ t.heap; rw [ht]; exact hP⟩, hS.F ht⟩) hS.2.2 dX3_anew_95
      · replace hM := zx_f q1 hM
        have j81 : ∀ (v1 : Int32) (S_ : zx_S) (H : Heap) (lc : List Loc) (ls : Array Slot), va_P D vwCl (xW3 cI cZ h ad S_) H → va_D A (xW3 cI cZ h ad S_) → va_S A s.heap H lc → lv_has ls 3 [(0, .ref h), (1, .int v1)] → f_X3_anew_j81 N (f_X3_anew_l14 N  n14) v1 S_ = some R → W p l e (headSpec zsX3_anew rmX3_anew).room s m ([.ref h] : List Value).toArray below meth c H lc 0 0 Q9 (F0 m 81 ls []) := by
          intro v1 S_ H lc ls hP hD hS hl hM
          unfold f_X3_anew_j81 at hM
          obtain ⟨x5, ex5, hM⟩ := zx_nE hM
          refine lv_iinc (v := x5) (lv' := [(1, .int x5), (0, .ref h)]) hx hb dX3_anew_81 hl (k := 1) rfl (by rw [ex5]; rfl) (by decide) rfl (fun ls hl => ?_)
          refine lv_goto (tgt := 14) hx hb dX3_anew_84 (by decide) ?_
          exact ih14 x5 S_ _ _ _ hP hD hS (lv_sub hl [1, 0] rfl) hM
        refine lv_aload_n hx hb dX3_anew_20 rfl (lv_at hl 0 rfl) ?_
        refine va_get (D := D) (ci := 3) (v := .ref (ad 1)) (C := RX3) (T := TX3) (N := 20) hx hb hts inlX3 hown hK hP 0 rfl rfl 3 (by decide) (hts _ zw_3_19) (fun _ h9 => h9) rfl dX3_anew_21 ?_
        refine lv_iload_n hx hb dX3_anew_24 rfl (lv_at hl 1 rfl) ?_
        obtain ⟨x6, hz7, hM⟩ := zx_b1E hM
        refine va_calli (va_runS (As := [.ref (ad 1), .int v1]) (rest := []) ⟨hx, hb, hml, hown, hts⟩ (c_X3_isThere l D cI cZ cT (ad 1) 380 (S_ 1) _ N v1 hz7) (va_cwS 2 hts (zg_S zw_16_14 zw_16_15 zw_1_5 zw_16_16) rfl rfl rfl zyX3_isThere ⟨Nat.le_of_ble_eq_true rfl, Nat.le_of_ble_eq_true rfl⟩) ⟨bS_blind, bS_pre (zx_P1 hP 2 (rfl)) hK (zx_D1 hD 2 (rfl)) hN⟩ rfl rfl hl.1 rfl (lv_room (Nat.le_of_ble_eq_true rfl)) dX3_anew_25 ⟨Nat.zero_le _, Nat.zero_le _⟩) hS (fun q h1 h2 => absurd h1 (Nat.not_lt.mpr h2)) (fun q h => hA q (Nat.le_trans hS.1 h)) (fun r u t H1 lc ht hvm hw hB hz1 hk1 hS => ?_)
        replace hw : x6 = r := hw; subst hw
        replace hP := zx_keep hP hk1
        refine lv_if_eq (tgt := 81) hx hb dX3_anew_28 (by decide) (fun q8 => ?_) (fun q8 => ?_)
        · replace hM := zx_t q8 hM
          exact j81 v1 S_ _ _ _ hP hD hS (lv_sub hl [0, 1] rfl) hM
        · replace hM := zx_f q8 hM
          refine lv_aload_n hx hb dX3_anew_31 rfl (lv_at hl 0 rfl) ?_
          refine lv_iconst (v := 0) hx hb dX3_anew_32 (by decide) ?_
          obtain ⟨T9, eT9, hM⟩ := zx_nE hM
          refine va_put (D := D) (ci := 3) (v := .int 0) (ty := .int) (C := RX3) (T := TX3) (N := 20) hx hb hts inlX3 tyX3 tyX3_ok nmX3 hown hK hP hD hS 0 rfl rfl 10 (by decide) (hts _ zw_10_20) (fun _ h9 => h9) rfl (by decide +kernel) rfl rfl (Nat.le_of_ble_eq_true rfl) dX3_anew_33 (fun H lc hP hD hS => ?_)
          replace hP : va_P D vwCl (xW3 cI cZ h ad T9) H := by rw [eT9]; exact hP
          replace hD : va_D A (xW3 cI cZ h ad T9) := by rw [eT9]; exact hD
          refine lv_iconst (v := 5) hx hb dX3_anew_36 (by decide) ?_
          refine lv_iload_n hx hb dX3_anew_37 rfl (lv_at hl 1 rfl) ?_
          refine lv_imul hx hb dX3_anew_38 ?_
          obtain ⟨x10, ex10, hM⟩ := zx_nE hM
          refine zx_top ex10 ?_
          refine lv_istore_n (lv' := [(2, .int x10), (0, .ref h), (1, .int v1)]) hx hb dX3_anew_39 rfl hl (by decide) rfl (fun ls hl => ?_)
          refine lv_aload_n hx hb dX3_anew_40 rfl (lv_at hl 1 rfl) ?_
          refine lv_aload_n hx hb dX3_anew_41 rfl (lv_at hl 1 rfl) ?_
          refine va_get (D := D) (ci := 3) (v := .ref (ad 2)) (C := RX3) (T := TX3) (N := 20) hx hb hts inlX3 hown hK hP 0 rfl rfl 4 (by decide) (hts _ zw_3_20) (fun _ h9 => h9) rfl dX3_anew_42 ?_
          refine lv_aload_n hx hb dX3_anew_45 rfl (lv_at hl 1 rfl) ?_
          refine va_get (D := D) (ci := 3) (v := .ref (ad 1)) (C := RX3) (T := TX3) (N := 20) hx hb hts inlX3 hown hK hP 0 rfl rfl 3 (by decide) (hts _ zw_3_19) (fun _ h9 => h9) rfl dX3_anew_46 ?_
          refine lv_iload_n hx hb dX3_anew_49 rfl (lv_at hl 0 rfl) ?_
          refine lv_iconst (v := 1) hx hb dX3_anew_50 (by decide) ?_
          refine lv_iadd hx hb dX3_anew_51 ?_
          obtain ⟨x11, q12, ex11, hM⟩ := zx_rdE hM
          refine va_iald (D := D) hx hb hK hP 2 0 rfl rfl q12 dX3_anew_52 ?_
          refine zx_top ex11 ?_
          refine lv_aload_n hx hb dX3_anew_53 rfl (lv_at hl 1 rfl) ?_
          refine va_get (D := D) (ci := 3) (v := .ref (ad 1)) (C := RX3) (T := TX3) (N := 20) hx hb hts inlX3 hown hK hP 0 rfl rfl 3 (by decide) (hts _ zw_3_19) (fun _ h9 => h9) rfl dX3_anew_54 ?_
          refine lv_iload_n hx hb dX3_anew_57 rfl (lv_at hl 0 rfl) ?_
          refine lv_iconst (v := 2) hx hb dX3_anew_58 (by decide) ?_
          refine lv_iadd hx hb dX3_anew_59 ?_
          obtain ⟨x13, q14, ex13, hM⟩ := zx_rdE hM
          refine va_iald (D := D) hx hb hK hP 2 0 rfl rfl q14 dX3_anew_60 ?_
          refine zx_top ex13 ?_
          refine lv_aload_n hx hb dX3_anew_61 rfl (lv_at hl 1 rfl) ?_
          refine va_get (D := D) (ci := 3) (v := .ref (ad 1)) (C := RX3) (T := TX3) (N := 20) hx hb hts inlX3 hown hK hP 0 rfl rfl 3 (by decide) (hts _ zw_3_19) (fun _ h9 => h9) rfl dX3_anew_62 ?_
          refine lv_iload_n hx hb dX3_anew_65 rfl (lv_at hl 0 rfl) ?_
          refine lv_iconst (v := 3) hx hb dX3_anew_66 (by decide) ?_
          refine lv_iadd hx hb dX3_anew_67 ?_
          obtain ⟨x15, q16, ex15, hM⟩ := zx_rdE hM
          refine va_iald (D := D) hx hb hK hP 2 0 rfl rfl q16 dX3_anew_68 ?_
          refine zx_top ex15 ?_
          refine lv_aload_n hx hb dX3_anew_69 rfl (lv_at hl 1 rfl) ?_
          refine va_get (D := D) (ci := 3) (v := .ref (ad 1)) (C := RX3) (T := TX3) (N := 20) hx hb hts inlX3 hown hK hP 0 rfl rfl 3 (by decide) (hts _ zw_3_19) (fun _ h9 => h9) rfl dX3_anew_70 ?_
          refine lv_iload_n hx hb dX3_anew_73 rfl (lv_at hl 0 rfl) ?_
          refine lv_iconst (v := 4) hx hb dX3_anew_74 (by decide) ?_
          refine lv_iadd hx hb dX3_anew_75 ?_
          obtain ⟨x17, q18, ex17, hM⟩ := zx_rdE hM
          refine va_iald (D := D) hx hb hK hP 2 0 rfl rfl q18 dX3_anew_76 ?_
          refine zx_top ex17 ?_
          obtain ⟨x19, T20, hz21, hM⟩ := zx_b2E hM
          refine va_calli (va_runV (As := [.ref (ad 2), .int x11, .int x13, .int x15, .int x17]) (rest := []) ⟨hx, hb, hml, hown, hts⟩ (c_X3_addOn l D cI cZ cT h ad T9 _ N 2 (Or.inr rfl) x11 x13 x15 x17  hz21) (cwV 5 hts (zg_V zw_8_10 zw_8_11 zw_8_12 zw_1_5 zw_8_13) rfl rfl rfl ⟨rfl, zyX3_addOn⟩ ⟨Nat.le_of_ble_eq_true rfl, Nat.le_of_ble_eq_true rfl⟩) ⟨bS_blind, va_recv hK hP (ci := 3) (q0 := 0) rfl rfl, bS_pre hP hK hD hN⟩ rfl rfl hl.1 rfl (lv_room (Nat.le_of_ble_eq_true rfl)) dX3_anew_77 ⟨Nat.zero_le _, Nat.zero_le _⟩) hS (fun q _ h => zx_fW hD hS hA q h) (fun q h => zx_fW hD hS hA q h) (fun r u t H1 lc ht hvm hw hB hz1 hk1 hS => ?_)
          obtain ⟨hw1, hw2⟩ := Prod.mk.inj hw; subst hw1; subst hw2
          rw [ht] at hB
          replace hP := hB
          replace hD := xW3_D T20 hD
          refine lv_pop hx hb dX3_anew_80 rfl ?_
          exact j81 v1 T20 _ _ _ hP hD hS (lv_sub hl [1, 2] rfl) hM
  refine lv_aload_n hx hb dX3_anew_0 rfl (lv_at hl 0 rfl) ?_
  refine lv_iconst (v := 0) hx hb dX3_anew_1 (by decide) ?_
  obtain ⟨T22, eT22, hM⟩ := zx_nE hM
  refine va_put (D := D) (ci := 3) (v := .int 0) (ty := .int) (C := RX3) (T := TX3) (N := 20) hx hb hts inlX3 tyX3 tyX3_ok nmX3 hown hK hP hD hS 0 rfl rfl 0 (by decide) (hts _ zw_5_18) (fun _ h9 => h9) rfl (by decide +kernel) rfl rfl (Nat.le_of_ble_eq_true rfl) dX3_anew_2 (fun H lc hP hD hS => ?_)
  replace hP : va_P D vwCl (xW3 cI cZ h ad T22) H := by rw [eT22]; exact hP
  replace hD : va_D A (xW3 cI cZ h ad T22) := by rw [eT22]; exact hD
  refine lv_aload_n hx hb dX3_anew_5 rfl (lv_at hl 0 rfl) ?_
  refine va_get (D := D) (ci := 3) (v := .ref (ad 2)) (C := RX3) (T := TX3) (N := 20) hx hb hts inlX3 hown hK hP 0 rfl rfl 4 (by decide) (hts _ zw_3_20) (fun _ h9 => h9) rfl dX3_anew_6 ?_
  obtain ⟨g23, hz24, hM⟩ := zx_b1E hM
  refine va_callv (va_runS (As := [.ref (ad 2)]) (rest := []) ⟨hx, hb, hml, hown, hts⟩ (c_X3_begin l D cI cZ cT (ad 2) 380 (T22 2) _ N hz24) (va_cwS 1 hts (zg_S zw_4_7 zw_4_8 zw_1_5 zw_4_9) rfl rfl rfl zyX3_begin ⟨Nat.le_of_ble_eq_true rfl, Nat.le_of_ble_eq_true rfl⟩) ⟨bS_blind, bS_pre (zx_P1 hP 3 (rfl)) hK (zx_D1 hD 3 (rfl)) hN⟩ rfl rfl hl.1 rfl (lv_room (Nat.le_of_ble_eq_true rfl)) dX3_anew_9 ⟨Nat.zero_le _, Nat.zero_le _⟩) hS (fun q _ h => zx_f1 hD hS hA (k := 3) rfl q h) (fun q h => zx_f1 hD hS hA (k := 3) rfl q h) (fun u t H1 lc ht hvm hw hB hz1 hk1 hS => ?_)
  replace hw : g23 = u := hw; subst hw
  rw [ht] at hB
  replace hP := zx_set1 (k := 3) hP hD rfl hk1 hB
  replace hD := va_D.set (p := 3) (e := .inl (cI, 380, .inl g23)) hD rfl
  rw [xW3_pa2] at hP hD
  obtain ⟨T25, eT25, hM⟩ := zx_nE hM
  rw [← eT25] at hP hD
  refine lv_iconst (v := 0) hx hb dX3_anew_12 (by decide) ?_
  refine lv_istore_n (lv' := [(1, .int 0), (0, .ref h)]) hx hb dX3_anew_13 rfl hl (by decide) rfl (fun ls hl => ?_)
  exact l14 N 0 T25 _ _ _ hP hD hS (lv_sub hl [1, 0] rfl) hM

/-! ShallowBoxesModel.adds(IIII)Z -/
def f_X3_adds (N : Nat) (p1 : Int32) (p2 : Int32) (p3 : Int32) (p4 : Int32) (S : zx_S) : Option (Int32 × zx_S) :=
  (zx_b1 (f_X3_isRectangle N p1 p2 (p1 + p3) (p2 + p4)) (fun x1 =>
(if x1 = 0 then
  some (0, S) else
  (zx_b1 (f_X3_count N 380 (S 2)) (fun x4 =>
(if x4 = 24 then
  some (0, S) else
  (zx_n (zx_st S 12 (upd (S 12) 3 0)) (fun T7 =>
(zx_b2 (f_X3_addOn N 2 p1 p2 (p1 + p3) (p2 + p4) T7) (fun x8 T9 =>
some (1, T9)))))))))))
abbrev rmX3_adds : Room := { frames := 8, cells := 0, slots := 0, locals := 195 }
abbrev zsX3_adds : List Cond := .code yX3_adds cX3_adds 5 (some .boolean) :: wsL_law
theorem zyX3_adds : yX3_adds.cls ≠ "java/lang/invoke/MethodHandle" ∧ yX3_adds.cls ≠ "java/lang/invoke/VarHandle" ∧ (parseMethodDescriptor yX3_adds.desc).map (fun d => d.parameters.length) = some 4 := by decide +kernel
set_option maxHeartbeats 4000000 in
set_option maxRecDepth 100000 in
theorem c_X3_adds (l : Launch) (D : va_G) (cI cZ cT : ClassId) (h : Nat) (ad : Nat → Nat) (S : zx_S) (sz : Nat) (N : Nat) (p1 : Int32) (p2 : Int32) (p3 : Int32) (p4 : Int32) {R : Int32 × zx_S} (hM : f_X3_adds N p1 p2 p3 p4 S = some R) : Met l yX3_adds zsX3_adds rmX3_adds (va_Pc [.ref h, .int p1, .int p2, .int p3, .int p4] (bS D (zx_ty cI cZ cT) (xW3 cI cZ h ad S) sz)) (va_Qi (fun r u => R = (r, u)) (fun u t => va_P D vwCl (xW3 cI cZ h ad u) t.heap) (va_A (xW3 cI cZ h ad S) sz)) 0 0 (va_A (xW3 cI cZ h ad S) sz) := by
  refine Met.ofW (cc := cX3_adds) (maxL := 5) (ret := (some .boolean)) (by decide) rfl ?_
  intro p e s m args below meth c s₁ B hml hv
  obtain ⟨rfl, hsz, hP, hK, hD0, hN⟩ := hv
  have hx := B.exec
  have hb := B.bytes
  have hr := B.returns
  have hts : ∀ w ∈ wsL_law, w.before _ s = true := fun w hw => atoms_spec (ws := zsX3_adds) B.pre w (List.mem_cons_of_mem _ hw)
  have hown : s.vm.findClass RX3 = some m.cls := findClass_of_methodNamed B.named
  have hlocks := B.notSynchronized
  subst hsz
  have hD := hD0.self (sz := s.heap.size)
  generalize hAe : va_A (xW3 cI cZ h ad S) s.heap.size = A at hD ⊢
  have hA : ∀ q : Nat, s.heap.size ≤ q → A q := fun q h => by rw [← hAe]; exact Or.inr h
  have hS : va_S A s.heap s.heap [] := va_S.rf
  have hl := lv_entry ([.ref h, .int p1, .int p2, .int p3, .int p4]) (n := 5) (Nat.le_of_ble_eq_true rfl)
  rw [lg_entry_eq]
  generalize (lg_sl ([.ref h, .int p1, .int p2, .int p3, .int p4]) ++ List.replicate (5 - (lg_sl ([.ref h, .int p1, .int p2, .int p3, .int p4])).length) Slot.unset).toArray = ls at hl ⊢
  have hl : lv_has ls 5 [(0, .ref h), (1, .int p1), (2, .int p2), (3, .int p3), (4, .int p4)] := hl
  generalize hQ : MQ below (va_Qi (fun r u => R = (r, u)) (fun u t => va_P D vwCl (xW3 cI cZ h ad u) t.heap) A) ([.ref h, .int p1, .int p2, .int p3, .int p4] : List Value).toArray s 0 0 A = Q9
  replace hQ := hQ.symm
  unfold f_X3_adds at hM
  refine lv_iload_n hx hb dX3_adds_0 rfl (lv_at hl 1 rfl) ?_
  refine lv_iload_n hx hb dX3_adds_1 rfl (lv_at hl 2 rfl) ?_
  refine lv_iload_n hx hb dX3_adds_2 rfl (lv_at hl 1 rfl) ?_
  refine lv_iload_n hx hb dX3_adds_3 rfl (lv_at hl 3 rfl) ?_
  refine lv_iadd hx hb dX3_adds_4 ?_
  refine lv_iload_n hx hb dX3_adds_5 rfl (lv_at hl 2 rfl) ?_
  refine lv_iload hx hb dX3_adds_6 (lv_at hl 4 rfl) ?_
  refine lv_iadd hx hb dX3_adds_8 ?_
  obtain ⟨x1, hz2, hM⟩ := zx_b1E hM
  refine va_calli (va_runS (As := [.int p1, .int p2, .int (p1 + p3), .int (p2 + p4)]) (rest := []) ⟨hx, hb, hml, hown, hts⟩ (c_X3_isRectangle l D cI cZ cT _ N p1 p2 (p1 + p3) (p2 + p4) hz2) (va_cwS 4 hts (zg_S zw_22_19 zw_22_20 zw_1_5 zw_22_21) rfl rfl rfl zyX3_isRectangle ⟨Nat.le_of_ble_eq_true rfl, Nat.le_of_ble_eq_true rfl⟩) ⟨bS_blind, bS_pre (zx_P0 hP) hK (zx_D0 hD) hN⟩ rfl rfl hl.1 rfl (lv_room (Nat.le_of_ble_eq_true rfl)) dX3_adds_9 ⟨Nat.zero_le _, Nat.zero_le _⟩) hS (fun q h1 h2 => absurd h1 (Nat.not_lt.mpr h2)) (fun q h => hA q (Nat.le_trans hS.1 h)) (fun r u t H1 lc ht hvm hw hB hz1 hk1 hS => ?_)
  replace hw : x1 = r := hw; subst hw
  replace hP := zx_keep hP hk1
  refine lv_if_eq (tgt := 27) hx hb dX3_adds_12 (by decide) (fun q3 => ?_) (fun q3 => ?_)
  · replace hM := zx_t q3 hM
    refine lv_iconst (v := 0) hx hb dX3_adds_27 (by decide) ?_
    rw [hQ]
    exact W.zret hx hb hr (by rfl) (fun t ht hW => ⟨⟨0, S, rfl, (Option.some.inj hM).symm, by show va_P D vwCl _ t.heap; rw [ht]; exact hP⟩, hS.F ht⟩) hS.2.2 dX3_adds_28
  · replace hM := zx_f q3 hM
    refine lv_aload_n hx hb dX3_adds_15 rfl (lv_at hl 0 rfl) ?_
    refine va_get (D := D) (ci := 3) (v := .ref (ad 2)) (C := RX3) (T := TX3) (N := 20) hx hb hts inlX3 hown hK hP 0 rfl rfl 4 (by decide) (hts _ zw_3_20) (fun _ h9 => h9) rfl dX3_adds_16 ?_
    obtain ⟨x4, hz5, hM⟩ := zx_b1E hM
    refine va_calli (va_runS (As := [.ref (ad 2)]) (rest := []) ⟨hx, hb, hml, hown, hts⟩ (c_X3_count l D cI cZ cT (ad 2) 380 (S 2) _ N hz5) (va_cwS 1 hts (zg_S zw_14_13 zw_14_14 zw_1_5 zw_14_15) rfl rfl rfl zyX3_count ⟨Nat.le_of_ble_eq_true rfl, Nat.le_of_ble_eq_true rfl⟩) ⟨bS_blind, bS_pre (zx_P1 hP 3 (rfl)) hK (zx_D1 hD 3 (rfl)) hN⟩ rfl rfl hl.1 rfl (lv_room (Nat.le_of_ble_eq_true rfl)) dX3_adds_19 ⟨Nat.zero_le _, Nat.zero_le _⟩) hS (fun q h1 h2 => absurd h1 (Nat.not_lt.mpr h2)) (fun q h => hA q (Nat.le_trans hS.1 h)) (fun r u t H1 lc ht hvm hw hB hz1 hk1 hS => ?_)
    replace hw : x4 = r := hw; subst hw
    replace hP := zx_keep hP hk1
    refine lv_bipush (v := 24) hx hb dX3_adds_22 (by decide) ?_
    refine lv_icmp_ne (tgt := 29) hx hb dX3_adds_24 (by decide) (fun q6 => ?_) (fun q6 => ?_)
    · replace hM := zx_f q6 hM
      refine lv_aload_n hx hb dX3_adds_29 rfl (lv_at hl 0 rfl) ?_
      refine lv_iconst (v := 0) hx hb dX3_adds_30 (by decide) ?_
      obtain ⟨T7, eT7, hM⟩ := zx_nE hM
      refine va_put (D := D) (ci := 3) (v := .int 0) (ty := .int) (C := RX3) (T := TX3) (N := 20) hx hb hts inlX3 tyX3 tyX3_ok nmX3 hown hK hP hD hS 0 rfl rfl 10 (by decide) (hts _ zw_10_20) (fun _ h9 => h9) rfl (by decide +kernel) rfl rfl (Nat.le_of_ble_eq_true rfl) dX3_adds_31 (fun H lc hP hD hS => ?_)
      replace hP : va_P D vwCl (xW3 cI cZ h ad T7) H := by rw [eT7]; exact hP
      replace hD : va_D A (xW3 cI cZ h ad T7) := by rw [eT7]; exact hD
      refine lv_aload_n hx hb dX3_adds_34 rfl (lv_at hl 0 rfl) ?_
      refine lv_aload_n hx hb dX3_adds_35 rfl (lv_at hl 0 rfl) ?_
      refine va_get (D := D) (ci := 3) (v := .ref (ad 2)) (C := RX3) (T := TX3) (N := 20) hx hb hts inlX3 hown hK hP 0 rfl rfl 4 (by decide) (hts _ zw_3_20) (fun _ h9 => h9) rfl dX3_adds_36 ?_
      refine lv_iload_n hx hb dX3_adds_39 rfl (lv_at hl 1 rfl) ?_
      refine lv_iload_n hx hb dX3_adds_40 rfl (lv_at hl 2 rfl) ?_
      refine lv_iload_n hx hb dX3_adds_41 rfl (lv_at hl 1 rfl) ?_
      refine lv_iload_n hx hb dX3_adds_42 rfl (lv_at hl 3 rfl) ?_
      refine lv_iadd hx hb dX3_adds_43 ?_
      refine lv_iload_n hx hb dX3_adds_44 rfl (lv_at hl 2 rfl) ?_
      refine lv_iload hx hb dX3_adds_45 (lv_at hl 4 rfl) ?_
      refine lv_iadd hx hb dX3_adds_47 ?_
      obtain ⟨x8, T9, hz10, hM⟩ := zx_b2E hM
      refine va_calli (va_runV (As := [.ref (ad 2), .int p1, .int p2, .int (p1 + p3), .int (p2 + p4)]) (rest := []) ⟨hx, hb, hml, hown, hts⟩ (c_X3_addOn l D cI cZ cT h ad T7 _ N 2 (Or.inr rfl) p1 p2 (p1 + p3) (p2 + p4)  hz10) (cwV 5 hts (zg_V zw_8_10 zw_8_11 zw_8_12 zw_1_5 zw_8_13) rfl rfl rfl ⟨rfl, zyX3_addOn⟩ ⟨Nat.le_of_ble_eq_true rfl, Nat.le_of_ble_eq_true rfl⟩) ⟨bS_blind, va_recv hK hP (ci := 3) (q0 := 0) rfl rfl, bS_pre hP hK hD hN⟩ rfl rfl hl.1 rfl (lv_room (Nat.le_of_ble_eq_true rfl)) dX3_adds_48 ⟨Nat.zero_le _, Nat.zero_le _⟩) hS (fun q _ h => zx_fW hD hS hA q h) (fun q h => zx_fW hD hS hA q h) (fun r u t H1 lc ht hvm hw hB hz1 hk1 hS => ?_)
      obtain ⟨hw1, hw2⟩ := Prod.mk.inj hw; subst hw1; subst hw2
      rw [ht] at hB
      replace hP := hB
      replace hD := xW3_D T9 hD
      refine lv_pop hx hb dX3_adds_51 rfl ?_
      refine lv_iconst (v := 1) hx hb dX3_adds_52 (by decide) ?_
      rw [hQ]
      exact W.zret hx hb hr (by rfl) (fun t ht hW => ⟨⟨1, T9, rfl, (Option.some.inj hM).symm, by show va_P D vwCl _ t.heap; rw [ht]; exact hP⟩, hS.F ht⟩) hS.2.2 dX3_adds_53
    · replace hM := zx_t q6 hM
      refine lv_iconst (v := 0) hx hb dX3_adds_27 (by decide) ?_
      rw [hQ]
      exact W.zret hx hb hr (by rfl) (fun t ht hW => ⟨⟨0, S, rfl, (Option.some.inj hM).symm, by show va_P D vwCl _ t.heap; rw [ht]; exact hP⟩, hS.F ht⟩) hS.2.2 dX3_adds_28

/-! ShallowBoxesModel.moves(III)Z -/
def f_X3_moves (N : Nat) (p1 : Int32) (p2 : Int32) (p3 : Int32) (S : zx_S) : Option (Int32 × zx_S) :=
  (zx_b1 (f_X3_whyNotMove N 380 p1 p2 p3 (S 2)) (fun x1 =>
(if x1 = 0 then
  (zx_b1 (f_X3_moveOn N 2 p1 p2 p3 S) (fun T4 =>
some (1, T4))) else
  some (0, S))))
abbrev rmX3_moves : Room := { frames := 9, cells := 0, slots := 0, locals := 218 }
abbrev zsX3_moves : List Cond := .code yX3_moves cX3_moves 4 (some .boolean) :: wsL_law
theorem zyX3_moves : yX3_moves.cls ≠ "java/lang/invoke/MethodHandle" ∧ yX3_moves.cls ≠ "java/lang/invoke/VarHandle" ∧ (parseMethodDescriptor yX3_moves.desc).map (fun d => d.parameters.length) = some 3 := by decide +kernel
set_option maxHeartbeats 4000000 in
set_option maxRecDepth 100000 in
theorem c_X3_moves (l : Launch) (D : va_G) (cI cZ cT : ClassId) (h : Nat) (ad : Nat → Nat) (S : zx_S) (sz : Nat) (N : Nat) (p1 : Int32) (p2 : Int32) (p3 : Int32) {R : Int32 × zx_S} (hM : f_X3_moves N p1 p2 p3 S = some R) : Met l yX3_moves zsX3_moves rmX3_moves (va_Pc [.ref h, .int p1, .int p2, .int p3] (bS D (zx_ty cI cZ cT) (xW3 cI cZ h ad S) sz)) (va_Qi (fun r u => R = (r, u)) (fun u t => va_P D vwCl (xW3 cI cZ h ad u) t.heap) (va_A (xW3 cI cZ h ad S) sz)) 0 0 (va_A (xW3 cI cZ h ad S) sz) := by
  refine Met.ofW (cc := cX3_moves) (maxL := 4) (ret := (some .boolean)) (by decide) rfl ?_
  intro p e s m args below meth c s₁ B hml hv
  obtain ⟨rfl, hsz, hP, hK, hD0, hN⟩ := hv
  have hx := B.exec
  have hb := B.bytes
  have hr := B.returns
  have hts : ∀ w ∈ wsL_law, w.before _ s = true := fun w hw => atoms_spec (ws := zsX3_moves) B.pre w (List.mem_cons_of_mem _ hw)
  have hown : s.vm.findClass RX3 = some m.cls := findClass_of_methodNamed B.named
  have hlocks := B.notSynchronized
  subst hsz
  have hD := hD0.self (sz := s.heap.size)
  generalize hAe : va_A (xW3 cI cZ h ad S) s.heap.size = A at hD ⊢
  have hA : ∀ q : Nat, s.heap.size ≤ q → A q := fun q h => by rw [← hAe]; exact Or.inr h
  have hS : va_S A s.heap s.heap [] := va_S.rf
  have hl := lv_entry ([.ref h, .int p1, .int p2, .int p3]) (n := 4) (Nat.le_of_ble_eq_true rfl)
  rw [lg_entry_eq]
  generalize (lg_sl ([.ref h, .int p1, .int p2, .int p3]) ++ List.replicate (4 - (lg_sl ([.ref h, .int p1, .int p2, .int p3])).length) Slot.unset).toArray = ls at hl ⊢
  have hl : lv_has ls 4 [(0, .ref h), (1, .int p1), (2, .int p2), (3, .int p3)] := hl
  generalize hQ : MQ below (va_Qi (fun r u => R = (r, u)) (fun u t => va_P D vwCl (xW3 cI cZ h ad u) t.heap) A) ([.ref h, .int p1, .int p2, .int p3] : List Value).toArray s 0 0 A = Q9
  replace hQ := hQ.symm
  unfold f_X3_moves at hM
  refine lv_aload_n hx hb dX3_moves_0 rfl (lv_at hl 0 rfl) ?_
  refine va_get (D := D) (ci := 3) (v := .ref (ad 2)) (C := RX3) (T := TX3) (N := 20) hx hb hts inlX3 hown hK hP 0 rfl rfl 4 (by decide) (hts _ zw_3_20) (fun _ h9 => h9) rfl dX3_moves_1 ?_
  refine lv_iload_n hx hb dX3_moves_4 rfl (lv_at hl 1 rfl) ?_
  refine lv_iload_n hx hb dX3_moves_5 rfl (lv_at hl 2 rfl) ?_
  refine lv_iload_n hx hb dX3_moves_6 rfl (lv_at hl 3 rfl) ?_
  obtain ⟨x1, hz2, hM⟩ := zx_b1E hM
  refine va_calli (va_runS (As := [.ref (ad 2), .int p1, .int p2, .int p3]) (rest := []) ⟨hx, hb, hml, hown, hts⟩ (c_X3_whyNotMove l D cI cZ cT (ad 2) 380 (S 2) _ N p1 p2 p3 hz2) (va_cwS 4 hts (zg_S zw_26_2 zw_26_3 zw_1_5 zw_26_4) rfl rfl rfl zyX3_whyNotMove ⟨Nat.le_of_ble_eq_true rfl, Nat.le_of_ble_eq_true rfl⟩) ⟨bS_blind, bS_pre (zx_P1 hP 3 (rfl)) hK (zx_D1 hD 3 (rfl)) hN⟩ rfl rfl hl.1 rfl (lv_room (Nat.le_of_ble_eq_true rfl)) dX3_moves_7 ⟨Nat.zero_le _, Nat.zero_le _⟩) hS (fun q h1 h2 => absurd h1 (Nat.not_lt.mpr h2)) (fun q h => hA q (Nat.le_trans hS.1 h)) (fun r u t H1 lc ht hvm hw hB hz1 hk1 hS => ?_)
  replace hw : x1 = r := hw; subst hw
  replace hP := zx_keep hP hk1
  refine lv_if_eq (tgt := 15) hx hb dX3_moves_10 (by decide) (fun q3 => ?_) (fun q3 => ?_)
  · replace hM := zx_t q3 hM
    refine lv_aload_n hx hb dX3_moves_15 rfl (lv_at hl 0 rfl) ?_
    refine lv_aload_n hx hb dX3_moves_16 rfl (lv_at hl 0 rfl) ?_
    refine va_get (D := D) (ci := 3) (v := .ref (ad 2)) (C := RX3) (T := TX3) (N := 20) hx hb hts inlX3 hown hK hP 0 rfl rfl 4 (by decide) (hts _ zw_3_20) (fun _ h9 => h9) rfl dX3_moves_17 ?_
    refine lv_iload_n hx hb dX3_moves_20 rfl (lv_at hl 1 rfl) ?_
    refine lv_iload_n hx hb dX3_moves_21 rfl (lv_at hl 2 rfl) ?_
    refine lv_iload_n hx hb dX3_moves_22 rfl (lv_at hl 3 rfl) ?_
    obtain ⟨T4, hz5, hM⟩ := zx_b1E hM
    refine va_callv (va_runV (As := [.ref (ad 2), .int p1, .int p2, .int p3]) (rest := []) ⟨hx, hb, hml, hown, hts⟩ (c_X3_moveOn l D cI cZ cT h ad S _ N 2 (Or.inr rfl) p1 p2 p3  hz5) (cwV 4 hts (zg_V zw_26_6 zw_26_7 zw_26_8 zw_1_5 zw_26_9) rfl rfl rfl ⟨rfl, zyX3_moveOn⟩ ⟨Nat.le_of_ble_eq_true rfl, Nat.le_of_ble_eq_true rfl⟩) ⟨bS_blind, va_recv hK hP (ci := 3) (q0 := 0) rfl rfl, bS_pre hP hK hD hN⟩ rfl rfl hl.1 rfl (lv_room (Nat.le_of_ble_eq_true rfl)) dX3_moves_23 ⟨Nat.zero_le _, Nat.zero_le _⟩) hS (fun q _ h => zx_fW hD hS hA q h) (fun q h => zx_fW hD hS hA q h) (fun u t H1 lc ht hvm hw hB hz1 hk1 hS => ?_)
    replace hw : T4 = u := hw; subst hw
    rw [ht] at hB
    replace hP := hB
    replace hD := xW3_D T4 hD
    refine lv_iconst (v := 1) hx hb dX3_moves_26 (by decide) ?_
    rw [hQ]
    exact W.zret hx hb hr (by rfl) (fun t ht hW => ⟨⟨1, T4, rfl, (Option.some.inj hM).symm, by show va_P D vwCl _ t.heap; rw [ht]; exact hP⟩, hS.F ht⟩) hS.2.2 dX3_moves_27
  · replace hM := zx_f q3 hM
    refine lv_iconst (v := 0) hx hb dX3_moves_13 (by decide) ?_
    rw [hQ]
    exact W.zret hx hb hr (by rfl) (fun t ht hW => ⟨⟨0, S, rfl, (Option.some.inj hM).symm, by show va_P D vwCl _ t.heap; rw [ht]; exact hP⟩, hS.F ht⟩) hS.2.2 dX3_moves_14

/-! ShallowBoxesModel.command(IIIII)Z -/
def f_X3_command (N : Nat) (p1 : Int32) (p2 : Int32) (p3 : Int32) (p4 : Int32) (p5 : Int32) (S : zx_S) : Option (Int32 × zx_S) :=
  (if p1 = 1 then
  (zx_b2 (f_X3_adds N p2 p3 p4 p5 S) (fun x2 T3 =>
(zx_bl x2 (
some (x2, T3))))) else
(if p1 = 2 then
  (if ((p3 + p4) + p5) = 0 then
  (zx_b1 (f_X3_isThere N 380 p2 (S 2)) (fun x8 =>
(if x8 = 0 then
  some (0, S) else
  (zx_b2 (f_X3_removeOn N 2 p2 S) (fun x11 T12 =>
(if x11 ≤ 0 then
  some (0, T12) else
  some (1, T12))))))) else
  some (0, S)) else
(if p1 = 3 then
  (if p5 = 0 then
  (zx_b2 (f_X3_moves N p2 p3 p4 S) (fun x17 T18 =>
(if x17 = 0 then
  some (0, T18) else
  some (1, T18)))) else
  some (0, S)) else
(if p1 = 4 then
  (if p5 = 0 then
  (zx_b2 (f_X3_moves N p2 (-p3) (-p4) S) (fun x23 T24 =>
(if x23 = 0 then
  some (0, T24) else
  some (1, T24)))) else
  some (0, S)) else
(if p1 = 5 then
  (if ((p2 + p3) + p4) = 0 then
  (zx_b1 (f_X3_nodes N 380 (S 2)) (fun x29 =>
(if p5 < x29 then
  some (0, S) else
  some (1, S)))) else
  some (0, S)) else
(if p1 = 6 then
  (if p2 = 0 then
  (if 10 ≤ p3 then
  some (0, S) else
  (zx_b2 (f_X3_overlap N 2 S) (fun x35 T36 =>
(if (((10000 * p3) + (100 * p4)) + p5) < x35 then
  some (0, T36) else
  some (1, T36))))) else
  some (0, S)) else
(if p1 = 7 then
  (if p5 = 0 then
  (zx_b1 (f_X3_isThere N 380 p4 (S 2)) (fun x41 =>
(if x41 = 0 then
  some (0, S) else
  (zx_b1 (f_X3_nearestOn N 380 p2 p3 0 (S 2)) (fun x44 =>
(if x44 = p4 then
  some (1, S) else
  some (0, S))))))) else
  some (0, S)) else
(if p1 = 8 then
  (if p5 = 0 then
  (zx_b1 (f_X3_isThere N 380 p4 (S 2)) (fun x49 =>
(if x49 = 0 then
  some (0, S) else
  (zx_b1 (f_X3_distance N 380 p4 p2 p3 (S 2)) (fun x52 =>
(if x52 = 0 then
  some (1, S) else
  some (0, S))))))) else
  some (0, S)) else
some (0, S)))))))))
abbrev rmX3_command : Room := { frames := 10, cells := 0, slots := 0, locals := 241 }
abbrev zsX3_command : List Cond := .code yX3_command cX3_command 6 (some .boolean) :: wsL_law
theorem zyX3_command : yX3_command.cls ≠ "java/lang/invoke/MethodHandle" ∧ yX3_command.cls ≠ "java/lang/invoke/VarHandle" ∧ (parseMethodDescriptor yX3_command.desc).map (fun d => d.parameters.length) = some 5 := by decide +kernel
set_option maxHeartbeats 4000000 in
set_option maxRecDepth 100000 in
theorem c_X3_command (l : Launch) (D : va_G) (cI cZ cT : ClassId) (h : Nat) (ad : Nat → Nat) (S : zx_S) (sz : Nat) (N : Nat) (p1 : Int32) (p2 : Int32) (p3 : Int32) (p4 : Int32) (p5 : Int32) {R : Int32 × zx_S} (hM : f_X3_command N p1 p2 p3 p4 p5 S = some R) : Met l yX3_command zsX3_command rmX3_command (va_Pc [.ref h, .int p1, .int p2, .int p3, .int p4, .int p5] (bS D (zx_ty cI cZ cT) (xW3 cI cZ h ad S) sz)) (va_Qi (fun r u => R = (r, u)) (fun u t => va_P D vwCl (xW3 cI cZ h ad u) t.heap) (va_A (xW3 cI cZ h ad S) sz)) 0 0 (va_A (xW3 cI cZ h ad S) sz) := by
  refine Met.ofW (cc := cX3_command) (maxL := 6) (ret := (some .boolean)) (by decide) rfl ?_
  intro p e s m args below meth c s₁ B hml hv
  obtain ⟨rfl, hsz, hP, hK, hD0, hN⟩ := hv
  have hx := B.exec
  have hb := B.bytes
  have hr := B.returns
  have hts : ∀ w ∈ wsL_law, w.before _ s = true := fun w hw => atoms_spec (ws := zsX3_command) B.pre w (List.mem_cons_of_mem _ hw)
  have hown : s.vm.findClass RX3 = some m.cls := findClass_of_methodNamed B.named
  have hlocks := B.notSynchronized
  subst hsz
  have hD := hD0.self (sz := s.heap.size)
  generalize hAe : va_A (xW3 cI cZ h ad S) s.heap.size = A at hD ⊢
  have hA : ∀ q : Nat, s.heap.size ≤ q → A q := fun q h => by rw [← hAe]; exact Or.inr h
  have hS : va_S A s.heap s.heap [] := va_S.rf
  have hl := lv_entry ([.ref h, .int p1, .int p2, .int p3, .int p4, .int p5]) (n := 6) (Nat.le_of_ble_eq_true rfl)
  rw [lg_entry_eq]
  generalize (lg_sl ([.ref h, .int p1, .int p2, .int p3, .int p4, .int p5]) ++ List.replicate (6 - (lg_sl ([.ref h, .int p1, .int p2, .int p3, .int p4, .int p5])).length) Slot.unset).toArray = ls at hl ⊢
  have hl : lv_has ls 6 [(0, .ref h), (1, .int p1), (2, .int p2), (3, .int p3), (4, .int p4), (5, .int p5)] := hl
  generalize hQ : MQ below (va_Qi (fun r u => R = (r, u)) (fun u t => va_P D vwCl (xW3 cI cZ h ad u) t.heap) A) ([.ref h, .int p1, .int p2, .int p3, .int p4, .int p5] : List Value).toArray s 0 0 A = Q9
  replace hQ := hQ.symm
  unfold f_X3_command at hM
  refine lv_iload_n hx hb dX3_command_0 rfl (lv_at hl 1 rfl) ?_
  by_cases q1 : p1 = 1
  · replace hM := zx_t q1 hM
    refine lv_tableIn (tgt := 48) hx hb dX3_command_1 (by rw [q1]; decide) (by rw [q1]; decide) (by rw [q1]; rfl) (by decide) ?_
    refine lv_aload_n hx hb dX3_command_48 rfl (lv_at hl 0 rfl) ?_
    refine lv_iload_n hx hb dX3_command_49 rfl (lv_at hl 2 rfl) ?_
    refine lv_iload_n hx hb dX3_command_50 rfl (lv_at hl 3 rfl) ?_
    refine lv_iload hx hb dX3_command_51 (lv_at hl 4 rfl) ?_
    refine lv_iload hx hb dX3_command_53 (lv_at hl 5 rfl) ?_
    obtain ⟨x2, T3, hz4, hM⟩ := zx_b2E hM
    refine va_calli (va_runV (As := [.int p2, .int p3, .int p4, .int p5]) (rest := []) ⟨hx, hb, hml, hown, hts⟩ (c_X3_adds l D cI cZ cT h ad S _ N p2 p3 p4 p5  hz4) (cwV 4 hts (zg_V zw_33_1 zw_33_2 zw_33_3 zw_1_5 zw_33_4) rfl rfl rfl ⟨rfl, zyX3_adds⟩ ⟨Nat.le_of_ble_eq_true rfl, Nat.le_of_ble_eq_true rfl⟩) ⟨bS_blind, va_recv hK hP (ci := 3) (q0 := 0) rfl rfl, bS_pre hP hK hD hN⟩ rfl rfl hl.1 rfl (lv_room (Nat.le_of_ble_eq_true rfl)) dX3_command_55 ⟨Nat.zero_le _, Nat.zero_le _⟩) hS (fun q _ h => zx_fW hD hS hA q h) (fun q h => zx_fW hD hS hA q h) (fun r u t H1 lc ht hvm hw hB hz1 hk1 hS => ?_)
    obtain ⟨hw1, hw2⟩ := Prod.mk.inj hw; subst hw1; subst hw2
    rw [ht] at hB
    replace hP := hB
    replace hD := xW3_D T3 hD
    obtain ⟨q5, hM⟩ := zx_blE hM
    rw [hQ]
    exact W.zret hx hb hr (zx_nar q5) (fun t ht hW => ⟨⟨x2, T3, rfl, (Option.some.inj hM).symm, by show va_P D vwCl _ t.heap; rw [ht]; exact hP⟩, hS.F ht⟩) hS.2.2 dX3_command_58
  · replace hM := zx_f q1 hM
    by_cases q6 : p1 = 2
    · replace hM := zx_t q6 hM
      refine lv_tableIn (tgt := 59) hx hb dX3_command_1 (by rw [q6]; decide) (by rw [q6]; decide) (by rw [q6]; rfl) (by decide) ?_
      refine lv_iload_n hx hb dX3_command_59 rfl (lv_at hl 3 rfl) ?_
      refine lv_iload hx hb dX3_command_60 (lv_at hl 4 rfl) ?_
      refine lv_iadd hx hb dX3_command_62 ?_
      refine lv_iload hx hb dX3_command_63 (lv_at hl 5 rfl) ?_
      refine lv_iadd hx hb dX3_command_65 ?_
      refine lv_if_ne (tgt := 96) hx hb dX3_command_66 (by decide) (fun q7 => ?_) (fun q7 => ?_)
      · replace hM := zx_f q7 hM
        refine lv_iconst (v := 0) hx hb dX3_command_96 (by decide) ?_
        rw [hQ]
        exact W.zret hx hb hr (by rfl) (fun t ht hW => ⟨⟨0, S, rfl, (Option.some.inj hM).symm, by show va_P D vwCl _ t.heap; rw [ht]; exact hP⟩, hS.F ht⟩) hS.2.2 dX3_command_97
      · replace hM := zx_t q7 hM
        refine lv_aload_n hx hb dX3_command_69 rfl (lv_at hl 0 rfl) ?_
        refine va_get (D := D) (ci := 3) (v := .ref (ad 2)) (C := RX3) (T := TX3) (N := 20) hx hb hts inlX3 hown hK hP 0 rfl rfl 4 (by decide) (hts _ zw_3_20) (fun _ h9 => h9) rfl dX3_command_70 ?_
        refine lv_iload_n hx hb dX3_command_73 rfl (lv_at hl 2 rfl) ?_
        obtain ⟨x8, hz9, hM⟩ := zx_b1E hM
        refine va_calli (va_runS (As := [.ref (ad 2), .int p2]) (rest := []) ⟨hx, hb, hml, hown, hts⟩ (c_X3_isThere l D cI cZ cT (ad 2) 380 (S 2) _ N p2 hz9) (va_cwS 2 hts (zg_S zw_16_14 zw_16_15 zw_1_5 zw_16_16) rfl rfl rfl zyX3_isThere ⟨Nat.le_of_ble_eq_true rfl, Nat.le_of_ble_eq_true rfl⟩) ⟨bS_blind, bS_pre (zx_P1 hP 3 (rfl)) hK (zx_D1 hD 3 (rfl)) hN⟩ rfl rfl hl.1 rfl (lv_room (Nat.le_of_ble_eq_true rfl)) dX3_command_74 ⟨Nat.zero_le _, Nat.zero_le _⟩) hS (fun q h1 h2 => absurd h1 (Nat.not_lt.mpr h2)) (fun q h => hA q (Nat.le_trans hS.1 h)) (fun r u t H1 lc ht hvm hw hB hz1 hk1 hS => ?_)
        replace hw : x8 = r := hw; subst hw
        replace hP := zx_keep hP hk1
        refine lv_if_eq (tgt := 96) hx hb dX3_command_77 (by decide) (fun q10 => ?_) (fun q10 => ?_)
        · replace hM := zx_t q10 hM
          refine lv_iconst (v := 0) hx hb dX3_command_96 (by decide) ?_
          rw [hQ]
          exact W.zret hx hb hr (by rfl) (fun t ht hW => ⟨⟨0, S, rfl, (Option.some.inj hM).symm, by show va_P D vwCl _ t.heap; rw [ht]; exact hP⟩, hS.F ht⟩) hS.2.2 dX3_command_97
        · replace hM := zx_f q10 hM
          refine lv_aload_n hx hb dX3_command_80 rfl (lv_at hl 0 rfl) ?_
          refine lv_aload_n hx hb dX3_command_81 rfl (lv_at hl 0 rfl) ?_
          refine va_get (D := D) (ci := 3) (v := .ref (ad 2)) (C := RX3) (T := TX3) (N := 20) hx hb hts inlX3 hown hK hP 0 rfl rfl 4 (by decide) (hts _ zw_3_20) (fun _ h9 => h9) rfl dX3_command_82 ?_
          refine lv_iload_n hx hb dX3_command_85 rfl (lv_at hl 2 rfl) ?_
          obtain ⟨x11, T12, hz13, hM⟩ := zx_b2E hM
          refine va_calli (va_runV (As := [.ref (ad 2), .int p2]) (rest := []) ⟨hx, hb, hml, hown, hts⟩ (c_X3_removeOn l D cI cZ cT h ad S _ N 2 (Or.inr rfl) p2  hz13) (cwV 2 hts (zg_V zw_24_18 zw_24_19 zw_24_20 zw_1_5 zw_24_21) rfl rfl rfl ⟨rfl, zyX3_removeOn⟩ ⟨Nat.le_of_ble_eq_true rfl, Nat.le_of_ble_eq_true rfl⟩) ⟨bS_blind, va_recv hK hP (ci := 3) (q0 := 0) rfl rfl, bS_pre hP hK hD hN⟩ rfl rfl hl.1 rfl (lv_room (Nat.le_of_ble_eq_true rfl)) dX3_command_86 ⟨Nat.zero_le _, Nat.zero_le _⟩) hS (fun q _ h => zx_fW hD hS hA q h) (fun q h => zx_fW hD hS hA q h) (fun r u t H1 lc ht hvm hw hB hz1 hk1 hS => ?_)
          obtain ⟨hw1, hw2⟩ := Prod.mk.inj hw; subst hw1; subst hw2
          rw [ht] at hB
          replace hP := hB
          replace hD := xW3_D T12 hD
          refine lv_if_le (tgt := 96) hx hb dX3_command_89 (by decide) (fun q14 => ?_) (fun q14 => ?_)
          · replace hM := zx_t q14 hM
            refine lv_iconst (v := 0) hx hb dX3_command_96 (by decide) ?_
            rw [hQ]
            exact W.zret hx hb hr (by rfl) (fun t ht hW => ⟨⟨0, T12, rfl, (Option.some.inj hM).symm, by show va_P D vwCl _ t.heap; rw [ht]; exact hP⟩, hS.F ht⟩) hS.2.2 dX3_command_97
          · replace hM := zx_f q14 hM
            refine lv_iconst (v := 1) hx hb dX3_command_92 (by decide) ?_
            refine lv_goto (tgt := 97) hx hb dX3_command_93 (by decide) ?_
            rw [hQ]
            exact W.zret hx hb hr (by rfl) (fun t ht hW => ⟨⟨1, T12, rfl, (Option.some.inj hM).symm, by show va_P D vwCl _ t.heap; rw [ht]; exact hP⟩, hS.F ht⟩) hS.2.2 dX3_command_97
    · replace hM := zx_f q6 hM
      by_cases q15 : p1 = 3
      · replace hM := zx_t q15 hM
        refine lv_tableIn (tgt := 98) hx hb dX3_command_1 (by rw [q15]; decide) (by rw [q15]; decide) (by rw [q15]; rfl) (by decide) ?_
        refine lv_iload hx hb dX3_command_98 (lv_at hl 5 rfl) ?_
        refine lv_if_ne (tgt := 118) hx hb dX3_command_100 (by decide) (fun q16 => ?_) (fun q16 => ?_)
        · replace hM := zx_f q16 hM
          refine lv_iconst (v := 0) hx hb dX3_command_118 (by decide) ?_
          rw [hQ]
          exact W.zret hx hb hr (by rfl) (fun t ht hW => ⟨⟨0, S, rfl, (Option.some.inj hM).symm, by show va_P D vwCl _ t.heap; rw [ht]; exact hP⟩, hS.F ht⟩) hS.2.2 dX3_command_119
        · replace hM := zx_t q16 hM
          refine lv_aload_n hx hb dX3_command_103 rfl (lv_at hl 0 rfl) ?_
          refine lv_iload_n hx hb dX3_command_104 rfl (lv_at hl 2 rfl) ?_
          refine lv_iload_n hx hb dX3_command_105 rfl (lv_at hl 3 rfl) ?_
          refine lv_iload hx hb dX3_command_106 (lv_at hl 4 rfl) ?_
          obtain ⟨x17, T18, hz19, hM⟩ := zx_b2E hM
          refine va_calli (va_runV (As := [.int p2, .int p3, .int p4]) (rest := []) ⟨hx, hb, hml, hown, hts⟩ (c_X3_moves l D cI cZ cT h ad S _ N p2 p3 p4  hz19) (cwV 3 hts (zg_V zw_33_5 zw_33_6 zw_33_7 zw_1_5 zw_33_8) rfl rfl rfl ⟨rfl, zyX3_moves⟩ ⟨Nat.le_of_ble_eq_true rfl, Nat.le_of_ble_eq_true rfl⟩) ⟨bS_blind, va_recv hK hP (ci := 3) (q0 := 0) rfl rfl, bS_pre hP hK hD hN⟩ rfl rfl hl.1 rfl (lv_room (Nat.le_of_ble_eq_true rfl)) dX3_command_108 ⟨Nat.zero_le _, Nat.zero_le _⟩) hS (fun q _ h => zx_fW hD hS hA q h) (fun q h => zx_fW hD hS hA q h) (fun r u t H1 lc ht hvm hw hB hz1 hk1 hS => ?_)
          obtain ⟨hw1, hw2⟩ := Prod.mk.inj hw; subst hw1; subst hw2
          rw [ht] at hB
          replace hP := hB
          replace hD := xW3_D T18 hD
          refine lv_if_eq (tgt := 118) hx hb dX3_command_111 (by decide) (fun q20 => ?_) (fun q20 => ?_)
          · replace hM := zx_t q20 hM
            refine lv_iconst (v := 0) hx hb dX3_command_118 (by decide) ?_
            rw [hQ]
            exact W.zret hx hb hr (by rfl) (fun t ht hW => ⟨⟨0, T18, rfl, (Option.some.inj hM).symm, by show va_P D vwCl _ t.heap; rw [ht]; exact hP⟩, hS.F ht⟩) hS.2.2 dX3_command_119
          · replace hM := zx_f q20 hM
            refine lv_iconst (v := 1) hx hb dX3_command_114 (by decide) ?_
            refine lv_goto (tgt := 119) hx hb dX3_command_115 (by decide) ?_
            rw [hQ]
            exact W.zret hx hb hr (by rfl) (fun t ht hW => ⟨⟨1, T18, rfl, (Option.some.inj hM).symm, by show va_P D vwCl _ t.heap; rw [ht]; exact hP⟩, hS.F ht⟩) hS.2.2 dX3_command_119
      · replace hM := zx_f q15 hM
        by_cases q21 : p1 = 4
        · replace hM := zx_t q21 hM
          refine lv_tableIn (tgt := 120) hx hb dX3_command_1 (by rw [q21]; decide) (by rw [q21]; decide) (by rw [q21]; rfl) (by decide) ?_
          refine lv_iload hx hb dX3_command_120 (lv_at hl 5 rfl) ?_
          refine lv_if_ne (tgt := 142) hx hb dX3_command_122 (by decide) (fun q22 => ?_) (fun q22 => ?_)
          · replace hM := zx_f q22 hM
            refine lv_iconst (v := 0) hx hb dX3_command_142 (by decide) ?_
            rw [hQ]
            exact W.zret hx hb hr (by rfl) (fun t ht hW => ⟨⟨0, S, rfl, (Option.some.inj hM).symm, by show va_P D vwCl _ t.heap; rw [ht]; exact hP⟩, hS.F ht⟩) hS.2.2 dX3_command_143
          · replace hM := zx_t q22 hM
            refine lv_aload_n hx hb dX3_command_125 rfl (lv_at hl 0 rfl) ?_
            refine lv_iload_n hx hb dX3_command_126 rfl (lv_at hl 2 rfl) ?_
            refine lv_iload_n hx hb dX3_command_127 rfl (lv_at hl 3 rfl) ?_
            refine lv_ineg hx hb dX3_command_128 ?_
            refine lv_iload hx hb dX3_command_129 (lv_at hl 4 rfl) ?_
            refine lv_ineg hx hb dX3_command_131 ?_
            obtain ⟨x23, T24, hz25, hM⟩ := zx_b2E hM
            refine va_calli (va_runV (As := [.int p2, .int (-p3), .int (-p4)]) (rest := []) ⟨hx, hb, hml, hown, hts⟩ (c_X3_moves l D cI cZ cT h ad S _ N p2 (-p3) (-p4)  hz25) (cwV 3 hts (zg_V zw_33_5 zw_33_6 zw_33_7 zw_1_5 zw_33_8) rfl rfl rfl ⟨rfl, zyX3_moves⟩ ⟨Nat.le_of_ble_eq_true rfl, Nat.le_of_ble_eq_true rfl⟩) ⟨bS_blind, va_recv hK hP (ci := 3) (q0 := 0) rfl rfl, bS_pre hP hK hD hN⟩ rfl rfl hl.1 rfl (lv_room (Nat.le_of_ble_eq_true rfl)) dX3_command_132 ⟨Nat.zero_le _, Nat.zero_le _⟩) hS (fun q _ h => zx_fW hD hS hA q h) (fun q h => zx_fW hD hS hA q h) (fun r u t H1 lc ht hvm hw hB hz1 hk1 hS => ?_)
            obtain ⟨hw1, hw2⟩ := Prod.mk.inj hw; subst hw1; subst hw2
            rw [ht] at hB
            replace hP := hB
            replace hD := xW3_D T24 hD
            refine lv_if_eq (tgt := 142) hx hb dX3_command_135 (by decide) (fun q26 => ?_) (fun q26 => ?_)
            · replace hM := zx_t q26 hM
              refine lv_iconst (v := 0) hx hb dX3_command_142 (by decide) ?_
              rw [hQ]
              exact W.zret hx hb hr (by rfl) (fun t ht hW => ⟨⟨0, T24, rfl, (Option.some.inj hM).symm, by show va_P D vwCl _ t.heap; rw [ht]; exact hP⟩, hS.F ht⟩) hS.2.2 dX3_command_143
            · replace hM := zx_f q26 hM
              refine lv_iconst (v := 1) hx hb dX3_command_138 (by decide) ?_
              refine lv_goto (tgt := 143) hx hb dX3_command_139 (by decide) ?_
              rw [hQ]
              exact W.zret hx hb hr (by rfl) (fun t ht hW => ⟨⟨1, T24, rfl, (Option.some.inj hM).symm, by show va_P D vwCl _ t.heap; rw [ht]; exact hP⟩, hS.F ht⟩) hS.2.2 dX3_command_143
        · replace hM := zx_f q21 hM
          by_cases q27 : p1 = 5
          · replace hM := zx_t q27 hM
            refine lv_tableIn (tgt := 144) hx hb dX3_command_1 (by rw [q27]; decide) (by rw [q27]; decide) (by rw [q27]; rfl) (by decide) ?_
            refine lv_iload_n hx hb dX3_command_144 rfl (lv_at hl 2 rfl) ?_
            refine lv_iload_n hx hb dX3_command_145 rfl (lv_at hl 3 rfl) ?_
            refine lv_iadd hx hb dX3_command_146 ?_
            refine lv_iload hx hb dX3_command_147 (lv_at hl 4 rfl) ?_
            refine lv_iadd hx hb dX3_command_149 ?_
            refine lv_if_ne (tgt := 169) hx hb dX3_command_150 (by decide) (fun q28 => ?_) (fun q28 => ?_)
            · replace hM := zx_f q28 hM
              refine lv_iconst (v := 0) hx hb dX3_command_169 (by decide) ?_
              rw [hQ]
              exact W.zret hx hb hr (by rfl) (fun t ht hW => ⟨⟨0, S, rfl, (Option.some.inj hM).symm, by show va_P D vwCl _ t.heap; rw [ht]; exact hP⟩, hS.F ht⟩) hS.2.2 dX3_command_170
            · replace hM := zx_t q28 hM
              refine lv_aload_n hx hb dX3_command_153 rfl (lv_at hl 0 rfl) ?_
              refine va_get (D := D) (ci := 3) (v := .ref (ad 2)) (C := RX3) (T := TX3) (N := 20) hx hb hts inlX3 hown hK hP 0 rfl rfl 4 (by decide) (hts _ zw_3_20) (fun _ h9 => h9) rfl dX3_command_154 ?_
              obtain ⟨x29, hz30, hM⟩ := zx_b1E hM
              refine va_calli (va_runS (As := [.ref (ad 2)]) (rest := []) ⟨hx, hb, hml, hown, hts⟩ (c_X3_nodes l D cI cZ cT (ad 2) 380 (S 2) _ N hz30) (va_cwS 1 hts (zg_S zw_14_16 zw_14_17 zw_1_5 zw_14_18) rfl rfl rfl zyX3_nodes ⟨Nat.le_of_ble_eq_true rfl, Nat.le_of_ble_eq_true rfl⟩) ⟨bS_blind, bS_pre (zx_P1 hP 3 (rfl)) hK (zx_D1 hD 3 (rfl)) hN⟩ rfl rfl hl.1 rfl (lv_room (Nat.le_of_ble_eq_true rfl)) dX3_command_157 ⟨Nat.zero_le _, Nat.zero_le _⟩) hS (fun q h1 h2 => absurd h1 (Nat.not_lt.mpr h2)) (fun q h => hA q (Nat.le_trans hS.1 h)) (fun r u t H1 lc ht hvm hw hB hz1 hk1 hS => ?_)
              replace hw : x29 = r := hw; subst hw
              replace hP := zx_keep hP hk1
              refine lv_iload hx hb dX3_command_160 (lv_at hl 5 rfl) ?_
              refine lv_icmp_gt (tgt := 169) hx hb dX3_command_162 (by decide) (fun q31 => ?_) (fun q31 => ?_)
              · replace hM := zx_t q31 hM
                refine lv_iconst (v := 0) hx hb dX3_command_169 (by decide) ?_
                rw [hQ]
                exact W.zret hx hb hr (by rfl) (fun t ht hW => ⟨⟨0, S, rfl, (Option.some.inj hM).symm, by show va_P D vwCl _ t.heap; rw [ht]; exact hP⟩, hS.F ht⟩) hS.2.2 dX3_command_170
              · replace hM := zx_f q31 hM
                refine lv_iconst (v := 1) hx hb dX3_command_165 (by decide) ?_
                refine lv_goto (tgt := 170) hx hb dX3_command_166 (by decide) ?_
                rw [hQ]
                exact W.zret hx hb hr (by rfl) (fun t ht hW => ⟨⟨1, S, rfl, (Option.some.inj hM).symm, by show va_P D vwCl _ t.heap; rw [ht]; exact hP⟩, hS.F ht⟩) hS.2.2 dX3_command_170
          · replace hM := zx_f q27 hM
            by_cases q32 : p1 = 6
            · replace hM := zx_t q32 hM
              refine lv_tableIn (tgt := 171) hx hb dX3_command_1 (by rw [q32]; decide) (by rw [q32]; decide) (by rw [q32]; rfl) (by decide) ?_
              refine lv_iload_n hx hb dX3_command_171 rfl (lv_at hl 2 rfl) ?_
              refine lv_if_ne (tgt := 210) hx hb dX3_command_172 (by decide) (fun q33 => ?_) (fun q33 => ?_)
              · replace hM := zx_f q33 hM
                refine lv_iconst (v := 0) hx hb dX3_command_210 (by decide) ?_
                rw [hQ]
                exact W.zret hx hb hr (by rfl) (fun t ht hW => ⟨⟨0, S, rfl, (Option.some.inj hM).symm, by show va_P D vwCl _ t.heap; rw [ht]; exact hP⟩, hS.F ht⟩) hS.2.2 dX3_command_211
              · replace hM := zx_t q33 hM
                refine lv_iload_n hx hb dX3_command_175 rfl (lv_at hl 3 rfl) ?_
                refine lv_bipush (v := 10) hx hb dX3_command_176 (by decide) ?_
                refine lv_icmp_ge (tgt := 210) hx hb dX3_command_178 (by decide) (fun q34 => ?_) (fun q34 => ?_)
                · replace hM := zx_t q34 hM
                  refine lv_iconst (v := 0) hx hb dX3_command_210 (by decide) ?_
                  rw [hQ]
                  exact W.zret hx hb hr (by rfl) (fun t ht hW => ⟨⟨0, S, rfl, (Option.some.inj hM).symm, by show va_P D vwCl _ t.heap; rw [ht]; exact hP⟩, hS.F ht⟩) hS.2.2 dX3_command_211
                · replace hM := zx_f q34 hM
                  refine lv_aload_n hx hb dX3_command_181 rfl (lv_at hl 0 rfl) ?_
                  refine lv_aload_n hx hb dX3_command_182 rfl (lv_at hl 0 rfl) ?_
                  refine va_get (D := D) (ci := 3) (v := .ref (ad 2)) (C := RX3) (T := TX3) (N := 20) hx hb hts inlX3 hown hK hP 0 rfl rfl 4 (by decide) (hts _ zw_3_20) (fun _ h9 => h9) rfl dX3_command_183 ?_
                  obtain ⟨x35, T36, hz37, hM⟩ := zx_b2E hM
                  refine va_calli (va_runV (As := [.ref (ad 2)]) (rest := []) ⟨hx, hb, hml, hown, hts⟩ (c_X3_overlap l D cI cZ cT h ad S _ N 2 (Or.inr rfl)  hz37) (cwV 1 hts (zg_V zw_14_19 zw_14_20 zw_14_21 zw_1_5 zw_14_22) rfl rfl rfl ⟨rfl, zyX3_overlap⟩ ⟨Nat.le_of_ble_eq_true rfl, Nat.le_of_ble_eq_true rfl⟩) ⟨bS_blind, va_recv hK hP (ci := 3) (q0 := 0) rfl rfl, bS_pre hP hK hD hN⟩ rfl rfl hl.1 rfl (lv_room (Nat.le_of_ble_eq_true rfl)) dX3_command_186 ⟨Nat.zero_le _, Nat.zero_le _⟩) hS (fun q _ h => zx_fW hD hS hA q h) (fun q h => zx_fW hD hS hA q h) (fun r u t H1 lc ht hvm hw hB hz1 hk1 hS => ?_)
                  obtain ⟨hw1, hw2⟩ := Prod.mk.inj hw; subst hw1; subst hw2
                  rw [ht] at hB
                  replace hP := hB
                  replace hD := xW3_D T36 hD
                  refine lv_sipush (v := 10000) hx hb dX3_command_189 (by decide) ?_
                  refine lv_iload_n hx hb dX3_command_192 rfl (lv_at hl 3 rfl) ?_
                  refine lv_imul hx hb dX3_command_193 ?_
                  refine lv_bipush (v := 100) hx hb dX3_command_194 (by decide) ?_
                  refine lv_iload hx hb dX3_command_196 (lv_at hl 4 rfl) ?_
                  refine lv_imul hx hb dX3_command_198 ?_
                  refine lv_iadd hx hb dX3_command_199 ?_
                  refine lv_iload hx hb dX3_command_200 (lv_at hl 5 rfl) ?_
                  refine lv_iadd hx hb dX3_command_202 ?_
                  refine lv_icmp_gt (tgt := 210) hx hb dX3_command_203 (by decide) (fun q38 => ?_) (fun q38 => ?_)
                  · replace hM := zx_t q38 hM
                    refine lv_iconst (v := 0) hx hb dX3_command_210 (by decide) ?_
                    rw [hQ]
                    exact W.zret hx hb hr (by rfl) (fun t ht hW => ⟨⟨0, T36, rfl, (Option.some.inj hM).symm, by show va_P D vwCl _ t.heap; rw [ht]; exact hP⟩, hS.F ht⟩) hS.2.2 dX3_command_211
                  · replace hM := zx_f q38 hM
                    refine lv_iconst (v := 1) hx hb dX3_command_206 (by decide) ?_
                    refine lv_goto (tgt := 211) hx hb dX3_command_207 (by decide) ?_
                    rw [hQ]
                    exact W.zret hx hb hr (by rfl) (fun t ht hW => ⟨⟨1, T36, rfl, (Option.some.inj hM).symm, by show va_P D vwCl _ t.heap; rw [ht]; exact hP⟩, hS.F ht⟩) hS.2.2 dX3_command_211
            · replace hM := zx_f q32 hM
              by_cases q39 : p1 = 7
              · replace hM := zx_t q39 hM
                refine lv_tableIn (tgt := 212) hx hb dX3_command_1 (by rw [q39]; decide) (by rw [q39]; decide) (by rw [q39]; rfl) (by decide) ?_
                refine lv_iload hx hb dX3_command_212 (lv_at hl 5 rfl) ?_
                refine lv_if_ne (tgt := 248) hx hb dX3_command_214 (by decide) (fun q40 => ?_) (fun q40 => ?_)
                · replace hM := zx_f q40 hM
                  refine lv_iconst (v := 0) hx hb dX3_command_248 (by decide) ?_
                  rw [hQ]
                  exact W.zret hx hb hr (by rfl) (fun t ht hW => ⟨⟨0, S, rfl, (Option.some.inj hM).symm, by show va_P D vwCl _ t.heap; rw [ht]; exact hP⟩, hS.F ht⟩) hS.2.2 dX3_command_249
                · replace hM := zx_t q40 hM
                  refine lv_aload_n hx hb dX3_command_217 rfl (lv_at hl 0 rfl) ?_
                  refine va_get (D := D) (ci := 3) (v := .ref (ad 2)) (C := RX3) (T := TX3) (N := 20) hx hb hts inlX3 hown hK hP 0 rfl rfl 4 (by decide) (hts _ zw_3_20) (fun _ h9 => h9) rfl dX3_command_218 ?_
                  refine lv_iload hx hb dX3_command_221 (lv_at hl 4 rfl) ?_
                  obtain ⟨x41, hz42, hM⟩ := zx_b1E hM
                  refine va_calli (va_runS (As := [.ref (ad 2), .int p4]) (rest := []) ⟨hx, hb, hml, hown, hts⟩ (c_X3_isThere l D cI cZ cT (ad 2) 380 (S 2) _ N p4 hz42) (va_cwS 2 hts (zg_S zw_16_14 zw_16_15 zw_1_5 zw_16_16) rfl rfl rfl zyX3_isThere ⟨Nat.le_of_ble_eq_true rfl, Nat.le_of_ble_eq_true rfl⟩) ⟨bS_blind, bS_pre (zx_P1 hP 3 (rfl)) hK (zx_D1 hD 3 (rfl)) hN⟩ rfl rfl hl.1 rfl (lv_room (Nat.le_of_ble_eq_true rfl)) dX3_command_223 ⟨Nat.zero_le _, Nat.zero_le _⟩) hS (fun q h1 h2 => absurd h1 (Nat.not_lt.mpr h2)) (fun q h => hA q (Nat.le_trans hS.1 h)) (fun r u t H1 lc ht hvm hw hB hz1 hk1 hS => ?_)
                  replace hw : x41 = r := hw; subst hw
                  replace hP := zx_keep hP hk1
                  refine lv_if_eq (tgt := 248) hx hb dX3_command_226 (by decide) (fun q43 => ?_) (fun q43 => ?_)
                  · replace hM := zx_t q43 hM
                    refine lv_iconst (v := 0) hx hb dX3_command_248 (by decide) ?_
                    rw [hQ]
                    exact W.zret hx hb hr (by rfl) (fun t ht hW => ⟨⟨0, S, rfl, (Option.some.inj hM).symm, by show va_P D vwCl _ t.heap; rw [ht]; exact hP⟩, hS.F ht⟩) hS.2.2 dX3_command_249
                  · replace hM := zx_f q43 hM
                    refine lv_aload_n hx hb dX3_command_229 rfl (lv_at hl 0 rfl) ?_
                    refine va_get (D := D) (ci := 3) (v := .ref (ad 2)) (C := RX3) (T := TX3) (N := 20) hx hb hts inlX3 hown hK hP 0 rfl rfl 4 (by decide) (hts _ zw_3_20) (fun _ h9 => h9) rfl dX3_command_230 ?_
                    refine lv_iload_n hx hb dX3_command_233 rfl (lv_at hl 2 rfl) ?_
                    refine lv_iload_n hx hb dX3_command_234 rfl (lv_at hl 3 rfl) ?_
                    refine lv_iconst (v := 0) hx hb dX3_command_235 (by decide) ?_
                    obtain ⟨x44, hz45, hM⟩ := zx_b1E hM
                    refine va_calli (va_runS (As := [.ref (ad 2), .int p2, .int p3, .int 0]) (rest := []) ⟨hx, hb, hml, hown, hts⟩ (c_X3_nearestOn l D cI cZ cT (ad 2) 380 (S 2) _ N p2 p3 0 hz45) (va_cwS 4 hts (zg_S zw_29_10 zw_29_11 zw_1_5 zw_29_12) rfl rfl rfl zyX3_nearestOn ⟨Nat.le_of_ble_eq_true rfl, Nat.le_of_ble_eq_true rfl⟩) ⟨bS_blind, bS_pre (zx_P1 hP 3 (rfl)) hK (zx_D1 hD 3 (rfl)) hN⟩ rfl rfl hl.1 rfl (lv_room (Nat.le_of_ble_eq_true rfl)) dX3_command_236 ⟨Nat.zero_le _, Nat.zero_le _⟩) hS (fun q h1 h2 => absurd h1 (Nat.not_lt.mpr h2)) (fun q h => hA q (Nat.le_trans hS.1 h)) (fun r u t H1 lc ht hvm hw hB hz1 hk1 hS => ?_)
                    replace hw : x44 = r := hw; subst hw
                    replace hP := zx_keep hP hk1
                    refine lv_iload hx hb dX3_command_239 (lv_at hl 4 rfl) ?_
                    refine lv_icmp_ne (tgt := 248) hx hb dX3_command_241 (by decide) (fun q46 => ?_) (fun q46 => ?_)
                    · replace hM := zx_f q46 hM
                      refine lv_iconst (v := 0) hx hb dX3_command_248 (by decide) ?_
                      rw [hQ]
                      exact W.zret hx hb hr (by rfl) (fun t ht hW => ⟨⟨0, S, rfl, (Option.some.inj hM).symm, by show va_P D vwCl _ t.heap; rw [ht]; exact hP⟩, hS.F ht⟩) hS.2.2 dX3_command_249
                    · replace hM := zx_t q46 hM
                      refine lv_iconst (v := 1) hx hb dX3_command_244 (by decide) ?_
                      refine lv_goto (tgt := 249) hx hb dX3_command_245 (by decide) ?_
                      rw [hQ]
                      exact W.zret hx hb hr (by rfl) (fun t ht hW => ⟨⟨1, S, rfl, (Option.some.inj hM).symm, by show va_P D vwCl _ t.heap; rw [ht]; exact hP⟩, hS.F ht⟩) hS.2.2 dX3_command_249
              · replace hM := zx_f q39 hM
                by_cases q47 : p1 = 8
                · replace hM := zx_t q47 hM
                  refine lv_tableIn (tgt := 250) hx hb dX3_command_1 (by rw [q47]; decide) (by rw [q47]; decide) (by rw [q47]; rfl) (by decide) ?_
                  refine lv_iload hx hb dX3_command_250 (lv_at hl 5 rfl) ?_
                  refine lv_if_ne (tgt := 285) hx hb dX3_command_252 (by decide) (fun q48 => ?_) (fun q48 => ?_)
                  · replace hM := zx_f q48 hM
                    refine lv_iconst (v := 0) hx hb dX3_command_285 (by decide) ?_
                    rw [hQ]
                    exact W.zret hx hb hr (by rfl) (fun t ht hW => ⟨⟨0, S, rfl, (Option.some.inj hM).symm, by show va_P D vwCl _ t.heap; rw [ht]; exact hP⟩, hS.F ht⟩) hS.2.2 dX3_command_286
                  · replace hM := zx_t q48 hM
                    refine lv_aload_n hx hb dX3_command_255 rfl (lv_at hl 0 rfl) ?_
                    refine va_get (D := D) (ci := 3) (v := .ref (ad 2)) (C := RX3) (T := TX3) (N := 20) hx hb hts inlX3 hown hK hP 0 rfl rfl 4 (by decide) (hts _ zw_3_20) (fun _ h9 => h9) rfl dX3_command_256 ?_
                    refine lv_iload hx hb dX3_command_259 (lv_at hl 4 rfl) ?_
                    obtain ⟨x49, hz50, hM⟩ := zx_b1E hM
                    refine va_calli (va_runS (As := [.ref (ad 2), .int p4]) (rest := []) ⟨hx, hb, hml, hown, hts⟩ (c_X3_isThere l D cI cZ cT (ad 2) 380 (S 2) _ N p4 hz50) (va_cwS 2 hts (zg_S zw_16_14 zw_16_15 zw_1_5 zw_16_16) rfl rfl rfl zyX3_isThere ⟨Nat.le_of_ble_eq_true rfl, Nat.le_of_ble_eq_true rfl⟩) ⟨bS_blind, bS_pre (zx_P1 hP 3 (rfl)) hK (zx_D1 hD 3 (rfl)) hN⟩ rfl rfl hl.1 rfl (lv_room (Nat.le_of_ble_eq_true rfl)) dX3_command_261 ⟨Nat.zero_le _, Nat.zero_le _⟩) hS (fun q h1 h2 => absurd h1 (Nat.not_lt.mpr h2)) (fun q h => hA q (Nat.le_trans hS.1 h)) (fun r u t H1 lc ht hvm hw hB hz1 hk1 hS => ?_)
                    replace hw : x49 = r := hw; subst hw
                    replace hP := zx_keep hP hk1
                    refine lv_if_eq (tgt := 285) hx hb dX3_command_264 (by decide) (fun q51 => ?_) (fun q51 => ?_)
                    · replace hM := zx_t q51 hM
                      refine lv_iconst (v := 0) hx hb dX3_command_285 (by decide) ?_
                      rw [hQ]
                      exact W.zret hx hb hr (by rfl) (fun t ht hW => ⟨⟨0, S, rfl, (Option.some.inj hM).symm, by show va_P D vwCl _ t.heap; rw [ht]; exact hP⟩, hS.F ht⟩) hS.2.2 dX3_command_286
                    · replace hM := zx_f q51 hM
                      refine lv_aload_n hx hb dX3_command_267 rfl (lv_at hl 0 rfl) ?_
                      refine va_get (D := D) (ci := 3) (v := .ref (ad 2)) (C := RX3) (T := TX3) (N := 20) hx hb hts inlX3 hown hK hP 0 rfl rfl 4 (by decide) (hts _ zw_3_20) (fun _ h9 => h9) rfl dX3_command_268 ?_
                      refine lv_iload hx hb dX3_command_271 (lv_at hl 4 rfl) ?_
                      refine lv_iload_n hx hb dX3_command_273 rfl (lv_at hl 2 rfl) ?_
                      refine lv_iload_n hx hb dX3_command_274 rfl (lv_at hl 3 rfl) ?_
                      obtain ⟨x52, hz53, hM⟩ := zx_b1E hM
                      refine va_calli (va_runS (As := [.ref (ad 2), .int p4, .int p2, .int p3]) (rest := []) ⟨hx, hb, hml, hown, hts⟩ (c_X3_distance l D cI cZ cT (ad 2) 380 (S 2) _ N p4 p2 p3 hz53) (va_cwS 4 hts (zg_S zw_29_13 zw_29_14 zw_1_5 zw_29_15) rfl rfl rfl zyX3_distance ⟨Nat.le_of_ble_eq_true rfl, Nat.le_of_ble_eq_true rfl⟩) ⟨bS_blind, bS_pre (zx_P1 hP 3 (rfl)) hK (zx_D1 hD 3 (rfl)) hN⟩ rfl rfl hl.1 rfl (lv_room (Nat.le_of_ble_eq_true rfl)) dX3_command_275 ⟨Nat.zero_le _, Nat.zero_le _⟩) hS (fun q h1 h2 => absurd h1 (Nat.not_lt.mpr h2)) (fun q h => hA q (Nat.le_trans hS.1 h)) (fun r u t H1 lc ht hvm hw hB hz1 hk1 hS => ?_)
                      replace hw : x52 = r := hw; subst hw
                      replace hP := zx_keep hP hk1
                      refine lv_if_ne (tgt := 285) hx hb dX3_command_278 (by decide) (fun q54 => ?_) (fun q54 => ?_)
                      · replace hM := zx_f q54 hM
                        refine lv_iconst (v := 0) hx hb dX3_command_285 (by decide) ?_
                        rw [hQ]
                        exact W.zret hx hb hr (by rfl) (fun t ht hW => ⟨⟨0, S, rfl, (Option.some.inj hM).symm, by show va_P D vwCl _ t.heap; rw [ht]; exact hP⟩, hS.F ht⟩) hS.2.2 dX3_command_286
                      · replace hM := zx_t q54 hM
                        refine lv_iconst (v := 1) hx hb dX3_command_281 (by decide) ?_
                        refine lv_goto (tgt := 286) hx hb dX3_command_282 (by decide) ?_
                        rw [hQ]
                        exact W.zret hx hb hr (by rfl) (fun t ht hW => ⟨⟨1, S, rfl, (Option.some.inj hM).symm, by show va_P D vwCl _ t.heap; rw [ht]; exact hP⟩, hS.F ht⟩) hS.2.2 dX3_command_286
                · replace hM := zx_f q47 hM
                  refine lv_tableOut (tgt := 287) hx hb dX3_command_1 (zx_sw (lo := 1) (hi := 8) (by decide) (by decide) (fun k h1 h2 => by rcases (show k = 1 ∨ k = 2 ∨ k = 3 ∨ k = 4 ∨ k = 5 ∨ k = 6 ∨ k = 7 ∨ k = 8 by omega) with rfl | rfl | rfl | rfl | rfl | rfl | rfl | rfl <;> assumption)) (by decide) ?_
                  refine lv_iconst (v := 0) hx hb dX3_command_287 (by decide) ?_
                  rw [hQ]
                  exact W.zret hx hb hr (by rfl) (fun t ht hW => ⟨⟨0, S, rfl, (Option.some.inj hM).symm, by show va_P D vwCl _ t.heap; rw [ht]; exact hP⟩, hS.F ht⟩) hS.2.2 dX3_command_288

/-! ShallowBoxesModel.runScript(IJ)I -/
def f_X3_runScript_l86 (N : Nat) : Nat → Int32 → Int64 → Int64 → Int32 → zx_S → Option (Int32 × zx_S)
  | 0, _, _, _, _, _ => none
  | n86 + 1, v1, v2, v4, v6, S_ => (if v1 ≤ v6 then
  some ((-1), S_) else
  (zx_n (v4 / 1000000000) (fun x6 =>
(zx_nz x6 (
(zx_n (v2 / x6) (fun x8 =>
(zx_n (x8 - x8 / 1000000000 * 1000000000) (fun x9 =>
(zx_n (Int64.toInt32 x9) (fun x10 =>
(zx_n (x10 / 100000000) (fun x11 =>
(zx_n (x10 / 1000000) (fun x12 =>
(zx_n (x12 - x12 / 100 * 100) (fun x13 =>
(zx_n (x10 / 10000) (fun x14 =>
(zx_n (x14 - x14 / 100 * 100) (fun x15 =>
(zx_n (x10 / 100) (fun x16 =>
(zx_n (x16 - x16 / 100 * 100) (fun x17 =>
(zx_n (x10 - x10 / 100 * 100) (fun x18 =>
(zx_b2 (f_X3_command N x11 x13 x15 x17 x18 S_) (fun x19 T20 =>
(if x19 = 0 then
  some (v6, T20) else
  (zx_n (v6 + 1) (fun x23 =>
f_X3_runScript_l86 N  n86 v1 v2 x6 x23 T20))))))))))))))))))))))))))))))))
def f_X3_runScript_j62 (N : Nat) (v1 : Int32) (v2 : Int64) (v4 : Int64) (t1 : Int32) (S_ : zx_S) : Option (Int32 × zx_S) :=
  (zx_b2 (f_X3_refused N t1 S_) (fun x1 T2 =>
(if x1 = 0 then
  (zx_b1 (f_X3_copyState N 380 380 0 0 (T2 1) (T2 2)) (fun g24 =>
(zx_n (zx_st T2 2 g24) (fun T26 =>
f_X3_runScript_l86 N  N v1 v2 v4 0 T26)))) else
  some (0, T2))))
def f_X3_runScript_j61 (N : Nat) (v1 : Int32) (v2 : Int64) (v4 : Int64) (S_ : zx_S) : Option (Int32 × zx_S) :=
  f_X3_runScript_j62 N  v1 v2 v4 1 S_
def f_X3_runScript_j32 (N : Nat) (v1 : Int32) (v2 : Int64) (v4 : Int64) (S_ : zx_S) : Option (Int32 × zx_S) :=
  (zx_b1 (f_X3_in N (Int32.toInt64 v1) 1 2) (fun x27 =>
(if x27 = 0 then
  f_X3_runScript_j61 N  v1 v2 v4 S_ else
  (zx_b1 (f_X3_in N v2 0 (v4 - 1)) (fun x30 =>
(if x30 = 0 then
  f_X3_runScript_j61 N  v1 v2 v4 S_ else
  f_X3_runScript_j62 N  v1 v2 v4 0 S_))))))
def f_X3_runScript_l6 (N : Nat) : Nat → Int32 → Int64 → Int64 → Int32 → zx_S → Option (Int32 × zx_S)
  | 0, _, _, _, _, _ => none
  | n6 + 1, v1, v2, v4, v6, S_ => (if v1 ≤ v6 then
  f_X3_runScript_j32 N  v1 v2 v4 S_ else
  (if 2 ≤ v6 then
  f_X3_runScript_j32 N  v1 v2 v4 S_ else
  (zx_n (v4 * 1000000000) (fun x35 =>
(zx_n (v6 + 1) (fun x36 =>
f_X3_runScript_l6 N  n6 v1 v2 x35 x36 S_))))))
def f_X3_runScript (N : Nat) (p1 : Int32) (p2 : Int64) (S : zx_S) : Option (Int32 × zx_S) :=
  f_X3_runScript_l6 N  N p1 p2 1 0 S
abbrev rmX3_runScript : Room := { frames := 11, cells := 0, slots := 0, locals := 266 }
abbrev zsX3_runScript : List Cond := .code yX3_runScript cX3_runScript 8 (some .int) :: wsL_law
theorem zyX3_runScript : yX3_runScript.cls ≠ "java/lang/invoke/MethodHandle" ∧ yX3_runScript.cls ≠ "java/lang/invoke/VarHandle" ∧ (parseMethodDescriptor yX3_runScript.desc).map (fun d => d.parameters.length) = some 2 := by decide +kernel
set_option maxHeartbeats 4000000 in
set_option maxRecDepth 100000 in
theorem c_X3_runScript (l : Launch) (D : va_G) (cI cZ cT : ClassId) (h : Nat) (ad : Nat → Nat) (S : zx_S) (sz : Nat) (N : Nat) (p1 : Int32) (p2 : Int64) {R : Int32 × zx_S} (hM : f_X3_runScript N p1 p2 S = some R) : Met l yX3_runScript zsX3_runScript rmX3_runScript (va_Pc [.ref h, .int p1, .long p2] (bS D (zx_ty cI cZ cT) (xW3 cI cZ h ad S) sz)) (va_Qi (fun r u => R = (r, u)) (fun u t => va_P D vwCl (xW3 cI cZ h ad u) t.heap) (va_A (xW3 cI cZ h ad S) sz)) 0 0 (va_A (xW3 cI cZ h ad S) sz) := by
  refine Met.ofW (cc := cX3_runScript) (maxL := 8) (ret := (some .int)) (by decide) rfl ?_
  intro p e s m args below meth c s₁ B hml hv
  obtain ⟨rfl, hsz, hP, hK, hD0, hN⟩ := hv
  have hx := B.exec
  have hb := B.bytes
  have hr := B.returns
  have hts : ∀ w ∈ wsL_law, w.before _ s = true := fun w hw => atoms_spec (ws := zsX3_runScript) B.pre w (List.mem_cons_of_mem _ hw)
  have hown : s.vm.findClass RX3 = some m.cls := findClass_of_methodNamed B.named
  have hlocks := B.notSynchronized
  subst hsz
  have hD := hD0.self (sz := s.heap.size)
  generalize hAe : va_A (xW3 cI cZ h ad S) s.heap.size = A at hD ⊢
  have hA : ∀ q : Nat, s.heap.size ≤ q → A q := fun q h => by rw [← hAe]; exact Or.inr h
  have hS : va_S A s.heap s.heap [] := va_S.rf
  have hl := lv_entry ([.ref h, .int p1, .long p2]) (n := 8) (Nat.le_of_ble_eq_true rfl)
  rw [lg_entry_eq]
  generalize (lg_sl ([.ref h, .int p1, .long p2]) ++ List.replicate (8 - (lg_sl ([.ref h, .int p1, .long p2])).length) Slot.unset).toArray = ls at hl ⊢
  have hl : lv_has ls 8 [(0, .ref h), (1, .int p1), (2, .long p2)] := hl
  generalize hQ : MQ below (va_Qi (fun r u => R = (r, u)) (fun u t => va_P D vwCl (xW3 cI cZ h ad u) t.heap) A) ([.ref h, .int p1, .long p2] : List Value).toArray s 0 0 A = Q9
  replace hQ := hQ.symm
  unfold f_X3_runScript at hM
  have l6 : ∀ (n6 : Nat) (v1 : Int32) (v2 : Int64) (v4 : Int64) (v6 : Int32) (S_ : zx_S) (H : Heap) (lc : List Loc) (ls : Array Slot), va_P D vwCl (xW3 cI cZ h ad S_) H → va_D A (xW3 cI cZ h ad S_) → va_S A s.heap H lc → lv_has ls 8 [(0, .ref h), (1, .int v1), (2, .long v2), (4, .long v4), (6, .int v6)] → f_X3_runScript_l6 N n6 v1 v2 v4 v6 S_ = some R → W p l e (headSpec zsX3_runScript rmX3_runScript).room s m ([.ref h, .int p1, .long p2] : List Value).toArray below meth c H lc 0 0 Q9 (F0 m 6 ls []) := by
    intro n6
    induction n6 with
    | zero =>
      intro v1 v2 v4 v6 S_ H lc ls hP hD hS hl hM
      rw [f_X3_runScript_l6] at hM; exact absurd hM (by intro h; cases h)
    | succ n6 ih6 =>
      intro v1 v2 v4 v6 S_ H lc ls hP hD hS hl hM
      rw [f_X3_runScript_l6] at hM
      have j32 : ∀ (v1 : Int32) (v2 : Int64) (v4 : Int64) (S_ : zx_S) (H : Heap) (lc : List Loc) (ls : Array Slot), va_P D vwCl (xW3 cI cZ h ad S_) H → va_D A (xW3 cI cZ h ad S_) → va_S A s.heap H lc → lv_has ls 8 [(0, .ref h), (1, .int v1), (2, .long v2), (4, .long v4)] → f_X3_runScript_j32 N v1 v2 v4 S_ = some R → W p l e (headSpec zsX3_runScript rmX3_runScript).room s m ([.ref h, .int p1, .long p2] : List Value).toArray below meth c H lc 0 0 Q9 (F0 m 32 ls []) := by
        intro v1 v2 v4 S_ H lc ls hP hD hS hl hM
        unfold f_X3_runScript_j32 at hM
        have j62 : ∀ (v1 : Int32) (v2 : Int64) (v4 : Int64) (t1 : Int32) (S_ : zx_S) (H : Heap) (lc : List Loc) (ls : Array Slot), va_P D vwCl (xW3 cI cZ h ad S_) H → va_D A (xW3 cI cZ h ad S_) → va_S A s.heap H lc → lv_has ls 8 [(0, .ref h), (1, .int v1), (2, .long v2), (4, .long v4)] → f_X3_runScript_j62 N v1 v2 v4 t1 S_ = some R → W p l e (headSpec zsX3_runScript rmX3_runScript).room s m ([.ref h, .int p1, .long p2] : List Value).toArray below meth c H lc 0 0 Q9 (F0 m 62 ls [.int t1, .ref h]) := by
          intro v1 v2 v4 t1 S_ H lc ls hP hD hS hl hM
          unfold f_X3_runScript_j62 at hM
          obtain ⟨x1, T2, hz3, hM⟩ := zx_b2E hM
          refine va_calli (va_runV (As := [.int t1]) (rest := []) ⟨hx, hb, hml, hown, hts⟩ (c_X3_refused l D cI cZ cT h ad S_ _ N t1  hz3) (cwV 1 hts (zg_V zw_5_14 zw_5_15 zw_5_16 zw_1_5 zw_5_17) rfl rfl rfl ⟨rfl, zyX3_refused⟩ ⟨Nat.le_of_ble_eq_true rfl, Nat.le_of_ble_eq_true rfl⟩) ⟨bS_blind, va_recv hK hP (ci := 3) (q0 := 0) rfl rfl, bS_pre hP hK hD hN⟩ rfl rfl hl.1 rfl (lv_room (Nat.le_of_ble_eq_true rfl)) dX3_runScript_62 ⟨Nat.zero_le _, Nat.zero_le _⟩) hS (fun q _ h => zx_fW hD hS hA q h) (fun q h => zx_fW hD hS hA q h) (fun r u t H1 lc ht hvm hw hB hz1 hk1 hS => ?_)
          obtain ⟨hw1, hw2⟩ := Prod.mk.inj hw; subst hw1; subst hw2
          rw [ht] at hB
          replace hP := hB
          replace hD := xW3_D T2 hD
          refine lv_if_eq (tgt := 70) hx hb dX3_runScript_65 (by decide) (fun q4 => ?_) (fun q4 => ?_)
          · replace hM := zx_t q4 hM
            have l86 : ∀ (n86 : Nat) (v1 : Int32) (v2 : Int64) (v4 : Int64) (v6 : Int32) (S_ : zx_S) (H : Heap) (lc : List Loc) (ls : Array Slot), va_P D vwCl (xW3 cI cZ h ad S_) H → va_D A (xW3 cI cZ h ad S_) → va_S A s.heap H lc → lv_has ls 8 [(0, .ref h), (1, .int v1), (2, .long v2), (4, .long v4), (6, .int v6)] → f_X3_runScript_l86 N n86 v1 v2 v4 v6 S_ = some R → W p l e (headSpec zsX3_runScript rmX3_runScript).room s m ([.ref h, .int p1, .long p2] : List Value).toArray below meth c H lc 0 0 Q9 (F0 m 86 ls []) := by
              intro n86
              induction n86 with
              | zero =>
                intro v1 v2 v4 v6 S_ H lc ls hP hD hS hl hM
                rw [f_X3_runScript_l86] at hM; exact absurd hM (by intro h; cases h)
              | succ n86 ih86 =>
                intro v1 v2 v4 v6 S_ H lc ls hP hD hS hl hM
                rw [f_X3_runScript_l86] at hM
                refine lv_iload hx hb dX3_runScript_86 (lv_at hl 4 rfl) ?_
                refine lv_iload_n hx hb dX3_runScript_88 rfl (lv_at hl 1 rfl) ?_
                refine lv_icmp_ge (tgt := 164) hx hb dX3_runScript_89 (by decide) (fun q5 => ?_) (fun q5 => ?_)
                · replace hM := zx_t q5 hM
                  refine lv_iconst (v := (-1)) hx hb dX3_runScript_164 (by decide) ?_
                  rw [hQ]
                  exact W.iret hx hb hr (fun t ht hW => ⟨⟨(-1), S_, rfl, (Option.some.inj hM).symm, by show va_P D vwCl _ t.heap; rw [ht]; exact hP⟩, hS.F ht⟩) hS.2.2 dX3_runScript_165
                · replace hM := zx_f q5 hM
                  refine lv_lload hx hb dX3_runScript_92 (lv_at hl 3 rfl) ?_
                  refine lv_ldc2 (v := 1000000000) hx hb hown (hts _ zw_32_17) dX3_runScript_94 ?_
                  refine lv_ldiv hx hb dX3_runScript_97 (by decide) ?_
                  obtain ⟨x6, ex6, hM⟩ := zx_nE hM
                  refine zx_topl ex6 ?_
                  refine lv_lstore (lv' := [(4, .long x6), (0, .ref h), (1, .int v1), (2, .long v2), (6, .int v6)]) hx hb dX3_runScript_98 hl (by decide) rfl (fun ls hl => ?_)
                  refine lv_lload_n hx hb dX3_runScript_100 rfl (lv_at hl 3 rfl) ?_
                  refine lv_lload hx hb dX3_runScript_101 (lv_at hl 0 rfl) ?_
                  obtain ⟨q7, hM⟩ := zx_nzE hM
                  refine lv_ldiv hx hb dX3_runScript_103 q7 ?_
                  obtain ⟨x8, ex8, hM⟩ := zx_nE hM
                  refine zx_topl ex8 ?_
                  refine lv_ldc2 (v := 1000000000) hx hb hown (hts _ zw_32_17) dX3_runScript_104 ?_
                  refine lv_lrem hx hb dX3_runScript_107 (by decide) ?_
                  obtain ⟨x9, ex9, hM⟩ := zx_nE hM
                  refine zx_topl ex9 ?_
                  refine lv_l2i hx hb dX3_runScript_108 rfl ?_
                  obtain ⟨x10, ex10, hM⟩ := zx_nE hM
                  refine zx_top ex10 ?_
                  refine lv_istore (lv' := [(7, .int x10), (4, .long x6), (0, .ref h), (1, .int v1), (2, .long v2), (6, .int v6)]) hx hb dX3_runScript_109 hl (by decide) rfl (fun ls hl => ?_)
                  refine lv_aload_n hx hb dX3_runScript_111 rfl (lv_at hl 2 rfl) ?_
                  refine lv_iload hx hb dX3_runScript_112 (lv_at hl 0 rfl) ?_
                  refine lv_ldcw (v := 100000000) hx hb hown (hts _ zw_32_19) dX3_runScript_114 ?_
                  refine lv_idiv hx hb dX3_runScript_117 (by decide) ?_
                  obtain ⟨x11, ex11, hM⟩ := zx_nE hM
                  refine zx_top ex11 ?_
                  refine lv_iload hx hb dX3_runScript_118 (lv_at hl 0 rfl) ?_
                  refine lv_ldcw (v := 1000000) hx hb hown (hts _ zw_32_20) dX3_runScript_120 ?_
                  refine lv_idiv hx hb dX3_runScript_123 (by decide) ?_
                  obtain ⟨x12, ex12, hM⟩ := zx_nE hM
                  refine zx_top ex12 ?_
                  refine lv_bipush (v := 100) hx hb dX3_runScript_124 (by decide) ?_
                  refine lv_irem hx hb dX3_runScript_126 (by decide) ?_
                  obtain ⟨x13, ex13, hM⟩ := zx_nE hM
                  refine zx_top ex13 ?_
                  refine lv_iload hx hb dX3_runScript_127 (lv_at hl 0 rfl) ?_
                  refine lv_sipush (v := 10000) hx hb dX3_runScript_129 (by decide) ?_
                  refine lv_idiv hx hb dX3_runScript_132 (by decide) ?_
                  obtain ⟨x14, ex14, hM⟩ := zx_nE hM
                  refine zx_top ex14 ?_
                  refine lv_bipush (v := 100) hx hb dX3_runScript_133 (by decide) ?_
                  refine lv_irem hx hb dX3_runScript_135 (by decide) ?_
                  obtain ⟨x15, ex15, hM⟩ := zx_nE hM
                  refine zx_top ex15 ?_
                  refine lv_iload hx hb dX3_runScript_136 (lv_at hl 0 rfl) ?_
                  refine lv_bipush (v := 100) hx hb dX3_runScript_138 (by decide) ?_
                  refine lv_idiv hx hb dX3_runScript_140 (by decide) ?_
                  obtain ⟨x16, ex16, hM⟩ := zx_nE hM
                  refine zx_top ex16 ?_
                  refine lv_bipush (v := 100) hx hb dX3_runScript_141 (by decide) ?_
                  refine lv_irem hx hb dX3_runScript_143 (by decide) ?_
                  obtain ⟨x17, ex17, hM⟩ := zx_nE hM
                  refine zx_top ex17 ?_
                  refine lv_iload hx hb dX3_runScript_144 (lv_at hl 0 rfl) ?_
                  refine lv_bipush (v := 100) hx hb dX3_runScript_146 (by decide) ?_
                  refine lv_irem hx hb dX3_runScript_148 (by decide) ?_
                  obtain ⟨x18, ex18, hM⟩ := zx_nE hM
                  refine zx_top ex18 ?_
                  obtain ⟨x19, T20, hz21, hM⟩ := zx_b2E hM
                  refine va_calli (va_runV (As := [.int x11, .int x13, .int x15, .int x17, .int x18]) (rest := []) ⟨hx, hb, hml, hown, hts⟩ (c_X3_command l D cI cZ cT h ad S_ _ N x11 x13 x15 x17 x18  hz21) (cwV 5 hts (zg_V zw_32_21 zw_32_22 zw_32_23 zw_1_5 zw_33_0) rfl rfl rfl ⟨rfl, zyX3_command⟩ ⟨Nat.le_of_ble_eq_true rfl, Nat.le_of_ble_eq_true rfl⟩) ⟨bS_blind, va_recv hK hP (ci := 3) (q0 := 0) rfl rfl, bS_pre hP hK hD hN⟩ rfl rfl hl.1 rfl (lv_room (Nat.le_of_ble_eq_true rfl)) dX3_runScript_149 ⟨Nat.zero_le _, Nat.zero_le _⟩) hS (fun q _ h => zx_fW hD hS hA q h) (fun q h => zx_fW hD hS hA q h) (fun r u t H1 lc ht hvm hw hB hz1 hk1 hS => ?_)
                  obtain ⟨hw1, hw2⟩ := Prod.mk.inj hw; subst hw1; subst hw2
                  rw [ht] at hB
                  replace hP := hB
                  replace hD := xW3_D T20 hD
                  refine lv_if_ne (tgt := 158) hx hb dX3_runScript_152 (by decide) (fun q22 => ?_) (fun q22 => ?_)
                  · replace hM := zx_f q22 hM
                    obtain ⟨x23, ex23, hM⟩ := zx_nE hM
                    refine lv_iinc (v := x23) (lv' := [(6, .int x23), (7, .int x10), (4, .long x6), (0, .ref h), (1, .int v1), (2, .long v2)]) hx hb dX3_runScript_158 hl (k := 5) rfl (by rw [ex23]; rfl) (by decide) rfl (fun ls hl => ?_)
                    refine lv_goto (tgt := 86) hx hb dX3_runScript_161 (by decide) ?_
                    exact ih86 v1 v2 x6 x23 T20 _ _ _ hP hD hS (lv_sub hl [3, 4, 5, 2, 0] rfl) hM
                  · replace hM := zx_t q22 hM
                    refine lv_iload hx hb dX3_runScript_155 (lv_at hl 5 rfl) ?_
                    rw [hQ]
                    exact W.iret hx hb hr (fun t ht hW => ⟨⟨v6, T20, rfl, (Option.some.inj hM).symm, by show va_P D vwCl _ t.heap; rw [ht]; exact hP⟩, hS.F ht⟩) hS.2.2 dX3_runScript_157
            refine lv_aload_n hx hb dX3_runScript_70 rfl (lv_at hl 0 rfl) ?_
            refine va_get (D := D) (ci := 3) (v := .ref (ad 1)) (C := RX3) (T := TX3) (N := 20) hx hb hts inlX3 hown hK hP 0 rfl rfl 3 (by decide) (hts _ zw_3_19) (fun _ h9 => h9) rfl dX3_runScript_71 ?_
            refine lv_iconst (v := 0) hx hb dX3_runScript_74 (by decide) ?_
            refine lv_aload_n hx hb dX3_runScript_75 rfl (lv_at hl 0 rfl) ?_
            refine va_get (D := D) (ci := 3) (v := .ref (ad 2)) (C := RX3) (T := TX3) (N := 20) hx hb hts inlX3 hown hK hP 0 rfl rfl 4 (by decide) (hts _ zw_3_20) (fun _ h9 => h9) rfl dX3_runScript_76 ?_
            refine lv_iconst (v := 0) hx hb dX3_runScript_79 (by decide) ?_
            obtain ⟨g24, hz25, hM⟩ := zx_b1E hM
            refine va_callv (va_runS (As := [.ref (ad 1), .int 0, .ref (ad 2), .int 0]) (rest := []) ⟨hx, hb, hml, hown, hts⟩ (c_X3_copyState l D cI cZ cT (ad 1) 380 (T2 1) (ad 2) 380 (T2 2) _ N 0 0 hz25) (va_cwS 4 hts (zg_S zw_23_4 zw_23_5 zw_1_5 zw_23_6) rfl rfl rfl zyX3_copyState ⟨Nat.le_of_ble_eq_true rfl, Nat.le_of_ble_eq_true rfl⟩) ⟨bS_blind, bS_pre (zx_P2 hP 2 3 (rfl) (rfl)) hK (zx_D2 hD 2 3 (rfl) (rfl) (by decide)) hN⟩ rfl rfl hl.1 rfl (lv_room (Nat.le_of_ble_eq_true rfl)) dX3_runScript_80 ⟨Nat.zero_le _, Nat.zero_le _⟩) hS (fun q _ h => zx_f2 hD hS hA (k := 2) (j := 3) rfl rfl q h) (fun q h => zx_f2 hD hS hA (k := 2) (j := 3) rfl rfl q h) (fun u t H1 lc ht hvm hw hB hz1 hk1 hS => ?_)
            replace hw : g24 = u := hw; subst hw
            rw [ht] at hB
            replace hP := zx_set2 (k := 3) (j := 2) (by decide) hP hD rfl rfl hk1 hB
            replace hD := va_D.set (p := 3) (e := .inl (cI, 380, .inl g24)) hD rfl
            rw [xW3_pa2] at hP hD
            obtain ⟨T26, eT26, hM⟩ := zx_nE hM
            rw [← eT26] at hP hD
            refine lv_iconst (v := 0) hx hb dX3_runScript_83 (by decide) ?_
            refine lv_istore (lv' := [(6, .int 0), (0, .ref h), (1, .int v1), (2, .long v2), (4, .long v4)]) hx hb dX3_runScript_84 hl (by decide) rfl (fun ls hl => ?_)
            exact l86 N v1 v2 v4 0 T26 _ _ _ hP hD hS (lv_sub hl [1, 2, 3, 4, 0] rfl) hM
          · replace hM := zx_f q4 hM
            refine lv_iconst (v := 0) hx hb dX3_runScript_68 (by decide) ?_
            rw [hQ]
            exact W.iret hx hb hr (fun t ht hW => ⟨⟨0, T2, rfl, (Option.some.inj hM).symm, by show va_P D vwCl _ t.heap; rw [ht]; exact hP⟩, hS.F ht⟩) hS.2.2 dX3_runScript_69
        have j61 : ∀ (v1 : Int32) (v2 : Int64) (v4 : Int64) (S_ : zx_S) (H : Heap) (lc : List Loc) (ls : Array Slot), va_P D vwCl (xW3 cI cZ h ad S_) H → va_D A (xW3 cI cZ h ad S_) → va_S A s.heap H lc → lv_has ls 8 [(0, .ref h), (1, .int v1), (2, .long v2), (4, .long v4)] → f_X3_runScript_j61 N v1 v2 v4 S_ = some R → W p l e (headSpec zsX3_runScript rmX3_runScript).room s m ([.ref h, .int p1, .long p2] : List Value).toArray below meth c H lc 0 0 Q9 (F0 m 61 ls [.ref h]) := by
          intro v1 v2 v4 S_ H lc ls hP hD hS hl hM
          unfold f_X3_runScript_j61 at hM
          refine lv_iconst (v := 1) hx hb dX3_runScript_61 (by decide) ?_
          exact j62 v1 v2 v4 1 S_ _ _ _ hP hD hS (lv_sub hl [0, 1, 2, 3] rfl) hM
        refine lv_aload_n hx hb dX3_runScript_32 rfl (lv_at hl 0 rfl) ?_
        refine lv_iload_n hx hb dX3_runScript_33 rfl (lv_at hl 1 rfl) ?_
        refine lv_i2l hx hb dX3_runScript_34 rfl ?_
        refine lv_lconst (v := 1) hx hb dX3_runScript_35 (by decide) ?_
        refine lv_ldc2 (v := 2) hx hb hown (hts _ zw_32_18) dX3_runScript_36 ?_
        obtain ⟨x27, hz28, hM⟩ := zx_b1E hM
        refine va_calli (va_runS (As := [.long (Int32.toInt64 v1), .long 1, .long 2]) (rest := [.ref h]) ⟨hx, hb, hml, hown, hts⟩ (c_X3_in l D cI cZ cT _ N (Int32.toInt64 v1) 1 2 hz28) (va_cwS 3 hts (zg_S zw_5_11 zw_5_12 zw_1_5 zw_5_13) rfl rfl rfl zyX3_in ⟨Nat.le_of_ble_eq_true rfl, Nat.le_of_ble_eq_true rfl⟩) ⟨bS_blind, bS_pre (zx_P0 hP) hK (zx_D0 hD) hN⟩ rfl rfl hl.1 rfl (lv_room (Nat.le_of_ble_eq_true rfl)) dX3_runScript_39 ⟨Nat.zero_le _, Nat.zero_le _⟩) hS (fun q h1 h2 => absurd h1 (Nat.not_lt.mpr h2)) (fun q h => hA q (Nat.le_trans hS.1 h)) (fun r u t H1 lc ht hvm hw hB hz1 hk1 hS => ?_)
        replace hw : x27 = r := hw; subst hw
        replace hP := zx_keep hP hk1
        refine lv_if_eq (tgt := 61) hx hb dX3_runScript_42 (by decide) (fun q29 => ?_) (fun q29 => ?_)
        · replace hM := zx_t q29 hM
          exact j61 v1 v2 v4 S_ _ _ _ hP hD hS (lv_sub hl [0, 1, 2, 3] rfl) hM
        · replace hM := zx_f q29 hM
          refine lv_lload_n hx hb dX3_runScript_45 rfl (lv_at hl 2 rfl) ?_
          refine lv_lconst (v := 0) hx hb dX3_runScript_46 (by decide) ?_
          refine lv_lload hx hb dX3_runScript_47 (lv_at hl 3 rfl) ?_
          refine lv_lconst (v := 1) hx hb dX3_runScript_49 (by decide) ?_
          refine lv_lsub hx hb dX3_runScript_50 ?_
          obtain ⟨x30, hz31, hM⟩ := zx_b1E hM
          refine va_calli (va_runS (As := [.long v2, .long 0, .long (v4 - 1)]) (rest := [.ref h]) ⟨hx, hb, hml, hown, hts⟩ (c_X3_in l D cI cZ cT _ N v2 0 (v4 - 1) hz31) (va_cwS 3 hts (zg_S zw_5_11 zw_5_12 zw_1_5 zw_5_13) rfl rfl rfl zyX3_in ⟨Nat.le_of_ble_eq_true rfl, Nat.le_of_ble_eq_true rfl⟩) ⟨bS_blind, bS_pre (zx_P0 hP) hK (zx_D0 hD) hN⟩ rfl rfl hl.1 rfl (lv_room (Nat.le_of_ble_eq_true rfl)) dX3_runScript_51 ⟨Nat.zero_le _, Nat.zero_le _⟩) hS (fun q h1 h2 => absurd h1 (Nat.not_lt.mpr h2)) (fun q h => hA q (Nat.le_trans hS.1 h)) (fun r u t H1 lc ht hvm hw hB hz1 hk1 hS => ?_)
          replace hw : x30 = r := hw; subst hw
          replace hP := zx_keep hP hk1
          refine lv_if_eq (tgt := 61) hx hb dX3_runScript_54 (by decide) (fun q32 => ?_) (fun q32 => ?_)
          · replace hM := zx_t q32 hM
            exact j61 v1 v2 v4 S_ _ _ _ hP hD hS (lv_sub hl [0, 1, 2, 3] rfl) hM
          · replace hM := zx_f q32 hM
            refine lv_iconst (v := 0) hx hb dX3_runScript_57 (by decide) ?_
            refine lv_goto (tgt := 62) hx hb dX3_runScript_58 (by decide) ?_
            exact j62 v1 v2 v4 0 S_ _ _ _ hP hD hS (lv_sub hl [0, 1, 2, 3] rfl) hM
      refine lv_iload hx hb dX3_runScript_6 (lv_at hl 4 rfl) ?_
      refine lv_iload_n hx hb dX3_runScript_8 rfl (lv_at hl 1 rfl) ?_
      refine lv_icmp_ge (tgt := 32) hx hb dX3_runScript_9 (by decide) (fun q33 => ?_) (fun q33 => ?_)
      · replace hM := zx_t q33 hM
        exact j32 v1 v2 v4 S_ _ _ _ hP hD hS (lv_sub hl [0, 1, 2, 3] rfl) hM
      · replace hM := zx_f q33 hM
        refine lv_iload hx hb dX3_runScript_12 (lv_at hl 4 rfl) ?_
        refine lv_iconst (v := 2) hx hb dX3_runScript_14 (by decide) ?_
        refine lv_icmp_ge (tgt := 32) hx hb dX3_runScript_15 (by decide) (fun q34 => ?_) (fun q34 => ?_)
        · replace hM := zx_t q34 hM
          exact j32 v1 v2 v4 S_ _ _ _ hP hD hS (lv_sub hl [0, 1, 2, 3] rfl) hM
        · replace hM := zx_f q34 hM
          refine lv_lload hx hb dX3_runScript_18 (lv_at hl 3 rfl) ?_
          refine lv_ldc2 (v := 1000000000) hx hb hown (hts _ zw_32_17) dX3_runScript_20 ?_
          refine lv_lmul hx hb dX3_runScript_23 ?_
          obtain ⟨x35, ex35, hM⟩ := zx_nE hM
          refine zx_topl ex35 ?_
          refine lv_lstore (lv' := [(4, .long x35), (0, .ref h), (1, .int v1), (2, .long v2), (6, .int v6)]) hx hb dX3_runScript_24 hl (by decide) rfl (fun ls hl => ?_)
          obtain ⟨x36, ex36, hM⟩ := zx_nE hM
          refine lv_iinc (v := x36) (lv' := [(6, .int x36), (4, .long x35), (0, .ref h), (1, .int v1), (2, .long v2)]) hx hb dX3_runScript_26 hl (k := 4) rfl (by rw [ex36]; rfl) (by decide) rfl (fun ls hl => ?_)
          refine lv_goto (tgt := 6) hx hb dX3_runScript_29 (by decide) ?_
          exact ih6 v1 v2 x35 x36 S_ _ _ _ hP hD hS (lv_sub hl [2, 3, 4, 1, 0] rfl) hM
  refine lv_lconst (v := 1) hx hb dX3_runScript_0 (by decide) ?_
  refine lv_lstore (lv' := [(4, .long 1), (0, .ref h), (1, .int p1), (2, .long p2)]) hx hb dX3_runScript_1 hl (by decide) rfl (fun ls hl => ?_)
  refine lv_iconst (v := 0) hx hb dX3_runScript_3 (by decide) ?_
  refine lv_istore (lv' := [(6, .int 0), (4, .long 1), (0, .ref h), (1, .int p1), (2, .long p2)]) hx hb dX3_runScript_4 hl (by decide) rfl (fun ls hl => ?_)
  exact l6 N p1 p2 1 0 S _ _ _ hP hD hS (lv_sub hl [2, 3, 4, 1, 0] rfl) hM

/-! ShallowBoxesModel.turn(I)V -/
def f_X3_turn_j24 (N : Nat) (v1 : Int32) (S_ : zx_S) : Option (zx_S) :=
  (zx_n (v1 / 4) (fun x1 =>
(zx_n (x1 - x1 / 24 * 24) (fun x2 =>
(zx_b1 (f_X3_isThere N 380 x2 (S_ 2)) (fun x3 =>
(if x3 = 0 then
  some S_ else
  (zx_n (v1 / 4) (fun x6 =>
(zx_n (x6 - x6 / 24 * 24) (fun x7 =>
(zx_b2 (f_X3_removeOn N 2 x7 S_) (fun x8 T9 =>
some T9)))))))))))))
def f_X3_turn_j58 (N : Nat) (v1 : Int32) (S_ : zx_S) : Option (zx_S) :=
  (zx_n (v1 / 4) (fun x14 =>
(zx_n (x14 - x14 / 90 * 90) (fun x15 =>
(zx_n (v1 / 512) (fun x16 =>
(zx_n (x16 - x16 / 90 * 90) (fun x17 =>
(zx_n (v1 / 65536) (fun x18 =>
(zx_n (x18 - x18 / 10 * 10) (fun x19 =>
(zx_n (v1 / 1048576) (fun x20 =>
(zx_n (x20 - x20 / 10 * 10) (fun x21 =>
(zx_b2 (f_X3_adds N x15 x17 x19 x21 S_) (fun x22 T23 =>
some T23))))))))))))))))))
def f_X3_turn (N : Nat) (p1 : Int32) (S : zx_S) : Option (zx_S) :=
  (zx_b1 (f_X3_count N 380 (S 2)) (fun x11 =>
(if x11 = 24 then
  f_X3_turn_j24 N  p1 S else
  (zx_n (p1 - p1 / 4 * 4) (fun x25 =>
(if x25 = 0 then
  (if x11 ≤ 0 then
  f_X3_turn_j58 N  p1 S else
  f_X3_turn_j24 N  p1 S) else
  f_X3_turn_j58 N  p1 S))))))
abbrev rmX3_turn : Room := { frames := 9, cells := 0, slots := 0, locals := 219 }
abbrev zsX3_turn : List Cond := .code yX3_turn cX3_turn 3 none :: wsL_law
theorem zyX3_turn : yX3_turn.cls ≠ "java/lang/invoke/MethodHandle" ∧ yX3_turn.cls ≠ "java/lang/invoke/VarHandle" ∧ (parseMethodDescriptor yX3_turn.desc).map (fun d => d.parameters.length) = some 1 := by decide +kernel
set_option maxHeartbeats 4000000 in
set_option maxRecDepth 100000 in
theorem c_X3_turn (l : Launch) (D : va_G) (cI cZ cT : ClassId) (h : Nat) (ad : Nat → Nat) (S : zx_S) (sz : Nat) (N : Nat) (p1 : Int32) {R : zx_S} (hM : f_X3_turn N p1 S = some R) : Met l yX3_turn zsX3_turn rmX3_turn (va_Pc [.ref h, .int p1] (bS D (zx_ty cI cZ cT) (xW3 cI cZ h ad S) sz)) (va_Qv (fun u => R = u) (fun u t => va_P D vwCl (xW3 cI cZ h ad u) t.heap) (va_A (xW3 cI cZ h ad S) sz)) 0 0 (va_A (xW3 cI cZ h ad S) sz) := by
  refine Met.ofW (cc := cX3_turn) (maxL := 3) (ret := none) (by decide) rfl ?_
  intro p e s m args below meth c s₁ B hml hv
  obtain ⟨rfl, hsz, hP, hK, hD0, hN⟩ := hv
  have hx := B.exec
  have hb := B.bytes
  have hr := B.returns
  have hts : ∀ w ∈ wsL_law, w.before _ s = true := fun w hw => atoms_spec (ws := zsX3_turn) B.pre w (List.mem_cons_of_mem _ hw)
  have hown : s.vm.findClass RX3 = some m.cls := findClass_of_methodNamed B.named
  have hlocks := B.notSynchronized
  subst hsz
  have hD := hD0.self (sz := s.heap.size)
  generalize hAe : va_A (xW3 cI cZ h ad S) s.heap.size = A at hD ⊢
  have hA : ∀ q : Nat, s.heap.size ≤ q → A q := fun q h => by rw [← hAe]; exact Or.inr h
  have hS : va_S A s.heap s.heap [] := va_S.rf
  have hl := lv_entry ([.ref h, .int p1]) (n := 3) (Nat.le_of_ble_eq_true rfl)
  rw [lg_entry_eq]
  generalize (lg_sl ([.ref h, .int p1]) ++ List.replicate (3 - (lg_sl ([.ref h, .int p1])).length) Slot.unset).toArray = ls at hl ⊢
  have hl : lv_has ls 3 [(0, .ref h), (1, .int p1)] := hl
  generalize hQ : MQ below (va_Qv (fun u => R = u) (fun u t => va_P D vwCl (xW3 cI cZ h ad u) t.heap) A) ([.ref h, .int p1] : List Value).toArray s 0 0 A = Q9
  replace hQ := hQ.symm
  unfold f_X3_turn at hM
  have j24 : ∀ (v1 : Int32) (S_ : zx_S) (H : Heap) (lc : List Loc) (ls : Array Slot), va_P D vwCl (xW3 cI cZ h ad S_) H → va_D A (xW3 cI cZ h ad S_) → va_S A s.heap H lc → lv_has ls 3 [(0, .ref h), (1, .int v1)] → f_X3_turn_j24 N v1 S_ = some R → W p l e (headSpec zsX3_turn rmX3_turn).room s m ([.ref h, .int p1] : List Value).toArray below meth c H lc 0 0 Q9 (F0 m 24 ls []) := by
    intro v1 S_ H lc ls hP hD hS hl hM
    unfold f_X3_turn_j24 at hM
    refine lv_aload_n hx hb dX3_turn_24 rfl (lv_at hl 0 rfl) ?_
    refine va_get (D := D) (ci := 3) (v := .ref (ad 2)) (C := RX3) (T := TX3) (N := 20) hx hb hts inlX3 hown hK hP 0 rfl rfl 4 (by decide) (hts _ zw_3_20) (fun _ h9 => h9) rfl dX3_turn_25 ?_
    refine lv_iload_n hx hb dX3_turn_28 rfl (lv_at hl 1 rfl) ?_
    refine lv_iconst (v := 4) hx hb dX3_turn_29 (by decide) ?_
    refine lv_idiv hx hb dX3_turn_30 (by decide) ?_
    obtain ⟨x1, ex1, hM⟩ := zx_nE hM
    refine zx_top ex1 ?_
    refine lv_bipush (v := 24) hx hb dX3_turn_31 (by decide) ?_
    refine lv_irem hx hb dX3_turn_33 (by decide) ?_
    obtain ⟨x2, ex2, hM⟩ := zx_nE hM
    refine zx_top ex2 ?_
    obtain ⟨x3, hz4, hM⟩ := zx_b1E hM
    refine va_calli (va_runS (As := [.ref (ad 2), .int x2]) (rest := []) ⟨hx, hb, hml, hown, hts⟩ (c_X3_isThere l D cI cZ cT (ad 2) 380 (S_ 2) _ N x2 hz4) (va_cwS 2 hts (zg_S zw_16_14 zw_16_15 zw_1_5 zw_16_16) rfl rfl rfl zyX3_isThere ⟨Nat.le_of_ble_eq_true rfl, Nat.le_of_ble_eq_true rfl⟩) ⟨bS_blind, bS_pre (zx_P1 hP 3 (rfl)) hK (zx_D1 hD 3 (rfl)) hN⟩ rfl rfl hl.1 rfl (lv_room (Nat.le_of_ble_eq_true rfl)) dX3_turn_34 ⟨Nat.zero_le _, Nat.zero_le _⟩) hS (fun q h1 h2 => absurd h1 (Nat.not_lt.mpr h2)) (fun q h => hA q (Nat.le_trans hS.1 h)) (fun r u t H1 lc ht hvm hw hB hz1 hk1 hS => ?_)
    replace hw : x3 = r := hw; subst hw
    replace hP := zx_keep hP hk1
    refine lv_if_eq (tgt := 93) hx hb dX3_turn_37 (by decide) (fun q5 => ?_) (fun q5 => ?_)
    · replace hM := zx_t q5 hM
      rw [hQ]
      exact W.vret hx hb hr (fun t ht hW => ⟨⟨S_, rfl, (Option.some.inj hM).symm, by show va_P D vwCl _ t.heap; rw [ht]; exact hP⟩, hS.F ht⟩) hS.2.2 dX3_turn_93
    · replace hM := zx_f q5 hM
      refine lv_aload_n hx hb dX3_turn_40 rfl (lv_at hl 0 rfl) ?_
      refine lv_aload_n hx hb dX3_turn_41 rfl (lv_at hl 0 rfl) ?_
      refine va_get (D := D) (ci := 3) (v := .ref (ad 2)) (C := RX3) (T := TX3) (N := 20) hx hb hts inlX3 hown hK hP 0 rfl rfl 4 (by decide) (hts _ zw_3_20) (fun _ h9 => h9) rfl dX3_turn_42 ?_
      refine lv_iload_n hx hb dX3_turn_45 rfl (lv_at hl 1 rfl) ?_
      refine lv_iconst (v := 4) hx hb dX3_turn_46 (by decide) ?_
      refine lv_idiv hx hb dX3_turn_47 (by decide) ?_
      obtain ⟨x6, ex6, hM⟩ := zx_nE hM
      refine zx_top ex6 ?_
      refine lv_bipush (v := 24) hx hb dX3_turn_48 (by decide) ?_
      refine lv_irem hx hb dX3_turn_50 (by decide) ?_
      obtain ⟨x7, ex7, hM⟩ := zx_nE hM
      refine zx_top ex7 ?_
      obtain ⟨x8, T9, hz10, hM⟩ := zx_b2E hM
      refine va_calli (va_runV (As := [.ref (ad 2), .int x7]) (rest := []) ⟨hx, hb, hml, hown, hts⟩ (c_X3_removeOn l D cI cZ cT h ad S_ _ N 2 (Or.inr rfl) x7  hz10) (cwV 2 hts (zg_V zw_24_18 zw_24_19 zw_24_20 zw_1_5 zw_24_21) rfl rfl rfl ⟨rfl, zyX3_removeOn⟩ ⟨Nat.le_of_ble_eq_true rfl, Nat.le_of_ble_eq_true rfl⟩) ⟨bS_blind, va_recv hK hP (ci := 3) (q0 := 0) rfl rfl, bS_pre hP hK hD hN⟩ rfl rfl hl.1 rfl (lv_room (Nat.le_of_ble_eq_true rfl)) dX3_turn_51 ⟨Nat.zero_le _, Nat.zero_le _⟩) hS (fun q _ h => zx_fW hD hS hA q h) (fun q h => zx_fW hD hS hA q h) (fun r u t H1 lc ht hvm hw hB hz1 hk1 hS => ?_)
      obtain ⟨hw1, hw2⟩ := Prod.mk.inj hw; subst hw1; subst hw2
      rw [ht] at hB
      replace hP := hB
      replace hD := xW3_D T9 hD
      refine lv_pop hx hb dX3_turn_54 rfl ?_
      refine lv_goto (tgt := 93) hx hb dX3_turn_55 (by decide) ?_
      rw [hQ]
      exact W.vret hx hb hr (fun t ht hW => ⟨⟨T9, rfl, (Option.some.inj hM).symm, by show va_P D vwCl _ t.heap; rw [ht]; exact hP⟩, hS.F ht⟩) hS.2.2 dX3_turn_93
  refine lv_aload_n hx hb dX3_turn_0 rfl (lv_at hl 0 rfl) ?_
  refine va_get (D := D) (ci := 3) (v := .ref (ad 2)) (C := RX3) (T := TX3) (N := 20) hx hb hts inlX3 hown hK hP 0 rfl rfl 4 (by decide) (hts _ zw_3_20) (fun _ h9 => h9) rfl dX3_turn_1 ?_
  obtain ⟨x11, hz12, hM⟩ := zx_b1E hM
  refine va_calli (va_runS (As := [.ref (ad 2)]) (rest := []) ⟨hx, hb, hml, hown, hts⟩ (c_X3_count l D cI cZ cT (ad 2) 380 (S 2) _ N hz12) (va_cwS 1 hts (zg_S zw_14_13 zw_14_14 zw_1_5 zw_14_15) rfl rfl rfl zyX3_count ⟨Nat.le_of_ble_eq_true rfl, Nat.le_of_ble_eq_true rfl⟩) ⟨bS_blind, bS_pre (zx_P1 hP 3 (rfl)) hK (zx_D1 hD 3 (rfl)) hN⟩ rfl rfl hl.1 rfl (lv_room (Nat.le_of_ble_eq_true rfl)) dX3_turn_4 ⟨Nat.zero_le _, Nat.zero_le _⟩) hS (fun q h1 h2 => absurd h1 (Nat.not_lt.mpr h2)) (fun q h => hA q (Nat.le_trans hS.1 h)) (fun r u t H1 lc ht hvm hw hB hz1 hk1 hS => ?_)
  replace hw : x11 = r := hw; subst hw
  replace hP := zx_keep hP hk1
  refine lv_istore_n (lv' := [(2, .int x11), (0, .ref h), (1, .int p1)]) hx hb dX3_turn_7 rfl hl (by decide) rfl (fun ls hl => ?_)
  refine lv_iload_n hx hb dX3_turn_8 rfl (lv_at hl 0 rfl) ?_
  refine lv_bipush (v := 24) hx hb dX3_turn_9 (by decide) ?_
  refine lv_icmp_eq (tgt := 24) hx hb dX3_turn_11 (by decide) (fun q13 => ?_) (fun q13 => ?_)
  · replace hM := zx_t q13 hM
    exact j24 p1 S _ _ _ hP hD hS (lv_sub hl [1, 2] rfl) hM
  · replace hM := zx_f q13 hM
    have j58 : ∀ (v1 : Int32) (S_ : zx_S) (H : Heap) (lc : List Loc) (ls : Array Slot), va_P D vwCl (xW3 cI cZ h ad S_) H → va_D A (xW3 cI cZ h ad S_) → va_S A s.heap H lc → lv_has ls 3 [(0, .ref h), (1, .int v1)] → f_X3_turn_j58 N v1 S_ = some R → W p l e (headSpec zsX3_turn rmX3_turn).room s m ([.ref h, .int p1] : List Value).toArray below meth c H lc 0 0 Q9 (F0 m 58 ls []) := by
      intro v1 S_ H lc ls hP hD hS hl hM
      unfold f_X3_turn_j58 at hM
      refine lv_aload_n hx hb dX3_turn_58 rfl (lv_at hl 0 rfl) ?_
      refine lv_iload_n hx hb dX3_turn_59 rfl (lv_at hl 1 rfl) ?_
      refine lv_iconst (v := 4) hx hb dX3_turn_60 (by decide) ?_
      refine lv_idiv hx hb dX3_turn_61 (by decide) ?_
      obtain ⟨x14, ex14, hM⟩ := zx_nE hM
      refine zx_top ex14 ?_
      refine lv_bipush (v := 90) hx hb dX3_turn_62 (by decide) ?_
      refine lv_irem hx hb dX3_turn_64 (by decide) ?_
      obtain ⟨x15, ex15, hM⟩ := zx_nE hM
      refine zx_top ex15 ?_
      refine lv_iload_n hx hb dX3_turn_65 rfl (lv_at hl 1 rfl) ?_
      refine lv_sipush (v := 512) hx hb dX3_turn_66 (by decide) ?_
      refine lv_idiv hx hb dX3_turn_69 (by decide) ?_
      obtain ⟨x16, ex16, hM⟩ := zx_nE hM
      refine zx_top ex16 ?_
      refine lv_bipush (v := 90) hx hb dX3_turn_70 (by decide) ?_
      refine lv_irem hx hb dX3_turn_72 (by decide) ?_
      obtain ⟨x17, ex17, hM⟩ := zx_nE hM
      refine zx_top ex17 ?_
      refine lv_iload_n hx hb dX3_turn_73 rfl (lv_at hl 1 rfl) ?_
      refine lv_ldcw (v := 65536) hx hb hown (hts _ zw_34_11) dX3_turn_74 ?_
      refine lv_idiv hx hb dX3_turn_77 (by decide) ?_
      obtain ⟨x18, ex18, hM⟩ := zx_nE hM
      refine zx_top ex18 ?_
      refine lv_bipush (v := 10) hx hb dX3_turn_78 (by decide) ?_
      refine lv_irem hx hb dX3_turn_80 (by decide) ?_
      obtain ⟨x19, ex19, hM⟩ := zx_nE hM
      refine zx_top ex19 ?_
      refine lv_iload_n hx hb dX3_turn_81 rfl (lv_at hl 1 rfl) ?_
      refine lv_ldcw (v := 1048576) hx hb hown (hts _ zw_34_12) dX3_turn_82 ?_
      refine lv_idiv hx hb dX3_turn_85 (by decide) ?_
      obtain ⟨x20, ex20, hM⟩ := zx_nE hM
      refine zx_top ex20 ?_
      refine lv_bipush (v := 10) hx hb dX3_turn_86 (by decide) ?_
      refine lv_irem hx hb dX3_turn_88 (by decide) ?_
      obtain ⟨x21, ex21, hM⟩ := zx_nE hM
      refine zx_top ex21 ?_
      obtain ⟨x22, T23, hz24, hM⟩ := zx_b2E hM
      refine va_calli (va_runV (As := [.int x15, .int x17, .int x19, .int x21]) (rest := []) ⟨hx, hb, hml, hown, hts⟩ (c_X3_adds l D cI cZ cT h ad S_ _ N x15 x17 x19 x21  hz24) (cwV 4 hts (zg_V zw_33_1 zw_33_2 zw_33_3 zw_1_5 zw_33_4) rfl rfl rfl ⟨rfl, zyX3_adds⟩ ⟨Nat.le_of_ble_eq_true rfl, Nat.le_of_ble_eq_true rfl⟩) ⟨bS_blind, va_recv hK hP (ci := 3) (q0 := 0) rfl rfl, bS_pre hP hK hD hN⟩ rfl rfl hl.1 rfl (lv_room (Nat.le_of_ble_eq_true rfl)) dX3_turn_89 ⟨Nat.zero_le _, Nat.zero_le _⟩) hS (fun q _ h => zx_fW hD hS hA q h) (fun q h => zx_fW hD hS hA q h) (fun r u t H1 lc ht hvm hw hB hz1 hk1 hS => ?_)
      obtain ⟨hw1, hw2⟩ := Prod.mk.inj hw; subst hw1; subst hw2
      rw [ht] at hB
      replace hP := hB
      replace hD := xW3_D T23 hD
      refine lv_pop hx hb dX3_turn_92 rfl ?_
      rw [hQ]
      exact W.vret hx hb hr (fun t ht hW => ⟨⟨T23, rfl, (Option.some.inj hM).symm, by show va_P D vwCl _ t.heap; rw [ht]; exact hP⟩, hS.F ht⟩) hS.2.2 dX3_turn_93
    refine lv_iload_n hx hb dX3_turn_14 rfl (lv_at hl 2 rfl) ?_
    refine lv_iconst (v := 4) hx hb dX3_turn_15 (by decide) ?_
    refine lv_irem hx hb dX3_turn_16 (by decide) ?_
    obtain ⟨x25, ex25, hM⟩ := zx_nE hM
    refine zx_top ex25 ?_
    refine lv_if_ne (tgt := 58) hx hb dX3_turn_17 (by decide) (fun q26 => ?_) (fun q26 => ?_)
    · replace hM := zx_f q26 hM
      exact j58 p1 S _ _ _ hP hD hS (lv_sub hl [1, 2] rfl) hM
    · replace hM := zx_t q26 hM
      refine lv_iload_n hx hb dX3_turn_20 rfl (lv_at hl 0 rfl) ?_
      refine lv_if_le (tgt := 58) hx hb dX3_turn_21 (by decide) (fun q27 => ?_) (fun q27 => ?_)
      · replace hM := zx_t q27 hM
        exact j58 p1 S _ _ _ hP hD hS (lv_sub hl [1, 2] rfl) hM
      · replace hM := zx_f q27 hM
        exact j24 p1 S _ _ _ hP hD hS (lv_sub hl [1, 2] rfl) hM

/-! ShallowBoxesModel.simulate(JI)I -/
def f_X3_simulate_l45 (N : Nat) : Nat → Int32 → Int64 → Int32 → zx_S → Option (Int32 × zx_S)
  | 0, _, _, _, _ => none
  | n45 + 1, v3, v4, v6, S_ => (if v3 ≤ v6 then
  (zx_b1 (f_X3_nodes N 380 (S_ 2)) (fun x6 =>
(zx_b1 (f_X3_count N 380 (S_ 2)) (fun x8 =>
some (((1000 * x6) + x8), S_))))) else
  (zx_n ((v4 * 6364136223846793005) + 1442695040888963407) (fun x10 =>
(zx_b1 (f_X3_turn N (Int64.toInt32 ((x10).toUInt64 >>> ((33 : Int32).toInt64.toUInt64 &&& Int64.toUInt64 63)).toInt64) S_) (fun T11 =>
(zx_n (v6 + 1) (fun x13 =>
f_X3_simulate_l45 N  n45 v3 x10 x13 T11)))))))
def f_X3_simulate_j18 (N : Nat) (v1 : Int64) (v3 : Int32) (t1 : Int32) (S_ : zx_S) : Option (Int32 × zx_S) :=
  (zx_b2 (f_X3_refused N t1 S_) (fun x1 T2 =>
(if x1 = 0 then
  (zx_b1 (f_X3_copyState N 380 380 0 0 (T2 1) (T2 2)) (fun g14 =>
(zx_n (zx_st T2 2 g14) (fun T16 =>
f_X3_simulate_l45 N  N v3 v1 0 T16)))) else
  some (0, T2))))
def f_X3_simulate (N : Nat) (p1 : Int64) (p3 : Int32) (S : zx_S) : Option (Int32 × zx_S) :=
  (zx_b1 (f_X3_in N (Int32.toInt64 p3) 1 60) (fun x17 =>
(if x17 = 0 then
  f_X3_simulate_j18 N  p1 p3 1 S else
  f_X3_simulate_j18 N  p1 p3 0 S)))
abbrev rmX3_simulate : Room := { frames := 10, cells := 0, slots := 0, locals := 241 }
abbrev zsX3_simulate : List Cond := .code yX3_simulate cX3_simulate 7 (some .int) :: wsL_law
theorem zyX3_simulate : yX3_simulate.cls ≠ "java/lang/invoke/MethodHandle" ∧ yX3_simulate.cls ≠ "java/lang/invoke/VarHandle" ∧ (parseMethodDescriptor yX3_simulate.desc).map (fun d => d.parameters.length) = some 2 := by decide +kernel
set_option maxHeartbeats 4000000 in
set_option maxRecDepth 100000 in
theorem c_X3_simulate (l : Launch) (D : va_G) (cI cZ cT : ClassId) (h : Nat) (ad : Nat → Nat) (S : zx_S) (sz : Nat) (N : Nat) (p1 : Int64) (p3 : Int32) {R : Int32 × zx_S} (hM : f_X3_simulate N p1 p3 S = some R) : Met l yX3_simulate zsX3_simulate rmX3_simulate (va_Pc [.ref h, .long p1, .int p3] (bS D (zx_ty cI cZ cT) (xW3 cI cZ h ad S) sz)) (va_Qi (fun r u => R = (r, u)) (fun u t => va_P D vwCl (xW3 cI cZ h ad u) t.heap) (va_A (xW3 cI cZ h ad S) sz)) 0 0 (va_A (xW3 cI cZ h ad S) sz) := by
  refine Met.ofW (cc := cX3_simulate) (maxL := 7) (ret := (some .int)) (by decide) rfl ?_
  intro p e s m args below meth c s₁ B hml hv
  obtain ⟨rfl, hsz, hP, hK, hD0, hN⟩ := hv
  have hx := B.exec
  have hb := B.bytes
  have hr := B.returns
  have hts : ∀ w ∈ wsL_law, w.before _ s = true := fun w hw => atoms_spec (ws := zsX3_simulate) B.pre w (List.mem_cons_of_mem _ hw)
  have hown : s.vm.findClass RX3 = some m.cls := findClass_of_methodNamed B.named
  have hlocks := B.notSynchronized
  subst hsz
  have hD := hD0.self (sz := s.heap.size)
  generalize hAe : va_A (xW3 cI cZ h ad S) s.heap.size = A at hD ⊢
  have hA : ∀ q : Nat, s.heap.size ≤ q → A q := fun q h => by rw [← hAe]; exact Or.inr h
  have hS : va_S A s.heap s.heap [] := va_S.rf
  have hl := lv_entry ([.ref h, .long p1, .int p3]) (n := 7) (Nat.le_of_ble_eq_true rfl)
  rw [lg_entry_eq]
  generalize (lg_sl ([.ref h, .long p1, .int p3]) ++ List.replicate (7 - (lg_sl ([.ref h, .long p1, .int p3])).length) Slot.unset).toArray = ls at hl ⊢
  have hl : lv_has ls 7 [(0, .ref h), (1, .long p1), (3, .int p3)] := hl
  generalize hQ : MQ below (va_Qi (fun r u => R = (r, u)) (fun u t => va_P D vwCl (xW3 cI cZ h ad u) t.heap) A) ([.ref h, .long p1, .int p3] : List Value).toArray s 0 0 A = Q9
  replace hQ := hQ.symm
  unfold f_X3_simulate at hM
  have j18 : ∀ (v1 : Int64) (v3 : Int32) (t1 : Int32) (S_ : zx_S) (H : Heap) (lc : List Loc) (ls : Array Slot), va_P D vwCl (xW3 cI cZ h ad S_) H → va_D A (xW3 cI cZ h ad S_) → va_S A s.heap H lc → lv_has ls 7 [(0, .ref h), (1, .long v1), (3, .int v3)] → f_X3_simulate_j18 N v1 v3 t1 S_ = some R → W p l e (headSpec zsX3_simulate rmX3_simulate).room s m ([.ref h, .long p1, .int p3] : List Value).toArray below meth c H lc 0 0 Q9 (F0 m 18 ls [.int t1, .ref h]) := by
    intro v1 v3 t1 S_ H lc ls hP hD hS hl hM
    unfold f_X3_simulate_j18 at hM
    obtain ⟨x1, T2, hz3, hM⟩ := zx_b2E hM
    refine va_calli (va_runV (As := [.int t1]) (rest := []) ⟨hx, hb, hml, hown, hts⟩ (c_X3_refused l D cI cZ cT h ad S_ _ N t1  hz3) (cwV 1 hts (zg_V zw_5_14 zw_5_15 zw_5_16 zw_1_5 zw_5_17) rfl rfl rfl ⟨rfl, zyX3_refused⟩ ⟨Nat.le_of_ble_eq_true rfl, Nat.le_of_ble_eq_true rfl⟩) ⟨bS_blind, va_recv hK hP (ci := 3) (q0 := 0) rfl rfl, bS_pre hP hK hD hN⟩ rfl rfl hl.1 rfl (lv_room (Nat.le_of_ble_eq_true rfl)) dX3_simulate_18 ⟨Nat.zero_le _, Nat.zero_le _⟩) hS (fun q _ h => zx_fW hD hS hA q h) (fun q h => zx_fW hD hS hA q h) (fun r u t H1 lc ht hvm hw hB hz1 hk1 hS => ?_)
    obtain ⟨hw1, hw2⟩ := Prod.mk.inj hw; subst hw1; subst hw2
    rw [ht] at hB
    replace hP := hB
    replace hD := xW3_D T2 hD
    refine lv_if_eq (tgt := 26) hx hb dX3_simulate_21 (by decide) (fun q4 => ?_) (fun q4 => ?_)
    · replace hM := zx_t q4 hM
      have l45 : ∀ (n45 : Nat) (v3 : Int32) (v4 : Int64) (v6 : Int32) (S_ : zx_S) (H : Heap) (lc : List Loc) (ls : Array Slot), va_P D vwCl (xW3 cI cZ h ad S_) H → va_D A (xW3 cI cZ h ad S_) → va_S A s.heap H lc → lv_has ls 7 [(0, .ref h), (3, .int v3), (4, .long v4), (6, .int v6)] → f_X3_simulate_l45 N n45 v3 v4 v6 S_ = some R → W p l e (headSpec zsX3_simulate rmX3_simulate).room s m ([.ref h, .long p1, .int p3] : List Value).toArray below meth c H lc 0 0 Q9 (F0 m 45 ls []) := by
        intro n45
        induction n45 with
        | zero =>
          intro v3 v4 v6 S_ H lc ls hP hD hS hl hM
          rw [f_X3_simulate_l45] at hM; exact absurd hM (by intro h; cases h)
        | succ n45 ih45 =>
          intro v3 v4 v6 S_ H lc ls hP hD hS hl hM
          rw [f_X3_simulate_l45] at hM
          refine lv_iload hx hb dX3_simulate_45 (lv_at hl 3 rfl) ?_
          refine lv_iload_n hx hb dX3_simulate_47 rfl (lv_at hl 1 rfl) ?_
          refine lv_icmp_ge (tgt := 79) hx hb dX3_simulate_48 (by decide) (fun q5 => ?_) (fun q5 => ?_)
          · replace hM := zx_t q5 hM
            refine lv_sipush (v := 1000) hx hb dX3_simulate_79 (by decide) ?_
            refine lv_aload_n hx hb dX3_simulate_82 rfl (lv_at hl 0 rfl) ?_
            refine va_get (D := D) (ci := 3) (v := .ref (ad 2)) (C := RX3) (T := TX3) (N := 20) hx hb hts inlX3 hown hK hP 0 rfl rfl 4 (by decide) (hts _ zw_3_20) (fun _ h9 => h9) rfl dX3_simulate_83 ?_
            obtain ⟨x6, hz7, hM⟩ := zx_b1E hM
            refine va_calli (va_runS (As := [.ref (ad 2)]) (rest := [.int 1000]) ⟨hx, hb, hml, hown, hts⟩ (c_X3_nodes l D cI cZ cT (ad 2) 380 (S_ 2) _ N hz7) (va_cwS 1 hts (zg_S zw_14_16 zw_14_17 zw_1_5 zw_14_18) rfl rfl rfl zyX3_nodes ⟨Nat.le_of_ble_eq_true rfl, Nat.le_of_ble_eq_true rfl⟩) ⟨bS_blind, bS_pre (zx_P1 hP 3 (rfl)) hK (zx_D1 hD 3 (rfl)) hN⟩ rfl rfl hl.1 rfl (lv_room (Nat.le_of_ble_eq_true rfl)) dX3_simulate_86 ⟨Nat.zero_le _, Nat.zero_le _⟩) hS (fun q h1 h2 => absurd h1 (Nat.not_lt.mpr h2)) (fun q h => hA q (Nat.le_trans hS.1 h)) (fun r u t H1 lc ht hvm hw hB hz1 hk1 hS => ?_)
            replace hw : x6 = r := hw; subst hw
            replace hP := zx_keep hP hk1
            refine lv_imul hx hb dX3_simulate_89 ?_
            refine lv_aload_n hx hb dX3_simulate_90 rfl (lv_at hl 0 rfl) ?_
            refine va_get (D := D) (ci := 3) (v := .ref (ad 2)) (C := RX3) (T := TX3) (N := 20) hx hb hts inlX3 hown hK hP 0 rfl rfl 4 (by decide) (hts _ zw_3_20) (fun _ h9 => h9) rfl dX3_simulate_91 ?_
            obtain ⟨x8, hz9, hM⟩ := zx_b1E hM
            refine va_calli (va_runS (As := [.ref (ad 2)]) (rest := [.int (1000 * x6)]) ⟨hx, hb, hml, hown, hts⟩ (c_X3_count l D cI cZ cT (ad 2) 380 (S_ 2) _ N hz9) (va_cwS 1 hts (zg_S zw_14_13 zw_14_14 zw_1_5 zw_14_15) rfl rfl rfl zyX3_count ⟨Nat.le_of_ble_eq_true rfl, Nat.le_of_ble_eq_true rfl⟩) ⟨bS_blind, bS_pre (zx_P1 hP 3 (rfl)) hK (zx_D1 hD 3 (rfl)) hN⟩ rfl rfl hl.1 rfl (lv_room (Nat.le_of_ble_eq_true rfl)) dX3_simulate_94 ⟨Nat.zero_le _, Nat.zero_le _⟩) hS (fun q h1 h2 => absurd h1 (Nat.not_lt.mpr h2)) (fun q h => hA q (Nat.le_trans hS.1 h)) (fun r u t H1 lc ht hvm hw hB hz1 hk1 hS => ?_)
            replace hw : x8 = r := hw; subst hw
            replace hP := zx_keep hP hk1
            refine lv_iadd hx hb dX3_simulate_97 ?_
            rw [hQ]
            exact W.iret hx hb hr (fun t ht hW => ⟨⟨((1000 * x6) + x8), S_, rfl, (Option.some.inj hM).symm, by show va_P D vwCl _ t.heap; rw [ht]; exact hP⟩, hS.F ht⟩) hS.2.2 dX3_simulate_98
          · replace hM := zx_f q5 hM
            refine lv_lload hx hb dX3_simulate_51 (lv_at hl 2 rfl) ?_
            refine lv_ldc2 (v := 6364136223846793005) hx hb hown (hts _ zw_34_5) dX3_simulate_53 ?_
            refine lv_lmul hx hb dX3_simulate_56 ?_
            refine lv_ldc2 (v := 1442695040888963407) hx hb hown (hts _ zw_34_6) dX3_simulate_57 ?_
            refine lv_ladd hx hb dX3_simulate_60 ?_
            obtain ⟨x10, ex10, hM⟩ := zx_nE hM
            refine zx_topl ex10 ?_
            refine lv_lstore (lv' := [(4, .long x10), (0, .ref h), (3, .int v3), (6, .int v6)]) hx hb dX3_simulate_61 hl (by decide) rfl (fun ls hl => ?_)
            refine lv_aload_n hx hb dX3_simulate_63 rfl (lv_at hl 1 rfl) ?_
            refine lv_lload hx hb dX3_simulate_64 (lv_at hl 0 rfl) ?_
            refine lv_bipush (v := 33) hx hb dX3_simulate_66 (by decide) ?_
            refine lv_lushr hx hb dX3_simulate_68 rfl ?_
            refine lv_l2i hx hb dX3_simulate_69 rfl ?_
            obtain ⟨T11, hz12, hM⟩ := zx_b1E hM
            refine va_callv (va_runV (As := [.int (Int64.toInt32 ((x10).toUInt64 >>> ((33 : Int32).toInt64.toUInt64 &&& Int64.toUInt64 63)).toInt64)]) (rest := []) ⟨hx, hb, hml, hown, hts⟩ (c_X3_turn l D cI cZ cT h ad S_ _ N (Int64.toInt32 ((x10).toUInt64 >>> ((33 : Int32).toInt64.toUInt64 &&& Int64.toUInt64 63)).toInt64)  hz12) (cwV 1 hts (zg_V zw_34_7 zw_34_8 zw_34_9 zw_1_5 zw_34_10) rfl rfl rfl ⟨rfl, zyX3_turn⟩ ⟨Nat.le_of_ble_eq_true rfl, Nat.le_of_ble_eq_true rfl⟩) ⟨bS_blind, va_recv hK hP (ci := 3) (q0 := 0) rfl rfl, bS_pre hP hK hD hN⟩ rfl rfl hl.1 rfl (lv_room (Nat.le_of_ble_eq_true rfl)) dX3_simulate_70 ⟨Nat.zero_le _, Nat.zero_le _⟩) hS (fun q _ h => zx_fW hD hS hA q h) (fun q h => zx_fW hD hS hA q h) (fun u t H1 lc ht hvm hw hB hz1 hk1 hS => ?_)
            replace hw : T11 = u := hw; subst hw
            rw [ht] at hB
            replace hP := hB
            replace hD := xW3_D T11 hD
            obtain ⟨x13, ex13, hM⟩ := zx_nE hM
            refine lv_iinc (v := x13) (lv' := [(6, .int x13), (4, .long x10), (0, .ref h), (3, .int v3)]) hx hb dX3_simulate_73 hl (k := 3) rfl (by rw [ex13]; rfl) (by decide) rfl (fun ls hl => ?_)
            refine lv_goto (tgt := 45) hx hb dX3_simulate_76 (by decide) ?_
            exact ih45 v3 x10 x13 T11 _ _ _ hP hD hS (lv_sub hl [2, 3, 1, 0] rfl) hM
      refine lv_aload_n hx hb dX3_simulate_26 rfl (lv_at hl 0 rfl) ?_
      refine va_get (D := D) (ci := 3) (v := .ref (ad 1)) (C := RX3) (T := TX3) (N := 20) hx hb hts inlX3 hown hK hP 0 rfl rfl 3 (by decide) (hts _ zw_3_19) (fun _ h9 => h9) rfl dX3_simulate_27 ?_
      refine lv_iconst (v := 0) hx hb dX3_simulate_30 (by decide) ?_
      refine lv_aload_n hx hb dX3_simulate_31 rfl (lv_at hl 0 rfl) ?_
      refine va_get (D := D) (ci := 3) (v := .ref (ad 2)) (C := RX3) (T := TX3) (N := 20) hx hb hts inlX3 hown hK hP 0 rfl rfl 4 (by decide) (hts _ zw_3_20) (fun _ h9 => h9) rfl dX3_simulate_32 ?_
      refine lv_iconst (v := 0) hx hb dX3_simulate_35 (by decide) ?_
      obtain ⟨g14, hz15, hM⟩ := zx_b1E hM
      refine va_callv (va_runS (As := [.ref (ad 1), .int 0, .ref (ad 2), .int 0]) (rest := []) ⟨hx, hb, hml, hown, hts⟩ (c_X3_copyState l D cI cZ cT (ad 1) 380 (T2 1) (ad 2) 380 (T2 2) _ N 0 0 hz15) (va_cwS 4 hts (zg_S zw_23_4 zw_23_5 zw_1_5 zw_23_6) rfl rfl rfl zyX3_copyState ⟨Nat.le_of_ble_eq_true rfl, Nat.le_of_ble_eq_true rfl⟩) ⟨bS_blind, bS_pre (zx_P2 hP 2 3 (rfl) (rfl)) hK (zx_D2 hD 2 3 (rfl) (rfl) (by decide)) hN⟩ rfl rfl hl.1 rfl (lv_room (Nat.le_of_ble_eq_true rfl)) dX3_simulate_36 ⟨Nat.zero_le _, Nat.zero_le _⟩) hS (fun q _ h => zx_f2 hD hS hA (k := 2) (j := 3) rfl rfl q h) (fun q h => zx_f2 hD hS hA (k := 2) (j := 3) rfl rfl q h) (fun u t H1 lc ht hvm hw hB hz1 hk1 hS => ?_)
      replace hw : g14 = u := hw; subst hw
      rw [ht] at hB
      replace hP := zx_set2 (k := 3) (j := 2) (by decide) hP hD rfl rfl hk1 hB
      replace hD := va_D.set (p := 3) (e := .inl (cI, 380, .inl g14)) hD rfl
      rw [xW3_pa2] at hP hD
      obtain ⟨T16, eT16, hM⟩ := zx_nE hM
      rw [← eT16] at hP hD
      refine lv_lload_n hx hb dX3_simulate_39 rfl (lv_at hl 1 rfl) ?_
      refine lv_lstore (lv' := [(4, .long v1), (0, .ref h), (1, .long v1), (3, .int v3)]) hx hb dX3_simulate_40 hl (by decide) rfl (fun ls hl => ?_)
      refine lv_iconst (v := 0) hx hb dX3_simulate_42 (by decide) ?_
      refine lv_istore (lv' := [(6, .int 0), (4, .long v1), (0, .ref h), (1, .long v1), (3, .int v3)]) hx hb dX3_simulate_43 hl (by decide) rfl (fun ls hl => ?_)
      exact l45 N v3 v1 0 T16 _ _ _ hP hD hS (lv_sub hl [2, 4, 1, 0] rfl) hM
    · replace hM := zx_f q4 hM
      refine lv_iconst (v := 0) hx hb dX3_simulate_24 (by decide) ?_
      rw [hQ]
      exact W.iret hx hb hr (fun t ht hW => ⟨⟨0, T2, rfl, (Option.some.inj hM).symm, by show va_P D vwCl _ t.heap; rw [ht]; exact hP⟩, hS.F ht⟩) hS.2.2 dX3_simulate_25
  refine lv_aload_n hx hb dX3_simulate_0 rfl (lv_at hl 0 rfl) ?_
  refine lv_iload_n hx hb dX3_simulate_1 rfl (lv_at hl 2 rfl) ?_
  refine lv_i2l hx hb dX3_simulate_2 rfl ?_
  refine lv_lconst (v := 1) hx hb dX3_simulate_3 (by decide) ?_
  refine lv_ldc2 (v := 60) hx hb hown (hts _ zw_34_4) dX3_simulate_4 ?_
  obtain ⟨x17, hz18, hM⟩ := zx_b1E hM
  refine va_calli (va_runS (As := [.long (Int32.toInt64 p3), .long 1, .long 60]) (rest := [.ref h]) ⟨hx, hb, hml, hown, hts⟩ (c_X3_in l D cI cZ cT _ N (Int32.toInt64 p3) 1 60 hz18) (va_cwS 3 hts (zg_S zw_5_11 zw_5_12 zw_1_5 zw_5_13) rfl rfl rfl zyX3_in ⟨Nat.le_of_ble_eq_true rfl, Nat.le_of_ble_eq_true rfl⟩) ⟨bS_blind, bS_pre (zx_P0 hP) hK (zx_D0 hD) hN⟩ rfl rfl hl.1 rfl (lv_room (Nat.le_of_ble_eq_true rfl)) dX3_simulate_7 ⟨Nat.zero_le _, Nat.zero_le _⟩) hS (fun q h1 h2 => absurd h1 (Nat.not_lt.mpr h2)) (fun q h => hA q (Nat.le_trans hS.1 h)) (fun r u t H1 lc ht hvm hw hB hz1 hk1 hS => ?_)
  replace hw : x17 = r := hw; subst hw
  replace hP := zx_keep hP hk1
  refine lv_if_eq (tgt := 17) hx hb dX3_simulate_10 (by decide) (fun q19 => ?_) (fun q19 => ?_)
  · replace hM := zx_t q19 hM
    refine lv_iconst (v := 1) hx hb dX3_simulate_17 (by decide) ?_
    exact j18 p1 p3 1 S _ _ _ hP hD hS (lv_sub hl [0, 1, 2] rfl) hM
  · replace hM := zx_f q19 hM
    refine lv_iconst (v := 0) hx hb dX3_simulate_13 (by decide) ?_
    refine lv_goto (tgt := 18) hx hb dX3_simulate_14 (by decide) ?_
    exact j18 p1 p3 0 S _ _ _ hP hD hS (lv_sub hl [0, 1, 2] rfl) hM
