/-! ShallowBoxes.takeTurn(I)V -/
def f_X2_takeTurn_j24 (N : Nat) (v1 : Int32) (S_ : zx_B) : Option (zx_B) :=
  (zx_n (v1 / 4) (fun x1 =>
(zx_n (x1 - x1 / 24 * 24) (fun x2 =>
(zx_b1 (f_X1_hasRectangle N x2 (S_ 1)) (fun x3 =>
(if x3 = 0 then
  some S_ else
  (zx_b1 (f_X1_beginCall N (S_ 1)) (fun T6 =>
(zx_n (zx_sb S_ 1 T6) (fun T8 =>
(zx_b1 (f_X1_takeOut N x2 (T8 1)) (fun T9 =>
(zx_n (zx_sb T8 1 T9) (fun T11 =>
some T11)))))))))))))))
def f_X2_takeTurn_j60 (N : Nat) (v1 : Int32) (S_ : zx_B) : Option (zx_B) :=
  (zx_n (v1 / 4) (fun x15 =>
(zx_n (x15 - x15 / 90 * 90) (fun x16 =>
(zx_n (v1 / 512) (fun x17 =>
(zx_n (x17 - x17 / 90 * 90) (fun x18 =>
(zx_n (v1 / 65536) (fun x19 =>
(zx_n (x19 - x19 / 10 * 10) (fun x20 =>
(zx_n (v1 / 1048576) (fun x21 =>
(zx_n (x21 - x21 / 10 * 10) (fun x22 =>
(zx_b1 (f_X2_tryAdding N x16 x18 (x16 + x20) (x18 + x22) S_) (fun T23 =>
some T23))))))))))))))))))
def f_X2_takeTurn (N : Nat) (p1 : Int32) (S : zx_B) : Option (zx_B) :=
  (zx_b1 (f_X1_countRectangles N (S 1)) (fun x12 =>
(if x12 = 24 then
  f_X2_takeTurn_j24 N  p1 S else
  (zx_n (p1 - p1 / 4 * 4) (fun x25 =>
(if x25 = 0 then
  (if x12 ≤ 0 then
  f_X2_takeTurn_j60 N  p1 S else
  f_X2_takeTurn_j24 N  p1 S) else
  f_X2_takeTurn_j60 N  p1 S))))))
abbrev rmX2_takeTurn : Room := { frames := 6, cells := 0, slots := 0, locals := 152 }
abbrev zsX2_takeTurn : List Cond := .code yX2_takeTurn cX2_takeTurn 5 none :: wsL_law
theorem zyX2_takeTurn : yX2_takeTurn.cls ≠ "java/lang/invoke/MethodHandle" ∧ yX2_takeTurn.cls ≠ "java/lang/invoke/VarHandle" ∧ (parseMethodDescriptor yX2_takeTurn.desc).map (fun d => d.parameters.length) = some 1 := by decide +kernel
set_option maxHeartbeats 4000000 in
set_option maxRecDepth 100000 in
theorem c_X2_takeTurn (l : Launch) (D : va_G) (cI cZ cT : ClassId) (h : Nat) (hh : Nat → Nat) (aa : Nat → Nat → Nat) (S : zx_B) (sz : Nat) (N : Nat) (p1 : Int32) {R : zx_B} (hM : f_X2_takeTurn N p1 S = some R) : Met l yX2_takeTurn zsX2_takeTurn rmX2_takeTurn (va_Pc [.ref h, .int p1] (bS D (zx_ty cI cZ cT) (xW2 cI cT h hh aa S) sz)) (va_Qv (fun u => R = u) (fun u t => va_P D vwCl (xW2 cI cT h hh aa u) t.heap) (va_A (xW2 cI cT h hh aa S) sz)) 0 0 (va_A (xW2 cI cT h hh aa S) sz) := by
  refine Met.ofW (cc := cX2_takeTurn) (maxL := 5) (ret := none) (by decide) rfl ?_
  intro p e s m args below meth c s₁ B hml hv
  obtain ⟨rfl, hsz, hP, hK, hD0, hN⟩ := hv
  have hx := B.exec
  have hb := B.bytes
  have hr := B.returns
  have hts : ∀ w ∈ wsL_law, w.before _ s = true := fun w hw => atoms_spec (ws := zsX2_takeTurn) B.pre w (List.mem_cons_of_mem _ hw)
  have hown : s.vm.findClass RX2 = some m.cls := findClass_of_methodNamed B.named
  have hlocks := B.notSynchronized
  subst hsz
  have hD := hD0.self (sz := s.heap.size)
  generalize hAe : va_A (xW2 cI cT h hh aa S) s.heap.size = A at hD ⊢
  have hA : ∀ q : Nat, s.heap.size ≤ q → A q := fun q h => by rw [← hAe]; exact Or.inr h
  have hS : va_S A s.heap s.heap [] := va_S.rf
  have hl := lv_entry ([.ref h, .int p1]) (n := 5) (Nat.le_of_ble_eq_true rfl)
  rw [lg_entry_eq]
  generalize (lg_sl ([.ref h, .int p1]) ++ List.replicate (5 - (lg_sl ([.ref h, .int p1])).length) Slot.unset).toArray = ls at hl ⊢
  have hl : lv_has ls 5 [(0, .ref h), (1, .int p1)] := hl
  generalize hQ : MQ below (va_Qv (fun u => R = u) (fun u t => va_P D vwCl (xW2 cI cT h hh aa u) t.heap) A) ([.ref h, .int p1] : List Value).toArray s 0 0 A = Q9
  replace hQ := hQ.symm
  unfold f_X2_takeTurn at hM
  have j24 : ∀ (v1 : Int32) (S_ : zx_B) (H : Heap) (lc : List Loc) (ls : Array Slot), va_P D vwCl (xW2 cI cT h hh aa S_) H → va_D A (xW2 cI cT h hh aa S_) → va_S A s.heap H lc → lv_has ls 5 [(0, .ref h), (1, .int v1)] → f_X2_takeTurn_j24 N v1 S_ = some R → W p l e (headSpec zsX2_takeTurn rmX2_takeTurn).room s m ([.ref h, .int p1] : List Value).toArray below meth c H lc 0 0 Q9 (F0 m 24 ls []) := by
    intro v1 S_ H lc ls hP hD hS hl hM
    unfold f_X2_takeTurn_j24 at hM
    refine lv_iload_n hx hb dX2_takeTurn_24 rfl (lv_at hl 1 rfl) ?_
    refine lv_iconst (v := 4) hx hb dX2_takeTurn_25 (by decide) ?_
    refine lv_idiv hx hb dX2_takeTurn_26 (by decide) ?_
    obtain ⟨x1, ex1, hM⟩ := zx_nE hM
    refine zx_top ex1 ?_
    refine lv_bipush (v := 24) hx hb dX2_takeTurn_27 (by decide) ?_
    refine lv_irem hx hb dX2_takeTurn_29 (by decide) ?_
    obtain ⟨x2, ex2, hM⟩ := zx_nE hM
    refine zx_top ex2 ?_
    refine lv_istore_n (lv' := [(3, .int x2), (0, .ref h), (1, .int v1)]) hx hb dX2_takeTurn_30 rfl hl (by decide) rfl (fun ls hl => ?_)
    refine lv_aload_n hx hb dX2_takeTurn_31 rfl (lv_at hl 1 rfl) ?_
    refine va_get (D := D) (ci := 2) (v := .ref (hh 1)) (C := RX2) (T := TX2) (N := 8) hx hb hts inlX2 hown hK hP 0 rfl rfl 1 (by decide) (hts _ zw_1_16) (fun _ h9 => h9) rfl dX2_takeTurn_32 ?_
    refine lv_iload_n hx hb dX2_takeTurn_35 rfl (lv_at hl 0 rfl) ?_
    obtain ⟨x3, hz4, hM⟩ := zx_b1E hM
    refine va_calli (va_runV (As := [.int x2]) (rest := []) ⟨hx, hb, hml, hown, hts⟩ (c_X1_hasRectangle l D cI cZ cT (hh 1) (aa 1) (S_ 1) _ N x2 hz4) (cwV 1 hts (zg_V zw_7_8 zw_7_9 zw_7_10 zw_1_14 zw_7_11) rfl rfl rfl ⟨rfl, zyX1_hasRectangle⟩ ⟨Nat.le_of_ble_eq_true rfl, Nat.le_of_ble_eq_true rfl⟩) ⟨bS_blind, va_recv hK (zx2_P (show 1 < 18 by decide) hP) (ci := 1) (q0 := 0) rfl rfl, bS_pre (zx2_P (show 1 < 18 by decide) hP) hK (zx2_D (show 1 < 18 by decide) hD) hN⟩ rfl rfl hl.1 rfl (lv_room (Nat.le_of_ble_eq_true rfl)) dX2_takeTurn_36 ⟨Nat.zero_le _, Nat.zero_le _⟩) hS (fun q h1 h2 => absurd h1 (Nat.not_lt.mpr h2)) (fun q h => hA q (Nat.le_trans hS.1 h)) (fun r u t H1 lc ht hvm hw hB hz1 hk1 hS => ?_)
    replace hw : x3 = r := hw; subst hw
    replace hP := zx_keep hP hk1
    refine lv_if_eq (tgt := 57) hx hb dX2_takeTurn_39 (by decide) (fun q5 => ?_) (fun q5 => ?_)
    · replace hM := zx_t q5 hM
      refine lv_goto (tgt := 103) hx hb dX2_takeTurn_57 (by decide) ?_
      rw [hQ]
      exact W.vret hx hb hr (fun t ht hW => ⟨⟨S_, rfl, (Option.some.inj hM).symm, by show va_P D vwCl _ t.heap; rw [ht]; exact hP⟩, hS.F ht⟩) hS.2.2 dX2_takeTurn_103
    · replace hM := zx_f q5 hM
      refine lv_aload_n hx hb dX2_takeTurn_42 rfl (lv_at hl 1 rfl) ?_
      refine va_get (D := D) (ci := 2) (v := .ref (hh 1)) (C := RX2) (T := TX2) (N := 8) hx hb hts inlX2 hown hK hP 0 rfl rfl 1 (by decide) (hts _ zw_1_16) (fun _ h9 => h9) rfl dX2_takeTurn_43 ?_
      obtain ⟨T6, hz7, hM⟩ := zx_b1E hM
      refine va_callv (va_runV (As := []) (rest := []) ⟨hx, hb, hml, hown, hts⟩ (c_X1_beginCall l D cI cZ cT (hh 1) (aa 1) (S_ 1) _ N hz7) (cwV 0 hts (zg_V zw_11_0 zw_11_1 zw_11_2 zw_1_14 zw_11_3) rfl rfl rfl ⟨rfl, zyX1_beginCall⟩ ⟨Nat.le_of_ble_eq_true rfl, Nat.le_of_ble_eq_true rfl⟩) ⟨bS_blind, va_recv hK (zx2_P (show 1 < 18 by decide) hP) (ci := 1) (q0 := 0) rfl rfl, bS_pre (zx2_P (show 1 < 18 by decide) hP) hK (zx2_D (show 1 < 18 by decide) hD) hN⟩ rfl rfl hl.1 rfl (lv_room (Nat.le_of_ble_eq_true rfl)) dX2_takeTurn_46 ⟨Nat.zero_le _, Nat.zero_le _⟩) hS (fun q _ h => zx_fW (zx2_D (show 1 < 18 by decide) hD) hS hA q h) (fun q h => zx_fW (zx2_D (show 1 < 18 by decide) hD) hS hA q h) (fun u t H1 lc ht hvm hw hB hz1 hk1 hS => ?_)
      replace hw : T6 = u := hw; subst hw
      rw [ht] at hB
      replace hP := zx2_S (show 1 < 18 by decide) hP hD hk1 hB
      obtain ⟨T8, eT8, hM⟩ := zx_nE hM
      rw [← eT8] at hP
      replace hD := zx2_Da T8 hD
      refine lv_aload_n hx hb dX2_takeTurn_49 rfl (lv_at hl 1 rfl) ?_
      refine va_get (D := D) (ci := 2) (v := .ref (hh 1)) (C := RX2) (T := TX2) (N := 8) hx hb hts inlX2 hown hK hP 0 rfl rfl 1 (by decide) (hts _ zw_1_16) (fun _ h9 => h9) rfl dX2_takeTurn_50 ?_
      refine lv_iload_n hx hb dX2_takeTurn_53 rfl (lv_at hl 0 rfl) ?_
      obtain ⟨T9, hz10, hM⟩ := zx_b1E hM
      refine va_callv (va_runV (As := [.int x2]) (rest := []) ⟨hx, hb, hml, hown, hts⟩ (c_X1_takeOut l D cI cZ cT (hh 1) (aa 1) (T8 1) _ N x2 hz10) (cwV 1 hts (zg_V zw_14_11 zw_14_12 zw_14_13 zw_1_14 zw_14_14) rfl rfl rfl ⟨rfl, zyX1_takeOut⟩ ⟨Nat.le_of_ble_eq_true rfl, Nat.le_of_ble_eq_true rfl⟩) ⟨bS_blind, va_recv hK (zx2_P (show 1 < 18 by decide) hP) (ci := 1) (q0 := 0) rfl rfl, bS_pre (zx2_P (show 1 < 18 by decide) hP) hK (zx2_D (show 1 < 18 by decide) hD) hN⟩ rfl rfl hl.1 rfl (lv_room (Nat.le_of_ble_eq_true rfl)) dX2_takeTurn_54 ⟨Nat.zero_le _, Nat.zero_le _⟩) hS (fun q _ h => zx_fW (zx2_D (show 1 < 18 by decide) hD) hS hA q h) (fun q h => zx_fW (zx2_D (show 1 < 18 by decide) hD) hS hA q h) (fun u t H1 lc ht hvm hw hB hz1 hk1 hS => ?_)
      replace hw : T9 = u := hw; subst hw
      rw [ht] at hB
      replace hP := zx2_S (show 1 < 18 by decide) hP hD hk1 hB
      obtain ⟨T11, eT11, hM⟩ := zx_nE hM
      rw [← eT11] at hP
      replace hD := zx2_Da T11 hD
      refine lv_goto (tgt := 103) hx hb dX2_takeTurn_57 (by decide) ?_
      rw [hQ]
      exact W.vret hx hb hr (fun t ht hW => ⟨⟨T11, rfl, (Option.some.inj hM).symm, by show va_P D vwCl _ t.heap; rw [ht]; exact hP⟩, hS.F ht⟩) hS.2.2 dX2_takeTurn_103
  refine lv_aload_n hx hb dX2_takeTurn_0 rfl (lv_at hl 0 rfl) ?_
  refine va_get (D := D) (ci := 2) (v := .ref (hh 1)) (C := RX2) (T := TX2) (N := 8) hx hb hts inlX2 hown hK hP 0 rfl rfl 1 (by decide) (hts _ zw_1_16) (fun _ h9 => h9) rfl dX2_takeTurn_1 ?_
  obtain ⟨x12, hz13, hM⟩ := zx_b1E hM
  refine va_calli (va_runV (As := []) (rest := []) ⟨hx, hb, hml, hown, hts⟩ (c_X1_countRectangles l D cI cZ cT (hh 1) (aa 1) (S 1) _ N hz13) (cwV 0 hts (zg_V zw_5_6 zw_5_7 zw_5_8 zw_1_14 zw_5_9) rfl rfl rfl ⟨rfl, zyX1_countRectangles⟩ ⟨Nat.le_of_ble_eq_true rfl, Nat.le_of_ble_eq_true rfl⟩) ⟨bS_blind, va_recv hK (zx2_P (show 1 < 18 by decide) hP) (ci := 1) (q0 := 0) rfl rfl, bS_pre (zx2_P (show 1 < 18 by decide) hP) hK (zx2_D (show 1 < 18 by decide) hD) hN⟩ rfl rfl hl.1 rfl (lv_room (Nat.le_of_ble_eq_true rfl)) dX2_takeTurn_4 ⟨Nat.zero_le _, Nat.zero_le _⟩) hS (fun q h1 h2 => absurd h1 (Nat.not_lt.mpr h2)) (fun q h => hA q (Nat.le_trans hS.1 h)) (fun r u t H1 lc ht hvm hw hB hz1 hk1 hS => ?_)
  replace hw : x12 = r := hw; subst hw
  replace hP := zx_keep hP hk1
  refine lv_istore_n (lv' := [(2, .int x12), (0, .ref h), (1, .int p1)]) hx hb dX2_takeTurn_7 rfl hl (by decide) rfl (fun ls hl => ?_)
  refine lv_iload_n hx hb dX2_takeTurn_8 rfl (lv_at hl 0 rfl) ?_
  refine lv_bipush (v := 24) hx hb dX2_takeTurn_9 (by decide) ?_
  refine lv_icmp_eq (tgt := 24) hx hb dX2_takeTurn_11 (by decide) (fun q14 => ?_) (fun q14 => ?_)
  · replace hM := zx_t q14 hM
    exact j24 p1 S _ _ _ hP hD hS (lv_sub hl [1, 2] rfl) hM
  · replace hM := zx_f q14 hM
    have j60 : ∀ (v1 : Int32) (S_ : zx_B) (H : Heap) (lc : List Loc) (ls : Array Slot), va_P D vwCl (xW2 cI cT h hh aa S_) H → va_D A (xW2 cI cT h hh aa S_) → va_S A s.heap H lc → lv_has ls 5 [(0, .ref h), (1, .int v1)] → f_X2_takeTurn_j60 N v1 S_ = some R → W p l e (headSpec zsX2_takeTurn rmX2_takeTurn).room s m ([.ref h, .int p1] : List Value).toArray below meth c H lc 0 0 Q9 (F0 m 60 ls []) := by
      intro v1 S_ H lc ls hP hD hS hl hM
      unfold f_X2_takeTurn_j60 at hM
      refine lv_iload_n hx hb dX2_takeTurn_60 rfl (lv_at hl 1 rfl) ?_
      refine lv_iconst (v := 4) hx hb dX2_takeTurn_61 (by decide) ?_
      refine lv_idiv hx hb dX2_takeTurn_62 (by decide) ?_
      obtain ⟨x15, ex15, hM⟩ := zx_nE hM
      refine zx_top ex15 ?_
      refine lv_bipush (v := 90) hx hb dX2_takeTurn_63 (by decide) ?_
      refine lv_irem hx hb dX2_takeTurn_65 (by decide) ?_
      obtain ⟨x16, ex16, hM⟩ := zx_nE hM
      refine zx_top ex16 ?_
      refine lv_istore_n (lv' := [(3, .int x16), (0, .ref h), (1, .int v1)]) hx hb dX2_takeTurn_66 rfl hl (by decide) rfl (fun ls hl => ?_)
      refine lv_iload_n hx hb dX2_takeTurn_67 rfl (lv_at hl 2 rfl) ?_
      refine lv_sipush (v := 512) hx hb dX2_takeTurn_68 (by decide) ?_
      refine lv_idiv hx hb dX2_takeTurn_71 (by decide) ?_
      obtain ⟨x17, ex17, hM⟩ := zx_nE hM
      refine zx_top ex17 ?_
      refine lv_bipush (v := 90) hx hb dX2_takeTurn_72 (by decide) ?_
      refine lv_irem hx hb dX2_takeTurn_74 (by decide) ?_
      obtain ⟨x18, ex18, hM⟩ := zx_nE hM
      refine zx_top ex18 ?_
      refine lv_istore (lv' := [(4, .int x18), (3, .int x16), (0, .ref h), (1, .int v1)]) hx hb dX2_takeTurn_75 hl (by decide) rfl (fun ls hl => ?_)
      refine lv_aload_n hx hb dX2_takeTurn_77 rfl (lv_at hl 2 rfl) ?_
      refine lv_iload_n hx hb dX2_takeTurn_78 rfl (lv_at hl 1 rfl) ?_
      refine lv_iload hx hb dX2_takeTurn_79 (lv_at hl 0 rfl) ?_
      refine lv_iload_n hx hb dX2_takeTurn_81 rfl (lv_at hl 1 rfl) ?_
      refine lv_iload_n hx hb dX2_takeTurn_82 rfl (lv_at hl 3 rfl) ?_
      refine lv_ldc (v := 65536) hx hb hown (hts _ zw_20_21) dX2_takeTurn_83 ?_
      refine lv_idiv hx hb dX2_takeTurn_85 (by decide) ?_
      obtain ⟨x19, ex19, hM⟩ := zx_nE hM
      refine zx_top ex19 ?_
      refine lv_bipush (v := 10) hx hb dX2_takeTurn_86 (by decide) ?_
      refine lv_irem hx hb dX2_takeTurn_88 (by decide) ?_
      obtain ⟨x20, ex20, hM⟩ := zx_nE hM
      refine zx_top ex20 ?_
      refine lv_iadd hx hb dX2_takeTurn_89 ?_
      refine lv_iload hx hb dX2_takeTurn_90 (lv_at hl 0 rfl) ?_
      refine lv_iload_n hx hb dX2_takeTurn_92 rfl (lv_at hl 3 rfl) ?_
      refine lv_ldc (v := 1048576) hx hb hown (hts _ zw_20_22) dX2_takeTurn_93 ?_
      refine lv_idiv hx hb dX2_takeTurn_95 (by decide) ?_
      obtain ⟨x21, ex21, hM⟩ := zx_nE hM
      refine zx_top ex21 ?_
      refine lv_bipush (v := 10) hx hb dX2_takeTurn_96 (by decide) ?_
      refine lv_irem hx hb dX2_takeTurn_98 (by decide) ?_
      obtain ⟨x22, ex22, hM⟩ := zx_nE hM
      refine zx_top ex22 ?_
      refine lv_iadd hx hb dX2_takeTurn_99 ?_
      obtain ⟨T23, hz24, hM⟩ := zx_b1E hM
      refine va_callv (va_runV (As := [.int x16, .int x18, .int (x16 + x20), .int (x18 + x22)]) (rest := []) ⟨hx, hb, hml, hown, hts⟩ (c_X2_tryAdding l D cI cZ cT h hh aa S_ _ N x16 x18 (x16 + x20) (x18 + x22) hz24) (cwV 4 hts (zg_V zw_19_8 zw_19_9 zw_19_10 zw_1_2 zw_19_11) rfl rfl rfl ⟨rfl, zyX2_tryAdding⟩ ⟨Nat.le_of_ble_eq_true rfl, Nat.le_of_ble_eq_true rfl⟩) ⟨bS_blind, va_recv hK hP (ci := 2) (q0 := 0) rfl rfl, bS_pre hP hK hD hN⟩ rfl rfl hl.1 rfl (lv_room (Nat.le_of_ble_eq_true rfl)) dX2_takeTurn_100 ⟨Nat.zero_le _, Nat.zero_le _⟩) hS (fun q _ h => zx_fW hD hS hA q h) (fun q h => zx_fW hD hS hA q h) (fun u t H1 lc ht hvm hw hB hz1 hk1 hS => ?_)
      replace hw : T23 = u := hw; subst hw
      rw [ht] at hB
      replace hP := hB
      replace hD := zx2_Da T23 hD
      rw [hQ]
      exact W.vret hx hb hr (fun t ht hW => ⟨⟨T23, rfl, (Option.some.inj hM).symm, by show va_P D vwCl _ t.heap; rw [ht]; exact hP⟩, hS.F ht⟩) hS.2.2 dX2_takeTurn_103
    refine lv_iload_n hx hb dX2_takeTurn_14 rfl (lv_at hl 2 rfl) ?_
    refine lv_iconst (v := 4) hx hb dX2_takeTurn_15 (by decide) ?_
    refine lv_irem hx hb dX2_takeTurn_16 (by decide) ?_
    obtain ⟨x25, ex25, hM⟩ := zx_nE hM
    refine zx_top ex25 ?_
    refine lv_if_ne (tgt := 60) hx hb dX2_takeTurn_17 (by decide) (fun q26 => ?_) (fun q26 => ?_)
    · replace hM := zx_f q26 hM
      exact j60 p1 S _ _ _ hP hD hS (lv_sub hl [1, 2] rfl) hM
    · replace hM := zx_t q26 hM
      refine lv_iload_n hx hb dX2_takeTurn_20 rfl (lv_at hl 0 rfl) ?_
      refine lv_if_le (tgt := 60) hx hb dX2_takeTurn_21 (by decide) (fun q27 => ?_) (fun q27 => ?_)
      · replace hM := zx_t q27 hM
        exact j60 p1 S _ _ _ hP hD hS (lv_sub hl [1, 2] rfl) hM
      · replace hM := zx_f q27 hM
        exact j24 p1 S _ _ _ hP hD hS (lv_sub hl [1, 2] rfl) hM

/-! ShallowBoxes.simulate(JI)I -/
def f_X2_simulate_j11 (N : Nat) (S_ : zx_B) : Option (Int32 × (Nat × zx_B)) :=
  some (0, (1, S_))
def f_X2_simulate_l38 (N : Nat) : Nat → Int32 → Int64 → Int32 → zx_B → Option (Int32 × (Nat × zx_B))
  | 0, _, _, _, _ => none
  | n38 + 1, v3, v4, v6, S_ => (if v3 ≤ v6 then
  (zx_b2 (f_X1_countNodes N (S_ 1)) (fun x4 T5 =>
(zx_n (zx_sb S_ 1 T5) (fun T7 =>
(zx_b1 (f_X1_countRectangles N (T7 1)) (fun x8 =>
some (((1000 * x4) + x8), (0, T7)))))))) else
  (zx_n ((v4 * 6364136223846793005) + 1442695040888963407) (fun x10 =>
(zx_b1 (f_X2_takeTurn N (Int64.toInt32 ((x10).toUInt64 >>> ((33 : Int32).toInt64.toUInt64 &&& Int64.toUInt64 63)).toInt64) S_) (fun T11 =>
(zx_n (v6 + 1) (fun x13 =>
f_X2_simulate_l38 N  n38 v3 x10 x13 T11)))))))
def f_X2_simulate (N : Nat) (p1 : Int64) (p3 : Int32) (S : zx_B) : Option (Int32 × (Nat × zx_B)) :=
  (if p3 < 1 then
  f_X2_simulate_j11 N  S else
  (if p3 ≤ 60 then
  (zx_b1 (f_X1_takeOver N (S 1) (S 0)) (fun T14 =>
(zx_n (zx_sb S 1 T14) (fun T16 =>
f_X2_simulate_l38 N  N p3 p1 0 T16)))) else
  f_X2_simulate_j11 N  S))
abbrev rmX2_simulate : Room := { frames := 7, cells := 1, slots := 6, locals := 176 }
abbrev zsX2_simulate : List Cond := .code yX2_simulate cX2_simulate 7 (some .int) :: wsL_law
theorem zyX2_simulate : yX2_simulate.cls ≠ "java/lang/invoke/MethodHandle" ∧ yX2_simulate.cls ≠ "java/lang/invoke/VarHandle" ∧ (parseMethodDescriptor yX2_simulate.desc).map (fun d => d.parameters.length) = some 2 := by decide +kernel
set_option maxHeartbeats 4000000 in
set_option maxRecDepth 100000 in
theorem c_X2_simulate (l : Launch) (D : va_G) (cI cZ cT : ClassId) (hlt : l.stackTraces = false) (h : Nat) (hh : Nat → Nat) (aa : Nat → Nat → Nat) (S : zx_B) (sz : Nat) (N : Nat) (p1 : Int64) (p3 : Int32) {R : Int32 × (Nat × zx_B)} (hM : f_X2_simulate N p1 p3 S = some R) : vx_Met l yX2_simulate zsX2_simulate rmX2_simulate (va_Pc [.ref h, .long p1, .int p3] (bX D (zx_ty cI cZ cT) (xW2 cI cT h hh aa S) sz)) (va_Qi (fun r u => R = (r, (0, u))) (fun u t => va_P D vwCl (xW2 cI cT h hh aa u) t.heap) (va_A (xW2 cI cT h hh aa S) sz)) (vx_X (fun u : Nat × zx_B => R = (0, u) ∧ u.1 ≠ 0) (fun E u t => E = zx_E u.1 ∧ va_P D vwCl (xW2 cI cT h hh aa u.2) t.heap) (va_A (xW2 cI cT h hh aa S) sz)) 1 6 (va_A (xW2 cI cT h hh aa S) sz) := by
  refine vx_ofW (cc := cX2_simulate) (maxL := 7) (ret := (some .int)) (by decide) rfl ?_
  intro p e s m args below meth c s₁ B hml hout hv
  obtain ⟨rfl, ⟨hsz, hP, hK, hD0, hN⟩, hX⟩ := hv
  have hx := B.exec
  have hb := B.bytes
  have hr := B.returns
  have hts : ∀ w ∈ wsL_law, w.before _ s = true := fun w hw => atoms_spec (ws := zsX2_simulate) B.pre w (List.mem_cons_of_mem _ hw)
  have hown : s.vm.findClass RX2 = some m.cls := findClass_of_methodNamed B.named
  have hlocks := B.notSynchronized
  subst hsz
  have hD := hD0.self (sz := s.heap.size)
  generalize hAe : va_A (xW2 cI cT h hh aa S) s.heap.size = A at hD hX ⊢
  have hU := hX.1
  have hNN := hX.2.1
  have hXw := hX.2.2.1
  have hXs := hX.2.2.2
  have hA : ∀ q : Nat, s.heap.size ≤ q → A q := fun q h => by rw [← hAe]; exact Or.inr h
  have hS : va_S A s.heap s.heap [] := va_S.rf
  have hl := lv_entry ([.ref h, .long p1, .int p3]) (n := 7) (Nat.le_of_ble_eq_true rfl)
  rw [lg_entry_eq]
  generalize (lg_sl ([.ref h, .long p1, .int p3]) ++ List.replicate (7 - (lg_sl ([.ref h, .long p1, .int p3])).length) Slot.unset).toArray = ls at hl ⊢
  have hl : lv_has ls 7 [(0, .ref h), (1, .long p1), (3, .int p3)] := hl
  generalize hQ : vx_MQ below (va_Qi (fun r u => R = (r, (0, u))) (fun u t => va_P D vwCl (xW2 cI cT h hh aa u) t.heap) A) (vx_X (fun u : Nat × zx_B => R = (0, u) ∧ u.1 ≠ 0) (fun E u t => E = zx_E u.1 ∧ va_P D vwCl (xW2 cI cT h hh aa u.2) t.heap) A) ([.ref h, .long p1, .int p3] : List Value).toArray s 1 6 A = Q9
  replace hQ := hQ.symm
  unfold f_X2_simulate at hM
  have j11 : ∀ (S_ : zx_B) (H : Heap) (lc : List Loc) (ls : Array Slot), va_P D vwCl (xW2 cI cT h hh aa S_) H → va_D A (xW2 cI cT h hh aa S_) → va_S A s.heap H lc → lv_has ls 7 [] → f_X2_simulate_j11 N S_ = some R → W p l e (headSpec zsX2_simulate rmX2_simulate).room s m ([.ref h, .long p1, .int p3] : List Value).toArray below meth c H lc 0 0 Q9 (F0 m 11 ls []) := by
    intro S_ H lc ls hP hD hS hl hM
    unfold f_X2_simulate_j11 at hM
    rw [hQ]
    exact zx_thr1 hx hb hlt hown (hts _ zw_4_14) (hts _ zw_4_15) (hXs _ _ (zx_str_228)) hts hXw hU hNN hS (hl.1.trans hml.symm) dX2_simulate_11 dX2_simulate_14 dX2_simulate_15 dX2_simulate_17 dX2_simulate_20 hout (Nat.le_of_ble_eq_true rfl) (Nat.le_of_ble_eq_true rfl) (Nat.le_of_ble_eq_true rfl) (Nat.le_of_ble_eq_true rfl) hlocks (fun t hvm hz hk => zx_XC (Option.some.inj hM).symm (by decide) rfl hP hS hz hk) hS.2.2 (Nat.le_of_ble_eq_true rfl) (Nat.le_of_ble_eq_true rfl)
  refine lv_iload_n hx hb dX2_simulate_0 rfl (lv_at hl 2 rfl) ?_
  refine lv_iconst (v := 1) hx hb dX2_simulate_1 (by decide) ?_
  refine lv_icmp_lt (tgt := 11) hx hb dX2_simulate_2 (by decide) (fun q1 => ?_) (fun q1 => ?_)
  · replace hM := zx_t q1 hM
    exact j11 S _ _ _ hP hD hS (lv_sub hl [] rfl) hM
  · replace hM := zx_f q1 hM
    refine lv_iload_n hx hb dX2_simulate_5 rfl (lv_at hl 2 rfl) ?_
    refine lv_bipush (v := 60) hx hb dX2_simulate_6 (by decide) ?_
    refine lv_icmp_le (tgt := 21) hx hb dX2_simulate_8 (by decide) (fun q2 => ?_) (fun q2 => ?_)
    · replace hM := zx_t q2 hM
      have l38 : ∀ (n38 : Nat) (v3 : Int32) (v4 : Int64) (v6 : Int32) (S_ : zx_B) (H : Heap) (lc : List Loc) (ls : Array Slot), va_P D vwCl (xW2 cI cT h hh aa S_) H → va_D A (xW2 cI cT h hh aa S_) → va_S A s.heap H lc → lv_has ls 7 [(0, .ref h), (3, .int v3), (4, .long v4), (6, .int v6)] → f_X2_simulate_l38 N n38 v3 v4 v6 S_ = some R → W p l e (headSpec zsX2_simulate rmX2_simulate).room s m ([.ref h, .long p1, .int p3] : List Value).toArray below meth c H lc 0 0 Q9 (F0 m 38 ls []) := by
        intro n38
        induction n38 with
        | zero =>
          intro v3 v4 v6 S_ H lc ls hP hD hS hl hM
          rw [f_X2_simulate_l38] at hM; exact absurd hM (by intro h; cases h)
        | succ n38 ih38 =>
          intro v3 v4 v6 S_ H lc ls hP hD hS hl hM
          rw [f_X2_simulate_l38] at hM
          refine lv_iload hx hb dX2_simulate_38 (lv_at hl 3 rfl) ?_
          refine lv_iload_n hx hb dX2_simulate_40 rfl (lv_at hl 1 rfl) ?_
          refine lv_icmp_ge (tgt := 72) hx hb dX2_simulate_41 (by decide) (fun q3 => ?_) (fun q3 => ?_)
          · replace hM := zx_t q3 hM
            refine lv_sipush (v := 1000) hx hb dX2_simulate_72 (by decide) ?_
            refine lv_aload_n hx hb dX2_simulate_75 rfl (lv_at hl 0 rfl) ?_
            refine va_get (D := D) (ci := 2) (v := .ref (hh 1)) (C := RX2) (T := TX2) (N := 8) hx hb hts inlX2 hown hK hP 0 rfl rfl 1 (by decide) (hts _ zw_1_16) (fun _ h9 => h9) rfl dX2_simulate_76 ?_
            obtain ⟨x4, T5, hz6, hM⟩ := zx_b2E hM
            refine va_calli (va_runV (As := []) (rest := [.int 1000]) ⟨hx, hb, hml, hown, hts⟩ (c_X1_countNodes l D cI cZ cT (hh 1) (aa 1) (S_ 1) _ N hz6) (cwV 0 hts (zg_V zw_5_10 zw_5_11 zw_5_12 zw_1_14 zw_5_13) rfl rfl rfl ⟨rfl, zyX1_countNodes⟩ ⟨Nat.le_of_ble_eq_true rfl, Nat.le_of_ble_eq_true rfl⟩) ⟨bS_blind, va_recv hK (zx2_P (show 1 < 18 by decide) hP) (ci := 1) (q0 := 0) rfl rfl, bS_pre (zx2_P (show 1 < 18 by decide) hP) hK (zx2_D (show 1 < 18 by decide) hD) hN⟩ rfl rfl hl.1 rfl (lv_room (Nat.le_of_ble_eq_true rfl)) dX2_simulate_79 ⟨Nat.zero_le _, Nat.zero_le _⟩) hS (fun q _ h => zx_fW (zx2_D (show 1 < 18 by decide) hD) hS hA q h) (fun q h => zx_fW (zx2_D (show 1 < 18 by decide) hD) hS hA q h) (fun r u t H1 lc ht hvm hw hB hz1 hk1 hS => ?_)
            obtain ⟨hw1, hw2⟩ := Prod.mk.inj hw; subst hw1; subst hw2
            rw [ht] at hB
            replace hP := zx2_S (show 1 < 18 by decide) hP hD hk1 hB
            obtain ⟨T7, eT7, hM⟩ := zx_nE hM
            rw [← eT7] at hP
            replace hD := zx2_Da T7 hD
            refine lv_imul hx hb dX2_simulate_82 ?_
            refine lv_aload_n hx hb dX2_simulate_83 rfl (lv_at hl 0 rfl) ?_
            refine va_get (D := D) (ci := 2) (v := .ref (hh 1)) (C := RX2) (T := TX2) (N := 8) hx hb hts inlX2 hown hK hP 0 rfl rfl 1 (by decide) (hts _ zw_1_16) (fun _ h9 => h9) rfl dX2_simulate_84 ?_
            obtain ⟨x8, hz9, hM⟩ := zx_b1E hM
            refine va_calli (va_runV (As := []) (rest := [.int (1000 * x4)]) ⟨hx, hb, hml, hown, hts⟩ (c_X1_countRectangles l D cI cZ cT (hh 1) (aa 1) (T7 1) _ N hz9) (cwV 0 hts (zg_V zw_5_6 zw_5_7 zw_5_8 zw_1_14 zw_5_9) rfl rfl rfl ⟨rfl, zyX1_countRectangles⟩ ⟨Nat.le_of_ble_eq_true rfl, Nat.le_of_ble_eq_true rfl⟩) ⟨bS_blind, va_recv hK (zx2_P (show 1 < 18 by decide) hP) (ci := 1) (q0 := 0) rfl rfl, bS_pre (zx2_P (show 1 < 18 by decide) hP) hK (zx2_D (show 1 < 18 by decide) hD) hN⟩ rfl rfl hl.1 rfl (lv_room (Nat.le_of_ble_eq_true rfl)) dX2_simulate_87 ⟨Nat.zero_le _, Nat.zero_le _⟩) hS (fun q h1 h2 => absurd h1 (Nat.not_lt.mpr h2)) (fun q h => hA q (Nat.le_trans hS.1 h)) (fun r u t H1 lc ht hvm hw hB hz1 hk1 hS => ?_)
            replace hw : x8 = r := hw; subst hw
            replace hP := zx_keep hP hk1
            refine lv_iadd hx hb dX2_simulate_90 ?_
            rw [hQ]
            refine vx_ret ?_
            refine W.widen (k := 1) (n := 6) (Nat.le_of_ble_eq_true rfl) (Nat.le_of_ble_eq_true rfl) ?_
            exact W.iret hx hb hr (fun t ht hW => ⟨⟨((1000 * x4) + x8), T7, rfl, (Option.some.inj hM).symm, by show va_P D vwCl _ t.heap; rw [ht]; exact hP⟩, hS.F ht⟩) hS.2.2 dX2_simulate_91
          · replace hM := zx_f q3 hM
            refine lv_lload hx hb dX2_simulate_44 (lv_at hl 2 rfl) ?_
            refine lv_ldc2 (v := 6364136223846793005) hx hb hown (hts _ zw_20_15) dX2_simulate_46 ?_
            refine lv_lmul hx hb dX2_simulate_49 ?_
            refine lv_ldc2 (v := 1442695040888963407) hx hb hown (hts _ zw_20_16) dX2_simulate_50 ?_
            refine lv_ladd hx hb dX2_simulate_53 ?_
            obtain ⟨x10, ex10, hM⟩ := zx_nE hM
            refine zx_topl ex10 ?_
            refine lv_lstore (lv' := [(4, .long x10), (0, .ref h), (3, .int v3), (6, .int v6)]) hx hb dX2_simulate_54 hl (by decide) rfl (fun ls hl => ?_)
            refine lv_aload_n hx hb dX2_simulate_56 rfl (lv_at hl 1 rfl) ?_
            refine lv_lload hx hb dX2_simulate_57 (lv_at hl 0 rfl) ?_
            refine lv_bipush (v := 33) hx hb dX2_simulate_59 (by decide) ?_
            refine lv_lushr hx hb dX2_simulate_61 rfl ?_
            refine lv_l2i hx hb dX2_simulate_62 rfl ?_
            obtain ⟨T11, hz12, hM⟩ := zx_b1E hM
            refine va_callv (va_runV (As := [.int (Int64.toInt32 ((x10).toUInt64 >>> ((33 : Int32).toInt64.toUInt64 &&& Int64.toUInt64 63)).toInt64)]) (rest := []) ⟨hx, hb, hml, hown, hts⟩ (c_X2_takeTurn l D cI cZ cT h hh aa S_ _ N (Int64.toInt32 ((x10).toUInt64 >>> ((33 : Int32).toInt64.toUInt64 &&& Int64.toUInt64 63)).toInt64) hz12) (cwV 1 hts (zg_V zw_20_17 zw_20_18 zw_20_19 zw_1_2 zw_20_20) rfl rfl rfl ⟨rfl, zyX2_takeTurn⟩ ⟨Nat.le_of_ble_eq_true rfl, Nat.le_of_ble_eq_true rfl⟩) ⟨bS_blind, va_recv hK hP (ci := 2) (q0 := 0) rfl rfl, bS_pre hP hK hD hN⟩ rfl rfl hl.1 rfl (lv_room (Nat.le_of_ble_eq_true rfl)) dX2_simulate_63 ⟨Nat.zero_le _, Nat.zero_le _⟩) hS (fun q _ h => zx_fW hD hS hA q h) (fun q h => zx_fW hD hS hA q h) (fun u t H1 lc ht hvm hw hB hz1 hk1 hS => ?_)
            replace hw : T11 = u := hw; subst hw
            rw [ht] at hB
            replace hP := hB
            replace hD := zx2_Da T11 hD
            obtain ⟨x13, ex13, hM⟩ := zx_nE hM
            refine lv_iinc (v := x13) (lv' := [(6, .int x13), (4, .long x10), (0, .ref h), (3, .int v3)]) hx hb dX2_simulate_66 hl (k := 3) rfl (by rw [ex13]; rfl) (by decide) rfl (fun ls hl => ?_)
            refine lv_goto (tgt := 38) hx hb dX2_simulate_69 (by decide) ?_
            exact ih38 v3 x10 x13 T11 _ _ _ hP hD hS (lv_sub hl [2, 3, 1, 0] rfl) hM
      refine lv_aload_n hx hb dX2_simulate_21 rfl (lv_at hl 0 rfl) ?_
      refine va_get (D := D) (ci := 2) (v := .ref (hh 1)) (C := RX2) (T := TX2) (N := 8) hx hb hts inlX2 hown hK hP 0 rfl rfl 1 (by decide) (hts _ zw_1_16) (fun _ h9 => h9) rfl dX2_simulate_22 ?_
      refine lv_aload_n hx hb dX2_simulate_25 rfl (lv_at hl 0 rfl) ?_
      refine va_get (D := D) (ci := 2) (v := .ref (hh 0)) (C := RX2) (T := TX2) (N := 8) hx hb hts inlX2 hown hK hP 0 rfl rfl 0 (by decide) (hts _ zw_1_15) (fun _ h9 => h9) rfl dX2_simulate_26 ?_
      obtain ⟨T14, hz15, hM⟩ := zx_b1E hM
      refine va_callv (va_runV (As := [.ref (hh 0)]) (rest := []) ⟨hx, hb, hml, hown, hts⟩ (c_X1_takeOver l D cI cZ cT (hh 1) (aa 1) (S 1) (hh 0) (aa 0) (S 0) _ N hz15) (cwV 1 hts (zg_V zw_10_13 zw_10_14 zw_10_15 zw_1_14 zw_10_16) rfl rfl rfl ⟨rfl, zyX1_takeOver⟩ ⟨Nat.le_of_ble_eq_true rfl, Nat.le_of_ble_eq_true rfl⟩) ⟨bS_blind, va_recv hK (zx2_P2 (show 1 < 18 by decide) (show 0 < 18 by decide) hP) (ci := 1) (q0 := 0) rfl rfl, bS_pre (zx2_P2 (show 1 < 18 by decide) (show 0 < 18 by decide) hP) hK (zx2_D2 (show 1 < 18 by decide) (show 0 < 18 by decide) (by omega) hD) hN⟩ rfl rfl hl.1 rfl (lv_room (Nat.le_of_ble_eq_true rfl)) dX2_simulate_29 ⟨Nat.zero_le _, Nat.zero_le _⟩) hS (fun q _ h => zx_fW (zx2_D2 (show 1 < 18 by decide) (show 0 < 18 by decide) (by omega) hD) hS hA q h) (fun q h => zx_fW (zx2_D2 (show 1 < 18 by decide) (show 0 < 18 by decide) (by omega) hD) hS hA q h) (fun u t H1 lc ht hvm hw hB hz1 hk1 hS => ?_)
      replace hw : T14 = u := hw; subst hw
      rw [ht] at hB
      replace hP := zx2_S2 (show 1 < 18 by decide) (show 0 < 18 by decide) (by omega) hP hD hk1 hB
      obtain ⟨T16, eT16, hM⟩ := zx_nE hM
      rw [← eT16] at hP
      replace hD := zx2_Da T16 hD
      refine lv_lload_n hx hb dX2_simulate_32 rfl (lv_at hl 1 rfl) ?_
      refine lv_lstore (lv' := [(4, .long p1), (0, .ref h), (1, .long p1), (3, .int p3)]) hx hb dX2_simulate_33 hl (by decide) rfl (fun ls hl => ?_)
      refine lv_iconst (v := 0) hx hb dX2_simulate_35 (by decide) ?_
      refine lv_istore (lv' := [(6, .int 0), (4, .long p1), (0, .ref h), (1, .long p1), (3, .int p3)]) hx hb dX2_simulate_36 hl (by decide) rfl (fun ls hl => ?_)
      exact l38 N p3 p1 0 T16 _ _ _ hP hD hS (lv_sub hl [2, 4, 1, 0] rfl) hM
    · replace hM := zx_f q2 hM
      exact j11 S _ _ _ hP hD hS (lv_sub hl [] rfl) hM

/-! ShallowBoxes.save(I)I -/
def f_X2_save_j9 (N : Nat) (S_ : zx_B) : Option (Int32 × (Nat × zx_B)) :=
  some (0, (3, S_))
def f_X2_save_j40 (N : Nat) (v1 : Int32) (S_ : zx_B) : Option (Int32 × (Nat × zx_B)) :=
  (zx_b1 (f_X2_put N 2 v1 1 (S_ 19 0)) (fun g3 =>
(zx_n (zx_sb S_ 19 (zx_st (S_ 19) 0 g3)) (fun T5 =>
(zx_b1 (f_X1_countRectangles N (T5 0)) (fun x6 =>
some (x6, (0, T5))))))))
def f_X2_save (N : Nat) (p1 : Int32) (S : zx_B) : Option (Int32 × (Nat × zx_B)) :=
  (if p1 < 0 then
  f_X2_save_j9 N  S else
  (if p1 < 2 then
  (zx_b1 (f_X2_treeAt 2 p1) (fun u8 =>
(zx_b1 (f_X1_takeOver N (S (16 + u8)) (S 0)) (fun T10 =>
(zx_n (zx_sb S (16 + u8) T10) (fun T12 =>
f_X2_save_j40 N  p1 T12)))))) else
  f_X2_save_j9 N  S))
abbrev rmX2_save : Room := { frames := 6, cells := 1, slots := 6, locals := 82 }
abbrev zsX2_save : List Cond := .code yX2_save cX2_save 3 (some .int) :: wsL_law
theorem zyX2_save : yX2_save.cls ≠ "java/lang/invoke/MethodHandle" ∧ yX2_save.cls ≠ "java/lang/invoke/VarHandle" ∧ (parseMethodDescriptor yX2_save.desc).map (fun d => d.parameters.length) = some 1 := by decide +kernel
set_option maxHeartbeats 4000000 in
set_option maxRecDepth 100000 in
theorem c_X2_save (l : Launch) (D : va_G) (cI cZ cT : ClassId) (hlt : l.stackTraces = false) (h : Nat) (hh : Nat → Nat) (aa : Nat → Nat → Nat) (S : zx_B) (sz : Nat) (N : Nat) (p1 : Int32) {R : Int32 × (Nat × zx_B)} (hM : f_X2_save N p1 S = some R) : vx_Met l yX2_save zsX2_save rmX2_save (va_Pc [.ref h, .int p1] (bX D (zx_ty cI cZ cT) (xW2 cI cT h hh aa S) sz)) (va_Qi (fun r u => R = (r, (0, u))) (fun u t => va_P D vwCl (xW2 cI cT h hh aa u) t.heap) (va_A (xW2 cI cT h hh aa S) sz)) (vx_X (fun u : Nat × zx_B => R = (0, u) ∧ u.1 ≠ 0) (fun E u t => E = zx_E u.1 ∧ va_P D vwCl (xW2 cI cT h hh aa u.2) t.heap) (va_A (xW2 cI cT h hh aa S) sz)) 1 6 (va_A (xW2 cI cT h hh aa S) sz) := by
  refine vx_ofW (cc := cX2_save) (maxL := 3) (ret := (some .int)) (by decide) rfl ?_
  intro p e s m args below meth c s₁ B hml hout hv
  obtain ⟨rfl, ⟨hsz, hP, hK, hD0, hN⟩, hX⟩ := hv
  have hx := B.exec
  have hb := B.bytes
  have hr := B.returns
  have hts : ∀ w ∈ wsL_law, w.before _ s = true := fun w hw => atoms_spec (ws := zsX2_save) B.pre w (List.mem_cons_of_mem _ hw)
  have hown : s.vm.findClass RX2 = some m.cls := findClass_of_methodNamed B.named
  have hlocks := B.notSynchronized
  subst hsz
  have hD := hD0.self (sz := s.heap.size)
  generalize hAe : va_A (xW2 cI cT h hh aa S) s.heap.size = A at hD hX ⊢
  have hU := hX.1
  have hNN := hX.2.1
  have hXw := hX.2.2.1
  have hXs := hX.2.2.2
  have hA : ∀ q : Nat, s.heap.size ≤ q → A q := fun q h => by rw [← hAe]; exact Or.inr h
  have hS : va_S A s.heap s.heap [] := va_S.rf
  have hl := lv_entry ([.ref h, .int p1]) (n := 3) (Nat.le_of_ble_eq_true rfl)
  rw [lg_entry_eq]
  generalize (lg_sl ([.ref h, .int p1]) ++ List.replicate (3 - (lg_sl ([.ref h, .int p1])).length) Slot.unset).toArray = ls at hl ⊢
  have hl : lv_has ls 3 [(0, .ref h), (1, .int p1)] := hl
  generalize hQ : vx_MQ below (va_Qi (fun r u => R = (r, (0, u))) (fun u t => va_P D vwCl (xW2 cI cT h hh aa u) t.heap) A) (vx_X (fun u : Nat × zx_B => R = (0, u) ∧ u.1 ≠ 0) (fun E u t => E = zx_E u.1 ∧ va_P D vwCl (xW2 cI cT h hh aa u.2) t.heap) A) ([.ref h, .int p1] : List Value).toArray s 1 6 A = Q9
  replace hQ := hQ.symm
  unfold f_X2_save at hM
  have j9 : ∀ (S_ : zx_B) (H : Heap) (lc : List Loc) (ls : Array Slot), va_P D vwCl (xW2 cI cT h hh aa S_) H → va_D A (xW2 cI cT h hh aa S_) → va_S A s.heap H lc → lv_has ls 3 [] → f_X2_save_j9 N S_ = some R → W p l e (headSpec zsX2_save rmX2_save).room s m ([.ref h, .int p1] : List Value).toArray below meth c H lc 0 0 Q9 (F0 m 9 ls []) := by
    intro S_ H lc ls hP hD hS hl hM
    unfold f_X2_save_j9 at hM
    rw [hQ]
    exact zx_thr3 hx hb hlt hown (hts _ zw_7_6) (hts _ zw_7_7) (hXs _ _ (zx_str_237)) hts hXw hU hNN hS (hl.1.trans hml.symm) dX2_save_9 dX2_save_12 dX2_save_13 dX2_save_15 dX2_save_18 hout (Nat.le_of_ble_eq_true rfl) (Nat.le_of_ble_eq_true rfl) (Nat.le_of_ble_eq_true rfl) (Nat.le_of_ble_eq_true rfl) hlocks (fun t hvm hz hk => zx_XC (Option.some.inj hM).symm (by decide) rfl hP hS hz hk) hS.2.2 (Nat.le_of_ble_eq_true rfl) (Nat.le_of_ble_eq_true rfl)
  refine lv_iload_n hx hb dX2_save_0 rfl (lv_at hl 1 rfl) ?_
  refine lv_if_lt (tgt := 9) hx hb dX2_save_1 (by decide) (fun q1 => ?_) (fun q1 => ?_)
  · replace hM := zx_t q1 hM
    exact j9 S _ _ _ hP hD hS (lv_sub hl [] rfl) hM
  · replace hM := zx_f q1 hM
    refine lv_iload_n hx hb dX2_save_4 rfl (lv_at hl 1 rfl) ?_
    refine lv_iconst (v := 2) hx hb dX2_save_5 (by decide) ?_
    refine lv_icmp_lt (tgt := 19) hx hb dX2_save_6 (by decide) (fun q2 => ?_) (fun q2 => ?_)
    · replace hM := zx_t q2 hM
      have j40 : ∀ (v1 : Int32) (S_ : zx_B) (H : Heap) (lc : List Loc) (ls : Array Slot), va_P D vwCl (xW2 cI cT h hh aa S_) H → va_D A (xW2 cI cT h hh aa S_) → va_S A s.heap H lc → lv_has ls 3 [(0, .ref h), (1, .int v1)] → f_X2_save_j40 N v1 S_ = some R → W p l e (headSpec zsX2_save rmX2_save).room s m ([.ref h, .int p1] : List Value).toArray below meth c H lc 0 0 Q9 (F0 m 40 ls []) := by
        intro v1 S_ H lc ls hP hD hS hl hM
        unfold f_X2_save_j40 at hM
        refine lv_aload_n hx hb dX2_save_40 rfl (lv_at hl 0 rfl) ?_
        refine va_get (D := D) (ci := 2) (v := .ref (aa 19 0)) (C := RX2) (T := TX2) (N := 8) hx hb hts inlX2 hown hK hP 0 rfl rfl 6 (by decide) (hts _ zw_1_20) (fun _ h9 => h9) rfl dX2_save_41 ?_
        refine lv_iload_n hx hb dX2_save_44 rfl (lv_at hl 1 rfl) ?_
        refine lv_iconst (v := 1) hx hb dX2_save_45 (by decide) ?_
        obtain ⟨g3, hz4, hM⟩ := zx_b1E hM
        refine va_callv (va_runS (As := [.ref (aa 19 0), .int v1, .int 1]) (rest := []) ⟨hx, hb, hml, hown, hts⟩ (c_X2_put l D cI cZ cT (aa 19 0) 2 (S_ 19 0) _ N v1 1 hz4) (va_cwS 3 hts (zg_S zw_17_4 zw_2_23 zw_1_2 zw_3_0) rfl rfl rfl zyX2_put ⟨Nat.le_of_ble_eq_true rfl, Nat.le_of_ble_eq_true rfl⟩) ⟨bS_blind, bS_pre (zx_P1 hP 1 (rfl)) hK (zx_D1 hD 1 (rfl)) hN⟩ rfl rfl hl.1 rfl (lv_room (Nat.le_of_ble_eq_true rfl)) dX2_save_46 ⟨Nat.zero_le _, Nat.zero_le _⟩) hS (fun q _ h => zx_f1 hD hS hA (k := 1) rfl q h) (fun q h => zx_f1 hD hS hA (k := 1) rfl q h) (fun u t H1 lc ht hvm hw hB hz1 hk1 hS => ?_)
        replace hw : g3 = u := hw; subst hw
        rw [ht] at hB
        replace hP := zx_set1 (k := 1) hP hD rfl hk1 hB
        replace hD := va_D.set (p := 1) (e := .inl (cI, 2, .inl g3)) hD rfl
        rw [xW2_pa0] at hP hD
        obtain ⟨T5, eT5, hM⟩ := zx_nE hM
        rw [← eT5] at hP hD
        refine lv_aload_n hx hb dX2_save_49 rfl (lv_at hl 0 rfl) ?_
        refine va_get (D := D) (ci := 2) (v := .ref (hh 0)) (C := RX2) (T := TX2) (N := 8) hx hb hts inlX2 hown hK hP 0 rfl rfl 0 (by decide) (hts _ zw_1_15) (fun _ h9 => h9) rfl dX2_save_50 ?_
        obtain ⟨x6, hz7, hM⟩ := zx_b1E hM
        refine va_calli (va_runV (As := []) (rest := []) ⟨hx, hb, hml, hown, hts⟩ (c_X1_countRectangles l D cI cZ cT (hh 0) (aa 0) (T5 0) _ N hz7) (cwV 0 hts (zg_V zw_5_6 zw_5_7 zw_5_8 zw_1_14 zw_5_9) rfl rfl rfl ⟨rfl, zyX1_countRectangles⟩ ⟨Nat.le_of_ble_eq_true rfl, Nat.le_of_ble_eq_true rfl⟩) ⟨bS_blind, va_recv hK (zx2_P (show 0 < 18 by decide) hP) (ci := 1) (q0 := 0) rfl rfl, bS_pre (zx2_P (show 0 < 18 by decide) hP) hK (zx2_D (show 0 < 18 by decide) hD) hN⟩ rfl rfl hl.1 rfl (lv_room (Nat.le_of_ble_eq_true rfl)) dX2_save_53 ⟨Nat.zero_le _, Nat.zero_le _⟩) hS (fun q h1 h2 => absurd h1 (Nat.not_lt.mpr h2)) (fun q h => hA q (Nat.le_trans hS.1 h)) (fun r u t H1 lc ht hvm hw hB hz1 hk1 hS => ?_)
        replace hw : x6 = r := hw; subst hw
        replace hP := zx_keep hP hk1
        rw [hQ]
        refine vx_ret ?_
        refine W.widen (k := 1) (n := 6) (Nat.le_of_ble_eq_true rfl) (Nat.le_of_ble_eq_true rfl) ?_
        exact W.iret hx hb hr (fun t ht hW => ⟨⟨x6, T5, rfl, (Option.some.inj hM).symm, by show va_P D vwCl _ t.heap; rw [ht]; exact hP⟩, hS.F ht⟩) hS.2.2 dX2_save_56
      refine lv_aload_n hx hb dX2_save_19 rfl (lv_at hl 0 rfl) ?_
      refine va_get (D := D) (ci := 2) (v := .ref (aa 19 2)) (C := RX2) (T := TX2) (N := 8) hx hb hts inlX2 hown hK hP 0 rfl rfl 5 (by decide) (hts _ zw_1_18) (fun _ h9 => h9) rfl dX2_save_20 ?_
      refine lv_iload_n hx hb dX2_save_23 rfl (lv_at hl 1 rfl) ?_
      obtain ⟨u8, hz9, hM⟩ := zx_b1E hM
      have hju8 : 16 + u8 < 18 := by have := f_X2_treeAt_lt hz9; omega
      refine va_callr (va_runS (As := [.ref (aa 19 2), .int p1]) (rest := []) ⟨hx, hb, hml, hown, hts⟩ (c_X2_treeAt l D cI cZ cT (aa 19 2) 2 (by decide) (fun i => hh (16 + i)) _ p1 hz9) (va_cwS 2 hts (zg_S zw_10_10 zw_10_11 zw_1_2 zw_10_12) rfl rfl rfl zyX2_treeAt ⟨Nat.le_of_ble_eq_true rfl, Nat.le_of_ble_eq_true rfl⟩) ⟨bS_blind, bS_pre (zx_P1 hP 3 rfl) hK (zx_D1 hD 3 rfl) hN⟩ rfl rfl hl.1 rfl (lv_room (Nat.le_of_ble_eq_true rfl)) dX2_save_24 ⟨Nat.zero_le _, Nat.zero_le _⟩) hS (fun q h1 h2 => absurd h1 (Nat.not_lt.mpr h2)) (fun q h => hA q (Nat.le_trans hS.1 h)) (fun u ra t H1 lc ht hvm hw hB hz1 hk1 hS => ?_)
      replace hw : u8 = u := hw; subst hw; replace hB : ra = hh (16 + u8) := hB; subst hB
      replace hP := zx_keep hP hk1
      refine lv_astore_n (lv' := [(2, .ref (hh (16 + u8))), (0, .ref h), (1, .int p1)]) hx hb dX2_save_27 rfl hl (by decide) rfl (fun ls hl => ?_)
      refine lv_aload_n hx hb dX2_save_28 rfl (lv_at hl 0 rfl) ?_
      refine lv_ifnull hx hb dX2_save_29 ?_
      refine lv_aload_n hx hb dX2_save_32 rfl (lv_at hl 0 rfl) ?_
      refine lv_aload_n hx hb dX2_save_33 rfl (lv_at hl 1 rfl) ?_
      refine va_get (D := D) (ci := 2) (v := .ref (hh 0)) (C := RX2) (T := TX2) (N := 8) hx hb hts inlX2 hown hK hP 0 rfl rfl 0 (by decide) (hts _ zw_1_15) (fun _ h9 => h9) rfl dX2_save_34 ?_
      obtain ⟨T10, hz11, hM⟩ := zx_b1E hM
      refine va_callv (va_runV (As := [.ref (hh 0)]) (rest := []) ⟨hx, hb, hml, hown, hts⟩ (c_X1_takeOver l D cI cZ cT (hh (16 + u8)) (aa (16 + u8)) (S (16 + u8)) (hh 0) (aa 0) (S 0) _ N hz11) (cwV 1 hts (zg_V zw_10_13 zw_10_14 zw_10_15 zw_1_14 zw_10_16) rfl rfl rfl ⟨rfl, zyX1_takeOver⟩ ⟨Nat.le_of_ble_eq_true rfl, Nat.le_of_ble_eq_true rfl⟩) ⟨bS_blind, va_recv hK (zx2_P2 hju8 (show 0 < 18 by decide) hP) (ci := 1) (q0 := 0) rfl rfl, bS_pre (zx2_P2 hju8 (show 0 < 18 by decide) hP) hK (zx2_D2 hju8 (show 0 < 18 by decide) (by omega) hD) hN⟩ rfl rfl hl.1 rfl (lv_room (Nat.le_of_ble_eq_true rfl)) dX2_save_37 ⟨Nat.zero_le _, Nat.zero_le _⟩) hS (fun q _ h => zx_fW (zx2_D2 hju8 (show 0 < 18 by decide) (by omega) hD) hS hA q h) (fun q h => zx_fW (zx2_D2 hju8 (show 0 < 18 by decide) (by omega) hD) hS hA q h) (fun u t H1 lc ht hvm hw hB hz1 hk1 hS => ?_)
      replace hw : T10 = u := hw; subst hw
      rw [ht] at hB
      replace hP := zx2_S2 hju8 (show 0 < 18 by decide) (by omega) hP hD hk1 hB
      obtain ⟨T12, eT12, hM⟩ := zx_nE hM
      rw [← eT12] at hP
      replace hD := zx2_Da T12 hD
      exact j40 p1 T12 _ _ _ hP hD hS (lv_sub hl [1, 2] rfl) hM
    · replace hM := zx_f q2 hM
      exact j9 S _ _ _ hP hD hS (lv_sub hl [] rfl) hM

/-! ShallowBoxes.restore(I)I -/
def f_X2_restore_j9 (N : Nat) (S_ : zx_B) : Option (Int32 × (Nat × zx_B)) :=
  some (0, (3, S_))
def f_X2_restore (N : Nat) (p1 : Int32) (S : zx_B) : Option (Int32 × (Nat × zx_B)) :=
  (if p1 < 0 then
  f_X2_restore_j9 N  S else
  (if p1 < 2 then
  (zx_b1 (f_X2_get N 2 p1 (S 19 0)) (fun x3 =>
(if x3 = 0 then
  some (0, (2, S)) else
  (zx_b1 (f_X2_treeAt 2 p1) (fun u6 =>
(zx_b1 (f_X1_takeOver N (S 0) (S (16 + u6))) (fun T8 =>
(zx_n (zx_sb S 0 T8) (fun T10 =>
(zx_n (zx_sb T10 19 (zx_st (T10 19) 1 (upd (T10 19 1) 1 0))) (fun T11 =>
(zx_b1 (f_X1_countRectangles N (T11 0)) (fun x12 =>
some (x12, (0, T11))))))))))))))) else
  f_X2_restore_j9 N  S))
abbrev rmX2_restore : Room := { frames := 6, cells := 1, slots := 6, locals := 82 }
abbrev zsX2_restore : List Cond := .code yX2_restore cX2_restore 2 (some .int) :: wsL_law
theorem zyX2_restore : yX2_restore.cls ≠ "java/lang/invoke/MethodHandle" ∧ yX2_restore.cls ≠ "java/lang/invoke/VarHandle" ∧ (parseMethodDescriptor yX2_restore.desc).map (fun d => d.parameters.length) = some 1 := by decide +kernel
set_option maxHeartbeats 4000000 in
set_option maxRecDepth 100000 in
theorem c_X2_restore (l : Launch) (D : va_G) (cI cZ cT : ClassId) (hlt : l.stackTraces = false) (h : Nat) (hh : Nat → Nat) (aa : Nat → Nat → Nat) (S : zx_B) (sz : Nat) (N : Nat) (p1 : Int32) {R : Int32 × (Nat × zx_B)} (hM : f_X2_restore N p1 S = some R) : vx_Met l yX2_restore zsX2_restore rmX2_restore (va_Pc [.ref h, .int p1] (bX D (zx_ty cI cZ cT) (xW2 cI cT h hh aa S) sz)) (va_Qi (fun r u => R = (r, (0, u))) (fun u t => va_P D vwCl (xW2 cI cT h hh aa u) t.heap) (va_A (xW2 cI cT h hh aa S) sz)) (vx_X (fun u : Nat × zx_B => R = (0, u) ∧ u.1 ≠ 0) (fun E u t => E = zx_E u.1 ∧ va_P D vwCl (xW2 cI cT h hh aa u.2) t.heap) (va_A (xW2 cI cT h hh aa S) sz)) 1 6 (va_A (xW2 cI cT h hh aa S) sz) := by
  refine vx_ofW (cc := cX2_restore) (maxL := 2) (ret := (some .int)) (by decide) rfl ?_
  intro p e s m args below meth c s₁ B hml hout hv
  obtain ⟨rfl, ⟨hsz, hP, hK, hD0, hN⟩, hX⟩ := hv
  have hx := B.exec
  have hb := B.bytes
  have hr := B.returns
  have hts : ∀ w ∈ wsL_law, w.before _ s = true := fun w hw => atoms_spec (ws := zsX2_restore) B.pre w (List.mem_cons_of_mem _ hw)
  have hown : s.vm.findClass RX2 = some m.cls := findClass_of_methodNamed B.named
  have hlocks := B.notSynchronized
  subst hsz
  have hD := hD0.self (sz := s.heap.size)
  generalize hAe : va_A (xW2 cI cT h hh aa S) s.heap.size = A at hD hX ⊢
  have hU := hX.1
  have hNN := hX.2.1
  have hXw := hX.2.2.1
  have hXs := hX.2.2.2
  have hA : ∀ q : Nat, s.heap.size ≤ q → A q := fun q h => by rw [← hAe]; exact Or.inr h
  have hS : va_S A s.heap s.heap [] := va_S.rf
  have hl := lv_entry ([.ref h, .int p1]) (n := 2) (Nat.le_of_ble_eq_true rfl)
  rw [lg_entry_eq]
  generalize (lg_sl ([.ref h, .int p1]) ++ List.replicate (2 - (lg_sl ([.ref h, .int p1])).length) Slot.unset).toArray = ls at hl ⊢
  have hl : lv_has ls 2 [(0, .ref h), (1, .int p1)] := hl
  generalize hQ : vx_MQ below (va_Qi (fun r u => R = (r, (0, u))) (fun u t => va_P D vwCl (xW2 cI cT h hh aa u) t.heap) A) (vx_X (fun u : Nat × zx_B => R = (0, u) ∧ u.1 ≠ 0) (fun E u t => E = zx_E u.1 ∧ va_P D vwCl (xW2 cI cT h hh aa u.2) t.heap) A) ([.ref h, .int p1] : List Value).toArray s 1 6 A = Q9
  replace hQ := hQ.symm
  unfold f_X2_restore at hM
  have j9 : ∀ (S_ : zx_B) (H : Heap) (lc : List Loc) (ls : Array Slot), va_P D vwCl (xW2 cI cT h hh aa S_) H → va_D A (xW2 cI cT h hh aa S_) → va_S A s.heap H lc → lv_has ls 2 [] → f_X2_restore_j9 N S_ = some R → W p l e (headSpec zsX2_restore rmX2_restore).room s m ([.ref h, .int p1] : List Value).toArray below meth c H lc 0 0 Q9 (F0 m 9 ls []) := by
    intro S_ H lc ls hP hD hS hl hM
    unfold f_X2_restore_j9 at hM
    rw [hQ]
    exact zx_thr3 hx hb hlt hown (hts _ zw_7_6) (hts _ zw_7_7) (hXs _ _ (zx_str_237)) hts hXw hU hNN hS (hl.1.trans hml.symm) dX2_restore_9 dX2_restore_12 dX2_restore_13 dX2_restore_15 dX2_restore_18 hout (Nat.le_of_ble_eq_true rfl) (Nat.le_of_ble_eq_true rfl) (Nat.le_of_ble_eq_true rfl) (Nat.le_of_ble_eq_true rfl) hlocks (fun t hvm hz hk => zx_XC (Option.some.inj hM).symm (by decide) rfl hP hS hz hk) hS.2.2 (Nat.le_of_ble_eq_true rfl) (Nat.le_of_ble_eq_true rfl)
  refine lv_iload_n hx hb dX2_restore_0 rfl (lv_at hl 1 rfl) ?_
  refine lv_if_lt (tgt := 9) hx hb dX2_restore_1 (by decide) (fun q1 => ?_) (fun q1 => ?_)
  · replace hM := zx_t q1 hM
    exact j9 S _ _ _ hP hD hS (lv_sub hl [] rfl) hM
  · replace hM := zx_f q1 hM
    refine lv_iload_n hx hb dX2_restore_4 rfl (lv_at hl 1 rfl) ?_
    refine lv_iconst (v := 2) hx hb dX2_restore_5 (by decide) ?_
    refine lv_icmp_lt (tgt := 19) hx hb dX2_restore_6 (by decide) (fun q2 => ?_) (fun q2 => ?_)
    · replace hM := zx_t q2 hM
      refine lv_aload_n hx hb dX2_restore_19 rfl (lv_at hl 0 rfl) ?_
      refine va_get (D := D) (ci := 2) (v := .ref (aa 19 0)) (C := RX2) (T := TX2) (N := 8) hx hb hts inlX2 hown hK hP 0 rfl rfl 6 (by decide) (hts _ zw_1_20) (fun _ h9 => h9) rfl dX2_restore_20 ?_
      refine lv_iload_n hx hb dX2_restore_23 rfl (lv_at hl 1 rfl) ?_
      obtain ⟨x3, hz4, hM⟩ := zx_b1E hM
      refine va_calli (va_runS (As := [.ref (aa 19 0), .int p1]) (rest := []) ⟨hx, hb, hml, hown, hts⟩ (c_X2_get l D cI cZ cT (aa 19 0) 2 (S 19 0) _ N p1 hz4) (va_cwS 2 hts (zg_S zw_17_12 zw_3_5 zw_1_2 zw_3_6) rfl rfl rfl zyX2_get ⟨Nat.le_of_ble_eq_true rfl, Nat.le_of_ble_eq_true rfl⟩) ⟨bS_blind, bS_pre (zx_P1 hP 1 (rfl)) hK (zx_D1 hD 1 (rfl)) hN⟩ rfl rfl hl.1 rfl (lv_room (Nat.le_of_ble_eq_true rfl)) dX2_restore_24 ⟨Nat.zero_le _, Nat.zero_le _⟩) hS (fun q h1 h2 => absurd h1 (Nat.not_lt.mpr h2)) (fun q h => hA q (Nat.le_trans hS.1 h)) (fun r u t H1 lc ht hvm hw hB hz1 hk1 hS => ?_)
      replace hw : x3 = r := hw; subst hw
      replace hP := zx_keep hP hk1
      refine lv_if_ne (tgt := 40) hx hb dX2_restore_27 (by decide) (fun q5 => ?_) (fun q5 => ?_)
      · replace hM := zx_f q5 hM
        refine lv_aload_n hx hb dX2_restore_40 rfl (lv_at hl 0 rfl) ?_
        refine va_get (D := D) (ci := 2) (v := .ref (hh 0)) (C := RX2) (T := TX2) (N := 8) hx hb hts inlX2 hown hK hP 0 rfl rfl 0 (by decide) (hts _ zw_1_15) (fun _ h9 => h9) rfl dX2_restore_41 ?_
        refine lv_aload_n hx hb dX2_restore_44 rfl (lv_at hl 0 rfl) ?_
        refine va_get (D := D) (ci := 2) (v := .ref (aa 19 2)) (C := RX2) (T := TX2) (N := 8) hx hb hts inlX2 hown hK hP 0 rfl rfl 5 (by decide) (hts _ zw_1_18) (fun _ h9 => h9) rfl dX2_restore_45 ?_
        refine lv_iload_n hx hb dX2_restore_48 rfl (lv_at hl 1 rfl) ?_
        obtain ⟨u6, hz7, hM⟩ := zx_b1E hM
        have hju6 : 16 + u6 < 18 := by have := f_X2_treeAt_lt hz7; omega
        refine va_callr (va_runS (As := [.ref (aa 19 2), .int p1]) (rest := [.ref (hh 0)]) ⟨hx, hb, hml, hown, hts⟩ (c_X2_treeAt l D cI cZ cT (aa 19 2) 2 (by decide) (fun i => hh (16 + i)) _ p1 hz7) (va_cwS 2 hts (zg_S zw_10_10 zw_10_11 zw_1_2 zw_10_12) rfl rfl rfl zyX2_treeAt ⟨Nat.le_of_ble_eq_true rfl, Nat.le_of_ble_eq_true rfl⟩) ⟨bS_blind, bS_pre (zx_P1 hP 3 rfl) hK (zx_D1 hD 3 rfl) hN⟩ rfl rfl hl.1 rfl (lv_room (Nat.le_of_ble_eq_true rfl)) dX2_restore_49 ⟨Nat.zero_le _, Nat.zero_le _⟩) hS (fun q h1 h2 => absurd h1 (Nat.not_lt.mpr h2)) (fun q h => hA q (Nat.le_trans hS.1 h)) (fun u ra t H1 lc ht hvm hw hB hz1 hk1 hS => ?_)
        replace hw : u6 = u := hw; subst hw; replace hB : ra = hh (16 + u6) := hB; subst hB
        replace hP := zx_keep hP hk1
        obtain ⟨T8, hz9, hM⟩ := zx_b1E hM
        refine va_callv (va_runV (As := [.ref (hh (16 + u6))]) (rest := []) ⟨hx, hb, hml, hown, hts⟩ (c_X1_takeOver l D cI cZ cT (hh 0) (aa 0) (S 0) (hh (16 + u6)) (aa (16 + u6)) (S (16 + u6)) _ N hz9) (cwV 1 hts (zg_V zw_10_13 zw_10_14 zw_10_15 zw_1_14 zw_10_16) rfl rfl rfl ⟨rfl, zyX1_takeOver⟩ ⟨Nat.le_of_ble_eq_true rfl, Nat.le_of_ble_eq_true rfl⟩) ⟨bS_blind, va_recv hK (zx2_P2 (show 0 < 18 by decide) hju6 hP) (ci := 1) (q0 := 0) rfl rfl, bS_pre (zx2_P2 (show 0 < 18 by decide) hju6 hP) hK (zx2_D2 (show 0 < 18 by decide) hju6 (by omega) hD) hN⟩ rfl rfl hl.1 rfl (lv_room (Nat.le_of_ble_eq_true rfl)) dX2_restore_52 ⟨Nat.zero_le _, Nat.zero_le _⟩) hS (fun q _ h => zx_fW (zx2_D2 (show 0 < 18 by decide) hju6 (by omega) hD) hS hA q h) (fun q h => zx_fW (zx2_D2 (show 0 < 18 by decide) hju6 (by omega) hD) hS hA q h) (fun u t H1 lc ht hvm hw hB hz1 hk1 hS => ?_)
        replace hw : T8 = u := hw; subst hw
        rw [ht] at hB
        replace hP := zx2_S2 (show 0 < 18 by decide) hju6 (by omega) hP hD hk1 hB
        obtain ⟨T10, eT10, hM⟩ := zx_nE hM
        rw [← eT10] at hP
        replace hD := zx2_Da T10 hD
        refine lv_aload_n hx hb dX2_restore_55 rfl (lv_at hl 0 rfl) ?_
        refine lv_iconst (v := 0) hx hb dX2_restore_56 (by decide) ?_
        obtain ⟨T11, eT11, hM⟩ := zx_nE hM
        refine va_put (D := D) (ci := 2) (v := .int 0) (ty := .int) (C := RX2) (T := TX2) (N := 8) hx hb hts inlX2 tyX2 tyX2_ok nmX2 hown hK hP hD hS 0 rfl rfl 4 (by decide) (hts _ zw_10_8) (fun _ h9 => h9) rfl (by decide +kernel) rfl rfl (Nat.le_of_ble_eq_true rfl) dX2_restore_57 (fun H lc hP _ hS => ?_)
        replace hP : va_P D vwCl (xW2 cI cT h hh aa T11) H := by rw [eT11]; exact xW2_pf4 hP
        replace hD : va_D A (xW2 cI cT h hh aa T11) := zx2_Da T11 hD
        refine lv_aload_n hx hb dX2_restore_60 rfl (lv_at hl 0 rfl) ?_
        refine va_get (D := D) (ci := 2) (v := .ref (hh 0)) (C := RX2) (T := TX2) (N := 8) hx hb hts inlX2 hown hK hP 0 rfl rfl 0 (by decide) (hts _ zw_1_15) (fun _ h9 => h9) rfl dX2_restore_61 ?_
        obtain ⟨x12, hz13, hM⟩ := zx_b1E hM
        refine va_calli (va_runV (As := []) (rest := []) ⟨hx, hb, hml, hown, hts⟩ (c_X1_countRectangles l D cI cZ cT (hh 0) (aa 0) (T11 0) _ N hz13) (cwV 0 hts (zg_V zw_5_6 zw_5_7 zw_5_8 zw_1_14 zw_5_9) rfl rfl rfl ⟨rfl, zyX1_countRectangles⟩ ⟨Nat.le_of_ble_eq_true rfl, Nat.le_of_ble_eq_true rfl⟩) ⟨bS_blind, va_recv hK (zx2_P (show 0 < 18 by decide) hP) (ci := 1) (q0 := 0) rfl rfl, bS_pre (zx2_P (show 0 < 18 by decide) hP) hK (zx2_D (show 0 < 18 by decide) hD) hN⟩ rfl rfl hl.1 rfl (lv_room (Nat.le_of_ble_eq_true rfl)) dX2_restore_64 ⟨Nat.zero_le _, Nat.zero_le _⟩) hS (fun q h1 h2 => absurd h1 (Nat.not_lt.mpr h2)) (fun q h => hA q (Nat.le_trans hS.1 h)) (fun r u t H1 lc ht hvm hw hB hz1 hk1 hS => ?_)
        replace hw : x12 = r := hw; subst hw
        replace hP := zx_keep hP hk1
        rw [hQ]
        refine vx_ret ?_
        refine W.widen (k := 1) (n := 6) (Nat.le_of_ble_eq_true rfl) (Nat.le_of_ble_eq_true rfl) ?_
        exact W.iret hx hb hr (fun t ht hW => ⟨⟨x12, T11, rfl, (Option.some.inj hM).symm, by show va_P D vwCl _ t.heap; rw [ht]; exact hP⟩, hS.F ht⟩) hS.2.2 dX2_restore_67
      · replace hM := zx_t q5 hM
        rw [hQ]
        exact zx_thr2 hx hb hlt hown (hts _ zw_4_16) (hts _ zw_4_17) (hXs _ _ (zx_str_247)) hts hXw hU hNN hS (hl.1.trans hml.symm) dX2_restore_30 dX2_restore_33 dX2_restore_34 dX2_restore_36 dX2_restore_39 hout (Nat.le_of_ble_eq_true rfl) (Nat.le_of_ble_eq_true rfl) (Nat.le_of_ble_eq_true rfl) (Nat.le_of_ble_eq_true rfl) hlocks (fun t hvm hz hk => zx_XC (Option.some.inj hM).symm (by decide) rfl hP hS hz hk) hS.2.2 (Nat.le_of_ble_eq_true rfl) (Nat.le_of_ble_eq_true rfl)
    · replace hM := zx_f q2 hM
      exact j9 S _ _ _ hP hD hS (lv_sub hl [] rfl) hM
