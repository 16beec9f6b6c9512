/-! ShallowBoxesModel.node(II)I -/
def f_X3_node_j41 (N : Nat) (v1 : Int32) (v2 : Int32) (t1 : Int32) (S_ : zx_S) : Option (Int32 × zx_S) :=
  (zx_b2 (f_X3_refused N t1 S_) (fun x1 T2 =>
(if x1 = 0 then
  (zx_b2 (f_X3_numberNodes N 1 T2) (fun x5 T6 =>
(zx_b1 (f_X3_layBoxes N 1 T6) (fun T8 =>
(zx_rd 32 (T8 10) v1 (fun x10 =>
(if v2 = 0 then
  (zx_b1 (f_X3_levelOf N 380 x10 (T8 1)) (fun x13 =>
some (x13, T8))) else
(if v2 = 1 then
  (zx_b1 (f_X3_many N 380 x10 (T8 1)) (fun x16 =>
some (x16, T8))) else
(if v2 = 6 then
  (if v1 = 0 then
  some ((-1), T8) else
  (zx_b1 (f_X3_nodeWith N 380 (24 + x10) (T8 1)) (fun x20 =>
(zx_rd 32 (T8 9) x20 (fun x22 =>
some (x22, T8)))))) else
(zx_b1 (f_X3_many N 380 x10 (T8 1)) (fun x24 =>
(if x24 = 0 then
  some ((-1), T8) else
  (zx_rd 224 (T8 6) (((4 * (24 + x10)) + v2) - 2) (fun x27 =>
some (x27, T8))))))))))))))) else
  some (0, T2))))
def f_X3_node (N : Nat) (p1 : Int32) (p2 : Int32) (S : zx_S) : Option (Int32 × zx_S) :=
  (zx_b1 (f_X3_nodes N 380 (S 1)) (fun x29 =>
(zx_b1 (f_X3_in N (Int32.toInt64 p1) 0 (Int32.toInt64 (x29 - 1))) (fun x31 =>
(if x31 = 0 then
  f_X3_node_j41 N  p1 p2 1 S else
  (zx_b1 (f_X3_in N (Int32.toInt64 p2) 0 6) (fun x34 =>
(if x34 = 0 then
  f_X3_node_j41 N  p1 p2 2 S else
  f_X3_node_j41 N  p1 p2 0 S))))))))
abbrev rmX3_node : Room := { frames := 3, cells := 0, slots := 0, locals := 67 }
abbrev zsX3_node : List Cond := .code yX3_node cX3_node 4 (some .int) :: wsL_law
theorem zyX3_node : yX3_node.cls ≠ "java/lang/invoke/MethodHandle" ∧ yX3_node.cls ≠ "java/lang/invoke/VarHandle" ∧ (parseMethodDescriptor yX3_node.desc).map (fun d => d.parameters.length) = some 2 := by decide +kernel
set_option maxHeartbeats 4000000 in
set_option maxRecDepth 100000 in
theorem c_X3_node (l : Launch) (D : va_G) (cI cZ cT : ClassId) (h : Nat) (ad : Nat → Nat) (S : zx_S) (sz : Nat) (N : Nat) (p1 : Int32) (p2 : Int32) {R : Int32 × zx_S} (hM : f_X3_node N p1 p2 S = some R) : Met l yX3_node zsX3_node rmX3_node (va_Pc [.ref h, .int p1, .int p2] (bS D (zx_ty cI cZ cT) (xW3 cI cZ h ad S) sz)) (va_Qi (fun r u => R = (r, u)) (fun u t => va_P D vwCl (xW3 cI cZ h ad u) t.heap) (va_A (xW3 cI cZ h ad S) sz)) 0 0 (va_A (xW3 cI cZ h ad S) sz) := by
  refine Met.ofW (cc := cX3_node) (maxL := 4) (ret := (some .int)) (by decide) rfl ?_
  intro p e s m args below meth c s₁ B hml hv
  obtain ⟨rfl, hsz, hP, hK, hD0, hN⟩ := hv
  have hx := B.exec
  have hb := B.bytes
  have hr := B.returns
  have hts : ∀ w ∈ wsL_law, w.before _ s = true := fun w hw => atoms_spec (ws := zsX3_node) B.pre w (List.mem_cons_of_mem _ hw)
  have hown : s.vm.findClass RX3 = some m.cls := findClass_of_methodNamed B.named
  have hlocks := B.notSynchronized
  subst hsz
  have hD := hD0.self (sz := s.heap.size)
  generalize hAe : va_A (xW3 cI cZ h ad S) s.heap.size = A at hD ⊢
  have hA : ∀ q : Nat, s.heap.size ≤ q → A q := fun q h => by rw [← hAe]; exact Or.inr h
  have hS : va_S A s.heap s.heap [] := va_S.rf
  have hl := lv_entry ([.ref h, .int p1, .int p2]) (n := 4) (Nat.le_of_ble_eq_true rfl)
  rw [lg_entry_eq]
  generalize (lg_sl ([.ref h, .int p1, .int p2]) ++ List.replicate (4 - (lg_sl ([.ref h, .int p1, .int p2])).length) Slot.unset).toArray = ls at hl ⊢
  have hl : lv_has ls 4 [(0, .ref h), (1, .int p1), (2, .int p2)] := hl
  generalize hQ : MQ below (va_Qi (fun r u => R = (r, u)) (fun u t => va_P D vwCl (xW3 cI cZ h ad u) t.heap) A) ([.ref h, .int p1, .int p2] : List Value).toArray s 0 0 A = Q9
  replace hQ := hQ.symm
  unfold f_X3_node at hM
  have j41 : ∀ (v1 : Int32) (v2 : Int32) (t1 : Int32) (S_ : zx_S) (H : Heap) (lc : List Loc) (ls : Array Slot), va_P D vwCl (xW3 cI cZ h ad S_) H → va_D A (xW3 cI cZ h ad S_) → va_S A s.heap H lc → lv_has ls 4 [(0, .ref h), (1, .int v1), (2, .int v2)] → f_X3_node_j41 N v1 v2 t1 S_ = some R → W p l e (headSpec zsX3_node rmX3_node).room s m ([.ref h, .int p1, .int p2] : List Value).toArray below meth c H lc 0 0 Q9 (F0 m 41 ls [.int t1, .ref h]) := by
    intro v1 v2 t1 S_ H lc ls hP hD hS hl hM
    unfold f_X3_node_j41 at hM
    obtain ⟨x1, T2, hz3, hM⟩ := zx_b2E hM
    refine va_calli (va_runV (As := [.int t1]) (rest := []) ⟨hx, hb, hml, hown, hts⟩ (c_X3_refused l D cI cZ cT h ad S_ _ N t1  hz3) (cwV 1 hts (zg_V zw_5_14 zw_5_15 zw_5_16 zw_1_5 zw_5_17) rfl rfl rfl ⟨rfl, zyX3_refused⟩ ⟨Nat.le_of_ble_eq_true rfl, Nat.le_of_ble_eq_true rfl⟩) ⟨bS_blind, va_recv hK hP (ci := 3) (q0 := 0) rfl rfl, bS_pre hP hK hD hN⟩ rfl rfl hl.1 rfl (lv_room (Nat.le_of_ble_eq_true rfl)) dX3_node_41 ⟨Nat.zero_le _, Nat.zero_le _⟩) hS (fun q _ h => zx_fW hD hS hA q h) (fun q h => zx_fW hD hS hA q h) (fun r u t H1 lc ht hvm hw hB hz1 hk1 hS => ?_)
    obtain ⟨hw1, hw2⟩ := Prod.mk.inj hw; subst hw1; subst hw2
    rw [ht] at hB
    replace hP := hB
    replace hD := xW3_D T2 hD
    refine lv_if_eq (tgt := 49) hx hb dX3_node_44 (by decide) (fun q4 => ?_) (fun q4 => ?_)
    · replace hM := zx_t q4 hM
      refine lv_aload_n hx hb dX3_node_49 rfl (lv_at hl 0 rfl) ?_
      refine lv_aload_n hx hb dX3_node_50 rfl (lv_at hl 0 rfl) ?_
      refine va_get (D := D) (ci := 3) (v := .ref (ad 1)) (C := RX3) (T := TX3) (N := 20) hx hb hts inlX3 hown hK hP 0 rfl rfl 3 (by decide) (hts _ zw_3_19) (fun _ h9 => h9) rfl dX3_node_51 ?_
      obtain ⟨x5, T6, hz7, hM⟩ := zx_b2E hM
      refine va_calli (va_runV (As := [.ref (ad 1)]) (rest := []) ⟨hx, hb, hml, hown, hts⟩ (c_X3_numberNodes l D cI cZ cT h ad T2 _ N 1 (Or.inl rfl)  hz7) (cwV 1 hts (zg_V zw_16_18 zw_16_19 zw_16_20 zw_1_5 zw_16_21) rfl rfl rfl ⟨rfl, zyX3_numberNodes⟩ ⟨Nat.le_of_ble_eq_true rfl, Nat.le_of_ble_eq_true rfl⟩) ⟨bS_blind, va_recv hK hP (ci := 3) (q0 := 0) rfl rfl, bS_pre hP hK hD hN⟩ rfl rfl hl.1 rfl (lv_room (Nat.le_of_ble_eq_true rfl)) dX3_node_54 ⟨Nat.zero_le _, Nat.zero_le _⟩) hS (fun q _ h => zx_fW hD hS hA q h) (fun q h => zx_fW hD hS hA q h) (fun r u t H1 lc ht hvm hw hB hz1 hk1 hS => ?_)
      obtain ⟨hw1, hw2⟩ := Prod.mk.inj hw; subst hw1; subst hw2
      rw [ht] at hB
      replace hP := hB
      replace hD := xW3_D T6 hD
      refine lv_pop hx hb dX3_node_57 rfl ?_
      refine lv_aload_n hx hb dX3_node_58 rfl (lv_at hl 0 rfl) ?_
      refine lv_aload_n hx hb dX3_node_59 rfl (lv_at hl 0 rfl) ?_
      refine va_get (D := D) (ci := 3) (v := .ref (ad 1)) (C := RX3) (T := TX3) (N := 20) hx hb hts inlX3 hown hK hP 0 rfl rfl 3 (by decide) (hts _ zw_3_19) (fun _ h9 => h9) rfl dX3_node_60 ?_
      obtain ⟨T8, hz9, hM⟩ := zx_b1E hM
      refine va_callv (va_runV (As := [.ref (ad 1)]) (rest := []) ⟨hx, hb, hml, hown, hts⟩ (c_X3_layBoxes l D cI cZ cT h ad T6 _ N 1 (Or.inl rfl)  hz9) (cwV 1 hts (zg_V zw_8_23 zw_9_0 zw_9_1 zw_1_5 zw_9_2) rfl rfl rfl ⟨rfl, zyX3_layBoxes⟩ ⟨Nat.le_of_ble_eq_true rfl, Nat.le_of_ble_eq_true rfl⟩) ⟨bS_blind, va_recv hK hP (ci := 3) (q0 := 0) rfl rfl, bS_pre hP hK hD hN⟩ rfl rfl hl.1 rfl (lv_room (Nat.le_of_ble_eq_true rfl)) dX3_node_63 ⟨Nat.zero_le _, Nat.zero_le _⟩) hS (fun q _ h => zx_fW hD hS hA q h) (fun q h => zx_fW hD hS hA q h) (fun u t H1 lc ht hvm hw hB hz1 hk1 hS => ?_)
      replace hw : T8 = u := hw; subst hw
      rw [ht] at hB
      replace hP := hB
      replace hD := xW3_D T8 hD
      refine lv_aload_n hx hb dX3_node_66 rfl (lv_at hl 0 rfl) ?_
      refine va_get (D := D) (ci := 3) (v := .ref (ad 10)) (C := RX3) (T := TX3) (N := 20) hx hb hts inlX3 hown hK hP 0 rfl rfl 16 (by decide) (hts _ zw_4_5) (fun _ h9 => h9) rfl dX3_node_67 ?_
      refine lv_iload_n hx hb dX3_node_70 rfl (lv_at hl 1 rfl) ?_
      obtain ⟨x10, q11, ex10, hM⟩ := zx_rdE hM
      refine va_iald (D := D) hx hb hK hP 11 0 rfl rfl q11 dX3_node_71 ?_
      refine zx_top ex10 ?_
      refine lv_istore_n (lv' := [(3, .int x10), (0, .ref h), (1, .int v1), (2, .int v2)]) hx hb dX3_node_72 rfl hl (by decide) rfl (fun ls hl => ?_)
      refine lv_iload_n hx hb dX3_node_73 rfl (lv_at hl 3 rfl) ?_
      by_cases q12 : v2 = 0
      · replace hM := zx_t q12 hM
        refine lv_lookup (tgt := 108) (off := 34) hx hb dX3_node_74 (by decide) (zx_rw q12 (by rfl)) (by decide) ?_
        refine lv_aload_n hx hb dX3_node_108 rfl (lv_at hl 1 rfl) ?_
        refine va_get (D := D) (ci := 3) (v := .ref (ad 1)) (C := RX3) (T := TX3) (N := 20) hx hb hts inlX3 hown hK hP 0 rfl rfl 3 (by decide) (hts _ zw_3_19) (fun _ h9 => h9) rfl dX3_node_109 ?_
        refine lv_iload_n hx hb dX3_node_112 rfl (lv_at hl 0 rfl) ?_
        obtain ⟨x13, hz14, hM⟩ := zx_b1E hM
        refine va_calli (va_runS (As := [.ref (ad 1), .int x10]) (rest := []) ⟨hx, hb, hml, hown, hts⟩ (c_X3_levelOf l D cI cZ cT (ad 1) 380 (T8 1) _ N x10 hz14) (va_cwS 2 hts (zg_S zw_9_9 zw_9_10 zw_1_5 zw_9_11) rfl rfl rfl zyX3_levelOf ⟨Nat.le_of_ble_eq_true rfl, Nat.le_of_ble_eq_true rfl⟩) ⟨bS_blind, bS_pre (zx_P1 hP 2 (rfl)) hK (zx_D1 hD 2 (rfl)) hN⟩ rfl rfl hl.1 rfl (lv_room (Nat.le_of_ble_eq_true rfl)) dX3_node_113 ⟨Nat.zero_le _, Nat.zero_le _⟩) hS (fun q h1 h2 => absurd h1 (Nat.not_lt.mpr h2)) (fun q h => hA q (Nat.le_trans hS.1 h)) (fun r u t H1 lc ht hvm hw hB hz1 hk1 hS => ?_)
        replace hw : x13 = r := hw; subst hw
        replace hP := zx_keep hP hk1
        rw [hQ]
        exact W.iret hx hb hr (fun t ht hW => ⟨⟨x13, T8, rfl, (Option.some.inj hM).symm, by show va_P D vwCl _ t.heap; rw [ht]; exact hP⟩, hS.F ht⟩) hS.2.2 dX3_node_116
      · replace hM := zx_f q12 hM
        by_cases q15 : v2 = 1
        · replace hM := zx_t q15 hM
          refine lv_lookup (tgt := 117) (off := 43) hx hb dX3_node_74 (by decide) (zx_rw q15 (by rfl)) (by decide) ?_
          refine lv_aload_n hx hb dX3_node_117 rfl (lv_at hl 1 rfl) ?_
          refine va_get (D := D) (ci := 3) (v := .ref (ad 1)) (C := RX3) (T := TX3) (N := 20) hx hb hts inlX3 hown hK hP 0 rfl rfl 3 (by decide) (hts _ zw_3_19) (fun _ h9 => h9) rfl dX3_node_118 ?_
          refine lv_iload_n hx hb dX3_node_121 rfl (lv_at hl 0 rfl) ?_
          obtain ⟨x16, hz17, hM⟩ := zx_b1E hM
          refine va_calli (va_runS (As := [.ref (ad 1), .int x10]) (rest := []) ⟨hx, hb, hml, hown, hts⟩ (c_X3_many l D cI cZ cT (ad 1) 380 (T8 1) _ N x10 hz17) (va_cwS 2 hts (zg_S zw_9_3 zw_9_4 zw_1_5 zw_9_5) rfl rfl rfl zyX3_many ⟨Nat.le_of_ble_eq_true rfl, Nat.le_of_ble_eq_true rfl⟩) ⟨bS_blind, bS_pre (zx_P1 hP 2 (rfl)) hK (zx_D1 hD 2 (rfl)) hN⟩ rfl rfl hl.1 rfl (lv_room (Nat.le_of_ble_eq_true rfl)) dX3_node_122 ⟨Nat.zero_le _, Nat.zero_le _⟩) hS (fun q h1 h2 => absurd h1 (Nat.not_lt.mpr h2)) (fun q h => hA q (Nat.le_trans hS.1 h)) (fun r u t H1 lc ht hvm hw hB hz1 hk1 hS => ?_)
          replace hw : x16 = r := hw; subst hw
          replace hP := zx_keep hP hk1
          rw [hQ]
          exact W.iret hx hb hr (fun t ht hW => ⟨⟨x16, T8, rfl, (Option.some.inj hM).symm, by show va_P D vwCl _ t.heap; rw [ht]; exact hP⟩, hS.F ht⟩) hS.2.2 dX3_node_125
        · replace hM := zx_f q15 hM
          by_cases q18 : v2 = 6
          · replace hM := zx_t q18 hM
            refine lv_lookup (tgt := 126) (off := 52) hx hb dX3_node_74 (by decide) (zx_rw q18 (by rfl)) (by decide) ?_
            refine lv_iload_n hx hb dX3_node_126 rfl (lv_at hl 2 rfl) ?_
            refine lv_if_ne (tgt := 134) hx hb dX3_node_127 (by decide) (fun q19 => ?_) (fun q19 => ?_)
            · replace hM := zx_f q19 hM
              refine lv_aload_n hx hb dX3_node_134 rfl (lv_at hl 1 rfl) ?_
              refine va_get (D := D) (ci := 3) (v := .ref (ad 9)) (C := RX3) (T := TX3) (N := 20) hx hb hts inlX3 hown hK hP 0 rfl rfl 15 (by decide) (hts _ zw_4_4) (fun _ h9 => h9) rfl dX3_node_135 ?_
              refine lv_aload_n hx hb dX3_node_138 rfl (lv_at hl 1 rfl) ?_
              refine va_get (D := D) (ci := 3) (v := .ref (ad 1)) (C := RX3) (T := TX3) (N := 20) hx hb hts inlX3 hown hK hP 0 rfl rfl 3 (by decide) (hts _ zw_3_19) (fun _ h9 => h9) rfl dX3_node_139 ?_
              refine lv_bipush (v := 24) hx hb dX3_node_142 (by decide) ?_
              refine lv_iload_n hx hb dX3_node_144 rfl (lv_at hl 0 rfl) ?_
              refine lv_iadd hx hb dX3_node_145 ?_
              obtain ⟨x20, hz21, hM⟩ := zx_b1E hM
              refine va_calli (va_runS (As := [.ref (ad 1), .int (24 + x10)]) (rest := [.ref (ad 9)]) ⟨hx, hb, hml, hown, hts⟩ (c_X3_nodeWith l D cI cZ cT (ad 1) 380 (T8 1) _ N (24 + x10) hz21) (va_cwS 2 hts (zg_S zw_11_8 zw_11_9 zw_1_5 zw_11_10) rfl rfl rfl zyX3_nodeWith ⟨Nat.le_of_ble_eq_true rfl, Nat.le_of_ble_eq_true rfl⟩) ⟨bS_blind, bS_pre (zx_P1 hP 2 (rfl)) hK (zx_D1 hD 2 (rfl)) hN⟩ rfl rfl hl.1 rfl (lv_room (Nat.le_of_ble_eq_true rfl)) dX3_node_146 ⟨Nat.zero_le _, Nat.zero_le _⟩) hS (fun q h1 h2 => absurd h1 (Nat.not_lt.mpr h2)) (fun q h => hA q (Nat.le_trans hS.1 h)) (fun r u t H1 lc ht hvm hw hB hz1 hk1 hS => ?_)
              replace hw : x20 = r := hw; subst hw
              replace hP := zx_keep hP hk1
              obtain ⟨x22, q23, ex22, hM⟩ := zx_rdE hM
              refine va_iald (D := D) hx hb hK hP 10 0 rfl rfl q23 dX3_node_149 ?_
              refine zx_top ex22 ?_
              rw [hQ]
              exact W.iret hx hb hr (fun t ht hW => ⟨⟨x22, T8, rfl, (Option.some.inj hM).symm, by show va_P D vwCl _ t.heap; rw [ht]; exact hP⟩, hS.F ht⟩) hS.2.2 dX3_node_150
            · replace hM := zx_t q19 hM
              refine lv_iconst (v := (-1)) hx hb dX3_node_130 (by decide) ?_
              refine lv_goto (tgt := 150) hx hb dX3_node_131 (by decide) ?_
              rw [hQ]
              exact W.iret hx hb hr (fun t ht hW => ⟨⟨(-1), T8, rfl, (Option.some.inj hM).symm, by show va_P D vwCl _ t.heap; rw [ht]; exact hP⟩, hS.F ht⟩) hS.2.2 dX3_node_150
          · replace hM := zx_f q18 hM
            refine lv_lookup (tgt := 151) (off := 77) hx hb dX3_node_74 (by decide) (zx_os (((lv_osw q12 rfl).trans (lv_osw q15 rfl)).trans (lv_osw q18 rfl))) (by decide) ?_
            refine lv_aload_n hx hb dX3_node_151 rfl (lv_at hl 1 rfl) ?_
            refine va_get (D := D) (ci := 3) (v := .ref (ad 1)) (C := RX3) (T := TX3) (N := 20) hx hb hts inlX3 hown hK hP 0 rfl rfl 3 (by decide) (hts _ zw_3_19) (fun _ h9 => h9) rfl dX3_node_152 ?_
            refine lv_iload_n hx hb dX3_node_155 rfl (lv_at hl 0 rfl) ?_
            obtain ⟨x24, hz25, hM⟩ := zx_b1E hM
            refine va_calli (va_runS (As := [.ref (ad 1), .int x10]) (rest := []) ⟨hx, hb, hml, hown, hts⟩ (c_X3_many l D cI cZ cT (ad 1) 380 (T8 1) _ N x10 hz25) (va_cwS 2 hts (zg_S zw_9_3 zw_9_4 zw_1_5 zw_9_5) rfl rfl rfl zyX3_many ⟨Nat.le_of_ble_eq_true rfl, Nat.le_of_ble_eq_true rfl⟩) ⟨bS_blind, bS_pre (zx_P1 hP 2 (rfl)) hK (zx_D1 hD 2 (rfl)) hN⟩ rfl rfl hl.1 rfl (lv_room (Nat.le_of_ble_eq_true rfl)) dX3_node_156 ⟨Nat.zero_le _, Nat.zero_le _⟩) hS (fun q h1 h2 => absurd h1 (Nat.not_lt.mpr h2)) (fun q h => hA q (Nat.le_trans hS.1 h)) (fun r u t H1 lc ht hvm hw hB hz1 hk1 hS => ?_)
            replace hw : x24 = r := hw; subst hw
            replace hP := zx_keep hP hk1
            refine lv_if_ne (tgt := 166) hx hb dX3_node_159 (by decide) (fun q26 => ?_) (fun q26 => ?_)
            · replace hM := zx_f q26 hM
              refine lv_aload_n hx hb dX3_node_166 rfl (lv_at hl 1 rfl) ?_
              refine va_get (D := D) (ci := 3) (v := .ref (ad 6)) (C := RX3) (T := TX3) (N := 20) hx hb hts inlX3 hown hK hP 0 rfl rfl 9 (by decide) (hts _ zw_4_1) (fun _ h9 => h9) rfl dX3_node_167 ?_
              refine lv_iconst (v := 4) hx hb dX3_node_170 (by decide) ?_
              refine lv_bipush (v := 24) hx hb dX3_node_171 (by decide) ?_
              refine lv_iload_n hx hb dX3_node_173 rfl (lv_at hl 0 rfl) ?_
              refine lv_iadd hx hb dX3_node_174 ?_
              refine lv_imul hx hb dX3_node_175 ?_
              refine lv_iload_n hx hb dX3_node_176 rfl (lv_at hl 3 rfl) ?_
              refine lv_iadd hx hb dX3_node_177 ?_
              refine lv_iconst (v := 2) hx hb dX3_node_178 (by decide) ?_
              refine lv_isub hx hb dX3_node_179 ?_
              obtain ⟨x27, q28, ex27, hM⟩ := zx_rdE hM
              refine va_iald (D := D) hx hb hK hP 7 0 rfl rfl q28 dX3_node_180 ?_
              refine zx_top ex27 ?_
              rw [hQ]
              exact W.iret hx hb hr (fun t ht hW => ⟨⟨x27, T8, rfl, (Option.some.inj hM).symm, by show va_P D vwCl _ t.heap; rw [ht]; exact hP⟩, hS.F ht⟩) hS.2.2 dX3_node_181
            · replace hM := zx_t q26 hM
              refine lv_iconst (v := (-1)) hx hb dX3_node_162 (by decide) ?_
              refine lv_goto (tgt := 181) hx hb dX3_node_163 (by decide) ?_
              rw [hQ]
              exact W.iret hx hb hr (fun t ht hW => ⟨⟨(-1), T8, rfl, (Option.some.inj hM).symm, by show va_P D vwCl _ t.heap; rw [ht]; exact hP⟩, hS.F ht⟩) hS.2.2 dX3_node_181
    · replace hM := zx_f q4 hM
      refine lv_iconst (v := 0) hx hb dX3_node_47 (by decide) ?_
      rw [hQ]
      exact W.iret hx hb hr (fun t ht hW => ⟨⟨0, T2, rfl, (Option.some.inj hM).symm, by show va_P D vwCl _ t.heap; rw [ht]; exact hP⟩, hS.F ht⟩) hS.2.2 dX3_node_48
  refine lv_aload_n hx hb dX3_node_0 rfl (lv_at hl 0 rfl) ?_
  refine lv_iload_n hx hb dX3_node_1 rfl (lv_at hl 1 rfl) ?_
  refine lv_i2l hx hb dX3_node_2 rfl ?_
  refine lv_lconst (v := 0) hx hb dX3_node_3 (by decide) ?_
  refine lv_aload_n hx hb dX3_node_4 rfl (lv_at hl 0 rfl) ?_
  refine va_get (D := D) (ci := 3) (v := .ref (ad 1)) (C := RX3) (T := TX3) (N := 20) hx hb hts inlX3 hown hK hP 0 rfl rfl 3 (by decide) (hts _ zw_3_19) (fun _ h9 => h9) rfl dX3_node_5 ?_
  obtain ⟨x29, hz30, hM⟩ := zx_b1E hM
  refine va_calli (va_runS (As := [.ref (ad 1)]) (rest := [.long 0, .long (Int32.toInt64 p1), .ref h]) ⟨hx, hb, hml, hown, hts⟩ (c_X3_nodes l D cI cZ cT (ad 1) 380 (S 1) _ N hz30) (va_cwS 1 hts (zg_S zw_14_16 zw_14_17 zw_1_5 zw_14_18) rfl rfl rfl zyX3_nodes ⟨Nat.le_of_ble_eq_true rfl, Nat.le_of_ble_eq_true rfl⟩) ⟨bS_blind, bS_pre (zx_P1 hP 2 (rfl)) hK (zx_D1 hD 2 (rfl)) hN⟩ rfl rfl hl.1 rfl (lv_room (Nat.le_of_ble_eq_true rfl)) dX3_node_8 ⟨Nat.zero_le _, Nat.zero_le _⟩) hS (fun q h1 h2 => absurd h1 (Nat.not_lt.mpr h2)) (fun q h => hA q (Nat.le_trans hS.1 h)) (fun r u t H1 lc ht hvm hw hB hz1 hk1 hS => ?_)
  replace hw : x29 = r := hw; subst hw
  replace hP := zx_keep hP hk1
  refine lv_iconst (v := 1) hx hb dX3_node_11 (by decide) ?_
  refine lv_isub hx hb dX3_node_12 ?_
  refine lv_i2l hx hb dX3_node_13 rfl ?_
  obtain ⟨x31, hz32, hM⟩ := zx_b1E hM
  refine va_calli (va_runS (As := [.long (Int32.toInt64 p1), .long 0, .long (Int32.toInt64 (x29 - 1))]) (rest := [.ref h]) ⟨hx, hb, hml, hown, hts⟩ (c_X3_in l D cI cZ cT _ N (Int32.toInt64 p1) 0 (Int32.toInt64 (x29 - 1)) hz32) (va_cwS 3 hts (zg_S zw_5_11 zw_5_12 zw_1_5 zw_5_13) rfl rfl rfl zyX3_in ⟨Nat.le_of_ble_eq_true rfl, Nat.le_of_ble_eq_true rfl⟩) ⟨bS_blind, bS_pre (zx_P0 hP) hK (zx_D0 hD) hN⟩ rfl rfl hl.1 rfl (lv_room (Nat.le_of_ble_eq_true rfl)) dX3_node_14 ⟨Nat.zero_le _, Nat.zero_le _⟩) hS (fun q h1 h2 => absurd h1 (Nat.not_lt.mpr h2)) (fun q h => hA q (Nat.le_trans hS.1 h)) (fun r u t H1 lc ht hvm hw hB hz1 hk1 hS => ?_)
  replace hw : x31 = r := hw; subst hw
  replace hP := zx_keep hP hk1
  refine lv_if_ne (tgt := 24) hx hb dX3_node_17 (by decide) (fun q33 => ?_) (fun q33 => ?_)
  · replace hM := zx_f q33 hM
    refine lv_iload_n hx hb dX3_node_24 rfl (lv_at hl 2 rfl) ?_
    refine lv_i2l hx hb dX3_node_25 rfl ?_
    refine lv_lconst (v := 0) hx hb dX3_node_26 (by decide) ?_
    refine lv_ldc2 (v := 6) hx hb hown (hts _ zw_17_17) dX3_node_27 ?_
    obtain ⟨x34, hz35, hM⟩ := zx_b1E hM
    refine va_calli (va_runS (As := [.long (Int32.toInt64 p2), .long 0, .long 6]) (rest := [.ref h]) ⟨hx, hb, hml, hown, hts⟩ (c_X3_in l D cI cZ cT _ N (Int32.toInt64 p2) 0 6 hz35) (va_cwS 3 hts (zg_S zw_5_11 zw_5_12 zw_1_5 zw_5_13) rfl rfl rfl zyX3_in ⟨Nat.le_of_ble_eq_true rfl, Nat.le_of_ble_eq_true rfl⟩) ⟨bS_blind, bS_pre (zx_P0 hP) hK (zx_D0 hD) hN⟩ rfl rfl hl.1 rfl (lv_room (Nat.le_of_ble_eq_true rfl)) dX3_node_30 ⟨Nat.zero_le _, Nat.zero_le _⟩) hS (fun q h1 h2 => absurd h1 (Nat.not_lt.mpr h2)) (fun q h => hA q (Nat.le_trans hS.1 h)) (fun r u t H1 lc ht hvm hw hB hz1 hk1 hS => ?_)
    replace hw : x34 = r := hw; subst hw
    replace hP := zx_keep hP hk1
    refine lv_if_eq (tgt := 40) hx hb dX3_node_33 (by decide) (fun q36 => ?_) (fun q36 => ?_)
    · replace hM := zx_t q36 hM
      refine lv_iconst (v := 2) hx hb dX3_node_40 (by decide) ?_
      exact j41 p1 p2 2 S _ _ _ hP hD hS (lv_sub hl [0, 1, 2] rfl) hM
    · replace hM := zx_f q36 hM
      refine lv_iconst (v := 0) hx hb dX3_node_36 (by decide) ?_
      refine lv_goto (tgt := 41) hx hb dX3_node_37 (by decide) ?_
      exact j41 p1 p2 0 S _ _ _ hP hD hS (lv_sub hl [0, 1, 2] rfl) hM
  · replace hM := zx_t q33 hM
    refine lv_iconst (v := 1) hx hb dX3_node_20 (by decide) ?_
    refine lv_goto (tgt := 41) hx hb dX3_node_21 (by decide) ?_
    exact j41 p1 p2 1 S _ _ _ hP hD hS (lv_sub hl [0, 1, 2] rfl) hM

/-! ShallowBoxesModel.entry(II)I -/
def f_X3_entry_j33 (N : Nat) (v1 : Int32) (v2 : Int32) (t1 : Int32) (S_ : zx_S) : Option (Int32 × zx_S) :=
  (zx_b2 (f_X3_refused N t1 S_) (fun x1 T2 =>
(if x1 = 0 then
  (zx_b2 (f_X3_numberNodes N 1 T2) (fun x5 T6 =>
(zx_rd 32 (T6 10) v1 (fun x8 =>
(zx_b1 (f_X3_many N 380 x8 (T6 1)) (fun x10 =>
(if v2 < x10 then
  (zx_b1 (f_X3_entryOf N 380 x8 v2 (T6 1)) (fun x13 =>
(if 24 ≤ x13 then
  (zx_rd 32 (T6 9) (x13 - 24) (fun x16 =>
some (x16, T6))) else
  some (x13, T6)))) else
  some ((-1), T6)))))))) else
  some (0, T2))))
def f_X3_entry (N : Nat) (p1 : Int32) (p2 : Int32) (S : zx_S) : Option (Int32 × zx_S) :=
  (zx_b1 (f_X3_nodes N 380 (S 1)) (fun x18 =>
(zx_b1 (f_X3_in N (Int32.toInt64 p1) 0 (Int32.toInt64 (x18 - 1))) (fun x20 =>
(if x20 = 0 then
  f_X3_entry_j33 N  p1 p2 1 S else
  (if 0 ≤ p2 then
  f_X3_entry_j33 N  p1 p2 0 S else
  f_X3_entry_j33 N  p1 p2 2 S))))))
abbrev rmX3_entry : Room := { frames := 3, cells := 0, slots := 0, locals := 67 }
abbrev zsX3_entry : List Cond := .code yX3_entry cX3_entry 5 (some .int) :: wsL_law
theorem zyX3_entry : yX3_entry.cls ≠ "java/lang/invoke/MethodHandle" ∧ yX3_entry.cls ≠ "java/lang/invoke/VarHandle" ∧ (parseMethodDescriptor yX3_entry.desc).map (fun d => d.parameters.length) = some 2 := by decide +kernel
set_option maxHeartbeats 4000000 in
set_option maxRecDepth 100000 in
theorem c_X3_entry (l : Launch) (D : va_G) (cI cZ cT : ClassId) (h : Nat) (ad : Nat → Nat) (S : zx_S) (sz : Nat) (N : Nat) (p1 : Int32) (p2 : Int32) {R : Int32 × zx_S} (hM : f_X3_entry N p1 p2 S = some R) : Met l yX3_entry zsX3_entry rmX3_entry (va_Pc [.ref h, .int p1, .int p2] (bS D (zx_ty cI cZ cT) (xW3 cI cZ h ad S) sz)) (va_Qi (fun r u => R = (r, u)) (fun u t => va_P D vwCl (xW3 cI cZ h ad u) t.heap) (va_A (xW3 cI cZ h ad S) sz)) 0 0 (va_A (xW3 cI cZ h ad S) sz) := by
  refine Met.ofW (cc := cX3_entry) (maxL := 5) (ret := (some .int)) (by decide) rfl ?_
  intro p e s m args below meth c s₁ B hml hv
  obtain ⟨rfl, hsz, hP, hK, hD0, hN⟩ := hv
  have hx := B.exec
  have hb := B.bytes
  have hr := B.returns
  have hts : ∀ w ∈ wsL_law, w.before _ s = true := fun w hw => atoms_spec (ws := zsX3_entry) B.pre w (List.mem_cons_of_mem _ hw)
  have hown : s.vm.findClass RX3 = some m.cls := findClass_of_methodNamed B.named
  have hlocks := B.notSynchronized
  subst hsz
  have hD := hD0.self (sz := s.heap.size)
  generalize hAe : va_A (xW3 cI cZ h ad S) s.heap.size = A at hD ⊢
  have hA : ∀ q : Nat, s.heap.size ≤ q → A q := fun q h => by rw [← hAe]; exact Or.inr h
  have hS : va_S A s.heap s.heap [] := va_S.rf
  have hl := lv_entry ([.ref h, .int p1, .int p2]) (n := 5) (Nat.le_of_ble_eq_true rfl)
  rw [lg_entry_eq]
  generalize (lg_sl ([.ref h, .int p1, .int p2]) ++ List.replicate (5 - (lg_sl ([.ref h, .int p1, .int p2])).length) Slot.unset).toArray = ls at hl ⊢
  have hl : lv_has ls 5 [(0, .ref h), (1, .int p1), (2, .int p2)] := hl
  generalize hQ : MQ below (va_Qi (fun r u => R = (r, u)) (fun u t => va_P D vwCl (xW3 cI cZ h ad u) t.heap) A) ([.ref h, .int p1, .int p2] : List Value).toArray s 0 0 A = Q9
  replace hQ := hQ.symm
  unfold f_X3_entry at hM
  have j33 : ∀ (v1 : Int32) (v2 : Int32) (t1 : Int32) (S_ : zx_S) (H : Heap) (lc : List Loc) (ls : Array Slot), va_P D vwCl (xW3 cI cZ h ad S_) H → va_D A (xW3 cI cZ h ad S_) → va_S A s.heap H lc → lv_has ls 5 [(0, .ref h), (1, .int v1), (2, .int v2)] → f_X3_entry_j33 N v1 v2 t1 S_ = some R → W p l e (headSpec zsX3_entry rmX3_entry).room s m ([.ref h, .int p1, .int p2] : List Value).toArray below meth c H lc 0 0 Q9 (F0 m 33 ls [.int t1, .ref h]) := by
    intro v1 v2 t1 S_ H lc ls hP hD hS hl hM
    unfold f_X3_entry_j33 at hM
    obtain ⟨x1, T2, hz3, hM⟩ := zx_b2E hM
    refine va_calli (va_runV (As := [.int t1]) (rest := []) ⟨hx, hb, hml, hown, hts⟩ (c_X3_refused l D cI cZ cT h ad S_ _ N t1  hz3) (cwV 1 hts (zg_V zw_5_14 zw_5_15 zw_5_16 zw_1_5 zw_5_17) rfl rfl rfl ⟨rfl, zyX3_refused⟩ ⟨Nat.le_of_ble_eq_true rfl, Nat.le_of_ble_eq_true rfl⟩) ⟨bS_blind, va_recv hK hP (ci := 3) (q0 := 0) rfl rfl, bS_pre hP hK hD hN⟩ rfl rfl hl.1 rfl (lv_room (Nat.le_of_ble_eq_true rfl)) dX3_entry_33 ⟨Nat.zero_le _, Nat.zero_le _⟩) hS (fun q _ h => zx_fW hD hS hA q h) (fun q h => zx_fW hD hS hA q h) (fun r u t H1 lc ht hvm hw hB hz1 hk1 hS => ?_)
    obtain ⟨hw1, hw2⟩ := Prod.mk.inj hw; subst hw1; subst hw2
    rw [ht] at hB
    replace hP := hB
    replace hD := xW3_D T2 hD
    refine lv_if_eq (tgt := 41) hx hb dX3_entry_36 (by decide) (fun q4 => ?_) (fun q4 => ?_)
    · replace hM := zx_t q4 hM
      refine lv_aload_n hx hb dX3_entry_41 rfl (lv_at hl 0 rfl) ?_
      refine lv_aload_n hx hb dX3_entry_42 rfl (lv_at hl 0 rfl) ?_
      refine va_get (D := D) (ci := 3) (v := .ref (ad 1)) (C := RX3) (T := TX3) (N := 20) hx hb hts inlX3 hown hK hP 0 rfl rfl 3 (by decide) (hts _ zw_3_19) (fun _ h9 => h9) rfl dX3_entry_43 ?_
      obtain ⟨x5, T6, hz7, hM⟩ := zx_b2E hM
      refine va_calli (va_runV (As := [.ref (ad 1)]) (rest := []) ⟨hx, hb, hml, hown, hts⟩ (c_X3_numberNodes l D cI cZ cT h ad T2 _ N 1 (Or.inl rfl)  hz7) (cwV 1 hts (zg_V zw_16_18 zw_16_19 zw_16_20 zw_1_5 zw_16_21) rfl rfl rfl ⟨rfl, zyX3_numberNodes⟩ ⟨Nat.le_of_ble_eq_true rfl, Nat.le_of_ble_eq_true rfl⟩) ⟨bS_blind, va_recv hK hP (ci := 3) (q0 := 0) rfl rfl, bS_pre hP hK hD hN⟩ rfl rfl hl.1 rfl (lv_room (Nat.le_of_ble_eq_true rfl)) dX3_entry_46 ⟨Nat.zero_le _, Nat.zero_le _⟩) hS (fun q _ h => zx_fW hD hS hA q h) (fun q h => zx_fW hD hS hA q h) (fun r u t H1 lc ht hvm hw hB hz1 hk1 hS => ?_)
      obtain ⟨hw1, hw2⟩ := Prod.mk.inj hw; subst hw1; subst hw2
      rw [ht] at hB
      replace hP := hB
      replace hD := xW3_D T6 hD
      refine lv_pop hx hb dX3_entry_49 rfl ?_
      refine lv_aload_n hx hb dX3_entry_50 rfl (lv_at hl 0 rfl) ?_
      refine va_get (D := D) (ci := 3) (v := .ref (ad 10)) (C := RX3) (T := TX3) (N := 20) hx hb hts inlX3 hown hK hP 0 rfl rfl 16 (by decide) (hts _ zw_4_5) (fun _ h9 => h9) rfl dX3_entry_51 ?_
      refine lv_iload_n hx hb dX3_entry_54 rfl (lv_at hl 1 rfl) ?_
      obtain ⟨x8, q9, ex8, hM⟩ := zx_rdE hM
      refine va_iald (D := D) hx hb hK hP 11 0 rfl rfl q9 dX3_entry_55 ?_
      refine zx_top ex8 ?_
      refine lv_istore_n (lv' := [(3, .int x8), (0, .ref h), (1, .int v1), (2, .int v2)]) hx hb dX3_entry_56 rfl hl (by decide) rfl (fun ls hl => ?_)
      refine lv_iload_n hx hb dX3_entry_57 rfl (lv_at hl 3 rfl) ?_
      refine lv_aload_n hx hb dX3_entry_58 rfl (lv_at hl 1 rfl) ?_
      refine va_get (D := D) (ci := 3) (v := .ref (ad 1)) (C := RX3) (T := TX3) (N := 20) hx hb hts inlX3 hown hK hP 0 rfl rfl 3 (by decide) (hts _ zw_3_19) (fun _ h9 => h9) rfl dX3_entry_59 ?_
      refine lv_iload_n hx hb dX3_entry_62 rfl (lv_at hl 0 rfl) ?_
      obtain ⟨x10, hz11, hM⟩ := zx_b1E hM
      refine va_calli (va_runS (As := [.ref (ad 1), .int x8]) (rest := [.int v2]) ⟨hx, hb, hml, hown, hts⟩ (c_X3_many l D cI cZ cT (ad 1) 380 (T6 1) _ N x8 hz11) (va_cwS 2 hts (zg_S zw_9_3 zw_9_4 zw_1_5 zw_9_5) rfl rfl rfl zyX3_many ⟨Nat.le_of_ble_eq_true rfl, Nat.le_of_ble_eq_true rfl⟩) ⟨bS_blind, bS_pre (zx_P1 hP 2 (rfl)) hK (zx_D1 hD 2 (rfl)) hN⟩ rfl rfl hl.1 rfl (lv_room (Nat.le_of_ble_eq_true rfl)) dX3_entry_63 ⟨Nat.zero_le _, Nat.zero_le _⟩) hS (fun q h1 h2 => absurd h1 (Nat.not_lt.mpr h2)) (fun q h => hA q (Nat.le_trans hS.1 h)) (fun r u t H1 lc ht hvm hw hB hz1 hk1 hS => ?_)
      replace hw : x10 = r := hw; subst hw
      replace hP := zx_keep hP hk1
      refine lv_icmp_lt (tgt := 71) hx hb dX3_entry_66 (by decide) (fun q12 => ?_) (fun q12 => ?_)
      · replace hM := zx_t q12 hM
        refine lv_aload_n hx hb dX3_entry_71 rfl (lv_at hl 1 rfl) ?_
        refine va_get (D := D) (ci := 3) (v := .ref (ad 1)) (C := RX3) (T := TX3) (N := 20) hx hb hts inlX3 hown hK hP 0 rfl rfl 3 (by decide) (hts _ zw_3_19) (fun _ h9 => h9) rfl dX3_entry_72 ?_
        refine lv_iload_n hx hb dX3_entry_75 rfl (lv_at hl 0 rfl) ?_
        refine lv_iload_n hx hb dX3_entry_76 rfl (lv_at hl 3 rfl) ?_
        obtain ⟨x13, hz14, hM⟩ := zx_b1E hM
        refine va_calli (va_runS (As := [.ref (ad 1), .int x8, .int v2]) (rest := []) ⟨hx, hb, hml, hown, hts⟩ (c_X3_entryOf l D cI cZ cT (ad 1) 380 (T6 1) _ N x8 v2 hz14) (va_cwS 3 hts (zg_S zw_9_12 zw_9_13 zw_1_5 zw_9_14) rfl rfl rfl zyX3_entryOf ⟨Nat.le_of_ble_eq_true rfl, Nat.le_of_ble_eq_true rfl⟩) ⟨bS_blind, bS_pre (zx_P1 hP 2 (rfl)) hK (zx_D1 hD 2 (rfl)) hN⟩ rfl rfl hl.1 rfl (lv_room (Nat.le_of_ble_eq_true rfl)) dX3_entry_77 ⟨Nat.zero_le _, Nat.zero_le _⟩) hS (fun q h1 h2 => absurd h1 (Nat.not_lt.mpr h2)) (fun q h => hA q (Nat.le_trans hS.1 h)) (fun r u t H1 lc ht hvm hw hB hz1 hk1 hS => ?_)
        replace hw : x13 = r := hw; subst hw
        replace hP := zx_keep hP hk1
        refine lv_istore (lv' := [(4, .int x13), (3, .int x8), (0, .ref h), (1, .int v1), (2, .int v2)]) hx hb dX3_entry_80 hl (by decide) rfl (fun ls hl => ?_)
        refine lv_iload hx hb dX3_entry_82 (lv_at hl 0 rfl) ?_
        refine lv_bipush (v := 24) hx hb dX3_entry_84 (by decide) ?_
        refine lv_icmp_ge (tgt := 94) hx hb dX3_entry_86 (by decide) (fun q15 => ?_) (fun q15 => ?_)
        · replace hM := zx_t q15 hM
          refine lv_aload_n hx hb dX3_entry_94 rfl (lv_at hl 2 rfl) ?_
          refine va_get (D := D) (ci := 3) (v := .ref (ad 9)) (C := RX3) (T := TX3) (N := 20) hx hb hts inlX3 hown hK hP 0 rfl rfl 15 (by decide) (hts _ zw_4_4) (fun _ h9 => h9) rfl dX3_entry_95 ?_
          refine lv_iload hx hb dX3_entry_98 (lv_at hl 0 rfl) ?_
          refine lv_bipush (v := 24) hx hb dX3_entry_100 (by decide) ?_
          refine lv_isub hx hb dX3_entry_102 ?_
          obtain ⟨x16, q17, ex16, hM⟩ := zx_rdE hM
          refine va_iald (D := D) hx hb hK hP 10 0 rfl rfl q17 dX3_entry_103 ?_
          refine zx_top ex16 ?_
          rw [hQ]
          exact W.iret hx hb hr (fun t ht hW => ⟨⟨x16, T6, rfl, (Option.some.inj hM).symm, by show va_P D vwCl _ t.heap; rw [ht]; exact hP⟩, hS.F ht⟩) hS.2.2 dX3_entry_104
        · replace hM := zx_f q15 hM
          refine lv_iload hx hb dX3_entry_89 (lv_at hl 0 rfl) ?_
          refine lv_goto (tgt := 104) hx hb dX3_entry_91 (by decide) ?_
          rw [hQ]
          exact W.iret hx hb hr (fun t ht hW => ⟨⟨x13, T6, rfl, (Option.some.inj hM).symm, by show va_P D vwCl _ t.heap; rw [ht]; exact hP⟩, hS.F ht⟩) hS.2.2 dX3_entry_104
      · replace hM := zx_f q12 hM
        refine lv_iconst (v := (-1)) hx hb dX3_entry_69 (by decide) ?_
        rw [hQ]
        exact W.iret hx hb hr (fun t ht hW => ⟨⟨(-1), T6, rfl, (Option.some.inj hM).symm, by show va_P D vwCl _ t.heap; rw [ht]; exact hP⟩, hS.F ht⟩) hS.2.2 dX3_entry_70
    · replace hM := zx_f q4 hM
      refine lv_iconst (v := 0) hx hb dX3_entry_39 (by decide) ?_
      rw [hQ]
      exact W.iret hx hb hr (fun t ht hW => ⟨⟨0, T2, rfl, (Option.some.inj hM).symm, by show va_P D vwCl _ t.heap; rw [ht]; exact hP⟩, hS.F ht⟩) hS.2.2 dX3_entry_40
  refine lv_aload_n hx hb dX3_entry_0 rfl (lv_at hl 0 rfl) ?_
  refine lv_iload_n hx hb dX3_entry_1 rfl (lv_at hl 1 rfl) ?_
  refine lv_i2l hx hb dX3_entry_2 rfl ?_
  refine lv_lconst (v := 0) hx hb dX3_entry_3 (by decide) ?_
  refine lv_aload_n hx hb dX3_entry_4 rfl (lv_at hl 0 rfl) ?_
  refine va_get (D := D) (ci := 3) (v := .ref (ad 1)) (C := RX3) (T := TX3) (N := 20) hx hb hts inlX3 hown hK hP 0 rfl rfl 3 (by decide) (hts _ zw_3_19) (fun _ h9 => h9) rfl dX3_entry_5 ?_
  obtain ⟨x18, hz19, hM⟩ := zx_b1E hM
  refine va_calli (va_runS (As := [.ref (ad 1)]) (rest := [.long 0, .long (Int32.toInt64 p1), .ref h]) ⟨hx, hb, hml, hown, hts⟩ (c_X3_nodes l D cI cZ cT (ad 1) 380 (S 1) _ N hz19) (va_cwS 1 hts (zg_S zw_14_16 zw_14_17 zw_1_5 zw_14_18) rfl rfl rfl zyX3_nodes ⟨Nat.le_of_ble_eq_true rfl, Nat.le_of_ble_eq_true rfl⟩) ⟨bS_blind, bS_pre (zx_P1 hP 2 (rfl)) hK (zx_D1 hD 2 (rfl)) hN⟩ rfl rfl hl.1 rfl (lv_room (Nat.le_of_ble_eq_true rfl)) dX3_entry_8 ⟨Nat.zero_le _, Nat.zero_le _⟩) hS (fun q h1 h2 => absurd h1 (Nat.not_lt.mpr h2)) (fun q h => hA q (Nat.le_trans hS.1 h)) (fun r u t H1 lc ht hvm hw hB hz1 hk1 hS => ?_)
  replace hw : x18 = r := hw; subst hw
  replace hP := zx_keep hP hk1
  refine lv_iconst (v := 1) hx hb dX3_entry_11 (by decide) ?_
  refine lv_isub hx hb dX3_entry_12 ?_
  refine lv_i2l hx hb dX3_entry_13 rfl ?_
  obtain ⟨x20, hz21, hM⟩ := zx_b1E hM
  refine va_calli (va_runS (As := [.long (Int32.toInt64 p1), .long 0, .long (Int32.toInt64 (x18 - 1))]) (rest := [.ref h]) ⟨hx, hb, hml, hown, hts⟩ (c_X3_in l D cI cZ cT _ N (Int32.toInt64 p1) 0 (Int32.toInt64 (x18 - 1)) hz21) (va_cwS 3 hts (zg_S zw_5_11 zw_5_12 zw_1_5 zw_5_13) rfl rfl rfl zyX3_in ⟨Nat.le_of_ble_eq_true rfl, Nat.le_of_ble_eq_true rfl⟩) ⟨bS_blind, bS_pre (zx_P0 hP) hK (zx_D0 hD) hN⟩ rfl rfl hl.1 rfl (lv_room (Nat.le_of_ble_eq_true rfl)) dX3_entry_14 ⟨Nat.zero_le _, Nat.zero_le _⟩) hS (fun q h1 h2 => absurd h1 (Nat.not_lt.mpr h2)) (fun q h => hA q (Nat.le_trans hS.1 h)) (fun r u t H1 lc ht hvm hw hB hz1 hk1 hS => ?_)
  replace hw : x20 = r := hw; subst hw
  replace hP := zx_keep hP hk1
  refine lv_if_ne (tgt := 24) hx hb dX3_entry_17 (by decide) (fun q22 => ?_) (fun q22 => ?_)
  · replace hM := zx_f q22 hM
    refine lv_iload_n hx hb dX3_entry_24 rfl (lv_at hl 2 rfl) ?_
    refine lv_if_ge (tgt := 32) hx hb dX3_entry_25 (by decide) (fun q23 => ?_) (fun q23 => ?_)
    · replace hM := zx_t q23 hM
      refine lv_iconst (v := 0) hx hb dX3_entry_32 (by decide) ?_
      exact j33 p1 p2 0 S _ _ _ hP hD hS (lv_sub hl [0, 1, 2] rfl) hM
    · replace hM := zx_f q23 hM
      refine lv_iconst (v := 2) hx hb dX3_entry_28 (by decide) ?_
      refine lv_goto (tgt := 33) hx hb dX3_entry_29 (by decide) ?_
      exact j33 p1 p2 2 S _ _ _ hP hD hS (lv_sub hl [0, 1, 2] rfl) hM
  · replace hM := zx_t q22 hM
    refine lv_iconst (v := 1) hx hb dX3_entry_20 (by decide) ?_
    refine lv_goto (tgt := 33) hx hb dX3_entry_21 (by decide) ?_
    exact j33 p1 p2 1 S _ _ _ hP hD hS (lv_sub hl [0, 1, 2] rfl) hM

/-! ShallowBoxesModel.remember()V -/
def f_X3_remember_j50 (N : Nat) (S_ : zx_S) : Option (zx_S) :=
  (zx_b1 (f_X3_copyState N 380 5320 0 (380 * (S_ 12 2)) (S_ 1) (S_ 3)) (fun g1 =>
(zx_n (zx_st S_ 3 g1) (fun T3 =>
(zx_n (zx_st T3 12 (upd (T3 12) 2 ((T3 12 2) + 1))) (fun T4 =>
some T4))))))
def f_X3_remember_l11 (N : Nat) : Nat → Int32 → zx_S → Option (zx_S)
  | 0, _, _ => none
  | n11 + 1, v1, S_ => (if 4940 ≤ v1 then
  (zx_n (zx_st S_ 12 (upd (S_ 12) 2 ((S_ 12 2) - 1))) (fun T7 =>
f_X3_remember_j50 N  T7)) else
  (zx_rd 5320 (S_ 3) (v1 + 380) (fun x8 =>
(zx_wr 5320 v1 (zx_st S_ 3 (upd (S_ 3) (Int32.toNatClampNeg v1) x8)) (fun T10 =>
(zx_n (v1 + 1) (fun x12 =>
f_X3_remember_l11 N  n11 x12 T10)))))))
def f_X3_remember (N : Nat) (S : zx_S) : Option (zx_S) :=
  (if (S 12 2) = 14 then
  f_X3_remember_l11 N  N 0 S else
  f_X3_remember_j50 N  S)
abbrev rmX3_remember : Room := { frames := 1, cells := 0, slots := 0, locals := 24 }
abbrev zsX3_remember : List Cond := .code yX3_remember cX3_remember 2 none :: wsL_law
theorem zyX3_remember : yX3_remember.cls ≠ "java/lang/invoke/MethodHandle" ∧ yX3_remember.cls ≠ "java/lang/invoke/VarHandle" ∧ (parseMethodDescriptor yX3_remember.desc).map (fun d => d.parameters.length) = some 0 := by decide +kernel
set_option maxHeartbeats 4000000 in
set_option maxRecDepth 100000 in
theorem c_X3_remember (l : Launch) (D : va_G) (cI cZ cT : ClassId) (h : Nat) (ad : Nat → Nat) (S : zx_S) (sz : Nat) (N : Nat) {R : zx_S} (hM : f_X3_remember N S = some R) : Met l yX3_remember zsX3_remember rmX3_remember (va_Pc [.ref h] (bS D (zx_ty cI cZ cT) (xW3 cI cZ h ad S) sz)) (va_Qv (fun u => R = u) (fun u t => va_P D vwCl (xW3 cI cZ h ad u) t.heap) (va_A (xW3 cI cZ h ad S) sz)) 0 0 (va_A (xW3 cI cZ h ad S) sz) := by
  refine Met.ofW (cc := cX3_remember) (maxL := 2) (ret := none) (by decide) rfl ?_
  intro p e s m args below meth c s₁ B hml hv
  obtain ⟨rfl, hsz, hP, hK, hD0, hN⟩ := hv
  have hx := B.exec
  have hb := B.bytes
  have hr := B.returns
  have hts : ∀ w ∈ wsL_law, w.before _ s = true := fun w hw => atoms_spec (ws := zsX3_remember) B.pre w (List.mem_cons_of_mem _ hw)
  have hown : s.vm.findClass RX3 = some m.cls := findClass_of_methodNamed B.named
  have hlocks := B.notSynchronized
  subst hsz
  have hD := hD0.self (sz := s.heap.size)
  generalize hAe : va_A (xW3 cI cZ h ad S) s.heap.size = A at hD ⊢
  have hA : ∀ q : Nat, s.heap.size ≤ q → A q := fun q h => by rw [← hAe]; exact Or.inr h
  have hS : va_S A s.heap s.heap [] := va_S.rf
  have hl := lv_entry ([.ref h]) (n := 2) (Nat.le_of_ble_eq_true rfl)
  rw [lg_entry_eq]
  generalize (lg_sl ([.ref h]) ++ List.replicate (2 - (lg_sl ([.ref h])).length) Slot.unset).toArray = ls at hl ⊢
  have hl : lv_has ls 2 [(0, .ref h)] := hl
  generalize hQ : MQ below (va_Qv (fun u => R = u) (fun u t => va_P D vwCl (xW3 cI cZ h ad u) t.heap) A) ([.ref h] : List Value).toArray s 0 0 A = Q9
  replace hQ := hQ.symm
  unfold f_X3_remember at hM
  have j50 : ∀ (S_ : zx_S) (H : Heap) (lc : List Loc) (ls : Array Slot), va_P D vwCl (xW3 cI cZ h ad S_) H → va_D A (xW3 cI cZ h ad S_) → va_S A s.heap H lc → lv_has ls 2 [(0, .ref h)] → f_X3_remember_j50 N S_ = some R → W p l e (headSpec zsX3_remember rmX3_remember).room s m ([.ref h] : List Value).toArray below meth c H lc 0 0 Q9 (F0 m 50 ls []) := by
    intro S_ H lc ls hP hD hS hl hM
    unfold f_X3_remember_j50 at hM
    refine lv_aload_n hx hb dX3_remember_50 rfl (lv_at hl 0 rfl) ?_
    refine va_get (D := D) (ci := 3) (v := .ref (ad 1)) (C := RX3) (T := TX3) (N := 20) hx hb hts inlX3 hown hK hP 0 rfl rfl 3 (by decide) (hts _ zw_3_19) (fun _ h9 => h9) rfl dX3_remember_51 ?_
    refine lv_iconst (v := 0) hx hb dX3_remember_54 (by decide) ?_
    refine lv_aload_n hx hb dX3_remember_55 rfl (lv_at hl 0 rfl) ?_
    refine va_get (D := D) (ci := 3) (v := .ref (ad 3)) (C := RX3) (T := TX3) (N := 20) hx hb hts inlX3 hown hK hP 0 rfl rfl 5 (by decide) (hts _ zw_3_21) (fun _ h9 => h9) rfl dX3_remember_56 ?_
    refine lv_sipush (v := 380) hx hb dX3_remember_59 (by decide) ?_
    refine lv_aload_n hx hb dX3_remember_62 rfl (lv_at hl 0 rfl) ?_
    refine va_get (D := D) (ci := 3) (v := .int (S_ 12 2)) (C := RX3) (T := TX3) (N := 20) hx hb hts inlX3 hown hK hP 0 rfl rfl 6 (by decide) (hts _ zw_23_3) (fun _ h9 => h9) rfl dX3_remember_63 ?_
    refine lv_imul hx hb dX3_remember_66 ?_
    obtain ⟨g1, hz2, hM⟩ := zx_b1E hM
    refine va_callv (va_runS (As := [.ref (ad 1), .int 0, .ref (ad 3), .int (380 * (S_ 12 2))]) (rest := []) ⟨hx, hb, hml, hown, hts⟩ (c_X3_copyState l D cI cZ cT (ad 1) 380 (S_ 1) (ad 3) 5320 (S_ 3) _ N 0 (380 * (S_ 12 2)) hz2) (va_cwS 4 hts (zg_S zw_23_4 zw_23_5 zw_1_5 zw_23_6) rfl rfl rfl zyX3_copyState ⟨Nat.le_of_ble_eq_true rfl, Nat.le_of_ble_eq_true rfl⟩) ⟨bS_blind, bS_pre (zx_P2 hP 2 4 (rfl) (rfl)) hK (zx_D2 hD 2 4 (rfl) (rfl) (by decide)) hN⟩ rfl rfl hl.1 rfl (lv_room (Nat.le_of_ble_eq_true rfl)) dX3_remember_67 ⟨Nat.zero_le _, Nat.zero_le _⟩) hS (fun q _ h => zx_f2 hD hS hA (k := 2) (j := 4) rfl rfl q h) (fun q h => zx_f2 hD hS hA (k := 2) (j := 4) rfl rfl q h) (fun u t H1 lc ht hvm hw hB hz1 hk1 hS => ?_)
    replace hw : g1 = u := hw; subst hw
    rw [ht] at hB
    replace hP := zx_set2 (k := 4) (j := 2) (by decide) hP hD rfl rfl hk1 hB
    replace hD := va_D.set (p := 4) (e := .inl (cI, 5320, .inl g1)) hD rfl
    rw [xW3_pa3] at hP hD
    obtain ⟨T3, eT3, hM⟩ := zx_nE hM
    rw [← eT3] at hP hD
    refine lv_aload_n hx hb dX3_remember_70 rfl (lv_at hl 0 rfl) ?_
    refine lv_dup hx hb dX3_remember_71 rfl ?_
    refine va_get (D := D) (ci := 3) (v := .int (T3 12 2)) (C := RX3) (T := TX3) (N := 20) hx hb hts inlX3 hown hK hP 0 rfl rfl 6 (by decide) (hts _ zw_23_3) (fun _ h9 => h9) rfl dX3_remember_72 ?_
    refine lv_iconst (v := 1) hx hb dX3_remember_75 (by decide) ?_
    refine lv_iadd hx hb dX3_remember_76 ?_
    obtain ⟨T4, eT4, hM⟩ := zx_nE hM
    refine va_put (D := D) (ci := 3) (v := .int ((T3 12 2) + 1)) (ty := .int) (C := RX3) (T := TX3) (N := 20) hx hb hts inlX3 tyX3 tyX3_ok nmX3 hown hK hP hD hS 0 rfl rfl 6 (by decide) (hts _ zw_23_3) (fun _ h9 => h9) rfl (by decide +kernel) rfl rfl (Nat.le_of_ble_eq_true rfl) dX3_remember_77 (fun H lc hP hD hS => ?_)
    replace hP : va_P D vwCl (xW3 cI cZ h ad T4) H := by rw [eT4]; exact hP
    replace hD : va_D A (xW3 cI cZ h ad T4) := by rw [eT4]; exact hD
    rw [hQ]
    exact W.vret hx hb hr (fun t ht hW => ⟨⟨T4, rfl, (Option.some.inj hM).symm, by show va_P D vwCl _ t.heap; rw [ht]; exact hP⟩, hS.F ht⟩) hS.2.2 dX3_remember_80
  refine lv_aload_n hx hb dX3_remember_0 rfl (lv_at hl 0 rfl) ?_
  refine va_get (D := D) (ci := 3) (v := .int (S 12 2)) (C := RX3) (T := TX3) (N := 20) hx hb hts inlX3 hown hK hP 0 rfl rfl 6 (by decide) (hts _ zw_23_3) (fun _ h9 => h9) rfl dX3_remember_1 ?_
  refine lv_bipush (v := 14) hx hb dX3_remember_4 (by decide) ?_
  refine lv_icmp_ne (tgt := 50) hx hb dX3_remember_6 (by decide) (fun q5 => ?_) (fun q5 => ?_)
  · replace hM := zx_f q5 hM
    exact j50 S _ _ _ hP hD hS (lv_sub hl [0] rfl) hM
  · replace hM := zx_t q5 hM
    have l11 : ∀ (n11 : Nat) (v1 : Int32) (S_ : zx_S) (H : Heap) (lc : List Loc) (ls : Array Slot), va_P D vwCl (xW3 cI cZ h ad S_) H → va_D A (xW3 cI cZ h ad S_) → va_S A s.heap H lc → lv_has ls 2 [(0, .ref h), (1, .int v1)] → f_X3_remember_l11 N n11 v1 S_ = some R → W p l e (headSpec zsX3_remember rmX3_remember).room s m ([.ref h] : List Value).toArray below meth c H lc 0 0 Q9 (F0 m 11 ls []) := by
      intro n11
      induction n11 with
      | zero =>
        intro v1 S_ H lc ls hP hD hS hl hM
        rw [f_X3_remember_l11] at hM; exact absurd hM (by intro h; cases h)
      | succ n11 ih11 =>
        intro v1 S_ H lc ls hP hD hS hl hM
        rw [f_X3_remember_l11] at hM
        refine lv_iload_n hx hb dX3_remember_11 rfl (lv_at hl 1 rfl) ?_
        refine lv_sipush (v := 4940) hx hb dX3_remember_12 (by decide) ?_
        refine lv_icmp_ge (tgt := 40) hx hb dX3_remember_15 (by decide) (fun q6 => ?_) (fun q6 => ?_)
        · replace hM := zx_t q6 hM
          refine lv_aload_n hx hb dX3_remember_40 rfl (lv_at hl 0 rfl) ?_
          refine lv_dup hx hb dX3_remember_41 rfl ?_
          refine va_get (D := D) (ci := 3) (v := .int (S_ 12 2)) (C := RX3) (T := TX3) (N := 20) hx hb hts inlX3 hown hK hP 0 rfl rfl 6 (by decide) (hts _ zw_23_3) (fun _ h9 => h9) rfl dX3_remember_42 ?_
          refine lv_iconst (v := 1) hx hb dX3_remember_45 (by decide) ?_
          refine lv_isub hx hb dX3_remember_46 ?_
          obtain ⟨T7, eT7, hM⟩ := zx_nE hM
          refine va_put (D := D) (ci := 3) (v := .int ((S_ 12 2) - 1)) (ty := .int) (C := RX3) (T := TX3) (N := 20) hx hb hts inlX3 tyX3 tyX3_ok nmX3 hown hK hP hD hS 0 rfl rfl 6 (by decide) (hts _ zw_23_3) (fun _ h9 => h9) rfl (by decide +kernel) rfl rfl (Nat.le_of_ble_eq_true rfl) dX3_remember_47 (fun H lc hP hD hS => ?_)
          replace hP : va_P D vwCl (xW3 cI cZ h ad T7) H := by rw [eT7]; exact hP
          replace hD : va_D A (xW3 cI cZ h ad T7) := by rw [eT7]; exact hD
          exact j50 T7 _ _ _ hP hD hS (lv_sub hl [0] rfl) hM
        · replace hM := zx_f q6 hM
          refine lv_aload_n hx hb dX3_remember_18 rfl (lv_at hl 0 rfl) ?_
          refine va_get (D := D) (ci := 3) (v := .ref (ad 3)) (C := RX3) (T := TX3) (N := 20) hx hb hts inlX3 hown hK hP 0 rfl rfl 5 (by decide) (hts _ zw_3_21) (fun _ h9 => h9) rfl dX3_remember_19 ?_
          refine lv_iload_n hx hb dX3_remember_22 rfl (lv_at hl 1 rfl) ?_
          refine lv_aload_n hx hb dX3_remember_23 rfl (lv_at hl 0 rfl) ?_
          refine va_get (D := D) (ci := 3) (v := .ref (ad 3)) (C := RX3) (T := TX3) (N := 20) hx hb hts inlX3 hown hK hP 0 rfl rfl 5 (by decide) (hts _ zw_3_21) (fun _ h9 => h9) rfl dX3_remember_24 ?_
          refine lv_iload_n hx hb dX3_remember_27 rfl (lv_at hl 1 rfl) ?_
          refine lv_sipush (v := 380) hx hb dX3_remember_28 (by decide) ?_
          refine lv_iadd hx hb dX3_remember_31 ?_
          obtain ⟨x8, q9, ex8, hM⟩ := zx_rdE hM
          refine va_iald (D := D) hx hb hK hP 4 0 rfl rfl q9 dX3_remember_32 ?_
          refine zx_top ex8 ?_
          obtain ⟨T10, q11, eT10, hM⟩ := zx_wrE hM
          refine va_iast (D := D) hx hb hK hP hD hS 4 0 rfl rfl q11 dX3_remember_33 (fun H lc hP hD hS => ?_)
          rw [xW3_pa3] at hP hD
          rw [← eT10] at hP hD
          obtain ⟨x12, ex12, hM⟩ := zx_nE hM
          refine lv_iinc (v := x12) (lv' := [(1, .int x12), (0, .ref h)]) hx hb dX3_remember_34 hl (k := 1) rfl (by rw [ex12]; rfl) (by decide) rfl (fun ls hl => ?_)
          refine lv_goto (tgt := 11) hx hb dX3_remember_37 (by decide) ?_
          exact ih11 x12 T10 _ _ _ hP hD hS (lv_sub hl [1, 0] rfl) hM
    refine lv_iconst (v := 0) hx hb dX3_remember_9 (by decide) ?_
    refine lv_istore_n (lv' := [(1, .int 0), (0, .ref h)]) hx hb dX3_remember_10 rfl hl (by decide) rfl (fun ls hl => ?_)
    exact l11 N 0 S _ _ _ hP hD hS (lv_sub hl [1, 0] rfl) hM

/-! ShallowBoxesModel.add(IIII)I -/
def f_X3_add_j33 (N : Nat) (v1 : Int32) (v2 : Int32) (v3 : Int32) (v4 : Int32) (t1 : Int32) (S_ : zx_S) : Option (Int32 × zx_S) :=
  (zx_b2 (f_X3_refused N t1 S_) (fun x1 T2 =>
(if x1 = 0 then
  (zx_b1 (f_X3_remember N T2) (fun T5 =>
(zx_n (zx_st T5 12 (upd (T5 12) 3 0)) (fun T7 =>
(zx_b2 (f_X3_addOn N 1 v1 v2 v3 v4 T7) (fun x8 T9 =>
some (x8, T9))))))) else
  some (0, T2))))
def f_X3_add (N : Nat) (p1 : Int32) (p2 : Int32) (p3 : Int32) (p4 : Int32) (S : zx_S) : Option (Int32 × zx_S) :=
  (zx_b1 (f_X3_isRectangle N p1 p2 p3 p4) (fun x11 =>
(if x11 = 0 then
  f_X3_add_j33 N  p1 p2 p3 p4 1 S else
  (zx_b1 (f_X3_count N 380 (S 1)) (fun x14 =>
(if x14 = 24 then
  f_X3_add_j33 N  p1 p2 p3 p4 2 S else
  f_X3_add_j33 N  p1 p2 p3 p4 0 S))))))
abbrev rmX3_add : Room := { frames := 8, cells := 0, slots := 0, locals := 195 }
abbrev zsX3_add : List Cond := .code yX3_add cX3_add 5 (some .int) :: wsL_law
theorem zyX3_add : yX3_add.cls ≠ "java/lang/invoke/MethodHandle" ∧ yX3_add.cls ≠ "java/lang/invoke/VarHandle" ∧ (parseMethodDescriptor yX3_add.desc).map (fun d => d.parameters.length) = some 4 := by decide +kernel
set_option maxHeartbeats 4000000 in
set_option maxRecDepth 100000 in
theorem c_X3_add (l : Launch) (D : va_G) (cI cZ cT : ClassId) (h : Nat) (ad : Nat → Nat) (S : zx_S) (sz : Nat) (N : Nat) (p1 : Int32) (p2 : Int32) (p3 : Int32) (p4 : Int32) {R : Int32 × zx_S} (hM : f_X3_add N p1 p2 p3 p4 S = some R) : Met l yX3_add zsX3_add rmX3_add (va_Pc [.ref h, .int p1, .int p2, .int p3, .int p4] (bS D (zx_ty cI cZ cT) (xW3 cI cZ h ad S) sz)) (va_Qi (fun r u => R = (r, u)) (fun u t => va_P D vwCl (xW3 cI cZ h ad u) t.heap) (va_A (xW3 cI cZ h ad S) sz)) 0 0 (va_A (xW3 cI cZ h ad S) sz) := by
  refine Met.ofW (cc := cX3_add) (maxL := 5) (ret := (some .int)) (by decide) rfl ?_
  intro p e s m args below meth c s₁ B hml hv
  obtain ⟨rfl, hsz, hP, hK, hD0, hN⟩ := hv
  have hx := B.exec
  have hb := B.bytes
  have hr := B.returns
  have hts : ∀ w ∈ wsL_law, w.before _ s = true := fun w hw => atoms_spec (ws := zsX3_add) B.pre w (List.mem_cons_of_mem _ hw)
  have hown : s.vm.findClass RX3 = some m.cls := findClass_of_methodNamed B.named
  have hlocks := B.notSynchronized
  subst hsz
  have hD := hD0.self (sz := s.heap.size)
  generalize hAe : va_A (xW3 cI cZ h ad S) s.heap.size = A at hD ⊢
  have hA : ∀ q : Nat, s.heap.size ≤ q → A q := fun q h => by rw [← hAe]; exact Or.inr h
  have hS : va_S A s.heap s.heap [] := va_S.rf
  have hl := lv_entry ([.ref h, .int p1, .int p2, .int p3, .int p4]) (n := 5) (Nat.le_of_ble_eq_true rfl)
  rw [lg_entry_eq]
  generalize (lg_sl ([.ref h, .int p1, .int p2, .int p3, .int p4]) ++ List.replicate (5 - (lg_sl ([.ref h, .int p1, .int p2, .int p3, .int p4])).length) Slot.unset).toArray = ls at hl ⊢
  have hl : lv_has ls 5 [(0, .ref h), (1, .int p1), (2, .int p2), (3, .int p3), (4, .int p4)] := hl
  generalize hQ : MQ below (va_Qi (fun r u => R = (r, u)) (fun u t => va_P D vwCl (xW3 cI cZ h ad u) t.heap) A) ([.ref h, .int p1, .int p2, .int p3, .int p4] : List Value).toArray s 0 0 A = Q9
  replace hQ := hQ.symm
  unfold f_X3_add at hM
  have j33 : ∀ (v1 : Int32) (v2 : Int32) (v3 : Int32) (v4 : Int32) (t1 : Int32) (S_ : zx_S) (H : Heap) (lc : List Loc) (ls : Array Slot), va_P D vwCl (xW3 cI cZ h ad S_) H → va_D A (xW3 cI cZ h ad S_) → va_S A s.heap H lc → lv_has ls 5 [(0, .ref h), (1, .int v1), (2, .int v2), (3, .int v3), (4, .int v4)] → f_X3_add_j33 N v1 v2 v3 v4 t1 S_ = some R → W p l e (headSpec zsX3_add rmX3_add).room s m ([.ref h, .int p1, .int p2, .int p3, .int p4] : List Value).toArray below meth c H lc 0 0 Q9 (F0 m 33 ls [.int t1, .ref h]) := by
    intro v1 v2 v3 v4 t1 S_ H lc ls hP hD hS hl hM
    unfold f_X3_add_j33 at hM
    obtain ⟨x1, T2, hz3, hM⟩ := zx_b2E hM
    refine va_calli (va_runV (As := [.int t1]) (rest := []) ⟨hx, hb, hml, hown, hts⟩ (c_X3_refused l D cI cZ cT h ad S_ _ N t1  hz3) (cwV 1 hts (zg_V zw_5_14 zw_5_15 zw_5_16 zw_1_5 zw_5_17) rfl rfl rfl ⟨rfl, zyX3_refused⟩ ⟨Nat.le_of_ble_eq_true rfl, Nat.le_of_ble_eq_true rfl⟩) ⟨bS_blind, va_recv hK hP (ci := 3) (q0 := 0) rfl rfl, bS_pre hP hK hD hN⟩ rfl rfl hl.1 rfl (lv_room (Nat.le_of_ble_eq_true rfl)) dX3_add_33 ⟨Nat.zero_le _, Nat.zero_le _⟩) hS (fun q _ h => zx_fW hD hS hA q h) (fun q h => zx_fW hD hS hA q h) (fun r u t H1 lc ht hvm hw hB hz1 hk1 hS => ?_)
    obtain ⟨hw1, hw2⟩ := Prod.mk.inj hw; subst hw1; subst hw2
    rw [ht] at hB
    replace hP := hB
    replace hD := xW3_D T2 hD
    refine lv_if_eq (tgt := 41) hx hb dX3_add_36 (by decide) (fun q4 => ?_) (fun q4 => ?_)
    · replace hM := zx_t q4 hM
      refine lv_aload_n hx hb dX3_add_41 rfl (lv_at hl 0 rfl) ?_
      obtain ⟨T5, hz6, hM⟩ := zx_b1E hM
      refine va_callv (va_runV (As := []) (rest := []) ⟨hx, hb, hml, hown, hts⟩ (c_X3_remember l D cI cZ cT h ad T2 _ N  hz6) (cwV 0 hts (zg_V zw_22_23 zw_23_0 zw_23_1 zw_1_5 zw_23_2) rfl rfl rfl ⟨rfl, zyX3_remember⟩ ⟨Nat.le_of_ble_eq_true rfl, Nat.le_of_ble_eq_true rfl⟩) ⟨bS_blind, va_recv hK hP (ci := 3) (q0 := 0) rfl rfl, bS_pre hP hK hD hN⟩ rfl rfl hl.1 rfl (lv_room (Nat.le_of_ble_eq_true rfl)) dX3_add_42 ⟨Nat.zero_le _, Nat.zero_le _⟩) hS (fun q _ h => zx_fW hD hS hA q h) (fun q h => zx_fW hD hS hA q h) (fun u t H1 lc ht hvm hw hB hz1 hk1 hS => ?_)
      replace hw : T5 = u := hw; subst hw
      rw [ht] at hB
      replace hP := hB
      replace hD := xW3_D T5 hD
      refine lv_aload_n hx hb dX3_add_45 rfl (lv_at hl 0 rfl) ?_
      refine lv_iconst (v := 0) hx hb dX3_add_46 (by decide) ?_
      obtain ⟨T7, eT7, hM⟩ := zx_nE hM
      refine va_put (D := D) (ci := 3) (v := .int 0) (ty := .int) (C := RX3) (T := TX3) (N := 20) hx hb hts inlX3 tyX3 tyX3_ok nmX3 hown hK hP hD hS 0 rfl rfl 10 (by decide) (hts _ zw_10_20) (fun _ h9 => h9) rfl (by decide +kernel) rfl rfl (Nat.le_of_ble_eq_true rfl) dX3_add_47 (fun H lc hP hD hS => ?_)
      replace hP : va_P D vwCl (xW3 cI cZ h ad T7) H := by rw [eT7]; exact hP
      replace hD : va_D A (xW3 cI cZ h ad T7) := by rw [eT7]; exact hD
      refine lv_aload_n hx hb dX3_add_50 rfl (lv_at hl 0 rfl) ?_
      refine lv_aload_n hx hb dX3_add_51 rfl (lv_at hl 0 rfl) ?_
      refine va_get (D := D) (ci := 3) (v := .ref (ad 1)) (C := RX3) (T := TX3) (N := 20) hx hb hts inlX3 hown hK hP 0 rfl rfl 3 (by decide) (hts _ zw_3_19) (fun _ h9 => h9) rfl dX3_add_52 ?_
      refine lv_iload_n hx hb dX3_add_55 rfl (lv_at hl 1 rfl) ?_
      refine lv_iload_n hx hb dX3_add_56 rfl (lv_at hl 2 rfl) ?_
      refine lv_iload_n hx hb dX3_add_57 rfl (lv_at hl 3 rfl) ?_
      refine lv_iload hx hb dX3_add_58 (lv_at hl 4 rfl) ?_
      obtain ⟨x8, T9, hz10, hM⟩ := zx_b2E hM
      refine va_calli (va_runV (As := [.ref (ad 1), .int v1, .int v2, .int v3, .int v4]) (rest := []) ⟨hx, hb, hml, hown, hts⟩ (c_X3_addOn l D cI cZ cT h ad T7 _ N 1 (Or.inl rfl) v1 v2 v3 v4  hz10) (cwV 5 hts (zg_V zw_8_10 zw_8_11 zw_8_12 zw_1_5 zw_8_13) rfl rfl rfl ⟨rfl, zyX3_addOn⟩ ⟨Nat.le_of_ble_eq_true rfl, Nat.le_of_ble_eq_true rfl⟩) ⟨bS_blind, va_recv hK hP (ci := 3) (q0 := 0) rfl rfl, bS_pre hP hK hD hN⟩ rfl rfl hl.1 rfl (lv_room (Nat.le_of_ble_eq_true rfl)) dX3_add_60 ⟨Nat.zero_le _, Nat.zero_le _⟩) hS (fun q _ h => zx_fW hD hS hA q h) (fun q h => zx_fW hD hS hA q h) (fun r u t H1 lc ht hvm hw hB hz1 hk1 hS => ?_)
      obtain ⟨hw1, hw2⟩ := Prod.mk.inj hw; subst hw1; subst hw2
      rw [ht] at hB
      replace hP := hB
      replace hD := xW3_D T9 hD
      rw [hQ]
      exact W.iret hx hb hr (fun t ht hW => ⟨⟨x8, T9, rfl, (Option.some.inj hM).symm, by show va_P D vwCl _ t.heap; rw [ht]; exact hP⟩, hS.F ht⟩) hS.2.2 dX3_add_63
    · replace hM := zx_f q4 hM
      refine lv_iconst (v := 0) hx hb dX3_add_39 (by decide) ?_
      rw [hQ]
      exact W.iret hx hb hr (fun t ht hW => ⟨⟨0, T2, rfl, (Option.some.inj hM).symm, by show va_P D vwCl _ t.heap; rw [ht]; exact hP⟩, hS.F ht⟩) hS.2.2 dX3_add_40
  refine lv_aload_n hx hb dX3_add_0 rfl (lv_at hl 0 rfl) ?_
  refine lv_iload_n hx hb dX3_add_1 rfl (lv_at hl 1 rfl) ?_
  refine lv_iload_n hx hb dX3_add_2 rfl (lv_at hl 2 rfl) ?_
  refine lv_iload_n hx hb dX3_add_3 rfl (lv_at hl 3 rfl) ?_
  refine lv_iload hx hb dX3_add_4 (lv_at hl 4 rfl) ?_
  obtain ⟨x11, hz12, hM⟩ := zx_b1E hM
  refine va_calli (va_runS (As := [.int p1, .int p2, .int p3, .int p4]) (rest := [.ref h]) ⟨hx, hb, hml, hown, hts⟩ (c_X3_isRectangle l D cI cZ cT _ N p1 p2 p3 p4 hz12) (va_cwS 4 hts (zg_S zw_22_19 zw_22_20 zw_1_5 zw_22_21) rfl rfl rfl zyX3_isRectangle ⟨Nat.le_of_ble_eq_true rfl, Nat.le_of_ble_eq_true rfl⟩) ⟨bS_blind, bS_pre (zx_P0 hP) hK (zx_D0 hD) hN⟩ rfl rfl hl.1 rfl (lv_room (Nat.le_of_ble_eq_true rfl)) dX3_add_6 ⟨Nat.zero_le _, Nat.zero_le _⟩) hS (fun q h1 h2 => absurd h1 (Nat.not_lt.mpr h2)) (fun q h => hA q (Nat.le_trans hS.1 h)) (fun r u t H1 lc ht hvm hw hB hz1 hk1 hS => ?_)
  replace hw : x11 = r := hw; subst hw
  replace hP := zx_keep hP hk1
  refine lv_if_ne (tgt := 16) hx hb dX3_add_9 (by decide) (fun q13 => ?_) (fun q13 => ?_)
  · replace hM := zx_f q13 hM
    refine lv_aload_n hx hb dX3_add_16 rfl (lv_at hl 0 rfl) ?_
    refine va_get (D := D) (ci := 3) (v := .ref (ad 1)) (C := RX3) (T := TX3) (N := 20) hx hb hts inlX3 hown hK hP 0 rfl rfl 3 (by decide) (hts _ zw_3_19) (fun _ h9 => h9) rfl dX3_add_17 ?_
    obtain ⟨x14, hz15, hM⟩ := zx_b1E hM
    refine va_calli (va_runS (As := [.ref (ad 1)]) (rest := [.ref h]) ⟨hx, hb, hml, hown, hts⟩ (c_X3_count l D cI cZ cT (ad 1) 380 (S 1) _ N hz15) (va_cwS 1 hts (zg_S zw_14_13 zw_14_14 zw_1_5 zw_14_15) rfl rfl rfl zyX3_count ⟨Nat.le_of_ble_eq_true rfl, Nat.le_of_ble_eq_true rfl⟩) ⟨bS_blind, bS_pre (zx_P1 hP 2 (rfl)) hK (zx_D1 hD 2 (rfl)) hN⟩ rfl rfl hl.1 rfl (lv_room (Nat.le_of_ble_eq_true rfl)) dX3_add_20 ⟨Nat.zero_le _, Nat.zero_le _⟩) hS (fun q h1 h2 => absurd h1 (Nat.not_lt.mpr h2)) (fun q h => hA q (Nat.le_trans hS.1 h)) (fun r u t H1 lc ht hvm hw hB hz1 hk1 hS => ?_)
    replace hw : x14 = r := hw; subst hw
    replace hP := zx_keep hP hk1
    refine lv_bipush (v := 24) hx hb dX3_add_23 (by decide) ?_
    refine lv_icmp_ne (tgt := 32) hx hb dX3_add_25 (by decide) (fun q16 => ?_) (fun q16 => ?_)
    · replace hM := zx_f q16 hM
      refine lv_iconst (v := 0) hx hb dX3_add_32 (by decide) ?_
      exact j33 p1 p2 p3 p4 0 S _ _ _ hP hD hS (lv_sub hl [0, 1, 2, 3, 4] rfl) hM
    · replace hM := zx_t q16 hM
      refine lv_iconst (v := 2) hx hb dX3_add_28 (by decide) ?_
      refine lv_goto (tgt := 33) hx hb dX3_add_29 (by decide) ?_
      exact j33 p1 p2 p3 p4 2 S _ _ _ hP hD hS (lv_sub hl [0, 1, 2, 3, 4] rfl) hM
  · replace hM := zx_t q13 hM
    refine lv_iconst (v := 1) hx hb dX3_add_12 (by decide) ?_
    refine lv_goto (tgt := 33) hx hb dX3_add_13 (by decide) ?_
    exact j33 p1 p2 p3 p4 1 S _ _ _ hP hD hS (lv_sub hl [0, 1, 2, 3, 4] rfl) hM

/-! ShallowBoxesModel.addAll()I -/
def f_X3_addAll_j36 (N : Nat) (t1 : Int32) (S_ : zx_S) : Option (Int32 × zx_S) :=
  (zx_b2 (f_X3_refused N t1 S_) (fun x1 T2 =>
(if x1 = 0 then
  (zx_b1 (f_X3_remember N T2) (fun T5 =>
(zx_n (zx_st T5 12 (upd (T5 12) 3 0)) (fun T7 =>
(zx_b2 (f_X3_readText N 1 1 T7) (fun x8 T9 =>
(zx_b1 (f_X3_count N 380 (T9 1)) (fun x11 =>
some (x11, T9))))))))) else
  some (0, T2))))
def f_X3_addAll_j35 (N : Nat) (S_ : zx_S) : Option (Int32 × zx_S) :=
  f_X3_addAll_j36 N  1 S_
def f_X3_addAll (N : Nat) (S : zx_S) : Option (Int32 × zx_S) :=
  (zx_b2 (f_X3_readText N 1 0 S) (fun x13 T14 =>
(if x13 = (-1) then
  (zx_b1 (f_X3_count N 380 (T14 1)) (fun x17 =>
(if 24 < (x17 + (T14 12 7)) then
  f_X3_addAll_j35 N  T14 else
  f_X3_addAll_j36 N  0 T14))) else
  f_X3_addAll_j35 N  T14)))
abbrev rmX3_addAll : Room := { frames := 10, cells := 0, slots := 0, locals := 244 }
abbrev zsX3_addAll : List Cond := .code yX3_addAll cX3_addAll 1 (some .int) :: wsL_law
theorem zyX3_addAll : yX3_addAll.cls ≠ "java/lang/invoke/MethodHandle" ∧ yX3_addAll.cls ≠ "java/lang/invoke/VarHandle" ∧ (parseMethodDescriptor yX3_addAll.desc).map (fun d => d.parameters.length) = some 0 := by decide +kernel
set_option maxHeartbeats 4000000 in
set_option maxRecDepth 100000 in
theorem c_X3_addAll (l : Launch) (D : va_G) (cI cZ cT : ClassId) (h : Nat) (ad : Nat → Nat) (S : zx_S) (sz : Nat) (N : Nat) {R : Int32 × zx_S} (hM : f_X3_addAll N S = some R) : Met l yX3_addAll zsX3_addAll rmX3_addAll (va_Pc [.ref h] (bS D (zx_ty cI cZ cT) (xW3 cI cZ h ad S) sz)) (va_Qi (fun r u => R = (r, u)) (fun u t => va_P D vwCl (xW3 cI cZ h ad u) t.heap) (va_A (xW3 cI cZ h ad S) sz)) 0 0 (va_A (xW3 cI cZ h ad S) sz) := by
  refine Met.ofW (cc := cX3_addAll) (maxL := 1) (ret := (some .int)) (by decide) rfl ?_
  intro p e s m args below meth c s₁ B hml hv
  obtain ⟨rfl, hsz, hP, hK, hD0, hN⟩ := hv
  have hx := B.exec
  have hb := B.bytes
  have hr := B.returns
  have hts : ∀ w ∈ wsL_law, w.before _ s = true := fun w hw => atoms_spec (ws := zsX3_addAll) B.pre w (List.mem_cons_of_mem _ hw)
  have hown : s.vm.findClass RX3 = some m.cls := findClass_of_methodNamed B.named
  have hlocks := B.notSynchronized
  subst hsz
  have hD := hD0.self (sz := s.heap.size)
  generalize hAe : va_A (xW3 cI cZ h ad S) s.heap.size = A at hD ⊢
  have hA : ∀ q : Nat, s.heap.size ≤ q → A q := fun q h => by rw [← hAe]; exact Or.inr h
  have hS : va_S A s.heap s.heap [] := va_S.rf
  have hl := lv_entry ([.ref h]) (n := 1) (Nat.le_of_ble_eq_true rfl)
  rw [lg_entry_eq]
  generalize (lg_sl ([.ref h]) ++ List.replicate (1 - (lg_sl ([.ref h])).length) Slot.unset).toArray = ls at hl ⊢
  have hl : lv_has ls 1 [(0, .ref h)] := hl
  generalize hQ : MQ below (va_Qi (fun r u => R = (r, u)) (fun u t => va_P D vwCl (xW3 cI cZ h ad u) t.heap) A) ([.ref h] : List Value).toArray s 0 0 A = Q9
  replace hQ := hQ.symm
  unfold f_X3_addAll at hM
  have j36 : ∀ (t1 : Int32) (S_ : zx_S) (H : Heap) (lc : List Loc) (ls : Array Slot), va_P D vwCl (xW3 cI cZ h ad S_) H → va_D A (xW3 cI cZ h ad S_) → va_S A s.heap H lc → lv_has ls 1 [(0, .ref h)] → f_X3_addAll_j36 N t1 S_ = some R → W p l e (headSpec zsX3_addAll rmX3_addAll).room s m ([.ref h] : List Value).toArray below meth c H lc 0 0 Q9 (F0 m 36 ls [.int t1, .ref h]) := by
    intro t1 S_ H lc ls hP hD hS hl hM
    unfold f_X3_addAll_j36 at hM
    obtain ⟨x1, T2, hz3, hM⟩ := zx_b2E hM
    refine va_calli (va_runV (As := [.int t1]) (rest := []) ⟨hx, hb, hml, hown, hts⟩ (c_X3_refused l D cI cZ cT h ad S_ _ N t1  hz3) (cwV 1 hts (zg_V zw_5_14 zw_5_15 zw_5_16 zw_1_5 zw_5_17) rfl rfl rfl ⟨rfl, zyX3_refused⟩ ⟨Nat.le_of_ble_eq_true rfl, Nat.le_of_ble_eq_true rfl⟩) ⟨bS_blind, va_recv hK hP (ci := 3) (q0 := 0) rfl rfl, bS_pre hP hK hD hN⟩ rfl rfl hl.1 rfl (lv_room (Nat.le_of_ble_eq_true rfl)) dX3_addAll_36 ⟨Nat.zero_le _, Nat.zero_le _⟩) hS (fun q _ h => zx_fW hD hS hA q h) (fun q h => zx_fW hD hS hA q h) (fun r u t H1 lc ht hvm hw hB hz1 hk1 hS => ?_)
    obtain ⟨hw1, hw2⟩ := Prod.mk.inj hw; subst hw1; subst hw2
    rw [ht] at hB
    replace hP := hB
    replace hD := xW3_D T2 hD
    refine lv_if_eq (tgt := 44) hx hb dX3_addAll_39 (by decide) (fun q4 => ?_) (fun q4 => ?_)
    · replace hM := zx_t q4 hM
      refine lv_aload_n hx hb dX3_addAll_44 rfl (lv_at hl 0 rfl) ?_
      obtain ⟨T5, hz6, hM⟩ := zx_b1E hM
      refine va_callv (va_runV (As := []) (rest := []) ⟨hx, hb, hml, hown, hts⟩ (c_X3_remember l D cI cZ cT h ad T2 _ N  hz6) (cwV 0 hts (zg_V zw_22_23 zw_23_0 zw_23_1 zw_1_5 zw_23_2) rfl rfl rfl ⟨rfl, zyX3_remember⟩ ⟨Nat.le_of_ble_eq_true rfl, Nat.le_of_ble_eq_true rfl⟩) ⟨bS_blind, va_recv hK hP (ci := 3) (q0 := 0) rfl rfl, bS_pre hP hK hD hN⟩ rfl rfl hl.1 rfl (lv_room (Nat.le_of_ble_eq_true rfl)) dX3_addAll_45 ⟨Nat.zero_le _, Nat.zero_le _⟩) hS (fun q _ h => zx_fW hD hS hA q h) (fun q h => zx_fW hD hS hA q h) (fun u t H1 lc ht hvm hw hB hz1 hk1 hS => ?_)
      replace hw : T5 = u := hw; subst hw
      rw [ht] at hB
      replace hP := hB
      replace hD := xW3_D T5 hD
      refine lv_aload_n hx hb dX3_addAll_48 rfl (lv_at hl 0 rfl) ?_
      refine lv_iconst (v := 0) hx hb dX3_addAll_49 (by decide) ?_
      obtain ⟨T7, eT7, hM⟩ := zx_nE hM
      refine va_put (D := D) (ci := 3) (v := .int 0) (ty := .int) (C := RX3) (T := TX3) (N := 20) hx hb hts inlX3 tyX3 tyX3_ok nmX3 hown hK hP hD hS 0 rfl rfl 10 (by decide) (hts _ zw_10_20) (fun _ h9 => h9) rfl (by decide +kernel) rfl rfl (Nat.le_of_ble_eq_true rfl) dX3_addAll_50 (fun H lc hP hD hS => ?_)
      replace hP : va_P D vwCl (xW3 cI cZ h ad T7) H := by rw [eT7]; exact hP
      replace hD : va_D A (xW3 cI cZ h ad T7) := by rw [eT7]; exact hD
      refine lv_aload_n hx hb dX3_addAll_53 rfl (lv_at hl 0 rfl) ?_
      refine lv_aload_n hx hb dX3_addAll_54 rfl (lv_at hl 0 rfl) ?_
      refine va_get (D := D) (ci := 3) (v := .ref (ad 1)) (C := RX3) (T := TX3) (N := 20) hx hb hts inlX3 hown hK hP 0 rfl rfl 3 (by decide) (hts _ zw_3_19) (fun _ h9 => h9) rfl dX3_addAll_55 ?_
      refine lv_iconst (v := 1) hx hb dX3_addAll_58 (by decide) ?_
      obtain ⟨x8, T9, hz10, hM⟩ := zx_b2E hM
      refine va_calli (va_runV (As := [.ref (ad 1), .int 1]) (rest := []) ⟨hx, hb, hml, hown, hts⟩ (c_X3_readText l D cI cZ cT h ad T7 _ N 1 (Or.inl rfl) 1  hz10) (cwV 2 hts (zg_V zw_7_10 zw_7_11 zw_7_12 zw_1_5 zw_7_13) rfl rfl rfl ⟨rfl, zyX3_readText⟩ ⟨Nat.le_of_ble_eq_true rfl, Nat.le_of_ble_eq_true rfl⟩) ⟨bS_blind, va_recv hK hP (ci := 3) (q0 := 0) rfl rfl, bS_pre hP hK hD hN⟩ rfl rfl hl.1 rfl (lv_room (Nat.le_of_ble_eq_true rfl)) dX3_addAll_59 ⟨Nat.zero_le _, Nat.zero_le _⟩) hS (fun q _ h => zx_fW hD hS hA q h) (fun q h => zx_fW hD hS hA q h) (fun r u t H1 lc ht hvm hw hB hz1 hk1 hS => ?_)
      obtain ⟨hw1, hw2⟩ := Prod.mk.inj hw; subst hw1; subst hw2
      rw [ht] at hB
      replace hP := hB
      replace hD := xW3_D T9 hD
      refine lv_pop hx hb dX3_addAll_62 rfl ?_
      refine lv_aload_n hx hb dX3_addAll_63 rfl (lv_at hl 0 rfl) ?_
      refine va_get (D := D) (ci := 3) (v := .ref (ad 1)) (C := RX3) (T := TX3) (N := 20) hx hb hts inlX3 hown hK hP 0 rfl rfl 3 (by decide) (hts _ zw_3_19) (fun _ h9 => h9) rfl dX3_addAll_64 ?_
      obtain ⟨x11, hz12, hM⟩ := zx_b1E hM
      refine va_calli (va_runS (As := [.ref (ad 1)]) (rest := []) ⟨hx, hb, hml, hown, hts⟩ (c_X3_count l D cI cZ cT (ad 1) 380 (T9 1) _ N hz12) (va_cwS 1 hts (zg_S zw_14_13 zw_14_14 zw_1_5 zw_14_15) rfl rfl rfl zyX3_count ⟨Nat.le_of_ble_eq_true rfl, Nat.le_of_ble_eq_true rfl⟩) ⟨bS_blind, bS_pre (zx_P1 hP 2 (rfl)) hK (zx_D1 hD 2 (rfl)) hN⟩ rfl rfl hl.1 rfl (lv_room (Nat.le_of_ble_eq_true rfl)) dX3_addAll_67 ⟨Nat.zero_le _, Nat.zero_le _⟩) hS (fun q h1 h2 => absurd h1 (Nat.not_lt.mpr h2)) (fun q h => hA q (Nat.le_trans hS.1 h)) (fun r u t H1 lc ht hvm hw hB hz1 hk1 hS => ?_)
      replace hw : x11 = r := hw; subst hw
      replace hP := zx_keep hP hk1
      rw [hQ]
      exact W.iret hx hb hr (fun t ht hW => ⟨⟨x11, T9, rfl, (Option.some.inj hM).symm, by show va_P D vwCl _ t.heap; rw [ht]; exact hP⟩, hS.F ht⟩) hS.2.2 dX3_addAll_70
    · replace hM := zx_f q4 hM
      refine lv_iconst (v := 0) hx hb dX3_addAll_42 (by decide) ?_
      rw [hQ]
      exact W.iret hx hb hr (fun t ht hW => ⟨⟨0, T2, rfl, (Option.some.inj hM).symm, by show va_P D vwCl _ t.heap; rw [ht]; exact hP⟩, hS.F ht⟩) hS.2.2 dX3_addAll_43
  have j35 : ∀ (S_ : zx_S) (H : Heap) (lc : List Loc) (ls : Array Slot), va_P D vwCl (xW3 cI cZ h ad S_) H → va_D A (xW3 cI cZ h ad S_) → va_S A s.heap H lc → lv_has ls 1 [(0, .ref h)] → f_X3_addAll_j35 N S_ = some R → W p l e (headSpec zsX3_addAll rmX3_addAll).room s m ([.ref h] : List Value).toArray below meth c H lc 0 0 Q9 (F0 m 35 ls [.ref h]) := by
    intro S_ H lc ls hP hD hS hl hM
    unfold f_X3_addAll_j35 at hM
    refine lv_iconst (v := 1) hx hb dX3_addAll_35 (by decide) ?_
    exact j36 1 S_ _ _ _ hP hD hS (lv_sub hl [0] rfl) hM
  refine lv_aload_n hx hb dX3_addAll_0 rfl (lv_at hl 0 rfl) ?_
  refine lv_aload_n hx hb dX3_addAll_1 rfl (lv_at hl 0 rfl) ?_
  refine lv_aload_n hx hb dX3_addAll_2 rfl (lv_at hl 0 rfl) ?_
  refine va_get (D := D) (ci := 3) (v := .ref (ad 1)) (C := RX3) (T := TX3) (N := 20) hx hb hts inlX3 hown hK hP 0 rfl rfl 3 (by decide) (hts _ zw_3_19) (fun _ h9 => h9) rfl dX3_addAll_3 ?_
  refine lv_iconst (v := 0) hx hb dX3_addAll_6 (by decide) ?_
  obtain ⟨x13, T14, hz15, hM⟩ := zx_b2E hM
  refine va_calli (va_runV (As := [.ref (ad 1), .int 0]) (rest := [.ref h]) ⟨hx, hb, hml, hown, hts⟩ (c_X3_readText l D cI cZ cT h ad S _ N 1 (Or.inl rfl) 0  hz15) (cwV 2 hts (zg_V zw_7_10 zw_7_11 zw_7_12 zw_1_5 zw_7_13) rfl rfl rfl ⟨rfl, zyX3_readText⟩ ⟨Nat.le_of_ble_eq_true rfl, Nat.le_of_ble_eq_true rfl⟩) ⟨bS_blind, va_recv hK hP (ci := 3) (q0 := 0) rfl rfl, bS_pre hP hK hD hN⟩ rfl rfl hl.1 rfl (lv_room (Nat.le_of_ble_eq_true rfl)) dX3_addAll_7 ⟨Nat.zero_le _, Nat.zero_le _⟩) hS (fun q _ h => zx_fW hD hS hA q h) (fun q h => zx_fW hD hS hA q h) (fun r u t H1 lc ht hvm hw hB hz1 hk1 hS => ?_)
  obtain ⟨hw1, hw2⟩ := Prod.mk.inj hw; subst hw1; subst hw2
  rw [ht] at hB
  replace hP := hB
  replace hD := xW3_D T14 hD
  refine lv_iconst (v := (-1)) hx hb dX3_addAll_10 (by decide) ?_
  refine lv_icmp_ne (tgt := 35) hx hb dX3_addAll_11 (by decide) (fun q16 => ?_) (fun q16 => ?_)
  · replace hM := zx_f q16 hM
    exact j35 T14 _ _ _ hP hD hS (lv_sub hl [0] rfl) hM
  · replace hM := zx_t q16 hM
    refine lv_aload_n hx hb dX3_addAll_14 rfl (lv_at hl 0 rfl) ?_
    refine va_get (D := D) (ci := 3) (v := .ref (ad 1)) (C := RX3) (T := TX3) (N := 20) hx hb hts inlX3 hown hK hP 0 rfl rfl 3 (by decide) (hts _ zw_3_19) (fun _ h9 => h9) rfl dX3_addAll_15 ?_
    obtain ⟨x17, hz18, hM⟩ := zx_b1E hM
    refine va_calli (va_runS (As := [.ref (ad 1)]) (rest := [.ref h]) ⟨hx, hb, hml, hown, hts⟩ (c_X3_count l D cI cZ cT (ad 1) 380 (T14 1) _ N hz18) (va_cwS 1 hts (zg_S zw_14_13 zw_14_14 zw_1_5 zw_14_15) rfl rfl rfl zyX3_count ⟨Nat.le_of_ble_eq_true rfl, Nat.le_of_ble_eq_true rfl⟩) ⟨bS_blind, bS_pre (zx_P1 hP 2 (rfl)) hK (zx_D1 hD 2 (rfl)) hN⟩ rfl rfl hl.1 rfl (lv_room (Nat.le_of_ble_eq_true rfl)) dX3_addAll_18 ⟨Nat.zero_le _, Nat.zero_le _⟩) hS (fun q h1 h2 => absurd h1 (Nat.not_lt.mpr h2)) (fun q h => hA q (Nat.le_trans hS.1 h)) (fun r u t H1 lc ht hvm hw hB hz1 hk1 hS => ?_)
    replace hw : x17 = r := hw; subst hw
    replace hP := zx_keep hP hk1
    refine lv_aload_n hx hb dX3_addAll_21 rfl (lv_at hl 0 rfl) ?_
    refine va_get (D := D) (ci := 3) (v := .int (T14 12 7)) (C := RX3) (T := TX3) (N := 20) hx hb hts inlX3 hown hK hP 0 rfl rfl 19 (by decide) (hts _ zw_7_15) (fun _ h9 => h9) rfl dX3_addAll_22 ?_
    refine lv_iadd hx hb dX3_addAll_25 ?_
    refine lv_bipush (v := 24) hx hb dX3_addAll_26 (by decide) ?_
    refine lv_icmp_gt (tgt := 35) hx hb dX3_addAll_28 (by decide) (fun q19 => ?_) (fun q19 => ?_)
    · replace hM := zx_t q19 hM
      exact j35 T14 _ _ _ hP hD hS (lv_sub hl [0] rfl) hM
    · replace hM := zx_f q19 hM
      refine lv_iconst (v := 0) hx hb dX3_addAll_31 (by decide) ?_
      refine lv_goto (tgt := 36) hx hb dX3_addAll_32 (by decide) ?_
      exact j36 0 T14 _ _ _ hP hD hS (lv_sub hl [0] rfl) hM

/-! ShallowBoxesModel.remove(I)I -/
def f_X3_remove_j17 (N : Nat) (v1 : Int32) (t1 : Int32) (S_ : zx_S) : Option (Int32 × zx_S) :=
  (zx_b2 (f_X3_refused N t1 S_) (fun x1 T2 =>
(if x1 = 0 then
  (zx_b1 (f_X3_remember N T2) (fun T5 =>
(zx_b2 (f_X3_removeOn N 1 v1 T5) (fun x7 T8 =>
some (x7, T8))))) else
  some (0, T2))))
def f_X3_remove (N : Nat) (p1 : Int32) (S : zx_S) : Option (Int32 × zx_S) :=
  (zx_b1 (f_X3_isThere N 380 p1 (S 1)) (fun x10 =>
(if x10 = 0 then
  f_X3_remove_j17 N  p1 1 S else
  f_X3_remove_j17 N  p1 0 S)))
abbrev rmX3_remove : Room := { frames := 9, cells := 0, slots := 0, locals := 215 }
abbrev zsX3_remove : List Cond := .code yX3_remove cX3_remove 2 (some .int) :: wsL_law
theorem zyX3_remove : yX3_remove.cls ≠ "java/lang/invoke/MethodHandle" ∧ yX3_remove.cls ≠ "java/lang/invoke/VarHandle" ∧ (parseMethodDescriptor yX3_remove.desc).map (fun d => d.parameters.length) = some 1 := by decide +kernel
set_option maxHeartbeats 4000000 in
set_option maxRecDepth 100000 in
theorem c_X3_remove (l : Launch) (D : va_G) (cI cZ cT : ClassId) (h : Nat) (ad : Nat → Nat) (S : zx_S) (sz : Nat) (N : Nat) (p1 : Int32) {R : Int32 × zx_S} (hM : f_X3_remove N p1 S = some R) : Met l yX3_remove zsX3_remove rmX3_remove (va_Pc [.ref h, .int p1] (bS D (zx_ty cI cZ cT) (xW3 cI cZ h ad S) sz)) (va_Qi (fun r u => R = (r, u)) (fun u t => va_P D vwCl (xW3 cI cZ h ad u) t.heap) (va_A (xW3 cI cZ h ad S) sz)) 0 0 (va_A (xW3 cI cZ h ad S) sz) := by
  refine Met.ofW (cc := cX3_remove) (maxL := 2) (ret := (some .int)) (by decide) rfl ?_
  intro p e s m args below meth c s₁ B hml hv
  obtain ⟨rfl, hsz, hP, hK, hD0, hN⟩ := hv
  have hx := B.exec
  have hb := B.bytes
  have hr := B.returns
  have hts : ∀ w ∈ wsL_law, w.before _ s = true := fun w hw => atoms_spec (ws := zsX3_remove) B.pre w (List.mem_cons_of_mem _ hw)
  have hown : s.vm.findClass RX3 = some m.cls := findClass_of_methodNamed B.named
  have hlocks := B.notSynchronized
  subst hsz
  have hD := hD0.self (sz := s.heap.size)
  generalize hAe : va_A (xW3 cI cZ h ad S) s.heap.size = A at hD ⊢
  have hA : ∀ q : Nat, s.heap.size ≤ q → A q := fun q h => by rw [← hAe]; exact Or.inr h
  have hS : va_S A s.heap s.heap [] := va_S.rf
  have hl := lv_entry ([.ref h, .int p1]) (n := 2) (Nat.le_of_ble_eq_true rfl)
  rw [lg_entry_eq]
  generalize (lg_sl ([.ref h, .int p1]) ++ List.replicate (2 - (lg_sl ([.ref h, .int p1])).length) Slot.unset).toArray = ls at hl ⊢
  have hl : lv_has ls 2 [(0, .ref h), (1, .int p1)] := hl
  generalize hQ : MQ below (va_Qi (fun r u => R = (r, u)) (fun u t => va_P D vwCl (xW3 cI cZ h ad u) t.heap) A) ([.ref h, .int p1] : List Value).toArray s 0 0 A = Q9
  replace hQ := hQ.symm
  unfold f_X3_remove at hM
  have j17 : ∀ (v1 : Int32) (t1 : Int32) (S_ : zx_S) (H : Heap) (lc : List Loc) (ls : Array Slot), va_P D vwCl (xW3 cI cZ h ad S_) H → va_D A (xW3 cI cZ h ad S_) → va_S A s.heap H lc → lv_has ls 2 [(0, .ref h), (1, .int v1)] → f_X3_remove_j17 N v1 t1 S_ = some R → W p l e (headSpec zsX3_remove rmX3_remove).room s m ([.ref h, .int p1] : List Value).toArray below meth c H lc 0 0 Q9 (F0 m 17 ls [.int t1, .ref h]) := by
    intro v1 t1 S_ H lc ls hP hD hS hl hM
    unfold f_X3_remove_j17 at hM
    obtain ⟨x1, T2, hz3, hM⟩ := zx_b2E hM
    refine va_calli (va_runV (As := [.int t1]) (rest := []) ⟨hx, hb, hml, hown, hts⟩ (c_X3_refused l D cI cZ cT h ad S_ _ N t1  hz3) (cwV 1 hts (zg_V zw_5_14 zw_5_15 zw_5_16 zw_1_5 zw_5_17) rfl rfl rfl ⟨rfl, zyX3_refused⟩ ⟨Nat.le_of_ble_eq_true rfl, Nat.le_of_ble_eq_true rfl⟩) ⟨bS_blind, va_recv hK hP (ci := 3) (q0 := 0) rfl rfl, bS_pre hP hK hD hN⟩ rfl rfl hl.1 rfl (lv_room (Nat.le_of_ble_eq_true rfl)) dX3_remove_17 ⟨Nat.zero_le _, Nat.zero_le _⟩) hS (fun q _ h => zx_fW hD hS hA q h) (fun q h => zx_fW hD hS hA q h) (fun r u t H1 lc ht hvm hw hB hz1 hk1 hS => ?_)
    obtain ⟨hw1, hw2⟩ := Prod.mk.inj hw; subst hw1; subst hw2
    rw [ht] at hB
    replace hP := hB
    replace hD := xW3_D T2 hD
    refine lv_if_eq (tgt := 25) hx hb dX3_remove_20 (by decide) (fun q4 => ?_) (fun q4 => ?_)
    · replace hM := zx_t q4 hM
      refine lv_aload_n hx hb dX3_remove_25 rfl (lv_at hl 0 rfl) ?_
      obtain ⟨T5, hz6, hM⟩ := zx_b1E hM
      refine va_callv (va_runV (As := []) (rest := []) ⟨hx, hb, hml, hown, hts⟩ (c_X3_remember l D cI cZ cT h ad T2 _ N  hz6) (cwV 0 hts (zg_V zw_22_23 zw_23_0 zw_23_1 zw_1_5 zw_23_2) rfl rfl rfl ⟨rfl, zyX3_remember⟩ ⟨Nat.le_of_ble_eq_true rfl, Nat.le_of_ble_eq_true rfl⟩) ⟨bS_blind, va_recv hK hP (ci := 3) (q0 := 0) rfl rfl, bS_pre hP hK hD hN⟩ rfl rfl hl.1 rfl (lv_room (Nat.le_of_ble_eq_true rfl)) dX3_remove_26 ⟨Nat.zero_le _, Nat.zero_le _⟩) hS (fun q _ h => zx_fW hD hS hA q h) (fun q h => zx_fW hD hS hA q h) (fun u t H1 lc ht hvm hw hB hz1 hk1 hS => ?_)
      replace hw : T5 = u := hw; subst hw
      rw [ht] at hB
      replace hP := hB
      replace hD := xW3_D T5 hD
      refine lv_aload_n hx hb dX3_remove_29 rfl (lv_at hl 0 rfl) ?_
      refine lv_aload_n hx hb dX3_remove_30 rfl (lv_at hl 0 rfl) ?_
      refine va_get (D := D) (ci := 3) (v := .ref (ad 1)) (C := RX3) (T := TX3) (N := 20) hx hb hts inlX3 hown hK hP 0 rfl rfl 3 (by decide) (hts _ zw_3_19) (fun _ h9 => h9) rfl dX3_remove_31 ?_
      refine lv_iload_n hx hb dX3_remove_34 rfl (lv_at hl 1 rfl) ?_
      obtain ⟨x7, T8, hz9, hM⟩ := zx_b2E hM
      refine va_calli (va_runV (As := [.ref (ad 1), .int v1]) (rest := []) ⟨hx, hb, hml, hown, hts⟩ (c_X3_removeOn l D cI cZ cT h ad T5 _ N 1 (Or.inl rfl) v1  hz9) (cwV 2 hts (zg_V zw_24_18 zw_24_19 zw_24_20 zw_1_5 zw_24_21) rfl rfl rfl ⟨rfl, zyX3_removeOn⟩ ⟨Nat.le_of_ble_eq_true rfl, Nat.le_of_ble_eq_true rfl⟩) ⟨bS_blind, va_recv hK hP (ci := 3) (q0 := 0) rfl rfl, bS_pre hP hK hD hN⟩ rfl rfl hl.1 rfl (lv_room (Nat.le_of_ble_eq_true rfl)) dX3_remove_35 ⟨Nat.zero_le _, Nat.zero_le _⟩) hS (fun q _ h => zx_fW hD hS hA q h) (fun q h => zx_fW hD hS hA q h) (fun r u t H1 lc ht hvm hw hB hz1 hk1 hS => ?_)
      obtain ⟨hw1, hw2⟩ := Prod.mk.inj hw; subst hw1; subst hw2
      rw [ht] at hB
      replace hP := hB
      replace hD := xW3_D T8 hD
      rw [hQ]
      exact W.iret hx hb hr (fun t ht hW => ⟨⟨x7, T8, rfl, (Option.some.inj hM).symm, by show va_P D vwCl _ t.heap; rw [ht]; exact hP⟩, hS.F ht⟩) hS.2.2 dX3_remove_38
    · replace hM := zx_f q4 hM
      refine lv_iconst (v := 0) hx hb dX3_remove_23 (by decide) ?_
      rw [hQ]
      exact W.iret hx hb hr (fun t ht hW => ⟨⟨0, T2, rfl, (Option.some.inj hM).symm, by show va_P D vwCl _ t.heap; rw [ht]; exact hP⟩, hS.F ht⟩) hS.2.2 dX3_remove_24
  refine lv_aload_n hx hb dX3_remove_0 rfl (lv_at hl 0 rfl) ?_
  refine lv_aload_n hx hb dX3_remove_1 rfl (lv_at hl 0 rfl) ?_
  refine va_get (D := D) (ci := 3) (v := .ref (ad 1)) (C := RX3) (T := TX3) (N := 20) hx hb hts inlX3 hown hK hP 0 rfl rfl 3 (by decide) (hts _ zw_3_19) (fun _ h9 => h9) rfl dX3_remove_2 ?_
  refine lv_iload_n hx hb dX3_remove_5 rfl (lv_at hl 1 rfl) ?_
  obtain ⟨x10, hz11, hM⟩ := zx_b1E hM
  refine va_calli (va_runS (As := [.ref (ad 1), .int p1]) (rest := [.ref h]) ⟨hx, hb, hml, hown, hts⟩ (c_X3_isThere l D cI cZ cT (ad 1) 380 (S 1) _ N p1 hz11) (va_cwS 2 hts (zg_S zw_16_14 zw_16_15 zw_1_5 zw_16_16) rfl rfl rfl zyX3_isThere ⟨Nat.le_of_ble_eq_true rfl, Nat.le_of_ble_eq_true rfl⟩) ⟨bS_blind, bS_pre (zx_P1 hP 2 (rfl)) hK (zx_D1 hD 2 (rfl)) hN⟩ rfl rfl hl.1 rfl (lv_room (Nat.le_of_ble_eq_true rfl)) dX3_remove_6 ⟨Nat.zero_le _, Nat.zero_le _⟩) hS (fun q h1 h2 => absurd h1 (Nat.not_lt.mpr h2)) (fun q h => hA q (Nat.le_trans hS.1 h)) (fun r u t H1 lc ht hvm hw hB hz1 hk1 hS => ?_)
  replace hw : x10 = r := hw; subst hw
  replace hP := zx_keep hP hk1
  refine lv_if_eq (tgt := 16) hx hb dX3_remove_9 (by decide) (fun q12 => ?_) (fun q12 => ?_)
  · replace hM := zx_t q12 hM
    refine lv_iconst (v := 1) hx hb dX3_remove_16 (by decide) ?_
    exact j17 p1 1 S _ _ _ hP hD hS (lv_sub hl [0, 1] rfl) hM
  · replace hM := zx_f q12 hM
    refine lv_iconst (v := 0) hx hb dX3_remove_12 (by decide) ?_
    refine lv_goto (tgt := 17) hx hb dX3_remove_13 (by decide) ?_
    exact j17 p1 0 S _ _ _ hP hD hS (lv_sub hl [0, 1] rfl) hM

/-! ShallowBoxesModel.move(III)I -/
def f_X3_move (N : Nat) (p1 : Int32) (p2 : Int32) (p3 : Int32) (S : zx_S) : Option (Int32 × zx_S) :=
  (zx_b1 (f_X3_whyNotMove N 380 p1 p2 p3 (S 1)) (fun x1 =>
(zx_b2 (f_X3_refused N x1 S) (fun x3 T4 =>
(if x3 = 0 then
  (zx_b1 (f_X3_remember N T4) (fun T7 =>
(zx_b1 (f_X3_moveOn N 1 p1 p2 p3 T7) (fun T9 =>
(zx_b2 (f_X3_numberNodes N 1 T9) (fun x11 T12 =>
(zx_b1 (f_X3_nodeWith N 380 p1 (T12 1)) (fun x14 =>
(zx_rd 32 (T12 9) x14 (fun x16 =>
some (x16, T12))))))))))) else
  some (0, T4))))))
abbrev rmX3_move : Room := { frames := 9, cells := 0, slots := 0, locals := 218 }
abbrev zsX3_move : List Cond := .code yX3_move cX3_move 4 (some .int) :: wsL_law
theorem zyX3_move : yX3_move.cls ≠ "java/lang/invoke/MethodHandle" ∧ yX3_move.cls ≠ "java/lang/invoke/VarHandle" ∧ (parseMethodDescriptor yX3_move.desc).map (fun d => d.parameters.length) = some 3 := by decide +kernel
set_option maxHeartbeats 4000000 in
set_option maxRecDepth 100000 in
theorem c_X3_move (l : Launch) (D : va_G) (cI cZ cT : ClassId) (h : Nat) (ad : Nat → Nat) (S : zx_S) (sz : Nat) (N : Nat) (p1 : Int32) (p2 : Int32) (p3 : Int32) {R : Int32 × zx_S} (hM : f_X3_move N p1 p2 p3 S = some R) : Met l yX3_move zsX3_move rmX3_move (va_Pc [.ref h, .int p1, .int p2, .int p3] (bS D (zx_ty cI cZ cT) (xW3 cI cZ h ad S) sz)) (va_Qi (fun r u => R = (r, u)) (fun u t => va_P D vwCl (xW3 cI cZ h ad u) t.heap) (va_A (xW3 cI cZ h ad S) sz)) 0 0 (va_A (xW3 cI cZ h ad S) sz) := by
  refine Met.ofW (cc := cX3_move) (maxL := 4) (ret := (some .int)) (by decide) rfl ?_
  intro p e s m args below meth c s₁ B hml hv
  obtain ⟨rfl, hsz, hP, hK, hD0, hN⟩ := hv
  have hx := B.exec
  have hb := B.bytes
  have hr := B.returns
  have hts : ∀ w ∈ wsL_law, w.before _ s = true := fun w hw => atoms_spec (ws := zsX3_move) B.pre w (List.mem_cons_of_mem _ hw)
  have hown : s.vm.findClass RX3 = some m.cls := findClass_of_methodNamed B.named
  have hlocks := B.notSynchronized
  subst hsz
  have hD := hD0.self (sz := s.heap.size)
  generalize hAe : va_A (xW3 cI cZ h ad S) s.heap.size = A at hD ⊢
  have hA : ∀ q : Nat, s.heap.size ≤ q → A q := fun q h => by rw [← hAe]; exact Or.inr h
  have hS : va_S A s.heap s.heap [] := va_S.rf
  have hl := lv_entry ([.ref h, .int p1, .int p2, .int p3]) (n := 4) (Nat.le_of_ble_eq_true rfl)
  rw [lg_entry_eq]
  generalize (lg_sl ([.ref h, .int p1, .int p2, .int p3]) ++ List.replicate (4 - (lg_sl ([.ref h, .int p1, .int p2, .int p3])).length) Slot.unset).toArray = ls at hl ⊢
  have hl : lv_has ls 4 [(0, .ref h), (1, .int p1), (2, .int p2), (3, .int p3)] := hl
  generalize hQ : MQ below (va_Qi (fun r u => R = (r, u)) (fun u t => va_P D vwCl (xW3 cI cZ h ad u) t.heap) A) ([.ref h, .int p1, .int p2, .int p3] : List Value).toArray s 0 0 A = Q9
  replace hQ := hQ.symm
  unfold f_X3_move at hM
  refine lv_aload_n hx hb dX3_move_0 rfl (lv_at hl 0 rfl) ?_
  refine lv_aload_n hx hb dX3_move_1 rfl (lv_at hl 0 rfl) ?_
  refine va_get (D := D) (ci := 3) (v := .ref (ad 1)) (C := RX3) (T := TX3) (N := 20) hx hb hts inlX3 hown hK hP 0 rfl rfl 3 (by decide) (hts _ zw_3_19) (fun _ h9 => h9) rfl dX3_move_2 ?_
  refine lv_iload_n hx hb dX3_move_5 rfl (lv_at hl 1 rfl) ?_
  refine lv_iload_n hx hb dX3_move_6 rfl (lv_at hl 2 rfl) ?_
  refine lv_iload_n hx hb dX3_move_7 rfl (lv_at hl 3 rfl) ?_
  obtain ⟨x1, hz2, hM⟩ := zx_b1E hM
  refine va_calli (va_runS (As := [.ref (ad 1), .int p1, .int p2, .int p3]) (rest := [.ref h]) ⟨hx, hb, hml, hown, hts⟩ (c_X3_whyNotMove l D cI cZ cT (ad 1) 380 (S 1) _ N p1 p2 p3 hz2) (va_cwS 4 hts (zg_S zw_26_2 zw_26_3 zw_1_5 zw_26_4) rfl rfl rfl zyX3_whyNotMove ⟨Nat.le_of_ble_eq_true rfl, Nat.le_of_ble_eq_true rfl⟩) ⟨bS_blind, bS_pre (zx_P1 hP 2 (rfl)) hK (zx_D1 hD 2 (rfl)) hN⟩ rfl rfl hl.1 rfl (lv_room (Nat.le_of_ble_eq_true rfl)) dX3_move_8 ⟨Nat.zero_le _, Nat.zero_le _⟩) hS (fun q h1 h2 => absurd h1 (Nat.not_lt.mpr h2)) (fun q h => hA q (Nat.le_trans hS.1 h)) (fun r u t H1 lc ht hvm hw hB hz1 hk1 hS => ?_)
  replace hw : x1 = r := hw; subst hw
  replace hP := zx_keep hP hk1
  obtain ⟨x3, T4, hz5, hM⟩ := zx_b2E hM
  refine va_calli (va_runV (As := [.int x1]) (rest := []) ⟨hx, hb, hml, hown, hts⟩ (c_X3_refused l D cI cZ cT h ad S _ N x1  hz5) (cwV 1 hts (zg_V zw_5_14 zw_5_15 zw_5_16 zw_1_5 zw_5_17) rfl rfl rfl ⟨rfl, zyX3_refused⟩ ⟨Nat.le_of_ble_eq_true rfl, Nat.le_of_ble_eq_true rfl⟩) ⟨bS_blind, va_recv hK hP (ci := 3) (q0 := 0) rfl rfl, bS_pre hP hK hD hN⟩ rfl rfl hl.1 rfl (lv_room (Nat.le_of_ble_eq_true rfl)) dX3_move_11 ⟨Nat.zero_le _, Nat.zero_le _⟩) hS (fun q _ h => zx_fW hD hS hA q h) (fun q h => zx_fW hD hS hA q h) (fun r u t H1 lc ht hvm hw hB hz1 hk1 hS => ?_)
  obtain ⟨hw1, hw2⟩ := Prod.mk.inj hw; subst hw1; subst hw2
  rw [ht] at hB
  replace hP := hB
  replace hD := xW3_D T4 hD
  refine lv_if_eq (tgt := 19) hx hb dX3_move_14 (by decide) (fun q6 => ?_) (fun q6 => ?_)
  · replace hM := zx_t q6 hM
    refine lv_aload_n hx hb dX3_move_19 rfl (lv_at hl 0 rfl) ?_
    obtain ⟨T7, hz8, hM⟩ := zx_b1E hM
    refine va_callv (va_runV (As := []) (rest := []) ⟨hx, hb, hml, hown, hts⟩ (c_X3_remember l D cI cZ cT h ad T4 _ N  hz8) (cwV 0 hts (zg_V zw_22_23 zw_23_0 zw_23_1 zw_1_5 zw_23_2) rfl rfl rfl ⟨rfl, zyX3_remember⟩ ⟨Nat.le_of_ble_eq_true rfl, Nat.le_of_ble_eq_true rfl⟩) ⟨bS_blind, va_recv hK hP (ci := 3) (q0 := 0) rfl rfl, bS_pre hP hK hD hN⟩ rfl rfl hl.1 rfl (lv_room (Nat.le_of_ble_eq_true rfl)) dX3_move_20 ⟨Nat.zero_le _, Nat.zero_le _⟩) hS (fun q _ h => zx_fW hD hS hA q h) (fun q h => zx_fW hD hS hA q h) (fun u t H1 lc ht hvm hw hB hz1 hk1 hS => ?_)
    replace hw : T7 = u := hw; subst hw
    rw [ht] at hB
    replace hP := hB
    replace hD := xW3_D T7 hD
    refine lv_aload_n hx hb dX3_move_23 rfl (lv_at hl 0 rfl) ?_
    refine lv_aload_n hx hb dX3_move_24 rfl (lv_at hl 0 rfl) ?_
    refine va_get (D := D) (ci := 3) (v := .ref (ad 1)) (C := RX3) (T := TX3) (N := 20) hx hb hts inlX3 hown hK hP 0 rfl rfl 3 (by decide) (hts _ zw_3_19) (fun _ h9 => h9) rfl dX3_move_25 ?_
    refine lv_iload_n hx hb dX3_move_28 rfl (lv_at hl 1 rfl) ?_
    refine lv_iload_n hx hb dX3_move_29 rfl (lv_at hl 2 rfl) ?_
    refine lv_iload_n hx hb dX3_move_30 rfl (lv_at hl 3 rfl) ?_
    obtain ⟨T9, hz10, hM⟩ := zx_b1E hM
    refine va_callv (va_runV (As := [.ref (ad 1), .int p1, .int p2, .int p3]) (rest := []) ⟨hx, hb, hml, hown, hts⟩ (c_X3_moveOn l D cI cZ cT h ad T7 _ N 1 (Or.inl rfl) p1 p2 p3  hz10) (cwV 4 hts (zg_V zw_26_6 zw_26_7 zw_26_8 zw_1_5 zw_26_9) rfl rfl rfl ⟨rfl, zyX3_moveOn⟩ ⟨Nat.le_of_ble_eq_true rfl, Nat.le_of_ble_eq_true rfl⟩) ⟨bS_blind, va_recv hK hP (ci := 3) (q0 := 0) rfl rfl, bS_pre hP hK hD hN⟩ rfl rfl hl.1 rfl (lv_room (Nat.le_of_ble_eq_true rfl)) dX3_move_31 ⟨Nat.zero_le _, Nat.zero_le _⟩) hS (fun q _ h => zx_fW hD hS hA q h) (fun q h => zx_fW hD hS hA q h) (fun u t H1 lc ht hvm hw hB hz1 hk1 hS => ?_)
    replace hw : T9 = u := hw; subst hw
    rw [ht] at hB
    replace hP := hB
    replace hD := xW3_D T9 hD
    refine lv_aload_n hx hb dX3_move_34 rfl (lv_at hl 0 rfl) ?_
    refine lv_aload_n hx hb dX3_move_35 rfl (lv_at hl 0 rfl) ?_
    refine va_get (D := D) (ci := 3) (v := .ref (ad 1)) (C := RX3) (T := TX3) (N := 20) hx hb hts inlX3 hown hK hP 0 rfl rfl 3 (by decide) (hts _ zw_3_19) (fun _ h9 => h9) rfl dX3_move_36 ?_
    obtain ⟨x11, T12, hz13, hM⟩ := zx_b2E hM
    refine va_calli (va_runV (As := [.ref (ad 1)]) (rest := []) ⟨hx, hb, hml, hown, hts⟩ (c_X3_numberNodes l D cI cZ cT h ad T9 _ N 1 (Or.inl rfl)  hz13) (cwV 1 hts (zg_V zw_16_18 zw_16_19 zw_16_20 zw_1_5 zw_16_21) rfl rfl rfl ⟨rfl, zyX3_numberNodes⟩ ⟨Nat.le_of_ble_eq_true rfl, Nat.le_of_ble_eq_true rfl⟩) ⟨bS_blind, va_recv hK hP (ci := 3) (q0 := 0) rfl rfl, bS_pre hP hK hD hN⟩ rfl rfl hl.1 rfl (lv_room (Nat.le_of_ble_eq_true rfl)) dX3_move_39 ⟨Nat.zero_le _, Nat.zero_le _⟩) hS (fun q _ h => zx_fW hD hS hA q h) (fun q h => zx_fW hD hS hA q h) (fun r u t H1 lc ht hvm hw hB hz1 hk1 hS => ?_)
    obtain ⟨hw1, hw2⟩ := Prod.mk.inj hw; subst hw1; subst hw2
    rw [ht] at hB
    replace hP := hB
    replace hD := xW3_D T12 hD
    refine lv_pop hx hb dX3_move_42 rfl ?_
    refine lv_aload_n hx hb dX3_move_43 rfl (lv_at hl 0 rfl) ?_
    refine va_get (D := D) (ci := 3) (v := .ref (ad 9)) (C := RX3) (T := TX3) (N := 20) hx hb hts inlX3 hown hK hP 0 rfl rfl 15 (by decide) (hts _ zw_4_4) (fun _ h9 => h9) rfl dX3_move_44 ?_
    refine lv_aload_n hx hb dX3_move_47 rfl (lv_at hl 0 rfl) ?_
    refine va_get (D := D) (ci := 3) (v := .ref (ad 1)) (C := RX3) (T := TX3) (N := 20) hx hb hts inlX3 hown hK hP 0 rfl rfl 3 (by decide) (hts _ zw_3_19) (fun _ h9 => h9) rfl dX3_move_48 ?_
    refine lv_iload_n hx hb dX3_move_51 rfl (lv_at hl 1 rfl) ?_
    obtain ⟨x14, hz15, hM⟩ := zx_b1E hM
    refine va_calli (va_runS (As := [.ref (ad 1), .int p1]) (rest := [.ref (ad 9)]) ⟨hx, hb, hml, hown, hts⟩ (c_X3_nodeWith l D cI cZ cT (ad 1) 380 (T12 1) _ N p1 hz15) (va_cwS 2 hts (zg_S zw_11_8 zw_11_9 zw_1_5 zw_11_10) rfl rfl rfl zyX3_nodeWith ⟨Nat.le_of_ble_eq_true rfl, Nat.le_of_ble_eq_true rfl⟩) ⟨bS_blind, bS_pre (zx_P1 hP 2 (rfl)) hK (zx_D1 hD 2 (rfl)) hN⟩ rfl rfl hl.1 rfl (lv_room (Nat.le_of_ble_eq_true rfl)) dX3_move_52 ⟨Nat.zero_le _, Nat.zero_le _⟩) hS (fun q h1 h2 => absurd h1 (Nat.not_lt.mpr h2)) (fun q h => hA q (Nat.le_trans hS.1 h)) (fun r u t H1 lc ht hvm hw hB hz1 hk1 hS => ?_)
    replace hw : x14 = r := hw; subst hw
    replace hP := zx_keep hP hk1
    obtain ⟨x16, q17, ex16, hM⟩ := zx_rdE hM
    refine va_iald (D := D) hx hb hK hP 10 0 rfl rfl q17 dX3_move_55 ?_
    refine zx_top ex16 ?_
    rw [hQ]
    exact W.iret hx hb hr (fun t ht hW => ⟨⟨x16, T12, rfl, (Option.some.inj hM).symm, by show va_P D vwCl _ t.heap; rw [ht]; exact hP⟩, hS.F ht⟩) hS.2.2 dX3_move_56
  · replace hM := zx_f q6 hM
    refine lv_iconst (v := 0) hx hb dX3_move_17 (by decide) ?_
    rw [hQ]
    exact W.iret hx hb hr (fun t ht hW => ⟨⟨0, T4, rfl, (Option.some.inj hM).symm, by show va_P D vwCl _ t.heap; rw [ht]; exact hP⟩, hS.F ht⟩) hS.2.2 dX3_move_18

/-! ShallowBoxesModel.undo()I -/
def f_X3_undo_j13 (N : Nat) (t1 : Int32) (S_ : zx_S) : Option (Int32 × zx_S) :=
  (zx_b2 (f_X3_refused N t1 S_) (fun x1 T2 =>
(if x1 = 0 then
  (zx_n (zx_st T2 12 (upd (T2 12) 2 ((T2 12 2) - 1))) (fun T5 =>
(zx_b1 (f_X3_copyState N 5320 380 (380 * (T5 12 2)) 0 (T5 3) (T5 1)) (fun g6 =>
(zx_n (zx_st T5 1 g6) (fun T8 =>
some ((T8 12 2), T8))))))) else
  some (0, T2))))
def f_X3_undo (N : Nat) (S : zx_S) : Option (Int32 × zx_S) :=
  (if (S 12 2) = 0 then
  f_X3_undo_j13 N  1 S else
  f_X3_undo_j13 N  0 S)
abbrev rmX3_undo : Room := { frames := 1, cells := 0, slots := 0, locals := 24 }
abbrev zsX3_undo : List Cond := .code yX3_undo cX3_undo 1 (some .int) :: wsL_law
theorem zyX3_undo : yX3_undo.cls ≠ "java/lang/invoke/MethodHandle" ∧ yX3_undo.cls ≠ "java/lang/invoke/VarHandle" ∧ (parseMethodDescriptor yX3_undo.desc).map (fun d => d.parameters.length) = some 0 := by decide +kernel
set_option maxHeartbeats 4000000 in
set_option maxRecDepth 100000 in
theorem c_X3_undo (l : Launch) (D : va_G) (cI cZ cT : ClassId) (h : Nat) (ad : Nat → Nat) (S : zx_S) (sz : Nat) (N : Nat) {R : Int32 × zx_S} (hM : f_X3_undo N S = some R) : Met l yX3_undo zsX3_undo rmX3_undo (va_Pc [.ref h] (bS D (zx_ty cI cZ cT) (xW3 cI cZ h ad S) sz)) (va_Qi (fun r u => R = (r, u)) (fun u t => va_P D vwCl (xW3 cI cZ h ad u) t.heap) (va_A (xW3 cI cZ h ad S) sz)) 0 0 (va_A (xW3 cI cZ h ad S) sz) := by
  refine Met.ofW (cc := cX3_undo) (maxL := 1) (ret := (some .int)) (by decide) rfl ?_
  intro p e s m args below meth c s₁ B hml hv
  obtain ⟨rfl, hsz, hP, hK, hD0, hN⟩ := hv
  have hx := B.exec
  have hb := B.bytes
  have hr := B.returns
  have hts : ∀ w ∈ wsL_law, w.before _ s = true := fun w hw => atoms_spec (ws := zsX3_undo) B.pre w (List.mem_cons_of_mem _ hw)
  have hown : s.vm.findClass RX3 = some m.cls := findClass_of_methodNamed B.named
  have hlocks := B.notSynchronized
  subst hsz
  have hD := hD0.self (sz := s.heap.size)
  generalize hAe : va_A (xW3 cI cZ h ad S) s.heap.size = A at hD ⊢
  have hA : ∀ q : Nat, s.heap.size ≤ q → A q := fun q h => by rw [← hAe]; exact Or.inr h
  have hS : va_S A s.heap s.heap [] := va_S.rf
  have hl := lv_entry ([.ref h]) (n := 1) (Nat.le_of_ble_eq_true rfl)
  rw [lg_entry_eq]
  generalize (lg_sl ([.ref h]) ++ List.replicate (1 - (lg_sl ([.ref h])).length) Slot.unset).toArray = ls at hl ⊢
  have hl : lv_has ls 1 [(0, .ref h)] := hl
  generalize hQ : MQ below (va_Qi (fun r u => R = (r, u)) (fun u t => va_P D vwCl (xW3 cI cZ h ad u) t.heap) A) ([.ref h] : List Value).toArray s 0 0 A = Q9
  replace hQ := hQ.symm
  unfold f_X3_undo at hM
  have j13 : ∀ (t1 : Int32) (S_ : zx_S) (H : Heap) (lc : List Loc) (ls : Array Slot), va_P D vwCl (xW3 cI cZ h ad S_) H → va_D A (xW3 cI cZ h ad S_) → va_S A s.heap H lc → lv_has ls 1 [(0, .ref h)] → f_X3_undo_j13 N t1 S_ = some R → W p l e (headSpec zsX3_undo rmX3_undo).room s m ([.ref h] : List Value).toArray below meth c H lc 0 0 Q9 (F0 m 13 ls [.int t1, .ref h]) := by
    intro t1 S_ H lc ls hP hD hS hl hM
    unfold f_X3_undo_j13 at hM
    obtain ⟨x1, T2, hz3, hM⟩ := zx_b2E hM
    refine va_calli (va_runV (As := [.int t1]) (rest := []) ⟨hx, hb, hml, hown, hts⟩ (c_X3_refused l D cI cZ cT h ad S_ _ N t1  hz3) (cwV 1 hts (zg_V zw_5_14 zw_5_15 zw_5_16 zw_1_5 zw_5_17) rfl rfl rfl ⟨rfl, zyX3_refused⟩ ⟨Nat.le_of_ble_eq_true rfl, Nat.le_of_ble_eq_true rfl⟩) ⟨bS_blind, va_recv hK hP (ci := 3) (q0 := 0) rfl rfl, bS_pre hP hK hD hN⟩ rfl rfl hl.1 rfl (lv_room (Nat.le_of_ble_eq_true rfl)) dX3_undo_13 ⟨Nat.zero_le _, Nat.zero_le _⟩) hS (fun q _ h => zx_fW hD hS hA q h) (fun q h => zx_fW hD hS hA q h) (fun r u t H1 lc ht hvm hw hB hz1 hk1 hS => ?_)
    obtain ⟨hw1, hw2⟩ := Prod.mk.inj hw; subst hw1; subst hw2
    rw [ht] at hB
    replace hP := hB
    replace hD := xW3_D T2 hD
    refine lv_if_eq (tgt := 21) hx hb dX3_undo_16 (by decide) (fun q4 => ?_) (fun q4 => ?_)
    · replace hM := zx_t q4 hM
      refine lv_aload_n hx hb dX3_undo_21 rfl (lv_at hl 0 rfl) ?_
      refine lv_dup hx hb dX3_undo_22 rfl ?_
      refine va_get (D := D) (ci := 3) (v := .int (T2 12 2)) (C := RX3) (T := TX3) (N := 20) hx hb hts inlX3 hown hK hP 0 rfl rfl 6 (by decide) (hts _ zw_23_3) (fun _ h9 => h9) rfl dX3_undo_23 ?_
      refine lv_iconst (v := 1) hx hb dX3_undo_26 (by decide) ?_
      refine lv_isub hx hb dX3_undo_27 ?_
      obtain ⟨T5, eT5, hM⟩ := zx_nE hM
      refine va_put (D := D) (ci := 3) (v := .int ((T2 12 2) - 1)) (ty := .int) (C := RX3) (T := TX3) (N := 20) hx hb hts inlX3 tyX3 tyX3_ok nmX3 hown hK hP hD hS 0 rfl rfl 6 (by decide) (hts _ zw_23_3) (fun _ h9 => h9) rfl (by decide +kernel) rfl rfl (Nat.le_of_ble_eq_true rfl) dX3_undo_28 (fun H lc hP hD hS => ?_)
      replace hP : va_P D vwCl (xW3 cI cZ h ad T5) H := by rw [eT5]; exact hP
      replace hD : va_D A (xW3 cI cZ h ad T5) := by rw [eT5]; exact hD
      refine lv_aload_n hx hb dX3_undo_31 rfl (lv_at hl 0 rfl) ?_
      refine va_get (D := D) (ci := 3) (v := .ref (ad 3)) (C := RX3) (T := TX3) (N := 20) hx hb hts inlX3 hown hK hP 0 rfl rfl 5 (by decide) (hts _ zw_3_21) (fun _ h9 => h9) rfl dX3_undo_32 ?_
      refine lv_sipush (v := 380) hx hb dX3_undo_35 (by decide) ?_
      refine lv_aload_n hx hb dX3_undo_38 rfl (lv_at hl 0 rfl) ?_
      refine va_get (D := D) (ci := 3) (v := .int (T5 12 2)) (C := RX3) (T := TX3) (N := 20) hx hb hts inlX3 hown hK hP 0 rfl rfl 6 (by decide) (hts _ zw_23_3) (fun _ h9 => h9) rfl dX3_undo_39 ?_
      refine lv_imul hx hb dX3_undo_42 ?_
      refine lv_aload_n hx hb dX3_undo_43 rfl (lv_at hl 0 rfl) ?_
      refine va_get (D := D) (ci := 3) (v := .ref (ad 1)) (C := RX3) (T := TX3) (N := 20) hx hb hts inlX3 hown hK hP 0 rfl rfl 3 (by decide) (hts _ zw_3_19) (fun _ h9 => h9) rfl dX3_undo_44 ?_
      refine lv_iconst (v := 0) hx hb dX3_undo_47 (by decide) ?_
      obtain ⟨g6, hz7, hM⟩ := zx_b1E hM
      refine va_callv (va_runS (As := [.ref (ad 3), .int (380 * (T5 12 2)), .ref (ad 1), .int 0]) (rest := []) ⟨hx, hb, hml, hown, hts⟩ (c_X3_copyState l D cI cZ cT (ad 3) 5320 (T5 3) (ad 1) 380 (T5 1) _ N (380 * (T5 12 2)) 0 hz7) (va_cwS 4 hts (zg_S zw_23_4 zw_23_5 zw_1_5 zw_23_6) rfl rfl rfl zyX3_copyState ⟨Nat.le_of_ble_eq_true rfl, Nat.le_of_ble_eq_true rfl⟩) ⟨bS_blind, bS_pre (zx_P2 hP 4 2 (rfl) (rfl)) hK (zx_D2 hD 4 2 (rfl) (rfl) (by decide)) hN⟩ rfl rfl hl.1 rfl (lv_room (Nat.le_of_ble_eq_true rfl)) dX3_undo_48 ⟨Nat.zero_le _, Nat.zero_le _⟩) hS (fun q _ h => zx_f2 hD hS hA (k := 4) (j := 2) rfl rfl q h) (fun q h => zx_f2 hD hS hA (k := 4) (j := 2) rfl rfl q h) (fun u t H1 lc ht hvm hw hB hz1 hk1 hS => ?_)
      replace hw : g6 = u := hw; subst hw
      rw [ht] at hB
      replace hP := zx_set2 (k := 2) (j := 4) (by decide) hP hD rfl rfl hk1 hB
      replace hD := va_D.set (p := 2) (e := .inl (cI, 380, .inl g6)) hD rfl
      rw [xW3_pa1] at hP hD
      obtain ⟨T8, eT8, hM⟩ := zx_nE hM
      rw [← eT8] at hP hD
      refine lv_aload_n hx hb dX3_undo_51 rfl (lv_at hl 0 rfl) ?_
      refine va_get (D := D) (ci := 3) (v := .int (T8 12 2)) (C := RX3) (T := TX3) (N := 20) hx hb hts inlX3 hown hK hP 0 rfl rfl 6 (by decide) (hts _ zw_23_3) (fun _ h9 => h9) rfl dX3_undo_52 ?_
      rw [hQ]
      exact W.iret hx hb hr (fun t ht hW => ⟨⟨(T8 12 2), T8, rfl, (Option.some.inj hM).symm, by show va_P D vwCl _ t.heap; rw [ht]; exact hP⟩, hS.F ht⟩) hS.2.2 dX3_undo_55
    · replace hM := zx_f q4 hM
      refine lv_iconst (v := 0) hx hb dX3_undo_19 (by decide) ?_
      rw [hQ]
      exact W.iret hx hb hr (fun t ht hW => ⟨⟨0, T2, rfl, (Option.some.inj hM).symm, by show va_P D vwCl _ t.heap; rw [ht]; exact hP⟩, hS.F ht⟩) hS.2.2 dX3_undo_20
  refine lv_aload_n hx hb dX3_undo_0 rfl (lv_at hl 0 rfl) ?_
  refine lv_aload_n hx hb dX3_undo_1 rfl (lv_at hl 0 rfl) ?_
  refine va_get (D := D) (ci := 3) (v := .int (S 12 2)) (C := RX3) (T := TX3) (N := 20) hx hb hts inlX3 hown hK hP 0 rfl rfl 6 (by decide) (hts _ zw_23_3) (fun _ h9 => h9) rfl dX3_undo_2 ?_
  refine lv_if_ne (tgt := 12) hx hb dX3_undo_5 (by decide) (fun q9 => ?_) (fun q9 => ?_)
  · replace hM := zx_f q9 hM
    refine lv_iconst (v := 0) hx hb dX3_undo_12 (by decide) ?_
    exact j13 0 S _ _ _ hP hD hS (lv_sub hl [0] rfl) hM
  · replace hM := zx_t q9 hM
    refine lv_iconst (v := 1) hx hb dX3_undo_8 (by decide) ?_
    refine lv_goto (tgt := 13) hx hb dX3_undo_9 (by decide) ?_
    exact j13 1 S _ _ _ hP hD hS (lv_sub hl [0] rfl) hM

/-! ShallowBoxesModel.meets(IIIII)Z -/
def f_X3_meets (N : Nat) (p1 : Int32) (p2 : Int32) (p3 : Int32) (p4 : Int32) (p5 : Int32) (S : zx_S) : Option (Int32) :=
  (zx_rd 224 (S 6) (4 * p1) (fun x1 =>
(if p4 < x1 then
  some 0 else
  (zx_rd 224 (S 6) ((4 * p1) + 2) (fun x4 =>
(if x4 < p2 then
  some 0 else
  (zx_rd 224 (S 6) ((4 * p1) + 1) (fun x7 =>
(if p5 < x7 then
  some 0 else
  (zx_rd 224 (S 6) ((4 * p1) + 3) (fun x10 =>
(if x10 < p3 then
  some 0 else
  some 1))))))))))))
abbrev rmX3_meets : Room := { frames := 0, cells := 0, slots := 0, locals := 0 }
abbrev zsX3_meets : List Cond := .code yX3_meets cX3_meets 6 (some .boolean) :: wsL_law
theorem zyX3_meets : yX3_meets.cls ≠ "java/lang/invoke/MethodHandle" ∧ yX3_meets.cls ≠ "java/lang/invoke/VarHandle" ∧ (parseMethodDescriptor yX3_meets.desc).map (fun d => d.parameters.length) = some 5 := by decide +kernel
set_option maxHeartbeats 4000000 in
set_option maxRecDepth 100000 in
theorem c_X3_meets (l : Launch) (D : va_G) (cI cZ cT : ClassId) (h : Nat) (ad : Nat → Nat) (S : zx_S) (sz : Nat) (N : Nat) (p1 : Int32) (p2 : Int32) (p3 : Int32) (p4 : Int32) (p5 : Int32) {R : Int32} (hM : f_X3_meets N p1 p2 p3 p4 p5 S = some R) : Met l yX3_meets zsX3_meets rmX3_meets (va_Pc [.ref h, .int p1, .int p2, .int p3, .int p4, .int p5] (bS D (zx_ty cI cZ cT) (xW3 cI cZ h ad S) sz)) (va_Qi (fun r (_ : Unit) => R = r) (fun _ _ => True) (fun q => sz ≤ q)) 0 0 (fun q => sz ≤ q) := by
  refine Met.ofW (cc := cX3_meets) (maxL := 6) (ret := (some .boolean)) (by decide) rfl ?_
  intro p e s m args below meth c s₁ B hml hv
  obtain ⟨rfl, hsz, hP, hK, hD0, hN⟩ := hv
  have hx := B.exec
  have hb := B.bytes
  have hr := B.returns
  have hts : ∀ w ∈ wsL_law, w.before _ s = true := fun w hw => atoms_spec (ws := zsX3_meets) B.pre w (List.mem_cons_of_mem _ hw)
  have hown : s.vm.findClass RX3 = some m.cls := findClass_of_methodNamed B.named
  have hlocks := B.notSynchronized
  subst hsz
  generalize hAe : (fun q : Nat => s.heap.size ≤ q) = A
  have hA : ∀ q : Nat, s.heap.size ≤ q → A q := fun q h => by rw [← hAe]; exact h
  have hD := hD0
  have hS : va_S A s.heap s.heap [] := va_S.rf
  have hl := lv_entry ([.ref h, .int p1, .int p2, .int p3, .int p4, .int p5]) (n := 6) (Nat.le_of_ble_eq_true rfl)
  rw [lg_entry_eq]
  generalize (lg_sl ([.ref h, .int p1, .int p2, .int p3, .int p4, .int p5]) ++ List.replicate (6 - (lg_sl ([.ref h, .int p1, .int p2, .int p3, .int p4, .int p5])).length) Slot.unset).toArray = ls at hl ⊢
  have hl : lv_has ls 6 [(0, .ref h), (1, .int p1), (2, .int p2), (3, .int p3), (4, .int p4), (5, .int p5)] := hl
  generalize hQ : MQ below (va_Qi (fun r (_ : Unit) => R = r) (fun _ _ => True) A) ([.ref h, .int p1, .int p2, .int p3, .int p4, .int p5] : List Value).toArray s 0 0 A = Q9
  replace hQ := hQ.symm
  unfold f_X3_meets at hM
  refine lv_aload_n hx hb dX3_meets_0 rfl (lv_at hl 0 rfl) ?_
  refine va_get (D := D) (ci := 3) (v := .ref (ad 6)) (C := RX3) (T := TX3) (N := 20) hx hb hts inlX3 hown hK hP 0 rfl rfl 9 (by decide) (hts _ zw_4_1) (fun _ h9 => h9) rfl dX3_meets_1 ?_
  refine lv_iconst (v := 4) hx hb dX3_meets_4 (by decide) ?_
  refine lv_iload_n hx hb dX3_meets_5 rfl (lv_at hl 1 rfl) ?_
  refine lv_imul hx hb dX3_meets_6 ?_
  obtain ⟨x1, q2, ex1, hM⟩ := zx_rdE hM
  refine va_iald (D := D) hx hb hK hP 7 0 rfl rfl q2 dX3_meets_7 ?_
  refine zx_top ex1 ?_
  refine lv_iload hx hb dX3_meets_8 (lv_at hl 4 rfl) ?_
  refine lv_icmp_gt (tgt := 60) hx hb dX3_meets_10 (by decide) (fun q3 => ?_) (fun q3 => ?_)
  · replace hM := zx_t q3 hM
    refine lv_iconst (v := 0) hx hb dX3_meets_60 (by decide) ?_
    rw [hQ]
    exact W.zret hx hb hr (by rfl) (fun t ht hW => ⟨⟨0, (), rfl, (Option.some.inj hM).symm, trivial⟩, hS.F ht⟩) hS.2.2 dX3_meets_61
  · replace hM := zx_f q3 hM
    refine lv_aload_n hx hb dX3_meets_13 rfl (lv_at hl 0 rfl) ?_
    refine va_get (D := D) (ci := 3) (v := .ref (ad 6)) (C := RX3) (T := TX3) (N := 20) hx hb hts inlX3 hown hK hP 0 rfl rfl 9 (by decide) (hts _ zw_4_1) (fun _ h9 => h9) rfl dX3_meets_14 ?_
    refine lv_iconst (v := 4) hx hb dX3_meets_17 (by decide) ?_
    refine lv_iload_n hx hb dX3_meets_18 rfl (lv_at hl 1 rfl) ?_
    refine lv_imul hx hb dX3_meets_19 ?_
    refine lv_iconst (v := 2) hx hb dX3_meets_20 (by decide) ?_
    refine lv_iadd hx hb dX3_meets_21 ?_
    obtain ⟨x4, q5, ex4, hM⟩ := zx_rdE hM
    refine va_iald (D := D) hx hb hK hP 7 0 rfl rfl q5 dX3_meets_22 ?_
    refine zx_top ex4 ?_
    refine lv_iload_n hx hb dX3_meets_23 rfl (lv_at hl 2 rfl) ?_
    refine lv_icmp_lt (tgt := 60) hx hb dX3_meets_24 (by decide) (fun q6 => ?_) (fun q6 => ?_)
    · replace hM := zx_t q6 hM
      refine lv_iconst (v := 0) hx hb dX3_meets_60 (by decide) ?_
      rw [hQ]
      exact W.zret hx hb hr (by rfl) (fun t ht hW => ⟨⟨0, (), rfl, (Option.some.inj hM).symm, trivial⟩, hS.F ht⟩) hS.2.2 dX3_meets_61
    · replace hM := zx_f q6 hM
      refine lv_aload_n hx hb dX3_meets_27 rfl (lv_at hl 0 rfl) ?_
      refine va_get (D := D) (ci := 3) (v := .ref (ad 6)) (C := RX3) (T := TX3) (N := 20) hx hb hts inlX3 hown hK hP 0 rfl rfl 9 (by decide) (hts _ zw_4_1) (fun _ h9 => h9) rfl dX3_meets_28 ?_
      refine lv_iconst (v := 4) hx hb dX3_meets_31 (by decide) ?_
      refine lv_iload_n hx hb dX3_meets_32 rfl (lv_at hl 1 rfl) ?_
      refine lv_imul hx hb dX3_meets_33 ?_
      refine lv_iconst (v := 1) hx hb dX3_meets_34 (by decide) ?_
      refine lv_iadd hx hb dX3_meets_35 ?_
      obtain ⟨x7, q8, ex7, hM⟩ := zx_rdE hM
      refine va_iald (D := D) hx hb hK hP 7 0 rfl rfl q8 dX3_meets_36 ?_
      refine zx_top ex7 ?_
      refine lv_iload hx hb dX3_meets_37 (lv_at hl 5 rfl) ?_
      refine lv_icmp_gt (tgt := 60) hx hb dX3_meets_39 (by decide) (fun q9 => ?_) (fun q9 => ?_)
      · replace hM := zx_t q9 hM
        refine lv_iconst (v := 0) hx hb dX3_meets_60 (by decide) ?_
        rw [hQ]
        exact W.zret hx hb hr (by rfl) (fun t ht hW => ⟨⟨0, (), rfl, (Option.some.inj hM).symm, trivial⟩, hS.F ht⟩) hS.2.2 dX3_meets_61
      · replace hM := zx_f q9 hM
        refine lv_aload_n hx hb dX3_meets_42 rfl (lv_at hl 0 rfl) ?_
        refine va_get (D := D) (ci := 3) (v := .ref (ad 6)) (C := RX3) (T := TX3) (N := 20) hx hb hts inlX3 hown hK hP 0 rfl rfl 9 (by decide) (hts _ zw_4_1) (fun _ h9 => h9) rfl dX3_meets_43 ?_
        refine lv_iconst (v := 4) hx hb dX3_meets_46 (by decide) ?_
        refine lv_iload_n hx hb dX3_meets_47 rfl (lv_at hl 1 rfl) ?_
        refine lv_imul hx hb dX3_meets_48 ?_
        refine lv_iconst (v := 3) hx hb dX3_meets_49 (by decide) ?_
        refine lv_iadd hx hb dX3_meets_50 ?_
        obtain ⟨x10, q11, ex10, hM⟩ := zx_rdE hM
        refine va_iald (D := D) hx hb hK hP 7 0 rfl rfl q11 dX3_meets_51 ?_
        refine zx_top ex10 ?_
        refine lv_iload_n hx hb dX3_meets_52 rfl (lv_at hl 3 rfl) ?_
        refine lv_icmp_lt (tgt := 60) hx hb dX3_meets_53 (by decide) (fun q12 => ?_) (fun q12 => ?_)
        · replace hM := zx_t q12 hM
          refine lv_iconst (v := 0) hx hb dX3_meets_60 (by decide) ?_
          rw [hQ]
          exact W.zret hx hb hr (by rfl) (fun t ht hW => ⟨⟨0, (), rfl, (Option.some.inj hM).symm, trivial⟩, hS.F ht⟩) hS.2.2 dX3_meets_61
        · replace hM := zx_f q12 hM
          refine lv_iconst (v := 1) hx hb dX3_meets_56 (by decide) ?_
          refine lv_goto (tgt := 61) hx hb dX3_meets_57 (by decide) ?_
          rw [hQ]
          exact W.zret hx hb hr (by rfl) (fun t ht hW => ⟨⟨1, (), rfl, (Option.some.inj hM).symm, trivial⟩, hS.F ht⟩) hS.2.2 dX3_meets_61

/-! ShallowBoxesModel.window(IIII)I -/
def f_X3_window_j83 (N : Nat) (k39 : Int32 → Int32 → Int32 → Int32 → Int32 → Int32 → zx_S → Option (Int32 × zx_S)) (v1 : Int32) (v2 : Int32) (v3 : Int32) (v4 : Int32) (v6 : Int32) (t0 : Int32) (t1 : Int32) (S_ : zx_S) : Option (Int32 × zx_S) :=
  (zx_n (t0 ||| t1) (fun x6 =>
(zx_n (v6 + 1) (fun x7 =>
k39 v1 v2 v3 v4 x6 x7 S_))))
def f_X3_window_j82 (N : Nat) (k39 : Int32 → Int32 → Int32 → Int32 → Int32 → Int32 → zx_S → Option (Int32 × zx_S)) (v1 : Int32) (v2 : Int32) (v3 : Int32) (v4 : Int32) (v6 : Int32) (t0 : Int32) (S_ : zx_S) : Option (Int32 × zx_S) :=
  f_X3_window_j83 N k39 v1 v2 v3 v4 v6 t0 0 S_
def f_X3_window_l39 (N : Nat) : Nat → Int32 → Int32 → Int32 → Int32 → Int32 → Int32 → zx_S → Option (Int32 × zx_S)
  | 0, _, _, _, _, _, _, _ => none
  | n39 + 1, v1, v2, v3, v4, v5, v6, S_ => (if 24 ≤ v6 then
  some (v5, S_) else
  (zx_rd 380 (S_ 1) (5 * v6) (fun x8 =>
(if x8 = 1 then
  (zx_b1 (f_X3_meets N v6 v1 v2 v3 v4 S_) (fun x11 =>
(if x11 = 0 then
  f_X3_window_j82 N (f_X3_window_l39 N  n39) v1 v2 v3 v4 v6 v5 S_ else
  f_X3_window_j83 N (f_X3_window_l39 N  n39) v1 v2 v3 v4 v6 v5 (1 <<< (v6 &&& 31)) S_))) else
  f_X3_window_j82 N (f_X3_window_l39 N  n39) v1 v2 v3 v4 v6 v5 S_))))
def f_X3_window_j17 (N : Nat) (v1 : Int32) (v2 : Int32) (v3 : Int32) (v4 : Int32) (t1 : Int32) (S_ : zx_S) : Option (Int32 × zx_S) :=
  (zx_b2 (f_X3_refused N t1 S_) (fun x1 T2 =>
(if x1 = 0 then
  (zx_b1 (f_X3_layBoxes N 1 T2) (fun T14 =>
f_X3_window_l39 N  N v1 v2 v3 v4 0 0 T14)) else
  some (0, T2))))
def f_X3_window (N : Nat) (p1 : Int32) (p2 : Int32) (p3 : Int32) (p4 : Int32) (S : zx_S) : Option (Int32 × zx_S) :=
  (zx_b1 (f_X3_isRectangle N p1 p2 p3 p4) (fun x16 =>
(if x16 = 0 then
  f_X3_window_j17 N  p1 p2 p3 p4 1 S else
  f_X3_window_j17 N  p1 p2 p3 p4 0 S)))
abbrev rmX3_window : Room := { frames := 3, cells := 0, slots := 0, locals := 66 }
abbrev zsX3_window : List Cond := .code yX3_window cX3_window 7 (some .int) :: wsL_law
theorem zyX3_window : yX3_window.cls ≠ "java/lang/invoke/MethodHandle" ∧ yX3_window.cls ≠ "java/lang/invoke/VarHandle" ∧ (parseMethodDescriptor yX3_window.desc).map (fun d => d.parameters.length) = some 4 := by decide +kernel
set_option maxHeartbeats 4000000 in
set_option maxRecDepth 100000 in
theorem c_X3_window (l : Launch) (D : va_G) (cI cZ cT : ClassId) (h : Nat) (ad : Nat → Nat) (S : zx_S) (sz : Nat) (N : Nat) (p1 : Int32) (p2 : Int32) (p3 : Int32) (p4 : Int32) {R : Int32 × zx_S} (hM : f_X3_window N p1 p2 p3 p4 S = some R) : Met l yX3_window zsX3_window rmX3_window (va_Pc [.ref h, .int p1, .int p2, .int p3, .int p4] (bS D (zx_ty cI cZ cT) (xW3 cI cZ h ad S) sz)) (va_Qi (fun r u => R = (r, u)) (fun u t => va_P D vwCl (xW3 cI cZ h ad u) t.heap) (va_A (xW3 cI cZ h ad S) sz)) 0 0 (va_A (xW3 cI cZ h ad S) sz) := by
  refine Met.ofW (cc := cX3_window) (maxL := 7) (ret := (some .int)) (by decide) rfl ?_
  intro p e s m args below meth c s₁ B hml hv
  obtain ⟨rfl, hsz, hP, hK, hD0, hN⟩ := hv
  have hx := B.exec
  have hb := B.bytes
  have hr := B.returns
  have hts : ∀ w ∈ wsL_law, w.before _ s = true := fun w hw => atoms_spec (ws := zsX3_window) B.pre w (List.mem_cons_of_mem _ hw)
  have hown : s.vm.findClass RX3 = some m.cls := findClass_of_methodNamed B.named
  have hlocks := B.notSynchronized
  subst hsz
  have hD := hD0.self (sz := s.heap.size)
  generalize hAe : va_A (xW3 cI cZ h ad S) s.heap.size = A at hD ⊢
  have hA : ∀ q : Nat, s.heap.size ≤ q → A q := fun q h => by rw [← hAe]; exact Or.inr h
  have hS : va_S A s.heap s.heap [] := va_S.rf
  have hl := lv_entry ([.ref h, .int p1, .int p2, .int p3, .int p4]) (n := 7) (Nat.le_of_ble_eq_true rfl)
  rw [lg_entry_eq]
  generalize (lg_sl ([.ref h, .int p1, .int p2, .int p3, .int p4]) ++ List.replicate (7 - (lg_sl ([.ref h, .int p1, .int p2, .int p3, .int p4])).length) Slot.unset).toArray = ls at hl ⊢
  have hl : lv_has ls 7 [(0, .ref h), (1, .int p1), (2, .int p2), (3, .int p3), (4, .int p4)] := hl
  generalize hQ : MQ below (va_Qi (fun r u => R = (r, u)) (fun u t => va_P D vwCl (xW3 cI cZ h ad u) t.heap) A) ([.ref h, .int p1, .int p2, .int p3, .int p4] : List Value).toArray s 0 0 A = Q9
  replace hQ := hQ.symm
  unfold f_X3_window at hM
  have j17 : ∀ (v1 : Int32) (v2 : Int32) (v3 : Int32) (v4 : Int32) (t1 : Int32) (S_ : zx_S) (H : Heap) (lc : List Loc) (ls : Array Slot), va_P D vwCl (xW3 cI cZ h ad S_) H → va_D A (xW3 cI cZ h ad S_) → va_S A s.heap H lc → lv_has ls 7 [(0, .ref h), (1, .int v1), (2, .int v2), (3, .int v3), (4, .int v4)] → f_X3_window_j17 N v1 v2 v3 v4 t1 S_ = some R → W p l e (headSpec zsX3_window rmX3_window).room s m ([.ref h, .int p1, .int p2, .int p3, .int p4] : List Value).toArray below meth c H lc 0 0 Q9 (F0 m 17 ls [.int t1, .ref h]) := by
    intro v1 v2 v3 v4 t1 S_ H lc ls hP hD hS hl hM
    unfold f_X3_window_j17 at hM
    obtain ⟨x1, T2, hz3, hM⟩ := zx_b2E hM
    refine va_calli (va_runV (As := [.int t1]) (rest := []) ⟨hx, hb, hml, hown, hts⟩ (c_X3_refused l D cI cZ cT h ad S_ _ N t1  hz3) (cwV 1 hts (zg_V zw_5_14 zw_5_15 zw_5_16 zw_1_5 zw_5_17) rfl rfl rfl ⟨rfl, zyX3_refused⟩ ⟨Nat.le_of_ble_eq_true rfl, Nat.le_of_ble_eq_true rfl⟩) ⟨bS_blind, va_recv hK hP (ci := 3) (q0 := 0) rfl rfl, bS_pre hP hK hD hN⟩ rfl rfl hl.1 rfl (lv_room (Nat.le_of_ble_eq_true rfl)) dX3_window_17 ⟨Nat.zero_le _, Nat.zero_le _⟩) hS (fun q _ h => zx_fW hD hS hA q h) (fun q h => zx_fW hD hS hA q h) (fun r u t H1 lc ht hvm hw hB hz1 hk1 hS => ?_)
    obtain ⟨hw1, hw2⟩ := Prod.mk.inj hw; subst hw1; subst hw2
    rw [ht] at hB
    replace hP := hB
    replace hD := xW3_D T2 hD
    refine lv_if_eq (tgt := 25) hx hb dX3_window_20 (by decide) (fun q4 => ?_) (fun q4 => ?_)
    · replace hM := zx_t q4 hM
      have l39 : ∀ (n39 : Nat) (v1 : Int32) (v2 : Int32) (v3 : Int32) (v4 : Int32) (v5 : Int32) (v6 : Int32) (S_ : zx_S) (H : Heap) (lc : List Loc) (ls : Array Slot), va_P D vwCl (xW3 cI cZ h ad S_) H → va_D A (xW3 cI cZ h ad S_) → va_S A s.heap H lc → lv_has ls 7 [(0, .ref h), (1, .int v1), (2, .int v2), (3, .int v3), (4, .int v4), (5, .int v5), (6, .int v6)] → f_X3_window_l39 N n39 v1 v2 v3 v4 v5 v6 S_ = some R → W p l e (headSpec zsX3_window rmX3_window).room s m ([.ref h, .int p1, .int p2, .int p3, .int p4] : List Value).toArray below meth c H lc 0 0 Q9 (F0 m 39 ls []) := by
        intro n39
        induction n39 with
        | zero =>
          intro v1 v2 v3 v4 v5 v6 S_ H lc ls hP hD hS hl hM
          rw [f_X3_window_l39] at hM; exact absurd hM (by intro h; cases h)
        | succ n39 ih39 =>
          intro v1 v2 v3 v4 v5 v6 S_ H lc ls hP hD hS hl hM
          rw [f_X3_window_l39] at hM
          refine lv_iload hx hb dX3_window_39 (lv_at hl 6 rfl) ?_
          refine lv_bipush (v := 24) hx hb dX3_window_41 (by decide) ?_
          refine lv_icmp_ge (tgt := 92) hx hb dX3_window_43 (by decide) (fun q5 => ?_) (fun q5 => ?_)
          · replace hM := zx_t q5 hM
            refine lv_iload hx hb dX3_window_92 (lv_at hl 5 rfl) ?_
            rw [hQ]
            exact W.iret hx hb hr (fun t ht hW => ⟨⟨v5, S_, rfl, (Option.some.inj hM).symm, by show va_P D vwCl _ t.heap; rw [ht]; exact hP⟩, hS.F ht⟩) hS.2.2 dX3_window_94
          · replace hM := zx_f q5 hM
            have j83 : ∀ (v1 : Int32) (v2 : Int32) (v3 : Int32) (v4 : Int32) (v6 : Int32) (t0 : Int32) (t1 : Int32) (S_ : zx_S) (H : Heap) (lc : List Loc) (ls : Array Slot), va_P D vwCl (xW3 cI cZ h ad S_) H → va_D A (xW3 cI cZ h ad S_) → va_S A s.heap H lc → lv_has ls 7 [(0, .ref h), (1, .int v1), (2, .int v2), (3, .int v3), (4, .int v4), (6, .int v6)] → f_X3_window_j83 N (f_X3_window_l39 N  n39) v1 v2 v3 v4 v6 t0 t1 S_ = some R → W p l e (headSpec zsX3_window rmX3_window).room s m ([.ref h, .int p1, .int p2, .int p3, .int p4] : List Value).toArray below meth c H lc 0 0 Q9 (F0 m 83 ls [.int t1, .int t0]) := by
              intro v1 v2 v3 v4 v6 t0 t1 S_ H lc ls hP hD hS hl hM
              unfold f_X3_window_j83 at hM
              refine lv_ior hx hb dX3_window_83 ?_
              obtain ⟨x6, ex6, hM⟩ := zx_nE hM
              refine zx_top ex6 ?_
              refine lv_istore (lv' := [(5, .int x6), (0, .ref h), (1, .int v1), (2, .int v2), (3, .int v3), (4, .int v4), (6, .int v6)]) hx hb dX3_window_84 hl (by decide) rfl (fun ls hl => ?_)
              obtain ⟨x7, ex7, hM⟩ := zx_nE hM
              refine lv_iinc (v := x7) (lv' := [(6, .int x7), (5, .int x6), (0, .ref h), (1, .int v1), (2, .int v2), (3, .int v3), (4, .int v4)]) hx hb dX3_window_86 hl (k := 6) rfl (by rw [ex7]; rfl) (by decide) rfl (fun ls hl => ?_)
              refine lv_goto (tgt := 39) hx hb dX3_window_89 (by decide) ?_
              exact ih39 v1 v2 v3 v4 x6 x7 S_ _ _ _ hP hD hS (lv_sub hl [2, 3, 4, 5, 6, 1, 0] rfl) hM
            have j82 : ∀ (v1 : Int32) (v2 : Int32) (v3 : Int32) (v4 : Int32) (v6 : Int32) (t0 : Int32) (S_ : zx_S) (H : Heap) (lc : List Loc) (ls : Array Slot), va_P D vwCl (xW3 cI cZ h ad S_) H → va_D A (xW3 cI cZ h ad S_) → va_S A s.heap H lc → lv_has ls 7 [(0, .ref h), (1, .int v1), (2, .int v2), (3, .int v3), (4, .int v4), (6, .int v6)] → f_X3_window_j82 N (f_X3_window_l39 N  n39) v1 v2 v3 v4 v6 t0 S_ = some R → W p l e (headSpec zsX3_window rmX3_window).room s m ([.ref h, .int p1, .int p2, .int p3, .int p4] : List Value).toArray below meth c H lc 0 0 Q9 (F0 m 82 ls [.int t0]) := by
              intro v1 v2 v3 v4 v6 t0 S_ H lc ls hP hD hS hl hM
              unfold f_X3_window_j82 at hM
              refine lv_iconst (v := 0) hx hb dX3_window_82 (by decide) ?_
              exact j83 v1 v2 v3 v4 v6 t0 0 S_ _ _ _ hP hD hS (lv_sub hl [0, 1, 2, 3, 4, 5] rfl) hM
            refine lv_iload hx hb dX3_window_46 (lv_at hl 5 rfl) ?_
            refine lv_aload_n hx hb dX3_window_48 rfl (lv_at hl 0 rfl) ?_
            refine va_get (D := D) (ci := 3) (v := .ref (ad 1)) (C := RX3) (T := TX3) (N := 20) hx hb hts inlX3 hown hK hP 0 rfl rfl 3 (by decide) (hts _ zw_3_19) (fun _ h9 => h9) rfl dX3_window_49 ?_
            refine lv_iconst (v := 5) hx hb dX3_window_52 (by decide) ?_
            refine lv_iload hx hb dX3_window_53 (lv_at hl 6 rfl) ?_
            refine lv_imul hx hb dX3_window_55 ?_
            obtain ⟨x8, q9, ex8, hM⟩ := zx_rdE hM
            refine va_iald (D := D) hx hb hK hP 2 0 rfl rfl q9 dX3_window_56 ?_
            refine zx_top ex8 ?_
            refine lv_iconst (v := 1) hx hb dX3_window_57 (by decide) ?_
            refine lv_icmp_ne (tgt := 82) hx hb dX3_window_58 (by decide) (fun q10 => ?_) (fun q10 => ?_)
            · replace hM := zx_f q10 hM
              exact j82 v1 v2 v3 v4 v6 v5 S_ _ _ _ hP hD hS (lv_sub hl [0, 1, 2, 3, 4, 6] rfl) hM
            · replace hM := zx_t q10 hM
              refine lv_aload_n hx hb dX3_window_61 rfl (lv_at hl 0 rfl) ?_
              refine lv_iload hx hb dX3_window_62 (lv_at hl 6 rfl) ?_
              refine lv_iload_n hx hb dX3_window_64 rfl (lv_at hl 1 rfl) ?_
              refine lv_iload_n hx hb dX3_window_65 rfl (lv_at hl 2 rfl) ?_
              refine lv_iload_n hx hb dX3_window_66 rfl (lv_at hl 3 rfl) ?_
              refine lv_iload hx hb dX3_window_67 (lv_at hl 4 rfl) ?_
              obtain ⟨x11, hz12, hM⟩ := zx_b1E hM
              refine va_calli (va_runV (As := [.int v6, .int v1, .int v2, .int v3, .int v4]) (rest := [.int v5]) ⟨hx, hb, hml, hown, hts⟩ (c_X3_meets l D cI cZ cT h ad S_ _ N v6 v1 v2 v3 v4  hz12) (cwV 5 hts (zg_V zw_27_9 zw_27_10 zw_27_11 zw_1_5 zw_27_12) rfl rfl rfl ⟨rfl, zyX3_meets⟩ ⟨Nat.le_of_ble_eq_true rfl, Nat.le_of_ble_eq_true rfl⟩) ⟨bS_blind, va_recv hK hP (ci := 3) (q0 := 0) rfl rfl, bS_pre hP hK hD hN⟩ rfl rfl hl.1 rfl (lv_room (Nat.le_of_ble_eq_true rfl)) dX3_window_69 ⟨Nat.zero_le _, Nat.zero_le _⟩) hS (fun q h1 h2 => absurd h1 (Nat.not_lt.mpr h2)) (fun q h => hA q (Nat.le_trans hS.1 h)) (fun r u t H1 lc ht hvm hw hB hz1 hk1 hS => ?_)
              replace hw : x11 = r := hw; subst hw
              replace hP := zx_keep hP hk1
              refine lv_if_eq (tgt := 82) hx hb dX3_window_72 (by decide) (fun q13 => ?_) (fun q13 => ?_)
              · replace hM := zx_t q13 hM
                exact j82 v1 v2 v3 v4 v6 v5 S_ _ _ _ hP hD hS (lv_sub hl [0, 1, 2, 3, 4, 6] rfl) hM
              · replace hM := zx_f q13 hM
                refine lv_iconst (v := 1) hx hb dX3_window_75 (by decide) ?_
                refine lv_iload hx hb dX3_window_76 (lv_at hl 6 rfl) ?_
                refine lv_ishl hx hb dX3_window_78 ?_
                refine lv_goto (tgt := 83) hx hb dX3_window_79 (by decide) ?_
                exact j83 v1 v2 v3 v4 v6 v5 (1 <<< (v6 &&& 31)) S_ _ _ _ hP hD hS (lv_sub hl [0, 1, 2, 3, 4, 6] rfl) hM
      refine lv_aload_n hx hb dX3_window_25 rfl (lv_at hl 0 rfl) ?_
      refine lv_aload_n hx hb dX3_window_26 rfl (lv_at hl 0 rfl) ?_
      refine va_get (D := D) (ci := 3) (v := .ref (ad 1)) (C := RX3) (T := TX3) (N := 20) hx hb hts inlX3 hown hK hP 0 rfl rfl 3 (by decide) (hts _ zw_3_19) (fun _ h9 => h9) rfl dX3_window_27 ?_
      obtain ⟨T14, hz15, hM⟩ := zx_b1E hM
      refine va_callv (va_runV (As := [.ref (ad 1)]) (rest := []) ⟨hx, hb, hml, hown, hts⟩ (c_X3_layBoxes l D cI cZ cT h ad T2 _ N 1 (Or.inl rfl)  hz15) (cwV 1 hts (zg_V zw_8_23 zw_9_0 zw_9_1 zw_1_5 zw_9_2) rfl rfl rfl ⟨rfl, zyX3_layBoxes⟩ ⟨Nat.le_of_ble_eq_true rfl, Nat.le_of_ble_eq_true rfl⟩) ⟨bS_blind, va_recv hK hP (ci := 3) (q0 := 0) rfl rfl, bS_pre hP hK hD hN⟩ rfl rfl hl.1 rfl (lv_room (Nat.le_of_ble_eq_true rfl)) dX3_window_30 ⟨Nat.zero_le _, Nat.zero_le _⟩) hS (fun q _ h => zx_fW hD hS hA q h) (fun q h => zx_fW hD hS hA q h) (fun u t H1 lc ht hvm hw hB hz1 hk1 hS => ?_)
      replace hw : T14 = u := hw; subst hw
      rw [ht] at hB
      replace hP := hB
      replace hD := xW3_D T14 hD
      refine lv_iconst (v := 0) hx hb dX3_window_33 (by decide) ?_
      refine lv_istore (lv' := [(5, .int 0), (0, .ref h), (1, .int v1), (2, .int v2), (3, .int v3), (4, .int v4)]) hx hb dX3_window_34 hl (by decide) rfl (fun ls hl => ?_)
      refine lv_iconst (v := 0) hx hb dX3_window_36 (by decide) ?_
      refine lv_istore (lv' := [(6, .int 0), (5, .int 0), (0, .ref h), (1, .int v1), (2, .int v2), (3, .int v3), (4, .int v4)]) hx hb dX3_window_37 hl (by decide) rfl (fun ls hl => ?_)
      exact l39 N v1 v2 v3 v4 0 0 T14 _ _ _ hP hD hS (lv_sub hl [2, 3, 4, 5, 6, 1, 0] rfl) hM
    · replace hM := zx_f q4 hM
      refine lv_iconst (v := 0) hx hb dX3_window_23 (by decide) ?_
      rw [hQ]
      exact W.iret hx hb hr (fun t ht hW => ⟨⟨0, T2, rfl, (Option.some.inj hM).symm, by show va_P D vwCl _ t.heap; rw [ht]; exact hP⟩, hS.F ht⟩) hS.2.2 dX3_window_24
  refine lv_aload_n hx hb dX3_window_0 rfl (lv_at hl 0 rfl) ?_
  refine lv_iload_n hx hb dX3_window_1 rfl (lv_at hl 1 rfl) ?_
  refine lv_iload_n hx hb dX3_window_2 rfl (lv_at hl 2 rfl) ?_
  refine lv_iload_n hx hb dX3_window_3 rfl (lv_at hl 3 rfl) ?_
  refine lv_iload hx hb dX3_window_4 (lv_at hl 4 rfl) ?_
  obtain ⟨x16, hz17, hM⟩ := zx_b1E hM
  refine va_calli (va_runS (As := [.int p1, .int p2, .int p3, .int p4]) (rest := [.ref h]) ⟨hx, hb, hml, hown, hts⟩ (c_X3_isRectangle l D cI cZ cT _ N p1 p2 p3 p4 hz17) (va_cwS 4 hts (zg_S zw_22_19 zw_22_20 zw_1_5 zw_22_21) rfl rfl rfl zyX3_isRectangle ⟨Nat.le_of_ble_eq_true rfl, Nat.le_of_ble_eq_true rfl⟩) ⟨bS_blind, bS_pre (zx_P0 hP) hK (zx_D0 hD) hN⟩ rfl rfl hl.1 rfl (lv_room (Nat.le_of_ble_eq_true rfl)) dX3_window_6 ⟨Nat.zero_le _, Nat.zero_le _⟩) hS (fun q h1 h2 => absurd h1 (Nat.not_lt.mpr h2)) (fun q h => hA q (Nat.le_trans hS.1 h)) (fun r u t H1 lc ht hvm hw hB hz1 hk1 hS => ?_)
  replace hw : x16 = r := hw; subst hw
  replace hP := zx_keep hP hk1
  refine lv_if_eq (tgt := 16) hx hb dX3_window_9 (by decide) (fun q18 => ?_) (fun q18 => ?_)
  · replace hM := zx_t q18 hM
    refine lv_iconst (v := 1) hx hb dX3_window_16 (by decide) ?_
    exact j17 p1 p2 p3 p4 1 S _ _ _ hP hD hS (lv_sub hl [0, 1, 2, 3, 4] rfl) hM
  · replace hM := zx_f q18 hM
    refine lv_iconst (v := 0) hx hb dX3_window_12 (by decide) ?_
    refine lv_goto (tgt := 17) hx hb dX3_window_13 (by decide) ?_
    exact j17 p1 p2 p3 p4 0 S _ _ _ hP hD hS (lv_sub hl [0, 1, 2, 3, 4] rfl) hM
