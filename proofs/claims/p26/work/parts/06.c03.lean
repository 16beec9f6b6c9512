/-! ShallowBoxes$Tree.beginCall()V -/
def f_X1_beginCall_l2 (N : Nat) : Nat → Int32 → zx_S → Option (zx_S)
  | 0, _, _ => none
  | n2 + 1, v1, S_ => (if 8 ≤ v1 then
  some S_ else
  (zx_b1 (f_X2_put N 8 v1 0 (S_ 5)) (fun g2 =>
(zx_n (zx_st S_ 5 g2) (fun T4 =>
(zx_n (v1 + 1) (fun x5 =>
f_X1_beginCall_l2 N  n2 x5 T4)))))))
def f_X1_beginCall (N : Nat) (S : zx_S) : Option (zx_S) :=
  f_X1_beginCall_l2 N  N 0 S
abbrev rmX1_beginCall : Room := { frames := 1, cells := 0, slots := 0, locals := 22 }
abbrev zsX1_beginCall : List Cond := .code yX1_beginCall cX1_beginCall 2 none :: wsL_law
theorem zyX1_beginCall : yX1_beginCall.cls ≠ "java/lang/invoke/MethodHandle" ∧ yX1_beginCall.cls ≠ "java/lang/invoke/VarHandle" ∧ (parseMethodDescriptor yX1_beginCall.desc).map (fun d => d.parameters.length) = some 0 := by decide +kernel
set_option maxHeartbeats 4000000 in
set_option maxRecDepth 100000 in
theorem c_X1_beginCall (l : Launch) (D : va_G) (cI cZ cT : ClassId) (h : Nat) (ad : Nat → Nat) (S : zx_S) (sz : Nat) (N : Nat) {R : zx_S} (hM : f_X1_beginCall N S = some R) : Met l yX1_beginCall zsX1_beginCall rmX1_beginCall (va_Pc [.ref h] (bS D (zx_ty cI cZ cT) (xW1 cI h ad S) sz)) (va_Qv (fun u => R = u) (fun u t => va_P D vwCl (xW1 cI h ad u) t.heap) (va_A (xW1 cI h ad S) sz)) 0 0 (va_A (xW1 cI h ad S) sz) := by
  refine Met.ofW (cc := cX1_beginCall) (maxL := 2) (ret := none) (by decide) rfl ?_
  intro p e s m args below meth c s₁ B hml hv
  obtain ⟨rfl, hsz, hP, hK, hD0, hN⟩ := hv
  have hx := B.exec
  have hb := B.bytes
  have hr := B.returns
  have hts : ∀ w ∈ wsL_law, w.before _ s = true := fun w hw => atoms_spec (ws := zsX1_beginCall) B.pre w (List.mem_cons_of_mem _ hw)
  have hown : s.vm.findClass RX1 = some m.cls := findClass_of_methodNamed B.named
  have hlocks := B.notSynchronized
  subst hsz
  have hD := hD0.self (sz := s.heap.size)
  generalize hAe : va_A (xW1 cI h ad S) s.heap.size = A at hD ⊢
  have hA : ∀ q : Nat, s.heap.size ≤ q → A q := fun q h => by rw [← hAe]; exact Or.inr h
  have hS : va_S A s.heap s.heap [] := va_S.rf
  have hl := lv_entry ([.ref h]) (n := 2) (Nat.le_of_ble_eq_true rfl)
  rw [lg_entry_eq]
  generalize (lg_sl ([.ref h]) ++ List.replicate (2 - (lg_sl ([.ref h])).length) Slot.unset).toArray = ls at hl ⊢
  have hl : lv_has ls 2 [(0, .ref h)] := hl
  generalize hQ : MQ below (va_Qv (fun u => R = u) (fun u t => va_P D vwCl (xW1 cI h ad u) t.heap) A) ([.ref h] : List Value).toArray s 0 0 A = Q9
  replace hQ := hQ.symm
  unfold f_X1_beginCall at hM
  have l2 : ∀ (n2 : Nat) (v1 : Int32) (S_ : zx_S) (H : Heap) (lc : List Loc) (ls : Array Slot), va_P D vwCl (xW1 cI h ad S_) H → va_D A (xW1 cI h ad S_) → va_S A s.heap H lc → lv_has ls 2 [(0, .ref h), (1, .int v1)] → f_X1_beginCall_l2 N n2 v1 S_ = some R → W p l e (headSpec zsX1_beginCall rmX1_beginCall).room s m ([.ref h] : List Value).toArray below meth c H lc 0 0 Q9 (F0 m 2 ls []) := by
    intro n2
    induction n2 with
    | zero =>
      intro v1 S_ H lc ls hP hD hS hl hM
      rw [f_X1_beginCall_l2] at hM; exact absurd hM (by intro h; cases h)
    | succ n2 ih2 =>
      intro v1 S_ H lc ls hP hD hS hl hM
      rw [f_X1_beginCall_l2] at hM
      refine lv_iload_n hx hb dX1_beginCall_2 rfl (lv_at hl 1 rfl) ?_
      refine lv_bipush (v := 8) hx hb dX1_beginCall_3 (by decide) ?_
      refine lv_icmp_ge (tgt := 23) hx hb dX1_beginCall_5 (by decide) (fun q1 => ?_) (fun q1 => ?_)
      · replace hM := zx_t q1 hM
        rw [hQ]
        exact W.vret hx hb hr (fun t ht hW => ⟨⟨S_, rfl, (Option.some.inj hM).symm, by show va_P D vwCl _ t.heap; rw [ht]; exact hP⟩, hS.F ht⟩) hS.2.2 dX1_beginCall_23
      · replace hM := zx_f q1 hM
        refine lv_aload_n hx hb dX1_beginCall_8 rfl (lv_at hl 0 rfl) ?_
        refine va_get (D := D) (ci := 1) (v := .ref (ad 5)) (C := RX1) (T := TX1) (N := 14) hx hb hts inlX1 hown hK hP 0 rfl rfl 9 (by decide) (hts _ zw_2_10) (fun _ h9 => h9) rfl dX1_beginCall_9 ?_
        refine lv_iload_n hx hb dX1_beginCall_12 rfl (lv_at hl 1 rfl) ?_
        refine lv_iconst (v := 0) hx hb dX1_beginCall_13 (by decide) ?_
        obtain ⟨g2, hz3, hM⟩ := zx_b1E hM
        refine va_callv (va_runSN (As := [.ref (ad 5), .int v1, .int 0]) (rest := []) ⟨hx, hb, hml, hown, hts⟩ (c_X2_put l D cI cZ cT (ad 5) 8 (S_ 5) _ N v1 0 hz3) ⟨va_cnB 3 hts (zg_c zw_3_0) rfl rfl rfl (hN _ (zx_nw_X1_45)) (hts _ zw_1_2) zyX2_put ⟨Nat.le_of_ble_eq_true rfl, Nat.le_of_ble_eq_true rfl⟩, (hts _ zw_2_23), trivial⟩ ⟨bS_blind, bS_pre (zx_P1 hP 6 (rfl)) hK (zx_D1 hD 6 (rfl)) hN⟩ rfl rfl hl.1 rfl (lv_room (Nat.le_of_ble_eq_true rfl)) dX1_beginCall_14 ⟨Nat.zero_le _, Nat.zero_le _⟩) hS (fun q _ h => zx_f1 hD hS hA (k := 6) rfl q h) (fun q h => zx_f1 hD hS hA (k := 6) rfl q h) (fun u t H1 lc ht hvm hw hB hz1 hk1 hS => ?_)
        replace hw : g2 = u := hw; subst hw
        rw [ht] at hB
        replace hP := zx_set1 (k := 6) hP hD rfl hk1 hB
        replace hD := va_D.set (p := 6) (e := .inl (cI, 8, .inl g2)) hD rfl
        rw [xW1_pa5] at hP hD
        obtain ⟨T4, eT4, hM⟩ := zx_nE hM
        rw [← eT4] at hP hD
        obtain ⟨x5, ex5, hM⟩ := zx_nE hM
        refine lv_iinc (v := x5) (lv' := [(1, .int x5), (0, .ref h)]) hx hb dX1_beginCall_17 hl (k := 1) rfl (by rw [ex5]; rfl) (by decide) rfl (fun ls hl => ?_)
        refine lv_goto (tgt := 2) hx hb dX1_beginCall_20 (by decide) ?_
        exact ih2 x5 T4 _ _ _ hP hD hS (lv_sub hl [1, 0] rfl) hM
  refine lv_iconst (v := 0) hx hb dX1_beginCall_0 (by decide) ?_
  refine lv_istore_n (lv' := [(1, .int 0), (0, .ref h)]) hx hb dX1_beginCall_1 rfl hl (by decide) rfl (fun ls hl => ?_)
  exact l2 N 0 S _ _ _ hP hD hS (lv_sub hl [1, 0] rfl) hM

/-! ShallowBoxes$Tree.branch(II)I -/
def f_X1_branch_j105 (N : Nat) (S : zx_S) (k24 : Int32 → Int32 → Int32 → Int32 → Int32 → Option (Int32)) (v1 : Int32) (v2 : Int32) (v3 : Int32) (v4 : Int32) (v5 : Int32) : Option (Int32) :=
  (zx_n (v5 + 1) (fun x2 =>
k24 v1 v2 v3 v4 x2))
def f_X1_branch_j101 (N : Nat) (S : zx_S) (k24 : Int32 → Int32 → Int32 → Int32 → Int32 → Option (Int32)) (v1 : Int32) (v2 : Int32) (v3 : Int32) (v5 : Int32) (v6 : Int32) : Option (Int32) :=
  f_X1_branch_j105 N S k24 v1 v2 v3 v6 v5
def f_X1_branch_l24 (N : Nat) (S : zx_S) : Nat → Int32 → Int32 → Int32 → Int32 → Int32 → Option (Int32)
  | 0, _, _, _, _, _ => none
  | n24 + 1, v1, v2, v3, v4, v5 => (if v3 ≤ v5 then
  some v4 else
  (zx_b1 (f_X2_get N 245 ((v1 * 5) + v5) (S 4)) (fun x3 =>
(zx_b1 (f_X1_joinArea N x3 v2 S) (fun x5 =>
(zx_b1 (f_X1_area N x3 S) (fun x7 =>
(zx_b1 (f_X1_joinArea N v4 v2 S) (fun x9 =>
(zx_b1 (f_X1_area N v4 S) (fun x11 =>
(zx_n (((x5 - x7) - x9) + x11) (fun x13 =>
(if x13 < 0 then
  f_X1_branch_j101 N S (f_X1_branch_l24 N S  n24) v1 v2 v3 v5 x3 else
  (if x13 = 0 then
  (zx_b1 (f_X1_area N x3 S) (fun x16 =>
(zx_b1 (f_X1_area N v4 S) (fun x18 =>
(if x18 ≤ x16 then
  f_X1_branch_j105 N S (f_X1_branch_l24 N S  n24) v1 v2 v3 v4 v5 else
  f_X1_branch_j101 N S (f_X1_branch_l24 N S  n24) v1 v2 v3 v5 x3))))) else
  f_X1_branch_j105 N S (f_X1_branch_l24 N S  n24) v1 v2 v3 v4 v5)))))))))))))))
def f_X1_branch (N : Nat) (p1 : Int32) (p2 : Int32) (S : zx_S) : Option (Int32) :=
  (zx_b1 (f_X2_get N 49 p1 (S 3)) (fun x21 =>
(zx_b1 (f_X2_get N 245 (p1 * 5) (S 4)) (fun x23 =>
f_X1_branch_l24 N S  N p1 p2 x21 x23 1))))
abbrev rmX1_branch : Room := { frames := 2, cells := 0, slots := 0, locals := 47 }
abbrev zsX1_branch : List Cond := .code yX1_branch cX1_branch 8 (some .int) :: wsL_law
theorem zyX1_branch : yX1_branch.cls ≠ "java/lang/invoke/MethodHandle" ∧ yX1_branch.cls ≠ "java/lang/invoke/VarHandle" ∧ (parseMethodDescriptor yX1_branch.desc).map (fun d => d.parameters.length) = some 2 := by decide +kernel
set_option maxHeartbeats 4000000 in
set_option maxRecDepth 100000 in
theorem c_X1_branch (l : Launch) (D : va_G) (cI cZ cT : ClassId) (h : Nat) (ad : Nat → Nat) (S : zx_S) (sz : Nat) (N : Nat) (p1 : Int32) (p2 : Int32) {R : Int32} (hM : f_X1_branch N p1 p2 S = some R) : Met l yX1_branch zsX1_branch rmX1_branch (va_Pc [.ref h, .int p1, .int p2] (bS D (zx_ty cI cZ cT) (xW1 cI h ad S) sz)) (va_Qi (fun r (_ : Unit) => R = r) (fun _ _ => True) (fun q => sz ≤ q)) 0 0 (fun q => sz ≤ q) := by
  refine Met.ofW (cc := cX1_branch) (maxL := 8) (ret := (some .int)) (by decide) rfl ?_
  intro p e s m args below meth c s₁ B hml hv
  obtain ⟨rfl, hsz, hP, hK, hD0, hN⟩ := hv
  have hx := B.exec
  have hb := B.bytes
  have hr := B.returns
  have hts : ∀ w ∈ wsL_law, w.before _ s = true := fun w hw => atoms_spec (ws := zsX1_branch) B.pre w (List.mem_cons_of_mem _ hw)
  have hown : s.vm.findClass RX1 = some m.cls := findClass_of_methodNamed B.named
  have hlocks := B.notSynchronized
  subst hsz
  generalize hAe : (fun q : Nat => s.heap.size ≤ q) = A
  have hA : ∀ q : Nat, s.heap.size ≤ q → A q := fun q h => by rw [← hAe]; exact h
  have hD := hD0
  have hS : va_S A s.heap s.heap [] := va_S.rf
  have hl := lv_entry ([.ref h, .int p1, .int p2]) (n := 8) (Nat.le_of_ble_eq_true rfl)
  rw [lg_entry_eq]
  generalize (lg_sl ([.ref h, .int p1, .int p2]) ++ List.replicate (8 - (lg_sl ([.ref h, .int p1, .int p2])).length) Slot.unset).toArray = ls at hl ⊢
  have hl : lv_has ls 8 [(0, .ref h), (1, .int p1), (2, .int p2)] := hl
  generalize hQ : MQ below (va_Qi (fun r (_ : Unit) => R = r) (fun _ _ => True) A) ([.ref h, .int p1, .int p2] : List Value).toArray s 0 0 A = Q9
  replace hQ := hQ.symm
  unfold f_X1_branch at hM
  have l24 : ∀ (n24 : Nat) (v1 : Int32) (v2 : Int32) (v3 : Int32) (v4 : Int32) (v5 : Int32) (H : Heap) (lc : List Loc) (ls : Array Slot), va_P D vwCl (xW1 cI h ad S) H → va_S A s.heap H lc → lv_has ls 8 [(0, .ref h), (1, .int v1), (2, .int v2), (3, .int v3), (4, .int v4), (5, .int v5)] → f_X1_branch_l24 N S n24 v1 v2 v3 v4 v5 = some R → W p l e (headSpec zsX1_branch rmX1_branch).room s m ([.ref h, .int p1, .int p2] : List Value).toArray below meth c H lc 0 0 Q9 (F0 m 24 ls []) := by
    intro n24
    induction n24 with
    | zero =>
      intro v1 v2 v3 v4 v5 H lc ls hP hS hl hM
      rw [f_X1_branch_l24] at hM; exact absurd hM (by intro h; cases h)
    | succ n24 ih24 =>
      intro v1 v2 v3 v4 v5 H lc ls hP hS hl hM
      rw [f_X1_branch_l24] at hM
      refine lv_iload hx hb dX1_branch_24 (lv_at hl 5 rfl) ?_
      refine lv_iload_n hx hb dX1_branch_26 rfl (lv_at hl 3 rfl) ?_
      refine lv_icmp_ge (tgt := 111) hx hb dX1_branch_27 (by decide) (fun q1 => ?_) (fun q1 => ?_)
      · replace hM := zx_t q1 hM
        refine lv_iload hx hb dX1_branch_111 (lv_at hl 4 rfl) ?_
        rw [hQ]
        exact W.iret hx hb hr (fun t ht hW => ⟨⟨v4, (), rfl, (Option.some.inj hM).symm, trivial⟩, hS.F ht⟩) hS.2.2 dX1_branch_113
      · replace hM := zx_f q1 hM
        have j105 : ∀ (v1 : Int32) (v2 : Int32) (v3 : Int32) (v4 : Int32) (v5 : Int32) (H : Heap) (lc : List Loc) (ls : Array Slot), va_P D vwCl (xW1 cI h ad S) H → va_S A s.heap H lc → lv_has ls 8 [(0, .ref h), (1, .int v1), (2, .int v2), (3, .int v3), (4, .int v4), (5, .int v5)] → f_X1_branch_j105 N S (f_X1_branch_l24 N S  n24) v1 v2 v3 v4 v5 = some R → W p l e (headSpec zsX1_branch rmX1_branch).room s m ([.ref h, .int p1, .int p2] : List Value).toArray below meth c H lc 0 0 Q9 (F0 m 105 ls []) := by
          intro v1 v2 v3 v4 v5 H lc ls hP hS hl hM
          unfold f_X1_branch_j105 at hM
          obtain ⟨x2, ex2, hM⟩ := zx_nE hM
          refine lv_iinc (v := x2) (lv' := [(5, .int x2), (0, .ref h), (1, .int v1), (2, .int v2), (3, .int v3), (4, .int v4)]) hx hb dX1_branch_105 hl (k := 5) rfl (by rw [ex2]; rfl) (by decide) rfl (fun ls hl => ?_)
          refine lv_goto (tgt := 24) hx hb dX1_branch_108 (by decide) ?_
          exact ih24 v1 v2 v3 v4 x2 _ _ _ hP hS (lv_sub hl [1, 2, 3, 4, 5, 0] rfl) hM
        have j101 : ∀ (v1 : Int32) (v2 : Int32) (v3 : Int32) (v5 : Int32) (v6 : Int32) (H : Heap) (lc : List Loc) (ls : Array Slot), va_P D vwCl (xW1 cI h ad S) H → va_S A s.heap H lc → lv_has ls 8 [(0, .ref h), (1, .int v1), (2, .int v2), (3, .int v3), (5, .int v5), (6, .int v6)] → f_X1_branch_j101 N S (f_X1_branch_l24 N S  n24) v1 v2 v3 v5 v6 = some R → W p l e (headSpec zsX1_branch rmX1_branch).room s m ([.ref h, .int p1, .int p2] : List Value).toArray below meth c H lc 0 0 Q9 (F0 m 101 ls []) := by
          intro v1 v2 v3 v5 v6 H lc ls hP hS hl hM
          unfold f_X1_branch_j101 at hM
          refine lv_iload hx hb dX1_branch_101 (lv_at hl 5 rfl) ?_
          refine lv_istore (lv' := [(4, .int v6), (0, .ref h), (1, .int v1), (2, .int v2), (3, .int v3), (5, .int v5), (6, .int v6)]) hx hb dX1_branch_103 hl (by decide) rfl (fun ls hl => ?_)
          exact j105 v1 v2 v3 v6 v5 _ _ _ hP hS (lv_sub hl [1, 2, 3, 4, 0, 5] rfl) hM
        refine lv_aload_n hx hb dX1_branch_30 rfl (lv_at hl 0 rfl) ?_
        refine va_get (D := D) (ci := 1) (v := .ref (ad 4)) (C := RX1) (T := TX1) (N := 14) hx hb hts inlX1 hown hK hP 0 rfl rfl 4 (by decide) (hts _ zw_2_9) (fun _ h9 => h9) rfl dX1_branch_31 ?_
        refine lv_iload_n hx hb dX1_branch_34 rfl (lv_at hl 1 rfl) ?_
        refine lv_iconst (v := 5) hx hb dX1_branch_35 (by decide) ?_
        refine lv_imul hx hb dX1_branch_36 ?_
        refine lv_iload hx hb dX1_branch_37 (lv_at hl 5 rfl) ?_
        refine lv_iadd hx hb dX1_branch_39 ?_
        obtain ⟨x3, hz4, hM⟩ := zx_b1E hM
        refine va_calli (va_runSN (As := [.ref (ad 4), .int ((v1 * 5) + v5)]) (rest := []) ⟨hx, hb, hml, hown, hts⟩ (c_X2_get l D cI cZ cT (ad 4) 245 (S 4) _ N ((v1 * 5) + v5) hz4) ⟨va_cnB 2 hts (zg_c zw_3_6) rfl rfl rfl (hN _ (zx_nw_X1_70)) (hts _ zw_1_2) zyX2_get ⟨Nat.le_of_ble_eq_true rfl, Nat.le_of_ble_eq_true rfl⟩, (hts _ zw_3_5), trivial⟩ ⟨bS_blind, bS_pre (zx_P1 hP 5 (rfl)) hK (zx_D1 hD 5 (rfl)) hN⟩ rfl rfl hl.1 rfl (lv_room (Nat.le_of_ble_eq_true rfl)) dX1_branch_40 ⟨Nat.zero_le _, Nat.zero_le _⟩) hS (fun q h1 h2 => absurd h1 (Nat.not_lt.mpr h2)) (fun q h => hA q (Nat.le_trans hS.1 h)) (fun r u t H1 lc ht hvm hw hB hz1 hk1 hS => ?_)
        replace hw : x3 = r := hw; subst hw
        replace hP := zx_keep hP hk1
        refine lv_istore (lv' := [(6, .int x3), (0, .ref h), (1, .int v1), (2, .int v2), (3, .int v3), (4, .int v4), (5, .int v5)]) hx hb dX1_branch_43 hl (by decide) rfl (fun ls hl => ?_)
        refine lv_aload_n hx hb dX1_branch_45 rfl (lv_at hl 1 rfl) ?_
        refine lv_iload hx hb dX1_branch_46 (lv_at hl 0 rfl) ?_
        refine lv_iload_n hx hb dX1_branch_48 rfl (lv_at hl 3 rfl) ?_
        obtain ⟨x5, hz6, hM⟩ := zx_b1E hM
        refine va_calli (va_runV (As := [.int x3, .int v2]) (rest := []) ⟨hx, hb, hml, hown, hts⟩ (c_X1_joinArea l D cI cZ cT h ad S _ N x3 v2  hz6) (cwV 2 hts (zg_V zw_12_4 zw_12_5 zw_12_6 zw_1_14 zw_12_7) rfl rfl rfl ⟨rfl, zyX1_joinArea⟩ ⟨Nat.le_of_ble_eq_true rfl, Nat.le_of_ble_eq_true rfl⟩) ⟨bS_blind, va_recv hK hP (ci := 1) (q0 := 0) rfl rfl, bS_pre hP hK hD hN⟩ rfl rfl hl.1 rfl (lv_room (Nat.le_of_ble_eq_true rfl)) dX1_branch_49 ⟨Nat.zero_le _, Nat.zero_le _⟩) hS (fun q h1 h2 => absurd h1 (Nat.not_lt.mpr h2)) (fun q h => hA q (Nat.le_trans hS.1 h)) (fun r u t H1 lc ht hvm hw hB hz1 hk1 hS => ?_)
        replace hw : x5 = r := hw; subst hw
        replace hP := zx_keep hP hk1
        refine lv_aload_n hx hb dX1_branch_52 rfl (lv_at hl 1 rfl) ?_
        refine lv_iload hx hb dX1_branch_53 (lv_at hl 0 rfl) ?_
        obtain ⟨x7, hz8, hM⟩ := zx_b1E hM
        refine va_calli (va_runV (As := [.int x3]) (rest := [.int x5]) ⟨hx, hb, hml, hown, hts⟩ (c_X1_area l D cI cZ cT h ad S _ N x3  hz8) (cwV 1 hts (zg_V zw_6_18 zw_6_19 zw_6_20 zw_1_14 zw_6_21) rfl rfl rfl ⟨rfl, zyX1_area⟩ ⟨Nat.le_of_ble_eq_true rfl, Nat.le_of_ble_eq_true rfl⟩) ⟨bS_blind, va_recv hK hP (ci := 1) (q0 := 0) rfl rfl, bS_pre hP hK hD hN⟩ rfl rfl hl.1 rfl (lv_room (Nat.le_of_ble_eq_true rfl)) dX1_branch_55 ⟨Nat.zero_le _, Nat.zero_le _⟩) hS (fun q h1 h2 => absurd h1 (Nat.not_lt.mpr h2)) (fun q h => hA q (Nat.le_trans hS.1 h)) (fun r u t H1 lc ht hvm hw hB hz1 hk1 hS => ?_)
        replace hw : x7 = r := hw; subst hw
        replace hP := zx_keep hP hk1
        refine lv_isub hx hb dX1_branch_58 ?_
        refine lv_aload_n hx hb dX1_branch_59 rfl (lv_at hl 1 rfl) ?_
        refine lv_iload hx hb dX1_branch_60 (lv_at hl 5 rfl) ?_
        refine lv_iload_n hx hb dX1_branch_62 rfl (lv_at hl 3 rfl) ?_
        obtain ⟨x9, hz10, hM⟩ := zx_b1E hM
        refine va_calli (va_runV (As := [.int v4, .int v2]) (rest := [.int (x5 - x7)]) ⟨hx, hb, hml, hown, hts⟩ (c_X1_joinArea l D cI cZ cT h ad S _ N v4 v2  hz10) (cwV 2 hts (zg_V zw_12_4 zw_12_5 zw_12_6 zw_1_14 zw_12_7) rfl rfl rfl ⟨rfl, zyX1_joinArea⟩ ⟨Nat.le_of_ble_eq_true rfl, Nat.le_of_ble_eq_true rfl⟩) ⟨bS_blind, va_recv hK hP (ci := 1) (q0 := 0) rfl rfl, bS_pre hP hK hD hN⟩ rfl rfl hl.1 rfl (lv_room (Nat.le_of_ble_eq_true rfl)) dX1_branch_63 ⟨Nat.zero_le _, Nat.zero_le _⟩) hS (fun q h1 h2 => absurd h1 (Nat.not_lt.mpr h2)) (fun q h => hA q (Nat.le_trans hS.1 h)) (fun r u t H1 lc ht hvm hw hB hz1 hk1 hS => ?_)
        replace hw : x9 = r := hw; subst hw
        replace hP := zx_keep hP hk1
        refine lv_isub hx hb dX1_branch_66 ?_
        refine lv_aload_n hx hb dX1_branch_67 rfl (lv_at hl 1 rfl) ?_
        refine lv_iload hx hb dX1_branch_68 (lv_at hl 5 rfl) ?_
        obtain ⟨x11, hz12, hM⟩ := zx_b1E hM
        refine va_calli (va_runV (As := [.int v4]) (rest := [.int ((x5 - x7) - x9)]) ⟨hx, hb, hml, hown, hts⟩ (c_X1_area l D cI cZ cT h ad S _ N v4  hz12) (cwV 1 hts (zg_V zw_6_18 zw_6_19 zw_6_20 zw_1_14 zw_6_21) rfl rfl rfl ⟨rfl, zyX1_area⟩ ⟨Nat.le_of_ble_eq_true rfl, Nat.le_of_ble_eq_true rfl⟩) ⟨bS_blind, va_recv hK hP (ci := 1) (q0 := 0) rfl rfl, bS_pre hP hK hD hN⟩ rfl rfl hl.1 rfl (lv_room (Nat.le_of_ble_eq_true rfl)) dX1_branch_70 ⟨Nat.zero_le _, Nat.zero_le _⟩) hS (fun q h1 h2 => absurd h1 (Nat.not_lt.mpr h2)) (fun q h => hA q (Nat.le_trans hS.1 h)) (fun r u t H1 lc ht hvm hw hB hz1 hk1 hS => ?_)
        replace hw : x11 = r := hw; subst hw
        replace hP := zx_keep hP hk1
        refine lv_iadd hx hb dX1_branch_73 ?_
        obtain ⟨x13, ex13, hM⟩ := zx_nE hM
        refine zx_top ex13 ?_
        refine lv_istore (lv' := [(7, .int x13), (6, .int x3), (0, .ref h), (1, .int v1), (2, .int v2), (3, .int v3), (4, .int v4), (5, .int v5)]) hx hb dX1_branch_74 hl (by decide) rfl (fun ls hl => ?_)
        refine lv_iload hx hb dX1_branch_76 (lv_at hl 0 rfl) ?_
        refine lv_if_lt (tgt := 101) hx hb dX1_branch_78 (by decide) (fun q14 => ?_) (fun q14 => ?_)
        · replace hM := zx_t q14 hM
          exact j101 v1 v2 v3 v5 x3 _ _ _ hP hS (lv_sub hl [2, 3, 4, 5, 7, 1] rfl) hM
        · replace hM := zx_f q14 hM
          refine lv_iload hx hb dX1_branch_81 (lv_at hl 0 rfl) ?_
          refine lv_if_ne (tgt := 105) hx hb dX1_branch_83 (by decide) (fun q15 => ?_) (fun q15 => ?_)
          · replace hM := zx_f q15 hM
            exact j105 v1 v2 v3 v4 v5 _ _ _ hP hS (lv_sub hl [2, 3, 4, 5, 6, 7] rfl) hM
          · replace hM := zx_t q15 hM
            refine lv_aload_n hx hb dX1_branch_86 rfl (lv_at hl 2 rfl) ?_
            refine lv_iload hx hb dX1_branch_87 (lv_at hl 1 rfl) ?_
            obtain ⟨x16, hz17, hM⟩ := zx_b1E hM
            refine va_calli (va_runV (As := [.int x3]) (rest := []) ⟨hx, hb, hml, hown, hts⟩ (c_X1_area l D cI cZ cT h ad S _ N x3  hz17) (cwV 1 hts (zg_V zw_6_18 zw_6_19 zw_6_20 zw_1_14 zw_6_21) rfl rfl rfl ⟨rfl, zyX1_area⟩ ⟨Nat.le_of_ble_eq_true rfl, Nat.le_of_ble_eq_true rfl⟩) ⟨bS_blind, va_recv hK hP (ci := 1) (q0 := 0) rfl rfl, bS_pre hP hK hD hN⟩ rfl rfl hl.1 rfl (lv_room (Nat.le_of_ble_eq_true rfl)) dX1_branch_89 ⟨Nat.zero_le _, Nat.zero_le _⟩) hS (fun q h1 h2 => absurd h1 (Nat.not_lt.mpr h2)) (fun q h => hA q (Nat.le_trans hS.1 h)) (fun r u t H1 lc ht hvm hw hB hz1 hk1 hS => ?_)
            replace hw : x16 = r := hw; subst hw
            replace hP := zx_keep hP hk1
            refine lv_aload_n hx hb dX1_branch_92 rfl (lv_at hl 2 rfl) ?_
            refine lv_iload hx hb dX1_branch_93 (lv_at hl 6 rfl) ?_
            obtain ⟨x18, hz19, hM⟩ := zx_b1E hM
            refine va_calli (va_runV (As := [.int v4]) (rest := [.int x16]) ⟨hx, hb, hml, hown, hts⟩ (c_X1_area l D cI cZ cT h ad S _ N v4  hz19) (cwV 1 hts (zg_V zw_6_18 zw_6_19 zw_6_20 zw_1_14 zw_6_21) rfl rfl rfl ⟨rfl, zyX1_area⟩ ⟨Nat.le_of_ble_eq_true rfl, Nat.le_of_ble_eq_true rfl⟩) ⟨bS_blind, va_recv hK hP (ci := 1) (q0 := 0) rfl rfl, bS_pre hP hK hD hN⟩ rfl rfl hl.1 rfl (lv_room (Nat.le_of_ble_eq_true rfl)) dX1_branch_95 ⟨Nat.zero_le _, Nat.zero_le _⟩) hS (fun q h1 h2 => absurd h1 (Nat.not_lt.mpr h2)) (fun q h => hA q (Nat.le_trans hS.1 h)) (fun r u t H1 lc ht hvm hw hB hz1 hk1 hS => ?_)
            replace hw : x18 = r := hw; subst hw
            replace hP := zx_keep hP hk1
            refine lv_icmp_ge (tgt := 105) hx hb dX1_branch_98 (by decide) (fun q20 => ?_) (fun q20 => ?_)
            · replace hM := zx_t q20 hM
              exact j105 v1 v2 v3 v4 v5 _ _ _ hP hS (lv_sub hl [2, 3, 4, 5, 6, 7] rfl) hM
            · replace hM := zx_f q20 hM
              exact j101 v1 v2 v3 v5 x3 _ _ _ hP hS (lv_sub hl [2, 3, 4, 5, 7, 1] rfl) hM
  refine lv_aload_n hx hb dX1_branch_0 rfl (lv_at hl 0 rfl) ?_
  refine va_get (D := D) (ci := 1) (v := .ref (ad 3)) (C := RX1) (T := TX1) (N := 14) hx hb hts inlX1 hown hK hP 0 rfl rfl 3 (by decide) (hts _ zw_2_8) (fun _ h9 => h9) rfl dX1_branch_1 ?_
  refine lv_iload_n hx hb dX1_branch_4 rfl (lv_at hl 1 rfl) ?_
  obtain ⟨x21, hz22, hM⟩ := zx_b1E hM
  refine va_calli (va_runSN (As := [.ref (ad 3), .int p1]) (rest := []) ⟨hx, hb, hml, hown, hts⟩ (c_X2_get l D cI cZ cT (ad 3) 49 (S 3) _ N p1 hz22) ⟨va_cnB 2 hts (zg_c zw_3_6) rfl rfl rfl (hN _ (zx_nw_X1_70)) (hts _ zw_1_2) zyX2_get ⟨Nat.le_of_ble_eq_true rfl, Nat.le_of_ble_eq_true rfl⟩, (hts _ zw_3_5), trivial⟩ ⟨bS_blind, bS_pre (zx_P1 hP 4 (rfl)) hK (zx_D1 hD 4 (rfl)) hN⟩ rfl rfl hl.1 rfl (lv_room (Nat.le_of_ble_eq_true rfl)) dX1_branch_5 ⟨Nat.zero_le _, Nat.zero_le _⟩) hS (fun q h1 h2 => absurd h1 (Nat.not_lt.mpr h2)) (fun q h => hA q (Nat.le_trans hS.1 h)) (fun r u t H1 lc ht hvm hw hB hz1 hk1 hS => ?_)
  replace hw : x21 = r := hw; subst hw
  replace hP := zx_keep hP hk1
  refine lv_istore_n (lv' := [(3, .int x21), (0, .ref h), (1, .int p1), (2, .int p2)]) hx hb dX1_branch_8 rfl hl (by decide) rfl (fun ls hl => ?_)
  refine lv_aload_n hx hb dX1_branch_9 rfl (lv_at hl 1 rfl) ?_
  refine va_get (D := D) (ci := 1) (v := .ref (ad 4)) (C := RX1) (T := TX1) (N := 14) hx hb hts inlX1 hown hK hP 0 rfl rfl 4 (by decide) (hts _ zw_2_9) (fun _ h9 => h9) rfl dX1_branch_10 ?_
  refine lv_iload_n hx hb dX1_branch_13 rfl (lv_at hl 2 rfl) ?_
  refine lv_iconst (v := 5) hx hb dX1_branch_14 (by decide) ?_
  refine lv_imul hx hb dX1_branch_15 ?_
  obtain ⟨x23, hz24, hM⟩ := zx_b1E hM
  refine va_calli (va_runSN (As := [.ref (ad 4), .int (p1 * 5)]) (rest := []) ⟨hx, hb, hml, hown, hts⟩ (c_X2_get l D cI cZ cT (ad 4) 245 (S 4) _ N (p1 * 5) hz24) ⟨va_cnB 2 hts (zg_c zw_3_6) rfl rfl rfl (hN _ (zx_nw_X1_70)) (hts _ zw_1_2) zyX2_get ⟨Nat.le_of_ble_eq_true rfl, Nat.le_of_ble_eq_true rfl⟩, (hts _ zw_3_5), trivial⟩ ⟨bS_blind, bS_pre (zx_P1 hP 5 (rfl)) hK (zx_D1 hD 5 (rfl)) hN⟩ rfl rfl hl.1 rfl (lv_room (Nat.le_of_ble_eq_true rfl)) dX1_branch_16 ⟨Nat.zero_le _, Nat.zero_le _⟩) hS (fun q h1 h2 => absurd h1 (Nat.not_lt.mpr h2)) (fun q h => hA q (Nat.le_trans hS.1 h)) (fun r u t H1 lc ht hvm hw hB hz1 hk1 hS => ?_)
  replace hw : x23 = r := hw; subst hw
  replace hP := zx_keep hP hk1
  refine lv_istore (lv' := [(4, .int x23), (3, .int x21), (0, .ref h), (1, .int p1), (2, .int p2)]) hx hb dX1_branch_19 hl (by decide) rfl (fun ls hl => ?_)
  refine lv_iconst (v := 1) hx hb dX1_branch_21 (by decide) ?_
  refine lv_istore (lv' := [(5, .int 1), (4, .int x23), (3, .int x21), (0, .ref h), (1, .int p1), (2, .int p2)]) hx hb dX1_branch_22 hl (by decide) rfl (fun ls hl => ?_)
  exact l24 N p1 p2 x21 x23 1 _ _ _ hP hS (lv_sub hl [3, 4, 5, 2, 1, 0] rfl) hM

/-! ShallowBoxes$Tree.reached(II)I -/
def f_X1_reached_l8 (N : Nat) (S : zx_S) : Nat → Int32 → Int32 → Int32 → Int32 → Option (Int32)
  | 0, _, _, _, _ => none
  | n8 + 1, v1, v2, v3, v4 => (if 8 ≤ v4 then
  some v3 else
  (zx_b1 (f_X2_get N 49 v3 (S 1)) (fun x2 =>
(if x2 ≤ v2 then
  some v3 else
  (zx_b1 (f_X1_branch N v3 v1 S) (fun x5 =>
(zx_n (v4 + 1) (fun x7 =>
f_X1_reached_l8 N S  n8 v1 v2 x5 x7))))))))
def f_X1_reached (N : Nat) (p1 : Int32) (p2 : Int32) (S : zx_S) : Option (Int32) :=
  f_X1_reached_l8 N S  N p1 p2 (S 10 0) 0
abbrev rmX1_reached : Room := { frames := 3, cells := 0, slots := 0, locals := 74 }
abbrev zsX1_reached : List Cond := .code yX1_reached cX1_reached 5 (some .int) :: wsL_law
theorem zyX1_reached : yX1_reached.cls ≠ "java/lang/invoke/MethodHandle" ∧ yX1_reached.cls ≠ "java/lang/invoke/VarHandle" ∧ (parseMethodDescriptor yX1_reached.desc).map (fun d => d.parameters.length) = some 2 := by decide +kernel
set_option maxHeartbeats 4000000 in
set_option maxRecDepth 100000 in
theorem c_X1_reached (l : Launch) (D : va_G) (cI cZ cT : ClassId) (h : Nat) (ad : Nat → Nat) (S : zx_S) (sz : Nat) (N : Nat) (p1 : Int32) (p2 : Int32) {R : Int32} (hM : f_X1_reached N p1 p2 S = some R) : Met l yX1_reached zsX1_reached rmX1_reached (va_Pc [.ref h, .int p1, .int p2] (bS D (zx_ty cI cZ cT) (xW1 cI h ad S) sz)) (va_Qi (fun r (_ : Unit) => R = r) (fun _ _ => True) (fun q => sz ≤ q)) 0 0 (fun q => sz ≤ q) := by
  refine Met.ofW (cc := cX1_reached) (maxL := 5) (ret := (some .int)) (by decide) rfl ?_
  intro p e s m args below meth c s₁ B hml hv
  obtain ⟨rfl, hsz, hP, hK, hD0, hN⟩ := hv
  have hx := B.exec
  have hb := B.bytes
  have hr := B.returns
  have hts : ∀ w ∈ wsL_law, w.before _ s = true := fun w hw => atoms_spec (ws := zsX1_reached) B.pre w (List.mem_cons_of_mem _ hw)
  have hown : s.vm.findClass RX1 = some m.cls := findClass_of_methodNamed B.named
  have hlocks := B.notSynchronized
  subst hsz
  generalize hAe : (fun q : Nat => s.heap.size ≤ q) = A
  have hA : ∀ q : Nat, s.heap.size ≤ q → A q := fun q h => by rw [← hAe]; exact h
  have hD := hD0
  have hS : va_S A s.heap s.heap [] := va_S.rf
  have hl := lv_entry ([.ref h, .int p1, .int p2]) (n := 5) (Nat.le_of_ble_eq_true rfl)
  rw [lg_entry_eq]
  generalize (lg_sl ([.ref h, .int p1, .int p2]) ++ List.replicate (5 - (lg_sl ([.ref h, .int p1, .int p2])).length) Slot.unset).toArray = ls at hl ⊢
  have hl : lv_has ls 5 [(0, .ref h), (1, .int p1), (2, .int p2)] := hl
  generalize hQ : MQ below (va_Qi (fun r (_ : Unit) => R = r) (fun _ _ => True) A) ([.ref h, .int p1, .int p2] : List Value).toArray s 0 0 A = Q9
  replace hQ := hQ.symm
  unfold f_X1_reached at hM
  have l8 : ∀ (n8 : Nat) (v1 : Int32) (v2 : Int32) (v3 : Int32) (v4 : Int32) (H : Heap) (lc : List Loc) (ls : Array Slot), va_P D vwCl (xW1 cI h ad S) H → va_S A s.heap H lc → lv_has ls 5 [(0, .ref h), (1, .int v1), (2, .int v2), (3, .int v3), (4, .int v4)] → f_X1_reached_l8 N S n8 v1 v2 v3 v4 = some R → W p l e (headSpec zsX1_reached rmX1_reached).room s m ([.ref h, .int p1, .int p2] : List Value).toArray below meth c H lc 0 0 Q9 (F0 m 8 ls []) := by
    intro n8
    induction n8 with
    | zero =>
      intro v1 v2 v3 v4 H lc ls hP hS hl hM
      rw [f_X1_reached_l8] at hM; exact absurd hM (by intro h; cases h)
    | succ n8 ih8 =>
      intro v1 v2 v3 v4 H lc ls hP hS hl hM
      rw [f_X1_reached_l8] at hM
      refine lv_iload hx hb dX1_reached_8 (lv_at hl 4 rfl) ?_
      refine lv_bipush (v := 8) hx hb dX1_reached_10 (by decide) ?_
      refine lv_icmp_ge (tgt := 40) hx hb dX1_reached_12 (by decide) (fun q1 => ?_) (fun q1 => ?_)
      · replace hM := zx_t q1 hM
        refine lv_iload_n hx hb dX1_reached_40 rfl (lv_at hl 3 rfl) ?_
        rw [hQ]
        exact W.iret hx hb hr (fun t ht hW => ⟨⟨v3, (), rfl, (Option.some.inj hM).symm, trivial⟩, hS.F ht⟩) hS.2.2 dX1_reached_41
      · replace hM := zx_f q1 hM
        refine lv_aload_n hx hb dX1_reached_15 rfl (lv_at hl 0 rfl) ?_
        refine va_get (D := D) (ci := 1) (v := .ref (ad 1)) (C := RX1) (T := TX1) (N := 14) hx hb hts inlX1 hown hK hP 0 rfl rfl 1 (by decide) (hts _ zw_2_6) (fun _ h9 => h9) rfl dX1_reached_16 ?_
        refine lv_iload_n hx hb dX1_reached_19 rfl (lv_at hl 3 rfl) ?_
        obtain ⟨x2, hz3, hM⟩ := zx_b1E hM
        refine va_calli (va_runSN (As := [.ref (ad 1), .int v3]) (rest := []) ⟨hx, hb, hml, hown, hts⟩ (c_X2_get l D cI cZ cT (ad 1) 49 (S 1) _ N v3 hz3) ⟨va_cnB 2 hts (zg_c zw_3_6) rfl rfl rfl (hN _ (zx_nw_X1_70)) (hts _ zw_1_2) zyX2_get ⟨Nat.le_of_ble_eq_true rfl, Nat.le_of_ble_eq_true rfl⟩, (hts _ zw_3_5), trivial⟩ ⟨bS_blind, bS_pre (zx_P1 hP 2 (rfl)) hK (zx_D1 hD 2 (rfl)) hN⟩ rfl rfl hl.1 rfl (lv_room (Nat.le_of_ble_eq_true rfl)) dX1_reached_20 ⟨Nat.zero_le _, Nat.zero_le _⟩) hS (fun q h1 h2 => absurd h1 (Nat.not_lt.mpr h2)) (fun q h => hA q (Nat.le_trans hS.1 h)) (fun r u t H1 lc ht hvm hw hB hz1 hk1 hS => ?_)
        replace hw : x2 = r := hw; subst hw
        replace hP := zx_keep hP hk1
        refine lv_iload_n hx hb dX1_reached_23 rfl (lv_at hl 2 rfl) ?_
        refine lv_icmp_le (tgt := 40) hx hb dX1_reached_24 (by decide) (fun q4 => ?_) (fun q4 => ?_)
        · replace hM := zx_t q4 hM
          refine lv_iload_n hx hb dX1_reached_40 rfl (lv_at hl 3 rfl) ?_
          rw [hQ]
          exact W.iret hx hb hr (fun t ht hW => ⟨⟨v3, (), rfl, (Option.some.inj hM).symm, trivial⟩, hS.F ht⟩) hS.2.2 dX1_reached_41
        · replace hM := zx_f q4 hM
          refine lv_aload_n hx hb dX1_reached_27 rfl (lv_at hl 0 rfl) ?_
          refine lv_iload_n hx hb dX1_reached_28 rfl (lv_at hl 3 rfl) ?_
          refine lv_iload_n hx hb dX1_reached_29 rfl (lv_at hl 1 rfl) ?_
          obtain ⟨x5, hz6, hM⟩ := zx_b1E hM
          refine va_calli (va_runV (As := [.int v3, .int v1]) (rest := []) ⟨hx, hb, hml, hown, hts⟩ (c_X1_branch l D cI cZ cT h ad S _ N v3 v1  hz6) (cwV 2 hts (zg_V zw_12_0 zw_12_1 zw_12_2 zw_1_14 zw_12_3) rfl rfl rfl ⟨rfl, zyX1_branch⟩ ⟨Nat.le_of_ble_eq_true rfl, Nat.le_of_ble_eq_true rfl⟩) ⟨bS_blind, va_recv hK hP (ci := 1) (q0 := 0) rfl rfl, bS_pre hP hK hD hN⟩ rfl rfl hl.1 rfl (lv_room (Nat.le_of_ble_eq_true rfl)) dX1_reached_30 ⟨Nat.zero_le _, Nat.zero_le _⟩) hS (fun q h1 h2 => absurd h1 (Nat.not_lt.mpr h2)) (fun q h => hA q (Nat.le_trans hS.1 h)) (fun r u t H1 lc ht hvm hw hB hz1 hk1 hS => ?_)
          replace hw : x5 = r := hw; subst hw
          replace hP := zx_keep hP hk1
          refine lv_istore_n (lv' := [(3, .int x5), (0, .ref h), (1, .int v1), (2, .int v2), (4, .int v4)]) hx hb dX1_reached_33 rfl hl (by decide) rfl (fun ls hl => ?_)
          obtain ⟨x7, ex7, hM⟩ := zx_nE hM
          refine lv_iinc (v := x7) (lv' := [(4, .int x7), (3, .int x5), (0, .ref h), (1, .int v1), (2, .int v2)]) hx hb dX1_reached_34 hl (k := 4) rfl (by rw [ex7]; rfl) (by decide) rfl (fun ls hl => ?_)
          refine lv_goto (tgt := 8) hx hb dX1_reached_37 (by decide) ?_
          exact ih8 v1 v2 x5 x7 _ _ _ hP hS (lv_sub hl [2, 3, 4, 1, 0] rfl) hM
  refine lv_aload_n hx hb dX1_reached_0 rfl (lv_at hl 0 rfl) ?_
  refine va_get (D := D) (ci := 1) (v := .int (S 10 0)) (C := RX1) (T := TX1) (N := 14) hx hb hts inlX1 hown hK hP 0 rfl rfl 5 (by decide) (hts _ zw_2_22) (fun _ h9 => h9) rfl dX1_reached_1 ?_
  refine lv_istore_n (lv' := [(3, .int (S 10 0)), (0, .ref h), (1, .int p1), (2, .int p2)]) hx hb dX1_reached_4 rfl hl (by decide) rfl (fun ls hl => ?_)
  refine lv_iconst (v := 0) hx hb dX1_reached_5 (by decide) ?_
  refine lv_istore (lv' := [(4, .int 0), (3, .int (S 10 0)), (0, .ref h), (1, .int p1), (2, .int p2)]) hx hb dX1_reached_6 hl (by decide) rfl (fun ls hl => ?_)
  exact l8 N p1 p2 (S 10 0) 0 _ _ _ hP hS (lv_sub hl [2, 3, 4, 1, 0] rfl) hM

/-! ShallowBoxes$Tree.throwOut(I)I -/
def f_X1_throwOut_j63 (N : Nat) (k23 : Int32 → Int32 → Int32 → Int32 → zx_S → Option (Int32 × zx_S)) (v1 : Int32) (v2 : Int32) (v3 : Int32) (v4 : Int32) (S_ : zx_S) : Option (Int32 × zx_S) :=
  (zx_n (v4 + 1) (fun x10 =>
k23 v1 v2 v3 x10 S_))
def f_X1_throwOut_l23 (N : Nat) : Nat → Int32 → Int32 → Int32 → Int32 → zx_S → Option (Int32 × zx_S)
  | 0, _, _, _, _, _ => none
  | n23 + 1, v1, v2, v3, v4, S_ => (if v2 ≤ v4 then
  (zx_b1 (f_X1_detach N v3 S_) (fun T2 =>
(zx_b1 (f_X2_get N 49 v1 (T2 1)) (fun x4 =>
(zx_b1 (f_X2_put N 8 x4 1 (T2 5)) (fun g6 =>
(zx_n (zx_st T2 5 g6) (fun T8 =>
(zx_n (zx_st T8 10 (upd (T8 10) 1 ((T8 10 1) + 1))) (fun T9 =>
some (v3, T9))))))))))) else
  (zx_b1 (f_X2_get N 245 ((v1 * 5) + v4) (S_ 4)) (fun x11 =>
(zx_b1 (f_X1_middleDistance N x11 v1 S_) (fun x13 =>
(zx_b1 (f_X1_middleDistance N v3 v1 S_) (fun x15 =>
(if x13 ≤ x15 then
  f_X1_throwOut_j63 N (f_X1_throwOut_l23 N  n23) v1 v2 v3 v4 S_ else
  f_X1_throwOut_j63 N (f_X1_throwOut_l23 N  n23) v1 v2 x11 v4 S_))))))))
def f_X1_throwOut (N : Nat) (p1 : Int32) (S : zx_S) : Option (Int32 × zx_S) :=
  (zx_b1 (f_X2_get N 49 p1 (S 3)) (fun x18 =>
(zx_b1 (f_X2_get N 245 (p1 * 5) (S 4)) (fun x20 =>
f_X1_throwOut_l23 N  N p1 x18 x20 1 S))))
abbrev rmX1_throwOut : Room := { frames := 3, cells := 0, slots := 0, locals := 70 }
abbrev zsX1_throwOut : List Cond := .code yX1_throwOut cX1_throwOut 6 (some .int) :: wsL_law
theorem zyX1_throwOut : yX1_throwOut.cls ≠ "java/lang/invoke/MethodHandle" ∧ yX1_throwOut.cls ≠ "java/lang/invoke/VarHandle" ∧ (parseMethodDescriptor yX1_throwOut.desc).map (fun d => d.parameters.length) = some 1 := by decide +kernel
set_option maxHeartbeats 4000000 in
set_option maxRecDepth 100000 in
theorem c_X1_throwOut (l : Launch) (D : va_G) (cI cZ cT : ClassId) (h : Nat) (ad : Nat → Nat) (S : zx_S) (sz : Nat) (N : Nat) (p1 : Int32) {R : Int32 × zx_S} (hM : f_X1_throwOut N p1 S = some R) : Met l yX1_throwOut zsX1_throwOut rmX1_throwOut (va_Pc [.ref h, .int p1] (bS D (zx_ty cI cZ cT) (xW1 cI h ad S) sz)) (va_Qi (fun r u => R = (r, u)) (fun u t => va_P D vwCl (xW1 cI h ad u) t.heap) (va_A (xW1 cI h ad S) sz)) 0 0 (va_A (xW1 cI h ad S) sz) := by
  refine Met.ofW (cc := cX1_throwOut) (maxL := 6) (ret := (some .int)) (by decide) rfl ?_
  intro p e s m args below meth c s₁ B hml hv
  obtain ⟨rfl, hsz, hP, hK, hD0, hN⟩ := hv
  have hx := B.exec
  have hb := B.bytes
  have hr := B.returns
  have hts : ∀ w ∈ wsL_law, w.before _ s = true := fun w hw => atoms_spec (ws := zsX1_throwOut) B.pre w (List.mem_cons_of_mem _ hw)
  have hown : s.vm.findClass RX1 = some m.cls := findClass_of_methodNamed B.named
  have hlocks := B.notSynchronized
  subst hsz
  have hD := hD0.self (sz := s.heap.size)
  generalize hAe : va_A (xW1 cI h ad S) s.heap.size = A at hD ⊢
  have hA : ∀ q : Nat, s.heap.size ≤ q → A q := fun q h => by rw [← hAe]; exact Or.inr h
  have hS : va_S A s.heap s.heap [] := va_S.rf
  have hl := lv_entry ([.ref h, .int p1]) (n := 6) (Nat.le_of_ble_eq_true rfl)
  rw [lg_entry_eq]
  generalize (lg_sl ([.ref h, .int p1]) ++ List.replicate (6 - (lg_sl ([.ref h, .int p1])).length) Slot.unset).toArray = ls at hl ⊢
  have hl : lv_has ls 6 [(0, .ref h), (1, .int p1)] := hl
  generalize hQ : MQ below (va_Qi (fun r u => R = (r, u)) (fun u t => va_P D vwCl (xW1 cI h ad u) t.heap) A) ([.ref h, .int p1] : List Value).toArray s 0 0 A = Q9
  replace hQ := hQ.symm
  unfold f_X1_throwOut at hM
  have l23 : ∀ (n23 : Nat) (v1 : Int32) (v2 : Int32) (v3 : Int32) (v4 : Int32) (S_ : zx_S) (H : Heap) (lc : List Loc) (ls : Array Slot), va_P D vwCl (xW1 cI h ad S_) H → va_D A (xW1 cI h ad S_) → va_S A s.heap H lc → lv_has ls 6 [(0, .ref h), (1, .int v1), (2, .int v2), (3, .int v3), (4, .int v4)] → f_X1_throwOut_l23 N n23 v1 v2 v3 v4 S_ = some R → W p l e (headSpec zsX1_throwOut rmX1_throwOut).room s m ([.ref h, .int p1] : List Value).toArray below meth c H lc 0 0 Q9 (F0 m 23 ls []) := by
    intro n23
    induction n23 with
    | zero =>
      intro v1 v2 v3 v4 S_ H lc ls hP hD hS hl hM
      rw [f_X1_throwOut_l23] at hM; exact absurd hM (by intro h; cases h)
    | succ n23 ih23 =>
      intro v1 v2 v3 v4 S_ H lc ls hP hD hS hl hM
      rw [f_X1_throwOut_l23] at hM
      refine lv_iload hx hb dX1_throwOut_23 (lv_at hl 4 rfl) ?_
      refine lv_iload_n hx hb dX1_throwOut_25 rfl (lv_at hl 2 rfl) ?_
      refine lv_icmp_ge (tgt := 69) hx hb dX1_throwOut_26 (by decide) (fun q1 => ?_) (fun q1 => ?_)
      · replace hM := zx_t q1 hM
        refine lv_aload_n hx hb dX1_throwOut_69 rfl (lv_at hl 0 rfl) ?_
        refine lv_iload_n hx hb dX1_throwOut_70 rfl (lv_at hl 3 rfl) ?_
        obtain ⟨T2, hz3, hM⟩ := zx_b1E hM
        refine va_callv (va_runV (As := [.int v3]) (rest := []) ⟨hx, hb, hml, hown, hts⟩ (c_X1_detach l D cI cZ cT h ad S_ _ N v3  hz3) (cwV 1 hts (zg_V zw_13_4 zw_13_5 zw_13_6 zw_1_14 zw_13_7) rfl rfl rfl ⟨rfl, zyX1_detach⟩ ⟨Nat.le_of_ble_eq_true rfl, Nat.le_of_ble_eq_true rfl⟩) ⟨bS_blind, va_recv hK hP (ci := 1) (q0 := 0) rfl rfl, bS_pre hP hK hD hN⟩ rfl rfl hl.1 rfl (lv_room (Nat.le_of_ble_eq_true rfl)) dX1_throwOut_71 ⟨Nat.zero_le _, Nat.zero_le _⟩) hS (fun q _ h => zx_fW hD hS hA q h) (fun q h => zx_fW hD hS hA q h) (fun u t H1 lc ht hvm hw hB hz1 hk1 hS => ?_)
        replace hw : T2 = u := hw; subst hw
        rw [ht] at hB
        replace hP := hB
        replace hD := xW1_D T2 hD
        refine lv_aload_n hx hb dX1_throwOut_74 rfl (lv_at hl 0 rfl) ?_
        refine va_get (D := D) (ci := 1) (v := .ref (ad 5)) (C := RX1) (T := TX1) (N := 14) hx hb hts inlX1 hown hK hP 0 rfl rfl 9 (by decide) (hts _ zw_2_10) (fun _ h9 => h9) rfl dX1_throwOut_75 ?_
        refine lv_aload_n hx hb dX1_throwOut_78 rfl (lv_at hl 0 rfl) ?_
        refine va_get (D := D) (ci := 1) (v := .ref (ad 1)) (C := RX1) (T := TX1) (N := 14) hx hb hts inlX1 hown hK hP 0 rfl rfl 1 (by decide) (hts _ zw_2_6) (fun _ h9 => h9) rfl dX1_throwOut_79 ?_
        refine lv_iload_n hx hb dX1_throwOut_82 rfl (lv_at hl 1 rfl) ?_
        obtain ⟨x4, hz5, hM⟩ := zx_b1E hM
        refine va_calli (va_runSN (As := [.ref (ad 1), .int v1]) (rest := [.ref (ad 5)]) ⟨hx, hb, hml, hown, hts⟩ (c_X2_get l D cI cZ cT (ad 1) 49 (T2 1) _ N v1 hz5) ⟨va_cnB 2 hts (zg_c zw_3_6) rfl rfl rfl (hN _ (zx_nw_X1_70)) (hts _ zw_1_2) zyX2_get ⟨Nat.le_of_ble_eq_true rfl, Nat.le_of_ble_eq_true rfl⟩, (hts _ zw_3_5), trivial⟩ ⟨bS_blind, bS_pre (zx_P1 hP 2 (rfl)) hK (zx_D1 hD 2 (rfl)) hN⟩ rfl rfl hl.1 rfl (lv_room (Nat.le_of_ble_eq_true rfl)) dX1_throwOut_83 ⟨Nat.zero_le _, Nat.zero_le _⟩) hS (fun q h1 h2 => absurd h1 (Nat.not_lt.mpr h2)) (fun q h => hA q (Nat.le_trans hS.1 h)) (fun r u t H1 lc ht hvm hw hB hz1 hk1 hS => ?_)
        replace hw : x4 = r := hw; subst hw
        replace hP := zx_keep hP hk1
        refine lv_iconst (v := 1) hx hb dX1_throwOut_86 (by decide) ?_
        obtain ⟨g6, hz7, hM⟩ := zx_b1E hM
        refine va_callv (va_runSN (As := [.ref (ad 5), .int x4, .int 1]) (rest := []) ⟨hx, hb, hml, hown, hts⟩ (c_X2_put l D cI cZ cT (ad 5) 8 (T2 5) _ N x4 1 hz7) ⟨va_cnB 3 hts (zg_c zw_3_0) rfl rfl rfl (hN _ (zx_nw_X1_45)) (hts _ zw_1_2) zyX2_put ⟨Nat.le_of_ble_eq_true rfl, Nat.le_of_ble_eq_true rfl⟩, (hts _ zw_2_23), trivial⟩ ⟨bS_blind, bS_pre (zx_P1 hP 6 (rfl)) hK (zx_D1 hD 6 (rfl)) hN⟩ rfl rfl hl.1 rfl (lv_room (Nat.le_of_ble_eq_true rfl)) dX1_throwOut_87 ⟨Nat.zero_le _, Nat.zero_le _⟩) hS (fun q _ h => zx_f1 hD hS hA (k := 6) rfl q h) (fun q h => zx_f1 hD hS hA (k := 6) rfl q h) (fun u t H1 lc ht hvm hw hB hz1 hk1 hS => ?_)
        replace hw : g6 = u := hw; subst hw
        rw [ht] at hB
        replace hP := zx_set1 (k := 6) hP hD rfl hk1 hB
        replace hD := va_D.set (p := 6) (e := .inl (cI, 8, .inl g6)) hD rfl
        rw [xW1_pa5] at hP hD
        obtain ⟨T8, eT8, hM⟩ := zx_nE hM
        rw [← eT8] at hP hD
        refine lv_aload_n hx hb dX1_throwOut_90 rfl (lv_at hl 0 rfl) ?_
        refine lv_dup hx hb dX1_throwOut_91 rfl ?_
        refine va_get (D := D) (ci := 1) (v := .int (T8 10 1)) (C := RX1) (T := TX1) (N := 14) hx hb hts inlX1 hown hK hP 0 rfl rfl 6 (by decide) (hts _ zw_2_19) (fun _ h9 => h9) rfl dX1_throwOut_92 ?_
        refine lv_iconst (v := 1) hx hb dX1_throwOut_95 (by decide) ?_
        refine lv_iadd hx hb dX1_throwOut_96 ?_
        obtain ⟨T9, eT9, hM⟩ := zx_nE hM
        refine va_put (D := D) (ci := 1) (v := .int ((T8 10 1) + 1)) (ty := .int) (C := RX1) (T := TX1) (N := 14) hx hb hts inlX1 tyX1 tyX1_ok nmX1 hown hK hP hD hS 0 rfl rfl 6 (by decide) (hts _ zw_2_19) (fun _ h9 => h9) rfl (by decide +kernel) rfl rfl (Nat.le_of_ble_eq_true rfl) dX1_throwOut_97 (fun H lc hP hD hS => ?_)
        replace hP : va_P D vwCl (xW1 cI h ad T9) H := by rw [eT9]; exact hP
        replace hD : va_D A (xW1 cI h ad T9) := by rw [eT9]; exact hD
        refine lv_iload_n hx hb dX1_throwOut_100 rfl (lv_at hl 3 rfl) ?_
        rw [hQ]
        exact W.iret hx hb hr (fun t ht hW => ⟨⟨v3, T9, rfl, (Option.some.inj hM).symm, by show va_P D vwCl _ t.heap; rw [ht]; exact hP⟩, hS.F ht⟩) hS.2.2 dX1_throwOut_101
      · replace hM := zx_f q1 hM
        have j63 : ∀ (v1 : Int32) (v2 : Int32) (v3 : Int32) (v4 : Int32) (S_ : zx_S) (H : Heap) (lc : List Loc) (ls : Array Slot), va_P D vwCl (xW1 cI h ad S_) H → va_D A (xW1 cI h ad S_) → va_S A s.heap H lc → lv_has ls 6 [(0, .ref h), (1, .int v1), (2, .int v2), (3, .int v3), (4, .int v4)] → f_X1_throwOut_j63 N (f_X1_throwOut_l23 N  n23) v1 v2 v3 v4 S_ = some R → W p l e (headSpec zsX1_throwOut rmX1_throwOut).room s m ([.ref h, .int p1] : List Value).toArray below meth c H lc 0 0 Q9 (F0 m 63 ls []) := by
          intro v1 v2 v3 v4 S_ H lc ls hP hD hS hl hM
          unfold f_X1_throwOut_j63 at hM
          obtain ⟨x10, ex10, hM⟩ := zx_nE hM
          refine lv_iinc (v := x10) (lv' := [(4, .int x10), (0, .ref h), (1, .int v1), (2, .int v2), (3, .int v3)]) hx hb dX1_throwOut_63 hl (k := 4) rfl (by rw [ex10]; rfl) (by decide) rfl (fun ls hl => ?_)
          refine lv_goto (tgt := 23) hx hb dX1_throwOut_66 (by decide) ?_
          exact ih23 v1 v2 v3 x10 S_ _ _ _ hP hD hS (lv_sub hl [1, 2, 3, 4, 0] rfl) hM
        refine lv_aload_n hx hb dX1_throwOut_29 rfl (lv_at hl 0 rfl) ?_
        refine va_get (D := D) (ci := 1) (v := .ref (ad 4)) (C := RX1) (T := TX1) (N := 14) hx hb hts inlX1 hown hK hP 0 rfl rfl 4 (by decide) (hts _ zw_2_9) (fun _ h9 => h9) rfl dX1_throwOut_30 ?_
        refine lv_iload_n hx hb dX1_throwOut_33 rfl (lv_at hl 1 rfl) ?_
        refine lv_iconst (v := 5) hx hb dX1_throwOut_34 (by decide) ?_
        refine lv_imul hx hb dX1_throwOut_35 ?_
        refine lv_iload hx hb dX1_throwOut_36 (lv_at hl 4 rfl) ?_
        refine lv_iadd hx hb dX1_throwOut_38 ?_
        obtain ⟨x11, hz12, hM⟩ := zx_b1E hM
        refine va_calli (va_runSN (As := [.ref (ad 4), .int ((v1 * 5) + v4)]) (rest := []) ⟨hx, hb, hml, hown, hts⟩ (c_X2_get l D cI cZ cT (ad 4) 245 (S_ 4) _ N ((v1 * 5) + v4) hz12) ⟨va_cnB 2 hts (zg_c zw_3_6) rfl rfl rfl (hN _ (zx_nw_X1_70)) (hts _ zw_1_2) zyX2_get ⟨Nat.le_of_ble_eq_true rfl, Nat.le_of_ble_eq_true rfl⟩, (hts _ zw_3_5), trivial⟩ ⟨bS_blind, bS_pre (zx_P1 hP 5 (rfl)) hK (zx_D1 hD 5 (rfl)) hN⟩ rfl rfl hl.1 rfl (lv_room (Nat.le_of_ble_eq_true rfl)) dX1_throwOut_39 ⟨Nat.zero_le _, Nat.zero_le _⟩) hS (fun q h1 h2 => absurd h1 (Nat.not_lt.mpr h2)) (fun q h => hA q (Nat.le_trans hS.1 h)) (fun r u t H1 lc ht hvm hw hB hz1 hk1 hS => ?_)
        replace hw : x11 = r := hw; subst hw
        replace hP := zx_keep hP hk1
        refine lv_istore (lv' := [(5, .int x11), (0, .ref h), (1, .int v1), (2, .int v2), (3, .int v3), (4, .int v4)]) hx hb dX1_throwOut_42 hl (by decide) rfl (fun ls hl => ?_)
        refine lv_aload_n hx hb dX1_throwOut_44 rfl (lv_at hl 1 rfl) ?_
        refine lv_iload hx hb dX1_throwOut_45 (lv_at hl 0 rfl) ?_
        refine lv_iload_n hx hb dX1_throwOut_47 rfl (lv_at hl 2 rfl) ?_
        obtain ⟨x13, hz14, hM⟩ := zx_b1E hM
        refine va_calli (va_runV (As := [.int x11, .int v1]) (rest := []) ⟨hx, hb, hml, hown, hts⟩ (c_X1_middleDistance l D cI cZ cT h ad S_ _ N x11 v1  hz14) (cwV 2 hts (zg_V zw_13_0 zw_13_1 zw_13_2 zw_1_14 zw_13_3) rfl rfl rfl ⟨rfl, zyX1_middleDistance⟩ ⟨Nat.le_of_ble_eq_true rfl, Nat.le_of_ble_eq_true rfl⟩) ⟨bS_blind, va_recv hK hP (ci := 1) (q0 := 0) rfl rfl, bS_pre hP hK hD hN⟩ rfl rfl hl.1 rfl (lv_room (Nat.le_of_ble_eq_true rfl)) dX1_throwOut_48 ⟨Nat.zero_le _, Nat.zero_le _⟩) hS (fun q h1 h2 => absurd h1 (Nat.not_lt.mpr h2)) (fun q h => hA q (Nat.le_trans hS.1 h)) (fun r u t H1 lc ht hvm hw hB hz1 hk1 hS => ?_)
        replace hw : x13 = r := hw; subst hw
        replace hP := zx_keep hP hk1
        refine lv_aload_n hx hb dX1_throwOut_51 rfl (lv_at hl 1 rfl) ?_
        refine lv_iload_n hx hb dX1_throwOut_52 rfl (lv_at hl 4 rfl) ?_
        refine lv_iload_n hx hb dX1_throwOut_53 rfl (lv_at hl 2 rfl) ?_
        obtain ⟨x15, hz16, hM⟩ := zx_b1E hM
        refine va_calli (va_runV (As := [.int v3, .int v1]) (rest := [.int x13]) ⟨hx, hb, hml, hown, hts⟩ (c_X1_middleDistance l D cI cZ cT h ad S_ _ N v3 v1  hz16) (cwV 2 hts (zg_V zw_13_0 zw_13_1 zw_13_2 zw_1_14 zw_13_3) rfl rfl rfl ⟨rfl, zyX1_middleDistance⟩ ⟨Nat.le_of_ble_eq_true rfl, Nat.le_of_ble_eq_true rfl⟩) ⟨bS_blind, va_recv hK hP (ci := 1) (q0 := 0) rfl rfl, bS_pre hP hK hD hN⟩ rfl rfl hl.1 rfl (lv_room (Nat.le_of_ble_eq_true rfl)) dX1_throwOut_54 ⟨Nat.zero_le _, Nat.zero_le _⟩) hS (fun q h1 h2 => absurd h1 (Nat.not_lt.mpr h2)) (fun q h => hA q (Nat.le_trans hS.1 h)) (fun r u t H1 lc ht hvm hw hB hz1 hk1 hS => ?_)
        replace hw : x15 = r := hw; subst hw
        replace hP := zx_keep hP hk1
        refine lv_icmp_le (tgt := 63) hx hb dX1_throwOut_57 (by decide) (fun q17 => ?_) (fun q17 => ?_)
        · replace hM := zx_t q17 hM
          exact j63 v1 v2 v3 v4 S_ _ _ _ hP hD hS (lv_sub hl [1, 2, 3, 4, 5] rfl) hM
        · replace hM := zx_f q17 hM
          refine lv_iload hx hb dX1_throwOut_60 (lv_at hl 0 rfl) ?_
          refine lv_istore_n (lv' := [(3, .int x11), (5, .int x11), (0, .ref h), (1, .int v1), (2, .int v2), (4, .int v4)]) hx hb dX1_throwOut_62 rfl hl (by decide) rfl (fun ls hl => ?_)
          exact j63 v1 v2 x11 v4 S_ _ _ _ hP hD hS (lv_sub hl [2, 3, 4, 0, 5] rfl) hM
  refine lv_aload_n hx hb dX1_throwOut_0 rfl (lv_at hl 0 rfl) ?_
  refine va_get (D := D) (ci := 1) (v := .ref (ad 3)) (C := RX1) (T := TX1) (N := 14) hx hb hts inlX1 hown hK hP 0 rfl rfl 3 (by decide) (hts _ zw_2_8) (fun _ h9 => h9) rfl dX1_throwOut_1 ?_
  refine lv_iload_n hx hb dX1_throwOut_4 rfl (lv_at hl 1 rfl) ?_
  obtain ⟨x18, hz19, hM⟩ := zx_b1E hM
  refine va_calli (va_runSN (As := [.ref (ad 3), .int p1]) (rest := []) ⟨hx, hb, hml, hown, hts⟩ (c_X2_get l D cI cZ cT (ad 3) 49 (S 3) _ N p1 hz19) ⟨va_cnB 2 hts (zg_c zw_3_6) rfl rfl rfl (hN _ (zx_nw_X1_70)) (hts _ zw_1_2) zyX2_get ⟨Nat.le_of_ble_eq_true rfl, Nat.le_of_ble_eq_true rfl⟩, (hts _ zw_3_5), trivial⟩ ⟨bS_blind, bS_pre (zx_P1 hP 4 (rfl)) hK (zx_D1 hD 4 (rfl)) hN⟩ rfl rfl hl.1 rfl (lv_room (Nat.le_of_ble_eq_true rfl)) dX1_throwOut_5 ⟨Nat.zero_le _, Nat.zero_le _⟩) hS (fun q h1 h2 => absurd h1 (Nat.not_lt.mpr h2)) (fun q h => hA q (Nat.le_trans hS.1 h)) (fun r u t H1 lc ht hvm hw hB hz1 hk1 hS => ?_)
  replace hw : x18 = r := hw; subst hw
  replace hP := zx_keep hP hk1
  refine lv_istore_n (lv' := [(2, .int x18), (0, .ref h), (1, .int p1)]) hx hb dX1_throwOut_8 rfl hl (by decide) rfl (fun ls hl => ?_)
  refine lv_aload_n hx hb dX1_throwOut_9 rfl (lv_at hl 1 rfl) ?_
  refine va_get (D := D) (ci := 1) (v := .ref (ad 4)) (C := RX1) (T := TX1) (N := 14) hx hb hts inlX1 hown hK hP 0 rfl rfl 4 (by decide) (hts _ zw_2_9) (fun _ h9 => h9) rfl dX1_throwOut_10 ?_
  refine lv_iload_n hx hb dX1_throwOut_13 rfl (lv_at hl 2 rfl) ?_
  refine lv_iconst (v := 5) hx hb dX1_throwOut_14 (by decide) ?_
  refine lv_imul hx hb dX1_throwOut_15 ?_
  obtain ⟨x20, hz21, hM⟩ := zx_b1E hM
  refine va_calli (va_runSN (As := [.ref (ad 4), .int (p1 * 5)]) (rest := []) ⟨hx, hb, hml, hown, hts⟩ (c_X2_get l D cI cZ cT (ad 4) 245 (S 4) _ N (p1 * 5) hz21) ⟨va_cnB 2 hts (zg_c zw_3_6) rfl rfl rfl (hN _ (zx_nw_X1_70)) (hts _ zw_1_2) zyX2_get ⟨Nat.le_of_ble_eq_true rfl, Nat.le_of_ble_eq_true rfl⟩, (hts _ zw_3_5), trivial⟩ ⟨bS_blind, bS_pre (zx_P1 hP 5 (rfl)) hK (zx_D1 hD 5 (rfl)) hN⟩ rfl rfl hl.1 rfl (lv_room (Nat.le_of_ble_eq_true rfl)) dX1_throwOut_16 ⟨Nat.zero_le _, Nat.zero_le _⟩) hS (fun q h1 h2 => absurd h1 (Nat.not_lt.mpr h2)) (fun q h => hA q (Nat.le_trans hS.1 h)) (fun r u t H1 lc ht hvm hw hB hz1 hk1 hS => ?_)
  replace hw : x20 = r := hw; subst hw
  replace hP := zx_keep hP hk1
  refine lv_istore_n (lv' := [(3, .int x20), (2, .int x18), (0, .ref h), (1, .int p1)]) hx hb dX1_throwOut_19 rfl hl (by decide) rfl (fun ls hl => ?_)
  refine lv_iconst (v := 1) hx hb dX1_throwOut_20 (by decide) ?_
  refine lv_istore (lv' := [(4, .int 1), (3, .int x20), (2, .int x18), (0, .ref h), (1, .int p1)]) hx hb dX1_throwOut_21 hl (by decide) rfl (fun ls hl => ?_)
  exact l23 N p1 x18 x20 1 S _ _ _ hP hD hS (lv_sub hl [3, 4, 2, 1, 0] rfl) hM

/-! ShallowBoxes$Tree.seedPair()I -/
def f_X1_seedPair_j93 (N : Nat) (S : zx_S) (k6 : Int32 → Int32 → Int32 → Option (Int32)) (k16 : Int32 → Int32 → Int32 → Int32 → Option (Int32)) (v1 : Int32) (v2 : Int32) (v3 : Int32) (v4 : Int32) : Option (Int32) :=
  (zx_n (v4 + 1) (fun x4 =>
k16 v1 v2 v3 x4))
def f_X1_seedPair_j83 (N : Nat) (S : zx_S) (k6 : Int32 → Int32 → Int32 → Option (Int32)) (k16 : Int32 → Int32 → Int32 → Int32 → Option (Int32)) (v3 : Int32) (v4 : Int32) (v7 : Int32) : Option (Int32) :=
  (zx_n ((v3 * 5) + v4) (fun x5 =>
f_X1_seedPair_j93 N S k6 k16 x5 v7 v3 v4))
def f_X1_seedPair_j77 (N : Nat) (S : zx_S) (k6 : Int32 → Int32 → Int32 → Option (Int32)) (k16 : Int32 → Int32 → Int32 → Int32 → Option (Int32)) (v1 : Int32) (v2 : Int32) (v3 : Int32) (v4 : Int32) (v7 : Int32) : Option (Int32) :=
  (if v7 ≤ v2 then
  f_X1_seedPair_j93 N S k6 k16 v1 v2 v3 v4 else
  f_X1_seedPair_j83 N S k6 k16 v3 v4 v7)
def f_X1_seedPair_l16 (N : Nat) (S : zx_S) (k6 : Int32 → Int32 → Int32 → Option (Int32)) : Nat → Int32 → Int32 → Int32 → Int32 → Option (Int32)
  | 0, _, _, _, _ => none
  | n16 + 1, v1, v2, v3, v4 => (if 5 ≤ v4 then
  (zx_n (v3 + 1) (fun x3 =>
k6 v1 v2 x3)) else
  (zx_b1 (f_X2_get N 5 v3 (S 7)) (fun x7 =>
(zx_b1 (f_X2_get N 5 v4 (S 7)) (fun x9 =>
(zx_b1 (f_X1_joinArea N x7 x9 S) (fun x11 =>
(zx_b1 (f_X1_area N x7 S) (fun x13 =>
(zx_b1 (f_X1_area N x9 S) (fun x15 =>
(zx_n ((x11 - x13) - x15) (fun x17 =>
(if v3 = 0 then
  (if v4 = 1 then
  f_X1_seedPair_j83 N S k6 (f_X1_seedPair_l16 N S k6  n16) v3 v4 x17 else
  f_X1_seedPair_j77 N S k6 (f_X1_seedPair_l16 N S k6  n16) v1 v2 v3 v4 x17) else
  f_X1_seedPair_j77 N S k6 (f_X1_seedPair_l16 N S k6  n16) v1 v2 v3 v4 x17))))))))))))))
def f_X1_seedPair_l6 (N : Nat) (S : zx_S) : Nat → Int32 → Int32 → Int32 → Option (Int32)
  | 0, _, _, _ => none
  | n6 + 1, v1, v2, v3 => (if 5 ≤ v3 then
  some v1 else
  (zx_n (v3 + 1) (fun x20 =>
f_X1_seedPair_l16 N S (f_X1_seedPair_l6 N S  n6) N v1 v2 v3 x20)))
def f_X1_seedPair (N : Nat) (S : zx_S) : Option (Int32) :=
  f_X1_seedPair_l6 N S  N 1 0 0
abbrev rmX1_seedPair : Room := { frames := 2, cells := 0, slots := 0, locals := 47 }
abbrev zsX1_seedPair : List Cond := .code yX1_seedPair cX1_seedPair 8 (some .int) :: wsL_law
theorem zyX1_seedPair : yX1_seedPair.cls ≠ "java/lang/invoke/MethodHandle" ∧ yX1_seedPair.cls ≠ "java/lang/invoke/VarHandle" ∧ (parseMethodDescriptor yX1_seedPair.desc).map (fun d => d.parameters.length) = some 0 := by decide +kernel
set_option maxHeartbeats 4000000 in
set_option maxRecDepth 100000 in
theorem c_X1_seedPair (l : Launch) (D : va_G) (cI cZ cT : ClassId) (h : Nat) (ad : Nat → Nat) (S : zx_S) (sz : Nat) (N : Nat) {R : Int32} (hM : f_X1_seedPair N S = some R) : Met l yX1_seedPair zsX1_seedPair rmX1_seedPair (va_Pc [.ref h] (bS D (zx_ty cI cZ cT) (xW1 cI h ad S) sz)) (va_Qi (fun r (_ : Unit) => R = r) (fun _ _ => True) (fun q => sz ≤ q)) 0 0 (fun q => sz ≤ q) := by
  refine Met.ofW (cc := cX1_seedPair) (maxL := 8) (ret := (some .int)) (by decide) rfl ?_
  intro p e s m args below meth c s₁ B hml hv
  obtain ⟨rfl, hsz, hP, hK, hD0, hN⟩ := hv
  have hx := B.exec
  have hb := B.bytes
  have hr := B.returns
  have hts : ∀ w ∈ wsL_law, w.before _ s = true := fun w hw => atoms_spec (ws := zsX1_seedPair) B.pre w (List.mem_cons_of_mem _ hw)
  have hown : s.vm.findClass RX1 = some m.cls := findClass_of_methodNamed B.named
  have hlocks := B.notSynchronized
  subst hsz
  generalize hAe : (fun q : Nat => s.heap.size ≤ q) = A
  have hA : ∀ q : Nat, s.heap.size ≤ q → A q := fun q h => by rw [← hAe]; exact h
  have hD := hD0
  have hS : va_S A s.heap s.heap [] := va_S.rf
  have hl := lv_entry ([.ref h]) (n := 8) (Nat.le_of_ble_eq_true rfl)
  rw [lg_entry_eq]
  generalize (lg_sl ([.ref h]) ++ List.replicate (8 - (lg_sl ([.ref h])).length) Slot.unset).toArray = ls at hl ⊢
  have hl : lv_has ls 8 [(0, .ref h)] := hl
  generalize hQ : MQ below (va_Qi (fun r (_ : Unit) => R = r) (fun _ _ => True) A) ([.ref h] : List Value).toArray s 0 0 A = Q9
  replace hQ := hQ.symm
  unfold f_X1_seedPair at hM
  have l6 : ∀ (n6 : Nat) (v1 : Int32) (v2 : Int32) (v3 : Int32) (H : Heap) (lc : List Loc) (ls : Array Slot), va_P D vwCl (xW1 cI h ad S) H → va_S A s.heap H lc → lv_has ls 8 [(0, .ref h), (1, .int v1), (2, .int v2), (3, .int v3)] → f_X1_seedPair_l6 N S n6 v1 v2 v3 = some R → W p l e (headSpec zsX1_seedPair rmX1_seedPair).room s m ([.ref h] : List Value).toArray below meth c H lc 0 0 Q9 (F0 m 6 ls []) := by
    intro n6
    induction n6 with
    | zero =>
      intro v1 v2 v3 H lc ls hP hS hl hM
      rw [f_X1_seedPair_l6] at hM; exact absurd hM (by intro h; cases h)
    | succ n6 ih6 =>
      intro v1 v2 v3 H lc ls hP hS hl hM
      rw [f_X1_seedPair_l6] at hM
      refine lv_iload_n hx hb dX1_seedPair_6 rfl (lv_at hl 3 rfl) ?_
      refine lv_iconst (v := 5) hx hb dX1_seedPair_7 (by decide) ?_
      refine lv_icmp_ge (tgt := 105) hx hb dX1_seedPair_8 (by decide) (fun q1 => ?_) (fun q1 => ?_)
      · replace hM := zx_t q1 hM
        refine lv_iload_n hx hb dX1_seedPair_105 rfl (lv_at hl 1 rfl) ?_
        rw [hQ]
        exact W.iret hx hb hr (fun t ht hW => ⟨⟨v1, (), rfl, (Option.some.inj hM).symm, trivial⟩, hS.F ht⟩) hS.2.2 dX1_seedPair_106
      · replace hM := zx_f q1 hM
        have l16 : ∀ (n16 : Nat) (v1 : Int32) (v2 : Int32) (v3 : Int32) (v4 : Int32) (H : Heap) (lc : List Loc) (ls : Array Slot), va_P D vwCl (xW1 cI h ad S) H → va_S A s.heap H lc → lv_has ls 8 [(0, .ref h), (1, .int v1), (2, .int v2), (3, .int v3), (4, .int v4)] → f_X1_seedPair_l16 N S (f_X1_seedPair_l6 N S  n6) n16 v1 v2 v3 v4 = some R → W p l e (headSpec zsX1_seedPair rmX1_seedPair).room s m ([.ref h] : List Value).toArray below meth c H lc 0 0 Q9 (F0 m 16 ls []) := by
          intro n16
          induction n16 with
          | zero =>
            intro v1 v2 v3 v4 H lc ls hP hS hl hM
            rw [f_X1_seedPair_l16] at hM; exact absurd hM (by intro h; cases h)
          | succ n16 ih16 =>
            intro v1 v2 v3 v4 H lc ls hP hS hl hM
            rw [f_X1_seedPair_l16] at hM
            refine lv_iload hx hb dX1_seedPair_16 (lv_at hl 4 rfl) ?_
            refine lv_iconst (v := 5) hx hb dX1_seedPair_18 (by decide) ?_
            refine lv_icmp_ge (tgt := 99) hx hb dX1_seedPair_19 (by decide) (fun q2 => ?_) (fun q2 => ?_)
            · replace hM := zx_t q2 hM
              obtain ⟨x3, ex3, hM⟩ := zx_nE hM
              refine lv_iinc (v := x3) (lv' := [(3, .int x3), (0, .ref h), (1, .int v1), (2, .int v2), (4, .int v4)]) hx hb dX1_seedPair_99 hl (k := 3) rfl (by rw [ex3]; rfl) (by decide) rfl (fun ls hl => ?_)
              refine lv_goto (tgt := 6) hx hb dX1_seedPair_102 (by decide) ?_
              exact ih6 v1 v2 x3 _ _ _ hP hS (lv_sub hl [1, 2, 3, 0] rfl) hM
            · replace hM := zx_f q2 hM
              have j93 : ∀ (v1 : Int32) (v2 : Int32) (v3 : Int32) (v4 : Int32) (H : Heap) (lc : List Loc) (ls : Array Slot), va_P D vwCl (xW1 cI h ad S) H → va_S A s.heap H lc → lv_has ls 8 [(0, .ref h), (1, .int v1), (2, .int v2), (3, .int v3), (4, .int v4)] → f_X1_seedPair_j93 N S (f_X1_seedPair_l6 N S  n6) (f_X1_seedPair_l16 N S (f_X1_seedPair_l6 N S  n6)  n16) v1 v2 v3 v4 = some R → W p l e (headSpec zsX1_seedPair rmX1_seedPair).room s m ([.ref h] : List Value).toArray below meth c H lc 0 0 Q9 (F0 m 93 ls []) := by
                intro v1 v2 v3 v4 H lc ls hP hS hl hM
                unfold f_X1_seedPair_j93 at hM
                obtain ⟨x4, ex4, hM⟩ := zx_nE hM
                refine lv_iinc (v := x4) (lv' := [(4, .int x4), (0, .ref h), (1, .int v1), (2, .int v2), (3, .int v3)]) hx hb dX1_seedPair_93 hl (k := 4) rfl (by rw [ex4]; rfl) (by decide) rfl (fun ls hl => ?_)
                refine lv_goto (tgt := 16) hx hb dX1_seedPair_96 (by decide) ?_
                exact ih16 v1 v2 v3 x4 _ _ _ hP hS (lv_sub hl [1, 2, 3, 4, 0] rfl) hM
              have j83 : ∀ (v3 : Int32) (v4 : Int32) (v7 : Int32) (H : Heap) (lc : List Loc) (ls : Array Slot), va_P D vwCl (xW1 cI h ad S) H → va_S A s.heap H lc → lv_has ls 8 [(0, .ref h), (3, .int v3), (4, .int v4), (7, .int v7)] → f_X1_seedPair_j83 N S (f_X1_seedPair_l6 N S  n6) (f_X1_seedPair_l16 N S (f_X1_seedPair_l6 N S  n6)  n16) v3 v4 v7 = some R → W p l e (headSpec zsX1_seedPair rmX1_seedPair).room s m ([.ref h] : List Value).toArray below meth c H lc 0 0 Q9 (F0 m 83 ls []) := by
                intro v3 v4 v7 H lc ls hP hS hl hM
                unfold f_X1_seedPair_j83 at hM
                refine lv_iload_n hx hb dX1_seedPair_83 rfl (lv_at hl 1 rfl) ?_
                refine lv_iconst (v := 5) hx hb dX1_seedPair_84 (by decide) ?_
                refine lv_imul hx hb dX1_seedPair_85 ?_
                refine lv_iload hx hb dX1_seedPair_86 (lv_at hl 2 rfl) ?_
                refine lv_iadd hx hb dX1_seedPair_88 ?_
                obtain ⟨x5, ex5, hM⟩ := zx_nE hM
                refine zx_top ex5 ?_
                refine lv_istore_n (lv' := [(1, .int x5), (0, .ref h), (3, .int v3), (4, .int v4), (7, .int v7)]) hx hb dX1_seedPair_89 rfl hl (by decide) rfl (fun ls hl => ?_)
                refine lv_iload hx hb dX1_seedPair_90 (lv_at hl 4 rfl) ?_
                refine lv_istore_n (lv' := [(2, .int v7), (1, .int x5), (0, .ref h), (3, .int v3), (4, .int v4), (7, .int v7)]) hx hb dX1_seedPair_92 rfl hl (by decide) rfl (fun ls hl => ?_)
                exact j93 x5 v7 v3 v4 _ _ _ hP hS (lv_sub hl [2, 1, 0, 3, 4] rfl) hM
              have j77 : ∀ (v1 : Int32) (v2 : Int32) (v3 : Int32) (v4 : Int32) (v7 : Int32) (H : Heap) (lc : List Loc) (ls : Array Slot), va_P D vwCl (xW1 cI h ad S) H → va_S A s.heap H lc → lv_has ls 8 [(0, .ref h), (1, .int v1), (2, .int v2), (3, .int v3), (4, .int v4), (7, .int v7)] → f_X1_seedPair_j77 N S (f_X1_seedPair_l6 N S  n6) (f_X1_seedPair_l16 N S (f_X1_seedPair_l6 N S  n6)  n16) v1 v2 v3 v4 v7 = some R → W p l e (headSpec zsX1_seedPair rmX1_seedPair).room s m ([.ref h] : List Value).toArray below meth c H lc 0 0 Q9 (F0 m 77 ls []) := by
                intro v1 v2 v3 v4 v7 H lc ls hP hS hl hM
                unfold f_X1_seedPair_j77 at hM
                refine lv_iload hx hb dX1_seedPair_77 (lv_at hl 5 rfl) ?_
                refine lv_iload_n hx hb dX1_seedPair_79 rfl (lv_at hl 2 rfl) ?_
                refine lv_icmp_le (tgt := 93) hx hb dX1_seedPair_80 (by decide) (fun q6 => ?_) (fun q6 => ?_)
                · replace hM := zx_t q6 hM
                  exact j93 v1 v2 v3 v4 _ _ _ hP hS (lv_sub hl [0, 1, 2, 3, 4] rfl) hM
                · replace hM := zx_f q6 hM
                  exact j83 v3 v4 v7 _ _ _ hP hS (lv_sub hl [0, 3, 4, 5] rfl) hM
              refine lv_aload_n hx hb dX1_seedPair_22 rfl (lv_at hl 0 rfl) ?_
              refine va_get (D := D) (ci := 1) (v := .ref (ad 7)) (C := RX1) (T := TX1) (N := 14) hx hb hts inlX1 hown hK hP 0 rfl rfl 11 (by decide) (hts _ zw_2_12) (fun _ h9 => h9) rfl dX1_seedPair_23 ?_
              refine lv_iload_n hx hb dX1_seedPair_26 rfl (lv_at hl 3 rfl) ?_
              obtain ⟨x7, hz8, hM⟩ := zx_b1E hM
              refine va_calli (va_runSN (As := [.ref (ad 7), .int v3]) (rest := []) ⟨hx, hb, hml, hown, hts⟩ (c_X2_get l D cI cZ cT (ad 7) 5 (S 7) _ N v3 hz8) ⟨va_cnB 2 hts (zg_c zw_3_6) rfl rfl rfl (hN _ (zx_nw_X1_70)) (hts _ zw_1_2) zyX2_get ⟨Nat.le_of_ble_eq_true rfl, Nat.le_of_ble_eq_true rfl⟩, (hts _ zw_3_5), trivial⟩ ⟨bS_blind, bS_pre (zx_P1 hP 8 (rfl)) hK (zx_D1 hD 8 (rfl)) hN⟩ rfl rfl hl.1 rfl (lv_room (Nat.le_of_ble_eq_true rfl)) dX1_seedPair_27 ⟨Nat.zero_le _, Nat.zero_le _⟩) hS (fun q h1 h2 => absurd h1 (Nat.not_lt.mpr h2)) (fun q h => hA q (Nat.le_trans hS.1 h)) (fun r u t H1 lc ht hvm hw hB hz1 hk1 hS => ?_)
              replace hw : x7 = r := hw; subst hw
              replace hP := zx_keep hP hk1
              refine lv_istore (lv' := [(5, .int x7), (0, .ref h), (1, .int v1), (2, .int v2), (3, .int v3), (4, .int v4)]) hx hb dX1_seedPair_30 hl (by decide) rfl (fun ls hl => ?_)
              refine lv_aload_n hx hb dX1_seedPair_32 rfl (lv_at hl 1 rfl) ?_
              refine va_get (D := D) (ci := 1) (v := .ref (ad 7)) (C := RX1) (T := TX1) (N := 14) hx hb hts inlX1 hown hK hP 0 rfl rfl 11 (by decide) (hts _ zw_2_12) (fun _ h9 => h9) rfl dX1_seedPair_33 ?_
              refine lv_iload hx hb dX1_seedPair_36 (lv_at hl 5 rfl) ?_
              obtain ⟨x9, hz10, hM⟩ := zx_b1E hM
              refine va_calli (va_runSN (As := [.ref (ad 7), .int v4]) (rest := []) ⟨hx, hb, hml, hown, hts⟩ (c_X2_get l D cI cZ cT (ad 7) 5 (S 7) _ N v4 hz10) ⟨va_cnB 2 hts (zg_c zw_3_6) rfl rfl rfl (hN _ (zx_nw_X1_70)) (hts _ zw_1_2) zyX2_get ⟨Nat.le_of_ble_eq_true rfl, Nat.le_of_ble_eq_true rfl⟩, (hts _ zw_3_5), trivial⟩ ⟨bS_blind, bS_pre (zx_P1 hP 8 (rfl)) hK (zx_D1 hD 8 (rfl)) hN⟩ rfl rfl hl.1 rfl (lv_room (Nat.le_of_ble_eq_true rfl)) dX1_seedPair_38 ⟨Nat.zero_le _, Nat.zero_le _⟩) hS (fun q h1 h2 => absurd h1 (Nat.not_lt.mpr h2)) (fun q h => hA q (Nat.le_trans hS.1 h)) (fun r u t H1 lc ht hvm hw hB hz1 hk1 hS => ?_)
              replace hw : x9 = r := hw; subst hw
              replace hP := zx_keep hP hk1
              refine lv_istore (lv' := [(6, .int x9), (5, .int x7), (0, .ref h), (1, .int v1), (2, .int v2), (3, .int v3), (4, .int v4)]) hx hb dX1_seedPair_41 hl (by decide) rfl (fun ls hl => ?_)
              refine lv_aload_n hx hb dX1_seedPair_43 rfl (lv_at hl 2 rfl) ?_
              refine lv_iload hx hb dX1_seedPair_44 (lv_at hl 1 rfl) ?_
              refine lv_iload hx hb dX1_seedPair_46 (lv_at hl 0 rfl) ?_
              obtain ⟨x11, hz12, hM⟩ := zx_b1E hM
              refine va_calli (va_runV (As := [.int x7, .int x9]) (rest := []) ⟨hx, hb, hml, hown, hts⟩ (c_X1_joinArea l D cI cZ cT h ad S _ N x7 x9  hz12) (cwV 2 hts (zg_V zw_12_4 zw_12_5 zw_12_6 zw_1_14 zw_12_7) rfl rfl rfl ⟨rfl, zyX1_joinArea⟩ ⟨Nat.le_of_ble_eq_true rfl, Nat.le_of_ble_eq_true rfl⟩) ⟨bS_blind, va_recv hK hP (ci := 1) (q0 := 0) rfl rfl, bS_pre hP hK hD hN⟩ rfl rfl hl.1 rfl (lv_room (Nat.le_of_ble_eq_true rfl)) dX1_seedPair_48 ⟨Nat.zero_le _, Nat.zero_le _⟩) hS (fun q h1 h2 => absurd h1 (Nat.not_lt.mpr h2)) (fun q h => hA q (Nat.le_trans hS.1 h)) (fun r u t H1 lc ht hvm hw hB hz1 hk1 hS => ?_)
              replace hw : x11 = r := hw; subst hw
              replace hP := zx_keep hP hk1
              refine lv_aload_n hx hb dX1_seedPair_51 rfl (lv_at hl 2 rfl) ?_
              refine lv_iload hx hb dX1_seedPair_52 (lv_at hl 1 rfl) ?_
              obtain ⟨x13, hz14, hM⟩ := zx_b1E hM
              refine va_calli (va_runV (As := [.int x7]) (rest := [.int x11]) ⟨hx, hb, hml, hown, hts⟩ (c_X1_area l D cI cZ cT h ad S _ N x7  hz14) (cwV 1 hts (zg_V zw_6_18 zw_6_19 zw_6_20 zw_1_14 zw_6_21) rfl rfl rfl ⟨rfl, zyX1_area⟩ ⟨Nat.le_of_ble_eq_true rfl, Nat.le_of_ble_eq_true rfl⟩) ⟨bS_blind, va_recv hK hP (ci := 1) (q0 := 0) rfl rfl, bS_pre hP hK hD hN⟩ rfl rfl hl.1 rfl (lv_room (Nat.le_of_ble_eq_true rfl)) dX1_seedPair_54 ⟨Nat.zero_le _, Nat.zero_le _⟩) hS (fun q h1 h2 => absurd h1 (Nat.not_lt.mpr h2)) (fun q h => hA q (Nat.le_trans hS.1 h)) (fun r u t H1 lc ht hvm hw hB hz1 hk1 hS => ?_)
              replace hw : x13 = r := hw; subst hw
              replace hP := zx_keep hP hk1
              refine lv_isub hx hb dX1_seedPair_57 ?_
              refine lv_aload_n hx hb dX1_seedPair_58 rfl (lv_at hl 2 rfl) ?_
              refine lv_iload hx hb dX1_seedPair_59 (lv_at hl 0 rfl) ?_
              obtain ⟨x15, hz16, hM⟩ := zx_b1E hM
              refine va_calli (va_runV (As := [.int x9]) (rest := [.int (x11 - x13)]) ⟨hx, hb, hml, hown, hts⟩ (c_X1_area l D cI cZ cT h ad S _ N x9  hz16) (cwV 1 hts (zg_V zw_6_18 zw_6_19 zw_6_20 zw_1_14 zw_6_21) rfl rfl rfl ⟨rfl, zyX1_area⟩ ⟨Nat.le_of_ble_eq_true rfl, Nat.le_of_ble_eq_true rfl⟩) ⟨bS_blind, va_recv hK hP (ci := 1) (q0 := 0) rfl rfl, bS_pre hP hK hD hN⟩ rfl rfl hl.1 rfl (lv_room (Nat.le_of_ble_eq_true rfl)) dX1_seedPair_61 ⟨Nat.zero_le _, Nat.zero_le _⟩) hS (fun q h1 h2 => absurd h1 (Nat.not_lt.mpr h2)) (fun q h => hA q (Nat.le_trans hS.1 h)) (fun r u t H1 lc ht hvm hw hB hz1 hk1 hS => ?_)
              replace hw : x15 = r := hw; subst hw
              replace hP := zx_keep hP hk1
              refine lv_isub hx hb dX1_seedPair_64 ?_
              obtain ⟨x17, ex17, hM⟩ := zx_nE hM
              refine zx_top ex17 ?_
              refine lv_istore (lv' := [(7, .int x17), (6, .int x9), (5, .int x7), (0, .ref h), (1, .int v1), (2, .int v2), (3, .int v3), (4, .int v4)]) hx hb dX1_seedPair_65 hl (by decide) rfl (fun ls hl => ?_)
              refine lv_iload_n hx hb dX1_seedPair_67 rfl (lv_at hl 6 rfl) ?_
              refine lv_if_ne (tgt := 77) hx hb dX1_seedPair_68 (by decide) (fun q18 => ?_) (fun q18 => ?_)
              · replace hM := zx_f q18 hM
                exact j77 v1 v2 v3 v4 x17 _ _ _ hP hS (lv_sub hl [3, 4, 5, 6, 7, 0] rfl) hM
              · replace hM := zx_t q18 hM
                refine lv_iload hx hb dX1_seedPair_71 (lv_at hl 7 rfl) ?_
                refine lv_iconst (v := 1) hx hb dX1_seedPair_73 (by decide) ?_
                refine lv_icmp_eq (tgt := 83) hx hb dX1_seedPair_74 (by decide) (fun q19 => ?_) (fun q19 => ?_)
                · replace hM := zx_t q19 hM
                  exact j83 v3 v4 x17 _ _ _ hP hS (lv_sub hl [3, 6, 7, 0] rfl) hM
                · replace hM := zx_f q19 hM
                  exact j77 v1 v2 v3 v4 x17 _ _ _ hP hS (lv_sub hl [3, 4, 5, 6, 7, 0] rfl) hM
        refine lv_iload_n hx hb dX1_seedPair_11 rfl (lv_at hl 3 rfl) ?_
        refine lv_iconst (v := 1) hx hb dX1_seedPair_12 (by decide) ?_
        refine lv_iadd hx hb dX1_seedPair_13 ?_
        obtain ⟨x20, ex20, hM⟩ := zx_nE hM
        refine zx_top ex20 ?_
        refine lv_istore (lv' := [(4, .int x20), (0, .ref h), (1, .int v1), (2, .int v2), (3, .int v3)]) hx hb dX1_seedPair_14 hl (by decide) rfl (fun ls hl => ?_)
        exact l16 N v1 v2 v3 x20 _ _ _ hP hS (lv_sub hl [1, 2, 3, 4, 0] rfl) hM
  refine lv_iconst (v := 1) hx hb dX1_seedPair_0 (by decide) ?_
  refine lv_istore_n (lv' := [(1, .int 1), (0, .ref h)]) hx hb dX1_seedPair_1 rfl hl (by decide) rfl (fun ls hl => ?_)
  refine lv_iconst (v := 0) hx hb dX1_seedPair_2 (by decide) ?_
  refine lv_istore_n (lv' := [(2, .int 0), (1, .int 1), (0, .ref h)]) hx hb dX1_seedPair_3 rfl hl (by decide) rfl (fun ls hl => ?_)
  refine lv_iconst (v := 0) hx hb dX1_seedPair_4 (by decide) ?_
  refine lv_istore_n (lv' := [(3, .int 0), (2, .int 0), (1, .int 1), (0, .ref h)]) hx hb dX1_seedPair_5 rfl hl (by decide) rfl (fun ls hl => ?_)
  exact l6 N 1 0 0 _ _ _ hP hS (lv_sub hl [3, 2, 1, 0] rfl) hM

/-! ShallowBoxes$Tree.join(II)V -/
def f_X1_join (N : Nat) (p1 : Int32) (p2 : Int32) (S : zx_S) : Option (zx_S) :=
  (zx_b1 (f_X2_get N 49 p1 (S 3)) (fun x1 =>
(zx_b1 (f_X2_put N 245 ((p1 * 5) + x1) p2 (S 4)) (fun g3 =>
(zx_n (zx_st S 4 g3) (fun T5 =>
(zx_b1 (f_X2_put N 49 p1 (x1 + 1) (T5 3)) (fun g6 =>
(zx_n (zx_st T5 3 g6) (fun T8 =>
(zx_b1 (f_X2_put N 49 p2 p1 (T8 2)) (fun g9 =>
(zx_n (zx_st T8 2 g9) (fun T11 =>
(zx_b1 (f_X1_fit N p1 T11) (fun T12 =>
some T12))))))))))))))))
abbrev rmX1_join : Room := { frames := 2, cells := 0, slots := 0, locals := 50 }
abbrev zsX1_join : List Cond := .code yX1_join cX1_join 4 none :: wsL_law
theorem zyX1_join : yX1_join.cls ≠ "java/lang/invoke/MethodHandle" ∧ yX1_join.cls ≠ "java/lang/invoke/VarHandle" ∧ (parseMethodDescriptor yX1_join.desc).map (fun d => d.parameters.length) = some 2 := by decide +kernel
set_option maxHeartbeats 4000000 in
set_option maxRecDepth 100000 in
theorem c_X1_join (l : Launch) (D : va_G) (cI cZ cT : ClassId) (h : Nat) (ad : Nat → Nat) (S : zx_S) (sz : Nat) (N : Nat) (p1 : Int32) (p2 : Int32) {R : zx_S} (hM : f_X1_join N p1 p2 S = some R) : Met l yX1_join zsX1_join rmX1_join (va_Pc [.ref h, .int p1, .int p2] (bS D (zx_ty cI cZ cT) (xW1 cI h ad S) sz)) (va_Qv (fun u => R = u) (fun u t => va_P D vwCl (xW1 cI h ad u) t.heap) (va_A (xW1 cI h ad S) sz)) 0 0 (va_A (xW1 cI h ad S) sz) := by
  refine Met.ofW (cc := cX1_join) (maxL := 4) (ret := none) (by decide) rfl ?_
  intro p e s m args below meth c s₁ B hml hv
  obtain ⟨rfl, hsz, hP, hK, hD0, hN⟩ := hv
  have hx := B.exec
  have hb := B.bytes
  have hr := B.returns
  have hts : ∀ w ∈ wsL_law, w.before _ s = true := fun w hw => atoms_spec (ws := zsX1_join) B.pre w (List.mem_cons_of_mem _ hw)
  have hown : s.vm.findClass RX1 = some m.cls := findClass_of_methodNamed B.named
  have hlocks := B.notSynchronized
  subst hsz
  have hD := hD0.self (sz := s.heap.size)
  generalize hAe : va_A (xW1 cI h ad S) s.heap.size = A at hD ⊢
  have hA : ∀ q : Nat, s.heap.size ≤ q → A q := fun q h => by rw [← hAe]; exact Or.inr h
  have hS : va_S A s.heap s.heap [] := va_S.rf
  have hl := lv_entry ([.ref h, .int p1, .int p2]) (n := 4) (Nat.le_of_ble_eq_true rfl)
  rw [lg_entry_eq]
  generalize (lg_sl ([.ref h, .int p1, .int p2]) ++ List.replicate (4 - (lg_sl ([.ref h, .int p1, .int p2])).length) Slot.unset).toArray = ls at hl ⊢
  have hl : lv_has ls 4 [(0, .ref h), (1, .int p1), (2, .int p2)] := hl
  generalize hQ : MQ below (va_Qv (fun u => R = u) (fun u t => va_P D vwCl (xW1 cI h ad u) t.heap) A) ([.ref h, .int p1, .int p2] : List Value).toArray s 0 0 A = Q9
  replace hQ := hQ.symm
  unfold f_X1_join at hM
  refine lv_aload_n hx hb dX1_join_0 rfl (lv_at hl 0 rfl) ?_
  refine va_get (D := D) (ci := 1) (v := .ref (ad 3)) (C := RX1) (T := TX1) (N := 14) hx hb hts inlX1 hown hK hP 0 rfl rfl 3 (by decide) (hts _ zw_2_8) (fun _ h9 => h9) rfl dX1_join_1 ?_
  refine lv_iload_n hx hb dX1_join_4 rfl (lv_at hl 1 rfl) ?_
  obtain ⟨x1, hz2, hM⟩ := zx_b1E hM
  refine va_calli (va_runSN (As := [.ref (ad 3), .int p1]) (rest := []) ⟨hx, hb, hml, hown, hts⟩ (c_X2_get l D cI cZ cT (ad 3) 49 (S 3) _ N p1 hz2) ⟨va_cnB 2 hts (zg_c zw_3_6) rfl rfl rfl (hN _ (zx_nw_X1_70)) (hts _ zw_1_2) zyX2_get ⟨Nat.le_of_ble_eq_true rfl, Nat.le_of_ble_eq_true rfl⟩, (hts _ zw_3_5), trivial⟩ ⟨bS_blind, bS_pre (zx_P1 hP 4 (rfl)) hK (zx_D1 hD 4 (rfl)) hN⟩ rfl rfl hl.1 rfl (lv_room (Nat.le_of_ble_eq_true rfl)) dX1_join_5 ⟨Nat.zero_le _, Nat.zero_le _⟩) hS (fun q h1 h2 => absurd h1 (Nat.not_lt.mpr h2)) (fun q h => hA q (Nat.le_trans hS.1 h)) (fun r u t H1 lc ht hvm hw hB hz1 hk1 hS => ?_)
  replace hw : x1 = r := hw; subst hw
  replace hP := zx_keep hP hk1
  refine lv_istore_n (lv' := [(3, .int x1), (0, .ref h), (1, .int p1), (2, .int p2)]) hx hb dX1_join_8 rfl hl (by decide) rfl (fun ls hl => ?_)
  refine lv_aload_n hx hb dX1_join_9 rfl (lv_at hl 1 rfl) ?_
  refine va_get (D := D) (ci := 1) (v := .ref (ad 4)) (C := RX1) (T := TX1) (N := 14) hx hb hts inlX1 hown hK hP 0 rfl rfl 4 (by decide) (hts _ zw_2_9) (fun _ h9 => h9) rfl dX1_join_10 ?_
  refine lv_iload_n hx hb dX1_join_13 rfl (lv_at hl 2 rfl) ?_
  refine lv_iconst (v := 5) hx hb dX1_join_14 (by decide) ?_
  refine lv_imul hx hb dX1_join_15 ?_
  refine lv_iload_n hx hb dX1_join_16 rfl (lv_at hl 0 rfl) ?_
  refine lv_iadd hx hb dX1_join_17 ?_
  refine lv_iload_n hx hb dX1_join_18 rfl (lv_at hl 3 rfl) ?_
  obtain ⟨g3, hz4, hM⟩ := zx_b1E hM
  refine va_callv (va_runSN (As := [.ref (ad 4), .int ((p1 * 5) + x1), .int p2]) (rest := []) ⟨hx, hb, hml, hown, hts⟩ (c_X2_put l D cI cZ cT (ad 4) 245 (S 4) _ N ((p1 * 5) + x1) p2 hz4) ⟨va_cnB 3 hts (zg_c zw_3_0) rfl rfl rfl (hN _ (zx_nw_X1_45)) (hts _ zw_1_2) zyX2_put ⟨Nat.le_of_ble_eq_true rfl, Nat.le_of_ble_eq_true rfl⟩, (hts _ zw_2_23), trivial⟩ ⟨bS_blind, bS_pre (zx_P1 hP 5 (rfl)) hK (zx_D1 hD 5 (rfl)) hN⟩ rfl rfl hl.1 rfl (lv_room (Nat.le_of_ble_eq_true rfl)) dX1_join_19 ⟨Nat.zero_le _, Nat.zero_le _⟩) hS (fun q _ h => zx_f1 hD hS hA (k := 5) rfl q h) (fun q h => zx_f1 hD hS hA (k := 5) rfl q h) (fun u t H1 lc ht hvm hw hB hz1 hk1 hS => ?_)
  replace hw : g3 = u := hw; subst hw
  rw [ht] at hB
  replace hP := zx_set1 (k := 5) hP hD rfl hk1 hB
  replace hD := va_D.set (p := 5) (e := .inl (cI, 245, .inl g3)) hD rfl
  rw [xW1_pa4] at hP hD
  obtain ⟨T5, eT5, hM⟩ := zx_nE hM
  rw [← eT5] at hP hD
  refine lv_aload_n hx hb dX1_join_22 rfl (lv_at hl 1 rfl) ?_
  refine va_get (D := D) (ci := 1) (v := .ref (ad 3)) (C := RX1) (T := TX1) (N := 14) hx hb hts inlX1 hown hK hP 0 rfl rfl 3 (by decide) (hts _ zw_2_8) (fun _ h9 => h9) rfl dX1_join_23 ?_
  refine lv_iload_n hx hb dX1_join_26 rfl (lv_at hl 2 rfl) ?_
  refine lv_iload_n hx hb dX1_join_27 rfl (lv_at hl 0 rfl) ?_
  refine lv_iconst (v := 1) hx hb dX1_join_28 (by decide) ?_
  refine lv_iadd hx hb dX1_join_29 ?_
  obtain ⟨g6, hz7, hM⟩ := zx_b1E hM
  refine va_callv (va_runSN (As := [.ref (ad 3), .int p1, .int (x1 + 1)]) (rest := []) ⟨hx, hb, hml, hown, hts⟩ (c_X2_put l D cI cZ cT (ad 3) 49 (T5 3) _ N p1 (x1 + 1) hz7) ⟨va_cnB 3 hts (zg_c zw_3_0) rfl rfl rfl (hN _ (zx_nw_X1_45)) (hts _ zw_1_2) zyX2_put ⟨Nat.le_of_ble_eq_true rfl, Nat.le_of_ble_eq_true rfl⟩, (hts _ zw_2_23), trivial⟩ ⟨bS_blind, bS_pre (zx_P1 hP 4 (rfl)) hK (zx_D1 hD 4 (rfl)) hN⟩ rfl rfl hl.1 rfl (lv_room (Nat.le_of_ble_eq_true rfl)) dX1_join_30 ⟨Nat.zero_le _, Nat.zero_le _⟩) hS (fun q _ h => zx_f1 hD hS hA (k := 4) rfl q h) (fun q h => zx_f1 hD hS hA (k := 4) rfl q h) (fun u t H1 lc ht hvm hw hB hz1 hk1 hS => ?_)
  replace hw : g6 = u := hw; subst hw
  rw [ht] at hB
  replace hP := zx_set1 (k := 4) hP hD rfl hk1 hB
  replace hD := va_D.set (p := 4) (e := .inl (cI, 49, .inl g6)) hD rfl
  rw [xW1_pa3] at hP hD
  obtain ⟨T8, eT8, hM⟩ := zx_nE hM
  rw [← eT8] at hP hD
  refine lv_aload_n hx hb dX1_join_33 rfl (lv_at hl 1 rfl) ?_
  refine va_get (D := D) (ci := 1) (v := .ref (ad 2)) (C := RX1) (T := TX1) (N := 14) hx hb hts inlX1 hown hK hP 0 rfl rfl 2 (by decide) (hts _ zw_2_7) (fun _ h9 => h9) rfl dX1_join_34 ?_
  refine lv_iload_n hx hb dX1_join_37 rfl (lv_at hl 3 rfl) ?_
  refine lv_iload_n hx hb dX1_join_38 rfl (lv_at hl 2 rfl) ?_
  obtain ⟨g9, hz10, hM⟩ := zx_b1E hM
  refine va_callv (va_runSN (As := [.ref (ad 2), .int p2, .int p1]) (rest := []) ⟨hx, hb, hml, hown, hts⟩ (c_X2_put l D cI cZ cT (ad 2) 49 (T8 2) _ N p2 p1 hz10) ⟨va_cnB 3 hts (zg_c zw_3_0) rfl rfl rfl (hN _ (zx_nw_X1_45)) (hts _ zw_1_2) zyX2_put ⟨Nat.le_of_ble_eq_true rfl, Nat.le_of_ble_eq_true rfl⟩, (hts _ zw_2_23), trivial⟩ ⟨bS_blind, bS_pre (zx_P1 hP 3 (rfl)) hK (zx_D1 hD 3 (rfl)) hN⟩ rfl rfl hl.1 rfl (lv_room (Nat.le_of_ble_eq_true rfl)) dX1_join_39 ⟨Nat.zero_le _, Nat.zero_le _⟩) hS (fun q _ h => zx_f1 hD hS hA (k := 3) rfl q h) (fun q h => zx_f1 hD hS hA (k := 3) rfl q h) (fun u t H1 lc ht hvm hw hB hz1 hk1 hS => ?_)
  replace hw : g9 = u := hw; subst hw
  rw [ht] at hB
  replace hP := zx_set1 (k := 3) hP hD rfl hk1 hB
  replace hD := va_D.set (p := 3) (e := .inl (cI, 49, .inl g9)) hD rfl
  rw [xW1_pa2] at hP hD
  obtain ⟨T11, eT11, hM⟩ := zx_nE hM
  rw [← eT11] at hP hD
  refine lv_aload_n hx hb dX1_join_42 rfl (lv_at hl 1 rfl) ?_
  refine lv_iload_n hx hb dX1_join_43 rfl (lv_at hl 2 rfl) ?_
  obtain ⟨T12, hz13, hM⟩ := zx_b1E hM
  refine va_callv (va_runV (As := [.int p1]) (rest := []) ⟨hx, hb, hml, hown, hts⟩ (c_X1_fit l D cI cZ cT h ad T11 _ N p1  hz13) (cwV 1 hts (zg_V zw_12_16 zw_12_17 zw_12_18 zw_1_14 zw_12_19) rfl rfl rfl ⟨rfl, zyX1_fit⟩ ⟨Nat.le_of_ble_eq_true rfl, Nat.le_of_ble_eq_true rfl⟩) ⟨bS_blind, va_recv hK hP (ci := 1) (q0 := 0) rfl rfl, bS_pre hP hK hD hN⟩ rfl rfl hl.1 rfl (lv_room (Nat.le_of_ble_eq_true rfl)) dX1_join_44 ⟨Nat.zero_le _, Nat.zero_le _⟩) hS (fun q _ h => zx_fW hD hS hA q h) (fun q h => zx_fW hD hS hA q h) (fun u t H1 lc ht hvm hw hB hz1 hk1 hS => ?_)
  replace hw : T12 = u := hw; subst hw
  rw [ht] at hB
  replace hP := hB
  replace hD := xW1_D T12 hD
  rw [hQ]
  exact W.vret hx hb hr (fun t ht hW => ⟨⟨T12, rfl, (Option.some.inj hM).symm, by show va_P D vwCl _ t.heap; rw [ht]; exact hP⟩, hS.F ht⟩) hS.2.2 dX1_join_47

/-! ShallowBoxes$Tree.groupFor(IIII)I -/
def f_X1_groupFor (N : Nat) (p1 : Int32) (p2 : Int32) (p3 : Int32) (p4 : Int32) (S : zx_S) : Option (Int32) :=
  (zx_b1 (f_X2_get N 49 p2 (S 3)) (fun x1 =>
(if 2 < (x1 + p4) then
  (zx_b1 (f_X2_get N 49 p3 (S 3)) (fun x4 =>
(if 2 < (x4 + p4) then
  (zx_b1 (f_X1_area N p2 S) (fun x7 =>
(zx_b1 (f_X1_area N p3 S) (fun x9 =>
(zx_b1 (f_X1_joinArea N p2 p1 S) (fun x11 =>
(zx_n (x11 - x7) (fun x13 =>
(zx_b1 (f_X1_joinArea N p3 p1 S) (fun x14 =>
(zx_n (x14 - x9) (fun x16 =>
(if x13 = x16 then
  (if x7 = x9 then
  (zx_b1 (f_X2_get N 49 p2 (S 3)) (fun x19 =>
(zx_b1 (f_X2_get N 49 p3 (S 3)) (fun x21 =>
(if x21 < x19 then
  some p3 else
  some p2))))) else
  (if x9 ≤ x7 then
  some p3 else
  some p2)) else
  (if x16 ≤ x13 then
  some p3 else
  some p2)))))))))))))) else
  some p3))) else
  some p2)))
abbrev rmX1_groupFor : Room := { frames := 2, cells := 0, slots := 0, locals := 47 }
abbrev zsX1_groupFor : List Cond := .code yX1_groupFor cX1_groupFor 9 (some .int) :: wsL_law
theorem zyX1_groupFor : yX1_groupFor.cls ≠ "java/lang/invoke/MethodHandle" ∧ yX1_groupFor.cls ≠ "java/lang/invoke/VarHandle" ∧ (parseMethodDescriptor yX1_groupFor.desc).map (fun d => d.parameters.length) = some 4 := by decide +kernel
set_option maxHeartbeats 4000000 in
set_option maxRecDepth 100000 in
theorem c_X1_groupFor (l : Launch) (D : va_G) (cI cZ cT : ClassId) (h : Nat) (ad : Nat → Nat) (S : zx_S) (sz : Nat) (N : Nat) (p1 : Int32) (p2 : Int32) (p3 : Int32) (p4 : Int32) {R : Int32} (hM : f_X1_groupFor N p1 p2 p3 p4 S = some R) : Met l yX1_groupFor zsX1_groupFor rmX1_groupFor (va_Pc [.ref h, .int p1, .int p2, .int p3, .int p4] (bS D (zx_ty cI cZ cT) (xW1 cI h ad S) sz)) (va_Qi (fun r (_ : Unit) => R = r) (fun _ _ => True) (fun q => sz ≤ q)) 0 0 (fun q => sz ≤ q) := by
  refine Met.ofW (cc := cX1_groupFor) (maxL := 9) (ret := (some .int)) (by decide) rfl ?_
  intro p e s m args below meth c s₁ B hml hv
  obtain ⟨rfl, hsz, hP, hK, hD0, hN⟩ := hv
  have hx := B.exec
  have hb := B.bytes
  have hr := B.returns
  have hts : ∀ w ∈ wsL_law, w.before _ s = true := fun w hw => atoms_spec (ws := zsX1_groupFor) B.pre w (List.mem_cons_of_mem _ hw)
  have hown : s.vm.findClass RX1 = some m.cls := findClass_of_methodNamed B.named
  have hlocks := B.notSynchronized
  subst hsz
  generalize hAe : (fun q : Nat => s.heap.size ≤ q) = A
  have hA : ∀ q : Nat, s.heap.size ≤ q → A q := fun q h => by rw [← hAe]; exact h
  have hD := hD0
  have hS : va_S A s.heap s.heap [] := va_S.rf
  have hl := lv_entry ([.ref h, .int p1, .int p2, .int p3, .int p4]) (n := 9) (Nat.le_of_ble_eq_true rfl)
  rw [lg_entry_eq]
  generalize (lg_sl ([.ref h, .int p1, .int p2, .int p3, .int p4]) ++ List.replicate (9 - (lg_sl ([.ref h, .int p1, .int p2, .int p3, .int p4])).length) Slot.unset).toArray = ls at hl ⊢
  have hl : lv_has ls 9 [(0, .ref h), (1, .int p1), (2, .int p2), (3, .int p3), (4, .int p4)] := hl
  generalize hQ : MQ below (va_Qi (fun r (_ : Unit) => R = r) (fun _ _ => True) A) ([.ref h, .int p1, .int p2, .int p3, .int p4] : List Value).toArray s 0 0 A = Q9
  replace hQ := hQ.symm
  unfold f_X1_groupFor at hM
  refine lv_aload_n hx hb dX1_groupFor_0 rfl (lv_at hl 0 rfl) ?_
  refine va_get (D := D) (ci := 1) (v := .ref (ad 3)) (C := RX1) (T := TX1) (N := 14) hx hb hts inlX1 hown hK hP 0 rfl rfl 3 (by decide) (hts _ zw_2_8) (fun _ h9 => h9) rfl dX1_groupFor_1 ?_
  refine lv_iload_n hx hb dX1_groupFor_4 rfl (lv_at hl 2 rfl) ?_
  obtain ⟨x1, hz2, hM⟩ := zx_b1E hM
  refine va_calli (va_runSN (As := [.ref (ad 3), .int p2]) (rest := []) ⟨hx, hb, hml, hown, hts⟩ (c_X2_get l D cI cZ cT (ad 3) 49 (S 3) _ N p2 hz2) ⟨va_cnB 2 hts (zg_c zw_3_6) rfl rfl rfl (hN _ (zx_nw_X1_70)) (hts _ zw_1_2) zyX2_get ⟨Nat.le_of_ble_eq_true rfl, Nat.le_of_ble_eq_true rfl⟩, (hts _ zw_3_5), trivial⟩ ⟨bS_blind, bS_pre (zx_P1 hP 4 (rfl)) hK (zx_D1 hD 4 (rfl)) hN⟩ rfl rfl hl.1 rfl (lv_room (Nat.le_of_ble_eq_true rfl)) dX1_groupFor_5 ⟨Nat.zero_le _, Nat.zero_le _⟩) hS (fun q h1 h2 => absurd h1 (Nat.not_lt.mpr h2)) (fun q h => hA q (Nat.le_trans hS.1 h)) (fun r u t H1 lc ht hvm hw hB hz1 hk1 hS => ?_)
  replace hw : x1 = r := hw; subst hw
  replace hP := zx_keep hP hk1
  refine lv_iload hx hb dX1_groupFor_8 (lv_at hl 4 rfl) ?_
  refine lv_iadd hx hb dX1_groupFor_10 ?_
  refine lv_iconst (v := 2) hx hb dX1_groupFor_11 (by decide) ?_
  refine lv_icmp_gt (tgt := 17) hx hb dX1_groupFor_12 (by decide) (fun q3 => ?_) (fun q3 => ?_)
  · replace hM := zx_t q3 hM
    refine lv_aload_n hx hb dX1_groupFor_17 rfl (lv_at hl 0 rfl) ?_
    refine va_get (D := D) (ci := 1) (v := .ref (ad 3)) (C := RX1) (T := TX1) (N := 14) hx hb hts inlX1 hown hK hP 0 rfl rfl 3 (by decide) (hts _ zw_2_8) (fun _ h9 => h9) rfl dX1_groupFor_18 ?_
    refine lv_iload_n hx hb dX1_groupFor_21 rfl (lv_at hl 3 rfl) ?_
    obtain ⟨x4, hz5, hM⟩ := zx_b1E hM
    refine va_calli (va_runSN (As := [.ref (ad 3), .int p3]) (rest := []) ⟨hx, hb, hml, hown, hts⟩ (c_X2_get l D cI cZ cT (ad 3) 49 (S 3) _ N p3 hz5) ⟨va_cnB 2 hts (zg_c zw_3_6) rfl rfl rfl (hN _ (zx_nw_X1_70)) (hts _ zw_1_2) zyX2_get ⟨Nat.le_of_ble_eq_true rfl, Nat.le_of_ble_eq_true rfl⟩, (hts _ zw_3_5), trivial⟩ ⟨bS_blind, bS_pre (zx_P1 hP 4 (rfl)) hK (zx_D1 hD 4 (rfl)) hN⟩ rfl rfl hl.1 rfl (lv_room (Nat.le_of_ble_eq_true rfl)) dX1_groupFor_22 ⟨Nat.zero_le _, Nat.zero_le _⟩) hS (fun q h1 h2 => absurd h1 (Nat.not_lt.mpr h2)) (fun q h => hA q (Nat.le_trans hS.1 h)) (fun r u t H1 lc ht hvm hw hB hz1 hk1 hS => ?_)
    replace hw : x4 = r := hw; subst hw
    replace hP := zx_keep hP hk1
    refine lv_iload hx hb dX1_groupFor_25 (lv_at hl 4 rfl) ?_
    refine lv_iadd hx hb dX1_groupFor_27 ?_
    refine lv_iconst (v := 2) hx hb dX1_groupFor_28 (by decide) ?_
    refine lv_icmp_gt (tgt := 34) hx hb dX1_groupFor_29 (by decide) (fun q6 => ?_) (fun q6 => ?_)
    · replace hM := zx_t q6 hM
      refine lv_aload_n hx hb dX1_groupFor_34 rfl (lv_at hl 0 rfl) ?_
      refine lv_iload_n hx hb dX1_groupFor_35 rfl (lv_at hl 2 rfl) ?_
      obtain ⟨x7, hz8, hM⟩ := zx_b1E hM
      refine va_calli (va_runV (As := [.int p2]) (rest := []) ⟨hx, hb, hml, hown, hts⟩ (c_X1_area l D cI cZ cT h ad S _ N p2  hz8) (cwV 1 hts (zg_V zw_6_18 zw_6_19 zw_6_20 zw_1_14 zw_6_21) rfl rfl rfl ⟨rfl, zyX1_area⟩ ⟨Nat.le_of_ble_eq_true rfl, Nat.le_of_ble_eq_true rfl⟩) ⟨bS_blind, va_recv hK hP (ci := 1) (q0 := 0) rfl rfl, bS_pre hP hK hD hN⟩ rfl rfl hl.1 rfl (lv_room (Nat.le_of_ble_eq_true rfl)) dX1_groupFor_36 ⟨Nat.zero_le _, Nat.zero_le _⟩) hS (fun q h1 h2 => absurd h1 (Nat.not_lt.mpr h2)) (fun q h => hA q (Nat.le_trans hS.1 h)) (fun r u t H1 lc ht hvm hw hB hz1 hk1 hS => ?_)
      replace hw : x7 = r := hw; subst hw
      replace hP := zx_keep hP hk1
      refine lv_istore (lv' := [(5, .int x7), (0, .ref h), (1, .int p1), (2, .int p2), (3, .int p3), (4, .int p4)]) hx hb dX1_groupFor_39 hl (by decide) rfl (fun ls hl => ?_)
      refine lv_aload_n hx hb dX1_groupFor_41 rfl (lv_at hl 1 rfl) ?_
      refine lv_iload_n hx hb dX1_groupFor_42 rfl (lv_at hl 4 rfl) ?_
      obtain ⟨x9, hz10, hM⟩ := zx_b1E hM
      refine va_calli (va_runV (As := [.int p3]) (rest := []) ⟨hx, hb, hml, hown, hts⟩ (c_X1_area l D cI cZ cT h ad S _ N p3  hz10) (cwV 1 hts (zg_V zw_6_18 zw_6_19 zw_6_20 zw_1_14 zw_6_21) rfl rfl rfl ⟨rfl, zyX1_area⟩ ⟨Nat.le_of_ble_eq_true rfl, Nat.le_of_ble_eq_true rfl⟩) ⟨bS_blind, va_recv hK hP (ci := 1) (q0 := 0) rfl rfl, bS_pre hP hK hD hN⟩ rfl rfl hl.1 rfl (lv_room (Nat.le_of_ble_eq_true rfl)) dX1_groupFor_43 ⟨Nat.zero_le _, Nat.zero_le _⟩) hS (fun q h1 h2 => absurd h1 (Nat.not_lt.mpr h2)) (fun q h => hA q (Nat.le_trans hS.1 h)) (fun r u t H1 lc ht hvm hw hB hz1 hk1 hS => ?_)
      replace hw : x9 = r := hw; subst hw
      replace hP := zx_keep hP hk1
      refine lv_istore (lv' := [(6, .int x9), (5, .int x7), (0, .ref h), (1, .int p1), (2, .int p2), (3, .int p3), (4, .int p4)]) hx hb dX1_groupFor_46 hl (by decide) rfl (fun ls hl => ?_)
      refine lv_aload_n hx hb dX1_groupFor_48 rfl (lv_at hl 2 rfl) ?_
      refine lv_iload_n hx hb dX1_groupFor_49 rfl (lv_at hl 4 rfl) ?_
      refine lv_iload_n hx hb dX1_groupFor_50 rfl (lv_at hl 3 rfl) ?_
      obtain ⟨x11, hz12, hM⟩ := zx_b1E hM
      refine va_calli (va_runV (As := [.int p2, .int p1]) (rest := []) ⟨hx, hb, hml, hown, hts⟩ (c_X1_joinArea l D cI cZ cT h ad S _ N p2 p1  hz12) (cwV 2 hts (zg_V zw_12_4 zw_12_5 zw_12_6 zw_1_14 zw_12_7) rfl rfl rfl ⟨rfl, zyX1_joinArea⟩ ⟨Nat.le_of_ble_eq_true rfl, Nat.le_of_ble_eq_true rfl⟩) ⟨bS_blind, va_recv hK hP (ci := 1) (q0 := 0) rfl rfl, bS_pre hP hK hD hN⟩ rfl rfl hl.1 rfl (lv_room (Nat.le_of_ble_eq_true rfl)) dX1_groupFor_51 ⟨Nat.zero_le _, Nat.zero_le _⟩) hS (fun q h1 h2 => absurd h1 (Nat.not_lt.mpr h2)) (fun q h => hA q (Nat.le_trans hS.1 h)) (fun r u t H1 lc ht hvm hw hB hz1 hk1 hS => ?_)
      replace hw : x11 = r := hw; subst hw
      replace hP := zx_keep hP hk1
      refine lv_iload hx hb dX1_groupFor_54 (lv_at hl 1 rfl) ?_
      refine lv_isub hx hb dX1_groupFor_56 ?_
      obtain ⟨x13, ex13, hM⟩ := zx_nE hM
      refine zx_top ex13 ?_
      refine lv_istore (lv' := [(7, .int x13), (6, .int x9), (5, .int x7), (0, .ref h), (1, .int p1), (2, .int p2), (3, .int p3), (4, .int p4)]) hx hb dX1_groupFor_57 hl (by decide) rfl (fun ls hl => ?_)
      refine lv_aload_n hx hb dX1_groupFor_59 rfl (lv_at hl 3 rfl) ?_
      refine lv_iload_n hx hb dX1_groupFor_60 rfl (lv_at hl 6 rfl) ?_
      refine lv_iload_n hx hb dX1_groupFor_61 rfl (lv_at hl 4 rfl) ?_
      obtain ⟨x14, hz15, hM⟩ := zx_b1E hM
      refine va_calli (va_runV (As := [.int p3, .int p1]) (rest := []) ⟨hx, hb, hml, hown, hts⟩ (c_X1_joinArea l D cI cZ cT h ad S _ N p3 p1  hz15) (cwV 2 hts (zg_V zw_12_4 zw_12_5 zw_12_6 zw_1_14 zw_12_7) rfl rfl rfl ⟨rfl, zyX1_joinArea⟩ ⟨Nat.le_of_ble_eq_true rfl, Nat.le_of_ble_eq_true rfl⟩) ⟨bS_blind, va_recv hK hP (ci := 1) (q0 := 0) rfl rfl, bS_pre hP hK hD hN⟩ rfl rfl hl.1 rfl (lv_room (Nat.le_of_ble_eq_true rfl)) dX1_groupFor_62 ⟨Nat.zero_le _, Nat.zero_le _⟩) hS (fun q h1 h2 => absurd h1 (Nat.not_lt.mpr h2)) (fun q h => hA q (Nat.le_trans hS.1 h)) (fun r u t H1 lc ht hvm hw hB hz1 hk1 hS => ?_)
      replace hw : x14 = r := hw; subst hw
      replace hP := zx_keep hP hk1
      refine lv_iload hx hb dX1_groupFor_65 (lv_at hl 1 rfl) ?_
      refine lv_isub hx hb dX1_groupFor_67 ?_
      obtain ⟨x16, ex16, hM⟩ := zx_nE hM
      refine zx_top ex16 ?_
      refine lv_istore (lv' := [(8, .int x16), (7, .int x13), (6, .int x9), (5, .int x7), (0, .ref h), (1, .int p1), (2, .int p2), (3, .int p3), (4, .int p4)]) hx hb dX1_groupFor_68 hl (by decide) rfl (fun ls hl => ?_)
      refine lv_iload hx hb dX1_groupFor_70 (lv_at hl 1 rfl) ?_
      refine lv_iload hx hb dX1_groupFor_72 (lv_at hl 0 rfl) ?_
      refine lv_icmp_eq (tgt := 90) hx hb dX1_groupFor_74 (by decide) (fun q17 => ?_) (fun q17 => ?_)
      · replace hM := zx_t q17 hM
        refine lv_iload hx hb dX1_groupFor_90 (lv_at hl 3 rfl) ?_
        refine lv_iload hx hb dX1_groupFor_92 (lv_at hl 2 rfl) ?_
        refine lv_icmp_eq (tgt := 110) hx hb dX1_groupFor_94 (by decide) (fun q18 => ?_) (fun q18 => ?_)
        · replace hM := zx_t q18 hM
          refine lv_aload_n hx hb dX1_groupFor_110 rfl (lv_at hl 4 rfl) ?_
          refine va_get (D := D) (ci := 1) (v := .ref (ad 3)) (C := RX1) (T := TX1) (N := 14) hx hb hts inlX1 hown hK hP 0 rfl rfl 3 (by decide) (hts _ zw_2_8) (fun _ h9 => h9) rfl dX1_groupFor_111 ?_
          refine lv_iload_n hx hb dX1_groupFor_114 rfl (lv_at hl 6 rfl) ?_
          obtain ⟨x19, hz20, hM⟩ := zx_b1E hM
          refine va_calli (va_runSN (As := [.ref (ad 3), .int p2]) (rest := []) ⟨hx, hb, hml, hown, hts⟩ (c_X2_get l D cI cZ cT (ad 3) 49 (S 3) _ N p2 hz20) ⟨va_cnB 2 hts (zg_c zw_3_6) rfl rfl rfl (hN _ (zx_nw_X1_70)) (hts _ zw_1_2) zyX2_get ⟨Nat.le_of_ble_eq_true rfl, Nat.le_of_ble_eq_true rfl⟩, (hts _ zw_3_5), trivial⟩ ⟨bS_blind, bS_pre (zx_P1 hP 4 (rfl)) hK (zx_D1 hD 4 (rfl)) hN⟩ rfl rfl hl.1 rfl (lv_room (Nat.le_of_ble_eq_true rfl)) dX1_groupFor_115 ⟨Nat.zero_le _, Nat.zero_le _⟩) hS (fun q h1 h2 => absurd h1 (Nat.not_lt.mpr h2)) (fun q h => hA q (Nat.le_trans hS.1 h)) (fun r u t H1 lc ht hvm hw hB hz1 hk1 hS => ?_)
          replace hw : x19 = r := hw; subst hw
          replace hP := zx_keep hP hk1
          refine lv_aload_n hx hb dX1_groupFor_118 rfl (lv_at hl 4 rfl) ?_
          refine va_get (D := D) (ci := 1) (v := .ref (ad 3)) (C := RX1) (T := TX1) (N := 14) hx hb hts inlX1 hown hK hP 0 rfl rfl 3 (by decide) (hts _ zw_2_8) (fun _ h9 => h9) rfl dX1_groupFor_119 ?_
          refine lv_iload_n hx hb dX1_groupFor_122 rfl (lv_at hl 7 rfl) ?_
          obtain ⟨x21, hz22, hM⟩ := zx_b1E hM
          refine va_calli (va_runSN (As := [.ref (ad 3), .int p3]) (rest := [.int x19]) ⟨hx, hb, hml, hown, hts⟩ (c_X2_get l D cI cZ cT (ad 3) 49 (S 3) _ N p3 hz22) ⟨va_cnB 2 hts (zg_c zw_3_6) rfl rfl rfl (hN _ (zx_nw_X1_70)) (hts _ zw_1_2) zyX2_get ⟨Nat.le_of_ble_eq_true rfl, Nat.le_of_ble_eq_true rfl⟩, (hts _ zw_3_5), trivial⟩ ⟨bS_blind, bS_pre (zx_P1 hP 4 (rfl)) hK (zx_D1 hD 4 (rfl)) hN⟩ rfl rfl hl.1 rfl (lv_room (Nat.le_of_ble_eq_true rfl)) dX1_groupFor_123 ⟨Nat.zero_le _, Nat.zero_le _⟩) hS (fun q h1 h2 => absurd h1 (Nat.not_lt.mpr h2)) (fun q h => hA q (Nat.le_trans hS.1 h)) (fun r u t H1 lc ht hvm hw hB hz1 hk1 hS => ?_)
          replace hw : x21 = r := hw; subst hw
          replace hP := zx_keep hP hk1
          refine lv_icmp_gt (tgt := 133) hx hb dX1_groupFor_126 (by decide) (fun q23 => ?_) (fun q23 => ?_)
          · replace hM := zx_t q23 hM
            refine lv_iload_n hx hb dX1_groupFor_133 rfl (lv_at hl 7 rfl) ?_
            rw [hQ]
            exact W.iret hx hb hr (fun t ht hW => ⟨⟨p3, (), rfl, (Option.some.inj hM).symm, trivial⟩, hS.F ht⟩) hS.2.2 dX1_groupFor_134
          · replace hM := zx_f q23 hM
            refine lv_iload_n hx hb dX1_groupFor_129 rfl (lv_at hl 6 rfl) ?_
            refine lv_goto (tgt := 134) hx hb dX1_groupFor_130 (by decide) ?_
            rw [hQ]
            exact W.iret hx hb hr (fun t ht hW => ⟨⟨p2, (), rfl, (Option.some.inj hM).symm, trivial⟩, hS.F ht⟩) hS.2.2 dX1_groupFor_134
        · replace hM := zx_f q18 hM
          refine lv_iload hx hb dX1_groupFor_97 (lv_at hl 3 rfl) ?_
          refine lv_iload hx hb dX1_groupFor_99 (lv_at hl 2 rfl) ?_
          refine lv_icmp_ge (tgt := 108) hx hb dX1_groupFor_101 (by decide) (fun q24 => ?_) (fun q24 => ?_)
          · replace hM := zx_t q24 hM
            refine lv_iload_n hx hb dX1_groupFor_108 rfl (lv_at hl 7 rfl) ?_
            rw [hQ]
            exact W.iret hx hb hr (fun t ht hW => ⟨⟨p3, (), rfl, (Option.some.inj hM).symm, trivial⟩, hS.F ht⟩) hS.2.2 dX1_groupFor_109
          · replace hM := zx_f q24 hM
            refine lv_iload_n hx hb dX1_groupFor_104 rfl (lv_at hl 6 rfl) ?_
            refine lv_goto (tgt := 109) hx hb dX1_groupFor_105 (by decide) ?_
            rw [hQ]
            exact W.iret hx hb hr (fun t ht hW => ⟨⟨p2, (), rfl, (Option.some.inj hM).symm, trivial⟩, hS.F ht⟩) hS.2.2 dX1_groupFor_109
      · replace hM := zx_f q17 hM
        refine lv_iload hx hb dX1_groupFor_77 (lv_at hl 1 rfl) ?_
        refine lv_iload hx hb dX1_groupFor_79 (lv_at hl 0 rfl) ?_
        refine lv_icmp_ge (tgt := 88) hx hb dX1_groupFor_81 (by decide) (fun q25 => ?_) (fun q25 => ?_)
        · replace hM := zx_t q25 hM
          refine lv_iload_n hx hb dX1_groupFor_88 rfl (lv_at hl 7 rfl) ?_
          rw [hQ]
          exact W.iret hx hb hr (fun t ht hW => ⟨⟨p3, (), rfl, (Option.some.inj hM).symm, trivial⟩, hS.F ht⟩) hS.2.2 dX1_groupFor_89
        · replace hM := zx_f q25 hM
          refine lv_iload_n hx hb dX1_groupFor_84 rfl (lv_at hl 6 rfl) ?_
          refine lv_goto (tgt := 89) hx hb dX1_groupFor_85 (by decide) ?_
          rw [hQ]
          exact W.iret hx hb hr (fun t ht hW => ⟨⟨p2, (), rfl, (Option.some.inj hM).symm, trivial⟩, hS.F ht⟩) hS.2.2 dX1_groupFor_89
    · replace hM := zx_f q6 hM
      refine lv_iload_n hx hb dX1_groupFor_32 rfl (lv_at hl 3 rfl) ?_
      rw [hQ]
      exact W.iret hx hb hr (fun t ht hW => ⟨⟨p3, (), rfl, (Option.some.inj hM).symm, trivial⟩, hS.F ht⟩) hS.2.2 dX1_groupFor_33
  · replace hM := zx_f q3 hM
    refine lv_iload_n hx hb dX1_groupFor_15 rfl (lv_at hl 2 rfl) ?_
    rw [hQ]
    exact W.iret hx hb hr (fun t ht hW => ⟨⟨p2, (), rfl, (Option.some.inj hM).symm, trivial⟩, hS.F ht⟩) hS.2.2 dX1_groupFor_16

/-! ShallowBoxes$Tree.split(I)I -/
def f_X1_split_j209 (N : Nat) (v1 : Int32) (v5 : Int32) (S_ : zx_S) : Option (Int32 × zx_S) :=
  (zx_b1 (f_X2_get N 49 v1 (S_ 2)) (fun x3 =>
(zx_b1 (f_X1_placeOf N x3 v1 S_) (fun x5 =>
(zx_b1 (f_X1_attach N x3 (x5 + 1) v5 S_) (fun T7 =>
some (x3, T7)))))))
def f_X1_split_j157 (N : Nat) (k104 : Int32 → Int32 → Int32 → Int32 → Int32 → Int32 → zx_S → Option (Int32 × zx_S)) (v1 : Int32) (v3 : Int32) (v4 : Int32) (v5 : Int32) (v6 : Int32) (v7 : Int32) (S_ : zx_S) : Option (Int32 × zx_S) :=
  (zx_n (v7 + 1) (fun x19 =>
k104 v1 v3 v4 v5 v6 x19 S_))
def f_X1_split_l104 (N : Nat) : Nat → Int32 → Int32 → Int32 → Int32 → Int32 → Int32 → zx_S → Option (Int32 × zx_S)
  | 0, _, _, _, _, _, _, _ => none
  | n104 + 1, v1, v3, v4, v5, v6, v7, S_ => (if 5 ≤ v7 then
  (zx_n (zx_st S_ 10 (upd (S_ 10) 2 ((S_ 10 2) + 1))) (fun T9 =>
(if v1 = (T9 10 0) then
  (zx_b1 (f_X2_get N 49 v1 (T9 1)) (fun x11 =>
(zx_b2 (f_X1_newNode N (x11 + 1) T9) (fun x13 T14 =>
(zx_n (zx_st T14 10 (upd (T14 10) 0 x13)) (fun T16 =>
(zx_b1 (f_X1_attach N (T16 10 0) 0 v1 T16) (fun T17 =>
f_X1_split_j209 N  v1 v5 T17)))))))) else
  f_X1_split_j209 N  v1 v5 T9))) else
  (if v7 = v3 then
  f_X1_split_j157 N (f_X1_split_l104 N  n104) v1 v3 v4 v5 v6 v7 S_ else
  (if v7 = v4 then
  f_X1_split_j157 N (f_X1_split_l104 N  n104) v1 v3 v4 v5 v6 v7 S_ else
  (zx_b1 (f_X2_get N 5 v7 (S_ 7)) (fun x22 =>
(zx_b1 (f_X1_groupFor N x22 v1 v5 v6 S_) (fun x24 =>
(zx_b1 (f_X2_get N 5 v7 (S_ 7)) (fun x26 =>
(zx_b1 (f_X1_join N x24 x26 S_) (fun T28 =>
(zx_n (v6 + (-1)) (fun x30 =>
f_X1_split_j157 N (f_X1_split_l104 N  n104) v1 v3 v4 v5 x30 v7 T28)))))))))))))
def f_X1_split_l2 (N : Nat) : Nat → Int32 → Int32 → zx_S → Option (Int32 × zx_S)
  | 0, _, _, _ => none
  | n2 + 1, v1, v2, S_ => (if 5 ≤ v2 then
  (zx_b1 (f_X1_seedPair N S_) (fun x31 =>
(zx_n (x31 / 5) (fun x33 =>
(zx_n (x31 - x31 / 5 * 5) (fun x34 =>
(zx_b1 (f_X2_get N 49 v1 (S_ 1)) (fun x35 =>
(zx_b2 (f_X1_newNode N x35 S_) (fun x37 T38 =>
(zx_b1 (f_X2_put N 49 v1 0 (T38 3)) (fun g40 =>
(zx_n (zx_st T38 3 g40) (fun T42 =>
(zx_b1 (f_X2_get N 5 x33 (T42 7)) (fun x43 =>
(zx_b1 (f_X1_join N v1 x43 T42) (fun T45 =>
(zx_b1 (f_X2_get N 5 x34 (T45 7)) (fun x47 =>
(zx_b1 (f_X1_join N x37 x47 T45) (fun T49 =>
f_X1_split_l104 N  N v1 x33 x34 x37 3 0 T49)))))))))))))))))))))) else
  (zx_b1 (f_X2_get N 245 ((v1 * 5) + v2) (S_ 4)) (fun x51 =>
(zx_b1 (f_X2_put N 5 v2 x51 (S_ 7)) (fun g53 =>
(zx_n (zx_st S_ 7 g53) (fun T55 =>
(zx_n (v2 + 1) (fun x56 =>
f_X1_split_l2 N  n2 v1 x56 T55)))))))))
def f_X1_split (N : Nat) (p1 : Int32) (S : zx_S) : Option (Int32 × zx_S) :=
  f_X1_split_l2 N  N p1 0 S
abbrev rmX1_split : Room := { frames := 3, cells := 0, slots := 0, locals := 75 }
abbrev zsX1_split : List Cond := .code yX1_split cX1_split 8 (some .int) :: wsL_law
theorem zyX1_split : yX1_split.cls ≠ "java/lang/invoke/MethodHandle" ∧ yX1_split.cls ≠ "java/lang/invoke/VarHandle" ∧ (parseMethodDescriptor yX1_split.desc).map (fun d => d.parameters.length) = some 1 := by decide +kernel
set_option maxHeartbeats 4000000 in
set_option maxRecDepth 100000 in
theorem c_X1_split (l : Launch) (D : va_G) (cI cZ cT : ClassId) (h : Nat) (ad : Nat → Nat) (S : zx_S) (sz : Nat) (N : Nat) (p1 : Int32) {R : Int32 × zx_S} (hM : f_X1_split N p1 S = some R) : Met l yX1_split zsX1_split rmX1_split (va_Pc [.ref h, .int p1] (bS D (zx_ty cI cZ cT) (xW1 cI h ad S) sz)) (va_Qi (fun r u => R = (r, u)) (fun u t => va_P D vwCl (xW1 cI h ad u) t.heap) (va_A (xW1 cI h ad S) sz)) 0 0 (va_A (xW1 cI h ad S) sz) := by
  refine Met.ofW (cc := cX1_split) (maxL := 8) (ret := (some .int)) (by decide) rfl ?_
  intro p e s m args below meth c s₁ B hml hv
  obtain ⟨rfl, hsz, hP, hK, hD0, hN⟩ := hv
  have hx := B.exec
  have hb := B.bytes
  have hr := B.returns
  have hts : ∀ w ∈ wsL_law, w.before _ s = true := fun w hw => atoms_spec (ws := zsX1_split) B.pre w (List.mem_cons_of_mem _ hw)
  have hown : s.vm.findClass RX1 = some m.cls := findClass_of_methodNamed B.named
  have hlocks := B.notSynchronized
  subst hsz
  have hD := hD0.self (sz := s.heap.size)
  generalize hAe : va_A (xW1 cI h ad S) s.heap.size = A at hD ⊢
  have hA : ∀ q : Nat, s.heap.size ≤ q → A q := fun q h => by rw [← hAe]; exact Or.inr h
  have hS : va_S A s.heap s.heap [] := va_S.rf
  have hl := lv_entry ([.ref h, .int p1]) (n := 8) (Nat.le_of_ble_eq_true rfl)
  rw [lg_entry_eq]
  generalize (lg_sl ([.ref h, .int p1]) ++ List.replicate (8 - (lg_sl ([.ref h, .int p1])).length) Slot.unset).toArray = ls at hl ⊢
  have hl : lv_has ls 8 [(0, .ref h), (1, .int p1)] := hl
  generalize hQ : MQ below (va_Qi (fun r u => R = (r, u)) (fun u t => va_P D vwCl (xW1 cI h ad u) t.heap) A) ([.ref h, .int p1] : List Value).toArray s 0 0 A = Q9
  replace hQ := hQ.symm
  unfold f_X1_split at hM
  have l2 : ∀ (n2 : Nat) (v1 : Int32) (v2 : Int32) (S_ : zx_S) (H : Heap) (lc : List Loc) (ls : Array Slot), va_P D vwCl (xW1 cI h ad S_) H → va_D A (xW1 cI h ad S_) → va_S A s.heap H lc → lv_has ls 8 [(0, .ref h), (1, .int v1), (2, .int v2)] → f_X1_split_l2 N n2 v1 v2 S_ = some R → W p l e (headSpec zsX1_split rmX1_split).room s m ([.ref h, .int p1] : List Value).toArray below meth c H lc 0 0 Q9 (F0 m 2 ls []) := by
    intro n2
    induction n2 with
    | zero =>
      intro v1 v2 S_ H lc ls hP hD hS hl hM
      rw [f_X1_split_l2] at hM; exact absurd hM (by intro h; cases h)
    | succ n2 ih2 =>
      intro v1 v2 S_ H lc ls hP hD hS hl hM
      rw [f_X1_split_l2] at hM
      refine lv_iload_n hx hb dX1_split_2 rfl (lv_at hl 2 rfl) ?_
      refine lv_iconst (v := 5) hx hb dX1_split_3 (by decide) ?_
      refine lv_icmp_ge (tgt := 33) hx hb dX1_split_4 (by decide) (fun q1 => ?_) (fun q1 => ?_)
      · replace hM := zx_t q1 hM
        have l104 : ∀ (n104 : Nat) (v1 : Int32) (v3 : Int32) (v4 : Int32) (v5 : Int32) (v6 : Int32) (v7 : Int32) (S_ : zx_S) (H : Heap) (lc : List Loc) (ls : Array Slot), va_P D vwCl (xW1 cI h ad S_) H → va_D A (xW1 cI h ad S_) → va_S A s.heap H lc → lv_has ls 8 [(0, .ref h), (1, .int v1), (3, .int v3), (4, .int v4), (5, .int v5), (6, .int v6), (7, .int v7)] → f_X1_split_l104 N n104 v1 v3 v4 v5 v6 v7 S_ = some R → W p l e (headSpec zsX1_split rmX1_split).room s m ([.ref h, .int p1] : List Value).toArray below meth c H lc 0 0 Q9 (F0 m 104 ls []) := by
          intro n104
          induction n104 with
          | zero =>
            intro v1 v3 v4 v5 v6 v7 S_ H lc ls hP hD hS hl hM
            rw [f_X1_split_l104] at hM; exact absurd hM (by intro h; cases h)
          | succ n104 ih104 =>
            intro v1 v3 v4 v5 v6 v7 S_ H lc ls hP hD hS hl hM
            rw [f_X1_split_l104] at hM
            refine lv_iload hx hb dX1_split_104 (lv_at hl 6 rfl) ?_
            refine lv_iconst (v := 5) hx hb dX1_split_106 (by decide) ?_
            refine lv_icmp_ge (tgt := 163) hx hb dX1_split_107 (by decide) (fun q2 => ?_) (fun q2 => ?_)
            · replace hM := zx_t q2 hM
              have j209 : ∀ (v1 : Int32) (v5 : Int32) (S_ : zx_S) (H : Heap) (lc : List Loc) (ls : Array Slot), va_P D vwCl (xW1 cI h ad S_) H → va_D A (xW1 cI h ad S_) → va_S A s.heap H lc → lv_has ls 8 [(0, .ref h), (1, .int v1), (5, .int v5)] → f_X1_split_j209 N v1 v5 S_ = some R → W p l e (headSpec zsX1_split rmX1_split).room s m ([.ref h, .int p1] : List Value).toArray below meth c H lc 0 0 Q9 (F0 m 209 ls []) := by
                intro v1 v5 S_ H lc ls hP hD hS hl hM
                unfold f_X1_split_j209 at hM
                refine lv_aload_n hx hb dX1_split_209 rfl (lv_at hl 0 rfl) ?_
                refine va_get (D := D) (ci := 1) (v := .ref (ad 2)) (C := RX1) (T := TX1) (N := 14) hx hb hts inlX1 hown hK hP 0 rfl rfl 2 (by decide) (hts _ zw_2_7) (fun _ h9 => h9) rfl dX1_split_210 ?_
                refine lv_iload_n hx hb dX1_split_213 rfl (lv_at hl 1 rfl) ?_
                obtain ⟨x3, hz4, hM⟩ := zx_b1E hM
                refine va_calli (va_runSN (As := [.ref (ad 2), .int v1]) (rest := []) ⟨hx, hb, hml, hown, hts⟩ (c_X2_get l D cI cZ cT (ad 2) 49 (S_ 2) _ N v1 hz4) ⟨va_cnB 2 hts (zg_c zw_3_6) rfl rfl rfl (hN _ (zx_nw_X1_70)) (hts _ zw_1_2) zyX2_get ⟨Nat.le_of_ble_eq_true rfl, Nat.le_of_ble_eq_true rfl⟩, (hts _ zw_3_5), trivial⟩ ⟨bS_blind, bS_pre (zx_P1 hP 3 (rfl)) hK (zx_D1 hD 3 (rfl)) hN⟩ rfl rfl hl.1 rfl (lv_room (Nat.le_of_ble_eq_true rfl)) dX1_split_214 ⟨Nat.zero_le _, Nat.zero_le _⟩) hS (fun q h1 h2 => absurd h1 (Nat.not_lt.mpr h2)) (fun q h => hA q (Nat.le_trans hS.1 h)) (fun r u t H1 lc ht hvm hw hB hz1 hk1 hS => ?_)
                replace hw : x3 = r := hw; subst hw
                replace hP := zx_keep hP hk1
                refine lv_istore (lv' := [(7, .int x3), (0, .ref h), (1, .int v1), (5, .int v5)]) hx hb dX1_split_217 hl (by decide) rfl (fun ls hl => ?_)
                refine lv_aload_n hx hb dX1_split_219 rfl (lv_at hl 1 rfl) ?_
                refine lv_iload hx hb dX1_split_220 (lv_at hl 0 rfl) ?_
                refine lv_aload_n hx hb dX1_split_222 rfl (lv_at hl 1 rfl) ?_
                refine lv_iload hx hb dX1_split_223 (lv_at hl 0 rfl) ?_
                refine lv_iload_n hx hb dX1_split_225 rfl (lv_at hl 2 rfl) ?_
                obtain ⟨x5, hz6, hM⟩ := zx_b1E hM
                refine va_calli (va_runV (As := [.int x3, .int v1]) (rest := [.int x3, .ref h]) ⟨hx, hb, hml, hown, hts⟩ (c_X1_placeOf l D cI cZ cT h ad S_ _ N x3 v1  hz6) (cwV 2 hts (zg_V zw_13_8 zw_13_9 zw_13_10 zw_1_14 zw_13_11) rfl rfl rfl ⟨rfl, zyX1_placeOf⟩ ⟨Nat.le_of_ble_eq_true rfl, Nat.le_of_ble_eq_true rfl⟩) ⟨bS_blind, va_recv hK hP (ci := 1) (q0 := 0) rfl rfl, bS_pre hP hK hD hN⟩ rfl rfl hl.1 rfl (lv_room (Nat.le_of_ble_eq_true rfl)) dX1_split_226 ⟨Nat.zero_le _, Nat.zero_le _⟩) hS (fun q h1 h2 => absurd h1 (Nat.not_lt.mpr h2)) (fun q h => hA q (Nat.le_trans hS.1 h)) (fun r u t H1 lc ht hvm hw hB hz1 hk1 hS => ?_)
                replace hw : x5 = r := hw; subst hw
                replace hP := zx_keep hP hk1
                refine lv_iconst (v := 1) hx hb dX1_split_229 (by decide) ?_
                refine lv_iadd hx hb dX1_split_230 ?_
                refine lv_iload hx hb dX1_split_231 (lv_at hl 3 rfl) ?_
                obtain ⟨T7, hz8, hM⟩ := zx_b1E hM
                refine va_callv (va_runV (As := [.int x3, .int (x5 + 1), .int v5]) (rest := []) ⟨hx, hb, hml, hown, hts⟩ (c_X1_attach l D cI cZ cT h ad S_ _ N x3 (x5 + 1) v5  hz8) (cwV 3 hts (zg_V zw_12_8 zw_12_9 zw_12_10 zw_1_14 zw_12_11) rfl rfl rfl ⟨rfl, zyX1_attach⟩ ⟨Nat.le_of_ble_eq_true rfl, Nat.le_of_ble_eq_true rfl⟩) ⟨bS_blind, va_recv hK hP (ci := 1) (q0 := 0) rfl rfl, bS_pre hP hK hD hN⟩ rfl rfl hl.1 rfl (lv_room (Nat.le_of_ble_eq_true rfl)) dX1_split_233 ⟨Nat.zero_le _, Nat.zero_le _⟩) hS (fun q _ h => zx_fW hD hS hA q h) (fun q h => zx_fW hD hS hA q h) (fun u t H1 lc ht hvm hw hB hz1 hk1 hS => ?_)
                replace hw : T7 = u := hw; subst hw
                rw [ht] at hB
                replace hP := hB
                replace hD := xW1_D T7 hD
                refine lv_iload hx hb dX1_split_236 (lv_at hl 0 rfl) ?_
                rw [hQ]
                exact W.iret hx hb hr (fun t ht hW => ⟨⟨x3, T7, rfl, (Option.some.inj hM).symm, by show va_P D vwCl _ t.heap; rw [ht]; exact hP⟩, hS.F ht⟩) hS.2.2 dX1_split_238
              refine lv_aload_n hx hb dX1_split_163 rfl (lv_at hl 0 rfl) ?_
              refine lv_dup hx hb dX1_split_164 rfl ?_
              refine va_get (D := D) (ci := 1) (v := .int (S_ 10 2)) (C := RX1) (T := TX1) (N := 14) hx hb hts inlX1 hown hK hP 0 rfl rfl 7 (by decide) (hts _ zw_2_20) (fun _ h9 => h9) rfl dX1_split_165 ?_
              refine lv_iconst (v := 1) hx hb dX1_split_168 (by decide) ?_
              refine lv_iadd hx hb dX1_split_169 ?_
              obtain ⟨T9, eT9, hM⟩ := zx_nE hM
              refine va_put (D := D) (ci := 1) (v := .int ((S_ 10 2) + 1)) (ty := .int) (C := RX1) (T := TX1) (N := 14) hx hb hts inlX1 tyX1 tyX1_ok nmX1 hown hK hP hD hS 0 rfl rfl 7 (by decide) (hts _ zw_2_20) (fun _ h9 => h9) rfl (by decide +kernel) rfl rfl (Nat.le_of_ble_eq_true rfl) dX1_split_170 (fun H lc hP hD hS => ?_)
              replace hP : va_P D vwCl (xW1 cI h ad T9) H := by rw [eT9]; exact hP
              replace hD : va_D A (xW1 cI h ad T9) := by rw [eT9]; exact hD
              refine lv_iload_n hx hb dX1_split_173 rfl (lv_at hl 1 rfl) ?_
              refine lv_aload_n hx hb dX1_split_174 rfl (lv_at hl 0 rfl) ?_
              refine va_get (D := D) (ci := 1) (v := .int (T9 10 0)) (C := RX1) (T := TX1) (N := 14) hx hb hts inlX1 hown hK hP 0 rfl rfl 5 (by decide) (hts _ zw_2_22) (fun _ h9 => h9) rfl dX1_split_175 ?_
              refine lv_icmp_ne (tgt := 209) hx hb dX1_split_178 (by decide) (fun q10 => ?_) (fun q10 => ?_)
              · replace hM := zx_f q10 hM
                exact j209 v1 v5 T9 _ _ _ hP hD hS (lv_sub hl [0, 1, 4] rfl) hM
              · replace hM := zx_t q10 hM
                refine lv_aload_n hx hb dX1_split_181 rfl (lv_at hl 0 rfl) ?_
                refine lv_aload_n hx hb dX1_split_182 rfl (lv_at hl 0 rfl) ?_
                refine lv_aload_n hx hb dX1_split_183 rfl (lv_at hl 0 rfl) ?_
                refine va_get (D := D) (ci := 1) (v := .ref (ad 1)) (C := RX1) (T := TX1) (N := 14) hx hb hts inlX1 hown hK hP 0 rfl rfl 1 (by decide) (hts _ zw_2_6) (fun _ h9 => h9) rfl dX1_split_184 ?_
                refine lv_iload_n hx hb dX1_split_187 rfl (lv_at hl 1 rfl) ?_
                obtain ⟨x11, hz12, hM⟩ := zx_b1E hM
                refine va_calli (va_runSN (As := [.ref (ad 1), .int v1]) (rest := [.ref h, .ref h]) ⟨hx, hb, hml, hown, hts⟩ (c_X2_get l D cI cZ cT (ad 1) 49 (T9 1) _ N v1 hz12) ⟨va_cnB 2 hts (zg_c zw_3_6) rfl rfl rfl (hN _ (zx_nw_X1_70)) (hts _ zw_1_2) zyX2_get ⟨Nat.le_of_ble_eq_true rfl, Nat.le_of_ble_eq_true rfl⟩, (hts _ zw_3_5), trivial⟩ ⟨bS_blind, bS_pre (zx_P1 hP 2 (rfl)) hK (zx_D1 hD 2 (rfl)) hN⟩ rfl rfl hl.1 rfl (lv_room (Nat.le_of_ble_eq_true rfl)) dX1_split_188 ⟨Nat.zero_le _, Nat.zero_le _⟩) hS (fun q h1 h2 => absurd h1 (Nat.not_lt.mpr h2)) (fun q h => hA q (Nat.le_trans hS.1 h)) (fun r u t H1 lc ht hvm hw hB hz1 hk1 hS => ?_)
                replace hw : x11 = r := hw; subst hw
                replace hP := zx_keep hP hk1
                refine lv_iconst (v := 1) hx hb dX1_split_191 (by decide) ?_
                refine lv_iadd hx hb dX1_split_192 ?_
                obtain ⟨x13, T14, hz15, hM⟩ := zx_b2E hM
                refine va_calli (va_runV (As := [.int (x11 + 1)]) (rest := [.ref h]) ⟨hx, hb, hml, hown, hts⟩ (c_X1_newNode l D cI cZ cT h ad T9 _ N (x11 + 1)  hz15) (cwV 1 hts (zg_V zw_3_1 zw_3_2 zw_3_3 zw_1_14 zw_3_4) rfl rfl rfl ⟨rfl, zyX1_newNode⟩ ⟨Nat.le_of_ble_eq_true rfl, Nat.le_of_ble_eq_true rfl⟩) ⟨bS_blind, va_recv hK hP (ci := 1) (q0 := 0) rfl rfl, bS_pre hP hK hD hN⟩ rfl rfl hl.1 rfl (lv_room (Nat.le_of_ble_eq_true rfl)) dX1_split_193 ⟨Nat.zero_le _, Nat.zero_le _⟩) hS (fun q _ h => zx_fW hD hS hA q h) (fun q h => zx_fW hD hS hA q h) (fun r u t H1 lc ht hvm hw hB hz1 hk1 hS => ?_)
                obtain ⟨hw1, hw2⟩ := Prod.mk.inj hw; subst hw1; subst hw2
                rw [ht] at hB
                replace hP := hB
                replace hD := xW1_D T14 hD
                obtain ⟨T16, eT16, hM⟩ := zx_nE hM
                refine va_put (D := D) (ci := 1) (v := .int x13) (ty := .int) (C := RX1) (T := TX1) (N := 14) hx hb hts inlX1 tyX1 tyX1_ok nmX1 hown hK hP hD hS 0 rfl rfl 5 (by decide) (hts _ zw_2_22) (fun _ h9 => h9) rfl (by decide +kernel) rfl rfl (Nat.le_of_ble_eq_true rfl) dX1_split_196 (fun H lc hP hD hS => ?_)
                replace hP : va_P D vwCl (xW1 cI h ad T16) H := by rw [eT16]; exact hP
                replace hD : va_D A (xW1 cI h ad T16) := by rw [eT16]; exact hD
                refine lv_aload_n hx hb dX1_split_199 rfl (lv_at hl 0 rfl) ?_
                refine lv_aload_n hx hb dX1_split_200 rfl (lv_at hl 0 rfl) ?_
                refine va_get (D := D) (ci := 1) (v := .int (T16 10 0)) (C := RX1) (T := TX1) (N := 14) hx hb hts inlX1 hown hK hP 0 rfl rfl 5 (by decide) (hts _ zw_2_22) (fun _ h9 => h9) rfl dX1_split_201 ?_
                refine lv_iconst (v := 0) hx hb dX1_split_204 (by decide) ?_
                refine lv_iload_n hx hb dX1_split_205 rfl (lv_at hl 1 rfl) ?_
                obtain ⟨T17, hz18, hM⟩ := zx_b1E hM
                refine va_callv (va_runV (As := [.int (T16 10 0), .int 0, .int v1]) (rest := []) ⟨hx, hb, hml, hown, hts⟩ (c_X1_attach l D cI cZ cT h ad T16 _ N (T16 10 0) 0 v1  hz18) (cwV 3 hts (zg_V zw_12_8 zw_12_9 zw_12_10 zw_1_14 zw_12_11) rfl rfl rfl ⟨rfl, zyX1_attach⟩ ⟨Nat.le_of_ble_eq_true rfl, Nat.le_of_ble_eq_true rfl⟩) ⟨bS_blind, va_recv hK hP (ci := 1) (q0 := 0) rfl rfl, bS_pre hP hK hD hN⟩ rfl rfl hl.1 rfl (lv_room (Nat.le_of_ble_eq_true rfl)) dX1_split_206 ⟨Nat.zero_le _, Nat.zero_le _⟩) hS (fun q _ h => zx_fW hD hS hA q h) (fun q h => zx_fW hD hS hA q h) (fun u t H1 lc ht hvm hw hB hz1 hk1 hS => ?_)
                replace hw : T17 = u := hw; subst hw
                rw [ht] at hB
                replace hP := hB
                replace hD := xW1_D T17 hD
                exact j209 v1 v5 T17 _ _ _ hP hD hS (lv_sub hl [0, 1, 4] rfl) hM
            · replace hM := zx_f q2 hM
              have j157 : ∀ (v1 : Int32) (v3 : Int32) (v4 : Int32) (v5 : Int32) (v6 : Int32) (v7 : Int32) (S_ : zx_S) (H : Heap) (lc : List Loc) (ls : Array Slot), va_P D vwCl (xW1 cI h ad S_) H → va_D A (xW1 cI h ad S_) → va_S A s.heap H lc → lv_has ls 8 [(0, .ref h), (1, .int v1), (3, .int v3), (4, .int v4), (5, .int v5), (6, .int v6), (7, .int v7)] → f_X1_split_j157 N (f_X1_split_l104 N  n104) v1 v3 v4 v5 v6 v7 S_ = some R → W p l e (headSpec zsX1_split rmX1_split).room s m ([.ref h, .int p1] : List Value).toArray below meth c H lc 0 0 Q9 (F0 m 157 ls []) := by
                intro v1 v3 v4 v5 v6 v7 S_ H lc ls hP hD hS hl hM
                unfold f_X1_split_j157 at hM
                obtain ⟨x19, ex19, hM⟩ := zx_nE hM
                refine lv_iinc (v := x19) (lv' := [(7, .int x19), (0, .ref h), (1, .int v1), (3, .int v3), (4, .int v4), (5, .int v5), (6, .int v6)]) hx hb dX1_split_157 hl (k := 6) rfl (by rw [ex19]; rfl) (by decide) rfl (fun ls hl => ?_)
                refine lv_goto (tgt := 104) hx hb dX1_split_160 (by decide) ?_
                exact ih104 v1 v3 v4 v5 v6 x19 S_ _ _ _ hP hD hS (lv_sub hl [1, 2, 3, 4, 5, 6, 0] rfl) hM
              refine lv_iload hx hb dX1_split_110 (lv_at hl 6 rfl) ?_
              refine lv_iload_n hx hb dX1_split_112 rfl (lv_at hl 2 rfl) ?_
              refine lv_icmp_eq (tgt := 157) hx hb dX1_split_113 (by decide) (fun q20 => ?_) (fun q20 => ?_)
              · replace hM := zx_t q20 hM
                exact j157 v1 v3 v4 v5 v6 v7 S_ _ _ _ hP hD hS (lv_sub hl [0, 1, 2, 3, 4, 5, 6] rfl) hM
              · replace hM := zx_f q20 hM
                refine lv_iload hx hb dX1_split_116 (lv_at hl 6 rfl) ?_
                refine lv_iload hx hb dX1_split_118 (lv_at hl 3 rfl) ?_
                refine lv_icmp_eq (tgt := 157) hx hb dX1_split_120 (by decide) (fun q21 => ?_) (fun q21 => ?_)
                · replace hM := zx_t q21 hM
                  exact j157 v1 v3 v4 v5 v6 v7 S_ _ _ _ hP hD hS (lv_sub hl [0, 1, 2, 3, 4, 5, 6] rfl) hM
                · replace hM := zx_f q21 hM
                  refine lv_aload_n hx hb dX1_split_123 rfl (lv_at hl 0 rfl) ?_
                  refine lv_aload_n hx hb dX1_split_124 rfl (lv_at hl 0 rfl) ?_
                  refine lv_aload_n hx hb dX1_split_125 rfl (lv_at hl 0 rfl) ?_
                  refine va_get (D := D) (ci := 1) (v := .ref (ad 7)) (C := RX1) (T := TX1) (N := 14) hx hb hts inlX1 hown hK hP 0 rfl rfl 11 (by decide) (hts _ zw_2_12) (fun _ h9 => h9) rfl dX1_split_126 ?_
                  refine lv_iload hx hb dX1_split_129 (lv_at hl 6 rfl) ?_
                  obtain ⟨x22, hz23, hM⟩ := zx_b1E hM
                  refine va_calli (va_runSN (As := [.ref (ad 7), .int v7]) (rest := [.ref h, .ref h]) ⟨hx, hb, hml, hown, hts⟩ (c_X2_get l D cI cZ cT (ad 7) 5 (S_ 7) _ N v7 hz23) ⟨va_cnB 2 hts (zg_c zw_3_6) rfl rfl rfl (hN _ (zx_nw_X1_70)) (hts _ zw_1_2) zyX2_get ⟨Nat.le_of_ble_eq_true rfl, Nat.le_of_ble_eq_true rfl⟩, (hts _ zw_3_5), trivial⟩ ⟨bS_blind, bS_pre (zx_P1 hP 8 (rfl)) hK (zx_D1 hD 8 (rfl)) hN⟩ rfl rfl hl.1 rfl (lv_room (Nat.le_of_ble_eq_true rfl)) dX1_split_131 ⟨Nat.zero_le _, Nat.zero_le _⟩) hS (fun q h1 h2 => absurd h1 (Nat.not_lt.mpr h2)) (fun q h => hA q (Nat.le_trans hS.1 h)) (fun r u t H1 lc ht hvm hw hB hz1 hk1 hS => ?_)
                  replace hw : x22 = r := hw; subst hw
                  replace hP := zx_keep hP hk1
                  refine lv_iload_n hx hb dX1_split_134 rfl (lv_at hl 1 rfl) ?_
                  refine lv_iload hx hb dX1_split_135 (lv_at hl 4 rfl) ?_
                  refine lv_iload hx hb dX1_split_137 (lv_at hl 5 rfl) ?_
                  obtain ⟨x24, hz25, hM⟩ := zx_b1E hM
                  refine va_calli (va_runV (As := [.int x22, .int v1, .int v5, .int v6]) (rest := [.ref h]) ⟨hx, hb, hml, hown, hts⟩ (c_X1_groupFor l D cI cZ cT h ad S_ _ N x22 v1 v5 v6  hz25) (cwV 4 hts (zg_V zw_14_0 zw_14_1 zw_14_2 zw_1_14 zw_14_3) rfl rfl rfl ⟨rfl, zyX1_groupFor⟩ ⟨Nat.le_of_ble_eq_true rfl, Nat.le_of_ble_eq_true rfl⟩) ⟨bS_blind, va_recv hK hP (ci := 1) (q0 := 0) rfl rfl, bS_pre hP hK hD hN⟩ rfl rfl hl.1 rfl (lv_room (Nat.le_of_ble_eq_true rfl)) dX1_split_139 ⟨Nat.zero_le _, Nat.zero_le _⟩) hS (fun q h1 h2 => absurd h1 (Nat.not_lt.mpr h2)) (fun q h => hA q (Nat.le_trans hS.1 h)) (fun r u t H1 lc ht hvm hw hB hz1 hk1 hS => ?_)
                  replace hw : x24 = r := hw; subst hw
                  replace hP := zx_keep hP hk1
                  refine lv_aload_n hx hb dX1_split_142 rfl (lv_at hl 0 rfl) ?_
                  refine va_get (D := D) (ci := 1) (v := .ref (ad 7)) (C := RX1) (T := TX1) (N := 14) hx hb hts inlX1 hown hK hP 0 rfl rfl 11 (by decide) (hts _ zw_2_12) (fun _ h9 => h9) rfl dX1_split_143 ?_
                  refine lv_iload hx hb dX1_split_146 (lv_at hl 6 rfl) ?_
                  obtain ⟨x26, hz27, hM⟩ := zx_b1E hM
                  refine va_calli (va_runSN (As := [.ref (ad 7), .int v7]) (rest := [.int x24, .ref h]) ⟨hx, hb, hml, hown, hts⟩ (c_X2_get l D cI cZ cT (ad 7) 5 (S_ 7) _ N v7 hz27) ⟨va_cnB 2 hts (zg_c zw_3_6) rfl rfl rfl (hN _ (zx_nw_X1_70)) (hts _ zw_1_2) zyX2_get ⟨Nat.le_of_ble_eq_true rfl, Nat.le_of_ble_eq_true rfl⟩, (hts _ zw_3_5), trivial⟩ ⟨bS_blind, bS_pre (zx_P1 hP 8 (rfl)) hK (zx_D1 hD 8 (rfl)) hN⟩ rfl rfl hl.1 rfl (lv_room (Nat.le_of_ble_eq_true rfl)) dX1_split_148 ⟨Nat.zero_le _, Nat.zero_le _⟩) hS (fun q h1 h2 => absurd h1 (Nat.not_lt.mpr h2)) (fun q h => hA q (Nat.le_trans hS.1 h)) (fun r u t H1 lc ht hvm hw hB hz1 hk1 hS => ?_)
                  replace hw : x26 = r := hw; subst hw
                  replace hP := zx_keep hP hk1
                  obtain ⟨T28, hz29, hM⟩ := zx_b1E hM
                  refine va_callv (va_runV (As := [.int x24, .int x26]) (rest := []) ⟨hx, hb, hml, hown, hts⟩ (c_X1_join l D cI cZ cT h ad S_ _ N x24 x26  hz29) (cwV 2 hts (zg_V zw_13_20 zw_13_21 zw_13_22 zw_1_14 zw_13_23) rfl rfl rfl ⟨rfl, zyX1_join⟩ ⟨Nat.le_of_ble_eq_true rfl, Nat.le_of_ble_eq_true rfl⟩) ⟨bS_blind, va_recv hK hP (ci := 1) (q0 := 0) rfl rfl, bS_pre hP hK hD hN⟩ rfl rfl hl.1 rfl (lv_room (Nat.le_of_ble_eq_true rfl)) dX1_split_151 ⟨Nat.zero_le _, Nat.zero_le _⟩) hS (fun q _ h => zx_fW hD hS hA q h) (fun q h => zx_fW hD hS hA q h) (fun u t H1 lc ht hvm hw hB hz1 hk1 hS => ?_)
                  replace hw : T28 = u := hw; subst hw
                  rw [ht] at hB
                  replace hP := hB
                  replace hD := xW1_D T28 hD
                  obtain ⟨x30, ex30, hM⟩ := zx_nE hM
                  refine lv_iinc (v := x30) (lv' := [(6, .int x30), (0, .ref h), (1, .int v1), (3, .int v3), (4, .int v4), (5, .int v5), (7, .int v7)]) hx hb dX1_split_154 hl (k := 5) rfl (by rw [ex30]; rfl) (by decide) rfl (fun ls hl => ?_)
                  exact j157 v1 v3 v4 v5 x30 v7 T28 _ _ _ hP hD hS (lv_sub hl [1, 2, 3, 4, 5, 0, 6] rfl) hM
        refine lv_aload_n hx hb dX1_split_33 rfl (lv_at hl 0 rfl) ?_
        obtain ⟨x31, hz32, hM⟩ := zx_b1E hM
        refine va_calli (va_runV (As := []) (rest := []) ⟨hx, hb, hml, hown, hts⟩ (c_X1_seedPair l D cI cZ cT h ad S_ _ N  hz32) (cwV 0 hts (zg_V zw_13_16 zw_13_17 zw_13_18 zw_1_14 zw_13_19) rfl rfl rfl ⟨rfl, zyX1_seedPair⟩ ⟨Nat.le_of_ble_eq_true rfl, Nat.le_of_ble_eq_true rfl⟩) ⟨bS_blind, va_recv hK hP (ci := 1) (q0 := 0) rfl rfl, bS_pre hP hK hD hN⟩ rfl rfl hl.1 rfl (lv_room (Nat.le_of_ble_eq_true rfl)) dX1_split_34 ⟨Nat.zero_le _, Nat.zero_le _⟩) hS (fun q h1 h2 => absurd h1 (Nat.not_lt.mpr h2)) (fun q h => hA q (Nat.le_trans hS.1 h)) (fun r u t H1 lc ht hvm hw hB hz1 hk1 hS => ?_)
        replace hw : x31 = r := hw; subst hw
        replace hP := zx_keep hP hk1
        refine lv_istore_n (lv' := [(2, .int x31), (0, .ref h), (1, .int v1)]) hx hb dX1_split_37 rfl hl (by decide) rfl (fun ls hl => ?_)
        refine lv_iload_n hx hb dX1_split_38 rfl (lv_at hl 0 rfl) ?_
        refine lv_iconst (v := 5) hx hb dX1_split_39 (by decide) ?_
        refine lv_idiv hx hb dX1_split_40 (by decide) ?_
        obtain ⟨x33, ex33, hM⟩ := zx_nE hM
        refine zx_top ex33 ?_
        refine lv_istore_n (lv' := [(3, .int x33), (2, .int x31), (0, .ref h), (1, .int v1)]) hx hb dX1_split_41 rfl hl (by decide) rfl (fun ls hl => ?_)
        refine lv_iload_n hx hb dX1_split_42 rfl (lv_at hl 1 rfl) ?_
        refine lv_iconst (v := 5) hx hb dX1_split_43 (by decide) ?_
        refine lv_irem hx hb dX1_split_44 (by decide) ?_
        obtain ⟨x34, ex34, hM⟩ := zx_nE hM
        refine zx_top ex34 ?_
        refine lv_istore (lv' := [(4, .int x34), (3, .int x33), (2, .int x31), (0, .ref h), (1, .int v1)]) hx hb dX1_split_45 hl (by decide) rfl (fun ls hl => ?_)
        refine lv_aload_n hx hb dX1_split_47 rfl (lv_at hl 3 rfl) ?_
        refine lv_aload_n hx hb dX1_split_48 rfl (lv_at hl 3 rfl) ?_
        refine va_get (D := D) (ci := 1) (v := .ref (ad 1)) (C := RX1) (T := TX1) (N := 14) hx hb hts inlX1 hown hK hP 0 rfl rfl 1 (by decide) (hts _ zw_2_6) (fun _ h9 => h9) rfl dX1_split_49 ?_
        refine lv_iload_n hx hb dX1_split_52 rfl (lv_at hl 4 rfl) ?_
        obtain ⟨x35, hz36, hM⟩ := zx_b1E hM
        refine va_calli (va_runSN (As := [.ref (ad 1), .int v1]) (rest := [.ref h]) ⟨hx, hb, hml, hown, hts⟩ (c_X2_get l D cI cZ cT (ad 1) 49 (S_ 1) _ N v1 hz36) ⟨va_cnB 2 hts (zg_c zw_3_6) rfl rfl rfl (hN _ (zx_nw_X1_70)) (hts _ zw_1_2) zyX2_get ⟨Nat.le_of_ble_eq_true rfl, Nat.le_of_ble_eq_true rfl⟩, (hts _ zw_3_5), trivial⟩ ⟨bS_blind, bS_pre (zx_P1 hP 2 (rfl)) hK (zx_D1 hD 2 (rfl)) hN⟩ rfl rfl hl.1 rfl (lv_room (Nat.le_of_ble_eq_true rfl)) dX1_split_53 ⟨Nat.zero_le _, Nat.zero_le _⟩) hS (fun q h1 h2 => absurd h1 (Nat.not_lt.mpr h2)) (fun q h => hA q (Nat.le_trans hS.1 h)) (fun r u t H1 lc ht hvm hw hB hz1 hk1 hS => ?_)
        replace hw : x35 = r := hw; subst hw
        replace hP := zx_keep hP hk1
        obtain ⟨x37, T38, hz39, hM⟩ := zx_b2E hM
        refine va_calli (va_runV (As := [.int x35]) (rest := []) ⟨hx, hb, hml, hown, hts⟩ (c_X1_newNode l D cI cZ cT h ad S_ _ N x35  hz39) (cwV 1 hts (zg_V zw_3_1 zw_3_2 zw_3_3 zw_1_14 zw_3_4) rfl rfl rfl ⟨rfl, zyX1_newNode⟩ ⟨Nat.le_of_ble_eq_true rfl, Nat.le_of_ble_eq_true rfl⟩) ⟨bS_blind, va_recv hK hP (ci := 1) (q0 := 0) rfl rfl, bS_pre hP hK hD hN⟩ rfl rfl hl.1 rfl (lv_room (Nat.le_of_ble_eq_true rfl)) dX1_split_56 ⟨Nat.zero_le _, Nat.zero_le _⟩) hS (fun q _ h => zx_fW hD hS hA q h) (fun q h => zx_fW hD hS hA q h) (fun r u t H1 lc ht hvm hw hB hz1 hk1 hS => ?_)
        obtain ⟨hw1, hw2⟩ := Prod.mk.inj hw; subst hw1; subst hw2
        rw [ht] at hB
        replace hP := hB
        replace hD := xW1_D T38 hD
        refine lv_istore (lv' := [(5, .int x37), (4, .int x34), (3, .int x33), (2, .int x31), (0, .ref h), (1, .int v1)]) hx hb dX1_split_59 hl (by decide) rfl (fun ls hl => ?_)
        refine lv_aload_n hx hb dX1_split_61 rfl (lv_at hl 4 rfl) ?_
        refine va_get (D := D) (ci := 1) (v := .ref (ad 3)) (C := RX1) (T := TX1) (N := 14) hx hb hts inlX1 hown hK hP 0 rfl rfl 3 (by decide) (hts _ zw_2_8) (fun _ h9 => h9) rfl dX1_split_62 ?_
        refine lv_iload_n hx hb dX1_split_65 rfl (lv_at hl 5 rfl) ?_
        refine lv_iconst (v := 0) hx hb dX1_split_66 (by decide) ?_
        obtain ⟨g40, hz41, hM⟩ := zx_b1E hM
        refine va_callv (va_runSN (As := [.ref (ad 3), .int v1, .int 0]) (rest := []) ⟨hx, hb, hml, hown, hts⟩ (c_X2_put l D cI cZ cT (ad 3) 49 (T38 3) _ N v1 0 hz41) ⟨va_cnB 3 hts (zg_c zw_3_0) rfl rfl rfl (hN _ (zx_nw_X1_45)) (hts _ zw_1_2) zyX2_put ⟨Nat.le_of_ble_eq_true rfl, Nat.le_of_ble_eq_true rfl⟩, (hts _ zw_2_23), trivial⟩ ⟨bS_blind, bS_pre (zx_P1 hP 4 (rfl)) hK (zx_D1 hD 4 (rfl)) hN⟩ rfl rfl hl.1 rfl (lv_room (Nat.le_of_ble_eq_true rfl)) dX1_split_67 ⟨Nat.zero_le _, Nat.zero_le _⟩) hS (fun q _ h => zx_f1 hD hS hA (k := 4) rfl q h) (fun q h => zx_f1 hD hS hA (k := 4) rfl q h) (fun u t H1 lc ht hvm hw hB hz1 hk1 hS => ?_)
        replace hw : g40 = u := hw; subst hw
        rw [ht] at hB
        replace hP := zx_set1 (k := 4) hP hD rfl hk1 hB
        replace hD := va_D.set (p := 4) (e := .inl (cI, 49, .inl g40)) hD rfl
        rw [xW1_pa3] at hP hD
        obtain ⟨T42, eT42, hM⟩ := zx_nE hM
        rw [← eT42] at hP hD
        refine lv_aload_n hx hb dX1_split_70 rfl (lv_at hl 4 rfl) ?_
        refine lv_iload_n hx hb dX1_split_71 rfl (lv_at hl 5 rfl) ?_
        refine lv_aload_n hx hb dX1_split_72 rfl (lv_at hl 4 rfl) ?_
        refine va_get (D := D) (ci := 1) (v := .ref (ad 7)) (C := RX1) (T := TX1) (N := 14) hx hb hts inlX1 hown hK hP 0 rfl rfl 11 (by decide) (hts _ zw_2_12) (fun _ h9 => h9) rfl dX1_split_73 ?_
        refine lv_iload_n hx hb dX1_split_76 rfl (lv_at hl 2 rfl) ?_
        obtain ⟨x43, hz44, hM⟩ := zx_b1E hM
        refine va_calli (va_runSN (As := [.ref (ad 7), .int x33]) (rest := [.int v1, .ref h]) ⟨hx, hb, hml, hown, hts⟩ (c_X2_get l D cI cZ cT (ad 7) 5 (T42 7) _ N x33 hz44) ⟨va_cnB 2 hts (zg_c zw_3_6) rfl rfl rfl (hN _ (zx_nw_X1_70)) (hts _ zw_1_2) zyX2_get ⟨Nat.le_of_ble_eq_true rfl, Nat.le_of_ble_eq_true rfl⟩, (hts _ zw_3_5), trivial⟩ ⟨bS_blind, bS_pre (zx_P1 hP 8 (rfl)) hK (zx_D1 hD 8 (rfl)) hN⟩ rfl rfl hl.1 rfl (lv_room (Nat.le_of_ble_eq_true rfl)) dX1_split_77 ⟨Nat.zero_le _, Nat.zero_le _⟩) hS (fun q h1 h2 => absurd h1 (Nat.not_lt.mpr h2)) (fun q h => hA q (Nat.le_trans hS.1 h)) (fun r u t H1 lc ht hvm hw hB hz1 hk1 hS => ?_)
        replace hw : x43 = r := hw; subst hw
        replace hP := zx_keep hP hk1
        obtain ⟨T45, hz46, hM⟩ := zx_b1E hM
        refine va_callv (va_runV (As := [.int v1, .int x43]) (rest := []) ⟨hx, hb, hml, hown, hts⟩ (c_X1_join l D cI cZ cT h ad T42 _ N v1 x43  hz46) (cwV 2 hts (zg_V zw_13_20 zw_13_21 zw_13_22 zw_1_14 zw_13_23) rfl rfl rfl ⟨rfl, zyX1_join⟩ ⟨Nat.le_of_ble_eq_true rfl, Nat.le_of_ble_eq_true rfl⟩) ⟨bS_blind, va_recv hK hP (ci := 1) (q0 := 0) rfl rfl, bS_pre hP hK hD hN⟩ rfl rfl hl.1 rfl (lv_room (Nat.le_of_ble_eq_true rfl)) dX1_split_80 ⟨Nat.zero_le _, Nat.zero_le _⟩) hS (fun q _ h => zx_fW hD hS hA q h) (fun q h => zx_fW hD hS hA q h) (fun u t H1 lc ht hvm hw hB hz1 hk1 hS => ?_)
        replace hw : T45 = u := hw; subst hw
        rw [ht] at hB
        replace hP := hB
        replace hD := xW1_D T45 hD
        refine lv_aload_n hx hb dX1_split_83 rfl (lv_at hl 4 rfl) ?_
        refine lv_iload hx hb dX1_split_84 (lv_at hl 0 rfl) ?_
        refine lv_aload_n hx hb dX1_split_86 rfl (lv_at hl 4 rfl) ?_
        refine va_get (D := D) (ci := 1) (v := .ref (ad 7)) (C := RX1) (T := TX1) (N := 14) hx hb hts inlX1 hown hK hP 0 rfl rfl 11 (by decide) (hts _ zw_2_12) (fun _ h9 => h9) rfl dX1_split_87 ?_
        refine lv_iload hx hb dX1_split_90 (lv_at hl 1 rfl) ?_
        obtain ⟨x47, hz48, hM⟩ := zx_b1E hM
        refine va_calli (va_runSN (As := [.ref (ad 7), .int x34]) (rest := [.int x37, .ref h]) ⟨hx, hb, hml, hown, hts⟩ (c_X2_get l D cI cZ cT (ad 7) 5 (T45 7) _ N x34 hz48) ⟨va_cnB 2 hts (zg_c zw_3_6) rfl rfl rfl (hN _ (zx_nw_X1_70)) (hts _ zw_1_2) zyX2_get ⟨Nat.le_of_ble_eq_true rfl, Nat.le_of_ble_eq_true rfl⟩, (hts _ zw_3_5), trivial⟩ ⟨bS_blind, bS_pre (zx_P1 hP 8 (rfl)) hK (zx_D1 hD 8 (rfl)) hN⟩ rfl rfl hl.1 rfl (lv_room (Nat.le_of_ble_eq_true rfl)) dX1_split_92 ⟨Nat.zero_le _, Nat.zero_le _⟩) hS (fun q h1 h2 => absurd h1 (Nat.not_lt.mpr h2)) (fun q h => hA q (Nat.le_trans hS.1 h)) (fun r u t H1 lc ht hvm hw hB hz1 hk1 hS => ?_)
        replace hw : x47 = r := hw; subst hw
        replace hP := zx_keep hP hk1
        obtain ⟨T49, hz50, hM⟩ := zx_b1E hM
        refine va_callv (va_runV (As := [.int x37, .int x47]) (rest := []) ⟨hx, hb, hml, hown, hts⟩ (c_X1_join l D cI cZ cT h ad T45 _ N x37 x47  hz50) (cwV 2 hts (zg_V zw_13_20 zw_13_21 zw_13_22 zw_1_14 zw_13_23) rfl rfl rfl ⟨rfl, zyX1_join⟩ ⟨Nat.le_of_ble_eq_true rfl, Nat.le_of_ble_eq_true rfl⟩) ⟨bS_blind, va_recv hK hP (ci := 1) (q0 := 0) rfl rfl, bS_pre hP hK hD hN⟩ rfl rfl hl.1 rfl (lv_room (Nat.le_of_ble_eq_true rfl)) dX1_split_95 ⟨Nat.zero_le _, Nat.zero_le _⟩) hS (fun q _ h => zx_fW hD hS hA q h) (fun q h => zx_fW hD hS hA q h) (fun u t H1 lc ht hvm hw hB hz1 hk1 hS => ?_)
        replace hw : T49 = u := hw; subst hw
        rw [ht] at hB
        replace hP := hB
        replace hD := xW1_D T49 hD
        refine lv_iconst (v := 3) hx hb dX1_split_98 (by decide) ?_
        refine lv_istore (lv' := [(6, .int 3), (5, .int x37), (4, .int x34), (3, .int x33), (2, .int x31), (0, .ref h), (1, .int v1)]) hx hb dX1_split_99 hl (by decide) rfl (fun ls hl => ?_)
        refine lv_iconst (v := 0) hx hb dX1_split_101 (by decide) ?_
        refine lv_istore (lv' := [(7, .int 0), (6, .int 3), (5, .int x37), (4, .int x34), (3, .int x33), (2, .int x31), (0, .ref h), (1, .int v1)]) hx hb dX1_split_102 hl (by decide) rfl (fun ls hl => ?_)
        exact l104 N v1 x33 x34 x37 3 0 T49 _ _ _ hP hD hS (lv_sub hl [6, 7, 4, 3, 2, 1, 0] rfl) hM
      · replace hM := zx_f q1 hM
        refine lv_aload_n hx hb dX1_split_7 rfl (lv_at hl 0 rfl) ?_
        refine va_get (D := D) (ci := 1) (v := .ref (ad 7)) (C := RX1) (T := TX1) (N := 14) hx hb hts inlX1 hown hK hP 0 rfl rfl 11 (by decide) (hts _ zw_2_12) (fun _ h9 => h9) rfl dX1_split_8 ?_
        refine lv_iload_n hx hb dX1_split_11 rfl (lv_at hl 2 rfl) ?_
        refine lv_aload_n hx hb dX1_split_12 rfl (lv_at hl 0 rfl) ?_
        refine va_get (D := D) (ci := 1) (v := .ref (ad 4)) (C := RX1) (T := TX1) (N := 14) hx hb hts inlX1 hown hK hP 0 rfl rfl 4 (by decide) (hts _ zw_2_9) (fun _ h9 => h9) rfl dX1_split_13 ?_
        refine lv_iload_n hx hb dX1_split_16 rfl (lv_at hl 1 rfl) ?_
        refine lv_iconst (v := 5) hx hb dX1_split_17 (by decide) ?_
        refine lv_imul hx hb dX1_split_18 ?_
        refine lv_iload_n hx hb dX1_split_19 rfl (lv_at hl 2 rfl) ?_
        refine lv_iadd hx hb dX1_split_20 ?_
        obtain ⟨x51, hz52, hM⟩ := zx_b1E hM
        refine va_calli (va_runSN (As := [.ref (ad 4), .int ((v1 * 5) + v2)]) (rest := [.int v2, .ref (ad 7)]) ⟨hx, hb, hml, hown, hts⟩ (c_X2_get l D cI cZ cT (ad 4) 245 (S_ 4) _ N ((v1 * 5) + v2) hz52) ⟨va_cnB 2 hts (zg_c zw_3_6) rfl rfl rfl (hN _ (zx_nw_X1_70)) (hts _ zw_1_2) zyX2_get ⟨Nat.le_of_ble_eq_true rfl, Nat.le_of_ble_eq_true rfl⟩, (hts _ zw_3_5), trivial⟩ ⟨bS_blind, bS_pre (zx_P1 hP 5 (rfl)) hK (zx_D1 hD 5 (rfl)) hN⟩ rfl rfl hl.1 rfl (lv_room (Nat.le_of_ble_eq_true rfl)) dX1_split_21 ⟨Nat.zero_le _, Nat.zero_le _⟩) hS (fun q h1 h2 => absurd h1 (Nat.not_lt.mpr h2)) (fun q h => hA q (Nat.le_trans hS.1 h)) (fun r u t H1 lc ht hvm hw hB hz1 hk1 hS => ?_)
        replace hw : x51 = r := hw; subst hw
        replace hP := zx_keep hP hk1
        obtain ⟨g53, hz54, hM⟩ := zx_b1E hM
        refine va_callv (va_runSN (As := [.ref (ad 7), .int v2, .int x51]) (rest := []) ⟨hx, hb, hml, hown, hts⟩ (c_X2_put l D cI cZ cT (ad 7) 5 (S_ 7) _ N v2 x51 hz54) ⟨va_cnB 3 hts (zg_c zw_3_0) rfl rfl rfl (hN _ (zx_nw_X1_45)) (hts _ zw_1_2) zyX2_put ⟨Nat.le_of_ble_eq_true rfl, Nat.le_of_ble_eq_true rfl⟩, (hts _ zw_2_23), trivial⟩ ⟨bS_blind, bS_pre (zx_P1 hP 8 (rfl)) hK (zx_D1 hD 8 (rfl)) hN⟩ rfl rfl hl.1 rfl (lv_room (Nat.le_of_ble_eq_true rfl)) dX1_split_24 ⟨Nat.zero_le _, Nat.zero_le _⟩) hS (fun q _ h => zx_f1 hD hS hA (k := 8) rfl q h) (fun q h => zx_f1 hD hS hA (k := 8) rfl q h) (fun u t H1 lc ht hvm hw hB hz1 hk1 hS => ?_)
        replace hw : g53 = u := hw; subst hw
        rw [ht] at hB
        replace hP := zx_set1 (k := 8) hP hD rfl hk1 hB
        replace hD := va_D.set (p := 8) (e := .inl (cI, 5, .inl g53)) hD rfl
        rw [xW1_pa7] at hP hD
        obtain ⟨T55, eT55, hM⟩ := zx_nE hM
        rw [← eT55] at hP hD
        obtain ⟨x56, ex56, hM⟩ := zx_nE hM
        refine lv_iinc (v := x56) (lv' := [(2, .int x56), (0, .ref h), (1, .int v1)]) hx hb dX1_split_27 hl (k := 2) rfl (by rw [ex56]; rfl) (by decide) rfl (fun ls hl => ?_)
        refine lv_goto (tgt := 2) hx hb dX1_split_30 (by decide) ?_
        exact ih2 v1 x56 T55 _ _ _ hP hD hS (lv_sub hl [1, 2, 0] rfl) hM
  refine lv_iconst (v := 0) hx hb dX1_split_0 (by decide) ?_
  refine lv_istore_n (lv' := [(2, .int 0), (0, .ref h), (1, .int p1)]) hx hb dX1_split_1 rfl hl (by decide) rfl (fun ls hl => ?_)
  exact l2 N p1 0 S _ _ _ hP hD hS (lv_sub hl [1, 2, 0] rfl) hM
