/-! ShallowBoxes.treeAt, by hand -/
abbrev zsX2_treeAt : List Cond := .code yX2_treeAt cX2_treeAt 2 (some (.object "ShallowBoxes$Tree")) :: wsL_law
abbrev rmX2_treeAt : Room := { frames := 0, cells := 0, slots := 0, locals := 0 }
theorem zyX2_treeAt : yX2_treeAt.cls ≠ "java/lang/invoke/MethodHandle" ∧ yX2_treeAt.cls ≠ "java/lang/invoke/VarHandle" ∧ (parseMethodDescriptor yX2_treeAt.desc).map (fun d => d.parameters.length) = some 2 := by decide +kernel
set_option maxHeartbeats 4000000 in
set_option maxRecDepth 100000 in
theorem c_X2_treeAt (l : Launch) (D : va_G) (cI cZ cT : ClassId) (a0 n0 : Nat) (hn : n0 < 2 ^ 31) (g : Nat → Nat) (sz : Nat) (p1 : Int32) {R : Nat} (hM : f_X2_treeAt n0 p1 = some R) : Met l yX2_treeAt zsX2_treeAt rmX2_treeAt (va_Pc [.ref a0, .int p1] (bS D (zx_ty cI cZ cT) [(a0, .inl (cT, n0, .inr (.inr (.inr (.inr (fun i => some (g i)))))))] sz)) (va_Qr (fun u => R = u) (fun u a t => a = g u) (fun q => sz ≤ q)) 0 0 (fun q => sz ≤ q) := by
  refine Met.ofW (cc := cX2_treeAt) (maxL := 2) (ret := (some (.object "ShallowBoxes$Tree"))) (by decide) rfl ?_
  intro p e s m args below meth c s₁ B hml hv
  obtain ⟨rfl, hsz, hP, hK, hD0, hN⟩ := hv
  have hx := B.exec
  have hb := B.bytes
  have hr := B.returns
  have hts : ∀ w ∈ wsL_law, w.before _ s = true := fun w hw => atoms_spec (ws := zsX2_treeAt) B.pre w (List.mem_cons_of_mem _ hw)
  have hown : s.vm.findClass RX2 = some m.cls := findClass_of_methodNamed B.named
  have hlocks := B.notSynchronized
  subst hsz
  generalize hAe : (fun q : Nat => s.heap.size ≤ q) = A
  have hA : ∀ q : Nat, s.heap.size ≤ q → A q := fun q h => by rw [← hAe]; exact h
  have hS : va_S A s.heap s.heap [] := va_S.rf
  have hl := lv_entry ([.ref a0, .int p1]) (n := 2) (Nat.le_of_ble_eq_true rfl)
  rw [lg_entry_eq]
  generalize (lg_sl ([.ref a0, .int p1]) ++ List.replicate (2 - (lg_sl ([.ref a0, .int p1])).length) Slot.unset).toArray = ls at hl ⊢
  have hl : lv_has ls 2 [(0, .ref a0), (1, .int p1)] := hl
  unfold f_X2_treeAt at hM
  split at hM
  · cases hM
  · rename_i hin
    have hin : vp_in p1 n0 := hin
    obtain ⟨j, hj, ej⟩ := vp_in_of hin hn
    refine lv_aload_n hx hb dX2_treeAt_0 rfl (lv_at hl 0 rfl) ?_
    refine lv_ifnull hx hb dX2_treeAt_1 ?_
    refine lv_iload_n hx hb dX2_treeAt_4 rfl (lv_at hl 1 rfl) ?_
    refine lv_if_lt (tgt := 20) hx hb dX2_treeAt_5 (by decide) (fun q1 => ?_) (fun q1 => ?_)
    · exact absurd (Or.inl q1) hin
    · refine lv_iload_n hx hb dX2_treeAt_8 rfl (lv_at hl 1 rfl) ?_
      refine lv_aload_n hx hb dX2_treeAt_9 rfl (lv_at hl 0 rfl) ?_
      refine va_alen (D := D) (v := (Int32.ofNat n0)) hx hb hK hP 0 2 rfl rfl rfl dX2_treeAt_10 ?_
      refine lv_icmp_ge (tgt := 20) hx hb dX2_treeAt_11 (by decide) (fun q2 => ?_) (fun q2 => ?_)
      · exact absurd (show nI n0 ≤ nI j by rw [← ej]; exact q2) (nI_ge hj hn)
      · refine lv_aload_n hx hb dX2_treeAt_14 rfl (lv_at hl 0 rfl) ?_
        refine lv_iload_n hx hb dX2_treeAt_15 rfl (lv_at hl 1 rfl) ?_
        refine va_aldq (D := D) (C := RX1) hx hb hK hP 0 2 rfl rfl hin dX2_treeAt_16 ?_
        refine lv_goto (tgt := 21) hx hb dX2_treeAt_17 (by decide) ?_
        exact W.aret hx hb hr (Or.inl ⟨_, rfl⟩) (Or.inr ⟨_, rfl⟩) (fun t ht hW => ⟨⟨p1.toNatClampNeg, g p1.toNatClampNeg, rfl, (Option.some.inj hM).symm, rfl⟩, hS.F ht⟩) hS.2.2 dX2_treeAt_21
/-! ShallowBoxes.append(I)I -/
def f_X2_append_j11 (N : Nat) (S_ : zx_B) : Option (Int32 × (Nat × zx_B)) :=
  some (0, (1, S_))
def f_X2_append (N : Nat) (p1 : Int32) (S : zx_B) : Option (Int32 × (Nat × zx_B)) :=
  (if p1 < 0 then
  f_X2_append_j11 N  S else
  (if p1 ≤ 255 then
  (if (S 18 2 0) < 100 then
  (zx_b2 (f_X0_lengthen N p1 (S 18)) (fun x4 T5 =>
(zx_n (zx_sb S 18 T5) (fun T7 =>
some (x4, (0, T7)))))) else
  some (0, (2, S))) else
  f_X2_append_j11 N  S))
abbrev rmX2_append : Room := { frames := 6, cells := 1, slots := 6, locals := 82 }
abbrev zsX2_append : List Cond := .code yX2_append cX2_append 2 (some .int) :: wsL_law
theorem zyX2_append : yX2_append.cls ≠ "java/lang/invoke/MethodHandle" ∧ yX2_append.cls ≠ "java/lang/invoke/VarHandle" ∧ (parseMethodDescriptor yX2_append.desc).map (fun d => d.parameters.length) = some 1 := by decide +kernel
set_option maxHeartbeats 4000000 in
set_option maxRecDepth 100000 in
theorem c_X2_append (l : Launch) (D : va_G) (cI cZ cT : ClassId) (hlt : l.stackTraces = false) (h : Nat) (hh : Nat → Nat) (aa : Nat → Nat → Nat) (S : zx_B) (sz : Nat) (N : Nat) (p1 : Int32) {R : Int32 × (Nat × zx_B)} (hM : f_X2_append N p1 S = some R) : vx_Met l yX2_append zsX2_append rmX2_append (va_Pc [.ref h, .int p1] (bX D (zx_ty cI cZ cT) (xW2 cI cT h hh aa S) sz)) (va_Qi (fun r u => R = (r, (0, u))) (fun u t => va_P D vwCl (xW2 cI cT h hh aa u) t.heap) (va_A (xW2 cI cT h hh aa S) sz)) (vx_X (fun u : Nat × zx_B => R = (0, u) ∧ u.1 ≠ 0) (fun E u t => E = zx_E u.1 ∧ va_P D vwCl (xW2 cI cT h hh aa u.2) t.heap) (va_A (xW2 cI cT h hh aa S) sz)) 1 6 (va_A (xW2 cI cT h hh aa S) sz) := by
  refine vx_ofW (cc := cX2_append) (maxL := 2) (ret := (some .int)) (by decide) rfl ?_
  intro p e s m args below meth c s₁ B hml hout hv
  obtain ⟨rfl, ⟨hsz, hP, hK, hD0, hN⟩, hX⟩ := hv
  have hx := B.exec
  have hb := B.bytes
  have hr := B.returns
  have hts : ∀ w ∈ wsL_law, w.before _ s = true := fun w hw => atoms_spec (ws := zsX2_append) B.pre w (List.mem_cons_of_mem _ hw)
  have hown : s.vm.findClass RX2 = some m.cls := findClass_of_methodNamed B.named
  have hlocks := B.notSynchronized
  subst hsz
  have hD := hD0.self (sz := s.heap.size)
  generalize hAe : va_A (xW2 cI cT h hh aa S) s.heap.size = A at hD hX ⊢
  have hU := hX.1
  have hNN := hX.2.1
  have hXw := hX.2.2.1
  have hXs := hX.2.2.2
  have hA : ∀ q : Nat, s.heap.size ≤ q → A q := fun q h => by rw [← hAe]; exact Or.inr h
  have hS : va_S A s.heap s.heap [] := va_S.rf
  have hl := lv_entry ([.ref h, .int p1]) (n := 2) (Nat.le_of_ble_eq_true rfl)
  rw [lg_entry_eq]
  generalize (lg_sl ([.ref h, .int p1]) ++ List.replicate (2 - (lg_sl ([.ref h, .int p1])).length) Slot.unset).toArray = ls at hl ⊢
  have hl : lv_has ls 2 [(0, .ref h), (1, .int p1)] := hl
  generalize hQ : vx_MQ below (va_Qi (fun r u => R = (r, (0, u))) (fun u t => va_P D vwCl (xW2 cI cT h hh aa u) t.heap) A) (vx_X (fun u : Nat × zx_B => R = (0, u) ∧ u.1 ≠ 0) (fun E u t => E = zx_E u.1 ∧ va_P D vwCl (xW2 cI cT h hh aa u.2) t.heap) A) ([.ref h, .int p1] : List Value).toArray s 1 6 A = Q9
  replace hQ := hQ.symm
  unfold f_X2_append at hM
  have j11 : ∀ (S_ : zx_B) (H : Heap) (lc : List Loc) (ls : Array Slot), va_P D vwCl (xW2 cI cT h hh aa S_) H → va_D A (xW2 cI cT h hh aa S_) → va_S A s.heap H lc → lv_has ls 2 [] → f_X2_append_j11 N S_ = some R → W p l e (headSpec zsX2_append rmX2_append).room s m ([.ref h, .int p1] : List Value).toArray below meth c H lc 0 0 Q9 (F0 m 11 ls []) := by
    intro S_ H lc ls hP hD hS hl hM
    unfold f_X2_append_j11 at hM
    rw [hQ]
    exact zx_thr1 hx hb hlt hown (hts _ zw_4_14) (hts _ zw_4_15) (hXs _ _ (zx_str_39)) hts hXw hU hNN hS (hl.1.trans hml.symm) dX2_append_11 dX2_append_14 dX2_append_15 dX2_append_17 dX2_append_20 hout (Nat.le_of_ble_eq_true rfl) (Nat.le_of_ble_eq_true rfl) (Nat.le_of_ble_eq_true rfl) (Nat.le_of_ble_eq_true rfl) hlocks (fun t hvm hz hk => zx_XC (Option.some.inj hM).symm (by decide) rfl hP hS hz hk) hS.2.2 (Nat.le_of_ble_eq_true rfl) (Nat.le_of_ble_eq_true rfl)
  refine lv_iload_n hx hb dX2_append_0 rfl (lv_at hl 1 rfl) ?_
  refine lv_if_lt (tgt := 11) hx hb dX2_append_1 (by decide) (fun q1 => ?_) (fun q1 => ?_)
  · replace hM := zx_t q1 hM
    exact j11 S _ _ _ hP hD hS (lv_sub hl [] rfl) hM
  · replace hM := zx_f q1 hM
    refine lv_iload_n hx hb dX2_append_4 rfl (lv_at hl 1 rfl) ?_
    refine lv_sipush (v := 255) hx hb dX2_append_5 (by decide) ?_
    refine lv_icmp_le (tgt := 21) hx hb dX2_append_8 (by decide) (fun q2 => ?_) (fun q2 => ?_)
    · replace hM := zx_t q2 hM
      refine lv_aload_n hx hb dX2_append_21 rfl (lv_at hl 0 rfl) ?_
      refine va_get (D := D) (ci := 2) (v := .ref (hh 18)) (C := RX2) (T := TX2) (N := 8) hx hb hts inlX2 hown hK hP 0 rfl rfl 7 (by decide) (hts _ zw_2_0) (fun _ h9 => h9) rfl dX2_append_22 ?_
      refine va_getN (D := D) (ci := 0) (v := .int (S 18 2 0)) (C := RX0) (T := TX0) (N := 6) (host := RX2) hx hb hts inlX0 hown hK (zx2_Pt hP) 0 rfl rfl 1 (by decide) (va_Nw.use rfl (hN _ zx_nw_X2_44)) (fun _ h9 => h9) rfl dX2_append_25 ?_
      refine lv_bipush (v := 100) hx hb dX2_append_28 (by decide) ?_
      refine lv_icmp_lt (tgt := 43) hx hb dX2_append_30 (by decide) (fun q3 => ?_) (fun q3 => ?_)
      · replace hM := zx_t q3 hM
        refine lv_aload_n hx hb dX2_append_43 rfl (lv_at hl 0 rfl) ?_
        refine va_get (D := D) (ci := 2) (v := .ref (hh 18)) (C := RX2) (T := TX2) (N := 8) hx hb hts inlX2 hown hK hP 0 rfl rfl 7 (by decide) (hts _ zw_2_0) (fun _ h9 => h9) rfl dX2_append_44 ?_
        refine lv_iload_n hx hb dX2_append_47 rfl (lv_at hl 1 rfl) ?_
        obtain ⟨x4, T5, hz6, hM⟩ := zx_b2E hM
        refine va_calli (va_runV (As := [.int p1]) (rest := []) ⟨hx, hb, hml, hown, hts⟩ (c_X0_lengthen l D cI cZ cT (hh 18) (aa 18) (S 18) _ N p1 hz6) (cwV 1 hts (zg_V zw_4_18 zw_4_19 zw_4_20 zw_1_23 zw_4_21) rfl rfl rfl ⟨rfl, zyX0_lengthen⟩ ⟨Nat.le_of_ble_eq_true rfl, Nat.le_of_ble_eq_true rfl⟩) ⟨bS_blind, va_recv hK (zx2_Pt hP) (ci := 0) (q0 := 0) rfl rfl, bS_pre (zx2_Pt hP) hK (zx2_Dt hD) hN⟩ rfl rfl hl.1 rfl (lv_room (Nat.le_of_ble_eq_true rfl)) dX2_append_48 ⟨Nat.zero_le _, Nat.zero_le _⟩) hS (fun q _ h => zx_fW (zx2_Dt hD) hS hA q h) (fun q h => zx_fW (zx2_Dt hD) hS hA q h) (fun r u t H1 lc ht hvm hw hB hz1 hk1 hS => ?_)
        obtain ⟨hw1, hw2⟩ := Prod.mk.inj hw; subst hw1; subst hw2
        rw [ht] at hB
        replace hP := zx2_St hP hD hk1 hB
        obtain ⟨T7, eT7, hM⟩ := zx_nE hM
        rw [← eT7] at hP
        replace hD := zx2_Da T7 hD
        rw [hQ]
        refine vx_ret ?_
        refine W.widen (k := 1) (n := 6) (Nat.le_of_ble_eq_true rfl) (Nat.le_of_ble_eq_true rfl) ?_
        exact W.iret hx hb hr (fun t ht hW => ⟨⟨x4, T7, rfl, (Option.some.inj hM).symm, by show va_P D vwCl _ t.heap; rw [ht]; exact hP⟩, hS.F ht⟩) hS.2.2 dX2_append_51
      · replace hM := zx_f q3 hM
        rw [hQ]
        exact zx_thr2 hx hb hlt hown (hts _ zw_4_16) (hts _ zw_4_17) (hXs _ _ (zx_str_50)) hts hXw hU hNN hS (hl.1.trans hml.symm) dX2_append_33 dX2_append_36 dX2_append_37 dX2_append_39 dX2_append_42 hout (Nat.le_of_ble_eq_true rfl) (Nat.le_of_ble_eq_true rfl) (Nat.le_of_ble_eq_true rfl) (Nat.le_of_ble_eq_true rfl) hlocks (fun t hvm hz hk => zx_XC (Option.some.inj hM).symm (by decide) rfl hP hS hz hk) hS.2.2 (Nat.le_of_ble_eq_true rfl) (Nat.le_of_ble_eq_true rfl)
    · replace hM := zx_f q2 hM
      exact j11 S _ _ _ hP hD hS (lv_sub hl [] rfl) hM

/-! ShallowBoxes.clearText()I -/
def f_X2_clearText (N : Nat) (S : zx_B) : Option (Int32 × zx_B) :=
  (zx_n (zx_sb S 18 (zx_st (S 18) 2 (upd (S 18 2) 0 0))) (fun T1 =>
some ((S 18 2 0), T1)))
abbrev rmX2_clearText : Room := { frames := 0, cells := 0, slots := 0, locals := 0 }
abbrev zsX2_clearText : List Cond := .code yX2_clearText cX2_clearText 2 (some .int) :: wsL_law
theorem zyX2_clearText : yX2_clearText.cls ≠ "java/lang/invoke/MethodHandle" ∧ yX2_clearText.cls ≠ "java/lang/invoke/VarHandle" ∧ (parseMethodDescriptor yX2_clearText.desc).map (fun d => d.parameters.length) = some 0 := by decide +kernel
set_option maxHeartbeats 4000000 in
set_option maxRecDepth 100000 in
theorem c_X2_clearText (l : Launch) (D : va_G) (cI cZ cT : ClassId) (h : Nat) (hh : Nat → Nat) (aa : Nat → Nat → Nat) (S : zx_B) (sz : Nat) (N : Nat) {R : Int32 × zx_B} (hM : f_X2_clearText N S = some R) : Met l yX2_clearText zsX2_clearText rmX2_clearText (va_Pc [.ref h] (bS D (zx_ty cI cZ cT) (xW2 cI cT h hh aa S) sz)) (va_Qi (fun r u => R = (r, u)) (fun u t => va_P D vwCl (xW2 cI cT h hh aa u) t.heap) (va_A (xW2 cI cT h hh aa S) sz)) 0 0 (va_A (xW2 cI cT h hh aa S) sz) := by
  refine Met.ofW (cc := cX2_clearText) (maxL := 2) (ret := (some .int)) (by decide) rfl ?_
  intro p e s m args below meth c s₁ B hml hv
  obtain ⟨rfl, hsz, hP, hK, hD0, hN⟩ := hv
  have hx := B.exec
  have hb := B.bytes
  have hr := B.returns
  have hts : ∀ w ∈ wsL_law, w.before _ s = true := fun w hw => atoms_spec (ws := zsX2_clearText) B.pre w (List.mem_cons_of_mem _ hw)
  have hown : s.vm.findClass RX2 = some m.cls := findClass_of_methodNamed B.named
  have hlocks := B.notSynchronized
  subst hsz
  have hD := hD0.self (sz := s.heap.size)
  generalize hAe : va_A (xW2 cI cT h hh aa S) s.heap.size = A at hD ⊢
  have hA : ∀ q : Nat, s.heap.size ≤ q → A q := fun q h => by rw [← hAe]; exact Or.inr h
  have hS : va_S A s.heap s.heap [] := va_S.rf
  have hl := lv_entry ([.ref h]) (n := 2) (Nat.le_of_ble_eq_true rfl)
  rw [lg_entry_eq]
  generalize (lg_sl ([.ref h]) ++ List.replicate (2 - (lg_sl ([.ref h])).length) Slot.unset).toArray = ls at hl ⊢
  have hl : lv_has ls 2 [(0, .ref h)] := hl
  generalize hQ : MQ below (va_Qi (fun r u => R = (r, u)) (fun u t => va_P D vwCl (xW2 cI cT h hh aa u) t.heap) A) ([.ref h] : List Value).toArray s 0 0 A = Q9
  replace hQ := hQ.symm
  unfold f_X2_clearText at hM
  refine lv_aload_n hx hb dX2_clearText_0 rfl (lv_at hl 0 rfl) ?_
  refine va_get (D := D) (ci := 2) (v := .ref (hh 18)) (C := RX2) (T := TX2) (N := 8) hx hb hts inlX2 hown hK hP 0 rfl rfl 7 (by decide) (hts _ zw_2_0) (fun _ h9 => h9) rfl dX2_clearText_1 ?_
  refine va_getN (D := D) (ci := 0) (v := .int (S 18 2 0)) (C := RX0) (T := TX0) (N := 6) (host := RX2) hx hb hts inlX0 hown hK (zx2_Pt hP) 0 rfl rfl 1 (by decide) (va_Nw.use rfl (hN _ zx_nw_X2_44)) (fun _ h9 => h9) rfl dX2_clearText_4 ?_
  refine lv_istore_n (lv' := [(1, .int (S 18 2 0)), (0, .ref h)]) hx hb dX2_clearText_7 rfl hl (by decide) rfl (fun ls hl => ?_)
  refine lv_aload_n hx hb dX2_clearText_8 rfl (lv_at hl 1 rfl) ?_
  refine va_get (D := D) (ci := 2) (v := .ref (hh 18)) (C := RX2) (T := TX2) (N := 8) hx hb hts inlX2 hown hK hP 0 rfl rfl 7 (by decide) (hts _ zw_2_0) (fun _ h9 => h9) rfl dX2_clearText_9 ?_
  refine lv_iconst (v := 0) hx hb dX2_clearText_12 (by decide) ?_
  obtain ⟨T1, eT1, hM⟩ := zx_nE hM
  refine va_putN (D := D) (ci := 0) (v := .int 0) (ty := .int) (C := RX0) (T := TX0) (N := 6) (host := RX2) hx hb hts inlX0 tyX0 tyX0_ok nmX0 hown hK hP hD hS 4 rfl rfl 1 (by decide) (va_Nw.use rfl (hN _ zx_nw_X2_44)) (fun _ h9 => h9) rfl (by decide +kernel) rfl rfl (Nat.le_of_ble_eq_true rfl) dX2_clearText_13 (fun H lc hP _ hS => ?_)
  replace hP : va_P D vwCl (xW2 cI cT h hh aa T1) H := by rw [eT1]; exact xW2_pt1 hP
  replace hD : va_D A (xW2 cI cT h hh aa T1) := zx2_Da T1 hD
  refine lv_iload_n hx hb dX2_clearText_16 rfl (lv_at hl 0 rfl) ?_
  rw [hQ]
  exact W.iret hx hb hr (fun t ht hW => ⟨⟨(S 18 2 0), T1, rfl, (Option.some.inj hM).symm, by show va_P D vwCl _ t.heap; rw [ht]; exact hP⟩, hS.F ht⟩) hS.2.2 dX2_clearText_17

/-! ShallowBoxes.errorPosition()I -/
def f_X2_errorPosition (N : Nat) (S : zx_B) : Option (Int32 × zx_B) :=
  (zx_b2 (f_X0_read N (S 18)) (fun x1 T2 =>
(zx_n (zx_sb S 18 T2) (fun T4 =>
some (x1, T4)))))
abbrev rmX2_errorPosition : Room := { frames := 4, cells := 0, slots := 0, locals := 93 }
abbrev zsX2_errorPosition : List Cond := .code yX2_errorPosition cX2_errorPosition 1 (some .int) :: wsL_law
theorem zyX2_errorPosition : yX2_errorPosition.cls ≠ "java/lang/invoke/MethodHandle" ∧ yX2_errorPosition.cls ≠ "java/lang/invoke/VarHandle" ∧ (parseMethodDescriptor yX2_errorPosition.desc).map (fun d => d.parameters.length) = some 0 := by decide +kernel
set_option maxHeartbeats 4000000 in
set_option maxRecDepth 100000 in
theorem c_X2_errorPosition (l : Launch) (D : va_G) (cI cZ cT : ClassId) (h : Nat) (hh : Nat → Nat) (aa : Nat → Nat → Nat) (S : zx_B) (sz : Nat) (N : Nat) {R : Int32 × zx_B} (hM : f_X2_errorPosition N S = some R) : Met l yX2_errorPosition zsX2_errorPosition rmX2_errorPosition (va_Pc [.ref h] (bS D (zx_ty cI cZ cT) (xW2 cI cT h hh aa S) sz)) (va_Qi (fun r u => R = (r, u)) (fun u t => va_P D vwCl (xW2 cI cT h hh aa u) t.heap) (va_A (xW2 cI cT h hh aa S) sz)) 0 0 (va_A (xW2 cI cT h hh aa S) sz) := by
  refine Met.ofW (cc := cX2_errorPosition) (maxL := 1) (ret := (some .int)) (by decide) rfl ?_
  intro p e s m args below meth c s₁ B hml hv
  obtain ⟨rfl, hsz, hP, hK, hD0, hN⟩ := hv
  have hx := B.exec
  have hb := B.bytes
  have hr := B.returns
  have hts : ∀ w ∈ wsL_law, w.before _ s = true := fun w hw => atoms_spec (ws := zsX2_errorPosition) B.pre w (List.mem_cons_of_mem _ hw)
  have hown : s.vm.findClass RX2 = some m.cls := findClass_of_methodNamed B.named
  have hlocks := B.notSynchronized
  subst hsz
  have hD := hD0.self (sz := s.heap.size)
  generalize hAe : va_A (xW2 cI cT h hh aa S) s.heap.size = A at hD ⊢
  have hA : ∀ q : Nat, s.heap.size ≤ q → A q := fun q h => by rw [← hAe]; exact Or.inr h
  have hS : va_S A s.heap s.heap [] := va_S.rf
  have hl := lv_entry ([.ref h]) (n := 1) (Nat.le_of_ble_eq_true rfl)
  rw [lg_entry_eq]
  generalize (lg_sl ([.ref h]) ++ List.replicate (1 - (lg_sl ([.ref h])).length) Slot.unset).toArray = ls at hl ⊢
  have hl : lv_has ls 1 [(0, .ref h)] := hl
  generalize hQ : MQ below (va_Qi (fun r u => R = (r, u)) (fun u t => va_P D vwCl (xW2 cI cT h hh aa u) t.heap) A) ([.ref h] : List Value).toArray s 0 0 A = Q9
  replace hQ := hQ.symm
  unfold f_X2_errorPosition at hM
  refine lv_aload_n hx hb dX2_errorPosition_0 rfl (lv_at hl 0 rfl) ?_
  refine va_get (D := D) (ci := 2) (v := .ref (hh 18)) (C := RX2) (T := TX2) (N := 8) hx hb hts inlX2 hown hK hP 0 rfl rfl 7 (by decide) (hts _ zw_2_0) (fun _ h9 => h9) rfl dX2_errorPosition_1 ?_
  obtain ⟨x1, T2, hz3, hM⟩ := zx_b2E hM
  refine va_calli (va_runV (As := []) (rest := []) ⟨hx, hb, hml, hown, hts⟩ (c_X0_read l D cI cZ cT (hh 18) (aa 18) (S 18) _ N hz3) (cwV 0 hts (zg_V zw_9_9 zw_9_10 zw_9_11 zw_1_23 zw_9_12) rfl rfl rfl ⟨rfl, zyX0_read⟩ ⟨Nat.le_of_ble_eq_true rfl, Nat.le_of_ble_eq_true rfl⟩) ⟨bS_blind, va_recv hK (zx2_Pt hP) (ci := 0) (q0 := 0) rfl rfl, bS_pre (zx2_Pt hP) hK (zx2_Dt hD) hN⟩ rfl rfl hl.1 rfl (lv_room (Nat.le_of_ble_eq_true rfl)) dX2_errorPosition_4 ⟨Nat.zero_le _, Nat.zero_le _⟩) hS (fun q _ h => zx_fW (zx2_Dt hD) hS hA q h) (fun q h => zx_fW (zx2_Dt hD) hS hA q h) (fun r u t H1 lc ht hvm hw hB hz1 hk1 hS => ?_)
  obtain ⟨hw1, hw2⟩ := Prod.mk.inj hw; subst hw1; subst hw2
  rw [ht] at hB
  replace hP := zx2_St hP hD hk1 hB
  obtain ⟨T4, eT4, hM⟩ := zx_nE hM
  rw [← eT4] at hP
  replace hD := zx2_Da T4 hD
  rw [hQ]
  exact W.iret hx hb hr (fun t ht hW => ⟨⟨x1, T4, rfl, (Option.some.inj hM).symm, by show va_P D vwCl _ t.heap; rw [ht]; exact hP⟩, hS.F ht⟩) hS.2.2 dX2_errorPosition_7

/-! ShallowBoxes.about(I)I -/
def f_X2_about (N : Nat) (p1 : Int32) (S : zx_B) : Option (Int32 × (Nat × zx_B)) :=
  (if p1 = 0 then
  (zx_b1 (f_X1_countRectangles N (S 0)) (fun x2 =>
some (x2, (0, S)))) else
(if p1 = 1 then
  (zx_b2 (f_X1_countNodes N (S 0)) (fun x5 T6 =>
(zx_n (zx_sb S 0 T6) (fun T8 =>
some (x5, (0, T8)))))) else
(if p1 = 2 then
  (zx_b1 (f_X1_levelOf N (S 0 10 0) (S 0)) (fun x10 =>
some (x10, (0, S)))) else
(if p1 = 3 then
  (zx_b2 (f_X1_overlap N (S 0)) (fun x13 T14 =>
(zx_n (zx_sb S 0 T14) (fun T16 =>
some (x13, (0, T16)))))) else
(if p1 = 4 then
  (zx_b2 (f_X1_areaBelowRoot N (S 0)) (fun x18 T19 =>
(zx_n (zx_sb S 0 T19) (fun T21 =>
some (x18, (0, T21)))))) else
(if p1 = 5 then
  some ((S 0 10 1), (0, S)) else
(if p1 = 6 then
  some ((S 0 10 2), (0, S)) else
(if p1 = 7 then
  some ((S 0 10 3), (0, S)) else
some (0, (1, S))))))))))
abbrev rmX2_about : Room := { frames := 6, cells := 1, slots := 6, locals := 96 }
abbrev zsX2_about : List Cond := .code yX2_about cX2_about 2 (some .int) :: wsL_law
theorem zyX2_about : yX2_about.cls ≠ "java/lang/invoke/MethodHandle" ∧ yX2_about.cls ≠ "java/lang/invoke/VarHandle" ∧ (parseMethodDescriptor yX2_about.desc).map (fun d => d.parameters.length) = some 1 := by decide +kernel
set_option maxHeartbeats 4000000 in
set_option maxRecDepth 100000 in
theorem c_X2_about (l : Launch) (D : va_G) (cI cZ cT : ClassId) (hlt : l.stackTraces = false) (h : Nat) (hh : Nat → Nat) (aa : Nat → Nat → Nat) (S : zx_B) (sz : Nat) (N : Nat) (p1 : Int32) {R : Int32 × (Nat × zx_B)} (hM : f_X2_about N p1 S = some R) : vx_Met l yX2_about zsX2_about rmX2_about (va_Pc [.ref h, .int p1] (bX D (zx_ty cI cZ cT) (xW2 cI cT h hh aa S) sz)) (va_Qi (fun r u => R = (r, (0, u))) (fun u t => va_P D vwCl (xW2 cI cT h hh aa u) t.heap) (va_A (xW2 cI cT h hh aa S) sz)) (vx_X (fun u : Nat × zx_B => R = (0, u) ∧ u.1 ≠ 0) (fun E u t => E = zx_E u.1 ∧ va_P D vwCl (xW2 cI cT h hh aa u.2) t.heap) (va_A (xW2 cI cT h hh aa S) sz)) 1 6 (va_A (xW2 cI cT h hh aa S) sz) := by
  refine vx_ofW (cc := cX2_about) (maxL := 2) (ret := (some .int)) (by decide) rfl ?_
  intro p e s m args below meth c s₁ B hml hout hv
  obtain ⟨rfl, ⟨hsz, hP, hK, hD0, hN⟩, hX⟩ := hv
  have hx := B.exec
  have hb := B.bytes
  have hr := B.returns
  have hts : ∀ w ∈ wsL_law, w.before _ s = true := fun w hw => atoms_spec (ws := zsX2_about) B.pre w (List.mem_cons_of_mem _ hw)
  have hown : s.vm.findClass RX2 = some m.cls := findClass_of_methodNamed B.named
  have hlocks := B.notSynchronized
  subst hsz
  have hD := hD0.self (sz := s.heap.size)
  generalize hAe : va_A (xW2 cI cT h hh aa S) s.heap.size = A at hD hX ⊢
  have hU := hX.1
  have hNN := hX.2.1
  have hXw := hX.2.2.1
  have hXs := hX.2.2.2
  have hA : ∀ q : Nat, s.heap.size ≤ q → A q := fun q h => by rw [← hAe]; exact Or.inr h
  have hS : va_S A s.heap s.heap [] := va_S.rf
  have hl := lv_entry ([.ref h, .int p1]) (n := 2) (Nat.le_of_ble_eq_true rfl)
  rw [lg_entry_eq]
  generalize (lg_sl ([.ref h, .int p1]) ++ List.replicate (2 - (lg_sl ([.ref h, .int p1])).length) Slot.unset).toArray = ls at hl ⊢
  have hl : lv_has ls 2 [(0, .ref h), (1, .int p1)] := hl
  generalize hQ : vx_MQ below (va_Qi (fun r u => R = (r, (0, u))) (fun u t => va_P D vwCl (xW2 cI cT h hh aa u) t.heap) A) (vx_X (fun u : Nat × zx_B => R = (0, u) ∧ u.1 ≠ 0) (fun E u t => E = zx_E u.1 ∧ va_P D vwCl (xW2 cI cT h hh aa u.2) t.heap) A) ([.ref h, .int p1] : List Value).toArray s 1 6 A = Q9
  replace hQ := hQ.symm
  unfold f_X2_about at hM
  refine lv_iload_n hx hb dX2_about_0 rfl (lv_at hl 1 rfl) ?_
  by_cases q1 : p1 = 0
  · replace hM := zx_t q1 hM
    refine lv_tableIn (tgt := 48) hx hb dX2_about_1 (by rw [q1]; decide) (by rw [q1]; decide) (by rw [q1]; rfl) (by decide) ?_
    refine lv_aload_n hx hb dX2_about_48 rfl (lv_at hl 0 rfl) ?_
    refine va_get (D := D) (ci := 2) (v := .ref (hh 0)) (C := RX2) (T := TX2) (N := 8) hx hb hts inlX2 hown hK hP 0 rfl rfl 0 (by decide) (hts _ zw_1_15) (fun _ h9 => h9) rfl dX2_about_49 ?_
    obtain ⟨x2, hz3, hM⟩ := zx_b1E hM
    refine va_calli (va_runV (As := []) (rest := []) ⟨hx, hb, hml, hown, hts⟩ (c_X1_countRectangles l D cI cZ cT (hh 0) (aa 0) (S 0) _ N hz3) (cwV 0 hts (zg_V zw_5_6 zw_5_7 zw_5_8 zw_1_14 zw_5_9) rfl rfl rfl ⟨rfl, zyX1_countRectangles⟩ ⟨Nat.le_of_ble_eq_true rfl, Nat.le_of_ble_eq_true rfl⟩) ⟨bS_blind, va_recv hK (zx2_P (show 0 < 18 by decide) hP) (ci := 1) (q0 := 0) rfl rfl, bS_pre (zx2_P (show 0 < 18 by decide) hP) hK (zx2_D (show 0 < 18 by decide) hD) hN⟩ rfl rfl hl.1 rfl (lv_room (Nat.le_of_ble_eq_true rfl)) dX2_about_52 ⟨Nat.zero_le _, Nat.zero_le _⟩) hS (fun q h1 h2 => absurd h1 (Nat.not_lt.mpr h2)) (fun q h => hA q (Nat.le_trans hS.1 h)) (fun r u t H1 lc ht hvm hw hB hz1 hk1 hS => ?_)
    replace hw : x2 = r := hw; subst hw
    replace hP := zx_keep hP hk1
    rw [hQ]
    refine vx_ret ?_
    refine W.widen (k := 1) (n := 6) (Nat.le_of_ble_eq_true rfl) (Nat.le_of_ble_eq_true rfl) ?_
    exact W.iret hx hb hr (fun t ht hW => ⟨⟨x2, S, rfl, (Option.some.inj hM).symm, by show va_P D vwCl _ t.heap; rw [ht]; exact hP⟩, hS.F ht⟩) hS.2.2 dX2_about_55
  · replace hM := zx_f q1 hM
    by_cases q4 : p1 = 1
    · replace hM := zx_t q4 hM
      refine lv_tableIn (tgt := 56) hx hb dX2_about_1 (by rw [q4]; decide) (by rw [q4]; decide) (by rw [q4]; rfl) (by decide) ?_
      refine lv_aload_n hx hb dX2_about_56 rfl (lv_at hl 0 rfl) ?_
      refine va_get (D := D) (ci := 2) (v := .ref (hh 0)) (C := RX2) (T := TX2) (N := 8) hx hb hts inlX2 hown hK hP 0 rfl rfl 0 (by decide) (hts _ zw_1_15) (fun _ h9 => h9) rfl dX2_about_57 ?_
      obtain ⟨x5, T6, hz7, hM⟩ := zx_b2E hM
      refine va_calli (va_runV (As := []) (rest := []) ⟨hx, hb, hml, hown, hts⟩ (c_X1_countNodes l D cI cZ cT (hh 0) (aa 0) (S 0) _ N hz7) (cwV 0 hts (zg_V zw_5_10 zw_5_11 zw_5_12 zw_1_14 zw_5_13) rfl rfl rfl ⟨rfl, zyX1_countNodes⟩ ⟨Nat.le_of_ble_eq_true rfl, Nat.le_of_ble_eq_true rfl⟩) ⟨bS_blind, va_recv hK (zx2_P (show 0 < 18 by decide) hP) (ci := 1) (q0 := 0) rfl rfl, bS_pre (zx2_P (show 0 < 18 by decide) hP) hK (zx2_D (show 0 < 18 by decide) hD) hN⟩ rfl rfl hl.1 rfl (lv_room (Nat.le_of_ble_eq_true rfl)) dX2_about_60 ⟨Nat.zero_le _, Nat.zero_le _⟩) hS (fun q _ h => zx_fW (zx2_D (show 0 < 18 by decide) hD) hS hA q h) (fun q h => zx_fW (zx2_D (show 0 < 18 by decide) hD) hS hA q h) (fun r u t H1 lc ht hvm hw hB hz1 hk1 hS => ?_)
      obtain ⟨hw1, hw2⟩ := Prod.mk.inj hw; subst hw1; subst hw2
      rw [ht] at hB
      replace hP := zx2_S (show 0 < 18 by decide) hP hD hk1 hB
      obtain ⟨T8, eT8, hM⟩ := zx_nE hM
      rw [← eT8] at hP
      replace hD := zx2_Da T8 hD
      rw [hQ]
      refine vx_ret ?_
      refine W.widen (k := 1) (n := 6) (Nat.le_of_ble_eq_true rfl) (Nat.le_of_ble_eq_true rfl) ?_
      exact W.iret hx hb hr (fun t ht hW => ⟨⟨x5, T8, rfl, (Option.some.inj hM).symm, by show va_P D vwCl _ t.heap; rw [ht]; exact hP⟩, hS.F ht⟩) hS.2.2 dX2_about_63
    · replace hM := zx_f q4 hM
      by_cases q9 : p1 = 2
      · replace hM := zx_t q9 hM
        refine lv_tableIn (tgt := 64) hx hb dX2_about_1 (by rw [q9]; decide) (by rw [q9]; decide) (by rw [q9]; rfl) (by decide) ?_
        refine lv_aload_n hx hb dX2_about_64 rfl (lv_at hl 0 rfl) ?_
        refine va_get (D := D) (ci := 2) (v := .ref (hh 0)) (C := RX2) (T := TX2) (N := 8) hx hb hts inlX2 hown hK hP 0 rfl rfl 0 (by decide) (hts _ zw_1_15) (fun _ h9 => h9) rfl dX2_about_65 ?_
        refine lv_aload_n hx hb dX2_about_68 rfl (lv_at hl 0 rfl) ?_
        refine va_get (D := D) (ci := 2) (v := .ref (hh 0)) (C := RX2) (T := TX2) (N := 8) hx hb hts inlX2 hown hK hP 0 rfl rfl 0 (by decide) (hts _ zw_1_15) (fun _ h9 => h9) rfl dX2_about_69 ?_
        refine va_getN (D := D) (ci := 1) (v := .int (S 0 10 0)) (C := RX1) (T := TX1) (N := 14) (host := RX2) hx hb hts inlX1 hown hK (zx2_P (show 0 < 18 by decide) hP) 0 rfl rfl 5 (by decide) (va_Nw.use rfl (hN _ zx_nw_X2_67)) (fun _ h9 => h9) rfl dX2_about_72 ?_
        obtain ⟨x10, hz11, hM⟩ := zx_b1E hM
        refine va_calli (va_runV (As := [.int (S 0 10 0)]) (rest := []) ⟨hx, hb, hml, hown, hts⟩ (c_X1_levelOf l D cI cZ cT (hh 0) (aa 0) (S 0) _ N (S 0 10 0) hz11) (cwV 1 hts (zg_V zw_5_14 zw_5_15 zw_5_16 zw_1_14 zw_5_17) rfl rfl rfl ⟨rfl, zyX1_levelOf⟩ ⟨Nat.le_of_ble_eq_true rfl, Nat.le_of_ble_eq_true rfl⟩) ⟨bS_blind, va_recv hK (zx2_P (show 0 < 18 by decide) hP) (ci := 1) (q0 := 0) rfl rfl, bS_pre (zx2_P (show 0 < 18 by decide) hP) hK (zx2_D (show 0 < 18 by decide) hD) hN⟩ rfl rfl hl.1 rfl (lv_room (Nat.le_of_ble_eq_true rfl)) dX2_about_75 ⟨Nat.zero_le _, Nat.zero_le _⟩) hS (fun q h1 h2 => absurd h1 (Nat.not_lt.mpr h2)) (fun q h => hA q (Nat.le_trans hS.1 h)) (fun r u t H1 lc ht hvm hw hB hz1 hk1 hS => ?_)
        replace hw : x10 = r := hw; subst hw
        replace hP := zx_keep hP hk1
        rw [hQ]
        refine vx_ret ?_
        refine W.widen (k := 1) (n := 6) (Nat.le_of_ble_eq_true rfl) (Nat.le_of_ble_eq_true rfl) ?_
        exact W.iret hx hb hr (fun t ht hW => ⟨⟨x10, S, rfl, (Option.some.inj hM).symm, by show va_P D vwCl _ t.heap; rw [ht]; exact hP⟩, hS.F ht⟩) hS.2.2 dX2_about_78
      · replace hM := zx_f q9 hM
        by_cases q12 : p1 = 3
        · replace hM := zx_t q12 hM
          refine lv_tableIn (tgt := 79) hx hb dX2_about_1 (by rw [q12]; decide) (by rw [q12]; decide) (by rw [q12]; rfl) (by decide) ?_
          refine lv_aload_n hx hb dX2_about_79 rfl (lv_at hl 0 rfl) ?_
          refine va_get (D := D) (ci := 2) (v := .ref (hh 0)) (C := RX2) (T := TX2) (N := 8) hx hb hts inlX2 hown hK hP 0 rfl rfl 0 (by decide) (hts _ zw_1_15) (fun _ h9 => h9) rfl dX2_about_80 ?_
          obtain ⟨x13, T14, hz15, hM⟩ := zx_b2E hM
          refine va_calli (va_runV (As := []) (rest := []) ⟨hx, hb, hml, hown, hts⟩ (c_X1_overlap l D cI cZ cT (hh 0) (aa 0) (S 0) _ N hz15) (cwV 0 hts (zg_V zw_5_18 zw_5_19 zw_5_20 zw_1_14 zw_5_21) rfl rfl rfl ⟨rfl, zyX1_overlap⟩ ⟨Nat.le_of_ble_eq_true rfl, Nat.le_of_ble_eq_true rfl⟩) ⟨bS_blind, va_recv hK (zx2_P (show 0 < 18 by decide) hP) (ci := 1) (q0 := 0) rfl rfl, bS_pre (zx2_P (show 0 < 18 by decide) hP) hK (zx2_D (show 0 < 18 by decide) hD) hN⟩ rfl rfl hl.1 rfl (lv_room (Nat.le_of_ble_eq_true rfl)) dX2_about_83 ⟨Nat.zero_le _, Nat.zero_le _⟩) hS (fun q _ h => zx_fW (zx2_D (show 0 < 18 by decide) hD) hS hA q h) (fun q h => zx_fW (zx2_D (show 0 < 18 by decide) hD) hS hA q h) (fun r u t H1 lc ht hvm hw hB hz1 hk1 hS => ?_)
          obtain ⟨hw1, hw2⟩ := Prod.mk.inj hw; subst hw1; subst hw2
          rw [ht] at hB
          replace hP := zx2_S (show 0 < 18 by decide) hP hD hk1 hB
          obtain ⟨T16, eT16, hM⟩ := zx_nE hM
          rw [← eT16] at hP
          replace hD := zx2_Da T16 hD
          rw [hQ]
          refine vx_ret ?_
          refine W.widen (k := 1) (n := 6) (Nat.le_of_ble_eq_true rfl) (Nat.le_of_ble_eq_true rfl) ?_
          exact W.iret hx hb hr (fun t ht hW => ⟨⟨x13, T16, rfl, (Option.some.inj hM).symm, by show va_P D vwCl _ t.heap; rw [ht]; exact hP⟩, hS.F ht⟩) hS.2.2 dX2_about_86
        · replace hM := zx_f q12 hM
          by_cases q17 : p1 = 4
          · replace hM := zx_t q17 hM
            refine lv_tableIn (tgt := 87) hx hb dX2_about_1 (by rw [q17]; decide) (by rw [q17]; decide) (by rw [q17]; rfl) (by decide) ?_
            refine lv_aload_n hx hb dX2_about_87 rfl (lv_at hl 0 rfl) ?_
            refine va_get (D := D) (ci := 2) (v := .ref (hh 0)) (C := RX2) (T := TX2) (N := 8) hx hb hts inlX2 hown hK hP 0 rfl rfl 0 (by decide) (hts _ zw_1_15) (fun _ h9 => h9) rfl dX2_about_88 ?_
            obtain ⟨x18, T19, hz20, hM⟩ := zx_b2E hM
            refine va_calli (va_runV (As := []) (rest := []) ⟨hx, hb, hml, hown, hts⟩ (c_X1_areaBelowRoot l D cI cZ cT (hh 0) (aa 0) (S 0) _ N hz20) (cwV 0 hts (zg_V zw_6_14 zw_6_15 zw_6_16 zw_1_14 zw_6_17) rfl rfl rfl ⟨rfl, zyX1_areaBelowRoot⟩ ⟨Nat.le_of_ble_eq_true rfl, Nat.le_of_ble_eq_true rfl⟩) ⟨bS_blind, va_recv hK (zx2_P (show 0 < 18 by decide) hP) (ci := 1) (q0 := 0) rfl rfl, bS_pre (zx2_P (show 0 < 18 by decide) hP) hK (zx2_D (show 0 < 18 by decide) hD) hN⟩ rfl rfl hl.1 rfl (lv_room (Nat.le_of_ble_eq_true rfl)) dX2_about_91 ⟨Nat.zero_le _, Nat.zero_le _⟩) hS (fun q _ h => zx_fW (zx2_D (show 0 < 18 by decide) hD) hS hA q h) (fun q h => zx_fW (zx2_D (show 0 < 18 by decide) hD) hS hA q h) (fun r u t H1 lc ht hvm hw hB hz1 hk1 hS => ?_)
            obtain ⟨hw1, hw2⟩ := Prod.mk.inj hw; subst hw1; subst hw2
            rw [ht] at hB
            replace hP := zx2_S (show 0 < 18 by decide) hP hD hk1 hB
            obtain ⟨T21, eT21, hM⟩ := zx_nE hM
            rw [← eT21] at hP
            replace hD := zx2_Da T21 hD
            rw [hQ]
            refine vx_ret ?_
            refine W.widen (k := 1) (n := 6) (Nat.le_of_ble_eq_true rfl) (Nat.le_of_ble_eq_true rfl) ?_
            exact W.iret hx hb hr (fun t ht hW => ⟨⟨x18, T21, rfl, (Option.some.inj hM).symm, by show va_P D vwCl _ t.heap; rw [ht]; exact hP⟩, hS.F ht⟩) hS.2.2 dX2_about_94
          · replace hM := zx_f q17 hM
            by_cases q22 : p1 = 5
            · replace hM := zx_t q22 hM
              refine lv_tableIn (tgt := 95) hx hb dX2_about_1 (by rw [q22]; decide) (by rw [q22]; decide) (by rw [q22]; rfl) (by decide) ?_
              refine lv_aload_n hx hb dX2_about_95 rfl (lv_at hl 0 rfl) ?_
              refine va_get (D := D) (ci := 2) (v := .ref (hh 0)) (C := RX2) (T := TX2) (N := 8) hx hb hts inlX2 hown hK hP 0 rfl rfl 0 (by decide) (hts _ zw_1_15) (fun _ h9 => h9) rfl dX2_about_96 ?_
              refine va_getN (D := D) (ci := 1) (v := .int (S 0 10 1)) (C := RX1) (T := TX1) (N := 14) (host := RX2) hx hb hts inlX1 hown hK (zx2_P (show 0 < 18 by decide) hP) 0 rfl rfl 6 (by decide) (va_Nw.use rfl (hN _ zx_nw_X2_79)) (fun _ h9 => h9) rfl dX2_about_99 ?_
              rw [hQ]
              refine vx_ret ?_
              refine W.widen (k := 1) (n := 6) (Nat.le_of_ble_eq_true rfl) (Nat.le_of_ble_eq_true rfl) ?_
              exact W.iret hx hb hr (fun t ht hW => ⟨⟨(S 0 10 1), S, rfl, (Option.some.inj hM).symm, by show va_P D vwCl _ t.heap; rw [ht]; exact hP⟩, hS.F ht⟩) hS.2.2 dX2_about_102
            · replace hM := zx_f q22 hM
              by_cases q23 : p1 = 6
              · replace hM := zx_t q23 hM
                refine lv_tableIn (tgt := 103) hx hb dX2_about_1 (by rw [q23]; decide) (by rw [q23]; decide) (by rw [q23]; rfl) (by decide) ?_
                refine lv_aload_n hx hb dX2_about_103 rfl (lv_at hl 0 rfl) ?_
                refine va_get (D := D) (ci := 2) (v := .ref (hh 0)) (C := RX2) (T := TX2) (N := 8) hx hb hts inlX2 hown hK hP 0 rfl rfl 0 (by decide) (hts _ zw_1_15) (fun _ h9 => h9) rfl dX2_about_104 ?_
                refine va_getN (D := D) (ci := 1) (v := .int (S 0 10 2)) (C := RX1) (T := TX1) (N := 14) (host := RX2) hx hb hts inlX1 hown hK (zx2_P (show 0 < 18 by decide) hP) 0 rfl rfl 7 (by decide) (va_Nw.use rfl (hN _ zx_nw_X2_82)) (fun _ h9 => h9) rfl dX2_about_107 ?_
                rw [hQ]
                refine vx_ret ?_
                refine W.widen (k := 1) (n := 6) (Nat.le_of_ble_eq_true rfl) (Nat.le_of_ble_eq_true rfl) ?_
                exact W.iret hx hb hr (fun t ht hW => ⟨⟨(S 0 10 2), S, rfl, (Option.some.inj hM).symm, by show va_P D vwCl _ t.heap; rw [ht]; exact hP⟩, hS.F ht⟩) hS.2.2 dX2_about_110
              · replace hM := zx_f q23 hM
                by_cases q24 : p1 = 7
                · replace hM := zx_t q24 hM
                  refine lv_tableIn (tgt := 111) hx hb dX2_about_1 (by rw [q24]; decide) (by rw [q24]; decide) (by rw [q24]; rfl) (by decide) ?_
                  refine lv_aload_n hx hb dX2_about_111 rfl (lv_at hl 0 rfl) ?_
                  refine va_get (D := D) (ci := 2) (v := .ref (hh 0)) (C := RX2) (T := TX2) (N := 8) hx hb hts inlX2 hown hK hP 0 rfl rfl 0 (by decide) (hts _ zw_1_15) (fun _ h9 => h9) rfl dX2_about_112 ?_
                  refine va_getN (D := D) (ci := 1) (v := .int (S 0 10 3)) (C := RX1) (T := TX1) (N := 14) (host := RX2) hx hb hts inlX1 hown hK (zx2_P (show 0 < 18 by decide) hP) 0 rfl rfl 8 (by decide) (va_Nw.use rfl (hN _ zx_nw_X2_85)) (fun _ h9 => h9) rfl dX2_about_115 ?_
                  rw [hQ]
                  refine vx_ret ?_
                  refine W.widen (k := 1) (n := 6) (Nat.le_of_ble_eq_true rfl) (Nat.le_of_ble_eq_true rfl) ?_
                  exact W.iret hx hb hr (fun t ht hW => ⟨⟨(S 0 10 3), S, rfl, (Option.some.inj hM).symm, by show va_P D vwCl _ t.heap; rw [ht]; exact hP⟩, hS.F ht⟩) hS.2.2 dX2_about_118
                · replace hM := zx_f q24 hM
                  refine lv_tableOut (tgt := 119) hx hb dX2_about_1 (zx_sw (lo := 0) (hi := 7) (by decide) (by decide) (fun k h1 h2 => by rcases (show k = 0 ∨ k = 1 ∨ k = 2 ∨ k = 3 ∨ k = 4 ∨ k = 5 ∨ k = 6 ∨ k = 7 by omega) with rfl | rfl | rfl | rfl | rfl | rfl | rfl | rfl <;> assumption)) (by decide) ?_
                  rw [hQ]
                  exact zx_thr1 hx hb hlt hown (hts _ zw_4_14) (hts _ zw_4_15) (hXs _ _ (zx_str_88)) hts hXw hU hNN hS (hl.1.trans hml.symm) dX2_about_119 dX2_about_122 dX2_about_123 dX2_about_125 dX2_about_128 hout (Nat.le_of_ble_eq_true rfl) (Nat.le_of_ble_eq_true rfl) (Nat.le_of_ble_eq_true rfl) (Nat.le_of_ble_eq_true rfl) hlocks (fun t hvm hz hk => zx_XC (Option.some.inj hM).symm (by decide) rfl hP hS hz hk) hS.2.2 (Nat.le_of_ble_eq_true rfl) (Nat.le_of_ble_eq_true rfl)

/-! ShallowBoxes.rectangle(II)I -/
def f_X2_rectangle_j30 (N : Nat) (S_ : zx_B) : Option (Int32 × (Nat × zx_B)) :=
  some (0, (1, S_))
def f_X2_rectangle (N : Nat) (p1 : Int32) (p2 : Int32) (S : zx_B) : Option (Int32 × (Nat × zx_B)) :=
  (zx_b1 (f_X1_hasRectangle N p1 (S 0)) (fun x1 =>
(if x1 = 0 then
  some (0, (3, S)) else
  (if p2 < 0 then
  f_X2_rectangle_j30 N  S else
  (if p2 ≤ 4 then
  (if p2 = 4 then
  (zx_b1 (f_X1_nodeAbove N p1 (S 0)) (fun x9 =>
(zx_b2 (f_X1_numberOf N x9 (S 0)) (fun x11 T12 =>
(zx_n (zx_sb S 0 T12) (fun T14 =>
some (x11, (0, T14)))))))) else
  (zx_b1 (f_X1_corner N p1 p2 (S 0)) (fun x7 =>
some (x7, (0, S))))) else
  f_X2_rectangle_j30 N  S)))))
abbrev rmX2_rectangle : Room := { frames := 6, cells := 1, slots := 6, locals := 82 }
abbrev zsX2_rectangle : List Cond := .code yX2_rectangle cX2_rectangle 3 (some .int) :: wsL_law
theorem zyX2_rectangle : yX2_rectangle.cls ≠ "java/lang/invoke/MethodHandle" ∧ yX2_rectangle.cls ≠ "java/lang/invoke/VarHandle" ∧ (parseMethodDescriptor yX2_rectangle.desc).map (fun d => d.parameters.length) = some 2 := by decide +kernel
set_option maxHeartbeats 4000000 in
set_option maxRecDepth 100000 in
theorem c_X2_rectangle (l : Launch) (D : va_G) (cI cZ cT : ClassId) (hlt : l.stackTraces = false) (h : Nat) (hh : Nat → Nat) (aa : Nat → Nat → Nat) (S : zx_B) (sz : Nat) (N : Nat) (p1 : Int32) (p2 : Int32) {R : Int32 × (Nat × zx_B)} (hM : f_X2_rectangle N p1 p2 S = some R) : vx_Met l yX2_rectangle zsX2_rectangle rmX2_rectangle (va_Pc [.ref h, .int p1, .int p2] (bX D (zx_ty cI cZ cT) (xW2 cI cT h hh aa S) sz)) (va_Qi (fun r u => R = (r, (0, u))) (fun u t => va_P D vwCl (xW2 cI cT h hh aa u) t.heap) (va_A (xW2 cI cT h hh aa S) sz)) (vx_X (fun u : Nat × zx_B => R = (0, u) ∧ u.1 ≠ 0) (fun E u t => E = zx_E u.1 ∧ va_P D vwCl (xW2 cI cT h hh aa u.2) t.heap) (va_A (xW2 cI cT h hh aa S) sz)) 1 6 (va_A (xW2 cI cT h hh aa S) sz) := by
  refine vx_ofW (cc := cX2_rectangle) (maxL := 3) (ret := (some .int)) (by decide) rfl ?_
  intro p e s m args below meth c s₁ B hml hout hv
  obtain ⟨rfl, ⟨hsz, hP, hK, hD0, hN⟩, hX⟩ := hv
  have hx := B.exec
  have hb := B.bytes
  have hr := B.returns
  have hts : ∀ w ∈ wsL_law, w.before _ s = true := fun w hw => atoms_spec (ws := zsX2_rectangle) B.pre w (List.mem_cons_of_mem _ hw)
  have hown : s.vm.findClass RX2 = some m.cls := findClass_of_methodNamed B.named
  have hlocks := B.notSynchronized
  subst hsz
  have hD := hD0.self (sz := s.heap.size)
  generalize hAe : va_A (xW2 cI cT h hh aa S) s.heap.size = A at hD hX ⊢
  have hU := hX.1
  have hNN := hX.2.1
  have hXw := hX.2.2.1
  have hXs := hX.2.2.2
  have hA : ∀ q : Nat, s.heap.size ≤ q → A q := fun q h => by rw [← hAe]; exact Or.inr h
  have hS : va_S A s.heap s.heap [] := va_S.rf
  have hl := lv_entry ([.ref h, .int p1, .int p2]) (n := 3) (Nat.le_of_ble_eq_true rfl)
  rw [lg_entry_eq]
  generalize (lg_sl ([.ref h, .int p1, .int p2]) ++ List.replicate (3 - (lg_sl ([.ref h, .int p1, .int p2])).length) Slot.unset).toArray = ls at hl ⊢
  have hl : lv_has ls 3 [(0, .ref h), (1, .int p1), (2, .int p2)] := hl
  generalize hQ : vx_MQ below (va_Qi (fun r u => R = (r, (0, u))) (fun u t => va_P D vwCl (xW2 cI cT h hh aa u) t.heap) A) (vx_X (fun u : Nat × zx_B => R = (0, u) ∧ u.1 ≠ 0) (fun E u t => E = zx_E u.1 ∧ va_P D vwCl (xW2 cI cT h hh aa u.2) t.heap) A) ([.ref h, .int p1, .int p2] : List Value).toArray s 1 6 A = Q9
  replace hQ := hQ.symm
  unfold f_X2_rectangle at hM
  refine lv_aload_n hx hb dX2_rectangle_0 rfl (lv_at hl 0 rfl) ?_
  refine va_get (D := D) (ci := 2) (v := .ref (hh 0)) (C := RX2) (T := TX2) (N := 8) hx hb hts inlX2 hown hK hP 0 rfl rfl 0 (by decide) (hts _ zw_1_15) (fun _ h9 => h9) rfl dX2_rectangle_1 ?_
  refine lv_iload_n hx hb dX2_rectangle_4 rfl (lv_at hl 1 rfl) ?_
  obtain ⟨x1, hz2, hM⟩ := zx_b1E hM
  refine va_calli (va_runV (As := [.int p1]) (rest := []) ⟨hx, hb, hml, hown, hts⟩ (c_X1_hasRectangle l D cI cZ cT (hh 0) (aa 0) (S 0) _ N p1 hz2) (cwV 1 hts (zg_V zw_7_8 zw_7_9 zw_7_10 zw_1_14 zw_7_11) rfl rfl rfl ⟨rfl, zyX1_hasRectangle⟩ ⟨Nat.le_of_ble_eq_true rfl, Nat.le_of_ble_eq_true rfl⟩) ⟨bS_blind, va_recv hK (zx2_P (show 0 < 18 by decide) hP) (ci := 1) (q0 := 0) rfl rfl, bS_pre (zx2_P (show 0 < 18 by decide) hP) hK (zx2_D (show 0 < 18 by decide) hD) hN⟩ rfl rfl hl.1 rfl (lv_room (Nat.le_of_ble_eq_true rfl)) dX2_rectangle_5 ⟨Nat.zero_le _, Nat.zero_le _⟩) hS (fun q h1 h2 => absurd h1 (Nat.not_lt.mpr h2)) (fun q h => hA q (Nat.le_trans hS.1 h)) (fun r u t H1 lc ht hvm hw hB hz1 hk1 hS => ?_)
  replace hw : x1 = r := hw; subst hw
  replace hP := zx_keep hP hk1
  refine lv_if_ne (tgt := 21) hx hb dX2_rectangle_8 (by decide) (fun q3 => ?_) (fun q3 => ?_)
  · replace hM := zx_f q3 hM
    have j30 : ∀ (S_ : zx_B) (H : Heap) (lc : List Loc) (ls : Array Slot), va_P D vwCl (xW2 cI cT h hh aa S_) H → va_D A (xW2 cI cT h hh aa S_) → va_S A s.heap H lc → lv_has ls 3 [] → f_X2_rectangle_j30 N S_ = some R → W p l e (headSpec zsX2_rectangle rmX2_rectangle).room s m ([.ref h, .int p1, .int p2] : List Value).toArray below meth c H lc 0 0 Q9 (F0 m 30 ls []) := by
      intro S_ H lc ls hP hD hS hl hM
      unfold f_X2_rectangle_j30 at hM
      rw [hQ]
      exact zx_thr1 hx hb hlt hown (hts _ zw_4_14) (hts _ zw_4_15) (hXs _ _ (zx_str_99)) hts hXw hU hNN hS (hl.1.trans hml.symm) dX2_rectangle_30 dX2_rectangle_33 dX2_rectangle_34 dX2_rectangle_36 dX2_rectangle_39 hout (Nat.le_of_ble_eq_true rfl) (Nat.le_of_ble_eq_true rfl) (Nat.le_of_ble_eq_true rfl) (Nat.le_of_ble_eq_true rfl) hlocks (fun t hvm hz hk => zx_XC (Option.some.inj hM).symm (by decide) rfl hP hS hz hk) hS.2.2 (Nat.le_of_ble_eq_true rfl) (Nat.le_of_ble_eq_true rfl)
    refine lv_iload_n hx hb dX2_rectangle_21 rfl (lv_at hl 2 rfl) ?_
    refine lv_if_lt (tgt := 30) hx hb dX2_rectangle_22 (by decide) (fun q4 => ?_) (fun q4 => ?_)
    · replace hM := zx_t q4 hM
      exact j30 S _ _ _ hP hD hS (lv_sub hl [] rfl) hM
    · replace hM := zx_f q4 hM
      refine lv_iload_n hx hb dX2_rectangle_25 rfl (lv_at hl 2 rfl) ?_
      refine lv_iconst (v := 4) hx hb dX2_rectangle_26 (by decide) ?_
      refine lv_icmp_le (tgt := 40) hx hb dX2_rectangle_27 (by decide) (fun q5 => ?_) (fun q5 => ?_)
      · replace hM := zx_t q5 hM
        refine lv_iload_n hx hb dX2_rectangle_40 rfl (lv_at hl 2 rfl) ?_
        refine lv_iconst (v := 4) hx hb dX2_rectangle_41 (by decide) ?_
        refine lv_icmp_ne (tgt := 63) hx hb dX2_rectangle_42 (by decide) (fun q6 => ?_) (fun q6 => ?_)
        · replace hM := zx_f q6 hM
          refine lv_aload_n hx hb dX2_rectangle_63 rfl (lv_at hl 0 rfl) ?_
          refine va_get (D := D) (ci := 2) (v := .ref (hh 0)) (C := RX2) (T := TX2) (N := 8) hx hb hts inlX2 hown hK hP 0 rfl rfl 0 (by decide) (hts _ zw_1_15) (fun _ h9 => h9) rfl dX2_rectangle_64 ?_
          refine lv_iload_n hx hb dX2_rectangle_67 rfl (lv_at hl 1 rfl) ?_
          refine lv_iload_n hx hb dX2_rectangle_68 rfl (lv_at hl 2 rfl) ?_
          obtain ⟨x7, hz8, hM⟩ := zx_b1E hM
          refine va_calli (va_runV (As := [.int p1, .int p2]) (rest := []) ⟨hx, hb, hml, hown, hts⟩ (c_X1_corner l D cI cZ cT (hh 0) (aa 0) (S 0) _ N p1 p2 hz8) (cwV 2 hts (zg_V zw_7_20 zw_7_21 zw_7_22 zw_1_14 zw_7_23) rfl rfl rfl ⟨rfl, zyX1_corner⟩ ⟨Nat.le_of_ble_eq_true rfl, Nat.le_of_ble_eq_true rfl⟩) ⟨bS_blind, va_recv hK (zx2_P (show 0 < 18 by decide) hP) (ci := 1) (q0 := 0) rfl rfl, bS_pre (zx2_P (show 0 < 18 by decide) hP) hK (zx2_D (show 0 < 18 by decide) hD) hN⟩ rfl rfl hl.1 rfl (lv_room (Nat.le_of_ble_eq_true rfl)) dX2_rectangle_69 ⟨Nat.zero_le _, Nat.zero_le _⟩) hS (fun q h1 h2 => absurd h1 (Nat.not_lt.mpr h2)) (fun q h => hA q (Nat.le_trans hS.1 h)) (fun r u t H1 lc ht hvm hw hB hz1 hk1 hS => ?_)
          replace hw : x7 = r := hw; subst hw
          replace hP := zx_keep hP hk1
          rw [hQ]
          refine vx_ret ?_
          refine W.widen (k := 1) (n := 6) (Nat.le_of_ble_eq_true rfl) (Nat.le_of_ble_eq_true rfl) ?_
          exact W.iret hx hb hr (fun t ht hW => ⟨⟨x7, S, rfl, (Option.some.inj hM).symm, by show va_P D vwCl _ t.heap; rw [ht]; exact hP⟩, hS.F ht⟩) hS.2.2 dX2_rectangle_72
        · replace hM := zx_t q6 hM
          refine lv_aload_n hx hb dX2_rectangle_45 rfl (lv_at hl 0 rfl) ?_
          refine va_get (D := D) (ci := 2) (v := .ref (hh 0)) (C := RX2) (T := TX2) (N := 8) hx hb hts inlX2 hown hK hP 0 rfl rfl 0 (by decide) (hts _ zw_1_15) (fun _ h9 => h9) rfl dX2_rectangle_46 ?_
          refine lv_aload_n hx hb dX2_rectangle_49 rfl (lv_at hl 0 rfl) ?_
          refine va_get (D := D) (ci := 2) (v := .ref (hh 0)) (C := RX2) (T := TX2) (N := 8) hx hb hts inlX2 hown hK hP 0 rfl rfl 0 (by decide) (hts _ zw_1_15) (fun _ h9 => h9) rfl dX2_rectangle_50 ?_
          refine lv_iload_n hx hb dX2_rectangle_53 rfl (lv_at hl 1 rfl) ?_
          obtain ⟨x9, hz10, hM⟩ := zx_b1E hM
          refine va_calli (va_runV (As := [.int p1]) (rest := [.ref (hh 0)]) ⟨hx, hb, hml, hown, hts⟩ (c_X1_nodeAbove l D cI cZ cT (hh 0) (aa 0) (S 0) _ N p1 hz10) (cwV 1 hts (zg_V zw_7_12 zw_7_13 zw_7_14 zw_1_14 zw_7_15) rfl rfl rfl ⟨rfl, zyX1_nodeAbove⟩ ⟨Nat.le_of_ble_eq_true rfl, Nat.le_of_ble_eq_true rfl⟩) ⟨bS_blind, va_recv hK (zx2_P (show 0 < 18 by decide) hP) (ci := 1) (q0 := 0) rfl rfl, bS_pre (zx2_P (show 0 < 18 by decide) hP) hK (zx2_D (show 0 < 18 by decide) hD) hN⟩ rfl rfl hl.1 rfl (lv_room (Nat.le_of_ble_eq_true rfl)) dX2_rectangle_54 ⟨Nat.zero_le _, Nat.zero_le _⟩) hS (fun q h1 h2 => absurd h1 (Nat.not_lt.mpr h2)) (fun q h => hA q (Nat.le_trans hS.1 h)) (fun r u t H1 lc ht hvm hw hB hz1 hk1 hS => ?_)
          replace hw : x9 = r := hw; subst hw
          replace hP := zx_keep hP hk1
          obtain ⟨x11, T12, hz13, hM⟩ := zx_b2E hM
          refine va_calli (va_runV (As := [.int x9]) (rest := []) ⟨hx, hb, hml, hown, hts⟩ (c_X1_numberOf l D cI cZ cT (hh 0) (aa 0) (S 0) _ N x9 hz13) (cwV 1 hts (zg_V zw_7_16 zw_7_17 zw_7_18 zw_1_14 zw_7_19) rfl rfl rfl ⟨rfl, zyX1_numberOf⟩ ⟨Nat.le_of_ble_eq_true rfl, Nat.le_of_ble_eq_true rfl⟩) ⟨bS_blind, va_recv hK (zx2_P (show 0 < 18 by decide) hP) (ci := 1) (q0 := 0) rfl rfl, bS_pre (zx2_P (show 0 < 18 by decide) hP) hK (zx2_D (show 0 < 18 by decide) hD) hN⟩ rfl rfl hl.1 rfl (lv_room (Nat.le_of_ble_eq_true rfl)) dX2_rectangle_57 ⟨Nat.zero_le _, Nat.zero_le _⟩) hS (fun q _ h => zx_fW (zx2_D (show 0 < 18 by decide) hD) hS hA q h) (fun q h => zx_fW (zx2_D (show 0 < 18 by decide) hD) hS hA q h) (fun r u t H1 lc ht hvm hw hB hz1 hk1 hS => ?_)
          obtain ⟨hw1, hw2⟩ := Prod.mk.inj hw; subst hw1; subst hw2
          rw [ht] at hB
          replace hP := zx2_S (show 0 < 18 by decide) hP hD hk1 hB
          obtain ⟨T14, eT14, hM⟩ := zx_nE hM
          rw [← eT14] at hP
          replace hD := zx2_Da T14 hD
          refine lv_goto (tgt := 72) hx hb dX2_rectangle_60 (by decide) ?_
          rw [hQ]
          refine vx_ret ?_
          refine W.widen (k := 1) (n := 6) (Nat.le_of_ble_eq_true rfl) (Nat.le_of_ble_eq_true rfl) ?_
          exact W.iret hx hb hr (fun t ht hW => ⟨⟨x11, T14, rfl, (Option.some.inj hM).symm, by show va_P D vwCl _ t.heap; rw [ht]; exact hP⟩, hS.F ht⟩) hS.2.2 dX2_rectangle_72
      · replace hM := zx_f q5 hM
        exact j30 S _ _ _ hP hD hS (lv_sub hl [] rfl) hM
  · replace hM := zx_t q3 hM
    rw [hQ]
    exact zx_thr3 hx hb hlt hown (hts _ zw_7_6) (hts _ zw_7_7) (hXs _ _ (zx_str_96)) hts hXw hU hNN hS (hl.1.trans hml.symm) dX2_rectangle_11 dX2_rectangle_14 dX2_rectangle_15 dX2_rectangle_17 dX2_rectangle_20 hout (Nat.le_of_ble_eq_true rfl) (Nat.le_of_ble_eq_true rfl) (Nat.le_of_ble_eq_true rfl) (Nat.le_of_ble_eq_true rfl) hlocks (fun t hvm hz hk => zx_XC (Option.some.inj hM).symm (by decide) rfl hP hS hz hk) hS.2.2 (Nat.le_of_ble_eq_true rfl) (Nat.le_of_ble_eq_true rfl)

/-! ShallowBoxes.node(II)I -/
def f_X2_node_j34 (N : Nat) (S_ : zx_B) : Option (Int32 × (Nat × zx_B)) :=
  some (0, (1, S_))
def f_X2_node (N : Nat) (p1 : Int32) (p2 : Int32) (S : zx_B) : Option (Int32 × (Nat × zx_B)) :=
  (zx_b2 (f_X1_nodeNumbered N p1 (S 0)) (fun x1 T2 =>
(zx_n (zx_sb S 0 T2) (fun T4 =>
(if x1 = (-1) then
  some (0, (3, T4)) else
  (if p2 < 0 then
  f_X2_node_j34 N  T4 else
  (if p2 ≤ 6 then
  (if p2 = 0 then
  (zx_b1 (f_X1_levelOf N x1 (T4 0)) (fun x24 =>
some (x24, (0, T4)))) else
  (if p2 = 1 then
  (zx_b1 (f_X1_sizeOf N x1 (T4 0)) (fun x22 =>
some (x22, (0, T4)))) else
  (if p2 = 6 then
  (zx_b1 (f_X1_nodeAbove N x1 (T4 0)) (fun x16 =>
(zx_b2 (f_X1_numberOf N x16 (T4 0)) (fun x18 T19 =>
(zx_n (zx_sb T4 0 T19) (fun T21 =>
some (x18, (0, T21)))))))) else
  (zx_b1 (f_X1_sizeOf N x1 (T4 0)) (fun x11 =>
(if x11 = 0 then
  some ((-1), (0, T4)) else
  (zx_b1 (f_X1_corner N x1 (p2 - 2) (T4 0)) (fun x14 =>
some (x14, (0, T4)))))))))) else
  f_X2_node_j34 N  T4)))))))
abbrev rmX2_node : Room := { frames := 6, cells := 1, slots := 6, locals := 82 }
abbrev zsX2_node : List Cond := .code yX2_node cX2_node 4 (some .int) :: wsL_law
theorem zyX2_node : yX2_node.cls ≠ "java/lang/invoke/MethodHandle" ∧ yX2_node.cls ≠ "java/lang/invoke/VarHandle" ∧ (parseMethodDescriptor yX2_node.desc).map (fun d => d.parameters.length) = some 2 := by decide +kernel
set_option maxHeartbeats 4000000 in
set_option maxRecDepth 100000 in
theorem c_X2_node (l : Launch) (D : va_G) (cI cZ cT : ClassId) (hlt : l.stackTraces = false) (h : Nat) (hh : Nat → Nat) (aa : Nat → Nat → Nat) (S : zx_B) (sz : Nat) (N : Nat) (p1 : Int32) (p2 : Int32) {R : Int32 × (Nat × zx_B)} (hM : f_X2_node N p1 p2 S = some R) : vx_Met l yX2_node zsX2_node rmX2_node (va_Pc [.ref h, .int p1, .int p2] (bX D (zx_ty cI cZ cT) (xW2 cI cT h hh aa S) sz)) (va_Qi (fun r u => R = (r, (0, u))) (fun u t => va_P D vwCl (xW2 cI cT h hh aa u) t.heap) (va_A (xW2 cI cT h hh aa S) sz)) (vx_X (fun u : Nat × zx_B => R = (0, u) ∧ u.1 ≠ 0) (fun E u t => E = zx_E u.1 ∧ va_P D vwCl (xW2 cI cT h hh aa u.2) t.heap) (va_A (xW2 cI cT h hh aa S) sz)) 1 6 (va_A (xW2 cI cT h hh aa S) sz) := by
  refine vx_ofW (cc := cX2_node) (maxL := 4) (ret := (some .int)) (by decide) rfl ?_
  intro p e s m args below meth c s₁ B hml hout hv
  obtain ⟨rfl, ⟨hsz, hP, hK, hD0, hN⟩, hX⟩ := hv
  have hx := B.exec
  have hb := B.bytes
  have hr := B.returns
  have hts : ∀ w ∈ wsL_law, w.before _ s = true := fun w hw => atoms_spec (ws := zsX2_node) B.pre w (List.mem_cons_of_mem _ hw)
  have hown : s.vm.findClass RX2 = some m.cls := findClass_of_methodNamed B.named
  have hlocks := B.notSynchronized
  subst hsz
  have hD := hD0.self (sz := s.heap.size)
  generalize hAe : va_A (xW2 cI cT h hh aa S) s.heap.size = A at hD hX ⊢
  have hU := hX.1
  have hNN := hX.2.1
  have hXw := hX.2.2.1
  have hXs := hX.2.2.2
  have hA : ∀ q : Nat, s.heap.size ≤ q → A q := fun q h => by rw [← hAe]; exact Or.inr h
  have hS : va_S A s.heap s.heap [] := va_S.rf
  have hl := lv_entry ([.ref h, .int p1, .int p2]) (n := 4) (Nat.le_of_ble_eq_true rfl)
  rw [lg_entry_eq]
  generalize (lg_sl ([.ref h, .int p1, .int p2]) ++ List.replicate (4 - (lg_sl ([.ref h, .int p1, .int p2])).length) Slot.unset).toArray = ls at hl ⊢
  have hl : lv_has ls 4 [(0, .ref h), (1, .int p1), (2, .int p2)] := hl
  generalize hQ : vx_MQ below (va_Qi (fun r u => R = (r, (0, u))) (fun u t => va_P D vwCl (xW2 cI cT h hh aa u) t.heap) A) (vx_X (fun u : Nat × zx_B => R = (0, u) ∧ u.1 ≠ 0) (fun E u t => E = zx_E u.1 ∧ va_P D vwCl (xW2 cI cT h hh aa u.2) t.heap) A) ([.ref h, .int p1, .int p2] : List Value).toArray s 1 6 A = Q9
  replace hQ := hQ.symm
  unfold f_X2_node at hM
  refine lv_aload_n hx hb dX2_node_0 rfl (lv_at hl 0 rfl) ?_
  refine va_get (D := D) (ci := 2) (v := .ref (hh 0)) (C := RX2) (T := TX2) (N := 8) hx hb hts inlX2 hown hK hP 0 rfl rfl 0 (by decide) (hts _ zw_1_15) (fun _ h9 => h9) rfl dX2_node_1 ?_
  refine lv_iload_n hx hb dX2_node_4 rfl (lv_at hl 1 rfl) ?_
  obtain ⟨x1, T2, hz3, hM⟩ := zx_b2E hM
  refine va_calli (va_runV (As := [.int p1]) (rest := []) ⟨hx, hb, hml, hown, hts⟩ (c_X1_nodeNumbered l D cI cZ cT (hh 0) (aa 0) (S 0) _ N p1 hz3) (cwV 1 hts (zg_V zw_8_7 zw_8_8 zw_8_9 zw_1_14 zw_8_10) rfl rfl rfl ⟨rfl, zyX1_nodeNumbered⟩ ⟨Nat.le_of_ble_eq_true rfl, Nat.le_of_ble_eq_true rfl⟩) ⟨bS_blind, va_recv hK (zx2_P (show 0 < 18 by decide) hP) (ci := 1) (q0 := 0) rfl rfl, bS_pre (zx2_P (show 0 < 18 by decide) hP) hK (zx2_D (show 0 < 18 by decide) hD) hN⟩ rfl rfl hl.1 rfl (lv_room (Nat.le_of_ble_eq_true rfl)) dX2_node_5 ⟨Nat.zero_le _, Nat.zero_le _⟩) hS (fun q _ h => zx_fW (zx2_D (show 0 < 18 by decide) hD) hS hA q h) (fun q h => zx_fW (zx2_D (show 0 < 18 by decide) hD) hS hA q h) (fun r u t H1 lc ht hvm hw hB hz1 hk1 hS => ?_)
  obtain ⟨hw1, hw2⟩ := Prod.mk.inj hw; subst hw1; subst hw2
  rw [ht] at hB
  replace hP := zx2_S (show 0 < 18 by decide) hP hD hk1 hB
  obtain ⟨T4, eT4, hM⟩ := zx_nE hM
  rw [← eT4] at hP
  replace hD := zx2_Da T4 hD
  refine lv_istore_n (lv' := [(3, .int x1), (0, .ref h), (1, .int p1), (2, .int p2)]) hx hb dX2_node_8 rfl hl (by decide) rfl (fun ls hl => ?_)
  refine lv_iload_n hx hb dX2_node_9 rfl (lv_at hl 0 rfl) ?_
  refine lv_iconst (v := (-1)) hx hb dX2_node_10 (by decide) ?_
  refine lv_icmp_ne (tgt := 24) hx hb dX2_node_11 (by decide) (fun q5 => ?_) (fun q5 => ?_)
  · replace hM := zx_f q5 hM
    have j34 : ∀ (S_ : zx_B) (H : Heap) (lc : List Loc) (ls : Array Slot), va_P D vwCl (xW2 cI cT h hh aa S_) H → va_D A (xW2 cI cT h hh aa S_) → va_S A s.heap H lc → lv_has ls 4 [] → f_X2_node_j34 N S_ = some R → W p l e (headSpec zsX2_node rmX2_node).room s m ([.ref h, .int p1, .int p2] : List Value).toArray below meth c H lc 0 0 Q9 (F0 m 34 ls []) := by
      intro S_ H lc ls hP hD hS hl hM
      unfold f_X2_node_j34 at hM
      rw [hQ]
      exact zx_thr1 hx hb hlt hown (hts _ zw_4_14) (hts _ zw_4_15) (hXs _ _ (zx_str_116)) hts hXw hU hNN hS (hl.1.trans hml.symm) dX2_node_34 dX2_node_37 dX2_node_38 dX2_node_40 dX2_node_43 hout (Nat.le_of_ble_eq_true rfl) (Nat.le_of_ble_eq_true rfl) (Nat.le_of_ble_eq_true rfl) (Nat.le_of_ble_eq_true rfl) hlocks (fun t hvm hz hk => zx_XC (Option.some.inj hM).symm (by decide) rfl hP hS hz hk) hS.2.2 (Nat.le_of_ble_eq_true rfl) (Nat.le_of_ble_eq_true rfl)
    refine lv_iload_n hx hb dX2_node_24 rfl (lv_at hl 3 rfl) ?_
    refine lv_if_lt (tgt := 34) hx hb dX2_node_25 (by decide) (fun q6 => ?_) (fun q6 => ?_)
    · replace hM := zx_t q6 hM
      exact j34 T4 _ _ _ hP hD hS (lv_sub hl [] rfl) hM
    · replace hM := zx_f q6 hM
      refine lv_iload_n hx hb dX2_node_28 rfl (lv_at hl 3 rfl) ?_
      refine lv_bipush (v := 6) hx hb dX2_node_29 (by decide) ?_
      refine lv_icmp_le (tgt := 44) hx hb dX2_node_31 (by decide) (fun q7 => ?_) (fun q7 => ?_)
      · replace hM := zx_t q7 hM
        refine lv_iload_n hx hb dX2_node_44 rfl (lv_at hl 3 rfl) ?_
        refine lv_if_ne (tgt := 57) hx hb dX2_node_45 (by decide) (fun q8 => ?_) (fun q8 => ?_)
        · replace hM := zx_f q8 hM
          refine lv_iload_n hx hb dX2_node_57 rfl (lv_at hl 3 rfl) ?_
          refine lv_iconst (v := 1) hx hb dX2_node_58 (by decide) ?_
          refine lv_icmp_ne (tgt := 71) hx hb dX2_node_59 (by decide) (fun q9 => ?_) (fun q9 => ?_)
          · replace hM := zx_f q9 hM
            refine lv_iload_n hx hb dX2_node_71 rfl (lv_at hl 3 rfl) ?_
            refine lv_bipush (v := 6) hx hb dX2_node_72 (by decide) ?_
            refine lv_icmp_ne (tgt := 93) hx hb dX2_node_74 (by decide) (fun q10 => ?_) (fun q10 => ?_)
            · replace hM := zx_f q10 hM
              refine lv_aload_n hx hb dX2_node_93 rfl (lv_at hl 1 rfl) ?_
              refine va_get (D := D) (ci := 2) (v := .ref (hh 0)) (C := RX2) (T := TX2) (N := 8) hx hb hts inlX2 hown hK hP 0 rfl rfl 0 (by decide) (hts _ zw_1_15) (fun _ h9 => h9) rfl dX2_node_94 ?_
              refine lv_iload_n hx hb dX2_node_97 rfl (lv_at hl 0 rfl) ?_
              obtain ⟨x11, hz12, hM⟩ := zx_b1E hM
              refine va_calli (va_runV (As := [.int x1]) (rest := []) ⟨hx, hb, hml, hown, hts⟩ (c_X1_sizeOf l D cI cZ cT (hh 0) (aa 0) (T4 0) _ N x1 hz12) (cwV 1 hts (zg_V zw_8_11 zw_8_12 zw_8_13 zw_1_14 zw_8_14) rfl rfl rfl ⟨rfl, zyX1_sizeOf⟩ ⟨Nat.le_of_ble_eq_true rfl, Nat.le_of_ble_eq_true rfl⟩) ⟨bS_blind, va_recv hK (zx2_P (show 0 < 18 by decide) hP) (ci := 1) (q0 := 0) rfl rfl, bS_pre (zx2_P (show 0 < 18 by decide) hP) hK (zx2_D (show 0 < 18 by decide) hD) hN⟩ rfl rfl hl.1 rfl (lv_room (Nat.le_of_ble_eq_true rfl)) dX2_node_98 ⟨Nat.zero_le _, Nat.zero_le _⟩) hS (fun q h1 h2 => absurd h1 (Nat.not_lt.mpr h2)) (fun q h => hA q (Nat.le_trans hS.1 h)) (fun r u t H1 lc ht hvm hw hB hz1 hk1 hS => ?_)
              replace hw : x11 = r := hw; subst hw
              replace hP := zx_keep hP hk1
              refine lv_if_ne (tgt := 108) hx hb dX2_node_101 (by decide) (fun q13 => ?_) (fun q13 => ?_)
              · replace hM := zx_f q13 hM
                refine lv_aload_n hx hb dX2_node_108 rfl (lv_at hl 1 rfl) ?_
                refine va_get (D := D) (ci := 2) (v := .ref (hh 0)) (C := RX2) (T := TX2) (N := 8) hx hb hts inlX2 hown hK hP 0 rfl rfl 0 (by decide) (hts _ zw_1_15) (fun _ h9 => h9) rfl dX2_node_109 ?_
                refine lv_iload_n hx hb dX2_node_112 rfl (lv_at hl 0 rfl) ?_
                refine lv_iload_n hx hb dX2_node_113 rfl (lv_at hl 3 rfl) ?_
                refine lv_iconst (v := 2) hx hb dX2_node_114 (by decide) ?_
                refine lv_isub hx hb dX2_node_115 ?_
                obtain ⟨x14, hz15, hM⟩ := zx_b1E hM
                refine va_calli (va_runV (As := [.int x1, .int (p2 - 2)]) (rest := []) ⟨hx, hb, hml, hown, hts⟩ (c_X1_corner l D cI cZ cT (hh 0) (aa 0) (T4 0) _ N x1 (p2 - 2) hz15) (cwV 2 hts (zg_V zw_7_20 zw_7_21 zw_7_22 zw_1_14 zw_7_23) rfl rfl rfl ⟨rfl, zyX1_corner⟩ ⟨Nat.le_of_ble_eq_true rfl, Nat.le_of_ble_eq_true rfl⟩) ⟨bS_blind, va_recv hK (zx2_P (show 0 < 18 by decide) hP) (ci := 1) (q0 := 0) rfl rfl, bS_pre (zx2_P (show 0 < 18 by decide) hP) hK (zx2_D (show 0 < 18 by decide) hD) hN⟩ rfl rfl hl.1 rfl (lv_room (Nat.le_of_ble_eq_true rfl)) dX2_node_116 ⟨Nat.zero_le _, Nat.zero_le _⟩) hS (fun q h1 h2 => absurd h1 (Nat.not_lt.mpr h2)) (fun q h => hA q (Nat.le_trans hS.1 h)) (fun r u t H1 lc ht hvm hw hB hz1 hk1 hS => ?_)
                replace hw : x14 = r := hw; subst hw
                replace hP := zx_keep hP hk1
                rw [hQ]
                refine vx_ret ?_
                refine W.widen (k := 1) (n := 6) (Nat.le_of_ble_eq_true rfl) (Nat.le_of_ble_eq_true rfl) ?_
                exact W.iret hx hb hr (fun t ht hW => ⟨⟨x14, T4, rfl, (Option.some.inj hM).symm, by show va_P D vwCl _ t.heap; rw [ht]; exact hP⟩, hS.F ht⟩) hS.2.2 dX2_node_119
              · replace hM := zx_t q13 hM
                refine lv_iconst (v := (-1)) hx hb dX2_node_104 (by decide) ?_
                refine lv_goto (tgt := 119) hx hb dX2_node_105 (by decide) ?_
                rw [hQ]
                refine vx_ret ?_
                refine W.widen (k := 1) (n := 6) (Nat.le_of_ble_eq_true rfl) (Nat.le_of_ble_eq_true rfl) ?_
                exact W.iret hx hb hr (fun t ht hW => ⟨⟨(-1), T4, rfl, (Option.some.inj hM).symm, by show va_P D vwCl _ t.heap; rw [ht]; exact hP⟩, hS.F ht⟩) hS.2.2 dX2_node_119
            · replace hM := zx_t q10 hM
              refine lv_aload_n hx hb dX2_node_77 rfl (lv_at hl 1 rfl) ?_
              refine va_get (D := D) (ci := 2) (v := .ref (hh 0)) (C := RX2) (T := TX2) (N := 8) hx hb hts inlX2 hown hK hP 0 rfl rfl 0 (by decide) (hts _ zw_1_15) (fun _ h9 => h9) rfl dX2_node_78 ?_
              refine lv_aload_n hx hb dX2_node_81 rfl (lv_at hl 1 rfl) ?_
              refine va_get (D := D) (ci := 2) (v := .ref (hh 0)) (C := RX2) (T := TX2) (N := 8) hx hb hts inlX2 hown hK hP 0 rfl rfl 0 (by decide) (hts _ zw_1_15) (fun _ h9 => h9) rfl dX2_node_82 ?_
              refine lv_iload_n hx hb dX2_node_85 rfl (lv_at hl 0 rfl) ?_
              obtain ⟨x16, hz17, hM⟩ := zx_b1E hM
              refine va_calli (va_runV (As := [.int x1]) (rest := [.ref (hh 0)]) ⟨hx, hb, hml, hown, hts⟩ (c_X1_nodeAbove l D cI cZ cT (hh 0) (aa 0) (T4 0) _ N x1 hz17) (cwV 1 hts (zg_V zw_7_12 zw_7_13 zw_7_14 zw_1_14 zw_7_15) rfl rfl rfl ⟨rfl, zyX1_nodeAbove⟩ ⟨Nat.le_of_ble_eq_true rfl, Nat.le_of_ble_eq_true rfl⟩) ⟨bS_blind, va_recv hK (zx2_P (show 0 < 18 by decide) hP) (ci := 1) (q0 := 0) rfl rfl, bS_pre (zx2_P (show 0 < 18 by decide) hP) hK (zx2_D (show 0 < 18 by decide) hD) hN⟩ rfl rfl hl.1 rfl (lv_room (Nat.le_of_ble_eq_true rfl)) dX2_node_86 ⟨Nat.zero_le _, Nat.zero_le _⟩) hS (fun q h1 h2 => absurd h1 (Nat.not_lt.mpr h2)) (fun q h => hA q (Nat.le_trans hS.1 h)) (fun r u t H1 lc ht hvm hw hB hz1 hk1 hS => ?_)
              replace hw : x16 = r := hw; subst hw
              replace hP := zx_keep hP hk1
              obtain ⟨x18, T19, hz20, hM⟩ := zx_b2E hM
              refine va_calli (va_runV (As := [.int x16]) (rest := []) ⟨hx, hb, hml, hown, hts⟩ (c_X1_numberOf l D cI cZ cT (hh 0) (aa 0) (T4 0) _ N x16 hz20) (cwV 1 hts (zg_V zw_7_16 zw_7_17 zw_7_18 zw_1_14 zw_7_19) rfl rfl rfl ⟨rfl, zyX1_numberOf⟩ ⟨Nat.le_of_ble_eq_true rfl, Nat.le_of_ble_eq_true rfl⟩) ⟨bS_blind, va_recv hK (zx2_P (show 0 < 18 by decide) hP) (ci := 1) (q0 := 0) rfl rfl, bS_pre (zx2_P (show 0 < 18 by decide) hP) hK (zx2_D (show 0 < 18 by decide) hD) hN⟩ rfl rfl hl.1 rfl (lv_room (Nat.le_of_ble_eq_true rfl)) dX2_node_89 ⟨Nat.zero_le _, Nat.zero_le _⟩) hS (fun q _ h => zx_fW (zx2_D (show 0 < 18 by decide) hD) hS hA q h) (fun q h => zx_fW (zx2_D (show 0 < 18 by decide) hD) hS hA q h) (fun r u t H1 lc ht hvm hw hB hz1 hk1 hS => ?_)
              obtain ⟨hw1, hw2⟩ := Prod.mk.inj hw; subst hw1; subst hw2
              rw [ht] at hB
              replace hP := zx2_S (show 0 < 18 by decide) hP hD hk1 hB
              obtain ⟨T21, eT21, hM⟩ := zx_nE hM
              rw [← eT21] at hP
              replace hD := zx2_Da T21 hD
              rw [hQ]
              refine vx_ret ?_
              refine W.widen (k := 1) (n := 6) (Nat.le_of_ble_eq_true rfl) (Nat.le_of_ble_eq_true rfl) ?_
              exact W.iret hx hb hr (fun t ht hW => ⟨⟨x18, T21, rfl, (Option.some.inj hM).symm, by show va_P D vwCl _ t.heap; rw [ht]; exact hP⟩, hS.F ht⟩) hS.2.2 dX2_node_92
          · replace hM := zx_t q9 hM
            refine lv_aload_n hx hb dX2_node_62 rfl (lv_at hl 1 rfl) ?_
            refine va_get (D := D) (ci := 2) (v := .ref (hh 0)) (C := RX2) (T := TX2) (N := 8) hx hb hts inlX2 hown hK hP 0 rfl rfl 0 (by decide) (hts _ zw_1_15) (fun _ h9 => h9) rfl dX2_node_63 ?_
            refine lv_iload_n hx hb dX2_node_66 rfl (lv_at hl 0 rfl) ?_
            obtain ⟨x22, hz23, hM⟩ := zx_b1E hM
            refine va_calli (va_runV (As := [.int x1]) (rest := []) ⟨hx, hb, hml, hown, hts⟩ (c_X1_sizeOf l D cI cZ cT (hh 0) (aa 0) (T4 0) _ N x1 hz23) (cwV 1 hts (zg_V zw_8_11 zw_8_12 zw_8_13 zw_1_14 zw_8_14) rfl rfl rfl ⟨rfl, zyX1_sizeOf⟩ ⟨Nat.le_of_ble_eq_true rfl, Nat.le_of_ble_eq_true rfl⟩) ⟨bS_blind, va_recv hK (zx2_P (show 0 < 18 by decide) hP) (ci := 1) (q0 := 0) rfl rfl, bS_pre (zx2_P (show 0 < 18 by decide) hP) hK (zx2_D (show 0 < 18 by decide) hD) hN⟩ rfl rfl hl.1 rfl (lv_room (Nat.le_of_ble_eq_true rfl)) dX2_node_67 ⟨Nat.zero_le _, Nat.zero_le _⟩) hS (fun q h1 h2 => absurd h1 (Nat.not_lt.mpr h2)) (fun q h => hA q (Nat.le_trans hS.1 h)) (fun r u t H1 lc ht hvm hw hB hz1 hk1 hS => ?_)
            replace hw : x22 = r := hw; subst hw
            replace hP := zx_keep hP hk1
            rw [hQ]
            refine vx_ret ?_
            refine W.widen (k := 1) (n := 6) (Nat.le_of_ble_eq_true rfl) (Nat.le_of_ble_eq_true rfl) ?_
            exact W.iret hx hb hr (fun t ht hW => ⟨⟨x22, T4, rfl, (Option.some.inj hM).symm, by show va_P D vwCl _ t.heap; rw [ht]; exact hP⟩, hS.F ht⟩) hS.2.2 dX2_node_70
        · replace hM := zx_t q8 hM
          refine lv_aload_n hx hb dX2_node_48 rfl (lv_at hl 1 rfl) ?_
          refine va_get (D := D) (ci := 2) (v := .ref (hh 0)) (C := RX2) (T := TX2) (N := 8) hx hb hts inlX2 hown hK hP 0 rfl rfl 0 (by decide) (hts _ zw_1_15) (fun _ h9 => h9) rfl dX2_node_49 ?_
          refine lv_iload_n hx hb dX2_node_52 rfl (lv_at hl 0 rfl) ?_
          obtain ⟨x24, hz25, hM⟩ := zx_b1E hM
          refine va_calli (va_runV (As := [.int x1]) (rest := []) ⟨hx, hb, hml, hown, hts⟩ (c_X1_levelOf l D cI cZ cT (hh 0) (aa 0) (T4 0) _ N x1 hz25) (cwV 1 hts (zg_V zw_5_14 zw_5_15 zw_5_16 zw_1_14 zw_5_17) rfl rfl rfl ⟨rfl, zyX1_levelOf⟩ ⟨Nat.le_of_ble_eq_true rfl, Nat.le_of_ble_eq_true rfl⟩) ⟨bS_blind, va_recv hK (zx2_P (show 0 < 18 by decide) hP) (ci := 1) (q0 := 0) rfl rfl, bS_pre (zx2_P (show 0 < 18 by decide) hP) hK (zx2_D (show 0 < 18 by decide) hD) hN⟩ rfl rfl hl.1 rfl (lv_room (Nat.le_of_ble_eq_true rfl)) dX2_node_53 ⟨Nat.zero_le _, Nat.zero_le _⟩) hS (fun q h1 h2 => absurd h1 (Nat.not_lt.mpr h2)) (fun q h => hA q (Nat.le_trans hS.1 h)) (fun r u t H1 lc ht hvm hw hB hz1 hk1 hS => ?_)
          replace hw : x24 = r := hw; subst hw
          replace hP := zx_keep hP hk1
          rw [hQ]
          refine vx_ret ?_
          refine W.widen (k := 1) (n := 6) (Nat.le_of_ble_eq_true rfl) (Nat.le_of_ble_eq_true rfl) ?_
          exact W.iret hx hb hr (fun t ht hW => ⟨⟨x24, T4, rfl, (Option.some.inj hM).symm, by show va_P D vwCl _ t.heap; rw [ht]; exact hP⟩, hS.F ht⟩) hS.2.2 dX2_node_56
      · replace hM := zx_f q7 hM
        exact j34 T4 _ _ _ hP hD hS (lv_sub hl [] rfl) hM
  · replace hM := zx_t q5 hM
    rw [hQ]
    exact zx_thr3 hx hb hlt hown (hts _ zw_7_6) (hts _ zw_7_7) (hXs _ _ (zx_str_114)) hts hXw hU hNN hS (hl.1.trans hml.symm) dX2_node_14 dX2_node_17 dX2_node_18 dX2_node_20 dX2_node_23 hout (Nat.le_of_ble_eq_true rfl) (Nat.le_of_ble_eq_true rfl) (Nat.le_of_ble_eq_true rfl) (Nat.le_of_ble_eq_true rfl) hlocks (fun t hvm hz hk => zx_XC (Option.some.inj hM).symm (by decide) rfl hP hS hz hk) hS.2.2 (Nat.le_of_ble_eq_true rfl) (Nat.le_of_ble_eq_true rfl)

/-! ShallowBoxes.entry(II)I -/
def f_X2_entry (N : Nat) (p1 : Int32) (p2 : Int32) (S : zx_B) : Option (Int32 × (Nat × zx_B)) :=
  (zx_b2 (f_X1_nodeNumbered N p1 (S 0)) (fun x1 T2 =>
(zx_n (zx_sb S 0 T2) (fun T4 =>
(if x1 = (-1) then
  some (0, (3, T4)) else
  (if 0 ≤ p2 then
  (zx_b1 (f_X1_sizeOf N x1 (T4 0)) (fun x7 =>
(if p2 < x7 then
  (zx_b1 (f_X1_entryOf N x1 p2 (T4 0)) (fun x10 =>
(zx_b1 (f_X1_levelOf N x1 (T4 0)) (fun x12 =>
(if x12 = 0 then
  some (x10, (0, T4)) else
  (zx_b2 (f_X1_numberOf N x10 (T4 0)) (fun x15 T16 =>
(zx_n (zx_sb T4 0 T16) (fun T18 =>
some (x15, (0, T18))))))))))) else
  some ((-1), (0, T4))))) else
  some (0, (1, T4))))))))
abbrev rmX2_entry : Room := { frames := 6, cells := 1, slots := 6, locals := 82 }
abbrev zsX2_entry : List Cond := .code yX2_entry cX2_entry 5 (some .int) :: wsL_law
theorem zyX2_entry : yX2_entry.cls ≠ "java/lang/invoke/MethodHandle" ∧ yX2_entry.cls ≠ "java/lang/invoke/VarHandle" ∧ (parseMethodDescriptor yX2_entry.desc).map (fun d => d.parameters.length) = some 2 := by decide +kernel
set_option maxHeartbeats 4000000 in
set_option maxRecDepth 100000 in
theorem c_X2_entry (l : Launch) (D : va_G) (cI cZ cT : ClassId) (hlt : l.stackTraces = false) (h : Nat) (hh : Nat → Nat) (aa : Nat → Nat → Nat) (S : zx_B) (sz : Nat) (N : Nat) (p1 : Int32) (p2 : Int32) {R : Int32 × (Nat × zx_B)} (hM : f_X2_entry N p1 p2 S = some R) : vx_Met l yX2_entry zsX2_entry rmX2_entry (va_Pc [.ref h, .int p1, .int p2] (bX D (zx_ty cI cZ cT) (xW2 cI cT h hh aa S) sz)) (va_Qi (fun r u => R = (r, (0, u))) (fun u t => va_P D vwCl (xW2 cI cT h hh aa u) t.heap) (va_A (xW2 cI cT h hh aa S) sz)) (vx_X (fun u : Nat × zx_B => R = (0, u) ∧ u.1 ≠ 0) (fun E u t => E = zx_E u.1 ∧ va_P D vwCl (xW2 cI cT h hh aa u.2) t.heap) (va_A (xW2 cI cT h hh aa S) sz)) 1 6 (va_A (xW2 cI cT h hh aa S) sz) := by
  refine vx_ofW (cc := cX2_entry) (maxL := 5) (ret := (some .int)) (by decide) rfl ?_
  intro p e s m args below meth c s₁ B hml hout hv
  obtain ⟨rfl, ⟨hsz, hP, hK, hD0, hN⟩, hX⟩ := hv
  have hx := B.exec
  have hb := B.bytes
  have hr := B.returns
  have hts : ∀ w ∈ wsL_law, w.before _ s = true := fun w hw => atoms_spec (ws := zsX2_entry) B.pre w (List.mem_cons_of_mem _ hw)
  have hown : s.vm.findClass RX2 = some m.cls := findClass_of_methodNamed B.named
  have hlocks := B.notSynchronized
  subst hsz
  have hD := hD0.self (sz := s.heap.size)
  generalize hAe : va_A (xW2 cI cT h hh aa S) s.heap.size = A at hD hX ⊢
  have hU := hX.1
  have hNN := hX.2.1
  have hXw := hX.2.2.1
  have hXs := hX.2.2.2
  have hA : ∀ q : Nat, s.heap.size ≤ q → A q := fun q h => by rw [← hAe]; exact Or.inr h
  have hS : va_S A s.heap s.heap [] := va_S.rf
  have hl := lv_entry ([.ref h, .int p1, .int p2]) (n := 5) (Nat.le_of_ble_eq_true rfl)
  rw [lg_entry_eq]
  generalize (lg_sl ([.ref h, .int p1, .int p2]) ++ List.replicate (5 - (lg_sl ([.ref h, .int p1, .int p2])).length) Slot.unset).toArray = ls at hl ⊢
  have hl : lv_has ls 5 [(0, .ref h), (1, .int p1), (2, .int p2)] := hl
  generalize hQ : vx_MQ below (va_Qi (fun r u => R = (r, (0, u))) (fun u t => va_P D vwCl (xW2 cI cT h hh aa u) t.heap) A) (vx_X (fun u : Nat × zx_B => R = (0, u) ∧ u.1 ≠ 0) (fun E u t => E = zx_E u.1 ∧ va_P D vwCl (xW2 cI cT h hh aa u.2) t.heap) A) ([.ref h, .int p1, .int p2] : List Value).toArray s 1 6 A = Q9
  replace hQ := hQ.symm
  unfold f_X2_entry at hM
  refine lv_aload_n hx hb dX2_entry_0 rfl (lv_at hl 0 rfl) ?_
  refine va_get (D := D) (ci := 2) (v := .ref (hh 0)) (C := RX2) (T := TX2) (N := 8) hx hb hts inlX2 hown hK hP 0 rfl rfl 0 (by decide) (hts _ zw_1_15) (fun _ h9 => h9) rfl dX2_entry_1 ?_
  refine lv_iload_n hx hb dX2_entry_4 rfl (lv_at hl 1 rfl) ?_
  obtain ⟨x1, T2, hz3, hM⟩ := zx_b2E hM
  refine va_calli (va_runV (As := [.int p1]) (rest := []) ⟨hx, hb, hml, hown, hts⟩ (c_X1_nodeNumbered l D cI cZ cT (hh 0) (aa 0) (S 0) _ N p1 hz3) (cwV 1 hts (zg_V zw_8_7 zw_8_8 zw_8_9 zw_1_14 zw_8_10) rfl rfl rfl ⟨rfl, zyX1_nodeNumbered⟩ ⟨Nat.le_of_ble_eq_true rfl, Nat.le_of_ble_eq_true rfl⟩) ⟨bS_blind, va_recv hK (zx2_P (show 0 < 18 by decide) hP) (ci := 1) (q0 := 0) rfl rfl, bS_pre (zx2_P (show 0 < 18 by decide) hP) hK (zx2_D (show 0 < 18 by decide) hD) hN⟩ rfl rfl hl.1 rfl (lv_room (Nat.le_of_ble_eq_true rfl)) dX2_entry_5 ⟨Nat.zero_le _, Nat.zero_le _⟩) hS (fun q _ h => zx_fW (zx2_D (show 0 < 18 by decide) hD) hS hA q h) (fun q h => zx_fW (zx2_D (show 0 < 18 by decide) hD) hS hA q h) (fun r u t H1 lc ht hvm hw hB hz1 hk1 hS => ?_)
  obtain ⟨hw1, hw2⟩ := Prod.mk.inj hw; subst hw1; subst hw2
  rw [ht] at hB
  replace hP := zx2_S (show 0 < 18 by decide) hP hD hk1 hB
  obtain ⟨T4, eT4, hM⟩ := zx_nE hM
  rw [← eT4] at hP
  replace hD := zx2_Da T4 hD
  refine lv_istore_n (lv' := [(3, .int x1), (0, .ref h), (1, .int p1), (2, .int p2)]) hx hb dX2_entry_8 rfl hl (by decide) rfl (fun ls hl => ?_)
  refine lv_iload_n hx hb dX2_entry_9 rfl (lv_at hl 0 rfl) ?_
  refine lv_iconst (v := (-1)) hx hb dX2_entry_10 (by decide) ?_
  refine lv_icmp_ne (tgt := 24) hx hb dX2_entry_11 (by decide) (fun q5 => ?_) (fun q5 => ?_)
  · replace hM := zx_f q5 hM
    refine lv_iload_n hx hb dX2_entry_24 rfl (lv_at hl 3 rfl) ?_
    refine lv_if_ge (tgt := 38) hx hb dX2_entry_25 (by decide) (fun q6 => ?_) (fun q6 => ?_)
    · replace hM := zx_t q6 hM
      refine lv_iload_n hx hb dX2_entry_38 rfl (lv_at hl 3 rfl) ?_
      refine lv_aload_n hx hb dX2_entry_39 rfl (lv_at hl 1 rfl) ?_
      refine va_get (D := D) (ci := 2) (v := .ref (hh 0)) (C := RX2) (T := TX2) (N := 8) hx hb hts inlX2 hown hK hP 0 rfl rfl 0 (by decide) (hts _ zw_1_15) (fun _ h9 => h9) rfl dX2_entry_40 ?_
      refine lv_iload_n hx hb dX2_entry_43 rfl (lv_at hl 0 rfl) ?_
      obtain ⟨x7, hz8, hM⟩ := zx_b1E hM
      refine va_calli (va_runV (As := [.int x1]) (rest := [.int p2]) ⟨hx, hb, hml, hown, hts⟩ (c_X1_sizeOf l D cI cZ cT (hh 0) (aa 0) (T4 0) _ N x1 hz8) (cwV 1 hts (zg_V zw_8_11 zw_8_12 zw_8_13 zw_1_14 zw_8_14) rfl rfl rfl ⟨rfl, zyX1_sizeOf⟩ ⟨Nat.le_of_ble_eq_true rfl, Nat.le_of_ble_eq_true rfl⟩) ⟨bS_blind, va_recv hK (zx2_P (show 0 < 18 by decide) hP) (ci := 1) (q0 := 0) rfl rfl, bS_pre (zx2_P (show 0 < 18 by decide) hP) hK (zx2_D (show 0 < 18 by decide) hD) hN⟩ rfl rfl hl.1 rfl (lv_room (Nat.le_of_ble_eq_true rfl)) dX2_entry_44 ⟨Nat.zero_le _, Nat.zero_le _⟩) hS (fun q h1 h2 => absurd h1 (Nat.not_lt.mpr h2)) (fun q h => hA q (Nat.le_trans hS.1 h)) (fun r u t H1 lc ht hvm hw hB hz1 hk1 hS => ?_)
      replace hw : x7 = r := hw; subst hw
      replace hP := zx_keep hP hk1
      refine lv_icmp_lt (tgt := 52) hx hb dX2_entry_47 (by decide) (fun q9 => ?_) (fun q9 => ?_)
      · replace hM := zx_t q9 hM
        refine lv_aload_n hx hb dX2_entry_52 rfl (lv_at hl 1 rfl) ?_
        refine va_get (D := D) (ci := 2) (v := .ref (hh 0)) (C := RX2) (T := TX2) (N := 8) hx hb hts inlX2 hown hK hP 0 rfl rfl 0 (by decide) (hts _ zw_1_15) (fun _ h9 => h9) rfl dX2_entry_53 ?_
        refine lv_iload_n hx hb dX2_entry_56 rfl (lv_at hl 0 rfl) ?_
        refine lv_iload_n hx hb dX2_entry_57 rfl (lv_at hl 3 rfl) ?_
        obtain ⟨x10, hz11, hM⟩ := zx_b1E hM
        refine va_calli (va_runV (As := [.int x1, .int p2]) (rest := []) ⟨hx, hb, hml, hown, hts⟩ (c_X1_entryOf l D cI cZ cT (hh 0) (aa 0) (T4 0) _ N x1 p2 hz11) (cwV 2 hts (zg_V zw_8_22 zw_8_23 zw_9_0 zw_1_14 zw_9_1) rfl rfl rfl ⟨rfl, zyX1_entryOf⟩ ⟨Nat.le_of_ble_eq_true rfl, Nat.le_of_ble_eq_true rfl⟩) ⟨bS_blind, va_recv hK (zx2_P (show 0 < 18 by decide) hP) (ci := 1) (q0 := 0) rfl rfl, bS_pre (zx2_P (show 0 < 18 by decide) hP) hK (zx2_D (show 0 < 18 by decide) hD) hN⟩ rfl rfl hl.1 rfl (lv_room (Nat.le_of_ble_eq_true rfl)) dX2_entry_58 ⟨Nat.zero_le _, Nat.zero_le _⟩) hS (fun q h1 h2 => absurd h1 (Nat.not_lt.mpr h2)) (fun q h => hA q (Nat.le_trans hS.1 h)) (fun r u t H1 lc ht hvm hw hB hz1 hk1 hS => ?_)
        replace hw : x10 = r := hw; subst hw
        replace hP := zx_keep hP hk1
        refine lv_istore (lv' := [(4, .int x10), (3, .int x1), (0, .ref h), (1, .int p1), (2, .int p2)]) hx hb dX2_entry_61 hl (by decide) rfl (fun ls hl => ?_)
        refine lv_aload_n hx hb dX2_entry_63 rfl (lv_at hl 2 rfl) ?_
        refine va_get (D := D) (ci := 2) (v := .ref (hh 0)) (C := RX2) (T := TX2) (N := 8) hx hb hts inlX2 hown hK hP 0 rfl rfl 0 (by decide) (hts _ zw_1_15) (fun _ h9 => h9) rfl dX2_entry_64 ?_
        refine lv_iload_n hx hb dX2_entry_67 rfl (lv_at hl 1 rfl) ?_
        obtain ⟨x12, hz13, hM⟩ := zx_b1E hM
        refine va_calli (va_runV (As := [.int x1]) (rest := []) ⟨hx, hb, hml, hown, hts⟩ (c_X1_levelOf l D cI cZ cT (hh 0) (aa 0) (T4 0) _ N x1 hz13) (cwV 1 hts (zg_V zw_5_14 zw_5_15 zw_5_16 zw_1_14 zw_5_17) rfl rfl rfl ⟨rfl, zyX1_levelOf⟩ ⟨Nat.le_of_ble_eq_true rfl, Nat.le_of_ble_eq_true rfl⟩) ⟨bS_blind, va_recv hK (zx2_P (show 0 < 18 by decide) hP) (ci := 1) (q0 := 0) rfl rfl, bS_pre (zx2_P (show 0 < 18 by decide) hP) hK (zx2_D (show 0 < 18 by decide) hD) hN⟩ rfl rfl hl.1 rfl (lv_room (Nat.le_of_ble_eq_true rfl)) dX2_entry_68 ⟨Nat.zero_le _, Nat.zero_le _⟩) hS (fun q h1 h2 => absurd h1 (Nat.not_lt.mpr h2)) (fun q h => hA q (Nat.le_trans hS.1 h)) (fun r u t H1 lc ht hvm hw hB hz1 hk1 hS => ?_)
        replace hw : x12 = r := hw; subst hw
        replace hP := zx_keep hP hk1
        refine lv_if_ne (tgt := 79) hx hb dX2_entry_71 (by decide) (fun q14 => ?_) (fun q14 => ?_)
        · replace hM := zx_f q14 hM
          refine lv_aload_n hx hb dX2_entry_79 rfl (lv_at hl 2 rfl) ?_
          refine va_get (D := D) (ci := 2) (v := .ref (hh 0)) (C := RX2) (T := TX2) (N := 8) hx hb hts inlX2 hown hK hP 0 rfl rfl 0 (by decide) (hts _ zw_1_15) (fun _ h9 => h9) rfl dX2_entry_80 ?_
          refine lv_iload hx hb dX2_entry_83 (lv_at hl 0 rfl) ?_
          obtain ⟨x15, T16, hz17, hM⟩ := zx_b2E hM
          refine va_calli (va_runV (As := [.int x10]) (rest := []) ⟨hx, hb, hml, hown, hts⟩ (c_X1_numberOf l D cI cZ cT (hh 0) (aa 0) (T4 0) _ N x10 hz17) (cwV 1 hts (zg_V zw_7_16 zw_7_17 zw_7_18 zw_1_14 zw_7_19) rfl rfl rfl ⟨rfl, zyX1_numberOf⟩ ⟨Nat.le_of_ble_eq_true rfl, Nat.le_of_ble_eq_true rfl⟩) ⟨bS_blind, va_recv hK (zx2_P (show 0 < 18 by decide) hP) (ci := 1) (q0 := 0) rfl rfl, bS_pre (zx2_P (show 0 < 18 by decide) hP) hK (zx2_D (show 0 < 18 by decide) hD) hN⟩ rfl rfl hl.1 rfl (lv_room (Nat.le_of_ble_eq_true rfl)) dX2_entry_85 ⟨Nat.zero_le _, Nat.zero_le _⟩) hS (fun q _ h => zx_fW (zx2_D (show 0 < 18 by decide) hD) hS hA q h) (fun q h => zx_fW (zx2_D (show 0 < 18 by decide) hD) hS hA q h) (fun r u t H1 lc ht hvm hw hB hz1 hk1 hS => ?_)
          obtain ⟨hw1, hw2⟩ := Prod.mk.inj hw; subst hw1; subst hw2
          rw [ht] at hB
          replace hP := zx2_S (show 0 < 18 by decide) hP hD hk1 hB
          obtain ⟨T18, eT18, hM⟩ := zx_nE hM
          rw [← eT18] at hP
          replace hD := zx2_Da T18 hD
          rw [hQ]
          refine vx_ret ?_
          refine W.widen (k := 1) (n := 6) (Nat.le_of_ble_eq_true rfl) (Nat.le_of_ble_eq_true rfl) ?_
          exact W.iret hx hb hr (fun t ht hW => ⟨⟨x15, T18, rfl, (Option.some.inj hM).symm, by show va_P D vwCl _ t.heap; rw [ht]; exact hP⟩, hS.F ht⟩) hS.2.2 dX2_entry_88
        · replace hM := zx_t q14 hM
          refine lv_iload hx hb dX2_entry_74 (lv_at hl 0 rfl) ?_
          refine lv_goto (tgt := 88) hx hb dX2_entry_76 (by decide) ?_
          rw [hQ]
          refine vx_ret ?_
          refine W.widen (k := 1) (n := 6) (Nat.le_of_ble_eq_true rfl) (Nat.le_of_ble_eq_true rfl) ?_
          exact W.iret hx hb hr (fun t ht hW => ⟨⟨x10, T4, rfl, (Option.some.inj hM).symm, by show va_P D vwCl _ t.heap; rw [ht]; exact hP⟩, hS.F ht⟩) hS.2.2 dX2_entry_88
      · replace hM := zx_f q9 hM
        refine lv_iconst (v := (-1)) hx hb dX2_entry_50 (by decide) ?_
        rw [hQ]
        refine vx_ret ?_
        refine W.widen (k := 1) (n := 6) (Nat.le_of_ble_eq_true rfl) (Nat.le_of_ble_eq_true rfl) ?_
        exact W.iret hx hb hr (fun t ht hW => ⟨⟨(-1), T4, rfl, (Option.some.inj hM).symm, by show va_P D vwCl _ t.heap; rw [ht]; exact hP⟩, hS.F ht⟩) hS.2.2 dX2_entry_51
    · replace hM := zx_f q6 hM
      rw [hQ]
      exact zx_thr1 hx hb hlt hown (hts _ zw_4_14) (hts _ zw_4_15) (hXs _ _ (zx_str_121)) hts hXw hU hNN hS (hl.1.trans hml.symm) dX2_entry_28 dX2_entry_31 dX2_entry_32 dX2_entry_34 dX2_entry_37 hout (Nat.le_of_ble_eq_true rfl) (Nat.le_of_ble_eq_true rfl) (Nat.le_of_ble_eq_true rfl) (Nat.le_of_ble_eq_true rfl) hlocks (fun t hvm hz hk => zx_XC (Option.some.inj hM).symm (by decide) rfl hP hS hz hk) hS.2.2 (Nat.le_of_ble_eq_true rfl) (Nat.le_of_ble_eq_true rfl)
  · replace hM := zx_t q5 hM
    rw [hQ]
    exact zx_thr3 hx hb hlt hown (hts _ zw_7_6) (hts _ zw_7_7) (hXs _ _ (zx_str_114)) hts hXw hU hNN hS (hl.1.trans hml.symm) dX2_entry_14 dX2_entry_17 dX2_entry_18 dX2_entry_20 dX2_entry_23 hout (Nat.le_of_ble_eq_true rfl) (Nat.le_of_ble_eq_true rfl) (Nat.le_of_ble_eq_true rfl) (Nat.le_of_ble_eq_true rfl) hlocks (fun t hvm hz hk => zx_XC (Option.some.inj hM).symm (by decide) rfl hP hS hz hk) hS.2.2 (Nat.le_of_ble_eq_true rfl) (Nat.le_of_ble_eq_true rfl)

/-! ShallowBoxes.remember()V -/
def f_X2_remember_j64 (N : Nat) (S_ : zx_B) : Option (zx_B) :=
  (zx_n (zx_sb S_ 19 (zx_st (S_ 19) 1 (upd (S_ 19 1) 1 ((S_ 19 1 1) + 1)))) (fun T1 =>
some T1))
def f_X2_remember_j32 (N : Nat) (S_ : zx_B) : Option (zx_B) :=
  (zx_n (((S_ 19 1 0) + (S_ 19 1 1)) - ((S_ 19 1 0) + (S_ 19 1 1)) / 14 * 14) (fun x2 =>
(zx_b1 (f_X2_treeAt 14 x2) (fun u3 =>
(zx_b1 (f_X1_takeOver N (S_ (2 + u3)) (S_ 0)) (fun T5 =>
(zx_n (zx_sb S_ (2 + u3) T5) (fun T7 =>
f_X2_remember_j64 N  T7))))))))
def f_X2_remember (N : Nat) (S : zx_B) : Option (zx_B) :=
  (if (S 19 1 1) = 14 then
  (zx_n (((S 19 1 0) + 1) - ((S 19 1 0) + 1) / 14 * 14) (fun x9 =>
(zx_n (zx_sb S 19 (zx_st (S 19) 1 (upd (S 19 1) 0 x9))) (fun T10 =>
(zx_n (zx_sb T10 19 (zx_st (T10 19) 1 (upd (T10 19 1) 1 ((T10 19 1 1) - 1)))) (fun T11 =>
f_X2_remember_j32 N  T11)))))) else
  f_X2_remember_j32 N  S)
abbrev rmX2_remember : Room := { frames := 3, cells := 0, slots := 0, locals := 82 }
abbrev zsX2_remember : List Cond := .code yX2_remember cX2_remember 2 none :: wsL_law
theorem zyX2_remember : yX2_remember.cls ≠ "java/lang/invoke/MethodHandle" ∧ yX2_remember.cls ≠ "java/lang/invoke/VarHandle" ∧ (parseMethodDescriptor yX2_remember.desc).map (fun d => d.parameters.length) = some 0 := by decide +kernel
set_option maxHeartbeats 4000000 in
set_option maxRecDepth 100000 in
theorem c_X2_remember (l : Launch) (D : va_G) (cI cZ cT : ClassId) (h : Nat) (hh : Nat → Nat) (aa : Nat → Nat → Nat) (S : zx_B) (sz : Nat) (N : Nat) {R : zx_B} (hM : f_X2_remember N S = some R) : Met l yX2_remember zsX2_remember rmX2_remember (va_Pc [.ref h] (bS D (zx_ty cI cZ cT) (xW2 cI cT h hh aa S) sz)) (va_Qv (fun u => R = u) (fun u t => va_P D vwCl (xW2 cI cT h hh aa u) t.heap) (va_A (xW2 cI cT h hh aa S) sz)) 0 0 (va_A (xW2 cI cT h hh aa S) sz) := by
  refine Met.ofW (cc := cX2_remember) (maxL := 2) (ret := none) (by decide) rfl ?_
  intro p e s m args below meth c s₁ B hml hv
  obtain ⟨rfl, hsz, hP, hK, hD0, hN⟩ := hv
  have hx := B.exec
  have hb := B.bytes
  have hr := B.returns
  have hts : ∀ w ∈ wsL_law, w.before _ s = true := fun w hw => atoms_spec (ws := zsX2_remember) B.pre w (List.mem_cons_of_mem _ hw)
  have hown : s.vm.findClass RX2 = some m.cls := findClass_of_methodNamed B.named
  have hlocks := B.notSynchronized
  subst hsz
  have hD := hD0.self (sz := s.heap.size)
  generalize hAe : va_A (xW2 cI cT h hh aa S) s.heap.size = A at hD ⊢
  have hA : ∀ q : Nat, s.heap.size ≤ q → A q := fun q h => by rw [← hAe]; exact Or.inr h
  have hS : va_S A s.heap s.heap [] := va_S.rf
  have hl := lv_entry ([.ref h]) (n := 2) (Nat.le_of_ble_eq_true rfl)
  rw [lg_entry_eq]
  generalize (lg_sl ([.ref h]) ++ List.replicate (2 - (lg_sl ([.ref h])).length) Slot.unset).toArray = ls at hl ⊢
  have hl : lv_has ls 2 [(0, .ref h)] := hl
  generalize hQ : MQ below (va_Qv (fun u => R = u) (fun u t => va_P D vwCl (xW2 cI cT h hh aa u) t.heap) A) ([.ref h] : List Value).toArray s 0 0 A = Q9
  replace hQ := hQ.symm
  unfold f_X2_remember at hM
  have j32 : ∀ (S_ : zx_B) (H : Heap) (lc : List Loc) (ls : Array Slot), va_P D vwCl (xW2 cI cT h hh aa S_) H → va_D A (xW2 cI cT h hh aa S_) → va_S A s.heap H lc → lv_has ls 2 [(0, .ref h)] → f_X2_remember_j32 N S_ = some R → W p l e (headSpec zsX2_remember rmX2_remember).room s m ([.ref h] : List Value).toArray below meth c H lc 0 0 Q9 (F0 m 32 ls []) := by
    intro S_ H lc ls hP hD hS hl hM
    unfold f_X2_remember_j32 at hM
    have j64 : ∀ (S_ : zx_B) (H : Heap) (lc : List Loc) (ls : Array Slot), va_P D vwCl (xW2 cI cT h hh aa S_) H → va_D A (xW2 cI cT h hh aa S_) → va_S A s.heap H lc → lv_has ls 2 [(0, .ref h)] → f_X2_remember_j64 N S_ = some R → W p l e (headSpec zsX2_remember rmX2_remember).room s m ([.ref h] : List Value).toArray below meth c H lc 0 0 Q9 (F0 m 64 ls []) := by
      intro S_ H lc ls hP hD hS hl hM
      unfold f_X2_remember_j64 at hM
      refine lv_aload_n hx hb dX2_remember_64 rfl (lv_at hl 0 rfl) ?_
      refine lv_dup hx hb dX2_remember_65 rfl ?_
      refine va_get (D := D) (ci := 2) (v := .int (S_ 19 1 1)) (C := RX2) (T := TX2) (N := 8) hx hb hts inlX2 hown hK hP 0 rfl rfl 4 (by decide) (hts _ zw_10_8) (fun _ h9 => h9) rfl dX2_remember_66 ?_
      refine lv_iconst (v := 1) hx hb dX2_remember_69 (by decide) ?_
      refine lv_iadd hx hb dX2_remember_70 ?_
      obtain ⟨T1, eT1, hM⟩ := zx_nE hM
      refine va_put (D := D) (ci := 2) (v := .int ((S_ 19 1 1) + 1)) (ty := .int) (C := RX2) (T := TX2) (N := 8) hx hb hts inlX2 tyX2 tyX2_ok nmX2 hown hK hP hD hS 0 rfl rfl 4 (by decide) (hts _ zw_10_8) (fun _ h9 => h9) rfl (by decide +kernel) rfl rfl (Nat.le_of_ble_eq_true rfl) dX2_remember_71 (fun H lc hP _ hS => ?_)
      replace hP : va_P D vwCl (xW2 cI cT h hh aa T1) H := by rw [eT1]; exact xW2_pf4 hP
      replace hD : va_D A (xW2 cI cT h hh aa T1) := zx2_Da T1 hD
      rw [hQ]
      exact W.vret hx hb hr (fun t ht hW => ⟨⟨T1, rfl, (Option.some.inj hM).symm, by show va_P D vwCl _ t.heap; rw [ht]; exact hP⟩, hS.F ht⟩) hS.2.2 dX2_remember_74
    refine lv_aload_n hx hb dX2_remember_32 rfl (lv_at hl 0 rfl) ?_
    refine va_get (D := D) (ci := 2) (v := .ref (aa 19 1)) (C := RX2) (T := TX2) (N := 8) hx hb hts inlX2 hown hK hP 0 rfl rfl 2 (by decide) (hts _ zw_1_17) (fun _ h9 => h9) rfl dX2_remember_33 ?_
    refine lv_aload_n hx hb dX2_remember_36 rfl (lv_at hl 0 rfl) ?_
    refine va_get (D := D) (ci := 2) (v := .int (S_ 19 1 0)) (C := RX2) (T := TX2) (N := 8) hx hb hts inlX2 hown hK hP 0 rfl rfl 3 (by decide) (hts _ zw_10_9) (fun _ h9 => h9) rfl dX2_remember_37 ?_
    refine lv_aload_n hx hb dX2_remember_40 rfl (lv_at hl 0 rfl) ?_
    refine va_get (D := D) (ci := 2) (v := .int (S_ 19 1 1)) (C := RX2) (T := TX2) (N := 8) hx hb hts inlX2 hown hK hP 0 rfl rfl 4 (by decide) (hts _ zw_10_8) (fun _ h9 => h9) rfl dX2_remember_41 ?_
    refine lv_iadd hx hb dX2_remember_44 ?_
    refine lv_bipush (v := 14) hx hb dX2_remember_45 (by decide) ?_
    refine lv_irem hx hb dX2_remember_47 (by decide) ?_
    obtain ⟨x2, ex2, hM⟩ := zx_nE hM
    refine zx_top ex2 ?_
    obtain ⟨u3, hz4, hM⟩ := zx_b1E hM
    have hju3 : 2 + u3 < 18 := by have := f_X2_treeAt_lt hz4; omega
    refine va_callr (va_runS (As := [.ref (aa 19 1), .int x2]) (rest := []) ⟨hx, hb, hml, hown, hts⟩ (c_X2_treeAt l D cI cZ cT (aa 19 1) 14 (by decide) (fun i => hh (2 + i)) _ x2 hz4) (va_cwS 2 hts (zg_S zw_10_10 zw_10_11 zw_1_2 zw_10_12) rfl rfl rfl zyX2_treeAt ⟨Nat.le_of_ble_eq_true rfl, Nat.le_of_ble_eq_true rfl⟩) ⟨bS_blind, bS_pre (zx_P1 hP 2 rfl) hK (zx_D1 hD 2 rfl) hN⟩ rfl rfl hl.1 rfl (lv_room (Nat.le_of_ble_eq_true rfl)) dX2_remember_48 ⟨Nat.zero_le _, Nat.zero_le _⟩) hS (fun q h1 h2 => absurd h1 (Nat.not_lt.mpr h2)) (fun q h => hA q (Nat.le_trans hS.1 h)) (fun u ra t H1 lc ht hvm hw hB hz1 hk1 hS => ?_)
    replace hw : u3 = u := hw; subst hw; replace hB : ra = hh (2 + u3) := hB; subst hB
    replace hP := zx_keep hP hk1
    refine lv_astore_n (lv' := [(1, .ref (hh (2 + u3))), (0, .ref h)]) hx hb dX2_remember_51 rfl hl (by decide) rfl (fun ls hl => ?_)
    refine lv_aload_n hx hb dX2_remember_52 rfl (lv_at hl 0 rfl) ?_
    refine lv_ifnull hx hb dX2_remember_53 ?_
    refine lv_aload_n hx hb dX2_remember_56 rfl (lv_at hl 0 rfl) ?_
    refine lv_aload_n hx hb dX2_remember_57 rfl (lv_at hl 1 rfl) ?_
    refine va_get (D := D) (ci := 2) (v := .ref (hh 0)) (C := RX2) (T := TX2) (N := 8) hx hb hts inlX2 hown hK hP 0 rfl rfl 0 (by decide) (hts _ zw_1_15) (fun _ h9 => h9) rfl dX2_remember_58 ?_
    obtain ⟨T5, hz6, hM⟩ := zx_b1E hM
    refine va_callv (va_runV (As := [.ref (hh 0)]) (rest := []) ⟨hx, hb, hml, hown, hts⟩ (c_X1_takeOver l D cI cZ cT (hh (2 + u3)) (aa (2 + u3)) (S_ (2 + u3)) (hh 0) (aa 0) (S_ 0) _ N hz6) (cwV 1 hts (zg_V zw_10_13 zw_10_14 zw_10_15 zw_1_14 zw_10_16) rfl rfl rfl ⟨rfl, zyX1_takeOver⟩ ⟨Nat.le_of_ble_eq_true rfl, Nat.le_of_ble_eq_true rfl⟩) ⟨bS_blind, va_recv hK (zx2_P2 hju3 (show 0 < 18 by decide) hP) (ci := 1) (q0 := 0) rfl rfl, bS_pre (zx2_P2 hju3 (show 0 < 18 by decide) hP) hK (zx2_D2 hju3 (show 0 < 18 by decide) (by omega) hD) hN⟩ rfl rfl hl.1 rfl (lv_room (Nat.le_of_ble_eq_true rfl)) dX2_remember_61 ⟨Nat.zero_le _, Nat.zero_le _⟩) hS (fun q _ h => zx_fW (zx2_D2 hju3 (show 0 < 18 by decide) (by omega) hD) hS hA q h) (fun q h => zx_fW (zx2_D2 hju3 (show 0 < 18 by decide) (by omega) hD) hS hA q h) (fun u t H1 lc ht hvm hw hB hz1 hk1 hS => ?_)
    replace hw : T5 = u := hw; subst hw
    rw [ht] at hB
    replace hP := zx2_S2 hju3 (show 0 < 18 by decide) (by omega) hP hD hk1 hB
    obtain ⟨T7, eT7, hM⟩ := zx_nE hM
    rw [← eT7] at hP
    replace hD := zx2_Da T7 hD
    exact j64 T7 _ _ _ hP hD hS (lv_sub hl [1] rfl) hM
  refine lv_aload_n hx hb dX2_remember_0 rfl (lv_at hl 0 rfl) ?_
  refine va_get (D := D) (ci := 2) (v := .int (S 19 1 1)) (C := RX2) (T := TX2) (N := 8) hx hb hts inlX2 hown hK hP 0 rfl rfl 4 (by decide) (hts _ zw_10_8) (fun _ h9 => h9) rfl dX2_remember_1 ?_
  refine lv_bipush (v := 14) hx hb dX2_remember_4 (by decide) ?_
  refine lv_icmp_ne (tgt := 32) hx hb dX2_remember_6 (by decide) (fun q8 => ?_) (fun q8 => ?_)
  · replace hM := zx_f q8 hM
    exact j32 S _ _ _ hP hD hS (lv_sub hl [0] rfl) hM
  · replace hM := zx_t q8 hM
    refine lv_aload_n hx hb dX2_remember_9 rfl (lv_at hl 0 rfl) ?_
    refine lv_aload_n hx hb dX2_remember_10 rfl (lv_at hl 0 rfl) ?_
    refine va_get (D := D) (ci := 2) (v := .int (S 19 1 0)) (C := RX2) (T := TX2) (N := 8) hx hb hts inlX2 hown hK hP 0 rfl rfl 3 (by decide) (hts _ zw_10_9) (fun _ h9 => h9) rfl dX2_remember_11 ?_
    refine lv_iconst (v := 1) hx hb dX2_remember_14 (by decide) ?_
    refine lv_iadd hx hb dX2_remember_15 ?_
    refine lv_bipush (v := 14) hx hb dX2_remember_16 (by decide) ?_
    refine lv_irem hx hb dX2_remember_18 (by decide) ?_
    obtain ⟨x9, ex9, hM⟩ := zx_nE hM
    refine zx_top ex9 ?_
    obtain ⟨T10, eT10, hM⟩ := zx_nE hM
    refine va_put (D := D) (ci := 2) (v := .int x9) (ty := .int) (C := RX2) (T := TX2) (N := 8) hx hb hts inlX2 tyX2 tyX2_ok nmX2 hown hK hP hD hS 0 rfl rfl 3 (by decide) (hts _ zw_10_9) (fun _ h9 => h9) rfl (by decide +kernel) rfl rfl (Nat.le_of_ble_eq_true rfl) dX2_remember_19 (fun H lc hP _ hS => ?_)
    replace hP : va_P D vwCl (xW2 cI cT h hh aa T10) H := by rw [eT10]; exact xW2_pf3 hP
    replace hD : va_D A (xW2 cI cT h hh aa T10) := zx2_Da T10 hD
    refine lv_aload_n hx hb dX2_remember_22 rfl (lv_at hl 0 rfl) ?_
    refine lv_dup hx hb dX2_remember_23 rfl ?_
    refine va_get (D := D) (ci := 2) (v := .int (T10 19 1 1)) (C := RX2) (T := TX2) (N := 8) hx hb hts inlX2 hown hK hP 0 rfl rfl 4 (by decide) (hts _ zw_10_8) (fun _ h9 => h9) rfl dX2_remember_24 ?_
    refine lv_iconst (v := 1) hx hb dX2_remember_27 (by decide) ?_
    refine lv_isub hx hb dX2_remember_28 ?_
    obtain ⟨T11, eT11, hM⟩ := zx_nE hM
    refine va_put (D := D) (ci := 2) (v := .int ((T10 19 1 1) - 1)) (ty := .int) (C := RX2) (T := TX2) (N := 8) hx hb hts inlX2 tyX2 tyX2_ok nmX2 hown hK hP hD hS 0 rfl rfl 4 (by decide) (hts _ zw_10_8) (fun _ h9 => h9) rfl (by decide +kernel) rfl rfl (Nat.le_of_ble_eq_true rfl) dX2_remember_29 (fun H lc hP _ hS => ?_)
    replace hP : va_P D vwCl (xW2 cI cT h hh aa T11) H := by rw [eT11]; exact xW2_pf4 hP
    replace hD : va_D A (xW2 cI cT h hh aa T11) := zx2_Da T11 hD
    exact j32 T11 _ _ _ hP hD hS (lv_sub hl [0] rfl) hM

/-! ShallowBoxes.add(IIII)I -/
def f_X2_add (N : Nat) (p1 : Int32) (p2 : Int32) (p3 : Int32) (p4 : Int32) (S : zx_B) : Option (Int32 × (Nat × zx_B)) :=
  (zx_b1 (f_X2_isBox N p1 p2 p3 p4) (fun x1 =>
(if x1 = 0 then
  some (0, (1, S)) else
  (zx_b1 (f_X1_countRectangles N (S 0)) (fun x4 =>
(if x4 < 24 then
  (zx_b1 (f_X2_remember N S) (fun T7 =>
(zx_b1 (f_X1_lowestFreeNumber N (T7 0)) (fun x9 =>
(zx_b1 (f_X1_beginCall N (T7 0)) (fun T11 =>
(zx_n (zx_sb T7 0 T11) (fun T13 =>
(zx_b1 (f_X1_setBox N x9 p1 p2 p3 p4 (T13 0)) (fun T14 =>
(zx_n (zx_sb T13 0 T14) (fun T16 =>
(zx_b1 (f_X1_putIn N x9 (T16 0)) (fun T17 =>
(zx_n (zx_sb T16 0 T17) (fun T19 =>
some (x9, (0, T19)))))))))))))))))) else
  some (0, (2, S))))))))
abbrev rmX2_add : Room := { frames := 6, cells := 1, slots := 6, locals := 127 }
abbrev zsX2_add : List Cond := .code yX2_add cX2_add 6 (some .int) :: wsL_law
theorem zyX2_add : yX2_add.cls ≠ "java/lang/invoke/MethodHandle" ∧ yX2_add.cls ≠ "java/lang/invoke/VarHandle" ∧ (parseMethodDescriptor yX2_add.desc).map (fun d => d.parameters.length) = some 4 := by decide +kernel
set_option maxHeartbeats 4000000 in
set_option maxRecDepth 100000 in
theorem c_X2_add (l : Launch) (D : va_G) (cI cZ cT : ClassId) (hlt : l.stackTraces = false) (h : Nat) (hh : Nat → Nat) (aa : Nat → Nat → Nat) (S : zx_B) (sz : Nat) (N : Nat) (p1 : Int32) (p2 : Int32) (p3 : Int32) (p4 : Int32) {R : Int32 × (Nat × zx_B)} (hM : f_X2_add N p1 p2 p3 p4 S = some R) : vx_Met l yX2_add zsX2_add rmX2_add (va_Pc [.ref h, .int p1, .int p2, .int p3, .int p4] (bX D (zx_ty cI cZ cT) (xW2 cI cT h hh aa S) sz)) (va_Qi (fun r u => R = (r, (0, u))) (fun u t => va_P D vwCl (xW2 cI cT h hh aa u) t.heap) (va_A (xW2 cI cT h hh aa S) sz)) (vx_X (fun u : Nat × zx_B => R = (0, u) ∧ u.1 ≠ 0) (fun E u t => E = zx_E u.1 ∧ va_P D vwCl (xW2 cI cT h hh aa u.2) t.heap) (va_A (xW2 cI cT h hh aa S) sz)) 1 6 (va_A (xW2 cI cT h hh aa S) sz) := by
  refine vx_ofW (cc := cX2_add) (maxL := 6) (ret := (some .int)) (by decide) rfl ?_
  intro p e s m args below meth c s₁ B hml hout hv
  obtain ⟨rfl, ⟨hsz, hP, hK, hD0, hN⟩, hX⟩ := hv
  have hx := B.exec
  have hb := B.bytes
  have hr := B.returns
  have hts : ∀ w ∈ wsL_law, w.before _ s = true := fun w hw => atoms_spec (ws := zsX2_add) B.pre w (List.mem_cons_of_mem _ hw)
  have hown : s.vm.findClass RX2 = some m.cls := findClass_of_methodNamed B.named
  have hlocks := B.notSynchronized
  subst hsz
  have hD := hD0.self (sz := s.heap.size)
  generalize hAe : va_A (xW2 cI cT h hh aa S) s.heap.size = A at hD hX ⊢
  have hU := hX.1
  have hNN := hX.2.1
  have hXw := hX.2.2.1
  have hXs := hX.2.2.2
  have hA : ∀ q : Nat, s.heap.size ≤ q → A q := fun q h => by rw [← hAe]; exact Or.inr h
  have hS : va_S A s.heap s.heap [] := va_S.rf
  have hl := lv_entry ([.ref h, .int p1, .int p2, .int p3, .int p4]) (n := 6) (Nat.le_of_ble_eq_true rfl)
  rw [lg_entry_eq]
  generalize (lg_sl ([.ref h, .int p1, .int p2, .int p3, .int p4]) ++ List.replicate (6 - (lg_sl ([.ref h, .int p1, .int p2, .int p3, .int p4])).length) Slot.unset).toArray = ls at hl ⊢
  have hl : lv_has ls 6 [(0, .ref h), (1, .int p1), (2, .int p2), (3, .int p3), (4, .int p4)] := hl
  generalize hQ : vx_MQ below (va_Qi (fun r u => R = (r, (0, u))) (fun u t => va_P D vwCl (xW2 cI cT h hh aa u) t.heap) A) (vx_X (fun u : Nat × zx_B => R = (0, u) ∧ u.1 ≠ 0) (fun E u t => E = zx_E u.1 ∧ va_P D vwCl (xW2 cI cT h hh aa u.2) t.heap) A) ([.ref h, .int p1, .int p2, .int p3, .int p4] : List Value).toArray s 1 6 A = Q9
  replace hQ := hQ.symm
  unfold f_X2_add at hM
  refine lv_iload_n hx hb dX2_add_0 rfl (lv_at hl 1 rfl) ?_
  refine lv_iload_n hx hb dX2_add_1 rfl (lv_at hl 2 rfl) ?_
  refine lv_iload_n hx hb dX2_add_2 rfl (lv_at hl 3 rfl) ?_
  refine lv_iload hx hb dX2_add_3 (lv_at hl 4 rfl) ?_
  obtain ⟨x1, hz2, hM⟩ := zx_b1E hM
  refine va_calli (va_runS (As := [.int p1, .int p2, .int p3, .int p4]) (rest := []) ⟨hx, hb, hml, hown, hts⟩ (c_X2_isBox l D cI cZ cT _ N p1 p2 p3 p4 hz2) (va_cwS 4 hts (zg_S zw_17_20 zw_15_8 zw_1_2 zw_15_9) rfl rfl rfl zyX2_isBox ⟨Nat.le_of_ble_eq_true rfl, Nat.le_of_ble_eq_true rfl⟩) ⟨bS_blind, bS_pre (zx_P0 hP) hK (zx_D0 hD) hN⟩ rfl rfl hl.1 rfl (lv_room (Nat.le_of_ble_eq_true rfl)) dX2_add_5 ⟨Nat.zero_le _, Nat.zero_le _⟩) hS (fun q h1 h2 => absurd h1 (Nat.not_lt.mpr h2)) (fun q h => hA q (Nat.le_trans hS.1 h)) (fun r u t H1 lc ht hvm hw hB hz1 hk1 hS => ?_)
  replace hw : x1 = r := hw; subst hw
  replace hP := zx_keep hP hk1
  refine lv_if_ne (tgt := 21) hx hb dX2_add_8 (by decide) (fun q3 => ?_) (fun q3 => ?_)
  · replace hM := zx_f q3 hM
    refine lv_aload_n hx hb dX2_add_21 rfl (lv_at hl 0 rfl) ?_
    refine va_get (D := D) (ci := 2) (v := .ref (hh 0)) (C := RX2) (T := TX2) (N := 8) hx hb hts inlX2 hown hK hP 0 rfl rfl 0 (by decide) (hts _ zw_1_15) (fun _ h9 => h9) rfl dX2_add_22 ?_
    obtain ⟨x4, hz5, hM⟩ := zx_b1E hM
    refine va_calli (va_runV (As := []) (rest := []) ⟨hx, hb, hml, hown, hts⟩ (c_X1_countRectangles l D cI cZ cT (hh 0) (aa 0) (S 0) _ N hz5) (cwV 0 hts (zg_V zw_5_6 zw_5_7 zw_5_8 zw_1_14 zw_5_9) rfl rfl rfl ⟨rfl, zyX1_countRectangles⟩ ⟨Nat.le_of_ble_eq_true rfl, Nat.le_of_ble_eq_true rfl⟩) ⟨bS_blind, va_recv hK (zx2_P (show 0 < 18 by decide) hP) (ci := 1) (q0 := 0) rfl rfl, bS_pre (zx2_P (show 0 < 18 by decide) hP) hK (zx2_D (show 0 < 18 by decide) hD) hN⟩ rfl rfl hl.1 rfl (lv_room (Nat.le_of_ble_eq_true rfl)) dX2_add_25 ⟨Nat.zero_le _, Nat.zero_le _⟩) hS (fun q h1 h2 => absurd h1 (Nat.not_lt.mpr h2)) (fun q h => hA q (Nat.le_trans hS.1 h)) (fun r u t H1 lc ht hvm hw hB hz1 hk1 hS => ?_)
    replace hw : x4 = r := hw; subst hw
    replace hP := zx_keep hP hk1
    refine lv_bipush (v := 24) hx hb dX2_add_28 (by decide) ?_
    refine lv_icmp_lt (tgt := 43) hx hb dX2_add_30 (by decide) (fun q6 => ?_) (fun q6 => ?_)
    · replace hM := zx_t q6 hM
      refine lv_aload_n hx hb dX2_add_43 rfl (lv_at hl 0 rfl) ?_
      obtain ⟨T7, hz8, hM⟩ := zx_b1E hM
      refine va_callv (va_runV (As := []) (rest := []) ⟨hx, hb, hml, hown, hts⟩ (c_X2_remember l D cI cZ cT h hh aa S _ N hz8) (cwV 0 hts (zg_V zw_10_4 zw_10_5 zw_10_6 zw_1_2 zw_10_7) rfl rfl rfl ⟨rfl, zyX2_remember⟩ ⟨Nat.le_of_ble_eq_true rfl, Nat.le_of_ble_eq_true rfl⟩) ⟨bS_blind, va_recv hK hP (ci := 2) (q0 := 0) rfl rfl, bS_pre hP hK hD hN⟩ rfl rfl hl.1 rfl (lv_room (Nat.le_of_ble_eq_true rfl)) dX2_add_44 ⟨Nat.zero_le _, Nat.zero_le _⟩) hS (fun q _ h => zx_fW hD hS hA q h) (fun q h => zx_fW hD hS hA q h) (fun u t H1 lc ht hvm hw hB hz1 hk1 hS => ?_)
      replace hw : T7 = u := hw; subst hw
      rw [ht] at hB
      replace hP := hB
      replace hD := zx2_Da T7 hD
      refine lv_aload_n hx hb dX2_add_47 rfl (lv_at hl 0 rfl) ?_
      refine va_get (D := D) (ci := 2) (v := .ref (hh 0)) (C := RX2) (T := TX2) (N := 8) hx hb hts inlX2 hown hK hP 0 rfl rfl 0 (by decide) (hts _ zw_1_15) (fun _ h9 => h9) rfl dX2_add_48 ?_
      obtain ⟨x9, hz10, hM⟩ := zx_b1E hM
      refine va_calli (va_runV (As := []) (rest := []) ⟨hx, hb, hml, hown, hts⟩ (c_X1_lowestFreeNumber l D cI cZ cT (hh 0) (aa 0) (T7 0) _ N hz10) (cwV 0 hts (zg_V zw_11_4 zw_11_5 zw_11_6 zw_1_14 zw_11_7) rfl rfl rfl ⟨rfl, zyX1_lowestFreeNumber⟩ ⟨Nat.le_of_ble_eq_true rfl, Nat.le_of_ble_eq_true rfl⟩) ⟨bS_blind, va_recv hK (zx2_P (show 0 < 18 by decide) hP) (ci := 1) (q0 := 0) rfl rfl, bS_pre (zx2_P (show 0 < 18 by decide) hP) hK (zx2_D (show 0 < 18 by decide) hD) hN⟩ rfl rfl hl.1 rfl (lv_room (Nat.le_of_ble_eq_true rfl)) dX2_add_51 ⟨Nat.zero_le _, Nat.zero_le _⟩) hS (fun q h1 h2 => absurd h1 (Nat.not_lt.mpr h2)) (fun q h => hA q (Nat.le_trans hS.1 h)) (fun r u t H1 lc ht hvm hw hB hz1 hk1 hS => ?_)
      replace hw : x9 = r := hw; subst hw
      replace hP := zx_keep hP hk1
      refine lv_istore (lv' := [(5, .int x9), (0, .ref h), (1, .int p1), (2, .int p2), (3, .int p3), (4, .int p4)]) hx hb dX2_add_54 hl (by decide) rfl (fun ls hl => ?_)
      refine lv_aload_n hx hb dX2_add_56 rfl (lv_at hl 1 rfl) ?_
      refine va_get (D := D) (ci := 2) (v := .ref (hh 0)) (C := RX2) (T := TX2) (N := 8) hx hb hts inlX2 hown hK hP 0 rfl rfl 0 (by decide) (hts _ zw_1_15) (fun _ h9 => h9) rfl dX2_add_57 ?_
      obtain ⟨T11, hz12, hM⟩ := zx_b1E hM
      refine va_callv (va_runV (As := []) (rest := []) ⟨hx, hb, hml, hown, hts⟩ (c_X1_beginCall l D cI cZ cT (hh 0) (aa 0) (T7 0) _ N hz12) (cwV 0 hts (zg_V zw_11_0 zw_11_1 zw_11_2 zw_1_14 zw_11_3) rfl rfl rfl ⟨rfl, zyX1_beginCall⟩ ⟨Nat.le_of_ble_eq_true rfl, Nat.le_of_ble_eq_true rfl⟩) ⟨bS_blind, va_recv hK (zx2_P (show 0 < 18 by decide) hP) (ci := 1) (q0 := 0) rfl rfl, bS_pre (zx2_P (show 0 < 18 by decide) hP) hK (zx2_D (show 0 < 18 by decide) hD) hN⟩ rfl rfl hl.1 rfl (lv_room (Nat.le_of_ble_eq_true rfl)) dX2_add_60 ⟨Nat.zero_le _, Nat.zero_le _⟩) hS (fun q _ h => zx_fW (zx2_D (show 0 < 18 by decide) hD) hS hA q h) (fun q h => zx_fW (zx2_D (show 0 < 18 by decide) hD) hS hA q h) (fun u t H1 lc ht hvm hw hB hz1 hk1 hS => ?_)
      replace hw : T11 = u := hw; subst hw
      rw [ht] at hB
      replace hP := zx2_S (show 0 < 18 by decide) hP hD hk1 hB
      obtain ⟨T13, eT13, hM⟩ := zx_nE hM
      rw [← eT13] at hP
      replace hD := zx2_Da T13 hD
      refine lv_aload_n hx hb dX2_add_63 rfl (lv_at hl 1 rfl) ?_
      refine va_get (D := D) (ci := 2) (v := .ref (hh 0)) (C := RX2) (T := TX2) (N := 8) hx hb hts inlX2 hown hK hP 0 rfl rfl 0 (by decide) (hts _ zw_1_15) (fun _ h9 => h9) rfl dX2_add_64 ?_
      refine lv_iload hx hb dX2_add_67 (lv_at hl 0 rfl) ?_
      refine lv_iload_n hx hb dX2_add_69 rfl (lv_at hl 2 rfl) ?_
      refine lv_iload_n hx hb dX2_add_70 rfl (lv_at hl 3 rfl) ?_
      refine lv_iload_n hx hb dX2_add_71 rfl (lv_at hl 4 rfl) ?_
      refine lv_iload hx hb dX2_add_72 (lv_at hl 5 rfl) ?_
      obtain ⟨T14, hz15, hM⟩ := zx_b1E hM
      refine va_callv (va_runV (As := [.int x9, .int p1, .int p2, .int p3, .int p4]) (rest := []) ⟨hx, hb, hml, hown, hts⟩ (c_X1_setBox l D cI cZ cT (hh 0) (aa 0) (T13 0) _ N x9 p1 p2 p3 p4 hz15) (cwV 5 hts (zg_V zw_11_12 zw_11_13 zw_11_14 zw_1_14 zw_11_15) rfl rfl rfl ⟨rfl, zyX1_setBox⟩ ⟨Nat.le_of_ble_eq_true rfl, Nat.le_of_ble_eq_true rfl⟩) ⟨bS_blind, va_recv hK (zx2_P (show 0 < 18 by decide) hP) (ci := 1) (q0 := 0) rfl rfl, bS_pre (zx2_P (show 0 < 18 by decide) hP) hK (zx2_D (show 0 < 18 by decide) hD) hN⟩ rfl rfl hl.1 rfl (lv_room (Nat.le_of_ble_eq_true rfl)) dX2_add_74 ⟨Nat.zero_le _, Nat.zero_le _⟩) hS (fun q _ h => zx_fW (zx2_D (show 0 < 18 by decide) hD) hS hA q h) (fun q h => zx_fW (zx2_D (show 0 < 18 by decide) hD) hS hA q h) (fun u t H1 lc ht hvm hw hB hz1 hk1 hS => ?_)
      replace hw : T14 = u := hw; subst hw
      rw [ht] at hB
      replace hP := zx2_S (show 0 < 18 by decide) hP hD hk1 hB
      obtain ⟨T16, eT16, hM⟩ := zx_nE hM
      rw [← eT16] at hP
      replace hD := zx2_Da T16 hD
      refine lv_aload_n hx hb dX2_add_77 rfl (lv_at hl 1 rfl) ?_
      refine va_get (D := D) (ci := 2) (v := .ref (hh 0)) (C := RX2) (T := TX2) (N := 8) hx hb hts inlX2 hown hK hP 0 rfl rfl 0 (by decide) (hts _ zw_1_15) (fun _ h9 => h9) rfl dX2_add_78 ?_
      refine lv_iload hx hb dX2_add_81 (lv_at hl 0 rfl) ?_
      obtain ⟨T17, hz18, hM⟩ := zx_b1E hM
      refine va_callv (va_runV (As := [.int x9]) (rest := []) ⟨hx, hb, hml, hown, hts⟩ (c_X1_putIn l D cI cZ cT (hh 0) (aa 0) (T16 0) _ N x9 hz18) (cwV 1 hts (zg_V zw_11_16 zw_11_17 zw_11_18 zw_1_14 zw_11_19) rfl rfl rfl ⟨rfl, zyX1_putIn⟩ ⟨Nat.le_of_ble_eq_true rfl, Nat.le_of_ble_eq_true rfl⟩) ⟨bS_blind, va_recv hK (zx2_P (show 0 < 18 by decide) hP) (ci := 1) (q0 := 0) rfl rfl, bS_pre (zx2_P (show 0 < 18 by decide) hP) hK (zx2_D (show 0 < 18 by decide) hD) hN⟩ rfl rfl hl.1 rfl (lv_room (Nat.le_of_ble_eq_true rfl)) dX2_add_83 ⟨Nat.zero_le _, Nat.zero_le _⟩) hS (fun q _ h => zx_fW (zx2_D (show 0 < 18 by decide) hD) hS hA q h) (fun q h => zx_fW (zx2_D (show 0 < 18 by decide) hD) hS hA q h) (fun u t H1 lc ht hvm hw hB hz1 hk1 hS => ?_)
      replace hw : T17 = u := hw; subst hw
      rw [ht] at hB
      replace hP := zx2_S (show 0 < 18 by decide) hP hD hk1 hB
      obtain ⟨T19, eT19, hM⟩ := zx_nE hM
      rw [← eT19] at hP
      replace hD := zx2_Da T19 hD
      refine lv_iload hx hb dX2_add_86 (lv_at hl 0 rfl) ?_
      rw [hQ]
      refine vx_ret ?_
      refine W.widen (k := 1) (n := 6) (Nat.le_of_ble_eq_true rfl) (Nat.le_of_ble_eq_true rfl) ?_
      exact W.iret hx hb hr (fun t ht hW => ⟨⟨x9, T19, rfl, (Option.some.inj hM).symm, by show va_P D vwCl _ t.heap; rw [ht]; exact hP⟩, hS.F ht⟩) hS.2.2 dX2_add_88
    · replace hM := zx_f q6 hM
      rw [hQ]
      exact zx_thr2 hx hb hlt hown (hts _ zw_4_16) (hts _ zw_4_17) (hXs _ _ (zx_str_132)) hts hXw hU hNN hS (hl.1.trans hml.symm) dX2_add_33 dX2_add_36 dX2_add_37 dX2_add_39 dX2_add_42 hout (Nat.le_of_ble_eq_true rfl) (Nat.le_of_ble_eq_true rfl) (Nat.le_of_ble_eq_true rfl) (Nat.le_of_ble_eq_true rfl) hlocks (fun t hvm hz hk => zx_XC (Option.some.inj hM).symm (by decide) rfl hP hS hz hk) hS.2.2 (Nat.le_of_ble_eq_true rfl) (Nat.le_of_ble_eq_true rfl)
  · replace hM := zx_t q3 hM
    rw [hQ]
    exact zx_thr1 hx hb hlt hown (hts _ zw_4_14) (hts _ zw_4_15) (hXs _ _ (zx_str_130)) hts hXw hU hNN hS (hl.1.trans hml.symm) dX2_add_11 dX2_add_14 dX2_add_15 dX2_add_17 dX2_add_20 hout (Nat.le_of_ble_eq_true rfl) (Nat.le_of_ble_eq_true rfl) (Nat.le_of_ble_eq_true rfl) (Nat.le_of_ble_eq_true rfl) hlocks (fun t hvm hz hk => zx_XC (Option.some.inj hM).symm (by decide) rfl hP hS hz hk) hS.2.2 (Nat.le_of_ble_eq_true rfl) (Nat.le_of_ble_eq_true rfl)

/-! ShallowBoxes.addAll()I -/
def f_X2_addAll_l64 (N : Nat) : Nat → Int32 → zx_B → Option (Int32 × (Nat × zx_B))
  | 0, _, _ => none
  | n64 + 1, v1, S_ => (if (S_ 18 2 1) ≤ v1 then
  (zx_b1 (f_X1_countRectangles N (S_ 0)) (fun x10 =>
some (x10, (0, S_)))) else
  (zx_b1 (f_X1_lowestFreeNumber N (S_ 0)) (fun x12 =>
(zx_b1 (f_X0_corner N v1 0 (S_ 18)) (fun x14 =>
(zx_b1 (f_X0_corner N v1 1 (S_ 18)) (fun x16 =>
(zx_b1 (f_X0_corner N v1 2 (S_ 18)) (fun x18 =>
(zx_b1 (f_X0_corner N v1 3 (S_ 18)) (fun x20 =>
(zx_b1 (f_X1_setBox N x12 x14 x16 x18 x20 (S_ 0)) (fun T22 =>
(zx_n (zx_sb S_ 0 T22) (fun T24 =>
(zx_b1 (f_X1_putIn N x12 (T24 0)) (fun T25 =>
(zx_n (zx_sb T24 0 T25) (fun T27 =>
(zx_n (v1 + 1) (fun x28 =>
f_X2_addAll_l64 N  n64 x28 T27)))))))))))))))))))))
def f_X2_addAll (N : Nat) (S : zx_B) : Option (Int32 × (Nat × zx_B)) :=
  (zx_b2 (f_X0_read N (S 18)) (fun x1 T2 =>
(zx_n (zx_sb S 18 T2) (fun T4 =>
(if x1 = (-1) then
  (zx_b1 (f_X1_countRectangles N (T4 0)) (fun x6 =>
(if (x6 + (T4 18 2 1)) ≤ 24 then
  (zx_b1 (f_X2_remember N T4) (fun T29 =>
(zx_b1 (f_X1_beginCall N (T29 0)) (fun T31 =>
(zx_n (zx_sb T29 0 T31) (fun T33 =>
f_X2_addAll_l64 N  N 0 T33)))))) else
  some (0, (2, T4))))) else
  some (0, (2, T4)))))))
abbrev rmX2_addAll : Room := { frames := 6, cells := 1, slots := 6, locals := 127 }
abbrev zsX2_addAll : List Cond := .code yX2_addAll cX2_addAll 3 (some .int) :: wsL_law
theorem zyX2_addAll : yX2_addAll.cls ≠ "java/lang/invoke/MethodHandle" ∧ yX2_addAll.cls ≠ "java/lang/invoke/VarHandle" ∧ (parseMethodDescriptor yX2_addAll.desc).map (fun d => d.parameters.length) = some 0 := by decide +kernel
set_option maxHeartbeats 4000000 in
set_option maxRecDepth 100000 in
theorem c_X2_addAll (l : Launch) (D : va_G) (cI cZ cT : ClassId) (hlt : l.stackTraces = false) (h : Nat) (hh : Nat → Nat) (aa : Nat → Nat → Nat) (S : zx_B) (sz : Nat) (N : Nat) {R : Int32 × (Nat × zx_B)} (hM : f_X2_addAll N S = some R) : vx_Met l yX2_addAll zsX2_addAll rmX2_addAll (va_Pc [.ref h] (bX D (zx_ty cI cZ cT) (xW2 cI cT h hh aa S) sz)) (va_Qi (fun r u => R = (r, (0, u))) (fun u t => va_P D vwCl (xW2 cI cT h hh aa u) t.heap) (va_A (xW2 cI cT h hh aa S) sz)) (vx_X (fun u : Nat × zx_B => R = (0, u) ∧ u.1 ≠ 0) (fun E u t => E = zx_E u.1 ∧ va_P D vwCl (xW2 cI cT h hh aa u.2) t.heap) (va_A (xW2 cI cT h hh aa S) sz)) 1 6 (va_A (xW2 cI cT h hh aa S) sz) := by
  refine vx_ofW (cc := cX2_addAll) (maxL := 3) (ret := (some .int)) (by decide) rfl ?_
  intro p e s m args below meth c s₁ B hml hout hv
  obtain ⟨rfl, ⟨hsz, hP, hK, hD0, hN⟩, hX⟩ := hv
  have hx := B.exec
  have hb := B.bytes
  have hr := B.returns
  have hts : ∀ w ∈ wsL_law, w.before _ s = true := fun w hw => atoms_spec (ws := zsX2_addAll) B.pre w (List.mem_cons_of_mem _ hw)
  have hown : s.vm.findClass RX2 = some m.cls := findClass_of_methodNamed B.named
  have hlocks := B.notSynchronized
  subst hsz
  have hD := hD0.self (sz := s.heap.size)
  generalize hAe : va_A (xW2 cI cT h hh aa S) s.heap.size = A at hD hX ⊢
  have hU := hX.1
  have hNN := hX.2.1
  have hXw := hX.2.2.1
  have hXs := hX.2.2.2
  have hA : ∀ q : Nat, s.heap.size ≤ q → A q := fun q h => by rw [← hAe]; exact Or.inr h
  have hS : va_S A s.heap s.heap [] := va_S.rf
  have hl := lv_entry ([.ref h]) (n := 3) (Nat.le_of_ble_eq_true rfl)
  rw [lg_entry_eq]
  generalize (lg_sl ([.ref h]) ++ List.replicate (3 - (lg_sl ([.ref h])).length) Slot.unset).toArray = ls at hl ⊢
  have hl : lv_has ls 3 [(0, .ref h)] := hl
  generalize hQ : vx_MQ below (va_Qi (fun r u => R = (r, (0, u))) (fun u t => va_P D vwCl (xW2 cI cT h hh aa u) t.heap) A) (vx_X (fun u : Nat × zx_B => R = (0, u) ∧ u.1 ≠ 0) (fun E u t => E = zx_E u.1 ∧ va_P D vwCl (xW2 cI cT h hh aa u.2) t.heap) A) ([.ref h] : List Value).toArray s 1 6 A = Q9
  replace hQ := hQ.symm
  unfold f_X2_addAll at hM
  refine lv_aload_n hx hb dX2_addAll_0 rfl (lv_at hl 0 rfl) ?_
  refine va_get (D := D) (ci := 2) (v := .ref (hh 18)) (C := RX2) (T := TX2) (N := 8) hx hb hts inlX2 hown hK hP 0 rfl rfl 7 (by decide) (hts _ zw_2_0) (fun _ h9 => h9) rfl dX2_addAll_1 ?_
  obtain ⟨x1, T2, hz3, hM⟩ := zx_b2E hM
  refine va_calli (va_runV (As := []) (rest := []) ⟨hx, hb, hml, hown, hts⟩ (c_X0_read l D cI cZ cT (hh 18) (aa 18) (S 18) _ N hz3) (cwV 0 hts (zg_V zw_9_9 zw_9_10 zw_9_11 zw_1_23 zw_9_12) rfl rfl rfl ⟨rfl, zyX0_read⟩ ⟨Nat.le_of_ble_eq_true rfl, Nat.le_of_ble_eq_true rfl⟩) ⟨bS_blind, va_recv hK (zx2_Pt hP) (ci := 0) (q0 := 0) rfl rfl, bS_pre (zx2_Pt hP) hK (zx2_Dt hD) hN⟩ rfl rfl hl.1 rfl (lv_room (Nat.le_of_ble_eq_true rfl)) dX2_addAll_4 ⟨Nat.zero_le _, Nat.zero_le _⟩) hS (fun q _ h => zx_fW (zx2_Dt hD) hS hA q h) (fun q h => zx_fW (zx2_Dt hD) hS hA q h) (fun r u t H1 lc ht hvm hw hB hz1 hk1 hS => ?_)
  obtain ⟨hw1, hw2⟩ := Prod.mk.inj hw; subst hw1; subst hw2
  rw [ht] at hB
  replace hP := zx2_St hP hD hk1 hB
  obtain ⟨T4, eT4, hM⟩ := zx_nE hM
  rw [← eT4] at hP
  replace hD := zx2_Da T4 hD
  refine lv_iconst (v := (-1)) hx hb dX2_addAll_7 (by decide) ?_
  refine lv_icmp_eq (tgt := 21) hx hb dX2_addAll_8 (by decide) (fun q5 => ?_) (fun q5 => ?_)
  · replace hM := zx_t q5 hM
    refine lv_aload_n hx hb dX2_addAll_21 rfl (lv_at hl 0 rfl) ?_
    refine va_get (D := D) (ci := 2) (v := .ref (hh 0)) (C := RX2) (T := TX2) (N := 8) hx hb hts inlX2 hown hK hP 0 rfl rfl 0 (by decide) (hts _ zw_1_15) (fun _ h9 => h9) rfl dX2_addAll_22 ?_
    obtain ⟨x6, hz7, hM⟩ := zx_b1E hM
    refine va_calli (va_runV (As := []) (rest := []) ⟨hx, hb, hml, hown, hts⟩ (c_X1_countRectangles l D cI cZ cT (hh 0) (aa 0) (T4 0) _ N hz7) (cwV 0 hts (zg_V zw_5_6 zw_5_7 zw_5_8 zw_1_14 zw_5_9) rfl rfl rfl ⟨rfl, zyX1_countRectangles⟩ ⟨Nat.le_of_ble_eq_true rfl, Nat.le_of_ble_eq_true rfl⟩) ⟨bS_blind, va_recv hK (zx2_P (show 0 < 18 by decide) hP) (ci := 1) (q0 := 0) rfl rfl, bS_pre (zx2_P (show 0 < 18 by decide) hP) hK (zx2_D (show 0 < 18 by decide) hD) hN⟩ rfl rfl hl.1 rfl (lv_room (Nat.le_of_ble_eq_true rfl)) dX2_addAll_25 ⟨Nat.zero_le _, Nat.zero_le _⟩) hS (fun q h1 h2 => absurd h1 (Nat.not_lt.mpr h2)) (fun q h => hA q (Nat.le_trans hS.1 h)) (fun r u t H1 lc ht hvm hw hB hz1 hk1 hS => ?_)
    replace hw : x6 = r := hw; subst hw
    replace hP := zx_keep hP hk1
    refine lv_aload_n hx hb dX2_addAll_28 rfl (lv_at hl 0 rfl) ?_
    refine va_get (D := D) (ci := 2) (v := .ref (hh 18)) (C := RX2) (T := TX2) (N := 8) hx hb hts inlX2 hown hK hP 0 rfl rfl 7 (by decide) (hts _ zw_2_0) (fun _ h9 => h9) rfl dX2_addAll_29 ?_
    refine va_getN (D := D) (ci := 0) (v := .int (T4 18 2 1)) (C := RX0) (T := TX0) (N := 6) (host := RX2) hx hb hts inlX0 hown hK (zx2_Pt hP) 0 rfl rfl 3 (by decide) (va_Nw.use rfl (hN _ zx_nw_X2_153)) (fun _ h9 => h9) rfl dX2_addAll_32 ?_
    refine lv_iadd hx hb dX2_addAll_35 ?_
    refine lv_bipush (v := 24) hx hb dX2_addAll_36 (by decide) ?_
    refine lv_icmp_le (tgt := 51) hx hb dX2_addAll_38 (by decide) (fun q8 => ?_) (fun q8 => ?_)
    · replace hM := zx_t q8 hM
      have l64 : ∀ (n64 : Nat) (v1 : Int32) (S_ : zx_B) (H : Heap) (lc : List Loc) (ls : Array Slot), va_P D vwCl (xW2 cI cT h hh aa S_) H → va_D A (xW2 cI cT h hh aa S_) → va_S A s.heap H lc → lv_has ls 3 [(0, .ref h), (1, .int v1)] → f_X2_addAll_l64 N n64 v1 S_ = some R → W p l e (headSpec zsX2_addAll rmX2_addAll).room s m ([.ref h] : List Value).toArray below meth c H lc 0 0 Q9 (F0 m 64 ls []) := by
        intro n64
        induction n64 with
        | zero =>
          intro v1 S_ H lc ls hP hD hS hl hM
          rw [f_X2_addAll_l64] at hM; exact absurd hM (by intro h; cases h)
        | succ n64 ih64 =>
          intro v1 S_ H lc ls hP hD hS hl hM
          rw [f_X2_addAll_l64] at hM
          refine lv_iload_n hx hb dX2_addAll_64 rfl (lv_at hl 1 rfl) ?_
          refine lv_aload_n hx hb dX2_addAll_65 rfl (lv_at hl 0 rfl) ?_
          refine va_get (D := D) (ci := 2) (v := .ref (hh 18)) (C := RX2) (T := TX2) (N := 8) hx hb hts inlX2 hown hK hP 0 rfl rfl 7 (by decide) (hts _ zw_2_0) (fun _ h9 => h9) rfl dX2_addAll_66 ?_
          refine va_getN (D := D) (ci := 0) (v := .int (S_ 18 2 1)) (C := RX0) (T := TX0) (N := 6) (host := RX2) hx hb hts inlX0 hown hK (zx2_Pt hP) 0 rfl rfl 3 (by decide) (va_Nw.use rfl (hN _ zx_nw_X2_153)) (fun _ h9 => h9) rfl dX2_addAll_69 ?_
          refine lv_icmp_ge (tgt := 141) hx hb dX2_addAll_72 (by decide) (fun q9 => ?_) (fun q9 => ?_)
          · replace hM := zx_t q9 hM
            refine lv_aload_n hx hb dX2_addAll_141 rfl (lv_at hl 0 rfl) ?_
            refine va_get (D := D) (ci := 2) (v := .ref (hh 0)) (C := RX2) (T := TX2) (N := 8) hx hb hts inlX2 hown hK hP 0 rfl rfl 0 (by decide) (hts _ zw_1_15) (fun _ h9 => h9) rfl dX2_addAll_142 ?_
            obtain ⟨x10, hz11, hM⟩ := zx_b1E hM
            refine va_calli (va_runV (As := []) (rest := []) ⟨hx, hb, hml, hown, hts⟩ (c_X1_countRectangles l D cI cZ cT (hh 0) (aa 0) (S_ 0) _ N hz11) (cwV 0 hts (zg_V zw_5_6 zw_5_7 zw_5_8 zw_1_14 zw_5_9) rfl rfl rfl ⟨rfl, zyX1_countRectangles⟩ ⟨Nat.le_of_ble_eq_true rfl, Nat.le_of_ble_eq_true rfl⟩) ⟨bS_blind, va_recv hK (zx2_P (show 0 < 18 by decide) hP) (ci := 1) (q0 := 0) rfl rfl, bS_pre (zx2_P (show 0 < 18 by decide) hP) hK (zx2_D (show 0 < 18 by decide) hD) hN⟩ rfl rfl hl.1 rfl (lv_room (Nat.le_of_ble_eq_true rfl)) dX2_addAll_145 ⟨Nat.zero_le _, Nat.zero_le _⟩) hS (fun q h1 h2 => absurd h1 (Nat.not_lt.mpr h2)) (fun q h => hA q (Nat.le_trans hS.1 h)) (fun r u t H1 lc ht hvm hw hB hz1 hk1 hS => ?_)
            replace hw : x10 = r := hw; subst hw
            replace hP := zx_keep hP hk1
            rw [hQ]
            refine vx_ret ?_
            refine W.widen (k := 1) (n := 6) (Nat.le_of_ble_eq_true rfl) (Nat.le_of_ble_eq_true rfl) ?_
            exact W.iret hx hb hr (fun t ht hW => ⟨⟨x10, S_, rfl, (Option.some.inj hM).symm, by show va_P D vwCl _ t.heap; rw [ht]; exact hP⟩, hS.F ht⟩) hS.2.2 dX2_addAll_148
          · replace hM := zx_f q9 hM
            refine lv_aload_n hx hb dX2_addAll_75 rfl (lv_at hl 0 rfl) ?_
            refine va_get (D := D) (ci := 2) (v := .ref (hh 0)) (C := RX2) (T := TX2) (N := 8) hx hb hts inlX2 hown hK hP 0 rfl rfl 0 (by decide) (hts _ zw_1_15) (fun _ h9 => h9) rfl dX2_addAll_76 ?_
            obtain ⟨x12, hz13, hM⟩ := zx_b1E hM
            refine va_calli (va_runV (As := []) (rest := []) ⟨hx, hb, hml, hown, hts⟩ (c_X1_lowestFreeNumber l D cI cZ cT (hh 0) (aa 0) (S_ 0) _ N hz13) (cwV 0 hts (zg_V zw_11_4 zw_11_5 zw_11_6 zw_1_14 zw_11_7) rfl rfl rfl ⟨rfl, zyX1_lowestFreeNumber⟩ ⟨Nat.le_of_ble_eq_true rfl, Nat.le_of_ble_eq_true rfl⟩) ⟨bS_blind, va_recv hK (zx2_P (show 0 < 18 by decide) hP) (ci := 1) (q0 := 0) rfl rfl, bS_pre (zx2_P (show 0 < 18 by decide) hP) hK (zx2_D (show 0 < 18 by decide) hD) hN⟩ rfl rfl hl.1 rfl (lv_room (Nat.le_of_ble_eq_true rfl)) dX2_addAll_79 ⟨Nat.zero_le _, Nat.zero_le _⟩) hS (fun q h1 h2 => absurd h1 (Nat.not_lt.mpr h2)) (fun q h => hA q (Nat.le_trans hS.1 h)) (fun r u t H1 lc ht hvm hw hB hz1 hk1 hS => ?_)
            replace hw : x12 = r := hw; subst hw
            replace hP := zx_keep hP hk1
            refine lv_istore_n (lv' := [(2, .int x12), (0, .ref h), (1, .int v1)]) hx hb dX2_addAll_82 rfl hl (by decide) rfl (fun ls hl => ?_)
            refine lv_aload_n hx hb dX2_addAll_83 rfl (lv_at hl 1 rfl) ?_
            refine va_get (D := D) (ci := 2) (v := .ref (hh 0)) (C := RX2) (T := TX2) (N := 8) hx hb hts inlX2 hown hK hP 0 rfl rfl 0 (by decide) (hts _ zw_1_15) (fun _ h9 => h9) rfl dX2_addAll_84 ?_
            refine lv_iload_n hx hb dX2_addAll_87 rfl (lv_at hl 0 rfl) ?_
            refine lv_aload_n hx hb dX2_addAll_88 rfl (lv_at hl 1 rfl) ?_
            refine va_get (D := D) (ci := 2) (v := .ref (hh 18)) (C := RX2) (T := TX2) (N := 8) hx hb hts inlX2 hown hK hP 0 rfl rfl 7 (by decide) (hts _ zw_2_0) (fun _ h9 => h9) rfl dX2_addAll_89 ?_
            refine lv_iload_n hx hb dX2_addAll_92 rfl (lv_at hl 2 rfl) ?_
            refine lv_iconst (v := 0) hx hb dX2_addAll_93 (by decide) ?_
            obtain ⟨x14, hz15, hM⟩ := zx_b1E hM
            refine va_calli (va_runV (As := [.int v1, .int 0]) (rest := [.int x12, .ref (hh 0)]) ⟨hx, hb, hml, hown, hts⟩ (c_X0_corner l D cI cZ cT (hh 18) (aa 18) (S_ 18) _ N v1 0 hz15) (cwV 2 hts (zg_V zw_11_8 zw_11_9 zw_11_10 zw_1_23 zw_11_11) rfl rfl rfl ⟨rfl, zyX0_corner⟩ ⟨Nat.le_of_ble_eq_true rfl, Nat.le_of_ble_eq_true rfl⟩) ⟨bS_blind, va_recv hK (zx2_Pt hP) (ci := 0) (q0 := 0) rfl rfl, bS_pre (zx2_Pt hP) hK (zx2_Dt hD) hN⟩ rfl rfl hl.1 rfl (lv_room (Nat.le_of_ble_eq_true rfl)) dX2_addAll_94 ⟨Nat.zero_le _, Nat.zero_le _⟩) hS (fun q h1 h2 => absurd h1 (Nat.not_lt.mpr h2)) (fun q h => hA q (Nat.le_trans hS.1 h)) (fun r u t H1 lc ht hvm hw hB hz1 hk1 hS => ?_)
            replace hw : x14 = r := hw; subst hw
            replace hP := zx_keep hP hk1
            refine lv_aload_n hx hb dX2_addAll_97 rfl (lv_at hl 1 rfl) ?_
            refine va_get (D := D) (ci := 2) (v := .ref (hh 18)) (C := RX2) (T := TX2) (N := 8) hx hb hts inlX2 hown hK hP 0 rfl rfl 7 (by decide) (hts _ zw_2_0) (fun _ h9 => h9) rfl dX2_addAll_98 ?_
            refine lv_iload_n hx hb dX2_addAll_101 rfl (lv_at hl 2 rfl) ?_
            refine lv_iconst (v := 1) hx hb dX2_addAll_102 (by decide) ?_
            obtain ⟨x16, hz17, hM⟩ := zx_b1E hM
            refine va_calli (va_runV (As := [.int v1, .int 1]) (rest := [.int x14, .int x12, .ref (hh 0)]) ⟨hx, hb, hml, hown, hts⟩ (c_X0_corner l D cI cZ cT (hh 18) (aa 18) (S_ 18) _ N v1 1 hz17) (cwV 2 hts (zg_V zw_11_8 zw_11_9 zw_11_10 zw_1_23 zw_11_11) rfl rfl rfl ⟨rfl, zyX0_corner⟩ ⟨Nat.le_of_ble_eq_true rfl, Nat.le_of_ble_eq_true rfl⟩) ⟨bS_blind, va_recv hK (zx2_Pt hP) (ci := 0) (q0 := 0) rfl rfl, bS_pre (zx2_Pt hP) hK (zx2_Dt hD) hN⟩ rfl rfl hl.1 rfl (lv_room (Nat.le_of_ble_eq_true rfl)) dX2_addAll_103 ⟨Nat.zero_le _, Nat.zero_le _⟩) hS (fun q h1 h2 => absurd h1 (Nat.not_lt.mpr h2)) (fun q h => hA q (Nat.le_trans hS.1 h)) (fun r u t H1 lc ht hvm hw hB hz1 hk1 hS => ?_)
            replace hw : x16 = r := hw; subst hw
            replace hP := zx_keep hP hk1
            refine lv_aload_n hx hb dX2_addAll_106 rfl (lv_at hl 1 rfl) ?_
            refine va_get (D := D) (ci := 2) (v := .ref (hh 18)) (C := RX2) (T := TX2) (N := 8) hx hb hts inlX2 hown hK hP 0 rfl rfl 7 (by decide) (hts _ zw_2_0) (fun _ h9 => h9) rfl dX2_addAll_107 ?_
            refine lv_iload_n hx hb dX2_addAll_110 rfl (lv_at hl 2 rfl) ?_
            refine lv_iconst (v := 2) hx hb dX2_addAll_111 (by decide) ?_
            obtain ⟨x18, hz19, hM⟩ := zx_b1E hM
            refine va_calli (va_runV (As := [.int v1, .int 2]) (rest := [.int x16, .int x14, .int x12, .ref (hh 0)]) ⟨hx, hb, hml, hown, hts⟩ (c_X0_corner l D cI cZ cT (hh 18) (aa 18) (S_ 18) _ N v1 2 hz19) (cwV 2 hts (zg_V zw_11_8 zw_11_9 zw_11_10 zw_1_23 zw_11_11) rfl rfl rfl ⟨rfl, zyX0_corner⟩ ⟨Nat.le_of_ble_eq_true rfl, Nat.le_of_ble_eq_true rfl⟩) ⟨bS_blind, va_recv hK (zx2_Pt hP) (ci := 0) (q0 := 0) rfl rfl, bS_pre (zx2_Pt hP) hK (zx2_Dt hD) hN⟩ rfl rfl hl.1 rfl (lv_room (Nat.le_of_ble_eq_true rfl)) dX2_addAll_112 ⟨Nat.zero_le _, Nat.zero_le _⟩) hS (fun q h1 h2 => absurd h1 (Nat.not_lt.mpr h2)) (fun q h => hA q (Nat.le_trans hS.1 h)) (fun r u t H1 lc ht hvm hw hB hz1 hk1 hS => ?_)
            replace hw : x18 = r := hw; subst hw
            replace hP := zx_keep hP hk1
            refine lv_aload_n hx hb dX2_addAll_115 rfl (lv_at hl 1 rfl) ?_
            refine va_get (D := D) (ci := 2) (v := .ref (hh 18)) (C := RX2) (T := TX2) (N := 8) hx hb hts inlX2 hown hK hP 0 rfl rfl 7 (by decide) (hts _ zw_2_0) (fun _ h9 => h9) rfl dX2_addAll_116 ?_
            refine lv_iload_n hx hb dX2_addAll_119 rfl (lv_at hl 2 rfl) ?_
            refine lv_iconst (v := 3) hx hb dX2_addAll_120 (by decide) ?_
            obtain ⟨x20, hz21, hM⟩ := zx_b1E hM
            refine va_calli (va_runV (As := [.int v1, .int 3]) (rest := [.int x18, .int x16, .int x14, .int x12, .ref (hh 0)]) ⟨hx, hb, hml, hown, hts⟩ (c_X0_corner l D cI cZ cT (hh 18) (aa 18) (S_ 18) _ N v1 3 hz21) (cwV 2 hts (zg_V zw_11_8 zw_11_9 zw_11_10 zw_1_23 zw_11_11) rfl rfl rfl ⟨rfl, zyX0_corner⟩ ⟨Nat.le_of_ble_eq_true rfl, Nat.le_of_ble_eq_true rfl⟩) ⟨bS_blind, va_recv hK (zx2_Pt hP) (ci := 0) (q0 := 0) rfl rfl, bS_pre (zx2_Pt hP) hK (zx2_Dt hD) hN⟩ rfl rfl hl.1 rfl (lv_room (Nat.le_of_ble_eq_true rfl)) dX2_addAll_121 ⟨Nat.zero_le _, Nat.zero_le _⟩) hS (fun q h1 h2 => absurd h1 (Nat.not_lt.mpr h2)) (fun q h => hA q (Nat.le_trans hS.1 h)) (fun r u t H1 lc ht hvm hw hB hz1 hk1 hS => ?_)
            replace hw : x20 = r := hw; subst hw
            replace hP := zx_keep hP hk1
            obtain ⟨T22, hz23, hM⟩ := zx_b1E hM
            refine va_callv (va_runV (As := [.int x12, .int x14, .int x16, .int x18, .int x20]) (rest := []) ⟨hx, hb, hml, hown, hts⟩ (c_X1_setBox l D cI cZ cT (hh 0) (aa 0) (S_ 0) _ N x12 x14 x16 x18 x20 hz23) (cwV 5 hts (zg_V zw_11_12 zw_11_13 zw_11_14 zw_1_14 zw_11_15) rfl rfl rfl ⟨rfl, zyX1_setBox⟩ ⟨Nat.le_of_ble_eq_true rfl, Nat.le_of_ble_eq_true rfl⟩) ⟨bS_blind, va_recv hK (zx2_P (show 0 < 18 by decide) hP) (ci := 1) (q0 := 0) rfl rfl, bS_pre (zx2_P (show 0 < 18 by decide) hP) hK (zx2_D (show 0 < 18 by decide) hD) hN⟩ rfl rfl hl.1 rfl (lv_room (Nat.le_of_ble_eq_true rfl)) dX2_addAll_124 ⟨Nat.zero_le _, Nat.zero_le _⟩) hS (fun q _ h => zx_fW (zx2_D (show 0 < 18 by decide) hD) hS hA q h) (fun q h => zx_fW (zx2_D (show 0 < 18 by decide) hD) hS hA q h) (fun u t H1 lc ht hvm hw hB hz1 hk1 hS => ?_)
            replace hw : T22 = u := hw; subst hw
            rw [ht] at hB
            replace hP := zx2_S (show 0 < 18 by decide) hP hD hk1 hB
            obtain ⟨T24, eT24, hM⟩ := zx_nE hM
            rw [← eT24] at hP
            replace hD := zx2_Da T24 hD
            refine lv_aload_n hx hb dX2_addAll_127 rfl (lv_at hl 1 rfl) ?_
            refine va_get (D := D) (ci := 2) (v := .ref (hh 0)) (C := RX2) (T := TX2) (N := 8) hx hb hts inlX2 hown hK hP 0 rfl rfl 0 (by decide) (hts _ zw_1_15) (fun _ h9 => h9) rfl dX2_addAll_128 ?_
            refine lv_iload_n hx hb dX2_addAll_131 rfl (lv_at hl 0 rfl) ?_
            obtain ⟨T25, hz26, hM⟩ := zx_b1E hM
            refine va_callv (va_runV (As := [.int x12]) (rest := []) ⟨hx, hb, hml, hown, hts⟩ (c_X1_putIn l D cI cZ cT (hh 0) (aa 0) (T24 0) _ N x12 hz26) (cwV 1 hts (zg_V zw_11_16 zw_11_17 zw_11_18 zw_1_14 zw_11_19) rfl rfl rfl ⟨rfl, zyX1_putIn⟩ ⟨Nat.le_of_ble_eq_true rfl, Nat.le_of_ble_eq_true rfl⟩) ⟨bS_blind, va_recv hK (zx2_P (show 0 < 18 by decide) hP) (ci := 1) (q0 := 0) rfl rfl, bS_pre (zx2_P (show 0 < 18 by decide) hP) hK (zx2_D (show 0 < 18 by decide) hD) hN⟩ rfl rfl hl.1 rfl (lv_room (Nat.le_of_ble_eq_true rfl)) dX2_addAll_132 ⟨Nat.zero_le _, Nat.zero_le _⟩) hS (fun q _ h => zx_fW (zx2_D (show 0 < 18 by decide) hD) hS hA q h) (fun q h => zx_fW (zx2_D (show 0 < 18 by decide) hD) hS hA q h) (fun u t H1 lc ht hvm hw hB hz1 hk1 hS => ?_)
            replace hw : T25 = u := hw; subst hw
            rw [ht] at hB
            replace hP := zx2_S (show 0 < 18 by decide) hP hD hk1 hB
            obtain ⟨T27, eT27, hM⟩ := zx_nE hM
            rw [← eT27] at hP
            replace hD := zx2_Da T27 hD
            obtain ⟨x28, ex28, hM⟩ := zx_nE hM
            refine lv_iinc (v := x28) (lv' := [(1, .int x28), (2, .int x12), (0, .ref h)]) hx hb dX2_addAll_135 hl (k := 2) rfl (by rw [ex28]; rfl) (by decide) rfl (fun ls hl => ?_)
            refine lv_goto (tgt := 64) hx hb dX2_addAll_138 (by decide) ?_
            exact ih64 x28 T27 _ _ _ hP hD hS (lv_sub hl [2, 0] rfl) hM
      refine lv_aload_n hx hb dX2_addAll_51 rfl (lv_at hl 0 rfl) ?_
      obtain ⟨T29, hz30, hM⟩ := zx_b1E hM
      refine va_callv (va_runV (As := []) (rest := []) ⟨hx, hb, hml, hown, hts⟩ (c_X2_remember l D cI cZ cT h hh aa T4 _ N hz30) (cwV 0 hts (zg_V zw_10_4 zw_10_5 zw_10_6 zw_1_2 zw_10_7) rfl rfl rfl ⟨rfl, zyX2_remember⟩ ⟨Nat.le_of_ble_eq_true rfl, Nat.le_of_ble_eq_true rfl⟩) ⟨bS_blind, va_recv hK hP (ci := 2) (q0 := 0) rfl rfl, bS_pre hP hK hD hN⟩ rfl rfl hl.1 rfl (lv_room (Nat.le_of_ble_eq_true rfl)) dX2_addAll_52 ⟨Nat.zero_le _, Nat.zero_le _⟩) hS (fun q _ h => zx_fW hD hS hA q h) (fun q h => zx_fW hD hS hA q h) (fun u t H1 lc ht hvm hw hB hz1 hk1 hS => ?_)
      replace hw : T29 = u := hw; subst hw
      rw [ht] at hB
      replace hP := hB
      replace hD := zx2_Da T29 hD
      refine lv_aload_n hx hb dX2_addAll_55 rfl (lv_at hl 0 rfl) ?_
      refine va_get (D := D) (ci := 2) (v := .ref (hh 0)) (C := RX2) (T := TX2) (N := 8) hx hb hts inlX2 hown hK hP 0 rfl rfl 0 (by decide) (hts _ zw_1_15) (fun _ h9 => h9) rfl dX2_addAll_56 ?_
      obtain ⟨T31, hz32, hM⟩ := zx_b1E hM
      refine va_callv (va_runV (As := []) (rest := []) ⟨hx, hb, hml, hown, hts⟩ (c_X1_beginCall l D cI cZ cT (hh 0) (aa 0) (T29 0) _ N hz32) (cwV 0 hts (zg_V zw_11_0 zw_11_1 zw_11_2 zw_1_14 zw_11_3) rfl rfl rfl ⟨rfl, zyX1_beginCall⟩ ⟨Nat.le_of_ble_eq_true rfl, Nat.le_of_ble_eq_true rfl⟩) ⟨bS_blind, va_recv hK (zx2_P (show 0 < 18 by decide) hP) (ci := 1) (q0 := 0) rfl rfl, bS_pre (zx2_P (show 0 < 18 by decide) hP) hK (zx2_D (show 0 < 18 by decide) hD) hN⟩ rfl rfl hl.1 rfl (lv_room (Nat.le_of_ble_eq_true rfl)) dX2_addAll_59 ⟨Nat.zero_le _, Nat.zero_le _⟩) hS (fun q _ h => zx_fW (zx2_D (show 0 < 18 by decide) hD) hS hA q h) (fun q h => zx_fW (zx2_D (show 0 < 18 by decide) hD) hS hA q h) (fun u t H1 lc ht hvm hw hB hz1 hk1 hS => ?_)
      replace hw : T31 = u := hw; subst hw
      rw [ht] at hB
      replace hP := zx2_S (show 0 < 18 by decide) hP hD hk1 hB
      obtain ⟨T33, eT33, hM⟩ := zx_nE hM
      rw [← eT33] at hP
      replace hD := zx2_Da T33 hD
      refine lv_iconst (v := 0) hx hb dX2_addAll_62 (by decide) ?_
      refine lv_istore_n (lv' := [(1, .int 0), (0, .ref h)]) hx hb dX2_addAll_63 rfl hl (by decide) rfl (fun ls hl => ?_)
      exact l64 N 0 T33 _ _ _ hP hD hS (lv_sub hl [1, 0] rfl) hM
    · replace hM := zx_f q8 hM
      rw [hQ]
      exact zx_thr2 hx hb hlt hown (hts _ zw_4_16) (hts _ zw_4_17) (hXs _ _ (zx_str_156)) hts hXw hU hNN hS (hl.1.trans hml.symm) dX2_addAll_41 dX2_addAll_44 dX2_addAll_45 dX2_addAll_47 dX2_addAll_50 hout (Nat.le_of_ble_eq_true rfl) (Nat.le_of_ble_eq_true rfl) (Nat.le_of_ble_eq_true rfl) (Nat.le_of_ble_eq_true rfl) hlocks (fun t hvm hz hk => zx_XC (Option.some.inj hM).symm (by decide) rfl hP hS hz hk) hS.2.2 (Nat.le_of_ble_eq_true rfl) (Nat.le_of_ble_eq_true rfl)
  · replace hM := zx_f q5 hM
    rw [hQ]
    exact zx_thr2 hx hb hlt hown (hts _ zw_4_16) (hts _ zw_4_17) (hXs _ _ (zx_str_151)) hts hXw hU hNN hS (hl.1.trans hml.symm) dX2_addAll_11 dX2_addAll_14 dX2_addAll_15 dX2_addAll_17 dX2_addAll_20 hout (Nat.le_of_ble_eq_true rfl) (Nat.le_of_ble_eq_true rfl) (Nat.le_of_ble_eq_true rfl) (Nat.le_of_ble_eq_true rfl) hlocks (fun t hvm hz hk => zx_XC (Option.some.inj hM).symm (by decide) rfl hP hS hz hk) hS.2.2 (Nat.le_of_ble_eq_true rfl) (Nat.le_of_ble_eq_true rfl)
