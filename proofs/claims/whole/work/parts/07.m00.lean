/-! ShallowBoxesModel.begin([I)V -/
def f_X3_begin_l2 (N : Nat) (n0 : Nat) : Nat → Int32 → (Nat → Int32) → Option ((Nat → Int32))
  | 0, _, _ => none
  | n2 + 1, v1, f0_ => (if 380 ≤ v1 then
  (zx_wr n0 120 (upd f0_ (Int32.toNatClampNeg 120) 1) (fun g2 =>
some g2)) else
  (zx_wr n0 v1 (upd f0_ (Int32.toNatClampNeg v1) 0) (fun g4 =>
(zx_n (v1 + 1) (fun x6 =>
f_X3_begin_l2 N n0  n2 x6 g4)))))
def f_X3_begin (N : Nat) (n0 : Nat) (f0 : (Nat → Int32)) : Option ((Nat → Int32)) :=
  f_X3_begin_l2 N n0  N 0 f0
abbrev rmX3_begin : Room := { frames := 0, cells := 0, slots := 0, locals := 0 }
abbrev zsX3_begin : List Cond := .code yX3_begin cX3_begin 2 none :: wsL_law
theorem zyX3_begin : yX3_begin.cls ≠ "java/lang/invoke/MethodHandle" ∧ yX3_begin.cls ≠ "java/lang/invoke/VarHandle" ∧ (parseMethodDescriptor yX3_begin.desc).map (fun d => d.parameters.length) = some 1 := by decide +kernel
set_option maxHeartbeats 4000000 in
set_option maxRecDepth 100000 in
theorem c_X3_begin (l : Launch) (D : va_G) (cI cZ cT : ClassId) (a0 n0 : Nat) (f0 : Nat → Int32) (sz : Nat) (N : Nat) {R : (Nat → Int32)} (hM : f_X3_begin N n0 f0 = some R) : Met l yX3_begin zsX3_begin rmX3_begin (va_Pc [.ref a0] (bS D (zx_ty cI cZ cT) (pW1 cI a0 n0 f0) sz)) (va_Qv (fun u => R = u) (fun u t => va_P D vwCl (pW1 cI a0 n0 u) t.heap) (va_A (pW1 cI a0 n0 f0) sz)) 0 0 (va_A (pW1 cI a0 n0 f0) sz) := by
  refine Met.ofW (cc := cX3_begin) (maxL := 2) (ret := none) (by decide) rfl ?_
  intro p e s m args below meth c s₁ B hml hv
  obtain ⟨rfl, hsz, hP, hK, hD0, hN⟩ := hv
  have hx := B.exec
  have hb := B.bytes
  have hr := B.returns
  have hts : ∀ w ∈ wsL_law, w.before _ s = true := fun w hw => atoms_spec (ws := zsX3_begin) B.pre w (List.mem_cons_of_mem _ hw)
  have hown : s.vm.findClass RX3 = some m.cls := findClass_of_methodNamed B.named
  have hlocks := B.notSynchronized
  subst hsz
  have hD := hD0.self (sz := s.heap.size)
  generalize hAe : va_A (pW1 cI a0 n0 f0) s.heap.size = A at hD ⊢
  have hA : ∀ q : Nat, s.heap.size ≤ q → A q := fun q h => by rw [← hAe]; exact Or.inr h
  have hS : va_S A s.heap s.heap [] := va_S.rf
  have hl := lv_entry ([.ref a0]) (n := 2) (Nat.le_of_ble_eq_true rfl)
  rw [lg_entry_eq]
  generalize (lg_sl ([.ref a0]) ++ List.replicate (2 - (lg_sl ([.ref a0])).length) Slot.unset).toArray = ls at hl ⊢
  have hl : lv_has ls 2 [(0, .ref a0)] := hl
  generalize hQ : MQ below (va_Qv (fun u => R = u) (fun u t => va_P D vwCl (pW1 cI a0 n0 u) t.heap) A) ([.ref a0] : List Value).toArray s 0 0 A = Q9
  replace hQ := hQ.symm
  unfold f_X3_begin at hM
  have l2 : ∀ (n2 : Nat) (v1 : Int32) (f0_ : (Nat → Int32)) (H : Heap) (lc : List Loc) (ls : Array Slot), va_P D vwCl (pW1 cI a0 n0 f0_) H → va_D A (pW1 cI a0 n0 f0_) → va_S A s.heap H lc → lv_has ls 2 [(0, .ref a0), (1, .int v1)] → f_X3_begin_l2 N n0 n2 v1 f0_ = some R → W p l e (headSpec zsX3_begin rmX3_begin).room s m ([.ref a0] : List Value).toArray below meth c H lc 0 0 Q9 (F0 m 2 ls []) := by
    intro n2
    induction n2 with
    | zero =>
      intro v1 f0_ H lc ls hP hD hS hl hM
      rw [f_X3_begin_l2] at hM; exact absurd hM (by intro h; cases h)
    | succ n2 ih2 =>
      intro v1 f0_ H lc ls hP hD hS hl hM
      rw [f_X3_begin_l2] at hM
      refine lv_iload_n hx hb dX3_begin_2 rfl (lv_at hl 1 rfl) ?_
      refine lv_sipush (v := 380) hx hb dX3_begin_3 (by decide) ?_
      refine lv_icmp_ge (tgt := 19) hx hb dX3_begin_6 (by decide) (fun q1 => ?_) (fun q1 => ?_)
      · replace hM := zx_t q1 hM
        refine lv_aload_n hx hb dX3_begin_19 rfl (lv_at hl 0 rfl) ?_
        refine lv_bipush (v := 120) hx hb dX3_begin_20 (by decide) ?_
        refine lv_iconst (v := 1) hx hb dX3_begin_22 (by decide) ?_
        obtain ⟨g2, q3, eg2, hM⟩ := zx_wrE hM
        refine va_iast (D := D) hx hb hK hP hD hS 0 0 rfl rfl q3 dX3_begin_23 (fun H lc hP hD hS => ?_)
        rw [pW1_p0] at hP hD
        rw [← eg2] at hP hD
        rw [hQ]
        exact W.vret hx hb hr (fun t ht hW => ⟨⟨g2, rfl, (Option.some.inj hM).symm, by show va_P D vwCl _ t.heap; rw [ht]; exact hP⟩, hS.F ht⟩) hS.2.2 dX3_begin_24
      · replace hM := zx_f q1 hM
        refine lv_aload_n hx hb dX3_begin_9 rfl (lv_at hl 0 rfl) ?_
        refine lv_iload_n hx hb dX3_begin_10 rfl (lv_at hl 1 rfl) ?_
        refine lv_iconst (v := 0) hx hb dX3_begin_11 (by decide) ?_
        obtain ⟨g4, q5, eg4, hM⟩ := zx_wrE hM
        refine va_iast (D := D) hx hb hK hP hD hS 0 0 rfl rfl q5 dX3_begin_12 (fun H lc hP hD hS => ?_)
        rw [pW1_p0] at hP hD
        rw [← eg4] at hP hD
        obtain ⟨x6, ex6, hM⟩ := zx_nE hM
        refine lv_iinc (v := x6) (lv' := [(1, .int x6), (0, .ref a0)]) hx hb dX3_begin_13 hl (k := 1) rfl (by rw [ex6]; rfl) (by decide) rfl (fun ls hl => ?_)
        refine lv_goto (tgt := 2) hx hb dX3_begin_16 (by decide) ?_
        exact ih2 x6 g4 _ _ _ hP hD hS (lv_sub hl [1, 0] rfl) hM
  refine lv_iconst (v := 0) hx hb dX3_begin_0 (by decide) ?_
  refine lv_istore_n (lv' := [(1, .int 0), (0, .ref a0)]) hx hb dX3_begin_1 rfl hl (by decide) rfl (fun ls hl => ?_)
  exact l2 N 0 f0 _ _ _ hP hD hS (lv_sub hl [1, 0] rfl) hM

/-! ShallowBoxesModel.thrown()I -/
def f_X3_thrown (N : Nat) (S : zx_S) : Option (Int32) :=
  some (S 12 0)
abbrev rmX3_thrown : Room := { frames := 0, cells := 0, slots := 0, locals := 0 }
abbrev zsX3_thrown : List Cond := .code yX3_thrown cX3_thrown 1 (some .int) :: wsL_law
theorem zyX3_thrown : yX3_thrown.cls ≠ "java/lang/invoke/MethodHandle" ∧ yX3_thrown.cls ≠ "java/lang/invoke/VarHandle" ∧ (parseMethodDescriptor yX3_thrown.desc).map (fun d => d.parameters.length) = some 0 := by decide +kernel
set_option maxHeartbeats 4000000 in
set_option maxRecDepth 100000 in
theorem c_X3_thrown (l : Launch) (D : va_G) (cI cZ cT : ClassId) (h : Nat) (ad : Nat → Nat) (S : zx_S) (sz : Nat) (N : Nat) {R : Int32} (hM : f_X3_thrown N S = some R) : Met l yX3_thrown zsX3_thrown rmX3_thrown (va_Pc [.ref h] (bS D (zx_ty cI cZ cT) (xW3 cI cZ h ad S) sz)) (va_Qi (fun r (_ : Unit) => R = r) (fun _ _ => True) (fun q => sz ≤ q)) 0 0 (fun q => sz ≤ q) := by
  refine Met.ofW (cc := cX3_thrown) (maxL := 1) (ret := (some .int)) (by decide) rfl ?_
  intro p e s m args below meth c s₁ B hml hv
  obtain ⟨rfl, hsz, hP, hK, hD0, hN⟩ := hv
  have hx := B.exec
  have hb := B.bytes
  have hr := B.returns
  have hts : ∀ w ∈ wsL_law, w.before _ s = true := fun w hw => atoms_spec (ws := zsX3_thrown) B.pre w (List.mem_cons_of_mem _ hw)
  have hown : s.vm.findClass RX3 = some m.cls := findClass_of_methodNamed B.named
  have hlocks := B.notSynchronized
  subst hsz
  generalize hAe : (fun q : Nat => s.heap.size ≤ q) = A
  have hA : ∀ q : Nat, s.heap.size ≤ q → A q := fun q h => by rw [← hAe]; exact h
  have hD := hD0
  have hS : va_S A s.heap s.heap [] := va_S.rf
  have hl := lv_entry ([.ref h]) (n := 1) (Nat.le_of_ble_eq_true rfl)
  rw [lg_entry_eq]
  generalize (lg_sl ([.ref h]) ++ List.replicate (1 - (lg_sl ([.ref h])).length) Slot.unset).toArray = ls at hl ⊢
  have hl : lv_has ls 1 [(0, .ref h)] := hl
  generalize hQ : MQ below (va_Qi (fun r (_ : Unit) => R = r) (fun _ _ => True) A) ([.ref h] : List Value).toArray s 0 0 A = Q9
  replace hQ := hQ.symm
  unfold f_X3_thrown at hM
  refine lv_aload_n hx hb dX3_thrown_0 rfl (lv_at hl 0 rfl) ?_
  refine va_get (D := D) (ci := 3) (v := .int (S 12 0)) (C := RX3) (T := TX3) (N := 20) hx hb hts inlX3 hown hK hP 0 rfl rfl 0 (by decide) (hts _ zw_5_18) (fun _ h9 => h9) rfl dX3_thrown_1 ?_
  rw [hQ]
  exact W.iret hx hb hr (fun t ht hW => ⟨⟨(S 12 0), (), rfl, (Option.some.inj hM).symm, trivial⟩, hS.F ht⟩) hS.2.2 dX3_thrown_4

/-! ShallowBoxesModel.refused(I)Z -/
def f_X3_refused (N : Nat) (p1 : Int32) (S : zx_S) : Option (Int32 × zx_S) :=
  (zx_n (zx_st S 12 (upd (S 12) 0 p1)) (fun T1 =>
(if p1 ≤ 0 then
  some (0, T1) else
  some (1, T1))))
abbrev rmX3_refused : Room := { frames := 0, cells := 0, slots := 0, locals := 0 }
abbrev zsX3_refused : List Cond := .code yX3_refused cX3_refused 2 (some .boolean) :: wsL_law
theorem zyX3_refused : yX3_refused.cls ≠ "java/lang/invoke/MethodHandle" ∧ yX3_refused.cls ≠ "java/lang/invoke/VarHandle" ∧ (parseMethodDescriptor yX3_refused.desc).map (fun d => d.parameters.length) = some 1 := by decide +kernel
set_option maxHeartbeats 4000000 in
set_option maxRecDepth 100000 in
theorem c_X3_refused (l : Launch) (D : va_G) (cI cZ cT : ClassId) (h : Nat) (ad : Nat → Nat) (S : zx_S) (sz : Nat) (N : Nat) (p1 : Int32) {R : Int32 × zx_S} (hM : f_X3_refused N p1 S = some R) : Met l yX3_refused zsX3_refused rmX3_refused (va_Pc [.ref h, .int p1] (bS D (zx_ty cI cZ cT) (xW3 cI cZ h ad S) sz)) (va_Qi (fun r u => R = (r, u)) (fun u t => va_P D vwCl (xW3 cI cZ h ad u) t.heap) (va_A (xW3 cI cZ h ad S) sz)) 0 0 (va_A (xW3 cI cZ h ad S) sz) := by
  refine Met.ofW (cc := cX3_refused) (maxL := 2) (ret := (some .boolean)) (by decide) rfl ?_
  intro p e s m args below meth c s₁ B hml hv
  obtain ⟨rfl, hsz, hP, hK, hD0, hN⟩ := hv
  have hx := B.exec
  have hb := B.bytes
  have hr := B.returns
  have hts : ∀ w ∈ wsL_law, w.before _ s = true := fun w hw => atoms_spec (ws := zsX3_refused) B.pre w (List.mem_cons_of_mem _ hw)
  have hown : s.vm.findClass RX3 = some m.cls := findClass_of_methodNamed B.named
  have hlocks := B.notSynchronized
  subst hsz
  have hD := hD0.self (sz := s.heap.size)
  generalize hAe : va_A (xW3 cI cZ h ad S) s.heap.size = A at hD ⊢
  have hA : ∀ q : Nat, s.heap.size ≤ q → A q := fun q h => by rw [← hAe]; exact Or.inr h
  have hS : va_S A s.heap s.heap [] := va_S.rf
  have hl := lv_entry ([.ref h, .int p1]) (n := 2) (Nat.le_of_ble_eq_true rfl)
  rw [lg_entry_eq]
  generalize (lg_sl ([.ref h, .int p1]) ++ List.replicate (2 - (lg_sl ([.ref h, .int p1])).length) Slot.unset).toArray = ls at hl ⊢
  have hl : lv_has ls 2 [(0, .ref h), (1, .int p1)] := hl
  generalize hQ : MQ below (va_Qi (fun r u => R = (r, u)) (fun u t => va_P D vwCl (xW3 cI cZ h ad u) t.heap) A) ([.ref h, .int p1] : List Value).toArray s 0 0 A = Q9
  replace hQ := hQ.symm
  unfold f_X3_refused at hM
  refine lv_aload_n hx hb dX3_refused_0 rfl (lv_at hl 0 rfl) ?_
  refine lv_iload_n hx hb dX3_refused_1 rfl (lv_at hl 1 rfl) ?_
  obtain ⟨T1, eT1, hM⟩ := zx_nE hM
  refine va_put (D := D) (ci := 3) (v := .int p1) (ty := .int) (C := RX3) (T := TX3) (N := 20) hx hb hts inlX3 tyX3 tyX3_ok nmX3 hown hK hP hD hS 0 rfl rfl 0 (by decide) (hts _ zw_5_18) (fun _ h9 => h9) rfl (by decide +kernel) rfl rfl (Nat.le_of_ble_eq_true rfl) dX3_refused_2 (fun H lc hP hD hS => ?_)
  replace hP : va_P D vwCl (xW3 cI cZ h ad T1) H := by rw [eT1]; exact hP
  replace hD : va_D A (xW3 cI cZ h ad T1) := by rw [eT1]; exact hD
  refine lv_iload_n hx hb dX3_refused_5 rfl (lv_at hl 1 rfl) ?_
  refine lv_if_le (tgt := 13) hx hb dX3_refused_6 (by decide) (fun q2 => ?_) (fun q2 => ?_)
  · replace hM := zx_t q2 hM
    refine lv_iconst (v := 0) hx hb dX3_refused_13 (by decide) ?_
    rw [hQ]
    exact W.zret hx hb hr (by rfl) (fun t ht hW => ⟨⟨0, T1, rfl, (Option.some.inj hM).symm, by show va_P D vwCl _ t.heap; rw [ht]; exact hP⟩, hS.F ht⟩) hS.2.2 dX3_refused_14
  · replace hM := zx_f q2 hM
    refine lv_iconst (v := 1) hx hb dX3_refused_9 (by decide) ?_
    refine lv_goto (tgt := 14) hx hb dX3_refused_10 (by decide) ?_
    rw [hQ]
    exact W.zret hx hb hr (by rfl) (fun t ht hW => ⟨⟨1, T1, rfl, (Option.some.inj hM).symm, by show va_P D vwCl _ t.heap; rw [ht]; exact hP⟩, hS.F ht⟩) hS.2.2 dX3_refused_14

/-! ShallowBoxesModel.in(JJJ)Z -/
def f_X3_in (N : Nat) (p0 : Int64) (p2 : Int64) (p4 : Int64) : Option (Int32) :=
  (if (lg_cmp p0 p2) < 0 then
  some 0 else
  (if 0 < (lg_cmp p0 p4) then
  some 0 else
  some 1))
abbrev rmX3_in : Room := { frames := 0, cells := 0, slots := 0, locals := 0 }
abbrev zsX3_in : List Cond := .code yX3_in cX3_in 6 (some .boolean) :: wsL_law
theorem zyX3_in : yX3_in.cls ≠ "java/lang/invoke/MethodHandle" ∧ yX3_in.cls ≠ "java/lang/invoke/VarHandle" ∧ (parseMethodDescriptor yX3_in.desc).map (fun d => d.parameters.length) = some 3 := by decide +kernel
set_option maxHeartbeats 4000000 in
set_option maxRecDepth 100000 in
theorem c_X3_in (l : Launch) (D : va_G) (cI cZ cT : ClassId) (sz : Nat) (N : Nat) (p0 : Int64) (p2 : Int64) (p4 : Int64) {R : Int32} (hM : f_X3_in N p0 p2 p4 = some R) : Met l yX3_in zsX3_in rmX3_in (va_Pc [.long p0, .long p2, .long p4] (bS D (zx_ty cI cZ cT) [] sz)) (va_Qi (fun r (_ : Unit) => R = r) (fun _ _ => True) (fun q => sz ≤ q)) 0 0 (fun q => sz ≤ q) := by
  refine Met.ofW (cc := cX3_in) (maxL := 6) (ret := (some .boolean)) (by decide) rfl ?_
  intro p e s m args below meth c s₁ B hml hv
  obtain ⟨rfl, hsz, hP, hK, hD0, hN⟩ := hv
  have hx := B.exec
  have hb := B.bytes
  have hr := B.returns
  have hts : ∀ w ∈ wsL_law, w.before _ s = true := fun w hw => atoms_spec (ws := zsX3_in) B.pre w (List.mem_cons_of_mem _ hw)
  have hown : s.vm.findClass RX3 = some m.cls := findClass_of_methodNamed B.named
  have hlocks := B.notSynchronized
  subst hsz
  generalize hAe : (fun q : Nat => s.heap.size ≤ q) = A
  have hA : ∀ q : Nat, s.heap.size ≤ q → A q := fun q h => by rw [← hAe]; exact h
  have hD := hD0
  have hS : va_S A s.heap s.heap [] := va_S.rf
  have hl := lv_entry ([.long p0, .long p2, .long p4]) (n := 6) (Nat.le_of_ble_eq_true rfl)
  rw [lg_entry_eq]
  generalize (lg_sl ([.long p0, .long p2, .long p4]) ++ List.replicate (6 - (lg_sl ([.long p0, .long p2, .long p4])).length) Slot.unset).toArray = ls at hl ⊢
  have hl : lv_has ls 6 [(0, .long p0), (2, .long p2), (4, .long p4)] := hl
  generalize hQ : MQ below (va_Qi (fun r (_ : Unit) => R = r) (fun _ _ => True) A) ([.long p0, .long p2, .long p4] : List Value).toArray s 0 0 A = Q9
  replace hQ := hQ.symm
  unfold f_X3_in at hM
  refine lv_lload_n hx hb dX3_in_0 rfl (lv_at hl 0 rfl) ?_
  refine lv_lload_n hx hb dX3_in_1 rfl (lv_at hl 1 rfl) ?_
  refine W.lcmp hx hb dX3_in_2 ?_
  refine lv_if_lt (tgt := 17) hx hb dX3_in_3 (by decide) (fun q1 => ?_) (fun q1 => ?_)
  · replace hM := zx_t q1 hM
    refine lv_iconst (v := 0) hx hb dX3_in_17 (by decide) ?_
    rw [hQ]
    exact W.zret hx hb hr (by rfl) (fun t ht hW => ⟨⟨0, (), rfl, (Option.some.inj hM).symm, trivial⟩, hS.F ht⟩) hS.2.2 dX3_in_18
  · replace hM := zx_f q1 hM
    refine lv_lload_n hx hb dX3_in_6 rfl (lv_at hl 0 rfl) ?_
    refine lv_lload hx hb dX3_in_7 (lv_at hl 2 rfl) ?_
    refine W.lcmp hx hb dX3_in_9 ?_
    refine lv_if_gt (tgt := 17) hx hb dX3_in_10 (by decide) (fun q2 => ?_) (fun q2 => ?_)
    · replace hM := zx_t q2 hM
      refine lv_iconst (v := 0) hx hb dX3_in_17 (by decide) ?_
      rw [hQ]
      exact W.zret hx hb hr (by rfl) (fun t ht hW => ⟨⟨0, (), rfl, (Option.some.inj hM).symm, trivial⟩, hS.F ht⟩) hS.2.2 dX3_in_18
    · replace hM := zx_f q2 hM
      refine lv_iconst (v := 1) hx hb dX3_in_13 (by decide) ?_
      refine lv_goto (tgt := 18) hx hb dX3_in_14 (by decide) ?_
      rw [hQ]
      exact W.zret hx hb hr (by rfl) (fun t ht hW => ⟨⟨1, (), rfl, (Option.some.inj hM).symm, trivial⟩, hS.F ht⟩) hS.2.2 dX3_in_18

/-! ShallowBoxesModel.copyState([II[II)V -/
def f_X3_copyState_l3 (N : Nat) (n0 : Nat) (n1 : Nat) (f0 : (Nat → Int32)) : Nat → Int32 → Int32 → Int32 → (Nat → Int32) → Option ((Nat → Int32))
  | 0, _, _, _, _ => none
  | n3 + 1, v1, v3, v4, f1_ => (if 380 ≤ v4 then
  some f1_ else
  (zx_rd n0 f0 (v1 + v4) (fun x2 =>
(zx_wr n1 (v3 + v4) (upd f1_ (Int32.toNatClampNeg (v3 + v4)) x2) (fun g4 =>
(zx_n (v4 + 1) (fun x6 =>
f_X3_copyState_l3 N n0 n1 f0  n3 v1 v3 x6 g4)))))))
def f_X3_copyState (N : Nat) (n0 : Nat) (n1 : Nat) (p1 : Int32) (p3 : Int32) (f0 : (Nat → Int32)) (f1 : (Nat → Int32)) : Option ((Nat → Int32)) :=
  f_X3_copyState_l3 N n0 n1 f0  N p1 p3 0 f1
abbrev rmX3_copyState : Room := { frames := 0, cells := 0, slots := 0, locals := 0 }
abbrev zsX3_copyState : List Cond := .code yX3_copyState cX3_copyState 5 none :: wsL_law
theorem zyX3_copyState : yX3_copyState.cls ≠ "java/lang/invoke/MethodHandle" ∧ yX3_copyState.cls ≠ "java/lang/invoke/VarHandle" ∧ (parseMethodDescriptor yX3_copyState.desc).map (fun d => d.parameters.length) = some 4 := by decide +kernel
set_option maxHeartbeats 4000000 in
set_option maxRecDepth 100000 in
theorem c_X3_copyState (l : Launch) (D : va_G) (cI cZ cT : ClassId) (a0 n0 : Nat) (f0 : Nat → Int32) (a1 n1 : Nat) (f1 : Nat → Int32) (sz : Nat) (N : Nat) (p1 : Int32) (p3 : Int32) {R : (Nat → Int32)} (hM : f_X3_copyState N n0 n1 p1 p3 f0 f1 = some R) : Met l yX3_copyState zsX3_copyState rmX3_copyState (va_Pc [.ref a0, .int p1, .ref a1, .int p3] (bS D (zx_ty cI cZ cT) (pW2 cI a0 n0 f0 a1 n1 f1) sz)) (va_Qv (fun u => R = u) (fun u t => va_P D vwCl (pW2 cI a0 n0 f0 a1 n1 u) t.heap) (va_A (pW2 cI a0 n0 f0 a1 n1 f1) sz)) 0 0 (va_A (pW2 cI a0 n0 f0 a1 n1 f1) sz) := by
  refine Met.ofW (cc := cX3_copyState) (maxL := 5) (ret := none) (by decide) rfl ?_
  intro p e s m args below meth c s₁ B hml hv
  obtain ⟨rfl, hsz, hP, hK, hD0, hN⟩ := hv
  have hx := B.exec
  have hb := B.bytes
  have hr := B.returns
  have hts : ∀ w ∈ wsL_law, w.before _ s = true := fun w hw => atoms_spec (ws := zsX3_copyState) B.pre w (List.mem_cons_of_mem _ hw)
  have hown : s.vm.findClass RX3 = some m.cls := findClass_of_methodNamed B.named
  have hlocks := B.notSynchronized
  subst hsz
  have hD := hD0.self (sz := s.heap.size)
  generalize hAe : va_A (pW2 cI a0 n0 f0 a1 n1 f1) s.heap.size = A at hD ⊢
  have hA : ∀ q : Nat, s.heap.size ≤ q → A q := fun q h => by rw [← hAe]; exact Or.inr h
  have hS : va_S A s.heap s.heap [] := va_S.rf
  have hl := lv_entry ([.ref a0, .int p1, .ref a1, .int p3]) (n := 5) (Nat.le_of_ble_eq_true rfl)
  rw [lg_entry_eq]
  generalize (lg_sl ([.ref a0, .int p1, .ref a1, .int p3]) ++ List.replicate (5 - (lg_sl ([.ref a0, .int p1, .ref a1, .int p3])).length) Slot.unset).toArray = ls at hl ⊢
  have hl : lv_has ls 5 [(0, .ref a0), (1, .int p1), (2, .ref a1), (3, .int p3)] := hl
  generalize hQ : MQ below (va_Qv (fun u => R = u) (fun u t => va_P D vwCl (pW2 cI a0 n0 f0 a1 n1 u) t.heap) A) ([.ref a0, .int p1, .ref a1, .int p3] : List Value).toArray s 0 0 A = Q9
  replace hQ := hQ.symm
  unfold f_X3_copyState at hM
  have l3 : ∀ (n3 : Nat) (v1 : Int32) (v3 : Int32) (v4 : Int32) (f1_ : (Nat → Int32)) (H : Heap) (lc : List Loc) (ls : Array Slot), va_P D vwCl (pW2 cI a0 n0 f0 a1 n1 f1_) H → va_D A (pW2 cI a0 n0 f0 a1 n1 f1_) → va_S A s.heap H lc → lv_has ls 5 [(0, .ref a0), (1, .int v1), (2, .ref a1), (3, .int v3), (4, .int v4)] → f_X3_copyState_l3 N n0 n1 f0 n3 v1 v3 v4 f1_ = some R → W p l e (headSpec zsX3_copyState rmX3_copyState).room s m ([.ref a0, .int p1, .ref a1, .int p3] : List Value).toArray below meth c H lc 0 0 Q9 (F0 m 3 ls []) := by
    intro n3
    induction n3 with
    | zero =>
      intro v1 v3 v4 f1_ H lc ls hP hD hS hl hM
      rw [f_X3_copyState_l3] at hM; exact absurd hM (by intro h; cases h)
    | succ n3 ih3 =>
      intro v1 v3 v4 f1_ H lc ls hP hD hS hl hM
      rw [f_X3_copyState_l3] at hM
      refine lv_iload hx hb dX3_copyState_3 (lv_at hl 4 rfl) ?_
      refine lv_sipush (v := 380) hx hb dX3_copyState_5 (by decide) ?_
      refine lv_icmp_ge (tgt := 29) hx hb dX3_copyState_8 (by decide) (fun q1 => ?_) (fun q1 => ?_)
      · replace hM := zx_t q1 hM
        rw [hQ]
        exact W.vret hx hb hr (fun t ht hW => ⟨⟨f1_, rfl, (Option.some.inj hM).symm, by show va_P D vwCl _ t.heap; rw [ht]; exact hP⟩, hS.F ht⟩) hS.2.2 dX3_copyState_29
      · replace hM := zx_f q1 hM
        refine lv_aload_n hx hb dX3_copyState_11 rfl (lv_at hl 2 rfl) ?_
        refine lv_iload_n hx hb dX3_copyState_12 rfl (lv_at hl 3 rfl) ?_
        refine lv_iload hx hb dX3_copyState_13 (lv_at hl 4 rfl) ?_
        refine lv_iadd hx hb dX3_copyState_15 ?_
        refine lv_aload_n hx hb dX3_copyState_16 rfl (lv_at hl 0 rfl) ?_
        refine lv_iload_n hx hb dX3_copyState_17 rfl (lv_at hl 1 rfl) ?_
        refine lv_iload hx hb dX3_copyState_18 (lv_at hl 4 rfl) ?_
        refine lv_iadd hx hb dX3_copyState_20 ?_
        obtain ⟨x2, q3, ex2, hM⟩ := zx_rdE hM
        refine va_iald (D := D) hx hb hK hP 0 0 rfl rfl q3 dX3_copyState_21 ?_
        refine zx_top ex2 ?_
        obtain ⟨g4, q5, eg4, hM⟩ := zx_wrE hM
        refine va_iast (D := D) hx hb hK hP hD hS 1 0 rfl rfl q5 dX3_copyState_22 (fun H lc hP hD hS => ?_)
        rw [pW2_p1] at hP hD
        rw [← eg4] at hP hD
        obtain ⟨x6, ex6, hM⟩ := zx_nE hM
        refine lv_iinc (v := x6) (lv' := [(4, .int x6), (0, .ref a0), (1, .int v1), (2, .ref a1), (3, .int v3)]) hx hb dX3_copyState_23 hl (k := 4) rfl (by rw [ex6]; rfl) (by decide) rfl (fun ls hl => ?_)
        refine lv_goto (tgt := 3) hx hb dX3_copyState_26 (by decide) ?_
        exact ih3 v1 v3 x6 g4 _ _ _ hP hD hS (lv_sub hl [1, 2, 3, 4, 0] rfl) hM
  refine lv_iconst (v := 0) hx hb dX3_copyState_0 (by decide) ?_
  refine lv_istore (lv' := [(4, .int 0), (0, .ref a0), (1, .int p1), (2, .ref a1), (3, .int p3)]) hx hb dX3_copyState_1 hl (by decide) rfl (fun ls hl => ?_)
  exact l3 N p1 p3 0 f1 _ _ _ hP hD hS (lv_sub hl [1, 2, 3, 4, 0] rfl) hM

/-! ShallowBoxesModel.at(I)I -/
def f_X3_at (N : Nat) (p0 : Int32) : Option (Int32) :=
  some (120 + (8 * p0))
abbrev rmX3_at : Room := { frames := 0, cells := 0, slots := 0, locals := 0 }
abbrev zsX3_at : List Cond := .code yX3_at cX3_at 1 (some .int) :: wsL_law
theorem zyX3_at : yX3_at.cls ≠ "java/lang/invoke/MethodHandle" ∧ yX3_at.cls ≠ "java/lang/invoke/VarHandle" ∧ (parseMethodDescriptor yX3_at.desc).map (fun d => d.parameters.length) = some 1 := by decide +kernel
set_option maxHeartbeats 4000000 in
set_option maxRecDepth 100000 in
theorem c_X3_at (l : Launch) (D : va_G) (cI cZ cT : ClassId) (sz : Nat) (N : Nat) (p0 : Int32) {R : Int32} (hM : f_X3_at N p0 = some R) : Met l yX3_at zsX3_at rmX3_at (va_Pc [.int p0] (bS D (zx_ty cI cZ cT) [] sz)) (va_Qi (fun r (_ : Unit) => R = r) (fun _ _ => True) (fun q => sz ≤ q)) 0 0 (fun q => sz ≤ q) := by
  refine Met.ofW (cc := cX3_at) (maxL := 1) (ret := (some .int)) (by decide) rfl ?_
  intro p e s m args below meth c s₁ B hml hv
  obtain ⟨rfl, hsz, hP, hK, hD0, hN⟩ := hv
  have hx := B.exec
  have hb := B.bytes
  have hr := B.returns
  have hts : ∀ w ∈ wsL_law, w.before _ s = true := fun w hw => atoms_spec (ws := zsX3_at) B.pre w (List.mem_cons_of_mem _ hw)
  have hown : s.vm.findClass RX3 = some m.cls := findClass_of_methodNamed B.named
  have hlocks := B.notSynchronized
  subst hsz
  generalize hAe : (fun q : Nat => s.heap.size ≤ q) = A
  have hA : ∀ q : Nat, s.heap.size ≤ q → A q := fun q h => by rw [← hAe]; exact h
  have hD := hD0
  have hS : va_S A s.heap s.heap [] := va_S.rf
  have hl := lv_entry ([.int p0]) (n := 1) (Nat.le_of_ble_eq_true rfl)
  rw [lg_entry_eq]
  generalize (lg_sl ([.int p0]) ++ List.replicate (1 - (lg_sl ([.int p0])).length) Slot.unset).toArray = ls at hl ⊢
  have hl : lv_has ls 1 [(0, .int p0)] := hl
  generalize hQ : MQ below (va_Qi (fun r (_ : Unit) => R = r) (fun _ _ => True) A) ([.int p0] : List Value).toArray s 0 0 A = Q9
  replace hQ := hQ.symm
  unfold f_X3_at at hM
  refine lv_bipush (v := 120) hx hb dX3_at_0 (by decide) ?_
  refine lv_bipush (v := 8) hx hb dX3_at_2 (by decide) ?_
  refine lv_iload_n hx hb dX3_at_4 rfl (lv_at hl 0 rfl) ?_
  refine lv_imul hx hb dX3_at_5 ?_
  refine lv_iadd hx hb dX3_at_6 ?_
  rw [hQ]
  exact W.iret hx hb hr (fun t ht hW => ⟨⟨(120 + (8 * p0)), (), rfl, (Option.some.inj hM).symm, trivial⟩, hS.F ht⟩) hS.2.2 dX3_at_7

/-! ShallowBoxesModel.levelOf([II)I -/
def f_X3_levelOf (N : Nat) (n0 : Nat) (p1 : Int32) (f0 : (Nat → Int32)) : Option (Int32) :=
  (zx_b1 (f_X3_at N p1) (fun x1 =>
(zx_rd n0 f0 x1 (fun x3 =>
some (x3 - 1)))))
abbrev rmX3_levelOf : Room := { frames := 1, cells := 0, slots := 0, locals := 20 }
abbrev zsX3_levelOf : List Cond := .code yX3_levelOf cX3_levelOf 2 (some .int) :: wsL_law
theorem zyX3_levelOf : yX3_levelOf.cls ≠ "java/lang/invoke/MethodHandle" ∧ yX3_levelOf.cls ≠ "java/lang/invoke/VarHandle" ∧ (parseMethodDescriptor yX3_levelOf.desc).map (fun d => d.parameters.length) = some 2 := by decide +kernel
set_option maxHeartbeats 4000000 in
set_option maxRecDepth 100000 in
theorem c_X3_levelOf (l : Launch) (D : va_G) (cI cZ cT : ClassId) (a0 n0 : Nat) (f0 : Nat → Int32) (sz : Nat) (N : Nat) (p1 : Int32) {R : Int32} (hM : f_X3_levelOf N n0 p1 f0 = some R) : Met l yX3_levelOf zsX3_levelOf rmX3_levelOf (va_Pc [.ref a0, .int p1] (bS D (zx_ty cI cZ cT) (pW1 cI a0 n0 f0) sz)) (va_Qi (fun r (_ : Unit) => R = r) (fun _ _ => True) (fun q => sz ≤ q)) 0 0 (fun q => sz ≤ q) := by
  refine Met.ofW (cc := cX3_levelOf) (maxL := 2) (ret := (some .int)) (by decide) rfl ?_
  intro p e s m args below meth c s₁ B hml hv
  obtain ⟨rfl, hsz, hP, hK, hD0, hN⟩ := hv
  have hx := B.exec
  have hb := B.bytes
  have hr := B.returns
  have hts : ∀ w ∈ wsL_law, w.before _ s = true := fun w hw => atoms_spec (ws := zsX3_levelOf) B.pre w (List.mem_cons_of_mem _ hw)
  have hown : s.vm.findClass RX3 = some m.cls := findClass_of_methodNamed B.named
  have hlocks := B.notSynchronized
  subst hsz
  generalize hAe : (fun q : Nat => s.heap.size ≤ q) = A
  have hA : ∀ q : Nat, s.heap.size ≤ q → A q := fun q h => by rw [← hAe]; exact h
  have hD := hD0
  have hS : va_S A s.heap s.heap [] := va_S.rf
  have hl := lv_entry ([.ref a0, .int p1]) (n := 2) (Nat.le_of_ble_eq_true rfl)
  rw [lg_entry_eq]
  generalize (lg_sl ([.ref a0, .int p1]) ++ List.replicate (2 - (lg_sl ([.ref a0, .int p1])).length) Slot.unset).toArray = ls at hl ⊢
  have hl : lv_has ls 2 [(0, .ref a0), (1, .int p1)] := hl
  generalize hQ : MQ below (va_Qi (fun r (_ : Unit) => R = r) (fun _ _ => True) A) ([.ref a0, .int p1] : List Value).toArray s 0 0 A = Q9
  replace hQ := hQ.symm
  unfold f_X3_levelOf at hM
  refine lv_aload_n hx hb dX3_levelOf_0 rfl (lv_at hl 0 rfl) ?_
  refine lv_iload_n hx hb dX3_levelOf_1 rfl (lv_at hl 1 rfl) ?_
  obtain ⟨x1, hz2, hM⟩ := zx_b1E hM
  refine va_calli (va_runS (As := [.int p1]) (rest := [.ref a0]) ⟨hx, hb, hml, hown, hts⟩ (c_X3_at l D cI cZ cT _ N p1 hz2) (va_cwS 1 hts (zg_S zw_9_6 zw_9_7 zw_1_5 zw_9_8) rfl rfl rfl zyX3_at ⟨Nat.le_of_ble_eq_true rfl, Nat.le_of_ble_eq_true rfl⟩) ⟨bS_blind, bS_pre (zx_P0 hP) hK (zx_D0 hD) hN⟩ rfl rfl hl.1 rfl (lv_room (Nat.le_of_ble_eq_true rfl)) dX3_levelOf_2 ⟨Nat.zero_le _, Nat.zero_le _⟩) hS (fun q h1 h2 => absurd h1 (Nat.not_lt.mpr h2)) (fun q h => hA q (Nat.le_trans hS.1 h)) (fun r u t H1 lc ht hvm hw hB hz1 hk1 hS => ?_)
  replace hw : x1 = r := hw; subst hw
  replace hP := zx_keep hP hk1
  obtain ⟨x3, q4, ex3, hM⟩ := zx_rdE hM
  refine va_iald (D := D) hx hb hK hP 0 0 rfl rfl q4 dX3_levelOf_5 ?_
  refine zx_top ex3 ?_
  refine lv_iconst (v := 1) hx hb dX3_levelOf_6 (by decide) ?_
  refine lv_isub hx hb dX3_levelOf_7 ?_
  rw [hQ]
  exact W.iret hx hb hr (fun t ht hW => ⟨⟨(x3 - 1), (), rfl, (Option.some.inj hM).symm, trivial⟩, hS.F ht⟩) hS.2.2 dX3_levelOf_8

/-! ShallowBoxesModel.many([II)I -/
def f_X3_many (N : Nat) (n0 : Nat) (p1 : Int32) (f0 : (Nat → Int32)) : Option (Int32) :=
  (zx_b1 (f_X3_at N p1) (fun x1 =>
(zx_rd n0 f0 (x1 + 1) (fun x3 =>
some x3))))
abbrev rmX3_many : Room := { frames := 1, cells := 0, slots := 0, locals := 20 }
abbrev zsX3_many : List Cond := .code yX3_many cX3_many 2 (some .int) :: wsL_law
theorem zyX3_many : yX3_many.cls ≠ "java/lang/invoke/MethodHandle" ∧ yX3_many.cls ≠ "java/lang/invoke/VarHandle" ∧ (parseMethodDescriptor yX3_many.desc).map (fun d => d.parameters.length) = some 2 := by decide +kernel
set_option maxHeartbeats 4000000 in
set_option maxRecDepth 100000 in
theorem c_X3_many (l : Launch) (D : va_G) (cI cZ cT : ClassId) (a0 n0 : Nat) (f0 : Nat → Int32) (sz : Nat) (N : Nat) (p1 : Int32) {R : Int32} (hM : f_X3_many N n0 p1 f0 = some R) : Met l yX3_many zsX3_many rmX3_many (va_Pc [.ref a0, .int p1] (bS D (zx_ty cI cZ cT) (pW1 cI a0 n0 f0) sz)) (va_Qi (fun r (_ : Unit) => R = r) (fun _ _ => True) (fun q => sz ≤ q)) 0 0 (fun q => sz ≤ q) := by
  refine Met.ofW (cc := cX3_many) (maxL := 2) (ret := (some .int)) (by decide) rfl ?_
  intro p e s m args below meth c s₁ B hml hv
  obtain ⟨rfl, hsz, hP, hK, hD0, hN⟩ := hv
  have hx := B.exec
  have hb := B.bytes
  have hr := B.returns
  have hts : ∀ w ∈ wsL_law, w.before _ s = true := fun w hw => atoms_spec (ws := zsX3_many) B.pre w (List.mem_cons_of_mem _ hw)
  have hown : s.vm.findClass RX3 = some m.cls := findClass_of_methodNamed B.named
  have hlocks := B.notSynchronized
  subst hsz
  generalize hAe : (fun q : Nat => s.heap.size ≤ q) = A
  have hA : ∀ q : Nat, s.heap.size ≤ q → A q := fun q h => by rw [← hAe]; exact h
  have hD := hD0
  have hS : va_S A s.heap s.heap [] := va_S.rf
  have hl := lv_entry ([.ref a0, .int p1]) (n := 2) (Nat.le_of_ble_eq_true rfl)
  rw [lg_entry_eq]
  generalize (lg_sl ([.ref a0, .int p1]) ++ List.replicate (2 - (lg_sl ([.ref a0, .int p1])).length) Slot.unset).toArray = ls at hl ⊢
  have hl : lv_has ls 2 [(0, .ref a0), (1, .int p1)] := hl
  generalize hQ : MQ below (va_Qi (fun r (_ : Unit) => R = r) (fun _ _ => True) A) ([.ref a0, .int p1] : List Value).toArray s 0 0 A = Q9
  replace hQ := hQ.symm
  unfold f_X3_many at hM
  refine lv_aload_n hx hb dX3_many_0 rfl (lv_at hl 0 rfl) ?_
  refine lv_iload_n hx hb dX3_many_1 rfl (lv_at hl 1 rfl) ?_
  obtain ⟨x1, hz2, hM⟩ := zx_b1E hM
  refine va_calli (va_runS (As := [.int p1]) (rest := [.ref a0]) ⟨hx, hb, hml, hown, hts⟩ (c_X3_at l D cI cZ cT _ N p1 hz2) (va_cwS 1 hts (zg_S zw_9_6 zw_9_7 zw_1_5 zw_9_8) rfl rfl rfl zyX3_at ⟨Nat.le_of_ble_eq_true rfl, Nat.le_of_ble_eq_true rfl⟩) ⟨bS_blind, bS_pre (zx_P0 hP) hK (zx_D0 hD) hN⟩ rfl rfl hl.1 rfl (lv_room (Nat.le_of_ble_eq_true rfl)) dX3_many_2 ⟨Nat.zero_le _, Nat.zero_le _⟩) hS (fun q h1 h2 => absurd h1 (Nat.not_lt.mpr h2)) (fun q h => hA q (Nat.le_trans hS.1 h)) (fun r u t H1 lc ht hvm hw hB hz1 hk1 hS => ?_)
  replace hw : x1 = r := hw; subst hw
  replace hP := zx_keep hP hk1
  refine lv_iconst (v := 1) hx hb dX3_many_5 (by decide) ?_
  refine lv_iadd hx hb dX3_many_6 ?_
  obtain ⟨x3, q4, ex3, hM⟩ := zx_rdE hM
  refine va_iald (D := D) hx hb hK hP 0 0 rfl rfl q4 dX3_many_7 ?_
  refine zx_top ex3 ?_
  rw [hQ]
  exact W.iret hx hb hr (fun t ht hW => ⟨⟨x3, (), rfl, (Option.some.inj hM).symm, trivial⟩, hS.F ht⟩) hS.2.2 dX3_many_8

/-! ShallowBoxesModel.entryOf([III)I -/
def f_X3_entryOf (N : Nat) (n0 : Nat) (p1 : Int32) (p2 : Int32) (f0 : (Nat → Int32)) : Option (Int32) :=
  (zx_b1 (f_X3_at N p1) (fun x1 =>
(zx_rd n0 f0 ((x1 + 2) + p2) (fun x3 =>
some x3))))
abbrev rmX3_entryOf : Room := { frames := 1, cells := 0, slots := 0, locals := 20 }
abbrev zsX3_entryOf : List Cond := .code yX3_entryOf cX3_entryOf 3 (some .int) :: wsL_law
theorem zyX3_entryOf : yX3_entryOf.cls ≠ "java/lang/invoke/MethodHandle" ∧ yX3_entryOf.cls ≠ "java/lang/invoke/VarHandle" ∧ (parseMethodDescriptor yX3_entryOf.desc).map (fun d => d.parameters.length) = some 3 := by decide +kernel
set_option maxHeartbeats 4000000 in
set_option maxRecDepth 100000 in
theorem c_X3_entryOf (l : Launch) (D : va_G) (cI cZ cT : ClassId) (a0 n0 : Nat) (f0 : Nat → Int32) (sz : Nat) (N : Nat) (p1 : Int32) (p2 : Int32) {R : Int32} (hM : f_X3_entryOf N n0 p1 p2 f0 = some R) : Met l yX3_entryOf zsX3_entryOf rmX3_entryOf (va_Pc [.ref a0, .int p1, .int p2] (bS D (zx_ty cI cZ cT) (pW1 cI a0 n0 f0) sz)) (va_Qi (fun r (_ : Unit) => R = r) (fun _ _ => True) (fun q => sz ≤ q)) 0 0 (fun q => sz ≤ q) := by
  refine Met.ofW (cc := cX3_entryOf) (maxL := 3) (ret := (some .int)) (by decide) rfl ?_
  intro p e s m args below meth c s₁ B hml hv
  obtain ⟨rfl, hsz, hP, hK, hD0, hN⟩ := hv
  have hx := B.exec
  have hb := B.bytes
  have hr := B.returns
  have hts : ∀ w ∈ wsL_law, w.before _ s = true := fun w hw => atoms_spec (ws := zsX3_entryOf) B.pre w (List.mem_cons_of_mem _ hw)
  have hown : s.vm.findClass RX3 = some m.cls := findClass_of_methodNamed B.named
  have hlocks := B.notSynchronized
  subst hsz
  generalize hAe : (fun q : Nat => s.heap.size ≤ q) = A
  have hA : ∀ q : Nat, s.heap.size ≤ q → A q := fun q h => by rw [← hAe]; exact h
  have hD := hD0
  have hS : va_S A s.heap s.heap [] := va_S.rf
  have hl := lv_entry ([.ref a0, .int p1, .int p2]) (n := 3) (Nat.le_of_ble_eq_true rfl)
  rw [lg_entry_eq]
  generalize (lg_sl ([.ref a0, .int p1, .int p2]) ++ List.replicate (3 - (lg_sl ([.ref a0, .int p1, .int p2])).length) Slot.unset).toArray = ls at hl ⊢
  have hl : lv_has ls 3 [(0, .ref a0), (1, .int p1), (2, .int p2)] := hl
  generalize hQ : MQ below (va_Qi (fun r (_ : Unit) => R = r) (fun _ _ => True) A) ([.ref a0, .int p1, .int p2] : List Value).toArray s 0 0 A = Q9
  replace hQ := hQ.symm
  unfold f_X3_entryOf at hM
  refine lv_aload_n hx hb dX3_entryOf_0 rfl (lv_at hl 0 rfl) ?_
  refine lv_iload_n hx hb dX3_entryOf_1 rfl (lv_at hl 1 rfl) ?_
  obtain ⟨x1, hz2, hM⟩ := zx_b1E hM
  refine va_calli (va_runS (As := [.int p1]) (rest := [.ref a0]) ⟨hx, hb, hml, hown, hts⟩ (c_X3_at l D cI cZ cT _ N p1 hz2) (va_cwS 1 hts (zg_S zw_9_6 zw_9_7 zw_1_5 zw_9_8) rfl rfl rfl zyX3_at ⟨Nat.le_of_ble_eq_true rfl, Nat.le_of_ble_eq_true rfl⟩) ⟨bS_blind, bS_pre (zx_P0 hP) hK (zx_D0 hD) hN⟩ rfl rfl hl.1 rfl (lv_room (Nat.le_of_ble_eq_true rfl)) dX3_entryOf_2 ⟨Nat.zero_le _, Nat.zero_le _⟩) hS (fun q h1 h2 => absurd h1 (Nat.not_lt.mpr h2)) (fun q h => hA q (Nat.le_trans hS.1 h)) (fun r u t H1 lc ht hvm hw hB hz1 hk1 hS => ?_)
  replace hw : x1 = r := hw; subst hw
  replace hP := zx_keep hP hk1
  refine lv_iconst (v := 2) hx hb dX3_entryOf_5 (by decide) ?_
  refine lv_iadd hx hb dX3_entryOf_6 ?_
  refine lv_iload_n hx hb dX3_entryOf_7 rfl (lv_at hl 2 rfl) ?_
  refine lv_iadd hx hb dX3_entryOf_8 ?_
  obtain ⟨x3, q4, ex3, hM⟩ := zx_rdE hM
  refine va_iald (D := D) hx hb hK hP 0 0 rfl rfl q4 dX3_entryOf_9 ?_
  refine zx_top ex3 ?_
  rw [hQ]
  exact W.iret hx hb hr (fun t ht hW => ⟨⟨x3, (), rfl, (Option.some.inj hM).symm, trivial⟩, hS.F ht⟩) hS.2.2 dX3_entryOf_10

/-! ShallowBoxesModel.isThere([II)Z -/
def f_X3_isThere (N : Nat) (n0 : Nat) (p1 : Int32) (f0 : (Nat → Int32)) : Option (Int32) :=
  (zx_b1 (f_X3_in N (Int32.toInt64 p1) 0 23) (fun x1 =>
(if x1 = 0 then
  some 0 else
  (zx_rd n0 f0 (5 * p1) (fun x4 =>
(if x4 = 1 then
  some 1 else
  some 0))))))
abbrev rmX3_isThere : Room := { frames := 1, cells := 0, slots := 0, locals := 25 }
abbrev zsX3_isThere : List Cond := .code yX3_isThere cX3_isThere 2 (some .boolean) :: wsL_law
theorem zyX3_isThere : yX3_isThere.cls ≠ "java/lang/invoke/MethodHandle" ∧ yX3_isThere.cls ≠ "java/lang/invoke/VarHandle" ∧ (parseMethodDescriptor yX3_isThere.desc).map (fun d => d.parameters.length) = some 2 := by decide +kernel
set_option maxHeartbeats 4000000 in
set_option maxRecDepth 100000 in
theorem c_X3_isThere (l : Launch) (D : va_G) (cI cZ cT : ClassId) (a0 n0 : Nat) (f0 : Nat → Int32) (sz : Nat) (N : Nat) (p1 : Int32) {R : Int32} (hM : f_X3_isThere N n0 p1 f0 = some R) : Met l yX3_isThere zsX3_isThere rmX3_isThere (va_Pc [.ref a0, .int p1] (bS D (zx_ty cI cZ cT) (pW1 cI a0 n0 f0) sz)) (va_Qi (fun r (_ : Unit) => R = r) (fun _ _ => True) (fun q => sz ≤ q)) 0 0 (fun q => sz ≤ q) := by
  refine Met.ofW (cc := cX3_isThere) (maxL := 2) (ret := (some .boolean)) (by decide) rfl ?_
  intro p e s m args below meth c s₁ B hml hv
  obtain ⟨rfl, hsz, hP, hK, hD0, hN⟩ := hv
  have hx := B.exec
  have hb := B.bytes
  have hr := B.returns
  have hts : ∀ w ∈ wsL_law, w.before _ s = true := fun w hw => atoms_spec (ws := zsX3_isThere) B.pre w (List.mem_cons_of_mem _ hw)
  have hown : s.vm.findClass RX3 = some m.cls := findClass_of_methodNamed B.named
  have hlocks := B.notSynchronized
  subst hsz
  generalize hAe : (fun q : Nat => s.heap.size ≤ q) = A
  have hA : ∀ q : Nat, s.heap.size ≤ q → A q := fun q h => by rw [← hAe]; exact h
  have hD := hD0
  have hS : va_S A s.heap s.heap [] := va_S.rf
  have hl := lv_entry ([.ref a0, .int p1]) (n := 2) (Nat.le_of_ble_eq_true rfl)
  rw [lg_entry_eq]
  generalize (lg_sl ([.ref a0, .int p1]) ++ List.replicate (2 - (lg_sl ([.ref a0, .int p1])).length) Slot.unset).toArray = ls at hl ⊢
  have hl : lv_has ls 2 [(0, .ref a0), (1, .int p1)] := hl
  generalize hQ : MQ below (va_Qi (fun r (_ : Unit) => R = r) (fun _ _ => True) A) ([.ref a0, .int p1] : List Value).toArray s 0 0 A = Q9
  replace hQ := hQ.symm
  unfold f_X3_isThere at hM
  refine lv_iload_n hx hb dX3_isThere_0 rfl (lv_at hl 1 rfl) ?_
  refine lv_i2l hx hb dX3_isThere_1 rfl ?_
  refine lv_lconst (v := 0) hx hb dX3_isThere_2 (by decide) ?_
  refine lv_ldc2 (v := 23) hx hb hown (hts _ zw_16_17) dX3_isThere_3 ?_
  obtain ⟨x1, hz2, hM⟩ := zx_b1E hM
  refine va_calli (va_runS (As := [.long (Int32.toInt64 p1), .long 0, .long 23]) (rest := []) ⟨hx, hb, hml, hown, hts⟩ (c_X3_in l D cI cZ cT _ N (Int32.toInt64 p1) 0 23 hz2) (va_cwS 3 hts (zg_S zw_5_11 zw_5_12 zw_1_5 zw_5_13) rfl rfl rfl zyX3_in ⟨Nat.le_of_ble_eq_true rfl, Nat.le_of_ble_eq_true rfl⟩) ⟨bS_blind, bS_pre (zx_P0 hP) hK (zx_D0 hD) hN⟩ rfl rfl hl.1 rfl (lv_room (Nat.le_of_ble_eq_true rfl)) dX3_isThere_6 ⟨Nat.zero_le _, Nat.zero_le _⟩) hS (fun q h1 h2 => absurd h1 (Nat.not_lt.mpr h2)) (fun q h => hA q (Nat.le_trans hS.1 h)) (fun r u t H1 lc ht hvm hw hB hz1 hk1 hS => ?_)
  replace hw : x1 = r := hw; subst hw
  replace hP := zx_keep hP hk1
  refine lv_if_eq (tgt := 25) hx hb dX3_isThere_9 (by decide) (fun q3 => ?_) (fun q3 => ?_)
  · replace hM := zx_t q3 hM
    refine lv_iconst (v := 0) hx hb dX3_isThere_25 (by decide) ?_
    rw [hQ]
    exact W.zret hx hb hr (by rfl) (fun t ht hW => ⟨⟨0, (), rfl, (Option.some.inj hM).symm, trivial⟩, hS.F ht⟩) hS.2.2 dX3_isThere_26
  · replace hM := zx_f q3 hM
    refine lv_aload_n hx hb dX3_isThere_12 rfl (lv_at hl 0 rfl) ?_
    refine lv_iconst (v := 5) hx hb dX3_isThere_13 (by decide) ?_
    refine lv_iload_n hx hb dX3_isThere_14 rfl (lv_at hl 1 rfl) ?_
    refine lv_imul hx hb dX3_isThere_15 ?_
    obtain ⟨x4, q5, ex4, hM⟩ := zx_rdE hM
    refine va_iald (D := D) hx hb hK hP 0 0 rfl rfl q5 dX3_isThere_16 ?_
    refine zx_top ex4 ?_
    refine lv_iconst (v := 1) hx hb dX3_isThere_17 (by decide) ?_
    refine lv_icmp_ne (tgt := 25) hx hb dX3_isThere_18 (by decide) (fun q6 => ?_) (fun q6 => ?_)
    · replace hM := zx_f q6 hM
      refine lv_iconst (v := 0) hx hb dX3_isThere_25 (by decide) ?_
      rw [hQ]
      exact W.zret hx hb hr (by rfl) (fun t ht hW => ⟨⟨0, (), rfl, (Option.some.inj hM).symm, trivial⟩, hS.F ht⟩) hS.2.2 dX3_isThere_26
    · replace hM := zx_t q6 hM
      refine lv_iconst (v := 1) hx hb dX3_isThere_21 (by decide) ?_
      refine lv_goto (tgt := 26) hx hb dX3_isThere_22 (by decide) ?_
      rw [hQ]
      exact W.zret hx hb hr (by rfl) (fun t ht hW => ⟨⟨1, (), rfl, (Option.some.inj hM).symm, trivial⟩, hS.F ht⟩) hS.2.2 dX3_isThere_26

/-! ShallowBoxesModel.count([I)I -/
def f_X3_count_l4 (N : Nat) (n0 : Nat) (f0 : (Nat → Int32)) : Nat → Int32 → Int32 → Option (Int32)
  | 0, _, _ => none
  | n4 + 1, v1, v2 => (if 24 ≤ v2 then
  some v1 else
  (zx_rd n0 f0 (5 * v2) (fun x2 =>
(zx_n (v1 + x2) (fun x4 =>
(zx_n (v2 + 1) (fun x5 =>
f_X3_count_l4 N n0 f0  n4 x4 x5)))))))
def f_X3_count (N : Nat) (n0 : Nat) (f0 : (Nat → Int32)) : Option (Int32) :=
  f_X3_count_l4 N n0 f0  N 0 0
abbrev rmX3_count : Room := { frames := 0, cells := 0, slots := 0, locals := 0 }
abbrev zsX3_count : List Cond := .code yX3_count cX3_count 3 (some .int) :: wsL_law
theorem zyX3_count : yX3_count.cls ≠ "java/lang/invoke/MethodHandle" ∧ yX3_count.cls ≠ "java/lang/invoke/VarHandle" ∧ (parseMethodDescriptor yX3_count.desc).map (fun d => d.parameters.length) = some 1 := by decide +kernel
set_option maxHeartbeats 4000000 in
set_option maxRecDepth 100000 in
theorem c_X3_count (l : Launch) (D : va_G) (cI cZ cT : ClassId) (a0 n0 : Nat) (f0 : Nat → Int32) (sz : Nat) (N : Nat) {R : Int32} (hM : f_X3_count N n0 f0 = some R) : Met l yX3_count zsX3_count rmX3_count (va_Pc [.ref a0] (bS D (zx_ty cI cZ cT) (pW1 cI a0 n0 f0) sz)) (va_Qi (fun r (_ : Unit) => R = r) (fun _ _ => True) (fun q => sz ≤ q)) 0 0 (fun q => sz ≤ q) := by
  refine Met.ofW (cc := cX3_count) (maxL := 3) (ret := (some .int)) (by decide) rfl ?_
  intro p e s m args below meth c s₁ B hml hv
  obtain ⟨rfl, hsz, hP, hK, hD0, hN⟩ := hv
  have hx := B.exec
  have hb := B.bytes
  have hr := B.returns
  have hts : ∀ w ∈ wsL_law, w.before _ s = true := fun w hw => atoms_spec (ws := zsX3_count) B.pre w (List.mem_cons_of_mem _ hw)
  have hown : s.vm.findClass RX3 = some m.cls := findClass_of_methodNamed B.named
  have hlocks := B.notSynchronized
  subst hsz
  generalize hAe : (fun q : Nat => s.heap.size ≤ q) = A
  have hA : ∀ q : Nat, s.heap.size ≤ q → A q := fun q h => by rw [← hAe]; exact h
  have hD := hD0
  have hS : va_S A s.heap s.heap [] := va_S.rf
  have hl := lv_entry ([.ref a0]) (n := 3) (Nat.le_of_ble_eq_true rfl)
  rw [lg_entry_eq]
  generalize (lg_sl ([.ref a0]) ++ List.replicate (3 - (lg_sl ([.ref a0])).length) Slot.unset).toArray = ls at hl ⊢
  have hl : lv_has ls 3 [(0, .ref a0)] := hl
  generalize hQ : MQ below (va_Qi (fun r (_ : Unit) => R = r) (fun _ _ => True) A) ([.ref a0] : List Value).toArray s 0 0 A = Q9
  replace hQ := hQ.symm
  unfold f_X3_count at hM
  have l4 : ∀ (n4 : Nat) (v1 : Int32) (v2 : Int32) (H : Heap) (lc : List Loc) (ls : Array Slot), va_P D vwCl (pW1 cI a0 n0 f0) H → va_S A s.heap H lc → lv_has ls 3 [(0, .ref a0), (1, .int v1), (2, .int v2)] → f_X3_count_l4 N n0 f0 n4 v1 v2 = some R → W p l e (headSpec zsX3_count rmX3_count).room s m ([.ref a0] : List Value).toArray below meth c H lc 0 0 Q9 (F0 m 4 ls []) := by
    intro n4
    induction n4 with
    | zero =>
      intro v1 v2 H lc ls hP hS hl hM
      rw [f_X3_count_l4] at hM; exact absurd hM (by intro h; cases h)
    | succ n4 ih4 =>
      intro v1 v2 H lc ls hP hS hl hM
      rw [f_X3_count_l4] at hM
      refine lv_iload_n hx hb dX3_count_4 rfl (lv_at hl 2 rfl) ?_
      refine lv_bipush (v := 24) hx hb dX3_count_5 (by decide) ?_
      refine lv_icmp_ge (tgt := 24) hx hb dX3_count_7 (by decide) (fun q1 => ?_) (fun q1 => ?_)
      · replace hM := zx_t q1 hM
        refine lv_iload_n hx hb dX3_count_24 rfl (lv_at hl 1 rfl) ?_
        rw [hQ]
        exact W.iret hx hb hr (fun t ht hW => ⟨⟨v1, (), rfl, (Option.some.inj hM).symm, trivial⟩, hS.F ht⟩) hS.2.2 dX3_count_25
      · replace hM := zx_f q1 hM
        refine lv_iload_n hx hb dX3_count_10 rfl (lv_at hl 1 rfl) ?_
        refine lv_aload_n hx hb dX3_count_11 rfl (lv_at hl 0 rfl) ?_
        refine lv_iconst (v := 5) hx hb dX3_count_12 (by decide) ?_
        refine lv_iload_n hx hb dX3_count_13 rfl (lv_at hl 2 rfl) ?_
        refine lv_imul hx hb dX3_count_14 ?_
        obtain ⟨x2, q3, ex2, hM⟩ := zx_rdE hM
        refine va_iald (D := D) hx hb hK hP 0 0 rfl rfl q3 dX3_count_15 ?_
        refine zx_top ex2 ?_
        refine lv_iadd hx hb dX3_count_16 ?_
        obtain ⟨x4, ex4, hM⟩ := zx_nE hM
        refine zx_top ex4 ?_
        refine lv_istore_n (lv' := [(1, .int x4), (0, .ref a0), (2, .int v2)]) hx hb dX3_count_17 rfl hl (by decide) rfl (fun ls hl => ?_)
        obtain ⟨x5, ex5, hM⟩ := zx_nE hM
        refine lv_iinc (v := x5) (lv' := [(2, .int x5), (1, .int x4), (0, .ref a0)]) hx hb dX3_count_18 hl (k := 2) rfl (by rw [ex5]; rfl) (by decide) rfl (fun ls hl => ?_)
        refine lv_goto (tgt := 4) hx hb dX3_count_21 (by decide) ?_
        exact ih4 x4 x5 _ _ _ hP hS (lv_sub hl [2, 1, 0] rfl) hM
  refine lv_iconst (v := 0) hx hb dX3_count_0 (by decide) ?_
  refine lv_istore_n (lv' := [(1, .int 0), (0, .ref a0)]) hx hb dX3_count_1 rfl hl (by decide) rfl (fun ls hl => ?_)
  refine lv_iconst (v := 0) hx hb dX3_count_2 (by decide) ?_
  refine lv_istore_n (lv' := [(2, .int 0), (1, .int 0), (0, .ref a0)]) hx hb dX3_count_3 rfl hl (by decide) rfl (fun ls hl => ?_)
  exact l4 N 0 0 _ _ _ hP hS (lv_sub hl [2, 1, 0] rfl) hM

/-! ShallowBoxesModel.nodes([I)I -/
def f_X3_nodes_j25 (N : Nat) (n0 : Nat) (f0 : (Nat → Int32)) (k4 : Int32 → Int32 → Option (Int32)) (v2 : Int32) (t0 : Int32) (t1 : Int32) : Option (Int32) :=
  (zx_n (t0 + t1) (fun x2 =>
(zx_n (v2 + 1) (fun x3 =>
k4 x2 x3))))
def f_X3_nodes_l4 (N : Nat) (n0 : Nat) (f0 : (Nat → Int32)) : Nat → Int32 → Int32 → Option (Int32)
  | 0, _, _ => none
  | n4 + 1, v1, v2 => (if 32 ≤ v2 then
  some v1 else
  (zx_b1 (f_X3_at N v2) (fun x4 =>
(zx_rd n0 f0 x4 (fun x6 =>
(if x6 ≤ 0 then
  f_X3_nodes_j25 N n0 f0 (f_X3_nodes_l4 N n0 f0  n4) v2 v1 0 else
  f_X3_nodes_j25 N n0 f0 (f_X3_nodes_l4 N n0 f0  n4) v2 v1 1))))))
def f_X3_nodes (N : Nat) (n0 : Nat) (f0 : (Nat → Int32)) : Option (Int32) :=
  f_X3_nodes_l4 N n0 f0  N 0 0
abbrev rmX3_nodes : Room := { frames := 1, cells := 0, slots := 0, locals := 20 }
abbrev zsX3_nodes : List Cond := .code yX3_nodes cX3_nodes 3 (some .int) :: wsL_law
theorem zyX3_nodes : yX3_nodes.cls ≠ "java/lang/invoke/MethodHandle" ∧ yX3_nodes.cls ≠ "java/lang/invoke/VarHandle" ∧ (parseMethodDescriptor yX3_nodes.desc).map (fun d => d.parameters.length) = some 1 := by decide +kernel
set_option maxHeartbeats 4000000 in
set_option maxRecDepth 100000 in
theorem c_X3_nodes (l : Launch) (D : va_G) (cI cZ cT : ClassId) (a0 n0 : Nat) (f0 : Nat → Int32) (sz : Nat) (N : Nat) {R : Int32} (hM : f_X3_nodes N n0 f0 = some R) : Met l yX3_nodes zsX3_nodes rmX3_nodes (va_Pc [.ref a0] (bS D (zx_ty cI cZ cT) (pW1 cI a0 n0 f0) sz)) (va_Qi (fun r (_ : Unit) => R = r) (fun _ _ => True) (fun q => sz ≤ q)) 0 0 (fun q => sz ≤ q) := by
  refine Met.ofW (cc := cX3_nodes) (maxL := 3) (ret := (some .int)) (by decide) rfl ?_
  intro p e s m args below meth c s₁ B hml hv
  obtain ⟨rfl, hsz, hP, hK, hD0, hN⟩ := hv
  have hx := B.exec
  have hb := B.bytes
  have hr := B.returns
  have hts : ∀ w ∈ wsL_law, w.before _ s = true := fun w hw => atoms_spec (ws := zsX3_nodes) B.pre w (List.mem_cons_of_mem _ hw)
  have hown : s.vm.findClass RX3 = some m.cls := findClass_of_methodNamed B.named
  have hlocks := B.notSynchronized
  subst hsz
  generalize hAe : (fun q : Nat => s.heap.size ≤ q) = A
  have hA : ∀ q : Nat, s.heap.size ≤ q → A q := fun q h => by rw [← hAe]; exact h
  have hD := hD0
  have hS : va_S A s.heap s.heap [] := va_S.rf
  have hl := lv_entry ([.ref a0]) (n := 3) (Nat.le_of_ble_eq_true rfl)
  rw [lg_entry_eq]
  generalize (lg_sl ([.ref a0]) ++ List.replicate (3 - (lg_sl ([.ref a0])).length) Slot.unset).toArray = ls at hl ⊢
  have hl : lv_has ls 3 [(0, .ref a0)] := hl
  generalize hQ : MQ below (va_Qi (fun r (_ : Unit) => R = r) (fun _ _ => True) A) ([.ref a0] : List Value).toArray s 0 0 A = Q9
  replace hQ := hQ.symm
  unfold f_X3_nodes at hM
  have l4 : ∀ (n4 : Nat) (v1 : Int32) (v2 : Int32) (H : Heap) (lc : List Loc) (ls : Array Slot), va_P D vwCl (pW1 cI a0 n0 f0) H → va_S A s.heap H lc → lv_has ls 3 [(0, .ref a0), (1, .int v1), (2, .int v2)] → f_X3_nodes_l4 N n0 f0 n4 v1 v2 = some R → W p l e (headSpec zsX3_nodes rmX3_nodes).room s m ([.ref a0] : List Value).toArray below meth c H lc 0 0 Q9 (F0 m 4 ls []) := by
    intro n4
    induction n4 with
    | zero =>
      intro v1 v2 H lc ls hP hS hl hM
      rw [f_X3_nodes_l4] at hM; exact absurd hM (by intro h; cases h)
    | succ n4 ih4 =>
      intro v1 v2 H lc ls hP hS hl hM
      rw [f_X3_nodes_l4] at hM
      refine lv_iload_n hx hb dX3_nodes_4 rfl (lv_at hl 2 rfl) ?_
      refine lv_bipush (v := 32) hx hb dX3_nodes_5 (by decide) ?_
      refine lv_icmp_ge (tgt := 33) hx hb dX3_nodes_7 (by decide) (fun q1 => ?_) (fun q1 => ?_)
      · replace hM := zx_t q1 hM
        refine lv_iload_n hx hb dX3_nodes_33 rfl (lv_at hl 1 rfl) ?_
        rw [hQ]
        exact W.iret hx hb hr (fun t ht hW => ⟨⟨v1, (), rfl, (Option.some.inj hM).symm, trivial⟩, hS.F ht⟩) hS.2.2 dX3_nodes_34
      · replace hM := zx_f q1 hM
        have j25 : ∀ (v2 : Int32) (t0 : Int32) (t1 : Int32) (H : Heap) (lc : List Loc) (ls : Array Slot), va_P D vwCl (pW1 cI a0 n0 f0) H → va_S A s.heap H lc → lv_has ls 3 [(0, .ref a0), (2, .int v2)] → f_X3_nodes_j25 N n0 f0 (f_X3_nodes_l4 N n0 f0  n4) v2 t0 t1 = some R → W p l e (headSpec zsX3_nodes rmX3_nodes).room s m ([.ref a0] : List Value).toArray below meth c H lc 0 0 Q9 (F0 m 25 ls [.int t1, .int t0]) := by
          intro v2 t0 t1 H lc ls hP hS hl hM
          unfold f_X3_nodes_j25 at hM
          refine lv_iadd hx hb dX3_nodes_25 ?_
          obtain ⟨x2, ex2, hM⟩ := zx_nE hM
          refine zx_top ex2 ?_
          refine lv_istore_n (lv' := [(1, .int x2), (0, .ref a0), (2, .int v2)]) hx hb dX3_nodes_26 rfl hl (by decide) rfl (fun ls hl => ?_)
          obtain ⟨x3, ex3, hM⟩ := zx_nE hM
          refine lv_iinc (v := x3) (lv' := [(2, .int x3), (1, .int x2), (0, .ref a0)]) hx hb dX3_nodes_27 hl (k := 2) rfl (by rw [ex3]; rfl) (by decide) rfl (fun ls hl => ?_)
          refine lv_goto (tgt := 4) hx hb dX3_nodes_30 (by decide) ?_
          exact ih4 x2 x3 _ _ _ hP hS (lv_sub hl [2, 1, 0] rfl) hM
        refine lv_iload_n hx hb dX3_nodes_10 rfl (lv_at hl 1 rfl) ?_
        refine lv_aload_n hx hb dX3_nodes_11 rfl (lv_at hl 0 rfl) ?_
        refine lv_iload_n hx hb dX3_nodes_12 rfl (lv_at hl 2 rfl) ?_
        obtain ⟨x4, hz5, hM⟩ := zx_b1E hM
        refine va_calli (va_runS (As := [.int v2]) (rest := [.ref a0, .int v1]) ⟨hx, hb, hml, hown, hts⟩ (c_X3_at l D cI cZ cT _ N v2 hz5) (va_cwS 1 hts (zg_S zw_9_6 zw_9_7 zw_1_5 zw_9_8) rfl rfl rfl zyX3_at ⟨Nat.le_of_ble_eq_true rfl, Nat.le_of_ble_eq_true rfl⟩) ⟨bS_blind, bS_pre (zx_P0 hP) hK (zx_D0 hD) hN⟩ rfl rfl hl.1 rfl (lv_room (Nat.le_of_ble_eq_true rfl)) dX3_nodes_13 ⟨Nat.zero_le _, Nat.zero_le _⟩) hS (fun q h1 h2 => absurd h1 (Nat.not_lt.mpr h2)) (fun q h => hA q (Nat.le_trans hS.1 h)) (fun r u t H1 lc ht hvm hw hB hz1 hk1 hS => ?_)
        replace hw : x4 = r := hw; subst hw
        replace hP := zx_keep hP hk1
        obtain ⟨x6, q7, ex6, hM⟩ := zx_rdE hM
        refine va_iald (D := D) hx hb hK hP 0 0 rfl rfl q7 dX3_nodes_16 ?_
        refine zx_top ex6 ?_
        refine lv_if_le (tgt := 24) hx hb dX3_nodes_17 (by decide) (fun q8 => ?_) (fun q8 => ?_)
        · replace hM := zx_t q8 hM
          refine lv_iconst (v := 0) hx hb dX3_nodes_24 (by decide) ?_
          exact j25 v2 v1 0 _ _ _ hP hS (lv_sub hl [0, 2] rfl) hM
        · replace hM := zx_f q8 hM
          refine lv_iconst (v := 1) hx hb dX3_nodes_20 (by decide) ?_
          refine lv_goto (tgt := 25) hx hb dX3_nodes_21 (by decide) ?_
          exact j25 v2 v1 1 _ _ _ hP hS (lv_sub hl [0, 2] rfl) hM
  refine lv_iconst (v := 0) hx hb dX3_nodes_0 (by decide) ?_
  refine lv_istore_n (lv' := [(1, .int 0), (0, .ref a0)]) hx hb dX3_nodes_1 rfl hl (by decide) rfl (fun ls hl => ?_)
  refine lv_iconst (v := 0) hx hb dX3_nodes_2 (by decide) ?_
  refine lv_istore_n (lv' := [(2, .int 0), (1, .int 0), (0, .ref a0)]) hx hb dX3_nodes_3 rfl hl (by decide) rfl (fun ls hl => ?_)
  exact l4 N 0 0 _ _ _ hP hS (lv_sub hl [2, 1, 0] rfl) hM

/-! ShallowBoxesModel.nodeWith([II)I -/
def f_X3_nodeWith_j86 (N : Nat) (n0 : Nat) (f0 : (Nat → Int32)) (k2 : Int32 → Int32 → Option (Int32)) (v1 : Int32) (v2 : Int32) : Option (Int32) :=
  (zx_n (v2 + 1) (fun x2 =>
k2 v1 x2))
def f_X3_nodeWith_l53 (N : Nat) (n0 : Nat) (f0 : (Nat → Int32)) (k2 : Int32 → Int32 → Option (Int32)) : Nat → Int32 → Int32 → Int32 → Int32 → Option (Int32)
  | 0, _, _, _, _ => none
  | n53 + 1, v1, v2, v3, v4 => (zx_b1 (f_X3_many N n0 v2 f0) (fun x3 =>
(if x3 ≤ v4 then
  f_X3_nodeWith_j86 N n0 f0 k2 v1 v2 else
  (if v3 = 0 then
  f_X3_nodeWith_j86 N n0 f0 k2 v1 v2 else
  (zx_b1 (f_X3_entryOf N n0 v2 v4 f0) (fun x7 =>
(if x7 = v1 then
  some v2 else
  (zx_n (v4 + 1) (fun x10 =>
f_X3_nodeWith_l53 N n0 f0 k2  n53 v1 v2 v3 x10)))))))))
def f_X3_nodeWith_j49 (N : Nat) (n0 : Nat) (f0 : (Nat → Int32)) (k2 : Int32 → Int32 → Option (Int32)) (v1 : Int32) (v2 : Int32) (t0 : Int32) : Option (Int32) :=
  f_X3_nodeWith_l53 N n0 f0 k2 N v1 v2 t0 0
def f_X3_nodeWith_j48 (N : Nat) (n0 : Nat) (f0 : (Nat → Int32)) (k2 : Int32 → Int32 → Option (Int32)) (v1 : Int32) (v2 : Int32) : Option (Int32) :=
  f_X3_nodeWith_j49 N n0 f0 k2 v1 v2 0
def f_X3_nodeWith_j41 (N : Nat) (n0 : Nat) (f0 : (Nat → Int32)) (k2 : Int32 → Int32 → Option (Int32)) (v1 : Int32) (v2 : Int32) (t0 : Int32) (t1 : Int32) : Option (Int32) :=
  (if t0 = t1 then
  f_X3_nodeWith_j49 N n0 f0 k2 v1 v2 1 else
  f_X3_nodeWith_j48 N n0 f0 k2 v1 v2)
def f_X3_nodeWith_j30 (N : Nat) (n0 : Nat) (f0 : (Nat → Int32)) (k2 : Int32 → Int32 → Option (Int32)) (v1 : Int32) (v2 : Int32) (t0 : Int32) : Option (Int32) :=
  (if 24 ≤ v1 then
  f_X3_nodeWith_j41 N n0 f0 k2 v1 v2 t0 0 else
  f_X3_nodeWith_j41 N n0 f0 k2 v1 v2 t0 1)
def f_X3_nodeWith_l2 (N : Nat) (n0 : Nat) (f0 : (Nat → Int32)) : Nat → Int32 → Int32 → Option (Int32)
  | 0, _, _ => none
  | n2 + 1, v1, v2 => (if 32 ≤ v2 then
  some (-1) else
  (zx_b1 (f_X3_at N v2) (fun x11 =>
(zx_rd n0 f0 x11 (fun x13 =>
(if x13 ≤ 0 then
  f_X3_nodeWith_j48 N n0 f0 (f_X3_nodeWith_l2 N n0 f0  n2) v1 v2 else
  (zx_b1 (f_X3_levelOf N n0 v2 f0) (fun x18 =>
(if x18 = 0 then
  f_X3_nodeWith_j30 N n0 f0 (f_X3_nodeWith_l2 N n0 f0  n2) v1 v2 1 else
  f_X3_nodeWith_j30 N n0 f0 (f_X3_nodeWith_l2 N n0 f0  n2) v1 v2 0)))))))))
def f_X3_nodeWith (N : Nat) (n0 : Nat) (p1 : Int32) (f0 : (Nat → Int32)) : Option (Int32) :=
  f_X3_nodeWith_l2 N n0 f0  N p1 0
abbrev rmX3_nodeWith : Room := { frames := 2, cells := 0, slots := 0, locals := 42 }
abbrev zsX3_nodeWith : List Cond := .code yX3_nodeWith cX3_nodeWith 5 (some .int) :: wsL_law
theorem zyX3_nodeWith : yX3_nodeWith.cls ≠ "java/lang/invoke/MethodHandle" ∧ yX3_nodeWith.cls ≠ "java/lang/invoke/VarHandle" ∧ (parseMethodDescriptor yX3_nodeWith.desc).map (fun d => d.parameters.length) = some 2 := by decide +kernel
set_option maxHeartbeats 4000000 in
set_option maxRecDepth 100000 in
theorem c_X3_nodeWith (l : Launch) (D : va_G) (cI cZ cT : ClassId) (a0 n0 : Nat) (f0 : Nat → Int32) (sz : Nat) (N : Nat) (p1 : Int32) {R : Int32} (hM : f_X3_nodeWith N n0 p1 f0 = some R) : Met l yX3_nodeWith zsX3_nodeWith rmX3_nodeWith (va_Pc [.ref a0, .int p1] (bS D (zx_ty cI cZ cT) (pW1 cI a0 n0 f0) sz)) (va_Qi (fun r (_ : Unit) => R = r) (fun _ _ => True) (fun q => sz ≤ q)) 0 0 (fun q => sz ≤ q) := by
  refine Met.ofW (cc := cX3_nodeWith) (maxL := 5) (ret := (some .int)) (by decide) rfl ?_
  intro p e s m args below meth c s₁ B hml hv
  obtain ⟨rfl, hsz, hP, hK, hD0, hN⟩ := hv
  have hx := B.exec
  have hb := B.bytes
  have hr := B.returns
  have hts : ∀ w ∈ wsL_law, w.before _ s = true := fun w hw => atoms_spec (ws := zsX3_nodeWith) B.pre w (List.mem_cons_of_mem _ hw)
  have hown : s.vm.findClass RX3 = some m.cls := findClass_of_methodNamed B.named
  have hlocks := B.notSynchronized
  subst hsz
  generalize hAe : (fun q : Nat => s.heap.size ≤ q) = A
  have hA : ∀ q : Nat, s.heap.size ≤ q → A q := fun q h => by rw [← hAe]; exact h
  have hD := hD0
  have hS : va_S A s.heap s.heap [] := va_S.rf
  have hl := lv_entry ([.ref a0, .int p1]) (n := 5) (Nat.le_of_ble_eq_true rfl)
  rw [lg_entry_eq]
  generalize (lg_sl ([.ref a0, .int p1]) ++ List.replicate (5 - (lg_sl ([.ref a0, .int p1])).length) Slot.unset).toArray = ls at hl ⊢
  have hl : lv_has ls 5 [(0, .ref a0), (1, .int p1)] := hl
  generalize hQ : MQ below (va_Qi (fun r (_ : Unit) => R = r) (fun _ _ => True) A) ([.ref a0, .int p1] : List Value).toArray s 0 0 A = Q9
  replace hQ := hQ.symm
  unfold f_X3_nodeWith at hM
  have l2 : ∀ (n2 : Nat) (v1 : Int32) (v2 : Int32) (H : Heap) (lc : List Loc) (ls : Array Slot), va_P D vwCl (pW1 cI a0 n0 f0) H → va_S A s.heap H lc → lv_has ls 5 [(0, .ref a0), (1, .int v1), (2, .int v2)] → f_X3_nodeWith_l2 N n0 f0 n2 v1 v2 = some R → W p l e (headSpec zsX3_nodeWith rmX3_nodeWith).room s m ([.ref a0, .int p1] : List Value).toArray below meth c H lc 0 0 Q9 (F0 m 2 ls []) := by
    intro n2
    induction n2 with
    | zero =>
      intro v1 v2 H lc ls hP hS hl hM
      rw [f_X3_nodeWith_l2] at hM; exact absurd hM (by intro h; cases h)
    | succ n2 ih2 =>
      intro v1 v2 H lc ls hP hS hl hM
      rw [f_X3_nodeWith_l2] at hM
      refine lv_iload_n hx hb dX3_nodeWith_2 rfl (lv_at hl 2 rfl) ?_
      refine lv_bipush (v := 32) hx hb dX3_nodeWith_3 (by decide) ?_
      refine lv_icmp_ge (tgt := 92) hx hb dX3_nodeWith_5 (by decide) (fun q1 => ?_) (fun q1 => ?_)
      · replace hM := zx_t q1 hM
        refine lv_iconst (v := (-1)) hx hb dX3_nodeWith_92 (by decide) ?_
        rw [hQ]
        exact W.iret hx hb hr (fun t ht hW => ⟨⟨(-1), (), rfl, (Option.some.inj hM).symm, trivial⟩, hS.F ht⟩) hS.2.2 dX3_nodeWith_93
      · replace hM := zx_f q1 hM
        have j49 : ∀ (v1 : Int32) (v2 : Int32) (t0 : Int32) (H : Heap) (lc : List Loc) (ls : Array Slot), va_P D vwCl (pW1 cI a0 n0 f0) H → va_S A s.heap H lc → lv_has ls 5 [(0, .ref a0), (1, .int v1), (2, .int v2)] → f_X3_nodeWith_j49 N n0 f0 (f_X3_nodeWith_l2 N n0 f0  n2) v1 v2 t0 = some R → W p l e (headSpec zsX3_nodeWith rmX3_nodeWith).room s m ([.ref a0, .int p1] : List Value).toArray below meth c H lc 0 0 Q9 (F0 m 49 ls [.int t0]) := by
          intro v1 v2 t0 H lc ls hP hS hl hM
          unfold f_X3_nodeWith_j49 at hM
          have l53 : ∀ (n53 : Nat) (v1 : Int32) (v2 : Int32) (v3 : Int32) (v4 : Int32) (H : Heap) (lc : List Loc) (ls : Array Slot), va_P D vwCl (pW1 cI a0 n0 f0) H → va_S A s.heap H lc → lv_has ls 5 [(0, .ref a0), (1, .int v1), (2, .int v2), (3, .int v3), (4, .int v4)] → f_X3_nodeWith_l53 N n0 f0 (f_X3_nodeWith_l2 N n0 f0  n2) n53 v1 v2 v3 v4 = some R → W p l e (headSpec zsX3_nodeWith rmX3_nodeWith).room s m ([.ref a0, .int p1] : List Value).toArray below meth c H lc 0 0 Q9 (F0 m 53 ls []) := by
            intro n53
            induction n53 with
            | zero =>
              intro v1 v2 v3 v4 H lc ls hP hS hl hM
              rw [f_X3_nodeWith_l53] at hM; exact absurd hM (by intro h; cases h)
            | succ n53 ih53 =>
              intro v1 v2 v3 v4 H lc ls hP hS hl hM
              rw [f_X3_nodeWith_l53] at hM
              have j86 : ∀ (v1 : Int32) (v2 : Int32) (H : Heap) (lc : List Loc) (ls : Array Slot), va_P D vwCl (pW1 cI a0 n0 f0) H → va_S A s.heap H lc → lv_has ls 5 [(0, .ref a0), (1, .int v1), (2, .int v2)] → f_X3_nodeWith_j86 N n0 f0 (f_X3_nodeWith_l2 N n0 f0  n2) v1 v2 = some R → W p l e (headSpec zsX3_nodeWith rmX3_nodeWith).room s m ([.ref a0, .int p1] : List Value).toArray below meth c H lc 0 0 Q9 (F0 m 86 ls []) := by
                intro v1 v2 H lc ls hP hS hl hM
                unfold f_X3_nodeWith_j86 at hM
                obtain ⟨x2, ex2, hM⟩ := zx_nE hM
                refine lv_iinc (v := x2) (lv' := [(2, .int x2), (0, .ref a0), (1, .int v1)]) hx hb dX3_nodeWith_86 hl (k := 2) rfl (by rw [ex2]; rfl) (by decide) rfl (fun ls hl => ?_)
                refine lv_goto (tgt := 2) hx hb dX3_nodeWith_89 (by decide) ?_
                exact ih2 v1 x2 _ _ _ hP hS (lv_sub hl [1, 2, 0] rfl) hM
              refine lv_iload hx hb dX3_nodeWith_53 (lv_at hl 4 rfl) ?_
              refine lv_aload_n hx hb dX3_nodeWith_55 rfl (lv_at hl 0 rfl) ?_
              refine lv_iload_n hx hb dX3_nodeWith_56 rfl (lv_at hl 2 rfl) ?_
              obtain ⟨x3, hz4, hM⟩ := zx_b1E hM
              refine va_calli (va_runS (As := [.ref a0, .int v2]) (rest := [.int v4]) ⟨hx, hb, hml, hown, hts⟩ (c_X3_many l D cI cZ cT a0 n0 f0 _ N v2 hz4) (va_cwS 2 hts (zg_S zw_9_3 zw_9_4 zw_1_5 zw_9_5) rfl rfl rfl zyX3_many ⟨Nat.le_of_ble_eq_true rfl, Nat.le_of_ble_eq_true rfl⟩) ⟨bS_blind, bS_pre (zx_P1 hP 0 (rfl)) hK (zx_D1 hD 0 (rfl)) hN⟩ rfl rfl hl.1 rfl (lv_room (Nat.le_of_ble_eq_true rfl)) dX3_nodeWith_57 ⟨Nat.zero_le _, Nat.zero_le _⟩) hS (fun q h1 h2 => absurd h1 (Nat.not_lt.mpr h2)) (fun q h => hA q (Nat.le_trans hS.1 h)) (fun r u t H1 lc ht hvm hw hB hz1 hk1 hS => ?_)
              replace hw : x3 = r := hw; subst hw
              replace hP := zx_keep hP hk1
              refine lv_icmp_ge (tgt := 86) hx hb dX3_nodeWith_60 (by decide) (fun q5 => ?_) (fun q5 => ?_)
              · replace hM := zx_t q5 hM
                exact j86 v1 v2 _ _ _ hP hS (lv_sub hl [0, 1, 2] rfl) hM
              · replace hM := zx_f q5 hM
                refine lv_iload_n hx hb dX3_nodeWith_63 rfl (lv_at hl 3 rfl) ?_
                refine lv_if_eq (tgt := 86) hx hb dX3_nodeWith_64 (by decide) (fun q6 => ?_) (fun q6 => ?_)
                · replace hM := zx_t q6 hM
                  exact j86 v1 v2 _ _ _ hP hS (lv_sub hl [0, 1, 2] rfl) hM
                · replace hM := zx_f q6 hM
                  refine lv_aload_n hx hb dX3_nodeWith_67 rfl (lv_at hl 0 rfl) ?_
                  refine lv_iload_n hx hb dX3_nodeWith_68 rfl (lv_at hl 2 rfl) ?_
                  refine lv_iload hx hb dX3_nodeWith_69 (lv_at hl 4 rfl) ?_
                  obtain ⟨x7, hz8, hM⟩ := zx_b1E hM
                  refine va_calli (va_runS (As := [.ref a0, .int v2, .int v4]) (rest := []) ⟨hx, hb, hml, hown, hts⟩ (c_X3_entryOf l D cI cZ cT a0 n0 f0 _ N v2 v4 hz8) (va_cwS 3 hts (zg_S zw_9_12 zw_9_13 zw_1_5 zw_9_14) rfl rfl rfl zyX3_entryOf ⟨Nat.le_of_ble_eq_true rfl, Nat.le_of_ble_eq_true rfl⟩) ⟨bS_blind, bS_pre (zx_P1 hP 0 (rfl)) hK (zx_D1 hD 0 (rfl)) hN⟩ rfl rfl hl.1 rfl (lv_room (Nat.le_of_ble_eq_true rfl)) dX3_nodeWith_71 ⟨Nat.zero_le _, Nat.zero_le _⟩) hS (fun q h1 h2 => absurd h1 (Nat.not_lt.mpr h2)) (fun q h => hA q (Nat.le_trans hS.1 h)) (fun r u t H1 lc ht hvm hw hB hz1 hk1 hS => ?_)
                  replace hw : x7 = r := hw; subst hw
                  replace hP := zx_keep hP hk1
                  refine lv_iload_n hx hb dX3_nodeWith_74 rfl (lv_at hl 1 rfl) ?_
                  refine lv_icmp_ne (tgt := 80) hx hb dX3_nodeWith_75 (by decide) (fun q9 => ?_) (fun q9 => ?_)
                  · replace hM := zx_f q9 hM
                    obtain ⟨x10, ex10, hM⟩ := zx_nE hM
                    refine lv_iinc (v := x10) (lv' := [(4, .int x10), (0, .ref a0), (1, .int v1), (2, .int v2), (3, .int v3)]) hx hb dX3_nodeWith_80 hl (k := 4) rfl (by rw [ex10]; rfl) (by decide) rfl (fun ls hl => ?_)
                    refine lv_goto (tgt := 53) hx hb dX3_nodeWith_83 (by decide) ?_
                    exact ih53 v1 v2 v3 x10 _ _ _ hP hS (lv_sub hl [1, 2, 3, 4, 0] rfl) hM
                  · replace hM := zx_t q9 hM
                    refine lv_iload_n hx hb dX3_nodeWith_78 rfl (lv_at hl 2 rfl) ?_
                    rw [hQ]
                    exact W.iret hx hb hr (fun t ht hW => ⟨⟨v2, (), rfl, (Option.some.inj hM).symm, trivial⟩, hS.F ht⟩) hS.2.2 dX3_nodeWith_79
          refine lv_istore_n (lv' := [(3, .int t0), (0, .ref a0), (1, .int v1), (2, .int v2)]) hx hb dX3_nodeWith_49 rfl hl (by decide) rfl (fun ls hl => ?_)
          refine lv_iconst (v := 0) hx hb dX3_nodeWith_50 (by decide) ?_
          refine lv_istore (lv' := [(4, .int 0), (3, .int t0), (0, .ref a0), (1, .int v1), (2, .int v2)]) hx hb dX3_nodeWith_51 hl (by decide) rfl (fun ls hl => ?_)
          exact l53 N v1 v2 t0 0 _ _ _ hP hS (lv_sub hl [2, 3, 4, 1, 0] rfl) hM
        have j48 : ∀ (v1 : Int32) (v2 : Int32) (H : Heap) (lc : List Loc) (ls : Array Slot), va_P D vwCl (pW1 cI a0 n0 f0) H → va_S A s.heap H lc → lv_has ls 5 [(0, .ref a0), (1, .int v1), (2, .int v2)] → f_X3_nodeWith_j48 N n0 f0 (f_X3_nodeWith_l2 N n0 f0  n2) v1 v2 = some R → W p l e (headSpec zsX3_nodeWith rmX3_nodeWith).room s m ([.ref a0, .int p1] : List Value).toArray below meth c H lc 0 0 Q9 (F0 m 48 ls []) := by
          intro v1 v2 H lc ls hP hS hl hM
          unfold f_X3_nodeWith_j48 at hM
          refine lv_iconst (v := 0) hx hb dX3_nodeWith_48 (by decide) ?_
          exact j49 v1 v2 0 _ _ _ hP hS (lv_sub hl [0, 1, 2] rfl) hM
        refine lv_aload_n hx hb dX3_nodeWith_8 rfl (lv_at hl 0 rfl) ?_
        refine lv_iload_n hx hb dX3_nodeWith_9 rfl (lv_at hl 2 rfl) ?_
        obtain ⟨x11, hz12, hM⟩ := zx_b1E hM
        refine va_calli (va_runS (As := [.int v2]) (rest := [.ref a0]) ⟨hx, hb, hml, hown, hts⟩ (c_X3_at l D cI cZ cT _ N v2 hz12) (va_cwS 1 hts (zg_S zw_9_6 zw_9_7 zw_1_5 zw_9_8) rfl rfl rfl zyX3_at ⟨Nat.le_of_ble_eq_true rfl, Nat.le_of_ble_eq_true rfl⟩) ⟨bS_blind, bS_pre (zx_P0 hP) hK (zx_D0 hD) hN⟩ rfl rfl hl.1 rfl (lv_room (Nat.le_of_ble_eq_true rfl)) dX3_nodeWith_10 ⟨Nat.zero_le _, Nat.zero_le _⟩) hS (fun q h1 h2 => absurd h1 (Nat.not_lt.mpr h2)) (fun q h => hA q (Nat.le_trans hS.1 h)) (fun r u t H1 lc ht hvm hw hB hz1 hk1 hS => ?_)
        replace hw : x11 = r := hw; subst hw
        replace hP := zx_keep hP hk1
        obtain ⟨x13, q14, ex13, hM⟩ := zx_rdE hM
        refine va_iald (D := D) hx hb hK hP 0 0 rfl rfl q14 dX3_nodeWith_13 ?_
        refine zx_top ex13 ?_
        refine lv_if_le (tgt := 48) hx hb dX3_nodeWith_14 (by decide) (fun q15 => ?_) (fun q15 => ?_)
        · replace hM := zx_t q15 hM
          exact j48 v1 v2 _ _ _ hP hS (lv_sub hl [0, 1, 2] rfl) hM
        · replace hM := zx_f q15 hM
          have j30 : ∀ (v1 : Int32) (v2 : Int32) (t0 : Int32) (H : Heap) (lc : List Loc) (ls : Array Slot), va_P D vwCl (pW1 cI a0 n0 f0) H → va_S A s.heap H lc → lv_has ls 5 [(0, .ref a0), (1, .int v1), (2, .int v2)] → f_X3_nodeWith_j30 N n0 f0 (f_X3_nodeWith_l2 N n0 f0  n2) v1 v2 t0 = some R → W p l e (headSpec zsX3_nodeWith rmX3_nodeWith).room s m ([.ref a0, .int p1] : List Value).toArray below meth c H lc 0 0 Q9 (F0 m 30 ls [.int t0]) := by
            intro v1 v2 t0 H lc ls hP hS hl hM
            unfold f_X3_nodeWith_j30 at hM
            have j41 : ∀ (v1 : Int32) (v2 : Int32) (t0 : Int32) (t1 : Int32) (H : Heap) (lc : List Loc) (ls : Array Slot), va_P D vwCl (pW1 cI a0 n0 f0) H → va_S A s.heap H lc → lv_has ls 5 [(0, .ref a0), (1, .int v1), (2, .int v2)] → f_X3_nodeWith_j41 N n0 f0 (f_X3_nodeWith_l2 N n0 f0  n2) v1 v2 t0 t1 = some R → W p l e (headSpec zsX3_nodeWith rmX3_nodeWith).room s m ([.ref a0, .int p1] : List Value).toArray below meth c H lc 0 0 Q9 (F0 m 41 ls [.int t1, .int t0]) := by
              intro v1 v2 t0 t1 H lc ls hP hS hl hM
              unfold f_X3_nodeWith_j41 at hM
              refine lv_icmp_ne (tgt := 48) hx hb dX3_nodeWith_41 (by decide) (fun q16 => ?_) (fun q16 => ?_)
              · replace hM := zx_f q16 hM
                exact j48 v1 v2 _ _ _ hP hS (lv_sub hl [0, 1, 2] rfl) hM
              · replace hM := zx_t q16 hM
                refine lv_iconst (v := 1) hx hb dX3_nodeWith_44 (by decide) ?_
                refine lv_goto (tgt := 49) hx hb dX3_nodeWith_45 (by decide) ?_
                exact j49 v1 v2 1 _ _ _ hP hS (lv_sub hl [0, 1, 2] rfl) hM
            refine lv_iload_n hx hb dX3_nodeWith_30 rfl (lv_at hl 1 rfl) ?_
            refine lv_bipush (v := 24) hx hb dX3_nodeWith_31 (by decide) ?_
            refine lv_icmp_ge (tgt := 40) hx hb dX3_nodeWith_33 (by decide) (fun q17 => ?_) (fun q17 => ?_)
            · replace hM := zx_t q17 hM
              refine lv_iconst (v := 0) hx hb dX3_nodeWith_40 (by decide) ?_
              exact j41 v1 v2 t0 0 _ _ _ hP hS (lv_sub hl [0, 1, 2] rfl) hM
            · replace hM := zx_f q17 hM
              refine lv_iconst (v := 1) hx hb dX3_nodeWith_36 (by decide) ?_
              refine lv_goto (tgt := 41) hx hb dX3_nodeWith_37 (by decide) ?_
              exact j41 v1 v2 t0 1 _ _ _ hP hS (lv_sub hl [0, 1, 2] rfl) hM
          refine lv_aload_n hx hb dX3_nodeWith_17 rfl (lv_at hl 0 rfl) ?_
          refine lv_iload_n hx hb dX3_nodeWith_18 rfl (lv_at hl 2 rfl) ?_
          obtain ⟨x18, hz19, hM⟩ := zx_b1E hM
          refine va_calli (va_runS (As := [.ref a0, .int v2]) (rest := []) ⟨hx, hb, hml, hown, hts⟩ (c_X3_levelOf l D cI cZ cT a0 n0 f0 _ N v2 hz19) (va_cwS 2 hts (zg_S zw_9_9 zw_9_10 zw_1_5 zw_9_11) rfl rfl rfl zyX3_levelOf ⟨Nat.le_of_ble_eq_true rfl, Nat.le_of_ble_eq_true rfl⟩) ⟨bS_blind, bS_pre (zx_P1 hP 0 (rfl)) hK (zx_D1 hD 0 (rfl)) hN⟩ rfl rfl hl.1 rfl (lv_room (Nat.le_of_ble_eq_true rfl)) dX3_nodeWith_19 ⟨Nat.zero_le _, Nat.zero_le _⟩) hS (fun q h1 h2 => absurd h1 (Nat.not_lt.mpr h2)) (fun q h => hA q (Nat.le_trans hS.1 h)) (fun r u t H1 lc ht hvm hw hB hz1 hk1 hS => ?_)
          replace hw : x18 = r := hw; subst hw
          replace hP := zx_keep hP hk1
          refine lv_if_ne (tgt := 29) hx hb dX3_nodeWith_22 (by decide) (fun q20 => ?_) (fun q20 => ?_)
          · replace hM := zx_f q20 hM
            refine lv_iconst (v := 0) hx hb dX3_nodeWith_29 (by decide) ?_
            exact j30 v1 v2 0 _ _ _ hP hS (lv_sub hl [0, 1, 2] rfl) hM
          · replace hM := zx_t q20 hM
            refine lv_iconst (v := 1) hx hb dX3_nodeWith_25 (by decide) ?_
            refine lv_goto (tgt := 30) hx hb dX3_nodeWith_26 (by decide) ?_
            exact j30 v1 v2 1 _ _ _ hP hS (lv_sub hl [0, 1, 2] rfl) hM
  refine lv_iconst (v := 0) hx hb dX3_nodeWith_0 (by decide) ?_
  refine lv_istore_n (lv' := [(2, .int 0), (0, .ref a0), (1, .int p1)]) hx hb dX3_nodeWith_1 rfl hl (by decide) rfl (fun ls hl => ?_)
  exact l2 N p1 0 _ _ _ hP hS (lv_sub hl [1, 2, 0] rfl) hM

/-! ShallowBoxesModel.insert([IIII)V -/
def f_X3_insert_l15 (N : Nat) (n0 : Nat) : Nat → Int32 → Int32 → Int32 → Int32 → Int32 → (Nat → Int32) → Option ((Nat → Int32))
  | 0, _, _, _, _, _, _ => none
  | n15 + 1, v1, v2, v3, v4, v5, f0_ => (if v5 ≤ v2 then
  (zx_wr n0 (v4 + v2) (upd f0_ (Int32.toNatClampNeg (v4 + v2)) v3) (fun g2 =>
(zx_b1 (f_X3_at N v1) (fun x4 =>
(zx_rd n0 g2 (x4 + 1) (fun x6 =>
(zx_wr n0 (x4 + 1) (upd g2 (Int32.toNatClampNeg (x4 + 1)) (x6 + 1)) (fun g8 =>
some g8)))))))) else
  (zx_rd n0 f0_ ((v4 + v5) - 1) (fun x10 =>
(zx_wr n0 (v4 + v5) (upd f0_ (Int32.toNatClampNeg (v4 + v5)) x10) (fun g12 =>
(zx_n (v5 + (-1)) (fun x14 =>
f_X3_insert_l15 N n0  n15 v1 v2 v3 v4 x14 g12)))))))
def f_X3_insert (N : Nat) (n0 : Nat) (p1 : Int32) (p2 : Int32) (p3 : Int32) (f0 : (Nat → Int32)) : Option ((Nat → Int32)) :=
  (zx_b1 (f_X3_at N p1) (fun x15 =>
(zx_n (x15 + 2) (fun x17 =>
(zx_b1 (f_X3_many N n0 p1 f0) (fun x18 =>
f_X3_insert_l15 N n0  N p1 p2 p3 x17 x18 f0))))))
abbrev rmX3_insert : Room := { frames := 2, cells := 0, slots := 0, locals := 41 }
abbrev zsX3_insert : List Cond := .code yX3_insert cX3_insert 6 none :: wsL_law
theorem zyX3_insert : yX3_insert.cls ≠ "java/lang/invoke/MethodHandle" ∧ yX3_insert.cls ≠ "java/lang/invoke/VarHandle" ∧ (parseMethodDescriptor yX3_insert.desc).map (fun d => d.parameters.length) = some 4 := by decide +kernel
set_option maxHeartbeats 4000000 in
set_option maxRecDepth 100000 in
theorem c_X3_insert (l : Launch) (D : va_G) (cI cZ cT : ClassId) (a0 n0 : Nat) (f0 : Nat → Int32) (sz : Nat) (N : Nat) (p1 : Int32) (p2 : Int32) (p3 : Int32) {R : (Nat → Int32)} (hM : f_X3_insert N n0 p1 p2 p3 f0 = some R) : Met l yX3_insert zsX3_insert rmX3_insert (va_Pc [.ref a0, .int p1, .int p2, .int p3] (bS D (zx_ty cI cZ cT) (pW1 cI a0 n0 f0) sz)) (va_Qv (fun u => R = u) (fun u t => va_P D vwCl (pW1 cI a0 n0 u) t.heap) (va_A (pW1 cI a0 n0 f0) sz)) 0 0 (va_A (pW1 cI a0 n0 f0) sz) := by
  refine Met.ofW (cc := cX3_insert) (maxL := 6) (ret := none) (by decide) rfl ?_
  intro p e s m args below meth c s₁ B hml hv
  obtain ⟨rfl, hsz, hP, hK, hD0, hN⟩ := hv
  have hx := B.exec
  have hb := B.bytes
  have hr := B.returns
  have hts : ∀ w ∈ wsL_law, w.before _ s = true := fun w hw => atoms_spec (ws := zsX3_insert) B.pre w (List.mem_cons_of_mem _ hw)
  have hown : s.vm.findClass RX3 = some m.cls := findClass_of_methodNamed B.named
  have hlocks := B.notSynchronized
  subst hsz
  have hD := hD0.self (sz := s.heap.size)
  generalize hAe : va_A (pW1 cI a0 n0 f0) s.heap.size = A at hD ⊢
  have hA : ∀ q : Nat, s.heap.size ≤ q → A q := fun q h => by rw [← hAe]; exact Or.inr h
  have hS : va_S A s.heap s.heap [] := va_S.rf
  have hl := lv_entry ([.ref a0, .int p1, .int p2, .int p3]) (n := 6) (Nat.le_of_ble_eq_true rfl)
  rw [lg_entry_eq]
  generalize (lg_sl ([.ref a0, .int p1, .int p2, .int p3]) ++ List.replicate (6 - (lg_sl ([.ref a0, .int p1, .int p2, .int p3])).length) Slot.unset).toArray = ls at hl ⊢
  have hl : lv_has ls 6 [(0, .ref a0), (1, .int p1), (2, .int p2), (3, .int p3)] := hl
  generalize hQ : MQ below (va_Qv (fun u => R = u) (fun u t => va_P D vwCl (pW1 cI a0 n0 u) t.heap) A) ([.ref a0, .int p1, .int p2, .int p3] : List Value).toArray s 0 0 A = Q9
  replace hQ := hQ.symm
  unfold f_X3_insert at hM
  have l15 : ∀ (n15 : Nat) (v1 : Int32) (v2 : Int32) (v3 : Int32) (v4 : Int32) (v5 : Int32) (f0_ : (Nat → Int32)) (H : Heap) (lc : List Loc) (ls : Array Slot), va_P D vwCl (pW1 cI a0 n0 f0_) H → va_D A (pW1 cI a0 n0 f0_) → va_S A s.heap H lc → lv_has ls 6 [(0, .ref a0), (1, .int v1), (2, .int v2), (3, .int v3), (4, .int v4), (5, .int v5)] → f_X3_insert_l15 N n0 n15 v1 v2 v3 v4 v5 f0_ = some R → W p l e (headSpec zsX3_insert rmX3_insert).room s m ([.ref a0, .int p1, .int p2, .int p3] : List Value).toArray below meth c H lc 0 0 Q9 (F0 m 15 ls []) := by
    intro n15
    induction n15 with
    | zero =>
      intro v1 v2 v3 v4 v5 f0_ H lc ls hP hD hS hl hM
      rw [f_X3_insert_l15] at hM; exact absurd hM (by intro h; cases h)
    | succ n15 ih15 =>
      intro v1 v2 v3 v4 v5 f0_ H lc ls hP hD hS hl hM
      rw [f_X3_insert_l15] at hM
      refine lv_iload hx hb dX3_insert_15 (lv_at hl 5 rfl) ?_
      refine lv_iload_n hx hb dX3_insert_17 rfl (lv_at hl 2 rfl) ?_
      refine lv_icmp_le (tgt := 43) hx hb dX3_insert_18 (by decide) (fun q1 => ?_) (fun q1 => ?_)
      · replace hM := zx_t q1 hM
        refine lv_aload_n hx hb dX3_insert_43 rfl (lv_at hl 0 rfl) ?_
        refine lv_iload hx hb dX3_insert_44 (lv_at hl 4 rfl) ?_
        refine lv_iload_n hx hb dX3_insert_46 rfl (lv_at hl 2 rfl) ?_
        refine lv_iadd hx hb dX3_insert_47 ?_
        refine lv_iload_n hx hb dX3_insert_48 rfl (lv_at hl 3 rfl) ?_
        obtain ⟨g2, q3, eg2, hM⟩ := zx_wrE hM
        refine va_iast (D := D) hx hb hK hP hD hS 0 0 rfl rfl q3 dX3_insert_49 (fun H lc hP hD hS => ?_)
        rw [pW1_p0] at hP hD
        rw [← eg2] at hP hD
        refine lv_aload_n hx hb dX3_insert_50 rfl (lv_at hl 0 rfl) ?_
        refine lv_iload_n hx hb dX3_insert_51 rfl (lv_at hl 1 rfl) ?_
        obtain ⟨x4, hz5, hM⟩ := zx_b1E hM
        refine va_calli (va_runS (As := [.int v1]) (rest := [.ref a0]) ⟨hx, hb, hml, hown, hts⟩ (c_X3_at l D cI cZ cT _ N v1 hz5) (va_cwS 1 hts (zg_S zw_9_6 zw_9_7 zw_1_5 zw_9_8) rfl rfl rfl zyX3_at ⟨Nat.le_of_ble_eq_true rfl, Nat.le_of_ble_eq_true rfl⟩) ⟨bS_blind, bS_pre (zx_P0 hP) hK (zx_D0 hD) hN⟩ rfl rfl hl.1 rfl (lv_room (Nat.le_of_ble_eq_true rfl)) dX3_insert_52 ⟨Nat.zero_le _, Nat.zero_le _⟩) hS (fun q h1 h2 => absurd h1 (Nat.not_lt.mpr h2)) (fun q h => hA q (Nat.le_trans hS.1 h)) (fun r u t H1 lc ht hvm hw hB hz1 hk1 hS => ?_)
        replace hw : x4 = r := hw; subst hw
        replace hP := zx_keep hP hk1
        refine lv_iconst (v := 1) hx hb dX3_insert_55 (by decide) ?_
        refine lv_iadd hx hb dX3_insert_56 ?_
        refine lv_dup2_11 hx hb dX3_insert_57 rfl rfl ?_
        obtain ⟨x6, q7, ex6, hM⟩ := zx_rdE hM
        refine va_iald (D := D) hx hb hK hP 0 0 rfl rfl q7 dX3_insert_58 ?_
        refine zx_top ex6 ?_
        refine lv_iconst (v := 1) hx hb dX3_insert_59 (by decide) ?_
        refine lv_iadd hx hb dX3_insert_60 ?_
        obtain ⟨g8, q9, eg8, hM⟩ := zx_wrE hM
        refine va_iast (D := D) hx hb hK hP hD hS 0 0 rfl rfl q9 dX3_insert_61 (fun H lc hP hD hS => ?_)
        rw [pW1_p0] at hP hD
        rw [← eg8] at hP hD
        rw [hQ]
        exact W.vret hx hb hr (fun t ht hW => ⟨⟨g8, rfl, (Option.some.inj hM).symm, by show va_P D vwCl _ t.heap; rw [ht]; exact hP⟩, hS.F ht⟩) hS.2.2 dX3_insert_62
      · replace hM := zx_f q1 hM
        refine lv_aload_n hx hb dX3_insert_21 rfl (lv_at hl 0 rfl) ?_
        refine lv_iload hx hb dX3_insert_22 (lv_at hl 4 rfl) ?_
        refine lv_iload hx hb dX3_insert_24 (lv_at hl 5 rfl) ?_
        refine lv_iadd hx hb dX3_insert_26 ?_
        refine lv_aload_n hx hb dX3_insert_27 rfl (lv_at hl 0 rfl) ?_
        refine lv_iload hx hb dX3_insert_28 (lv_at hl 4 rfl) ?_
        refine lv_iload hx hb dX3_insert_30 (lv_at hl 5 rfl) ?_
        refine lv_iadd hx hb dX3_insert_32 ?_
        refine lv_iconst (v := 1) hx hb dX3_insert_33 (by decide) ?_
        refine lv_isub hx hb dX3_insert_34 ?_
        obtain ⟨x10, q11, ex10, hM⟩ := zx_rdE hM
        refine va_iald (D := D) hx hb hK hP 0 0 rfl rfl q11 dX3_insert_35 ?_
        refine zx_top ex10 ?_
        obtain ⟨g12, q13, eg12, hM⟩ := zx_wrE hM
        refine va_iast (D := D) hx hb hK hP hD hS 0 0 rfl rfl q13 dX3_insert_36 (fun H lc hP hD hS => ?_)
        rw [pW1_p0] at hP hD
        rw [← eg12] at hP hD
        obtain ⟨x14, ex14, hM⟩ := zx_nE hM
        refine lv_iinc (v := x14) (lv' := [(5, .int x14), (0, .ref a0), (1, .int v1), (2, .int v2), (3, .int v3), (4, .int v4)]) hx hb dX3_insert_37 hl (k := 5) rfl (by rw [ex14]; rfl) (by decide) rfl (fun ls hl => ?_)
        refine lv_goto (tgt := 15) hx hb dX3_insert_40 (by decide) ?_
        exact ih15 v1 v2 v3 v4 x14 g12 _ _ _ hP hD hS (lv_sub hl [1, 2, 3, 4, 5, 0] rfl) hM
  refine lv_iload_n hx hb dX3_insert_0 rfl (lv_at hl 1 rfl) ?_
  obtain ⟨x15, hz16, hM⟩ := zx_b1E hM
  refine va_calli (va_runS (As := [.int p1]) (rest := []) ⟨hx, hb, hml, hown, hts⟩ (c_X3_at l D cI cZ cT _ N p1 hz16) (va_cwS 1 hts (zg_S zw_9_6 zw_9_7 zw_1_5 zw_9_8) rfl rfl rfl zyX3_at ⟨Nat.le_of_ble_eq_true rfl, Nat.le_of_ble_eq_true rfl⟩) ⟨bS_blind, bS_pre (zx_P0 hP) hK (zx_D0 hD) hN⟩ rfl rfl hl.1 rfl (lv_room (Nat.le_of_ble_eq_true rfl)) dX3_insert_1 ⟨Nat.zero_le _, Nat.zero_le _⟩) hS (fun q h1 h2 => absurd h1 (Nat.not_lt.mpr h2)) (fun q h => hA q (Nat.le_trans hS.1 h)) (fun r u t H1 lc ht hvm hw hB hz1 hk1 hS => ?_)
  replace hw : x15 = r := hw; subst hw
  replace hP := zx_keep hP hk1
  refine lv_iconst (v := 2) hx hb dX3_insert_4 (by decide) ?_
  refine lv_iadd hx hb dX3_insert_5 ?_
  obtain ⟨x17, ex17, hM⟩ := zx_nE hM
  refine zx_top ex17 ?_
  refine lv_istore (lv' := [(4, .int x17), (0, .ref a0), (1, .int p1), (2, .int p2), (3, .int p3)]) hx hb dX3_insert_6 hl (by decide) rfl (fun ls hl => ?_)
  refine lv_aload_n hx hb dX3_insert_8 rfl (lv_at hl 1 rfl) ?_
  refine lv_iload_n hx hb dX3_insert_9 rfl (lv_at hl 2 rfl) ?_
  obtain ⟨x18, hz19, hM⟩ := zx_b1E hM
  refine va_calli (va_runS (As := [.ref a0, .int p1]) (rest := []) ⟨hx, hb, hml, hown, hts⟩ (c_X3_many l D cI cZ cT a0 n0 f0 _ N p1 hz19) (va_cwS 2 hts (zg_S zw_9_3 zw_9_4 zw_1_5 zw_9_5) rfl rfl rfl zyX3_many ⟨Nat.le_of_ble_eq_true rfl, Nat.le_of_ble_eq_true rfl⟩) ⟨bS_blind, bS_pre (zx_P1 hP 0 (rfl)) hK (zx_D1 hD 0 (rfl)) hN⟩ rfl rfl hl.1 rfl (lv_room (Nat.le_of_ble_eq_true rfl)) dX3_insert_10 ⟨Nat.zero_le _, Nat.zero_le _⟩) hS (fun q h1 h2 => absurd h1 (Nat.not_lt.mpr h2)) (fun q h => hA q (Nat.le_trans hS.1 h)) (fun r u t H1 lc ht hvm hw hB hz1 hk1 hS => ?_)
  replace hw : x18 = r := hw; subst hw
  replace hP := zx_keep hP hk1
  refine lv_istore (lv' := [(5, .int x18), (4, .int x17), (0, .ref a0), (1, .int p1), (2, .int p2), (3, .int p3)]) hx hb dX3_insert_13 hl (by decide) rfl (fun ls hl => ?_)
  exact l15 N p1 p2 p3 x17 x18 f0 _ _ _ hP hD hS (lv_sub hl [2, 3, 4, 5, 1, 0] rfl) hM

/-! ShallowBoxesModel.cutOut([III)V -/
def f_X3_cutOut_l42 (N : Nat) (n0 : Nat) : Nat → Int32 → Int32 → Int32 → (Nat → Int32) → Option ((Nat → Int32))
  | 0, _, _, _, _ => none
  | n42 + 1, v1, v3, v5, f0_ => (zx_b1 (f_X3_many N n0 v1 f0_) (fun x4 =>
(if x4 ≤ v5 then
  (zx_b1 (f_X3_many N n0 v1 f0_) (fun x7 =>
(zx_wr n0 (v3 + x7) (upd f0_ (Int32.toNatClampNeg (v3 + x7)) 0) (fun g9 =>
some g9)))) else
  (zx_rd n0 f0_ ((v3 + v5) + 1) (fun x11 =>
(zx_wr n0 (v3 + v5) (upd f0_ (Int32.toNatClampNeg (v3 + v5)) x11) (fun g13 =>
(zx_n (v5 + 1) (fun x15 =>
f_X3_cutOut_l42 N n0  n42 v1 v3 x15 g13)))))))))
def f_X3_cutOut_l10 (N : Nat) (n0 : Nat) : Nat → Int32 → Int32 → Int32 → Int32 → (Nat → Int32) → Option ((Nat → Int32))
  | 0, _, _, _, _, _ => none
  | n10 + 1, v1, v2, v3, v4, f0_ => (zx_rd n0 f0_ (v3 + v4) (fun x1 =>
(if x1 = v2 then
  (zx_b1 (f_X3_at N v1) (fun x16 =>
(zx_rd n0 f0_ (x16 + 1) (fun x18 =>
(zx_wr n0 (x16 + 1) (upd f0_ (Int32.toNatClampNeg (x16 + 1)) (x18 - 1)) (fun g20 =>
f_X3_cutOut_l42 N n0  N v1 v3 v4 g20)))))) else
  (zx_n (v4 + 1) (fun x22 =>
f_X3_cutOut_l10 N n0  n10 v1 v2 v3 x22 f0_)))))
def f_X3_cutOut (N : Nat) (n0 : Nat) (p1 : Int32) (p2 : Int32) (f0 : (Nat → Int32)) : Option ((Nat → Int32)) :=
  (zx_b1 (f_X3_at N p1) (fun x23 =>
(zx_n (x23 + 2) (fun x25 =>
f_X3_cutOut_l10 N n0  N p1 p2 x25 0 f0))))
abbrev rmX3_cutOut : Room := { frames := 2, cells := 0, slots := 0, locals := 41 }
abbrev zsX3_cutOut : List Cond := .code yX3_cutOut cX3_cutOut 6 none :: wsL_law
theorem zyX3_cutOut : yX3_cutOut.cls ≠ "java/lang/invoke/MethodHandle" ∧ yX3_cutOut.cls ≠ "java/lang/invoke/VarHandle" ∧ (parseMethodDescriptor yX3_cutOut.desc).map (fun d => d.parameters.length) = some 3 := by decide +kernel
set_option maxHeartbeats 4000000 in
set_option maxRecDepth 100000 in
theorem c_X3_cutOut (l : Launch) (D : va_G) (cI cZ cT : ClassId) (a0 n0 : Nat) (f0 : Nat → Int32) (sz : Nat) (N : Nat) (p1 : Int32) (p2 : Int32) {R : (Nat → Int32)} (hM : f_X3_cutOut N n0 p1 p2 f0 = some R) : Met l yX3_cutOut zsX3_cutOut rmX3_cutOut (va_Pc [.ref a0, .int p1, .int p2] (bS D (zx_ty cI cZ cT) (pW1 cI a0 n0 f0) sz)) (va_Qv (fun u => R = u) (fun u t => va_P D vwCl (pW1 cI a0 n0 u) t.heap) (va_A (pW1 cI a0 n0 f0) sz)) 0 0 (va_A (pW1 cI a0 n0 f0) sz) := by
  refine Met.ofW (cc := cX3_cutOut) (maxL := 6) (ret := none) (by decide) rfl ?_
  intro p e s m args below meth c s₁ B hml hv
  obtain ⟨rfl, hsz, hP, hK, hD0, hN⟩ := hv
  have hx := B.exec
  have hb := B.bytes
  have hr := B.returns
  have hts : ∀ w ∈ wsL_law, w.before _ s = true := fun w hw => atoms_spec (ws := zsX3_cutOut) B.pre w (List.mem_cons_of_mem _ hw)
  have hown : s.vm.findClass RX3 = some m.cls := findClass_of_methodNamed B.named
  have hlocks := B.notSynchronized
  subst hsz
  have hD := hD0.self (sz := s.heap.size)
  generalize hAe : va_A (pW1 cI a0 n0 f0) s.heap.size = A at hD ⊢
  have hA : ∀ q : Nat, s.heap.size ≤ q → A q := fun q h => by rw [← hAe]; exact Or.inr h
  have hS : va_S A s.heap s.heap [] := va_S.rf
  have hl := lv_entry ([.ref a0, .int p1, .int p2]) (n := 6) (Nat.le_of_ble_eq_true rfl)
  rw [lg_entry_eq]
  generalize (lg_sl ([.ref a0, .int p1, .int p2]) ++ List.replicate (6 - (lg_sl ([.ref a0, .int p1, .int p2])).length) Slot.unset).toArray = ls at hl ⊢
  have hl : lv_has ls 6 [(0, .ref a0), (1, .int p1), (2, .int p2)] := hl
  generalize hQ : MQ below (va_Qv (fun u => R = u) (fun u t => va_P D vwCl (pW1 cI a0 n0 u) t.heap) A) ([.ref a0, .int p1, .int p2] : List Value).toArray s 0 0 A = Q9
  replace hQ := hQ.symm
  unfold f_X3_cutOut at hM
  have l10 : ∀ (n10 : Nat) (v1 : Int32) (v2 : Int32) (v3 : Int32) (v4 : Int32) (f0_ : (Nat → Int32)) (H : Heap) (lc : List Loc) (ls : Array Slot), va_P D vwCl (pW1 cI a0 n0 f0_) H → va_D A (pW1 cI a0 n0 f0_) → va_S A s.heap H lc → lv_has ls 6 [(0, .ref a0), (1, .int v1), (2, .int v2), (3, .int v3), (4, .int v4)] → f_X3_cutOut_l10 N n0 n10 v1 v2 v3 v4 f0_ = some R → W p l e (headSpec zsX3_cutOut rmX3_cutOut).room s m ([.ref a0, .int p1, .int p2] : List Value).toArray below meth c H lc 0 0 Q9 (F0 m 10 ls []) := by
    intro n10
    induction n10 with
    | zero =>
      intro v1 v2 v3 v4 f0_ H lc ls hP hD hS hl hM
      rw [f_X3_cutOut_l10] at hM; exact absurd hM (by intro h; cases h)
    | succ n10 ih10 =>
      intro v1 v2 v3 v4 f0_ H lc ls hP hD hS hl hM
      rw [f_X3_cutOut_l10] at hM
      refine lv_aload_n hx hb dX3_cutOut_10 rfl (lv_at hl 0 rfl) ?_
      refine lv_iload_n hx hb dX3_cutOut_11 rfl (lv_at hl 3 rfl) ?_
      refine lv_iload hx hb dX3_cutOut_12 (lv_at hl 4 rfl) ?_
      refine lv_iadd hx hb dX3_cutOut_14 ?_
      obtain ⟨x1, q2, ex1, hM⟩ := zx_rdE hM
      refine va_iald (D := D) hx hb hK hP 0 0 rfl rfl q2 dX3_cutOut_15 ?_
      refine zx_top ex1 ?_
      refine lv_iload_n hx hb dX3_cutOut_16 rfl (lv_at hl 2 rfl) ?_
      refine lv_icmp_eq (tgt := 26) hx hb dX3_cutOut_17 (by decide) (fun q3 => ?_) (fun q3 => ?_)
      · replace hM := zx_t q3 hM
        have l42 : ∀ (n42 : Nat) (v1 : Int32) (v3 : Int32) (v5 : Int32) (f0_ : (Nat → Int32)) (H : Heap) (lc : List Loc) (ls : Array Slot), va_P D vwCl (pW1 cI a0 n0 f0_) H → va_D A (pW1 cI a0 n0 f0_) → va_S A s.heap H lc → lv_has ls 6 [(0, .ref a0), (1, .int v1), (3, .int v3), (5, .int v5)] → f_X3_cutOut_l42 N n0 n42 v1 v3 v5 f0_ = some R → W p l e (headSpec zsX3_cutOut rmX3_cutOut).room s m ([.ref a0, .int p1, .int p2] : List Value).toArray below meth c H lc 0 0 Q9 (F0 m 42 ls []) := by
          intro n42
          induction n42 with
          | zero =>
            intro v1 v3 v5 f0_ H lc ls hP hD hS hl hM
            rw [f_X3_cutOut_l42] at hM; exact absurd hM (by intro h; cases h)
          | succ n42 ih42 =>
            intro v1 v3 v5 f0_ H lc ls hP hD hS hl hM
            rw [f_X3_cutOut_l42] at hM
            refine lv_iload hx hb dX3_cutOut_42 (lv_at hl 3 rfl) ?_
            refine lv_aload_n hx hb dX3_cutOut_44 rfl (lv_at hl 0 rfl) ?_
            refine lv_iload_n hx hb dX3_cutOut_45 rfl (lv_at hl 1 rfl) ?_
            obtain ⟨x4, hz5, hM⟩ := zx_b1E hM
            refine va_calli (va_runS (As := [.ref a0, .int v1]) (rest := [.int v5]) ⟨hx, hb, hml, hown, hts⟩ (c_X3_many l D cI cZ cT a0 n0 f0_ _ N v1 hz5) (va_cwS 2 hts (zg_S zw_9_3 zw_9_4 zw_1_5 zw_9_5) rfl rfl rfl zyX3_many ⟨Nat.le_of_ble_eq_true rfl, Nat.le_of_ble_eq_true rfl⟩) ⟨bS_blind, bS_pre (zx_P1 hP 0 (rfl)) hK (zx_D1 hD 0 (rfl)) hN⟩ rfl rfl hl.1 rfl (lv_room (Nat.le_of_ble_eq_true rfl)) dX3_cutOut_46 ⟨Nat.zero_le _, Nat.zero_le _⟩) hS (fun q h1 h2 => absurd h1 (Nat.not_lt.mpr h2)) (fun q h => hA q (Nat.le_trans hS.1 h)) (fun r u t H1 lc ht hvm hw hB hz1 hk1 hS => ?_)
            replace hw : x4 = r := hw; subst hw
            replace hP := zx_keep hP hk1
            refine lv_icmp_ge (tgt := 72) hx hb dX3_cutOut_49 (by decide) (fun q6 => ?_) (fun q6 => ?_)
            · replace hM := zx_t q6 hM
              refine lv_aload_n hx hb dX3_cutOut_72 rfl (lv_at hl 0 rfl) ?_
              refine lv_iload_n hx hb dX3_cutOut_73 rfl (lv_at hl 2 rfl) ?_
              refine lv_aload_n hx hb dX3_cutOut_74 rfl (lv_at hl 0 rfl) ?_
              refine lv_iload_n hx hb dX3_cutOut_75 rfl (lv_at hl 1 rfl) ?_
              obtain ⟨x7, hz8, hM⟩ := zx_b1E hM
              refine va_calli (va_runS (As := [.ref a0, .int v1]) (rest := [.int v3, .ref a0]) ⟨hx, hb, hml, hown, hts⟩ (c_X3_many l D cI cZ cT a0 n0 f0_ _ N v1 hz8) (va_cwS 2 hts (zg_S zw_9_3 zw_9_4 zw_1_5 zw_9_5) rfl rfl rfl zyX3_many ⟨Nat.le_of_ble_eq_true rfl, Nat.le_of_ble_eq_true rfl⟩) ⟨bS_blind, bS_pre (zx_P1 hP 0 (rfl)) hK (zx_D1 hD 0 (rfl)) hN⟩ rfl rfl hl.1 rfl (lv_room (Nat.le_of_ble_eq_true rfl)) dX3_cutOut_76 ⟨Nat.zero_le _, Nat.zero_le _⟩) hS (fun q h1 h2 => absurd h1 (Nat.not_lt.mpr h2)) (fun q h => hA q (Nat.le_trans hS.1 h)) (fun r u t H1 lc ht hvm hw hB hz1 hk1 hS => ?_)
              replace hw : x7 = r := hw; subst hw
              replace hP := zx_keep hP hk1
              refine lv_iadd hx hb dX3_cutOut_79 ?_
              refine lv_iconst (v := 0) hx hb dX3_cutOut_80 (by decide) ?_
              obtain ⟨g9, q10, eg9, hM⟩ := zx_wrE hM
              refine va_iast (D := D) hx hb hK hP hD hS 0 0 rfl rfl q10 dX3_cutOut_81 (fun H lc hP hD hS => ?_)
              rw [pW1_p0] at hP hD
              rw [← eg9] at hP hD
              rw [hQ]
              exact W.vret hx hb hr (fun t ht hW => ⟨⟨g9, rfl, (Option.some.inj hM).symm, by show va_P D vwCl _ t.heap; rw [ht]; exact hP⟩, hS.F ht⟩) hS.2.2 dX3_cutOut_82
            · replace hM := zx_f q6 hM
              refine lv_aload_n hx hb dX3_cutOut_52 rfl (lv_at hl 0 rfl) ?_
              refine lv_iload_n hx hb dX3_cutOut_53 rfl (lv_at hl 2 rfl) ?_
              refine lv_iload hx hb dX3_cutOut_54 (lv_at hl 3 rfl) ?_
              refine lv_iadd hx hb dX3_cutOut_56 ?_
              refine lv_aload_n hx hb dX3_cutOut_57 rfl (lv_at hl 0 rfl) ?_
              refine lv_iload_n hx hb dX3_cutOut_58 rfl (lv_at hl 2 rfl) ?_
              refine lv_iload hx hb dX3_cutOut_59 (lv_at hl 3 rfl) ?_
              refine lv_iadd hx hb dX3_cutOut_61 ?_
              refine lv_iconst (v := 1) hx hb dX3_cutOut_62 (by decide) ?_
              refine lv_iadd hx hb dX3_cutOut_63 ?_
              obtain ⟨x11, q12, ex11, hM⟩ := zx_rdE hM
              refine va_iald (D := D) hx hb hK hP 0 0 rfl rfl q12 dX3_cutOut_64 ?_
              refine zx_top ex11 ?_
              obtain ⟨g13, q14, eg13, hM⟩ := zx_wrE hM
              refine va_iast (D := D) hx hb hK hP hD hS 0 0 rfl rfl q14 dX3_cutOut_65 (fun H lc hP hD hS => ?_)
              rw [pW1_p0] at hP hD
              rw [← eg13] at hP hD
              obtain ⟨x15, ex15, hM⟩ := zx_nE hM
              refine lv_iinc (v := x15) (lv' := [(5, .int x15), (0, .ref a0), (1, .int v1), (3, .int v3)]) hx hb dX3_cutOut_66 hl (k := 3) rfl (by rw [ex15]; rfl) (by decide) rfl (fun ls hl => ?_)
              refine lv_goto (tgt := 42) hx hb dX3_cutOut_69 (by decide) ?_
              exact ih42 v1 v3 x15 g13 _ _ _ hP hD hS (lv_sub hl [1, 2, 3, 0] rfl) hM
        refine lv_aload_n hx hb dX3_cutOut_26 rfl (lv_at hl 0 rfl) ?_
        refine lv_iload_n hx hb dX3_cutOut_27 rfl (lv_at hl 1 rfl) ?_
        obtain ⟨x16, hz17, hM⟩ := zx_b1E hM
        refine va_calli (va_runS (As := [.int v1]) (rest := [.ref a0]) ⟨hx, hb, hml, hown, hts⟩ (c_X3_at l D cI cZ cT _ N v1 hz17) (va_cwS 1 hts (zg_S zw_9_6 zw_9_7 zw_1_5 zw_9_8) rfl rfl rfl zyX3_at ⟨Nat.le_of_ble_eq_true rfl, Nat.le_of_ble_eq_true rfl⟩) ⟨bS_blind, bS_pre (zx_P0 hP) hK (zx_D0 hD) hN⟩ rfl rfl hl.1 rfl (lv_room (Nat.le_of_ble_eq_true rfl)) dX3_cutOut_28 ⟨Nat.zero_le _, Nat.zero_le _⟩) hS (fun q h1 h2 => absurd h1 (Nat.not_lt.mpr h2)) (fun q h => hA q (Nat.le_trans hS.1 h)) (fun r u t H1 lc ht hvm hw hB hz1 hk1 hS => ?_)
        replace hw : x16 = r := hw; subst hw
        replace hP := zx_keep hP hk1
        refine lv_iconst (v := 1) hx hb dX3_cutOut_31 (by decide) ?_
        refine lv_iadd hx hb dX3_cutOut_32 ?_
        refine lv_dup2_11 hx hb dX3_cutOut_33 rfl rfl ?_
        obtain ⟨x18, q19, ex18, hM⟩ := zx_rdE hM
        refine va_iald (D := D) hx hb hK hP 0 0 rfl rfl q19 dX3_cutOut_34 ?_
        refine zx_top ex18 ?_
        refine lv_iconst (v := 1) hx hb dX3_cutOut_35 (by decide) ?_
        refine lv_isub hx hb dX3_cutOut_36 ?_
        obtain ⟨g20, q21, eg20, hM⟩ := zx_wrE hM
        refine va_iast (D := D) hx hb hK hP hD hS 0 0 rfl rfl q21 dX3_cutOut_37 (fun H lc hP hD hS => ?_)
        rw [pW1_p0] at hP hD
        rw [← eg20] at hP hD
        refine lv_iload hx hb dX3_cutOut_38 (lv_at hl 4 rfl) ?_
        refine lv_istore (lv' := [(5, .int v4), (0, .ref a0), (1, .int v1), (2, .int v2), (3, .int v3), (4, .int v4)]) hx hb dX3_cutOut_40 hl (by decide) rfl (fun ls hl => ?_)
        exact l42 N v1 v3 v4 g20 _ _ _ hP hD hS (lv_sub hl [1, 2, 4, 0] rfl) hM
      · replace hM := zx_f q3 hM
        obtain ⟨x22, ex22, hM⟩ := zx_nE hM
        refine lv_iinc (v := x22) (lv' := [(4, .int x22), (0, .ref a0), (1, .int v1), (2, .int v2), (3, .int v3)]) hx hb dX3_cutOut_20 hl (k := 4) rfl (by rw [ex22]; rfl) (by decide) rfl (fun ls hl => ?_)
        refine lv_goto (tgt := 10) hx hb dX3_cutOut_23 (by decide) ?_
        exact ih10 v1 v2 v3 x22 f0_ _ _ _ hP hD hS (lv_sub hl [1, 2, 3, 4, 0] rfl) hM
  refine lv_iload_n hx hb dX3_cutOut_0 rfl (lv_at hl 1 rfl) ?_
  obtain ⟨x23, hz24, hM⟩ := zx_b1E hM
  refine va_calli (va_runS (As := [.int p1]) (rest := []) ⟨hx, hb, hml, hown, hts⟩ (c_X3_at l D cI cZ cT _ N p1 hz24) (va_cwS 1 hts (zg_S zw_9_6 zw_9_7 zw_1_5 zw_9_8) rfl rfl rfl zyX3_at ⟨Nat.le_of_ble_eq_true rfl, Nat.le_of_ble_eq_true rfl⟩) ⟨bS_blind, bS_pre (zx_P0 hP) hK (zx_D0 hD) hN⟩ rfl rfl hl.1 rfl (lv_room (Nat.le_of_ble_eq_true rfl)) dX3_cutOut_1 ⟨Nat.zero_le _, Nat.zero_le _⟩) hS (fun q h1 h2 => absurd h1 (Nat.not_lt.mpr h2)) (fun q h => hA q (Nat.le_trans hS.1 h)) (fun r u t H1 lc ht hvm hw hB hz1 hk1 hS => ?_)
  replace hw : x23 = r := hw; subst hw
  replace hP := zx_keep hP hk1
  refine lv_iconst (v := 2) hx hb dX3_cutOut_4 (by decide) ?_
  refine lv_iadd hx hb dX3_cutOut_5 ?_
  obtain ⟨x25, ex25, hM⟩ := zx_nE hM
  refine zx_top ex25 ?_
  refine lv_istore_n (lv' := [(3, .int x25), (0, .ref a0), (1, .int p1), (2, .int p2)]) hx hb dX3_cutOut_6 rfl hl (by decide) rfl (fun ls hl => ?_)
  refine lv_iconst (v := 0) hx hb dX3_cutOut_7 (by decide) ?_
  refine lv_istore (lv' := [(4, .int 0), (3, .int x25), (0, .ref a0), (1, .int p1), (2, .int p2)]) hx hb dX3_cutOut_8 hl (by decide) rfl (fun ls hl => ?_)
  exact l10 N p1 p2 x25 0 f0 _ _ _ hP hD hS (lv_sub hl [2, 3, 4, 1, 0] rfl) hM

/-! ShallowBoxesModel.clearSlot([II)V -/
def f_X3_clearSlot_l2 (N : Nat) (n0 : Nat) : Nat → Int32 → Int32 → (Nat → Int32) → Option ((Nat → Int32))
  | 0, _, _, _ => none
  | n2 + 1, v1, v2, f0_ => (if 8 ≤ v2 then
  some f0_ else
  (zx_b1 (f_X3_at N v1) (fun x2 =>
(zx_wr n0 (x2 + v2) (upd f0_ (Int32.toNatClampNeg (x2 + v2)) 0) (fun g4 =>
(zx_n (v2 + 1) (fun x6 =>
f_X3_clearSlot_l2 N n0  n2 v1 x6 g4)))))))
def f_X3_clearSlot (N : Nat) (n0 : Nat) (p1 : Int32) (f0 : (Nat → Int32)) : Option ((Nat → Int32)) :=
  f_X3_clearSlot_l2 N n0  N p1 0 f0
abbrev rmX3_clearSlot : Room := { frames := 1, cells := 0, slots := 0, locals := 20 }
abbrev zsX3_clearSlot : List Cond := .code yX3_clearSlot cX3_clearSlot 3 none :: wsL_law
theorem zyX3_clearSlot : yX3_clearSlot.cls ≠ "java/lang/invoke/MethodHandle" ∧ yX3_clearSlot.cls ≠ "java/lang/invoke/VarHandle" ∧ (parseMethodDescriptor yX3_clearSlot.desc).map (fun d => d.parameters.length) = some 2 := by decide +kernel
set_option maxHeartbeats 4000000 in
set_option maxRecDepth 100000 in
theorem c_X3_clearSlot (l : Launch) (D : va_G) (cI cZ cT : ClassId) (a0 n0 : Nat) (f0 : Nat → Int32) (sz : Nat) (N : Nat) (p1 : Int32) {R : (Nat → Int32)} (hM : f_X3_clearSlot N n0 p1 f0 = some R) : Met l yX3_clearSlot zsX3_clearSlot rmX3_clearSlot (va_Pc [.ref a0, .int p1] (bS D (zx_ty cI cZ cT) (pW1 cI a0 n0 f0) sz)) (va_Qv (fun u => R = u) (fun u t => va_P D vwCl (pW1 cI a0 n0 u) t.heap) (va_A (pW1 cI a0 n0 f0) sz)) 0 0 (va_A (pW1 cI a0 n0 f0) sz) := by
  refine Met.ofW (cc := cX3_clearSlot) (maxL := 3) (ret := none) (by decide) rfl ?_
  intro p e s m args below meth c s₁ B hml hv
  obtain ⟨rfl, hsz, hP, hK, hD0, hN⟩ := hv
  have hx := B.exec
  have hb := B.bytes
  have hr := B.returns
  have hts : ∀ w ∈ wsL_law, w.before _ s = true := fun w hw => atoms_spec (ws := zsX3_clearSlot) B.pre w (List.mem_cons_of_mem _ hw)
  have hown : s.vm.findClass RX3 = some m.cls := findClass_of_methodNamed B.named
  have hlocks := B.notSynchronized
  subst hsz
  have hD := hD0.self (sz := s.heap.size)
  generalize hAe : va_A (pW1 cI a0 n0 f0) s.heap.size = A at hD ⊢
  have hA : ∀ q : Nat, s.heap.size ≤ q → A q := fun q h => by rw [← hAe]; exact Or.inr h
  have hS : va_S A s.heap s.heap [] := va_S.rf
  have hl := lv_entry ([.ref a0, .int p1]) (n := 3) (Nat.le_of_ble_eq_true rfl)
  rw [lg_entry_eq]
  generalize (lg_sl ([.ref a0, .int p1]) ++ List.replicate (3 - (lg_sl ([.ref a0, .int p1])).length) Slot.unset).toArray = ls at hl ⊢
  have hl : lv_has ls 3 [(0, .ref a0), (1, .int p1)] := hl
  generalize hQ : MQ below (va_Qv (fun u => R = u) (fun u t => va_P D vwCl (pW1 cI a0 n0 u) t.heap) A) ([.ref a0, .int p1] : List Value).toArray s 0 0 A = Q9
  replace hQ := hQ.symm
  unfold f_X3_clearSlot at hM
  have l2 : ∀ (n2 : Nat) (v1 : Int32) (v2 : Int32) (f0_ : (Nat → Int32)) (H : Heap) (lc : List Loc) (ls : Array Slot), va_P D vwCl (pW1 cI a0 n0 f0_) H → va_D A (pW1 cI a0 n0 f0_) → va_S A s.heap H lc → lv_has ls 3 [(0, .ref a0), (1, .int v1), (2, .int v2)] → f_X3_clearSlot_l2 N n0 n2 v1 v2 f0_ = some R → W p l e (headSpec zsX3_clearSlot rmX3_clearSlot).room s m ([.ref a0, .int p1] : List Value).toArray below meth c H lc 0 0 Q9 (F0 m 2 ls []) := by
    intro n2
    induction n2 with
    | zero =>
      intro v1 v2 f0_ H lc ls hP hD hS hl hM
      rw [f_X3_clearSlot_l2] at hM; exact absurd hM (by intro h; cases h)
    | succ n2 ih2 =>
      intro v1 v2 f0_ H lc ls hP hD hS hl hM
      rw [f_X3_clearSlot_l2] at hM
      refine lv_iload_n hx hb dX3_clearSlot_2 rfl (lv_at hl 2 rfl) ?_
      refine lv_bipush (v := 8) hx hb dX3_clearSlot_3 (by decide) ?_
      refine lv_icmp_ge (tgt := 23) hx hb dX3_clearSlot_5 (by decide) (fun q1 => ?_) (fun q1 => ?_)
      · replace hM := zx_t q1 hM
        rw [hQ]
        exact W.vret hx hb hr (fun t ht hW => ⟨⟨f0_, rfl, (Option.some.inj hM).symm, by show va_P D vwCl _ t.heap; rw [ht]; exact hP⟩, hS.F ht⟩) hS.2.2 dX3_clearSlot_23
      · replace hM := zx_f q1 hM
        refine lv_aload_n hx hb dX3_clearSlot_8 rfl (lv_at hl 0 rfl) ?_
        refine lv_iload_n hx hb dX3_clearSlot_9 rfl (lv_at hl 1 rfl) ?_
        obtain ⟨x2, hz3, hM⟩ := zx_b1E hM
        refine va_calli (va_runS (As := [.int v1]) (rest := [.ref a0]) ⟨hx, hb, hml, hown, hts⟩ (c_X3_at l D cI cZ cT _ N v1 hz3) (va_cwS 1 hts (zg_S zw_9_6 zw_9_7 zw_1_5 zw_9_8) rfl rfl rfl zyX3_at ⟨Nat.le_of_ble_eq_true rfl, Nat.le_of_ble_eq_true rfl⟩) ⟨bS_blind, bS_pre (zx_P0 hP) hK (zx_D0 hD) hN⟩ rfl rfl hl.1 rfl (lv_room (Nat.le_of_ble_eq_true rfl)) dX3_clearSlot_10 ⟨Nat.zero_le _, Nat.zero_le _⟩) hS (fun q h1 h2 => absurd h1 (Nat.not_lt.mpr h2)) (fun q h => hA q (Nat.le_trans hS.1 h)) (fun r u t H1 lc ht hvm hw hB hz1 hk1 hS => ?_)
        replace hw : x2 = r := hw; subst hw
        replace hP := zx_keep hP hk1
        refine lv_iload_n hx hb dX3_clearSlot_13 rfl (lv_at hl 2 rfl) ?_
        refine lv_iadd hx hb dX3_clearSlot_14 ?_
        refine lv_iconst (v := 0) hx hb dX3_clearSlot_15 (by decide) ?_
        obtain ⟨g4, q5, eg4, hM⟩ := zx_wrE hM
        refine va_iast (D := D) hx hb hK hP hD hS 0 0 rfl rfl q5 dX3_clearSlot_16 (fun H lc hP hD hS => ?_)
        rw [pW1_p0] at hP hD
        rw [← eg4] at hP hD
        obtain ⟨x6, ex6, hM⟩ := zx_nE hM
        refine lv_iinc (v := x6) (lv' := [(2, .int x6), (0, .ref a0), (1, .int v1)]) hx hb dX3_clearSlot_17 hl (k := 2) rfl (by rw [ex6]; rfl) (by decide) rfl (fun ls hl => ?_)
        refine lv_goto (tgt := 2) hx hb dX3_clearSlot_20 (by decide) ?_
        exact ih2 v1 x6 g4 _ _ _ hP hD hS (lv_sub hl [1, 2, 0] rfl) hM
  refine lv_iconst (v := 0) hx hb dX3_clearSlot_0 (by decide) ?_
  refine lv_istore_n (lv' := [(2, .int 0), (0, .ref a0), (1, .int p1)]) hx hb dX3_clearSlot_1 rfl hl (by decide) rfl (fun ls hl => ?_)
  exact l2 N p1 0 f0 _ _ _ hP hD hS (lv_sub hl [1, 2, 0] rfl) hM

/-! ShallowBoxesModel.newSlot([II)I -/
def f_X3_newSlot_l2 (N : Nat) (n0 : Nat) : Nat → Int32 → Int32 → (Nat → Int32) → Option (Int32 × (Nat → Int32))
  | 0, _, _, _ => none
  | n2 + 1, v1, v2, f0_ => (zx_b1 (f_X3_at N v2) (fun x1 =>
(zx_rd n0 f0_ x1 (fun x3 =>
(if x3 ≤ 0 then
  (zx_b1 (f_X3_clearSlot N n0 v2 f0_) (fun g6 =>
(zx_b1 (f_X3_at N v2) (fun x8 =>
(zx_wr n0 x8 (upd g6 (Int32.toNatClampNeg x8) (v1 + 1)) (fun g10 =>
some (v2, g10))))))) else
  (zx_n (v2 + 1) (fun x12 =>
f_X3_newSlot_l2 N n0  n2 v1 x12 f0_)))))))
def f_X3_newSlot (N : Nat) (n0 : Nat) (p1 : Int32) (f0 : (Nat → Int32)) : Option (Int32 × (Nat → Int32)) :=
  f_X3_newSlot_l2 N n0  N p1 0 f0
abbrev rmX3_newSlot : Room := { frames := 2, cells := 0, slots := 0, locals := 42 }
abbrev zsX3_newSlot : List Cond := .code yX3_newSlot cX3_newSlot 3 (some .int) :: wsL_law
theorem zyX3_newSlot : yX3_newSlot.cls ≠ "java/lang/invoke/MethodHandle" ∧ yX3_newSlot.cls ≠ "java/lang/invoke/VarHandle" ∧ (parseMethodDescriptor yX3_newSlot.desc).map (fun d => d.parameters.length) = some 2 := by decide +kernel
set_option maxHeartbeats 4000000 in
set_option maxRecDepth 100000 in
theorem c_X3_newSlot (l : Launch) (D : va_G) (cI cZ cT : ClassId) (a0 n0 : Nat) (f0 : Nat → Int32) (sz : Nat) (N : Nat) (p1 : Int32) {R : Int32 × (Nat → Int32)} (hM : f_X3_newSlot N n0 p1 f0 = some R) : Met l yX3_newSlot zsX3_newSlot rmX3_newSlot (va_Pc [.ref a0, .int p1] (bS D (zx_ty cI cZ cT) (pW1 cI a0 n0 f0) sz)) (va_Qi (fun r u => R = (r, u)) (fun u t => va_P D vwCl (pW1 cI a0 n0 u) t.heap) (va_A (pW1 cI a0 n0 f0) sz)) 0 0 (va_A (pW1 cI a0 n0 f0) sz) := by
  refine Met.ofW (cc := cX3_newSlot) (maxL := 3) (ret := (some .int)) (by decide) rfl ?_
  intro p e s m args below meth c s₁ B hml hv
  obtain ⟨rfl, hsz, hP, hK, hD0, hN⟩ := hv
  have hx := B.exec
  have hb := B.bytes
  have hr := B.returns
  have hts : ∀ w ∈ wsL_law, w.before _ s = true := fun w hw => atoms_spec (ws := zsX3_newSlot) B.pre w (List.mem_cons_of_mem _ hw)
  have hown : s.vm.findClass RX3 = some m.cls := findClass_of_methodNamed B.named
  have hlocks := B.notSynchronized
  subst hsz
  have hD := hD0.self (sz := s.heap.size)
  generalize hAe : va_A (pW1 cI a0 n0 f0) s.heap.size = A at hD ⊢
  have hA : ∀ q : Nat, s.heap.size ≤ q → A q := fun q h => by rw [← hAe]; exact Or.inr h
  have hS : va_S A s.heap s.heap [] := va_S.rf
  have hl := lv_entry ([.ref a0, .int p1]) (n := 3) (Nat.le_of_ble_eq_true rfl)
  rw [lg_entry_eq]
  generalize (lg_sl ([.ref a0, .int p1]) ++ List.replicate (3 - (lg_sl ([.ref a0, .int p1])).length) Slot.unset).toArray = ls at hl ⊢
  have hl : lv_has ls 3 [(0, .ref a0), (1, .int p1)] := hl
  generalize hQ : MQ below (va_Qi (fun r u => R = (r, u)) (fun u t => va_P D vwCl (pW1 cI a0 n0 u) t.heap) A) ([.ref a0, .int p1] : List Value).toArray s 0 0 A = Q9
  replace hQ := hQ.symm
  unfold f_X3_newSlot at hM
  have l2 : ∀ (n2 : Nat) (v1 : Int32) (v2 : Int32) (f0_ : (Nat → Int32)) (H : Heap) (lc : List Loc) (ls : Array Slot), va_P D vwCl (pW1 cI a0 n0 f0_) H → va_D A (pW1 cI a0 n0 f0_) → va_S A s.heap H lc → lv_has ls 3 [(0, .ref a0), (1, .int v1), (2, .int v2)] → f_X3_newSlot_l2 N n0 n2 v1 v2 f0_ = some R → W p l e (headSpec zsX3_newSlot rmX3_newSlot).room s m ([.ref a0, .int p1] : List Value).toArray below meth c H lc 0 0 Q9 (F0 m 2 ls []) := by
    intro n2
    induction n2 with
    | zero =>
      intro v1 v2 f0_ H lc ls hP hD hS hl hM
      rw [f_X3_newSlot_l2] at hM; exact absurd hM (by intro h; cases h)
    | succ n2 ih2 =>
      intro v1 v2 f0_ H lc ls hP hD hS hl hM
      rw [f_X3_newSlot_l2] at hM
      refine lv_aload_n hx hb dX3_newSlot_2 rfl (lv_at hl 0 rfl) ?_
      refine lv_iload_n hx hb dX3_newSlot_3 rfl (lv_at hl 2 rfl) ?_
      obtain ⟨x1, hz2, hM⟩ := zx_b1E hM
      refine va_calli (va_runS (As := [.int v2]) (rest := [.ref a0]) ⟨hx, hb, hml, hown, hts⟩ (c_X3_at l D cI cZ cT _ N v2 hz2) (va_cwS 1 hts (zg_S zw_9_6 zw_9_7 zw_1_5 zw_9_8) rfl rfl rfl zyX3_at ⟨Nat.le_of_ble_eq_true rfl, Nat.le_of_ble_eq_true rfl⟩) ⟨bS_blind, bS_pre (zx_P0 hP) hK (zx_D0 hD) hN⟩ rfl rfl hl.1 rfl (lv_room (Nat.le_of_ble_eq_true rfl)) dX3_newSlot_4 ⟨Nat.zero_le _, Nat.zero_le _⟩) hS (fun q h1 h2 => absurd h1 (Nat.not_lt.mpr h2)) (fun q h => hA q (Nat.le_trans hS.1 h)) (fun r u t H1 lc ht hvm hw hB hz1 hk1 hS => ?_)
      replace hw : x1 = r := hw; subst hw
      replace hP := zx_keep hP hk1
      obtain ⟨x3, q4, ex3, hM⟩ := zx_rdE hM
      refine va_iald (D := D) hx hb hK hP 0 0 rfl rfl q4 dX3_newSlot_7 ?_
      refine zx_top ex3 ?_
      refine lv_if_le (tgt := 17) hx hb dX3_newSlot_8 (by decide) (fun q5 => ?_) (fun q5 => ?_)
      · replace hM := zx_t q5 hM
        refine lv_aload_n hx hb dX3_newSlot_17 rfl (lv_at hl 0 rfl) ?_
        refine lv_iload_n hx hb dX3_newSlot_18 rfl (lv_at hl 2 rfl) ?_
        obtain ⟨g6, hz7, hM⟩ := zx_b1E hM
        refine va_callv (va_runS (As := [.ref a0, .int v2]) (rest := []) ⟨hx, hb, hml, hown, hts⟩ (c_X3_clearSlot l D cI cZ cT a0 n0 f0_ _ N v2 hz7) (va_cwS 2 hts (zg_S zw_11_19 zw_11_20 zw_1_5 zw_11_21) rfl rfl rfl zyX3_clearSlot ⟨Nat.le_of_ble_eq_true rfl, Nat.le_of_ble_eq_true rfl⟩) ⟨bS_blind, bS_pre (zx_P1 hP 0 (rfl)) hK (zx_D1 hD 0 (rfl)) hN⟩ rfl rfl hl.1 rfl (lv_room (Nat.le_of_ble_eq_true rfl)) dX3_newSlot_19 ⟨Nat.zero_le _, Nat.zero_le _⟩) hS (fun q _ h => zx_f1 hD hS hA (k := 0) rfl q h) (fun q h => zx_f1 hD hS hA (k := 0) rfl q h) (fun u t H1 lc ht hvm hw hB hz1 hk1 hS => ?_)
        replace hw : g6 = u := hw; subst hw
        rw [ht] at hB
        replace hP := zx_set1 (k := 0) hP hD rfl hk1 hB
        replace hD := va_D.set (p := 0) (e := .inl (cI, n0, .inl g6)) hD rfl
        rw [pW1_p0] at hP hD
        refine lv_aload_n hx hb dX3_newSlot_22 rfl (lv_at hl 0 rfl) ?_
        refine lv_iload_n hx hb dX3_newSlot_23 rfl (lv_at hl 2 rfl) ?_
        obtain ⟨x8, hz9, hM⟩ := zx_b1E hM
        refine va_calli (va_runS (As := [.int v2]) (rest := [.ref a0]) ⟨hx, hb, hml, hown, hts⟩ (c_X3_at l D cI cZ cT _ N v2 hz9) (va_cwS 1 hts (zg_S zw_9_6 zw_9_7 zw_1_5 zw_9_8) rfl rfl rfl zyX3_at ⟨Nat.le_of_ble_eq_true rfl, Nat.le_of_ble_eq_true rfl⟩) ⟨bS_blind, bS_pre (zx_P0 hP) hK (zx_D0 hD) hN⟩ rfl rfl hl.1 rfl (lv_room (Nat.le_of_ble_eq_true rfl)) dX3_newSlot_24 ⟨Nat.zero_le _, Nat.zero_le _⟩) hS (fun q h1 h2 => absurd h1 (Nat.not_lt.mpr h2)) (fun q h => hA q (Nat.le_trans hS.1 h)) (fun r u t H1 lc ht hvm hw hB hz1 hk1 hS => ?_)
        replace hw : x8 = r := hw; subst hw
        replace hP := zx_keep hP hk1
        refine lv_iload_n hx hb dX3_newSlot_27 rfl (lv_at hl 1 rfl) ?_
        refine lv_iconst (v := 1) hx hb dX3_newSlot_28 (by decide) ?_
        refine lv_iadd hx hb dX3_newSlot_29 ?_
        obtain ⟨g10, q11, eg10, hM⟩ := zx_wrE hM
        refine va_iast (D := D) hx hb hK hP hD hS 0 0 rfl rfl q11 dX3_newSlot_30 (fun H lc hP hD hS => ?_)
        rw [pW1_p0] at hP hD
        rw [← eg10] at hP hD
        refine lv_iload_n hx hb dX3_newSlot_31 rfl (lv_at hl 2 rfl) ?_
        rw [hQ]
        exact W.iret hx hb hr (fun t ht hW => ⟨⟨v2, g10, rfl, (Option.some.inj hM).symm, by show va_P D vwCl _ t.heap; rw [ht]; exact hP⟩, hS.F ht⟩) hS.2.2 dX3_newSlot_32
      · replace hM := zx_f q5 hM
        obtain ⟨x12, ex12, hM⟩ := zx_nE hM
        refine lv_iinc (v := x12) (lv' := [(2, .int x12), (0, .ref a0), (1, .int v1)]) hx hb dX3_newSlot_11 hl (k := 2) rfl (by rw [ex12]; rfl) (by decide) rfl (fun ls hl => ?_)
        refine lv_goto (tgt := 2) hx hb dX3_newSlot_14 (by decide) ?_
        exact ih2 v1 x12 f0_ _ _ _ hP hD hS (lv_sub hl [1, 2, 0] rfl) hM
  refine lv_iconst (v := 0) hx hb dX3_newSlot_0 (by decide) ?_
  refine lv_istore_n (lv' := [(2, .int 0), (0, .ref a0), (1, .int p1)]) hx hb dX3_newSlot_1 rfl hl (by decide) rfl (fun ls hl => ?_)
  exact l2 N p1 0 f0 _ _ _ hP hD hS (lv_sub hl [1, 2, 0] rfl) hM

/-! ShallowBoxesModel.joinInto(IIZ)V -/
def f_X3_joinInto_j91 (N : Nat) (k3 : Int32 → Int32 → Int32 → Int32 → zx_S → Option (zx_S)) (v1 : Int32) (v2 : Int32) (v3 : Int32) (v4 : Int32) (t1 : Int32) (t2 : Int32) (S_ : zx_S) : Option (zx_S) :=
  (zx_wr 224 t1 (zx_st S_ 6 (upd (S_ 6) (Int32.toNatClampNeg t1) t2)) (fun T2 =>
(zx_n (v4 + 1) (fun x4 =>
k3 v1 v2 v3 x4 T2))))
def f_X3_joinInto_j67 (N : Nat) (k3 : Int32 → Int32 → Int32 → Int32 → zx_S → Option (zx_S)) (v1 : Int32) (v2 : Int32) (v3 : Int32) (v4 : Int32) (v5 : Int32) (v6 : Int32) (t0 : Int32) (S_ : zx_S) : Option (zx_S) :=
  (if t0 = 0 then
  f_X3_joinInto_j91 N k3 v1 v2 v3 v4 ((4 * v1) + v4) v5 S_ else
  f_X3_joinInto_j91 N k3 v1 v2 v3 v4 ((4 * v1) + v4) v6 S_)
def f_X3_joinInto_j62 (N : Nat) (k3 : Int32 → Int32 → Int32 → Int32 → zx_S → Option (zx_S)) (v1 : Int32) (v2 : Int32) (v3 : Int32) (v4 : Int32) (v5 : Int32) (v6 : Int32) (S_ : zx_S) : Option (zx_S) :=
  f_X3_joinInto_j67 N k3 v1 v2 v3 v4 v5 v6 1 S_
def f_X3_joinInto_j66 (N : Nat) (k3 : Int32 → Int32 → Int32 → Int32 → zx_S → Option (zx_S)) (v1 : Int32) (v2 : Int32) (v3 : Int32) (v4 : Int32) (v5 : Int32) (v6 : Int32) (S_ : zx_S) : Option (zx_S) :=
  f_X3_joinInto_j67 N k3 v1 v2 v3 v4 v5 v6 0 S_
def f_X3_joinInto_l3 (N : Nat) : Nat → Int32 → Int32 → Int32 → Int32 → zx_S → Option (zx_S)
  | 0, _, _, _, _, _ => none
  | n3 + 1, v1, v2, v3, v4, S_ => (if 4 ≤ v4 then
  some S_ else
  (zx_rd 224 (S_ 6) ((4 * v1) + v4) (fun x6 =>
(zx_rd 224 (S_ 6) ((4 * v2) + v4) (fun x8 =>
(if v3 = 0 then
  (if 2 ≤ v4 then
  (if x8 ≤ x6 then
  f_X3_joinInto_j66 N (f_X3_joinInto_l3 N  n3) v1 v2 v3 v4 x6 x8 S_ else
  f_X3_joinInto_j62 N (f_X3_joinInto_l3 N  n3) v1 v2 v3 v4 x6 x8 S_) else
  (if x6 ≤ x8 then
  f_X3_joinInto_j66 N (f_X3_joinInto_l3 N  n3) v1 v2 v3 v4 x6 x8 S_ else
  f_X3_joinInto_j62 N (f_X3_joinInto_l3 N  n3) v1 v2 v3 v4 x6 x8 S_)) else
  f_X3_joinInto_j62 N (f_X3_joinInto_l3 N  n3) v1 v2 v3 v4 x6 x8 S_))))))
def f_X3_joinInto (N : Nat) (p1 : Int32) (p2 : Int32) (p3 : Int32) (S : zx_S) : Option (zx_S) :=
  f_X3_joinInto_l3 N  N p1 p2 p3 0 S
abbrev rmX3_joinInto : Room := { frames := 0, cells := 0, slots := 0, locals := 0 }
abbrev zsX3_joinInto : List Cond := .code yX3_joinInto cX3_joinInto 8 none :: wsL_law
theorem zyX3_joinInto : yX3_joinInto.cls ≠ "java/lang/invoke/MethodHandle" ∧ yX3_joinInto.cls ≠ "java/lang/invoke/VarHandle" ∧ (parseMethodDescriptor yX3_joinInto.desc).map (fun d => d.parameters.length) = some 3 := by decide +kernel
set_option maxHeartbeats 4000000 in
set_option maxRecDepth 100000 in
theorem c_X3_joinInto (l : Launch) (D : va_G) (cI cZ cT : ClassId) (h : Nat) (ad : Nat → Nat) (S : zx_S) (sz : Nat) (N : Nat) (p1 : Int32) (p2 : Int32) (p3 : Int32) {R : zx_S} (hM : f_X3_joinInto N p1 p2 p3 S = some R) : Met l yX3_joinInto zsX3_joinInto rmX3_joinInto (va_Pc [.ref h, .int p1, .int p2, .int p3] (bS D (zx_ty cI cZ cT) (xW3 cI cZ h ad S) sz)) (va_Qv (fun u => R = u) (fun u t => va_P D vwCl (xW3 cI cZ h ad u) t.heap) (va_A (xW3 cI cZ h ad S) sz)) 0 0 (va_A (xW3 cI cZ h ad S) sz) := by
  refine Met.ofW (cc := cX3_joinInto) (maxL := 8) (ret := none) (by decide) rfl ?_
  intro p e s m args below meth c s₁ B hml hv
  obtain ⟨rfl, hsz, hP, hK, hD0, hN⟩ := hv
  have hx := B.exec
  have hb := B.bytes
  have hr := B.returns
  have hts : ∀ w ∈ wsL_law, w.before _ s = true := fun w hw => atoms_spec (ws := zsX3_joinInto) B.pre w (List.mem_cons_of_mem _ hw)
  have hown : s.vm.findClass RX3 = some m.cls := findClass_of_methodNamed B.named
  have hlocks := B.notSynchronized
  subst hsz
  have hD := hD0.self (sz := s.heap.size)
  generalize hAe : va_A (xW3 cI cZ h ad S) s.heap.size = A at hD ⊢
  have hA : ∀ q : Nat, s.heap.size ≤ q → A q := fun q h => by rw [← hAe]; exact Or.inr h
  have hS : va_S A s.heap s.heap [] := va_S.rf
  have hl := lv_entry ([.ref h, .int p1, .int p2, .int p3]) (n := 8) (Nat.le_of_ble_eq_true rfl)
  rw [lg_entry_eq]
  generalize (lg_sl ([.ref h, .int p1, .int p2, .int p3]) ++ List.replicate (8 - (lg_sl ([.ref h, .int p1, .int p2, .int p3])).length) Slot.unset).toArray = ls at hl ⊢
  have hl : lv_has ls 8 [(0, .ref h), (1, .int p1), (2, .int p2), (3, .int p3)] := hl
  generalize hQ : MQ below (va_Qv (fun u => R = u) (fun u t => va_P D vwCl (xW3 cI cZ h ad u) t.heap) A) ([.ref h, .int p1, .int p2, .int p3] : List Value).toArray s 0 0 A = Q9
  replace hQ := hQ.symm
  unfold f_X3_joinInto at hM
  have l3 : ∀ (n3 : Nat) (v1 : Int32) (v2 : Int32) (v3 : Int32) (v4 : Int32) (S_ : zx_S) (H : Heap) (lc : List Loc) (ls : Array Slot), va_P D vwCl (xW3 cI cZ h ad S_) H → va_D A (xW3 cI cZ h ad S_) → va_S A s.heap H lc → lv_has ls 8 [(0, .ref h), (1, .int v1), (2, .int v2), (3, .int v3), (4, .int v4)] → f_X3_joinInto_l3 N n3 v1 v2 v3 v4 S_ = some R → W p l e (headSpec zsX3_joinInto rmX3_joinInto).room s m ([.ref h, .int p1, .int p2, .int p3] : List Value).toArray below meth c H lc 0 0 Q9 (F0 m 3 ls []) := by
    intro n3
    induction n3 with
    | zero =>
      intro v1 v2 v3 v4 S_ H lc ls hP hD hS hl hM
      rw [f_X3_joinInto_l3] at hM; exact absurd hM (by intro h; cases h)
    | succ n3 ih3 =>
      intro v1 v2 v3 v4 S_ H lc ls hP hD hS hl hM
      rw [f_X3_joinInto_l3] at hM
      refine lv_iload hx hb dX3_joinInto_3 (lv_at hl 4 rfl) ?_
      refine lv_iconst (v := 4) hx hb dX3_joinInto_5 (by decide) ?_
      refine lv_icmp_ge (tgt := 98) hx hb dX3_joinInto_6 (by decide) (fun q1 => ?_) (fun q1 => ?_)
      · replace hM := zx_t q1 hM
        rw [hQ]
        exact W.vret hx hb hr (fun t ht hW => ⟨⟨S_, rfl, (Option.some.inj hM).symm, by show va_P D vwCl _ t.heap; rw [ht]; exact hP⟩, hS.F ht⟩) hS.2.2 dX3_joinInto_98
      · replace hM := zx_f q1 hM
        have j67 : ∀ (v1 : Int32) (v2 : Int32) (v3 : Int32) (v4 : Int32) (v5 : Int32) (v6 : Int32) (t0 : Int32) (S_ : zx_S) (H : Heap) (lc : List Loc) (ls : Array Slot), va_P D vwCl (xW3 cI cZ h ad S_) H → va_D A (xW3 cI cZ h ad S_) → va_S A s.heap H lc → lv_has ls 8 [(0, .ref h), (1, .int v1), (2, .int v2), (3, .int v3), (4, .int v4), (5, .int v5), (6, .int v6)] → f_X3_joinInto_j67 N (f_X3_joinInto_l3 N  n3) v1 v2 v3 v4 v5 v6 t0 S_ = some R → W p l e (headSpec zsX3_joinInto rmX3_joinInto).room s m ([.ref h, .int p1, .int p2, .int p3] : List Value).toArray below meth c H lc 0 0 Q9 (F0 m 67 ls [.int t0]) := by
          intro v1 v2 v3 v4 v5 v6 t0 S_ H lc ls hP hD hS hl hM
          unfold f_X3_joinInto_j67 at hM
          have j91 : ∀ (v1 : Int32) (v2 : Int32) (v3 : Int32) (v4 : Int32) (t1 : Int32) (t2 : Int32) (S_ : zx_S) (H : Heap) (lc : List Loc) (ls : Array Slot), va_P D vwCl (xW3 cI cZ h ad S_) H → va_D A (xW3 cI cZ h ad S_) → va_S A s.heap H lc → lv_has ls 8 [(0, .ref h), (1, .int v1), (2, .int v2), (3, .int v3), (4, .int v4)] → f_X3_joinInto_j91 N (f_X3_joinInto_l3 N  n3) v1 v2 v3 v4 t1 t2 S_ = some R → W p l e (headSpec zsX3_joinInto rmX3_joinInto).room s m ([.ref h, .int p1, .int p2, .int p3] : List Value).toArray below meth c H lc 0 0 Q9 (F0 m 91 ls [.int t2, .int t1, .ref (ad 6)]) := by
            intro v1 v2 v3 v4 t1 t2 S_ H lc ls hP hD hS hl hM
            unfold f_X3_joinInto_j91 at hM
            obtain ⟨T2, q3, eT2, hM⟩ := zx_wrE hM
            refine va_iast (D := D) hx hb hK hP hD hS 7 0 rfl rfl q3 dX3_joinInto_91 (fun H lc hP hD hS => ?_)
            rw [xW3_pa6] at hP hD
            rw [← eT2] at hP hD
            obtain ⟨x4, ex4, hM⟩ := zx_nE hM
            refine lv_iinc (v := x4) (lv' := [(4, .int x4), (0, .ref h), (1, .int v1), (2, .int v2), (3, .int v3)]) hx hb dX3_joinInto_92 hl (k := 4) rfl (by rw [ex4]; rfl) (by decide) rfl (fun ls hl => ?_)
            refine lv_goto (tgt := 3) hx hb dX3_joinInto_95 (by decide) ?_
            exact ih3 v1 v2 v3 x4 T2 _ _ _ hP hD hS (lv_sub hl [1, 2, 3, 4, 0] rfl) hM
          refine lv_istore (lv' := [(7, .int t0), (0, .ref h), (1, .int v1), (2, .int v2), (3, .int v3), (4, .int v4), (5, .int v5), (6, .int v6)]) hx hb dX3_joinInto_67 hl (by decide) rfl (fun ls hl => ?_)
          refine lv_aload_n hx hb dX3_joinInto_69 rfl (lv_at hl 1 rfl) ?_
          refine va_get (D := D) (ci := 3) (v := .ref (ad 6)) (C := RX3) (T := TX3) (N := 20) hx hb hts inlX3 hown hK hP 0 rfl rfl 9 (by decide) (hts _ zw_4_1) (fun _ h9 => h9) rfl dX3_joinInto_70 ?_
          refine lv_iconst (v := 4) hx hb dX3_joinInto_73 (by decide) ?_
          refine lv_iload_n hx hb dX3_joinInto_74 rfl (lv_at hl 2 rfl) ?_
          refine lv_imul hx hb dX3_joinInto_75 ?_
          refine lv_iload hx hb dX3_joinInto_76 (lv_at hl 5 rfl) ?_
          refine lv_iadd hx hb dX3_joinInto_78 ?_
          refine lv_iload hx hb dX3_joinInto_79 (lv_at hl 0 rfl) ?_
          refine lv_if_eq (tgt := 89) hx hb dX3_joinInto_81 (by decide) (fun q5 => ?_) (fun q5 => ?_)
          · replace hM := zx_t q5 hM
            refine lv_iload hx hb dX3_joinInto_89 (lv_at hl 6 rfl) ?_
            exact j91 v1 v2 v3 v4 ((4 * v1) + v4) v5 S_ _ _ _ hP hD hS (lv_sub hl [1, 2, 3, 4, 5] rfl) hM
          · replace hM := zx_f q5 hM
            refine lv_iload hx hb dX3_joinInto_84 (lv_at hl 7 rfl) ?_
            refine lv_goto (tgt := 91) hx hb dX3_joinInto_86 (by decide) ?_
            exact j91 v1 v2 v3 v4 ((4 * v1) + v4) v6 S_ _ _ _ hP hD hS (lv_sub hl [1, 2, 3, 4, 5] rfl) hM
        have j62 : ∀ (v1 : Int32) (v2 : Int32) (v3 : Int32) (v4 : Int32) (v5 : Int32) (v6 : Int32) (S_ : zx_S) (H : Heap) (lc : List Loc) (ls : Array Slot), va_P D vwCl (xW3 cI cZ h ad S_) H → va_D A (xW3 cI cZ h ad S_) → va_S A s.heap H lc → lv_has ls 8 [(0, .ref h), (1, .int v1), (2, .int v2), (3, .int v3), (4, .int v4), (5, .int v5), (6, .int v6)] → f_X3_joinInto_j62 N (f_X3_joinInto_l3 N  n3) v1 v2 v3 v4 v5 v6 S_ = some R → W p l e (headSpec zsX3_joinInto rmX3_joinInto).room s m ([.ref h, .int p1, .int p2, .int p3] : List Value).toArray below meth c H lc 0 0 Q9 (F0 m 62 ls []) := by
          intro v1 v2 v3 v4 v5 v6 S_ H lc ls hP hD hS hl hM
          unfold f_X3_joinInto_j62 at hM
          refine lv_iconst (v := 1) hx hb dX3_joinInto_62 (by decide) ?_
          refine lv_goto (tgt := 67) hx hb dX3_joinInto_63 (by decide) ?_
          exact j67 v1 v2 v3 v4 v5 v6 1 S_ _ _ _ hP hD hS (lv_sub hl [0, 1, 2, 3, 4, 5, 6] rfl) hM
        refine lv_aload_n hx hb dX3_joinInto_9 rfl (lv_at hl 0 rfl) ?_
        refine va_get (D := D) (ci := 3) (v := .ref (ad 6)) (C := RX3) (T := TX3) (N := 20) hx hb hts inlX3 hown hK hP 0 rfl rfl 9 (by decide) (hts _ zw_4_1) (fun _ h9 => h9) rfl dX3_joinInto_10 ?_
        refine lv_iconst (v := 4) hx hb dX3_joinInto_13 (by decide) ?_
        refine lv_iload_n hx hb dX3_joinInto_14 rfl (lv_at hl 1 rfl) ?_
        refine lv_imul hx hb dX3_joinInto_15 ?_
        refine lv_iload hx hb dX3_joinInto_16 (lv_at hl 4 rfl) ?_
        refine lv_iadd hx hb dX3_joinInto_18 ?_
        obtain ⟨x6, q7, ex6, hM⟩ := zx_rdE hM
        refine va_iald (D := D) hx hb hK hP 7 0 rfl rfl q7 dX3_joinInto_19 ?_
        refine zx_top ex6 ?_
        refine lv_istore (lv' := [(5, .int x6), (0, .ref h), (1, .int v1), (2, .int v2), (3, .int v3), (4, .int v4)]) hx hb dX3_joinInto_20 hl (by decide) rfl (fun ls hl => ?_)
        refine lv_aload_n hx hb dX3_joinInto_22 rfl (lv_at hl 1 rfl) ?_
        refine va_get (D := D) (ci := 3) (v := .ref (ad 6)) (C := RX3) (T := TX3) (N := 20) hx hb hts inlX3 hown hK hP 0 rfl rfl 9 (by decide) (hts _ zw_4_1) (fun _ h9 => h9) rfl dX3_joinInto_23 ?_
        refine lv_iconst (v := 4) hx hb dX3_joinInto_26 (by decide) ?_
        refine lv_iload_n hx hb dX3_joinInto_27 rfl (lv_at hl 3 rfl) ?_
        refine lv_imul hx hb dX3_joinInto_28 ?_
        refine lv_iload hx hb dX3_joinInto_29 (lv_at hl 5 rfl) ?_
        refine lv_iadd hx hb dX3_joinInto_31 ?_
        obtain ⟨x8, q9, ex8, hM⟩ := zx_rdE hM
        refine va_iald (D := D) hx hb hK hP 7 0 rfl rfl q9 dX3_joinInto_32 ?_
        refine zx_top ex8 ?_
        refine lv_istore (lv' := [(6, .int x8), (5, .int x6), (0, .ref h), (1, .int v1), (2, .int v2), (3, .int v3), (4, .int v4)]) hx hb dX3_joinInto_33 hl (by decide) rfl (fun ls hl => ?_)
        refine lv_iload_n hx hb dX3_joinInto_35 rfl (lv_at hl 5 rfl) ?_
        refine lv_if_ne (tgt := 62) hx hb dX3_joinInto_36 (by decide) (fun q10 => ?_) (fun q10 => ?_)
        · replace hM := zx_f q10 hM
          exact j62 v1 v2 v3 v4 x6 x8 S_ _ _ _ hP hD hS (lv_sub hl [2, 3, 4, 5, 6, 1, 0] rfl) hM
        · replace hM := zx_t q10 hM
          have j66 : ∀ (v1 : Int32) (v2 : Int32) (v3 : Int32) (v4 : Int32) (v5 : Int32) (v6 : Int32) (S_ : zx_S) (H : Heap) (lc : List Loc) (ls : Array Slot), va_P D vwCl (xW3 cI cZ h ad S_) H → va_D A (xW3 cI cZ h ad S_) → va_S A s.heap H lc → lv_has ls 8 [(0, .ref h), (1, .int v1), (2, .int v2), (3, .int v3), (4, .int v4), (5, .int v5), (6, .int v6)] → f_X3_joinInto_j66 N (f_X3_joinInto_l3 N  n3) v1 v2 v3 v4 v5 v6 S_ = some R → W p l e (headSpec zsX3_joinInto rmX3_joinInto).room s m ([.ref h, .int p1, .int p2, .int p3] : List Value).toArray below meth c H lc 0 0 Q9 (F0 m 66 ls []) := by
            intro v1 v2 v3 v4 v5 v6 S_ H lc ls hP hD hS hl hM
            unfold f_X3_joinInto_j66 at hM
            refine lv_iconst (v := 0) hx hb dX3_joinInto_66 (by decide) ?_
            exact j67 v1 v2 v3 v4 v5 v6 0 S_ _ _ _ hP hD hS (lv_sub hl [0, 1, 2, 3, 4, 5, 6] rfl) hM
          refine lv_iload hx hb dX3_joinInto_39 (lv_at hl 6 rfl) ?_
          refine lv_iconst (v := 2) hx hb dX3_joinInto_41 (by decide) ?_
          refine lv_icmp_ge (tgt := 55) hx hb dX3_joinInto_42 (by decide) (fun q11 => ?_) (fun q11 => ?_)
          · replace hM := zx_t q11 hM
            refine lv_iload hx hb dX3_joinInto_55 (lv_at hl 0 rfl) ?_
            refine lv_iload hx hb dX3_joinInto_57 (lv_at hl 1 rfl) ?_
            refine lv_icmp_le (tgt := 66) hx hb dX3_joinInto_59 (by decide) (fun q12 => ?_) (fun q12 => ?_)
            · replace hM := zx_t q12 hM
              exact j66 v1 v2 v3 v4 x6 x8 S_ _ _ _ hP hD hS (lv_sub hl [2, 3, 4, 5, 6, 1, 0] rfl) hM
            · replace hM := zx_f q12 hM
              exact j62 v1 v2 v3 v4 x6 x8 S_ _ _ _ hP hD hS (lv_sub hl [2, 3, 4, 5, 6, 1, 0] rfl) hM
          · replace hM := zx_f q11 hM
            refine lv_iload hx hb dX3_joinInto_45 (lv_at hl 0 rfl) ?_
            refine lv_iload hx hb dX3_joinInto_47 (lv_at hl 1 rfl) ?_
            refine lv_icmp_ge (tgt := 66) hx hb dX3_joinInto_49 (by decide) (fun q13 => ?_) (fun q13 => ?_)
            · replace hM := zx_t q13 hM
              exact j66 v1 v2 v3 v4 x6 x8 S_ _ _ _ hP hD hS (lv_sub hl [2, 3, 4, 5, 6, 1, 0] rfl) hM
            · replace hM := zx_f q13 hM
              refine lv_goto (tgt := 62) hx hb dX3_joinInto_52 (by decide) ?_
              exact j62 v1 v2 v3 v4 x6 x8 S_ _ _ _ hP hD hS (lv_sub hl [2, 3, 4, 5, 6, 1, 0] rfl) hM
  refine lv_iconst (v := 0) hx hb dX3_joinInto_0 (by decide) ?_
  refine lv_istore (lv' := [(4, .int 0), (0, .ref h), (1, .int p1), (2, .int p2), (3, .int p3)]) hx hb dX3_joinInto_1 hl (by decide) rfl (fun ls hl => ?_)
  exact l3 N p1 p2 p3 0 S _ _ _ hP hD hS (lv_sub hl [1, 2, 3, 4, 0] rfl) hM
