/-! the law's wrappers: the class's world, and the row 'out' ahead of it -/
abbrev zx_ty4 (cI cZ cT cL : ClassId) : List (ClassId × FieldType) := [(cI, .int), (cZ, .boolean), (cT, .object RX1), (cL, .long)]
abbrev zxL (cI cT cL : ClassId) (o h : Nat) (hh : Nat → Nat) (aa : Nat → Nat → Nat) (f : Nat → Int64) (S : zx_B) : va_W := (o, .inl (cL, 1, .inr (.inl f))) :: xW2 cI cT h hh aa S
section ZL
variable {D : va_G} {cl : List vw_C} {A : Nat → Prop} {cI cT cL : ClassId} {o h : Nat} {hh : Nat → Nat} {aa : Nat → Nat → Nat} {f f2 : Nat → Int64} {S S2 : zx_B} {H H1 : Heap}
theorem zxL_P (hP : va_P D cl (zxL cI cT cL o h hh aa f S) H) : va_P D cl (xW2 cI cT h hh aa S) H := fun k q hk => hP (k + 1) q hk
theorem zxL_D (hD : va_D A (zxL cI cT cL o h hh aa f S)) : va_D A (xW2 cI cT h hh aa S) := ⟨fun i j p q hi hj e => by have := hD.1 (i + 1) (j + 1) p q hi hj e; omega, fun k q hk => hD.2 (k + 1) q hk⟩
theorem zxL_Da (hD : va_D A (zxL cI cT cL o h hh aa f S)) : va_D A (zxL cI cT cL o h hh aa f2 S2) := zx_Deq (ws := zxL cI cT cL o h hh aa f S) (by simp only [xW2, List.map_cons]; rw [zx_tr_fst 18]) hD
theorem zxL_S (hP : va_P D cl (zxL cI cT cL o h hh aa f S) H) (hD : va_D A (zxL cI cT cL o h hh aa f S)) (hk : ∀ q : Nat, q < H.size → ¬ va_A (xW2 cI cT h hh aa S) H.size q → H1[q]? = H[q]?) (hB : va_P D cl (xW2 cI cT h hh aa S2) H1) : va_P D cl (zxL cI cT cL o h hh aa f S2) H1 := by
  intro k q hq
  cases k with
  | succ k => exact hB k q hq
  | zero =>
    have hq0 : (zxL cI cT cL o h hh aa f S)[0]? = some q := hq
    have hlt := (hP 0 q hq0).lt
    refine (hP 0 q hq0).kept (hk q.1 hlt ?_)
    rintro (⟨t, e9, ht⟩ | hj)
    · have := hD.1 (t + 1) 0 (q.1, e9) q ht hq0 rfl
      omega
    · omega
end ZL
def zx_Nc (U : State) : Prop := ∀ i j : Nat, i < 4 ∧ 0 < i → j < 4 ∧ 0 < j → i ≠ j → va_Nc (zx_E i) (zx_E j) U
def bY (D : va_G) (tys : List (ClassId × FieldType)) (ws : va_W) (sz : Nat) : State → Prop := fun U => bX D tys ws sz U ∧ zx_Nc U
theorem bY_blind {av : List Value} {D : va_G} {tys : List (ClassId × FieldType)} {ws : va_W} {sz : Nat} : FrameBlind (va_Pc av (bY D tys ws sz)) := fun a U g mk q => by
  obtain ⟨q0, q1, q2⟩ := q
  have z := bX_blind (av := av) (D := D) (tys := tys) (ws := ws) (sz := sz) a U g mk ⟨q0, q1⟩
  exact ⟨q0, z.2, fun i j h1 h2 h3 => va_Nc.moved (u := U) (U := U.calling g mk a) (Vm.Alike.refl U.vm) (q2 i j h1 h2 h3)⟩
/-! the law: append -/
abbrev zsL_append : List Cond := .codeWith yL_append cL_append 4 (some .int) [(0, 9, 12, 13), (0, 9, 15, 15)] :: wsL_law
theorem zyL_append : yL_append.cls ≠ "java/lang/invoke/MethodHandle" ∧ yL_append.cls ≠ "java/lang/invoke/VarHandle" ∧ (parseMethodDescriptor yL_append.desc).map (fun d => d.parameters.length) = some 3 := by decide +kernel
abbrev rmL_append : Room := { frames := 7, cells := 1, slots := 6, locals := 103 }
set_option maxHeartbeats 4000000 in
set_option maxRecDepth 100000 in
theorem c_L_append (l : Launch) (hlt : l.stackTraces = false) (D : va_G) (cI cZ cT cL : ClassId) (o h : Nat) (hh : Nat → Nat) (aa : Nat → Nat → Nat) (f : Nat → Int64) (S : zx_B) (sz : Nat) (N : Nat) (p1 : Int32) {R : Int32 × (Nat × zx_B)} (hM : f_X2_append N p1 S = some R) (hk : R.2.1 = 0 ∨ R.2.1 = 1 ∨ R.2.1 = 2) : Met l yL_append zsL_append rmL_append (va_Pc [.ref h, .int p1, .ref o] (bY D (zx_ty4 cI cZ cT cL) (zxL cI cT cL o h hh aa f S) sz)) (va_Qi (fun r (u : (Nat → Int64) × zx_B) => ((R.2.1 = 0 ∧ r = 0 ∧ u.1 0 = R.1.toInt64) ∨ (R.2.1 = 1 ∧ r = 1) ∨ (R.2.1 = 2 ∧ r = 2)) ∧ u.2 = R.2.2) (fun u t => va_P D vwCl (zxL cI cT cL o h hh aa u.1 u.2) t.heap) (va_A (zxL cI cT cL o h hh aa f S) sz)) 1 6 (va_A (zxL cI cT cL o h hh aa f S) sz) := by
  refine va_MetW (cc := cL_append) (maxL := 4) (ret := (some .int)) (by decide) rfl ?_
  intro p e s m args below meth c s₁ B hml hv
  obtain ⟨rfl, ⟨⟨hsz, hP, hK, hD0, hN⟩, hX⟩, hNc⟩ := hv
  have hx := B.exec
  have hb := B.bytes
  have hr := B.returns
  have hts : ∀ w ∈ wsL_law, w.before _ s = true := fun w hw => atoms_spec (ws := zsL_append) B.pre w (List.mem_cons_of_mem _ hw)
  have htab := vx_table (x := yL_append) B (atoms_spec (ws := zsL_append) B.pre _ List.mem_cons_self)
  have hown : s.vm.findClass RL = some m.cls := findClass_of_methodNamed B.named
  have hlocks := B.notSynchronized
  subst hsz
  have hD := hD0.self (sz := s.heap.size)
  generalize hAe : va_A (zxL cI cT cL o h hh aa f S) s.heap.size = A at hD hX ⊢
  have hA : ∀ q : Nat, s.heap.size ≤ q → A q := fun q h => by rw [← hAe]; exact Or.inr h
  have hS : va_S A s.heap s.heap [] := va_S.rf
  have hl := lv_entry ([.ref h, .int p1, .ref o]) (n := 4) (Nat.le_of_ble_eq_true rfl)
  rw [lg_entry_eq]
  generalize (lg_sl ([.ref h, .int p1, .ref o]) ++ List.replicate (4 - (lg_sl ([.ref h, .int p1, .ref o])).length) Slot.unset).toArray = ls at hl ⊢
  have hl : lv_has ls 4 [(0, .ref h), (1, .int p1), (2, .ref o)] := hl
  have hK3 : va_K D vwCl (zx_ty cI cZ cT) s := hK.sub [0, 1, 2] rfl
  refine lv_aload_n hx hb dL_append_0 rfl (lv_at hl 2 rfl) ?_
  refine lv_iconst (v := 0) hx hb dL_append_1 (by decide) ?_
  refine lv_aload_n hx hb dL_append_2 rfl (lv_at hl 0 rfl) ?_
  refine lv_iload_n hx hb dL_append_3 rfl (lv_at hl 1 rfl) ?_
  have hPc := zxL_P hP
  have hDc := zxL_D hD
  have hF := zx_fW hDc hS hA
  refine vx_calli (vx_runV (As := [.int p1]) (rest := [.int 0, .ref o]) ⟨hx, hb, hml, hown, hts⟩ (c_X2_append l D cI cZ cT hlt h hh aa S _ N p1 hM) (cwV 1 hts (zg_V zw_4_16 zw_4_17 zw_4_18 zw_1_2 zw_4_19) rfl rfl rfl ⟨rfl, zyX2_append⟩ ⟨Nat.le_of_ble_eq_true rfl, Nat.le_of_ble_eq_true rfl⟩) ⟨bX_blind, va_recv hK3 hPc (ci := 2) (q0 := 0) rfl rfl, bX_pre (ws := []) hPc hK3 hDc hN hX hS hF⟩ rfl rfl hl.1 rfl (lv_room (Nat.le_of_ble_eq_true rfl)) dL_append_4 ⟨Nat.le_of_ble_eq_true rfl, Nat.le_of_ble_eq_true rfl⟩) hS (fun q _ h => hF q h) hF (fun q _ h => hF q h) (fun E ce q9 u t H1 lc ht hvm hpx hBX hz1 hk1 hS hce hcv hcl => ?_) (fun r u t H1 lc ht hvm hw hB hz1 hk1 hS => ?_)
  · obtain ⟨hR, hne⟩ := hpx
    obtain ⟨hE, hB⟩ := hBX
    rw [ht] at hB
    replace hP := zxL_S hP hD hk1 hB
    have hR1 : R.2.1 = u.1 := by rw [hR]
    have hR2 : R.2.2 = u.2 := by rw [hR]
    rcases hk with hk0 | hk1 | hk2
    · exact absurd (hR1.symm.trans hk0) hne
    · have hE : E = "java/lang/IllegalArgumentException" := by rw [hE, hR1.symm.trans hk1]; rfl
      subst hE
      refine vx_catch hown [] _ [_] (htab.trans rfl) (fun z hz => absurd hz List.not_mem_nil) (by decide) (by decide) (hts _ zw_4_14) (va_Nw.use rfl (hX.2.2.1 _ (List.mem_of_getElem? (i := 0) rfl))) hce hcv hcl ?_
      refine lv_astore_n (lv' := [(3, .ref q9), (0, .ref h), (1, .int p1), (2, .ref o)]) hx hb dL_append_12 rfl hl (by decide) rfl (fun ls hl => ?_)
      refine lv_iconst (v := 1) hx hb dL_append_13 (by decide) ?_
      refine W.widen (k := 1) (n := 6) (Nat.le_of_ble_eq_true rfl) (Nat.le_of_ble_eq_true rfl) ?_
      exact W.iret hx hb hr (fun t ht hW => ⟨⟨1, (f, u.2), rfl, ⟨Or.inr (Or.inl ⟨hk1, rfl⟩), hR2.symm⟩, by show va_P D vwCl _ t.heap; rw [ht]; exact hP⟩, hS.F ht⟩) hS.2.2 dL_append_14
    · have hE : E = "java/lang/IllegalStateException" := by rw [hE, hR1.symm.trans hk2]; rfl
      subst hE
      refine vx_catch hown [_] _ [] (htab.trans rfl) (fun z hz => by
        simp only [List.mem_cons, List.not_mem_nil, or_false] at hz
        rcases hz with rfl
        · exact Or.inr ⟨by decide, "java/lang/IllegalArgumentException", hts _ zw_4_14, hNc 2 1 (by decide) (by decide) (by decide)⟩) (by decide) (by decide) (hts _ zw_4_15) (va_Nw.use rfl (hX.2.2.1 _ (List.mem_of_getElem? (i := 1) rfl))) hce hcv hcl ?_
      refine lv_astore_n (lv' := [(3, .ref q9), (0, .ref h), (1, .int p1), (2, .ref o)]) hx hb dL_append_15 rfl hl (by decide) rfl (fun ls hl => ?_)
      refine lv_iconst (v := 2) hx hb dL_append_16 (by decide) ?_
      refine W.widen (k := 1) (n := 6) (Nat.le_of_ble_eq_true rfl) (Nat.le_of_ble_eq_true rfl) ?_
      exact W.iret hx hb hr (fun t ht hW => ⟨⟨2, (f, u.2), rfl, ⟨Or.inr (Or.inr (⟨hk2, rfl⟩)), hR2.symm⟩, by show va_P D vwCl _ t.heap; rw [ht]; exact hP⟩, hS.F ht⟩) hS.2.2 dL_append_17
  · replace hw : R = (r, (0, u)) := hw
    rw [ht] at hB
    have hD := zxL_Da (S2 := u) (f2 := f) hD
    replace hP := zxL_S hP (zxL_Da (S2 := S) (f2 := f) hD) hk1 hB
    refine lv_i2l hx hb dL_append_7 rfl ?_
    refine va_last (D := D) hx hb hK hP hD hS 0 3 rfl rfl (vp_in_nI (n := 0) (N := 1) (by decide) (by decide)) dL_append_8 (fun H lc hP hD hS => ?_)
    refine lv_goto (tgt := 18) hx hb dL_append_9 (by decide) ?_
    refine lv_iconst (v := 0) hx hb dL_append_18 (by decide) ?_
    refine W.widen (k := 1) (n := 6) (Nat.le_of_ble_eq_true rfl) (Nat.le_of_ble_eq_true rfl) ?_
    exact W.iret hx hb hr (fun t ht hW => ⟨⟨0, (vp_updL f 0 r.toInt64, u), rfl, ⟨Or.inl ⟨by rw [hw], rfl, by rw [hw]; rfl⟩, by rw [hw]⟩, by show va_P D vwCl _ t.heap; rw [ht]; exact hP⟩, hS.F ht⟩) hS.2.2 dL_append_19

/-! the law: about -/
abbrev zsL_about : List Cond := .codeWith yL_about cL_about 4 (some .int) [(0, 9, 12, 13)] :: wsL_law
theorem zyL_about : yL_about.cls ≠ "java/lang/invoke/MethodHandle" ∧ yL_about.cls ≠ "java/lang/invoke/VarHandle" ∧ (parseMethodDescriptor yL_about.desc).map (fun d => d.parameters.length) = some 3 := by decide +kernel
abbrev rmL_about : Room := { frames := 7, cells := 1, slots := 6, locals := 117 }
set_option maxHeartbeats 4000000 in
set_option maxRecDepth 100000 in
theorem c_L_about (l : Launch) (hlt : l.stackTraces = false) (D : va_G) (cI cZ cT cL : ClassId) (o h : Nat) (hh : Nat → Nat) (aa : Nat → Nat → Nat) (f : Nat → Int64) (S : zx_B) (sz : Nat) (N : Nat) (p1 : Int32) {R : Int32 × (Nat × zx_B)} (hM : f_X2_about N p1 S = some R) (hk : R.2.1 = 0 ∨ R.2.1 = 1) : Met l yL_about zsL_about rmL_about (va_Pc [.ref h, .int p1, .ref o] (bY D (zx_ty4 cI cZ cT cL) (zxL cI cT cL o h hh aa f S) sz)) (va_Qi (fun r (u : (Nat → Int64) × zx_B) => ((R.2.1 = 0 ∧ r = 0 ∧ u.1 0 = R.1.toInt64) ∨ (R.2.1 = 1 ∧ r = 1)) ∧ u.2 = R.2.2) (fun u t => va_P D vwCl (zxL cI cT cL o h hh aa u.1 u.2) t.heap) (va_A (zxL cI cT cL o h hh aa f S) sz)) 1 6 (va_A (zxL cI cT cL o h hh aa f S) sz) := by
  refine va_MetW (cc := cL_about) (maxL := 4) (ret := (some .int)) (by decide) rfl ?_
  intro p e s m args below meth c s₁ B hml hv
  obtain ⟨rfl, ⟨⟨hsz, hP, hK, hD0, hN⟩, hX⟩, hNc⟩ := hv
  have hx := B.exec
  have hb := B.bytes
  have hr := B.returns
  have hts : ∀ w ∈ wsL_law, w.before _ s = true := fun w hw => atoms_spec (ws := zsL_about) B.pre w (List.mem_cons_of_mem _ hw)
  have htab := vx_table (x := yL_append) B (atoms_spec (ws := zsL_about) B.pre _ List.mem_cons_self)
  have hown : s.vm.findClass RL = some m.cls := findClass_of_methodNamed B.named
  have hlocks := B.notSynchronized
  subst hsz
  have hD := hD0.self (sz := s.heap.size)
  generalize hAe : va_A (zxL cI cT cL o h hh aa f S) s.heap.size = A at hD hX ⊢
  have hA : ∀ q : Nat, s.heap.size ≤ q → A q := fun q h => by rw [← hAe]; exact Or.inr h
  have hS : va_S A s.heap s.heap [] := va_S.rf
  have hl := lv_entry ([.ref h, .int p1, .ref o]) (n := 4) (Nat.le_of_ble_eq_true rfl)
  rw [lg_entry_eq]
  generalize (lg_sl ([.ref h, .int p1, .ref o]) ++ List.replicate (4 - (lg_sl ([.ref h, .int p1, .ref o])).length) Slot.unset).toArray = ls at hl ⊢
  have hl : lv_has ls 4 [(0, .ref h), (1, .int p1), (2, .ref o)] := hl
  have hK3 : va_K D vwCl (zx_ty cI cZ cT) s := hK.sub [0, 1, 2] rfl
  refine lv_aload_n hx hb dL_about_0 rfl (lv_at hl 2 rfl) ?_
  refine lv_iconst (v := 0) hx hb dL_about_1 (by decide) ?_
  refine lv_aload_n hx hb dL_about_2 rfl (lv_at hl 0 rfl) ?_
  refine lv_iload_n hx hb dL_about_3 rfl (lv_at hl 1 rfl) ?_
  have hPc := zxL_P hP
  have hDc := zxL_D hD
  have hF := zx_fW hDc hS hA
  refine vx_calli (vx_runV (As := [.int p1]) (rest := [.int 0, .ref o]) ⟨hx, hb, hml, hown, hts⟩ (c_X2_about l D cI cZ cT hlt h hh aa S _ N p1 hM) (cwV 1 hts (zg_V zw_12_12 zw_12_13 zw_12_14 zw_1_2 zw_12_15) rfl rfl rfl ⟨rfl, zyX2_about⟩ ⟨Nat.le_of_ble_eq_true rfl, Nat.le_of_ble_eq_true rfl⟩) ⟨bX_blind, va_recv hK3 hPc (ci := 2) (q0 := 0) rfl rfl, bX_pre (ws := []) hPc hK3 hDc hN hX hS hF⟩ rfl rfl hl.1 rfl (lv_room (Nat.le_of_ble_eq_true rfl)) dL_about_4 ⟨Nat.le_of_ble_eq_true rfl, Nat.le_of_ble_eq_true rfl⟩) hS (fun q _ h => hF q h) hF (fun q _ h => hF q h) (fun E ce q9 u t H1 lc ht hvm hpx hBX hz1 hk1 hS hce hcv hcl => ?_) (fun r u t H1 lc ht hvm hw hB hz1 hk1 hS => ?_)
  · obtain ⟨hR, hne⟩ := hpx
    obtain ⟨hE, hB⟩ := hBX
    rw [ht] at hB
    replace hP := zxL_S hP hD hk1 hB
    have hR1 : R.2.1 = u.1 := by rw [hR]
    have hR2 : R.2.2 = u.2 := by rw [hR]
    rcases hk with hk0 | hk1
    · exact absurd (hR1.symm.trans hk0) hne
    · have hE : E = "java/lang/IllegalArgumentException" := by rw [hE, hR1.symm.trans hk1]; rfl
      subst hE
      refine vx_catch hown [] _ [] (htab.trans rfl) (fun z hz => absurd hz List.not_mem_nil) (by decide) (by decide) (hts _ zw_4_14) (va_Nw.use rfl (hX.2.2.1 _ (List.mem_of_getElem? (i := 0) rfl))) hce hcv hcl ?_
      refine lv_astore_n (lv' := [(3, .ref q9), (0, .ref h), (1, .int p1), (2, .ref o)]) hx hb dL_about_12 rfl hl (by decide) rfl (fun ls hl => ?_)
      refine lv_iconst (v := 1) hx hb dL_about_13 (by decide) ?_
      refine W.widen (k := 1) (n := 6) (Nat.le_of_ble_eq_true rfl) (Nat.le_of_ble_eq_true rfl) ?_
      exact W.iret hx hb hr (fun t ht hW => ⟨⟨1, (f, u.2), rfl, ⟨Or.inr (⟨hk1, rfl⟩), hR2.symm⟩, by show va_P D vwCl _ t.heap; rw [ht]; exact hP⟩, hS.F ht⟩) hS.2.2 dL_about_14
  · replace hw : R = (r, (0, u)) := hw
    rw [ht] at hB
    have hD := zxL_Da (S2 := u) (f2 := f) hD
    replace hP := zxL_S hP (zxL_Da (S2 := S) (f2 := f) hD) hk1 hB
    refine lv_i2l hx hb dL_about_7 rfl ?_
    refine va_last (D := D) hx hb hK hP hD hS 0 3 rfl rfl (vp_in_nI (n := 0) (N := 1) (by decide) (by decide)) dL_about_8 (fun H lc hP hD hS => ?_)
    refine lv_goto (tgt := 15) hx hb dL_about_9 (by decide) ?_
    refine lv_iconst (v := 0) hx hb dL_about_15 (by decide) ?_
    refine W.widen (k := 1) (n := 6) (Nat.le_of_ble_eq_true rfl) (Nat.le_of_ble_eq_true rfl) ?_
    exact W.iret hx hb hr (fun t ht hW => ⟨⟨0, (vp_updL f 0 r.toInt64, u), rfl, ⟨Or.inl ⟨by rw [hw], rfl, by rw [hw]; rfl⟩, by rw [hw]⟩, by show va_P D vwCl _ t.heap; rw [ht]; exact hP⟩, hS.F ht⟩) hS.2.2 dL_about_16

/-! the law: rectangle -/
abbrev zsL_rectangle : List Cond := .codeWith yL_rectangle cL_rectangle 5 (some .int) [(0, 10, 13, 24), (0, 10, 17, 13)] :: wsL_law
theorem zyL_rectangle : yL_rectangle.cls ≠ "java/lang/invoke/MethodHandle" ∧ yL_rectangle.cls ≠ "java/lang/invoke/VarHandle" ∧ (parseMethodDescriptor yL_rectangle.desc).map (fun d => d.parameters.length) = some 4 := by decide +kernel
abbrev rmL_rectangle : Room := { frames := 7, cells := 1, slots := 6, locals := 104 }
set_option maxHeartbeats 4000000 in
set_option maxRecDepth 100000 in
theorem c_L_rectangle (l : Launch) (hlt : l.stackTraces = false) (D : va_G) (cI cZ cT cL : ClassId) (o h : Nat) (hh : Nat → Nat) (aa : Nat → Nat → Nat) (f : Nat → Int64) (S : zx_B) (sz : Nat) (N : Nat) (p1 : Int32) (p2 : Int32) {R : Int32 × (Nat × zx_B)} (hM : f_X2_rectangle N p1 p2 S = some R) (hk : R.2.1 = 0 ∨ R.2.1 = 3 ∨ R.2.1 = 1) : Met l yL_rectangle zsL_rectangle rmL_rectangle (va_Pc [.ref h, .int p1, .int p2, .ref o] (bY D (zx_ty4 cI cZ cT cL) (zxL cI cT cL o h hh aa f S) sz)) (va_Qi (fun r (u : (Nat → Int64) × zx_B) => ((R.2.1 = 0 ∧ r = 0 ∧ u.1 0 = R.1.toInt64) ∨ (R.2.1 = 3 ∧ r = 1) ∨ (R.2.1 = 1 ∧ r = 2)) ∧ u.2 = R.2.2) (fun u t => va_P D vwCl (zxL cI cT cL o h hh aa u.1 u.2) t.heap) (va_A (zxL cI cT cL o h hh aa f S) sz)) 1 6 (va_A (zxL cI cT cL o h hh aa f S) sz) := by
  refine va_MetW (cc := cL_rectangle) (maxL := 5) (ret := (some .int)) (by decide) rfl ?_
  intro p e s m args below meth c s₁ B hml hv
  obtain ⟨rfl, ⟨⟨hsz, hP, hK, hD0, hN⟩, hX⟩, hNc⟩ := hv
  have hx := B.exec
  have hb := B.bytes
  have hr := B.returns
  have hts : ∀ w ∈ wsL_law, w.before _ s = true := fun w hw => atoms_spec (ws := zsL_rectangle) B.pre w (List.mem_cons_of_mem _ hw)
  have htab := vx_table (x := yL_append) B (atoms_spec (ws := zsL_rectangle) B.pre _ List.mem_cons_self)
  have hown : s.vm.findClass RL = some m.cls := findClass_of_methodNamed B.named
  have hlocks := B.notSynchronized
  subst hsz
  have hD := hD0.self (sz := s.heap.size)
  generalize hAe : va_A (zxL cI cT cL o h hh aa f S) s.heap.size = A at hD hX ⊢
  have hA : ∀ q : Nat, s.heap.size ≤ q → A q := fun q h => by rw [← hAe]; exact Or.inr h
  have hS : va_S A s.heap s.heap [] := va_S.rf
  have hl := lv_entry ([.ref h, .int p1, .int p2, .ref o]) (n := 5) (Nat.le_of_ble_eq_true rfl)
  rw [lg_entry_eq]
  generalize (lg_sl ([.ref h, .int p1, .int p2, .ref o]) ++ List.replicate (5 - (lg_sl ([.ref h, .int p1, .int p2, .ref o])).length) Slot.unset).toArray = ls at hl ⊢
  have hl : lv_has ls 5 [(0, .ref h), (1, .int p1), (2, .int p2), (3, .ref o)] := hl
  have hK3 : va_K D vwCl (zx_ty cI cZ cT) s := hK.sub [0, 1, 2] rfl
  refine lv_aload_n hx hb dL_rectangle_0 rfl (lv_at hl 3 rfl) ?_
  refine lv_iconst (v := 0) hx hb dL_rectangle_1 (by decide) ?_
  refine lv_aload_n hx hb dL_rectangle_2 rfl (lv_at hl 0 rfl) ?_
  refine lv_iload_n hx hb dL_rectangle_3 rfl (lv_at hl 1 rfl) ?_
  refine lv_iload_n hx hb dL_rectangle_4 rfl (lv_at hl 2 rfl) ?_
  have hPc := zxL_P hP
  have hDc := zxL_D hD
  have hF := zx_fW hDc hS hA
  refine vx_calli (vx_runV (As := [.int p1, .int p2]) (rest := [.int 0, .ref o]) ⟨hx, hb, hml, hown, hts⟩ (c_X2_rectangle l D cI cZ cT hlt h hh aa S _ N p1 p2 hM) (cwV 2 hts (zg_V zw_15_11 zw_15_12 zw_15_13 zw_1_2 zw_15_14) rfl rfl rfl ⟨rfl, zyX2_rectangle⟩ ⟨Nat.le_of_ble_eq_true rfl, Nat.le_of_ble_eq_true rfl⟩) ⟨bX_blind, va_recv hK3 hPc (ci := 2) (q0 := 0) rfl rfl, bX_pre (ws := []) hPc hK3 hDc hN hX hS hF⟩ rfl rfl hl.1 rfl (lv_room (Nat.le_of_ble_eq_true rfl)) dL_rectangle_5 ⟨Nat.le_of_ble_eq_true rfl, Nat.le_of_ble_eq_true rfl⟩) hS (fun q _ h => hF q h) hF (fun q _ h => hF q h) (fun E ce q9 u t H1 lc ht hvm hpx hBX hz1 hk1 hS hce hcv hcl => ?_) (fun r u t H1 lc ht hvm hw hB hz1 hk1 hS => ?_)
  · obtain ⟨hR, hne⟩ := hpx
    obtain ⟨hE, hB⟩ := hBX
    rw [ht] at hB
    replace hP := zxL_S hP hD hk1 hB
    have hR1 : R.2.1 = u.1 := by rw [hR]
    have hR2 : R.2.2 = u.2 := by rw [hR]
    rcases hk with hk0 | hk1 | hk2
    · exact absurd (hR1.symm.trans hk0) hne
    · have hE : E = "java/lang/IndexOutOfBoundsException" := by rw [hE, hR1.symm.trans hk1]; rfl
      subst hE
      refine vx_catch hown [] _ [_] (htab.trans rfl) (fun z hz => absurd hz List.not_mem_nil) (by decide) (by decide) (hts _ zw_15_10) (va_Nw.use rfl (hX.2.2.1 _ (List.mem_of_getElem? (i := 2) rfl))) hce hcv hcl ?_
      refine lv_astore (lv' := [(4, .ref q9), (0, .ref h), (1, .int p1), (2, .int p2), (3, .ref o)]) hx hb dL_rectangle_13 hl (by decide) rfl (fun ls hl => ?_)
      refine lv_iconst (v := 1) hx hb dL_rectangle_15 (by decide) ?_
      refine W.widen (k := 1) (n := 6) (Nat.le_of_ble_eq_true rfl) (Nat.le_of_ble_eq_true rfl) ?_
      exact W.iret hx hb hr (fun t ht hW => ⟨⟨1, (f, u.2), rfl, ⟨Or.inr (Or.inl ⟨hk1, rfl⟩), hR2.symm⟩, by show va_P D vwCl _ t.heap; rw [ht]; exact hP⟩, hS.F ht⟩) hS.2.2 dL_rectangle_16
    · have hE : E = "java/lang/IllegalArgumentException" := by rw [hE, hR1.symm.trans hk2]; rfl
      subst hE
      refine vx_catch hown [_] _ [] (htab.trans rfl) (fun z hz => by
        simp only [List.mem_cons, List.not_mem_nil, or_false] at hz
        rcases hz with rfl
        · exact Or.inr ⟨by decide, "java/lang/IndexOutOfBoundsException", hts _ zw_15_10, hNc 1 3 (by decide) (by decide) (by decide)⟩) (by decide) (by decide) (hts _ zw_4_14) (va_Nw.use rfl (hX.2.2.1 _ (List.mem_of_getElem? (i := 0) rfl))) hce hcv hcl ?_
      refine lv_astore (lv' := [(4, .ref q9), (0, .ref h), (1, .int p1), (2, .int p2), (3, .ref o)]) hx hb dL_rectangle_17 hl (by decide) rfl (fun ls hl => ?_)
      refine lv_iconst (v := 2) hx hb dL_rectangle_19 (by decide) ?_
      refine W.widen (k := 1) (n := 6) (Nat.le_of_ble_eq_true rfl) (Nat.le_of_ble_eq_true rfl) ?_
      exact W.iret hx hb hr (fun t ht hW => ⟨⟨2, (f, u.2), rfl, ⟨Or.inr (Or.inr (⟨hk2, rfl⟩)), hR2.symm⟩, by show va_P D vwCl _ t.heap; rw [ht]; exact hP⟩, hS.F ht⟩) hS.2.2 dL_rectangle_20
  · replace hw : R = (r, (0, u)) := hw
    rw [ht] at hB
    have hD := zxL_Da (S2 := u) (f2 := f) hD
    replace hP := zxL_S hP (zxL_Da (S2 := S) (f2 := f) hD) hk1 hB
    refine lv_i2l hx hb dL_rectangle_8 rfl ?_
    refine va_last (D := D) hx hb hK hP hD hS 0 3 rfl rfl (vp_in_nI (n := 0) (N := 1) (by decide) (by decide)) dL_rectangle_9 (fun H lc hP hD hS => ?_)
    refine lv_goto (tgt := 21) hx hb dL_rectangle_10 (by decide) ?_
    refine lv_iconst (v := 0) hx hb dL_rectangle_21 (by decide) ?_
    refine W.widen (k := 1) (n := 6) (Nat.le_of_ble_eq_true rfl) (Nat.le_of_ble_eq_true rfl) ?_
    exact W.iret hx hb hr (fun t ht hW => ⟨⟨0, (vp_updL f 0 r.toInt64, u), rfl, ⟨Or.inl ⟨by rw [hw], rfl, by rw [hw]; rfl⟩, by rw [hw]⟩, by show va_P D vwCl _ t.heap; rw [ht]; exact hP⟩, hS.F ht⟩) hS.2.2 dL_rectangle_22

/-! the law: node -/
abbrev zsL_node : List Cond := .codeWith yL_node cL_node 5 (some .int) [(0, 10, 13, 24), (0, 10, 17, 13)] :: wsL_law
theorem zyL_node : yL_node.cls ≠ "java/lang/invoke/MethodHandle" ∧ yL_node.cls ≠ "java/lang/invoke/VarHandle" ∧ (parseMethodDescriptor yL_node.desc).map (fun d => d.parameters.length) = some 4 := by decide +kernel
abbrev rmL_node : Room := { frames := 7, cells := 1, slots := 6, locals := 105 }
set_option maxHeartbeats 4000000 in
set_option maxRecDepth 100000 in
theorem c_L_node (l : Launch) (hlt : l.stackTraces = false) (D : va_G) (cI cZ cT cL : ClassId) (o h : Nat) (hh : Nat → Nat) (aa : Nat → Nat → Nat) (f : Nat → Int64) (S : zx_B) (sz : Nat) (N : Nat) (p1 : Int32) (p2 : Int32) {R : Int32 × (Nat × zx_B)} (hM : f_X2_node N p1 p2 S = some R) (hk : R.2.1 = 0 ∨ R.2.1 = 3 ∨ R.2.1 = 1) : Met l yL_node zsL_node rmL_node (va_Pc [.ref h, .int p1, .int p2, .ref o] (bY D (zx_ty4 cI cZ cT cL) (zxL cI cT cL o h hh aa f S) sz)) (va_Qi (fun r (u : (Nat → Int64) × zx_B) => ((R.2.1 = 0 ∧ r = 0 ∧ u.1 0 = R.1.toInt64) ∨ (R.2.1 = 3 ∧ r = 1) ∨ (R.2.1 = 1 ∧ r = 2)) ∧ u.2 = R.2.2) (fun u t => va_P D vwCl (zxL cI cT cL o h hh aa u.1 u.2) t.heap) (va_A (zxL cI cT cL o h hh aa f S) sz)) 1 6 (va_A (zxL cI cT cL o h hh aa f S) sz) := by
  refine va_MetW (cc := cL_node) (maxL := 5) (ret := (some .int)) (by decide) rfl ?_
  intro p e s m args below meth c s₁ B hml hv
  obtain ⟨rfl, ⟨⟨hsz, hP, hK, hD0, hN⟩, hX⟩, hNc⟩ := hv
  have hx := B.exec
  have hb := B.bytes
  have hr := B.returns
  have hts : ∀ w ∈ wsL_law, w.before _ s = true := fun w hw => atoms_spec (ws := zsL_node) B.pre w (List.mem_cons_of_mem _ hw)
  have htab := vx_table (x := yL_append) B (atoms_spec (ws := zsL_node) B.pre _ List.mem_cons_self)
  have hown : s.vm.findClass RL = some m.cls := findClass_of_methodNamed B.named
  have hlocks := B.notSynchronized
  subst hsz
  have hD := hD0.self (sz := s.heap.size)
  generalize hAe : va_A (zxL cI cT cL o h hh aa f S) s.heap.size = A at hD hX ⊢
  have hA : ∀ q : Nat, s.heap.size ≤ q → A q := fun q h => by rw [← hAe]; exact Or.inr h
  have hS : va_S A s.heap s.heap [] := va_S.rf
  have hl := lv_entry ([.ref h, .int p1, .int p2, .ref o]) (n := 5) (Nat.le_of_ble_eq_true rfl)
  rw [lg_entry_eq]
  generalize (lg_sl ([.ref h, .int p1, .int p2, .ref o]) ++ List.replicate (5 - (lg_sl ([.ref h, .int p1, .int p2, .ref o])).length) Slot.unset).toArray = ls at hl ⊢
  have hl : lv_has ls 5 [(0, .ref h), (1, .int p1), (2, .int p2), (3, .ref o)] := hl
  have hK3 : va_K D vwCl (zx_ty cI cZ cT) s := hK.sub [0, 1, 2] rfl
  refine lv_aload_n hx hb dL_node_0 rfl (lv_at hl 3 rfl) ?_
  refine lv_iconst (v := 0) hx hb dL_node_1 (by decide) ?_
  refine lv_aload_n hx hb dL_node_2 rfl (lv_at hl 0 rfl) ?_
  refine lv_iload_n hx hb dL_node_3 rfl (lv_at hl 1 rfl) ?_
  refine lv_iload_n hx hb dL_node_4 rfl (lv_at hl 2 rfl) ?_
  have hPc := zxL_P hP
  have hDc := zxL_D hD
  have hF := zx_fW hDc hS hA
  refine vx_calli (vx_runV (As := [.int p1, .int p2]) (rest := [.int 0, .ref o]) ⟨hx, hb, hml, hown, hts⟩ (c_X2_node l D cI cZ cT hlt h hh aa S _ N p1 p2 hM) (cwV 2 hts (zg_V zw_17_1 zw_17_2 zw_17_3 zw_1_2 zw_17_4) rfl rfl rfl ⟨rfl, zyX2_node⟩ ⟨Nat.le_of_ble_eq_true rfl, Nat.le_of_ble_eq_true rfl⟩) ⟨bX_blind, va_recv hK3 hPc (ci := 2) (q0 := 0) rfl rfl, bX_pre (ws := []) hPc hK3 hDc hN hX hS hF⟩ rfl rfl hl.1 rfl (lv_room (Nat.le_of_ble_eq_true rfl)) dL_node_5 ⟨Nat.le_of_ble_eq_true rfl, Nat.le_of_ble_eq_true rfl⟩) hS (fun q _ h => hF q h) hF (fun q _ h => hF q h) (fun E ce q9 u t H1 lc ht hvm hpx hBX hz1 hk1 hS hce hcv hcl => ?_) (fun r u t H1 lc ht hvm hw hB hz1 hk1 hS => ?_)
  · obtain ⟨hR, hne⟩ := hpx
    obtain ⟨hE, hB⟩ := hBX
    rw [ht] at hB
    replace hP := zxL_S hP hD hk1 hB
    have hR1 : R.2.1 = u.1 := by rw [hR]
    have hR2 : R.2.2 = u.2 := by rw [hR]
    rcases hk with hk0 | hk1 | hk2
    · exact absurd (hR1.symm.trans hk0) hne
    · have hE : E = "java/lang/IndexOutOfBoundsException" := by rw [hE, hR1.symm.trans hk1]; rfl
      subst hE
      refine vx_catch hown [] _ [_] (htab.trans rfl) (fun z hz => absurd hz List.not_mem_nil) (by decide) (by decide) (hts _ zw_15_10) (va_Nw.use rfl (hX.2.2.1 _ (List.mem_of_getElem? (i := 2) rfl))) hce hcv hcl ?_
      refine lv_astore (lv' := [(4, .ref q9), (0, .ref h), (1, .int p1), (2, .int p2), (3, .ref o)]) hx hb dL_node_13 hl (by decide) rfl (fun ls hl => ?_)
      refine lv_iconst (v := 1) hx hb dL_node_15 (by decide) ?_
      refine W.widen (k := 1) (n := 6) (Nat.le_of_ble_eq_true rfl) (Nat.le_of_ble_eq_true rfl) ?_
      exact W.iret hx hb hr (fun t ht hW => ⟨⟨1, (f, u.2), rfl, ⟨Or.inr (Or.inl ⟨hk1, rfl⟩), hR2.symm⟩, by show va_P D vwCl _ t.heap; rw [ht]; exact hP⟩, hS.F ht⟩) hS.2.2 dL_node_16
    · have hE : E = "java/lang/IllegalArgumentException" := by rw [hE, hR1.symm.trans hk2]; rfl
      subst hE
      refine vx_catch hown [_] _ [] (htab.trans rfl) (fun z hz => by
        simp only [List.mem_cons, List.not_mem_nil, or_false] at hz
        rcases hz with rfl
        · exact Or.inr ⟨by decide, "java/lang/IndexOutOfBoundsException", hts _ zw_15_10, hNc 1 3 (by decide) (by decide) (by decide)⟩) (by decide) (by decide) (hts _ zw_4_14) (va_Nw.use rfl (hX.2.2.1 _ (List.mem_of_getElem? (i := 0) rfl))) hce hcv hcl ?_
      refine lv_astore (lv' := [(4, .ref q9), (0, .ref h), (1, .int p1), (2, .int p2), (3, .ref o)]) hx hb dL_node_17 hl (by decide) rfl (fun ls hl => ?_)
      refine lv_iconst (v := 2) hx hb dL_node_19 (by decide) ?_
      refine W.widen (k := 1) (n := 6) (Nat.le_of_ble_eq_true rfl) (Nat.le_of_ble_eq_true rfl) ?_
      exact W.iret hx hb hr (fun t ht hW => ⟨⟨2, (f, u.2), rfl, ⟨Or.inr (Or.inr (⟨hk2, rfl⟩)), hR2.symm⟩, by show va_P D vwCl _ t.heap; rw [ht]; exact hP⟩, hS.F ht⟩) hS.2.2 dL_node_20
  · replace hw : R = (r, (0, u)) := hw
    rw [ht] at hB
    have hD := zxL_Da (S2 := u) (f2 := f) hD
    replace hP := zxL_S hP (zxL_Da (S2 := S) (f2 := f) hD) hk1 hB
    refine lv_i2l hx hb dL_node_8 rfl ?_
    refine va_last (D := D) hx hb hK hP hD hS 0 3 rfl rfl (vp_in_nI (n := 0) (N := 1) (by decide) (by decide)) dL_node_9 (fun H lc hP hD hS => ?_)
    refine lv_goto (tgt := 21) hx hb dL_node_10 (by decide) ?_
    refine lv_iconst (v := 0) hx hb dL_node_21 (by decide) ?_
    refine W.widen (k := 1) (n := 6) (Nat.le_of_ble_eq_true rfl) (Nat.le_of_ble_eq_true rfl) ?_
    exact W.iret hx hb hr (fun t ht hW => ⟨⟨0, (vp_updL f 0 r.toInt64, u), rfl, ⟨Or.inl ⟨by rw [hw], rfl, by rw [hw]; rfl⟩, by rw [hw]⟩, by show va_P D vwCl _ t.heap; rw [ht]; exact hP⟩, hS.F ht⟩) hS.2.2 dL_node_22

/-! the law: entry -/
abbrev zsL_entry : List Cond := .codeWith yL_entry cL_entry 5 (some .int) [(0, 10, 13, 24), (0, 10, 17, 13)] :: wsL_law
theorem zyL_entry : yL_entry.cls ≠ "java/lang/invoke/MethodHandle" ∧ yL_entry.cls ≠ "java/lang/invoke/VarHandle" ∧ (parseMethodDescriptor yL_entry.desc).map (fun d => d.parameters.length) = some 4 := by decide +kernel
abbrev rmL_entry : Room := { frames := 7, cells := 1, slots := 6, locals := 106 }
set_option maxHeartbeats 4000000 in
set_option maxRecDepth 100000 in
theorem c_L_entry (l : Launch) (hlt : l.stackTraces = false) (D : va_G) (cI cZ cT cL : ClassId) (o h : Nat) (hh : Nat → Nat) (aa : Nat → Nat → Nat) (f : Nat → Int64) (S : zx_B) (sz : Nat) (N : Nat) (p1 : Int32) (p2 : Int32) {R : Int32 × (Nat × zx_B)} (hM : f_X2_entry N p1 p2 S = some R) (hk : R.2.1 = 0 ∨ R.2.1 = 3 ∨ R.2.1 = 1) : Met l yL_entry zsL_entry rmL_entry (va_Pc [.ref h, .int p1, .int p2, .ref o] (bY D (zx_ty4 cI cZ cT cL) (zxL cI cT cL o h hh aa f S) sz)) (va_Qi (fun r (u : (Nat → Int64) × zx_B) => ((R.2.1 = 0 ∧ r = 0 ∧ u.1 0 = R.1.toInt64) ∨ (R.2.1 = 3 ∧ r = 1) ∨ (R.2.1 = 1 ∧ r = 2)) ∧ u.2 = R.2.2) (fun u t => va_P D vwCl (zxL cI cT cL o h hh aa u.1 u.2) t.heap) (va_A (zxL cI cT cL o h hh aa f S) sz)) 1 6 (va_A (zxL cI cT cL o h hh aa f S) sz) := by
  refine va_MetW (cc := cL_entry) (maxL := 5) (ret := (some .int)) (by decide) rfl ?_
  intro p e s m args below meth c s₁ B hml hv
  obtain ⟨rfl, ⟨⟨hsz, hP, hK, hD0, hN⟩, hX⟩, hNc⟩ := hv
  have hx := B.exec
  have hb := B.bytes
  have hr := B.returns
  have hts : ∀ w ∈ wsL_law, w.before _ s = true := fun w hw => atoms_spec (ws := zsL_entry) B.pre w (List.mem_cons_of_mem _ hw)
  have htab := vx_table (x := yL_append) B (atoms_spec (ws := zsL_entry) B.pre _ List.mem_cons_self)
  have hown : s.vm.findClass RL = some m.cls := findClass_of_methodNamed B.named
  have hlocks := B.notSynchronized
  subst hsz
  have hD := hD0.self (sz := s.heap.size)
  generalize hAe : va_A (zxL cI cT cL o h hh aa f S) s.heap.size = A at hD hX ⊢
  have hA : ∀ q : Nat, s.heap.size ≤ q → A q := fun q h => by rw [← hAe]; exact Or.inr h
  have hS : va_S A s.heap s.heap [] := va_S.rf
  have hl := lv_entry ([.ref h, .int p1, .int p2, .ref o]) (n := 5) (Nat.le_of_ble_eq_true rfl)
  rw [lg_entry_eq]
  generalize (lg_sl ([.ref h, .int p1, .int p2, .ref o]) ++ List.replicate (5 - (lg_sl ([.ref h, .int p1, .int p2, .ref o])).length) Slot.unset).toArray = ls at hl ⊢
  have hl : lv_has ls 5 [(0, .ref h), (1, .int p1), (2, .int p2), (3, .ref o)] := hl
  have hK3 : va_K D vwCl (zx_ty cI cZ cT) s := hK.sub [0, 1, 2] rfl
  refine lv_aload_n hx hb dL_entry_0 rfl (lv_at hl 3 rfl) ?_
  refine lv_iconst (v := 0) hx hb dL_entry_1 (by decide) ?_
  refine lv_aload_n hx hb dL_entry_2 rfl (lv_at hl 0 rfl) ?_
  refine lv_iload_n hx hb dL_entry_3 rfl (lv_at hl 1 rfl) ?_
  refine lv_iload_n hx hb dL_entry_4 rfl (lv_at hl 2 rfl) ?_
  have hPc := zxL_P hP
  have hDc := zxL_D hD
  have hF := zx_fW hDc hS hA
  refine vx_calli (vx_runV (As := [.int p1, .int p2]) (rest := [.int 0, .ref o]) ⟨hx, hb, hml, hown, hts⟩ (c_X2_entry l D cI cZ cT hlt h hh aa S _ N p1 p2 hM) (cwV 2 hts (zg_V zw_17_21 zw_17_22 zw_17_23 zw_1_2 zw_18_0) rfl rfl rfl ⟨rfl, zyX2_entry⟩ ⟨Nat.le_of_ble_eq_true rfl, Nat.le_of_ble_eq_true rfl⟩) ⟨bX_blind, va_recv hK3 hPc (ci := 2) (q0 := 0) rfl rfl, bX_pre (ws := []) hPc hK3 hDc hN hX hS hF⟩ rfl rfl hl.1 rfl (lv_room (Nat.le_of_ble_eq_true rfl)) dL_entry_5 ⟨Nat.le_of_ble_eq_true rfl, Nat.le_of_ble_eq_true rfl⟩) hS (fun q _ h => hF q h) hF (fun q _ h => hF q h) (fun E ce q9 u t H1 lc ht hvm hpx hBX hz1 hk1 hS hce hcv hcl => ?_) (fun r u t H1 lc ht hvm hw hB hz1 hk1 hS => ?_)
  · obtain ⟨hR, hne⟩ := hpx
    obtain ⟨hE, hB⟩ := hBX
    rw [ht] at hB
    replace hP := zxL_S hP hD hk1 hB
    have hR1 : R.2.1 = u.1 := by rw [hR]
    have hR2 : R.2.2 = u.2 := by rw [hR]
    rcases hk with hk0 | hk1 | hk2
    · exact absurd (hR1.symm.trans hk0) hne
    · have hE : E = "java/lang/IndexOutOfBoundsException" := by rw [hE, hR1.symm.trans hk1]; rfl
      subst hE
      refine vx_catch hown [] _ [_] (htab.trans rfl) (fun z hz => absurd hz List.not_mem_nil) (by decide) (by decide) (hts _ zw_15_10) (va_Nw.use rfl (hX.2.2.1 _ (List.mem_of_getElem? (i := 2) rfl))) hce hcv hcl ?_
      refine lv_astore (lv' := [(4, .ref q9), (0, .ref h), (1, .int p1), (2, .int p2), (3, .ref o)]) hx hb dL_entry_13 hl (by decide) rfl (fun ls hl => ?_)
      refine lv_iconst (v := 1) hx hb dL_entry_15 (by decide) ?_
      refine W.widen (k := 1) (n := 6) (Nat.le_of_ble_eq_true rfl) (Nat.le_of_ble_eq_true rfl) ?_
      exact W.iret hx hb hr (fun t ht hW => ⟨⟨1, (f, u.2), rfl, ⟨Or.inr (Or.inl ⟨hk1, rfl⟩), hR2.symm⟩, by show va_P D vwCl _ t.heap; rw [ht]; exact hP⟩, hS.F ht⟩) hS.2.2 dL_entry_16
    · have hE : E = "java/lang/IllegalArgumentException" := by rw [hE, hR1.symm.trans hk2]; rfl
      subst hE
      refine vx_catch hown [_] _ [] (htab.trans rfl) (fun z hz => by
        simp only [List.mem_cons, List.not_mem_nil, or_false] at hz
        rcases hz with rfl
        · exact Or.inr ⟨by decide, "java/lang/IndexOutOfBoundsException", hts _ zw_15_10, hNc 1 3 (by decide) (by decide) (by decide)⟩) (by decide) (by decide) (hts _ zw_4_14) (va_Nw.use rfl (hX.2.2.1 _ (List.mem_of_getElem? (i := 0) rfl))) hce hcv hcl ?_
      refine lv_astore (lv' := [(4, .ref q9), (0, .ref h), (1, .int p1), (2, .int p2), (3, .ref o)]) hx hb dL_entry_17 hl (by decide) rfl (fun ls hl => ?_)
      refine lv_iconst (v := 2) hx hb dL_entry_19 (by decide) ?_
      refine W.widen (k := 1) (n := 6) (Nat.le_of_ble_eq_true rfl) (Nat.le_of_ble_eq_true rfl) ?_
      exact W.iret hx hb hr (fun t ht hW => ⟨⟨2, (f, u.2), rfl, ⟨Or.inr (Or.inr (⟨hk2, rfl⟩)), hR2.symm⟩, by show va_P D vwCl _ t.heap; rw [ht]; exact hP⟩, hS.F ht⟩) hS.2.2 dL_entry_20
  · replace hw : R = (r, (0, u)) := hw
    rw [ht] at hB
    have hD := zxL_Da (S2 := u) (f2 := f) hD
    replace hP := zxL_S hP (zxL_Da (S2 := S) (f2 := f) hD) hk1 hB
    refine lv_i2l hx hb dL_entry_8 rfl ?_
    refine va_last (D := D) hx hb hK hP hD hS 0 3 rfl rfl (vp_in_nI (n := 0) (N := 1) (by decide) (by decide)) dL_entry_9 (fun H lc hP hD hS => ?_)
    refine lv_goto (tgt := 21) hx hb dL_entry_10 (by decide) ?_
    refine lv_iconst (v := 0) hx hb dL_entry_21 (by decide) ?_
    refine W.widen (k := 1) (n := 6) (Nat.le_of_ble_eq_true rfl) (Nat.le_of_ble_eq_true rfl) ?_
    exact W.iret hx hb hr (fun t ht hW => ⟨⟨0, (vp_updL f 0 r.toInt64, u), rfl, ⟨Or.inl ⟨by rw [hw], rfl, by rw [hw]; rfl⟩, by rw [hw]⟩, by show va_P D vwCl _ t.heap; rw [ht]; exact hP⟩, hS.F ht⟩) hS.2.2 dL_entry_22

/-! the law: add -/
abbrev zsL_add : List Cond := .codeWith yL_add cL_add 7 (some .int) [(0, 14, 17, 13), (0, 14, 21, 15)] :: wsL_law
theorem zyL_add : yL_add.cls ≠ "java/lang/invoke/MethodHandle" ∧ yL_add.cls ≠ "java/lang/invoke/VarHandle" ∧ (parseMethodDescriptor yL_add.desc).map (fun d => d.parameters.length) = some 6 := by decide +kernel
abbrev rmL_add : Room := { frames := 7, cells := 1, slots := 6, locals := 152 }
set_option maxHeartbeats 4000000 in
set_option maxRecDepth 100000 in
theorem c_L_add (l : Launch) (hlt : l.stackTraces = false) (D : va_G) (cI cZ cT cL : ClassId) (o h : Nat) (hh : Nat → Nat) (aa : Nat → Nat → Nat) (f : Nat → Int64) (S : zx_B) (sz : Nat) (N : Nat) (p1 : Int32) (p2 : Int32) (p3 : Int32) (p4 : Int32) {R : Int32 × (Nat × zx_B)} (hM : f_X2_add N p1 p2 p3 p4 S = some R) (hk : R.2.1 = 0 ∨ R.2.1 = 1 ∨ R.2.1 = 2) : Met l yL_add zsL_add rmL_add (va_Pc [.ref h, .int p1, .int p2, .int p3, .int p4, .ref o] (bY D (zx_ty4 cI cZ cT cL) (zxL cI cT cL o h hh aa f S) sz)) (va_Qi (fun r (u : (Nat → Int64) × zx_B) => ((R.2.1 = 0 ∧ r = 0 ∧ u.1 0 = R.1.toInt64) ∨ (R.2.1 = 1 ∧ r = 1) ∨ (R.2.1 = 2 ∧ r = 2)) ∧ u.2 = R.2.2) (fun u t => va_P D vwCl (zxL cI cT cL o h hh aa u.1 u.2) t.heap) (va_A (zxL cI cT cL o h hh aa f S) sz)) 1 6 (va_A (zxL cI cT cL o h hh aa f S) sz) := by
  refine va_MetW (cc := cL_add) (maxL := 7) (ret := (some .int)) (by decide) rfl ?_
  intro p e s m args below meth c s₁ B hml hv
  obtain ⟨rfl, ⟨⟨hsz, hP, hK, hD0, hN⟩, hX⟩, hNc⟩ := hv
  have hx := B.exec
  have hb := B.bytes
  have hr := B.returns
  have hts : ∀ w ∈ wsL_law, w.before _ s = true := fun w hw => atoms_spec (ws := zsL_add) B.pre w (List.mem_cons_of_mem _ hw)
  have htab := vx_table (x := yL_append) B (atoms_spec (ws := zsL_add) B.pre _ List.mem_cons_self)
  have hown : s.vm.findClass RL = some m.cls := findClass_of_methodNamed B.named
  have hlocks := B.notSynchronized
  subst hsz
  have hD := hD0.self (sz := s.heap.size)
  generalize hAe : va_A (zxL cI cT cL o h hh aa f S) s.heap.size = A at hD hX ⊢
  have hA : ∀ q : Nat, s.heap.size ≤ q → A q := fun q h => by rw [← hAe]; exact Or.inr h
  have hS : va_S A s.heap s.heap [] := va_S.rf
  have hl := lv_entry ([.ref h, .int p1, .int p2, .int p3, .int p4, .ref o]) (n := 7) (Nat.le_of_ble_eq_true rfl)
  rw [lg_entry_eq]
  generalize (lg_sl ([.ref h, .int p1, .int p2, .int p3, .int p4, .ref o]) ++ List.replicate (7 - (lg_sl ([.ref h, .int p1, .int p2, .int p3, .int p4, .ref o])).length) Slot.unset).toArray = ls at hl ⊢
  have hl : lv_has ls 7 [(0, .ref h), (1, .int p1), (2, .int p2), (3, .int p3), (4, .int p4), (5, .ref o)] := hl
  have hK3 : va_K D vwCl (zx_ty cI cZ cT) s := hK.sub [0, 1, 2] rfl
  refine lv_aload hx hb dL_add_0 (lv_at hl 5 rfl) ?_
  refine lv_iconst (v := 0) hx hb dL_add_2 (by decide) ?_
  refine lv_aload_n hx hb dL_add_3 rfl (lv_at hl 0 rfl) ?_
  refine lv_iload_n hx hb dL_add_4 rfl (lv_at hl 1 rfl) ?_
  refine lv_iload_n hx hb dL_add_5 rfl (lv_at hl 2 rfl) ?_
  refine lv_iload_n hx hb dL_add_6 rfl (lv_at hl 3 rfl) ?_
  refine lv_iload hx hb dL_add_7 (lv_at hl 4 rfl) ?_
  have hPc := zxL_P hP
  have hDc := zxL_D hD
  have hF := zx_fW hDc hS hA
  refine vx_calli (vx_runV (As := [.int p1, .int p2, .int p3, .int p4]) (rest := [.int 0, .ref o]) ⟨hx, hb, hml, hown, hts⟩ (c_X2_add l D cI cZ cT hlt h hh aa S _ N p1 p2 p3 p4 hM) (cwV 4 hts (zg_V zw_18_12 zw_18_13 zw_18_14 zw_1_2 zw_18_15) rfl rfl rfl ⟨rfl, zyX2_add⟩ ⟨Nat.le_of_ble_eq_true rfl, Nat.le_of_ble_eq_true rfl⟩) ⟨bX_blind, va_recv hK3 hPc (ci := 2) (q0 := 0) rfl rfl, bX_pre (ws := []) hPc hK3 hDc hN hX hS hF⟩ rfl rfl hl.1 rfl (lv_room (Nat.le_of_ble_eq_true rfl)) dL_add_9 ⟨Nat.le_of_ble_eq_true rfl, Nat.le_of_ble_eq_true rfl⟩) hS (fun q _ h => hF q h) hF (fun q _ h => hF q h) (fun E ce q9 u t H1 lc ht hvm hpx hBX hz1 hk1 hS hce hcv hcl => ?_) (fun r u t H1 lc ht hvm hw hB hz1 hk1 hS => ?_)
  · obtain ⟨hR, hne⟩ := hpx
    obtain ⟨hE, hB⟩ := hBX
    rw [ht] at hB
    replace hP := zxL_S hP hD hk1 hB
    have hR1 : R.2.1 = u.1 := by rw [hR]
    have hR2 : R.2.2 = u.2 := by rw [hR]
    rcases hk with hk0 | hk1 | hk2
    · exact absurd (hR1.symm.trans hk0) hne
    · have hE : E = "java/lang/IllegalArgumentException" := by rw [hE, hR1.symm.trans hk1]; rfl
      subst hE
      refine vx_catch hown [] _ [_] (htab.trans rfl) (fun z hz => absurd hz List.not_mem_nil) (by decide) (by decide) (hts _ zw_4_14) (va_Nw.use rfl (hX.2.2.1 _ (List.mem_of_getElem? (i := 0) rfl))) hce hcv hcl ?_
      refine lv_astore (lv' := [(6, .ref q9), (0, .ref h), (1, .int p1), (2, .int p2), (3, .int p3), (4, .int p4), (5, .ref o)]) hx hb dL_add_17 hl (by decide) rfl (fun ls hl => ?_)
      refine lv_iconst (v := 1) hx hb dL_add_19 (by decide) ?_
      refine W.widen (k := 1) (n := 6) (Nat.le_of_ble_eq_true rfl) (Nat.le_of_ble_eq_true rfl) ?_
      exact W.iret hx hb hr (fun t ht hW => ⟨⟨1, (f, u.2), rfl, ⟨Or.inr (Or.inl ⟨hk1, rfl⟩), hR2.symm⟩, by show va_P D vwCl _ t.heap; rw [ht]; exact hP⟩, hS.F ht⟩) hS.2.2 dL_add_20
    · have hE : E = "java/lang/IllegalStateException" := by rw [hE, hR1.symm.trans hk2]; rfl
      subst hE
      refine vx_catch hown [_] _ [] (htab.trans rfl) (fun z hz => by
        simp only [List.mem_cons, List.not_mem_nil, or_false] at hz
        rcases hz with rfl
        · exact Or.inr ⟨by decide, "java/lang/IllegalArgumentException", hts _ zw_4_14, hNc 2 1 (by decide) (by decide) (by decide)⟩) (by decide) (by decide) (hts _ zw_4_15) (va_Nw.use rfl (hX.2.2.1 _ (List.mem_of_getElem? (i := 1) rfl))) hce hcv hcl ?_
      refine lv_astore (lv' := [(6, .ref q9), (0, .ref h), (1, .int p1), (2, .int p2), (3, .int p3), (4, .int p4), (5, .ref o)]) hx hb dL_add_21 hl (by decide) rfl (fun ls hl => ?_)
      refine lv_iconst (v := 2) hx hb dL_add_23 (by decide) ?_
      refine W.widen (k := 1) (n := 6) (Nat.le_of_ble_eq_true rfl) (Nat.le_of_ble_eq_true rfl) ?_
      exact W.iret hx hb hr (fun t ht hW => ⟨⟨2, (f, u.2), rfl, ⟨Or.inr (Or.inr (⟨hk2, rfl⟩)), hR2.symm⟩, by show va_P D vwCl _ t.heap; rw [ht]; exact hP⟩, hS.F ht⟩) hS.2.2 dL_add_24
  · replace hw : R = (r, (0, u)) := hw
    rw [ht] at hB
    have hD := zxL_Da (S2 := u) (f2 := f) hD
    replace hP := zxL_S hP (zxL_Da (S2 := S) (f2 := f) hD) hk1 hB
    refine lv_i2l hx hb dL_add_12 rfl ?_
    refine va_last (D := D) hx hb hK hP hD hS 0 3 rfl rfl (vp_in_nI (n := 0) (N := 1) (by decide) (by decide)) dL_add_13 (fun H lc hP hD hS => ?_)
    refine lv_goto (tgt := 25) hx hb dL_add_14 (by decide) ?_
    refine lv_iconst (v := 0) hx hb dL_add_25 (by decide) ?_
    refine W.widen (k := 1) (n := 6) (Nat.le_of_ble_eq_true rfl) (Nat.le_of_ble_eq_true rfl) ?_
    exact W.iret hx hb hr (fun t ht hW => ⟨⟨0, (vp_updL f 0 r.toInt64, u), rfl, ⟨Or.inl ⟨by rw [hw], rfl, by rw [hw]; rfl⟩, by rw [hw]⟩, by show va_P D vwCl _ t.heap; rw [ht]; exact hP⟩, hS.F ht⟩) hS.2.2 dL_add_26

/-! the law: addAll -/
abbrev zsL_addAll : List Cond := .codeWith yL_addAll cL_addAll 3 (some .int) [(0, 8, 11, 15)] :: wsL_law
theorem zyL_addAll : yL_addAll.cls ≠ "java/lang/invoke/MethodHandle" ∧ yL_addAll.cls ≠ "java/lang/invoke/VarHandle" ∧ (parseMethodDescriptor yL_addAll.desc).map (fun d => d.parameters.length) = some 2 := by decide +kernel
abbrev rmL_addAll : Room := { frames := 7, cells := 1, slots := 6, locals := 149 }
set_option maxHeartbeats 4000000 in
set_option maxRecDepth 100000 in
theorem c_L_addAll (l : Launch) (hlt : l.stackTraces = false) (D : va_G) (cI cZ cT cL : ClassId) (o h : Nat) (hh : Nat → Nat) (aa : Nat → Nat → Nat) (f : Nat → Int64) (S : zx_B) (sz : Nat) (N : Nat) {R : Int32 × (Nat × zx_B)} (hM : f_X2_addAll N S = some R) (hk : R.2.1 = 0 ∨ R.2.1 = 2) : Met l yL_addAll zsL_addAll rmL_addAll (va_Pc [.ref h, .ref o] (bY D (zx_ty4 cI cZ cT cL) (zxL cI cT cL o h hh aa f S) sz)) (va_Qi (fun r (u : (Nat → Int64) × zx_B) => ((R.2.1 = 0 ∧ r = 0 ∧ u.1 0 = R.1.toInt64) ∨ (R.2.1 = 2 ∧ r = 1)) ∧ u.2 = R.2.2) (fun u t => va_P D vwCl (zxL cI cT cL o h hh aa u.1 u.2) t.heap) (va_A (zxL cI cT cL o h hh aa f S) sz)) 1 6 (va_A (zxL cI cT cL o h hh aa f S) sz) := by
  refine va_MetW (cc := cL_addAll) (maxL := 3) (ret := (some .int)) (by decide) rfl ?_
  intro p e s m args below meth c s₁ B hml hv
  obtain ⟨rfl, ⟨⟨hsz, hP, hK, hD0, hN⟩, hX⟩, hNc⟩ := hv
  have hx := B.exec
  have hb := B.bytes
  have hr := B.returns
  have hts : ∀ w ∈ wsL_law, w.before _ s = true := fun w hw => atoms_spec (ws := zsL_addAll) B.pre w (List.mem_cons_of_mem _ hw)
  have htab := vx_table (x := yL_append) B (atoms_spec (ws := zsL_addAll) B.pre _ List.mem_cons_self)
  have hown : s.vm.findClass RL = some m.cls := findClass_of_methodNamed B.named
  have hlocks := B.notSynchronized
  subst hsz
  have hD := hD0.self (sz := s.heap.size)
  generalize hAe : va_A (zxL cI cT cL o h hh aa f S) s.heap.size = A at hD hX ⊢
  have hA : ∀ q : Nat, s.heap.size ≤ q → A q := fun q h => by rw [← hAe]; exact Or.inr h
  have hS : va_S A s.heap s.heap [] := va_S.rf
  have hl := lv_entry ([.ref h, .ref o]) (n := 3) (Nat.le_of_ble_eq_true rfl)
  rw [lg_entry_eq]
  generalize (lg_sl ([.ref h, .ref o]) ++ List.replicate (3 - (lg_sl ([.ref h, .ref o])).length) Slot.unset).toArray = ls at hl ⊢
  have hl : lv_has ls 3 [(0, .ref h), (1, .ref o)] := hl
  have hK3 : va_K D vwCl (zx_ty cI cZ cT) s := hK.sub [0, 1, 2] rfl
  refine lv_aload_n hx hb dL_addAll_0 rfl (lv_at hl 1 rfl) ?_
  refine lv_iconst (v := 0) hx hb dL_addAll_1 (by decide) ?_
  refine lv_aload_n hx hb dL_addAll_2 rfl (lv_at hl 0 rfl) ?_
  have hPc := zxL_P hP
  have hDc := zxL_D hD
  have hF := zx_fW hDc hS hA
  refine vx_calli (vx_runV (As := []) (rest := [.int 0, .ref o]) ⟨hx, hb, hml, hown, hts⟩ (c_X2_addAll l D cI cZ cT hlt h hh aa S _ N hM) (cwV 0 hts (zg_V zw_23_10 zw_23_11 zw_23_12 zw_1_2 zw_23_13) rfl rfl rfl ⟨rfl, zyX2_addAll⟩ ⟨Nat.le_of_ble_eq_true rfl, Nat.le_of_ble_eq_true rfl⟩) ⟨bX_blind, va_recv hK3 hPc (ci := 2) (q0 := 0) rfl rfl, bX_pre (ws := []) hPc hK3 hDc hN hX hS hF⟩ rfl rfl hl.1 rfl (lv_room (Nat.le_of_ble_eq_true rfl)) dL_addAll_3 ⟨Nat.le_of_ble_eq_true rfl, Nat.le_of_ble_eq_true rfl⟩) hS (fun q _ h => hF q h) hF (fun q _ h => hF q h) (fun E ce q9 u t H1 lc ht hvm hpx hBX hz1 hk1 hS hce hcv hcl => ?_) (fun r u t H1 lc ht hvm hw hB hz1 hk1 hS => ?_)
  · obtain ⟨hR, hne⟩ := hpx
    obtain ⟨hE, hB⟩ := hBX
    rw [ht] at hB
    replace hP := zxL_S hP hD hk1 hB
    have hR1 : R.2.1 = u.1 := by rw [hR]
    have hR2 : R.2.2 = u.2 := by rw [hR]
    rcases hk with hk0 | hk1
    · exact absurd (hR1.symm.trans hk0) hne
    · have hE : E = "java/lang/IllegalStateException" := by rw [hE, hR1.symm.trans hk1]; rfl
      subst hE
      refine vx_catch hown [] _ [] (htab.trans rfl) (fun z hz => absurd hz List.not_mem_nil) (by decide) (by decide) (hts _ zw_4_15) (va_Nw.use rfl (hX.2.2.1 _ (List.mem_of_getElem? (i := 1) rfl))) hce hcv hcl ?_
      refine lv_astore_n (lv' := [(2, .ref q9), (0, .ref h), (1, .ref o)]) hx hb dL_addAll_11 rfl hl (by decide) rfl (fun ls hl => ?_)
      refine lv_iconst (v := 1) hx hb dL_addAll_12 (by decide) ?_
      refine W.widen (k := 1) (n := 6) (Nat.le_of_ble_eq_true rfl) (Nat.le_of_ble_eq_true rfl) ?_
      exact W.iret hx hb hr (fun t ht hW => ⟨⟨1, (f, u.2), rfl, ⟨Or.inr (⟨hk1, rfl⟩), hR2.symm⟩, by show va_P D vwCl _ t.heap; rw [ht]; exact hP⟩, hS.F ht⟩) hS.2.2 dL_addAll_13
  · replace hw : R = (r, (0, u)) := hw
    rw [ht] at hB
    have hD := zxL_Da (S2 := u) (f2 := f) hD
    replace hP := zxL_S hP (zxL_Da (S2 := S) (f2 := f) hD) hk1 hB
    refine lv_i2l hx hb dL_addAll_6 rfl ?_
    refine va_last (D := D) hx hb hK hP hD hS 0 3 rfl rfl (vp_in_nI (n := 0) (N := 1) (by decide) (by decide)) dL_addAll_7 (fun H lc hP hD hS => ?_)
    refine lv_goto (tgt := 14) hx hb dL_addAll_8 (by decide) ?_
    refine lv_iconst (v := 0) hx hb dL_addAll_14 (by decide) ?_
    refine W.widen (k := 1) (n := 6) (Nat.le_of_ble_eq_true rfl) (Nat.le_of_ble_eq_true rfl) ?_
    exact W.iret hx hb hr (fun t ht hW => ⟨⟨0, (vp_updL f 0 r.toInt64, u), rfl, ⟨Or.inl ⟨by rw [hw], rfl, by rw [hw]; rfl⟩, by rw [hw]⟩, by show va_P D vwCl _ t.heap; rw [ht]; exact hP⟩, hS.F ht⟩) hS.2.2 dL_addAll_15

/-! the law: remove -/
abbrev zsL_remove : List Cond := .codeWith yL_remove cL_remove 4 (some .int) [(0, 9, 12, 24)] :: wsL_law
theorem zyL_remove : yL_remove.cls ≠ "java/lang/invoke/MethodHandle" ∧ yL_remove.cls ≠ "java/lang/invoke/VarHandle" ∧ (parseMethodDescriptor yL_remove.desc).map (fun d => d.parameters.length) = some 3 := by decide +kernel
abbrev rmL_remove : Room := { frames := 7, cells := 1, slots := 6, locals := 173 }
set_option maxHeartbeats 4000000 in
set_option maxRecDepth 100000 in
theorem c_L_remove (l : Launch) (hlt : l.stackTraces = false) (D : va_G) (cI cZ cT cL : ClassId) (o h : Nat) (hh : Nat → Nat) (aa : Nat → Nat → Nat) (f : Nat → Int64) (S : zx_B) (sz : Nat) (N : Nat) (p1 : Int32) {R : Int32 × (Nat × zx_B)} (hM : f_X2_remove N p1 S = some R) (hk : R.2.1 = 0 ∨ R.2.1 = 3) : Met l yL_remove zsL_remove rmL_remove (va_Pc [.ref h, .int p1, .ref o] (bY D (zx_ty4 cI cZ cT cL) (zxL cI cT cL o h hh aa f S) sz)) (va_Qi (fun r (u : (Nat → Int64) × zx_B) => ((R.2.1 = 0 ∧ r = 0 ∧ u.1 0 = R.1.toInt64) ∨ (R.2.1 = 3 ∧ r = 1)) ∧ u.2 = R.2.2) (fun u t => va_P D vwCl (zxL cI cT cL o h hh aa u.1 u.2) t.heap) (va_A (zxL cI cT cL o h hh aa f S) sz)) 1 6 (va_A (zxL cI cT cL o h hh aa f S) sz) := by
  refine va_MetW (cc := cL_remove) (maxL := 4) (ret := (some .int)) (by decide) rfl ?_
  intro p e s m args below meth c s₁ B hml hv
  obtain ⟨rfl, ⟨⟨hsz, hP, hK, hD0, hN⟩, hX⟩, hNc⟩ := hv
  have hx := B.exec
  have hb := B.bytes
  have hr := B.returns
  have hts : ∀ w ∈ wsL_law, w.before _ s = true := fun w hw => atoms_spec (ws := zsL_remove) B.pre w (List.mem_cons_of_mem _ hw)
  have htab := vx_table (x := yL_append) B (atoms_spec (ws := zsL_remove) B.pre _ List.mem_cons_self)
  have hown : s.vm.findClass RL = some m.cls := findClass_of_methodNamed B.named
  have hlocks := B.notSynchronized
  subst hsz
  have hD := hD0.self (sz := s.heap.size)
  generalize hAe : va_A (zxL cI cT cL o h hh aa f S) s.heap.size = A at hD hX ⊢
  have hA : ∀ q : Nat, s.heap.size ≤ q → A q := fun q h => by rw [← hAe]; exact Or.inr h
  have hS : va_S A s.heap s.heap [] := va_S.rf
  have hl := lv_entry ([.ref h, .int p1, .ref o]) (n := 4) (Nat.le_of_ble_eq_true rfl)
  rw [lg_entry_eq]
  generalize (lg_sl ([.ref h, .int p1, .ref o]) ++ List.replicate (4 - (lg_sl ([.ref h, .int p1, .ref o])).length) Slot.unset).toArray = ls at hl ⊢
  have hl : lv_has ls 4 [(0, .ref h), (1, .int p1), (2, .ref o)] := hl
  have hK3 : va_K D vwCl (zx_ty cI cZ cT) s := hK.sub [0, 1, 2] rfl
  refine lv_aload_n hx hb dL_remove_0 rfl (lv_at hl 2 rfl) ?_
  refine lv_iconst (v := 0) hx hb dL_remove_1 (by decide) ?_
  refine lv_aload_n hx hb dL_remove_2 rfl (lv_at hl 0 rfl) ?_
  refine lv_iload_n hx hb dL_remove_3 rfl (lv_at hl 1 rfl) ?_
  have hPc := zxL_P hP
  have hDc := zxL_D hD
  have hF := zx_fW hDc hS hA
  refine vx_calli (vx_runV (As := [.int p1]) (rest := [.int 0, .ref o]) ⟨hx, hb, hml, hown, hts⟩ (c_X2_remove l D cI cZ cT hlt h hh aa S _ N p1 hM) (cwV 1 hts (zg_V zw_24_1 zw_24_2 zw_24_3 zw_1_2 zw_24_4) rfl rfl rfl ⟨rfl, zyX2_remove⟩ ⟨Nat.le_of_ble_eq_true rfl, Nat.le_of_ble_eq_true rfl⟩) ⟨bX_blind, va_recv hK3 hPc (ci := 2) (q0 := 0) rfl rfl, bX_pre (ws := []) hPc hK3 hDc hN hX hS hF⟩ rfl rfl hl.1 rfl (lv_room (Nat.le_of_ble_eq_true rfl)) dL_remove_4 ⟨Nat.le_of_ble_eq_true rfl, Nat.le_of_ble_eq_true rfl⟩) hS (fun q _ h => hF q h) hF (fun q _ h => hF q h) (fun E ce q9 u t H1 lc ht hvm hpx hBX hz1 hk1 hS hce hcv hcl => ?_) (fun r u t H1 lc ht hvm hw hB hz1 hk1 hS => ?_)
  · obtain ⟨hR, hne⟩ := hpx
    obtain ⟨hE, hB⟩ := hBX
    rw [ht] at hB
    replace hP := zxL_S hP hD hk1 hB
    have hR1 : R.2.1 = u.1 := by rw [hR]
    have hR2 : R.2.2 = u.2 := by rw [hR]
    rcases hk with hk0 | hk1
    · exact absurd (hR1.symm.trans hk0) hne
    · have hE : E = "java/lang/IndexOutOfBoundsException" := by rw [hE, hR1.symm.trans hk1]; rfl
      subst hE
      refine vx_catch hown [] _ [] (htab.trans rfl) (fun z hz => absurd hz List.not_mem_nil) (by decide) (by decide) (hts _ zw_15_10) (va_Nw.use rfl (hX.2.2.1 _ (List.mem_of_getElem? (i := 2) rfl))) hce hcv hcl ?_
      refine lv_astore_n (lv' := [(3, .ref q9), (0, .ref h), (1, .int p1), (2, .ref o)]) hx hb dL_remove_12 rfl hl (by decide) rfl (fun ls hl => ?_)
      refine lv_iconst (v := 1) hx hb dL_remove_13 (by decide) ?_
      refine W.widen (k := 1) (n := 6) (Nat.le_of_ble_eq_true rfl) (Nat.le_of_ble_eq_true rfl) ?_
      exact W.iret hx hb hr (fun t ht hW => ⟨⟨1, (f, u.2), rfl, ⟨Or.inr (⟨hk1, rfl⟩), hR2.symm⟩, by show va_P D vwCl _ t.heap; rw [ht]; exact hP⟩, hS.F ht⟩) hS.2.2 dL_remove_14
  · replace hw : R = (r, (0, u)) := hw
    rw [ht] at hB
    have hD := zxL_Da (S2 := u) (f2 := f) hD
    replace hP := zxL_S hP (zxL_Da (S2 := S) (f2 := f) hD) hk1 hB
    refine lv_i2l hx hb dL_remove_7 rfl ?_
    refine va_last (D := D) hx hb hK hP hD hS 0 3 rfl rfl (vp_in_nI (n := 0) (N := 1) (by decide) (by decide)) dL_remove_8 (fun H lc hP hD hS => ?_)
    refine lv_goto (tgt := 15) hx hb dL_remove_9 (by decide) ?_
    refine lv_iconst (v := 0) hx hb dL_remove_15 (by decide) ?_
    refine W.widen (k := 1) (n := 6) (Nat.le_of_ble_eq_true rfl) (Nat.le_of_ble_eq_true rfl) ?_
    exact W.iret hx hb hr (fun t ht hW => ⟨⟨0, (vp_updL f 0 r.toInt64, u), rfl, ⟨Or.inl ⟨by rw [hw], rfl, by rw [hw]; rfl⟩, by rw [hw]⟩, by show va_P D vwCl _ t.heap; rw [ht]; exact hP⟩, hS.F ht⟩) hS.2.2 dL_remove_16

/-! the law: move -/
abbrev zsL_move : List Cond := .codeWith yL_move cL_move 6 (some .int) [(0, 12, 15, 24), (0, 12, 19, 13), (0, 12, 23, 15)] :: wsL_law
theorem zyL_move : yL_move.cls ≠ "java/lang/invoke/MethodHandle" ∧ yL_move.cls ≠ "java/lang/invoke/VarHandle" ∧ (parseMethodDescriptor yL_move.desc).map (fun d => d.parameters.length) = some 5 := by decide +kernel
abbrev rmL_move : Room := { frames := 7, cells := 1, slots := 6, locals := 175 }
set_option maxHeartbeats 4000000 in
set_option maxRecDepth 100000 in
theorem c_L_move (l : Launch) (hlt : l.stackTraces = false) (D : va_G) (cI cZ cT cL : ClassId) (o h : Nat) (hh : Nat → Nat) (aa : Nat → Nat → Nat) (f : Nat → Int64) (S : zx_B) (sz : Nat) (N : Nat) (p1 : Int32) (p2 : Int32) (p3 : Int32) {R : Int32 × (Nat × zx_B)} (hM : f_X2_move N p1 p2 p3 S = some R) (hk : R.2.1 = 0 ∨ R.2.1 = 3 ∨ R.2.1 = 1 ∨ R.2.1 = 2) : Met l yL_move zsL_move rmL_move (va_Pc [.ref h, .int p1, .int p2, .int p3, .ref o] (bY D (zx_ty4 cI cZ cT cL) (zxL cI cT cL o h hh aa f S) sz)) (va_Qi (fun r (u : (Nat → Int64) × zx_B) => ((R.2.1 = 0 ∧ r = 0 ∧ u.1 0 = R.1.toInt64) ∨ (R.2.1 = 3 ∧ r = 1) ∨ (R.2.1 = 1 ∧ r = 2) ∨ (R.2.1 = 2 ∧ r = 3)) ∧ u.2 = R.2.2) (fun u t => va_P D vwCl (zxL cI cT cL o h hh aa u.1 u.2) t.heap) (va_A (zxL cI cT cL o h hh aa f S) sz)) 1 6 (va_A (zxL cI cT cL o h hh aa f S) sz) := by
  refine va_MetW (cc := cL_move) (maxL := 6) (ret := (some .int)) (by decide) rfl ?_
  intro p e s m args below meth c s₁ B hml hv
  obtain ⟨rfl, ⟨⟨hsz, hP, hK, hD0, hN⟩, hX⟩, hNc⟩ := hv
  have hx := B.exec
  have hb := B.bytes
  have hr := B.returns
  have hts : ∀ w ∈ wsL_law, w.before _ s = true := fun w hw => atoms_spec (ws := zsL_move) B.pre w (List.mem_cons_of_mem _ hw)
  have htab := vx_table (x := yL_append) B (atoms_spec (ws := zsL_move) B.pre _ List.mem_cons_self)
  have hown : s.vm.findClass RL = some m.cls := findClass_of_methodNamed B.named
  have hlocks := B.notSynchronized
  subst hsz
  have hD := hD0.self (sz := s.heap.size)
  generalize hAe : va_A (zxL cI cT cL o h hh aa f S) s.heap.size = A at hD hX ⊢
  have hA : ∀ q : Nat, s.heap.size ≤ q → A q := fun q h => by rw [← hAe]; exact Or.inr h
  have hS : va_S A s.heap s.heap [] := va_S.rf
  have hl := lv_entry ([.ref h, .int p1, .int p2, .int p3, .ref o]) (n := 6) (Nat.le_of_ble_eq_true rfl)
  rw [lg_entry_eq]
  generalize (lg_sl ([.ref h, .int p1, .int p2, .int p3, .ref o]) ++ List.replicate (6 - (lg_sl ([.ref h, .int p1, .int p2, .int p3, .ref o])).length) Slot.unset).toArray = ls at hl ⊢
  have hl : lv_has ls 6 [(0, .ref h), (1, .int p1), (2, .int p2), (3, .int p3), (4, .ref o)] := hl
  have hK3 : va_K D vwCl (zx_ty cI cZ cT) s := hK.sub [0, 1, 2] rfl
  refine lv_aload hx hb dL_move_0 (lv_at hl 4 rfl) ?_
  refine lv_iconst (v := 0) hx hb dL_move_2 (by decide) ?_
  refine lv_aload_n hx hb dL_move_3 rfl (lv_at hl 0 rfl) ?_
  refine lv_iload_n hx hb dL_move_4 rfl (lv_at hl 1 rfl) ?_
  refine lv_iload_n hx hb dL_move_5 rfl (lv_at hl 2 rfl) ?_
  refine lv_iload_n hx hb dL_move_6 rfl (lv_at hl 3 rfl) ?_
  have hPc := zxL_P hP
  have hDc := zxL_D hD
  have hF := zx_fW hDc hS hA
  refine vx_calli (vx_runV (As := [.int p1, .int p2, .int p3]) (rest := [.int 0, .ref o]) ⟨hx, hb, hml, hown, hts⟩ (c_X2_move l D cI cZ cT hlt h hh aa S _ N p1 p2 p3 hM) (cwV 3 hts (zg_V zw_25_8 zw_25_9 zw_25_10 zw_1_2 zw_25_11) rfl rfl rfl ⟨rfl, zyX2_move⟩ ⟨Nat.le_of_ble_eq_true rfl, Nat.le_of_ble_eq_true rfl⟩) ⟨bX_blind, va_recv hK3 hPc (ci := 2) (q0 := 0) rfl rfl, bX_pre (ws := []) hPc hK3 hDc hN hX hS hF⟩ rfl rfl hl.1 rfl (lv_room (Nat.le_of_ble_eq_true rfl)) dL_move_7 ⟨Nat.le_of_ble_eq_true rfl, Nat.le_of_ble_eq_true rfl⟩) hS (fun q _ h => hF q h) hF (fun q _ h => hF q h) (fun E ce q9 u t H1 lc ht hvm hpx hBX hz1 hk1 hS hce hcv hcl => ?_) (fun r u t H1 lc ht hvm hw hB hz1 hk1 hS => ?_)
  · obtain ⟨hR, hne⟩ := hpx
    obtain ⟨hE, hB⟩ := hBX
    rw [ht] at hB
    replace hP := zxL_S hP hD hk1 hB
    have hR1 : R.2.1 = u.1 := by rw [hR]
    have hR2 : R.2.2 = u.2 := by rw [hR]
    rcases hk with hk0 | hk1 | hk2 | hk3
    · exact absurd (hR1.symm.trans hk0) hne
    · have hE : E = "java/lang/IndexOutOfBoundsException" := by rw [hE, hR1.symm.trans hk1]; rfl
      subst hE
      refine vx_catch hown [] _ [_, _] (htab.trans rfl) (fun z hz => absurd hz List.not_mem_nil) (by decide) (by decide) (hts _ zw_15_10) (va_Nw.use rfl (hX.2.2.1 _ (List.mem_of_getElem? (i := 2) rfl))) hce hcv hcl ?_
      refine lv_astore (lv' := [(5, .ref q9), (0, .ref h), (1, .int p1), (2, .int p2), (3, .int p3), (4, .ref o)]) hx hb dL_move_15 hl (by decide) rfl (fun ls hl => ?_)
      refine lv_iconst (v := 1) hx hb dL_move_17 (by decide) ?_
      refine W.widen (k := 1) (n := 6) (Nat.le_of_ble_eq_true rfl) (Nat.le_of_ble_eq_true rfl) ?_
      exact W.iret hx hb hr (fun t ht hW => ⟨⟨1, (f, u.2), rfl, ⟨Or.inr (Or.inl ⟨hk1, rfl⟩), hR2.symm⟩, by show va_P D vwCl _ t.heap; rw [ht]; exact hP⟩, hS.F ht⟩) hS.2.2 dL_move_18
    · have hE : E = "java/lang/IllegalArgumentException" := by rw [hE, hR1.symm.trans hk2]; rfl
      subst hE
      refine vx_catch hown [_] _ [_] (htab.trans rfl) (fun z hz => by
        simp only [List.mem_cons, List.not_mem_nil, or_false] at hz
        rcases hz with rfl
        · exact Or.inr ⟨by decide, "java/lang/IndexOutOfBoundsException", hts _ zw_15_10, hNc 1 3 (by decide) (by decide) (by decide)⟩) (by decide) (by decide) (hts _ zw_4_14) (va_Nw.use rfl (hX.2.2.1 _ (List.mem_of_getElem? (i := 0) rfl))) hce hcv hcl ?_
      refine lv_astore (lv' := [(5, .ref q9), (0, .ref h), (1, .int p1), (2, .int p2), (3, .int p3), (4, .ref o)]) hx hb dL_move_19 hl (by decide) rfl (fun ls hl => ?_)
      refine lv_iconst (v := 2) hx hb dL_move_21 (by decide) ?_
      refine W.widen (k := 1) (n := 6) (Nat.le_of_ble_eq_true rfl) (Nat.le_of_ble_eq_true rfl) ?_
      exact W.iret hx hb hr (fun t ht hW => ⟨⟨2, (f, u.2), rfl, ⟨Or.inr (Or.inr (Or.inl ⟨hk2, rfl⟩)), hR2.symm⟩, by show va_P D vwCl _ t.heap; rw [ht]; exact hP⟩, hS.F ht⟩) hS.2.2 dL_move_22
    · have hE : E = "java/lang/IllegalStateException" := by rw [hE, hR1.symm.trans hk3]; rfl
      subst hE
      refine vx_catch hown [_, _] _ [] (htab.trans rfl) (fun z hz => by
        simp only [List.mem_cons, List.not_mem_nil, or_false] at hz
        rcases hz with rfl | rfl
        · exact Or.inr ⟨by decide, "java/lang/IndexOutOfBoundsException", hts _ zw_15_10, hNc 2 3 (by decide) (by decide) (by decide)⟩
        · exact Or.inr ⟨by decide, "java/lang/IllegalArgumentException", hts _ zw_4_14, hNc 2 1 (by decide) (by decide) (by decide)⟩) (by decide) (by decide) (hts _ zw_4_15) (va_Nw.use rfl (hX.2.2.1 _ (List.mem_of_getElem? (i := 1) rfl))) hce hcv hcl ?_
      refine lv_astore (lv' := [(5, .ref q9), (0, .ref h), (1, .int p1), (2, .int p2), (3, .int p3), (4, .ref o)]) hx hb dL_move_23 hl (by decide) rfl (fun ls hl => ?_)
      refine lv_iconst (v := 3) hx hb dL_move_25 (by decide) ?_
      refine W.widen (k := 1) (n := 6) (Nat.le_of_ble_eq_true rfl) (Nat.le_of_ble_eq_true rfl) ?_
      exact W.iret hx hb hr (fun t ht hW => ⟨⟨3, (f, u.2), rfl, ⟨Or.inr (Or.inr (Or.inr (⟨hk3, rfl⟩))), hR2.symm⟩, by show va_P D vwCl _ t.heap; rw [ht]; exact hP⟩, hS.F ht⟩) hS.2.2 dL_move_26
  · replace hw : R = (r, (0, u)) := hw
    rw [ht] at hB
    have hD := zxL_Da (S2 := u) (f2 := f) hD
    replace hP := zxL_S hP (zxL_Da (S2 := S) (f2 := f) hD) hk1 hB
    refine lv_i2l hx hb dL_move_10 rfl ?_
    refine va_last (D := D) hx hb hK hP hD hS 0 3 rfl rfl (vp_in_nI (n := 0) (N := 1) (by decide) (by decide)) dL_move_11 (fun H lc hP hD hS => ?_)
    refine lv_goto (tgt := 27) hx hb dL_move_12 (by decide) ?_
    refine lv_iconst (v := 0) hx hb dL_move_27 (by decide) ?_
    refine W.widen (k := 1) (n := 6) (Nat.le_of_ble_eq_true rfl) (Nat.le_of_ble_eq_true rfl) ?_
    exact W.iret hx hb hr (fun t ht hW => ⟨⟨0, (vp_updL f 0 r.toInt64, u), rfl, ⟨Or.inl ⟨by rw [hw], rfl, by rw [hw]; rfl⟩, by rw [hw]⟩, by show va_P D vwCl _ t.heap; rw [ht]; exact hP⟩, hS.F ht⟩) hS.2.2 dL_move_28

/-! the law: undo -/
abbrev zsL_undo : List Cond := .codeWith yL_undo cL_undo 3 (some .int) [(0, 8, 11, 15)] :: wsL_law
theorem zyL_undo : yL_undo.cls ≠ "java/lang/invoke/MethodHandle" ∧ yL_undo.cls ≠ "java/lang/invoke/VarHandle" ∧ (parseMethodDescriptor yL_undo.desc).map (fun d => d.parameters.length) = some 2 := by decide +kernel
abbrev rmL_undo : Room := { frames := 7, cells := 1, slots := 6, locals := 102 }
set_option maxHeartbeats 4000000 in
set_option maxRecDepth 100000 in
theorem c_L_undo (l : Launch) (hlt : l.stackTraces = false) (D : va_G) (cI cZ cT cL : ClassId) (o h : Nat) (hh : Nat → Nat) (aa : Nat → Nat → Nat) (f : Nat → Int64) (S : zx_B) (sz : Nat) (N : Nat) {R : Int32 × (Nat × zx_B)} (hM : f_X2_undo N S = some R) (hk : R.2.1 = 0 ∨ R.2.1 = 2) : Met l yL_undo zsL_undo rmL_undo (va_Pc [.ref h, .ref o] (bY D (zx_ty4 cI cZ cT cL) (zxL cI cT cL o h hh aa f S) sz)) (va_Qi (fun r (u : (Nat → Int64) × zx_B) => ((R.2.1 = 0 ∧ r = 0 ∧ u.1 0 = R.1.toInt64) ∨ (R.2.1 = 2 ∧ r = 1)) ∧ u.2 = R.2.2) (fun u t => va_P D vwCl (zxL cI cT cL o h hh aa u.1 u.2) t.heap) (va_A (zxL cI cT cL o h hh aa f S) sz)) 1 6 (va_A (zxL cI cT cL o h hh aa f S) sz) := by
  refine va_MetW (cc := cL_undo) (maxL := 3) (ret := (some .int)) (by decide) rfl ?_
  intro p e s m args below meth c s₁ B hml hv
  obtain ⟨rfl, ⟨⟨hsz, hP, hK, hD0, hN⟩, hX⟩, hNc⟩ := hv
  have hx := B.exec
  have hb := B.bytes
  have hr := B.returns
  have hts : ∀ w ∈ wsL_law, w.before _ s = true := fun w hw => atoms_spec (ws := zsL_undo) B.pre w (List.mem_cons_of_mem _ hw)
  have htab := vx_table (x := yL_append) B (atoms_spec (ws := zsL_undo) B.pre _ List.mem_cons_self)
  have hown : s.vm.findClass RL = some m.cls := findClass_of_methodNamed B.named
  have hlocks := B.notSynchronized
  subst hsz
  have hD := hD0.self (sz := s.heap.size)
  generalize hAe : va_A (zxL cI cT cL o h hh aa f S) s.heap.size = A at hD hX ⊢
  have hA : ∀ q : Nat, s.heap.size ≤ q → A q := fun q h => by rw [← hAe]; exact Or.inr h
  have hS : va_S A s.heap s.heap [] := va_S.rf
  have hl := lv_entry ([.ref h, .ref o]) (n := 3) (Nat.le_of_ble_eq_true rfl)
  rw [lg_entry_eq]
  generalize (lg_sl ([.ref h, .ref o]) ++ List.replicate (3 - (lg_sl ([.ref h, .ref o])).length) Slot.unset).toArray = ls at hl ⊢
  have hl : lv_has ls 3 [(0, .ref h), (1, .ref o)] := hl
  have hK3 : va_K D vwCl (zx_ty cI cZ cT) s := hK.sub [0, 1, 2] rfl
  refine lv_aload_n hx hb dL_undo_0 rfl (lv_at hl 1 rfl) ?_
  refine lv_iconst (v := 0) hx hb dL_undo_1 (by decide) ?_
  refine lv_aload_n hx hb dL_undo_2 rfl (lv_at hl 0 rfl) ?_
  have hPc := zxL_P hP
  have hDc := zxL_D hD
  have hF := zx_fW hDc hS hA
  refine vx_calli (vx_runV (As := []) (rest := [.int 0, .ref o]) ⟨hx, hb, hml, hown, hts⟩ (c_X2_undo l D cI cZ cT hlt h hh aa S _ N hM) (cwV 0 hts (zg_V zw_26_13 zw_26_14 zw_26_15 zw_1_2 zw_26_16) rfl rfl rfl ⟨rfl, zyX2_undo⟩ ⟨Nat.le_of_ble_eq_true rfl, Nat.le_of_ble_eq_true rfl⟩) ⟨bX_blind, va_recv hK3 hPc (ci := 2) (q0 := 0) rfl rfl, bX_pre (ws := []) hPc hK3 hDc hN hX hS hF⟩ rfl rfl hl.1 rfl (lv_room (Nat.le_of_ble_eq_true rfl)) dL_undo_3 ⟨Nat.le_of_ble_eq_true rfl, Nat.le_of_ble_eq_true rfl⟩) hS (fun q _ h => hF q h) hF (fun q _ h => hF q h) (fun E ce q9 u t H1 lc ht hvm hpx hBX hz1 hk1 hS hce hcv hcl => ?_) (fun r u t H1 lc ht hvm hw hB hz1 hk1 hS => ?_)
  · obtain ⟨hR, hne⟩ := hpx
    obtain ⟨hE, hB⟩ := hBX
    rw [ht] at hB
    replace hP := zxL_S hP hD hk1 hB
    have hR1 : R.2.1 = u.1 := by rw [hR]
    have hR2 : R.2.2 = u.2 := by rw [hR]
    rcases hk with hk0 | hk1
    · exact absurd (hR1.symm.trans hk0) hne
    · have hE : E = "java/lang/IllegalStateException" := by rw [hE, hR1.symm.trans hk1]; rfl
      subst hE
      refine vx_catch hown [] _ [] (htab.trans rfl) (fun z hz => absurd hz List.not_mem_nil) (by decide) (by decide) (hts _ zw_4_15) (va_Nw.use rfl (hX.2.2.1 _ (List.mem_of_getElem? (i := 1) rfl))) hce hcv hcl ?_
      refine lv_astore_n (lv' := [(2, .ref q9), (0, .ref h), (1, .ref o)]) hx hb dL_undo_11 rfl hl (by decide) rfl (fun ls hl => ?_)
      refine lv_iconst (v := 1) hx hb dL_undo_12 (by decide) ?_
      refine W.widen (k := 1) (n := 6) (Nat.le_of_ble_eq_true rfl) (Nat.le_of_ble_eq_true rfl) ?_
      exact W.iret hx hb hr (fun t ht hW => ⟨⟨1, (f, u.2), rfl, ⟨Or.inr (⟨hk1, rfl⟩), hR2.symm⟩, by show va_P D vwCl _ t.heap; rw [ht]; exact hP⟩, hS.F ht⟩) hS.2.2 dL_undo_13
  · replace hw : R = (r, (0, u)) := hw
    rw [ht] at hB
    have hD := zxL_Da (S2 := u) (f2 := f) hD
    replace hP := zxL_S hP (zxL_Da (S2 := S) (f2 := f) hD) hk1 hB
    refine lv_i2l hx hb dL_undo_6 rfl ?_
    refine va_last (D := D) hx hb hK hP hD hS 0 3 rfl rfl (vp_in_nI (n := 0) (N := 1) (by decide) (by decide)) dL_undo_7 (fun H lc hP hD hS => ?_)
    refine lv_goto (tgt := 14) hx hb dL_undo_8 (by decide) ?_
    refine lv_iconst (v := 0) hx hb dL_undo_14 (by decide) ?_
    refine W.widen (k := 1) (n := 6) (Nat.le_of_ble_eq_true rfl) (Nat.le_of_ble_eq_true rfl) ?_
    exact W.iret hx hb hr (fun t ht hW => ⟨⟨0, (vp_updL f 0 r.toInt64, u), rfl, ⟨Or.inl ⟨by rw [hw], rfl, by rw [hw]; rfl⟩, by rw [hw]⟩, by show va_P D vwCl _ t.heap; rw [ht]; exact hP⟩, hS.F ht⟩) hS.2.2 dL_undo_15

/-! the law: window -/
abbrev zsL_window : List Cond := .codeWith yL_window cL_window 7 (some .int) [(0, 14, 17, 13)] :: wsL_law
theorem zyL_window : yL_window.cls ≠ "java/lang/invoke/MethodHandle" ∧ yL_window.cls ≠ "java/lang/invoke/VarHandle" ∧ (parseMethodDescriptor yL_window.desc).map (fun d => d.parameters.length) = some 6 := by decide +kernel
abbrev rmL_window : Room := { frames := 7, cells := 1, slots := 6, locals := 108 }
set_option maxHeartbeats 4000000 in
set_option maxRecDepth 100000 in
theorem c_L_window (l : Launch) (hlt : l.stackTraces = false) (D : va_G) (cI cZ cT cL : ClassId) (o h : Nat) (hh : Nat → Nat) (aa : Nat → Nat → Nat) (f : Nat → Int64) (S : zx_B) (sz : Nat) (N : Nat) (p1 : Int32) (p2 : Int32) (p3 : Int32) (p4 : Int32) {R : Int32 × (Nat × zx_B)} (hM : f_X2_window N p1 p2 p3 p4 S = some R) (hk : R.2.1 = 0 ∨ R.2.1 = 1) : Met l yL_window zsL_window rmL_window (va_Pc [.ref h, .int p1, .int p2, .int p3, .int p4, .ref o] (bY D (zx_ty4 cI cZ cT cL) (zxL cI cT cL o h hh aa f S) sz)) (va_Qi (fun r (u : (Nat → Int64) × zx_B) => ((R.2.1 = 0 ∧ r = 0 ∧ u.1 0 = R.1.toInt64) ∨ (R.2.1 = 1 ∧ r = 1)) ∧ u.2 = R.2.2) (fun u t => va_P D vwCl (zxL cI cT cL o h hh aa u.1 u.2) t.heap) (va_A (zxL cI cT cL o h hh aa f S) sz)) 1 6 (va_A (zxL cI cT cL o h hh aa f S) sz) := by
  refine va_MetW (cc := cL_window) (maxL := 7) (ret := (some .int)) (by decide) rfl ?_
  intro p e s m args below meth c s₁ B hml hv
  obtain ⟨rfl, ⟨⟨hsz, hP, hK, hD0, hN⟩, hX⟩, hNc⟩ := hv
  have hx := B.exec
  have hb := B.bytes
  have hr := B.returns
  have hts : ∀ w ∈ wsL_law, w.before _ s = true := fun w hw => atoms_spec (ws := zsL_window) B.pre w (List.mem_cons_of_mem _ hw)
  have htab := vx_table (x := yL_append) B (atoms_spec (ws := zsL_window) B.pre _ List.mem_cons_self)
  have hown : s.vm.findClass RL = some m.cls := findClass_of_methodNamed B.named
  have hlocks := B.notSynchronized
  subst hsz
  have hD := hD0.self (sz := s.heap.size)
  generalize hAe : va_A (zxL cI cT cL o h hh aa f S) s.heap.size = A at hD hX ⊢
  have hA : ∀ q : Nat, s.heap.size ≤ q → A q := fun q h => by rw [← hAe]; exact Or.inr h
  have hS : va_S A s.heap s.heap [] := va_S.rf
  have hl := lv_entry ([.ref h, .int p1, .int p2, .int p3, .int p4, .ref o]) (n := 7) (Nat.le_of_ble_eq_true rfl)
  rw [lg_entry_eq]
  generalize (lg_sl ([.ref h, .int p1, .int p2, .int p3, .int p4, .ref o]) ++ List.replicate (7 - (lg_sl ([.ref h, .int p1, .int p2, .int p3, .int p4, .ref o])).length) Slot.unset).toArray = ls at hl ⊢
  have hl : lv_has ls 7 [(0, .ref h), (1, .int p1), (2, .int p2), (3, .int p3), (4, .int p4), (5, .ref o)] := hl
  have hK3 : va_K D vwCl (zx_ty cI cZ cT) s := hK.sub [0, 1, 2] rfl
  refine lv_aload hx hb dL_window_0 (lv_at hl 5 rfl) ?_
  refine lv_iconst (v := 0) hx hb dL_window_2 (by decide) ?_
  refine lv_aload_n hx hb dL_window_3 rfl (lv_at hl 0 rfl) ?_
  refine lv_iload_n hx hb dL_window_4 rfl (lv_at hl 1 rfl) ?_
  refine lv_iload_n hx hb dL_window_5 rfl (lv_at hl 2 rfl) ?_
  refine lv_iload_n hx hb dL_window_6 rfl (lv_at hl 3 rfl) ?_
  refine lv_iload hx hb dL_window_7 (lv_at hl 4 rfl) ?_
  have hPc := zxL_P hP
  have hDc := zxL_D hD
  have hF := zx_fW hDc hS hA
  refine vx_calli (vx_runV (As := [.int p1, .int p2, .int p3, .int p4]) (rest := [.int 0, .ref o]) ⟨hx, hb, hml, hown, hts⟩ (c_X2_window l D cI cZ cT hlt h hh aa S _ N p1 p2 p3 p4 hM) (cwV 4 hts (zg_V zw_27_0 zw_27_1 zw_27_2 zw_1_2 zw_27_3) rfl rfl rfl ⟨rfl, zyX2_window⟩ ⟨Nat.le_of_ble_eq_true rfl, Nat.le_of_ble_eq_true rfl⟩) ⟨bX_blind, va_recv hK3 hPc (ci := 2) (q0 := 0) rfl rfl, bX_pre (ws := []) hPc hK3 hDc hN hX hS hF⟩ rfl rfl hl.1 rfl (lv_room (Nat.le_of_ble_eq_true rfl)) dL_window_9 ⟨Nat.le_of_ble_eq_true rfl, Nat.le_of_ble_eq_true rfl⟩) hS (fun q _ h => hF q h) hF (fun q _ h => hF q h) (fun E ce q9 u t H1 lc ht hvm hpx hBX hz1 hk1 hS hce hcv hcl => ?_) (fun r u t H1 lc ht hvm hw hB hz1 hk1 hS => ?_)
  · obtain ⟨hR, hne⟩ := hpx
    obtain ⟨hE, hB⟩ := hBX
    rw [ht] at hB
    replace hP := zxL_S hP hD hk1 hB
    have hR1 : R.2.1 = u.1 := by rw [hR]
    have hR2 : R.2.2 = u.2 := by rw [hR]
    rcases hk with hk0 | hk1
    · exact absurd (hR1.symm.trans hk0) hne
    · have hE : E = "java/lang/IllegalArgumentException" := by rw [hE, hR1.symm.trans hk1]; rfl
      subst hE
      refine vx_catch hown [] _ [] (htab.trans rfl) (fun z hz => absurd hz List.not_mem_nil) (by decide) (by decide) (hts _ zw_4_14) (va_Nw.use rfl (hX.2.2.1 _ (List.mem_of_getElem? (i := 0) rfl))) hce hcv hcl ?_
      refine lv_astore (lv' := [(6, .ref q9), (0, .ref h), (1, .int p1), (2, .int p2), (3, .int p3), (4, .int p4), (5, .ref o)]) hx hb dL_window_17 hl (by decide) rfl (fun ls hl => ?_)
      refine lv_iconst (v := 1) hx hb dL_window_19 (by decide) ?_
      refine W.widen (k := 1) (n := 6) (Nat.le_of_ble_eq_true rfl) (Nat.le_of_ble_eq_true rfl) ?_
      exact W.iret hx hb hr (fun t ht hW => ⟨⟨1, (f, u.2), rfl, ⟨Or.inr (⟨hk1, rfl⟩), hR2.symm⟩, by show va_P D vwCl _ t.heap; rw [ht]; exact hP⟩, hS.F ht⟩) hS.2.2 dL_window_20
  · replace hw : R = (r, (0, u)) := hw
    rw [ht] at hB
    have hD := zxL_Da (S2 := u) (f2 := f) hD
    replace hP := zxL_S hP (zxL_Da (S2 := S) (f2 := f) hD) hk1 hB
    refine lv_i2l hx hb dL_window_12 rfl ?_
    refine va_last (D := D) hx hb hK hP hD hS 0 3 rfl rfl (vp_in_nI (n := 0) (N := 1) (by decide) (by decide)) dL_window_13 (fun H lc hP hD hS => ?_)
    refine lv_goto (tgt := 21) hx hb dL_window_14 (by decide) ?_
    refine lv_iconst (v := 0) hx hb dL_window_21 (by decide) ?_
    refine W.widen (k := 1) (n := 6) (Nat.le_of_ble_eq_true rfl) (Nat.le_of_ble_eq_true rfl) ?_
    exact W.iret hx hb hr (fun t ht hW => ⟨⟨0, (vp_updL f 0 r.toInt64, u), rfl, ⟨Or.inl ⟨by rw [hw], rfl, by rw [hw]; rfl⟩, by rw [hw]⟩, by show va_P D vwCl _ t.heap; rw [ht]; exact hP⟩, hS.F ht⟩) hS.2.2 dL_window_22

/-! the law: looks -/
abbrev zsL_looks : List Cond := .codeWith yL_looks cL_looks 7 (some .int) [(0, 14, 17, 13)] :: wsL_law
theorem zyL_looks : yL_looks.cls ≠ "java/lang/invoke/MethodHandle" ∧ yL_looks.cls ≠ "java/lang/invoke/VarHandle" ∧ (parseMethodDescriptor yL_looks.desc).map (fun d => d.parameters.length) = some 6 := by decide +kernel
abbrev rmL_looks : Room := { frames := 7, cells := 1, slots := 6, locals := 106 }
set_option maxHeartbeats 4000000 in
set_option maxRecDepth 100000 in
theorem c_L_looks (l : Launch) (hlt : l.stackTraces = false) (D : va_G) (cI cZ cT cL : ClassId) (o h : Nat) (hh : Nat → Nat) (aa : Nat → Nat → Nat) (f : Nat → Int64) (S : zx_B) (sz : Nat) (N : Nat) (p1 : Int32) (p2 : Int32) (p3 : Int32) (p4 : Int32) {R : Int32 × (Nat × zx_B)} (hM : f_X2_looks N p1 p2 p3 p4 S = some R) (hk : R.2.1 = 0 ∨ R.2.1 = 1) : Met l yL_looks zsL_looks rmL_looks (va_Pc [.ref h, .int p1, .int p2, .int p3, .int p4, .ref o] (bY D (zx_ty4 cI cZ cT cL) (zxL cI cT cL o h hh aa f S) sz)) (va_Qi (fun r (u : (Nat → Int64) × zx_B) => ((R.2.1 = 0 ∧ r = 0 ∧ u.1 0 = R.1.toInt64) ∨ (R.2.1 = 1 ∧ r = 1)) ∧ u.2 = R.2.2) (fun u t => va_P D vwCl (zxL cI cT cL o h hh aa u.1 u.2) t.heap) (va_A (zxL cI cT cL o h hh aa f S) sz)) 1 6 (va_A (zxL cI cT cL o h hh aa f S) sz) := by
  refine va_MetW (cc := cL_looks) (maxL := 7) (ret := (some .int)) (by decide) rfl ?_
  intro p e s m args below meth c s₁ B hml hv
  obtain ⟨rfl, ⟨⟨hsz, hP, hK, hD0, hN⟩, hX⟩, hNc⟩ := hv
  have hx := B.exec
  have hb := B.bytes
  have hr := B.returns
  have hts : ∀ w ∈ wsL_law, w.before _ s = true := fun w hw => atoms_spec (ws := zsL_looks) B.pre w (List.mem_cons_of_mem _ hw)
  have htab := vx_table (x := yL_append) B (atoms_spec (ws := zsL_looks) B.pre _ List.mem_cons_self)
  have hown : s.vm.findClass RL = some m.cls := findClass_of_methodNamed B.named
  have hlocks := B.notSynchronized
  subst hsz
  have hD := hD0.self (sz := s.heap.size)
  generalize hAe : va_A (zxL cI cT cL o h hh aa f S) s.heap.size = A at hD hX ⊢
  have hA : ∀ q : Nat, s.heap.size ≤ q → A q := fun q h => by rw [← hAe]; exact Or.inr h
  have hS : va_S A s.heap s.heap [] := va_S.rf
  have hl := lv_entry ([.ref h, .int p1, .int p2, .int p3, .int p4, .ref o]) (n := 7) (Nat.le_of_ble_eq_true rfl)
  rw [lg_entry_eq]
  generalize (lg_sl ([.ref h, .int p1, .int p2, .int p3, .int p4, .ref o]) ++ List.replicate (7 - (lg_sl ([.ref h, .int p1, .int p2, .int p3, .int p4, .ref o])).length) Slot.unset).toArray = ls at hl ⊢
  have hl : lv_has ls 7 [(0, .ref h), (1, .int p1), (2, .int p2), (3, .int p3), (4, .int p4), (5, .ref o)] := hl
  have hK3 : va_K D vwCl (zx_ty cI cZ cT) s := hK.sub [0, 1, 2] rfl
  refine lv_aload hx hb dL_looks_0 (lv_at hl 5 rfl) ?_
  refine lv_iconst (v := 0) hx hb dL_looks_2 (by decide) ?_
  refine lv_aload_n hx hb dL_looks_3 rfl (lv_at hl 0 rfl) ?_
  refine lv_iload_n hx hb dL_looks_4 rfl (lv_at hl 1 rfl) ?_
  refine lv_iload_n hx hb dL_looks_5 rfl (lv_at hl 2 rfl) ?_
  refine lv_iload_n hx hb dL_looks_6 rfl (lv_at hl 3 rfl) ?_
  refine lv_iload hx hb dL_looks_7 (lv_at hl 4 rfl) ?_
  have hPc := zxL_P hP
  have hDc := zxL_D hD
  have hF := zx_fW hDc hS hA
  refine vx_calli (vx_runV (As := [.int p1, .int p2, .int p3, .int p4]) (rest := [.int 0, .ref o]) ⟨hx, hb, hml, hown, hts⟩ (c_X2_looks l D cI cZ cT hlt h hh aa S _ N p1 p2 p3 p4 hM) (cwV 4 hts (zg_V zw_27_16 zw_27_17 zw_27_18 zw_1_2 zw_27_19) rfl rfl rfl ⟨rfl, zyX2_looks⟩ ⟨Nat.le_of_ble_eq_true rfl, Nat.le_of_ble_eq_true rfl⟩) ⟨bX_blind, va_recv hK3 hPc (ci := 2) (q0 := 0) rfl rfl, bX_pre (ws := []) hPc hK3 hDc hN hX hS hF⟩ rfl rfl hl.1 rfl (lv_room (Nat.le_of_ble_eq_true rfl)) dL_looks_9 ⟨Nat.le_of_ble_eq_true rfl, Nat.le_of_ble_eq_true rfl⟩) hS (fun q _ h => hF q h) hF (fun q _ h => hF q h) (fun E ce q9 u t H1 lc ht hvm hpx hBX hz1 hk1 hS hce hcv hcl => ?_) (fun r u t H1 lc ht hvm hw hB hz1 hk1 hS => ?_)
  · obtain ⟨hR, hne⟩ := hpx
    obtain ⟨hE, hB⟩ := hBX
    rw [ht] at hB
    replace hP := zxL_S hP hD hk1 hB
    have hR1 : R.2.1 = u.1 := by rw [hR]
    have hR2 : R.2.2 = u.2 := by rw [hR]
    rcases hk with hk0 | hk1
    · exact absurd (hR1.symm.trans hk0) hne
    · have hE : E = "java/lang/IllegalArgumentException" := by rw [hE, hR1.symm.trans hk1]; rfl
      subst hE
      refine vx_catch hown [] _ [] (htab.trans rfl) (fun z hz => absurd hz List.not_mem_nil) (by decide) (by decide) (hts _ zw_4_14) (va_Nw.use rfl (hX.2.2.1 _ (List.mem_of_getElem? (i := 0) rfl))) hce hcv hcl ?_
      refine lv_astore (lv' := [(6, .ref q9), (0, .ref h), (1, .int p1), (2, .int p2), (3, .int p3), (4, .int p4), (5, .ref o)]) hx hb dL_looks_17 hl (by decide) rfl (fun ls hl => ?_)
      refine lv_iconst (v := 1) hx hb dL_looks_19 (by decide) ?_
      refine W.widen (k := 1) (n := 6) (Nat.le_of_ble_eq_true rfl) (Nat.le_of_ble_eq_true rfl) ?_
      exact W.iret hx hb hr (fun t ht hW => ⟨⟨1, (f, u.2), rfl, ⟨Or.inr (⟨hk1, rfl⟩), hR2.symm⟩, by show va_P D vwCl _ t.heap; rw [ht]; exact hP⟩, hS.F ht⟩) hS.2.2 dL_looks_20
  · replace hw : R = (r, (0, u)) := hw
    rw [ht] at hB
    have hD := zxL_Da (S2 := u) (f2 := f) hD
    replace hP := zxL_S hP (zxL_Da (S2 := S) (f2 := f) hD) hk1 hB
    refine lv_i2l hx hb dL_looks_12 rfl ?_
    refine va_last (D := D) hx hb hK hP hD hS 0 3 rfl rfl (vp_in_nI (n := 0) (N := 1) (by decide) (by decide)) dL_looks_13 (fun H lc hP hD hS => ?_)
    refine lv_goto (tgt := 21) hx hb dL_looks_14 (by decide) ?_
    refine lv_iconst (v := 0) hx hb dL_looks_21 (by decide) ?_
    refine W.widen (k := 1) (n := 6) (Nat.le_of_ble_eq_true rfl) (Nat.le_of_ble_eq_true rfl) ?_
    exact W.iret hx hb hr (fun t ht hW => ⟨⟨0, (vp_updL f 0 r.toInt64, u), rfl, ⟨Or.inl ⟨by rw [hw], rfl, by rw [hw]; rfl⟩, by rw [hw]⟩, by show va_P D vwCl _ t.heap; rw [ht]; exact hP⟩, hS.F ht⟩) hS.2.2 dL_looks_22

/-! the law: nearest -/
abbrev zsL_nearest : List Cond := .codeWith yL_nearest cL_nearest 6 (some .int) [(0, 12, 15, 13)] :: wsL_law
theorem zyL_nearest : yL_nearest.cls ≠ "java/lang/invoke/MethodHandle" ∧ yL_nearest.cls ≠ "java/lang/invoke/VarHandle" ∧ (parseMethodDescriptor yL_nearest.desc).map (fun d => d.parameters.length) = some 5 := by decide +kernel
abbrev rmL_nearest : Room := { frames := 7, cells := 1, slots := 6, locals := 142 }
set_option maxHeartbeats 4000000 in
set_option maxRecDepth 100000 in
theorem c_L_nearest (l : Launch) (hlt : l.stackTraces = false) (D : va_G) (cI cZ cT cL : ClassId) (o h : Nat) (hh : Nat → Nat) (aa : Nat → Nat → Nat) (f : Nat → Int64) (S : zx_B) (sz : Nat) (N : Nat) (p1 : Int32) (p2 : Int32) (p3 : Int32) {R : Int32 × (Nat × zx_B)} (hM : f_X2_nearest N p1 p2 p3 S = some R) (hk : R.2.1 = 0 ∨ R.2.1 = 1) : Met l yL_nearest zsL_nearest rmL_nearest (va_Pc [.ref h, .int p1, .int p2, .int p3, .ref o] (bY D (zx_ty4 cI cZ cT cL) (zxL cI cT cL o h hh aa f S) sz)) (va_Qi (fun r (u : (Nat → Int64) × zx_B) => ((R.2.1 = 0 ∧ r = 0 ∧ u.1 0 = R.1.toInt64) ∨ (R.2.1 = 1 ∧ r = 1)) ∧ u.2 = R.2.2) (fun u t => va_P D vwCl (zxL cI cT cL o h hh aa u.1 u.2) t.heap) (va_A (zxL cI cT cL o h hh aa f S) sz)) 1 6 (va_A (zxL cI cT cL o h hh aa f S) sz) := by
  refine va_MetW (cc := cL_nearest) (maxL := 6) (ret := (some .int)) (by decide) rfl ?_
  intro p e s m args below meth c s₁ B hml hv
  obtain ⟨rfl, ⟨⟨hsz, hP, hK, hD0, hN⟩, hX⟩, hNc⟩ := hv
  have hx := B.exec
  have hb := B.bytes
  have hr := B.returns
  have hts : ∀ w ∈ wsL_law, w.before _ s = true := fun w hw => atoms_spec (ws := zsL_nearest) B.pre w (List.mem_cons_of_mem _ hw)
  have htab := vx_table (x := yL_append) B (atoms_spec (ws := zsL_nearest) B.pre _ List.mem_cons_self)
  have hown : s.vm.findClass RL = some m.cls := findClass_of_methodNamed B.named
  have hlocks := B.notSynchronized
  subst hsz
  have hD := hD0.self (sz := s.heap.size)
  generalize hAe : va_A (zxL cI cT cL o h hh aa f S) s.heap.size = A at hD hX ⊢
  have hA : ∀ q : Nat, s.heap.size ≤ q → A q := fun q h => by rw [← hAe]; exact Or.inr h
  have hS : va_S A s.heap s.heap [] := va_S.rf
  have hl := lv_entry ([.ref h, .int p1, .int p2, .int p3, .ref o]) (n := 6) (Nat.le_of_ble_eq_true rfl)
  rw [lg_entry_eq]
  generalize (lg_sl ([.ref h, .int p1, .int p2, .int p3, .ref o]) ++ List.replicate (6 - (lg_sl ([.ref h, .int p1, .int p2, .int p3, .ref o])).length) Slot.unset).toArray = ls at hl ⊢
  have hl : lv_has ls 6 [(0, .ref h), (1, .int p1), (2, .int p2), (3, .int p3), (4, .ref o)] := hl
  have hK3 : va_K D vwCl (zx_ty cI cZ cT) s := hK.sub [0, 1, 2] rfl
  refine lv_aload hx hb dL_nearest_0 (lv_at hl 4 rfl) ?_
  refine lv_iconst (v := 0) hx hb dL_nearest_2 (by decide) ?_
  refine lv_aload_n hx hb dL_nearest_3 rfl (lv_at hl 0 rfl) ?_
  refine lv_iload_n hx hb dL_nearest_4 rfl (lv_at hl 1 rfl) ?_
  refine lv_iload_n hx hb dL_nearest_5 rfl (lv_at hl 2 rfl) ?_
  refine lv_iload_n hx hb dL_nearest_6 rfl (lv_at hl 3 rfl) ?_
  have hPc := zxL_P hP
  have hDc := zxL_D hD
  have hF := zx_fW hDc hS hA
  refine vx_calli (vx_runV (As := [.int p1, .int p2, .int p3]) (rest := [.int 0, .ref o]) ⟨hx, hb, hml, hown, hts⟩ (c_X2_nearest l D cI cZ cT hlt h hh aa S _ N p1 p2 p3 hM) (cwV 3 hts (zg_V zw_28_7 zw_28_8 zw_28_9 zw_1_2 zw_28_10) rfl rfl rfl ⟨rfl, zyX2_nearest⟩ ⟨Nat.le_of_ble_eq_true rfl, Nat.le_of_ble_eq_true rfl⟩) ⟨bX_blind, va_recv hK3 hPc (ci := 2) (q0 := 0) rfl rfl, bX_pre (ws := []) hPc hK3 hDc hN hX hS hF⟩ rfl rfl hl.1 rfl (lv_room (Nat.le_of_ble_eq_true rfl)) dL_nearest_7 ⟨Nat.le_of_ble_eq_true rfl, Nat.le_of_ble_eq_true rfl⟩) hS (fun q _ h => hF q h) hF (fun q _ h => hF q h) (fun E ce q9 u t H1 lc ht hvm hpx hBX hz1 hk1 hS hce hcv hcl => ?_) (fun r u t H1 lc ht hvm hw hB hz1 hk1 hS => ?_)
  · obtain ⟨hR, hne⟩ := hpx
    obtain ⟨hE, hB⟩ := hBX
    rw [ht] at hB
    replace hP := zxL_S hP hD hk1 hB
    have hR1 : R.2.1 = u.1 := by rw [hR]
    have hR2 : R.2.2 = u.2 := by rw [hR]
    rcases hk with hk0 | hk1
    · exact absurd (hR1.symm.trans hk0) hne
    · have hE : E = "java/lang/IllegalArgumentException" := by rw [hE, hR1.symm.trans hk1]; rfl
      subst hE
      refine vx_catch hown [] _ [] (htab.trans rfl) (fun z hz => absurd hz List.not_mem_nil) (by decide) (by decide) (hts _ zw_4_14) (va_Nw.use rfl (hX.2.2.1 _ (List.mem_of_getElem? (i := 0) rfl))) hce hcv hcl ?_
      refine lv_astore (lv' := [(5, .ref q9), (0, .ref h), (1, .int p1), (2, .int p2), (3, .int p3), (4, .ref o)]) hx hb dL_nearest_15 hl (by decide) rfl (fun ls hl => ?_)
      refine lv_iconst (v := 1) hx hb dL_nearest_17 (by decide) ?_
      refine W.widen (k := 1) (n := 6) (Nat.le_of_ble_eq_true rfl) (Nat.le_of_ble_eq_true rfl) ?_
      exact W.iret hx hb hr (fun t ht hW => ⟨⟨1, (f, u.2), rfl, ⟨Or.inr (⟨hk1, rfl⟩), hR2.symm⟩, by show va_P D vwCl _ t.heap; rw [ht]; exact hP⟩, hS.F ht⟩) hS.2.2 dL_nearest_18
  · replace hw : R = (r, (0, u)) := hw
    rw [ht] at hB
    have hD := zxL_Da (S2 := u) (f2 := f) hD
    replace hP := zxL_S hP (zxL_Da (S2 := S) (f2 := f) hD) hk1 hB
    refine lv_i2l hx hb dL_nearest_10 rfl ?_
    refine va_last (D := D) hx hb hK hP hD hS 0 3 rfl rfl (vp_in_nI (n := 0) (N := 1) (by decide) (by decide)) dL_nearest_11 (fun H lc hP hD hS => ?_)
    refine lv_goto (tgt := 19) hx hb dL_nearest_12 (by decide) ?_
    refine lv_iconst (v := 0) hx hb dL_nearest_19 (by decide) ?_
    refine W.widen (k := 1) (n := 6) (Nat.le_of_ble_eq_true rfl) (Nat.le_of_ble_eq_true rfl) ?_
    exact W.iret hx hb hr (fun t ht hW => ⟨⟨0, (vp_updL f 0 r.toInt64, u), rfl, ⟨Or.inl ⟨by rw [hw], rfl, by rw [hw]; rfl⟩, by rw [hw]⟩, by show va_P D vwCl _ t.heap; rw [ht]; exact hP⟩, hS.F ht⟩) hS.2.2 dL_nearest_20

/-! the law: chosen -/
abbrev zsL_chosen : List Cond := .codeWith yL_chosen cL_chosen 7 (some .int) [(0, 14, 17, 13)] :: wsL_law
theorem zyL_chosen : yL_chosen.cls ≠ "java/lang/invoke/MethodHandle" ∧ yL_chosen.cls ≠ "java/lang/invoke/VarHandle" ∧ (parseMethodDescriptor yL_chosen.desc).map (fun d => d.parameters.length) = some 6 := by decide +kernel
abbrev rmL_chosen : Room := { frames := 7, cells := 1, slots := 6, locals := 122 }
set_option maxHeartbeats 4000000 in
set_option maxRecDepth 100000 in
theorem c_L_chosen (l : Launch) (hlt : l.stackTraces = false) (D : va_G) (cI cZ cT cL : ClassId) (o h : Nat) (hh : Nat → Nat) (aa : Nat → Nat → Nat) (f : Nat → Int64) (S : zx_B) (sz : Nat) (N : Nat) (p1 : Int32) (p2 : Int32) (p3 : Int32) (p4 : Int32) {R : Int32 × (Nat × zx_B)} (hM : f_X2_chosen N p1 p2 p3 p4 S = some R) (hk : R.2.1 = 0 ∨ R.2.1 = 1) : Met l yL_chosen zsL_chosen rmL_chosen (va_Pc [.ref h, .int p1, .int p2, .int p3, .int p4, .ref o] (bY D (zx_ty4 cI cZ cT cL) (zxL cI cT cL o h hh aa f S) sz)) (va_Qi (fun r (u : (Nat → Int64) × zx_B) => ((R.2.1 = 0 ∧ r = 0 ∧ u.1 0 = R.1.toInt64) ∨ (R.2.1 = 1 ∧ r = 1)) ∧ u.2 = R.2.2) (fun u t => va_P D vwCl (zxL cI cT cL o h hh aa u.1 u.2) t.heap) (va_A (zxL cI cT cL o h hh aa f S) sz)) 1 6 (va_A (zxL cI cT cL o h hh aa f S) sz) := by
  refine va_MetW (cc := cL_chosen) (maxL := 7) (ret := (some .int)) (by decide) rfl ?_
  intro p e s m args below meth c s₁ B hml hv
  obtain ⟨rfl, ⟨⟨hsz, hP, hK, hD0, hN⟩, hX⟩, hNc⟩ := hv
  have hx := B.exec
  have hb := B.bytes
  have hr := B.returns
  have hts : ∀ w ∈ wsL_law, w.before _ s = true := fun w hw => atoms_spec (ws := zsL_chosen) B.pre w (List.mem_cons_of_mem _ hw)
  have htab := vx_table (x := yL_append) B (atoms_spec (ws := zsL_chosen) B.pre _ List.mem_cons_self)
  have hown : s.vm.findClass RL = some m.cls := findClass_of_methodNamed B.named
  have hlocks := B.notSynchronized
  subst hsz
  have hD := hD0.self (sz := s.heap.size)
  generalize hAe : va_A (zxL cI cT cL o h hh aa f S) s.heap.size = A at hD hX ⊢
  have hA : ∀ q : Nat, s.heap.size ≤ q → A q := fun q h => by rw [← hAe]; exact Or.inr h
  have hS : va_S A s.heap s.heap [] := va_S.rf
  have hl := lv_entry ([.ref h, .int p1, .int p2, .int p3, .int p4, .ref o]) (n := 7) (Nat.le_of_ble_eq_true rfl)
  rw [lg_entry_eq]
  generalize (lg_sl ([.ref h, .int p1, .int p2, .int p3, .int p4, .ref o]) ++ List.replicate (7 - (lg_sl ([.ref h, .int p1, .int p2, .int p3, .int p4, .ref o])).length) Slot.unset).toArray = ls at hl ⊢
  have hl : lv_has ls 7 [(0, .ref h), (1, .int p1), (2, .int p2), (3, .int p3), (4, .int p4), (5, .ref o)] := hl
  have hK3 : va_K D vwCl (zx_ty cI cZ cT) s := hK.sub [0, 1, 2] rfl
  refine lv_aload hx hb dL_chosen_0 (lv_at hl 5 rfl) ?_
  refine lv_iconst (v := 0) hx hb dL_chosen_2 (by decide) ?_
  refine lv_aload_n hx hb dL_chosen_3 rfl (lv_at hl 0 rfl) ?_
  refine lv_iload_n hx hb dL_chosen_4 rfl (lv_at hl 1 rfl) ?_
  refine lv_iload_n hx hb dL_chosen_5 rfl (lv_at hl 2 rfl) ?_
  refine lv_iload_n hx hb dL_chosen_6 rfl (lv_at hl 3 rfl) ?_
  refine lv_iload hx hb dL_chosen_7 (lv_at hl 4 rfl) ?_
  have hPc := zxL_P hP
  have hDc := zxL_D hD
  have hF := zx_fW hDc hS hA
  refine vx_calli (vx_runV (As := [.int p1, .int p2, .int p3, .int p4]) (rest := [.int 0, .ref o]) ⟨hx, hb, hml, hown, hts⟩ (c_X2_chosen l D cI cZ cT hlt h hh aa S _ N p1 p2 p3 p4 hM) (cwV 4 hts (zg_V zw_29_22 zw_29_23 zw_30_0 zw_1_2 zw_30_1) rfl rfl rfl ⟨rfl, zyX2_chosen⟩ ⟨Nat.le_of_ble_eq_true rfl, Nat.le_of_ble_eq_true rfl⟩) ⟨bX_blind, va_recv hK3 hPc (ci := 2) (q0 := 0) rfl rfl, bX_pre (ws := []) hPc hK3 hDc hN hX hS hF⟩ rfl rfl hl.1 rfl (lv_room (Nat.le_of_ble_eq_true rfl)) dL_chosen_9 ⟨Nat.le_of_ble_eq_true rfl, Nat.le_of_ble_eq_true rfl⟩) hS (fun q _ h => hF q h) hF (fun q _ h => hF q h) (fun E ce q9 u t H1 lc ht hvm hpx hBX hz1 hk1 hS hce hcv hcl => ?_) (fun r u t H1 lc ht hvm hw hB hz1 hk1 hS => ?_)
  · obtain ⟨hR, hne⟩ := hpx
    obtain ⟨hE, hB⟩ := hBX
    rw [ht] at hB
    replace hP := zxL_S hP hD hk1 hB
    have hR1 : R.2.1 = u.1 := by rw [hR]
    have hR2 : R.2.2 = u.2 := by rw [hR]
    rcases hk with hk0 | hk1
    · exact absurd (hR1.symm.trans hk0) hne
    · have hE : E = "java/lang/IllegalArgumentException" := by rw [hE, hR1.symm.trans hk1]; rfl
      subst hE
      refine vx_catch hown [] _ [] (htab.trans rfl) (fun z hz => absurd hz List.not_mem_nil) (by decide) (by decide) (hts _ zw_4_14) (va_Nw.use rfl (hX.2.2.1 _ (List.mem_of_getElem? (i := 0) rfl))) hce hcv hcl ?_
      refine lv_astore (lv' := [(6, .ref q9), (0, .ref h), (1, .int p1), (2, .int p2), (3, .int p3), (4, .int p4), (5, .ref o)]) hx hb dL_chosen_17 hl (by decide) rfl (fun ls hl => ?_)
      refine lv_iconst (v := 1) hx hb dL_chosen_19 (by decide) ?_
      refine W.widen (k := 1) (n := 6) (Nat.le_of_ble_eq_true rfl) (Nat.le_of_ble_eq_true rfl) ?_
      exact W.iret hx hb hr (fun t ht hW => ⟨⟨1, (f, u.2), rfl, ⟨Or.inr (⟨hk1, rfl⟩), hR2.symm⟩, by show va_P D vwCl _ t.heap; rw [ht]; exact hP⟩, hS.F ht⟩) hS.2.2 dL_chosen_20
  · replace hw : R = (r, (0, u)) := hw
    rw [ht] at hB
    have hD := zxL_Da (S2 := u) (f2 := f) hD
    replace hP := zxL_S hP (zxL_Da (S2 := S) (f2 := f) hD) hk1 hB
    refine lv_i2l hx hb dL_chosen_12 rfl ?_
    refine va_last (D := D) hx hb hK hP hD hS 0 3 rfl rfl (vp_in_nI (n := 0) (N := 1) (by decide) (by decide)) dL_chosen_13 (fun H lc hP hD hS => ?_)
    refine lv_goto (tgt := 21) hx hb dL_chosen_14 (by decide) ?_
    refine lv_iconst (v := 0) hx hb dL_chosen_21 (by decide) ?_
    refine W.widen (k := 1) (n := 6) (Nat.le_of_ble_eq_true rfl) (Nat.le_of_ble_eq_true rfl) ?_
    exact W.iret hx hb hr (fun t ht hW => ⟨⟨0, (vp_updL f 0 r.toInt64, u), rfl, ⟨Or.inl ⟨by rw [hw], rfl, by rw [hw]; rfl⟩, by rw [hw]⟩, by show va_P D vwCl _ t.heap; rw [ht]; exact hP⟩, hS.F ht⟩) hS.2.2 dL_chosen_22

/-! the law: ifAdded -/
abbrev zsL_ifAdded : List Cond := .codeWith yL_ifAdded cL_ifAdded 7 (some .int) [(0, 14, 17, 13)] :: wsL_law
theorem zyL_ifAdded : yL_ifAdded.cls ≠ "java/lang/invoke/MethodHandle" ∧ yL_ifAdded.cls ≠ "java/lang/invoke/VarHandle" ∧ (parseMethodDescriptor yL_ifAdded.desc).map (fun d => d.parameters.length) = some 6 := by decide +kernel
abbrev rmL_ifAdded : Room := { frames := 7, cells := 1, slots := 6, locals := 176 }
set_option maxHeartbeats 4000000 in
set_option maxRecDepth 100000 in
theorem c_L_ifAdded (l : Launch) (hlt : l.stackTraces = false) (D : va_G) (cI cZ cT cL : ClassId) (o h : Nat) (hh : Nat → Nat) (aa : Nat → Nat → Nat) (f : Nat → Int64) (S : zx_B) (sz : Nat) (N : Nat) (p1 : Int32) (p2 : Int32) (p3 : Int32) (p4 : Int32) {R : Int32 × (Nat × zx_B)} (hM : f_X2_ifAdded N p1 p2 p3 p4 S = some R) (hk : R.2.1 = 0 ∨ R.2.1 = 1) : Met l yL_ifAdded zsL_ifAdded rmL_ifAdded (va_Pc [.ref h, .int p1, .int p2, .int p3, .int p4, .ref o] (bY D (zx_ty4 cI cZ cT cL) (zxL cI cT cL o h hh aa f S) sz)) (va_Qi (fun r (u : (Nat → Int64) × zx_B) => ((R.2.1 = 0 ∧ r = 0 ∧ u.1 0 = R.1.toInt64) ∨ (R.2.1 = 1 ∧ r = 1)) ∧ u.2 = R.2.2) (fun u t => va_P D vwCl (zxL cI cT cL o h hh aa u.1 u.2) t.heap) (va_A (zxL cI cT cL o h hh aa f S) sz)) 1 6 (va_A (zxL cI cT cL o h hh aa f S) sz) := by
  refine va_MetW (cc := cL_ifAdded) (maxL := 7) (ret := (some .int)) (by decide) rfl ?_
  intro p e s m args below meth c s₁ B hml hv
  obtain ⟨rfl, ⟨⟨hsz, hP, hK, hD0, hN⟩, hX⟩, hNc⟩ := hv
  have hx := B.exec
  have hb := B.bytes
  have hr := B.returns
  have hts : ∀ w ∈ wsL_law, w.before _ s = true := fun w hw => atoms_spec (ws := zsL_ifAdded) B.pre w (List.mem_cons_of_mem _ hw)
  have htab := vx_table (x := yL_append) B (atoms_spec (ws := zsL_ifAdded) B.pre _ List.mem_cons_self)
  have hown : s.vm.findClass RL = some m.cls := findClass_of_methodNamed B.named
  have hlocks := B.notSynchronized
  subst hsz
  have hD := hD0.self (sz := s.heap.size)
  generalize hAe : va_A (zxL cI cT cL o h hh aa f S) s.heap.size = A at hD hX ⊢
  have hA : ∀ q : Nat, s.heap.size ≤ q → A q := fun q h => by rw [← hAe]; exact Or.inr h
  have hS : va_S A s.heap s.heap [] := va_S.rf
  have hl := lv_entry ([.ref h, .int p1, .int p2, .int p3, .int p4, .ref o]) (n := 7) (Nat.le_of_ble_eq_true rfl)
  rw [lg_entry_eq]
  generalize (lg_sl ([.ref h, .int p1, .int p2, .int p3, .int p4, .ref o]) ++ List.replicate (7 - (lg_sl ([.ref h, .int p1, .int p2, .int p3, .int p4, .ref o])).length) Slot.unset).toArray = ls at hl ⊢
  have hl : lv_has ls 7 [(0, .ref h), (1, .int p1), (2, .int p2), (3, .int p3), (4, .int p4), (5, .ref o)] := hl
  have hK3 : va_K D vwCl (zx_ty cI cZ cT) s := hK.sub [0, 1, 2] rfl
  refine lv_aload hx hb dL_ifAdded_0 (lv_at hl 5 rfl) ?_
  refine lv_iconst (v := 0) hx hb dL_ifAdded_2 (by decide) ?_
  refine lv_aload_n hx hb dL_ifAdded_3 rfl (lv_at hl 0 rfl) ?_
  refine lv_iload_n hx hb dL_ifAdded_4 rfl (lv_at hl 1 rfl) ?_
  refine lv_iload_n hx hb dL_ifAdded_5 rfl (lv_at hl 2 rfl) ?_
  refine lv_iload_n hx hb dL_ifAdded_6 rfl (lv_at hl 3 rfl) ?_
  refine lv_iload hx hb dL_ifAdded_7 (lv_at hl 4 rfl) ?_
  have hPc := zxL_P hP
  have hDc := zxL_D hD
  have hF := zx_fW hDc hS hA
  refine vx_calli (vx_runV (As := [.int p1, .int p2, .int p3, .int p4]) (rest := [.int 0, .ref o]) ⟨hx, hb, hml, hown, hts⟩ (c_X2_ifAdded l D cI cZ cT hlt h hh aa S _ N p1 p2 p3 p4 hM) (cwV 4 hts (zg_V zw_30_10 zw_30_11 zw_30_12 zw_1_2 zw_30_13) rfl rfl rfl ⟨rfl, zyX2_ifAdded⟩ ⟨Nat.le_of_ble_eq_true rfl, Nat.le_of_ble_eq_true rfl⟩) ⟨bX_blind, va_recv hK3 hPc (ci := 2) (q0 := 0) rfl rfl, bX_pre (ws := []) hPc hK3 hDc hN hX hS hF⟩ rfl rfl hl.1 rfl (lv_room (Nat.le_of_ble_eq_true rfl)) dL_ifAdded_9 ⟨Nat.le_of_ble_eq_true rfl, Nat.le_of_ble_eq_true rfl⟩) hS (fun q _ h => hF q h) hF (fun q _ h => hF q h) (fun E ce q9 u t H1 lc ht hvm hpx hBX hz1 hk1 hS hce hcv hcl => ?_) (fun r u t H1 lc ht hvm hw hB hz1 hk1 hS => ?_)
  · obtain ⟨hR, hne⟩ := hpx
    obtain ⟨hE, hB⟩ := hBX
    rw [ht] at hB
    replace hP := zxL_S hP hD hk1 hB
    have hR1 : R.2.1 = u.1 := by rw [hR]
    have hR2 : R.2.2 = u.2 := by rw [hR]
    rcases hk with hk0 | hk1
    · exact absurd (hR1.symm.trans hk0) hne
    · have hE : E = "java/lang/IllegalArgumentException" := by rw [hE, hR1.symm.trans hk1]; rfl
      subst hE
      refine vx_catch hown [] _ [] (htab.trans rfl) (fun z hz => absurd hz List.not_mem_nil) (by decide) (by decide) (hts _ zw_4_14) (va_Nw.use rfl (hX.2.2.1 _ (List.mem_of_getElem? (i := 0) rfl))) hce hcv hcl ?_
      refine lv_astore (lv' := [(6, .ref q9), (0, .ref h), (1, .int p1), (2, .int p2), (3, .int p3), (4, .int p4), (5, .ref o)]) hx hb dL_ifAdded_17 hl (by decide) rfl (fun ls hl => ?_)
      refine lv_iconst (v := 1) hx hb dL_ifAdded_19 (by decide) ?_
      refine W.widen (k := 1) (n := 6) (Nat.le_of_ble_eq_true rfl) (Nat.le_of_ble_eq_true rfl) ?_
      exact W.iret hx hb hr (fun t ht hW => ⟨⟨1, (f, u.2), rfl, ⟨Or.inr (⟨hk1, rfl⟩), hR2.symm⟩, by show va_P D vwCl _ t.heap; rw [ht]; exact hP⟩, hS.F ht⟩) hS.2.2 dL_ifAdded_20
  · replace hw : R = (r, (0, u)) := hw
    rw [ht] at hB
    have hD := zxL_Da (S2 := u) (f2 := f) hD
    replace hP := zxL_S hP (zxL_Da (S2 := S) (f2 := f) hD) hk1 hB
    refine lv_i2l hx hb dL_ifAdded_12 rfl ?_
    refine va_last (D := D) hx hb hK hP hD hS 0 3 rfl rfl (vp_in_nI (n := 0) (N := 1) (by decide) (by decide)) dL_ifAdded_13 (fun H lc hP hD hS => ?_)
    refine lv_goto (tgt := 21) hx hb dL_ifAdded_14 (by decide) ?_
    refine lv_iconst (v := 0) hx hb dL_ifAdded_21 (by decide) ?_
    refine W.widen (k := 1) (n := 6) (Nat.le_of_ble_eq_true rfl) (Nat.le_of_ble_eq_true rfl) ?_
    exact W.iret hx hb hr (fun t ht hW => ⟨⟨0, (vp_updL f 0 r.toInt64, u), rfl, ⟨Or.inl ⟨by rw [hw], rfl, by rw [hw]; rfl⟩, by rw [hw]⟩, by show va_P D vwCl _ t.heap; rw [ht]; exact hP⟩, hS.F ht⟩) hS.2.2 dL_ifAdded_22

/-! the law: runScript -/
abbrev zsL_runScript : List Cond := .codeWith yL_runScript cL_runScript 6 (some .int) [(0, 11, 14, 13)] :: wsL_law
theorem zyL_runScript : yL_runScript.cls ≠ "java/lang/invoke/MethodHandle" ∧ yL_runScript.cls ≠ "java/lang/invoke/VarHandle" ∧ (parseMethodDescriptor yL_runScript.desc).map (fun d => d.parameters.length) = some 4 := by decide +kernel
abbrev rmL_runScript : Room := { frames := 8, cells := 1, slots := 6, locals := 206 }
set_option maxHeartbeats 4000000 in
set_option maxRecDepth 100000 in
theorem c_L_runScript (l : Launch) (hlt : l.stackTraces = false) (D : va_G) (cI cZ cT cL : ClassId) (o h : Nat) (hh : Nat → Nat) (aa : Nat → Nat → Nat) (f : Nat → Int64) (S : zx_B) (sz : Nat) (N : Nat) (p1 : Int32) (p2 : Int64) {R : Int32 × (Nat × zx_B)} (hM : f_X2_runScript N p1 p2 S = some R) (hk : R.2.1 = 0 ∨ R.2.1 = 1) : Met l yL_runScript zsL_runScript rmL_runScript (va_Pc [.ref h, .int p1, .long p2, .ref o] (bY D (zx_ty4 cI cZ cT cL) (zxL cI cT cL o h hh aa f S) sz)) (va_Qi (fun r (u : (Nat → Int64) × zx_B) => ((R.2.1 = 0 ∧ r = 0 ∧ u.1 0 = R.1.toInt64) ∨ (R.2.1 = 1 ∧ r = 1)) ∧ u.2 = R.2.2) (fun u t => va_P D vwCl (zxL cI cT cL o h hh aa u.1 u.2) t.heap) (va_A (zxL cI cT cL o h hh aa f S) sz)) 1 6 (va_A (zxL cI cT cL o h hh aa f S) sz) := by
  refine va_MetW (cc := cL_runScript) (maxL := 6) (ret := (some .int)) (by decide) rfl ?_
  intro p e s m args below meth c s₁ B hml hv
  obtain ⟨rfl, ⟨⟨hsz, hP, hK, hD0, hN⟩, hX⟩, hNc⟩ := hv
  have hx := B.exec
  have hb := B.bytes
  have hr := B.returns
  have hts : ∀ w ∈ wsL_law, w.before _ s = true := fun w hw => atoms_spec (ws := zsL_runScript) B.pre w (List.mem_cons_of_mem _ hw)
  have htab := vx_table (x := yL_append) B (atoms_spec (ws := zsL_runScript) B.pre _ List.mem_cons_self)
  have hown : s.vm.findClass RL = some m.cls := findClass_of_methodNamed B.named
  have hlocks := B.notSynchronized
  subst hsz
  have hD := hD0.self (sz := s.heap.size)
  generalize hAe : va_A (zxL cI cT cL o h hh aa f S) s.heap.size = A at hD hX ⊢
  have hA : ∀ q : Nat, s.heap.size ≤ q → A q := fun q h => by rw [← hAe]; exact Or.inr h
  have hS : va_S A s.heap s.heap [] := va_S.rf
  have hl := lv_entry ([.ref h, .int p1, .long p2, .ref o]) (n := 6) (Nat.le_of_ble_eq_true rfl)
  rw [lg_entry_eq]
  generalize (lg_sl ([.ref h, .int p1, .long p2, .ref o]) ++ List.replicate (6 - (lg_sl ([.ref h, .int p1, .long p2, .ref o])).length) Slot.unset).toArray = ls at hl ⊢
  have hl : lv_has ls 6 [(0, .ref h), (1, .int p1), (2, .long p2), (4, .ref o)] := hl
  have hK3 : va_K D vwCl (zx_ty cI cZ cT) s := hK.sub [0, 1, 2] rfl
  refine lv_aload hx hb dL_runScript_0 (lv_at hl 3 rfl) ?_
  refine lv_iconst (v := 0) hx hb dL_runScript_2 (by decide) ?_
  refine lv_aload_n hx hb dL_runScript_3 rfl (lv_at hl 0 rfl) ?_
  refine lv_iload_n hx hb dL_runScript_4 rfl (lv_at hl 1 rfl) ?_
  refine lv_lload_n hx hb dL_runScript_5 rfl (lv_at hl 2 rfl) ?_
  have hPc := zxL_P hP
  have hDc := zxL_D hD
  have hF := zx_fW hDc hS hA
  refine vx_calli (vx_runV (As := [.int p1, .long p2]) (rest := [.int 0, .ref o]) ⟨hx, hb, hml, hown, hts⟩ (c_X2_runScript l D cI cZ cT hlt h hh aa S _ N p1 p2 hM) (cwV 2 hts (zg_V zw_31_20 zw_31_21 zw_31_22 zw_1_2 zw_31_23) rfl rfl rfl ⟨rfl, zyX2_runScript⟩ ⟨Nat.le_of_ble_eq_true rfl, Nat.le_of_ble_eq_true rfl⟩) ⟨bX_blind, va_recv hK3 hPc (ci := 2) (q0 := 0) rfl rfl, bX_pre (ws := []) hPc hK3 hDc hN hX hS hF⟩ rfl rfl hl.1 rfl (lv_room (Nat.le_of_ble_eq_true rfl)) dL_runScript_6 ⟨Nat.le_of_ble_eq_true rfl, Nat.le_of_ble_eq_true rfl⟩) hS (fun q _ h => hF q h) hF (fun q _ h => hF q h) (fun E ce q9 u t H1 lc ht hvm hpx hBX hz1 hk1 hS hce hcv hcl => ?_) (fun r u t H1 lc ht hvm hw hB hz1 hk1 hS => ?_)
  · obtain ⟨hR, hne⟩ := hpx
    obtain ⟨hE, hB⟩ := hBX
    rw [ht] at hB
    replace hP := zxL_S hP hD hk1 hB
    have hR1 : R.2.1 = u.1 := by rw [hR]
    have hR2 : R.2.2 = u.2 := by rw [hR]
    rcases hk with hk0 | hk1
    · exact absurd (hR1.symm.trans hk0) hne
    · have hE : E = "java/lang/IllegalArgumentException" := by rw [hE, hR1.symm.trans hk1]; rfl
      subst hE
      refine vx_catch hown [] _ [] (htab.trans rfl) (fun z hz => absurd hz List.not_mem_nil) (by decide) (by decide) (hts _ zw_4_14) (va_Nw.use rfl (hX.2.2.1 _ (List.mem_of_getElem? (i := 0) rfl))) hce hcv hcl ?_
      refine lv_astore (lv' := [(5, .ref q9), (0, .ref h), (1, .int p1), (2, .long p2), (4, .ref o)]) hx hb dL_runScript_14 hl (by decide) rfl (fun ls hl => ?_)
      refine lv_iconst (v := 1) hx hb dL_runScript_16 (by decide) ?_
      refine W.widen (k := 1) (n := 6) (Nat.le_of_ble_eq_true rfl) (Nat.le_of_ble_eq_true rfl) ?_
      exact W.iret hx hb hr (fun t ht hW => ⟨⟨1, (f, u.2), rfl, ⟨Or.inr (⟨hk1, rfl⟩), hR2.symm⟩, by show va_P D vwCl _ t.heap; rw [ht]; exact hP⟩, hS.F ht⟩) hS.2.2 dL_runScript_17
  · replace hw : R = (r, (0, u)) := hw
    rw [ht] at hB
    have hD := zxL_Da (S2 := u) (f2 := f) hD
    replace hP := zxL_S hP (zxL_Da (S2 := S) (f2 := f) hD) hk1 hB
    refine lv_i2l hx hb dL_runScript_9 rfl ?_
    refine va_last (D := D) hx hb hK hP hD hS 0 3 rfl rfl (vp_in_nI (n := 0) (N := 1) (by decide) (by decide)) dL_runScript_10 (fun H lc hP hD hS => ?_)
    refine lv_goto (tgt := 18) hx hb dL_runScript_11 (by decide) ?_
    refine lv_iconst (v := 0) hx hb dL_runScript_18 (by decide) ?_
    refine W.widen (k := 1) (n := 6) (Nat.le_of_ble_eq_true rfl) (Nat.le_of_ble_eq_true rfl) ?_
    exact W.iret hx hb hr (fun t ht hW => ⟨⟨0, (vp_updL f 0 r.toInt64, u), rfl, ⟨Or.inl ⟨by rw [hw], rfl, by rw [hw]; rfl⟩, by rw [hw]⟩, by show va_P D vwCl _ t.heap; rw [ht]; exact hP⟩, hS.F ht⟩) hS.2.2 dL_runScript_19

/-! the law: simulate -/
abbrev zsL_simulate : List Cond := .codeWith yL_simulate cL_simulate 6 (some .int) [(0, 11, 14, 13)] :: wsL_law
theorem zyL_simulate : yL_simulate.cls ≠ "java/lang/invoke/MethodHandle" ∧ yL_simulate.cls ≠ "java/lang/invoke/VarHandle" ∧ (parseMethodDescriptor yL_simulate.desc).map (fun d => d.parameters.length) = some 4 := by decide +kernel
abbrev rmL_simulate : Room := { frames := 8, cells := 1, slots := 6, locals := 202 }
set_option maxHeartbeats 4000000 in
set_option maxRecDepth 100000 in
theorem c_L_simulate (l : Launch) (hlt : l.stackTraces = false) (D : va_G) (cI cZ cT cL : ClassId) (o h : Nat) (hh : Nat → Nat) (aa : Nat → Nat → Nat) (f : Nat → Int64) (S : zx_B) (sz : Nat) (N : Nat) (p1 : Int64) (p3 : Int32) {R : Int32 × (Nat × zx_B)} (hM : f_X2_simulate N p1 p3 S = some R) (hk : R.2.1 = 0 ∨ R.2.1 = 1) : Met l yL_simulate zsL_simulate rmL_simulate (va_Pc [.ref h, .long p1, .int p3, .ref o] (bY D (zx_ty4 cI cZ cT cL) (zxL cI cT cL o h hh aa f S) sz)) (va_Qi (fun r (u : (Nat → Int64) × zx_B) => ((R.2.1 = 0 ∧ r = 0 ∧ u.1 0 = R.1.toInt64) ∨ (R.2.1 = 1 ∧ r = 1)) ∧ u.2 = R.2.2) (fun u t => va_P D vwCl (zxL cI cT cL o h hh aa u.1 u.2) t.heap) (va_A (zxL cI cT cL o h hh aa f S) sz)) 1 6 (va_A (zxL cI cT cL o h hh aa f S) sz) := by
  refine va_MetW (cc := cL_simulate) (maxL := 6) (ret := (some .int)) (by decide) rfl ?_
  intro p e s m args below meth c s₁ B hml hv
  obtain ⟨rfl, ⟨⟨hsz, hP, hK, hD0, hN⟩, hX⟩, hNc⟩ := hv
  have hx := B.exec
  have hb := B.bytes
  have hr := B.returns
  have hts : ∀ w ∈ wsL_law, w.before _ s = true := fun w hw => atoms_spec (ws := zsL_simulate) B.pre w (List.mem_cons_of_mem _ hw)
  have htab := vx_table (x := yL_append) B (atoms_spec (ws := zsL_simulate) B.pre _ List.mem_cons_self)
  have hown : s.vm.findClass RL = some m.cls := findClass_of_methodNamed B.named
  have hlocks := B.notSynchronized
  subst hsz
  have hD := hD0.self (sz := s.heap.size)
  generalize hAe : va_A (zxL cI cT cL o h hh aa f S) s.heap.size = A at hD hX ⊢
  have hA : ∀ q : Nat, s.heap.size ≤ q → A q := fun q h => by rw [← hAe]; exact Or.inr h
  have hS : va_S A s.heap s.heap [] := va_S.rf
  have hl := lv_entry ([.ref h, .long p1, .int p3, .ref o]) (n := 6) (Nat.le_of_ble_eq_true rfl)
  rw [lg_entry_eq]
  generalize (lg_sl ([.ref h, .long p1, .int p3, .ref o]) ++ List.replicate (6 - (lg_sl ([.ref h, .long p1, .int p3, .ref o])).length) Slot.unset).toArray = ls at hl ⊢
  have hl : lv_has ls 6 [(0, .ref h), (1, .long p1), (3, .int p3), (4, .ref o)] := hl
  have hK3 : va_K D vwCl (zx_ty cI cZ cT) s := hK.sub [0, 1, 2] rfl
  refine lv_aload hx hb dL_simulate_0 (lv_at hl 3 rfl) ?_
  refine lv_iconst (v := 0) hx hb dL_simulate_2 (by decide) ?_
  refine lv_aload_n hx hb dL_simulate_3 rfl (lv_at hl 0 rfl) ?_
  refine lv_lload_n hx hb dL_simulate_4 rfl (lv_at hl 1 rfl) ?_
  refine lv_iload_n hx hb dL_simulate_5 rfl (lv_at hl 2 rfl) ?_
  have hPc := zxL_P hP
  have hDc := zxL_D hD
  have hF := zx_fW hDc hS hA
  refine vx_calli (vx_runV (As := [.long p1, .int p3]) (rest := [.int 0, .ref o]) ⟨hx, hb, hml, hown, hts⟩ (c_X2_simulate l D cI cZ cT hlt h hh aa S _ N p1 p3 hM) (cwV 2 hts (zg_V zw_33_12 zw_33_13 zw_33_14 zw_1_2 zw_33_15) rfl rfl rfl ⟨rfl, zyX2_simulate⟩ ⟨Nat.le_of_ble_eq_true rfl, Nat.le_of_ble_eq_true rfl⟩) ⟨bX_blind, va_recv hK3 hPc (ci := 2) (q0 := 0) rfl rfl, bX_pre (ws := []) hPc hK3 hDc hN hX hS hF⟩ rfl rfl hl.1 rfl (lv_room (Nat.le_of_ble_eq_true rfl)) dL_simulate_6 ⟨Nat.le_of_ble_eq_true rfl, Nat.le_of_ble_eq_true rfl⟩) hS (fun q _ h => hF q h) hF (fun q _ h => hF q h) (fun E ce q9 u t H1 lc ht hvm hpx hBX hz1 hk1 hS hce hcv hcl => ?_) (fun r u t H1 lc ht hvm hw hB hz1 hk1 hS => ?_)
  · obtain ⟨hR, hne⟩ := hpx
    obtain ⟨hE, hB⟩ := hBX
    rw [ht] at hB
    replace hP := zxL_S hP hD hk1 hB
    have hR1 : R.2.1 = u.1 := by rw [hR]
    have hR2 : R.2.2 = u.2 := by rw [hR]
    rcases hk with hk0 | hk1
    · exact absurd (hR1.symm.trans hk0) hne
    · have hE : E = "java/lang/IllegalArgumentException" := by rw [hE, hR1.symm.trans hk1]; rfl
      subst hE
      refine vx_catch hown [] _ [] (htab.trans rfl) (fun z hz => absurd hz List.not_mem_nil) (by decide) (by decide) (hts _ zw_4_14) (va_Nw.use rfl (hX.2.2.1 _ (List.mem_of_getElem? (i := 0) rfl))) hce hcv hcl ?_
      refine lv_astore (lv' := [(5, .ref q9), (0, .ref h), (1, .long p1), (3, .int p3), (4, .ref o)]) hx hb dL_simulate_14 hl (by decide) rfl (fun ls hl => ?_)
      refine lv_iconst (v := 1) hx hb dL_simulate_16 (by decide) ?_
      refine W.widen (k := 1) (n := 6) (Nat.le_of_ble_eq_true rfl) (Nat.le_of_ble_eq_true rfl) ?_
      exact W.iret hx hb hr (fun t ht hW => ⟨⟨1, (f, u.2), rfl, ⟨Or.inr (⟨hk1, rfl⟩), hR2.symm⟩, by show va_P D vwCl _ t.heap; rw [ht]; exact hP⟩, hS.F ht⟩) hS.2.2 dL_simulate_17
  · replace hw : R = (r, (0, u)) := hw
    rw [ht] at hB
    have hD := zxL_Da (S2 := u) (f2 := f) hD
    replace hP := zxL_S hP (zxL_Da (S2 := S) (f2 := f) hD) hk1 hB
    refine lv_i2l hx hb dL_simulate_9 rfl ?_
    refine va_last (D := D) hx hb hK hP hD hS 0 3 rfl rfl (vp_in_nI (n := 0) (N := 1) (by decide) (by decide)) dL_simulate_10 (fun H lc hP hD hS => ?_)
    refine lv_goto (tgt := 18) hx hb dL_simulate_11 (by decide) ?_
    refine lv_iconst (v := 0) hx hb dL_simulate_18 (by decide) ?_
    refine W.widen (k := 1) (n := 6) (Nat.le_of_ble_eq_true rfl) (Nat.le_of_ble_eq_true rfl) ?_
    exact W.iret hx hb hr (fun t ht hW => ⟨⟨0, (vp_updL f 0 r.toInt64, u), rfl, ⟨Or.inl ⟨by rw [hw], rfl, by rw [hw]; rfl⟩, by rw [hw]⟩, by show va_P D vwCl _ t.heap; rw [ht]; exact hP⟩, hS.F ht⟩) hS.2.2 dL_simulate_19

/-! the law: save -/
abbrev zsL_save : List Cond := .codeWith yL_save cL_save 4 (some .int) [(0, 9, 12, 24)] :: wsL_law
theorem zyL_save : yL_save.cls ≠ "java/lang/invoke/MethodHandle" ∧ yL_save.cls ≠ "java/lang/invoke/VarHandle" ∧ (parseMethodDescriptor yL_save.desc).map (fun d => d.parameters.length) = some 3 := by decide +kernel
abbrev rmL_save : Room := { frames := 7, cells := 1, slots := 6, locals := 104 }
set_option maxHeartbeats 4000000 in
set_option maxRecDepth 100000 in
theorem c_L_save (l : Launch) (hlt : l.stackTraces = false) (D : va_G) (cI cZ cT cL : ClassId) (o h : Nat) (hh : Nat → Nat) (aa : Nat → Nat → Nat) (f : Nat → Int64) (S : zx_B) (sz : Nat) (N : Nat) (p1 : Int32) {R : Int32 × (Nat × zx_B)} (hM : f_X2_save N p1 S = some R) (hk : R.2.1 = 0 ∨ R.2.1 = 3) : Met l yL_save zsL_save rmL_save (va_Pc [.ref h, .int p1, .ref o] (bY D (zx_ty4 cI cZ cT cL) (zxL cI cT cL o h hh aa f S) sz)) (va_Qi (fun r (u : (Nat → Int64) × zx_B) => ((R.2.1 = 0 ∧ r = 0 ∧ u.1 0 = R.1.toInt64) ∨ (R.2.1 = 3 ∧ r = 1)) ∧ u.2 = R.2.2) (fun u t => va_P D vwCl (zxL cI cT cL o h hh aa u.1 u.2) t.heap) (va_A (zxL cI cT cL o h hh aa f S) sz)) 1 6 (va_A (zxL cI cT cL o h hh aa f S) sz) := by
  refine va_MetW (cc := cL_save) (maxL := 4) (ret := (some .int)) (by decide) rfl ?_
  intro p e s m args below meth c s₁ B hml hv
  obtain ⟨rfl, ⟨⟨hsz, hP, hK, hD0, hN⟩, hX⟩, hNc⟩ := hv
  have hx := B.exec
  have hb := B.bytes
  have hr := B.returns
  have hts : ∀ w ∈ wsL_law, w.before _ s = true := fun w hw => atoms_spec (ws := zsL_save) B.pre w (List.mem_cons_of_mem _ hw)
  have htab := vx_table (x := yL_append) B (atoms_spec (ws := zsL_save) B.pre _ List.mem_cons_self)
  have hown : s.vm.findClass RL = some m.cls := findClass_of_methodNamed B.named
  have hlocks := B.notSynchronized
  subst hsz
  have hD := hD0.self (sz := s.heap.size)
  generalize hAe : va_A (zxL cI cT cL o h hh aa f S) s.heap.size = A at hD hX ⊢
  have hA : ∀ q : Nat, s.heap.size ≤ q → A q := fun q h => by rw [← hAe]; exact Or.inr h
  have hS : va_S A s.heap s.heap [] := va_S.rf
  have hl := lv_entry ([.ref h, .int p1, .ref o]) (n := 4) (Nat.le_of_ble_eq_true rfl)
  rw [lg_entry_eq]
  generalize (lg_sl ([.ref h, .int p1, .ref o]) ++ List.replicate (4 - (lg_sl ([.ref h, .int p1, .ref o])).length) Slot.unset).toArray = ls at hl ⊢
  have hl : lv_has ls 4 [(0, .ref h), (1, .int p1), (2, .ref o)] := hl
  have hK3 : va_K D vwCl (zx_ty cI cZ cT) s := hK.sub [0, 1, 2] rfl
  refine lv_aload_n hx hb dL_save_0 rfl (lv_at hl 2 rfl) ?_
  refine lv_iconst (v := 0) hx hb dL_save_1 (by decide) ?_
  refine lv_aload_n hx hb dL_save_2 rfl (lv_at hl 0 rfl) ?_
  refine lv_iload_n hx hb dL_save_3 rfl (lv_at hl 1 rfl) ?_
  have hPc := zxL_P hP
  have hDc := zxL_D hD
  have hF := zx_fW hDc hS hA
  refine vx_calli (vx_runV (As := [.int p1]) (rest := [.int 0, .ref o]) ⟨hx, hb, hml, hown, hts⟩ (c_X2_save l D cI cZ cT hlt h hh aa S _ N p1 hM) (cwV 1 hts (zg_V zw_34_16 zw_34_17 zw_34_18 zw_1_2 zw_34_19) rfl rfl rfl ⟨rfl, zyX2_save⟩ ⟨Nat.le_of_ble_eq_true rfl, Nat.le_of_ble_eq_true rfl⟩) ⟨bX_blind, va_recv hK3 hPc (ci := 2) (q0 := 0) rfl rfl, bX_pre (ws := []) hPc hK3 hDc hN hX hS hF⟩ rfl rfl hl.1 rfl (lv_room (Nat.le_of_ble_eq_true rfl)) dL_save_4 ⟨Nat.le_of_ble_eq_true rfl, Nat.le_of_ble_eq_true rfl⟩) hS (fun q _ h => hF q h) hF (fun q _ h => hF q h) (fun E ce q9 u t H1 lc ht hvm hpx hBX hz1 hk1 hS hce hcv hcl => ?_) (fun r u t H1 lc ht hvm hw hB hz1 hk1 hS => ?_)
  · obtain ⟨hR, hne⟩ := hpx
    obtain ⟨hE, hB⟩ := hBX
    rw [ht] at hB
    replace hP := zxL_S hP hD hk1 hB
    have hR1 : R.2.1 = u.1 := by rw [hR]
    have hR2 : R.2.2 = u.2 := by rw [hR]
    rcases hk with hk0 | hk1
    · exact absurd (hR1.symm.trans hk0) hne
    · have hE : E = "java/lang/IndexOutOfBoundsException" := by rw [hE, hR1.symm.trans hk1]; rfl
      subst hE
      refine vx_catch hown [] _ [] (htab.trans rfl) (fun z hz => absurd hz List.not_mem_nil) (by decide) (by decide) (hts _ zw_15_10) (va_Nw.use rfl (hX.2.2.1 _ (List.mem_of_getElem? (i := 2) rfl))) hce hcv hcl ?_
      refine lv_astore_n (lv' := [(3, .ref q9), (0, .ref h), (1, .int p1), (2, .ref o)]) hx hb dL_save_12 rfl hl (by decide) rfl (fun ls hl => ?_)
      refine lv_iconst (v := 1) hx hb dL_save_13 (by decide) ?_
      refine W.widen (k := 1) (n := 6) (Nat.le_of_ble_eq_true rfl) (Nat.le_of_ble_eq_true rfl) ?_
      exact W.iret hx hb hr (fun t ht hW => ⟨⟨1, (f, u.2), rfl, ⟨Or.inr (⟨hk1, rfl⟩), hR2.symm⟩, by show va_P D vwCl _ t.heap; rw [ht]; exact hP⟩, hS.F ht⟩) hS.2.2 dL_save_14
  · replace hw : R = (r, (0, u)) := hw
    rw [ht] at hB
    have hD := zxL_Da (S2 := u) (f2 := f) hD
    replace hP := zxL_S hP (zxL_Da (S2 := S) (f2 := f) hD) hk1 hB
    refine lv_i2l hx hb dL_save_7 rfl ?_
    refine va_last (D := D) hx hb hK hP hD hS 0 3 rfl rfl (vp_in_nI (n := 0) (N := 1) (by decide) (by decide)) dL_save_8 (fun H lc hP hD hS => ?_)
    refine lv_goto (tgt := 15) hx hb dL_save_9 (by decide) ?_
    refine lv_iconst (v := 0) hx hb dL_save_15 (by decide) ?_
    refine W.widen (k := 1) (n := 6) (Nat.le_of_ble_eq_true rfl) (Nat.le_of_ble_eq_true rfl) ?_
    exact W.iret hx hb hr (fun t ht hW => ⟨⟨0, (vp_updL f 0 r.toInt64, u), rfl, ⟨Or.inl ⟨by rw [hw], rfl, by rw [hw]; rfl⟩, by rw [hw]⟩, by show va_P D vwCl _ t.heap; rw [ht]; exact hP⟩, hS.F ht⟩) hS.2.2 dL_save_16

/-! the law: restore -/
abbrev zsL_restore : List Cond := .codeWith yL_restore cL_restore 4 (some .int) [(0, 9, 12, 24), (0, 9, 15, 15)] :: wsL_law
theorem zyL_restore : yL_restore.cls ≠ "java/lang/invoke/MethodHandle" ∧ yL_restore.cls ≠ "java/lang/invoke/VarHandle" ∧ (parseMethodDescriptor yL_restore.desc).map (fun d => d.parameters.length) = some 3 := by decide +kernel
abbrev rmL_restore : Room := { frames := 7, cells := 1, slots := 6, locals := 103 }
set_option maxHeartbeats 4000000 in
set_option maxRecDepth 100000 in
theorem c_L_restore (l : Launch) (hlt : l.stackTraces = false) (D : va_G) (cI cZ cT cL : ClassId) (o h : Nat) (hh : Nat → Nat) (aa : Nat → Nat → Nat) (f : Nat → Int64) (S : zx_B) (sz : Nat) (N : Nat) (p1 : Int32) {R : Int32 × (Nat × zx_B)} (hM : f_X2_restore N p1 S = some R) (hk : R.2.1 = 0 ∨ R.2.1 = 3 ∨ R.2.1 = 2) : Met l yL_restore zsL_restore rmL_restore (va_Pc [.ref h, .int p1, .ref o] (bY D (zx_ty4 cI cZ cT cL) (zxL cI cT cL o h hh aa f S) sz)) (va_Qi (fun r (u : (Nat → Int64) × zx_B) => ((R.2.1 = 0 ∧ r = 0 ∧ u.1 0 = R.1.toInt64) ∨ (R.2.1 = 3 ∧ r = 1) ∨ (R.2.1 = 2 ∧ r = 2)) ∧ u.2 = R.2.2) (fun u t => va_P D vwCl (zxL cI cT cL o h hh aa u.1 u.2) t.heap) (va_A (zxL cI cT cL o h hh aa f S) sz)) 1 6 (va_A (zxL cI cT cL o h hh aa f S) sz) := by
  refine va_MetW (cc := cL_restore) (maxL := 4) (ret := (some .int)) (by decide) rfl ?_
  intro p e s m args below meth c s₁ B hml hv
  obtain ⟨rfl, ⟨⟨hsz, hP, hK, hD0, hN⟩, hX⟩, hNc⟩ := hv
  have hx := B.exec
  have hb := B.bytes
  have hr := B.returns
  have hts : ∀ w ∈ wsL_law, w.before _ s = true := fun w hw => atoms_spec (ws := zsL_restore) B.pre w (List.mem_cons_of_mem _ hw)
  have htab := vx_table (x := yL_append) B (atoms_spec (ws := zsL_restore) B.pre _ List.mem_cons_self)
  have hown : s.vm.findClass RL = some m.cls := findClass_of_methodNamed B.named
  have hlocks := B.notSynchronized
  subst hsz
  have hD := hD0.self (sz := s.heap.size)
  generalize hAe : va_A (zxL cI cT cL o h hh aa f S) s.heap.size = A at hD hX ⊢
  have hA : ∀ q : Nat, s.heap.size ≤ q → A q := fun q h => by rw [← hAe]; exact Or.inr h
  have hS : va_S A s.heap s.heap [] := va_S.rf
  have hl := lv_entry ([.ref h, .int p1, .ref o]) (n := 4) (Nat.le_of_ble_eq_true rfl)
  rw [lg_entry_eq]
  generalize (lg_sl ([.ref h, .int p1, .ref o]) ++ List.replicate (4 - (lg_sl ([.ref h, .int p1, .ref o])).length) Slot.unset).toArray = ls at hl ⊢
  have hl : lv_has ls 4 [(0, .ref h), (1, .int p1), (2, .ref o)] := hl
  have hK3 : va_K D vwCl (zx_ty cI cZ cT) s := hK.sub [0, 1, 2] rfl
  refine lv_aload_n hx hb dL_restore_0 rfl (lv_at hl 2 rfl) ?_
  refine lv_iconst (v := 0) hx hb dL_restore_1 (by decide) ?_
  refine lv_aload_n hx hb dL_restore_2 rfl (lv_at hl 0 rfl) ?_
  refine lv_iload_n hx hb dL_restore_3 rfl (lv_at hl 1 rfl) ?_
  have hPc := zxL_P hP
  have hDc := zxL_D hD
  have hF := zx_fW hDc hS hA
  refine vx_calli (vx_runV (As := [.int p1]) (rest := [.int 0, .ref o]) ⟨hx, hb, hml, hown, hts⟩ (c_X2_restore l D cI cZ cT hlt h hh aa S _ N p1 hM) (cwV 1 hts (zg_V zw_35_4 zw_35_5 zw_35_6 zw_1_2 zw_35_7) rfl rfl rfl ⟨rfl, zyX2_restore⟩ ⟨Nat.le_of_ble_eq_true rfl, Nat.le_of_ble_eq_true rfl⟩) ⟨bX_blind, va_recv hK3 hPc (ci := 2) (q0 := 0) rfl rfl, bX_pre (ws := []) hPc hK3 hDc hN hX hS hF⟩ rfl rfl hl.1 rfl (lv_room (Nat.le_of_ble_eq_true rfl)) dL_restore_4 ⟨Nat.le_of_ble_eq_true rfl, Nat.le_of_ble_eq_true rfl⟩) hS (fun q _ h => hF q h) hF (fun q _ h => hF q h) (fun E ce q9 u t H1 lc ht hvm hpx hBX hz1 hk1 hS hce hcv hcl => ?_) (fun r u t H1 lc ht hvm hw hB hz1 hk1 hS => ?_)
  · obtain ⟨hR, hne⟩ := hpx
    obtain ⟨hE, hB⟩ := hBX
    rw [ht] at hB
    replace hP := zxL_S hP hD hk1 hB
    have hR1 : R.2.1 = u.1 := by rw [hR]
    have hR2 : R.2.2 = u.2 := by rw [hR]
    rcases hk with hk0 | hk1 | hk2
    · exact absurd (hR1.symm.trans hk0) hne
    · have hE : E = "java/lang/IndexOutOfBoundsException" := by rw [hE, hR1.symm.trans hk1]; rfl
      subst hE
      refine vx_catch hown [] _ [_] (htab.trans rfl) (fun z hz => absurd hz List.not_mem_nil) (by decide) (by decide) (hts _ zw_15_10) (va_Nw.use rfl (hX.2.2.1 _ (List.mem_of_getElem? (i := 2) rfl))) hce hcv hcl ?_
      refine lv_astore_n (lv' := [(3, .ref q9), (0, .ref h), (1, .int p1), (2, .ref o)]) hx hb dL_restore_12 rfl hl (by decide) rfl (fun ls hl => ?_)
      refine lv_iconst (v := 1) hx hb dL_restore_13 (by decide) ?_
      refine W.widen (k := 1) (n := 6) (Nat.le_of_ble_eq_true rfl) (Nat.le_of_ble_eq_true rfl) ?_
      exact W.iret hx hb hr (fun t ht hW => ⟨⟨1, (f, u.2), rfl, ⟨Or.inr (Or.inl ⟨hk1, rfl⟩), hR2.symm⟩, by show va_P D vwCl _ t.heap; rw [ht]; exact hP⟩, hS.F ht⟩) hS.2.2 dL_restore_14
    · have hE : E = "java/lang/IllegalStateException" := by rw [hE, hR1.symm.trans hk2]; rfl
      subst hE
      refine vx_catch hown [_] _ [] (htab.trans rfl) (fun z hz => by
        simp only [List.mem_cons, List.not_mem_nil, or_false] at hz
        rcases hz with rfl
        · exact Or.inr ⟨by decide, "java/lang/IndexOutOfBoundsException", hts _ zw_15_10, hNc 2 3 (by decide) (by decide) (by decide)⟩) (by decide) (by decide) (hts _ zw_4_15) (va_Nw.use rfl (hX.2.2.1 _ (List.mem_of_getElem? (i := 1) rfl))) hce hcv hcl ?_
      refine lv_astore_n (lv' := [(3, .ref q9), (0, .ref h), (1, .int p1), (2, .ref o)]) hx hb dL_restore_15 rfl hl (by decide) rfl (fun ls hl => ?_)
      refine lv_iconst (v := 2) hx hb dL_restore_16 (by decide) ?_
      refine W.widen (k := 1) (n := 6) (Nat.le_of_ble_eq_true rfl) (Nat.le_of_ble_eq_true rfl) ?_
      exact W.iret hx hb hr (fun t ht hW => ⟨⟨2, (f, u.2), rfl, ⟨Or.inr (Or.inr (⟨hk2, rfl⟩)), hR2.symm⟩, by show va_P D vwCl _ t.heap; rw [ht]; exact hP⟩, hS.F ht⟩) hS.2.2 dL_restore_17
  · replace hw : R = (r, (0, u)) := hw
    rw [ht] at hB
    have hD := zxL_Da (S2 := u) (f2 := f) hD
    replace hP := zxL_S hP (zxL_Da (S2 := S) (f2 := f) hD) hk1 hB
    refine lv_i2l hx hb dL_restore_7 rfl ?_
    refine va_last (D := D) hx hb hK hP hD hS 0 3 rfl rfl (vp_in_nI (n := 0) (N := 1) (by decide) (by decide)) dL_restore_8 (fun H lc hP hD hS => ?_)
    refine lv_goto (tgt := 18) hx hb dL_restore_9 (by decide) ?_
    refine lv_iconst (v := 0) hx hb dL_restore_18 (by decide) ?_
    refine W.widen (k := 1) (n := 6) (Nat.le_of_ble_eq_true rfl) (Nat.le_of_ble_eq_true rfl) ?_
    exact W.iret hx hb hr (fun t ht hW => ⟨⟨0, (vp_updL f 0 r.toInt64, u), rfl, ⟨Or.inl ⟨by rw [hw], rfl, by rw [hw]; rfl⟩, by rw [hw]⟩, by show va_P D vwCl _ t.heap; rw [ht]; exact hP⟩, hS.F ht⟩) hS.2.2 dL_restore_19
