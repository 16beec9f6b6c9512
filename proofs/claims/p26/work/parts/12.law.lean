/-! the law's methods: one object, or two side by side -/
theorem xW2_len {cI cT : ClassId} {h : Nat} {hh : Nat → Nat} {aa : Nat → Nat → Nat} {B : zx_B} : (xW2 cI cT h hh aa B).length = 205 := by
  show (zx_tr cI hh aa B 18).length + 7 = 205
  rw [zx_tr_len]
def zx_Nc (U : State) : Prop := ∀ i j : Nat, i < 4 ∧ 0 < i → j < 4 ∧ 0 < j → i ≠ j → va_Nc (zx_E i) (zx_E j) U
def bY (D : va_G) (tys : List (ClassId × FieldType)) (ws : va_W) (sz : Nat) : State → Prop := fun U => bX D tys ws sz U ∧ zx_Nc U
theorem bY_blind {av : List Value} {D : va_G} {tys : List (ClassId × FieldType)} {ws : va_W} {sz : Nat} : FrameBlind (va_Pc av (bY D tys ws sz)) := fun a U g mk q => by
  obtain ⟨q0, q1, q2⟩ := q
  have z := bX_blind (av := av) (D := D) (tys := tys) (ws := ws) (sz := sz) a U g mk ⟨q0, q1⟩
  exact ⟨q0, z.2, fun i j h1 h2 h3 => va_Nc.moved (u := U) (U := U.calling g mk a) (Vm.Alike.refl U.vm) (q2 i j h1 h2 h3)⟩
theorem bY_pre {av : List Value} {D : va_G} {tys : List (ClassId × FieldType)} {wc : va_W} {A : Nat → Prop} {s : State} {H H0 : Heap} {lc : List Loc} (hP : va_P D vwCl wc H) (hK : va_K D vwCl tys s) (hD : va_D A wc) (hN : ∀ w ∈ zx_nw, va_Nw w s) (hX : zx_X A s H0) (hNc : zx_Nc s) (hS : va_S A H0 H lc) (hF : ∀ q, va_A wc H.size q → A q) : ∀ U : State, U.heap = H → s.WarmedH U.vm → va_Pc av (bY D tys wc H.size) av.toArray U := fun U hU hW =>
  have z := bX_pre (ws := []) (av := av) hP hK hD hN hX hS hF U hU hW
  ⟨z.1, z.2, fun i j h1 h2 h3 => va_Nc.moved hW.alike (hNc i j h1 h2 h3)⟩
/-! two worlds side by side -/
section AP
variable {D : va_G} {cl : List vw_C} {A : Nat → Prop} {w1 w2 v1 v2 : va_W} {H H1 : Heap}
theorem zy_P1 (hP : va_P D cl (w1 ++ w2) H) : va_P D cl w1 H := zx_mP id (fun t ht => List.getElem?_append_left ht) hP
theorem zy_P2 (hP : va_P D cl (w1 ++ w2) H) : va_P D cl w2 H := zx_mP (fun t => w1.length + t) (fun t ht => by rw [List.getElem?_append_right (Nat.le_add_right _ _), Nat.add_sub_cancel_left]) hP
theorem zy_D1 (hD : va_D A (w1 ++ w2)) : va_D A w1 := zx_mD id (fun t ht => List.getElem?_append_left ht) (fun t u _ _ e => e) hD
theorem zy_D2 (hD : va_D A (w1 ++ w2)) : va_D A w2 := zx_mD (fun t => w1.length + t) (fun t ht => by rw [List.getElem?_append_right (Nat.le_add_right _ _), Nat.add_sub_cancel_left]) (fun t u _ _ e => by have e : w1.length + t = w1.length + u := e; omega) hD
theorem zy_S1 (hl : v1.length = w1.length) (hP : va_P D cl (w1 ++ w2) H) (hD : va_D A (w1 ++ w2)) (hk : ∀ q : Nat, q < H.size → ¬ va_A w1 H.size q → H1[q]? = H[q]?) (hB : va_P D cl v1 H1) : va_P D cl (v1 ++ w2) H1 :=
  zx_mS id (fun t ht => List.getElem?_append_left ht) hP hD hk hB (fun t ht => List.getElem?_append_left (by rw [hl]; exact ht)) (fun k hk => by
    by_cases c : k < w1.length
    · exact absurd rfl (hk k c)
    · rw [List.getElem?_append_right (by omega), List.getElem?_append_right (by omega), hl])
theorem zy_S2 (hl : v2.length = w2.length) (hP : va_P D cl (w1 ++ w2) H) (hD : va_D A (w1 ++ w2)) (hk : ∀ q : Nat, q < H.size → ¬ va_A w2 H.size q → H1[q]? = H[q]?) (hB : va_P D cl v2 H1) : va_P D cl (w1 ++ v2) H1 :=
  zx_mS (fun t => w1.length + t) (fun t ht => by rw [List.getElem?_append_right (Nat.le_add_right _ _), Nat.add_sub_cancel_left]) hP hD hk hB (fun t ht => by rw [List.getElem?_append_right (Nat.le_add_right _ _), Nat.add_sub_cancel_left]) (fun k hk => by
    by_cases c : k < w1.length
    · rw [List.getElem?_append_left c, List.getElem?_append_left c]
    · have hn : ¬ k - w1.length < w2.length := fun q => hk _ q (by omega)
      rw [List.getElem?_append_right (by omega), List.getElem?_append_right (by omega), List.getElem?_eq_none (by omega), List.getElem?_eq_none (by omega)])
end AP
abbrev xWD (cI cT : ClassId) (h : Nat) (hh : Nat → Nat) (aa : Nat → Nat → Nat) (h2 : Nat) (hh2 : Nat → Nat) (aa2 : Nat → Nat → Nat) (S Sp : zx_B) : va_W := xW2 cI cT h hh aa S ++ xW2 cI cT h2 hh2 aa2 Sp
theorem xWD_D {A : Nat → Prop} {cI cT : ClassId} {h : Nat} {hh : Nat → Nat} {aa : Nat → Nat → Nat} {h2 : Nat} {hh2 : Nat → Nat} {aa2 : Nat → Nat → Nat} {S Sp : zx_B} (S' Sp' : zx_B) (hD : va_D A (xWD cI cT h hh aa h2 hh2 aa2 S Sp)) : va_D A (xWD cI cT h hh aa h2 hh2 aa2 S' Sp') := zx_Deq (ws := xWD cI cT h hh aa h2 hh2 aa2 S Sp) (by simp only [xWD, xW2, List.map_append, List.map_cons]; rw [zx_tr_fst (B := S) (B' := S') 18, zx_tr_fst (B := Sp) (B' := Sp') 18]) hD

/-! the law: tryAdd -/
def f_L_tryAdd (N : Nat) (p1 : Int32) (p2 : Int32) (p3 : Int32) (p4 : Int32) (S : zx_B) : Option (Int32 × zx_B) := zx_b1 (f_X2_add N p1 p2 p3 p4 S) (fun R => if R.2.1 = 0 then some (R.1, R.2.2) else (if R.2.1 = 1 then some ((-9999002), R.2.2) else (if R.2.1 = 2 then some ((-9999003), R.2.2) else none)))
abbrev zsL_tryAdd : List Cond := .codeWith yL_tryAdd cL_tryAdd 6 (some .int) [(0, 9, 10, 13), (0, 9, 15, 16)] :: wsL_law
theorem zyL_tryAdd : yL_tryAdd.cls ≠ "java/lang/invoke/MethodHandle" ∧ yL_tryAdd.cls ≠ "java/lang/invoke/VarHandle" ∧ (parseMethodDescriptor yL_tryAdd.desc).map (fun d => d.parameters.length) = some 5 := by decide +kernel
abbrev rmL_tryAdd : Room := { frames := 7, cells := 1, slots := 6, locals := 152 }
set_option maxHeartbeats 4000000 in
set_option maxRecDepth 100000 in
theorem c_L_tryAdd (l : Launch) (hlt : l.stackTraces = false) (D : va_G) (cI cZ cT : ClassId) (h : Nat) (hh : Nat → Nat) (aa : Nat → Nat → Nat) (S : zx_B) (sz : Nat) (N : Nat) (p1 : Int32) (p2 : Int32) (p3 : Int32) (p4 : Int32) {Rr : Int32 × zx_B} (hM : f_L_tryAdd N p1 p2 p3 p4 S = some Rr) : Met l yL_tryAdd zsL_tryAdd rmL_tryAdd (va_Pc [.ref h, .int p1, .int p2, .int p3, .int p4] (bY D (zx_ty cI cZ cT) (xW2 cI cT h hh aa S) sz)) (va_Qi (fun r (u : zx_B) => Rr = (r, u)) (fun u t => va_P D vwCl (xW2 cI cT h hh aa u) t.heap) (va_A (xW2 cI cT h hh aa S) sz)) 1 6 (va_A (xW2 cI cT h hh aa S) sz) := by
  unfold f_L_tryAdd at hM
  obtain ⟨R, hX2, hM⟩ := zx_b1E hM
  refine va_MetW (cc := cL_tryAdd) (maxL := 6) (ret := (some .int)) (by decide) rfl ?_
  intro p e s m args below meth c s₁ B hml hv
  obtain ⟨rfl, ⟨⟨hsz, hP, hK, hD0, hN⟩, hX⟩, hNc⟩ := hv
  have hx := B.exec
  have hb := B.bytes
  have hr := B.returns
  have hts : ∀ w ∈ wsL_law, w.before _ s = true := fun w hw => atoms_spec (ws := zsL_tryAdd) B.pre w (List.mem_cons_of_mem _ hw)
  have htab := vx_table (x := yL_tryAdd) B (atoms_spec (ws := zsL_tryAdd) B.pre _ List.mem_cons_self)
  have hown : s.vm.findClass RL = some m.cls := findClass_of_methodNamed B.named
  have hlocks := B.notSynchronized
  subst hsz
  have hD := hD0.self (sz := s.heap.size)
  generalize hAe : va_A (xW2 cI cT h hh aa S) s.heap.size = A at hD hX ⊢
  have hA : ∀ q : Nat, s.heap.size ≤ q → A q := fun q h => by rw [← hAe]; exact Or.inr h
  have hS : va_S A s.heap s.heap [] := va_S.rf
  have hl := lv_entry ([.ref h, .int p1, .int p2, .int p3, .int p4]) (n := 6) (Nat.le_of_ble_eq_true rfl)
  rw [lg_entry_eq]
  generalize (lg_sl ([.ref h, .int p1, .int p2, .int p3, .int p4]) ++ List.replicate (6 - (lg_sl ([.ref h, .int p1, .int p2, .int p3, .int p4])).length) Slot.unset).toArray = ls at hl ⊢
  have hl : lv_has ls 6 [(0, .ref h), (1, .int p1), (2, .int p2), (3, .int p3), (4, .int p4)] := hl
  refine lv_aload_n hx hb dL_tryAdd_0 rfl (lv_at hl 0 rfl) ?_
  refine lv_iload_n hx hb dL_tryAdd_1 rfl (lv_at hl 1 rfl) ?_
  refine lv_iload_n hx hb dL_tryAdd_2 rfl (lv_at hl 2 rfl) ?_
  refine lv_iload_n hx hb dL_tryAdd_3 rfl (lv_at hl 3 rfl) ?_
  refine lv_iload hx hb dL_tryAdd_4 (lv_at hl 4 rfl) ?_
  have hF := zx_fW hD hS hA
  refine vx_calli (vx_runV (As := [.int p1, .int p2, .int p3, .int p4]) (rest := []) ⟨hx, hb, hml, hown, hts⟩ (c_X2_add l D cI cZ cT hlt h hh aa S _ N p1 p2 p3 p4 hX2) (cwV 4 hts (zg_V zw_17_16 zw_17_17 zw_17_18 zw_1_2 zw_17_19) rfl rfl rfl ⟨rfl, zyX2_add⟩ ⟨Nat.le_of_ble_eq_true rfl, Nat.le_of_ble_eq_true rfl⟩) ⟨bX_blind, va_recv hK hP (ci := 2) (q0 := 0) rfl rfl, bX_pre (ws := []) hP hK hD hN hX hS hF⟩ rfl rfl hl.1 rfl (lv_room (Nat.le_of_ble_eq_true rfl)) dL_tryAdd_6 ⟨Nat.le_of_ble_eq_true rfl, Nat.le_of_ble_eq_true rfl⟩) hS (fun q _ h => hF q h) hF (fun q _ h => hF q h) (fun E ce q9 u t H1 lc ht hvm hpx hBX hz1 hk1 hS hce hcv hcl => ?_) (fun r u t H1 lc ht hvm hw hB hz1 hk1 hS => ?_)
  · obtain ⟨hR, hne⟩ := hpx
    obtain ⟨hE, hB⟩ := hBX
    rw [ht] at hB
    replace hP := hB
    have hR1 : R.2.1 = u.1 := by rw [hR]
    have hR2 : R.2.2 = u.2 := by rw [hR]
    replace hM := zx_f (fun z => hne (hR1.symm.trans z)) hM
    by_cases hk0 : R.2.1 = 1
    · replace hM := zx_t hk0 hM
      have hE : E = "java/lang/IllegalArgumentException" := by rw [hE, hR1.symm.trans hk0]; rfl
      subst hE
      refine vx_catch hown [] _ [_] (htab.trans rfl) (fun z hz => absurd hz List.not_mem_nil) (by decide) (by decide) (hts _ zw_4_8) (va_Nw.use rfl (hX.2.2.1 _ (List.mem_of_getElem? (i := 0) rfl))) hce hcv hcl ?_
      refine lv_astore (lv' := [(5, .ref q9), (0, .ref h), (1, .int p1), (2, .int p2), (3, .int p3), (4, .int p4)]) hx hb dL_tryAdd_10 hl (by decide) rfl (fun ls hl => ?_)
      refine lv_ldc (v := (-9999002)) hx hb hown (hts _ zw_3_21) dL_tryAdd_12 ?_
      refine W.widen (k := 1) (n := 6) (Nat.le_of_ble_eq_true rfl) (Nat.le_of_ble_eq_true rfl) ?_
      exact W.iret hx hb hr (fun t ht hW => ⟨⟨(-9999002), u.2, rfl, by rw [← hR2]; exact (Option.some.inj hM).symm, by show va_P D vwCl _ t.heap; rw [ht]; exact hP⟩, hS.F ht⟩) hS.2.2 dL_tryAdd_14
    replace hM := zx_f hk0 hM
    by_cases hk1 : R.2.1 = 2
    · replace hM := zx_t hk1 hM
      have hE : E = "java/lang/IllegalStateException" := by rw [hE, hR1.symm.trans hk1]; rfl
      subst hE
      refine vx_catch hown [_] _ [] (htab.trans rfl) (fun z hz => by
        simp only [List.mem_cons, List.not_mem_nil, or_false] at hz
        rcases hz with rfl
        · exact Or.inr ⟨by decide, "java/lang/IllegalArgumentException", hts _ zw_4_8, hNc 2 1 (by decide) (by decide) (by decide)⟩) (by decide) (by decide) (hts _ zw_4_9) (va_Nw.use rfl (hX.2.2.1 _ (List.mem_of_getElem? (i := 1) rfl))) hce hcv hcl ?_
      refine lv_astore (lv' := [(5, .ref q9), (0, .ref h), (1, .int p1), (2, .int p2), (3, .int p3), (4, .int p4)]) hx hb dL_tryAdd_15 hl (by decide) rfl (fun ls hl => ?_)
      refine lv_ldc (v := (-9999003)) hx hb hown (hts _ zw_3_23) dL_tryAdd_17 ?_
      refine W.widen (k := 1) (n := 6) (Nat.le_of_ble_eq_true rfl) (Nat.le_of_ble_eq_true rfl) ?_
      exact W.iret hx hb hr (fun t ht hW => ⟨⟨(-9999003), u.2, rfl, by rw [← hR2]; exact (Option.some.inj hM).symm, by show va_P D vwCl _ t.heap; rw [ht]; exact hP⟩, hS.F ht⟩) hS.2.2 dL_tryAdd_19
    replace hM := zx_f hk1 hM
    cases hM
  · replace hw : R = (r, (0, u)) := hw
    have hw0 : R.2.1 = 0 := by rw [hw]
    replace hM := zx_t hw0 hM
    rw [ht] at hB
    replace hP := hB
    refine W.widen (k := 1) (n := 6) (Nat.le_of_ble_eq_true rfl) (Nat.le_of_ble_eq_true rfl) ?_
    exact W.iret hx hb hr (fun t ht hW => ⟨⟨r, u, rfl, by rw [← Option.some.inj hM, hw], by show va_P D vwCl _ t.heap; rw [ht]; exact hP⟩, hS.F ht⟩) hS.2.2 dL_tryAdd_9

/-! the law: tryWindow -/
def f_L_tryWindow (N : Nat) (p1 : Int32) (p2 : Int32) (p3 : Int32) (p4 : Int32) (S : zx_B) : Option (Int32 × zx_B) := zx_b1 (f_X2_window N p1 p2 p3 p4 S) (fun R => if R.2.1 = 0 then some (R.1, R.2.2) else (if R.2.1 = 1 then some ((-9999002), R.2.2) else none))
abbrev zsL_tryWindow : List Cond := .codeWith yL_tryWindow cL_tryWindow 6 (some .int) [(0, 9, 10, 13)] :: wsL_law
theorem zyL_tryWindow : yL_tryWindow.cls ≠ "java/lang/invoke/MethodHandle" ∧ yL_tryWindow.cls ≠ "java/lang/invoke/VarHandle" ∧ (parseMethodDescriptor yL_tryWindow.desc).map (fun d => d.parameters.length) = some 5 := by decide +kernel
abbrev rmL_tryWindow : Room := { frames := 7, cells := 1, slots := 6, locals := 108 }
set_option maxHeartbeats 4000000 in
set_option maxRecDepth 100000 in
theorem c_L_tryWindow (l : Launch) (hlt : l.stackTraces = false) (D : va_G) (cI cZ cT : ClassId) (h : Nat) (hh : Nat → Nat) (aa : Nat → Nat → Nat) (S : zx_B) (sz : Nat) (N : Nat) (p1 : Int32) (p2 : Int32) (p3 : Int32) (p4 : Int32) {Rr : Int32 × zx_B} (hM : f_L_tryWindow N p1 p2 p3 p4 S = some Rr) : Met l yL_tryWindow zsL_tryWindow rmL_tryWindow (va_Pc [.ref h, .int p1, .int p2, .int p3, .int p4] (bY D (zx_ty cI cZ cT) (xW2 cI cT h hh aa S) sz)) (va_Qi (fun r (u : zx_B) => Rr = (r, u)) (fun u t => va_P D vwCl (xW2 cI cT h hh aa u) t.heap) (va_A (xW2 cI cT h hh aa S) sz)) 1 6 (va_A (xW2 cI cT h hh aa S) sz) := by
  unfold f_L_tryWindow at hM
  obtain ⟨R, hX2, hM⟩ := zx_b1E hM
  refine va_MetW (cc := cL_tryWindow) (maxL := 6) (ret := (some .int)) (by decide) rfl ?_
  intro p e s m args below meth c s₁ B hml hv
  obtain ⟨rfl, ⟨⟨hsz, hP, hK, hD0, hN⟩, hX⟩, hNc⟩ := hv
  have hx := B.exec
  have hb := B.bytes
  have hr := B.returns
  have hts : ∀ w ∈ wsL_law, w.before _ s = true := fun w hw => atoms_spec (ws := zsL_tryWindow) B.pre w (List.mem_cons_of_mem _ hw)
  have htab := vx_table (x := yL_tryWindow) B (atoms_spec (ws := zsL_tryWindow) B.pre _ List.mem_cons_self)
  have hown : s.vm.findClass RL = some m.cls := findClass_of_methodNamed B.named
  have hlocks := B.notSynchronized
  subst hsz
  have hD := hD0.self (sz := s.heap.size)
  generalize hAe : va_A (xW2 cI cT h hh aa S) s.heap.size = A at hD hX ⊢
  have hA : ∀ q : Nat, s.heap.size ≤ q → A q := fun q h => by rw [← hAe]; exact Or.inr h
  have hS : va_S A s.heap s.heap [] := va_S.rf
  have hl := lv_entry ([.ref h, .int p1, .int p2, .int p3, .int p4]) (n := 6) (Nat.le_of_ble_eq_true rfl)
  rw [lg_entry_eq]
  generalize (lg_sl ([.ref h, .int p1, .int p2, .int p3, .int p4]) ++ List.replicate (6 - (lg_sl ([.ref h, .int p1, .int p2, .int p3, .int p4])).length) Slot.unset).toArray = ls at hl ⊢
  have hl : lv_has ls 6 [(0, .ref h), (1, .int p1), (2, .int p2), (3, .int p3), (4, .int p4)] := hl
  refine lv_aload_n hx hb dL_tryWindow_0 rfl (lv_at hl 0 rfl) ?_
  refine lv_iload_n hx hb dL_tryWindow_1 rfl (lv_at hl 1 rfl) ?_
  refine lv_iload_n hx hb dL_tryWindow_2 rfl (lv_at hl 2 rfl) ?_
  refine lv_iload_n hx hb dL_tryWindow_3 rfl (lv_at hl 3 rfl) ?_
  refine lv_iload hx hb dL_tryWindow_4 (lv_at hl 4 rfl) ?_
  have hF := zx_fW hD hS hA
  refine vx_calli (vx_runV (As := [.int p1, .int p2, .int p3, .int p4]) (rest := []) ⟨hx, hb, hml, hown, hts⟩ (c_X2_window l D cI cZ cT hlt h hh aa S _ N p1 p2 p3 p4 hX2) (cwV 4 hts (zg_V zw_18_0 zw_18_1 zw_18_2 zw_1_2 zw_18_3) rfl rfl rfl ⟨rfl, zyX2_window⟩ ⟨Nat.le_of_ble_eq_true rfl, Nat.le_of_ble_eq_true rfl⟩) ⟨bX_blind, va_recv hK hP (ci := 2) (q0 := 0) rfl rfl, bX_pre (ws := []) hP hK hD hN hX hS hF⟩ rfl rfl hl.1 rfl (lv_room (Nat.le_of_ble_eq_true rfl)) dL_tryWindow_6 ⟨Nat.le_of_ble_eq_true rfl, Nat.le_of_ble_eq_true rfl⟩) hS (fun q _ h => hF q h) hF (fun q _ h => hF q h) (fun E ce q9 u t H1 lc ht hvm hpx hBX hz1 hk1 hS hce hcv hcl => ?_) (fun r u t H1 lc ht hvm hw hB hz1 hk1 hS => ?_)
  · obtain ⟨hR, hne⟩ := hpx
    obtain ⟨hE, hB⟩ := hBX
    rw [ht] at hB
    replace hP := hB
    have hR1 : R.2.1 = u.1 := by rw [hR]
    have hR2 : R.2.2 = u.2 := by rw [hR]
    replace hM := zx_f (fun z => hne (hR1.symm.trans z)) hM
    by_cases hk0 : R.2.1 = 1
    · replace hM := zx_t hk0 hM
      have hE : E = "java/lang/IllegalArgumentException" := by rw [hE, hR1.symm.trans hk0]; rfl
      subst hE
      refine vx_catch hown [] _ [] (htab.trans rfl) (fun z hz => absurd hz List.not_mem_nil) (by decide) (by decide) (hts _ zw_4_8) (va_Nw.use rfl (hX.2.2.1 _ (List.mem_of_getElem? (i := 0) rfl))) hce hcv hcl ?_
      refine lv_astore (lv' := [(5, .ref q9), (0, .ref h), (1, .int p1), (2, .int p2), (3, .int p3), (4, .int p4)]) hx hb dL_tryWindow_10 hl (by decide) rfl (fun ls hl => ?_)
      refine lv_ldc (v := (-9999002)) hx hb hown (hts _ zw_3_21) dL_tryWindow_12 ?_
      refine W.widen (k := 1) (n := 6) (Nat.le_of_ble_eq_true rfl) (Nat.le_of_ble_eq_true rfl) ?_
      exact W.iret hx hb hr (fun t ht hW => ⟨⟨(-9999002), u.2, rfl, by rw [← hR2]; exact (Option.some.inj hM).symm, by show va_P D vwCl _ t.heap; rw [ht]; exact hP⟩, hS.F ht⟩) hS.2.2 dL_tryWindow_14
    replace hM := zx_f hk0 hM
    cases hM
  · replace hw : R = (r, (0, u)) := hw
    have hw0 : R.2.1 = 0 := by rw [hw]
    replace hM := zx_t hw0 hM
    rw [ht] at hB
    replace hP := hB
    refine W.widen (k := 1) (n := 6) (Nat.le_of_ble_eq_true rfl) (Nat.le_of_ble_eq_true rfl) ?_
    exact W.iret hx hb hr (fun t ht hW => ⟨⟨r, u, rfl, by rw [← Option.some.inj hM, hw], by show va_P D vwCl _ t.heap; rw [ht]; exact hP⟩, hS.F ht⟩) hS.2.2 dL_tryWindow_9

/-! the law: tryLooks -/
def f_L_tryLooks (N : Nat) (p1 : Int32) (p2 : Int32) (p3 : Int32) (p4 : Int32) (S : zx_B) : Option (Int32 × zx_B) := zx_b1 (f_X2_looks N p1 p2 p3 p4 S) (fun R => if R.2.1 = 0 then some (R.1, R.2.2) else (if R.2.1 = 1 then some ((-9999002), R.2.2) else none))
abbrev zsL_tryLooks : List Cond := .codeWith yL_tryLooks cL_tryLooks 6 (some .int) [(0, 9, 10, 13)] :: wsL_law
theorem zyL_tryLooks : yL_tryLooks.cls ≠ "java/lang/invoke/MethodHandle" ∧ yL_tryLooks.cls ≠ "java/lang/invoke/VarHandle" ∧ (parseMethodDescriptor yL_tryLooks.desc).map (fun d => d.parameters.length) = some 5 := by decide +kernel
abbrev rmL_tryLooks : Room := { frames := 7, cells := 1, slots := 6, locals := 106 }
set_option maxHeartbeats 4000000 in
set_option maxRecDepth 100000 in
theorem c_L_tryLooks (l : Launch) (hlt : l.stackTraces = false) (D : va_G) (cI cZ cT : ClassId) (h : Nat) (hh : Nat → Nat) (aa : Nat → Nat → Nat) (S : zx_B) (sz : Nat) (N : Nat) (p1 : Int32) (p2 : Int32) (p3 : Int32) (p4 : Int32) {Rr : Int32 × zx_B} (hM : f_L_tryLooks N p1 p2 p3 p4 S = some Rr) : Met l yL_tryLooks zsL_tryLooks rmL_tryLooks (va_Pc [.ref h, .int p1, .int p2, .int p3, .int p4] (bY D (zx_ty cI cZ cT) (xW2 cI cT h hh aa S) sz)) (va_Qi (fun r (u : zx_B) => Rr = (r, u)) (fun u t => va_P D vwCl (xW2 cI cT h hh aa u) t.heap) (va_A (xW2 cI cT h hh aa S) sz)) 1 6 (va_A (xW2 cI cT h hh aa S) sz) := by
  unfold f_L_tryLooks at hM
  obtain ⟨R, hX2, hM⟩ := zx_b1E hM
  refine va_MetW (cc := cL_tryLooks) (maxL := 6) (ret := (some .int)) (by decide) rfl ?_
  intro p e s m args below meth c s₁ B hml hv
  obtain ⟨rfl, ⟨⟨hsz, hP, hK, hD0, hN⟩, hX⟩, hNc⟩ := hv
  have hx := B.exec
  have hb := B.bytes
  have hr := B.returns
  have hts : ∀ w ∈ wsL_law, w.before _ s = true := fun w hw => atoms_spec (ws := zsL_tryLooks) B.pre w (List.mem_cons_of_mem _ hw)
  have htab := vx_table (x := yL_tryLooks) B (atoms_spec (ws := zsL_tryLooks) B.pre _ List.mem_cons_self)
  have hown : s.vm.findClass RL = some m.cls := findClass_of_methodNamed B.named
  have hlocks := B.notSynchronized
  subst hsz
  have hD := hD0.self (sz := s.heap.size)
  generalize hAe : va_A (xW2 cI cT h hh aa S) s.heap.size = A at hD hX ⊢
  have hA : ∀ q : Nat, s.heap.size ≤ q → A q := fun q h => by rw [← hAe]; exact Or.inr h
  have hS : va_S A s.heap s.heap [] := va_S.rf
  have hl := lv_entry ([.ref h, .int p1, .int p2, .int p3, .int p4]) (n := 6) (Nat.le_of_ble_eq_true rfl)
  rw [lg_entry_eq]
  generalize (lg_sl ([.ref h, .int p1, .int p2, .int p3, .int p4]) ++ List.replicate (6 - (lg_sl ([.ref h, .int p1, .int p2, .int p3, .int p4])).length) Slot.unset).toArray = ls at hl ⊢
  have hl : lv_has ls 6 [(0, .ref h), (1, .int p1), (2, .int p2), (3, .int p3), (4, .int p4)] := hl
  refine lv_aload_n hx hb dL_tryLooks_0 rfl (lv_at hl 0 rfl) ?_
  refine lv_iload_n hx hb dL_tryLooks_1 rfl (lv_at hl 1 rfl) ?_
  refine lv_iload_n hx hb dL_tryLooks_2 rfl (lv_at hl 2 rfl) ?_
  refine lv_iload_n hx hb dL_tryLooks_3 rfl (lv_at hl 3 rfl) ?_
  refine lv_iload hx hb dL_tryLooks_4 (lv_at hl 4 rfl) ?_
  have hF := zx_fW hD hS hA
  refine vx_calli (vx_runV (As := [.int p1, .int p2, .int p3, .int p4]) (rest := []) ⟨hx, hb, hml, hown, hts⟩ (c_X2_looks l D cI cZ cT hlt h hh aa S _ N p1 p2 p3 p4 hX2) (cwV 4 hts (zg_V zw_18_8 zw_18_9 zw_18_10 zw_1_2 zw_18_11) rfl rfl rfl ⟨rfl, zyX2_looks⟩ ⟨Nat.le_of_ble_eq_true rfl, Nat.le_of_ble_eq_true rfl⟩) ⟨bX_blind, va_recv hK hP (ci := 2) (q0 := 0) rfl rfl, bX_pre (ws := []) hP hK hD hN hX hS hF⟩ rfl rfl hl.1 rfl (lv_room (Nat.le_of_ble_eq_true rfl)) dL_tryLooks_6 ⟨Nat.le_of_ble_eq_true rfl, Nat.le_of_ble_eq_true rfl⟩) hS (fun q _ h => hF q h) hF (fun q _ h => hF q h) (fun E ce q9 u t H1 lc ht hvm hpx hBX hz1 hk1 hS hce hcv hcl => ?_) (fun r u t H1 lc ht hvm hw hB hz1 hk1 hS => ?_)
  · obtain ⟨hR, hne⟩ := hpx
    obtain ⟨hE, hB⟩ := hBX
    rw [ht] at hB
    replace hP := hB
    have hR1 : R.2.1 = u.1 := by rw [hR]
    have hR2 : R.2.2 = u.2 := by rw [hR]
    replace hM := zx_f (fun z => hne (hR1.symm.trans z)) hM
    by_cases hk0 : R.2.1 = 1
    · replace hM := zx_t hk0 hM
      have hE : E = "java/lang/IllegalArgumentException" := by rw [hE, hR1.symm.trans hk0]; rfl
      subst hE
      refine vx_catch hown [] _ [] (htab.trans rfl) (fun z hz => absurd hz List.not_mem_nil) (by decide) (by decide) (hts _ zw_4_8) (va_Nw.use rfl (hX.2.2.1 _ (List.mem_of_getElem? (i := 0) rfl))) hce hcv hcl ?_
      refine lv_astore (lv' := [(5, .ref q9), (0, .ref h), (1, .int p1), (2, .int p2), (3, .int p3), (4, .int p4)]) hx hb dL_tryLooks_10 hl (by decide) rfl (fun ls hl => ?_)
      refine lv_ldc (v := (-9999002)) hx hb hown (hts _ zw_3_21) dL_tryLooks_12 ?_
      refine W.widen (k := 1) (n := 6) (Nat.le_of_ble_eq_true rfl) (Nat.le_of_ble_eq_true rfl) ?_
      exact W.iret hx hb hr (fun t ht hW => ⟨⟨(-9999002), u.2, rfl, by rw [← hR2]; exact (Option.some.inj hM).symm, by show va_P D vwCl _ t.heap; rw [ht]; exact hP⟩, hS.F ht⟩) hS.2.2 dL_tryLooks_14
    replace hM := zx_f hk0 hM
    cases hM
  · replace hw : R = (r, (0, u)) := hw
    have hw0 : R.2.1 = 0 := by rw [hw]
    replace hM := zx_t hw0 hM
    rw [ht] at hB
    replace hP := hB
    refine W.widen (k := 1) (n := 6) (Nat.le_of_ble_eq_true rfl) (Nat.le_of_ble_eq_true rfl) ?_
    exact W.iret hx hb hr (fun t ht hW => ⟨⟨r, u, rfl, by rw [← Option.some.inj hM, hw], by show va_P D vwCl _ t.heap; rw [ht]; exact hP⟩, hS.F ht⟩) hS.2.2 dL_tryLooks_9

/-! the law: tryChosen -/
def f_L_tryChosen (N : Nat) (p1 : Int32) (p2 : Int32) (p3 : Int32) (p4 : Int32) (S : zx_B) : Option (Int32 × zx_B) := zx_b1 (f_X2_chosen N p1 p2 p3 p4 S) (fun R => if R.2.1 = 0 then some (R.1, R.2.2) else (if R.2.1 = 1 then some ((-9999002), R.2.2) else none))
abbrev zsL_tryChosen : List Cond := .codeWith yL_tryChosen cL_tryChosen 6 (some .int) [(0, 9, 10, 13)] :: wsL_law
theorem zyL_tryChosen : yL_tryChosen.cls ≠ "java/lang/invoke/MethodHandle" ∧ yL_tryChosen.cls ≠ "java/lang/invoke/VarHandle" ∧ (parseMethodDescriptor yL_tryChosen.desc).map (fun d => d.parameters.length) = some 5 := by decide +kernel
abbrev rmL_tryChosen : Room := { frames := 7, cells := 1, slots := 6, locals := 122 }
set_option maxHeartbeats 4000000 in
set_option maxRecDepth 100000 in
theorem c_L_tryChosen (l : Launch) (hlt : l.stackTraces = false) (D : va_G) (cI cZ cT : ClassId) (h : Nat) (hh : Nat → Nat) (aa : Nat → Nat → Nat) (S : zx_B) (sz : Nat) (N : Nat) (p1 : Int32) (p2 : Int32) (p3 : Int32) (p4 : Int32) {Rr : Int32 × zx_B} (hM : f_L_tryChosen N p1 p2 p3 p4 S = some Rr) : Met l yL_tryChosen zsL_tryChosen rmL_tryChosen (va_Pc [.ref h, .int p1, .int p2, .int p3, .int p4] (bY D (zx_ty cI cZ cT) (xW2 cI cT h hh aa S) sz)) (va_Qi (fun r (u : zx_B) => Rr = (r, u)) (fun u t => va_P D vwCl (xW2 cI cT h hh aa u) t.heap) (va_A (xW2 cI cT h hh aa S) sz)) 1 6 (va_A (xW2 cI cT h hh aa S) sz) := by
  unfold f_L_tryChosen at hM
  obtain ⟨R, hX2, hM⟩ := zx_b1E hM
  refine va_MetW (cc := cL_tryChosen) (maxL := 6) (ret := (some .int)) (by decide) rfl ?_
  intro p e s m args below meth c s₁ B hml hv
  obtain ⟨rfl, ⟨⟨hsz, hP, hK, hD0, hN⟩, hX⟩, hNc⟩ := hv
  have hx := B.exec
  have hb := B.bytes
  have hr := B.returns
  have hts : ∀ w ∈ wsL_law, w.before _ s = true := fun w hw => atoms_spec (ws := zsL_tryChosen) B.pre w (List.mem_cons_of_mem _ hw)
  have htab := vx_table (x := yL_tryChosen) B (atoms_spec (ws := zsL_tryChosen) B.pre _ List.mem_cons_self)
  have hown : s.vm.findClass RL = some m.cls := findClass_of_methodNamed B.named
  have hlocks := B.notSynchronized
  subst hsz
  have hD := hD0.self (sz := s.heap.size)
  generalize hAe : va_A (xW2 cI cT h hh aa S) s.heap.size = A at hD hX ⊢
  have hA : ∀ q : Nat, s.heap.size ≤ q → A q := fun q h => by rw [← hAe]; exact Or.inr h
  have hS : va_S A s.heap s.heap [] := va_S.rf
  have hl := lv_entry ([.ref h, .int p1, .int p2, .int p3, .int p4]) (n := 6) (Nat.le_of_ble_eq_true rfl)
  rw [lg_entry_eq]
  generalize (lg_sl ([.ref h, .int p1, .int p2, .int p3, .int p4]) ++ List.replicate (6 - (lg_sl ([.ref h, .int p1, .int p2, .int p3, .int p4])).length) Slot.unset).toArray = ls at hl ⊢
  have hl : lv_has ls 6 [(0, .ref h), (1, .int p1), (2, .int p2), (3, .int p3), (4, .int p4)] := hl
  refine lv_aload_n hx hb dL_tryChosen_0 rfl (lv_at hl 0 rfl) ?_
  refine lv_iload_n hx hb dL_tryChosen_1 rfl (lv_at hl 1 rfl) ?_
  refine lv_iload_n hx hb dL_tryChosen_2 rfl (lv_at hl 2 rfl) ?_
  refine lv_iload_n hx hb dL_tryChosen_3 rfl (lv_at hl 3 rfl) ?_
  refine lv_iload hx hb dL_tryChosen_4 (lv_at hl 4 rfl) ?_
  have hF := zx_fW hD hS hA
  refine vx_calli (vx_runV (As := [.int p1, .int p2, .int p3, .int p4]) (rest := []) ⟨hx, hb, hml, hown, hts⟩ (c_X2_chosen l D cI cZ cT hlt h hh aa S _ N p1 p2 p3 p4 hX2) (cwV 4 hts (zg_V zw_18_19 zw_18_20 zw_18_21 zw_1_2 zw_18_22) rfl rfl rfl ⟨rfl, zyX2_chosen⟩ ⟨Nat.le_of_ble_eq_true rfl, Nat.le_of_ble_eq_true rfl⟩) ⟨bX_blind, va_recv hK hP (ci := 2) (q0 := 0) rfl rfl, bX_pre (ws := []) hP hK hD hN hX hS hF⟩ rfl rfl hl.1 rfl (lv_room (Nat.le_of_ble_eq_true rfl)) dL_tryChosen_6 ⟨Nat.le_of_ble_eq_true rfl, Nat.le_of_ble_eq_true rfl⟩) hS (fun q _ h => hF q h) hF (fun q _ h => hF q h) (fun E ce q9 u t H1 lc ht hvm hpx hBX hz1 hk1 hS hce hcv hcl => ?_) (fun r u t H1 lc ht hvm hw hB hz1 hk1 hS => ?_)
  · obtain ⟨hR, hne⟩ := hpx
    obtain ⟨hE, hB⟩ := hBX
    rw [ht] at hB
    replace hP := hB
    have hR1 : R.2.1 = u.1 := by rw [hR]
    have hR2 : R.2.2 = u.2 := by rw [hR]
    replace hM := zx_f (fun z => hne (hR1.symm.trans z)) hM
    by_cases hk0 : R.2.1 = 1
    · replace hM := zx_t hk0 hM
      have hE : E = "java/lang/IllegalArgumentException" := by rw [hE, hR1.symm.trans hk0]; rfl
      subst hE
      refine vx_catch hown [] _ [] (htab.trans rfl) (fun z hz => absurd hz List.not_mem_nil) (by decide) (by decide) (hts _ zw_4_8) (va_Nw.use rfl (hX.2.2.1 _ (List.mem_of_getElem? (i := 0) rfl))) hce hcv hcl ?_
      refine lv_astore (lv' := [(5, .ref q9), (0, .ref h), (1, .int p1), (2, .int p2), (3, .int p3), (4, .int p4)]) hx hb dL_tryChosen_10 hl (by decide) rfl (fun ls hl => ?_)
      refine lv_ldc (v := (-9999002)) hx hb hown (hts _ zw_3_21) dL_tryChosen_12 ?_
      refine W.widen (k := 1) (n := 6) (Nat.le_of_ble_eq_true rfl) (Nat.le_of_ble_eq_true rfl) ?_
      exact W.iret hx hb hr (fun t ht hW => ⟨⟨(-9999002), u.2, rfl, by rw [← hR2]; exact (Option.some.inj hM).symm, by show va_P D vwCl _ t.heap; rw [ht]; exact hP⟩, hS.F ht⟩) hS.2.2 dL_tryChosen_14
    replace hM := zx_f hk0 hM
    cases hM
  · replace hw : R = (r, (0, u)) := hw
    have hw0 : R.2.1 = 0 := by rw [hw]
    replace hM := zx_t hw0 hM
    rw [ht] at hB
    replace hP := hB
    refine W.widen (k := 1) (n := 6) (Nat.le_of_ble_eq_true rfl) (Nat.le_of_ble_eq_true rfl) ?_
    exact W.iret hx hb hr (fun t ht hW => ⟨⟨r, u, rfl, by rw [← Option.some.inj hM, hw], by show va_P D vwCl _ t.heap; rw [ht]; exact hP⟩, hS.F ht⟩) hS.2.2 dL_tryChosen_9

/-! the law: tryIfAdded -/
def f_L_tryIfAdded (N : Nat) (p1 : Int32) (p2 : Int32) (p3 : Int32) (p4 : Int32) (S : zx_B) : Option (Int32 × zx_B) := zx_b1 (f_X2_ifAdded N p1 p2 p3 p4 S) (fun R => if R.2.1 = 0 then some (R.1, R.2.2) else (if R.2.1 = 1 then some ((-9999002), R.2.2) else none))
abbrev zsL_tryIfAdded : List Cond := .codeWith yL_tryIfAdded cL_tryIfAdded 6 (some .int) [(0, 9, 10, 13)] :: wsL_law
theorem zyL_tryIfAdded : yL_tryIfAdded.cls ≠ "java/lang/invoke/MethodHandle" ∧ yL_tryIfAdded.cls ≠ "java/lang/invoke/VarHandle" ∧ (parseMethodDescriptor yL_tryIfAdded.desc).map (fun d => d.parameters.length) = some 5 := by decide +kernel
abbrev rmL_tryIfAdded : Room := { frames := 7, cells := 1, slots := 6, locals := 176 }
set_option maxHeartbeats 4000000 in
set_option maxRecDepth 100000 in
theorem c_L_tryIfAdded (l : Launch) (hlt : l.stackTraces = false) (D : va_G) (cI cZ cT : ClassId) (h : Nat) (hh : Nat → Nat) (aa : Nat → Nat → Nat) (S : zx_B) (sz : Nat) (N : Nat) (p1 : Int32) (p2 : Int32) (p3 : Int32) (p4 : Int32) {Rr : Int32 × zx_B} (hM : f_L_tryIfAdded N p1 p2 p3 p4 S = some Rr) : Met l yL_tryIfAdded zsL_tryIfAdded rmL_tryIfAdded (va_Pc [.ref h, .int p1, .int p2, .int p3, .int p4] (bY D (zx_ty cI cZ cT) (xW2 cI cT h hh aa S) sz)) (va_Qi (fun r (u : zx_B) => Rr = (r, u)) (fun u t => va_P D vwCl (xW2 cI cT h hh aa u) t.heap) (va_A (xW2 cI cT h hh aa S) sz)) 1 6 (va_A (xW2 cI cT h hh aa S) sz) := by
  unfold f_L_tryIfAdded at hM
  obtain ⟨R, hX2, hM⟩ := zx_b1E hM
  refine va_MetW (cc := cL_tryIfAdded) (maxL := 6) (ret := (some .int)) (by decide) rfl ?_
  intro p e s m args below meth c s₁ B hml hv
  obtain ⟨rfl, ⟨⟨hsz, hP, hK, hD0, hN⟩, hX⟩, hNc⟩ := hv
  have hx := B.exec
  have hb := B.bytes
  have hr := B.returns
  have hts : ∀ w ∈ wsL_law, w.before _ s = true := fun w hw => atoms_spec (ws := zsL_tryIfAdded) B.pre w (List.mem_cons_of_mem _ hw)
  have htab := vx_table (x := yL_tryIfAdded) B (atoms_spec (ws := zsL_tryIfAdded) B.pre _ List.mem_cons_self)
  have hown : s.vm.findClass RL = some m.cls := findClass_of_methodNamed B.named
  have hlocks := B.notSynchronized
  subst hsz
  have hD := hD0.self (sz := s.heap.size)
  generalize hAe : va_A (xW2 cI cT h hh aa S) s.heap.size = A at hD hX ⊢
  have hA : ∀ q : Nat, s.heap.size ≤ q → A q := fun q h => by rw [← hAe]; exact Or.inr h
  have hS : va_S A s.heap s.heap [] := va_S.rf
  have hl := lv_entry ([.ref h, .int p1, .int p2, .int p3, .int p4]) (n := 6) (Nat.le_of_ble_eq_true rfl)
  rw [lg_entry_eq]
  generalize (lg_sl ([.ref h, .int p1, .int p2, .int p3, .int p4]) ++ List.replicate (6 - (lg_sl ([.ref h, .int p1, .int p2, .int p3, .int p4])).length) Slot.unset).toArray = ls at hl ⊢
  have hl : lv_has ls 6 [(0, .ref h), (1, .int p1), (2, .int p2), (3, .int p3), (4, .int p4)] := hl
  refine lv_aload_n hx hb dL_tryIfAdded_0 rfl (lv_at hl 0 rfl) ?_
  refine lv_iload_n hx hb dL_tryIfAdded_1 rfl (lv_at hl 1 rfl) ?_
  refine lv_iload_n hx hb dL_tryIfAdded_2 rfl (lv_at hl 2 rfl) ?_
  refine lv_iload_n hx hb dL_tryIfAdded_3 rfl (lv_at hl 3 rfl) ?_
  refine lv_iload hx hb dL_tryIfAdded_4 (lv_at hl 4 rfl) ?_
  have hF := zx_fW hD hS hA
  refine vx_calli (vx_runV (As := [.int p1, .int p2, .int p3, .int p4]) (rest := []) ⟨hx, hb, hml, hown, hts⟩ (c_X2_ifAdded l D cI cZ cT hlt h hh aa S _ N p1 p2 p3 p4 hX2) (cwV 4 hts (zg_V zw_19_3 zw_19_4 zw_19_5 zw_1_2 zw_19_6) rfl rfl rfl ⟨rfl, zyX2_ifAdded⟩ ⟨Nat.le_of_ble_eq_true rfl, Nat.le_of_ble_eq_true rfl⟩) ⟨bX_blind, va_recv hK hP (ci := 2) (q0 := 0) rfl rfl, bX_pre (ws := []) hP hK hD hN hX hS hF⟩ rfl rfl hl.1 rfl (lv_room (Nat.le_of_ble_eq_true rfl)) dL_tryIfAdded_6 ⟨Nat.le_of_ble_eq_true rfl, Nat.le_of_ble_eq_true rfl⟩) hS (fun q _ h => hF q h) hF (fun q _ h => hF q h) (fun E ce q9 u t H1 lc ht hvm hpx hBX hz1 hk1 hS hce hcv hcl => ?_) (fun r u t H1 lc ht hvm hw hB hz1 hk1 hS => ?_)
  · obtain ⟨hR, hne⟩ := hpx
    obtain ⟨hE, hB⟩ := hBX
    rw [ht] at hB
    replace hP := hB
    have hR1 : R.2.1 = u.1 := by rw [hR]
    have hR2 : R.2.2 = u.2 := by rw [hR]
    replace hM := zx_f (fun z => hne (hR1.symm.trans z)) hM
    by_cases hk0 : R.2.1 = 1
    · replace hM := zx_t hk0 hM
      have hE : E = "java/lang/IllegalArgumentException" := by rw [hE, hR1.symm.trans hk0]; rfl
      subst hE
      refine vx_catch hown [] _ [] (htab.trans rfl) (fun z hz => absurd hz List.not_mem_nil) (by decide) (by decide) (hts _ zw_4_8) (va_Nw.use rfl (hX.2.2.1 _ (List.mem_of_getElem? (i := 0) rfl))) hce hcv hcl ?_
      refine lv_astore (lv' := [(5, .ref q9), (0, .ref h), (1, .int p1), (2, .int p2), (3, .int p3), (4, .int p4)]) hx hb dL_tryIfAdded_10 hl (by decide) rfl (fun ls hl => ?_)
      refine lv_ldc (v := (-9999002)) hx hb hown (hts _ zw_3_21) dL_tryIfAdded_12 ?_
      refine W.widen (k := 1) (n := 6) (Nat.le_of_ble_eq_true rfl) (Nat.le_of_ble_eq_true rfl) ?_
      exact W.iret hx hb hr (fun t ht hW => ⟨⟨(-9999002), u.2, rfl, by rw [← hR2]; exact (Option.some.inj hM).symm, by show va_P D vwCl _ t.heap; rw [ht]; exact hP⟩, hS.F ht⟩) hS.2.2 dL_tryIfAdded_14
    replace hM := zx_f hk0 hM
    cases hM
  · replace hw : R = (r, (0, u)) := hw
    have hw0 : R.2.1 = 0 := by rw [hw]
    replace hM := zx_t hw0 hM
    rw [ht] at hB
    replace hP := hB
    refine W.widen (k := 1) (n := 6) (Nat.le_of_ble_eq_true rfl) (Nat.le_of_ble_eq_true rfl) ?_
    exact W.iret hx hb hr (fun t ht hW => ⟨⟨r, u, rfl, by rw [← Option.some.inj hM, hw], by show va_P D vwCl _ t.heap; rw [ht]; exact hP⟩, hS.F ht⟩) hS.2.2 dL_tryIfAdded_9

/-! the law: tryScript -/
def f_L_tryScript (N : Nat) (p1 : Int32) (p2 : Int64) (S : zx_B) : Option (Int32 × zx_B) := zx_b1 (f_X2_runScript N p1 p2 S) (fun R => if R.2.1 = 0 then some (R.1, R.2.2) else (if R.2.1 = 1 then some ((-9999002), R.2.2) else none))
abbrev zsL_tryScript : List Cond := .codeWith yL_tryScript cL_tryScript 5 (some .int) [(0, 6, 7, 13)] :: wsL_law
theorem zyL_tryScript : yL_tryScript.cls ≠ "java/lang/invoke/MethodHandle" ∧ yL_tryScript.cls ≠ "java/lang/invoke/VarHandle" ∧ (parseMethodDescriptor yL_tryScript.desc).map (fun d => d.parameters.length) = some 3 := by decide +kernel
abbrev rmL_tryScript : Room := { frames := 8, cells := 1, slots := 6, locals := 206 }
set_option maxHeartbeats 4000000 in
set_option maxRecDepth 100000 in
theorem c_L_tryScript (l : Launch) (hlt : l.stackTraces = false) (D : va_G) (cI cZ cT : ClassId) (h : Nat) (hh : Nat → Nat) (aa : Nat → Nat → Nat) (S : zx_B) (sz : Nat) (N : Nat) (p1 : Int32) (p2 : Int64) {Rr : Int32 × zx_B} (hM : f_L_tryScript N p1 p2 S = some Rr) : Met l yL_tryScript zsL_tryScript rmL_tryScript (va_Pc [.ref h, .int p1, .long p2] (bY D (zx_ty cI cZ cT) (xW2 cI cT h hh aa S) sz)) (va_Qi (fun r (u : zx_B) => Rr = (r, u)) (fun u t => va_P D vwCl (xW2 cI cT h hh aa u) t.heap) (va_A (xW2 cI cT h hh aa S) sz)) 1 6 (va_A (xW2 cI cT h hh aa S) sz) := by
  unfold f_L_tryScript at hM
  obtain ⟨R, hX2, hM⟩ := zx_b1E hM
  refine va_MetW (cc := cL_tryScript) (maxL := 5) (ret := (some .int)) (by decide) rfl ?_
  intro p e s m args below meth c s₁ B hml hv
  obtain ⟨rfl, ⟨⟨hsz, hP, hK, hD0, hN⟩, hX⟩, hNc⟩ := hv
  have hx := B.exec
  have hb := B.bytes
  have hr := B.returns
  have hts : ∀ w ∈ wsL_law, w.before _ s = true := fun w hw => atoms_spec (ws := zsL_tryScript) B.pre w (List.mem_cons_of_mem _ hw)
  have htab := vx_table (x := yL_tryScript) B (atoms_spec (ws := zsL_tryScript) B.pre _ List.mem_cons_self)
  have hown : s.vm.findClass RL = some m.cls := findClass_of_methodNamed B.named
  have hlocks := B.notSynchronized
  subst hsz
  have hD := hD0.self (sz := s.heap.size)
  generalize hAe : va_A (xW2 cI cT h hh aa S) s.heap.size = A at hD hX ⊢
  have hA : ∀ q : Nat, s.heap.size ≤ q → A q := fun q h => by rw [← hAe]; exact Or.inr h
  have hS : va_S A s.heap s.heap [] := va_S.rf
  have hl := lv_entry ([.ref h, .int p1, .long p2]) (n := 5) (Nat.le_of_ble_eq_true rfl)
  rw [lg_entry_eq]
  generalize (lg_sl ([.ref h, .int p1, .long p2]) ++ List.replicate (5 - (lg_sl ([.ref h, .int p1, .long p2])).length) Slot.unset).toArray = ls at hl ⊢
  have hl : lv_has ls 5 [(0, .ref h), (1, .int p1), (2, .long p2)] := hl
  refine lv_aload_n hx hb dL_tryScript_0 rfl (lv_at hl 0 rfl) ?_
  refine lv_iload_n hx hb dL_tryScript_1 rfl (lv_at hl 1 rfl) ?_
  refine lv_lload_n hx hb dL_tryScript_2 rfl (lv_at hl 2 rfl) ?_
  have hF := zx_fW hD hS hA
  refine vx_calli (vx_runV (As := [.int p1, .long p2]) (rest := []) ⟨hx, hb, hml, hown, hts⟩ (c_X2_runScript l D cI cZ cT hlt h hh aa S _ N p1 p2 hX2) (cwV 2 hts (zg_V zw_19_15 zw_19_16 zw_19_17 zw_1_2 zw_19_18) rfl rfl rfl ⟨rfl, zyX2_runScript⟩ ⟨Nat.le_of_ble_eq_true rfl, Nat.le_of_ble_eq_true rfl⟩) ⟨bX_blind, va_recv hK hP (ci := 2) (q0 := 0) rfl rfl, bX_pre (ws := []) hP hK hD hN hX hS hF⟩ rfl rfl hl.1 rfl (lv_room (Nat.le_of_ble_eq_true rfl)) dL_tryScript_3 ⟨Nat.le_of_ble_eq_true rfl, Nat.le_of_ble_eq_true rfl⟩) hS (fun q _ h => hF q h) hF (fun q _ h => hF q h) (fun E ce q9 u t H1 lc ht hvm hpx hBX hz1 hk1 hS hce hcv hcl => ?_) (fun r u t H1 lc ht hvm hw hB hz1 hk1 hS => ?_)
  · obtain ⟨hR, hne⟩ := hpx
    obtain ⟨hE, hB⟩ := hBX
    rw [ht] at hB
    replace hP := hB
    have hR1 : R.2.1 = u.1 := by rw [hR]
    have hR2 : R.2.2 = u.2 := by rw [hR]
    replace hM := zx_f (fun z => hne (hR1.symm.trans z)) hM
    by_cases hk0 : R.2.1 = 1
    · replace hM := zx_t hk0 hM
      have hE : E = "java/lang/IllegalArgumentException" := by rw [hE, hR1.symm.trans hk0]; rfl
      subst hE
      refine vx_catch hown [] _ [] (htab.trans rfl) (fun z hz => absurd hz List.not_mem_nil) (by decide) (by decide) (hts _ zw_4_8) (va_Nw.use rfl (hX.2.2.1 _ (List.mem_of_getElem? (i := 0) rfl))) hce hcv hcl ?_
      refine lv_astore (lv' := [(4, .ref q9), (0, .ref h), (1, .int p1), (2, .long p2)]) hx hb dL_tryScript_7 hl (by decide) rfl (fun ls hl => ?_)
      refine lv_ldc (v := (-9999002)) hx hb hown (hts _ zw_3_21) dL_tryScript_9 ?_
      refine W.widen (k := 1) (n := 6) (Nat.le_of_ble_eq_true rfl) (Nat.le_of_ble_eq_true rfl) ?_
      exact W.iret hx hb hr (fun t ht hW => ⟨⟨(-9999002), u.2, rfl, by rw [← hR2]; exact (Option.some.inj hM).symm, by show va_P D vwCl _ t.heap; rw [ht]; exact hP⟩, hS.F ht⟩) hS.2.2 dL_tryScript_11
    replace hM := zx_f hk0 hM
    cases hM
  · replace hw : R = (r, (0, u)) := hw
    have hw0 : R.2.1 = 0 := by rw [hw]
    replace hM := zx_t hw0 hM
    rw [ht] at hB
    replace hP := hB
    refine W.widen (k := 1) (n := 6) (Nat.le_of_ble_eq_true rfl) (Nat.le_of_ble_eq_true rfl) ?_
    exact W.iret hx hb hr (fun t ht hW => ⟨⟨r, u, rfl, by rw [← Option.some.inj hM, hw], by show va_P D vwCl _ t.heap; rw [ht]; exact hP⟩, hS.F ht⟩) hS.2.2 dL_tryScript_6

/-! the law: trySimulate -/
def f_L_trySimulate (N : Nat) (p1 : Int64) (p3 : Int32) (S : zx_B) : Option (Int32 × zx_B) := zx_b1 (f_X2_simulate N p1 p3 S) (fun R => if R.2.1 = 0 then some (R.1, R.2.2) else (if R.2.1 = 1 then some ((-9999002), R.2.2) else none))
abbrev zsL_trySimulate : List Cond := .codeWith yL_trySimulate cL_trySimulate 5 (some .int) [(0, 6, 7, 13)] :: wsL_law
theorem zyL_trySimulate : yL_trySimulate.cls ≠ "java/lang/invoke/MethodHandle" ∧ yL_trySimulate.cls ≠ "java/lang/invoke/VarHandle" ∧ (parseMethodDescriptor yL_trySimulate.desc).map (fun d => d.parameters.length) = some 3 := by decide +kernel
abbrev rmL_trySimulate : Room := { frames := 8, cells := 1, slots := 6, locals := 202 }
set_option maxHeartbeats 4000000 in
set_option maxRecDepth 100000 in
theorem c_L_trySimulate (l : Launch) (hlt : l.stackTraces = false) (D : va_G) (cI cZ cT : ClassId) (h : Nat) (hh : Nat → Nat) (aa : Nat → Nat → Nat) (S : zx_B) (sz : Nat) (N : Nat) (p1 : Int64) (p3 : Int32) {Rr : Int32 × zx_B} (hM : f_L_trySimulate N p1 p3 S = some Rr) : Met l yL_trySimulate zsL_trySimulate rmL_trySimulate (va_Pc [.ref h, .long p1, .int p3] (bY D (zx_ty cI cZ cT) (xW2 cI cT h hh aa S) sz)) (va_Qi (fun r (u : zx_B) => Rr = (r, u)) (fun u t => va_P D vwCl (xW2 cI cT h hh aa u) t.heap) (va_A (xW2 cI cT h hh aa S) sz)) 1 6 (va_A (xW2 cI cT h hh aa S) sz) := by
  unfold f_L_trySimulate at hM
  obtain ⟨R, hX2, hM⟩ := zx_b1E hM
  refine va_MetW (cc := cL_trySimulate) (maxL := 5) (ret := (some .int)) (by decide) rfl ?_
  intro p e s m args below meth c s₁ B hml hv
  obtain ⟨rfl, ⟨⟨hsz, hP, hK, hD0, hN⟩, hX⟩, hNc⟩ := hv
  have hx := B.exec
  have hb := B.bytes
  have hr := B.returns
  have hts : ∀ w ∈ wsL_law, w.before _ s = true := fun w hw => atoms_spec (ws := zsL_trySimulate) B.pre w (List.mem_cons_of_mem _ hw)
  have htab := vx_table (x := yL_trySimulate) B (atoms_spec (ws := zsL_trySimulate) B.pre _ List.mem_cons_self)
  have hown : s.vm.findClass RL = some m.cls := findClass_of_methodNamed B.named
  have hlocks := B.notSynchronized
  subst hsz
  have hD := hD0.self (sz := s.heap.size)
  generalize hAe : va_A (xW2 cI cT h hh aa S) s.heap.size = A at hD hX ⊢
  have hA : ∀ q : Nat, s.heap.size ≤ q → A q := fun q h => by rw [← hAe]; exact Or.inr h
  have hS : va_S A s.heap s.heap [] := va_S.rf
  have hl := lv_entry ([.ref h, .long p1, .int p3]) (n := 5) (Nat.le_of_ble_eq_true rfl)
  rw [lg_entry_eq]
  generalize (lg_sl ([.ref h, .long p1, .int p3]) ++ List.replicate (5 - (lg_sl ([.ref h, .long p1, .int p3])).length) Slot.unset).toArray = ls at hl ⊢
  have hl : lv_has ls 5 [(0, .ref h), (1, .long p1), (3, .int p3)] := hl
  refine lv_aload_n hx hb dL_trySimulate_0 rfl (lv_at hl 0 rfl) ?_
  refine lv_lload_n hx hb dL_trySimulate_1 rfl (lv_at hl 1 rfl) ?_
  refine lv_iload_n hx hb dL_trySimulate_2 rfl (lv_at hl 2 rfl) ?_
  have hF := zx_fW hD hS hA
  refine vx_calli (vx_runV (As := [.long p1, .int p3]) (rest := []) ⟨hx, hb, hml, hown, hts⟩ (c_X2_simulate l D cI cZ cT hlt h hh aa S _ N p1 p3 hX2) (cwV 2 hts (zg_V zw_20_11 zw_20_12 zw_20_13 zw_1_2 zw_20_14) rfl rfl rfl ⟨rfl, zyX2_simulate⟩ ⟨Nat.le_of_ble_eq_true rfl, Nat.le_of_ble_eq_true rfl⟩) ⟨bX_blind, va_recv hK hP (ci := 2) (q0 := 0) rfl rfl, bX_pre (ws := []) hP hK hD hN hX hS hF⟩ rfl rfl hl.1 rfl (lv_room (Nat.le_of_ble_eq_true rfl)) dL_trySimulate_3 ⟨Nat.le_of_ble_eq_true rfl, Nat.le_of_ble_eq_true rfl⟩) hS (fun q _ h => hF q h) hF (fun q _ h => hF q h) (fun E ce q9 u t H1 lc ht hvm hpx hBX hz1 hk1 hS hce hcv hcl => ?_) (fun r u t H1 lc ht hvm hw hB hz1 hk1 hS => ?_)
  · obtain ⟨hR, hne⟩ := hpx
    obtain ⟨hE, hB⟩ := hBX
    rw [ht] at hB
    replace hP := hB
    have hR1 : R.2.1 = u.1 := by rw [hR]
    have hR2 : R.2.2 = u.2 := by rw [hR]
    replace hM := zx_f (fun z => hne (hR1.symm.trans z)) hM
    by_cases hk0 : R.2.1 = 1
    · replace hM := zx_t hk0 hM
      have hE : E = "java/lang/IllegalArgumentException" := by rw [hE, hR1.symm.trans hk0]; rfl
      subst hE
      refine vx_catch hown [] _ [] (htab.trans rfl) (fun z hz => absurd hz List.not_mem_nil) (by decide) (by decide) (hts _ zw_4_8) (va_Nw.use rfl (hX.2.2.1 _ (List.mem_of_getElem? (i := 0) rfl))) hce hcv hcl ?_
      refine lv_astore (lv' := [(4, .ref q9), (0, .ref h), (1, .long p1), (3, .int p3)]) hx hb dL_trySimulate_7 hl (by decide) rfl (fun ls hl => ?_)
      refine lv_ldc (v := (-9999002)) hx hb hown (hts _ zw_3_21) dL_trySimulate_9 ?_
      refine W.widen (k := 1) (n := 6) (Nat.le_of_ble_eq_true rfl) (Nat.le_of_ble_eq_true rfl) ?_
      exact W.iret hx hb hr (fun t ht hW => ⟨⟨(-9999002), u.2, rfl, by rw [← hR2]; exact (Option.some.inj hM).symm, by show va_P D vwCl _ t.heap; rw [ht]; exact hP⟩, hS.F ht⟩) hS.2.2 dL_trySimulate_11
    replace hM := zx_f hk0 hM
    cases hM
  · replace hw : R = (r, (0, u)) := hw
    have hw0 : R.2.1 = 0 := by rw [hw]
    replace hM := zx_t hw0 hM
    rw [ht] at hB
    replace hP := hB
    refine W.widen (k := 1) (n := 6) (Nat.le_of_ble_eq_true rfl) (Nat.le_of_ble_eq_true rfl) ?_
    exact W.iret hx hb hr (fun t ht hW => ⟨⟨r, u, rfl, by rw [← Option.some.inj hM, hw], by show va_P D vwCl _ t.heap; rw [ht]; exact hP⟩, hS.F ht⟩) hS.2.2 dL_trySimulate_6

/-! the law: tryAppend -/
def f_L_tryAppend (N : Nat) (p1 : Int32) (S : zx_B) : Option (Int32 × zx_B) := zx_b1 (f_X2_append N p1 S) (fun R => if R.2.1 = 0 then some (R.1, R.2.2) else (if R.2.1 = 1 then some ((-9999002), R.2.2) else (if R.2.1 = 2 then some ((-9999003), R.2.2) else none)))
abbrev zsL_tryAppend : List Cond := .codeWith yL_tryAppend cL_tryAppend 3 (some .int) [(0, 5, 6, 13), (0, 5, 10, 16)] :: wsL_law
theorem zyL_tryAppend : yL_tryAppend.cls ≠ "java/lang/invoke/MethodHandle" ∧ yL_tryAppend.cls ≠ "java/lang/invoke/VarHandle" ∧ (parseMethodDescriptor yL_tryAppend.desc).map (fun d => d.parameters.length) = some 2 := by decide +kernel
abbrev rmL_tryAppend : Room := { frames := 7, cells := 1, slots := 6, locals := 103 }
set_option maxHeartbeats 4000000 in
set_option maxRecDepth 100000 in
theorem c_L_tryAppend (l : Launch) (hlt : l.stackTraces = false) (D : va_G) (cI cZ cT : ClassId) (h : Nat) (hh : Nat → Nat) (aa : Nat → Nat → Nat) (S : zx_B) (sz : Nat) (N : Nat) (p1 : Int32) {Rr : Int32 × zx_B} (hM : f_L_tryAppend N p1 S = some Rr) : Met l yL_tryAppend zsL_tryAppend rmL_tryAppend (va_Pc [.ref h, .int p1] (bY D (zx_ty cI cZ cT) (xW2 cI cT h hh aa S) sz)) (va_Qi (fun r (u : zx_B) => Rr = (r, u)) (fun u t => va_P D vwCl (xW2 cI cT h hh aa u) t.heap) (va_A (xW2 cI cT h hh aa S) sz)) 1 6 (va_A (xW2 cI cT h hh aa S) sz) := by
  unfold f_L_tryAppend at hM
  obtain ⟨R, hX2, hM⟩ := zx_b1E hM
  refine va_MetW (cc := cL_tryAppend) (maxL := 3) (ret := (some .int)) (by decide) rfl ?_
  intro p e s m args below meth c s₁ B hml hv
  obtain ⟨rfl, ⟨⟨hsz, hP, hK, hD0, hN⟩, hX⟩, hNc⟩ := hv
  have hx := B.exec
  have hb := B.bytes
  have hr := B.returns
  have hts : ∀ w ∈ wsL_law, w.before _ s = true := fun w hw => atoms_spec (ws := zsL_tryAppend) B.pre w (List.mem_cons_of_mem _ hw)
  have htab := vx_table (x := yL_tryAppend) B (atoms_spec (ws := zsL_tryAppend) B.pre _ List.mem_cons_self)
  have hown : s.vm.findClass RL = some m.cls := findClass_of_methodNamed B.named
  have hlocks := B.notSynchronized
  subst hsz
  have hD := hD0.self (sz := s.heap.size)
  generalize hAe : va_A (xW2 cI cT h hh aa S) s.heap.size = A at hD hX ⊢
  have hA : ∀ q : Nat, s.heap.size ≤ q → A q := fun q h => by rw [← hAe]; exact Or.inr h
  have hS : va_S A s.heap s.heap [] := va_S.rf
  have hl := lv_entry ([.ref h, .int p1]) (n := 3) (Nat.le_of_ble_eq_true rfl)
  rw [lg_entry_eq]
  generalize (lg_sl ([.ref h, .int p1]) ++ List.replicate (3 - (lg_sl ([.ref h, .int p1])).length) Slot.unset).toArray = ls at hl ⊢
  have hl : lv_has ls 3 [(0, .ref h), (1, .int p1)] := hl
  refine lv_aload_n hx hb dL_tryAppend_0 rfl (lv_at hl 0 rfl) ?_
  refine lv_iload_n hx hb dL_tryAppend_1 rfl (lv_at hl 1 rfl) ?_
  have hF := zx_fW hD hS hA
  refine vx_calli (vx_runV (As := [.int p1]) (rest := []) ⟨hx, hb, hml, hown, hts⟩ (c_X2_append l D cI cZ cT hlt h hh aa S _ N p1 hX2) (cwV 1 hts (zg_V zw_4_10 zw_4_11 zw_4_12 zw_1_2 zw_4_13) rfl rfl rfl ⟨rfl, zyX2_append⟩ ⟨Nat.le_of_ble_eq_true rfl, Nat.le_of_ble_eq_true rfl⟩) ⟨bX_blind, va_recv hK hP (ci := 2) (q0 := 0) rfl rfl, bX_pre (ws := []) hP hK hD hN hX hS hF⟩ rfl rfl hl.1 rfl (lv_room (Nat.le_of_ble_eq_true rfl)) dL_tryAppend_2 ⟨Nat.le_of_ble_eq_true rfl, Nat.le_of_ble_eq_true rfl⟩) hS (fun q _ h => hF q h) hF (fun q _ h => hF q h) (fun E ce q9 u t H1 lc ht hvm hpx hBX hz1 hk1 hS hce hcv hcl => ?_) (fun r u t H1 lc ht hvm hw hB hz1 hk1 hS => ?_)
  · obtain ⟨hR, hne⟩ := hpx
    obtain ⟨hE, hB⟩ := hBX
    rw [ht] at hB
    replace hP := hB
    have hR1 : R.2.1 = u.1 := by rw [hR]
    have hR2 : R.2.2 = u.2 := by rw [hR]
    replace hM := zx_f (fun z => hne (hR1.symm.trans z)) hM
    by_cases hk0 : R.2.1 = 1
    · replace hM := zx_t hk0 hM
      have hE : E = "java/lang/IllegalArgumentException" := by rw [hE, hR1.symm.trans hk0]; rfl
      subst hE
      refine vx_catch hown [] _ [_] (htab.trans rfl) (fun z hz => absurd hz List.not_mem_nil) (by decide) (by decide) (hts _ zw_4_8) (va_Nw.use rfl (hX.2.2.1 _ (List.mem_of_getElem? (i := 0) rfl))) hce hcv hcl ?_
      refine lv_astore_n (lv' := [(2, .ref q9), (0, .ref h), (1, .int p1)]) hx hb dL_tryAppend_6 rfl hl (by decide) rfl (fun ls hl => ?_)
      refine lv_ldc (v := (-9999002)) hx hb hown (hts _ zw_3_21) dL_tryAppend_7 ?_
      refine W.widen (k := 1) (n := 6) (Nat.le_of_ble_eq_true rfl) (Nat.le_of_ble_eq_true rfl) ?_
      exact W.iret hx hb hr (fun t ht hW => ⟨⟨(-9999002), u.2, rfl, by rw [← hR2]; exact (Option.some.inj hM).symm, by show va_P D vwCl _ t.heap; rw [ht]; exact hP⟩, hS.F ht⟩) hS.2.2 dL_tryAppend_9
    replace hM := zx_f hk0 hM
    by_cases hk1 : R.2.1 = 2
    · replace hM := zx_t hk1 hM
      have hE : E = "java/lang/IllegalStateException" := by rw [hE, hR1.symm.trans hk1]; rfl
      subst hE
      refine vx_catch hown [_] _ [] (htab.trans rfl) (fun z hz => by
        simp only [List.mem_cons, List.not_mem_nil, or_false] at hz
        rcases hz with rfl
        · exact Or.inr ⟨by decide, "java/lang/IllegalArgumentException", hts _ zw_4_8, hNc 2 1 (by decide) (by decide) (by decide)⟩) (by decide) (by decide) (hts _ zw_4_9) (va_Nw.use rfl (hX.2.2.1 _ (List.mem_of_getElem? (i := 1) rfl))) hce hcv hcl ?_
      refine lv_astore_n (lv' := [(2, .ref q9), (0, .ref h), (1, .int p1)]) hx hb dL_tryAppend_10 rfl hl (by decide) rfl (fun ls hl => ?_)
      refine lv_ldc (v := (-9999003)) hx hb hown (hts _ zw_3_23) dL_tryAppend_11 ?_
      refine W.widen (k := 1) (n := 6) (Nat.le_of_ble_eq_true rfl) (Nat.le_of_ble_eq_true rfl) ?_
      exact W.iret hx hb hr (fun t ht hW => ⟨⟨(-9999003), u.2, rfl, by rw [← hR2]; exact (Option.some.inj hM).symm, by show va_P D vwCl _ t.heap; rw [ht]; exact hP⟩, hS.F ht⟩) hS.2.2 dL_tryAppend_13
    replace hM := zx_f hk1 hM
    cases hM
  · replace hw : R = (r, (0, u)) := hw
    have hw0 : R.2.1 = 0 := by rw [hw]
    replace hM := zx_t hw0 hM
    rw [ht] at hB
    replace hP := hB
    refine W.widen (k := 1) (n := 6) (Nat.le_of_ble_eq_true rfl) (Nat.le_of_ble_eq_true rfl) ?_
    exact W.iret hx hb hr (fun t ht hW => ⟨⟨r, u, rfl, by rw [← Option.some.inj hM, hw], by show va_P D vwCl _ t.heap; rw [ht]; exact hP⟩, hS.F ht⟩) hS.2.2 dL_tryAppend_5

/-! the law: tryAbout -/
def f_L_tryAbout (N : Nat) (p1 : Int32) (S : zx_B) : Option (Int32 × zx_B) := zx_b1 (f_X2_about N p1 S) (fun R => if R.2.1 = 0 then some (R.1, R.2.2) else (if R.2.1 = 1 then some ((-9999002), R.2.2) else none))
abbrev zsL_tryAbout : List Cond := .codeWith yL_tryAbout cL_tryAbout 3 (some .int) [(0, 5, 6, 13)] :: wsL_law
theorem zyL_tryAbout : yL_tryAbout.cls ≠ "java/lang/invoke/MethodHandle" ∧ yL_tryAbout.cls ≠ "java/lang/invoke/VarHandle" ∧ (parseMethodDescriptor yL_tryAbout.desc).map (fun d => d.parameters.length) = some 2 := by decide +kernel
abbrev rmL_tryAbout : Room := { frames := 7, cells := 1, slots := 6, locals := 117 }
set_option maxHeartbeats 4000000 in
set_option maxRecDepth 100000 in
theorem c_L_tryAbout (l : Launch) (hlt : l.stackTraces = false) (D : va_G) (cI cZ cT : ClassId) (h : Nat) (hh : Nat → Nat) (aa : Nat → Nat → Nat) (S : zx_B) (sz : Nat) (N : Nat) (p1 : Int32) {Rr : Int32 × zx_B} (hM : f_L_tryAbout N p1 S = some Rr) : Met l yL_tryAbout zsL_tryAbout rmL_tryAbout (va_Pc [.ref h, .int p1] (bY D (zx_ty cI cZ cT) (xW2 cI cT h hh aa S) sz)) (va_Qi (fun r (u : zx_B) => Rr = (r, u)) (fun u t => va_P D vwCl (xW2 cI cT h hh aa u) t.heap) (va_A (xW2 cI cT h hh aa S) sz)) 1 6 (va_A (xW2 cI cT h hh aa S) sz) := by
  unfold f_L_tryAbout at hM
  obtain ⟨R, hX2, hM⟩ := zx_b1E hM
  refine va_MetW (cc := cL_tryAbout) (maxL := 3) (ret := (some .int)) (by decide) rfl ?_
  intro p e s m args below meth c s₁ B hml hv
  obtain ⟨rfl, ⟨⟨hsz, hP, hK, hD0, hN⟩, hX⟩, hNc⟩ := hv
  have hx := B.exec
  have hb := B.bytes
  have hr := B.returns
  have hts : ∀ w ∈ wsL_law, w.before _ s = true := fun w hw => atoms_spec (ws := zsL_tryAbout) B.pre w (List.mem_cons_of_mem _ hw)
  have htab := vx_table (x := yL_tryAbout) B (atoms_spec (ws := zsL_tryAbout) B.pre _ List.mem_cons_self)
  have hown : s.vm.findClass RL = some m.cls := findClass_of_methodNamed B.named
  have hlocks := B.notSynchronized
  subst hsz
  have hD := hD0.self (sz := s.heap.size)
  generalize hAe : va_A (xW2 cI cT h hh aa S) s.heap.size = A at hD hX ⊢
  have hA : ∀ q : Nat, s.heap.size ≤ q → A q := fun q h => by rw [← hAe]; exact Or.inr h
  have hS : va_S A s.heap s.heap [] := va_S.rf
  have hl := lv_entry ([.ref h, .int p1]) (n := 3) (Nat.le_of_ble_eq_true rfl)
  rw [lg_entry_eq]
  generalize (lg_sl ([.ref h, .int p1]) ++ List.replicate (3 - (lg_sl ([.ref h, .int p1])).length) Slot.unset).toArray = ls at hl ⊢
  have hl : lv_has ls 3 [(0, .ref h), (1, .int p1)] := hl
  refine lv_aload_n hx hb dL_tryAbout_0 rfl (lv_at hl 0 rfl) ?_
  refine lv_iload_n hx hb dL_tryAbout_1 rfl (lv_at hl 1 rfl) ?_
  have hF := zx_fW hD hS hA
  refine vx_calli (vx_runV (As := [.int p1]) (rest := []) ⟨hx, hb, hml, hown, hts⟩ (c_X2_about l D cI cZ cT hlt h hh aa S _ N p1 hX2) (cwV 1 hts (zg_V zw_5_2 zw_5_3 zw_5_4 zw_1_2 zw_5_5) rfl rfl rfl ⟨rfl, zyX2_about⟩ ⟨Nat.le_of_ble_eq_true rfl, Nat.le_of_ble_eq_true rfl⟩) ⟨bX_blind, va_recv hK hP (ci := 2) (q0 := 0) rfl rfl, bX_pre (ws := []) hP hK hD hN hX hS hF⟩ rfl rfl hl.1 rfl (lv_room (Nat.le_of_ble_eq_true rfl)) dL_tryAbout_2 ⟨Nat.le_of_ble_eq_true rfl, Nat.le_of_ble_eq_true rfl⟩) hS (fun q _ h => hF q h) hF (fun q _ h => hF q h) (fun E ce q9 u t H1 lc ht hvm hpx hBX hz1 hk1 hS hce hcv hcl => ?_) (fun r u t H1 lc ht hvm hw hB hz1 hk1 hS => ?_)
  · obtain ⟨hR, hne⟩ := hpx
    obtain ⟨hE, hB⟩ := hBX
    rw [ht] at hB
    replace hP := hB
    have hR1 : R.2.1 = u.1 := by rw [hR]
    have hR2 : R.2.2 = u.2 := by rw [hR]
    replace hM := zx_f (fun z => hne (hR1.symm.trans z)) hM
    by_cases hk0 : R.2.1 = 1
    · replace hM := zx_t hk0 hM
      have hE : E = "java/lang/IllegalArgumentException" := by rw [hE, hR1.symm.trans hk0]; rfl
      subst hE
      refine vx_catch hown [] _ [] (htab.trans rfl) (fun z hz => absurd hz List.not_mem_nil) (by decide) (by decide) (hts _ zw_4_8) (va_Nw.use rfl (hX.2.2.1 _ (List.mem_of_getElem? (i := 0) rfl))) hce hcv hcl ?_
      refine lv_astore_n (lv' := [(2, .ref q9), (0, .ref h), (1, .int p1)]) hx hb dL_tryAbout_6 rfl hl (by decide) rfl (fun ls hl => ?_)
      refine lv_ldc (v := (-9999002)) hx hb hown (hts _ zw_3_21) dL_tryAbout_7 ?_
      refine W.widen (k := 1) (n := 6) (Nat.le_of_ble_eq_true rfl) (Nat.le_of_ble_eq_true rfl) ?_
      exact W.iret hx hb hr (fun t ht hW => ⟨⟨(-9999002), u.2, rfl, by rw [← hR2]; exact (Option.some.inj hM).symm, by show va_P D vwCl _ t.heap; rw [ht]; exact hP⟩, hS.F ht⟩) hS.2.2 dL_tryAbout_9
    replace hM := zx_f hk0 hM
    cases hM
  · replace hw : R = (r, (0, u)) := hw
    have hw0 : R.2.1 = 0 := by rw [hw]
    replace hM := zx_t hw0 hM
    rw [ht] at hB
    replace hP := hB
    refine W.widen (k := 1) (n := 6) (Nat.le_of_ble_eq_true rfl) (Nat.le_of_ble_eq_true rfl) ?_
    exact W.iret hx hb hr (fun t ht hW => ⟨⟨r, u, rfl, by rw [← Option.some.inj hM, hw], by show va_P D vwCl _ t.heap; rw [ht]; exact hP⟩, hS.F ht⟩) hS.2.2 dL_tryAbout_5

/-! the law: tryRect -/
def f_L_tryRect (N : Nat) (p1 : Int32) (p2 : Int32) (S : zx_B) : Option (Int32 × zx_B) := zx_b1 (f_X2_rectangle N p1 p2 S) (fun R => if R.2.1 = 0 then some (R.1, R.2.2) else (if R.2.1 = 3 then some ((-9999001), R.2.2) else (if R.2.1 = 1 then some ((-9999002), R.2.2) else none)))
abbrev zsL_tryRect : List Cond := .codeWith yL_tryRect cL_tryRect 4 (some .int) [(0, 6, 7, 50), (0, 6, 11, 13)] :: wsL_law
theorem zyL_tryRect : yL_tryRect.cls ≠ "java/lang/invoke/MethodHandle" ∧ yL_tryRect.cls ≠ "java/lang/invoke/VarHandle" ∧ (parseMethodDescriptor yL_tryRect.desc).map (fun d => d.parameters.length) = some 3 := by decide +kernel
abbrev rmL_tryRect : Room := { frames := 7, cells := 1, slots := 6, locals := 104 }
set_option maxHeartbeats 4000000 in
set_option maxRecDepth 100000 in
theorem c_L_tryRect (l : Launch) (hlt : l.stackTraces = false) (D : va_G) (cI cZ cT : ClassId) (h : Nat) (hh : Nat → Nat) (aa : Nat → Nat → Nat) (S : zx_B) (sz : Nat) (N : Nat) (p1 : Int32) (p2 : Int32) {Rr : Int32 × zx_B} (hM : f_L_tryRect N p1 p2 S = some Rr) : Met l yL_tryRect zsL_tryRect rmL_tryRect (va_Pc [.ref h, .int p1, .int p2] (bY D (zx_ty cI cZ cT) (xW2 cI cT h hh aa S) sz)) (va_Qi (fun r (u : zx_B) => Rr = (r, u)) (fun u t => va_P D vwCl (xW2 cI cT h hh aa u) t.heap) (va_A (xW2 cI cT h hh aa S) sz)) 1 6 (va_A (xW2 cI cT h hh aa S) sz) := by
  unfold f_L_tryRect at hM
  obtain ⟨R, hX2, hM⟩ := zx_b1E hM
  refine va_MetW (cc := cL_tryRect) (maxL := 4) (ret := (some .int)) (by decide) rfl ?_
  intro p e s m args below meth c s₁ B hml hv
  obtain ⟨rfl, ⟨⟨hsz, hP, hK, hD0, hN⟩, hX⟩, hNc⟩ := hv
  have hx := B.exec
  have hb := B.bytes
  have hr := B.returns
  have hts : ∀ w ∈ wsL_law, w.before _ s = true := fun w hw => atoms_spec (ws := zsL_tryRect) B.pre w (List.mem_cons_of_mem _ hw)
  have htab := vx_table (x := yL_tryRect) B (atoms_spec (ws := zsL_tryRect) B.pre _ List.mem_cons_self)
  have hown : s.vm.findClass RL = some m.cls := findClass_of_methodNamed B.named
  have hlocks := B.notSynchronized
  subst hsz
  have hD := hD0.self (sz := s.heap.size)
  generalize hAe : va_A (xW2 cI cT h hh aa S) s.heap.size = A at hD hX ⊢
  have hA : ∀ q : Nat, s.heap.size ≤ q → A q := fun q h => by rw [← hAe]; exact Or.inr h
  have hS : va_S A s.heap s.heap [] := va_S.rf
  have hl := lv_entry ([.ref h, .int p1, .int p2]) (n := 4) (Nat.le_of_ble_eq_true rfl)
  rw [lg_entry_eq]
  generalize (lg_sl ([.ref h, .int p1, .int p2]) ++ List.replicate (4 - (lg_sl ([.ref h, .int p1, .int p2])).length) Slot.unset).toArray = ls at hl ⊢
  have hl : lv_has ls 4 [(0, .ref h), (1, .int p1), (2, .int p2)] := hl
  refine lv_aload_n hx hb dL_tryRect_0 rfl (lv_at hl 0 rfl) ?_
  refine lv_iload_n hx hb dL_tryRect_1 rfl (lv_at hl 1 rfl) ?_
  refine lv_iload_n hx hb dL_tryRect_2 rfl (lv_at hl 2 rfl) ?_
  have hF := zx_fW hD hS hA
  refine vx_calli (vx_runV (As := [.int p1, .int p2]) (rest := []) ⟨hx, hb, hml, hown, hts⟩ (c_X2_rectangle l D cI cZ cT hlt h hh aa S _ N p1 p2 hX2) (cwV 2 hts (zg_V zw_7_2 zw_7_3 zw_7_4 zw_1_2 zw_7_5) rfl rfl rfl ⟨rfl, zyX2_rectangle⟩ ⟨Nat.le_of_ble_eq_true rfl, Nat.le_of_ble_eq_true rfl⟩) ⟨bX_blind, va_recv hK hP (ci := 2) (q0 := 0) rfl rfl, bX_pre (ws := []) hP hK hD hN hX hS hF⟩ rfl rfl hl.1 rfl (lv_room (Nat.le_of_ble_eq_true rfl)) dL_tryRect_3 ⟨Nat.le_of_ble_eq_true rfl, Nat.le_of_ble_eq_true rfl⟩) hS (fun q _ h => hF q h) hF (fun q _ h => hF q h) (fun E ce q9 u t H1 lc ht hvm hpx hBX hz1 hk1 hS hce hcv hcl => ?_) (fun r u t H1 lc ht hvm hw hB hz1 hk1 hS => ?_)
  · obtain ⟨hR, hne⟩ := hpx
    obtain ⟨hE, hB⟩ := hBX
    rw [ht] at hB
    replace hP := hB
    have hR1 : R.2.1 = u.1 := by rw [hR]
    have hR2 : R.2.2 = u.2 := by rw [hR]
    replace hM := zx_f (fun z => hne (hR1.symm.trans z)) hM
    by_cases hk0 : R.2.1 = 3
    · replace hM := zx_t hk0 hM
      have hE : E = "java/lang/IndexOutOfBoundsException" := by rw [hE, hR1.symm.trans hk0]; rfl
      subst hE
      refine vx_catch hown [] _ [_] (htab.trans rfl) (fun z hz => absurd hz List.not_mem_nil) (by decide) (by decide) (hts _ zw_7_1) (va_Nw.use rfl (hX.2.2.1 _ (List.mem_of_getElem? (i := 2) rfl))) hce hcv hcl ?_
      refine lv_astore_n (lv' := [(3, .ref q9), (0, .ref h), (1, .int p1), (2, .int p2)]) hx hb dL_tryRect_7 rfl hl (by decide) rfl (fun ls hl => ?_)
      refine lv_ldc (v := (-9999001)) hx hb hown (hts _ zw_3_22) dL_tryRect_8 ?_
      refine W.widen (k := 1) (n := 6) (Nat.le_of_ble_eq_true rfl) (Nat.le_of_ble_eq_true rfl) ?_
      exact W.iret hx hb hr (fun t ht hW => ⟨⟨(-9999001), u.2, rfl, by rw [← hR2]; exact (Option.some.inj hM).symm, by show va_P D vwCl _ t.heap; rw [ht]; exact hP⟩, hS.F ht⟩) hS.2.2 dL_tryRect_10
    replace hM := zx_f hk0 hM
    by_cases hk1 : R.2.1 = 1
    · replace hM := zx_t hk1 hM
      have hE : E = "java/lang/IllegalArgumentException" := by rw [hE, hR1.symm.trans hk1]; rfl
      subst hE
      refine vx_catch hown [_] _ [] (htab.trans rfl) (fun z hz => by
        simp only [List.mem_cons, List.not_mem_nil, or_false] at hz
        rcases hz with rfl
        · exact Or.inr ⟨by decide, "java/lang/IndexOutOfBoundsException", hts _ zw_7_1, hNc 1 3 (by decide) (by decide) (by decide)⟩) (by decide) (by decide) (hts _ zw_4_8) (va_Nw.use rfl (hX.2.2.1 _ (List.mem_of_getElem? (i := 0) rfl))) hce hcv hcl ?_
      refine lv_astore_n (lv' := [(3, .ref q9), (0, .ref h), (1, .int p1), (2, .int p2)]) hx hb dL_tryRect_11 rfl hl (by decide) rfl (fun ls hl => ?_)
      refine lv_ldc (v := (-9999002)) hx hb hown (hts _ zw_3_21) dL_tryRect_12 ?_
      refine W.widen (k := 1) (n := 6) (Nat.le_of_ble_eq_true rfl) (Nat.le_of_ble_eq_true rfl) ?_
      exact W.iret hx hb hr (fun t ht hW => ⟨⟨(-9999002), u.2, rfl, by rw [← hR2]; exact (Option.some.inj hM).symm, by show va_P D vwCl _ t.heap; rw [ht]; exact hP⟩, hS.F ht⟩) hS.2.2 dL_tryRect_14
    replace hM := zx_f hk1 hM
    cases hM
  · replace hw : R = (r, (0, u)) := hw
    have hw0 : R.2.1 = 0 := by rw [hw]
    replace hM := zx_t hw0 hM
    rw [ht] at hB
    replace hP := hB
    refine W.widen (k := 1) (n := 6) (Nat.le_of_ble_eq_true rfl) (Nat.le_of_ble_eq_true rfl) ?_
    exact W.iret hx hb hr (fun t ht hW => ⟨⟨r, u, rfl, by rw [← Option.some.inj hM, hw], by show va_P D vwCl _ t.heap; rw [ht]; exact hP⟩, hS.F ht⟩) hS.2.2 dL_tryRect_6

/-! the law: tryNode -/
def f_L_tryNode (N : Nat) (p1 : Int32) (p2 : Int32) (S : zx_B) : Option (Int32 × zx_B) := zx_b1 (f_X2_node N p1 p2 S) (fun R => if R.2.1 = 0 then some (R.1, R.2.2) else (if R.2.1 = 3 then some ((-9999001), R.2.2) else (if R.2.1 = 1 then some ((-9999002), R.2.2) else none)))
abbrev zsL_tryNode : List Cond := .codeWith yL_tryNode cL_tryNode 4 (some .int) [(0, 6, 7, 50), (0, 6, 11, 13)] :: wsL_law
theorem zyL_tryNode : yL_tryNode.cls ≠ "java/lang/invoke/MethodHandle" ∧ yL_tryNode.cls ≠ "java/lang/invoke/VarHandle" ∧ (parseMethodDescriptor yL_tryNode.desc).map (fun d => d.parameters.length) = some 3 := by decide +kernel
abbrev rmL_tryNode : Room := { frames := 7, cells := 1, slots := 6, locals := 105 }
set_option maxHeartbeats 4000000 in
set_option maxRecDepth 100000 in
theorem c_L_tryNode (l : Launch) (hlt : l.stackTraces = false) (D : va_G) (cI cZ cT : ClassId) (h : Nat) (hh : Nat → Nat) (aa : Nat → Nat → Nat) (S : zx_B) (sz : Nat) (N : Nat) (p1 : Int32) (p2 : Int32) {Rr : Int32 × zx_B} (hM : f_L_tryNode N p1 p2 S = some Rr) : Met l yL_tryNode zsL_tryNode rmL_tryNode (va_Pc [.ref h, .int p1, .int p2] (bY D (zx_ty cI cZ cT) (xW2 cI cT h hh aa S) sz)) (va_Qi (fun r (u : zx_B) => Rr = (r, u)) (fun u t => va_P D vwCl (xW2 cI cT h hh aa u) t.heap) (va_A (xW2 cI cT h hh aa S) sz)) 1 6 (va_A (xW2 cI cT h hh aa S) sz) := by
  unfold f_L_tryNode at hM
  obtain ⟨R, hX2, hM⟩ := zx_b1E hM
  refine va_MetW (cc := cL_tryNode) (maxL := 4) (ret := (some .int)) (by decide) rfl ?_
  intro p e s m args below meth c s₁ B hml hv
  obtain ⟨rfl, ⟨⟨hsz, hP, hK, hD0, hN⟩, hX⟩, hNc⟩ := hv
  have hx := B.exec
  have hb := B.bytes
  have hr := B.returns
  have hts : ∀ w ∈ wsL_law, w.before _ s = true := fun w hw => atoms_spec (ws := zsL_tryNode) B.pre w (List.mem_cons_of_mem _ hw)
  have htab := vx_table (x := yL_tryNode) B (atoms_spec (ws := zsL_tryNode) B.pre _ List.mem_cons_self)
  have hown : s.vm.findClass RL = some m.cls := findClass_of_methodNamed B.named
  have hlocks := B.notSynchronized
  subst hsz
  have hD := hD0.self (sz := s.heap.size)
  generalize hAe : va_A (xW2 cI cT h hh aa S) s.heap.size = A at hD hX ⊢
  have hA : ∀ q : Nat, s.heap.size ≤ q → A q := fun q h => by rw [← hAe]; exact Or.inr h
  have hS : va_S A s.heap s.heap [] := va_S.rf
  have hl := lv_entry ([.ref h, .int p1, .int p2]) (n := 4) (Nat.le_of_ble_eq_true rfl)
  rw [lg_entry_eq]
  generalize (lg_sl ([.ref h, .int p1, .int p2]) ++ List.replicate (4 - (lg_sl ([.ref h, .int p1, .int p2])).length) Slot.unset).toArray = ls at hl ⊢
  have hl : lv_has ls 4 [(0, .ref h), (1, .int p1), (2, .int p2)] := hl
  refine lv_aload_n hx hb dL_tryNode_0 rfl (lv_at hl 0 rfl) ?_
  refine lv_iload_n hx hb dL_tryNode_1 rfl (lv_at hl 1 rfl) ?_
  refine lv_iload_n hx hb dL_tryNode_2 rfl (lv_at hl 2 rfl) ?_
  have hF := zx_fW hD hS hA
  refine vx_calli (vx_runV (As := [.int p1, .int p2]) (rest := []) ⟨hx, hb, hml, hown, hts⟩ (c_X2_node l D cI cZ cT hlt h hh aa S _ N p1 p2 hX2) (cwV 2 hts (zg_V zw_8_3 zw_8_4 zw_8_5 zw_1_2 zw_8_6) rfl rfl rfl ⟨rfl, zyX2_node⟩ ⟨Nat.le_of_ble_eq_true rfl, Nat.le_of_ble_eq_true rfl⟩) ⟨bX_blind, va_recv hK hP (ci := 2) (q0 := 0) rfl rfl, bX_pre (ws := []) hP hK hD hN hX hS hF⟩ rfl rfl hl.1 rfl (lv_room (Nat.le_of_ble_eq_true rfl)) dL_tryNode_3 ⟨Nat.le_of_ble_eq_true rfl, Nat.le_of_ble_eq_true rfl⟩) hS (fun q _ h => hF q h) hF (fun q _ h => hF q h) (fun E ce q9 u t H1 lc ht hvm hpx hBX hz1 hk1 hS hce hcv hcl => ?_) (fun r u t H1 lc ht hvm hw hB hz1 hk1 hS => ?_)
  · obtain ⟨hR, hne⟩ := hpx
    obtain ⟨hE, hB⟩ := hBX
    rw [ht] at hB
    replace hP := hB
    have hR1 : R.2.1 = u.1 := by rw [hR]
    have hR2 : R.2.2 = u.2 := by rw [hR]
    replace hM := zx_f (fun z => hne (hR1.symm.trans z)) hM
    by_cases hk0 : R.2.1 = 3
    · replace hM := zx_t hk0 hM
      have hE : E = "java/lang/IndexOutOfBoundsException" := by rw [hE, hR1.symm.trans hk0]; rfl
      subst hE
      refine vx_catch hown [] _ [_] (htab.trans rfl) (fun z hz => absurd hz List.not_mem_nil) (by decide) (by decide) (hts _ zw_7_1) (va_Nw.use rfl (hX.2.2.1 _ (List.mem_of_getElem? (i := 2) rfl))) hce hcv hcl ?_
      refine lv_astore_n (lv' := [(3, .ref q9), (0, .ref h), (1, .int p1), (2, .int p2)]) hx hb dL_tryNode_7 rfl hl (by decide) rfl (fun ls hl => ?_)
      refine lv_ldc (v := (-9999001)) hx hb hown (hts _ zw_3_22) dL_tryNode_8 ?_
      refine W.widen (k := 1) (n := 6) (Nat.le_of_ble_eq_true rfl) (Nat.le_of_ble_eq_true rfl) ?_
      exact W.iret hx hb hr (fun t ht hW => ⟨⟨(-9999001), u.2, rfl, by rw [← hR2]; exact (Option.some.inj hM).symm, by show va_P D vwCl _ t.heap; rw [ht]; exact hP⟩, hS.F ht⟩) hS.2.2 dL_tryNode_10
    replace hM := zx_f hk0 hM
    by_cases hk1 : R.2.1 = 1
    · replace hM := zx_t hk1 hM
      have hE : E = "java/lang/IllegalArgumentException" := by rw [hE, hR1.symm.trans hk1]; rfl
      subst hE
      refine vx_catch hown [_] _ [] (htab.trans rfl) (fun z hz => by
        simp only [List.mem_cons, List.not_mem_nil, or_false] at hz
        rcases hz with rfl
        · exact Or.inr ⟨by decide, "java/lang/IndexOutOfBoundsException", hts _ zw_7_1, hNc 1 3 (by decide) (by decide) (by decide)⟩) (by decide) (by decide) (hts _ zw_4_8) (va_Nw.use rfl (hX.2.2.1 _ (List.mem_of_getElem? (i := 0) rfl))) hce hcv hcl ?_
      refine lv_astore_n (lv' := [(3, .ref q9), (0, .ref h), (1, .int p1), (2, .int p2)]) hx hb dL_tryNode_11 rfl hl (by decide) rfl (fun ls hl => ?_)
      refine lv_ldc (v := (-9999002)) hx hb hown (hts _ zw_3_21) dL_tryNode_12 ?_
      refine W.widen (k := 1) (n := 6) (Nat.le_of_ble_eq_true rfl) (Nat.le_of_ble_eq_true rfl) ?_
      exact W.iret hx hb hr (fun t ht hW => ⟨⟨(-9999002), u.2, rfl, by rw [← hR2]; exact (Option.some.inj hM).symm, by show va_P D vwCl _ t.heap; rw [ht]; exact hP⟩, hS.F ht⟩) hS.2.2 dL_tryNode_14
    replace hM := zx_f hk1 hM
    cases hM
  · replace hw : R = (r, (0, u)) := hw
    have hw0 : R.2.1 = 0 := by rw [hw]
    replace hM := zx_t hw0 hM
    rw [ht] at hB
    replace hP := hB
    refine W.widen (k := 1) (n := 6) (Nat.le_of_ble_eq_true rfl) (Nat.le_of_ble_eq_true rfl) ?_
    exact W.iret hx hb hr (fun t ht hW => ⟨⟨r, u, rfl, by rw [← Option.some.inj hM, hw], by show va_P D vwCl _ t.heap; rw [ht]; exact hP⟩, hS.F ht⟩) hS.2.2 dL_tryNode_6

/-! the law: tryEntry -/
def f_L_tryEntry (N : Nat) (p1 : Int32) (p2 : Int32) (S : zx_B) : Option (Int32 × zx_B) := zx_b1 (f_X2_entry N p1 p2 S) (fun R => if R.2.1 = 0 then some (R.1, R.2.2) else (if R.2.1 = 3 then some ((-9999001), R.2.2) else (if R.2.1 = 1 then some ((-9999002), R.2.2) else none)))
abbrev zsL_tryEntry : List Cond := .codeWith yL_tryEntry cL_tryEntry 4 (some .int) [(0, 6, 7, 50), (0, 6, 11, 13)] :: wsL_law
theorem zyL_tryEntry : yL_tryEntry.cls ≠ "java/lang/invoke/MethodHandle" ∧ yL_tryEntry.cls ≠ "java/lang/invoke/VarHandle" ∧ (parseMethodDescriptor yL_tryEntry.desc).map (fun d => d.parameters.length) = some 3 := by decide +kernel
abbrev rmL_tryEntry : Room := { frames := 7, cells := 1, slots := 6, locals := 106 }
set_option maxHeartbeats 4000000 in
set_option maxRecDepth 100000 in
theorem c_L_tryEntry (l : Launch) (hlt : l.stackTraces = false) (D : va_G) (cI cZ cT : ClassId) (h : Nat) (hh : Nat → Nat) (aa : Nat → Nat → Nat) (S : zx_B) (sz : Nat) (N : Nat) (p1 : Int32) (p2 : Int32) {Rr : Int32 × zx_B} (hM : f_L_tryEntry N p1 p2 S = some Rr) : Met l yL_tryEntry zsL_tryEntry rmL_tryEntry (va_Pc [.ref h, .int p1, .int p2] (bY D (zx_ty cI cZ cT) (xW2 cI cT h hh aa S) sz)) (va_Qi (fun r (u : zx_B) => Rr = (r, u)) (fun u t => va_P D vwCl (xW2 cI cT h hh aa u) t.heap) (va_A (xW2 cI cT h hh aa S) sz)) 1 6 (va_A (xW2 cI cT h hh aa S) sz) := by
  unfold f_L_tryEntry at hM
  obtain ⟨R, hX2, hM⟩ := zx_b1E hM
  refine va_MetW (cc := cL_tryEntry) (maxL := 4) (ret := (some .int)) (by decide) rfl ?_
  intro p e s m args below meth c s₁ B hml hv
  obtain ⟨rfl, ⟨⟨hsz, hP, hK, hD0, hN⟩, hX⟩, hNc⟩ := hv
  have hx := B.exec
  have hb := B.bytes
  have hr := B.returns
  have hts : ∀ w ∈ wsL_law, w.before _ s = true := fun w hw => atoms_spec (ws := zsL_tryEntry) B.pre w (List.mem_cons_of_mem _ hw)
  have htab := vx_table (x := yL_tryEntry) B (atoms_spec (ws := zsL_tryEntry) B.pre _ List.mem_cons_self)
  have hown : s.vm.findClass RL = some m.cls := findClass_of_methodNamed B.named
  have hlocks := B.notSynchronized
  subst hsz
  have hD := hD0.self (sz := s.heap.size)
  generalize hAe : va_A (xW2 cI cT h hh aa S) s.heap.size = A at hD hX ⊢
  have hA : ∀ q : Nat, s.heap.size ≤ q → A q := fun q h => by rw [← hAe]; exact Or.inr h
  have hS : va_S A s.heap s.heap [] := va_S.rf
  have hl := lv_entry ([.ref h, .int p1, .int p2]) (n := 4) (Nat.le_of_ble_eq_true rfl)
  rw [lg_entry_eq]
  generalize (lg_sl ([.ref h, .int p1, .int p2]) ++ List.replicate (4 - (lg_sl ([.ref h, .int p1, .int p2])).length) Slot.unset).toArray = ls at hl ⊢
  have hl : lv_has ls 4 [(0, .ref h), (1, .int p1), (2, .int p2)] := hl
  refine lv_aload_n hx hb dL_tryEntry_0 rfl (lv_at hl 0 rfl) ?_
  refine lv_iload_n hx hb dL_tryEntry_1 rfl (lv_at hl 1 rfl) ?_
  refine lv_iload_n hx hb dL_tryEntry_2 rfl (lv_at hl 2 rfl) ?_
  have hF := zx_fW hD hS hA
  refine vx_calli (vx_runV (As := [.int p1, .int p2]) (rest := []) ⟨hx, hb, hml, hown, hts⟩ (c_X2_entry l D cI cZ cT hlt h hh aa S _ N p1 p2 hX2) (cwV 2 hts (zg_V zw_8_18 zw_8_19 zw_8_20 zw_1_2 zw_8_21) rfl rfl rfl ⟨rfl, zyX2_entry⟩ ⟨Nat.le_of_ble_eq_true rfl, Nat.le_of_ble_eq_true rfl⟩) ⟨bX_blind, va_recv hK hP (ci := 2) (q0 := 0) rfl rfl, bX_pre (ws := []) hP hK hD hN hX hS hF⟩ rfl rfl hl.1 rfl (lv_room (Nat.le_of_ble_eq_true rfl)) dL_tryEntry_3 ⟨Nat.le_of_ble_eq_true rfl, Nat.le_of_ble_eq_true rfl⟩) hS (fun q _ h => hF q h) hF (fun q _ h => hF q h) (fun E ce q9 u t H1 lc ht hvm hpx hBX hz1 hk1 hS hce hcv hcl => ?_) (fun r u t H1 lc ht hvm hw hB hz1 hk1 hS => ?_)
  · obtain ⟨hR, hne⟩ := hpx
    obtain ⟨hE, hB⟩ := hBX
    rw [ht] at hB
    replace hP := hB
    have hR1 : R.2.1 = u.1 := by rw [hR]
    have hR2 : R.2.2 = u.2 := by rw [hR]
    replace hM := zx_f (fun z => hne (hR1.symm.trans z)) hM
    by_cases hk0 : R.2.1 = 3
    · replace hM := zx_t hk0 hM
      have hE : E = "java/lang/IndexOutOfBoundsException" := by rw [hE, hR1.symm.trans hk0]; rfl
      subst hE
      refine vx_catch hown [] _ [_] (htab.trans rfl) (fun z hz => absurd hz List.not_mem_nil) (by decide) (by decide) (hts _ zw_7_1) (va_Nw.use rfl (hX.2.2.1 _ (List.mem_of_getElem? (i := 2) rfl))) hce hcv hcl ?_
      refine lv_astore_n (lv' := [(3, .ref q9), (0, .ref h), (1, .int p1), (2, .int p2)]) hx hb dL_tryEntry_7 rfl hl (by decide) rfl (fun ls hl => ?_)
      refine lv_ldc (v := (-9999001)) hx hb hown (hts _ zw_3_22) dL_tryEntry_8 ?_
      refine W.widen (k := 1) (n := 6) (Nat.le_of_ble_eq_true rfl) (Nat.le_of_ble_eq_true rfl) ?_
      exact W.iret hx hb hr (fun t ht hW => ⟨⟨(-9999001), u.2, rfl, by rw [← hR2]; exact (Option.some.inj hM).symm, by show va_P D vwCl _ t.heap; rw [ht]; exact hP⟩, hS.F ht⟩) hS.2.2 dL_tryEntry_10
    replace hM := zx_f hk0 hM
    by_cases hk1 : R.2.1 = 1
    · replace hM := zx_t hk1 hM
      have hE : E = "java/lang/IllegalArgumentException" := by rw [hE, hR1.symm.trans hk1]; rfl
      subst hE
      refine vx_catch hown [_] _ [] (htab.trans rfl) (fun z hz => by
        simp only [List.mem_cons, List.not_mem_nil, or_false] at hz
        rcases hz with rfl
        · exact Or.inr ⟨by decide, "java/lang/IndexOutOfBoundsException", hts _ zw_7_1, hNc 1 3 (by decide) (by decide) (by decide)⟩) (by decide) (by decide) (hts _ zw_4_8) (va_Nw.use rfl (hX.2.2.1 _ (List.mem_of_getElem? (i := 0) rfl))) hce hcv hcl ?_
      refine lv_astore_n (lv' := [(3, .ref q9), (0, .ref h), (1, .int p1), (2, .int p2)]) hx hb dL_tryEntry_11 rfl hl (by decide) rfl (fun ls hl => ?_)
      refine lv_ldc (v := (-9999002)) hx hb hown (hts _ zw_3_21) dL_tryEntry_12 ?_
      refine W.widen (k := 1) (n := 6) (Nat.le_of_ble_eq_true rfl) (Nat.le_of_ble_eq_true rfl) ?_
      exact W.iret hx hb hr (fun t ht hW => ⟨⟨(-9999002), u.2, rfl, by rw [← hR2]; exact (Option.some.inj hM).symm, by show va_P D vwCl _ t.heap; rw [ht]; exact hP⟩, hS.F ht⟩) hS.2.2 dL_tryEntry_14
    replace hM := zx_f hk1 hM
    cases hM
  · replace hw : R = (r, (0, u)) := hw
    have hw0 : R.2.1 = 0 := by rw [hw]
    replace hM := zx_t hw0 hM
    rw [ht] at hB
    replace hP := hB
    refine W.widen (k := 1) (n := 6) (Nat.le_of_ble_eq_true rfl) (Nat.le_of_ble_eq_true rfl) ?_
    exact W.iret hx hb hr (fun t ht hW => ⟨⟨r, u, rfl, by rw [← Option.some.inj hM, hw], by show va_P D vwCl _ t.heap; rw [ht]; exact hP⟩, hS.F ht⟩) hS.2.2 dL_tryEntry_6

/-! the law: tryAddAll -/
def f_L_tryAddAll (N : Nat) (S : zx_B) : Option (Int32 × zx_B) := zx_b1 (f_X2_addAll N S) (fun R => if R.2.1 = 0 then some (R.1, R.2.2) else (if R.2.1 = 2 then some ((-9999003), R.2.2) else none))
abbrev zsL_tryAddAll : List Cond := .codeWith yL_tryAddAll cL_tryAddAll 2 (some .int) [(0, 4, 5, 16)] :: wsL_law
theorem zyL_tryAddAll : yL_tryAddAll.cls ≠ "java/lang/invoke/MethodHandle" ∧ yL_tryAddAll.cls ≠ "java/lang/invoke/VarHandle" ∧ (parseMethodDescriptor yL_tryAddAll.desc).map (fun d => d.parameters.length) = some 1 := by decide +kernel
abbrev rmL_tryAddAll : Room := { frames := 7, cells := 1, slots := 6, locals := 149 }
set_option maxHeartbeats 4000000 in
set_option maxRecDepth 100000 in
theorem c_L_tryAddAll (l : Launch) (hlt : l.stackTraces = false) (D : va_G) (cI cZ cT : ClassId) (h : Nat) (hh : Nat → Nat) (aa : Nat → Nat → Nat) (S : zx_B) (sz : Nat) (N : Nat) {Rr : Int32 × zx_B} (hM : f_L_tryAddAll N S = some Rr) : Met l yL_tryAddAll zsL_tryAddAll rmL_tryAddAll (va_Pc [.ref h] (bY D (zx_ty cI cZ cT) (xW2 cI cT h hh aa S) sz)) (va_Qi (fun r (u : zx_B) => Rr = (r, u)) (fun u t => va_P D vwCl (xW2 cI cT h hh aa u) t.heap) (va_A (xW2 cI cT h hh aa S) sz)) 1 6 (va_A (xW2 cI cT h hh aa S) sz) := by
  unfold f_L_tryAddAll at hM
  obtain ⟨R, hX2, hM⟩ := zx_b1E hM
  refine va_MetW (cc := cL_tryAddAll) (maxL := 2) (ret := (some .int)) (by decide) rfl ?_
  intro p e s m args below meth c s₁ B hml hv
  obtain ⟨rfl, ⟨⟨hsz, hP, hK, hD0, hN⟩, hX⟩, hNc⟩ := hv
  have hx := B.exec
  have hb := B.bytes
  have hr := B.returns
  have hts : ∀ w ∈ wsL_law, w.before _ s = true := fun w hw => atoms_spec (ws := zsL_tryAddAll) B.pre w (List.mem_cons_of_mem _ hw)
  have htab := vx_table (x := yL_tryAddAll) B (atoms_spec (ws := zsL_tryAddAll) B.pre _ List.mem_cons_self)
  have hown : s.vm.findClass RL = some m.cls := findClass_of_methodNamed B.named
  have hlocks := B.notSynchronized
  subst hsz
  have hD := hD0.self (sz := s.heap.size)
  generalize hAe : va_A (xW2 cI cT h hh aa S) s.heap.size = A at hD hX ⊢
  have hA : ∀ q : Nat, s.heap.size ≤ q → A q := fun q h => by rw [← hAe]; exact Or.inr h
  have hS : va_S A s.heap s.heap [] := va_S.rf
  have hl := lv_entry ([.ref h]) (n := 2) (Nat.le_of_ble_eq_true rfl)
  rw [lg_entry_eq]
  generalize (lg_sl ([.ref h]) ++ List.replicate (2 - (lg_sl ([.ref h])).length) Slot.unset).toArray = ls at hl ⊢
  have hl : lv_has ls 2 [(0, .ref h)] := hl
  refine lv_aload_n hx hb dL_tryAddAll_0 rfl (lv_at hl 0 rfl) ?_
  have hF := zx_fW hD hS hA
  refine vx_calli (vx_runV (As := []) (rest := []) ⟨hx, hb, hml, hown, hts⟩ (c_X2_addAll l D cI cZ cT hlt h hh aa S _ N hX2) (cwV 0 hts (zg_V zw_9_5 zw_9_6 zw_9_7 zw_1_2 zw_9_8) rfl rfl rfl ⟨rfl, zyX2_addAll⟩ ⟨Nat.le_of_ble_eq_true rfl, Nat.le_of_ble_eq_true rfl⟩) ⟨bX_blind, va_recv hK hP (ci := 2) (q0 := 0) rfl rfl, bX_pre (ws := []) hP hK hD hN hX hS hF⟩ rfl rfl hl.1 rfl (lv_room (Nat.le_of_ble_eq_true rfl)) dL_tryAddAll_1 ⟨Nat.le_of_ble_eq_true rfl, Nat.le_of_ble_eq_true rfl⟩) hS (fun q _ h => hF q h) hF (fun q _ h => hF q h) (fun E ce q9 u t H1 lc ht hvm hpx hBX hz1 hk1 hS hce hcv hcl => ?_) (fun r u t H1 lc ht hvm hw hB hz1 hk1 hS => ?_)
  · obtain ⟨hR, hne⟩ := hpx
    obtain ⟨hE, hB⟩ := hBX
    rw [ht] at hB
    replace hP := hB
    have hR1 : R.2.1 = u.1 := by rw [hR]
    have hR2 : R.2.2 = u.2 := by rw [hR]
    replace hM := zx_f (fun z => hne (hR1.symm.trans z)) hM
    by_cases hk0 : R.2.1 = 2
    · replace hM := zx_t hk0 hM
      have hE : E = "java/lang/IllegalStateException" := by rw [hE, hR1.symm.trans hk0]; rfl
      subst hE
      refine vx_catch hown [] _ [] (htab.trans rfl) (fun z hz => absurd hz List.not_mem_nil) (by decide) (by decide) (hts _ zw_4_9) (va_Nw.use rfl (hX.2.2.1 _ (List.mem_of_getElem? (i := 1) rfl))) hce hcv hcl ?_
      refine lv_astore_n (lv' := [(1, .ref q9), (0, .ref h)]) hx hb dL_tryAddAll_5 rfl hl (by decide) rfl (fun ls hl => ?_)
      refine lv_ldc (v := (-9999003)) hx hb hown (hts _ zw_3_23) dL_tryAddAll_6 ?_
      refine W.widen (k := 1) (n := 6) (Nat.le_of_ble_eq_true rfl) (Nat.le_of_ble_eq_true rfl) ?_
      exact W.iret hx hb hr (fun t ht hW => ⟨⟨(-9999003), u.2, rfl, by rw [← hR2]; exact (Option.some.inj hM).symm, by show va_P D vwCl _ t.heap; rw [ht]; exact hP⟩, hS.F ht⟩) hS.2.2 dL_tryAddAll_8
    replace hM := zx_f hk0 hM
    cases hM
  · replace hw : R = (r, (0, u)) := hw
    have hw0 : R.2.1 = 0 := by rw [hw]
    replace hM := zx_t hw0 hM
    rw [ht] at hB
    replace hP := hB
    refine W.widen (k := 1) (n := 6) (Nat.le_of_ble_eq_true rfl) (Nat.le_of_ble_eq_true rfl) ?_
    exact W.iret hx hb hr (fun t ht hW => ⟨⟨r, u, rfl, by rw [← Option.some.inj hM, hw], by show va_P D vwCl _ t.heap; rw [ht]; exact hP⟩, hS.F ht⟩) hS.2.2 dL_tryAddAll_4

/-! the law: tryRemove -/
def f_L_tryRemove (N : Nat) (p1 : Int32) (S : zx_B) : Option (Int32 × zx_B) := zx_b1 (f_X2_remove N p1 S) (fun R => if R.2.1 = 0 then some (R.1, R.2.2) else (if R.2.1 = 3 then some ((-9999001), R.2.2) else none))
abbrev zsL_tryRemove : List Cond := .codeWith yL_tryRemove cL_tryRemove 3 (some .int) [(0, 5, 6, 50)] :: wsL_law
theorem zyL_tryRemove : yL_tryRemove.cls ≠ "java/lang/invoke/MethodHandle" ∧ yL_tryRemove.cls ≠ "java/lang/invoke/VarHandle" ∧ (parseMethodDescriptor yL_tryRemove.desc).map (fun d => d.parameters.length) = some 2 := by decide +kernel
abbrev rmL_tryRemove : Room := { frames := 7, cells := 1, slots := 6, locals := 173 }
set_option maxHeartbeats 4000000 in
set_option maxRecDepth 100000 in
theorem c_L_tryRemove (l : Launch) (hlt : l.stackTraces = false) (D : va_G) (cI cZ cT : ClassId) (h : Nat) (hh : Nat → Nat) (aa : Nat → Nat → Nat) (S : zx_B) (sz : Nat) (N : Nat) (p1 : Int32) {Rr : Int32 × zx_B} (hM : f_L_tryRemove N p1 S = some Rr) : Met l yL_tryRemove zsL_tryRemove rmL_tryRemove (va_Pc [.ref h, .int p1] (bY D (zx_ty cI cZ cT) (xW2 cI cT h hh aa S) sz)) (va_Qi (fun r (u : zx_B) => Rr = (r, u)) (fun u t => va_P D vwCl (xW2 cI cT h hh aa u) t.heap) (va_A (xW2 cI cT h hh aa S) sz)) 1 6 (va_A (xW2 cI cT h hh aa S) sz) := by
  unfold f_L_tryRemove at hM
  obtain ⟨R, hX2, hM⟩ := zx_b1E hM
  refine va_MetW (cc := cL_tryRemove) (maxL := 3) (ret := (some .int)) (by decide) rfl ?_
  intro p e s m args below meth c s₁ B hml hv
  obtain ⟨rfl, ⟨⟨hsz, hP, hK, hD0, hN⟩, hX⟩, hNc⟩ := hv
  have hx := B.exec
  have hb := B.bytes
  have hr := B.returns
  have hts : ∀ w ∈ wsL_law, w.before _ s = true := fun w hw => atoms_spec (ws := zsL_tryRemove) B.pre w (List.mem_cons_of_mem _ hw)
  have htab := vx_table (x := yL_tryRemove) B (atoms_spec (ws := zsL_tryRemove) B.pre _ List.mem_cons_self)
  have hown : s.vm.findClass RL = some m.cls := findClass_of_methodNamed B.named
  have hlocks := B.notSynchronized
  subst hsz
  have hD := hD0.self (sz := s.heap.size)
  generalize hAe : va_A (xW2 cI cT h hh aa S) s.heap.size = A at hD hX ⊢
  have hA : ∀ q : Nat, s.heap.size ≤ q → A q := fun q h => by rw [← hAe]; exact Or.inr h
  have hS : va_S A s.heap s.heap [] := va_S.rf
  have hl := lv_entry ([.ref h, .int p1]) (n := 3) (Nat.le_of_ble_eq_true rfl)
  rw [lg_entry_eq]
  generalize (lg_sl ([.ref h, .int p1]) ++ List.replicate (3 - (lg_sl ([.ref h, .int p1])).length) Slot.unset).toArray = ls at hl ⊢
  have hl : lv_has ls 3 [(0, .ref h), (1, .int p1)] := hl
  refine lv_aload_n hx hb dL_tryRemove_0 rfl (lv_at hl 0 rfl) ?_
  refine lv_iload_n hx hb dL_tryRemove_1 rfl (lv_at hl 1 rfl) ?_
  have hF := zx_fW hD hS hA
  refine vx_calli (vx_runV (As := [.int p1]) (rest := []) ⟨hx, hb, hml, hown, hts⟩ (c_X2_remove l D cI cZ cT hlt h hh aa S _ N p1 hX2) (cwV 1 hts (zg_V zw_14_7 zw_14_8 zw_14_9 zw_1_2 zw_14_10) rfl rfl rfl ⟨rfl, zyX2_remove⟩ ⟨Nat.le_of_ble_eq_true rfl, Nat.le_of_ble_eq_true rfl⟩) ⟨bX_blind, va_recv hK hP (ci := 2) (q0 := 0) rfl rfl, bX_pre (ws := []) hP hK hD hN hX hS hF⟩ rfl rfl hl.1 rfl (lv_room (Nat.le_of_ble_eq_true rfl)) dL_tryRemove_2 ⟨Nat.le_of_ble_eq_true rfl, Nat.le_of_ble_eq_true rfl⟩) hS (fun q _ h => hF q h) hF (fun q _ h => hF q h) (fun E ce q9 u t H1 lc ht hvm hpx hBX hz1 hk1 hS hce hcv hcl => ?_) (fun r u t H1 lc ht hvm hw hB hz1 hk1 hS => ?_)
  · obtain ⟨hR, hne⟩ := hpx
    obtain ⟨hE, hB⟩ := hBX
    rw [ht] at hB
    replace hP := hB
    have hR1 : R.2.1 = u.1 := by rw [hR]
    have hR2 : R.2.2 = u.2 := by rw [hR]
    replace hM := zx_f (fun z => hne (hR1.symm.trans z)) hM
    by_cases hk0 : R.2.1 = 3
    · replace hM := zx_t hk0 hM
      have hE : E = "java/lang/IndexOutOfBoundsException" := by rw [hE, hR1.symm.trans hk0]; rfl
      subst hE
      refine vx_catch hown [] _ [] (htab.trans rfl) (fun z hz => absurd hz List.not_mem_nil) (by decide) (by decide) (hts _ zw_7_1) (va_Nw.use rfl (hX.2.2.1 _ (List.mem_of_getElem? (i := 2) rfl))) hce hcv hcl ?_
      refine lv_astore_n (lv' := [(2, .ref q9), (0, .ref h), (1, .int p1)]) hx hb dL_tryRemove_6 rfl hl (by decide) rfl (fun ls hl => ?_)
      refine lv_ldc (v := (-9999001)) hx hb hown (hts _ zw_3_22) dL_tryRemove_7 ?_
      refine W.widen (k := 1) (n := 6) (Nat.le_of_ble_eq_true rfl) (Nat.le_of_ble_eq_true rfl) ?_
      exact W.iret hx hb hr (fun t ht hW => ⟨⟨(-9999001), u.2, rfl, by rw [← hR2]; exact (Option.some.inj hM).symm, by show va_P D vwCl _ t.heap; rw [ht]; exact hP⟩, hS.F ht⟩) hS.2.2 dL_tryRemove_9
    replace hM := zx_f hk0 hM
    cases hM
  · replace hw : R = (r, (0, u)) := hw
    have hw0 : R.2.1 = 0 := by rw [hw]
    replace hM := zx_t hw0 hM
    rw [ht] at hB
    replace hP := hB
    refine W.widen (k := 1) (n := 6) (Nat.le_of_ble_eq_true rfl) (Nat.le_of_ble_eq_true rfl) ?_
    exact W.iret hx hb hr (fun t ht hW => ⟨⟨r, u, rfl, by rw [← Option.some.inj hM, hw], by show va_P D vwCl _ t.heap; rw [ht]; exact hP⟩, hS.F ht⟩) hS.2.2 dL_tryRemove_5

/-! the law: tryMove -/
def f_L_tryMove (N : Nat) (p1 : Int32) (p2 : Int32) (p3 : Int32) (S : zx_B) : Option (Int32 × zx_B) := zx_b1 (f_X2_move N p1 p2 p3 S) (fun R => if R.2.1 = 0 then some (R.1, R.2.2) else (if R.2.1 = 3 then some ((-9999001), R.2.2) else (if R.2.1 = 1 then some ((-9999002), R.2.2) else (if R.2.1 = 2 then some ((-9999003), R.2.2) else none))))
abbrev zsL_tryMove : List Cond := .codeWith yL_tryMove cL_tryMove 5 (some .int) [(0, 7, 8, 50), (0, 7, 13, 13), (0, 7, 18, 16)] :: wsL_law
theorem zyL_tryMove : yL_tryMove.cls ≠ "java/lang/invoke/MethodHandle" ∧ yL_tryMove.cls ≠ "java/lang/invoke/VarHandle" ∧ (parseMethodDescriptor yL_tryMove.desc).map (fun d => d.parameters.length) = some 4 := by decide +kernel
abbrev rmL_tryMove : Room := { frames := 7, cells := 1, slots := 6, locals := 175 }
set_option maxHeartbeats 4000000 in
set_option maxRecDepth 100000 in
theorem c_L_tryMove (l : Launch) (hlt : l.stackTraces = false) (D : va_G) (cI cZ cT : ClassId) (h : Nat) (hh : Nat → Nat) (aa : Nat → Nat → Nat) (S : zx_B) (sz : Nat) (N : Nat) (p1 : Int32) (p2 : Int32) (p3 : Int32) {Rr : Int32 × zx_B} (hM : f_L_tryMove N p1 p2 p3 S = some Rr) : Met l yL_tryMove zsL_tryMove rmL_tryMove (va_Pc [.ref h, .int p1, .int p2, .int p3] (bY D (zx_ty cI cZ cT) (xW2 cI cT h hh aa S) sz)) (va_Qi (fun r (u : zx_B) => Rr = (r, u)) (fun u t => va_P D vwCl (xW2 cI cT h hh aa u) t.heap) (va_A (xW2 cI cT h hh aa S) sz)) 1 6 (va_A (xW2 cI cT h hh aa S) sz) := by
  unfold f_L_tryMove at hM
  obtain ⟨R, hX2, hM⟩ := zx_b1E hM
  refine va_MetW (cc := cL_tryMove) (maxL := 5) (ret := (some .int)) (by decide) rfl ?_
  intro p e s m args below meth c s₁ B hml hv
  obtain ⟨rfl, ⟨⟨hsz, hP, hK, hD0, hN⟩, hX⟩, hNc⟩ := hv
  have hx := B.exec
  have hb := B.bytes
  have hr := B.returns
  have hts : ∀ w ∈ wsL_law, w.before _ s = true := fun w hw => atoms_spec (ws := zsL_tryMove) B.pre w (List.mem_cons_of_mem _ hw)
  have htab := vx_table (x := yL_tryMove) B (atoms_spec (ws := zsL_tryMove) B.pre _ List.mem_cons_self)
  have hown : s.vm.findClass RL = some m.cls := findClass_of_methodNamed B.named
  have hlocks := B.notSynchronized
  subst hsz
  have hD := hD0.self (sz := s.heap.size)
  generalize hAe : va_A (xW2 cI cT h hh aa S) s.heap.size = A at hD hX ⊢
  have hA : ∀ q : Nat, s.heap.size ≤ q → A q := fun q h => by rw [← hAe]; exact Or.inr h
  have hS : va_S A s.heap s.heap [] := va_S.rf
  have hl := lv_entry ([.ref h, .int p1, .int p2, .int p3]) (n := 5) (Nat.le_of_ble_eq_true rfl)
  rw [lg_entry_eq]
  generalize (lg_sl ([.ref h, .int p1, .int p2, .int p3]) ++ List.replicate (5 - (lg_sl ([.ref h, .int p1, .int p2, .int p3])).length) Slot.unset).toArray = ls at hl ⊢
  have hl : lv_has ls 5 [(0, .ref h), (1, .int p1), (2, .int p2), (3, .int p3)] := hl
  refine lv_aload_n hx hb dL_tryMove_0 rfl (lv_at hl 0 rfl) ?_
  refine lv_iload_n hx hb dL_tryMove_1 rfl (lv_at hl 1 rfl) ?_
  refine lv_iload_n hx hb dL_tryMove_2 rfl (lv_at hl 2 rfl) ?_
  refine lv_iload_n hx hb dL_tryMove_3 rfl (lv_at hl 3 rfl) ?_
  have hF := zx_fW hD hS hA
  refine vx_calli (vx_runV (As := [.int p1, .int p2, .int p3]) (rest := []) ⟨hx, hb, hml, hown, hts⟩ (c_X2_move l D cI cZ cT hlt h hh aa S _ N p1 p2 p3 hX2) (cwV 3 hts (zg_V zw_14_23 zw_15_0 zw_15_1 zw_1_2 zw_15_2) rfl rfl rfl ⟨rfl, zyX2_move⟩ ⟨Nat.le_of_ble_eq_true rfl, Nat.le_of_ble_eq_true rfl⟩) ⟨bX_blind, va_recv hK hP (ci := 2) (q0 := 0) rfl rfl, bX_pre (ws := []) hP hK hD hN hX hS hF⟩ rfl rfl hl.1 rfl (lv_room (Nat.le_of_ble_eq_true rfl)) dL_tryMove_4 ⟨Nat.le_of_ble_eq_true rfl, Nat.le_of_ble_eq_true rfl⟩) hS (fun q _ h => hF q h) hF (fun q _ h => hF q h) (fun E ce q9 u t H1 lc ht hvm hpx hBX hz1 hk1 hS hce hcv hcl => ?_) (fun r u t H1 lc ht hvm hw hB hz1 hk1 hS => ?_)
  · obtain ⟨hR, hne⟩ := hpx
    obtain ⟨hE, hB⟩ := hBX
    rw [ht] at hB
    replace hP := hB
    have hR1 : R.2.1 = u.1 := by rw [hR]
    have hR2 : R.2.2 = u.2 := by rw [hR]
    replace hM := zx_f (fun z => hne (hR1.symm.trans z)) hM
    by_cases hk0 : R.2.1 = 3
    · replace hM := zx_t hk0 hM
      have hE : E = "java/lang/IndexOutOfBoundsException" := by rw [hE, hR1.symm.trans hk0]; rfl
      subst hE
      refine vx_catch hown [] _ [_, _] (htab.trans rfl) (fun z hz => absurd hz List.not_mem_nil) (by decide) (by decide) (hts _ zw_7_1) (va_Nw.use rfl (hX.2.2.1 _ (List.mem_of_getElem? (i := 2) rfl))) hce hcv hcl ?_
      refine lv_astore (lv' := [(4, .ref q9), (0, .ref h), (1, .int p1), (2, .int p2), (3, .int p3)]) hx hb dL_tryMove_8 hl (by decide) rfl (fun ls hl => ?_)
      refine lv_ldc (v := (-9999001)) hx hb hown (hts _ zw_3_22) dL_tryMove_10 ?_
      refine W.widen (k := 1) (n := 6) (Nat.le_of_ble_eq_true rfl) (Nat.le_of_ble_eq_true rfl) ?_
      exact W.iret hx hb hr (fun t ht hW => ⟨⟨(-9999001), u.2, rfl, by rw [← hR2]; exact (Option.some.inj hM).symm, by show va_P D vwCl _ t.heap; rw [ht]; exact hP⟩, hS.F ht⟩) hS.2.2 dL_tryMove_12
    replace hM := zx_f hk0 hM
    by_cases hk1 : R.2.1 = 1
    · replace hM := zx_t hk1 hM
      have hE : E = "java/lang/IllegalArgumentException" := by rw [hE, hR1.symm.trans hk1]; rfl
      subst hE
      refine vx_catch hown [_] _ [_] (htab.trans rfl) (fun z hz => by
        simp only [List.mem_cons, List.not_mem_nil, or_false] at hz
        rcases hz with rfl
        · exact Or.inr ⟨by decide, "java/lang/IndexOutOfBoundsException", hts _ zw_7_1, hNc 1 3 (by decide) (by decide) (by decide)⟩) (by decide) (by decide) (hts _ zw_4_8) (va_Nw.use rfl (hX.2.2.1 _ (List.mem_of_getElem? (i := 0) rfl))) hce hcv hcl ?_
      refine lv_astore (lv' := [(4, .ref q9), (0, .ref h), (1, .int p1), (2, .int p2), (3, .int p3)]) hx hb dL_tryMove_13 hl (by decide) rfl (fun ls hl => ?_)
      refine lv_ldc (v := (-9999002)) hx hb hown (hts _ zw_3_21) dL_tryMove_15 ?_
      refine W.widen (k := 1) (n := 6) (Nat.le_of_ble_eq_true rfl) (Nat.le_of_ble_eq_true rfl) ?_
      exact W.iret hx hb hr (fun t ht hW => ⟨⟨(-9999002), u.2, rfl, by rw [← hR2]; exact (Option.some.inj hM).symm, by show va_P D vwCl _ t.heap; rw [ht]; exact hP⟩, hS.F ht⟩) hS.2.2 dL_tryMove_17
    replace hM := zx_f hk1 hM
    by_cases hk2 : R.2.1 = 2
    · replace hM := zx_t hk2 hM
      have hE : E = "java/lang/IllegalStateException" := by rw [hE, hR1.symm.trans hk2]; rfl
      subst hE
      refine vx_catch hown [_, _] _ [] (htab.trans rfl) (fun z hz => by
        simp only [List.mem_cons, List.not_mem_nil, or_false] at hz
        rcases hz with rfl | rfl
        · exact Or.inr ⟨by decide, "java/lang/IndexOutOfBoundsException", hts _ zw_7_1, hNc 2 3 (by decide) (by decide) (by decide)⟩
        · exact Or.inr ⟨by decide, "java/lang/IllegalArgumentException", hts _ zw_4_8, hNc 2 1 (by decide) (by decide) (by decide)⟩) (by decide) (by decide) (hts _ zw_4_9) (va_Nw.use rfl (hX.2.2.1 _ (List.mem_of_getElem? (i := 1) rfl))) hce hcv hcl ?_
      refine lv_astore (lv' := [(4, .ref q9), (0, .ref h), (1, .int p1), (2, .int p2), (3, .int p3)]) hx hb dL_tryMove_18 hl (by decide) rfl (fun ls hl => ?_)
      refine lv_ldc (v := (-9999003)) hx hb hown (hts _ zw_3_23) dL_tryMove_20 ?_
      refine W.widen (k := 1) (n := 6) (Nat.le_of_ble_eq_true rfl) (Nat.le_of_ble_eq_true rfl) ?_
      exact W.iret hx hb hr (fun t ht hW => ⟨⟨(-9999003), u.2, rfl, by rw [← hR2]; exact (Option.some.inj hM).symm, by show va_P D vwCl _ t.heap; rw [ht]; exact hP⟩, hS.F ht⟩) hS.2.2 dL_tryMove_22
    replace hM := zx_f hk2 hM
    cases hM
  · replace hw : R = (r, (0, u)) := hw
    have hw0 : R.2.1 = 0 := by rw [hw]
    replace hM := zx_t hw0 hM
    rw [ht] at hB
    replace hP := hB
    refine W.widen (k := 1) (n := 6) (Nat.le_of_ble_eq_true rfl) (Nat.le_of_ble_eq_true rfl) ?_
    exact W.iret hx hb hr (fun t ht hW => ⟨⟨r, u, rfl, by rw [← Option.some.inj hM, hw], by show va_P D vwCl _ t.heap; rw [ht]; exact hP⟩, hS.F ht⟩) hS.2.2 dL_tryMove_7

/-! the law: tryUndo -/
def f_L_tryUndo (N : Nat) (S : zx_B) : Option (Int32 × zx_B) := zx_b1 (f_X2_undo N S) (fun R => if R.2.1 = 0 then some (R.1, R.2.2) else (if R.2.1 = 2 then some ((-9999003), R.2.2) else none))
abbrev zsL_tryUndo : List Cond := .codeWith yL_tryUndo cL_tryUndo 2 (some .int) [(0, 4, 5, 16)] :: wsL_law
theorem zyL_tryUndo : yL_tryUndo.cls ≠ "java/lang/invoke/MethodHandle" ∧ yL_tryUndo.cls ≠ "java/lang/invoke/VarHandle" ∧ (parseMethodDescriptor yL_tryUndo.desc).map (fun d => d.parameters.length) = some 1 := by decide +kernel
abbrev rmL_tryUndo : Room := { frames := 7, cells := 1, slots := 6, locals := 102 }
set_option maxHeartbeats 4000000 in
set_option maxRecDepth 100000 in
theorem c_L_tryUndo (l : Launch) (hlt : l.stackTraces = false) (D : va_G) (cI cZ cT : ClassId) (h : Nat) (hh : Nat → Nat) (aa : Nat → Nat → Nat) (S : zx_B) (sz : Nat) (N : Nat) {Rr : Int32 × zx_B} (hM : f_L_tryUndo N S = some Rr) : Met l yL_tryUndo zsL_tryUndo rmL_tryUndo (va_Pc [.ref h] (bY D (zx_ty cI cZ cT) (xW2 cI cT h hh aa S) sz)) (va_Qi (fun r (u : zx_B) => Rr = (r, u)) (fun u t => va_P D vwCl (xW2 cI cT h hh aa u) t.heap) (va_A (xW2 cI cT h hh aa S) sz)) 1 6 (va_A (xW2 cI cT h hh aa S) sz) := by
  unfold f_L_tryUndo at hM
  obtain ⟨R, hX2, hM⟩ := zx_b1E hM
  refine va_MetW (cc := cL_tryUndo) (maxL := 2) (ret := (some .int)) (by decide) rfl ?_
  intro p e s m args below meth c s₁ B hml hv
  obtain ⟨rfl, ⟨⟨hsz, hP, hK, hD0, hN⟩, hX⟩, hNc⟩ := hv
  have hx := B.exec
  have hb := B.bytes
  have hr := B.returns
  have hts : ∀ w ∈ wsL_law, w.before _ s = true := fun w hw => atoms_spec (ws := zsL_tryUndo) B.pre w (List.mem_cons_of_mem _ hw)
  have htab := vx_table (x := yL_tryUndo) B (atoms_spec (ws := zsL_tryUndo) B.pre _ List.mem_cons_self)
  have hown : s.vm.findClass RL = some m.cls := findClass_of_methodNamed B.named
  have hlocks := B.notSynchronized
  subst hsz
  have hD := hD0.self (sz := s.heap.size)
  generalize hAe : va_A (xW2 cI cT h hh aa S) s.heap.size = A at hD hX ⊢
  have hA : ∀ q : Nat, s.heap.size ≤ q → A q := fun q h => by rw [← hAe]; exact Or.inr h
  have hS : va_S A s.heap s.heap [] := va_S.rf
  have hl := lv_entry ([.ref h]) (n := 2) (Nat.le_of_ble_eq_true rfl)
  rw [lg_entry_eq]
  generalize (lg_sl ([.ref h]) ++ List.replicate (2 - (lg_sl ([.ref h])).length) Slot.unset).toArray = ls at hl ⊢
  have hl : lv_has ls 2 [(0, .ref h)] := hl
  refine lv_aload_n hx hb dL_tryUndo_0 rfl (lv_at hl 0 rfl) ?_
  have hF := zx_fW hD hS hA
  refine vx_calli (vx_runV (As := []) (rest := []) ⟨hx, hb, hml, hown, hts⟩ (c_X2_undo l D cI cZ cT hlt h hh aa S _ N hX2) (cwV 0 hts (zg_V zw_15_18 zw_15_19 zw_15_20 zw_1_2 zw_15_21) rfl rfl rfl ⟨rfl, zyX2_undo⟩ ⟨Nat.le_of_ble_eq_true rfl, Nat.le_of_ble_eq_true rfl⟩) ⟨bX_blind, va_recv hK hP (ci := 2) (q0 := 0) rfl rfl, bX_pre (ws := []) hP hK hD hN hX hS hF⟩ rfl rfl hl.1 rfl (lv_room (Nat.le_of_ble_eq_true rfl)) dL_tryUndo_1 ⟨Nat.le_of_ble_eq_true rfl, Nat.le_of_ble_eq_true rfl⟩) hS (fun q _ h => hF q h) hF (fun q _ h => hF q h) (fun E ce q9 u t H1 lc ht hvm hpx hBX hz1 hk1 hS hce hcv hcl => ?_) (fun r u t H1 lc ht hvm hw hB hz1 hk1 hS => ?_)
  · obtain ⟨hR, hne⟩ := hpx
    obtain ⟨hE, hB⟩ := hBX
    rw [ht] at hB
    replace hP := hB
    have hR1 : R.2.1 = u.1 := by rw [hR]
    have hR2 : R.2.2 = u.2 := by rw [hR]
    replace hM := zx_f (fun z => hne (hR1.symm.trans z)) hM
    by_cases hk0 : R.2.1 = 2
    · replace hM := zx_t hk0 hM
      have hE : E = "java/lang/IllegalStateException" := by rw [hE, hR1.symm.trans hk0]; rfl
      subst hE
      refine vx_catch hown [] _ [] (htab.trans rfl) (fun z hz => absurd hz List.not_mem_nil) (by decide) (by decide) (hts _ zw_4_9) (va_Nw.use rfl (hX.2.2.1 _ (List.mem_of_getElem? (i := 1) rfl))) hce hcv hcl ?_
      refine lv_astore_n (lv' := [(1, .ref q9), (0, .ref h)]) hx hb dL_tryUndo_5 rfl hl (by decide) rfl (fun ls hl => ?_)
      refine lv_ldc (v := (-9999003)) hx hb hown (hts _ zw_3_23) dL_tryUndo_6 ?_
      refine W.widen (k := 1) (n := 6) (Nat.le_of_ble_eq_true rfl) (Nat.le_of_ble_eq_true rfl) ?_
      exact W.iret hx hb hr (fun t ht hW => ⟨⟨(-9999003), u.2, rfl, by rw [← hR2]; exact (Option.some.inj hM).symm, by show va_P D vwCl _ t.heap; rw [ht]; exact hP⟩, hS.F ht⟩) hS.2.2 dL_tryUndo_8
    replace hM := zx_f hk0 hM
    cases hM
  · replace hw : R = (r, (0, u)) := hw
    have hw0 : R.2.1 = 0 := by rw [hw]
    replace hM := zx_t hw0 hM
    rw [ht] at hB
    replace hP := hB
    refine W.widen (k := 1) (n := 6) (Nat.le_of_ble_eq_true rfl) (Nat.le_of_ble_eq_true rfl) ?_
    exact W.iret hx hb hr (fun t ht hW => ⟨⟨r, u, rfl, by rw [← Option.some.inj hM, hw], by show va_P D vwCl _ t.heap; rw [ht]; exact hP⟩, hS.F ht⟩) hS.2.2 dL_tryUndo_4

/-! the law: tryNearest -/
def f_L_tryNearest (N : Nat) (p1 : Int32) (p2 : Int32) (p3 : Int32) (S : zx_B) : Option (Int32 × zx_B) := zx_b1 (f_X2_nearest N p1 p2 p3 S) (fun R => if R.2.1 = 0 then some (R.1, R.2.2) else (if R.2.1 = 1 then some ((-9999002), R.2.2) else none))
abbrev zsL_tryNearest : List Cond := .codeWith yL_tryNearest cL_tryNearest 5 (some .int) [(0, 7, 8, 13)] :: wsL_law
theorem zyL_tryNearest : yL_tryNearest.cls ≠ "java/lang/invoke/MethodHandle" ∧ yL_tryNearest.cls ≠ "java/lang/invoke/VarHandle" ∧ (parseMethodDescriptor yL_tryNearest.desc).map (fun d => d.parameters.length) = some 4 := by decide +kernel
abbrev rmL_tryNearest : Room := { frames := 7, cells := 1, slots := 6, locals := 142 }
set_option maxHeartbeats 4000000 in
set_option maxRecDepth 100000 in
theorem c_L_tryNearest (l : Launch) (hlt : l.stackTraces = false) (D : va_G) (cI cZ cT : ClassId) (h : Nat) (hh : Nat → Nat) (aa : Nat → Nat → Nat) (S : zx_B) (sz : Nat) (N : Nat) (p1 : Int32) (p2 : Int32) (p3 : Int32) {Rr : Int32 × zx_B} (hM : f_L_tryNearest N p1 p2 p3 S = some Rr) : Met l yL_tryNearest zsL_tryNearest rmL_tryNearest (va_Pc [.ref h, .int p1, .int p2, .int p3] (bY D (zx_ty cI cZ cT) (xW2 cI cT h hh aa S) sz)) (va_Qi (fun r (u : zx_B) => Rr = (r, u)) (fun u t => va_P D vwCl (xW2 cI cT h hh aa u) t.heap) (va_A (xW2 cI cT h hh aa S) sz)) 1 6 (va_A (xW2 cI cT h hh aa S) sz) := by
  unfold f_L_tryNearest at hM
  obtain ⟨R, hX2, hM⟩ := zx_b1E hM
  refine va_MetW (cc := cL_tryNearest) (maxL := 5) (ret := (some .int)) (by decide) rfl ?_
  intro p e s m args below meth c s₁ B hml hv
  obtain ⟨rfl, ⟨⟨hsz, hP, hK, hD0, hN⟩, hX⟩, hNc⟩ := hv
  have hx := B.exec
  have hb := B.bytes
  have hr := B.returns
  have hts : ∀ w ∈ wsL_law, w.before _ s = true := fun w hw => atoms_spec (ws := zsL_tryNearest) B.pre w (List.mem_cons_of_mem _ hw)
  have htab := vx_table (x := yL_tryNearest) B (atoms_spec (ws := zsL_tryNearest) B.pre _ List.mem_cons_self)
  have hown : s.vm.findClass RL = some m.cls := findClass_of_methodNamed B.named
  have hlocks := B.notSynchronized
  subst hsz
  have hD := hD0.self (sz := s.heap.size)
  generalize hAe : va_A (xW2 cI cT h hh aa S) s.heap.size = A at hD hX ⊢
  have hA : ∀ q : Nat, s.heap.size ≤ q → A q := fun q h => by rw [← hAe]; exact Or.inr h
  have hS : va_S A s.heap s.heap [] := va_S.rf
  have hl := lv_entry ([.ref h, .int p1, .int p2, .int p3]) (n := 5) (Nat.le_of_ble_eq_true rfl)
  rw [lg_entry_eq]
  generalize (lg_sl ([.ref h, .int p1, .int p2, .int p3]) ++ List.replicate (5 - (lg_sl ([.ref h, .int p1, .int p2, .int p3])).length) Slot.unset).toArray = ls at hl ⊢
  have hl : lv_has ls 5 [(0, .ref h), (1, .int p1), (2, .int p2), (3, .int p3)] := hl
  refine lv_aload_n hx hb dL_tryNearest_0 rfl (lv_at hl 0 rfl) ?_
  refine lv_iload_n hx hb dL_tryNearest_1 rfl (lv_at hl 1 rfl) ?_
  refine lv_iload_n hx hb dL_tryNearest_2 rfl (lv_at hl 2 rfl) ?_
  refine lv_iload_n hx hb dL_tryNearest_3 rfl (lv_at hl 3 rfl) ?_
  have hF := zx_fW hD hS hA
  refine vx_calli (vx_runV (As := [.int p1, .int p2, .int p3]) (rest := []) ⟨hx, hb, hml, hown, hts⟩ (c_X2_nearest l D cI cZ cT hlt h hh aa S _ N p1 p2 p3 hX2) (cwV 3 hts (zg_V zw_16_1 zw_16_2 zw_16_3 zw_1_2 zw_16_4) rfl rfl rfl ⟨rfl, zyX2_nearest⟩ ⟨Nat.le_of_ble_eq_true rfl, Nat.le_of_ble_eq_true rfl⟩) ⟨bX_blind, va_recv hK hP (ci := 2) (q0 := 0) rfl rfl, bX_pre (ws := []) hP hK hD hN hX hS hF⟩ rfl rfl hl.1 rfl (lv_room (Nat.le_of_ble_eq_true rfl)) dL_tryNearest_4 ⟨Nat.le_of_ble_eq_true rfl, Nat.le_of_ble_eq_true rfl⟩) hS (fun q _ h => hF q h) hF (fun q _ h => hF q h) (fun E ce q9 u t H1 lc ht hvm hpx hBX hz1 hk1 hS hce hcv hcl => ?_) (fun r u t H1 lc ht hvm hw hB hz1 hk1 hS => ?_)
  · obtain ⟨hR, hne⟩ := hpx
    obtain ⟨hE, hB⟩ := hBX
    rw [ht] at hB
    replace hP := hB
    have hR1 : R.2.1 = u.1 := by rw [hR]
    have hR2 : R.2.2 = u.2 := by rw [hR]
    replace hM := zx_f (fun z => hne (hR1.symm.trans z)) hM
    by_cases hk0 : R.2.1 = 1
    · replace hM := zx_t hk0 hM
      have hE : E = "java/lang/IllegalArgumentException" := by rw [hE, hR1.symm.trans hk0]; rfl
      subst hE
      refine vx_catch hown [] _ [] (htab.trans rfl) (fun z hz => absurd hz List.not_mem_nil) (by decide) (by decide) (hts _ zw_4_8) (va_Nw.use rfl (hX.2.2.1 _ (List.mem_of_getElem? (i := 0) rfl))) hce hcv hcl ?_
      refine lv_astore (lv' := [(4, .ref q9), (0, .ref h), (1, .int p1), (2, .int p2), (3, .int p3)]) hx hb dL_tryNearest_8 hl (by decide) rfl (fun ls hl => ?_)
      refine lv_ldc (v := (-9999002)) hx hb hown (hts _ zw_3_21) dL_tryNearest_10 ?_
      refine W.widen (k := 1) (n := 6) (Nat.le_of_ble_eq_true rfl) (Nat.le_of_ble_eq_true rfl) ?_
      exact W.iret hx hb hr (fun t ht hW => ⟨⟨(-9999002), u.2, rfl, by rw [← hR2]; exact (Option.some.inj hM).symm, by show va_P D vwCl _ t.heap; rw [ht]; exact hP⟩, hS.F ht⟩) hS.2.2 dL_tryNearest_12
    replace hM := zx_f hk0 hM
    cases hM
  · replace hw : R = (r, (0, u)) := hw
    have hw0 : R.2.1 = 0 := by rw [hw]
    replace hM := zx_t hw0 hM
    rw [ht] at hB
    replace hP := hB
    refine W.widen (k := 1) (n := 6) (Nat.le_of_ble_eq_true rfl) (Nat.le_of_ble_eq_true rfl) ?_
    exact W.iret hx hb hr (fun t ht hW => ⟨⟨r, u, rfl, by rw [← Option.some.inj hM, hw], by show va_P D vwCl _ t.heap; rw [ht]; exact hP⟩, hS.F ht⟩) hS.2.2 dL_tryNearest_7

/-! the law: tryKeep -/
def f_L_tryKeep (N : Nat) (p1 : Int32) (S : zx_B) : Option (Int32 × zx_B) := zx_b1 (f_X2_save N p1 S) (fun R => if R.2.1 = 0 then some (R.1, R.2.2) else (if R.2.1 = 3 then some ((-9999001), R.2.2) else none))
abbrev zsL_tryKeep : List Cond := .codeWith yL_tryKeep cL_tryKeep 3 (some .int) [(0, 5, 6, 50)] :: wsL_law
theorem zyL_tryKeep : yL_tryKeep.cls ≠ "java/lang/invoke/MethodHandle" ∧ yL_tryKeep.cls ≠ "java/lang/invoke/VarHandle" ∧ (parseMethodDescriptor yL_tryKeep.desc).map (fun d => d.parameters.length) = some 2 := by decide +kernel
abbrev rmL_tryKeep : Room := { frames := 7, cells := 1, slots := 6, locals := 104 }
set_option maxHeartbeats 4000000 in
set_option maxRecDepth 100000 in
theorem c_L_tryKeep (l : Launch) (hlt : l.stackTraces = false) (D : va_G) (cI cZ cT : ClassId) (h : Nat) (hh : Nat → Nat) (aa : Nat → Nat → Nat) (S : zx_B) (sz : Nat) (N : Nat) (p1 : Int32) {Rr : Int32 × zx_B} (hM : f_L_tryKeep N p1 S = some Rr) : Met l yL_tryKeep zsL_tryKeep rmL_tryKeep (va_Pc [.ref h, .int p1] (bY D (zx_ty cI cZ cT) (xW2 cI cT h hh aa S) sz)) (va_Qi (fun r (u : zx_B) => Rr = (r, u)) (fun u t => va_P D vwCl (xW2 cI cT h hh aa u) t.heap) (va_A (xW2 cI cT h hh aa S) sz)) 1 6 (va_A (xW2 cI cT h hh aa S) sz) := by
  unfold f_L_tryKeep at hM
  obtain ⟨R, hX2, hM⟩ := zx_b1E hM
  refine va_MetW (cc := cL_tryKeep) (maxL := 3) (ret := (some .int)) (by decide) rfl ?_
  intro p e s m args below meth c s₁ B hml hv
  obtain ⟨rfl, ⟨⟨hsz, hP, hK, hD0, hN⟩, hX⟩, hNc⟩ := hv
  have hx := B.exec
  have hb := B.bytes
  have hr := B.returns
  have hts : ∀ w ∈ wsL_law, w.before _ s = true := fun w hw => atoms_spec (ws := zsL_tryKeep) B.pre w (List.mem_cons_of_mem _ hw)
  have htab := vx_table (x := yL_tryKeep) B (atoms_spec (ws := zsL_tryKeep) B.pre _ List.mem_cons_self)
  have hown : s.vm.findClass RL = some m.cls := findClass_of_methodNamed B.named
  have hlocks := B.notSynchronized
  subst hsz
  have hD := hD0.self (sz := s.heap.size)
  generalize hAe : va_A (xW2 cI cT h hh aa S) s.heap.size = A at hD hX ⊢
  have hA : ∀ q : Nat, s.heap.size ≤ q → A q := fun q h => by rw [← hAe]; exact Or.inr h
  have hS : va_S A s.heap s.heap [] := va_S.rf
  have hl := lv_entry ([.ref h, .int p1]) (n := 3) (Nat.le_of_ble_eq_true rfl)
  rw [lg_entry_eq]
  generalize (lg_sl ([.ref h, .int p1]) ++ List.replicate (3 - (lg_sl ([.ref h, .int p1])).length) Slot.unset).toArray = ls at hl ⊢
  have hl : lv_has ls 3 [(0, .ref h), (1, .int p1)] := hl
  refine lv_aload_n hx hb dL_tryKeep_0 rfl (lv_at hl 0 rfl) ?_
  refine lv_iload_n hx hb dL_tryKeep_1 rfl (lv_at hl 1 rfl) ?_
  have hF := zx_fW hD hS hA
  refine vx_calli (vx_runV (As := [.int p1]) (rest := []) ⟨hx, hb, hml, hown, hts⟩ (c_X2_save l D cI cZ cT hlt h hh aa S _ N p1 hX2) (cwV 1 hts (zg_V zw_17_0 zw_17_1 zw_17_2 zw_1_2 zw_17_3) rfl rfl rfl ⟨rfl, zyX2_save⟩ ⟨Nat.le_of_ble_eq_true rfl, Nat.le_of_ble_eq_true rfl⟩) ⟨bX_blind, va_recv hK hP (ci := 2) (q0 := 0) rfl rfl, bX_pre (ws := []) hP hK hD hN hX hS hF⟩ rfl rfl hl.1 rfl (lv_room (Nat.le_of_ble_eq_true rfl)) dL_tryKeep_2 ⟨Nat.le_of_ble_eq_true rfl, Nat.le_of_ble_eq_true rfl⟩) hS (fun q _ h => hF q h) hF (fun q _ h => hF q h) (fun E ce q9 u t H1 lc ht hvm hpx hBX hz1 hk1 hS hce hcv hcl => ?_) (fun r u t H1 lc ht hvm hw hB hz1 hk1 hS => ?_)
  · obtain ⟨hR, hne⟩ := hpx
    obtain ⟨hE, hB⟩ := hBX
    rw [ht] at hB
    replace hP := hB
    have hR1 : R.2.1 = u.1 := by rw [hR]
    have hR2 : R.2.2 = u.2 := by rw [hR]
    replace hM := zx_f (fun z => hne (hR1.symm.trans z)) hM
    by_cases hk0 : R.2.1 = 3
    · replace hM := zx_t hk0 hM
      have hE : E = "java/lang/IndexOutOfBoundsException" := by rw [hE, hR1.symm.trans hk0]; rfl
      subst hE
      refine vx_catch hown [] _ [] (htab.trans rfl) (fun z hz => absurd hz List.not_mem_nil) (by decide) (by decide) (hts _ zw_7_1) (va_Nw.use rfl (hX.2.2.1 _ (List.mem_of_getElem? (i := 2) rfl))) hce hcv hcl ?_
      refine lv_astore_n (lv' := [(2, .ref q9), (0, .ref h), (1, .int p1)]) hx hb dL_tryKeep_6 rfl hl (by decide) rfl (fun ls hl => ?_)
      refine lv_ldc (v := (-9999001)) hx hb hown (hts _ zw_3_22) dL_tryKeep_7 ?_
      refine W.widen (k := 1) (n := 6) (Nat.le_of_ble_eq_true rfl) (Nat.le_of_ble_eq_true rfl) ?_
      exact W.iret hx hb hr (fun t ht hW => ⟨⟨(-9999001), u.2, rfl, by rw [← hR2]; exact (Option.some.inj hM).symm, by show va_P D vwCl _ t.heap; rw [ht]; exact hP⟩, hS.F ht⟩) hS.2.2 dL_tryKeep_9
    replace hM := zx_f hk0 hM
    cases hM
  · replace hw : R = (r, (0, u)) := hw
    have hw0 : R.2.1 = 0 := by rw [hw]
    replace hM := zx_t hw0 hM
    rw [ht] at hB
    replace hP := hB
    refine W.widen (k := 1) (n := 6) (Nat.le_of_ble_eq_true rfl) (Nat.le_of_ble_eq_true rfl) ?_
    exact W.iret hx hb hr (fun t ht hW => ⟨⟨r, u, rfl, by rw [← Option.some.inj hM, hw], by show va_P D vwCl _ t.heap; rw [ht]; exact hP⟩, hS.F ht⟩) hS.2.2 dL_tryKeep_5

/-! the law: tryBack -/
def f_L_tryBack (N : Nat) (p1 : Int32) (S : zx_B) : Option (Int32 × zx_B) := zx_b1 (f_X2_restore N p1 S) (fun R => if R.2.1 = 0 then some (R.1, R.2.2) else (if R.2.1 = 3 then some ((-9999001), R.2.2) else (if R.2.1 = 2 then some ((-9999003), R.2.2) else none)))
abbrev zsL_tryBack : List Cond := .codeWith yL_tryBack cL_tryBack 3 (some .int) [(0, 5, 6, 50), (0, 5, 10, 16)] :: wsL_law
theorem zyL_tryBack : yL_tryBack.cls ≠ "java/lang/invoke/MethodHandle" ∧ yL_tryBack.cls ≠ "java/lang/invoke/VarHandle" ∧ (parseMethodDescriptor yL_tryBack.desc).map (fun d => d.parameters.length) = some 2 := by decide +kernel
abbrev rmL_tryBack : Room := { frames := 7, cells := 1, slots := 6, locals := 103 }
set_option maxHeartbeats 4000000 in
set_option maxRecDepth 100000 in
theorem c_L_tryBack (l : Launch) (hlt : l.stackTraces = false) (D : va_G) (cI cZ cT : ClassId) (h : Nat) (hh : Nat → Nat) (aa : Nat → Nat → Nat) (S : zx_B) (sz : Nat) (N : Nat) (p1 : Int32) {Rr : Int32 × zx_B} (hM : f_L_tryBack N p1 S = some Rr) : Met l yL_tryBack zsL_tryBack rmL_tryBack (va_Pc [.ref h, .int p1] (bY D (zx_ty cI cZ cT) (xW2 cI cT h hh aa S) sz)) (va_Qi (fun r (u : zx_B) => Rr = (r, u)) (fun u t => va_P D vwCl (xW2 cI cT h hh aa u) t.heap) (va_A (xW2 cI cT h hh aa S) sz)) 1 6 (va_A (xW2 cI cT h hh aa S) sz) := by
  unfold f_L_tryBack at hM
  obtain ⟨R, hX2, hM⟩ := zx_b1E hM
  refine va_MetW (cc := cL_tryBack) (maxL := 3) (ret := (some .int)) (by decide) rfl ?_
  intro p e s m args below meth c s₁ B hml hv
  obtain ⟨rfl, ⟨⟨hsz, hP, hK, hD0, hN⟩, hX⟩, hNc⟩ := hv
  have hx := B.exec
  have hb := B.bytes
  have hr := B.returns
  have hts : ∀ w ∈ wsL_law, w.before _ s = true := fun w hw => atoms_spec (ws := zsL_tryBack) B.pre w (List.mem_cons_of_mem _ hw)
  have htab := vx_table (x := yL_tryBack) B (atoms_spec (ws := zsL_tryBack) B.pre _ List.mem_cons_self)
  have hown : s.vm.findClass RL = some m.cls := findClass_of_methodNamed B.named
  have hlocks := B.notSynchronized
  subst hsz
  have hD := hD0.self (sz := s.heap.size)
  generalize hAe : va_A (xW2 cI cT h hh aa S) s.heap.size = A at hD hX ⊢
  have hA : ∀ q : Nat, s.heap.size ≤ q → A q := fun q h => by rw [← hAe]; exact Or.inr h
  have hS : va_S A s.heap s.heap [] := va_S.rf
  have hl := lv_entry ([.ref h, .int p1]) (n := 3) (Nat.le_of_ble_eq_true rfl)
  rw [lg_entry_eq]
  generalize (lg_sl ([.ref h, .int p1]) ++ List.replicate (3 - (lg_sl ([.ref h, .int p1])).length) Slot.unset).toArray = ls at hl ⊢
  have hl : lv_has ls 3 [(0, .ref h), (1, .int p1)] := hl
  refine lv_aload_n hx hb dL_tryBack_0 rfl (lv_at hl 0 rfl) ?_
  refine lv_iload_n hx hb dL_tryBack_1 rfl (lv_at hl 1 rfl) ?_
  have hF := zx_fW hD hS hA
  refine vx_calli (vx_runV (As := [.int p1]) (rest := []) ⟨hx, hb, hml, hown, hts⟩ (c_X2_restore l D cI cZ cT hlt h hh aa S _ N p1 hX2) (cwV 1 hts (zg_V zw_17_8 zw_17_9 zw_17_10 zw_1_2 zw_17_11) rfl rfl rfl ⟨rfl, zyX2_restore⟩ ⟨Nat.le_of_ble_eq_true rfl, Nat.le_of_ble_eq_true rfl⟩) ⟨bX_blind, va_recv hK hP (ci := 2) (q0 := 0) rfl rfl, bX_pre (ws := []) hP hK hD hN hX hS hF⟩ rfl rfl hl.1 rfl (lv_room (Nat.le_of_ble_eq_true rfl)) dL_tryBack_2 ⟨Nat.le_of_ble_eq_true rfl, Nat.le_of_ble_eq_true rfl⟩) hS (fun q _ h => hF q h) hF (fun q _ h => hF q h) (fun E ce q9 u t H1 lc ht hvm hpx hBX hz1 hk1 hS hce hcv hcl => ?_) (fun r u t H1 lc ht hvm hw hB hz1 hk1 hS => ?_)
  · obtain ⟨hR, hne⟩ := hpx
    obtain ⟨hE, hB⟩ := hBX
    rw [ht] at hB
    replace hP := hB
    have hR1 : R.2.1 = u.1 := by rw [hR]
    have hR2 : R.2.2 = u.2 := by rw [hR]
    replace hM := zx_f (fun z => hne (hR1.symm.trans z)) hM
    by_cases hk0 : R.2.1 = 3
    · replace hM := zx_t hk0 hM
      have hE : E = "java/lang/IndexOutOfBoundsException" := by rw [hE, hR1.symm.trans hk0]; rfl
      subst hE
      refine vx_catch hown [] _ [_] (htab.trans rfl) (fun z hz => absurd hz List.not_mem_nil) (by decide) (by decide) (hts _ zw_7_1) (va_Nw.use rfl (hX.2.2.1 _ (List.mem_of_getElem? (i := 2) rfl))) hce hcv hcl ?_
      refine lv_astore_n (lv' := [(2, .ref q9), (0, .ref h), (1, .int p1)]) hx hb dL_tryBack_6 rfl hl (by decide) rfl (fun ls hl => ?_)
      refine lv_ldc (v := (-9999001)) hx hb hown (hts _ zw_3_22) dL_tryBack_7 ?_
      refine W.widen (k := 1) (n := 6) (Nat.le_of_ble_eq_true rfl) (Nat.le_of_ble_eq_true rfl) ?_
      exact W.iret hx hb hr (fun t ht hW => ⟨⟨(-9999001), u.2, rfl, by rw [← hR2]; exact (Option.some.inj hM).symm, by show va_P D vwCl _ t.heap; rw [ht]; exact hP⟩, hS.F ht⟩) hS.2.2 dL_tryBack_9
    replace hM := zx_f hk0 hM
    by_cases hk1 : R.2.1 = 2
    · replace hM := zx_t hk1 hM
      have hE : E = "java/lang/IllegalStateException" := by rw [hE, hR1.symm.trans hk1]; rfl
      subst hE
      refine vx_catch hown [_] _ [] (htab.trans rfl) (fun z hz => by
        simp only [List.mem_cons, List.not_mem_nil, or_false] at hz
        rcases hz with rfl
        · exact Or.inr ⟨by decide, "java/lang/IndexOutOfBoundsException", hts _ zw_7_1, hNc 2 3 (by decide) (by decide) (by decide)⟩) (by decide) (by decide) (hts _ zw_4_9) (va_Nw.use rfl (hX.2.2.1 _ (List.mem_of_getElem? (i := 1) rfl))) hce hcv hcl ?_
      refine lv_astore_n (lv' := [(2, .ref q9), (0, .ref h), (1, .int p1)]) hx hb dL_tryBack_10 rfl hl (by decide) rfl (fun ls hl => ?_)
      refine lv_ldc (v := (-9999003)) hx hb hown (hts _ zw_3_23) dL_tryBack_11 ?_
      refine W.widen (k := 1) (n := 6) (Nat.le_of_ble_eq_true rfl) (Nat.le_of_ble_eq_true rfl) ?_
      exact W.iret hx hb hr (fun t ht hW => ⟨⟨(-9999003), u.2, rfl, by rw [← hR2]; exact (Option.some.inj hM).symm, by show va_P D vwCl _ t.heap; rw [ht]; exact hP⟩, hS.F ht⟩) hS.2.2 dL_tryBack_13
    replace hM := zx_f hk1 hM
    cases hM
  · replace hw : R = (r, (0, u)) := hw
    have hw0 : R.2.1 = 0 := by rw [hw]
    replace hM := zx_t hw0 hM
    rw [ht] at hB
    replace hP := hB
    refine W.widen (k := 1) (n := 6) (Nat.le_of_ble_eq_true rfl) (Nat.le_of_ble_eq_true rfl) ?_
    exact W.iret hx hb hr (fun t ht hW => ⟨⟨r, u, rfl, by rw [← Option.some.inj hM, hw], by show va_P D vwCl _ t.heap; rw [ht]; exact hP⟩, hS.F ht⟩) hS.2.2 dL_tryBack_5
