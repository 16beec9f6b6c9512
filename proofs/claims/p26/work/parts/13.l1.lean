/-! the law: act(LShallowBoxes;II)I -/
def f_L_act_j56 (N : Nat) (v3 : Int32) (S_ : zx_B) : Option (Int32 × zx_B) :=
  (zx_b2 (f_L_call N 6 v3 0 0 S_) (fun x1 T2 =>
some (x1, T2)))
def f_L_act_j66 (N : Nat) (v2 : Int32) (v3 : Int32) (S_ : zx_B) : Option (Int32 × zx_B) :=
  (zx_n (v2 / 32) (fun x4 =>
(zx_n (x4 - x4 / 31 * 31) (fun x5 =>
(zx_n (v2 / 1024) (fun x6 =>
(zx_n (x6 - x6 / 31 * 31) (fun x7 =>
(zx_b2 (f_L_call N 7 v3 (x5 - 15) (x7 - 15) S_) (fun x8 T9 =>
some (x8, T9)))))))))))
def f_L_act_j366 (N : Nat) (t1 : Int32) (t2 : Int32) (t3 : Int32) (t4 : Int32) (S_ : zx_B) : Option (Int32 × zx_B) :=
  (zx_b2 (f_L_tryAdd N t1 t2 t3 t4 S_) (fun x71 T72 =>
some (x71, T72)))
def f_L_act_j352 (N : Nat) (v7 : Int32) (t1 : Int32) (t2 : Int32) (t3 : Int32) (S_ : zx_B) : Option (Int32 × zx_B) :=
  (if v7 ≤ 99 then
  f_L_act_j366 N  t1 t2 t3 v7 S_ else
  f_L_act_j366 N  t1 t2 t3 99 S_)
def f_L_act_j304 (N : Nat) (v1 : Int32) (v2 : Int32) (v4 : Int32) (t0 : Int32) (t1 : Int32) (S_ : zx_B) : Option (Int32 × zx_B) :=
  (zx_nz t1 (
(zx_n (t0 - t0 / t1 * t1) (fun x76 =>
(zx_n (v2 / 16384) (fun x77 =>
(zx_n (x77 - x77 / 12 * 12) (fun x78 =>
(zx_n (v4 + x78) (fun x79 =>
(zx_n (v1 / 256) (fun x80 =>
(zx_n (x80 - x80 / 12 * 12) (fun x81 =>
(zx_n (x76 + x81) (fun x82 =>
(if x79 ≤ 99 then
  f_L_act_j352 N  x82 v4 x76 x79 S_ else
  f_L_act_j352 N  x82 v4 x76 99 S_)))))))))))))))))
def f_L_act_j279 (N : Nat) (v1 : Int32) (v2 : Int32) (t0 : Int32) (t1 : Int32) (S_ : zx_B) : Option (Int32 × zx_B) :=
  (zx_nz t1 (
(zx_n (t0 - t0 / t1 * t1) (fun x85 =>
(zx_n (v2 / 128) (fun x86 =>
(zx_n (v1 / 16) (fun x87 =>
(zx_n (x87 - x87 / 3 * 3) (fun x88 =>
(if x88 = 1 then
  f_L_act_j304 N  v1 v2 x85 x86 100 S_ else
  f_L_act_j304 N  v1 v2 x85 x86 40 S_)))))))))))
def f_L_act (N : Nat) (p1 : Int32) (p2 : Int32) (S : zx_B) : Option (Int32 × zx_B) :=
  (zx_n (p2 - p2 / 24 * 24) (fun x11 =>
(zx_n (p1 - p1 / 16 * 16) (fun x12 =>
(if x12 = 0 then
  f_L_act_j56 N  x11 S else
(if x12 = 1 then
  f_L_act_j56 N  x11 S else
(if x12 = 2 then
  f_L_act_j66 N  p2 x11 S else
(if x12 = 3 then
  f_L_act_j66 N  p2 x11 S else
(if x12 = 4 then
  (zx_b2 (f_L_call N 8 0 0 0 S) (fun x18 T19 =>
some (x18, T19))) else
(if x12 = 5 then
  (zx_n (p2 - p2 / 2 * 2) (fun x22 =>
(zx_b2 (f_L_call N 10 x22 0 0 S) (fun x23 T24 =>
some (x23, T24))))) else
(if x12 = 6 then
  (zx_n (p2 - p2 / 2 * 2) (fun x27 =>
(zx_b2 (f_L_call N 11 x27 0 0 S) (fun x28 T29 =>
some (x28, T29))))) else
(if x12 = 7 then
  (zx_b2 (f_X2_clearText N S) (fun x32 T33 =>
(zx_n (p2 - p2 / 10 * 10) (fun x35 =>
(zx_b2 (f_L_call N 0 (48 + x35) 0 0 T33) (fun x36 T37 =>
(zx_b2 (f_L_call N 0 44 0 0 T37) (fun x39 T40 =>
(zx_n (p2 / 16) (fun x42 =>
(zx_n (x42 - x42 / 9 * 9) (fun x43 =>
(zx_b2 (f_L_call N 0 (49 + x43) 0 0 T40) (fun x44 T45 =>
(zx_n (p2 / 256) (fun x47 =>
(zx_n (x47 - x47 / 10 * 10) (fun x48 =>
(zx_b2 (f_L_call N 0 (48 + x48) 0 0 T45) (fun x49 T50 =>
(zx_b2 (f_L_call N 0 58 0 0 T50) (fun x52 T53 =>
(zx_n (p2 / 4096) (fun x55 =>
(zx_n (x55 - x55 / 9 * 9) (fun x56 =>
(zx_b2 (f_L_call N 0 (49 + x56) 0 0 T53) (fun x57 T58 =>
(zx_b2 (f_L_call N 0 120 0 0 T58) (fun x60 T61 =>
(zx_n (p2 / 65536) (fun x63 =>
(zx_n (x63 - x63 / 10 * 10) (fun x64 =>
(zx_b2 (f_L_call N 0 (48 + x64) 0 0 T61) (fun x65 T66 =>
(zx_b2 (f_L_call N 5 0 0 0 T66) (fun x68 T69 =>
some (((((((((x36 + x39) + x44) + x49) + x52) + x57) + x60) + x65) + x68), T69))))))))))))))))))))))))))))))))))))))) else
(zx_n (p1 / 16) (fun x90 =>
(zx_n (x90 - x90 / 3 * 3) (fun x91 =>
(if x91 = 0 then
  f_L_act_j279 N  p1 p2 p2 100 S else
  f_L_act_j279 N  p1 p2 p2 40 S)))))))))))))))))
abbrev rmL_act : Room := { frames := 9, cells := 9, slots := 54, locals := 223 }
abbrev zsL_act : List Cond := .code yL_act cL_act 8 (some .int) :: wsL_law
theorem zyL_act : yL_act.cls ≠ "java/lang/invoke/MethodHandle" ∧ yL_act.cls ≠ "java/lang/invoke/VarHandle" ∧ (parseMethodDescriptor yL_act.desc).map (fun d => d.parameters.length) = some 3 := by decide +kernel
set_option maxHeartbeats 16000000 in
set_option maxRecDepth 100000 in
theorem c_L_act (l : Launch) (hlt : l.stackTraces = false) (D : va_G) (cI cZ cT : ClassId) (h : Nat) (hh : Nat → Nat) (aa : Nat → Nat → Nat) (S : zx_B) (sz : Nat) (N : Nat) (p1 : Int32) (p2 : Int32) {R : Int32 × zx_B} (hM : f_L_act N p1 p2 S = some R) : Met l yL_act zsL_act rmL_act (va_Pc [.ref h, .int p1, .int p2] (bY D (zx_ty cI cZ cT) (xW2 cI cT h hh aa S) sz)) (va_Qi (fun r (u : zx_B) => R = (r, u)) (fun u t => va_P D vwCl (xW2 cI cT h hh aa u) t.heap) (va_A (xW2 cI cT h hh aa S) sz)) 9 54 (va_A (xW2 cI cT h hh aa S) sz) := by
  refine Met.ofW (cc := cL_act) (maxL := 8) (ret := (some .int)) (by decide) rfl ?_
  intro p e s m args below meth c s₁ B hml hv
  obtain ⟨rfl, ⟨⟨hsz, hP, hK, hD0, hN⟩, hXX⟩, hNc⟩ := hv
  have hx := B.exec
  have hb := B.bytes
  have hr := B.returns
  have hts : ∀ w ∈ wsL_law, w.before _ s = true := fun w hw => atoms_spec (ws := zsL_act) B.pre w (List.mem_cons_of_mem _ hw)
  have hown : s.vm.findClass RL = some m.cls := findClass_of_methodNamed B.named
  have hlocks := B.notSynchronized
  subst hsz
  have hD := hD0.self (sz := s.heap.size)
  generalize hAe : va_A (xW2 cI cT h hh aa S) s.heap.size = A at hD hXX ⊢
  have hA : ∀ q : Nat, s.heap.size ≤ q → A q := fun q h => by rw [← hAe]; exact Or.inr h
  have hS : va_S A s.heap s.heap [] := va_S.rf
  have hl := lv_entry ([.ref h, .int p1, .int p2]) (n := 8) (Nat.le_of_ble_eq_true rfl)
  rw [lg_entry_eq]
  generalize (lg_sl ([.ref h, .int p1, .int p2]) ++ List.replicate (8 - (lg_sl ([.ref h, .int p1, .int p2])).length) Slot.unset).toArray = ls at hl ⊢
  have hl : lv_has ls 8 [(0, .ref h), (1, .int p1), (2, .int p2)] := hl
  generalize hQ : MQ below (va_Qi (fun r (u : zx_B) => R = (r, u)) (fun u t => va_P D vwCl (xW2 cI cT h hh aa u) t.heap) A) ([.ref h, .int p1, .int p2] : List Value).toArray s 9 54 A = Q9
  replace hQ := hQ.symm
  obtain ⟨kc, hkc0⟩ : ∃ kc : Nat, kc = 0 := ⟨0, rfl⟩
  have hkc : kc + 9 ≤ 9 := by omega
  refine W.widen (k := kc) (n := 6 * kc) (by omega) (by omega) ?_
  unfold f_L_act at hM
  have j56 : ∀ (v3 : Int32) (S_ : zx_B) (kc : Nat) (H : Heap) (lc : List Loc) (ls : Array Slot), kc + (1) ≤ 9 → va_P D vwCl (xW2 cI cT h hh aa S_) H → va_D A (xW2 cI cT h hh aa S_) → va_S A s.heap H lc → lv_has ls 8 [(0, .ref h), (3, .int v3)] → f_L_act_j56 N v3 S_ = some R → W p l e (headSpec zsL_act rmL_act).room s m ([.ref h, .int p1, .int p2] : List Value).toArray below meth c H lc kc (6 * kc) Q9 (F0 m 56 ls []) := by
    intro v3 S_ kc H lc ls hkc hP hD hS hl hM
    unfold f_L_act_j56 at hM
    refine lv_aload_n hx hb dL_act_56 rfl (lv_at hl 0 rfl) ?_
    refine lv_bipush (v := 6) hx hb dL_act_57 (by decide) ?_
    refine lv_iload_n hx hb dL_act_59 rfl (lv_at hl 1 rfl) ?_
    refine lv_iconst (v := 0) hx hb dL_act_60 (by decide) ?_
    refine lv_iconst (v := 0) hx hb dL_act_61 (by decide) ?_
    obtain ⟨x1, T2, hz3, hM⟩ := zx_b2E hM
    have hF := zx_fW hD hS hA
    refine va_calli (va_runS (As := [.ref h, .int 6, .int v3, .int 0, .int 0]) (rest := []) ⟨hx, hb, hml, hown, hts⟩ (c_L_call l hlt D cI cZ cT h hh aa S_ _ N 6 v3 0 0 hz3) (va_cwS 5 hts (zg_S zw_4_2 zw_4_3 zw_3_14 zw_4_4) rfl rfl rfl zyL_call ⟨Nat.le_of_ble_eq_true rfl, Nat.le_of_ble_eq_true rfl⟩) ⟨bY_blind, bY_pre hP hK hD hN hXX hNc hS hF⟩ rfl rfl hl.1 rfl (lv_room (Nat.le_of_ble_eq_true rfl)) dL_act_62 ⟨by show kc + 1 ≤ 9; omega, by show 6 * kc + 6 ≤ 54; omega⟩) hS (fun q _ h => hF q h) (fun q h => hF q h) (fun r u t H1 lc ht hvm hw hB hz1 hk1 hS => ?_)
    obtain ⟨hw1, hw2⟩ := Prod.mk.inj hw; subst hw1; subst hw2
    rw [ht] at hB
    replace hP := hB
    replace hD := zx2_Da T2 hD
    refine W.widen (k := (kc + 1)) (n := 6 * (kc + 1)) (by omega) (by omega) ?_
    rw [hQ]
    refine W.widen (k := 9) (n := 54) (by omega) (by omega) ?_
    exact W.iret hx hb hr (fun t ht hW => ⟨⟨x1, T2, rfl, (Option.some.inj hM).symm, by show va_P D vwCl _ t.heap; rw [ht]; exact hP⟩, hS.F ht⟩) hS.2.2 dL_act_65
  have j66 : ∀ (v2 : Int32) (v3 : Int32) (S_ : zx_B) (kc : Nat) (H : Heap) (lc : List Loc) (ls : Array Slot), kc + (1) ≤ 9 → va_P D vwCl (xW2 cI cT h hh aa S_) H → va_D A (xW2 cI cT h hh aa S_) → va_S A s.heap H lc → lv_has ls 8 [(0, .ref h), (2, .int v2), (3, .int v3)] → f_L_act_j66 N v2 v3 S_ = some R → W p l e (headSpec zsL_act rmL_act).room s m ([.ref h, .int p1, .int p2] : List Value).toArray below meth c H lc kc (6 * kc) Q9 (F0 m 66 ls []) := by
    intro v2 v3 S_ kc H lc ls hkc hP hD hS hl hM
    unfold f_L_act_j66 at hM
    refine lv_aload_n hx hb dL_act_66 rfl (lv_at hl 0 rfl) ?_
    refine lv_bipush (v := 7) hx hb dL_act_67 (by decide) ?_
    refine lv_iload_n hx hb dL_act_69 rfl (lv_at hl 2 rfl) ?_
    refine lv_iload_n hx hb dL_act_70 rfl (lv_at hl 1 rfl) ?_
    refine lv_bipush (v := 32) hx hb dL_act_71 (by decide) ?_
    refine lv_idiv hx hb dL_act_73 (by decide) ?_
    obtain ⟨x4, ex4, hM⟩ := zx_nE hM
    refine zx_top ex4 ?_
    refine lv_bipush (v := 31) hx hb dL_act_74 (by decide) ?_
    refine lv_irem hx hb dL_act_76 (by decide) ?_
    obtain ⟨x5, ex5, hM⟩ := zx_nE hM
    refine zx_top ex5 ?_
    refine lv_bipush (v := 15) hx hb dL_act_77 (by decide) ?_
    refine lv_isub hx hb dL_act_79 ?_
    refine lv_iload_n hx hb dL_act_80 rfl (lv_at hl 1 rfl) ?_
    refine lv_sipush (v := 1024) hx hb dL_act_81 (by decide) ?_
    refine lv_idiv hx hb dL_act_84 (by decide) ?_
    obtain ⟨x6, ex6, hM⟩ := zx_nE hM
    refine zx_top ex6 ?_
    refine lv_bipush (v := 31) hx hb dL_act_85 (by decide) ?_
    refine lv_irem hx hb dL_act_87 (by decide) ?_
    obtain ⟨x7, ex7, hM⟩ := zx_nE hM
    refine zx_top ex7 ?_
    refine lv_bipush (v := 15) hx hb dL_act_88 (by decide) ?_
    refine lv_isub hx hb dL_act_90 ?_
    obtain ⟨x8, T9, hz10, hM⟩ := zx_b2E hM
    have hF := zx_fW hD hS hA
    refine va_calli (va_runS (As := [.ref h, .int 7, .int v3, .int (x5 - 15), .int (x7 - 15)]) (rest := []) ⟨hx, hb, hml, hown, hts⟩ (c_L_call l hlt D cI cZ cT h hh aa S_ _ N 7 v3 (x5 - 15) (x7 - 15) hz10) (va_cwS 5 hts (zg_S zw_4_2 zw_4_3 zw_3_14 zw_4_4) rfl rfl rfl zyL_call ⟨Nat.le_of_ble_eq_true rfl, Nat.le_of_ble_eq_true rfl⟩) ⟨bY_blind, bY_pre hP hK hD hN hXX hNc hS hF⟩ rfl rfl hl.1 rfl (lv_room (Nat.le_of_ble_eq_true rfl)) dL_act_91 ⟨by show kc + 1 ≤ 9; omega, by show 6 * kc + 6 ≤ 54; omega⟩) hS (fun q _ h => hF q h) (fun q h => hF q h) (fun r u t H1 lc ht hvm hw hB hz1 hk1 hS => ?_)
    obtain ⟨hw1, hw2⟩ := Prod.mk.inj hw; subst hw1; subst hw2
    rw [ht] at hB
    replace hP := hB
    replace hD := zx2_Da T9 hD
    refine W.widen (k := (kc + 1)) (n := 6 * (kc + 1)) (by omega) (by omega) ?_
    rw [hQ]
    refine W.widen (k := 9) (n := 54) (by omega) (by omega) ?_
    exact W.iret hx hb hr (fun t ht hW => ⟨⟨x8, T9, rfl, (Option.some.inj hM).symm, by show va_P D vwCl _ t.heap; rw [ht]; exact hP⟩, hS.F ht⟩) hS.2.2 dL_act_94
  refine lv_iload_n hx hb dL_act_0 rfl (lv_at hl 2 rfl) ?_
  refine lv_bipush (v := 24) hx hb dL_act_1 (by decide) ?_
  refine lv_irem hx hb dL_act_3 (by decide) ?_
  obtain ⟨x11, ex11, hM⟩ := zx_nE hM
  refine zx_top ex11 ?_
  refine lv_istore_n (lv' := [(3, .int x11), (0, .ref h), (1, .int p1), (2, .int p2)]) hx hb dL_act_4 rfl hl (by decide) rfl (fun ls hl => ?_)
  refine lv_iload_n hx hb dL_act_5 rfl (lv_at hl 2 rfl) ?_
  refine lv_bipush (v := 16) hx hb dL_act_6 (by decide) ?_
  refine lv_irem hx hb dL_act_8 (by decide) ?_
  obtain ⟨x12, ex12, hM⟩ := zx_nE hM
  refine zx_top ex12 ?_
  by_cases q13 : x12 = 0
  · replace hM := zx_t q13 hM
    refine lv_tableIn (tgt := 56) hx hb dL_act_9 (by rw [q13]; decide) (by rw [q13]; decide) (by rw [q13]; rfl) (by decide) ?_
    exact j56 x11 S kc _ _ _ (by omega) hP hD hS (lv_sub hl [1, 0] rfl) hM
  · replace hM := zx_f q13 hM
    by_cases q14 : x12 = 1
    · replace hM := zx_t q14 hM
      refine lv_tableIn (tgt := 56) hx hb dL_act_9 (by rw [q14]; decide) (by rw [q14]; decide) (by rw [q14]; rfl) (by decide) ?_
      exact j56 x11 S kc _ _ _ (by omega) hP hD hS (lv_sub hl [1, 0] rfl) hM
    · replace hM := zx_f q14 hM
      by_cases q15 : x12 = 2
      · replace hM := zx_t q15 hM
        refine lv_tableIn (tgt := 66) hx hb dL_act_9 (by rw [q15]; decide) (by rw [q15]; decide) (by rw [q15]; rfl) (by decide) ?_
        exact j66 p2 x11 S kc _ _ _ (by omega) hP hD hS (lv_sub hl [1, 3, 0] rfl) hM
      · replace hM := zx_f q15 hM
        by_cases q16 : x12 = 3
        · replace hM := zx_t q16 hM
          refine lv_tableIn (tgt := 66) hx hb dL_act_9 (by rw [q16]; decide) (by rw [q16]; decide) (by rw [q16]; rfl) (by decide) ?_
          exact j66 p2 x11 S kc _ _ _ (by omega) hP hD hS (lv_sub hl [1, 3, 0] rfl) hM
        · replace hM := zx_f q16 hM
          by_cases q17 : x12 = 4
          · replace hM := zx_t q17 hM
            refine lv_tableIn (tgt := 95) hx hb dL_act_9 (by rw [q17]; decide) (by rw [q17]; decide) (by rw [q17]; rfl) (by decide) ?_
            refine lv_aload_n hx hb dL_act_95 rfl (lv_at hl 1 rfl) ?_
            refine lv_bipush (v := 8) hx hb dL_act_96 (by decide) ?_
            refine lv_iconst (v := 0) hx hb dL_act_98 (by decide) ?_
            refine lv_iconst (v := 0) hx hb dL_act_99 (by decide) ?_
            refine lv_iconst (v := 0) hx hb dL_act_100 (by decide) ?_
            obtain ⟨x18, T19, hz20, hM⟩ := zx_b2E hM
            have hF := zx_fW hD hS hA
            refine va_calli (va_runS (As := [.ref h, .int 8, .int 0, .int 0, .int 0]) (rest := []) ⟨hx, hb, hml, hown, hts⟩ (c_L_call l hlt D cI cZ cT h hh aa S _ N 8 0 0 0 hz20) (va_cwS 5 hts (zg_S zw_4_2 zw_4_3 zw_3_14 zw_4_4) rfl rfl rfl zyL_call ⟨Nat.le_of_ble_eq_true rfl, Nat.le_of_ble_eq_true rfl⟩) ⟨bY_blind, bY_pre hP hK hD hN hXX hNc hS hF⟩ rfl rfl hl.1 rfl (lv_room (Nat.le_of_ble_eq_true rfl)) dL_act_101 ⟨by show kc + 1 ≤ 9; omega, by show 6 * kc + 6 ≤ 54; omega⟩) hS (fun q _ h => hF q h) (fun q h => hF q h) (fun r u t H1 lc ht hvm hw hB hz1 hk1 hS => ?_)
            obtain ⟨hw1, hw2⟩ := Prod.mk.inj hw; subst hw1; subst hw2
            rw [ht] at hB
            replace hP := hB
            replace hD := zx2_Da T19 hD
            refine W.widen (k := (kc + 1)) (n := 6 * (kc + 1)) (by omega) (by omega) ?_
            rw [hQ]
            refine W.widen (k := 9) (n := 54) (by omega) (by omega) ?_
            exact W.iret hx hb hr (fun t ht hW => ⟨⟨x18, T19, rfl, (Option.some.inj hM).symm, by show va_P D vwCl _ t.heap; rw [ht]; exact hP⟩, hS.F ht⟩) hS.2.2 dL_act_104
          · replace hM := zx_f q17 hM
            by_cases q21 : x12 = 5
            · replace hM := zx_t q21 hM
              refine lv_tableIn (tgt := 105) hx hb dL_act_9 (by rw [q21]; decide) (by rw [q21]; decide) (by rw [q21]; rfl) (by decide) ?_
              refine lv_aload_n hx hb dL_act_105 rfl (lv_at hl 1 rfl) ?_
              refine lv_bipush (v := 10) hx hb dL_act_106 (by decide) ?_
              refine lv_iload_n hx hb dL_act_108 rfl (lv_at hl 3 rfl) ?_
              refine lv_iconst (v := 2) hx hb dL_act_109 (by decide) ?_
              refine lv_irem hx hb dL_act_110 (by decide) ?_
              obtain ⟨x22, ex22, hM⟩ := zx_nE hM
              refine zx_top ex22 ?_
              refine lv_iconst (v := 0) hx hb dL_act_111 (by decide) ?_
              refine lv_iconst (v := 0) hx hb dL_act_112 (by decide) ?_
              obtain ⟨x23, T24, hz25, hM⟩ := zx_b2E hM
              have hF := zx_fW hD hS hA
              refine va_calli (va_runS (As := [.ref h, .int 10, .int x22, .int 0, .int 0]) (rest := []) ⟨hx, hb, hml, hown, hts⟩ (c_L_call l hlt D cI cZ cT h hh aa S _ N 10 x22 0 0 hz25) (va_cwS 5 hts (zg_S zw_4_2 zw_4_3 zw_3_14 zw_4_4) rfl rfl rfl zyL_call ⟨Nat.le_of_ble_eq_true rfl, Nat.le_of_ble_eq_true rfl⟩) ⟨bY_blind, bY_pre hP hK hD hN hXX hNc hS hF⟩ rfl rfl hl.1 rfl (lv_room (Nat.le_of_ble_eq_true rfl)) dL_act_113 ⟨by show kc + 1 ≤ 9; omega, by show 6 * kc + 6 ≤ 54; omega⟩) hS (fun q _ h => hF q h) (fun q h => hF q h) (fun r u t H1 lc ht hvm hw hB hz1 hk1 hS => ?_)
              obtain ⟨hw1, hw2⟩ := Prod.mk.inj hw; subst hw1; subst hw2
              rw [ht] at hB
              replace hP := hB
              replace hD := zx2_Da T24 hD
              refine W.widen (k := (kc + 1)) (n := 6 * (kc + 1)) (by omega) (by omega) ?_
              rw [hQ]
              refine W.widen (k := 9) (n := 54) (by omega) (by omega) ?_
              exact W.iret hx hb hr (fun t ht hW => ⟨⟨x23, T24, rfl, (Option.some.inj hM).symm, by show va_P D vwCl _ t.heap; rw [ht]; exact hP⟩, hS.F ht⟩) hS.2.2 dL_act_116
            · replace hM := zx_f q21 hM
              by_cases q26 : x12 = 6
              · replace hM := zx_t q26 hM
                refine lv_tableIn (tgt := 117) hx hb dL_act_9 (by rw [q26]; decide) (by rw [q26]; decide) (by rw [q26]; rfl) (by decide) ?_
                refine lv_aload_n hx hb dL_act_117 rfl (lv_at hl 1 rfl) ?_
                refine lv_bipush (v := 11) hx hb dL_act_118 (by decide) ?_
                refine lv_iload_n hx hb dL_act_120 rfl (lv_at hl 3 rfl) ?_
                refine lv_iconst (v := 2) hx hb dL_act_121 (by decide) ?_
                refine lv_irem hx hb dL_act_122 (by decide) ?_
                obtain ⟨x27, ex27, hM⟩ := zx_nE hM
                refine zx_top ex27 ?_
                refine lv_iconst (v := 0) hx hb dL_act_123 (by decide) ?_
                refine lv_iconst (v := 0) hx hb dL_act_124 (by decide) ?_
                obtain ⟨x28, T29, hz30, hM⟩ := zx_b2E hM
                have hF := zx_fW hD hS hA
                refine va_calli (va_runS (As := [.ref h, .int 11, .int x27, .int 0, .int 0]) (rest := []) ⟨hx, hb, hml, hown, hts⟩ (c_L_call l hlt D cI cZ cT h hh aa S _ N 11 x27 0 0 hz30) (va_cwS 5 hts (zg_S zw_4_2 zw_4_3 zw_3_14 zw_4_4) rfl rfl rfl zyL_call ⟨Nat.le_of_ble_eq_true rfl, Nat.le_of_ble_eq_true rfl⟩) ⟨bY_blind, bY_pre hP hK hD hN hXX hNc hS hF⟩ rfl rfl hl.1 rfl (lv_room (Nat.le_of_ble_eq_true rfl)) dL_act_125 ⟨by show kc + 1 ≤ 9; omega, by show 6 * kc + 6 ≤ 54; omega⟩) hS (fun q _ h => hF q h) (fun q h => hF q h) (fun r u t H1 lc ht hvm hw hB hz1 hk1 hS => ?_)
                obtain ⟨hw1, hw2⟩ := Prod.mk.inj hw; subst hw1; subst hw2
                rw [ht] at hB
                replace hP := hB
                replace hD := zx2_Da T29 hD
                refine W.widen (k := (kc + 1)) (n := 6 * (kc + 1)) (by omega) (by omega) ?_
                rw [hQ]
                refine W.widen (k := 9) (n := 54) (by omega) (by omega) ?_
                exact W.iret hx hb hr (fun t ht hW => ⟨⟨x28, T29, rfl, (Option.some.inj hM).symm, by show va_P D vwCl _ t.heap; rw [ht]; exact hP⟩, hS.F ht⟩) hS.2.2 dL_act_128
              · replace hM := zx_f q26 hM
                by_cases q31 : x12 = 7
                · replace hM := zx_t q31 hM
                  refine lv_tableIn (tgt := 129) hx hb dL_act_9 (by rw [q31]; decide) (by rw [q31]; decide) (by rw [q31]; rfl) (by decide) ?_
                  refine lv_aload_n hx hb dL_act_129 rfl (lv_at hl 1 rfl) ?_
                  obtain ⟨x32, T33, hz34, hM⟩ := zx_b2E hM
                  have hF := zx_fW hD hS hA
                  refine va_calli (va_runV (As := []) (rest := []) ⟨hx, hb, hml, hown, hts⟩ (c_X2_clearText l D cI cZ cT h hh aa S _ N hz34) (cwV 0 hts (zg_V zw_21_7 zw_21_8 zw_21_9 zw_1_2 zw_21_10) rfl rfl rfl ⟨rfl, zyX2_clearText⟩ ⟨Nat.le_of_ble_eq_true rfl, Nat.le_of_ble_eq_true rfl⟩) ⟨bS_blind, va_recv hK hP (ci := 2) (q0 := 0) rfl rfl, bS_pre hP hK hD hN⟩ rfl rfl hl.1 rfl (lv_room (Nat.le_of_ble_eq_true rfl)) dL_act_130 ⟨by show kc + 0 ≤ 9; omega, by show 6 * kc + 0 ≤ 54; omega⟩) hS (fun q _ h => hF q h) (fun q h => hF q h) (fun r u t H1 lc ht hvm hw hB hz1 hk1 hS => ?_)
                  obtain ⟨hw1, hw2⟩ := Prod.mk.inj hw; subst hw1; subst hw2
                  rw [ht] at hB
                  replace hP := hB
                  replace hD := zx2_Da T33 hD
                  refine W.widen (k := kc) (n := 6 * kc) (by omega) (by omega) ?_
                  refine lv_pop hx hb dL_act_133 rfl ?_
                  refine lv_aload_n hx hb dL_act_134 rfl (lv_at hl 1 rfl) ?_
                  refine lv_iconst (v := 0) hx hb dL_act_135 (by decide) ?_
                  refine lv_bipush (v := 48) hx hb dL_act_136 (by decide) ?_
                  refine lv_iload_n hx hb dL_act_138 rfl (lv_at hl 3 rfl) ?_
                  refine lv_bipush (v := 10) hx hb dL_act_139 (by decide) ?_
                  refine lv_irem hx hb dL_act_141 (by decide) ?_
                  obtain ⟨x35, ex35, hM⟩ := zx_nE hM
                  refine zx_top ex35 ?_
                  refine lv_iadd hx hb dL_act_142 ?_
                  refine lv_iconst (v := 0) hx hb dL_act_143 (by decide) ?_
                  refine lv_iconst (v := 0) hx hb dL_act_144 (by decide) ?_
                  obtain ⟨x36, T37, hz38, hM⟩ := zx_b2E hM
                  have hF := zx_fW hD hS hA
                  refine va_calli (va_runS (As := [.ref h, .int 0, .int (48 + x35), .int 0, .int 0]) (rest := []) ⟨hx, hb, hml, hown, hts⟩ (c_L_call l hlt D cI cZ cT h hh aa T33 _ N 0 (48 + x35) 0 0 hz38) (va_cwS 5 hts (zg_S zw_4_2 zw_4_3 zw_3_14 zw_4_4) rfl rfl rfl zyL_call ⟨Nat.le_of_ble_eq_true rfl, Nat.le_of_ble_eq_true rfl⟩) ⟨bY_blind, bY_pre hP hK hD hN hXX hNc hS hF⟩ rfl rfl hl.1 rfl (lv_room (Nat.le_of_ble_eq_true rfl)) dL_act_145 ⟨by show kc + 1 ≤ 9; omega, by show 6 * kc + 6 ≤ 54; omega⟩) hS (fun q _ h => hF q h) (fun q h => hF q h) (fun r u t H1 lc ht hvm hw hB hz1 hk1 hS => ?_)
                  obtain ⟨hw1, hw2⟩ := Prod.mk.inj hw; subst hw1; subst hw2
                  rw [ht] at hB
                  replace hP := hB
                  replace hD := zx2_Da T37 hD
                  refine W.widen (k := (kc + 1)) (n := 6 * (kc + 1)) (by omega) (by omega) ?_
                  refine lv_aload_n hx hb dL_act_148 rfl (lv_at hl 1 rfl) ?_
                  refine lv_iconst (v := 0) hx hb dL_act_149 (by decide) ?_
                  refine lv_bipush (v := 44) hx hb dL_act_150 (by decide) ?_
                  refine lv_iconst (v := 0) hx hb dL_act_152 (by decide) ?_
                  refine lv_iconst (v := 0) hx hb dL_act_153 (by decide) ?_
                  obtain ⟨x39, T40, hz41, hM⟩ := zx_b2E hM
                  have hF := zx_fW hD hS hA
                  refine va_calli (va_runS (As := [.ref h, .int 0, .int 44, .int 0, .int 0]) (rest := [.int x36]) ⟨hx, hb, hml, hown, hts⟩ (c_L_call l hlt D cI cZ cT h hh aa T37 _ N 0 44 0 0 hz41) (va_cwS 5 hts (zg_S zw_4_2 zw_4_3 zw_3_14 zw_4_4) rfl rfl rfl zyL_call ⟨Nat.le_of_ble_eq_true rfl, Nat.le_of_ble_eq_true rfl⟩) ⟨bY_blind, bY_pre hP hK hD hN hXX hNc hS hF⟩ rfl rfl hl.1 rfl (lv_room (Nat.le_of_ble_eq_true rfl)) dL_act_154 ⟨by show (kc + 1) + 1 ≤ 9; omega, by show 6 * (kc + 1) + 6 ≤ 54; omega⟩) hS (fun q _ h => hF q h) (fun q h => hF q h) (fun r u t H1 lc ht hvm hw hB hz1 hk1 hS => ?_)
                  obtain ⟨hw1, hw2⟩ := Prod.mk.inj hw; subst hw1; subst hw2
                  rw [ht] at hB
                  replace hP := hB
                  replace hD := zx2_Da T40 hD
                  refine W.widen (k := (kc + 2)) (n := 6 * (kc + 2)) (by omega) (by omega) ?_
                  refine lv_iadd hx hb dL_act_157 ?_
                  refine lv_aload_n hx hb dL_act_158 rfl (lv_at hl 1 rfl) ?_
                  refine lv_iconst (v := 0) hx hb dL_act_159 (by decide) ?_
                  refine lv_bipush (v := 49) hx hb dL_act_160 (by decide) ?_
                  refine lv_iload_n hx hb dL_act_162 rfl (lv_at hl 3 rfl) ?_
                  refine lv_bipush (v := 16) hx hb dL_act_163 (by decide) ?_
                  refine lv_idiv hx hb dL_act_165 (by decide) ?_
                  obtain ⟨x42, ex42, hM⟩ := zx_nE hM
                  refine zx_top ex42 ?_
                  refine lv_bipush (v := 9) hx hb dL_act_166 (by decide) ?_
                  refine lv_irem hx hb dL_act_168 (by decide) ?_
                  obtain ⟨x43, ex43, hM⟩ := zx_nE hM
                  refine zx_top ex43 ?_
                  refine lv_iadd hx hb dL_act_169 ?_
                  refine lv_iconst (v := 0) hx hb dL_act_170 (by decide) ?_
                  refine lv_iconst (v := 0) hx hb dL_act_171 (by decide) ?_
                  obtain ⟨x44, T45, hz46, hM⟩ := zx_b2E hM
                  have hF := zx_fW hD hS hA
                  refine va_calli (va_runS (As := [.ref h, .int 0, .int (49 + x43), .int 0, .int 0]) (rest := [.int (x36 + x39)]) ⟨hx, hb, hml, hown, hts⟩ (c_L_call l hlt D cI cZ cT h hh aa T40 _ N 0 (49 + x43) 0 0 hz46) (va_cwS 5 hts (zg_S zw_4_2 zw_4_3 zw_3_14 zw_4_4) rfl rfl rfl zyL_call ⟨Nat.le_of_ble_eq_true rfl, Nat.le_of_ble_eq_true rfl⟩) ⟨bY_blind, bY_pre hP hK hD hN hXX hNc hS hF⟩ rfl rfl hl.1 rfl (lv_room (Nat.le_of_ble_eq_true rfl)) dL_act_172 ⟨by show (kc + 2) + 1 ≤ 9; omega, by show 6 * (kc + 2) + 6 ≤ 54; omega⟩) hS (fun q _ h => hF q h) (fun q h => hF q h) (fun r u t H1 lc ht hvm hw hB hz1 hk1 hS => ?_)
                  obtain ⟨hw1, hw2⟩ := Prod.mk.inj hw; subst hw1; subst hw2
                  rw [ht] at hB
                  replace hP := hB
                  replace hD := zx2_Da T45 hD
                  refine W.widen (k := (kc + 3)) (n := 6 * (kc + 3)) (by omega) (by omega) ?_
                  refine lv_iadd hx hb dL_act_175 ?_
                  refine lv_aload_n hx hb dL_act_176 rfl (lv_at hl 1 rfl) ?_
                  refine lv_iconst (v := 0) hx hb dL_act_177 (by decide) ?_
                  refine lv_bipush (v := 48) hx hb dL_act_178 (by decide) ?_
                  refine lv_iload_n hx hb dL_act_180 rfl (lv_at hl 3 rfl) ?_
                  refine lv_sipush (v := 256) hx hb dL_act_181 (by decide) ?_
                  refine lv_idiv hx hb dL_act_184 (by decide) ?_
                  obtain ⟨x47, ex47, hM⟩ := zx_nE hM
                  refine zx_top ex47 ?_
                  refine lv_bipush (v := 10) hx hb dL_act_185 (by decide) ?_
                  refine lv_irem hx hb dL_act_187 (by decide) ?_
                  obtain ⟨x48, ex48, hM⟩ := zx_nE hM
                  refine zx_top ex48 ?_
                  refine lv_iadd hx hb dL_act_188 ?_
                  refine lv_iconst (v := 0) hx hb dL_act_189 (by decide) ?_
                  refine lv_iconst (v := 0) hx hb dL_act_190 (by decide) ?_
                  obtain ⟨x49, T50, hz51, hM⟩ := zx_b2E hM
                  have hF := zx_fW hD hS hA
                  refine va_calli (va_runS (As := [.ref h, .int 0, .int (48 + x48), .int 0, .int 0]) (rest := [.int ((x36 + x39) + x44)]) ⟨hx, hb, hml, hown, hts⟩ (c_L_call l hlt D cI cZ cT h hh aa T45 _ N 0 (48 + x48) 0 0 hz51) (va_cwS 5 hts (zg_S zw_4_2 zw_4_3 zw_3_14 zw_4_4) rfl rfl rfl zyL_call ⟨Nat.le_of_ble_eq_true rfl, Nat.le_of_ble_eq_true rfl⟩) ⟨bY_blind, bY_pre hP hK hD hN hXX hNc hS hF⟩ rfl rfl hl.1 rfl (lv_room (Nat.le_of_ble_eq_true rfl)) dL_act_191 ⟨by show (kc + 3) + 1 ≤ 9; omega, by show 6 * (kc + 3) + 6 ≤ 54; omega⟩) hS (fun q _ h => hF q h) (fun q h => hF q h) (fun r u t H1 lc ht hvm hw hB hz1 hk1 hS => ?_)
                  obtain ⟨hw1, hw2⟩ := Prod.mk.inj hw; subst hw1; subst hw2
                  rw [ht] at hB
                  replace hP := hB
                  replace hD := zx2_Da T50 hD
                  refine W.widen (k := (kc + 4)) (n := 6 * (kc + 4)) (by omega) (by omega) ?_
                  refine lv_iadd hx hb dL_act_194 ?_
                  refine lv_aload_n hx hb dL_act_195 rfl (lv_at hl 1 rfl) ?_
                  refine lv_iconst (v := 0) hx hb dL_act_196 (by decide) ?_
                  refine lv_bipush (v := 58) hx hb dL_act_197 (by decide) ?_
                  refine lv_iconst (v := 0) hx hb dL_act_199 (by decide) ?_
                  refine lv_iconst (v := 0) hx hb dL_act_200 (by decide) ?_
                  obtain ⟨x52, T53, hz54, hM⟩ := zx_b2E hM
                  have hF := zx_fW hD hS hA
                  refine va_calli (va_runS (As := [.ref h, .int 0, .int 58, .int 0, .int 0]) (rest := [.int (((x36 + x39) + x44) + x49)]) ⟨hx, hb, hml, hown, hts⟩ (c_L_call l hlt D cI cZ cT h hh aa T50 _ N 0 58 0 0 hz54) (va_cwS 5 hts (zg_S zw_4_2 zw_4_3 zw_3_14 zw_4_4) rfl rfl rfl zyL_call ⟨Nat.le_of_ble_eq_true rfl, Nat.le_of_ble_eq_true rfl⟩) ⟨bY_blind, bY_pre hP hK hD hN hXX hNc hS hF⟩ rfl rfl hl.1 rfl (lv_room (Nat.le_of_ble_eq_true rfl)) dL_act_201 ⟨by show (kc + 4) + 1 ≤ 9; omega, by show 6 * (kc + 4) + 6 ≤ 54; omega⟩) hS (fun q _ h => hF q h) (fun q h => hF q h) (fun r u t H1 lc ht hvm hw hB hz1 hk1 hS => ?_)
                  obtain ⟨hw1, hw2⟩ := Prod.mk.inj hw; subst hw1; subst hw2
                  rw [ht] at hB
                  replace hP := hB
                  replace hD := zx2_Da T53 hD
                  refine W.widen (k := (kc + 5)) (n := 6 * (kc + 5)) (by omega) (by omega) ?_
                  refine lv_iadd hx hb dL_act_204 ?_
                  refine lv_aload_n hx hb dL_act_205 rfl (lv_at hl 1 rfl) ?_
                  refine lv_iconst (v := 0) hx hb dL_act_206 (by decide) ?_
                  refine lv_bipush (v := 49) hx hb dL_act_207 (by decide) ?_
                  refine lv_iload_n hx hb dL_act_209 rfl (lv_at hl 3 rfl) ?_
                  refine lv_sipush (v := 4096) hx hb dL_act_210 (by decide) ?_
                  refine lv_idiv hx hb dL_act_213 (by decide) ?_
                  obtain ⟨x55, ex55, hM⟩ := zx_nE hM
                  refine zx_top ex55 ?_
                  refine lv_bipush (v := 9) hx hb dL_act_214 (by decide) ?_
                  refine lv_irem hx hb dL_act_216 (by decide) ?_
                  obtain ⟨x56, ex56, hM⟩ := zx_nE hM
                  refine zx_top ex56 ?_
                  refine lv_iadd hx hb dL_act_217 ?_
                  refine lv_iconst (v := 0) hx hb dL_act_218 (by decide) ?_
                  refine lv_iconst (v := 0) hx hb dL_act_219 (by decide) ?_
                  obtain ⟨x57, T58, hz59, hM⟩ := zx_b2E hM
                  have hF := zx_fW hD hS hA
                  refine va_calli (va_runS (As := [.ref h, .int 0, .int (49 + x56), .int 0, .int 0]) (rest := [.int ((((x36 + x39) + x44) + x49) + x52)]) ⟨hx, hb, hml, hown, hts⟩ (c_L_call l hlt D cI cZ cT h hh aa T53 _ N 0 (49 + x56) 0 0 hz59) (va_cwS 5 hts (zg_S zw_4_2 zw_4_3 zw_3_14 zw_4_4) rfl rfl rfl zyL_call ⟨Nat.le_of_ble_eq_true rfl, Nat.le_of_ble_eq_true rfl⟩) ⟨bY_blind, bY_pre hP hK hD hN hXX hNc hS hF⟩ rfl rfl hl.1 rfl (lv_room (Nat.le_of_ble_eq_true rfl)) dL_act_220 ⟨by show (kc + 5) + 1 ≤ 9; omega, by show 6 * (kc + 5) + 6 ≤ 54; omega⟩) hS (fun q _ h => hF q h) (fun q h => hF q h) (fun r u t H1 lc ht hvm hw hB hz1 hk1 hS => ?_)
                  obtain ⟨hw1, hw2⟩ := Prod.mk.inj hw; subst hw1; subst hw2
                  rw [ht] at hB
                  replace hP := hB
                  replace hD := zx2_Da T58 hD
                  refine W.widen (k := (kc + 6)) (n := 6 * (kc + 6)) (by omega) (by omega) ?_
                  refine lv_iadd hx hb dL_act_223 ?_
                  refine lv_aload_n hx hb dL_act_224 rfl (lv_at hl 1 rfl) ?_
                  refine lv_iconst (v := 0) hx hb dL_act_225 (by decide) ?_
                  refine lv_bipush (v := 120) hx hb dL_act_226 (by decide) ?_
                  refine lv_iconst (v := 0) hx hb dL_act_228 (by decide) ?_
                  refine lv_iconst (v := 0) hx hb dL_act_229 (by decide) ?_
                  obtain ⟨x60, T61, hz62, hM⟩ := zx_b2E hM
                  have hF := zx_fW hD hS hA
                  refine va_calli (va_runS (As := [.ref h, .int 0, .int 120, .int 0, .int 0]) (rest := [.int (((((x36 + x39) + x44) + x49) + x52) + x57)]) ⟨hx, hb, hml, hown, hts⟩ (c_L_call l hlt D cI cZ cT h hh aa T58 _ N 0 120 0 0 hz62) (va_cwS 5 hts (zg_S zw_4_2 zw_4_3 zw_3_14 zw_4_4) rfl rfl rfl zyL_call ⟨Nat.le_of_ble_eq_true rfl, Nat.le_of_ble_eq_true rfl⟩) ⟨bY_blind, bY_pre hP hK hD hN hXX hNc hS hF⟩ rfl rfl hl.1 rfl (lv_room (Nat.le_of_ble_eq_true rfl)) dL_act_230 ⟨by show (kc + 6) + 1 ≤ 9; omega, by show 6 * (kc + 6) + 6 ≤ 54; omega⟩) hS (fun q _ h => hF q h) (fun q h => hF q h) (fun r u t H1 lc ht hvm hw hB hz1 hk1 hS => ?_)
                  obtain ⟨hw1, hw2⟩ := Prod.mk.inj hw; subst hw1; subst hw2
                  rw [ht] at hB
                  replace hP := hB
                  replace hD := zx2_Da T61 hD
                  refine W.widen (k := (kc + 7)) (n := 6 * (kc + 7)) (by omega) (by omega) ?_
                  refine lv_iadd hx hb dL_act_233 ?_
                  refine lv_aload_n hx hb dL_act_234 rfl (lv_at hl 1 rfl) ?_
                  refine lv_iconst (v := 0) hx hb dL_act_235 (by decide) ?_
                  refine lv_bipush (v := 48) hx hb dL_act_236 (by decide) ?_
                  refine lv_iload_n hx hb dL_act_238 rfl (lv_at hl 3 rfl) ?_
                  refine lv_ldc (v := 65536) hx hb hown (hts _ zw_21_6) dL_act_239 ?_
                  refine lv_idiv hx hb dL_act_241 (by decide) ?_
                  obtain ⟨x63, ex63, hM⟩ := zx_nE hM
                  refine zx_top ex63 ?_
                  refine lv_bipush (v := 10) hx hb dL_act_242 (by decide) ?_
                  refine lv_irem hx hb dL_act_244 (by decide) ?_
                  obtain ⟨x64, ex64, hM⟩ := zx_nE hM
                  refine zx_top ex64 ?_
                  refine lv_iadd hx hb dL_act_245 ?_
                  refine lv_iconst (v := 0) hx hb dL_act_246 (by decide) ?_
                  refine lv_iconst (v := 0) hx hb dL_act_247 (by decide) ?_
                  obtain ⟨x65, T66, hz67, hM⟩ := zx_b2E hM
                  have hF := zx_fW hD hS hA
                  refine va_calli (va_runS (As := [.ref h, .int 0, .int (48 + x64), .int 0, .int 0]) (rest := [.int ((((((x36 + x39) + x44) + x49) + x52) + x57) + x60)]) ⟨hx, hb, hml, hown, hts⟩ (c_L_call l hlt D cI cZ cT h hh aa T61 _ N 0 (48 + x64) 0 0 hz67) (va_cwS 5 hts (zg_S zw_4_2 zw_4_3 zw_3_14 zw_4_4) rfl rfl rfl zyL_call ⟨Nat.le_of_ble_eq_true rfl, Nat.le_of_ble_eq_true rfl⟩) ⟨bY_blind, bY_pre hP hK hD hN hXX hNc hS hF⟩ rfl rfl hl.1 rfl (lv_room (Nat.le_of_ble_eq_true rfl)) dL_act_248 ⟨by show (kc + 7) + 1 ≤ 9; omega, by show 6 * (kc + 7) + 6 ≤ 54; omega⟩) hS (fun q _ h => hF q h) (fun q h => hF q h) (fun r u t H1 lc ht hvm hw hB hz1 hk1 hS => ?_)
                  obtain ⟨hw1, hw2⟩ := Prod.mk.inj hw; subst hw1; subst hw2
                  rw [ht] at hB
                  replace hP := hB
                  replace hD := zx2_Da T66 hD
                  refine W.widen (k := (kc + 8)) (n := 6 * (kc + 8)) (by omega) (by omega) ?_
                  refine lv_iadd hx hb dL_act_251 ?_
                  refine lv_aload_n hx hb dL_act_252 rfl (lv_at hl 1 rfl) ?_
                  refine lv_iconst (v := 5) hx hb dL_act_253 (by decide) ?_
                  refine lv_iconst (v := 0) hx hb dL_act_254 (by decide) ?_
                  refine lv_iconst (v := 0) hx hb dL_act_255 (by decide) ?_
                  refine lv_iconst (v := 0) hx hb dL_act_256 (by decide) ?_
                  obtain ⟨x68, T69, hz70, hM⟩ := zx_b2E hM
                  have hF := zx_fW hD hS hA
                  refine va_calli (va_runS (As := [.ref h, .int 5, .int 0, .int 0, .int 0]) (rest := [.int (((((((x36 + x39) + x44) + x49) + x52) + x57) + x60) + x65)]) ⟨hx, hb, hml, hown, hts⟩ (c_L_call l hlt D cI cZ cT h hh aa T66 _ N 5 0 0 0 hz70) (va_cwS 5 hts (zg_S zw_4_2 zw_4_3 zw_3_14 zw_4_4) rfl rfl rfl zyL_call ⟨Nat.le_of_ble_eq_true rfl, Nat.le_of_ble_eq_true rfl⟩) ⟨bY_blind, bY_pre hP hK hD hN hXX hNc hS hF⟩ rfl rfl hl.1 rfl (lv_room (Nat.le_of_ble_eq_true rfl)) dL_act_257 ⟨by show (kc + 8) + 1 ≤ 9; omega, by show 6 * (kc + 8) + 6 ≤ 54; omega⟩) hS (fun q _ h => hF q h) (fun q h => hF q h) (fun r u t H1 lc ht hvm hw hB hz1 hk1 hS => ?_)
                  obtain ⟨hw1, hw2⟩ := Prod.mk.inj hw; subst hw1; subst hw2
                  rw [ht] at hB
                  replace hP := hB
                  replace hD := zx2_Da T69 hD
                  refine W.widen (k := (kc + 9)) (n := 6 * (kc + 9)) (by omega) (by omega) ?_
                  refine lv_iadd hx hb dL_act_260 ?_
                  rw [hQ]
                  refine W.widen (k := 9) (n := 54) (by omega) (by omega) ?_
                  exact W.iret hx hb hr (fun t ht hW => ⟨⟨((((((((x36 + x39) + x44) + x49) + x52) + x57) + x60) + x65) + x68), T69, rfl, (Option.some.inj hM).symm, by show va_P D vwCl _ t.heap; rw [ht]; exact hP⟩, hS.F ht⟩) hS.2.2 dL_act_261
                · replace hM := zx_f q31 hM
                  refine lv_tableOut (tgt := 262) hx hb dL_act_9 (zx_sw (lo := 0) (hi := 7) (by decide) (by decide) (fun k h1 h2 => by rcases (show k = 0 ∨ k = 1 ∨ k = 2 ∨ k = 3 ∨ k = 4 ∨ k = 5 ∨ k = 6 ∨ k = 7 by omega) with rfl | rfl | rfl | rfl | rfl | rfl | rfl | rfl <;> assumption)) (by decide) ?_
                  have j279 : ∀ (v1 : Int32) (v2 : Int32) (t0 : Int32) (t1 : Int32) (S_ : zx_B) (kc : Nat) (H : Heap) (lc : List Loc) (ls : Array Slot), kc + (1) ≤ 9 → va_P D vwCl (xW2 cI cT h hh aa S_) H → va_D A (xW2 cI cT h hh aa S_) → va_S A s.heap H lc → lv_has ls 8 [(0, .ref h), (1, .int v1), (2, .int v2)] → f_L_act_j279 N v1 v2 t0 t1 S_ = some R → W p l e (headSpec zsL_act rmL_act).room s m ([.ref h, .int p1, .int p2] : List Value).toArray below meth c H lc kc (6 * kc) Q9 (F0 m 279 ls [.int t1, .int t0]) := by
                    intro v1 v2 t0 t1 S_ kc H lc ls hkc hP hD hS hl hM
                    unfold f_L_act_j279 at hM
                    have j304 : ∀ (v1 : Int32) (v2 : Int32) (v4 : Int32) (t0 : Int32) (t1 : Int32) (S_ : zx_B) (kc : Nat) (H : Heap) (lc : List Loc) (ls : Array Slot), kc + (1) ≤ 9 → va_P D vwCl (xW2 cI cT h hh aa S_) H → va_D A (xW2 cI cT h hh aa S_) → va_S A s.heap H lc → lv_has ls 8 [(0, .ref h), (1, .int v1), (2, .int v2), (4, .int v4)] → f_L_act_j304 N v1 v2 v4 t0 t1 S_ = some R → W p l e (headSpec zsL_act rmL_act).room s m ([.ref h, .int p1, .int p2] : List Value).toArray below meth c H lc kc (6 * kc) Q9 (F0 m 304 ls [.int t1, .int t0]) := by
                      intro v1 v2 v4 t0 t1 S_ kc H lc ls hkc hP hD hS hl hM
                      unfold f_L_act_j304 at hM
                      have j352 : ∀ (v7 : Int32) (t1 : Int32) (t2 : Int32) (t3 : Int32) (S_ : zx_B) (kc : Nat) (H : Heap) (lc : List Loc) (ls : Array Slot), kc + (1) ≤ 9 → va_P D vwCl (xW2 cI cT h hh aa S_) H → va_D A (xW2 cI cT h hh aa S_) → va_S A s.heap H lc → lv_has ls 8 [(7, .int v7)] → f_L_act_j352 N v7 t1 t2 t3 S_ = some R → W p l e (headSpec zsL_act rmL_act).room s m ([.ref h, .int p1, .int p2] : List Value).toArray below meth c H lc kc (6 * kc) Q9 (F0 m 352 ls [.int t3, .int t2, .int t1, .ref h]) := by
                        intro v7 t1 t2 t3 S_ kc H lc ls hkc hP hD hS hl hM
                        unfold f_L_act_j352 at hM
                        have j366 : ∀ (t1 : Int32) (t2 : Int32) (t3 : Int32) (t4 : Int32) (S_ : zx_B) (kc : Nat) (H : Heap) (lc : List Loc) (ls : Array Slot), kc + (1) ≤ 9 → va_P D vwCl (xW2 cI cT h hh aa S_) H → va_D A (xW2 cI cT h hh aa S_) → va_S A s.heap H lc → lv_has ls 8 [] → f_L_act_j366 N t1 t2 t3 t4 S_ = some R → W p l e (headSpec zsL_act rmL_act).room s m ([.ref h, .int p1, .int p2] : List Value).toArray below meth c H lc kc (6 * kc) Q9 (F0 m 366 ls [.int t4, .int t3, .int t2, .int t1, .ref h]) := by
                          intro t1 t2 t3 t4 S_ kc H lc ls hkc hP hD hS hl hM
                          unfold f_L_act_j366 at hM
                          obtain ⟨x71, T72, hz73, hM⟩ := zx_b2E hM
                          have hF := zx_fW hD hS hA
                          refine va_calli (vx_runSW (As := [.ref h, .int t1, .int t2, .int t3, .int t4]) (rest := []) ⟨hx, hb, hml, hown, hts⟩ (c_L_tryAdd l hlt D cI cZ cT h hh aa S_ _ N t1 t2 t3 t4 hz73) (vx_cwSW 5 hts (zg_S zw_17_13 zw_17_14 zw_3_14 zw_17_15) rfl rfl rfl zyL_tryAdd ⟨Nat.le_of_ble_eq_true rfl, Nat.le_of_ble_eq_true rfl⟩) ⟨bY_blind, bY_pre hP hK hD hN hXX hNc hS hF⟩ rfl rfl hl.1 rfl (lv_room (Nat.le_of_ble_eq_true rfl)) dL_act_366 ⟨by show kc + 1 ≤ 9; omega, by show 6 * kc + 6 ≤ 54; omega⟩) hS (fun q _ h => hF q h) (fun q h => hF q h) (fun r u t H1 lc ht hvm hw hB hz1 hk1 hS => ?_)
                          obtain ⟨hw1, hw2⟩ := Prod.mk.inj hw; subst hw1; subst hw2
                          rw [ht] at hB
                          replace hP := hB
                          replace hD := zx2_Da T72 hD
                          refine W.widen (k := (kc + 1)) (n := 6 * (kc + 1)) (by omega) (by omega) ?_
                          rw [hQ]
                          refine W.widen (k := 9) (n := 54) (by omega) (by omega) ?_
                          exact W.iret hx hb hr (fun t ht hW => ⟨⟨x71, T72, rfl, (Option.some.inj hM).symm, by show va_P D vwCl _ t.heap; rw [ht]; exact hP⟩, hS.F ht⟩) hS.2.2 dL_act_369
                        refine lv_iload hx hb dL_act_352 (lv_at hl 0 rfl) ?_
                        refine lv_bipush (v := 99) hx hb dL_act_354 (by decide) ?_
                        refine lv_icmp_le (tgt := 364) hx hb dL_act_356 (by decide) (fun q74 => ?_) (fun q74 => ?_)
                        · replace hM := zx_t q74 hM
                          refine lv_iload hx hb dL_act_364 (lv_at hl 0 rfl) ?_
                          exact j366 t1 t2 t3 v7 S_ kc _ _ _ (by omega) hP hD hS (lv_sub hl [] rfl) hM
                        · replace hM := zx_f q74 hM
                          refine lv_bipush (v := 99) hx hb dL_act_359 (by decide) ?_
                          refine lv_goto (tgt := 366) hx hb dL_act_361 (by decide) ?_
                          exact j366 t1 t2 t3 99 S_ kc _ _ _ (by omega) hP hD hS (lv_sub hl [] rfl) hM
                      obtain ⟨q75, hM⟩ := zx_nzE hM
                      refine lv_irem hx hb dL_act_304 q75 ?_
                      obtain ⟨x76, ex76, hM⟩ := zx_nE hM
                      refine zx_top ex76 ?_
                      refine lv_istore (lv' := [(5, .int x76), (0, .ref h), (1, .int v1), (2, .int v2), (4, .int v4)]) hx hb dL_act_305 hl (by decide) rfl (fun ls hl => ?_)
                      refine lv_iload hx hb dL_act_307 (lv_at hl 4 rfl) ?_
                      refine lv_iload_n hx hb dL_act_309 rfl (lv_at hl 3 rfl) ?_
                      refine lv_sipush (v := 16384) hx hb dL_act_310 (by decide) ?_
                      refine lv_idiv hx hb dL_act_313 (by decide) ?_
                      obtain ⟨x77, ex77, hM⟩ := zx_nE hM
                      refine zx_top ex77 ?_
                      refine lv_bipush (v := 12) hx hb dL_act_314 (by decide) ?_
                      refine lv_irem hx hb dL_act_316 (by decide) ?_
                      obtain ⟨x78, ex78, hM⟩ := zx_nE hM
                      refine zx_top ex78 ?_
                      refine lv_iadd hx hb dL_act_317 ?_
                      obtain ⟨x79, ex79, hM⟩ := zx_nE hM
                      refine zx_top ex79 ?_
                      refine lv_istore (lv' := [(6, .int x79), (5, .int x76), (0, .ref h), (1, .int v1), (2, .int v2), (4, .int v4)]) hx hb dL_act_318 hl (by decide) rfl (fun ls hl => ?_)
                      refine lv_iload hx hb dL_act_320 (lv_at hl 1 rfl) ?_
                      refine lv_iload_n hx hb dL_act_322 rfl (lv_at hl 3 rfl) ?_
                      refine lv_sipush (v := 256) hx hb dL_act_323 (by decide) ?_
                      refine lv_idiv hx hb dL_act_326 (by decide) ?_
                      obtain ⟨x80, ex80, hM⟩ := zx_nE hM
                      refine zx_top ex80 ?_
                      refine lv_bipush (v := 12) hx hb dL_act_327 (by decide) ?_
                      refine lv_irem hx hb dL_act_329 (by decide) ?_
                      obtain ⟨x81, ex81, hM⟩ := zx_nE hM
                      refine zx_top ex81 ?_
                      refine lv_iadd hx hb dL_act_330 ?_
                      obtain ⟨x82, ex82, hM⟩ := zx_nE hM
                      refine zx_top ex82 ?_
                      refine lv_istore (lv' := [(7, .int x82), (6, .int x79), (5, .int x76), (0, .ref h), (1, .int v1), (2, .int v2), (4, .int v4)]) hx hb dL_act_331 hl (by decide) rfl (fun ls hl => ?_)
                      refine lv_aload_n hx hb dL_act_333 rfl (lv_at hl 3 rfl) ?_
                      refine lv_iload hx hb dL_act_334 (lv_at hl 6 rfl) ?_
                      refine lv_iload hx hb dL_act_336 (lv_at hl 2 rfl) ?_
                      refine lv_iload hx hb dL_act_338 (lv_at hl 1 rfl) ?_
                      refine lv_bipush (v := 99) hx hb dL_act_340 (by decide) ?_
                      refine lv_icmp_le (tgt := 350) hx hb dL_act_342 (by decide) (fun q83 => ?_) (fun q83 => ?_)
                      · replace hM := zx_t q83 hM
                        refine lv_iload hx hb dL_act_350 (lv_at hl 1 rfl) ?_
                        exact j352 x82 v4 x76 x79 S_ kc _ _ _ (by omega) hP hD hS (lv_sub hl [0] rfl) hM
                      · replace hM := zx_f q83 hM
                        refine lv_bipush (v := 99) hx hb dL_act_345 (by decide) ?_
                        refine lv_goto (tgt := 352) hx hb dL_act_347 (by decide) ?_
                        exact j352 x82 v4 x76 99 S_ kc _ _ _ (by omega) hP hD hS (lv_sub hl [0] rfl) hM
                    obtain ⟨q84, hM⟩ := zx_nzE hM
                    refine lv_irem hx hb dL_act_279 q84 ?_
                    obtain ⟨x85, ex85, hM⟩ := zx_nE hM
                    refine zx_top ex85 ?_
                    refine lv_istore (lv' := [(4, .int x85), (0, .ref h), (1, .int v1), (2, .int v2)]) hx hb dL_act_280 hl (by decide) rfl (fun ls hl => ?_)
                    refine lv_iload_n hx hb dL_act_282 rfl (lv_at hl 3 rfl) ?_
                    refine lv_sipush (v := 128) hx hb dL_act_283 (by decide) ?_
                    refine lv_idiv hx hb dL_act_286 (by decide) ?_
                    obtain ⟨x86, ex86, hM⟩ := zx_nE hM
                    refine zx_top ex86 ?_
                    refine lv_iload_n hx hb dL_act_287 rfl (lv_at hl 2 rfl) ?_
                    refine lv_bipush (v := 16) hx hb dL_act_288 (by decide) ?_
                    refine lv_idiv hx hb dL_act_290 (by decide) ?_
                    obtain ⟨x87, ex87, hM⟩ := zx_nE hM
                    refine zx_top ex87 ?_
                    refine lv_iconst (v := 3) hx hb dL_act_291 (by decide) ?_
                    refine lv_irem hx hb dL_act_292 (by decide) ?_
                    obtain ⟨x88, ex88, hM⟩ := zx_nE hM
                    refine zx_top ex88 ?_
                    refine lv_iconst (v := 1) hx hb dL_act_293 (by decide) ?_
                    refine lv_icmp_ne (tgt := 302) hx hb dL_act_294 (by decide) (fun q89 => ?_) (fun q89 => ?_)
                    · replace hM := zx_f q89 hM
                      refine lv_bipush (v := 40) hx hb dL_act_302 (by decide) ?_
                      exact j304 v1 v2 x85 x86 40 S_ kc _ _ _ (by omega) hP hD hS (lv_sub hl [1, 2, 3, 0] rfl) hM
                    · replace hM := zx_t q89 hM
                      refine lv_bipush (v := 100) hx hb dL_act_297 (by decide) ?_
                      refine lv_goto (tgt := 304) hx hb dL_act_299 (by decide) ?_
                      exact j304 v1 v2 x85 x86 100 S_ kc _ _ _ (by omega) hP hD hS (lv_sub hl [1, 2, 3, 0] rfl) hM
                  refine lv_iload_n hx hb dL_act_262 rfl (lv_at hl 3 rfl) ?_
                  refine lv_iload_n hx hb dL_act_263 rfl (lv_at hl 2 rfl) ?_
                  refine lv_bipush (v := 16) hx hb dL_act_264 (by decide) ?_
                  refine lv_idiv hx hb dL_act_266 (by decide) ?_
                  obtain ⟨x90, ex90, hM⟩ := zx_nE hM
                  refine zx_top ex90 ?_
                  refine lv_iconst (v := 3) hx hb dL_act_267 (by decide) ?_
                  refine lv_irem hx hb dL_act_268 (by decide) ?_
                  obtain ⟨x91, ex91, hM⟩ := zx_nE hM
                  refine zx_top ex91 ?_
                  refine lv_if_ne (tgt := 277) hx hb dL_act_269 (by decide) (fun q92 => ?_) (fun q92 => ?_)
                  · replace hM := zx_f q92 hM
                    refine lv_bipush (v := 40) hx hb dL_act_277 (by decide) ?_
                    exact j279 p1 p2 p2 40 S kc _ _ _ (by omega) hP hD hS (lv_sub hl [1, 2, 3] rfl) hM
                  · replace hM := zx_t q92 hM
                    refine lv_bipush (v := 100) hx hb dL_act_272 (by decide) ?_
                    refine lv_goto (tgt := 279) hx hb dL_act_274 (by decide) ?_
                    exact j279 p1 p2 p2 100 S kc _ _ _ (by omega) hP hD hS (lv_sub hl [1, 2, 3] rfl) hM

/-! the law: alike(LShallowBoxes;LShallowBoxes;I)Z -/
def f_L_alike_j243 (N : Nat) (v2 : Int32) (v3 : Int32) (S_ : zx_B) (Sp_ : zx_B) : Option (Int32 × (zx_B × zx_B)) :=
  (zx_n (v2 - v2 / 100 * 100) (fun x1 =>
(zx_n (v2 / 128) (fun x2 =>
(zx_n (x2 - x2 / 100 * 100) (fun x3 =>
(if v3 = 0 then
  some (0, (S_, Sp_)) else
  (zx_b2 (f_L_tryWindow N x1 x3 99 99 S_) (fun x5 T6 =>
(zx_b2 (f_L_tryWindow N x1 x3 99 99 Sp_) (fun x8 T9 =>
(if x5 = x8 then
  (zx_b2 (f_L_tryLooks N 0 0 x1 x3 T6) (fun x12 T13 =>
(zx_b2 (f_L_tryLooks N 0 0 x1 x3 T9) (fun x15 T16 =>
(if x12 = x15 then
  (zx_b2 (f_L_tryChosen N x1 x3 x1 x3 T13) (fun x19 T20 =>
(zx_b2 (f_L_tryChosen N x1 x3 x1 x3 T16) (fun x22 T23 =>
(if x19 = x22 then
  (zx_n (v2 - v2 / 5 * 5) (fun x26 =>
(zx_b2 (f_L_call N 9 x1 x3 x26 T20) (fun x27 T28 =>
(zx_n (v2 - v2 / 5 * 5) (fun x30 =>
(zx_b2 (f_L_call N 9 x1 x3 x30 T23) (fun x31 T32 =>
(if x27 = x31 then
  some (1, (T28, T32)) else
  some (0, (T28, T32))))))))))) else
  some (0, (T20, T23))))))) else
  some (0, (T13, T16))))))) else
  some (0, (T6, T9))))))))))))))
def f_L_alike_j236 (N : Nat) (k195 : Int32 → Int32 → Int32 → zx_B → zx_B → Option (Int32 × (zx_B × zx_B))) (v2 : Int32) (v4 : Int32) (t0 : Int32) (S_ : zx_B) (Sp_ : zx_B) : Option (Int32 × (zx_B × zx_B)) :=
  (zx_n (v4 + 1) (fun x37 =>
k195 v2 t0 x37 S_ Sp_))
def f_L_alike_l195 (N : Nat) : Nat → Int32 → Int32 → Int32 → zx_B → zx_B → Option (Int32 × (zx_B × zx_B))
  | 0, _, _, _, _, _ => none
  | n195 + 1, v2, v3, v4, S_, Sp_ => (if 24 ≤ v4 then
  f_L_alike_j243 N  v2 v3 S_ Sp_ else
  (if v3 = 0 then
  f_L_alike_j243 N  v2 v3 S_ Sp_ else
  (zx_n (v2 - v2 / 5 * 5) (fun x38 =>
(zx_b2 (f_L_call N 2 v4 x38 0 S_) (fun x39 T40 =>
(zx_n (v2 - v2 / 5 * 5) (fun x42 =>
(zx_b2 (f_L_call N 2 v4 x42 0 Sp_) (fun x43 T44 =>
(if x39 = x43 then
  f_L_alike_j236 N (f_L_alike_l195 N  n195) v2 v4 1 T40 T44 else
  f_L_alike_j236 N (f_L_alike_l195 N  n195) v2 v4 0 T40 T44)))))))))))
def f_L_alike_j192 (N : Nat) (v2 : Int32) (v3 : Int32) (S_ : zx_B) (Sp_ : zx_B) : Option (Int32 × (zx_B × zx_B)) :=
  f_L_alike_l195 N  30 v2 v3 0 S_ Sp_
def f_L_alike_j186 (N : Nat) (k67 : Int32 → Int32 → Int32 → zx_B → zx_B → Option (Int32 × (zx_B × zx_B))) (v2 : Int32) (v3 : Int32) (v4 : Int32) (S_ : zx_B) (Sp_ : zx_B) : Option (Int32 × (zx_B × zx_B)) :=
  (zx_n (v4 + 1) (fun x52 =>
k67 v2 v3 x52 S_ Sp_))
def f_L_alike_j179 (N : Nat) (k67 : Int32 → Int32 → Int32 → zx_B → zx_B → Option (Int32 × (zx_B × zx_B))) (k141 : Int32 → Int32 → Int32 → Int32 → zx_B → zx_B → Option (Int32 × (zx_B × zx_B))) (v2 : Int32) (v4 : Int32) (v5 : Int32) (t0 : Int32) (S_ : zx_B) (Sp_ : zx_B) : Option (Int32 × (zx_B × zx_B)) :=
  (zx_n (v5 + 1) (fun x55 =>
k141 v2 t0 v4 x55 S_ Sp_))
def f_L_alike_l141 (N : Nat) (k67 : Int32 → Int32 → Int32 → zx_B → zx_B → Option (Int32 × (zx_B × zx_B))) : Nat → Int32 → Int32 → Int32 → Int32 → zx_B → zx_B → Option (Int32 × (zx_B × zx_B))
  | 0, _, _, _, _, _, _ => none
  | n141 + 1, v2, v3, v4, v5, S_, Sp_ => (if 4 ≤ v5 then
  f_L_alike_j186 N k67 v2 v3 v4 S_ Sp_ else
  (if v3 = 0 then
  f_L_alike_j186 N k67 v2 v3 v4 S_ Sp_ else
  (zx_b2 (f_L_call N 4 v4 v5 0 S_) (fun x56 T57 =>
(zx_b2 (f_L_call N 4 v4 v5 0 Sp_) (fun x59 T60 =>
(if x56 = x59 then
  f_L_alike_j179 N k67 (f_L_alike_l141 N k67  n141) v2 v4 v5 1 T57 T60 else
  f_L_alike_j179 N k67 (f_L_alike_l141 N k67  n141) v2 v4 v5 0 T57 T60)))))))
def f_L_alike_j137 (N : Nat) (k67 : Int32 → Int32 → Int32 → zx_B → zx_B → Option (Int32 × (zx_B × zx_B))) (v2 : Int32) (v4 : Int32) (t0 : Int32) (S_ : zx_B) (Sp_ : zx_B) : Option (Int32 × (zx_B × zx_B)) :=
  f_L_alike_l141 N k67 30 v2 t0 v4 0 S_ Sp_
def f_L_alike_j136 (N : Nat) (k67 : Int32 → Int32 → Int32 → zx_B → zx_B → Option (Int32 × (zx_B × zx_B))) (v2 : Int32) (v4 : Int32) (S_ : zx_B) (Sp_ : zx_B) : Option (Int32 × (zx_B × zx_B)) :=
  f_L_alike_j137 N k67 v2 v4 0 S_ Sp_
def f_L_alike_l67 (N : Nat) : Nat → Int32 → Int32 → Int32 → zx_B → zx_B → Option (Int32 × (zx_B × zx_B))
  | 0, _, _, _, _, _ => none
  | n67 + 1, v2, v3, v4, S_, Sp_ => (zx_b2 (f_L_call N 1 1 0 0 S_) (fun x47 T48 =>
(if x47 ≤ v4 then
  f_L_alike_j192 N  v2 v3 T48 Sp_ else
  (if v3 = 0 then
  f_L_alike_j192 N  v2 v3 T48 Sp_ else
  (zx_n (v2 - v2 / 7 * 7) (fun x63 =>
(zx_b2 (f_L_call N 3 v4 x63 0 T48) (fun x64 T65 =>
(zx_n (v2 - v2 / 7 * 7) (fun x67 =>
(zx_b2 (f_L_call N 3 v4 x67 0 Sp_) (fun x68 T69 =>
(if x64 = x68 then
  (zx_b2 (f_L_call N 3 v4 1 0 T65) (fun x72 T73 =>
(zx_b2 (f_L_call N 3 v4 1 0 T69) (fun x75 T76 =>
(if x72 = x75 then
  f_L_alike_j137 N (f_L_alike_l67 N  n67) v2 v4 1 T73 T76 else
  f_L_alike_j136 N (f_L_alike_l67 N  n67) v2 v4 T73 T76))))) else
  f_L_alike_j136 N (f_L_alike_l67 N  n67) v2 v4 T65 T69)))))))))))))
def f_L_alike_j64 (N : Nat) (v2 : Int32) (v3 : Int32) (S_ : zx_B) (Sp_ : zx_B) : Option (Int32 × (zx_B × zx_B)) :=
  f_L_alike_l67 N  30 v2 v3 0 S_ Sp_
def f_L_alike_j57 (N : Nat) (k20 : Int32 → Int32 → Int32 → zx_B → zx_B → Option (Int32 × (zx_B × zx_B))) (v2 : Int32) (v4 : Int32) (t0 : Int32) (S_ : zx_B) (Sp_ : zx_B) : Option (Int32 × (zx_B × zx_B)) :=
  (zx_n (v4 + 1) (fun x81 =>
k20 v2 t0 x81 S_ Sp_))
def f_L_alike_l20 (N : Nat) : Nat → Int32 → Int32 → Int32 → zx_B → zx_B → Option (Int32 × (zx_B × zx_B))
  | 0, _, _, _, _, _ => none
  | n20 + 1, v2, v3, v4, S_, Sp_ => (if 8 ≤ v4 then
  f_L_alike_j64 N  v2 v3 S_ Sp_ else
  (if v3 = 0 then
  f_L_alike_j64 N  v2 v3 S_ Sp_ else
  (zx_b2 (f_L_call N 1 v4 0 0 S_) (fun x82 T83 =>
(zx_b2 (f_L_call N 1 v4 0 0 Sp_) (fun x85 T86 =>
(if x82 = x85 then
  f_L_alike_j57 N (f_L_alike_l20 N  n20) v2 v4 1 T83 T86 else
  f_L_alike_j57 N (f_L_alike_l20 N  n20) v2 v4 0 T83 T86)))))))
def f_L_alike_j16 (N : Nat) (v2 : Int32) (t0 : Int32) (S_ : zx_B) (Sp_ : zx_B) : Option (Int32 × (zx_B × zx_B)) :=
  f_L_alike_l20 N  30 v2 t0 0 S_ Sp_
def f_L_alike (N : Nat) (p2 : Int32) (S : zx_B) (Sp : zx_B) : Option (Int32 × (zx_B × zx_B)) :=
  (zx_b2 (f_X2_errorPosition N S) (fun x89 T90 =>
(zx_b2 (f_X2_errorPosition N Sp) (fun x92 T93 =>
(if x89 = x92 then
  f_L_alike_j16 N  p2 1 T90 T93 else
  f_L_alike_j16 N  p2 0 T90 T93)))))
abbrev rmL_alike : Room := { frames := 9, cells := 2078, slots := 12468, locals := 223 }
abbrev zsL_alike : List Cond := .code yL_alike cL_alike 6 (some .boolean) :: wsL_law
theorem zyL_alike : yL_alike.cls ≠ "java/lang/invoke/MethodHandle" ∧ yL_alike.cls ≠ "java/lang/invoke/VarHandle" ∧ (parseMethodDescriptor yL_alike.desc).map (fun d => d.parameters.length) = some 3 := by decide +kernel
set_option maxHeartbeats 16000000 in
set_option maxRecDepth 100000 in
theorem c_L_alike (l : Launch) (hlt : l.stackTraces = false) (D : va_G) (cI cZ cT : ClassId) (h : Nat) (hh : Nat → Nat) (aa : Nat → Nat → Nat) (h2 : Nat) (hh2 : Nat → Nat) (aa2 : Nat → Nat → Nat) (S : zx_B) (Sp : zx_B) (sz : Nat) (N : Nat) (p2 : Int32) {R : Int32 × (zx_B × zx_B)} (hM : f_L_alike N p2 S Sp = some R) : Met l yL_alike zsL_alike rmL_alike (va_Pc [.ref h, .ref h2, .int p2] (bY D (zx_ty cI cZ cT) (xWD cI cT h hh aa h2 hh2 aa2 S Sp) sz)) (va_Qi (fun r (u : zx_B × zx_B) => R = (r, u)) (fun u t => va_P D vwCl (xWD cI cT h hh aa h2 hh2 aa2 u.1 u.2) t.heap) (va_A (xWD cI cT h hh aa h2 hh2 aa2 S Sp) sz)) 2078 12468 (va_A (xWD cI cT h hh aa h2 hh2 aa2 S Sp) sz) := by
  refine Met.ofW (cc := cL_alike) (maxL := 6) (ret := (some .boolean)) (by decide) rfl ?_
  intro p e s m args below meth c s₁ B hml hv
  obtain ⟨rfl, ⟨⟨hsz, hP, hK, hD0, hN⟩, hXX⟩, hNc⟩ := hv
  have hx := B.exec
  have hb := B.bytes
  have hr := B.returns
  have hts : ∀ w ∈ wsL_law, w.before _ s = true := fun w hw => atoms_spec (ws := zsL_alike) B.pre w (List.mem_cons_of_mem _ hw)
  have hown : s.vm.findClass RL = some m.cls := findClass_of_methodNamed B.named
  have hlocks := B.notSynchronized
  subst hsz
  have hD := hD0.self (sz := s.heap.size)
  generalize hAe : va_A (xWD cI cT h hh aa h2 hh2 aa2 S Sp) s.heap.size = A at hD hXX ⊢
  have hA : ∀ q : Nat, s.heap.size ≤ q → A q := fun q h => by rw [← hAe]; exact Or.inr h
  have hS : va_S A s.heap s.heap [] := va_S.rf
  have hl := lv_entry ([.ref h, .ref h2, .int p2]) (n := 6) (Nat.le_of_ble_eq_true rfl)
  rw [lg_entry_eq]
  generalize (lg_sl ([.ref h, .ref h2, .int p2]) ++ List.replicate (6 - (lg_sl ([.ref h, .ref h2, .int p2])).length) Slot.unset).toArray = ls at hl ⊢
  have hl : lv_has ls 6 [(0, .ref h), (1, .ref h2), (2, .int p2)] := hl
  generalize hQ : MQ below (va_Qi (fun r (u : zx_B × zx_B) => R = (r, u)) (fun u t => va_P D vwCl (xWD cI cT h hh aa h2 hh2 aa2 u.1 u.2) t.heap) A) ([.ref h, .ref h2, .int p2] : List Value).toArray s 2078 12468 A = Q9
  replace hQ := hQ.symm
  obtain ⟨kc, hkc0⟩ : ∃ kc : Nat, kc = 0 := ⟨0, rfl⟩
  have hkc : kc + 2078 ≤ 2078 := by omega
  refine W.widen (k := kc) (n := 6 * kc) (by omega) (by omega) ?_
  unfold f_L_alike at hM
  have j16 : ∀ (v2 : Int32) (t0 : Int32) (S_ : zx_B) (Sp_ : zx_B) (kc : Nat) (H : Heap) (lc : List Loc) (ls : Array Slot), kc + (2078) ≤ 2078 → va_P D vwCl (xWD cI cT h hh aa h2 hh2 aa2 S_ Sp_) H → va_D A (xWD cI cT h hh aa h2 hh2 aa2 S_ Sp_) → va_S A s.heap H lc → lv_has ls 6 [(0, .ref h), (1, .ref h2), (2, .int v2)] → f_L_alike_j16 N v2 t0 S_ Sp_ = some R → W p l e (headSpec zsL_alike rmL_alike).room s m ([.ref h, .ref h2, .int p2] : List Value).toArray below meth c H lc kc (6 * kc) Q9 (F0 m 16 ls [.int t0]) := by
    intro v2 t0 S_ Sp_ kc H lc ls hkc hP hD hS hl hM
    unfold f_L_alike_j16 at hM
    have l20 : ∀ (n20 : Nat) (v2 : Int32) (v3 : Int32) (v4 : Int32) (S_ : zx_B) (Sp_ : zx_B) (kc : Nat) (H : Heap) (lc : List Loc) (ls : Array Slot), kc + (n20 * 2 + 2018) ≤ 2078 → va_P D vwCl (xWD cI cT h hh aa h2 hh2 aa2 S_ Sp_) H → va_D A (xWD cI cT h hh aa h2 hh2 aa2 S_ Sp_) → va_S A s.heap H lc → lv_has ls 6 [(0, .ref h), (1, .ref h2), (2, .int v2), (3, .int v3), (4, .int v4)] → f_L_alike_l20 N n20 v2 v3 v4 S_ Sp_ = some R → W p l e (headSpec zsL_alike rmL_alike).room s m ([.ref h, .ref h2, .int p2] : List Value).toArray below meth c H lc kc (6 * kc) Q9 (F0 m 20 ls []) := by
      intro n20
      induction n20 with
      | zero =>
        intro v2 v3 v4 S_ Sp_ kc H lc ls hkc hP hD hS hl hM
        rw [f_L_alike_l20] at hM; exact absurd hM (by intro h; cases h)
      | succ n20 ih20 =>
        intro v2 v3 v4 S_ Sp_ kc H lc ls hkc hP hD hS hl hM
        rw [f_L_alike_l20] at hM
        have j64 : ∀ (v2 : Int32) (v3 : Int32) (S_ : zx_B) (Sp_ : zx_B) (kc : Nat) (H : Heap) (lc : List Loc) (ls : Array Slot), kc + (2018) ≤ 2078 → va_P D vwCl (xWD cI cT h hh aa h2 hh2 aa2 S_ Sp_) H → va_D A (xWD cI cT h hh aa h2 hh2 aa2 S_ Sp_) → va_S A s.heap H lc → lv_has ls 6 [(0, .ref h), (1, .ref h2), (2, .int v2), (3, .int v3)] → f_L_alike_j64 N v2 v3 S_ Sp_ = some R → W p l e (headSpec zsL_alike rmL_alike).room s m ([.ref h, .ref h2, .int p2] : List Value).toArray below meth c H lc kc (6 * kc) Q9 (F0 m 64 ls []) := by
          intro v2 v3 S_ Sp_ kc H lc ls hkc hP hD hS hl hM
          unfold f_L_alike_j64 at hM
          have l67 : ∀ (n67 : Nat) (v2 : Int32) (v3 : Int32) (v4 : Int32) (S_ : zx_B) (Sp_ : zx_B) (kc : Nat) (H : Heap) (lc : List Loc) (ls : Array Slot), kc + (n67 * 65 + 68) ≤ 2078 → va_P D vwCl (xWD cI cT h hh aa h2 hh2 aa2 S_ Sp_) H → va_D A (xWD cI cT h hh aa h2 hh2 aa2 S_ Sp_) → va_S A s.heap H lc → lv_has ls 6 [(0, .ref h), (1, .ref h2), (2, .int v2), (3, .int v3), (4, .int v4)] → f_L_alike_l67 N n67 v2 v3 v4 S_ Sp_ = some R → W p l e (headSpec zsL_alike rmL_alike).room s m ([.ref h, .ref h2, .int p2] : List Value).toArray below meth c H lc kc (6 * kc) Q9 (F0 m 67 ls []) := by
            intro n67
            induction n67 with
            | zero =>
              intro v2 v3 v4 S_ Sp_ kc H lc ls hkc hP hD hS hl hM
              rw [f_L_alike_l67] at hM; exact absurd hM (by intro h; cases h)
            | succ n67 ih67 =>
              intro v2 v3 v4 S_ Sp_ kc H lc ls hkc hP hD hS hl hM
              rw [f_L_alike_l67] at hM
              have j192 : ∀ (v2 : Int32) (v3 : Int32) (S_ : zx_B) (Sp_ : zx_B) (kc : Nat) (H : Heap) (lc : List Loc) (ls : Array Slot), kc + (68) ≤ 2078 → va_P D vwCl (xWD cI cT h hh aa h2 hh2 aa2 S_ Sp_) H → va_D A (xWD cI cT h hh aa h2 hh2 aa2 S_ Sp_) → va_S A s.heap H lc → lv_has ls 6 [(0, .ref h), (1, .ref h2), (2, .int v2), (3, .int v3)] → f_L_alike_j192 N v2 v3 S_ Sp_ = some R → W p l e (headSpec zsL_alike rmL_alike).room s m ([.ref h, .ref h2, .int p2] : List Value).toArray below meth c H lc kc (6 * kc) Q9 (F0 m 192 ls []) := by
                intro v2 v3 S_ Sp_ kc H lc ls hkc hP hD hS hl hM
                unfold f_L_alike_j192 at hM
                have l195 : ∀ (n195 : Nat) (v2 : Int32) (v3 : Int32) (v4 : Int32) (S_ : zx_B) (Sp_ : zx_B) (kc : Nat) (H : Heap) (lc : List Loc) (ls : Array Slot), kc + (n195 * 2 + 8) ≤ 2078 → va_P D vwCl (xWD cI cT h hh aa h2 hh2 aa2 S_ Sp_) H → va_D A (xWD cI cT h hh aa h2 hh2 aa2 S_ Sp_) → va_S A s.heap H lc → lv_has ls 6 [(0, .ref h), (1, .ref h2), (2, .int v2), (3, .int v3), (4, .int v4)] → f_L_alike_l195 N n195 v2 v3 v4 S_ Sp_ = some R → W p l e (headSpec zsL_alike rmL_alike).room s m ([.ref h, .ref h2, .int p2] : List Value).toArray below meth c H lc kc (6 * kc) Q9 (F0 m 195 ls []) := by
                  intro n195
                  induction n195 with
                  | zero =>
                    intro v2 v3 v4 S_ Sp_ kc H lc ls hkc hP hD hS hl hM
                    rw [f_L_alike_l195] at hM; exact absurd hM (by intro h; cases h)
                  | succ n195 ih195 =>
                    intro v2 v3 v4 S_ Sp_ kc H lc ls hkc hP hD hS hl hM
                    rw [f_L_alike_l195] at hM
                    have j243 : ∀ (v2 : Int32) (v3 : Int32) (S_ : zx_B) (Sp_ : zx_B) (kc : Nat) (H : Heap) (lc : List Loc) (ls : Array Slot), kc + (8) ≤ 2078 → va_P D vwCl (xWD cI cT h hh aa h2 hh2 aa2 S_ Sp_) H → va_D A (xWD cI cT h hh aa h2 hh2 aa2 S_ Sp_) → va_S A s.heap H lc → lv_has ls 6 [(0, .ref h), (1, .ref h2), (2, .int v2), (3, .int v3)] → f_L_alike_j243 N v2 v3 S_ Sp_ = some R → W p l e (headSpec zsL_alike rmL_alike).room s m ([.ref h, .ref h2, .int p2] : List Value).toArray below meth c H lc kc (6 * kc) Q9 (F0 m 243 ls []) := by
                      intro v2 v3 S_ Sp_ kc H lc ls hkc hP hD hS hl hM
                      unfold f_L_alike_j243 at hM
                      refine lv_iload_n hx hb dL_alike_243 rfl (lv_at hl 2 rfl) ?_
                      refine lv_bipush (v := 100) hx hb dL_alike_244 (by decide) ?_
                      refine lv_irem hx hb dL_alike_246 (by decide) ?_
                      obtain ⟨x1, ex1, hM⟩ := zx_nE hM
                      refine zx_top ex1 ?_
                      refine lv_istore (lv' := [(4, .int x1), (0, .ref h), (1, .ref h2), (2, .int v2), (3, .int v3)]) hx hb dL_alike_247 hl (by decide) rfl (fun ls hl => ?_)
                      refine lv_iload_n hx hb dL_alike_249 rfl (lv_at hl 3 rfl) ?_
                      refine lv_sipush (v := 128) hx hb dL_alike_250 (by decide) ?_
                      refine lv_idiv hx hb dL_alike_253 (by decide) ?_
                      obtain ⟨x2, ex2, hM⟩ := zx_nE hM
                      refine zx_top ex2 ?_
                      refine lv_bipush (v := 100) hx hb dL_alike_254 (by decide) ?_
                      refine lv_irem hx hb dL_alike_256 (by decide) ?_
                      obtain ⟨x3, ex3, hM⟩ := zx_nE hM
                      refine zx_top ex3 ?_
                      refine lv_istore (lv' := [(5, .int x3), (4, .int x1), (0, .ref h), (1, .ref h2), (2, .int v2), (3, .int v3)]) hx hb dL_alike_257 hl (by decide) rfl (fun ls hl => ?_)
                      refine lv_iload_n hx hb dL_alike_259 rfl (lv_at hl 5 rfl) ?_
                      refine lv_if_eq (tgt := 373) hx hb dL_alike_260 (by decide) (fun q4 => ?_) (fun q4 => ?_)
                      · replace hM := zx_t q4 hM
                        refine lv_iconst (v := 0) hx hb dL_alike_373 (by decide) ?_
                        rw [hQ]
                        refine W.widen (k := 2078) (n := 12468) (by omega) (by omega) ?_
                        exact W.zret hx hb hr (by rfl) (fun t ht hW => ⟨⟨0, (S_, Sp_), rfl, (Option.some.inj hM).symm, by show va_P D vwCl _ t.heap; rw [ht]; exact hP⟩, hS.F ht⟩) hS.2.2 dL_alike_374
                      · replace hM := zx_f q4 hM
                        refine lv_aload_n hx hb dL_alike_263 rfl (lv_at hl 2 rfl) ?_
                        refine lv_iload hx hb dL_alike_264 (lv_at hl 1 rfl) ?_
                        refine lv_iload hx hb dL_alike_266 (lv_at hl 0 rfl) ?_
                        refine lv_bipush (v := 99) hx hb dL_alike_268 (by decide) ?_
                        refine lv_bipush (v := 99) hx hb dL_alike_270 (by decide) ?_
                        obtain ⟨x5, T6, hz7, hM⟩ := zx_b2E hM
                        have hPc := zy_P1 hP
                        have hDc := zy_D1 hD
                        have hF := zx_fW hDc hS hA
                        refine va_calli (vx_runSW (As := [.ref h, .int x1, .int x3, .int 99, .int 99]) (rest := []) ⟨hx, hb, hml, hown, hts⟩ (c_L_tryWindow l hlt D cI cZ cT h hh aa S_ _ N x1 x3 99 99 hz7) (vx_cwSW 5 hts (zg_S zw_17_21 zw_17_22 zw_3_14 zw_17_23) rfl rfl rfl zyL_tryWindow ⟨Nat.le_of_ble_eq_true rfl, Nat.le_of_ble_eq_true rfl⟩) ⟨bY_blind, bY_pre hPc hK hDc hN hXX hNc hS hF⟩ rfl rfl hl.1 rfl (lv_room (Nat.le_of_ble_eq_true rfl)) dL_alike_272 ⟨by show kc + 1 ≤ 2078; omega, by show 6 * kc + 6 ≤ 12468; omega⟩) hS (fun q _ h => hF q h) (fun q h => hF q h) (fun r u t H1 lc ht hvm hw hB hz1 hk1 hS => ?_)
                        obtain ⟨hw1, hw2⟩ := Prod.mk.inj hw; subst hw1; subst hw2
                        rw [ht] at hB
                        replace hP := zy_S1 (by rw [xW2_len, xW2_len]) hP hD hk1 hB
                        replace hD := xWD_D T6 Sp_ hD
                        refine W.widen (k := (kc + 1)) (n := 6 * (kc + 1)) (by omega) (by omega) ?_
                        refine lv_aload_n hx hb dL_alike_275 rfl (lv_at hl 3 rfl) ?_
                        refine lv_iload hx hb dL_alike_276 (lv_at hl 1 rfl) ?_
                        refine lv_iload hx hb dL_alike_278 (lv_at hl 0 rfl) ?_
                        refine lv_bipush (v := 99) hx hb dL_alike_280 (by decide) ?_
                        refine lv_bipush (v := 99) hx hb dL_alike_282 (by decide) ?_
                        obtain ⟨x8, T9, hz10, hM⟩ := zx_b2E hM
                        have hPc := zy_P2 hP
                        have hDc := zy_D2 hD
                        have hF := zx_fW hDc hS hA
                        refine va_calli (vx_runSW (As := [.ref h2, .int x1, .int x3, .int 99, .int 99]) (rest := [.int x5]) ⟨hx, hb, hml, hown, hts⟩ (c_L_tryWindow l hlt D cI cZ cT h2 hh2 aa2 Sp_ _ N x1 x3 99 99 hz10) (vx_cwSW 5 hts (zg_S zw_17_21 zw_17_22 zw_3_14 zw_17_23) rfl rfl rfl zyL_tryWindow ⟨Nat.le_of_ble_eq_true rfl, Nat.le_of_ble_eq_true rfl⟩) ⟨bY_blind, bY_pre hPc hK hDc hN hXX hNc hS hF⟩ rfl rfl hl.1 rfl (lv_room (Nat.le_of_ble_eq_true rfl)) dL_alike_284 ⟨by show (kc + 1) + 1 ≤ 2078; omega, by show 6 * (kc + 1) + 6 ≤ 12468; omega⟩) hS (fun q _ h => hF q h) (fun q h => hF q h) (fun r u t H1 lc ht hvm hw hB hz1 hk1 hS => ?_)
                        obtain ⟨hw1, hw2⟩ := Prod.mk.inj hw; subst hw1; subst hw2
                        rw [ht] at hB
                        replace hP := zy_S2 (by rw [xW2_len, xW2_len]) hP hD hk1 hB
                        replace hD := xWD_D T6 T9 hD
                        refine W.widen (k := (kc + 2)) (n := 6 * (kc + 2)) (by omega) (by omega) ?_
                        refine lv_icmp_ne (tgt := 373) hx hb dL_alike_287 (by decide) (fun q11 => ?_) (fun q11 => ?_)
                        · replace hM := zx_f q11 hM
                          refine lv_iconst (v := 0) hx hb dL_alike_373 (by decide) ?_
                          rw [hQ]
                          refine W.widen (k := 2078) (n := 12468) (by omega) (by omega) ?_
                          exact W.zret hx hb hr (by rfl) (fun t ht hW => ⟨⟨0, (T6, T9), rfl, (Option.some.inj hM).symm, by show va_P D vwCl _ t.heap; rw [ht]; exact hP⟩, hS.F ht⟩) hS.2.2 dL_alike_374
                        · replace hM := zx_t q11 hM
                          refine lv_aload_n hx hb dL_alike_290 rfl (lv_at hl 2 rfl) ?_
                          refine lv_iconst (v := 0) hx hb dL_alike_291 (by decide) ?_
                          refine lv_iconst (v := 0) hx hb dL_alike_292 (by decide) ?_
                          refine lv_iload hx hb dL_alike_293 (lv_at hl 1 rfl) ?_
                          refine lv_iload hx hb dL_alike_295 (lv_at hl 0 rfl) ?_
                          obtain ⟨x12, T13, hz14, hM⟩ := zx_b2E hM
                          have hPc := zy_P1 hP
                          have hDc := zy_D1 hD
                          have hF := zx_fW hDc hS hA
                          refine va_calli (vx_runSW (As := [.ref h, .int 0, .int 0, .int x1, .int x3]) (rest := []) ⟨hx, hb, hml, hown, hts⟩ (c_L_tryLooks l hlt D cI cZ cT h hh aa T6 _ N 0 0 x1 x3 hz14) (vx_cwSW 5 hts (zg_S zw_18_5 zw_18_6 zw_3_14 zw_18_7) rfl rfl rfl zyL_tryLooks ⟨Nat.le_of_ble_eq_true rfl, Nat.le_of_ble_eq_true rfl⟩) ⟨bY_blind, bY_pre hPc hK hDc hN hXX hNc hS hF⟩ rfl rfl hl.1 rfl (lv_room (Nat.le_of_ble_eq_true rfl)) dL_alike_297 ⟨by show (kc + 2) + 1 ≤ 2078; omega, by show 6 * (kc + 2) + 6 ≤ 12468; omega⟩) hS (fun q _ h => hF q h) (fun q h => hF q h) (fun r u t H1 lc ht hvm hw hB hz1 hk1 hS => ?_)
                          obtain ⟨hw1, hw2⟩ := Prod.mk.inj hw; subst hw1; subst hw2
                          rw [ht] at hB
                          replace hP := zy_S1 (by rw [xW2_len, xW2_len]) hP hD hk1 hB
                          replace hD := xWD_D T13 T9 hD
                          refine W.widen (k := (kc + 3)) (n := 6 * (kc + 3)) (by omega) (by omega) ?_
                          refine lv_aload_n hx hb dL_alike_300 rfl (lv_at hl 3 rfl) ?_
                          refine lv_iconst (v := 0) hx hb dL_alike_301 (by decide) ?_
                          refine lv_iconst (v := 0) hx hb dL_alike_302 (by decide) ?_
                          refine lv_iload hx hb dL_alike_303 (lv_at hl 1 rfl) ?_
                          refine lv_iload hx hb dL_alike_305 (lv_at hl 0 rfl) ?_
                          obtain ⟨x15, T16, hz17, hM⟩ := zx_b2E hM
                          have hPc := zy_P2 hP
                          have hDc := zy_D2 hD
                          have hF := zx_fW hDc hS hA
                          refine va_calli (vx_runSW (As := [.ref h2, .int 0, .int 0, .int x1, .int x3]) (rest := [.int x12]) ⟨hx, hb, hml, hown, hts⟩ (c_L_tryLooks l hlt D cI cZ cT h2 hh2 aa2 T9 _ N 0 0 x1 x3 hz17) (vx_cwSW 5 hts (zg_S zw_18_5 zw_18_6 zw_3_14 zw_18_7) rfl rfl rfl zyL_tryLooks ⟨Nat.le_of_ble_eq_true rfl, Nat.le_of_ble_eq_true rfl⟩) ⟨bY_blind, bY_pre hPc hK hDc hN hXX hNc hS hF⟩ rfl rfl hl.1 rfl (lv_room (Nat.le_of_ble_eq_true rfl)) dL_alike_307 ⟨by show (kc + 3) + 1 ≤ 2078; omega, by show 6 * (kc + 3) + 6 ≤ 12468; omega⟩) hS (fun q _ h => hF q h) (fun q h => hF q h) (fun r u t H1 lc ht hvm hw hB hz1 hk1 hS => ?_)
                          obtain ⟨hw1, hw2⟩ := Prod.mk.inj hw; subst hw1; subst hw2
                          rw [ht] at hB
                          replace hP := zy_S2 (by rw [xW2_len, xW2_len]) hP hD hk1 hB
                          replace hD := xWD_D T13 T16 hD
                          refine W.widen (k := (kc + 4)) (n := 6 * (kc + 4)) (by omega) (by omega) ?_
                          refine lv_icmp_ne (tgt := 373) hx hb dL_alike_310 (by decide) (fun q18 => ?_) (fun q18 => ?_)
                          · replace hM := zx_f q18 hM
                            refine lv_iconst (v := 0) hx hb dL_alike_373 (by decide) ?_
                            rw [hQ]
                            refine W.widen (k := 2078) (n := 12468) (by omega) (by omega) ?_
                            exact W.zret hx hb hr (by rfl) (fun t ht hW => ⟨⟨0, (T13, T16), rfl, (Option.some.inj hM).symm, by show va_P D vwCl _ t.heap; rw [ht]; exact hP⟩, hS.F ht⟩) hS.2.2 dL_alike_374
                          · replace hM := zx_t q18 hM
                            refine lv_aload_n hx hb dL_alike_313 rfl (lv_at hl 2 rfl) ?_
                            refine lv_iload hx hb dL_alike_314 (lv_at hl 1 rfl) ?_
                            refine lv_iload hx hb dL_alike_316 (lv_at hl 0 rfl) ?_
                            refine lv_iload hx hb dL_alike_318 (lv_at hl 1 rfl) ?_
                            refine lv_iload hx hb dL_alike_320 (lv_at hl 0 rfl) ?_
                            obtain ⟨x19, T20, hz21, hM⟩ := zx_b2E hM
                            have hPc := zy_P1 hP
                            have hDc := zy_D1 hD
                            have hF := zx_fW hDc hS hA
                            refine va_calli (vx_runSW (As := [.ref h, .int x1, .int x3, .int x1, .int x3]) (rest := []) ⟨hx, hb, hml, hown, hts⟩ (c_L_tryChosen l hlt D cI cZ cT h hh aa T13 _ N x1 x3 x1 x3 hz21) (vx_cwSW 5 hts (zg_S zw_18_16 zw_18_17 zw_3_14 zw_18_18) rfl rfl rfl zyL_tryChosen ⟨Nat.le_of_ble_eq_true rfl, Nat.le_of_ble_eq_true rfl⟩) ⟨bY_blind, bY_pre hPc hK hDc hN hXX hNc hS hF⟩ rfl rfl hl.1 rfl (lv_room (Nat.le_of_ble_eq_true rfl)) dL_alike_322 ⟨by show (kc + 4) + 1 ≤ 2078; omega, by show 6 * (kc + 4) + 6 ≤ 12468; omega⟩) hS (fun q _ h => hF q h) (fun q h => hF q h) (fun r u t H1 lc ht hvm hw hB hz1 hk1 hS => ?_)
                            obtain ⟨hw1, hw2⟩ := Prod.mk.inj hw; subst hw1; subst hw2
                            rw [ht] at hB
                            replace hP := zy_S1 (by rw [xW2_len, xW2_len]) hP hD hk1 hB
                            replace hD := xWD_D T20 T16 hD
                            refine W.widen (k := (kc + 5)) (n := 6 * (kc + 5)) (by omega) (by omega) ?_
                            refine lv_aload_n hx hb dL_alike_325 rfl (lv_at hl 3 rfl) ?_
                            refine lv_iload hx hb dL_alike_326 (lv_at hl 1 rfl) ?_
                            refine lv_iload hx hb dL_alike_328 (lv_at hl 0 rfl) ?_
                            refine lv_iload hx hb dL_alike_330 (lv_at hl 1 rfl) ?_
                            refine lv_iload hx hb dL_alike_332 (lv_at hl 0 rfl) ?_
                            obtain ⟨x22, T23, hz24, hM⟩ := zx_b2E hM
                            have hPc := zy_P2 hP
                            have hDc := zy_D2 hD
                            have hF := zx_fW hDc hS hA
                            refine va_calli (vx_runSW (As := [.ref h2, .int x1, .int x3, .int x1, .int x3]) (rest := [.int x19]) ⟨hx, hb, hml, hown, hts⟩ (c_L_tryChosen l hlt D cI cZ cT h2 hh2 aa2 T16 _ N x1 x3 x1 x3 hz24) (vx_cwSW 5 hts (zg_S zw_18_16 zw_18_17 zw_3_14 zw_18_18) rfl rfl rfl zyL_tryChosen ⟨Nat.le_of_ble_eq_true rfl, Nat.le_of_ble_eq_true rfl⟩) ⟨bY_blind, bY_pre hPc hK hDc hN hXX hNc hS hF⟩ rfl rfl hl.1 rfl (lv_room (Nat.le_of_ble_eq_true rfl)) dL_alike_334 ⟨by show (kc + 5) + 1 ≤ 2078; omega, by show 6 * (kc + 5) + 6 ≤ 12468; omega⟩) hS (fun q _ h => hF q h) (fun q h => hF q h) (fun r u t H1 lc ht hvm hw hB hz1 hk1 hS => ?_)
                            obtain ⟨hw1, hw2⟩ := Prod.mk.inj hw; subst hw1; subst hw2
                            rw [ht] at hB
                            replace hP := zy_S2 (by rw [xW2_len, xW2_len]) hP hD hk1 hB
                            replace hD := xWD_D T20 T23 hD
                            refine W.widen (k := (kc + 6)) (n := 6 * (kc + 6)) (by omega) (by omega) ?_
                            refine lv_icmp_ne (tgt := 373) hx hb dL_alike_337 (by decide) (fun q25 => ?_) (fun q25 => ?_)
                            · replace hM := zx_f q25 hM
                              refine lv_iconst (v := 0) hx hb dL_alike_373 (by decide) ?_
                              rw [hQ]
                              refine W.widen (k := 2078) (n := 12468) (by omega) (by omega) ?_
                              exact W.zret hx hb hr (by rfl) (fun t ht hW => ⟨⟨0, (T20, T23), rfl, (Option.some.inj hM).symm, by show va_P D vwCl _ t.heap; rw [ht]; exact hP⟩, hS.F ht⟩) hS.2.2 dL_alike_374
                            · replace hM := zx_t q25 hM
                              refine lv_aload_n hx hb dL_alike_340 rfl (lv_at hl 2 rfl) ?_
                              refine lv_bipush (v := 9) hx hb dL_alike_341 (by decide) ?_
                              refine lv_iload hx hb dL_alike_343 (lv_at hl 1 rfl) ?_
                              refine lv_iload hx hb dL_alike_345 (lv_at hl 0 rfl) ?_
                              refine lv_iload_n hx hb dL_alike_347 rfl (lv_at hl 4 rfl) ?_
                              refine lv_iconst (v := 5) hx hb dL_alike_348 (by decide) ?_
                              refine lv_irem hx hb dL_alike_349 (by decide) ?_
                              obtain ⟨x26, ex26, hM⟩ := zx_nE hM
                              refine zx_top ex26 ?_
                              obtain ⟨x27, T28, hz29, hM⟩ := zx_b2E hM
                              have hPc := zy_P1 hP
                              have hDc := zy_D1 hD
                              have hF := zx_fW hDc hS hA
                              refine va_calli (va_runS (As := [.ref h, .int 9, .int x1, .int x3, .int x26]) (rest := []) ⟨hx, hb, hml, hown, hts⟩ (c_L_call l hlt D cI cZ cT h hh aa T20 _ N 9 x1 x3 x26 hz29) (va_cwS 5 hts (zg_S zw_4_2 zw_4_3 zw_3_14 zw_4_4) rfl rfl rfl zyL_call ⟨Nat.le_of_ble_eq_true rfl, Nat.le_of_ble_eq_true rfl⟩) ⟨bY_blind, bY_pre hPc hK hDc hN hXX hNc hS hF⟩ rfl rfl hl.1 rfl (lv_room (Nat.le_of_ble_eq_true rfl)) dL_alike_350 ⟨by show (kc + 6) + 1 ≤ 2078; omega, by show 6 * (kc + 6) + 6 ≤ 12468; omega⟩) hS (fun q _ h => hF q h) (fun q h => hF q h) (fun r u t H1 lc ht hvm hw hB hz1 hk1 hS => ?_)
                              obtain ⟨hw1, hw2⟩ := Prod.mk.inj hw; subst hw1; subst hw2
                              rw [ht] at hB
                              replace hP := zy_S1 (by rw [xW2_len, xW2_len]) hP hD hk1 hB
                              replace hD := xWD_D T28 T23 hD
                              refine W.widen (k := (kc + 7)) (n := 6 * (kc + 7)) (by omega) (by omega) ?_
                              refine lv_aload_n hx hb dL_alike_353 rfl (lv_at hl 3 rfl) ?_
                              refine lv_bipush (v := 9) hx hb dL_alike_354 (by decide) ?_
                              refine lv_iload hx hb dL_alike_356 (lv_at hl 1 rfl) ?_
                              refine lv_iload hx hb dL_alike_358 (lv_at hl 0 rfl) ?_
                              refine lv_iload_n hx hb dL_alike_360 rfl (lv_at hl 4 rfl) ?_
                              refine lv_iconst (v := 5) hx hb dL_alike_361 (by decide) ?_
                              refine lv_irem hx hb dL_alike_362 (by decide) ?_
                              obtain ⟨x30, ex30, hM⟩ := zx_nE hM
                              refine zx_top ex30 ?_
                              obtain ⟨x31, T32, hz33, hM⟩ := zx_b2E hM
                              have hPc := zy_P2 hP
                              have hDc := zy_D2 hD
                              have hF := zx_fW hDc hS hA
                              refine va_calli (va_runS (As := [.ref h2, .int 9, .int x1, .int x3, .int x30]) (rest := [.int x27]) ⟨hx, hb, hml, hown, hts⟩ (c_L_call l hlt D cI cZ cT h2 hh2 aa2 T23 _ N 9 x1 x3 x30 hz33) (va_cwS 5 hts (zg_S zw_4_2 zw_4_3 zw_3_14 zw_4_4) rfl rfl rfl zyL_call ⟨Nat.le_of_ble_eq_true rfl, Nat.le_of_ble_eq_true rfl⟩) ⟨bY_blind, bY_pre hPc hK hDc hN hXX hNc hS hF⟩ rfl rfl hl.1 rfl (lv_room (Nat.le_of_ble_eq_true rfl)) dL_alike_363 ⟨by show (kc + 7) + 1 ≤ 2078; omega, by show 6 * (kc + 7) + 6 ≤ 12468; omega⟩) hS (fun q _ h => hF q h) (fun q h => hF q h) (fun r u t H1 lc ht hvm hw hB hz1 hk1 hS => ?_)
                              obtain ⟨hw1, hw2⟩ := Prod.mk.inj hw; subst hw1; subst hw2
                              rw [ht] at hB
                              replace hP := zy_S2 (by rw [xW2_len, xW2_len]) hP hD hk1 hB
                              replace hD := xWD_D T28 T32 hD
                              refine W.widen (k := (kc + 8)) (n := 6 * (kc + 8)) (by omega) (by omega) ?_
                              refine lv_icmp_ne (tgt := 373) hx hb dL_alike_366 (by decide) (fun q34 => ?_) (fun q34 => ?_)
                              · replace hM := zx_f q34 hM
                                refine lv_iconst (v := 0) hx hb dL_alike_373 (by decide) ?_
                                rw [hQ]
                                refine W.widen (k := 2078) (n := 12468) (by omega) (by omega) ?_
                                exact W.zret hx hb hr (by rfl) (fun t ht hW => ⟨⟨0, (T28, T32), rfl, (Option.some.inj hM).symm, by show va_P D vwCl _ t.heap; rw [ht]; exact hP⟩, hS.F ht⟩) hS.2.2 dL_alike_374
                              · replace hM := zx_t q34 hM
                                refine lv_iconst (v := 1) hx hb dL_alike_369 (by decide) ?_
                                refine lv_goto (tgt := 374) hx hb dL_alike_370 (by decide) ?_
                                rw [hQ]
                                refine W.widen (k := 2078) (n := 12468) (by omega) (by omega) ?_
                                exact W.zret hx hb hr (by rfl) (fun t ht hW => ⟨⟨1, (T28, T32), rfl, (Option.some.inj hM).symm, by show va_P D vwCl _ t.heap; rw [ht]; exact hP⟩, hS.F ht⟩) hS.2.2 dL_alike_374
                    refine lv_iload hx hb dL_alike_195 (lv_at hl 4 rfl) ?_
                    refine lv_bipush (v := 24) hx hb dL_alike_197 (by decide) ?_
                    refine lv_icmp_ge (tgt := 243) hx hb dL_alike_199 (by decide) (fun q35 => ?_) (fun q35 => ?_)
                    · replace hM := zx_t q35 hM
                      exact j243 v2 v3 S_ Sp_ kc _ _ _ (by omega) hP hD hS (lv_sub hl [0, 1, 2, 3] rfl) hM
                    · replace hM := zx_f q35 hM
                      refine lv_iload_n hx hb dL_alike_202 rfl (lv_at hl 3 rfl) ?_
                      refine lv_if_eq (tgt := 243) hx hb dL_alike_203 (by decide) (fun q36 => ?_) (fun q36 => ?_)
                      · replace hM := zx_t q36 hM
                        exact j243 v2 v3 S_ Sp_ kc _ _ _ (by omega) hP hD hS (lv_sub hl [0, 1, 2, 3] rfl) hM
                      · replace hM := zx_f q36 hM
                        have j236 : ∀ (v2 : Int32) (v4 : Int32) (t0 : Int32) (S_ : zx_B) (Sp_ : zx_B) (kc : Nat) (H : Heap) (lc : List Loc) (ls : Array Slot), kc + (n195 * 2 + 8) ≤ 2078 → va_P D vwCl (xWD cI cT h hh aa h2 hh2 aa2 S_ Sp_) H → va_D A (xWD cI cT h hh aa h2 hh2 aa2 S_ Sp_) → va_S A s.heap H lc → lv_has ls 6 [(0, .ref h), (1, .ref h2), (2, .int v2), (4, .int v4)] → f_L_alike_j236 N (f_L_alike_l195 N  n195) v2 v4 t0 S_ Sp_ = some R → W p l e (headSpec zsL_alike rmL_alike).room s m ([.ref h, .ref h2, .int p2] : List Value).toArray below meth c H lc kc (6 * kc) Q9 (F0 m 236 ls [.int t0]) := by
                          intro v2 v4 t0 S_ Sp_ kc H lc ls hkc hP hD hS hl hM
                          unfold f_L_alike_j236 at hM
                          refine lv_istore_n (lv' := [(3, .int t0), (0, .ref h), (1, .ref h2), (2, .int v2), (4, .int v4)]) hx hb dL_alike_236 rfl hl (by decide) rfl (fun ls hl => ?_)
                          obtain ⟨x37, ex37, hM⟩ := zx_nE hM
                          refine lv_iinc (v := x37) (lv' := [(4, .int x37), (3, .int t0), (0, .ref h), (1, .ref h2), (2, .int v2)]) hx hb dL_alike_237 hl (k := 4) rfl (by rw [ex37]; rfl) (by decide) rfl (fun ls hl => ?_)
                          refine lv_goto (tgt := 195) hx hb dL_alike_240 (by decide) ?_
                          exact ih195 v2 t0 x37 S_ Sp_ kc _ _ _ (by omega) hP hD hS (lv_sub hl [2, 3, 4, 1, 0] rfl) hM
                        refine lv_aload_n hx hb dL_alike_206 rfl (lv_at hl 0 rfl) ?_
                        refine lv_iconst (v := 2) hx hb dL_alike_207 (by decide) ?_
                        refine lv_iload hx hb dL_alike_208 (lv_at hl 4 rfl) ?_
                        refine lv_iload_n hx hb dL_alike_210 rfl (lv_at hl 2 rfl) ?_
                        refine lv_iconst (v := 5) hx hb dL_alike_211 (by decide) ?_
                        refine lv_irem hx hb dL_alike_212 (by decide) ?_
                        obtain ⟨x38, ex38, hM⟩ := zx_nE hM
                        refine zx_top ex38 ?_
                        refine lv_iconst (v := 0) hx hb dL_alike_213 (by decide) ?_
                        obtain ⟨x39, T40, hz41, hM⟩ := zx_b2E hM
                        have hPc := zy_P1 hP
                        have hDc := zy_D1 hD
                        have hF := zx_fW hDc hS hA
                        refine va_calli (va_runS (As := [.ref h, .int 2, .int v4, .int x38, .int 0]) (rest := []) ⟨hx, hb, hml, hown, hts⟩ (c_L_call l hlt D cI cZ cT h hh aa S_ _ N 2 v4 x38 0 hz41) (va_cwS 5 hts (zg_S zw_4_2 zw_4_3 zw_3_14 zw_4_4) rfl rfl rfl zyL_call ⟨Nat.le_of_ble_eq_true rfl, Nat.le_of_ble_eq_true rfl⟩) ⟨bY_blind, bY_pre hPc hK hDc hN hXX hNc hS hF⟩ rfl rfl hl.1 rfl (lv_room (Nat.le_of_ble_eq_true rfl)) dL_alike_214 ⟨by show kc + 1 ≤ 2078; omega, by show 6 * kc + 6 ≤ 12468; omega⟩) hS (fun q _ h => hF q h) (fun q h => hF q h) (fun r u t H1 lc ht hvm hw hB hz1 hk1 hS => ?_)
                        obtain ⟨hw1, hw2⟩ := Prod.mk.inj hw; subst hw1; subst hw2
                        rw [ht] at hB
                        replace hP := zy_S1 (by rw [xW2_len, xW2_len]) hP hD hk1 hB
                        replace hD := xWD_D T40 Sp_ hD
                        refine W.widen (k := (kc + 1)) (n := 6 * (kc + 1)) (by omega) (by omega) ?_
                        refine lv_aload_n hx hb dL_alike_217 rfl (lv_at hl 1 rfl) ?_
                        refine lv_iconst (v := 2) hx hb dL_alike_218 (by decide) ?_
                        refine lv_iload hx hb dL_alike_219 (lv_at hl 4 rfl) ?_
                        refine lv_iload_n hx hb dL_alike_221 rfl (lv_at hl 2 rfl) ?_
                        refine lv_iconst (v := 5) hx hb dL_alike_222 (by decide) ?_
                        refine lv_irem hx hb dL_alike_223 (by decide) ?_
                        obtain ⟨x42, ex42, hM⟩ := zx_nE hM
                        refine zx_top ex42 ?_
                        refine lv_iconst (v := 0) hx hb dL_alike_224 (by decide) ?_
                        obtain ⟨x43, T44, hz45, hM⟩ := zx_b2E hM
                        have hPc := zy_P2 hP
                        have hDc := zy_D2 hD
                        have hF := zx_fW hDc hS hA
                        refine va_calli (va_runS (As := [.ref h2, .int 2, .int v4, .int x42, .int 0]) (rest := [.int x39]) ⟨hx, hb, hml, hown, hts⟩ (c_L_call l hlt D cI cZ cT h2 hh2 aa2 Sp_ _ N 2 v4 x42 0 hz45) (va_cwS 5 hts (zg_S zw_4_2 zw_4_3 zw_3_14 zw_4_4) rfl rfl rfl zyL_call ⟨Nat.le_of_ble_eq_true rfl, Nat.le_of_ble_eq_true rfl⟩) ⟨bY_blind, bY_pre hPc hK hDc hN hXX hNc hS hF⟩ rfl rfl hl.1 rfl (lv_room (Nat.le_of_ble_eq_true rfl)) dL_alike_225 ⟨by show (kc + 1) + 1 ≤ 2078; omega, by show 6 * (kc + 1) + 6 ≤ 12468; omega⟩) hS (fun q _ h => hF q h) (fun q h => hF q h) (fun r u t H1 lc ht hvm hw hB hz1 hk1 hS => ?_)
                        obtain ⟨hw1, hw2⟩ := Prod.mk.inj hw; subst hw1; subst hw2
                        rw [ht] at hB
                        replace hP := zy_S2 (by rw [xW2_len, xW2_len]) hP hD hk1 hB
                        replace hD := xWD_D T40 T44 hD
                        refine W.widen (k := (kc + 2)) (n := 6 * (kc + 2)) (by omega) (by omega) ?_
                        refine lv_icmp_ne (tgt := 235) hx hb dL_alike_228 (by decide) (fun q46 => ?_) (fun q46 => ?_)
                        · replace hM := zx_f q46 hM
                          refine lv_iconst (v := 0) hx hb dL_alike_235 (by decide) ?_
                          exact j236 v2 v4 0 T40 T44 (kc + 2) _ _ _ (by omega) hP hD hS (lv_sub hl [0, 1, 2, 4] rfl) hM
                        · replace hM := zx_t q46 hM
                          refine lv_iconst (v := 1) hx hb dL_alike_231 (by decide) ?_
                          refine lv_goto (tgt := 236) hx hb dL_alike_232 (by decide) ?_
                          exact j236 v2 v4 1 T40 T44 (kc + 2) _ _ _ (by omega) hP hD hS (lv_sub hl [0, 1, 2, 4] rfl) hM
                refine lv_iconst (v := 0) hx hb dL_alike_192 (by decide) ?_
                refine lv_istore (lv' := [(4, .int 0), (0, .ref h), (1, .ref h2), (2, .int v2), (3, .int v3)]) hx hb dL_alike_193 hl (by decide) rfl (fun ls hl => ?_)
                exact l195 30 v2 v3 0 S_ Sp_ kc _ _ _ (by omega) hP hD hS (lv_sub hl [1, 2, 3, 4, 0] rfl) hM
              refine lv_iload hx hb dL_alike_67 (lv_at hl 4 rfl) ?_
              refine lv_aload_n hx hb dL_alike_69 rfl (lv_at hl 0 rfl) ?_
              refine lv_iconst (v := 1) hx hb dL_alike_70 (by decide) ?_
              refine lv_iconst (v := 1) hx hb dL_alike_71 (by decide) ?_
              refine lv_iconst (v := 0) hx hb dL_alike_72 (by decide) ?_
              refine lv_iconst (v := 0) hx hb dL_alike_73 (by decide) ?_
              obtain ⟨x47, T48, hz49, hM⟩ := zx_b2E hM
              have hPc := zy_P1 hP
              have hDc := zy_D1 hD
              have hF := zx_fW hDc hS hA
              refine va_calli (va_runS (As := [.ref h, .int 1, .int 1, .int 0, .int 0]) (rest := [.int v4]) ⟨hx, hb, hml, hown, hts⟩ (c_L_call l hlt D cI cZ cT h hh aa S_ _ N 1 1 0 0 hz49) (va_cwS 5 hts (zg_S zw_4_2 zw_4_3 zw_3_14 zw_4_4) rfl rfl rfl zyL_call ⟨Nat.le_of_ble_eq_true rfl, Nat.le_of_ble_eq_true rfl⟩) ⟨bY_blind, bY_pre hPc hK hDc hN hXX hNc hS hF⟩ rfl rfl hl.1 rfl (lv_room (Nat.le_of_ble_eq_true rfl)) dL_alike_74 ⟨by show kc + 1 ≤ 2078; omega, by show 6 * kc + 6 ≤ 12468; omega⟩) hS (fun q _ h => hF q h) (fun q h => hF q h) (fun r u t H1 lc ht hvm hw hB hz1 hk1 hS => ?_)
              obtain ⟨hw1, hw2⟩ := Prod.mk.inj hw; subst hw1; subst hw2
              rw [ht] at hB
              replace hP := zy_S1 (by rw [xW2_len, xW2_len]) hP hD hk1 hB
              replace hD := xWD_D T48 Sp_ hD
              refine W.widen (k := (kc + 1)) (n := 6 * (kc + 1)) (by omega) (by omega) ?_
              refine lv_icmp_ge (tgt := 192) hx hb dL_alike_77 (by decide) (fun q50 => ?_) (fun q50 => ?_)
              · replace hM := zx_t q50 hM
                exact j192 v2 v3 T48 Sp_ (kc + 1) _ _ _ (by omega) hP hD hS (lv_sub hl [0, 1, 2, 3] rfl) hM
              · replace hM := zx_f q50 hM
                refine lv_iload_n hx hb dL_alike_80 rfl (lv_at hl 3 rfl) ?_
                refine lv_if_eq (tgt := 192) hx hb dL_alike_81 (by decide) (fun q51 => ?_) (fun q51 => ?_)
                · replace hM := zx_t q51 hM
                  exact j192 v2 v3 T48 Sp_ (kc + 1) _ _ _ (by omega) hP hD hS (lv_sub hl [0, 1, 2, 3] rfl) hM
                · replace hM := zx_f q51 hM
                  have j137 : ∀ (v2 : Int32) (v4 : Int32) (t0 : Int32) (S_ : zx_B) (Sp_ : zx_B) (kc : Nat) (H : Heap) (lc : List Loc) (ls : Array Slot), kc + (n67 * 65 + 128) ≤ 2078 → va_P D vwCl (xWD cI cT h hh aa h2 hh2 aa2 S_ Sp_) H → va_D A (xWD cI cT h hh aa h2 hh2 aa2 S_ Sp_) → va_S A s.heap H lc → lv_has ls 6 [(0, .ref h), (1, .ref h2), (2, .int v2), (4, .int v4)] → f_L_alike_j137 N (f_L_alike_l67 N  n67) v2 v4 t0 S_ Sp_ = some R → W p l e (headSpec zsL_alike rmL_alike).room s m ([.ref h, .ref h2, .int p2] : List Value).toArray below meth c H lc kc (6 * kc) Q9 (F0 m 137 ls [.int t0]) := by
                    intro v2 v4 t0 S_ Sp_ kc H lc ls hkc hP hD hS hl hM
                    unfold f_L_alike_j137 at hM
                    have l141 : ∀ (n141 : Nat) (v2 : Int32) (v3 : Int32) (v4 : Int32) (v5 : Int32) (S_ : zx_B) (Sp_ : zx_B) (kc : Nat) (H : Heap) (lc : List Loc) (ls : Array Slot), kc + (n141 * 2 + n67 * 65 + 68) ≤ 2078 → va_P D vwCl (xWD cI cT h hh aa h2 hh2 aa2 S_ Sp_) H → va_D A (xWD cI cT h hh aa h2 hh2 aa2 S_ Sp_) → va_S A s.heap H lc → lv_has ls 6 [(0, .ref h), (1, .ref h2), (2, .int v2), (3, .int v3), (4, .int v4), (5, .int v5)] → f_L_alike_l141 N (f_L_alike_l67 N  n67) n141 v2 v3 v4 v5 S_ Sp_ = some R → W p l e (headSpec zsL_alike rmL_alike).room s m ([.ref h, .ref h2, .int p2] : List Value).toArray below meth c H lc kc (6 * kc) Q9 (F0 m 141 ls []) := by
                      intro n141
                      induction n141 with
                      | zero =>
                        intro v2 v3 v4 v5 S_ Sp_ kc H lc ls hkc hP hD hS hl hM
                        rw [f_L_alike_l141] at hM; exact absurd hM (by intro h; cases h)
                      | succ n141 ih141 =>
                        intro v2 v3 v4 v5 S_ Sp_ kc H lc ls hkc hP hD hS hl hM
                        rw [f_L_alike_l141] at hM
                        have j186 : ∀ (v2 : Int32) (v3 : Int32) (v4 : Int32) (S_ : zx_B) (Sp_ : zx_B) (kc : Nat) (H : Heap) (lc : List Loc) (ls : Array Slot), kc + (n67 * 65 + 68) ≤ 2078 → va_P D vwCl (xWD cI cT h hh aa h2 hh2 aa2 S_ Sp_) H → va_D A (xWD cI cT h hh aa h2 hh2 aa2 S_ Sp_) → va_S A s.heap H lc → lv_has ls 6 [(0, .ref h), (1, .ref h2), (2, .int v2), (3, .int v3), (4, .int v4)] → f_L_alike_j186 N (f_L_alike_l67 N  n67) v2 v3 v4 S_ Sp_ = some R → W p l e (headSpec zsL_alike rmL_alike).room s m ([.ref h, .ref h2, .int p2] : List Value).toArray below meth c H lc kc (6 * kc) Q9 (F0 m 186 ls []) := by
                          intro v2 v3 v4 S_ Sp_ kc H lc ls hkc hP hD hS hl hM
                          unfold f_L_alike_j186 at hM
                          obtain ⟨x52, ex52, hM⟩ := zx_nE hM
                          refine lv_iinc (v := x52) (lv' := [(4, .int x52), (0, .ref h), (1, .ref h2), (2, .int v2), (3, .int v3)]) hx hb dL_alike_186 hl (k := 4) rfl (by rw [ex52]; rfl) (by decide) rfl (fun ls hl => ?_)
                          refine lv_goto (tgt := 67) hx hb dL_alike_189 (by decide) ?_
                          exact ih67 v2 v3 x52 S_ Sp_ kc _ _ _ (by omega) hP hD hS (lv_sub hl [1, 2, 3, 4, 0] rfl) hM
                        refine lv_iload hx hb dL_alike_141 (lv_at hl 5 rfl) ?_
                        refine lv_iconst (v := 4) hx hb dL_alike_143 (by decide) ?_
                        refine lv_icmp_ge (tgt := 186) hx hb dL_alike_144 (by decide) (fun q53 => ?_) (fun q53 => ?_)
                        · replace hM := zx_t q53 hM
                          exact j186 v2 v3 v4 S_ Sp_ kc _ _ _ (by omega) hP hD hS (lv_sub hl [0, 1, 2, 3, 4] rfl) hM
                        · replace hM := zx_f q53 hM
                          refine lv_iload_n hx hb dL_alike_147 rfl (lv_at hl 3 rfl) ?_
                          refine lv_if_eq (tgt := 186) hx hb dL_alike_148 (by decide) (fun q54 => ?_) (fun q54 => ?_)
                          · replace hM := zx_t q54 hM
                            exact j186 v2 v3 v4 S_ Sp_ kc _ _ _ (by omega) hP hD hS (lv_sub hl [0, 1, 2, 3, 4] rfl) hM
                          · replace hM := zx_f q54 hM
                            have j179 : ∀ (v2 : Int32) (v4 : Int32) (v5 : Int32) (t0 : Int32) (S_ : zx_B) (Sp_ : zx_B) (kc : Nat) (H : Heap) (lc : List Loc) (ls : Array Slot), kc + (n141 * 2 + n67 * 65 + 68) ≤ 2078 → va_P D vwCl (xWD cI cT h hh aa h2 hh2 aa2 S_ Sp_) H → va_D A (xWD cI cT h hh aa h2 hh2 aa2 S_ Sp_) → va_S A s.heap H lc → lv_has ls 6 [(0, .ref h), (1, .ref h2), (2, .int v2), (4, .int v4), (5, .int v5)] → f_L_alike_j179 N (f_L_alike_l67 N  n67) (f_L_alike_l141 N (f_L_alike_l67 N  n67)  n141) v2 v4 v5 t0 S_ Sp_ = some R → W p l e (headSpec zsL_alike rmL_alike).room s m ([.ref h, .ref h2, .int p2] : List Value).toArray below meth c H lc kc (6 * kc) Q9 (F0 m 179 ls [.int t0]) := by
                              intro v2 v4 v5 t0 S_ Sp_ kc H lc ls hkc hP hD hS hl hM
                              unfold f_L_alike_j179 at hM
                              refine lv_istore_n (lv' := [(3, .int t0), (0, .ref h), (1, .ref h2), (2, .int v2), (4, .int v4), (5, .int v5)]) hx hb dL_alike_179 rfl hl (by decide) rfl (fun ls hl => ?_)
                              obtain ⟨x55, ex55, hM⟩ := zx_nE hM
                              refine lv_iinc (v := x55) (lv' := [(5, .int x55), (3, .int t0), (0, .ref h), (1, .ref h2), (2, .int v2), (4, .int v4)]) hx hb dL_alike_180 hl (k := 5) rfl (by rw [ex55]; rfl) (by decide) rfl (fun ls hl => ?_)
                              refine lv_goto (tgt := 141) hx hb dL_alike_183 (by decide) ?_
                              exact ih141 v2 t0 v4 x55 S_ Sp_ kc _ _ _ (by omega) hP hD hS (lv_sub hl [2, 3, 4, 1, 5, 0] rfl) hM
                            refine lv_aload_n hx hb dL_alike_151 rfl (lv_at hl 0 rfl) ?_
                            refine lv_iconst (v := 4) hx hb dL_alike_152 (by decide) ?_
                            refine lv_iload hx hb dL_alike_153 (lv_at hl 4 rfl) ?_
                            refine lv_iload hx hb dL_alike_155 (lv_at hl 5 rfl) ?_
                            refine lv_iconst (v := 0) hx hb dL_alike_157 (by decide) ?_
                            obtain ⟨x56, T57, hz58, hM⟩ := zx_b2E hM
                            have hPc := zy_P1 hP
                            have hDc := zy_D1 hD
                            have hF := zx_fW hDc hS hA
                            refine va_calli (va_runS (As := [.ref h, .int 4, .int v4, .int v5, .int 0]) (rest := []) ⟨hx, hb, hml, hown, hts⟩ (c_L_call l hlt D cI cZ cT h hh aa S_ _ N 4 v4 v5 0 hz58) (va_cwS 5 hts (zg_S zw_4_2 zw_4_3 zw_3_14 zw_4_4) rfl rfl rfl zyL_call ⟨Nat.le_of_ble_eq_true rfl, Nat.le_of_ble_eq_true rfl⟩) ⟨bY_blind, bY_pre hPc hK hDc hN hXX hNc hS hF⟩ rfl rfl hl.1 rfl (lv_room (Nat.le_of_ble_eq_true rfl)) dL_alike_158 ⟨by show kc + 1 ≤ 2078; omega, by show 6 * kc + 6 ≤ 12468; omega⟩) hS (fun q _ h => hF q h) (fun q h => hF q h) (fun r u t H1 lc ht hvm hw hB hz1 hk1 hS => ?_)
                            obtain ⟨hw1, hw2⟩ := Prod.mk.inj hw; subst hw1; subst hw2
                            rw [ht] at hB
                            replace hP := zy_S1 (by rw [xW2_len, xW2_len]) hP hD hk1 hB
                            replace hD := xWD_D T57 Sp_ hD
                            refine W.widen (k := (kc + 1)) (n := 6 * (kc + 1)) (by omega) (by omega) ?_
                            refine lv_aload_n hx hb dL_alike_161 rfl (lv_at hl 1 rfl) ?_
                            refine lv_iconst (v := 4) hx hb dL_alike_162 (by decide) ?_
                            refine lv_iload hx hb dL_alike_163 (lv_at hl 4 rfl) ?_
                            refine lv_iload hx hb dL_alike_165 (lv_at hl 5 rfl) ?_
                            refine lv_iconst (v := 0) hx hb dL_alike_167 (by decide) ?_
                            obtain ⟨x59, T60, hz61, hM⟩ := zx_b2E hM
                            have hPc := zy_P2 hP
                            have hDc := zy_D2 hD
                            have hF := zx_fW hDc hS hA
                            refine va_calli (va_runS (As := [.ref h2, .int 4, .int v4, .int v5, .int 0]) (rest := [.int x56]) ⟨hx, hb, hml, hown, hts⟩ (c_L_call l hlt D cI cZ cT h2 hh2 aa2 Sp_ _ N 4 v4 v5 0 hz61) (va_cwS 5 hts (zg_S zw_4_2 zw_4_3 zw_3_14 zw_4_4) rfl rfl rfl zyL_call ⟨Nat.le_of_ble_eq_true rfl, Nat.le_of_ble_eq_true rfl⟩) ⟨bY_blind, bY_pre hPc hK hDc hN hXX hNc hS hF⟩ rfl rfl hl.1 rfl (lv_room (Nat.le_of_ble_eq_true rfl)) dL_alike_168 ⟨by show (kc + 1) + 1 ≤ 2078; omega, by show 6 * (kc + 1) + 6 ≤ 12468; omega⟩) hS (fun q _ h => hF q h) (fun q h => hF q h) (fun r u t H1 lc ht hvm hw hB hz1 hk1 hS => ?_)
                            obtain ⟨hw1, hw2⟩ := Prod.mk.inj hw; subst hw1; subst hw2
                            rw [ht] at hB
                            replace hP := zy_S2 (by rw [xW2_len, xW2_len]) hP hD hk1 hB
                            replace hD := xWD_D T57 T60 hD
                            refine W.widen (k := (kc + 2)) (n := 6 * (kc + 2)) (by omega) (by omega) ?_
                            refine lv_icmp_ne (tgt := 178) hx hb dL_alike_171 (by decide) (fun q62 => ?_) (fun q62 => ?_)
                            · replace hM := zx_f q62 hM
                              refine lv_iconst (v := 0) hx hb dL_alike_178 (by decide) ?_
                              exact j179 v2 v4 v5 0 T57 T60 (kc + 2) _ _ _ (by omega) hP hD hS (lv_sub hl [0, 1, 2, 4, 5] rfl) hM
                            · replace hM := zx_t q62 hM
                              refine lv_iconst (v := 1) hx hb dL_alike_174 (by decide) ?_
                              refine lv_goto (tgt := 179) hx hb dL_alike_175 (by decide) ?_
                              exact j179 v2 v4 v5 1 T57 T60 (kc + 2) _ _ _ (by omega) hP hD hS (lv_sub hl [0, 1, 2, 4, 5] rfl) hM
                    refine lv_istore_n (lv' := [(3, .int t0), (0, .ref h), (1, .ref h2), (2, .int v2), (4, .int v4)]) hx hb dL_alike_137 rfl hl (by decide) rfl (fun ls hl => ?_)
                    refine lv_iconst (v := 0) hx hb dL_alike_138 (by decide) ?_
                    refine lv_istore (lv' := [(5, .int 0), (3, .int t0), (0, .ref h), (1, .ref h2), (2, .int v2), (4, .int v4)]) hx hb dL_alike_139 hl (by decide) rfl (fun ls hl => ?_)
                    exact l141 30 v2 t0 v4 0 S_ Sp_ kc _ _ _ (by omega) hP hD hS (lv_sub hl [2, 3, 4, 1, 5, 0] rfl) hM
                  have j136 : ∀ (v2 : Int32) (v4 : Int32) (S_ : zx_B) (Sp_ : zx_B) (kc : Nat) (H : Heap) (lc : List Loc) (ls : Array Slot), kc + (n67 * 65 + 128) ≤ 2078 → va_P D vwCl (xWD cI cT h hh aa h2 hh2 aa2 S_ Sp_) H → va_D A (xWD cI cT h hh aa h2 hh2 aa2 S_ Sp_) → va_S A s.heap H lc → lv_has ls 6 [(0, .ref h), (1, .ref h2), (2, .int v2), (4, .int v4)] → f_L_alike_j136 N (f_L_alike_l67 N  n67) v2 v4 S_ Sp_ = some R → W p l e (headSpec zsL_alike rmL_alike).room s m ([.ref h, .ref h2, .int p2] : List Value).toArray below meth c H lc kc (6 * kc) Q9 (F0 m 136 ls []) := by
                    intro v2 v4 S_ Sp_ kc H lc ls hkc hP hD hS hl hM
                    unfold f_L_alike_j136 at hM
                    refine lv_iconst (v := 0) hx hb dL_alike_136 (by decide) ?_
                    exact j137 v2 v4 0 S_ Sp_ kc _ _ _ (by omega) hP hD hS (lv_sub hl [0, 1, 2, 3] rfl) hM
                  refine lv_aload_n hx hb dL_alike_84 rfl (lv_at hl 0 rfl) ?_
                  refine lv_iconst (v := 3) hx hb dL_alike_85 (by decide) ?_
                  refine lv_iload hx hb dL_alike_86 (lv_at hl 4 rfl) ?_
                  refine lv_iload_n hx hb dL_alike_88 rfl (lv_at hl 2 rfl) ?_
                  refine lv_bipush (v := 7) hx hb dL_alike_89 (by decide) ?_
                  refine lv_irem hx hb dL_alike_91 (by decide) ?_
                  obtain ⟨x63, ex63, hM⟩ := zx_nE hM
                  refine zx_top ex63 ?_
                  refine lv_iconst (v := 0) hx hb dL_alike_92 (by decide) ?_
                  obtain ⟨x64, T65, hz66, hM⟩ := zx_b2E hM
                  have hPc := zy_P1 hP
                  have hDc := zy_D1 hD
                  have hF := zx_fW hDc hS hA
                  refine va_calli (va_runS (As := [.ref h, .int 3, .int v4, .int x63, .int 0]) (rest := []) ⟨hx, hb, hml, hown, hts⟩ (c_L_call l hlt D cI cZ cT h hh aa T48 _ N 3 v4 x63 0 hz66) (va_cwS 5 hts (zg_S zw_4_2 zw_4_3 zw_3_14 zw_4_4) rfl rfl rfl zyL_call ⟨Nat.le_of_ble_eq_true rfl, Nat.le_of_ble_eq_true rfl⟩) ⟨bY_blind, bY_pre hPc hK hDc hN hXX hNc hS hF⟩ rfl rfl hl.1 rfl (lv_room (Nat.le_of_ble_eq_true rfl)) dL_alike_93 ⟨by show (kc + 1) + 1 ≤ 2078; omega, by show 6 * (kc + 1) + 6 ≤ 12468; omega⟩) hS (fun q _ h => hF q h) (fun q h => hF q h) (fun r u t H1 lc ht hvm hw hB hz1 hk1 hS => ?_)
                  obtain ⟨hw1, hw2⟩ := Prod.mk.inj hw; subst hw1; subst hw2
                  rw [ht] at hB
                  replace hP := zy_S1 (by rw [xW2_len, xW2_len]) hP hD hk1 hB
                  replace hD := xWD_D T65 Sp_ hD
                  refine W.widen (k := (kc + 2)) (n := 6 * (kc + 2)) (by omega) (by omega) ?_
                  refine lv_aload_n hx hb dL_alike_96 rfl (lv_at hl 1 rfl) ?_
                  refine lv_iconst (v := 3) hx hb dL_alike_97 (by decide) ?_
                  refine lv_iload hx hb dL_alike_98 (lv_at hl 4 rfl) ?_
                  refine lv_iload_n hx hb dL_alike_100 rfl (lv_at hl 2 rfl) ?_
                  refine lv_bipush (v := 7) hx hb dL_alike_101 (by decide) ?_
                  refine lv_irem hx hb dL_alike_103 (by decide) ?_
                  obtain ⟨x67, ex67, hM⟩ := zx_nE hM
                  refine zx_top ex67 ?_
                  refine lv_iconst (v := 0) hx hb dL_alike_104 (by decide) ?_
                  obtain ⟨x68, T69, hz70, hM⟩ := zx_b2E hM
                  have hPc := zy_P2 hP
                  have hDc := zy_D2 hD
                  have hF := zx_fW hDc hS hA
                  refine va_calli (va_runS (As := [.ref h2, .int 3, .int v4, .int x67, .int 0]) (rest := [.int x64]) ⟨hx, hb, hml, hown, hts⟩ (c_L_call l hlt D cI cZ cT h2 hh2 aa2 Sp_ _ N 3 v4 x67 0 hz70) (va_cwS 5 hts (zg_S zw_4_2 zw_4_3 zw_3_14 zw_4_4) rfl rfl rfl zyL_call ⟨Nat.le_of_ble_eq_true rfl, Nat.le_of_ble_eq_true rfl⟩) ⟨bY_blind, bY_pre hPc hK hDc hN hXX hNc hS hF⟩ rfl rfl hl.1 rfl (lv_room (Nat.le_of_ble_eq_true rfl)) dL_alike_105 ⟨by show (kc + 2) + 1 ≤ 2078; omega, by show 6 * (kc + 2) + 6 ≤ 12468; omega⟩) hS (fun q _ h => hF q h) (fun q h => hF q h) (fun r u t H1 lc ht hvm hw hB hz1 hk1 hS => ?_)
                  obtain ⟨hw1, hw2⟩ := Prod.mk.inj hw; subst hw1; subst hw2
                  rw [ht] at hB
                  replace hP := zy_S2 (by rw [xW2_len, xW2_len]) hP hD hk1 hB
                  replace hD := xWD_D T65 T69 hD
                  refine W.widen (k := (kc + 3)) (n := 6 * (kc + 3)) (by omega) (by omega) ?_
                  refine lv_icmp_ne (tgt := 136) hx hb dL_alike_108 (by decide) (fun q71 => ?_) (fun q71 => ?_)
                  · replace hM := zx_f q71 hM
                    exact j136 v2 v4 T65 T69 (kc + 3) _ _ _ (by omega) hP hD hS (lv_sub hl [0, 1, 2, 4] rfl) hM
                  · replace hM := zx_t q71 hM
                    refine lv_aload_n hx hb dL_alike_111 rfl (lv_at hl 0 rfl) ?_
                    refine lv_iconst (v := 3) hx hb dL_alike_112 (by decide) ?_
                    refine lv_iload hx hb dL_alike_113 (lv_at hl 4 rfl) ?_
                    refine lv_iconst (v := 1) hx hb dL_alike_115 (by decide) ?_
                    refine lv_iconst (v := 0) hx hb dL_alike_116 (by decide) ?_
                    obtain ⟨x72, T73, hz74, hM⟩ := zx_b2E hM
                    have hPc := zy_P1 hP
                    have hDc := zy_D1 hD
                    have hF := zx_fW hDc hS hA
                    refine va_calli (va_runS (As := [.ref h, .int 3, .int v4, .int 1, .int 0]) (rest := []) ⟨hx, hb, hml, hown, hts⟩ (c_L_call l hlt D cI cZ cT h hh aa T65 _ N 3 v4 1 0 hz74) (va_cwS 5 hts (zg_S zw_4_2 zw_4_3 zw_3_14 zw_4_4) rfl rfl rfl zyL_call ⟨Nat.le_of_ble_eq_true rfl, Nat.le_of_ble_eq_true rfl⟩) ⟨bY_blind, bY_pre hPc hK hDc hN hXX hNc hS hF⟩ rfl rfl hl.1 rfl (lv_room (Nat.le_of_ble_eq_true rfl)) dL_alike_117 ⟨by show (kc + 3) + 1 ≤ 2078; omega, by show 6 * (kc + 3) + 6 ≤ 12468; omega⟩) hS (fun q _ h => hF q h) (fun q h => hF q h) (fun r u t H1 lc ht hvm hw hB hz1 hk1 hS => ?_)
                    obtain ⟨hw1, hw2⟩ := Prod.mk.inj hw; subst hw1; subst hw2
                    rw [ht] at hB
                    replace hP := zy_S1 (by rw [xW2_len, xW2_len]) hP hD hk1 hB
                    replace hD := xWD_D T73 T69 hD
                    refine W.widen (k := (kc + 4)) (n := 6 * (kc + 4)) (by omega) (by omega) ?_
                    refine lv_aload_n hx hb dL_alike_120 rfl (lv_at hl 1 rfl) ?_
                    refine lv_iconst (v := 3) hx hb dL_alike_121 (by decide) ?_
                    refine lv_iload hx hb dL_alike_122 (lv_at hl 4 rfl) ?_
                    refine lv_iconst (v := 1) hx hb dL_alike_124 (by decide) ?_
                    refine lv_iconst (v := 0) hx hb dL_alike_125 (by decide) ?_
                    obtain ⟨x75, T76, hz77, hM⟩ := zx_b2E hM
                    have hPc := zy_P2 hP
                    have hDc := zy_D2 hD
                    have hF := zx_fW hDc hS hA
                    refine va_calli (va_runS (As := [.ref h2, .int 3, .int v4, .int 1, .int 0]) (rest := [.int x72]) ⟨hx, hb, hml, hown, hts⟩ (c_L_call l hlt D cI cZ cT h2 hh2 aa2 T69 _ N 3 v4 1 0 hz77) (va_cwS 5 hts (zg_S zw_4_2 zw_4_3 zw_3_14 zw_4_4) rfl rfl rfl zyL_call ⟨Nat.le_of_ble_eq_true rfl, Nat.le_of_ble_eq_true rfl⟩) ⟨bY_blind, bY_pre hPc hK hDc hN hXX hNc hS hF⟩ rfl rfl hl.1 rfl (lv_room (Nat.le_of_ble_eq_true rfl)) dL_alike_126 ⟨by show (kc + 4) + 1 ≤ 2078; omega, by show 6 * (kc + 4) + 6 ≤ 12468; omega⟩) hS (fun q _ h => hF q h) (fun q h => hF q h) (fun r u t H1 lc ht hvm hw hB hz1 hk1 hS => ?_)
                    obtain ⟨hw1, hw2⟩ := Prod.mk.inj hw; subst hw1; subst hw2
                    rw [ht] at hB
                    replace hP := zy_S2 (by rw [xW2_len, xW2_len]) hP hD hk1 hB
                    replace hD := xWD_D T73 T76 hD
                    refine W.widen (k := (kc + 5)) (n := 6 * (kc + 5)) (by omega) (by omega) ?_
                    refine lv_icmp_ne (tgt := 136) hx hb dL_alike_129 (by decide) (fun q78 => ?_) (fun q78 => ?_)
                    · replace hM := zx_f q78 hM
                      exact j136 v2 v4 T73 T76 (kc + 5) _ _ _ (by omega) hP hD hS (lv_sub hl [0, 1, 2, 4] rfl) hM
                    · replace hM := zx_t q78 hM
                      refine lv_iconst (v := 1) hx hb dL_alike_132 (by decide) ?_
                      refine lv_goto (tgt := 137) hx hb dL_alike_133 (by decide) ?_
                      exact j137 v2 v4 1 T73 T76 (kc + 5) _ _ _ (by omega) hP hD hS (lv_sub hl [0, 1, 2, 4] rfl) hM
          refine lv_iconst (v := 0) hx hb dL_alike_64 (by decide) ?_
          refine lv_istore (lv' := [(4, .int 0), (0, .ref h), (1, .ref h2), (2, .int v2), (3, .int v3)]) hx hb dL_alike_65 hl (by decide) rfl (fun ls hl => ?_)
          exact l67 30 v2 v3 0 S_ Sp_ kc _ _ _ (by omega) hP hD hS (lv_sub hl [1, 2, 3, 4, 0] rfl) hM
        refine lv_iload hx hb dL_alike_20 (lv_at hl 4 rfl) ?_
        refine lv_bipush (v := 8) hx hb dL_alike_22 (by decide) ?_
        refine lv_icmp_ge (tgt := 64) hx hb dL_alike_24 (by decide) (fun q79 => ?_) (fun q79 => ?_)
        · replace hM := zx_t q79 hM
          exact j64 v2 v3 S_ Sp_ kc _ _ _ (by omega) hP hD hS (lv_sub hl [0, 1, 2, 3] rfl) hM
        · replace hM := zx_f q79 hM
          refine lv_iload_n hx hb dL_alike_27 rfl (lv_at hl 3 rfl) ?_
          refine lv_if_eq (tgt := 64) hx hb dL_alike_28 (by decide) (fun q80 => ?_) (fun q80 => ?_)
          · replace hM := zx_t q80 hM
            exact j64 v2 v3 S_ Sp_ kc _ _ _ (by omega) hP hD hS (lv_sub hl [0, 1, 2, 3] rfl) hM
          · replace hM := zx_f q80 hM
            have j57 : ∀ (v2 : Int32) (v4 : Int32) (t0 : Int32) (S_ : zx_B) (Sp_ : zx_B) (kc : Nat) (H : Heap) (lc : List Loc) (ls : Array Slot), kc + (n20 * 2 + 2018) ≤ 2078 → va_P D vwCl (xWD cI cT h hh aa h2 hh2 aa2 S_ Sp_) H → va_D A (xWD cI cT h hh aa h2 hh2 aa2 S_ Sp_) → va_S A s.heap H lc → lv_has ls 6 [(0, .ref h), (1, .ref h2), (2, .int v2), (4, .int v4)] → f_L_alike_j57 N (f_L_alike_l20 N  n20) v2 v4 t0 S_ Sp_ = some R → W p l e (headSpec zsL_alike rmL_alike).room s m ([.ref h, .ref h2, .int p2] : List Value).toArray below meth c H lc kc (6 * kc) Q9 (F0 m 57 ls [.int t0]) := by
              intro v2 v4 t0 S_ Sp_ kc H lc ls hkc hP hD hS hl hM
              unfold f_L_alike_j57 at hM
              refine lv_istore_n (lv' := [(3, .int t0), (0, .ref h), (1, .ref h2), (2, .int v2), (4, .int v4)]) hx hb dL_alike_57 rfl hl (by decide) rfl (fun ls hl => ?_)
              obtain ⟨x81, ex81, hM⟩ := zx_nE hM
              refine lv_iinc (v := x81) (lv' := [(4, .int x81), (3, .int t0), (0, .ref h), (1, .ref h2), (2, .int v2)]) hx hb dL_alike_58 hl (k := 4) rfl (by rw [ex81]; rfl) (by decide) rfl (fun ls hl => ?_)
              refine lv_goto (tgt := 20) hx hb dL_alike_61 (by decide) ?_
              exact ih20 v2 t0 x81 S_ Sp_ kc _ _ _ (by omega) hP hD hS (lv_sub hl [2, 3, 4, 1, 0] rfl) hM
            refine lv_aload_n hx hb dL_alike_31 rfl (lv_at hl 0 rfl) ?_
            refine lv_iconst (v := 1) hx hb dL_alike_32 (by decide) ?_
            refine lv_iload hx hb dL_alike_33 (lv_at hl 4 rfl) ?_
            refine lv_iconst (v := 0) hx hb dL_alike_35 (by decide) ?_
            refine lv_iconst (v := 0) hx hb dL_alike_36 (by decide) ?_
            obtain ⟨x82, T83, hz84, hM⟩ := zx_b2E hM
            have hPc := zy_P1 hP
            have hDc := zy_D1 hD
            have hF := zx_fW hDc hS hA
            refine va_calli (va_runS (As := [.ref h, .int 1, .int v4, .int 0, .int 0]) (rest := []) ⟨hx, hb, hml, hown, hts⟩ (c_L_call l hlt D cI cZ cT h hh aa S_ _ N 1 v4 0 0 hz84) (va_cwS 5 hts (zg_S zw_4_2 zw_4_3 zw_3_14 zw_4_4) rfl rfl rfl zyL_call ⟨Nat.le_of_ble_eq_true rfl, Nat.le_of_ble_eq_true rfl⟩) ⟨bY_blind, bY_pre hPc hK hDc hN hXX hNc hS hF⟩ rfl rfl hl.1 rfl (lv_room (Nat.le_of_ble_eq_true rfl)) dL_alike_37 ⟨by show kc + 1 ≤ 2078; omega, by show 6 * kc + 6 ≤ 12468; omega⟩) hS (fun q _ h => hF q h) (fun q h => hF q h) (fun r u t H1 lc ht hvm hw hB hz1 hk1 hS => ?_)
            obtain ⟨hw1, hw2⟩ := Prod.mk.inj hw; subst hw1; subst hw2
            rw [ht] at hB
            replace hP := zy_S1 (by rw [xW2_len, xW2_len]) hP hD hk1 hB
            replace hD := xWD_D T83 Sp_ hD
            refine W.widen (k := (kc + 1)) (n := 6 * (kc + 1)) (by omega) (by omega) ?_
            refine lv_aload_n hx hb dL_alike_40 rfl (lv_at hl 1 rfl) ?_
            refine lv_iconst (v := 1) hx hb dL_alike_41 (by decide) ?_
            refine lv_iload hx hb dL_alike_42 (lv_at hl 4 rfl) ?_
            refine lv_iconst (v := 0) hx hb dL_alike_44 (by decide) ?_
            refine lv_iconst (v := 0) hx hb dL_alike_45 (by decide) ?_
            obtain ⟨x85, T86, hz87, hM⟩ := zx_b2E hM
            have hPc := zy_P2 hP
            have hDc := zy_D2 hD
            have hF := zx_fW hDc hS hA
            refine va_calli (va_runS (As := [.ref h2, .int 1, .int v4, .int 0, .int 0]) (rest := [.int x82]) ⟨hx, hb, hml, hown, hts⟩ (c_L_call l hlt D cI cZ cT h2 hh2 aa2 Sp_ _ N 1 v4 0 0 hz87) (va_cwS 5 hts (zg_S zw_4_2 zw_4_3 zw_3_14 zw_4_4) rfl rfl rfl zyL_call ⟨Nat.le_of_ble_eq_true rfl, Nat.le_of_ble_eq_true rfl⟩) ⟨bY_blind, bY_pre hPc hK hDc hN hXX hNc hS hF⟩ rfl rfl hl.1 rfl (lv_room (Nat.le_of_ble_eq_true rfl)) dL_alike_46 ⟨by show (kc + 1) + 1 ≤ 2078; omega, by show 6 * (kc + 1) + 6 ≤ 12468; omega⟩) hS (fun q _ h => hF q h) (fun q h => hF q h) (fun r u t H1 lc ht hvm hw hB hz1 hk1 hS => ?_)
            obtain ⟨hw1, hw2⟩ := Prod.mk.inj hw; subst hw1; subst hw2
            rw [ht] at hB
            replace hP := zy_S2 (by rw [xW2_len, xW2_len]) hP hD hk1 hB
            replace hD := xWD_D T83 T86 hD
            refine W.widen (k := (kc + 2)) (n := 6 * (kc + 2)) (by omega) (by omega) ?_
            refine lv_icmp_ne (tgt := 56) hx hb dL_alike_49 (by decide) (fun q88 => ?_) (fun q88 => ?_)
            · replace hM := zx_f q88 hM
              refine lv_iconst (v := 0) hx hb dL_alike_56 (by decide) ?_
              exact j57 v2 v4 0 T83 T86 (kc + 2) _ _ _ (by omega) hP hD hS (lv_sub hl [0, 1, 2, 4] rfl) hM
            · replace hM := zx_t q88 hM
              refine lv_iconst (v := 1) hx hb dL_alike_52 (by decide) ?_
              refine lv_goto (tgt := 57) hx hb dL_alike_53 (by decide) ?_
              exact j57 v2 v4 1 T83 T86 (kc + 2) _ _ _ (by omega) hP hD hS (lv_sub hl [0, 1, 2, 4] rfl) hM
    refine lv_istore_n (lv' := [(3, .int t0), (0, .ref h), (1, .ref h2), (2, .int v2)]) hx hb dL_alike_16 rfl hl (by decide) rfl (fun ls hl => ?_)
    refine lv_iconst (v := 0) hx hb dL_alike_17 (by decide) ?_
    refine lv_istore (lv' := [(4, .int 0), (3, .int t0), (0, .ref h), (1, .ref h2), (2, .int v2)]) hx hb dL_alike_18 hl (by decide) rfl (fun ls hl => ?_)
    exact l20 30 v2 t0 0 S_ Sp_ kc _ _ _ (by omega) hP hD hS (lv_sub hl [2, 3, 4, 1, 0] rfl) hM
  refine lv_aload_n hx hb dL_alike_0 rfl (lv_at hl 0 rfl) ?_
  obtain ⟨x89, T90, hz91, hM⟩ := zx_b2E hM
  have hPc := zy_P1 hP
  have hDc := zy_D1 hD
  have hF := zx_fW hDc hS hA
  refine va_calli (va_runV (As := []) (rest := []) ⟨hx, hb, hml, hown, hts⟩ (c_X2_errorPosition l D cI cZ cT h hh aa S _ N hz91) (cwV 0 hts (zg_V zw_20_23 zw_21_0 zw_21_1 zw_1_2 zw_21_2) rfl rfl rfl ⟨rfl, zyX2_errorPosition⟩ ⟨Nat.le_of_ble_eq_true rfl, Nat.le_of_ble_eq_true rfl⟩) ⟨bS_blind, va_recv hK hPc (ci := 2) (q0 := 0) rfl rfl, bS_pre hPc hK hDc hN⟩ rfl rfl hl.1 rfl (lv_room (Nat.le_of_ble_eq_true rfl)) dL_alike_1 ⟨by show kc + 0 ≤ 2078; omega, by show 6 * kc + 0 ≤ 12468; omega⟩) hS (fun q _ h => hF q h) (fun q h => hF q h) (fun r u t H1 lc ht hvm hw hB hz1 hk1 hS => ?_)
  obtain ⟨hw1, hw2⟩ := Prod.mk.inj hw; subst hw1; subst hw2
  rw [ht] at hB
  replace hP := zy_S1 (by rw [xW2_len, xW2_len]) hP hD hk1 hB
  replace hD := xWD_D T90 Sp hD
  refine W.widen (k := kc) (n := 6 * kc) (by omega) (by omega) ?_
  refine lv_aload_n hx hb dL_alike_4 rfl (lv_at hl 1 rfl) ?_
  obtain ⟨x92, T93, hz94, hM⟩ := zx_b2E hM
  have hPc := zy_P2 hP
  have hDc := zy_D2 hD
  have hF := zx_fW hDc hS hA
  refine va_calli (va_runV (As := []) (rest := [.int x89]) ⟨hx, hb, hml, hown, hts⟩ (c_X2_errorPosition l D cI cZ cT h2 hh2 aa2 Sp _ N hz94) (cwV 0 hts (zg_V zw_20_23 zw_21_0 zw_21_1 zw_1_2 zw_21_2) rfl rfl rfl ⟨rfl, zyX2_errorPosition⟩ ⟨Nat.le_of_ble_eq_true rfl, Nat.le_of_ble_eq_true rfl⟩) ⟨bS_blind, va_recv hK hPc (ci := 2) (q0 := 0) rfl rfl, bS_pre hPc hK hDc hN⟩ rfl rfl hl.1 rfl (lv_room (Nat.le_of_ble_eq_true rfl)) dL_alike_5 ⟨by show kc + 0 ≤ 2078; omega, by show 6 * kc + 0 ≤ 12468; omega⟩) hS (fun q _ h => hF q h) (fun q h => hF q h) (fun r u t H1 lc ht hvm hw hB hz1 hk1 hS => ?_)
  obtain ⟨hw1, hw2⟩ := Prod.mk.inj hw; subst hw1; subst hw2
  rw [ht] at hB
  replace hP := zy_S2 (by rw [xW2_len, xW2_len]) hP hD hk1 hB
  replace hD := xWD_D T90 T93 hD
  refine W.widen (k := kc) (n := 6 * kc) (by omega) (by omega) ?_
  refine lv_icmp_ne (tgt := 15) hx hb dL_alike_8 (by decide) (fun q95 => ?_) (fun q95 => ?_)
  · replace hM := zx_f q95 hM
    refine lv_iconst (v := 0) hx hb dL_alike_15 (by decide) ?_
    exact j16 p2 0 T90 T93 kc _ _ _ (by omega) hP hD hS (lv_sub hl [0, 1, 2] rfl) hM
  · replace hM := zx_t q95 hM
    refine lv_iconst (v := 1) hx hb dL_alike_11 (by decide) ?_
    refine lv_goto (tgt := 16) hx hb dL_alike_12 (by decide) ?_
    exact j16 p2 1 T90 T93 kc _ _ _ (by omega) hP hD hS (lv_sub hl [0, 1, 2] rfl) hM
