/-! the law: call(LShallowBoxes;IIII)I -/
def f_L_call (N : Nat) (p1 : Int32) (p2 : Int32) (p3 : Int32) (p4 : Int32) (S : zx_B) : Option (Int32 × zx_B) :=
  (if p1 = 0 then
  (zx_b2 (f_L_tryAppend N p2 S) (fun x2 T3 =>
some (x2, T3))) else
(if p1 = 1 then
  (zx_b2 (f_L_tryAbout N p2 S) (fun x6 T7 =>
some (x6, T7))) else
(if p1 = 2 then
  (zx_b2 (f_L_tryRect N p2 p3 S) (fun x10 T11 =>
some (x10, T11))) else
(if p1 = 3 then
  (zx_b2 (f_L_tryNode N p2 p3 S) (fun x14 T15 =>
some (x14, T15))) else
(if p1 = 4 then
  (zx_b2 (f_L_tryEntry N p2 p3 S) (fun x18 T19 =>
some (x18, T19))) else
(if p1 = 5 then
  (zx_b2 (f_L_tryAddAll N S) (fun x22 T23 =>
some (x22, T23))) else
(if p1 = 6 then
  (zx_b2 (f_L_tryRemove N p2 S) (fun x26 T27 =>
some (x26, T27))) else
(if p1 = 7 then
  (zx_b2 (f_L_tryMove N p2 p3 p4 S) (fun x30 T31 =>
some (x30, T31))) else
(if p1 = 8 then
  (zx_b2 (f_L_tryUndo N S) (fun x34 T35 =>
some (x34, T35))) else
(if p1 = 9 then
  (zx_b2 (f_L_tryNearest N p2 p3 p4 S) (fun x38 T39 =>
some (x38, T39))) else
(if p1 = 10 then
  (zx_b2 (f_L_tryKeep N p2 S) (fun x42 T43 =>
some (x42, T43))) else
(zx_b2 (f_L_tryBack N p2 S) (fun x45 T46 =>
some (x45, T46))))))))))))))
abbrev rmL_call : Room := { frames := 8, cells := 1, slots := 6, locals := 199 }
abbrev zsL_call : List Cond := .code yL_call cL_call 5 (some .int) :: wsL_law
theorem zyL_call : yL_call.cls ≠ "java/lang/invoke/MethodHandle" ∧ yL_call.cls ≠ "java/lang/invoke/VarHandle" ∧ (parseMethodDescriptor yL_call.desc).map (fun d => d.parameters.length) = some 5 := by decide +kernel
set_option maxHeartbeats 16000000 in
set_option maxRecDepth 100000 in
theorem c_L_call (l : Launch) (hlt : l.stackTraces = false) (D : va_G) (cI cZ cT : ClassId) (h : Nat) (hh : Nat → Nat) (aa : Nat → Nat → Nat) (S : zx_B) (sz : Nat) (N : Nat) (p1 : Int32) (p2 : Int32) (p3 : Int32) (p4 : Int32) {R : Int32 × zx_B} (hM : f_L_call N p1 p2 p3 p4 S = some R) : Met l yL_call zsL_call rmL_call (va_Pc [.ref h, .int p1, .int p2, .int p3, .int p4] (bY D (zx_ty cI cZ cT) (xW2 cI cT h hh aa S) sz)) (va_Qi (fun r (u : zx_B) => R = (r, u)) (fun u t => va_P D vwCl (xW2 cI cT h hh aa u) t.heap) (va_A (xW2 cI cT h hh aa S) sz)) 1 6 (va_A (xW2 cI cT h hh aa S) sz) := by
  refine Met.ofW (cc := cL_call) (maxL := 5) (ret := (some .int)) (by decide) rfl ?_
  intro p e s m args below meth c s₁ B hml hv
  obtain ⟨rfl, ⟨⟨hsz, hP, hK, hD0, hN⟩, hXX⟩, hNc⟩ := hv
  have hx := B.exec
  have hb := B.bytes
  have hr := B.returns
  have hts : ∀ w ∈ wsL_law, w.before _ s = true := fun w hw => atoms_spec (ws := zsL_call) B.pre w (List.mem_cons_of_mem _ hw)
  have hown : s.vm.findClass RL = some m.cls := findClass_of_methodNamed B.named
  have hlocks := B.notSynchronized
  subst hsz
  have hD := hD0.self (sz := s.heap.size)
  generalize hAe : va_A (xW2 cI cT h hh aa S) s.heap.size = A at hD hXX ⊢
  have hA : ∀ q : Nat, s.heap.size ≤ q → A q := fun q h => by rw [← hAe]; exact Or.inr h
  have hS : va_S A s.heap s.heap [] := va_S.rf
  have hl := lv_entry ([.ref h, .int p1, .int p2, .int p3, .int p4]) (n := 5) (Nat.le_of_ble_eq_true rfl)
  rw [lg_entry_eq]
  generalize (lg_sl ([.ref h, .int p1, .int p2, .int p3, .int p4]) ++ List.replicate (5 - (lg_sl ([.ref h, .int p1, .int p2, .int p3, .int p4])).length) Slot.unset).toArray = ls at hl ⊢
  have hl : lv_has ls 5 [(0, .ref h), (1, .int p1), (2, .int p2), (3, .int p3), (4, .int p4)] := hl
  generalize hQ : MQ below (va_Qi (fun r (u : zx_B) => R = (r, u)) (fun u t => va_P D vwCl (xW2 cI cT h hh aa u) t.heap) A) ([.ref h, .int p1, .int p2, .int p3, .int p4] : List Value).toArray s 1 6 A = Q9
  replace hQ := hQ.symm
  obtain ⟨kc, hkc0⟩ : ∃ kc : Nat, kc = 0 := ⟨0, rfl⟩
  have hkc : kc + 1 ≤ 1 := by omega
  refine W.widen (k := kc) (n := 6 * kc) (by omega) (by omega) ?_
  unfold f_L_call at hM
  refine lv_iload_n hx hb dL_call_0 rfl (lv_at hl 1 rfl) ?_
  by_cases q1 : p1 = 0
  · replace hM := zx_t q1 hM
    refine lv_tableIn (tgt := 60) hx hb dL_call_1 (by rw [q1]; decide) (by rw [q1]; decide) (by rw [q1]; rfl) (by decide) ?_
    refine lv_aload_n hx hb dL_call_60 rfl (lv_at hl 0 rfl) ?_
    refine lv_iload_n hx hb dL_call_61 rfl (lv_at hl 2 rfl) ?_
    obtain ⟨x2, T3, hz4, hM⟩ := zx_b2E hM
    have hF := zx_fW hD hS hA
    refine va_calli (vx_runSW (As := [.ref h, .int p2]) (rest := []) ⟨hx, hb, hml, hown, hts⟩ (c_L_tryAppend l hlt D cI cZ cT h hh aa S _ N p2 hz4) (vx_cwSW 2 hts (zg_S zw_4_5 zw_4_6 zw_3_14 zw_4_7) rfl rfl rfl zyL_tryAppend ⟨Nat.le_of_ble_eq_true rfl, Nat.le_of_ble_eq_true rfl⟩) ⟨bY_blind, bY_pre hP hK hD hN hXX hNc hS hF⟩ rfl rfl hl.1 rfl (lv_room (Nat.le_of_ble_eq_true rfl)) dL_call_62 ⟨by show kc + 1 ≤ 1; omega, by show 6 * kc + 6 ≤ 6; omega⟩) hS (fun q _ h => hF q h) (fun q h => hF q h) (fun r u t H1 lc ht hvm hw hB hz1 hk1 hS => ?_)
    obtain ⟨hw1, hw2⟩ := Prod.mk.inj hw; subst hw1; subst hw2
    rw [ht] at hB
    replace hP := hB
    replace hD := zx2_Da T3 hD
    refine W.widen (k := (kc + 1)) (n := 6 * (kc + 1)) (by omega) (by omega) ?_
    rw [hQ]
    refine W.widen (k := 1) (n := 6) (by omega) (by omega) ?_
    exact W.iret hx hb hr (fun t ht hW => ⟨⟨x2, T3, rfl, (Option.some.inj hM).symm, by show va_P D vwCl _ t.heap; rw [ht]; exact hP⟩, hS.F ht⟩) hS.2.2 dL_call_65
  · replace hM := zx_f q1 hM
    by_cases q5 : p1 = 1
    · replace hM := zx_t q5 hM
      refine lv_tableIn (tgt := 66) hx hb dL_call_1 (by rw [q5]; decide) (by rw [q5]; decide) (by rw [q5]; rfl) (by decide) ?_
      refine lv_aload_n hx hb dL_call_66 rfl (lv_at hl 0 rfl) ?_
      refine lv_iload_n hx hb dL_call_67 rfl (lv_at hl 2 rfl) ?_
      obtain ⟨x6, T7, hz8, hM⟩ := zx_b2E hM
      have hF := zx_fW hD hS hA
      refine va_calli (vx_runSW (As := [.ref h, .int p2]) (rest := []) ⟨hx, hb, hml, hown, hts⟩ (c_L_tryAbout l hlt D cI cZ cT h hh aa S _ N p2 hz8) (vx_cwSW 2 hts (zg_S zw_4_23 zw_5_0 zw_3_14 zw_5_1) rfl rfl rfl zyL_tryAbout ⟨Nat.le_of_ble_eq_true rfl, Nat.le_of_ble_eq_true rfl⟩) ⟨bY_blind, bY_pre hP hK hD hN hXX hNc hS hF⟩ rfl rfl hl.1 rfl (lv_room (Nat.le_of_ble_eq_true rfl)) dL_call_68 ⟨by show kc + 1 ≤ 1; omega, by show 6 * kc + 6 ≤ 6; omega⟩) hS (fun q _ h => hF q h) (fun q h => hF q h) (fun r u t H1 lc ht hvm hw hB hz1 hk1 hS => ?_)
      obtain ⟨hw1, hw2⟩ := Prod.mk.inj hw; subst hw1; subst hw2
      rw [ht] at hB
      replace hP := hB
      replace hD := zx2_Da T7 hD
      refine W.widen (k := (kc + 1)) (n := 6 * (kc + 1)) (by omega) (by omega) ?_
      rw [hQ]
      refine W.widen (k := 1) (n := 6) (by omega) (by omega) ?_
      exact W.iret hx hb hr (fun t ht hW => ⟨⟨x6, T7, rfl, (Option.some.inj hM).symm, by show va_P D vwCl _ t.heap; rw [ht]; exact hP⟩, hS.F ht⟩) hS.2.2 dL_call_71
    · replace hM := zx_f q5 hM
      by_cases q9 : p1 = 2
      · replace hM := zx_t q9 hM
        refine lv_tableIn (tgt := 72) hx hb dL_call_1 (by rw [q9]; decide) (by rw [q9]; decide) (by rw [q9]; rfl) (by decide) ?_
        refine lv_aload_n hx hb dL_call_72 rfl (lv_at hl 0 rfl) ?_
        refine lv_iload_n hx hb dL_call_73 rfl (lv_at hl 2 rfl) ?_
        refine lv_iload_n hx hb dL_call_74 rfl (lv_at hl 3 rfl) ?_
        obtain ⟨x10, T11, hz12, hM⟩ := zx_b2E hM
        have hF := zx_fW hD hS hA
        refine va_calli (vx_runSW (As := [.ref h, .int p2, .int p3]) (rest := []) ⟨hx, hb, hml, hown, hts⟩ (c_L_tryRect l hlt D cI cZ cT h hh aa S _ N p2 p3 hz12) (vx_cwSW 3 hts (zg_S zw_6_22 zw_6_23 zw_3_14 zw_7_0) rfl rfl rfl zyL_tryRect ⟨Nat.le_of_ble_eq_true rfl, Nat.le_of_ble_eq_true rfl⟩) ⟨bY_blind, bY_pre hP hK hD hN hXX hNc hS hF⟩ rfl rfl hl.1 rfl (lv_room (Nat.le_of_ble_eq_true rfl)) dL_call_75 ⟨by show kc + 1 ≤ 1; omega, by show 6 * kc + 6 ≤ 6; omega⟩) hS (fun q _ h => hF q h) (fun q h => hF q h) (fun r u t H1 lc ht hvm hw hB hz1 hk1 hS => ?_)
        obtain ⟨hw1, hw2⟩ := Prod.mk.inj hw; subst hw1; subst hw2
        rw [ht] at hB
        replace hP := hB
        replace hD := zx2_Da T11 hD
        refine W.widen (k := (kc + 1)) (n := 6 * (kc + 1)) (by omega) (by omega) ?_
        rw [hQ]
        refine W.widen (k := 1) (n := 6) (by omega) (by omega) ?_
        exact W.iret hx hb hr (fun t ht hW => ⟨⟨x10, T11, rfl, (Option.some.inj hM).symm, by show va_P D vwCl _ t.heap; rw [ht]; exact hP⟩, hS.F ht⟩) hS.2.2 dL_call_78
      · replace hM := zx_f q9 hM
        by_cases q13 : p1 = 3
        · replace hM := zx_t q13 hM
          refine lv_tableIn (tgt := 79) hx hb dL_call_1 (by rw [q13]; decide) (by rw [q13]; decide) (by rw [q13]; rfl) (by decide) ?_
          refine lv_aload_n hx hb dL_call_79 rfl (lv_at hl 0 rfl) ?_
          refine lv_iload_n hx hb dL_call_80 rfl (lv_at hl 2 rfl) ?_
          refine lv_iload_n hx hb dL_call_81 rfl (lv_at hl 3 rfl) ?_
          obtain ⟨x14, T15, hz16, hM⟩ := zx_b2E hM
          have hF := zx_fW hD hS hA
          refine va_calli (vx_runSW (As := [.ref h, .int p2, .int p3]) (rest := []) ⟨hx, hb, hml, hown, hts⟩ (c_L_tryNode l hlt D cI cZ cT h hh aa S _ N p2 p3 hz16) (vx_cwSW 3 hts (zg_S zw_8_0 zw_8_1 zw_3_14 zw_8_2) rfl rfl rfl zyL_tryNode ⟨Nat.le_of_ble_eq_true rfl, Nat.le_of_ble_eq_true rfl⟩) ⟨bY_blind, bY_pre hP hK hD hN hXX hNc hS hF⟩ rfl rfl hl.1 rfl (lv_room (Nat.le_of_ble_eq_true rfl)) dL_call_82 ⟨by show kc + 1 ≤ 1; omega, by show 6 * kc + 6 ≤ 6; omega⟩) hS (fun q _ h => hF q h) (fun q h => hF q h) (fun r u t H1 lc ht hvm hw hB hz1 hk1 hS => ?_)
          obtain ⟨hw1, hw2⟩ := Prod.mk.inj hw; subst hw1; subst hw2
          rw [ht] at hB
          replace hP := hB
          replace hD := zx2_Da T15 hD
          refine W.widen (k := (kc + 1)) (n := 6 * (kc + 1)) (by omega) (by omega) ?_
          rw [hQ]
          refine W.widen (k := 1) (n := 6) (by omega) (by omega) ?_
          exact W.iret hx hb hr (fun t ht hW => ⟨⟨x14, T15, rfl, (Option.some.inj hM).symm, by show va_P D vwCl _ t.heap; rw [ht]; exact hP⟩, hS.F ht⟩) hS.2.2 dL_call_85
        · replace hM := zx_f q13 hM
          by_cases q17 : p1 = 4
          · replace hM := zx_t q17 hM
            refine lv_tableIn (tgt := 86) hx hb dL_call_1 (by rw [q17]; decide) (by rw [q17]; decide) (by rw [q17]; rfl) (by decide) ?_
            refine lv_aload_n hx hb dL_call_86 rfl (lv_at hl 0 rfl) ?_
            refine lv_iload_n hx hb dL_call_87 rfl (lv_at hl 2 rfl) ?_
            refine lv_iload_n hx hb dL_call_88 rfl (lv_at hl 3 rfl) ?_
            obtain ⟨x18, T19, hz20, hM⟩ := zx_b2E hM
            have hF := zx_fW hD hS hA
            refine va_calli (vx_runSW (As := [.ref h, .int p2, .int p3]) (rest := []) ⟨hx, hb, hml, hown, hts⟩ (c_L_tryEntry l hlt D cI cZ cT h hh aa S _ N p2 p3 hz20) (vx_cwSW 3 hts (zg_S zw_8_15 zw_8_16 zw_3_14 zw_8_17) rfl rfl rfl zyL_tryEntry ⟨Nat.le_of_ble_eq_true rfl, Nat.le_of_ble_eq_true rfl⟩) ⟨bY_blind, bY_pre hP hK hD hN hXX hNc hS hF⟩ rfl rfl hl.1 rfl (lv_room (Nat.le_of_ble_eq_true rfl)) dL_call_89 ⟨by show kc + 1 ≤ 1; omega, by show 6 * kc + 6 ≤ 6; omega⟩) hS (fun q _ h => hF q h) (fun q h => hF q h) (fun r u t H1 lc ht hvm hw hB hz1 hk1 hS => ?_)
            obtain ⟨hw1, hw2⟩ := Prod.mk.inj hw; subst hw1; subst hw2
            rw [ht] at hB
            replace hP := hB
            replace hD := zx2_Da T19 hD
            refine W.widen (k := (kc + 1)) (n := 6 * (kc + 1)) (by omega) (by omega) ?_
            rw [hQ]
            refine W.widen (k := 1) (n := 6) (by omega) (by omega) ?_
            exact W.iret hx hb hr (fun t ht hW => ⟨⟨x18, T19, rfl, (Option.some.inj hM).symm, by show va_P D vwCl _ t.heap; rw [ht]; exact hP⟩, hS.F ht⟩) hS.2.2 dL_call_92
          · replace hM := zx_f q17 hM
            by_cases q21 : p1 = 5
            · replace hM := zx_t q21 hM
              refine lv_tableIn (tgt := 93) hx hb dL_call_1 (by rw [q21]; decide) (by rw [q21]; decide) (by rw [q21]; rfl) (by decide) ?_
              refine lv_aload_n hx hb dL_call_93 rfl (lv_at hl 0 rfl) ?_
              obtain ⟨x22, T23, hz24, hM⟩ := zx_b2E hM
              have hF := zx_fW hD hS hA
              refine va_calli (vx_runSW (As := [.ref h]) (rest := []) ⟨hx, hb, hml, hown, hts⟩ (c_L_tryAddAll l hlt D cI cZ cT h hh aa S _ N hz24) (vx_cwSW 1 hts (zg_S zw_9_2 zw_9_3 zw_3_14 zw_9_4) rfl rfl rfl zyL_tryAddAll ⟨Nat.le_of_ble_eq_true rfl, Nat.le_of_ble_eq_true rfl⟩) ⟨bY_blind, bY_pre hP hK hD hN hXX hNc hS hF⟩ rfl rfl hl.1 rfl (lv_room (Nat.le_of_ble_eq_true rfl)) dL_call_94 ⟨by show kc + 1 ≤ 1; omega, by show 6 * kc + 6 ≤ 6; omega⟩) hS (fun q _ h => hF q h) (fun q h => hF q h) (fun r u t H1 lc ht hvm hw hB hz1 hk1 hS => ?_)
              obtain ⟨hw1, hw2⟩ := Prod.mk.inj hw; subst hw1; subst hw2
              rw [ht] at hB
              replace hP := hB
              replace hD := zx2_Da T23 hD
              refine W.widen (k := (kc + 1)) (n := 6 * (kc + 1)) (by omega) (by omega) ?_
              rw [hQ]
              refine W.widen (k := 1) (n := 6) (by omega) (by omega) ?_
              exact W.iret hx hb hr (fun t ht hW => ⟨⟨x22, T23, rfl, (Option.some.inj hM).symm, by show va_P D vwCl _ t.heap; rw [ht]; exact hP⟩, hS.F ht⟩) hS.2.2 dL_call_97
            · replace hM := zx_f q21 hM
              by_cases q25 : p1 = 6
              · replace hM := zx_t q25 hM
                refine lv_tableIn (tgt := 98) hx hb dL_call_1 (by rw [q25]; decide) (by rw [q25]; decide) (by rw [q25]; rfl) (by decide) ?_
                refine lv_aload_n hx hb dL_call_98 rfl (lv_at hl 0 rfl) ?_
                refine lv_iload_n hx hb dL_call_99 rfl (lv_at hl 2 rfl) ?_
                obtain ⟨x26, T27, hz28, hM⟩ := zx_b2E hM
                have hF := zx_fW hD hS hA
                refine va_calli (vx_runSW (As := [.ref h, .int p2]) (rest := []) ⟨hx, hb, hml, hown, hts⟩ (c_L_tryRemove l hlt D cI cZ cT h hh aa S _ N p2 hz28) (vx_cwSW 2 hts (zg_S zw_14_4 zw_14_5 zw_3_14 zw_14_6) rfl rfl rfl zyL_tryRemove ⟨Nat.le_of_ble_eq_true rfl, Nat.le_of_ble_eq_true rfl⟩) ⟨bY_blind, bY_pre hP hK hD hN hXX hNc hS hF⟩ rfl rfl hl.1 rfl (lv_room (Nat.le_of_ble_eq_true rfl)) dL_call_100 ⟨by show kc + 1 ≤ 1; omega, by show 6 * kc + 6 ≤ 6; omega⟩) hS (fun q _ h => hF q h) (fun q h => hF q h) (fun r u t H1 lc ht hvm hw hB hz1 hk1 hS => ?_)
                obtain ⟨hw1, hw2⟩ := Prod.mk.inj hw; subst hw1; subst hw2
                rw [ht] at hB
                replace hP := hB
                replace hD := zx2_Da T27 hD
                refine W.widen (k := (kc + 1)) (n := 6 * (kc + 1)) (by omega) (by omega) ?_
                rw [hQ]
                refine W.widen (k := 1) (n := 6) (by omega) (by omega) ?_
                exact W.iret hx hb hr (fun t ht hW => ⟨⟨x26, T27, rfl, (Option.some.inj hM).symm, by show va_P D vwCl _ t.heap; rw [ht]; exact hP⟩, hS.F ht⟩) hS.2.2 dL_call_103
              · replace hM := zx_f q25 hM
                by_cases q29 : p1 = 7
                · replace hM := zx_t q29 hM
                  refine lv_tableIn (tgt := 104) hx hb dL_call_1 (by rw [q29]; decide) (by rw [q29]; decide) (by rw [q29]; rfl) (by decide) ?_
                  refine lv_aload_n hx hb dL_call_104 rfl (lv_at hl 0 rfl) ?_
                  refine lv_iload_n hx hb dL_call_105 rfl (lv_at hl 2 rfl) ?_
                  refine lv_iload_n hx hb dL_call_106 rfl (lv_at hl 3 rfl) ?_
                  refine lv_iload hx hb dL_call_107 (lv_at hl 4 rfl) ?_
                  obtain ⟨x30, T31, hz32, hM⟩ := zx_b2E hM
                  have hF := zx_fW hD hS hA
                  refine va_calli (vx_runSW (As := [.ref h, .int p2, .int p3, .int p4]) (rest := []) ⟨hx, hb, hml, hown, hts⟩ (c_L_tryMove l hlt D cI cZ cT h hh aa S _ N p2 p3 p4 hz32) (vx_cwSW 4 hts (zg_S zw_14_20 zw_14_21 zw_3_14 zw_14_22) rfl rfl rfl zyL_tryMove ⟨Nat.le_of_ble_eq_true rfl, Nat.le_of_ble_eq_true rfl⟩) ⟨bY_blind, bY_pre hP hK hD hN hXX hNc hS hF⟩ rfl rfl hl.1 rfl (lv_room (Nat.le_of_ble_eq_true rfl)) dL_call_109 ⟨by show kc + 1 ≤ 1; omega, by show 6 * kc + 6 ≤ 6; omega⟩) hS (fun q _ h => hF q h) (fun q h => hF q h) (fun r u t H1 lc ht hvm hw hB hz1 hk1 hS => ?_)
                  obtain ⟨hw1, hw2⟩ := Prod.mk.inj hw; subst hw1; subst hw2
                  rw [ht] at hB
                  replace hP := hB
                  replace hD := zx2_Da T31 hD
                  refine W.widen (k := (kc + 1)) (n := 6 * (kc + 1)) (by omega) (by omega) ?_
                  rw [hQ]
                  refine W.widen (k := 1) (n := 6) (by omega) (by omega) ?_
                  exact W.iret hx hb hr (fun t ht hW => ⟨⟨x30, T31, rfl, (Option.some.inj hM).symm, by show va_P D vwCl _ t.heap; rw [ht]; exact hP⟩, hS.F ht⟩) hS.2.2 dL_call_112
                · replace hM := zx_f q29 hM
                  by_cases q33 : p1 = 8
                  · replace hM := zx_t q33 hM
                    refine lv_tableIn (tgt := 113) hx hb dL_call_1 (by rw [q33]; decide) (by rw [q33]; decide) (by rw [q33]; rfl) (by decide) ?_
                    refine lv_aload_n hx hb dL_call_113 rfl (lv_at hl 0 rfl) ?_
                    obtain ⟨x34, T35, hz36, hM⟩ := zx_b2E hM
                    have hF := zx_fW hD hS hA
                    refine va_calli (vx_runSW (As := [.ref h]) (rest := []) ⟨hx, hb, hml, hown, hts⟩ (c_L_tryUndo l hlt D cI cZ cT h hh aa S _ N hz36) (vx_cwSW 1 hts (zg_S zw_15_15 zw_15_16 zw_3_14 zw_15_17) rfl rfl rfl zyL_tryUndo ⟨Nat.le_of_ble_eq_true rfl, Nat.le_of_ble_eq_true rfl⟩) ⟨bY_blind, bY_pre hP hK hD hN hXX hNc hS hF⟩ rfl rfl hl.1 rfl (lv_room (Nat.le_of_ble_eq_true rfl)) dL_call_114 ⟨by show kc + 1 ≤ 1; omega, by show 6 * kc + 6 ≤ 6; omega⟩) hS (fun q _ h => hF q h) (fun q h => hF q h) (fun r u t H1 lc ht hvm hw hB hz1 hk1 hS => ?_)
                    obtain ⟨hw1, hw2⟩ := Prod.mk.inj hw; subst hw1; subst hw2
                    rw [ht] at hB
                    replace hP := hB
                    replace hD := zx2_Da T35 hD
                    refine W.widen (k := (kc + 1)) (n := 6 * (kc + 1)) (by omega) (by omega) ?_
                    rw [hQ]
                    refine W.widen (k := 1) (n := 6) (by omega) (by omega) ?_
                    exact W.iret hx hb hr (fun t ht hW => ⟨⟨x34, T35, rfl, (Option.some.inj hM).symm, by show va_P D vwCl _ t.heap; rw [ht]; exact hP⟩, hS.F ht⟩) hS.2.2 dL_call_117
                  · replace hM := zx_f q33 hM
                    by_cases q37 : p1 = 9
                    · replace hM := zx_t q37 hM
                      refine lv_tableIn (tgt := 118) hx hb dL_call_1 (by rw [q37]; decide) (by rw [q37]; decide) (by rw [q37]; rfl) (by decide) ?_
                      refine lv_aload_n hx hb dL_call_118 rfl (lv_at hl 0 rfl) ?_
                      refine lv_iload_n hx hb dL_call_119 rfl (lv_at hl 2 rfl) ?_
                      refine lv_iload_n hx hb dL_call_120 rfl (lv_at hl 3 rfl) ?_
                      refine lv_iload hx hb dL_call_121 (lv_at hl 4 rfl) ?_
                      obtain ⟨x38, T39, hz40, hM⟩ := zx_b2E hM
                      have hF := zx_fW hD hS hA
                      refine va_calli (vx_runSW (As := [.ref h, .int p2, .int p3, .int p4]) (rest := []) ⟨hx, hb, hml, hown, hts⟩ (c_L_tryNearest l hlt D cI cZ cT h hh aa S _ N p2 p3 p4 hz40) (vx_cwSW 4 hts (zg_S zw_15_22 zw_15_23 zw_3_14 zw_16_0) rfl rfl rfl zyL_tryNearest ⟨Nat.le_of_ble_eq_true rfl, Nat.le_of_ble_eq_true rfl⟩) ⟨bY_blind, bY_pre hP hK hD hN hXX hNc hS hF⟩ rfl rfl hl.1 rfl (lv_room (Nat.le_of_ble_eq_true rfl)) dL_call_123 ⟨by show kc + 1 ≤ 1; omega, by show 6 * kc + 6 ≤ 6; omega⟩) hS (fun q _ h => hF q h) (fun q h => hF q h) (fun r u t H1 lc ht hvm hw hB hz1 hk1 hS => ?_)
                      obtain ⟨hw1, hw2⟩ := Prod.mk.inj hw; subst hw1; subst hw2
                      rw [ht] at hB
                      replace hP := hB
                      replace hD := zx2_Da T39 hD
                      refine W.widen (k := (kc + 1)) (n := 6 * (kc + 1)) (by omega) (by omega) ?_
                      rw [hQ]
                      refine W.widen (k := 1) (n := 6) (by omega) (by omega) ?_
                      exact W.iret hx hb hr (fun t ht hW => ⟨⟨x38, T39, rfl, (Option.some.inj hM).symm, by show va_P D vwCl _ t.heap; rw [ht]; exact hP⟩, hS.F ht⟩) hS.2.2 dL_call_126
                    · replace hM := zx_f q37 hM
                      by_cases q41 : p1 = 10
                      · replace hM := zx_t q41 hM
                        refine lv_tableIn (tgt := 127) hx hb dL_call_1 (by rw [q41]; decide) (by rw [q41]; decide) (by rw [q41]; rfl) (by decide) ?_
                        refine lv_aload_n hx hb dL_call_127 rfl (lv_at hl 0 rfl) ?_
                        refine lv_iload_n hx hb dL_call_128 rfl (lv_at hl 2 rfl) ?_
                        obtain ⟨x42, T43, hz44, hM⟩ := zx_b2E hM
                        have hF := zx_fW hD hS hA
                        refine va_calli (vx_runSW (As := [.ref h, .int p2]) (rest := []) ⟨hx, hb, hml, hown, hts⟩ (c_L_tryKeep l hlt D cI cZ cT h hh aa S _ N p2 hz44) (vx_cwSW 2 hts (zg_S zw_16_21 zw_16_22 zw_3_14 zw_16_23) rfl rfl rfl zyL_tryKeep ⟨Nat.le_of_ble_eq_true rfl, Nat.le_of_ble_eq_true rfl⟩) ⟨bY_blind, bY_pre hP hK hD hN hXX hNc hS hF⟩ rfl rfl hl.1 rfl (lv_room (Nat.le_of_ble_eq_true rfl)) dL_call_129 ⟨by show kc + 1 ≤ 1; omega, by show 6 * kc + 6 ≤ 6; omega⟩) hS (fun q _ h => hF q h) (fun q h => hF q h) (fun r u t H1 lc ht hvm hw hB hz1 hk1 hS => ?_)
                        obtain ⟨hw1, hw2⟩ := Prod.mk.inj hw; subst hw1; subst hw2
                        rw [ht] at hB
                        replace hP := hB
                        replace hD := zx2_Da T43 hD
                        refine W.widen (k := (kc + 1)) (n := 6 * (kc + 1)) (by omega) (by omega) ?_
                        rw [hQ]
                        refine W.widen (k := 1) (n := 6) (by omega) (by omega) ?_
                        exact W.iret hx hb hr (fun t ht hW => ⟨⟨x42, T43, rfl, (Option.some.inj hM).symm, by show va_P D vwCl _ t.heap; rw [ht]; exact hP⟩, hS.F ht⟩) hS.2.2 dL_call_132
                      · replace hM := zx_f q41 hM
                        refine lv_tableOut (tgt := 133) hx hb dL_call_1 (zx_sw (lo := 0) (hi := 10) (by decide) (by decide) (fun k h1 h2 => by rcases (show k = 0 ∨ k = 1 ∨ k = 2 ∨ k = 3 ∨ k = 4 ∨ k = 5 ∨ k = 6 ∨ k = 7 ∨ k = 8 ∨ k = 9 ∨ k = 10 by omega) with rfl | rfl | rfl | rfl | rfl | rfl | rfl | rfl | rfl | rfl | rfl <;> assumption)) (by decide) ?_
                        refine lv_aload_n hx hb dL_call_133 rfl (lv_at hl 0 rfl) ?_
                        refine lv_iload_n hx hb dL_call_134 rfl (lv_at hl 2 rfl) ?_
                        obtain ⟨x45, T46, hz47, hM⟩ := zx_b2E hM
                        have hF := zx_fW hD hS hA
                        refine va_calli (vx_runSW (As := [.ref h, .int p2]) (rest := []) ⟨hx, hb, hml, hown, hts⟩ (c_L_tryBack l hlt D cI cZ cT h hh aa S _ N p2 hz47) (vx_cwSW 2 hts (zg_S zw_17_5 zw_17_6 zw_3_14 zw_17_7) rfl rfl rfl zyL_tryBack ⟨Nat.le_of_ble_eq_true rfl, Nat.le_of_ble_eq_true rfl⟩) ⟨bY_blind, bY_pre hP hK hD hN hXX hNc hS hF⟩ rfl rfl hl.1 rfl (lv_room (Nat.le_of_ble_eq_true rfl)) dL_call_135 ⟨by show kc + 1 ≤ 1; omega, by show 6 * kc + 6 ≤ 6; omega⟩) hS (fun q _ h => hF q h) (fun q h => hF q h) (fun r u t H1 lc ht hvm hw hB hz1 hk1 hS => ?_)
                        obtain ⟨hw1, hw2⟩ := Prod.mk.inj hw; subst hw1; subst hw2
                        rw [ht] at hB
                        replace hP := hB
                        replace hD := zx2_Da T46 hD
                        refine W.widen (k := (kc + 1)) (n := 6 * (kc + 1)) (by omega) (by omega) ?_
                        rw [hQ]
                        refine W.widen (k := 1) (n := 6) (by omega) (by omega) ?_
                        exact W.iret hx hb hr (fun t ht hW => ⟨⟨x45, T46, rfl, (Option.some.inj hM).symm, by show va_P D vwCl _ t.heap; rw [ht]; exact hP⟩, hS.F ht⟩) hS.2.2 dL_call_138

/-! the law: refuses(LShallowBoxes;I)Z -/
def f_L_refuses_j472 (N : Nat) (v1 : Int32) (v3 : Int32) (S_ : zx_B) : Option (Int32 × zx_B) :=
  (if v3 = 0 then
  some (0, S_) else
  (zx_b2 (f_L_call N 10 2 0 0 S_) (fun x2 T3 =>
(if x2 = (-9999001) then
  (zx_b2 (f_L_call N 11 (-1) 0 0 T3) (fun x6 T7 =>
(if x6 = (-9999001) then
  (zx_n (v1 - v1 / 9 * 9) (fun x10 =>
(zx_b2 (f_L_call N 0 (256 + x10) 0 0 T7) (fun x11 T12 =>
(if x11 = (-9999002) then
  (zx_b2 (f_L_tryScript N 3 0 T12) (fun x15 T16 =>
(if x15 = (-9999002) then
  (zx_b2 (f_L_tryScript N 1 (1000000000 + (Int32.toInt64 v1)) T16) (fun x19 T20 =>
(if x19 = (-9999002) then
  (zx_b2 (f_L_tryScript N 2 ((-1) - (Int32.toInt64 v1)) T20) (fun x23 T24 =>
(if x23 = (-9999002) then
  (zx_b2 (f_L_trySimulate N (Int32.toInt64 v1) 61 T24) (fun x27 T28 =>
(if x27 = (-9999002) then
  (zx_b2 (f_X2_errorPosition N T28) (fun x31 T32 =>
(if x31 = (-1) then
  some (1, T32) else
  (zx_b2 (f_L_call N 5 0 0 0 T32) (fun x35 T36 =>
(if x35 = (-9999003) then
  some (1, T36) else
  some (0, T36))))))) else
  some (0, T28)))) else
  some (0, T24)))) else
  some (0, T20)))) else
  some (0, T16)))) else
  some (0, T12)))))) else
  some (0, T7)))) else
  some (0, T3)))))
def f_L_refuses_j471 (N : Nat) (v1 : Int32) (t0 : Int32) (S_ : zx_B) : Option (Int32 × zx_B) :=
  f_L_refuses_j472 N  v1 t0 S_
def f_L_refuses_j470 (N : Nat) (v1 : Int32) (S_ : zx_B) : Option (Int32 × zx_B) :=
  f_L_refuses_j471 N  v1 0 S_
def f_L_refuses_j463 (N : Nat) (v1 : Int32) (t0 : Int32) (t1 : Int32) (S_ : zx_B) : Option (Int32 × zx_B) :=
  (if t0 = t1 then
  f_L_refuses_j471 N  v1 1 S_ else
  f_L_refuses_j470 N  v1 S_)
def f_L_refuses_j352 (N : Nat) (v1 : Int32) (t0 : Int32) (S_ : zx_B) : Option (Int32 × zx_B) :=
  (zx_n (v1 - v1 / 100 * 100) (fun x39 =>
(zx_n (v1 / 128) (fun x40 =>
(zx_n (x40 - x40 / 100 * 100) (fun x41 =>
(zx_b2 (f_L_call N 9 x39 x41 0 S_) (fun x42 T43 =>
(if x42 < 0 then
  f_L_refuses_j472 N  v1 t0 T43 else
  (if t0 = 0 then
  f_L_refuses_j470 N  v1 T43 else
  (zx_n (v1 - v1 / 9 * 9) (fun x47 =>
(zx_b2 (f_L_call N 2 x42 (5 + x47) 0 T43) (fun x48 T49 =>
(if x48 = (-9999002) then
  (zx_n (v1 - v1 / 9 * 9) (fun x52 =>
(zx_b2 (f_L_call N 7 x42 (100 + x52) 0 T49) (fun x53 T54 =>
(if x53 = (-9999002) then
  (zx_b2 (f_L_call N 2 x42 2 0 T54) (fun x58 T59 =>
(zx_b2 (f_L_call N 7 x42 (100 - x58) 0 T59) (fun x61 T62 =>
(zx_b2 (f_L_call N 2 x42 2 0 T62) (fun x64 T65 =>
(if x64 = 0 then
  f_L_refuses_j463 N  v1 x61 (-9999002) T65 else
  f_L_refuses_j463 N  v1 x61 (-9999003) T65))))))) else
  f_L_refuses_j470 N  v1 T54))))) else
  f_L_refuses_j470 N  v1 T49)))))))))))))))
def f_L_refuses_j351 (N : Nat) (v1 : Int32) (S_ : zx_B) : Option (Int32 × zx_B) :=
  f_L_refuses_j352 N  v1 0 S_
def f_L_refuses_j347 (N : Nat) (v1 : Int32) (S_ : zx_B) : Option (Int32 × zx_B) :=
  f_L_refuses_j352 N  v1 1 S_
def f_L_refuses_j174 (N : Nat) (v1 : Int32) (t0 : Int32) (S_ : zx_B) : Option (Int32 × zx_B) :=
  (if t0 = 0 then
  f_L_refuses_j351 N  v1 S_ else
  (zx_n (v1 - v1 / 9 * 9) (fun x69 =>
(zx_b2 (f_L_call N 6 ((-1) - x69) 0 0 S_) (fun x70 T71 =>
(if x70 = (-9999001) then
  (zx_b2 (f_L_call N 7 24 100 100 T71) (fun x74 T75 =>
(if x74 = (-9999001) then
  (zx_b2 (f_L_tryWindow N 0 9 0 8 T75) (fun x78 T79 =>
(if x78 = (-9999002) then
  (zx_n (v1 - v1 / 9 * 9) (fun x82 =>
(zx_b2 (f_L_tryLooks N 0 0 (100 + x82) 0 T79) (fun x83 T84 =>
(if x83 = (-9999002) then
  (zx_n (v1 - v1 / 9 * 9) (fun x87 =>
(zx_b2 (f_L_tryChosen N ((-1) - x87) 0 0 0 T84) (fun x88 T89 =>
(if x88 = (-9999002) then
  (zx_b2 (f_L_tryIfAdded N 9 0 8 0 T89) (fun x92 T93 =>
(if x92 = (-9999002) then
  (zx_n (v1 - v1 / 9 * 9) (fun x96 =>
(zx_b2 (f_L_call N 9 (100 + x96) 0 0 T93) (fun x97 T98 =>
(if x97 = (-9999002) then
  (zx_n (v1 - v1 / 9 * 9) (fun x101 =>
(zx_b2 (f_L_call N 9 0 0 ((-1) - x101) T98) (fun x102 T103 =>
(if x102 = (-9999002) then
  (zx_b2 (f_L_call N 1 0 0 0 T103) (fun x106 T107 =>
(if x106 < 24 then
  f_L_refuses_j347 N  v1 T107 else
  (zx_b2 (f_L_tryAdd N 0 0 0 0 T107) (fun x110 T111 =>
(if x110 = (-9999003) then
  f_L_refuses_j347 N  v1 T111 else
  f_L_refuses_j351 N  v1 T111)))))) else
  f_L_refuses_j351 N  v1 T103))))) else
  f_L_refuses_j351 N  v1 T98))))) else
  f_L_refuses_j351 N  v1 T93))) else
  f_L_refuses_j351 N  v1 T89))))) else
  f_L_refuses_j351 N  v1 T84))))) else
  f_L_refuses_j351 N  v1 T79))) else
  f_L_refuses_j351 N  v1 T75))) else
  f_L_refuses_j351 N  v1 T71))))))
def f_L_refuses_j173 (N : Nat) (v1 : Int32) (S_ : zx_B) : Option (Int32 × zx_B) :=
  f_L_refuses_j174 N  v1 0 S_
def f_L_refuses (N : Nat) (p1 : Int32) (S : zx_B) : Option (Int32 × zx_B) :=
  (zx_b2 (f_L_call N 1 1 0 0 S) (fun x114 T115 =>
(zx_n (p1 - p1 / 9 * 9) (fun x117 =>
(zx_b2 (f_L_call N 1 (8 + x117) 0 0 T115) (fun x118 T119 =>
(if x118 = (-9999002) then
  (zx_n (p1 - p1 / 9 * 9) (fun x122 =>
(zx_b2 (f_L_call N 2 (24 + x122) 9 0 T119) (fun x123 T124 =>
(if x123 = (-9999001) then
  (zx_n (p1 - p1 / 9 * 9) (fun x127 =>
(zx_b2 (f_L_call N 3 (x114 + x127) 9 0 T124) (fun x128 T129 =>
(if x128 = (-9999001) then
  (zx_nz x114 (
(zx_n (p1 - p1 / x114 * x114) (fun x133 =>
(zx_n (p1 - p1 / 9 * 9) (fun x134 =>
(zx_b2 (f_L_call N 3 x133 (7 + x134) 0 T129) (fun x135 T136 =>
(if x135 = (-9999002) then
  (zx_b2 (f_L_call N 4 x114 (-1) 0 T136) (fun x139 T140 =>
(if x139 = (-9999001) then
  (zx_nz x114 (
(zx_n (p1 - p1 / x114 * x114) (fun x144 =>
(zx_n (p1 - p1 / 9 * 9) (fun x145 =>
(zx_b2 (f_L_call N 4 x144 ((-1) - x145) 0 T140) (fun x146 T147 =>
(if x146 = (-9999002) then
  (zx_n (p1 - p1 / 9 * 9) (fun x150 =>
(zx_b2 (f_L_tryAdd N (100 + x150) 0 100 0 T147) (fun x151 T152 =>
(if x151 = (-9999002) then
  (zx_b2 (f_L_tryAdd N 5 5 4 9 T152) (fun x155 T156 =>
(if x155 = (-9999002) then
  (zx_b2 (f_L_tryAdd N 5 (-1) 5 9 T156) (fun x159 T160 =>
(if x159 = (-9999002) then
  f_L_refuses_j174 N  p1 1 T160 else
  f_L_refuses_j173 N  p1 T160))) else
  f_L_refuses_j173 N  p1 T156))) else
  f_L_refuses_j173 N  p1 T152))))) else
  f_L_refuses_j173 N  p1 T147))))))))) else
  f_L_refuses_j173 N  p1 T140))) else
  f_L_refuses_j173 N  p1 T136))))))))) else
  f_L_refuses_j173 N  p1 T129))))) else
  f_L_refuses_j173 N  p1 T124))))) else
  f_L_refuses_j173 N  p1 T119)))))))
abbrev rmL_refuses : Room := { frames := 9, cells := 34, slots := 204, locals := 230 }
abbrev zsL_refuses : List Cond := .code yL_refuses cL_refuses 5 (some .boolean) :: wsL_law
theorem zyL_refuses : yL_refuses.cls ≠ "java/lang/invoke/MethodHandle" ∧ yL_refuses.cls ≠ "java/lang/invoke/VarHandle" ∧ (parseMethodDescriptor yL_refuses.desc).map (fun d => d.parameters.length) = some 2 := by decide +kernel
set_option maxHeartbeats 16000000 in
set_option maxRecDepth 100000 in
theorem c_L_refuses (l : Launch) (hlt : l.stackTraces = false) (D : va_G) (cI cZ cT : ClassId) (h : Nat) (hh : Nat → Nat) (aa : Nat → Nat → Nat) (S : zx_B) (sz : Nat) (N : Nat) (p1 : Int32) {R : Int32 × zx_B} (hM : f_L_refuses N p1 S = some R) : Met l yL_refuses zsL_refuses rmL_refuses (va_Pc [.ref h, .int p1] (bY D (zx_ty cI cZ cT) (xW2 cI cT h hh aa S) sz)) (va_Qi (fun r (u : zx_B) => R = (r, u)) (fun u t => va_P D vwCl (xW2 cI cT h hh aa u) t.heap) (va_A (xW2 cI cT h hh aa S) sz)) 34 204 (va_A (xW2 cI cT h hh aa S) sz) := by
  refine Met.ofW (cc := cL_refuses) (maxL := 5) (ret := (some .boolean)) (by decide) rfl ?_
  intro p e s m args below meth c s₁ B hml hv
  obtain ⟨rfl, ⟨⟨hsz, hP, hK, hD0, hN⟩, hXX⟩, hNc⟩ := hv
  have hx := B.exec
  have hb := B.bytes
  have hr := B.returns
  have hts : ∀ w ∈ wsL_law, w.before _ s = true := fun w hw => atoms_spec (ws := zsL_refuses) B.pre w (List.mem_cons_of_mem _ hw)
  have hown : s.vm.findClass RL = some m.cls := findClass_of_methodNamed B.named
  have hlocks := B.notSynchronized
  subst hsz
  have hD := hD0.self (sz := s.heap.size)
  generalize hAe : va_A (xW2 cI cT h hh aa S) s.heap.size = A at hD hXX ⊢
  have hA : ∀ q : Nat, s.heap.size ≤ q → A q := fun q h => by rw [← hAe]; exact Or.inr h
  have hS : va_S A s.heap s.heap [] := va_S.rf
  have hl := lv_entry ([.ref h, .int p1]) (n := 5) (Nat.le_of_ble_eq_true rfl)
  rw [lg_entry_eq]
  generalize (lg_sl ([.ref h, .int p1]) ++ List.replicate (5 - (lg_sl ([.ref h, .int p1])).length) Slot.unset).toArray = ls at hl ⊢
  have hl : lv_has ls 5 [(0, .ref h), (1, .int p1)] := hl
  generalize hQ : MQ below (va_Qi (fun r (u : zx_B) => R = (r, u)) (fun u t => va_P D vwCl (xW2 cI cT h hh aa u) t.heap) A) ([.ref h, .int p1] : List Value).toArray s 34 204 A = Q9
  replace hQ := hQ.symm
  obtain ⟨kc, hkc0⟩ : ∃ kc : Nat, kc = 0 := ⟨0, rfl⟩
  have hkc : kc + 34 ≤ 34 := by omega
  refine W.widen (k := kc) (n := 6 * kc) (by omega) (by omega) ?_
  unfold f_L_refuses at hM
  have j174 : ∀ (v1 : Int32) (t0 : Int32) (S_ : zx_B) (kc : Nat) (H : Heap) (lc : List Loc) (ls : Array Slot), kc + (24) ≤ 34 → va_P D vwCl (xW2 cI cT h hh aa S_) H → va_D A (xW2 cI cT h hh aa S_) → va_S A s.heap H lc → lv_has ls 5 [(0, .ref h), (1, .int v1)] → f_L_refuses_j174 N v1 t0 S_ = some R → W p l e (headSpec zsL_refuses rmL_refuses).room s m ([.ref h, .int p1] : List Value).toArray below meth c H lc kc (6 * kc) Q9 (F0 m 174 ls [.int t0]) := by
    intro v1 t0 S_ kc H lc ls hkc hP hD hS hl hM
    unfold f_L_refuses_j174 at hM
    have j352 : ∀ (v1 : Int32) (t0 : Int32) (S_ : zx_B) (kc : Nat) (H : Heap) (lc : List Loc) (ls : Array Slot), kc + (14) ≤ 34 → va_P D vwCl (xW2 cI cT h hh aa S_) H → va_D A (xW2 cI cT h hh aa S_) → va_S A s.heap H lc → lv_has ls 5 [(0, .ref h), (1, .int v1)] → f_L_refuses_j352 N v1 t0 S_ = some R → W p l e (headSpec zsL_refuses rmL_refuses).room s m ([.ref h, .int p1] : List Value).toArray below meth c H lc kc (6 * kc) Q9 (F0 m 352 ls [.int t0]) := by
      intro v1 t0 S_ kc H lc ls hkc hP hD hS hl hM
      unfold f_L_refuses_j352 at hM
      have j472 : ∀ (v1 : Int32) (v3 : Int32) (S_ : zx_B) (kc : Nat) (H : Heap) (lc : List Loc) (ls : Array Slot), kc + (8) ≤ 34 → va_P D vwCl (xW2 cI cT h hh aa S_) H → va_D A (xW2 cI cT h hh aa S_) → va_S A s.heap H lc → lv_has ls 5 [(0, .ref h), (1, .int v1), (3, .int v3)] → f_L_refuses_j472 N v1 v3 S_ = some R → W p l e (headSpec zsL_refuses rmL_refuses).room s m ([.ref h, .int p1] : List Value).toArray below meth c H lc kc (6 * kc) Q9 (F0 m 472 ls []) := by
        intro v1 v3 S_ kc H lc ls hkc hP hD hS hl hM
        unfold f_L_refuses_j472 at hM
        refine lv_iload_n hx hb dL_refuses_472 rfl (lv_at hl 2 rfl) ?_
        refine lv_if_eq (tgt := 605) hx hb dL_refuses_473 (by decide) (fun q1 => ?_) (fun q1 => ?_)
        · replace hM := zx_t q1 hM
          refine lv_iconst (v := 0) hx hb dL_refuses_605 (by decide) ?_
          rw [hQ]
          refine W.widen (k := 34) (n := 204) (by omega) (by omega) ?_
          exact W.zret hx hb hr (by rfl) (fun t ht hW => ⟨⟨0, S_, rfl, (Option.some.inj hM).symm, by show va_P D vwCl _ t.heap; rw [ht]; exact hP⟩, hS.F ht⟩) hS.2.2 dL_refuses_606
        · replace hM := zx_f q1 hM
          refine lv_aload_n hx hb dL_refuses_476 rfl (lv_at hl 0 rfl) ?_
          refine lv_bipush (v := 10) hx hb dL_refuses_477 (by decide) ?_
          refine lv_iconst (v := 2) hx hb dL_refuses_479 (by decide) ?_
          refine lv_iconst (v := 0) hx hb dL_refuses_480 (by decide) ?_
          refine lv_iconst (v := 0) hx hb dL_refuses_481 (by decide) ?_
          obtain ⟨x2, T3, hz4, hM⟩ := zx_b2E hM
          have hF := zx_fW hD hS hA
          refine va_calli (va_runS (As := [.ref h, .int 10, .int 2, .int 0, .int 0]) (rest := []) ⟨hx, hb, hml, hown, hts⟩ (c_L_call l hlt D cI cZ cT h hh aa S_ _ N 10 2 0 0 hz4) (va_cwS 5 hts (zg_S zw_4_2 zw_4_3 zw_3_14 zw_4_4) rfl rfl rfl zyL_call ⟨Nat.le_of_ble_eq_true rfl, Nat.le_of_ble_eq_true rfl⟩) ⟨bY_blind, bY_pre hP hK hD hN hXX hNc hS hF⟩ rfl rfl hl.1 rfl (lv_room (Nat.le_of_ble_eq_true rfl)) dL_refuses_482 ⟨by show kc + 1 ≤ 34; omega, by show 6 * kc + 6 ≤ 204; omega⟩) hS (fun q _ h => hF q h) (fun q h => hF q h) (fun r u t H1 lc ht hvm hw hB hz1 hk1 hS => ?_)
          obtain ⟨hw1, hw2⟩ := Prod.mk.inj hw; subst hw1; subst hw2
          rw [ht] at hB
          replace hP := hB
          replace hD := zx2_Da T3 hD
          refine W.widen (k := (kc + 1)) (n := 6 * (kc + 1)) (by omega) (by omega) ?_
          refine lv_ldc (v := (-9999001)) hx hb hown (hts _ zw_3_22) dL_refuses_485 ?_
          refine lv_icmp_ne (tgt := 605) hx hb dL_refuses_487 (by decide) (fun q5 => ?_) (fun q5 => ?_)
          · replace hM := zx_f q5 hM
            refine lv_iconst (v := 0) hx hb dL_refuses_605 (by decide) ?_
            rw [hQ]
            refine W.widen (k := 34) (n := 204) (by omega) (by omega) ?_
            exact W.zret hx hb hr (by rfl) (fun t ht hW => ⟨⟨0, T3, rfl, (Option.some.inj hM).symm, by show va_P D vwCl _ t.heap; rw [ht]; exact hP⟩, hS.F ht⟩) hS.2.2 dL_refuses_606
          · replace hM := zx_t q5 hM
            refine lv_aload_n hx hb dL_refuses_490 rfl (lv_at hl 0 rfl) ?_
            refine lv_bipush (v := 11) hx hb dL_refuses_491 (by decide) ?_
            refine lv_iconst (v := (-1)) hx hb dL_refuses_493 (by decide) ?_
            refine lv_iconst (v := 0) hx hb dL_refuses_494 (by decide) ?_
            refine lv_iconst (v := 0) hx hb dL_refuses_495 (by decide) ?_
            obtain ⟨x6, T7, hz8, hM⟩ := zx_b2E hM
            have hF := zx_fW hD hS hA
            refine va_calli (va_runS (As := [.ref h, .int 11, .int (-1), .int 0, .int 0]) (rest := []) ⟨hx, hb, hml, hown, hts⟩ (c_L_call l hlt D cI cZ cT h hh aa T3 _ N 11 (-1) 0 0 hz8) (va_cwS 5 hts (zg_S zw_4_2 zw_4_3 zw_3_14 zw_4_4) rfl rfl rfl zyL_call ⟨Nat.le_of_ble_eq_true rfl, Nat.le_of_ble_eq_true rfl⟩) ⟨bY_blind, bY_pre hP hK hD hN hXX hNc hS hF⟩ rfl rfl hl.1 rfl (lv_room (Nat.le_of_ble_eq_true rfl)) dL_refuses_496 ⟨by show (kc + 1) + 1 ≤ 34; omega, by show 6 * (kc + 1) + 6 ≤ 204; omega⟩) hS (fun q _ h => hF q h) (fun q h => hF q h) (fun r u t H1 lc ht hvm hw hB hz1 hk1 hS => ?_)
            obtain ⟨hw1, hw2⟩ := Prod.mk.inj hw; subst hw1; subst hw2
            rw [ht] at hB
            replace hP := hB
            replace hD := zx2_Da T7 hD
            refine W.widen (k := (kc + 2)) (n := 6 * (kc + 2)) (by omega) (by omega) ?_
            refine lv_ldc (v := (-9999001)) hx hb hown (hts _ zw_3_22) dL_refuses_499 ?_
            refine lv_icmp_ne (tgt := 605) hx hb dL_refuses_501 (by decide) (fun q9 => ?_) (fun q9 => ?_)
            · replace hM := zx_f q9 hM
              refine lv_iconst (v := 0) hx hb dL_refuses_605 (by decide) ?_
              rw [hQ]
              refine W.widen (k := 34) (n := 204) (by omega) (by omega) ?_
              exact W.zret hx hb hr (by rfl) (fun t ht hW => ⟨⟨0, T7, rfl, (Option.some.inj hM).symm, by show va_P D vwCl _ t.heap; rw [ht]; exact hP⟩, hS.F ht⟩) hS.2.2 dL_refuses_606
            · replace hM := zx_t q9 hM
              refine lv_aload_n hx hb dL_refuses_504 rfl (lv_at hl 0 rfl) ?_
              refine lv_iconst (v := 0) hx hb dL_refuses_505 (by decide) ?_
              refine lv_sipush (v := 256) hx hb dL_refuses_506 (by decide) ?_
              refine lv_iload_n hx hb dL_refuses_509 rfl (lv_at hl 1 rfl) ?_
              refine lv_bipush (v := 9) hx hb dL_refuses_510 (by decide) ?_
              refine lv_irem hx hb dL_refuses_512 (by decide) ?_
              obtain ⟨x10, ex10, hM⟩ := zx_nE hM
              refine zx_top ex10 ?_
              refine lv_iadd hx hb dL_refuses_513 ?_
              refine lv_iconst (v := 0) hx hb dL_refuses_514 (by decide) ?_
              refine lv_iconst (v := 0) hx hb dL_refuses_515 (by decide) ?_
              obtain ⟨x11, T12, hz13, hM⟩ := zx_b2E hM
              have hF := zx_fW hD hS hA
              refine va_calli (va_runS (As := [.ref h, .int 0, .int (256 + x10), .int 0, .int 0]) (rest := []) ⟨hx, hb, hml, hown, hts⟩ (c_L_call l hlt D cI cZ cT h hh aa T7 _ N 0 (256 + x10) 0 0 hz13) (va_cwS 5 hts (zg_S zw_4_2 zw_4_3 zw_3_14 zw_4_4) rfl rfl rfl zyL_call ⟨Nat.le_of_ble_eq_true rfl, Nat.le_of_ble_eq_true rfl⟩) ⟨bY_blind, bY_pre hP hK hD hN hXX hNc hS hF⟩ rfl rfl hl.1 rfl (lv_room (Nat.le_of_ble_eq_true rfl)) dL_refuses_516 ⟨by show (kc + 2) + 1 ≤ 34; omega, by show 6 * (kc + 2) + 6 ≤ 204; omega⟩) hS (fun q _ h => hF q h) (fun q h => hF q h) (fun r u t H1 lc ht hvm hw hB hz1 hk1 hS => ?_)
              obtain ⟨hw1, hw2⟩ := Prod.mk.inj hw; subst hw1; subst hw2
              rw [ht] at hB
              replace hP := hB
              replace hD := zx2_Da T12 hD
              refine W.widen (k := (kc + 3)) (n := 6 * (kc + 3)) (by omega) (by omega) ?_
              refine lv_ldc (v := (-9999002)) hx hb hown (hts _ zw_3_21) dL_refuses_519 ?_
              refine lv_icmp_ne (tgt := 605) hx hb dL_refuses_521 (by decide) (fun q14 => ?_) (fun q14 => ?_)
              · replace hM := zx_f q14 hM
                refine lv_iconst (v := 0) hx hb dL_refuses_605 (by decide) ?_
                rw [hQ]
                refine W.widen (k := 34) (n := 204) (by omega) (by omega) ?_
                exact W.zret hx hb hr (by rfl) (fun t ht hW => ⟨⟨0, T12, rfl, (Option.some.inj hM).symm, by show va_P D vwCl _ t.heap; rw [ht]; exact hP⟩, hS.F ht⟩) hS.2.2 dL_refuses_606
              · replace hM := zx_t q14 hM
                refine lv_aload_n hx hb dL_refuses_524 rfl (lv_at hl 0 rfl) ?_
                refine lv_iconst (v := 3) hx hb dL_refuses_525 (by decide) ?_
                refine lv_lconst (v := 0) hx hb dL_refuses_526 (by decide) ?_
                obtain ⟨x15, T16, hz17, hM⟩ := zx_b2E hM
                have hF := zx_fW hD hS hA
                refine va_calli (vx_runSW (As := [.ref h, .int 3, .long 0]) (rest := []) ⟨hx, hb, hml, hown, hts⟩ (c_L_tryScript l hlt D cI cZ cT h hh aa T12 _ N 3 0 hz17) (vx_cwSW 3 hts (zg_S zw_19_12 zw_19_13 zw_3_14 zw_19_14) rfl rfl rfl zyL_tryScript ⟨Nat.le_of_ble_eq_true rfl, Nat.le_of_ble_eq_true rfl⟩) ⟨bY_blind, bY_pre hP hK hD hN hXX hNc hS hF⟩ rfl rfl hl.1 rfl (lv_room (Nat.le_of_ble_eq_true rfl)) dL_refuses_527 ⟨by show (kc + 3) + 1 ≤ 34; omega, by show 6 * (kc + 3) + 6 ≤ 204; omega⟩) hS (fun q _ h => hF q h) (fun q h => hF q h) (fun r u t H1 lc ht hvm hw hB hz1 hk1 hS => ?_)
                obtain ⟨hw1, hw2⟩ := Prod.mk.inj hw; subst hw1; subst hw2
                rw [ht] at hB
                replace hP := hB
                replace hD := zx2_Da T16 hD
                refine W.widen (k := (kc + 4)) (n := 6 * (kc + 4)) (by omega) (by omega) ?_
                refine lv_ldc (v := (-9999002)) hx hb hown (hts _ zw_3_21) dL_refuses_530 ?_
                refine lv_icmp_ne (tgt := 605) hx hb dL_refuses_532 (by decide) (fun q18 => ?_) (fun q18 => ?_)
                · replace hM := zx_f q18 hM
                  refine lv_iconst (v := 0) hx hb dL_refuses_605 (by decide) ?_
                  rw [hQ]
                  refine W.widen (k := 34) (n := 204) (by omega) (by omega) ?_
                  exact W.zret hx hb hr (by rfl) (fun t ht hW => ⟨⟨0, T16, rfl, (Option.some.inj hM).symm, by show va_P D vwCl _ t.heap; rw [ht]; exact hP⟩, hS.F ht⟩) hS.2.2 dL_refuses_606
                · replace hM := zx_t q18 hM
                  refine lv_aload_n hx hb dL_refuses_535 rfl (lv_at hl 0 rfl) ?_
                  refine lv_iconst (v := 1) hx hb dL_refuses_536 (by decide) ?_
                  refine lv_ldc2 (v := 1000000000) hx hb hown (hts _ zw_4_0) dL_refuses_537 ?_
                  refine lv_iload_n hx hb dL_refuses_540 rfl (lv_at hl 1 rfl) ?_
                  refine lv_i2l hx hb dL_refuses_541 rfl ?_
                  refine lv_ladd hx hb dL_refuses_542 ?_
                  obtain ⟨x19, T20, hz21, hM⟩ := zx_b2E hM
                  have hF := zx_fW hD hS hA
                  refine va_calli (vx_runSW (As := [.ref h, .int 1, .long (1000000000 + (Int32.toInt64 v1))]) (rest := []) ⟨hx, hb, hml, hown, hts⟩ (c_L_tryScript l hlt D cI cZ cT h hh aa T16 _ N 1 (1000000000 + (Int32.toInt64 v1)) hz21) (vx_cwSW 3 hts (zg_S zw_19_12 zw_19_13 zw_3_14 zw_19_14) rfl rfl rfl zyL_tryScript ⟨Nat.le_of_ble_eq_true rfl, Nat.le_of_ble_eq_true rfl⟩) ⟨bY_blind, bY_pre hP hK hD hN hXX hNc hS hF⟩ rfl rfl hl.1 rfl (lv_room (Nat.le_of_ble_eq_true rfl)) dL_refuses_543 ⟨by show (kc + 4) + 1 ≤ 34; omega, by show 6 * (kc + 4) + 6 ≤ 204; omega⟩) hS (fun q _ h => hF q h) (fun q h => hF q h) (fun r u t H1 lc ht hvm hw hB hz1 hk1 hS => ?_)
                  obtain ⟨hw1, hw2⟩ := Prod.mk.inj hw; subst hw1; subst hw2
                  rw [ht] at hB
                  replace hP := hB
                  replace hD := zx2_Da T20 hD
                  refine W.widen (k := (kc + 5)) (n := 6 * (kc + 5)) (by omega) (by omega) ?_
                  refine lv_ldc (v := (-9999002)) hx hb hown (hts _ zw_3_21) dL_refuses_546 ?_
                  refine lv_icmp_ne (tgt := 605) hx hb dL_refuses_548 (by decide) (fun q22 => ?_) (fun q22 => ?_)
                  · replace hM := zx_f q22 hM
                    refine lv_iconst (v := 0) hx hb dL_refuses_605 (by decide) ?_
                    rw [hQ]
                    refine W.widen (k := 34) (n := 204) (by omega) (by omega) ?_
                    exact W.zret hx hb hr (by rfl) (fun t ht hW => ⟨⟨0, T20, rfl, (Option.some.inj hM).symm, by show va_P D vwCl _ t.heap; rw [ht]; exact hP⟩, hS.F ht⟩) hS.2.2 dL_refuses_606
                  · replace hM := zx_t q22 hM
                    refine lv_aload_n hx hb dL_refuses_551 rfl (lv_at hl 0 rfl) ?_
                    refine lv_iconst (v := 2) hx hb dL_refuses_552 (by decide) ?_
                    refine lv_ldc2 (v := (-1)) hx hb hown (hts _ zw_4_1) dL_refuses_553 ?_
                    refine lv_iload_n hx hb dL_refuses_556 rfl (lv_at hl 1 rfl) ?_
                    refine lv_i2l hx hb dL_refuses_557 rfl ?_
                    refine lv_lsub hx hb dL_refuses_558 ?_
                    obtain ⟨x23, T24, hz25, hM⟩ := zx_b2E hM
                    have hF := zx_fW hD hS hA
                    refine va_calli (vx_runSW (As := [.ref h, .int 2, .long ((-1) - (Int32.toInt64 v1))]) (rest := []) ⟨hx, hb, hml, hown, hts⟩ (c_L_tryScript l hlt D cI cZ cT h hh aa T20 _ N 2 ((-1) - (Int32.toInt64 v1)) hz25) (vx_cwSW 3 hts (zg_S zw_19_12 zw_19_13 zw_3_14 zw_19_14) rfl rfl rfl zyL_tryScript ⟨Nat.le_of_ble_eq_true rfl, Nat.le_of_ble_eq_true rfl⟩) ⟨bY_blind, bY_pre hP hK hD hN hXX hNc hS hF⟩ rfl rfl hl.1 rfl (lv_room (Nat.le_of_ble_eq_true rfl)) dL_refuses_559 ⟨by show (kc + 5) + 1 ≤ 34; omega, by show 6 * (kc + 5) + 6 ≤ 204; omega⟩) hS (fun q _ h => hF q h) (fun q h => hF q h) (fun r u t H1 lc ht hvm hw hB hz1 hk1 hS => ?_)
                    obtain ⟨hw1, hw2⟩ := Prod.mk.inj hw; subst hw1; subst hw2
                    rw [ht] at hB
                    replace hP := hB
                    replace hD := zx2_Da T24 hD
                    refine W.widen (k := (kc + 6)) (n := 6 * (kc + 6)) (by omega) (by omega) ?_
                    refine lv_ldc (v := (-9999002)) hx hb hown (hts _ zw_3_21) dL_refuses_562 ?_
                    refine lv_icmp_ne (tgt := 605) hx hb dL_refuses_564 (by decide) (fun q26 => ?_) (fun q26 => ?_)
                    · replace hM := zx_f q26 hM
                      refine lv_iconst (v := 0) hx hb dL_refuses_605 (by decide) ?_
                      rw [hQ]
                      refine W.widen (k := 34) (n := 204) (by omega) (by omega) ?_
                      exact W.zret hx hb hr (by rfl) (fun t ht hW => ⟨⟨0, T24, rfl, (Option.some.inj hM).symm, by show va_P D vwCl _ t.heap; rw [ht]; exact hP⟩, hS.F ht⟩) hS.2.2 dL_refuses_606
                    · replace hM := zx_t q26 hM
                      refine lv_aload_n hx hb dL_refuses_567 rfl (lv_at hl 0 rfl) ?_
                      refine lv_iload_n hx hb dL_refuses_568 rfl (lv_at hl 1 rfl) ?_
                      refine lv_i2l hx hb dL_refuses_569 rfl ?_
                      refine lv_bipush (v := 61) hx hb dL_refuses_570 (by decide) ?_
                      obtain ⟨x27, T28, hz29, hM⟩ := zx_b2E hM
                      have hF := zx_fW hD hS hA
                      refine va_calli (vx_runSW (As := [.ref h, .long (Int32.toInt64 v1), .int 61]) (rest := []) ⟨hx, hb, hml, hown, hts⟩ (c_L_trySimulate l hlt D cI cZ cT h hh aa T24 _ N (Int32.toInt64 v1) 61 hz29) (vx_cwSW 3 hts (zg_S zw_20_8 zw_20_9 zw_3_14 zw_20_10) rfl rfl rfl zyL_trySimulate ⟨Nat.le_of_ble_eq_true rfl, Nat.le_of_ble_eq_true rfl⟩) ⟨bY_blind, bY_pre hP hK hD hN hXX hNc hS hF⟩ rfl rfl hl.1 rfl (lv_room (Nat.le_of_ble_eq_true rfl)) dL_refuses_572 ⟨by show (kc + 6) + 1 ≤ 34; omega, by show 6 * (kc + 6) + 6 ≤ 204; omega⟩) hS (fun q _ h => hF q h) (fun q h => hF q h) (fun r u t H1 lc ht hvm hw hB hz1 hk1 hS => ?_)
                      obtain ⟨hw1, hw2⟩ := Prod.mk.inj hw; subst hw1; subst hw2
                      rw [ht] at hB
                      replace hP := hB
                      replace hD := zx2_Da T28 hD
                      refine W.widen (k := (kc + 7)) (n := 6 * (kc + 7)) (by omega) (by omega) ?_
                      refine lv_ldc (v := (-9999002)) hx hb hown (hts _ zw_3_21) dL_refuses_575 ?_
                      refine lv_icmp_ne (tgt := 605) hx hb dL_refuses_577 (by decide) (fun q30 => ?_) (fun q30 => ?_)
                      · replace hM := zx_f q30 hM
                        refine lv_iconst (v := 0) hx hb dL_refuses_605 (by decide) ?_
                        rw [hQ]
                        refine W.widen (k := 34) (n := 204) (by omega) (by omega) ?_
                        exact W.zret hx hb hr (by rfl) (fun t ht hW => ⟨⟨0, T28, rfl, (Option.some.inj hM).symm, by show va_P D vwCl _ t.heap; rw [ht]; exact hP⟩, hS.F ht⟩) hS.2.2 dL_refuses_606
                      · replace hM := zx_t q30 hM
                        refine lv_aload_n hx hb dL_refuses_580 rfl (lv_at hl 0 rfl) ?_
                        obtain ⟨x31, T32, hz33, hM⟩ := zx_b2E hM
                        have hF := zx_fW hD hS hA
                        refine va_calli (va_runV (As := []) (rest := []) ⟨hx, hb, hml, hown, hts⟩ (c_X2_errorPosition l D cI cZ cT h hh aa T28 _ N hz33) (cwV 0 hts (zg_V zw_20_23 zw_21_0 zw_21_1 zw_1_2 zw_21_2) rfl rfl rfl ⟨rfl, zyX2_errorPosition⟩ ⟨Nat.le_of_ble_eq_true rfl, Nat.le_of_ble_eq_true rfl⟩) ⟨bS_blind, va_recv hK hP (ci := 2) (q0 := 0) rfl rfl, bS_pre hP hK hD hN⟩ rfl rfl hl.1 rfl (lv_room (Nat.le_of_ble_eq_true rfl)) dL_refuses_581 ⟨by show (kc + 7) + 0 ≤ 34; omega, by show 6 * (kc + 7) + 0 ≤ 204; omega⟩) hS (fun q _ h => hF q h) (fun q h => hF q h) (fun r u t H1 lc ht hvm hw hB hz1 hk1 hS => ?_)
                        obtain ⟨hw1, hw2⟩ := Prod.mk.inj hw; subst hw1; subst hw2
                        rw [ht] at hB
                        replace hP := hB
                        replace hD := zx2_Da T32 hD
                        refine W.widen (k := (kc + 7)) (n := 6 * (kc + 7)) (by omega) (by omega) ?_
                        refine lv_iconst (v := (-1)) hx hb dL_refuses_584 (by decide) ?_
                        refine lv_icmp_eq (tgt := 601) hx hb dL_refuses_585 (by decide) (fun q34 => ?_) (fun q34 => ?_)
                        · replace hM := zx_t q34 hM
                          refine lv_iconst (v := 1) hx hb dL_refuses_601 (by decide) ?_
                          refine lv_goto (tgt := 606) hx hb dL_refuses_602 (by decide) ?_
                          rw [hQ]
                          refine W.widen (k := 34) (n := 204) (by omega) (by omega) ?_
                          exact W.zret hx hb hr (by rfl) (fun t ht hW => ⟨⟨1, T32, rfl, (Option.some.inj hM).symm, by show va_P D vwCl _ t.heap; rw [ht]; exact hP⟩, hS.F ht⟩) hS.2.2 dL_refuses_606
                        · replace hM := zx_f q34 hM
                          refine lv_aload_n hx hb dL_refuses_588 rfl (lv_at hl 0 rfl) ?_
                          refine lv_iconst (v := 5) hx hb dL_refuses_589 (by decide) ?_
                          refine lv_iconst (v := 0) hx hb dL_refuses_590 (by decide) ?_
                          refine lv_iconst (v := 0) hx hb dL_refuses_591 (by decide) ?_
                          refine lv_iconst (v := 0) hx hb dL_refuses_592 (by decide) ?_
                          obtain ⟨x35, T36, hz37, hM⟩ := zx_b2E hM
                          have hF := zx_fW hD hS hA
                          refine va_calli (va_runS (As := [.ref h, .int 5, .int 0, .int 0, .int 0]) (rest := []) ⟨hx, hb, hml, hown, hts⟩ (c_L_call l hlt D cI cZ cT h hh aa T32 _ N 5 0 0 0 hz37) (va_cwS 5 hts (zg_S zw_4_2 zw_4_3 zw_3_14 zw_4_4) rfl rfl rfl zyL_call ⟨Nat.le_of_ble_eq_true rfl, Nat.le_of_ble_eq_true rfl⟩) ⟨bY_blind, bY_pre hP hK hD hN hXX hNc hS hF⟩ rfl rfl hl.1 rfl (lv_room (Nat.le_of_ble_eq_true rfl)) dL_refuses_593 ⟨by show (kc + 7) + 1 ≤ 34; omega, by show 6 * (kc + 7) + 6 ≤ 204; omega⟩) hS (fun q _ h => hF q h) (fun q h => hF q h) (fun r u t H1 lc ht hvm hw hB hz1 hk1 hS => ?_)
                          obtain ⟨hw1, hw2⟩ := Prod.mk.inj hw; subst hw1; subst hw2
                          rw [ht] at hB
                          replace hP := hB
                          replace hD := zx2_Da T36 hD
                          refine W.widen (k := (kc + 8)) (n := 6 * (kc + 8)) (by omega) (by omega) ?_
                          refine lv_ldc (v := (-9999003)) hx hb hown (hts _ zw_3_23) dL_refuses_596 ?_
                          refine lv_icmp_ne (tgt := 605) hx hb dL_refuses_598 (by decide) (fun q38 => ?_) (fun q38 => ?_)
                          · replace hM := zx_f q38 hM
                            refine lv_iconst (v := 0) hx hb dL_refuses_605 (by decide) ?_
                            rw [hQ]
                            refine W.widen (k := 34) (n := 204) (by omega) (by omega) ?_
                            exact W.zret hx hb hr (by rfl) (fun t ht hW => ⟨⟨0, T36, rfl, (Option.some.inj hM).symm, by show va_P D vwCl _ t.heap; rw [ht]; exact hP⟩, hS.F ht⟩) hS.2.2 dL_refuses_606
                          · replace hM := zx_t q38 hM
                            refine lv_iconst (v := 1) hx hb dL_refuses_601 (by decide) ?_
                            refine lv_goto (tgt := 606) hx hb dL_refuses_602 (by decide) ?_
                            rw [hQ]
                            refine W.widen (k := 34) (n := 204) (by omega) (by omega) ?_
                            exact W.zret hx hb hr (by rfl) (fun t ht hW => ⟨⟨1, T36, rfl, (Option.some.inj hM).symm, by show va_P D vwCl _ t.heap; rw [ht]; exact hP⟩, hS.F ht⟩) hS.2.2 dL_refuses_606
      refine lv_istore_n (lv' := [(3, .int t0), (0, .ref h), (1, .int v1)]) hx hb dL_refuses_352 rfl hl (by decide) rfl (fun ls hl => ?_)
      refine lv_aload_n hx hb dL_refuses_353 rfl (lv_at hl 1 rfl) ?_
      refine lv_bipush (v := 9) hx hb dL_refuses_354 (by decide) ?_
      refine lv_iload_n hx hb dL_refuses_356 rfl (lv_at hl 2 rfl) ?_
      refine lv_bipush (v := 100) hx hb dL_refuses_357 (by decide) ?_
      refine lv_irem hx hb dL_refuses_359 (by decide) ?_
      obtain ⟨x39, ex39, hM⟩ := zx_nE hM
      refine zx_top ex39 ?_
      refine lv_iload_n hx hb dL_refuses_360 rfl (lv_at hl 2 rfl) ?_
      refine lv_sipush (v := 128) hx hb dL_refuses_361 (by decide) ?_
      refine lv_idiv hx hb dL_refuses_364 (by decide) ?_
      obtain ⟨x40, ex40, hM⟩ := zx_nE hM
      refine zx_top ex40 ?_
      refine lv_bipush (v := 100) hx hb dL_refuses_365 (by decide) ?_
      refine lv_irem hx hb dL_refuses_367 (by decide) ?_
      obtain ⟨x41, ex41, hM⟩ := zx_nE hM
      refine zx_top ex41 ?_
      refine lv_iconst (v := 0) hx hb dL_refuses_368 (by decide) ?_
      obtain ⟨x42, T43, hz44, hM⟩ := zx_b2E hM
      have hF := zx_fW hD hS hA
      refine va_calli (va_runS (As := [.ref h, .int 9, .int x39, .int x41, .int 0]) (rest := []) ⟨hx, hb, hml, hown, hts⟩ (c_L_call l hlt D cI cZ cT h hh aa S_ _ N 9 x39 x41 0 hz44) (va_cwS 5 hts (zg_S zw_4_2 zw_4_3 zw_3_14 zw_4_4) rfl rfl rfl zyL_call ⟨Nat.le_of_ble_eq_true rfl, Nat.le_of_ble_eq_true rfl⟩) ⟨bY_blind, bY_pre hP hK hD hN hXX hNc hS hF⟩ rfl rfl hl.1 rfl (lv_room (Nat.le_of_ble_eq_true rfl)) dL_refuses_369 ⟨by show kc + 1 ≤ 34; omega, by show 6 * kc + 6 ≤ 204; omega⟩) hS (fun q _ h => hF q h) (fun q h => hF q h) (fun r u t H1 lc ht hvm hw hB hz1 hk1 hS => ?_)
      obtain ⟨hw1, hw2⟩ := Prod.mk.inj hw; subst hw1; subst hw2
      rw [ht] at hB
      replace hP := hB
      replace hD := zx2_Da T43 hD
      refine W.widen (k := (kc + 1)) (n := 6 * (kc + 1)) (by omega) (by omega) ?_
      refine lv_istore (lv' := [(4, .int x42), (3, .int t0), (0, .ref h), (1, .int v1)]) hx hb dL_refuses_372 hl (by decide) rfl (fun ls hl => ?_)
      refine lv_iload hx hb dL_refuses_374 (lv_at hl 0 rfl) ?_
      refine lv_if_lt (tgt := 472) hx hb dL_refuses_376 (by decide) (fun q45 => ?_) (fun q45 => ?_)
      · replace hM := zx_t q45 hM
        exact j472 v1 t0 T43 (kc + 1) _ _ _ (by omega) hP hD hS (lv_sub hl [2, 3, 1] rfl) hM
      · replace hM := zx_f q45 hM
        have j471 : ∀ (v1 : Int32) (t0 : Int32) (S_ : zx_B) (kc : Nat) (H : Heap) (lc : List Loc) (ls : Array Slot), kc + (8) ≤ 34 → va_P D vwCl (xW2 cI cT h hh aa S_) H → va_D A (xW2 cI cT h hh aa S_) → va_S A s.heap H lc → lv_has ls 5 [(0, .ref h), (1, .int v1)] → f_L_refuses_j471 N v1 t0 S_ = some R → W p l e (headSpec zsL_refuses rmL_refuses).room s m ([.ref h, .int p1] : List Value).toArray below meth c H lc kc (6 * kc) Q9 (F0 m 471 ls [.int t0]) := by
          intro v1 t0 S_ kc H lc ls hkc hP hD hS hl hM
          unfold f_L_refuses_j471 at hM
          refine lv_istore_n (lv' := [(3, .int t0), (0, .ref h), (1, .int v1)]) hx hb dL_refuses_471 rfl hl (by decide) rfl (fun ls hl => ?_)
          exact j472 v1 t0 S_ kc _ _ _ (by omega) hP hD hS (lv_sub hl [1, 2, 0] rfl) hM
        have j470 : ∀ (v1 : Int32) (S_ : zx_B) (kc : Nat) (H : Heap) (lc : List Loc) (ls : Array Slot), kc + (8) ≤ 34 → va_P D vwCl (xW2 cI cT h hh aa S_) H → va_D A (xW2 cI cT h hh aa S_) → va_S A s.heap H lc → lv_has ls 5 [(0, .ref h), (1, .int v1)] → f_L_refuses_j470 N v1 S_ = some R → W p l e (headSpec zsL_refuses rmL_refuses).room s m ([.ref h, .int p1] : List Value).toArray below meth c H lc kc (6 * kc) Q9 (F0 m 470 ls []) := by
          intro v1 S_ kc H lc ls hkc hP hD hS hl hM
          unfold f_L_refuses_j470 at hM
          refine lv_iconst (v := 0) hx hb dL_refuses_470 (by decide) ?_
          exact j471 v1 0 S_ kc _ _ _ (by omega) hP hD hS (lv_sub hl [0, 1] rfl) hM
        refine lv_iload_n hx hb dL_refuses_379 rfl (lv_at hl 1 rfl) ?_
        refine lv_if_eq (tgt := 470) hx hb dL_refuses_380 (by decide) (fun q46 => ?_) (fun q46 => ?_)
        · replace hM := zx_t q46 hM
          exact j470 v1 T43 (kc + 1) _ _ _ (by omega) hP hD hS (lv_sub hl [2, 3] rfl) hM
        · replace hM := zx_f q46 hM
          refine lv_aload_n hx hb dL_refuses_383 rfl (lv_at hl 2 rfl) ?_
          refine lv_iconst (v := 2) hx hb dL_refuses_384 (by decide) ?_
          refine lv_iload hx hb dL_refuses_385 (lv_at hl 0 rfl) ?_
          refine lv_iconst (v := 5) hx hb dL_refuses_387 (by decide) ?_
          refine lv_iload_n hx hb dL_refuses_388 rfl (lv_at hl 3 rfl) ?_
          refine lv_bipush (v := 9) hx hb dL_refuses_389 (by decide) ?_
          refine lv_irem hx hb dL_refuses_391 (by decide) ?_
          obtain ⟨x47, ex47, hM⟩ := zx_nE hM
          refine zx_top ex47 ?_
          refine lv_iadd hx hb dL_refuses_392 ?_
          refine lv_iconst (v := 0) hx hb dL_refuses_393 (by decide) ?_
          obtain ⟨x48, T49, hz50, hM⟩ := zx_b2E hM
          have hF := zx_fW hD hS hA
          refine va_calli (va_runS (As := [.ref h, .int 2, .int x42, .int (5 + x47), .int 0]) (rest := []) ⟨hx, hb, hml, hown, hts⟩ (c_L_call l hlt D cI cZ cT h hh aa T43 _ N 2 x42 (5 + x47) 0 hz50) (va_cwS 5 hts (zg_S zw_4_2 zw_4_3 zw_3_14 zw_4_4) rfl rfl rfl zyL_call ⟨Nat.le_of_ble_eq_true rfl, Nat.le_of_ble_eq_true rfl⟩) ⟨bY_blind, bY_pre hP hK hD hN hXX hNc hS hF⟩ rfl rfl hl.1 rfl (lv_room (Nat.le_of_ble_eq_true rfl)) dL_refuses_394 ⟨by show (kc + 1) + 1 ≤ 34; omega, by show 6 * (kc + 1) + 6 ≤ 204; omega⟩) hS (fun q _ h => hF q h) (fun q h => hF q h) (fun r u t H1 lc ht hvm hw hB hz1 hk1 hS => ?_)
          obtain ⟨hw1, hw2⟩ := Prod.mk.inj hw; subst hw1; subst hw2
          rw [ht] at hB
          replace hP := hB
          replace hD := zx2_Da T49 hD
          refine W.widen (k := (kc + 2)) (n := 6 * (kc + 2)) (by omega) (by omega) ?_
          refine lv_ldc (v := (-9999002)) hx hb hown (hts _ zw_3_21) dL_refuses_397 ?_
          refine lv_icmp_ne (tgt := 470) hx hb dL_refuses_399 (by decide) (fun q51 => ?_) (fun q51 => ?_)
          · replace hM := zx_f q51 hM
            exact j470 v1 T49 (kc + 2) _ _ _ (by omega) hP hD hS (lv_sub hl [2, 3] rfl) hM
          · replace hM := zx_t q51 hM
            refine lv_aload_n hx hb dL_refuses_402 rfl (lv_at hl 2 rfl) ?_
            refine lv_bipush (v := 7) hx hb dL_refuses_403 (by decide) ?_
            refine lv_iload hx hb dL_refuses_405 (lv_at hl 0 rfl) ?_
            refine lv_bipush (v := 100) hx hb dL_refuses_407 (by decide) ?_
            refine lv_iload_n hx hb dL_refuses_409 rfl (lv_at hl 3 rfl) ?_
            refine lv_bipush (v := 9) hx hb dL_refuses_410 (by decide) ?_
            refine lv_irem hx hb dL_refuses_412 (by decide) ?_
            obtain ⟨x52, ex52, hM⟩ := zx_nE hM
            refine zx_top ex52 ?_
            refine lv_iadd hx hb dL_refuses_413 ?_
            refine lv_iconst (v := 0) hx hb dL_refuses_414 (by decide) ?_
            obtain ⟨x53, T54, hz55, hM⟩ := zx_b2E hM
            have hF := zx_fW hD hS hA
            refine va_calli (va_runS (As := [.ref h, .int 7, .int x42, .int (100 + x52), .int 0]) (rest := []) ⟨hx, hb, hml, hown, hts⟩ (c_L_call l hlt D cI cZ cT h hh aa T49 _ N 7 x42 (100 + x52) 0 hz55) (va_cwS 5 hts (zg_S zw_4_2 zw_4_3 zw_3_14 zw_4_4) rfl rfl rfl zyL_call ⟨Nat.le_of_ble_eq_true rfl, Nat.le_of_ble_eq_true rfl⟩) ⟨bY_blind, bY_pre hP hK hD hN hXX hNc hS hF⟩ rfl rfl hl.1 rfl (lv_room (Nat.le_of_ble_eq_true rfl)) dL_refuses_415 ⟨by show (kc + 2) + 1 ≤ 34; omega, by show 6 * (kc + 2) + 6 ≤ 204; omega⟩) hS (fun q _ h => hF q h) (fun q h => hF q h) (fun r u t H1 lc ht hvm hw hB hz1 hk1 hS => ?_)
            obtain ⟨hw1, hw2⟩ := Prod.mk.inj hw; subst hw1; subst hw2
            rw [ht] at hB
            replace hP := hB
            replace hD := zx2_Da T54 hD
            refine W.widen (k := (kc + 3)) (n := 6 * (kc + 3)) (by omega) (by omega) ?_
            refine lv_ldc (v := (-9999002)) hx hb hown (hts _ zw_3_21) dL_refuses_418 ?_
            refine lv_icmp_ne (tgt := 470) hx hb dL_refuses_420 (by decide) (fun q56 => ?_) (fun q56 => ?_)
            · replace hM := zx_f q56 hM
              exact j470 v1 T54 (kc + 3) _ _ _ (by omega) hP hD hS (lv_sub hl [2, 3] rfl) hM
            · replace hM := zx_t q56 hM
              have j463 : ∀ (v1 : Int32) (t0 : Int32) (t1 : Int32) (S_ : zx_B) (kc : Nat) (H : Heap) (lc : List Loc) (ls : Array Slot), kc + (8) ≤ 34 → va_P D vwCl (xW2 cI cT h hh aa S_) H → va_D A (xW2 cI cT h hh aa S_) → va_S A s.heap H lc → lv_has ls 5 [(0, .ref h), (1, .int v1)] → f_L_refuses_j463 N v1 t0 t1 S_ = some R → W p l e (headSpec zsL_refuses rmL_refuses).room s m ([.ref h, .int p1] : List Value).toArray below meth c H lc kc (6 * kc) Q9 (F0 m 463 ls [.int t1, .int t0]) := by
                intro v1 t0 t1 S_ kc H lc ls hkc hP hD hS hl hM
                unfold f_L_refuses_j463 at hM
                refine lv_icmp_ne (tgt := 470) hx hb dL_refuses_463 (by decide) (fun q57 => ?_) (fun q57 => ?_)
                · replace hM := zx_f q57 hM
                  exact j470 v1 S_ kc _ _ _ (by omega) hP hD hS (lv_sub hl [0, 1] rfl) hM
                · replace hM := zx_t q57 hM
                  refine lv_iconst (v := 1) hx hb dL_refuses_466 (by decide) ?_
                  refine lv_goto (tgt := 471) hx hb dL_refuses_467 (by decide) ?_
                  exact j471 v1 1 S_ kc _ _ _ (by omega) hP hD hS (lv_sub hl [0, 1] rfl) hM
              refine lv_aload_n hx hb dL_refuses_423 rfl (lv_at hl 2 rfl) ?_
              refine lv_bipush (v := 7) hx hb dL_refuses_424 (by decide) ?_
              refine lv_iload hx hb dL_refuses_426 (lv_at hl 0 rfl) ?_
              refine lv_bipush (v := 100) hx hb dL_refuses_428 (by decide) ?_
              refine lv_aload_n hx hb dL_refuses_430 rfl (lv_at hl 2 rfl) ?_
              refine lv_iconst (v := 2) hx hb dL_refuses_431 (by decide) ?_
              refine lv_iload hx hb dL_refuses_432 (lv_at hl 0 rfl) ?_
              refine lv_iconst (v := 2) hx hb dL_refuses_434 (by decide) ?_
              refine lv_iconst (v := 0) hx hb dL_refuses_435 (by decide) ?_
              obtain ⟨x58, T59, hz60, hM⟩ := zx_b2E hM
              have hF := zx_fW hD hS hA
              refine va_calli (va_runS (As := [.ref h, .int 2, .int x42, .int 2, .int 0]) (rest := [.int 100, .int x42, .int 7, .ref h]) ⟨hx, hb, hml, hown, hts⟩ (c_L_call l hlt D cI cZ cT h hh aa T54 _ N 2 x42 2 0 hz60) (va_cwS 5 hts (zg_S zw_4_2 zw_4_3 zw_3_14 zw_4_4) rfl rfl rfl zyL_call ⟨Nat.le_of_ble_eq_true rfl, Nat.le_of_ble_eq_true rfl⟩) ⟨bY_blind, bY_pre hP hK hD hN hXX hNc hS hF⟩ rfl rfl hl.1 rfl (lv_room (Nat.le_of_ble_eq_true rfl)) dL_refuses_436 ⟨by show (kc + 3) + 1 ≤ 34; omega, by show 6 * (kc + 3) + 6 ≤ 204; omega⟩) hS (fun q _ h => hF q h) (fun q h => hF q h) (fun r u t H1 lc ht hvm hw hB hz1 hk1 hS => ?_)
              obtain ⟨hw1, hw2⟩ := Prod.mk.inj hw; subst hw1; subst hw2
              rw [ht] at hB
              replace hP := hB
              replace hD := zx2_Da T59 hD
              refine W.widen (k := (kc + 4)) (n := 6 * (kc + 4)) (by omega) (by omega) ?_
              refine lv_isub hx hb dL_refuses_439 ?_
              refine lv_iconst (v := 0) hx hb dL_refuses_440 (by decide) ?_
              obtain ⟨x61, T62, hz63, hM⟩ := zx_b2E hM
              have hF := zx_fW hD hS hA
              refine va_calli (va_runS (As := [.ref h, .int 7, .int x42, .int (100 - x58), .int 0]) (rest := []) ⟨hx, hb, hml, hown, hts⟩ (c_L_call l hlt D cI cZ cT h hh aa T59 _ N 7 x42 (100 - x58) 0 hz63) (va_cwS 5 hts (zg_S zw_4_2 zw_4_3 zw_3_14 zw_4_4) rfl rfl rfl zyL_call ⟨Nat.le_of_ble_eq_true rfl, Nat.le_of_ble_eq_true rfl⟩) ⟨bY_blind, bY_pre hP hK hD hN hXX hNc hS hF⟩ rfl rfl hl.1 rfl (lv_room (Nat.le_of_ble_eq_true rfl)) dL_refuses_441 ⟨by show (kc + 4) + 1 ≤ 34; omega, by show 6 * (kc + 4) + 6 ≤ 204; omega⟩) hS (fun q _ h => hF q h) (fun q h => hF q h) (fun r u t H1 lc ht hvm hw hB hz1 hk1 hS => ?_)
              obtain ⟨hw1, hw2⟩ := Prod.mk.inj hw; subst hw1; subst hw2
              rw [ht] at hB
              replace hP := hB
              replace hD := zx2_Da T62 hD
              refine W.widen (k := (kc + 5)) (n := 6 * (kc + 5)) (by omega) (by omega) ?_
              refine lv_aload_n hx hb dL_refuses_444 rfl (lv_at hl 2 rfl) ?_
              refine lv_iconst (v := 2) hx hb dL_refuses_445 (by decide) ?_
              refine lv_iload hx hb dL_refuses_446 (lv_at hl 0 rfl) ?_
              refine lv_iconst (v := 2) hx hb dL_refuses_448 (by decide) ?_
              refine lv_iconst (v := 0) hx hb dL_refuses_449 (by decide) ?_
              obtain ⟨x64, T65, hz66, hM⟩ := zx_b2E hM
              have hF := zx_fW hD hS hA
              refine va_calli (va_runS (As := [.ref h, .int 2, .int x42, .int 2, .int 0]) (rest := [.int x61]) ⟨hx, hb, hml, hown, hts⟩ (c_L_call l hlt D cI cZ cT h hh aa T62 _ N 2 x42 2 0 hz66) (va_cwS 5 hts (zg_S zw_4_2 zw_4_3 zw_3_14 zw_4_4) rfl rfl rfl zyL_call ⟨Nat.le_of_ble_eq_true rfl, Nat.le_of_ble_eq_true rfl⟩) ⟨bY_blind, bY_pre hP hK hD hN hXX hNc hS hF⟩ rfl rfl hl.1 rfl (lv_room (Nat.le_of_ble_eq_true rfl)) dL_refuses_450 ⟨by show (kc + 5) + 1 ≤ 34; omega, by show 6 * (kc + 5) + 6 ≤ 204; omega⟩) hS (fun q _ h => hF q h) (fun q h => hF q h) (fun r u t H1 lc ht hvm hw hB hz1 hk1 hS => ?_)
              obtain ⟨hw1, hw2⟩ := Prod.mk.inj hw; subst hw1; subst hw2
              rw [ht] at hB
              replace hP := hB
              replace hD := zx2_Da T65 hD
              refine W.widen (k := (kc + 6)) (n := 6 * (kc + 6)) (by omega) (by omega) ?_
              refine lv_if_ne (tgt := 461) hx hb dL_refuses_453 (by decide) (fun q67 => ?_) (fun q67 => ?_)
              · replace hM := zx_f q67 hM
                refine lv_ldc (v := (-9999003)) hx hb hown (hts _ zw_3_23) dL_refuses_461 ?_
                exact j463 v1 x61 (-9999003) T65 (kc + 6) _ _ _ (by omega) hP hD hS (lv_sub hl [2, 3] rfl) hM
              · replace hM := zx_t q67 hM
                refine lv_ldc (v := (-9999002)) hx hb hown (hts _ zw_3_21) dL_refuses_456 ?_
                refine lv_goto (tgt := 463) hx hb dL_refuses_458 (by decide) ?_
                exact j463 v1 x61 (-9999002) T65 (kc + 6) _ _ _ (by omega) hP hD hS (lv_sub hl [2, 3] rfl) hM
    have j351 : ∀ (v1 : Int32) (S_ : zx_B) (kc : Nat) (H : Heap) (lc : List Loc) (ls : Array Slot), kc + (14) ≤ 34 → va_P D vwCl (xW2 cI cT h hh aa S_) H → va_D A (xW2 cI cT h hh aa S_) → va_S A s.heap H lc → lv_has ls 5 [(0, .ref h), (1, .int v1)] → f_L_refuses_j351 N v1 S_ = some R → W p l e (headSpec zsL_refuses rmL_refuses).room s m ([.ref h, .int p1] : List Value).toArray below meth c H lc kc (6 * kc) Q9 (F0 m 351 ls []) := by
      intro v1 S_ kc H lc ls hkc hP hD hS hl hM
      unfold f_L_refuses_j351 at hM
      refine lv_iconst (v := 0) hx hb dL_refuses_351 (by decide) ?_
      exact j352 v1 0 S_ kc _ _ _ (by omega) hP hD hS (lv_sub hl [0, 1] rfl) hM
    refine lv_istore_n (lv' := [(3, .int t0), (0, .ref h), (1, .int v1)]) hx hb dL_refuses_174 rfl hl (by decide) rfl (fun ls hl => ?_)
    refine lv_iload_n hx hb dL_refuses_175 rfl (lv_at hl 0 rfl) ?_
    refine lv_if_eq (tgt := 351) hx hb dL_refuses_176 (by decide) (fun q68 => ?_) (fun q68 => ?_)
    · replace hM := zx_t q68 hM
      exact j351 v1 S_ kc _ _ _ (by omega) hP hD hS (lv_sub hl [1, 2] rfl) hM
    · replace hM := zx_f q68 hM
      refine lv_aload_n hx hb dL_refuses_179 rfl (lv_at hl 1 rfl) ?_
      refine lv_bipush (v := 6) hx hb dL_refuses_180 (by decide) ?_
      refine lv_iconst (v := (-1)) hx hb dL_refuses_182 (by decide) ?_
      refine lv_iload_n hx hb dL_refuses_183 rfl (lv_at hl 2 rfl) ?_
      refine lv_bipush (v := 9) hx hb dL_refuses_184 (by decide) ?_
      refine lv_irem hx hb dL_refuses_186 (by decide) ?_
      obtain ⟨x69, ex69, hM⟩ := zx_nE hM
      refine zx_top ex69 ?_
      refine lv_isub hx hb dL_refuses_187 ?_
      refine lv_iconst (v := 0) hx hb dL_refuses_188 (by decide) ?_
      refine lv_iconst (v := 0) hx hb dL_refuses_189 (by decide) ?_
      obtain ⟨x70, T71, hz72, hM⟩ := zx_b2E hM
      have hF := zx_fW hD hS hA
      refine va_calli (va_runS (As := [.ref h, .int 6, .int ((-1) - x69), .int 0, .int 0]) (rest := []) ⟨hx, hb, hml, hown, hts⟩ (c_L_call l hlt D cI cZ cT h hh aa S_ _ N 6 ((-1) - x69) 0 0 hz72) (va_cwS 5 hts (zg_S zw_4_2 zw_4_3 zw_3_14 zw_4_4) rfl rfl rfl zyL_call ⟨Nat.le_of_ble_eq_true rfl, Nat.le_of_ble_eq_true rfl⟩) ⟨bY_blind, bY_pre hP hK hD hN hXX hNc hS hF⟩ rfl rfl hl.1 rfl (lv_room (Nat.le_of_ble_eq_true rfl)) dL_refuses_190 ⟨by show kc + 1 ≤ 34; omega, by show 6 * kc + 6 ≤ 204; omega⟩) hS (fun q _ h => hF q h) (fun q h => hF q h) (fun r u t H1 lc ht hvm hw hB hz1 hk1 hS => ?_)
      obtain ⟨hw1, hw2⟩ := Prod.mk.inj hw; subst hw1; subst hw2
      rw [ht] at hB
      replace hP := hB
      replace hD := zx2_Da T71 hD
      refine W.widen (k := (kc + 1)) (n := 6 * (kc + 1)) (by omega) (by omega) ?_
      refine lv_ldc (v := (-9999001)) hx hb hown (hts _ zw_3_22) dL_refuses_193 ?_
      refine lv_icmp_ne (tgt := 351) hx hb dL_refuses_195 (by decide) (fun q73 => ?_) (fun q73 => ?_)
      · replace hM := zx_f q73 hM
        exact j351 v1 T71 (kc + 1) _ _ _ (by omega) hP hD hS (lv_sub hl [1, 2] rfl) hM
      · replace hM := zx_t q73 hM
        refine lv_aload_n hx hb dL_refuses_198 rfl (lv_at hl 1 rfl) ?_
        refine lv_bipush (v := 7) hx hb dL_refuses_199 (by decide) ?_
        refine lv_bipush (v := 24) hx hb dL_refuses_201 (by decide) ?_
        refine lv_bipush (v := 100) hx hb dL_refuses_203 (by decide) ?_
        refine lv_bipush (v := 100) hx hb dL_refuses_205 (by decide) ?_
        obtain ⟨x74, T75, hz76, hM⟩ := zx_b2E hM
        have hF := zx_fW hD hS hA
        refine va_calli (va_runS (As := [.ref h, .int 7, .int 24, .int 100, .int 100]) (rest := []) ⟨hx, hb, hml, hown, hts⟩ (c_L_call l hlt D cI cZ cT h hh aa T71 _ N 7 24 100 100 hz76) (va_cwS 5 hts (zg_S zw_4_2 zw_4_3 zw_3_14 zw_4_4) rfl rfl rfl zyL_call ⟨Nat.le_of_ble_eq_true rfl, Nat.le_of_ble_eq_true rfl⟩) ⟨bY_blind, bY_pre hP hK hD hN hXX hNc hS hF⟩ rfl rfl hl.1 rfl (lv_room (Nat.le_of_ble_eq_true rfl)) dL_refuses_207 ⟨by show (kc + 1) + 1 ≤ 34; omega, by show 6 * (kc + 1) + 6 ≤ 204; omega⟩) hS (fun q _ h => hF q h) (fun q h => hF q h) (fun r u t H1 lc ht hvm hw hB hz1 hk1 hS => ?_)
        obtain ⟨hw1, hw2⟩ := Prod.mk.inj hw; subst hw1; subst hw2
        rw [ht] at hB
        replace hP := hB
        replace hD := zx2_Da T75 hD
        refine W.widen (k := (kc + 2)) (n := 6 * (kc + 2)) (by omega) (by omega) ?_
        refine lv_ldc (v := (-9999001)) hx hb hown (hts _ zw_3_22) dL_refuses_210 ?_
        refine lv_icmp_ne (tgt := 351) hx hb dL_refuses_212 (by decide) (fun q77 => ?_) (fun q77 => ?_)
        · replace hM := zx_f q77 hM
          exact j351 v1 T75 (kc + 2) _ _ _ (by omega) hP hD hS (lv_sub hl [1, 2] rfl) hM
        · replace hM := zx_t q77 hM
          refine lv_aload_n hx hb dL_refuses_215 rfl (lv_at hl 1 rfl) ?_
          refine lv_iconst (v := 0) hx hb dL_refuses_216 (by decide) ?_
          refine lv_bipush (v := 9) hx hb dL_refuses_217 (by decide) ?_
          refine lv_iconst (v := 0) hx hb dL_refuses_219 (by decide) ?_
          refine lv_bipush (v := 8) hx hb dL_refuses_220 (by decide) ?_
          obtain ⟨x78, T79, hz80, hM⟩ := zx_b2E hM
          have hF := zx_fW hD hS hA
          refine va_calli (vx_runSW (As := [.ref h, .int 0, .int 9, .int 0, .int 8]) (rest := []) ⟨hx, hb, hml, hown, hts⟩ (c_L_tryWindow l hlt D cI cZ cT h hh aa T75 _ N 0 9 0 8 hz80) (vx_cwSW 5 hts (zg_S zw_17_21 zw_17_22 zw_3_14 zw_17_23) rfl rfl rfl zyL_tryWindow ⟨Nat.le_of_ble_eq_true rfl, Nat.le_of_ble_eq_true rfl⟩) ⟨bY_blind, bY_pre hP hK hD hN hXX hNc hS hF⟩ rfl rfl hl.1 rfl (lv_room (Nat.le_of_ble_eq_true rfl)) dL_refuses_222 ⟨by show (kc + 2) + 1 ≤ 34; omega, by show 6 * (kc + 2) + 6 ≤ 204; omega⟩) hS (fun q _ h => hF q h) (fun q h => hF q h) (fun r u t H1 lc ht hvm hw hB hz1 hk1 hS => ?_)
          obtain ⟨hw1, hw2⟩ := Prod.mk.inj hw; subst hw1; subst hw2
          rw [ht] at hB
          replace hP := hB
          replace hD := zx2_Da T79 hD
          refine W.widen (k := (kc + 3)) (n := 6 * (kc + 3)) (by omega) (by omega) ?_
          refine lv_ldc (v := (-9999002)) hx hb hown (hts _ zw_3_21) dL_refuses_225 ?_
          refine lv_icmp_ne (tgt := 351) hx hb dL_refuses_227 (by decide) (fun q81 => ?_) (fun q81 => ?_)
          · replace hM := zx_f q81 hM
            exact j351 v1 T79 (kc + 3) _ _ _ (by omega) hP hD hS (lv_sub hl [1, 2] rfl) hM
          · replace hM := zx_t q81 hM
            refine lv_aload_n hx hb dL_refuses_230 rfl (lv_at hl 1 rfl) ?_
            refine lv_iconst (v := 0) hx hb dL_refuses_231 (by decide) ?_
            refine lv_iconst (v := 0) hx hb dL_refuses_232 (by decide) ?_
            refine lv_bipush (v := 100) hx hb dL_refuses_233 (by decide) ?_
            refine lv_iload_n hx hb dL_refuses_235 rfl (lv_at hl 2 rfl) ?_
            refine lv_bipush (v := 9) hx hb dL_refuses_236 (by decide) ?_
            refine lv_irem hx hb dL_refuses_238 (by decide) ?_
            obtain ⟨x82, ex82, hM⟩ := zx_nE hM
            refine zx_top ex82 ?_
            refine lv_iadd hx hb dL_refuses_239 ?_
            refine lv_iconst (v := 0) hx hb dL_refuses_240 (by decide) ?_
            obtain ⟨x83, T84, hz85, hM⟩ := zx_b2E hM
            have hF := zx_fW hD hS hA
            refine va_calli (vx_runSW (As := [.ref h, .int 0, .int 0, .int (100 + x82), .int 0]) (rest := []) ⟨hx, hb, hml, hown, hts⟩ (c_L_tryLooks l hlt D cI cZ cT h hh aa T79 _ N 0 0 (100 + x82) 0 hz85) (vx_cwSW 5 hts (zg_S zw_18_5 zw_18_6 zw_3_14 zw_18_7) rfl rfl rfl zyL_tryLooks ⟨Nat.le_of_ble_eq_true rfl, Nat.le_of_ble_eq_true rfl⟩) ⟨bY_blind, bY_pre hP hK hD hN hXX hNc hS hF⟩ rfl rfl hl.1 rfl (lv_room (Nat.le_of_ble_eq_true rfl)) dL_refuses_241 ⟨by show (kc + 3) + 1 ≤ 34; omega, by show 6 * (kc + 3) + 6 ≤ 204; omega⟩) hS (fun q _ h => hF q h) (fun q h => hF q h) (fun r u t H1 lc ht hvm hw hB hz1 hk1 hS => ?_)
            obtain ⟨hw1, hw2⟩ := Prod.mk.inj hw; subst hw1; subst hw2
            rw [ht] at hB
            replace hP := hB
            replace hD := zx2_Da T84 hD
            refine W.widen (k := (kc + 4)) (n := 6 * (kc + 4)) (by omega) (by omega) ?_
            refine lv_ldc (v := (-9999002)) hx hb hown (hts _ zw_3_21) dL_refuses_244 ?_
            refine lv_icmp_ne (tgt := 351) hx hb dL_refuses_246 (by decide) (fun q86 => ?_) (fun q86 => ?_)
            · replace hM := zx_f q86 hM
              exact j351 v1 T84 (kc + 4) _ _ _ (by omega) hP hD hS (lv_sub hl [1, 2] rfl) hM
            · replace hM := zx_t q86 hM
              refine lv_aload_n hx hb dL_refuses_249 rfl (lv_at hl 1 rfl) ?_
              refine lv_iconst (v := (-1)) hx hb dL_refuses_250 (by decide) ?_
              refine lv_iload_n hx hb dL_refuses_251 rfl (lv_at hl 2 rfl) ?_
              refine lv_bipush (v := 9) hx hb dL_refuses_252 (by decide) ?_
              refine lv_irem hx hb dL_refuses_254 (by decide) ?_
              obtain ⟨x87, ex87, hM⟩ := zx_nE hM
              refine zx_top ex87 ?_
              refine lv_isub hx hb dL_refuses_255 ?_
              refine lv_iconst (v := 0) hx hb dL_refuses_256 (by decide) ?_
              refine lv_iconst (v := 0) hx hb dL_refuses_257 (by decide) ?_
              refine lv_iconst (v := 0) hx hb dL_refuses_258 (by decide) ?_
              obtain ⟨x88, T89, hz90, hM⟩ := zx_b2E hM
              have hF := zx_fW hD hS hA
              refine va_calli (vx_runSW (As := [.ref h, .int ((-1) - x87), .int 0, .int 0, .int 0]) (rest := []) ⟨hx, hb, hml, hown, hts⟩ (c_L_tryChosen l hlt D cI cZ cT h hh aa T84 _ N ((-1) - x87) 0 0 0 hz90) (vx_cwSW 5 hts (zg_S zw_18_16 zw_18_17 zw_3_14 zw_18_18) rfl rfl rfl zyL_tryChosen ⟨Nat.le_of_ble_eq_true rfl, Nat.le_of_ble_eq_true rfl⟩) ⟨bY_blind, bY_pre hP hK hD hN hXX hNc hS hF⟩ rfl rfl hl.1 rfl (lv_room (Nat.le_of_ble_eq_true rfl)) dL_refuses_259 ⟨by show (kc + 4) + 1 ≤ 34; omega, by show 6 * (kc + 4) + 6 ≤ 204; omega⟩) hS (fun q _ h => hF q h) (fun q h => hF q h) (fun r u t H1 lc ht hvm hw hB hz1 hk1 hS => ?_)
              obtain ⟨hw1, hw2⟩ := Prod.mk.inj hw; subst hw1; subst hw2
              rw [ht] at hB
              replace hP := hB
              replace hD := zx2_Da T89 hD
              refine W.widen (k := (kc + 5)) (n := 6 * (kc + 5)) (by omega) (by omega) ?_
              refine lv_ldc (v := (-9999002)) hx hb hown (hts _ zw_3_21) dL_refuses_262 ?_
              refine lv_icmp_ne (tgt := 351) hx hb dL_refuses_264 (by decide) (fun q91 => ?_) (fun q91 => ?_)
              · replace hM := zx_f q91 hM
                exact j351 v1 T89 (kc + 5) _ _ _ (by omega) hP hD hS (lv_sub hl [1, 2] rfl) hM
              · replace hM := zx_t q91 hM
                refine lv_aload_n hx hb dL_refuses_267 rfl (lv_at hl 1 rfl) ?_
                refine lv_bipush (v := 9) hx hb dL_refuses_268 (by decide) ?_
                refine lv_iconst (v := 0) hx hb dL_refuses_270 (by decide) ?_
                refine lv_bipush (v := 8) hx hb dL_refuses_271 (by decide) ?_
                refine lv_iconst (v := 0) hx hb dL_refuses_273 (by decide) ?_
                obtain ⟨x92, T93, hz94, hM⟩ := zx_b2E hM
                have hF := zx_fW hD hS hA
                refine va_calli (vx_runSW (As := [.ref h, .int 9, .int 0, .int 8, .int 0]) (rest := []) ⟨hx, hb, hml, hown, hts⟩ (c_L_tryIfAdded l hlt D cI cZ cT h hh aa T89 _ N 9 0 8 0 hz94) (vx_cwSW 5 hts (zg_S zw_19_0 zw_19_1 zw_3_14 zw_19_2) rfl rfl rfl zyL_tryIfAdded ⟨Nat.le_of_ble_eq_true rfl, Nat.le_of_ble_eq_true rfl⟩) ⟨bY_blind, bY_pre hP hK hD hN hXX hNc hS hF⟩ rfl rfl hl.1 rfl (lv_room (Nat.le_of_ble_eq_true rfl)) dL_refuses_274 ⟨by show (kc + 5) + 1 ≤ 34; omega, by show 6 * (kc + 5) + 6 ≤ 204; omega⟩) hS (fun q _ h => hF q h) (fun q h => hF q h) (fun r u t H1 lc ht hvm hw hB hz1 hk1 hS => ?_)
                obtain ⟨hw1, hw2⟩ := Prod.mk.inj hw; subst hw1; subst hw2
                rw [ht] at hB
                replace hP := hB
                replace hD := zx2_Da T93 hD
                refine W.widen (k := (kc + 6)) (n := 6 * (kc + 6)) (by omega) (by omega) ?_
                refine lv_ldc (v := (-9999002)) hx hb hown (hts _ zw_3_21) dL_refuses_277 ?_
                refine lv_icmp_ne (tgt := 351) hx hb dL_refuses_279 (by decide) (fun q95 => ?_) (fun q95 => ?_)
                · replace hM := zx_f q95 hM
                  exact j351 v1 T93 (kc + 6) _ _ _ (by omega) hP hD hS (lv_sub hl [1, 2] rfl) hM
                · replace hM := zx_t q95 hM
                  refine lv_aload_n hx hb dL_refuses_282 rfl (lv_at hl 1 rfl) ?_
                  refine lv_bipush (v := 9) hx hb dL_refuses_283 (by decide) ?_
                  refine lv_bipush (v := 100) hx hb dL_refuses_285 (by decide) ?_
                  refine lv_iload_n hx hb dL_refuses_287 rfl (lv_at hl 2 rfl) ?_
                  refine lv_bipush (v := 9) hx hb dL_refuses_288 (by decide) ?_
                  refine lv_irem hx hb dL_refuses_290 (by decide) ?_
                  obtain ⟨x96, ex96, hM⟩ := zx_nE hM
                  refine zx_top ex96 ?_
                  refine lv_iadd hx hb dL_refuses_291 ?_
                  refine lv_iconst (v := 0) hx hb dL_refuses_292 (by decide) ?_
                  refine lv_iconst (v := 0) hx hb dL_refuses_293 (by decide) ?_
                  obtain ⟨x97, T98, hz99, hM⟩ := zx_b2E hM
                  have hF := zx_fW hD hS hA
                  refine va_calli (va_runS (As := [.ref h, .int 9, .int (100 + x96), .int 0, .int 0]) (rest := []) ⟨hx, hb, hml, hown, hts⟩ (c_L_call l hlt D cI cZ cT h hh aa T93 _ N 9 (100 + x96) 0 0 hz99) (va_cwS 5 hts (zg_S zw_4_2 zw_4_3 zw_3_14 zw_4_4) rfl rfl rfl zyL_call ⟨Nat.le_of_ble_eq_true rfl, Nat.le_of_ble_eq_true rfl⟩) ⟨bY_blind, bY_pre hP hK hD hN hXX hNc hS hF⟩ rfl rfl hl.1 rfl (lv_room (Nat.le_of_ble_eq_true rfl)) dL_refuses_294 ⟨by show (kc + 6) + 1 ≤ 34; omega, by show 6 * (kc + 6) + 6 ≤ 204; omega⟩) hS (fun q _ h => hF q h) (fun q h => hF q h) (fun r u t H1 lc ht hvm hw hB hz1 hk1 hS => ?_)
                  obtain ⟨hw1, hw2⟩ := Prod.mk.inj hw; subst hw1; subst hw2
                  rw [ht] at hB
                  replace hP := hB
                  replace hD := zx2_Da T98 hD
                  refine W.widen (k := (kc + 7)) (n := 6 * (kc + 7)) (by omega) (by omega) ?_
                  refine lv_ldc (v := (-9999002)) hx hb hown (hts _ zw_3_21) dL_refuses_297 ?_
                  refine lv_icmp_ne (tgt := 351) hx hb dL_refuses_299 (by decide) (fun q100 => ?_) (fun q100 => ?_)
                  · replace hM := zx_f q100 hM
                    exact j351 v1 T98 (kc + 7) _ _ _ (by omega) hP hD hS (lv_sub hl [1, 2] rfl) hM
                  · replace hM := zx_t q100 hM
                    refine lv_aload_n hx hb dL_refuses_302 rfl (lv_at hl 1 rfl) ?_
                    refine lv_bipush (v := 9) hx hb dL_refuses_303 (by decide) ?_
                    refine lv_iconst (v := 0) hx hb dL_refuses_305 (by decide) ?_
                    refine lv_iconst (v := 0) hx hb dL_refuses_306 (by decide) ?_
                    refine lv_iconst (v := (-1)) hx hb dL_refuses_307 (by decide) ?_
                    refine lv_iload_n hx hb dL_refuses_308 rfl (lv_at hl 2 rfl) ?_
                    refine lv_bipush (v := 9) hx hb dL_refuses_309 (by decide) ?_
                    refine lv_irem hx hb dL_refuses_311 (by decide) ?_
                    obtain ⟨x101, ex101, hM⟩ := zx_nE hM
                    refine zx_top ex101 ?_
                    refine lv_isub hx hb dL_refuses_312 ?_
                    obtain ⟨x102, T103, hz104, hM⟩ := zx_b2E hM
                    have hF := zx_fW hD hS hA
                    refine va_calli (va_runS (As := [.ref h, .int 9, .int 0, .int 0, .int ((-1) - x101)]) (rest := []) ⟨hx, hb, hml, hown, hts⟩ (c_L_call l hlt D cI cZ cT h hh aa T98 _ N 9 0 0 ((-1) - x101) hz104) (va_cwS 5 hts (zg_S zw_4_2 zw_4_3 zw_3_14 zw_4_4) rfl rfl rfl zyL_call ⟨Nat.le_of_ble_eq_true rfl, Nat.le_of_ble_eq_true rfl⟩) ⟨bY_blind, bY_pre hP hK hD hN hXX hNc hS hF⟩ rfl rfl hl.1 rfl (lv_room (Nat.le_of_ble_eq_true rfl)) dL_refuses_313 ⟨by show (kc + 7) + 1 ≤ 34; omega, by show 6 * (kc + 7) + 6 ≤ 204; omega⟩) hS (fun q _ h => hF q h) (fun q h => hF q h) (fun r u t H1 lc ht hvm hw hB hz1 hk1 hS => ?_)
                    obtain ⟨hw1, hw2⟩ := Prod.mk.inj hw; subst hw1; subst hw2
                    rw [ht] at hB
                    replace hP := hB
                    replace hD := zx2_Da T103 hD
                    refine W.widen (k := (kc + 8)) (n := 6 * (kc + 8)) (by omega) (by omega) ?_
                    refine lv_ldc (v := (-9999002)) hx hb hown (hts _ zw_3_21) dL_refuses_316 ?_
                    refine lv_icmp_ne (tgt := 351) hx hb dL_refuses_318 (by decide) (fun q105 => ?_) (fun q105 => ?_)
                    · replace hM := zx_f q105 hM
                      exact j351 v1 T103 (kc + 8) _ _ _ (by omega) hP hD hS (lv_sub hl [1, 2] rfl) hM
                    · replace hM := zx_t q105 hM
                      have j347 : ∀ (v1 : Int32) (S_ : zx_B) (kc : Nat) (H : Heap) (lc : List Loc) (ls : Array Slot), kc + (14) ≤ 34 → va_P D vwCl (xW2 cI cT h hh aa S_) H → va_D A (xW2 cI cT h hh aa S_) → va_S A s.heap H lc → lv_has ls 5 [(0, .ref h), (1, .int v1)] → f_L_refuses_j347 N v1 S_ = some R → W p l e (headSpec zsL_refuses rmL_refuses).room s m ([.ref h, .int p1] : List Value).toArray below meth c H lc kc (6 * kc) Q9 (F0 m 347 ls []) := by
                        intro v1 S_ kc H lc ls hkc hP hD hS hl hM
                        unfold f_L_refuses_j347 at hM
                        refine lv_iconst (v := 1) hx hb dL_refuses_347 (by decide) ?_
                        refine lv_goto (tgt := 352) hx hb dL_refuses_348 (by decide) ?_
                        exact j352 v1 1 S_ kc _ _ _ (by omega) hP hD hS (lv_sub hl [0, 1] rfl) hM
                      refine lv_aload_n hx hb dL_refuses_321 rfl (lv_at hl 1 rfl) ?_
                      refine lv_iconst (v := 1) hx hb dL_refuses_322 (by decide) ?_
                      refine lv_iconst (v := 0) hx hb dL_refuses_323 (by decide) ?_
                      refine lv_iconst (v := 0) hx hb dL_refuses_324 (by decide) ?_
                      refine lv_iconst (v := 0) hx hb dL_refuses_325 (by decide) ?_
                      obtain ⟨x106, T107, hz108, hM⟩ := zx_b2E hM
                      have hF := zx_fW hD hS hA
                      refine va_calli (va_runS (As := [.ref h, .int 1, .int 0, .int 0, .int 0]) (rest := []) ⟨hx, hb, hml, hown, hts⟩ (c_L_call l hlt D cI cZ cT h hh aa T103 _ N 1 0 0 0 hz108) (va_cwS 5 hts (zg_S zw_4_2 zw_4_3 zw_3_14 zw_4_4) rfl rfl rfl zyL_call ⟨Nat.le_of_ble_eq_true rfl, Nat.le_of_ble_eq_true rfl⟩) ⟨bY_blind, bY_pre hP hK hD hN hXX hNc hS hF⟩ rfl rfl hl.1 rfl (lv_room (Nat.le_of_ble_eq_true rfl)) dL_refuses_326 ⟨by show (kc + 8) + 1 ≤ 34; omega, by show 6 * (kc + 8) + 6 ≤ 204; omega⟩) hS (fun q _ h => hF q h) (fun q h => hF q h) (fun r u t H1 lc ht hvm hw hB hz1 hk1 hS => ?_)
                      obtain ⟨hw1, hw2⟩ := Prod.mk.inj hw; subst hw1; subst hw2
                      rw [ht] at hB
                      replace hP := hB
                      replace hD := zx2_Da T107 hD
                      refine W.widen (k := (kc + 9)) (n := 6 * (kc + 9)) (by omega) (by omega) ?_
                      refine lv_bipush (v := 24) hx hb dL_refuses_329 (by decide) ?_
                      refine lv_icmp_lt (tgt := 347) hx hb dL_refuses_331 (by decide) (fun q109 => ?_) (fun q109 => ?_)
                      · replace hM := zx_t q109 hM
                        exact j347 v1 T107 (kc + 9) _ _ _ (by omega) hP hD hS (lv_sub hl [1, 2] rfl) hM
                      · replace hM := zx_f q109 hM
                        refine lv_aload_n hx hb dL_refuses_334 rfl (lv_at hl 1 rfl) ?_
                        refine lv_iconst (v := 0) hx hb dL_refuses_335 (by decide) ?_
                        refine lv_iconst (v := 0) hx hb dL_refuses_336 (by decide) ?_
                        refine lv_iconst (v := 0) hx hb dL_refuses_337 (by decide) ?_
                        refine lv_iconst (v := 0) hx hb dL_refuses_338 (by decide) ?_
                        obtain ⟨x110, T111, hz112, hM⟩ := zx_b2E hM
                        have hF := zx_fW hD hS hA
                        refine va_calli (vx_runSW (As := [.ref h, .int 0, .int 0, .int 0, .int 0]) (rest := []) ⟨hx, hb, hml, hown, hts⟩ (c_L_tryAdd l hlt D cI cZ cT h hh aa T107 _ N 0 0 0 0 hz112) (vx_cwSW 5 hts (zg_S zw_17_13 zw_17_14 zw_3_14 zw_17_15) rfl rfl rfl zyL_tryAdd ⟨Nat.le_of_ble_eq_true rfl, Nat.le_of_ble_eq_true rfl⟩) ⟨bY_blind, bY_pre hP hK hD hN hXX hNc hS hF⟩ rfl rfl hl.1 rfl (lv_room (Nat.le_of_ble_eq_true rfl)) dL_refuses_339 ⟨by show (kc + 9) + 1 ≤ 34; omega, by show 6 * (kc + 9) + 6 ≤ 204; omega⟩) hS (fun q _ h => hF q h) (fun q h => hF q h) (fun r u t H1 lc ht hvm hw hB hz1 hk1 hS => ?_)
                        obtain ⟨hw1, hw2⟩ := Prod.mk.inj hw; subst hw1; subst hw2
                        rw [ht] at hB
                        replace hP := hB
                        replace hD := zx2_Da T111 hD
                        refine W.widen (k := (kc + 10)) (n := 6 * (kc + 10)) (by omega) (by omega) ?_
                        refine lv_ldc (v := (-9999003)) hx hb hown (hts _ zw_3_23) dL_refuses_342 ?_
                        refine lv_icmp_ne (tgt := 351) hx hb dL_refuses_344 (by decide) (fun q113 => ?_) (fun q113 => ?_)
                        · replace hM := zx_f q113 hM
                          exact j351 v1 T111 (kc + 10) _ _ _ (by omega) hP hD hS (lv_sub hl [1, 2] rfl) hM
                        · replace hM := zx_t q113 hM
                          exact j347 v1 T111 (kc + 10) _ _ _ (by omega) hP hD hS (lv_sub hl [1, 2] rfl) hM
  have j173 : ∀ (v1 : Int32) (S_ : zx_B) (kc : Nat) (H : Heap) (lc : List Loc) (ls : Array Slot), kc + (24) ≤ 34 → va_P D vwCl (xW2 cI cT h hh aa S_) H → va_D A (xW2 cI cT h hh aa S_) → va_S A s.heap H lc → lv_has ls 5 [(0, .ref h), (1, .int v1)] → f_L_refuses_j173 N v1 S_ = some R → W p l e (headSpec zsL_refuses rmL_refuses).room s m ([.ref h, .int p1] : List Value).toArray below meth c H lc kc (6 * kc) Q9 (F0 m 173 ls []) := by
    intro v1 S_ kc H lc ls hkc hP hD hS hl hM
    unfold f_L_refuses_j173 at hM
    refine lv_iconst (v := 0) hx hb dL_refuses_173 (by decide) ?_
    exact j174 v1 0 S_ kc _ _ _ (by omega) hP hD hS (lv_sub hl [0, 1] rfl) hM
  refine lv_aload_n hx hb dL_refuses_0 rfl (lv_at hl 0 rfl) ?_
  refine lv_iconst (v := 1) hx hb dL_refuses_1 (by decide) ?_
  refine lv_iconst (v := 1) hx hb dL_refuses_2 (by decide) ?_
  refine lv_iconst (v := 0) hx hb dL_refuses_3 (by decide) ?_
  refine lv_iconst (v := 0) hx hb dL_refuses_4 (by decide) ?_
  obtain ⟨x114, T115, hz116, hM⟩ := zx_b2E hM
  have hF := zx_fW hD hS hA
  refine va_calli (va_runS (As := [.ref h, .int 1, .int 1, .int 0, .int 0]) (rest := []) ⟨hx, hb, hml, hown, hts⟩ (c_L_call l hlt D cI cZ cT h hh aa S _ N 1 1 0 0 hz116) (va_cwS 5 hts (zg_S zw_4_2 zw_4_3 zw_3_14 zw_4_4) rfl rfl rfl zyL_call ⟨Nat.le_of_ble_eq_true rfl, Nat.le_of_ble_eq_true rfl⟩) ⟨bY_blind, bY_pre hP hK hD hN hXX hNc hS hF⟩ rfl rfl hl.1 rfl (lv_room (Nat.le_of_ble_eq_true rfl)) dL_refuses_5 ⟨by show kc + 1 ≤ 34; omega, by show 6 * kc + 6 ≤ 204; omega⟩) hS (fun q _ h => hF q h) (fun q h => hF q h) (fun r u t H1 lc ht hvm hw hB hz1 hk1 hS => ?_)
  obtain ⟨hw1, hw2⟩ := Prod.mk.inj hw; subst hw1; subst hw2
  rw [ht] at hB
  replace hP := hB
  replace hD := zx2_Da T115 hD
  refine W.widen (k := (kc + 1)) (n := 6 * (kc + 1)) (by omega) (by omega) ?_
  refine lv_istore_n (lv' := [(2, .int x114), (0, .ref h), (1, .int p1)]) hx hb dL_refuses_8 rfl hl (by decide) rfl (fun ls hl => ?_)
  refine lv_aload_n hx hb dL_refuses_9 rfl (lv_at hl 1 rfl) ?_
  refine lv_iconst (v := 1) hx hb dL_refuses_10 (by decide) ?_
  refine lv_bipush (v := 8) hx hb dL_refuses_11 (by decide) ?_
  refine lv_iload_n hx hb dL_refuses_13 rfl (lv_at hl 2 rfl) ?_
  refine lv_bipush (v := 9) hx hb dL_refuses_14 (by decide) ?_
  refine lv_irem hx hb dL_refuses_16 (by decide) ?_
  obtain ⟨x117, ex117, hM⟩ := zx_nE hM
  refine zx_top ex117 ?_
  refine lv_iadd hx hb dL_refuses_17 ?_
  refine lv_iconst (v := 0) hx hb dL_refuses_18 (by decide) ?_
  refine lv_iconst (v := 0) hx hb dL_refuses_19 (by decide) ?_
  obtain ⟨x118, T119, hz120, hM⟩ := zx_b2E hM
  have hF := zx_fW hD hS hA
  refine va_calli (va_runS (As := [.ref h, .int 1, .int (8 + x117), .int 0, .int 0]) (rest := []) ⟨hx, hb, hml, hown, hts⟩ (c_L_call l hlt D cI cZ cT h hh aa T115 _ N 1 (8 + x117) 0 0 hz120) (va_cwS 5 hts (zg_S zw_4_2 zw_4_3 zw_3_14 zw_4_4) rfl rfl rfl zyL_call ⟨Nat.le_of_ble_eq_true rfl, Nat.le_of_ble_eq_true rfl⟩) ⟨bY_blind, bY_pre hP hK hD hN hXX hNc hS hF⟩ rfl rfl hl.1 rfl (lv_room (Nat.le_of_ble_eq_true rfl)) dL_refuses_20 ⟨by show (kc + 1) + 1 ≤ 34; omega, by show 6 * (kc + 1) + 6 ≤ 204; omega⟩) hS (fun q _ h => hF q h) (fun q h => hF q h) (fun r u t H1 lc ht hvm hw hB hz1 hk1 hS => ?_)
  obtain ⟨hw1, hw2⟩ := Prod.mk.inj hw; subst hw1; subst hw2
  rw [ht] at hB
  replace hP := hB
  replace hD := zx2_Da T119 hD
  refine W.widen (k := (kc + 2)) (n := 6 * (kc + 2)) (by omega) (by omega) ?_
  refine lv_ldc (v := (-9999002)) hx hb hown (hts _ zw_3_21) dL_refuses_23 ?_
  refine lv_icmp_ne (tgt := 173) hx hb dL_refuses_25 (by decide) (fun q121 => ?_) (fun q121 => ?_)
  · replace hM := zx_f q121 hM
    exact j173 p1 T119 (kc + 2) _ _ _ (by omega) hP hD hS (lv_sub hl [1, 2] rfl) hM
  · replace hM := zx_t q121 hM
    refine lv_aload_n hx hb dL_refuses_28 rfl (lv_at hl 1 rfl) ?_
    refine lv_iconst (v := 2) hx hb dL_refuses_29 (by decide) ?_
    refine lv_bipush (v := 24) hx hb dL_refuses_30 (by decide) ?_
    refine lv_iload_n hx hb dL_refuses_32 rfl (lv_at hl 2 rfl) ?_
    refine lv_bipush (v := 9) hx hb dL_refuses_33 (by decide) ?_
    refine lv_irem hx hb dL_refuses_35 (by decide) ?_
    obtain ⟨x122, ex122, hM⟩ := zx_nE hM
    refine zx_top ex122 ?_
    refine lv_iadd hx hb dL_refuses_36 ?_
    refine lv_bipush (v := 9) hx hb dL_refuses_37 (by decide) ?_
    refine lv_iconst (v := 0) hx hb dL_refuses_39 (by decide) ?_
    obtain ⟨x123, T124, hz125, hM⟩ := zx_b2E hM
    have hF := zx_fW hD hS hA
    refine va_calli (va_runS (As := [.ref h, .int 2, .int (24 + x122), .int 9, .int 0]) (rest := []) ⟨hx, hb, hml, hown, hts⟩ (c_L_call l hlt D cI cZ cT h hh aa T119 _ N 2 (24 + x122) 9 0 hz125) (va_cwS 5 hts (zg_S zw_4_2 zw_4_3 zw_3_14 zw_4_4) rfl rfl rfl zyL_call ⟨Nat.le_of_ble_eq_true rfl, Nat.le_of_ble_eq_true rfl⟩) ⟨bY_blind, bY_pre hP hK hD hN hXX hNc hS hF⟩ rfl rfl hl.1 rfl (lv_room (Nat.le_of_ble_eq_true rfl)) dL_refuses_40 ⟨by show (kc + 2) + 1 ≤ 34; omega, by show 6 * (kc + 2) + 6 ≤ 204; omega⟩) hS (fun q _ h => hF q h) (fun q h => hF q h) (fun r u t H1 lc ht hvm hw hB hz1 hk1 hS => ?_)
    obtain ⟨hw1, hw2⟩ := Prod.mk.inj hw; subst hw1; subst hw2
    rw [ht] at hB
    replace hP := hB
    replace hD := zx2_Da T124 hD
    refine W.widen (k := (kc + 3)) (n := 6 * (kc + 3)) (by omega) (by omega) ?_
    refine lv_ldc (v := (-9999001)) hx hb hown (hts _ zw_3_22) dL_refuses_43 ?_
    refine lv_icmp_ne (tgt := 173) hx hb dL_refuses_45 (by decide) (fun q126 => ?_) (fun q126 => ?_)
    · replace hM := zx_f q126 hM
      exact j173 p1 T124 (kc + 3) _ _ _ (by omega) hP hD hS (lv_sub hl [1, 2] rfl) hM
    · replace hM := zx_t q126 hM
      refine lv_aload_n hx hb dL_refuses_48 rfl (lv_at hl 1 rfl) ?_
      refine lv_iconst (v := 3) hx hb dL_refuses_49 (by decide) ?_
      refine lv_iload_n hx hb dL_refuses_50 rfl (lv_at hl 0 rfl) ?_
      refine lv_iload_n hx hb dL_refuses_51 rfl (lv_at hl 2 rfl) ?_
      refine lv_bipush (v := 9) hx hb dL_refuses_52 (by decide) ?_
      refine lv_irem hx hb dL_refuses_54 (by decide) ?_
      obtain ⟨x127, ex127, hM⟩ := zx_nE hM
      refine zx_top ex127 ?_
      refine lv_iadd hx hb dL_refuses_55 ?_
      refine lv_bipush (v := 9) hx hb dL_refuses_56 (by decide) ?_
      refine lv_iconst (v := 0) hx hb dL_refuses_58 (by decide) ?_
      obtain ⟨x128, T129, hz130, hM⟩ := zx_b2E hM
      have hF := zx_fW hD hS hA
      refine va_calli (va_runS (As := [.ref h, .int 3, .int (x114 + x127), .int 9, .int 0]) (rest := []) ⟨hx, hb, hml, hown, hts⟩ (c_L_call l hlt D cI cZ cT h hh aa T124 _ N 3 (x114 + x127) 9 0 hz130) (va_cwS 5 hts (zg_S zw_4_2 zw_4_3 zw_3_14 zw_4_4) rfl rfl rfl zyL_call ⟨Nat.le_of_ble_eq_true rfl, Nat.le_of_ble_eq_true rfl⟩) ⟨bY_blind, bY_pre hP hK hD hN hXX hNc hS hF⟩ rfl rfl hl.1 rfl (lv_room (Nat.le_of_ble_eq_true rfl)) dL_refuses_59 ⟨by show (kc + 3) + 1 ≤ 34; omega, by show 6 * (kc + 3) + 6 ≤ 204; omega⟩) hS (fun q _ h => hF q h) (fun q h => hF q h) (fun r u t H1 lc ht hvm hw hB hz1 hk1 hS => ?_)
      obtain ⟨hw1, hw2⟩ := Prod.mk.inj hw; subst hw1; subst hw2
      rw [ht] at hB
      replace hP := hB
      replace hD := zx2_Da T129 hD
      refine W.widen (k := (kc + 4)) (n := 6 * (kc + 4)) (by omega) (by omega) ?_
      refine lv_ldc (v := (-9999001)) hx hb hown (hts _ zw_3_22) dL_refuses_62 ?_
      refine lv_icmp_ne (tgt := 173) hx hb dL_refuses_64 (by decide) (fun q131 => ?_) (fun q131 => ?_)
      · replace hM := zx_f q131 hM
        exact j173 p1 T129 (kc + 4) _ _ _ (by omega) hP hD hS (lv_sub hl [1, 2] rfl) hM
      · replace hM := zx_t q131 hM
        refine lv_aload_n hx hb dL_refuses_67 rfl (lv_at hl 1 rfl) ?_
        refine lv_iconst (v := 3) hx hb dL_refuses_68 (by decide) ?_
        refine lv_iload_n hx hb dL_refuses_69 rfl (lv_at hl 2 rfl) ?_
        refine lv_iload_n hx hb dL_refuses_70 rfl (lv_at hl 0 rfl) ?_
        obtain ⟨q132, hM⟩ := zx_nzE hM
        refine lv_irem hx hb dL_refuses_71 q132 ?_
        obtain ⟨x133, ex133, hM⟩ := zx_nE hM
        refine zx_top ex133 ?_
        refine lv_bipush (v := 7) hx hb dL_refuses_72 (by decide) ?_
        refine lv_iload_n hx hb dL_refuses_74 rfl (lv_at hl 2 rfl) ?_
        refine lv_bipush (v := 9) hx hb dL_refuses_75 (by decide) ?_
        refine lv_irem hx hb dL_refuses_77 (by decide) ?_
        obtain ⟨x134, ex134, hM⟩ := zx_nE hM
        refine zx_top ex134 ?_
        refine lv_iadd hx hb dL_refuses_78 ?_
        refine lv_iconst (v := 0) hx hb dL_refuses_79 (by decide) ?_
        obtain ⟨x135, T136, hz137, hM⟩ := zx_b2E hM
        have hF := zx_fW hD hS hA
        refine va_calli (va_runS (As := [.ref h, .int 3, .int x133, .int (7 + x134), .int 0]) (rest := []) ⟨hx, hb, hml, hown, hts⟩ (c_L_call l hlt D cI cZ cT h hh aa T129 _ N 3 x133 (7 + x134) 0 hz137) (va_cwS 5 hts (zg_S zw_4_2 zw_4_3 zw_3_14 zw_4_4) rfl rfl rfl zyL_call ⟨Nat.le_of_ble_eq_true rfl, Nat.le_of_ble_eq_true rfl⟩) ⟨bY_blind, bY_pre hP hK hD hN hXX hNc hS hF⟩ rfl rfl hl.1 rfl (lv_room (Nat.le_of_ble_eq_true rfl)) dL_refuses_80 ⟨by show (kc + 4) + 1 ≤ 34; omega, by show 6 * (kc + 4) + 6 ≤ 204; omega⟩) hS (fun q _ h => hF q h) (fun q h => hF q h) (fun r u t H1 lc ht hvm hw hB hz1 hk1 hS => ?_)
        obtain ⟨hw1, hw2⟩ := Prod.mk.inj hw; subst hw1; subst hw2
        rw [ht] at hB
        replace hP := hB
        replace hD := zx2_Da T136 hD
        refine W.widen (k := (kc + 5)) (n := 6 * (kc + 5)) (by omega) (by omega) ?_
        refine lv_ldc (v := (-9999002)) hx hb hown (hts _ zw_3_21) dL_refuses_83 ?_
        refine lv_icmp_ne (tgt := 173) hx hb dL_refuses_85 (by decide) (fun q138 => ?_) (fun q138 => ?_)
        · replace hM := zx_f q138 hM
          exact j173 p1 T136 (kc + 5) _ _ _ (by omega) hP hD hS (lv_sub hl [1, 2] rfl) hM
        · replace hM := zx_t q138 hM
          refine lv_aload_n hx hb dL_refuses_88 rfl (lv_at hl 1 rfl) ?_
          refine lv_iconst (v := 4) hx hb dL_refuses_89 (by decide) ?_
          refine lv_iload_n hx hb dL_refuses_90 rfl (lv_at hl 0 rfl) ?_
          refine lv_iconst (v := (-1)) hx hb dL_refuses_91 (by decide) ?_
          refine lv_iconst (v := 0) hx hb dL_refuses_92 (by decide) ?_
          obtain ⟨x139, T140, hz141, hM⟩ := zx_b2E hM
          have hF := zx_fW hD hS hA
          refine va_calli (va_runS (As := [.ref h, .int 4, .int x114, .int (-1), .int 0]) (rest := []) ⟨hx, hb, hml, hown, hts⟩ (c_L_call l hlt D cI cZ cT h hh aa T136 _ N 4 x114 (-1) 0 hz141) (va_cwS 5 hts (zg_S zw_4_2 zw_4_3 zw_3_14 zw_4_4) rfl rfl rfl zyL_call ⟨Nat.le_of_ble_eq_true rfl, Nat.le_of_ble_eq_true rfl⟩) ⟨bY_blind, bY_pre hP hK hD hN hXX hNc hS hF⟩ rfl rfl hl.1 rfl (lv_room (Nat.le_of_ble_eq_true rfl)) dL_refuses_93 ⟨by show (kc + 5) + 1 ≤ 34; omega, by show 6 * (kc + 5) + 6 ≤ 204; omega⟩) hS (fun q _ h => hF q h) (fun q h => hF q h) (fun r u t H1 lc ht hvm hw hB hz1 hk1 hS => ?_)
          obtain ⟨hw1, hw2⟩ := Prod.mk.inj hw; subst hw1; subst hw2
          rw [ht] at hB
          replace hP := hB
          replace hD := zx2_Da T140 hD
          refine W.widen (k := (kc + 6)) (n := 6 * (kc + 6)) (by omega) (by omega) ?_
          refine lv_ldc (v := (-9999001)) hx hb hown (hts _ zw_3_22) dL_refuses_96 ?_
          refine lv_icmp_ne (tgt := 173) hx hb dL_refuses_98 (by decide) (fun q142 => ?_) (fun q142 => ?_)
          · replace hM := zx_f q142 hM
            exact j173 p1 T140 (kc + 6) _ _ _ (by omega) hP hD hS (lv_sub hl [1, 2] rfl) hM
          · replace hM := zx_t q142 hM
            refine lv_aload_n hx hb dL_refuses_101 rfl (lv_at hl 1 rfl) ?_
            refine lv_iconst (v := 4) hx hb dL_refuses_102 (by decide) ?_
            refine lv_iload_n hx hb dL_refuses_103 rfl (lv_at hl 2 rfl) ?_
            refine lv_iload_n hx hb dL_refuses_104 rfl (lv_at hl 0 rfl) ?_
            obtain ⟨q143, hM⟩ := zx_nzE hM
            refine lv_irem hx hb dL_refuses_105 q143 ?_
            obtain ⟨x144, ex144, hM⟩ := zx_nE hM
            refine zx_top ex144 ?_
            refine lv_iconst (v := (-1)) hx hb dL_refuses_106 (by decide) ?_
            refine lv_iload_n hx hb dL_refuses_107 rfl (lv_at hl 2 rfl) ?_
            refine lv_bipush (v := 9) hx hb dL_refuses_108 (by decide) ?_
            refine lv_irem hx hb dL_refuses_110 (by decide) ?_
            obtain ⟨x145, ex145, hM⟩ := zx_nE hM
            refine zx_top ex145 ?_
            refine lv_isub hx hb dL_refuses_111 ?_
            refine lv_iconst (v := 0) hx hb dL_refuses_112 (by decide) ?_
            obtain ⟨x146, T147, hz148, hM⟩ := zx_b2E hM
            have hF := zx_fW hD hS hA
            refine va_calli (va_runS (As := [.ref h, .int 4, .int x144, .int ((-1) - x145), .int 0]) (rest := []) ⟨hx, hb, hml, hown, hts⟩ (c_L_call l hlt D cI cZ cT h hh aa T140 _ N 4 x144 ((-1) - x145) 0 hz148) (va_cwS 5 hts (zg_S zw_4_2 zw_4_3 zw_3_14 zw_4_4) rfl rfl rfl zyL_call ⟨Nat.le_of_ble_eq_true rfl, Nat.le_of_ble_eq_true rfl⟩) ⟨bY_blind, bY_pre hP hK hD hN hXX hNc hS hF⟩ rfl rfl hl.1 rfl (lv_room (Nat.le_of_ble_eq_true rfl)) dL_refuses_113 ⟨by show (kc + 6) + 1 ≤ 34; omega, by show 6 * (kc + 6) + 6 ≤ 204; omega⟩) hS (fun q _ h => hF q h) (fun q h => hF q h) (fun r u t H1 lc ht hvm hw hB hz1 hk1 hS => ?_)
            obtain ⟨hw1, hw2⟩ := Prod.mk.inj hw; subst hw1; subst hw2
            rw [ht] at hB
            replace hP := hB
            replace hD := zx2_Da T147 hD
            refine W.widen (k := (kc + 7)) (n := 6 * (kc + 7)) (by omega) (by omega) ?_
            refine lv_ldc (v := (-9999002)) hx hb hown (hts _ zw_3_21) dL_refuses_116 ?_
            refine lv_icmp_ne (tgt := 173) hx hb dL_refuses_118 (by decide) (fun q149 => ?_) (fun q149 => ?_)
            · replace hM := zx_f q149 hM
              exact j173 p1 T147 (kc + 7) _ _ _ (by omega) hP hD hS (lv_sub hl [1, 2] rfl) hM
            · replace hM := zx_t q149 hM
              refine lv_aload_n hx hb dL_refuses_121 rfl (lv_at hl 1 rfl) ?_
              refine lv_bipush (v := 100) hx hb dL_refuses_122 (by decide) ?_
              refine lv_iload_n hx hb dL_refuses_124 rfl (lv_at hl 2 rfl) ?_
              refine lv_bipush (v := 9) hx hb dL_refuses_125 (by decide) ?_
              refine lv_irem hx hb dL_refuses_127 (by decide) ?_
              obtain ⟨x150, ex150, hM⟩ := zx_nE hM
              refine zx_top ex150 ?_
              refine lv_iadd hx hb dL_refuses_128 ?_
              refine lv_iconst (v := 0) hx hb dL_refuses_129 (by decide) ?_
              refine lv_bipush (v := 100) hx hb dL_refuses_130 (by decide) ?_
              refine lv_iconst (v := 0) hx hb dL_refuses_132 (by decide) ?_
              obtain ⟨x151, T152, hz153, hM⟩ := zx_b2E hM
              have hF := zx_fW hD hS hA
              refine va_calli (vx_runSW (As := [.ref h, .int (100 + x150), .int 0, .int 100, .int 0]) (rest := []) ⟨hx, hb, hml, hown, hts⟩ (c_L_tryAdd l hlt D cI cZ cT h hh aa T147 _ N (100 + x150) 0 100 0 hz153) (vx_cwSW 5 hts (zg_S zw_17_13 zw_17_14 zw_3_14 zw_17_15) rfl rfl rfl zyL_tryAdd ⟨Nat.le_of_ble_eq_true rfl, Nat.le_of_ble_eq_true rfl⟩) ⟨bY_blind, bY_pre hP hK hD hN hXX hNc hS hF⟩ rfl rfl hl.1 rfl (lv_room (Nat.le_of_ble_eq_true rfl)) dL_refuses_133 ⟨by show (kc + 7) + 1 ≤ 34; omega, by show 6 * (kc + 7) + 6 ≤ 204; omega⟩) hS (fun q _ h => hF q h) (fun q h => hF q h) (fun r u t H1 lc ht hvm hw hB hz1 hk1 hS => ?_)
              obtain ⟨hw1, hw2⟩ := Prod.mk.inj hw; subst hw1; subst hw2
              rw [ht] at hB
              replace hP := hB
              replace hD := zx2_Da T152 hD
              refine W.widen (k := (kc + 8)) (n := 6 * (kc + 8)) (by omega) (by omega) ?_
              refine lv_ldc (v := (-9999002)) hx hb hown (hts _ zw_3_21) dL_refuses_136 ?_
              refine lv_icmp_ne (tgt := 173) hx hb dL_refuses_138 (by decide) (fun q154 => ?_) (fun q154 => ?_)
              · replace hM := zx_f q154 hM
                exact j173 p1 T152 (kc + 8) _ _ _ (by omega) hP hD hS (lv_sub hl [1, 2] rfl) hM
              · replace hM := zx_t q154 hM
                refine lv_aload_n hx hb dL_refuses_141 rfl (lv_at hl 1 rfl) ?_
                refine lv_iconst (v := 5) hx hb dL_refuses_142 (by decide) ?_
                refine lv_iconst (v := 5) hx hb dL_refuses_143 (by decide) ?_
                refine lv_iconst (v := 4) hx hb dL_refuses_144 (by decide) ?_
                refine lv_bipush (v := 9) hx hb dL_refuses_145 (by decide) ?_
                obtain ⟨x155, T156, hz157, hM⟩ := zx_b2E hM
                have hF := zx_fW hD hS hA
                refine va_calli (vx_runSW (As := [.ref h, .int 5, .int 5, .int 4, .int 9]) (rest := []) ⟨hx, hb, hml, hown, hts⟩ (c_L_tryAdd l hlt D cI cZ cT h hh aa T152 _ N 5 5 4 9 hz157) (vx_cwSW 5 hts (zg_S zw_17_13 zw_17_14 zw_3_14 zw_17_15) rfl rfl rfl zyL_tryAdd ⟨Nat.le_of_ble_eq_true rfl, Nat.le_of_ble_eq_true rfl⟩) ⟨bY_blind, bY_pre hP hK hD hN hXX hNc hS hF⟩ rfl rfl hl.1 rfl (lv_room (Nat.le_of_ble_eq_true rfl)) dL_refuses_147 ⟨by show (kc + 8) + 1 ≤ 34; omega, by show 6 * (kc + 8) + 6 ≤ 204; omega⟩) hS (fun q _ h => hF q h) (fun q h => hF q h) (fun r u t H1 lc ht hvm hw hB hz1 hk1 hS => ?_)
                obtain ⟨hw1, hw2⟩ := Prod.mk.inj hw; subst hw1; subst hw2
                rw [ht] at hB
                replace hP := hB
                replace hD := zx2_Da T156 hD
                refine W.widen (k := (kc + 9)) (n := 6 * (kc + 9)) (by omega) (by omega) ?_
                refine lv_ldc (v := (-9999002)) hx hb hown (hts _ zw_3_21) dL_refuses_150 ?_
                refine lv_icmp_ne (tgt := 173) hx hb dL_refuses_152 (by decide) (fun q158 => ?_) (fun q158 => ?_)
                · replace hM := zx_f q158 hM
                  exact j173 p1 T156 (kc + 9) _ _ _ (by omega) hP hD hS (lv_sub hl [1, 2] rfl) hM
                · replace hM := zx_t q158 hM
                  refine lv_aload_n hx hb dL_refuses_155 rfl (lv_at hl 1 rfl) ?_
                  refine lv_iconst (v := 5) hx hb dL_refuses_156 (by decide) ?_
                  refine lv_iconst (v := (-1)) hx hb dL_refuses_157 (by decide) ?_
                  refine lv_iconst (v := 5) hx hb dL_refuses_158 (by decide) ?_
                  refine lv_bipush (v := 9) hx hb dL_refuses_159 (by decide) ?_
                  obtain ⟨x159, T160, hz161, hM⟩ := zx_b2E hM
                  have hF := zx_fW hD hS hA
                  refine va_calli (vx_runSW (As := [.ref h, .int 5, .int (-1), .int 5, .int 9]) (rest := []) ⟨hx, hb, hml, hown, hts⟩ (c_L_tryAdd l hlt D cI cZ cT h hh aa T156 _ N 5 (-1) 5 9 hz161) (vx_cwSW 5 hts (zg_S zw_17_13 zw_17_14 zw_3_14 zw_17_15) rfl rfl rfl zyL_tryAdd ⟨Nat.le_of_ble_eq_true rfl, Nat.le_of_ble_eq_true rfl⟩) ⟨bY_blind, bY_pre hP hK hD hN hXX hNc hS hF⟩ rfl rfl hl.1 rfl (lv_room (Nat.le_of_ble_eq_true rfl)) dL_refuses_161 ⟨by show (kc + 9) + 1 ≤ 34; omega, by show 6 * (kc + 9) + 6 ≤ 204; omega⟩) hS (fun q _ h => hF q h) (fun q h => hF q h) (fun r u t H1 lc ht hvm hw hB hz1 hk1 hS => ?_)
                  obtain ⟨hw1, hw2⟩ := Prod.mk.inj hw; subst hw1; subst hw2
                  rw [ht] at hB
                  replace hP := hB
                  replace hD := zx2_Da T160 hD
                  refine W.widen (k := (kc + 10)) (n := 6 * (kc + 10)) (by omega) (by omega) ?_
                  refine lv_ldc (v := (-9999002)) hx hb hown (hts _ zw_3_21) dL_refuses_164 ?_
                  refine lv_icmp_ne (tgt := 173) hx hb dL_refuses_166 (by decide) (fun q162 => ?_) (fun q162 => ?_)
                  · replace hM := zx_f q162 hM
                    exact j173 p1 T160 (kc + 10) _ _ _ (by omega) hP hD hS (lv_sub hl [1, 2] rfl) hM
                  · replace hM := zx_t q162 hM
                    refine lv_iconst (v := 1) hx hb dL_refuses_169 (by decide) ?_
                    refine lv_goto (tgt := 174) hx hb dL_refuses_170 (by decide) ?_
                    exact j174 p1 1 T160 (kc + 10) _ _ _ (by omega) hP hD hS (lv_sub hl [1, 2] rfl) hM
