/-! ShallowBoxesModel.layBoxes([I)V -/
def f_X3_layBoxes_j115 (N : Nat) (w : Nat) (k48 : Int32 → zx_S → Option (zx_S)) (k56 : Int32 → Int32 → zx_S → Option (zx_S)) (v2 : Int32) (v3 : Int32) (S_ : zx_S) : Option (zx_S) :=
  (zx_n (v3 + 1) (fun x5 =>
k56 v2 x5 S_))
def f_X3_layBoxes_j106 (N : Nat) (w : Nat) (k48 : Int32 → zx_S → Option (zx_S)) (k56 : Int32 → Int32 → zx_S → Option (zx_S)) (k65 : Int32 → Int32 → Int32 → zx_S → Option (zx_S)) (v2 : Int32) (v3 : Int32) (v4 : Int32) (t1 : Int32) (t2 : Int32) (t3 : Int32) (S_ : zx_S) : Option (zx_S) :=
  (zx_b1 (f_X3_joinInto N t1 t2 t3 S_) (fun T12 =>
(zx_n (v4 + 1) (fun x14 =>
k65 v2 v3 x14 T12))))
def f_X3_layBoxes_l65 (N : Nat) (w : Nat) (k48 : Int32 → zx_S → Option (zx_S)) (k56 : Int32 → Int32 → zx_S → Option (zx_S)) : Nat → Int32 → Int32 → Int32 → zx_S → Option (zx_S)
  | 0, _, _, _, _ => none
  | n65 + 1, v2, v3, v4, S_ => (zx_b1 (f_X3_many N 380 v3 (S_ w)) (fun x6 =>
(if x6 ≤ v4 then
  f_X3_layBoxes_j115 N w k48 k56 v2 v3 S_ else
  (zx_b1 (f_X3_levelOf N 380 v3 (S_ w)) (fun x9 =>
(if x9 = v2 then
  (zx_b1 (f_X3_entryOf N 380 v3 v4 (S_ w)) (fun x15 =>
(if v4 = 0 then
  f_X3_layBoxes_j106 N w k48 k56 (f_X3_layBoxes_l65 N w k48 k56  n65) v2 v3 v4 (24 + v3) x15 1 S_ else
  f_X3_layBoxes_j106 N w k48 k56 (f_X3_layBoxes_l65 N w k48 k56  n65) v2 v3 v4 (24 + v3) x15 0 S_))) else
  f_X3_layBoxes_j115 N w k48 k56 v2 v3 S_))))))
def f_X3_layBoxes_l56 (N : Nat) (w : Nat) (k48 : Int32 → zx_S → Option (zx_S)) : Nat → Int32 → Int32 → zx_S → Option (zx_S)
  | 0, _, _, _ => none
  | n56 + 1, v2, v3, S_ => (if 32 ≤ v3 then
  (zx_n (v2 + 1) (fun x4 =>
k48 x4 S_)) else
  f_X3_layBoxes_l65 N w k48 (f_X3_layBoxes_l56 N w k48  n56) N v2 v3 0 S_)
def f_X3_layBoxes_l48 (N : Nat) (w : Nat) : Nat → Int32 → zx_S → Option (zx_S)
  | 0, _, _ => none
  | n48 + 1, v2, S_ => (if 6 ≤ v2 then
  some S_ else
  f_X3_layBoxes_l56 N w (f_X3_layBoxes_l48 N w  n48) N v2 0 S_)
def f_X3_layBoxes_l10 (N : Nat) (w : Nat) (k2 : Int32 → zx_S → Option (zx_S)) : Nat → Int32 → Int32 → zx_S → Option (zx_S)
  | 0, _, _, _ => none
  | n10 + 1, v2, v3, S_ => (if 4 ≤ v3 then
  (zx_n (v2 + 1) (fun x19 =>
k2 x19 S_)) else
  (zx_rd 380 (S_ w) (((5 * v2) + 1) + v3) (fun x20 =>
(zx_wr 224 ((4 * v2) + v3) (zx_st S_ 6 (upd (S_ 6) (Int32.toNatClampNeg ((4 * v2) + v3)) x20)) (fun T22 =>
(zx_n (v3 + 1) (fun x24 =>
f_X3_layBoxes_l10 N w k2  n10 v2 x24 T22)))))))
def f_X3_layBoxes_l2 (N : Nat) (w : Nat) : Nat → Int32 → zx_S → Option (zx_S)
  | 0, _, _ => none
  | n2 + 1, v2, S_ => (if 24 ≤ v2 then
  f_X3_layBoxes_l48 N w  N 0 S_ else
  f_X3_layBoxes_l10 N w (f_X3_layBoxes_l2 N w  n2) N v2 0 S_)
def f_X3_layBoxes (N : Nat) (w : Nat) (S : zx_S) : Option (zx_S) :=
  f_X3_layBoxes_l2 N w  N 0 S
abbrev rmX3_layBoxes : Room := { frames := 2, cells := 0, slots := 0, locals := 42 }
abbrev zsX3_layBoxes : List Cond := .code yX3_layBoxes cX3_layBoxes 5 none :: wsL_law
theorem zyX3_layBoxes : yX3_layBoxes.cls ≠ "java/lang/invoke/MethodHandle" ∧ yX3_layBoxes.cls ≠ "java/lang/invoke/VarHandle" ∧ (parseMethodDescriptor yX3_layBoxes.desc).map (fun d => d.parameters.length) = some 1 := by decide +kernel
set_option maxHeartbeats 4000000 in
set_option maxRecDepth 100000 in
theorem c_X3_layBoxes (l : Launch) (D : va_G) (cI cZ cT : ClassId) (h : Nat) (ad : Nat → Nat) (S : zx_S) (sz : Nat) (N : Nat) (w : Nat) (hrw : w = 1 ∨ w = 2) {R : zx_S} (hM : f_X3_layBoxes N w S = some R) : Met l yX3_layBoxes zsX3_layBoxes rmX3_layBoxes (va_Pc [.ref h, .ref (ad w)] (bS D (zx_ty cI cZ cT) (xW3 cI cZ h ad S) sz)) (va_Qv (fun u => R = u) (fun u t => va_P D vwCl (xW3 cI cZ h ad u) t.heap) (va_A (xW3 cI cZ h ad S) sz)) 0 0 (va_A (xW3 cI cZ h ad S) sz) := by
  refine Met.ofW (cc := cX3_layBoxes) (maxL := 5) (ret := none) (by decide) rfl ?_
  intro p e s m args below meth c s₁ B hml hv
  obtain ⟨rfl, hsz, hP, hK, hD0, hN⟩ := hv
  have hx := B.exec
  have hb := B.bytes
  have hr := B.returns
  have hts : ∀ w ∈ wsL_law, w.before _ s = true := fun w hw => atoms_spec (ws := zsX3_layBoxes) B.pre w (List.mem_cons_of_mem _ hw)
  have hown : s.vm.findClass RX3 = some m.cls := findClass_of_methodNamed B.named
  have hlocks := B.notSynchronized
  subst hsz
  have hD := hD0.self (sz := s.heap.size)
  generalize hAe : va_A (xW3 cI cZ h ad S) s.heap.size = A at hD ⊢
  have hA : ∀ q : Nat, s.heap.size ≤ q → A q := fun q h => by rw [← hAe]; exact Or.inr h
  have hS : va_S A s.heap s.heap [] := va_S.rf
  have hl := lv_entry ([.ref h, .ref (ad w)]) (n := 5) (Nat.le_of_ble_eq_true rfl)
  rw [lg_entry_eq]
  generalize (lg_sl ([.ref h, .ref (ad w)]) ++ List.replicate (5 - (lg_sl ([.ref h, .ref (ad w)])).length) Slot.unset).toArray = ls at hl ⊢
  have hl : lv_has ls 5 [(0, .ref h), (1, .ref (ad w))] := hl
  generalize hQ : MQ below (va_Qv (fun u => R = u) (fun u t => va_P D vwCl (xW3 cI cZ h ad u) t.heap) A) ([.ref h, .ref (ad w)] : List Value).toArray s 0 0 A = Q9
  replace hQ := hQ.symm
  unfold f_X3_layBoxes at hM
  have l2 : ∀ (n2 : Nat) (v2 : Int32) (S_ : zx_S) (H : Heap) (lc : List Loc) (ls : Array Slot), va_P D vwCl (xW3 cI cZ h ad S_) H → va_D A (xW3 cI cZ h ad S_) → va_S A s.heap H lc → lv_has ls 5 [(0, .ref h), (1, .ref (ad w)), (2, .int v2)] → f_X3_layBoxes_l2 N w n2 v2 S_ = some R → W p l e (headSpec zsX3_layBoxes rmX3_layBoxes).room s m ([.ref h, .ref (ad w)] : List Value).toArray below meth c H lc 0 0 Q9 (F0 m 2 ls []) := by
    intro n2
    induction n2 with
    | zero =>
      intro v2 S_ H lc ls hP hD hS hl hM
      rw [f_X3_layBoxes_l2] at hM; exact absurd hM (by intro h; cases h)
    | succ n2 ih2 =>
      intro v2 S_ H lc ls hP hD hS hl hM
      rw [f_X3_layBoxes_l2] at hM
      refine lv_iload_n hx hb dX3_layBoxes_2 rfl (lv_at hl 2 rfl) ?_
      refine lv_bipush (v := 24) hx hb dX3_layBoxes_3 (by decide) ?_
      refine lv_icmp_ge (tgt := 46) hx hb dX3_layBoxes_5 (by decide) (fun q1 => ?_) (fun q1 => ?_)
      · replace hM := zx_t q1 hM
        have l48 : ∀ (n48 : Nat) (v2 : Int32) (S_ : zx_S) (H : Heap) (lc : List Loc) (ls : Array Slot), va_P D vwCl (xW3 cI cZ h ad S_) H → va_D A (xW3 cI cZ h ad S_) → va_S A s.heap H lc → lv_has ls 5 [(0, .ref h), (1, .ref (ad w)), (2, .int v2)] → f_X3_layBoxes_l48 N w n48 v2 S_ = some R → W p l e (headSpec zsX3_layBoxes rmX3_layBoxes).room s m ([.ref h, .ref (ad w)] : List Value).toArray below meth c H lc 0 0 Q9 (F0 m 48 ls []) := by
          intro n48
          induction n48 with
          | zero =>
            intro v2 S_ H lc ls hP hD hS hl hM
            rw [f_X3_layBoxes_l48] at hM; exact absurd hM (by intro h; cases h)
          | succ n48 ih48 =>
            intro v2 S_ H lc ls hP hD hS hl hM
            rw [f_X3_layBoxes_l48] at hM
            refine lv_iload_n hx hb dX3_layBoxes_48 rfl (lv_at hl 2 rfl) ?_
            refine lv_bipush (v := 6) hx hb dX3_layBoxes_49 (by decide) ?_
            refine lv_icmp_ge (tgt := 127) hx hb dX3_layBoxes_51 (by decide) (fun q2 => ?_) (fun q2 => ?_)
            · replace hM := zx_t q2 hM
              rw [hQ]
              exact W.vret hx hb hr (fun t ht hW => ⟨⟨S_, rfl, (Option.some.inj hM).symm, by show va_P D vwCl _ t.heap; rw [ht]; exact hP⟩, hS.F ht⟩) hS.2.2 dX3_layBoxes_127
            · replace hM := zx_f q2 hM
              have l56 : ∀ (n56 : Nat) (v2 : Int32) (v3 : Int32) (S_ : zx_S) (H : Heap) (lc : List Loc) (ls : Array Slot), va_P D vwCl (xW3 cI cZ h ad S_) H → va_D A (xW3 cI cZ h ad S_) → va_S A s.heap H lc → lv_has ls 5 [(0, .ref h), (1, .ref (ad w)), (2, .int v2), (3, .int v3)] → f_X3_layBoxes_l56 N w (f_X3_layBoxes_l48 N w  n48) n56 v2 v3 S_ = some R → W p l e (headSpec zsX3_layBoxes rmX3_layBoxes).room s m ([.ref h, .ref (ad w)] : List Value).toArray below meth c H lc 0 0 Q9 (F0 m 56 ls []) := by
                intro n56
                induction n56 with
                | zero =>
                  intro v2 v3 S_ H lc ls hP hD hS hl hM
                  rw [f_X3_layBoxes_l56] at hM; exact absurd hM (by intro h; cases h)
                | succ n56 ih56 =>
                  intro v2 v3 S_ H lc ls hP hD hS hl hM
                  rw [f_X3_layBoxes_l56] at hM
                  refine lv_iload_n hx hb dX3_layBoxes_56 rfl (lv_at hl 3 rfl) ?_
                  refine lv_bipush (v := 32) hx hb dX3_layBoxes_57 (by decide) ?_
                  refine lv_icmp_ge (tgt := 121) hx hb dX3_layBoxes_59 (by decide) (fun q3 => ?_) (fun q3 => ?_)
                  · replace hM := zx_t q3 hM
                    obtain ⟨x4, ex4, hM⟩ := zx_nE hM
                    refine lv_iinc (v := x4) (lv' := [(2, .int x4), (0, .ref h), (1, .ref (ad w)), (3, .int v3)]) hx hb dX3_layBoxes_121 hl (k := 2) rfl (by rw [ex4]; rfl) (by decide) rfl (fun ls hl => ?_)
                    refine lv_goto (tgt := 48) hx hb dX3_layBoxes_124 (by decide) ?_
                    exact ih48 x4 S_ _ _ _ hP hD hS (lv_sub hl [1, 2, 0] rfl) hM
                  · replace hM := zx_f q3 hM
                    have l65 : ∀ (n65 : Nat) (v2 : Int32) (v3 : Int32) (v4 : Int32) (S_ : zx_S) (H : Heap) (lc : List Loc) (ls : Array Slot), va_P D vwCl (xW3 cI cZ h ad S_) H → va_D A (xW3 cI cZ h ad S_) → va_S A s.heap H lc → lv_has ls 5 [(0, .ref h), (1, .ref (ad w)), (2, .int v2), (3, .int v3), (4, .int v4)] → f_X3_layBoxes_l65 N w (f_X3_layBoxes_l48 N w  n48) (f_X3_layBoxes_l56 N w (f_X3_layBoxes_l48 N w  n48)  n56) n65 v2 v3 v4 S_ = some R → W p l e (headSpec zsX3_layBoxes rmX3_layBoxes).room s m ([.ref h, .ref (ad w)] : List Value).toArray below meth c H lc 0 0 Q9 (F0 m 65 ls []) := by
                      intro n65
                      induction n65 with
                      | zero =>
                        intro v2 v3 v4 S_ H lc ls hP hD hS hl hM
                        rw [f_X3_layBoxes_l65] at hM; exact absurd hM (by intro h; cases h)
                      | succ n65 ih65 =>
                        intro v2 v3 v4 S_ H lc ls hP hD hS hl hM
                        rw [f_X3_layBoxes_l65] at hM
                        have j115 : ∀ (v2 : Int32) (v3 : Int32) (S_ : zx_S) (H : Heap) (lc : List Loc) (ls : Array Slot), va_P D vwCl (xW3 cI cZ h ad S_) H → va_D A (xW3 cI cZ h ad S_) → va_S A s.heap H lc → lv_has ls 5 [(0, .ref h), (1, .ref (ad w)), (2, .int v2), (3, .int v3)] → f_X3_layBoxes_j115 N w (f_X3_layBoxes_l48 N w  n48) (f_X3_layBoxes_l56 N w (f_X3_layBoxes_l48 N w  n48)  n56) v2 v3 S_ = some R → W p l e (headSpec zsX3_layBoxes rmX3_layBoxes).room s m ([.ref h, .ref (ad w)] : List Value).toArray below meth c H lc 0 0 Q9 (F0 m 115 ls []) := by
                          intro v2 v3 S_ H lc ls hP hD hS hl hM
                          unfold f_X3_layBoxes_j115 at hM
                          obtain ⟨x5, ex5, hM⟩ := zx_nE hM
                          refine lv_iinc (v := x5) (lv' := [(3, .int x5), (0, .ref h), (1, .ref (ad w)), (2, .int v2)]) hx hb dX3_layBoxes_115 hl (k := 3) rfl (by rw [ex5]; rfl) (by decide) rfl (fun ls hl => ?_)
                          refine lv_goto (tgt := 56) hx hb dX3_layBoxes_118 (by decide) ?_
                          exact ih56 v2 x5 S_ _ _ _ hP hD hS (lv_sub hl [1, 2, 3, 0] rfl) hM
                        refine lv_iload hx hb dX3_layBoxes_65 (lv_at hl 4 rfl) ?_
                        refine lv_aload_n hx hb dX3_layBoxes_67 rfl (lv_at hl 1 rfl) ?_
                        refine lv_iload_n hx hb dX3_layBoxes_68 rfl (lv_at hl 3 rfl) ?_
                        obtain ⟨x6, hz7, hM⟩ := zx_b1E hM
                        refine va_calli (va_runS (As := [.ref (ad w), .int v3]) (rest := [.int v4]) ⟨hx, hb, hml, hown, hts⟩ (c_X3_many l D cI cZ cT (ad w) 380 (S_ w) _ N v3 hz7) (va_cwS 2 hts (zg_S zw_9_3 zw_9_4 zw_1_5 zw_9_5) rfl rfl rfl zyX3_many ⟨Nat.le_of_ble_eq_true rfl, Nat.le_of_ble_eq_true rfl⟩) ⟨bS_blind, bS_pre (zx_P1 hP (w + 1) ((xW3_aw hrw))) hK (zx_D1 hD (w + 1) ((xW3_aw hrw))) hN⟩ rfl rfl hl.1 rfl (lv_room (Nat.le_of_ble_eq_true rfl)) dX3_layBoxes_69 ⟨Nat.zero_le _, Nat.zero_le _⟩) hS (fun q h1 h2 => absurd h1 (Nat.not_lt.mpr h2)) (fun q h => hA q (Nat.le_trans hS.1 h)) (fun r u t H1 lc ht hvm hw hB hz1 hk1 hS => ?_)
                        replace hw : x6 = r := hw; subst hw
                        replace hP := zx_keep hP hk1
                        refine lv_icmp_ge (tgt := 115) hx hb dX3_layBoxes_72 (by decide) (fun q8 => ?_) (fun q8 => ?_)
                        · replace hM := zx_t q8 hM
                          exact j115 v2 v3 S_ _ _ _ hP hD hS (lv_sub hl [0, 1, 2, 3] rfl) hM
                        · replace hM := zx_f q8 hM
                          refine lv_aload_n hx hb dX3_layBoxes_75 rfl (lv_at hl 1 rfl) ?_
                          refine lv_iload_n hx hb dX3_layBoxes_76 rfl (lv_at hl 3 rfl) ?_
                          obtain ⟨x9, hz10, hM⟩ := zx_b1E hM
                          refine va_calli (va_runS (As := [.ref (ad w), .int v3]) (rest := []) ⟨hx, hb, hml, hown, hts⟩ (c_X3_levelOf l D cI cZ cT (ad w) 380 (S_ w) _ N v3 hz10) (va_cwS 2 hts (zg_S zw_9_9 zw_9_10 zw_1_5 zw_9_11) rfl rfl rfl zyX3_levelOf ⟨Nat.le_of_ble_eq_true rfl, Nat.le_of_ble_eq_true rfl⟩) ⟨bS_blind, bS_pre (zx_P1 hP (w + 1) ((xW3_aw hrw))) hK (zx_D1 hD (w + 1) ((xW3_aw hrw))) hN⟩ rfl rfl hl.1 rfl (lv_room (Nat.le_of_ble_eq_true rfl)) dX3_layBoxes_77 ⟨Nat.zero_le _, Nat.zero_le _⟩) hS (fun q h1 h2 => absurd h1 (Nat.not_lt.mpr h2)) (fun q h => hA q (Nat.le_trans hS.1 h)) (fun r u t H1 lc ht hvm hw hB hz1 hk1 hS => ?_)
                          replace hw : x9 = r := hw; subst hw
                          replace hP := zx_keep hP hk1
                          refine lv_iload_n hx hb dX3_layBoxes_80 rfl (lv_at hl 2 rfl) ?_
                          refine lv_icmp_ne (tgt := 115) hx hb dX3_layBoxes_81 (by decide) (fun q11 => ?_) (fun q11 => ?_)
                          · replace hM := zx_f q11 hM
                            exact j115 v2 v3 S_ _ _ _ hP hD hS (lv_sub hl [0, 1, 2, 3] rfl) hM
                          · replace hM := zx_t q11 hM
                            have j106 : ∀ (v2 : Int32) (v3 : Int32) (v4 : Int32) (t1 : Int32) (t2 : Int32) (t3 : Int32) (S_ : zx_S) (H : Heap) (lc : List Loc) (ls : Array Slot), va_P D vwCl (xW3 cI cZ h ad S_) H → va_D A (xW3 cI cZ h ad S_) → va_S A s.heap H lc → lv_has ls 5 [(0, .ref h), (1, .ref (ad w)), (2, .int v2), (3, .int v3), (4, .int v4)] → f_X3_layBoxes_j106 N w (f_X3_layBoxes_l48 N w  n48) (f_X3_layBoxes_l56 N w (f_X3_layBoxes_l48 N w  n48)  n56) (f_X3_layBoxes_l65 N w (f_X3_layBoxes_l48 N w  n48) (f_X3_layBoxes_l56 N w (f_X3_layBoxes_l48 N w  n48)  n56)  n65) v2 v3 v4 t1 t2 t3 S_ = some R → W p l e (headSpec zsX3_layBoxes rmX3_layBoxes).room s m ([.ref h, .ref (ad w)] : List Value).toArray below meth c H lc 0 0 Q9 (F0 m 106 ls [.int t3, .int t2, .int t1, .ref h]) := by
                              intro v2 v3 v4 t1 t2 t3 S_ H lc ls hP hD hS hl hM
                              unfold f_X3_layBoxes_j106 at hM
                              obtain ⟨T12, hz13, hM⟩ := zx_b1E hM
                              refine va_callv (va_runV (As := [.int t1, .int t2, .int t3]) (rest := []) ⟨hx, hb, hml, hown, hts⟩ (c_X3_joinInto l D cI cZ cT h ad S_ _ N t1 t2 t3  hz13) (cwV 3 hts (zg_V zw_9_15 zw_9_16 zw_9_17 zw_1_5 zw_9_18) rfl rfl rfl ⟨rfl, zyX3_joinInto⟩ ⟨Nat.le_of_ble_eq_true rfl, Nat.le_of_ble_eq_true rfl⟩) ⟨bS_blind, va_recv hK hP (ci := 3) (q0 := 0) rfl rfl, bS_pre hP hK hD hN⟩ rfl rfl hl.1 rfl (lv_room (Nat.le_of_ble_eq_true rfl)) dX3_layBoxes_106 ⟨Nat.zero_le _, Nat.zero_le _⟩) hS (fun q _ h => zx_fW hD hS hA q h) (fun q h => zx_fW hD hS hA q h) (fun u t H1 lc ht hvm hw hB hz1 hk1 hS => ?_)
                              replace hw : T12 = u := hw; subst hw
                              rw [ht] at hB
                              replace hP := hB
                              replace hD := xW3_D T12 hD
                              obtain ⟨x14, ex14, hM⟩ := zx_nE hM
                              refine lv_iinc (v := x14) (lv' := [(4, .int x14), (0, .ref h), (1, .ref (ad w)), (2, .int v2), (3, .int v3)]) hx hb dX3_layBoxes_109 hl (k := 4) rfl (by rw [ex14]; rfl) (by decide) rfl (fun ls hl => ?_)
                              refine lv_goto (tgt := 65) hx hb dX3_layBoxes_112 (by decide) ?_
                              exact ih65 v2 v3 x14 T12 _ _ _ hP hD hS (lv_sub hl [1, 2, 3, 4, 0] rfl) hM
                            refine lv_aload_n hx hb dX3_layBoxes_84 rfl (lv_at hl 0 rfl) ?_
                            refine lv_bipush (v := 24) hx hb dX3_layBoxes_85 (by decide) ?_
                            refine lv_iload_n hx hb dX3_layBoxes_87 rfl (lv_at hl 3 rfl) ?_
                            refine lv_iadd hx hb dX3_layBoxes_88 ?_
                            refine lv_aload_n hx hb dX3_layBoxes_89 rfl (lv_at hl 1 rfl) ?_
                            refine lv_iload_n hx hb dX3_layBoxes_90 rfl (lv_at hl 3 rfl) ?_
                            refine lv_iload hx hb dX3_layBoxes_91 (lv_at hl 4 rfl) ?_
                            obtain ⟨x15, hz16, hM⟩ := zx_b1E hM
                            refine va_calli (va_runS (As := [.ref (ad w), .int v3, .int v4]) (rest := [.int (24 + v3), .ref h]) ⟨hx, hb, hml, hown, hts⟩ (c_X3_entryOf l D cI cZ cT (ad w) 380 (S_ w) _ N v3 v4 hz16) (va_cwS 3 hts (zg_S zw_9_12 zw_9_13 zw_1_5 zw_9_14) rfl rfl rfl zyX3_entryOf ⟨Nat.le_of_ble_eq_true rfl, Nat.le_of_ble_eq_true rfl⟩) ⟨bS_blind, bS_pre (zx_P1 hP (w + 1) ((xW3_aw hrw))) hK (zx_D1 hD (w + 1) ((xW3_aw hrw))) hN⟩ rfl rfl hl.1 rfl (lv_room (Nat.le_of_ble_eq_true rfl)) dX3_layBoxes_93 ⟨Nat.zero_le _, Nat.zero_le _⟩) hS (fun q h1 h2 => absurd h1 (Nat.not_lt.mpr h2)) (fun q h => hA q (Nat.le_trans hS.1 h)) (fun r u t H1 lc ht hvm hw hB hz1 hk1 hS => ?_)
                            replace hw : x15 = r := hw; subst hw
                            replace hP := zx_keep hP hk1
                            refine lv_iload hx hb dX3_layBoxes_96 (lv_at hl 4 rfl) ?_
                            refine lv_if_ne (tgt := 105) hx hb dX3_layBoxes_98 (by decide) (fun q17 => ?_) (fun q17 => ?_)
                            · replace hM := zx_f q17 hM
                              refine lv_iconst (v := 0) hx hb dX3_layBoxes_105 (by decide) ?_
                              exact j106 v2 v3 v4 (24 + v3) x15 0 S_ _ _ _ hP hD hS (lv_sub hl [0, 1, 2, 3, 4] rfl) hM
                            · replace hM := zx_t q17 hM
                              refine lv_iconst (v := 1) hx hb dX3_layBoxes_101 (by decide) ?_
                              refine lv_goto (tgt := 106) hx hb dX3_layBoxes_102 (by decide) ?_
                              exact j106 v2 v3 v4 (24 + v3) x15 1 S_ _ _ _ hP hD hS (lv_sub hl [0, 1, 2, 3, 4] rfl) hM
                    refine lv_iconst (v := 0) hx hb dX3_layBoxes_62 (by decide) ?_
                    refine lv_istore (lv' := [(4, .int 0), (0, .ref h), (1, .ref (ad w)), (2, .int v2), (3, .int v3)]) hx hb dX3_layBoxes_63 hl (by decide) rfl (fun ls hl => ?_)
                    exact l65 N v2 v3 0 S_ _ _ _ hP hD hS (lv_sub hl [1, 2, 3, 4, 0] rfl) hM
              refine lv_iconst (v := 0) hx hb dX3_layBoxes_54 (by decide) ?_
              refine lv_istore_n (lv' := [(3, .int 0), (0, .ref h), (1, .ref (ad w)), (2, .int v2)]) hx hb dX3_layBoxes_55 rfl hl (by decide) rfl (fun ls hl => ?_)
              exact l56 N v2 0 S_ _ _ _ hP hD hS (lv_sub hl [1, 2, 3, 0] rfl) hM
        refine lv_iconst (v := 0) hx hb dX3_layBoxes_46 (by decide) ?_
        refine lv_istore_n (lv' := [(2, .int 0), (0, .ref h), (1, .ref (ad w))]) hx hb dX3_layBoxes_47 rfl hl (by decide) rfl (fun ls hl => ?_)
        exact l48 N 0 S_ _ _ _ hP hD hS (lv_sub hl [1, 2, 0] rfl) hM
      · replace hM := zx_f q1 hM
        have l10 : ∀ (n10 : Nat) (v2 : Int32) (v3 : Int32) (S_ : zx_S) (H : Heap) (lc : List Loc) (ls : Array Slot), va_P D vwCl (xW3 cI cZ h ad S_) H → va_D A (xW3 cI cZ h ad S_) → va_S A s.heap H lc → lv_has ls 5 [(0, .ref h), (1, .ref (ad w)), (2, .int v2), (3, .int v3)] → f_X3_layBoxes_l10 N w (f_X3_layBoxes_l2 N w  n2) n10 v2 v3 S_ = some R → W p l e (headSpec zsX3_layBoxes rmX3_layBoxes).room s m ([.ref h, .ref (ad w)] : List Value).toArray below meth c H lc 0 0 Q9 (F0 m 10 ls []) := by
          intro n10
          induction n10 with
          | zero =>
            intro v2 v3 S_ H lc ls hP hD hS hl hM
            rw [f_X3_layBoxes_l10] at hM; exact absurd hM (by intro h; cases h)
          | succ n10 ih10 =>
            intro v2 v3 S_ H lc ls hP hD hS hl hM
            rw [f_X3_layBoxes_l10] at hM
            refine lv_iload_n hx hb dX3_layBoxes_10 rfl (lv_at hl 3 rfl) ?_
            refine lv_iconst (v := 4) hx hb dX3_layBoxes_11 (by decide) ?_
            refine lv_icmp_ge (tgt := 40) hx hb dX3_layBoxes_12 (by decide) (fun q18 => ?_) (fun q18 => ?_)
            · replace hM := zx_t q18 hM
              obtain ⟨x19, ex19, hM⟩ := zx_nE hM
              refine lv_iinc (v := x19) (lv' := [(2, .int x19), (0, .ref h), (1, .ref (ad w)), (3, .int v3)]) hx hb dX3_layBoxes_40 hl (k := 2) rfl (by rw [ex19]; rfl) (by decide) rfl (fun ls hl => ?_)
              refine lv_goto (tgt := 2) hx hb dX3_layBoxes_43 (by decide) ?_
              exact ih2 x19 S_ _ _ _ hP hD hS (lv_sub hl [1, 2, 0] rfl) hM
            · replace hM := zx_f q18 hM
              refine lv_aload_n hx hb dX3_layBoxes_15 rfl (lv_at hl 0 rfl) ?_
              refine va_get (D := D) (ci := 3) (v := .ref (ad 6)) (C := RX3) (T := TX3) (N := 20) hx hb hts inlX3 hown hK hP 0 rfl rfl 9 (by decide) (hts _ zw_4_1) (fun _ h9 => h9) rfl dX3_layBoxes_16 ?_
              refine lv_iconst (v := 4) hx hb dX3_layBoxes_19 (by decide) ?_
              refine lv_iload_n hx hb dX3_layBoxes_20 rfl (lv_at hl 2 rfl) ?_
              refine lv_imul hx hb dX3_layBoxes_21 ?_
              refine lv_iload_n hx hb dX3_layBoxes_22 rfl (lv_at hl 3 rfl) ?_
              refine lv_iadd hx hb dX3_layBoxes_23 ?_
              refine lv_aload_n hx hb dX3_layBoxes_24 rfl (lv_at hl 1 rfl) ?_
              refine lv_iconst (v := 5) hx hb dX3_layBoxes_25 (by decide) ?_
              refine lv_iload_n hx hb dX3_layBoxes_26 rfl (lv_at hl 2 rfl) ?_
              refine lv_imul hx hb dX3_layBoxes_27 ?_
              refine lv_iconst (v := 1) hx hb dX3_layBoxes_28 (by decide) ?_
              refine lv_iadd hx hb dX3_layBoxes_29 ?_
              refine lv_iload_n hx hb dX3_layBoxes_30 rfl (lv_at hl 3 rfl) ?_
              refine lv_iadd hx hb dX3_layBoxes_31 ?_
              obtain ⟨x20, q21, ex20, hM⟩ := zx_rdE hM
              refine va_iald (D := D) hx hb hK hP (w + 1) 0 (xW3_aw hrw) rfl q21 dX3_layBoxes_32 ?_
              refine zx_top ex20 ?_
              obtain ⟨T22, q23, eT22, hM⟩ := zx_wrE hM
              refine va_iast (D := D) hx hb hK hP hD hS 7 0 rfl rfl q23 dX3_layBoxes_33 (fun H lc hP hD hS => ?_)
              rw [xW3_pa6] at hP hD
              rw [← eT22] at hP hD
              obtain ⟨x24, ex24, hM⟩ := zx_nE hM
              refine lv_iinc (v := x24) (lv' := [(3, .int x24), (0, .ref h), (1, .ref (ad w)), (2, .int v2)]) hx hb dX3_layBoxes_34 hl (k := 3) rfl (by rw [ex24]; rfl) (by decide) rfl (fun ls hl => ?_)
              refine lv_goto (tgt := 10) hx hb dX3_layBoxes_37 (by decide) ?_
              exact ih10 v2 x24 T22 _ _ _ hP hD hS (lv_sub hl [1, 2, 3, 0] rfl) hM
        refine lv_iconst (v := 0) hx hb dX3_layBoxes_8 (by decide) ?_
        refine lv_istore_n (lv' := [(3, .int 0), (0, .ref h), (1, .ref (ad w)), (2, .int v2)]) hx hb dX3_layBoxes_9 rfl hl (by decide) rfl (fun ls hl => ?_)
        exact l10 N v2 0 S_ _ _ _ hP hD hS (lv_sub hl [1, 2, 3, 0] rfl) hM
  refine lv_iconst (v := 0) hx hb dX3_layBoxes_0 (by decide) ?_
  refine lv_istore_n (lv' := [(2, .int 0), (0, .ref h), (1, .ref (ad w))]) hx hb dX3_layBoxes_1 rfl hl (by decide) rfl (fun ls hl => ?_)
  exact l2 N 0 S _ _ _ hP hD hS (lv_sub hl [1, 2, 0] rfl) hM

/-! ShallowBoxesModel.area(I)I -/
def f_X3_area (N : Nat) (p1 : Int32) (S : zx_S) : Option (Int32) :=
  (zx_rd 224 (S 6) ((4 * p1) + 2) (fun x1 =>
(zx_rd 224 (S 6) (4 * p1) (fun x3 =>
(zx_rd 224 (S 6) ((4 * p1) + 3) (fun x5 =>
(zx_rd 224 (S 6) ((4 * p1) + 1) (fun x7 =>
some (((x1 - x3) + 1) * ((x5 - x7) + 1))))))))))
abbrev rmX3_area : Room := { frames := 0, cells := 0, slots := 0, locals := 0 }
abbrev zsX3_area : List Cond := .code yX3_area cX3_area 2 (some .int) :: wsL_law
theorem zyX3_area : yX3_area.cls ≠ "java/lang/invoke/MethodHandle" ∧ yX3_area.cls ≠ "java/lang/invoke/VarHandle" ∧ (parseMethodDescriptor yX3_area.desc).map (fun d => d.parameters.length) = some 1 := by decide +kernel
set_option maxHeartbeats 4000000 in
set_option maxRecDepth 100000 in
theorem c_X3_area (l : Launch) (D : va_G) (cI cZ cT : ClassId) (h : Nat) (ad : Nat → Nat) (S : zx_S) (sz : Nat) (N : Nat) (p1 : Int32) {R : Int32} (hM : f_X3_area N p1 S = some R) : Met l yX3_area zsX3_area rmX3_area (va_Pc [.ref h, .int p1] (bS D (zx_ty cI cZ cT) (xW3 cI cZ h ad S) sz)) (va_Qi (fun r (_ : Unit) => R = r) (fun _ _ => True) (fun q => sz ≤ q)) 0 0 (fun q => sz ≤ q) := by
  refine Met.ofW (cc := cX3_area) (maxL := 2) (ret := (some .int)) (by decide) rfl ?_
  intro p e s m args below meth c s₁ B hml hv
  obtain ⟨rfl, hsz, hP, hK, hD0, hN⟩ := hv
  have hx := B.exec
  have hb := B.bytes
  have hr := B.returns
  have hts : ∀ w ∈ wsL_law, w.before _ s = true := fun w hw => atoms_spec (ws := zsX3_area) B.pre w (List.mem_cons_of_mem _ hw)
  have hown : s.vm.findClass RX3 = some m.cls := findClass_of_methodNamed B.named
  have hlocks := B.notSynchronized
  subst hsz
  generalize hAe : (fun q : Nat => s.heap.size ≤ q) = A
  have hA : ∀ q : Nat, s.heap.size ≤ q → A q := fun q h => by rw [← hAe]; exact h
  have hD := hD0
  have hS : va_S A s.heap s.heap [] := va_S.rf
  have hl := lv_entry ([.ref h, .int p1]) (n := 2) (Nat.le_of_ble_eq_true rfl)
  rw [lg_entry_eq]
  generalize (lg_sl ([.ref h, .int p1]) ++ List.replicate (2 - (lg_sl ([.ref h, .int p1])).length) Slot.unset).toArray = ls at hl ⊢
  have hl : lv_has ls 2 [(0, .ref h), (1, .int p1)] := hl
  generalize hQ : MQ below (va_Qi (fun r (_ : Unit) => R = r) (fun _ _ => True) A) ([.ref h, .int p1] : List Value).toArray s 0 0 A = Q9
  replace hQ := hQ.symm
  unfold f_X3_area at hM
  refine lv_aload_n hx hb dX3_area_0 rfl (lv_at hl 0 rfl) ?_
  refine va_get (D := D) (ci := 3) (v := .ref (ad 6)) (C := RX3) (T := TX3) (N := 20) hx hb hts inlX3 hown hK hP 0 rfl rfl 9 (by decide) (hts _ zw_4_1) (fun _ h9 => h9) rfl dX3_area_1 ?_
  refine lv_iconst (v := 4) hx hb dX3_area_4 (by decide) ?_
  refine lv_iload_n hx hb dX3_area_5 rfl (lv_at hl 1 rfl) ?_
  refine lv_imul hx hb dX3_area_6 ?_
  refine lv_iconst (v := 2) hx hb dX3_area_7 (by decide) ?_
  refine lv_iadd hx hb dX3_area_8 ?_
  obtain ⟨x1, q2, ex1, hM⟩ := zx_rdE hM
  refine va_iald (D := D) hx hb hK hP 7 0 rfl rfl q2 dX3_area_9 ?_
  refine zx_top ex1 ?_
  refine lv_aload_n hx hb dX3_area_10 rfl (lv_at hl 0 rfl) ?_
  refine va_get (D := D) (ci := 3) (v := .ref (ad 6)) (C := RX3) (T := TX3) (N := 20) hx hb hts inlX3 hown hK hP 0 rfl rfl 9 (by decide) (hts _ zw_4_1) (fun _ h9 => h9) rfl dX3_area_11 ?_
  refine lv_iconst (v := 4) hx hb dX3_area_14 (by decide) ?_
  refine lv_iload_n hx hb dX3_area_15 rfl (lv_at hl 1 rfl) ?_
  refine lv_imul hx hb dX3_area_16 ?_
  obtain ⟨x3, q4, ex3, hM⟩ := zx_rdE hM
  refine va_iald (D := D) hx hb hK hP 7 0 rfl rfl q4 dX3_area_17 ?_
  refine zx_top ex3 ?_
  refine lv_isub hx hb dX3_area_18 ?_
  refine lv_iconst (v := 1) hx hb dX3_area_19 (by decide) ?_
  refine lv_iadd hx hb dX3_area_20 ?_
  refine lv_aload_n hx hb dX3_area_21 rfl (lv_at hl 0 rfl) ?_
  refine va_get (D := D) (ci := 3) (v := .ref (ad 6)) (C := RX3) (T := TX3) (N := 20) hx hb hts inlX3 hown hK hP 0 rfl rfl 9 (by decide) (hts _ zw_4_1) (fun _ h9 => h9) rfl dX3_area_22 ?_
  refine lv_iconst (v := 4) hx hb dX3_area_25 (by decide) ?_
  refine lv_iload_n hx hb dX3_area_26 rfl (lv_at hl 1 rfl) ?_
  refine lv_imul hx hb dX3_area_27 ?_
  refine lv_iconst (v := 3) hx hb dX3_area_28 (by decide) ?_
  refine lv_iadd hx hb dX3_area_29 ?_
  obtain ⟨x5, q6, ex5, hM⟩ := zx_rdE hM
  refine va_iald (D := D) hx hb hK hP 7 0 rfl rfl q6 dX3_area_30 ?_
  refine zx_top ex5 ?_
  refine lv_aload_n hx hb dX3_area_31 rfl (lv_at hl 0 rfl) ?_
  refine va_get (D := D) (ci := 3) (v := .ref (ad 6)) (C := RX3) (T := TX3) (N := 20) hx hb hts inlX3 hown hK hP 0 rfl rfl 9 (by decide) (hts _ zw_4_1) (fun _ h9 => h9) rfl dX3_area_32 ?_
  refine lv_iconst (v := 4) hx hb dX3_area_35 (by decide) ?_
  refine lv_iload_n hx hb dX3_area_36 rfl (lv_at hl 1 rfl) ?_
  refine lv_imul hx hb dX3_area_37 ?_
  refine lv_iconst (v := 1) hx hb dX3_area_38 (by decide) ?_
  refine lv_iadd hx hb dX3_area_39 ?_
  obtain ⟨x7, q8, ex7, hM⟩ := zx_rdE hM
  refine va_iald (D := D) hx hb hK hP 7 0 rfl rfl q8 dX3_area_40 ?_
  refine zx_top ex7 ?_
  refine lv_isub hx hb dX3_area_41 ?_
  refine lv_iconst (v := 1) hx hb dX3_area_42 (by decide) ?_
  refine lv_iadd hx hb dX3_area_43 ?_
  refine lv_imul hx hb dX3_area_44 ?_
  rw [hQ]
  exact W.iret hx hb hr (fun t ht hW => ⟨⟨(((x1 - x3) + 1) * ((x5 - x7) + 1)), (), rfl, (Option.some.inj hM).symm, trivial⟩, hS.F ht⟩) hS.2.2 dX3_area_45

/-! ShallowBoxesModel.less(II)I -/
def f_X3_less (N : Nat) (p0 : Int32) (p1 : Int32) : Option (Int32) :=
  (if p1 ≤ p0 then
  some p1 else
  some p0)
abbrev rmX3_less : Room := { frames := 0, cells := 0, slots := 0, locals := 0 }
abbrev zsX3_less : List Cond := .code yX3_less cX3_less 2 (some .int) :: wsL_law
theorem zyX3_less : yX3_less.cls ≠ "java/lang/invoke/MethodHandle" ∧ yX3_less.cls ≠ "java/lang/invoke/VarHandle" ∧ (parseMethodDescriptor yX3_less.desc).map (fun d => d.parameters.length) = some 2 := by decide +kernel
set_option maxHeartbeats 4000000 in
set_option maxRecDepth 100000 in
theorem c_X3_less (l : Launch) (D : va_G) (cI cZ cT : ClassId) (sz : Nat) (N : Nat) (p0 : Int32) (p1 : Int32) {R : Int32} (hM : f_X3_less N p0 p1 = some R) : Met l yX3_less zsX3_less rmX3_less (va_Pc [.int p0, .int p1] (bS D (zx_ty cI cZ cT) [] sz)) (va_Qi (fun r (_ : Unit) => R = r) (fun _ _ => True) (fun q => sz ≤ q)) 0 0 (fun q => sz ≤ q) := by
  refine Met.ofW (cc := cX3_less) (maxL := 2) (ret := (some .int)) (by decide) rfl ?_
  intro p e s m args below meth c s₁ B hml hv
  obtain ⟨rfl, hsz, hP, hK, hD0, hN⟩ := hv
  have hx := B.exec
  have hb := B.bytes
  have hr := B.returns
  have hts : ∀ w ∈ wsL_law, w.before _ s = true := fun w hw => atoms_spec (ws := zsX3_less) B.pre w (List.mem_cons_of_mem _ hw)
  have hown : s.vm.findClass RX3 = some m.cls := findClass_of_methodNamed B.named
  have hlocks := B.notSynchronized
  subst hsz
  generalize hAe : (fun q : Nat => s.heap.size ≤ q) = A
  have hA : ∀ q : Nat, s.heap.size ≤ q → A q := fun q h => by rw [← hAe]; exact h
  have hD := hD0
  have hS : va_S A s.heap s.heap [] := va_S.rf
  have hl := lv_entry ([.int p0, .int p1]) (n := 2) (Nat.le_of_ble_eq_true rfl)
  rw [lg_entry_eq]
  generalize (lg_sl ([.int p0, .int p1]) ++ List.replicate (2 - (lg_sl ([.int p0, .int p1])).length) Slot.unset).toArray = ls at hl ⊢
  have hl : lv_has ls 2 [(0, .int p0), (1, .int p1)] := hl
  generalize hQ : MQ below (va_Qi (fun r (_ : Unit) => R = r) (fun _ _ => True) A) ([.int p0, .int p1] : List Value).toArray s 0 0 A = Q9
  replace hQ := hQ.symm
  unfold f_X3_less at hM
  refine lv_iload_n hx hb dX3_less_0 rfl (lv_at hl 0 rfl) ?_
  refine lv_iload_n hx hb dX3_less_1 rfl (lv_at hl 1 rfl) ?_
  refine lv_icmp_ge (tgt := 9) hx hb dX3_less_2 (by decide) (fun q1 => ?_) (fun q1 => ?_)
  · replace hM := zx_t q1 hM
    refine lv_iload_n hx hb dX3_less_9 rfl (lv_at hl 1 rfl) ?_
    rw [hQ]
    exact W.iret hx hb hr (fun t ht hW => ⟨⟨p1, (), rfl, (Option.some.inj hM).symm, trivial⟩, hS.F ht⟩) hS.2.2 dX3_less_10
  · replace hM := zx_f q1 hM
    refine lv_iload_n hx hb dX3_less_5 rfl (lv_at hl 0 rfl) ?_
    refine lv_goto (tgt := 10) hx hb dX3_less_6 (by decide) ?_
    rw [hQ]
    exact W.iret hx hb hr (fun t ht hW => ⟨⟨p0, (), rfl, (Option.some.inj hM).symm, trivial⟩, hS.F ht⟩) hS.2.2 dX3_less_10

/-! ShallowBoxesModel.more(II)I -/
def f_X3_more (N : Nat) (p0 : Int32) (p1 : Int32) : Option (Int32) :=
  (if p0 ≤ p1 then
  some p1 else
  some p0)
abbrev rmX3_more : Room := { frames := 0, cells := 0, slots := 0, locals := 0 }
abbrev zsX3_more : List Cond := .code yX3_more cX3_more 2 (some .int) :: wsL_law
theorem zyX3_more : yX3_more.cls ≠ "java/lang/invoke/MethodHandle" ∧ yX3_more.cls ≠ "java/lang/invoke/VarHandle" ∧ (parseMethodDescriptor yX3_more.desc).map (fun d => d.parameters.length) = some 2 := by decide +kernel
set_option maxHeartbeats 4000000 in
set_option maxRecDepth 100000 in
theorem c_X3_more (l : Launch) (D : va_G) (cI cZ cT : ClassId) (sz : Nat) (N : Nat) (p0 : Int32) (p1 : Int32) {R : Int32} (hM : f_X3_more N p0 p1 = some R) : Met l yX3_more zsX3_more rmX3_more (va_Pc [.int p0, .int p1] (bS D (zx_ty cI cZ cT) [] sz)) (va_Qi (fun r (_ : Unit) => R = r) (fun _ _ => True) (fun q => sz ≤ q)) 0 0 (fun q => sz ≤ q) := by
  refine Met.ofW (cc := cX3_more) (maxL := 2) (ret := (some .int)) (by decide) rfl ?_
  intro p e s m args below meth c s₁ B hml hv
  obtain ⟨rfl, hsz, hP, hK, hD0, hN⟩ := hv
  have hx := B.exec
  have hb := B.bytes
  have hr := B.returns
  have hts : ∀ w ∈ wsL_law, w.before _ s = true := fun w hw => atoms_spec (ws := zsX3_more) B.pre w (List.mem_cons_of_mem _ hw)
  have hown : s.vm.findClass RX3 = some m.cls := findClass_of_methodNamed B.named
  have hlocks := B.notSynchronized
  subst hsz
  generalize hAe : (fun q : Nat => s.heap.size ≤ q) = A
  have hA : ∀ q : Nat, s.heap.size ≤ q → A q := fun q h => by rw [← hAe]; exact h
  have hD := hD0
  have hS : va_S A s.heap s.heap [] := va_S.rf
  have hl := lv_entry ([.int p0, .int p1]) (n := 2) (Nat.le_of_ble_eq_true rfl)
  rw [lg_entry_eq]
  generalize (lg_sl ([.int p0, .int p1]) ++ List.replicate (2 - (lg_sl ([.int p0, .int p1])).length) Slot.unset).toArray = ls at hl ⊢
  have hl : lv_has ls 2 [(0, .int p0), (1, .int p1)] := hl
  generalize hQ : MQ below (va_Qi (fun r (_ : Unit) => R = r) (fun _ _ => True) A) ([.int p0, .int p1] : List Value).toArray s 0 0 A = Q9
  replace hQ := hQ.symm
  unfold f_X3_more at hM
  refine lv_iload_n hx hb dX3_more_0 rfl (lv_at hl 0 rfl) ?_
  refine lv_iload_n hx hb dX3_more_1 rfl (lv_at hl 1 rfl) ?_
  refine lv_icmp_le (tgt := 9) hx hb dX3_more_2 (by decide) (fun q1 => ?_) (fun q1 => ?_)
  · replace hM := zx_t q1 hM
    refine lv_iload_n hx hb dX3_more_9 rfl (lv_at hl 1 rfl) ?_
    rw [hQ]
    exact W.iret hx hb hr (fun t ht hW => ⟨⟨p1, (), rfl, (Option.some.inj hM).symm, trivial⟩, hS.F ht⟩) hS.2.2 dX3_more_10
  · replace hM := zx_f q1 hM
    refine lv_iload_n hx hb dX3_more_5 rfl (lv_at hl 0 rfl) ?_
    refine lv_goto (tgt := 10) hx hb dX3_more_6 (by decide) ?_
    rw [hQ]
    exact W.iret hx hb hr (fun t ht hW => ⟨⟨p0, (), rfl, (Option.some.inj hM).symm, trivial⟩, hS.F ht⟩) hS.2.2 dX3_more_10

/-! ShallowBoxesModel.joinArea(II)I -/
def f_X3_joinArea (N : Nat) (p1 : Int32) (p2 : Int32) (S : zx_S) : Option (Int32) :=
  (zx_rd 224 (S 6) ((4 * p1) + 2) (fun x1 =>
(zx_rd 224 (S 6) ((4 * p2) + 2) (fun x3 =>
(zx_b1 (f_X3_more N x1 x3) (fun x5 =>
(zx_rd 224 (S 6) (4 * p1) (fun x7 =>
(zx_rd 224 (S 6) (4 * p2) (fun x9 =>
(zx_b1 (f_X3_less N x7 x9) (fun x11 =>
(zx_n ((x5 - x11) + 1) (fun x13 =>
(zx_rd 224 (S 6) ((4 * p1) + 3) (fun x14 =>
(zx_rd 224 (S 6) ((4 * p2) + 3) (fun x16 =>
(zx_b1 (f_X3_more N x14 x16) (fun x18 =>
(zx_rd 224 (S 6) ((4 * p1) + 1) (fun x20 =>
(zx_rd 224 (S 6) ((4 * p2) + 1) (fun x22 =>
(zx_b1 (f_X3_less N x20 x22) (fun x24 =>
(zx_n ((x18 - x24) + 1) (fun x26 =>
some (x13 * x26)))))))))))))))))))))))))))))
abbrev rmX3_joinArea : Room := { frames := 1, cells := 0, slots := 0, locals := 21 }
abbrev zsX3_joinArea : List Cond := .code yX3_joinArea cX3_joinArea 5 (some .int) :: wsL_law
theorem zyX3_joinArea : yX3_joinArea.cls ≠ "java/lang/invoke/MethodHandle" ∧ yX3_joinArea.cls ≠ "java/lang/invoke/VarHandle" ∧ (parseMethodDescriptor yX3_joinArea.desc).map (fun d => d.parameters.length) = some 2 := by decide +kernel
set_option maxHeartbeats 4000000 in
set_option maxRecDepth 100000 in
theorem c_X3_joinArea (l : Launch) (D : va_G) (cI cZ cT : ClassId) (h : Nat) (ad : Nat → Nat) (S : zx_S) (sz : Nat) (N : Nat) (p1 : Int32) (p2 : Int32) {R : Int32} (hM : f_X3_joinArea N p1 p2 S = some R) : Met l yX3_joinArea zsX3_joinArea rmX3_joinArea (va_Pc [.ref h, .int p1, .int p2] (bS D (zx_ty cI cZ cT) (xW3 cI cZ h ad S) sz)) (va_Qi (fun r (_ : Unit) => R = r) (fun _ _ => True) (fun q => sz ≤ q)) 0 0 (fun q => sz ≤ q) := by
  refine Met.ofW (cc := cX3_joinArea) (maxL := 5) (ret := (some .int)) (by decide) rfl ?_
  intro p e s m args below meth c s₁ B hml hv
  obtain ⟨rfl, hsz, hP, hK, hD0, hN⟩ := hv
  have hx := B.exec
  have hb := B.bytes
  have hr := B.returns
  have hts : ∀ w ∈ wsL_law, w.before _ s = true := fun w hw => atoms_spec (ws := zsX3_joinArea) B.pre w (List.mem_cons_of_mem _ hw)
  have hown : s.vm.findClass RX3 = some m.cls := findClass_of_methodNamed B.named
  have hlocks := B.notSynchronized
  subst hsz
  generalize hAe : (fun q : Nat => s.heap.size ≤ q) = A
  have hA : ∀ q : Nat, s.heap.size ≤ q → A q := fun q h => by rw [← hAe]; exact h
  have hD := hD0
  have hS : va_S A s.heap s.heap [] := va_S.rf
  have hl := lv_entry ([.ref h, .int p1, .int p2]) (n := 5) (Nat.le_of_ble_eq_true rfl)
  rw [lg_entry_eq]
  generalize (lg_sl ([.ref h, .int p1, .int p2]) ++ List.replicate (5 - (lg_sl ([.ref h, .int p1, .int p2])).length) Slot.unset).toArray = ls at hl ⊢
  have hl : lv_has ls 5 [(0, .ref h), (1, .int p1), (2, .int p2)] := hl
  generalize hQ : MQ below (va_Qi (fun r (_ : Unit) => R = r) (fun _ _ => True) A) ([.ref h, .int p1, .int p2] : List Value).toArray s 0 0 A = Q9
  replace hQ := hQ.symm
  unfold f_X3_joinArea at hM
  refine lv_aload_n hx hb dX3_joinArea_0 rfl (lv_at hl 0 rfl) ?_
  refine va_get (D := D) (ci := 3) (v := .ref (ad 6)) (C := RX3) (T := TX3) (N := 20) hx hb hts inlX3 hown hK hP 0 rfl rfl 9 (by decide) (hts _ zw_4_1) (fun _ h9 => h9) rfl dX3_joinArea_1 ?_
  refine lv_iconst (v := 4) hx hb dX3_joinArea_4 (by decide) ?_
  refine lv_iload_n hx hb dX3_joinArea_5 rfl (lv_at hl 1 rfl) ?_
  refine lv_imul hx hb dX3_joinArea_6 ?_
  refine lv_iconst (v := 2) hx hb dX3_joinArea_7 (by decide) ?_
  refine lv_iadd hx hb dX3_joinArea_8 ?_
  obtain ⟨x1, q2, ex1, hM⟩ := zx_rdE hM
  refine va_iald (D := D) hx hb hK hP 7 0 rfl rfl q2 dX3_joinArea_9 ?_
  refine zx_top ex1 ?_
  refine lv_aload_n hx hb dX3_joinArea_10 rfl (lv_at hl 0 rfl) ?_
  refine va_get (D := D) (ci := 3) (v := .ref (ad 6)) (C := RX3) (T := TX3) (N := 20) hx hb hts inlX3 hown hK hP 0 rfl rfl 9 (by decide) (hts _ zw_4_1) (fun _ h9 => h9) rfl dX3_joinArea_11 ?_
  refine lv_iconst (v := 4) hx hb dX3_joinArea_14 (by decide) ?_
  refine lv_iload_n hx hb dX3_joinArea_15 rfl (lv_at hl 2 rfl) ?_
  refine lv_imul hx hb dX3_joinArea_16 ?_
  refine lv_iconst (v := 2) hx hb dX3_joinArea_17 (by decide) ?_
  refine lv_iadd hx hb dX3_joinArea_18 ?_
  obtain ⟨x3, q4, ex3, hM⟩ := zx_rdE hM
  refine va_iald (D := D) hx hb hK hP 7 0 rfl rfl q4 dX3_joinArea_19 ?_
  refine zx_top ex3 ?_
  obtain ⟨x5, hz6, hM⟩ := zx_b1E hM
  refine va_calli (va_runS (As := [.int x1, .int x3]) (rest := []) ⟨hx, hb, hml, hown, hts⟩ (c_X3_more l D cI cZ cT _ N x1 x3 hz6) (va_cwS 2 hts (zg_S zw_10_3 zw_10_4 zw_1_5 zw_10_5) rfl rfl rfl zyX3_more ⟨Nat.le_of_ble_eq_true rfl, Nat.le_of_ble_eq_true rfl⟩) ⟨bS_blind, bS_pre (zx_P0 hP) hK (zx_D0 hD) hN⟩ rfl rfl hl.1 rfl (lv_room (Nat.le_of_ble_eq_true rfl)) dX3_joinArea_20 ⟨Nat.zero_le _, Nat.zero_le _⟩) hS (fun q h1 h2 => absurd h1 (Nat.not_lt.mpr h2)) (fun q h => hA q (Nat.le_trans hS.1 h)) (fun r u t H1 lc ht hvm hw hB hz1 hk1 hS => ?_)
  replace hw : x5 = r := hw; subst hw
  replace hP := zx_keep hP hk1
  refine lv_aload_n hx hb dX3_joinArea_23 rfl (lv_at hl 0 rfl) ?_
  refine va_get (D := D) (ci := 3) (v := .ref (ad 6)) (C := RX3) (T := TX3) (N := 20) hx hb hts inlX3 hown hK hP 0 rfl rfl 9 (by decide) (hts _ zw_4_1) (fun _ h9 => h9) rfl dX3_joinArea_24 ?_
  refine lv_iconst (v := 4) hx hb dX3_joinArea_27 (by decide) ?_
  refine lv_iload_n hx hb dX3_joinArea_28 rfl (lv_at hl 1 rfl) ?_
  refine lv_imul hx hb dX3_joinArea_29 ?_
  obtain ⟨x7, q8, ex7, hM⟩ := zx_rdE hM
  refine va_iald (D := D) hx hb hK hP 7 0 rfl rfl q8 dX3_joinArea_30 ?_
  refine zx_top ex7 ?_
  refine lv_aload_n hx hb dX3_joinArea_31 rfl (lv_at hl 0 rfl) ?_
  refine va_get (D := D) (ci := 3) (v := .ref (ad 6)) (C := RX3) (T := TX3) (N := 20) hx hb hts inlX3 hown hK hP 0 rfl rfl 9 (by decide) (hts _ zw_4_1) (fun _ h9 => h9) rfl dX3_joinArea_32 ?_
  refine lv_iconst (v := 4) hx hb dX3_joinArea_35 (by decide) ?_
  refine lv_iload_n hx hb dX3_joinArea_36 rfl (lv_at hl 2 rfl) ?_
  refine lv_imul hx hb dX3_joinArea_37 ?_
  obtain ⟨x9, q10, ex9, hM⟩ := zx_rdE hM
  refine va_iald (D := D) hx hb hK hP 7 0 rfl rfl q10 dX3_joinArea_38 ?_
  refine zx_top ex9 ?_
  obtain ⟨x11, hz12, hM⟩ := zx_b1E hM
  refine va_calli (va_runS (As := [.int x7, .int x9]) (rest := [.int x5]) ⟨hx, hb, hml, hown, hts⟩ (c_X3_less l D cI cZ cT _ N x7 x9 hz12) (va_cwS 2 hts (zg_S zw_10_6 zw_10_7 zw_1_5 zw_10_8) rfl rfl rfl zyX3_less ⟨Nat.le_of_ble_eq_true rfl, Nat.le_of_ble_eq_true rfl⟩) ⟨bS_blind, bS_pre (zx_P0 hP) hK (zx_D0 hD) hN⟩ rfl rfl hl.1 rfl (lv_room (Nat.le_of_ble_eq_true rfl)) dX3_joinArea_39 ⟨Nat.zero_le _, Nat.zero_le _⟩) hS (fun q h1 h2 => absurd h1 (Nat.not_lt.mpr h2)) (fun q h => hA q (Nat.le_trans hS.1 h)) (fun r u t H1 lc ht hvm hw hB hz1 hk1 hS => ?_)
  replace hw : x11 = r := hw; subst hw
  replace hP := zx_keep hP hk1
  refine lv_isub hx hb dX3_joinArea_42 ?_
  refine lv_iconst (v := 1) hx hb dX3_joinArea_43 (by decide) ?_
  refine lv_iadd hx hb dX3_joinArea_44 ?_
  obtain ⟨x13, ex13, hM⟩ := zx_nE hM
  refine zx_top ex13 ?_
  refine lv_istore_n (lv' := [(3, .int x13), (0, .ref h), (1, .int p1), (2, .int p2)]) hx hb dX3_joinArea_45 rfl hl (by decide) rfl (fun ls hl => ?_)
  refine lv_aload_n hx hb dX3_joinArea_46 rfl (lv_at hl 1 rfl) ?_
  refine va_get (D := D) (ci := 3) (v := .ref (ad 6)) (C := RX3) (T := TX3) (N := 20) hx hb hts inlX3 hown hK hP 0 rfl rfl 9 (by decide) (hts _ zw_4_1) (fun _ h9 => h9) rfl dX3_joinArea_47 ?_
  refine lv_iconst (v := 4) hx hb dX3_joinArea_50 (by decide) ?_
  refine lv_iload_n hx hb dX3_joinArea_51 rfl (lv_at hl 2 rfl) ?_
  refine lv_imul hx hb dX3_joinArea_52 ?_
  refine lv_iconst (v := 3) hx hb dX3_joinArea_53 (by decide) ?_
  refine lv_iadd hx hb dX3_joinArea_54 ?_
  obtain ⟨x14, q15, ex14, hM⟩ := zx_rdE hM
  refine va_iald (D := D) hx hb hK hP 7 0 rfl rfl q15 dX3_joinArea_55 ?_
  refine zx_top ex14 ?_
  refine lv_aload_n hx hb dX3_joinArea_56 rfl (lv_at hl 1 rfl) ?_
  refine va_get (D := D) (ci := 3) (v := .ref (ad 6)) (C := RX3) (T := TX3) (N := 20) hx hb hts inlX3 hown hK hP 0 rfl rfl 9 (by decide) (hts _ zw_4_1) (fun _ h9 => h9) rfl dX3_joinArea_57 ?_
  refine lv_iconst (v := 4) hx hb dX3_joinArea_60 (by decide) ?_
  refine lv_iload_n hx hb dX3_joinArea_61 rfl (lv_at hl 3 rfl) ?_
  refine lv_imul hx hb dX3_joinArea_62 ?_
  refine lv_iconst (v := 3) hx hb dX3_joinArea_63 (by decide) ?_
  refine lv_iadd hx hb dX3_joinArea_64 ?_
  obtain ⟨x16, q17, ex16, hM⟩ := zx_rdE hM
  refine va_iald (D := D) hx hb hK hP 7 0 rfl rfl q17 dX3_joinArea_65 ?_
  refine zx_top ex16 ?_
  obtain ⟨x18, hz19, hM⟩ := zx_b1E hM
  refine va_calli (va_runS (As := [.int x14, .int x16]) (rest := []) ⟨hx, hb, hml, hown, hts⟩ (c_X3_more l D cI cZ cT _ N x14 x16 hz19) (va_cwS 2 hts (zg_S zw_10_3 zw_10_4 zw_1_5 zw_10_5) rfl rfl rfl zyX3_more ⟨Nat.le_of_ble_eq_true rfl, Nat.le_of_ble_eq_true rfl⟩) ⟨bS_blind, bS_pre (zx_P0 hP) hK (zx_D0 hD) hN⟩ rfl rfl hl.1 rfl (lv_room (Nat.le_of_ble_eq_true rfl)) dX3_joinArea_66 ⟨Nat.zero_le _, Nat.zero_le _⟩) hS (fun q h1 h2 => absurd h1 (Nat.not_lt.mpr h2)) (fun q h => hA q (Nat.le_trans hS.1 h)) (fun r u t H1 lc ht hvm hw hB hz1 hk1 hS => ?_)
  replace hw : x18 = r := hw; subst hw
  replace hP := zx_keep hP hk1
  refine lv_aload_n hx hb dX3_joinArea_69 rfl (lv_at hl 1 rfl) ?_
  refine va_get (D := D) (ci := 3) (v := .ref (ad 6)) (C := RX3) (T := TX3) (N := 20) hx hb hts inlX3 hown hK hP 0 rfl rfl 9 (by decide) (hts _ zw_4_1) (fun _ h9 => h9) rfl dX3_joinArea_70 ?_
  refine lv_iconst (v := 4) hx hb dX3_joinArea_73 (by decide) ?_
  refine lv_iload_n hx hb dX3_joinArea_74 rfl (lv_at hl 2 rfl) ?_
  refine lv_imul hx hb dX3_joinArea_75 ?_
  refine lv_iconst (v := 1) hx hb dX3_joinArea_76 (by decide) ?_
  refine lv_iadd hx hb dX3_joinArea_77 ?_
  obtain ⟨x20, q21, ex20, hM⟩ := zx_rdE hM
  refine va_iald (D := D) hx hb hK hP 7 0 rfl rfl q21 dX3_joinArea_78 ?_
  refine zx_top ex20 ?_
  refine lv_aload_n hx hb dX3_joinArea_79 rfl (lv_at hl 1 rfl) ?_
  refine va_get (D := D) (ci := 3) (v := .ref (ad 6)) (C := RX3) (T := TX3) (N := 20) hx hb hts inlX3 hown hK hP 0 rfl rfl 9 (by decide) (hts _ zw_4_1) (fun _ h9 => h9) rfl dX3_joinArea_80 ?_
  refine lv_iconst (v := 4) hx hb dX3_joinArea_83 (by decide) ?_
  refine lv_iload_n hx hb dX3_joinArea_84 rfl (lv_at hl 3 rfl) ?_
  refine lv_imul hx hb dX3_joinArea_85 ?_
  refine lv_iconst (v := 1) hx hb dX3_joinArea_86 (by decide) ?_
  refine lv_iadd hx hb dX3_joinArea_87 ?_
  obtain ⟨x22, q23, ex22, hM⟩ := zx_rdE hM
  refine va_iald (D := D) hx hb hK hP 7 0 rfl rfl q23 dX3_joinArea_88 ?_
  refine zx_top ex22 ?_
  obtain ⟨x24, hz25, hM⟩ := zx_b1E hM
  refine va_calli (va_runS (As := [.int x20, .int x22]) (rest := [.int x18]) ⟨hx, hb, hml, hown, hts⟩ (c_X3_less l D cI cZ cT _ N x20 x22 hz25) (va_cwS 2 hts (zg_S zw_10_6 zw_10_7 zw_1_5 zw_10_8) rfl rfl rfl zyX3_less ⟨Nat.le_of_ble_eq_true rfl, Nat.le_of_ble_eq_true rfl⟩) ⟨bS_blind, bS_pre (zx_P0 hP) hK (zx_D0 hD) hN⟩ rfl rfl hl.1 rfl (lv_room (Nat.le_of_ble_eq_true rfl)) dX3_joinArea_89 ⟨Nat.zero_le _, Nat.zero_le _⟩) hS (fun q h1 h2 => absurd h1 (Nat.not_lt.mpr h2)) (fun q h => hA q (Nat.le_trans hS.1 h)) (fun r u t H1 lc ht hvm hw hB hz1 hk1 hS => ?_)
  replace hw : x24 = r := hw; subst hw
  replace hP := zx_keep hP hk1
  refine lv_isub hx hb dX3_joinArea_92 ?_
  refine lv_iconst (v := 1) hx hb dX3_joinArea_93 (by decide) ?_
  refine lv_iadd hx hb dX3_joinArea_94 ?_
  obtain ⟨x26, ex26, hM⟩ := zx_nE hM
  refine zx_top ex26 ?_
  refine lv_istore (lv' := [(4, .int x26), (3, .int x13), (0, .ref h), (1, .int p1), (2, .int p2)]) hx hb dX3_joinArea_95 hl (by decide) rfl (fun ls hl => ?_)
  refine lv_iload_n hx hb dX3_joinArea_97 rfl (lv_at hl 1 rfl) ?_
  refine lv_iload hx hb dX3_joinArea_98 (lv_at hl 0 rfl) ?_
  refine lv_imul hx hb dX3_joinArea_100 ?_
  rw [hQ]
  exact W.iret hx hb hr (fun t ht hW => ⟨⟨(x13 * x26), (), rfl, (Option.some.inj hM).symm, trivial⟩, hS.F ht⟩) hS.2.2 dX3_joinArea_101

/-! ShallowBoxesModel.common(II)I -/
def f_X3_common (N : Nat) (p1 : Int32) (p2 : Int32) (S : zx_S) : Option (Int32) :=
  (zx_rd 224 (S 6) ((4 * p1) + 2) (fun x1 =>
(zx_rd 224 (S 6) ((4 * p2) + 2) (fun x3 =>
(zx_b1 (f_X3_less N x1 x3) (fun x5 =>
(zx_rd 224 (S 6) (4 * p1) (fun x7 =>
(zx_rd 224 (S 6) (4 * p2) (fun x9 =>
(zx_b1 (f_X3_more N x7 x9) (fun x11 =>
(zx_n ((x5 - x11) + 1) (fun x13 =>
(zx_rd 224 (S 6) ((4 * p1) + 3) (fun x14 =>
(zx_rd 224 (S 6) ((4 * p2) + 3) (fun x16 =>
(zx_b1 (f_X3_less N x14 x16) (fun x18 =>
(zx_rd 224 (S 6) ((4 * p1) + 1) (fun x20 =>
(zx_rd 224 (S 6) ((4 * p2) + 1) (fun x22 =>
(zx_b1 (f_X3_more N x20 x22) (fun x24 =>
(zx_n ((x18 - x24) + 1) (fun x26 =>
(if x13 ≤ 0 then
  some 0 else
  (if x26 ≤ 0 then
  some 0 else
  some (x13 * x26)))))))))))))))))))))))))))))))
abbrev rmX3_common : Room := { frames := 1, cells := 0, slots := 0, locals := 21 }
abbrev zsX3_common : List Cond := .code yX3_common cX3_common 5 (some .int) :: wsL_law
theorem zyX3_common : yX3_common.cls ≠ "java/lang/invoke/MethodHandle" ∧ yX3_common.cls ≠ "java/lang/invoke/VarHandle" ∧ (parseMethodDescriptor yX3_common.desc).map (fun d => d.parameters.length) = some 2 := by decide +kernel
set_option maxHeartbeats 4000000 in
set_option maxRecDepth 100000 in
theorem c_X3_common (l : Launch) (D : va_G) (cI cZ cT : ClassId) (h : Nat) (ad : Nat → Nat) (S : zx_S) (sz : Nat) (N : Nat) (p1 : Int32) (p2 : Int32) {R : Int32} (hM : f_X3_common N p1 p2 S = some R) : Met l yX3_common zsX3_common rmX3_common (va_Pc [.ref h, .int p1, .int p2] (bS D (zx_ty cI cZ cT) (xW3 cI cZ h ad S) sz)) (va_Qi (fun r (_ : Unit) => R = r) (fun _ _ => True) (fun q => sz ≤ q)) 0 0 (fun q => sz ≤ q) := by
  refine Met.ofW (cc := cX3_common) (maxL := 5) (ret := (some .int)) (by decide) rfl ?_
  intro p e s m args below meth c s₁ B hml hv
  obtain ⟨rfl, hsz, hP, hK, hD0, hN⟩ := hv
  have hx := B.exec
  have hb := B.bytes
  have hr := B.returns
  have hts : ∀ w ∈ wsL_law, w.before _ s = true := fun w hw => atoms_spec (ws := zsX3_common) B.pre w (List.mem_cons_of_mem _ hw)
  have hown : s.vm.findClass RX3 = some m.cls := findClass_of_methodNamed B.named
  have hlocks := B.notSynchronized
  subst hsz
  generalize hAe : (fun q : Nat => s.heap.size ≤ q) = A
  have hA : ∀ q : Nat, s.heap.size ≤ q → A q := fun q h => by rw [← hAe]; exact h
  have hD := hD0
  have hS : va_S A s.heap s.heap [] := va_S.rf
  have hl := lv_entry ([.ref h, .int p1, .int p2]) (n := 5) (Nat.le_of_ble_eq_true rfl)
  rw [lg_entry_eq]
  generalize (lg_sl ([.ref h, .int p1, .int p2]) ++ List.replicate (5 - (lg_sl ([.ref h, .int p1, .int p2])).length) Slot.unset).toArray = ls at hl ⊢
  have hl : lv_has ls 5 [(0, .ref h), (1, .int p1), (2, .int p2)] := hl
  generalize hQ : MQ below (va_Qi (fun r (_ : Unit) => R = r) (fun _ _ => True) A) ([.ref h, .int p1, .int p2] : List Value).toArray s 0 0 A = Q9
  replace hQ := hQ.symm
  unfold f_X3_common at hM
  refine lv_aload_n hx hb dX3_common_0 rfl (lv_at hl 0 rfl) ?_
  refine va_get (D := D) (ci := 3) (v := .ref (ad 6)) (C := RX3) (T := TX3) (N := 20) hx hb hts inlX3 hown hK hP 0 rfl rfl 9 (by decide) (hts _ zw_4_1) (fun _ h9 => h9) rfl dX3_common_1 ?_
  refine lv_iconst (v := 4) hx hb dX3_common_4 (by decide) ?_
  refine lv_iload_n hx hb dX3_common_5 rfl (lv_at hl 1 rfl) ?_
  refine lv_imul hx hb dX3_common_6 ?_
  refine lv_iconst (v := 2) hx hb dX3_common_7 (by decide) ?_
  refine lv_iadd hx hb dX3_common_8 ?_
  obtain ⟨x1, q2, ex1, hM⟩ := zx_rdE hM
  refine va_iald (D := D) hx hb hK hP 7 0 rfl rfl q2 dX3_common_9 ?_
  refine zx_top ex1 ?_
  refine lv_aload_n hx hb dX3_common_10 rfl (lv_at hl 0 rfl) ?_
  refine va_get (D := D) (ci := 3) (v := .ref (ad 6)) (C := RX3) (T := TX3) (N := 20) hx hb hts inlX3 hown hK hP 0 rfl rfl 9 (by decide) (hts _ zw_4_1) (fun _ h9 => h9) rfl dX3_common_11 ?_
  refine lv_iconst (v := 4) hx hb dX3_common_14 (by decide) ?_
  refine lv_iload_n hx hb dX3_common_15 rfl (lv_at hl 2 rfl) ?_
  refine lv_imul hx hb dX3_common_16 ?_
  refine lv_iconst (v := 2) hx hb dX3_common_17 (by decide) ?_
  refine lv_iadd hx hb dX3_common_18 ?_
  obtain ⟨x3, q4, ex3, hM⟩ := zx_rdE hM
  refine va_iald (D := D) hx hb hK hP 7 0 rfl rfl q4 dX3_common_19 ?_
  refine zx_top ex3 ?_
  obtain ⟨x5, hz6, hM⟩ := zx_b1E hM
  refine va_calli (va_runS (As := [.int x1, .int x3]) (rest := []) ⟨hx, hb, hml, hown, hts⟩ (c_X3_less l D cI cZ cT _ N x1 x3 hz6) (va_cwS 2 hts (zg_S zw_10_6 zw_10_7 zw_1_5 zw_10_8) rfl rfl rfl zyX3_less ⟨Nat.le_of_ble_eq_true rfl, Nat.le_of_ble_eq_true rfl⟩) ⟨bS_blind, bS_pre (zx_P0 hP) hK (zx_D0 hD) hN⟩ rfl rfl hl.1 rfl (lv_room (Nat.le_of_ble_eq_true rfl)) dX3_common_20 ⟨Nat.zero_le _, Nat.zero_le _⟩) hS (fun q h1 h2 => absurd h1 (Nat.not_lt.mpr h2)) (fun q h => hA q (Nat.le_trans hS.1 h)) (fun r u t H1 lc ht hvm hw hB hz1 hk1 hS => ?_)
  replace hw : x5 = r := hw; subst hw
  replace hP := zx_keep hP hk1
  refine lv_aload_n hx hb dX3_common_23 rfl (lv_at hl 0 rfl) ?_
  refine va_get (D := D) (ci := 3) (v := .ref (ad 6)) (C := RX3) (T := TX3) (N := 20) hx hb hts inlX3 hown hK hP 0 rfl rfl 9 (by decide) (hts _ zw_4_1) (fun _ h9 => h9) rfl dX3_common_24 ?_
  refine lv_iconst (v := 4) hx hb dX3_common_27 (by decide) ?_
  refine lv_iload_n hx hb dX3_common_28 rfl (lv_at hl 1 rfl) ?_
  refine lv_imul hx hb dX3_common_29 ?_
  obtain ⟨x7, q8, ex7, hM⟩ := zx_rdE hM
  refine va_iald (D := D) hx hb hK hP 7 0 rfl rfl q8 dX3_common_30 ?_
  refine zx_top ex7 ?_
  refine lv_aload_n hx hb dX3_common_31 rfl (lv_at hl 0 rfl) ?_
  refine va_get (D := D) (ci := 3) (v := .ref (ad 6)) (C := RX3) (T := TX3) (N := 20) hx hb hts inlX3 hown hK hP 0 rfl rfl 9 (by decide) (hts _ zw_4_1) (fun _ h9 => h9) rfl dX3_common_32 ?_
  refine lv_iconst (v := 4) hx hb dX3_common_35 (by decide) ?_
  refine lv_iload_n hx hb dX3_common_36 rfl (lv_at hl 2 rfl) ?_
  refine lv_imul hx hb dX3_common_37 ?_
  obtain ⟨x9, q10, ex9, hM⟩ := zx_rdE hM
  refine va_iald (D := D) hx hb hK hP 7 0 rfl rfl q10 dX3_common_38 ?_
  refine zx_top ex9 ?_
  obtain ⟨x11, hz12, hM⟩ := zx_b1E hM
  refine va_calli (va_runS (As := [.int x7, .int x9]) (rest := [.int x5]) ⟨hx, hb, hml, hown, hts⟩ (c_X3_more l D cI cZ cT _ N x7 x9 hz12) (va_cwS 2 hts (zg_S zw_10_3 zw_10_4 zw_1_5 zw_10_5) rfl rfl rfl zyX3_more ⟨Nat.le_of_ble_eq_true rfl, Nat.le_of_ble_eq_true rfl⟩) ⟨bS_blind, bS_pre (zx_P0 hP) hK (zx_D0 hD) hN⟩ rfl rfl hl.1 rfl (lv_room (Nat.le_of_ble_eq_true rfl)) dX3_common_39 ⟨Nat.zero_le _, Nat.zero_le _⟩) hS (fun q h1 h2 => absurd h1 (Nat.not_lt.mpr h2)) (fun q h => hA q (Nat.le_trans hS.1 h)) (fun r u t H1 lc ht hvm hw hB hz1 hk1 hS => ?_)
  replace hw : x11 = r := hw; subst hw
  replace hP := zx_keep hP hk1
  refine lv_isub hx hb dX3_common_42 ?_
  refine lv_iconst (v := 1) hx hb dX3_common_43 (by decide) ?_
  refine lv_iadd hx hb dX3_common_44 ?_
  obtain ⟨x13, ex13, hM⟩ := zx_nE hM
  refine zx_top ex13 ?_
  refine lv_istore_n (lv' := [(3, .int x13), (0, .ref h), (1, .int p1), (2, .int p2)]) hx hb dX3_common_45 rfl hl (by decide) rfl (fun ls hl => ?_)
  refine lv_aload_n hx hb dX3_common_46 rfl (lv_at hl 1 rfl) ?_
  refine va_get (D := D) (ci := 3) (v := .ref (ad 6)) (C := RX3) (T := TX3) (N := 20) hx hb hts inlX3 hown hK hP 0 rfl rfl 9 (by decide) (hts _ zw_4_1) (fun _ h9 => h9) rfl dX3_common_47 ?_
  refine lv_iconst (v := 4) hx hb dX3_common_50 (by decide) ?_
  refine lv_iload_n hx hb dX3_common_51 rfl (lv_at hl 2 rfl) ?_
  refine lv_imul hx hb dX3_common_52 ?_
  refine lv_iconst (v := 3) hx hb dX3_common_53 (by decide) ?_
  refine lv_iadd hx hb dX3_common_54 ?_
  obtain ⟨x14, q15, ex14, hM⟩ := zx_rdE hM
  refine va_iald (D := D) hx hb hK hP 7 0 rfl rfl q15 dX3_common_55 ?_
  refine zx_top ex14 ?_
  refine lv_aload_n hx hb dX3_common_56 rfl (lv_at hl 1 rfl) ?_
  refine va_get (D := D) (ci := 3) (v := .ref (ad 6)) (C := RX3) (T := TX3) (N := 20) hx hb hts inlX3 hown hK hP 0 rfl rfl 9 (by decide) (hts _ zw_4_1) (fun _ h9 => h9) rfl dX3_common_57 ?_
  refine lv_iconst (v := 4) hx hb dX3_common_60 (by decide) ?_
  refine lv_iload_n hx hb dX3_common_61 rfl (lv_at hl 3 rfl) ?_
  refine lv_imul hx hb dX3_common_62 ?_
  refine lv_iconst (v := 3) hx hb dX3_common_63 (by decide) ?_
  refine lv_iadd hx hb dX3_common_64 ?_
  obtain ⟨x16, q17, ex16, hM⟩ := zx_rdE hM
  refine va_iald (D := D) hx hb hK hP 7 0 rfl rfl q17 dX3_common_65 ?_
  refine zx_top ex16 ?_
  obtain ⟨x18, hz19, hM⟩ := zx_b1E hM
  refine va_calli (va_runS (As := [.int x14, .int x16]) (rest := []) ⟨hx, hb, hml, hown, hts⟩ (c_X3_less l D cI cZ cT _ N x14 x16 hz19) (va_cwS 2 hts (zg_S zw_10_6 zw_10_7 zw_1_5 zw_10_8) rfl rfl rfl zyX3_less ⟨Nat.le_of_ble_eq_true rfl, Nat.le_of_ble_eq_true rfl⟩) ⟨bS_blind, bS_pre (zx_P0 hP) hK (zx_D0 hD) hN⟩ rfl rfl hl.1 rfl (lv_room (Nat.le_of_ble_eq_true rfl)) dX3_common_66 ⟨Nat.zero_le _, Nat.zero_le _⟩) hS (fun q h1 h2 => absurd h1 (Nat.not_lt.mpr h2)) (fun q h => hA q (Nat.le_trans hS.1 h)) (fun r u t H1 lc ht hvm hw hB hz1 hk1 hS => ?_)
  replace hw : x18 = r := hw; subst hw
  replace hP := zx_keep hP hk1
  refine lv_aload_n hx hb dX3_common_69 rfl (lv_at hl 1 rfl) ?_
  refine va_get (D := D) (ci := 3) (v := .ref (ad 6)) (C := RX3) (T := TX3) (N := 20) hx hb hts inlX3 hown hK hP 0 rfl rfl 9 (by decide) (hts _ zw_4_1) (fun _ h9 => h9) rfl dX3_common_70 ?_
  refine lv_iconst (v := 4) hx hb dX3_common_73 (by decide) ?_
  refine lv_iload_n hx hb dX3_common_74 rfl (lv_at hl 2 rfl) ?_
  refine lv_imul hx hb dX3_common_75 ?_
  refine lv_iconst (v := 1) hx hb dX3_common_76 (by decide) ?_
  refine lv_iadd hx hb dX3_common_77 ?_
  obtain ⟨x20, q21, ex20, hM⟩ := zx_rdE hM
  refine va_iald (D := D) hx hb hK hP 7 0 rfl rfl q21 dX3_common_78 ?_
  refine zx_top ex20 ?_
  refine lv_aload_n hx hb dX3_common_79 rfl (lv_at hl 1 rfl) ?_
  refine va_get (D := D) (ci := 3) (v := .ref (ad 6)) (C := RX3) (T := TX3) (N := 20) hx hb hts inlX3 hown hK hP 0 rfl rfl 9 (by decide) (hts _ zw_4_1) (fun _ h9 => h9) rfl dX3_common_80 ?_
  refine lv_iconst (v := 4) hx hb dX3_common_83 (by decide) ?_
  refine lv_iload_n hx hb dX3_common_84 rfl (lv_at hl 3 rfl) ?_
  refine lv_imul hx hb dX3_common_85 ?_
  refine lv_iconst (v := 1) hx hb dX3_common_86 (by decide) ?_
  refine lv_iadd hx hb dX3_common_87 ?_
  obtain ⟨x22, q23, ex22, hM⟩ := zx_rdE hM
  refine va_iald (D := D) hx hb hK hP 7 0 rfl rfl q23 dX3_common_88 ?_
  refine zx_top ex22 ?_
  obtain ⟨x24, hz25, hM⟩ := zx_b1E hM
  refine va_calli (va_runS (As := [.int x20, .int x22]) (rest := [.int x18]) ⟨hx, hb, hml, hown, hts⟩ (c_X3_more l D cI cZ cT _ N x20 x22 hz25) (va_cwS 2 hts (zg_S zw_10_3 zw_10_4 zw_1_5 zw_10_5) rfl rfl rfl zyX3_more ⟨Nat.le_of_ble_eq_true rfl, Nat.le_of_ble_eq_true rfl⟩) ⟨bS_blind, bS_pre (zx_P0 hP) hK (zx_D0 hD) hN⟩ rfl rfl hl.1 rfl (lv_room (Nat.le_of_ble_eq_true rfl)) dX3_common_89 ⟨Nat.zero_le _, Nat.zero_le _⟩) hS (fun q h1 h2 => absurd h1 (Nat.not_lt.mpr h2)) (fun q h => hA q (Nat.le_trans hS.1 h)) (fun r u t H1 lc ht hvm hw hB hz1 hk1 hS => ?_)
  replace hw : x24 = r := hw; subst hw
  replace hP := zx_keep hP hk1
  refine lv_isub hx hb dX3_common_92 ?_
  refine lv_iconst (v := 1) hx hb dX3_common_93 (by decide) ?_
  refine lv_iadd hx hb dX3_common_94 ?_
  obtain ⟨x26, ex26, hM⟩ := zx_nE hM
  refine zx_top ex26 ?_
  refine lv_istore (lv' := [(4, .int x26), (3, .int x13), (0, .ref h), (1, .int p1), (2, .int p2)]) hx hb dX3_common_95 hl (by decide) rfl (fun ls hl => ?_)
  refine lv_iload_n hx hb dX3_common_97 rfl (lv_at hl 1 rfl) ?_
  refine lv_if_le (tgt := 113) hx hb dX3_common_98 (by decide) (fun q27 => ?_) (fun q27 => ?_)
  · replace hM := zx_t q27 hM
    refine lv_iconst (v := 0) hx hb dX3_common_113 (by decide) ?_
    rw [hQ]
    exact W.iret hx hb hr (fun t ht hW => ⟨⟨0, (), rfl, (Option.some.inj hM).symm, trivial⟩, hS.F ht⟩) hS.2.2 dX3_common_114
  · replace hM := zx_f q27 hM
    refine lv_iload hx hb dX3_common_101 (lv_at hl 0 rfl) ?_
    refine lv_if_le (tgt := 113) hx hb dX3_common_103 (by decide) (fun q28 => ?_) (fun q28 => ?_)
    · replace hM := zx_t q28 hM
      refine lv_iconst (v := 0) hx hb dX3_common_113 (by decide) ?_
      rw [hQ]
      exact W.iret hx hb hr (fun t ht hW => ⟨⟨0, (), rfl, (Option.some.inj hM).symm, trivial⟩, hS.F ht⟩) hS.2.2 dX3_common_114
    · replace hM := zx_f q28 hM
      refine lv_iload_n hx hb dX3_common_106 rfl (lv_at hl 1 rfl) ?_
      refine lv_iload hx hb dX3_common_107 (lv_at hl 0 rfl) ?_
      refine lv_imul hx hb dX3_common_109 ?_
      refine lv_goto (tgt := 114) hx hb dX3_common_110 (by decide) ?_
      rw [hQ]
      exact W.iret hx hb hr (fun t ht hW => ⟨⟨(x13 * x26), (), rfl, (Option.some.inj hM).symm, trivial⟩, hS.F ht⟩) hS.2.2 dX3_common_114

/-! ShallowBoxesModel.apart(II)I -/
def f_X3_apart (N : Nat) (p1 : Int32) (p2 : Int32) (S : zx_S) : Option (Int32) :=
  (zx_rd 224 (S 6) (4 * p1) (fun x1 =>
(zx_rd 224 (S 6) ((4 * p1) + 2) (fun x3 =>
(zx_rd 224 (S 6) (4 * p2) (fun x5 =>
(zx_rd 224 (S 6) ((4 * p2) + 2) (fun x7 =>
(zx_n (((x1 + x3) - x5) - x7) (fun x9 =>
(zx_rd 224 (S 6) ((4 * p1) + 1) (fun x10 =>
(zx_rd 224 (S 6) ((4 * p1) + 3) (fun x12 =>
(zx_rd 224 (S 6) ((4 * p2) + 1) (fun x14 =>
(zx_rd 224 (S 6) ((4 * p2) + 3) (fun x16 =>
(zx_n (((x10 + x12) - x14) - x16) (fun x18 =>
some ((x9 * x9) + (x18 * x18))))))))))))))))))))))
abbrev rmX3_apart : Room := { frames := 0, cells := 0, slots := 0, locals := 0 }
abbrev zsX3_apart : List Cond := .code yX3_apart cX3_apart 5 (some .int) :: wsL_law
theorem zyX3_apart : yX3_apart.cls ≠ "java/lang/invoke/MethodHandle" ∧ yX3_apart.cls ≠ "java/lang/invoke/VarHandle" ∧ (parseMethodDescriptor yX3_apart.desc).map (fun d => d.parameters.length) = some 2 := by decide +kernel
set_option maxHeartbeats 4000000 in
set_option maxRecDepth 100000 in
theorem c_X3_apart (l : Launch) (D : va_G) (cI cZ cT : ClassId) (h : Nat) (ad : Nat → Nat) (S : zx_S) (sz : Nat) (N : Nat) (p1 : Int32) (p2 : Int32) {R : Int32} (hM : f_X3_apart N p1 p2 S = some R) : Met l yX3_apart zsX3_apart rmX3_apart (va_Pc [.ref h, .int p1, .int p2] (bS D (zx_ty cI cZ cT) (xW3 cI cZ h ad S) sz)) (va_Qi (fun r (_ : Unit) => R = r) (fun _ _ => True) (fun q => sz ≤ q)) 0 0 (fun q => sz ≤ q) := by
  refine Met.ofW (cc := cX3_apart) (maxL := 5) (ret := (some .int)) (by decide) rfl ?_
  intro p e s m args below meth c s₁ B hml hv
  obtain ⟨rfl, hsz, hP, hK, hD0, hN⟩ := hv
  have hx := B.exec
  have hb := B.bytes
  have hr := B.returns
  have hts : ∀ w ∈ wsL_law, w.before _ s = true := fun w hw => atoms_spec (ws := zsX3_apart) B.pre w (List.mem_cons_of_mem _ hw)
  have hown : s.vm.findClass RX3 = some m.cls := findClass_of_methodNamed B.named
  have hlocks := B.notSynchronized
  subst hsz
  generalize hAe : (fun q : Nat => s.heap.size ≤ q) = A
  have hA : ∀ q : Nat, s.heap.size ≤ q → A q := fun q h => by rw [← hAe]; exact h
  have hD := hD0
  have hS : va_S A s.heap s.heap [] := va_S.rf
  have hl := lv_entry ([.ref h, .int p1, .int p2]) (n := 5) (Nat.le_of_ble_eq_true rfl)
  rw [lg_entry_eq]
  generalize (lg_sl ([.ref h, .int p1, .int p2]) ++ List.replicate (5 - (lg_sl ([.ref h, .int p1, .int p2])).length) Slot.unset).toArray = ls at hl ⊢
  have hl : lv_has ls 5 [(0, .ref h), (1, .int p1), (2, .int p2)] := hl
  generalize hQ : MQ below (va_Qi (fun r (_ : Unit) => R = r) (fun _ _ => True) A) ([.ref h, .int p1, .int p2] : List Value).toArray s 0 0 A = Q9
  replace hQ := hQ.symm
  unfold f_X3_apart at hM
  refine lv_aload_n hx hb dX3_apart_0 rfl (lv_at hl 0 rfl) ?_
  refine va_get (D := D) (ci := 3) (v := .ref (ad 6)) (C := RX3) (T := TX3) (N := 20) hx hb hts inlX3 hown hK hP 0 rfl rfl 9 (by decide) (hts _ zw_4_1) (fun _ h9 => h9) rfl dX3_apart_1 ?_
  refine lv_iconst (v := 4) hx hb dX3_apart_4 (by decide) ?_
  refine lv_iload_n hx hb dX3_apart_5 rfl (lv_at hl 1 rfl) ?_
  refine lv_imul hx hb dX3_apart_6 ?_
  obtain ⟨x1, q2, ex1, hM⟩ := zx_rdE hM
  refine va_iald (D := D) hx hb hK hP 7 0 rfl rfl q2 dX3_apart_7 ?_
  refine zx_top ex1 ?_
  refine lv_aload_n hx hb dX3_apart_8 rfl (lv_at hl 0 rfl) ?_
  refine va_get (D := D) (ci := 3) (v := .ref (ad 6)) (C := RX3) (T := TX3) (N := 20) hx hb hts inlX3 hown hK hP 0 rfl rfl 9 (by decide) (hts _ zw_4_1) (fun _ h9 => h9) rfl dX3_apart_9 ?_
  refine lv_iconst (v := 4) hx hb dX3_apart_12 (by decide) ?_
  refine lv_iload_n hx hb dX3_apart_13 rfl (lv_at hl 1 rfl) ?_
  refine lv_imul hx hb dX3_apart_14 ?_
  refine lv_iconst (v := 2) hx hb dX3_apart_15 (by decide) ?_
  refine lv_iadd hx hb dX3_apart_16 ?_
  obtain ⟨x3, q4, ex3, hM⟩ := zx_rdE hM
  refine va_iald (D := D) hx hb hK hP 7 0 rfl rfl q4 dX3_apart_17 ?_
  refine zx_top ex3 ?_
  refine lv_iadd hx hb dX3_apart_18 ?_
  refine lv_aload_n hx hb dX3_apart_19 rfl (lv_at hl 0 rfl) ?_
  refine va_get (D := D) (ci := 3) (v := .ref (ad 6)) (C := RX3) (T := TX3) (N := 20) hx hb hts inlX3 hown hK hP 0 rfl rfl 9 (by decide) (hts _ zw_4_1) (fun _ h9 => h9) rfl dX3_apart_20 ?_
  refine lv_iconst (v := 4) hx hb dX3_apart_23 (by decide) ?_
  refine lv_iload_n hx hb dX3_apart_24 rfl (lv_at hl 2 rfl) ?_
  refine lv_imul hx hb dX3_apart_25 ?_
  obtain ⟨x5, q6, ex5, hM⟩ := zx_rdE hM
  refine va_iald (D := D) hx hb hK hP 7 0 rfl rfl q6 dX3_apart_26 ?_
  refine zx_top ex5 ?_
  refine lv_isub hx hb dX3_apart_27 ?_
  refine lv_aload_n hx hb dX3_apart_28 rfl (lv_at hl 0 rfl) ?_
  refine va_get (D := D) (ci := 3) (v := .ref (ad 6)) (C := RX3) (T := TX3) (N := 20) hx hb hts inlX3 hown hK hP 0 rfl rfl 9 (by decide) (hts _ zw_4_1) (fun _ h9 => h9) rfl dX3_apart_29 ?_
  refine lv_iconst (v := 4) hx hb dX3_apart_32 (by decide) ?_
  refine lv_iload_n hx hb dX3_apart_33 rfl (lv_at hl 2 rfl) ?_
  refine lv_imul hx hb dX3_apart_34 ?_
  refine lv_iconst (v := 2) hx hb dX3_apart_35 (by decide) ?_
  refine lv_iadd hx hb dX3_apart_36 ?_
  obtain ⟨x7, q8, ex7, hM⟩ := zx_rdE hM
  refine va_iald (D := D) hx hb hK hP 7 0 rfl rfl q8 dX3_apart_37 ?_
  refine zx_top ex7 ?_
  refine lv_isub hx hb dX3_apart_38 ?_
  obtain ⟨x9, ex9, hM⟩ := zx_nE hM
  refine zx_top ex9 ?_
  refine lv_istore_n (lv' := [(3, .int x9), (0, .ref h), (1, .int p1), (2, .int p2)]) hx hb dX3_apart_39 rfl hl (by decide) rfl (fun ls hl => ?_)
  refine lv_aload_n hx hb dX3_apart_40 rfl (lv_at hl 1 rfl) ?_
  refine va_get (D := D) (ci := 3) (v := .ref (ad 6)) (C := RX3) (T := TX3) (N := 20) hx hb hts inlX3 hown hK hP 0 rfl rfl 9 (by decide) (hts _ zw_4_1) (fun _ h9 => h9) rfl dX3_apart_41 ?_
  refine lv_iconst (v := 4) hx hb dX3_apart_44 (by decide) ?_
  refine lv_iload_n hx hb dX3_apart_45 rfl (lv_at hl 2 rfl) ?_
  refine lv_imul hx hb dX3_apart_46 ?_
  refine lv_iconst (v := 1) hx hb dX3_apart_47 (by decide) ?_
  refine lv_iadd hx hb dX3_apart_48 ?_
  obtain ⟨x10, q11, ex10, hM⟩ := zx_rdE hM
  refine va_iald (D := D) hx hb hK hP 7 0 rfl rfl q11 dX3_apart_49 ?_
  refine zx_top ex10 ?_
  refine lv_aload_n hx hb dX3_apart_50 rfl (lv_at hl 1 rfl) ?_
  refine va_get (D := D) (ci := 3) (v := .ref (ad 6)) (C := RX3) (T := TX3) (N := 20) hx hb hts inlX3 hown hK hP 0 rfl rfl 9 (by decide) (hts _ zw_4_1) (fun _ h9 => h9) rfl dX3_apart_51 ?_
  refine lv_iconst (v := 4) hx hb dX3_apart_54 (by decide) ?_
  refine lv_iload_n hx hb dX3_apart_55 rfl (lv_at hl 2 rfl) ?_
  refine lv_imul hx hb dX3_apart_56 ?_
  refine lv_iconst (v := 3) hx hb dX3_apart_57 (by decide) ?_
  refine lv_iadd hx hb dX3_apart_58 ?_
  obtain ⟨x12, q13, ex12, hM⟩ := zx_rdE hM
  refine va_iald (D := D) hx hb hK hP 7 0 rfl rfl q13 dX3_apart_59 ?_
  refine zx_top ex12 ?_
  refine lv_iadd hx hb dX3_apart_60 ?_
  refine lv_aload_n hx hb dX3_apart_61 rfl (lv_at hl 1 rfl) ?_
  refine va_get (D := D) (ci := 3) (v := .ref (ad 6)) (C := RX3) (T := TX3) (N := 20) hx hb hts inlX3 hown hK hP 0 rfl rfl 9 (by decide) (hts _ zw_4_1) (fun _ h9 => h9) rfl dX3_apart_62 ?_
  refine lv_iconst (v := 4) hx hb dX3_apart_65 (by decide) ?_
  refine lv_iload_n hx hb dX3_apart_66 rfl (lv_at hl 3 rfl) ?_
  refine lv_imul hx hb dX3_apart_67 ?_
  refine lv_iconst (v := 1) hx hb dX3_apart_68 (by decide) ?_
  refine lv_iadd hx hb dX3_apart_69 ?_
  obtain ⟨x14, q15, ex14, hM⟩ := zx_rdE hM
  refine va_iald (D := D) hx hb hK hP 7 0 rfl rfl q15 dX3_apart_70 ?_
  refine zx_top ex14 ?_
  refine lv_isub hx hb dX3_apart_71 ?_
  refine lv_aload_n hx hb dX3_apart_72 rfl (lv_at hl 1 rfl) ?_
  refine va_get (D := D) (ci := 3) (v := .ref (ad 6)) (C := RX3) (T := TX3) (N := 20) hx hb hts inlX3 hown hK hP 0 rfl rfl 9 (by decide) (hts _ zw_4_1) (fun _ h9 => h9) rfl dX3_apart_73 ?_
  refine lv_iconst (v := 4) hx hb dX3_apart_76 (by decide) ?_
  refine lv_iload_n hx hb dX3_apart_77 rfl (lv_at hl 3 rfl) ?_
  refine lv_imul hx hb dX3_apart_78 ?_
  refine lv_iconst (v := 3) hx hb dX3_apart_79 (by decide) ?_
  refine lv_iadd hx hb dX3_apart_80 ?_
  obtain ⟨x16, q17, ex16, hM⟩ := zx_rdE hM
  refine va_iald (D := D) hx hb hK hP 7 0 rfl rfl q17 dX3_apart_81 ?_
  refine zx_top ex16 ?_
  refine lv_isub hx hb dX3_apart_82 ?_
  obtain ⟨x18, ex18, hM⟩ := zx_nE hM
  refine zx_top ex18 ?_
  refine lv_istore (lv' := [(4, .int x18), (3, .int x9), (0, .ref h), (1, .int p1), (2, .int p2)]) hx hb dX3_apart_83 hl (by decide) rfl (fun ls hl => ?_)
  refine lv_iload_n hx hb dX3_apart_85 rfl (lv_at hl 1 rfl) ?_
  refine lv_iload_n hx hb dX3_apart_86 rfl (lv_at hl 1 rfl) ?_
  refine lv_imul hx hb dX3_apart_87 ?_
  refine lv_iload hx hb dX3_apart_88 (lv_at hl 0 rfl) ?_
  refine lv_iload hx hb dX3_apart_90 (lv_at hl 0 rfl) ?_
  refine lv_imul hx hb dX3_apart_92 ?_
  refine lv_iadd hx hb dX3_apart_93 ?_
  rw [hQ]
  exact W.iret hx hb hr (fun t ht hW => ⟨⟨((x9 * x9) + (x18 * x18)), (), rfl, (Option.some.inj hM).symm, trivial⟩, hS.F ht⟩) hS.2.2 dX3_apart_94

/-! ShallowBoxesModel.reach([III)I -/
def f_X3_reach_j142 (N : Nat) (w : Nat) (S : zx_S) (k7 : Int32 → Int32 → Int32 → Option (Int32)) (k23 : Int32 → Int32 → Int32 → Int32 → Int32 → Option (Int32)) (v2 : Int32) (v3 : Int32) (v4 : Int32) (v6 : Int32) (t0 : Int32) : Option (Int32) :=
  (zx_n (v6 + 1) (fun x8 =>
k23 v2 v3 v4 t0 x8))
def f_X3_reach_j130 (N : Nat) (w : Nat) (S : zx_S) (k7 : Int32 → Int32 → Int32 → Option (Int32)) (k23 : Int32 → Int32 → Int32 → Int32 → Int32 → Option (Int32)) (v2 : Int32) (v3 : Int32) (v4 : Int32) (v5 : Int32) (v6 : Int32) (v7 : Int32) (v8 : Int32) : Option (Int32) :=
  (if v8 = 0 then
  f_X3_reach_j142 N w S k7 k23 v2 v3 v4 v6 v5 else
  f_X3_reach_j142 N w S k7 k23 v2 v3 v4 v6 v7)
def f_X3_reach_j128 (N : Nat) (w : Nat) (S : zx_S) (k7 : Int32 → Int32 → Int32 → Option (Int32)) (k23 : Int32 → Int32 → Int32 → Int32 → Int32 → Option (Int32)) (v2 : Int32) (v3 : Int32) (v4 : Int32) (v5 : Int32) (v6 : Int32) (v7 : Int32) (t0 : Int32) : Option (Int32) :=
  f_X3_reach_j130 N w S k7 k23 v2 v3 v4 v5 v6 v7 t0
def f_X3_reach_j123 (N : Nat) (w : Nat) (S : zx_S) (k7 : Int32 → Int32 → Int32 → Option (Int32)) (k23 : Int32 → Int32 → Int32 → Int32 → Int32 → Option (Int32)) (v2 : Int32) (v3 : Int32) (v4 : Int32) (v5 : Int32) (v6 : Int32) (v7 : Int32) : Option (Int32) :=
  f_X3_reach_j128 N w S k7 k23 v2 v3 v4 v5 v6 v7 1
def f_X3_reach_j127 (N : Nat) (w : Nat) (S : zx_S) (k7 : Int32 → Int32 → Int32 → Option (Int32)) (k23 : Int32 → Int32 → Int32 → Int32 → Int32 → Option (Int32)) (v2 : Int32) (v3 : Int32) (v4 : Int32) (v5 : Int32) (v6 : Int32) (v7 : Int32) : Option (Int32) :=
  f_X3_reach_j128 N w S k7 k23 v2 v3 v4 v5 v6 v7 0
def f_X3_reach_j55 (N : Nat) (w : Nat) (S : zx_S) (k7 : Int32 → Int32 → Int32 → Option (Int32)) (k23 : Int32 → Int32 → Int32 → Int32 → Int32 → Option (Int32)) (v2 : Int32) (v3 : Int32) (v4 : Int32) (v5 : Int32) (v6 : Int32) (v7 : Int32) (t0 : Int32) : Option (Int32) :=
  (if t0 = 0 then
  (zx_b1 (f_X3_joinArea N v7 v2 S) (fun x11 =>
(zx_b1 (f_X3_area N v7 S) (fun x13 =>
(zx_n (x11 - x13) (fun x15 =>
(zx_b1 (f_X3_joinArea N v5 v2 S) (fun x16 =>
(zx_b1 (f_X3_area N v5 S) (fun x18 =>
(zx_n (x16 - x18) (fun x20 =>
(if x15 < x20 then
  f_X3_reach_j123 N w S k7 k23 v2 v3 v4 v5 v6 v7 else
  (if x15 = x20 then
  (zx_b1 (f_X3_area N v7 S) (fun x23 =>
(zx_b1 (f_X3_area N v5 S) (fun x25 =>
(if x25 ≤ x23 then
  f_X3_reach_j127 N w S k7 k23 v2 v3 v4 v5 v6 v7 else
  f_X3_reach_j123 N w S k7 k23 v2 v3 v4 v5 v6 v7))))) else
  f_X3_reach_j127 N w S k7 k23 v2 v3 v4 v5 v6 v7)))))))))))))) else
  f_X3_reach_j130 N w S k7 k23 v2 v3 v4 v5 v6 v7 t0)
def f_X3_reach_l23 (N : Nat) (w : Nat) (S : zx_S) (k7 : Int32 → Int32 → Int32 → Option (Int32)) : Nat → Int32 → Int32 → Int32 → Int32 → Int32 → Option (Int32)
  | 0, _, _, _, _, _ => none
  | n23 + 1, v2, v3, v4, v5, v6 => (zx_b1 (f_X3_many N 380 v4 (S w)) (fun x4 =>
(if x4 ≤ v6 then
  (zx_n (v5 - 24) (fun x7 =>
k7 v2 v3 x7)) else
  (zx_b1 (f_X3_entryOf N 380 v4 v6 (S w)) (fun x28 =>
(if v5 = (-1) then
  f_X3_reach_j55 N w S k7 (f_X3_reach_l23 N w S k7  n23) v2 v3 v4 v5 v6 x28 1 else
  f_X3_reach_j55 N w S k7 (f_X3_reach_l23 N w S k7  n23) v2 v3 v4 v5 v6 x28 0))))))
def f_X3_reach_l7 (N : Nat) (w : Nat) (S : zx_S) : Nat → Int32 → Int32 → Int32 → Option (Int32)
  | 0, _, _, _ => none
  | n7 + 1, v2, v3, v4 => (zx_b1 (f_X3_levelOf N 380 v4 (S w)) (fun x1 =>
(if x1 ≤ v3 then
  some v4 else
  f_X3_reach_l23 N w S (f_X3_reach_l7 N w S  n7) N v2 v3 v4 (-1) 0)))
def f_X3_reach (N : Nat) (w : Nat) (p2 : Int32) (p3 : Int32) (S : zx_S) : Option (Int32) :=
  (zx_rd 380 (S w) 376 (fun x31 =>
f_X3_reach_l7 N w S  N p2 p3 x31))
abbrev rmX3_reach : Room := { frames := 2, cells := 0, slots := 0, locals := 45 }
abbrev zsX3_reach : List Cond := .code yX3_reach cX3_reach 11 (some .int) :: wsL_law
theorem zyX3_reach : yX3_reach.cls ≠ "java/lang/invoke/MethodHandle" ∧ yX3_reach.cls ≠ "java/lang/invoke/VarHandle" ∧ (parseMethodDescriptor yX3_reach.desc).map (fun d => d.parameters.length) = some 3 := by decide +kernel
set_option maxHeartbeats 4000000 in
set_option maxRecDepth 100000 in
theorem c_X3_reach (l : Launch) (D : va_G) (cI cZ cT : ClassId) (h : Nat) (ad : Nat → Nat) (S : zx_S) (sz : Nat) (N : Nat) (w : Nat) (hrw : w = 1 ∨ w = 2) (p2 : Int32) (p3 : Int32) {R : Int32} (hM : f_X3_reach N w p2 p3 S = some R) : Met l yX3_reach zsX3_reach rmX3_reach (va_Pc [.ref h, .ref (ad w), .int p2, .int p3] (bS D (zx_ty cI cZ cT) (xW3 cI cZ h ad S) sz)) (va_Qi (fun r (_ : Unit) => R = r) (fun _ _ => True) (fun q => sz ≤ q)) 0 0 (fun q => sz ≤ q) := by
  refine Met.ofW (cc := cX3_reach) (maxL := 11) (ret := (some .int)) (by decide) rfl ?_
  intro p e s m args below meth c s₁ B hml hv
  obtain ⟨rfl, hsz, hP, hK, hD0, hN⟩ := hv
  have hx := B.exec
  have hb := B.bytes
  have hr := B.returns
  have hts : ∀ w ∈ wsL_law, w.before _ s = true := fun w hw => atoms_spec (ws := zsX3_reach) B.pre w (List.mem_cons_of_mem _ hw)
  have hown : s.vm.findClass RX3 = some m.cls := findClass_of_methodNamed B.named
  have hlocks := B.notSynchronized
  subst hsz
  generalize hAe : (fun q : Nat => s.heap.size ≤ q) = A
  have hA : ∀ q : Nat, s.heap.size ≤ q → A q := fun q h => by rw [← hAe]; exact h
  have hD := hD0
  have hS : va_S A s.heap s.heap [] := va_S.rf
  have hl := lv_entry ([.ref h, .ref (ad w), .int p2, .int p3]) (n := 11) (Nat.le_of_ble_eq_true rfl)
  rw [lg_entry_eq]
  generalize (lg_sl ([.ref h, .ref (ad w), .int p2, .int p3]) ++ List.replicate (11 - (lg_sl ([.ref h, .ref (ad w), .int p2, .int p3])).length) Slot.unset).toArray = ls at hl ⊢
  have hl : lv_has ls 11 [(0, .ref h), (1, .ref (ad w)), (2, .int p2), (3, .int p3)] := hl
  generalize hQ : MQ below (va_Qi (fun r (_ : Unit) => R = r) (fun _ _ => True) A) ([.ref h, .ref (ad w), .int p2, .int p3] : List Value).toArray s 0 0 A = Q9
  replace hQ := hQ.symm
  unfold f_X3_reach at hM
  have l7 : ∀ (n7 : Nat) (v2 : Int32) (v3 : Int32) (v4 : Int32) (H : Heap) (lc : List Loc) (ls : Array Slot), va_P D vwCl (xW3 cI cZ h ad S) H → va_S A s.heap H lc → lv_has ls 11 [(0, .ref h), (1, .ref (ad w)), (2, .int v2), (3, .int v3), (4, .int v4)] → f_X3_reach_l7 N w S n7 v2 v3 v4 = some R → W p l e (headSpec zsX3_reach rmX3_reach).room s m ([.ref h, .ref (ad w), .int p2, .int p3] : List Value).toArray below meth c H lc 0 0 Q9 (F0 m 7 ls []) := by
    intro n7
    induction n7 with
    | zero =>
      intro v2 v3 v4 H lc ls hP hS hl hM
      rw [f_X3_reach_l7] at hM; exact absurd hM (by intro h; cases h)
    | succ n7 ih7 =>
      intro v2 v3 v4 H lc ls hP hS hl hM
      rw [f_X3_reach_l7] at hM
      refine lv_aload_n hx hb dX3_reach_7 rfl (lv_at hl 1 rfl) ?_
      refine lv_iload hx hb dX3_reach_8 (lv_at hl 4 rfl) ?_
      obtain ⟨x1, hz2, hM⟩ := zx_b1E hM
      refine va_calli (va_runS (As := [.ref (ad w), .int v4]) (rest := []) ⟨hx, hb, hml, hown, hts⟩ (c_X3_levelOf l D cI cZ cT (ad w) 380 (S w) _ N v4 hz2) (va_cwS 2 hts (zg_S zw_9_9 zw_9_10 zw_1_5 zw_9_11) rfl rfl rfl zyX3_levelOf ⟨Nat.le_of_ble_eq_true rfl, Nat.le_of_ble_eq_true rfl⟩) ⟨bS_blind, bS_pre (zx_P1 hP (w + 1) ((xW3_aw hrw))) hK (zx_D1 hD (w + 1) ((xW3_aw hrw))) hN⟩ rfl rfl hl.1 rfl (lv_room (Nat.le_of_ble_eq_true rfl)) dX3_reach_10 ⟨Nat.zero_le _, Nat.zero_le _⟩) hS (fun q h1 h2 => absurd h1 (Nat.not_lt.mpr h2)) (fun q h => hA q (Nat.le_trans hS.1 h)) (fun r u t H1 lc ht hvm hw hB hz1 hk1 hS => ?_)
      replace hw : x1 = r := hw; subst hw
      replace hP := zx_keep hP hk1
      refine lv_iload_n hx hb dX3_reach_13 rfl (lv_at hl 3 rfl) ?_
      refine lv_icmp_le (tgt := 160) hx hb dX3_reach_14 (by decide) (fun q3 => ?_) (fun q3 => ?_)
      · replace hM := zx_t q3 hM
        refine lv_iload hx hb dX3_reach_160 (lv_at hl 4 rfl) ?_
        rw [hQ]
        exact W.iret hx hb hr (fun t ht hW => ⟨⟨v4, (), rfl, (Option.some.inj hM).symm, trivial⟩, hS.F ht⟩) hS.2.2 dX3_reach_162
      · replace hM := zx_f q3 hM
        have l23 : ∀ (n23 : Nat) (v2 : Int32) (v3 : Int32) (v4 : Int32) (v5 : Int32) (v6 : Int32) (H : Heap) (lc : List Loc) (ls : Array Slot), va_P D vwCl (xW3 cI cZ h ad S) H → va_S A s.heap H lc → lv_has ls 11 [(0, .ref h), (1, .ref (ad w)), (2, .int v2), (3, .int v3), (4, .int v4), (5, .int v5), (6, .int v6)] → f_X3_reach_l23 N w S (f_X3_reach_l7 N w S  n7) n23 v2 v3 v4 v5 v6 = some R → W p l e (headSpec zsX3_reach rmX3_reach).room s m ([.ref h, .ref (ad w), .int p2, .int p3] : List Value).toArray below meth c H lc 0 0 Q9 (F0 m 23 ls []) := by
          intro n23
          induction n23 with
          | zero =>
            intro v2 v3 v4 v5 v6 H lc ls hP hS hl hM
            rw [f_X3_reach_l23] at hM; exact absurd hM (by intro h; cases h)
          | succ n23 ih23 =>
            intro v2 v3 v4 v5 v6 H lc ls hP hS hl hM
            rw [f_X3_reach_l23] at hM
            refine lv_iload hx hb dX3_reach_23 (lv_at hl 6 rfl) ?_
            refine lv_aload_n hx hb dX3_reach_25 rfl (lv_at hl 1 rfl) ?_
            refine lv_iload hx hb dX3_reach_26 (lv_at hl 4 rfl) ?_
            obtain ⟨x4, hz5, hM⟩ := zx_b1E hM
            refine va_calli (va_runS (As := [.ref (ad w), .int v4]) (rest := [.int v6]) ⟨hx, hb, hml, hown, hts⟩ (c_X3_many l D cI cZ cT (ad w) 380 (S w) _ N v4 hz5) (va_cwS 2 hts (zg_S zw_9_3 zw_9_4 zw_1_5 zw_9_5) rfl rfl rfl zyX3_many ⟨Nat.le_of_ble_eq_true rfl, Nat.le_of_ble_eq_true rfl⟩) ⟨bS_blind, bS_pre (zx_P1 hP (w + 1) ((xW3_aw hrw))) hK (zx_D1 hD (w + 1) ((xW3_aw hrw))) hN⟩ rfl rfl hl.1 rfl (lv_room (Nat.le_of_ble_eq_true rfl)) dX3_reach_28 ⟨Nat.zero_le _, Nat.zero_le _⟩) hS (fun q h1 h2 => absurd h1 (Nat.not_lt.mpr h2)) (fun q h => hA q (Nat.le_trans hS.1 h)) (fun r u t H1 lc ht hvm hw hB hz1 hk1 hS => ?_)
            replace hw : x4 = r := hw; subst hw
            replace hP := zx_keep hP hk1
            refine lv_icmp_ge (tgt := 150) hx hb dX3_reach_31 (by decide) (fun q6 => ?_) (fun q6 => ?_)
            · replace hM := zx_t q6 hM
              refine lv_iload hx hb dX3_reach_150 (lv_at hl 5 rfl) ?_
              refine lv_bipush (v := 24) hx hb dX3_reach_152 (by decide) ?_
              refine lv_isub hx hb dX3_reach_154 ?_
              obtain ⟨x7, ex7, hM⟩ := zx_nE hM
              refine zx_top ex7 ?_
              refine lv_istore (lv' := [(4, .int x7), (0, .ref h), (1, .ref (ad w)), (2, .int v2), (3, .int v3), (5, .int v5), (6, .int v6)]) hx hb dX3_reach_155 hl (by decide) rfl (fun ls hl => ?_)
              refine lv_goto (tgt := 7) hx hb dX3_reach_157 (by decide) ?_
              exact ih7 v2 v3 x7 _ _ _ hP hS (lv_sub hl [1, 2, 3, 4, 0] rfl) hM
            · replace hM := zx_f q6 hM
              have j55 : ∀ (v2 : Int32) (v3 : Int32) (v4 : Int32) (v5 : Int32) (v6 : Int32) (v7 : Int32) (t0 : Int32) (H : Heap) (lc : List Loc) (ls : Array Slot), va_P D vwCl (xW3 cI cZ h ad S) H → va_S A s.heap H lc → lv_has ls 11 [(0, .ref h), (1, .ref (ad w)), (2, .int v2), (3, .int v3), (4, .int v4), (5, .int v5), (6, .int v6), (7, .int v7)] → f_X3_reach_j55 N w S (f_X3_reach_l7 N w S  n7) (f_X3_reach_l23 N w S (f_X3_reach_l7 N w S  n7)  n23) v2 v3 v4 v5 v6 v7 t0 = some R → W p l e (headSpec zsX3_reach rmX3_reach).room s m ([.ref h, .ref (ad w), .int p2, .int p3] : List Value).toArray below meth c H lc 0 0 Q9 (F0 m 55 ls [.int t0]) := by
                intro v2 v3 v4 v5 v6 v7 t0 H lc ls hP hS hl hM
                unfold f_X3_reach_j55 at hM
                have j130 : ∀ (v2 : Int32) (v3 : Int32) (v4 : Int32) (v5 : Int32) (v6 : Int32) (v7 : Int32) (v8 : Int32) (H : Heap) (lc : List Loc) (ls : Array Slot), va_P D vwCl (xW3 cI cZ h ad S) H → va_S A s.heap H lc → lv_has ls 11 [(0, .ref h), (1, .ref (ad w)), (2, .int v2), (3, .int v3), (4, .int v4), (5, .int v5), (6, .int v6), (7, .int v7), (8, .int v8)] → f_X3_reach_j130 N w S (f_X3_reach_l7 N w S  n7) (f_X3_reach_l23 N w S (f_X3_reach_l7 N w S  n7)  n23) v2 v3 v4 v5 v6 v7 v8 = some R → W p l e (headSpec zsX3_reach rmX3_reach).room s m ([.ref h, .ref (ad w), .int p2, .int p3] : List Value).toArray below meth c H lc 0 0 Q9 (F0 m 130 ls []) := by
                  intro v2 v3 v4 v5 v6 v7 v8 H lc ls hP hS hl hM
                  unfold f_X3_reach_j130 at hM
                  have j142 : ∀ (v2 : Int32) (v3 : Int32) (v4 : Int32) (v6 : Int32) (t0 : Int32) (H : Heap) (lc : List Loc) (ls : Array Slot), va_P D vwCl (xW3 cI cZ h ad S) H → va_S A s.heap H lc → lv_has ls 11 [(0, .ref h), (1, .ref (ad w)), (2, .int v2), (3, .int v3), (4, .int v4), (6, .int v6)] → f_X3_reach_j142 N w S (f_X3_reach_l7 N w S  n7) (f_X3_reach_l23 N w S (f_X3_reach_l7 N w S  n7)  n23) v2 v3 v4 v6 t0 = some R → W p l e (headSpec zsX3_reach rmX3_reach).room s m ([.ref h, .ref (ad w), .int p2, .int p3] : List Value).toArray below meth c H lc 0 0 Q9 (F0 m 142 ls [.int t0]) := by
                    intro v2 v3 v4 v6 t0 H lc ls hP hS hl hM
                    unfold f_X3_reach_j142 at hM
                    refine lv_istore (lv' := [(5, .int t0), (0, .ref h), (1, .ref (ad w)), (2, .int v2), (3, .int v3), (4, .int v4), (6, .int v6)]) hx hb dX3_reach_142 hl (by decide) rfl (fun ls hl => ?_)
                    obtain ⟨x8, ex8, hM⟩ := zx_nE hM
                    refine lv_iinc (v := x8) (lv' := [(6, .int x8), (5, .int t0), (0, .ref h), (1, .ref (ad w)), (2, .int v2), (3, .int v3), (4, .int v4)]) hx hb dX3_reach_144 hl (k := 6) rfl (by rw [ex8]; rfl) (by decide) rfl (fun ls hl => ?_)
                    refine lv_goto (tgt := 23) hx hb dX3_reach_147 (by decide) ?_
                    exact ih23 v2 v3 v4 t0 x8 _ _ _ hP hS (lv_sub hl [2, 3, 4, 5, 6, 1, 0] rfl) hM
                  refine lv_iload hx hb dX3_reach_130 (lv_at hl 8 rfl) ?_
                  refine lv_if_eq (tgt := 140) hx hb dX3_reach_132 (by decide) (fun q9 => ?_) (fun q9 => ?_)
                  · replace hM := zx_t q9 hM
                    refine lv_iload hx hb dX3_reach_140 (lv_at hl 5 rfl) ?_
                    exact j142 v2 v3 v4 v6 v5 _ _ _ hP hS (lv_sub hl [0, 1, 2, 3, 4, 6] rfl) hM
                  · replace hM := zx_f q9 hM
                    refine lv_iload hx hb dX3_reach_135 (lv_at hl 7 rfl) ?_
                    refine lv_goto (tgt := 142) hx hb dX3_reach_137 (by decide) ?_
                    exact j142 v2 v3 v4 v6 v7 _ _ _ hP hS (lv_sub hl [0, 1, 2, 3, 4, 6] rfl) hM
                refine lv_istore (lv' := [(8, .int t0), (0, .ref h), (1, .ref (ad w)), (2, .int v2), (3, .int v3), (4, .int v4), (5, .int v5), (6, .int v6), (7, .int v7)]) hx hb dX3_reach_55 hl (by decide) rfl (fun ls hl => ?_)
                refine lv_iload hx hb dX3_reach_57 (lv_at hl 0 rfl) ?_
                refine lv_if_ne (tgt := 130) hx hb dX3_reach_59 (by decide) (fun q10 => ?_) (fun q10 => ?_)
                · replace hM := zx_f q10 hM
                  exact j130 v2 v3 v4 v5 v6 v7 t0 _ _ _ hP hS (lv_sub hl [1, 2, 3, 4, 5, 6, 7, 8, 0] rfl) hM
                · replace hM := zx_t q10 hM
                  have j128 : ∀ (v2 : Int32) (v3 : Int32) (v4 : Int32) (v5 : Int32) (v6 : Int32) (v7 : Int32) (t0 : Int32) (H : Heap) (lc : List Loc) (ls : Array Slot), va_P D vwCl (xW3 cI cZ h ad S) H → va_S A s.heap H lc → lv_has ls 11 [(0, .ref h), (1, .ref (ad w)), (2, .int v2), (3, .int v3), (4, .int v4), (5, .int v5), (6, .int v6), (7, .int v7)] → f_X3_reach_j128 N w S (f_X3_reach_l7 N w S  n7) (f_X3_reach_l23 N w S (f_X3_reach_l7 N w S  n7)  n23) v2 v3 v4 v5 v6 v7 t0 = some R → W p l e (headSpec zsX3_reach rmX3_reach).room s m ([.ref h, .ref (ad w), .int p2, .int p3] : List Value).toArray below meth c H lc 0 0 Q9 (F0 m 128 ls [.int t0]) := by
                    intro v2 v3 v4 v5 v6 v7 t0 H lc ls hP hS hl hM
                    unfold f_X3_reach_j128 at hM
                    refine lv_istore (lv' := [(8, .int t0), (0, .ref h), (1, .ref (ad w)), (2, .int v2), (3, .int v3), (4, .int v4), (5, .int v5), (6, .int v6), (7, .int v7)]) hx hb dX3_reach_128 hl (by decide) rfl (fun ls hl => ?_)
                    exact j130 v2 v3 v4 v5 v6 v7 t0 _ _ _ hP hS (lv_sub hl [1, 2, 3, 4, 5, 6, 7, 8, 0] rfl) hM
                  have j123 : ∀ (v2 : Int32) (v3 : Int32) (v4 : Int32) (v5 : Int32) (v6 : Int32) (v7 : Int32) (H : Heap) (lc : List Loc) (ls : Array Slot), va_P D vwCl (xW3 cI cZ h ad S) H → va_S A s.heap H lc → lv_has ls 11 [(0, .ref h), (1, .ref (ad w)), (2, .int v2), (3, .int v3), (4, .int v4), (5, .int v5), (6, .int v6), (7, .int v7)] → f_X3_reach_j123 N w S (f_X3_reach_l7 N w S  n7) (f_X3_reach_l23 N w S (f_X3_reach_l7 N w S  n7)  n23) v2 v3 v4 v5 v6 v7 = some R → W p l e (headSpec zsX3_reach rmX3_reach).room s m ([.ref h, .ref (ad w), .int p2, .int p3] : List Value).toArray below meth c H lc 0 0 Q9 (F0 m 123 ls []) := by
                    intro v2 v3 v4 v5 v6 v7 H lc ls hP hS hl hM
                    unfold f_X3_reach_j123 at hM
                    refine lv_iconst (v := 1) hx hb dX3_reach_123 (by decide) ?_
                    refine lv_goto (tgt := 128) hx hb dX3_reach_124 (by decide) ?_
                    exact j128 v2 v3 v4 v5 v6 v7 1 _ _ _ hP hS (lv_sub hl [0, 1, 2, 3, 4, 5, 6, 7] rfl) hM
                  refine lv_aload_n hx hb dX3_reach_62 rfl (lv_at hl 1 rfl) ?_
                  refine lv_iload hx hb dX3_reach_63 (lv_at hl 8 rfl) ?_
                  refine lv_iload_n hx hb dX3_reach_65 rfl (lv_at hl 3 rfl) ?_
                  obtain ⟨x11, hz12, hM⟩ := zx_b1E hM
                  refine va_calli (va_runV (As := [.int v7, .int v2]) (rest := []) ⟨hx, hb, hml, hown, hts⟩ (c_X3_joinArea l D cI cZ cT h ad S _ N v7 v2  hz12) (cwV 2 hts (zg_V zw_9_23 zw_10_0 zw_10_1 zw_1_5 zw_10_2) rfl rfl rfl ⟨rfl, zyX3_joinArea⟩ ⟨Nat.le_of_ble_eq_true rfl, Nat.le_of_ble_eq_true rfl⟩) ⟨bS_blind, va_recv hK hP (ci := 3) (q0 := 0) rfl rfl, bS_pre hP hK hD hN⟩ rfl rfl hl.1 rfl (lv_room (Nat.le_of_ble_eq_true rfl)) dX3_reach_66 ⟨Nat.zero_le _, Nat.zero_le _⟩) hS (fun q h1 h2 => absurd h1 (Nat.not_lt.mpr h2)) (fun q h => hA q (Nat.le_trans hS.1 h)) (fun r u t H1 lc ht hvm hw hB hz1 hk1 hS => ?_)
                  replace hw : x11 = r := hw; subst hw
                  replace hP := zx_keep hP hk1
                  refine lv_aload_n hx hb dX3_reach_69 rfl (lv_at hl 1 rfl) ?_
                  refine lv_iload hx hb dX3_reach_70 (lv_at hl 8 rfl) ?_
                  obtain ⟨x13, hz14, hM⟩ := zx_b1E hM
                  refine va_calli (va_runV (As := [.int v7]) (rest := [.int x11]) ⟨hx, hb, hml, hown, hts⟩ (c_X3_area l D cI cZ cT h ad S _ N v7  hz14) (cwV 1 hts (zg_V zw_10_9 zw_10_10 zw_10_11 zw_1_5 zw_10_12) rfl rfl rfl ⟨rfl, zyX3_area⟩ ⟨Nat.le_of_ble_eq_true rfl, Nat.le_of_ble_eq_true rfl⟩) ⟨bS_blind, va_recv hK hP (ci := 3) (q0 := 0) rfl rfl, bS_pre hP hK hD hN⟩ rfl rfl hl.1 rfl (lv_room (Nat.le_of_ble_eq_true rfl)) dX3_reach_72 ⟨Nat.zero_le _, Nat.zero_le _⟩) hS (fun q h1 h2 => absurd h1 (Nat.not_lt.mpr h2)) (fun q h => hA q (Nat.le_trans hS.1 h)) (fun r u t H1 lc ht hvm hw hB hz1 hk1 hS => ?_)
                  replace hw : x13 = r := hw; subst hw
                  replace hP := zx_keep hP hk1
                  refine lv_isub hx hb dX3_reach_75 ?_
                  obtain ⟨x15, ex15, hM⟩ := zx_nE hM
                  refine zx_top ex15 ?_
                  refine lv_istore (lv' := [(9, .int x15), (8, .int t0), (0, .ref h), (1, .ref (ad w)), (2, .int v2), (3, .int v3), (4, .int v4), (5, .int v5), (6, .int v6), (7, .int v7)]) hx hb dX3_reach_76 hl (by decide) rfl (fun ls hl => ?_)
                  refine lv_aload_n hx hb dX3_reach_78 rfl (lv_at hl 2 rfl) ?_
                  refine lv_iload hx hb dX3_reach_79 (lv_at hl 7 rfl) ?_
                  refine lv_iload_n hx hb dX3_reach_81 rfl (lv_at hl 4 rfl) ?_
                  obtain ⟨x16, hz17, hM⟩ := zx_b1E hM
                  refine va_calli (va_runV (As := [.int v5, .int v2]) (rest := []) ⟨hx, hb, hml, hown, hts⟩ (c_X3_joinArea l D cI cZ cT h ad S _ N v5 v2  hz17) (cwV 2 hts (zg_V zw_9_23 zw_10_0 zw_10_1 zw_1_5 zw_10_2) rfl rfl rfl ⟨rfl, zyX3_joinArea⟩ ⟨Nat.le_of_ble_eq_true rfl, Nat.le_of_ble_eq_true rfl⟩) ⟨bS_blind, va_recv hK hP (ci := 3) (q0 := 0) rfl rfl, bS_pre hP hK hD hN⟩ rfl rfl hl.1 rfl (lv_room (Nat.le_of_ble_eq_true rfl)) dX3_reach_82 ⟨Nat.zero_le _, Nat.zero_le _⟩) hS (fun q h1 h2 => absurd h1 (Nat.not_lt.mpr h2)) (fun q h => hA q (Nat.le_trans hS.1 h)) (fun r u t H1 lc ht hvm hw hB hz1 hk1 hS => ?_)
                  replace hw : x16 = r := hw; subst hw
                  replace hP := zx_keep hP hk1
                  refine lv_aload_n hx hb dX3_reach_85 rfl (lv_at hl 2 rfl) ?_
                  refine lv_iload hx hb dX3_reach_86 (lv_at hl 7 rfl) ?_
                  obtain ⟨x18, hz19, hM⟩ := zx_b1E hM
                  refine va_calli (va_runV (As := [.int v5]) (rest := [.int x16]) ⟨hx, hb, hml, hown, hts⟩ (c_X3_area l D cI cZ cT h ad S _ N v5  hz19) (cwV 1 hts (zg_V zw_10_9 zw_10_10 zw_10_11 zw_1_5 zw_10_12) rfl rfl rfl ⟨rfl, zyX3_area⟩ ⟨Nat.le_of_ble_eq_true rfl, Nat.le_of_ble_eq_true rfl⟩) ⟨bS_blind, va_recv hK hP (ci := 3) (q0 := 0) rfl rfl, bS_pre hP hK hD hN⟩ rfl rfl hl.1 rfl (lv_room (Nat.le_of_ble_eq_true rfl)) dX3_reach_88 ⟨Nat.zero_le _, Nat.zero_le _⟩) hS (fun q h1 h2 => absurd h1 (Nat.not_lt.mpr h2)) (fun q h => hA q (Nat.le_trans hS.1 h)) (fun r u t H1 lc ht hvm hw hB hz1 hk1 hS => ?_)
                  replace hw : x18 = r := hw; subst hw
                  replace hP := zx_keep hP hk1
                  refine lv_isub hx hb dX3_reach_91 ?_
                  obtain ⟨x20, ex20, hM⟩ := zx_nE hM
                  refine zx_top ex20 ?_
                  refine lv_istore (lv' := [(10, .int x20), (9, .int x15), (8, .int t0), (0, .ref h), (1, .ref (ad w)), (2, .int v2), (3, .int v3), (4, .int v4), (5, .int v5), (6, .int v6), (7, .int v7)]) hx hb dX3_reach_92 hl (by decide) rfl (fun ls hl => ?_)
                  refine lv_iload hx hb dX3_reach_94 (lv_at hl 1 rfl) ?_
                  refine lv_iload hx hb dX3_reach_96 (lv_at hl 0 rfl) ?_
                  refine lv_icmp_lt (tgt := 123) hx hb dX3_reach_98 (by decide) (fun q21 => ?_) (fun q21 => ?_)
                  · replace hM := zx_t q21 hM
                    exact j123 v2 v3 v4 v5 v6 v7 _ _ _ hP hS (lv_sub hl [3, 4, 5, 6, 7, 8, 9, 10] rfl) hM
                  · replace hM := zx_f q21 hM
                    have j127 : ∀ (v2 : Int32) (v3 : Int32) (v4 : Int32) (v5 : Int32) (v6 : Int32) (v7 : Int32) (H : Heap) (lc : List Loc) (ls : Array Slot), va_P D vwCl (xW3 cI cZ h ad S) H → va_S A s.heap H lc → lv_has ls 11 [(0, .ref h), (1, .ref (ad w)), (2, .int v2), (3, .int v3), (4, .int v4), (5, .int v5), (6, .int v6), (7, .int v7)] → f_X3_reach_j127 N w S (f_X3_reach_l7 N w S  n7) (f_X3_reach_l23 N w S (f_X3_reach_l7 N w S  n7)  n23) v2 v3 v4 v5 v6 v7 = some R → W p l e (headSpec zsX3_reach rmX3_reach).room s m ([.ref h, .ref (ad w), .int p2, .int p3] : List Value).toArray below meth c H lc 0 0 Q9 (F0 m 127 ls []) := by
                      intro v2 v3 v4 v5 v6 v7 H lc ls hP hS hl hM
                      unfold f_X3_reach_j127 at hM
                      refine lv_iconst (v := 0) hx hb dX3_reach_127 (by decide) ?_
                      exact j128 v2 v3 v4 v5 v6 v7 0 _ _ _ hP hS (lv_sub hl [0, 1, 2, 3, 4, 5, 6, 7] rfl) hM
                    refine lv_iload hx hb dX3_reach_101 (lv_at hl 1 rfl) ?_
                    refine lv_iload hx hb dX3_reach_103 (lv_at hl 0 rfl) ?_
                    refine lv_icmp_ne (tgt := 127) hx hb dX3_reach_105 (by decide) (fun q22 => ?_) (fun q22 => ?_)
                    · replace hM := zx_f q22 hM
                      exact j127 v2 v3 v4 v5 v6 v7 _ _ _ hP hS (lv_sub hl [3, 4, 5, 6, 7, 8, 9, 10] rfl) hM
                    · replace hM := zx_t q22 hM
                      refine lv_aload_n hx hb dX3_reach_108 rfl (lv_at hl 3 rfl) ?_
                      refine lv_iload hx hb dX3_reach_109 (lv_at hl 10 rfl) ?_
                      obtain ⟨x23, hz24, hM⟩ := zx_b1E hM
                      refine va_calli (va_runV (As := [.int v7]) (rest := []) ⟨hx, hb, hml, hown, hts⟩ (c_X3_area l D cI cZ cT h ad S _ N v7  hz24) (cwV 1 hts (zg_V zw_10_9 zw_10_10 zw_10_11 zw_1_5 zw_10_12) rfl rfl rfl ⟨rfl, zyX3_area⟩ ⟨Nat.le_of_ble_eq_true rfl, Nat.le_of_ble_eq_true rfl⟩) ⟨bS_blind, va_recv hK hP (ci := 3) (q0 := 0) rfl rfl, bS_pre hP hK hD hN⟩ rfl rfl hl.1 rfl (lv_room (Nat.le_of_ble_eq_true rfl)) dX3_reach_111 ⟨Nat.zero_le _, Nat.zero_le _⟩) hS (fun q h1 h2 => absurd h1 (Nat.not_lt.mpr h2)) (fun q h => hA q (Nat.le_trans hS.1 h)) (fun r u t H1 lc ht hvm hw hB hz1 hk1 hS => ?_)
                      replace hw : x23 = r := hw; subst hw
                      replace hP := zx_keep hP hk1
                      refine lv_aload_n hx hb dX3_reach_114 rfl (lv_at hl 3 rfl) ?_
                      refine lv_iload hx hb dX3_reach_115 (lv_at hl 8 rfl) ?_
                      obtain ⟨x25, hz26, hM⟩ := zx_b1E hM
                      refine va_calli (va_runV (As := [.int v5]) (rest := [.int x23]) ⟨hx, hb, hml, hown, hts⟩ (c_X3_area l D cI cZ cT h ad S _ N v5  hz26) (cwV 1 hts (zg_V zw_10_9 zw_10_10 zw_10_11 zw_1_5 zw_10_12) rfl rfl rfl ⟨rfl, zyX3_area⟩ ⟨Nat.le_of_ble_eq_true rfl, Nat.le_of_ble_eq_true rfl⟩) ⟨bS_blind, va_recv hK hP (ci := 3) (q0 := 0) rfl rfl, bS_pre hP hK hD hN⟩ rfl rfl hl.1 rfl (lv_room (Nat.le_of_ble_eq_true rfl)) dX3_reach_117 ⟨Nat.zero_le _, Nat.zero_le _⟩) hS (fun q h1 h2 => absurd h1 (Nat.not_lt.mpr h2)) (fun q h => hA q (Nat.le_trans hS.1 h)) (fun r u t H1 lc ht hvm hw hB hz1 hk1 hS => ?_)
                      replace hw : x25 = r := hw; subst hw
                      replace hP := zx_keep hP hk1
                      refine lv_icmp_ge (tgt := 127) hx hb dX3_reach_120 (by decide) (fun q27 => ?_) (fun q27 => ?_)
                      · replace hM := zx_t q27 hM
                        exact j127 v2 v3 v4 v5 v6 v7 _ _ _ hP hS (lv_sub hl [3, 4, 5, 6, 7, 8, 9, 10] rfl) hM
                      · replace hM := zx_f q27 hM
                        exact j123 v2 v3 v4 v5 v6 v7 _ _ _ hP hS (lv_sub hl [3, 4, 5, 6, 7, 8, 9, 10] rfl) hM
              refine lv_aload_n hx hb dX3_reach_34 rfl (lv_at hl 1 rfl) ?_
              refine lv_iload hx hb dX3_reach_35 (lv_at hl 4 rfl) ?_
              refine lv_iload hx hb dX3_reach_37 (lv_at hl 6 rfl) ?_
              obtain ⟨x28, hz29, hM⟩ := zx_b1E hM
              refine va_calli (va_runS (As := [.ref (ad w), .int v4, .int v6]) (rest := []) ⟨hx, hb, hml, hown, hts⟩ (c_X3_entryOf l D cI cZ cT (ad w) 380 (S w) _ N v4 v6 hz29) (va_cwS 3 hts (zg_S zw_9_12 zw_9_13 zw_1_5 zw_9_14) rfl rfl rfl zyX3_entryOf ⟨Nat.le_of_ble_eq_true rfl, Nat.le_of_ble_eq_true rfl⟩) ⟨bS_blind, bS_pre (zx_P1 hP (w + 1) ((xW3_aw hrw))) hK (zx_D1 hD (w + 1) ((xW3_aw hrw))) hN⟩ rfl rfl hl.1 rfl (lv_room (Nat.le_of_ble_eq_true rfl)) dX3_reach_39 ⟨Nat.zero_le _, Nat.zero_le _⟩) hS (fun q h1 h2 => absurd h1 (Nat.not_lt.mpr h2)) (fun q h => hA q (Nat.le_trans hS.1 h)) (fun r u t H1 lc ht hvm hw hB hz1 hk1 hS => ?_)
              replace hw : x28 = r := hw; subst hw
              replace hP := zx_keep hP hk1
              refine lv_istore (lv' := [(7, .int x28), (0, .ref h), (1, .ref (ad w)), (2, .int v2), (3, .int v3), (4, .int v4), (5, .int v5), (6, .int v6)]) hx hb dX3_reach_42 hl (by decide) rfl (fun ls hl => ?_)
              refine lv_iload hx hb dX3_reach_44 (lv_at hl 6 rfl) ?_
              refine lv_iconst (v := (-1)) hx hb dX3_reach_46 (by decide) ?_
              refine lv_icmp_ne (tgt := 54) hx hb dX3_reach_47 (by decide) (fun q30 => ?_) (fun q30 => ?_)
              · replace hM := zx_f q30 hM
                refine lv_iconst (v := 0) hx hb dX3_reach_54 (by decide) ?_
                exact j55 v2 v3 v4 v5 v6 x28 0 _ _ _ hP hS (lv_sub hl [1, 2, 3, 4, 5, 6, 7, 0] rfl) hM
              · replace hM := zx_t q30 hM
                refine lv_iconst (v := 1) hx hb dX3_reach_50 (by decide) ?_
                refine lv_goto (tgt := 55) hx hb dX3_reach_51 (by decide) ?_
                exact j55 v2 v3 v4 v5 v6 x28 1 _ _ _ hP hS (lv_sub hl [1, 2, 3, 4, 5, 6, 7, 0] rfl) hM
        refine lv_iconst (v := (-1)) hx hb dX3_reach_17 (by decide) ?_
        refine lv_istore (lv' := [(5, .int (-1)), (0, .ref h), (1, .ref (ad w)), (2, .int v2), (3, .int v3), (4, .int v4)]) hx hb dX3_reach_18 hl (by decide) rfl (fun ls hl => ?_)
        refine lv_iconst (v := 0) hx hb dX3_reach_20 (by decide) ?_
        refine lv_istore (lv' := [(6, .int 0), (5, .int (-1)), (0, .ref h), (1, .ref (ad w)), (2, .int v2), (3, .int v3), (4, .int v4)]) hx hb dX3_reach_21 hl (by decide) rfl (fun ls hl => ?_)
        exact l23 N v2 v3 v4 (-1) 0 _ _ _ hP hS (lv_sub hl [2, 3, 4, 5, 6, 1, 0] rfl) hM
  refine lv_aload_n hx hb dX3_reach_0 rfl (lv_at hl 1 rfl) ?_
  refine lv_sipush (v := 376) hx hb dX3_reach_1 (by decide) ?_
  obtain ⟨x31, q32, ex31, hM⟩ := zx_rdE hM
  refine va_iald (D := D) hx hb hK hP (w + 1) 0 (xW3_aw hrw) rfl q32 dX3_reach_4 ?_
  refine zx_top ex31 ?_
  refine lv_istore (lv' := [(4, .int x31), (0, .ref h), (1, .ref (ad w)), (2, .int p2), (3, .int p3)]) hx hb dX3_reach_5 hl (by decide) rfl (fun ls hl => ?_)
  exact l7 N p2 p3 x31 _ _ _ hP hS (lv_sub hl [1, 2, 3, 4, 0] rfl) hM

/-! ShallowBoxesModel.throwOut([II)V -/
def f_X3_throwOut_j57 (N : Nat) (w : Nat) (k10 : Int32 → Int32 → Int32 → zx_S → Option (zx_S)) (v2 : Int32) (v4 : Int32) (t0 : Int32) (S_ : zx_S) : Option (zx_S) :=
  (zx_n (v4 + 1) (fun x18 =>
k10 v2 t0 x18 S_))
def f_X3_throwOut_l10 (N : Nat) (w : Nat) : Nat → Int32 → Int32 → Int32 → zx_S → Option (zx_S)
  | 0, _, _, _, _ => none
  | n10 + 1, v2, v3, v4, S_ => (zx_b1 (f_X3_many N 380 v2 (S_ w)) (fun x1 =>
(if x1 ≤ v4 then
  (zx_b1 (f_X3_cutOut N 380 v2 v3 (S_ w)) (fun g4 =>
(zx_n (zx_st S_ w g4) (fun T6 =>
(zx_b1 (f_X3_levelOf N 380 v2 (T6 w)) (fun x7 =>
(zx_n (zx_st T6 12 (upd (T6 12) 3 ((T6 12 3) ||| (1 <<< (x7 &&& 31))))) (fun T9 =>
(zx_rd 380 (T9 w) 377 (fun x10 =>
(zx_wr 380 377 (zx_st T9 w (upd (T9 w) (Int32.toNatClampNeg 377) (x10 + 1))) (fun T12 =>
(zx_n (zx_st T12 12 (upd (T12 12) 4 v3)) (fun T14 =>
(zx_b1 (f_X3_levelOf N 380 v2 (T14 w)) (fun x15 =>
(zx_n (zx_st T14 12 (upd (T14 12) 5 x15)) (fun T17 =>
some T17)))))))))))))))))) else
  (zx_b1 (f_X3_entryOf N 380 v2 v4 (S_ w)) (fun x19 =>
(zx_b1 (f_X3_apart N x19 (24 + v2) S_) (fun x21 =>
(zx_b1 (f_X3_apart N v3 (24 + v2) S_) (fun x23 =>
(if x21 ≤ x23 then
  f_X3_throwOut_j57 N w (f_X3_throwOut_l10 N w  n10) v2 v4 v3 S_ else
  f_X3_throwOut_j57 N w (f_X3_throwOut_l10 N w  n10) v2 v4 x19 S_))))))))))
def f_X3_throwOut (N : Nat) (w : Nat) (p2 : Int32) (S : zx_S) : Option (zx_S) :=
  (zx_b1 (f_X3_entryOf N 380 p2 0 (S w)) (fun x26 =>
f_X3_throwOut_l10 N w  N p2 x26 1 S))
abbrev rmX3_throwOut : Room := { frames := 3, cells := 0, slots := 0, locals := 66 }
abbrev zsX3_throwOut : List Cond := .code yX3_throwOut cX3_throwOut 6 none :: wsL_law
theorem zyX3_throwOut : yX3_throwOut.cls ≠ "java/lang/invoke/MethodHandle" ∧ yX3_throwOut.cls ≠ "java/lang/invoke/VarHandle" ∧ (parseMethodDescriptor yX3_throwOut.desc).map (fun d => d.parameters.length) = some 2 := by decide +kernel
set_option maxHeartbeats 4000000 in
set_option maxRecDepth 100000 in
theorem c_X3_throwOut (l : Launch) (D : va_G) (cI cZ cT : ClassId) (h : Nat) (ad : Nat → Nat) (S : zx_S) (sz : Nat) (N : Nat) (w : Nat) (hrw : w = 1 ∨ w = 2) (p2 : Int32) {R : zx_S} (hM : f_X3_throwOut N w p2 S = some R) : Met l yX3_throwOut zsX3_throwOut rmX3_throwOut (va_Pc [.ref h, .ref (ad w), .int p2] (bS D (zx_ty cI cZ cT) (xW3 cI cZ h ad S) sz)) (va_Qv (fun u => R = u) (fun u t => va_P D vwCl (xW3 cI cZ h ad u) t.heap) (va_A (xW3 cI cZ h ad S) sz)) 0 0 (va_A (xW3 cI cZ h ad S) sz) := by
  refine Met.ofW (cc := cX3_throwOut) (maxL := 6) (ret := none) (by decide) rfl ?_
  intro p e s m args below meth c s₁ B hml hv
  obtain ⟨rfl, hsz, hP, hK, hD0, hN⟩ := hv
  have hx := B.exec
  have hb := B.bytes
  have hr := B.returns
  have hts : ∀ w ∈ wsL_law, w.before _ s = true := fun w hw => atoms_spec (ws := zsX3_throwOut) B.pre w (List.mem_cons_of_mem _ hw)
  have hown : s.vm.findClass RX3 = some m.cls := findClass_of_methodNamed B.named
  have hlocks := B.notSynchronized
  subst hsz
  have hD := hD0.self (sz := s.heap.size)
  generalize hAe : va_A (xW3 cI cZ h ad S) s.heap.size = A at hD ⊢
  have hA : ∀ q : Nat, s.heap.size ≤ q → A q := fun q h => by rw [← hAe]; exact Or.inr h
  have hS : va_S A s.heap s.heap [] := va_S.rf
  have hl := lv_entry ([.ref h, .ref (ad w), .int p2]) (n := 6) (Nat.le_of_ble_eq_true rfl)
  rw [lg_entry_eq]
  generalize (lg_sl ([.ref h, .ref (ad w), .int p2]) ++ List.replicate (6 - (lg_sl ([.ref h, .ref (ad w), .int p2])).length) Slot.unset).toArray = ls at hl ⊢
  have hl : lv_has ls 6 [(0, .ref h), (1, .ref (ad w)), (2, .int p2)] := hl
  generalize hQ : MQ below (va_Qv (fun u => R = u) (fun u t => va_P D vwCl (xW3 cI cZ h ad u) t.heap) A) ([.ref h, .ref (ad w), .int p2] : List Value).toArray s 0 0 A = Q9
  replace hQ := hQ.symm
  unfold f_X3_throwOut at hM
  have l10 : ∀ (n10 : Nat) (v2 : Int32) (v3 : Int32) (v4 : Int32) (S_ : zx_S) (H : Heap) (lc : List Loc) (ls : Array Slot), va_P D vwCl (xW3 cI cZ h ad S_) H → va_D A (xW3 cI cZ h ad S_) → va_S A s.heap H lc → lv_has ls 6 [(0, .ref h), (1, .ref (ad w)), (2, .int v2), (3, .int v3), (4, .int v4)] → f_X3_throwOut_l10 N w n10 v2 v3 v4 S_ = some R → W p l e (headSpec zsX3_throwOut rmX3_throwOut).room s m ([.ref h, .ref (ad w), .int p2] : List Value).toArray below meth c H lc 0 0 Q9 (F0 m 10 ls []) := by
    intro n10
    induction n10 with
    | zero =>
      intro v2 v3 v4 S_ H lc ls hP hD hS hl hM
      rw [f_X3_throwOut_l10] at hM; exact absurd hM (by intro h; cases h)
    | succ n10 ih10 =>
      intro v2 v3 v4 S_ H lc ls hP hD hS hl hM
      rw [f_X3_throwOut_l10] at hM
      refine lv_iload hx hb dX3_throwOut_10 (lv_at hl 4 rfl) ?_
      refine lv_aload_n hx hb dX3_throwOut_12 rfl (lv_at hl 1 rfl) ?_
      refine lv_iload_n hx hb dX3_throwOut_13 rfl (lv_at hl 2 rfl) ?_
      obtain ⟨x1, hz2, hM⟩ := zx_b1E hM
      refine va_calli (va_runS (As := [.ref (ad w), .int v2]) (rest := [.int v4]) ⟨hx, hb, hml, hown, hts⟩ (c_X3_many l D cI cZ cT (ad w) 380 (S_ w) _ N v2 hz2) (va_cwS 2 hts (zg_S zw_9_3 zw_9_4 zw_1_5 zw_9_5) rfl rfl rfl zyX3_many ⟨Nat.le_of_ble_eq_true rfl, Nat.le_of_ble_eq_true rfl⟩) ⟨bS_blind, bS_pre (zx_P1 hP (w + 1) ((xW3_aw hrw))) hK (zx_D1 hD (w + 1) ((xW3_aw hrw))) hN⟩ rfl rfl hl.1 rfl (lv_room (Nat.le_of_ble_eq_true rfl)) dX3_throwOut_14 ⟨Nat.zero_le _, Nat.zero_le _⟩) hS (fun q h1 h2 => absurd h1 (Nat.not_lt.mpr h2)) (fun q h => hA q (Nat.le_trans hS.1 h)) (fun r u t H1 lc ht hvm hw hB hz1 hk1 hS => ?_)
      replace hw : x1 = r := hw; subst hw
      replace hP := zx_keep hP hk1
      refine lv_icmp_ge (tgt := 64) hx hb dX3_throwOut_17 (by decide) (fun q3 => ?_) (fun q3 => ?_)
      · replace hM := zx_t q3 hM
        refine lv_aload_n hx hb dX3_throwOut_64 rfl (lv_at hl 1 rfl) ?_
        refine lv_iload_n hx hb dX3_throwOut_65 rfl (lv_at hl 2 rfl) ?_
        refine lv_iload_n hx hb dX3_throwOut_66 rfl (lv_at hl 3 rfl) ?_
        obtain ⟨g4, hz5, hM⟩ := zx_b1E hM
        refine va_callv (va_runS (As := [.ref (ad w), .int v2, .int v3]) (rest := []) ⟨hx, hb, hml, hown, hts⟩ (c_X3_cutOut l D cI cZ cT (ad w) 380 (S_ w) _ N v2 v3 hz5) (va_cwS 3 hts (zg_S zw_11_5 zw_11_6 zw_1_5 zw_11_7) rfl rfl rfl zyX3_cutOut ⟨Nat.le_of_ble_eq_true rfl, Nat.le_of_ble_eq_true rfl⟩) ⟨bS_blind, bS_pre (zx_P1 hP (w + 1) ((xW3_aw hrw))) hK (zx_D1 hD (w + 1) ((xW3_aw hrw))) hN⟩ rfl rfl hl.1 rfl (lv_room (Nat.le_of_ble_eq_true rfl)) dX3_throwOut_67 ⟨Nat.zero_le _, Nat.zero_le _⟩) hS (fun q _ h => zx_f1 hD hS hA (k := (w + 1)) (xW3_aw hrw) q h) (fun q h => zx_f1 hD hS hA (k := (w + 1)) (xW3_aw hrw) q h) (fun u t H1 lc ht hvm hw hB hz1 hk1 hS => ?_)
        replace hw : g4 = u := hw; subst hw
        rw [ht] at hB
        replace hP := zx_set1 (k := (w + 1)) hP hD (xW3_aw hrw) hk1 hB
        replace hD := va_D.set (p := (w + 1)) (e := .inl (cI, 380, .inl g4)) hD (xW3_aw hrw)
        rw [xW3_paw hrw] at hP hD
        obtain ⟨T6, eT6, hM⟩ := zx_nE hM
        rw [← eT6] at hP hD
        refine lv_aload_n hx hb dX3_throwOut_70 rfl (lv_at hl 0 rfl) ?_
        refine lv_dup hx hb dX3_throwOut_71 rfl ?_
        refine va_get (D := D) (ci := 3) (v := .int (T6 12 3)) (C := RX3) (T := TX3) (N := 20) hx hb hts inlX3 hown hK hP 0 rfl rfl 10 (by decide) (hts _ zw_10_20) (fun _ h9 => h9) rfl dX3_throwOut_72 ?_
        refine lv_iconst (v := 1) hx hb dX3_throwOut_75 (by decide) ?_
        refine lv_aload_n hx hb dX3_throwOut_76 rfl (lv_at hl 1 rfl) ?_
        refine lv_iload_n hx hb dX3_throwOut_77 rfl (lv_at hl 2 rfl) ?_
        obtain ⟨x7, hz8, hM⟩ := zx_b1E hM
        refine va_calli (va_runS (As := [.ref (ad w), .int v2]) (rest := [.int 1, .int (T6 12 3), .ref h]) ⟨hx, hb, hml, hown, hts⟩ (c_X3_levelOf l D cI cZ cT (ad w) 380 (T6 w) _ N v2 hz8) (va_cwS 2 hts (zg_S zw_9_9 zw_9_10 zw_1_5 zw_9_11) rfl rfl rfl zyX3_levelOf ⟨Nat.le_of_ble_eq_true rfl, Nat.le_of_ble_eq_true rfl⟩) ⟨bS_blind, bS_pre (zx_P1 hP (w + 1) ((xW3_aw hrw))) hK (zx_D1 hD (w + 1) ((xW3_aw hrw))) hN⟩ rfl rfl hl.1 rfl (lv_room (Nat.le_of_ble_eq_true rfl)) dX3_throwOut_78 ⟨Nat.zero_le _, Nat.zero_le _⟩) hS (fun q h1 h2 => absurd h1 (Nat.not_lt.mpr h2)) (fun q h => hA q (Nat.le_trans hS.1 h)) (fun r u t H1 lc ht hvm hw hB hz1 hk1 hS => ?_)
        replace hw : x7 = r := hw; subst hw
        replace hP := zx_keep hP hk1
        refine lv_ishl hx hb dX3_throwOut_81 ?_
        refine lv_ior hx hb dX3_throwOut_82 ?_
        obtain ⟨T9, eT9, hM⟩ := zx_nE hM
        refine va_put (D := D) (ci := 3) (v := .int ((T6 12 3) ||| (1 <<< (x7 &&& 31)))) (ty := .int) (C := RX3) (T := TX3) (N := 20) hx hb hts inlX3 tyX3 tyX3_ok nmX3 hown hK hP hD hS 0 rfl rfl 10 (by decide) (hts _ zw_10_20) (fun _ h9 => h9) rfl (by decide +kernel) rfl rfl (Nat.le_of_ble_eq_true rfl) dX3_throwOut_83 (fun H lc hP hD hS => ?_)
        replace hP : va_P D vwCl (xW3 cI cZ h ad T9) H := by rw [eT9]; exact hP
        replace hD : va_D A (xW3 cI cZ h ad T9) := by rw [eT9]; exact hD
        refine lv_aload_n hx hb dX3_throwOut_86 rfl (lv_at hl 1 rfl) ?_
        refine lv_sipush (v := 377) hx hb dX3_throwOut_87 (by decide) ?_
        refine lv_dup2_11 hx hb dX3_throwOut_90 rfl rfl ?_
        obtain ⟨x10, q11, ex10, hM⟩ := zx_rdE hM
        refine va_iald (D := D) hx hb hK hP (w + 1) 0 (xW3_aw hrw) rfl q11 dX3_throwOut_91 ?_
        refine zx_top ex10 ?_
        refine lv_iconst (v := 1) hx hb dX3_throwOut_92 (by decide) ?_
        refine lv_iadd hx hb dX3_throwOut_93 ?_
        obtain ⟨T12, q13, eT12, hM⟩ := zx_wrE hM
        refine va_iast (D := D) hx hb hK hP hD hS (w + 1) 0 (xW3_aw hrw) rfl q13 dX3_throwOut_94 (fun H lc hP hD hS => ?_)
        rw [xW3_paw hrw] at hP hD
        rw [← eT12] at hP hD
        refine lv_aload_n hx hb dX3_throwOut_95 rfl (lv_at hl 0 rfl) ?_
        refine lv_iload_n hx hb dX3_throwOut_96 rfl (lv_at hl 3 rfl) ?_
        obtain ⟨T14, eT14, hM⟩ := zx_nE hM
        refine va_put (D := D) (ci := 3) (v := .int v3) (ty := .int) (C := RX3) (T := TX3) (N := 20) hx hb hts inlX3 tyX3 tyX3_ok nmX3 hown hK hP hD hS 0 rfl rfl 11 (by decide) (hts _ zw_8_21) (fun _ h9 => h9) rfl (by decide +kernel) rfl rfl (Nat.le_of_ble_eq_true rfl) dX3_throwOut_97 (fun H lc hP hD hS => ?_)
        replace hP : va_P D vwCl (xW3 cI cZ h ad T14) H := by rw [eT14]; exact hP
        replace hD : va_D A (xW3 cI cZ h ad T14) := by rw [eT14]; exact hD
        refine lv_aload_n hx hb dX3_throwOut_100 rfl (lv_at hl 0 rfl) ?_
        refine lv_aload_n hx hb dX3_throwOut_101 rfl (lv_at hl 1 rfl) ?_
        refine lv_iload_n hx hb dX3_throwOut_102 rfl (lv_at hl 2 rfl) ?_
        obtain ⟨x15, hz16, hM⟩ := zx_b1E hM
        refine va_calli (va_runS (As := [.ref (ad w), .int v2]) (rest := [.ref h]) ⟨hx, hb, hml, hown, hts⟩ (c_X3_levelOf l D cI cZ cT (ad w) 380 (T14 w) _ N v2 hz16) (va_cwS 2 hts (zg_S zw_9_9 zw_9_10 zw_1_5 zw_9_11) rfl rfl rfl zyX3_levelOf ⟨Nat.le_of_ble_eq_true rfl, Nat.le_of_ble_eq_true rfl⟩) ⟨bS_blind, bS_pre (zx_P1 hP (w + 1) ((xW3_aw hrw))) hK (zx_D1 hD (w + 1) ((xW3_aw hrw))) hN⟩ rfl rfl hl.1 rfl (lv_room (Nat.le_of_ble_eq_true rfl)) dX3_throwOut_103 ⟨Nat.zero_le _, Nat.zero_le _⟩) hS (fun q h1 h2 => absurd h1 (Nat.not_lt.mpr h2)) (fun q h => hA q (Nat.le_trans hS.1 h)) (fun r u t H1 lc ht hvm hw hB hz1 hk1 hS => ?_)
        replace hw : x15 = r := hw; subst hw
        replace hP := zx_keep hP hk1
        obtain ⟨T17, eT17, hM⟩ := zx_nE hM
        refine va_put (D := D) (ci := 3) (v := .int x15) (ty := .int) (C := RX3) (T := TX3) (N := 20) hx hb hts inlX3 tyX3 tyX3_ok nmX3 hown hK hP hD hS 0 rfl rfl 12 (by decide) (hts _ zw_8_22) (fun _ h9 => h9) rfl (by decide +kernel) rfl rfl (Nat.le_of_ble_eq_true rfl) dX3_throwOut_106 (fun H lc hP hD hS => ?_)
        replace hP : va_P D vwCl (xW3 cI cZ h ad T17) H := by rw [eT17]; exact hP
        replace hD : va_D A (xW3 cI cZ h ad T17) := by rw [eT17]; exact hD
        rw [hQ]
        exact W.vret hx hb hr (fun t ht hW => ⟨⟨T17, rfl, (Option.some.inj hM).symm, by show va_P D vwCl _ t.heap; rw [ht]; exact hP⟩, hS.F ht⟩) hS.2.2 dX3_throwOut_109
      · replace hM := zx_f q3 hM
        have j57 : ∀ (v2 : Int32) (v4 : Int32) (t0 : Int32) (S_ : zx_S) (H : Heap) (lc : List Loc) (ls : Array Slot), va_P D vwCl (xW3 cI cZ h ad S_) H → va_D A (xW3 cI cZ h ad S_) → va_S A s.heap H lc → lv_has ls 6 [(0, .ref h), (1, .ref (ad w)), (2, .int v2), (4, .int v4)] → f_X3_throwOut_j57 N w (f_X3_throwOut_l10 N w  n10) v2 v4 t0 S_ = some R → W p l e (headSpec zsX3_throwOut rmX3_throwOut).room s m ([.ref h, .ref (ad w), .int p2] : List Value).toArray below meth c H lc 0 0 Q9 (F0 m 57 ls [.int t0]) := by
          intro v2 v4 t0 S_ H lc ls hP hD hS hl hM
          unfold f_X3_throwOut_j57 at hM
          refine lv_istore_n (lv' := [(3, .int t0), (0, .ref h), (1, .ref (ad w)), (2, .int v2), (4, .int v4)]) hx hb dX3_throwOut_57 rfl hl (by decide) rfl (fun ls hl => ?_)
          obtain ⟨x18, ex18, hM⟩ := zx_nE hM
          refine lv_iinc (v := x18) (lv' := [(4, .int x18), (3, .int t0), (0, .ref h), (1, .ref (ad w)), (2, .int v2)]) hx hb dX3_throwOut_58 hl (k := 4) rfl (by rw [ex18]; rfl) (by decide) rfl (fun ls hl => ?_)
          refine lv_goto (tgt := 10) hx hb dX3_throwOut_61 (by decide) ?_
          exact ih10 v2 t0 x18 S_ _ _ _ hP hD hS (lv_sub hl [2, 3, 4, 1, 0] rfl) hM
        refine lv_aload_n hx hb dX3_throwOut_20 rfl (lv_at hl 1 rfl) ?_
        refine lv_iload_n hx hb dX3_throwOut_21 rfl (lv_at hl 2 rfl) ?_
        refine lv_iload hx hb dX3_throwOut_22 (lv_at hl 4 rfl) ?_
        obtain ⟨x19, hz20, hM⟩ := zx_b1E hM
        refine va_calli (va_runS (As := [.ref (ad w), .int v2, .int v4]) (rest := []) ⟨hx, hb, hml, hown, hts⟩ (c_X3_entryOf l D cI cZ cT (ad w) 380 (S_ w) _ N v2 v4 hz20) (va_cwS 3 hts (zg_S zw_9_12 zw_9_13 zw_1_5 zw_9_14) rfl rfl rfl zyX3_entryOf ⟨Nat.le_of_ble_eq_true rfl, Nat.le_of_ble_eq_true rfl⟩) ⟨bS_blind, bS_pre (zx_P1 hP (w + 1) ((xW3_aw hrw))) hK (zx_D1 hD (w + 1) ((xW3_aw hrw))) hN⟩ rfl rfl hl.1 rfl (lv_room (Nat.le_of_ble_eq_true rfl)) dX3_throwOut_24 ⟨Nat.zero_le _, Nat.zero_le _⟩) hS (fun q h1 h2 => absurd h1 (Nat.not_lt.mpr h2)) (fun q h => hA q (Nat.le_trans hS.1 h)) (fun r u t H1 lc ht hvm hw hB hz1 hk1 hS => ?_)
        replace hw : x19 = r := hw; subst hw
        replace hP := zx_keep hP hk1
        refine lv_istore (lv' := [(5, .int x19), (0, .ref h), (1, .ref (ad w)), (2, .int v2), (3, .int v3), (4, .int v4)]) hx hb dX3_throwOut_27 hl (by decide) rfl (fun ls hl => ?_)
        refine lv_aload_n hx hb dX3_throwOut_29 rfl (lv_at hl 1 rfl) ?_
        refine lv_iload hx hb dX3_throwOut_30 (lv_at hl 0 rfl) ?_
        refine lv_bipush (v := 24) hx hb dX3_throwOut_32 (by decide) ?_
        refine lv_iload_n hx hb dX3_throwOut_34 rfl (lv_at hl 3 rfl) ?_
        refine lv_iadd hx hb dX3_throwOut_35 ?_
        obtain ⟨x21, hz22, hM⟩ := zx_b1E hM
        refine va_calli (va_runV (As := [.int x19, .int (24 + v2)]) (rest := []) ⟨hx, hb, hml, hown, hts⟩ (c_X3_apart l D cI cZ cT h ad S_ _ N x19 (24 + v2)  hz22) (cwV 2 hts (zg_V zw_11_1 zw_11_2 zw_11_3 zw_1_5 zw_11_4) rfl rfl rfl ⟨rfl, zyX3_apart⟩ ⟨Nat.le_of_ble_eq_true rfl, Nat.le_of_ble_eq_true rfl⟩) ⟨bS_blind, va_recv hK hP (ci := 3) (q0 := 0) rfl rfl, bS_pre hP hK hD hN⟩ rfl rfl hl.1 rfl (lv_room (Nat.le_of_ble_eq_true rfl)) dX3_throwOut_36 ⟨Nat.zero_le _, Nat.zero_le _⟩) hS (fun q h1 h2 => absurd h1 (Nat.not_lt.mpr h2)) (fun q h => hA q (Nat.le_trans hS.1 h)) (fun r u t H1 lc ht hvm hw hB hz1 hk1 hS => ?_)
        replace hw : x21 = r := hw; subst hw
        replace hP := zx_keep hP hk1
        refine lv_aload_n hx hb dX3_throwOut_39 rfl (lv_at hl 1 rfl) ?_
        refine lv_iload_n hx hb dX3_throwOut_40 rfl (lv_at hl 4 rfl) ?_
        refine lv_bipush (v := 24) hx hb dX3_throwOut_41 (by decide) ?_
        refine lv_iload_n hx hb dX3_throwOut_43 rfl (lv_at hl 3 rfl) ?_
        refine lv_iadd hx hb dX3_throwOut_44 ?_
        obtain ⟨x23, hz24, hM⟩ := zx_b1E hM
        refine va_calli (va_runV (As := [.int v3, .int (24 + v2)]) (rest := [.int x21]) ⟨hx, hb, hml, hown, hts⟩ (c_X3_apart l D cI cZ cT h ad S_ _ N v3 (24 + v2)  hz24) (cwV 2 hts (zg_V zw_11_1 zw_11_2 zw_11_3 zw_1_5 zw_11_4) rfl rfl rfl ⟨rfl, zyX3_apart⟩ ⟨Nat.le_of_ble_eq_true rfl, Nat.le_of_ble_eq_true rfl⟩) ⟨bS_blind, va_recv hK hP (ci := 3) (q0 := 0) rfl rfl, bS_pre hP hK hD hN⟩ rfl rfl hl.1 rfl (lv_room (Nat.le_of_ble_eq_true rfl)) dX3_throwOut_45 ⟨Nat.zero_le _, Nat.zero_le _⟩) hS (fun q h1 h2 => absurd h1 (Nat.not_lt.mpr h2)) (fun q h => hA q (Nat.le_trans hS.1 h)) (fun r u t H1 lc ht hvm hw hB hz1 hk1 hS => ?_)
        replace hw : x23 = r := hw; subst hw
        replace hP := zx_keep hP hk1
        refine lv_icmp_le (tgt := 56) hx hb dX3_throwOut_48 (by decide) (fun q25 => ?_) (fun q25 => ?_)
        · replace hM := zx_t q25 hM
          refine lv_iload_n hx hb dX3_throwOut_56 rfl (lv_at hl 4 rfl) ?_
          exact j57 v2 v4 v3 S_ _ _ _ hP hD hS (lv_sub hl [1, 2, 3, 5] rfl) hM
        · replace hM := zx_f q25 hM
          refine lv_iload hx hb dX3_throwOut_51 (lv_at hl 0 rfl) ?_
          refine lv_goto (tgt := 57) hx hb dX3_throwOut_53 (by decide) ?_
          exact j57 v2 v4 x19 S_ _ _ _ hP hD hS (lv_sub hl [1, 2, 3, 5] rfl) hM
  refine lv_aload_n hx hb dX3_throwOut_0 rfl (lv_at hl 1 rfl) ?_
  refine lv_iload_n hx hb dX3_throwOut_1 rfl (lv_at hl 2 rfl) ?_
  refine lv_iconst (v := 0) hx hb dX3_throwOut_2 (by decide) ?_
  obtain ⟨x26, hz27, hM⟩ := zx_b1E hM
  refine va_calli (va_runS (As := [.ref (ad w), .int p2, .int 0]) (rest := []) ⟨hx, hb, hml, hown, hts⟩ (c_X3_entryOf l D cI cZ cT (ad w) 380 (S w) _ N p2 0 hz27) (va_cwS 3 hts (zg_S zw_9_12 zw_9_13 zw_1_5 zw_9_14) rfl rfl rfl zyX3_entryOf ⟨Nat.le_of_ble_eq_true rfl, Nat.le_of_ble_eq_true rfl⟩) ⟨bS_blind, bS_pre (zx_P1 hP (w + 1) ((xW3_aw hrw))) hK (zx_D1 hD (w + 1) ((xW3_aw hrw))) hN⟩ rfl rfl hl.1 rfl (lv_room (Nat.le_of_ble_eq_true rfl)) dX3_throwOut_3 ⟨Nat.zero_le _, Nat.zero_le _⟩) hS (fun q h1 h2 => absurd h1 (Nat.not_lt.mpr h2)) (fun q h => hA q (Nat.le_trans hS.1 h)) (fun r u t H1 lc ht hvm hw hB hz1 hk1 hS => ?_)
  replace hw : x26 = r := hw; subst hw
  replace hP := zx_keep hP hk1
  refine lv_istore_n (lv' := [(3, .int x26), (0, .ref h), (1, .ref (ad w)), (2, .int p2)]) hx hb dX3_throwOut_6 rfl hl (by decide) rfl (fun ls hl => ?_)
  refine lv_iconst (v := 1) hx hb dX3_throwOut_7 (by decide) ?_
  refine lv_istore (lv' := [(4, .int 1), (3, .int x26), (0, .ref h), (1, .ref (ad w)), (2, .int p2)]) hx hb dX3_throwOut_8 hl (by decide) rfl (fun ls hl => ?_)
  exact l10 N p2 x26 1 S _ _ _ hP hD hS (lv_sub hl [2, 3, 4, 1, 0] rfl) hM
