/-! ShallowBoxesModel.looks(IIII)I -/
def f_X3_looks_j155 (N : Nat) (k53 : Int32 → Int32 → Int32 → Int32 → Int32 → Int32 → zx_S → Option (Int32 × zx_S)) (v1 : Int32) (v2 : Int32) (v3 : Int32) (v4 : Int32) (v5 : Int32) (v6 : Int32) (S_ : zx_S) : Option (Int32 × zx_S) :=
  k53 v1 v2 v3 v4 v5 v6 S_
def f_X3_looks_j149 (N : Nat) (k53 : Int32 → Int32 → Int32 → Int32 → Int32 → Int32 → zx_S → Option (Int32 × zx_S)) (k76 : Int32 → Int32 → Int32 → Int32 → Int32 → Int32 → Int32 → Int32 → zx_S → Option (Int32 × zx_S)) (v1 : Int32) (v2 : Int32) (v3 : Int32) (v4 : Int32) (v5 : Int32) (v6 : Int32) (v7 : Int32) (v8 : Int32) (S_ : zx_S) : Option (Int32 × zx_S) :=
  (zx_n (v8 + 1) (fun x12 =>
k76 v1 v2 v3 v4 v5 v6 v7 x12 S_))
def f_X3_looks_l76 (N : Nat) (k53 : Int32 → Int32 → Int32 → Int32 → Int32 → Int32 → zx_S → Option (Int32 × zx_S)) : Nat → Int32 → Int32 → Int32 → Int32 → Int32 → Int32 → Int32 → Int32 → zx_S → Option (Int32 × zx_S)
  | 0, _, _, _, _, _, _, _, _, _ => none
  | n76 + 1, v1, v2, v3, v4, v5, v6, v7, v8, S_ => (zx_b1 (f_X3_many N 380 v7 (S_ 1)) (fun x6 =>
(if x6 ≤ v8 then
  f_X3_looks_j155 N k53 v1 v2 v3 v4 v5 v6 S_ else
  (zx_b1 (f_X3_levelOf N 380 v7 (S_ 1)) (fun x9 =>
(if x9 ≤ 0 then
  f_X3_looks_j155 N k53 v1 v2 v3 v4 v5 v6 S_ else
  (zx_b1 (f_X3_entryOf N 380 v7 v8 (S_ 1)) (fun x13 =>
(zx_b1 (f_X3_meets N x13 v1 v2 v3 v4 S_) (fun x15 =>
(if x15 = 0 then
  f_X3_looks_j149 N k53 (f_X3_looks_l76 N k53  n76) v1 v2 v3 v4 v5 v6 v7 v8 S_ else
  (zx_b1 (f_X3_entryOf N 380 v7 v8 (S_ 1)) (fun x18 =>
(zx_wr 64 v6 (zx_st S_ 11 (upd (S_ 11) (Int32.toNatClampNeg v6) (x18 - 24))) (fun T20 =>
(zx_n (v6 + 1) (fun x22 =>
f_X3_looks_j149 N k53 (f_X3_looks_l76 N k53  n76) v1 v2 v3 v4 v5 x22 v7 v8 T20)))))))))))))))))
def f_X3_looks_l53 (N : Nat) : Nat → Int32 → Int32 → Int32 → Int32 → Int32 → Int32 → zx_S → Option (Int32 × zx_S)
  | 0, _, _, _, _, _, _, _ => none
  | n53 + 1, v1, v2, v3, v4, v5, v6, S_ => (if v6 ≤ 0 then
  some (v5, S_) else
  (zx_n (v6 + (-1)) (fun x23 =>
(zx_rd 64 (S_ 11) x23 (fun x24 =>
(zx_n (v5 + 1) (fun x26 =>
f_X3_looks_l76 N (f_X3_looks_l53 N  n53) N v1 v2 v3 v4 x26 x23 x24 0 S_)))))))
def f_X3_looks_j17 (N : Nat) (v1 : Int32) (v2 : Int32) (v3 : Int32) (v4 : Int32) (t1 : Int32) (S_ : zx_S) : Option (Int32 × zx_S) :=
  (zx_b2 (f_X3_refused N t1 S_) (fun x1 T2 =>
(if x1 = 0 then
  (zx_b1 (f_X3_layBoxes N 1 T2) (fun T27 =>
(zx_rd 380 (T27 1) 376 (fun x29 =>
(zx_wr 64 0 (zx_st T27 11 (upd (T27 11) (Int32.toNatClampNeg 0) x29)) (fun T31 =>
f_X3_looks_l53 N  N v1 v2 v3 v4 0 1 T31)))))) else
  some (0, T2))))
def f_X3_looks (N : Nat) (p1 : Int32) (p2 : Int32) (p3 : Int32) (p4 : Int32) (S : zx_S) : Option (Int32 × zx_S) :=
  (zx_b1 (f_X3_isRectangle N p1 p2 p3 p4) (fun x33 =>
(if x33 = 0 then
  f_X3_looks_j17 N  p1 p2 p3 p4 1 S else
  f_X3_looks_j17 N  p1 p2 p3 p4 0 S)))
abbrev rmX3_looks : Room := { frames := 3, cells := 0, slots := 0, locals := 66 }
abbrev zsX3_looks : List Cond := .code yX3_looks cX3_looks 9 (some .int) :: wsL_law
theorem zyX3_looks : yX3_looks.cls ≠ "java/lang/invoke/MethodHandle" ∧ yX3_looks.cls ≠ "java/lang/invoke/VarHandle" ∧ (parseMethodDescriptor yX3_looks.desc).map (fun d => d.parameters.length) = some 4 := by decide +kernel
set_option maxHeartbeats 4000000 in
set_option maxRecDepth 100000 in
theorem c_X3_looks (l : Launch) (D : va_G) (cI cZ cT : ClassId) (h : Nat) (ad : Nat → Nat) (S : zx_S) (sz : Nat) (N : Nat) (p1 : Int32) (p2 : Int32) (p3 : Int32) (p4 : Int32) {R : Int32 × zx_S} (hM : f_X3_looks N p1 p2 p3 p4 S = some R) : Met l yX3_looks zsX3_looks rmX3_looks (va_Pc [.ref h, .int p1, .int p2, .int p3, .int p4] (bS D (zx_ty cI cZ cT) (xW3 cI cZ h ad S) sz)) (va_Qi (fun r u => R = (r, u)) (fun u t => va_P D vwCl (xW3 cI cZ h ad u) t.heap) (va_A (xW3 cI cZ h ad S) sz)) 0 0 (va_A (xW3 cI cZ h ad S) sz) := by
  refine Met.ofW (cc := cX3_looks) (maxL := 9) (ret := (some .int)) (by decide) rfl ?_
  intro p e s m args below meth c s₁ B hml hv
  obtain ⟨rfl, hsz, hP, hK, hD0, hN⟩ := hv
  have hx := B.exec
  have hb := B.bytes
  have hr := B.returns
  have hts : ∀ w ∈ wsL_law, w.before _ s = true := fun w hw => atoms_spec (ws := zsX3_looks) B.pre w (List.mem_cons_of_mem _ hw)
  have hown : s.vm.findClass RX3 = some m.cls := findClass_of_methodNamed B.named
  have hlocks := B.notSynchronized
  subst hsz
  have hD := hD0.self (sz := s.heap.size)
  generalize hAe : va_A (xW3 cI cZ h ad S) s.heap.size = A at hD ⊢
  have hA : ∀ q : Nat, s.heap.size ≤ q → A q := fun q h => by rw [← hAe]; exact Or.inr h
  have hS : va_S A s.heap s.heap [] := va_S.rf
  have hl := lv_entry ([.ref h, .int p1, .int p2, .int p3, .int p4]) (n := 9) (Nat.le_of_ble_eq_true rfl)
  rw [lg_entry_eq]
  generalize (lg_sl ([.ref h, .int p1, .int p2, .int p3, .int p4]) ++ List.replicate (9 - (lg_sl ([.ref h, .int p1, .int p2, .int p3, .int p4])).length) Slot.unset).toArray = ls at hl ⊢
  have hl : lv_has ls 9 [(0, .ref h), (1, .int p1), (2, .int p2), (3, .int p3), (4, .int p4)] := hl
  generalize hQ : MQ below (va_Qi (fun r u => R = (r, u)) (fun u t => va_P D vwCl (xW3 cI cZ h ad u) t.heap) A) ([.ref h, .int p1, .int p2, .int p3, .int p4] : List Value).toArray s 0 0 A = Q9
  replace hQ := hQ.symm
  unfold f_X3_looks at hM
  have j17 : ∀ (v1 : Int32) (v2 : Int32) (v3 : Int32) (v4 : Int32) (t1 : Int32) (S_ : zx_S) (H : Heap) (lc : List Loc) (ls : Array Slot), va_P D vwCl (xW3 cI cZ h ad S_) H → va_D A (xW3 cI cZ h ad S_) → va_S A s.heap H lc → lv_has ls 9 [(0, .ref h), (1, .int v1), (2, .int v2), (3, .int v3), (4, .int v4)] → f_X3_looks_j17 N v1 v2 v3 v4 t1 S_ = some R → W p l e (headSpec zsX3_looks rmX3_looks).room s m ([.ref h, .int p1, .int p2, .int p3, .int p4] : List Value).toArray below meth c H lc 0 0 Q9 (F0 m 17 ls [.int t1, .ref h]) := by
    intro v1 v2 v3 v4 t1 S_ H lc ls hP hD hS hl hM
    unfold f_X3_looks_j17 at hM
    obtain ⟨x1, T2, hz3, hM⟩ := zx_b2E hM
    refine va_calli (va_runV (As := [.int t1]) (rest := []) ⟨hx, hb, hml, hown, hts⟩ (c_X3_refused l D cI cZ cT h ad S_ _ N t1  hz3) (cwV 1 hts (zg_V zw_5_14 zw_5_15 zw_5_16 zw_1_5 zw_5_17) rfl rfl rfl ⟨rfl, zyX3_refused⟩ ⟨Nat.le_of_ble_eq_true rfl, Nat.le_of_ble_eq_true rfl⟩) ⟨bS_blind, va_recv hK hP (ci := 3) (q0 := 0) rfl rfl, bS_pre hP hK hD hN⟩ rfl rfl hl.1 rfl (lv_room (Nat.le_of_ble_eq_true rfl)) dX3_looks_17 ⟨Nat.zero_le _, Nat.zero_le _⟩) hS (fun q _ h => zx_fW hD hS hA q h) (fun q h => zx_fW hD hS hA q h) (fun r u t H1 lc ht hvm hw hB hz1 hk1 hS => ?_)
    obtain ⟨hw1, hw2⟩ := Prod.mk.inj hw; subst hw1; subst hw2
    rw [ht] at hB
    replace hP := hB
    replace hD := xW3_D T2 hD
    refine lv_if_eq (tgt := 25) hx hb dX3_looks_20 (by decide) (fun q4 => ?_) (fun q4 => ?_)
    · replace hM := zx_t q4 hM
      have l53 : ∀ (n53 : Nat) (v1 : Int32) (v2 : Int32) (v3 : Int32) (v4 : Int32) (v5 : Int32) (v6 : Int32) (S_ : zx_S) (H : Heap) (lc : List Loc) (ls : Array Slot), va_P D vwCl (xW3 cI cZ h ad S_) H → va_D A (xW3 cI cZ h ad S_) → va_S A s.heap H lc → lv_has ls 9 [(0, .ref h), (1, .int v1), (2, .int v2), (3, .int v3), (4, .int v4), (5, .int v5), (6, .int v6)] → f_X3_looks_l53 N n53 v1 v2 v3 v4 v5 v6 S_ = some R → W p l e (headSpec zsX3_looks rmX3_looks).room s m ([.ref h, .int p1, .int p2, .int p3, .int p4] : List Value).toArray below meth c H lc 0 0 Q9 (F0 m 53 ls []) := by
        intro n53
        induction n53 with
        | zero =>
          intro v1 v2 v3 v4 v5 v6 S_ H lc ls hP hD hS hl hM
          rw [f_X3_looks_l53] at hM; exact absurd hM (by intro h; cases h)
        | succ n53 ih53 =>
          intro v1 v2 v3 v4 v5 v6 S_ H lc ls hP hD hS hl hM
          rw [f_X3_looks_l53] at hM
          refine lv_iload hx hb dX3_looks_53 (lv_at hl 6 rfl) ?_
          refine lv_if_le (tgt := 158) hx hb dX3_looks_55 (by decide) (fun q5 => ?_) (fun q5 => ?_)
          · replace hM := zx_t q5 hM
            refine lv_iload hx hb dX3_looks_158 (lv_at hl 5 rfl) ?_
            rw [hQ]
            exact W.iret hx hb hr (fun t ht hW => ⟨⟨v5, S_, rfl, (Option.some.inj hM).symm, by show va_P D vwCl _ t.heap; rw [ht]; exact hP⟩, hS.F ht⟩) hS.2.2 dX3_looks_160
          · replace hM := zx_f q5 hM
            have l76 : ∀ (n76 : Nat) (v1 : Int32) (v2 : Int32) (v3 : Int32) (v4 : Int32) (v5 : Int32) (v6 : Int32) (v7 : Int32) (v8 : Int32) (S_ : zx_S) (H : Heap) (lc : List Loc) (ls : Array Slot), va_P D vwCl (xW3 cI cZ h ad S_) H → va_D A (xW3 cI cZ h ad S_) → va_S A s.heap H lc → lv_has ls 9 [(0, .ref h), (1, .int v1), (2, .int v2), (3, .int v3), (4, .int v4), (5, .int v5), (6, .int v6), (7, .int v7), (8, .int v8)] → f_X3_looks_l76 N (f_X3_looks_l53 N  n53) n76 v1 v2 v3 v4 v5 v6 v7 v8 S_ = some R → W p l e (headSpec zsX3_looks rmX3_looks).room s m ([.ref h, .int p1, .int p2, .int p3, .int p4] : List Value).toArray below meth c H lc 0 0 Q9 (F0 m 76 ls []) := by
              intro n76
              induction n76 with
              | zero =>
                intro v1 v2 v3 v4 v5 v6 v7 v8 S_ H lc ls hP hD hS hl hM
                rw [f_X3_looks_l76] at hM; exact absurd hM (by intro h; cases h)
              | succ n76 ih76 =>
                intro v1 v2 v3 v4 v5 v6 v7 v8 S_ H lc ls hP hD hS hl hM
                rw [f_X3_looks_l76] at hM
                have j155 : ∀ (v1 : Int32) (v2 : Int32) (v3 : Int32) (v4 : Int32) (v5 : Int32) (v6 : Int32) (S_ : zx_S) (H : Heap) (lc : List Loc) (ls : Array Slot), va_P D vwCl (xW3 cI cZ h ad S_) H → va_D A (xW3 cI cZ h ad S_) → va_S A s.heap H lc → lv_has ls 9 [(0, .ref h), (1, .int v1), (2, .int v2), (3, .int v3), (4, .int v4), (5, .int v5), (6, .int v6)] → f_X3_looks_j155 N (f_X3_looks_l53 N  n53) v1 v2 v3 v4 v5 v6 S_ = some R → W p l e (headSpec zsX3_looks rmX3_looks).room s m ([.ref h, .int p1, .int p2, .int p3, .int p4] : List Value).toArray below meth c H lc 0 0 Q9 (F0 m 155 ls []) := by
                  intro v1 v2 v3 v4 v5 v6 S_ H lc ls hP hD hS hl hM
                  unfold f_X3_looks_j155 at hM
                  refine lv_goto (tgt := 53) hx hb dX3_looks_155 (by decide) ?_
                  exact ih53 v1 v2 v3 v4 v5 v6 S_ _ _ _ hP hD hS (lv_sub hl [0, 1, 2, 3, 4, 5, 6] rfl) hM
                refine lv_iload hx hb dX3_looks_76 (lv_at hl 8 rfl) ?_
                refine lv_aload_n hx hb dX3_looks_78 rfl (lv_at hl 0 rfl) ?_
                refine va_get (D := D) (ci := 3) (v := .ref (ad 1)) (C := RX3) (T := TX3) (N := 20) hx hb hts inlX3 hown hK hP 0 rfl rfl 3 (by decide) (hts _ zw_3_19) (fun _ h9 => h9) rfl dX3_looks_79 ?_
                refine lv_iload hx hb dX3_looks_82 (lv_at hl 7 rfl) ?_
                obtain ⟨x6, hz7, hM⟩ := zx_b1E hM
                refine va_calli (va_runS (As := [.ref (ad 1), .int v7]) (rest := [.int v8]) ⟨hx, hb, hml, hown, hts⟩ (c_X3_many l D cI cZ cT (ad 1) 380 (S_ 1) _ N v7 hz7) (va_cwS 2 hts (zg_S zw_9_3 zw_9_4 zw_1_5 zw_9_5) rfl rfl rfl zyX3_many ⟨Nat.le_of_ble_eq_true rfl, Nat.le_of_ble_eq_true rfl⟩) ⟨bS_blind, bS_pre (zx_P1 hP 2 (rfl)) hK (zx_D1 hD 2 (rfl)) hN⟩ rfl rfl hl.1 rfl (lv_room (Nat.le_of_ble_eq_true rfl)) dX3_looks_84 ⟨Nat.zero_le _, Nat.zero_le _⟩) hS (fun q h1 h2 => absurd h1 (Nat.not_lt.mpr h2)) (fun q h => hA q (Nat.le_trans hS.1 h)) (fun r u t H1 lc ht hvm hw hB hz1 hk1 hS => ?_)
                replace hw : x6 = r := hw; subst hw
                replace hP := zx_keep hP hk1
                refine lv_icmp_ge (tgt := 155) hx hb dX3_looks_87 (by decide) (fun q8 => ?_) (fun q8 => ?_)
                · replace hM := zx_t q8 hM
                  exact j155 v1 v2 v3 v4 v5 v6 S_ _ _ _ hP hD hS (lv_sub hl [0, 1, 2, 3, 4, 5, 6] rfl) hM
                · replace hM := zx_f q8 hM
                  refine lv_aload_n hx hb dX3_looks_90 rfl (lv_at hl 0 rfl) ?_
                  refine va_get (D := D) (ci := 3) (v := .ref (ad 1)) (C := RX3) (T := TX3) (N := 20) hx hb hts inlX3 hown hK hP 0 rfl rfl 3 (by decide) (hts _ zw_3_19) (fun _ h9 => h9) rfl dX3_looks_91 ?_
                  refine lv_iload hx hb dX3_looks_94 (lv_at hl 7 rfl) ?_
                  obtain ⟨x9, hz10, hM⟩ := zx_b1E hM
                  refine va_calli (va_runS (As := [.ref (ad 1), .int v7]) (rest := []) ⟨hx, hb, hml, hown, hts⟩ (c_X3_levelOf l D cI cZ cT (ad 1) 380 (S_ 1) _ N v7 hz10) (va_cwS 2 hts (zg_S zw_9_9 zw_9_10 zw_1_5 zw_9_11) rfl rfl rfl zyX3_levelOf ⟨Nat.le_of_ble_eq_true rfl, Nat.le_of_ble_eq_true rfl⟩) ⟨bS_blind, bS_pre (zx_P1 hP 2 (rfl)) hK (zx_D1 hD 2 (rfl)) hN⟩ rfl rfl hl.1 rfl (lv_room (Nat.le_of_ble_eq_true rfl)) dX3_looks_96 ⟨Nat.zero_le _, Nat.zero_le _⟩) hS (fun q h1 h2 => absurd h1 (Nat.not_lt.mpr h2)) (fun q h => hA q (Nat.le_trans hS.1 h)) (fun r u t H1 lc ht hvm hw hB hz1 hk1 hS => ?_)
                  replace hw : x9 = r := hw; subst hw
                  replace hP := zx_keep hP hk1
                  refine lv_if_le (tgt := 155) hx hb dX3_looks_99 (by decide) (fun q11 => ?_) (fun q11 => ?_)
                  · replace hM := zx_t q11 hM
                    exact j155 v1 v2 v3 v4 v5 v6 S_ _ _ _ hP hD hS (lv_sub hl [0, 1, 2, 3, 4, 5, 6] rfl) hM
                  · replace hM := zx_f q11 hM
                    have j149 : ∀ (v1 : Int32) (v2 : Int32) (v3 : Int32) (v4 : Int32) (v5 : Int32) (v6 : Int32) (v7 : Int32) (v8 : Int32) (S_ : zx_S) (H : Heap) (lc : List Loc) (ls : Array Slot), va_P D vwCl (xW3 cI cZ h ad S_) H → va_D A (xW3 cI cZ h ad S_) → va_S A s.heap H lc → lv_has ls 9 [(0, .ref h), (1, .int v1), (2, .int v2), (3, .int v3), (4, .int v4), (5, .int v5), (6, .int v6), (7, .int v7), (8, .int v8)] → f_X3_looks_j149 N (f_X3_looks_l53 N  n53) (f_X3_looks_l76 N (f_X3_looks_l53 N  n53)  n76) v1 v2 v3 v4 v5 v6 v7 v8 S_ = some R → W p l e (headSpec zsX3_looks rmX3_looks).room s m ([.ref h, .int p1, .int p2, .int p3, .int p4] : List Value).toArray below meth c H lc 0 0 Q9 (F0 m 149 ls []) := by
                      intro v1 v2 v3 v4 v5 v6 v7 v8 S_ H lc ls hP hD hS hl hM
                      unfold f_X3_looks_j149 at hM
                      obtain ⟨x12, ex12, hM⟩ := zx_nE hM
                      refine lv_iinc (v := x12) (lv' := [(8, .int x12), (0, .ref h), (1, .int v1), (2, .int v2), (3, .int v3), (4, .int v4), (5, .int v5), (6, .int v6), (7, .int v7)]) hx hb dX3_looks_149 hl (k := 8) rfl (by rw [ex12]; rfl) (by decide) rfl (fun ls hl => ?_)
                      refine lv_goto (tgt := 76) hx hb dX3_looks_152 (by decide) ?_
                      exact ih76 v1 v2 v3 v4 v5 v6 v7 x12 S_ _ _ _ hP hD hS (lv_sub hl [1, 2, 3, 4, 5, 6, 7, 8, 0] rfl) hM
                    refine lv_aload_n hx hb dX3_looks_102 rfl (lv_at hl 0 rfl) ?_
                    refine lv_aload_n hx hb dX3_looks_103 rfl (lv_at hl 0 rfl) ?_
                    refine va_get (D := D) (ci := 3) (v := .ref (ad 1)) (C := RX3) (T := TX3) (N := 20) hx hb hts inlX3 hown hK hP 0 rfl rfl 3 (by decide) (hts _ zw_3_19) (fun _ h9 => h9) rfl dX3_looks_104 ?_
                    refine lv_iload hx hb dX3_looks_107 (lv_at hl 7 rfl) ?_
                    refine lv_iload hx hb dX3_looks_109 (lv_at hl 8 rfl) ?_
                    obtain ⟨x13, hz14, hM⟩ := zx_b1E hM
                    refine va_calli (va_runS (As := [.ref (ad 1), .int v7, .int v8]) (rest := [.ref h]) ⟨hx, hb, hml, hown, hts⟩ (c_X3_entryOf l D cI cZ cT (ad 1) 380 (S_ 1) _ N v7 v8 hz14) (va_cwS 3 hts (zg_S zw_9_12 zw_9_13 zw_1_5 zw_9_14) rfl rfl rfl zyX3_entryOf ⟨Nat.le_of_ble_eq_true rfl, Nat.le_of_ble_eq_true rfl⟩) ⟨bS_blind, bS_pre (zx_P1 hP 2 (rfl)) hK (zx_D1 hD 2 (rfl)) hN⟩ rfl rfl hl.1 rfl (lv_room (Nat.le_of_ble_eq_true rfl)) dX3_looks_111 ⟨Nat.zero_le _, Nat.zero_le _⟩) hS (fun q h1 h2 => absurd h1 (Nat.not_lt.mpr h2)) (fun q h => hA q (Nat.le_trans hS.1 h)) (fun r u t H1 lc ht hvm hw hB hz1 hk1 hS => ?_)
                    replace hw : x13 = r := hw; subst hw
                    replace hP := zx_keep hP hk1
                    refine lv_iload_n hx hb dX3_looks_114 rfl (lv_at hl 1 rfl) ?_
                    refine lv_iload_n hx hb dX3_looks_115 rfl (lv_at hl 2 rfl) ?_
                    refine lv_iload_n hx hb dX3_looks_116 rfl (lv_at hl 3 rfl) ?_
                    refine lv_iload hx hb dX3_looks_117 (lv_at hl 4 rfl) ?_
                    obtain ⟨x15, hz16, hM⟩ := zx_b1E hM
                    refine va_calli (va_runV (As := [.int x13, .int v1, .int v2, .int v3, .int v4]) (rest := []) ⟨hx, hb, hml, hown, hts⟩ (c_X3_meets l D cI cZ cT h ad S_ _ N x13 v1 v2 v3 v4  hz16) (cwV 5 hts (zg_V zw_27_9 zw_27_10 zw_27_11 zw_1_5 zw_27_12) rfl rfl rfl ⟨rfl, zyX3_meets⟩ ⟨Nat.le_of_ble_eq_true rfl, Nat.le_of_ble_eq_true rfl⟩) ⟨bS_blind, va_recv hK hP (ci := 3) (q0 := 0) rfl rfl, bS_pre hP hK hD hN⟩ rfl rfl hl.1 rfl (lv_room (Nat.le_of_ble_eq_true rfl)) dX3_looks_119 ⟨Nat.zero_le _, Nat.zero_le _⟩) hS (fun q h1 h2 => absurd h1 (Nat.not_lt.mpr h2)) (fun q h => hA q (Nat.le_trans hS.1 h)) (fun r u t H1 lc ht hvm hw hB hz1 hk1 hS => ?_)
                    replace hw : x15 = r := hw; subst hw
                    replace hP := zx_keep hP hk1
                    refine lv_if_eq (tgt := 149) hx hb dX3_looks_122 (by decide) (fun q17 => ?_) (fun q17 => ?_)
                    · replace hM := zx_t q17 hM
                      exact j149 v1 v2 v3 v4 v5 v6 v7 v8 S_ _ _ _ hP hD hS (lv_sub hl [0, 1, 2, 3, 4, 5, 6, 7, 8] rfl) hM
                    · replace hM := zx_f q17 hM
                      refine lv_aload_n hx hb dX3_looks_125 rfl (lv_at hl 0 rfl) ?_
                      refine va_get (D := D) (ci := 3) (v := .ref (ad 11)) (C := RX3) (T := TX3) (N := 20) hx hb hts inlX3 hown hK hP 0 rfl rfl 17 (by decide) (hts _ zw_4_6) (fun _ h9 => h9) rfl dX3_looks_126 ?_
                      refine lv_iload hx hb dX3_looks_129 (lv_at hl 6 rfl) ?_
                      refine lv_aload_n hx hb dX3_looks_131 rfl (lv_at hl 0 rfl) ?_
                      refine va_get (D := D) (ci := 3) (v := .ref (ad 1)) (C := RX3) (T := TX3) (N := 20) hx hb hts inlX3 hown hK hP 0 rfl rfl 3 (by decide) (hts _ zw_3_19) (fun _ h9 => h9) rfl dX3_looks_132 ?_
                      refine lv_iload hx hb dX3_looks_135 (lv_at hl 7 rfl) ?_
                      refine lv_iload hx hb dX3_looks_137 (lv_at hl 8 rfl) ?_
                      obtain ⟨x18, hz19, hM⟩ := zx_b1E hM
                      refine va_calli (va_runS (As := [.ref (ad 1), .int v7, .int v8]) (rest := [.int v6, .ref (ad 11)]) ⟨hx, hb, hml, hown, hts⟩ (c_X3_entryOf l D cI cZ cT (ad 1) 380 (S_ 1) _ N v7 v8 hz19) (va_cwS 3 hts (zg_S zw_9_12 zw_9_13 zw_1_5 zw_9_14) rfl rfl rfl zyX3_entryOf ⟨Nat.le_of_ble_eq_true rfl, Nat.le_of_ble_eq_true rfl⟩) ⟨bS_blind, bS_pre (zx_P1 hP 2 (rfl)) hK (zx_D1 hD 2 (rfl)) hN⟩ rfl rfl hl.1 rfl (lv_room (Nat.le_of_ble_eq_true rfl)) dX3_looks_139 ⟨Nat.zero_le _, Nat.zero_le _⟩) hS (fun q h1 h2 => absurd h1 (Nat.not_lt.mpr h2)) (fun q h => hA q (Nat.le_trans hS.1 h)) (fun r u t H1 lc ht hvm hw hB hz1 hk1 hS => ?_)
                      replace hw : x18 = r := hw; subst hw
                      replace hP := zx_keep hP hk1
                      refine lv_bipush (v := 24) hx hb dX3_looks_142 (by decide) ?_
                      refine lv_isub hx hb dX3_looks_144 ?_
                      obtain ⟨T20, q21, eT20, hM⟩ := zx_wrE hM
                      refine va_iast (D := D) hx hb hK hP hD hS 12 0 rfl rfl q21 dX3_looks_145 (fun H lc hP hD hS => ?_)
                      rw [xW3_pa11] at hP hD
                      rw [← eT20] at hP hD
                      obtain ⟨x22, ex22, hM⟩ := zx_nE hM
                      refine lv_iinc (v := x22) (lv' := [(6, .int x22), (0, .ref h), (1, .int v1), (2, .int v2), (3, .int v3), (4, .int v4), (5, .int v5), (7, .int v7), (8, .int v8)]) hx hb dX3_looks_146 hl (k := 6) rfl (by rw [ex22]; rfl) (by decide) rfl (fun ls hl => ?_)
                      exact j149 v1 v2 v3 v4 v5 x22 v7 v8 T20 _ _ _ hP hD hS (lv_sub hl [1, 2, 3, 4, 5, 6, 0, 7, 8] rfl) hM
            obtain ⟨x23, ex23, hM⟩ := zx_nE hM
            refine lv_iinc (v := x23) (lv' := [(6, .int x23), (0, .ref h), (1, .int v1), (2, .int v2), (3, .int v3), (4, .int v4), (5, .int v5)]) hx hb dX3_looks_58 hl (k := 6) rfl (by rw [ex23]; rfl) (by decide) rfl (fun ls hl => ?_)
            refine lv_aload_n hx hb dX3_looks_61 rfl (lv_at hl 1 rfl) ?_
            refine va_get (D := D) (ci := 3) (v := .ref (ad 11)) (C := RX3) (T := TX3) (N := 20) hx hb hts inlX3 hown hK hP 0 rfl rfl 17 (by decide) (hts _ zw_4_6) (fun _ h9 => h9) rfl dX3_looks_62 ?_
            refine lv_iload hx hb dX3_looks_65 (lv_at hl 0 rfl) ?_
            obtain ⟨x24, q25, ex24, hM⟩ := zx_rdE hM
            refine va_iald (D := D) hx hb hK hP 12 0 rfl rfl q25 dX3_looks_67 ?_
            refine zx_top ex24 ?_
            refine lv_istore (lv' := [(7, .int x24), (6, .int x23), (0, .ref h), (1, .int v1), (2, .int v2), (3, .int v3), (4, .int v4), (5, .int v5)]) hx hb dX3_looks_68 hl (by decide) rfl (fun ls hl => ?_)
            obtain ⟨x26, ex26, hM⟩ := zx_nE hM
            refine lv_iinc (v := x26) (lv' := [(5, .int x26), (7, .int x24), (6, .int x23), (0, .ref h), (1, .int v1), (2, .int v2), (3, .int v3), (4, .int v4)]) hx hb dX3_looks_70 hl (k := 7) rfl (by rw [ex26]; rfl) (by decide) rfl (fun ls hl => ?_)
            refine lv_iconst (v := 0) hx hb dX3_looks_73 (by decide) ?_
            refine lv_istore (lv' := [(8, .int 0), (5, .int x26), (7, .int x24), (6, .int x23), (0, .ref h), (1, .int v1), (2, .int v2), (3, .int v3), (4, .int v4)]) hx hb dX3_looks_74 hl (by decide) rfl (fun ls hl => ?_)
            exact l76 N v1 v2 v3 v4 x26 x23 x24 0 S_ _ _ _ hP hD hS (lv_sub hl [4, 5, 6, 7, 8, 1, 3, 2, 0] rfl) hM
      refine lv_aload_n hx hb dX3_looks_25 rfl (lv_at hl 0 rfl) ?_
      refine lv_aload_n hx hb dX3_looks_26 rfl (lv_at hl 0 rfl) ?_
      refine va_get (D := D) (ci := 3) (v := .ref (ad 1)) (C := RX3) (T := TX3) (N := 20) hx hb hts inlX3 hown hK hP 0 rfl rfl 3 (by decide) (hts _ zw_3_19) (fun _ h9 => h9) rfl dX3_looks_27 ?_
      obtain ⟨T27, hz28, hM⟩ := zx_b1E hM
      refine va_callv (va_runV (As := [.ref (ad 1)]) (rest := []) ⟨hx, hb, hml, hown, hts⟩ (c_X3_layBoxes l D cI cZ cT h ad T2 _ N 1 (Or.inl rfl)  hz28) (cwV 1 hts (zg_V zw_8_23 zw_9_0 zw_9_1 zw_1_5 zw_9_2) rfl rfl rfl ⟨rfl, zyX3_layBoxes⟩ ⟨Nat.le_of_ble_eq_true rfl, Nat.le_of_ble_eq_true rfl⟩) ⟨bS_blind, va_recv hK hP (ci := 3) (q0 := 0) rfl rfl, bS_pre hP hK hD hN⟩ rfl rfl hl.1 rfl (lv_room (Nat.le_of_ble_eq_true rfl)) dX3_looks_30 ⟨Nat.zero_le _, Nat.zero_le _⟩) hS (fun q _ h => zx_fW hD hS hA q h) (fun q h => zx_fW hD hS hA q h) (fun u t H1 lc ht hvm hw hB hz1 hk1 hS => ?_)
      replace hw : T27 = u := hw; subst hw
      rw [ht] at hB
      replace hP := hB
      replace hD := xW3_D T27 hD
      refine lv_iconst (v := 0) hx hb dX3_looks_33 (by decide) ?_
      refine lv_istore (lv' := [(5, .int 0), (0, .ref h), (1, .int v1), (2, .int v2), (3, .int v3), (4, .int v4)]) hx hb dX3_looks_34 hl (by decide) rfl (fun ls hl => ?_)
      refine lv_iconst (v := 1) hx hb dX3_looks_36 (by decide) ?_
      refine lv_istore (lv' := [(6, .int 1), (5, .int 0), (0, .ref h), (1, .int v1), (2, .int v2), (3, .int v3), (4, .int v4)]) hx hb dX3_looks_37 hl (by decide) rfl (fun ls hl => ?_)
      refine lv_aload_n hx hb dX3_looks_39 rfl (lv_at hl 2 rfl) ?_
      refine va_get (D := D) (ci := 3) (v := .ref (ad 11)) (C := RX3) (T := TX3) (N := 20) hx hb hts inlX3 hown hK hP 0 rfl rfl 17 (by decide) (hts _ zw_4_6) (fun _ h9 => h9) rfl dX3_looks_40 ?_
      refine lv_iconst (v := 0) hx hb dX3_looks_43 (by decide) ?_
      refine lv_aload_n hx hb dX3_looks_44 rfl (lv_at hl 2 rfl) ?_
      refine va_get (D := D) (ci := 3) (v := .ref (ad 1)) (C := RX3) (T := TX3) (N := 20) hx hb hts inlX3 hown hK hP 0 rfl rfl 3 (by decide) (hts _ zw_3_19) (fun _ h9 => h9) rfl dX3_looks_45 ?_
      refine lv_sipush (v := 376) hx hb dX3_looks_48 (by decide) ?_
      obtain ⟨x29, q30, ex29, hM⟩ := zx_rdE hM
      refine va_iald (D := D) hx hb hK hP 2 0 rfl rfl q30 dX3_looks_51 ?_
      refine zx_top ex29 ?_
      obtain ⟨T31, q32, eT31, hM⟩ := zx_wrE hM
      refine va_iast (D := D) hx hb hK hP hD hS 12 0 rfl rfl q32 dX3_looks_52 (fun H lc hP hD hS => ?_)
      rw [xW3_pa11] at hP hD
      rw [← eT31] at hP hD
      exact l53 N v1 v2 v3 v4 0 1 T31 _ _ _ hP hD hS (lv_sub hl [2, 3, 4, 5, 6, 1, 0] rfl) hM
    · replace hM := zx_f q4 hM
      refine lv_iconst (v := 0) hx hb dX3_looks_23 (by decide) ?_
      rw [hQ]
      exact W.iret hx hb hr (fun t ht hW => ⟨⟨0, T2, rfl, (Option.some.inj hM).symm, by show va_P D vwCl _ t.heap; rw [ht]; exact hP⟩, hS.F ht⟩) hS.2.2 dX3_looks_24
  refine lv_aload_n hx hb dX3_looks_0 rfl (lv_at hl 0 rfl) ?_
  refine lv_iload_n hx hb dX3_looks_1 rfl (lv_at hl 1 rfl) ?_
  refine lv_iload_n hx hb dX3_looks_2 rfl (lv_at hl 2 rfl) ?_
  refine lv_iload_n hx hb dX3_looks_3 rfl (lv_at hl 3 rfl) ?_
  refine lv_iload hx hb dX3_looks_4 (lv_at hl 4 rfl) ?_
  obtain ⟨x33, hz34, hM⟩ := zx_b1E hM
  refine va_calli (va_runS (As := [.int p1, .int p2, .int p3, .int p4]) (rest := [.ref h]) ⟨hx, hb, hml, hown, hts⟩ (c_X3_isRectangle l D cI cZ cT _ N p1 p2 p3 p4 hz34) (va_cwS 4 hts (zg_S zw_22_19 zw_22_20 zw_1_5 zw_22_21) rfl rfl rfl zyX3_isRectangle ⟨Nat.le_of_ble_eq_true rfl, Nat.le_of_ble_eq_true rfl⟩) ⟨bS_blind, bS_pre (zx_P0 hP) hK (zx_D0 hD) hN⟩ rfl rfl hl.1 rfl (lv_room (Nat.le_of_ble_eq_true rfl)) dX3_looks_6 ⟨Nat.zero_le _, Nat.zero_le _⟩) hS (fun q h1 h2 => absurd h1 (Nat.not_lt.mpr h2)) (fun q h => hA q (Nat.le_trans hS.1 h)) (fun r u t H1 lc ht hvm hw hB hz1 hk1 hS => ?_)
  replace hw : x33 = r := hw; subst hw
  replace hP := zx_keep hP hk1
  refine lv_if_eq (tgt := 16) hx hb dX3_looks_9 (by decide) (fun q35 => ?_) (fun q35 => ?_)
  · replace hM := zx_t q35 hM
    refine lv_iconst (v := 1) hx hb dX3_looks_16 (by decide) ?_
    exact j17 p1 p2 p3 p4 1 S _ _ _ hP hD hS (lv_sub hl [0, 1, 2, 3, 4] rfl) hM
  · replace hM := zx_f q35 hM
    refine lv_iconst (v := 0) hx hb dX3_looks_12 (by decide) ?_
    refine lv_goto (tgt := 17) hx hb dX3_looks_13 (by decide) ?_
    exact j17 p1 p2 p3 p4 0 S _ _ _ hP hD hS (lv_sub hl [0, 1, 2, 3, 4] rfl) hM

/-! ShallowBoxesModel.beyond(III)I -/
def f_X3_beyond (N : Nat) (p0 : Int32) (p1 : Int32) (p2 : Int32) : Option (Int32) :=
  (if p1 ≤ p0 then
  (if p0 ≤ p2 then
  some 0 else
  some (p0 - p2)) else
  some (p1 - p0))
abbrev rmX3_beyond : Room := { frames := 0, cells := 0, slots := 0, locals := 0 }
abbrev zsX3_beyond : List Cond := .code yX3_beyond cX3_beyond 3 (some .int) :: wsL_law
theorem zyX3_beyond : yX3_beyond.cls ≠ "java/lang/invoke/MethodHandle" ∧ yX3_beyond.cls ≠ "java/lang/invoke/VarHandle" ∧ (parseMethodDescriptor yX3_beyond.desc).map (fun d => d.parameters.length) = some 3 := by decide +kernel
set_option maxHeartbeats 4000000 in
set_option maxRecDepth 100000 in
theorem c_X3_beyond (l : Launch) (D : va_G) (cI cZ cT : ClassId) (sz : Nat) (N : Nat) (p0 : Int32) (p1 : Int32) (p2 : Int32) {R : Int32} (hM : f_X3_beyond N p0 p1 p2 = some R) : Met l yX3_beyond zsX3_beyond rmX3_beyond (va_Pc [.int p0, .int p1, .int p2] (bS D (zx_ty cI cZ cT) [] sz)) (va_Qi (fun r (_ : Unit) => R = r) (fun _ _ => True) (fun q => sz ≤ q)) 0 0 (fun q => sz ≤ q) := by
  refine Met.ofW (cc := cX3_beyond) (maxL := 3) (ret := (some .int)) (by decide) rfl ?_
  intro p e s m args below meth c s₁ B hml hv
  obtain ⟨rfl, hsz, hP, hK, hD0, hN⟩ := hv
  have hx := B.exec
  have hb := B.bytes
  have hr := B.returns
  have hts : ∀ w ∈ wsL_law, w.before _ s = true := fun w hw => atoms_spec (ws := zsX3_beyond) B.pre w (List.mem_cons_of_mem _ hw)
  have hown : s.vm.findClass RX3 = some m.cls := findClass_of_methodNamed B.named
  have hlocks := B.notSynchronized
  subst hsz
  generalize hAe : (fun q : Nat => s.heap.size ≤ q) = A
  have hA : ∀ q : Nat, s.heap.size ≤ q → A q := fun q h => by rw [← hAe]; exact h
  have hD := hD0
  have hS : va_S A s.heap s.heap [] := va_S.rf
  have hl := lv_entry ([.int p0, .int p1, .int p2]) (n := 3) (Nat.le_of_ble_eq_true rfl)
  rw [lg_entry_eq]
  generalize (lg_sl ([.int p0, .int p1, .int p2]) ++ List.replicate (3 - (lg_sl ([.int p0, .int p1, .int p2])).length) Slot.unset).toArray = ls at hl ⊢
  have hl : lv_has ls 3 [(0, .int p0), (1, .int p1), (2, .int p2)] := hl
  generalize hQ : MQ below (va_Qi (fun r (_ : Unit) => R = r) (fun _ _ => True) A) ([.int p0, .int p1, .int p2] : List Value).toArray s 0 0 A = Q9
  replace hQ := hQ.symm
  unfold f_X3_beyond at hM
  refine lv_iload_n hx hb dX3_beyond_0 rfl (lv_at hl 0 rfl) ?_
  refine lv_iload_n hx hb dX3_beyond_1 rfl (lv_at hl 1 rfl) ?_
  refine lv_icmp_ge (tgt := 11) hx hb dX3_beyond_2 (by decide) (fun q1 => ?_) (fun q1 => ?_)
  · replace hM := zx_t q1 hM
    refine lv_iload_n hx hb dX3_beyond_11 rfl (lv_at hl 0 rfl) ?_
    refine lv_iload_n hx hb dX3_beyond_12 rfl (lv_at hl 2 rfl) ?_
    refine lv_icmp_le (tgt := 22) hx hb dX3_beyond_13 (by decide) (fun q2 => ?_) (fun q2 => ?_)
    · replace hM := zx_t q2 hM
      refine lv_iconst (v := 0) hx hb dX3_beyond_22 (by decide) ?_
      rw [hQ]
      exact W.iret hx hb hr (fun t ht hW => ⟨⟨0, (), rfl, (Option.some.inj hM).symm, trivial⟩, hS.F ht⟩) hS.2.2 dX3_beyond_23
    · replace hM := zx_f q2 hM
      refine lv_iload_n hx hb dX3_beyond_16 rfl (lv_at hl 0 rfl) ?_
      refine lv_iload_n hx hb dX3_beyond_17 rfl (lv_at hl 2 rfl) ?_
      refine lv_isub hx hb dX3_beyond_18 ?_
      refine lv_goto (tgt := 23) hx hb dX3_beyond_19 (by decide) ?_
      rw [hQ]
      exact W.iret hx hb hr (fun t ht hW => ⟨⟨(p0 - p2), (), rfl, (Option.some.inj hM).symm, trivial⟩, hS.F ht⟩) hS.2.2 dX3_beyond_23
  · replace hM := zx_f q1 hM
    refine lv_iload_n hx hb dX3_beyond_5 rfl (lv_at hl 1 rfl) ?_
    refine lv_iload_n hx hb dX3_beyond_6 rfl (lv_at hl 0 rfl) ?_
    refine lv_isub hx hb dX3_beyond_7 ?_
    refine lv_goto (tgt := 23) hx hb dX3_beyond_8 (by decide) ?_
    rw [hQ]
    exact W.iret hx hb hr (fun t ht hW => ⟨⟨(p1 - p0), (), rfl, (Option.some.inj hM).symm, trivial⟩, hS.F ht⟩) hS.2.2 dX3_beyond_23

/-! ShallowBoxesModel.distance([IIII)I -/
def f_X3_distance (N : Nat) (n0 : Nat) (p1 : Int32) (p2 : Int32) (p3 : Int32) (f0 : (Nat → Int32)) : Option (Int32) :=
  (zx_rd n0 f0 ((5 * p1) + 1) (fun x1 =>
(zx_rd n0 f0 ((5 * p1) + 3) (fun x3 =>
(zx_b1 (f_X3_beyond N p2 x1 x3) (fun x5 =>
(zx_rd n0 f0 ((5 * p1) + 2) (fun x7 =>
(zx_rd n0 f0 ((5 * p1) + 4) (fun x9 =>
(zx_b1 (f_X3_beyond N p3 x7 x9) (fun x11 =>
some ((x5 * x5) + (x11 * x11))))))))))))))
abbrev rmX3_distance : Room := { frames := 1, cells := 0, slots := 0, locals := 22 }
abbrev zsX3_distance : List Cond := .code yX3_distance cX3_distance 6 (some .int) :: wsL_law
theorem zyX3_distance : yX3_distance.cls ≠ "java/lang/invoke/MethodHandle" ∧ yX3_distance.cls ≠ "java/lang/invoke/VarHandle" ∧ (parseMethodDescriptor yX3_distance.desc).map (fun d => d.parameters.length) = some 4 := by decide +kernel
set_option maxHeartbeats 4000000 in
set_option maxRecDepth 100000 in
theorem c_X3_distance (l : Launch) (D : va_G) (cI cZ cT : ClassId) (a0 n0 : Nat) (f0 : Nat → Int32) (sz : Nat) (N : Nat) (p1 : Int32) (p2 : Int32) (p3 : Int32) {R : Int32} (hM : f_X3_distance N n0 p1 p2 p3 f0 = some R) : Met l yX3_distance zsX3_distance rmX3_distance (va_Pc [.ref a0, .int p1, .int p2, .int p3] (bS D (zx_ty cI cZ cT) (pW1 cI a0 n0 f0) sz)) (va_Qi (fun r (_ : Unit) => R = r) (fun _ _ => True) (fun q => sz ≤ q)) 0 0 (fun q => sz ≤ q) := by
  refine Met.ofW (cc := cX3_distance) (maxL := 6) (ret := (some .int)) (by decide) rfl ?_
  intro p e s m args below meth c s₁ B hml hv
  obtain ⟨rfl, hsz, hP, hK, hD0, hN⟩ := hv
  have hx := B.exec
  have hb := B.bytes
  have hr := B.returns
  have hts : ∀ w ∈ wsL_law, w.before _ s = true := fun w hw => atoms_spec (ws := zsX3_distance) B.pre w (List.mem_cons_of_mem _ hw)
  have hown : s.vm.findClass RX3 = some m.cls := findClass_of_methodNamed B.named
  have hlocks := B.notSynchronized
  subst hsz
  generalize hAe : (fun q : Nat => s.heap.size ≤ q) = A
  have hA : ∀ q : Nat, s.heap.size ≤ q → A q := fun q h => by rw [← hAe]; exact h
  have hD := hD0
  have hS : va_S A s.heap s.heap [] := va_S.rf
  have hl := lv_entry ([.ref a0, .int p1, .int p2, .int p3]) (n := 6) (Nat.le_of_ble_eq_true rfl)
  rw [lg_entry_eq]
  generalize (lg_sl ([.ref a0, .int p1, .int p2, .int p3]) ++ List.replicate (6 - (lg_sl ([.ref a0, .int p1, .int p2, .int p3])).length) Slot.unset).toArray = ls at hl ⊢
  have hl : lv_has ls 6 [(0, .ref a0), (1, .int p1), (2, .int p2), (3, .int p3)] := hl
  generalize hQ : MQ below (va_Qi (fun r (_ : Unit) => R = r) (fun _ _ => True) A) ([.ref a0, .int p1, .int p2, .int p3] : List Value).toArray s 0 0 A = Q9
  replace hQ := hQ.symm
  unfold f_X3_distance at hM
  refine lv_iload_n hx hb dX3_distance_0 rfl (lv_at hl 2 rfl) ?_
  refine lv_aload_n hx hb dX3_distance_1 rfl (lv_at hl 0 rfl) ?_
  refine lv_iconst (v := 5) hx hb dX3_distance_2 (by decide) ?_
  refine lv_iload_n hx hb dX3_distance_3 rfl (lv_at hl 1 rfl) ?_
  refine lv_imul hx hb dX3_distance_4 ?_
  refine lv_iconst (v := 1) hx hb dX3_distance_5 (by decide) ?_
  refine lv_iadd hx hb dX3_distance_6 ?_
  obtain ⟨x1, q2, ex1, hM⟩ := zx_rdE hM
  refine va_iald (D := D) hx hb hK hP 0 0 rfl rfl q2 dX3_distance_7 ?_
  refine zx_top ex1 ?_
  refine lv_aload_n hx hb dX3_distance_8 rfl (lv_at hl 0 rfl) ?_
  refine lv_iconst (v := 5) hx hb dX3_distance_9 (by decide) ?_
  refine lv_iload_n hx hb dX3_distance_10 rfl (lv_at hl 1 rfl) ?_
  refine lv_imul hx hb dX3_distance_11 ?_
  refine lv_iconst (v := 3) hx hb dX3_distance_12 (by decide) ?_
  refine lv_iadd hx hb dX3_distance_13 ?_
  obtain ⟨x3, q4, ex3, hM⟩ := zx_rdE hM
  refine va_iald (D := D) hx hb hK hP 0 0 rfl rfl q4 dX3_distance_14 ?_
  refine zx_top ex3 ?_
  obtain ⟨x5, hz6, hM⟩ := zx_b1E hM
  refine va_calli (va_runS (As := [.int p2, .int x1, .int x3]) (rest := []) ⟨hx, hb, hml, hown, hts⟩ (c_X3_beyond l D cI cZ cT _ N p2 x1 x3 hz6) (va_cwS 3 hts (zg_S zw_29_16 zw_29_17 zw_1_5 zw_29_18) rfl rfl rfl zyX3_beyond ⟨Nat.le_of_ble_eq_true rfl, Nat.le_of_ble_eq_true rfl⟩) ⟨bS_blind, bS_pre (zx_P0 hP) hK (zx_D0 hD) hN⟩ rfl rfl hl.1 rfl (lv_room (Nat.le_of_ble_eq_true rfl)) dX3_distance_15 ⟨Nat.zero_le _, Nat.zero_le _⟩) hS (fun q h1 h2 => absurd h1 (Nat.not_lt.mpr h2)) (fun q h => hA q (Nat.le_trans hS.1 h)) (fun r u t H1 lc ht hvm hw hB hz1 hk1 hS => ?_)
  replace hw : x5 = r := hw; subst hw
  replace hP := zx_keep hP hk1
  refine lv_istore (lv' := [(4, .int x5), (0, .ref a0), (1, .int p1), (2, .int p2), (3, .int p3)]) hx hb dX3_distance_18 hl (by decide) rfl (fun ls hl => ?_)
  refine lv_iload_n hx hb dX3_distance_20 rfl (lv_at hl 4 rfl) ?_
  refine lv_aload_n hx hb dX3_distance_21 rfl (lv_at hl 1 rfl) ?_
  refine lv_iconst (v := 5) hx hb dX3_distance_22 (by decide) ?_
  refine lv_iload_n hx hb dX3_distance_23 rfl (lv_at hl 2 rfl) ?_
  refine lv_imul hx hb dX3_distance_24 ?_
  refine lv_iconst (v := 2) hx hb dX3_distance_25 (by decide) ?_
  refine lv_iadd hx hb dX3_distance_26 ?_
  obtain ⟨x7, q8, ex7, hM⟩ := zx_rdE hM
  refine va_iald (D := D) hx hb hK hP 0 0 rfl rfl q8 dX3_distance_27 ?_
  refine zx_top ex7 ?_
  refine lv_aload_n hx hb dX3_distance_28 rfl (lv_at hl 1 rfl) ?_
  refine lv_iconst (v := 5) hx hb dX3_distance_29 (by decide) ?_
  refine lv_iload_n hx hb dX3_distance_30 rfl (lv_at hl 2 rfl) ?_
  refine lv_imul hx hb dX3_distance_31 ?_
  refine lv_iconst (v := 4) hx hb dX3_distance_32 (by decide) ?_
  refine lv_iadd hx hb dX3_distance_33 ?_
  obtain ⟨x9, q10, ex9, hM⟩ := zx_rdE hM
  refine va_iald (D := D) hx hb hK hP 0 0 rfl rfl q10 dX3_distance_34 ?_
  refine zx_top ex9 ?_
  obtain ⟨x11, hz12, hM⟩ := zx_b1E hM
  refine va_calli (va_runS (As := [.int p3, .int x7, .int x9]) (rest := []) ⟨hx, hb, hml, hown, hts⟩ (c_X3_beyond l D cI cZ cT _ N p3 x7 x9 hz12) (va_cwS 3 hts (zg_S zw_29_16 zw_29_17 zw_1_5 zw_29_18) rfl rfl rfl zyX3_beyond ⟨Nat.le_of_ble_eq_true rfl, Nat.le_of_ble_eq_true rfl⟩) ⟨bS_blind, bS_pre (zx_P0 hP) hK (zx_D0 hD) hN⟩ rfl rfl hl.1 rfl (lv_room (Nat.le_of_ble_eq_true rfl)) dX3_distance_35 ⟨Nat.zero_le _, Nat.zero_le _⟩) hS (fun q h1 h2 => absurd h1 (Nat.not_lt.mpr h2)) (fun q h => hA q (Nat.le_trans hS.1 h)) (fun r u t H1 lc ht hvm hw hB hz1 hk1 hS => ?_)
  replace hw : x11 = r := hw; subst hw
  replace hP := zx_keep hP hk1
  refine lv_istore (lv' := [(5, .int x11), (4, .int x5), (0, .ref a0), (1, .int p1), (2, .int p2), (3, .int p3)]) hx hb dX3_distance_38 hl (by decide) rfl (fun ls hl => ?_)
  refine lv_iload hx hb dX3_distance_40 (lv_at hl 1 rfl) ?_
  refine lv_iload hx hb dX3_distance_42 (lv_at hl 1 rfl) ?_
  refine lv_imul hx hb dX3_distance_44 ?_
  refine lv_iload hx hb dX3_distance_45 (lv_at hl 0 rfl) ?_
  refine lv_iload hx hb dX3_distance_47 (lv_at hl 0 rfl) ?_
  refine lv_imul hx hb dX3_distance_49 ?_
  refine lv_iadd hx hb dX3_distance_50 ?_
  rw [hQ]
  exact W.iret hx hb hr (fun t ht hW => ⟨⟨((x5 * x5) + (x11 * x11)), (), rfl, (Option.some.inj hM).symm, trivial⟩, hS.F ht⟩) hS.2.2 dX3_distance_51

/-! ShallowBoxesModel.nearestOn([IIII)I -/
def f_X3_nearestOn_j107 (N : Nat) (n0 : Nat) (f0 : (Nat → Int32)) (k3 : Int32 → Int32 → Int32 → Int32 → Option (Int32)) (v1 : Int32) (v2 : Int32) (v3 : Int32) (v4 : Int32) : Option (Int32) :=
  (zx_n (v4 + 1) (fun x3 =>
k3 v1 v2 v3 x3))
def f_X3_nearestOn_j80 (N : Nat) (n0 : Nat) (f0 : (Nat → Int32)) (k3 : Int32 → Int32 → Int32 → Int32 → Option (Int32)) (k26 : Int32 → Int32 → Int32 → Int32 → Int32 → Int32 → Int32 → Option (Int32)) (v1 : Int32) (v2 : Int32) (v3 : Int32) (v4 : Int32) (v5 : Int32) (v7 : Int32) (t0 : Int32) (t1 : Int32) : Option (Int32) :=
  (zx_n (t0 + t1) (fun x8 =>
(zx_n (v7 + 1) (fun x9 =>
k26 v1 v2 v3 v4 v5 x8 x9))))
def f_X3_nearestOn_j79 (N : Nat) (n0 : Nat) (f0 : (Nat → Int32)) (k3 : Int32 → Int32 → Int32 → Int32 → Option (Int32)) (k26 : Int32 → Int32 → Int32 → Int32 → Int32 → Int32 → Int32 → Option (Int32)) (v1 : Int32) (v2 : Int32) (v3 : Int32) (v4 : Int32) (v5 : Int32) (v7 : Int32) (t0 : Int32) : Option (Int32) :=
  f_X3_nearestOn_j80 N n0 f0 k3 k26 v1 v2 v3 v4 v5 v7 t0 0
def f_X3_nearestOn_j75 (N : Nat) (n0 : Nat) (f0 : (Nat → Int32)) (k3 : Int32 → Int32 → Int32 → Int32 → Option (Int32)) (k26 : Int32 → Int32 → Int32 → Int32 → Int32 → Int32 → Int32 → Option (Int32)) (v1 : Int32) (v2 : Int32) (v3 : Int32) (v4 : Int32) (v5 : Int32) (v7 : Int32) (t0 : Int32) : Option (Int32) :=
  f_X3_nearestOn_j80 N n0 f0 k3 k26 v1 v2 v3 v4 v5 v7 t0 1
def f_X3_nearestOn_l26 (N : Nat) (n0 : Nat) (f0 : (Nat → Int32)) (k3 : Int32 → Int32 → Int32 → Int32 → Option (Int32)) : Nat → Int32 → Int32 → Int32 → Int32 → Int32 → Int32 → Int32 → Option (Int32)
  | 0, _, _, _, _, _, _, _ => none
  | n26 + 1, v1, v2, v3, v4, v5, v6, v7 => (if 24 ≤ v7 then
  (zx_b1 (f_X3_isThere N n0 v4 f0) (fun x4 =>
(if x4 = 0 then
  f_X3_nearestOn_j107 N n0 f0 k3 v1 v2 v3 v4 else
  (if v6 = v3 then
  some v4 else
  f_X3_nearestOn_j107 N n0 f0 k3 v1 v2 v3 v4)))) else
  (zx_b1 (f_X3_distance N n0 v7 v1 v2 f0) (fun x10 =>
(zx_b1 (f_X3_isThere N n0 v7 f0) (fun x12 =>
(if x12 = 0 then
  f_X3_nearestOn_j79 N n0 f0 k3 (f_X3_nearestOn_l26 N n0 f0 k3  n26) v1 v2 v3 v4 v5 v7 v6 else
  (if x10 < v5 then
  f_X3_nearestOn_j75 N n0 f0 k3 (f_X3_nearestOn_l26 N n0 f0 k3  n26) v1 v2 v3 v4 v5 v7 v6 else
  (if x10 = v5 then
  (if v4 ≤ v7 then
  f_X3_nearestOn_j79 N n0 f0 k3 (f_X3_nearestOn_l26 N n0 f0 k3  n26) v1 v2 v3 v4 v5 v7 v6 else
  f_X3_nearestOn_j75 N n0 f0 k3 (f_X3_nearestOn_l26 N n0 f0 k3  n26) v1 v2 v3 v4 v5 v7 v6) else
  f_X3_nearestOn_j79 N n0 f0 k3 (f_X3_nearestOn_l26 N n0 f0 k3  n26) v1 v2 v3 v4 v5 v7 v6))))))))
def f_X3_nearestOn_l3 (N : Nat) (n0 : Nat) (f0 : (Nat → Int32)) : Nat → Int32 → Int32 → Int32 → Int32 → Option (Int32)
  | 0, _, _, _, _ => none
  | n3 + 1, v1, v2, v3, v4 => (if 24 ≤ v4 then
  some (-1) else
  (zx_b1 (f_X3_distance N n0 v4 v1 v2 f0) (fun x18 =>
f_X3_nearestOn_l26 N n0 f0 (f_X3_nearestOn_l3 N n0 f0  n3) N v1 v2 v3 v4 x18 0 0)))
def f_X3_nearestOn (N : Nat) (n0 : Nat) (p1 : Int32) (p2 : Int32) (p3 : Int32) (f0 : (Nat → Int32)) : Option (Int32) :=
  f_X3_nearestOn_l3 N n0 f0  N p1 p2 p3 0
abbrev rmX3_nearestOn : Room := { frames := 2, cells := 0, slots := 0, locals := 47 }
abbrev zsX3_nearestOn : List Cond := .code yX3_nearestOn cX3_nearestOn 9 (some .int) :: wsL_law
theorem zyX3_nearestOn : yX3_nearestOn.cls ≠ "java/lang/invoke/MethodHandle" ∧ yX3_nearestOn.cls ≠ "java/lang/invoke/VarHandle" ∧ (parseMethodDescriptor yX3_nearestOn.desc).map (fun d => d.parameters.length) = some 4 := by decide +kernel
set_option maxHeartbeats 4000000 in
set_option maxRecDepth 100000 in
theorem c_X3_nearestOn (l : Launch) (D : va_G) (cI cZ cT : ClassId) (a0 n0 : Nat) (f0 : Nat → Int32) (sz : Nat) (N : Nat) (p1 : Int32) (p2 : Int32) (p3 : Int32) {R : Int32} (hM : f_X3_nearestOn N n0 p1 p2 p3 f0 = some R) : Met l yX3_nearestOn zsX3_nearestOn rmX3_nearestOn (va_Pc [.ref a0, .int p1, .int p2, .int p3] (bS D (zx_ty cI cZ cT) (pW1 cI a0 n0 f0) sz)) (va_Qi (fun r (_ : Unit) => R = r) (fun _ _ => True) (fun q => sz ≤ q)) 0 0 (fun q => sz ≤ q) := by
  refine Met.ofW (cc := cX3_nearestOn) (maxL := 9) (ret := (some .int)) (by decide) rfl ?_
  intro p e s m args below meth c s₁ B hml hv
  obtain ⟨rfl, hsz, hP, hK, hD0, hN⟩ := hv
  have hx := B.exec
  have hb := B.bytes
  have hr := B.returns
  have hts : ∀ w ∈ wsL_law, w.before _ s = true := fun w hw => atoms_spec (ws := zsX3_nearestOn) B.pre w (List.mem_cons_of_mem _ hw)
  have hown : s.vm.findClass RX3 = some m.cls := findClass_of_methodNamed B.named
  have hlocks := B.notSynchronized
  subst hsz
  generalize hAe : (fun q : Nat => s.heap.size ≤ q) = A
  have hA : ∀ q : Nat, s.heap.size ≤ q → A q := fun q h => by rw [← hAe]; exact h
  have hD := hD0
  have hS : va_S A s.heap s.heap [] := va_S.rf
  have hl := lv_entry ([.ref a0, .int p1, .int p2, .int p3]) (n := 9) (Nat.le_of_ble_eq_true rfl)
  rw [lg_entry_eq]
  generalize (lg_sl ([.ref a0, .int p1, .int p2, .int p3]) ++ List.replicate (9 - (lg_sl ([.ref a0, .int p1, .int p2, .int p3])).length) Slot.unset).toArray = ls at hl ⊢
  have hl : lv_has ls 9 [(0, .ref a0), (1, .int p1), (2, .int p2), (3, .int p3)] := hl
  generalize hQ : MQ below (va_Qi (fun r (_ : Unit) => R = r) (fun _ _ => True) A) ([.ref a0, .int p1, .int p2, .int p3] : List Value).toArray s 0 0 A = Q9
  replace hQ := hQ.symm
  unfold f_X3_nearestOn at hM
  have l3 : ∀ (n3 : Nat) (v1 : Int32) (v2 : Int32) (v3 : Int32) (v4 : Int32) (H : Heap) (lc : List Loc) (ls : Array Slot), va_P D vwCl (pW1 cI a0 n0 f0) H → va_S A s.heap H lc → lv_has ls 9 [(0, .ref a0), (1, .int v1), (2, .int v2), (3, .int v3), (4, .int v4)] → f_X3_nearestOn_l3 N n0 f0 n3 v1 v2 v3 v4 = some R → W p l e (headSpec zsX3_nearestOn rmX3_nearestOn).room s m ([.ref a0, .int p1, .int p2, .int p3] : List Value).toArray below meth c H lc 0 0 Q9 (F0 m 3 ls []) := by
    intro n3
    induction n3 with
    | zero =>
      intro v1 v2 v3 v4 H lc ls hP hS hl hM
      rw [f_X3_nearestOn_l3] at hM; exact absurd hM (by intro h; cases h)
    | succ n3 ih3 =>
      intro v1 v2 v3 v4 H lc ls hP hS hl hM
      rw [f_X3_nearestOn_l3] at hM
      refine lv_iload hx hb dX3_nearestOn_3 (lv_at hl 4 rfl) ?_
      refine lv_bipush (v := 24) hx hb dX3_nearestOn_5 (by decide) ?_
      refine lv_icmp_ge (tgt := 113) hx hb dX3_nearestOn_7 (by decide) (fun q1 => ?_) (fun q1 => ?_)
      · replace hM := zx_t q1 hM
        refine lv_iconst (v := (-1)) hx hb dX3_nearestOn_113 (by decide) ?_
        rw [hQ]
        exact W.iret hx hb hr (fun t ht hW => ⟨⟨(-1), (), rfl, (Option.some.inj hM).symm, trivial⟩, hS.F ht⟩) hS.2.2 dX3_nearestOn_114
      · replace hM := zx_f q1 hM
        have l26 : ∀ (n26 : Nat) (v1 : Int32) (v2 : Int32) (v3 : Int32) (v4 : Int32) (v5 : Int32) (v6 : Int32) (v7 : Int32) (H : Heap) (lc : List Loc) (ls : Array Slot), va_P D vwCl (pW1 cI a0 n0 f0) H → va_S A s.heap H lc → lv_has ls 9 [(0, .ref a0), (1, .int v1), (2, .int v2), (3, .int v3), (4, .int v4), (5, .int v5), (6, .int v6), (7, .int v7)] → f_X3_nearestOn_l26 N n0 f0 (f_X3_nearestOn_l3 N n0 f0  n3) n26 v1 v2 v3 v4 v5 v6 v7 = some R → W p l e (headSpec zsX3_nearestOn rmX3_nearestOn).room s m ([.ref a0, .int p1, .int p2, .int p3] : List Value).toArray below meth c H lc 0 0 Q9 (F0 m 26 ls []) := by
          intro n26
          induction n26 with
          | zero =>
            intro v1 v2 v3 v4 v5 v6 v7 H lc ls hP hS hl hM
            rw [f_X3_nearestOn_l26] at hM; exact absurd hM (by intro h; cases h)
          | succ n26 ih26 =>
            intro v1 v2 v3 v4 v5 v6 v7 H lc ls hP hS hl hM
            rw [f_X3_nearestOn_l26] at hM
            refine lv_iload hx hb dX3_nearestOn_26 (lv_at hl 7 rfl) ?_
            refine lv_bipush (v := 24) hx hb dX3_nearestOn_28 (by decide) ?_
            refine lv_icmp_ge (tgt := 89) hx hb dX3_nearestOn_30 (by decide) (fun q2 => ?_) (fun q2 => ?_)
            · replace hM := zx_t q2 hM
              have j107 : ∀ (v1 : Int32) (v2 : Int32) (v3 : Int32) (v4 : Int32) (H : Heap) (lc : List Loc) (ls : Array Slot), va_P D vwCl (pW1 cI a0 n0 f0) H → va_S A s.heap H lc → lv_has ls 9 [(0, .ref a0), (1, .int v1), (2, .int v2), (3, .int v3), (4, .int v4)] → f_X3_nearestOn_j107 N n0 f0 (f_X3_nearestOn_l3 N n0 f0  n3) v1 v2 v3 v4 = some R → W p l e (headSpec zsX3_nearestOn rmX3_nearestOn).room s m ([.ref a0, .int p1, .int p2, .int p3] : List Value).toArray below meth c H lc 0 0 Q9 (F0 m 107 ls []) := by
                intro v1 v2 v3 v4 H lc ls hP hS hl hM
                unfold f_X3_nearestOn_j107 at hM
                obtain ⟨x3, ex3, hM⟩ := zx_nE hM
                refine lv_iinc (v := x3) (lv' := [(4, .int x3), (0, .ref a0), (1, .int v1), (2, .int v2), (3, .int v3)]) hx hb dX3_nearestOn_107 hl (k := 4) rfl (by rw [ex3]; rfl) (by decide) rfl (fun ls hl => ?_)
                refine lv_goto (tgt := 3) hx hb dX3_nearestOn_110 (by decide) ?_
                exact ih3 v1 v2 v3 x3 _ _ _ hP hS (lv_sub hl [1, 2, 3, 4, 0] rfl) hM
              refine lv_aload_n hx hb dX3_nearestOn_89 rfl (lv_at hl 0 rfl) ?_
              refine lv_iload hx hb dX3_nearestOn_90 (lv_at hl 4 rfl) ?_
              obtain ⟨x4, hz5, hM⟩ := zx_b1E hM
              refine va_calli (va_runS (As := [.ref a0, .int v4]) (rest := []) ⟨hx, hb, hml, hown, hts⟩ (c_X3_isThere l D cI cZ cT a0 n0 f0 _ N v4 hz5) (va_cwS 2 hts (zg_S zw_16_14 zw_16_15 zw_1_5 zw_16_16) rfl rfl rfl zyX3_isThere ⟨Nat.le_of_ble_eq_true rfl, Nat.le_of_ble_eq_true rfl⟩) ⟨bS_blind, bS_pre (zx_P1 hP 0 (rfl)) hK (zx_D1 hD 0 (rfl)) hN⟩ rfl rfl hl.1 rfl (lv_room (Nat.le_of_ble_eq_true rfl)) dX3_nearestOn_92 ⟨Nat.zero_le _, Nat.zero_le _⟩) hS (fun q h1 h2 => absurd h1 (Nat.not_lt.mpr h2)) (fun q h => hA q (Nat.le_trans hS.1 h)) (fun r u t H1 lc ht hvm hw hB hz1 hk1 hS => ?_)
              replace hw : x4 = r := hw; subst hw
              replace hP := zx_keep hP hk1
              refine lv_if_eq (tgt := 107) hx hb dX3_nearestOn_95 (by decide) (fun q6 => ?_) (fun q6 => ?_)
              · replace hM := zx_t q6 hM
                exact j107 v1 v2 v3 v4 _ _ _ hP hS (lv_sub hl [0, 1, 2, 3, 4] rfl) hM
              · replace hM := zx_f q6 hM
                refine lv_iload hx hb dX3_nearestOn_98 (lv_at hl 6 rfl) ?_
                refine lv_iload_n hx hb dX3_nearestOn_100 rfl (lv_at hl 3 rfl) ?_
                refine lv_icmp_ne (tgt := 107) hx hb dX3_nearestOn_101 (by decide) (fun q7 => ?_) (fun q7 => ?_)
                · replace hM := zx_f q7 hM
                  exact j107 v1 v2 v3 v4 _ _ _ hP hS (lv_sub hl [0, 1, 2, 3, 4] rfl) hM
                · replace hM := zx_t q7 hM
                  refine lv_iload hx hb dX3_nearestOn_104 (lv_at hl 4 rfl) ?_
                  rw [hQ]
                  exact W.iret hx hb hr (fun t ht hW => ⟨⟨v4, (), rfl, (Option.some.inj hM).symm, trivial⟩, hS.F ht⟩) hS.2.2 dX3_nearestOn_106
            · replace hM := zx_f q2 hM
              have j80 : ∀ (v1 : Int32) (v2 : Int32) (v3 : Int32) (v4 : Int32) (v5 : Int32) (v7 : Int32) (t0 : Int32) (t1 : Int32) (H : Heap) (lc : List Loc) (ls : Array Slot), va_P D vwCl (pW1 cI a0 n0 f0) H → va_S A s.heap H lc → lv_has ls 9 [(0, .ref a0), (1, .int v1), (2, .int v2), (3, .int v3), (4, .int v4), (5, .int v5), (7, .int v7)] → f_X3_nearestOn_j80 N n0 f0 (f_X3_nearestOn_l3 N n0 f0  n3) (f_X3_nearestOn_l26 N n0 f0 (f_X3_nearestOn_l3 N n0 f0  n3)  n26) v1 v2 v3 v4 v5 v7 t0 t1 = some R → W p l e (headSpec zsX3_nearestOn rmX3_nearestOn).room s m ([.ref a0, .int p1, .int p2, .int p3] : List Value).toArray below meth c H lc 0 0 Q9 (F0 m 80 ls [.int t1, .int t0]) := by
                intro v1 v2 v3 v4 v5 v7 t0 t1 H lc ls hP hS hl hM
                unfold f_X3_nearestOn_j80 at hM
                refine lv_iadd hx hb dX3_nearestOn_80 ?_
                obtain ⟨x8, ex8, hM⟩ := zx_nE hM
                refine zx_top ex8 ?_
                refine lv_istore (lv' := [(6, .int x8), (0, .ref a0), (1, .int v1), (2, .int v2), (3, .int v3), (4, .int v4), (5, .int v5), (7, .int v7)]) hx hb dX3_nearestOn_81 hl (by decide) rfl (fun ls hl => ?_)
                obtain ⟨x9, ex9, hM⟩ := zx_nE hM
                refine lv_iinc (v := x9) (lv' := [(7, .int x9), (6, .int x8), (0, .ref a0), (1, .int v1), (2, .int v2), (3, .int v3), (4, .int v4), (5, .int v5)]) hx hb dX3_nearestOn_83 hl (k := 7) rfl (by rw [ex9]; rfl) (by decide) rfl (fun ls hl => ?_)
                refine lv_goto (tgt := 26) hx hb dX3_nearestOn_86 (by decide) ?_
                exact ih26 v1 v2 v3 v4 v5 x8 x9 _ _ _ hP hS (lv_sub hl [2, 3, 4, 5, 6, 7, 1, 0] rfl) hM
              have j79 : ∀ (v1 : Int32) (v2 : Int32) (v3 : Int32) (v4 : Int32) (v5 : Int32) (v7 : Int32) (t0 : Int32) (H : Heap) (lc : List Loc) (ls : Array Slot), va_P D vwCl (pW1 cI a0 n0 f0) H → va_S A s.heap H lc → lv_has ls 9 [(0, .ref a0), (1, .int v1), (2, .int v2), (3, .int v3), (4, .int v4), (5, .int v5), (7, .int v7)] → f_X3_nearestOn_j79 N n0 f0 (f_X3_nearestOn_l3 N n0 f0  n3) (f_X3_nearestOn_l26 N n0 f0 (f_X3_nearestOn_l3 N n0 f0  n3)  n26) v1 v2 v3 v4 v5 v7 t0 = some R → W p l e (headSpec zsX3_nearestOn rmX3_nearestOn).room s m ([.ref a0, .int p1, .int p2, .int p3] : List Value).toArray below meth c H lc 0 0 Q9 (F0 m 79 ls [.int t0]) := by
                intro v1 v2 v3 v4 v5 v7 t0 H lc ls hP hS hl hM
                unfold f_X3_nearestOn_j79 at hM
                refine lv_iconst (v := 0) hx hb dX3_nearestOn_79 (by decide) ?_
                exact j80 v1 v2 v3 v4 v5 v7 t0 0 _ _ _ hP hS (lv_sub hl [0, 1, 2, 3, 4, 5, 6] rfl) hM
              refine lv_aload_n hx hb dX3_nearestOn_33 rfl (lv_at hl 0 rfl) ?_
              refine lv_iload hx hb dX3_nearestOn_34 (lv_at hl 7 rfl) ?_
              refine lv_iload_n hx hb dX3_nearestOn_36 rfl (lv_at hl 1 rfl) ?_
              refine lv_iload_n hx hb dX3_nearestOn_37 rfl (lv_at hl 2 rfl) ?_
              obtain ⟨x10, hz11, hM⟩ := zx_b1E hM
              refine va_calli (va_runS (As := [.ref a0, .int v7, .int v1, .int v2]) (rest := []) ⟨hx, hb, hml, hown, hts⟩ (c_X3_distance l D cI cZ cT a0 n0 f0 _ N v7 v1 v2 hz11) (va_cwS 4 hts (zg_S zw_29_13 zw_29_14 zw_1_5 zw_29_15) rfl rfl rfl zyX3_distance ⟨Nat.le_of_ble_eq_true rfl, Nat.le_of_ble_eq_true rfl⟩) ⟨bS_blind, bS_pre (zx_P1 hP 0 (rfl)) hK (zx_D1 hD 0 (rfl)) hN⟩ rfl rfl hl.1 rfl (lv_room (Nat.le_of_ble_eq_true rfl)) dX3_nearestOn_38 ⟨Nat.zero_le _, Nat.zero_le _⟩) hS (fun q h1 h2 => absurd h1 (Nat.not_lt.mpr h2)) (fun q h => hA q (Nat.le_trans hS.1 h)) (fun r u t H1 lc ht hvm hw hB hz1 hk1 hS => ?_)
              replace hw : x10 = r := hw; subst hw
              replace hP := zx_keep hP hk1
              refine lv_istore (lv' := [(8, .int x10), (0, .ref a0), (1, .int v1), (2, .int v2), (3, .int v3), (4, .int v4), (5, .int v5), (6, .int v6), (7, .int v7)]) hx hb dX3_nearestOn_41 hl (by decide) rfl (fun ls hl => ?_)
              refine lv_iload hx hb dX3_nearestOn_43 (lv_at hl 7 rfl) ?_
              refine lv_aload_n hx hb dX3_nearestOn_45 rfl (lv_at hl 1 rfl) ?_
              refine lv_iload hx hb dX3_nearestOn_46 (lv_at hl 8 rfl) ?_
              obtain ⟨x12, hz13, hM⟩ := zx_b1E hM
              refine va_calli (va_runS (As := [.ref a0, .int v7]) (rest := [.int v6]) ⟨hx, hb, hml, hown, hts⟩ (c_X3_isThere l D cI cZ cT a0 n0 f0 _ N v7 hz13) (va_cwS 2 hts (zg_S zw_16_14 zw_16_15 zw_1_5 zw_16_16) rfl rfl rfl zyX3_isThere ⟨Nat.le_of_ble_eq_true rfl, Nat.le_of_ble_eq_true rfl⟩) ⟨bS_blind, bS_pre (zx_P1 hP 0 (rfl)) hK (zx_D1 hD 0 (rfl)) hN⟩ rfl rfl hl.1 rfl (lv_room (Nat.le_of_ble_eq_true rfl)) dX3_nearestOn_48 ⟨Nat.zero_le _, Nat.zero_le _⟩) hS (fun q h1 h2 => absurd h1 (Nat.not_lt.mpr h2)) (fun q h => hA q (Nat.le_trans hS.1 h)) (fun r u t H1 lc ht hvm hw hB hz1 hk1 hS => ?_)
              replace hw : x12 = r := hw; subst hw
              replace hP := zx_keep hP hk1
              refine lv_if_eq (tgt := 79) hx hb dX3_nearestOn_51 (by decide) (fun q14 => ?_) (fun q14 => ?_)
              · replace hM := zx_t q14 hM
                exact j79 v1 v2 v3 v4 v5 v7 v6 _ _ _ hP hS (lv_sub hl [1, 2, 3, 4, 5, 6, 8] rfl) hM
              · replace hM := zx_f q14 hM
                have j75 : ∀ (v1 : Int32) (v2 : Int32) (v3 : Int32) (v4 : Int32) (v5 : Int32) (v7 : Int32) (t0 : Int32) (H : Heap) (lc : List Loc) (ls : Array Slot), va_P D vwCl (pW1 cI a0 n0 f0) H → va_S A s.heap H lc → lv_has ls 9 [(0, .ref a0), (1, .int v1), (2, .int v2), (3, .int v3), (4, .int v4), (5, .int v5), (7, .int v7)] → f_X3_nearestOn_j75 N n0 f0 (f_X3_nearestOn_l3 N n0 f0  n3) (f_X3_nearestOn_l26 N n0 f0 (f_X3_nearestOn_l3 N n0 f0  n3)  n26) v1 v2 v3 v4 v5 v7 t0 = some R → W p l e (headSpec zsX3_nearestOn rmX3_nearestOn).room s m ([.ref a0, .int p1, .int p2, .int p3] : List Value).toArray below meth c H lc 0 0 Q9 (F0 m 75 ls [.int t0]) := by
                  intro v1 v2 v3 v4 v5 v7 t0 H lc ls hP hS hl hM
                  unfold f_X3_nearestOn_j75 at hM
                  refine lv_iconst (v := 1) hx hb dX3_nearestOn_75 (by decide) ?_
                  refine lv_goto (tgt := 80) hx hb dX3_nearestOn_76 (by decide) ?_
                  exact j80 v1 v2 v3 v4 v5 v7 t0 1 _ _ _ hP hS (lv_sub hl [0, 1, 2, 3, 4, 5, 6] rfl) hM
                refine lv_iload hx hb dX3_nearestOn_54 (lv_at hl 0 rfl) ?_
                refine lv_iload hx hb dX3_nearestOn_56 (lv_at hl 6 rfl) ?_
                refine lv_icmp_lt (tgt := 75) hx hb dX3_nearestOn_58 (by decide) (fun q15 => ?_) (fun q15 => ?_)
                · replace hM := zx_t q15 hM
                  exact j75 v1 v2 v3 v4 v5 v7 v6 _ _ _ hP hS (lv_sub hl [1, 2, 3, 4, 5, 6, 8] rfl) hM
                · replace hM := zx_f q15 hM
                  refine lv_iload hx hb dX3_nearestOn_61 (lv_at hl 0 rfl) ?_
                  refine lv_iload hx hb dX3_nearestOn_63 (lv_at hl 6 rfl) ?_
                  refine lv_icmp_ne (tgt := 79) hx hb dX3_nearestOn_65 (by decide) (fun q16 => ?_) (fun q16 => ?_)
                  · replace hM := zx_f q16 hM
                    exact j79 v1 v2 v3 v4 v5 v7 v6 _ _ _ hP hS (lv_sub hl [1, 2, 3, 4, 5, 6, 8] rfl) hM
                  · replace hM := zx_t q16 hM
                    refine lv_iload hx hb dX3_nearestOn_68 (lv_at hl 8 rfl) ?_
                    refine lv_iload hx hb dX3_nearestOn_70 (lv_at hl 5 rfl) ?_
                    refine lv_icmp_ge (tgt := 79) hx hb dX3_nearestOn_72 (by decide) (fun q17 => ?_) (fun q17 => ?_)
                    · replace hM := zx_t q17 hM
                      exact j79 v1 v2 v3 v4 v5 v7 v6 _ _ _ hP hS (lv_sub hl [1, 2, 3, 4, 5, 6, 8] rfl) hM
                    · replace hM := zx_f q17 hM
                      exact j75 v1 v2 v3 v4 v5 v7 v6 _ _ _ hP hS (lv_sub hl [1, 2, 3, 4, 5, 6, 8] rfl) hM
        refine lv_aload_n hx hb dX3_nearestOn_10 rfl (lv_at hl 0 rfl) ?_
        refine lv_iload hx hb dX3_nearestOn_11 (lv_at hl 4 rfl) ?_
        refine lv_iload_n hx hb dX3_nearestOn_13 rfl (lv_at hl 1 rfl) ?_
        refine lv_iload_n hx hb dX3_nearestOn_14 rfl (lv_at hl 2 rfl) ?_
        obtain ⟨x18, hz19, hM⟩ := zx_b1E hM
        refine va_calli (va_runS (As := [.ref a0, .int v4, .int v1, .int v2]) (rest := []) ⟨hx, hb, hml, hown, hts⟩ (c_X3_distance l D cI cZ cT a0 n0 f0 _ N v4 v1 v2 hz19) (va_cwS 4 hts (zg_S zw_29_13 zw_29_14 zw_1_5 zw_29_15) rfl rfl rfl zyX3_distance ⟨Nat.le_of_ble_eq_true rfl, Nat.le_of_ble_eq_true rfl⟩) ⟨bS_blind, bS_pre (zx_P1 hP 0 (rfl)) hK (zx_D1 hD 0 (rfl)) hN⟩ rfl rfl hl.1 rfl (lv_room (Nat.le_of_ble_eq_true rfl)) dX3_nearestOn_15 ⟨Nat.zero_le _, Nat.zero_le _⟩) hS (fun q h1 h2 => absurd h1 (Nat.not_lt.mpr h2)) (fun q h => hA q (Nat.le_trans hS.1 h)) (fun r u t H1 lc ht hvm hw hB hz1 hk1 hS => ?_)
        replace hw : x18 = r := hw; subst hw
        replace hP := zx_keep hP hk1
        refine lv_istore (lv' := [(5, .int x18), (0, .ref a0), (1, .int v1), (2, .int v2), (3, .int v3), (4, .int v4)]) hx hb dX3_nearestOn_18 hl (by decide) rfl (fun ls hl => ?_)
        refine lv_iconst (v := 0) hx hb dX3_nearestOn_20 (by decide) ?_
        refine lv_istore (lv' := [(6, .int 0), (5, .int x18), (0, .ref a0), (1, .int v1), (2, .int v2), (3, .int v3), (4, .int v4)]) hx hb dX3_nearestOn_21 hl (by decide) rfl (fun ls hl => ?_)
        refine lv_iconst (v := 0) hx hb dX3_nearestOn_23 (by decide) ?_
        refine lv_istore (lv' := [(7, .int 0), (6, .int 0), (5, .int x18), (0, .ref a0), (1, .int v1), (2, .int v2), (3, .int v3), (4, .int v4)]) hx hb dX3_nearestOn_24 hl (by decide) rfl (fun ls hl => ?_)
        exact l26 N v1 v2 v3 v4 x18 0 0 _ _ _ hP hS (lv_sub hl [3, 4, 5, 6, 7, 2, 1, 0] rfl) hM
  refine lv_iconst (v := 0) hx hb dX3_nearestOn_0 (by decide) ?_
  refine lv_istore (lv' := [(4, .int 0), (0, .ref a0), (1, .int p1), (2, .int p2), (3, .int p3)]) hx hb dX3_nearestOn_1 hl (by decide) rfl (fun ls hl => ?_)
  exact l3 N p1 p2 p3 0 _ _ _ hP hS (lv_sub hl [1, 2, 3, 4, 0] rfl) hM

/-! ShallowBoxesModel.isCell(II)Z -/
def f_X3_isCell (N : Nat) (p0 : Int32) (p1 : Int32) : Option (Int32) :=
  (zx_b1 (f_X3_in N (Int32.toInt64 p0) 0 99) (fun x1 =>
(if x1 = 0 then
  some 0 else
  (zx_b1 (f_X3_in N (Int32.toInt64 p1) 0 99) (fun x4 =>
(if x4 = 0 then
  some 0 else
  some 1))))))
abbrev rmX3_isCell : Room := { frames := 1, cells := 0, slots := 0, locals := 25 }
abbrev zsX3_isCell : List Cond := .code yX3_isCell cX3_isCell 2 (some .boolean) :: wsL_law
theorem zyX3_isCell : yX3_isCell.cls ≠ "java/lang/invoke/MethodHandle" ∧ yX3_isCell.cls ≠ "java/lang/invoke/VarHandle" ∧ (parseMethodDescriptor yX3_isCell.desc).map (fun d => d.parameters.length) = some 2 := by decide +kernel
set_option maxHeartbeats 4000000 in
set_option maxRecDepth 100000 in
theorem c_X3_isCell (l : Launch) (D : va_G) (cI cZ cT : ClassId) (sz : Nat) (N : Nat) (p0 : Int32) (p1 : Int32) {R : Int32} (hM : f_X3_isCell N p0 p1 = some R) : Met l yX3_isCell zsX3_isCell rmX3_isCell (va_Pc [.int p0, .int p1] (bS D (zx_ty cI cZ cT) [] sz)) (va_Qi (fun r (_ : Unit) => R = r) (fun _ _ => True) (fun q => sz ≤ q)) 0 0 (fun q => sz ≤ q) := by
  refine Met.ofW (cc := cX3_isCell) (maxL := 2) (ret := (some .boolean)) (by decide) rfl ?_
  intro p e s m args below meth c s₁ B hml hv
  obtain ⟨rfl, hsz, hP, hK, hD0, hN⟩ := hv
  have hx := B.exec
  have hb := B.bytes
  have hr := B.returns
  have hts : ∀ w ∈ wsL_law, w.before _ s = true := fun w hw => atoms_spec (ws := zsX3_isCell) B.pre w (List.mem_cons_of_mem _ hw)
  have hown : s.vm.findClass RX3 = some m.cls := findClass_of_methodNamed B.named
  have hlocks := B.notSynchronized
  subst hsz
  generalize hAe : (fun q : Nat => s.heap.size ≤ q) = A
  have hA : ∀ q : Nat, s.heap.size ≤ q → A q := fun q h => by rw [← hAe]; exact h
  have hD := hD0
  have hS : va_S A s.heap s.heap [] := va_S.rf
  have hl := lv_entry ([.int p0, .int p1]) (n := 2) (Nat.le_of_ble_eq_true rfl)
  rw [lg_entry_eq]
  generalize (lg_sl ([.int p0, .int p1]) ++ List.replicate (2 - (lg_sl ([.int p0, .int p1])).length) Slot.unset).toArray = ls at hl ⊢
  have hl : lv_has ls 2 [(0, .int p0), (1, .int p1)] := hl
  generalize hQ : MQ below (va_Qi (fun r (_ : Unit) => R = r) (fun _ _ => True) A) ([.int p0, .int p1] : List Value).toArray s 0 0 A = Q9
  replace hQ := hQ.symm
  unfold f_X3_isCell at hM
  refine lv_iload_n hx hb dX3_isCell_0 rfl (lv_at hl 0 rfl) ?_
  refine lv_i2l hx hb dX3_isCell_1 rfl ?_
  refine lv_lconst (v := 0) hx hb dX3_isCell_2 (by decide) ?_
  refine lv_ldc2 (v := 99) hx hb hown (hts _ zw_22_22) dX3_isCell_3 ?_
  obtain ⟨x1, hz2, hM⟩ := zx_b1E hM
  refine va_calli (va_runS (As := [.long (Int32.toInt64 p0), .long 0, .long 99]) (rest := []) ⟨hx, hb, hml, hown, hts⟩ (c_X3_in l D cI cZ cT _ N (Int32.toInt64 p0) 0 99 hz2) (va_cwS 3 hts (zg_S zw_5_11 zw_5_12 zw_1_5 zw_5_13) rfl rfl rfl zyX3_in ⟨Nat.le_of_ble_eq_true rfl, Nat.le_of_ble_eq_true rfl⟩) ⟨bS_blind, bS_pre (zx_P0 hP) hK (zx_D0 hD) hN⟩ rfl rfl hl.1 rfl (lv_room (Nat.le_of_ble_eq_true rfl)) dX3_isCell_6 ⟨Nat.zero_le _, Nat.zero_le _⟩) hS (fun q h1 h2 => absurd h1 (Nat.not_lt.mpr h2)) (fun q h => hA q (Nat.le_trans hS.1 h)) (fun r u t H1 lc ht hvm hw hB hz1 hk1 hS => ?_)
  replace hw : x1 = r := hw; subst hw
  replace hP := zx_keep hP hk1
  refine lv_if_eq (tgt := 28) hx hb dX3_isCell_9 (by decide) (fun q3 => ?_) (fun q3 => ?_)
  · replace hM := zx_t q3 hM
    refine lv_iconst (v := 0) hx hb dX3_isCell_28 (by decide) ?_
    rw [hQ]
    exact W.zret hx hb hr (by rfl) (fun t ht hW => ⟨⟨0, (), rfl, (Option.some.inj hM).symm, trivial⟩, hS.F ht⟩) hS.2.2 dX3_isCell_29
  · replace hM := zx_f q3 hM
    refine lv_iload_n hx hb dX3_isCell_12 rfl (lv_at hl 1 rfl) ?_
    refine lv_i2l hx hb dX3_isCell_13 rfl ?_
    refine lv_lconst (v := 0) hx hb dX3_isCell_14 (by decide) ?_
    refine lv_ldc2 (v := 99) hx hb hown (hts _ zw_22_22) dX3_isCell_15 ?_
    obtain ⟨x4, hz5, hM⟩ := zx_b1E hM
    refine va_calli (va_runS (As := [.long (Int32.toInt64 p1), .long 0, .long 99]) (rest := []) ⟨hx, hb, hml, hown, hts⟩ (c_X3_in l D cI cZ cT _ N (Int32.toInt64 p1) 0 99 hz5) (va_cwS 3 hts (zg_S zw_5_11 zw_5_12 zw_1_5 zw_5_13) rfl rfl rfl zyX3_in ⟨Nat.le_of_ble_eq_true rfl, Nat.le_of_ble_eq_true rfl⟩) ⟨bS_blind, bS_pre (zx_P0 hP) hK (zx_D0 hD) hN⟩ rfl rfl hl.1 rfl (lv_room (Nat.le_of_ble_eq_true rfl)) dX3_isCell_18 ⟨Nat.zero_le _, Nat.zero_le _⟩) hS (fun q h1 h2 => absurd h1 (Nat.not_lt.mpr h2)) (fun q h => hA q (Nat.le_trans hS.1 h)) (fun r u t H1 lc ht hvm hw hB hz1 hk1 hS => ?_)
    replace hw : x4 = r := hw; subst hw
    replace hP := zx_keep hP hk1
    refine lv_if_eq (tgt := 28) hx hb dX3_isCell_21 (by decide) (fun q6 => ?_) (fun q6 => ?_)
    · replace hM := zx_t q6 hM
      refine lv_iconst (v := 0) hx hb dX3_isCell_28 (by decide) ?_
      rw [hQ]
      exact W.zret hx hb hr (by rfl) (fun t ht hW => ⟨⟨0, (), rfl, (Option.some.inj hM).symm, trivial⟩, hS.F ht⟩) hS.2.2 dX3_isCell_29
    · replace hM := zx_f q6 hM
      refine lv_iconst (v := 1) hx hb dX3_isCell_24 (by decide) ?_
      refine lv_goto (tgt := 29) hx hb dX3_isCell_25 (by decide) ?_
      rw [hQ]
      exact W.zret hx hb hr (by rfl) (fun t ht hW => ⟨⟨1, (), rfl, (Option.some.inj hM).symm, trivial⟩, hS.F ht⟩) hS.2.2 dX3_isCell_29

/-! ShallowBoxesModel.nearest(III)I -/
def f_X3_nearest_j18 (N : Nat) (v1 : Int32) (v2 : Int32) (v3 : Int32) (t1 : Int32) (S_ : zx_S) : Option (Int32 × zx_S) :=
  (zx_b2 (f_X3_refused N t1 S_) (fun x1 T2 =>
(if x1 = 0 then
  (zx_b1 (f_X3_nearestOn N 380 v1 v2 v3 (T2 1)) (fun x5 =>
some (x5, T2))) else
  some (0, T2))))
def f_X3_nearest_j17 (N : Nat) (v1 : Int32) (v2 : Int32) (v3 : Int32) (S_ : zx_S) : Option (Int32 × zx_S) :=
  f_X3_nearest_j18 N  v1 v2 v3 1 S_
def f_X3_nearest (N : Nat) (p1 : Int32) (p2 : Int32) (p3 : Int32) (S : zx_S) : Option (Int32 × zx_S) :=
  (zx_b1 (f_X3_isCell N p1 p2) (fun x7 =>
(if x7 = 0 then
  f_X3_nearest_j17 N  p1 p2 p3 S else
  (if p3 < 0 then
  f_X3_nearest_j17 N  p1 p2 p3 S else
  f_X3_nearest_j18 N  p1 p2 p3 0 S))))
abbrev rmX3_nearest : Room := { frames := 3, cells := 0, slots := 0, locals := 75 }
abbrev zsX3_nearest : List Cond := .code yX3_nearest cX3_nearest 4 (some .int) :: wsL_law
theorem zyX3_nearest : yX3_nearest.cls ≠ "java/lang/invoke/MethodHandle" ∧ yX3_nearest.cls ≠ "java/lang/invoke/VarHandle" ∧ (parseMethodDescriptor yX3_nearest.desc).map (fun d => d.parameters.length) = some 3 := by decide +kernel
set_option maxHeartbeats 4000000 in
set_option maxRecDepth 100000 in
theorem c_X3_nearest (l : Launch) (D : va_G) (cI cZ cT : ClassId) (h : Nat) (ad : Nat → Nat) (S : zx_S) (sz : Nat) (N : Nat) (p1 : Int32) (p2 : Int32) (p3 : Int32) {R : Int32 × zx_S} (hM : f_X3_nearest N p1 p2 p3 S = some R) : Met l yX3_nearest zsX3_nearest rmX3_nearest (va_Pc [.ref h, .int p1, .int p2, .int p3] (bS D (zx_ty cI cZ cT) (xW3 cI cZ h ad S) sz)) (va_Qi (fun r u => R = (r, u)) (fun u t => va_P D vwCl (xW3 cI cZ h ad u) t.heap) (va_A (xW3 cI cZ h ad S) sz)) 0 0 (va_A (xW3 cI cZ h ad S) sz) := by
  refine Met.ofW (cc := cX3_nearest) (maxL := 4) (ret := (some .int)) (by decide) rfl ?_
  intro p e s m args below meth c s₁ B hml hv
  obtain ⟨rfl, hsz, hP, hK, hD0, hN⟩ := hv
  have hx := B.exec
  have hb := B.bytes
  have hr := B.returns
  have hts : ∀ w ∈ wsL_law, w.before _ s = true := fun w hw => atoms_spec (ws := zsX3_nearest) B.pre w (List.mem_cons_of_mem _ hw)
  have hown : s.vm.findClass RX3 = some m.cls := findClass_of_methodNamed B.named
  have hlocks := B.notSynchronized
  subst hsz
  have hD := hD0.self (sz := s.heap.size)
  generalize hAe : va_A (xW3 cI cZ h ad S) s.heap.size = A at hD ⊢
  have hA : ∀ q : Nat, s.heap.size ≤ q → A q := fun q h => by rw [← hAe]; exact Or.inr h
  have hS : va_S A s.heap s.heap [] := va_S.rf
  have hl := lv_entry ([.ref h, .int p1, .int p2, .int p3]) (n := 4) (Nat.le_of_ble_eq_true rfl)
  rw [lg_entry_eq]
  generalize (lg_sl ([.ref h, .int p1, .int p2, .int p3]) ++ List.replicate (4 - (lg_sl ([.ref h, .int p1, .int p2, .int p3])).length) Slot.unset).toArray = ls at hl ⊢
  have hl : lv_has ls 4 [(0, .ref h), (1, .int p1), (2, .int p2), (3, .int p3)] := hl
  generalize hQ : MQ below (va_Qi (fun r u => R = (r, u)) (fun u t => va_P D vwCl (xW3 cI cZ h ad u) t.heap) A) ([.ref h, .int p1, .int p2, .int p3] : List Value).toArray s 0 0 A = Q9
  replace hQ := hQ.symm
  unfold f_X3_nearest at hM
  have j18 : ∀ (v1 : Int32) (v2 : Int32) (v3 : Int32) (t1 : Int32) (S_ : zx_S) (H : Heap) (lc : List Loc) (ls : Array Slot), va_P D vwCl (xW3 cI cZ h ad S_) H → va_D A (xW3 cI cZ h ad S_) → va_S A s.heap H lc → lv_has ls 4 [(0, .ref h), (1, .int v1), (2, .int v2), (3, .int v3)] → f_X3_nearest_j18 N v1 v2 v3 t1 S_ = some R → W p l e (headSpec zsX3_nearest rmX3_nearest).room s m ([.ref h, .int p1, .int p2, .int p3] : List Value).toArray below meth c H lc 0 0 Q9 (F0 m 18 ls [.int t1, .ref h]) := by
    intro v1 v2 v3 t1 S_ H lc ls hP hD hS hl hM
    unfold f_X3_nearest_j18 at hM
    obtain ⟨x1, T2, hz3, hM⟩ := zx_b2E hM
    refine va_calli (va_runV (As := [.int t1]) (rest := []) ⟨hx, hb, hml, hown, hts⟩ (c_X3_refused l D cI cZ cT h ad S_ _ N t1  hz3) (cwV 1 hts (zg_V zw_5_14 zw_5_15 zw_5_16 zw_1_5 zw_5_17) rfl rfl rfl ⟨rfl, zyX3_refused⟩ ⟨Nat.le_of_ble_eq_true rfl, Nat.le_of_ble_eq_true rfl⟩) ⟨bS_blind, va_recv hK hP (ci := 3) (q0 := 0) rfl rfl, bS_pre hP hK hD hN⟩ rfl rfl hl.1 rfl (lv_room (Nat.le_of_ble_eq_true rfl)) dX3_nearest_18 ⟨Nat.zero_le _, Nat.zero_le _⟩) hS (fun q _ h => zx_fW hD hS hA q h) (fun q h => zx_fW hD hS hA q h) (fun r u t H1 lc ht hvm hw hB hz1 hk1 hS => ?_)
    obtain ⟨hw1, hw2⟩ := Prod.mk.inj hw; subst hw1; subst hw2
    rw [ht] at hB
    replace hP := hB
    replace hD := xW3_D T2 hD
    refine lv_if_eq (tgt := 26) hx hb dX3_nearest_21 (by decide) (fun q4 => ?_) (fun q4 => ?_)
    · replace hM := zx_t q4 hM
      refine lv_aload_n hx hb dX3_nearest_26 rfl (lv_at hl 0 rfl) ?_
      refine va_get (D := D) (ci := 3) (v := .ref (ad 1)) (C := RX3) (T := TX3) (N := 20) hx hb hts inlX3 hown hK hP 0 rfl rfl 3 (by decide) (hts _ zw_3_19) (fun _ h9 => h9) rfl dX3_nearest_27 ?_
      refine lv_iload_n hx hb dX3_nearest_30 rfl (lv_at hl 1 rfl) ?_
      refine lv_iload_n hx hb dX3_nearest_31 rfl (lv_at hl 2 rfl) ?_
      refine lv_iload_n hx hb dX3_nearest_32 rfl (lv_at hl 3 rfl) ?_
      obtain ⟨x5, hz6, hM⟩ := zx_b1E hM
      refine va_calli (va_runS (As := [.ref (ad 1), .int v1, .int v2, .int v3]) (rest := []) ⟨hx, hb, hml, hown, hts⟩ (c_X3_nearestOn l D cI cZ cT (ad 1) 380 (T2 1) _ N v1 v2 v3 hz6) (va_cwS 4 hts (zg_S zw_29_10 zw_29_11 zw_1_5 zw_29_12) rfl rfl rfl zyX3_nearestOn ⟨Nat.le_of_ble_eq_true rfl, Nat.le_of_ble_eq_true rfl⟩) ⟨bS_blind, bS_pre (zx_P1 hP 2 (rfl)) hK (zx_D1 hD 2 (rfl)) hN⟩ rfl rfl hl.1 rfl (lv_room (Nat.le_of_ble_eq_true rfl)) dX3_nearest_33 ⟨Nat.zero_le _, Nat.zero_le _⟩) hS (fun q h1 h2 => absurd h1 (Nat.not_lt.mpr h2)) (fun q h => hA q (Nat.le_trans hS.1 h)) (fun r u t H1 lc ht hvm hw hB hz1 hk1 hS => ?_)
      replace hw : x5 = r := hw; subst hw
      replace hP := zx_keep hP hk1
      rw [hQ]
      exact W.iret hx hb hr (fun t ht hW => ⟨⟨x5, T2, rfl, (Option.some.inj hM).symm, by show va_P D vwCl _ t.heap; rw [ht]; exact hP⟩, hS.F ht⟩) hS.2.2 dX3_nearest_36
    · replace hM := zx_f q4 hM
      refine lv_iconst (v := 0) hx hb dX3_nearest_24 (by decide) ?_
      rw [hQ]
      exact W.iret hx hb hr (fun t ht hW => ⟨⟨0, T2, rfl, (Option.some.inj hM).symm, by show va_P D vwCl _ t.heap; rw [ht]; exact hP⟩, hS.F ht⟩) hS.2.2 dX3_nearest_25
  have j17 : ∀ (v1 : Int32) (v2 : Int32) (v3 : Int32) (S_ : zx_S) (H : Heap) (lc : List Loc) (ls : Array Slot), va_P D vwCl (xW3 cI cZ h ad S_) H → va_D A (xW3 cI cZ h ad S_) → va_S A s.heap H lc → lv_has ls 4 [(0, .ref h), (1, .int v1), (2, .int v2), (3, .int v3)] → f_X3_nearest_j17 N v1 v2 v3 S_ = some R → W p l e (headSpec zsX3_nearest rmX3_nearest).room s m ([.ref h, .int p1, .int p2, .int p3] : List Value).toArray below meth c H lc 0 0 Q9 (F0 m 17 ls [.ref h]) := by
    intro v1 v2 v3 S_ H lc ls hP hD hS hl hM
    unfold f_X3_nearest_j17 at hM
    refine lv_iconst (v := 1) hx hb dX3_nearest_17 (by decide) ?_
    exact j18 v1 v2 v3 1 S_ _ _ _ hP hD hS (lv_sub hl [0, 1, 2, 3] rfl) hM
  refine lv_aload_n hx hb dX3_nearest_0 rfl (lv_at hl 0 rfl) ?_
  refine lv_iload_n hx hb dX3_nearest_1 rfl (lv_at hl 1 rfl) ?_
  refine lv_iload_n hx hb dX3_nearest_2 rfl (lv_at hl 2 rfl) ?_
  obtain ⟨x7, hz8, hM⟩ := zx_b1E hM
  refine va_calli (va_runS (As := [.int p1, .int p2]) (rest := [.ref h]) ⟨hx, hb, hml, hown, hts⟩ (c_X3_isCell l D cI cZ cT _ N p1 p2 hz8) (va_cwS 2 hts (zg_S zw_29_7 zw_29_8 zw_1_5 zw_29_9) rfl rfl rfl zyX3_isCell ⟨Nat.le_of_ble_eq_true rfl, Nat.le_of_ble_eq_true rfl⟩) ⟨bS_blind, bS_pre (zx_P0 hP) hK (zx_D0 hD) hN⟩ rfl rfl hl.1 rfl (lv_room (Nat.le_of_ble_eq_true rfl)) dX3_nearest_3 ⟨Nat.zero_le _, Nat.zero_le _⟩) hS (fun q h1 h2 => absurd h1 (Nat.not_lt.mpr h2)) (fun q h => hA q (Nat.le_trans hS.1 h)) (fun r u t H1 lc ht hvm hw hB hz1 hk1 hS => ?_)
  replace hw : x7 = r := hw; subst hw
  replace hP := zx_keep hP hk1
  refine lv_if_eq (tgt := 17) hx hb dX3_nearest_6 (by decide) (fun q9 => ?_) (fun q9 => ?_)
  · replace hM := zx_t q9 hM
    exact j17 p1 p2 p3 S _ _ _ hP hD hS (lv_sub hl [0, 1, 2, 3] rfl) hM
  · replace hM := zx_f q9 hM
    refine lv_iload_n hx hb dX3_nearest_9 rfl (lv_at hl 3 rfl) ?_
    refine lv_if_lt (tgt := 17) hx hb dX3_nearest_10 (by decide) (fun q10 => ?_) (fun q10 => ?_)
    · replace hM := zx_t q10 hM
      exact j17 p1 p2 p3 S _ _ _ hP hD hS (lv_sub hl [0, 1, 2, 3] rfl) hM
    · replace hM := zx_f q10 hM
      refine lv_iconst (v := 0) hx hb dX3_nearest_13 (by decide) ?_
      refine lv_goto (tgt := 18) hx hb dX3_nearest_14 (by decide) ?_
      exact j18 p1 p2 p3 0 S _ _ _ hP hD hS (lv_sub hl [0, 1, 2, 3] rfl) hM

/-! ShallowBoxesModel.chosen(IIII)I -/
def f_X3_chosen_j17 (N : Nat) (v1 : Int32) (v2 : Int32) (v3 : Int32) (v4 : Int32) (t1 : Int32) (S_ : zx_S) : Option (Int32 × zx_S) :=
  (zx_b2 (f_X3_refused N t1 S_) (fun x1 T2 =>
(if x1 = 0 then
  (zx_b1 (f_X3_layBoxes N 1 T2) (fun T5 =>
(zx_wr 224 (4 * 55) (zx_st T5 6 (upd (T5 6) (Int32.toNatClampNeg (4 * 55)) v1)) (fun T7 =>
(zx_wr 224 ((4 * 55) + 1) (zx_st T7 6 (upd (T7 6) (Int32.toNatClampNeg ((4 * 55) + 1)) v2)) (fun T9 =>
(zx_wr 224 ((4 * 55) + 2) (zx_st T9 6 (upd (T9 6) (Int32.toNatClampNeg ((4 * 55) + 2)) v3)) (fun T11 =>
(zx_wr 224 ((4 * 55) + 3) (zx_st T11 6 (upd (T11 6) (Int32.toNatClampNeg ((4 * 55) + 3)) v4)) (fun T13 =>
(zx_b1 (f_X3_reach N 1 55 0 T13) (fun x15 =>
(zx_b2 (f_X3_numberNodes N 1 T13) (fun x17 T18 =>
(zx_rd 32 (T18 9) x15 (fun x20 =>
some (x20, T18))))))))))))))))) else
  some (0, T2))))
def f_X3_chosen (N : Nat) (p1 : Int32) (p2 : Int32) (p3 : Int32) (p4 : Int32) (S : zx_S) : Option (Int32 × zx_S) :=
  (zx_b1 (f_X3_isRectangle N p1 p2 p3 p4) (fun x22 =>
(if x22 = 0 then
  f_X3_chosen_j17 N  p1 p2 p3 p4 1 S else
  f_X3_chosen_j17 N  p1 p2 p3 p4 0 S)))
abbrev rmX3_chosen : Room := { frames := 3, cells := 0, slots := 0, locals := 75 }
abbrev zsX3_chosen : List Cond := .code yX3_chosen cX3_chosen 7 (some .int) :: wsL_law
theorem zyX3_chosen : yX3_chosen.cls ≠ "java/lang/invoke/MethodHandle" ∧ yX3_chosen.cls ≠ "java/lang/invoke/VarHandle" ∧ (parseMethodDescriptor yX3_chosen.desc).map (fun d => d.parameters.length) = some 4 := by decide +kernel
set_option maxHeartbeats 4000000 in
set_option maxRecDepth 100000 in
theorem c_X3_chosen (l : Launch) (D : va_G) (cI cZ cT : ClassId) (h : Nat) (ad : Nat → Nat) (S : zx_S) (sz : Nat) (N : Nat) (p1 : Int32) (p2 : Int32) (p3 : Int32) (p4 : Int32) {R : Int32 × zx_S} (hM : f_X3_chosen N p1 p2 p3 p4 S = some R) : Met l yX3_chosen zsX3_chosen rmX3_chosen (va_Pc [.ref h, .int p1, .int p2, .int p3, .int p4] (bS D (zx_ty cI cZ cT) (xW3 cI cZ h ad S) sz)) (va_Qi (fun r u => R = (r, u)) (fun u t => va_P D vwCl (xW3 cI cZ h ad u) t.heap) (va_A (xW3 cI cZ h ad S) sz)) 0 0 (va_A (xW3 cI cZ h ad S) sz) := by
  refine Met.ofW (cc := cX3_chosen) (maxL := 7) (ret := (some .int)) (by decide) rfl ?_
  intro p e s m args below meth c s₁ B hml hv
  obtain ⟨rfl, hsz, hP, hK, hD0, hN⟩ := hv
  have hx := B.exec
  have hb := B.bytes
  have hr := B.returns
  have hts : ∀ w ∈ wsL_law, w.before _ s = true := fun w hw => atoms_spec (ws := zsX3_chosen) B.pre w (List.mem_cons_of_mem _ hw)
  have hown : s.vm.findClass RX3 = some m.cls := findClass_of_methodNamed B.named
  have hlocks := B.notSynchronized
  subst hsz
  have hD := hD0.self (sz := s.heap.size)
  generalize hAe : va_A (xW3 cI cZ h ad S) s.heap.size = A at hD ⊢
  have hA : ∀ q : Nat, s.heap.size ≤ q → A q := fun q h => by rw [← hAe]; exact Or.inr h
  have hS : va_S A s.heap s.heap [] := va_S.rf
  have hl := lv_entry ([.ref h, .int p1, .int p2, .int p3, .int p4]) (n := 7) (Nat.le_of_ble_eq_true rfl)
  rw [lg_entry_eq]
  generalize (lg_sl ([.ref h, .int p1, .int p2, .int p3, .int p4]) ++ List.replicate (7 - (lg_sl ([.ref h, .int p1, .int p2, .int p3, .int p4])).length) Slot.unset).toArray = ls at hl ⊢
  have hl : lv_has ls 7 [(0, .ref h), (1, .int p1), (2, .int p2), (3, .int p3), (4, .int p4)] := hl
  generalize hQ : MQ below (va_Qi (fun r u => R = (r, u)) (fun u t => va_P D vwCl (xW3 cI cZ h ad u) t.heap) A) ([.ref h, .int p1, .int p2, .int p3, .int p4] : List Value).toArray s 0 0 A = Q9
  replace hQ := hQ.symm
  unfold f_X3_chosen at hM
  have j17 : ∀ (v1 : Int32) (v2 : Int32) (v3 : Int32) (v4 : Int32) (t1 : Int32) (S_ : zx_S) (H : Heap) (lc : List Loc) (ls : Array Slot), va_P D vwCl (xW3 cI cZ h ad S_) H → va_D A (xW3 cI cZ h ad S_) → va_S A s.heap H lc → lv_has ls 7 [(0, .ref h), (1, .int v1), (2, .int v2), (3, .int v3), (4, .int v4)] → f_X3_chosen_j17 N v1 v2 v3 v4 t1 S_ = some R → W p l e (headSpec zsX3_chosen rmX3_chosen).room s m ([.ref h, .int p1, .int p2, .int p3, .int p4] : List Value).toArray below meth c H lc 0 0 Q9 (F0 m 17 ls [.int t1, .ref h]) := by
    intro v1 v2 v3 v4 t1 S_ H lc ls hP hD hS hl hM
    unfold f_X3_chosen_j17 at hM
    obtain ⟨x1, T2, hz3, hM⟩ := zx_b2E hM
    refine va_calli (va_runV (As := [.int t1]) (rest := []) ⟨hx, hb, hml, hown, hts⟩ (c_X3_refused l D cI cZ cT h ad S_ _ N t1  hz3) (cwV 1 hts (zg_V zw_5_14 zw_5_15 zw_5_16 zw_1_5 zw_5_17) rfl rfl rfl ⟨rfl, zyX3_refused⟩ ⟨Nat.le_of_ble_eq_true rfl, Nat.le_of_ble_eq_true rfl⟩) ⟨bS_blind, va_recv hK hP (ci := 3) (q0 := 0) rfl rfl, bS_pre hP hK hD hN⟩ rfl rfl hl.1 rfl (lv_room (Nat.le_of_ble_eq_true rfl)) dX3_chosen_17 ⟨Nat.zero_le _, Nat.zero_le _⟩) hS (fun q _ h => zx_fW hD hS hA q h) (fun q h => zx_fW hD hS hA q h) (fun r u t H1 lc ht hvm hw hB hz1 hk1 hS => ?_)
    obtain ⟨hw1, hw2⟩ := Prod.mk.inj hw; subst hw1; subst hw2
    rw [ht] at hB
    replace hP := hB
    replace hD := xW3_D T2 hD
    refine lv_if_eq (tgt := 25) hx hb dX3_chosen_20 (by decide) (fun q4 => ?_) (fun q4 => ?_)
    · replace hM := zx_t q4 hM
      refine lv_aload_n hx hb dX3_chosen_25 rfl (lv_at hl 0 rfl) ?_
      refine lv_aload_n hx hb dX3_chosen_26 rfl (lv_at hl 0 rfl) ?_
      refine va_get (D := D) (ci := 3) (v := .ref (ad 1)) (C := RX3) (T := TX3) (N := 20) hx hb hts inlX3 hown hK hP 0 rfl rfl 3 (by decide) (hts _ zw_3_19) (fun _ h9 => h9) rfl dX3_chosen_27 ?_
      obtain ⟨T5, hz6, hM⟩ := zx_b1E hM
      refine va_callv (va_runV (As := [.ref (ad 1)]) (rest := []) ⟨hx, hb, hml, hown, hts⟩ (c_X3_layBoxes l D cI cZ cT h ad T2 _ N 1 (Or.inl rfl)  hz6) (cwV 1 hts (zg_V zw_8_23 zw_9_0 zw_9_1 zw_1_5 zw_9_2) rfl rfl rfl ⟨rfl, zyX3_layBoxes⟩ ⟨Nat.le_of_ble_eq_true rfl, Nat.le_of_ble_eq_true rfl⟩) ⟨bS_blind, va_recv hK hP (ci := 3) (q0 := 0) rfl rfl, bS_pre hP hK hD hN⟩ rfl rfl hl.1 rfl (lv_room (Nat.le_of_ble_eq_true rfl)) dX3_chosen_30 ⟨Nat.zero_le _, Nat.zero_le _⟩) hS (fun q _ h => zx_fW hD hS hA q h) (fun q h => zx_fW hD hS hA q h) (fun u t H1 lc ht hvm hw hB hz1 hk1 hS => ?_)
      replace hw : T5 = u := hw; subst hw
      rw [ht] at hB
      replace hP := hB
      replace hD := xW3_D T5 hD
      refine lv_bipush (v := 55) hx hb dX3_chosen_33 (by decide) ?_
      refine lv_istore (lv' := [(5, .int 55), (0, .ref h), (1, .int v1), (2, .int v2), (3, .int v3), (4, .int v4)]) hx hb dX3_chosen_35 hl (by decide) rfl (fun ls hl => ?_)
      refine lv_aload_n hx hb dX3_chosen_37 rfl (lv_at hl 1 rfl) ?_
      refine va_get (D := D) (ci := 3) (v := .ref (ad 6)) (C := RX3) (T := TX3) (N := 20) hx hb hts inlX3 hown hK hP 0 rfl rfl 9 (by decide) (hts _ zw_4_1) (fun _ h9 => h9) rfl dX3_chosen_38 ?_
      refine lv_iconst (v := 4) hx hb dX3_chosen_41 (by decide) ?_
      refine lv_iload hx hb dX3_chosen_42 (lv_at hl 0 rfl) ?_
      refine lv_imul hx hb dX3_chosen_44 ?_
      refine lv_iload_n hx hb dX3_chosen_45 rfl (lv_at hl 2 rfl) ?_
      obtain ⟨T7, q8, eT7, hM⟩ := zx_wrE hM
      refine va_iast (D := D) hx hb hK hP hD hS 7 0 rfl rfl q8 dX3_chosen_46 (fun H lc hP hD hS => ?_)
      rw [xW3_pa6] at hP hD
      rw [← eT7] at hP hD
      refine lv_aload_n hx hb dX3_chosen_47 rfl (lv_at hl 1 rfl) ?_
      refine va_get (D := D) (ci := 3) (v := .ref (ad 6)) (C := RX3) (T := TX3) (N := 20) hx hb hts inlX3 hown hK hP 0 rfl rfl 9 (by decide) (hts _ zw_4_1) (fun _ h9 => h9) rfl dX3_chosen_48 ?_
      refine lv_iconst (v := 4) hx hb dX3_chosen_51 (by decide) ?_
      refine lv_iload hx hb dX3_chosen_52 (lv_at hl 0 rfl) ?_
      refine lv_imul hx hb dX3_chosen_54 ?_
      refine lv_iconst (v := 1) hx hb dX3_chosen_55 (by decide) ?_
      refine lv_iadd hx hb dX3_chosen_56 ?_
      refine lv_iload_n hx hb dX3_chosen_57 rfl (lv_at hl 3 rfl) ?_
      obtain ⟨T9, q10, eT9, hM⟩ := zx_wrE hM
      refine va_iast (D := D) hx hb hK hP hD hS 7 0 rfl rfl q10 dX3_chosen_58 (fun H lc hP hD hS => ?_)
      rw [xW3_pa6] at hP hD
      rw [← eT9] at hP hD
      refine lv_aload_n hx hb dX3_chosen_59 rfl (lv_at hl 1 rfl) ?_
      refine va_get (D := D) (ci := 3) (v := .ref (ad 6)) (C := RX3) (T := TX3) (N := 20) hx hb hts inlX3 hown hK hP 0 rfl rfl 9 (by decide) (hts _ zw_4_1) (fun _ h9 => h9) rfl dX3_chosen_60 ?_
      refine lv_iconst (v := 4) hx hb dX3_chosen_63 (by decide) ?_
      refine lv_iload hx hb dX3_chosen_64 (lv_at hl 0 rfl) ?_
      refine lv_imul hx hb dX3_chosen_66 ?_
      refine lv_iconst (v := 2) hx hb dX3_chosen_67 (by decide) ?_
      refine lv_iadd hx hb dX3_chosen_68 ?_
      refine lv_iload_n hx hb dX3_chosen_69 rfl (lv_at hl 4 rfl) ?_
      obtain ⟨T11, q12, eT11, hM⟩ := zx_wrE hM
      refine va_iast (D := D) hx hb hK hP hD hS 7 0 rfl rfl q12 dX3_chosen_70 (fun H lc hP hD hS => ?_)
      rw [xW3_pa6] at hP hD
      rw [← eT11] at hP hD
      refine lv_aload_n hx hb dX3_chosen_71 rfl (lv_at hl 1 rfl) ?_
      refine va_get (D := D) (ci := 3) (v := .ref (ad 6)) (C := RX3) (T := TX3) (N := 20) hx hb hts inlX3 hown hK hP 0 rfl rfl 9 (by decide) (hts _ zw_4_1) (fun _ h9 => h9) rfl dX3_chosen_72 ?_
      refine lv_iconst (v := 4) hx hb dX3_chosen_75 (by decide) ?_
      refine lv_iload hx hb dX3_chosen_76 (lv_at hl 0 rfl) ?_
      refine lv_imul hx hb dX3_chosen_78 ?_
      refine lv_iconst (v := 3) hx hb dX3_chosen_79 (by decide) ?_
      refine lv_iadd hx hb dX3_chosen_80 ?_
      refine lv_iload hx hb dX3_chosen_81 (lv_at hl 5 rfl) ?_
      obtain ⟨T13, q14, eT13, hM⟩ := zx_wrE hM
      refine va_iast (D := D) hx hb hK hP hD hS 7 0 rfl rfl q14 dX3_chosen_83 (fun H lc hP hD hS => ?_)
      rw [xW3_pa6] at hP hD
      rw [← eT13] at hP hD
      refine lv_aload_n hx hb dX3_chosen_84 rfl (lv_at hl 1 rfl) ?_
      refine lv_aload_n hx hb dX3_chosen_85 rfl (lv_at hl 1 rfl) ?_
      refine va_get (D := D) (ci := 3) (v := .ref (ad 1)) (C := RX3) (T := TX3) (N := 20) hx hb hts inlX3 hown hK hP 0 rfl rfl 3 (by decide) (hts _ zw_3_19) (fun _ h9 => h9) rfl dX3_chosen_86 ?_
      refine lv_iload hx hb dX3_chosen_89 (lv_at hl 0 rfl) ?_
      refine lv_iconst (v := 0) hx hb dX3_chosen_91 (by decide) ?_
      obtain ⟨x15, hz16, hM⟩ := zx_b1E hM
      refine va_calli (va_runV (As := [.ref (ad 1), .int 55, .int 0]) (rest := []) ⟨hx, hb, hml, hown, hts⟩ (c_X3_reach l D cI cZ cT h ad T13 _ N 1 (Or.inl rfl) 55 0  hz16) (cwV 3 hts (zg_V zw_9_19 zw_9_20 zw_9_21 zw_1_5 zw_9_22) rfl rfl rfl ⟨rfl, zyX3_reach⟩ ⟨Nat.le_of_ble_eq_true rfl, Nat.le_of_ble_eq_true rfl⟩) ⟨bS_blind, va_recv hK hP (ci := 3) (q0 := 0) rfl rfl, bS_pre hP hK hD hN⟩ rfl rfl hl.1 rfl (lv_room (Nat.le_of_ble_eq_true rfl)) dX3_chosen_92 ⟨Nat.zero_le _, Nat.zero_le _⟩) hS (fun q h1 h2 => absurd h1 (Nat.not_lt.mpr h2)) (fun q h => hA q (Nat.le_trans hS.1 h)) (fun r u t H1 lc ht hvm hw hB hz1 hk1 hS => ?_)
      replace hw : x15 = r := hw; subst hw
      replace hP := zx_keep hP hk1
      refine lv_istore (lv' := [(6, .int x15), (5, .int 55), (0, .ref h), (1, .int v1), (2, .int v2), (3, .int v3), (4, .int v4)]) hx hb dX3_chosen_95 hl (by decide) rfl (fun ls hl => ?_)
      refine lv_aload_n hx hb dX3_chosen_97 rfl (lv_at hl 2 rfl) ?_
      refine lv_aload_n hx hb dX3_chosen_98 rfl (lv_at hl 2 rfl) ?_
      refine va_get (D := D) (ci := 3) (v := .ref (ad 1)) (C := RX3) (T := TX3) (N := 20) hx hb hts inlX3 hown hK hP 0 rfl rfl 3 (by decide) (hts _ zw_3_19) (fun _ h9 => h9) rfl dX3_chosen_99 ?_
      obtain ⟨x17, T18, hz19, hM⟩ := zx_b2E hM
      refine va_calli (va_runV (As := [.ref (ad 1)]) (rest := []) ⟨hx, hb, hml, hown, hts⟩ (c_X3_numberNodes l D cI cZ cT h ad T13 _ N 1 (Or.inl rfl)  hz19) (cwV 1 hts (zg_V zw_16_18 zw_16_19 zw_16_20 zw_1_5 zw_16_21) rfl rfl rfl ⟨rfl, zyX3_numberNodes⟩ ⟨Nat.le_of_ble_eq_true rfl, Nat.le_of_ble_eq_true rfl⟩) ⟨bS_blind, va_recv hK hP (ci := 3) (q0 := 0) rfl rfl, bS_pre hP hK hD hN⟩ rfl rfl hl.1 rfl (lv_room (Nat.le_of_ble_eq_true rfl)) dX3_chosen_102 ⟨Nat.zero_le _, Nat.zero_le _⟩) hS (fun q _ h => zx_fW hD hS hA q h) (fun q h => zx_fW hD hS hA q h) (fun r u t H1 lc ht hvm hw hB hz1 hk1 hS => ?_)
      obtain ⟨hw1, hw2⟩ := Prod.mk.inj hw; subst hw1; subst hw2
      rw [ht] at hB
      replace hP := hB
      replace hD := xW3_D T18 hD
      refine lv_pop hx hb dX3_chosen_105 rfl ?_
      refine lv_aload_n hx hb dX3_chosen_106 rfl (lv_at hl 2 rfl) ?_
      refine va_get (D := D) (ci := 3) (v := .ref (ad 9)) (C := RX3) (T := TX3) (N := 20) hx hb hts inlX3 hown hK hP 0 rfl rfl 15 (by decide) (hts _ zw_4_4) (fun _ h9 => h9) rfl dX3_chosen_107 ?_
      refine lv_iload hx hb dX3_chosen_110 (lv_at hl 0 rfl) ?_
      obtain ⟨x20, q21, ex20, hM⟩ := zx_rdE hM
      refine va_iald (D := D) hx hb hK hP 10 0 rfl rfl q21 dX3_chosen_112 ?_
      refine zx_top ex20 ?_
      rw [hQ]
      exact W.iret hx hb hr (fun t ht hW => ⟨⟨x20, T18, rfl, (Option.some.inj hM).symm, by show va_P D vwCl _ t.heap; rw [ht]; exact hP⟩, hS.F ht⟩) hS.2.2 dX3_chosen_113
    · replace hM := zx_f q4 hM
      refine lv_iconst (v := 0) hx hb dX3_chosen_23 (by decide) ?_
      rw [hQ]
      exact W.iret hx hb hr (fun t ht hW => ⟨⟨0, T2, rfl, (Option.some.inj hM).symm, by show va_P D vwCl _ t.heap; rw [ht]; exact hP⟩, hS.F ht⟩) hS.2.2 dX3_chosen_24
  refine lv_aload_n hx hb dX3_chosen_0 rfl (lv_at hl 0 rfl) ?_
  refine lv_iload_n hx hb dX3_chosen_1 rfl (lv_at hl 1 rfl) ?_
  refine lv_iload_n hx hb dX3_chosen_2 rfl (lv_at hl 2 rfl) ?_
  refine lv_iload_n hx hb dX3_chosen_3 rfl (lv_at hl 3 rfl) ?_
  refine lv_iload hx hb dX3_chosen_4 (lv_at hl 4 rfl) ?_
  obtain ⟨x22, hz23, hM⟩ := zx_b1E hM
  refine va_calli (va_runS (As := [.int p1, .int p2, .int p3, .int p4]) (rest := [.ref h]) ⟨hx, hb, hml, hown, hts⟩ (c_X3_isRectangle l D cI cZ cT _ N p1 p2 p3 p4 hz23) (va_cwS 4 hts (zg_S zw_22_19 zw_22_20 zw_1_5 zw_22_21) rfl rfl rfl zyX3_isRectangle ⟨Nat.le_of_ble_eq_true rfl, Nat.le_of_ble_eq_true rfl⟩) ⟨bS_blind, bS_pre (zx_P0 hP) hK (zx_D0 hD) hN⟩ rfl rfl hl.1 rfl (lv_room (Nat.le_of_ble_eq_true rfl)) dX3_chosen_6 ⟨Nat.zero_le _, Nat.zero_le _⟩) hS (fun q h1 h2 => absurd h1 (Nat.not_lt.mpr h2)) (fun q h => hA q (Nat.le_trans hS.1 h)) (fun r u t H1 lc ht hvm hw hB hz1 hk1 hS => ?_)
  replace hw : x22 = r := hw; subst hw
  replace hP := zx_keep hP hk1
  refine lv_if_eq (tgt := 16) hx hb dX3_chosen_9 (by decide) (fun q24 => ?_) (fun q24 => ?_)
  · replace hM := zx_t q24 hM
    refine lv_iconst (v := 1) hx hb dX3_chosen_16 (by decide) ?_
    exact j17 p1 p2 p3 p4 1 S _ _ _ hP hD hS (lv_sub hl [0, 1, 2, 3, 4] rfl) hM
  · replace hM := zx_f q24 hM
    refine lv_iconst (v := 0) hx hb dX3_chosen_12 (by decide) ?_
    refine lv_goto (tgt := 17) hx hb dX3_chosen_13 (by decide) ?_
    exact j17 p1 p2 p3 p4 0 S _ _ _ hP hD hS (lv_sub hl [0, 1, 2, 3, 4] rfl) hM

/-! ShallowBoxesModel.ifAdded(IIII)I -/
def f_X3_ifAdded_j17 (N : Nat) (v1 : Int32) (v2 : Int32) (v3 : Int32) (v4 : Int32) (t1 : Int32) (S_ : zx_S) : Option (Int32 × zx_S) :=
  (zx_b2 (f_X3_refused N t1 S_) (fun x1 T2 =>
(if x1 = 0 then
  (zx_b1 (f_X3_count N 380 (T2 1)) (fun x5 =>
(if x5 = 24 then
  some ((-100001), T2) else
  (zx_b2 (f_X3_overlap N 1 T2) (fun x8 T9 =>
(zx_b1 (f_X3_copyState N 380 380 0 0 (T9 1) (T9 2)) (fun g11 =>
(zx_n (zx_st T9 2 g11) (fun T13 =>
(zx_n (zx_st T13 12 (upd (T13 12) 3 0)) (fun T14 =>
(zx_b2 (f_X3_addOn N 2 v1 v2 v3 v4 T14) (fun x15 T16 =>
(zx_b2 (f_X3_overlap N 2 T16) (fun x18 T19 =>
some ((x18 - x8), T19)))))))))))))))) else
  some (0, T2))))
def f_X3_ifAdded (N : Nat) (p1 : Int32) (p2 : Int32) (p3 : Int32) (p4 : Int32) (S : zx_S) : Option (Int32 × zx_S) :=
  (zx_b1 (f_X3_isRectangle N p1 p2 p3 p4) (fun x21 =>
(if x21 = 0 then
  f_X3_ifAdded_j17 N  p1 p2 p3 p4 1 S else
  f_X3_ifAdded_j17 N  p1 p2 p3 p4 0 S)))
abbrev rmX3_ifAdded : Room := { frames := 8, cells := 0, slots := 0, locals := 195 }
abbrev zsX3_ifAdded : List Cond := .code yX3_ifAdded cX3_ifAdded 6 (some .int) :: wsL_law
theorem zyX3_ifAdded : yX3_ifAdded.cls ≠ "java/lang/invoke/MethodHandle" ∧ yX3_ifAdded.cls ≠ "java/lang/invoke/VarHandle" ∧ (parseMethodDescriptor yX3_ifAdded.desc).map (fun d => d.parameters.length) = some 4 := by decide +kernel
set_option maxHeartbeats 4000000 in
set_option maxRecDepth 100000 in
theorem c_X3_ifAdded (l : Launch) (D : va_G) (cI cZ cT : ClassId) (h : Nat) (ad : Nat → Nat) (S : zx_S) (sz : Nat) (N : Nat) (p1 : Int32) (p2 : Int32) (p3 : Int32) (p4 : Int32) {R : Int32 × zx_S} (hM : f_X3_ifAdded N p1 p2 p3 p4 S = some R) : Met l yX3_ifAdded zsX3_ifAdded rmX3_ifAdded (va_Pc [.ref h, .int p1, .int p2, .int p3, .int p4] (bS D (zx_ty cI cZ cT) (xW3 cI cZ h ad S) sz)) (va_Qi (fun r u => R = (r, u)) (fun u t => va_P D vwCl (xW3 cI cZ h ad u) t.heap) (va_A (xW3 cI cZ h ad S) sz)) 0 0 (va_A (xW3 cI cZ h ad S) sz) := by
  refine Met.ofW (cc := cX3_ifAdded) (maxL := 6) (ret := (some .int)) (by decide) rfl ?_
  intro p e s m args below meth c s₁ B hml hv
  obtain ⟨rfl, hsz, hP, hK, hD0, hN⟩ := hv
  have hx := B.exec
  have hb := B.bytes
  have hr := B.returns
  have hts : ∀ w ∈ wsL_law, w.before _ s = true := fun w hw => atoms_spec (ws := zsX3_ifAdded) B.pre w (List.mem_cons_of_mem _ hw)
  have hown : s.vm.findClass RX3 = some m.cls := findClass_of_methodNamed B.named
  have hlocks := B.notSynchronized
  subst hsz
  have hD := hD0.self (sz := s.heap.size)
  generalize hAe : va_A (xW3 cI cZ h ad S) s.heap.size = A at hD ⊢
  have hA : ∀ q : Nat, s.heap.size ≤ q → A q := fun q h => by rw [← hAe]; exact Or.inr h
  have hS : va_S A s.heap s.heap [] := va_S.rf
  have hl := lv_entry ([.ref h, .int p1, .int p2, .int p3, .int p4]) (n := 6) (Nat.le_of_ble_eq_true rfl)
  rw [lg_entry_eq]
  generalize (lg_sl ([.ref h, .int p1, .int p2, .int p3, .int p4]) ++ List.replicate (6 - (lg_sl ([.ref h, .int p1, .int p2, .int p3, .int p4])).length) Slot.unset).toArray = ls at hl ⊢
  have hl : lv_has ls 6 [(0, .ref h), (1, .int p1), (2, .int p2), (3, .int p3), (4, .int p4)] := hl
  generalize hQ : MQ below (va_Qi (fun r u => R = (r, u)) (fun u t => va_P D vwCl (xW3 cI cZ h ad u) t.heap) A) ([.ref h, .int p1, .int p2, .int p3, .int p4] : List Value).toArray s 0 0 A = Q9
  replace hQ := hQ.symm
  unfold f_X3_ifAdded at hM
  have j17 : ∀ (v1 : Int32) (v2 : Int32) (v3 : Int32) (v4 : Int32) (t1 : Int32) (S_ : zx_S) (H : Heap) (lc : List Loc) (ls : Array Slot), va_P D vwCl (xW3 cI cZ h ad S_) H → va_D A (xW3 cI cZ h ad S_) → va_S A s.heap H lc → lv_has ls 6 [(0, .ref h), (1, .int v1), (2, .int v2), (3, .int v3), (4, .int v4)] → f_X3_ifAdded_j17 N v1 v2 v3 v4 t1 S_ = some R → W p l e (headSpec zsX3_ifAdded rmX3_ifAdded).room s m ([.ref h, .int p1, .int p2, .int p3, .int p4] : List Value).toArray below meth c H lc 0 0 Q9 (F0 m 17 ls [.int t1, .ref h]) := by
    intro v1 v2 v3 v4 t1 S_ H lc ls hP hD hS hl hM
    unfold f_X3_ifAdded_j17 at hM
    obtain ⟨x1, T2, hz3, hM⟩ := zx_b2E hM
    refine va_calli (va_runV (As := [.int t1]) (rest := []) ⟨hx, hb, hml, hown, hts⟩ (c_X3_refused l D cI cZ cT h ad S_ _ N t1  hz3) (cwV 1 hts (zg_V zw_5_14 zw_5_15 zw_5_16 zw_1_5 zw_5_17) rfl rfl rfl ⟨rfl, zyX3_refused⟩ ⟨Nat.le_of_ble_eq_true rfl, Nat.le_of_ble_eq_true rfl⟩) ⟨bS_blind, va_recv hK hP (ci := 3) (q0 := 0) rfl rfl, bS_pre hP hK hD hN⟩ rfl rfl hl.1 rfl (lv_room (Nat.le_of_ble_eq_true rfl)) dX3_ifAdded_17 ⟨Nat.zero_le _, Nat.zero_le _⟩) hS (fun q _ h => zx_fW hD hS hA q h) (fun q h => zx_fW hD hS hA q h) (fun r u t H1 lc ht hvm hw hB hz1 hk1 hS => ?_)
    obtain ⟨hw1, hw2⟩ := Prod.mk.inj hw; subst hw1; subst hw2
    rw [ht] at hB
    replace hP := hB
    replace hD := xW3_D T2 hD
    refine lv_if_eq (tgt := 25) hx hb dX3_ifAdded_20 (by decide) (fun q4 => ?_) (fun q4 => ?_)
    · replace hM := zx_t q4 hM
      refine lv_aload_n hx hb dX3_ifAdded_25 rfl (lv_at hl 0 rfl) ?_
      refine va_get (D := D) (ci := 3) (v := .ref (ad 1)) (C := RX3) (T := TX3) (N := 20) hx hb hts inlX3 hown hK hP 0 rfl rfl 3 (by decide) (hts _ zw_3_19) (fun _ h9 => h9) rfl dX3_ifAdded_26 ?_
      obtain ⟨x5, hz6, hM⟩ := zx_b1E hM
      refine va_calli (va_runS (As := [.ref (ad 1)]) (rest := []) ⟨hx, hb, hml, hown, hts⟩ (c_X3_count l D cI cZ cT (ad 1) 380 (T2 1) _ N hz6) (va_cwS 1 hts (zg_S zw_14_13 zw_14_14 zw_1_5 zw_14_15) rfl rfl rfl zyX3_count ⟨Nat.le_of_ble_eq_true rfl, Nat.le_of_ble_eq_true rfl⟩) ⟨bS_blind, bS_pre (zx_P1 hP 2 (rfl)) hK (zx_D1 hD 2 (rfl)) hN⟩ rfl rfl hl.1 rfl (lv_room (Nat.le_of_ble_eq_true rfl)) dX3_ifAdded_29 ⟨Nat.zero_le _, Nat.zero_le _⟩) hS (fun q h1 h2 => absurd h1 (Nat.not_lt.mpr h2)) (fun q h => hA q (Nat.le_trans hS.1 h)) (fun r u t H1 lc ht hvm hw hB hz1 hk1 hS => ?_)
      replace hw : x5 = r := hw; subst hw
      replace hP := zx_keep hP hk1
      refine lv_bipush (v := 24) hx hb dX3_ifAdded_32 (by decide) ?_
      refine lv_icmp_ne (tgt := 41) hx hb dX3_ifAdded_34 (by decide) (fun q7 => ?_) (fun q7 => ?_)
      · replace hM := zx_f q7 hM
        refine lv_aload_n hx hb dX3_ifAdded_41 rfl (lv_at hl 0 rfl) ?_
        refine lv_aload_n hx hb dX3_ifAdded_42 rfl (lv_at hl 0 rfl) ?_
        refine va_get (D := D) (ci := 3) (v := .ref (ad 1)) (C := RX3) (T := TX3) (N := 20) hx hb hts inlX3 hown hK hP 0 rfl rfl 3 (by decide) (hts _ zw_3_19) (fun _ h9 => h9) rfl dX3_ifAdded_43 ?_
        obtain ⟨x8, T9, hz10, hM⟩ := zx_b2E hM
        refine va_calli (va_runV (As := [.ref (ad 1)]) (rest := []) ⟨hx, hb, hml, hown, hts⟩ (c_X3_overlap l D cI cZ cT h ad T2 _ N 1 (Or.inl rfl)  hz10) (cwV 1 hts (zg_V zw_14_19 zw_14_20 zw_14_21 zw_1_5 zw_14_22) rfl rfl rfl ⟨rfl, zyX3_overlap⟩ ⟨Nat.le_of_ble_eq_true rfl, Nat.le_of_ble_eq_true rfl⟩) ⟨bS_blind, va_recv hK hP (ci := 3) (q0 := 0) rfl rfl, bS_pre hP hK hD hN⟩ rfl rfl hl.1 rfl (lv_room (Nat.le_of_ble_eq_true rfl)) dX3_ifAdded_46 ⟨Nat.zero_le _, Nat.zero_le _⟩) hS (fun q _ h => zx_fW hD hS hA q h) (fun q h => zx_fW hD hS hA q h) (fun r u t H1 lc ht hvm hw hB hz1 hk1 hS => ?_)
        obtain ⟨hw1, hw2⟩ := Prod.mk.inj hw; subst hw1; subst hw2
        rw [ht] at hB
        replace hP := hB
        replace hD := xW3_D T9 hD
        refine lv_istore (lv' := [(5, .int x8), (0, .ref h), (1, .int v1), (2, .int v2), (3, .int v3), (4, .int v4)]) hx hb dX3_ifAdded_49 hl (by decide) rfl (fun ls hl => ?_)
        refine lv_aload_n hx hb dX3_ifAdded_51 rfl (lv_at hl 1 rfl) ?_
        refine va_get (D := D) (ci := 3) (v := .ref (ad 1)) (C := RX3) (T := TX3) (N := 20) hx hb hts inlX3 hown hK hP 0 rfl rfl 3 (by decide) (hts _ zw_3_19) (fun _ h9 => h9) rfl dX3_ifAdded_52 ?_
        refine lv_iconst (v := 0) hx hb dX3_ifAdded_55 (by decide) ?_
        refine lv_aload_n hx hb dX3_ifAdded_56 rfl (lv_at hl 1 rfl) ?_
        refine va_get (D := D) (ci := 3) (v := .ref (ad 2)) (C := RX3) (T := TX3) (N := 20) hx hb hts inlX3 hown hK hP 0 rfl rfl 4 (by decide) (hts _ zw_3_20) (fun _ h9 => h9) rfl dX3_ifAdded_57 ?_
        refine lv_iconst (v := 0) hx hb dX3_ifAdded_60 (by decide) ?_
        obtain ⟨g11, hz12, hM⟩ := zx_b1E hM
        refine va_callv (va_runS (As := [.ref (ad 1), .int 0, .ref (ad 2), .int 0]) (rest := []) ⟨hx, hb, hml, hown, hts⟩ (c_X3_copyState l D cI cZ cT (ad 1) 380 (T9 1) (ad 2) 380 (T9 2) _ N 0 0 hz12) (va_cwS 4 hts (zg_S zw_23_4 zw_23_5 zw_1_5 zw_23_6) rfl rfl rfl zyX3_copyState ⟨Nat.le_of_ble_eq_true rfl, Nat.le_of_ble_eq_true rfl⟩) ⟨bS_blind, bS_pre (zx_P2 hP 2 3 (rfl) (rfl)) hK (zx_D2 hD 2 3 (rfl) (rfl) (by decide)) hN⟩ rfl rfl hl.1 rfl (lv_room (Nat.le_of_ble_eq_true rfl)) dX3_ifAdded_61 ⟨Nat.zero_le _, Nat.zero_le _⟩) hS (fun q _ h => zx_f2 hD hS hA (k := 2) (j := 3) rfl rfl q h) (fun q h => zx_f2 hD hS hA (k := 2) (j := 3) rfl rfl q h) (fun u t H1 lc ht hvm hw hB hz1 hk1 hS => ?_)
        replace hw : g11 = u := hw; subst hw
        rw [ht] at hB
        replace hP := zx_set2 (k := 3) (j := 2) (by decide) hP hD rfl rfl hk1 hB
        replace hD := va_D.set (p := 3) (e := .inl (cI, 380, .inl g11)) hD rfl
        rw [xW3_pa2] at hP hD
        obtain ⟨T13, eT13, hM⟩ := zx_nE hM
        rw [← eT13] at hP hD
        refine lv_aload_n hx hb dX3_ifAdded_64 rfl (lv_at hl 1 rfl) ?_
        refine lv_iconst (v := 0) hx hb dX3_ifAdded_65 (by decide) ?_
        obtain ⟨T14, eT14, hM⟩ := zx_nE hM
        refine va_put (D := D) (ci := 3) (v := .int 0) (ty := .int) (C := RX3) (T := TX3) (N := 20) hx hb hts inlX3 tyX3 tyX3_ok nmX3 hown hK hP hD hS 0 rfl rfl 10 (by decide) (hts _ zw_10_20) (fun _ h9 => h9) rfl (by decide +kernel) rfl rfl (Nat.le_of_ble_eq_true rfl) dX3_ifAdded_66 (fun H lc hP hD hS => ?_)
        replace hP : va_P D vwCl (xW3 cI cZ h ad T14) H := by rw [eT14]; exact hP
        replace hD : va_D A (xW3 cI cZ h ad T14) := by rw [eT14]; exact hD
        refine lv_aload_n hx hb dX3_ifAdded_69 rfl (lv_at hl 1 rfl) ?_
        refine lv_aload_n hx hb dX3_ifAdded_70 rfl (lv_at hl 1 rfl) ?_
        refine va_get (D := D) (ci := 3) (v := .ref (ad 2)) (C := RX3) (T := TX3) (N := 20) hx hb hts inlX3 hown hK hP 0 rfl rfl 4 (by decide) (hts _ zw_3_20) (fun _ h9 => h9) rfl dX3_ifAdded_71 ?_
        refine lv_iload_n hx hb dX3_ifAdded_74 rfl (lv_at hl 2 rfl) ?_
        refine lv_iload_n hx hb dX3_ifAdded_75 rfl (lv_at hl 3 rfl) ?_
        refine lv_iload_n hx hb dX3_ifAdded_76 rfl (lv_at hl 4 rfl) ?_
        refine lv_iload hx hb dX3_ifAdded_77 (lv_at hl 5 rfl) ?_
        obtain ⟨x15, T16, hz17, hM⟩ := zx_b2E hM
        refine va_calli (va_runV (As := [.ref (ad 2), .int v1, .int v2, .int v3, .int v4]) (rest := []) ⟨hx, hb, hml, hown, hts⟩ (c_X3_addOn l D cI cZ cT h ad T14 _ N 2 (Or.inr rfl) v1 v2 v3 v4  hz17) (cwV 5 hts (zg_V zw_8_10 zw_8_11 zw_8_12 zw_1_5 zw_8_13) rfl rfl rfl ⟨rfl, zyX3_addOn⟩ ⟨Nat.le_of_ble_eq_true rfl, Nat.le_of_ble_eq_true rfl⟩) ⟨bS_blind, va_recv hK hP (ci := 3) (q0 := 0) rfl rfl, bS_pre hP hK hD hN⟩ rfl rfl hl.1 rfl (lv_room (Nat.le_of_ble_eq_true rfl)) dX3_ifAdded_79 ⟨Nat.zero_le _, Nat.zero_le _⟩) hS (fun q _ h => zx_fW hD hS hA q h) (fun q h => zx_fW hD hS hA q h) (fun r u t H1 lc ht hvm hw hB hz1 hk1 hS => ?_)
        obtain ⟨hw1, hw2⟩ := Prod.mk.inj hw; subst hw1; subst hw2
        rw [ht] at hB
        replace hP := hB
        replace hD := xW3_D T16 hD
        refine lv_pop hx hb dX3_ifAdded_82 rfl ?_
        refine lv_aload_n hx hb dX3_ifAdded_83 rfl (lv_at hl 1 rfl) ?_
        refine lv_aload_n hx hb dX3_ifAdded_84 rfl (lv_at hl 1 rfl) ?_
        refine va_get (D := D) (ci := 3) (v := .ref (ad 2)) (C := RX3) (T := TX3) (N := 20) hx hb hts inlX3 hown hK hP 0 rfl rfl 4 (by decide) (hts _ zw_3_20) (fun _ h9 => h9) rfl dX3_ifAdded_85 ?_
        obtain ⟨x18, T19, hz20, hM⟩ := zx_b2E hM
        refine va_calli (va_runV (As := [.ref (ad 2)]) (rest := []) ⟨hx, hb, hml, hown, hts⟩ (c_X3_overlap l D cI cZ cT h ad T16 _ N 2 (Or.inr rfl)  hz20) (cwV 1 hts (zg_V zw_14_19 zw_14_20 zw_14_21 zw_1_5 zw_14_22) rfl rfl rfl ⟨rfl, zyX3_overlap⟩ ⟨Nat.le_of_ble_eq_true rfl, Nat.le_of_ble_eq_true rfl⟩) ⟨bS_blind, va_recv hK hP (ci := 3) (q0 := 0) rfl rfl, bS_pre hP hK hD hN⟩ rfl rfl hl.1 rfl (lv_room (Nat.le_of_ble_eq_true rfl)) dX3_ifAdded_88 ⟨Nat.zero_le _, Nat.zero_le _⟩) hS (fun q _ h => zx_fW hD hS hA q h) (fun q h => zx_fW hD hS hA q h) (fun r u t H1 lc ht hvm hw hB hz1 hk1 hS => ?_)
        obtain ⟨hw1, hw2⟩ := Prod.mk.inj hw; subst hw1; subst hw2
        rw [ht] at hB
        replace hP := hB
        replace hD := xW3_D T19 hD
        refine lv_iload hx hb dX3_ifAdded_91 (lv_at hl 0 rfl) ?_
        refine lv_isub hx hb dX3_ifAdded_93 ?_
        rw [hQ]
        exact W.iret hx hb hr (fun t ht hW => ⟨⟨(x18 - x8), T19, rfl, (Option.some.inj hM).symm, by show va_P D vwCl _ t.heap; rw [ht]; exact hP⟩, hS.F ht⟩) hS.2.2 dX3_ifAdded_94
      · replace hM := zx_t q7 hM
        refine lv_ldcw (v := (-100001)) hx hb hown (hts _ zw_30_23) dX3_ifAdded_37 ?_
        rw [hQ]
        exact W.iret hx hb hr (fun t ht hW => ⟨⟨(-100001), T2, rfl, (Option.some.inj hM).symm, by show va_P D vwCl _ t.heap; rw [ht]; exact hP⟩, hS.F ht⟩) hS.2.2 dX3_ifAdded_40
    · replace hM := zx_f q4 hM
      refine lv_iconst (v := 0) hx hb dX3_ifAdded_23 (by decide) ?_
      rw [hQ]
      exact W.iret hx hb hr (fun t ht hW => ⟨⟨0, T2, rfl, (Option.some.inj hM).symm, by show va_P D vwCl _ t.heap; rw [ht]; exact hP⟩, hS.F ht⟩) hS.2.2 dX3_ifAdded_24
  refine lv_aload_n hx hb dX3_ifAdded_0 rfl (lv_at hl 0 rfl) ?_
  refine lv_iload_n hx hb dX3_ifAdded_1 rfl (lv_at hl 1 rfl) ?_
  refine lv_iload_n hx hb dX3_ifAdded_2 rfl (lv_at hl 2 rfl) ?_
  refine lv_iload_n hx hb dX3_ifAdded_3 rfl (lv_at hl 3 rfl) ?_
  refine lv_iload hx hb dX3_ifAdded_4 (lv_at hl 4 rfl) ?_
  obtain ⟨x21, hz22, hM⟩ := zx_b1E hM
  refine va_calli (va_runS (As := [.int p1, .int p2, .int p3, .int p4]) (rest := [.ref h]) ⟨hx, hb, hml, hown, hts⟩ (c_X3_isRectangle l D cI cZ cT _ N p1 p2 p3 p4 hz22) (va_cwS 4 hts (zg_S zw_22_19 zw_22_20 zw_1_5 zw_22_21) rfl rfl rfl zyX3_isRectangle ⟨Nat.le_of_ble_eq_true rfl, Nat.le_of_ble_eq_true rfl⟩) ⟨bS_blind, bS_pre (zx_P0 hP) hK (zx_D0 hD) hN⟩ rfl rfl hl.1 rfl (lv_room (Nat.le_of_ble_eq_true rfl)) dX3_ifAdded_6 ⟨Nat.zero_le _, Nat.zero_le _⟩) hS (fun q h1 h2 => absurd h1 (Nat.not_lt.mpr h2)) (fun q h => hA q (Nat.le_trans hS.1 h)) (fun r u t H1 lc ht hvm hw hB hz1 hk1 hS => ?_)
  replace hw : x21 = r := hw; subst hw
  replace hP := zx_keep hP hk1
  refine lv_if_eq (tgt := 16) hx hb dX3_ifAdded_9 (by decide) (fun q23 => ?_) (fun q23 => ?_)
  · replace hM := zx_t q23 hM
    refine lv_iconst (v := 1) hx hb dX3_ifAdded_16 (by decide) ?_
    exact j17 p1 p2 p3 p4 1 S _ _ _ hP hD hS (lv_sub hl [0, 1, 2, 3, 4] rfl) hM
  · replace hM := zx_f q23 hM
    refine lv_iconst (v := 0) hx hb dX3_ifAdded_12 (by decide) ?_
    refine lv_goto (tgt := 17) hx hb dX3_ifAdded_13 (by decide) ?_
    exact j17 p1 p2 p3 p4 0 S _ _ _ hP hD hS (lv_sub hl [0, 1, 2, 3, 4] rfl) hM

/-! ShallowBoxesModel.bestRemoval()I -/
def f_X3_bestRemoval_j102 (N : Nat) (k11 : Int32 → Int32 → Int32 → zx_S → Option (Int32 × zx_S)) (v1 : Int32) (v2 : Int32) (v3 : Int32) (S_ : zx_S) : Option (Int32 × zx_S) :=
  (zx_n (v3 + 1) (fun x2 =>
k11 v1 v2 x2 S_))
def f_X3_bestRemoval_j101 (N : Nat) (k11 : Int32 → Int32 → Int32 → zx_S → Option (Int32 × zx_S)) (v1 : Int32) (v3 : Int32) (t0 : Int32) (S_ : zx_S) : Option (Int32 × zx_S) :=
  f_X3_bestRemoval_j102 N k11 v1 t0 v3 S_
def f_X3_bestRemoval_j89 (N : Nat) (k11 : Int32 → Int32 → Int32 → zx_S → Option (Int32 × zx_S)) (v2 : Int32) (v3 : Int32) (v4 : Int32) (v5 : Int32) (t0 : Int32) (S_ : zx_S) : Option (Int32 × zx_S) :=
  (if v5 = 0 then
  f_X3_bestRemoval_j101 N k11 t0 v3 v2 S_ else
  f_X3_bestRemoval_j101 N k11 t0 v3 v4 S_)
def f_X3_bestRemoval_j77 (N : Nat) (k11 : Int32 → Int32 → Int32 → zx_S → Option (Int32 × zx_S)) (v1 : Int32) (v2 : Int32) (v3 : Int32) (v4 : Int32) (t0 : Int32) (S_ : zx_S) : Option (Int32 × zx_S) :=
  (if t0 = 0 then
  f_X3_bestRemoval_j89 N k11 v2 v3 v4 t0 v1 S_ else
  f_X3_bestRemoval_j89 N k11 v2 v3 v4 t0 v3 S_)
def f_X3_bestRemoval_j72 (N : Nat) (k11 : Int32 → Int32 → Int32 → zx_S → Option (Int32 × zx_S)) (v1 : Int32) (v2 : Int32) (v3 : Int32) (v4 : Int32) (S_ : zx_S) : Option (Int32 × zx_S) :=
  f_X3_bestRemoval_j77 N k11 v1 v2 v3 v4 1 S_
def f_X3_bestRemoval_l11 (N : Nat) : Nat → Int32 → Int32 → Int32 → zx_S → Option (Int32 × zx_S)
  | 0, _, _, _, _ => none
  | n11 + 1, v1, v2, v3, S_ => (if 24 ≤ v3 then
  some (v1, S_) else
  (zx_b1 (f_X3_isThere N 380 v3 (S_ 1)) (fun x3 =>
(if x3 = 0 then
  f_X3_bestRemoval_j102 N (f_X3_bestRemoval_l11 N  n11) v1 v2 v3 S_ else
  (zx_b1 (f_X3_copyState N 380 380 0 0 (S_ 1) (S_ 2)) (fun g8 =>
(zx_n (zx_st S_ 2 g8) (fun T10 =>
(zx_b2 (f_X3_removeOn N 2 v3 T10) (fun x11 T12 =>
(zx_b2 (f_X3_overlap N 2 T12) (fun x14 T15 =>
(if v1 = (-1) then
  f_X3_bestRemoval_j72 N (f_X3_bestRemoval_l11 N  n11) v1 v2 v3 x14 T15 else
  (if v2 ≤ x14 then
  f_X3_bestRemoval_j77 N (f_X3_bestRemoval_l11 N  n11) v1 v2 v3 x14 0 T15 else
  f_X3_bestRemoval_j72 N (f_X3_bestRemoval_l11 N  n11) v1 v2 v3 x14 T15))))))))))))))
def f_X3_bestRemoval (N : Nat) (S : zx_S) : Option (Int32 × zx_S) :=
  (zx_n (zx_st S 12 (upd (S 12) 0 0)) (fun T19 =>
f_X3_bestRemoval_l11 N  N (-1) 0 0 T19))
abbrev rmX3_bestRemoval : Room := { frames := 9, cells := 0, slots := 0, locals := 215 }
abbrev zsX3_bestRemoval : List Cond := .code yX3_bestRemoval cX3_bestRemoval 6 (some .int) :: wsL_law
theorem zyX3_bestRemoval : yX3_bestRemoval.cls ≠ "java/lang/invoke/MethodHandle" ∧ yX3_bestRemoval.cls ≠ "java/lang/invoke/VarHandle" ∧ (parseMethodDescriptor yX3_bestRemoval.desc).map (fun d => d.parameters.length) = some 0 := by decide +kernel
set_option maxHeartbeats 4000000 in
set_option maxRecDepth 100000 in
theorem c_X3_bestRemoval (l : Launch) (D : va_G) (cI cZ cT : ClassId) (h : Nat) (ad : Nat → Nat) (S : zx_S) (sz : Nat) (N : Nat) {R : Int32 × zx_S} (hM : f_X3_bestRemoval N S = some R) : Met l yX3_bestRemoval zsX3_bestRemoval rmX3_bestRemoval (va_Pc [.ref h] (bS D (zx_ty cI cZ cT) (xW3 cI cZ h ad S) sz)) (va_Qi (fun r u => R = (r, u)) (fun u t => va_P D vwCl (xW3 cI cZ h ad u) t.heap) (va_A (xW3 cI cZ h ad S) sz)) 0 0 (va_A (xW3 cI cZ h ad S) sz) := by
  refine Met.ofW (cc := cX3_bestRemoval) (maxL := 6) (ret := (some .int)) (by decide) rfl ?_
  intro p e s m args below meth c s₁ B hml hv
  obtain ⟨rfl, hsz, hP, hK, hD0, hN⟩ := hv
  have hx := B.exec
  have hb := B.bytes
  have hr := B.returns
  have hts : ∀ w ∈ wsL_law, w.before _ s = true := fun w hw => atoms_spec (ws := zsX3_bestRemoval) B.pre w (List.mem_cons_of_mem _ hw)
  have hown : s.vm.findClass RX3 = some m.cls := findClass_of_methodNamed B.named
  have hlocks := B.notSynchronized
  subst hsz
  have hD := hD0.self (sz := s.heap.size)
  generalize hAe : va_A (xW3 cI cZ h ad S) s.heap.size = A at hD ⊢
  have hA : ∀ q : Nat, s.heap.size ≤ q → A q := fun q h => by rw [← hAe]; exact Or.inr h
  have hS : va_S A s.heap s.heap [] := va_S.rf
  have hl := lv_entry ([.ref h]) (n := 6) (Nat.le_of_ble_eq_true rfl)
  rw [lg_entry_eq]
  generalize (lg_sl ([.ref h]) ++ List.replicate (6 - (lg_sl ([.ref h])).length) Slot.unset).toArray = ls at hl ⊢
  have hl : lv_has ls 6 [(0, .ref h)] := hl
  generalize hQ : MQ below (va_Qi (fun r u => R = (r, u)) (fun u t => va_P D vwCl (xW3 cI cZ h ad u) t.heap) A) ([.ref h] : List Value).toArray s 0 0 A = Q9
  replace hQ := hQ.symm
  unfold f_X3_bestRemoval at hM
  have l11 : ∀ (n11 : Nat) (v1 : Int32) (v2 : Int32) (v3 : Int32) (S_ : zx_S) (H : Heap) (lc : List Loc) (ls : Array Slot), va_P D vwCl (xW3 cI cZ h ad S_) H → va_D A (xW3 cI cZ h ad S_) → va_S A s.heap H lc → lv_has ls 6 [(0, .ref h), (1, .int v1), (2, .int v2), (3, .int v3)] → f_X3_bestRemoval_l11 N n11 v1 v2 v3 S_ = some R → W p l e (headSpec zsX3_bestRemoval rmX3_bestRemoval).room s m ([.ref h] : List Value).toArray below meth c H lc 0 0 Q9 (F0 m 11 ls []) := by
    intro n11
    induction n11 with
    | zero =>
      intro v1 v2 v3 S_ H lc ls hP hD hS hl hM
      rw [f_X3_bestRemoval_l11] at hM; exact absurd hM (by intro h; cases h)
    | succ n11 ih11 =>
      intro v1 v2 v3 S_ H lc ls hP hD hS hl hM
      rw [f_X3_bestRemoval_l11] at hM
      refine lv_iload_n hx hb dX3_bestRemoval_11 rfl (lv_at hl 3 rfl) ?_
      refine lv_bipush (v := 24) hx hb dX3_bestRemoval_12 (by decide) ?_
      refine lv_icmp_ge (tgt := 108) hx hb dX3_bestRemoval_14 (by decide) (fun q1 => ?_) (fun q1 => ?_)
      · replace hM := zx_t q1 hM
        refine lv_iload_n hx hb dX3_bestRemoval_108 rfl (lv_at hl 1 rfl) ?_
        rw [hQ]
        exact W.iret hx hb hr (fun t ht hW => ⟨⟨v1, S_, rfl, (Option.some.inj hM).symm, by show va_P D vwCl _ t.heap; rw [ht]; exact hP⟩, hS.F ht⟩) hS.2.2 dX3_bestRemoval_109
      · replace hM := zx_f q1 hM
        have j102 : ∀ (v1 : Int32) (v2 : Int32) (v3 : Int32) (S_ : zx_S) (H : Heap) (lc : List Loc) (ls : Array Slot), va_P D vwCl (xW3 cI cZ h ad S_) H → va_D A (xW3 cI cZ h ad S_) → va_S A s.heap H lc → lv_has ls 6 [(0, .ref h), (1, .int v1), (2, .int v2), (3, .int v3)] → f_X3_bestRemoval_j102 N (f_X3_bestRemoval_l11 N  n11) v1 v2 v3 S_ = some R → W p l e (headSpec zsX3_bestRemoval rmX3_bestRemoval).room s m ([.ref h] : List Value).toArray below meth c H lc 0 0 Q9 (F0 m 102 ls []) := by
          intro v1 v2 v3 S_ H lc ls hP hD hS hl hM
          unfold f_X3_bestRemoval_j102 at hM
          obtain ⟨x2, ex2, hM⟩ := zx_nE hM
          refine lv_iinc (v := x2) (lv' := [(3, .int x2), (0, .ref h), (1, .int v1), (2, .int v2)]) hx hb dX3_bestRemoval_102 hl (k := 3) rfl (by rw [ex2]; rfl) (by decide) rfl (fun ls hl => ?_)
          refine lv_goto (tgt := 11) hx hb dX3_bestRemoval_105 (by decide) ?_
          exact ih11 v1 v2 x2 S_ _ _ _ hP hD hS (lv_sub hl [1, 2, 3, 0] rfl) hM
        refine lv_aload_n hx hb dX3_bestRemoval_17 rfl (lv_at hl 0 rfl) ?_
        refine va_get (D := D) (ci := 3) (v := .ref (ad 1)) (C := RX3) (T := TX3) (N := 20) hx hb hts inlX3 hown hK hP 0 rfl rfl 3 (by decide) (hts _ zw_3_19) (fun _ h9 => h9) rfl dX3_bestRemoval_18 ?_
        refine lv_iload_n hx hb dX3_bestRemoval_21 rfl (lv_at hl 3 rfl) ?_
        obtain ⟨x3, hz4, hM⟩ := zx_b1E hM
        refine va_calli (va_runS (As := [.ref (ad 1), .int v3]) (rest := []) ⟨hx, hb, hml, hown, hts⟩ (c_X3_isThere l D cI cZ cT (ad 1) 380 (S_ 1) _ N v3 hz4) (va_cwS 2 hts (zg_S zw_16_14 zw_16_15 zw_1_5 zw_16_16) rfl rfl rfl zyX3_isThere ⟨Nat.le_of_ble_eq_true rfl, Nat.le_of_ble_eq_true rfl⟩) ⟨bS_blind, bS_pre (zx_P1 hP 2 (rfl)) hK (zx_D1 hD 2 (rfl)) hN⟩ rfl rfl hl.1 rfl (lv_room (Nat.le_of_ble_eq_true rfl)) dX3_bestRemoval_22 ⟨Nat.zero_le _, Nat.zero_le _⟩) hS (fun q h1 h2 => absurd h1 (Nat.not_lt.mpr h2)) (fun q h => hA q (Nat.le_trans hS.1 h)) (fun r u t H1 lc ht hvm hw hB hz1 hk1 hS => ?_)
        replace hw : x3 = r := hw; subst hw
        replace hP := zx_keep hP hk1
        refine lv_if_eq (tgt := 102) hx hb dX3_bestRemoval_25 (by decide) (fun q5 => ?_) (fun q5 => ?_)
        · replace hM := zx_t q5 hM
          exact j102 v1 v2 v3 S_ _ _ _ hP hD hS (lv_sub hl [0, 1, 2, 3] rfl) hM
        · replace hM := zx_f q5 hM
          have j77 : ∀ (v1 : Int32) (v2 : Int32) (v3 : Int32) (v4 : Int32) (t0 : Int32) (S_ : zx_S) (H : Heap) (lc : List Loc) (ls : Array Slot), va_P D vwCl (xW3 cI cZ h ad S_) H → va_D A (xW3 cI cZ h ad S_) → va_S A s.heap H lc → lv_has ls 6 [(0, .ref h), (1, .int v1), (2, .int v2), (3, .int v3), (4, .int v4)] → f_X3_bestRemoval_j77 N (f_X3_bestRemoval_l11 N  n11) v1 v2 v3 v4 t0 S_ = some R → W p l e (headSpec zsX3_bestRemoval rmX3_bestRemoval).room s m ([.ref h] : List Value).toArray below meth c H lc 0 0 Q9 (F0 m 77 ls [.int t0]) := by
            intro v1 v2 v3 v4 t0 S_ H lc ls hP hD hS hl hM
            unfold f_X3_bestRemoval_j77 at hM
            have j89 : ∀ (v2 : Int32) (v3 : Int32) (v4 : Int32) (v5 : Int32) (t0 : Int32) (S_ : zx_S) (H : Heap) (lc : List Loc) (ls : Array Slot), va_P D vwCl (xW3 cI cZ h ad S_) H → va_D A (xW3 cI cZ h ad S_) → va_S A s.heap H lc → lv_has ls 6 [(0, .ref h), (2, .int v2), (3, .int v3), (4, .int v4), (5, .int v5)] → f_X3_bestRemoval_j89 N (f_X3_bestRemoval_l11 N  n11) v2 v3 v4 v5 t0 S_ = some R → W p l e (headSpec zsX3_bestRemoval rmX3_bestRemoval).room s m ([.ref h] : List Value).toArray below meth c H lc 0 0 Q9 (F0 m 89 ls [.int t0]) := by
              intro v2 v3 v4 v5 t0 S_ H lc ls hP hD hS hl hM
              unfold f_X3_bestRemoval_j89 at hM
              have j101 : ∀ (v1 : Int32) (v3 : Int32) (t0 : Int32) (S_ : zx_S) (H : Heap) (lc : List Loc) (ls : Array Slot), va_P D vwCl (xW3 cI cZ h ad S_) H → va_D A (xW3 cI cZ h ad S_) → va_S A s.heap H lc → lv_has ls 6 [(0, .ref h), (1, .int v1), (3, .int v3)] → f_X3_bestRemoval_j101 N (f_X3_bestRemoval_l11 N  n11) v1 v3 t0 S_ = some R → W p l e (headSpec zsX3_bestRemoval rmX3_bestRemoval).room s m ([.ref h] : List Value).toArray below meth c H lc 0 0 Q9 (F0 m 101 ls [.int t0]) := by
                intro v1 v3 t0 S_ H lc ls hP hD hS hl hM
                unfold f_X3_bestRemoval_j101 at hM
                refine lv_istore_n (lv' := [(2, .int t0), (0, .ref h), (1, .int v1), (3, .int v3)]) hx hb dX3_bestRemoval_101 rfl hl (by decide) rfl (fun ls hl => ?_)
                exact j102 v1 t0 v3 S_ _ _ _ hP hD hS (lv_sub hl [1, 2, 0, 3] rfl) hM
              refine lv_istore_n (lv' := [(1, .int t0), (0, .ref h), (2, .int v2), (3, .int v3), (4, .int v4), (5, .int v5)]) hx hb dX3_bestRemoval_89 rfl hl (by decide) rfl (fun ls hl => ?_)
              refine lv_iload hx hb dX3_bestRemoval_90 (lv_at hl 5 rfl) ?_
              refine lv_if_eq (tgt := 100) hx hb dX3_bestRemoval_92 (by decide) (fun q6 => ?_) (fun q6 => ?_)
              · replace hM := zx_t q6 hM
                refine lv_iload_n hx hb dX3_bestRemoval_100 rfl (lv_at hl 2 rfl) ?_
                exact j101 t0 v3 v2 S_ _ _ _ hP hD hS (lv_sub hl [1, 0, 3] rfl) hM
              · replace hM := zx_f q6 hM
                refine lv_iload hx hb dX3_bestRemoval_95 (lv_at hl 4 rfl) ?_
                refine lv_goto (tgt := 101) hx hb dX3_bestRemoval_97 (by decide) ?_
                exact j101 t0 v3 v4 S_ _ _ _ hP hD hS (lv_sub hl [1, 0, 3] rfl) hM
            refine lv_istore (lv' := [(5, .int t0), (0, .ref h), (1, .int v1), (2, .int v2), (3, .int v3), (4, .int v4)]) hx hb dX3_bestRemoval_77 hl (by decide) rfl (fun ls hl => ?_)
            refine lv_iload hx hb dX3_bestRemoval_79 (lv_at hl 0 rfl) ?_
            refine lv_if_eq (tgt := 88) hx hb dX3_bestRemoval_81 (by decide) (fun q7 => ?_) (fun q7 => ?_)
            · replace hM := zx_t q7 hM
              refine lv_iload_n hx hb dX3_bestRemoval_88 rfl (lv_at hl 2 rfl) ?_
              exact j89 v2 v3 v4 t0 v1 S_ _ _ _ hP hD hS (lv_sub hl [1, 3, 4, 5, 0] rfl) hM
            · replace hM := zx_f q7 hM
              refine lv_iload_n hx hb dX3_bestRemoval_84 rfl (lv_at hl 4 rfl) ?_
              refine lv_goto (tgt := 89) hx hb dX3_bestRemoval_85 (by decide) ?_
              exact j89 v2 v3 v4 t0 v3 S_ _ _ _ hP hD hS (lv_sub hl [1, 3, 4, 5, 0] rfl) hM
          have j72 : ∀ (v1 : Int32) (v2 : Int32) (v3 : Int32) (v4 : Int32) (S_ : zx_S) (H : Heap) (lc : List Loc) (ls : Array Slot), va_P D vwCl (xW3 cI cZ h ad S_) H → va_D A (xW3 cI cZ h ad S_) → va_S A s.heap H lc → lv_has ls 6 [(0, .ref h), (1, .int v1), (2, .int v2), (3, .int v3), (4, .int v4)] → f_X3_bestRemoval_j72 N (f_X3_bestRemoval_l11 N  n11) v1 v2 v3 v4 S_ = some R → W p l e (headSpec zsX3_bestRemoval rmX3_bestRemoval).room s m ([.ref h] : List Value).toArray below meth c H lc 0 0 Q9 (F0 m 72 ls []) := by
            intro v1 v2 v3 v4 S_ H lc ls hP hD hS hl hM
            unfold f_X3_bestRemoval_j72 at hM
            refine lv_iconst (v := 1) hx hb dX3_bestRemoval_72 (by decide) ?_
            refine lv_goto (tgt := 77) hx hb dX3_bestRemoval_73 (by decide) ?_
            exact j77 v1 v2 v3 v4 1 S_ _ _ _ hP hD hS (lv_sub hl [0, 1, 2, 3, 4] rfl) hM
          refine lv_aload_n hx hb dX3_bestRemoval_28 rfl (lv_at hl 0 rfl) ?_
          refine va_get (D := D) (ci := 3) (v := .ref (ad 1)) (C := RX3) (T := TX3) (N := 20) hx hb hts inlX3 hown hK hP 0 rfl rfl 3 (by decide) (hts _ zw_3_19) (fun _ h9 => h9) rfl dX3_bestRemoval_29 ?_
          refine lv_iconst (v := 0) hx hb dX3_bestRemoval_32 (by decide) ?_
          refine lv_aload_n hx hb dX3_bestRemoval_33 rfl (lv_at hl 0 rfl) ?_
          refine va_get (D := D) (ci := 3) (v := .ref (ad 2)) (C := RX3) (T := TX3) (N := 20) hx hb hts inlX3 hown hK hP 0 rfl rfl 4 (by decide) (hts _ zw_3_20) (fun _ h9 => h9) rfl dX3_bestRemoval_34 ?_
          refine lv_iconst (v := 0) hx hb dX3_bestRemoval_37 (by decide) ?_
          obtain ⟨g8, hz9, hM⟩ := zx_b1E hM
          refine va_callv (va_runS (As := [.ref (ad 1), .int 0, .ref (ad 2), .int 0]) (rest := []) ⟨hx, hb, hml, hown, hts⟩ (c_X3_copyState l D cI cZ cT (ad 1) 380 (S_ 1) (ad 2) 380 (S_ 2) _ N 0 0 hz9) (va_cwS 4 hts (zg_S zw_23_4 zw_23_5 zw_1_5 zw_23_6) rfl rfl rfl zyX3_copyState ⟨Nat.le_of_ble_eq_true rfl, Nat.le_of_ble_eq_true rfl⟩) ⟨bS_blind, bS_pre (zx_P2 hP 2 3 (rfl) (rfl)) hK (zx_D2 hD 2 3 (rfl) (rfl) (by decide)) hN⟩ rfl rfl hl.1 rfl (lv_room (Nat.le_of_ble_eq_true rfl)) dX3_bestRemoval_38 ⟨Nat.zero_le _, Nat.zero_le _⟩) hS (fun q _ h => zx_f2 hD hS hA (k := 2) (j := 3) rfl rfl q h) (fun q h => zx_f2 hD hS hA (k := 2) (j := 3) rfl rfl q h) (fun u t H1 lc ht hvm hw hB hz1 hk1 hS => ?_)
          replace hw : g8 = u := hw; subst hw
          rw [ht] at hB
          replace hP := zx_set2 (k := 3) (j := 2) (by decide) hP hD rfl rfl hk1 hB
          replace hD := va_D.set (p := 3) (e := .inl (cI, 380, .inl g8)) hD rfl
          rw [xW3_pa2] at hP hD
          obtain ⟨T10, eT10, hM⟩ := zx_nE hM
          rw [← eT10] at hP hD
          refine lv_aload_n hx hb dX3_bestRemoval_41 rfl (lv_at hl 0 rfl) ?_
          refine lv_aload_n hx hb dX3_bestRemoval_42 rfl (lv_at hl 0 rfl) ?_
          refine va_get (D := D) (ci := 3) (v := .ref (ad 2)) (C := RX3) (T := TX3) (N := 20) hx hb hts inlX3 hown hK hP 0 rfl rfl 4 (by decide) (hts _ zw_3_20) (fun _ h9 => h9) rfl dX3_bestRemoval_43 ?_
          refine lv_iload_n hx hb dX3_bestRemoval_46 rfl (lv_at hl 3 rfl) ?_
          obtain ⟨x11, T12, hz13, hM⟩ := zx_b2E hM
          refine va_calli (va_runV (As := [.ref (ad 2), .int v3]) (rest := []) ⟨hx, hb, hml, hown, hts⟩ (c_X3_removeOn l D cI cZ cT h ad T10 _ N 2 (Or.inr rfl) v3  hz13) (cwV 2 hts (zg_V zw_24_18 zw_24_19 zw_24_20 zw_1_5 zw_24_21) rfl rfl rfl ⟨rfl, zyX3_removeOn⟩ ⟨Nat.le_of_ble_eq_true rfl, Nat.le_of_ble_eq_true rfl⟩) ⟨bS_blind, va_recv hK hP (ci := 3) (q0 := 0) rfl rfl, bS_pre hP hK hD hN⟩ rfl rfl hl.1 rfl (lv_room (Nat.le_of_ble_eq_true rfl)) dX3_bestRemoval_47 ⟨Nat.zero_le _, Nat.zero_le _⟩) hS (fun q _ h => zx_fW hD hS hA q h) (fun q h => zx_fW hD hS hA q h) (fun r u t H1 lc ht hvm hw hB hz1 hk1 hS => ?_)
          obtain ⟨hw1, hw2⟩ := Prod.mk.inj hw; subst hw1; subst hw2
          rw [ht] at hB
          replace hP := hB
          replace hD := xW3_D T12 hD
          refine lv_pop hx hb dX3_bestRemoval_50 rfl ?_
          refine lv_aload_n hx hb dX3_bestRemoval_51 rfl (lv_at hl 0 rfl) ?_
          refine lv_aload_n hx hb dX3_bestRemoval_52 rfl (lv_at hl 0 rfl) ?_
          refine va_get (D := D) (ci := 3) (v := .ref (ad 2)) (C := RX3) (T := TX3) (N := 20) hx hb hts inlX3 hown hK hP 0 rfl rfl 4 (by decide) (hts _ zw_3_20) (fun _ h9 => h9) rfl dX3_bestRemoval_53 ?_
          obtain ⟨x14, T15, hz16, hM⟩ := zx_b2E hM
          refine va_calli (va_runV (As := [.ref (ad 2)]) (rest := []) ⟨hx, hb, hml, hown, hts⟩ (c_X3_overlap l D cI cZ cT h ad T12 _ N 2 (Or.inr rfl)  hz16) (cwV 1 hts (zg_V zw_14_19 zw_14_20 zw_14_21 zw_1_5 zw_14_22) rfl rfl rfl ⟨rfl, zyX3_overlap⟩ ⟨Nat.le_of_ble_eq_true rfl, Nat.le_of_ble_eq_true rfl⟩) ⟨bS_blind, va_recv hK hP (ci := 3) (q0 := 0) rfl rfl, bS_pre hP hK hD hN⟩ rfl rfl hl.1 rfl (lv_room (Nat.le_of_ble_eq_true rfl)) dX3_bestRemoval_56 ⟨Nat.zero_le _, Nat.zero_le _⟩) hS (fun q _ h => zx_fW hD hS hA q h) (fun q h => zx_fW hD hS hA q h) (fun r u t H1 lc ht hvm hw hB hz1 hk1 hS => ?_)
          obtain ⟨hw1, hw2⟩ := Prod.mk.inj hw; subst hw1; subst hw2
          rw [ht] at hB
          replace hP := hB
          replace hD := xW3_D T15 hD
          refine lv_istore (lv' := [(4, .int x14), (0, .ref h), (1, .int v1), (2, .int v2), (3, .int v3)]) hx hb dX3_bestRemoval_59 hl (by decide) rfl (fun ls hl => ?_)
          refine lv_iload_n hx hb dX3_bestRemoval_61 rfl (lv_at hl 2 rfl) ?_
          refine lv_iconst (v := (-1)) hx hb dX3_bestRemoval_62 (by decide) ?_
          refine lv_icmp_eq (tgt := 72) hx hb dX3_bestRemoval_63 (by decide) (fun q17 => ?_) (fun q17 => ?_)
          · replace hM := zx_t q17 hM
            exact j72 v1 v2 v3 x14 T15 _ _ _ hP hD hS (lv_sub hl [1, 2, 3, 4, 0] rfl) hM
          · replace hM := zx_f q17 hM
            refine lv_iload hx hb dX3_bestRemoval_66 (lv_at hl 0 rfl) ?_
            refine lv_iload_n hx hb dX3_bestRemoval_68 rfl (lv_at hl 3 rfl) ?_
            refine lv_icmp_ge (tgt := 76) hx hb dX3_bestRemoval_69 (by decide) (fun q18 => ?_) (fun q18 => ?_)
            · replace hM := zx_t q18 hM
              refine lv_iconst (v := 0) hx hb dX3_bestRemoval_76 (by decide) ?_
              exact j77 v1 v2 v3 x14 0 T15 _ _ _ hP hD hS (lv_sub hl [1, 2, 3, 4, 0] rfl) hM
            · replace hM := zx_f q18 hM
              exact j72 v1 v2 v3 x14 T15 _ _ _ hP hD hS (lv_sub hl [1, 2, 3, 4, 0] rfl) hM
  refine lv_aload_n hx hb dX3_bestRemoval_0 rfl (lv_at hl 0 rfl) ?_
  refine lv_iconst (v := 0) hx hb dX3_bestRemoval_1 (by decide) ?_
  obtain ⟨T19, eT19, hM⟩ := zx_nE hM
  refine va_put (D := D) (ci := 3) (v := .int 0) (ty := .int) (C := RX3) (T := TX3) (N := 20) hx hb hts inlX3 tyX3 tyX3_ok nmX3 hown hK hP hD hS 0 rfl rfl 0 (by decide) (hts _ zw_5_18) (fun _ h9 => h9) rfl (by decide +kernel) rfl rfl (Nat.le_of_ble_eq_true rfl) dX3_bestRemoval_2 (fun H lc hP hD hS => ?_)
  replace hP : va_P D vwCl (xW3 cI cZ h ad T19) H := by rw [eT19]; exact hP
  replace hD : va_D A (xW3 cI cZ h ad T19) := by rw [eT19]; exact hD
  refine lv_iconst (v := (-1)) hx hb dX3_bestRemoval_5 (by decide) ?_
  refine lv_istore_n (lv' := [(1, .int (-1)), (0, .ref h)]) hx hb dX3_bestRemoval_6 rfl hl (by decide) rfl (fun ls hl => ?_)
  refine lv_iconst (v := 0) hx hb dX3_bestRemoval_7 (by decide) ?_
  refine lv_istore_n (lv' := [(2, .int 0), (1, .int (-1)), (0, .ref h)]) hx hb dX3_bestRemoval_8 rfl hl (by decide) rfl (fun ls hl => ?_)
  refine lv_iconst (v := 0) hx hb dX3_bestRemoval_9 (by decide) ?_
  refine lv_istore_n (lv' := [(3, .int 0), (2, .int 0), (1, .int (-1)), (0, .ref h)]) hx hb dX3_bestRemoval_10 rfl hl (by decide) rfl (fun ls hl => ?_)
  exact l11 N (-1) 0 0 T19 _ _ _ hP hD hS (lv_sub hl [3, 2, 1, 0] rfl) hM
