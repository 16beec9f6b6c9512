/-! ShallowBoxes$Tree.putIn(I)V -/
def f_X1_putIn_j137 (N : Nat) (k4 : Int32 → Int32 → zx_S → Option (zx_S)) (v2 : Int32) (v3 : Int32) (S_ : zx_S) : Option (zx_S) :=
  (zx_n (v3 + 1) (fun x3 =>
k4 v2 x3 S_))
def f_X1_putIn_j125 (N : Nat) (k4 : Int32 → Int32 → zx_S → Option (zx_S)) (k59 : Int32 → Int32 → Int32 → Int32 → zx_S → Option (zx_S)) (v2 : Int32) (v3 : Int32) (v4 : Int32) (v5 : Int32) (S_ : zx_S) : Option (zx_S) :=
  (zx_b1 (f_X1_fitUpward N v4 S_) (fun T8 =>
(zx_n (v5 + 1) (fun x10 =>
k59 v2 v3 v4 x10 T8))))
def f_X1_putIn_j117 (N : Nat) (k4 : Int32 → Int32 → zx_S → Option (zx_S)) (k59 : Int32 → Int32 → Int32 → Int32 → zx_S → Option (zx_S)) (v2 : Int32) (v3 : Int32) (v4 : Int32) (v5 : Int32) (S_ : zx_S) : Option (zx_S) :=
  (zx_b2 (f_X1_split N v4 S_) (fun x11 T12 =>
f_X1_putIn_j125 N k4 k59 v2 v3 x11 v5 T12))
def f_X1_putIn_l59 (N : Nat) (k4 : Int32 → Int32 → zx_S → Option (zx_S)) : Nat → Int32 → Int32 → Int32 → Int32 → zx_S → Option (zx_S)
  | 0, _, _, _, _, _ => none
  | n59 + 1, v2, v3, v4, v5, S_ => (if 8 ≤ v5 then
  f_X1_putIn_j137 N k4 v2 v3 S_ else
  (zx_b1 (f_X2_get N 49 v4 (S_ 3)) (fun x5 =>
(if x5 ≤ 4 then
  f_X1_putIn_j137 N k4 v2 v3 S_ else
  (if v4 = (S_ 10 0) then
  f_X1_putIn_j117 N k4 (f_X1_putIn_l59 N k4  n59) v2 v3 v4 v5 S_ else
  (zx_b1 (f_X2_get N 49 v4 (S_ 1)) (fun x15 =>
(zx_b1 (f_X2_get N 8 x15 (S_ 5)) (fun x17 =>
(if x17 = 0 then
  (zx_b2 (f_X1_throwOut N v4 S_) (fun x20 T21 =>
f_X1_putIn_j125 N k4 (f_X1_putIn_l59 N k4  n59) x20 v3 v4 v5 T21)) else
  f_X1_putIn_j117 N k4 (f_X1_putIn_l59 N k4  n59) v2 v3 v4 v5 S_))))))))))
def f_X1_putIn_l4 (N : Nat) : Nat → Int32 → Int32 → zx_S → Option (zx_S)
  | 0, _, _, _ => none
  | n4 + 1, v2, v3, S_ => (if 8 < v3 then
  some S_ else
  (if v2 = (-1) then
  some S_ else
  (zx_b1 (f_X2_get N 49 v2 (S_ 1)) (fun x23 =>
(zx_b1 (f_X1_reached N v2 (x23 + 1) S_) (fun x25 =>
(zx_b1 (f_X2_get N 49 x25 (S_ 3)) (fun x27 =>
(zx_b1 (f_X1_attach N x25 x27 v2 S_) (fun T29 =>
(zx_b1 (f_X1_fitUpward N x25 T29) (fun T31 =>
f_X1_putIn_l59 N (f_X1_putIn_l4 N  n4) N (-1) v3 x25 0 T31))))))))))))
def f_X1_putIn (N : Nat) (p1 : Int32) (S : zx_S) : Option (zx_S) :=
  f_X1_putIn_l4 N  N p1 0 S
abbrev rmX1_putIn : Room := { frames := 4, cells := 0, slots := 0, locals := 102 }
abbrev zsX1_putIn : List Cond := .code yX1_putIn cX1_putIn 6 none :: wsL_law
theorem zyX1_putIn : yX1_putIn.cls ≠ "java/lang/invoke/MethodHandle" ∧ yX1_putIn.cls ≠ "java/lang/invoke/VarHandle" ∧ (parseMethodDescriptor yX1_putIn.desc).map (fun d => d.parameters.length) = some 1 := by decide +kernel
set_option maxHeartbeats 4000000 in
set_option maxRecDepth 100000 in
theorem c_X1_putIn (l : Launch) (D : va_G) (cI cZ cT : ClassId) (h : Nat) (ad : Nat → Nat) (S : zx_S) (sz : Nat) (N : Nat) (p1 : Int32) {R : zx_S} (hM : f_X1_putIn N p1 S = some R) : Met l yX1_putIn zsX1_putIn rmX1_putIn (va_Pc [.ref h, .int p1] (bS D (zx_ty cI cZ cT) (xW1 cI h ad S) sz)) (va_Qv (fun u => R = u) (fun u t => va_P D vwCl (xW1 cI h ad u) t.heap) (va_A (xW1 cI h ad S) sz)) 0 0 (va_A (xW1 cI h ad S) sz) := by
  refine Met.ofW (cc := cX1_putIn) (maxL := 6) (ret := none) (by decide) rfl ?_
  intro p e s m args below meth c s₁ B hml hv
  obtain ⟨rfl, hsz, hP, hK, hD0, hN⟩ := hv
  have hx := B.exec
  have hb := B.bytes
  have hr := B.returns
  have hts : ∀ w ∈ wsL_law, w.before _ s = true := fun w hw => atoms_spec (ws := zsX1_putIn) B.pre w (List.mem_cons_of_mem _ hw)
  have hown : s.vm.findClass RX1 = some m.cls := findClass_of_methodNamed B.named
  have hlocks := B.notSynchronized
  subst hsz
  have hD := hD0.self (sz := s.heap.size)
  generalize hAe : va_A (xW1 cI h ad S) s.heap.size = A at hD ⊢
  have hA : ∀ q : Nat, s.heap.size ≤ q → A q := fun q h => by rw [← hAe]; exact Or.inr h
  have hS : va_S A s.heap s.heap [] := va_S.rf
  have hl := lv_entry ([.ref h, .int p1]) (n := 6) (Nat.le_of_ble_eq_true rfl)
  rw [lg_entry_eq]
  generalize (lg_sl ([.ref h, .int p1]) ++ List.replicate (6 - (lg_sl ([.ref h, .int p1])).length) Slot.unset).toArray = ls at hl ⊢
  have hl : lv_has ls 6 [(0, .ref h), (1, .int p1)] := hl
  generalize hQ : MQ below (va_Qv (fun u => R = u) (fun u t => va_P D vwCl (xW1 cI h ad u) t.heap) A) ([.ref h, .int p1] : List Value).toArray s 0 0 A = Q9
  replace hQ := hQ.symm
  unfold f_X1_putIn at hM
  have l4 : ∀ (n4 : Nat) (v2 : Int32) (v3 : Int32) (S_ : zx_S) (H : Heap) (lc : List Loc) (ls : Array Slot), va_P D vwCl (xW1 cI h ad S_) H → va_D A (xW1 cI h ad S_) → va_S A s.heap H lc → lv_has ls 6 [(0, .ref h), (2, .int v2), (3, .int v3)] → f_X1_putIn_l4 N n4 v2 v3 S_ = some R → W p l e (headSpec zsX1_putIn rmX1_putIn).room s m ([.ref h, .int p1] : List Value).toArray below meth c H lc 0 0 Q9 (F0 m 4 ls []) := by
    intro n4
    induction n4 with
    | zero =>
      intro v2 v3 S_ H lc ls hP hD hS hl hM
      rw [f_X1_putIn_l4] at hM; exact absurd hM (by intro h; cases h)
    | succ n4 ih4 =>
      intro v2 v3 S_ H lc ls hP hD hS hl hM
      rw [f_X1_putIn_l4] at hM
      refine lv_iload_n hx hb dX1_putIn_4 rfl (lv_at hl 2 rfl) ?_
      refine lv_bipush (v := 8) hx hb dX1_putIn_5 (by decide) ?_
      refine lv_icmp_gt (tgt := 143) hx hb dX1_putIn_7 (by decide) (fun q1 => ?_) (fun q1 => ?_)
      · replace hM := zx_t q1 hM
        rw [hQ]
        exact W.vret hx hb hr (fun t ht hW => ⟨⟨S_, rfl, (Option.some.inj hM).symm, by show va_P D vwCl _ t.heap; rw [ht]; exact hP⟩, hS.F ht⟩) hS.2.2 dX1_putIn_143
      · replace hM := zx_f q1 hM
        refine lv_iload_n hx hb dX1_putIn_10 rfl (lv_at hl 1 rfl) ?_
        refine lv_iconst (v := (-1)) hx hb dX1_putIn_11 (by decide) ?_
        refine lv_icmp_eq (tgt := 143) hx hb dX1_putIn_12 (by decide) (fun q2 => ?_) (fun q2 => ?_)
        · replace hM := zx_t q2 hM
          rw [hQ]
          exact W.vret hx hb hr (fun t ht hW => ⟨⟨S_, rfl, (Option.some.inj hM).symm, by show va_P D vwCl _ t.heap; rw [ht]; exact hP⟩, hS.F ht⟩) hS.2.2 dX1_putIn_143
        · replace hM := zx_f q2 hM
          have l59 : ∀ (n59 : Nat) (v2 : Int32) (v3 : Int32) (v4 : Int32) (v5 : Int32) (S_ : zx_S) (H : Heap) (lc : List Loc) (ls : Array Slot), va_P D vwCl (xW1 cI h ad S_) H → va_D A (xW1 cI h ad S_) → va_S A s.heap H lc → lv_has ls 6 [(0, .ref h), (2, .int v2), (3, .int v3), (4, .int v4), (5, .int v5)] → f_X1_putIn_l59 N (f_X1_putIn_l4 N  n4) n59 v2 v3 v4 v5 S_ = some R → W p l e (headSpec zsX1_putIn rmX1_putIn).room s m ([.ref h, .int p1] : List Value).toArray below meth c H lc 0 0 Q9 (F0 m 59 ls []) := by
            intro n59
            induction n59 with
            | zero =>
              intro v2 v3 v4 v5 S_ H lc ls hP hD hS hl hM
              rw [f_X1_putIn_l59] at hM; exact absurd hM (by intro h; cases h)
            | succ n59 ih59 =>
              intro v2 v3 v4 v5 S_ H lc ls hP hD hS hl hM
              rw [f_X1_putIn_l59] at hM
              have j137 : ∀ (v2 : Int32) (v3 : Int32) (S_ : zx_S) (H : Heap) (lc : List Loc) (ls : Array Slot), va_P D vwCl (xW1 cI h ad S_) H → va_D A (xW1 cI h ad S_) → va_S A s.heap H lc → lv_has ls 6 [(0, .ref h), (2, .int v2), (3, .int v3)] → f_X1_putIn_j137 N (f_X1_putIn_l4 N  n4) v2 v3 S_ = some R → W p l e (headSpec zsX1_putIn rmX1_putIn).room s m ([.ref h, .int p1] : List Value).toArray below meth c H lc 0 0 Q9 (F0 m 137 ls []) := by
                intro v2 v3 S_ H lc ls hP hD hS hl hM
                unfold f_X1_putIn_j137 at hM
                obtain ⟨x3, ex3, hM⟩ := zx_nE hM
                refine lv_iinc (v := x3) (lv' := [(3, .int x3), (0, .ref h), (2, .int v2)]) hx hb dX1_putIn_137 hl (k := 2) rfl (by rw [ex3]; rfl) (by decide) rfl (fun ls hl => ?_)
                refine lv_goto (tgt := 4) hx hb dX1_putIn_140 (by decide) ?_
                exact ih4 v2 x3 S_ _ _ _ hP hD hS (lv_sub hl [1, 2, 0] rfl) hM
              refine lv_iload hx hb dX1_putIn_59 (lv_at hl 4 rfl) ?_
              refine lv_bipush (v := 8) hx hb dX1_putIn_61 (by decide) ?_
              refine lv_icmp_ge (tgt := 137) hx hb dX1_putIn_63 (by decide) (fun q4 => ?_) (fun q4 => ?_)
              · replace hM := zx_t q4 hM
                exact j137 v2 v3 S_ _ _ _ hP hD hS (lv_sub hl [0, 1, 2] rfl) hM
              · replace hM := zx_f q4 hM
                refine lv_aload_n hx hb dX1_putIn_66 rfl (lv_at hl 0 rfl) ?_
                refine va_get (D := D) (ci := 1) (v := .ref (ad 3)) (C := RX1) (T := TX1) (N := 14) hx hb hts inlX1 hown hK hP 0 rfl rfl 3 (by decide) (hts _ zw_2_8) (fun _ h9 => h9) rfl dX1_putIn_67 ?_
                refine lv_iload hx hb dX1_putIn_70 (lv_at hl 3 rfl) ?_
                obtain ⟨x5, hz6, hM⟩ := zx_b1E hM
                refine va_calli (va_runSN (As := [.ref (ad 3), .int v4]) (rest := []) ⟨hx, hb, hml, hown, hts⟩ (c_X2_get l D cI cZ cT (ad 3) 49 (S_ 3) _ N v4 hz6) ⟨va_cnB 2 hts (zg_c zw_3_6) rfl rfl rfl (hN _ (zx_nw_X1_70)) (hts _ zw_1_2) zyX2_get ⟨Nat.le_of_ble_eq_true rfl, Nat.le_of_ble_eq_true rfl⟩, (hts _ zw_3_5), trivial⟩ ⟨bS_blind, bS_pre (zx_P1 hP 4 (rfl)) hK (zx_D1 hD 4 (rfl)) hN⟩ rfl rfl hl.1 rfl (lv_room (Nat.le_of_ble_eq_true rfl)) dX1_putIn_72 ⟨Nat.zero_le _, Nat.zero_le _⟩) hS (fun q h1 h2 => absurd h1 (Nat.not_lt.mpr h2)) (fun q h => hA q (Nat.le_trans hS.1 h)) (fun r u t H1 lc ht hvm hw hB hz1 hk1 hS => ?_)
                replace hw : x5 = r := hw; subst hw
                replace hP := zx_keep hP hk1
                refine lv_iconst (v := 4) hx hb dX1_putIn_75 (by decide) ?_
                refine lv_icmp_le (tgt := 137) hx hb dX1_putIn_76 (by decide) (fun q7 => ?_) (fun q7 => ?_)
                · replace hM := zx_t q7 hM
                  exact j137 v2 v3 S_ _ _ _ hP hD hS (lv_sub hl [0, 1, 2] rfl) hM
                · replace hM := zx_f q7 hM
                  have j125 : ∀ (v2 : Int32) (v3 : Int32) (v4 : Int32) (v5 : Int32) (S_ : zx_S) (H : Heap) (lc : List Loc) (ls : Array Slot), va_P D vwCl (xW1 cI h ad S_) H → va_D A (xW1 cI h ad S_) → va_S A s.heap H lc → lv_has ls 6 [(0, .ref h), (2, .int v2), (3, .int v3), (4, .int v4), (5, .int v5)] → f_X1_putIn_j125 N (f_X1_putIn_l4 N  n4) (f_X1_putIn_l59 N (f_X1_putIn_l4 N  n4)  n59) v2 v3 v4 v5 S_ = some R → W p l e (headSpec zsX1_putIn rmX1_putIn).room s m ([.ref h, .int p1] : List Value).toArray below meth c H lc 0 0 Q9 (F0 m 125 ls []) := by
                    intro v2 v3 v4 v5 S_ H lc ls hP hD hS hl hM
                    unfold f_X1_putIn_j125 at hM
                    refine lv_aload_n hx hb dX1_putIn_125 rfl (lv_at hl 0 rfl) ?_
                    refine lv_iload hx hb dX1_putIn_126 (lv_at hl 3 rfl) ?_
                    obtain ⟨T8, hz9, hM⟩ := zx_b1E hM
                    refine va_callv (va_runV (As := [.int v4]) (rest := []) ⟨hx, hb, hml, hown, hts⟩ (c_X1_fitUpward l D cI cZ cT h ad S_ _ N v4  hz9) (cwV 1 hts (zg_V zw_12_12 zw_12_13 zw_12_14 zw_1_14 zw_12_15) rfl rfl rfl ⟨rfl, zyX1_fitUpward⟩ ⟨Nat.le_of_ble_eq_true rfl, Nat.le_of_ble_eq_true rfl⟩) ⟨bS_blind, va_recv hK hP (ci := 1) (q0 := 0) rfl rfl, bS_pre hP hK hD hN⟩ rfl rfl hl.1 rfl (lv_room (Nat.le_of_ble_eq_true rfl)) dX1_putIn_128 ⟨Nat.zero_le _, Nat.zero_le _⟩) hS (fun q _ h => zx_fW hD hS hA q h) (fun q h => zx_fW hD hS hA q h) (fun u t H1 lc ht hvm hw hB hz1 hk1 hS => ?_)
                    replace hw : T8 = u := hw; subst hw
                    rw [ht] at hB
                    replace hP := hB
                    replace hD := xW1_D T8 hD
                    obtain ⟨x10, ex10, hM⟩ := zx_nE hM
                    refine lv_iinc (v := x10) (lv' := [(5, .int x10), (0, .ref h), (2, .int v2), (3, .int v3), (4, .int v4)]) hx hb dX1_putIn_131 hl (k := 4) rfl (by rw [ex10]; rfl) (by decide) rfl (fun ls hl => ?_)
                    refine lv_goto (tgt := 59) hx hb dX1_putIn_134 (by decide) ?_
                    exact ih59 v2 v3 v4 x10 T8 _ _ _ hP hD hS (lv_sub hl [1, 2, 3, 4, 0] rfl) hM
                  have j117 : ∀ (v2 : Int32) (v3 : Int32) (v4 : Int32) (v5 : Int32) (S_ : zx_S) (H : Heap) (lc : List Loc) (ls : Array Slot), va_P D vwCl (xW1 cI h ad S_) H → va_D A (xW1 cI h ad S_) → va_S A s.heap H lc → lv_has ls 6 [(0, .ref h), (2, .int v2), (3, .int v3), (4, .int v4), (5, .int v5)] → f_X1_putIn_j117 N (f_X1_putIn_l4 N  n4) (f_X1_putIn_l59 N (f_X1_putIn_l4 N  n4)  n59) v2 v3 v4 v5 S_ = some R → W p l e (headSpec zsX1_putIn rmX1_putIn).room s m ([.ref h, .int p1] : List Value).toArray below meth c H lc 0 0 Q9 (F0 m 117 ls []) := by
                    intro v2 v3 v4 v5 S_ H lc ls hP hD hS hl hM
                    unfold f_X1_putIn_j117 at hM
                    refine lv_aload_n hx hb dX1_putIn_117 rfl (lv_at hl 0 rfl) ?_
                    refine lv_iload hx hb dX1_putIn_118 (lv_at hl 3 rfl) ?_
                    obtain ⟨x11, T12, hz13, hM⟩ := zx_b2E hM
                    refine va_calli (va_runV (As := [.int v4]) (rest := []) ⟨hx, hb, hml, hown, hts⟩ (c_X1_split l D cI cZ cT h ad S_ _ N v4  hz13) (cwV 1 hts (zg_V zw_13_12 zw_13_13 zw_13_14 zw_1_14 zw_13_15) rfl rfl rfl ⟨rfl, zyX1_split⟩ ⟨Nat.le_of_ble_eq_true rfl, Nat.le_of_ble_eq_true rfl⟩) ⟨bS_blind, va_recv hK hP (ci := 1) (q0 := 0) rfl rfl, bS_pre hP hK hD hN⟩ rfl rfl hl.1 rfl (lv_room (Nat.le_of_ble_eq_true rfl)) dX1_putIn_120 ⟨Nat.zero_le _, Nat.zero_le _⟩) hS (fun q _ h => zx_fW hD hS hA q h) (fun q h => zx_fW hD hS hA q h) (fun r u t H1 lc ht hvm hw hB hz1 hk1 hS => ?_)
                    obtain ⟨hw1, hw2⟩ := Prod.mk.inj hw; subst hw1; subst hw2
                    rw [ht] at hB
                    replace hP := hB
                    replace hD := xW1_D T12 hD
                    refine lv_istore (lv' := [(4, .int x11), (0, .ref h), (2, .int v2), (3, .int v3), (5, .int v5)]) hx hb dX1_putIn_123 hl (by decide) rfl (fun ls hl => ?_)
                    exact j125 v2 v3 x11 v5 T12 _ _ _ hP hD hS (lv_sub hl [1, 2, 3, 0, 4] rfl) hM
                  refine lv_iload hx hb dX1_putIn_79 (lv_at hl 3 rfl) ?_
                  refine lv_aload_n hx hb dX1_putIn_81 rfl (lv_at hl 0 rfl) ?_
                  refine va_get (D := D) (ci := 1) (v := .int (S_ 10 0)) (C := RX1) (T := TX1) (N := 14) hx hb hts inlX1 hown hK hP 0 rfl rfl 5 (by decide) (hts _ zw_2_22) (fun _ h9 => h9) rfl dX1_putIn_82 ?_
                  refine lv_icmp_eq (tgt := 117) hx hb dX1_putIn_85 (by decide) (fun q14 => ?_) (fun q14 => ?_)
                  · replace hM := zx_t q14 hM
                    exact j117 v2 v3 v4 v5 S_ _ _ _ hP hD hS (lv_sub hl [0, 1, 2, 3, 4] rfl) hM
                  · replace hM := zx_f q14 hM
                    refine lv_aload_n hx hb dX1_putIn_88 rfl (lv_at hl 0 rfl) ?_
                    refine va_get (D := D) (ci := 1) (v := .ref (ad 5)) (C := RX1) (T := TX1) (N := 14) hx hb hts inlX1 hown hK hP 0 rfl rfl 9 (by decide) (hts _ zw_2_10) (fun _ h9 => h9) rfl dX1_putIn_89 ?_
                    refine lv_aload_n hx hb dX1_putIn_92 rfl (lv_at hl 0 rfl) ?_
                    refine va_get (D := D) (ci := 1) (v := .ref (ad 1)) (C := RX1) (T := TX1) (N := 14) hx hb hts inlX1 hown hK hP 0 rfl rfl 1 (by decide) (hts _ zw_2_6) (fun _ h9 => h9) rfl dX1_putIn_93 ?_
                    refine lv_iload hx hb dX1_putIn_96 (lv_at hl 3 rfl) ?_
                    obtain ⟨x15, hz16, hM⟩ := zx_b1E hM
                    refine va_calli (va_runSN (As := [.ref (ad 1), .int v4]) (rest := [.ref (ad 5)]) ⟨hx, hb, hml, hown, hts⟩ (c_X2_get l D cI cZ cT (ad 1) 49 (S_ 1) _ N v4 hz16) ⟨va_cnB 2 hts (zg_c zw_3_6) rfl rfl rfl (hN _ (zx_nw_X1_70)) (hts _ zw_1_2) zyX2_get ⟨Nat.le_of_ble_eq_true rfl, Nat.le_of_ble_eq_true rfl⟩, (hts _ zw_3_5), trivial⟩ ⟨bS_blind, bS_pre (zx_P1 hP 2 (rfl)) hK (zx_D1 hD 2 (rfl)) hN⟩ rfl rfl hl.1 rfl (lv_room (Nat.le_of_ble_eq_true rfl)) dX1_putIn_98 ⟨Nat.zero_le _, Nat.zero_le _⟩) hS (fun q h1 h2 => absurd h1 (Nat.not_lt.mpr h2)) (fun q h => hA q (Nat.le_trans hS.1 h)) (fun r u t H1 lc ht hvm hw hB hz1 hk1 hS => ?_)
                    replace hw : x15 = r := hw; subst hw
                    replace hP := zx_keep hP hk1
                    obtain ⟨x17, hz18, hM⟩ := zx_b1E hM
                    refine va_calli (va_runSN (As := [.ref (ad 5), .int x15]) (rest := []) ⟨hx, hb, hml, hown, hts⟩ (c_X2_get l D cI cZ cT (ad 5) 8 (S_ 5) _ N x15 hz18) ⟨va_cnB 2 hts (zg_c zw_3_6) rfl rfl rfl (hN _ (zx_nw_X1_70)) (hts _ zw_1_2) zyX2_get ⟨Nat.le_of_ble_eq_true rfl, Nat.le_of_ble_eq_true rfl⟩, (hts _ zw_3_5), trivial⟩ ⟨bS_blind, bS_pre (zx_P1 hP 6 (rfl)) hK (zx_D1 hD 6 (rfl)) hN⟩ rfl rfl hl.1 rfl (lv_room (Nat.le_of_ble_eq_true rfl)) dX1_putIn_101 ⟨Nat.zero_le _, Nat.zero_le _⟩) hS (fun q h1 h2 => absurd h1 (Nat.not_lt.mpr h2)) (fun q h => hA q (Nat.le_trans hS.1 h)) (fun r u t H1 lc ht hvm hw hB hz1 hk1 hS => ?_)
                    replace hw : x17 = r := hw; subst hw
                    replace hP := zx_keep hP hk1
                    refine lv_if_ne (tgt := 117) hx hb dX1_putIn_104 (by decide) (fun q19 => ?_) (fun q19 => ?_)
                    · replace hM := zx_f q19 hM
                      exact j117 v2 v3 v4 v5 S_ _ _ _ hP hD hS (lv_sub hl [0, 1, 2, 3, 4] rfl) hM
                    · replace hM := zx_t q19 hM
                      refine lv_aload_n hx hb dX1_putIn_107 rfl (lv_at hl 0 rfl) ?_
                      refine lv_iload hx hb dX1_putIn_108 (lv_at hl 3 rfl) ?_
                      obtain ⟨x20, T21, hz22, hM⟩ := zx_b2E hM
                      refine va_calli (va_runV (As := [.int v4]) (rest := []) ⟨hx, hb, hml, hown, hts⟩ (c_X1_throwOut l D cI cZ cT h ad S_ _ N v4  hz22) (cwV 1 hts (zg_V zw_12_20 zw_12_21 zw_12_22 zw_1_14 zw_12_23) rfl rfl rfl ⟨rfl, zyX1_throwOut⟩ ⟨Nat.le_of_ble_eq_true rfl, Nat.le_of_ble_eq_true rfl⟩) ⟨bS_blind, va_recv hK hP (ci := 1) (q0 := 0) rfl rfl, bS_pre hP hK hD hN⟩ rfl rfl hl.1 rfl (lv_room (Nat.le_of_ble_eq_true rfl)) dX1_putIn_110 ⟨Nat.zero_le _, Nat.zero_le _⟩) hS (fun q _ h => zx_fW hD hS hA q h) (fun q h => zx_fW hD hS hA q h) (fun r u t H1 lc ht hvm hw hB hz1 hk1 hS => ?_)
                      obtain ⟨hw1, hw2⟩ := Prod.mk.inj hw; subst hw1; subst hw2
                      rw [ht] at hB
                      replace hP := hB
                      replace hD := xW1_D T21 hD
                      refine lv_istore_n (lv' := [(2, .int x20), (0, .ref h), (3, .int v3), (4, .int v4), (5, .int v5)]) hx hb dX1_putIn_113 rfl hl (by decide) rfl (fun ls hl => ?_)
                      refine lv_goto (tgt := 125) hx hb dX1_putIn_114 (by decide) ?_
                      exact j125 x20 v3 v4 v5 T21 _ _ _ hP hD hS (lv_sub hl [1, 0, 2, 3, 4] rfl) hM
          refine lv_aload_n hx hb dX1_putIn_15 rfl (lv_at hl 0 rfl) ?_
          refine lv_iload_n hx hb dX1_putIn_16 rfl (lv_at hl 1 rfl) ?_
          refine lv_aload_n hx hb dX1_putIn_17 rfl (lv_at hl 0 rfl) ?_
          refine va_get (D := D) (ci := 1) (v := .ref (ad 1)) (C := RX1) (T := TX1) (N := 14) hx hb hts inlX1 hown hK hP 0 rfl rfl 1 (by decide) (hts _ zw_2_6) (fun _ h9 => h9) rfl dX1_putIn_18 ?_
          refine lv_iload_n hx hb dX1_putIn_21 rfl (lv_at hl 1 rfl) ?_
          obtain ⟨x23, hz24, hM⟩ := zx_b1E hM
          refine va_calli (va_runSN (As := [.ref (ad 1), .int v2]) (rest := [.int v2, .ref h]) ⟨hx, hb, hml, hown, hts⟩ (c_X2_get l D cI cZ cT (ad 1) 49 (S_ 1) _ N v2 hz24) ⟨va_cnB 2 hts (zg_c zw_3_6) rfl rfl rfl (hN _ (zx_nw_X1_70)) (hts _ zw_1_2) zyX2_get ⟨Nat.le_of_ble_eq_true rfl, Nat.le_of_ble_eq_true rfl⟩, (hts _ zw_3_5), trivial⟩ ⟨bS_blind, bS_pre (zx_P1 hP 2 (rfl)) hK (zx_D1 hD 2 (rfl)) hN⟩ rfl rfl hl.1 rfl (lv_room (Nat.le_of_ble_eq_true rfl)) dX1_putIn_22 ⟨Nat.zero_le _, Nat.zero_le _⟩) hS (fun q h1 h2 => absurd h1 (Nat.not_lt.mpr h2)) (fun q h => hA q (Nat.le_trans hS.1 h)) (fun r u t H1 lc ht hvm hw hB hz1 hk1 hS => ?_)
          replace hw : x23 = r := hw; subst hw
          replace hP := zx_keep hP hk1
          refine lv_iconst (v := 1) hx hb dX1_putIn_25 (by decide) ?_
          refine lv_iadd hx hb dX1_putIn_26 ?_
          obtain ⟨x25, hz26, hM⟩ := zx_b1E hM
          refine va_calli (va_runV (As := [.int v2, .int (x23 + 1)]) (rest := []) ⟨hx, hb, hml, hown, hts⟩ (c_X1_reached l D cI cZ cT h ad S_ _ N v2 (x23 + 1)  hz26) (cwV 2 hts (zg_V zw_11_20 zw_11_21 zw_11_22 zw_1_14 zw_11_23) rfl rfl rfl ⟨rfl, zyX1_reached⟩ ⟨Nat.le_of_ble_eq_true rfl, Nat.le_of_ble_eq_true rfl⟩) ⟨bS_blind, va_recv hK hP (ci := 1) (q0 := 0) rfl rfl, bS_pre hP hK hD hN⟩ rfl rfl hl.1 rfl (lv_room (Nat.le_of_ble_eq_true rfl)) dX1_putIn_27 ⟨Nat.zero_le _, Nat.zero_le _⟩) hS (fun q h1 h2 => absurd h1 (Nat.not_lt.mpr h2)) (fun q h => hA q (Nat.le_trans hS.1 h)) (fun r u t H1 lc ht hvm hw hB hz1 hk1 hS => ?_)
          replace hw : x25 = r := hw; subst hw
          replace hP := zx_keep hP hk1
          refine lv_istore (lv' := [(4, .int x25), (0, .ref h), (2, .int v2), (3, .int v3)]) hx hb dX1_putIn_30 hl (by decide) rfl (fun ls hl => ?_)
          refine lv_aload_n hx hb dX1_putIn_32 rfl (lv_at hl 1 rfl) ?_
          refine lv_iload hx hb dX1_putIn_33 (lv_at hl 0 rfl) ?_
          refine lv_aload_n hx hb dX1_putIn_35 rfl (lv_at hl 1 rfl) ?_
          refine va_get (D := D) (ci := 1) (v := .ref (ad 3)) (C := RX1) (T := TX1) (N := 14) hx hb hts inlX1 hown hK hP 0 rfl rfl 3 (by decide) (hts _ zw_2_8) (fun _ h9 => h9) rfl dX1_putIn_36 ?_
          refine lv_iload hx hb dX1_putIn_39 (lv_at hl 0 rfl) ?_
          obtain ⟨x27, hz28, hM⟩ := zx_b1E hM
          refine va_calli (va_runSN (As := [.ref (ad 3), .int x25]) (rest := [.int x25, .ref h]) ⟨hx, hb, hml, hown, hts⟩ (c_X2_get l D cI cZ cT (ad 3) 49 (S_ 3) _ N x25 hz28) ⟨va_cnB 2 hts (zg_c zw_3_6) rfl rfl rfl (hN _ (zx_nw_X1_70)) (hts _ zw_1_2) zyX2_get ⟨Nat.le_of_ble_eq_true rfl, Nat.le_of_ble_eq_true rfl⟩, (hts _ zw_3_5), trivial⟩ ⟨bS_blind, bS_pre (zx_P1 hP 4 (rfl)) hK (zx_D1 hD 4 (rfl)) hN⟩ rfl rfl hl.1 rfl (lv_room (Nat.le_of_ble_eq_true rfl)) dX1_putIn_41 ⟨Nat.zero_le _, Nat.zero_le _⟩) hS (fun q h1 h2 => absurd h1 (Nat.not_lt.mpr h2)) (fun q h => hA q (Nat.le_trans hS.1 h)) (fun r u t H1 lc ht hvm hw hB hz1 hk1 hS => ?_)
          replace hw : x27 = r := hw; subst hw
          replace hP := zx_keep hP hk1
          refine lv_iload_n hx hb dX1_putIn_44 rfl (lv_at hl 2 rfl) ?_
          obtain ⟨T29, hz30, hM⟩ := zx_b1E hM
          refine va_callv (va_runV (As := [.int x25, .int x27, .int v2]) (rest := []) ⟨hx, hb, hml, hown, hts⟩ (c_X1_attach l D cI cZ cT h ad S_ _ N x25 x27 v2  hz30) (cwV 3 hts (zg_V zw_12_8 zw_12_9 zw_12_10 zw_1_14 zw_12_11) rfl rfl rfl ⟨rfl, zyX1_attach⟩ ⟨Nat.le_of_ble_eq_true rfl, Nat.le_of_ble_eq_true rfl⟩) ⟨bS_blind, va_recv hK hP (ci := 1) (q0 := 0) rfl rfl, bS_pre hP hK hD hN⟩ rfl rfl hl.1 rfl (lv_room (Nat.le_of_ble_eq_true rfl)) dX1_putIn_45 ⟨Nat.zero_le _, Nat.zero_le _⟩) hS (fun q _ h => zx_fW hD hS hA q h) (fun q h => zx_fW hD hS hA q h) (fun u t H1 lc ht hvm hw hB hz1 hk1 hS => ?_)
          replace hw : T29 = u := hw; subst hw
          rw [ht] at hB
          replace hP := hB
          replace hD := xW1_D T29 hD
          refine lv_aload_n hx hb dX1_putIn_48 rfl (lv_at hl 1 rfl) ?_
          refine lv_iload hx hb dX1_putIn_49 (lv_at hl 0 rfl) ?_
          obtain ⟨T31, hz32, hM⟩ := zx_b1E hM
          refine va_callv (va_runV (As := [.int x25]) (rest := []) ⟨hx, hb, hml, hown, hts⟩ (c_X1_fitUpward l D cI cZ cT h ad T29 _ N x25  hz32) (cwV 1 hts (zg_V zw_12_12 zw_12_13 zw_12_14 zw_1_14 zw_12_15) rfl rfl rfl ⟨rfl, zyX1_fitUpward⟩ ⟨Nat.le_of_ble_eq_true rfl, Nat.le_of_ble_eq_true rfl⟩) ⟨bS_blind, va_recv hK hP (ci := 1) (q0 := 0) rfl rfl, bS_pre hP hK hD hN⟩ rfl rfl hl.1 rfl (lv_room (Nat.le_of_ble_eq_true rfl)) dX1_putIn_51 ⟨Nat.zero_le _, Nat.zero_le _⟩) hS (fun q _ h => zx_fW hD hS hA q h) (fun q h => zx_fW hD hS hA q h) (fun u t H1 lc ht hvm hw hB hz1 hk1 hS => ?_)
          replace hw : T31 = u := hw; subst hw
          rw [ht] at hB
          replace hP := hB
          replace hD := xW1_D T31 hD
          refine lv_iconst (v := (-1)) hx hb dX1_putIn_54 (by decide) ?_
          refine lv_istore_n (lv' := [(2, .int (-1)), (4, .int x25), (0, .ref h), (3, .int v3)]) hx hb dX1_putIn_55 rfl hl (by decide) rfl (fun ls hl => ?_)
          refine lv_iconst (v := 0) hx hb dX1_putIn_56 (by decide) ?_
          refine lv_istore (lv' := [(5, .int 0), (2, .int (-1)), (4, .int x25), (0, .ref h), (3, .int v3)]) hx hb dX1_putIn_57 hl (by decide) rfl (fun ls hl => ?_)
          exact l59 N (-1) v3 x25 0 T31 _ _ _ hP hD hS (lv_sub hl [3, 1, 4, 2, 0] rfl) hM
  refine lv_iload_n hx hb dX1_putIn_0 rfl (lv_at hl 1 rfl) ?_
  refine lv_istore_n (lv' := [(2, .int p1), (0, .ref h), (1, .int p1)]) hx hb dX1_putIn_1 rfl hl (by decide) rfl (fun ls hl => ?_)
  refine lv_iconst (v := 0) hx hb dX1_putIn_2 (by decide) ?_
  refine lv_istore_n (lv' := [(3, .int 0), (2, .int p1), (0, .ref h), (1, .int p1)]) hx hb dX1_putIn_3 rfl hl (by decide) rfl (fun ls hl => ?_)
  exact l4 N p1 0 S _ _ _ hP hD hS (lv_sub hl [2, 1, 0] rfl) hM

/-! ShallowBoxes$Tree.dissolveUpward(I)I -/
def f_X1_dissolveUpward_j134 (N : Nat) (v2 : Int32) (S_ : zx_S) : Option (Int32 × zx_S) :=
  (zx_b1 (f_X1_fit N (S_ 10 0) S_) (fun T1 =>
some (v2, T1)))
def f_X1_dissolveUpward_j125 (N : Nat) (k7 : Int32 → Int32 → Int32 → zx_S → Option (Int32 × zx_S)) (v2 : Int32) (v4 : Int32) (v5 : Int32) (S_ : zx_S) : Option (Int32 × zx_S) :=
  (zx_n (v4 + 1) (fun x6 =>
k7 v2 v5 x6 S_))
def f_X1_dissolveUpward_j92 (N : Nat) (k7 : Int32 → Int32 → Int32 → zx_S → Option (Int32 × zx_S)) (v2 : Int32) (v3 : Int32) (v4 : Int32) (v5 : Int32) (S_ : zx_S) : Option (Int32 × zx_S) :=
  (zx_b1 (f_X1_detach N v3 S_) (fun T14 =>
(zx_b1 (f_X2_put N 49 v3 (-2) (T14 1)) (fun g16 =>
(zx_n (zx_st T14 1 g16) (fun T18 =>
(zx_n (zx_st T18 10 (upd (T18 10) 3 ((T18 10 3) + 1))) (fun T19 =>
f_X1_dissolveUpward_j125 N k7 v2 v4 v5 T19))))))))
def f_X1_dissolveUpward_l7 (N : Nat) : Nat → Int32 → Int32 → Int32 → zx_S → Option (Int32 × zx_S)
  | 0, _, _, _, _ => none
  | n7 + 1, v2, v3, v4, S_ => (if 8 ≤ v4 then
  f_X1_dissolveUpward_j134 N  v2 S_ else
  (if v3 = (S_ 10 0) then
  f_X1_dissolveUpward_j134 N  v2 S_ else
  (if v3 = (-1) then
  f_X1_dissolveUpward_j134 N  v2 S_ else
  (zx_b1 (f_X2_get N 49 v3 (S_ 2)) (fun x7 =>
(zx_b1 (f_X2_get N 49 v3 (S_ 3)) (fun x9 =>
(if 2 ≤ x9 then
  (zx_b1 (f_X1_fit N v3 S_) (fun T12 =>
f_X1_dissolveUpward_j125 N (f_X1_dissolveUpward_l7 N  n7) v2 v4 x7 T12)) else
  (zx_b1 (f_X2_get N 49 v3 (S_ 3)) (fun x20 =>
(if x20 = 1 then
  (zx_b1 (f_X2_get N 245 (v3 * 5) (S_ 4)) (fun x23 =>
(zx_b1 (f_X1_detach N x23 S_) (fun T25 =>
(zx_b1 (f_X2_put N 8 v2 x23 (T25 6)) (fun g27 =>
(zx_n (zx_st T25 6 g27) (fun T29 =>
(zx_n (v2 + 1) (fun x30 =>
f_X1_dissolveUpward_j92 N (f_X1_dissolveUpward_l7 N  n7) x30 v3 v4 x7 T29)))))))))) else
  f_X1_dissolveUpward_j92 N (f_X1_dissolveUpward_l7 N  n7) v2 v3 v4 x7 S_)))))))))))
def f_X1_dissolveUpward (N : Nat) (p1 : Int32) (S : zx_S) : Option (Int32 × zx_S) :=
  f_X1_dissolveUpward_l7 N  N 0 p1 0 S
abbrev rmX1_dissolveUpward : Room := { frames := 3, cells := 0, slots := 0, locals := 70 }
abbrev zsX1_dissolveUpward : List Cond := .code yX1_dissolveUpward cX1_dissolveUpward 7 (some .int) :: wsL_law
theorem zyX1_dissolveUpward : yX1_dissolveUpward.cls ≠ "java/lang/invoke/MethodHandle" ∧ yX1_dissolveUpward.cls ≠ "java/lang/invoke/VarHandle" ∧ (parseMethodDescriptor yX1_dissolveUpward.desc).map (fun d => d.parameters.length) = some 1 := by decide +kernel
set_option maxHeartbeats 4000000 in
set_option maxRecDepth 100000 in
theorem c_X1_dissolveUpward (l : Launch) (D : va_G) (cI cZ cT : ClassId) (h : Nat) (ad : Nat → Nat) (S : zx_S) (sz : Nat) (N : Nat) (p1 : Int32) {R : Int32 × zx_S} (hM : f_X1_dissolveUpward N p1 S = some R) : Met l yX1_dissolveUpward zsX1_dissolveUpward rmX1_dissolveUpward (va_Pc [.ref h, .int p1] (bS D (zx_ty cI cZ cT) (xW1 cI h ad S) sz)) (va_Qi (fun r u => R = (r, u)) (fun u t => va_P D vwCl (xW1 cI h ad u) t.heap) (va_A (xW1 cI h ad S) sz)) 0 0 (va_A (xW1 cI h ad S) sz) := by
  refine Met.ofW (cc := cX1_dissolveUpward) (maxL := 7) (ret := (some .int)) (by decide) rfl ?_
  intro p e s m args below meth c s₁ B hml hv
  obtain ⟨rfl, hsz, hP, hK, hD0, hN⟩ := hv
  have hx := B.exec
  have hb := B.bytes
  have hr := B.returns
  have hts : ∀ w ∈ wsL_law, w.before _ s = true := fun w hw => atoms_spec (ws := zsX1_dissolveUpward) B.pre w (List.mem_cons_of_mem _ hw)
  have hown : s.vm.findClass RX1 = some m.cls := findClass_of_methodNamed B.named
  have hlocks := B.notSynchronized
  subst hsz
  have hD := hD0.self (sz := s.heap.size)
  generalize hAe : va_A (xW1 cI h ad S) s.heap.size = A at hD ⊢
  have hA : ∀ q : Nat, s.heap.size ≤ q → A q := fun q h => by rw [← hAe]; exact Or.inr h
  have hS : va_S A s.heap s.heap [] := va_S.rf
  have hl := lv_entry ([.ref h, .int p1]) (n := 7) (Nat.le_of_ble_eq_true rfl)
  rw [lg_entry_eq]
  generalize (lg_sl ([.ref h, .int p1]) ++ List.replicate (7 - (lg_sl ([.ref h, .int p1])).length) Slot.unset).toArray = ls at hl ⊢
  have hl : lv_has ls 7 [(0, .ref h), (1, .int p1)] := hl
  generalize hQ : MQ below (va_Qi (fun r u => R = (r, u)) (fun u t => va_P D vwCl (xW1 cI h ad u) t.heap) A) ([.ref h, .int p1] : List Value).toArray s 0 0 A = Q9
  replace hQ := hQ.symm
  unfold f_X1_dissolveUpward at hM
  have l7 : ∀ (n7 : Nat) (v2 : Int32) (v3 : Int32) (v4 : Int32) (S_ : zx_S) (H : Heap) (lc : List Loc) (ls : Array Slot), va_P D vwCl (xW1 cI h ad S_) H → va_D A (xW1 cI h ad S_) → va_S A s.heap H lc → lv_has ls 7 [(0, .ref h), (2, .int v2), (3, .int v3), (4, .int v4)] → f_X1_dissolveUpward_l7 N n7 v2 v3 v4 S_ = some R → W p l e (headSpec zsX1_dissolveUpward rmX1_dissolveUpward).room s m ([.ref h, .int p1] : List Value).toArray below meth c H lc 0 0 Q9 (F0 m 7 ls []) := by
    intro n7
    induction n7 with
    | zero =>
      intro v2 v3 v4 S_ H lc ls hP hD hS hl hM
      rw [f_X1_dissolveUpward_l7] at hM; exact absurd hM (by intro h; cases h)
    | succ n7 ih7 =>
      intro v2 v3 v4 S_ H lc ls hP hD hS hl hM
      rw [f_X1_dissolveUpward_l7] at hM
      have j134 : ∀ (v2 : Int32) (S_ : zx_S) (H : Heap) (lc : List Loc) (ls : Array Slot), va_P D vwCl (xW1 cI h ad S_) H → va_D A (xW1 cI h ad S_) → va_S A s.heap H lc → lv_has ls 7 [(0, .ref h), (2, .int v2)] → f_X1_dissolveUpward_j134 N v2 S_ = some R → W p l e (headSpec zsX1_dissolveUpward rmX1_dissolveUpward).room s m ([.ref h, .int p1] : List Value).toArray below meth c H lc 0 0 Q9 (F0 m 134 ls []) := by
        intro v2 S_ H lc ls hP hD hS hl hM
        unfold f_X1_dissolveUpward_j134 at hM
        refine lv_aload_n hx hb dX1_dissolveUpward_134 rfl (lv_at hl 0 rfl) ?_
        refine lv_aload_n hx hb dX1_dissolveUpward_135 rfl (lv_at hl 0 rfl) ?_
        refine va_get (D := D) (ci := 1) (v := .int (S_ 10 0)) (C := RX1) (T := TX1) (N := 14) hx hb hts inlX1 hown hK hP 0 rfl rfl 5 (by decide) (hts _ zw_2_22) (fun _ h9 => h9) rfl dX1_dissolveUpward_136 ?_
        obtain ⟨T1, hz2, hM⟩ := zx_b1E hM
        refine va_callv (va_runV (As := [.int (S_ 10 0)]) (rest := []) ⟨hx, hb, hml, hown, hts⟩ (c_X1_fit l D cI cZ cT h ad S_ _ N (S_ 10 0)  hz2) (cwV 1 hts (zg_V zw_12_16 zw_12_17 zw_12_18 zw_1_14 zw_12_19) rfl rfl rfl ⟨rfl, zyX1_fit⟩ ⟨Nat.le_of_ble_eq_true rfl, Nat.le_of_ble_eq_true rfl⟩) ⟨bS_blind, va_recv hK hP (ci := 1) (q0 := 0) rfl rfl, bS_pre hP hK hD hN⟩ rfl rfl hl.1 rfl (lv_room (Nat.le_of_ble_eq_true rfl)) dX1_dissolveUpward_139 ⟨Nat.zero_le _, Nat.zero_le _⟩) hS (fun q _ h => zx_fW hD hS hA q h) (fun q h => zx_fW hD hS hA q h) (fun u t H1 lc ht hvm hw hB hz1 hk1 hS => ?_)
        replace hw : T1 = u := hw; subst hw
        rw [ht] at hB
        replace hP := hB
        replace hD := xW1_D T1 hD
        refine lv_iload_n hx hb dX1_dissolveUpward_142 rfl (lv_at hl 1 rfl) ?_
        rw [hQ]
        exact W.iret hx hb hr (fun t ht hW => ⟨⟨v2, T1, rfl, (Option.some.inj hM).symm, by show va_P D vwCl _ t.heap; rw [ht]; exact hP⟩, hS.F ht⟩) hS.2.2 dX1_dissolveUpward_143
      refine lv_iload hx hb dX1_dissolveUpward_7 (lv_at hl 3 rfl) ?_
      refine lv_bipush (v := 8) hx hb dX1_dissolveUpward_9 (by decide) ?_
      refine lv_icmp_ge (tgt := 134) hx hb dX1_dissolveUpward_11 (by decide) (fun q3 => ?_) (fun q3 => ?_)
      · replace hM := zx_t q3 hM
        exact j134 v2 S_ _ _ _ hP hD hS (lv_sub hl [0, 1] rfl) hM
      · replace hM := zx_f q3 hM
        refine lv_iload_n hx hb dX1_dissolveUpward_14 rfl (lv_at hl 2 rfl) ?_
        refine lv_aload_n hx hb dX1_dissolveUpward_15 rfl (lv_at hl 0 rfl) ?_
        refine va_get (D := D) (ci := 1) (v := .int (S_ 10 0)) (C := RX1) (T := TX1) (N := 14) hx hb hts inlX1 hown hK hP 0 rfl rfl 5 (by decide) (hts _ zw_2_22) (fun _ h9 => h9) rfl dX1_dissolveUpward_16 ?_
        refine lv_icmp_eq (tgt := 134) hx hb dX1_dissolveUpward_19 (by decide) (fun q4 => ?_) (fun q4 => ?_)
        · replace hM := zx_t q4 hM
          exact j134 v2 S_ _ _ _ hP hD hS (lv_sub hl [0, 1] rfl) hM
        · replace hM := zx_f q4 hM
          refine lv_iload_n hx hb dX1_dissolveUpward_22 rfl (lv_at hl 2 rfl) ?_
          refine lv_iconst (v := (-1)) hx hb dX1_dissolveUpward_23 (by decide) ?_
          refine lv_icmp_eq (tgt := 134) hx hb dX1_dissolveUpward_24 (by decide) (fun q5 => ?_) (fun q5 => ?_)
          · replace hM := zx_t q5 hM
            exact j134 v2 S_ _ _ _ hP hD hS (lv_sub hl [0, 1] rfl) hM
          · replace hM := zx_f q5 hM
            have j125 : ∀ (v2 : Int32) (v4 : Int32) (v5 : Int32) (S_ : zx_S) (H : Heap) (lc : List Loc) (ls : Array Slot), va_P D vwCl (xW1 cI h ad S_) H → va_D A (xW1 cI h ad S_) → va_S A s.heap H lc → lv_has ls 7 [(0, .ref h), (2, .int v2), (4, .int v4), (5, .int v5)] → f_X1_dissolveUpward_j125 N (f_X1_dissolveUpward_l7 N  n7) v2 v4 v5 S_ = some R → W p l e (headSpec zsX1_dissolveUpward rmX1_dissolveUpward).room s m ([.ref h, .int p1] : List Value).toArray below meth c H lc 0 0 Q9 (F0 m 125 ls []) := by
              intro v2 v4 v5 S_ H lc ls hP hD hS hl hM
              unfold f_X1_dissolveUpward_j125 at hM
              refine lv_iload hx hb dX1_dissolveUpward_125 (lv_at hl 3 rfl) ?_
              refine lv_istore_n (lv' := [(3, .int v5), (0, .ref h), (2, .int v2), (4, .int v4), (5, .int v5)]) hx hb dX1_dissolveUpward_127 rfl hl (by decide) rfl (fun ls hl => ?_)
              obtain ⟨x6, ex6, hM⟩ := zx_nE hM
              refine lv_iinc (v := x6) (lv' := [(4, .int x6), (3, .int v5), (0, .ref h), (2, .int v2), (5, .int v5)]) hx hb dX1_dissolveUpward_128 hl (k := 3) rfl (by rw [ex6]; rfl) (by decide) rfl (fun ls hl => ?_)
              refine lv_goto (tgt := 7) hx hb dX1_dissolveUpward_131 (by decide) ?_
              exact ih7 v2 v5 x6 S_ _ _ _ hP hD hS (lv_sub hl [2, 3, 1, 0] rfl) hM
            refine lv_aload_n hx hb dX1_dissolveUpward_27 rfl (lv_at hl 0 rfl) ?_
            refine va_get (D := D) (ci := 1) (v := .ref (ad 2)) (C := RX1) (T := TX1) (N := 14) hx hb hts inlX1 hown hK hP 0 rfl rfl 2 (by decide) (hts _ zw_2_7) (fun _ h9 => h9) rfl dX1_dissolveUpward_28 ?_
            refine lv_iload_n hx hb dX1_dissolveUpward_31 rfl (lv_at hl 2 rfl) ?_
            obtain ⟨x7, hz8, hM⟩ := zx_b1E hM
            refine va_calli (va_runSN (As := [.ref (ad 2), .int v3]) (rest := []) ⟨hx, hb, hml, hown, hts⟩ (c_X2_get l D cI cZ cT (ad 2) 49 (S_ 2) _ N v3 hz8) ⟨va_cnB 2 hts (zg_c zw_3_6) rfl rfl rfl (hN _ (zx_nw_X1_70)) (hts _ zw_1_2) zyX2_get ⟨Nat.le_of_ble_eq_true rfl, Nat.le_of_ble_eq_true rfl⟩, (hts _ zw_3_5), trivial⟩ ⟨bS_blind, bS_pre (zx_P1 hP 3 (rfl)) hK (zx_D1 hD 3 (rfl)) hN⟩ rfl rfl hl.1 rfl (lv_room (Nat.le_of_ble_eq_true rfl)) dX1_dissolveUpward_32 ⟨Nat.zero_le _, Nat.zero_le _⟩) hS (fun q h1 h2 => absurd h1 (Nat.not_lt.mpr h2)) (fun q h => hA q (Nat.le_trans hS.1 h)) (fun r u t H1 lc ht hvm hw hB hz1 hk1 hS => ?_)
            replace hw : x7 = r := hw; subst hw
            replace hP := zx_keep hP hk1
            refine lv_istore (lv' := [(5, .int x7), (0, .ref h), (2, .int v2), (3, .int v3), (4, .int v4)]) hx hb dX1_dissolveUpward_35 hl (by decide) rfl (fun ls hl => ?_)
            refine lv_aload_n hx hb dX1_dissolveUpward_37 rfl (lv_at hl 1 rfl) ?_
            refine va_get (D := D) (ci := 1) (v := .ref (ad 3)) (C := RX1) (T := TX1) (N := 14) hx hb hts inlX1 hown hK hP 0 rfl rfl 3 (by decide) (hts _ zw_2_8) (fun _ h9 => h9) rfl dX1_dissolveUpward_38 ?_
            refine lv_iload_n hx hb dX1_dissolveUpward_41 rfl (lv_at hl 3 rfl) ?_
            obtain ⟨x9, hz10, hM⟩ := zx_b1E hM
            refine va_calli (va_runSN (As := [.ref (ad 3), .int v3]) (rest := []) ⟨hx, hb, hml, hown, hts⟩ (c_X2_get l D cI cZ cT (ad 3) 49 (S_ 3) _ N v3 hz10) ⟨va_cnB 2 hts (zg_c zw_3_6) rfl rfl rfl (hN _ (zx_nw_X1_70)) (hts _ zw_1_2) zyX2_get ⟨Nat.le_of_ble_eq_true rfl, Nat.le_of_ble_eq_true rfl⟩, (hts _ zw_3_5), trivial⟩ ⟨bS_blind, bS_pre (zx_P1 hP 4 (rfl)) hK (zx_D1 hD 4 (rfl)) hN⟩ rfl rfl hl.1 rfl (lv_room (Nat.le_of_ble_eq_true rfl)) dX1_dissolveUpward_42 ⟨Nat.zero_le _, Nat.zero_le _⟩) hS (fun q h1 h2 => absurd h1 (Nat.not_lt.mpr h2)) (fun q h => hA q (Nat.le_trans hS.1 h)) (fun r u t H1 lc ht hvm hw hB hz1 hk1 hS => ?_)
            replace hw : x9 = r := hw; subst hw
            replace hP := zx_keep hP hk1
            refine lv_iconst (v := 2) hx hb dX1_dissolveUpward_45 (by decide) ?_
            refine lv_icmp_ge (tgt := 120) hx hb dX1_dissolveUpward_46 (by decide) (fun q11 => ?_) (fun q11 => ?_)
            · replace hM := zx_t q11 hM
              refine lv_aload_n hx hb dX1_dissolveUpward_120 rfl (lv_at hl 1 rfl) ?_
              refine lv_iload_n hx hb dX1_dissolveUpward_121 rfl (lv_at hl 3 rfl) ?_
              obtain ⟨T12, hz13, hM⟩ := zx_b1E hM
              refine va_callv (va_runV (As := [.int v3]) (rest := []) ⟨hx, hb, hml, hown, hts⟩ (c_X1_fit l D cI cZ cT h ad S_ _ N v3  hz13) (cwV 1 hts (zg_V zw_12_16 zw_12_17 zw_12_18 zw_1_14 zw_12_19) rfl rfl rfl ⟨rfl, zyX1_fit⟩ ⟨Nat.le_of_ble_eq_true rfl, Nat.le_of_ble_eq_true rfl⟩) ⟨bS_blind, va_recv hK hP (ci := 1) (q0 := 0) rfl rfl, bS_pre hP hK hD hN⟩ rfl rfl hl.1 rfl (lv_room (Nat.le_of_ble_eq_true rfl)) dX1_dissolveUpward_122 ⟨Nat.zero_le _, Nat.zero_le _⟩) hS (fun q _ h => zx_fW hD hS hA q h) (fun q h => zx_fW hD hS hA q h) (fun u t H1 lc ht hvm hw hB hz1 hk1 hS => ?_)
              replace hw : T12 = u := hw; subst hw
              rw [ht] at hB
              replace hP := hB
              replace hD := xW1_D T12 hD
              exact j125 v2 v4 x7 T12 _ _ _ hP hD hS (lv_sub hl [1, 2, 4, 0] rfl) hM
            · replace hM := zx_f q11 hM
              have j92 : ∀ (v2 : Int32) (v3 : Int32) (v4 : Int32) (v5 : Int32) (S_ : zx_S) (H : Heap) (lc : List Loc) (ls : Array Slot), va_P D vwCl (xW1 cI h ad S_) H → va_D A (xW1 cI h ad S_) → va_S A s.heap H lc → lv_has ls 7 [(0, .ref h), (2, .int v2), (3, .int v3), (4, .int v4), (5, .int v5)] → f_X1_dissolveUpward_j92 N (f_X1_dissolveUpward_l7 N  n7) v2 v3 v4 v5 S_ = some R → W p l e (headSpec zsX1_dissolveUpward rmX1_dissolveUpward).room s m ([.ref h, .int p1] : List Value).toArray below meth c H lc 0 0 Q9 (F0 m 92 ls []) := by
                intro v2 v3 v4 v5 S_ H lc ls hP hD hS hl hM
                unfold f_X1_dissolveUpward_j92 at hM
                refine lv_aload_n hx hb dX1_dissolveUpward_92 rfl (lv_at hl 0 rfl) ?_
                refine lv_iload_n hx hb dX1_dissolveUpward_93 rfl (lv_at hl 2 rfl) ?_
                obtain ⟨T14, hz15, hM⟩ := zx_b1E hM
                refine va_callv (va_runV (As := [.int v3]) (rest := []) ⟨hx, hb, hml, hown, hts⟩ (c_X1_detach l D cI cZ cT h ad S_ _ N v3  hz15) (cwV 1 hts (zg_V zw_13_4 zw_13_5 zw_13_6 zw_1_14 zw_13_7) rfl rfl rfl ⟨rfl, zyX1_detach⟩ ⟨Nat.le_of_ble_eq_true rfl, Nat.le_of_ble_eq_true rfl⟩) ⟨bS_blind, va_recv hK hP (ci := 1) (q0 := 0) rfl rfl, bS_pre hP hK hD hN⟩ rfl rfl hl.1 rfl (lv_room (Nat.le_of_ble_eq_true rfl)) dX1_dissolveUpward_94 ⟨Nat.zero_le _, Nat.zero_le _⟩) hS (fun q _ h => zx_fW hD hS hA q h) (fun q h => zx_fW hD hS hA q h) (fun u t H1 lc ht hvm hw hB hz1 hk1 hS => ?_)
                replace hw : T14 = u := hw; subst hw
                rw [ht] at hB
                replace hP := hB
                replace hD := xW1_D T14 hD
                refine lv_aload_n hx hb dX1_dissolveUpward_97 rfl (lv_at hl 0 rfl) ?_
                refine va_get (D := D) (ci := 1) (v := .ref (ad 1)) (C := RX1) (T := TX1) (N := 14) hx hb hts inlX1 hown hK hP 0 rfl rfl 1 (by decide) (hts _ zw_2_6) (fun _ h9 => h9) rfl dX1_dissolveUpward_98 ?_
                refine lv_iload_n hx hb dX1_dissolveUpward_101 rfl (lv_at hl 2 rfl) ?_
                refine lv_bipush (v := (-2)) hx hb dX1_dissolveUpward_102 (by decide) ?_
                obtain ⟨g16, hz17, hM⟩ := zx_b1E hM
                refine va_callv (va_runSN (As := [.ref (ad 1), .int v3, .int (-2)]) (rest := []) ⟨hx, hb, hml, hown, hts⟩ (c_X2_put l D cI cZ cT (ad 1) 49 (T14 1) _ N v3 (-2) hz17) ⟨va_cnB 3 hts (zg_c zw_3_0) rfl rfl rfl (hN _ (zx_nw_X1_45)) (hts _ zw_1_2) zyX2_put ⟨Nat.le_of_ble_eq_true rfl, Nat.le_of_ble_eq_true rfl⟩, (hts _ zw_2_23), trivial⟩ ⟨bS_blind, bS_pre (zx_P1 hP 2 (rfl)) hK (zx_D1 hD 2 (rfl)) hN⟩ rfl rfl hl.1 rfl (lv_room (Nat.le_of_ble_eq_true rfl)) dX1_dissolveUpward_104 ⟨Nat.zero_le _, Nat.zero_le _⟩) hS (fun q _ h => zx_f1 hD hS hA (k := 2) rfl q h) (fun q h => zx_f1 hD hS hA (k := 2) rfl q h) (fun u t H1 lc ht hvm hw hB hz1 hk1 hS => ?_)
                replace hw : g16 = u := hw; subst hw
                rw [ht] at hB
                replace hP := zx_set1 (k := 2) hP hD rfl hk1 hB
                replace hD := va_D.set (p := 2) (e := .inl (cI, 49, .inl g16)) hD rfl
                rw [xW1_pa1] at hP hD
                obtain ⟨T18, eT18, hM⟩ := zx_nE hM
                rw [← eT18] at hP hD
                refine lv_aload_n hx hb dX1_dissolveUpward_107 rfl (lv_at hl 0 rfl) ?_
                refine lv_dup hx hb dX1_dissolveUpward_108 rfl ?_
                refine va_get (D := D) (ci := 1) (v := .int (T18 10 3)) (C := RX1) (T := TX1) (N := 14) hx hb hts inlX1 hown hK hP 0 rfl rfl 8 (by decide) (hts _ zw_2_21) (fun _ h9 => h9) rfl dX1_dissolveUpward_109 ?_
                refine lv_iconst (v := 1) hx hb dX1_dissolveUpward_112 (by decide) ?_
                refine lv_iadd hx hb dX1_dissolveUpward_113 ?_
                obtain ⟨T19, eT19, hM⟩ := zx_nE hM
                refine va_put (D := D) (ci := 1) (v := .int ((T18 10 3) + 1)) (ty := .int) (C := RX1) (T := TX1) (N := 14) hx hb hts inlX1 tyX1 tyX1_ok nmX1 hown hK hP hD hS 0 rfl rfl 8 (by decide) (hts _ zw_2_21) (fun _ h9 => h9) rfl (by decide +kernel) rfl rfl (Nat.le_of_ble_eq_true rfl) dX1_dissolveUpward_114 (fun H lc hP hD hS => ?_)
                replace hP : va_P D vwCl (xW1 cI h ad T19) H := by rw [eT19]; exact hP
                replace hD : va_D A (xW1 cI h ad T19) := by rw [eT19]; exact hD
                refine lv_goto (tgt := 125) hx hb dX1_dissolveUpward_117 (by decide) ?_
                exact j125 v2 v4 v5 T19 _ _ _ hP hD hS (lv_sub hl [0, 1, 3, 4] rfl) hM
              refine lv_aload_n hx hb dX1_dissolveUpward_49 rfl (lv_at hl 1 rfl) ?_
              refine va_get (D := D) (ci := 1) (v := .ref (ad 3)) (C := RX1) (T := TX1) (N := 14) hx hb hts inlX1 hown hK hP 0 rfl rfl 3 (by decide) (hts _ zw_2_8) (fun _ h9 => h9) rfl dX1_dissolveUpward_50 ?_
              refine lv_iload_n hx hb dX1_dissolveUpward_53 rfl (lv_at hl 3 rfl) ?_
              obtain ⟨x20, hz21, hM⟩ := zx_b1E hM
              refine va_calli (va_runSN (As := [.ref (ad 3), .int v3]) (rest := []) ⟨hx, hb, hml, hown, hts⟩ (c_X2_get l D cI cZ cT (ad 3) 49 (S_ 3) _ N v3 hz21) ⟨va_cnB 2 hts (zg_c zw_3_6) rfl rfl rfl (hN _ (zx_nw_X1_70)) (hts _ zw_1_2) zyX2_get ⟨Nat.le_of_ble_eq_true rfl, Nat.le_of_ble_eq_true rfl⟩, (hts _ zw_3_5), trivial⟩ ⟨bS_blind, bS_pre (zx_P1 hP 4 (rfl)) hK (zx_D1 hD 4 (rfl)) hN⟩ rfl rfl hl.1 rfl (lv_room (Nat.le_of_ble_eq_true rfl)) dX1_dissolveUpward_54 ⟨Nat.zero_le _, Nat.zero_le _⟩) hS (fun q h1 h2 => absurd h1 (Nat.not_lt.mpr h2)) (fun q h => hA q (Nat.le_trans hS.1 h)) (fun r u t H1 lc ht hvm hw hB hz1 hk1 hS => ?_)
              replace hw : x20 = r := hw; subst hw
              replace hP := zx_keep hP hk1
              refine lv_iconst (v := 1) hx hb dX1_dissolveUpward_57 (by decide) ?_
              refine lv_icmp_ne (tgt := 92) hx hb dX1_dissolveUpward_58 (by decide) (fun q22 => ?_) (fun q22 => ?_)
              · replace hM := zx_f q22 hM
                exact j92 v2 v3 v4 x7 S_ _ _ _ hP hD hS (lv_sub hl [1, 2, 3, 4, 0] rfl) hM
              · replace hM := zx_t q22 hM
                refine lv_aload_n hx hb dX1_dissolveUpward_61 rfl (lv_at hl 1 rfl) ?_
                refine va_get (D := D) (ci := 1) (v := .ref (ad 4)) (C := RX1) (T := TX1) (N := 14) hx hb hts inlX1 hown hK hP 0 rfl rfl 4 (by decide) (hts _ zw_2_9) (fun _ h9 => h9) rfl dX1_dissolveUpward_62 ?_
                refine lv_iload_n hx hb dX1_dissolveUpward_65 rfl (lv_at hl 3 rfl) ?_
                refine lv_iconst (v := 5) hx hb dX1_dissolveUpward_66 (by decide) ?_
                refine lv_imul hx hb dX1_dissolveUpward_67 ?_
                obtain ⟨x23, hz24, hM⟩ := zx_b1E hM
                refine va_calli (va_runSN (As := [.ref (ad 4), .int (v3 * 5)]) (rest := []) ⟨hx, hb, hml, hown, hts⟩ (c_X2_get l D cI cZ cT (ad 4) 245 (S_ 4) _ N (v3 * 5) hz24) ⟨va_cnB 2 hts (zg_c zw_3_6) rfl rfl rfl (hN _ (zx_nw_X1_70)) (hts _ zw_1_2) zyX2_get ⟨Nat.le_of_ble_eq_true rfl, Nat.le_of_ble_eq_true rfl⟩, (hts _ zw_3_5), trivial⟩ ⟨bS_blind, bS_pre (zx_P1 hP 5 (rfl)) hK (zx_D1 hD 5 (rfl)) hN⟩ rfl rfl hl.1 rfl (lv_room (Nat.le_of_ble_eq_true rfl)) dX1_dissolveUpward_68 ⟨Nat.zero_le _, Nat.zero_le _⟩) hS (fun q h1 h2 => absurd h1 (Nat.not_lt.mpr h2)) (fun q h => hA q (Nat.le_trans hS.1 h)) (fun r u t H1 lc ht hvm hw hB hz1 hk1 hS => ?_)
                replace hw : x23 = r := hw; subst hw
                replace hP := zx_keep hP hk1
                refine lv_istore (lv' := [(6, .int x23), (5, .int x7), (0, .ref h), (2, .int v2), (3, .int v3), (4, .int v4)]) hx hb dX1_dissolveUpward_71 hl (by decide) rfl (fun ls hl => ?_)
                refine lv_aload_n hx hb dX1_dissolveUpward_73 rfl (lv_at hl 2 rfl) ?_
                refine lv_iload hx hb dX1_dissolveUpward_74 (lv_at hl 0 rfl) ?_
                obtain ⟨T25, hz26, hM⟩ := zx_b1E hM
                refine va_callv (va_runV (As := [.int x23]) (rest := []) ⟨hx, hb, hml, hown, hts⟩ (c_X1_detach l D cI cZ cT h ad S_ _ N x23  hz26) (cwV 1 hts (zg_V zw_13_4 zw_13_5 zw_13_6 zw_1_14 zw_13_7) rfl rfl rfl ⟨rfl, zyX1_detach⟩ ⟨Nat.le_of_ble_eq_true rfl, Nat.le_of_ble_eq_true rfl⟩) ⟨bS_blind, va_recv hK hP (ci := 1) (q0 := 0) rfl rfl, bS_pre hP hK hD hN⟩ rfl rfl hl.1 rfl (lv_room (Nat.le_of_ble_eq_true rfl)) dX1_dissolveUpward_76 ⟨Nat.zero_le _, Nat.zero_le _⟩) hS (fun q _ h => zx_fW hD hS hA q h) (fun q h => zx_fW hD hS hA q h) (fun u t H1 lc ht hvm hw hB hz1 hk1 hS => ?_)
                replace hw : T25 = u := hw; subst hw
                rw [ht] at hB
                replace hP := hB
                replace hD := xW1_D T25 hD
                refine lv_aload_n hx hb dX1_dissolveUpward_79 rfl (lv_at hl 2 rfl) ?_
                refine va_get (D := D) (ci := 1) (v := .ref (ad 6)) (C := RX1) (T := TX1) (N := 14) hx hb hts inlX1 hown hK hP 0 rfl rfl 10 (by decide) (hts _ zw_2_11) (fun _ h9 => h9) rfl dX1_dissolveUpward_80 ?_
                refine lv_iload_n hx hb dX1_dissolveUpward_83 rfl (lv_at hl 3 rfl) ?_
                refine lv_iload hx hb dX1_dissolveUpward_84 (lv_at hl 0 rfl) ?_
                obtain ⟨g27, hz28, hM⟩ := zx_b1E hM
                refine va_callv (va_runSN (As := [.ref (ad 6), .int v2, .int x23]) (rest := []) ⟨hx, hb, hml, hown, hts⟩ (c_X2_put l D cI cZ cT (ad 6) 8 (T25 6) _ N v2 x23 hz28) ⟨va_cnB 3 hts (zg_c zw_3_0) rfl rfl rfl (hN _ (zx_nw_X1_45)) (hts _ zw_1_2) zyX2_put ⟨Nat.le_of_ble_eq_true rfl, Nat.le_of_ble_eq_true rfl⟩, (hts _ zw_2_23), trivial⟩ ⟨bS_blind, bS_pre (zx_P1 hP 7 (rfl)) hK (zx_D1 hD 7 (rfl)) hN⟩ rfl rfl hl.1 rfl (lv_room (Nat.le_of_ble_eq_true rfl)) dX1_dissolveUpward_86 ⟨Nat.zero_le _, Nat.zero_le _⟩) hS (fun q _ h => zx_f1 hD hS hA (k := 7) rfl q h) (fun q h => zx_f1 hD hS hA (k := 7) rfl q h) (fun u t H1 lc ht hvm hw hB hz1 hk1 hS => ?_)
                replace hw : g27 = u := hw; subst hw
                rw [ht] at hB
                replace hP := zx_set1 (k := 7) hP hD rfl hk1 hB
                replace hD := va_D.set (p := 7) (e := .inl (cI, 8, .inl g27)) hD rfl
                rw [xW1_pa6] at hP hD
                obtain ⟨T29, eT29, hM⟩ := zx_nE hM
                rw [← eT29] at hP hD
                obtain ⟨x30, ex30, hM⟩ := zx_nE hM
                refine lv_iinc (v := x30) (lv' := [(2, .int x30), (6, .int x23), (5, .int x7), (0, .ref h), (3, .int v3), (4, .int v4)]) hx hb dX1_dissolveUpward_89 hl (k := 3) rfl (by rw [ex30]; rfl) (by decide) rfl (fun ls hl => ?_)
                exact j92 x30 v3 v4 x7 T29 _ _ _ hP hD hS (lv_sub hl [3, 0, 4, 5, 2] rfl) hM
  refine lv_iconst (v := 0) hx hb dX1_dissolveUpward_0 (by decide) ?_
  refine lv_istore_n (lv' := [(2, .int 0), (0, .ref h), (1, .int p1)]) hx hb dX1_dissolveUpward_1 rfl hl (by decide) rfl (fun ls hl => ?_)
  refine lv_iload_n hx hb dX1_dissolveUpward_2 rfl (lv_at hl 2 rfl) ?_
  refine lv_istore_n (lv' := [(3, .int p1), (2, .int 0), (0, .ref h), (1, .int p1)]) hx hb dX1_dissolveUpward_3 rfl hl (by decide) rfl (fun ls hl => ?_)
  refine lv_iconst (v := 0) hx hb dX1_dissolveUpward_4 (by decide) ?_
  refine lv_istore (lv' := [(4, .int 0), (3, .int p1), (2, .int 0), (0, .ref h), (1, .int p1)]) hx hb dX1_dissolveUpward_5 hl (by decide) rfl (fun ls hl => ?_)
  exact l7 N 0 p1 0 S _ _ _ hP hD hS (lv_sub hl [3, 2, 1, 0] rfl) hM

/-! ShallowBoxes$Tree.takeOut(I)V -/
def f_X1_takeOut_l108 (N : Nat) : Nat → Int32 → Int32 → zx_S → Option (zx_S)
  | 0, _, _, _ => none
  | n108 + 1, v3, v4, S_ => (if v3 ≤ v4 then
  some S_ else
  (zx_b1 (f_X2_get N 8 v4 (S_ 6)) (fun x2 =>
(zx_b1 (f_X1_putIn N x2 S_) (fun T4 =>
(zx_n (v4 + 1) (fun x6 =>
f_X1_takeOut_l108 N  n108 v3 x6 T4)))))))
def f_X1_takeOut_j105 (N : Nat) (v3 : Int32) (S_ : zx_S) : Option (zx_S) :=
  f_X1_takeOut_l108 N  N v3 0 S_
def f_X1_takeOut_l23 (N : Nat) : Nat → Int32 → Int32 → zx_S → Option (zx_S)
  | 0, _, _, _ => none
  | n23 + 1, v3, v4, S_ => (if 8 ≤ v4 then
  f_X1_takeOut_j105 N  v3 S_ else
  (zx_b1 (f_X2_get N 49 (S_ 10 0) (S_ 1)) (fun x8 =>
(if x8 ≤ 0 then
  f_X1_takeOut_j105 N  v3 S_ else
  (zx_b1 (f_X2_get N 49 (S_ 10 0) (S_ 3)) (fun x11 =>
(if x11 = 1 then
  (zx_b1 (f_X2_get N 245 ((S_ 10 0) * 5) (S_ 4)) (fun x14 =>
(zx_n (zx_st S_ 10 (upd (S_ 10) 0 x14)) (fun T16 =>
(zx_b1 (f_X1_detach N (T16 10 0) T16) (fun T17 =>
(zx_b1 (f_X2_put N 49 (S_ 10 0) (-2) (T17 1)) (fun g19 =>
(zx_n (zx_st T17 1 g19) (fun T21 =>
(zx_n (v4 + 1) (fun x22 =>
f_X1_takeOut_l23 N  n23 v3 x22 T21)))))))))))) else
  f_X1_takeOut_j105 N  v3 S_)))))))
def f_X1_takeOut (N : Nat) (p1 : Int32) (S : zx_S) : Option (zx_S) :=
  (zx_b1 (f_X2_get N 49 p1 (S 2)) (fun x23 =>
(zx_b1 (f_X1_detach N p1 S) (fun T25 =>
(zx_b2 (f_X1_dissolveUpward N x23 T25) (fun x27 T28 =>
f_X1_takeOut_l23 N  N x27 0 T28))))))
abbrev rmX1_takeOut : Room := { frames := 5, cells := 0, slots := 0, locals := 127 }
abbrev zsX1_takeOut : List Cond := .code yX1_takeOut cX1_takeOut 6 none :: wsL_law
theorem zyX1_takeOut : yX1_takeOut.cls ≠ "java/lang/invoke/MethodHandle" ∧ yX1_takeOut.cls ≠ "java/lang/invoke/VarHandle" ∧ (parseMethodDescriptor yX1_takeOut.desc).map (fun d => d.parameters.length) = some 1 := by decide +kernel
set_option maxHeartbeats 4000000 in
set_option maxRecDepth 100000 in
theorem c_X1_takeOut (l : Launch) (D : va_G) (cI cZ cT : ClassId) (h : Nat) (ad : Nat → Nat) (S : zx_S) (sz : Nat) (N : Nat) (p1 : Int32) {R : zx_S} (hM : f_X1_takeOut N p1 S = some R) : Met l yX1_takeOut zsX1_takeOut rmX1_takeOut (va_Pc [.ref h, .int p1] (bS D (zx_ty cI cZ cT) (xW1 cI h ad S) sz)) (va_Qv (fun u => R = u) (fun u t => va_P D vwCl (xW1 cI h ad u) t.heap) (va_A (xW1 cI h ad S) sz)) 0 0 (va_A (xW1 cI h ad S) sz) := by
  refine Met.ofW (cc := cX1_takeOut) (maxL := 6) (ret := none) (by decide) rfl ?_
  intro p e s m args below meth c s₁ B hml hv
  obtain ⟨rfl, hsz, hP, hK, hD0, hN⟩ := hv
  have hx := B.exec
  have hb := B.bytes
  have hr := B.returns
  have hts : ∀ w ∈ wsL_law, w.before _ s = true := fun w hw => atoms_spec (ws := zsX1_takeOut) B.pre w (List.mem_cons_of_mem _ hw)
  have hown : s.vm.findClass RX1 = some m.cls := findClass_of_methodNamed B.named
  have hlocks := B.notSynchronized
  subst hsz
  have hD := hD0.self (sz := s.heap.size)
  generalize hAe : va_A (xW1 cI h ad S) s.heap.size = A at hD ⊢
  have hA : ∀ q : Nat, s.heap.size ≤ q → A q := fun q h => by rw [← hAe]; exact Or.inr h
  have hS : va_S A s.heap s.heap [] := va_S.rf
  have hl := lv_entry ([.ref h, .int p1]) (n := 6) (Nat.le_of_ble_eq_true rfl)
  rw [lg_entry_eq]
  generalize (lg_sl ([.ref h, .int p1]) ++ List.replicate (6 - (lg_sl ([.ref h, .int p1])).length) Slot.unset).toArray = ls at hl ⊢
  have hl : lv_has ls 6 [(0, .ref h), (1, .int p1)] := hl
  generalize hQ : MQ below (va_Qv (fun u => R = u) (fun u t => va_P D vwCl (xW1 cI h ad u) t.heap) A) ([.ref h, .int p1] : List Value).toArray s 0 0 A = Q9
  replace hQ := hQ.symm
  unfold f_X1_takeOut at hM
  have l23 : ∀ (n23 : Nat) (v3 : Int32) (v4 : Int32) (S_ : zx_S) (H : Heap) (lc : List Loc) (ls : Array Slot), va_P D vwCl (xW1 cI h ad S_) H → va_D A (xW1 cI h ad S_) → va_S A s.heap H lc → lv_has ls 6 [(0, .ref h), (3, .int v3), (4, .int v4)] → f_X1_takeOut_l23 N n23 v3 v4 S_ = some R → W p l e (headSpec zsX1_takeOut rmX1_takeOut).room s m ([.ref h, .int p1] : List Value).toArray below meth c H lc 0 0 Q9 (F0 m 23 ls []) := by
    intro n23
    induction n23 with
    | zero =>
      intro v3 v4 S_ H lc ls hP hD hS hl hM
      rw [f_X1_takeOut_l23] at hM; exact absurd hM (by intro h; cases h)
    | succ n23 ih23 =>
      intro v3 v4 S_ H lc ls hP hD hS hl hM
      rw [f_X1_takeOut_l23] at hM
      have j105 : ∀ (v3 : Int32) (S_ : zx_S) (H : Heap) (lc : List Loc) (ls : Array Slot), va_P D vwCl (xW1 cI h ad S_) H → va_D A (xW1 cI h ad S_) → va_S A s.heap H lc → lv_has ls 6 [(0, .ref h), (3, .int v3)] → f_X1_takeOut_j105 N v3 S_ = some R → W p l e (headSpec zsX1_takeOut rmX1_takeOut).room s m ([.ref h, .int p1] : List Value).toArray below meth c H lc 0 0 Q9 (F0 m 105 ls []) := by
        intro v3 S_ H lc ls hP hD hS hl hM
        unfold f_X1_takeOut_j105 at hM
        have l108 : ∀ (n108 : Nat) (v3 : Int32) (v4 : Int32) (S_ : zx_S) (H : Heap) (lc : List Loc) (ls : Array Slot), va_P D vwCl (xW1 cI h ad S_) H → va_D A (xW1 cI h ad S_) → va_S A s.heap H lc → lv_has ls 6 [(0, .ref h), (3, .int v3), (4, .int v4)] → f_X1_takeOut_l108 N n108 v3 v4 S_ = some R → W p l e (headSpec zsX1_takeOut rmX1_takeOut).room s m ([.ref h, .int p1] : List Value).toArray below meth c H lc 0 0 Q9 (F0 m 108 ls []) := by
          intro n108
          induction n108 with
          | zero =>
            intro v3 v4 S_ H lc ls hP hD hS hl hM
            rw [f_X1_takeOut_l108] at hM; exact absurd hM (by intro h; cases h)
          | succ n108 ih108 =>
            intro v3 v4 S_ H lc ls hP hD hS hl hM
            rw [f_X1_takeOut_l108] at hM
            refine lv_iload hx hb dX1_takeOut_108 (lv_at hl 2 rfl) ?_
            refine lv_iload_n hx hb dX1_takeOut_110 rfl (lv_at hl 1 rfl) ?_
            refine lv_icmp_ge (tgt := 133) hx hb dX1_takeOut_111 (by decide) (fun q1 => ?_) (fun q1 => ?_)
            · replace hM := zx_t q1 hM
              rw [hQ]
              exact W.vret hx hb hr (fun t ht hW => ⟨⟨S_, rfl, (Option.some.inj hM).symm, by show va_P D vwCl _ t.heap; rw [ht]; exact hP⟩, hS.F ht⟩) hS.2.2 dX1_takeOut_133
            · replace hM := zx_f q1 hM
              refine lv_aload_n hx hb dX1_takeOut_114 rfl (lv_at hl 0 rfl) ?_
              refine lv_aload_n hx hb dX1_takeOut_115 rfl (lv_at hl 0 rfl) ?_
              refine va_get (D := D) (ci := 1) (v := .ref (ad 6)) (C := RX1) (T := TX1) (N := 14) hx hb hts inlX1 hown hK hP 0 rfl rfl 10 (by decide) (hts _ zw_2_11) (fun _ h9 => h9) rfl dX1_takeOut_116 ?_
              refine lv_iload hx hb dX1_takeOut_119 (lv_at hl 2 rfl) ?_
              obtain ⟨x2, hz3, hM⟩ := zx_b1E hM
              refine va_calli (va_runSN (As := [.ref (ad 6), .int v4]) (rest := [.ref h]) ⟨hx, hb, hml, hown, hts⟩ (c_X2_get l D cI cZ cT (ad 6) 8 (S_ 6) _ N v4 hz3) ⟨va_cnB 2 hts (zg_c zw_3_6) rfl rfl rfl (hN _ (zx_nw_X1_70)) (hts _ zw_1_2) zyX2_get ⟨Nat.le_of_ble_eq_true rfl, Nat.le_of_ble_eq_true rfl⟩, (hts _ zw_3_5), trivial⟩ ⟨bS_blind, bS_pre (zx_P1 hP 7 (rfl)) hK (zx_D1 hD 7 (rfl)) hN⟩ rfl rfl hl.1 rfl (lv_room (Nat.le_of_ble_eq_true rfl)) dX1_takeOut_121 ⟨Nat.zero_le _, Nat.zero_le _⟩) hS (fun q h1 h2 => absurd h1 (Nat.not_lt.mpr h2)) (fun q h => hA q (Nat.le_trans hS.1 h)) (fun r u t H1 lc ht hvm hw hB hz1 hk1 hS => ?_)
              replace hw : x2 = r := hw; subst hw
              replace hP := zx_keep hP hk1
              obtain ⟨T4, hz5, hM⟩ := zx_b1E hM
              refine va_callv (va_runV (As := [.int x2]) (rest := []) ⟨hx, hb, hml, hown, hts⟩ (c_X1_putIn l D cI cZ cT h ad S_ _ N x2  hz5) (cwV 1 hts (zg_V zw_14_19 zw_11_17 zw_11_18 zw_1_14 zw_11_19) rfl rfl rfl ⟨rfl, zyX1_putIn⟩ ⟨Nat.le_of_ble_eq_true rfl, Nat.le_of_ble_eq_true rfl⟩) ⟨bS_blind, va_recv hK hP (ci := 1) (q0 := 0) rfl rfl, bS_pre hP hK hD hN⟩ rfl rfl hl.1 rfl (lv_room (Nat.le_of_ble_eq_true rfl)) dX1_takeOut_124 ⟨Nat.zero_le _, Nat.zero_le _⟩) hS (fun q _ h => zx_fW hD hS hA q h) (fun q h => zx_fW hD hS hA q h) (fun u t H1 lc ht hvm hw hB hz1 hk1 hS => ?_)
              replace hw : T4 = u := hw; subst hw
              rw [ht] at hB
              replace hP := hB
              replace hD := xW1_D T4 hD
              obtain ⟨x6, ex6, hM⟩ := zx_nE hM
              refine lv_iinc (v := x6) (lv' := [(4, .int x6), (0, .ref h), (3, .int v3)]) hx hb dX1_takeOut_127 hl (k := 2) rfl (by rw [ex6]; rfl) (by decide) rfl (fun ls hl => ?_)
              refine lv_goto (tgt := 108) hx hb dX1_takeOut_130 (by decide) ?_
              exact ih108 v3 x6 T4 _ _ _ hP hD hS (lv_sub hl [1, 2, 0] rfl) hM
        refine lv_iconst (v := 0) hx hb dX1_takeOut_105 (by decide) ?_
        refine lv_istore (lv' := [(4, .int 0), (0, .ref h), (3, .int v3)]) hx hb dX1_takeOut_106 hl (by decide) rfl (fun ls hl => ?_)
        exact l108 N v3 0 S_ _ _ _ hP hD hS (lv_sub hl [1, 2, 0] rfl) hM
      refine lv_iload hx hb dX1_takeOut_23 (lv_at hl 2 rfl) ?_
      refine lv_bipush (v := 8) hx hb dX1_takeOut_25 (by decide) ?_
      refine lv_icmp_ge (tgt := 105) hx hb dX1_takeOut_27 (by decide) (fun q7 => ?_) (fun q7 => ?_)
      · replace hM := zx_t q7 hM
        exact j105 v3 S_ _ _ _ hP hD hS (lv_sub hl [0, 1] rfl) hM
      · replace hM := zx_f q7 hM
        refine lv_aload_n hx hb dX1_takeOut_30 rfl (lv_at hl 0 rfl) ?_
        refine va_get (D := D) (ci := 1) (v := .ref (ad 1)) (C := RX1) (T := TX1) (N := 14) hx hb hts inlX1 hown hK hP 0 rfl rfl 1 (by decide) (hts _ zw_2_6) (fun _ h9 => h9) rfl dX1_takeOut_31 ?_
        refine lv_aload_n hx hb dX1_takeOut_34 rfl (lv_at hl 0 rfl) ?_
        refine va_get (D := D) (ci := 1) (v := .int (S_ 10 0)) (C := RX1) (T := TX1) (N := 14) hx hb hts inlX1 hown hK hP 0 rfl rfl 5 (by decide) (hts _ zw_2_22) (fun _ h9 => h9) rfl dX1_takeOut_35 ?_
        obtain ⟨x8, hz9, hM⟩ := zx_b1E hM
        refine va_calli (va_runSN (As := [.ref (ad 1), .int (S_ 10 0)]) (rest := []) ⟨hx, hb, hml, hown, hts⟩ (c_X2_get l D cI cZ cT (ad 1) 49 (S_ 1) _ N (S_ 10 0) hz9) ⟨va_cnB 2 hts (zg_c zw_3_6) rfl rfl rfl (hN _ (zx_nw_X1_70)) (hts _ zw_1_2) zyX2_get ⟨Nat.le_of_ble_eq_true rfl, Nat.le_of_ble_eq_true rfl⟩, (hts _ zw_3_5), trivial⟩ ⟨bS_blind, bS_pre (zx_P1 hP 2 (rfl)) hK (zx_D1 hD 2 (rfl)) hN⟩ rfl rfl hl.1 rfl (lv_room (Nat.le_of_ble_eq_true rfl)) dX1_takeOut_38 ⟨Nat.zero_le _, Nat.zero_le _⟩) hS (fun q h1 h2 => absurd h1 (Nat.not_lt.mpr h2)) (fun q h => hA q (Nat.le_trans hS.1 h)) (fun r u t H1 lc ht hvm hw hB hz1 hk1 hS => ?_)
        replace hw : x8 = r := hw; subst hw
        replace hP := zx_keep hP hk1
        refine lv_if_le (tgt := 105) hx hb dX1_takeOut_41 (by decide) (fun q10 => ?_) (fun q10 => ?_)
        · replace hM := zx_t q10 hM
          exact j105 v3 S_ _ _ _ hP hD hS (lv_sub hl [0, 1] rfl) hM
        · replace hM := zx_f q10 hM
          refine lv_aload_n hx hb dX1_takeOut_44 rfl (lv_at hl 0 rfl) ?_
          refine va_get (D := D) (ci := 1) (v := .ref (ad 3)) (C := RX1) (T := TX1) (N := 14) hx hb hts inlX1 hown hK hP 0 rfl rfl 3 (by decide) (hts _ zw_2_8) (fun _ h9 => h9) rfl dX1_takeOut_45 ?_
          refine lv_aload_n hx hb dX1_takeOut_48 rfl (lv_at hl 0 rfl) ?_
          refine va_get (D := D) (ci := 1) (v := .int (S_ 10 0)) (C := RX1) (T := TX1) (N := 14) hx hb hts inlX1 hown hK hP 0 rfl rfl 5 (by decide) (hts _ zw_2_22) (fun _ h9 => h9) rfl dX1_takeOut_49 ?_
          obtain ⟨x11, hz12, hM⟩ := zx_b1E hM
          refine va_calli (va_runSN (As := [.ref (ad 3), .int (S_ 10 0)]) (rest := []) ⟨hx, hb, hml, hown, hts⟩ (c_X2_get l D cI cZ cT (ad 3) 49 (S_ 3) _ N (S_ 10 0) hz12) ⟨va_cnB 2 hts (zg_c zw_3_6) rfl rfl rfl (hN _ (zx_nw_X1_70)) (hts _ zw_1_2) zyX2_get ⟨Nat.le_of_ble_eq_true rfl, Nat.le_of_ble_eq_true rfl⟩, (hts _ zw_3_5), trivial⟩ ⟨bS_blind, bS_pre (zx_P1 hP 4 (rfl)) hK (zx_D1 hD 4 (rfl)) hN⟩ rfl rfl hl.1 rfl (lv_room (Nat.le_of_ble_eq_true rfl)) dX1_takeOut_52 ⟨Nat.zero_le _, Nat.zero_le _⟩) hS (fun q h1 h2 => absurd h1 (Nat.not_lt.mpr h2)) (fun q h => hA q (Nat.le_trans hS.1 h)) (fun r u t H1 lc ht hvm hw hB hz1 hk1 hS => ?_)
          replace hw : x11 = r := hw; subst hw
          replace hP := zx_keep hP hk1
          refine lv_iconst (v := 1) hx hb dX1_takeOut_55 (by decide) ?_
          refine lv_icmp_ne (tgt := 105) hx hb dX1_takeOut_56 (by decide) (fun q13 => ?_) (fun q13 => ?_)
          · replace hM := zx_f q13 hM
            exact j105 v3 S_ _ _ _ hP hD hS (lv_sub hl [0, 1] rfl) hM
          · replace hM := zx_t q13 hM
            refine lv_aload_n hx hb dX1_takeOut_59 rfl (lv_at hl 0 rfl) ?_
            refine va_get (D := D) (ci := 1) (v := .int (S_ 10 0)) (C := RX1) (T := TX1) (N := 14) hx hb hts inlX1 hown hK hP 0 rfl rfl 5 (by decide) (hts _ zw_2_22) (fun _ h9 => h9) rfl dX1_takeOut_60 ?_
            refine lv_istore (lv' := [(5, .int (S_ 10 0)), (0, .ref h), (3, .int v3), (4, .int v4)]) hx hb dX1_takeOut_63 hl (by decide) rfl (fun ls hl => ?_)
            refine lv_aload_n hx hb dX1_takeOut_65 rfl (lv_at hl 1 rfl) ?_
            refine lv_aload_n hx hb dX1_takeOut_66 rfl (lv_at hl 1 rfl) ?_
            refine va_get (D := D) (ci := 1) (v := .ref (ad 4)) (C := RX1) (T := TX1) (N := 14) hx hb hts inlX1 hown hK hP 0 rfl rfl 4 (by decide) (hts _ zw_2_9) (fun _ h9 => h9) rfl dX1_takeOut_67 ?_
            refine lv_iload hx hb dX1_takeOut_70 (lv_at hl 0 rfl) ?_
            refine lv_iconst (v := 5) hx hb dX1_takeOut_72 (by decide) ?_
            refine lv_imul hx hb dX1_takeOut_73 ?_
            obtain ⟨x14, hz15, hM⟩ := zx_b1E hM
            refine va_calli (va_runSN (As := [.ref (ad 4), .int ((S_ 10 0) * 5)]) (rest := [.ref h]) ⟨hx, hb, hml, hown, hts⟩ (c_X2_get l D cI cZ cT (ad 4) 245 (S_ 4) _ N ((S_ 10 0) * 5) hz15) ⟨va_cnB 2 hts (zg_c zw_3_6) rfl rfl rfl (hN _ (zx_nw_X1_70)) (hts _ zw_1_2) zyX2_get ⟨Nat.le_of_ble_eq_true rfl, Nat.le_of_ble_eq_true rfl⟩, (hts _ zw_3_5), trivial⟩ ⟨bS_blind, bS_pre (zx_P1 hP 5 (rfl)) hK (zx_D1 hD 5 (rfl)) hN⟩ rfl rfl hl.1 rfl (lv_room (Nat.le_of_ble_eq_true rfl)) dX1_takeOut_74 ⟨Nat.zero_le _, Nat.zero_le _⟩) hS (fun q h1 h2 => absurd h1 (Nat.not_lt.mpr h2)) (fun q h => hA q (Nat.le_trans hS.1 h)) (fun r u t H1 lc ht hvm hw hB hz1 hk1 hS => ?_)
            replace hw : x14 = r := hw; subst hw
            replace hP := zx_keep hP hk1
            obtain ⟨T16, eT16, hM⟩ := zx_nE hM
            refine va_put (D := D) (ci := 1) (v := .int x14) (ty := .int) (C := RX1) (T := TX1) (N := 14) hx hb hts inlX1 tyX1 tyX1_ok nmX1 hown hK hP hD hS 0 rfl rfl 5 (by decide) (hts _ zw_2_22) (fun _ h9 => h9) rfl (by decide +kernel) rfl rfl (Nat.le_of_ble_eq_true rfl) dX1_takeOut_77 (fun H lc hP hD hS => ?_)
            replace hP : va_P D vwCl (xW1 cI h ad T16) H := by rw [eT16]; exact hP
            replace hD : va_D A (xW1 cI h ad T16) := by rw [eT16]; exact hD
            refine lv_aload_n hx hb dX1_takeOut_80 rfl (lv_at hl 1 rfl) ?_
            refine lv_aload_n hx hb dX1_takeOut_81 rfl (lv_at hl 1 rfl) ?_
            refine va_get (D := D) (ci := 1) (v := .int (T16 10 0)) (C := RX1) (T := TX1) (N := 14) hx hb hts inlX1 hown hK hP 0 rfl rfl 5 (by decide) (hts _ zw_2_22) (fun _ h9 => h9) rfl dX1_takeOut_82 ?_
            obtain ⟨T17, hz18, hM⟩ := zx_b1E hM
            refine va_callv (va_runV (As := [.int (T16 10 0)]) (rest := []) ⟨hx, hb, hml, hown, hts⟩ (c_X1_detach l D cI cZ cT h ad T16 _ N (T16 10 0)  hz18) (cwV 1 hts (zg_V zw_13_4 zw_13_5 zw_13_6 zw_1_14 zw_13_7) rfl rfl rfl ⟨rfl, zyX1_detach⟩ ⟨Nat.le_of_ble_eq_true rfl, Nat.le_of_ble_eq_true rfl⟩) ⟨bS_blind, va_recv hK hP (ci := 1) (q0 := 0) rfl rfl, bS_pre hP hK hD hN⟩ rfl rfl hl.1 rfl (lv_room (Nat.le_of_ble_eq_true rfl)) dX1_takeOut_85 ⟨Nat.zero_le _, Nat.zero_le _⟩) hS (fun q _ h => zx_fW hD hS hA q h) (fun q h => zx_fW hD hS hA q h) (fun u t H1 lc ht hvm hw hB hz1 hk1 hS => ?_)
            replace hw : T17 = u := hw; subst hw
            rw [ht] at hB
            replace hP := hB
            replace hD := xW1_D T17 hD
            refine lv_aload_n hx hb dX1_takeOut_88 rfl (lv_at hl 1 rfl) ?_
            refine va_get (D := D) (ci := 1) (v := .ref (ad 1)) (C := RX1) (T := TX1) (N := 14) hx hb hts inlX1 hown hK hP 0 rfl rfl 1 (by decide) (hts _ zw_2_6) (fun _ h9 => h9) rfl dX1_takeOut_89 ?_
            refine lv_iload hx hb dX1_takeOut_92 (lv_at hl 0 rfl) ?_
            refine lv_bipush (v := (-2)) hx hb dX1_takeOut_94 (by decide) ?_
            obtain ⟨g19, hz20, hM⟩ := zx_b1E hM
            refine va_callv (va_runSN (As := [.ref (ad 1), .int (S_ 10 0), .int (-2)]) (rest := []) ⟨hx, hb, hml, hown, hts⟩ (c_X2_put l D cI cZ cT (ad 1) 49 (T17 1) _ N (S_ 10 0) (-2) hz20) ⟨va_cnB 3 hts (zg_c zw_3_0) rfl rfl rfl (hN _ (zx_nw_X1_45)) (hts _ zw_1_2) zyX2_put ⟨Nat.le_of_ble_eq_true rfl, Nat.le_of_ble_eq_true rfl⟩, (hts _ zw_2_23), trivial⟩ ⟨bS_blind, bS_pre (zx_P1 hP 2 (rfl)) hK (zx_D1 hD 2 (rfl)) hN⟩ rfl rfl hl.1 rfl (lv_room (Nat.le_of_ble_eq_true rfl)) dX1_takeOut_96 ⟨Nat.zero_le _, Nat.zero_le _⟩) hS (fun q _ h => zx_f1 hD hS hA (k := 2) rfl q h) (fun q h => zx_f1 hD hS hA (k := 2) rfl q h) (fun u t H1 lc ht hvm hw hB hz1 hk1 hS => ?_)
            replace hw : g19 = u := hw; subst hw
            rw [ht] at hB
            replace hP := zx_set1 (k := 2) hP hD rfl hk1 hB
            replace hD := va_D.set (p := 2) (e := .inl (cI, 49, .inl g19)) hD rfl
            rw [xW1_pa1] at hP hD
            obtain ⟨T21, eT21, hM⟩ := zx_nE hM
            rw [← eT21] at hP hD
            obtain ⟨x22, ex22, hM⟩ := zx_nE hM
            refine lv_iinc (v := x22) (lv' := [(4, .int x22), (5, .int (S_ 10 0)), (0, .ref h), (3, .int v3)]) hx hb dX1_takeOut_99 hl (k := 3) rfl (by rw [ex22]; rfl) (by decide) rfl (fun ls hl => ?_)
            refine lv_goto (tgt := 23) hx hb dX1_takeOut_102 (by decide) ?_
            exact ih23 v3 x22 T21 _ _ _ hP hD hS (lv_sub hl [2, 3, 0] rfl) hM
  refine lv_aload_n hx hb dX1_takeOut_0 rfl (lv_at hl 0 rfl) ?_
  refine va_get (D := D) (ci := 1) (v := .ref (ad 2)) (C := RX1) (T := TX1) (N := 14) hx hb hts inlX1 hown hK hP 0 rfl rfl 2 (by decide) (hts _ zw_2_7) (fun _ h9 => h9) rfl dX1_takeOut_1 ?_
  refine lv_iload_n hx hb dX1_takeOut_4 rfl (lv_at hl 1 rfl) ?_
  obtain ⟨x23, hz24, hM⟩ := zx_b1E hM
  refine va_calli (va_runSN (As := [.ref (ad 2), .int p1]) (rest := []) ⟨hx, hb, hml, hown, hts⟩ (c_X2_get l D cI cZ cT (ad 2) 49 (S 2) _ N p1 hz24) ⟨va_cnB 2 hts (zg_c zw_3_6) rfl rfl rfl (hN _ (zx_nw_X1_70)) (hts _ zw_1_2) zyX2_get ⟨Nat.le_of_ble_eq_true rfl, Nat.le_of_ble_eq_true rfl⟩, (hts _ zw_3_5), trivial⟩ ⟨bS_blind, bS_pre (zx_P1 hP 3 (rfl)) hK (zx_D1 hD 3 (rfl)) hN⟩ rfl rfl hl.1 rfl (lv_room (Nat.le_of_ble_eq_true rfl)) dX1_takeOut_5 ⟨Nat.zero_le _, Nat.zero_le _⟩) hS (fun q h1 h2 => absurd h1 (Nat.not_lt.mpr h2)) (fun q h => hA q (Nat.le_trans hS.1 h)) (fun r u t H1 lc ht hvm hw hB hz1 hk1 hS => ?_)
  replace hw : x23 = r := hw; subst hw
  replace hP := zx_keep hP hk1
  refine lv_istore_n (lv' := [(2, .int x23), (0, .ref h), (1, .int p1)]) hx hb dX1_takeOut_8 rfl hl (by decide) rfl (fun ls hl => ?_)
  refine lv_aload_n hx hb dX1_takeOut_9 rfl (lv_at hl 1 rfl) ?_
  refine lv_iload_n hx hb dX1_takeOut_10 rfl (lv_at hl 2 rfl) ?_
  obtain ⟨T25, hz26, hM⟩ := zx_b1E hM
  refine va_callv (va_runV (As := [.int p1]) (rest := []) ⟨hx, hb, hml, hown, hts⟩ (c_X1_detach l D cI cZ cT h ad S _ N p1  hz26) (cwV 1 hts (zg_V zw_13_4 zw_13_5 zw_13_6 zw_1_14 zw_13_7) rfl rfl rfl ⟨rfl, zyX1_detach⟩ ⟨Nat.le_of_ble_eq_true rfl, Nat.le_of_ble_eq_true rfl⟩) ⟨bS_blind, va_recv hK hP (ci := 1) (q0 := 0) rfl rfl, bS_pre hP hK hD hN⟩ rfl rfl hl.1 rfl (lv_room (Nat.le_of_ble_eq_true rfl)) dX1_takeOut_11 ⟨Nat.zero_le _, Nat.zero_le _⟩) hS (fun q _ h => zx_fW hD hS hA q h) (fun q h => zx_fW hD hS hA q h) (fun u t H1 lc ht hvm hw hB hz1 hk1 hS => ?_)
  replace hw : T25 = u := hw; subst hw
  rw [ht] at hB
  replace hP := hB
  replace hD := xW1_D T25 hD
  refine lv_aload_n hx hb dX1_takeOut_14 rfl (lv_at hl 1 rfl) ?_
  refine lv_iload_n hx hb dX1_takeOut_15 rfl (lv_at hl 0 rfl) ?_
  obtain ⟨x27, T28, hz29, hM⟩ := zx_b2E hM
  refine va_calli (va_runV (As := [.int x23]) (rest := []) ⟨hx, hb, hml, hown, hts⟩ (c_X1_dissolveUpward l D cI cZ cT h ad T25 _ N x23  hz29) (cwV 1 hts (zg_V zw_14_15 zw_14_16 zw_14_17 zw_1_14 zw_14_18) rfl rfl rfl ⟨rfl, zyX1_dissolveUpward⟩ ⟨Nat.le_of_ble_eq_true rfl, Nat.le_of_ble_eq_true rfl⟩) ⟨bS_blind, va_recv hK hP (ci := 1) (q0 := 0) rfl rfl, bS_pre hP hK hD hN⟩ rfl rfl hl.1 rfl (lv_room (Nat.le_of_ble_eq_true rfl)) dX1_takeOut_16 ⟨Nat.zero_le _, Nat.zero_le _⟩) hS (fun q _ h => zx_fW hD hS hA q h) (fun q h => zx_fW hD hS hA q h) (fun r u t H1 lc ht hvm hw hB hz1 hk1 hS => ?_)
  obtain ⟨hw1, hw2⟩ := Prod.mk.inj hw; subst hw1; subst hw2
  rw [ht] at hB
  replace hP := hB
  replace hD := xW1_D T28 hD
  refine lv_istore_n (lv' := [(3, .int x27), (2, .int x23), (0, .ref h), (1, .int p1)]) hx hb dX1_takeOut_19 rfl hl (by decide) rfl (fun ls hl => ?_)
  refine lv_iconst (v := 0) hx hb dX1_takeOut_20 (by decide) ?_
  refine lv_istore (lv' := [(4, .int 0), (3, .int x27), (2, .int x23), (0, .ref h), (1, .int p1)]) hx hb dX1_takeOut_21 hl (by decide) rfl (fun ls hl => ?_)
  exact l23 N x27 0 T28 _ _ _ hP hD hS (lv_sub hl [3, 1, 0] rfl) hM

/-! ShallowBoxes$Tree.overlapIn(I)I -/
def f_X1_overlapIn_l26 (N : Nat) (S : zx_S) (k14 : Int32 → Int32 → Int32 → Int32 → Option (Int32)) : Nat → Int32 → Int32 → Int32 → Int32 → Int32 → Option (Int32)
  | 0, _, _, _, _, _ => none
  | n26 + 1, v1, v2, v3, v4, v5 => (if v3 ≤ v5 then
  (zx_n (v4 + 1) (fun x3 =>
k14 v1 v2 v3 x3)) else
  (zx_b1 (f_X2_get N 245 ((v1 * 5) + v4) (S 4)) (fun x4 =>
(zx_b1 (f_X2_get N 245 ((v1 * 5) + v5) (S 4)) (fun x6 =>
(zx_b1 (f_X1_commonCells N x4 x6 S) (fun x8 =>
(zx_n (v2 + x8) (fun x10 =>
(zx_n (v5 + 1) (fun x11 =>
f_X1_overlapIn_l26 N S k14  n26 v1 x10 v3 v4 x11)))))))))))
def f_X1_overlapIn_l14 (N : Nat) (S : zx_S) : Nat → Int32 → Int32 → Int32 → Int32 → Option (Int32)
  | 0, _, _, _, _ => none
  | n14 + 1, v1, v2, v3, v4 => (if v3 ≤ v4 then
  some v2 else
  (zx_n (v4 + 1) (fun x12 =>
f_X1_overlapIn_l26 N S (f_X1_overlapIn_l14 N S  n14) N v1 v2 v3 v4 x12)))
def f_X1_overlapIn (N : Nat) (p1 : Int32) (S : zx_S) : Option (Int32) :=
  (zx_b1 (f_X2_get N 49 p1 (S 3)) (fun x13 =>
f_X1_overlapIn_l14 N S  N p1 0 x13 0))
abbrev rmX1_overlapIn : Room := { frames := 2, cells := 0, slots := 0, locals := 47 }
abbrev zsX1_overlapIn : List Cond := .code yX1_overlapIn cX1_overlapIn 6 (some .int) :: wsL_law
theorem zyX1_overlapIn : yX1_overlapIn.cls ≠ "java/lang/invoke/MethodHandle" ∧ yX1_overlapIn.cls ≠ "java/lang/invoke/VarHandle" ∧ (parseMethodDescriptor yX1_overlapIn.desc).map (fun d => d.parameters.length) = some 1 := by decide +kernel
set_option maxHeartbeats 4000000 in
set_option maxRecDepth 100000 in
theorem c_X1_overlapIn (l : Launch) (D : va_G) (cI cZ cT : ClassId) (h : Nat) (ad : Nat → Nat) (S : zx_S) (sz : Nat) (N : Nat) (p1 : Int32) {R : Int32} (hM : f_X1_overlapIn N p1 S = some R) : Met l yX1_overlapIn zsX1_overlapIn rmX1_overlapIn (va_Pc [.ref h, .int p1] (bS D (zx_ty cI cZ cT) (xW1 cI h ad S) sz)) (va_Qi (fun r (_ : Unit) => R = r) (fun _ _ => True) (fun q => sz ≤ q)) 0 0 (fun q => sz ≤ q) := by
  refine Met.ofW (cc := cX1_overlapIn) (maxL := 6) (ret := (some .int)) (by decide) rfl ?_
  intro p e s m args below meth c s₁ B hml hv
  obtain ⟨rfl, hsz, hP, hK, hD0, hN⟩ := hv
  have hx := B.exec
  have hb := B.bytes
  have hr := B.returns
  have hts : ∀ w ∈ wsL_law, w.before _ s = true := fun w hw => atoms_spec (ws := zsX1_overlapIn) B.pre w (List.mem_cons_of_mem _ hw)
  have hown : s.vm.findClass RX1 = some m.cls := findClass_of_methodNamed B.named
  have hlocks := B.notSynchronized
  subst hsz
  generalize hAe : (fun q : Nat => s.heap.size ≤ q) = A
  have hA : ∀ q : Nat, s.heap.size ≤ q → A q := fun q h => by rw [← hAe]; exact h
  have hD := hD0
  have hS : va_S A s.heap s.heap [] := va_S.rf
  have hl := lv_entry ([.ref h, .int p1]) (n := 6) (Nat.le_of_ble_eq_true rfl)
  rw [lg_entry_eq]
  generalize (lg_sl ([.ref h, .int p1]) ++ List.replicate (6 - (lg_sl ([.ref h, .int p1])).length) Slot.unset).toArray = ls at hl ⊢
  have hl : lv_has ls 6 [(0, .ref h), (1, .int p1)] := hl
  generalize hQ : MQ below (va_Qi (fun r (_ : Unit) => R = r) (fun _ _ => True) A) ([.ref h, .int p1] : List Value).toArray s 0 0 A = Q9
  replace hQ := hQ.symm
  unfold f_X1_overlapIn at hM
  have l14 : ∀ (n14 : Nat) (v1 : Int32) (v2 : Int32) (v3 : Int32) (v4 : Int32) (H : Heap) (lc : List Loc) (ls : Array Slot), va_P D vwCl (xW1 cI h ad S) H → va_S A s.heap H lc → lv_has ls 6 [(0, .ref h), (1, .int v1), (2, .int v2), (3, .int v3), (4, .int v4)] → f_X1_overlapIn_l14 N S n14 v1 v2 v3 v4 = some R → W p l e (headSpec zsX1_overlapIn rmX1_overlapIn).room s m ([.ref h, .int p1] : List Value).toArray below meth c H lc 0 0 Q9 (F0 m 14 ls []) := by
    intro n14
    induction n14 with
    | zero =>
      intro v1 v2 v3 v4 H lc ls hP hS hl hM
      rw [f_X1_overlapIn_l14] at hM; exact absurd hM (by intro h; cases h)
    | succ n14 ih14 =>
      intro v1 v2 v3 v4 H lc ls hP hS hl hM
      rw [f_X1_overlapIn_l14] at hM
      refine lv_iload hx hb dX1_overlapIn_14 (lv_at hl 4 rfl) ?_
      refine lv_iload_n hx hb dX1_overlapIn_16 rfl (lv_at hl 3 rfl) ?_
      refine lv_icmp_ge (tgt := 77) hx hb dX1_overlapIn_17 (by decide) (fun q1 => ?_) (fun q1 => ?_)
      · replace hM := zx_t q1 hM
        refine lv_iload_n hx hb dX1_overlapIn_77 rfl (lv_at hl 2 rfl) ?_
        rw [hQ]
        exact W.iret hx hb hr (fun t ht hW => ⟨⟨v2, (), rfl, (Option.some.inj hM).symm, trivial⟩, hS.F ht⟩) hS.2.2 dX1_overlapIn_78
      · replace hM := zx_f q1 hM
        have l26 : ∀ (n26 : Nat) (v1 : Int32) (v2 : Int32) (v3 : Int32) (v4 : Int32) (v5 : Int32) (H : Heap) (lc : List Loc) (ls : Array Slot), va_P D vwCl (xW1 cI h ad S) H → va_S A s.heap H lc → lv_has ls 6 [(0, .ref h), (1, .int v1), (2, .int v2), (3, .int v3), (4, .int v4), (5, .int v5)] → f_X1_overlapIn_l26 N S (f_X1_overlapIn_l14 N S  n14) n26 v1 v2 v3 v4 v5 = some R → W p l e (headSpec zsX1_overlapIn rmX1_overlapIn).room s m ([.ref h, .int p1] : List Value).toArray below meth c H lc 0 0 Q9 (F0 m 26 ls []) := by
          intro n26
          induction n26 with
          | zero =>
            intro v1 v2 v3 v4 v5 H lc ls hP hS hl hM
            rw [f_X1_overlapIn_l26] at hM; exact absurd hM (by intro h; cases h)
          | succ n26 ih26 =>
            intro v1 v2 v3 v4 v5 H lc ls hP hS hl hM
            rw [f_X1_overlapIn_l26] at hM
            refine lv_iload hx hb dX1_overlapIn_26 (lv_at hl 5 rfl) ?_
            refine lv_iload_n hx hb dX1_overlapIn_28 rfl (lv_at hl 3 rfl) ?_
            refine lv_icmp_ge (tgt := 71) hx hb dX1_overlapIn_29 (by decide) (fun q2 => ?_) (fun q2 => ?_)
            · replace hM := zx_t q2 hM
              obtain ⟨x3, ex3, hM⟩ := zx_nE hM
              refine lv_iinc (v := x3) (lv' := [(4, .int x3), (0, .ref h), (1, .int v1), (2, .int v2), (3, .int v3), (5, .int v5)]) hx hb dX1_overlapIn_71 hl (k := 4) rfl (by rw [ex3]; rfl) (by decide) rfl (fun ls hl => ?_)
              refine lv_goto (tgt := 14) hx hb dX1_overlapIn_74 (by decide) ?_
              exact ih14 v1 v2 v3 x3 _ _ _ hP hS (lv_sub hl [1, 2, 3, 4, 0] rfl) hM
            · replace hM := zx_f q2 hM
              refine lv_iload_n hx hb dX1_overlapIn_32 rfl (lv_at hl 2 rfl) ?_
              refine lv_aload_n hx hb dX1_overlapIn_33 rfl (lv_at hl 0 rfl) ?_
              refine lv_aload_n hx hb dX1_overlapIn_34 rfl (lv_at hl 0 rfl) ?_
              refine va_get (D := D) (ci := 1) (v := .ref (ad 4)) (C := RX1) (T := TX1) (N := 14) hx hb hts inlX1 hown hK hP 0 rfl rfl 4 (by decide) (hts _ zw_2_9) (fun _ h9 => h9) rfl dX1_overlapIn_35 ?_
              refine lv_iload_n hx hb dX1_overlapIn_38 rfl (lv_at hl 1 rfl) ?_
              refine lv_iconst (v := 5) hx hb dX1_overlapIn_39 (by decide) ?_
              refine lv_imul hx hb dX1_overlapIn_40 ?_
              refine lv_iload hx hb dX1_overlapIn_41 (lv_at hl 4 rfl) ?_
              refine lv_iadd hx hb dX1_overlapIn_43 ?_
              obtain ⟨x4, hz5, hM⟩ := zx_b1E hM
              refine va_calli (va_runSN (As := [.ref (ad 4), .int ((v1 * 5) + v4)]) (rest := [.ref h, .int v2]) ⟨hx, hb, hml, hown, hts⟩ (c_X2_get l D cI cZ cT (ad 4) 245 (S 4) _ N ((v1 * 5) + v4) hz5) ⟨va_cnB 2 hts (zg_c zw_3_6) rfl rfl rfl (hN _ (zx_nw_X1_70)) (hts _ zw_1_2) zyX2_get ⟨Nat.le_of_ble_eq_true rfl, Nat.le_of_ble_eq_true rfl⟩, (hts _ zw_3_5), trivial⟩ ⟨bS_blind, bS_pre (zx_P1 hP 5 (rfl)) hK (zx_D1 hD 5 (rfl)) hN⟩ rfl rfl hl.1 rfl (lv_room (Nat.le_of_ble_eq_true rfl)) dX1_overlapIn_44 ⟨Nat.zero_le _, Nat.zero_le _⟩) hS (fun q h1 h2 => absurd h1 (Nat.not_lt.mpr h2)) (fun q h => hA q (Nat.le_trans hS.1 h)) (fun r u t H1 lc ht hvm hw hB hz1 hk1 hS => ?_)
              replace hw : x4 = r := hw; subst hw
              replace hP := zx_keep hP hk1
              refine lv_aload_n hx hb dX1_overlapIn_47 rfl (lv_at hl 0 rfl) ?_
              refine va_get (D := D) (ci := 1) (v := .ref (ad 4)) (C := RX1) (T := TX1) (N := 14) hx hb hts inlX1 hown hK hP 0 rfl rfl 4 (by decide) (hts _ zw_2_9) (fun _ h9 => h9) rfl dX1_overlapIn_48 ?_
              refine lv_iload_n hx hb dX1_overlapIn_51 rfl (lv_at hl 1 rfl) ?_
              refine lv_iconst (v := 5) hx hb dX1_overlapIn_52 (by decide) ?_
              refine lv_imul hx hb dX1_overlapIn_53 ?_
              refine lv_iload hx hb dX1_overlapIn_54 (lv_at hl 5 rfl) ?_
              refine lv_iadd hx hb dX1_overlapIn_56 ?_
              obtain ⟨x6, hz7, hM⟩ := zx_b1E hM
              refine va_calli (va_runSN (As := [.ref (ad 4), .int ((v1 * 5) + v5)]) (rest := [.int x4, .ref h, .int v2]) ⟨hx, hb, hml, hown, hts⟩ (c_X2_get l D cI cZ cT (ad 4) 245 (S 4) _ N ((v1 * 5) + v5) hz7) ⟨va_cnB 2 hts (zg_c zw_3_6) rfl rfl rfl (hN _ (zx_nw_X1_70)) (hts _ zw_1_2) zyX2_get ⟨Nat.le_of_ble_eq_true rfl, Nat.le_of_ble_eq_true rfl⟩, (hts _ zw_3_5), trivial⟩ ⟨bS_blind, bS_pre (zx_P1 hP 5 (rfl)) hK (zx_D1 hD 5 (rfl)) hN⟩ rfl rfl hl.1 rfl (lv_room (Nat.le_of_ble_eq_true rfl)) dX1_overlapIn_57 ⟨Nat.zero_le _, Nat.zero_le _⟩) hS (fun q h1 h2 => absurd h1 (Nat.not_lt.mpr h2)) (fun q h => hA q (Nat.le_trans hS.1 h)) (fun r u t H1 lc ht hvm hw hB hz1 hk1 hS => ?_)
              replace hw : x6 = r := hw; subst hw
              replace hP := zx_keep hP hk1
              obtain ⟨x8, hz9, hM⟩ := zx_b1E hM
              refine va_calli (va_runV (As := [.int x4, .int x6]) (rest := [.int v2]) ⟨hx, hb, hml, hown, hts⟩ (c_X1_commonCells l D cI cZ cT h ad S _ N x4 x6  hz9) (cwV 2 hts (zg_V zw_6_3 zw_6_4 zw_6_5 zw_1_14 zw_6_6) rfl rfl rfl ⟨rfl, zyX1_commonCells⟩ ⟨Nat.le_of_ble_eq_true rfl, Nat.le_of_ble_eq_true rfl⟩) ⟨bS_blind, va_recv hK hP (ci := 1) (q0 := 0) rfl rfl, bS_pre hP hK hD hN⟩ rfl rfl hl.1 rfl (lv_room (Nat.le_of_ble_eq_true rfl)) dX1_overlapIn_60 ⟨Nat.zero_le _, Nat.zero_le _⟩) hS (fun q h1 h2 => absurd h1 (Nat.not_lt.mpr h2)) (fun q h => hA q (Nat.le_trans hS.1 h)) (fun r u t H1 lc ht hvm hw hB hz1 hk1 hS => ?_)
              replace hw : x8 = r := hw; subst hw
              replace hP := zx_keep hP hk1
              refine lv_iadd hx hb dX1_overlapIn_63 ?_
              obtain ⟨x10, ex10, hM⟩ := zx_nE hM
              refine zx_top ex10 ?_
              refine lv_istore_n (lv' := [(2, .int x10), (0, .ref h), (1, .int v1), (3, .int v3), (4, .int v4), (5, .int v5)]) hx hb dX1_overlapIn_64 rfl hl (by decide) rfl (fun ls hl => ?_)
              obtain ⟨x11, ex11, hM⟩ := zx_nE hM
              refine lv_iinc (v := x11) (lv' := [(5, .int x11), (2, .int x10), (0, .ref h), (1, .int v1), (3, .int v3), (4, .int v4)]) hx hb dX1_overlapIn_65 hl (k := 5) rfl (by rw [ex11]; rfl) (by decide) rfl (fun ls hl => ?_)
              refine lv_goto (tgt := 26) hx hb dX1_overlapIn_68 (by decide) ?_
              exact ih26 v1 x10 v3 v4 x11 _ _ _ hP hS (lv_sub hl [2, 3, 1, 4, 5, 0] rfl) hM
        refine lv_iload hx hb dX1_overlapIn_20 (lv_at hl 4 rfl) ?_
        refine lv_iconst (v := 1) hx hb dX1_overlapIn_22 (by decide) ?_
        refine lv_iadd hx hb dX1_overlapIn_23 ?_
        obtain ⟨x12, ex12, hM⟩ := zx_nE hM
        refine zx_top ex12 ?_
        refine lv_istore (lv' := [(5, .int x12), (0, .ref h), (1, .int v1), (2, .int v2), (3, .int v3), (4, .int v4)]) hx hb dX1_overlapIn_24 hl (by decide) rfl (fun ls hl => ?_)
        exact l26 N v1 v2 v3 v4 x12 _ _ _ hP hS (lv_sub hl [1, 2, 3, 4, 5, 0] rfl) hM
  refine lv_iconst (v := 0) hx hb dX1_overlapIn_0 (by decide) ?_
  refine lv_istore_n (lv' := [(2, .int 0), (0, .ref h), (1, .int p1)]) hx hb dX1_overlapIn_1 rfl hl (by decide) rfl (fun ls hl => ?_)
  refine lv_aload_n hx hb dX1_overlapIn_2 rfl (lv_at hl 1 rfl) ?_
  refine va_get (D := D) (ci := 1) (v := .ref (ad 3)) (C := RX1) (T := TX1) (N := 14) hx hb hts inlX1 hown hK hP 0 rfl rfl 3 (by decide) (hts _ zw_2_8) (fun _ h9 => h9) rfl dX1_overlapIn_3 ?_
  refine lv_iload_n hx hb dX1_overlapIn_6 rfl (lv_at hl 2 rfl) ?_
  obtain ⟨x13, hz14, hM⟩ := zx_b1E hM
  refine va_calli (va_runSN (As := [.ref (ad 3), .int p1]) (rest := []) ⟨hx, hb, hml, hown, hts⟩ (c_X2_get l D cI cZ cT (ad 3) 49 (S 3) _ N p1 hz14) ⟨va_cnB 2 hts (zg_c zw_3_6) rfl rfl rfl (hN _ (zx_nw_X1_70)) (hts _ zw_1_2) zyX2_get ⟨Nat.le_of_ble_eq_true rfl, Nat.le_of_ble_eq_true rfl⟩, (hts _ zw_3_5), trivial⟩ ⟨bS_blind, bS_pre (zx_P1 hP 4 (rfl)) hK (zx_D1 hD 4 (rfl)) hN⟩ rfl rfl hl.1 rfl (lv_room (Nat.le_of_ble_eq_true rfl)) dX1_overlapIn_7 ⟨Nat.zero_le _, Nat.zero_le _⟩) hS (fun q h1 h2 => absurd h1 (Nat.not_lt.mpr h2)) (fun q h => hA q (Nat.le_trans hS.1 h)) (fun r u t H1 lc ht hvm hw hB hz1 hk1 hS => ?_)
  replace hw : x13 = r := hw; subst hw
  replace hP := zx_keep hP hk1
  refine lv_istore_n (lv' := [(3, .int x13), (2, .int 0), (0, .ref h), (1, .int p1)]) hx hb dX1_overlapIn_10 rfl hl (by decide) rfl (fun ls hl => ?_)
  refine lv_iconst (v := 0) hx hb dX1_overlapIn_11 (by decide) ?_
  refine lv_istore (lv' := [(4, .int 0), (3, .int x13), (2, .int 0), (0, .ref h), (1, .int p1)]) hx hb dX1_overlapIn_12 hl (by decide) rfl (fun ls hl => ?_)
  exact l14 N p1 0 x13 0 _ _ _ hP hS (lv_sub hl [3, 4, 2, 1, 0] rfl) hM

/-! ShallowBoxes$Tree.overlap()I -/
def f_X1_overlap_j45 (N : Nat) (k9 : Int32 → Int32 → Int32 → zx_S → Option (Int32 × zx_S)) (v1 : Int32) (v2 : Int32) (v3 : Int32) (S_ : zx_S) : Option (Int32 × zx_S) :=
  (zx_n (v3 + 1) (fun x2 =>
k9 v1 v2 x2 S_))
def f_X1_overlap_l9 (N : Nat) : Nat → Int32 → Int32 → Int32 → zx_S → Option (Int32 × zx_S)
  | 0, _, _, _, _ => none
  | n9 + 1, v1, v2, v3, S_ => (if v2 ≤ v3 then
  some (v1, S_) else
  (zx_b1 (f_X2_get N 24 v3 (S_ 8)) (fun x3 =>
(zx_b1 (f_X2_get N 49 x3 (S_ 1)) (fun x5 =>
(if x5 ≤ 0 then
  f_X1_overlap_j45 N (f_X1_overlap_l9 N  n9) v1 v2 v3 S_ else
  (zx_b1 (f_X1_overlapIn N x3 S_) (fun x8 =>
(zx_n (v1 + x8) (fun x10 =>
f_X1_overlap_j45 N (f_X1_overlap_l9 N  n9) x10 v2 v3 S_))))))))))
def f_X1_overlap (N : Nat) (S : zx_S) : Option (Int32 × zx_S) :=
  (zx_b2 (f_X1_countNodes N S) (fun x11 T12 =>
f_X1_overlap_l9 N  N 0 x11 0 T12))
abbrev rmX1_overlap : Room := { frames := 3, cells := 0, slots := 0, locals := 72 }
abbrev zsX1_overlap : List Cond := .code yX1_overlap cX1_overlap 5 (some .int) :: wsL_law
theorem zyX1_overlap : yX1_overlap.cls ≠ "java/lang/invoke/MethodHandle" ∧ yX1_overlap.cls ≠ "java/lang/invoke/VarHandle" ∧ (parseMethodDescriptor yX1_overlap.desc).map (fun d => d.parameters.length) = some 0 := by decide +kernel
set_option maxHeartbeats 4000000 in
set_option maxRecDepth 100000 in
theorem c_X1_overlap (l : Launch) (D : va_G) (cI cZ cT : ClassId) (h : Nat) (ad : Nat → Nat) (S : zx_S) (sz : Nat) (N : Nat) {R : Int32 × zx_S} (hM : f_X1_overlap N S = some R) : Met l yX1_overlap zsX1_overlap rmX1_overlap (va_Pc [.ref h] (bS D (zx_ty cI cZ cT) (xW1 cI h ad S) sz)) (va_Qi (fun r u => R = (r, u)) (fun u t => va_P D vwCl (xW1 cI h ad u) t.heap) (va_A (xW1 cI h ad S) sz)) 0 0 (va_A (xW1 cI h ad S) sz) := by
  refine Met.ofW (cc := cX1_overlap) (maxL := 5) (ret := (some .int)) (by decide) rfl ?_
  intro p e s m args below meth c s₁ B hml hv
  obtain ⟨rfl, hsz, hP, hK, hD0, hN⟩ := hv
  have hx := B.exec
  have hb := B.bytes
  have hr := B.returns
  have hts : ∀ w ∈ wsL_law, w.before _ s = true := fun w hw => atoms_spec (ws := zsX1_overlap) B.pre w (List.mem_cons_of_mem _ hw)
  have hown : s.vm.findClass RX1 = some m.cls := findClass_of_methodNamed B.named
  have hlocks := B.notSynchronized
  subst hsz
  have hD := hD0.self (sz := s.heap.size)
  generalize hAe : va_A (xW1 cI h ad S) s.heap.size = A at hD ⊢
  have hA : ∀ q : Nat, s.heap.size ≤ q → A q := fun q h => by rw [← hAe]; exact Or.inr h
  have hS : va_S A s.heap s.heap [] := va_S.rf
  have hl := lv_entry ([.ref h]) (n := 5) (Nat.le_of_ble_eq_true rfl)
  rw [lg_entry_eq]
  generalize (lg_sl ([.ref h]) ++ List.replicate (5 - (lg_sl ([.ref h])).length) Slot.unset).toArray = ls at hl ⊢
  have hl : lv_has ls 5 [(0, .ref h)] := hl
  generalize hQ : MQ below (va_Qi (fun r u => R = (r, u)) (fun u t => va_P D vwCl (xW1 cI h ad u) t.heap) A) ([.ref h] : List Value).toArray s 0 0 A = Q9
  replace hQ := hQ.symm
  unfold f_X1_overlap at hM
  have l9 : ∀ (n9 : Nat) (v1 : Int32) (v2 : Int32) (v3 : Int32) (S_ : zx_S) (H : Heap) (lc : List Loc) (ls : Array Slot), va_P D vwCl (xW1 cI h ad S_) H → va_D A (xW1 cI h ad S_) → va_S A s.heap H lc → lv_has ls 5 [(0, .ref h), (1, .int v1), (2, .int v2), (3, .int v3)] → f_X1_overlap_l9 N n9 v1 v2 v3 S_ = some R → W p l e (headSpec zsX1_overlap rmX1_overlap).room s m ([.ref h] : List Value).toArray below meth c H lc 0 0 Q9 (F0 m 9 ls []) := by
    intro n9
    induction n9 with
    | zero =>
      intro v1 v2 v3 S_ H lc ls hP hD hS hl hM
      rw [f_X1_overlap_l9] at hM; exact absurd hM (by intro h; cases h)
    | succ n9 ih9 =>
      intro v1 v2 v3 S_ H lc ls hP hD hS hl hM
      rw [f_X1_overlap_l9] at hM
      refine lv_iload_n hx hb dX1_overlap_9 rfl (lv_at hl 3 rfl) ?_
      refine lv_iload_n hx hb dX1_overlap_10 rfl (lv_at hl 2 rfl) ?_
      refine lv_icmp_ge (tgt := 51) hx hb dX1_overlap_11 (by decide) (fun q1 => ?_) (fun q1 => ?_)
      · replace hM := zx_t q1 hM
        refine lv_iload_n hx hb dX1_overlap_51 rfl (lv_at hl 1 rfl) ?_
        rw [hQ]
        exact W.iret hx hb hr (fun t ht hW => ⟨⟨v1, S_, rfl, (Option.some.inj hM).symm, by show va_P D vwCl _ t.heap; rw [ht]; exact hP⟩, hS.F ht⟩) hS.2.2 dX1_overlap_52
      · replace hM := zx_f q1 hM
        have j45 : ∀ (v1 : Int32) (v2 : Int32) (v3 : Int32) (S_ : zx_S) (H : Heap) (lc : List Loc) (ls : Array Slot), va_P D vwCl (xW1 cI h ad S_) H → va_D A (xW1 cI h ad S_) → va_S A s.heap H lc → lv_has ls 5 [(0, .ref h), (1, .int v1), (2, .int v2), (3, .int v3)] → f_X1_overlap_j45 N (f_X1_overlap_l9 N  n9) v1 v2 v3 S_ = some R → W p l e (headSpec zsX1_overlap rmX1_overlap).room s m ([.ref h] : List Value).toArray below meth c H lc 0 0 Q9 (F0 m 45 ls []) := by
          intro v1 v2 v3 S_ H lc ls hP hD hS hl hM
          unfold f_X1_overlap_j45 at hM
          obtain ⟨x2, ex2, hM⟩ := zx_nE hM
          refine lv_iinc (v := x2) (lv' := [(3, .int x2), (0, .ref h), (1, .int v1), (2, .int v2)]) hx hb dX1_overlap_45 hl (k := 3) rfl (by rw [ex2]; rfl) (by decide) rfl (fun ls hl => ?_)
          refine lv_goto (tgt := 9) hx hb dX1_overlap_48 (by decide) ?_
          exact ih9 v1 v2 x2 S_ _ _ _ hP hD hS (lv_sub hl [1, 2, 3, 0] rfl) hM
        refine lv_aload_n hx hb dX1_overlap_14 rfl (lv_at hl 0 rfl) ?_
        refine va_get (D := D) (ci := 1) (v := .ref (ad 8)) (C := RX1) (T := TX1) (N := 14) hx hb hts inlX1 hown hK hP 0 rfl rfl 12 (by decide) (hts _ zw_2_13) (fun _ h9 => h9) rfl dX1_overlap_15 ?_
        refine lv_iload_n hx hb dX1_overlap_18 rfl (lv_at hl 3 rfl) ?_
        obtain ⟨x3, hz4, hM⟩ := zx_b1E hM
        refine va_calli (va_runSN (As := [.ref (ad 8), .int v3]) (rest := []) ⟨hx, hb, hml, hown, hts⟩ (c_X2_get l D cI cZ cT (ad 8) 24 (S_ 8) _ N v3 hz4) ⟨va_cnB 2 hts (zg_c zw_3_6) rfl rfl rfl (hN _ (zx_nw_X1_70)) (hts _ zw_1_2) zyX2_get ⟨Nat.le_of_ble_eq_true rfl, Nat.le_of_ble_eq_true rfl⟩, (hts _ zw_3_5), trivial⟩ ⟨bS_blind, bS_pre (zx_P1 hP 9 (rfl)) hK (zx_D1 hD 9 (rfl)) hN⟩ rfl rfl hl.1 rfl (lv_room (Nat.le_of_ble_eq_true rfl)) dX1_overlap_19 ⟨Nat.zero_le _, Nat.zero_le _⟩) hS (fun q h1 h2 => absurd h1 (Nat.not_lt.mpr h2)) (fun q h => hA q (Nat.le_trans hS.1 h)) (fun r u t H1 lc ht hvm hw hB hz1 hk1 hS => ?_)
        replace hw : x3 = r := hw; subst hw
        replace hP := zx_keep hP hk1
        refine lv_istore (lv' := [(4, .int x3), (0, .ref h), (1, .int v1), (2, .int v2), (3, .int v3)]) hx hb dX1_overlap_22 hl (by decide) rfl (fun ls hl => ?_)
        refine lv_aload_n hx hb dX1_overlap_24 rfl (lv_at hl 1 rfl) ?_
        refine va_get (D := D) (ci := 1) (v := .ref (ad 1)) (C := RX1) (T := TX1) (N := 14) hx hb hts inlX1 hown hK hP 0 rfl rfl 1 (by decide) (hts _ zw_2_6) (fun _ h9 => h9) rfl dX1_overlap_25 ?_
        refine lv_iload hx hb dX1_overlap_28 (lv_at hl 0 rfl) ?_
        obtain ⟨x5, hz6, hM⟩ := zx_b1E hM
        refine va_calli (va_runSN (As := [.ref (ad 1), .int x3]) (rest := []) ⟨hx, hb, hml, hown, hts⟩ (c_X2_get l D cI cZ cT (ad 1) 49 (S_ 1) _ N x3 hz6) ⟨va_cnB 2 hts (zg_c zw_3_6) rfl rfl rfl (hN _ (zx_nw_X1_70)) (hts _ zw_1_2) zyX2_get ⟨Nat.le_of_ble_eq_true rfl, Nat.le_of_ble_eq_true rfl⟩, (hts _ zw_3_5), trivial⟩ ⟨bS_blind, bS_pre (zx_P1 hP 2 (rfl)) hK (zx_D1 hD 2 (rfl)) hN⟩ rfl rfl hl.1 rfl (lv_room (Nat.le_of_ble_eq_true rfl)) dX1_overlap_30 ⟨Nat.zero_le _, Nat.zero_le _⟩) hS (fun q h1 h2 => absurd h1 (Nat.not_lt.mpr h2)) (fun q h => hA q (Nat.le_trans hS.1 h)) (fun r u t H1 lc ht hvm hw hB hz1 hk1 hS => ?_)
        replace hw : x5 = r := hw; subst hw
        replace hP := zx_keep hP hk1
        refine lv_if_le (tgt := 45) hx hb dX1_overlap_33 (by decide) (fun q7 => ?_) (fun q7 => ?_)
        · replace hM := zx_t q7 hM
          exact j45 v1 v2 v3 S_ _ _ _ hP hD hS (lv_sub hl [1, 2, 3, 4] rfl) hM
        · replace hM := zx_f q7 hM
          refine lv_iload_n hx hb dX1_overlap_36 rfl (lv_at hl 2 rfl) ?_
          refine lv_aload_n hx hb dX1_overlap_37 rfl (lv_at hl 1 rfl) ?_
          refine lv_iload hx hb dX1_overlap_38 (lv_at hl 0 rfl) ?_
          obtain ⟨x8, hz9, hM⟩ := zx_b1E hM
          refine va_calli (va_runV (As := [.int x3]) (rest := [.int v1]) ⟨hx, hb, hml, hown, hts⟩ (c_X1_overlapIn l D cI cZ cT h ad S_ _ N x3  hz9) (cwV 1 hts (zg_V zw_5_23 zw_6_0 zw_6_1 zw_1_14 zw_6_2) rfl rfl rfl ⟨rfl, zyX1_overlapIn⟩ ⟨Nat.le_of_ble_eq_true rfl, Nat.le_of_ble_eq_true rfl⟩) ⟨bS_blind, va_recv hK hP (ci := 1) (q0 := 0) rfl rfl, bS_pre hP hK hD hN⟩ rfl rfl hl.1 rfl (lv_room (Nat.le_of_ble_eq_true rfl)) dX1_overlap_40 ⟨Nat.zero_le _, Nat.zero_le _⟩) hS (fun q h1 h2 => absurd h1 (Nat.not_lt.mpr h2)) (fun q h => hA q (Nat.le_trans hS.1 h)) (fun r u t H1 lc ht hvm hw hB hz1 hk1 hS => ?_)
          replace hw : x8 = r := hw; subst hw
          replace hP := zx_keep hP hk1
          refine lv_iadd hx hb dX1_overlap_43 ?_
          obtain ⟨x10, ex10, hM⟩ := zx_nE hM
          refine zx_top ex10 ?_
          refine lv_istore_n (lv' := [(1, .int x10), (4, .int x3), (0, .ref h), (2, .int v2), (3, .int v3)]) hx hb dX1_overlap_44 rfl hl (by decide) rfl (fun ls hl => ?_)
          exact j45 x10 v2 v3 S_ _ _ _ hP hD hS (lv_sub hl [2, 0, 3, 4] rfl) hM
  refine lv_iconst (v := 0) hx hb dX1_overlap_0 (by decide) ?_
  refine lv_istore_n (lv' := [(1, .int 0), (0, .ref h)]) hx hb dX1_overlap_1 rfl hl (by decide) rfl (fun ls hl => ?_)
  refine lv_aload_n hx hb dX1_overlap_2 rfl (lv_at hl 1 rfl) ?_
  obtain ⟨x11, T12, hz13, hM⟩ := zx_b2E hM
  refine va_calli (va_runV (As := []) (rest := []) ⟨hx, hb, hml, hown, hts⟩ (c_X1_countNodes l D cI cZ cT h ad S _ N  hz13) (cwV 0 hts (zg_V zw_5_22 zw_5_11 zw_5_12 zw_1_14 zw_5_13) rfl rfl rfl ⟨rfl, zyX1_countNodes⟩ ⟨Nat.le_of_ble_eq_true rfl, Nat.le_of_ble_eq_true rfl⟩) ⟨bS_blind, va_recv hK hP (ci := 1) (q0 := 0) rfl rfl, bS_pre hP hK hD hN⟩ rfl rfl hl.1 rfl (lv_room (Nat.le_of_ble_eq_true rfl)) dX1_overlap_3 ⟨Nat.zero_le _, Nat.zero_le _⟩) hS (fun q _ h => zx_fW hD hS hA q h) (fun q h => zx_fW hD hS hA q h) (fun r u t H1 lc ht hvm hw hB hz1 hk1 hS => ?_)
  obtain ⟨hw1, hw2⟩ := Prod.mk.inj hw; subst hw1; subst hw2
  rw [ht] at hB
  replace hP := hB
  replace hD := xW1_D T12 hD
  refine lv_istore_n (lv' := [(2, .int x11), (1, .int 0), (0, .ref h)]) hx hb dX1_overlap_6 rfl hl (by decide) rfl (fun ls hl => ?_)
  refine lv_iconst (v := 0) hx hb dX1_overlap_7 (by decide) ?_
  refine lv_istore_n (lv' := [(3, .int 0), (2, .int x11), (1, .int 0), (0, .ref h)]) hx hb dX1_overlap_8 rfl hl (by decide) rfl (fun ls hl => ?_)
  exact l9 N 0 x11 0 T12 _ _ _ hP hD hS (lv_sub hl [3, 2, 1, 0] rfl) hM

/-! ShallowBoxes$Tree.areaBelowRoot()I -/
def f_X1_areaBelowRoot_l9 (N : Nat) : Nat → Int32 → Int32 → Int32 → zx_S → Option (Int32 × zx_S)
  | 0, _, _, _, _ => none
  | n9 + 1, v1, v2, v3, S_ => (if v2 ≤ v3 then
  some (v1, S_) else
  (zx_b1 (f_X2_get N 24 v3 (S_ 8)) (fun x2 =>
(zx_b1 (f_X1_area N x2 S_) (fun x4 =>
(zx_n (v1 + x4) (fun x6 =>
(zx_n (v3 + 1) (fun x7 =>
f_X1_areaBelowRoot_l9 N  n9 x6 v2 x7 S_)))))))))
def f_X1_areaBelowRoot (N : Nat) (S : zx_S) : Option (Int32 × zx_S) :=
  (zx_b2 (f_X1_countNodes N S) (fun x8 T9 =>
f_X1_areaBelowRoot_l9 N  N 0 x8 1 T9))
abbrev rmX1_areaBelowRoot : Room := { frames := 2, cells := 0, slots := 0, locals := 47 }
abbrev zsX1_areaBelowRoot : List Cond := .code yX1_areaBelowRoot cX1_areaBelowRoot 4 (some .int) :: wsL_law
theorem zyX1_areaBelowRoot : yX1_areaBelowRoot.cls ≠ "java/lang/invoke/MethodHandle" ∧ yX1_areaBelowRoot.cls ≠ "java/lang/invoke/VarHandle" ∧ (parseMethodDescriptor yX1_areaBelowRoot.desc).map (fun d => d.parameters.length) = some 0 := by decide +kernel
set_option maxHeartbeats 4000000 in
set_option maxRecDepth 100000 in
theorem c_X1_areaBelowRoot (l : Launch) (D : va_G) (cI cZ cT : ClassId) (h : Nat) (ad : Nat → Nat) (S : zx_S) (sz : Nat) (N : Nat) {R : Int32 × zx_S} (hM : f_X1_areaBelowRoot N S = some R) : Met l yX1_areaBelowRoot zsX1_areaBelowRoot rmX1_areaBelowRoot (va_Pc [.ref h] (bS D (zx_ty cI cZ cT) (xW1 cI h ad S) sz)) (va_Qi (fun r u => R = (r, u)) (fun u t => va_P D vwCl (xW1 cI h ad u) t.heap) (va_A (xW1 cI h ad S) sz)) 0 0 (va_A (xW1 cI h ad S) sz) := by
  refine Met.ofW (cc := cX1_areaBelowRoot) (maxL := 4) (ret := (some .int)) (by decide) rfl ?_
  intro p e s m args below meth c s₁ B hml hv
  obtain ⟨rfl, hsz, hP, hK, hD0, hN⟩ := hv
  have hx := B.exec
  have hb := B.bytes
  have hr := B.returns
  have hts : ∀ w ∈ wsL_law, w.before _ s = true := fun w hw => atoms_spec (ws := zsX1_areaBelowRoot) B.pre w (List.mem_cons_of_mem _ hw)
  have hown : s.vm.findClass RX1 = some m.cls := findClass_of_methodNamed B.named
  have hlocks := B.notSynchronized
  subst hsz
  have hD := hD0.self (sz := s.heap.size)
  generalize hAe : va_A (xW1 cI h ad S) s.heap.size = A at hD ⊢
  have hA : ∀ q : Nat, s.heap.size ≤ q → A q := fun q h => by rw [← hAe]; exact Or.inr h
  have hS : va_S A s.heap s.heap [] := va_S.rf
  have hl := lv_entry ([.ref h]) (n := 4) (Nat.le_of_ble_eq_true rfl)
  rw [lg_entry_eq]
  generalize (lg_sl ([.ref h]) ++ List.replicate (4 - (lg_sl ([.ref h])).length) Slot.unset).toArray = ls at hl ⊢
  have hl : lv_has ls 4 [(0, .ref h)] := hl
  generalize hQ : MQ below (va_Qi (fun r u => R = (r, u)) (fun u t => va_P D vwCl (xW1 cI h ad u) t.heap) A) ([.ref h] : List Value).toArray s 0 0 A = Q9
  replace hQ := hQ.symm
  unfold f_X1_areaBelowRoot at hM
  have l9 : ∀ (n9 : Nat) (v1 : Int32) (v2 : Int32) (v3 : Int32) (S_ : zx_S) (H : Heap) (lc : List Loc) (ls : Array Slot), va_P D vwCl (xW1 cI h ad S_) H → va_D A (xW1 cI h ad S_) → va_S A s.heap H lc → lv_has ls 4 [(0, .ref h), (1, .int v1), (2, .int v2), (3, .int v3)] → f_X1_areaBelowRoot_l9 N n9 v1 v2 v3 S_ = some R → W p l e (headSpec zsX1_areaBelowRoot rmX1_areaBelowRoot).room s m ([.ref h] : List Value).toArray below meth c H lc 0 0 Q9 (F0 m 9 ls []) := by
    intro n9
    induction n9 with
    | zero =>
      intro v1 v2 v3 S_ H lc ls hP hD hS hl hM
      rw [f_X1_areaBelowRoot_l9] at hM; exact absurd hM (by intro h; cases h)
    | succ n9 ih9 =>
      intro v1 v2 v3 S_ H lc ls hP hD hS hl hM
      rw [f_X1_areaBelowRoot_l9] at hM
      refine lv_iload_n hx hb dX1_areaBelowRoot_9 rfl (lv_at hl 3 rfl) ?_
      refine lv_iload_n hx hb dX1_areaBelowRoot_10 rfl (lv_at hl 2 rfl) ?_
      refine lv_icmp_ge (tgt := 35) hx hb dX1_areaBelowRoot_11 (by decide) (fun q1 => ?_) (fun q1 => ?_)
      · replace hM := zx_t q1 hM
        refine lv_iload_n hx hb dX1_areaBelowRoot_35 rfl (lv_at hl 1 rfl) ?_
        rw [hQ]
        exact W.iret hx hb hr (fun t ht hW => ⟨⟨v1, S_, rfl, (Option.some.inj hM).symm, by show va_P D vwCl _ t.heap; rw [ht]; exact hP⟩, hS.F ht⟩) hS.2.2 dX1_areaBelowRoot_36
      · replace hM := zx_f q1 hM
        refine lv_iload_n hx hb dX1_areaBelowRoot_14 rfl (lv_at hl 1 rfl) ?_
        refine lv_aload_n hx hb dX1_areaBelowRoot_15 rfl (lv_at hl 0 rfl) ?_
        refine lv_aload_n hx hb dX1_areaBelowRoot_16 rfl (lv_at hl 0 rfl) ?_
        refine va_get (D := D) (ci := 1) (v := .ref (ad 8)) (C := RX1) (T := TX1) (N := 14) hx hb hts inlX1 hown hK hP 0 rfl rfl 12 (by decide) (hts _ zw_2_13) (fun _ h9 => h9) rfl dX1_areaBelowRoot_17 ?_
        refine lv_iload_n hx hb dX1_areaBelowRoot_20 rfl (lv_at hl 3 rfl) ?_
        obtain ⟨x2, hz3, hM⟩ := zx_b1E hM
        refine va_calli (va_runSN (As := [.ref (ad 8), .int v3]) (rest := [.ref h, .int v1]) ⟨hx, hb, hml, hown, hts⟩ (c_X2_get l D cI cZ cT (ad 8) 24 (S_ 8) _ N v3 hz3) ⟨va_cnB 2 hts (zg_c zw_3_6) rfl rfl rfl (hN _ (zx_nw_X1_70)) (hts _ zw_1_2) zyX2_get ⟨Nat.le_of_ble_eq_true rfl, Nat.le_of_ble_eq_true rfl⟩, (hts _ zw_3_5), trivial⟩ ⟨bS_blind, bS_pre (zx_P1 hP 9 (rfl)) hK (zx_D1 hD 9 (rfl)) hN⟩ rfl rfl hl.1 rfl (lv_room (Nat.le_of_ble_eq_true rfl)) dX1_areaBelowRoot_21 ⟨Nat.zero_le _, Nat.zero_le _⟩) hS (fun q h1 h2 => absurd h1 (Nat.not_lt.mpr h2)) (fun q h => hA q (Nat.le_trans hS.1 h)) (fun r u t H1 lc ht hvm hw hB hz1 hk1 hS => ?_)
        replace hw : x2 = r := hw; subst hw
        replace hP := zx_keep hP hk1
        obtain ⟨x4, hz5, hM⟩ := zx_b1E hM
        refine va_calli (va_runV (As := [.int x2]) (rest := [.int v1]) ⟨hx, hb, hml, hown, hts⟩ (c_X1_area l D cI cZ cT h ad S_ _ N x2  hz5) (cwV 1 hts (zg_V zw_6_18 zw_6_19 zw_6_20 zw_1_14 zw_6_21) rfl rfl rfl ⟨rfl, zyX1_area⟩ ⟨Nat.le_of_ble_eq_true rfl, Nat.le_of_ble_eq_true rfl⟩) ⟨bS_blind, va_recv hK hP (ci := 1) (q0 := 0) rfl rfl, bS_pre hP hK hD hN⟩ rfl rfl hl.1 rfl (lv_room (Nat.le_of_ble_eq_true rfl)) dX1_areaBelowRoot_24 ⟨Nat.zero_le _, Nat.zero_le _⟩) hS (fun q h1 h2 => absurd h1 (Nat.not_lt.mpr h2)) (fun q h => hA q (Nat.le_trans hS.1 h)) (fun r u t H1 lc ht hvm hw hB hz1 hk1 hS => ?_)
        replace hw : x4 = r := hw; subst hw
        replace hP := zx_keep hP hk1
        refine lv_iadd hx hb dX1_areaBelowRoot_27 ?_
        obtain ⟨x6, ex6, hM⟩ := zx_nE hM
        refine zx_top ex6 ?_
        refine lv_istore_n (lv' := [(1, .int x6), (0, .ref h), (2, .int v2), (3, .int v3)]) hx hb dX1_areaBelowRoot_28 rfl hl (by decide) rfl (fun ls hl => ?_)
        obtain ⟨x7, ex7, hM⟩ := zx_nE hM
        refine lv_iinc (v := x7) (lv' := [(3, .int x7), (1, .int x6), (0, .ref h), (2, .int v2)]) hx hb dX1_areaBelowRoot_29 hl (k := 3) rfl (by rw [ex7]; rfl) (by decide) rfl (fun ls hl => ?_)
        refine lv_goto (tgt := 9) hx hb dX1_areaBelowRoot_32 (by decide) ?_
        exact ih9 x6 v2 x7 S_ _ _ _ hP hD hS (lv_sub hl [2, 1, 3, 0] rfl) hM
  refine lv_iconst (v := 0) hx hb dX1_areaBelowRoot_0 (by decide) ?_
  refine lv_istore_n (lv' := [(1, .int 0), (0, .ref h)]) hx hb dX1_areaBelowRoot_1 rfl hl (by decide) rfl (fun ls hl => ?_)
  refine lv_aload_n hx hb dX1_areaBelowRoot_2 rfl (lv_at hl 1 rfl) ?_
  obtain ⟨x8, T9, hz10, hM⟩ := zx_b2E hM
  refine va_calli (va_runV (As := []) (rest := []) ⟨hx, hb, hml, hown, hts⟩ (c_X1_countNodes l D cI cZ cT h ad S _ N  hz10) (cwV 0 hts (zg_V zw_5_22 zw_5_11 zw_5_12 zw_1_14 zw_5_13) rfl rfl rfl ⟨rfl, zyX1_countNodes⟩ ⟨Nat.le_of_ble_eq_true rfl, Nat.le_of_ble_eq_true rfl⟩) ⟨bS_blind, va_recv hK hP (ci := 1) (q0 := 0) rfl rfl, bS_pre hP hK hD hN⟩ rfl rfl hl.1 rfl (lv_room (Nat.le_of_ble_eq_true rfl)) dX1_areaBelowRoot_3 ⟨Nat.zero_le _, Nat.zero_le _⟩) hS (fun q _ h => zx_fW hD hS hA q h) (fun q h => zx_fW hD hS hA q h) (fun r u t H1 lc ht hvm hw hB hz1 hk1 hS => ?_)
  obtain ⟨hw1, hw2⟩ := Prod.mk.inj hw; subst hw1; subst hw2
  rw [ht] at hB
  replace hP := hB
  replace hD := xW1_D T9 hD
  refine lv_istore_n (lv' := [(2, .int x8), (1, .int 0), (0, .ref h)]) hx hb dX1_areaBelowRoot_6 rfl hl (by decide) rfl (fun ls hl => ?_)
  refine lv_iconst (v := 1) hx hb dX1_areaBelowRoot_7 (by decide) ?_
  refine lv_istore_n (lv' := [(3, .int 1), (2, .int x8), (1, .int 0), (0, .ref h)]) hx hb dX1_areaBelowRoot_8 rfl hl (by decide) rfl (fun ls hl => ?_)
  exact l9 N 0 x8 1 T9 _ _ _ hP hD hS (lv_sub hl [3, 2, 1, 0] rfl) hM

/-! ShallowBoxes$Tree.lookedAt(I)I -/
def f_X1_lookedAt_j122 (N : Nat) (k19 : Int32 → Int32 → Int32 → Int32 → zx_S → Option (Int32 × zx_S)) (k76 : Int32 → Int32 → Int32 → Int32 → Int32 → Int32 → Int32 → zx_S → Option (Int32 × zx_S)) (v1 : Int32) (v2 : Int32) (v3 : Int32) (v4 : Int32) (v5 : Int32) (v6 : Int32) (v7 : Int32) (S_ : zx_S) : Option (Int32 × zx_S) :=
  (zx_n (v7 + 1) (fun x5 =>
k76 v1 v2 v3 v4 v5 v6 x5 S_))
def f_X1_lookedAt_l76 (N : Nat) (k19 : Int32 → Int32 → Int32 → Int32 → zx_S → Option (Int32 × zx_S)) : Nat → Int32 → Int32 → Int32 → Int32 → Int32 → Int32 → Int32 → zx_S → Option (Int32 × zx_S)
  | 0, _, _, _, _, _, _, _, _ => none
  | n76 + 1, v1, v2, v3, v4, v5, v6, v7, S_ => (if v6 ≤ v7 then
  (zx_n (v4 + 1) (fun x4 =>
k19 v1 v2 v3 x4 S_)) else
  (zx_b1 (f_X2_get N 245 ((v5 * 5) + v7) (S_ 4)) (fun x6 =>
(zx_b1 (f_X1_commonCells N x6 v1 S_) (fun x8 =>
(if x8 ≤ 0 then
  f_X1_lookedAt_j122 N k19 (f_X1_lookedAt_l76 N k19  n76) v1 v2 v3 v4 v5 v6 v7 S_ else
  (zx_b1 (f_X2_put N 24 v3 x6 (S_ 9)) (fun g11 =>
(zx_n (zx_st S_ 9 g11) (fun T13 =>
(zx_n (v3 + 1) (fun x14 =>
f_X1_lookedAt_j122 N k19 (f_X1_lookedAt_l76 N k19  n76) v1 v2 x14 v4 v5 v6 v7 T13))))))))))))
def f_X1_lookedAt_j71 (N : Nat) (k19 : Int32 → Int32 → Int32 → Int32 → zx_S → Option (Int32 × zx_S)) (v1 : Int32) (v2 : Int32) (v3 : Int32) (v4 : Int32) (v5 : Int32) (t0 : Int32) (S_ : zx_S) : Option (Int32 × zx_S) :=
  f_X1_lookedAt_l76 N k19 N v1 v2 v3 v4 v5 t0 0 S_
def f_X1_lookedAt_l19 (N : Nat) : Nat → Int32 → Int32 → Int32 → Int32 → zx_S → Option (Int32 × zx_S)
  | 0, _, _, _, _, _ => none
  | n19 + 1, v1, v2, v3, v4, S_ => (if 24 ≤ v4 then
  some (v2, S_) else
  (if v3 ≤ 0 then
  some (v2, S_) else
  (zx_n (v3 + (-1)) (fun x15 =>
(zx_b1 (f_X2_get N 24 x15 (S_ 9)) (fun x16 =>
(zx_n (v2 + 1) (fun x18 =>
(zx_b1 (f_X2_get N 49 x16 (S_ 1)) (fun x19 =>
(if x19 ≤ 0 then
  f_X1_lookedAt_j71 N (f_X1_lookedAt_l19 N  n19) v1 x18 x15 v4 x16 0 S_ else
  (zx_b1 (f_X2_get N 49 x16 (S_ 3)) (fun x22 =>
f_X1_lookedAt_j71 N (f_X1_lookedAt_l19 N  n19) v1 x18 x15 v4 x16 x22 S_)))))))))))))
def f_X1_lookedAt (N : Nat) (p1 : Int32) (S : zx_S) : Option (Int32 × zx_S) :=
  (zx_b1 (f_X2_put N 24 0 (S 10 0) (S 9)) (fun g24 =>
(zx_n (zx_st S 9 g24) (fun T26 =>
f_X1_lookedAt_l19 N  N p1 0 1 0 T26))))
abbrev rmX1_lookedAt : Room := { frames := 2, cells := 0, slots := 0, locals := 47 }
abbrev zsX1_lookedAt : List Cond := .code yX1_lookedAt cX1_lookedAt 9 (some .int) :: wsL_law
theorem zyX1_lookedAt : yX1_lookedAt.cls ≠ "java/lang/invoke/MethodHandle" ∧ yX1_lookedAt.cls ≠ "java/lang/invoke/VarHandle" ∧ (parseMethodDescriptor yX1_lookedAt.desc).map (fun d => d.parameters.length) = some 1 := by decide +kernel
set_option maxHeartbeats 4000000 in
set_option maxRecDepth 100000 in
theorem c_X1_lookedAt (l : Launch) (D : va_G) (cI cZ cT : ClassId) (h : Nat) (ad : Nat → Nat) (S : zx_S) (sz : Nat) (N : Nat) (p1 : Int32) {R : Int32 × zx_S} (hM : f_X1_lookedAt N p1 S = some R) : Met l yX1_lookedAt zsX1_lookedAt rmX1_lookedAt (va_Pc [.ref h, .int p1] (bS D (zx_ty cI cZ cT) (xW1 cI h ad S) sz)) (va_Qi (fun r u => R = (r, u)) (fun u t => va_P D vwCl (xW1 cI h ad u) t.heap) (va_A (xW1 cI h ad S) sz)) 0 0 (va_A (xW1 cI h ad S) sz) := by
  refine Met.ofW (cc := cX1_lookedAt) (maxL := 9) (ret := (some .int)) (by decide) rfl ?_
  intro p e s m args below meth c s₁ B hml hv
  obtain ⟨rfl, hsz, hP, hK, hD0, hN⟩ := hv
  have hx := B.exec
  have hb := B.bytes
  have hr := B.returns
  have hts : ∀ w ∈ wsL_law, w.before _ s = true := fun w hw => atoms_spec (ws := zsX1_lookedAt) B.pre w (List.mem_cons_of_mem _ hw)
  have hown : s.vm.findClass RX1 = some m.cls := findClass_of_methodNamed B.named
  have hlocks := B.notSynchronized
  subst hsz
  have hD := hD0.self (sz := s.heap.size)
  generalize hAe : va_A (xW1 cI h ad S) s.heap.size = A at hD ⊢
  have hA : ∀ q : Nat, s.heap.size ≤ q → A q := fun q h => by rw [← hAe]; exact Or.inr h
  have hS : va_S A s.heap s.heap [] := va_S.rf
  have hl := lv_entry ([.ref h, .int p1]) (n := 9) (Nat.le_of_ble_eq_true rfl)
  rw [lg_entry_eq]
  generalize (lg_sl ([.ref h, .int p1]) ++ List.replicate (9 - (lg_sl ([.ref h, .int p1])).length) Slot.unset).toArray = ls at hl ⊢
  have hl : lv_has ls 9 [(0, .ref h), (1, .int p1)] := hl
  generalize hQ : MQ below (va_Qi (fun r u => R = (r, u)) (fun u t => va_P D vwCl (xW1 cI h ad u) t.heap) A) ([.ref h, .int p1] : List Value).toArray s 0 0 A = Q9
  replace hQ := hQ.symm
  unfold f_X1_lookedAt at hM
  have l19 : ∀ (n19 : Nat) (v1 : Int32) (v2 : Int32) (v3 : Int32) (v4 : Int32) (S_ : zx_S) (H : Heap) (lc : List Loc) (ls : Array Slot), va_P D vwCl (xW1 cI h ad S_) H → va_D A (xW1 cI h ad S_) → va_S A s.heap H lc → lv_has ls 9 [(0, .ref h), (1, .int v1), (2, .int v2), (3, .int v3), (4, .int v4)] → f_X1_lookedAt_l19 N n19 v1 v2 v3 v4 S_ = some R → W p l e (headSpec zsX1_lookedAt rmX1_lookedAt).room s m ([.ref h, .int p1] : List Value).toArray below meth c H lc 0 0 Q9 (F0 m 19 ls []) := by
    intro n19
    induction n19 with
    | zero =>
      intro v1 v2 v3 v4 S_ H lc ls hP hD hS hl hM
      rw [f_X1_lookedAt_l19] at hM; exact absurd hM (by intro h; cases h)
    | succ n19 ih19 =>
      intro v1 v2 v3 v4 S_ H lc ls hP hD hS hl hM
      rw [f_X1_lookedAt_l19] at hM
      refine lv_iload hx hb dX1_lookedAt_19 (lv_at hl 4 rfl) ?_
      refine lv_bipush (v := 24) hx hb dX1_lookedAt_21 (by decide) ?_
      refine lv_icmp_ge (tgt := 134) hx hb dX1_lookedAt_23 (by decide) (fun q1 => ?_) (fun q1 => ?_)
      · replace hM := zx_t q1 hM
        refine lv_iload_n hx hb dX1_lookedAt_134 rfl (lv_at hl 2 rfl) ?_
        rw [hQ]
        exact W.iret hx hb hr (fun t ht hW => ⟨⟨v2, S_, rfl, (Option.some.inj hM).symm, by show va_P D vwCl _ t.heap; rw [ht]; exact hP⟩, hS.F ht⟩) hS.2.2 dX1_lookedAt_135
      · replace hM := zx_f q1 hM
        refine lv_iload_n hx hb dX1_lookedAt_26 rfl (lv_at hl 3 rfl) ?_
        refine lv_if_le (tgt := 134) hx hb dX1_lookedAt_27 (by decide) (fun q2 => ?_) (fun q2 => ?_)
        · replace hM := zx_t q2 hM
          refine lv_iload_n hx hb dX1_lookedAt_134 rfl (lv_at hl 2 rfl) ?_
          rw [hQ]
          exact W.iret hx hb hr (fun t ht hW => ⟨⟨v2, S_, rfl, (Option.some.inj hM).symm, by show va_P D vwCl _ t.heap; rw [ht]; exact hP⟩, hS.F ht⟩) hS.2.2 dX1_lookedAt_135
        · replace hM := zx_f q2 hM
          have j71 : ∀ (v1 : Int32) (v2 : Int32) (v3 : Int32) (v4 : Int32) (v5 : Int32) (t0 : Int32) (S_ : zx_S) (H : Heap) (lc : List Loc) (ls : Array Slot), va_P D vwCl (xW1 cI h ad S_) H → va_D A (xW1 cI h ad S_) → va_S A s.heap H lc → lv_has ls 9 [(0, .ref h), (1, .int v1), (2, .int v2), (3, .int v3), (4, .int v4), (5, .int v5)] → f_X1_lookedAt_j71 N (f_X1_lookedAt_l19 N  n19) v1 v2 v3 v4 v5 t0 S_ = some R → W p l e (headSpec zsX1_lookedAt rmX1_lookedAt).room s m ([.ref h, .int p1] : List Value).toArray below meth c H lc 0 0 Q9 (F0 m 71 ls [.int t0]) := by
            intro v1 v2 v3 v4 v5 t0 S_ H lc ls hP hD hS hl hM
            unfold f_X1_lookedAt_j71 at hM
            have l76 : ∀ (n76 : Nat) (v1 : Int32) (v2 : Int32) (v3 : Int32) (v4 : Int32) (v5 : Int32) (v6 : Int32) (v7 : Int32) (S_ : zx_S) (H : Heap) (lc : List Loc) (ls : Array Slot), va_P D vwCl (xW1 cI h ad S_) H → va_D A (xW1 cI h ad S_) → va_S A s.heap H lc → lv_has ls 9 [(0, .ref h), (1, .int v1), (2, .int v2), (3, .int v3), (4, .int v4), (5, .int v5), (6, .int v6), (7, .int v7)] → f_X1_lookedAt_l76 N (f_X1_lookedAt_l19 N  n19) n76 v1 v2 v3 v4 v5 v6 v7 S_ = some R → W p l e (headSpec zsX1_lookedAt rmX1_lookedAt).room s m ([.ref h, .int p1] : List Value).toArray below meth c H lc 0 0 Q9 (F0 m 76 ls []) := by
              intro n76
              induction n76 with
              | zero =>
                intro v1 v2 v3 v4 v5 v6 v7 S_ H lc ls hP hD hS hl hM
                rw [f_X1_lookedAt_l76] at hM; exact absurd hM (by intro h; cases h)
              | succ n76 ih76 =>
                intro v1 v2 v3 v4 v5 v6 v7 S_ H lc ls hP hD hS hl hM
                rw [f_X1_lookedAt_l76] at hM
                refine lv_iload hx hb dX1_lookedAt_76 (lv_at hl 7 rfl) ?_
                refine lv_iload hx hb dX1_lookedAt_78 (lv_at hl 6 rfl) ?_
                refine lv_icmp_ge (tgt := 128) hx hb dX1_lookedAt_80 (by decide) (fun q3 => ?_) (fun q3 => ?_)
                · replace hM := zx_t q3 hM
                  obtain ⟨x4, ex4, hM⟩ := zx_nE hM
                  refine lv_iinc (v := x4) (lv' := [(4, .int x4), (0, .ref h), (1, .int v1), (2, .int v2), (3, .int v3), (5, .int v5), (6, .int v6), (7, .int v7)]) hx hb dX1_lookedAt_128 hl (k := 4) rfl (by rw [ex4]; rfl) (by decide) rfl (fun ls hl => ?_)
                  refine lv_goto (tgt := 19) hx hb dX1_lookedAt_131 (by decide) ?_
                  exact ih19 v1 v2 v3 x4 S_ _ _ _ hP hD hS (lv_sub hl [1, 2, 3, 4, 0] rfl) hM
                · replace hM := zx_f q3 hM
                  have j122 : ∀ (v1 : Int32) (v2 : Int32) (v3 : Int32) (v4 : Int32) (v5 : Int32) (v6 : Int32) (v7 : Int32) (S_ : zx_S) (H : Heap) (lc : List Loc) (ls : Array Slot), va_P D vwCl (xW1 cI h ad S_) H → va_D A (xW1 cI h ad S_) → va_S A s.heap H lc → lv_has ls 9 [(0, .ref h), (1, .int v1), (2, .int v2), (3, .int v3), (4, .int v4), (5, .int v5), (6, .int v6), (7, .int v7)] → f_X1_lookedAt_j122 N (f_X1_lookedAt_l19 N  n19) (f_X1_lookedAt_l76 N (f_X1_lookedAt_l19 N  n19)  n76) v1 v2 v3 v4 v5 v6 v7 S_ = some R → W p l e (headSpec zsX1_lookedAt rmX1_lookedAt).room s m ([.ref h, .int p1] : List Value).toArray below meth c H lc 0 0 Q9 (F0 m 122 ls []) := by
                    intro v1 v2 v3 v4 v5 v6 v7 S_ H lc ls hP hD hS hl hM
                    unfold f_X1_lookedAt_j122 at hM
                    obtain ⟨x5, ex5, hM⟩ := zx_nE hM
                    refine lv_iinc (v := x5) (lv' := [(7, .int x5), (0, .ref h), (1, .int v1), (2, .int v2), (3, .int v3), (4, .int v4), (5, .int v5), (6, .int v6)]) hx hb dX1_lookedAt_122 hl (k := 7) rfl (by rw [ex5]; rfl) (by decide) rfl (fun ls hl => ?_)
                    refine lv_goto (tgt := 76) hx hb dX1_lookedAt_125 (by decide) ?_
                    exact ih76 v1 v2 v3 v4 v5 v6 x5 S_ _ _ _ hP hD hS (lv_sub hl [1, 2, 3, 4, 5, 6, 7, 0] rfl) hM
                  refine lv_aload_n hx hb dX1_lookedAt_83 rfl (lv_at hl 0 rfl) ?_
                  refine va_get (D := D) (ci := 1) (v := .ref (ad 4)) (C := RX1) (T := TX1) (N := 14) hx hb hts inlX1 hown hK hP 0 rfl rfl 4 (by decide) (hts _ zw_2_9) (fun _ h9 => h9) rfl dX1_lookedAt_84 ?_
                  refine lv_iload hx hb dX1_lookedAt_87 (lv_at hl 5 rfl) ?_
                  refine lv_iconst (v := 5) hx hb dX1_lookedAt_89 (by decide) ?_
                  refine lv_imul hx hb dX1_lookedAt_90 ?_
                  refine lv_iload hx hb dX1_lookedAt_91 (lv_at hl 7 rfl) ?_
                  refine lv_iadd hx hb dX1_lookedAt_93 ?_
                  obtain ⟨x6, hz7, hM⟩ := zx_b1E hM
                  refine va_calli (va_runSN (As := [.ref (ad 4), .int ((v5 * 5) + v7)]) (rest := []) ⟨hx, hb, hml, hown, hts⟩ (c_X2_get l D cI cZ cT (ad 4) 245 (S_ 4) _ N ((v5 * 5) + v7) hz7) ⟨va_cnB 2 hts (zg_c zw_3_6) rfl rfl rfl (hN _ (zx_nw_X1_70)) (hts _ zw_1_2) zyX2_get ⟨Nat.le_of_ble_eq_true rfl, Nat.le_of_ble_eq_true rfl⟩, (hts _ zw_3_5), trivial⟩ ⟨bS_blind, bS_pre (zx_P1 hP 5 (rfl)) hK (zx_D1 hD 5 (rfl)) hN⟩ rfl rfl hl.1 rfl (lv_room (Nat.le_of_ble_eq_true rfl)) dX1_lookedAt_94 ⟨Nat.zero_le _, Nat.zero_le _⟩) hS (fun q h1 h2 => absurd h1 (Nat.not_lt.mpr h2)) (fun q h => hA q (Nat.le_trans hS.1 h)) (fun r u t H1 lc ht hvm hw hB hz1 hk1 hS => ?_)
                  replace hw : x6 = r := hw; subst hw
                  replace hP := zx_keep hP hk1
                  refine lv_istore (lv' := [(8, .int x6), (0, .ref h), (1, .int v1), (2, .int v2), (3, .int v3), (4, .int v4), (5, .int v5), (6, .int v6), (7, .int v7)]) hx hb dX1_lookedAt_97 hl (by decide) rfl (fun ls hl => ?_)
                  refine lv_aload_n hx hb dX1_lookedAt_99 rfl (lv_at hl 1 rfl) ?_
                  refine lv_iload hx hb dX1_lookedAt_100 (lv_at hl 0 rfl) ?_
                  refine lv_iload_n hx hb dX1_lookedAt_102 rfl (lv_at hl 2 rfl) ?_
                  obtain ⟨x8, hz9, hM⟩ := zx_b1E hM
                  refine va_calli (va_runV (As := [.int x6, .int v1]) (rest := []) ⟨hx, hb, hml, hown, hts⟩ (c_X1_commonCells l D cI cZ cT h ad S_ _ N x6 v1  hz9) (cwV 2 hts (zg_V zw_6_3 zw_6_4 zw_6_5 zw_1_14 zw_6_6) rfl rfl rfl ⟨rfl, zyX1_commonCells⟩ ⟨Nat.le_of_ble_eq_true rfl, Nat.le_of_ble_eq_true rfl⟩) ⟨bS_blind, va_recv hK hP (ci := 1) (q0 := 0) rfl rfl, bS_pre hP hK hD hN⟩ rfl rfl hl.1 rfl (lv_room (Nat.le_of_ble_eq_true rfl)) dX1_lookedAt_103 ⟨Nat.zero_le _, Nat.zero_le _⟩) hS (fun q h1 h2 => absurd h1 (Nat.not_lt.mpr h2)) (fun q h => hA q (Nat.le_trans hS.1 h)) (fun r u t H1 lc ht hvm hw hB hz1 hk1 hS => ?_)
                  replace hw : x8 = r := hw; subst hw
                  replace hP := zx_keep hP hk1
                  refine lv_if_le (tgt := 122) hx hb dX1_lookedAt_106 (by decide) (fun q10 => ?_) (fun q10 => ?_)
                  · replace hM := zx_t q10 hM
                    exact j122 v1 v2 v3 v4 v5 v6 v7 S_ _ _ _ hP hD hS (lv_sub hl [1, 2, 3, 4, 5, 6, 7, 8] rfl) hM
                  · replace hM := zx_f q10 hM
                    refine lv_aload_n hx hb dX1_lookedAt_109 rfl (lv_at hl 1 rfl) ?_
                    refine va_get (D := D) (ci := 1) (v := .ref (ad 9)) (C := RX1) (T := TX1) (N := 14) hx hb hts inlX1 hown hK hP 0 rfl rfl 13 (by decide) (hts _ zw_2_14) (fun _ h9 => h9) rfl dX1_lookedAt_110 ?_
                    refine lv_iload_n hx hb dX1_lookedAt_113 rfl (lv_at hl 4 rfl) ?_
                    refine lv_iload hx hb dX1_lookedAt_114 (lv_at hl 0 rfl) ?_
                    obtain ⟨g11, hz12, hM⟩ := zx_b1E hM
                    refine va_callv (va_runSN (As := [.ref (ad 9), .int v3, .int x6]) (rest := []) ⟨hx, hb, hml, hown, hts⟩ (c_X2_put l D cI cZ cT (ad 9) 24 (S_ 9) _ N v3 x6 hz12) ⟨va_cnB 3 hts (zg_c zw_3_0) rfl rfl rfl (hN _ (zx_nw_X1_45)) (hts _ zw_1_2) zyX2_put ⟨Nat.le_of_ble_eq_true rfl, Nat.le_of_ble_eq_true rfl⟩, (hts _ zw_2_23), trivial⟩ ⟨bS_blind, bS_pre (zx_P1 hP 10 (rfl)) hK (zx_D1 hD 10 (rfl)) hN⟩ rfl rfl hl.1 rfl (lv_room (Nat.le_of_ble_eq_true rfl)) dX1_lookedAt_116 ⟨Nat.zero_le _, Nat.zero_le _⟩) hS (fun q _ h => zx_f1 hD hS hA (k := 10) rfl q h) (fun q h => zx_f1 hD hS hA (k := 10) rfl q h) (fun u t H1 lc ht hvm hw hB hz1 hk1 hS => ?_)
                    replace hw : g11 = u := hw; subst hw
                    rw [ht] at hB
                    replace hP := zx_set1 (k := 10) hP hD rfl hk1 hB
                    replace hD := va_D.set (p := 10) (e := .inl (cI, 24, .inl g11)) hD rfl
                    rw [xW1_pa9] at hP hD
                    obtain ⟨T13, eT13, hM⟩ := zx_nE hM
                    rw [← eT13] at hP hD
                    obtain ⟨x14, ex14, hM⟩ := zx_nE hM
                    refine lv_iinc (v := x14) (lv' := [(3, .int x14), (8, .int x6), (0, .ref h), (1, .int v1), (2, .int v2), (4, .int v4), (5, .int v5), (6, .int v6), (7, .int v7)]) hx hb dX1_lookedAt_119 hl (k := 4) rfl (by rw [ex14]; rfl) (by decide) rfl (fun ls hl => ?_)
                    exact j122 v1 v2 x14 v4 v5 v6 v7 T13 _ _ _ hP hD hS (lv_sub hl [2, 3, 4, 0, 5, 6, 7, 8] rfl) hM
            refine lv_istore (lv' := [(6, .int t0), (0, .ref h), (1, .int v1), (2, .int v2), (3, .int v3), (4, .int v4), (5, .int v5)]) hx hb dX1_lookedAt_71 hl (by decide) rfl (fun ls hl => ?_)
            refine lv_iconst (v := 0) hx hb dX1_lookedAt_73 (by decide) ?_
            refine lv_istore (lv' := [(7, .int 0), (6, .int t0), (0, .ref h), (1, .int v1), (2, .int v2), (3, .int v3), (4, .int v4), (5, .int v5)]) hx hb dX1_lookedAt_74 hl (by decide) rfl (fun ls hl => ?_)
            exact l76 N v1 v2 v3 v4 v5 t0 0 S_ _ _ _ hP hD hS (lv_sub hl [2, 3, 4, 5, 6, 7, 1, 0] rfl) hM
          obtain ⟨x15, ex15, hM⟩ := zx_nE hM
          refine lv_iinc (v := x15) (lv' := [(3, .int x15), (0, .ref h), (1, .int v1), (2, .int v2), (4, .int v4)]) hx hb dX1_lookedAt_30 hl (k := 3) rfl (by rw [ex15]; rfl) (by decide) rfl (fun ls hl => ?_)
          refine lv_aload_n hx hb dX1_lookedAt_33 rfl (lv_at hl 1 rfl) ?_
          refine va_get (D := D) (ci := 1) (v := .ref (ad 9)) (C := RX1) (T := TX1) (N := 14) hx hb hts inlX1 hown hK hP 0 rfl rfl 13 (by decide) (hts _ zw_2_14) (fun _ h9 => h9) rfl dX1_lookedAt_34 ?_
          refine lv_iload_n hx hb dX1_lookedAt_37 rfl (lv_at hl 0 rfl) ?_
          obtain ⟨x16, hz17, hM⟩ := zx_b1E hM
          refine va_calli (va_runSN (As := [.ref (ad 9), .int x15]) (rest := []) ⟨hx, hb, hml, hown, hts⟩ (c_X2_get l D cI cZ cT (ad 9) 24 (S_ 9) _ N x15 hz17) ⟨va_cnB 2 hts (zg_c zw_3_6) rfl rfl rfl (hN _ (zx_nw_X1_70)) (hts _ zw_1_2) zyX2_get ⟨Nat.le_of_ble_eq_true rfl, Nat.le_of_ble_eq_true rfl⟩, (hts _ zw_3_5), trivial⟩ ⟨bS_blind, bS_pre (zx_P1 hP 10 (rfl)) hK (zx_D1 hD 10 (rfl)) hN⟩ rfl rfl hl.1 rfl (lv_room (Nat.le_of_ble_eq_true rfl)) dX1_lookedAt_38 ⟨Nat.zero_le _, Nat.zero_le _⟩) hS (fun q h1 h2 => absurd h1 (Nat.not_lt.mpr h2)) (fun q h => hA q (Nat.le_trans hS.1 h)) (fun r u t H1 lc ht hvm hw hB hz1 hk1 hS => ?_)
          replace hw : x16 = r := hw; subst hw
          replace hP := zx_keep hP hk1
          refine lv_istore (lv' := [(5, .int x16), (3, .int x15), (0, .ref h), (1, .int v1), (2, .int v2), (4, .int v4)]) hx hb dX1_lookedAt_41 hl (by decide) rfl (fun ls hl => ?_)
          obtain ⟨x18, ex18, hM⟩ := zx_nE hM
          refine lv_iinc (v := x18) (lv' := [(2, .int x18), (5, .int x16), (3, .int x15), (0, .ref h), (1, .int v1), (4, .int v4)]) hx hb dX1_lookedAt_43 hl (k := 4) rfl (by rw [ex18]; rfl) (by decide) rfl (fun ls hl => ?_)
          refine lv_aload_n hx hb dX1_lookedAt_46 rfl (lv_at hl 3 rfl) ?_
          refine va_get (D := D) (ci := 1) (v := .ref (ad 1)) (C := RX1) (T := TX1) (N := 14) hx hb hts inlX1 hown hK hP 0 rfl rfl 1 (by decide) (hts _ zw_2_6) (fun _ h9 => h9) rfl dX1_lookedAt_47 ?_
          refine lv_iload hx hb dX1_lookedAt_50 (lv_at hl 1 rfl) ?_
          obtain ⟨x19, hz20, hM⟩ := zx_b1E hM
          refine va_calli (va_runSN (As := [.ref (ad 1), .int x16]) (rest := []) ⟨hx, hb, hml, hown, hts⟩ (c_X2_get l D cI cZ cT (ad 1) 49 (S_ 1) _ N x16 hz20) ⟨va_cnB 2 hts (zg_c zw_3_6) rfl rfl rfl (hN _ (zx_nw_X1_70)) (hts _ zw_1_2) zyX2_get ⟨Nat.le_of_ble_eq_true rfl, Nat.le_of_ble_eq_true rfl⟩, (hts _ zw_3_5), trivial⟩ ⟨bS_blind, bS_pre (zx_P1 hP 2 (rfl)) hK (zx_D1 hD 2 (rfl)) hN⟩ rfl rfl hl.1 rfl (lv_room (Nat.le_of_ble_eq_true rfl)) dX1_lookedAt_52 ⟨Nat.zero_le _, Nat.zero_le _⟩) hS (fun q h1 h2 => absurd h1 (Nat.not_lt.mpr h2)) (fun q h => hA q (Nat.le_trans hS.1 h)) (fun r u t H1 lc ht hvm hw hB hz1 hk1 hS => ?_)
          replace hw : x19 = r := hw; subst hw
          replace hP := zx_keep hP hk1
          refine lv_if_le (tgt := 70) hx hb dX1_lookedAt_55 (by decide) (fun q21 => ?_) (fun q21 => ?_)
          · replace hM := zx_t q21 hM
            refine lv_iconst (v := 0) hx hb dX1_lookedAt_70 (by decide) ?_
            exact j71 v1 x18 x15 v4 x16 0 S_ _ _ _ hP hD hS (lv_sub hl [3, 4, 0, 2, 5, 1] rfl) hM
          · replace hM := zx_f q21 hM
            refine lv_aload_n hx hb dX1_lookedAt_58 rfl (lv_at hl 3 rfl) ?_
            refine va_get (D := D) (ci := 1) (v := .ref (ad 3)) (C := RX1) (T := TX1) (N := 14) hx hb hts inlX1 hown hK hP 0 rfl rfl 3 (by decide) (hts _ zw_2_8) (fun _ h9 => h9) rfl dX1_lookedAt_59 ?_
            refine lv_iload hx hb dX1_lookedAt_62 (lv_at hl 1 rfl) ?_
            obtain ⟨x22, hz23, hM⟩ := zx_b1E hM
            refine va_calli (va_runSN (As := [.ref (ad 3), .int x16]) (rest := []) ⟨hx, hb, hml, hown, hts⟩ (c_X2_get l D cI cZ cT (ad 3) 49 (S_ 3) _ N x16 hz23) ⟨va_cnB 2 hts (zg_c zw_3_6) rfl rfl rfl (hN _ (zx_nw_X1_70)) (hts _ zw_1_2) zyX2_get ⟨Nat.le_of_ble_eq_true rfl, Nat.le_of_ble_eq_true rfl⟩, (hts _ zw_3_5), trivial⟩ ⟨bS_blind, bS_pre (zx_P1 hP 4 (rfl)) hK (zx_D1 hD 4 (rfl)) hN⟩ rfl rfl hl.1 rfl (lv_room (Nat.le_of_ble_eq_true rfl)) dX1_lookedAt_64 ⟨Nat.zero_le _, Nat.zero_le _⟩) hS (fun q h1 h2 => absurd h1 (Nat.not_lt.mpr h2)) (fun q h => hA q (Nat.le_trans hS.1 h)) (fun r u t H1 lc ht hvm hw hB hz1 hk1 hS => ?_)
            replace hw : x22 = r := hw; subst hw
            replace hP := zx_keep hP hk1
            refine lv_goto (tgt := 71) hx hb dX1_lookedAt_67 (by decide) ?_
            exact j71 v1 x18 x15 v4 x16 x22 S_ _ _ _ hP hD hS (lv_sub hl [3, 4, 0, 2, 5, 1] rfl) hM
  refine lv_iconst (v := 0) hx hb dX1_lookedAt_0 (by decide) ?_
  refine lv_istore_n (lv' := [(2, .int 0), (0, .ref h), (1, .int p1)]) hx hb dX1_lookedAt_1 rfl hl (by decide) rfl (fun ls hl => ?_)
  refine lv_iconst (v := 1) hx hb dX1_lookedAt_2 (by decide) ?_
  refine lv_istore_n (lv' := [(3, .int 1), (2, .int 0), (0, .ref h), (1, .int p1)]) hx hb dX1_lookedAt_3 rfl hl (by decide) rfl (fun ls hl => ?_)
  refine lv_aload_n hx hb dX1_lookedAt_4 rfl (lv_at hl 2 rfl) ?_
  refine va_get (D := D) (ci := 1) (v := .ref (ad 9)) (C := RX1) (T := TX1) (N := 14) hx hb hts inlX1 hown hK hP 0 rfl rfl 13 (by decide) (hts _ zw_2_14) (fun _ h9 => h9) rfl dX1_lookedAt_5 ?_
  refine lv_iconst (v := 0) hx hb dX1_lookedAt_8 (by decide) ?_
  refine lv_aload_n hx hb dX1_lookedAt_9 rfl (lv_at hl 2 rfl) ?_
  refine va_get (D := D) (ci := 1) (v := .int (S 10 0)) (C := RX1) (T := TX1) (N := 14) hx hb hts inlX1 hown hK hP 0 rfl rfl 5 (by decide) (hts _ zw_2_22) (fun _ h9 => h9) rfl dX1_lookedAt_10 ?_
  obtain ⟨g24, hz25, hM⟩ := zx_b1E hM
  refine va_callv (va_runSN (As := [.ref (ad 9), .int 0, .int (S 10 0)]) (rest := []) ⟨hx, hb, hml, hown, hts⟩ (c_X2_put l D cI cZ cT (ad 9) 24 (S 9) _ N 0 (S 10 0) hz25) ⟨va_cnB 3 hts (zg_c zw_3_0) rfl rfl rfl (hN _ (zx_nw_X1_45)) (hts _ zw_1_2) zyX2_put ⟨Nat.le_of_ble_eq_true rfl, Nat.le_of_ble_eq_true rfl⟩, (hts _ zw_2_23), trivial⟩ ⟨bS_blind, bS_pre (zx_P1 hP 10 (rfl)) hK (zx_D1 hD 10 (rfl)) hN⟩ rfl rfl hl.1 rfl (lv_room (Nat.le_of_ble_eq_true rfl)) dX1_lookedAt_13 ⟨Nat.zero_le _, Nat.zero_le _⟩) hS (fun q _ h => zx_f1 hD hS hA (k := 10) rfl q h) (fun q h => zx_f1 hD hS hA (k := 10) rfl q h) (fun u t H1 lc ht hvm hw hB hz1 hk1 hS => ?_)
  replace hw : g24 = u := hw; subst hw
  rw [ht] at hB
  replace hP := zx_set1 (k := 10) hP hD rfl hk1 hB
  replace hD := va_D.set (p := 10) (e := .inl (cI, 24, .inl g24)) hD rfl
  rw [xW1_pa9] at hP hD
  obtain ⟨T26, eT26, hM⟩ := zx_nE hM
  rw [← eT26] at hP hD
  refine lv_iconst (v := 0) hx hb dX1_lookedAt_16 (by decide) ?_
  refine lv_istore (lv' := [(4, .int 0), (3, .int 1), (2, .int 0), (0, .ref h), (1, .int p1)]) hx hb dX1_lookedAt_17 hl (by decide) rfl (fun ls hl => ?_)
  exact l19 N p1 0 1 0 T26 _ _ _ hP hD hS (lv_sub hl [3, 4, 2, 1, 0] rfl) hM
