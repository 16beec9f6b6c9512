/-! ShallowBoxes$Tree.countNearer(III)I -/
def f_X1_countNearer_j64 (N : Nat) (S : zx_S) (k15 : Int32 → Int32 → Int32 → Int32 → Int32 → Int32 → Option (Int32)) (v1 : Int32) (v2 : Int32) (v3 : Int32) (v4 : Int32) (v5 : Int32) (v6 : Int32) : Option (Int32) :=
  (zx_n (v6 + 1) (fun x2 =>
k15 v1 v2 v3 v4 v5 x2))
def f_X1_countNearer_j61 (N : Nat) (S : zx_S) (k15 : Int32 → Int32 → Int32 → Int32 → Int32 → Int32 → Option (Int32)) (v1 : Int32) (v2 : Int32) (v3 : Int32) (v4 : Int32) (v5 : Int32) (v6 : Int32) : Option (Int32) :=
  (zx_n (v5 + 1) (fun x6 =>
f_X1_countNearer_j64 N S k15 v1 v2 v3 v4 x6 v6))
def f_X1_countNearer_l15 (N : Nat) (S : zx_S) : Nat → Int32 → Int32 → Int32 → Int32 → Int32 → Int32 → Option (Int32)
  | 0, _, _, _, _, _, _ => none
  | n15 + 1, v1, v2, v3, v4, v5, v6 => (if 24 ≤ v6 then
  some v5 else
  (zx_b1 (f_X1_hasRectangle N v6 S) (fun x3 =>
(if x3 = 0 then
  f_X1_countNearer_j64 N S (f_X1_countNearer_l15 N S  n15) v1 v2 v3 v4 v5 v6 else
  (zx_b1 (f_X1_distance N v6 v2 v3 S) (fun x7 =>
(if x7 < v4 then
  f_X1_countNearer_j61 N S (f_X1_countNearer_l15 N S  n15) v1 v2 v3 v4 v5 v6 else
  (if x7 = v4 then
  (if v1 ≤ v6 then
  f_X1_countNearer_j64 N S (f_X1_countNearer_l15 N S  n15) v1 v2 v3 v4 v5 v6 else
  f_X1_countNearer_j61 N S (f_X1_countNearer_l15 N S  n15) v1 v2 v3 v4 v5 v6) else
  f_X1_countNearer_j64 N S (f_X1_countNearer_l15 N S  n15) v1 v2 v3 v4 v5 v6))))))))
def f_X1_countNearer (N : Nat) (p1 : Int32) (p2 : Int32) (p3 : Int32) (S : zx_S) : Option (Int32) :=
  (zx_b1 (f_X1_distance N p1 p2 p3 S) (fun x12 =>
f_X1_countNearer_l15 N S  N p1 p2 p3 x12 0 0))
abbrev rmX1_countNearer : Room := { frames := 3, cells := 0, slots := 0, locals := 68 }
abbrev zsX1_countNearer : List Cond := .code yX1_countNearer cX1_countNearer 8 (some .int) :: wsL_law
theorem zyX1_countNearer : yX1_countNearer.cls ≠ "java/lang/invoke/MethodHandle" ∧ yX1_countNearer.cls ≠ "java/lang/invoke/VarHandle" ∧ (parseMethodDescriptor yX1_countNearer.desc).map (fun d => d.parameters.length) = some 3 := by decide +kernel
set_option maxHeartbeats 4000000 in
set_option maxRecDepth 100000 in
theorem c_X1_countNearer (l : Launch) (D : va_G) (cI cZ cT : ClassId) (h : Nat) (ad : Nat → Nat) (S : zx_S) (sz : Nat) (N : Nat) (p1 : Int32) (p2 : Int32) (p3 : Int32) {R : Int32} (hM : f_X1_countNearer N p1 p2 p3 S = some R) : Met l yX1_countNearer zsX1_countNearer rmX1_countNearer (va_Pc [.ref h, .int p1, .int p2, .int p3] (bS D (zx_ty cI cZ cT) (xW1 cI h ad S) sz)) (va_Qi (fun r (_ : Unit) => R = r) (fun _ _ => True) (fun q => sz ≤ q)) 0 0 (fun q => sz ≤ q) := by
  refine Met.ofW (cc := cX1_countNearer) (maxL := 8) (ret := (some .int)) (by decide) rfl ?_
  intro p e s m args below meth c s₁ B hml hv
  obtain ⟨rfl, hsz, hP, hK, hD0, hN⟩ := hv
  have hx := B.exec
  have hb := B.bytes
  have hr := B.returns
  have hts : ∀ w ∈ wsL_law, w.before _ s = true := fun w hw => atoms_spec (ws := zsX1_countNearer) B.pre w (List.mem_cons_of_mem _ hw)
  have hown : s.vm.findClass RX1 = some m.cls := findClass_of_methodNamed B.named
  have hlocks := B.notSynchronized
  subst hsz
  generalize hAe : (fun q : Nat => s.heap.size ≤ q) = A
  have hA : ∀ q : Nat, s.heap.size ≤ q → A q := fun q h => by rw [← hAe]; exact h
  have hD := hD0
  have hS : va_S A s.heap s.heap [] := va_S.rf
  have hl := lv_entry ([.ref h, .int p1, .int p2, .int p3]) (n := 8) (Nat.le_of_ble_eq_true rfl)
  rw [lg_entry_eq]
  generalize (lg_sl ([.ref h, .int p1, .int p2, .int p3]) ++ List.replicate (8 - (lg_sl ([.ref h, .int p1, .int p2, .int p3])).length) Slot.unset).toArray = ls at hl ⊢
  have hl : lv_has ls 8 [(0, .ref h), (1, .int p1), (2, .int p2), (3, .int p3)] := hl
  generalize hQ : MQ below (va_Qi (fun r (_ : Unit) => R = r) (fun _ _ => True) A) ([.ref h, .int p1, .int p2, .int p3] : List Value).toArray s 0 0 A = Q9
  replace hQ := hQ.symm
  unfold f_X1_countNearer at hM
  have l15 : ∀ (n15 : Nat) (v1 : Int32) (v2 : Int32) (v3 : Int32) (v4 : Int32) (v5 : Int32) (v6 : Int32) (H : Heap) (lc : List Loc) (ls : Array Slot), va_P D vwCl (xW1 cI h ad S) H → va_S A s.heap H lc → lv_has ls 8 [(0, .ref h), (1, .int v1), (2, .int v2), (3, .int v3), (4, .int v4), (5, .int v5), (6, .int v6)] → f_X1_countNearer_l15 N S n15 v1 v2 v3 v4 v5 v6 = some R → W p l e (headSpec zsX1_countNearer rmX1_countNearer).room s m ([.ref h, .int p1, .int p2, .int p3] : List Value).toArray below meth c H lc 0 0 Q9 (F0 m 15 ls []) := by
    intro n15
    induction n15 with
    | zero =>
      intro v1 v2 v3 v4 v5 v6 H lc ls hP hS hl hM
      rw [f_X1_countNearer_l15] at hM; exact absurd hM (by intro h; cases h)
    | succ n15 ih15 =>
      intro v1 v2 v3 v4 v5 v6 H lc ls hP hS hl hM
      rw [f_X1_countNearer_l15] at hM
      refine lv_iload hx hb dX1_countNearer_15 (lv_at hl 6 rfl) ?_
      refine lv_bipush (v := 24) hx hb dX1_countNearer_17 (by decide) ?_
      refine lv_icmp_ge (tgt := 70) hx hb dX1_countNearer_19 (by decide) (fun q1 => ?_) (fun q1 => ?_)
      · replace hM := zx_t q1 hM
        refine lv_iload hx hb dX1_countNearer_70 (lv_at hl 5 rfl) ?_
        rw [hQ]
        exact W.iret hx hb hr (fun t ht hW => ⟨⟨v5, (), rfl, (Option.some.inj hM).symm, trivial⟩, hS.F ht⟩) hS.2.2 dX1_countNearer_72
      · replace hM := zx_f q1 hM
        have j64 : ∀ (v1 : Int32) (v2 : Int32) (v3 : Int32) (v4 : Int32) (v5 : Int32) (v6 : Int32) (H : Heap) (lc : List Loc) (ls : Array Slot), va_P D vwCl (xW1 cI h ad S) H → va_S A s.heap H lc → lv_has ls 8 [(0, .ref h), (1, .int v1), (2, .int v2), (3, .int v3), (4, .int v4), (5, .int v5), (6, .int v6)] → f_X1_countNearer_j64 N S (f_X1_countNearer_l15 N S  n15) v1 v2 v3 v4 v5 v6 = some R → W p l e (headSpec zsX1_countNearer rmX1_countNearer).room s m ([.ref h, .int p1, .int p2, .int p3] : List Value).toArray below meth c H lc 0 0 Q9 (F0 m 64 ls []) := by
          intro v1 v2 v3 v4 v5 v6 H lc ls hP hS hl hM
          unfold f_X1_countNearer_j64 at hM
          obtain ⟨x2, ex2, hM⟩ := zx_nE hM
          refine lv_iinc (v := x2) (lv' := [(6, .int x2), (0, .ref h), (1, .int v1), (2, .int v2), (3, .int v3), (4, .int v4), (5, .int v5)]) hx hb dX1_countNearer_64 hl (k := 6) rfl (by rw [ex2]; rfl) (by decide) rfl (fun ls hl => ?_)
          refine lv_goto (tgt := 15) hx hb dX1_countNearer_67 (by decide) ?_
          exact ih15 v1 v2 v3 v4 v5 x2 _ _ _ hP hS (lv_sub hl [1, 2, 3, 4, 5, 6, 0] rfl) hM
        refine lv_aload_n hx hb dX1_countNearer_22 rfl (lv_at hl 0 rfl) ?_
        refine lv_iload hx hb dX1_countNearer_23 (lv_at hl 6 rfl) ?_
        obtain ⟨x3, hz4, hM⟩ := zx_b1E hM
        refine va_calli (va_runV (As := [.int v6]) (rest := []) ⟨hx, hb, hml, hown, hts⟩ (c_X1_hasRectangle l D cI cZ cT h ad S _ N v6  hz4) (cwV 1 hts (zg_V zw_16_12 zw_7_9 zw_7_10 zw_1_14 zw_7_11) rfl rfl rfl ⟨rfl, zyX1_hasRectangle⟩ ⟨Nat.le_of_ble_eq_true rfl, Nat.le_of_ble_eq_true rfl⟩) ⟨bS_blind, va_recv hK hP (ci := 1) (q0 := 0) rfl rfl, bS_pre hP hK hD hN⟩ rfl rfl hl.1 rfl (lv_room (Nat.le_of_ble_eq_true rfl)) dX1_countNearer_25 ⟨Nat.zero_le _, Nat.zero_le _⟩) hS (fun q h1 h2 => absurd h1 (Nat.not_lt.mpr h2)) (fun q h => hA q (Nat.le_trans hS.1 h)) (fun r u t H1 lc ht hvm hw hB hz1 hk1 hS => ?_)
        replace hw : x3 = r := hw; subst hw
        replace hP := zx_keep hP hk1
        refine lv_if_eq (tgt := 64) hx hb dX1_countNearer_28 (by decide) (fun q5 => ?_) (fun q5 => ?_)
        · replace hM := zx_t q5 hM
          exact j64 v1 v2 v3 v4 v5 v6 _ _ _ hP hS (lv_sub hl [0, 1, 2, 3, 4, 5, 6] rfl) hM
        · replace hM := zx_f q5 hM
          have j61 : ∀ (v1 : Int32) (v2 : Int32) (v3 : Int32) (v4 : Int32) (v5 : Int32) (v6 : Int32) (H : Heap) (lc : List Loc) (ls : Array Slot), va_P D vwCl (xW1 cI h ad S) H → va_S A s.heap H lc → lv_has ls 8 [(0, .ref h), (1, .int v1), (2, .int v2), (3, .int v3), (4, .int v4), (5, .int v5), (6, .int v6)] → f_X1_countNearer_j61 N S (f_X1_countNearer_l15 N S  n15) v1 v2 v3 v4 v5 v6 = some R → W p l e (headSpec zsX1_countNearer rmX1_countNearer).room s m ([.ref h, .int p1, .int p2, .int p3] : List Value).toArray below meth c H lc 0 0 Q9 (F0 m 61 ls []) := by
            intro v1 v2 v3 v4 v5 v6 H lc ls hP hS hl hM
            unfold f_X1_countNearer_j61 at hM
            obtain ⟨x6, ex6, hM⟩ := zx_nE hM
            refine lv_iinc (v := x6) (lv' := [(5, .int x6), (0, .ref h), (1, .int v1), (2, .int v2), (3, .int v3), (4, .int v4), (6, .int v6)]) hx hb dX1_countNearer_61 hl (k := 5) rfl (by rw [ex6]; rfl) (by decide) rfl (fun ls hl => ?_)
            exact j64 v1 v2 v3 v4 x6 v6 _ _ _ hP hS (lv_sub hl [1, 2, 3, 4, 5, 0, 6] rfl) hM
          refine lv_aload_n hx hb dX1_countNearer_31 rfl (lv_at hl 0 rfl) ?_
          refine lv_iload hx hb dX1_countNearer_32 (lv_at hl 6 rfl) ?_
          refine lv_iload_n hx hb dX1_countNearer_34 rfl (lv_at hl 2 rfl) ?_
          refine lv_iload_n hx hb dX1_countNearer_35 rfl (lv_at hl 3 rfl) ?_
          obtain ⟨x7, hz8, hM⟩ := zx_b1E hM
          refine va_calli (va_runV (As := [.int v6, .int v2, .int v3]) (rest := []) ⟨hx, hb, hml, hown, hts⟩ (c_X1_distance l D cI cZ cT h ad S _ N v6 v2 v3  hz8) (cwV 3 hts (zg_V zw_16_17 zw_16_18 zw_16_19 zw_1_14 zw_16_20) rfl rfl rfl ⟨rfl, zyX1_distance⟩ ⟨Nat.le_of_ble_eq_true rfl, Nat.le_of_ble_eq_true rfl⟩) ⟨bS_blind, va_recv hK hP (ci := 1) (q0 := 0) rfl rfl, bS_pre hP hK hD hN⟩ rfl rfl hl.1 rfl (lv_room (Nat.le_of_ble_eq_true rfl)) dX1_countNearer_36 ⟨Nat.zero_le _, Nat.zero_le _⟩) hS (fun q h1 h2 => absurd h1 (Nat.not_lt.mpr h2)) (fun q h => hA q (Nat.le_trans hS.1 h)) (fun r u t H1 lc ht hvm hw hB hz1 hk1 hS => ?_)
          replace hw : x7 = r := hw; subst hw
          replace hP := zx_keep hP hk1
          refine lv_istore (lv' := [(7, .int x7), (0, .ref h), (1, .int v1), (2, .int v2), (3, .int v3), (4, .int v4), (5, .int v5), (6, .int v6)]) hx hb dX1_countNearer_39 hl (by decide) rfl (fun ls hl => ?_)
          refine lv_iload hx hb dX1_countNearer_41 (lv_at hl 0 rfl) ?_
          refine lv_iload hx hb dX1_countNearer_43 (lv_at hl 5 rfl) ?_
          refine lv_icmp_lt (tgt := 61) hx hb dX1_countNearer_45 (by decide) (fun q9 => ?_) (fun q9 => ?_)
          · replace hM := zx_t q9 hM
            exact j61 v1 v2 v3 v4 v5 v6 _ _ _ hP hS (lv_sub hl [1, 2, 3, 4, 5, 6, 7] rfl) hM
          · replace hM := zx_f q9 hM
            refine lv_iload hx hb dX1_countNearer_48 (lv_at hl 0 rfl) ?_
            refine lv_iload hx hb dX1_countNearer_50 (lv_at hl 5 rfl) ?_
            refine lv_icmp_ne (tgt := 64) hx hb dX1_countNearer_52 (by decide) (fun q10 => ?_) (fun q10 => ?_)
            · replace hM := zx_f q10 hM
              exact j64 v1 v2 v3 v4 v5 v6 _ _ _ hP hS (lv_sub hl [1, 2, 3, 4, 5, 6, 7] rfl) hM
            · replace hM := zx_t q10 hM
              refine lv_iload hx hb dX1_countNearer_55 (lv_at hl 7 rfl) ?_
              refine lv_iload_n hx hb dX1_countNearer_57 rfl (lv_at hl 2 rfl) ?_
              refine lv_icmp_ge (tgt := 64) hx hb dX1_countNearer_58 (by decide) (fun q11 => ?_) (fun q11 => ?_)
              · replace hM := zx_t q11 hM
                exact j64 v1 v2 v3 v4 v5 v6 _ _ _ hP hS (lv_sub hl [1, 2, 3, 4, 5, 6, 7] rfl) hM
              · replace hM := zx_f q11 hM
                exact j61 v1 v2 v3 v4 v5 v6 _ _ _ hP hS (lv_sub hl [1, 2, 3, 4, 5, 6, 7] rfl) hM
  refine lv_aload_n hx hb dX1_countNearer_0 rfl (lv_at hl 0 rfl) ?_
  refine lv_iload_n hx hb dX1_countNearer_1 rfl (lv_at hl 1 rfl) ?_
  refine lv_iload_n hx hb dX1_countNearer_2 rfl (lv_at hl 2 rfl) ?_
  refine lv_iload_n hx hb dX1_countNearer_3 rfl (lv_at hl 3 rfl) ?_
  obtain ⟨x12, hz13, hM⟩ := zx_b1E hM
  refine va_calli (va_runV (As := [.int p1, .int p2, .int p3]) (rest := []) ⟨hx, hb, hml, hown, hts⟩ (c_X1_distance l D cI cZ cT h ad S _ N p1 p2 p3  hz13) (cwV 3 hts (zg_V zw_16_17 zw_16_18 zw_16_19 zw_1_14 zw_16_20) rfl rfl rfl ⟨rfl, zyX1_distance⟩ ⟨Nat.le_of_ble_eq_true rfl, Nat.le_of_ble_eq_true rfl⟩) ⟨bS_blind, va_recv hK hP (ci := 1) (q0 := 0) rfl rfl, bS_pre hP hK hD hN⟩ rfl rfl hl.1 rfl (lv_room (Nat.le_of_ble_eq_true rfl)) dX1_countNearer_4 ⟨Nat.zero_le _, Nat.zero_le _⟩) hS (fun q h1 h2 => absurd h1 (Nat.not_lt.mpr h2)) (fun q h => hA q (Nat.le_trans hS.1 h)) (fun r u t H1 lc ht hvm hw hB hz1 hk1 hS => ?_)
  replace hw : x12 = r := hw; subst hw
  replace hP := zx_keep hP hk1
  refine lv_istore (lv' := [(4, .int x12), (0, .ref h), (1, .int p1), (2, .int p2), (3, .int p3)]) hx hb dX1_countNearer_7 hl (by decide) rfl (fun ls hl => ?_)
  refine lv_iconst (v := 0) hx hb dX1_countNearer_9 (by decide) ?_
  refine lv_istore (lv' := [(5, .int 0), (4, .int x12), (0, .ref h), (1, .int p1), (2, .int p2), (3, .int p3)]) hx hb dX1_countNearer_10 hl (by decide) rfl (fun ls hl => ?_)
  refine lv_iconst (v := 0) hx hb dX1_countNearer_12 (by decide) ?_
  refine lv_istore (lv' := [(6, .int 0), (5, .int 0), (4, .int x12), (0, .ref h), (1, .int p1), (2, .int p2), (3, .int p3)]) hx hb dX1_countNearer_13 hl (by decide) rfl (fun ls hl => ?_)
  exact l15 N p1 p2 p3 x12 0 0 _ _ _ hP hS (lv_sub hl [3, 4, 5, 6, 2, 1, 0] rfl) hM

/-! ShallowBoxes$Tree.ranked(III)I -/
def f_X1_ranked_j34 (N : Nat) (S : zx_S) (k3 : Int32 → Int32 → Int32 → Int32 → Option (Int32)) (v1 : Int32) (v2 : Int32) (v3 : Int32) (v4 : Int32) : Option (Int32) :=
  (zx_n (v4 + 1) (fun x2 =>
k3 v1 v2 v3 x2))
def f_X1_ranked_l3 (N : Nat) (S : zx_S) : Nat → Int32 → Int32 → Int32 → Int32 → Option (Int32)
  | 0, _, _, _, _ => none
  | n3 + 1, v1, v2, v3, v4 => (if 24 ≤ v4 then
  some (-1) else
  (zx_b1 (f_X1_hasRectangle N v4 S) (fun x3 =>
(if x3 = 0 then
  f_X1_ranked_j34 N S (f_X1_ranked_l3 N S  n3) v1 v2 v3 v4 else
  (zx_b1 (f_X1_countNearer N v4 v1 v2 S) (fun x6 =>
(if x6 = v3 then
  some v4 else
  f_X1_ranked_j34 N S (f_X1_ranked_l3 N S  n3) v1 v2 v3 v4)))))))
def f_X1_ranked (N : Nat) (p1 : Int32) (p2 : Int32) (p3 : Int32) (S : zx_S) : Option (Int32) :=
  f_X1_ranked_l3 N S  N p1 p2 p3 0
abbrev rmX1_ranked : Room := { frames := 4, cells := 0, slots := 0, locals := 95 }
abbrev zsX1_ranked : List Cond := .code yX1_ranked cX1_ranked 5 (some .int) :: wsL_law
theorem zyX1_ranked : yX1_ranked.cls ≠ "java/lang/invoke/MethodHandle" ∧ yX1_ranked.cls ≠ "java/lang/invoke/VarHandle" ∧ (parseMethodDescriptor yX1_ranked.desc).map (fun d => d.parameters.length) = some 3 := by decide +kernel
set_option maxHeartbeats 4000000 in
set_option maxRecDepth 100000 in
theorem c_X1_ranked (l : Launch) (D : va_G) (cI cZ cT : ClassId) (h : Nat) (ad : Nat → Nat) (S : zx_S) (sz : Nat) (N : Nat) (p1 : Int32) (p2 : Int32) (p3 : Int32) {R : Int32} (hM : f_X1_ranked N p1 p2 p3 S = some R) : Met l yX1_ranked zsX1_ranked rmX1_ranked (va_Pc [.ref h, .int p1, .int p2, .int p3] (bS D (zx_ty cI cZ cT) (xW1 cI h ad S) sz)) (va_Qi (fun r (_ : Unit) => R = r) (fun _ _ => True) (fun q => sz ≤ q)) 0 0 (fun q => sz ≤ q) := by
  refine Met.ofW (cc := cX1_ranked) (maxL := 5) (ret := (some .int)) (by decide) rfl ?_
  intro p e s m args below meth c s₁ B hml hv
  obtain ⟨rfl, hsz, hP, hK, hD0, hN⟩ := hv
  have hx := B.exec
  have hb := B.bytes
  have hr := B.returns
  have hts : ∀ w ∈ wsL_law, w.before _ s = true := fun w hw => atoms_spec (ws := zsX1_ranked) B.pre w (List.mem_cons_of_mem _ hw)
  have hown : s.vm.findClass RX1 = some m.cls := findClass_of_methodNamed B.named
  have hlocks := B.notSynchronized
  subst hsz
  generalize hAe : (fun q : Nat => s.heap.size ≤ q) = A
  have hA : ∀ q : Nat, s.heap.size ≤ q → A q := fun q h => by rw [← hAe]; exact h
  have hD := hD0
  have hS : va_S A s.heap s.heap [] := va_S.rf
  have hl := lv_entry ([.ref h, .int p1, .int p2, .int p3]) (n := 5) (Nat.le_of_ble_eq_true rfl)
  rw [lg_entry_eq]
  generalize (lg_sl ([.ref h, .int p1, .int p2, .int p3]) ++ List.replicate (5 - (lg_sl ([.ref h, .int p1, .int p2, .int p3])).length) Slot.unset).toArray = ls at hl ⊢
  have hl : lv_has ls 5 [(0, .ref h), (1, .int p1), (2, .int p2), (3, .int p3)] := hl
  generalize hQ : MQ below (va_Qi (fun r (_ : Unit) => R = r) (fun _ _ => True) A) ([.ref h, .int p1, .int p2, .int p3] : List Value).toArray s 0 0 A = Q9
  replace hQ := hQ.symm
  unfold f_X1_ranked at hM
  have l3 : ∀ (n3 : Nat) (v1 : Int32) (v2 : Int32) (v3 : Int32) (v4 : Int32) (H : Heap) (lc : List Loc) (ls : Array Slot), va_P D vwCl (xW1 cI h ad S) H → va_S A s.heap H lc → lv_has ls 5 [(0, .ref h), (1, .int v1), (2, .int v2), (3, .int v3), (4, .int v4)] → f_X1_ranked_l3 N S n3 v1 v2 v3 v4 = some R → W p l e (headSpec zsX1_ranked rmX1_ranked).room s m ([.ref h, .int p1, .int p2, .int p3] : List Value).toArray below meth c H lc 0 0 Q9 (F0 m 3 ls []) := by
    intro n3
    induction n3 with
    | zero =>
      intro v1 v2 v3 v4 H lc ls hP hS hl hM
      rw [f_X1_ranked_l3] at hM; exact absurd hM (by intro h; cases h)
    | succ n3 ih3 =>
      intro v1 v2 v3 v4 H lc ls hP hS hl hM
      rw [f_X1_ranked_l3] at hM
      refine lv_iload hx hb dX1_ranked_3 (lv_at hl 4 rfl) ?_
      refine lv_bipush (v := 24) hx hb dX1_ranked_5 (by decide) ?_
      refine lv_icmp_ge (tgt := 40) hx hb dX1_ranked_7 (by decide) (fun q1 => ?_) (fun q1 => ?_)
      · replace hM := zx_t q1 hM
        refine lv_iconst (v := (-1)) hx hb dX1_ranked_40 (by decide) ?_
        rw [hQ]
        exact W.iret hx hb hr (fun t ht hW => ⟨⟨(-1), (), rfl, (Option.some.inj hM).symm, trivial⟩, hS.F ht⟩) hS.2.2 dX1_ranked_41
      · replace hM := zx_f q1 hM
        have j34 : ∀ (v1 : Int32) (v2 : Int32) (v3 : Int32) (v4 : Int32) (H : Heap) (lc : List Loc) (ls : Array Slot), va_P D vwCl (xW1 cI h ad S) H → va_S A s.heap H lc → lv_has ls 5 [(0, .ref h), (1, .int v1), (2, .int v2), (3, .int v3), (4, .int v4)] → f_X1_ranked_j34 N S (f_X1_ranked_l3 N S  n3) v1 v2 v3 v4 = some R → W p l e (headSpec zsX1_ranked rmX1_ranked).room s m ([.ref h, .int p1, .int p2, .int p3] : List Value).toArray below meth c H lc 0 0 Q9 (F0 m 34 ls []) := by
          intro v1 v2 v3 v4 H lc ls hP hS hl hM
          unfold f_X1_ranked_j34 at hM
          obtain ⟨x2, ex2, hM⟩ := zx_nE hM
          refine lv_iinc (v := x2) (lv' := [(4, .int x2), (0, .ref h), (1, .int v1), (2, .int v2), (3, .int v3)]) hx hb dX1_ranked_34 hl (k := 4) rfl (by rw [ex2]; rfl) (by decide) rfl (fun ls hl => ?_)
          refine lv_goto (tgt := 3) hx hb dX1_ranked_37 (by decide) ?_
          exact ih3 v1 v2 v3 x2 _ _ _ hP hS (lv_sub hl [1, 2, 3, 4, 0] rfl) hM
        refine lv_aload_n hx hb dX1_ranked_10 rfl (lv_at hl 0 rfl) ?_
        refine lv_iload hx hb dX1_ranked_11 (lv_at hl 4 rfl) ?_
        obtain ⟨x3, hz4, hM⟩ := zx_b1E hM
        refine va_calli (va_runV (As := [.int v4]) (rest := []) ⟨hx, hb, hml, hown, hts⟩ (c_X1_hasRectangle l D cI cZ cT h ad S _ N v4  hz4) (cwV 1 hts (zg_V zw_16_12 zw_7_9 zw_7_10 zw_1_14 zw_7_11) rfl rfl rfl ⟨rfl, zyX1_hasRectangle⟩ ⟨Nat.le_of_ble_eq_true rfl, Nat.le_of_ble_eq_true rfl⟩) ⟨bS_blind, va_recv hK hP (ci := 1) (q0 := 0) rfl rfl, bS_pre hP hK hD hN⟩ rfl rfl hl.1 rfl (lv_room (Nat.le_of_ble_eq_true rfl)) dX1_ranked_13 ⟨Nat.zero_le _, Nat.zero_le _⟩) hS (fun q h1 h2 => absurd h1 (Nat.not_lt.mpr h2)) (fun q h => hA q (Nat.le_trans hS.1 h)) (fun r u t H1 lc ht hvm hw hB hz1 hk1 hS => ?_)
        replace hw : x3 = r := hw; subst hw
        replace hP := zx_keep hP hk1
        refine lv_if_eq (tgt := 34) hx hb dX1_ranked_16 (by decide) (fun q5 => ?_) (fun q5 => ?_)
        · replace hM := zx_t q5 hM
          exact j34 v1 v2 v3 v4 _ _ _ hP hS (lv_sub hl [0, 1, 2, 3, 4] rfl) hM
        · replace hM := zx_f q5 hM
          refine lv_aload_n hx hb dX1_ranked_19 rfl (lv_at hl 0 rfl) ?_
          refine lv_iload hx hb dX1_ranked_20 (lv_at hl 4 rfl) ?_
          refine lv_iload_n hx hb dX1_ranked_22 rfl (lv_at hl 1 rfl) ?_
          refine lv_iload_n hx hb dX1_ranked_23 rfl (lv_at hl 2 rfl) ?_
          obtain ⟨x6, hz7, hM⟩ := zx_b1E hM
          refine va_calli (va_runV (As := [.int v4, .int v1, .int v2]) (rest := []) ⟨hx, hb, hml, hown, hts⟩ (c_X1_countNearer l D cI cZ cT h ad S _ N v4 v1 v2  hz7) (cwV 3 hts (zg_V zw_16_13 zw_16_14 zw_16_15 zw_1_14 zw_16_16) rfl rfl rfl ⟨rfl, zyX1_countNearer⟩ ⟨Nat.le_of_ble_eq_true rfl, Nat.le_of_ble_eq_true rfl⟩) ⟨bS_blind, va_recv hK hP (ci := 1) (q0 := 0) rfl rfl, bS_pre hP hK hD hN⟩ rfl rfl hl.1 rfl (lv_room (Nat.le_of_ble_eq_true rfl)) dX1_ranked_24 ⟨Nat.zero_le _, Nat.zero_le _⟩) hS (fun q h1 h2 => absurd h1 (Nat.not_lt.mpr h2)) (fun q h => hA q (Nat.le_trans hS.1 h)) (fun r u t H1 lc ht hvm hw hB hz1 hk1 hS => ?_)
          replace hw : x6 = r := hw; subst hw
          replace hP := zx_keep hP hk1
          refine lv_iload_n hx hb dX1_ranked_27 rfl (lv_at hl 3 rfl) ?_
          refine lv_icmp_ne (tgt := 34) hx hb dX1_ranked_28 (by decide) (fun q8 => ?_) (fun q8 => ?_)
          · replace hM := zx_f q8 hM
            exact j34 v1 v2 v3 v4 _ _ _ hP hS (lv_sub hl [0, 1, 2, 3, 4] rfl) hM
          · replace hM := zx_t q8 hM
            refine lv_iload hx hb dX1_ranked_31 (lv_at hl 4 rfl) ?_
            rw [hQ]
            exact W.iret hx hb hr (fun t ht hW => ⟨⟨v4, (), rfl, (Option.some.inj hM).symm, trivial⟩, hS.F ht⟩) hS.2.2 dX1_ranked_33
  refine lv_iconst (v := 0) hx hb dX1_ranked_0 (by decide) ?_
  refine lv_istore (lv' := [(4, .int 0), (0, .ref h), (1, .int p1), (2, .int p2), (3, .int p3)]) hx hb dX1_ranked_1 hl (by decide) rfl (fun ls hl => ?_)
  exact l3 N p1 p2 p3 0 _ _ _ hP hS (lv_sub hl [1, 2, 3, 4, 0] rfl) hM
