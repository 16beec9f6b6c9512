/-! ShallowBoxes.bestRemoval()I -/
def f_X2_bestRemoval_j74 (N : Nat) (k6 : Int32 → Int32 → Int32 → zx_B → Option (Int32 × zx_B)) (v1 : Int32) (v2 : Int32) (v3 : Int32) (S_ : zx_B) : Option (Int32 × zx_B) :=
  (zx_n (v3 + 1) (fun x2 =>
k6 v1 v2 x2 S_))
def f_X2_bestRemoval_j69 (N : Nat) (k6 : Int32 → Int32 → Int32 → zx_B → Option (Int32 × zx_B)) (v3 : Int32) (v4 : Int32) (S_ : zx_B) : Option (Int32 × zx_B) :=
  f_X2_bestRemoval_j74 N k6 v3 v4 v3 S_
def f_X2_bestRemoval_l6 (N : Nat) : Nat → Int32 → Int32 → Int32 → zx_B → Option (Int32 × zx_B)
  | 0, _, _, _, _ => none
  | n6 + 1, v1, v2, v3, S_ => (if 24 ≤ v3 then
  some (v1, S_) else
  (zx_b1 (f_X1_hasRectangle N v3 (S_ 0)) (fun x3 =>
(if x3 = 0 then
  f_X2_bestRemoval_j74 N (f_X2_bestRemoval_l6 N  n6) v1 v2 v3 S_ else
  (zx_b1 (f_X1_takeOver N (S_ 1) (S_ 0)) (fun T6 =>
(zx_n (zx_sb S_ 1 T6) (fun T8 =>
(zx_b1 (f_X1_beginCall N (T8 1)) (fun T9 =>
(zx_n (zx_sb T8 1 T9) (fun T11 =>
(zx_b1 (f_X1_takeOut N v3 (T11 1)) (fun T12 =>
(zx_n (zx_sb T11 1 T12) (fun T14 =>
(zx_b2 (f_X1_overlap N (T14 1)) (fun x15 T16 =>
(zx_n (zx_sb T14 1 T16) (fun T18 =>
(if v1 = (-1) then
  f_X2_bestRemoval_j69 N (f_X2_bestRemoval_l6 N  n6) v3 x15 T18 else
  (if v2 ≤ x15 then
  f_X2_bestRemoval_j74 N (f_X2_bestRemoval_l6 N  n6) v1 v2 v3 T18 else
  f_X2_bestRemoval_j69 N (f_X2_bestRemoval_l6 N  n6) v3 x15 T18))))))))))))))))))))))
def f_X2_bestRemoval (N : Nat) (S : zx_B) : Option (Int32 × zx_B) :=
  f_X2_bestRemoval_l6 N  N (-1) 0 0 S
abbrev rmX2_bestRemoval : Room := { frames := 6, cells := 0, slots := 0, locals := 152 }
abbrev zsX2_bestRemoval : List Cond := .code yX2_bestRemoval cX2_bestRemoval 5 (some .int) :: wsL_law
theorem zyX2_bestRemoval : yX2_bestRemoval.cls ≠ "java/lang/invoke/MethodHandle" ∧ yX2_bestRemoval.cls ≠ "java/lang/invoke/VarHandle" ∧ (parseMethodDescriptor yX2_bestRemoval.desc).map (fun d => d.parameters.length) = some 0 := by decide +kernel
set_option maxHeartbeats 4000000 in
set_option maxRecDepth 100000 in
theorem c_X2_bestRemoval (l : Launch) (D : va_G) (cI cZ cT : ClassId) (h : Nat) (hh : Nat → Nat) (aa : Nat → Nat → Nat) (S : zx_B) (sz : Nat) (N : Nat) {R : Int32 × zx_B} (hM : f_X2_bestRemoval N S = some R) : Met l yX2_bestRemoval zsX2_bestRemoval rmX2_bestRemoval (va_Pc [.ref h] (bS D (zx_ty cI cZ cT) (xW2 cI cT h hh aa S) sz)) (va_Qi (fun r u => R = (r, u)) (fun u t => va_P D vwCl (xW2 cI cT h hh aa u) t.heap) (va_A (xW2 cI cT h hh aa S) sz)) 0 0 (va_A (xW2 cI cT h hh aa S) sz) := by
  refine Met.ofW (cc := cX2_bestRemoval) (maxL := 5) (ret := (some .int)) (by decide) rfl ?_
  intro p e s m args below meth c s₁ B hml hv
  obtain ⟨rfl, hsz, hP, hK, hD0, hN⟩ := hv
  have hx := B.exec
  have hb := B.bytes
  have hr := B.returns
  have hts : ∀ w ∈ wsL_law, w.before _ s = true := fun w hw => atoms_spec (ws := zsX2_bestRemoval) B.pre w (List.mem_cons_of_mem _ hw)
  have hown : s.vm.findClass RX2 = some m.cls := findClass_of_methodNamed B.named
  have hlocks := B.notSynchronized
  subst hsz
  have hD := hD0.self (sz := s.heap.size)
  generalize hAe : va_A (xW2 cI cT h hh aa S) s.heap.size = A at hD ⊢
  have hA : ∀ q : Nat, s.heap.size ≤ q → A q := fun q h => by rw [← hAe]; exact Or.inr h
  have hS : va_S A s.heap s.heap [] := va_S.rf
  have hl := lv_entry ([.ref h]) (n := 5) (Nat.le_of_ble_eq_true rfl)
  rw [lg_entry_eq]
  generalize (lg_sl ([.ref h]) ++ List.replicate (5 - (lg_sl ([.ref h])).length) Slot.unset).toArray = ls at hl ⊢
  have hl : lv_has ls 5 [(0, .ref h)] := hl
  generalize hQ : MQ below (va_Qi (fun r u => R = (r, u)) (fun u t => va_P D vwCl (xW2 cI cT h hh aa u) t.heap) A) ([.ref h] : List Value).toArray s 0 0 A = Q9
  replace hQ := hQ.symm
  unfold f_X2_bestRemoval at hM
  have l6 : ∀ (n6 : Nat) (v1 : Int32) (v2 : Int32) (v3 : Int32) (S_ : zx_B) (H : Heap) (lc : List Loc) (ls : Array Slot), va_P D vwCl (xW2 cI cT h hh aa S_) H → va_D A (xW2 cI cT h hh aa S_) → va_S A s.heap H lc → lv_has ls 5 [(0, .ref h), (1, .int v1), (2, .int v2), (3, .int v3)] → f_X2_bestRemoval_l6 N n6 v1 v2 v3 S_ = some R → W p l e (headSpec zsX2_bestRemoval rmX2_bestRemoval).room s m ([.ref h] : List Value).toArray below meth c H lc 0 0 Q9 (F0 m 6 ls []) := by
    intro n6
    induction n6 with
    | zero =>
      intro v1 v2 v3 S_ H lc ls hP hD hS hl hM
      rw [f_X2_bestRemoval_l6] at hM; exact absurd hM (by intro h; cases h)
    | succ n6 ih6 =>
      intro v1 v2 v3 S_ H lc ls hP hD hS hl hM
      rw [f_X2_bestRemoval_l6] at hM
      refine lv_iload_n hx hb dX2_bestRemoval_6 rfl (lv_at hl 3 rfl) ?_
      refine lv_bipush (v := 24) hx hb dX2_bestRemoval_7 (by decide) ?_
      refine lv_icmp_ge (tgt := 80) hx hb dX2_bestRemoval_9 (by decide) (fun q1 => ?_) (fun q1 => ?_)
      · replace hM := zx_t q1 hM
        refine lv_iload_n hx hb dX2_bestRemoval_80 rfl (lv_at hl 1 rfl) ?_
        rw [hQ]
        exact W.iret hx hb hr (fun t ht hW => ⟨⟨v1, S_, rfl, (Option.some.inj hM).symm, by show va_P D vwCl _ t.heap; rw [ht]; exact hP⟩, hS.F ht⟩) hS.2.2 dX2_bestRemoval_81
      · replace hM := zx_f q1 hM
        have j74 : ∀ (v1 : Int32) (v2 : Int32) (v3 : Int32) (S_ : zx_B) (H : Heap) (lc : List Loc) (ls : Array Slot), va_P D vwCl (xW2 cI cT h hh aa S_) H → va_D A (xW2 cI cT h hh aa S_) → va_S A s.heap H lc → lv_has ls 5 [(0, .ref h), (1, .int v1), (2, .int v2), (3, .int v3)] → f_X2_bestRemoval_j74 N (f_X2_bestRemoval_l6 N  n6) v1 v2 v3 S_ = some R → W p l e (headSpec zsX2_bestRemoval rmX2_bestRemoval).room s m ([.ref h] : List Value).toArray below meth c H lc 0 0 Q9 (F0 m 74 ls []) := by
          intro v1 v2 v3 S_ H lc ls hP hD hS hl hM
          unfold f_X2_bestRemoval_j74 at hM
          obtain ⟨x2, ex2, hM⟩ := zx_nE hM
          refine lv_iinc (v := x2) (lv' := [(3, .int x2), (0, .ref h), (1, .int v1), (2, .int v2)]) hx hb dX2_bestRemoval_74 hl (k := 3) rfl (by rw [ex2]; rfl) (by decide) rfl (fun ls hl => ?_)
          refine lv_goto (tgt := 6) hx hb dX2_bestRemoval_77 (by decide) ?_
          exact ih6 v1 v2 x2 S_ _ _ _ hP hD hS (lv_sub hl [1, 2, 3, 0] rfl) hM
        refine lv_aload_n hx hb dX2_bestRemoval_12 rfl (lv_at hl 0 rfl) ?_
        refine va_get (D := D) (ci := 2) (v := .ref (hh 0)) (C := RX2) (T := TX2) (N := 8) hx hb hts inlX2 hown hK hP 0 rfl rfl 0 (by decide) (hts _ zw_1_15) (fun _ h9 => h9) rfl dX2_bestRemoval_13 ?_
        refine lv_iload_n hx hb dX2_bestRemoval_16 rfl (lv_at hl 3 rfl) ?_
        obtain ⟨x3, hz4, hM⟩ := zx_b1E hM
        refine va_calli (va_runV (As := [.int v3]) (rest := []) ⟨hx, hb, hml, hown, hts⟩ (c_X1_hasRectangle l D cI cZ cT (hh 0) (aa 0) (S_ 0) _ N v3 hz4) (cwV 1 hts (zg_V zw_7_8 zw_7_9 zw_7_10 zw_1_14 zw_7_11) rfl rfl rfl ⟨rfl, zyX1_hasRectangle⟩ ⟨Nat.le_of_ble_eq_true rfl, Nat.le_of_ble_eq_true rfl⟩) ⟨bS_blind, va_recv hK (zx2_P (show 0 < 18 by decide) hP) (ci := 1) (q0 := 0) rfl rfl, bS_pre (zx2_P (show 0 < 18 by decide) hP) hK (zx2_D (show 0 < 18 by decide) hD) hN⟩ rfl rfl hl.1 rfl (lv_room (Nat.le_of_ble_eq_true rfl)) dX2_bestRemoval_17 ⟨Nat.zero_le _, Nat.zero_le _⟩) hS (fun q h1 h2 => absurd h1 (Nat.not_lt.mpr h2)) (fun q h => hA q (Nat.le_trans hS.1 h)) (fun r u t H1 lc ht hvm hw hB hz1 hk1 hS => ?_)
        replace hw : x3 = r := hw; subst hw
        replace hP := zx_keep hP hk1
        refine lv_if_eq (tgt := 74) hx hb dX2_bestRemoval_20 (by decide) (fun q5 => ?_) (fun q5 => ?_)
        · replace hM := zx_t q5 hM
          exact j74 v1 v2 v3 S_ _ _ _ hP hD hS (lv_sub hl [0, 1, 2, 3] rfl) hM
        · replace hM := zx_f q5 hM
          have j69 : ∀ (v3 : Int32) (v4 : Int32) (S_ : zx_B) (H : Heap) (lc : List Loc) (ls : Array Slot), va_P D vwCl (xW2 cI cT h hh aa S_) H → va_D A (xW2 cI cT h hh aa S_) → va_S A s.heap H lc → lv_has ls 5 [(0, .ref h), (3, .int v3), (4, .int v4)] → f_X2_bestRemoval_j69 N (f_X2_bestRemoval_l6 N  n6) v3 v4 S_ = some R → W p l e (headSpec zsX2_bestRemoval rmX2_bestRemoval).room s m ([.ref h] : List Value).toArray below meth c H lc 0 0 Q9 (F0 m 69 ls []) := by
            intro v3 v4 S_ H lc ls hP hD hS hl hM
            unfold f_X2_bestRemoval_j69 at hM
            refine lv_iload_n hx hb dX2_bestRemoval_69 rfl (lv_at hl 1 rfl) ?_
            refine lv_istore_n (lv' := [(1, .int v3), (0, .ref h), (3, .int v3), (4, .int v4)]) hx hb dX2_bestRemoval_70 rfl hl (by decide) rfl (fun ls hl => ?_)
            refine lv_iload hx hb dX2_bestRemoval_71 (lv_at hl 3 rfl) ?_
            refine lv_istore_n (lv' := [(2, .int v4), (1, .int v3), (0, .ref h), (3, .int v3), (4, .int v4)]) hx hb dX2_bestRemoval_73 rfl hl (by decide) rfl (fun ls hl => ?_)
            exact j74 v3 v4 v3 S_ _ _ _ hP hD hS (lv_sub hl [2, 1, 0, 3] rfl) hM
          refine lv_aload_n hx hb dX2_bestRemoval_23 rfl (lv_at hl 0 rfl) ?_
          refine va_get (D := D) (ci := 2) (v := .ref (hh 1)) (C := RX2) (T := TX2) (N := 8) hx hb hts inlX2 hown hK hP 0 rfl rfl 1 (by decide) (hts _ zw_1_16) (fun _ h9 => h9) rfl dX2_bestRemoval_24 ?_
          refine lv_aload_n hx hb dX2_bestRemoval_27 rfl (lv_at hl 0 rfl) ?_
          refine va_get (D := D) (ci := 2) (v := .ref (hh 0)) (C := RX2) (T := TX2) (N := 8) hx hb hts inlX2 hown hK hP 0 rfl rfl 0 (by decide) (hts _ zw_1_15) (fun _ h9 => h9) rfl dX2_bestRemoval_28 ?_
          obtain ⟨T6, hz7, hM⟩ := zx_b1E hM
          refine va_callv (va_runV (As := [.ref (hh 0)]) (rest := []) ⟨hx, hb, hml, hown, hts⟩ (c_X1_takeOver l D cI cZ cT (hh 1) (aa 1) (S_ 1) (hh 0) (aa 0) (S_ 0) _ N hz7) (cwV 1 hts (zg_V zw_10_13 zw_10_14 zw_10_15 zw_1_14 zw_10_16) rfl rfl rfl ⟨rfl, zyX1_takeOver⟩ ⟨Nat.le_of_ble_eq_true rfl, Nat.le_of_ble_eq_true rfl⟩) ⟨bS_blind, va_recv hK (zx2_P2 (show 1 < 18 by decide) (show 0 < 18 by decide) hP) (ci := 1) (q0 := 0) rfl rfl, bS_pre (zx2_P2 (show 1 < 18 by decide) (show 0 < 18 by decide) hP) hK (zx2_D2 (show 1 < 18 by decide) (show 0 < 18 by decide) (by omega) hD) hN⟩ rfl rfl hl.1 rfl (lv_room (Nat.le_of_ble_eq_true rfl)) dX2_bestRemoval_31 ⟨Nat.zero_le _, Nat.zero_le _⟩) hS (fun q _ h => zx_fW (zx2_D2 (show 1 < 18 by decide) (show 0 < 18 by decide) (by omega) hD) hS hA q h) (fun q h => zx_fW (zx2_D2 (show 1 < 18 by decide) (show 0 < 18 by decide) (by omega) hD) hS hA q h) (fun u t H1 lc ht hvm hw hB hz1 hk1 hS => ?_)
          replace hw : T6 = u := hw; subst hw
          rw [ht] at hB
          replace hP := zx2_S2 (show 1 < 18 by decide) (show 0 < 18 by decide) (by omega) hP hD hk1 hB
          obtain ⟨T8, eT8, hM⟩ := zx_nE hM
          rw [← eT8] at hP
          replace hD := zx2_Da T8 hD
          refine lv_aload_n hx hb dX2_bestRemoval_34 rfl (lv_at hl 0 rfl) ?_
          refine va_get (D := D) (ci := 2) (v := .ref (hh 1)) (C := RX2) (T := TX2) (N := 8) hx hb hts inlX2 hown hK hP 0 rfl rfl 1 (by decide) (hts _ zw_1_16) (fun _ h9 => h9) rfl dX2_bestRemoval_35 ?_
          obtain ⟨T9, hz10, hM⟩ := zx_b1E hM
          refine va_callv (va_runV (As := []) (rest := []) ⟨hx, hb, hml, hown, hts⟩ (c_X1_beginCall l D cI cZ cT (hh 1) (aa 1) (T8 1) _ N hz10) (cwV 0 hts (zg_V zw_11_0 zw_11_1 zw_11_2 zw_1_14 zw_11_3) rfl rfl rfl ⟨rfl, zyX1_beginCall⟩ ⟨Nat.le_of_ble_eq_true rfl, Nat.le_of_ble_eq_true rfl⟩) ⟨bS_blind, va_recv hK (zx2_P (show 1 < 18 by decide) hP) (ci := 1) (q0 := 0) rfl rfl, bS_pre (zx2_P (show 1 < 18 by decide) hP) hK (zx2_D (show 1 < 18 by decide) hD) hN⟩ rfl rfl hl.1 rfl (lv_room (Nat.le_of_ble_eq_true rfl)) dX2_bestRemoval_38 ⟨Nat.zero_le _, Nat.zero_le _⟩) hS (fun q _ h => zx_fW (zx2_D (show 1 < 18 by decide) hD) hS hA q h) (fun q h => zx_fW (zx2_D (show 1 < 18 by decide) hD) hS hA q h) (fun u t H1 lc ht hvm hw hB hz1 hk1 hS => ?_)
          replace hw : T9 = u := hw; subst hw
          rw [ht] at hB
          replace hP := zx2_S (show 1 < 18 by decide) hP hD hk1 hB
          obtain ⟨T11, eT11, hM⟩ := zx_nE hM
          rw [← eT11] at hP
          replace hD := zx2_Da T11 hD
          refine lv_aload_n hx hb dX2_bestRemoval_41 rfl (lv_at hl 0 rfl) ?_
          refine va_get (D := D) (ci := 2) (v := .ref (hh 1)) (C := RX2) (T := TX2) (N := 8) hx hb hts inlX2 hown hK hP 0 rfl rfl 1 (by decide) (hts _ zw_1_16) (fun _ h9 => h9) rfl dX2_bestRemoval_42 ?_
          refine lv_iload_n hx hb dX2_bestRemoval_45 rfl (lv_at hl 3 rfl) ?_
          obtain ⟨T12, hz13, hM⟩ := zx_b1E hM
          refine va_callv (va_runV (As := [.int v3]) (rest := []) ⟨hx, hb, hml, hown, hts⟩ (c_X1_takeOut l D cI cZ cT (hh 1) (aa 1) (T11 1) _ N v3 hz13) (cwV 1 hts (zg_V zw_14_11 zw_14_12 zw_14_13 zw_1_14 zw_14_14) rfl rfl rfl ⟨rfl, zyX1_takeOut⟩ ⟨Nat.le_of_ble_eq_true rfl, Nat.le_of_ble_eq_true rfl⟩) ⟨bS_blind, va_recv hK (zx2_P (show 1 < 18 by decide) hP) (ci := 1) (q0 := 0) rfl rfl, bS_pre (zx2_P (show 1 < 18 by decide) hP) hK (zx2_D (show 1 < 18 by decide) hD) hN⟩ rfl rfl hl.1 rfl (lv_room (Nat.le_of_ble_eq_true rfl)) dX2_bestRemoval_46 ⟨Nat.zero_le _, Nat.zero_le _⟩) hS (fun q _ h => zx_fW (zx2_D (show 1 < 18 by decide) hD) hS hA q h) (fun q h => zx_fW (zx2_D (show 1 < 18 by decide) hD) hS hA q h) (fun u t H1 lc ht hvm hw hB hz1 hk1 hS => ?_)
          replace hw : T12 = u := hw; subst hw
          rw [ht] at hB
          replace hP := zx2_S (show 1 < 18 by decide) hP hD hk1 hB
          obtain ⟨T14, eT14, hM⟩ := zx_nE hM
          rw [← eT14] at hP
          replace hD := zx2_Da T14 hD
          refine lv_aload_n hx hb dX2_bestRemoval_49 rfl (lv_at hl 0 rfl) ?_
          refine va_get (D := D) (ci := 2) (v := .ref (hh 1)) (C := RX2) (T := TX2) (N := 8) hx hb hts inlX2 hown hK hP 0 rfl rfl 1 (by decide) (hts _ zw_1_16) (fun _ h9 => h9) rfl dX2_bestRemoval_50 ?_
          obtain ⟨x15, T16, hz17, hM⟩ := zx_b2E hM
          refine va_calli (va_runV (As := []) (rest := []) ⟨hx, hb, hml, hown, hts⟩ (c_X1_overlap l D cI cZ cT (hh 1) (aa 1) (T14 1) _ N hz17) (cwV 0 hts (zg_V zw_5_18 zw_5_19 zw_5_20 zw_1_14 zw_5_21) rfl rfl rfl ⟨rfl, zyX1_overlap⟩ ⟨Nat.le_of_ble_eq_true rfl, Nat.le_of_ble_eq_true rfl⟩) ⟨bS_blind, va_recv hK (zx2_P (show 1 < 18 by decide) hP) (ci := 1) (q0 := 0) rfl rfl, bS_pre (zx2_P (show 1 < 18 by decide) hP) hK (zx2_D (show 1 < 18 by decide) hD) hN⟩ rfl rfl hl.1 rfl (lv_room (Nat.le_of_ble_eq_true rfl)) dX2_bestRemoval_53 ⟨Nat.zero_le _, Nat.zero_le _⟩) hS (fun q _ h => zx_fW (zx2_D (show 1 < 18 by decide) hD) hS hA q h) (fun q h => zx_fW (zx2_D (show 1 < 18 by decide) hD) hS hA q h) (fun r u t H1 lc ht hvm hw hB hz1 hk1 hS => ?_)
          obtain ⟨hw1, hw2⟩ := Prod.mk.inj hw; subst hw1; subst hw2
          rw [ht] at hB
          replace hP := zx2_S (show 1 < 18 by decide) hP hD hk1 hB
          obtain ⟨T18, eT18, hM⟩ := zx_nE hM
          rw [← eT18] at hP
          replace hD := zx2_Da T18 hD
          refine lv_istore (lv' := [(4, .int x15), (0, .ref h), (1, .int v1), (2, .int v2), (3, .int v3)]) hx hb dX2_bestRemoval_56 hl (by decide) rfl (fun ls hl => ?_)
          refine lv_iload_n hx hb dX2_bestRemoval_58 rfl (lv_at hl 2 rfl) ?_
          refine lv_iconst (v := (-1)) hx hb dX2_bestRemoval_59 (by decide) ?_
          refine lv_icmp_eq (tgt := 69) hx hb dX2_bestRemoval_60 (by decide) (fun q19 => ?_) (fun q19 => ?_)
          · replace hM := zx_t q19 hM
            exact j69 v3 x15 T18 _ _ _ hP hD hS (lv_sub hl [1, 4, 0] rfl) hM
          · replace hM := zx_f q19 hM
            refine lv_iload hx hb dX2_bestRemoval_63 (lv_at hl 0 rfl) ?_
            refine lv_iload_n hx hb dX2_bestRemoval_65 rfl (lv_at hl 3 rfl) ?_
            refine lv_icmp_ge (tgt := 74) hx hb dX2_bestRemoval_66 (by decide) (fun q20 => ?_) (fun q20 => ?_)
            · replace hM := zx_t q20 hM
              exact j74 v1 v2 v3 T18 _ _ _ hP hD hS (lv_sub hl [1, 2, 3, 4] rfl) hM
            · replace hM := zx_f q20 hM
              exact j69 v3 x15 T18 _ _ _ hP hD hS (lv_sub hl [1, 4, 0] rfl) hM
  refine lv_iconst (v := (-1)) hx hb dX2_bestRemoval_0 (by decide) ?_
  refine lv_istore_n (lv' := [(1, .int (-1)), (0, .ref h)]) hx hb dX2_bestRemoval_1 rfl hl (by decide) rfl (fun ls hl => ?_)
  refine lv_iconst (v := 0) hx hb dX2_bestRemoval_2 (by decide) ?_
  refine lv_istore_n (lv' := [(2, .int 0), (1, .int (-1)), (0, .ref h)]) hx hb dX2_bestRemoval_3 rfl hl (by decide) rfl (fun ls hl => ?_)
  refine lv_iconst (v := 0) hx hb dX2_bestRemoval_4 (by decide) ?_
  refine lv_istore_n (lv' := [(3, .int 0), (2, .int 0), (1, .int (-1)), (0, .ref h)]) hx hb dX2_bestRemoval_5 rfl hl (by decide) rfl (fun ls hl => ?_)
  exact l6 N (-1) 0 0 S _ _ _ hP hD hS (lv_sub hl [3, 2, 1, 0] rfl) hM

/-! ShallowBoxes.anew()I -/
def f_X2_anew_j66 (N : Nat) (k9 : Int32 → zx_B → Option (Int32 × zx_B)) (v1 : Int32) (S_ : zx_B) : Option (Int32 × zx_B) :=
  (zx_n (v1 + 1) (fun x6 =>
k9 x6 S_))
def f_X2_anew_l9 (N : Nat) : Nat → Int32 → zx_B → Option (Int32 × zx_B)
  | 0, _, _ => none
  | n9 + 1, v1, S_ => (if 24 ≤ v1 then
  (zx_b2 (f_X1_overlap N (S_ 1)) (fun x2 T3 =>
(zx_n (zx_sb S_ 1 T3) (fun T5 =>
some (x2, T5))))) else
  (zx_b1 (f_X1_hasRectangle N v1 (S_ 0)) (fun x7 =>
(if x7 = 0 then
  f_X2_anew_j66 N (f_X2_anew_l9 N  n9) v1 S_ else
  (zx_b1 (f_X1_corner N v1 0 (S_ 0)) (fun x10 =>
(zx_b1 (f_X1_corner N v1 1 (S_ 0)) (fun x12 =>
(zx_b1 (f_X1_corner N v1 2 (S_ 0)) (fun x14 =>
(zx_b1 (f_X1_corner N v1 3 (S_ 0)) (fun x16 =>
(zx_b1 (f_X2_tryAdding N x10 x12 x14 x16 S_) (fun T18 =>
f_X2_anew_j66 N (f_X2_anew_l9 N  n9) v1 T18))))))))))))))
def f_X2_anew (N : Nat) (S : zx_B) : Option (Int32 × zx_B) :=
  (zx_b1 (f_X1_clear N (S 1)) (fun T20 =>
(zx_n (zx_sb S 1 T20) (fun T22 =>
f_X2_anew_l9 N  N 0 T22))))
abbrev rmX2_anew : Room := { frames := 6, cells := 0, slots := 0, locals := 152 }
abbrev zsX2_anew : List Cond := .code yX2_anew cX2_anew 2 (some .int) :: wsL_law
theorem zyX2_anew : yX2_anew.cls ≠ "java/lang/invoke/MethodHandle" ∧ yX2_anew.cls ≠ "java/lang/invoke/VarHandle" ∧ (parseMethodDescriptor yX2_anew.desc).map (fun d => d.parameters.length) = some 0 := by decide +kernel
set_option maxHeartbeats 4000000 in
set_option maxRecDepth 100000 in
theorem c_X2_anew (l : Launch) (D : va_G) (cI cZ cT : ClassId) (h : Nat) (hh : Nat → Nat) (aa : Nat → Nat → Nat) (S : zx_B) (sz : Nat) (N : Nat) {R : Int32 × zx_B} (hM : f_X2_anew N S = some R) : Met l yX2_anew zsX2_anew rmX2_anew (va_Pc [.ref h] (bS D (zx_ty cI cZ cT) (xW2 cI cT h hh aa S) sz)) (va_Qi (fun r u => R = (r, u)) (fun u t => va_P D vwCl (xW2 cI cT h hh aa u) t.heap) (va_A (xW2 cI cT h hh aa S) sz)) 0 0 (va_A (xW2 cI cT h hh aa S) sz) := by
  refine Met.ofW (cc := cX2_anew) (maxL := 2) (ret := (some .int)) (by decide) rfl ?_
  intro p e s m args below meth c s₁ B hml hv
  obtain ⟨rfl, hsz, hP, hK, hD0, hN⟩ := hv
  have hx := B.exec
  have hb := B.bytes
  have hr := B.returns
  have hts : ∀ w ∈ wsL_law, w.before _ s = true := fun w hw => atoms_spec (ws := zsX2_anew) B.pre w (List.mem_cons_of_mem _ hw)
  have hown : s.vm.findClass RX2 = some m.cls := findClass_of_methodNamed B.named
  have hlocks := B.notSynchronized
  subst hsz
  have hD := hD0.self (sz := s.heap.size)
  generalize hAe : va_A (xW2 cI cT h hh aa S) s.heap.size = A at hD ⊢
  have hA : ∀ q : Nat, s.heap.size ≤ q → A q := fun q h => by rw [← hAe]; exact Or.inr h
  have hS : va_S A s.heap s.heap [] := va_S.rf
  have hl := lv_entry ([.ref h]) (n := 2) (Nat.le_of_ble_eq_true rfl)
  rw [lg_entry_eq]
  generalize (lg_sl ([.ref h]) ++ List.replicate (2 - (lg_sl ([.ref h])).length) Slot.unset).toArray = ls at hl ⊢
  have hl : lv_has ls 2 [(0, .ref h)] := hl
  generalize hQ : MQ below (va_Qi (fun r u => R = (r, u)) (fun u t => va_P D vwCl (xW2 cI cT h hh aa u) t.heap) A) ([.ref h] : List Value).toArray s 0 0 A = Q9
  replace hQ := hQ.symm
  unfold f_X2_anew at hM
  have l9 : ∀ (n9 : Nat) (v1 : Int32) (S_ : zx_B) (H : Heap) (lc : List Loc) (ls : Array Slot), va_P D vwCl (xW2 cI cT h hh aa S_) H → va_D A (xW2 cI cT h hh aa S_) → va_S A s.heap H lc → lv_has ls 2 [(0, .ref h), (1, .int v1)] → f_X2_anew_l9 N n9 v1 S_ = some R → W p l e (headSpec zsX2_anew rmX2_anew).room s m ([.ref h] : List Value).toArray below meth c H lc 0 0 Q9 (F0 m 9 ls []) := by
    intro n9
    induction n9 with
    | zero =>
      intro v1 S_ H lc ls hP hD hS hl hM
      rw [f_X2_anew_l9] at hM; exact absurd hM (by intro h; cases h)
    | succ n9 ih9 =>
      intro v1 S_ H lc ls hP hD hS hl hM
      rw [f_X2_anew_l9] at hM
      refine lv_iload_n hx hb dX2_anew_9 rfl (lv_at hl 1 rfl) ?_
      refine lv_bipush (v := 24) hx hb dX2_anew_10 (by decide) ?_
      refine lv_icmp_ge (tgt := 72) hx hb dX2_anew_12 (by decide) (fun q1 => ?_) (fun q1 => ?_)
      · replace hM := zx_t q1 hM
        refine lv_aload_n hx hb dX2_anew_72 rfl (lv_at hl 0 rfl) ?_
        refine va_get (D := D) (ci := 2) (v := .ref (hh 1)) (C := RX2) (T := TX2) (N := 8) hx hb hts inlX2 hown hK hP 0 rfl rfl 1 (by decide) (hts _ zw_1_16) (fun _ h9 => h9) rfl dX2_anew_73 ?_
        obtain ⟨x2, T3, hz4, hM⟩ := zx_b2E hM
        refine va_calli (va_runV (As := []) (rest := []) ⟨hx, hb, hml, hown, hts⟩ (c_X1_overlap l D cI cZ cT (hh 1) (aa 1) (S_ 1) _ N hz4) (cwV 0 hts (zg_V zw_5_18 zw_5_19 zw_5_20 zw_1_14 zw_5_21) rfl rfl rfl ⟨rfl, zyX1_overlap⟩ ⟨Nat.le_of_ble_eq_true rfl, Nat.le_of_ble_eq_true rfl⟩) ⟨bS_blind, va_recv hK (zx2_P (show 1 < 18 by decide) hP) (ci := 1) (q0 := 0) rfl rfl, bS_pre (zx2_P (show 1 < 18 by decide) hP) hK (zx2_D (show 1 < 18 by decide) hD) hN⟩ rfl rfl hl.1 rfl (lv_room (Nat.le_of_ble_eq_true rfl)) dX2_anew_76 ⟨Nat.zero_le _, Nat.zero_le _⟩) hS (fun q _ h => zx_fW (zx2_D (show 1 < 18 by decide) hD) hS hA q h) (fun q h => zx_fW (zx2_D (show 1 < 18 by decide) hD) hS hA q h) (fun r u t H1 lc ht hvm hw hB hz1 hk1 hS => ?_)
        obtain ⟨hw1, hw2⟩ := Prod.mk.inj hw; subst hw1; subst hw2
        rw [ht] at hB
        replace hP := zx2_S (show 1 < 18 by decide) hP hD hk1 hB
        obtain ⟨T5, eT5, hM⟩ := zx_nE hM
        rw [← eT5] at hP
        replace hD := zx2_Da T5 hD
        rw [hQ]
        exact W.iret hx hb hr (fun t ht hW => ⟨⟨x2, T5, rfl, (Option.some.inj hM).symm, by show va_P D vwCl _ t.heap; rw [ht]; exact hP⟩, hS.F ht⟩) hS.2.2 dX2_anew_79
      · replace hM := zx_f q1 hM
        have j66 : ∀ (v1 : Int32) (S_ : zx_B) (H : Heap) (lc : List Loc) (ls : Array Slot), va_P D vwCl (xW2 cI cT h hh aa S_) H → va_D A (xW2 cI cT h hh aa S_) → va_S A s.heap H lc → lv_has ls 2 [(0, .ref h), (1, .int v1)] → f_X2_anew_j66 N (f_X2_anew_l9 N  n9) v1 S_ = some R → W p l e (headSpec zsX2_anew rmX2_anew).room s m ([.ref h] : List Value).toArray below meth c H lc 0 0 Q9 (F0 m 66 ls []) := by
          intro v1 S_ H lc ls hP hD hS hl hM
          unfold f_X2_anew_j66 at hM
          obtain ⟨x6, ex6, hM⟩ := zx_nE hM
          refine lv_iinc (v := x6) (lv' := [(1, .int x6), (0, .ref h)]) hx hb dX2_anew_66 hl (k := 1) rfl (by rw [ex6]; rfl) (by decide) rfl (fun ls hl => ?_)
          refine lv_goto (tgt := 9) hx hb dX2_anew_69 (by decide) ?_
          exact ih9 x6 S_ _ _ _ hP hD hS (lv_sub hl [1, 0] rfl) hM
        refine lv_aload_n hx hb dX2_anew_15 rfl (lv_at hl 0 rfl) ?_
        refine va_get (D := D) (ci := 2) (v := .ref (hh 0)) (C := RX2) (T := TX2) (N := 8) hx hb hts inlX2 hown hK hP 0 rfl rfl 0 (by decide) (hts _ zw_1_15) (fun _ h9 => h9) rfl dX2_anew_16 ?_
        refine lv_iload_n hx hb dX2_anew_19 rfl (lv_at hl 1 rfl) ?_
        obtain ⟨x7, hz8, hM⟩ := zx_b1E hM
        refine va_calli (va_runV (As := [.int v1]) (rest := []) ⟨hx, hb, hml, hown, hts⟩ (c_X1_hasRectangle l D cI cZ cT (hh 0) (aa 0) (S_ 0) _ N v1 hz8) (cwV 1 hts (zg_V zw_7_8 zw_7_9 zw_7_10 zw_1_14 zw_7_11) rfl rfl rfl ⟨rfl, zyX1_hasRectangle⟩ ⟨Nat.le_of_ble_eq_true rfl, Nat.le_of_ble_eq_true rfl⟩) ⟨bS_blind, va_recv hK (zx2_P (show 0 < 18 by decide) hP) (ci := 1) (q0 := 0) rfl rfl, bS_pre (zx2_P (show 0 < 18 by decide) hP) hK (zx2_D (show 0 < 18 by decide) hD) hN⟩ rfl rfl hl.1 rfl (lv_room (Nat.le_of_ble_eq_true rfl)) dX2_anew_20 ⟨Nat.zero_le _, Nat.zero_le _⟩) hS (fun q h1 h2 => absurd h1 (Nat.not_lt.mpr h2)) (fun q h => hA q (Nat.le_trans hS.1 h)) (fun r u t H1 lc ht hvm hw hB hz1 hk1 hS => ?_)
        replace hw : x7 = r := hw; subst hw
        replace hP := zx_keep hP hk1
        refine lv_if_eq (tgt := 66) hx hb dX2_anew_23 (by decide) (fun q9 => ?_) (fun q9 => ?_)
        · replace hM := zx_t q9 hM
          exact j66 v1 S_ _ _ _ hP hD hS (lv_sub hl [0, 1] rfl) hM
        · replace hM := zx_f q9 hM
          refine lv_aload_n hx hb dX2_anew_26 rfl (lv_at hl 0 rfl) ?_
          refine lv_aload_n hx hb dX2_anew_27 rfl (lv_at hl 0 rfl) ?_
          refine va_get (D := D) (ci := 2) (v := .ref (hh 0)) (C := RX2) (T := TX2) (N := 8) hx hb hts inlX2 hown hK hP 0 rfl rfl 0 (by decide) (hts _ zw_1_15) (fun _ h9 => h9) rfl dX2_anew_28 ?_
          refine lv_iload_n hx hb dX2_anew_31 rfl (lv_at hl 1 rfl) ?_
          refine lv_iconst (v := 0) hx hb dX2_anew_32 (by decide) ?_
          obtain ⟨x10, hz11, hM⟩ := zx_b1E hM
          refine va_calli (va_runV (As := [.int v1, .int 0]) (rest := [.ref h]) ⟨hx, hb, hml, hown, hts⟩ (c_X1_corner l D cI cZ cT (hh 0) (aa 0) (S_ 0) _ N v1 0 hz11) (cwV 2 hts (zg_V zw_7_20 zw_7_21 zw_7_22 zw_1_14 zw_7_23) rfl rfl rfl ⟨rfl, zyX1_corner⟩ ⟨Nat.le_of_ble_eq_true rfl, Nat.le_of_ble_eq_true rfl⟩) ⟨bS_blind, va_recv hK (zx2_P (show 0 < 18 by decide) hP) (ci := 1) (q0 := 0) rfl rfl, bS_pre (zx2_P (show 0 < 18 by decide) hP) hK (zx2_D (show 0 < 18 by decide) hD) hN⟩ rfl rfl hl.1 rfl (lv_room (Nat.le_of_ble_eq_true rfl)) dX2_anew_33 ⟨Nat.zero_le _, Nat.zero_le _⟩) hS (fun q h1 h2 => absurd h1 (Nat.not_lt.mpr h2)) (fun q h => hA q (Nat.le_trans hS.1 h)) (fun r u t H1 lc ht hvm hw hB hz1 hk1 hS => ?_)
          replace hw : x10 = r := hw; subst hw
          replace hP := zx_keep hP hk1
          refine lv_aload_n hx hb dX2_anew_36 rfl (lv_at hl 0 rfl) ?_
          refine va_get (D := D) (ci := 2) (v := .ref (hh 0)) (C := RX2) (T := TX2) (N := 8) hx hb hts inlX2 hown hK hP 0 rfl rfl 0 (by decide) (hts _ zw_1_15) (fun _ h9 => h9) rfl dX2_anew_37 ?_
          refine lv_iload_n hx hb dX2_anew_40 rfl (lv_at hl 1 rfl) ?_
          refine lv_iconst (v := 1) hx hb dX2_anew_41 (by decide) ?_
          obtain ⟨x12, hz13, hM⟩ := zx_b1E hM
          refine va_calli (va_runV (As := [.int v1, .int 1]) (rest := [.int x10, .ref h]) ⟨hx, hb, hml, hown, hts⟩ (c_X1_corner l D cI cZ cT (hh 0) (aa 0) (S_ 0) _ N v1 1 hz13) (cwV 2 hts (zg_V zw_7_20 zw_7_21 zw_7_22 zw_1_14 zw_7_23) rfl rfl rfl ⟨rfl, zyX1_corner⟩ ⟨Nat.le_of_ble_eq_true rfl, Nat.le_of_ble_eq_true rfl⟩) ⟨bS_blind, va_recv hK (zx2_P (show 0 < 18 by decide) hP) (ci := 1) (q0 := 0) rfl rfl, bS_pre (zx2_P (show 0 < 18 by decide) hP) hK (zx2_D (show 0 < 18 by decide) hD) hN⟩ rfl rfl hl.1 rfl (lv_room (Nat.le_of_ble_eq_true rfl)) dX2_anew_42 ⟨Nat.zero_le _, Nat.zero_le _⟩) hS (fun q h1 h2 => absurd h1 (Nat.not_lt.mpr h2)) (fun q h => hA q (Nat.le_trans hS.1 h)) (fun r u t H1 lc ht hvm hw hB hz1 hk1 hS => ?_)
          replace hw : x12 = r := hw; subst hw
          replace hP := zx_keep hP hk1
          refine lv_aload_n hx hb dX2_anew_45 rfl (lv_at hl 0 rfl) ?_
          refine va_get (D := D) (ci := 2) (v := .ref (hh 0)) (C := RX2) (T := TX2) (N := 8) hx hb hts inlX2 hown hK hP 0 rfl rfl 0 (by decide) (hts _ zw_1_15) (fun _ h9 => h9) rfl dX2_anew_46 ?_
          refine lv_iload_n hx hb dX2_anew_49 rfl (lv_at hl 1 rfl) ?_
          refine lv_iconst (v := 2) hx hb dX2_anew_50 (by decide) ?_
          obtain ⟨x14, hz15, hM⟩ := zx_b1E hM
          refine va_calli (va_runV (As := [.int v1, .int 2]) (rest := [.int x12, .int x10, .ref h]) ⟨hx, hb, hml, hown, hts⟩ (c_X1_corner l D cI cZ cT (hh 0) (aa 0) (S_ 0) _ N v1 2 hz15) (cwV 2 hts (zg_V zw_7_20 zw_7_21 zw_7_22 zw_1_14 zw_7_23) rfl rfl rfl ⟨rfl, zyX1_corner⟩ ⟨Nat.le_of_ble_eq_true rfl, Nat.le_of_ble_eq_true rfl⟩) ⟨bS_blind, va_recv hK (zx2_P (show 0 < 18 by decide) hP) (ci := 1) (q0 := 0) rfl rfl, bS_pre (zx2_P (show 0 < 18 by decide) hP) hK (zx2_D (show 0 < 18 by decide) hD) hN⟩ rfl rfl hl.1 rfl (lv_room (Nat.le_of_ble_eq_true rfl)) dX2_anew_51 ⟨Nat.zero_le _, Nat.zero_le _⟩) hS (fun q h1 h2 => absurd h1 (Nat.not_lt.mpr h2)) (fun q h => hA q (Nat.le_trans hS.1 h)) (fun r u t H1 lc ht hvm hw hB hz1 hk1 hS => ?_)
          replace hw : x14 = r := hw; subst hw
          replace hP := zx_keep hP hk1
          refine lv_aload_n hx hb dX2_anew_54 rfl (lv_at hl 0 rfl) ?_
          refine va_get (D := D) (ci := 2) (v := .ref (hh 0)) (C := RX2) (T := TX2) (N := 8) hx hb hts inlX2 hown hK hP 0 rfl rfl 0 (by decide) (hts _ zw_1_15) (fun _ h9 => h9) rfl dX2_anew_55 ?_
          refine lv_iload_n hx hb dX2_anew_58 rfl (lv_at hl 1 rfl) ?_
          refine lv_iconst (v := 3) hx hb dX2_anew_59 (by decide) ?_
          obtain ⟨x16, hz17, hM⟩ := zx_b1E hM
          refine va_calli (va_runV (As := [.int v1, .int 3]) (rest := [.int x14, .int x12, .int x10, .ref h]) ⟨hx, hb, hml, hown, hts⟩ (c_X1_corner l D cI cZ cT (hh 0) (aa 0) (S_ 0) _ N v1 3 hz17) (cwV 2 hts (zg_V zw_7_20 zw_7_21 zw_7_22 zw_1_14 zw_7_23) rfl rfl rfl ⟨rfl, zyX1_corner⟩ ⟨Nat.le_of_ble_eq_true rfl, Nat.le_of_ble_eq_true rfl⟩) ⟨bS_blind, va_recv hK (zx2_P (show 0 < 18 by decide) hP) (ci := 1) (q0 := 0) rfl rfl, bS_pre (zx2_P (show 0 < 18 by decide) hP) hK (zx2_D (show 0 < 18 by decide) hD) hN⟩ rfl rfl hl.1 rfl (lv_room (Nat.le_of_ble_eq_true rfl)) dX2_anew_60 ⟨Nat.zero_le _, Nat.zero_le _⟩) hS (fun q h1 h2 => absurd h1 (Nat.not_lt.mpr h2)) (fun q h => hA q (Nat.le_trans hS.1 h)) (fun r u t H1 lc ht hvm hw hB hz1 hk1 hS => ?_)
          replace hw : x16 = r := hw; subst hw
          replace hP := zx_keep hP hk1
          obtain ⟨T18, hz19, hM⟩ := zx_b1E hM
          refine va_callv (va_runV (As := [.int x10, .int x12, .int x14, .int x16]) (rest := []) ⟨hx, hb, hml, hown, hts⟩ (c_X2_tryAdding l D cI cZ cT h hh aa S_ _ N x10 x12 x14 x16 hz19) (cwV 4 hts (zg_V zw_19_8 zw_19_9 zw_19_10 zw_1_2 zw_19_11) rfl rfl rfl ⟨rfl, zyX2_tryAdding⟩ ⟨Nat.le_of_ble_eq_true rfl, Nat.le_of_ble_eq_true rfl⟩) ⟨bS_blind, va_recv hK hP (ci := 2) (q0 := 0) rfl rfl, bS_pre hP hK hD hN⟩ rfl rfl hl.1 rfl (lv_room (Nat.le_of_ble_eq_true rfl)) dX2_anew_63 ⟨Nat.zero_le _, Nat.zero_le _⟩) hS (fun q _ h => zx_fW hD hS hA q h) (fun q h => zx_fW hD hS hA q h) (fun u t H1 lc ht hvm hw hB hz1 hk1 hS => ?_)
          replace hw : T18 = u := hw; subst hw
          rw [ht] at hB
          replace hP := hB
          replace hD := zx2_Da T18 hD
          exact j66 v1 T18 _ _ _ hP hD hS (lv_sub hl [0, 1] rfl) hM
  refine lv_aload_n hx hb dX2_anew_0 rfl (lv_at hl 0 rfl) ?_
  refine va_get (D := D) (ci := 2) (v := .ref (hh 1)) (C := RX2) (T := TX2) (N := 8) hx hb hts inlX2 hown hK hP 0 rfl rfl 1 (by decide) (hts _ zw_1_16) (fun _ h9 => h9) rfl dX2_anew_1 ?_
  obtain ⟨T20, hz21, hM⟩ := zx_b1E hM
  refine va_callv (va_runV (As := []) (rest := []) ⟨hx, hb, hml, hown, hts⟩ (c_X1_clear l D cI cZ cT (hh 1) (aa 1) (S 1) _ N hz21) (cwV 0 hts (zg_V zw_22_3 zw_2_16 zw_2_17 zw_1_14 zw_2_18) rfl rfl rfl ⟨rfl, zyX1_clear⟩ ⟨Nat.le_of_ble_eq_true rfl, Nat.le_of_ble_eq_true rfl⟩) ⟨bS_blind, va_recv hK (zx2_P (show 1 < 18 by decide) hP) (ci := 1) (q0 := 0) rfl rfl, bS_pre (zx2_P (show 1 < 18 by decide) hP) hK (zx2_D (show 1 < 18 by decide) hD) hN⟩ rfl rfl hl.1 rfl (lv_room (Nat.le_of_ble_eq_true rfl)) dX2_anew_4 ⟨Nat.zero_le _, Nat.zero_le _⟩) hS (fun q _ h => zx_fW (zx2_D (show 1 < 18 by decide) hD) hS hA q h) (fun q h => zx_fW (zx2_D (show 1 < 18 by decide) hD) hS hA q h) (fun u t H1 lc ht hvm hw hB hz1 hk1 hS => ?_)
  replace hw : T20 = u := hw; subst hw
  rw [ht] at hB
  replace hP := zx2_S (show 1 < 18 by decide) hP hD hk1 hB
  obtain ⟨T22, eT22, hM⟩ := zx_nE hM
  rw [← eT22] at hP
  replace hD := zx2_Da T22 hD
  refine lv_iconst (v := 0) hx hb dX2_anew_7 (by decide) ?_
  refine lv_istore_n (lv' := [(1, .int 0), (0, .ref h)]) hx hb dX2_anew_8 rfl hl (by decide) rfl (fun ls hl => ?_)
  exact l9 N 0 T22 _ _ _ hP hD hS (lv_sub hl [1, 0] rfl) hM

/-! ShallowBoxes.holds(IIIII)Z -/
def f_X2_holds (N : Nat) (p1 : Int32) (p2 : Int32) (p3 : Int32) (p4 : Int32) (p5 : Int32) (S : zx_B) : Option (Int32 × zx_B) :=
  (if p1 = 5 then
  (if p2 = 0 then
  (if p3 = 0 then
  (if p4 = 0 then
  (zx_b2 (f_X1_countNodes N (S 1)) (fun x5 T6 =>
(zx_n (zx_sb S 1 T6) (fun T8 =>
(if p5 < x5 then
  some (0, T8) else
  some (1, T8)))))) else
  some (0, S)) else
  some (0, S)) else
  some (0, S)) else
(if p1 = 6 then
  (if p2 = 0 then
  (if 10 ≤ p3 then
  some (0, S) else
  (zx_b2 (f_X1_overlap N (S 1)) (fun x13 T14 =>
(zx_n (zx_sb S 1 T14) (fun T16 =>
(if ((((p3 * 100) + p4) * 100) + p5) < x13 then
  some (0, T16) else
  some (1, T16))))))) else
  some (0, S)) else
(if p1 = 7 then
  (if p5 = 0 then
  (zx_b1 (f_X1_hasRectangle N p4 (S 1)) (fun x20 =>
(if x20 = 0 then
  some (0, S) else
  (zx_b1 (f_X1_ranked N p2 p3 0 (S 1)) (fun x23 =>
(if x23 = p4 then
  some (1, S) else
  some (0, S))))))) else
  some (0, S)) else
(if p1 = 8 then
  (if p5 = 0 then
  (zx_b1 (f_X1_hasRectangle N p4 (S 1)) (fun x28 =>
(if x28 = 0 then
  some (0, S) else
  (zx_b1 (f_X1_distance N p4 p2 p3 (S 1)) (fun x31 =>
(if x31 = 0 then
  some (1, S) else
  some (0, S))))))) else
  some (0, S)) else
some (0, S)))))
abbrev rmX2_holds : Room := { frames := 5, cells := 0, slots := 0, locals := 119 }
abbrev zsX2_holds : List Cond := .code yX2_holds cX2_holds 6 (some .boolean) :: wsL_law
theorem zyX2_holds : yX2_holds.cls ≠ "java/lang/invoke/MethodHandle" ∧ yX2_holds.cls ≠ "java/lang/invoke/VarHandle" ∧ (parseMethodDescriptor yX2_holds.desc).map (fun d => d.parameters.length) = some 5 := by decide +kernel
set_option maxHeartbeats 4000000 in
set_option maxRecDepth 100000 in
theorem c_X2_holds (l : Launch) (D : va_G) (cI cZ cT : ClassId) (h : Nat) (hh : Nat → Nat) (aa : Nat → Nat → Nat) (S : zx_B) (sz : Nat) (N : Nat) (p1 : Int32) (p2 : Int32) (p3 : Int32) (p4 : Int32) (p5 : Int32) {R : Int32 × zx_B} (hM : f_X2_holds N p1 p2 p3 p4 p5 S = some R) : Met l yX2_holds zsX2_holds rmX2_holds (va_Pc [.ref h, .int p1, .int p2, .int p3, .int p4, .int p5] (bS D (zx_ty cI cZ cT) (xW2 cI cT h hh aa S) sz)) (va_Qi (fun r u => R = (r, u)) (fun u t => va_P D vwCl (xW2 cI cT h hh aa u) t.heap) (va_A (xW2 cI cT h hh aa S) sz)) 0 0 (va_A (xW2 cI cT h hh aa S) sz) := by
  refine Met.ofW (cc := cX2_holds) (maxL := 6) (ret := (some .boolean)) (by decide) rfl ?_
  intro p e s m args below meth c s₁ B hml hv
  obtain ⟨rfl, hsz, hP, hK, hD0, hN⟩ := hv
  have hx := B.exec
  have hb := B.bytes
  have hr := B.returns
  have hts : ∀ w ∈ wsL_law, w.before _ s = true := fun w hw => atoms_spec (ws := zsX2_holds) B.pre w (List.mem_cons_of_mem _ hw)
  have hown : s.vm.findClass RX2 = some m.cls := findClass_of_methodNamed B.named
  have hlocks := B.notSynchronized
  subst hsz
  have hD := hD0.self (sz := s.heap.size)
  generalize hAe : va_A (xW2 cI cT h hh aa S) s.heap.size = A at hD ⊢
  have hA : ∀ q : Nat, s.heap.size ≤ q → A q := fun q h => by rw [← hAe]; exact Or.inr h
  have hS : va_S A s.heap s.heap [] := va_S.rf
  have hl := lv_entry ([.ref h, .int p1, .int p2, .int p3, .int p4, .int p5]) (n := 6) (Nat.le_of_ble_eq_true rfl)
  rw [lg_entry_eq]
  generalize (lg_sl ([.ref h, .int p1, .int p2, .int p3, .int p4, .int p5]) ++ List.replicate (6 - (lg_sl ([.ref h, .int p1, .int p2, .int p3, .int p4, .int p5])).length) Slot.unset).toArray = ls at hl ⊢
  have hl : lv_has ls 6 [(0, .ref h), (1, .int p1), (2, .int p2), (3, .int p3), (4, .int p4), (5, .int p5)] := hl
  generalize hQ : MQ below (va_Qi (fun r u => R = (r, u)) (fun u t => va_P D vwCl (xW2 cI cT h hh aa u) t.heap) A) ([.ref h, .int p1, .int p2, .int p3, .int p4, .int p5] : List Value).toArray s 0 0 A = Q9
  replace hQ := hQ.symm
  unfold f_X2_holds at hM
  refine lv_iload_n hx hb dX2_holds_0 rfl (lv_at hl 1 rfl) ?_
  by_cases q1 : p1 = 5
  · replace hM := zx_t q1 hM
    refine lv_tableIn (tgt := 32) hx hb dX2_holds_1 (by rw [q1]; decide) (by rw [q1]; decide) (by rw [q1]; rfl) (by decide) ?_
    refine lv_iload_n hx hb dX2_holds_32 rfl (lv_at hl 2 rfl) ?_
    refine lv_if_ne (tgt := 61) hx hb dX2_holds_33 (by decide) (fun q2 => ?_) (fun q2 => ?_)
    · replace hM := zx_f q2 hM
      refine lv_iconst (v := 0) hx hb dX2_holds_61 (by decide) ?_
      rw [hQ]
      exact W.zret hx hb hr (by rfl) (fun t ht hW => ⟨⟨0, S, rfl, (Option.some.inj hM).symm, by show va_P D vwCl _ t.heap; rw [ht]; exact hP⟩, hS.F ht⟩) hS.2.2 dX2_holds_62
    · replace hM := zx_t q2 hM
      refine lv_iload_n hx hb dX2_holds_36 rfl (lv_at hl 3 rfl) ?_
      refine lv_if_ne (tgt := 61) hx hb dX2_holds_37 (by decide) (fun q3 => ?_) (fun q3 => ?_)
      · replace hM := zx_f q3 hM
        refine lv_iconst (v := 0) hx hb dX2_holds_61 (by decide) ?_
        rw [hQ]
        exact W.zret hx hb hr (by rfl) (fun t ht hW => ⟨⟨0, S, rfl, (Option.some.inj hM).symm, by show va_P D vwCl _ t.heap; rw [ht]; exact hP⟩, hS.F ht⟩) hS.2.2 dX2_holds_62
      · replace hM := zx_t q3 hM
        refine lv_iload hx hb dX2_holds_40 (lv_at hl 4 rfl) ?_
        refine lv_if_ne (tgt := 61) hx hb dX2_holds_42 (by decide) (fun q4 => ?_) (fun q4 => ?_)
        · replace hM := zx_f q4 hM
          refine lv_iconst (v := 0) hx hb dX2_holds_61 (by decide) ?_
          rw [hQ]
          exact W.zret hx hb hr (by rfl) (fun t ht hW => ⟨⟨0, S, rfl, (Option.some.inj hM).symm, by show va_P D vwCl _ t.heap; rw [ht]; exact hP⟩, hS.F ht⟩) hS.2.2 dX2_holds_62
        · replace hM := zx_t q4 hM
          refine lv_aload_n hx hb dX2_holds_45 rfl (lv_at hl 0 rfl) ?_
          refine va_get (D := D) (ci := 2) (v := .ref (hh 1)) (C := RX2) (T := TX2) (N := 8) hx hb hts inlX2 hown hK hP 0 rfl rfl 1 (by decide) (hts _ zw_1_16) (fun _ h9 => h9) rfl dX2_holds_46 ?_
          obtain ⟨x5, T6, hz7, hM⟩ := zx_b2E hM
          refine va_calli (va_runV (As := []) (rest := []) ⟨hx, hb, hml, hown, hts⟩ (c_X1_countNodes l D cI cZ cT (hh 1) (aa 1) (S 1) _ N hz7) (cwV 0 hts (zg_V zw_5_10 zw_5_11 zw_5_12 zw_1_14 zw_5_13) rfl rfl rfl ⟨rfl, zyX1_countNodes⟩ ⟨Nat.le_of_ble_eq_true rfl, Nat.le_of_ble_eq_true rfl⟩) ⟨bS_blind, va_recv hK (zx2_P (show 1 < 18 by decide) hP) (ci := 1) (q0 := 0) rfl rfl, bS_pre (zx2_P (show 1 < 18 by decide) hP) hK (zx2_D (show 1 < 18 by decide) hD) hN⟩ rfl rfl hl.1 rfl (lv_room (Nat.le_of_ble_eq_true rfl)) dX2_holds_49 ⟨Nat.zero_le _, Nat.zero_le _⟩) hS (fun q _ h => zx_fW (zx2_D (show 1 < 18 by decide) hD) hS hA q h) (fun q h => zx_fW (zx2_D (show 1 < 18 by decide) hD) hS hA q h) (fun r u t H1 lc ht hvm hw hB hz1 hk1 hS => ?_)
          obtain ⟨hw1, hw2⟩ := Prod.mk.inj hw; subst hw1; subst hw2
          rw [ht] at hB
          replace hP := zx2_S (show 1 < 18 by decide) hP hD hk1 hB
          obtain ⟨T8, eT8, hM⟩ := zx_nE hM
          rw [← eT8] at hP
          replace hD := zx2_Da T8 hD
          refine lv_iload hx hb dX2_holds_52 (lv_at hl 5 rfl) ?_
          refine lv_icmp_gt (tgt := 61) hx hb dX2_holds_54 (by decide) (fun q9 => ?_) (fun q9 => ?_)
          · replace hM := zx_t q9 hM
            refine lv_iconst (v := 0) hx hb dX2_holds_61 (by decide) ?_
            rw [hQ]
            exact W.zret hx hb hr (by rfl) (fun t ht hW => ⟨⟨0, T8, rfl, (Option.some.inj hM).symm, by show va_P D vwCl _ t.heap; rw [ht]; exact hP⟩, hS.F ht⟩) hS.2.2 dX2_holds_62
          · replace hM := zx_f q9 hM
            refine lv_iconst (v := 1) hx hb dX2_holds_57 (by decide) ?_
            refine lv_goto (tgt := 62) hx hb dX2_holds_58 (by decide) ?_
            rw [hQ]
            exact W.zret hx hb hr (by rfl) (fun t ht hW => ⟨⟨1, T8, rfl, (Option.some.inj hM).symm, by show va_P D vwCl _ t.heap; rw [ht]; exact hP⟩, hS.F ht⟩) hS.2.2 dX2_holds_62
  · replace hM := zx_f q1 hM
    by_cases q10 : p1 = 6
    · replace hM := zx_t q10 hM
      refine lv_tableIn (tgt := 63) hx hb dX2_holds_1 (by rw [q10]; decide) (by rw [q10]; decide) (by rw [q10]; rfl) (by decide) ?_
      refine lv_iload_n hx hb dX2_holds_63 rfl (lv_at hl 2 rfl) ?_
      refine lv_if_ne (tgt := 100) hx hb dX2_holds_64 (by decide) (fun q11 => ?_) (fun q11 => ?_)
      · replace hM := zx_f q11 hM
        refine lv_iconst (v := 0) hx hb dX2_holds_100 (by decide) ?_
        rw [hQ]
        exact W.zret hx hb hr (by rfl) (fun t ht hW => ⟨⟨0, S, rfl, (Option.some.inj hM).symm, by show va_P D vwCl _ t.heap; rw [ht]; exact hP⟩, hS.F ht⟩) hS.2.2 dX2_holds_101
      · replace hM := zx_t q11 hM
        refine lv_iload_n hx hb dX2_holds_67 rfl (lv_at hl 3 rfl) ?_
        refine lv_bipush (v := 10) hx hb dX2_holds_68 (by decide) ?_
        refine lv_icmp_ge (tgt := 100) hx hb dX2_holds_70 (by decide) (fun q12 => ?_) (fun q12 => ?_)
        · replace hM := zx_t q12 hM
          refine lv_iconst (v := 0) hx hb dX2_holds_100 (by decide) ?_
          rw [hQ]
          exact W.zret hx hb hr (by rfl) (fun t ht hW => ⟨⟨0, S, rfl, (Option.some.inj hM).symm, by show va_P D vwCl _ t.heap; rw [ht]; exact hP⟩, hS.F ht⟩) hS.2.2 dX2_holds_101
        · replace hM := zx_f q12 hM
          refine lv_aload_n hx hb dX2_holds_73 rfl (lv_at hl 0 rfl) ?_
          refine va_get (D := D) (ci := 2) (v := .ref (hh 1)) (C := RX2) (T := TX2) (N := 8) hx hb hts inlX2 hown hK hP 0 rfl rfl 1 (by decide) (hts _ zw_1_16) (fun _ h9 => h9) rfl dX2_holds_74 ?_
          obtain ⟨x13, T14, hz15, hM⟩ := zx_b2E hM
          refine va_calli (va_runV (As := []) (rest := []) ⟨hx, hb, hml, hown, hts⟩ (c_X1_overlap l D cI cZ cT (hh 1) (aa 1) (S 1) _ N hz15) (cwV 0 hts (zg_V zw_5_18 zw_5_19 zw_5_20 zw_1_14 zw_5_21) rfl rfl rfl ⟨rfl, zyX1_overlap⟩ ⟨Nat.le_of_ble_eq_true rfl, Nat.le_of_ble_eq_true rfl⟩) ⟨bS_blind, va_recv hK (zx2_P (show 1 < 18 by decide) hP) (ci := 1) (q0 := 0) rfl rfl, bS_pre (zx2_P (show 1 < 18 by decide) hP) hK (zx2_D (show 1 < 18 by decide) hD) hN⟩ rfl rfl hl.1 rfl (lv_room (Nat.le_of_ble_eq_true rfl)) dX2_holds_77 ⟨Nat.zero_le _, Nat.zero_le _⟩) hS (fun q _ h => zx_fW (zx2_D (show 1 < 18 by decide) hD) hS hA q h) (fun q h => zx_fW (zx2_D (show 1 < 18 by decide) hD) hS hA q h) (fun r u t H1 lc ht hvm hw hB hz1 hk1 hS => ?_)
          obtain ⟨hw1, hw2⟩ := Prod.mk.inj hw; subst hw1; subst hw2
          rw [ht] at hB
          replace hP := zx2_S (show 1 < 18 by decide) hP hD hk1 hB
          obtain ⟨T16, eT16, hM⟩ := zx_nE hM
          rw [← eT16] at hP
          replace hD := zx2_Da T16 hD
          refine lv_iload_n hx hb dX2_holds_80 rfl (lv_at hl 3 rfl) ?_
          refine lv_bipush (v := 100) hx hb dX2_holds_81 (by decide) ?_
          refine lv_imul hx hb dX2_holds_83 ?_
          refine lv_iload hx hb dX2_holds_84 (lv_at hl 4 rfl) ?_
          refine lv_iadd hx hb dX2_holds_86 ?_
          refine lv_bipush (v := 100) hx hb dX2_holds_87 (by decide) ?_
          refine lv_imul hx hb dX2_holds_89 ?_
          refine lv_iload hx hb dX2_holds_90 (lv_at hl 5 rfl) ?_
          refine lv_iadd hx hb dX2_holds_92 ?_
          refine lv_icmp_gt (tgt := 100) hx hb dX2_holds_93 (by decide) (fun q17 => ?_) (fun q17 => ?_)
          · replace hM := zx_t q17 hM
            refine lv_iconst (v := 0) hx hb dX2_holds_100 (by decide) ?_
            rw [hQ]
            exact W.zret hx hb hr (by rfl) (fun t ht hW => ⟨⟨0, T16, rfl, (Option.some.inj hM).symm, by show va_P D vwCl _ t.heap; rw [ht]; exact hP⟩, hS.F ht⟩) hS.2.2 dX2_holds_101
          · replace hM := zx_f q17 hM
            refine lv_iconst (v := 1) hx hb dX2_holds_96 (by decide) ?_
            refine lv_goto (tgt := 101) hx hb dX2_holds_97 (by decide) ?_
            rw [hQ]
            exact W.zret hx hb hr (by rfl) (fun t ht hW => ⟨⟨1, T16, rfl, (Option.some.inj hM).symm, by show va_P D vwCl _ t.heap; rw [ht]; exact hP⟩, hS.F ht⟩) hS.2.2 dX2_holds_101
    · replace hM := zx_f q10 hM
      by_cases q18 : p1 = 7
      · replace hM := zx_t q18 hM
        refine lv_tableIn (tgt := 102) hx hb dX2_holds_1 (by rw [q18]; decide) (by rw [q18]; decide) (by rw [q18]; rfl) (by decide) ?_
        refine lv_iload hx hb dX2_holds_102 (lv_at hl 5 rfl) ?_
        refine lv_if_ne (tgt := 138) hx hb dX2_holds_104 (by decide) (fun q19 => ?_) (fun q19 => ?_)
        · replace hM := zx_f q19 hM
          refine lv_iconst (v := 0) hx hb dX2_holds_138 (by decide) ?_
          rw [hQ]
          exact W.zret hx hb hr (by rfl) (fun t ht hW => ⟨⟨0, S, rfl, (Option.some.inj hM).symm, by show va_P D vwCl _ t.heap; rw [ht]; exact hP⟩, hS.F ht⟩) hS.2.2 dX2_holds_139
        · replace hM := zx_t q19 hM
          refine lv_aload_n hx hb dX2_holds_107 rfl (lv_at hl 0 rfl) ?_
          refine va_get (D := D) (ci := 2) (v := .ref (hh 1)) (C := RX2) (T := TX2) (N := 8) hx hb hts inlX2 hown hK hP 0 rfl rfl 1 (by decide) (hts _ zw_1_16) (fun _ h9 => h9) rfl dX2_holds_108 ?_
          refine lv_iload hx hb dX2_holds_111 (lv_at hl 4 rfl) ?_
          obtain ⟨x20, hz21, hM⟩ := zx_b1E hM
          refine va_calli (va_runV (As := [.int p4]) (rest := []) ⟨hx, hb, hml, hown, hts⟩ (c_X1_hasRectangle l D cI cZ cT (hh 1) (aa 1) (S 1) _ N p4 hz21) (cwV 1 hts (zg_V zw_7_8 zw_7_9 zw_7_10 zw_1_14 zw_7_11) rfl rfl rfl ⟨rfl, zyX1_hasRectangle⟩ ⟨Nat.le_of_ble_eq_true rfl, Nat.le_of_ble_eq_true rfl⟩) ⟨bS_blind, va_recv hK (zx2_P (show 1 < 18 by decide) hP) (ci := 1) (q0 := 0) rfl rfl, bS_pre (zx2_P (show 1 < 18 by decide) hP) hK (zx2_D (show 1 < 18 by decide) hD) hN⟩ rfl rfl hl.1 rfl (lv_room (Nat.le_of_ble_eq_true rfl)) dX2_holds_113 ⟨Nat.zero_le _, Nat.zero_le _⟩) hS (fun q h1 h2 => absurd h1 (Nat.not_lt.mpr h2)) (fun q h => hA q (Nat.le_trans hS.1 h)) (fun r u t H1 lc ht hvm hw hB hz1 hk1 hS => ?_)
          replace hw : x20 = r := hw; subst hw
          replace hP := zx_keep hP hk1
          refine lv_if_eq (tgt := 138) hx hb dX2_holds_116 (by decide) (fun q22 => ?_) (fun q22 => ?_)
          · replace hM := zx_t q22 hM
            refine lv_iconst (v := 0) hx hb dX2_holds_138 (by decide) ?_
            rw [hQ]
            exact W.zret hx hb hr (by rfl) (fun t ht hW => ⟨⟨0, S, rfl, (Option.some.inj hM).symm, by show va_P D vwCl _ t.heap; rw [ht]; exact hP⟩, hS.F ht⟩) hS.2.2 dX2_holds_139
          · replace hM := zx_f q22 hM
            refine lv_aload_n hx hb dX2_holds_119 rfl (lv_at hl 0 rfl) ?_
            refine va_get (D := D) (ci := 2) (v := .ref (hh 1)) (C := RX2) (T := TX2) (N := 8) hx hb hts inlX2 hown hK hP 0 rfl rfl 1 (by decide) (hts _ zw_1_16) (fun _ h9 => h9) rfl dX2_holds_120 ?_
            refine lv_iload_n hx hb dX2_holds_123 rfl (lv_at hl 2 rfl) ?_
            refine lv_iload_n hx hb dX2_holds_124 rfl (lv_at hl 3 rfl) ?_
            refine lv_iconst (v := 0) hx hb dX2_holds_125 (by decide) ?_
            obtain ⟨x23, hz24, hM⟩ := zx_b1E hM
            refine va_calli (va_runV (As := [.int p2, .int p3, .int 0]) (rest := []) ⟨hx, hb, hml, hown, hts⟩ (c_X1_ranked l D cI cZ cT (hh 1) (aa 1) (S 1) _ N p2 p3 0 hz24) (cwV 3 hts (zg_V zw_16_8 zw_16_9 zw_16_10 zw_1_14 zw_16_11) rfl rfl rfl ⟨rfl, zyX1_ranked⟩ ⟨Nat.le_of_ble_eq_true rfl, Nat.le_of_ble_eq_true rfl⟩) ⟨bS_blind, va_recv hK (zx2_P (show 1 < 18 by decide) hP) (ci := 1) (q0 := 0) rfl rfl, bS_pre (zx2_P (show 1 < 18 by decide) hP) hK (zx2_D (show 1 < 18 by decide) hD) hN⟩ rfl rfl hl.1 rfl (lv_room (Nat.le_of_ble_eq_true rfl)) dX2_holds_126 ⟨Nat.zero_le _, Nat.zero_le _⟩) hS (fun q h1 h2 => absurd h1 (Nat.not_lt.mpr h2)) (fun q h => hA q (Nat.le_trans hS.1 h)) (fun r u t H1 lc ht hvm hw hB hz1 hk1 hS => ?_)
            replace hw : x23 = r := hw; subst hw
            replace hP := zx_keep hP hk1
            refine lv_iload hx hb dX2_holds_129 (lv_at hl 4 rfl) ?_
            refine lv_icmp_ne (tgt := 138) hx hb dX2_holds_131 (by decide) (fun q25 => ?_) (fun q25 => ?_)
            · replace hM := zx_f q25 hM
              refine lv_iconst (v := 0) hx hb dX2_holds_138 (by decide) ?_
              rw [hQ]
              exact W.zret hx hb hr (by rfl) (fun t ht hW => ⟨⟨0, S, rfl, (Option.some.inj hM).symm, by show va_P D vwCl _ t.heap; rw [ht]; exact hP⟩, hS.F ht⟩) hS.2.2 dX2_holds_139
            · replace hM := zx_t q25 hM
              refine lv_iconst (v := 1) hx hb dX2_holds_134 (by decide) ?_
              refine lv_goto (tgt := 139) hx hb dX2_holds_135 (by decide) ?_
              rw [hQ]
              exact W.zret hx hb hr (by rfl) (fun t ht hW => ⟨⟨1, S, rfl, (Option.some.inj hM).symm, by show va_P D vwCl _ t.heap; rw [ht]; exact hP⟩, hS.F ht⟩) hS.2.2 dX2_holds_139
      · replace hM := zx_f q18 hM
        by_cases q26 : p1 = 8
        · replace hM := zx_t q26 hM
          refine lv_tableIn (tgt := 140) hx hb dX2_holds_1 (by rw [q26]; decide) (by rw [q26]; decide) (by rw [q26]; rfl) (by decide) ?_
          refine lv_iload hx hb dX2_holds_140 (lv_at hl 5 rfl) ?_
          refine lv_if_ne (tgt := 175) hx hb dX2_holds_142 (by decide) (fun q27 => ?_) (fun q27 => ?_)
          · replace hM := zx_f q27 hM
            refine lv_iconst (v := 0) hx hb dX2_holds_175 (by decide) ?_
            rw [hQ]
            exact W.zret hx hb hr (by rfl) (fun t ht hW => ⟨⟨0, S, rfl, (Option.some.inj hM).symm, by show va_P D vwCl _ t.heap; rw [ht]; exact hP⟩, hS.F ht⟩) hS.2.2 dX2_holds_176
          · replace hM := zx_t q27 hM
            refine lv_aload_n hx hb dX2_holds_145 rfl (lv_at hl 0 rfl) ?_
            refine va_get (D := D) (ci := 2) (v := .ref (hh 1)) (C := RX2) (T := TX2) (N := 8) hx hb hts inlX2 hown hK hP 0 rfl rfl 1 (by decide) (hts _ zw_1_16) (fun _ h9 => h9) rfl dX2_holds_146 ?_
            refine lv_iload hx hb dX2_holds_149 (lv_at hl 4 rfl) ?_
            obtain ⟨x28, hz29, hM⟩ := zx_b1E hM
            refine va_calli (va_runV (As := [.int p4]) (rest := []) ⟨hx, hb, hml, hown, hts⟩ (c_X1_hasRectangle l D cI cZ cT (hh 1) (aa 1) (S 1) _ N p4 hz29) (cwV 1 hts (zg_V zw_7_8 zw_7_9 zw_7_10 zw_1_14 zw_7_11) rfl rfl rfl ⟨rfl, zyX1_hasRectangle⟩ ⟨Nat.le_of_ble_eq_true rfl, Nat.le_of_ble_eq_true rfl⟩) ⟨bS_blind, va_recv hK (zx2_P (show 1 < 18 by decide) hP) (ci := 1) (q0 := 0) rfl rfl, bS_pre (zx2_P (show 1 < 18 by decide) hP) hK (zx2_D (show 1 < 18 by decide) hD) hN⟩ rfl rfl hl.1 rfl (lv_room (Nat.le_of_ble_eq_true rfl)) dX2_holds_151 ⟨Nat.zero_le _, Nat.zero_le _⟩) hS (fun q h1 h2 => absurd h1 (Nat.not_lt.mpr h2)) (fun q h => hA q (Nat.le_trans hS.1 h)) (fun r u t H1 lc ht hvm hw hB hz1 hk1 hS => ?_)
            replace hw : x28 = r := hw; subst hw
            replace hP := zx_keep hP hk1
            refine lv_if_eq (tgt := 175) hx hb dX2_holds_154 (by decide) (fun q30 => ?_) (fun q30 => ?_)
            · replace hM := zx_t q30 hM
              refine lv_iconst (v := 0) hx hb dX2_holds_175 (by decide) ?_
              rw [hQ]
              exact W.zret hx hb hr (by rfl) (fun t ht hW => ⟨⟨0, S, rfl, (Option.some.inj hM).symm, by show va_P D vwCl _ t.heap; rw [ht]; exact hP⟩, hS.F ht⟩) hS.2.2 dX2_holds_176
            · replace hM := zx_f q30 hM
              refine lv_aload_n hx hb dX2_holds_157 rfl (lv_at hl 0 rfl) ?_
              refine va_get (D := D) (ci := 2) (v := .ref (hh 1)) (C := RX2) (T := TX2) (N := 8) hx hb hts inlX2 hown hK hP 0 rfl rfl 1 (by decide) (hts _ zw_1_16) (fun _ h9 => h9) rfl dX2_holds_158 ?_
              refine lv_iload hx hb dX2_holds_161 (lv_at hl 4 rfl) ?_
              refine lv_iload_n hx hb dX2_holds_163 rfl (lv_at hl 2 rfl) ?_
              refine lv_iload_n hx hb dX2_holds_164 rfl (lv_at hl 3 rfl) ?_
              obtain ⟨x31, hz32, hM⟩ := zx_b1E hM
              refine va_calli (va_runV (As := [.int p4, .int p2, .int p3]) (rest := []) ⟨hx, hb, hml, hown, hts⟩ (c_X1_distance l D cI cZ cT (hh 1) (aa 1) (S 1) _ N p4 p2 p3 hz32) (cwV 3 hts (zg_V zw_20_7 zw_16_18 zw_16_19 zw_1_14 zw_16_20) rfl rfl rfl ⟨rfl, zyX1_distance⟩ ⟨Nat.le_of_ble_eq_true rfl, Nat.le_of_ble_eq_true rfl⟩) ⟨bS_blind, va_recv hK (zx2_P (show 1 < 18 by decide) hP) (ci := 1) (q0 := 0) rfl rfl, bS_pre (zx2_P (show 1 < 18 by decide) hP) hK (zx2_D (show 1 < 18 by decide) hD) hN⟩ rfl rfl hl.1 rfl (lv_room (Nat.le_of_ble_eq_true rfl)) dX2_holds_165 ⟨Nat.zero_le _, Nat.zero_le _⟩) hS (fun q h1 h2 => absurd h1 (Nat.not_lt.mpr h2)) (fun q h => hA q (Nat.le_trans hS.1 h)) (fun r u t H1 lc ht hvm hw hB hz1 hk1 hS => ?_)
              replace hw : x31 = r := hw; subst hw
              replace hP := zx_keep hP hk1
              refine lv_if_ne (tgt := 175) hx hb dX2_holds_168 (by decide) (fun q33 => ?_) (fun q33 => ?_)
              · replace hM := zx_f q33 hM
                refine lv_iconst (v := 0) hx hb dX2_holds_175 (by decide) ?_
                rw [hQ]
                exact W.zret hx hb hr (by rfl) (fun t ht hW => ⟨⟨0, S, rfl, (Option.some.inj hM).symm, by show va_P D vwCl _ t.heap; rw [ht]; exact hP⟩, hS.F ht⟩) hS.2.2 dX2_holds_176
              · replace hM := zx_t q33 hM
                refine lv_iconst (v := 1) hx hb dX2_holds_171 (by decide) ?_
                refine lv_goto (tgt := 176) hx hb dX2_holds_172 (by decide) ?_
                rw [hQ]
                exact W.zret hx hb hr (by rfl) (fun t ht hW => ⟨⟨1, S, rfl, (Option.some.inj hM).symm, by show va_P D vwCl _ t.heap; rw [ht]; exact hP⟩, hS.F ht⟩) hS.2.2 dX2_holds_176
        · replace hM := zx_f q26 hM
          refine lv_tableOut (tgt := 177) hx hb dX2_holds_1 (zx_sw (lo := 5) (hi := 8) (by decide) (by decide) (fun k h1 h2 => by rcases (show k = 5 ∨ k = 6 ∨ k = 7 ∨ k = 8 by omega) with rfl | rfl | rfl | rfl <;> assumption)) (by decide) ?_
          refine lv_iconst (v := 0) hx hb dX2_holds_177 (by decide) ?_
          rw [hQ]
          exact W.zret hx hb hr (by rfl) (fun t ht hW => ⟨⟨0, S, rfl, (Option.some.inj hM).symm, by show va_P D vwCl _ t.heap; rw [ht]; exact hP⟩, hS.F ht⟩) hS.2.2 dX2_holds_178

/-! ShallowBoxes.succeeds(I)Z -/
def f_X2_succeeds_j190 (N : Nat) (v2 : Int32) (v5 : Int32) (v7 : Int32) (t0 : Int32) (S_ : zx_B) : Option (Int32 × zx_B) :=
  (if v5 = 0 then
  (zx_b1 (f_X1_hasRectangle N v2 (S_ 1)) (fun x2 =>
(if x2 = 0 then
  some (0, S_) else
  (zx_b1 (f_X1_canShift N v2 v7 t0 (S_ 1)) (fun x5 =>
(if x5 = 0 then
  some (0, S_) else
  (zx_b1 (f_X1_beginCall N (S_ 1)) (fun T8 =>
(zx_n (zx_sb S_ 1 T8) (fun T10 =>
(zx_b1 (f_X1_takeOut N v2 (T10 1)) (fun T11 =>
(zx_n (zx_sb T10 1 T11) (fun T13 =>
(zx_b1 (f_X1_shiftBox N v2 v7 t0 (T13 1)) (fun T14 =>
(zx_n (zx_sb T13 1 T14) (fun T16 =>
(zx_b1 (f_X1_putIn N v2 (T16 1)) (fun T17 =>
(zx_n (zx_sb T16 1 T17) (fun T19 =>
some (1, T19))))))))))))))))))))))) else
  some (0, S_))
def f_X2_succeeds_j174 (N : Nat) (v2 : Int32) (v4 : Int32) (v5 : Int32) (v6 : Int32) (t0 : Int32) (S_ : zx_B) : Option (Int32 × zx_B) :=
  (if v6 = 3 then
  f_X2_succeeds_j190 N  v2 v5 t0 v4 S_ else
  f_X2_succeeds_j190 N  v2 v5 t0 (-v4) S_)
def f_X2_succeeds_j162 (N : Nat) (v2 : Int32) (v3 : Int32) (v4 : Int32) (v5 : Int32) (v6 : Int32) (S_ : zx_B) : Option (Int32 × zx_B) :=
  (if v6 = 3 then
  f_X2_succeeds_j174 N  v2 v4 v5 v6 v3 S_ else
  f_X2_succeeds_j174 N  v2 v4 v5 v6 (-v3) S_)
def f_X2_succeeds (N : Nat) (p1 : Int32) (S : zx_B) : Option (Int32 × zx_B) :=
  (zx_n (p1 / 1000000) (fun x22 =>
(zx_n (x22 - x22 / 100 * 100) (fun x23 =>
(zx_n (p1 / 10000) (fun x24 =>
(zx_n (x24 - x24 / 100 * 100) (fun x25 =>
(zx_n (p1 / 100) (fun x26 =>
(zx_n (x26 - x26 / 100 * 100) (fun x27 =>
(zx_n (p1 - p1 / 100 * 100) (fun x28 =>
(zx_n (p1 / 100000000) (fun x29 =>
(if x29 = 1 then
  (zx_b1 (f_X2_isBox N x23 x25 (x23 + x27) (x25 + x28)) (fun x31 =>
(if x31 = 0 then
  some (0, S) else
  (zx_b1 (f_X1_countRectangles N (S 1)) (fun x34 =>
(if x34 < 24 then
  (zx_b1 (f_X2_tryAdding N x23 x25 (x23 + x27) (x25 + x28) S) (fun T37 =>
some (1, T37))) else
  some (0, S))))))) else
(if x29 = 2 then
  (if x25 = 0 then
  (if x27 = 0 then
  (if x28 = 0 then
  (zx_b1 (f_X1_hasRectangle N x23 (S 1)) (fun x43 =>
(if x43 = 0 then
  some (0, S) else
  (zx_b1 (f_X1_beginCall N (S 1)) (fun T46 =>
(zx_n (zx_sb S 1 T46) (fun T48 =>
(zx_b1 (f_X1_takeOut N x23 (T48 1)) (fun T49 =>
(zx_n (zx_sb T48 1 T49) (fun T51 =>
some (1, T51)))))))))))) else
  some (0, S)) else
  some (0, S)) else
  some (0, S)) else
(if x29 = 3 then
  f_X2_succeeds_j162 N  x23 x25 x27 x28 x29 S else
(if x29 = 4 then
  f_X2_succeeds_j162 N  x23 x25 x27 x28 x29 S else
(zx_b2 (f_X2_holds N x29 x23 x25 x27 x28 S) (fun x54 T55 =>
(zx_bl x54 (
some (x54, T55)))))))))))))))))))))))))
abbrev rmX2_succeeds : Room := { frames := 6, cells := 0, slots := 0, locals := 152 }
abbrev zsX2_succeeds : List Cond := .code yX2_succeeds cX2_succeeds 9 (some .boolean) :: wsL_law
theorem zyX2_succeeds : yX2_succeeds.cls ≠ "java/lang/invoke/MethodHandle" ∧ yX2_succeeds.cls ≠ "java/lang/invoke/VarHandle" ∧ (parseMethodDescriptor yX2_succeeds.desc).map (fun d => d.parameters.length) = some 1 := by decide +kernel
set_option maxHeartbeats 4000000 in
set_option maxRecDepth 100000 in
theorem c_X2_succeeds (l : Launch) (D : va_G) (cI cZ cT : ClassId) (h : Nat) (hh : Nat → Nat) (aa : Nat → Nat → Nat) (S : zx_B) (sz : Nat) (N : Nat) (p1 : Int32) {R : Int32 × zx_B} (hM : f_X2_succeeds N p1 S = some R) : Met l yX2_succeeds zsX2_succeeds rmX2_succeeds (va_Pc [.ref h, .int p1] (bS D (zx_ty cI cZ cT) (xW2 cI cT h hh aa S) sz)) (va_Qi (fun r u => R = (r, u)) (fun u t => va_P D vwCl (xW2 cI cT h hh aa u) t.heap) (va_A (xW2 cI cT h hh aa S) sz)) 0 0 (va_A (xW2 cI cT h hh aa S) sz) := by
  refine Met.ofW (cc := cX2_succeeds) (maxL := 9) (ret := (some .boolean)) (by decide) rfl ?_
  intro p e s m args below meth c s₁ B hml hv
  obtain ⟨rfl, hsz, hP, hK, hD0, hN⟩ := hv
  have hx := B.exec
  have hb := B.bytes
  have hr := B.returns
  have hts : ∀ w ∈ wsL_law, w.before _ s = true := fun w hw => atoms_spec (ws := zsX2_succeeds) B.pre w (List.mem_cons_of_mem _ hw)
  have hown : s.vm.findClass RX2 = some m.cls := findClass_of_methodNamed B.named
  have hlocks := B.notSynchronized
  subst hsz
  have hD := hD0.self (sz := s.heap.size)
  generalize hAe : va_A (xW2 cI cT h hh aa S) s.heap.size = A at hD ⊢
  have hA : ∀ q : Nat, s.heap.size ≤ q → A q := fun q h => by rw [← hAe]; exact Or.inr h
  have hS : va_S A s.heap s.heap [] := va_S.rf
  have hl := lv_entry ([.ref h, .int p1]) (n := 9) (Nat.le_of_ble_eq_true rfl)
  rw [lg_entry_eq]
  generalize (lg_sl ([.ref h, .int p1]) ++ List.replicate (9 - (lg_sl ([.ref h, .int p1])).length) Slot.unset).toArray = ls at hl ⊢
  have hl : lv_has ls 9 [(0, .ref h), (1, .int p1)] := hl
  generalize hQ : MQ below (va_Qi (fun r u => R = (r, u)) (fun u t => va_P D vwCl (xW2 cI cT h hh aa u) t.heap) A) ([.ref h, .int p1] : List Value).toArray s 0 0 A = Q9
  replace hQ := hQ.symm
  unfold f_X2_succeeds at hM
  have j162 : ∀ (v2 : Int32) (v3 : Int32) (v4 : Int32) (v5 : Int32) (v6 : Int32) (S_ : zx_B) (H : Heap) (lc : List Loc) (ls : Array Slot), va_P D vwCl (xW2 cI cT h hh aa S_) H → va_D A (xW2 cI cT h hh aa S_) → va_S A s.heap H lc → lv_has ls 9 [(0, .ref h), (2, .int v2), (3, .int v3), (4, .int v4), (5, .int v5), (6, .int v6)] → f_X2_succeeds_j162 N v2 v3 v4 v5 v6 S_ = some R → W p l e (headSpec zsX2_succeeds rmX2_succeeds).room s m ([.ref h, .int p1] : List Value).toArray below meth c H lc 0 0 Q9 (F0 m 162 ls []) := by
    intro v2 v3 v4 v5 v6 S_ H lc ls hP hD hS hl hM
    unfold f_X2_succeeds_j162 at hM
    have j174 : ∀ (v2 : Int32) (v4 : Int32) (v5 : Int32) (v6 : Int32) (t0 : Int32) (S_ : zx_B) (H : Heap) (lc : List Loc) (ls : Array Slot), va_P D vwCl (xW2 cI cT h hh aa S_) H → va_D A (xW2 cI cT h hh aa S_) → va_S A s.heap H lc → lv_has ls 9 [(0, .ref h), (2, .int v2), (4, .int v4), (5, .int v5), (6, .int v6)] → f_X2_succeeds_j174 N v2 v4 v5 v6 t0 S_ = some R → W p l e (headSpec zsX2_succeeds rmX2_succeeds).room s m ([.ref h, .int p1] : List Value).toArray below meth c H lc 0 0 Q9 (F0 m 174 ls [.int t0]) := by
      intro v2 v4 v5 v6 t0 S_ H lc ls hP hD hS hl hM
      unfold f_X2_succeeds_j174 at hM
      have j190 : ∀ (v2 : Int32) (v5 : Int32) (v7 : Int32) (t0 : Int32) (S_ : zx_B) (H : Heap) (lc : List Loc) (ls : Array Slot), va_P D vwCl (xW2 cI cT h hh aa S_) H → va_D A (xW2 cI cT h hh aa S_) → va_S A s.heap H lc → lv_has ls 9 [(0, .ref h), (2, .int v2), (5, .int v5), (7, .int v7)] → f_X2_succeeds_j190 N v2 v5 v7 t0 S_ = some R → W p l e (headSpec zsX2_succeeds rmX2_succeeds).room s m ([.ref h, .int p1] : List Value).toArray below meth c H lc 0 0 Q9 (F0 m 190 ls [.int t0]) := by
        intro v2 v5 v7 t0 S_ H lc ls hP hD hS hl hM
        unfold f_X2_succeeds_j190 at hM
        refine lv_istore (lv' := [(8, .int t0), (0, .ref h), (2, .int v2), (5, .int v5), (7, .int v7)]) hx hb dX2_succeeds_190 hl (by decide) rfl (fun ls hl => ?_)
        refine lv_iload hx hb dX2_succeeds_192 (lv_at hl 3 rfl) ?_
        refine lv_if_ne (tgt := 223) hx hb dX2_succeeds_194 (by decide) (fun q1 => ?_) (fun q1 => ?_)
        · replace hM := zx_f q1 hM
          refine lv_iconst (v := 0) hx hb dX2_succeeds_223 (by decide) ?_
          rw [hQ]
          exact W.zret hx hb hr (by rfl) (fun t ht hW => ⟨⟨0, S_, rfl, (Option.some.inj hM).symm, by show va_P D vwCl _ t.heap; rw [ht]; exact hP⟩, hS.F ht⟩) hS.2.2 dX2_succeeds_224
        · replace hM := zx_t q1 hM
          refine lv_aload_n hx hb dX2_succeeds_197 rfl (lv_at hl 1 rfl) ?_
          refine va_get (D := D) (ci := 2) (v := .ref (hh 1)) (C := RX2) (T := TX2) (N := 8) hx hb hts inlX2 hown hK hP 0 rfl rfl 1 (by decide) (hts _ zw_1_16) (fun _ h9 => h9) rfl dX2_succeeds_198 ?_
          refine lv_iload_n hx hb dX2_succeeds_201 rfl (lv_at hl 2 rfl) ?_
          obtain ⟨x2, hz3, hM⟩ := zx_b1E hM
          refine va_calli (va_runV (As := [.int v2]) (rest := []) ⟨hx, hb, hml, hown, hts⟩ (c_X1_hasRectangle l D cI cZ cT (hh 1) (aa 1) (S_ 1) _ N v2 hz3) (cwV 1 hts (zg_V zw_7_8 zw_7_9 zw_7_10 zw_1_14 zw_7_11) rfl rfl rfl ⟨rfl, zyX1_hasRectangle⟩ ⟨Nat.le_of_ble_eq_true rfl, Nat.le_of_ble_eq_true rfl⟩) ⟨bS_blind, va_recv hK (zx2_P (show 1 < 18 by decide) hP) (ci := 1) (q0 := 0) rfl rfl, bS_pre (zx2_P (show 1 < 18 by decide) hP) hK (zx2_D (show 1 < 18 by decide) hD) hN⟩ rfl rfl hl.1 rfl (lv_room (Nat.le_of_ble_eq_true rfl)) dX2_succeeds_202 ⟨Nat.zero_le _, Nat.zero_le _⟩) hS (fun q h1 h2 => absurd h1 (Nat.not_lt.mpr h2)) (fun q h => hA q (Nat.le_trans hS.1 h)) (fun r u t H1 lc ht hvm hw hB hz1 hk1 hS => ?_)
          replace hw : x2 = r := hw; subst hw
          replace hP := zx_keep hP hk1
          refine lv_if_eq (tgt := 223) hx hb dX2_succeeds_205 (by decide) (fun q4 => ?_) (fun q4 => ?_)
          · replace hM := zx_t q4 hM
            refine lv_iconst (v := 0) hx hb dX2_succeeds_223 (by decide) ?_
            rw [hQ]
            exact W.zret hx hb hr (by rfl) (fun t ht hW => ⟨⟨0, S_, rfl, (Option.some.inj hM).symm, by show va_P D vwCl _ t.heap; rw [ht]; exact hP⟩, hS.F ht⟩) hS.2.2 dX2_succeeds_224
          · replace hM := zx_f q4 hM
            refine lv_aload_n hx hb dX2_succeeds_208 rfl (lv_at hl 1 rfl) ?_
            refine va_get (D := D) (ci := 2) (v := .ref (hh 1)) (C := RX2) (T := TX2) (N := 8) hx hb hts inlX2 hown hK hP 0 rfl rfl 1 (by decide) (hts _ zw_1_16) (fun _ h9 => h9) rfl dX2_succeeds_209 ?_
            refine lv_iload_n hx hb dX2_succeeds_212 rfl (lv_at hl 2 rfl) ?_
            refine lv_iload hx hb dX2_succeeds_213 (lv_at hl 4 rfl) ?_
            refine lv_iload hx hb dX2_succeeds_215 (lv_at hl 0 rfl) ?_
            obtain ⟨x5, hz6, hM⟩ := zx_b1E hM
            refine va_calli (va_runV (As := [.int v2, .int v7, .int t0]) (rest := []) ⟨hx, hb, hml, hown, hts⟩ (c_X1_canShift l D cI cZ cT (hh 1) (aa 1) (S_ 1) _ N v2 v7 t0 hz6) (cwV 3 hts (zg_V zw_15_3 zw_15_4 zw_15_5 zw_1_14 zw_15_6) rfl rfl rfl ⟨rfl, zyX1_canShift⟩ ⟨Nat.le_of_ble_eq_true rfl, Nat.le_of_ble_eq_true rfl⟩) ⟨bS_blind, va_recv hK (zx2_P (show 1 < 18 by decide) hP) (ci := 1) (q0 := 0) rfl rfl, bS_pre (zx2_P (show 1 < 18 by decide) hP) hK (zx2_D (show 1 < 18 by decide) hD) hN⟩ rfl rfl hl.1 rfl (lv_room (Nat.le_of_ble_eq_true rfl)) dX2_succeeds_217 ⟨Nat.zero_le _, Nat.zero_le _⟩) hS (fun q h1 h2 => absurd h1 (Nat.not_lt.mpr h2)) (fun q h => hA q (Nat.le_trans hS.1 h)) (fun r u t H1 lc ht hvm hw hB hz1 hk1 hS => ?_)
            replace hw : x5 = r := hw; subst hw
            replace hP := zx_keep hP hk1
            refine lv_if_ne (tgt := 225) hx hb dX2_succeeds_220 (by decide) (fun q7 => ?_) (fun q7 => ?_)
            · replace hM := zx_f q7 hM
              refine lv_aload_n hx hb dX2_succeeds_225 rfl (lv_at hl 1 rfl) ?_
              refine va_get (D := D) (ci := 2) (v := .ref (hh 1)) (C := RX2) (T := TX2) (N := 8) hx hb hts inlX2 hown hK hP 0 rfl rfl 1 (by decide) (hts _ zw_1_16) (fun _ h9 => h9) rfl dX2_succeeds_226 ?_
              obtain ⟨T8, hz9, hM⟩ := zx_b1E hM
              refine va_callv (va_runV (As := []) (rest := []) ⟨hx, hb, hml, hown, hts⟩ (c_X1_beginCall l D cI cZ cT (hh 1) (aa 1) (S_ 1) _ N hz9) (cwV 0 hts (zg_V zw_11_0 zw_11_1 zw_11_2 zw_1_14 zw_11_3) rfl rfl rfl ⟨rfl, zyX1_beginCall⟩ ⟨Nat.le_of_ble_eq_true rfl, Nat.le_of_ble_eq_true rfl⟩) ⟨bS_blind, va_recv hK (zx2_P (show 1 < 18 by decide) hP) (ci := 1) (q0 := 0) rfl rfl, bS_pre (zx2_P (show 1 < 18 by decide) hP) hK (zx2_D (show 1 < 18 by decide) hD) hN⟩ rfl rfl hl.1 rfl (lv_room (Nat.le_of_ble_eq_true rfl)) dX2_succeeds_229 ⟨Nat.zero_le _, Nat.zero_le _⟩) hS (fun q _ h => zx_fW (zx2_D (show 1 < 18 by decide) hD) hS hA q h) (fun q h => zx_fW (zx2_D (show 1 < 18 by decide) hD) hS hA q h) (fun u t H1 lc ht hvm hw hB hz1 hk1 hS => ?_)
              replace hw : T8 = u := hw; subst hw
              rw [ht] at hB
              replace hP := zx2_S (show 1 < 18 by decide) hP hD hk1 hB
              obtain ⟨T10, eT10, hM⟩ := zx_nE hM
              rw [← eT10] at hP
              replace hD := zx2_Da T10 hD
              refine lv_aload_n hx hb dX2_succeeds_232 rfl (lv_at hl 1 rfl) ?_
              refine va_get (D := D) (ci := 2) (v := .ref (hh 1)) (C := RX2) (T := TX2) (N := 8) hx hb hts inlX2 hown hK hP 0 rfl rfl 1 (by decide) (hts _ zw_1_16) (fun _ h9 => h9) rfl dX2_succeeds_233 ?_
              refine lv_iload_n hx hb dX2_succeeds_236 rfl (lv_at hl 2 rfl) ?_
              obtain ⟨T11, hz12, hM⟩ := zx_b1E hM
              refine va_callv (va_runV (As := [.int v2]) (rest := []) ⟨hx, hb, hml, hown, hts⟩ (c_X1_takeOut l D cI cZ cT (hh 1) (aa 1) (T10 1) _ N v2 hz12) (cwV 1 hts (zg_V zw_14_11 zw_14_12 zw_14_13 zw_1_14 zw_14_14) rfl rfl rfl ⟨rfl, zyX1_takeOut⟩ ⟨Nat.le_of_ble_eq_true rfl, Nat.le_of_ble_eq_true rfl⟩) ⟨bS_blind, va_recv hK (zx2_P (show 1 < 18 by decide) hP) (ci := 1) (q0 := 0) rfl rfl, bS_pre (zx2_P (show 1 < 18 by decide) hP) hK (zx2_D (show 1 < 18 by decide) hD) hN⟩ rfl rfl hl.1 rfl (lv_room (Nat.le_of_ble_eq_true rfl)) dX2_succeeds_237 ⟨Nat.zero_le _, Nat.zero_le _⟩) hS (fun q _ h => zx_fW (zx2_D (show 1 < 18 by decide) hD) hS hA q h) (fun q h => zx_fW (zx2_D (show 1 < 18 by decide) hD) hS hA q h) (fun u t H1 lc ht hvm hw hB hz1 hk1 hS => ?_)
              replace hw : T11 = u := hw; subst hw
              rw [ht] at hB
              replace hP := zx2_S (show 1 < 18 by decide) hP hD hk1 hB
              obtain ⟨T13, eT13, hM⟩ := zx_nE hM
              rw [← eT13] at hP
              replace hD := zx2_Da T13 hD
              refine lv_aload_n hx hb dX2_succeeds_240 rfl (lv_at hl 1 rfl) ?_
              refine va_get (D := D) (ci := 2) (v := .ref (hh 1)) (C := RX2) (T := TX2) (N := 8) hx hb hts inlX2 hown hK hP 0 rfl rfl 1 (by decide) (hts _ zw_1_16) (fun _ h9 => h9) rfl dX2_succeeds_241 ?_
              refine lv_iload_n hx hb dX2_succeeds_244 rfl (lv_at hl 2 rfl) ?_
              refine lv_iload hx hb dX2_succeeds_245 (lv_at hl 4 rfl) ?_
              refine lv_iload hx hb dX2_succeeds_247 (lv_at hl 0 rfl) ?_
              obtain ⟨T14, hz15, hM⟩ := zx_b1E hM
              refine va_callv (va_runV (As := [.int v2, .int v7, .int t0]) (rest := []) ⟨hx, hb, hml, hown, hts⟩ (c_X1_shiftBox l D cI cZ cT (hh 1) (aa 1) (T13 1) _ N v2 v7 t0 hz15) (cwV 3 hts (zg_V zw_15_10 zw_15_11 zw_15_12 zw_1_14 zw_15_13) rfl rfl rfl ⟨rfl, zyX1_shiftBox⟩ ⟨Nat.le_of_ble_eq_true rfl, Nat.le_of_ble_eq_true rfl⟩) ⟨bS_blind, va_recv hK (zx2_P (show 1 < 18 by decide) hP) (ci := 1) (q0 := 0) rfl rfl, bS_pre (zx2_P (show 1 < 18 by decide) hP) hK (zx2_D (show 1 < 18 by decide) hD) hN⟩ rfl rfl hl.1 rfl (lv_room (Nat.le_of_ble_eq_true rfl)) dX2_succeeds_249 ⟨Nat.zero_le _, Nat.zero_le _⟩) hS (fun q _ h => zx_fW (zx2_D (show 1 < 18 by decide) hD) hS hA q h) (fun q h => zx_fW (zx2_D (show 1 < 18 by decide) hD) hS hA q h) (fun u t H1 lc ht hvm hw hB hz1 hk1 hS => ?_)
              replace hw : T14 = u := hw; subst hw
              rw [ht] at hB
              replace hP := zx2_S (show 1 < 18 by decide) hP hD hk1 hB
              obtain ⟨T16, eT16, hM⟩ := zx_nE hM
              rw [← eT16] at hP
              replace hD := zx2_Da T16 hD
              refine lv_aload_n hx hb dX2_succeeds_252 rfl (lv_at hl 1 rfl) ?_
              refine va_get (D := D) (ci := 2) (v := .ref (hh 1)) (C := RX2) (T := TX2) (N := 8) hx hb hts inlX2 hown hK hP 0 rfl rfl 1 (by decide) (hts _ zw_1_16) (fun _ h9 => h9) rfl dX2_succeeds_253 ?_
              refine lv_iload_n hx hb dX2_succeeds_256 rfl (lv_at hl 2 rfl) ?_
              obtain ⟨T17, hz18, hM⟩ := zx_b1E hM
              refine va_callv (va_runV (As := [.int v2]) (rest := []) ⟨hx, hb, hml, hown, hts⟩ (c_X1_putIn l D cI cZ cT (hh 1) (aa 1) (T16 1) _ N v2 hz18) (cwV 1 hts (zg_V zw_11_16 zw_11_17 zw_11_18 zw_1_14 zw_11_19) rfl rfl rfl ⟨rfl, zyX1_putIn⟩ ⟨Nat.le_of_ble_eq_true rfl, Nat.le_of_ble_eq_true rfl⟩) ⟨bS_blind, va_recv hK (zx2_P (show 1 < 18 by decide) hP) (ci := 1) (q0 := 0) rfl rfl, bS_pre (zx2_P (show 1 < 18 by decide) hP) hK (zx2_D (show 1 < 18 by decide) hD) hN⟩ rfl rfl hl.1 rfl (lv_room (Nat.le_of_ble_eq_true rfl)) dX2_succeeds_257 ⟨Nat.zero_le _, Nat.zero_le _⟩) hS (fun q _ h => zx_fW (zx2_D (show 1 < 18 by decide) hD) hS hA q h) (fun q h => zx_fW (zx2_D (show 1 < 18 by decide) hD) hS hA q h) (fun u t H1 lc ht hvm hw hB hz1 hk1 hS => ?_)
              replace hw : T17 = u := hw; subst hw
              rw [ht] at hB
              replace hP := zx2_S (show 1 < 18 by decide) hP hD hk1 hB
              obtain ⟨T19, eT19, hM⟩ := zx_nE hM
              rw [← eT19] at hP
              replace hD := zx2_Da T19 hD
              refine lv_iconst (v := 1) hx hb dX2_succeeds_260 (by decide) ?_
              rw [hQ]
              exact W.zret hx hb hr (by rfl) (fun t ht hW => ⟨⟨1, T19, rfl, (Option.some.inj hM).symm, by show va_P D vwCl _ t.heap; rw [ht]; exact hP⟩, hS.F ht⟩) hS.2.2 dX2_succeeds_261
            · replace hM := zx_t q7 hM
              refine lv_iconst (v := 0) hx hb dX2_succeeds_223 (by decide) ?_
              rw [hQ]
              exact W.zret hx hb hr (by rfl) (fun t ht hW => ⟨⟨0, S_, rfl, (Option.some.inj hM).symm, by show va_P D vwCl _ t.heap; rw [ht]; exact hP⟩, hS.F ht⟩) hS.2.2 dX2_succeeds_224
      refine lv_istore (lv' := [(7, .int t0), (0, .ref h), (2, .int v2), (4, .int v4), (5, .int v5), (6, .int v6)]) hx hb dX2_succeeds_174 hl (by decide) rfl (fun ls hl => ?_)
      refine lv_iload hx hb dX2_succeeds_176 (lv_at hl 5 rfl) ?_
      refine lv_iconst (v := 3) hx hb dX2_succeeds_178 (by decide) ?_
      refine lv_icmp_ne (tgt := 187) hx hb dX2_succeeds_179 (by decide) (fun q20 => ?_) (fun q20 => ?_)
      · replace hM := zx_f q20 hM
        refine lv_iload hx hb dX2_succeeds_187 (lv_at hl 3 rfl) ?_
        refine lv_ineg hx hb dX2_succeeds_189 ?_
        exact j190 v2 v5 t0 (-v4) S_ _ _ _ hP hD hS (lv_sub hl [1, 2, 4, 0] rfl) hM
      · replace hM := zx_t q20 hM
        refine lv_iload hx hb dX2_succeeds_182 (lv_at hl 3 rfl) ?_
        refine lv_goto (tgt := 190) hx hb dX2_succeeds_184 (by decide) ?_
        exact j190 v2 v5 t0 v4 S_ _ _ _ hP hD hS (lv_sub hl [1, 2, 4, 0] rfl) hM
    refine lv_iload hx hb dX2_succeeds_162 (lv_at hl 5 rfl) ?_
    refine lv_iconst (v := 3) hx hb dX2_succeeds_164 (by decide) ?_
    refine lv_icmp_ne (tgt := 172) hx hb dX2_succeeds_165 (by decide) (fun q21 => ?_) (fun q21 => ?_)
    · replace hM := zx_f q21 hM
      refine lv_iload_n hx hb dX2_succeeds_172 rfl (lv_at hl 2 rfl) ?_
      refine lv_ineg hx hb dX2_succeeds_173 ?_
      exact j174 v2 v4 v5 v6 (-v3) S_ _ _ _ hP hD hS (lv_sub hl [0, 1, 3, 4, 5] rfl) hM
    · replace hM := zx_t q21 hM
      refine lv_iload_n hx hb dX2_succeeds_168 rfl (lv_at hl 2 rfl) ?_
      refine lv_goto (tgt := 174) hx hb dX2_succeeds_169 (by decide) ?_
      exact j174 v2 v4 v5 v6 v3 S_ _ _ _ hP hD hS (lv_sub hl [0, 1, 3, 4, 5] rfl) hM
  refine lv_iload_n hx hb dX2_succeeds_0 rfl (lv_at hl 1 rfl) ?_
  refine lv_ldc (v := 1000000) hx hb hown (hts _ zw_20_1) dX2_succeeds_1 ?_
  refine lv_idiv hx hb dX2_succeeds_3 (by decide) ?_
  obtain ⟨x22, ex22, hM⟩ := zx_nE hM
  refine zx_top ex22 ?_
  refine lv_bipush (v := 100) hx hb dX2_succeeds_4 (by decide) ?_
  refine lv_irem hx hb dX2_succeeds_6 (by decide) ?_
  obtain ⟨x23, ex23, hM⟩ := zx_nE hM
  refine zx_top ex23 ?_
  refine lv_istore_n (lv' := [(2, .int x23), (0, .ref h), (1, .int p1)]) hx hb dX2_succeeds_7 rfl hl (by decide) rfl (fun ls hl => ?_)
  refine lv_iload_n hx hb dX2_succeeds_8 rfl (lv_at hl 2 rfl) ?_
  refine lv_sipush (v := 10000) hx hb dX2_succeeds_9 (by decide) ?_
  refine lv_idiv hx hb dX2_succeeds_12 (by decide) ?_
  obtain ⟨x24, ex24, hM⟩ := zx_nE hM
  refine zx_top ex24 ?_
  refine lv_bipush (v := 100) hx hb dX2_succeeds_13 (by decide) ?_
  refine lv_irem hx hb dX2_succeeds_15 (by decide) ?_
  obtain ⟨x25, ex25, hM⟩ := zx_nE hM
  refine zx_top ex25 ?_
  refine lv_istore_n (lv' := [(3, .int x25), (2, .int x23), (0, .ref h), (1, .int p1)]) hx hb dX2_succeeds_16 rfl hl (by decide) rfl (fun ls hl => ?_)
  refine lv_iload_n hx hb dX2_succeeds_17 rfl (lv_at hl 3 rfl) ?_
  refine lv_bipush (v := 100) hx hb dX2_succeeds_18 (by decide) ?_
  refine lv_idiv hx hb dX2_succeeds_20 (by decide) ?_
  obtain ⟨x26, ex26, hM⟩ := zx_nE hM
  refine zx_top ex26 ?_
  refine lv_bipush (v := 100) hx hb dX2_succeeds_21 (by decide) ?_
  refine lv_irem hx hb dX2_succeeds_23 (by decide) ?_
  obtain ⟨x27, ex27, hM⟩ := zx_nE hM
  refine zx_top ex27 ?_
  refine lv_istore (lv' := [(4, .int x27), (3, .int x25), (2, .int x23), (0, .ref h), (1, .int p1)]) hx hb dX2_succeeds_24 hl (by decide) rfl (fun ls hl => ?_)
  refine lv_iload_n hx hb dX2_succeeds_26 rfl (lv_at hl 4 rfl) ?_
  refine lv_bipush (v := 100) hx hb dX2_succeeds_27 (by decide) ?_
  refine lv_irem hx hb dX2_succeeds_29 (by decide) ?_
  obtain ⟨x28, ex28, hM⟩ := zx_nE hM
  refine zx_top ex28 ?_
  refine lv_istore (lv' := [(5, .int x28), (4, .int x27), (3, .int x25), (2, .int x23), (0, .ref h), (1, .int p1)]) hx hb dX2_succeeds_30 hl (by decide) rfl (fun ls hl => ?_)
  refine lv_iload_n hx hb dX2_succeeds_32 rfl (lv_at hl 5 rfl) ?_
  refine lv_ldc (v := 100000000) hx hb hown (hts _ zw_20_2) dX2_succeeds_33 ?_
  refine lv_idiv hx hb dX2_succeeds_35 (by decide) ?_
  obtain ⟨x29, ex29, hM⟩ := zx_nE hM
  refine zx_top ex29 ?_
  refine lv_istore (lv' := [(6, .int x29), (5, .int x28), (4, .int x27), (3, .int x25), (2, .int x23), (0, .ref h), (1, .int p1)]) hx hb dX2_succeeds_36 hl (by decide) rfl (fun ls hl => ?_)
  refine lv_iload hx hb dX2_succeeds_38 (lv_at hl 0 rfl) ?_
  by_cases q30 : x29 = 1
  · replace hM := zx_t q30 hM
    refine lv_tableIn (tgt := 72) hx hb dX2_succeeds_40 (by rw [q30]; decide) (by rw [q30]; decide) (by rw [q30]; rfl) (by decide) ?_
    refine lv_iload_n hx hb dX2_succeeds_72 rfl (lv_at hl 4 rfl) ?_
    refine lv_iload_n hx hb dX2_succeeds_73 rfl (lv_at hl 3 rfl) ?_
    refine lv_iload_n hx hb dX2_succeeds_74 rfl (lv_at hl 4 rfl) ?_
    refine lv_iload hx hb dX2_succeeds_75 (lv_at hl 2 rfl) ?_
    refine lv_iadd hx hb dX2_succeeds_77 ?_
    refine lv_iload_n hx hb dX2_succeeds_78 rfl (lv_at hl 3 rfl) ?_
    refine lv_iload hx hb dX2_succeeds_79 (lv_at hl 1 rfl) ?_
    refine lv_iadd hx hb dX2_succeeds_81 ?_
    obtain ⟨x31, hz32, hM⟩ := zx_b1E hM
    refine va_calli (va_runS (As := [.int x23, .int x25, .int (x23 + x27), .int (x25 + x28)]) (rest := []) ⟨hx, hb, hml, hown, hts⟩ (c_X2_isBox l D cI cZ cT _ N x23 x25 (x23 + x27) (x25 + x28) hz32) (va_cwS 4 hts (zg_S zw_17_20 zw_15_8 zw_1_2 zw_15_9) rfl rfl rfl zyX2_isBox ⟨Nat.le_of_ble_eq_true rfl, Nat.le_of_ble_eq_true rfl⟩) ⟨bS_blind, bS_pre (zx_P0 hP) hK (zx_D0 hD) hN⟩ rfl rfl hl.1 rfl (lv_room (Nat.le_of_ble_eq_true rfl)) dX2_succeeds_82 ⟨Nat.zero_le _, Nat.zero_le _⟩) hS (fun q h1 h2 => absurd h1 (Nat.not_lt.mpr h2)) (fun q h => hA q (Nat.le_trans hS.1 h)) (fun r u t H1 lc ht hvm hw hB hz1 hk1 hS => ?_)
    replace hw : x31 = r := hw; subst hw
    replace hP := zx_keep hP hk1
    refine lv_if_eq (tgt := 100) hx hb dX2_succeeds_85 (by decide) (fun q33 => ?_) (fun q33 => ?_)
    · replace hM := zx_t q33 hM
      refine lv_iconst (v := 0) hx hb dX2_succeeds_100 (by decide) ?_
      rw [hQ]
      exact W.zret hx hb hr (by rfl) (fun t ht hW => ⟨⟨0, S, rfl, (Option.some.inj hM).symm, by show va_P D vwCl _ t.heap; rw [ht]; exact hP⟩, hS.F ht⟩) hS.2.2 dX2_succeeds_101
    · replace hM := zx_f q33 hM
      refine lv_aload_n hx hb dX2_succeeds_88 rfl (lv_at hl 5 rfl) ?_
      refine va_get (D := D) (ci := 2) (v := .ref (hh 1)) (C := RX2) (T := TX2) (N := 8) hx hb hts inlX2 hown hK hP 0 rfl rfl 1 (by decide) (hts _ zw_1_16) (fun _ h9 => h9) rfl dX2_succeeds_89 ?_
      obtain ⟨x34, hz35, hM⟩ := zx_b1E hM
      refine va_calli (va_runV (As := []) (rest := []) ⟨hx, hb, hml, hown, hts⟩ (c_X1_countRectangles l D cI cZ cT (hh 1) (aa 1) (S 1) _ N hz35) (cwV 0 hts (zg_V zw_5_6 zw_5_7 zw_5_8 zw_1_14 zw_5_9) rfl rfl rfl ⟨rfl, zyX1_countRectangles⟩ ⟨Nat.le_of_ble_eq_true rfl, Nat.le_of_ble_eq_true rfl⟩) ⟨bS_blind, va_recv hK (zx2_P (show 1 < 18 by decide) hP) (ci := 1) (q0 := 0) rfl rfl, bS_pre (zx2_P (show 1 < 18 by decide) hP) hK (zx2_D (show 1 < 18 by decide) hD) hN⟩ rfl rfl hl.1 rfl (lv_room (Nat.le_of_ble_eq_true rfl)) dX2_succeeds_92 ⟨Nat.zero_le _, Nat.zero_le _⟩) hS (fun q h1 h2 => absurd h1 (Nat.not_lt.mpr h2)) (fun q h => hA q (Nat.le_trans hS.1 h)) (fun r u t H1 lc ht hvm hw hB hz1 hk1 hS => ?_)
      replace hw : x34 = r := hw; subst hw
      replace hP := zx_keep hP hk1
      refine lv_bipush (v := 24) hx hb dX2_succeeds_95 (by decide) ?_
      refine lv_icmp_lt (tgt := 102) hx hb dX2_succeeds_97 (by decide) (fun q36 => ?_) (fun q36 => ?_)
      · replace hM := zx_t q36 hM
        refine lv_aload_n hx hb dX2_succeeds_102 rfl (lv_at hl 5 rfl) ?_
        refine lv_iload_n hx hb dX2_succeeds_103 rfl (lv_at hl 4 rfl) ?_
        refine lv_iload_n hx hb dX2_succeeds_104 rfl (lv_at hl 3 rfl) ?_
        refine lv_iload_n hx hb dX2_succeeds_105 rfl (lv_at hl 4 rfl) ?_
        refine lv_iload hx hb dX2_succeeds_106 (lv_at hl 2 rfl) ?_
        refine lv_iadd hx hb dX2_succeeds_108 ?_
        refine lv_iload_n hx hb dX2_succeeds_109 rfl (lv_at hl 3 rfl) ?_
        refine lv_iload hx hb dX2_succeeds_110 (lv_at hl 1 rfl) ?_
        refine lv_iadd hx hb dX2_succeeds_112 ?_
        obtain ⟨T37, hz38, hM⟩ := zx_b1E hM
        refine va_callv (va_runV (As := [.int x23, .int x25, .int (x23 + x27), .int (x25 + x28)]) (rest := []) ⟨hx, hb, hml, hown, hts⟩ (c_X2_tryAdding l D cI cZ cT h hh aa S _ N x23 x25 (x23 + x27) (x25 + x28) hz38) (cwV 4 hts (zg_V zw_19_8 zw_19_9 zw_19_10 zw_1_2 zw_19_11) rfl rfl rfl ⟨rfl, zyX2_tryAdding⟩ ⟨Nat.le_of_ble_eq_true rfl, Nat.le_of_ble_eq_true rfl⟩) ⟨bS_blind, va_recv hK hP (ci := 2) (q0 := 0) rfl rfl, bS_pre hP hK hD hN⟩ rfl rfl hl.1 rfl (lv_room (Nat.le_of_ble_eq_true rfl)) dX2_succeeds_113 ⟨Nat.zero_le _, Nat.zero_le _⟩) hS (fun q _ h => zx_fW hD hS hA q h) (fun q h => zx_fW hD hS hA q h) (fun u t H1 lc ht hvm hw hB hz1 hk1 hS => ?_)
        replace hw : T37 = u := hw; subst hw
        rw [ht] at hB
        replace hP := hB
        replace hD := zx2_Da T37 hD
        refine lv_iconst (v := 1) hx hb dX2_succeeds_116 (by decide) ?_
        rw [hQ]
        exact W.zret hx hb hr (by rfl) (fun t ht hW => ⟨⟨1, T37, rfl, (Option.some.inj hM).symm, by show va_P D vwCl _ t.heap; rw [ht]; exact hP⟩, hS.F ht⟩) hS.2.2 dX2_succeeds_117
      · replace hM := zx_f q36 hM
        refine lv_iconst (v := 0) hx hb dX2_succeeds_100 (by decide) ?_
        rw [hQ]
        exact W.zret hx hb hr (by rfl) (fun t ht hW => ⟨⟨0, S, rfl, (Option.some.inj hM).symm, by show va_P D vwCl _ t.heap; rw [ht]; exact hP⟩, hS.F ht⟩) hS.2.2 dX2_succeeds_101
  · replace hM := zx_f q30 hM
    by_cases q39 : x29 = 2
    · replace hM := zx_t q39 hM
      refine lv_tableIn (tgt := 118) hx hb dX2_succeeds_40 (by rw [q39]; decide) (by rw [q39]; decide) (by rw [q39]; rfl) (by decide) ?_
      refine lv_iload_n hx hb dX2_succeeds_118 rfl (lv_at hl 3 rfl) ?_
      refine lv_if_ne (tgt := 143) hx hb dX2_succeeds_119 (by decide) (fun q40 => ?_) (fun q40 => ?_)
      · replace hM := zx_f q40 hM
        refine lv_iconst (v := 0) hx hb dX2_succeeds_143 (by decide) ?_
        rw [hQ]
        exact W.zret hx hb hr (by rfl) (fun t ht hW => ⟨⟨0, S, rfl, (Option.some.inj hM).symm, by show va_P D vwCl _ t.heap; rw [ht]; exact hP⟩, hS.F ht⟩) hS.2.2 dX2_succeeds_144
      · replace hM := zx_t q40 hM
        refine lv_iload hx hb dX2_succeeds_122 (lv_at hl 2 rfl) ?_
        refine lv_if_ne (tgt := 143) hx hb dX2_succeeds_124 (by decide) (fun q41 => ?_) (fun q41 => ?_)
        · replace hM := zx_f q41 hM
          refine lv_iconst (v := 0) hx hb dX2_succeeds_143 (by decide) ?_
          rw [hQ]
          exact W.zret hx hb hr (by rfl) (fun t ht hW => ⟨⟨0, S, rfl, (Option.some.inj hM).symm, by show va_P D vwCl _ t.heap; rw [ht]; exact hP⟩, hS.F ht⟩) hS.2.2 dX2_succeeds_144
        · replace hM := zx_t q41 hM
          refine lv_iload hx hb dX2_succeeds_127 (lv_at hl 1 rfl) ?_
          refine lv_if_ne (tgt := 143) hx hb dX2_succeeds_129 (by decide) (fun q42 => ?_) (fun q42 => ?_)
          · replace hM := zx_f q42 hM
            refine lv_iconst (v := 0) hx hb dX2_succeeds_143 (by decide) ?_
            rw [hQ]
            exact W.zret hx hb hr (by rfl) (fun t ht hW => ⟨⟨0, S, rfl, (Option.some.inj hM).symm, by show va_P D vwCl _ t.heap; rw [ht]; exact hP⟩, hS.F ht⟩) hS.2.2 dX2_succeeds_144
          · replace hM := zx_t q42 hM
            refine lv_aload_n hx hb dX2_succeeds_132 rfl (lv_at hl 5 rfl) ?_
            refine va_get (D := D) (ci := 2) (v := .ref (hh 1)) (C := RX2) (T := TX2) (N := 8) hx hb hts inlX2 hown hK hP 0 rfl rfl 1 (by decide) (hts _ zw_1_16) (fun _ h9 => h9) rfl dX2_succeeds_133 ?_
            refine lv_iload_n hx hb dX2_succeeds_136 rfl (lv_at hl 4 rfl) ?_
            obtain ⟨x43, hz44, hM⟩ := zx_b1E hM
            refine va_calli (va_runV (As := [.int x23]) (rest := []) ⟨hx, hb, hml, hown, hts⟩ (c_X1_hasRectangle l D cI cZ cT (hh 1) (aa 1) (S 1) _ N x23 hz44) (cwV 1 hts (zg_V zw_7_8 zw_7_9 zw_7_10 zw_1_14 zw_7_11) rfl rfl rfl ⟨rfl, zyX1_hasRectangle⟩ ⟨Nat.le_of_ble_eq_true rfl, Nat.le_of_ble_eq_true rfl⟩) ⟨bS_blind, va_recv hK (zx2_P (show 1 < 18 by decide) hP) (ci := 1) (q0 := 0) rfl rfl, bS_pre (zx2_P (show 1 < 18 by decide) hP) hK (zx2_D (show 1 < 18 by decide) hD) hN⟩ rfl rfl hl.1 rfl (lv_room (Nat.le_of_ble_eq_true rfl)) dX2_succeeds_137 ⟨Nat.zero_le _, Nat.zero_le _⟩) hS (fun q h1 h2 => absurd h1 (Nat.not_lt.mpr h2)) (fun q h => hA q (Nat.le_trans hS.1 h)) (fun r u t H1 lc ht hvm hw hB hz1 hk1 hS => ?_)
            replace hw : x43 = r := hw; subst hw
            replace hP := zx_keep hP hk1
            refine lv_if_ne (tgt := 145) hx hb dX2_succeeds_140 (by decide) (fun q45 => ?_) (fun q45 => ?_)
            · replace hM := zx_f q45 hM
              refine lv_aload_n hx hb dX2_succeeds_145 rfl (lv_at hl 5 rfl) ?_
              refine va_get (D := D) (ci := 2) (v := .ref (hh 1)) (C := RX2) (T := TX2) (N := 8) hx hb hts inlX2 hown hK hP 0 rfl rfl 1 (by decide) (hts _ zw_1_16) (fun _ h9 => h9) rfl dX2_succeeds_146 ?_
              obtain ⟨T46, hz47, hM⟩ := zx_b1E hM
              refine va_callv (va_runV (As := []) (rest := []) ⟨hx, hb, hml, hown, hts⟩ (c_X1_beginCall l D cI cZ cT (hh 1) (aa 1) (S 1) _ N hz47) (cwV 0 hts (zg_V zw_11_0 zw_11_1 zw_11_2 zw_1_14 zw_11_3) rfl rfl rfl ⟨rfl, zyX1_beginCall⟩ ⟨Nat.le_of_ble_eq_true rfl, Nat.le_of_ble_eq_true rfl⟩) ⟨bS_blind, va_recv hK (zx2_P (show 1 < 18 by decide) hP) (ci := 1) (q0 := 0) rfl rfl, bS_pre (zx2_P (show 1 < 18 by decide) hP) hK (zx2_D (show 1 < 18 by decide) hD) hN⟩ rfl rfl hl.1 rfl (lv_room (Nat.le_of_ble_eq_true rfl)) dX2_succeeds_149 ⟨Nat.zero_le _, Nat.zero_le _⟩) hS (fun q _ h => zx_fW (zx2_D (show 1 < 18 by decide) hD) hS hA q h) (fun q h => zx_fW (zx2_D (show 1 < 18 by decide) hD) hS hA q h) (fun u t H1 lc ht hvm hw hB hz1 hk1 hS => ?_)
              replace hw : T46 = u := hw; subst hw
              rw [ht] at hB
              replace hP := zx2_S (show 1 < 18 by decide) hP hD hk1 hB
              obtain ⟨T48, eT48, hM⟩ := zx_nE hM
              rw [← eT48] at hP
              replace hD := zx2_Da T48 hD
              refine lv_aload_n hx hb dX2_succeeds_152 rfl (lv_at hl 5 rfl) ?_
              refine va_get (D := D) (ci := 2) (v := .ref (hh 1)) (C := RX2) (T := TX2) (N := 8) hx hb hts inlX2 hown hK hP 0 rfl rfl 1 (by decide) (hts _ zw_1_16) (fun _ h9 => h9) rfl dX2_succeeds_153 ?_
              refine lv_iload_n hx hb dX2_succeeds_156 rfl (lv_at hl 4 rfl) ?_
              obtain ⟨T49, hz50, hM⟩ := zx_b1E hM
              refine va_callv (va_runV (As := [.int x23]) (rest := []) ⟨hx, hb, hml, hown, hts⟩ (c_X1_takeOut l D cI cZ cT (hh 1) (aa 1) (T48 1) _ N x23 hz50) (cwV 1 hts (zg_V zw_14_11 zw_14_12 zw_14_13 zw_1_14 zw_14_14) rfl rfl rfl ⟨rfl, zyX1_takeOut⟩ ⟨Nat.le_of_ble_eq_true rfl, Nat.le_of_ble_eq_true rfl⟩) ⟨bS_blind, va_recv hK (zx2_P (show 1 < 18 by decide) hP) (ci := 1) (q0 := 0) rfl rfl, bS_pre (zx2_P (show 1 < 18 by decide) hP) hK (zx2_D (show 1 < 18 by decide) hD) hN⟩ rfl rfl hl.1 rfl (lv_room (Nat.le_of_ble_eq_true rfl)) dX2_succeeds_157 ⟨Nat.zero_le _, Nat.zero_le _⟩) hS (fun q _ h => zx_fW (zx2_D (show 1 < 18 by decide) hD) hS hA q h) (fun q h => zx_fW (zx2_D (show 1 < 18 by decide) hD) hS hA q h) (fun u t H1 lc ht hvm hw hB hz1 hk1 hS => ?_)
              replace hw : T49 = u := hw; subst hw
              rw [ht] at hB
              replace hP := zx2_S (show 1 < 18 by decide) hP hD hk1 hB
              obtain ⟨T51, eT51, hM⟩ := zx_nE hM
              rw [← eT51] at hP
              replace hD := zx2_Da T51 hD
              refine lv_iconst (v := 1) hx hb dX2_succeeds_160 (by decide) ?_
              rw [hQ]
              exact W.zret hx hb hr (by rfl) (fun t ht hW => ⟨⟨1, T51, rfl, (Option.some.inj hM).symm, by show va_P D vwCl _ t.heap; rw [ht]; exact hP⟩, hS.F ht⟩) hS.2.2 dX2_succeeds_161
            · replace hM := zx_t q45 hM
              refine lv_iconst (v := 0) hx hb dX2_succeeds_143 (by decide) ?_
              rw [hQ]
              exact W.zret hx hb hr (by rfl) (fun t ht hW => ⟨⟨0, S, rfl, (Option.some.inj hM).symm, by show va_P D vwCl _ t.heap; rw [ht]; exact hP⟩, hS.F ht⟩) hS.2.2 dX2_succeeds_144
    · replace hM := zx_f q39 hM
      by_cases q52 : x29 = 3
      · replace hM := zx_t q52 hM
        refine lv_tableIn (tgt := 162) hx hb dX2_succeeds_40 (by rw [q52]; decide) (by rw [q52]; decide) (by rw [q52]; rfl) (by decide) ?_
        exact j162 x23 x25 x27 x28 x29 S _ _ _ hP hD hS (lv_sub hl [5, 4, 3, 2, 1, 0] rfl) hM
      · replace hM := zx_f q52 hM
        by_cases q53 : x29 = 4
        · replace hM := zx_t q53 hM
          refine lv_tableIn (tgt := 162) hx hb dX2_succeeds_40 (by rw [q53]; decide) (by rw [q53]; decide) (by rw [q53]; rfl) (by decide) ?_
          exact j162 x23 x25 x27 x28 x29 S _ _ _ hP hD hS (lv_sub hl [5, 4, 3, 2, 1, 0] rfl) hM
        · replace hM := zx_f q53 hM
          refine lv_tableOut (tgt := 262) hx hb dX2_succeeds_40 (zx_sw (lo := 1) (hi := 4) (by decide) (by decide) (fun k h1 h2 => by rcases (show k = 1 ∨ k = 2 ∨ k = 3 ∨ k = 4 by omega) with rfl | rfl | rfl | rfl <;> assumption)) (by decide) ?_
          refine lv_aload_n hx hb dX2_succeeds_262 rfl (lv_at hl 5 rfl) ?_
          refine lv_iload hx hb dX2_succeeds_263 (lv_at hl 0 rfl) ?_
          refine lv_iload_n hx hb dX2_succeeds_265 rfl (lv_at hl 4 rfl) ?_
          refine lv_iload_n hx hb dX2_succeeds_266 rfl (lv_at hl 3 rfl) ?_
          refine lv_iload hx hb dX2_succeeds_267 (lv_at hl 2 rfl) ?_
          refine lv_iload hx hb dX2_succeeds_269 (lv_at hl 1 rfl) ?_
          obtain ⟨x54, T55, hz56, hM⟩ := zx_b2E hM
          refine va_calli (va_runV (As := [.int x29, .int x23, .int x25, .int x27, .int x28]) (rest := []) ⟨hx, hb, hml, hown, hts⟩ (c_X2_holds l D cI cZ cT h hh aa S _ N x29 x23 x25 x27 x28 hz56) (cwV 5 hts (zg_V zw_20_3 zw_20_4 zw_20_5 zw_1_2 zw_20_6) rfl rfl rfl ⟨rfl, zyX2_holds⟩ ⟨Nat.le_of_ble_eq_true rfl, Nat.le_of_ble_eq_true rfl⟩) ⟨bS_blind, va_recv hK hP (ci := 2) (q0 := 0) rfl rfl, bS_pre hP hK hD hN⟩ rfl rfl hl.1 rfl (lv_room (Nat.le_of_ble_eq_true rfl)) dX2_succeeds_271 ⟨Nat.zero_le _, Nat.zero_le _⟩) hS (fun q _ h => zx_fW hD hS hA q h) (fun q h => zx_fW hD hS hA q h) (fun r u t H1 lc ht hvm hw hB hz1 hk1 hS => ?_)
          obtain ⟨hw1, hw2⟩ := Prod.mk.inj hw; subst hw1; subst hw2
          rw [ht] at hB
          replace hP := hB
          replace hD := zx2_Da T55 hD
          obtain ⟨q57, hM⟩ := zx_blE hM
          rw [hQ]
          exact W.zret hx hb hr (zx_nar q57) (fun t ht hW => ⟨⟨x54, T55, rfl, (Option.some.inj hM).symm, by show va_P D vwCl _ t.heap; rw [ht]; exact hP⟩, hS.F ht⟩) hS.2.2 dX2_succeeds_274

/-! ShallowBoxes.runScript(IJ)I -/
def f_X2_runScript_j10 (N : Nat) (S_ : zx_B) : Option (Int32 × (Nat × zx_B)) :=
  some (0, (1, S_))
def f_X2_runScript_j45 (N : Nat) (S_ : zx_B) : Option (Int32 × (Nat × zx_B)) :=
  some (0, (1, S_))
def f_X2_runScript_j96 (N : Nat) (k69 : Int32 → Int64 → Int32 → zx_B → Option (Int32 × (Nat × zx_B))) (v1 : Int32) (v2 : Int64) (v4 : Int32) (t0 : Int64) (S_ : zx_B) : Option (Int32 × (Nat × zx_B)) :=
  (zx_b2 (f_X2_succeeds N (Int64.toInt32 t0) S_) (fun x6 T7 =>
(if x6 = 0 then
  some (v4, (0, T7)) else
  (zx_n (v4 + 1) (fun x10 =>
k69 v1 v2 x10 T7)))))
def f_X2_runScript_l69 (N : Nat) : Nat → Int32 → Int64 → Int32 → zx_B → Option (Int32 × (Nat × zx_B))
  | 0, _, _, _, _ => none
  | n69 + 1, v1, v2, v4, S_ => (if v1 ≤ v4 then
  some ((-1), (0, S_)) else
  (if v4 = (v1 - 1) then
  (zx_n (v2 - v2 / 1000000000 * 1000000000) (fun x13 =>
f_X2_runScript_j96 N (f_X2_runScript_l69 N  n69) v1 v2 v4 x13 S_)) else
  (zx_n (v2 / 1000000000) (fun x12 =>
f_X2_runScript_j96 N (f_X2_runScript_l69 N  n69) v1 v2 v4 x12 S_))))
def f_X2_runScript_j41 (N : Nat) (v1 : Int32) (v2 : Int64) (t0 : Int64) (t1 : Int64) (S_ : zx_B) : Option (Int32 × (Nat × zx_B)) :=
  (if (lg_cmp t0 t1) < 0 then
  (zx_b1 (f_X1_takeOver N (S_ 1) (S_ 0)) (fun T14 =>
(zx_n (zx_sb S_ 1 T14) (fun T16 =>
f_X2_runScript_l69 N  N v1 v2 0 T16)))) else
  f_X2_runScript_j45 N  S_)
def f_X2_runScript (N : Nat) (p1 : Int32) (p2 : Int64) (S : zx_B) : Option (Int32 × (Nat × zx_B)) :=
  (if p1 < 1 then
  f_X2_runScript_j10 N  S else
  (if p1 ≤ 2 then
  (if (lg_cmp p2 0) < 0 then
  f_X2_runScript_j45 N  S else
  (if p1 = 1 then
  f_X2_runScript_j41 N  p1 p2 p2 1000000000 S else
  f_X2_runScript_j41 N  p1 p2 p2 1000000000000000000 S)) else
  f_X2_runScript_j10 N  S))
abbrev rmX2_runScript : Room := { frames := 7, cells := 1, slots := 6, locals := 180 }
abbrev zsX2_runScript : List Cond := .code yX2_runScript cX2_runScript 7 (some .int) :: wsL_law
theorem zyX2_runScript : yX2_runScript.cls ≠ "java/lang/invoke/MethodHandle" ∧ yX2_runScript.cls ≠ "java/lang/invoke/VarHandle" ∧ (parseMethodDescriptor yX2_runScript.desc).map (fun d => d.parameters.length) = some 2 := by decide +kernel
set_option maxHeartbeats 4000000 in
set_option maxRecDepth 100000 in
theorem c_X2_runScript (l : Launch) (D : va_G) (cI cZ cT : ClassId) (hlt : l.stackTraces = false) (h : Nat) (hh : Nat → Nat) (aa : Nat → Nat → Nat) (S : zx_B) (sz : Nat) (N : Nat) (p1 : Int32) (p2 : Int64) {R : Int32 × (Nat × zx_B)} (hM : f_X2_runScript N p1 p2 S = some R) : vx_Met l yX2_runScript zsX2_runScript rmX2_runScript (va_Pc [.ref h, .int p1, .long p2] (bX D (zx_ty cI cZ cT) (xW2 cI cT h hh aa S) sz)) (va_Qi (fun r u => R = (r, (0, u))) (fun u t => va_P D vwCl (xW2 cI cT h hh aa u) t.heap) (va_A (xW2 cI cT h hh aa S) sz)) (vx_X (fun u : Nat × zx_B => R = (0, u) ∧ u.1 ≠ 0) (fun E u t => E = zx_E u.1 ∧ va_P D vwCl (xW2 cI cT h hh aa u.2) t.heap) (va_A (xW2 cI cT h hh aa S) sz)) 1 6 (va_A (xW2 cI cT h hh aa S) sz) := by
  refine vx_ofW (cc := cX2_runScript) (maxL := 7) (ret := (some .int)) (by decide) rfl ?_
  intro p e s m args below meth c s₁ B hml hout hv
  obtain ⟨rfl, ⟨hsz, hP, hK, hD0, hN⟩, hX⟩ := hv
  have hx := B.exec
  have hb := B.bytes
  have hr := B.returns
  have hts : ∀ w ∈ wsL_law, w.before _ s = true := fun w hw => atoms_spec (ws := zsX2_runScript) B.pre w (List.mem_cons_of_mem _ hw)
  have hown : s.vm.findClass RX2 = some m.cls := findClass_of_methodNamed B.named
  have hlocks := B.notSynchronized
  subst hsz
  have hD := hD0.self (sz := s.heap.size)
  generalize hAe : va_A (xW2 cI cT h hh aa S) s.heap.size = A at hD hX ⊢
  have hU := hX.1
  have hNN := hX.2.1
  have hXw := hX.2.2.1
  have hXs := hX.2.2.2
  have hA : ∀ q : Nat, s.heap.size ≤ q → A q := fun q h => by rw [← hAe]; exact Or.inr h
  have hS : va_S A s.heap s.heap [] := va_S.rf
  have hl := lv_entry ([.ref h, .int p1, .long p2]) (n := 7) (Nat.le_of_ble_eq_true rfl)
  rw [lg_entry_eq]
  generalize (lg_sl ([.ref h, .int p1, .long p2]) ++ List.replicate (7 - (lg_sl ([.ref h, .int p1, .long p2])).length) Slot.unset).toArray = ls at hl ⊢
  have hl : lv_has ls 7 [(0, .ref h), (1, .int p1), (2, .long p2)] := hl
  generalize hQ : vx_MQ below (va_Qi (fun r u => R = (r, (0, u))) (fun u t => va_P D vwCl (xW2 cI cT h hh aa u) t.heap) A) (vx_X (fun u : Nat × zx_B => R = (0, u) ∧ u.1 ≠ 0) (fun E u t => E = zx_E u.1 ∧ va_P D vwCl (xW2 cI cT h hh aa u.2) t.heap) A) ([.ref h, .int p1, .long p2] : List Value).toArray s 1 6 A = Q9
  replace hQ := hQ.symm
  unfold f_X2_runScript at hM
  have j10 : ∀ (S_ : zx_B) (H : Heap) (lc : List Loc) (ls : Array Slot), va_P D vwCl (xW2 cI cT h hh aa S_) H → va_D A (xW2 cI cT h hh aa S_) → va_S A s.heap H lc → lv_has ls 7 [] → f_X2_runScript_j10 N S_ = some R → W p l e (headSpec zsX2_runScript rmX2_runScript).room s m ([.ref h, .int p1, .long p2] : List Value).toArray below meth c H lc 0 0 Q9 (F0 m 10 ls []) := by
    intro S_ H lc ls hP hD hS hl hM
    unfold f_X2_runScript_j10 at hM
    rw [hQ]
    exact zx_thr1 hx hb hlt hown (hts _ zw_4_14) (hts _ zw_4_15) (hXs _ _ (zx_str_217)) hts hXw hU hNN hS (hl.1.trans hml.symm) dX2_runScript_10 dX2_runScript_13 dX2_runScript_14 dX2_runScript_16 dX2_runScript_19 hout (Nat.le_of_ble_eq_true rfl) (Nat.le_of_ble_eq_true rfl) (Nat.le_of_ble_eq_true rfl) (Nat.le_of_ble_eq_true rfl) hlocks (fun t hvm hz hk => zx_XC (Option.some.inj hM).symm (by decide) rfl hP hS hz hk) hS.2.2 (Nat.le_of_ble_eq_true rfl) (Nat.le_of_ble_eq_true rfl)
  refine lv_iload_n hx hb dX2_runScript_0 rfl (lv_at hl 1 rfl) ?_
  refine lv_iconst (v := 1) hx hb dX2_runScript_1 (by decide) ?_
  refine lv_icmp_lt (tgt := 10) hx hb dX2_runScript_2 (by decide) (fun q1 => ?_) (fun q1 => ?_)
  · replace hM := zx_t q1 hM
    exact j10 S _ _ _ hP hD hS (lv_sub hl [] rfl) hM
  · replace hM := zx_f q1 hM
    refine lv_iload_n hx hb dX2_runScript_5 rfl (lv_at hl 1 rfl) ?_
    refine lv_iconst (v := 2) hx hb dX2_runScript_6 (by decide) ?_
    refine lv_icmp_le (tgt := 20) hx hb dX2_runScript_7 (by decide) (fun q2 => ?_) (fun q2 => ?_)
    · replace hM := zx_t q2 hM
      have j45 : ∀ (S_ : zx_B) (H : Heap) (lc : List Loc) (ls : Array Slot), va_P D vwCl (xW2 cI cT h hh aa S_) H → va_D A (xW2 cI cT h hh aa S_) → va_S A s.heap H lc → lv_has ls 7 [] → f_X2_runScript_j45 N S_ = some R → W p l e (headSpec zsX2_runScript rmX2_runScript).room s m ([.ref h, .int p1, .long p2] : List Value).toArray below meth c H lc 0 0 Q9 (F0 m 45 ls []) := by
        intro S_ H lc ls hP hD hS hl hM
        unfold f_X2_runScript_j45 at hM
        rw [hQ]
        exact zx_thr1 hx hb hlt hown (hts _ zw_4_14) (hts _ zw_4_15) (hXs _ _ (zx_str_223)) hts hXw hU hNN hS (hl.1.trans hml.symm) dX2_runScript_45 dX2_runScript_48 dX2_runScript_49 dX2_runScript_51 dX2_runScript_54 hout (Nat.le_of_ble_eq_true rfl) (Nat.le_of_ble_eq_true rfl) (Nat.le_of_ble_eq_true rfl) (Nat.le_of_ble_eq_true rfl) hlocks (fun t hvm hz hk => zx_XC (Option.some.inj hM).symm (by decide) rfl hP hS hz hk) hS.2.2 (Nat.le_of_ble_eq_true rfl) (Nat.le_of_ble_eq_true rfl)
      refine lv_lload_n hx hb dX2_runScript_20 rfl (lv_at hl 2 rfl) ?_
      refine lv_lconst (v := 0) hx hb dX2_runScript_21 (by decide) ?_
      refine W.lcmp hx hb dX2_runScript_22 ?_
      refine lv_if_lt (tgt := 45) hx hb dX2_runScript_23 (by decide) (fun q3 => ?_) (fun q3 => ?_)
      · replace hM := zx_t q3 hM
        exact j45 S _ _ _ hP hD hS (lv_sub hl [] rfl) hM
      · replace hM := zx_f q3 hM
        have j41 : ∀ (v1 : Int32) (v2 : Int64) (t0 : Int64) (t1 : Int64) (S_ : zx_B) (H : Heap) (lc : List Loc) (ls : Array Slot), va_P D vwCl (xW2 cI cT h hh aa S_) H → va_D A (xW2 cI cT h hh aa S_) → va_S A s.heap H lc → lv_has ls 7 [(0, .ref h), (1, .int v1), (2, .long v2)] → f_X2_runScript_j41 N v1 v2 t0 t1 S_ = some R → W p l e (headSpec zsX2_runScript rmX2_runScript).room s m ([.ref h, .int p1, .long p2] : List Value).toArray below meth c H lc 0 0 Q9 (F0 m 41 ls [.long t1, .long t0]) := by
          intro v1 v2 t0 t1 S_ H lc ls hP hD hS hl hM
          unfold f_X2_runScript_j41 at hM
          refine W.lcmp hx hb dX2_runScript_41 ?_
          refine lv_if_lt (tgt := 55) hx hb dX2_runScript_42 (by decide) (fun q4 => ?_) (fun q4 => ?_)
          · replace hM := zx_t q4 hM
            have l69 : ∀ (n69 : Nat) (v1 : Int32) (v2 : Int64) (v4 : Int32) (S_ : zx_B) (H : Heap) (lc : List Loc) (ls : Array Slot), va_P D vwCl (xW2 cI cT h hh aa S_) H → va_D A (xW2 cI cT h hh aa S_) → va_S A s.heap H lc → lv_has ls 7 [(0, .ref h), (1, .int v1), (2, .long v2), (4, .int v4)] → f_X2_runScript_l69 N n69 v1 v2 v4 S_ = some R → W p l e (headSpec zsX2_runScript rmX2_runScript).room s m ([.ref h, .int p1, .long p2] : List Value).toArray below meth c H lc 0 0 Q9 (F0 m 69 ls []) := by
              intro n69
              induction n69 with
              | zero =>
                intro v1 v2 v4 S_ H lc ls hP hD hS hl hM
                rw [f_X2_runScript_l69] at hM; exact absurd hM (by intro h; cases h)
              | succ n69 ih69 =>
                intro v1 v2 v4 S_ H lc ls hP hD hS hl hM
                rw [f_X2_runScript_l69] at hM
                refine lv_iload hx hb dX2_runScript_69 (lv_at hl 3 rfl) ?_
                refine lv_iload_n hx hb dX2_runScript_71 rfl (lv_at hl 1 rfl) ?_
                refine lv_icmp_ge (tgt := 117) hx hb dX2_runScript_72 (by decide) (fun q5 => ?_) (fun q5 => ?_)
                · replace hM := zx_t q5 hM
                  refine lv_iconst (v := (-1)) hx hb dX2_runScript_117 (by decide) ?_
                  rw [hQ]
                  refine vx_ret ?_
                  refine W.widen (k := 1) (n := 6) (Nat.le_of_ble_eq_true rfl) (Nat.le_of_ble_eq_true rfl) ?_
                  exact W.iret hx hb hr (fun t ht hW => ⟨⟨(-1), S_, rfl, (Option.some.inj hM).symm, by show va_P D vwCl _ t.heap; rw [ht]; exact hP⟩, hS.F ht⟩) hS.2.2 dX2_runScript_118
                · replace hM := zx_f q5 hM
                  have j96 : ∀ (v1 : Int32) (v2 : Int64) (v4 : Int32) (t0 : Int64) (S_ : zx_B) (H : Heap) (lc : List Loc) (ls : Array Slot), va_P D vwCl (xW2 cI cT h hh aa S_) H → va_D A (xW2 cI cT h hh aa S_) → va_S A s.heap H lc → lv_has ls 7 [(0, .ref h), (1, .int v1), (2, .long v2), (4, .int v4)] → f_X2_runScript_j96 N (f_X2_runScript_l69 N  n69) v1 v2 v4 t0 S_ = some R → W p l e (headSpec zsX2_runScript rmX2_runScript).room s m ([.ref h, .int p1, .long p2] : List Value).toArray below meth c H lc 0 0 Q9 (F0 m 96 ls [.long t0]) := by
                    intro v1 v2 v4 t0 S_ H lc ls hP hD hS hl hM
                    unfold f_X2_runScript_j96 at hM
                    refine lv_lstore (lv' := [(5, .long t0), (0, .ref h), (1, .int v1), (2, .long v2), (4, .int v4)]) hx hb dX2_runScript_96 hl (by decide) rfl (fun ls hl => ?_)
                    refine lv_aload_n hx hb dX2_runScript_98 rfl (lv_at hl 1 rfl) ?_
                    refine lv_lload hx hb dX2_runScript_99 (lv_at hl 0 rfl) ?_
                    refine lv_l2i hx hb dX2_runScript_101 rfl ?_
                    obtain ⟨x6, T7, hz8, hM⟩ := zx_b2E hM
                    refine va_calli (va_runV (As := [.int (Int64.toInt32 t0)]) (rest := []) ⟨hx, hb, hml, hown, hts⟩ (c_X2_succeeds l D cI cZ cT h hh aa S_ _ N (Int64.toInt32 t0) hz8) (cwV 1 hts (zg_V zw_19_21 zw_19_22 zw_19_23 zw_1_2 zw_20_0) rfl rfl rfl ⟨rfl, zyX2_succeeds⟩ ⟨Nat.le_of_ble_eq_true rfl, Nat.le_of_ble_eq_true rfl⟩) ⟨bS_blind, va_recv hK hP (ci := 2) (q0 := 0) rfl rfl, bS_pre hP hK hD hN⟩ rfl rfl hl.1 rfl (lv_room (Nat.le_of_ble_eq_true rfl)) dX2_runScript_102 ⟨Nat.zero_le _, Nat.zero_le _⟩) hS (fun q _ h => zx_fW hD hS hA q h) (fun q h => zx_fW hD hS hA q h) (fun r u t H1 lc ht hvm hw hB hz1 hk1 hS => ?_)
                    obtain ⟨hw1, hw2⟩ := Prod.mk.inj hw; subst hw1; subst hw2
                    rw [ht] at hB
                    replace hP := hB
                    replace hD := zx2_Da T7 hD
                    refine lv_if_ne (tgt := 111) hx hb dX2_runScript_105 (by decide) (fun q9 => ?_) (fun q9 => ?_)
                    · replace hM := zx_f q9 hM
                      obtain ⟨x10, ex10, hM⟩ := zx_nE hM
                      refine lv_iinc (v := x10) (lv' := [(4, .int x10), (5, .long t0), (0, .ref h), (1, .int v1), (2, .long v2)]) hx hb dX2_runScript_111 hl (k := 4) rfl (by rw [ex10]; rfl) (by decide) rfl (fun ls hl => ?_)
                      refine lv_goto (tgt := 69) hx hb dX2_runScript_114 (by decide) ?_
                      exact ih69 v1 v2 x10 T7 _ _ _ hP hD hS (lv_sub hl [2, 3, 4, 0] rfl) hM
                    · replace hM := zx_t q9 hM
                      refine lv_iload hx hb dX2_runScript_108 (lv_at hl 4 rfl) ?_
                      rw [hQ]
                      refine vx_ret ?_
                      refine W.widen (k := 1) (n := 6) (Nat.le_of_ble_eq_true rfl) (Nat.le_of_ble_eq_true rfl) ?_
                      exact W.iret hx hb hr (fun t ht hW => ⟨⟨v4, T7, rfl, (Option.some.inj hM).symm, by show va_P D vwCl _ t.heap; rw [ht]; exact hP⟩, hS.F ht⟩) hS.2.2 dX2_runScript_110
                  refine lv_iload hx hb dX2_runScript_75 (lv_at hl 3 rfl) ?_
                  refine lv_iload_n hx hb dX2_runScript_77 rfl (lv_at hl 1 rfl) ?_
                  refine lv_iconst (v := 1) hx hb dX2_runScript_78 (by decide) ?_
                  refine lv_isub hx hb dX2_runScript_79 ?_
                  refine lv_icmp_ne (tgt := 91) hx hb dX2_runScript_80 (by decide) (fun q11 => ?_) (fun q11 => ?_)
                  · replace hM := zx_f q11 hM
                    refine lv_lload_n hx hb dX2_runScript_91 rfl (lv_at hl 2 rfl) ?_
                    refine lv_ldc2 (v := 1000000000) hx hb hown (hts _ zw_19_19) dX2_runScript_92 ?_
                    refine lv_ldiv hx hb dX2_runScript_95 (by decide) ?_
                    obtain ⟨x12, ex12, hM⟩ := zx_nE hM
                    refine zx_topl ex12 ?_
                    exact j96 v1 v2 v4 x12 S_ _ _ _ hP hD hS (lv_sub hl [0, 1, 2, 3] rfl) hM
                  · replace hM := zx_t q11 hM
                    refine lv_lload_n hx hb dX2_runScript_83 rfl (lv_at hl 2 rfl) ?_
                    refine lv_ldc2 (v := 1000000000) hx hb hown (hts _ zw_19_19) dX2_runScript_84 ?_
                    refine lv_lrem hx hb dX2_runScript_87 (by decide) ?_
                    obtain ⟨x13, ex13, hM⟩ := zx_nE hM
                    refine zx_topl ex13 ?_
                    refine lv_goto (tgt := 96) hx hb dX2_runScript_88 (by decide) ?_
                    exact j96 v1 v2 v4 x13 S_ _ _ _ hP hD hS (lv_sub hl [0, 1, 2, 3] rfl) hM
            refine lv_aload_n hx hb dX2_runScript_55 rfl (lv_at hl 0 rfl) ?_
            refine va_get (D := D) (ci := 2) (v := .ref (hh 1)) (C := RX2) (T := TX2) (N := 8) hx hb hts inlX2 hown hK hP 0 rfl rfl 1 (by decide) (hts _ zw_1_16) (fun _ h9 => h9) rfl dX2_runScript_56 ?_
            refine lv_aload_n hx hb dX2_runScript_59 rfl (lv_at hl 0 rfl) ?_
            refine va_get (D := D) (ci := 2) (v := .ref (hh 0)) (C := RX2) (T := TX2) (N := 8) hx hb hts inlX2 hown hK hP 0 rfl rfl 0 (by decide) (hts _ zw_1_15) (fun _ h9 => h9) rfl dX2_runScript_60 ?_
            obtain ⟨T14, hz15, hM⟩ := zx_b1E hM
            refine va_callv (va_runV (As := [.ref (hh 0)]) (rest := []) ⟨hx, hb, hml, hown, hts⟩ (c_X1_takeOver l D cI cZ cT (hh 1) (aa 1) (S_ 1) (hh 0) (aa 0) (S_ 0) _ N hz15) (cwV 1 hts (zg_V zw_10_13 zw_10_14 zw_10_15 zw_1_14 zw_10_16) rfl rfl rfl ⟨rfl, zyX1_takeOver⟩ ⟨Nat.le_of_ble_eq_true rfl, Nat.le_of_ble_eq_true rfl⟩) ⟨bS_blind, va_recv hK (zx2_P2 (show 1 < 18 by decide) (show 0 < 18 by decide) hP) (ci := 1) (q0 := 0) rfl rfl, bS_pre (zx2_P2 (show 1 < 18 by decide) (show 0 < 18 by decide) hP) hK (zx2_D2 (show 1 < 18 by decide) (show 0 < 18 by decide) (by omega) hD) hN⟩ rfl rfl hl.1 rfl (lv_room (Nat.le_of_ble_eq_true rfl)) dX2_runScript_63 ⟨Nat.zero_le _, Nat.zero_le _⟩) hS (fun q _ h => zx_fW (zx2_D2 (show 1 < 18 by decide) (show 0 < 18 by decide) (by omega) hD) hS hA q h) (fun q h => zx_fW (zx2_D2 (show 1 < 18 by decide) (show 0 < 18 by decide) (by omega) hD) hS hA q h) (fun u t H1 lc ht hvm hw hB hz1 hk1 hS => ?_)
            replace hw : T14 = u := hw; subst hw
            rw [ht] at hB
            replace hP := zx2_S2 (show 1 < 18 by decide) (show 0 < 18 by decide) (by omega) hP hD hk1 hB
            obtain ⟨T16, eT16, hM⟩ := zx_nE hM
            rw [← eT16] at hP
            replace hD := zx2_Da T16 hD
            refine lv_iconst (v := 0) hx hb dX2_runScript_66 (by decide) ?_
            refine lv_istore (lv' := [(4, .int 0), (0, .ref h), (1, .int v1), (2, .long v2)]) hx hb dX2_runScript_67 hl (by decide) rfl (fun ls hl => ?_)
            exact l69 N v1 v2 0 T16 _ _ _ hP hD hS (lv_sub hl [1, 2, 3, 0] rfl) hM
          · replace hM := zx_f q4 hM
            exact j45 S_ _ _ _ hP hD hS (lv_sub hl [] rfl) hM
        refine lv_lload_n hx hb dX2_runScript_26 rfl (lv_at hl 2 rfl) ?_
        refine lv_iload_n hx hb dX2_runScript_27 rfl (lv_at hl 1 rfl) ?_
        refine lv_iconst (v := 1) hx hb dX2_runScript_28 (by decide) ?_
        refine lv_icmp_ne (tgt := 38) hx hb dX2_runScript_29 (by decide) (fun q17 => ?_) (fun q17 => ?_)
        · replace hM := zx_f q17 hM
          refine lv_ldc2 (v := 1000000000000000000) hx hb hown (hts _ zw_19_20) dX2_runScript_38 ?_
          exact j41 p1 p2 p2 1000000000000000000 S _ _ _ hP hD hS (lv_sub hl [0, 1, 2] rfl) hM
        · replace hM := zx_t q17 hM
          refine lv_ldc2 (v := 1000000000) hx hb hown (hts _ zw_19_19) dX2_runScript_32 ?_
          refine lv_goto (tgt := 41) hx hb dX2_runScript_35 (by decide) ?_
          exact j41 p1 p2 p2 1000000000 S _ _ _ hP hD hS (lv_sub hl [0, 1, 2] rfl) hM
    · replace hM := zx_f q2 hM
      exact j10 S _ _ _ hP hD hS (lv_sub hl [] rfl) hM
