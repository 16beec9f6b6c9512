/-! ShallowBoxesModel.takeOut([II)V -/
def f_X3_takeOut_j213 (N : Nat) (w : Nat) (k181 : Int32 → zx_S → Option (zx_S)) (v4 : Int32) (S_ : zx_S) : Option (zx_S) :=
  (zx_n (v4 + 1) (fun x3 =>
k181 x3 S_))
def f_X3_takeOut_l181 (N : Nat) (w : Nat) : Nat → Int32 → zx_S → Option (zx_S)
  | 0, _, _ => none
  | n181 + 1, v4, S_ => (if 6 ≤ v4 then
  some S_ else
  (zx_rd 6 (S_ 8) v4 (fun x4 =>
(if x4 = (-1) then
  f_X3_takeOut_j213 N w (f_X3_takeOut_l181 N w  n181) v4 S_ else
  (zx_rd 6 (S_ 8) v4 (fun x7 =>
(zx_b1 (f_X3_putIn N w x7 v4 S_) (fun T9 =>
f_X3_takeOut_j213 N w (f_X3_takeOut_l181 N w  n181) v4 T9))))))))
def f_X3_takeOut_j178 (N : Nat) (w : Nat) (S_ : zx_S) : Option (zx_S) :=
  f_X3_takeOut_l181 N w  N 0 S_
def f_X3_takeOut_l119 (N : Nat) (w : Nat) : Nat → zx_S → Option (zx_S)
  | 0, _ => none
  | n119 + 1, S_ => (zx_rd 380 (S_ w) 376 (fun x11 =>
(zx_b1 (f_X3_levelOf N 380 x11 (S_ w)) (fun x13 =>
(if x13 ≤ 0 then
  f_X3_takeOut_j178 N w  S_ else
  (zx_rd 380 (S_ w) 376 (fun x16 =>
(zx_b1 (f_X3_many N 380 x16 (S_ w)) (fun x18 =>
(if x18 = 1 then
  (zx_rd 380 (S_ w) 376 (fun x21 =>
(zx_b1 (f_X3_entryOf N 380 x21 0 (S_ w)) (fun x23 =>
(zx_n (x23 - 24) (fun x25 =>
(zx_rd 380 (S_ w) 376 (fun x26 =>
(zx_b1 (f_X3_clearSlot N 380 x26 (S_ w)) (fun g28 =>
(zx_n (zx_st S_ w g28) (fun T30 =>
(zx_wr 380 376 (zx_st T30 w (upd (T30 w) (Int32.toNatClampNeg 376) x25)) (fun T31 =>
f_X3_takeOut_l119 N w  n119 T31)))))))))))))) else
  f_X3_takeOut_j178 N w  S_))))))))))
def f_X3_takeOut_j88 (N : Nat) (w : Nat) (k33 : Int32 → zx_S → Option (zx_S)) (v3 : Int32) (v4 : Int32) (t1 : Int32) (t2 : Int32) (S_ : zx_S) : Option (zx_S) :=
  (zx_wr 6 t1 (zx_st S_ 8 (upd (S_ 8) (Int32.toNatClampNeg t1) t2)) (fun T39 =>
(zx_b1 (f_X3_cutOut N 380 v4 (24 + v3) (T39 w)) (fun g41 =>
(zx_n (zx_st T39 w g41) (fun T43 =>
(zx_b1 (f_X3_clearSlot N 380 v3 (T43 w)) (fun g44 =>
(zx_n (zx_st T43 w g44) (fun T46 =>
(zx_rd 380 (T46 w) 379 (fun x47 =>
(zx_wr 380 379 (zx_st T46 w (upd (T46 w) (Int32.toNatClampNeg 379) (x47 + 1))) (fun T49 =>
k33 v4 T49))))))))))))))
def f_X3_takeOut_l33 (N : Nat) (w : Nat) : Nat → Int32 → zx_S → Option (zx_S)
  | 0, _, _ => none
  | n33 + 1, v3, S_ => (zx_rd 380 (S_ w) 376 (fun x33 =>
(if v3 = x33 then
  f_X3_takeOut_l119 N w  N S_ else
  (zx_b1 (f_X3_many N 380 v3 (S_ w)) (fun x36 =>
(if 2 ≤ x36 then
  f_X3_takeOut_l119 N w  N S_ else
  (zx_b1 (f_X3_nodeWith N 380 (24 + v3) (S_ w)) (fun x51 =>
(zx_b1 (f_X3_levelOf N 380 v3 (S_ w)) (fun x53 =>
(zx_b1 (f_X3_many N 380 v3 (S_ w)) (fun x55 =>
(if x55 = 0 then
  f_X3_takeOut_j88 N w (f_X3_takeOut_l33 N w  n33) v3 x51 x53 (-1) S_ else
  (zx_b1 (f_X3_entryOf N 380 v3 0 (S_ w)) (fun x58 =>
f_X3_takeOut_j88 N w (f_X3_takeOut_l33 N w  n33) v3 x51 x53 x58 S_)))))))))))))))
def f_X3_takeOut_l2 (N : Nat) (w : Nat) : Nat → Int32 → Int32 → zx_S → Option (zx_S)
  | 0, _, _, _ => none
  | n2 + 1, v2, v3, S_ => (if 6 ≤ v3 then
  (zx_b1 (f_X3_nodeWith N 380 v2 (S_ w)) (fun x60 =>
(zx_b1 (f_X3_cutOut N 380 x60 v2 (S_ w)) (fun g62 =>
(zx_n (zx_st S_ w g62) (fun T64 =>
f_X3_takeOut_l33 N w  N x60 T64)))))) else
  (zx_wr 6 v3 (zx_st S_ 8 (upd (S_ 8) (Int32.toNatClampNeg v3) (-1))) (fun T65 =>
(zx_n (v3 + 1) (fun x67 =>
f_X3_takeOut_l2 N w  n2 v2 x67 T65)))))
def f_X3_takeOut (N : Nat) (w : Nat) (p2 : Int32) (S : zx_S) : Option (zx_S) :=
  f_X3_takeOut_l2 N w  N p2 0 S
abbrev rmX3_takeOut : Room := { frames := 7, cells := 0, slots := 0, locals := 169 }
abbrev zsX3_takeOut : List Cond := .code yX3_takeOut cX3_takeOut 5 none :: wsL_law
theorem zyX3_takeOut : yX3_takeOut.cls ≠ "java/lang/invoke/MethodHandle" ∧ yX3_takeOut.cls ≠ "java/lang/invoke/VarHandle" ∧ (parseMethodDescriptor yX3_takeOut.desc).map (fun d => d.parameters.length) = some 2 := by decide +kernel
set_option maxHeartbeats 4000000 in
set_option maxRecDepth 100000 in
theorem c_X3_takeOut (l : Launch) (D : va_G) (cI cZ cT : ClassId) (h : Nat) (ad : Nat → Nat) (S : zx_S) (sz : Nat) (N : Nat) (w : Nat) (hrw : w = 1 ∨ w = 2) (p2 : Int32) {R : zx_S} (hM : f_X3_takeOut N w p2 S = some R) : Met l yX3_takeOut zsX3_takeOut rmX3_takeOut (va_Pc [.ref h, .ref (ad w), .int p2] (bS D (zx_ty cI cZ cT) (xW3 cI cZ h ad S) sz)) (va_Qv (fun u => R = u) (fun u t => va_P D vwCl (xW3 cI cZ h ad u) t.heap) (va_A (xW3 cI cZ h ad S) sz)) 0 0 (va_A (xW3 cI cZ h ad S) sz) := by
  refine Met.ofW (cc := cX3_takeOut) (maxL := 5) (ret := none) (by decide) rfl ?_
  intro p e s m args below meth c s₁ B hml hv
  obtain ⟨rfl, hsz, hP, hK, hD0, hN⟩ := hv
  have hx := B.exec
  have hb := B.bytes
  have hr := B.returns
  have hts : ∀ w ∈ wsL_law, w.before _ s = true := fun w hw => atoms_spec (ws := zsX3_takeOut) B.pre w (List.mem_cons_of_mem _ hw)
  have hown : s.vm.findClass RX3 = some m.cls := findClass_of_methodNamed B.named
  have hlocks := B.notSynchronized
  subst hsz
  have hD := hD0.self (sz := s.heap.size)
  generalize hAe : va_A (xW3 cI cZ h ad S) s.heap.size = A at hD ⊢
  have hA : ∀ q : Nat, s.heap.size ≤ q → A q := fun q h => by rw [← hAe]; exact Or.inr h
  have hS : va_S A s.heap s.heap [] := va_S.rf
  have hl := lv_entry ([.ref h, .ref (ad w), .int p2]) (n := 5) (Nat.le_of_ble_eq_true rfl)
  rw [lg_entry_eq]
  generalize (lg_sl ([.ref h, .ref (ad w), .int p2]) ++ List.replicate (5 - (lg_sl ([.ref h, .ref (ad w), .int p2])).length) Slot.unset).toArray = ls at hl ⊢
  have hl : lv_has ls 5 [(0, .ref h), (1, .ref (ad w)), (2, .int p2)] := hl
  generalize hQ : MQ below (va_Qv (fun u => R = u) (fun u t => va_P D vwCl (xW3 cI cZ h ad u) t.heap) A) ([.ref h, .ref (ad w), .int p2] : List Value).toArray s 0 0 A = Q9
  replace hQ := hQ.symm
  unfold f_X3_takeOut at hM
  have l2 : ∀ (n2 : Nat) (v2 : Int32) (v3 : Int32) (S_ : zx_S) (H : Heap) (lc : List Loc) (ls : Array Slot), va_P D vwCl (xW3 cI cZ h ad S_) H → va_D A (xW3 cI cZ h ad S_) → va_S A s.heap H lc → lv_has ls 5 [(0, .ref h), (1, .ref (ad w)), (2, .int v2), (3, .int v3)] → f_X3_takeOut_l2 N w n2 v2 v3 S_ = some R → W p l e (headSpec zsX3_takeOut rmX3_takeOut).room s m ([.ref h, .ref (ad w), .int p2] : List Value).toArray below meth c H lc 0 0 Q9 (F0 m 2 ls []) := by
    intro n2
    induction n2 with
    | zero =>
      intro v2 v3 S_ H lc ls hP hD hS hl hM
      rw [f_X3_takeOut_l2] at hM; exact absurd hM (by intro h; cases h)
    | succ n2 ih2 =>
      intro v2 v3 S_ H lc ls hP hD hS hl hM
      rw [f_X3_takeOut_l2] at hM
      refine lv_iload_n hx hb dX3_takeOut_2 rfl (lv_at hl 3 rfl) ?_
      refine lv_bipush (v := 6) hx hb dX3_takeOut_3 (by decide) ?_
      refine lv_icmp_ge (tgt := 21) hx hb dX3_takeOut_5 (by decide) (fun q1 => ?_) (fun q1 => ?_)
      · replace hM := zx_t q1 hM
        have l33 : ∀ (n33 : Nat) (v3 : Int32) (S_ : zx_S) (H : Heap) (lc : List Loc) (ls : Array Slot), va_P D vwCl (xW3 cI cZ h ad S_) H → va_D A (xW3 cI cZ h ad S_) → va_S A s.heap H lc → lv_has ls 5 [(0, .ref h), (1, .ref (ad w)), (3, .int v3)] → f_X3_takeOut_l33 N w n33 v3 S_ = some R → W p l e (headSpec zsX3_takeOut rmX3_takeOut).room s m ([.ref h, .ref (ad w), .int p2] : List Value).toArray below meth c H lc 0 0 Q9 (F0 m 33 ls []) := by
          intro n33
          induction n33 with
          | zero =>
            intro v3 S_ H lc ls hP hD hS hl hM
            rw [f_X3_takeOut_l33] at hM; exact absurd hM (by intro h; cases h)
          | succ n33 ih33 =>
            intro v3 S_ H lc ls hP hD hS hl hM
            rw [f_X3_takeOut_l33] at hM
            have l119 : ∀ (n119 : Nat) (S_ : zx_S) (H : Heap) (lc : List Loc) (ls : Array Slot), va_P D vwCl (xW3 cI cZ h ad S_) H → va_D A (xW3 cI cZ h ad S_) → va_S A s.heap H lc → lv_has ls 5 [(0, .ref h), (1, .ref (ad w))] → f_X3_takeOut_l119 N w n119 S_ = some R → W p l e (headSpec zsX3_takeOut rmX3_takeOut).room s m ([.ref h, .ref (ad w), .int p2] : List Value).toArray below meth c H lc 0 0 Q9 (F0 m 119 ls []) := by
              intro n119
              induction n119 with
              | zero =>
                intro S_ H lc ls hP hD hS hl hM
                rw [f_X3_takeOut_l119] at hM; exact absurd hM (by intro h; cases h)
              | succ n119 ih119 =>
                intro S_ H lc ls hP hD hS hl hM
                rw [f_X3_takeOut_l119] at hM
                have j178 : ∀ (S_ : zx_S) (H : Heap) (lc : List Loc) (ls : Array Slot), va_P D vwCl (xW3 cI cZ h ad S_) H → va_D A (xW3 cI cZ h ad S_) → va_S A s.heap H lc → lv_has ls 5 [(0, .ref h), (1, .ref (ad w))] → f_X3_takeOut_j178 N w S_ = some R → W p l e (headSpec zsX3_takeOut rmX3_takeOut).room s m ([.ref h, .ref (ad w), .int p2] : List Value).toArray below meth c H lc 0 0 Q9 (F0 m 178 ls []) := by
                  intro S_ H lc ls hP hD hS hl hM
                  unfold f_X3_takeOut_j178 at hM
                  have l181 : ∀ (n181 : Nat) (v4 : Int32) (S_ : zx_S) (H : Heap) (lc : List Loc) (ls : Array Slot), va_P D vwCl (xW3 cI cZ h ad S_) H → va_D A (xW3 cI cZ h ad S_) → va_S A s.heap H lc → lv_has ls 5 [(0, .ref h), (1, .ref (ad w)), (4, .int v4)] → f_X3_takeOut_l181 N w n181 v4 S_ = some R → W p l e (headSpec zsX3_takeOut rmX3_takeOut).room s m ([.ref h, .ref (ad w), .int p2] : List Value).toArray below meth c H lc 0 0 Q9 (F0 m 181 ls []) := by
                    intro n181
                    induction n181 with
                    | zero =>
                      intro v4 S_ H lc ls hP hD hS hl hM
                      rw [f_X3_takeOut_l181] at hM; exact absurd hM (by intro h; cases h)
                    | succ n181 ih181 =>
                      intro v4 S_ H lc ls hP hD hS hl hM
                      rw [f_X3_takeOut_l181] at hM
                      refine lv_iload hx hb dX3_takeOut_181 (lv_at hl 2 rfl) ?_
                      refine lv_bipush (v := 6) hx hb dX3_takeOut_183 (by decide) ?_
                      refine lv_icmp_ge (tgt := 219) hx hb dX3_takeOut_185 (by decide) (fun q2 => ?_) (fun q2 => ?_)
                      · replace hM := zx_t q2 hM
                        rw [hQ]
                        exact W.vret hx hb hr (fun t ht hW => ⟨⟨S_, rfl, (Option.some.inj hM).symm, by show va_P D vwCl _ t.heap; rw [ht]; exact hP⟩, hS.F ht⟩) hS.2.2 dX3_takeOut_219
                      · replace hM := zx_f q2 hM
                        have j213 : ∀ (v4 : Int32) (S_ : zx_S) (H : Heap) (lc : List Loc) (ls : Array Slot), va_P D vwCl (xW3 cI cZ h ad S_) H → va_D A (xW3 cI cZ h ad S_) → va_S A s.heap H lc → lv_has ls 5 [(0, .ref h), (1, .ref (ad w)), (4, .int v4)] → f_X3_takeOut_j213 N w (f_X3_takeOut_l181 N w  n181) v4 S_ = some R → W p l e (headSpec zsX3_takeOut rmX3_takeOut).room s m ([.ref h, .ref (ad w), .int p2] : List Value).toArray below meth c H lc 0 0 Q9 (F0 m 213 ls []) := by
                          intro v4 S_ H lc ls hP hD hS hl hM
                          unfold f_X3_takeOut_j213 at hM
                          obtain ⟨x3, ex3, hM⟩ := zx_nE hM
                          refine lv_iinc (v := x3) (lv' := [(4, .int x3), (0, .ref h), (1, .ref (ad w))]) hx hb dX3_takeOut_213 hl (k := 2) rfl (by rw [ex3]; rfl) (by decide) rfl (fun ls hl => ?_)
                          refine lv_goto (tgt := 181) hx hb dX3_takeOut_216 (by decide) ?_
                          exact ih181 x3 S_ _ _ _ hP hD hS (lv_sub hl [1, 2, 0] rfl) hM
                        refine lv_aload_n hx hb dX3_takeOut_188 rfl (lv_at hl 0 rfl) ?_
                        refine va_get (D := D) (ci := 3) (v := .ref (ad 8)) (C := RX3) (T := TX3) (N := 20) hx hb hts inlX3 hown hK hP 0 rfl rfl 14 (by decide) (hts _ zw_4_3) (fun _ h9 => h9) rfl dX3_takeOut_189 ?_
                        refine lv_iload hx hb dX3_takeOut_192 (lv_at hl 2 rfl) ?_
                        obtain ⟨x4, q5, ex4, hM⟩ := zx_rdE hM
                        refine va_iald (D := D) hx hb hK hP 9 0 rfl rfl q5 dX3_takeOut_194 ?_
                        refine zx_top ex4 ?_
                        refine lv_iconst (v := (-1)) hx hb dX3_takeOut_195 (by decide) ?_
                        refine lv_icmp_eq (tgt := 213) hx hb dX3_takeOut_196 (by decide) (fun q6 => ?_) (fun q6 => ?_)
                        · replace hM := zx_t q6 hM
                          exact j213 v4 S_ _ _ _ hP hD hS (lv_sub hl [0, 1, 2] rfl) hM
                        · replace hM := zx_f q6 hM
                          refine lv_aload_n hx hb dX3_takeOut_199 rfl (lv_at hl 0 rfl) ?_
                          refine lv_aload_n hx hb dX3_takeOut_200 rfl (lv_at hl 1 rfl) ?_
                          refine lv_aload_n hx hb dX3_takeOut_201 rfl (lv_at hl 0 rfl) ?_
                          refine va_get (D := D) (ci := 3) (v := .ref (ad 8)) (C := RX3) (T := TX3) (N := 20) hx hb hts inlX3 hown hK hP 0 rfl rfl 14 (by decide) (hts _ zw_4_3) (fun _ h9 => h9) rfl dX3_takeOut_202 ?_
                          refine lv_iload hx hb dX3_takeOut_205 (lv_at hl 2 rfl) ?_
                          obtain ⟨x7, q8, ex7, hM⟩ := zx_rdE hM
                          refine va_iald (D := D) hx hb hK hP 9 0 rfl rfl q8 dX3_takeOut_207 ?_
                          refine zx_top ex7 ?_
                          refine lv_iload hx hb dX3_takeOut_208 (lv_at hl 2 rfl) ?_
                          obtain ⟨T9, hz10, hM⟩ := zx_b1E hM
                          refine va_callv (va_runV (As := [.ref (ad w), .int x7, .int v4]) (rest := []) ⟨hx, hb, hml, hown, hts⟩ (c_X3_putIn l D cI cZ cT h ad S_ _ N w hrw x7 v4  hz10) (cwV 3 hts (zg_V zw_8_17 zw_8_18 zw_8_19 zw_1_5 zw_8_20) rfl rfl rfl ⟨rfl, zyX3_putIn⟩ ⟨Nat.le_of_ble_eq_true rfl, Nat.le_of_ble_eq_true rfl⟩) ⟨bS_blind, va_recv hK hP (ci := 3) (q0 := 0) rfl rfl, bS_pre hP hK hD hN⟩ rfl rfl hl.1 rfl (lv_room (Nat.le_of_ble_eq_true rfl)) dX3_takeOut_210 ⟨Nat.zero_le _, Nat.zero_le _⟩) hS (fun q _ h => zx_fW hD hS hA q h) (fun q h => zx_fW hD hS hA q h) (fun u t H1 lc ht hvm hw hB hz1 hk1 hS => ?_)
                          replace hw : T9 = u := hw; subst hw
                          rw [ht] at hB
                          replace hP := hB
                          replace hD := xW3_D T9 hD
                          exact j213 v4 T9 _ _ _ hP hD hS (lv_sub hl [0, 1, 2] rfl) hM
                  refine lv_iconst (v := 0) hx hb dX3_takeOut_178 (by decide) ?_
                  refine lv_istore (lv' := [(4, .int 0), (0, .ref h), (1, .ref (ad w))]) hx hb dX3_takeOut_179 hl (by decide) rfl (fun ls hl => ?_)
                  exact l181 N 0 S_ _ _ _ hP hD hS (lv_sub hl [1, 2, 0] rfl) hM
                refine lv_aload_n hx hb dX3_takeOut_119 rfl (lv_at hl 1 rfl) ?_
                refine lv_aload_n hx hb dX3_takeOut_120 rfl (lv_at hl 1 rfl) ?_
                refine lv_sipush (v := 376) hx hb dX3_takeOut_121 (by decide) ?_
                obtain ⟨x11, q12, ex11, hM⟩ := zx_rdE hM
                refine va_iald (D := D) hx hb hK hP (w + 1) 0 (xW3_aw hrw) rfl q12 dX3_takeOut_124 ?_
                refine zx_top ex11 ?_
                obtain ⟨x13, hz14, hM⟩ := zx_b1E hM
                refine va_calli (va_runS (As := [.ref (ad w), .int x11]) (rest := []) ⟨hx, hb, hml, hown, hts⟩ (c_X3_levelOf l D cI cZ cT (ad w) 380 (S_ w) _ N x11 hz14) (va_cwS 2 hts (zg_S zw_9_9 zw_9_10 zw_1_5 zw_9_11) rfl rfl rfl zyX3_levelOf ⟨Nat.le_of_ble_eq_true rfl, Nat.le_of_ble_eq_true rfl⟩) ⟨bS_blind, bS_pre (zx_P1 hP (w + 1) ((xW3_aw hrw))) hK (zx_D1 hD (w + 1) ((xW3_aw hrw))) hN⟩ rfl rfl hl.1 rfl (lv_room (Nat.le_of_ble_eq_true rfl)) dX3_takeOut_125 ⟨Nat.zero_le _, Nat.zero_le _⟩) hS (fun q h1 h2 => absurd h1 (Nat.not_lt.mpr h2)) (fun q h => hA q (Nat.le_trans hS.1 h)) (fun r u t H1 lc ht hvm hw hB hz1 hk1 hS => ?_)
                replace hw : x13 = r := hw; subst hw
                replace hP := zx_keep hP hk1
                refine lv_if_le (tgt := 178) hx hb dX3_takeOut_128 (by decide) (fun q15 => ?_) (fun q15 => ?_)
                · replace hM := zx_t q15 hM
                  exact j178 S_ _ _ _ hP hD hS (lv_sub hl [0, 1] rfl) hM
                · replace hM := zx_f q15 hM
                  refine lv_aload_n hx hb dX3_takeOut_131 rfl (lv_at hl 1 rfl) ?_
                  refine lv_aload_n hx hb dX3_takeOut_132 rfl (lv_at hl 1 rfl) ?_
                  refine lv_sipush (v := 376) hx hb dX3_takeOut_133 (by decide) ?_
                  obtain ⟨x16, q17, ex16, hM⟩ := zx_rdE hM
                  refine va_iald (D := D) hx hb hK hP (w + 1) 0 (xW3_aw hrw) rfl q17 dX3_takeOut_136 ?_
                  refine zx_top ex16 ?_
                  obtain ⟨x18, hz19, hM⟩ := zx_b1E hM
                  refine va_calli (va_runS (As := [.ref (ad w), .int x16]) (rest := []) ⟨hx, hb, hml, hown, hts⟩ (c_X3_many l D cI cZ cT (ad w) 380 (S_ w) _ N x16 hz19) (va_cwS 2 hts (zg_S zw_9_3 zw_9_4 zw_1_5 zw_9_5) rfl rfl rfl zyX3_many ⟨Nat.le_of_ble_eq_true rfl, Nat.le_of_ble_eq_true rfl⟩) ⟨bS_blind, bS_pre (zx_P1 hP (w + 1) ((xW3_aw hrw))) hK (zx_D1 hD (w + 1) ((xW3_aw hrw))) hN⟩ rfl rfl hl.1 rfl (lv_room (Nat.le_of_ble_eq_true rfl)) dX3_takeOut_137 ⟨Nat.zero_le _, Nat.zero_le _⟩) hS (fun q h1 h2 => absurd h1 (Nat.not_lt.mpr h2)) (fun q h => hA q (Nat.le_trans hS.1 h)) (fun r u t H1 lc ht hvm hw hB hz1 hk1 hS => ?_)
                  replace hw : x18 = r := hw; subst hw
                  replace hP := zx_keep hP hk1
                  refine lv_iconst (v := 1) hx hb dX3_takeOut_140 (by decide) ?_
                  refine lv_icmp_ne (tgt := 178) hx hb dX3_takeOut_141 (by decide) (fun q20 => ?_) (fun q20 => ?_)
                  · replace hM := zx_f q20 hM
                    exact j178 S_ _ _ _ hP hD hS (lv_sub hl [0, 1] rfl) hM
                  · replace hM := zx_t q20 hM
                    refine lv_aload_n hx hb dX3_takeOut_144 rfl (lv_at hl 1 rfl) ?_
                    refine lv_aload_n hx hb dX3_takeOut_145 rfl (lv_at hl 1 rfl) ?_
                    refine lv_sipush (v := 376) hx hb dX3_takeOut_146 (by decide) ?_
                    obtain ⟨x21, q22, ex21, hM⟩ := zx_rdE hM
                    refine va_iald (D := D) hx hb hK hP (w + 1) 0 (xW3_aw hrw) rfl q22 dX3_takeOut_149 ?_
                    refine zx_top ex21 ?_
                    refine lv_iconst (v := 0) hx hb dX3_takeOut_150 (by decide) ?_
                    obtain ⟨x23, hz24, hM⟩ := zx_b1E hM
                    refine va_calli (va_runS (As := [.ref (ad w), .int x21, .int 0]) (rest := []) ⟨hx, hb, hml, hown, hts⟩ (c_X3_entryOf l D cI cZ cT (ad w) 380 (S_ w) _ N x21 0 hz24) (va_cwS 3 hts (zg_S zw_9_12 zw_9_13 zw_1_5 zw_9_14) rfl rfl rfl zyX3_entryOf ⟨Nat.le_of_ble_eq_true rfl, Nat.le_of_ble_eq_true rfl⟩) ⟨bS_blind, bS_pre (zx_P1 hP (w + 1) ((xW3_aw hrw))) hK (zx_D1 hD (w + 1) ((xW3_aw hrw))) hN⟩ rfl rfl hl.1 rfl (lv_room (Nat.le_of_ble_eq_true rfl)) dX3_takeOut_151 ⟨Nat.zero_le _, Nat.zero_le _⟩) hS (fun q h1 h2 => absurd h1 (Nat.not_lt.mpr h2)) (fun q h => hA q (Nat.le_trans hS.1 h)) (fun r u t H1 lc ht hvm hw hB hz1 hk1 hS => ?_)
                    replace hw : x23 = r := hw; subst hw
                    replace hP := zx_keep hP hk1
                    refine lv_bipush (v := 24) hx hb dX3_takeOut_154 (by decide) ?_
                    refine lv_isub hx hb dX3_takeOut_156 ?_
                    obtain ⟨x25, ex25, hM⟩ := zx_nE hM
                    refine zx_top ex25 ?_
                    refine lv_istore (lv' := [(4, .int x25), (0, .ref h), (1, .ref (ad w))]) hx hb dX3_takeOut_157 hl (by decide) rfl (fun ls hl => ?_)
                    refine lv_aload_n hx hb dX3_takeOut_159 rfl (lv_at hl 2 rfl) ?_
                    refine lv_aload_n hx hb dX3_takeOut_160 rfl (lv_at hl 2 rfl) ?_
                    refine lv_sipush (v := 376) hx hb dX3_takeOut_161 (by decide) ?_
                    obtain ⟨x26, q27, ex26, hM⟩ := zx_rdE hM
                    refine va_iald (D := D) hx hb hK hP (w + 1) 0 (xW3_aw hrw) rfl q27 dX3_takeOut_164 ?_
                    refine zx_top ex26 ?_
                    obtain ⟨g28, hz29, hM⟩ := zx_b1E hM
                    refine va_callv (va_runS (As := [.ref (ad w), .int x26]) (rest := []) ⟨hx, hb, hml, hown, hts⟩ (c_X3_clearSlot l D cI cZ cT (ad w) 380 (S_ w) _ N x26 hz29) (va_cwS 2 hts (zg_S zw_11_19 zw_11_20 zw_1_5 zw_11_21) rfl rfl rfl zyX3_clearSlot ⟨Nat.le_of_ble_eq_true rfl, Nat.le_of_ble_eq_true rfl⟩) ⟨bS_blind, bS_pre (zx_P1 hP (w + 1) ((xW3_aw hrw))) hK (zx_D1 hD (w + 1) ((xW3_aw hrw))) hN⟩ rfl rfl hl.1 rfl (lv_room (Nat.le_of_ble_eq_true rfl)) dX3_takeOut_165 ⟨Nat.zero_le _, Nat.zero_le _⟩) hS (fun q _ h => zx_f1 hD hS hA (k := (w + 1)) (xW3_aw hrw) q h) (fun q h => zx_f1 hD hS hA (k := (w + 1)) (xW3_aw hrw) q h) (fun u t H1 lc ht hvm hw hB hz1 hk1 hS => ?_)
                    replace hw : g28 = u := hw; subst hw
                    rw [ht] at hB
                    replace hP := zx_set1 (k := (w + 1)) hP hD (xW3_aw hrw) hk1 hB
                    replace hD := va_D.set (p := (w + 1)) (e := .inl (cI, 380, .inl g28)) hD (xW3_aw hrw)
                    rw [xW3_paw hrw] at hP hD
                    obtain ⟨T30, eT30, hM⟩ := zx_nE hM
                    rw [← eT30] at hP hD
                    refine lv_aload_n hx hb dX3_takeOut_168 rfl (lv_at hl 2 rfl) ?_
                    refine lv_sipush (v := 376) hx hb dX3_takeOut_169 (by decide) ?_
                    refine lv_iload hx hb dX3_takeOut_172 (lv_at hl 0 rfl) ?_
                    obtain ⟨T31, q32, eT31, hM⟩ := zx_wrE hM
                    refine va_iast (D := D) hx hb hK hP hD hS (w + 1) 0 (xW3_aw hrw) rfl q32 dX3_takeOut_174 (fun H lc hP hD hS => ?_)
                    rw [xW3_paw hrw] at hP hD
                    rw [← eT31] at hP hD
                    refine lv_goto (tgt := 119) hx hb dX3_takeOut_175 (by decide) ?_
                    exact ih119 T31 _ _ _ hP hD hS (lv_sub hl [1, 2] rfl) hM
            refine lv_iload_n hx hb dX3_takeOut_33 rfl (lv_at hl 2 rfl) ?_
            refine lv_aload_n hx hb dX3_takeOut_34 rfl (lv_at hl 1 rfl) ?_
            refine lv_sipush (v := 376) hx hb dX3_takeOut_35 (by decide) ?_
            obtain ⟨x33, q34, ex33, hM⟩ := zx_rdE hM
            refine va_iald (D := D) hx hb hK hP (w + 1) 0 (xW3_aw hrw) rfl q34 dX3_takeOut_38 ?_
            refine zx_top ex33 ?_
            refine lv_icmp_eq (tgt := 119) hx hb dX3_takeOut_39 (by decide) (fun q35 => ?_) (fun q35 => ?_)
            · replace hM := zx_t q35 hM
              exact l119 N S_ _ _ _ hP hD hS (lv_sub hl [0, 1] rfl) hM
            · replace hM := zx_f q35 hM
              refine lv_aload_n hx hb dX3_takeOut_42 rfl (lv_at hl 1 rfl) ?_
              refine lv_iload_n hx hb dX3_takeOut_43 rfl (lv_at hl 2 rfl) ?_
              obtain ⟨x36, hz37, hM⟩ := zx_b1E hM
              refine va_calli (va_runS (As := [.ref (ad w), .int v3]) (rest := []) ⟨hx, hb, hml, hown, hts⟩ (c_X3_many l D cI cZ cT (ad w) 380 (S_ w) _ N v3 hz37) (va_cwS 2 hts (zg_S zw_9_3 zw_9_4 zw_1_5 zw_9_5) rfl rfl rfl zyX3_many ⟨Nat.le_of_ble_eq_true rfl, Nat.le_of_ble_eq_true rfl⟩) ⟨bS_blind, bS_pre (zx_P1 hP (w + 1) ((xW3_aw hrw))) hK (zx_D1 hD (w + 1) ((xW3_aw hrw))) hN⟩ rfl rfl hl.1 rfl (lv_room (Nat.le_of_ble_eq_true rfl)) dX3_takeOut_44 ⟨Nat.zero_le _, Nat.zero_le _⟩) hS (fun q h1 h2 => absurd h1 (Nat.not_lt.mpr h2)) (fun q h => hA q (Nat.le_trans hS.1 h)) (fun r u t H1 lc ht hvm hw hB hz1 hk1 hS => ?_)
              replace hw : x36 = r := hw; subst hw
              replace hP := zx_keep hP hk1
              refine lv_iconst (v := 2) hx hb dX3_takeOut_47 (by decide) ?_
              refine lv_icmp_ge (tgt := 119) hx hb dX3_takeOut_48 (by decide) (fun q38 => ?_) (fun q38 => ?_)
              · replace hM := zx_t q38 hM
                exact l119 N S_ _ _ _ hP hD hS (lv_sub hl [0, 1] rfl) hM
              · replace hM := zx_f q38 hM
                have j88 : ∀ (v3 : Int32) (v4 : Int32) (t1 : Int32) (t2 : Int32) (S_ : zx_S) (H : Heap) (lc : List Loc) (ls : Array Slot), va_P D vwCl (xW3 cI cZ h ad S_) H → va_D A (xW3 cI cZ h ad S_) → va_S A s.heap H lc → lv_has ls 5 [(0, .ref h), (1, .ref (ad w)), (3, .int v3), (4, .int v4)] → f_X3_takeOut_j88 N w (f_X3_takeOut_l33 N w  n33) v3 v4 t1 t2 S_ = some R → W p l e (headSpec zsX3_takeOut rmX3_takeOut).room s m ([.ref h, .ref (ad w), .int p2] : List Value).toArray below meth c H lc 0 0 Q9 (F0 m 88 ls [.int t2, .int t1, .ref (ad 8)]) := by
                  intro v3 v4 t1 t2 S_ H lc ls hP hD hS hl hM
                  unfold f_X3_takeOut_j88 at hM
                  obtain ⟨T39, q40, eT39, hM⟩ := zx_wrE hM
                  refine va_iast (D := D) hx hb hK hP hD hS 9 0 rfl rfl q40 dX3_takeOut_88 (fun H lc hP hD hS => ?_)
                  rw [xW3_pa8] at hP hD
                  rw [← eT39] at hP hD
                  refine lv_aload_n hx hb dX3_takeOut_89 rfl (lv_at hl 1 rfl) ?_
                  refine lv_iload hx hb dX3_takeOut_90 (lv_at hl 3 rfl) ?_
                  refine lv_bipush (v := 24) hx hb dX3_takeOut_92 (by decide) ?_
                  refine lv_iload_n hx hb dX3_takeOut_94 rfl (lv_at hl 2 rfl) ?_
                  refine lv_iadd hx hb dX3_takeOut_95 ?_
                  obtain ⟨g41, hz42, hM⟩ := zx_b1E hM
                  refine va_callv (va_runS (As := [.ref (ad w), .int v4, .int (24 + v3)]) (rest := []) ⟨hx, hb, hml, hown, hts⟩ (c_X3_cutOut l D cI cZ cT (ad w) 380 (T39 w) _ N v4 (24 + v3) hz42) (va_cwS 3 hts (zg_S zw_11_5 zw_11_6 zw_1_5 zw_11_7) rfl rfl rfl zyX3_cutOut ⟨Nat.le_of_ble_eq_true rfl, Nat.le_of_ble_eq_true rfl⟩) ⟨bS_blind, bS_pre (zx_P1 hP (w + 1) ((xW3_aw hrw))) hK (zx_D1 hD (w + 1) ((xW3_aw hrw))) hN⟩ rfl rfl hl.1 rfl (lv_room (Nat.le_of_ble_eq_true rfl)) dX3_takeOut_96 ⟨Nat.zero_le _, Nat.zero_le _⟩) hS (fun q _ h => zx_f1 hD hS hA (k := (w + 1)) (xW3_aw hrw) q h) (fun q h => zx_f1 hD hS hA (k := (w + 1)) (xW3_aw hrw) q h) (fun u t H1 lc ht hvm hw hB hz1 hk1 hS => ?_)
                  replace hw : g41 = u := hw; subst hw
                  rw [ht] at hB
                  replace hP := zx_set1 (k := (w + 1)) hP hD (xW3_aw hrw) hk1 hB
                  replace hD := va_D.set (p := (w + 1)) (e := .inl (cI, 380, .inl g41)) hD (xW3_aw hrw)
                  rw [xW3_paw hrw] at hP hD
                  obtain ⟨T43, eT43, hM⟩ := zx_nE hM
                  rw [← eT43] at hP hD
                  refine lv_aload_n hx hb dX3_takeOut_99 rfl (lv_at hl 1 rfl) ?_
                  refine lv_iload_n hx hb dX3_takeOut_100 rfl (lv_at hl 2 rfl) ?_
                  obtain ⟨g44, hz45, hM⟩ := zx_b1E hM
                  refine va_callv (va_runS (As := [.ref (ad w), .int v3]) (rest := []) ⟨hx, hb, hml, hown, hts⟩ (c_X3_clearSlot l D cI cZ cT (ad w) 380 (T43 w) _ N v3 hz45) (va_cwS 2 hts (zg_S zw_11_19 zw_11_20 zw_1_5 zw_11_21) rfl rfl rfl zyX3_clearSlot ⟨Nat.le_of_ble_eq_true rfl, Nat.le_of_ble_eq_true rfl⟩) ⟨bS_blind, bS_pre (zx_P1 hP (w + 1) ((xW3_aw hrw))) hK (zx_D1 hD (w + 1) ((xW3_aw hrw))) hN⟩ rfl rfl hl.1 rfl (lv_room (Nat.le_of_ble_eq_true rfl)) dX3_takeOut_101 ⟨Nat.zero_le _, Nat.zero_le _⟩) hS (fun q _ h => zx_f1 hD hS hA (k := (w + 1)) (xW3_aw hrw) q h) (fun q h => zx_f1 hD hS hA (k := (w + 1)) (xW3_aw hrw) q h) (fun u t H1 lc ht hvm hw hB hz1 hk1 hS => ?_)
                  replace hw : g44 = u := hw; subst hw
                  rw [ht] at hB
                  replace hP := zx_set1 (k := (w + 1)) hP hD (xW3_aw hrw) hk1 hB
                  replace hD := va_D.set (p := (w + 1)) (e := .inl (cI, 380, .inl g44)) hD (xW3_aw hrw)
                  rw [xW3_paw hrw] at hP hD
                  obtain ⟨T46, eT46, hM⟩ := zx_nE hM
                  rw [← eT46] at hP hD
                  refine lv_aload_n hx hb dX3_takeOut_104 rfl (lv_at hl 1 rfl) ?_
                  refine lv_sipush (v := 379) hx hb dX3_takeOut_105 (by decide) ?_
                  refine lv_dup2_11 hx hb dX3_takeOut_108 rfl rfl ?_
                  obtain ⟨x47, q48, ex47, hM⟩ := zx_rdE hM
                  refine va_iald (D := D) hx hb hK hP (w + 1) 0 (xW3_aw hrw) rfl q48 dX3_takeOut_109 ?_
                  refine zx_top ex47 ?_
                  refine lv_iconst (v := 1) hx hb dX3_takeOut_110 (by decide) ?_
                  refine lv_iadd hx hb dX3_takeOut_111 ?_
                  obtain ⟨T49, q50, eT49, hM⟩ := zx_wrE hM
                  refine va_iast (D := D) hx hb hK hP hD hS (w + 1) 0 (xW3_aw hrw) rfl q50 dX3_takeOut_112 (fun H lc hP hD hS => ?_)
                  rw [xW3_paw hrw] at hP hD
                  rw [← eT49] at hP hD
                  refine lv_iload hx hb dX3_takeOut_113 (lv_at hl 3 rfl) ?_
                  refine lv_istore_n (lv' := [(3, .int v4), (0, .ref h), (1, .ref (ad w)), (4, .int v4)]) hx hb dX3_takeOut_115 rfl hl (by decide) rfl (fun ls hl => ?_)
                  refine lv_goto (tgt := 33) hx hb dX3_takeOut_116 (by decide) ?_
                  exact ih33 v4 T49 _ _ _ hP hD hS (lv_sub hl [1, 2, 0] rfl) hM
                refine lv_aload_n hx hb dX3_takeOut_51 rfl (lv_at hl 1 rfl) ?_
                refine lv_bipush (v := 24) hx hb dX3_takeOut_52 (by decide) ?_
                refine lv_iload_n hx hb dX3_takeOut_54 rfl (lv_at hl 2 rfl) ?_
                refine lv_iadd hx hb dX3_takeOut_55 ?_
                obtain ⟨x51, hz52, hM⟩ := zx_b1E hM
                refine va_calli (va_runS (As := [.ref (ad w), .int (24 + v3)]) (rest := []) ⟨hx, hb, hml, hown, hts⟩ (c_X3_nodeWith l D cI cZ cT (ad w) 380 (S_ w) _ N (24 + v3) hz52) (va_cwS 2 hts (zg_S zw_11_8 zw_11_9 zw_1_5 zw_11_10) rfl rfl rfl zyX3_nodeWith ⟨Nat.le_of_ble_eq_true rfl, Nat.le_of_ble_eq_true rfl⟩) ⟨bS_blind, bS_pre (zx_P1 hP (w + 1) ((xW3_aw hrw))) hK (zx_D1 hD (w + 1) ((xW3_aw hrw))) hN⟩ rfl rfl hl.1 rfl (lv_room (Nat.le_of_ble_eq_true rfl)) dX3_takeOut_56 ⟨Nat.zero_le _, Nat.zero_le _⟩) hS (fun q h1 h2 => absurd h1 (Nat.not_lt.mpr h2)) (fun q h => hA q (Nat.le_trans hS.1 h)) (fun r u t H1 lc ht hvm hw hB hz1 hk1 hS => ?_)
                replace hw : x51 = r := hw; subst hw
                replace hP := zx_keep hP hk1
                refine lv_istore (lv' := [(4, .int x51), (0, .ref h), (1, .ref (ad w)), (3, .int v3)]) hx hb dX3_takeOut_59 hl (by decide) rfl (fun ls hl => ?_)
                refine lv_aload_n hx hb dX3_takeOut_61 rfl (lv_at hl 1 rfl) ?_
                refine va_get (D := D) (ci := 3) (v := .ref (ad 8)) (C := RX3) (T := TX3) (N := 20) hx hb hts inlX3 hown hK hP 0 rfl rfl 14 (by decide) (hts _ zw_4_3) (fun _ h9 => h9) rfl dX3_takeOut_62 ?_
                refine lv_aload_n hx hb dX3_takeOut_65 rfl (lv_at hl 2 rfl) ?_
                refine lv_iload_n hx hb dX3_takeOut_66 rfl (lv_at hl 3 rfl) ?_
                obtain ⟨x53, hz54, hM⟩ := zx_b1E hM
                refine va_calli (va_runS (As := [.ref (ad w), .int v3]) (rest := [.ref (ad 8)]) ⟨hx, hb, hml, hown, hts⟩ (c_X3_levelOf l D cI cZ cT (ad w) 380 (S_ w) _ N v3 hz54) (va_cwS 2 hts (zg_S zw_9_9 zw_9_10 zw_1_5 zw_9_11) rfl rfl rfl zyX3_levelOf ⟨Nat.le_of_ble_eq_true rfl, Nat.le_of_ble_eq_true rfl⟩) ⟨bS_blind, bS_pre (zx_P1 hP (w + 1) ((xW3_aw hrw))) hK (zx_D1 hD (w + 1) ((xW3_aw hrw))) hN⟩ rfl rfl hl.1 rfl (lv_room (Nat.le_of_ble_eq_true rfl)) dX3_takeOut_67 ⟨Nat.zero_le _, Nat.zero_le _⟩) hS (fun q h1 h2 => absurd h1 (Nat.not_lt.mpr h2)) (fun q h => hA q (Nat.le_trans hS.1 h)) (fun r u t H1 lc ht hvm hw hB hz1 hk1 hS => ?_)
                replace hw : x53 = r := hw; subst hw
                replace hP := zx_keep hP hk1
                refine lv_aload_n hx hb dX3_takeOut_70 rfl (lv_at hl 2 rfl) ?_
                refine lv_iload_n hx hb dX3_takeOut_71 rfl (lv_at hl 3 rfl) ?_
                obtain ⟨x55, hz56, hM⟩ := zx_b1E hM
                refine va_calli (va_runS (As := [.ref (ad w), .int v3]) (rest := [.int x53, .ref (ad 8)]) ⟨hx, hb, hml, hown, hts⟩ (c_X3_many l D cI cZ cT (ad w) 380 (S_ w) _ N v3 hz56) (va_cwS 2 hts (zg_S zw_9_3 zw_9_4 zw_1_5 zw_9_5) rfl rfl rfl zyX3_many ⟨Nat.le_of_ble_eq_true rfl, Nat.le_of_ble_eq_true rfl⟩) ⟨bS_blind, bS_pre (zx_P1 hP (w + 1) ((xW3_aw hrw))) hK (zx_D1 hD (w + 1) ((xW3_aw hrw))) hN⟩ rfl rfl hl.1 rfl (lv_room (Nat.le_of_ble_eq_true rfl)) dX3_takeOut_72 ⟨Nat.zero_le _, Nat.zero_le _⟩) hS (fun q h1 h2 => absurd h1 (Nat.not_lt.mpr h2)) (fun q h => hA q (Nat.le_trans hS.1 h)) (fun r u t H1 lc ht hvm hw hB hz1 hk1 hS => ?_)
                replace hw : x55 = r := hw; subst hw
                replace hP := zx_keep hP hk1
                refine lv_if_ne (tgt := 82) hx hb dX3_takeOut_75 (by decide) (fun q57 => ?_) (fun q57 => ?_)
                · replace hM := zx_f q57 hM
                  refine lv_aload_n hx hb dX3_takeOut_82 rfl (lv_at hl 2 rfl) ?_
                  refine lv_iload_n hx hb dX3_takeOut_83 rfl (lv_at hl 3 rfl) ?_
                  refine lv_iconst (v := 0) hx hb dX3_takeOut_84 (by decide) ?_
                  obtain ⟨x58, hz59, hM⟩ := zx_b1E hM
                  refine va_calli (va_runS (As := [.ref (ad w), .int v3, .int 0]) (rest := [.int x53, .ref (ad 8)]) ⟨hx, hb, hml, hown, hts⟩ (c_X3_entryOf l D cI cZ cT (ad w) 380 (S_ w) _ N v3 0 hz59) (va_cwS 3 hts (zg_S zw_9_12 zw_9_13 zw_1_5 zw_9_14) rfl rfl rfl zyX3_entryOf ⟨Nat.le_of_ble_eq_true rfl, Nat.le_of_ble_eq_true rfl⟩) ⟨bS_blind, bS_pre (zx_P1 hP (w + 1) ((xW3_aw hrw))) hK (zx_D1 hD (w + 1) ((xW3_aw hrw))) hN⟩ rfl rfl hl.1 rfl (lv_room (Nat.le_of_ble_eq_true rfl)) dX3_takeOut_85 ⟨Nat.zero_le _, Nat.zero_le _⟩) hS (fun q h1 h2 => absurd h1 (Nat.not_lt.mpr h2)) (fun q h => hA q (Nat.le_trans hS.1 h)) (fun r u t H1 lc ht hvm hw hB hz1 hk1 hS => ?_)
                  replace hw : x58 = r := hw; subst hw
                  replace hP := zx_keep hP hk1
                  exact j88 v3 x51 x53 x58 S_ _ _ _ hP hD hS (lv_sub hl [1, 2, 3, 0] rfl) hM
                · replace hM := zx_t q57 hM
                  refine lv_iconst (v := (-1)) hx hb dX3_takeOut_78 (by decide) ?_
                  refine lv_goto (tgt := 88) hx hb dX3_takeOut_79 (by decide) ?_
                  exact j88 v3 x51 x53 (-1) S_ _ _ _ hP hD hS (lv_sub hl [1, 2, 3, 0] rfl) hM
        refine lv_aload_n hx hb dX3_takeOut_21 rfl (lv_at hl 1 rfl) ?_
        refine lv_iload_n hx hb dX3_takeOut_22 rfl (lv_at hl 2 rfl) ?_
        obtain ⟨x60, hz61, hM⟩ := zx_b1E hM
        refine va_calli (va_runS (As := [.ref (ad w), .int v2]) (rest := []) ⟨hx, hb, hml, hown, hts⟩ (c_X3_nodeWith l D cI cZ cT (ad w) 380 (S_ w) _ N v2 hz61) (va_cwS 2 hts (zg_S zw_11_8 zw_11_9 zw_1_5 zw_11_10) rfl rfl rfl zyX3_nodeWith ⟨Nat.le_of_ble_eq_true rfl, Nat.le_of_ble_eq_true rfl⟩) ⟨bS_blind, bS_pre (zx_P1 hP (w + 1) ((xW3_aw hrw))) hK (zx_D1 hD (w + 1) ((xW3_aw hrw))) hN⟩ rfl rfl hl.1 rfl (lv_room (Nat.le_of_ble_eq_true rfl)) dX3_takeOut_23 ⟨Nat.zero_le _, Nat.zero_le _⟩) hS (fun q h1 h2 => absurd h1 (Nat.not_lt.mpr h2)) (fun q h => hA q (Nat.le_trans hS.1 h)) (fun r u t H1 lc ht hvm hw hB hz1 hk1 hS => ?_)
        replace hw : x60 = r := hw; subst hw
        replace hP := zx_keep hP hk1
        refine lv_istore_n (lv' := [(3, .int x60), (0, .ref h), (1, .ref (ad w)), (2, .int v2)]) hx hb dX3_takeOut_26 rfl hl (by decide) rfl (fun ls hl => ?_)
        refine lv_aload_n hx hb dX3_takeOut_27 rfl (lv_at hl 2 rfl) ?_
        refine lv_iload_n hx hb dX3_takeOut_28 rfl (lv_at hl 0 rfl) ?_
        refine lv_iload_n hx hb dX3_takeOut_29 rfl (lv_at hl 3 rfl) ?_
        obtain ⟨g62, hz63, hM⟩ := zx_b1E hM
        refine va_callv (va_runS (As := [.ref (ad w), .int x60, .int v2]) (rest := []) ⟨hx, hb, hml, hown, hts⟩ (c_X3_cutOut l D cI cZ cT (ad w) 380 (S_ w) _ N x60 v2 hz63) (va_cwS 3 hts (zg_S zw_11_5 zw_11_6 zw_1_5 zw_11_7) rfl rfl rfl zyX3_cutOut ⟨Nat.le_of_ble_eq_true rfl, Nat.le_of_ble_eq_true rfl⟩) ⟨bS_blind, bS_pre (zx_P1 hP (w + 1) ((xW3_aw hrw))) hK (zx_D1 hD (w + 1) ((xW3_aw hrw))) hN⟩ rfl rfl hl.1 rfl (lv_room (Nat.le_of_ble_eq_true rfl)) dX3_takeOut_30 ⟨Nat.zero_le _, Nat.zero_le _⟩) hS (fun q _ h => zx_f1 hD hS hA (k := (w + 1)) (xW3_aw hrw) q h) (fun q h => zx_f1 hD hS hA (k := (w + 1)) (xW3_aw hrw) q h) (fun u t H1 lc ht hvm hw hB hz1 hk1 hS => ?_)
        replace hw : g62 = u := hw; subst hw
        rw [ht] at hB
        replace hP := zx_set1 (k := (w + 1)) hP hD (xW3_aw hrw) hk1 hB
        replace hD := va_D.set (p := (w + 1)) (e := .inl (cI, 380, .inl g62)) hD (xW3_aw hrw)
        rw [xW3_paw hrw] at hP hD
        obtain ⟨T64, eT64, hM⟩ := zx_nE hM
        rw [← eT64] at hP hD
        exact l33 N x60 T64 _ _ _ hP hD hS (lv_sub hl [1, 2, 0] rfl) hM
      · replace hM := zx_f q1 hM
        refine lv_aload_n hx hb dX3_takeOut_8 rfl (lv_at hl 0 rfl) ?_
        refine va_get (D := D) (ci := 3) (v := .ref (ad 8)) (C := RX3) (T := TX3) (N := 20) hx hb hts inlX3 hown hK hP 0 rfl rfl 14 (by decide) (hts _ zw_4_3) (fun _ h9 => h9) rfl dX3_takeOut_9 ?_
        refine lv_iload_n hx hb dX3_takeOut_12 rfl (lv_at hl 3 rfl) ?_
        refine lv_iconst (v := (-1)) hx hb dX3_takeOut_13 (by decide) ?_
        obtain ⟨T65, q66, eT65, hM⟩ := zx_wrE hM
        refine va_iast (D := D) hx hb hK hP hD hS 9 0 rfl rfl q66 dX3_takeOut_14 (fun H lc hP hD hS => ?_)
        rw [xW3_pa8] at hP hD
        rw [← eT65] at hP hD
        obtain ⟨x67, ex67, hM⟩ := zx_nE hM
        refine lv_iinc (v := x67) (lv' := [(3, .int x67), (0, .ref h), (1, .ref (ad w)), (2, .int v2)]) hx hb dX3_takeOut_15 hl (k := 3) rfl (by rw [ex67]; rfl) (by decide) rfl (fun ls hl => ?_)
        refine lv_goto (tgt := 2) hx hb dX3_takeOut_18 (by decide) ?_
        exact ih2 v2 x67 T65 _ _ _ hP hD hS (lv_sub hl [1, 2, 3, 0] rfl) hM
  refine lv_iconst (v := 0) hx hb dX3_takeOut_0 (by decide) ?_
  refine lv_istore_n (lv' := [(3, .int 0), (0, .ref h), (1, .ref (ad w)), (2, .int p2)]) hx hb dX3_takeOut_1 rfl hl (by decide) rfl (fun ls hl => ?_)
  exact l2 N p2 0 S _ _ _ hP hD hS (lv_sub hl [1, 2, 3, 0] rfl) hM

/-! ShallowBoxesModel.layRectangle([IIIIII)V -/
def f_X3_layRectangle (N : Nat) (n0 : Nat) (p1 : Int32) (p2 : Int32) (p3 : Int32) (p4 : Int32) (p5 : Int32) (f0 : (Nat → Int32)) : Option ((Nat → Int32)) :=
  (zx_wr n0 (5 * p1) (upd f0 (Int32.toNatClampNeg (5 * p1)) 1) (fun g1 =>
(zx_wr n0 ((5 * p1) + 1) (upd g1 (Int32.toNatClampNeg ((5 * p1) + 1)) p2) (fun g3 =>
(zx_wr n0 ((5 * p1) + 2) (upd g3 (Int32.toNatClampNeg ((5 * p1) + 2)) p3) (fun g5 =>
(zx_wr n0 ((5 * p1) + 3) (upd g5 (Int32.toNatClampNeg ((5 * p1) + 3)) p4) (fun g7 =>
(zx_wr n0 ((5 * p1) + 4) (upd g7 (Int32.toNatClampNeg ((5 * p1) + 4)) p5) (fun g9 =>
some g9))))))))))
abbrev rmX3_layRectangle : Room := { frames := 0, cells := 0, slots := 0, locals := 0 }
abbrev zsX3_layRectangle : List Cond := .code yX3_layRectangle cX3_layRectangle 6 none :: wsL_law
theorem zyX3_layRectangle : yX3_layRectangle.cls ≠ "java/lang/invoke/MethodHandle" ∧ yX3_layRectangle.cls ≠ "java/lang/invoke/VarHandle" ∧ (parseMethodDescriptor yX3_layRectangle.desc).map (fun d => d.parameters.length) = some 6 := by decide +kernel
set_option maxHeartbeats 4000000 in
set_option maxRecDepth 100000 in
theorem c_X3_layRectangle (l : Launch) (D : va_G) (cI cZ cT : ClassId) (a0 n0 : Nat) (f0 : Nat → Int32) (sz : Nat) (N : Nat) (p1 : Int32) (p2 : Int32) (p3 : Int32) (p4 : Int32) (p5 : Int32) {R : (Nat → Int32)} (hM : f_X3_layRectangle N n0 p1 p2 p3 p4 p5 f0 = some R) : Met l yX3_layRectangle zsX3_layRectangle rmX3_layRectangle (va_Pc [.ref a0, .int p1, .int p2, .int p3, .int p4, .int p5] (bS D (zx_ty cI cZ cT) (pW1 cI a0 n0 f0) sz)) (va_Qv (fun u => R = u) (fun u t => va_P D vwCl (pW1 cI a0 n0 u) t.heap) (va_A (pW1 cI a0 n0 f0) sz)) 0 0 (va_A (pW1 cI a0 n0 f0) sz) := by
  refine Met.ofW (cc := cX3_layRectangle) (maxL := 6) (ret := none) (by decide) rfl ?_
  intro p e s m args below meth c s₁ B hml hv
  obtain ⟨rfl, hsz, hP, hK, hD0, hN⟩ := hv
  have hx := B.exec
  have hb := B.bytes
  have hr := B.returns
  have hts : ∀ w ∈ wsL_law, w.before _ s = true := fun w hw => atoms_spec (ws := zsX3_layRectangle) B.pre w (List.mem_cons_of_mem _ hw)
  have hown : s.vm.findClass RX3 = some m.cls := findClass_of_methodNamed B.named
  have hlocks := B.notSynchronized
  subst hsz
  have hD := hD0.self (sz := s.heap.size)
  generalize hAe : va_A (pW1 cI a0 n0 f0) s.heap.size = A at hD ⊢
  have hA : ∀ q : Nat, s.heap.size ≤ q → A q := fun q h => by rw [← hAe]; exact Or.inr h
  have hS : va_S A s.heap s.heap [] := va_S.rf
  have hl := lv_entry ([.ref a0, .int p1, .int p2, .int p3, .int p4, .int p5]) (n := 6) (Nat.le_of_ble_eq_true rfl)
  rw [lg_entry_eq]
  generalize (lg_sl ([.ref a0, .int p1, .int p2, .int p3, .int p4, .int p5]) ++ List.replicate (6 - (lg_sl ([.ref a0, .int p1, .int p2, .int p3, .int p4, .int p5])).length) Slot.unset).toArray = ls at hl ⊢
  have hl : lv_has ls 6 [(0, .ref a0), (1, .int p1), (2, .int p2), (3, .int p3), (4, .int p4), (5, .int p5)] := hl
  generalize hQ : MQ below (va_Qv (fun u => R = u) (fun u t => va_P D vwCl (pW1 cI a0 n0 u) t.heap) A) ([.ref a0, .int p1, .int p2, .int p3, .int p4, .int p5] : List Value).toArray s 0 0 A = Q9
  replace hQ := hQ.symm
  unfold f_X3_layRectangle at hM
  refine lv_aload_n hx hb dX3_layRectangle_0 rfl (lv_at hl 0 rfl) ?_
  refine lv_iconst (v := 5) hx hb dX3_layRectangle_1 (by decide) ?_
  refine lv_iload_n hx hb dX3_layRectangle_2 rfl (lv_at hl 1 rfl) ?_
  refine lv_imul hx hb dX3_layRectangle_3 ?_
  refine lv_iconst (v := 1) hx hb dX3_layRectangle_4 (by decide) ?_
  obtain ⟨g1, q2, eg1, hM⟩ := zx_wrE hM
  refine va_iast (D := D) hx hb hK hP hD hS 0 0 rfl rfl q2 dX3_layRectangle_5 (fun H lc hP hD hS => ?_)
  rw [pW1_p0] at hP hD
  rw [← eg1] at hP hD
  refine lv_aload_n hx hb dX3_layRectangle_6 rfl (lv_at hl 0 rfl) ?_
  refine lv_iconst (v := 5) hx hb dX3_layRectangle_7 (by decide) ?_
  refine lv_iload_n hx hb dX3_layRectangle_8 rfl (lv_at hl 1 rfl) ?_
  refine lv_imul hx hb dX3_layRectangle_9 ?_
  refine lv_iconst (v := 1) hx hb dX3_layRectangle_10 (by decide) ?_
  refine lv_iadd hx hb dX3_layRectangle_11 ?_
  refine lv_iload_n hx hb dX3_layRectangle_12 rfl (lv_at hl 2 rfl) ?_
  obtain ⟨g3, q4, eg3, hM⟩ := zx_wrE hM
  refine va_iast (D := D) hx hb hK hP hD hS 0 0 rfl rfl q4 dX3_layRectangle_13 (fun H lc hP hD hS => ?_)
  rw [pW1_p0] at hP hD
  rw [← eg3] at hP hD
  refine lv_aload_n hx hb dX3_layRectangle_14 rfl (lv_at hl 0 rfl) ?_
  refine lv_iconst (v := 5) hx hb dX3_layRectangle_15 (by decide) ?_
  refine lv_iload_n hx hb dX3_layRectangle_16 rfl (lv_at hl 1 rfl) ?_
  refine lv_imul hx hb dX3_layRectangle_17 ?_
  refine lv_iconst (v := 2) hx hb dX3_layRectangle_18 (by decide) ?_
  refine lv_iadd hx hb dX3_layRectangle_19 ?_
  refine lv_iload_n hx hb dX3_layRectangle_20 rfl (lv_at hl 3 rfl) ?_
  obtain ⟨g5, q6, eg5, hM⟩ := zx_wrE hM
  refine va_iast (D := D) hx hb hK hP hD hS 0 0 rfl rfl q6 dX3_layRectangle_21 (fun H lc hP hD hS => ?_)
  rw [pW1_p0] at hP hD
  rw [← eg5] at hP hD
  refine lv_aload_n hx hb dX3_layRectangle_22 rfl (lv_at hl 0 rfl) ?_
  refine lv_iconst (v := 5) hx hb dX3_layRectangle_23 (by decide) ?_
  refine lv_iload_n hx hb dX3_layRectangle_24 rfl (lv_at hl 1 rfl) ?_
  refine lv_imul hx hb dX3_layRectangle_25 ?_
  refine lv_iconst (v := 3) hx hb dX3_layRectangle_26 (by decide) ?_
  refine lv_iadd hx hb dX3_layRectangle_27 ?_
  refine lv_iload hx hb dX3_layRectangle_28 (lv_at hl 4 rfl) ?_
  obtain ⟨g7, q8, eg7, hM⟩ := zx_wrE hM
  refine va_iast (D := D) hx hb hK hP hD hS 0 0 rfl rfl q8 dX3_layRectangle_30 (fun H lc hP hD hS => ?_)
  rw [pW1_p0] at hP hD
  rw [← eg7] at hP hD
  refine lv_aload_n hx hb dX3_layRectangle_31 rfl (lv_at hl 0 rfl) ?_
  refine lv_iconst (v := 5) hx hb dX3_layRectangle_32 (by decide) ?_
  refine lv_iload_n hx hb dX3_layRectangle_33 rfl (lv_at hl 1 rfl) ?_
  refine lv_imul hx hb dX3_layRectangle_34 ?_
  refine lv_iconst (v := 4) hx hb dX3_layRectangle_35 (by decide) ?_
  refine lv_iadd hx hb dX3_layRectangle_36 ?_
  refine lv_iload hx hb dX3_layRectangle_37 (lv_at hl 5 rfl) ?_
  obtain ⟨g9, q10, eg9, hM⟩ := zx_wrE hM
  refine va_iast (D := D) hx hb hK hP hD hS 0 0 rfl rfl q10 dX3_layRectangle_39 (fun H lc hP hD hS => ?_)
  rw [pW1_p0] at hP hD
  rw [← eg9] at hP hD
  rw [hQ]
  exact W.vret hx hb hr (fun t ht hW => ⟨⟨g9, rfl, (Option.some.inj hM).symm, by show va_P D vwCl _ t.heap; rw [ht]; exact hP⟩, hS.F ht⟩) hS.2.2 dX3_layRectangle_40

/-! ShallowBoxesModel.addOn([IIIII)I -/
def f_X3_addOn_l3 (N : Nat) (w : Nat) : Nat → Int32 → Int32 → Int32 → Int32 → Int32 → zx_S → Option (Int32 × zx_S)
  | 0, _, _, _, _, _, _ => none
  | n3 + 1, v2, v3, v4, v5, v6, S_ => (zx_rd 380 (S_ w) (5 * v6) (fun x1 =>
(if x1 = 1 then
  (zx_n (v6 + 1) (fun x9 =>
f_X3_addOn_l3 N w  n3 v2 v3 v4 v5 x9 S_)) else
  (zx_b1 (f_X3_layRectangle N 380 v6 v2 v3 v4 v5 (S_ w)) (fun g4 =>
(zx_n (zx_st S_ w g4) (fun T6 =>
(zx_b1 (f_X3_putIn N w v6 0 T6) (fun T7 =>
some (v6, T7))))))))))
def f_X3_addOn (N : Nat) (w : Nat) (p2 : Int32) (p3 : Int32) (p4 : Int32) (p5 : Int32) (S : zx_S) : Option (Int32 × zx_S) :=
  f_X3_addOn_l3 N w  N p2 p3 p4 p5 0 S
abbrev rmX3_addOn : Room := { frames := 7, cells := 0, slots := 0, locals := 169 }
abbrev zsX3_addOn : List Cond := .code yX3_addOn cX3_addOn 7 (some .int) :: wsL_law
theorem zyX3_addOn : yX3_addOn.cls ≠ "java/lang/invoke/MethodHandle" ∧ yX3_addOn.cls ≠ "java/lang/invoke/VarHandle" ∧ (parseMethodDescriptor yX3_addOn.desc).map (fun d => d.parameters.length) = some 5 := by decide +kernel
set_option maxHeartbeats 4000000 in
set_option maxRecDepth 100000 in
theorem c_X3_addOn (l : Launch) (D : va_G) (cI cZ cT : ClassId) (h : Nat) (ad : Nat → Nat) (S : zx_S) (sz : Nat) (N : Nat) (w : Nat) (hrw : w = 1 ∨ w = 2) (p2 : Int32) (p3 : Int32) (p4 : Int32) (p5 : Int32) {R : Int32 × zx_S} (hM : f_X3_addOn N w p2 p3 p4 p5 S = some R) : Met l yX3_addOn zsX3_addOn rmX3_addOn (va_Pc [.ref h, .ref (ad w), .int p2, .int p3, .int p4, .int p5] (bS D (zx_ty cI cZ cT) (xW3 cI cZ h ad S) sz)) (va_Qi (fun r u => R = (r, u)) (fun u t => va_P D vwCl (xW3 cI cZ h ad u) t.heap) (va_A (xW3 cI cZ h ad S) sz)) 0 0 (va_A (xW3 cI cZ h ad S) sz) := by
  refine Met.ofW (cc := cX3_addOn) (maxL := 7) (ret := (some .int)) (by decide) rfl ?_
  intro p e s m args below meth c s₁ B hml hv
  obtain ⟨rfl, hsz, hP, hK, hD0, hN⟩ := hv
  have hx := B.exec
  have hb := B.bytes
  have hr := B.returns
  have hts : ∀ w ∈ wsL_law, w.before _ s = true := fun w hw => atoms_spec (ws := zsX3_addOn) B.pre w (List.mem_cons_of_mem _ hw)
  have hown : s.vm.findClass RX3 = some m.cls := findClass_of_methodNamed B.named
  have hlocks := B.notSynchronized
  subst hsz
  have hD := hD0.self (sz := s.heap.size)
  generalize hAe : va_A (xW3 cI cZ h ad S) s.heap.size = A at hD ⊢
  have hA : ∀ q : Nat, s.heap.size ≤ q → A q := fun q h => by rw [← hAe]; exact Or.inr h
  have hS : va_S A s.heap s.heap [] := va_S.rf
  have hl := lv_entry ([.ref h, .ref (ad w), .int p2, .int p3, .int p4, .int p5]) (n := 7) (Nat.le_of_ble_eq_true rfl)
  rw [lg_entry_eq]
  generalize (lg_sl ([.ref h, .ref (ad w), .int p2, .int p3, .int p4, .int p5]) ++ List.replicate (7 - (lg_sl ([.ref h, .ref (ad w), .int p2, .int p3, .int p4, .int p5])).length) Slot.unset).toArray = ls at hl ⊢
  have hl : lv_has ls 7 [(0, .ref h), (1, .ref (ad w)), (2, .int p2), (3, .int p3), (4, .int p4), (5, .int p5)] := hl
  generalize hQ : MQ below (va_Qi (fun r u => R = (r, u)) (fun u t => va_P D vwCl (xW3 cI cZ h ad u) t.heap) A) ([.ref h, .ref (ad w), .int p2, .int p3, .int p4, .int p5] : List Value).toArray s 0 0 A = Q9
  replace hQ := hQ.symm
  unfold f_X3_addOn at hM
  have l3 : ∀ (n3 : Nat) (v2 : Int32) (v3 : Int32) (v4 : Int32) (v5 : Int32) (v6 : Int32) (S_ : zx_S) (H : Heap) (lc : List Loc) (ls : Array Slot), va_P D vwCl (xW3 cI cZ h ad S_) H → va_D A (xW3 cI cZ h ad S_) → va_S A s.heap H lc → lv_has ls 7 [(0, .ref h), (1, .ref (ad w)), (2, .int v2), (3, .int v3), (4, .int v4), (5, .int v5), (6, .int v6)] → f_X3_addOn_l3 N w n3 v2 v3 v4 v5 v6 S_ = some R → W p l e (headSpec zsX3_addOn rmX3_addOn).room s m ([.ref h, .ref (ad w), .int p2, .int p3, .int p4, .int p5] : List Value).toArray below meth c H lc 0 0 Q9 (F0 m 3 ls []) := by
    intro n3
    induction n3 with
    | zero =>
      intro v2 v3 v4 v5 v6 S_ H lc ls hP hD hS hl hM
      rw [f_X3_addOn_l3] at hM; exact absurd hM (by intro h; cases h)
    | succ n3 ih3 =>
      intro v2 v3 v4 v5 v6 S_ H lc ls hP hD hS hl hM
      rw [f_X3_addOn_l3] at hM
      refine lv_aload_n hx hb dX3_addOn_3 rfl (lv_at hl 1 rfl) ?_
      refine lv_iconst (v := 5) hx hb dX3_addOn_4 (by decide) ?_
      refine lv_iload hx hb dX3_addOn_5 (lv_at hl 6 rfl) ?_
      refine lv_imul hx hb dX3_addOn_7 ?_
      obtain ⟨x1, q2, ex1, hM⟩ := zx_rdE hM
      refine va_iald (D := D) hx hb hK hP (w + 1) 0 (xW3_aw hrw) rfl q2 dX3_addOn_8 ?_
      refine zx_top ex1 ?_
      refine lv_iconst (v := 1) hx hb dX3_addOn_9 (by decide) ?_
      refine lv_icmp_ne (tgt := 19) hx hb dX3_addOn_10 (by decide) (fun q3 => ?_) (fun q3 => ?_)
      · replace hM := zx_f q3 hM
        refine lv_aload_n hx hb dX3_addOn_19 rfl (lv_at hl 1 rfl) ?_
        refine lv_iload hx hb dX3_addOn_20 (lv_at hl 6 rfl) ?_
        refine lv_iload_n hx hb dX3_addOn_22 rfl (lv_at hl 2 rfl) ?_
        refine lv_iload_n hx hb dX3_addOn_23 rfl (lv_at hl 3 rfl) ?_
        refine lv_iload hx hb dX3_addOn_24 (lv_at hl 4 rfl) ?_
        refine lv_iload hx hb dX3_addOn_26 (lv_at hl 5 rfl) ?_
        obtain ⟨g4, hz5, hM⟩ := zx_b1E hM
        refine va_callv (va_runS (As := [.ref (ad w), .int v6, .int v2, .int v3, .int v4, .int v5]) (rest := []) ⟨hx, hb, hml, hown, hts⟩ (c_X3_layRectangle l D cI cZ cT (ad w) 380 (S_ w) _ N v6 v2 v3 v4 v5 hz5) (va_cwS 6 hts (zg_S zw_8_14 zw_8_15 zw_1_5 zw_8_16) rfl rfl rfl zyX3_layRectangle ⟨Nat.le_of_ble_eq_true rfl, Nat.le_of_ble_eq_true rfl⟩) ⟨bS_blind, bS_pre (zx_P1 hP (w + 1) ((xW3_aw hrw))) hK (zx_D1 hD (w + 1) ((xW3_aw hrw))) hN⟩ rfl rfl hl.1 rfl (lv_room (Nat.le_of_ble_eq_true rfl)) dX3_addOn_28 ⟨Nat.zero_le _, Nat.zero_le _⟩) hS (fun q _ h => zx_f1 hD hS hA (k := (w + 1)) (xW3_aw hrw) q h) (fun q h => zx_f1 hD hS hA (k := (w + 1)) (xW3_aw hrw) q h) (fun u t H1 lc ht hvm hw hB hz1 hk1 hS => ?_)
        replace hw : g4 = u := hw; subst hw
        rw [ht] at hB
        replace hP := zx_set1 (k := (w + 1)) hP hD (xW3_aw hrw) hk1 hB
        replace hD := va_D.set (p := (w + 1)) (e := .inl (cI, 380, .inl g4)) hD (xW3_aw hrw)
        rw [xW3_paw hrw] at hP hD
        obtain ⟨T6, eT6, hM⟩ := zx_nE hM
        rw [← eT6] at hP hD
        refine lv_aload_n hx hb dX3_addOn_31 rfl (lv_at hl 0 rfl) ?_
        refine lv_aload_n hx hb dX3_addOn_32 rfl (lv_at hl 1 rfl) ?_
        refine lv_iload hx hb dX3_addOn_33 (lv_at hl 6 rfl) ?_
        refine lv_iconst (v := 0) hx hb dX3_addOn_35 (by decide) ?_
        obtain ⟨T7, hz8, hM⟩ := zx_b1E hM
        refine va_callv (va_runV (As := [.ref (ad w), .int v6, .int 0]) (rest := []) ⟨hx, hb, hml, hown, hts⟩ (c_X3_putIn l D cI cZ cT h ad T6 _ N w hrw v6 0  hz8) (cwV 3 hts (zg_V zw_8_17 zw_8_18 zw_8_19 zw_1_5 zw_8_20) rfl rfl rfl ⟨rfl, zyX3_putIn⟩ ⟨Nat.le_of_ble_eq_true rfl, Nat.le_of_ble_eq_true rfl⟩) ⟨bS_blind, va_recv hK hP (ci := 3) (q0 := 0) rfl rfl, bS_pre hP hK hD hN⟩ rfl rfl hl.1 rfl (lv_room (Nat.le_of_ble_eq_true rfl)) dX3_addOn_36 ⟨Nat.zero_le _, Nat.zero_le _⟩) hS (fun q _ h => zx_fW hD hS hA q h) (fun q h => zx_fW hD hS hA q h) (fun u t H1 lc ht hvm hw hB hz1 hk1 hS => ?_)
        replace hw : T7 = u := hw; subst hw
        rw [ht] at hB
        replace hP := hB
        replace hD := xW3_D T7 hD
        refine lv_iload hx hb dX3_addOn_39 (lv_at hl 6 rfl) ?_
        rw [hQ]
        exact W.iret hx hb hr (fun t ht hW => ⟨⟨v6, T7, rfl, (Option.some.inj hM).symm, by show va_P D vwCl _ t.heap; rw [ht]; exact hP⟩, hS.F ht⟩) hS.2.2 dX3_addOn_41
      · replace hM := zx_t q3 hM
        obtain ⟨x9, ex9, hM⟩ := zx_nE hM
        refine lv_iinc (v := x9) (lv' := [(6, .int x9), (0, .ref h), (1, .ref (ad w)), (2, .int v2), (3, .int v3), (4, .int v4), (5, .int v5)]) hx hb dX3_addOn_13 hl (k := 6) rfl (by rw [ex9]; rfl) (by decide) rfl (fun ls hl => ?_)
        refine lv_goto (tgt := 3) hx hb dX3_addOn_16 (by decide) ?_
        exact ih3 v2 v3 v4 v5 x9 S_ _ _ _ hP hD hS (lv_sub hl [1, 2, 3, 4, 5, 6, 0] rfl) hM
  refine lv_iconst (v := 0) hx hb dX3_addOn_0 (by decide) ?_
  refine lv_istore (lv' := [(6, .int 0), (0, .ref h), (1, .ref (ad w)), (2, .int p2), (3, .int p3), (4, .int p4), (5, .int p5)]) hx hb dX3_addOn_1 hl (by decide) rfl (fun ls hl => ?_)
  exact l3 N p2 p3 p4 p5 0 S _ _ _ hP hD hS (lv_sub hl [1, 2, 3, 4, 5, 6, 0] rfl) hM

/-! ShallowBoxesModel.wipe([II)V -/
def f_X3_wipe_l2 (N : Nat) (n0 : Nat) : Nat → Int32 → Int32 → (Nat → Int32) → Option ((Nat → Int32))
  | 0, _, _, _ => none
  | n2 + 1, v1, v2, f0_ => (if 5 ≤ v2 then
  some f0_ else
  (zx_wr n0 ((5 * v1) + v2) (upd f0_ (Int32.toNatClampNeg ((5 * v1) + v2)) 0) (fun g2 =>
(zx_n (v2 + 1) (fun x4 =>
f_X3_wipe_l2 N n0  n2 v1 x4 g2)))))
def f_X3_wipe (N : Nat) (n0 : Nat) (p1 : Int32) (f0 : (Nat → Int32)) : Option ((Nat → Int32)) :=
  f_X3_wipe_l2 N n0  N p1 0 f0
abbrev rmX3_wipe : Room := { frames := 0, cells := 0, slots := 0, locals := 0 }
abbrev zsX3_wipe : List Cond := .code yX3_wipe cX3_wipe 3 none :: wsL_law
theorem zyX3_wipe : yX3_wipe.cls ≠ "java/lang/invoke/MethodHandle" ∧ yX3_wipe.cls ≠ "java/lang/invoke/VarHandle" ∧ (parseMethodDescriptor yX3_wipe.desc).map (fun d => d.parameters.length) = some 2 := by decide +kernel
set_option maxHeartbeats 4000000 in
set_option maxRecDepth 100000 in
theorem c_X3_wipe (l : Launch) (D : va_G) (cI cZ cT : ClassId) (a0 n0 : Nat) (f0 : Nat → Int32) (sz : Nat) (N : Nat) (p1 : Int32) {R : (Nat → Int32)} (hM : f_X3_wipe N n0 p1 f0 = some R) : Met l yX3_wipe zsX3_wipe rmX3_wipe (va_Pc [.ref a0, .int p1] (bS D (zx_ty cI cZ cT) (pW1 cI a0 n0 f0) sz)) (va_Qv (fun u => R = u) (fun u t => va_P D vwCl (pW1 cI a0 n0 u) t.heap) (va_A (pW1 cI a0 n0 f0) sz)) 0 0 (va_A (pW1 cI a0 n0 f0) sz) := by
  refine Met.ofW (cc := cX3_wipe) (maxL := 3) (ret := none) (by decide) rfl ?_
  intro p e s m args below meth c s₁ B hml hv
  obtain ⟨rfl, hsz, hP, hK, hD0, hN⟩ := hv
  have hx := B.exec
  have hb := B.bytes
  have hr := B.returns
  have hts : ∀ w ∈ wsL_law, w.before _ s = true := fun w hw => atoms_spec (ws := zsX3_wipe) B.pre w (List.mem_cons_of_mem _ hw)
  have hown : s.vm.findClass RX3 = some m.cls := findClass_of_methodNamed B.named
  have hlocks := B.notSynchronized
  subst hsz
  have hD := hD0.self (sz := s.heap.size)
  generalize hAe : va_A (pW1 cI a0 n0 f0) s.heap.size = A at hD ⊢
  have hA : ∀ q : Nat, s.heap.size ≤ q → A q := fun q h => by rw [← hAe]; exact Or.inr h
  have hS : va_S A s.heap s.heap [] := va_S.rf
  have hl := lv_entry ([.ref a0, .int p1]) (n := 3) (Nat.le_of_ble_eq_true rfl)
  rw [lg_entry_eq]
  generalize (lg_sl ([.ref a0, .int p1]) ++ List.replicate (3 - (lg_sl ([.ref a0, .int p1])).length) Slot.unset).toArray = ls at hl ⊢
  have hl : lv_has ls 3 [(0, .ref a0), (1, .int p1)] := hl
  generalize hQ : MQ below (va_Qv (fun u => R = u) (fun u t => va_P D vwCl (pW1 cI a0 n0 u) t.heap) A) ([.ref a0, .int p1] : List Value).toArray s 0 0 A = Q9
  replace hQ := hQ.symm
  unfold f_X3_wipe at hM
  have l2 : ∀ (n2 : Nat) (v1 : Int32) (v2 : Int32) (f0_ : (Nat → Int32)) (H : Heap) (lc : List Loc) (ls : Array Slot), va_P D vwCl (pW1 cI a0 n0 f0_) H → va_D A (pW1 cI a0 n0 f0_) → va_S A s.heap H lc → lv_has ls 3 [(0, .ref a0), (1, .int v1), (2, .int v2)] → f_X3_wipe_l2 N n0 n2 v1 v2 f0_ = some R → W p l e (headSpec zsX3_wipe rmX3_wipe).room s m ([.ref a0, .int p1] : List Value).toArray below meth c H lc 0 0 Q9 (F0 m 2 ls []) := by
    intro n2
    induction n2 with
    | zero =>
      intro v1 v2 f0_ H lc ls hP hD hS hl hM
      rw [f_X3_wipe_l2] at hM; exact absurd hM (by intro h; cases h)
    | succ n2 ih2 =>
      intro v1 v2 f0_ H lc ls hP hD hS hl hM
      rw [f_X3_wipe_l2] at hM
      refine lv_iload_n hx hb dX3_wipe_2 rfl (lv_at hl 2 rfl) ?_
      refine lv_iconst (v := 5) hx hb dX3_wipe_3 (by decide) ?_
      refine lv_icmp_ge (tgt := 21) hx hb dX3_wipe_4 (by decide) (fun q1 => ?_) (fun q1 => ?_)
      · replace hM := zx_t q1 hM
        rw [hQ]
        exact W.vret hx hb hr (fun t ht hW => ⟨⟨f0_, rfl, (Option.some.inj hM).symm, by show va_P D vwCl _ t.heap; rw [ht]; exact hP⟩, hS.F ht⟩) hS.2.2 dX3_wipe_21
      · replace hM := zx_f q1 hM
        refine lv_aload_n hx hb dX3_wipe_7 rfl (lv_at hl 0 rfl) ?_
        refine lv_iconst (v := 5) hx hb dX3_wipe_8 (by decide) ?_
        refine lv_iload_n hx hb dX3_wipe_9 rfl (lv_at hl 1 rfl) ?_
        refine lv_imul hx hb dX3_wipe_10 ?_
        refine lv_iload_n hx hb dX3_wipe_11 rfl (lv_at hl 2 rfl) ?_
        refine lv_iadd hx hb dX3_wipe_12 ?_
        refine lv_iconst (v := 0) hx hb dX3_wipe_13 (by decide) ?_
        obtain ⟨g2, q3, eg2, hM⟩ := zx_wrE hM
        refine va_iast (D := D) hx hb hK hP hD hS 0 0 rfl rfl q3 dX3_wipe_14 (fun H lc hP hD hS => ?_)
        rw [pW1_p0] at hP hD
        rw [← eg2] at hP hD
        obtain ⟨x4, ex4, hM⟩ := zx_nE hM
        refine lv_iinc (v := x4) (lv' := [(2, .int x4), (0, .ref a0), (1, .int v1)]) hx hb dX3_wipe_15 hl (k := 2) rfl (by rw [ex4]; rfl) (by decide) rfl (fun ls hl => ?_)
        refine lv_goto (tgt := 2) hx hb dX3_wipe_18 (by decide) ?_
        exact ih2 v1 x4 g2 _ _ _ hP hD hS (lv_sub hl [1, 2, 0] rfl) hM
  refine lv_iconst (v := 0) hx hb dX3_wipe_0 (by decide) ?_
  refine lv_istore_n (lv' := [(2, .int 0), (0, .ref a0), (1, .int p1)]) hx hb dX3_wipe_1 rfl hl (by decide) rfl (fun ls hl => ?_)
  exact l2 N p1 0 f0 _ _ _ hP hD hS (lv_sub hl [1, 2, 0] rfl) hM

/-! ShallowBoxesModel.removeOn([II)I -/
def f_X3_removeOn (N : Nat) (w : Nat) (p2 : Int32) (S : zx_S) : Option (Int32 × zx_S) :=
  (zx_n (zx_st S 12 (upd (S 12) 3 0)) (fun T1 =>
(zx_b1 (f_X3_takeOut N w p2 T1) (fun T2 =>
(zx_b1 (f_X3_wipe N 380 p2 (T2 w)) (fun g4 =>
(zx_n (zx_st T2 w g4) (fun T6 =>
(zx_b1 (f_X3_nodes N 380 (T6 w)) (fun x7 =>
some (x7, T6)))))))))))
abbrev rmX3_removeOn : Room := { frames := 8, cells := 0, slots := 0, locals := 193 }
abbrev zsX3_removeOn : List Cond := .code yX3_removeOn cX3_removeOn 3 (some .int) :: wsL_law
theorem zyX3_removeOn : yX3_removeOn.cls ≠ "java/lang/invoke/MethodHandle" ∧ yX3_removeOn.cls ≠ "java/lang/invoke/VarHandle" ∧ (parseMethodDescriptor yX3_removeOn.desc).map (fun d => d.parameters.length) = some 2 := by decide +kernel
set_option maxHeartbeats 4000000 in
set_option maxRecDepth 100000 in
theorem c_X3_removeOn (l : Launch) (D : va_G) (cI cZ cT : ClassId) (h : Nat) (ad : Nat → Nat) (S : zx_S) (sz : Nat) (N : Nat) (w : Nat) (hrw : w = 1 ∨ w = 2) (p2 : Int32) {R : Int32 × zx_S} (hM : f_X3_removeOn N w p2 S = some R) : Met l yX3_removeOn zsX3_removeOn rmX3_removeOn (va_Pc [.ref h, .ref (ad w), .int p2] (bS D (zx_ty cI cZ cT) (xW3 cI cZ h ad S) sz)) (va_Qi (fun r u => R = (r, u)) (fun u t => va_P D vwCl (xW3 cI cZ h ad u) t.heap) (va_A (xW3 cI cZ h ad S) sz)) 0 0 (va_A (xW3 cI cZ h ad S) sz) := by
  refine Met.ofW (cc := cX3_removeOn) (maxL := 3) (ret := (some .int)) (by decide) rfl ?_
  intro p e s m args below meth c s₁ B hml hv
  obtain ⟨rfl, hsz, hP, hK, hD0, hN⟩ := hv
  have hx := B.exec
  have hb := B.bytes
  have hr := B.returns
  have hts : ∀ w ∈ wsL_law, w.before _ s = true := fun w hw => atoms_spec (ws := zsX3_removeOn) B.pre w (List.mem_cons_of_mem _ hw)
  have hown : s.vm.findClass RX3 = some m.cls := findClass_of_methodNamed B.named
  have hlocks := B.notSynchronized
  subst hsz
  have hD := hD0.self (sz := s.heap.size)
  generalize hAe : va_A (xW3 cI cZ h ad S) s.heap.size = A at hD ⊢
  have hA : ∀ q : Nat, s.heap.size ≤ q → A q := fun q h => by rw [← hAe]; exact Or.inr h
  have hS : va_S A s.heap s.heap [] := va_S.rf
  have hl := lv_entry ([.ref h, .ref (ad w), .int p2]) (n := 3) (Nat.le_of_ble_eq_true rfl)
  rw [lg_entry_eq]
  generalize (lg_sl ([.ref h, .ref (ad w), .int p2]) ++ List.replicate (3 - (lg_sl ([.ref h, .ref (ad w), .int p2])).length) Slot.unset).toArray = ls at hl ⊢
  have hl : lv_has ls 3 [(0, .ref h), (1, .ref (ad w)), (2, .int p2)] := hl
  generalize hQ : MQ below (va_Qi (fun r u => R = (r, u)) (fun u t => va_P D vwCl (xW3 cI cZ h ad u) t.heap) A) ([.ref h, .ref (ad w), .int p2] : List Value).toArray s 0 0 A = Q9
  replace hQ := hQ.symm
  unfold f_X3_removeOn at hM
  refine lv_aload_n hx hb dX3_removeOn_0 rfl (lv_at hl 0 rfl) ?_
  refine lv_iconst (v := 0) hx hb dX3_removeOn_1 (by decide) ?_
  obtain ⟨T1, eT1, hM⟩ := zx_nE hM
  refine va_put (D := D) (ci := 3) (v := .int 0) (ty := .int) (C := RX3) (T := TX3) (N := 20) hx hb hts inlX3 tyX3 tyX3_ok nmX3 hown hK hP hD hS 0 rfl rfl 10 (by decide) (hts _ zw_10_20) (fun _ h9 => h9) rfl (by decide +kernel) rfl rfl (Nat.le_of_ble_eq_true rfl) dX3_removeOn_2 (fun H lc hP hD hS => ?_)
  replace hP : va_P D vwCl (xW3 cI cZ h ad T1) H := by rw [eT1]; exact hP
  replace hD : va_D A (xW3 cI cZ h ad T1) := by rw [eT1]; exact hD
  refine lv_aload_n hx hb dX3_removeOn_5 rfl (lv_at hl 0 rfl) ?_
  refine lv_aload_n hx hb dX3_removeOn_6 rfl (lv_at hl 1 rfl) ?_
  refine lv_iload_n hx hb dX3_removeOn_7 rfl (lv_at hl 2 rfl) ?_
  obtain ⟨T2, hz3, hM⟩ := zx_b1E hM
  refine va_callv (va_runV (As := [.ref (ad w), .int p2]) (rest := []) ⟨hx, hb, hml, hown, hts⟩ (c_X3_takeOut l D cI cZ cT h ad T1 _ N w hrw p2  hz3) (cwV 2 hts (zg_V zw_24_22 zw_24_23 zw_25_0 zw_1_5 zw_25_1) rfl rfl rfl ⟨rfl, zyX3_takeOut⟩ ⟨Nat.le_of_ble_eq_true rfl, Nat.le_of_ble_eq_true rfl⟩) ⟨bS_blind, va_recv hK hP (ci := 3) (q0 := 0) rfl rfl, bS_pre hP hK hD hN⟩ rfl rfl hl.1 rfl (lv_room (Nat.le_of_ble_eq_true rfl)) dX3_removeOn_8 ⟨Nat.zero_le _, Nat.zero_le _⟩) hS (fun q _ h => zx_fW hD hS hA q h) (fun q h => zx_fW hD hS hA q h) (fun u t H1 lc ht hvm hw hB hz1 hk1 hS => ?_)
  replace hw : T2 = u := hw; subst hw
  rw [ht] at hB
  replace hP := hB
  replace hD := xW3_D T2 hD
  refine lv_aload_n hx hb dX3_removeOn_11 rfl (lv_at hl 1 rfl) ?_
  refine lv_iload_n hx hb dX3_removeOn_12 rfl (lv_at hl 2 rfl) ?_
  obtain ⟨g4, hz5, hM⟩ := zx_b1E hM
  refine va_callv (va_runS (As := [.ref (ad w), .int p2]) (rest := []) ⟨hx, hb, hml, hown, hts⟩ (c_X3_wipe l D cI cZ cT (ad w) 380 (T2 w) _ N p2 hz5) (va_cwS 2 hts (zg_S zw_25_2 zw_25_3 zw_1_5 zw_25_4) rfl rfl rfl zyX3_wipe ⟨Nat.le_of_ble_eq_true rfl, Nat.le_of_ble_eq_true rfl⟩) ⟨bS_blind, bS_pre (zx_P1 hP (w + 1) ((xW3_aw hrw))) hK (zx_D1 hD (w + 1) ((xW3_aw hrw))) hN⟩ rfl rfl hl.1 rfl (lv_room (Nat.le_of_ble_eq_true rfl)) dX3_removeOn_13 ⟨Nat.zero_le _, Nat.zero_le _⟩) hS (fun q _ h => zx_f1 hD hS hA (k := (w + 1)) (xW3_aw hrw) q h) (fun q h => zx_f1 hD hS hA (k := (w + 1)) (xW3_aw hrw) q h) (fun u t H1 lc ht hvm hw hB hz1 hk1 hS => ?_)
  replace hw : g4 = u := hw; subst hw
  rw [ht] at hB
  replace hP := zx_set1 (k := (w + 1)) hP hD (xW3_aw hrw) hk1 hB
  replace hD := va_D.set (p := (w + 1)) (e := .inl (cI, 380, .inl g4)) hD (xW3_aw hrw)
  rw [xW3_paw hrw] at hP hD
  obtain ⟨T6, eT6, hM⟩ := zx_nE hM
  rw [← eT6] at hP hD
  refine lv_aload_n hx hb dX3_removeOn_16 rfl (lv_at hl 1 rfl) ?_
  obtain ⟨x7, hz8, hM⟩ := zx_b1E hM
  refine va_calli (va_runS (As := [.ref (ad w)]) (rest := []) ⟨hx, hb, hml, hown, hts⟩ (c_X3_nodes l D cI cZ cT (ad w) 380 (T6 w) _ N hz8) (va_cwS 1 hts (zg_S zw_14_16 zw_14_17 zw_1_5 zw_14_18) rfl rfl rfl zyX3_nodes ⟨Nat.le_of_ble_eq_true rfl, Nat.le_of_ble_eq_true rfl⟩) ⟨bS_blind, bS_pre (zx_P1 hP (w + 1) ((xW3_aw hrw))) hK (zx_D1 hD (w + 1) ((xW3_aw hrw))) hN⟩ rfl rfl hl.1 rfl (lv_room (Nat.le_of_ble_eq_true rfl)) dX3_removeOn_17 ⟨Nat.zero_le _, Nat.zero_le _⟩) hS (fun q h1 h2 => absurd h1 (Nat.not_lt.mpr h2)) (fun q h => hA q (Nat.le_trans hS.1 h)) (fun r u t H1 lc ht hvm hw hB hz1 hk1 hS => ?_)
  replace hw : x7 = r := hw; subst hw
  replace hP := zx_keep hP hk1
  rw [hQ]
  exact W.iret hx hb hr (fun t ht hW => ⟨⟨x7, T6, rfl, (Option.some.inj hM).symm, by show va_P D vwCl _ t.heap; rw [ht]; exact hP⟩, hS.F ht⟩) hS.2.2 dX3_removeOn_20

/-! ShallowBoxesModel.moveOn([IIII)V -/
def f_X3_moveOn (N : Nat) (w : Nat) (p2 : Int32) (p3 : Int32) (p4 : Int32) (S : zx_S) : Option (zx_S) :=
  (zx_n (zx_st S 12 (upd (S 12) 3 0)) (fun T1 =>
(zx_b1 (f_X3_takeOut N w p2 T1) (fun T2 =>
(zx_n (5 * p2) (fun x4 =>
(zx_rd 380 (T2 w) (x4 + 1) (fun x5 =>
(zx_rd 380 (T2 w) (x4 + 2) (fun x7 =>
(zx_rd 380 (T2 w) (x4 + 3) (fun x9 =>
(zx_rd 380 (T2 w) (x4 + 4) (fun x11 =>
(zx_b1 (f_X3_layRectangle N 380 p2 (x5 + p3) (x7 + p4) (x9 + p3) (x11 + p4) (T2 w)) (fun g13 =>
(zx_n (zx_st T2 w g13) (fun T15 =>
(zx_b1 (f_X3_putIn N w p2 0 T15) (fun T16 =>
some T16))))))))))))))))))))
abbrev rmX3_moveOn : Room := { frames := 8, cells := 0, slots := 0, locals := 193 }
abbrev zsX3_moveOn : List Cond := .code yX3_moveOn cX3_moveOn 6 none :: wsL_law
theorem zyX3_moveOn : yX3_moveOn.cls ≠ "java/lang/invoke/MethodHandle" ∧ yX3_moveOn.cls ≠ "java/lang/invoke/VarHandle" ∧ (parseMethodDescriptor yX3_moveOn.desc).map (fun d => d.parameters.length) = some 4 := by decide +kernel
set_option maxHeartbeats 4000000 in
set_option maxRecDepth 100000 in
theorem c_X3_moveOn (l : Launch) (D : va_G) (cI cZ cT : ClassId) (h : Nat) (ad : Nat → Nat) (S : zx_S) (sz : Nat) (N : Nat) (w : Nat) (hrw : w = 1 ∨ w = 2) (p2 : Int32) (p3 : Int32) (p4 : Int32) {R : zx_S} (hM : f_X3_moveOn N w p2 p3 p4 S = some R) : Met l yX3_moveOn zsX3_moveOn rmX3_moveOn (va_Pc [.ref h, .ref (ad w), .int p2, .int p3, .int p4] (bS D (zx_ty cI cZ cT) (xW3 cI cZ h ad S) sz)) (va_Qv (fun u => R = u) (fun u t => va_P D vwCl (xW3 cI cZ h ad u) t.heap) (va_A (xW3 cI cZ h ad S) sz)) 0 0 (va_A (xW3 cI cZ h ad S) sz) := by
  refine Met.ofW (cc := cX3_moveOn) (maxL := 6) (ret := none) (by decide) rfl ?_
  intro p e s m args below meth c s₁ B hml hv
  obtain ⟨rfl, hsz, hP, hK, hD0, hN⟩ := hv
  have hx := B.exec
  have hb := B.bytes
  have hr := B.returns
  have hts : ∀ w ∈ wsL_law, w.before _ s = true := fun w hw => atoms_spec (ws := zsX3_moveOn) B.pre w (List.mem_cons_of_mem _ hw)
  have hown : s.vm.findClass RX3 = some m.cls := findClass_of_methodNamed B.named
  have hlocks := B.notSynchronized
  subst hsz
  have hD := hD0.self (sz := s.heap.size)
  generalize hAe : va_A (xW3 cI cZ h ad S) s.heap.size = A at hD ⊢
  have hA : ∀ q : Nat, s.heap.size ≤ q → A q := fun q h => by rw [← hAe]; exact Or.inr h
  have hS : va_S A s.heap s.heap [] := va_S.rf
  have hl := lv_entry ([.ref h, .ref (ad w), .int p2, .int p3, .int p4]) (n := 6) (Nat.le_of_ble_eq_true rfl)
  rw [lg_entry_eq]
  generalize (lg_sl ([.ref h, .ref (ad w), .int p2, .int p3, .int p4]) ++ List.replicate (6 - (lg_sl ([.ref h, .ref (ad w), .int p2, .int p3, .int p4])).length) Slot.unset).toArray = ls at hl ⊢
  have hl : lv_has ls 6 [(0, .ref h), (1, .ref (ad w)), (2, .int p2), (3, .int p3), (4, .int p4)] := hl
  generalize hQ : MQ below (va_Qv (fun u => R = u) (fun u t => va_P D vwCl (xW3 cI cZ h ad u) t.heap) A) ([.ref h, .ref (ad w), .int p2, .int p3, .int p4] : List Value).toArray s 0 0 A = Q9
  replace hQ := hQ.symm
  unfold f_X3_moveOn at hM
  refine lv_aload_n hx hb dX3_moveOn_0 rfl (lv_at hl 0 rfl) ?_
  refine lv_iconst (v := 0) hx hb dX3_moveOn_1 (by decide) ?_
  obtain ⟨T1, eT1, hM⟩ := zx_nE hM
  refine va_put (D := D) (ci := 3) (v := .int 0) (ty := .int) (C := RX3) (T := TX3) (N := 20) hx hb hts inlX3 tyX3 tyX3_ok nmX3 hown hK hP hD hS 0 rfl rfl 10 (by decide) (hts _ zw_10_20) (fun _ h9 => h9) rfl (by decide +kernel) rfl rfl (Nat.le_of_ble_eq_true rfl) dX3_moveOn_2 (fun H lc hP hD hS => ?_)
  replace hP : va_P D vwCl (xW3 cI cZ h ad T1) H := by rw [eT1]; exact hP
  replace hD : va_D A (xW3 cI cZ h ad T1) := by rw [eT1]; exact hD
  refine lv_aload_n hx hb dX3_moveOn_5 rfl (lv_at hl 0 rfl) ?_
  refine lv_aload_n hx hb dX3_moveOn_6 rfl (lv_at hl 1 rfl) ?_
  refine lv_iload_n hx hb dX3_moveOn_7 rfl (lv_at hl 2 rfl) ?_
  obtain ⟨T2, hz3, hM⟩ := zx_b1E hM
  refine va_callv (va_runV (As := [.ref (ad w), .int p2]) (rest := []) ⟨hx, hb, hml, hown, hts⟩ (c_X3_takeOut l D cI cZ cT h ad T1 _ N w hrw p2  hz3) (cwV 2 hts (zg_V zw_24_22 zw_24_23 zw_25_0 zw_1_5 zw_25_1) rfl rfl rfl ⟨rfl, zyX3_takeOut⟩ ⟨Nat.le_of_ble_eq_true rfl, Nat.le_of_ble_eq_true rfl⟩) ⟨bS_blind, va_recv hK hP (ci := 3) (q0 := 0) rfl rfl, bS_pre hP hK hD hN⟩ rfl rfl hl.1 rfl (lv_room (Nat.le_of_ble_eq_true rfl)) dX3_moveOn_8 ⟨Nat.zero_le _, Nat.zero_le _⟩) hS (fun q _ h => zx_fW hD hS hA q h) (fun q h => zx_fW hD hS hA q h) (fun u t H1 lc ht hvm hw hB hz1 hk1 hS => ?_)
  replace hw : T2 = u := hw; subst hw
  rw [ht] at hB
  replace hP := hB
  replace hD := xW3_D T2 hD
  refine lv_iconst (v := 5) hx hb dX3_moveOn_11 (by decide) ?_
  refine lv_iload_n hx hb dX3_moveOn_12 rfl (lv_at hl 2 rfl) ?_
  refine lv_imul hx hb dX3_moveOn_13 ?_
  obtain ⟨x4, ex4, hM⟩ := zx_nE hM
  refine zx_top ex4 ?_
  refine lv_istore (lv' := [(5, .int x4), (0, .ref h), (1, .ref (ad w)), (2, .int p2), (3, .int p3), (4, .int p4)]) hx hb dX3_moveOn_14 hl (by decide) rfl (fun ls hl => ?_)
  refine lv_aload_n hx hb dX3_moveOn_16 rfl (lv_at hl 2 rfl) ?_
  refine lv_iload_n hx hb dX3_moveOn_17 rfl (lv_at hl 3 rfl) ?_
  refine lv_aload_n hx hb dX3_moveOn_18 rfl (lv_at hl 2 rfl) ?_
  refine lv_iload hx hb dX3_moveOn_19 (lv_at hl 0 rfl) ?_
  refine lv_iconst (v := 1) hx hb dX3_moveOn_21 (by decide) ?_
  refine lv_iadd hx hb dX3_moveOn_22 ?_
  obtain ⟨x5, q6, ex5, hM⟩ := zx_rdE hM
  refine va_iald (D := D) hx hb hK hP (w + 1) 0 (xW3_aw hrw) rfl q6 dX3_moveOn_23 ?_
  refine zx_top ex5 ?_
  refine lv_iload_n hx hb dX3_moveOn_24 rfl (lv_at hl 4 rfl) ?_
  refine lv_iadd hx hb dX3_moveOn_25 ?_
  refine lv_aload_n hx hb dX3_moveOn_26 rfl (lv_at hl 2 rfl) ?_
  refine lv_iload hx hb dX3_moveOn_27 (lv_at hl 0 rfl) ?_
  refine lv_iconst (v := 2) hx hb dX3_moveOn_29 (by decide) ?_
  refine lv_iadd hx hb dX3_moveOn_30 ?_
  obtain ⟨x7, q8, ex7, hM⟩ := zx_rdE hM
  refine va_iald (D := D) hx hb hK hP (w + 1) 0 (xW3_aw hrw) rfl q8 dX3_moveOn_31 ?_
  refine zx_top ex7 ?_
  refine lv_iload hx hb dX3_moveOn_32 (lv_at hl 5 rfl) ?_
  refine lv_iadd hx hb dX3_moveOn_34 ?_
  refine lv_aload_n hx hb dX3_moveOn_35 rfl (lv_at hl 2 rfl) ?_
  refine lv_iload hx hb dX3_moveOn_36 (lv_at hl 0 rfl) ?_
  refine lv_iconst (v := 3) hx hb dX3_moveOn_38 (by decide) ?_
  refine lv_iadd hx hb dX3_moveOn_39 ?_
  obtain ⟨x9, q10, ex9, hM⟩ := zx_rdE hM
  refine va_iald (D := D) hx hb hK hP (w + 1) 0 (xW3_aw hrw) rfl q10 dX3_moveOn_40 ?_
  refine zx_top ex9 ?_
  refine lv_iload_n hx hb dX3_moveOn_41 rfl (lv_at hl 4 rfl) ?_
  refine lv_iadd hx hb dX3_moveOn_42 ?_
  refine lv_aload_n hx hb dX3_moveOn_43 rfl (lv_at hl 2 rfl) ?_
  refine lv_iload hx hb dX3_moveOn_44 (lv_at hl 0 rfl) ?_
  refine lv_iconst (v := 4) hx hb dX3_moveOn_46 (by decide) ?_
  refine lv_iadd hx hb dX3_moveOn_47 ?_
  obtain ⟨x11, q12, ex11, hM⟩ := zx_rdE hM
  refine va_iald (D := D) hx hb hK hP (w + 1) 0 (xW3_aw hrw) rfl q12 dX3_moveOn_48 ?_
  refine zx_top ex11 ?_
  refine lv_iload hx hb dX3_moveOn_49 (lv_at hl 5 rfl) ?_
  refine lv_iadd hx hb dX3_moveOn_51 ?_
  obtain ⟨g13, hz14, hM⟩ := zx_b1E hM
  refine va_callv (va_runS (As := [.ref (ad w), .int p2, .int (x5 + p3), .int (x7 + p4), .int (x9 + p3), .int (x11 + p4)]) (rest := []) ⟨hx, hb, hml, hown, hts⟩ (c_X3_layRectangle l D cI cZ cT (ad w) 380 (T2 w) _ N p2 (x5 + p3) (x7 + p4) (x9 + p3) (x11 + p4) hz14) (va_cwS 6 hts (zg_S zw_8_14 zw_8_15 zw_1_5 zw_8_16) rfl rfl rfl zyX3_layRectangle ⟨Nat.le_of_ble_eq_true rfl, Nat.le_of_ble_eq_true rfl⟩) ⟨bS_blind, bS_pre (zx_P1 hP (w + 1) ((xW3_aw hrw))) hK (zx_D1 hD (w + 1) ((xW3_aw hrw))) hN⟩ rfl rfl hl.1 rfl (lv_room (Nat.le_of_ble_eq_true rfl)) dX3_moveOn_52 ⟨Nat.zero_le _, Nat.zero_le _⟩) hS (fun q _ h => zx_f1 hD hS hA (k := (w + 1)) (xW3_aw hrw) q h) (fun q h => zx_f1 hD hS hA (k := (w + 1)) (xW3_aw hrw) q h) (fun u t H1 lc ht hvm hw hB hz1 hk1 hS => ?_)
  replace hw : g13 = u := hw; subst hw
  rw [ht] at hB
  replace hP := zx_set1 (k := (w + 1)) hP hD (xW3_aw hrw) hk1 hB
  replace hD := va_D.set (p := (w + 1)) (e := .inl (cI, 380, .inl g13)) hD (xW3_aw hrw)
  rw [xW3_paw hrw] at hP hD
  obtain ⟨T15, eT15, hM⟩ := zx_nE hM
  rw [← eT15] at hP hD
  refine lv_aload_n hx hb dX3_moveOn_55 rfl (lv_at hl 1 rfl) ?_
  refine lv_aload_n hx hb dX3_moveOn_56 rfl (lv_at hl 2 rfl) ?_
  refine lv_iload_n hx hb dX3_moveOn_57 rfl (lv_at hl 3 rfl) ?_
  refine lv_iconst (v := 0) hx hb dX3_moveOn_58 (by decide) ?_
  obtain ⟨T16, hz17, hM⟩ := zx_b1E hM
  refine va_callv (va_runV (As := [.ref (ad w), .int p2, .int 0]) (rest := []) ⟨hx, hb, hml, hown, hts⟩ (c_X3_putIn l D cI cZ cT h ad T15 _ N w hrw p2 0  hz17) (cwV 3 hts (zg_V zw_8_17 zw_8_18 zw_8_19 zw_1_5 zw_8_20) rfl rfl rfl ⟨rfl, zyX3_putIn⟩ ⟨Nat.le_of_ble_eq_true rfl, Nat.le_of_ble_eq_true rfl⟩) ⟨bS_blind, va_recv hK hP (ci := 3) (q0 := 0) rfl rfl, bS_pre hP hK hD hN⟩ rfl rfl hl.1 rfl (lv_room (Nat.le_of_ble_eq_true rfl)) dX3_moveOn_59 ⟨Nat.zero_le _, Nat.zero_le _⟩) hS (fun q _ h => zx_fW hD hS hA q h) (fun q h => zx_fW hD hS hA q h) (fun u t H1 lc ht hvm hw hB hz1 hk1 hS => ?_)
  replace hw : T16 = u := hw; subst hw
  rw [ht] at hB
  replace hP := hB
  replace hD := xW3_D T16 hD
  rw [hQ]
  exact W.vret hx hb hr (fun t ht hW => ⟨⟨T16, rfl, (Option.some.inj hM).symm, by show va_P D vwCl _ t.heap; rw [ht]; exact hP⟩, hS.F ht⟩) hS.2.2 dX3_moveOn_62

/-! ShallowBoxesModel.whyNotMove([IIII)I -/
def f_X3_whyNotMove (N : Nat) (n0 : Nat) (p1 : Int32) (p2 : Int32) (p3 : Int32) (f0 : (Nat → Int32)) : Option (Int32) :=
  (zx_b1 (f_X3_isThere N n0 p1 f0) (fun x1 =>
(if x1 = 0 then
  some 1 else
  (zx_b1 (f_X3_in N (Int32.toInt64 p2) (-99) 99) (fun x4 =>
(if x4 = 0 then
  some 2 else
  (zx_b1 (f_X3_in N (Int32.toInt64 p3) (-99) 99) (fun x7 =>
(if x7 = 0 then
  some 2 else
  (zx_n (5 * p1) (fun x10 =>
(zx_rd n0 f0 (x10 + 1) (fun x11 =>
(if (x11 + p2) < 0 then
  some 3 else
  (zx_rd n0 f0 (x10 + 2) (fun x14 =>
(if (x14 + p3) < 0 then
  some 3 else
  (zx_rd n0 f0 (x10 + 3) (fun x17 =>
(if 100 ≤ (x17 + p2) then
  some 3 else
  (zx_rd n0 f0 (x10 + 4) (fun x20 =>
(if 100 ≤ (x20 + p3) then
  some 3 else
  some 0)))))))))))))))))))))))
abbrev rmX3_whyNotMove : Room := { frames := 2, cells := 0, slots := 0, locals := 46 }
abbrev zsX3_whyNotMove : List Cond := .code yX3_whyNotMove cX3_whyNotMove 5 (some .int) :: wsL_law
theorem zyX3_whyNotMove : yX3_whyNotMove.cls ≠ "java/lang/invoke/MethodHandle" ∧ yX3_whyNotMove.cls ≠ "java/lang/invoke/VarHandle" ∧ (parseMethodDescriptor yX3_whyNotMove.desc).map (fun d => d.parameters.length) = some 4 := by decide +kernel
set_option maxHeartbeats 4000000 in
set_option maxRecDepth 100000 in
theorem c_X3_whyNotMove (l : Launch) (D : va_G) (cI cZ cT : ClassId) (a0 n0 : Nat) (f0 : Nat → Int32) (sz : Nat) (N : Nat) (p1 : Int32) (p2 : Int32) (p3 : Int32) {R : Int32} (hM : f_X3_whyNotMove N n0 p1 p2 p3 f0 = some R) : Met l yX3_whyNotMove zsX3_whyNotMove rmX3_whyNotMove (va_Pc [.ref a0, .int p1, .int p2, .int p3] (bS D (zx_ty cI cZ cT) (pW1 cI a0 n0 f0) sz)) (va_Qi (fun r (_ : Unit) => R = r) (fun _ _ => True) (fun q => sz ≤ q)) 0 0 (fun q => sz ≤ q) := by
  refine Met.ofW (cc := cX3_whyNotMove) (maxL := 5) (ret := (some .int)) (by decide) rfl ?_
  intro p e s m args below meth c s₁ B hml hv
  obtain ⟨rfl, hsz, hP, hK, hD0, hN⟩ := hv
  have hx := B.exec
  have hb := B.bytes
  have hr := B.returns
  have hts : ∀ w ∈ wsL_law, w.before _ s = true := fun w hw => atoms_spec (ws := zsX3_whyNotMove) B.pre w (List.mem_cons_of_mem _ hw)
  have hown : s.vm.findClass RX3 = some m.cls := findClass_of_methodNamed B.named
  have hlocks := B.notSynchronized
  subst hsz
  generalize hAe : (fun q : Nat => s.heap.size ≤ q) = A
  have hA : ∀ q : Nat, s.heap.size ≤ q → A q := fun q h => by rw [← hAe]; exact h
  have hD := hD0
  have hS : va_S A s.heap s.heap [] := va_S.rf
  have hl := lv_entry ([.ref a0, .int p1, .int p2, .int p3]) (n := 5) (Nat.le_of_ble_eq_true rfl)
  rw [lg_entry_eq]
  generalize (lg_sl ([.ref a0, .int p1, .int p2, .int p3]) ++ List.replicate (5 - (lg_sl ([.ref a0, .int p1, .int p2, .int p3])).length) Slot.unset).toArray = ls at hl ⊢
  have hl : lv_has ls 5 [(0, .ref a0), (1, .int p1), (2, .int p2), (3, .int p3)] := hl
  generalize hQ : MQ below (va_Qi (fun r (_ : Unit) => R = r) (fun _ _ => True) A) ([.ref a0, .int p1, .int p2, .int p3] : List Value).toArray s 0 0 A = Q9
  replace hQ := hQ.symm
  unfold f_X3_whyNotMove at hM
  refine lv_aload_n hx hb dX3_whyNotMove_0 rfl (lv_at hl 0 rfl) ?_
  refine lv_iload_n hx hb dX3_whyNotMove_1 rfl (lv_at hl 1 rfl) ?_
  obtain ⟨x1, hz2, hM⟩ := zx_b1E hM
  refine va_calli (va_runS (As := [.ref a0, .int p1]) (rest := []) ⟨hx, hb, hml, hown, hts⟩ (c_X3_isThere l D cI cZ cT a0 n0 f0 _ N p1 hz2) (va_cwS 2 hts (zg_S zw_16_14 zw_16_15 zw_1_5 zw_16_16) rfl rfl rfl zyX3_isThere ⟨Nat.le_of_ble_eq_true rfl, Nat.le_of_ble_eq_true rfl⟩) ⟨bS_blind, bS_pre (zx_P1 hP 0 (rfl)) hK (zx_D1 hD 0 (rfl)) hN⟩ rfl rfl hl.1 rfl (lv_room (Nat.le_of_ble_eq_true rfl)) dX3_whyNotMove_2 ⟨Nat.zero_le _, Nat.zero_le _⟩) hS (fun q h1 h2 => absurd h1 (Nat.not_lt.mpr h2)) (fun q h => hA q (Nat.le_trans hS.1 h)) (fun r u t H1 lc ht hvm hw hB hz1 hk1 hS => ?_)
  replace hw : x1 = r := hw; subst hw
  replace hP := zx_keep hP hk1
  refine lv_if_ne (tgt := 10) hx hb dX3_whyNotMove_5 (by decide) (fun q3 => ?_) (fun q3 => ?_)
  · replace hM := zx_f q3 hM
    refine lv_iload_n hx hb dX3_whyNotMove_10 rfl (lv_at hl 2 rfl) ?_
    refine lv_i2l hx hb dX3_whyNotMove_11 rfl ?_
    refine lv_ldc2 (v := (-99)) hx hb hown (hts _ zw_26_5) dX3_whyNotMove_12 ?_
    refine lv_ldc2 (v := 99) hx hb hown (hts _ zw_22_22) dX3_whyNotMove_15 ?_
    obtain ⟨x4, hz5, hM⟩ := zx_b1E hM
    refine va_calli (va_runS (As := [.long (Int32.toInt64 p2), .long (-99), .long 99]) (rest := []) ⟨hx, hb, hml, hown, hts⟩ (c_X3_in l D cI cZ cT _ N (Int32.toInt64 p2) (-99) 99 hz5) (va_cwS 3 hts (zg_S zw_5_11 zw_5_12 zw_1_5 zw_5_13) rfl rfl rfl zyX3_in ⟨Nat.le_of_ble_eq_true rfl, Nat.le_of_ble_eq_true rfl⟩) ⟨bS_blind, bS_pre (zx_P0 hP) hK (zx_D0 hD) hN⟩ rfl rfl hl.1 rfl (lv_room (Nat.le_of_ble_eq_true rfl)) dX3_whyNotMove_18 ⟨Nat.zero_le _, Nat.zero_le _⟩) hS (fun q h1 h2 => absurd h1 (Nat.not_lt.mpr h2)) (fun q h => hA q (Nat.le_trans hS.1 h)) (fun r u t H1 lc ht hvm hw hB hz1 hk1 hS => ?_)
    replace hw : x4 = r := hw; subst hw
    replace hP := zx_keep hP hk1
    refine lv_if_eq (tgt := 38) hx hb dX3_whyNotMove_21 (by decide) (fun q6 => ?_) (fun q6 => ?_)
    · replace hM := zx_t q6 hM
      refine lv_iconst (v := 2) hx hb dX3_whyNotMove_38 (by decide) ?_
      rw [hQ]
      exact W.iret hx hb hr (fun t ht hW => ⟨⟨2, (), rfl, (Option.some.inj hM).symm, trivial⟩, hS.F ht⟩) hS.2.2 dX3_whyNotMove_39
    · replace hM := zx_f q6 hM
      refine lv_iload_n hx hb dX3_whyNotMove_24 rfl (lv_at hl 3 rfl) ?_
      refine lv_i2l hx hb dX3_whyNotMove_25 rfl ?_
      refine lv_ldc2 (v := (-99)) hx hb hown (hts _ zw_26_5) dX3_whyNotMove_26 ?_
      refine lv_ldc2 (v := 99) hx hb hown (hts _ zw_22_22) dX3_whyNotMove_29 ?_
      obtain ⟨x7, hz8, hM⟩ := zx_b1E hM
      refine va_calli (va_runS (As := [.long (Int32.toInt64 p3), .long (-99), .long 99]) (rest := []) ⟨hx, hb, hml, hown, hts⟩ (c_X3_in l D cI cZ cT _ N (Int32.toInt64 p3) (-99) 99 hz8) (va_cwS 3 hts (zg_S zw_5_11 zw_5_12 zw_1_5 zw_5_13) rfl rfl rfl zyX3_in ⟨Nat.le_of_ble_eq_true rfl, Nat.le_of_ble_eq_true rfl⟩) ⟨bS_blind, bS_pre (zx_P0 hP) hK (zx_D0 hD) hN⟩ rfl rfl hl.1 rfl (lv_room (Nat.le_of_ble_eq_true rfl)) dX3_whyNotMove_32 ⟨Nat.zero_le _, Nat.zero_le _⟩) hS (fun q h1 h2 => absurd h1 (Nat.not_lt.mpr h2)) (fun q h => hA q (Nat.le_trans hS.1 h)) (fun r u t H1 lc ht hvm hw hB hz1 hk1 hS => ?_)
      replace hw : x7 = r := hw; subst hw
      replace hP := zx_keep hP hk1
      refine lv_if_ne (tgt := 40) hx hb dX3_whyNotMove_35 (by decide) (fun q9 => ?_) (fun q9 => ?_)
      · replace hM := zx_f q9 hM
        refine lv_iconst (v := 5) hx hb dX3_whyNotMove_40 (by decide) ?_
        refine lv_iload_n hx hb dX3_whyNotMove_41 rfl (lv_at hl 1 rfl) ?_
        refine lv_imul hx hb dX3_whyNotMove_42 ?_
        obtain ⟨x10, ex10, hM⟩ := zx_nE hM
        refine zx_top ex10 ?_
        refine lv_istore (lv' := [(4, .int x10), (0, .ref a0), (1, .int p1), (2, .int p2), (3, .int p3)]) hx hb dX3_whyNotMove_43 hl (by decide) rfl (fun ls hl => ?_)
        refine lv_aload_n hx hb dX3_whyNotMove_45 rfl (lv_at hl 1 rfl) ?_
        refine lv_iload hx hb dX3_whyNotMove_46 (lv_at hl 0 rfl) ?_
        refine lv_iconst (v := 1) hx hb dX3_whyNotMove_48 (by decide) ?_
        refine lv_iadd hx hb dX3_whyNotMove_49 ?_
        obtain ⟨x11, q12, ex11, hM⟩ := zx_rdE hM
        refine va_iald (D := D) hx hb hK hP 0 0 rfl rfl q12 dX3_whyNotMove_50 ?_
        refine zx_top ex11 ?_
        refine lv_iload_n hx hb dX3_whyNotMove_51 rfl (lv_at hl 3 rfl) ?_
        refine lv_iadd hx hb dX3_whyNotMove_52 ?_
        refine lv_if_lt (tgt := 97) hx hb dX3_whyNotMove_53 (by decide) (fun q13 => ?_) (fun q13 => ?_)
        · replace hM := zx_t q13 hM
          refine lv_iconst (v := 3) hx hb dX3_whyNotMove_97 (by decide) ?_
          rw [hQ]
          exact W.iret hx hb hr (fun t ht hW => ⟨⟨3, (), rfl, (Option.some.inj hM).symm, trivial⟩, hS.F ht⟩) hS.2.2 dX3_whyNotMove_98
        · replace hM := zx_f q13 hM
          refine lv_aload_n hx hb dX3_whyNotMove_56 rfl (lv_at hl 1 rfl) ?_
          refine lv_iload hx hb dX3_whyNotMove_57 (lv_at hl 0 rfl) ?_
          refine lv_iconst (v := 2) hx hb dX3_whyNotMove_59 (by decide) ?_
          refine lv_iadd hx hb dX3_whyNotMove_60 ?_
          obtain ⟨x14, q15, ex14, hM⟩ := zx_rdE hM
          refine va_iald (D := D) hx hb hK hP 0 0 rfl rfl q15 dX3_whyNotMove_61 ?_
          refine zx_top ex14 ?_
          refine lv_iload_n hx hb dX3_whyNotMove_62 rfl (lv_at hl 4 rfl) ?_
          refine lv_iadd hx hb dX3_whyNotMove_63 ?_
          refine lv_if_lt (tgt := 97) hx hb dX3_whyNotMove_64 (by decide) (fun q16 => ?_) (fun q16 => ?_)
          · replace hM := zx_t q16 hM
            refine lv_iconst (v := 3) hx hb dX3_whyNotMove_97 (by decide) ?_
            rw [hQ]
            exact W.iret hx hb hr (fun t ht hW => ⟨⟨3, (), rfl, (Option.some.inj hM).symm, trivial⟩, hS.F ht⟩) hS.2.2 dX3_whyNotMove_98
          · replace hM := zx_f q16 hM
            refine lv_aload_n hx hb dX3_whyNotMove_67 rfl (lv_at hl 1 rfl) ?_
            refine lv_iload hx hb dX3_whyNotMove_68 (lv_at hl 0 rfl) ?_
            refine lv_iconst (v := 3) hx hb dX3_whyNotMove_70 (by decide) ?_
            refine lv_iadd hx hb dX3_whyNotMove_71 ?_
            obtain ⟨x17, q18, ex17, hM⟩ := zx_rdE hM
            refine va_iald (D := D) hx hb hK hP 0 0 rfl rfl q18 dX3_whyNotMove_72 ?_
            refine zx_top ex17 ?_
            refine lv_iload_n hx hb dX3_whyNotMove_73 rfl (lv_at hl 3 rfl) ?_
            refine lv_iadd hx hb dX3_whyNotMove_74 ?_
            refine lv_bipush (v := 100) hx hb dX3_whyNotMove_75 (by decide) ?_
            refine lv_icmp_ge (tgt := 97) hx hb dX3_whyNotMove_77 (by decide) (fun q19 => ?_) (fun q19 => ?_)
            · replace hM := zx_t q19 hM
              refine lv_iconst (v := 3) hx hb dX3_whyNotMove_97 (by decide) ?_
              rw [hQ]
              exact W.iret hx hb hr (fun t ht hW => ⟨⟨3, (), rfl, (Option.some.inj hM).symm, trivial⟩, hS.F ht⟩) hS.2.2 dX3_whyNotMove_98
            · replace hM := zx_f q19 hM
              refine lv_aload_n hx hb dX3_whyNotMove_80 rfl (lv_at hl 1 rfl) ?_
              refine lv_iload hx hb dX3_whyNotMove_81 (lv_at hl 0 rfl) ?_
              refine lv_iconst (v := 4) hx hb dX3_whyNotMove_83 (by decide) ?_
              refine lv_iadd hx hb dX3_whyNotMove_84 ?_
              obtain ⟨x20, q21, ex20, hM⟩ := zx_rdE hM
              refine va_iald (D := D) hx hb hK hP 0 0 rfl rfl q21 dX3_whyNotMove_85 ?_
              refine zx_top ex20 ?_
              refine lv_iload_n hx hb dX3_whyNotMove_86 rfl (lv_at hl 4 rfl) ?_
              refine lv_iadd hx hb dX3_whyNotMove_87 ?_
              refine lv_bipush (v := 100) hx hb dX3_whyNotMove_88 (by decide) ?_
              refine lv_icmp_ge (tgt := 97) hx hb dX3_whyNotMove_90 (by decide) (fun q22 => ?_) (fun q22 => ?_)
              · replace hM := zx_t q22 hM
                refine lv_iconst (v := 3) hx hb dX3_whyNotMove_97 (by decide) ?_
                rw [hQ]
                exact W.iret hx hb hr (fun t ht hW => ⟨⟨3, (), rfl, (Option.some.inj hM).symm, trivial⟩, hS.F ht⟩) hS.2.2 dX3_whyNotMove_98
              · replace hM := zx_f q22 hM
                refine lv_iconst (v := 0) hx hb dX3_whyNotMove_93 (by decide) ?_
                refine lv_goto (tgt := 98) hx hb dX3_whyNotMove_94 (by decide) ?_
                rw [hQ]
                exact W.iret hx hb hr (fun t ht hW => ⟨⟨0, (), rfl, (Option.some.inj hM).symm, trivial⟩, hS.F ht⟩) hS.2.2 dX3_whyNotMove_98
      · replace hM := zx_t q9 hM
        refine lv_iconst (v := 2) hx hb dX3_whyNotMove_38 (by decide) ?_
        rw [hQ]
        exact W.iret hx hb hr (fun t ht hW => ⟨⟨2, (), rfl, (Option.some.inj hM).symm, trivial⟩, hS.F ht⟩) hS.2.2 dX3_whyNotMove_39
  · replace hM := zx_t q3 hM
    refine lv_iconst (v := 1) hx hb dX3_whyNotMove_8 (by decide) ?_
    rw [hQ]
    exact W.iret hx hb hr (fun t ht hW => ⟨⟨1, (), rfl, (Option.some.inj hM).symm, trivial⟩, hS.F ht⟩) hS.2.2 dX3_whyNotMove_9

/-! ShallowBoxesModel.isRectangle(IIII)Z -/
def f_X3_isRectangle (N : Nat) (p0 : Int32) (p1 : Int32) (p2 : Int32) (p3 : Int32) : Option (Int32) :=
  (zx_b1 (f_X3_in N (Int32.toInt64 p0) 0 99) (fun x1 =>
(if x1 = 0 then
  some 0 else
  (zx_b1 (f_X3_in N (Int32.toInt64 p1) 0 99) (fun x4 =>
(if x4 = 0 then
  some 0 else
  (zx_b1 (f_X3_in N (Int32.toInt64 p2) (Int32.toInt64 p0) 99) (fun x7 =>
(if x7 = 0 then
  some 0 else
  (zx_b1 (f_X3_in N (Int32.toInt64 p3) (Int32.toInt64 p1) 99) (fun x10 =>
(if x10 = 0 then
  some 0 else
  some 1))))))))))))
abbrev rmX3_isRectangle : Room := { frames := 1, cells := 0, slots := 0, locals := 25 }
abbrev zsX3_isRectangle : List Cond := .code yX3_isRectangle cX3_isRectangle 4 (some .boolean) :: wsL_law
theorem zyX3_isRectangle : yX3_isRectangle.cls ≠ "java/lang/invoke/MethodHandle" ∧ yX3_isRectangle.cls ≠ "java/lang/invoke/VarHandle" ∧ (parseMethodDescriptor yX3_isRectangle.desc).map (fun d => d.parameters.length) = some 4 := by decide +kernel
set_option maxHeartbeats 4000000 in
set_option maxRecDepth 100000 in
theorem c_X3_isRectangle (l : Launch) (D : va_G) (cI cZ cT : ClassId) (sz : Nat) (N : Nat) (p0 : Int32) (p1 : Int32) (p2 : Int32) (p3 : Int32) {R : Int32} (hM : f_X3_isRectangle N p0 p1 p2 p3 = some R) : Met l yX3_isRectangle zsX3_isRectangle rmX3_isRectangle (va_Pc [.int p0, .int p1, .int p2, .int p3] (bS D (zx_ty cI cZ cT) [] sz)) (va_Qi (fun r (_ : Unit) => R = r) (fun _ _ => True) (fun q => sz ≤ q)) 0 0 (fun q => sz ≤ q) := by
  refine Met.ofW (cc := cX3_isRectangle) (maxL := 4) (ret := (some .boolean)) (by decide) rfl ?_
  intro p e s m args below meth c s₁ B hml hv
  obtain ⟨rfl, hsz, hP, hK, hD0, hN⟩ := hv
  have hx := B.exec
  have hb := B.bytes
  have hr := B.returns
  have hts : ∀ w ∈ wsL_law, w.before _ s = true := fun w hw => atoms_spec (ws := zsX3_isRectangle) B.pre w (List.mem_cons_of_mem _ hw)
  have hown : s.vm.findClass RX3 = some m.cls := findClass_of_methodNamed B.named
  have hlocks := B.notSynchronized
  subst hsz
  generalize hAe : (fun q : Nat => s.heap.size ≤ q) = A
  have hA : ∀ q : Nat, s.heap.size ≤ q → A q := fun q h => by rw [← hAe]; exact h
  have hD := hD0
  have hS : va_S A s.heap s.heap [] := va_S.rf
  have hl := lv_entry ([.int p0, .int p1, .int p2, .int p3]) (n := 4) (Nat.le_of_ble_eq_true rfl)
  rw [lg_entry_eq]
  generalize (lg_sl ([.int p0, .int p1, .int p2, .int p3]) ++ List.replicate (4 - (lg_sl ([.int p0, .int p1, .int p2, .int p3])).length) Slot.unset).toArray = ls at hl ⊢
  have hl : lv_has ls 4 [(0, .int p0), (1, .int p1), (2, .int p2), (3, .int p3)] := hl
  generalize hQ : MQ below (va_Qi (fun r (_ : Unit) => R = r) (fun _ _ => True) A) ([.int p0, .int p1, .int p2, .int p3] : List Value).toArray s 0 0 A = Q9
  replace hQ := hQ.symm
  unfold f_X3_isRectangle at hM
  refine lv_iload_n hx hb dX3_isRectangle_0 rfl (lv_at hl 0 rfl) ?_
  refine lv_i2l hx hb dX3_isRectangle_1 rfl ?_
  refine lv_lconst (v := 0) hx hb dX3_isRectangle_2 (by decide) ?_
  refine lv_ldc2 (v := 99) hx hb hown (hts _ zw_22_22) dX3_isRectangle_3 ?_
  obtain ⟨x1, hz2, hM⟩ := zx_b1E hM
  refine va_calli (va_runS (As := [.long (Int32.toInt64 p0), .long 0, .long 99]) (rest := []) ⟨hx, hb, hml, hown, hts⟩ (c_X3_in l D cI cZ cT _ N (Int32.toInt64 p0) 0 99 hz2) (va_cwS 3 hts (zg_S zw_5_11 zw_5_12 zw_1_5 zw_5_13) rfl rfl rfl zyX3_in ⟨Nat.le_of_ble_eq_true rfl, Nat.le_of_ble_eq_true rfl⟩) ⟨bS_blind, bS_pre (zx_P0 hP) hK (zx_D0 hD) hN⟩ rfl rfl hl.1 rfl (lv_room (Nat.le_of_ble_eq_true rfl)) dX3_isRectangle_6 ⟨Nat.zero_le _, Nat.zero_le _⟩) hS (fun q h1 h2 => absurd h1 (Nat.not_lt.mpr h2)) (fun q h => hA q (Nat.le_trans hS.1 h)) (fun r u t H1 lc ht hvm hw hB hz1 hk1 hS => ?_)
  replace hw : x1 = r := hw; subst hw
  replace hP := zx_keep hP hk1
  refine lv_if_eq (tgt := 54) hx hb dX3_isRectangle_9 (by decide) (fun q3 => ?_) (fun q3 => ?_)
  · replace hM := zx_t q3 hM
    refine lv_iconst (v := 0) hx hb dX3_isRectangle_54 (by decide) ?_
    rw [hQ]
    exact W.zret hx hb hr (by rfl) (fun t ht hW => ⟨⟨0, (), rfl, (Option.some.inj hM).symm, trivial⟩, hS.F ht⟩) hS.2.2 dX3_isRectangle_55
  · replace hM := zx_f q3 hM
    refine lv_iload_n hx hb dX3_isRectangle_12 rfl (lv_at hl 1 rfl) ?_
    refine lv_i2l hx hb dX3_isRectangle_13 rfl ?_
    refine lv_lconst (v := 0) hx hb dX3_isRectangle_14 (by decide) ?_
    refine lv_ldc2 (v := 99) hx hb hown (hts _ zw_22_22) dX3_isRectangle_15 ?_
    obtain ⟨x4, hz5, hM⟩ := zx_b1E hM
    refine va_calli (va_runS (As := [.long (Int32.toInt64 p1), .long 0, .long 99]) (rest := []) ⟨hx, hb, hml, hown, hts⟩ (c_X3_in l D cI cZ cT _ N (Int32.toInt64 p1) 0 99 hz5) (va_cwS 3 hts (zg_S zw_5_11 zw_5_12 zw_1_5 zw_5_13) rfl rfl rfl zyX3_in ⟨Nat.le_of_ble_eq_true rfl, Nat.le_of_ble_eq_true rfl⟩) ⟨bS_blind, bS_pre (zx_P0 hP) hK (zx_D0 hD) hN⟩ rfl rfl hl.1 rfl (lv_room (Nat.le_of_ble_eq_true rfl)) dX3_isRectangle_18 ⟨Nat.zero_le _, Nat.zero_le _⟩) hS (fun q h1 h2 => absurd h1 (Nat.not_lt.mpr h2)) (fun q h => hA q (Nat.le_trans hS.1 h)) (fun r u t H1 lc ht hvm hw hB hz1 hk1 hS => ?_)
    replace hw : x4 = r := hw; subst hw
    replace hP := zx_keep hP hk1
    refine lv_if_eq (tgt := 54) hx hb dX3_isRectangle_21 (by decide) (fun q6 => ?_) (fun q6 => ?_)
    · replace hM := zx_t q6 hM
      refine lv_iconst (v := 0) hx hb dX3_isRectangle_54 (by decide) ?_
      rw [hQ]
      exact W.zret hx hb hr (by rfl) (fun t ht hW => ⟨⟨0, (), rfl, (Option.some.inj hM).symm, trivial⟩, hS.F ht⟩) hS.2.2 dX3_isRectangle_55
    · replace hM := zx_f q6 hM
      refine lv_iload_n hx hb dX3_isRectangle_24 rfl (lv_at hl 2 rfl) ?_
      refine lv_i2l hx hb dX3_isRectangle_25 rfl ?_
      refine lv_iload_n hx hb dX3_isRectangle_26 rfl (lv_at hl 0 rfl) ?_
      refine lv_i2l hx hb dX3_isRectangle_27 rfl ?_
      refine lv_ldc2 (v := 99) hx hb hown (hts _ zw_22_22) dX3_isRectangle_28 ?_
      obtain ⟨x7, hz8, hM⟩ := zx_b1E hM
      refine va_calli (va_runS (As := [.long (Int32.toInt64 p2), .long (Int32.toInt64 p0), .long 99]) (rest := []) ⟨hx, hb, hml, hown, hts⟩ (c_X3_in l D cI cZ cT _ N (Int32.toInt64 p2) (Int32.toInt64 p0) 99 hz8) (va_cwS 3 hts (zg_S zw_5_11 zw_5_12 zw_1_5 zw_5_13) rfl rfl rfl zyX3_in ⟨Nat.le_of_ble_eq_true rfl, Nat.le_of_ble_eq_true rfl⟩) ⟨bS_blind, bS_pre (zx_P0 hP) hK (zx_D0 hD) hN⟩ rfl rfl hl.1 rfl (lv_room (Nat.le_of_ble_eq_true rfl)) dX3_isRectangle_31 ⟨Nat.zero_le _, Nat.zero_le _⟩) hS (fun q h1 h2 => absurd h1 (Nat.not_lt.mpr h2)) (fun q h => hA q (Nat.le_trans hS.1 h)) (fun r u t H1 lc ht hvm hw hB hz1 hk1 hS => ?_)
      replace hw : x7 = r := hw; subst hw
      replace hP := zx_keep hP hk1
      refine lv_if_eq (tgt := 54) hx hb dX3_isRectangle_34 (by decide) (fun q9 => ?_) (fun q9 => ?_)
      · replace hM := zx_t q9 hM
        refine lv_iconst (v := 0) hx hb dX3_isRectangle_54 (by decide) ?_
        rw [hQ]
        exact W.zret hx hb hr (by rfl) (fun t ht hW => ⟨⟨0, (), rfl, (Option.some.inj hM).symm, trivial⟩, hS.F ht⟩) hS.2.2 dX3_isRectangle_55
      · replace hM := zx_f q9 hM
        refine lv_iload_n hx hb dX3_isRectangle_37 rfl (lv_at hl 3 rfl) ?_
        refine lv_i2l hx hb dX3_isRectangle_38 rfl ?_
        refine lv_iload_n hx hb dX3_isRectangle_39 rfl (lv_at hl 1 rfl) ?_
        refine lv_i2l hx hb dX3_isRectangle_40 rfl ?_
        refine lv_ldc2 (v := 99) hx hb hown (hts _ zw_22_22) dX3_isRectangle_41 ?_
        obtain ⟨x10, hz11, hM⟩ := zx_b1E hM
        refine va_calli (va_runS (As := [.long (Int32.toInt64 p3), .long (Int32.toInt64 p1), .long 99]) (rest := []) ⟨hx, hb, hml, hown, hts⟩ (c_X3_in l D cI cZ cT _ N (Int32.toInt64 p3) (Int32.toInt64 p1) 99 hz11) (va_cwS 3 hts (zg_S zw_5_11 zw_5_12 zw_1_5 zw_5_13) rfl rfl rfl zyX3_in ⟨Nat.le_of_ble_eq_true rfl, Nat.le_of_ble_eq_true rfl⟩) ⟨bS_blind, bS_pre (zx_P0 hP) hK (zx_D0 hD) hN⟩ rfl rfl hl.1 rfl (lv_room (Nat.le_of_ble_eq_true rfl)) dX3_isRectangle_44 ⟨Nat.zero_le _, Nat.zero_le _⟩) hS (fun q h1 h2 => absurd h1 (Nat.not_lt.mpr h2)) (fun q h => hA q (Nat.le_trans hS.1 h)) (fun r u t H1 lc ht hvm hw hB hz1 hk1 hS => ?_)
        replace hw : x10 = r := hw; subst hw
        replace hP := zx_keep hP hk1
        refine lv_if_eq (tgt := 54) hx hb dX3_isRectangle_47 (by decide) (fun q12 => ?_) (fun q12 => ?_)
        · replace hM := zx_t q12 hM
          refine lv_iconst (v := 0) hx hb dX3_isRectangle_54 (by decide) ?_
          rw [hQ]
          exact W.zret hx hb hr (by rfl) (fun t ht hW => ⟨⟨0, (), rfl, (Option.some.inj hM).symm, trivial⟩, hS.F ht⟩) hS.2.2 dX3_isRectangle_55
        · replace hM := zx_f q12 hM
          refine lv_iconst (v := 1) hx hb dX3_isRectangle_50 (by decide) ?_
          refine lv_goto (tgt := 55) hx hb dX3_isRectangle_51 (by decide) ?_
          rw [hQ]
          exact W.zret hx hb hr (by rfl) (fun t ht hW => ⟨⟨1, (), rfl, (Option.some.inj hM).symm, trivial⟩, hS.F ht⟩) hS.2.2 dX3_isRectangle_55

/-! ShallowBoxesModel.numberNodes([I)I -/
def f_X3_numberNodes_j99 (N : Nat) (w : Nat) (k15 : Int32 → Int32 → zx_S → Option (Int32 × zx_S)) (v2 : Int32) (v3 : Int32) (S_ : zx_S) : Option (Int32 × zx_S) :=
  k15 v2 v3 S_
def f_X3_numberNodes_l59 (N : Nat) (w : Nat) (k15 : Int32 → Int32 → zx_S → Option (Int32 × zx_S)) : Nat → Int32 → Int32 → Int32 → Int32 → zx_S → Option (Int32 × zx_S)
  | 0, _, _, _, _, _ => none
  | n59 + 1, v2, v3, v4, v5, S_ => (if v5 < 0 then
  f_X3_numberNodes_j99 N w k15 v2 v3 S_ else
  (zx_b1 (f_X3_levelOf N 380 v4 (S_ w)) (fun x3 =>
(if x3 ≤ 0 then
  f_X3_numberNodes_j99 N w k15 v2 v3 S_ else
  (zx_b1 (f_X3_entryOf N 380 v4 v5 (S_ w)) (fun x6 =>
(zx_wr 64 v3 (zx_st S_ 11 (upd (S_ 11) (Int32.toNatClampNeg v3) (x6 - 24))) (fun T8 =>
(zx_n (v3 + 1) (fun x10 =>
(zx_n (v5 + (-1)) (fun x11 =>
f_X3_numberNodes_l59 N w k15  n59 v2 x10 v4 x11 T8))))))))))))
def f_X3_numberNodes_l15 (N : Nat) (w : Nat) : Nat → Int32 → Int32 → zx_S → Option (Int32 × zx_S)
  | 0, _, _, _ => none
  | n15 + 1, v2, v3, S_ => (if v3 ≤ 0 then
  some (v2, S_) else
  (zx_n (v3 + (-1)) (fun x12 =>
(zx_rd 64 (S_ 11) x12 (fun x13 =>
(zx_wr 32 x13 (zx_st S_ 9 (upd (S_ 9) (Int32.toNatClampNeg x13) v2)) (fun T15 =>
(zx_wr 32 v2 (zx_st T15 10 (upd (T15 10) (Int32.toNatClampNeg v2) x13)) (fun T17 =>
(zx_n (v2 + 1) (fun x19 =>
(zx_b1 (f_X3_many N 380 x13 (T17 w)) (fun x20 =>
(zx_n (x20 - 1) (fun x22 =>
f_X3_numberNodes_l59 N w (f_X3_numberNodes_l15 N w  n15) N x19 x12 x13 x22 T17)))))))))))))))
def f_X3_numberNodes (N : Nat) (w : Nat) (S : zx_S) : Option (Int32 × zx_S) :=
  (zx_rd 380 (S w) 376 (fun x23 =>
(zx_wr 64 0 (zx_st S 11 (upd (S 11) (Int32.toNatClampNeg 0) x23)) (fun T25 =>
f_X3_numberNodes_l15 N w  N 0 1 T25))))
abbrev rmX3_numberNodes : Room := { frames := 2, cells := 0, slots := 0, locals := 42 }
abbrev zsX3_numberNodes : List Cond := .code yX3_numberNodes cX3_numberNodes 6 (some .int) :: wsL_law
theorem zyX3_numberNodes : yX3_numberNodes.cls ≠ "java/lang/invoke/MethodHandle" ∧ yX3_numberNodes.cls ≠ "java/lang/invoke/VarHandle" ∧ (parseMethodDescriptor yX3_numberNodes.desc).map (fun d => d.parameters.length) = some 1 := by decide +kernel
set_option maxHeartbeats 4000000 in
set_option maxRecDepth 100000 in
theorem c_X3_numberNodes (l : Launch) (D : va_G) (cI cZ cT : ClassId) (h : Nat) (ad : Nat → Nat) (S : zx_S) (sz : Nat) (N : Nat) (w : Nat) (hrw : w = 1 ∨ w = 2) {R : Int32 × zx_S} (hM : f_X3_numberNodes N w S = some R) : Met l yX3_numberNodes zsX3_numberNodes rmX3_numberNodes (va_Pc [.ref h, .ref (ad w)] (bS D (zx_ty cI cZ cT) (xW3 cI cZ h ad S) sz)) (va_Qi (fun r u => R = (r, u)) (fun u t => va_P D vwCl (xW3 cI cZ h ad u) t.heap) (va_A (xW3 cI cZ h ad S) sz)) 0 0 (va_A (xW3 cI cZ h ad S) sz) := by
  refine Met.ofW (cc := cX3_numberNodes) (maxL := 6) (ret := (some .int)) (by decide) rfl ?_
  intro p e s m args below meth c s₁ B hml hv
  obtain ⟨rfl, hsz, hP, hK, hD0, hN⟩ := hv
  have hx := B.exec
  have hb := B.bytes
  have hr := B.returns
  have hts : ∀ w ∈ wsL_law, w.before _ s = true := fun w hw => atoms_spec (ws := zsX3_numberNodes) B.pre w (List.mem_cons_of_mem _ hw)
  have hown : s.vm.findClass RX3 = some m.cls := findClass_of_methodNamed B.named
  have hlocks := B.notSynchronized
  subst hsz
  have hD := hD0.self (sz := s.heap.size)
  generalize hAe : va_A (xW3 cI cZ h ad S) s.heap.size = A at hD ⊢
  have hA : ∀ q : Nat, s.heap.size ≤ q → A q := fun q h => by rw [← hAe]; exact Or.inr h
  have hS : va_S A s.heap s.heap [] := va_S.rf
  have hl := lv_entry ([.ref h, .ref (ad w)]) (n := 6) (Nat.le_of_ble_eq_true rfl)
  rw [lg_entry_eq]
  generalize (lg_sl ([.ref h, .ref (ad w)]) ++ List.replicate (6 - (lg_sl ([.ref h, .ref (ad w)])).length) Slot.unset).toArray = ls at hl ⊢
  have hl : lv_has ls 6 [(0, .ref h), (1, .ref (ad w))] := hl
  generalize hQ : MQ below (va_Qi (fun r u => R = (r, u)) (fun u t => va_P D vwCl (xW3 cI cZ h ad u) t.heap) A) ([.ref h, .ref (ad w)] : List Value).toArray s 0 0 A = Q9
  replace hQ := hQ.symm
  unfold f_X3_numberNodes at hM
  have l15 : ∀ (n15 : Nat) (v2 : Int32) (v3 : Int32) (S_ : zx_S) (H : Heap) (lc : List Loc) (ls : Array Slot), va_P D vwCl (xW3 cI cZ h ad S_) H → va_D A (xW3 cI cZ h ad S_) → va_S A s.heap H lc → lv_has ls 6 [(0, .ref h), (1, .ref (ad w)), (2, .int v2), (3, .int v3)] → f_X3_numberNodes_l15 N w n15 v2 v3 S_ = some R → W p l e (headSpec zsX3_numberNodes rmX3_numberNodes).room s m ([.ref h, .ref (ad w)] : List Value).toArray below meth c H lc 0 0 Q9 (F0 m 15 ls []) := by
    intro n15
    induction n15 with
    | zero =>
      intro v2 v3 S_ H lc ls hP hD hS hl hM
      rw [f_X3_numberNodes_l15] at hM; exact absurd hM (by intro h; cases h)
    | succ n15 ih15 =>
      intro v2 v3 S_ H lc ls hP hD hS hl hM
      rw [f_X3_numberNodes_l15] at hM
      refine lv_iload_n hx hb dX3_numberNodes_15 rfl (lv_at hl 3 rfl) ?_
      refine lv_if_le (tgt := 102) hx hb dX3_numberNodes_16 (by decide) (fun q1 => ?_) (fun q1 => ?_)
      · replace hM := zx_t q1 hM
        refine lv_iload_n hx hb dX3_numberNodes_102 rfl (lv_at hl 2 rfl) ?_
        rw [hQ]
        exact W.iret hx hb hr (fun t ht hW => ⟨⟨v2, S_, rfl, (Option.some.inj hM).symm, by show va_P D vwCl _ t.heap; rw [ht]; exact hP⟩, hS.F ht⟩) hS.2.2 dX3_numberNodes_103
      · replace hM := zx_f q1 hM
        have l59 : ∀ (n59 : Nat) (v2 : Int32) (v3 : Int32) (v4 : Int32) (v5 : Int32) (S_ : zx_S) (H : Heap) (lc : List Loc) (ls : Array Slot), va_P D vwCl (xW3 cI cZ h ad S_) H → va_D A (xW3 cI cZ h ad S_) → va_S A s.heap H lc → lv_has ls 6 [(0, .ref h), (1, .ref (ad w)), (2, .int v2), (3, .int v3), (4, .int v4), (5, .int v5)] → f_X3_numberNodes_l59 N w (f_X3_numberNodes_l15 N w  n15) n59 v2 v3 v4 v5 S_ = some R → W p l e (headSpec zsX3_numberNodes rmX3_numberNodes).room s m ([.ref h, .ref (ad w)] : List Value).toArray below meth c H lc 0 0 Q9 (F0 m 59 ls []) := by
          intro n59
          induction n59 with
          | zero =>
            intro v2 v3 v4 v5 S_ H lc ls hP hD hS hl hM
            rw [f_X3_numberNodes_l59] at hM; exact absurd hM (by intro h; cases h)
          | succ n59 ih59 =>
            intro v2 v3 v4 v5 S_ H lc ls hP hD hS hl hM
            rw [f_X3_numberNodes_l59] at hM
            have j99 : ∀ (v2 : Int32) (v3 : Int32) (S_ : zx_S) (H : Heap) (lc : List Loc) (ls : Array Slot), va_P D vwCl (xW3 cI cZ h ad S_) H → va_D A (xW3 cI cZ h ad S_) → va_S A s.heap H lc → lv_has ls 6 [(0, .ref h), (1, .ref (ad w)), (2, .int v2), (3, .int v3)] → f_X3_numberNodes_j99 N w (f_X3_numberNodes_l15 N w  n15) v2 v3 S_ = some R → W p l e (headSpec zsX3_numberNodes rmX3_numberNodes).room s m ([.ref h, .ref (ad w)] : List Value).toArray below meth c H lc 0 0 Q9 (F0 m 99 ls []) := by
              intro v2 v3 S_ H lc ls hP hD hS hl hM
              unfold f_X3_numberNodes_j99 at hM
              refine lv_goto (tgt := 15) hx hb dX3_numberNodes_99 (by decide) ?_
              exact ih15 v2 v3 S_ _ _ _ hP hD hS (lv_sub hl [0, 1, 2, 3] rfl) hM
            refine lv_iload hx hb dX3_numberNodes_59 (lv_at hl 5 rfl) ?_
            refine lv_if_lt (tgt := 99) hx hb dX3_numberNodes_61 (by decide) (fun q2 => ?_) (fun q2 => ?_)
            · replace hM := zx_t q2 hM
              exact j99 v2 v3 S_ _ _ _ hP hD hS (lv_sub hl [0, 1, 2, 3] rfl) hM
            · replace hM := zx_f q2 hM
              refine lv_aload_n hx hb dX3_numberNodes_64 rfl (lv_at hl 1 rfl) ?_
              refine lv_iload hx hb dX3_numberNodes_65 (lv_at hl 4 rfl) ?_
              obtain ⟨x3, hz4, hM⟩ := zx_b1E hM
              refine va_calli (va_runS (As := [.ref (ad w), .int v4]) (rest := []) ⟨hx, hb, hml, hown, hts⟩ (c_X3_levelOf l D cI cZ cT (ad w) 380 (S_ w) _ N v4 hz4) (va_cwS 2 hts (zg_S zw_9_9 zw_9_10 zw_1_5 zw_9_11) rfl rfl rfl zyX3_levelOf ⟨Nat.le_of_ble_eq_true rfl, Nat.le_of_ble_eq_true rfl⟩) ⟨bS_blind, bS_pre (zx_P1 hP (w + 1) ((xW3_aw hrw))) hK (zx_D1 hD (w + 1) ((xW3_aw hrw))) hN⟩ rfl rfl hl.1 rfl (lv_room (Nat.le_of_ble_eq_true rfl)) dX3_numberNodes_67 ⟨Nat.zero_le _, Nat.zero_le _⟩) hS (fun q h1 h2 => absurd h1 (Nat.not_lt.mpr h2)) (fun q h => hA q (Nat.le_trans hS.1 h)) (fun r u t H1 lc ht hvm hw hB hz1 hk1 hS => ?_)
              replace hw : x3 = r := hw; subst hw
              replace hP := zx_keep hP hk1
              refine lv_if_le (tgt := 99) hx hb dX3_numberNodes_70 (by decide) (fun q5 => ?_) (fun q5 => ?_)
              · replace hM := zx_t q5 hM
                exact j99 v2 v3 S_ _ _ _ hP hD hS (lv_sub hl [0, 1, 2, 3] rfl) hM
              · replace hM := zx_f q5 hM
                refine lv_aload_n hx hb dX3_numberNodes_73 rfl (lv_at hl 0 rfl) ?_
                refine va_get (D := D) (ci := 3) (v := .ref (ad 11)) (C := RX3) (T := TX3) (N := 20) hx hb hts inlX3 hown hK hP 0 rfl rfl 17 (by decide) (hts _ zw_4_6) (fun _ h9 => h9) rfl dX3_numberNodes_74 ?_
                refine lv_iload_n hx hb dX3_numberNodes_77 rfl (lv_at hl 3 rfl) ?_
                refine lv_aload_n hx hb dX3_numberNodes_78 rfl (lv_at hl 1 rfl) ?_
                refine lv_iload hx hb dX3_numberNodes_79 (lv_at hl 4 rfl) ?_
                refine lv_iload hx hb dX3_numberNodes_81 (lv_at hl 5 rfl) ?_
                obtain ⟨x6, hz7, hM⟩ := zx_b1E hM
                refine va_calli (va_runS (As := [.ref (ad w), .int v4, .int v5]) (rest := [.int v3, .ref (ad 11)]) ⟨hx, hb, hml, hown, hts⟩ (c_X3_entryOf l D cI cZ cT (ad w) 380 (S_ w) _ N v4 v5 hz7) (va_cwS 3 hts (zg_S zw_9_12 zw_9_13 zw_1_5 zw_9_14) rfl rfl rfl zyX3_entryOf ⟨Nat.le_of_ble_eq_true rfl, Nat.le_of_ble_eq_true rfl⟩) ⟨bS_blind, bS_pre (zx_P1 hP (w + 1) ((xW3_aw hrw))) hK (zx_D1 hD (w + 1) ((xW3_aw hrw))) hN⟩ rfl rfl hl.1 rfl (lv_room (Nat.le_of_ble_eq_true rfl)) dX3_numberNodes_83 ⟨Nat.zero_le _, Nat.zero_le _⟩) hS (fun q h1 h2 => absurd h1 (Nat.not_lt.mpr h2)) (fun q h => hA q (Nat.le_trans hS.1 h)) (fun r u t H1 lc ht hvm hw hB hz1 hk1 hS => ?_)
                replace hw : x6 = r := hw; subst hw
                replace hP := zx_keep hP hk1
                refine lv_bipush (v := 24) hx hb dX3_numberNodes_86 (by decide) ?_
                refine lv_isub hx hb dX3_numberNodes_88 ?_
                obtain ⟨T8, q9, eT8, hM⟩ := zx_wrE hM
                refine va_iast (D := D) hx hb hK hP hD hS 12 0 rfl rfl q9 dX3_numberNodes_89 (fun H lc hP hD hS => ?_)
                rw [xW3_pa11] at hP hD
                rw [← eT8] at hP hD
                obtain ⟨x10, ex10, hM⟩ := zx_nE hM
                refine lv_iinc (v := x10) (lv' := [(3, .int x10), (0, .ref h), (1, .ref (ad w)), (2, .int v2), (4, .int v4), (5, .int v5)]) hx hb dX3_numberNodes_90 hl (k := 3) rfl (by rw [ex10]; rfl) (by decide) rfl (fun ls hl => ?_)
                obtain ⟨x11, ex11, hM⟩ := zx_nE hM
                refine lv_iinc (v := x11) (lv' := [(5, .int x11), (3, .int x10), (0, .ref h), (1, .ref (ad w)), (2, .int v2), (4, .int v4)]) hx hb dX3_numberNodes_93 hl (k := 5) rfl (by rw [ex11]; rfl) (by decide) rfl (fun ls hl => ?_)
                refine lv_goto (tgt := 59) hx hb dX3_numberNodes_96 (by decide) ?_
                exact ih59 v2 x10 v4 x11 T8 _ _ _ hP hD hS (lv_sub hl [2, 3, 4, 1, 5, 0] rfl) hM
        obtain ⟨x12, ex12, hM⟩ := zx_nE hM
        refine lv_iinc (v := x12) (lv' := [(3, .int x12), (0, .ref h), (1, .ref (ad w)), (2, .int v2)]) hx hb dX3_numberNodes_19 hl (k := 3) rfl (by rw [ex12]; rfl) (by decide) rfl (fun ls hl => ?_)
        refine lv_aload_n hx hb dX3_numberNodes_22 rfl (lv_at hl 1 rfl) ?_
        refine va_get (D := D) (ci := 3) (v := .ref (ad 11)) (C := RX3) (T := TX3) (N := 20) hx hb hts inlX3 hown hK hP 0 rfl rfl 17 (by decide) (hts _ zw_4_6) (fun _ h9 => h9) rfl dX3_numberNodes_23 ?_
        refine lv_iload_n hx hb dX3_numberNodes_26 rfl (lv_at hl 0 rfl) ?_
        obtain ⟨x13, q14, ex13, hM⟩ := zx_rdE hM
        refine va_iald (D := D) hx hb hK hP 12 0 rfl rfl q14 dX3_numberNodes_27 ?_
        refine zx_top ex13 ?_
        refine lv_istore (lv' := [(4, .int x13), (3, .int x12), (0, .ref h), (1, .ref (ad w)), (2, .int v2)]) hx hb dX3_numberNodes_28 hl (by decide) rfl (fun ls hl => ?_)
        refine lv_aload_n hx hb dX3_numberNodes_30 rfl (lv_at hl 2 rfl) ?_
        refine va_get (D := D) (ci := 3) (v := .ref (ad 9)) (C := RX3) (T := TX3) (N := 20) hx hb hts inlX3 hown hK hP 0 rfl rfl 15 (by decide) (hts _ zw_4_4) (fun _ h9 => h9) rfl dX3_numberNodes_31 ?_
        refine lv_iload hx hb dX3_numberNodes_34 (lv_at hl 0 rfl) ?_
        refine lv_iload_n hx hb dX3_numberNodes_36 rfl (lv_at hl 4 rfl) ?_
        obtain ⟨T15, q16, eT15, hM⟩ := zx_wrE hM
        refine va_iast (D := D) hx hb hK hP hD hS 10 0 rfl rfl q16 dX3_numberNodes_37 (fun H lc hP hD hS => ?_)
        rw [xW3_pa9] at hP hD
        rw [← eT15] at hP hD
        refine lv_aload_n hx hb dX3_numberNodes_38 rfl (lv_at hl 2 rfl) ?_
        refine va_get (D := D) (ci := 3) (v := .ref (ad 10)) (C := RX3) (T := TX3) (N := 20) hx hb hts inlX3 hown hK hP 0 rfl rfl 16 (by decide) (hts _ zw_4_5) (fun _ h9 => h9) rfl dX3_numberNodes_39 ?_
        refine lv_iload_n hx hb dX3_numberNodes_42 rfl (lv_at hl 4 rfl) ?_
        refine lv_iload hx hb dX3_numberNodes_43 (lv_at hl 0 rfl) ?_
        obtain ⟨T17, q18, eT17, hM⟩ := zx_wrE hM
        refine va_iast (D := D) hx hb hK hP hD hS 11 0 rfl rfl q18 dX3_numberNodes_45 (fun H lc hP hD hS => ?_)
        rw [xW3_pa10] at hP hD
        rw [← eT17] at hP hD
        obtain ⟨x19, ex19, hM⟩ := zx_nE hM
        refine lv_iinc (v := x19) (lv' := [(2, .int x19), (4, .int x13), (3, .int x12), (0, .ref h), (1, .ref (ad w))]) hx hb dX3_numberNodes_46 hl (k := 4) rfl (by rw [ex19]; rfl) (by decide) rfl (fun ls hl => ?_)
        refine lv_aload_n hx hb dX3_numberNodes_49 rfl (lv_at hl 4 rfl) ?_
        refine lv_iload hx hb dX3_numberNodes_50 (lv_at hl 1 rfl) ?_
        obtain ⟨x20, hz21, hM⟩ := zx_b1E hM
        refine va_calli (va_runS (As := [.ref (ad w), .int x13]) (rest := []) ⟨hx, hb, hml, hown, hts⟩ (c_X3_many l D cI cZ cT (ad w) 380 (T17 w) _ N x13 hz21) (va_cwS 2 hts (zg_S zw_9_3 zw_9_4 zw_1_5 zw_9_5) rfl rfl rfl zyX3_many ⟨Nat.le_of_ble_eq_true rfl, Nat.le_of_ble_eq_true rfl⟩) ⟨bS_blind, bS_pre (zx_P1 hP (w + 1) ((xW3_aw hrw))) hK (zx_D1 hD (w + 1) ((xW3_aw hrw))) hN⟩ rfl rfl hl.1 rfl (lv_room (Nat.le_of_ble_eq_true rfl)) dX3_numberNodes_52 ⟨Nat.zero_le _, Nat.zero_le _⟩) hS (fun q h1 h2 => absurd h1 (Nat.not_lt.mpr h2)) (fun q h => hA q (Nat.le_trans hS.1 h)) (fun r u t H1 lc ht hvm hw hB hz1 hk1 hS => ?_)
        replace hw : x20 = r := hw; subst hw
        replace hP := zx_keep hP hk1
        refine lv_iconst (v := 1) hx hb dX3_numberNodes_55 (by decide) ?_
        refine lv_isub hx hb dX3_numberNodes_56 ?_
        obtain ⟨x22, ex22, hM⟩ := zx_nE hM
        refine zx_top ex22 ?_
        refine lv_istore (lv' := [(5, .int x22), (2, .int x19), (4, .int x13), (3, .int x12), (0, .ref h), (1, .ref (ad w))]) hx hb dX3_numberNodes_57 hl (by decide) rfl (fun ls hl => ?_)
        exact l59 N x19 x12 x13 x22 T17 _ _ _ hP hD hS (lv_sub hl [4, 5, 1, 3, 2, 0] rfl) hM
  refine lv_iconst (v := 0) hx hb dX3_numberNodes_0 (by decide) ?_
  refine lv_istore_n (lv' := [(2, .int 0), (0, .ref h), (1, .ref (ad w))]) hx hb dX3_numberNodes_1 rfl hl (by decide) rfl (fun ls hl => ?_)
  refine lv_iconst (v := 1) hx hb dX3_numberNodes_2 (by decide) ?_
  refine lv_istore_n (lv' := [(3, .int 1), (2, .int 0), (0, .ref h), (1, .ref (ad w))]) hx hb dX3_numberNodes_3 rfl hl (by decide) rfl (fun ls hl => ?_)
  refine lv_aload_n hx hb dX3_numberNodes_4 rfl (lv_at hl 2 rfl) ?_
  refine va_get (D := D) (ci := 3) (v := .ref (ad 11)) (C := RX3) (T := TX3) (N := 20) hx hb hts inlX3 hown hK hP 0 rfl rfl 17 (by decide) (hts _ zw_4_6) (fun _ h9 => h9) rfl dX3_numberNodes_5 ?_
  refine lv_iconst (v := 0) hx hb dX3_numberNodes_8 (by decide) ?_
  refine lv_aload_n hx hb dX3_numberNodes_9 rfl (lv_at hl 3 rfl) ?_
  refine lv_sipush (v := 376) hx hb dX3_numberNodes_10 (by decide) ?_
  obtain ⟨x23, q24, ex23, hM⟩ := zx_rdE hM
  refine va_iald (D := D) hx hb hK hP (w + 1) 0 (xW3_aw hrw) rfl q24 dX3_numberNodes_13 ?_
  refine zx_top ex23 ?_
  obtain ⟨T25, q26, eT25, hM⟩ := zx_wrE hM
  refine va_iast (D := D) hx hb hK hP hD hS 12 0 rfl rfl q26 dX3_numberNodes_14 (fun H lc hP hD hS => ?_)
  rw [xW3_pa11] at hP hD
  rw [← eT25] at hP hD
  exact l15 N 0 1 T25 _ _ _ hP hD hS (lv_sub hl [2, 3, 1, 0] rfl) hM

/-! ShallowBoxesModel.overlap([I)I -/
def f_X3_overlap_j85 (N : Nat) (w : Nat) (k9 : Int32 → Int32 → zx_S → Option (Int32 × zx_S)) (v2 : Int32) (v3 : Int32) (S_ : zx_S) : Option (Int32 × zx_S) :=
  (zx_n (v3 + 1) (fun x2 =>
k9 v2 x2 S_))
def f_X3_overlap_l42 (N : Nat) (w : Nat) (k9 : Int32 → Int32 → zx_S → Option (Int32 × zx_S)) (k18 : Int32 → Int32 → Int32 → zx_S → Option (Int32 × zx_S)) : Nat → Int32 → Int32 → Int32 → Int32 → zx_S → Option (Int32 × zx_S)
  | 0, _, _, _, _, _ => none
  | n42 + 1, v2, v3, v4, v5, S_ => (zx_b1 (f_X3_many N 380 v3 (S_ w)) (fun x9 =>
(if x9 ≤ v5 then
  (zx_n (v4 + 1) (fun x12 =>
k18 v2 v3 x12 S_)) else
  (zx_b1 (f_X3_entryOf N 380 v3 v4 (S_ w)) (fun x13 =>
(zx_b1 (f_X3_entryOf N 380 v3 v5 (S_ w)) (fun x15 =>
(zx_b1 (f_X3_common N x13 x15 S_) (fun x17 =>
(zx_n (v2 + x17) (fun x19 =>
(zx_n (v5 + 1) (fun x20 =>
f_X3_overlap_l42 N w k9 k18  n42 x19 v3 v4 x20 S_)))))))))))))
def f_X3_overlap_l18 (N : Nat) (w : Nat) (k9 : Int32 → Int32 → zx_S → Option (Int32 × zx_S)) : Nat → Int32 → Int32 → Int32 → zx_S → Option (Int32 × zx_S)
  | 0, _, _, _, _ => none
  | n18 + 1, v2, v3, v4, S_ => (zx_b1 (f_X3_many N 380 v3 (S_ w)) (fun x3 =>
(if x3 ≤ v4 then
  f_X3_overlap_j85 N w k9 v2 v3 S_ else
  (zx_b1 (f_X3_levelOf N 380 v3 (S_ w)) (fun x6 =>
(if x6 ≤ 0 then
  f_X3_overlap_j85 N w k9 v2 v3 S_ else
  (zx_n (v4 + 1) (fun x21 =>
f_X3_overlap_l42 N w k9 (f_X3_overlap_l18 N w k9  n18) N v2 v3 v4 x21 S_))))))))
def f_X3_overlap_l9 (N : Nat) (w : Nat) : Nat → Int32 → Int32 → zx_S → Option (Int32 × zx_S)
  | 0, _, _, _ => none
  | n9 + 1, v2, v3, S_ => (if 32 ≤ v3 then
  some (v2, S_) else
  f_X3_overlap_l18 N w (f_X3_overlap_l9 N w  n9) N v2 v3 0 S_)
def f_X3_overlap (N : Nat) (w : Nat) (S : zx_S) : Option (Int32 × zx_S) :=
  (zx_b1 (f_X3_layBoxes N w S) (fun T22 =>
f_X3_overlap_l9 N w  N 0 0 T22))
abbrev rmX3_overlap : Room := { frames := 3, cells := 0, slots := 0, locals := 66 }
abbrev zsX3_overlap : List Cond := .code yX3_overlap cX3_overlap 6 (some .int) :: wsL_law
theorem zyX3_overlap : yX3_overlap.cls ≠ "java/lang/invoke/MethodHandle" ∧ yX3_overlap.cls ≠ "java/lang/invoke/VarHandle" ∧ (parseMethodDescriptor yX3_overlap.desc).map (fun d => d.parameters.length) = some 1 := by decide +kernel
set_option maxHeartbeats 4000000 in
set_option maxRecDepth 100000 in
theorem c_X3_overlap (l : Launch) (D : va_G) (cI cZ cT : ClassId) (h : Nat) (ad : Nat → Nat) (S : zx_S) (sz : Nat) (N : Nat) (w : Nat) (hrw : w = 1 ∨ w = 2) {R : Int32 × zx_S} (hM : f_X3_overlap N w S = some R) : Met l yX3_overlap zsX3_overlap rmX3_overlap (va_Pc [.ref h, .ref (ad w)] (bS D (zx_ty cI cZ cT) (xW3 cI cZ h ad S) sz)) (va_Qi (fun r u => R = (r, u)) (fun u t => va_P D vwCl (xW3 cI cZ h ad u) t.heap) (va_A (xW3 cI cZ h ad S) sz)) 0 0 (va_A (xW3 cI cZ h ad S) sz) := by
  refine Met.ofW (cc := cX3_overlap) (maxL := 6) (ret := (some .int)) (by decide) rfl ?_
  intro p e s m args below meth c s₁ B hml hv
  obtain ⟨rfl, hsz, hP, hK, hD0, hN⟩ := hv
  have hx := B.exec
  have hb := B.bytes
  have hr := B.returns
  have hts : ∀ w ∈ wsL_law, w.before _ s = true := fun w hw => atoms_spec (ws := zsX3_overlap) B.pre w (List.mem_cons_of_mem _ hw)
  have hown : s.vm.findClass RX3 = some m.cls := findClass_of_methodNamed B.named
  have hlocks := B.notSynchronized
  subst hsz
  have hD := hD0.self (sz := s.heap.size)
  generalize hAe : va_A (xW3 cI cZ h ad S) s.heap.size = A at hD ⊢
  have hA : ∀ q : Nat, s.heap.size ≤ q → A q := fun q h => by rw [← hAe]; exact Or.inr h
  have hS : va_S A s.heap s.heap [] := va_S.rf
  have hl := lv_entry ([.ref h, .ref (ad w)]) (n := 6) (Nat.le_of_ble_eq_true rfl)
  rw [lg_entry_eq]
  generalize (lg_sl ([.ref h, .ref (ad w)]) ++ List.replicate (6 - (lg_sl ([.ref h, .ref (ad w)])).length) Slot.unset).toArray = ls at hl ⊢
  have hl : lv_has ls 6 [(0, .ref h), (1, .ref (ad w))] := hl
  generalize hQ : MQ below (va_Qi (fun r u => R = (r, u)) (fun u t => va_P D vwCl (xW3 cI cZ h ad u) t.heap) A) ([.ref h, .ref (ad w)] : List Value).toArray s 0 0 A = Q9
  replace hQ := hQ.symm
  unfold f_X3_overlap at hM
  have l9 : ∀ (n9 : Nat) (v2 : Int32) (v3 : Int32) (S_ : zx_S) (H : Heap) (lc : List Loc) (ls : Array Slot), va_P D vwCl (xW3 cI cZ h ad S_) H → va_D A (xW3 cI cZ h ad S_) → va_S A s.heap H lc → lv_has ls 6 [(0, .ref h), (1, .ref (ad w)), (2, .int v2), (3, .int v3)] → f_X3_overlap_l9 N w n9 v2 v3 S_ = some R → W p l e (headSpec zsX3_overlap rmX3_overlap).room s m ([.ref h, .ref (ad w)] : List Value).toArray below meth c H lc 0 0 Q9 (F0 m 9 ls []) := by
    intro n9
    induction n9 with
    | zero =>
      intro v2 v3 S_ H lc ls hP hD hS hl hM
      rw [f_X3_overlap_l9] at hM; exact absurd hM (by intro h; cases h)
    | succ n9 ih9 =>
      intro v2 v3 S_ H lc ls hP hD hS hl hM
      rw [f_X3_overlap_l9] at hM
      refine lv_iload_n hx hb dX3_overlap_9 rfl (lv_at hl 3 rfl) ?_
      refine lv_bipush (v := 32) hx hb dX3_overlap_10 (by decide) ?_
      refine lv_icmp_ge (tgt := 91) hx hb dX3_overlap_12 (by decide) (fun q1 => ?_) (fun q1 => ?_)
      · replace hM := zx_t q1 hM
        refine lv_iload_n hx hb dX3_overlap_91 rfl (lv_at hl 2 rfl) ?_
        rw [hQ]
        exact W.iret hx hb hr (fun t ht hW => ⟨⟨v2, S_, rfl, (Option.some.inj hM).symm, by show va_P D vwCl _ t.heap; rw [ht]; exact hP⟩, hS.F ht⟩) hS.2.2 dX3_overlap_92
      · replace hM := zx_f q1 hM
        have l18 : ∀ (n18 : Nat) (v2 : Int32) (v3 : Int32) (v4 : Int32) (S_ : zx_S) (H : Heap) (lc : List Loc) (ls : Array Slot), va_P D vwCl (xW3 cI cZ h ad S_) H → va_D A (xW3 cI cZ h ad S_) → va_S A s.heap H lc → lv_has ls 6 [(0, .ref h), (1, .ref (ad w)), (2, .int v2), (3, .int v3), (4, .int v4)] → f_X3_overlap_l18 N w (f_X3_overlap_l9 N w  n9) n18 v2 v3 v4 S_ = some R → W p l e (headSpec zsX3_overlap rmX3_overlap).room s m ([.ref h, .ref (ad w)] : List Value).toArray below meth c H lc 0 0 Q9 (F0 m 18 ls []) := by
          intro n18
          induction n18 with
          | zero =>
            intro v2 v3 v4 S_ H lc ls hP hD hS hl hM
            rw [f_X3_overlap_l18] at hM; exact absurd hM (by intro h; cases h)
          | succ n18 ih18 =>
            intro v2 v3 v4 S_ H lc ls hP hD hS hl hM
            rw [f_X3_overlap_l18] at hM
            have j85 : ∀ (v2 : Int32) (v3 : Int32) (S_ : zx_S) (H : Heap) (lc : List Loc) (ls : Array Slot), va_P D vwCl (xW3 cI cZ h ad S_) H → va_D A (xW3 cI cZ h ad S_) → va_S A s.heap H lc → lv_has ls 6 [(0, .ref h), (1, .ref (ad w)), (2, .int v2), (3, .int v3)] → f_X3_overlap_j85 N w (f_X3_overlap_l9 N w  n9) v2 v3 S_ = some R → W p l e (headSpec zsX3_overlap rmX3_overlap).room s m ([.ref h, .ref (ad w)] : List Value).toArray below meth c H lc 0 0 Q9 (F0 m 85 ls []) := by
              intro v2 v3 S_ H lc ls hP hD hS hl hM
              unfold f_X3_overlap_j85 at hM
              obtain ⟨x2, ex2, hM⟩ := zx_nE hM
              refine lv_iinc (v := x2) (lv' := [(3, .int x2), (0, .ref h), (1, .ref (ad w)), (2, .int v2)]) hx hb dX3_overlap_85 hl (k := 3) rfl (by rw [ex2]; rfl) (by decide) rfl (fun ls hl => ?_)
              refine lv_goto (tgt := 9) hx hb dX3_overlap_88 (by decide) ?_
              exact ih9 v2 x2 S_ _ _ _ hP hD hS (lv_sub hl [1, 2, 3, 0] rfl) hM
            refine lv_iload hx hb dX3_overlap_18 (lv_at hl 4 rfl) ?_
            refine lv_aload_n hx hb dX3_overlap_20 rfl (lv_at hl 1 rfl) ?_
            refine lv_iload_n hx hb dX3_overlap_21 rfl (lv_at hl 3 rfl) ?_
            obtain ⟨x3, hz4, hM⟩ := zx_b1E hM
            refine va_calli (va_runS (As := [.ref (ad w), .int v3]) (rest := [.int v4]) ⟨hx, hb, hml, hown, hts⟩ (c_X3_many l D cI cZ cT (ad w) 380 (S_ w) _ N v3 hz4) (va_cwS 2 hts (zg_S zw_9_3 zw_9_4 zw_1_5 zw_9_5) rfl rfl rfl zyX3_many ⟨Nat.le_of_ble_eq_true rfl, Nat.le_of_ble_eq_true rfl⟩) ⟨bS_blind, bS_pre (zx_P1 hP (w + 1) ((xW3_aw hrw))) hK (zx_D1 hD (w + 1) ((xW3_aw hrw))) hN⟩ rfl rfl hl.1 rfl (lv_room (Nat.le_of_ble_eq_true rfl)) dX3_overlap_22 ⟨Nat.zero_le _, Nat.zero_le _⟩) hS (fun q h1 h2 => absurd h1 (Nat.not_lt.mpr h2)) (fun q h => hA q (Nat.le_trans hS.1 h)) (fun r u t H1 lc ht hvm hw hB hz1 hk1 hS => ?_)
            replace hw : x3 = r := hw; subst hw
            replace hP := zx_keep hP hk1
            refine lv_icmp_ge (tgt := 85) hx hb dX3_overlap_25 (by decide) (fun q5 => ?_) (fun q5 => ?_)
            · replace hM := zx_t q5 hM
              exact j85 v2 v3 S_ _ _ _ hP hD hS (lv_sub hl [0, 1, 2, 3] rfl) hM
            · replace hM := zx_f q5 hM
              refine lv_aload_n hx hb dX3_overlap_28 rfl (lv_at hl 1 rfl) ?_
              refine lv_iload_n hx hb dX3_overlap_29 rfl (lv_at hl 3 rfl) ?_
              obtain ⟨x6, hz7, hM⟩ := zx_b1E hM
              refine va_calli (va_runS (As := [.ref (ad w), .int v3]) (rest := []) ⟨hx, hb, hml, hown, hts⟩ (c_X3_levelOf l D cI cZ cT (ad w) 380 (S_ w) _ N v3 hz7) (va_cwS 2 hts (zg_S zw_9_9 zw_9_10 zw_1_5 zw_9_11) rfl rfl rfl zyX3_levelOf ⟨Nat.le_of_ble_eq_true rfl, Nat.le_of_ble_eq_true rfl⟩) ⟨bS_blind, bS_pre (zx_P1 hP (w + 1) ((xW3_aw hrw))) hK (zx_D1 hD (w + 1) ((xW3_aw hrw))) hN⟩ rfl rfl hl.1 rfl (lv_room (Nat.le_of_ble_eq_true rfl)) dX3_overlap_30 ⟨Nat.zero_le _, Nat.zero_le _⟩) hS (fun q h1 h2 => absurd h1 (Nat.not_lt.mpr h2)) (fun q h => hA q (Nat.le_trans hS.1 h)) (fun r u t H1 lc ht hvm hw hB hz1 hk1 hS => ?_)
              replace hw : x6 = r := hw; subst hw
              replace hP := zx_keep hP hk1
              refine lv_if_le (tgt := 85) hx hb dX3_overlap_33 (by decide) (fun q8 => ?_) (fun q8 => ?_)
              · replace hM := zx_t q8 hM
                exact j85 v2 v3 S_ _ _ _ hP hD hS (lv_sub hl [0, 1, 2, 3] rfl) hM
              · replace hM := zx_f q8 hM
                have l42 : ∀ (n42 : Nat) (v2 : Int32) (v3 : Int32) (v4 : Int32) (v5 : Int32) (S_ : zx_S) (H : Heap) (lc : List Loc) (ls : Array Slot), va_P D vwCl (xW3 cI cZ h ad S_) H → va_D A (xW3 cI cZ h ad S_) → va_S A s.heap H lc → lv_has ls 6 [(0, .ref h), (1, .ref (ad w)), (2, .int v2), (3, .int v3), (4, .int v4), (5, .int v5)] → f_X3_overlap_l42 N w (f_X3_overlap_l9 N w  n9) (f_X3_overlap_l18 N w (f_X3_overlap_l9 N w  n9)  n18) n42 v2 v3 v4 v5 S_ = some R → W p l e (headSpec zsX3_overlap rmX3_overlap).room s m ([.ref h, .ref (ad w)] : List Value).toArray below meth c H lc 0 0 Q9 (F0 m 42 ls []) := by
                  intro n42
                  induction n42 with
                  | zero =>
                    intro v2 v3 v4 v5 S_ H lc ls hP hD hS hl hM
                    rw [f_X3_overlap_l42] at hM; exact absurd hM (by intro h; cases h)
                  | succ n42 ih42 =>
                    intro v2 v3 v4 v5 S_ H lc ls hP hD hS hl hM
                    rw [f_X3_overlap_l42] at hM
                    refine lv_iload hx hb dX3_overlap_42 (lv_at hl 5 rfl) ?_
                    refine lv_aload_n hx hb dX3_overlap_44 rfl (lv_at hl 1 rfl) ?_
                    refine lv_iload_n hx hb dX3_overlap_45 rfl (lv_at hl 3 rfl) ?_
                    obtain ⟨x9, hz10, hM⟩ := zx_b1E hM
                    refine va_calli (va_runS (As := [.ref (ad w), .int v3]) (rest := [.int v5]) ⟨hx, hb, hml, hown, hts⟩ (c_X3_many l D cI cZ cT (ad w) 380 (S_ w) _ N v3 hz10) (va_cwS 2 hts (zg_S zw_9_3 zw_9_4 zw_1_5 zw_9_5) rfl rfl rfl zyX3_many ⟨Nat.le_of_ble_eq_true rfl, Nat.le_of_ble_eq_true rfl⟩) ⟨bS_blind, bS_pre (zx_P1 hP (w + 1) ((xW3_aw hrw))) hK (zx_D1 hD (w + 1) ((xW3_aw hrw))) hN⟩ rfl rfl hl.1 rfl (lv_room (Nat.le_of_ble_eq_true rfl)) dX3_overlap_46 ⟨Nat.zero_le _, Nat.zero_le _⟩) hS (fun q h1 h2 => absurd h1 (Nat.not_lt.mpr h2)) (fun q h => hA q (Nat.le_trans hS.1 h)) (fun r u t H1 lc ht hvm hw hB hz1 hk1 hS => ?_)
                    replace hw : x9 = r := hw; subst hw
                    replace hP := zx_keep hP hk1
                    refine lv_icmp_ge (tgt := 79) hx hb dX3_overlap_49 (by decide) (fun q11 => ?_) (fun q11 => ?_)
                    · replace hM := zx_t q11 hM
                      obtain ⟨x12, ex12, hM⟩ := zx_nE hM
                      refine lv_iinc (v := x12) (lv' := [(4, .int x12), (0, .ref h), (1, .ref (ad w)), (2, .int v2), (3, .int v3), (5, .int v5)]) hx hb dX3_overlap_79 hl (k := 4) rfl (by rw [ex12]; rfl) (by decide) rfl (fun ls hl => ?_)
                      refine lv_goto (tgt := 18) hx hb dX3_overlap_82 (by decide) ?_
                      exact ih18 v2 v3 x12 S_ _ _ _ hP hD hS (lv_sub hl [1, 2, 3, 4, 0] rfl) hM
                    · replace hM := zx_f q11 hM
                      refine lv_iload_n hx hb dX3_overlap_52 rfl (lv_at hl 2 rfl) ?_
                      refine lv_aload_n hx hb dX3_overlap_53 rfl (lv_at hl 0 rfl) ?_
                      refine lv_aload_n hx hb dX3_overlap_54 rfl (lv_at hl 1 rfl) ?_
                      refine lv_iload_n hx hb dX3_overlap_55 rfl (lv_at hl 3 rfl) ?_
                      refine lv_iload hx hb dX3_overlap_56 (lv_at hl 4 rfl) ?_
                      obtain ⟨x13, hz14, hM⟩ := zx_b1E hM
                      refine va_calli (va_runS (As := [.ref (ad w), .int v3, .int v4]) (rest := [.ref h, .int v2]) ⟨hx, hb, hml, hown, hts⟩ (c_X3_entryOf l D cI cZ cT (ad w) 380 (S_ w) _ N v3 v4 hz14) (va_cwS 3 hts (zg_S zw_9_12 zw_9_13 zw_1_5 zw_9_14) rfl rfl rfl zyX3_entryOf ⟨Nat.le_of_ble_eq_true rfl, Nat.le_of_ble_eq_true rfl⟩) ⟨bS_blind, bS_pre (zx_P1 hP (w + 1) ((xW3_aw hrw))) hK (zx_D1 hD (w + 1) ((xW3_aw hrw))) hN⟩ rfl rfl hl.1 rfl (lv_room (Nat.le_of_ble_eq_true rfl)) dX3_overlap_58 ⟨Nat.zero_le _, Nat.zero_le _⟩) hS (fun q h1 h2 => absurd h1 (Nat.not_lt.mpr h2)) (fun q h => hA q (Nat.le_trans hS.1 h)) (fun r u t H1 lc ht hvm hw hB hz1 hk1 hS => ?_)
                      replace hw : x13 = r := hw; subst hw
                      replace hP := zx_keep hP hk1
                      refine lv_aload_n hx hb dX3_overlap_61 rfl (lv_at hl 1 rfl) ?_
                      refine lv_iload_n hx hb dX3_overlap_62 rfl (lv_at hl 3 rfl) ?_
                      refine lv_iload hx hb dX3_overlap_63 (lv_at hl 5 rfl) ?_
                      obtain ⟨x15, hz16, hM⟩ := zx_b1E hM
                      refine va_calli (va_runS (As := [.ref (ad w), .int v3, .int v5]) (rest := [.int x13, .ref h, .int v2]) ⟨hx, hb, hml, hown, hts⟩ (c_X3_entryOf l D cI cZ cT (ad w) 380 (S_ w) _ N v3 v5 hz16) (va_cwS 3 hts (zg_S zw_9_12 zw_9_13 zw_1_5 zw_9_14) rfl rfl rfl zyX3_entryOf ⟨Nat.le_of_ble_eq_true rfl, Nat.le_of_ble_eq_true rfl⟩) ⟨bS_blind, bS_pre (zx_P1 hP (w + 1) ((xW3_aw hrw))) hK (zx_D1 hD (w + 1) ((xW3_aw hrw))) hN⟩ rfl rfl hl.1 rfl (lv_room (Nat.le_of_ble_eq_true rfl)) dX3_overlap_65 ⟨Nat.zero_le _, Nat.zero_le _⟩) hS (fun q h1 h2 => absurd h1 (Nat.not_lt.mpr h2)) (fun q h => hA q (Nat.le_trans hS.1 h)) (fun r u t H1 lc ht hvm hw hB hz1 hk1 hS => ?_)
                      replace hw : x15 = r := hw; subst hw
                      replace hP := zx_keep hP hk1
                      obtain ⟨x17, hz18, hM⟩ := zx_b1E hM
                      refine va_calli (va_runV (As := [.int x13, .int x15]) (rest := [.int v2]) ⟨hx, hb, hml, hown, hts⟩ (c_X3_common l D cI cZ cT h ad S_ _ N x13 x15  hz18) (cwV 2 hts (zg_V zw_14_23 zw_15_0 zw_15_1 zw_1_5 zw_15_2) rfl rfl rfl ⟨rfl, zyX3_common⟩ ⟨Nat.le_of_ble_eq_true rfl, Nat.le_of_ble_eq_true rfl⟩) ⟨bS_blind, va_recv hK hP (ci := 3) (q0 := 0) rfl rfl, bS_pre hP hK hD hN⟩ rfl rfl hl.1 rfl (lv_room (Nat.le_of_ble_eq_true rfl)) dX3_overlap_68 ⟨Nat.zero_le _, Nat.zero_le _⟩) hS (fun q h1 h2 => absurd h1 (Nat.not_lt.mpr h2)) (fun q h => hA q (Nat.le_trans hS.1 h)) (fun r u t H1 lc ht hvm hw hB hz1 hk1 hS => ?_)
                      replace hw : x17 = r := hw; subst hw
                      replace hP := zx_keep hP hk1
                      refine lv_iadd hx hb dX3_overlap_71 ?_
                      obtain ⟨x19, ex19, hM⟩ := zx_nE hM
                      refine zx_top ex19 ?_
                      refine lv_istore_n (lv' := [(2, .int x19), (0, .ref h), (1, .ref (ad w)), (3, .int v3), (4, .int v4), (5, .int v5)]) hx hb dX3_overlap_72 rfl hl (by decide) rfl (fun ls hl => ?_)
                      obtain ⟨x20, ex20, hM⟩ := zx_nE hM
                      refine lv_iinc (v := x20) (lv' := [(5, .int x20), (2, .int x19), (0, .ref h), (1, .ref (ad w)), (3, .int v3), (4, .int v4)]) hx hb dX3_overlap_73 hl (k := 5) rfl (by rw [ex20]; rfl) (by decide) rfl (fun ls hl => ?_)
                      refine lv_goto (tgt := 42) hx hb dX3_overlap_76 (by decide) ?_
                      exact ih42 x19 v3 v4 x20 S_ _ _ _ hP hD hS (lv_sub hl [2, 3, 1, 4, 5, 0] rfl) hM
                refine lv_iload hx hb dX3_overlap_36 (lv_at hl 4 rfl) ?_
                refine lv_iconst (v := 1) hx hb dX3_overlap_38 (by decide) ?_
                refine lv_iadd hx hb dX3_overlap_39 ?_
                obtain ⟨x21, ex21, hM⟩ := zx_nE hM
                refine zx_top ex21 ?_
                refine lv_istore (lv' := [(5, .int x21), (0, .ref h), (1, .ref (ad w)), (2, .int v2), (3, .int v3), (4, .int v4)]) hx hb dX3_overlap_40 hl (by decide) rfl (fun ls hl => ?_)
                exact l42 N v2 v3 v4 x21 S_ _ _ _ hP hD hS (lv_sub hl [1, 2, 3, 4, 5, 0] rfl) hM
        refine lv_iconst (v := 0) hx hb dX3_overlap_15 (by decide) ?_
        refine lv_istore (lv' := [(4, .int 0), (0, .ref h), (1, .ref (ad w)), (2, .int v2), (3, .int v3)]) hx hb dX3_overlap_16 hl (by decide) rfl (fun ls hl => ?_)
        exact l18 N v2 v3 0 S_ _ _ _ hP hD hS (lv_sub hl [1, 2, 3, 4, 0] rfl) hM
  refine lv_aload_n hx hb dX3_overlap_0 rfl (lv_at hl 0 rfl) ?_
  refine lv_aload_n hx hb dX3_overlap_1 rfl (lv_at hl 1 rfl) ?_
  obtain ⟨T22, hz23, hM⟩ := zx_b1E hM
  refine va_callv (va_runV (As := [.ref (ad w)]) (rest := []) ⟨hx, hb, hml, hown, hts⟩ (c_X3_layBoxes l D cI cZ cT h ad S _ N w hrw  hz23) (cwV 1 hts (zg_V zw_8_23 zw_9_0 zw_9_1 zw_1_5 zw_9_2) rfl rfl rfl ⟨rfl, zyX3_layBoxes⟩ ⟨Nat.le_of_ble_eq_true rfl, Nat.le_of_ble_eq_true rfl⟩) ⟨bS_blind, va_recv hK hP (ci := 3) (q0 := 0) rfl rfl, bS_pre hP hK hD hN⟩ rfl rfl hl.1 rfl (lv_room (Nat.le_of_ble_eq_true rfl)) dX3_overlap_2 ⟨Nat.zero_le _, Nat.zero_le _⟩) hS (fun q _ h => zx_fW hD hS hA q h) (fun q h => zx_fW hD hS hA q h) (fun u t H1 lc ht hvm hw hB hz1 hk1 hS => ?_)
  replace hw : T22 = u := hw; subst hw
  rw [ht] at hB
  replace hP := hB
  replace hD := xW3_D T22 hD
  refine lv_iconst (v := 0) hx hb dX3_overlap_5 (by decide) ?_
  refine lv_istore_n (lv' := [(2, .int 0), (0, .ref h), (1, .ref (ad w))]) hx hb dX3_overlap_6 rfl hl (by decide) rfl (fun ls hl => ?_)
  refine lv_iconst (v := 0) hx hb dX3_overlap_7 (by decide) ?_
  refine lv_istore_n (lv' := [(3, .int 0), (2, .int 0), (0, .ref h), (1, .ref (ad w))]) hx hb dX3_overlap_8 rfl hl (by decide) rfl (fun ls hl => ?_)
  exact l9 N 0 0 T22 _ _ _ hP hD hS (lv_sub hl [2, 3, 1, 0] rfl) hM
