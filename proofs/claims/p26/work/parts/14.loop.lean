/-! the law: cell -/
def f_L_cell (L : Nat) (xs : Nat → Int32) (k : Int32) : Option Int32 := if Int32.ofNat L ≤ k then some ((15518507 * (k + 3) + 10733) &&& 2147483647) else zx_rd L xs k (fun x => some (x &&& 2147483647))
abbrev zsL_cell : List Cond := .code yL_cell cL_cell 2 (some .int) :: wsL_law
abbrev rmL_cell : Room := { frames := 0, cells := 0, slots := 0, locals := 0 }
theorem zyL_cell : yL_cell.cls ≠ "java/lang/invoke/MethodHandle" ∧ yL_cell.cls ≠ "java/lang/invoke/VarHandle" ∧ (parseMethodDescriptor yL_cell.desc).map (fun d => d.parameters.length) = some 2 := by decide +kernel
def bC (b L : Nat) (xs : Nat → Int32) (sz : Nat) : State → Prop := fun U => U.heap.size = sz ∧ b < sz ∧ va_X b L xs U U.heap
theorem bC_blind {av : List Value} {b L : Nat} {xs : Nat → Int32} {sz : Nat} : FrameBlind (va_Pc av (bC b L xs sz)) := fun a U g mk q => by
  obtain ⟨q0, q1, q2, q3⟩ := q
  exact ⟨q0, q1, q2, va_X.moved (u := U) (U := U.calling g mk a) (Vm.Alike.refl U.vm) q3⟩
theorem bC_pre {av : List Value} {b L : Nat} {xs : Nat → Int32} {A : Nat → Prop} {s : State} {H : Heap} {lc : List Loc} (hX : va_X b L xs s s.heap) (hbl : b < s.heap.size) (hbA : ¬ A b) (hS : va_S A s.heap H lc) : ∀ U : State, U.heap = H → s.WarmedH U.vm → va_Pc av (bC b L xs H.size) av.toArray U := fun U hU hW => ⟨rfl, by rw [hU], Nat.lt_of_lt_of_le hbl hS.1, by rw [hU]; exact va_X.moved hW.alike (va_X.kept hX (hS.2.1 b hbl hbA))⟩
set_option maxHeartbeats 4000000 in
set_option maxRecDepth 100000 in
theorem c_L_cell (l : Launch) (b L : Nat) (xs : Nat → Int32) (k : Int32) (sz : Nat) {R : Int32} (hM : f_L_cell L xs k = some R) : Met l yL_cell zsL_cell rmL_cell (va_Pc [.ref b, .int k] (bC b L xs sz)) (va_Qi (fun r (_ : Unit) => R = r) (fun _ _ => True) (fun q => sz ≤ q)) 0 0 (fun q => sz ≤ q) := by
  refine Met.ofW (cc := cL_cell) (maxL := 2) (ret := (some .int)) (by decide) rfl ?_
  intro p e s m args below meth c s₁ B hml hv
  obtain ⟨rfl, hsz, hbl, hX⟩ := hv
  have hx := B.exec
  have hb := B.bytes
  have hr := B.returns
  have hts : ∀ w ∈ wsL_law, w.before _ s = true := fun w hw => atoms_spec (ws := zsL_cell) B.pre w (List.mem_cons_of_mem _ hw)
  have hown : s.vm.findClass RL = some m.cls := findClass_of_methodNamed B.named
  have hlocks := B.notSynchronized
  subst hsz
  have hbA : ¬ (fun q : Nat => s.heap.size ≤ q) b := Nat.not_le.mpr hbl
  generalize hAe : (fun q : Nat => s.heap.size ≤ q) = A at hbA ⊢
  have hS : va_S A s.heap s.heap [] := va_S.rf
  have hl := lv_entry ([.ref b, .int k]) (n := 2) (Nat.le_of_ble_eq_true rfl)
  rw [lg_entry_eq]
  generalize (lg_sl ([.ref b, .int k]) ++ List.replicate (2 - (lg_sl ([.ref b, .int k])).length) Slot.unset).toArray = ls at hl ⊢
  have hl : lv_has ls 2 [(0, .ref b), (1, .int k)] := hl
  generalize hQ : MQ below (va_Qi (fun r (_ : Unit) => R = r) (fun _ _ => True) A) ([.ref b, .int k] : List Value).toArray s 0 0 A = Q9
  replace hQ := hQ.symm
  unfold f_L_cell at hM
  have j22 : ∀ (x : Int32), some (x &&& 2147483647) = some R → W p l e (headSpec zsL_cell rmL_cell).room s m ([.ref b, .int k] : List Value).toArray below meth c s.heap [] 0 0 Q9 (F0 m 22 ls [.int x]) := by
    intro x hM
    refine lv_ldc (v := 2147483647) hx hb hown (hts _ zw_3_17) dL_cell_22 ?_
    refine lv_iand hx hb dL_cell_24 ?_
    rw [hQ]
    exact W.iret hx hb hr (fun t ht hW => ⟨⟨_, (), rfl, (Option.some.inj hM).symm, trivial⟩, hS.F ht⟩) hS.2.2 dL_cell_25
  refine lv_iload_n hx hb dL_cell_0 rfl (lv_at hl 1 rfl) ?_
  refine lv_aload_n hx hb dL_cell_1 rfl (lv_at hl 0 rfl) ?_
  refine va_slen hx hb hX hbl hbA hS dL_cell_2 ?_
  refine lv_icmp_ge (tgt := 12) hx hb dL_cell_3 (by decide) (fun q1 => ?_) (fun q1 => ?_)
  · replace hM := zx_t q1 hM
    refine lv_ldc (v := 15518507) hx hb hown (hts _ zw_3_16) dL_cell_12 ?_
    refine lv_iload_n hx hb dL_cell_14 rfl (lv_at hl 1 rfl) ?_
    refine lv_iconst (v := 3) hx hb dL_cell_15 (by decide) ?_
    refine lv_iadd hx hb dL_cell_16 ?_
    refine lv_imul hx hb dL_cell_17 ?_
    refine lv_sipush (v := 10733) hx hb dL_cell_18 (by decide) ?_
    refine lv_iadd hx hb dL_cell_21 ?_
    exact j22 _ hM
  · replace hM := zx_f q1 hM
    obtain ⟨x, hin, ex, hM⟩ := zx_rdE hM
    refine lv_aload_n hx hb dL_cell_6 rfl (lv_at hl 0 rfl) ?_
    refine lv_iload_n hx hb dL_cell_7 rfl (lv_at hl 1 rfl) ?_
    refine va_sld hx hb hX hbl hbA hS hin dL_cell_8 ?_
    refine lv_goto (tgt := 22) hx hb dL_cell_9 (by decide) ?_
    exact j22 _ (by rw [← ex]; exact hM)
/-! the law: its loop -/
def f_L_law_j236 (N : Nat) (L : Nat) (xs : Nat → Int32) (k21 : Int32 → Int32 → zx_B → zx_B → Option (Int32 × (zx_B × zx_B))) (v3 : Int32) (v4 : Int32) (S_ : zx_B) (Sp_ : zx_B) : Option (Int32 × (zx_B × zx_B)) :=
  (zx_n (v4 + 1) (fun x3 =>
k21 v3 x3 S_ Sp_))
def f_L_law_j235 (N : Nat) (L : Nat) (xs : Nat → Int32) (k21 : Int32 → Int32 → zx_B → zx_B → Option (Int32 × (zx_B × zx_B))) (v4 : Int32) (t0 : Int32) (S_ : zx_B) (Sp_ : zx_B) : Option (Int32 × (zx_B × zx_B)) :=
  f_L_law_j236 N L xs k21 t0 v4 S_ Sp_
def f_L_law_j234 (N : Nat) (L : Nat) (xs : Nat → Int32) (k21 : Int32 → Int32 → zx_B → zx_B → Option (Int32 × (zx_B × zx_B))) (v4 : Int32) (S_ : zx_B) (Sp_ : zx_B) : Option (Int32 × (zx_B × zx_B)) :=
  f_L_law_j235 N L xs k21 v4 0 S_ Sp_
def f_L_law_j142 (N : Nat) (L : Nat) (xs : Nat → Int32) (k21 : Int32 → Int32 → zx_B → zx_B → Option (Int32 × (zx_B × zx_B))) (v4 : Int32) (v5 : Int32) (v6 : Int32) (t0 : Int32) (S_ : zx_B) (Sp_ : zx_B) : Option (Int32 × (zx_B × zx_B)) :=
  (zx_n (((Int32.toInt64 v5) * 3434251559) - 821) (fun x7 =>
(zx_n (v6 - v6 / 20 * 20) (fun x8 =>
(zx_b2 (f_L_trySimulate N x7 (1 + x8) S_) (fun x9 T10 =>
(if t0 = 0 then
  f_L_law_j234 N L xs k21 v4 T10 Sp_ else
  (zx_n (v6 - v6 / 20 * 20) (fun x13 =>
(zx_b2 (f_L_trySimulate N x7 (1 + x13) Sp_) (fun x14 T15 =>
(if x9 = x14 then
  (zx_b2 (f_L_tryScript N 2 ((Int32.toInt64 v6) * 400000) T10) (fun x18 T19 =>
(zx_b2 (f_L_tryScript N 2 ((Int32.toInt64 v6) * 400000) T15) (fun x21 T22 =>
(if x18 = x21 then
  (zx_b2 (f_L_alike N v6 T19 T22) (fun x25 T26 =>
(if x25 = 0 then
  f_L_law_j234 N L xs k21 v4 T26.1 T26.2 else
  f_L_law_j235 N L xs k21 v4 1 T26.1 T26.2))) else
  f_L_law_j234 N L xs k21 v4 T19 T22))))) else
  f_L_law_j234 N L xs k21 v4 T10 T15))))))))))))
def f_L_law_j141 (N : Nat) (L : Nat) (xs : Nat → Int32) (k21 : Int32 → Int32 → zx_B → zx_B → Option (Int32 × (zx_B × zx_B))) (v4 : Int32) (v5 : Int32) (v6 : Int32) (S_ : zx_B) (Sp_ : zx_B) : Option (Int32 × (zx_B × zx_B)) :=
  f_L_law_j142 N L xs k21 v4 v5 v6 0 S_ Sp_
def f_L_law_j106 (N : Nat) (L : Nat) (xs : Nat → Int32) (k21 : Int32 → Int32 → zx_B → zx_B → Option (Int32 × (zx_B × zx_B))) (v4 : Int32) (v5 : Int32) (v6 : Int32) (t0 : Int32) (S_ : zx_B) (Sp_ : zx_B) : Option (Int32 × (zx_B × zx_B)) :=
  (zx_n (v4 - v4 / 5 * 5) (fun x4 =>
(if x4 = 4 then
  (if t0 = 0 then
  f_L_law_j236 N L xs k21 t0 v4 S_ Sp_ else
  (zx_b2 (f_L_holds N v6 S_) (fun x29 T30 =>
(if x29 = 0 then
  f_L_law_j141 N L xs k21 v4 v5 v6 T30 Sp_ else
  (zx_b2 (f_L_holds N v6 Sp_) (fun x33 T34 =>
(if x33 = 0 then
  f_L_law_j141 N L xs k21 v4 v5 v6 T30 T34 else
  f_L_law_j142 N L xs k21 v4 v5 v6 1 T30 T34))))))) else
  f_L_law_j236 N L xs k21 t0 v4 S_ Sp_)))
def f_L_law_j105 (N : Nat) (L : Nat) (xs : Nat → Int32) (k21 : Int32 → Int32 → zx_B → zx_B → Option (Int32 × (zx_B × zx_B))) (v4 : Int32) (v5 : Int32) (v6 : Int32) (S_ : zx_B) (Sp_ : zx_B) : Option (Int32 × (zx_B × zx_B)) :=
  f_L_law_j106 N L xs k21 v4 v5 v6 0 S_ Sp_
def f_L_law_l21 (N : Nat) (L : Nat) (xs : Nat → Int32) : Nat → Int32 → Int32 → zx_B → zx_B → Option (Int32 × (zx_B × zx_B))
  | 0, _, _, _, _ => none
  | n21 + 1, v3, v4, S_, Sp_ => (if 28 ≤ v4 then
  some (v3, (S_, Sp_)) else
  (if v3 = 0 then
  some (v3, (S_, Sp_)) else
  (zx_b1 (f_L_cell L xs (2 * v4)) (fun x37 =>
(zx_b1 (f_L_cell L xs ((2 * v4) + 1)) (fun x39 =>
(zx_b2 (f_L_refuses N x37 S_) (fun x41 T42 =>
(if x41 = 0 then
  f_L_law_j105 N L xs (f_L_law_l21 N L xs  n21) v4 x37 x39 T42 Sp_ else
  (zx_b2 (f_L_act N x37 x39 T42) (fun x45 T46 =>
(zx_b2 (f_L_act N x37 x39 Sp_) (fun x48 T49 =>
(if x45 = x48 then
  (zx_b2 (f_L_refuses N x39 T46) (fun x52 T53 =>
(if x52 = 0 then
  f_L_law_j105 N L xs (f_L_law_l21 N L xs  n21) v4 x37 x39 T53 T49 else
  (zx_b2 (f_L_alike N x37 T53 T49) (fun x56 T57 =>
(if x56 = 0 then
  f_L_law_j105 N L xs (f_L_law_l21 N L xs  n21) v4 x37 x39 T57.1 T57.2 else
  f_L_law_j106 N L xs (f_L_law_l21 N L xs  n21) v4 x37 x39 1 T57.1 T57.2)))))) else
  f_L_law_j105 N L xs (f_L_law_l21 N L xs  n21) v4 x37 x39 T46 T49))))))))))))))
set_option maxHeartbeats 16000000 in
set_option maxRecDepth 100000 in
theorem law_loop {p : Program} {l : Launch} {e : Env} {s : State} {m : MethodId} {below : List Frame} {meth : Method} {c : Code} {D : va_G} {cI cZ cT : ClassId} {b L N : Nat} {xs : Nat → Int32} (hL : L ≤ 260) (hlt : l.stackTraces = false) (C0 : lw_At p s m meth c b L xs) (hK : va_K D vwCl (zx_ty cI cZ cT) s) (hN : ∀ w ∈ zx_nw, va_Nw w s) (hXX : zx_X (fun q : Nat => s.heap.size ≤ q) s s.heap) (hNc : zx_Nc s) {h : Nat} {hh : Nat → Nat} {aa : Nat → Nat → Nat} {h2 : Nat} {hh2 : Nat → Nat} {aa2 : Nat → Nat → Nat} {R : Int32 × (zx_B × zx_B)} (hR : R.1 = 1) : ∀ (n21 : Nat) (v3 : Int32) (v4 : Int32) (S_ : zx_B) (Sp_ : zx_B) (kc : Nat) (H : Heap) (lc : List Loc) (ls : Array Slot), kc + (n21 * 12274 + 0) ≤ 600000 → va_P D vwCl (xWD cI cT h hh aa h2 hh2 aa2 S_ Sp_) H → va_D (fun q : Nat => s.heap.size ≤ q) (xWD cI cT h hh aa h2 hh2 aa2 S_ Sp_) → va_S (fun q : Nat => s.heap.size ≤ q) s.heap H lc → lv_has ls 10 [(0, .ref b), (1, .ref h), (2, .ref h2), (3, .int v3), (4, .int v4)] → f_L_law_l21 N L xs n21 v3 v4 S_ Sp_ = some R → W p l e room_1 s m #[Value.ref b] below meth c H lc kc (6 * kc) (lw_Z below #[Value.ref b] s) (F0 m 21 ls []) := by
  obtain ⟨hx, hb, hr, hml, hown, hts0, hX, hbl, hlocks, hgv⟩ := C0
  have hts : ∀ w ∈ wsL_law, w.before #[Value.ref b] s = true := fun w hw => hts0 w (wsL_law_in w hw)
  have hA : ∀ q : Nat, s.heap.size ≤ q → (fun q : Nat => s.heap.size ≤ q) q := fun _ h => h
  have hbA : ¬ (fun q : Nat => s.heap.size ≤ q) b := Nat.not_le.mpr hbl
  intro n21
  induction n21 with
  | zero =>
    intro v3 v4 S_ Sp_ kc H lc ls hkc hP hD hS hl hM
    rw [f_L_law_l21] at hM; exact absurd hM (by intro h; cases h)
  | succ n21 ih21 =>
    intro v3 v4 S_ Sp_ kc H lc ls hkc hP hD hS hl hM
    rw [f_L_law_l21] at hM
    refine lv_iload hx hb dL_law_21 (lv_at hl 4 rfl) ?_
    refine lv_bipush (v := 28) hx hb dL_law_23 (by decide) ?_
    refine lv_icmp_ge (tgt := 242) hx hb dL_law_25 (by decide) (fun q1 => ?_) (fun q1 => ?_)
    · replace hM := zx_t q1 hM
      refine lv_iload_n hx hb dL_law_242 rfl (lv_at hl 3 rfl) ?_
      have hv : v3 = 1 := by rw [← hR, ← Option.some.inj hM]
      rw [hv]
      refine va_forget (fun q hq => hS.2.2 q hq) ?_
      refine W.widen (k := 600104) (n := 7301314) (by omega) (by omega) ?_
      exact lw_ret hx hb hr hlocks dL_law_243
    · replace hM := zx_f q1 hM
      refine lv_iload_n hx hb dL_law_28 rfl (lv_at hl 3 rfl) ?_
      refine lv_if_eq (tgt := 242) hx hb dL_law_29 (by decide) (fun q2 => ?_) (fun q2 => ?_)
      · replace hM := zx_t q2 hM
        refine lv_iload_n hx hb dL_law_242 rfl (lv_at hl 3 rfl) ?_
        have hv : v3 = 1 := by rw [← hR, ← Option.some.inj hM]
        rw [hv]
        refine va_forget (fun q hq => hS.2.2 q hq) ?_
        refine W.widen (k := 600104) (n := 7301314) (by omega) (by omega) ?_
        exact lw_ret hx hb hr hlocks dL_law_243
      · replace hM := zx_f q2 hM
        have j106 : ∀ (v4 : Int32) (v5 : Int32) (v6 : Int32) (t0 : Int32) (S_ : zx_B) (Sp_ : zx_B) (kc : Nat) (H : Heap) (lc : List Loc) (ls : Array Slot), kc + (n21 * 12274 + 10110) ≤ 600000 → va_P D vwCl (xWD cI cT h hh aa h2 hh2 aa2 S_ Sp_) H → va_D (fun q : Nat => s.heap.size ≤ q) (xWD cI cT h hh aa h2 hh2 aa2 S_ Sp_) → va_S (fun q : Nat => s.heap.size ≤ q) s.heap H lc → lv_has ls 10 [(0, .ref b), (1, .ref h), (2, .ref h2), (4, .int v4), (5, .int v5), (6, .int v6)] → f_L_law_j106 N L xs (f_L_law_l21 N L xs  n21) v4 v5 v6 t0 S_ Sp_ = some R → W p l e room_1 s m #[Value.ref b] below meth c H lc kc (6 * kc) (lw_Z below #[Value.ref b] s) (F0 m 106 ls [.int t0]) := by
          intro v4 v5 v6 t0 S_ Sp_ kc H lc ls hkc hP hD hS hl hM
          unfold f_L_law_j106 at hM
          have j236 : ∀ (v3 : Int32) (v4 : Int32) (S_ : zx_B) (Sp_ : zx_B) (kc : Nat) (H : Heap) (lc : List Loc) (ls : Array Slot), kc + (n21 * 12274 + 0) ≤ 600000 → va_P D vwCl (xWD cI cT h hh aa h2 hh2 aa2 S_ Sp_) H → va_D (fun q : Nat => s.heap.size ≤ q) (xWD cI cT h hh aa h2 hh2 aa2 S_ Sp_) → va_S (fun q : Nat => s.heap.size ≤ q) s.heap H lc → lv_has ls 10 [(0, .ref b), (1, .ref h), (2, .ref h2), (3, .int v3), (4, .int v4)] → f_L_law_j236 N L xs (f_L_law_l21 N L xs  n21) v3 v4 S_ Sp_ = some R → W p l e room_1 s m #[Value.ref b] below meth c H lc kc (6 * kc) (lw_Z below #[Value.ref b] s) (F0 m 236 ls []) := by
            intro v3 v4 S_ Sp_ kc H lc ls hkc hP hD hS hl hM
            unfold f_L_law_j236 at hM
            obtain ⟨x3, ex3, hM⟩ := zx_nE hM
            refine lv_iinc (v := x3) (lv' := [(4, .int x3), (0, .ref b), (1, .ref h), (2, .ref h2), (3, .int v3)]) hx hb dL_law_236 hl (k := 4) rfl (by rw [ex3]; rfl) (by decide) rfl (fun ls hl => ?_)
            refine lv_goto (tgt := 21) hx hb dL_law_239 (by decide) ?_
            exact ih21 v3 x3 S_ Sp_ kc _ _ _ (by omega) hP hD hS (lv_sub hl [1, 2, 3, 4, 0] rfl) hM
          refine lv_istore_n (lv' := [(3, .int t0), (0, .ref b), (1, .ref h), (2, .ref h2), (4, .int v4), (5, .int v5), (6, .int v6)]) hx hb dL_law_106 rfl hl (by decide) rfl (fun ls hl => ?_)
          refine lv_iload hx hb dL_law_107 (lv_at hl 4 rfl) ?_
          refine lv_iconst (v := 5) hx hb dL_law_109 (by decide) ?_
          refine lv_irem hx hb dL_law_110 (by decide) ?_
          obtain ⟨x4, ex4, hM⟩ := zx_nE hM
          refine zx_top ex4 ?_
          refine lv_iconst (v := 4) hx hb dL_law_111 (by decide) ?_
          refine lv_icmp_ne (tgt := 236) hx hb dL_law_112 (by decide) (fun q5 => ?_) (fun q5 => ?_)
          · replace hM := zx_f q5 hM
            exact j236 t0 v4 S_ Sp_ kc _ _ _ (by omega) hP hD hS (lv_sub hl [1, 2, 3, 0, 4] rfl) hM
          · replace hM := zx_t q5 hM
            refine lv_iload_n hx hb dL_law_115 rfl (lv_at hl 0 rfl) ?_
            refine lv_if_eq (tgt := 236) hx hb dL_law_116 (by decide) (fun q6 => ?_) (fun q6 => ?_)
            · replace hM := zx_t q6 hM
              exact j236 t0 v4 S_ Sp_ kc _ _ _ (by omega) hP hD hS (lv_sub hl [1, 2, 3, 0, 4] rfl) hM
            · replace hM := zx_f q6 hM
              have j142 : ∀ (v4 : Int32) (v5 : Int32) (v6 : Int32) (t0 : Int32) (S_ : zx_B) (Sp_ : zx_B) (kc : Nat) (H : Heap) (lc : List Loc) (ls : Array Slot), kc + (n21 * 12274 + 2082) ≤ 600000 → va_P D vwCl (xWD cI cT h hh aa h2 hh2 aa2 S_ Sp_) H → va_D (fun q : Nat => s.heap.size ≤ q) (xWD cI cT h hh aa h2 hh2 aa2 S_ Sp_) → va_S (fun q : Nat => s.heap.size ≤ q) s.heap H lc → lv_has ls 10 [(0, .ref b), (1, .ref h), (2, .ref h2), (4, .int v4), (5, .int v5), (6, .int v6)] → f_L_law_j142 N L xs (f_L_law_l21 N L xs  n21) v4 v5 v6 t0 S_ Sp_ = some R → W p l e room_1 s m #[Value.ref b] below meth c H lc kc (6 * kc) (lw_Z below #[Value.ref b] s) (F0 m 142 ls [.int t0]) := by
                intro v4 v5 v6 t0 S_ Sp_ kc H lc ls hkc hP hD hS hl hM
                unfold f_L_law_j142 at hM
                have j235 : ∀ (v4 : Int32) (t0 : Int32) (S_ : zx_B) (Sp_ : zx_B) (kc : Nat) (H : Heap) (lc : List Loc) (ls : Array Slot), kc + (n21 * 12274 + 0) ≤ 600000 → va_P D vwCl (xWD cI cT h hh aa h2 hh2 aa2 S_ Sp_) H → va_D (fun q : Nat => s.heap.size ≤ q) (xWD cI cT h hh aa h2 hh2 aa2 S_ Sp_) → va_S (fun q : Nat => s.heap.size ≤ q) s.heap H lc → lv_has ls 10 [(0, .ref b), (1, .ref h), (2, .ref h2), (4, .int v4)] → f_L_law_j235 N L xs (f_L_law_l21 N L xs  n21) v4 t0 S_ Sp_ = some R → W p l e room_1 s m #[Value.ref b] below meth c H lc kc (6 * kc) (lw_Z below #[Value.ref b] s) (F0 m 235 ls [.int t0]) := by
                  intro v4 t0 S_ Sp_ kc H lc ls hkc hP hD hS hl hM
                  unfold f_L_law_j235 at hM
                  refine lv_istore_n (lv' := [(3, .int t0), (0, .ref b), (1, .ref h), (2, .ref h2), (4, .int v4)]) hx hb dL_law_235 rfl hl (by decide) rfl (fun ls hl => ?_)
                  exact j236 t0 v4 S_ Sp_ kc _ _ _ (by omega) hP hD hS (lv_sub hl [1, 2, 3, 0, 4] rfl) hM
                have j234 : ∀ (v4 : Int32) (S_ : zx_B) (Sp_ : zx_B) (kc : Nat) (H : Heap) (lc : List Loc) (ls : Array Slot), kc + (n21 * 12274 + 0) ≤ 600000 → va_P D vwCl (xWD cI cT h hh aa h2 hh2 aa2 S_ Sp_) H → va_D (fun q : Nat => s.heap.size ≤ q) (xWD cI cT h hh aa h2 hh2 aa2 S_ Sp_) → va_S (fun q : Nat => s.heap.size ≤ q) s.heap H lc → lv_has ls 10 [(0, .ref b), (1, .ref h), (2, .ref h2), (4, .int v4)] → f_L_law_j234 N L xs (f_L_law_l21 N L xs  n21) v4 S_ Sp_ = some R → W p l e room_1 s m #[Value.ref b] below meth c H lc kc (6 * kc) (lw_Z below #[Value.ref b] s) (F0 m 234 ls []) := by
                  intro v4 S_ Sp_ kc H lc ls hkc hP hD hS hl hM
                  unfold f_L_law_j234 at hM
                  refine lv_iconst (v := 0) hx hb dL_law_234 (by decide) ?_
                  exact j235 v4 0 S_ Sp_ kc _ _ _ (by omega) hP hD hS (lv_sub hl [0, 1, 2, 3] rfl) hM
                refine lv_istore_n (lv' := [(3, .int t0), (0, .ref b), (1, .ref h), (2, .ref h2), (4, .int v4), (5, .int v5), (6, .int v6)]) hx hb dL_law_142 rfl hl (by decide) rfl (fun ls hl => ?_)
                refine lv_iload hx hb dL_law_143 (lv_at hl 5 rfl) ?_
                refine lv_i2l hx hb dL_law_145 rfl ?_
                refine lv_ldc2 (v := 3434251559) hx hb hown (hts _ zw_1_3) dL_law_146 ?_
                refine lv_lmul hx hb dL_law_149 ?_
                refine lv_ldc2 (v := 821) hx hb hown (hts _ zw_1_4) dL_law_150 ?_
                refine lv_lsub hx hb dL_law_153 ?_
                obtain ⟨x7, ex7, hM⟩ := zx_nE hM
                refine zx_topl ex7 ?_
                refine lv_lstore (lv' := [(7, .long x7), (3, .int t0), (0, .ref b), (1, .ref h), (2, .ref h2), (4, .int v4), (5, .int v5), (6, .int v6)]) hx hb dL_law_154 hl (by decide) rfl (fun ls hl => ?_)
                refine lv_aload_n hx hb dL_law_156 rfl (lv_at hl 3 rfl) ?_
                refine lv_lload hx hb dL_law_157 (lv_at hl 0 rfl) ?_
                refine lv_iconst (v := 1) hx hb dL_law_159 (by decide) ?_
                refine lv_iload hx hb dL_law_160 (lv_at hl 7 rfl) ?_
                refine lv_bipush (v := 20) hx hb dL_law_162 (by decide) ?_
                refine lv_irem hx hb dL_law_164 (by decide) ?_
                obtain ⟨x8, ex8, hM⟩ := zx_nE hM
                refine zx_top ex8 ?_
                refine lv_iadd hx hb dL_law_165 ?_
                obtain ⟨x9, T10, hz11, hM⟩ := zx_b2E hM
                have hPc := zy_P1 hP
                have hDc := zy_D1 hD
                have hF := zx_fW hDc hS hA
                refine va_calli (vx_runSW (As := [.ref h, .long x7, .int (1 + x8)]) (rest := []) ⟨hx, hb, hml, hown, hts⟩ (c_L_trySimulate l hlt D cI cZ cT h hh aa S_ _ N x7 (1 + x8) hz11) (vx_cwSW 3 hts (zg_S zw_20_8 zw_20_9 zw_3_14 zw_20_10) rfl rfl rfl zyL_trySimulate ⟨Nat.le_of_ble_eq_true rfl, Nat.le_of_ble_eq_true rfl⟩) ⟨bY_blind, bY_pre hPc hK hDc hN hXX hNc hS hF⟩ rfl rfl hl.1 rfl (lv_room (Nat.le_of_ble_eq_true rfl)) dL_law_166 ⟨by show kc + 1 ≤ 600104; omega, by show 6 * kc + 6 ≤ 7301314; omega⟩) hS (fun q _ h => hF q h) (fun q h => hF q h) (fun r u t H1 lc ht hvm hw hB hz1 hk1 hS => ?_)
                obtain ⟨hw1, hw2⟩ := Prod.mk.inj hw; subst hw1; subst hw2
                rw [ht] at hB
                replace hP := zy_S1 (by rw [xW2_len, xW2_len]) hP hD hk1 hB
                replace hD := xWD_D T10 Sp_ hD
                refine W.widen (k := (kc + 1)) (n := 6 * (kc + 1)) (by omega) (by omega) ?_
                refine lv_istore (lv' := [(9, .int x9), (7, .long x7), (3, .int t0), (0, .ref b), (1, .ref h), (2, .ref h2), (4, .int v4), (5, .int v5), (6, .int v6)]) hx hb dL_law_169 hl (by decide) rfl (fun ls hl => ?_)
                refine lv_iload_n hx hb dL_law_171 rfl (lv_at hl 2 rfl) ?_
                refine lv_if_eq (tgt := 234) hx hb dL_law_172 (by decide) (fun q12 => ?_) (fun q12 => ?_)
                · replace hM := zx_t q12 hM
                  exact j234 v4 T10 Sp_ (kc + 1) _ _ _ (by omega) hP hD hS (lv_sub hl [3, 4, 5, 6] rfl) hM
                · replace hM := zx_f q12 hM
                  refine lv_iload hx hb dL_law_175 (lv_at hl 0 rfl) ?_
                  refine lv_aload_n hx hb dL_law_177 rfl (lv_at hl 5 rfl) ?_
                  refine lv_lload hx hb dL_law_178 (lv_at hl 1 rfl) ?_
                  refine lv_iconst (v := 1) hx hb dL_law_180 (by decide) ?_
                  refine lv_iload hx hb dL_law_181 (lv_at hl 8 rfl) ?_
                  refine lv_bipush (v := 20) hx hb dL_law_183 (by decide) ?_
                  refine lv_irem hx hb dL_law_185 (by decide) ?_
                  obtain ⟨x13, ex13, hM⟩ := zx_nE hM
                  refine zx_top ex13 ?_
                  refine lv_iadd hx hb dL_law_186 ?_
                  obtain ⟨x14, T15, hz16, hM⟩ := zx_b2E hM
                  have hPc := zy_P2 hP
                  have hDc := zy_D2 hD
                  have hF := zx_fW hDc hS hA
                  refine va_calli (vx_runSW (As := [.ref h2, .long x7, .int (1 + x13)]) (rest := [.int x9]) ⟨hx, hb, hml, hown, hts⟩ (c_L_trySimulate l hlt D cI cZ cT h2 hh2 aa2 Sp_ _ N x7 (1 + x13) hz16) (vx_cwSW 3 hts (zg_S zw_20_8 zw_20_9 zw_3_14 zw_20_10) rfl rfl rfl zyL_trySimulate ⟨Nat.le_of_ble_eq_true rfl, Nat.le_of_ble_eq_true rfl⟩) ⟨bY_blind, bY_pre hPc hK hDc hN hXX hNc hS hF⟩ rfl rfl hl.1 rfl (lv_room (Nat.le_of_ble_eq_true rfl)) dL_law_187 ⟨by show (kc + 1) + 1 ≤ 600104; omega, by show 6 * (kc + 1) + 6 ≤ 7301314; omega⟩) hS (fun q _ h => hF q h) (fun q h => hF q h) (fun r u t H1 lc ht hvm hw hB hz1 hk1 hS => ?_)
                  obtain ⟨hw1, hw2⟩ := Prod.mk.inj hw; subst hw1; subst hw2
                  rw [ht] at hB
                  replace hP := zy_S2 (by rw [xW2_len, xW2_len]) hP hD hk1 hB
                  replace hD := xWD_D T10 T15 hD
                  refine W.widen (k := (kc + 2)) (n := 6 * (kc + 2)) (by omega) (by omega) ?_
                  refine lv_icmp_ne (tgt := 234) hx hb dL_law_190 (by decide) (fun q17 => ?_) (fun q17 => ?_)
                  · replace hM := zx_f q17 hM
                    exact j234 v4 T10 T15 (kc + 2) _ _ _ (by omega) hP hD hS (lv_sub hl [3, 4, 5, 6] rfl) hM
                  · replace hM := zx_t q17 hM
                    refine lv_aload_n hx hb dL_law_193 rfl (lv_at hl 4 rfl) ?_
                    refine lv_iconst (v := 2) hx hb dL_law_194 (by decide) ?_
                    refine lv_iload hx hb dL_law_195 (lv_at hl 8 rfl) ?_
                    refine lv_i2l hx hb dL_law_197 rfl ?_
                    refine lv_ldc2 (v := 400000) hx hb hown (hts _ zw_1_5) dL_law_198 ?_
                    refine lv_lmul hx hb dL_law_201 ?_
                    obtain ⟨x18, T19, hz20, hM⟩ := zx_b2E hM
                    have hPc := zy_P1 hP
                    have hDc := zy_D1 hD
                    have hF := zx_fW hDc hS hA
                    refine va_calli (vx_runSW (As := [.ref h, .int 2, .long ((Int32.toInt64 v6) * 400000)]) (rest := []) ⟨hx, hb, hml, hown, hts⟩ (c_L_tryScript l hlt D cI cZ cT h hh aa T10 _ N 2 ((Int32.toInt64 v6) * 400000) hz20) (vx_cwSW 3 hts (zg_S zw_19_12 zw_19_13 zw_3_14 zw_19_14) rfl rfl rfl zyL_tryScript ⟨Nat.le_of_ble_eq_true rfl, Nat.le_of_ble_eq_true rfl⟩) ⟨bY_blind, bY_pre hPc hK hDc hN hXX hNc hS hF⟩ rfl rfl hl.1 rfl (lv_room (Nat.le_of_ble_eq_true rfl)) dL_law_202 ⟨by show (kc + 2) + 1 ≤ 600104; omega, by show 6 * (kc + 2) + 6 ≤ 7301314; omega⟩) hS (fun q _ h => hF q h) (fun q h => hF q h) (fun r u t H1 lc ht hvm hw hB hz1 hk1 hS => ?_)
                    obtain ⟨hw1, hw2⟩ := Prod.mk.inj hw; subst hw1; subst hw2
                    rw [ht] at hB
                    replace hP := zy_S1 (by rw [xW2_len, xW2_len]) hP hD hk1 hB
                    replace hD := xWD_D T19 T15 hD
                    refine W.widen (k := (kc + 3)) (n := 6 * (kc + 3)) (by omega) (by omega) ?_
                    refine lv_aload_n hx hb dL_law_205 rfl (lv_at hl 5 rfl) ?_
                    refine lv_iconst (v := 2) hx hb dL_law_206 (by decide) ?_
                    refine lv_iload hx hb dL_law_207 (lv_at hl 8 rfl) ?_
                    refine lv_i2l hx hb dL_law_209 rfl ?_
                    refine lv_ldc2 (v := 400000) hx hb hown (hts _ zw_1_5) dL_law_210 ?_
                    refine lv_lmul hx hb dL_law_213 ?_
                    obtain ⟨x21, T22, hz23, hM⟩ := zx_b2E hM
                    have hPc := zy_P2 hP
                    have hDc := zy_D2 hD
                    have hF := zx_fW hDc hS hA
                    refine va_calli (vx_runSW (As := [.ref h2, .int 2, .long ((Int32.toInt64 v6) * 400000)]) (rest := [.int x18]) ⟨hx, hb, hml, hown, hts⟩ (c_L_tryScript l hlt D cI cZ cT h2 hh2 aa2 T15 _ N 2 ((Int32.toInt64 v6) * 400000) hz23) (vx_cwSW 3 hts (zg_S zw_19_12 zw_19_13 zw_3_14 zw_19_14) rfl rfl rfl zyL_tryScript ⟨Nat.le_of_ble_eq_true rfl, Nat.le_of_ble_eq_true rfl⟩) ⟨bY_blind, bY_pre hPc hK hDc hN hXX hNc hS hF⟩ rfl rfl hl.1 rfl (lv_room (Nat.le_of_ble_eq_true rfl)) dL_law_214 ⟨by show (kc + 3) + 1 ≤ 600104; omega, by show 6 * (kc + 3) + 6 ≤ 7301314; omega⟩) hS (fun q _ h => hF q h) (fun q h => hF q h) (fun r u t H1 lc ht hvm hw hB hz1 hk1 hS => ?_)
                    obtain ⟨hw1, hw2⟩ := Prod.mk.inj hw; subst hw1; subst hw2
                    rw [ht] at hB
                    replace hP := zy_S2 (by rw [xW2_len, xW2_len]) hP hD hk1 hB
                    replace hD := xWD_D T19 T22 hD
                    refine W.widen (k := (kc + 4)) (n := 6 * (kc + 4)) (by omega) (by omega) ?_
                    refine lv_icmp_ne (tgt := 234) hx hb dL_law_217 (by decide) (fun q24 => ?_) (fun q24 => ?_)
                    · replace hM := zx_f q24 hM
                      exact j234 v4 T19 T22 (kc + 4) _ _ _ (by omega) hP hD hS (lv_sub hl [3, 4, 5, 6] rfl) hM
                    · replace hM := zx_t q24 hM
                      refine lv_aload_n hx hb dL_law_220 rfl (lv_at hl 4 rfl) ?_
                      refine lv_aload_n hx hb dL_law_221 rfl (lv_at hl 5 rfl) ?_
                      refine lv_iload hx hb dL_law_222 (lv_at hl 8 rfl) ?_
                      obtain ⟨x25, T26, hz27, hM⟩ := zx_b2E hM
                      have hF := zx_fW hD hS hA
                      refine va_calli (va_runS (As := [.ref h, .ref h2, .int v6]) (rest := []) ⟨hx, hb, hml, hown, hts⟩ (c_L_alike l hlt D cI cZ cT h hh aa h2 hh2 aa2 T19 T22 _ N v6 hz27) (va_cwS 3 hts (zg_S zw_21_11 zw_21_12 zw_3_14 zw_21_13) rfl rfl rfl zyL_alike ⟨Nat.le_of_ble_eq_true rfl, Nat.le_of_ble_eq_true rfl⟩) ⟨bY_blind, bY_pre hP hK hD hN hXX hNc hS hF⟩ rfl rfl hl.1 rfl (lv_room (Nat.le_of_ble_eq_true rfl)) dL_law_224 ⟨by show (kc + 4) + 2078 ≤ 600104; omega, by show 6 * (kc + 4) + 12468 ≤ 7301314; omega⟩) hS (fun q _ h => hF q h) (fun q h => hF q h) (fun r u t H1 lc ht hvm hw hB hz1 hk1 hS => ?_)
                      obtain ⟨hw1, hw2⟩ := Prod.mk.inj hw; subst hw1; subst hw2
                      rw [ht] at hB
                      replace hP := hB
                      replace hD := xWD_D T26.1 T26.2 hD
                      refine W.widen (k := (kc + 2082)) (n := 6 * (kc + 2082)) (by omega) (by omega) ?_
                      refine lv_if_eq (tgt := 234) hx hb dL_law_227 (by decide) (fun q28 => ?_) (fun q28 => ?_)
                      · replace hM := zx_t q28 hM
                        exact j234 v4 T26.1 T26.2 (kc + 2082) _ _ _ (by omega) hP hD hS (lv_sub hl [3, 4, 5, 6] rfl) hM
                      · replace hM := zx_f q28 hM
                        refine lv_iconst (v := 1) hx hb dL_law_230 (by decide) ?_
                        refine lv_goto (tgt := 235) hx hb dL_law_231 (by decide) ?_
                        exact j235 v4 1 T26.1 T26.2 (kc + 2082) _ _ _ (by omega) hP hD hS (lv_sub hl [3, 4, 5, 6] rfl) hM
              have j141 : ∀ (v4 : Int32) (v5 : Int32) (v6 : Int32) (S_ : zx_B) (Sp_ : zx_B) (kc : Nat) (H : Heap) (lc : List Loc) (ls : Array Slot), kc + (n21 * 12274 + 2082) ≤ 600000 → va_P D vwCl (xWD cI cT h hh aa h2 hh2 aa2 S_ Sp_) H → va_D (fun q : Nat => s.heap.size ≤ q) (xWD cI cT h hh aa h2 hh2 aa2 S_ Sp_) → va_S (fun q : Nat => s.heap.size ≤ q) s.heap H lc → lv_has ls 10 [(0, .ref b), (1, .ref h), (2, .ref h2), (4, .int v4), (5, .int v5), (6, .int v6)] → f_L_law_j141 N L xs (f_L_law_l21 N L xs  n21) v4 v5 v6 S_ Sp_ = some R → W p l e room_1 s m #[Value.ref b] below meth c H lc kc (6 * kc) (lw_Z below #[Value.ref b] s) (F0 m 141 ls []) := by
                intro v4 v5 v6 S_ Sp_ kc H lc ls hkc hP hD hS hl hM
                unfold f_L_law_j141 at hM
                refine lv_iconst (v := 0) hx hb dL_law_141 (by decide) ?_
                exact j142 v4 v5 v6 0 S_ Sp_ kc _ _ _ (by omega) hP hD hS (lv_sub hl [0, 1, 2, 3, 4, 5] rfl) hM
              refine lv_aload_n hx hb dL_law_119 rfl (lv_at hl 2 rfl) ?_
              refine lv_iload hx hb dL_law_120 (lv_at hl 6 rfl) ?_
              obtain ⟨x29, T30, hz31, hM⟩ := zx_b2E hM
              have hPc := zy_P1 hP
              have hDc := zy_D1 hD
              have hF := zx_fW hDc hS hA
              refine va_calli (va_runS (As := [.ref h, .int v6]) (rest := []) ⟨hx, hb, hml, hown, hts⟩ (c_L_holds l hlt D cI cZ cT h hh aa S_ _ N v6 hz31) (va_cwS 2 hts (zg_S zw_21_14 zw_21_15 zw_3_14 zw_21_16) rfl rfl rfl zyL_holds ⟨Nat.le_of_ble_eq_true rfl, Nat.le_of_ble_eq_true rfl⟩) ⟨bY_blind, bY_pre hPc hK hDc hN hXX hNc hS hF⟩ rfl rfl hl.1 rfl (lv_room (Nat.le_of_ble_eq_true rfl)) dL_law_122 ⟨by show kc + 4014 ≤ 600104; omega, by show 6 * kc + 24084 ≤ 7301314; omega⟩) hS (fun q _ h => hF q h) (fun q h => hF q h) (fun r u t H1 lc ht hvm hw hB hz1 hk1 hS => ?_)
              obtain ⟨hw1, hw2⟩ := Prod.mk.inj hw; subst hw1; subst hw2
              rw [ht] at hB
              replace hP := zy_S1 (by rw [xW2_len, xW2_len]) hP hD hk1 hB
              replace hD := xWD_D T30 Sp_ hD
              refine W.widen (k := (kc + 4014)) (n := 6 * (kc + 4014)) (by omega) (by omega) ?_
              refine lv_if_eq (tgt := 141) hx hb dL_law_125 (by decide) (fun q32 => ?_) (fun q32 => ?_)
              · replace hM := zx_t q32 hM
                exact j141 v4 v5 v6 T30 Sp_ (kc + 4014) _ _ _ (by omega) hP hD hS (lv_sub hl [1, 2, 3, 4, 5, 6] rfl) hM
              · replace hM := zx_f q32 hM
                refine lv_aload_n hx hb dL_law_128 rfl (lv_at hl 3 rfl) ?_
                refine lv_iload hx hb dL_law_129 (lv_at hl 6 rfl) ?_
                obtain ⟨x33, T34, hz35, hM⟩ := zx_b2E hM
                have hPc := zy_P2 hP
                have hDc := zy_D2 hD
                have hF := zx_fW hDc hS hA
                refine va_calli (va_runS (As := [.ref h2, .int v6]) (rest := []) ⟨hx, hb, hml, hown, hts⟩ (c_L_holds l hlt D cI cZ cT h2 hh2 aa2 Sp_ _ N v6 hz35) (va_cwS 2 hts (zg_S zw_21_14 zw_21_15 zw_3_14 zw_21_16) rfl rfl rfl zyL_holds ⟨Nat.le_of_ble_eq_true rfl, Nat.le_of_ble_eq_true rfl⟩) ⟨bY_blind, bY_pre hPc hK hDc hN hXX hNc hS hF⟩ rfl rfl hl.1 rfl (lv_room (Nat.le_of_ble_eq_true rfl)) dL_law_131 ⟨by show (kc + 4014) + 4014 ≤ 600104; omega, by show 6 * (kc + 4014) + 24084 ≤ 7301314; omega⟩) hS (fun q _ h => hF q h) (fun q h => hF q h) (fun r u t H1 lc ht hvm hw hB hz1 hk1 hS => ?_)
                obtain ⟨hw1, hw2⟩ := Prod.mk.inj hw; subst hw1; subst hw2
                rw [ht] at hB
                replace hP := zy_S2 (by rw [xW2_len, xW2_len]) hP hD hk1 hB
                replace hD := xWD_D T30 T34 hD
                refine W.widen (k := (kc + 8028)) (n := 6 * (kc + 8028)) (by omega) (by omega) ?_
                refine lv_if_eq (tgt := 141) hx hb dL_law_134 (by decide) (fun q36 => ?_) (fun q36 => ?_)
                · replace hM := zx_t q36 hM
                  exact j141 v4 v5 v6 T30 T34 (kc + 8028) _ _ _ (by omega) hP hD hS (lv_sub hl [1, 2, 3, 4, 5, 6] rfl) hM
                · replace hM := zx_f q36 hM
                  refine lv_iconst (v := 1) hx hb dL_law_137 (by decide) ?_
                  refine lv_goto (tgt := 142) hx hb dL_law_138 (by decide) ?_
                  exact j142 v4 v5 v6 1 T30 T34 (kc + 8028) _ _ _ (by omega) hP hD hS (lv_sub hl [1, 2, 3, 4, 5, 6] rfl) hM
        have j105 : ∀ (v4 : Int32) (v5 : Int32) (v6 : Int32) (S_ : zx_B) (Sp_ : zx_B) (kc : Nat) (H : Heap) (lc : List Loc) (ls : Array Slot), kc + (n21 * 12274 + 10110) ≤ 600000 → va_P D vwCl (xWD cI cT h hh aa h2 hh2 aa2 S_ Sp_) H → va_D (fun q : Nat => s.heap.size ≤ q) (xWD cI cT h hh aa h2 hh2 aa2 S_ Sp_) → va_S (fun q : Nat => s.heap.size ≤ q) s.heap H lc → lv_has ls 10 [(0, .ref b), (1, .ref h), (2, .ref h2), (4, .int v4), (5, .int v5), (6, .int v6)] → f_L_law_j105 N L xs (f_L_law_l21 N L xs  n21) v4 v5 v6 S_ Sp_ = some R → W p l e room_1 s m #[Value.ref b] below meth c H lc kc (6 * kc) (lw_Z below #[Value.ref b] s) (F0 m 105 ls []) := by
          intro v4 v5 v6 S_ Sp_ kc H lc ls hkc hP hD hS hl hM
          unfold f_L_law_j105 at hM
          refine lv_iconst (v := 0) hx hb dL_law_105 (by decide) ?_
          exact j106 v4 v5 v6 0 S_ Sp_ kc _ _ _ (by omega) hP hD hS (lv_sub hl [0, 1, 2, 3, 4, 5] rfl) hM
        refine lv_aload_n hx hb dL_law_32 rfl (lv_at hl 0 rfl) ?_
        refine lv_iconst (v := 2) hx hb dL_law_33 (by decide) ?_
        refine lv_iload hx hb dL_law_34 (lv_at hl 4 rfl) ?_
        refine lv_imul hx hb dL_law_36 ?_
        obtain ⟨x37, hz38, hM⟩ := zx_b1E hM
        refine va_calli (va_runS (As := [.ref b, .int (2 * v4)]) (rest := []) ⟨hx, hb, hml, hown, hts⟩ (c_L_cell l b L xs (2 * v4) _ hz38) (va_cwS 2 hts (zg_S zw_3_12 zw_3_13 zw_3_14 zw_3_15) rfl rfl rfl zyL_cell ⟨Nat.le_of_ble_eq_true rfl, Nat.le_of_ble_eq_true rfl⟩) ⟨bC_blind, bC_pre hX hbl hbA hS⟩ rfl rfl hl.1 rfl (lv_room (Nat.le_of_ble_eq_true rfl)) dL_law_37 ⟨by show kc + 0 ≤ 600104; omega, by show 6 * kc + 0 ≤ 7301314; omega⟩) hS (fun q h1 h2 => absurd h1 (Nat.not_lt.mpr h2)) (fun q h => hA q (Nat.le_trans hS.1 h)) (fun r u t H1 lc ht hvm hw hB hz1 hk1 hS => ?_)
        replace hw : x37 = r := hw; subst hw
        replace hP := zx_keep hP hk1
        refine W.widen (k := kc) (n := 6 * kc) (by omega) (by omega) ?_
        refine lv_istore (lv' := [(5, .int x37), (0, .ref b), (1, .ref h), (2, .ref h2), (3, .int v3), (4, .int v4)]) hx hb dL_law_40 hl (by decide) rfl (fun ls hl => ?_)
        refine lv_aload_n hx hb dL_law_42 rfl (lv_at hl 1 rfl) ?_
        refine lv_iconst (v := 2) hx hb dL_law_43 (by decide) ?_
        refine lv_iload hx hb dL_law_44 (lv_at hl 5 rfl) ?_
        refine lv_imul hx hb dL_law_46 ?_
        refine lv_iconst (v := 1) hx hb dL_law_47 (by decide) ?_
        refine lv_iadd hx hb dL_law_48 ?_
        obtain ⟨x39, hz40, hM⟩ := zx_b1E hM
        refine va_calli (va_runS (As := [.ref b, .int ((2 * v4) + 1)]) (rest := []) ⟨hx, hb, hml, hown, hts⟩ (c_L_cell l b L xs ((2 * v4) + 1) _ hz40) (va_cwS 2 hts (zg_S zw_3_12 zw_3_13 zw_3_14 zw_3_15) rfl rfl rfl zyL_cell ⟨Nat.le_of_ble_eq_true rfl, Nat.le_of_ble_eq_true rfl⟩) ⟨bC_blind, bC_pre hX hbl hbA hS⟩ rfl rfl hl.1 rfl (lv_room (Nat.le_of_ble_eq_true rfl)) dL_law_49 ⟨by show kc + 0 ≤ 600104; omega, by show 6 * kc + 0 ≤ 7301314; omega⟩) hS (fun q h1 h2 => absurd h1 (Nat.not_lt.mpr h2)) (fun q h => hA q (Nat.le_trans hS.1 h)) (fun r u t H1 lc ht hvm hw hB hz1 hk1 hS => ?_)
        replace hw : x39 = r := hw; subst hw
        replace hP := zx_keep hP hk1
        refine W.widen (k := kc) (n := 6 * kc) (by omega) (by omega) ?_
        refine lv_istore (lv' := [(6, .int x39), (5, .int x37), (0, .ref b), (1, .ref h), (2, .ref h2), (3, .int v3), (4, .int v4)]) hx hb dL_law_52 hl (by decide) rfl (fun ls hl => ?_)
        refine lv_aload_n hx hb dL_law_54 rfl (lv_at hl 3 rfl) ?_
        refine lv_iload hx hb dL_law_55 (lv_at hl 1 rfl) ?_
        obtain ⟨x41, T42, hz43, hM⟩ := zx_b2E hM
        have hPc := zy_P1 hP
        have hDc := zy_D1 hD
        have hF := zx_fW hDc hS hA
        refine va_calli (va_runS (As := [.ref h, .int x37]) (rest := []) ⟨hx, hb, hml, hown, hts⟩ (c_L_refuses l hlt D cI cZ cT h hh aa S_ _ N x37 hz43) (va_cwS 2 hts (zg_S zw_3_18 zw_3_19 zw_3_14 zw_3_20) rfl rfl rfl zyL_refuses ⟨Nat.le_of_ble_eq_true rfl, Nat.le_of_ble_eq_true rfl⟩) ⟨bY_blind, bY_pre hPc hK hDc hN hXX hNc hS hF⟩ rfl rfl hl.1 rfl (lv_room (Nat.le_of_ble_eq_true rfl)) dL_law_57 ⟨by show kc + 34 ≤ 600104; omega, by show 6 * kc + 204 ≤ 7301314; omega⟩) hS (fun q _ h => hF q h) (fun q h => hF q h) (fun r u t H1 lc ht hvm hw hB hz1 hk1 hS => ?_)
        obtain ⟨hw1, hw2⟩ := Prod.mk.inj hw; subst hw1; subst hw2
        rw [ht] at hB
        replace hP := zy_S1 (by rw [xW2_len, xW2_len]) hP hD hk1 hB
        replace hD := xWD_D T42 Sp_ hD
        refine W.widen (k := (kc + 34)) (n := 6 * (kc + 34)) (by omega) (by omega) ?_
        refine lv_if_eq (tgt := 105) hx hb dL_law_60 (by decide) (fun q44 => ?_) (fun q44 => ?_)
        · replace hM := zx_t q44 hM
          exact j105 v4 x37 x39 T42 Sp_ (kc + 34) _ _ _ (by omega) hP hD hS (lv_sub hl [2, 3, 4, 6, 1, 0] rfl) hM
        · replace hM := zx_f q44 hM
          refine lv_aload_n hx hb dL_law_63 rfl (lv_at hl 3 rfl) ?_
          refine lv_iload hx hb dL_law_64 (lv_at hl 1 rfl) ?_
          refine lv_iload hx hb dL_law_66 (lv_at hl 0 rfl) ?_
          obtain ⟨x45, T46, hz47, hM⟩ := zx_b2E hM
          have hPc := zy_P1 hP
          have hDc := zy_D1 hD
          have hF := zx_fW hDc hS hA
          refine va_calli (va_runS (As := [.ref h, .int x37, .int x39]) (rest := []) ⟨hx, hb, hml, hown, hts⟩ (c_L_act l hlt D cI cZ cT h hh aa T42 _ N x37 x39 hz47) (va_cwS 3 hts (zg_S zw_21_3 zw_21_4 zw_3_14 zw_21_5) rfl rfl rfl zyL_act ⟨Nat.le_of_ble_eq_true rfl, Nat.le_of_ble_eq_true rfl⟩) ⟨bY_blind, bY_pre hPc hK hDc hN hXX hNc hS hF⟩ rfl rfl hl.1 rfl (lv_room (Nat.le_of_ble_eq_true rfl)) dL_law_68 ⟨by show (kc + 34) + 9 ≤ 600104; omega, by show 6 * (kc + 34) + 54 ≤ 7301314; omega⟩) hS (fun q _ h => hF q h) (fun q h => hF q h) (fun r u t H1 lc ht hvm hw hB hz1 hk1 hS => ?_)
          obtain ⟨hw1, hw2⟩ := Prod.mk.inj hw; subst hw1; subst hw2
          rw [ht] at hB
          replace hP := zy_S1 (by rw [xW2_len, xW2_len]) hP hD hk1 hB
          replace hD := xWD_D T46 Sp_ hD
          refine W.widen (k := (kc + 43)) (n := 6 * (kc + 43)) (by omega) (by omega) ?_
          refine lv_aload_n hx hb dL_law_71 rfl (lv_at hl 4 rfl) ?_
          refine lv_iload hx hb dL_law_72 (lv_at hl 1 rfl) ?_
          refine lv_iload hx hb dL_law_74 (lv_at hl 0 rfl) ?_
          obtain ⟨x48, T49, hz50, hM⟩ := zx_b2E hM
          have hPc := zy_P2 hP
          have hDc := zy_D2 hD
          have hF := zx_fW hDc hS hA
          refine va_calli (va_runS (As := [.ref h2, .int x37, .int x39]) (rest := [.int x45]) ⟨hx, hb, hml, hown, hts⟩ (c_L_act l hlt D cI cZ cT h2 hh2 aa2 Sp_ _ N x37 x39 hz50) (va_cwS 3 hts (zg_S zw_21_3 zw_21_4 zw_3_14 zw_21_5) rfl rfl rfl zyL_act ⟨Nat.le_of_ble_eq_true rfl, Nat.le_of_ble_eq_true rfl⟩) ⟨bY_blind, bY_pre hPc hK hDc hN hXX hNc hS hF⟩ rfl rfl hl.1 rfl (lv_room (Nat.le_of_ble_eq_true rfl)) dL_law_76 ⟨by show (kc + 43) + 9 ≤ 600104; omega, by show 6 * (kc + 43) + 54 ≤ 7301314; omega⟩) hS (fun q _ h => hF q h) (fun q h => hF q h) (fun r u t H1 lc ht hvm hw hB hz1 hk1 hS => ?_)
          obtain ⟨hw1, hw2⟩ := Prod.mk.inj hw; subst hw1; subst hw2
          rw [ht] at hB
          replace hP := zy_S2 (by rw [xW2_len, xW2_len]) hP hD hk1 hB
          replace hD := xWD_D T46 T49 hD
          refine W.widen (k := (kc + 52)) (n := 6 * (kc + 52)) (by omega) (by omega) ?_
          refine lv_icmp_ne (tgt := 105) hx hb dL_law_79 (by decide) (fun q51 => ?_) (fun q51 => ?_)
          · replace hM := zx_f q51 hM
            exact j105 v4 x37 x39 T46 T49 (kc + 52) _ _ _ (by omega) hP hD hS (lv_sub hl [2, 3, 4, 6, 1, 0] rfl) hM
          · replace hM := zx_t q51 hM
            refine lv_aload_n hx hb dL_law_82 rfl (lv_at hl 3 rfl) ?_
            refine lv_iload hx hb dL_law_83 (lv_at hl 0 rfl) ?_
            obtain ⟨x52, T53, hz54, hM⟩ := zx_b2E hM
            have hPc := zy_P1 hP
            have hDc := zy_D1 hD
            have hF := zx_fW hDc hS hA
            refine va_calli (va_runS (As := [.ref h, .int x39]) (rest := []) ⟨hx, hb, hml, hown, hts⟩ (c_L_refuses l hlt D cI cZ cT h hh aa T46 _ N x39 hz54) (va_cwS 2 hts (zg_S zw_3_18 zw_3_19 zw_3_14 zw_3_20) rfl rfl rfl zyL_refuses ⟨Nat.le_of_ble_eq_true rfl, Nat.le_of_ble_eq_true rfl⟩) ⟨bY_blind, bY_pre hPc hK hDc hN hXX hNc hS hF⟩ rfl rfl hl.1 rfl (lv_room (Nat.le_of_ble_eq_true rfl)) dL_law_85 ⟨by show (kc + 52) + 34 ≤ 600104; omega, by show 6 * (kc + 52) + 204 ≤ 7301314; omega⟩) hS (fun q _ h => hF q h) (fun q h => hF q h) (fun r u t H1 lc ht hvm hw hB hz1 hk1 hS => ?_)
            obtain ⟨hw1, hw2⟩ := Prod.mk.inj hw; subst hw1; subst hw2
            rw [ht] at hB
            replace hP := zy_S1 (by rw [xW2_len, xW2_len]) hP hD hk1 hB
            replace hD := xWD_D T53 T49 hD
            refine W.widen (k := (kc + 86)) (n := 6 * (kc + 86)) (by omega) (by omega) ?_
            refine lv_if_eq (tgt := 105) hx hb dL_law_88 (by decide) (fun q55 => ?_) (fun q55 => ?_)
            · replace hM := zx_t q55 hM
              exact j105 v4 x37 x39 T53 T49 (kc + 86) _ _ _ (by omega) hP hD hS (lv_sub hl [2, 3, 4, 6, 1, 0] rfl) hM
            · replace hM := zx_f q55 hM
              refine lv_aload_n hx hb dL_law_91 rfl (lv_at hl 3 rfl) ?_
              refine lv_aload_n hx hb dL_law_92 rfl (lv_at hl 4 rfl) ?_
              refine lv_iload hx hb dL_law_93 (lv_at hl 1 rfl) ?_
              obtain ⟨x56, T57, hz58, hM⟩ := zx_b2E hM
              have hF := zx_fW hD hS hA
              refine va_calli (va_runS (As := [.ref h, .ref h2, .int x37]) (rest := []) ⟨hx, hb, hml, hown, hts⟩ (c_L_alike l hlt D cI cZ cT h hh aa h2 hh2 aa2 T53 T49 _ N x37 hz58) (va_cwS 3 hts (zg_S zw_21_11 zw_21_12 zw_3_14 zw_21_13) rfl rfl rfl zyL_alike ⟨Nat.le_of_ble_eq_true rfl, Nat.le_of_ble_eq_true rfl⟩) ⟨bY_blind, bY_pre hP hK hD hN hXX hNc hS hF⟩ rfl rfl hl.1 rfl (lv_room (Nat.le_of_ble_eq_true rfl)) dL_law_95 ⟨by show (kc + 86) + 2078 ≤ 600104; omega, by show 6 * (kc + 86) + 12468 ≤ 7301314; omega⟩) hS (fun q _ h => hF q h) (fun q h => hF q h) (fun r u t H1 lc ht hvm hw hB hz1 hk1 hS => ?_)
              obtain ⟨hw1, hw2⟩ := Prod.mk.inj hw; subst hw1; subst hw2
              rw [ht] at hB
              replace hP := hB
              replace hD := xWD_D T57.1 T57.2 hD
              refine W.widen (k := (kc + 2164)) (n := 6 * (kc + 2164)) (by omega) (by omega) ?_
              refine lv_if_eq (tgt := 105) hx hb dL_law_98 (by decide) (fun q59 => ?_) (fun q59 => ?_)
              · replace hM := zx_t q59 hM
                exact j105 v4 x37 x39 T57.1 T57.2 (kc + 2164) _ _ _ (by omega) hP hD hS (lv_sub hl [2, 3, 4, 6, 1, 0] rfl) hM
              · replace hM := zx_f q59 hM
                refine lv_iconst (v := 1) hx hb dL_law_101 (by decide) ?_
                refine lv_goto (tgt := 106) hx hb dL_law_102 (by decide) ?_
                exact j106 v4 x37 x39 1 T57.1 T57.2 (kc + 2164) _ _ _ (by omega) hP hD hS (lv_sub hl [2, 3, 4, 6, 1, 0] rfl) hM
