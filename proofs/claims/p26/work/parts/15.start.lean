/-! the law's start: two objects, then its loop -/
theorem zt_arr {args : Array Value} {s : State} {ty : FieldType} (hty : match ty with | .object _ => False | _ => True) (h : (Cond.arrayClass ty).before args s = true) : ∃ c : ClassId, ArrOfT s c ty ∧ va_RA s c ty := by
  obtain ⟨c, k, comp, h1, h2, h3⟩ := Cond.arrayClass_spec h
  refine ⟨c, fun n z => ⟨fun k h => (by cases h), k, h2, comp, h3⟩, ?_⟩
  cases ty <;> first | exact h1 | exact hty.elim
theorem zt_arq {args : Array Value} {s : State} {n : String} (h : (Cond.arrayOver (.object n)).before args s = true) : ∃ c : ClassId, ArrOfT s c (.object n) ∧ va_RA s c (.object n) := by
  obtain ⟨comp, c, k, h1, -, h2, h3, h4⟩ := Cond.arrayOver_spec h
  exact ⟨c, fun n z => ⟨fun k h => (by cases h), k, h2, comp, h3⟩, k, comp, h2, h3, h1, h4⟩
theorem zt_str {args : Array Value} {s : State} {i : Nat} {t : String} (h1 : (Cond.stringRef RX2 i t).before args s = true) (h2 : (Cond.exactly (.string RX2 i) "java/lang/String").before args s = true) : ∃ sa, vk_R RX2 i t sa s := by
  obtain ⟨a, c, cell, k, q1, -⟩ := Cond.exactly_spec (args := args) (first := s) (o := none) (s := s) (idx := []) h2
  exact ⟨a, vk_R.of h1 q1⟩
theorem zt_xw : ∀ w ∈ zx_xw, w ∈ lw_tbl := by decide +kernel
set_option maxRecDepth 100000 in
theorem zt_strs {args : Array Value} {s : State} (hts : ∀ w ∈ lw_tbl, w.before args s = true) (hg : ∀ c ∈ flatC (Jvm.Cond.and given_1 narrow_1), c.before args s = true) : ∀ i t, (i, t) ∈ zx_strs → ∃ sa, vk_R RX2 i t sa s := by
  intro i t h
  simp only [zx_strs, List.mem_cons, List.not_mem_nil, or_false, Prod.mk.injEq] at h
  rcases h with ⟨rfl, rfl⟩ | ⟨rfl, rfl⟩ | ⟨rfl, rfl⟩ | ⟨rfl, rfl⟩ | ⟨rfl, rfl⟩ | ⟨rfl, rfl⟩ | ⟨rfl, rfl⟩ | ⟨rfl, rfl⟩ | ⟨rfl, rfl⟩ | ⟨rfl, rfl⟩ | ⟨rfl, rfl⟩ | ⟨rfl, rfl⟩ | ⟨rfl, rfl⟩ | ⟨rfl, rfl⟩ | ⟨rfl, rfl⟩ | ⟨rfl, rfl⟩ | ⟨rfl, rfl⟩ | ⟨rfl, rfl⟩ | ⟨rfl, rfl⟩ | ⟨rfl, rfl⟩ | ⟨rfl, rfl⟩
  · exact zt_str (hts (.stringRef RX2 39 "no character") (by decide +kernel)) (hg (.exactly (.string RX2 39) "java/lang/String") (by decide +kernel))
  · exact zt_str (hts (.stringRef RX2 50 "the text is full") (by decide +kernel)) (hg (.exactly (.string RX2 50) "java/lang/String") (by decide +kernel))
  · exact zt_str (hts (.stringRef RX2 88 "what is not 0 to 7") (by decide +kernel)) (hg (.exactly (.string RX2 88) "java/lang/String") (by decide +kernel))
  · exact zt_str (hts (.stringRef RX2 96 "no such rectangle") (by decide +kernel)) (hg (.exactly (.string RX2 96) "java/lang/String") (by decide +kernel))
  · exact zt_str (hts (.stringRef RX2 99 "what is not 0 to 4") (by decide +kernel)) (hg (.exactly (.string RX2 99) "java/lang/String") (by decide +kernel))
  · exact zt_str (hts (.stringRef RX2 114 "no such node") (by decide +kernel)) (hg (.exactly (.string RX2 114) "java/lang/String") (by decide +kernel))
  · exact zt_str (hts (.stringRef RX2 116 "what is not 0 to 6") (by decide +kernel)) (hg (.exactly (.string RX2 116) "java/lang/String") (by decide +kernel))
  · exact zt_str (hts (.stringRef RX2 121 "k is negative") (by decide +kernel)) (hg (.exactly (.string RX2 121) "java/lang/String") (by decide +kernel))
  · exact zt_str (hts (.stringRef RX2 130 "no such box") (by decide +kernel)) (hg (.exactly (.string RX2 130) "java/lang/String") (by decide +kernel))
  · exact zt_str (hts (.stringRef RX2 132 "there are 24 rectangles") (by decide +kernel)) (hg (.exactly (.string RX2 132) "java/lang/String") (by decide +kernel))
  · exact zt_str (hts (.stringRef RX2 151 "the text is not rectangles") (by decide +kernel)) (hg (.exactly (.string RX2 151) "java/lang/String") (by decide +kernel))
  · exact zt_str (hts (.stringRef RX2 156 "there would be more than 24 rectangles") (by decide +kernel)) (hg (.exactly (.string RX2 156) "java/lang/String") (by decide +kernel))
  · exact zt_str (hts (.stringRef RX2 162 "dx or dy is not -99 to 99") (by decide +kernel)) (hg (.exactly (.string RX2 162) "java/lang/String") (by decide +kernel))
  · exact zt_str (hts (.stringRef RX2 168 "it would have cells that there are not") (by decide +kernel)) (hg (.exactly (.string RX2 168) "java/lang/String") (by decide +kernel))
  · exact zt_str (hts (.stringRef RX2 177 "no state is remembered") (by decide +kernel)) (hg (.exactly (.string RX2 177) "java/lang/String") (by decide +kernel))
  · exact zt_str (hts (.stringRef RX2 200 "no such cell") (by decide +kernel)) (hg (.exactly (.string RX2 200) "java/lang/String") (by decide +kernel))
  · exact zt_str (hts (.stringRef RX2 217 "n is not 1 or 2") (by decide +kernel)) (hg (.exactly (.string RX2 217) "java/lang/String") (by decide +kernel))
  · exact zt_str (hts (.stringRef RX2 223 "script is negative or too long") (by decide +kernel)) (hg (.exactly (.string RX2 223) "java/lang/String") (by decide +kernel))
  · exact zt_str (hts (.stringRef RX2 228 "m is not 1 to 60") (by decide +kernel)) (hg (.exactly (.string RX2 228) "java/lang/String") (by decide +kernel))
  · exact zt_str (hts (.stringRef RX2 237 "no such save slot") (by decide +kernel)) (hg (.exactly (.string RX2 237) "java/lang/String") (by decide +kernel))
  · exact zt_str (hts (.stringRef RX2 247 "nothing has been saved in it") (by decide +kernel)) (hg (.exactly (.string RX2 247) "java/lang/String") (by decide +kernel))
theorem zt_Nc {args : Array Value} {s : State} (hg : ∀ c ∈ flatC (Jvm.Cond.and given_1 narrow_1), c.before args s = true) : zx_Nc s := by
  have h12 : va_Nc "java/lang/IllegalArgumentException" "java/lang/IllegalStateException" s := va_Nc.of (hg (.not (.castable "java/lang/IllegalArgumentException" "java/lang/IllegalStateException")) (by decide +kernel))
  have h13 : va_Nc "java/lang/IllegalArgumentException" "java/lang/IndexOutOfBoundsException" s := va_Nc.of (hg (.not (.castable "java/lang/IllegalArgumentException" "java/lang/IndexOutOfBoundsException")) (by decide +kernel))
  have h21 : va_Nc "java/lang/IllegalStateException" "java/lang/IllegalArgumentException" s := va_Nc.of (hg (.not (.castable "java/lang/IllegalStateException" "java/lang/IllegalArgumentException")) (by decide +kernel))
  have h23 : va_Nc "java/lang/IllegalStateException" "java/lang/IndexOutOfBoundsException" s := va_Nc.of (hg (.not (.castable "java/lang/IllegalStateException" "java/lang/IndexOutOfBoundsException")) (by decide +kernel))
  have h31 : va_Nc "java/lang/IndexOutOfBoundsException" "java/lang/IllegalArgumentException" s := va_Nc.of (hg (.not (.castable "java/lang/IndexOutOfBoundsException" "java/lang/IllegalArgumentException")) (by decide +kernel))
  have h32 : va_Nc "java/lang/IndexOutOfBoundsException" "java/lang/IllegalStateException" s := va_Nc.of (hg (.not (.castable "java/lang/IndexOutOfBoundsException" "java/lang/IllegalStateException")) (by decide +kernel))
  rintro i j ⟨h1, h2⟩ ⟨h3, h4⟩ h5
  match i, j, h1, h2, h3, h4, h5 with
  | 1, 1, _, _, _, _, h5 => exact absurd rfl h5
  | 1, 2, _, _, _, _, h5 => exact h12
  | 1, 3, _, _, _, _, h5 => exact h13
  | 2, 1, _, _, _, _, h5 => exact h21
  | 2, 2, _, _, _, _, h5 => exact absurd rfl h5
  | 2, 3, _, _, _, _, h5 => exact h23
  | 3, 1, _, _, _, _, h5 => exact h31
  | 3, 2, _, _, _, _, h5 => exact h32
  | 3, 3, _, _, _, _, h5 => exact absurd rfl h5
set_option maxHeartbeats 16000000 in
set_option maxRecDepth 100000 in
theorem start_open {p : Program} {e : Env} {s : State} {m : MethodId} {below : List Frame} {meth : Method} {c : Code} (l : Launch) (hlt : l.stackTraces = false) {b L N : Nat} {xs : Nat → Int32} (hL : L ≤ 260) (C0 : lw_At p s m meth c b L xs) {R0 : zx_S} (hT : f_X1_clear N (fun _ _ => 0) = some R0) {R : Int32 × (zx_B × zx_B)} (hR : R.1 = 1) (hM : f_L_law_l21 N L xs 30 1 0 (zx_B0 R0) (zx_B0 R0) = some R) : W p l e room_1 s m #[Value.ref b] below meth c s.heap [] 0 0 (lw_Z below #[Value.ref b] s) (entryFrame m ([Value.ref b] : List Value).toArray 10) := by
  obtain ⟨hx, hb, hr, hml, hown, hts0, hX, hbl, hlocks, hgv⟩ := id C0
  have hg := flat_of_before _ hgv
  have hts : ∀ w ∈ wsL_law, w.before #[Value.ref b] s = true := fun w hw => hts0 w (wsL_law_in w hw)
  have hA : ∀ q : Nat, s.heap.size ≤ q → (fun q : Nat => s.heap.size ≤ q) q := fun _ h => h
  have hbA : ¬ (fun q : Nat => s.heap.size ≤ q) b := Nat.not_le.mpr hbl
  have hN : ∀ w ∈ zx_nw, va_Nw w s := fun w hw => va_Nw.of (zx_nw_on w hw) (hts0 w (zx_nw_in w hw))
  have hNc : zx_Nc s := zt_Nc hg
  have hTi : (Cond.initialized Bundle.tN).before #[Value.ref b] s = true := hts0 _ (by decide +kernel)
  have hXX : zx_X (fun q : Nat => s.heap.size ≤ q) s s.heap := ⟨vx_Zqof (hts0 (.laysStatic Bundle.tN "UNASSIGNED_STACK" Bundle.steD) (by decide +kernel)) hTi (hg (.isRef (.static Bundle.tN "UNASSIGNED_STACK" Bundle.steD)) (by decide +kernel)) (fun a h => Nat.not_le.mpr h), vx_Zqof (hts0 (.laysStatic Bundle.tN "SUPPRESSED_SENTINEL" Bundle.listD) (by decide +kernel)) hTi (hg (.isRef (.static Bundle.tN "SUPPRESSED_SENTINEL" Bundle.listD)) (by decide +kernel)) (fun a h => Nat.not_le.mpr h), fun w hw => va_Nw.of (zx_xw_on w hw) (hts0 w (zt_xw w hw)), zt_strs hts0 hg⟩
  have hAO : va_AO RX1 s := va_AO.of (hts0 (.arrayOver (.object RX1)) (by decide +kernel))
  obtain ⟨c0, i0, hKn0⟩ := u_known (C := RX0) (T := TX0) (N := 6) (n := 6) hts inlX0 (hts _ zw_1_22)
  obtain ⟨c1, i1, hKn1⟩ := u_known (C := RX1) (T := TX1) (N := 14) (n := 14) hts inlX1 (hts _ zw_1_13)
  obtain ⟨c2, i2, hKn2⟩ := u_known (C := RX2) (T := TX2) (N := 8) (n := 8) hts inlX2 (hts _ zw_1_1)
  obtain ⟨D, hKc⟩ : ∃ D : va_G, ∀ (k : Nat) (q : vw_C), vwCl[k]? = some q → u_Kn s q.1 q.2.1 q.2.2 (D.1 k) (D.2 k) := by
    refine ⟨(fun k => if k = 0 then c0 else if k = 1 then c1 else c2, fun k => if k = 0 then i0 else if k = 1 then i1 else i2), ?_⟩
    intro k q hq
    match k, hq with
    | 0, hq => cases hq; exact hKn0
    | 1, hq => cases hq; exact hKn1
    | 2, hq => cases hq; exact hKn2
    | k + 3, hq => simp [vwCl] at hq
  obtain ⟨cI, aI, rI⟩ := zt_arr (ty := .int) trivial (hts _ zw_1_19)
  obtain ⟨cT, aT, rT⟩ := zt_arq (va_AO.use (A := #[]) hAO)
  obtain ⟨cZ, hcZ⟩ : ∃ cZ : ClassId, cZ = cI := ⟨cI, rfl⟩
  have hK : va_K D vwCl (zx_ty cI cZ cT) s := ⟨hKc, fun k q hq => by
    match k, hq with
    | 0, hq => cases hq; exact ⟨aI, rI⟩
    | 1, hq => cases hq; exact ⟨aI, rI⟩
    | 2, hq => cases hq; exact ⟨aT, rT⟩
    | k + 3, hq => simp at hq⟩
  have hS : va_S (fun q : Nat => s.heap.size ≤ q) s.heap s.heap [] := va_S.rf
  have hP : va_P D vwCl [] s.heap := fun k q h => by simp at h
  have hD : va_D (fun q : Nat => s.heap.size ≤ q) [] := ⟨fun i j p q h => by simp at h, fun k q h => by simp at h⟩
  have hl := lv_entry ([.ref b]) (n := 10) (Nat.le_of_ble_eq_true rfl)
  rw [lg_entry_eq]
  generalize (lg_sl ([.ref b]) ++ List.replicate (10 - (lg_sl ([.ref b])).length) Slot.unset).toArray = ls at hl ⊢
  have hl : lv_has ls 10 [(0, .ref b)] := hl
  refine va_new (ci := 2) (fs := zx_o2) (C := RX2) (T := TX2) (N := 8) hx hb hts inlX2 tyX2 tyX2_ok hown (hts _ zw_1_0) (hts _ zw_1_1) (hts _ zw_1_2) hK hP hD hS hA rfl (by decide +kernel) (Nat.le_of_ble_eq_true rfl) (Nat.le_of_ble_eq_true rfl) dL_law_0 (fun h H hP hD hS => ?_)
  replace hP : va_P D vwCl ([] ++ [(h, .inr (2, zx_o2))]) H := hP
  replace hD : va_D (fun q : Nat => s.heap.size ≤ q) ([] ++ [(h, .inr (2, zx_o2))]) := hD
  refine lv_dup hx hb dL_law_3 rfl ?_
  have hF0 := zx_fW hD hS hA
  refine va_callv (va_runI (As := []) (rest := [.ref h]) ⟨hx, hb, hml, hown, hts⟩ (c_X2_init l D cI cZ cT h _ N hT) (cwI 0 hts (zg_c zw_1_8) rfl rfl rfl (hts _ zw_1_2) (hts _ zw_1_6) (hts _ zw_1_7) rfl zyX2_init ⟨Nat.le_of_ble_eq_true rfl, Nat.le_of_ble_eq_true rfl⟩) ⟨fun a U g mk q => ⟨q.1, bS_blind (av := [.ref h]) a U g mk ⟨q.1, q.2.1⟩ |>.2, va_AO.moved (u := U) (U := U.calling g mk a) (Vm.Alike.refl U.vm) q.2.2⟩, fun U hU hW => ⟨rfl, (bS_pre (av := [.ref h]) hP hK hD hN U hU hW).2, va_AO.moved hW.alike hAO⟩⟩ rfl rfl hl.1 rfl (lv_room (Nat.le_of_ble_eq_true rfl)) dL_law_4 ⟨Nat.le_of_ble_eq_true rfl, Nat.le_of_ble_eq_true rfl⟩) hS (fun q _ h => hF0 q h) hF0 (fun u t H1 lc1 ht hvm hw hB hz1 hk1 hS => ?_)
  obtain ⟨hh, aa⟩ := u
  rw [ht] at hB
  obtain ⟨hP, hD⟩ := zx_grow hP hD hk1 hF0 hB.1 hB.2
  refine lv_astore_n (lv' := [(1, .ref h), (0, .ref b)]) hx hb dL_law_7 rfl hl (by decide) rfl (fun ls hl => ?_)
  refine va_new (ci := 2) (fs := zx_o2) (C := RX2) (T := TX2) (N := 8) hx hb hts inlX2 tyX2 tyX2_ok hown (hts _ zw_1_0) (hts _ zw_1_1) (hts _ zw_1_2) hK hP hD hS hA rfl (by decide +kernel) (Nat.le_of_ble_eq_true rfl) (Nat.le_of_ble_eq_true rfl) dL_law_8 (fun h2 H hP hD hS => ?_)
  refine lv_dup hx hb dL_law_11 rfl ?_
  have hpl : (([] ++ xW2 cI cT h hh aa (zx_B0 R0)) ++ [(h2, (.inr (2, zx_o2) : va_E))])[([] ++ xW2 cI cT h hh aa (zx_B0 R0)).length]? = some (h2, .inr (2, zx_o2)) := by simp
  have hPc := zx_P1 hP _ hpl
  have hDc := zx_D1 hD _ hpl
  have hF1 := fun q z => zx_f1 hD hS hA hpl q z
  refine va_callv (va_runI (As := []) (rest := [.ref h2]) ⟨hx, hb, hml, hown, hts⟩ (c_X2_init l D cI cZ cT h2 _ N hT) (cwI 0 hts (zg_c zw_1_8) rfl rfl rfl (hts _ zw_1_2) (hts _ zw_1_6) (hts _ zw_1_7) rfl zyX2_init ⟨Nat.le_of_ble_eq_true rfl, Nat.le_of_ble_eq_true rfl⟩) ⟨fun a U g mk q => ⟨q.1, bS_blind (av := [.ref h2]) a U g mk ⟨q.1, q.2.1⟩ |>.2, va_AO.moved (u := U) (U := U.calling g mk a) (Vm.Alike.refl U.vm) q.2.2⟩, fun U hU hW => ⟨rfl, (bS_pre (av := [.ref h2]) hPc hK hDc hN U hU hW).2, va_AO.moved hW.alike hAO⟩⟩ rfl rfl hl.1 rfl (lv_room (Nat.le_of_ble_eq_true rfl)) dL_law_12 ⟨Nat.le_of_ble_eq_true rfl, Nat.le_of_ble_eq_true rfl⟩) hS (fun q _ h => hF1 q h) hF1 (fun u2 t H1 lc1 ht hvm hw hB hz1 hk1 hS => ?_)
  obtain ⟨hh2, aa2⟩ := u2
  rw [ht] at hB
  obtain ⟨hP, hD⟩ := zx_grow hP hD hk1 hF1 hB.1 hB.2
  replace hP : va_P D vwCl (xWD cI cT h hh aa h2 hh2 aa2 (zx_B0 R0) (zx_B0 R0)) _ := hP
  replace hD : va_D (fun q : Nat => s.heap.size ≤ q) (xWD cI cT h hh aa h2 hh2 aa2 (zx_B0 R0) (zx_B0 R0)) := hD
  refine lv_astore_n (lv' := [(2, .ref h2), (1, .ref h), (0, .ref b)]) hx hb dL_law_15 rfl hl (by decide) rfl (fun ls hl => ?_)
  refine lv_iconst (v := 1) hx hb dL_law_16 (by decide) ?_
  refine lv_istore_n (lv' := [(3, .int 1), (2, .ref h2), (1, .ref h), (0, .ref b)]) hx hb dL_law_17 rfl hl (by decide) rfl (fun ls hl => ?_)
  refine lv_iconst (v := 0) hx hb dL_law_18 (by decide) ?_
  refine lv_istore (lv' := [(4, .int 0), (3, .int 1), (2, .ref h2), (1, .ref h), (0, .ref b)]) hx hb dL_law_19 hl (by decide) rfl (fun ls hl => ?_)
  refine W.widen (k := 10000) (n := 6 * 10000) (Nat.le_of_ble_eq_true rfl) (Nat.le_of_ble_eq_true rfl) ?_
  exact law_loop hL hlt C0 hK hN hXX hNc hR 30 1 0 (zx_B0 R0) (zx_B0 R0) 10000 _ _ ls (by omega) hP hD hS (lv_sub hl [4, 3, 2, 1, 0] rfl) hM
