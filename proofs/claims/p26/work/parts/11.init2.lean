/-! ShallowBoxes(), by hand: the trees come one behind another at the world's end -/
theorem zx_permP {D : va_G} {cl : List vw_C} {ws ws' : va_W} {H : Heap} (h : ws.Perm ws') (hP : va_P D cl ws H) : va_P D cl ws' H := fun k q hk => by
  obtain ⟨i, hi⟩ := List.getElem?_of_mem (h.mem_iff.mpr (List.mem_of_getElem? hk))
  exact hP i q hi
theorem zx_Dn {A : Nat → Prop} {ws : va_W} : va_D A ws ↔ (ws.map Prod.fst).Nodup ∧ ∀ q ∈ ws, A q.1 := by
  constructor
  · intro h
    refine ⟨List.pairwise_iff_getElem.mpr (fun i j hi hj hij e => ?_), fun q hq => ?_⟩
    · rw [List.length_map] at hi hj
      rw [List.getElem_map, List.getElem_map] at e
      have := h.1 i j _ _ (List.getElem?_eq_getElem hi) (List.getElem?_eq_getElem hj) e
      omega
    · obtain ⟨i, hi⟩ := List.getElem?_of_mem hq
      exact h.2 i q hi
  · rintro ⟨h1, h2⟩
    refine ⟨fun i j p q hi hj hpq => ?_, fun k q hk => h2 q (List.mem_of_getElem? hk)⟩
    have h1 := List.pairwise_iff_getElem.mp h1
    obtain ⟨li, ei⟩ := List.getElem?_eq_some_iff.mp hi
    obtain ⟨lj, ej⟩ := List.getElem?_eq_some_iff.mp hj
    have e : (ws.map Prod.fst)[i]'(by rw [List.length_map]; exact li) = (ws.map Prod.fst)[j]'(by rw [List.length_map]; exact lj) := by rw [List.getElem_map, List.getElem_map, ei, ej]; exact hpq
    rcases Nat.lt_trichotomy i j with c | c | c
    · exact absurd e (h1 i j _ _ c)
    · exact c
    · exact absurd e.symm (h1 j i _ _ c)
theorem zx_permD {A : Nat → Prop} {ws ws' : va_W} (h : ws.Perm ws') (hD : va_D A ws) : va_D A ws' := by
  rw [zx_Dn] at hD ⊢
  exact ⟨(h.map Prod.fst).nodup_iff.mp hD.1, fun q hq => hD.2 q (h.mem_iff.mpr hq)⟩
theorem zx_grow {D : va_G} {cl : List vw_C} {A : Nat → Prop} {ws w1 : va_W} {x : Nat × va_E} {H H1 : Heap} (hP : va_P D cl (ws ++ [x]) H) (hD : va_D A (ws ++ [x])) (hk : ∀ q : Nat, q < H.size → ¬ va_A [x] H.size q → H1[q]? = H[q]?) (hF : ∀ q, va_A [x] H.size q → A q) (hB : va_P D cl w1 H1) (hD1 : va_D (va_A [x] H.size) w1) : va_P D cl (ws ++ w1) H1 ∧ va_D A (ws ++ w1) := by
  have hx : (ws ++ [x])[ws.length]? = some x := by simp
  have key : ∀ (k : Nat) (q : Nat × va_E), ws[k]? = some q → (ws ++ [x])[k]? = some q ∧ q.1 < H.size ∧ ¬ va_A [x] H.size q.1 := by
    intro k q hk'
    have lk := (List.getElem?_eq_some_iff.mp hk').1
    have h1 : (ws ++ [x])[k]? = some q := by rw [List.getElem?_append_left lk]; exact hk'
    have hlt := (hP k q h1).lt
    refine ⟨h1, hlt, ?_⟩
    rintro (⟨j, e9, hj⟩ | hj)
    · match j, hj with
      | 0, hj =>
        have z : x = (q.1, e9) := Option.some.inj hj
        have e : x.1 = q.1 := by rw [z]
        have := hD.1 ws.length k x q hx h1 e
        omega
      | j + 1, hj => simp at hj
    · omega
  refine ⟨va_P.app (fun k q hq => ?_) hB, va_D.app ⟨fun i j p q hi hj => hD.1 i j p q (key i p hi).1 (key j q hj).1, fun k q hq => hD.2 k q (key k q hq).1⟩ (hD1.weaken (fun k q _ h => hF q.1 h)) (fun i j p q hp hq e => ?_)⟩
  · obtain ⟨h1, h2, h3⟩ := key k q hq
    exact (hP k q h1).kept (hk q.1 h2 h3)
  · exact (key i p hp).2.2 (by rw [e]; exact hD1.2 j q hq)
theorem zx_tr_congr3 {cI : ClassId} {hh hh' : Nat → Nat} {aa aa' : Nat → Nat → Nat} {B : zx_B} : ∀ n, (∀ j, j < n → hh j = hh' j ∧ aa j = aa' j) → zx_tr cI hh aa B n = zx_tr cI hh' aa' B n
  | 0, _ => by rw [zx_tr_0, zx_tr_0]
  | n + 1, h => by
    rw [zx_tr_s, zx_tr_s, zx_tr_congr3 n (fun j hj => h j (by omega)), (h n (by omega)).1, (h n (by omega)).2]
theorem zx_tr_up {cI : ClassId} {hh : Nat → Nat} {aa : Nat → Nat → Nat} {B : zx_B} {n q : Nat} {ad : Nat → Nat} : zx_tr cI hh aa B n ++ xW1 cI q ad (B n) = zx_tr cI (va_up hh n q) (va_up aa n ad) B (n + 1) := by
  rw [zx_tr_s, zx_tr_congr3 (hh' := va_up hh n q) (aa' := va_up aa n ad) n (fun j hj => ⟨(va_up_ne _ _ (by omega)).symm, (va_up_ne _ _ (by omega)).symm⟩), va_up_self, va_up_self]
theorem zx_rows {c : ClassId} {n : Nat} {f g : Nat → Option Nat} (h : ∀ i, i < n → f i = g i) : vp_cell c (n, .inr (.inr (.inr (.inr f)))) = vp_cell c (n, .inr (.inr (.inr (.inr g)))) := by
  show arrV c n (fun j => va_rf (f j)) = arrV c n (fun j => va_rf (g j))
  unfold arrV
  congr 1
  congr 1
  funext j
  show va_rf (f j.val) = va_rf (g j.val)
  rw [h j.val j.isLt]
theorem zx_tr_last {cI : ClassId} {hh : Nat → Nat} {aa : Nat → Nat → Nat} {B : zx_B} {n q nh : Nat} {ad : Nat → Nat} {hd : va_W} (hn : hd.length = nh) : ∃ fs, (hd ++ zx_tr cI (va_up hh n q) (va_up aa n ad) B (n + 1))[nh + 11 * n]? = some (q, .inr (1, fs)) := by
  have h0 : ∀ (h : Nat) (ad : Nat → Nat) (S : zx_S), ∃ fs, (xW1 cI h ad S)[0]? = some (h, .inr (1, fs)) := fun h ad S => ⟨_, rfl⟩
  obtain ⟨fs, hf⟩ := h0 q ad (B n)
  refine ⟨fs, ?_⟩
  rw [List.getElem?_append_right (by omega), hn, show nh + 11 * n - nh = 11 * n + 0 by omega, zx_tr_at (by omega) _ (Nat.lt_succ_self _), va_up_self, va_up_self]
  exact hf
section NT
variable {p : Program} {l : Launch} {e : Env} {Rm : Room} {s : State} {m : MethodId} {args : Array Value} {below : List Frame} {meth : Method} {c : Code} {H H0 : Heap} {lc : List Loc} {cells slots : Nat} {Q : State → Prop}
set_option maxHeartbeats 4000000 in
set_option maxRecDepth 100000 in
/-- new Tree(): one tree more -/
theorem x2_newT {pc : Nat} {ls : Array Slot} {st : List Value} {D : va_G} {cI cZ cT : ClassId} {A : Nat → Prop} {hd : va_W} {n N : Nat} {hh : Nat → Nat} {aa : Nat → Nat → Nat} {B : zx_B} {R : zx_S}
    (hx : p.tables.exec = Jvm.exec) (hb : c.code = cX2_init) (hml : c.maxLocals = 2) (hown : s.vm.findClass RX2 = some m.cls) (hts : ∀ w ∈ wsL_law, w.before args s = true) (hN : ∀ w ∈ zx_nw, va_Nw w s) (hK : va_K D vwCl (zx_ty cI cZ cT) s) (hA : ∀ q, H0.size ≤ q → A q)
    (hM : f_X1_clear N (fun _ _ => 0) = some R) (hBn : B n = R) (hP : va_P D vwCl (hd ++ zx_tr cI hh aa B n) H) (hD : va_D A (hd ++ zx_tr cI hh aa B n)) (hS : va_S A H0 H lc) (hls : ls.size = 2)
    (d0 : decode cX2_init pc = .ok (.new 9, 3)) (d3 : decode cX2_init (pc + 3) = .ok (.dup, 1)) (d4 : decode cX2_init (pc + 3 + 1) = .ok (.invokespecial 11, 3)) (hst : (st.map fun v => v.category).sum ≤ 7) (hc : cells + 11 ≤ Rm.cells) (hs : slots + 671 ≤ Rm.slots) (hf : 4 ≤ Rm.frames) (hlo : 85 ≤ Rm.locals)
    (kk : ∀ (q : Nat) (ad : Nat → Nat) (H1 : Heap) (lc1 : List Loc), va_P D vwCl (hd ++ zx_tr cI (va_up hh n q) (va_up aa n ad) B (n + 1)) H1 → va_D A (hd ++ zx_tr cI (va_up hh n q) (va_up aa n ad) B (n + 1)) → va_S A H0 H1 lc1 → W p l e Rm s m args below meth c H1 lc1 (cells + 11) (slots + 671) Q (F0 m (pc + 7) ls (.ref q :: st))) : W p l e Rm s m args below meth c H lc cells slots Q (F0 m pc ls st) := by
  refine va_new (ci := 1) (fs := [.null, .null, .null, .null, .null, .int 0, .int 0, .int 0, .int 0, .null, .null, .null, .null, .null]) (C := RX1) (T := TX1) (N := 14) hx hb hts inlX1 tyX1 tyX1_ok hown (hts _ zw_1_12) (hts _ zw_1_13) (hts _ zw_1_14) hK hP hD hS hA rfl (by decide +kernel) (by omega) (by omega) d0 (fun q H hP hD hS => ?_)
  refine lv_dup hx hb d3 rfl ?_
  have hpl : ((hd ++ zx_tr cI hh aa B n) ++ [(q, (.inr (1, [.null, .null, .null, .null, .null, .int 0, .int 0, .int 0, .int 0, .null, .null, .null, .null, .null]) : va_E))])[(hd ++ zx_tr cI hh aa B n).length]? = some (q, .inr (1, [.null, .null, .null, .null, .null, .int 0, .int 0, .int 0, .int 0, .null, .null, .null, .null, .null])) := by simp
  have hPc := zx_P1 hP _ hpl
  have hDc := zx_D1 hD _ hpl
  have hF0 := fun q h => zx_f1 hD hS hA hpl q h
  refine va_callv (va_runI (As := []) (rest := .ref q :: st) ⟨hx, hb, hml, hown, hts⟩ (c_X1_init l D cI cZ cT q _ N hM) (cwI 0 hts (zg_c zw_2_3) rfl rfl rfl (hts _ zw_1_14) (hts _ zw_2_1) (hts _ zw_2_2) rfl zyX1_init ⟨hf, hlo⟩) ⟨bS_blind, bS_pre hPc hK hDc hN⟩ rfl rfl hls rfl (lv_room (by show (1 + (st.map fun v => v.category).sum) ≤ 8; omega)) d4 ⟨by omega, by omega⟩) hS (fun q _ h => hF0 q h) hF0 (fun ad t H1 lc1 ht hvm hw hB hz1 hk1 hS => ?_)
  rw [ht] at hB
  obtain ⟨hP2, hD2⟩ := zx_grow hP hD hk1 hF0 hB.1 hB.2
  rw [List.append_assoc, ← hBn, zx_tr_up] at hP2 hD2
  exact kk q ad H1 lc1 hP2 hD2 hS
end NT

abbrev zsX2_init : List Cond := .code yX2_init cX2_init 2 none :: wsL_law
theorem zyX2_init : yX2_init.cls ≠ "java/lang/invoke/MethodHandle" ∧ yX2_init.cls ≠ "java/lang/invoke/VarHandle" ∧ (parseMethodDescriptor yX2_init.desc).map (fun d => d.parameters.length) = some 0 := by decide +kernel
abbrev rmX2_init : Room := { frames := 4, cells := 204, slots := 12258, locals := 85 }
def zx_B0 (R : zx_S) : zx_B := fun j => if j < 18 then R else fun _ _ => 0
abbrev zx_o2 : List Value := [.null, .null, .null, .int 0, .int 0, .null, .null, .null]
def x2_f (hh : Nat → Nat) (o c : Nat) : Nat → Option Nat := fun i => if i < c then some (hh (o + i)) else none
theorem x2_f_up {hh : Nat → Nat} {o c q : Nat} : va_up (x2_f hh o c) c (some q) = x2_f (va_up hh (o + c) q) o (c + 1) := by
  funext i
  unfold x2_f
  by_cases h : i = c
  · subst h
    rw [va_up_self, if_pos (by omega), va_up_self]
  · rw [va_up_ne _ _ h]
    by_cases h2 : i < c
    · rw [if_pos h2, if_pos (by omega), va_up_ne _ _ (by omega)]
    · rw [if_neg h2, if_neg (by omega)]
theorem zx_mv {hd tr : va_W} {x : Nat × va_E} : ((hd ++ tr) ++ [x]).Perm ((hd ++ [x]) ++ tr) := by
  rw [List.append_assoc, List.append_assoc]
  exact List.Perm.append_left hd List.perm_append_comm
theorem nI_of0 (n : Nat) : Int32.ofNat n = nI n := rfl
set_option maxHeartbeats 8000000 in
set_option maxRecDepth 100000 in
theorem c_X2_init (l : Launch) (D : va_G) (cI cZ cT : ClassId) (h : Nat) (sz : Nat) (N : Nat) {R : zx_S} (hM : f_X1_clear N (fun _ _ => 0) = some R) : Met l yX2_init zsX2_init rmX2_init (va_Pc [.ref h] (fun U => bS D (zx_ty cI cZ cT) [(h, .inr (2, zx_o2))] sz U ∧ va_AO RX1 U)) (va_Qv (fun _ : (Nat → Nat) × (Nat → Nat → Nat) => True) (fun u t => va_P D vwCl (xW2 cI cT h u.1 u.2 (zx_B0 R)) t.heap ∧ va_D (va_A [(h, .inr (2, zx_o2))] sz) (xW2 cI cT h u.1 u.2 (zx_B0 R))) (va_A [(h, .inr (2, zx_o2))] sz)) 204 12258 (va_A [(h, .inr (2, zx_o2))] sz) := by
  refine Met.ofW (cc := cX2_init) (maxL := 2) (ret := none) (by decide) rfl ?_
  intro p e s m args below meth c s₁ B hml hv
  obtain ⟨rfl, ⟨hsz, hP, hK, hD0, hN⟩, hAO⟩ := hv
  have hx := B.exec
  have hb := B.bytes
  have hr := B.returns
  have hts : ∀ w ∈ wsL_law, w.before _ s = true := fun w hw => atoms_spec (ws := zsX2_init) B.pre w (List.mem_cons_of_mem _ hw)
  have hown : s.vm.findClass RX2 = some m.cls := findClass_of_methodNamed B.named
  have hlocks := B.notSynchronized
  have hin : meth.name = "<init>" := (name_of_methodNamed B.named B.method).1
  subst hsz
  have hD := hD0.self (sz := s.heap.size)
  generalize hAe : va_A [(h, .inr (2, zx_o2))] s.heap.size = A at hD ⊢
  have hA : ∀ q : Nat, s.heap.size ≤ q → A q := fun q h => by rw [← hAe]; exact Or.inr h
  have hS : va_S A s.heap s.heap [] := va_S.rf
  have hl := lv_entry ([.ref h]) (n := 2) (Nat.le_of_ble_eq_true rfl)
  rw [lg_entry_eq]
  generalize (lg_sl ([.ref h]) ++ List.replicate (2 - (lg_sl ([.ref h])).length) Slot.unset).toArray = ls at hl ⊢
  have hl : lv_has ls 2 [(0, .ref h)] := hl
  generalize hQ : MQ below (va_Qv (fun _ : (Nat → Nat) × (Nat → Nat → Nat) => True) (fun u t => va_P D vwCl (xW2 cI cT h u.1 u.2 (zx_B0 R)) t.heap ∧ va_D A (xW2 cI cT h u.1 u.2 (zx_B0 R))) A) ([.ref h] : List Value).toArray s 204 12258 A = Q9
  replace hQ := hQ.symm
  have hB : ∀ n, n < 18 → zx_B0 R n = R := fun n hn => if_pos hn
  -- from 103: slotUsed, the text, the end
  have j103 : ∀ (hh : Nat → Nat) (aa : Nat → Nat → Nat) (u0 u1 r1 r2 : Nat) (H : Heap) (lc : List Loc) (ls : Array Slot), hh 0 = u0 → hh 1 = u1 → va_P D vwCl ([(h, .inr (2, [.ref u0, .ref u1, .ref r1, .int 0, .int 0, .ref r2, .null, .null])), (r1, .inl (cT, 14, .inr (.inr (.inr (.inr (x2_f hh 2 14)))))), (r2, .inl (cT, 2, .inr (.inr (.inr (.inr (x2_f hh 16 2))))))] ++ zx_tr cI hh aa (zx_B0 R) 18) H → va_D A ([(h, .inr (2, [.ref u0, .ref u1, .ref r1, .int 0, .int 0, .ref r2, .null, .null])), (r1, .inl (cT, 14, .inr (.inr (.inr (.inr (x2_f hh 2 14)))))), (r2, .inl (cT, 2, .inr (.inr (.inr (.inr (x2_f hh 16 2))))))] ++ zx_tr cI hh aa (zx_B0 R) 18) → va_S A s.heap H lc → lv_has ls 2 [(0, .ref h)] → W p l e (headSpec zsX2_init rmX2_init).room s m ([.ref h] : List Value).toArray below meth c H lc 200 12094 Q9 (F0 m 103 ls []) := by
    intro hh aa u0 u1 r1 r2 H lc ls eu0 eu1 hP hD hS hl
    subst eu0
    subst eu1
    refine lv_aload_n hx hb dX2_init_103 rfl (lv_at hl 0 rfl) ?_
    refine lv_iconst (v := 2) hx hb dX2_init_104 (by decide) ?_
    refine va_newa (atype := .int) (ty := .int) (N' := 2) (a0 := (2, .inl (fun _ => 0))) hx hb (hts _ zw_1_19) rfl hK hP hD hS hA (fun _ => rfl) (by decide) (by decide) (by decide) (Nat.le_of_ble_eq_true rfl) (Nat.le_of_ble_eq_true rfl) dX2_init_105 (fun q cA H hK2 hP hD hS => ?_)
    rw [zx_cI hK2] at hP hD
    replace hP := zx_permP zx_mv hP
    replace hD := zx_permD zx_mv hD
    refine va_putF (D := D) (ci := 2) (v := .ref q) (ty := .array .int) (C := RX2) (T := TX2) (N := 8) hx hb hts inlX2 tyX2 tyX2_ok nmX2 hown hK hP hD hS 0 rfl rfl 6 (by decide) (hts _ zw_1_20) (fun _ h9 => h9) rfl hin rfl (by decide +kernel) rfl rfl (Nat.le_of_ble_eq_true rfl) dX2_init_107 (fun H lc hP hD hS => ?_)
    replace hP : va_P D vwCl ([(h, .inr (2, [.ref (hh 0), .ref (hh 1), .ref r1, .int 0, .int 0, .ref r2, .ref q, .null])), (r1, .inl (cT, 14, .inr (.inr (.inr (.inr (x2_f hh 2 14)))))), (r2, .inl (cT, 2, .inr (.inr (.inr (.inr (x2_f hh 16 2)))))), (q, .inl (cI, 2, .inl (fun _ => 0)))] ++ zx_tr cI hh aa (zx_B0 R) 18) H := hP
    replace hD : va_D A ([(h, .inr (2, [.ref (hh 0), .ref (hh 1), .ref r1, .int 0, .int 0, .ref r2, .ref q, .null])), (r1, .inl (cT, 14, .inr (.inr (.inr (.inr (x2_f hh 2 14)))))), (r2, .inl (cT, 2, .inr (.inr (.inr (.inr (x2_f hh 16 2)))))), (q, .inl (cI, 2, .inl (fun _ => 0)))] ++ zx_tr cI hh aa (zx_B0 R) 18) := hD
    refine lv_aload_n hx hb dX2_init_110 rfl (lv_at hl 0 rfl) ?_
    refine va_new (ci := 0) (fs := [.null, .int 0, .null, .int 0, .int 0, .int 0]) (C := RX0) (T := TX0) (N := 6) hx hb hts inlX0 tyX0 tyX0_ok hown (hts _ zw_1_21) (hts _ zw_1_22) (hts _ zw_1_23) hK hP hD hS hA rfl (by decide +kernel) (Nat.le_of_ble_eq_true rfl) (Nat.le_of_ble_eq_true rfl) dX2_init_111 (fun x H hP hD hS => ?_)
    refine lv_dup hx hb dX2_init_114 rfl ?_
    generalize hhd : ([(h, .inr (2, [.ref (hh 0), .ref (hh 1), .ref r1, .int 0, .int 0, .ref r2, .ref q, .null])), (r1, .inl (cT, 14, .inr (.inr (.inr (.inr (x2_f hh 2 14)))))), (r2, .inl (cT, 2, .inr (.inr (.inr (.inr (x2_f hh 16 2)))))), (q, .inl (cI, 2, .inl (fun _ => 0)))] : va_W) = hd at hP hD
    have hpl : ((hd ++ zx_tr cI hh aa (zx_B0 R) 18) ++ [(x, (.inr (0, [.null, .int 0, .null, .int 0, .int 0, .int 0]) : va_E))])[(hd ++ zx_tr cI hh aa (zx_B0 R) 18).length]? = some (x, .inr (0, [.null, .int 0, .null, .int 0, .int 0, .int 0])) := by simp
    have hPc := zx_P1 hP _ hpl
    have hDc := zx_D1 hD _ hpl
    have hF0 := fun q h => zx_f1 hD hS hA hpl q h
    refine va_callv (va_runIN (As := []) (rest := [.ref x, .ref h]) ⟨hx, hb, hml, hown, hts⟩ (c_X0_init l D cI cZ cT x _ N) ⟨va_cnB 0 hts (zg_c zw_3_8) rfl rfl rfl (hN _ zx_nw_X2_32) (hts _ zw_1_23) zyX0_init ⟨Nat.le_of_ble_eq_true rfl, Nat.le_of_ble_eq_true rfl⟩, rfl, (hts _ zw_3_7)⟩ ⟨bS_blind, bS_pre hPc hK hDc hN⟩ rfl rfl hl.1 rfl (lv_room (Nat.le_of_ble_eq_true rfl)) dX2_init_115 ⟨Nat.le_of_ble_eq_true rfl, Nat.le_of_ble_eq_true rfl⟩) hS (fun q _ h => hF0 q h) hF0 (fun ad t H1 lc1 ht hvm hw hB hz1 hk1 hS => ?_)
    rw [ht] at hB
    obtain ⟨hP, hD⟩ := zx_grow hP hD hk1 hF0 hB.1 hB.2
    subst hhd
    have pm : ∀ {hd tr w : va_W}, ((hd ++ tr) ++ w).Perm ((hd ++ w) ++ tr) := fun {hd tr w} => by
      rw [List.append_assoc, List.append_assoc]
      exact List.Perm.append_left hd List.perm_append_comm
    replace hP := zx_permP pm hP
    replace hD := zx_permD pm hD
    refine va_putF (D := D) (ci := 2) (v := .ref x) (ty := .object RX0) (C := RX2) (T := TX2) (N := 8) hx hb hts inlX2 tyX2 tyX2_ok nmX2 hown hK hP hD hS 0 rfl rfl 7 (by decide) (hts _ zw_2_0) (fun _ h9 => h9) rfl hin rfl (by decide +kernel) rfl rfl (Nat.le_of_ble_eq_true rfl) dX2_init_118 (fun H lc hP hD hS => ?_)
    obtain ⟨h3, eh⟩ : ∃ h3 : Nat → Nat, h3 = fun j => if j = 18 then x else hh j := ⟨_, rfl⟩
    obtain ⟨a3, ea⟩ : ∃ a3 : Nat → Nat → Nat, a3 = fun j => if j = 18 then ad else if j = 19 then (fun k => if k = 0 then q else if k = 1 then r1 else r2) else aa j := ⟨_, rfl⟩
    have etr : zx_tr cI hh aa (zx_B0 R) 18 = zx_tr cI h3 a3 (zx_B0 R) 18 := zx_tr_congr3 18 (fun j hj => by subst eh; subst ea; exact ⟨(if_neg (by omega)).symm, ((if_neg (by omega)).trans (if_neg (by omega))).symm⟩)
    rw [etr] at hP hD
    have e1 : vp_cell cT (14, .inr (.inr (.inr (.inr (x2_f hh 2 14))))) = vp_cell cT (14, .inr (.inr (.inr (.inr (fun i => some (h3 (2 + i))))))) := zx_rows (fun i hi => by subst eh; unfold x2_f; rw [if_pos hi]; show some (hh (2 + i)) = some (if 2 + i = 18 then x else hh (2 + i)); rw [if_neg (by omega)])
    have e2 : vp_cell cT (2, .inr (.inr (.inr (.inr (x2_f hh 16 2))))) = vp_cell cT (2, .inr (.inr (.inr (.inr (fun i => some (h3 (16 + i))))))) := zx_rows (fun i hi => by subst eh; unfold x2_f; rw [if_pos hi]; show some (hh (16 + i)) = some (if 16 + i = 18 then x else hh (16 + i)); rw [if_neg (by omega)])
    have pm2 : ∀ {a b c d : Nat × va_E} {r : va_W}, (a :: b :: c :: d :: r).Perm (a :: d :: b :: c :: r) := fun {a b c d r} => List.Perm.cons a (((List.Perm.swap d c r).cons b).trans (List.Perm.swap d b (c :: r)))
    replace hP := zx_permP pm2 hP
    replace hD := zx_permD pm2 hD
    have hPx : va_P D vwCl (xW2 cI cT h h3 a3 (zx_B0 R)) H := by
      intro k z hz
      match k, hz with
      | 0, hz => cases hz; have := hP 0 _ rfl; subst eh; subst ea; exact this
      | 1, hz => cases hz; have := hP 1 _ rfl; subst eh; subst ea; exact this
      | 2, hz =>
        cases hz
        have := hP 2 _ rfl
        have this : H[r1]? = some (vp_cell cT (14, .inr (.inr (.inr (.inr (x2_f hh 2 14)))))) := this
        rw [e1] at this
        subst ea
        exact this
      | 3, hz =>
        cases hz
        have := hP 3 _ rfl
        have this : H[r2]? = some (vp_cell cT (2, .inr (.inr (.inr (.inr (x2_f hh 16 2)))))) := this
        rw [e2] at this
        subst ea
        exact this
      | 4, hz => cases hz; have := hP 4 _ rfl; subst eh; subst ea; exact this
      | 5, hz => cases hz; have := hP 5 _ rfl; subst eh; subst ea; exact this
      | 6, hz => cases hz; have := hP 6 _ rfl; subst eh; subst ea; exact this
      | k + 7, hz => exact hP (k + 7) z hz
    have hDx : va_D A (xW2 cI cT h h3 a3 (zx_B0 R)) := zx_Deq (by subst eh; subst ea; rfl) hD
    rw [hQ]
    exact W.vret hx hb hr (fun t ht hW => ⟨⟨(h3, a3), rfl, trivial, by show va_P D vwCl _ t.heap; rw [ht]; exact hPx, hDx⟩, hS.F ht⟩) hS.2.2 dX2_init_121

  have l75 : ∀ (k i : Nat), i + k = 2 → ∀ (hh : Nat → Nat) (aa : Nat → Nat → Nat) (u0 u1 r1 r2 : Nat) (H : Heap) (lc : List Loc) (ls : Array Slot), hh 0 = u0 → hh 1 = u1 → va_P D vwCl ([(h, .inr (2, [.ref u0, .ref u1, .ref r1, .int 0, .int 0, .ref r2, .null, .null])), (r1, .inl (cT, 14, .inr (.inr (.inr (.inr (x2_f hh 2 14)))))), (r2, .inl (cT, 2, .inr (.inr (.inr (.inr (x2_f hh 16 i))))))] ++ zx_tr cI hh aa (zx_B0 R) (16 + i)) H → va_D A ([(h, .inr (2, [.ref u0, .ref u1, .ref r1, .int 0, .int 0, .ref r2, .null, .null])), (r1, .inl (cT, 14, .inr (.inr (.inr (.inr (x2_f hh 2 14)))))), (r2, .inl (cT, 2, .inr (.inr (.inr (.inr (x2_f hh 16 i))))))] ++ zx_tr cI hh aa (zx_B0 R) (16 + i)) → va_S A s.heap H lc → lv_has ls 2 [(0, .ref h), (1, .int (nI i))] → W p l e (headSpec zsX2_init rmX2_init).room s m ([.ref h] : List Value).toArray below meth c H lc (178 + 11 * i) (10752 + 671 * i) Q9 (F0 m 75 ls []) := by
    intro k
    induction k with
    | zero =>
      intro i hik hh aa u0 u1 r1 r2 H lc ls eu0 eu1 hP hD hS hl
      have hi : i = 2 := by omega
      subst hi
      refine lv_iload_n hx hb dX2_init_75 rfl (lv_at hl 1 rfl) ?_
      refine lv_aload_n hx hb dX2_init_76 rfl (lv_at hl 0 rfl) ?_
      refine va_get (D := D) (ci := 2) (v := .ref r2) (C := RX2) (T := TX2) (N := 8) hx hb hts inlX2 hown hK hP 0 rfl rfl 5 (by decide) (hts _ zw_1_18) (fun _ h9 => h9) rfl dX2_init_77 ?_
      refine va_alen (D := D) (v := nI 2) hx hb hK hP 2 2 rfl rfl rfl dX2_init_80 ?_
      refine lv_icmp_ge (tgt := 103) hx hb dX2_init_81 (by decide) (fun q1 => ?_) (fun q1 => ?_)
      · exact j103 hh aa u0 u1 r1 r2 H lc ls eu0 eu1 hP hD hS (lv_sub hl [0] rfl)
      · exact absurd (show nI 2 ≤ nI 2 from nI_le (Nat.le_refl _) (by decide)) q1
    | succ k ih =>
      intro i hik hh aa u0 u1 r1 r2 H lc ls eu0 eu1 hP hD hS hl
      refine lv_iload_n hx hb dX2_init_75 rfl (lv_at hl 1 rfl) ?_
      refine lv_aload_n hx hb dX2_init_76 rfl (lv_at hl 0 rfl) ?_
      refine va_get (D := D) (ci := 2) (v := .ref r2) (C := RX2) (T := TX2) (N := 8) hx hb hts inlX2 hown hK hP 0 rfl rfl 5 (by decide) (hts _ zw_1_18) (fun _ h9 => h9) rfl dX2_init_77 ?_
      refine va_alen (D := D) (v := nI 2) hx hb hK hP 2 2 rfl rfl rfl dX2_init_80 ?_
      refine lv_icmp_ge (tgt := 103) hx hb dX2_init_81 (by decide) (fun q1 => ?_) (fun q1 => ?_)
      · exact absurd q1 (nI_ge (show i < 2 by omega) (by decide))
      · refine lv_aload_n hx hb dX2_init_84 rfl (lv_at hl 0 rfl) ?_
        refine va_get (D := D) (ci := 2) (v := .ref r2) (C := RX2) (T := TX2) (N := 8) hx hb hts inlX2 hown hK hP 0 rfl rfl 5 (by decide) (hts _ zw_1_18) (fun _ h9 => h9) rfl dX2_init_85 ?_
        refine lv_iload_n hx hb dX2_init_88 rfl (lv_at hl 1 rfl) ?_
        refine x2_newT hx hb hml hown hts hN hK hA hM (hB _ (by omega)) hP hD hS hl.1 dX2_init_89 dX2_init_92 dX2_init_93 (Nat.le_of_ble_eq_true rfl) (by show 178 + 11 * i + 11 ≤ 204; omega) (by show 10752 + 671 * i + 671 ≤ 12258; omega) (Nat.le_of_ble_eq_true rfl) (Nat.le_of_ble_eq_true rfl) (fun q ad H lc hP hD hS => ?_)
        obtain ⟨fs0, hpl⟩ := zx_tr_last (cI := cI) (hh := hh) (aa := aa) (B := zx_B0 R) (n := 16 + i) (q := q) (ad := ad) (hd := [(h, .inr (2, [.ref u0, .ref u1, .ref r1, .int 0, .int 0, .ref r2, .null, .null])), (r1, .inl (cT, 14, .inr (.inr (.inr (.inr (x2_f hh 2 14)))))), (r2, .inl (cT, 2, .inr (.inr (.inr (.inr (x2_f hh 16 i))))))]) (nh := 3) rfl
        refine va_astq (D := D) (r := (RX1, TX1, 14)) hx hb hK hP hD hS 2 2 (3 + 11 * (16 + i)) 1 rfl rfl hpl rfl (vp_in_nI (show i < 2 by omega) (by decide)) dX2_init_96 (fun H lc hP hD hS => ?_)
        rw [nI_clamp (by omega), x2_f_up] at hP hD
        replace hP : va_P D vwCl ([(h, .inr (2, [.ref u0, .ref u1, .ref r1, .int 0, .int 0, .ref r2, .null, .null])), (r1, .inl (cT, 14, .inr (.inr (.inr (.inr (x2_f hh 2 14)))))), (r2, .inl (cT, 2, .inr (.inr (.inr (.inr (x2_f (va_up hh (16 + i) q) 16 (i + 1)))))))] ++ zx_tr cI (va_up hh (16 + i) q) (va_up aa (16 + i) ad) (zx_B0 R) (16 + i + 1)) H := hP
        replace hD : va_D A ([(h, .inr (2, [.ref u0, .ref u1, .ref r1, .int 0, .int 0, .ref r2, .null, .null])), (r1, .inl (cT, 14, .inr (.inr (.inr (.inr (x2_f hh 2 14)))))), (r2, .inl (cT, 2, .inr (.inr (.inr (.inr (x2_f (va_up hh (16 + i) q) 16 (i + 1)))))))] ++ zx_tr cI (va_up hh (16 + i) q) (va_up aa (16 + i) ad) (zx_B0 R) (16 + i + 1)) := hD
        refine lv_iinc (v := nI (i + 1)) (lv' := [(1, .int (nI (i + 1))), (0, .ref h)]) hx hb dX2_init_97 hl (k := 1) rfl (nI_1 i) (by decide) rfl (fun ls hl => ?_)
        refine lv_goto (tgt := 75) hx hb dX2_init_100 (by decide) ?_
        have hfix := ih (i + 1) (by omega) (va_up hh (16 + i) q) (va_up aa (16 + i) ad) u0 u1 r1 r2 H lc ls ((va_up_ne _ _ (by omega)).trans eu0) ((va_up_ne _ _ (by omega)).trans eu1)
        rw [← Nat.add_assoc 16 i 1] at hfix
        have er : x2_f (va_up hh (16 + i) q) 2 14 = x2_f hh 2 14 := by
          funext z
          unfold x2_f
          by_cases hz : z < 14
          · rw [if_pos hz, if_pos hz, va_up_ne _ _ (by omega)]
          · rw [if_neg hz, if_neg hz]
        rw [er] at hfix
        exact hfix hP hD hS (lv_sub hl [1, 0] rfl)

  have j65 : ∀ (hh : Nat → Nat) (aa : Nat → Nat → Nat) (u0 u1 r1 : Nat) (H : Heap) (lc : List Loc) (ls : Array Slot), hh 0 = u0 → hh 1 = u1 → va_P D vwCl ([(h, .inr (2, [.ref u0, .ref u1, .ref r1, .int 0, .int 0, .null, .null, .null])), (r1, .inl (cT, 14, .inr (.inr (.inr (.inr (x2_f hh 2 14))))))] ++ zx_tr cI hh aa (zx_B0 R) 16) H → va_D A ([(h, .inr (2, [.ref u0, .ref u1, .ref r1, .int 0, .int 0, .null, .null, .null])), (r1, .inl (cT, 14, .inr (.inr (.inr (.inr (x2_f hh 2 14))))))] ++ zx_tr cI hh aa (zx_B0 R) 16) → va_S A s.heap H lc → lv_has ls 2 [(0, .ref h)] → W p l e (headSpec zsX2_init rmX2_init).room s m ([.ref h] : List Value).toArray below meth c H lc 177 10750 Q9 (F0 m 65 ls []) := by
    intro hh aa u0 u1 r1 H lc ls eu0 eu1 hP hD hS hl
    refine lv_aload_n hx hb dX2_init_65 rfl (lv_at hl 0 rfl) ?_
    refine lv_iconst (v := 2) hx hb dX2_init_66 (by decide) ?_
    refine va_newq (N' := 2) hx hb hown (hts _ zw_1_12) hAO hK hP hD hS hA (by decide) (by decide) (by decide) (Nat.le_of_ble_eq_true rfl) (Nat.le_of_ble_eq_true rfl) dX2_init_67 (fun r2 cA H hK2 hP hD hS => ?_)
    rw [zx_cT hK2] at hP hD
    replace hP := zx_permP zx_mv hP
    replace hD := zx_permD zx_mv hD
    refine va_putF (D := D) (ci := 2) (v := .ref r2) (ty := .array (.object RX1)) (C := RX2) (T := TX2) (N := 8) hx hb hts inlX2 tyX2 tyX2_ok nmX2 hown hK hP hD hS 0 rfl rfl 5 (by decide) (hts _ zw_1_18) (fun _ h9 => h9) rfl hin rfl (by decide +kernel) rfl rfl (Nat.le_of_ble_eq_true rfl) dX2_init_70 (fun H lc hP hD hS => ?_)
    have e2 : (fun _ => none : Nat → Option Nat) = x2_f hh 16 0 := by funext z; unfold x2_f; rw [if_neg (by omega)]
    rw [e2] at hP hD
    refine lv_iconst (v := 0) hx hb dX2_init_73 (by decide) ?_
    refine lv_istore_n (lv' := [(1, .int 0), (0, .ref h)]) hx hb dX2_init_74 rfl hl (by decide) rfl (fun ls hl => ?_)
    exact l75 2 0 rfl hh aa u0 u1 r1 r2 H lc ls eu0 eu1 hP hD hS (lv_sub hl [1, 0] rfl)
  have l37 : ∀ (k i : Nat), i + k = 14 → ∀ (hh : Nat → Nat) (aa : Nat → Nat → Nat) (u0 u1 r1 : Nat) (H : Heap) (lc : List Loc) (ls : Array Slot), hh 0 = u0 → hh 1 = u1 → va_P D vwCl ([(h, .inr (2, [.ref u0, .ref u1, .ref r1, .int 0, .int 0, .null, .null, .null])), (r1, .inl (cT, 14, .inr (.inr (.inr (.inr (x2_f hh 2 i))))))] ++ zx_tr cI hh aa (zx_B0 R) (2 + i)) H → va_D A ([(h, .inr (2, [.ref u0, .ref u1, .ref r1, .int 0, .int 0, .null, .null, .null])), (r1, .inl (cT, 14, .inr (.inr (.inr (.inr (x2_f hh 2 i))))))] ++ zx_tr cI hh aa (zx_B0 R) (2 + i)) → va_S A s.heap H lc → lv_has ls 2 [(0, .ref h), (1, .int (nI i))] → W p l e (headSpec zsX2_init rmX2_init).room s m ([.ref h] : List Value).toArray below meth c H lc (23 + 11 * i) (1356 + 671 * i) Q9 (F0 m 37 ls []) := by
    intro k
    induction k with
    | zero =>
      intro i hik hh aa u0 u1 r1 H lc ls eu0 eu1 hP hD hS hl
      have hi : i = 14 := by omega
      subst hi
      refine lv_iload_n hx hb dX2_init_37 rfl (lv_at hl 1 rfl) ?_
      refine lv_aload_n hx hb dX2_init_38 rfl (lv_at hl 0 rfl) ?_
      refine va_get (D := D) (ci := 2) (v := .ref r1) (C := RX2) (T := TX2) (N := 8) hx hb hts inlX2 hown hK hP 0 rfl rfl 2 (by decide) (hts _ zw_1_17) (fun _ h9 => h9) rfl dX2_init_39 ?_
      refine va_alen (D := D) (v := nI 14) hx hb hK hP 1 2 rfl rfl rfl dX2_init_42 ?_
      refine lv_icmp_ge (tgt := 65) hx hb dX2_init_43 (by decide) (fun q1 => ?_) (fun q1 => ?_)
      · exact j65 hh aa u0 u1 r1 H lc ls eu0 eu1 hP hD hS (lv_sub hl [0] rfl)
      · exact absurd (show nI 14 ≤ nI 14 from nI_le (Nat.le_refl _) (by decide)) q1
    | succ k ih =>
      intro i hik hh aa u0 u1 r1 H lc ls eu0 eu1 hP hD hS hl
      refine lv_iload_n hx hb dX2_init_37 rfl (lv_at hl 1 rfl) ?_
      refine lv_aload_n hx hb dX2_init_38 rfl (lv_at hl 0 rfl) ?_
      refine va_get (D := D) (ci := 2) (v := .ref r1) (C := RX2) (T := TX2) (N := 8) hx hb hts inlX2 hown hK hP 0 rfl rfl 2 (by decide) (hts _ zw_1_17) (fun _ h9 => h9) rfl dX2_init_39 ?_
      refine va_alen (D := D) (v := nI 14) hx hb hK hP 1 2 rfl rfl rfl dX2_init_42 ?_
      refine lv_icmp_ge (tgt := 65) hx hb dX2_init_43 (by decide) (fun q1 => ?_) (fun q1 => ?_)
      · exact absurd q1 (nI_ge (show i < 14 by omega) (by decide))
      · refine lv_aload_n hx hb dX2_init_46 rfl (lv_at hl 0 rfl) ?_
        refine va_get (D := D) (ci := 2) (v := .ref r1) (C := RX2) (T := TX2) (N := 8) hx hb hts inlX2 hown hK hP 0 rfl rfl 2 (by decide) (hts _ zw_1_17) (fun _ h9 => h9) rfl dX2_init_47 ?_
        refine lv_iload_n hx hb dX2_init_50 rfl (lv_at hl 1 rfl) ?_
        refine x2_newT hx hb hml hown hts hN hK hA hM (hB _ (by omega)) hP hD hS hl.1 dX2_init_51 dX2_init_54 dX2_init_55 (Nat.le_of_ble_eq_true rfl) (by show 23 + 11 * i + 11 ≤ 204; omega) (by show 1356 + 671 * i + 671 ≤ 12258; omega) (Nat.le_of_ble_eq_true rfl) (Nat.le_of_ble_eq_true rfl) (fun q ad H lc hP hD hS => ?_)
        obtain ⟨fs0, hpl⟩ := zx_tr_last (cI := cI) (hh := hh) (aa := aa) (B := zx_B0 R) (n := 2 + i) (q := q) (ad := ad) (hd := [(h, .inr (2, [.ref u0, .ref u1, .ref r1, .int 0, .int 0, .null, .null, .null])), (r1, .inl (cT, 14, .inr (.inr (.inr (.inr (x2_f hh 2 i))))))]) (nh := 2) rfl
        refine va_astq (D := D) (r := (RX1, TX1, 14)) hx hb hK hP hD hS 1 2 (2 + 11 * (2 + i)) 1 rfl rfl hpl rfl (vp_in_nI (show i < 14 by omega) (by decide)) dX2_init_58 (fun H lc hP hD hS => ?_)
        rw [nI_clamp (by omega), x2_f_up] at hP hD
        replace hP : va_P D vwCl ([(h, .inr (2, [.ref u0, .ref u1, .ref r1, .int 0, .int 0, .null, .null, .null])), (r1, .inl (cT, 14, .inr (.inr (.inr (.inr (x2_f (va_up hh (2 + i) q) 2 (i + 1)))))))] ++ zx_tr cI (va_up hh (2 + i) q) (va_up aa (2 + i) ad) (zx_B0 R) (2 + i + 1)) H := hP
        replace hD : va_D A ([(h, .inr (2, [.ref u0, .ref u1, .ref r1, .int 0, .int 0, .null, .null, .null])), (r1, .inl (cT, 14, .inr (.inr (.inr (.inr (x2_f (va_up hh (2 + i) q) 2 (i + 1)))))))] ++ zx_tr cI (va_up hh (2 + i) q) (va_up aa (2 + i) ad) (zx_B0 R) (2 + i + 1)) := hD
        refine lv_iinc (v := nI (i + 1)) (lv' := [(1, .int (nI (i + 1))), (0, .ref h)]) hx hb dX2_init_59 hl (k := 1) rfl (nI_1 i) (by decide) rfl (fun ls hl => ?_)
        refine lv_goto (tgt := 37) hx hb dX2_init_62 (by decide) ?_
        have hfix := ih (i + 1) (by omega) (va_up hh (2 + i) q) (va_up aa (2 + i) ad) u0 u1 r1 H lc ls ((va_up_ne _ _ (by omega)).trans eu0) ((va_up_ne _ _ (by omega)).trans eu1)
        rw [← Nat.add_assoc 2 i 1] at hfix
        exact hfix hP hD hS (lv_sub hl [1, 0] rfl)

  have hPn : va_P D vwCl ([(h, .inr (2, zx_o2))] ++ zx_tr cI (fun _ => 0) (fun _ _ => 0) (zx_B0 R) 0) s.heap := by rw [zx_tr_0]; exact hP
  have hDn : va_D A ([(h, .inr (2, zx_o2))] ++ zx_tr cI (fun _ => 0) (fun _ _ => 0) (zx_B0 R) 0) := by rw [zx_tr_0]; exact hD
  refine lv_aload_n hx hb dX2_init_0 rfl (lv_at hl 0 rfl) ?_
  refine W.objInit hx hb hown (hts _ zw_1_9) (hts _ zw_1_10) (hts _ zw_1_11) rfl (by rw [hml]; exact hl.1) rfl dX2_init_1 (Nat.le_of_ble_eq_true rfl) (Nat.le_of_ble_eq_true rfl) ?_
  refine W.eq (g2 := F0 m 4 ls []) rfl ?_
  refine lv_aload_n hx hb dX2_init_4 rfl (lv_at hl 0 rfl) ?_
  refine x2_newT hx hb hml hown hts hN hK hA hM (hB _ (by omega)) hPn hDn hS hl.1 dX2_init_5 dX2_init_8 dX2_init_9 (Nat.le_of_ble_eq_true rfl) (Nat.le_of_ble_eq_true rfl) (Nat.le_of_ble_eq_true rfl) (Nat.le_of_ble_eq_true rfl) (Nat.le_of_ble_eq_true rfl) (fun t0 ad0 H lc hP hD hS => ?_)
  obtain ⟨hh1, eh1⟩ : ∃ z, z = va_up (fun _ => 0) 0 t0 := ⟨_, rfl⟩
  obtain ⟨aa1, ea1⟩ : ∃ z, z = va_up (fun _ _ => 0) 0 ad0 := ⟨_, rfl⟩
  rw [← eh1, ← ea1] at hP hD
  have h10 : hh1 0 = t0 := by rw [eh1, va_up_self]
  refine va_putF (D := D) (ci := 2) (v := .ref t0) (ty := .object RX1) (C := RX2) (T := TX2) (N := 8) hx hb hts inlX2 tyX2 tyX2_ok nmX2 hown hK hP hD hS 0 rfl rfl 0 (by decide) (hts _ zw_1_15) (fun _ h9 => h9) rfl hin rfl (by decide +kernel) rfl rfl (Nat.le_of_ble_eq_true rfl) dX2_init_12 (fun H lc hP hD hS => ?_)
  replace hP : va_P D vwCl ([(h, .inr (2, [.ref t0, .null, .null, .int 0, .int 0, .null, .null, .null]))] ++ zx_tr cI hh1 aa1 (zx_B0 R) 1) H := hP
  replace hD : va_D A ([(h, .inr (2, [.ref t0, .null, .null, .int 0, .int 0, .null, .null, .null]))] ++ zx_tr cI hh1 aa1 (zx_B0 R) 1) := hD
  refine lv_aload_n hx hb dX2_init_15 rfl (lv_at hl 0 rfl) ?_
  refine x2_newT hx hb hml hown hts hN hK hA hM (hB _ (by omega)) hP hD hS hl.1 dX2_init_16 dX2_init_19 dX2_init_20 (Nat.le_of_ble_eq_true rfl) (Nat.le_of_ble_eq_true rfl) (Nat.le_of_ble_eq_true rfl) (Nat.le_of_ble_eq_true rfl) (Nat.le_of_ble_eq_true rfl) (fun t1 ad1 H lc hP hD hS => ?_)
  obtain ⟨hh2, eh2⟩ : ∃ z, z = va_up hh1 1 t1 := ⟨_, rfl⟩
  obtain ⟨aa2, ea2⟩ : ∃ z, z = va_up aa1 1 ad1 := ⟨_, rfl⟩
  rw [← eh2, ← ea2] at hP hD
  have h21 : hh2 1 = t1 := by rw [eh2, va_up_self]
  have h20 : hh2 0 = t0 := by rw [eh2, va_up_ne _ _ (by omega), h10]
  refine va_putF (D := D) (ci := 2) (v := .ref t1) (ty := .object RX1) (C := RX2) (T := TX2) (N := 8) hx hb hts inlX2 tyX2 tyX2_ok nmX2 hown hK hP hD hS 0 rfl rfl 1 (by decide) (hts _ zw_1_16) (fun _ h9 => h9) rfl hin rfl (by decide +kernel) rfl rfl (Nat.le_of_ble_eq_true rfl) dX2_init_23 (fun H lc hP hD hS => ?_)
  replace hP : va_P D vwCl ([(h, .inr (2, [.ref t0, .ref t1, .null, .int 0, .int 0, .null, .null, .null]))] ++ zx_tr cI hh2 aa2 (zx_B0 R) 2) H := hP
  replace hD : va_D A ([(h, .inr (2, [.ref t0, .ref t1, .null, .int 0, .int 0, .null, .null, .null]))] ++ zx_tr cI hh2 aa2 (zx_B0 R) 2) := hD
  refine lv_aload_n hx hb dX2_init_26 rfl (lv_at hl 0 rfl) ?_
  refine lv_bipush (v := 14) hx hb dX2_init_27 (by decide) ?_
  refine va_newq (N' := 14) hx hb hown (hts _ zw_1_12) hAO hK hP hD hS hA (by decide) (by decide) (by decide) (Nat.le_of_ble_eq_true rfl) (Nat.le_of_ble_eq_true rfl) dX2_init_29 (fun r1 cA H hK2 hP hD hS => ?_)
  rw [zx_cT hK2] at hP hD
  replace hP := zx_permP zx_mv hP
  replace hD := zx_permD zx_mv hD
  refine va_putF (D := D) (ci := 2) (v := .ref r1) (ty := .array (.object RX1)) (C := RX2) (T := TX2) (N := 8) hx hb hts inlX2 tyX2 tyX2_ok nmX2 hown hK hP hD hS 0 rfl rfl 2 (by decide) (hts _ zw_1_17) (fun _ h9 => h9) rfl hin rfl (by decide +kernel) rfl rfl (Nat.le_of_ble_eq_true rfl) dX2_init_32 (fun H lc hP hD hS => ?_)
  have e2 : (fun _ => none : Nat → Option Nat) = x2_f hh2 2 0 := by funext z; unfold x2_f; rw [if_neg (by omega)]
  rw [e2] at hP hD
  refine lv_iconst (v := 0) hx hb dX2_init_35 (by decide) ?_
  refine lv_istore_n (lv' := [(1, .int 0), (0, .ref h)]) hx hb dX2_init_36 rfl hl (by decide) rfl (fun ls hl => ?_)
  exact l37 14 0 rfl hh2 aa2 t0 t1 r1 H lc ls h20 h21 hP hD hS (lv_sub hl [1, 0] rfl)
