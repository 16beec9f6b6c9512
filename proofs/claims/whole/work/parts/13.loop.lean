/-! two worlds side by side -/
section AP
variable {D : va_G} {cl : List vw_C} {A : Nat → Prop} {w1 w2 v1 v2 : va_W} {H H1 : Heap}
theorem zy_P1 (hP : va_P D cl (w1 ++ w2) H) : va_P D cl w1 H := zx_mP id (fun t ht => List.getElem?_append_left ht) hP
theorem zy_P2 (hP : va_P D cl (w1 ++ w2) H) : va_P D cl w2 H := zx_mP (fun t => w1.length + t) (fun t ht => by rw [List.getElem?_append_right (Nat.le_add_right _ _), Nat.add_sub_cancel_left]) hP
theorem zy_D1 (hD : va_D A (w1 ++ w2)) : va_D A w1 := zx_mD id (fun t ht => List.getElem?_append_left ht) (fun t u _ _ e => e) hD
theorem zy_D2 (hD : va_D A (w1 ++ w2)) : va_D A w2 := zx_mD (fun t => w1.length + t) (fun t ht => by rw [List.getElem?_append_right (Nat.le_add_right _ _), Nat.add_sub_cancel_left]) (fun t u _ _ e => by have e : w1.length + t = w1.length + u := e; omega) hD
theorem zy_S1 (hl : v1.length = w1.length) (hP : va_P D cl (w1 ++ w2) H) (hD : va_D A (w1 ++ w2)) (hk : ∀ q : Nat, q < H.size → ¬ va_A w1 H.size q → H1[q]? = H[q]?) (hB : va_P D cl v1 H1) : va_P D cl (v1 ++ w2) H1 :=
  zx_mS id (fun t ht => List.getElem?_append_left ht) hP hD hk hB (fun t ht => List.getElem?_append_left (by rw [hl]; exact ht)) (fun k hk => by
    by_cases c : k < w1.length
    · exact absurd rfl (hk k c)
    · rw [List.getElem?_append_right (by omega), List.getElem?_append_right (by omega), hl])
theorem zy_S2 (hl : v2.length = w2.length) (hP : va_P D cl (w1 ++ w2) H) (hD : va_D A (w1 ++ w2)) (hk : ∀ q : Nat, q < H.size → ¬ va_A w2 H.size q → H1[q]? = H[q]?) (hB : va_P D cl v2 H1) : va_P D cl (w1 ++ v2) H1 :=
  zx_mS (fun t => w1.length + t) (fun t ht => by rw [List.getElem?_append_right (Nat.le_add_right _ _), Nat.add_sub_cancel_left]) hP hD hk hB (fun t ht => by rw [List.getElem?_append_right (Nat.le_add_right _ _), Nat.add_sub_cancel_left]) (fun k hk => by
    by_cases c : k < w1.length
    · rw [List.getElem?_append_left c, List.getElem?_append_left c]
    · have hn : ¬ k - w1.length < w2.length := fun q => hk _ q (by omega)
      rw [List.getElem?_append_right (by omega), List.getElem?_append_right (by omega), List.getElem?_eq_none (by omega), List.getElem?_eq_none (by omega)])
end AP
abbrev zW (cI cZ cT cL : ClassId) (o h : Nat) (hh : Nat → Nat) (aa : Nat → Nat → Nat) (h3 : Nat) (a3 : Nat → Nat) (f : Nat → Int64) (B : zx_B) (S : zx_S) : va_W := zxL cI cT cL o h hh aa f B ++ xW3 cI cZ h3 a3 S
theorem zW_D {A : Nat → Prop} {cI cZ cT cL : ClassId} {o h : Nat} {hh : Nat → Nat} {aa : Nat → Nat → Nat} {h3 : Nat} {a3 : Nat → Nat} {f : Nat → Int64} {B : zx_B} {S : zx_S} (f2 : Nat → Int64) (B2 : zx_B) (S2 : zx_S) (hD : va_D A (zW cI cZ cT cL o h hh aa h3 a3 f B S)) : va_D A (zW cI cZ cT cL o h hh aa h3 a3 f2 B2 S2) := zx_Deq (ws := zW cI cZ cT cL o h hh aa h3 a3 f B S) (by simp only [zW, zxL, xW2, xW3, List.map_append, List.map_cons]; rw [zx_tr_fst 18]) hD
theorem zxL_len {cI cT cL : ClassId} {o h : Nat} {hh : Nat → Nat} {aa : Nat → Nat → Nat} {f : Nat → Int64} {B : zx_B} : (zxL cI cT cL o h hh aa f B).length = 206 := by
  show (zx_tr cI hh aa B 18).length + 8 = 206
  rw [zx_tr_len]
theorem bY_pre {av : List Value} {D : va_G} {tys : List (ClassId × FieldType)} {wc : va_W} {A : Nat → Prop} {s : State} {H H0 : Heap} {lc : List Loc} (hP : va_P D vwCl wc H) (hK : va_K D vwCl tys s) (hD : va_D A wc) (hN : ∀ w ∈ zx_nw, va_Nw w s) (hX : zx_X A s H0) (hNc : zx_Nc s) (hS : va_S A H0 H lc) (hF : ∀ q, va_A wc H.size q → A q) : ∀ U : State, U.heap = H → s.WarmedH U.vm → va_Pc av (bY D tys wc H.size) av.toArray U := fun U hU hW =>
  have z := bX_pre (ws := []) (av := av) hP hK hD hN hX hS hF U hU hW
  ⟨z.1, z.2, fun i j h1 h2 h3 => va_Nc.moved hW.alike (hNc i j h1 h2 h3)⟩
theorem zy_go {L i : Nat} (hL : L ≤ 2560) (hi : i ≤ 3000) (h : ¬ (Int32.ofNat L - 5 < nI i)) : i + 5 ≤ L := by
  have e : (nI L - nI 5).toInt = (L : Int) - 5 := pk_sub_toInt (by omega) (by omega)
  have h2 : ¬ (nI L - nI 5).toInt < (nI i).toInt := fun q => h (Int32.lt_iff_toInt_lt.mpr q)
  rw [e, nI_toInt (by omega)] at h2
  omega
theorem zy_in {L i k : Nat} (hL : L ≤ 2560) (h : i + k < L) : vp_in (nI i + nI k) L := by
  rw [nI_add]
  exact vp_in_nI h (by omega)
theorem zy_cmp (x : Int64) : lg_cmp x x = 0 := by
  unfold lg_cmp
  have : ¬ x < x := by rw [Int64.lt_iff_toInt_lt]; omega
  simp [this]

def zs_append (N : Nat) (Inv : zx_B → zx_S → Prop) : Prop := ∀ (p1 : Int32) (B : zx_B) (S : zx_S), Inv B S → ∃ (R : Int32 × (Nat × zx_B)) (r : Int32) (S2 : zx_S), f_X2_append N p1 B = some R ∧ f_X3_append N p1 S = some (r, S2) ∧ Inv R.2.2 S2 ∧ ((R.2.1 = 0 ∧ S2 12 0 = 0 ∧ R.1 = r) ∨ (R.2.1 = 1 ∧ S2 12 0 = 1) ∨ (R.2.1 = 2 ∧ S2 12 0 = 2))
def zs_clearText (N : Nat) (Inv : zx_B → zx_S → Prop) : Prop := ∀ (B : zx_B) (S : zx_S), Inv B S → ∃ (r : Int32) (B2 : zx_B) (S2 : zx_S), f_X2_clearText N B = some (r, B2) ∧ f_X3_clearText N S = some (r, S2) ∧ Inv B2 S2
def zs_errorPosition (N : Nat) (Inv : zx_B → zx_S → Prop) : Prop := ∀ (B : zx_B) (S : zx_S), Inv B S → ∃ (r : Int32) (B2 : zx_B) (S2 : zx_S), f_X2_errorPosition N B = some (r, B2) ∧ f_X3_errorPosition N S = some (r, S2) ∧ Inv B2 S2
def zs_about (N : Nat) (Inv : zx_B → zx_S → Prop) : Prop := ∀ (p1 : Int32) (B : zx_B) (S : zx_S), Inv B S → ∃ (R : Int32 × (Nat × zx_B)) (r : Int32) (S2 : zx_S), f_X2_about N p1 B = some R ∧ f_X3_about N p1 S = some (r, S2) ∧ Inv R.2.2 S2 ∧ ((R.2.1 = 0 ∧ S2 12 0 = 0 ∧ R.1 = r) ∨ (R.2.1 = 1 ∧ S2 12 0 = 1))
def zs_rectangle (N : Nat) (Inv : zx_B → zx_S → Prop) : Prop := ∀ (p1 : Int32) (p2 : Int32) (B : zx_B) (S : zx_S), Inv B S → ∃ (R : Int32 × (Nat × zx_B)) (r : Int32) (S2 : zx_S), f_X2_rectangle N p1 p2 B = some R ∧ f_X3_rectangle N p1 p2 S = some (r, S2) ∧ Inv R.2.2 S2 ∧ ((R.2.1 = 0 ∧ S2 12 0 = 0 ∧ R.1 = r) ∨ (R.2.1 = 3 ∧ S2 12 0 = 1) ∨ (R.2.1 = 1 ∧ S2 12 0 = 2))
def zs_node (N : Nat) (Inv : zx_B → zx_S → Prop) : Prop := ∀ (p1 : Int32) (p2 : Int32) (B : zx_B) (S : zx_S), Inv B S → ∃ (R : Int32 × (Nat × zx_B)) (r : Int32) (S2 : zx_S), f_X2_node N p1 p2 B = some R ∧ f_X3_node N p1 p2 S = some (r, S2) ∧ Inv R.2.2 S2 ∧ ((R.2.1 = 0 ∧ S2 12 0 = 0 ∧ R.1 = r) ∨ (R.2.1 = 3 ∧ S2 12 0 = 1) ∨ (R.2.1 = 1 ∧ S2 12 0 = 2))
def zs_entry (N : Nat) (Inv : zx_B → zx_S → Prop) : Prop := ∀ (p1 : Int32) (p2 : Int32) (B : zx_B) (S : zx_S), Inv B S → ∃ (R : Int32 × (Nat × zx_B)) (r : Int32) (S2 : zx_S), f_X2_entry N p1 p2 B = some R ∧ f_X3_entry N p1 p2 S = some (r, S2) ∧ Inv R.2.2 S2 ∧ ((R.2.1 = 0 ∧ S2 12 0 = 0 ∧ R.1 = r) ∨ (R.2.1 = 3 ∧ S2 12 0 = 1) ∨ (R.2.1 = 1 ∧ S2 12 0 = 2))
def zs_add (N : Nat) (Inv : zx_B → zx_S → Prop) : Prop := ∀ (p1 : Int32) (p2 : Int32) (p3 : Int32) (p4 : Int32) (B : zx_B) (S : zx_S), Inv B S → ∃ (R : Int32 × (Nat × zx_B)) (r : Int32) (S2 : zx_S), f_X2_add N p1 p2 p3 p4 B = some R ∧ f_X3_add N p1 p2 p3 p4 S = some (r, S2) ∧ Inv R.2.2 S2 ∧ ((R.2.1 = 0 ∧ S2 12 0 = 0 ∧ R.1 = r) ∨ (R.2.1 = 1 ∧ S2 12 0 = 1) ∨ (R.2.1 = 2 ∧ S2 12 0 = 2))
def zs_addAll (N : Nat) (Inv : zx_B → zx_S → Prop) : Prop := ∀ (B : zx_B) (S : zx_S), Inv B S → ∃ (R : Int32 × (Nat × zx_B)) (r : Int32) (S2 : zx_S), f_X2_addAll N B = some R ∧ f_X3_addAll N S = some (r, S2) ∧ Inv R.2.2 S2 ∧ ((R.2.1 = 0 ∧ S2 12 0 = 0 ∧ R.1 = r) ∨ (R.2.1 = 2 ∧ S2 12 0 = 1))
def zs_remove (N : Nat) (Inv : zx_B → zx_S → Prop) : Prop := ∀ (p1 : Int32) (B : zx_B) (S : zx_S), Inv B S → ∃ (R : Int32 × (Nat × zx_B)) (r : Int32) (S2 : zx_S), f_X2_remove N p1 B = some R ∧ f_X3_remove N p1 S = some (r, S2) ∧ Inv R.2.2 S2 ∧ ((R.2.1 = 0 ∧ S2 12 0 = 0 ∧ R.1 = r) ∨ (R.2.1 = 3 ∧ S2 12 0 = 1))
def zs_move (N : Nat) (Inv : zx_B → zx_S → Prop) : Prop := ∀ (p1 : Int32) (p2 : Int32) (p3 : Int32) (B : zx_B) (S : zx_S), Inv B S → ∃ (R : Int32 × (Nat × zx_B)) (r : Int32) (S2 : zx_S), f_X2_move N p1 p2 p3 B = some R ∧ f_X3_move N p1 p2 p3 S = some (r, S2) ∧ Inv R.2.2 S2 ∧ ((R.2.1 = 0 ∧ S2 12 0 = 0 ∧ R.1 = r) ∨ (R.2.1 = 3 ∧ S2 12 0 = 1) ∨ (R.2.1 = 1 ∧ S2 12 0 = 2) ∨ (R.2.1 = 2 ∧ S2 12 0 = 3))
def zs_undo (N : Nat) (Inv : zx_B → zx_S → Prop) : Prop := ∀ (B : zx_B) (S : zx_S), Inv B S → ∃ (R : Int32 × (Nat × zx_B)) (r : Int32) (S2 : zx_S), f_X2_undo N B = some R ∧ f_X3_undo N S = some (r, S2) ∧ Inv R.2.2 S2 ∧ ((R.2.1 = 0 ∧ S2 12 0 = 0 ∧ R.1 = r) ∨ (R.2.1 = 2 ∧ S2 12 0 = 1))
def zs_window (N : Nat) (Inv : zx_B → zx_S → Prop) : Prop := ∀ (p1 : Int32) (p2 : Int32) (p3 : Int32) (p4 : Int32) (B : zx_B) (S : zx_S), Inv B S → ∃ (R : Int32 × (Nat × zx_B)) (r : Int32) (S2 : zx_S), f_X2_window N p1 p2 p3 p4 B = some R ∧ f_X3_window N p1 p2 p3 p4 S = some (r, S2) ∧ Inv R.2.2 S2 ∧ ((R.2.1 = 0 ∧ S2 12 0 = 0 ∧ R.1 = r) ∨ (R.2.1 = 1 ∧ S2 12 0 = 1))
def zs_looks (N : Nat) (Inv : zx_B → zx_S → Prop) : Prop := ∀ (p1 : Int32) (p2 : Int32) (p3 : Int32) (p4 : Int32) (B : zx_B) (S : zx_S), Inv B S → ∃ (R : Int32 × (Nat × zx_B)) (r : Int32) (S2 : zx_S), f_X2_looks N p1 p2 p3 p4 B = some R ∧ f_X3_looks N p1 p2 p3 p4 S = some (r, S2) ∧ Inv R.2.2 S2 ∧ ((R.2.1 = 0 ∧ S2 12 0 = 0 ∧ R.1 = r) ∨ (R.2.1 = 1 ∧ S2 12 0 = 1))
def zs_nearest (N : Nat) (Inv : zx_B → zx_S → Prop) : Prop := ∀ (p1 : Int32) (p2 : Int32) (p3 : Int32) (B : zx_B) (S : zx_S), Inv B S → ∃ (R : Int32 × (Nat × zx_B)) (r : Int32) (S2 : zx_S), f_X2_nearest N p1 p2 p3 B = some R ∧ f_X3_nearest N p1 p2 p3 S = some (r, S2) ∧ Inv R.2.2 S2 ∧ ((R.2.1 = 0 ∧ S2 12 0 = 0 ∧ R.1 = r) ∨ (R.2.1 = 1 ∧ S2 12 0 = 1))
def zs_chosen (N : Nat) (Inv : zx_B → zx_S → Prop) : Prop := ∀ (p1 : Int32) (p2 : Int32) (p3 : Int32) (p4 : Int32) (B : zx_B) (S : zx_S), Inv B S → ∃ (R : Int32 × (Nat × zx_B)) (r : Int32) (S2 : zx_S), f_X2_chosen N p1 p2 p3 p4 B = some R ∧ f_X3_chosen N p1 p2 p3 p4 S = some (r, S2) ∧ Inv R.2.2 S2 ∧ ((R.2.1 = 0 ∧ S2 12 0 = 0 ∧ R.1 = r) ∨ (R.2.1 = 1 ∧ S2 12 0 = 1))
def zs_ifAdded (N : Nat) (Inv : zx_B → zx_S → Prop) : Prop := ∀ (p1 : Int32) (p2 : Int32) (p3 : Int32) (p4 : Int32) (B : zx_B) (S : zx_S), Inv B S → ∃ (R : Int32 × (Nat × zx_B)) (r : Int32) (S2 : zx_S), f_X2_ifAdded N p1 p2 p3 p4 B = some R ∧ f_X3_ifAdded N p1 p2 p3 p4 S = some (r, S2) ∧ Inv R.2.2 S2 ∧ ((R.2.1 = 0 ∧ S2 12 0 = 0 ∧ R.1 = r) ∨ (R.2.1 = 1 ∧ S2 12 0 = 1))
def zs_bestRemoval (N : Nat) (Inv : zx_B → zx_S → Prop) : Prop := ∀ (B : zx_B) (S : zx_S), Inv B S → ∃ (r : Int32) (B2 : zx_B) (S2 : zx_S), f_X2_bestRemoval N B = some (r, B2) ∧ f_X3_bestRemoval N S = some (r, S2) ∧ Inv B2 S2
def zs_anew (N : Nat) (Inv : zx_B → zx_S → Prop) : Prop := ∀ (B : zx_B) (S : zx_S), Inv B S → ∃ (r : Int32) (B2 : zx_B) (S2 : zx_S), f_X2_anew N B = some (r, B2) ∧ f_X3_anew N S = some (r, S2) ∧ Inv B2 S2
def zs_runScript (N : Nat) (Inv : zx_B → zx_S → Prop) : Prop := ∀ (p1 : Int32) (p2 : Int64) (B : zx_B) (S : zx_S), Inv B S → ∃ (R : Int32 × (Nat × zx_B)) (r : Int32) (S2 : zx_S), f_X2_runScript N p1 p2 B = some R ∧ f_X3_runScript N p1 p2 S = some (r, S2) ∧ Inv R.2.2 S2 ∧ ((R.2.1 = 0 ∧ S2 12 0 = 0 ∧ R.1 = r) ∨ (R.2.1 = 1 ∧ S2 12 0 = 1))
def zs_simulate (N : Nat) (Inv : zx_B → zx_S → Prop) : Prop := ∀ (p1 : Int64) (p3 : Int32) (B : zx_B) (S : zx_S), Inv B S → ∃ (R : Int32 × (Nat × zx_B)) (r : Int32) (S2 : zx_S), f_X2_simulate N p1 p3 B = some R ∧ f_X3_simulate N p1 p3 S = some (r, S2) ∧ Inv R.2.2 S2 ∧ ((R.2.1 = 0 ∧ S2 12 0 = 0 ∧ R.1 = r) ∨ (R.2.1 = 1 ∧ S2 12 0 = 1))
def zs_save (N : Nat) (Inv : zx_B → zx_S → Prop) : Prop := ∀ (p1 : Int32) (B : zx_B) (S : zx_S), Inv B S → ∃ (R : Int32 × (Nat × zx_B)) (r : Int32) (S2 : zx_S), f_X2_save N p1 B = some R ∧ f_X3_save N p1 S = some (r, S2) ∧ Inv R.2.2 S2 ∧ ((R.2.1 = 0 ∧ S2 12 0 = 0 ∧ R.1 = r) ∨ (R.2.1 = 3 ∧ S2 12 0 = 1))
def zs_restore (N : Nat) (Inv : zx_B → zx_S → Prop) : Prop := ∀ (p1 : Int32) (B : zx_B) (S : zx_S), Inv B S → ∃ (R : Int32 × (Nat × zx_B)) (r : Int32) (S2 : zx_S), f_X2_restore N p1 B = some R ∧ f_X3_restore N p1 S = some (r, S2) ∧ Inv R.2.2 S2 ∧ ((R.2.1 = 0 ∧ S2 12 0 = 0 ∧ R.1 = r) ∨ (R.2.1 = 3 ∧ S2 12 0 = 1) ∨ (R.2.1 = 2 ∧ S2 12 0 = 2))
set_option maxHeartbeats 16000000 in
set_option maxRecDepth 100000 in
theorem law_loop {p : Program} {l : Launch} {e : Env} {s : State} {m : MethodId} {below : List Frame} {meth : Method} {c : Code} {D : va_G} {cI cZ cT cL : ClassId} {b L N : Nat} {xs : Nat → Int32} (hL : L ≤ 2560) (hlt : l.stackTraces = false) (C0 : lw_At p s m meth c b L xs) (hK : va_K D vwCl (zx_ty4 cI cZ cT cL) s) (hN : ∀ w ∈ zx_nw, va_Nw w s) (hXX : zx_X (fun q : Nat => s.heap.size ≤ q) s s.heap) (hNc : zx_Nc s) {Inv : zx_B → zx_S → Prop} (hs_append : zs_append N Inv) (hs_clearText : zs_clearText N Inv) (hs_errorPosition : zs_errorPosition N Inv) (hs_about : zs_about N Inv) (hs_rectangle : zs_rectangle N Inv) (hs_node : zs_node N Inv) (hs_entry : zs_entry N Inv) (hs_add : zs_add N Inv) (hs_addAll : zs_addAll N Inv) (hs_remove : zs_remove N Inv) (hs_move : zs_move N Inv) (hs_undo : zs_undo N Inv) (hs_window : zs_window N Inv) (hs_looks : zs_looks N Inv) (hs_nearest : zs_nearest N Inv) (hs_chosen : zs_chosen N Inv) (hs_ifAdded : zs_ifAdded N Inv) (hs_bestRemoval : zs_bestRemoval N Inv) (hs_anew : zs_anew N Inv) (hs_runScript : zs_runScript N Inv) (hs_simulate : zs_simulate N Inv) (hs_save : zs_save N Inv) (hs_restore : zs_restore N Inv) {o h : Nat} {hh : Nat → Nat} {aa : Nat → Nat → Nat} {h3 : Nat} {a3 : Nat → Nat} :
    ∀ (n j : Nat), 5 * j ≤ L → L + 5 ≤ 5 * j + 5 * n → ∀ (f : Nat → Int64) (B : zx_B) (S : zx_S) (H : Heap) (lc : List Loc) (ls : Array Slot), Inv B S → va_P D vwCl (zW cI cZ cT cL o h hh aa h3 a3 f B S) H → va_D (fun q : Nat => s.heap.size ≤ q) (zW cI cZ cT cL o h hh aa h3 a3 f B S) → va_S (fun q : Nat => s.heap.size ≤ q) s.heap H lc → lv_has ls 7 [(0, .ref b), (1, .ref h), (2, .ref h3), (3, .ref o), (4, .int (nI (5 * j)))] → W p l e room_1 s m #[Value.ref b] below meth c H lc (219 + j) (19600 + 6 * j) (lw_Z below #[Value.ref b] s) (F0 m 23 ls []) := by
  obtain ⟨hx, hb, hr, hml, hown, hts0, hX, hbl, hlocks, hgv⟩ := C0
  have hts : ∀ w ∈ wsL_law, w.before #[Value.ref b] s = true := fun w hw => hts0 w (wsL_law_in w hw)
  have hK3 : va_K D vwCl (zx_ty cI cZ cT) s := hK.sub [0, 1, 2] rfl
  have hA : ∀ q : Nat, s.heap.size ≤ q → (fun q : Nat => s.heap.size ≤ q) q := fun _ h => h
  have hbA : ¬ (fun q : Nat => s.heap.size ≤ q) b := Nat.not_le.mpr hbl
  intro n
  induction n with
  | zero => intro j h1 h2; omega
  | succ n ih =>
    intro j h1 h2 f B S H lc ls hI hP hD hS hl
    obtain ⟨i, ei⟩ : ∃ i, i = 5 * j := ⟨_, rfl⟩
    rw [← ei] at hl
    refine lv_iload hx hb dL_law_23 (lv_at hl 4 rfl) ?_
    refine lv_aload_n hx hb dL_law_25 rfl (lv_at hl 0 rfl) ?_
    refine va_slen hx hb hX hbl hbA hS dL_law_26 ?_
    refine lv_iconst (v := 5) hx hb dL_law_27 (by decide) ?_
    refine lv_isub hx hb dL_law_28 ?_
    refine lv_icmp_gt (tgt := 1594) hx hb dL_law_29 (by decide) (fun c_1 => ?_) (fun c_1 => ?_)
    · refine lv_iconst (v := 1) hx hb dL_law_1594 (by decide) ?_
      refine va_forget (fun q hq => hS.2.2 q hq) ?_
      refine W.widen (k := 601024) (n := 7293034) (by omega) (by omega) ?_
      exact lw_ret hx hb hr hlocks dL_law_1595
    have hin : i + 5 ≤ L := zy_go hL (by omega) c_1
    have j1588 : ∀ (f : Nat → Int64) (B : zx_B) (S : zx_S) (H : Heap) (lc : List Loc) (ls : Array Slot), Inv B S → va_P D vwCl (zW cI cZ cT cL o h hh aa h3 a3 f B S) H → va_D (fun q : Nat => s.heap.size ≤ q) (zW cI cZ cT cL o h hh aa h3 a3 f B S) → va_S (fun q : Nat => s.heap.size ≤ q) s.heap H lc → lv_has ls 7 [(0, .ref b), (1, .ref h), (2, .ref h3), (3, .ref o), (4, .int (nI i))] → W p l e room_1 s m #[Value.ref b] below meth c H lc (219 + j + 1) (19600 + 6 * j + 6) (lw_Z below #[Value.ref b] s) (F0 m 1588 ls []) := by
      intro f B S H lc ls hI hP hD hS hl
      refine lv_iinc (v := nI (5 * (j + 1))) (lv' := [(4, .int (nI (5 * (j + 1)))), (0, .ref b), (1, .ref h), (2, .ref h3), (3, .ref o)]) hx hb dL_law_1588 hl (k := 4) rfl (by rw [ei]; exact nI_add (5 * j) 5) (by decide) rfl (fun ls hl => ?_)
      refine lv_goto (tgt := 23) hx hb dL_law_1591 (by decide) ?_
      exact ih (j + 1) (by omega) (by omega) f B S H lc ls hI hP hD hS (lv_sub hl [1, 2, 3, 4, 0] rfl)
    refine lv_aload_n hx hb dL_law_32 rfl (lv_at hl 0 rfl) ?_
    refine lv_iload hx hb dL_law_33 (lv_at hl 4 rfl) ?_
    refine va_sld hx hb hX hbl hbA hS (vp_in_nI (show i < L by omega) (by omega)) dL_law_35 ?_
    refine lv_bipush (v := 31) hx hb dL_law_36 (by decide) ?_
    refine lv_iand hx hb dL_law_38 ?_
    refine lv_topi (fun v ev => ?_)
    by_cases c0 : v = 0
    · refine lv_tableIn (tgt := 144) hx hb dL_law_39 (by rw [c0]; decide) (by rw [c0]; decide) (by rw [c0]; rfl) (by decide) ?_
      obtain ⟨R, r, S2, hf2, hf3, hI2, hpost⟩ := hs_append ((xs (Int32.toNatClampNeg ((nI i) + 1)))) B S hI
      refine lv_aload_n hx hb dL_law_144 rfl (lv_at hl 1 rfl) ?_
      refine lv_aload_n hx hb dL_law_145 rfl (lv_at hl 0 rfl) ?_
      refine lv_iload hx hb dL_law_146 (lv_at hl 4 rfl) ?_
      refine lv_iconst (v := 1) hx hb dL_law_148 (by decide) ?_
      refine lv_iadd hx hb dL_law_149 ?_
      refine va_sld hx hb hX hbl hbA hS (zy_in (k := 1) hL (by omega)) dL_law_150 ?_
      refine lv_aload_n hx hb dL_law_151 rfl (lv_at hl 3 rfl) ?_
      have hPc := zy_P1 hP
      have hDc := zy_D1 hD
      have hF := zx_fW hDc hS hA
      refine va_calli (vx_runSW (As := [.ref h, .int (xs (Int32.toNatClampNeg ((nI i) + 1))), .ref o]) (rest := []) ⟨hx, hb, hml, hown, hts⟩ (c_L_append l hlt D cI cZ cT cL o h hh aa f B _ N ((xs (Int32.toNatClampNeg ((nI i) + 1)))) hf2 (hpost.elim (fun z => Or.inl z.1) (fun z => Or.inr (z.elim (fun z => Or.inl z.1) (fun z => Or.inr z.1))))) (vx_cwSW 3 hts (zg_S zw_4_10 zw_4_11 zw_4_12 zw_4_13) rfl rfl rfl zyL_append ⟨Nat.le_of_ble_eq_true rfl, Nat.le_of_ble_eq_true rfl⟩) ⟨bY_blind, bY_pre hPc hK hDc hN hXX hNc hS hF⟩ rfl rfl hl.1 rfl (lv_room (Nat.le_of_ble_eq_true rfl)) dL_law_152 ⟨by show 219 + j + 1 ≤ 601024; omega, by show 19600 + 6 * j + 6 ≤ 7293034; omega⟩) hS (fun q _ h => hF q h) hF (fun kr u t H1 lc ht hvm hw hB hz1 hk1 hS => ?_)
      obtain ⟨f2, B2⟩ := u
      obtain ⟨hw, hB2⟩ := hw
      replace hB2 : B2 = R.2.2 := hB2
      rw [← hB2] at hI2
      rw [ht] at hB
      replace hP := zy_S1 (by rw [zxL_len, zxL_len]) hP hD hk1 hB
      replace hD := zW_D f2 B2 S hD
      refine lv_istore (lv' := [(5, .int kr), (0, .ref b), (1, .ref h), (2, .ref h3), (3, .ref o), (4, .int (nI i))]) hx hb dL_law_155 hl (by decide) rfl (fun ls hl => ?_)
      refine lv_aload_n hx hb dL_law_157 rfl (lv_at hl 3 rfl) ?_
      refine lv_aload_n hx hb dL_law_158 rfl (lv_at hl 1 rfl) ?_
      refine lv_iload hx hb dL_law_159 (lv_at hl 5 rfl) ?_
      refine lv_iconst (v := 1) hx hb dL_law_161 (by decide) ?_
      refine lv_iadd hx hb dL_law_162 ?_
      refine va_sld hx hb hX hbl hbA hS (zy_in (k := 1) hL (by omega)) dL_law_163 ?_
      have hF3 := zx_fW (zy_D2 hD) hS hA
      refine va_calli (va_runV (As := [.int (xs (Int32.toNatClampNeg ((nI i) + 1)))]) (rest := []) ⟨hx, hb, hml, hown, hts⟩ (c_X3_append l D cI cZ cT h3 a3 S _ N ((xs (Int32.toNatClampNeg ((nI i) + 1)))) hf3) (cwV 1 hts (zg_V zw_5_5 zw_5_6 zw_5_7 zw_1_5 zw_5_8) rfl rfl rfl ⟨rfl, zyX3_append⟩ ⟨Nat.le_of_ble_eq_true rfl, Nat.le_of_ble_eq_true rfl⟩) ⟨bS_blind, va_recv hK3 (zy_P2 hP) (ci := 3) (q0 := 0) rfl rfl, bS_pre (zy_P2 hP) hK3 (zy_D2 hD) hN⟩ rfl rfl hl.1 rfl (lv_room (Nat.le_of_ble_eq_true rfl)) dL_law_164 ⟨by show 219 + j + 1 + 0 ≤ 601024; omega, by show 19600 + 6 * j + 6 + 0 ≤ 7293034; omega⟩) hS (fun q _ h => hF3 q h) hF3 (fun r3 u t H1 lc ht hvm hw3 hB hz1 hk1 hS => ?_)
      obtain ⟨hw1, hw2⟩ := Prod.mk.inj hw3; subst hw1; subst hw2
      rw [ht] at hB
      replace hP := zy_S2 (w2 := xW3 cI cZ h3 a3 S) (v2 := xW3 cI cZ h3 a3 S2) rfl hP hD hk1 hB
      replace hD := zW_D f2 B2 S2 hD
      refine lv_istore (lv' := [(6, .int r), (5, .int kr), (0, .ref b), (1, .ref h), (2, .ref h3), (3, .ref o), (4, .int (nI i))]) hx hb dL_law_167 hl (by decide) rfl (fun ls hl => ?_)
      refine lv_aload_n hx hb dL_law_169 rfl (lv_at hl 4 rfl) ?_
      refine va_calli (va_runV (As := []) (rest := []) ⟨hx, hb, hml, hown, hts⟩ (c_X3_thrown l D cI cZ cT h3 a3 S2 _ N rfl) (cwV 0 hts (zg_V zw_5_19 zw_5_20 zw_5_21 zw_1_5 zw_5_22) rfl rfl rfl ⟨rfl, zyX3_thrown⟩ ⟨Nat.le_of_ble_eq_true rfl, Nat.le_of_ble_eq_true rfl⟩) ⟨bS_blind, va_recv hK3 (zy_P2 hP) (ci := 3) (q0 := 0) rfl rfl, bS_pre (zy_P2 hP) hK3 (zy_D2 hD) hN⟩ rfl rfl hl.1 rfl (lv_room (Nat.le_of_ble_eq_true rfl)) dL_law_170 ⟨by show 219 + j + 1 + 0 + 0 ≤ 601024; omega, by show 19600 + 6 * j + 6 + 0 + 0 ≤ 7293034; omega⟩) hS (fun q h1 h2 => absurd h1 (Nat.not_lt.mpr h2)) (fun q h => hA q (Nat.le_trans hS.1 h)) (fun rf u t H1 lc ht hvm hrf hB hz1 hk1 hS => ?_)
      replace hrf : S2 12 0 = rf := hrf; subst hrf
      replace hP := zx_keep hP hk1
      refine lv_iload hx hb dL_law_173 (lv_at hl 1 rfl) ?_
      have hkr : S2 12 0 = kr := by
        rcases hpost with z | z | z
        · rcases hw with y | y | y
          · rw [z.2.1, y.2.1]
          · exact absurd (z.1.symm.trans y.1) (by decide)
          · exact absurd (z.1.symm.trans y.1) (by decide)
        · rcases hw with y | y | y
          · exact absurd (z.1.symm.trans y.1) (by decide)
          · rw [z.2, y.2]
          · exact absurd (z.1.symm.trans y.1) (by decide)
        · rcases hw with y | y | y
          · exact absurd (z.1.symm.trans y.1) (by decide)
          · exact absurd (z.1.symm.trans y.1) (by decide)
          · rw [z.2, y.2]
      refine lv_icmp_eq (tgt := 180) hx hb dL_law_175 (by decide) (fun q1 => ?_) (fun q1 => absurd hkr q1)
      refine lv_iload hx hb dL_law_180 (lv_at hl 1 rfl) ?_
      have jend : ∀ (H : Heap) (lc : List Loc) (ls : Array Slot), va_P D vwCl (zW cI cZ cT cL o h hh aa h3 a3 f2 B2 S2) H → va_S (fun q : Nat => s.heap.size ≤ q) s.heap H lc → lv_has ls 7 [(6, .int r), (5, .int kr), (0, .ref b), (1, .ref h), (2, .ref h3), (3, .ref o), (4, .int (nI i))] → W p l e room_1 s m #[Value.ref b] below meth c H lc (219 + j + 1 + 0 + 0) (19600 + 6 * j + 6 + 0 + 0) (lw_Z below #[Value.ref b] s) (F0 m 197 ls []) := by
        intro H lc ls hP hS hl
        refine lv_goto (tgt := 1588) hx hb dL_law_197 (by decide) ?_
        exact j1588 f2 B2 S2 _ _ _ hI2 hP hD hS (lv_sub hl [2, 3, 4, 5, 6] rfl)
      refine lv_if_ne (tgt := 197) hx hb dL_law_182 (by decide) (fun q2 => ?_) (fun q2 => ?_)
      · exact jend _ _ _ hP hS hl
      · have hv : f2 0 = Int32.toInt64 r := by
          rcases hpost with z | z | z
          · rcases hw with y | y | y
            · rw [← z.2.2]; exact y.2.2
            · exact absurd (z.1.symm.trans y.1) (by decide)
            · exact absurd (z.1.symm.trans y.1) (by decide)
          · exact absurd ((z.2.symm.trans q1).trans q2) (by decide)
          · exact absurd ((z.2.symm.trans q1).trans q2) (by decide)
        refine lv_aload_n hx hb dL_law_185 rfl (lv_at hl 5 rfl) ?_
        refine lv_iconst (v := 0) hx hb dL_law_186 (by decide) ?_
        refine va_lald (D := D) hx hb hK hP 0 3 rfl rfl (vp_in_nI (n := 0) (N := 1) (by decide) (by decide)) dL_law_187 ?_
        refine lv_iload hx hb dL_law_188 (lv_at hl 0 rfl) ?_
        refine lv_i2l hx hb dL_law_190 rfl ?_
        refine W.lcmp hx hb dL_law_191 ?_
        refine lv_if_eq (tgt := 197) hx hb dL_law_192 (by decide) (fun q3 => ?_) (fun q3 => ?_)
        · exact jend _ _ _ hP hS hl
        · exact absurd (by show lg_cmp (f2 0) (Int32.toInt64 r) = 0; rw [hv]; exact zy_cmp _) q3
    by_cases c1 : v = 1
    · refine lv_tableIn (tgt := 200) hx hb dL_law_39 (by rw [c1]; decide) (by rw [c1]; decide) (by rw [c1]; rfl) (by decide) ?_
      obtain ⟨r, B2, S2, hf2, hf3, hI2⟩ := hs_clearText B S hI
      refine lv_aload_n hx hb dL_law_200 rfl (lv_at hl 1 rfl) ?_
      have hPc := zxL_P (zy_P1 hP)
      have hDc := zxL_D (zy_D1 hD)
      have hF := zx_fW hDc hS hA
      refine va_calli (va_runV (As := []) (rest := []) ⟨hx, hb, hml, hown, hts⟩ (c_X2_clearText l D cI cZ cT h hh aa B _ N hf2) (cwV 0 hts (zg_V zw_5_23 zw_6_0 zw_6_1 zw_1_2 zw_6_2) rfl rfl rfl ⟨rfl, zyX2_clearText⟩ ⟨Nat.le_of_ble_eq_true rfl, Nat.le_of_ble_eq_true rfl⟩) ⟨bS_blind, va_recv hK3 hPc (ci := 2) (q0 := 0) rfl rfl, bS_pre hPc hK3 hDc hN⟩ rfl rfl hl.1 rfl (lv_room (Nat.le_of_ble_eq_true rfl)) dL_law_201 ⟨by show 219 + j + 0 ≤ 601024; omega, by show 19600 + 6 * j + 0 ≤ 7293034; omega⟩) hS (fun q _ h => hF q h) hF (fun r1 u t H1 lc ht hvm hw hB hz1 hk1 hS => ?_)
      obtain ⟨hw1, hw2⟩ := Prod.mk.inj hw; subst hw1; subst hw2
      rw [ht] at hB
      replace hP := zy_S1 (by rw [zxL_len, zxL_len]) hP hD (fun q h1 h2 => hk1 q h1 (fun h => h2 (h.elim (fun ⟨k, e, h⟩ => Or.inl ⟨k + 1, e, h⟩) Or.inr))) (zxL_S (zy_P1 hP) (zy_D1 hD) hk1 hB)
      replace hD := zW_D f B2 S hD
      refine lv_aload_n hx hb dL_law_204 rfl (lv_at hl 2 rfl) ?_
      have hF3 := zx_fW (zy_D2 hD) hS hA
      refine va_calli (va_runV (As := []) (rest := [.int r]) ⟨hx, hb, hml, hown, hts⟩ (c_X3_clearText l D cI cZ cT h3 a3 S _ N hf3) (cwV 0 hts (zg_V zw_6_3 zw_6_4 zw_6_5 zw_1_5 zw_6_6) rfl rfl rfl ⟨rfl, zyX3_clearText⟩ ⟨Nat.le_of_ble_eq_true rfl, Nat.le_of_ble_eq_true rfl⟩) ⟨bS_blind, va_recv hK3 (zy_P2 hP) (ci := 3) (q0 := 0) rfl rfl, bS_pre (zy_P2 hP) hK3 (zy_D2 hD) hN⟩ rfl rfl hl.1 rfl (lv_room (Nat.le_of_ble_eq_true rfl)) dL_law_205 ⟨by show 219 + j + 0 + 0 ≤ 601024; omega, by show 19600 + 6 * j + 0 + 0 ≤ 7293034; omega⟩) hS (fun q _ h => hF3 q h) hF3 (fun r3 u t H1 lc ht hvm hw3 hB hz1 hk1 hS => ?_)
      obtain ⟨hw1, hw2⟩ := Prod.mk.inj hw3; subst hw1; subst hw2
      rw [ht] at hB
      replace hP := zy_S2 (w2 := xW3 cI cZ h3 a3 S) (v2 := xW3 cI cZ h3 a3 S2) rfl hP hD hk1 hB
      replace hD := zW_D f B2 S2 hD
      refine lv_icmp_eq (tgt := 1588) hx hb dL_law_208 (by decide) (fun q1 => ?_) (fun q1 => absurd rfl q1)
      refine W.widen (k := 219 + j + 1) (n := 19600 + 6 * j + 6) (by omega) (by omega) ?_
      exact j1588 f B2 S2 _ _ _ hI2 hP hD hS (lv_sub hl [0, 1, 2, 3, 4] rfl)
    by_cases c2 : v = 2
    · refine lv_tableIn (tgt := 213) hx hb dL_law_39 (by rw [c2]; decide) (by rw [c2]; decide) (by rw [c2]; rfl) (by decide) ?_
      obtain ⟨r, B2, S2, hf2, hf3, hI2⟩ := hs_errorPosition B S hI
      refine lv_aload_n hx hb dL_law_213 rfl (lv_at hl 1 rfl) ?_
      have hPc := zxL_P (zy_P1 hP)
      have hDc := zxL_D (zy_D1 hD)
      have hF := zx_fW hDc hS hA
      refine va_calli (va_runV (As := []) (rest := []) ⟨hx, hb, hml, hown, hts⟩ (c_X2_errorPosition l D cI cZ cT h hh aa B _ N hf2) (cwV 0 hts (zg_V zw_6_7 zw_6_8 zw_6_9 zw_1_2 zw_6_10) rfl rfl rfl ⟨rfl, zyX2_errorPosition⟩ ⟨Nat.le_of_ble_eq_true rfl, Nat.le_of_ble_eq_true rfl⟩) ⟨bS_blind, va_recv hK3 hPc (ci := 2) (q0 := 0) rfl rfl, bS_pre hPc hK3 hDc hN⟩ rfl rfl hl.1 rfl (lv_room (Nat.le_of_ble_eq_true rfl)) dL_law_214 ⟨by show 219 + j + 0 ≤ 601024; omega, by show 19600 + 6 * j + 0 ≤ 7293034; omega⟩) hS (fun q _ h => hF q h) hF (fun r1 u t H1 lc ht hvm hw hB hz1 hk1 hS => ?_)
      obtain ⟨hw1, hw2⟩ := Prod.mk.inj hw; subst hw1; subst hw2
      rw [ht] at hB
      replace hP := zy_S1 (by rw [zxL_len, zxL_len]) hP hD (fun q h1 h2 => hk1 q h1 (fun h => h2 (h.elim (fun ⟨k, e, h⟩ => Or.inl ⟨k + 1, e, h⟩) Or.inr))) (zxL_S (zy_P1 hP) (zy_D1 hD) hk1 hB)
      replace hD := zW_D f B2 S hD
      refine lv_aload_n hx hb dL_law_217 rfl (lv_at hl 2 rfl) ?_
      have hF3 := zx_fW (zy_D2 hD) hS hA
      refine va_calli (va_runV (As := []) (rest := [.int r]) ⟨hx, hb, hml, hown, hts⟩ (c_X3_errorPosition l D cI cZ cT h3 a3 S _ N hf3) (cwV 0 hts (zg_V zw_7_6 zw_7_7 zw_7_8 zw_1_5 zw_7_9) rfl rfl rfl ⟨rfl, zyX3_errorPosition⟩ ⟨Nat.le_of_ble_eq_true rfl, Nat.le_of_ble_eq_true rfl⟩) ⟨bS_blind, va_recv hK3 (zy_P2 hP) (ci := 3) (q0 := 0) rfl rfl, bS_pre (zy_P2 hP) hK3 (zy_D2 hD) hN⟩ rfl rfl hl.1 rfl (lv_room (Nat.le_of_ble_eq_true rfl)) dL_law_218 ⟨by show 219 + j + 0 + 0 ≤ 601024; omega, by show 19600 + 6 * j + 0 + 0 ≤ 7293034; omega⟩) hS (fun q _ h => hF3 q h) hF3 (fun r3 u t H1 lc ht hvm hw3 hB hz1 hk1 hS => ?_)
      obtain ⟨hw1, hw2⟩ := Prod.mk.inj hw3; subst hw1; subst hw2
      rw [ht] at hB
      replace hP := zy_S2 (w2 := xW3 cI cZ h3 a3 S) (v2 := xW3 cI cZ h3 a3 S2) rfl hP hD hk1 hB
      replace hD := zW_D f B2 S2 hD
      refine lv_icmp_eq (tgt := 1588) hx hb dL_law_221 (by decide) (fun q1 => ?_) (fun q1 => absurd rfl q1)
      refine W.widen (k := 219 + j + 1) (n := 19600 + 6 * j + 6) (by omega) (by omega) ?_
      exact j1588 f B2 S2 _ _ _ hI2 hP hD hS (lv_sub hl [0, 1, 2, 3, 4] rfl)
    by_cases c3 : v = 3
    · refine lv_tableIn (tgt := 226) hx hb dL_law_39 (by rw [c3]; decide) (by rw [c3]; decide) (by rw [c3]; rfl) (by decide) ?_
      obtain ⟨R, r, S2, hf2, hf3, hI2, hpost⟩ := hs_about ((xs (Int32.toNatClampNeg ((nI i) + 1)))) B S hI
      refine lv_aload_n hx hb dL_law_226 rfl (lv_at hl 1 rfl) ?_
      refine lv_aload_n hx hb dL_law_227 rfl (lv_at hl 0 rfl) ?_
      refine lv_iload hx hb dL_law_228 (lv_at hl 4 rfl) ?_
      refine lv_iconst (v := 1) hx hb dL_law_230 (by decide) ?_
      refine lv_iadd hx hb dL_law_231 ?_
      refine va_sld hx hb hX hbl hbA hS (zy_in (k := 1) hL (by omega)) dL_law_232 ?_
      refine lv_aload_n hx hb dL_law_233 rfl (lv_at hl 3 rfl) ?_
      have hPc := zy_P1 hP
      have hDc := zy_D1 hD
      have hF := zx_fW hDc hS hA
      refine va_calli (vx_runSW (As := [.ref h, .int (xs (Int32.toNatClampNeg ((nI i) + 1))), .ref o]) (rest := []) ⟨hx, hb, hml, hown, hts⟩ (c_L_about l hlt D cI cZ cT cL o h hh aa f B _ N ((xs (Int32.toNatClampNeg ((nI i) + 1)))) hf2 (hpost.elim (fun z => Or.inl z.1) (fun z => Or.inr z.1))) (vx_cwSW 3 hts (zg_S zw_12_9 zw_12_10 zw_4_12 zw_12_11) rfl rfl rfl zyL_about ⟨Nat.le_of_ble_eq_true rfl, Nat.le_of_ble_eq_true rfl⟩) ⟨bY_blind, bY_pre hPc hK hDc hN hXX hNc hS hF⟩ rfl rfl hl.1 rfl (lv_room (Nat.le_of_ble_eq_true rfl)) dL_law_234 ⟨by show 219 + j + 1 ≤ 601024; omega, by show 19600 + 6 * j + 6 ≤ 7293034; omega⟩) hS (fun q _ h => hF q h) hF (fun kr u t H1 lc ht hvm hw hB hz1 hk1 hS => ?_)
      obtain ⟨f2, B2⟩ := u
      obtain ⟨hw, hB2⟩ := hw
      replace hB2 : B2 = R.2.2 := hB2
      rw [← hB2] at hI2
      rw [ht] at hB
      replace hP := zy_S1 (by rw [zxL_len, zxL_len]) hP hD hk1 hB
      replace hD := zW_D f2 B2 S hD
      refine lv_istore (lv' := [(5, .int kr), (0, .ref b), (1, .ref h), (2, .ref h3), (3, .ref o), (4, .int (nI i))]) hx hb dL_law_237 hl (by decide) rfl (fun ls hl => ?_)
      refine lv_aload_n hx hb dL_law_239 rfl (lv_at hl 3 rfl) ?_
      refine lv_aload_n hx hb dL_law_240 rfl (lv_at hl 1 rfl) ?_
      refine lv_iload hx hb dL_law_241 (lv_at hl 5 rfl) ?_
      refine lv_iconst (v := 1) hx hb dL_law_243 (by decide) ?_
      refine lv_iadd hx hb dL_law_244 ?_
      refine va_sld hx hb hX hbl hbA hS (zy_in (k := 1) hL (by omega)) dL_law_245 ?_
      have hF3 := zx_fW (zy_D2 hD) hS hA
      refine va_calli (va_runV (As := [.int (xs (Int32.toNatClampNeg ((nI i) + 1)))]) (rest := []) ⟨hx, hb, hml, hown, hts⟩ (c_X3_about l D cI cZ cT h3 a3 S _ N ((xs (Int32.toNatClampNeg ((nI i) + 1)))) hf3) (cwV 1 hts (zg_V zw_14_8 zw_14_9 zw_14_10 zw_1_5 zw_14_11) rfl rfl rfl ⟨rfl, zyX3_about⟩ ⟨Nat.le_of_ble_eq_true rfl, Nat.le_of_ble_eq_true rfl⟩) ⟨bS_blind, va_recv hK3 (zy_P2 hP) (ci := 3) (q0 := 0) rfl rfl, bS_pre (zy_P2 hP) hK3 (zy_D2 hD) hN⟩ rfl rfl hl.1 rfl (lv_room (Nat.le_of_ble_eq_true rfl)) dL_law_246 ⟨by show 219 + j + 1 + 0 ≤ 601024; omega, by show 19600 + 6 * j + 6 + 0 ≤ 7293034; omega⟩) hS (fun q _ h => hF3 q h) hF3 (fun r3 u t H1 lc ht hvm hw3 hB hz1 hk1 hS => ?_)
      obtain ⟨hw1, hw2⟩ := Prod.mk.inj hw3; subst hw1; subst hw2
      rw [ht] at hB
      replace hP := zy_S2 (w2 := xW3 cI cZ h3 a3 S) (v2 := xW3 cI cZ h3 a3 S2) rfl hP hD hk1 hB
      replace hD := zW_D f2 B2 S2 hD
      refine lv_istore (lv' := [(6, .int r), (5, .int kr), (0, .ref b), (1, .ref h), (2, .ref h3), (3, .ref o), (4, .int (nI i))]) hx hb dL_law_249 hl (by decide) rfl (fun ls hl => ?_)
      refine lv_aload_n hx hb dL_law_251 rfl (lv_at hl 4 rfl) ?_
      refine va_calli (va_runV (As := []) (rest := []) ⟨hx, hb, hml, hown, hts⟩ (c_X3_thrown l D cI cZ cT h3 a3 S2 _ N rfl) (cwV 0 hts (zg_V zw_5_19 zw_5_20 zw_5_21 zw_1_5 zw_5_22) rfl rfl rfl ⟨rfl, zyX3_thrown⟩ ⟨Nat.le_of_ble_eq_true rfl, Nat.le_of_ble_eq_true rfl⟩) ⟨bS_blind, va_recv hK3 (zy_P2 hP) (ci := 3) (q0 := 0) rfl rfl, bS_pre (zy_P2 hP) hK3 (zy_D2 hD) hN⟩ rfl rfl hl.1 rfl (lv_room (Nat.le_of_ble_eq_true rfl)) dL_law_252 ⟨by show 219 + j + 1 + 0 + 0 ≤ 601024; omega, by show 19600 + 6 * j + 6 + 0 + 0 ≤ 7293034; omega⟩) hS (fun q h1 h2 => absurd h1 (Nat.not_lt.mpr h2)) (fun q h => hA q (Nat.le_trans hS.1 h)) (fun rf u t H1 lc ht hvm hrf hB hz1 hk1 hS => ?_)
      replace hrf : S2 12 0 = rf := hrf; subst hrf
      replace hP := zx_keep hP hk1
      refine lv_iload hx hb dL_law_255 (lv_at hl 1 rfl) ?_
      have hkr : S2 12 0 = kr := by
        rcases hpost with z | z
        · rcases hw with y | y
          · rw [z.2.1, y.2.1]
          · exact absurd (z.1.symm.trans y.1) (by decide)
        · rcases hw with y | y
          · exact absurd (z.1.symm.trans y.1) (by decide)
          · rw [z.2, y.2]
      refine lv_icmp_eq (tgt := 262) hx hb dL_law_257 (by decide) (fun q1 => ?_) (fun q1 => absurd hkr q1)
      refine lv_iload hx hb dL_law_262 (lv_at hl 1 rfl) ?_
      have jend : ∀ (H : Heap) (lc : List Loc) (ls : Array Slot), va_P D vwCl (zW cI cZ cT cL o h hh aa h3 a3 f2 B2 S2) H → va_S (fun q : Nat => s.heap.size ≤ q) s.heap H lc → lv_has ls 7 [(6, .int r), (5, .int kr), (0, .ref b), (1, .ref h), (2, .ref h3), (3, .ref o), (4, .int (nI i))] → W p l e room_1 s m #[Value.ref b] below meth c H lc (219 + j + 1 + 0 + 0) (19600 + 6 * j + 6 + 0 + 0) (lw_Z below #[Value.ref b] s) (F0 m 279 ls []) := by
        intro H lc ls hP hS hl
        refine lv_goto (tgt := 1588) hx hb dL_law_279 (by decide) ?_
        exact j1588 f2 B2 S2 _ _ _ hI2 hP hD hS (lv_sub hl [2, 3, 4, 5, 6] rfl)
      refine lv_if_ne (tgt := 279) hx hb dL_law_264 (by decide) (fun q2 => ?_) (fun q2 => ?_)
      · exact jend _ _ _ hP hS hl
      · have hv : f2 0 = Int32.toInt64 r := by
          rcases hpost with z | z
          · rcases hw with y | y
            · rw [← z.2.2]; exact y.2.2
            · exact absurd (z.1.symm.trans y.1) (by decide)
          · exact absurd ((z.2.symm.trans q1).trans q2) (by decide)
        refine lv_aload_n hx hb dL_law_267 rfl (lv_at hl 5 rfl) ?_
        refine lv_iconst (v := 0) hx hb dL_law_268 (by decide) ?_
        refine va_lald (D := D) hx hb hK hP 0 3 rfl rfl (vp_in_nI (n := 0) (N := 1) (by decide) (by decide)) dL_law_269 ?_
        refine lv_iload hx hb dL_law_270 (lv_at hl 0 rfl) ?_
        refine lv_i2l hx hb dL_law_272 rfl ?_
        refine W.lcmp hx hb dL_law_273 ?_
        refine lv_if_eq (tgt := 279) hx hb dL_law_274 (by decide) (fun q3 => ?_) (fun q3 => ?_)
        · exact jend _ _ _ hP hS hl
        · exact absurd (by show lg_cmp (f2 0) (Int32.toInt64 r) = 0; rw [hv]; exact zy_cmp _) q3
    by_cases c4 : v = 4
    · refine lv_tableIn (tgt := 282) hx hb dL_law_39 (by rw [c4]; decide) (by rw [c4]; decide) (by rw [c4]; rfl) (by decide) ?_
      obtain ⟨R, r, S2, hf2, hf3, hI2, hpost⟩ := hs_rectangle ((xs (Int32.toNatClampNeg ((nI i) + 1)))) ((xs (Int32.toNatClampNeg ((nI i) + 2)))) B S hI
      refine lv_aload_n hx hb dL_law_282 rfl (lv_at hl 1 rfl) ?_
      refine lv_aload_n hx hb dL_law_283 rfl (lv_at hl 0 rfl) ?_
      refine lv_iload hx hb dL_law_284 (lv_at hl 4 rfl) ?_
      refine lv_iconst (v := 1) hx hb dL_law_286 (by decide) ?_
      refine lv_iadd hx hb dL_law_287 ?_
      refine va_sld hx hb hX hbl hbA hS (zy_in (k := 1) hL (by omega)) dL_law_288 ?_
      refine lv_aload_n hx hb dL_law_289 rfl (lv_at hl 0 rfl) ?_
      refine lv_iload hx hb dL_law_290 (lv_at hl 4 rfl) ?_
      refine lv_iconst (v := 2) hx hb dL_law_292 (by decide) ?_
      refine lv_iadd hx hb dL_law_293 ?_
      refine va_sld hx hb hX hbl hbA hS (zy_in (k := 2) hL (by omega)) dL_law_294 ?_
      refine lv_aload_n hx hb dL_law_295 rfl (lv_at hl 3 rfl) ?_
      have hPc := zy_P1 hP
      have hDc := zy_D1 hD
      have hF := zx_fW hDc hS hA
      refine va_calli (vx_runSW (As := [.ref h, .int (xs (Int32.toNatClampNeg ((nI i) + 1))), .int (xs (Int32.toNatClampNeg ((nI i) + 2))), .ref o]) (rest := []) ⟨hx, hb, hml, hown, hts⟩ (c_L_rectangle l hlt D cI cZ cT cL o h hh aa f B _ N ((xs (Int32.toNatClampNeg ((nI i) + 1)))) ((xs (Int32.toNatClampNeg ((nI i) + 2)))) hf2 (hpost.elim (fun z => Or.inl z.1) (fun z => Or.inr (z.elim (fun z => Or.inl z.1) (fun z => Or.inr z.1))))) (vx_cwSW 4 hts (zg_S zw_15_7 zw_15_8 zw_4_12 zw_15_9) rfl rfl rfl zyL_rectangle ⟨Nat.le_of_ble_eq_true rfl, Nat.le_of_ble_eq_true rfl⟩) ⟨bY_blind, bY_pre hPc hK hDc hN hXX hNc hS hF⟩ rfl rfl hl.1 rfl (lv_room (Nat.le_of_ble_eq_true rfl)) dL_law_296 ⟨by show 219 + j + 1 ≤ 601024; omega, by show 19600 + 6 * j + 6 ≤ 7293034; omega⟩) hS (fun q _ h => hF q h) hF (fun kr u t H1 lc ht hvm hw hB hz1 hk1 hS => ?_)
      obtain ⟨f2, B2⟩ := u
      obtain ⟨hw, hB2⟩ := hw
      replace hB2 : B2 = R.2.2 := hB2
      rw [← hB2] at hI2
      rw [ht] at hB
      replace hP := zy_S1 (by rw [zxL_len, zxL_len]) hP hD hk1 hB
      replace hD := zW_D f2 B2 S hD
      refine lv_istore (lv' := [(5, .int kr), (0, .ref b), (1, .ref h), (2, .ref h3), (3, .ref o), (4, .int (nI i))]) hx hb dL_law_299 hl (by decide) rfl (fun ls hl => ?_)
      refine lv_aload_n hx hb dL_law_301 rfl (lv_at hl 3 rfl) ?_
      refine lv_aload_n hx hb dL_law_302 rfl (lv_at hl 1 rfl) ?_
      refine lv_iload hx hb dL_law_303 (lv_at hl 5 rfl) ?_
      refine lv_iconst (v := 1) hx hb dL_law_305 (by decide) ?_
      refine lv_iadd hx hb dL_law_306 ?_
      refine va_sld hx hb hX hbl hbA hS (zy_in (k := 1) hL (by omega)) dL_law_307 ?_
      refine lv_aload_n hx hb dL_law_308 rfl (lv_at hl 1 rfl) ?_
      refine lv_iload hx hb dL_law_309 (lv_at hl 5 rfl) ?_
      refine lv_iconst (v := 2) hx hb dL_law_311 (by decide) ?_
      refine lv_iadd hx hb dL_law_312 ?_
      refine va_sld hx hb hX hbl hbA hS (zy_in (k := 2) hL (by omega)) dL_law_313 ?_
      have hF3 := zx_fW (zy_D2 hD) hS hA
      refine va_calli (va_runV (As := [.int (xs (Int32.toNatClampNeg ((nI i) + 1))), .int (xs (Int32.toNatClampNeg ((nI i) + 2)))]) (rest := []) ⟨hx, hb, hml, hown, hts⟩ (c_X3_rectangle l D cI cZ cT h3 a3 S _ N ((xs (Int32.toNatClampNeg ((nI i) + 1)))) ((xs (Int32.toNatClampNeg ((nI i) + 2)))) hf3) (cwV 2 hts (zg_V zw_16_9 zw_16_10 zw_16_11 zw_1_5 zw_16_12) rfl rfl rfl ⟨rfl, zyX3_rectangle⟩ ⟨Nat.le_of_ble_eq_true rfl, Nat.le_of_ble_eq_true rfl⟩) ⟨bS_blind, va_recv hK3 (zy_P2 hP) (ci := 3) (q0 := 0) rfl rfl, bS_pre (zy_P2 hP) hK3 (zy_D2 hD) hN⟩ rfl rfl hl.1 rfl (lv_room (Nat.le_of_ble_eq_true rfl)) dL_law_314 ⟨by show 219 + j + 1 + 0 ≤ 601024; omega, by show 19600 + 6 * j + 6 + 0 ≤ 7293034; omega⟩) hS (fun q _ h => hF3 q h) hF3 (fun r3 u t H1 lc ht hvm hw3 hB hz1 hk1 hS => ?_)
      obtain ⟨hw1, hw2⟩ := Prod.mk.inj hw3; subst hw1; subst hw2
      rw [ht] at hB
      replace hP := zy_S2 (w2 := xW3 cI cZ h3 a3 S) (v2 := xW3 cI cZ h3 a3 S2) rfl hP hD hk1 hB
      replace hD := zW_D f2 B2 S2 hD
      refine lv_istore (lv' := [(6, .int r), (5, .int kr), (0, .ref b), (1, .ref h), (2, .ref h3), (3, .ref o), (4, .int (nI i))]) hx hb dL_law_317 hl (by decide) rfl (fun ls hl => ?_)
      refine lv_aload_n hx hb dL_law_319 rfl (lv_at hl 4 rfl) ?_
      refine va_calli (va_runV (As := []) (rest := []) ⟨hx, hb, hml, hown, hts⟩ (c_X3_thrown l D cI cZ cT h3 a3 S2 _ N rfl) (cwV 0 hts (zg_V zw_5_19 zw_5_20 zw_5_21 zw_1_5 zw_5_22) rfl rfl rfl ⟨rfl, zyX3_thrown⟩ ⟨Nat.le_of_ble_eq_true rfl, Nat.le_of_ble_eq_true rfl⟩) ⟨bS_blind, va_recv hK3 (zy_P2 hP) (ci := 3) (q0 := 0) rfl rfl, bS_pre (zy_P2 hP) hK3 (zy_D2 hD) hN⟩ rfl rfl hl.1 rfl (lv_room (Nat.le_of_ble_eq_true rfl)) dL_law_320 ⟨by show 219 + j + 1 + 0 + 0 ≤ 601024; omega, by show 19600 + 6 * j + 6 + 0 + 0 ≤ 7293034; omega⟩) hS (fun q h1 h2 => absurd h1 (Nat.not_lt.mpr h2)) (fun q h => hA q (Nat.le_trans hS.1 h)) (fun rf u t H1 lc ht hvm hrf hB hz1 hk1 hS => ?_)
      replace hrf : S2 12 0 = rf := hrf; subst hrf
      replace hP := zx_keep hP hk1
      refine lv_iload hx hb dL_law_323 (lv_at hl 1 rfl) ?_
      have hkr : S2 12 0 = kr := by
        rcases hpost with z | z | z
        · rcases hw with y | y | y
          · rw [z.2.1, y.2.1]
          · exact absurd (z.1.symm.trans y.1) (by decide)
          · exact absurd (z.1.symm.trans y.1) (by decide)
        · rcases hw with y | y | y
          · exact absurd (z.1.symm.trans y.1) (by decide)
          · rw [z.2, y.2]
          · exact absurd (z.1.symm.trans y.1) (by decide)
        · rcases hw with y | y | y
          · exact absurd (z.1.symm.trans y.1) (by decide)
          · exact absurd (z.1.symm.trans y.1) (by decide)
          · rw [z.2, y.2]
      refine lv_icmp_eq (tgt := 330) hx hb dL_law_325 (by decide) (fun q1 => ?_) (fun q1 => absurd hkr q1)
      refine lv_iload hx hb dL_law_330 (lv_at hl 1 rfl) ?_
      have jend : ∀ (H : Heap) (lc : List Loc) (ls : Array Slot), va_P D vwCl (zW cI cZ cT cL o h hh aa h3 a3 f2 B2 S2) H → va_S (fun q : Nat => s.heap.size ≤ q) s.heap H lc → lv_has ls 7 [(6, .int r), (5, .int kr), (0, .ref b), (1, .ref h), (2, .ref h3), (3, .ref o), (4, .int (nI i))] → W p l e room_1 s m #[Value.ref b] below meth c H lc (219 + j + 1 + 0 + 0) (19600 + 6 * j + 6 + 0 + 0) (lw_Z below #[Value.ref b] s) (F0 m 347 ls []) := by
        intro H lc ls hP hS hl
        refine lv_goto (tgt := 1588) hx hb dL_law_347 (by decide) ?_
        exact j1588 f2 B2 S2 _ _ _ hI2 hP hD hS (lv_sub hl [2, 3, 4, 5, 6] rfl)
      refine lv_if_ne (tgt := 347) hx hb dL_law_332 (by decide) (fun q2 => ?_) (fun q2 => ?_)
      · exact jend _ _ _ hP hS hl
      · have hv : f2 0 = Int32.toInt64 r := by
          rcases hpost with z | z | z
          · rcases hw with y | y | y
            · rw [← z.2.2]; exact y.2.2
            · exact absurd (z.1.symm.trans y.1) (by decide)
            · exact absurd (z.1.symm.trans y.1) (by decide)
          · exact absurd ((z.2.symm.trans q1).trans q2) (by decide)
          · exact absurd ((z.2.symm.trans q1).trans q2) (by decide)
        refine lv_aload_n hx hb dL_law_335 rfl (lv_at hl 5 rfl) ?_
        refine lv_iconst (v := 0) hx hb dL_law_336 (by decide) ?_
        refine va_lald (D := D) hx hb hK hP 0 3 rfl rfl (vp_in_nI (n := 0) (N := 1) (by decide) (by decide)) dL_law_337 ?_
        refine lv_iload hx hb dL_law_338 (lv_at hl 0 rfl) ?_
        refine lv_i2l hx hb dL_law_340 rfl ?_
        refine W.lcmp hx hb dL_law_341 ?_
        refine lv_if_eq (tgt := 347) hx hb dL_law_342 (by decide) (fun q3 => ?_) (fun q3 => ?_)
        · exact jend _ _ _ hP hS hl
        · exact absurd (by show lg_cmp (f2 0) (Int32.toInt64 r) = 0; rw [hv]; exact zy_cmp _) q3
    by_cases c5 : v = 5
    · refine lv_tableIn (tgt := 350) hx hb dL_law_39 (by rw [c5]; decide) (by rw [c5]; decide) (by rw [c5]; rfl) (by decide) ?_
      obtain ⟨R, r, S2, hf2, hf3, hI2, hpost⟩ := hs_node ((xs (Int32.toNatClampNeg ((nI i) + 1)))) ((xs (Int32.toNatClampNeg ((nI i) + 2)))) B S hI
      refine lv_aload_n hx hb dL_law_350 rfl (lv_at hl 1 rfl) ?_
      refine lv_aload_n hx hb dL_law_351 rfl (lv_at hl 0 rfl) ?_
      refine lv_iload hx hb dL_law_352 (lv_at hl 4 rfl) ?_
      refine lv_iconst (v := 1) hx hb dL_law_354 (by decide) ?_
      refine lv_iadd hx hb dL_law_355 ?_
      refine va_sld hx hb hX hbl hbA hS (zy_in (k := 1) hL (by omega)) dL_law_356 ?_
      refine lv_aload_n hx hb dL_law_357 rfl (lv_at hl 0 rfl) ?_
      refine lv_iload hx hb dL_law_358 (lv_at hl 4 rfl) ?_
      refine lv_iconst (v := 2) hx hb dL_law_360 (by decide) ?_
      refine lv_iadd hx hb dL_law_361 ?_
      refine va_sld hx hb hX hbl hbA hS (zy_in (k := 2) hL (by omega)) dL_law_362 ?_
      refine lv_aload_n hx hb dL_law_363 rfl (lv_at hl 3 rfl) ?_
      have hPc := zy_P1 hP
      have hDc := zy_D1 hD
      have hF := zx_fW hDc hS hA
      refine va_calli (vx_runSW (As := [.ref h, .int (xs (Int32.toNatClampNeg ((nI i) + 1))), .int (xs (Int32.toNatClampNeg ((nI i) + 2))), .ref o]) (rest := []) ⟨hx, hb, hml, hown, hts⟩ (c_L_node l hlt D cI cZ cT cL o h hh aa f B _ N ((xs (Int32.toNatClampNeg ((nI i) + 1)))) ((xs (Int32.toNatClampNeg ((nI i) + 2)))) hf2 (hpost.elim (fun z => Or.inl z.1) (fun z => Or.inr (z.elim (fun z => Or.inl z.1) (fun z => Or.inr z.1))))) (vx_cwSW 4 hts (zg_S zw_16_22 zw_16_23 zw_4_12 zw_17_0) rfl rfl rfl zyL_node ⟨Nat.le_of_ble_eq_true rfl, Nat.le_of_ble_eq_true rfl⟩) ⟨bY_blind, bY_pre hPc hK hDc hN hXX hNc hS hF⟩ rfl rfl hl.1 rfl (lv_room (Nat.le_of_ble_eq_true rfl)) dL_law_364 ⟨by show 219 + j + 1 ≤ 601024; omega, by show 19600 + 6 * j + 6 ≤ 7293034; omega⟩) hS (fun q _ h => hF q h) hF (fun kr u t H1 lc ht hvm hw hB hz1 hk1 hS => ?_)
      obtain ⟨f2, B2⟩ := u
      obtain ⟨hw, hB2⟩ := hw
      replace hB2 : B2 = R.2.2 := hB2
      rw [← hB2] at hI2
      rw [ht] at hB
      replace hP := zy_S1 (by rw [zxL_len, zxL_len]) hP hD hk1 hB
      replace hD := zW_D f2 B2 S hD
      refine lv_istore (lv' := [(5, .int kr), (0, .ref b), (1, .ref h), (2, .ref h3), (3, .ref o), (4, .int (nI i))]) hx hb dL_law_367 hl (by decide) rfl (fun ls hl => ?_)
      refine lv_aload_n hx hb dL_law_369 rfl (lv_at hl 3 rfl) ?_
      refine lv_aload_n hx hb dL_law_370 rfl (lv_at hl 1 rfl) ?_
      refine lv_iload hx hb dL_law_371 (lv_at hl 5 rfl) ?_
      refine lv_iconst (v := 1) hx hb dL_law_373 (by decide) ?_
      refine lv_iadd hx hb dL_law_374 ?_
      refine va_sld hx hb hX hbl hbA hS (zy_in (k := 1) hL (by omega)) dL_law_375 ?_
      refine lv_aload_n hx hb dL_law_376 rfl (lv_at hl 1 rfl) ?_
      refine lv_iload hx hb dL_law_377 (lv_at hl 5 rfl) ?_
      refine lv_iconst (v := 2) hx hb dL_law_379 (by decide) ?_
      refine lv_iadd hx hb dL_law_380 ?_
      refine va_sld hx hb hX hbl hbA hS (zy_in (k := 2) hL (by omega)) dL_law_381 ?_
      have hF3 := zx_fW (zy_D2 hD) hS hA
      refine va_calli (va_runV (As := [.int (xs (Int32.toNatClampNeg ((nI i) + 1))), .int (xs (Int32.toNatClampNeg ((nI i) + 2)))]) (rest := []) ⟨hx, hb, hml, hown, hts⟩ (c_X3_node l D cI cZ cT h3 a3 S _ N ((xs (Int32.toNatClampNeg ((nI i) + 1)))) ((xs (Int32.toNatClampNeg ((nI i) + 2)))) hf3) (cwV 2 hts (zg_V zw_17_13 zw_17_14 zw_17_15 zw_1_5 zw_17_16) rfl rfl rfl ⟨rfl, zyX3_node⟩ ⟨Nat.le_of_ble_eq_true rfl, Nat.le_of_ble_eq_true rfl⟩) ⟨bS_blind, va_recv hK3 (zy_P2 hP) (ci := 3) (q0 := 0) rfl rfl, bS_pre (zy_P2 hP) hK3 (zy_D2 hD) hN⟩ rfl rfl hl.1 rfl (lv_room (Nat.le_of_ble_eq_true rfl)) dL_law_382 ⟨by show 219 + j + 1 + 0 ≤ 601024; omega, by show 19600 + 6 * j + 6 + 0 ≤ 7293034; omega⟩) hS (fun q _ h => hF3 q h) hF3 (fun r3 u t H1 lc ht hvm hw3 hB hz1 hk1 hS => ?_)
      obtain ⟨hw1, hw2⟩ := Prod.mk.inj hw3; subst hw1; subst hw2
      rw [ht] at hB
      replace hP := zy_S2 (w2 := xW3 cI cZ h3 a3 S) (v2 := xW3 cI cZ h3 a3 S2) rfl hP hD hk1 hB
      replace hD := zW_D f2 B2 S2 hD
      refine lv_istore (lv' := [(6, .int r), (5, .int kr), (0, .ref b), (1, .ref h), (2, .ref h3), (3, .ref o), (4, .int (nI i))]) hx hb dL_law_385 hl (by decide) rfl (fun ls hl => ?_)
      refine lv_aload_n hx hb dL_law_387 rfl (lv_at hl 4 rfl) ?_
      refine va_calli (va_runV (As := []) (rest := []) ⟨hx, hb, hml, hown, hts⟩ (c_X3_thrown l D cI cZ cT h3 a3 S2 _ N rfl) (cwV 0 hts (zg_V zw_5_19 zw_5_20 zw_5_21 zw_1_5 zw_5_22) rfl rfl rfl ⟨rfl, zyX3_thrown⟩ ⟨Nat.le_of_ble_eq_true rfl, Nat.le_of_ble_eq_true rfl⟩) ⟨bS_blind, va_recv hK3 (zy_P2 hP) (ci := 3) (q0 := 0) rfl rfl, bS_pre (zy_P2 hP) hK3 (zy_D2 hD) hN⟩ rfl rfl hl.1 rfl (lv_room (Nat.le_of_ble_eq_true rfl)) dL_law_388 ⟨by show 219 + j + 1 + 0 + 0 ≤ 601024; omega, by show 19600 + 6 * j + 6 + 0 + 0 ≤ 7293034; omega⟩) hS (fun q h1 h2 => absurd h1 (Nat.not_lt.mpr h2)) (fun q h => hA q (Nat.le_trans hS.1 h)) (fun rf u t H1 lc ht hvm hrf hB hz1 hk1 hS => ?_)
      replace hrf : S2 12 0 = rf := hrf; subst hrf
      replace hP := zx_keep hP hk1
      refine lv_iload hx hb dL_law_391 (lv_at hl 1 rfl) ?_
      have hkr : S2 12 0 = kr := by
        rcases hpost with z | z | z
        · rcases hw with y | y | y
          · rw [z.2.1, y.2.1]
          · exact absurd (z.1.symm.trans y.1) (by decide)
          · exact absurd (z.1.symm.trans y.1) (by decide)
        · rcases hw with y | y | y
          · exact absurd (z.1.symm.trans y.1) (by decide)
          · rw [z.2, y.2]
          · exact absurd (z.1.symm.trans y.1) (by decide)
        · rcases hw with y | y | y
          · exact absurd (z.1.symm.trans y.1) (by decide)
          · exact absurd (z.1.symm.trans y.1) (by decide)
          · rw [z.2, y.2]
      refine lv_icmp_eq (tgt := 398) hx hb dL_law_393 (by decide) (fun q1 => ?_) (fun q1 => absurd hkr q1)
      refine lv_iload hx hb dL_law_398 (lv_at hl 1 rfl) ?_
      have jend : ∀ (H : Heap) (lc : List Loc) (ls : Array Slot), va_P D vwCl (zW cI cZ cT cL o h hh aa h3 a3 f2 B2 S2) H → va_S (fun q : Nat => s.heap.size ≤ q) s.heap H lc → lv_has ls 7 [(6, .int r), (5, .int kr), (0, .ref b), (1, .ref h), (2, .ref h3), (3, .ref o), (4, .int (nI i))] → W p l e room_1 s m #[Value.ref b] below meth c H lc (219 + j + 1 + 0 + 0) (19600 + 6 * j + 6 + 0 + 0) (lw_Z below #[Value.ref b] s) (F0 m 415 ls []) := by
        intro H lc ls hP hS hl
        refine lv_goto (tgt := 1588) hx hb dL_law_415 (by decide) ?_
        exact j1588 f2 B2 S2 _ _ _ hI2 hP hD hS (lv_sub hl [2, 3, 4, 5, 6] rfl)
      refine lv_if_ne (tgt := 415) hx hb dL_law_400 (by decide) (fun q2 => ?_) (fun q2 => ?_)
      · exact jend _ _ _ hP hS hl
      · have hv : f2 0 = Int32.toInt64 r := by
          rcases hpost with z | z | z
          · rcases hw with y | y | y
            · rw [← z.2.2]; exact y.2.2
            · exact absurd (z.1.symm.trans y.1) (by decide)
            · exact absurd (z.1.symm.trans y.1) (by decide)
          · exact absurd ((z.2.symm.trans q1).trans q2) (by decide)
          · exact absurd ((z.2.symm.trans q1).trans q2) (by decide)
        refine lv_aload_n hx hb dL_law_403 rfl (lv_at hl 5 rfl) ?_
        refine lv_iconst (v := 0) hx hb dL_law_404 (by decide) ?_
        refine va_lald (D := D) hx hb hK hP 0 3 rfl rfl (vp_in_nI (n := 0) (N := 1) (by decide) (by decide)) dL_law_405 ?_
        refine lv_iload hx hb dL_law_406 (lv_at hl 0 rfl) ?_
        refine lv_i2l hx hb dL_law_408 rfl ?_
        refine W.lcmp hx hb dL_law_409 ?_
        refine lv_if_eq (tgt := 415) hx hb dL_law_410 (by decide) (fun q3 => ?_) (fun q3 => ?_)
        · exact jend _ _ _ hP hS hl
        · exact absurd (by show lg_cmp (f2 0) (Int32.toInt64 r) = 0; rw [hv]; exact zy_cmp _) q3
    by_cases c6 : v = 6
    · refine lv_tableIn (tgt := 418) hx hb dL_law_39 (by rw [c6]; decide) (by rw [c6]; decide) (by rw [c6]; rfl) (by decide) ?_
      obtain ⟨R, r, S2, hf2, hf3, hI2, hpost⟩ := hs_entry ((xs (Int32.toNatClampNeg ((nI i) + 1)))) ((xs (Int32.toNatClampNeg ((nI i) + 2)))) B S hI
      refine lv_aload_n hx hb dL_law_418 rfl (lv_at hl 1 rfl) ?_
      refine lv_aload_n hx hb dL_law_419 rfl (lv_at hl 0 rfl) ?_
      refine lv_iload hx hb dL_law_420 (lv_at hl 4 rfl) ?_
      refine lv_iconst (v := 1) hx hb dL_law_422 (by decide) ?_
      refine lv_iadd hx hb dL_law_423 ?_
      refine va_sld hx hb hX hbl hbA hS (zy_in (k := 1) hL (by omega)) dL_law_424 ?_
      refine lv_aload_n hx hb dL_law_425 rfl (lv_at hl 0 rfl) ?_
      refine lv_iload hx hb dL_law_426 (lv_at hl 4 rfl) ?_
      refine lv_iconst (v := 2) hx hb dL_law_428 (by decide) ?_
      refine lv_iadd hx hb dL_law_429 ?_
      refine va_sld hx hb hX hbl hbA hS (zy_in (k := 2) hL (by omega)) dL_law_430 ?_
      refine lv_aload_n hx hb dL_law_431 rfl (lv_at hl 3 rfl) ?_
      have hPc := zy_P1 hP
      have hDc := zy_D1 hD
      have hF := zx_fW hDc hS hA
      refine va_calli (vx_runSW (As := [.ref h, .int (xs (Int32.toNatClampNeg ((nI i) + 1))), .int (xs (Int32.toNatClampNeg ((nI i) + 2))), .ref o]) (rest := []) ⟨hx, hb, hml, hown, hts⟩ (c_L_entry l hlt D cI cZ cT cL o h hh aa f B _ N ((xs (Int32.toNatClampNeg ((nI i) + 1)))) ((xs (Int32.toNatClampNeg ((nI i) + 2)))) hf2 (hpost.elim (fun z => Or.inl z.1) (fun z => Or.inr (z.elim (fun z => Or.inl z.1) (fun z => Or.inr z.1))))) (vx_cwSW 4 hts (zg_S zw_17_18 zw_17_19 zw_4_12 zw_17_20) rfl rfl rfl zyL_entry ⟨Nat.le_of_ble_eq_true rfl, Nat.le_of_ble_eq_true rfl⟩) ⟨bY_blind, bY_pre hPc hK hDc hN hXX hNc hS hF⟩ rfl rfl hl.1 rfl (lv_room (Nat.le_of_ble_eq_true rfl)) dL_law_432 ⟨by show 219 + j + 1 ≤ 601024; omega, by show 19600 + 6 * j + 6 ≤ 7293034; omega⟩) hS (fun q _ h => hF q h) hF (fun kr u t H1 lc ht hvm hw hB hz1 hk1 hS => ?_)
      obtain ⟨f2, B2⟩ := u
      obtain ⟨hw, hB2⟩ := hw
      replace hB2 : B2 = R.2.2 := hB2
      rw [← hB2] at hI2
      rw [ht] at hB
      replace hP := zy_S1 (by rw [zxL_len, zxL_len]) hP hD hk1 hB
      replace hD := zW_D f2 B2 S hD
      refine lv_istore (lv' := [(5, .int kr), (0, .ref b), (1, .ref h), (2, .ref h3), (3, .ref o), (4, .int (nI i))]) hx hb dL_law_435 hl (by decide) rfl (fun ls hl => ?_)
      refine lv_aload_n hx hb dL_law_437 rfl (lv_at hl 3 rfl) ?_
      refine lv_aload_n hx hb dL_law_438 rfl (lv_at hl 1 rfl) ?_
      refine lv_iload hx hb dL_law_439 (lv_at hl 5 rfl) ?_
      refine lv_iconst (v := 1) hx hb dL_law_441 (by decide) ?_
      refine lv_iadd hx hb dL_law_442 ?_
      refine va_sld hx hb hX hbl hbA hS (zy_in (k := 1) hL (by omega)) dL_law_443 ?_
      refine lv_aload_n hx hb dL_law_444 rfl (lv_at hl 1 rfl) ?_
      refine lv_iload hx hb dL_law_445 (lv_at hl 5 rfl) ?_
      refine lv_iconst (v := 2) hx hb dL_law_447 (by decide) ?_
      refine lv_iadd hx hb dL_law_448 ?_
      refine va_sld hx hb hX hbl hbA hS (zy_in (k := 2) hL (by omega)) dL_law_449 ?_
      have hF3 := zx_fW (zy_D2 hD) hS hA
      refine va_calli (va_runV (As := [.int (xs (Int32.toNatClampNeg ((nI i) + 1))), .int (xs (Int32.toNatClampNeg ((nI i) + 2)))]) (rest := []) ⟨hx, hb, hml, hown, hts⟩ (c_X3_entry l D cI cZ cT h3 a3 S _ N ((xs (Int32.toNatClampNeg ((nI i) + 1)))) ((xs (Int32.toNatClampNeg ((nI i) + 2)))) hf3) (cwV 2 hts (zg_V zw_18_5 zw_18_6 zw_18_7 zw_1_5 zw_18_8) rfl rfl rfl ⟨rfl, zyX3_entry⟩ ⟨Nat.le_of_ble_eq_true rfl, Nat.le_of_ble_eq_true rfl⟩) ⟨bS_blind, va_recv hK3 (zy_P2 hP) (ci := 3) (q0 := 0) rfl rfl, bS_pre (zy_P2 hP) hK3 (zy_D2 hD) hN⟩ rfl rfl hl.1 rfl (lv_room (Nat.le_of_ble_eq_true rfl)) dL_law_450 ⟨by show 219 + j + 1 + 0 ≤ 601024; omega, by show 19600 + 6 * j + 6 + 0 ≤ 7293034; omega⟩) hS (fun q _ h => hF3 q h) hF3 (fun r3 u t H1 lc ht hvm hw3 hB hz1 hk1 hS => ?_)
      obtain ⟨hw1, hw2⟩ := Prod.mk.inj hw3; subst hw1; subst hw2
      rw [ht] at hB
      replace hP := zy_S2 (w2 := xW3 cI cZ h3 a3 S) (v2 := xW3 cI cZ h3 a3 S2) rfl hP hD hk1 hB
      replace hD := zW_D f2 B2 S2 hD
      refine lv_istore (lv' := [(6, .int r), (5, .int kr), (0, .ref b), (1, .ref h), (2, .ref h3), (3, .ref o), (4, .int (nI i))]) hx hb dL_law_453 hl (by decide) rfl (fun ls hl => ?_)
      refine lv_aload_n hx hb dL_law_455 rfl (lv_at hl 4 rfl) ?_
      refine va_calli (va_runV (As := []) (rest := []) ⟨hx, hb, hml, hown, hts⟩ (c_X3_thrown l D cI cZ cT h3 a3 S2 _ N rfl) (cwV 0 hts (zg_V zw_5_19 zw_5_20 zw_5_21 zw_1_5 zw_5_22) rfl rfl rfl ⟨rfl, zyX3_thrown⟩ ⟨Nat.le_of_ble_eq_true rfl, Nat.le_of_ble_eq_true rfl⟩) ⟨bS_blind, va_recv hK3 (zy_P2 hP) (ci := 3) (q0 := 0) rfl rfl, bS_pre (zy_P2 hP) hK3 (zy_D2 hD) hN⟩ rfl rfl hl.1 rfl (lv_room (Nat.le_of_ble_eq_true rfl)) dL_law_456 ⟨by show 219 + j + 1 + 0 + 0 ≤ 601024; omega, by show 19600 + 6 * j + 6 + 0 + 0 ≤ 7293034; omega⟩) hS (fun q h1 h2 => absurd h1 (Nat.not_lt.mpr h2)) (fun q h => hA q (Nat.le_trans hS.1 h)) (fun rf u t H1 lc ht hvm hrf hB hz1 hk1 hS => ?_)
      replace hrf : S2 12 0 = rf := hrf; subst hrf
      replace hP := zx_keep hP hk1
      refine lv_iload hx hb dL_law_459 (lv_at hl 1 rfl) ?_
      have hkr : S2 12 0 = kr := by
        rcases hpost with z | z | z
        · rcases hw with y | y | y
          · rw [z.2.1, y.2.1]
          · exact absurd (z.1.symm.trans y.1) (by decide)
          · exact absurd (z.1.symm.trans y.1) (by decide)
        · rcases hw with y | y | y
          · exact absurd (z.1.symm.trans y.1) (by decide)
          · rw [z.2, y.2]
          · exact absurd (z.1.symm.trans y.1) (by decide)
        · rcases hw with y | y | y
          · exact absurd (z.1.symm.trans y.1) (by decide)
          · exact absurd (z.1.symm.trans y.1) (by decide)
          · rw [z.2, y.2]
      refine lv_icmp_eq (tgt := 466) hx hb dL_law_461 (by decide) (fun q1 => ?_) (fun q1 => absurd hkr q1)
      refine lv_iload hx hb dL_law_466 (lv_at hl 1 rfl) ?_
      have jend : ∀ (H : Heap) (lc : List Loc) (ls : Array Slot), va_P D vwCl (zW cI cZ cT cL o h hh aa h3 a3 f2 B2 S2) H → va_S (fun q : Nat => s.heap.size ≤ q) s.heap H lc → lv_has ls 7 [(6, .int r), (5, .int kr), (0, .ref b), (1, .ref h), (2, .ref h3), (3, .ref o), (4, .int (nI i))] → W p l e room_1 s m #[Value.ref b] below meth c H lc (219 + j + 1 + 0 + 0) (19600 + 6 * j + 6 + 0 + 0) (lw_Z below #[Value.ref b] s) (F0 m 483 ls []) := by
        intro H lc ls hP hS hl
        refine lv_goto (tgt := 1588) hx hb dL_law_483 (by decide) ?_
        exact j1588 f2 B2 S2 _ _ _ hI2 hP hD hS (lv_sub hl [2, 3, 4, 5, 6] rfl)
      refine lv_if_ne (tgt := 483) hx hb dL_law_468 (by decide) (fun q2 => ?_) (fun q2 => ?_)
      · exact jend _ _ _ hP hS hl
      · have hv : f2 0 = Int32.toInt64 r := by
          rcases hpost with z | z | z
          · rcases hw with y | y | y
            · rw [← z.2.2]; exact y.2.2
            · exact absurd (z.1.symm.trans y.1) (by decide)
            · exact absurd (z.1.symm.trans y.1) (by decide)
          · exact absurd ((z.2.symm.trans q1).trans q2) (by decide)
          · exact absurd ((z.2.symm.trans q1).trans q2) (by decide)
        refine lv_aload_n hx hb dL_law_471 rfl (lv_at hl 5 rfl) ?_
        refine lv_iconst (v := 0) hx hb dL_law_472 (by decide) ?_
        refine va_lald (D := D) hx hb hK hP 0 3 rfl rfl (vp_in_nI (n := 0) (N := 1) (by decide) (by decide)) dL_law_473 ?_
        refine lv_iload hx hb dL_law_474 (lv_at hl 0 rfl) ?_
        refine lv_i2l hx hb dL_law_476 rfl ?_
        refine W.lcmp hx hb dL_law_477 ?_
        refine lv_if_eq (tgt := 483) hx hb dL_law_478 (by decide) (fun q3 => ?_) (fun q3 => ?_)
        · exact jend _ _ _ hP hS hl
        · exact absurd (by show lg_cmp (f2 0) (Int32.toInt64 r) = 0; rw [hv]; exact zy_cmp _) q3
    by_cases c7 : v = 7
    · refine lv_tableIn (tgt := 486) hx hb dL_law_39 (by rw [c7]; decide) (by rw [c7]; decide) (by rw [c7]; rfl) (by decide) ?_
      obtain ⟨R, r, S2, hf2, hf3, hI2, hpost⟩ := hs_add ((xs (Int32.toNatClampNeg ((nI i) + 1)))) ((xs (Int32.toNatClampNeg ((nI i) + 2)))) ((xs (Int32.toNatClampNeg ((nI i) + 3)))) ((xs (Int32.toNatClampNeg ((nI i) + 4)))) B S hI
      refine lv_aload_n hx hb dL_law_486 rfl (lv_at hl 1 rfl) ?_
      refine lv_aload_n hx hb dL_law_487 rfl (lv_at hl 0 rfl) ?_
      refine lv_iload hx hb dL_law_488 (lv_at hl 4 rfl) ?_
      refine lv_iconst (v := 1) hx hb dL_law_490 (by decide) ?_
      refine lv_iadd hx hb dL_law_491 ?_
      refine va_sld hx hb hX hbl hbA hS (zy_in (k := 1) hL (by omega)) dL_law_492 ?_
      refine lv_aload_n hx hb dL_law_493 rfl (lv_at hl 0 rfl) ?_
      refine lv_iload hx hb dL_law_494 (lv_at hl 4 rfl) ?_
      refine lv_iconst (v := 2) hx hb dL_law_496 (by decide) ?_
      refine lv_iadd hx hb dL_law_497 ?_
      refine va_sld hx hb hX hbl hbA hS (zy_in (k := 2) hL (by omega)) dL_law_498 ?_
      refine lv_aload_n hx hb dL_law_499 rfl (lv_at hl 0 rfl) ?_
      refine lv_iload hx hb dL_law_500 (lv_at hl 4 rfl) ?_
      refine lv_iconst (v := 3) hx hb dL_law_502 (by decide) ?_
      refine lv_iadd hx hb dL_law_503 ?_
      refine va_sld hx hb hX hbl hbA hS (zy_in (k := 3) hL (by omega)) dL_law_504 ?_
      refine lv_aload_n hx hb dL_law_505 rfl (lv_at hl 0 rfl) ?_
      refine lv_iload hx hb dL_law_506 (lv_at hl 4 rfl) ?_
      refine lv_iconst (v := 4) hx hb dL_law_508 (by decide) ?_
      refine lv_iadd hx hb dL_law_509 ?_
      refine va_sld hx hb hX hbl hbA hS (zy_in (k := 4) hL (by omega)) dL_law_510 ?_
      refine lv_aload_n hx hb dL_law_511 rfl (lv_at hl 3 rfl) ?_
      have hPc := zy_P1 hP
      have hDc := zy_D1 hD
      have hF := zx_fW hDc hS hA
      refine va_calli (vx_runSW (As := [.ref h, .int (xs (Int32.toNatClampNeg ((nI i) + 1))), .int (xs (Int32.toNatClampNeg ((nI i) + 2))), .int (xs (Int32.toNatClampNeg ((nI i) + 3))), .int (xs (Int32.toNatClampNeg ((nI i) + 4))), .ref o]) (rest := []) ⟨hx, hb, hml, hown, hts⟩ (c_L_add l hlt D cI cZ cT cL o h hh aa f B _ N ((xs (Int32.toNatClampNeg ((nI i) + 1)))) ((xs (Int32.toNatClampNeg ((nI i) + 2)))) ((xs (Int32.toNatClampNeg ((nI i) + 3)))) ((xs (Int32.toNatClampNeg ((nI i) + 4)))) hf2 (hpost.elim (fun z => Or.inl z.1) (fun z => Or.inr (z.elim (fun z => Or.inl z.1) (fun z => Or.inr z.1))))) (vx_cwSW 6 hts (zg_S zw_18_9 zw_18_10 zw_4_12 zw_18_11) rfl rfl rfl zyL_add ⟨Nat.le_of_ble_eq_true rfl, Nat.le_of_ble_eq_true rfl⟩) ⟨bY_blind, bY_pre hPc hK hDc hN hXX hNc hS hF⟩ rfl rfl hl.1 rfl (lv_room (Nat.le_of_ble_eq_true rfl)) dL_law_512 ⟨by show 219 + j + 1 ≤ 601024; omega, by show 19600 + 6 * j + 6 ≤ 7293034; omega⟩) hS (fun q _ h => hF q h) hF (fun kr u t H1 lc ht hvm hw hB hz1 hk1 hS => ?_)
      obtain ⟨f2, B2⟩ := u
      obtain ⟨hw, hB2⟩ := hw
      replace hB2 : B2 = R.2.2 := hB2
      rw [← hB2] at hI2
      rw [ht] at hB
      replace hP := zy_S1 (by rw [zxL_len, zxL_len]) hP hD hk1 hB
      replace hD := zW_D f2 B2 S hD
      refine lv_istore (lv' := [(5, .int kr), (0, .ref b), (1, .ref h), (2, .ref h3), (3, .ref o), (4, .int (nI i))]) hx hb dL_law_515 hl (by decide) rfl (fun ls hl => ?_)
      refine lv_aload_n hx hb dL_law_517 rfl (lv_at hl 3 rfl) ?_
      refine lv_aload_n hx hb dL_law_518 rfl (lv_at hl 1 rfl) ?_
      refine lv_iload hx hb dL_law_519 (lv_at hl 5 rfl) ?_
      refine lv_iconst (v := 1) hx hb dL_law_521 (by decide) ?_
      refine lv_iadd hx hb dL_law_522 ?_
      refine va_sld hx hb hX hbl hbA hS (zy_in (k := 1) hL (by omega)) dL_law_523 ?_
      refine lv_aload_n hx hb dL_law_524 rfl (lv_at hl 1 rfl) ?_
      refine lv_iload hx hb dL_law_525 (lv_at hl 5 rfl) ?_
      refine lv_iconst (v := 2) hx hb dL_law_527 (by decide) ?_
      refine lv_iadd hx hb dL_law_528 ?_
      refine va_sld hx hb hX hbl hbA hS (zy_in (k := 2) hL (by omega)) dL_law_529 ?_
      refine lv_aload_n hx hb dL_law_530 rfl (lv_at hl 1 rfl) ?_
      refine lv_iload hx hb dL_law_531 (lv_at hl 5 rfl) ?_
      refine lv_iconst (v := 3) hx hb dL_law_533 (by decide) ?_
      refine lv_iadd hx hb dL_law_534 ?_
      refine va_sld hx hb hX hbl hbA hS (zy_in (k := 3) hL (by omega)) dL_law_535 ?_
      refine lv_aload_n hx hb dL_law_536 rfl (lv_at hl 1 rfl) ?_
      refine lv_iload hx hb dL_law_537 (lv_at hl 5 rfl) ?_
      refine lv_iconst (v := 4) hx hb dL_law_539 (by decide) ?_
      refine lv_iadd hx hb dL_law_540 ?_
      refine va_sld hx hb hX hbl hbA hS (zy_in (k := 4) hL (by omega)) dL_law_541 ?_
      have hF3 := zx_fW (zy_D2 hD) hS hA
      refine va_calli (va_runV (As := [.int (xs (Int32.toNatClampNeg ((nI i) + 1))), .int (xs (Int32.toNatClampNeg ((nI i) + 2))), .int (xs (Int32.toNatClampNeg ((nI i) + 3))), .int (xs (Int32.toNatClampNeg ((nI i) + 4)))]) (rest := []) ⟨hx, hb, hml, hown, hts⟩ (c_X3_add l D cI cZ cT h3 a3 S _ N ((xs (Int32.toNatClampNeg ((nI i) + 1)))) ((xs (Int32.toNatClampNeg ((nI i) + 2)))) ((xs (Int32.toNatClampNeg ((nI i) + 3)))) ((xs (Int32.toNatClampNeg ((nI i) + 4)))) hf3) (cwV 4 hts (zg_V zw_22_15 zw_22_16 zw_22_17 zw_1_5 zw_22_18) rfl rfl rfl ⟨rfl, zyX3_add⟩ ⟨Nat.le_of_ble_eq_true rfl, Nat.le_of_ble_eq_true rfl⟩) ⟨bS_blind, va_recv hK3 (zy_P2 hP) (ci := 3) (q0 := 0) rfl rfl, bS_pre (zy_P2 hP) hK3 (zy_D2 hD) hN⟩ rfl rfl hl.1 rfl (lv_room (Nat.le_of_ble_eq_true rfl)) dL_law_542 ⟨by show 219 + j + 1 + 0 ≤ 601024; omega, by show 19600 + 6 * j + 6 + 0 ≤ 7293034; omega⟩) hS (fun q _ h => hF3 q h) hF3 (fun r3 u t H1 lc ht hvm hw3 hB hz1 hk1 hS => ?_)
      obtain ⟨hw1, hw2⟩ := Prod.mk.inj hw3; subst hw1; subst hw2
      rw [ht] at hB
      replace hP := zy_S2 (w2 := xW3 cI cZ h3 a3 S) (v2 := xW3 cI cZ h3 a3 S2) rfl hP hD hk1 hB
      replace hD := zW_D f2 B2 S2 hD
      refine lv_istore (lv' := [(6, .int r), (5, .int kr), (0, .ref b), (1, .ref h), (2, .ref h3), (3, .ref o), (4, .int (nI i))]) hx hb dL_law_545 hl (by decide) rfl (fun ls hl => ?_)
      refine lv_aload_n hx hb dL_law_547 rfl (lv_at hl 4 rfl) ?_
      refine va_calli (va_runV (As := []) (rest := []) ⟨hx, hb, hml, hown, hts⟩ (c_X3_thrown l D cI cZ cT h3 a3 S2 _ N rfl) (cwV 0 hts (zg_V zw_5_19 zw_5_20 zw_5_21 zw_1_5 zw_5_22) rfl rfl rfl ⟨rfl, zyX3_thrown⟩ ⟨Nat.le_of_ble_eq_true rfl, Nat.le_of_ble_eq_true rfl⟩) ⟨bS_blind, va_recv hK3 (zy_P2 hP) (ci := 3) (q0 := 0) rfl rfl, bS_pre (zy_P2 hP) hK3 (zy_D2 hD) hN⟩ rfl rfl hl.1 rfl (lv_room (Nat.le_of_ble_eq_true rfl)) dL_law_548 ⟨by show 219 + j + 1 + 0 + 0 ≤ 601024; omega, by show 19600 + 6 * j + 6 + 0 + 0 ≤ 7293034; omega⟩) hS (fun q h1 h2 => absurd h1 (Nat.not_lt.mpr h2)) (fun q h => hA q (Nat.le_trans hS.1 h)) (fun rf u t H1 lc ht hvm hrf hB hz1 hk1 hS => ?_)
      replace hrf : S2 12 0 = rf := hrf; subst hrf
      replace hP := zx_keep hP hk1
      refine lv_iload hx hb dL_law_551 (lv_at hl 1 rfl) ?_
      have hkr : S2 12 0 = kr := by
        rcases hpost with z | z | z
        · rcases hw with y | y | y
          · rw [z.2.1, y.2.1]
          · exact absurd (z.1.symm.trans y.1) (by decide)
          · exact absurd (z.1.symm.trans y.1) (by decide)
        · rcases hw with y | y | y
          · exact absurd (z.1.symm.trans y.1) (by decide)
          · rw [z.2, y.2]
          · exact absurd (z.1.symm.trans y.1) (by decide)
        · rcases hw with y | y | y
          · exact absurd (z.1.symm.trans y.1) (by decide)
          · exact absurd (z.1.symm.trans y.1) (by decide)
          · rw [z.2, y.2]
      refine lv_icmp_eq (tgt := 558) hx hb dL_law_553 (by decide) (fun q1 => ?_) (fun q1 => absurd hkr q1)
      refine lv_iload hx hb dL_law_558 (lv_at hl 1 rfl) ?_
      have jend : ∀ (H : Heap) (lc : List Loc) (ls : Array Slot), va_P D vwCl (zW cI cZ cT cL o h hh aa h3 a3 f2 B2 S2) H → va_S (fun q : Nat => s.heap.size ≤ q) s.heap H lc → lv_has ls 7 [(6, .int r), (5, .int kr), (0, .ref b), (1, .ref h), (2, .ref h3), (3, .ref o), (4, .int (nI i))] → W p l e room_1 s m #[Value.ref b] below meth c H lc (219 + j + 1 + 0 + 0) (19600 + 6 * j + 6 + 0 + 0) (lw_Z below #[Value.ref b] s) (F0 m 575 ls []) := by
        intro H lc ls hP hS hl
        refine lv_goto (tgt := 1588) hx hb dL_law_575 (by decide) ?_
        exact j1588 f2 B2 S2 _ _ _ hI2 hP hD hS (lv_sub hl [2, 3, 4, 5, 6] rfl)
      refine lv_if_ne (tgt := 575) hx hb dL_law_560 (by decide) (fun q2 => ?_) (fun q2 => ?_)
      · exact jend _ _ _ hP hS hl
      · have hv : f2 0 = Int32.toInt64 r := by
          rcases hpost with z | z | z
          · rcases hw with y | y | y
            · rw [← z.2.2]; exact y.2.2
            · exact absurd (z.1.symm.trans y.1) (by decide)
            · exact absurd (z.1.symm.trans y.1) (by decide)
          · exact absurd ((z.2.symm.trans q1).trans q2) (by decide)
          · exact absurd ((z.2.symm.trans q1).trans q2) (by decide)
        refine lv_aload_n hx hb dL_law_563 rfl (lv_at hl 5 rfl) ?_
        refine lv_iconst (v := 0) hx hb dL_law_564 (by decide) ?_
        refine va_lald (D := D) hx hb hK hP 0 3 rfl rfl (vp_in_nI (n := 0) (N := 1) (by decide) (by decide)) dL_law_565 ?_
        refine lv_iload hx hb dL_law_566 (lv_at hl 0 rfl) ?_
        refine lv_i2l hx hb dL_law_568 rfl ?_
        refine W.lcmp hx hb dL_law_569 ?_
        refine lv_if_eq (tgt := 575) hx hb dL_law_570 (by decide) (fun q3 => ?_) (fun q3 => ?_)
        · exact jend _ _ _ hP hS hl
        · exact absurd (by show lg_cmp (f2 0) (Int32.toInt64 r) = 0; rw [hv]; exact zy_cmp _) q3
    by_cases c8 : v = 8
    · refine lv_tableIn (tgt := 578) hx hb dL_law_39 (by rw [c8]; decide) (by rw [c8]; decide) (by rw [c8]; rfl) (by decide) ?_
      obtain ⟨R, r, S2, hf2, hf3, hI2, hpost⟩ := hs_addAll B S hI
      refine lv_aload_n hx hb dL_law_578 rfl (lv_at hl 1 rfl) ?_
      refine lv_aload_n hx hb dL_law_579 rfl (lv_at hl 3 rfl) ?_
      have hPc := zy_P1 hP
      have hDc := zy_D1 hD
      have hF := zx_fW hDc hS hA
      refine va_calli (vx_runSW (As := [.ref h, .ref o]) (rest := []) ⟨hx, hb, hml, hown, hts⟩ (c_L_addAll l hlt D cI cZ cT cL o h hh aa f B _ N hf2 (hpost.elim (fun z => Or.inl z.1) (fun z => Or.inr z.1))) (vx_cwSW 2 hts (zg_S zw_23_7 zw_23_8 zw_4_12 zw_23_9) rfl rfl rfl zyL_addAll ⟨Nat.le_of_ble_eq_true rfl, Nat.le_of_ble_eq_true rfl⟩) ⟨bY_blind, bY_pre hPc hK hDc hN hXX hNc hS hF⟩ rfl rfl hl.1 rfl (lv_room (Nat.le_of_ble_eq_true rfl)) dL_law_580 ⟨by show 219 + j + 1 ≤ 601024; omega, by show 19600 + 6 * j + 6 ≤ 7293034; omega⟩) hS (fun q _ h => hF q h) hF (fun kr u t H1 lc ht hvm hw hB hz1 hk1 hS => ?_)
      obtain ⟨f2, B2⟩ := u
      obtain ⟨hw, hB2⟩ := hw
      replace hB2 : B2 = R.2.2 := hB2
      rw [← hB2] at hI2
      rw [ht] at hB
      replace hP := zy_S1 (by rw [zxL_len, zxL_len]) hP hD hk1 hB
      replace hD := zW_D f2 B2 S hD
      refine lv_istore (lv' := [(5, .int kr), (0, .ref b), (1, .ref h), (2, .ref h3), (3, .ref o), (4, .int (nI i))]) hx hb dL_law_583 hl (by decide) rfl (fun ls hl => ?_)
      refine lv_aload_n hx hb dL_law_585 rfl (lv_at hl 3 rfl) ?_
      have hF3 := zx_fW (zy_D2 hD) hS hA
      refine va_calli (va_runV (As := []) (rest := []) ⟨hx, hb, hml, hown, hts⟩ (c_X3_addAll l D cI cZ cT h3 a3 S _ N hf3) (cwV 0 hts (zg_V zw_23_18 zw_23_19 zw_23_20 zw_1_5 zw_23_21) rfl rfl rfl ⟨rfl, zyX3_addAll⟩ ⟨Nat.le_of_ble_eq_true rfl, Nat.le_of_ble_eq_true rfl⟩) ⟨bS_blind, va_recv hK3 (zy_P2 hP) (ci := 3) (q0 := 0) rfl rfl, bS_pre (zy_P2 hP) hK3 (zy_D2 hD) hN⟩ rfl rfl hl.1 rfl (lv_room (Nat.le_of_ble_eq_true rfl)) dL_law_586 ⟨by show 219 + j + 1 + 0 ≤ 601024; omega, by show 19600 + 6 * j + 6 + 0 ≤ 7293034; omega⟩) hS (fun q _ h => hF3 q h) hF3 (fun r3 u t H1 lc ht hvm hw3 hB hz1 hk1 hS => ?_)
      obtain ⟨hw1, hw2⟩ := Prod.mk.inj hw3; subst hw1; subst hw2
      rw [ht] at hB
      replace hP := zy_S2 (w2 := xW3 cI cZ h3 a3 S) (v2 := xW3 cI cZ h3 a3 S2) rfl hP hD hk1 hB
      replace hD := zW_D f2 B2 S2 hD
      refine lv_istore (lv' := [(6, .int r), (5, .int kr), (0, .ref b), (1, .ref h), (2, .ref h3), (3, .ref o), (4, .int (nI i))]) hx hb dL_law_589 hl (by decide) rfl (fun ls hl => ?_)
      refine lv_aload_n hx hb dL_law_591 rfl (lv_at hl 4 rfl) ?_
      refine va_calli (va_runV (As := []) (rest := []) ⟨hx, hb, hml, hown, hts⟩ (c_X3_thrown l D cI cZ cT h3 a3 S2 _ N rfl) (cwV 0 hts (zg_V zw_5_19 zw_5_20 zw_5_21 zw_1_5 zw_5_22) rfl rfl rfl ⟨rfl, zyX3_thrown⟩ ⟨Nat.le_of_ble_eq_true rfl, Nat.le_of_ble_eq_true rfl⟩) ⟨bS_blind, va_recv hK3 (zy_P2 hP) (ci := 3) (q0 := 0) rfl rfl, bS_pre (zy_P2 hP) hK3 (zy_D2 hD) hN⟩ rfl rfl hl.1 rfl (lv_room (Nat.le_of_ble_eq_true rfl)) dL_law_592 ⟨by show 219 + j + 1 + 0 + 0 ≤ 601024; omega, by show 19600 + 6 * j + 6 + 0 + 0 ≤ 7293034; omega⟩) hS (fun q h1 h2 => absurd h1 (Nat.not_lt.mpr h2)) (fun q h => hA q (Nat.le_trans hS.1 h)) (fun rf u t H1 lc ht hvm hrf hB hz1 hk1 hS => ?_)
      replace hrf : S2 12 0 = rf := hrf; subst hrf
      replace hP := zx_keep hP hk1
      refine lv_iload hx hb dL_law_595 (lv_at hl 1 rfl) ?_
      have hkr : S2 12 0 = kr := by
        rcases hpost with z | z
        · rcases hw with y | y
          · rw [z.2.1, y.2.1]
          · exact absurd (z.1.symm.trans y.1) (by decide)
        · rcases hw with y | y
          · exact absurd (z.1.symm.trans y.1) (by decide)
          · rw [z.2, y.2]
      refine lv_icmp_eq (tgt := 602) hx hb dL_law_597 (by decide) (fun q1 => ?_) (fun q1 => absurd hkr q1)
      refine lv_iload hx hb dL_law_602 (lv_at hl 1 rfl) ?_
      have jend : ∀ (H : Heap) (lc : List Loc) (ls : Array Slot), va_P D vwCl (zW cI cZ cT cL o h hh aa h3 a3 f2 B2 S2) H → va_S (fun q : Nat => s.heap.size ≤ q) s.heap H lc → lv_has ls 7 [(6, .int r), (5, .int kr), (0, .ref b), (1, .ref h), (2, .ref h3), (3, .ref o), (4, .int (nI i))] → W p l e room_1 s m #[Value.ref b] below meth c H lc (219 + j + 1 + 0 + 0) (19600 + 6 * j + 6 + 0 + 0) (lw_Z below #[Value.ref b] s) (F0 m 619 ls []) := by
        intro H lc ls hP hS hl
        refine lv_goto (tgt := 1588) hx hb dL_law_619 (by decide) ?_
        exact j1588 f2 B2 S2 _ _ _ hI2 hP hD hS (lv_sub hl [2, 3, 4, 5, 6] rfl)
      refine lv_if_ne (tgt := 619) hx hb dL_law_604 (by decide) (fun q2 => ?_) (fun q2 => ?_)
      · exact jend _ _ _ hP hS hl
      · have hv : f2 0 = Int32.toInt64 r := by
          rcases hpost with z | z
          · rcases hw with y | y
            · rw [← z.2.2]; exact y.2.2
            · exact absurd (z.1.symm.trans y.1) (by decide)
          · exact absurd ((z.2.symm.trans q1).trans q2) (by decide)
        refine lv_aload_n hx hb dL_law_607 rfl (lv_at hl 5 rfl) ?_
        refine lv_iconst (v := 0) hx hb dL_law_608 (by decide) ?_
        refine va_lald (D := D) hx hb hK hP 0 3 rfl rfl (vp_in_nI (n := 0) (N := 1) (by decide) (by decide)) dL_law_609 ?_
        refine lv_iload hx hb dL_law_610 (lv_at hl 0 rfl) ?_
        refine lv_i2l hx hb dL_law_612 rfl ?_
        refine W.lcmp hx hb dL_law_613 ?_
        refine lv_if_eq (tgt := 619) hx hb dL_law_614 (by decide) (fun q3 => ?_) (fun q3 => ?_)
        · exact jend _ _ _ hP hS hl
        · exact absurd (by show lg_cmp (f2 0) (Int32.toInt64 r) = 0; rw [hv]; exact zy_cmp _) q3
    by_cases c9 : v = 9
    · refine lv_tableIn (tgt := 622) hx hb dL_law_39 (by rw [c9]; decide) (by rw [c9]; decide) (by rw [c9]; rfl) (by decide) ?_
      obtain ⟨R, r, S2, hf2, hf3, hI2, hpost⟩ := hs_remove ((xs (Int32.toNatClampNeg ((nI i) + 1)))) B S hI
      refine lv_aload_n hx hb dL_law_622 rfl (lv_at hl 1 rfl) ?_
      refine lv_aload_n hx hb dL_law_623 rfl (lv_at hl 0 rfl) ?_
      refine lv_iload hx hb dL_law_624 (lv_at hl 4 rfl) ?_
      refine lv_iconst (v := 1) hx hb dL_law_626 (by decide) ?_
      refine lv_iadd hx hb dL_law_627 ?_
      refine va_sld hx hb hX hbl hbA hS (zy_in (k := 1) hL (by omega)) dL_law_628 ?_
      refine lv_aload_n hx hb dL_law_629 rfl (lv_at hl 3 rfl) ?_
      have hPc := zy_P1 hP
      have hDc := zy_D1 hD
      have hF := zx_fW hDc hS hA
      refine va_calli (vx_runSW (As := [.ref h, .int (xs (Int32.toNatClampNeg ((nI i) + 1))), .ref o]) (rest := []) ⟨hx, hb, hml, hown, hts⟩ (c_L_remove l hlt D cI cZ cT cL o h hh aa f B _ N ((xs (Int32.toNatClampNeg ((nI i) + 1)))) hf2 (hpost.elim (fun z => Or.inl z.1) (fun z => Or.inr z.1))) (vx_cwSW 3 hts (zg_S zw_23_22 zw_23_23 zw_4_12 zw_24_0) rfl rfl rfl zyL_remove ⟨Nat.le_of_ble_eq_true rfl, Nat.le_of_ble_eq_true rfl⟩) ⟨bY_blind, bY_pre hPc hK hDc hN hXX hNc hS hF⟩ rfl rfl hl.1 rfl (lv_room (Nat.le_of_ble_eq_true rfl)) dL_law_630 ⟨by show 219 + j + 1 ≤ 601024; omega, by show 19600 + 6 * j + 6 ≤ 7293034; omega⟩) hS (fun q _ h => hF q h) hF (fun kr u t H1 lc ht hvm hw hB hz1 hk1 hS => ?_)
      obtain ⟨f2, B2⟩ := u
      obtain ⟨hw, hB2⟩ := hw
      replace hB2 : B2 = R.2.2 := hB2
      rw [← hB2] at hI2
      rw [ht] at hB
      replace hP := zy_S1 (by rw [zxL_len, zxL_len]) hP hD hk1 hB
      replace hD := zW_D f2 B2 S hD
      refine lv_istore (lv' := [(5, .int kr), (0, .ref b), (1, .ref h), (2, .ref h3), (3, .ref o), (4, .int (nI i))]) hx hb dL_law_633 hl (by decide) rfl (fun ls hl => ?_)
      refine lv_aload_n hx hb dL_law_635 rfl (lv_at hl 3 rfl) ?_
      refine lv_aload_n hx hb dL_law_636 rfl (lv_at hl 1 rfl) ?_
      refine lv_iload hx hb dL_law_637 (lv_at hl 5 rfl) ?_
      refine lv_iconst (v := 1) hx hb dL_law_639 (by decide) ?_
      refine lv_iadd hx hb dL_law_640 ?_
      refine va_sld hx hb hX hbl hbA hS (zy_in (k := 1) hL (by omega)) dL_law_641 ?_
      have hF3 := zx_fW (zy_D2 hD) hS hA
      refine va_calli (va_runV (As := [.int (xs (Int32.toNatClampNeg ((nI i) + 1)))]) (rest := []) ⟨hx, hb, hml, hown, hts⟩ (c_X3_remove l D cI cZ cT h3 a3 S _ N ((xs (Int32.toNatClampNeg ((nI i) + 1)))) hf3) (cwV 1 hts (zg_V zw_24_14 zw_24_15 zw_24_16 zw_1_5 zw_24_17) rfl rfl rfl ⟨rfl, zyX3_remove⟩ ⟨Nat.le_of_ble_eq_true rfl, Nat.le_of_ble_eq_true rfl⟩) ⟨bS_blind, va_recv hK3 (zy_P2 hP) (ci := 3) (q0 := 0) rfl rfl, bS_pre (zy_P2 hP) hK3 (zy_D2 hD) hN⟩ rfl rfl hl.1 rfl (lv_room (Nat.le_of_ble_eq_true rfl)) dL_law_642 ⟨by show 219 + j + 1 + 0 ≤ 601024; omega, by show 19600 + 6 * j + 6 + 0 ≤ 7293034; omega⟩) hS (fun q _ h => hF3 q h) hF3 (fun r3 u t H1 lc ht hvm hw3 hB hz1 hk1 hS => ?_)
      obtain ⟨hw1, hw2⟩ := Prod.mk.inj hw3; subst hw1; subst hw2
      rw [ht] at hB
      replace hP := zy_S2 (w2 := xW3 cI cZ h3 a3 S) (v2 := xW3 cI cZ h3 a3 S2) rfl hP hD hk1 hB
      replace hD := zW_D f2 B2 S2 hD
      refine lv_istore (lv' := [(6, .int r), (5, .int kr), (0, .ref b), (1, .ref h), (2, .ref h3), (3, .ref o), (4, .int (nI i))]) hx hb dL_law_645 hl (by decide) rfl (fun ls hl => ?_)
      refine lv_aload_n hx hb dL_law_647 rfl (lv_at hl 4 rfl) ?_
      refine va_calli (va_runV (As := []) (rest := []) ⟨hx, hb, hml, hown, hts⟩ (c_X3_thrown l D cI cZ cT h3 a3 S2 _ N rfl) (cwV 0 hts (zg_V zw_5_19 zw_5_20 zw_5_21 zw_1_5 zw_5_22) rfl rfl rfl ⟨rfl, zyX3_thrown⟩ ⟨Nat.le_of_ble_eq_true rfl, Nat.le_of_ble_eq_true rfl⟩) ⟨bS_blind, va_recv hK3 (zy_P2 hP) (ci := 3) (q0 := 0) rfl rfl, bS_pre (zy_P2 hP) hK3 (zy_D2 hD) hN⟩ rfl rfl hl.1 rfl (lv_room (Nat.le_of_ble_eq_true rfl)) dL_law_648 ⟨by show 219 + j + 1 + 0 + 0 ≤ 601024; omega, by show 19600 + 6 * j + 6 + 0 + 0 ≤ 7293034; omega⟩) hS (fun q h1 h2 => absurd h1 (Nat.not_lt.mpr h2)) (fun q h => hA q (Nat.le_trans hS.1 h)) (fun rf u t H1 lc ht hvm hrf hB hz1 hk1 hS => ?_)
      replace hrf : S2 12 0 = rf := hrf; subst hrf
      replace hP := zx_keep hP hk1
      refine lv_iload hx hb dL_law_651 (lv_at hl 1 rfl) ?_
      have hkr : S2 12 0 = kr := by
        rcases hpost with z | z
        · rcases hw with y | y
          · rw [z.2.1, y.2.1]
          · exact absurd (z.1.symm.trans y.1) (by decide)
        · rcases hw with y | y
          · exact absurd (z.1.symm.trans y.1) (by decide)
          · rw [z.2, y.2]
      refine lv_icmp_eq (tgt := 658) hx hb dL_law_653 (by decide) (fun q1 => ?_) (fun q1 => absurd hkr q1)
      refine lv_iload hx hb dL_law_658 (lv_at hl 1 rfl) ?_
      have jend : ∀ (H : Heap) (lc : List Loc) (ls : Array Slot), va_P D vwCl (zW cI cZ cT cL o h hh aa h3 a3 f2 B2 S2) H → va_S (fun q : Nat => s.heap.size ≤ q) s.heap H lc → lv_has ls 7 [(6, .int r), (5, .int kr), (0, .ref b), (1, .ref h), (2, .ref h3), (3, .ref o), (4, .int (nI i))] → W p l e room_1 s m #[Value.ref b] below meth c H lc (219 + j + 1 + 0 + 0) (19600 + 6 * j + 6 + 0 + 0) (lw_Z below #[Value.ref b] s) (F0 m 675 ls []) := by
        intro H lc ls hP hS hl
        refine lv_goto (tgt := 1588) hx hb dL_law_675 (by decide) ?_
        exact j1588 f2 B2 S2 _ _ _ hI2 hP hD hS (lv_sub hl [2, 3, 4, 5, 6] rfl)
      refine lv_if_ne (tgt := 675) hx hb dL_law_660 (by decide) (fun q2 => ?_) (fun q2 => ?_)
      · exact jend _ _ _ hP hS hl
      · have hv : f2 0 = Int32.toInt64 r := by
          rcases hpost with z | z
          · rcases hw with y | y
            · rw [← z.2.2]; exact y.2.2
            · exact absurd (z.1.symm.trans y.1) (by decide)
          · exact absurd ((z.2.symm.trans q1).trans q2) (by decide)
        refine lv_aload_n hx hb dL_law_663 rfl (lv_at hl 5 rfl) ?_
        refine lv_iconst (v := 0) hx hb dL_law_664 (by decide) ?_
        refine va_lald (D := D) hx hb hK hP 0 3 rfl rfl (vp_in_nI (n := 0) (N := 1) (by decide) (by decide)) dL_law_665 ?_
        refine lv_iload hx hb dL_law_666 (lv_at hl 0 rfl) ?_
        refine lv_i2l hx hb dL_law_668 rfl ?_
        refine W.lcmp hx hb dL_law_669 ?_
        refine lv_if_eq (tgt := 675) hx hb dL_law_670 (by decide) (fun q3 => ?_) (fun q3 => ?_)
        · exact jend _ _ _ hP hS hl
        · exact absurd (by show lg_cmp (f2 0) (Int32.toInt64 r) = 0; rw [hv]; exact zy_cmp _) q3
    by_cases c10 : v = 10
    · refine lv_tableIn (tgt := 678) hx hb dL_law_39 (by rw [c10]; decide) (by rw [c10]; decide) (by rw [c10]; rfl) (by decide) ?_
      obtain ⟨R, r, S2, hf2, hf3, hI2, hpost⟩ := hs_move ((xs (Int32.toNatClampNeg ((nI i) + 1)))) ((xs (Int32.toNatClampNeg ((nI i) + 2)))) ((xs (Int32.toNatClampNeg ((nI i) + 3)))) B S hI
      refine lv_aload_n hx hb dL_law_678 rfl (lv_at hl 1 rfl) ?_
      refine lv_aload_n hx hb dL_law_679 rfl (lv_at hl 0 rfl) ?_
      refine lv_iload hx hb dL_law_680 (lv_at hl 4 rfl) ?_
      refine lv_iconst (v := 1) hx hb dL_law_682 (by decide) ?_
      refine lv_iadd hx hb dL_law_683 ?_
      refine va_sld hx hb hX hbl hbA hS (zy_in (k := 1) hL (by omega)) dL_law_684 ?_
      refine lv_aload_n hx hb dL_law_685 rfl (lv_at hl 0 rfl) ?_
      refine lv_iload hx hb dL_law_686 (lv_at hl 4 rfl) ?_
      refine lv_iconst (v := 2) hx hb dL_law_688 (by decide) ?_
      refine lv_iadd hx hb dL_law_689 ?_
      refine va_sld hx hb hX hbl hbA hS (zy_in (k := 2) hL (by omega)) dL_law_690 ?_
      refine lv_aload_n hx hb dL_law_691 rfl (lv_at hl 0 rfl) ?_
      refine lv_iload hx hb dL_law_692 (lv_at hl 4 rfl) ?_
      refine lv_iconst (v := 3) hx hb dL_law_694 (by decide) ?_
      refine lv_iadd hx hb dL_law_695 ?_
      refine va_sld hx hb hX hbl hbA hS (zy_in (k := 3) hL (by omega)) dL_law_696 ?_
      refine lv_aload_n hx hb dL_law_697 rfl (lv_at hl 3 rfl) ?_
      have hPc := zy_P1 hP
      have hDc := zy_D1 hD
      have hF := zx_fW hDc hS hA
      refine va_calli (vx_runSW (As := [.ref h, .int (xs (Int32.toNatClampNeg ((nI i) + 1))), .int (xs (Int32.toNatClampNeg ((nI i) + 2))), .int (xs (Int32.toNatClampNeg ((nI i) + 3))), .ref o]) (rest := []) ⟨hx, hb, hml, hown, hts⟩ (c_L_move l hlt D cI cZ cT cL o h hh aa f B _ N ((xs (Int32.toNatClampNeg ((nI i) + 1)))) ((xs (Int32.toNatClampNeg ((nI i) + 2)))) ((xs (Int32.toNatClampNeg ((nI i) + 3)))) hf2 (hpost.elim (fun z => Or.inl z.1) (fun z => Or.inr (z.elim (fun z => Or.inl z.1) (fun z => Or.inr (z.elim (fun z => Or.inl z.1) (fun z => Or.inr z.1))))))) (vx_cwSW 5 hts (zg_S zw_25_5 zw_25_6 zw_4_12 zw_25_7) rfl rfl rfl zyL_move ⟨Nat.le_of_ble_eq_true rfl, Nat.le_of_ble_eq_true rfl⟩) ⟨bY_blind, bY_pre hPc hK hDc hN hXX hNc hS hF⟩ rfl rfl hl.1 rfl (lv_room (Nat.le_of_ble_eq_true rfl)) dL_law_698 ⟨by show 219 + j + 1 ≤ 601024; omega, by show 19600 + 6 * j + 6 ≤ 7293034; omega⟩) hS (fun q _ h => hF q h) hF (fun kr u t H1 lc ht hvm hw hB hz1 hk1 hS => ?_)
      obtain ⟨f2, B2⟩ := u
      obtain ⟨hw, hB2⟩ := hw
      replace hB2 : B2 = R.2.2 := hB2
      rw [← hB2] at hI2
      rw [ht] at hB
      replace hP := zy_S1 (by rw [zxL_len, zxL_len]) hP hD hk1 hB
      replace hD := zW_D f2 B2 S hD
      refine lv_istore (lv' := [(5, .int kr), (0, .ref b), (1, .ref h), (2, .ref h3), (3, .ref o), (4, .int (nI i))]) hx hb dL_law_701 hl (by decide) rfl (fun ls hl => ?_)
      refine lv_aload_n hx hb dL_law_703 rfl (lv_at hl 3 rfl) ?_
      refine lv_aload_n hx hb dL_law_704 rfl (lv_at hl 1 rfl) ?_
      refine lv_iload hx hb dL_law_705 (lv_at hl 5 rfl) ?_
      refine lv_iconst (v := 1) hx hb dL_law_707 (by decide) ?_
      refine lv_iadd hx hb dL_law_708 ?_
      refine va_sld hx hb hX hbl hbA hS (zy_in (k := 1) hL (by omega)) dL_law_709 ?_
      refine lv_aload_n hx hb dL_law_710 rfl (lv_at hl 1 rfl) ?_
      refine lv_iload hx hb dL_law_711 (lv_at hl 5 rfl) ?_
      refine lv_iconst (v := 2) hx hb dL_law_713 (by decide) ?_
      refine lv_iadd hx hb dL_law_714 ?_
      refine va_sld hx hb hX hbl hbA hS (zy_in (k := 2) hL (by omega)) dL_law_715 ?_
      refine lv_aload_n hx hb dL_law_716 rfl (lv_at hl 1 rfl) ?_
      refine lv_iload hx hb dL_law_717 (lv_at hl 5 rfl) ?_
      refine lv_iconst (v := 3) hx hb dL_law_719 (by decide) ?_
      refine lv_iadd hx hb dL_law_720 ?_
      refine va_sld hx hb hX hbl hbA hS (zy_in (k := 3) hL (by omega)) dL_law_721 ?_
      have hF3 := zx_fW (zy_D2 hD) hS hA
      refine va_calli (va_runV (As := [.int (xs (Int32.toNatClampNeg ((nI i) + 1))), .int (xs (Int32.toNatClampNeg ((nI i) + 2))), .int (xs (Int32.toNatClampNeg ((nI i) + 3)))]) (rest := []) ⟨hx, hb, hml, hown, hts⟩ (c_X3_move l D cI cZ cT h3 a3 S _ N ((xs (Int32.toNatClampNeg ((nI i) + 1)))) ((xs (Int32.toNatClampNeg ((nI i) + 2)))) ((xs (Int32.toNatClampNeg ((nI i) + 3)))) hf3) (cwV 3 hts (zg_V zw_25_22 zw_25_23 zw_26_0 zw_1_5 zw_26_1) rfl rfl rfl ⟨rfl, zyX3_move⟩ ⟨Nat.le_of_ble_eq_true rfl, Nat.le_of_ble_eq_true rfl⟩) ⟨bS_blind, va_recv hK3 (zy_P2 hP) (ci := 3) (q0 := 0) rfl rfl, bS_pre (zy_P2 hP) hK3 (zy_D2 hD) hN⟩ rfl rfl hl.1 rfl (lv_room (Nat.le_of_ble_eq_true rfl)) dL_law_722 ⟨by show 219 + j + 1 + 0 ≤ 601024; omega, by show 19600 + 6 * j + 6 + 0 ≤ 7293034; omega⟩) hS (fun q _ h => hF3 q h) hF3 (fun r3 u t H1 lc ht hvm hw3 hB hz1 hk1 hS => ?_)
      obtain ⟨hw1, hw2⟩ := Prod.mk.inj hw3; subst hw1; subst hw2
      rw [ht] at hB
      replace hP := zy_S2 (w2 := xW3 cI cZ h3 a3 S) (v2 := xW3 cI cZ h3 a3 S2) rfl hP hD hk1 hB
      replace hD := zW_D f2 B2 S2 hD
      refine lv_istore (lv' := [(6, .int r), (5, .int kr), (0, .ref b), (1, .ref h), (2, .ref h3), (3, .ref o), (4, .int (nI i))]) hx hb dL_law_725 hl (by decide) rfl (fun ls hl => ?_)
      refine lv_aload_n hx hb dL_law_727 rfl (lv_at hl 4 rfl) ?_
      refine va_calli (va_runV (As := []) (rest := []) ⟨hx, hb, hml, hown, hts⟩ (c_X3_thrown l D cI cZ cT h3 a3 S2 _ N rfl) (cwV 0 hts (zg_V zw_5_19 zw_5_20 zw_5_21 zw_1_5 zw_5_22) rfl rfl rfl ⟨rfl, zyX3_thrown⟩ ⟨Nat.le_of_ble_eq_true rfl, Nat.le_of_ble_eq_true rfl⟩) ⟨bS_blind, va_recv hK3 (zy_P2 hP) (ci := 3) (q0 := 0) rfl rfl, bS_pre (zy_P2 hP) hK3 (zy_D2 hD) hN⟩ rfl rfl hl.1 rfl (lv_room (Nat.le_of_ble_eq_true rfl)) dL_law_728 ⟨by show 219 + j + 1 + 0 + 0 ≤ 601024; omega, by show 19600 + 6 * j + 6 + 0 + 0 ≤ 7293034; omega⟩) hS (fun q h1 h2 => absurd h1 (Nat.not_lt.mpr h2)) (fun q h => hA q (Nat.le_trans hS.1 h)) (fun rf u t H1 lc ht hvm hrf hB hz1 hk1 hS => ?_)
      replace hrf : S2 12 0 = rf := hrf; subst hrf
      replace hP := zx_keep hP hk1
      refine lv_iload hx hb dL_law_731 (lv_at hl 1 rfl) ?_
      have hkr : S2 12 0 = kr := by
        rcases hpost with z | z | z | z
        · rcases hw with y | y | y | y
          · rw [z.2.1, y.2.1]
          · exact absurd (z.1.symm.trans y.1) (by decide)
          · exact absurd (z.1.symm.trans y.1) (by decide)
          · exact absurd (z.1.symm.trans y.1) (by decide)
        · rcases hw with y | y | y | y
          · exact absurd (z.1.symm.trans y.1) (by decide)
          · rw [z.2, y.2]
          · exact absurd (z.1.symm.trans y.1) (by decide)
          · exact absurd (z.1.symm.trans y.1) (by decide)
        · rcases hw with y | y | y | y
          · exact absurd (z.1.symm.trans y.1) (by decide)
          · exact absurd (z.1.symm.trans y.1) (by decide)
          · rw [z.2, y.2]
          · exact absurd (z.1.symm.trans y.1) (by decide)
        · rcases hw with y | y | y | y
          · exact absurd (z.1.symm.trans y.1) (by decide)
          · exact absurd (z.1.symm.trans y.1) (by decide)
          · exact absurd (z.1.symm.trans y.1) (by decide)
          · rw [z.2, y.2]
      refine lv_icmp_eq (tgt := 738) hx hb dL_law_733 (by decide) (fun q1 => ?_) (fun q1 => absurd hkr q1)
      refine lv_iload hx hb dL_law_738 (lv_at hl 1 rfl) ?_
      have jend : ∀ (H : Heap) (lc : List Loc) (ls : Array Slot), va_P D vwCl (zW cI cZ cT cL o h hh aa h3 a3 f2 B2 S2) H → va_S (fun q : Nat => s.heap.size ≤ q) s.heap H lc → lv_has ls 7 [(6, .int r), (5, .int kr), (0, .ref b), (1, .ref h), (2, .ref h3), (3, .ref o), (4, .int (nI i))] → W p l e room_1 s m #[Value.ref b] below meth c H lc (219 + j + 1 + 0 + 0) (19600 + 6 * j + 6 + 0 + 0) (lw_Z below #[Value.ref b] s) (F0 m 755 ls []) := by
        intro H lc ls hP hS hl
        refine lv_goto (tgt := 1588) hx hb dL_law_755 (by decide) ?_
        exact j1588 f2 B2 S2 _ _ _ hI2 hP hD hS (lv_sub hl [2, 3, 4, 5, 6] rfl)
      refine lv_if_ne (tgt := 755) hx hb dL_law_740 (by decide) (fun q2 => ?_) (fun q2 => ?_)
      · exact jend _ _ _ hP hS hl
      · have hv : f2 0 = Int32.toInt64 r := by
          rcases hpost with z | z | z | z
          · rcases hw with y | y | y | y
            · rw [← z.2.2]; exact y.2.2
            · exact absurd (z.1.symm.trans y.1) (by decide)
            · exact absurd (z.1.symm.trans y.1) (by decide)
            · exact absurd (z.1.symm.trans y.1) (by decide)
          · exact absurd ((z.2.symm.trans q1).trans q2) (by decide)
          · exact absurd ((z.2.symm.trans q1).trans q2) (by decide)
          · exact absurd ((z.2.symm.trans q1).trans q2) (by decide)
        refine lv_aload_n hx hb dL_law_743 rfl (lv_at hl 5 rfl) ?_
        refine lv_iconst (v := 0) hx hb dL_law_744 (by decide) ?_
        refine va_lald (D := D) hx hb hK hP 0 3 rfl rfl (vp_in_nI (n := 0) (N := 1) (by decide) (by decide)) dL_law_745 ?_
        refine lv_iload hx hb dL_law_746 (lv_at hl 0 rfl) ?_
        refine lv_i2l hx hb dL_law_748 rfl ?_
        refine W.lcmp hx hb dL_law_749 ?_
        refine lv_if_eq (tgt := 755) hx hb dL_law_750 (by decide) (fun q3 => ?_) (fun q3 => ?_)
        · exact jend _ _ _ hP hS hl
        · exact absurd (by show lg_cmp (f2 0) (Int32.toInt64 r) = 0; rw [hv]; exact zy_cmp _) q3
    by_cases c11 : v = 11
    · refine lv_tableIn (tgt := 758) hx hb dL_law_39 (by rw [c11]; decide) (by rw [c11]; decide) (by rw [c11]; rfl) (by decide) ?_
      obtain ⟨R, r, S2, hf2, hf3, hI2, hpost⟩ := hs_undo B S hI
      refine lv_aload_n hx hb dL_law_758 rfl (lv_at hl 1 rfl) ?_
      refine lv_aload_n hx hb dL_law_759 rfl (lv_at hl 3 rfl) ?_
      have hPc := zy_P1 hP
      have hDc := zy_D1 hD
      have hF := zx_fW hDc hS hA
      refine va_calli (vx_runSW (As := [.ref h, .ref o]) (rest := []) ⟨hx, hb, hml, hown, hts⟩ (c_L_undo l hlt D cI cZ cT cL o h hh aa f B _ N hf2 (hpost.elim (fun z => Or.inl z.1) (fun z => Or.inr z.1))) (vx_cwSW 2 hts (zg_S zw_26_10 zw_26_11 zw_4_12 zw_26_12) rfl rfl rfl zyL_undo ⟨Nat.le_of_ble_eq_true rfl, Nat.le_of_ble_eq_true rfl⟩) ⟨bY_blind, bY_pre hPc hK hDc hN hXX hNc hS hF⟩ rfl rfl hl.1 rfl (lv_room (Nat.le_of_ble_eq_true rfl)) dL_law_760 ⟨by show 219 + j + 1 ≤ 601024; omega, by show 19600 + 6 * j + 6 ≤ 7293034; omega⟩) hS (fun q _ h => hF q h) hF (fun kr u t H1 lc ht hvm hw hB hz1 hk1 hS => ?_)
      obtain ⟨f2, B2⟩ := u
      obtain ⟨hw, hB2⟩ := hw
      replace hB2 : B2 = R.2.2 := hB2
      rw [← hB2] at hI2
      rw [ht] at hB
      replace hP := zy_S1 (by rw [zxL_len, zxL_len]) hP hD hk1 hB
      replace hD := zW_D f2 B2 S hD
      refine lv_istore (lv' := [(5, .int kr), (0, .ref b), (1, .ref h), (2, .ref h3), (3, .ref o), (4, .int (nI i))]) hx hb dL_law_763 hl (by decide) rfl (fun ls hl => ?_)
      refine lv_aload_n hx hb dL_law_765 rfl (lv_at hl 3 rfl) ?_
      have hF3 := zx_fW (zy_D2 hD) hS hA
      refine va_calli (va_runV (As := []) (rest := []) ⟨hx, hb, hml, hown, hts⟩ (c_X3_undo l D cI cZ cT h3 a3 S _ N hf3) (cwV 0 hts (zg_V zw_26_17 zw_26_18 zw_26_19 zw_1_5 zw_26_20) rfl rfl rfl ⟨rfl, zyX3_undo⟩ ⟨Nat.le_of_ble_eq_true rfl, Nat.le_of_ble_eq_true rfl⟩) ⟨bS_blind, va_recv hK3 (zy_P2 hP) (ci := 3) (q0 := 0) rfl rfl, bS_pre (zy_P2 hP) hK3 (zy_D2 hD) hN⟩ rfl rfl hl.1 rfl (lv_room (Nat.le_of_ble_eq_true rfl)) dL_law_766 ⟨by show 219 + j + 1 + 0 ≤ 601024; omega, by show 19600 + 6 * j + 6 + 0 ≤ 7293034; omega⟩) hS (fun q _ h => hF3 q h) hF3 (fun r3 u t H1 lc ht hvm hw3 hB hz1 hk1 hS => ?_)
      obtain ⟨hw1, hw2⟩ := Prod.mk.inj hw3; subst hw1; subst hw2
      rw [ht] at hB
      replace hP := zy_S2 (w2 := xW3 cI cZ h3 a3 S) (v2 := xW3 cI cZ h3 a3 S2) rfl hP hD hk1 hB
      replace hD := zW_D f2 B2 S2 hD
      refine lv_istore (lv' := [(6, .int r), (5, .int kr), (0, .ref b), (1, .ref h), (2, .ref h3), (3, .ref o), (4, .int (nI i))]) hx hb dL_law_769 hl (by decide) rfl (fun ls hl => ?_)
      refine lv_aload_n hx hb dL_law_771 rfl (lv_at hl 4 rfl) ?_
      refine va_calli (va_runV (As := []) (rest := []) ⟨hx, hb, hml, hown, hts⟩ (c_X3_thrown l D cI cZ cT h3 a3 S2 _ N rfl) (cwV 0 hts (zg_V zw_5_19 zw_5_20 zw_5_21 zw_1_5 zw_5_22) rfl rfl rfl ⟨rfl, zyX3_thrown⟩ ⟨Nat.le_of_ble_eq_true rfl, Nat.le_of_ble_eq_true rfl⟩) ⟨bS_blind, va_recv hK3 (zy_P2 hP) (ci := 3) (q0 := 0) rfl rfl, bS_pre (zy_P2 hP) hK3 (zy_D2 hD) hN⟩ rfl rfl hl.1 rfl (lv_room (Nat.le_of_ble_eq_true rfl)) dL_law_772 ⟨by show 219 + j + 1 + 0 + 0 ≤ 601024; omega, by show 19600 + 6 * j + 6 + 0 + 0 ≤ 7293034; omega⟩) hS (fun q h1 h2 => absurd h1 (Nat.not_lt.mpr h2)) (fun q h => hA q (Nat.le_trans hS.1 h)) (fun rf u t H1 lc ht hvm hrf hB hz1 hk1 hS => ?_)
      replace hrf : S2 12 0 = rf := hrf; subst hrf
      replace hP := zx_keep hP hk1
      refine lv_iload hx hb dL_law_775 (lv_at hl 1 rfl) ?_
      have hkr : S2 12 0 = kr := by
        rcases hpost with z | z
        · rcases hw with y | y
          · rw [z.2.1, y.2.1]
          · exact absurd (z.1.symm.trans y.1) (by decide)
        · rcases hw with y | y
          · exact absurd (z.1.symm.trans y.1) (by decide)
          · rw [z.2, y.2]
      refine lv_icmp_eq (tgt := 782) hx hb dL_law_777 (by decide) (fun q1 => ?_) (fun q1 => absurd hkr q1)
      refine lv_iload hx hb dL_law_782 (lv_at hl 1 rfl) ?_
      have jend : ∀ (H : Heap) (lc : List Loc) (ls : Array Slot), va_P D vwCl (zW cI cZ cT cL o h hh aa h3 a3 f2 B2 S2) H → va_S (fun q : Nat => s.heap.size ≤ q) s.heap H lc → lv_has ls 7 [(6, .int r), (5, .int kr), (0, .ref b), (1, .ref h), (2, .ref h3), (3, .ref o), (4, .int (nI i))] → W p l e room_1 s m #[Value.ref b] below meth c H lc (219 + j + 1 + 0 + 0) (19600 + 6 * j + 6 + 0 + 0) (lw_Z below #[Value.ref b] s) (F0 m 799 ls []) := by
        intro H lc ls hP hS hl
        refine lv_goto (tgt := 1588) hx hb dL_law_799 (by decide) ?_
        exact j1588 f2 B2 S2 _ _ _ hI2 hP hD hS (lv_sub hl [2, 3, 4, 5, 6] rfl)
      refine lv_if_ne (tgt := 799) hx hb dL_law_784 (by decide) (fun q2 => ?_) (fun q2 => ?_)
      · exact jend _ _ _ hP hS hl
      · have hv : f2 0 = Int32.toInt64 r := by
          rcases hpost with z | z
          · rcases hw with y | y
            · rw [← z.2.2]; exact y.2.2
            · exact absurd (z.1.symm.trans y.1) (by decide)
          · exact absurd ((z.2.symm.trans q1).trans q2) (by decide)
        refine lv_aload_n hx hb dL_law_787 rfl (lv_at hl 5 rfl) ?_
        refine lv_iconst (v := 0) hx hb dL_law_788 (by decide) ?_
        refine va_lald (D := D) hx hb hK hP 0 3 rfl rfl (vp_in_nI (n := 0) (N := 1) (by decide) (by decide)) dL_law_789 ?_
        refine lv_iload hx hb dL_law_790 (lv_at hl 0 rfl) ?_
        refine lv_i2l hx hb dL_law_792 rfl ?_
        refine W.lcmp hx hb dL_law_793 ?_
        refine lv_if_eq (tgt := 799) hx hb dL_law_794 (by decide) (fun q3 => ?_) (fun q3 => ?_)
        · exact jend _ _ _ hP hS hl
        · exact absurd (by show lg_cmp (f2 0) (Int32.toInt64 r) = 0; rw [hv]; exact zy_cmp _) q3
    by_cases c12 : v = 12
    · refine lv_tableIn (tgt := 802) hx hb dL_law_39 (by rw [c12]; decide) (by rw [c12]; decide) (by rw [c12]; rfl) (by decide) ?_
      obtain ⟨R, r, S2, hf2, hf3, hI2, hpost⟩ := hs_window ((xs (Int32.toNatClampNeg ((nI i) + 1)))) ((xs (Int32.toNatClampNeg ((nI i) + 2)))) ((xs (Int32.toNatClampNeg ((nI i) + 3)))) ((xs (Int32.toNatClampNeg ((nI i) + 4)))) B S hI
      refine lv_aload_n hx hb dL_law_802 rfl (lv_at hl 1 rfl) ?_
      refine lv_aload_n hx hb dL_law_803 rfl (lv_at hl 0 rfl) ?_
      refine lv_iload hx hb dL_law_804 (lv_at hl 4 rfl) ?_
      refine lv_iconst (v := 1) hx hb dL_law_806 (by decide) ?_
      refine lv_iadd hx hb dL_law_807 ?_
      refine va_sld hx hb hX hbl hbA hS (zy_in (k := 1) hL (by omega)) dL_law_808 ?_
      refine lv_aload_n hx hb dL_law_809 rfl (lv_at hl 0 rfl) ?_
      refine lv_iload hx hb dL_law_810 (lv_at hl 4 rfl) ?_
      refine lv_iconst (v := 2) hx hb dL_law_812 (by decide) ?_
      refine lv_iadd hx hb dL_law_813 ?_
      refine va_sld hx hb hX hbl hbA hS (zy_in (k := 2) hL (by omega)) dL_law_814 ?_
      refine lv_aload_n hx hb dL_law_815 rfl (lv_at hl 0 rfl) ?_
      refine lv_iload hx hb dL_law_816 (lv_at hl 4 rfl) ?_
      refine lv_iconst (v := 3) hx hb dL_law_818 (by decide) ?_
      refine lv_iadd hx hb dL_law_819 ?_
      refine va_sld hx hb hX hbl hbA hS (zy_in (k := 3) hL (by omega)) dL_law_820 ?_
      refine lv_aload_n hx hb dL_law_821 rfl (lv_at hl 0 rfl) ?_
      refine lv_iload hx hb dL_law_822 (lv_at hl 4 rfl) ?_
      refine lv_iconst (v := 4) hx hb dL_law_824 (by decide) ?_
      refine lv_iadd hx hb dL_law_825 ?_
      refine va_sld hx hb hX hbl hbA hS (zy_in (k := 4) hL (by omega)) dL_law_826 ?_
      refine lv_aload_n hx hb dL_law_827 rfl (lv_at hl 3 rfl) ?_
      have hPc := zy_P1 hP
      have hDc := zy_D1 hD
      have hF := zx_fW hDc hS hA
      refine va_calli (vx_runSW (As := [.ref h, .int (xs (Int32.toNatClampNeg ((nI i) + 1))), .int (xs (Int32.toNatClampNeg ((nI i) + 2))), .int (xs (Int32.toNatClampNeg ((nI i) + 3))), .int (xs (Int32.toNatClampNeg ((nI i) + 4))), .ref o]) (rest := []) ⟨hx, hb, hml, hown, hts⟩ (c_L_window l hlt D cI cZ cT cL o h hh aa f B _ N ((xs (Int32.toNatClampNeg ((nI i) + 1)))) ((xs (Int32.toNatClampNeg ((nI i) + 2)))) ((xs (Int32.toNatClampNeg ((nI i) + 3)))) ((xs (Int32.toNatClampNeg ((nI i) + 4)))) hf2 (hpost.elim (fun z => Or.inl z.1) (fun z => Or.inr z.1))) (vx_cwSW 6 hts (zg_S zw_26_21 zw_26_22 zw_4_12 zw_26_23) rfl rfl rfl zyL_window ⟨Nat.le_of_ble_eq_true rfl, Nat.le_of_ble_eq_true rfl⟩) ⟨bY_blind, bY_pre hPc hK hDc hN hXX hNc hS hF⟩ rfl rfl hl.1 rfl (lv_room (Nat.le_of_ble_eq_true rfl)) dL_law_828 ⟨by show 219 + j + 1 ≤ 601024; omega, by show 19600 + 6 * j + 6 ≤ 7293034; omega⟩) hS (fun q _ h => hF q h) hF (fun kr u t H1 lc ht hvm hw hB hz1 hk1 hS => ?_)
      obtain ⟨f2, B2⟩ := u
      obtain ⟨hw, hB2⟩ := hw
      replace hB2 : B2 = R.2.2 := hB2
      rw [← hB2] at hI2
      rw [ht] at hB
      replace hP := zy_S1 (by rw [zxL_len, zxL_len]) hP hD hk1 hB
      replace hD := zW_D f2 B2 S hD
      refine lv_istore (lv' := [(5, .int kr), (0, .ref b), (1, .ref h), (2, .ref h3), (3, .ref o), (4, .int (nI i))]) hx hb dL_law_831 hl (by decide) rfl (fun ls hl => ?_)
      refine lv_aload_n hx hb dL_law_833 rfl (lv_at hl 3 rfl) ?_
      refine lv_aload_n hx hb dL_law_834 rfl (lv_at hl 1 rfl) ?_
      refine lv_iload hx hb dL_law_835 (lv_at hl 5 rfl) ?_
      refine lv_iconst (v := 1) hx hb dL_law_837 (by decide) ?_
      refine lv_iadd hx hb dL_law_838 ?_
      refine va_sld hx hb hX hbl hbA hS (zy_in (k := 1) hL (by omega)) dL_law_839 ?_
      refine lv_aload_n hx hb dL_law_840 rfl (lv_at hl 1 rfl) ?_
      refine lv_iload hx hb dL_law_841 (lv_at hl 5 rfl) ?_
      refine lv_iconst (v := 2) hx hb dL_law_843 (by decide) ?_
      refine lv_iadd hx hb dL_law_844 ?_
      refine va_sld hx hb hX hbl hbA hS (zy_in (k := 2) hL (by omega)) dL_law_845 ?_
      refine lv_aload_n hx hb dL_law_846 rfl (lv_at hl 1 rfl) ?_
      refine lv_iload hx hb dL_law_847 (lv_at hl 5 rfl) ?_
      refine lv_iconst (v := 3) hx hb dL_law_849 (by decide) ?_
      refine lv_iadd hx hb dL_law_850 ?_
      refine va_sld hx hb hX hbl hbA hS (zy_in (k := 3) hL (by omega)) dL_law_851 ?_
      refine lv_aload_n hx hb dL_law_852 rfl (lv_at hl 1 rfl) ?_
      refine lv_iload hx hb dL_law_853 (lv_at hl 5 rfl) ?_
      refine lv_iconst (v := 4) hx hb dL_law_855 (by decide) ?_
      refine lv_iadd hx hb dL_law_856 ?_
      refine va_sld hx hb hX hbl hbA hS (zy_in (k := 4) hL (by omega)) dL_law_857 ?_
      have hF3 := zx_fW (zy_D2 hD) hS hA
      refine va_calli (va_runV (As := [.int (xs (Int32.toNatClampNeg ((nI i) + 1))), .int (xs (Int32.toNatClampNeg ((nI i) + 2))), .int (xs (Int32.toNatClampNeg ((nI i) + 3))), .int (xs (Int32.toNatClampNeg ((nI i) + 4)))]) (rest := []) ⟨hx, hb, hml, hown, hts⟩ (c_X3_window l D cI cZ cT h3 a3 S _ N ((xs (Int32.toNatClampNeg ((nI i) + 1)))) ((xs (Int32.toNatClampNeg ((nI i) + 2)))) ((xs (Int32.toNatClampNeg ((nI i) + 3)))) ((xs (Int32.toNatClampNeg ((nI i) + 4)))) hf3) (cwV 4 hts (zg_V zw_27_5 zw_27_6 zw_27_7 zw_1_5 zw_27_8) rfl rfl rfl ⟨rfl, zyX3_window⟩ ⟨Nat.le_of_ble_eq_true rfl, Nat.le_of_ble_eq_true rfl⟩) ⟨bS_blind, va_recv hK3 (zy_P2 hP) (ci := 3) (q0 := 0) rfl rfl, bS_pre (zy_P2 hP) hK3 (zy_D2 hD) hN⟩ rfl rfl hl.1 rfl (lv_room (Nat.le_of_ble_eq_true rfl)) dL_law_858 ⟨by show 219 + j + 1 + 0 ≤ 601024; omega, by show 19600 + 6 * j + 6 + 0 ≤ 7293034; omega⟩) hS (fun q _ h => hF3 q h) hF3 (fun r3 u t H1 lc ht hvm hw3 hB hz1 hk1 hS => ?_)
      obtain ⟨hw1, hw2⟩ := Prod.mk.inj hw3; subst hw1; subst hw2
      rw [ht] at hB
      replace hP := zy_S2 (w2 := xW3 cI cZ h3 a3 S) (v2 := xW3 cI cZ h3 a3 S2) rfl hP hD hk1 hB
      replace hD := zW_D f2 B2 S2 hD
      refine lv_istore (lv' := [(6, .int r), (5, .int kr), (0, .ref b), (1, .ref h), (2, .ref h3), (3, .ref o), (4, .int (nI i))]) hx hb dL_law_861 hl (by decide) rfl (fun ls hl => ?_)
      refine lv_aload_n hx hb dL_law_863 rfl (lv_at hl 4 rfl) ?_
      refine va_calli (va_runV (As := []) (rest := []) ⟨hx, hb, hml, hown, hts⟩ (c_X3_thrown l D cI cZ cT h3 a3 S2 _ N rfl) (cwV 0 hts (zg_V zw_5_19 zw_5_20 zw_5_21 zw_1_5 zw_5_22) rfl rfl rfl ⟨rfl, zyX3_thrown⟩ ⟨Nat.le_of_ble_eq_true rfl, Nat.le_of_ble_eq_true rfl⟩) ⟨bS_blind, va_recv hK3 (zy_P2 hP) (ci := 3) (q0 := 0) rfl rfl, bS_pre (zy_P2 hP) hK3 (zy_D2 hD) hN⟩ rfl rfl hl.1 rfl (lv_room (Nat.le_of_ble_eq_true rfl)) dL_law_864 ⟨by show 219 + j + 1 + 0 + 0 ≤ 601024; omega, by show 19600 + 6 * j + 6 + 0 + 0 ≤ 7293034; omega⟩) hS (fun q h1 h2 => absurd h1 (Nat.not_lt.mpr h2)) (fun q h => hA q (Nat.le_trans hS.1 h)) (fun rf u t H1 lc ht hvm hrf hB hz1 hk1 hS => ?_)
      replace hrf : S2 12 0 = rf := hrf; subst hrf
      replace hP := zx_keep hP hk1
      refine lv_iload hx hb dL_law_867 (lv_at hl 1 rfl) ?_
      have hkr : S2 12 0 = kr := by
        rcases hpost with z | z
        · rcases hw with y | y
          · rw [z.2.1, y.2.1]
          · exact absurd (z.1.symm.trans y.1) (by decide)
        · rcases hw with y | y
          · exact absurd (z.1.symm.trans y.1) (by decide)
          · rw [z.2, y.2]
      refine lv_icmp_eq (tgt := 874) hx hb dL_law_869 (by decide) (fun q1 => ?_) (fun q1 => absurd hkr q1)
      refine lv_iload hx hb dL_law_874 (lv_at hl 1 rfl) ?_
      have jend : ∀ (H : Heap) (lc : List Loc) (ls : Array Slot), va_P D vwCl (zW cI cZ cT cL o h hh aa h3 a3 f2 B2 S2) H → va_S (fun q : Nat => s.heap.size ≤ q) s.heap H lc → lv_has ls 7 [(6, .int r), (5, .int kr), (0, .ref b), (1, .ref h), (2, .ref h3), (3, .ref o), (4, .int (nI i))] → W p l e room_1 s m #[Value.ref b] below meth c H lc (219 + j + 1 + 0 + 0) (19600 + 6 * j + 6 + 0 + 0) (lw_Z below #[Value.ref b] s) (F0 m 891 ls []) := by
        intro H lc ls hP hS hl
        refine lv_goto (tgt := 1588) hx hb dL_law_891 (by decide) ?_
        exact j1588 f2 B2 S2 _ _ _ hI2 hP hD hS (lv_sub hl [2, 3, 4, 5, 6] rfl)
      refine lv_if_ne (tgt := 891) hx hb dL_law_876 (by decide) (fun q2 => ?_) (fun q2 => ?_)
      · exact jend _ _ _ hP hS hl
      · have hv : f2 0 = Int32.toInt64 r := by
          rcases hpost with z | z
          · rcases hw with y | y
            · rw [← z.2.2]; exact y.2.2
            · exact absurd (z.1.symm.trans y.1) (by decide)
          · exact absurd ((z.2.symm.trans q1).trans q2) (by decide)
        refine lv_aload_n hx hb dL_law_879 rfl (lv_at hl 5 rfl) ?_
        refine lv_iconst (v := 0) hx hb dL_law_880 (by decide) ?_
        refine va_lald (D := D) hx hb hK hP 0 3 rfl rfl (vp_in_nI (n := 0) (N := 1) (by decide) (by decide)) dL_law_881 ?_
        refine lv_iload hx hb dL_law_882 (lv_at hl 0 rfl) ?_
        refine lv_i2l hx hb dL_law_884 rfl ?_
        refine W.lcmp hx hb dL_law_885 ?_
        refine lv_if_eq (tgt := 891) hx hb dL_law_886 (by decide) (fun q3 => ?_) (fun q3 => ?_)
        · exact jend _ _ _ hP hS hl
        · exact absurd (by show lg_cmp (f2 0) (Int32.toInt64 r) = 0; rw [hv]; exact zy_cmp _) q3
    by_cases c13 : v = 13
    · refine lv_tableIn (tgt := 894) hx hb dL_law_39 (by rw [c13]; decide) (by rw [c13]; decide) (by rw [c13]; rfl) (by decide) ?_
      obtain ⟨R, r, S2, hf2, hf3, hI2, hpost⟩ := hs_looks ((xs (Int32.toNatClampNeg ((nI i) + 1)))) ((xs (Int32.toNatClampNeg ((nI i) + 2)))) ((xs (Int32.toNatClampNeg ((nI i) + 3)))) ((xs (Int32.toNatClampNeg ((nI i) + 4)))) B S hI
      refine lv_aload_n hx hb dL_law_894 rfl (lv_at hl 1 rfl) ?_
      refine lv_aload_n hx hb dL_law_895 rfl (lv_at hl 0 rfl) ?_
      refine lv_iload hx hb dL_law_896 (lv_at hl 4 rfl) ?_
      refine lv_iconst (v := 1) hx hb dL_law_898 (by decide) ?_
      refine lv_iadd hx hb dL_law_899 ?_
      refine va_sld hx hb hX hbl hbA hS (zy_in (k := 1) hL (by omega)) dL_law_900 ?_
      refine lv_aload_n hx hb dL_law_901 rfl (lv_at hl 0 rfl) ?_
      refine lv_iload hx hb dL_law_902 (lv_at hl 4 rfl) ?_
      refine lv_iconst (v := 2) hx hb dL_law_904 (by decide) ?_
      refine lv_iadd hx hb dL_law_905 ?_
      refine va_sld hx hb hX hbl hbA hS (zy_in (k := 2) hL (by omega)) dL_law_906 ?_
      refine lv_aload_n hx hb dL_law_907 rfl (lv_at hl 0 rfl) ?_
      refine lv_iload hx hb dL_law_908 (lv_at hl 4 rfl) ?_
      refine lv_iconst (v := 3) hx hb dL_law_910 (by decide) ?_
      refine lv_iadd hx hb dL_law_911 ?_
      refine va_sld hx hb hX hbl hbA hS (zy_in (k := 3) hL (by omega)) dL_law_912 ?_
      refine lv_aload_n hx hb dL_law_913 rfl (lv_at hl 0 rfl) ?_
      refine lv_iload hx hb dL_law_914 (lv_at hl 4 rfl) ?_
      refine lv_iconst (v := 4) hx hb dL_law_916 (by decide) ?_
      refine lv_iadd hx hb dL_law_917 ?_
      refine va_sld hx hb hX hbl hbA hS (zy_in (k := 4) hL (by omega)) dL_law_918 ?_
      refine lv_aload_n hx hb dL_law_919 rfl (lv_at hl 3 rfl) ?_
      have hPc := zy_P1 hP
      have hDc := zy_D1 hD
      have hF := zx_fW hDc hS hA
      refine va_calli (vx_runSW (As := [.ref h, .int (xs (Int32.toNatClampNeg ((nI i) + 1))), .int (xs (Int32.toNatClampNeg ((nI i) + 2))), .int (xs (Int32.toNatClampNeg ((nI i) + 3))), .int (xs (Int32.toNatClampNeg ((nI i) + 4))), .ref o]) (rest := []) ⟨hx, hb, hml, hown, hts⟩ (c_L_looks l hlt D cI cZ cT cL o h hh aa f B _ N ((xs (Int32.toNatClampNeg ((nI i) + 1)))) ((xs (Int32.toNatClampNeg ((nI i) + 2)))) ((xs (Int32.toNatClampNeg ((nI i) + 3)))) ((xs (Int32.toNatClampNeg ((nI i) + 4)))) hf2 (hpost.elim (fun z => Or.inl z.1) (fun z => Or.inr z.1))) (vx_cwSW 6 hts (zg_S zw_27_13 zw_27_14 zw_4_12 zw_27_15) rfl rfl rfl zyL_looks ⟨Nat.le_of_ble_eq_true rfl, Nat.le_of_ble_eq_true rfl⟩) ⟨bY_blind, bY_pre hPc hK hDc hN hXX hNc hS hF⟩ rfl rfl hl.1 rfl (lv_room (Nat.le_of_ble_eq_true rfl)) dL_law_920 ⟨by show 219 + j + 1 ≤ 601024; omega, by show 19600 + 6 * j + 6 ≤ 7293034; omega⟩) hS (fun q _ h => hF q h) hF (fun kr u t H1 lc ht hvm hw hB hz1 hk1 hS => ?_)
      obtain ⟨f2, B2⟩ := u
      obtain ⟨hw, hB2⟩ := hw
      replace hB2 : B2 = R.2.2 := hB2
      rw [← hB2] at hI2
      rw [ht] at hB
      replace hP := zy_S1 (by rw [zxL_len, zxL_len]) hP hD hk1 hB
      replace hD := zW_D f2 B2 S hD
      refine lv_istore (lv' := [(5, .int kr), (0, .ref b), (1, .ref h), (2, .ref h3), (3, .ref o), (4, .int (nI i))]) hx hb dL_law_923 hl (by decide) rfl (fun ls hl => ?_)
      refine lv_aload_n hx hb dL_law_925 rfl (lv_at hl 3 rfl) ?_
      refine lv_aload_n hx hb dL_law_926 rfl (lv_at hl 1 rfl) ?_
      refine lv_iload hx hb dL_law_927 (lv_at hl 5 rfl) ?_
      refine lv_iconst (v := 1) hx hb dL_law_929 (by decide) ?_
      refine lv_iadd hx hb dL_law_930 ?_
      refine va_sld hx hb hX hbl hbA hS (zy_in (k := 1) hL (by omega)) dL_law_931 ?_
      refine lv_aload_n hx hb dL_law_932 rfl (lv_at hl 1 rfl) ?_
      refine lv_iload hx hb dL_law_933 (lv_at hl 5 rfl) ?_
      refine lv_iconst (v := 2) hx hb dL_law_935 (by decide) ?_
      refine lv_iadd hx hb dL_law_936 ?_
      refine va_sld hx hb hX hbl hbA hS (zy_in (k := 2) hL (by omega)) dL_law_937 ?_
      refine lv_aload_n hx hb dL_law_938 rfl (lv_at hl 1 rfl) ?_
      refine lv_iload hx hb dL_law_939 (lv_at hl 5 rfl) ?_
      refine lv_iconst (v := 3) hx hb dL_law_941 (by decide) ?_
      refine lv_iadd hx hb dL_law_942 ?_
      refine va_sld hx hb hX hbl hbA hS (zy_in (k := 3) hL (by omega)) dL_law_943 ?_
      refine lv_aload_n hx hb dL_law_944 rfl (lv_at hl 1 rfl) ?_
      refine lv_iload hx hb dL_law_945 (lv_at hl 5 rfl) ?_
      refine lv_iconst (v := 4) hx hb dL_law_947 (by decide) ?_
      refine lv_iadd hx hb dL_law_948 ?_
      refine va_sld hx hb hX hbl hbA hS (zy_in (k := 4) hL (by omega)) dL_law_949 ?_
      have hF3 := zx_fW (zy_D2 hD) hS hA
      refine va_calli (va_runV (As := [.int (xs (Int32.toNatClampNeg ((nI i) + 1))), .int (xs (Int32.toNatClampNeg ((nI i) + 2))), .int (xs (Int32.toNatClampNeg ((nI i) + 3))), .int (xs (Int32.toNatClampNeg ((nI i) + 4)))]) (rest := []) ⟨hx, hb, hml, hown, hts⟩ (c_X3_looks l D cI cZ cT h3 a3 S _ N ((xs (Int32.toNatClampNeg ((nI i) + 1)))) ((xs (Int32.toNatClampNeg ((nI i) + 2)))) ((xs (Int32.toNatClampNeg ((nI i) + 3)))) ((xs (Int32.toNatClampNeg ((nI i) + 4)))) hf3) (cwV 4 hts (zg_V zw_28_0 zw_28_1 zw_28_2 zw_1_5 zw_28_3) rfl rfl rfl ⟨rfl, zyX3_looks⟩ ⟨Nat.le_of_ble_eq_true rfl, Nat.le_of_ble_eq_true rfl⟩) ⟨bS_blind, va_recv hK3 (zy_P2 hP) (ci := 3) (q0 := 0) rfl rfl, bS_pre (zy_P2 hP) hK3 (zy_D2 hD) hN⟩ rfl rfl hl.1 rfl (lv_room (Nat.le_of_ble_eq_true rfl)) dL_law_950 ⟨by show 219 + j + 1 + 0 ≤ 601024; omega, by show 19600 + 6 * j + 6 + 0 ≤ 7293034; omega⟩) hS (fun q _ h => hF3 q h) hF3 (fun r3 u t H1 lc ht hvm hw3 hB hz1 hk1 hS => ?_)
      obtain ⟨hw1, hw2⟩ := Prod.mk.inj hw3; subst hw1; subst hw2
      rw [ht] at hB
      replace hP := zy_S2 (w2 := xW3 cI cZ h3 a3 S) (v2 := xW3 cI cZ h3 a3 S2) rfl hP hD hk1 hB
      replace hD := zW_D f2 B2 S2 hD
      refine lv_istore (lv' := [(6, .int r), (5, .int kr), (0, .ref b), (1, .ref h), (2, .ref h3), (3, .ref o), (4, .int (nI i))]) hx hb dL_law_953 hl (by decide) rfl (fun ls hl => ?_)
      refine lv_aload_n hx hb dL_law_955 rfl (lv_at hl 4 rfl) ?_
      refine va_calli (va_runV (As := []) (rest := []) ⟨hx, hb, hml, hown, hts⟩ (c_X3_thrown l D cI cZ cT h3 a3 S2 _ N rfl) (cwV 0 hts (zg_V zw_5_19 zw_5_20 zw_5_21 zw_1_5 zw_5_22) rfl rfl rfl ⟨rfl, zyX3_thrown⟩ ⟨Nat.le_of_ble_eq_true rfl, Nat.le_of_ble_eq_true rfl⟩) ⟨bS_blind, va_recv hK3 (zy_P2 hP) (ci := 3) (q0 := 0) rfl rfl, bS_pre (zy_P2 hP) hK3 (zy_D2 hD) hN⟩ rfl rfl hl.1 rfl (lv_room (Nat.le_of_ble_eq_true rfl)) dL_law_956 ⟨by show 219 + j + 1 + 0 + 0 ≤ 601024; omega, by show 19600 + 6 * j + 6 + 0 + 0 ≤ 7293034; omega⟩) hS (fun q h1 h2 => absurd h1 (Nat.not_lt.mpr h2)) (fun q h => hA q (Nat.le_trans hS.1 h)) (fun rf u t H1 lc ht hvm hrf hB hz1 hk1 hS => ?_)
      replace hrf : S2 12 0 = rf := hrf; subst hrf
      replace hP := zx_keep hP hk1
      refine lv_iload hx hb dL_law_959 (lv_at hl 1 rfl) ?_
      have hkr : S2 12 0 = kr := by
        rcases hpost with z | z
        · rcases hw with y | y
          · rw [z.2.1, y.2.1]
          · exact absurd (z.1.symm.trans y.1) (by decide)
        · rcases hw with y | y
          · exact absurd (z.1.symm.trans y.1) (by decide)
          · rw [z.2, y.2]
      refine lv_icmp_eq (tgt := 966) hx hb dL_law_961 (by decide) (fun q1 => ?_) (fun q1 => absurd hkr q1)
      refine lv_iload hx hb dL_law_966 (lv_at hl 1 rfl) ?_
      have jend : ∀ (H : Heap) (lc : List Loc) (ls : Array Slot), va_P D vwCl (zW cI cZ cT cL o h hh aa h3 a3 f2 B2 S2) H → va_S (fun q : Nat => s.heap.size ≤ q) s.heap H lc → lv_has ls 7 [(6, .int r), (5, .int kr), (0, .ref b), (1, .ref h), (2, .ref h3), (3, .ref o), (4, .int (nI i))] → W p l e room_1 s m #[Value.ref b] below meth c H lc (219 + j + 1 + 0 + 0) (19600 + 6 * j + 6 + 0 + 0) (lw_Z below #[Value.ref b] s) (F0 m 983 ls []) := by
        intro H lc ls hP hS hl
        refine lv_goto (tgt := 1588) hx hb dL_law_983 (by decide) ?_
        exact j1588 f2 B2 S2 _ _ _ hI2 hP hD hS (lv_sub hl [2, 3, 4, 5, 6] rfl)
      refine lv_if_ne (tgt := 983) hx hb dL_law_968 (by decide) (fun q2 => ?_) (fun q2 => ?_)
      · exact jend _ _ _ hP hS hl
      · have hv : f2 0 = Int32.toInt64 r := by
          rcases hpost with z | z
          · rcases hw with y | y
            · rw [← z.2.2]; exact y.2.2
            · exact absurd (z.1.symm.trans y.1) (by decide)
          · exact absurd ((z.2.symm.trans q1).trans q2) (by decide)
        refine lv_aload_n hx hb dL_law_971 rfl (lv_at hl 5 rfl) ?_
        refine lv_iconst (v := 0) hx hb dL_law_972 (by decide) ?_
        refine va_lald (D := D) hx hb hK hP 0 3 rfl rfl (vp_in_nI (n := 0) (N := 1) (by decide) (by decide)) dL_law_973 ?_
        refine lv_iload hx hb dL_law_974 (lv_at hl 0 rfl) ?_
        refine lv_i2l hx hb dL_law_976 rfl ?_
        refine W.lcmp hx hb dL_law_977 ?_
        refine lv_if_eq (tgt := 983) hx hb dL_law_978 (by decide) (fun q3 => ?_) (fun q3 => ?_)
        · exact jend _ _ _ hP hS hl
        · exact absurd (by show lg_cmp (f2 0) (Int32.toInt64 r) = 0; rw [hv]; exact zy_cmp _) q3
    by_cases c14 : v = 14
    · refine lv_tableIn (tgt := 986) hx hb dL_law_39 (by rw [c14]; decide) (by rw [c14]; decide) (by rw [c14]; rfl) (by decide) ?_
      obtain ⟨R, r, S2, hf2, hf3, hI2, hpost⟩ := hs_nearest ((xs (Int32.toNatClampNeg ((nI i) + 1)))) ((xs (Int32.toNatClampNeg ((nI i) + 2)))) ((xs (Int32.toNatClampNeg ((nI i) + 3)))) B S hI
      refine lv_aload_n hx hb dL_law_986 rfl (lv_at hl 1 rfl) ?_
      refine lv_aload_n hx hb dL_law_987 rfl (lv_at hl 0 rfl) ?_
      refine lv_iload hx hb dL_law_988 (lv_at hl 4 rfl) ?_
      refine lv_iconst (v := 1) hx hb dL_law_990 (by decide) ?_
      refine lv_iadd hx hb dL_law_991 ?_
      refine va_sld hx hb hX hbl hbA hS (zy_in (k := 1) hL (by omega)) dL_law_992 ?_
      refine lv_aload_n hx hb dL_law_993 rfl (lv_at hl 0 rfl) ?_
      refine lv_iload hx hb dL_law_994 (lv_at hl 4 rfl) ?_
      refine lv_iconst (v := 2) hx hb dL_law_996 (by decide) ?_
      refine lv_iadd hx hb dL_law_997 ?_
      refine va_sld hx hb hX hbl hbA hS (zy_in (k := 2) hL (by omega)) dL_law_998 ?_
      refine lv_aload_n hx hb dL_law_999 rfl (lv_at hl 0 rfl) ?_
      refine lv_iload hx hb dL_law_1000 (lv_at hl 4 rfl) ?_
      refine lv_iconst (v := 3) hx hb dL_law_1002 (by decide) ?_
      refine lv_iadd hx hb dL_law_1003 ?_
      refine va_sld hx hb hX hbl hbA hS (zy_in (k := 3) hL (by omega)) dL_law_1004 ?_
      refine lv_aload_n hx hb dL_law_1005 rfl (lv_at hl 3 rfl) ?_
      have hPc := zy_P1 hP
      have hDc := zy_D1 hD
      have hF := zx_fW hDc hS hA
      refine va_calli (vx_runSW (As := [.ref h, .int (xs (Int32.toNatClampNeg ((nI i) + 1))), .int (xs (Int32.toNatClampNeg ((nI i) + 2))), .int (xs (Int32.toNatClampNeg ((nI i) + 3))), .ref o]) (rest := []) ⟨hx, hb, hml, hown, hts⟩ (c_L_nearest l hlt D cI cZ cT cL o h hh aa f B _ N ((xs (Int32.toNatClampNeg ((nI i) + 1)))) ((xs (Int32.toNatClampNeg ((nI i) + 2)))) ((xs (Int32.toNatClampNeg ((nI i) + 3)))) hf2 (hpost.elim (fun z => Or.inl z.1) (fun z => Or.inr z.1))) (vx_cwSW 5 hts (zg_S zw_28_4 zw_28_5 zw_4_12 zw_28_6) rfl rfl rfl zyL_nearest ⟨Nat.le_of_ble_eq_true rfl, Nat.le_of_ble_eq_true rfl⟩) ⟨bY_blind, bY_pre hPc hK hDc hN hXX hNc hS hF⟩ rfl rfl hl.1 rfl (lv_room (Nat.le_of_ble_eq_true rfl)) dL_law_1006 ⟨by show 219 + j + 1 ≤ 601024; omega, by show 19600 + 6 * j + 6 ≤ 7293034; omega⟩) hS (fun q _ h => hF q h) hF (fun kr u t H1 lc ht hvm hw hB hz1 hk1 hS => ?_)
      obtain ⟨f2, B2⟩ := u
      obtain ⟨hw, hB2⟩ := hw
      replace hB2 : B2 = R.2.2 := hB2
      rw [← hB2] at hI2
      rw [ht] at hB
      replace hP := zy_S1 (by rw [zxL_len, zxL_len]) hP hD hk1 hB
      replace hD := zW_D f2 B2 S hD
      refine lv_istore (lv' := [(5, .int kr), (0, .ref b), (1, .ref h), (2, .ref h3), (3, .ref o), (4, .int (nI i))]) hx hb dL_law_1009 hl (by decide) rfl (fun ls hl => ?_)
      refine lv_aload_n hx hb dL_law_1011 rfl (lv_at hl 3 rfl) ?_
      refine lv_aload_n hx hb dL_law_1012 rfl (lv_at hl 1 rfl) ?_
      refine lv_iload hx hb dL_law_1013 (lv_at hl 5 rfl) ?_
      refine lv_iconst (v := 1) hx hb dL_law_1015 (by decide) ?_
      refine lv_iadd hx hb dL_law_1016 ?_
      refine va_sld hx hb hX hbl hbA hS (zy_in (k := 1) hL (by omega)) dL_law_1017 ?_
      refine lv_aload_n hx hb dL_law_1018 rfl (lv_at hl 1 rfl) ?_
      refine lv_iload hx hb dL_law_1019 (lv_at hl 5 rfl) ?_
      refine lv_iconst (v := 2) hx hb dL_law_1021 (by decide) ?_
      refine lv_iadd hx hb dL_law_1022 ?_
      refine va_sld hx hb hX hbl hbA hS (zy_in (k := 2) hL (by omega)) dL_law_1023 ?_
      refine lv_aload_n hx hb dL_law_1024 rfl (lv_at hl 1 rfl) ?_
      refine lv_iload hx hb dL_law_1025 (lv_at hl 5 rfl) ?_
      refine lv_iconst (v := 3) hx hb dL_law_1027 (by decide) ?_
      refine lv_iadd hx hb dL_law_1028 ?_
      refine va_sld hx hb hX hbl hbA hS (zy_in (k := 3) hL (by omega)) dL_law_1029 ?_
      have hF3 := zx_fW (zy_D2 hD) hS hA
      refine va_calli (va_runV (As := [.int (xs (Int32.toNatClampNeg ((nI i) + 1))), .int (xs (Int32.toNatClampNeg ((nI i) + 2))), .int (xs (Int32.toNatClampNeg ((nI i) + 3)))]) (rest := []) ⟨hx, hb, hml, hown, hts⟩ (c_X3_nearest l D cI cZ cT h3 a3 S _ N ((xs (Int32.toNatClampNeg ((nI i) + 1)))) ((xs (Int32.toNatClampNeg ((nI i) + 2)))) ((xs (Int32.toNatClampNeg ((nI i) + 3)))) hf3) (cwV 3 hts (zg_V zw_29_3 zw_29_4 zw_29_5 zw_1_5 zw_29_6) rfl rfl rfl ⟨rfl, zyX3_nearest⟩ ⟨Nat.le_of_ble_eq_true rfl, Nat.le_of_ble_eq_true rfl⟩) ⟨bS_blind, va_recv hK3 (zy_P2 hP) (ci := 3) (q0 := 0) rfl rfl, bS_pre (zy_P2 hP) hK3 (zy_D2 hD) hN⟩ rfl rfl hl.1 rfl (lv_room (Nat.le_of_ble_eq_true rfl)) dL_law_1030 ⟨by show 219 + j + 1 + 0 ≤ 601024; omega, by show 19600 + 6 * j + 6 + 0 ≤ 7293034; omega⟩) hS (fun q _ h => hF3 q h) hF3 (fun r3 u t H1 lc ht hvm hw3 hB hz1 hk1 hS => ?_)
      obtain ⟨hw1, hw2⟩ := Prod.mk.inj hw3; subst hw1; subst hw2
      rw [ht] at hB
      replace hP := zy_S2 (w2 := xW3 cI cZ h3 a3 S) (v2 := xW3 cI cZ h3 a3 S2) rfl hP hD hk1 hB
      replace hD := zW_D f2 B2 S2 hD
      refine lv_istore (lv' := [(6, .int r), (5, .int kr), (0, .ref b), (1, .ref h), (2, .ref h3), (3, .ref o), (4, .int (nI i))]) hx hb dL_law_1033 hl (by decide) rfl (fun ls hl => ?_)
      refine lv_aload_n hx hb dL_law_1035 rfl (lv_at hl 4 rfl) ?_
      refine va_calli (va_runV (As := []) (rest := []) ⟨hx, hb, hml, hown, hts⟩ (c_X3_thrown l D cI cZ cT h3 a3 S2 _ N rfl) (cwV 0 hts (zg_V zw_5_19 zw_5_20 zw_5_21 zw_1_5 zw_5_22) rfl rfl rfl ⟨rfl, zyX3_thrown⟩ ⟨Nat.le_of_ble_eq_true rfl, Nat.le_of_ble_eq_true rfl⟩) ⟨bS_blind, va_recv hK3 (zy_P2 hP) (ci := 3) (q0 := 0) rfl rfl, bS_pre (zy_P2 hP) hK3 (zy_D2 hD) hN⟩ rfl rfl hl.1 rfl (lv_room (Nat.le_of_ble_eq_true rfl)) dL_law_1036 ⟨by show 219 + j + 1 + 0 + 0 ≤ 601024; omega, by show 19600 + 6 * j + 6 + 0 + 0 ≤ 7293034; omega⟩) hS (fun q h1 h2 => absurd h1 (Nat.not_lt.mpr h2)) (fun q h => hA q (Nat.le_trans hS.1 h)) (fun rf u t H1 lc ht hvm hrf hB hz1 hk1 hS => ?_)
      replace hrf : S2 12 0 = rf := hrf; subst hrf
      replace hP := zx_keep hP hk1
      refine lv_iload hx hb dL_law_1039 (lv_at hl 1 rfl) ?_
      have hkr : S2 12 0 = kr := by
        rcases hpost with z | z
        · rcases hw with y | y
          · rw [z.2.1, y.2.1]
          · exact absurd (z.1.symm.trans y.1) (by decide)
        · rcases hw with y | y
          · exact absurd (z.1.symm.trans y.1) (by decide)
          · rw [z.2, y.2]
      refine lv_icmp_eq (tgt := 1046) hx hb dL_law_1041 (by decide) (fun q1 => ?_) (fun q1 => absurd hkr q1)
      refine lv_iload hx hb dL_law_1046 (lv_at hl 1 rfl) ?_
      have jend : ∀ (H : Heap) (lc : List Loc) (ls : Array Slot), va_P D vwCl (zW cI cZ cT cL o h hh aa h3 a3 f2 B2 S2) H → va_S (fun q : Nat => s.heap.size ≤ q) s.heap H lc → lv_has ls 7 [(6, .int r), (5, .int kr), (0, .ref b), (1, .ref h), (2, .ref h3), (3, .ref o), (4, .int (nI i))] → W p l e room_1 s m #[Value.ref b] below meth c H lc (219 + j + 1 + 0 + 0) (19600 + 6 * j + 6 + 0 + 0) (lw_Z below #[Value.ref b] s) (F0 m 1063 ls []) := by
        intro H lc ls hP hS hl
        refine lv_goto (tgt := 1588) hx hb dL_law_1063 (by decide) ?_
        exact j1588 f2 B2 S2 _ _ _ hI2 hP hD hS (lv_sub hl [2, 3, 4, 5, 6] rfl)
      refine lv_if_ne (tgt := 1063) hx hb dL_law_1048 (by decide) (fun q2 => ?_) (fun q2 => ?_)
      · exact jend _ _ _ hP hS hl
      · have hv : f2 0 = Int32.toInt64 r := by
          rcases hpost with z | z
          · rcases hw with y | y
            · rw [← z.2.2]; exact y.2.2
            · exact absurd (z.1.symm.trans y.1) (by decide)
          · exact absurd ((z.2.symm.trans q1).trans q2) (by decide)
        refine lv_aload_n hx hb dL_law_1051 rfl (lv_at hl 5 rfl) ?_
        refine lv_iconst (v := 0) hx hb dL_law_1052 (by decide) ?_
        refine va_lald (D := D) hx hb hK hP 0 3 rfl rfl (vp_in_nI (n := 0) (N := 1) (by decide) (by decide)) dL_law_1053 ?_
        refine lv_iload hx hb dL_law_1054 (lv_at hl 0 rfl) ?_
        refine lv_i2l hx hb dL_law_1056 rfl ?_
        refine W.lcmp hx hb dL_law_1057 ?_
        refine lv_if_eq (tgt := 1063) hx hb dL_law_1058 (by decide) (fun q3 => ?_) (fun q3 => ?_)
        · exact jend _ _ _ hP hS hl
        · exact absurd (by show lg_cmp (f2 0) (Int32.toInt64 r) = 0; rw [hv]; exact zy_cmp _) q3
    by_cases c15 : v = 15
    · refine lv_tableIn (tgt := 1066) hx hb dL_law_39 (by rw [c15]; decide) (by rw [c15]; decide) (by rw [c15]; rfl) (by decide) ?_
      obtain ⟨R, r, S2, hf2, hf3, hI2, hpost⟩ := hs_chosen ((xs (Int32.toNatClampNeg ((nI i) + 1)))) ((xs (Int32.toNatClampNeg ((nI i) + 2)))) ((xs (Int32.toNatClampNeg ((nI i) + 3)))) ((xs (Int32.toNatClampNeg ((nI i) + 4)))) B S hI
      refine lv_aload_n hx hb dL_law_1066 rfl (lv_at hl 1 rfl) ?_
      refine lv_aload_n hx hb dL_law_1067 rfl (lv_at hl 0 rfl) ?_
      refine lv_iload hx hb dL_law_1068 (lv_at hl 4 rfl) ?_
      refine lv_iconst (v := 1) hx hb dL_law_1070 (by decide) ?_
      refine lv_iadd hx hb dL_law_1071 ?_
      refine va_sld hx hb hX hbl hbA hS (zy_in (k := 1) hL (by omega)) dL_law_1072 ?_
      refine lv_aload_n hx hb dL_law_1073 rfl (lv_at hl 0 rfl) ?_
      refine lv_iload hx hb dL_law_1074 (lv_at hl 4 rfl) ?_
      refine lv_iconst (v := 2) hx hb dL_law_1076 (by decide) ?_
      refine lv_iadd hx hb dL_law_1077 ?_
      refine va_sld hx hb hX hbl hbA hS (zy_in (k := 2) hL (by omega)) dL_law_1078 ?_
      refine lv_aload_n hx hb dL_law_1079 rfl (lv_at hl 0 rfl) ?_
      refine lv_iload hx hb dL_law_1080 (lv_at hl 4 rfl) ?_
      refine lv_iconst (v := 3) hx hb dL_law_1082 (by decide) ?_
      refine lv_iadd hx hb dL_law_1083 ?_
      refine va_sld hx hb hX hbl hbA hS (zy_in (k := 3) hL (by omega)) dL_law_1084 ?_
      refine lv_aload_n hx hb dL_law_1085 rfl (lv_at hl 0 rfl) ?_
      refine lv_iload hx hb dL_law_1086 (lv_at hl 4 rfl) ?_
      refine lv_iconst (v := 4) hx hb dL_law_1088 (by decide) ?_
      refine lv_iadd hx hb dL_law_1089 ?_
      refine va_sld hx hb hX hbl hbA hS (zy_in (k := 4) hL (by omega)) dL_law_1090 ?_
      refine lv_aload_n hx hb dL_law_1091 rfl (lv_at hl 3 rfl) ?_
      have hPc := zy_P1 hP
      have hDc := zy_D1 hD
      have hF := zx_fW hDc hS hA
      refine va_calli (vx_runSW (As := [.ref h, .int (xs (Int32.toNatClampNeg ((nI i) + 1))), .int (xs (Int32.toNatClampNeg ((nI i) + 2))), .int (xs (Int32.toNatClampNeg ((nI i) + 3))), .int (xs (Int32.toNatClampNeg ((nI i) + 4))), .ref o]) (rest := []) ⟨hx, hb, hml, hown, hts⟩ (c_L_chosen l hlt D cI cZ cT cL o h hh aa f B _ N ((xs (Int32.toNatClampNeg ((nI i) + 1)))) ((xs (Int32.toNatClampNeg ((nI i) + 2)))) ((xs (Int32.toNatClampNeg ((nI i) + 3)))) ((xs (Int32.toNatClampNeg ((nI i) + 4)))) hf2 (hpost.elim (fun z => Or.inl z.1) (fun z => Or.inr z.1))) (vx_cwSW 6 hts (zg_S zw_29_19 zw_29_20 zw_4_12 zw_29_21) rfl rfl rfl zyL_chosen ⟨Nat.le_of_ble_eq_true rfl, Nat.le_of_ble_eq_true rfl⟩) ⟨bY_blind, bY_pre hPc hK hDc hN hXX hNc hS hF⟩ rfl rfl hl.1 rfl (lv_room (Nat.le_of_ble_eq_true rfl)) dL_law_1092 ⟨by show 219 + j + 1 ≤ 601024; omega, by show 19600 + 6 * j + 6 ≤ 7293034; omega⟩) hS (fun q _ h => hF q h) hF (fun kr u t H1 lc ht hvm hw hB hz1 hk1 hS => ?_)
      obtain ⟨f2, B2⟩ := u
      obtain ⟨hw, hB2⟩ := hw
      replace hB2 : B2 = R.2.2 := hB2
      rw [← hB2] at hI2
      rw [ht] at hB
      replace hP := zy_S1 (by rw [zxL_len, zxL_len]) hP hD hk1 hB
      replace hD := zW_D f2 B2 S hD
      refine lv_istore (lv' := [(5, .int kr), (0, .ref b), (1, .ref h), (2, .ref h3), (3, .ref o), (4, .int (nI i))]) hx hb dL_law_1095 hl (by decide) rfl (fun ls hl => ?_)
      refine lv_aload_n hx hb dL_law_1097 rfl (lv_at hl 3 rfl) ?_
      refine lv_aload_n hx hb dL_law_1098 rfl (lv_at hl 1 rfl) ?_
      refine lv_iload hx hb dL_law_1099 (lv_at hl 5 rfl) ?_
      refine lv_iconst (v := 1) hx hb dL_law_1101 (by decide) ?_
      refine lv_iadd hx hb dL_law_1102 ?_
      refine va_sld hx hb hX hbl hbA hS (zy_in (k := 1) hL (by omega)) dL_law_1103 ?_
      refine lv_aload_n hx hb dL_law_1104 rfl (lv_at hl 1 rfl) ?_
      refine lv_iload hx hb dL_law_1105 (lv_at hl 5 rfl) ?_
      refine lv_iconst (v := 2) hx hb dL_law_1107 (by decide) ?_
      refine lv_iadd hx hb dL_law_1108 ?_
      refine va_sld hx hb hX hbl hbA hS (zy_in (k := 2) hL (by omega)) dL_law_1109 ?_
      refine lv_aload_n hx hb dL_law_1110 rfl (lv_at hl 1 rfl) ?_
      refine lv_iload hx hb dL_law_1111 (lv_at hl 5 rfl) ?_
      refine lv_iconst (v := 3) hx hb dL_law_1113 (by decide) ?_
      refine lv_iadd hx hb dL_law_1114 ?_
      refine va_sld hx hb hX hbl hbA hS (zy_in (k := 3) hL (by omega)) dL_law_1115 ?_
      refine lv_aload_n hx hb dL_law_1116 rfl (lv_at hl 1 rfl) ?_
      refine lv_iload hx hb dL_law_1117 (lv_at hl 5 rfl) ?_
      refine lv_iconst (v := 4) hx hb dL_law_1119 (by decide) ?_
      refine lv_iadd hx hb dL_law_1120 ?_
      refine va_sld hx hb hX hbl hbA hS (zy_in (k := 4) hL (by omega)) dL_law_1121 ?_
      have hF3 := zx_fW (zy_D2 hD) hS hA
      refine va_calli (va_runV (As := [.int (xs (Int32.toNatClampNeg ((nI i) + 1))), .int (xs (Int32.toNatClampNeg ((nI i) + 2))), .int (xs (Int32.toNatClampNeg ((nI i) + 3))), .int (xs (Int32.toNatClampNeg ((nI i) + 4)))]) (rest := []) ⟨hx, hb, hml, hown, hts⟩ (c_X3_chosen l D cI cZ cT h3 a3 S _ N ((xs (Int32.toNatClampNeg ((nI i) + 1)))) ((xs (Int32.toNatClampNeg ((nI i) + 2)))) ((xs (Int32.toNatClampNeg ((nI i) + 3)))) ((xs (Int32.toNatClampNeg ((nI i) + 4)))) hf3) (cwV 4 hts (zg_V zw_30_3 zw_30_4 zw_30_5 zw_1_5 zw_30_6) rfl rfl rfl ⟨rfl, zyX3_chosen⟩ ⟨Nat.le_of_ble_eq_true rfl, Nat.le_of_ble_eq_true rfl⟩) ⟨bS_blind, va_recv hK3 (zy_P2 hP) (ci := 3) (q0 := 0) rfl rfl, bS_pre (zy_P2 hP) hK3 (zy_D2 hD) hN⟩ rfl rfl hl.1 rfl (lv_room (Nat.le_of_ble_eq_true rfl)) dL_law_1122 ⟨by show 219 + j + 1 + 0 ≤ 601024; omega, by show 19600 + 6 * j + 6 + 0 ≤ 7293034; omega⟩) hS (fun q _ h => hF3 q h) hF3 (fun r3 u t H1 lc ht hvm hw3 hB hz1 hk1 hS => ?_)
      obtain ⟨hw1, hw2⟩ := Prod.mk.inj hw3; subst hw1; subst hw2
      rw [ht] at hB
      replace hP := zy_S2 (w2 := xW3 cI cZ h3 a3 S) (v2 := xW3 cI cZ h3 a3 S2) rfl hP hD hk1 hB
      replace hD := zW_D f2 B2 S2 hD
      refine lv_istore (lv' := [(6, .int r), (5, .int kr), (0, .ref b), (1, .ref h), (2, .ref h3), (3, .ref o), (4, .int (nI i))]) hx hb dL_law_1125 hl (by decide) rfl (fun ls hl => ?_)
      refine lv_aload_n hx hb dL_law_1127 rfl (lv_at hl 4 rfl) ?_
      refine va_calli (va_runV (As := []) (rest := []) ⟨hx, hb, hml, hown, hts⟩ (c_X3_thrown l D cI cZ cT h3 a3 S2 _ N rfl) (cwV 0 hts (zg_V zw_5_19 zw_5_20 zw_5_21 zw_1_5 zw_5_22) rfl rfl rfl ⟨rfl, zyX3_thrown⟩ ⟨Nat.le_of_ble_eq_true rfl, Nat.le_of_ble_eq_true rfl⟩) ⟨bS_blind, va_recv hK3 (zy_P2 hP) (ci := 3) (q0 := 0) rfl rfl, bS_pre (zy_P2 hP) hK3 (zy_D2 hD) hN⟩ rfl rfl hl.1 rfl (lv_room (Nat.le_of_ble_eq_true rfl)) dL_law_1128 ⟨by show 219 + j + 1 + 0 + 0 ≤ 601024; omega, by show 19600 + 6 * j + 6 + 0 + 0 ≤ 7293034; omega⟩) hS (fun q h1 h2 => absurd h1 (Nat.not_lt.mpr h2)) (fun q h => hA q (Nat.le_trans hS.1 h)) (fun rf u t H1 lc ht hvm hrf hB hz1 hk1 hS => ?_)
      replace hrf : S2 12 0 = rf := hrf; subst hrf
      replace hP := zx_keep hP hk1
      refine lv_iload hx hb dL_law_1131 (lv_at hl 1 rfl) ?_
      have hkr : S2 12 0 = kr := by
        rcases hpost with z | z
        · rcases hw with y | y
          · rw [z.2.1, y.2.1]
          · exact absurd (z.1.symm.trans y.1) (by decide)
        · rcases hw with y | y
          · exact absurd (z.1.symm.trans y.1) (by decide)
          · rw [z.2, y.2]
      refine lv_icmp_eq (tgt := 1138) hx hb dL_law_1133 (by decide) (fun q1 => ?_) (fun q1 => absurd hkr q1)
      refine lv_iload hx hb dL_law_1138 (lv_at hl 1 rfl) ?_
      have jend : ∀ (H : Heap) (lc : List Loc) (ls : Array Slot), va_P D vwCl (zW cI cZ cT cL o h hh aa h3 a3 f2 B2 S2) H → va_S (fun q : Nat => s.heap.size ≤ q) s.heap H lc → lv_has ls 7 [(6, .int r), (5, .int kr), (0, .ref b), (1, .ref h), (2, .ref h3), (3, .ref o), (4, .int (nI i))] → W p l e room_1 s m #[Value.ref b] below meth c H lc (219 + j + 1 + 0 + 0) (19600 + 6 * j + 6 + 0 + 0) (lw_Z below #[Value.ref b] s) (F0 m 1155 ls []) := by
        intro H lc ls hP hS hl
        refine lv_goto (tgt := 1588) hx hb dL_law_1155 (by decide) ?_
        exact j1588 f2 B2 S2 _ _ _ hI2 hP hD hS (lv_sub hl [2, 3, 4, 5, 6] rfl)
      refine lv_if_ne (tgt := 1155) hx hb dL_law_1140 (by decide) (fun q2 => ?_) (fun q2 => ?_)
      · exact jend _ _ _ hP hS hl
      · have hv : f2 0 = Int32.toInt64 r := by
          rcases hpost with z | z
          · rcases hw with y | y
            · rw [← z.2.2]; exact y.2.2
            · exact absurd (z.1.symm.trans y.1) (by decide)
          · exact absurd ((z.2.symm.trans q1).trans q2) (by decide)
        refine lv_aload_n hx hb dL_law_1143 rfl (lv_at hl 5 rfl) ?_
        refine lv_iconst (v := 0) hx hb dL_law_1144 (by decide) ?_
        refine va_lald (D := D) hx hb hK hP 0 3 rfl rfl (vp_in_nI (n := 0) (N := 1) (by decide) (by decide)) dL_law_1145 ?_
        refine lv_iload hx hb dL_law_1146 (lv_at hl 0 rfl) ?_
        refine lv_i2l hx hb dL_law_1148 rfl ?_
        refine W.lcmp hx hb dL_law_1149 ?_
        refine lv_if_eq (tgt := 1155) hx hb dL_law_1150 (by decide) (fun q3 => ?_) (fun q3 => ?_)
        · exact jend _ _ _ hP hS hl
        · exact absurd (by show lg_cmp (f2 0) (Int32.toInt64 r) = 0; rw [hv]; exact zy_cmp _) q3
    by_cases c16 : v = 16
    · refine lv_tableIn (tgt := 1158) hx hb dL_law_39 (by rw [c16]; decide) (by rw [c16]; decide) (by rw [c16]; rfl) (by decide) ?_
      obtain ⟨R, r, S2, hf2, hf3, hI2, hpost⟩ := hs_ifAdded ((xs (Int32.toNatClampNeg ((nI i) + 1)))) ((xs (Int32.toNatClampNeg ((nI i) + 2)))) ((xs (Int32.toNatClampNeg ((nI i) + 3)))) ((xs (Int32.toNatClampNeg ((nI i) + 4)))) B S hI
      refine lv_aload_n hx hb dL_law_1158 rfl (lv_at hl 1 rfl) ?_
      refine lv_aload_n hx hb dL_law_1159 rfl (lv_at hl 0 rfl) ?_
      refine lv_iload hx hb dL_law_1160 (lv_at hl 4 rfl) ?_
      refine lv_iconst (v := 1) hx hb dL_law_1162 (by decide) ?_
      refine lv_iadd hx hb dL_law_1163 ?_
      refine va_sld hx hb hX hbl hbA hS (zy_in (k := 1) hL (by omega)) dL_law_1164 ?_
      refine lv_aload_n hx hb dL_law_1165 rfl (lv_at hl 0 rfl) ?_
      refine lv_iload hx hb dL_law_1166 (lv_at hl 4 rfl) ?_
      refine lv_iconst (v := 2) hx hb dL_law_1168 (by decide) ?_
      refine lv_iadd hx hb dL_law_1169 ?_
      refine va_sld hx hb hX hbl hbA hS (zy_in (k := 2) hL (by omega)) dL_law_1170 ?_
      refine lv_aload_n hx hb dL_law_1171 rfl (lv_at hl 0 rfl) ?_
      refine lv_iload hx hb dL_law_1172 (lv_at hl 4 rfl) ?_
      refine lv_iconst (v := 3) hx hb dL_law_1174 (by decide) ?_
      refine lv_iadd hx hb dL_law_1175 ?_
      refine va_sld hx hb hX hbl hbA hS (zy_in (k := 3) hL (by omega)) dL_law_1176 ?_
      refine lv_aload_n hx hb dL_law_1177 rfl (lv_at hl 0 rfl) ?_
      refine lv_iload hx hb dL_law_1178 (lv_at hl 4 rfl) ?_
      refine lv_iconst (v := 4) hx hb dL_law_1180 (by decide) ?_
      refine lv_iadd hx hb dL_law_1181 ?_
      refine va_sld hx hb hX hbl hbA hS (zy_in (k := 4) hL (by omega)) dL_law_1182 ?_
      refine lv_aload_n hx hb dL_law_1183 rfl (lv_at hl 3 rfl) ?_
      have hPc := zy_P1 hP
      have hDc := zy_D1 hD
      have hF := zx_fW hDc hS hA
      refine va_calli (vx_runSW (As := [.ref h, .int (xs (Int32.toNatClampNeg ((nI i) + 1))), .int (xs (Int32.toNatClampNeg ((nI i) + 2))), .int (xs (Int32.toNatClampNeg ((nI i) + 3))), .int (xs (Int32.toNatClampNeg ((nI i) + 4))), .ref o]) (rest := []) ⟨hx, hb, hml, hown, hts⟩ (c_L_ifAdded l hlt D cI cZ cT cL o h hh aa f B _ N ((xs (Int32.toNatClampNeg ((nI i) + 1)))) ((xs (Int32.toNatClampNeg ((nI i) + 2)))) ((xs (Int32.toNatClampNeg ((nI i) + 3)))) ((xs (Int32.toNatClampNeg ((nI i) + 4)))) hf2 (hpost.elim (fun z => Or.inl z.1) (fun z => Or.inr z.1))) (vx_cwSW 6 hts (zg_S zw_30_7 zw_30_8 zw_4_12 zw_30_9) rfl rfl rfl zyL_ifAdded ⟨Nat.le_of_ble_eq_true rfl, Nat.le_of_ble_eq_true rfl⟩) ⟨bY_blind, bY_pre hPc hK hDc hN hXX hNc hS hF⟩ rfl rfl hl.1 rfl (lv_room (Nat.le_of_ble_eq_true rfl)) dL_law_1184 ⟨by show 219 + j + 1 ≤ 601024; omega, by show 19600 + 6 * j + 6 ≤ 7293034; omega⟩) hS (fun q _ h => hF q h) hF (fun kr u t H1 lc ht hvm hw hB hz1 hk1 hS => ?_)
      obtain ⟨f2, B2⟩ := u
      obtain ⟨hw, hB2⟩ := hw
      replace hB2 : B2 = R.2.2 := hB2
      rw [← hB2] at hI2
      rw [ht] at hB
      replace hP := zy_S1 (by rw [zxL_len, zxL_len]) hP hD hk1 hB
      replace hD := zW_D f2 B2 S hD
      refine lv_istore (lv' := [(5, .int kr), (0, .ref b), (1, .ref h), (2, .ref h3), (3, .ref o), (4, .int (nI i))]) hx hb dL_law_1187 hl (by decide) rfl (fun ls hl => ?_)
      refine lv_aload_n hx hb dL_law_1189 rfl (lv_at hl 3 rfl) ?_
      refine lv_aload_n hx hb dL_law_1190 rfl (lv_at hl 1 rfl) ?_
      refine lv_iload hx hb dL_law_1191 (lv_at hl 5 rfl) ?_
      refine lv_iconst (v := 1) hx hb dL_law_1193 (by decide) ?_
      refine lv_iadd hx hb dL_law_1194 ?_
      refine va_sld hx hb hX hbl hbA hS (zy_in (k := 1) hL (by omega)) dL_law_1195 ?_
      refine lv_aload_n hx hb dL_law_1196 rfl (lv_at hl 1 rfl) ?_
      refine lv_iload hx hb dL_law_1197 (lv_at hl 5 rfl) ?_
      refine lv_iconst (v := 2) hx hb dL_law_1199 (by decide) ?_
      refine lv_iadd hx hb dL_law_1200 ?_
      refine va_sld hx hb hX hbl hbA hS (zy_in (k := 2) hL (by omega)) dL_law_1201 ?_
      refine lv_aload_n hx hb dL_law_1202 rfl (lv_at hl 1 rfl) ?_
      refine lv_iload hx hb dL_law_1203 (lv_at hl 5 rfl) ?_
      refine lv_iconst (v := 3) hx hb dL_law_1205 (by decide) ?_
      refine lv_iadd hx hb dL_law_1206 ?_
      refine va_sld hx hb hX hbl hbA hS (zy_in (k := 3) hL (by omega)) dL_law_1207 ?_
      refine lv_aload_n hx hb dL_law_1208 rfl (lv_at hl 1 rfl) ?_
      refine lv_iload hx hb dL_law_1209 (lv_at hl 5 rfl) ?_
      refine lv_iconst (v := 4) hx hb dL_law_1211 (by decide) ?_
      refine lv_iadd hx hb dL_law_1212 ?_
      refine va_sld hx hb hX hbl hbA hS (zy_in (k := 4) hL (by omega)) dL_law_1213 ?_
      have hF3 := zx_fW (zy_D2 hD) hS hA
      refine va_calli (va_runV (As := [.int (xs (Int32.toNatClampNeg ((nI i) + 1))), .int (xs (Int32.toNatClampNeg ((nI i) + 2))), .int (xs (Int32.toNatClampNeg ((nI i) + 3))), .int (xs (Int32.toNatClampNeg ((nI i) + 4)))]) (rest := []) ⟨hx, hb, hml, hown, hts⟩ (c_X3_ifAdded l D cI cZ cT h3 a3 S _ N ((xs (Int32.toNatClampNeg ((nI i) + 1)))) ((xs (Int32.toNatClampNeg ((nI i) + 2)))) ((xs (Int32.toNatClampNeg ((nI i) + 3)))) ((xs (Int32.toNatClampNeg ((nI i) + 4)))) hf3) (cwV 4 hts (zg_V zw_30_19 zw_30_20 zw_30_21 zw_1_5 zw_30_22) rfl rfl rfl ⟨rfl, zyX3_ifAdded⟩ ⟨Nat.le_of_ble_eq_true rfl, Nat.le_of_ble_eq_true rfl⟩) ⟨bS_blind, va_recv hK3 (zy_P2 hP) (ci := 3) (q0 := 0) rfl rfl, bS_pre (zy_P2 hP) hK3 (zy_D2 hD) hN⟩ rfl rfl hl.1 rfl (lv_room (Nat.le_of_ble_eq_true rfl)) dL_law_1214 ⟨by show 219 + j + 1 + 0 ≤ 601024; omega, by show 19600 + 6 * j + 6 + 0 ≤ 7293034; omega⟩) hS (fun q _ h => hF3 q h) hF3 (fun r3 u t H1 lc ht hvm hw3 hB hz1 hk1 hS => ?_)
      obtain ⟨hw1, hw2⟩ := Prod.mk.inj hw3; subst hw1; subst hw2
      rw [ht] at hB
      replace hP := zy_S2 (w2 := xW3 cI cZ h3 a3 S) (v2 := xW3 cI cZ h3 a3 S2) rfl hP hD hk1 hB
      replace hD := zW_D f2 B2 S2 hD
      refine lv_istore (lv' := [(6, .int r), (5, .int kr), (0, .ref b), (1, .ref h), (2, .ref h3), (3, .ref o), (4, .int (nI i))]) hx hb dL_law_1217 hl (by decide) rfl (fun ls hl => ?_)
      refine lv_aload_n hx hb dL_law_1219 rfl (lv_at hl 4 rfl) ?_
      refine va_calli (va_runV (As := []) (rest := []) ⟨hx, hb, hml, hown, hts⟩ (c_X3_thrown l D cI cZ cT h3 a3 S2 _ N rfl) (cwV 0 hts (zg_V zw_5_19 zw_5_20 zw_5_21 zw_1_5 zw_5_22) rfl rfl rfl ⟨rfl, zyX3_thrown⟩ ⟨Nat.le_of_ble_eq_true rfl, Nat.le_of_ble_eq_true rfl⟩) ⟨bS_blind, va_recv hK3 (zy_P2 hP) (ci := 3) (q0 := 0) rfl rfl, bS_pre (zy_P2 hP) hK3 (zy_D2 hD) hN⟩ rfl rfl hl.1 rfl (lv_room (Nat.le_of_ble_eq_true rfl)) dL_law_1220 ⟨by show 219 + j + 1 + 0 + 0 ≤ 601024; omega, by show 19600 + 6 * j + 6 + 0 + 0 ≤ 7293034; omega⟩) hS (fun q h1 h2 => absurd h1 (Nat.not_lt.mpr h2)) (fun q h => hA q (Nat.le_trans hS.1 h)) (fun rf u t H1 lc ht hvm hrf hB hz1 hk1 hS => ?_)
      replace hrf : S2 12 0 = rf := hrf; subst hrf
      replace hP := zx_keep hP hk1
      refine lv_iload hx hb dL_law_1223 (lv_at hl 1 rfl) ?_
      have hkr : S2 12 0 = kr := by
        rcases hpost with z | z
        · rcases hw with y | y
          · rw [z.2.1, y.2.1]
          · exact absurd (z.1.symm.trans y.1) (by decide)
        · rcases hw with y | y
          · exact absurd (z.1.symm.trans y.1) (by decide)
          · rw [z.2, y.2]
      refine lv_icmp_eq (tgt := 1230) hx hb dL_law_1225 (by decide) (fun q1 => ?_) (fun q1 => absurd hkr q1)
      refine lv_iload hx hb dL_law_1230 (lv_at hl 1 rfl) ?_
      have jend : ∀ (H : Heap) (lc : List Loc) (ls : Array Slot), va_P D vwCl (zW cI cZ cT cL o h hh aa h3 a3 f2 B2 S2) H → va_S (fun q : Nat => s.heap.size ≤ q) s.heap H lc → lv_has ls 7 [(6, .int r), (5, .int kr), (0, .ref b), (1, .ref h), (2, .ref h3), (3, .ref o), (4, .int (nI i))] → W p l e room_1 s m #[Value.ref b] below meth c H lc (219 + j + 1 + 0 + 0) (19600 + 6 * j + 6 + 0 + 0) (lw_Z below #[Value.ref b] s) (F0 m 1247 ls []) := by
        intro H lc ls hP hS hl
        refine lv_goto (tgt := 1588) hx hb dL_law_1247 (by decide) ?_
        exact j1588 f2 B2 S2 _ _ _ hI2 hP hD hS (lv_sub hl [2, 3, 4, 5, 6] rfl)
      refine lv_if_ne (tgt := 1247) hx hb dL_law_1232 (by decide) (fun q2 => ?_) (fun q2 => ?_)
      · exact jend _ _ _ hP hS hl
      · have hv : f2 0 = Int32.toInt64 r := by
          rcases hpost with z | z
          · rcases hw with y | y
            · rw [← z.2.2]; exact y.2.2
            · exact absurd (z.1.symm.trans y.1) (by decide)
          · exact absurd ((z.2.symm.trans q1).trans q2) (by decide)
        refine lv_aload_n hx hb dL_law_1235 rfl (lv_at hl 5 rfl) ?_
        refine lv_iconst (v := 0) hx hb dL_law_1236 (by decide) ?_
        refine va_lald (D := D) hx hb hK hP 0 3 rfl rfl (vp_in_nI (n := 0) (N := 1) (by decide) (by decide)) dL_law_1237 ?_
        refine lv_iload hx hb dL_law_1238 (lv_at hl 0 rfl) ?_
        refine lv_i2l hx hb dL_law_1240 rfl ?_
        refine W.lcmp hx hb dL_law_1241 ?_
        refine lv_if_eq (tgt := 1247) hx hb dL_law_1242 (by decide) (fun q3 => ?_) (fun q3 => ?_)
        · exact jend _ _ _ hP hS hl
        · exact absurd (by show lg_cmp (f2 0) (Int32.toInt64 r) = 0; rw [hv]; exact zy_cmp _) q3
    by_cases c17 : v = 17
    · refine lv_tableIn (tgt := 1250) hx hb dL_law_39 (by rw [c17]; decide) (by rw [c17]; decide) (by rw [c17]; rfl) (by decide) ?_
      obtain ⟨r, B2, S2, hf2, hf3, hI2⟩ := hs_bestRemoval B S hI
      refine lv_aload_n hx hb dL_law_1250 rfl (lv_at hl 1 rfl) ?_
      have hPc := zxL_P (zy_P1 hP)
      have hDc := zxL_D (zy_D1 hD)
      have hF := zx_fW hDc hS hA
      refine va_calli (va_runV (As := []) (rest := []) ⟨hx, hb, hml, hown, hts⟩ (c_X2_bestRemoval l D cI cZ cT h hh aa B _ N hf2) (cwV 0 hts (zg_V zw_31_0 zw_31_1 zw_31_2 zw_1_2 zw_31_3) rfl rfl rfl ⟨rfl, zyX2_bestRemoval⟩ ⟨Nat.le_of_ble_eq_true rfl, Nat.le_of_ble_eq_true rfl⟩) ⟨bS_blind, va_recv hK3 hPc (ci := 2) (q0 := 0) rfl rfl, bS_pre hPc hK3 hDc hN⟩ rfl rfl hl.1 rfl (lv_room (Nat.le_of_ble_eq_true rfl)) dL_law_1251 ⟨by show 219 + j + 0 ≤ 601024; omega, by show 19600 + 6 * j + 0 ≤ 7293034; omega⟩) hS (fun q _ h => hF q h) hF (fun r1 u t H1 lc ht hvm hw hB hz1 hk1 hS => ?_)
      obtain ⟨hw1, hw2⟩ := Prod.mk.inj hw; subst hw1; subst hw2
      rw [ht] at hB
      replace hP := zy_S1 (by rw [zxL_len, zxL_len]) hP hD (fun q h1 h2 => hk1 q h1 (fun h => h2 (h.elim (fun ⟨k, e, h⟩ => Or.inl ⟨k + 1, e, h⟩) Or.inr))) (zxL_S (zy_P1 hP) (zy_D1 hD) hk1 hB)
      replace hD := zW_D f B2 S hD
      refine lv_aload_n hx hb dL_law_1254 rfl (lv_at hl 2 rfl) ?_
      have hF3 := zx_fW (zy_D2 hD) hS hA
      refine va_calli (va_runV (As := []) (rest := [.int r]) ⟨hx, hb, hml, hown, hts⟩ (c_X3_bestRemoval l D cI cZ cT h3 a3 S _ N hf3) (cwV 0 hts (zg_V zw_31_4 zw_31_5 zw_31_6 zw_1_5 zw_31_7) rfl rfl rfl ⟨rfl, zyX3_bestRemoval⟩ ⟨Nat.le_of_ble_eq_true rfl, Nat.le_of_ble_eq_true rfl⟩) ⟨bS_blind, va_recv hK3 (zy_P2 hP) (ci := 3) (q0 := 0) rfl rfl, bS_pre (zy_P2 hP) hK3 (zy_D2 hD) hN⟩ rfl rfl hl.1 rfl (lv_room (Nat.le_of_ble_eq_true rfl)) dL_law_1255 ⟨by show 219 + j + 0 + 0 ≤ 601024; omega, by show 19600 + 6 * j + 0 + 0 ≤ 7293034; omega⟩) hS (fun q _ h => hF3 q h) hF3 (fun r3 u t H1 lc ht hvm hw3 hB hz1 hk1 hS => ?_)
      obtain ⟨hw1, hw2⟩ := Prod.mk.inj hw3; subst hw1; subst hw2
      rw [ht] at hB
      replace hP := zy_S2 (w2 := xW3 cI cZ h3 a3 S) (v2 := xW3 cI cZ h3 a3 S2) rfl hP hD hk1 hB
      replace hD := zW_D f B2 S2 hD
      refine lv_icmp_eq (tgt := 1588) hx hb dL_law_1258 (by decide) (fun q1 => ?_) (fun q1 => absurd rfl q1)
      refine W.widen (k := 219 + j + 1) (n := 19600 + 6 * j + 6) (by omega) (by omega) ?_
      exact j1588 f B2 S2 _ _ _ hI2 hP hD hS (lv_sub hl [0, 1, 2, 3, 4] rfl)
    by_cases c18 : v = 18
    · refine lv_tableIn (tgt := 1263) hx hb dL_law_39 (by rw [c18]; decide) (by rw [c18]; decide) (by rw [c18]; rfl) (by decide) ?_
      obtain ⟨r, B2, S2, hf2, hf3, hI2⟩ := hs_anew B S hI
      refine lv_aload_n hx hb dL_law_1263 rfl (lv_at hl 1 rfl) ?_
      have hPc := zxL_P (zy_P1 hP)
      have hDc := zxL_D (zy_D1 hD)
      have hF := zx_fW hDc hS hA
      refine va_calli (va_runV (As := []) (rest := []) ⟨hx, hb, hml, hown, hts⟩ (c_X2_anew l D cI cZ cT h hh aa B _ N hf2) (cwV 0 hts (zg_V zw_31_8 zw_31_9 zw_31_10 zw_1_2 zw_31_11) rfl rfl rfl ⟨rfl, zyX2_anew⟩ ⟨Nat.le_of_ble_eq_true rfl, Nat.le_of_ble_eq_true rfl⟩) ⟨bS_blind, va_recv hK3 hPc (ci := 2) (q0 := 0) rfl rfl, bS_pre hPc hK3 hDc hN⟩ rfl rfl hl.1 rfl (lv_room (Nat.le_of_ble_eq_true rfl)) dL_law_1264 ⟨by show 219 + j + 0 ≤ 601024; omega, by show 19600 + 6 * j + 0 ≤ 7293034; omega⟩) hS (fun q _ h => hF q h) hF (fun r1 u t H1 lc ht hvm hw hB hz1 hk1 hS => ?_)
      obtain ⟨hw1, hw2⟩ := Prod.mk.inj hw; subst hw1; subst hw2
      rw [ht] at hB
      replace hP := zy_S1 (by rw [zxL_len, zxL_len]) hP hD (fun q h1 h2 => hk1 q h1 (fun h => h2 (h.elim (fun ⟨k, e, h⟩ => Or.inl ⟨k + 1, e, h⟩) Or.inr))) (zxL_S (zy_P1 hP) (zy_D1 hD) hk1 hB)
      replace hD := zW_D f B2 S hD
      refine lv_aload_n hx hb dL_law_1267 rfl (lv_at hl 2 rfl) ?_
      have hF3 := zx_fW (zy_D2 hD) hS hA
      refine va_calli (va_runV (As := []) (rest := [.int r]) ⟨hx, hb, hml, hown, hts⟩ (c_X3_anew l D cI cZ cT h3 a3 S _ N hf3) (cwV 0 hts (zg_V zw_31_13 zw_31_14 zw_31_15 zw_1_5 zw_31_16) rfl rfl rfl ⟨rfl, zyX3_anew⟩ ⟨Nat.le_of_ble_eq_true rfl, Nat.le_of_ble_eq_true rfl⟩) ⟨bS_blind, va_recv hK3 (zy_P2 hP) (ci := 3) (q0 := 0) rfl rfl, bS_pre (zy_P2 hP) hK3 (zy_D2 hD) hN⟩ rfl rfl hl.1 rfl (lv_room (Nat.le_of_ble_eq_true rfl)) dL_law_1268 ⟨by show 219 + j + 0 + 0 ≤ 601024; omega, by show 19600 + 6 * j + 0 + 0 ≤ 7293034; omega⟩) hS (fun q _ h => hF3 q h) hF3 (fun r3 u t H1 lc ht hvm hw3 hB hz1 hk1 hS => ?_)
      obtain ⟨hw1, hw2⟩ := Prod.mk.inj hw3; subst hw1; subst hw2
      rw [ht] at hB
      replace hP := zy_S2 (w2 := xW3 cI cZ h3 a3 S) (v2 := xW3 cI cZ h3 a3 S2) rfl hP hD hk1 hB
      replace hD := zW_D f B2 S2 hD
      refine lv_icmp_eq (tgt := 1588) hx hb dL_law_1271 (by decide) (fun q1 => ?_) (fun q1 => absurd rfl q1)
      refine W.widen (k := 219 + j + 1) (n := 19600 + 6 * j + 6) (by omega) (by omega) ?_
      exact j1588 f B2 S2 _ _ _ hI2 hP hD hS (lv_sub hl [0, 1, 2, 3, 4] rfl)
    by_cases c19 : v = 19
    · refine lv_tableIn (tgt := 1276) hx hb dL_law_39 (by rw [c19]; decide) (by rw [c19]; decide) (by rw [c19]; rfl) (by decide) ?_
      obtain ⟨R, r, S2, hf2, hf3, hI2, hpost⟩ := hs_runScript ((xs (Int32.toNatClampNeg ((nI i) + 1)))) ((((Int32.toInt64 (xs (Int32.toNatClampNeg ((nI i) + 2)))) <<< ((32 : Int32).toInt64 &&& 63)) ||| ((Int32.toInt64 (xs (Int32.toNatClampNeg ((nI i) + 3)))) &&& 4294967295))) B S hI
      refine lv_aload_n hx hb dL_law_1276 rfl (lv_at hl 1 rfl) ?_
      refine lv_aload_n hx hb dL_law_1277 rfl (lv_at hl 0 rfl) ?_
      refine lv_iload hx hb dL_law_1278 (lv_at hl 4 rfl) ?_
      refine lv_iconst (v := 1) hx hb dL_law_1280 (by decide) ?_
      refine lv_iadd hx hb dL_law_1281 ?_
      refine va_sld hx hb hX hbl hbA hS (zy_in (k := 1) hL (by omega)) dL_law_1282 ?_
      refine lv_aload_n hx hb dL_law_1283 rfl (lv_at hl 0 rfl) ?_
      refine lv_iload hx hb dL_law_1284 (lv_at hl 4 rfl) ?_
      refine lv_iconst (v := 2) hx hb dL_law_1286 (by decide) ?_
      refine lv_iadd hx hb dL_law_1287 ?_
      refine va_sld hx hb hX hbl hbA hS (zy_in (k := 2) hL (by omega)) dL_law_1288 ?_
      refine lv_i2l hx hb dL_law_1289 rfl ?_
      refine lv_bipush (v := 32) hx hb dL_law_1290 (by decide) ?_
      refine lv_lshl hx hb dL_law_1292 rfl ?_
      refine lv_aload_n hx hb dL_law_1293 rfl (lv_at hl 0 rfl) ?_
      refine lv_iload hx hb dL_law_1294 (lv_at hl 4 rfl) ?_
      refine lv_iconst (v := 3) hx hb dL_law_1296 (by decide) ?_
      refine lv_iadd hx hb dL_law_1297 ?_
      refine va_sld hx hb hX hbl hbA hS (zy_in (k := 3) hL (by omega)) dL_law_1298 ?_
      refine lv_i2l hx hb dL_law_1299 rfl ?_
      refine lv_ldc2 (v := 4294967295) hx hb hown (hts _ zw_1_7) dL_law_1300 ?_
      refine lv_land hx hb dL_law_1303 ?_
      refine lv_lor hx hb dL_law_1304 ?_
      refine lv_aload_n hx hb dL_law_1305 rfl (lv_at hl 3 rfl) ?_
      have hPc := zy_P1 hP
      have hDc := zy_D1 hD
      have hF := zx_fW hDc hS hA
      refine va_calli (vx_runSW (As := [.ref h, .int (xs (Int32.toNatClampNeg ((nI i) + 1))), .long (((Int32.toInt64 (xs (Int32.toNatClampNeg ((nI i) + 2)))) <<< ((32 : Int32).toInt64 &&& 63)) ||| ((Int32.toInt64 (xs (Int32.toNatClampNeg ((nI i) + 3)))) &&& 4294967295)), .ref o]) (rest := []) ⟨hx, hb, hml, hown, hts⟩ (c_L_runScript l hlt D cI cZ cT cL o h hh aa f B _ N ((xs (Int32.toNatClampNeg ((nI i) + 1)))) ((((Int32.toInt64 (xs (Int32.toNatClampNeg ((nI i) + 2)))) <<< ((32 : Int32).toInt64 &&& 63)) ||| ((Int32.toInt64 (xs (Int32.toNatClampNeg ((nI i) + 3)))) &&& 4294967295))) hf2 (hpost.elim (fun z => Or.inl z.1) (fun z => Or.inr z.1))) (vx_cwSW 4 hts (zg_S zw_31_17 zw_31_18 zw_4_12 zw_31_19) rfl rfl rfl zyL_runScript ⟨Nat.le_of_ble_eq_true rfl, Nat.le_of_ble_eq_true rfl⟩) ⟨bY_blind, bY_pre hPc hK hDc hN hXX hNc hS hF⟩ rfl rfl hl.1 rfl (lv_room (Nat.le_of_ble_eq_true rfl)) dL_law_1306 ⟨by show 219 + j + 1 ≤ 601024; omega, by show 19600 + 6 * j + 6 ≤ 7293034; omega⟩) hS (fun q _ h => hF q h) hF (fun kr u t H1 lc ht hvm hw hB hz1 hk1 hS => ?_)
      obtain ⟨f2, B2⟩ := u
      obtain ⟨hw, hB2⟩ := hw
      replace hB2 : B2 = R.2.2 := hB2
      rw [← hB2] at hI2
      rw [ht] at hB
      replace hP := zy_S1 (by rw [zxL_len, zxL_len]) hP hD hk1 hB
      replace hD := zW_D f2 B2 S hD
      refine lv_istore (lv' := [(5, .int kr), (0, .ref b), (1, .ref h), (2, .ref h3), (3, .ref o), (4, .int (nI i))]) hx hb dL_law_1309 hl (by decide) rfl (fun ls hl => ?_)
      refine lv_aload_n hx hb dL_law_1311 rfl (lv_at hl 3 rfl) ?_
      refine lv_aload_n hx hb dL_law_1312 rfl (lv_at hl 1 rfl) ?_
      refine lv_iload hx hb dL_law_1313 (lv_at hl 5 rfl) ?_
      refine lv_iconst (v := 1) hx hb dL_law_1315 (by decide) ?_
      refine lv_iadd hx hb dL_law_1316 ?_
      refine va_sld hx hb hX hbl hbA hS (zy_in (k := 1) hL (by omega)) dL_law_1317 ?_
      refine lv_aload_n hx hb dL_law_1318 rfl (lv_at hl 1 rfl) ?_
      refine lv_iload hx hb dL_law_1319 (lv_at hl 5 rfl) ?_
      refine lv_iconst (v := 2) hx hb dL_law_1321 (by decide) ?_
      refine lv_iadd hx hb dL_law_1322 ?_
      refine va_sld hx hb hX hbl hbA hS (zy_in (k := 2) hL (by omega)) dL_law_1323 ?_
      refine lv_i2l hx hb dL_law_1324 rfl ?_
      refine lv_bipush (v := 32) hx hb dL_law_1325 (by decide) ?_
      refine lv_lshl hx hb dL_law_1327 rfl ?_
      refine lv_aload_n hx hb dL_law_1328 rfl (lv_at hl 1 rfl) ?_
      refine lv_iload hx hb dL_law_1329 (lv_at hl 5 rfl) ?_
      refine lv_iconst (v := 3) hx hb dL_law_1331 (by decide) ?_
      refine lv_iadd hx hb dL_law_1332 ?_
      refine va_sld hx hb hX hbl hbA hS (zy_in (k := 3) hL (by omega)) dL_law_1333 ?_
      refine lv_i2l hx hb dL_law_1334 rfl ?_
      refine lv_ldc2 (v := 4294967295) hx hb hown (hts _ zw_1_7) dL_law_1335 ?_
      refine lv_land hx hb dL_law_1338 ?_
      refine lv_lor hx hb dL_law_1339 ?_
      have hF3 := zx_fW (zy_D2 hD) hS hA
      refine va_calli (va_runV (As := [.int (xs (Int32.toNatClampNeg ((nI i) + 1))), .long (((Int32.toInt64 (xs (Int32.toNatClampNeg ((nI i) + 2)))) <<< ((32 : Int32).toInt64 &&& 63)) ||| ((Int32.toInt64 (xs (Int32.toNatClampNeg ((nI i) + 3)))) &&& 4294967295))]) (rest := []) ⟨hx, hb, hml, hown, hts⟩ (c_X3_runScript l D cI cZ cT h3 a3 S _ N ((xs (Int32.toNatClampNeg ((nI i) + 1)))) ((((Int32.toInt64 (xs (Int32.toNatClampNeg ((nI i) + 2)))) <<< ((32 : Int32).toInt64 &&& 63)) ||| ((Int32.toInt64 (xs (Int32.toNatClampNeg ((nI i) + 3)))) &&& 4294967295))) hf3) (cwV 2 hts (zg_V zw_32_13 zw_32_14 zw_32_15 zw_1_5 zw_32_16) rfl rfl rfl ⟨rfl, zyX3_runScript⟩ ⟨Nat.le_of_ble_eq_true rfl, Nat.le_of_ble_eq_true rfl⟩) ⟨bS_blind, va_recv hK3 (zy_P2 hP) (ci := 3) (q0 := 0) rfl rfl, bS_pre (zy_P2 hP) hK3 (zy_D2 hD) hN⟩ rfl rfl hl.1 rfl (lv_room (Nat.le_of_ble_eq_true rfl)) dL_law_1340 ⟨by show 219 + j + 1 + 0 ≤ 601024; omega, by show 19600 + 6 * j + 6 + 0 ≤ 7293034; omega⟩) hS (fun q _ h => hF3 q h) hF3 (fun r3 u t H1 lc ht hvm hw3 hB hz1 hk1 hS => ?_)
      obtain ⟨hw1, hw2⟩ := Prod.mk.inj hw3; subst hw1; subst hw2
      rw [ht] at hB
      replace hP := zy_S2 (w2 := xW3 cI cZ h3 a3 S) (v2 := xW3 cI cZ h3 a3 S2) rfl hP hD hk1 hB
      replace hD := zW_D f2 B2 S2 hD
      refine lv_istore (lv' := [(6, .int r), (5, .int kr), (0, .ref b), (1, .ref h), (2, .ref h3), (3, .ref o), (4, .int (nI i))]) hx hb dL_law_1343 hl (by decide) rfl (fun ls hl => ?_)
      refine lv_aload_n hx hb dL_law_1345 rfl (lv_at hl 4 rfl) ?_
      refine va_calli (va_runV (As := []) (rest := []) ⟨hx, hb, hml, hown, hts⟩ (c_X3_thrown l D cI cZ cT h3 a3 S2 _ N rfl) (cwV 0 hts (zg_V zw_5_19 zw_5_20 zw_5_21 zw_1_5 zw_5_22) rfl rfl rfl ⟨rfl, zyX3_thrown⟩ ⟨Nat.le_of_ble_eq_true rfl, Nat.le_of_ble_eq_true rfl⟩) ⟨bS_blind, va_recv hK3 (zy_P2 hP) (ci := 3) (q0 := 0) rfl rfl, bS_pre (zy_P2 hP) hK3 (zy_D2 hD) hN⟩ rfl rfl hl.1 rfl (lv_room (Nat.le_of_ble_eq_true rfl)) dL_law_1346 ⟨by show 219 + j + 1 + 0 + 0 ≤ 601024; omega, by show 19600 + 6 * j + 6 + 0 + 0 ≤ 7293034; omega⟩) hS (fun q h1 h2 => absurd h1 (Nat.not_lt.mpr h2)) (fun q h => hA q (Nat.le_trans hS.1 h)) (fun rf u t H1 lc ht hvm hrf hB hz1 hk1 hS => ?_)
      replace hrf : S2 12 0 = rf := hrf; subst hrf
      replace hP := zx_keep hP hk1
      refine lv_iload hx hb dL_law_1349 (lv_at hl 1 rfl) ?_
      have hkr : S2 12 0 = kr := by
        rcases hpost with z | z
        · rcases hw with y | y
          · rw [z.2.1, y.2.1]
          · exact absurd (z.1.symm.trans y.1) (by decide)
        · rcases hw with y | y
          · exact absurd (z.1.symm.trans y.1) (by decide)
          · rw [z.2, y.2]
      refine lv_icmp_eq (tgt := 1356) hx hb dL_law_1351 (by decide) (fun q1 => ?_) (fun q1 => absurd hkr q1)
      refine lv_iload hx hb dL_law_1356 (lv_at hl 1 rfl) ?_
      have jend : ∀ (H : Heap) (lc : List Loc) (ls : Array Slot), va_P D vwCl (zW cI cZ cT cL o h hh aa h3 a3 f2 B2 S2) H → va_S (fun q : Nat => s.heap.size ≤ q) s.heap H lc → lv_has ls 7 [(6, .int r), (5, .int kr), (0, .ref b), (1, .ref h), (2, .ref h3), (3, .ref o), (4, .int (nI i))] → W p l e room_1 s m #[Value.ref b] below meth c H lc (219 + j + 1 + 0 + 0) (19600 + 6 * j + 6 + 0 + 0) (lw_Z below #[Value.ref b] s) (F0 m 1373 ls []) := by
        intro H lc ls hP hS hl
        refine lv_goto (tgt := 1588) hx hb dL_law_1373 (by decide) ?_
        exact j1588 f2 B2 S2 _ _ _ hI2 hP hD hS (lv_sub hl [2, 3, 4, 5, 6] rfl)
      refine lv_if_ne (tgt := 1373) hx hb dL_law_1358 (by decide) (fun q2 => ?_) (fun q2 => ?_)
      · exact jend _ _ _ hP hS hl
      · have hv : f2 0 = Int32.toInt64 r := by
          rcases hpost with z | z
          · rcases hw with y | y
            · rw [← z.2.2]; exact y.2.2
            · exact absurd (z.1.symm.trans y.1) (by decide)
          · exact absurd ((z.2.symm.trans q1).trans q2) (by decide)
        refine lv_aload_n hx hb dL_law_1361 rfl (lv_at hl 5 rfl) ?_
        refine lv_iconst (v := 0) hx hb dL_law_1362 (by decide) ?_
        refine va_lald (D := D) hx hb hK hP 0 3 rfl rfl (vp_in_nI (n := 0) (N := 1) (by decide) (by decide)) dL_law_1363 ?_
        refine lv_iload hx hb dL_law_1364 (lv_at hl 0 rfl) ?_
        refine lv_i2l hx hb dL_law_1366 rfl ?_
        refine W.lcmp hx hb dL_law_1367 ?_
        refine lv_if_eq (tgt := 1373) hx hb dL_law_1368 (by decide) (fun q3 => ?_) (fun q3 => ?_)
        · exact jend _ _ _ hP hS hl
        · exact absurd (by show lg_cmp (f2 0) (Int32.toInt64 r) = 0; rw [hv]; exact zy_cmp _) q3
    by_cases c20 : v = 20
    · refine lv_tableIn (tgt := 1376) hx hb dL_law_39 (by rw [c20]; decide) (by rw [c20]; decide) (by rw [c20]; rfl) (by decide) ?_
      obtain ⟨R, r, S2, hf2, hf3, hI2, hpost⟩ := hs_simulate ((((Int32.toInt64 (xs (Int32.toNatClampNeg ((nI i) + 1)))) <<< ((32 : Int32).toInt64 &&& 63)) ||| ((Int32.toInt64 (xs (Int32.toNatClampNeg ((nI i) + 2)))) &&& 4294967295))) ((xs (Int32.toNatClampNeg ((nI i) + 3)))) B S hI
      refine lv_aload_n hx hb dL_law_1376 rfl (lv_at hl 1 rfl) ?_
      refine lv_aload_n hx hb dL_law_1377 rfl (lv_at hl 0 rfl) ?_
      refine lv_iload hx hb dL_law_1378 (lv_at hl 4 rfl) ?_
      refine lv_iconst (v := 1) hx hb dL_law_1380 (by decide) ?_
      refine lv_iadd hx hb dL_law_1381 ?_
      refine va_sld hx hb hX hbl hbA hS (zy_in (k := 1) hL (by omega)) dL_law_1382 ?_
      refine lv_i2l hx hb dL_law_1383 rfl ?_
      refine lv_bipush (v := 32) hx hb dL_law_1384 (by decide) ?_
      refine lv_lshl hx hb dL_law_1386 rfl ?_
      refine lv_aload_n hx hb dL_law_1387 rfl (lv_at hl 0 rfl) ?_
      refine lv_iload hx hb dL_law_1388 (lv_at hl 4 rfl) ?_
      refine lv_iconst (v := 2) hx hb dL_law_1390 (by decide) ?_
      refine lv_iadd hx hb dL_law_1391 ?_
      refine va_sld hx hb hX hbl hbA hS (zy_in (k := 2) hL (by omega)) dL_law_1392 ?_
      refine lv_i2l hx hb dL_law_1393 rfl ?_
      refine lv_ldc2 (v := 4294967295) hx hb hown (hts _ zw_1_7) dL_law_1394 ?_
      refine lv_land hx hb dL_law_1397 ?_
      refine lv_lor hx hb dL_law_1398 ?_
      refine lv_aload_n hx hb dL_law_1399 rfl (lv_at hl 0 rfl) ?_
      refine lv_iload hx hb dL_law_1400 (lv_at hl 4 rfl) ?_
      refine lv_iconst (v := 3) hx hb dL_law_1402 (by decide) ?_
      refine lv_iadd hx hb dL_law_1403 ?_
      refine va_sld hx hb hX hbl hbA hS (zy_in (k := 3) hL (by omega)) dL_law_1404 ?_
      refine lv_aload_n hx hb dL_law_1405 rfl (lv_at hl 3 rfl) ?_
      have hPc := zy_P1 hP
      have hDc := zy_D1 hD
      have hF := zx_fW hDc hS hA
      refine va_calli (vx_runSW (As := [.ref h, .long (((Int32.toInt64 (xs (Int32.toNatClampNeg ((nI i) + 1)))) <<< ((32 : Int32).toInt64 &&& 63)) ||| ((Int32.toInt64 (xs (Int32.toNatClampNeg ((nI i) + 2)))) &&& 4294967295)), .int (xs (Int32.toNatClampNeg ((nI i) + 3))), .ref o]) (rest := []) ⟨hx, hb, hml, hown, hts⟩ (c_L_simulate l hlt D cI cZ cT cL o h hh aa f B _ N ((((Int32.toInt64 (xs (Int32.toNatClampNeg ((nI i) + 1)))) <<< ((32 : Int32).toInt64 &&& 63)) ||| ((Int32.toInt64 (xs (Int32.toNatClampNeg ((nI i) + 2)))) &&& 4294967295))) ((xs (Int32.toNatClampNeg ((nI i) + 3)))) hf2 (hpost.elim (fun z => Or.inl z.1) (fun z => Or.inr z.1))) (vx_cwSW 4 hts (zg_S zw_33_9 zw_33_10 zw_4_12 zw_33_11) rfl rfl rfl zyL_simulate ⟨Nat.le_of_ble_eq_true rfl, Nat.le_of_ble_eq_true rfl⟩) ⟨bY_blind, bY_pre hPc hK hDc hN hXX hNc hS hF⟩ rfl rfl hl.1 rfl (lv_room (Nat.le_of_ble_eq_true rfl)) dL_law_1406 ⟨by show 219 + j + 1 ≤ 601024; omega, by show 19600 + 6 * j + 6 ≤ 7293034; omega⟩) hS (fun q _ h => hF q h) hF (fun kr u t H1 lc ht hvm hw hB hz1 hk1 hS => ?_)
      obtain ⟨f2, B2⟩ := u
      obtain ⟨hw, hB2⟩ := hw
      replace hB2 : B2 = R.2.2 := hB2
      rw [← hB2] at hI2
      rw [ht] at hB
      replace hP := zy_S1 (by rw [zxL_len, zxL_len]) hP hD hk1 hB
      replace hD := zW_D f2 B2 S hD
      refine lv_istore (lv' := [(5, .int kr), (0, .ref b), (1, .ref h), (2, .ref h3), (3, .ref o), (4, .int (nI i))]) hx hb dL_law_1409 hl (by decide) rfl (fun ls hl => ?_)
      refine lv_aload_n hx hb dL_law_1411 rfl (lv_at hl 3 rfl) ?_
      refine lv_aload_n hx hb dL_law_1412 rfl (lv_at hl 1 rfl) ?_
      refine lv_iload hx hb dL_law_1413 (lv_at hl 5 rfl) ?_
      refine lv_iconst (v := 1) hx hb dL_law_1415 (by decide) ?_
      refine lv_iadd hx hb dL_law_1416 ?_
      refine va_sld hx hb hX hbl hbA hS (zy_in (k := 1) hL (by omega)) dL_law_1417 ?_
      refine lv_i2l hx hb dL_law_1418 rfl ?_
      refine lv_bipush (v := 32) hx hb dL_law_1419 (by decide) ?_
      refine lv_lshl hx hb dL_law_1421 rfl ?_
      refine lv_aload_n hx hb dL_law_1422 rfl (lv_at hl 1 rfl) ?_
      refine lv_iload hx hb dL_law_1423 (lv_at hl 5 rfl) ?_
      refine lv_iconst (v := 2) hx hb dL_law_1425 (by decide) ?_
      refine lv_iadd hx hb dL_law_1426 ?_
      refine va_sld hx hb hX hbl hbA hS (zy_in (k := 2) hL (by omega)) dL_law_1427 ?_
      refine lv_i2l hx hb dL_law_1428 rfl ?_
      refine lv_ldc2 (v := 4294967295) hx hb hown (hts _ zw_1_7) dL_law_1429 ?_
      refine lv_land hx hb dL_law_1432 ?_
      refine lv_lor hx hb dL_law_1433 ?_
      refine lv_aload_n hx hb dL_law_1434 rfl (lv_at hl 1 rfl) ?_
      refine lv_iload hx hb dL_law_1435 (lv_at hl 5 rfl) ?_
      refine lv_iconst (v := 3) hx hb dL_law_1437 (by decide) ?_
      refine lv_iadd hx hb dL_law_1438 ?_
      refine va_sld hx hb hX hbl hbA hS (zy_in (k := 3) hL (by omega)) dL_law_1439 ?_
      have hF3 := zx_fW (zy_D2 hD) hS hA
      refine va_calli (va_runV (As := [.long (((Int32.toInt64 (xs (Int32.toNatClampNeg ((nI i) + 1)))) <<< ((32 : Int32).toInt64 &&& 63)) ||| ((Int32.toInt64 (xs (Int32.toNatClampNeg ((nI i) + 2)))) &&& 4294967295)), .int (xs (Int32.toNatClampNeg ((nI i) + 3)))]) (rest := []) ⟨hx, hb, hml, hown, hts⟩ (c_X3_simulate l D cI cZ cT h3 a3 S _ N ((((Int32.toInt64 (xs (Int32.toNatClampNeg ((nI i) + 1)))) <<< ((32 : Int32).toInt64 &&& 63)) ||| ((Int32.toInt64 (xs (Int32.toNatClampNeg ((nI i) + 2)))) &&& 4294967295))) ((xs (Int32.toNatClampNeg ((nI i) + 3)))) hf3) (cwV 2 hts (zg_V zw_34_0 zw_34_1 zw_34_2 zw_1_5 zw_34_3) rfl rfl rfl ⟨rfl, zyX3_simulate⟩ ⟨Nat.le_of_ble_eq_true rfl, Nat.le_of_ble_eq_true rfl⟩) ⟨bS_blind, va_recv hK3 (zy_P2 hP) (ci := 3) (q0 := 0) rfl rfl, bS_pre (zy_P2 hP) hK3 (zy_D2 hD) hN⟩ rfl rfl hl.1 rfl (lv_room (Nat.le_of_ble_eq_true rfl)) dL_law_1440 ⟨by show 219 + j + 1 + 0 ≤ 601024; omega, by show 19600 + 6 * j + 6 + 0 ≤ 7293034; omega⟩) hS (fun q _ h => hF3 q h) hF3 (fun r3 u t H1 lc ht hvm hw3 hB hz1 hk1 hS => ?_)
      obtain ⟨hw1, hw2⟩ := Prod.mk.inj hw3; subst hw1; subst hw2
      rw [ht] at hB
      replace hP := zy_S2 (w2 := xW3 cI cZ h3 a3 S) (v2 := xW3 cI cZ h3 a3 S2) rfl hP hD hk1 hB
      replace hD := zW_D f2 B2 S2 hD
      refine lv_istore (lv' := [(6, .int r), (5, .int kr), (0, .ref b), (1, .ref h), (2, .ref h3), (3, .ref o), (4, .int (nI i))]) hx hb dL_law_1443 hl (by decide) rfl (fun ls hl => ?_)
      refine lv_aload_n hx hb dL_law_1445 rfl (lv_at hl 4 rfl) ?_
      refine va_calli (va_runV (As := []) (rest := []) ⟨hx, hb, hml, hown, hts⟩ (c_X3_thrown l D cI cZ cT h3 a3 S2 _ N rfl) (cwV 0 hts (zg_V zw_5_19 zw_5_20 zw_5_21 zw_1_5 zw_5_22) rfl rfl rfl ⟨rfl, zyX3_thrown⟩ ⟨Nat.le_of_ble_eq_true rfl, Nat.le_of_ble_eq_true rfl⟩) ⟨bS_blind, va_recv hK3 (zy_P2 hP) (ci := 3) (q0 := 0) rfl rfl, bS_pre (zy_P2 hP) hK3 (zy_D2 hD) hN⟩ rfl rfl hl.1 rfl (lv_room (Nat.le_of_ble_eq_true rfl)) dL_law_1446 ⟨by show 219 + j + 1 + 0 + 0 ≤ 601024; omega, by show 19600 + 6 * j + 6 + 0 + 0 ≤ 7293034; omega⟩) hS (fun q h1 h2 => absurd h1 (Nat.not_lt.mpr h2)) (fun q h => hA q (Nat.le_trans hS.1 h)) (fun rf u t H1 lc ht hvm hrf hB hz1 hk1 hS => ?_)
      replace hrf : S2 12 0 = rf := hrf; subst hrf
      replace hP := zx_keep hP hk1
      refine lv_iload hx hb dL_law_1449 (lv_at hl 1 rfl) ?_
      have hkr : S2 12 0 = kr := by
        rcases hpost with z | z
        · rcases hw with y | y
          · rw [z.2.1, y.2.1]
          · exact absurd (z.1.symm.trans y.1) (by decide)
        · rcases hw with y | y
          · exact absurd (z.1.symm.trans y.1) (by decide)
          · rw [z.2, y.2]
      refine lv_icmp_eq (tgt := 1456) hx hb dL_law_1451 (by decide) (fun q1 => ?_) (fun q1 => absurd hkr q1)
      refine lv_iload hx hb dL_law_1456 (lv_at hl 1 rfl) ?_
      have jend : ∀ (H : Heap) (lc : List Loc) (ls : Array Slot), va_P D vwCl (zW cI cZ cT cL o h hh aa h3 a3 f2 B2 S2) H → va_S (fun q : Nat => s.heap.size ≤ q) s.heap H lc → lv_has ls 7 [(6, .int r), (5, .int kr), (0, .ref b), (1, .ref h), (2, .ref h3), (3, .ref o), (4, .int (nI i))] → W p l e room_1 s m #[Value.ref b] below meth c H lc (219 + j + 1 + 0 + 0) (19600 + 6 * j + 6 + 0 + 0) (lw_Z below #[Value.ref b] s) (F0 m 1473 ls []) := by
        intro H lc ls hP hS hl
        refine lv_goto (tgt := 1588) hx hb dL_law_1473 (by decide) ?_
        exact j1588 f2 B2 S2 _ _ _ hI2 hP hD hS (lv_sub hl [2, 3, 4, 5, 6] rfl)
      refine lv_if_ne (tgt := 1473) hx hb dL_law_1458 (by decide) (fun q2 => ?_) (fun q2 => ?_)
      · exact jend _ _ _ hP hS hl
      · have hv : f2 0 = Int32.toInt64 r := by
          rcases hpost with z | z
          · rcases hw with y | y
            · rw [← z.2.2]; exact y.2.2
            · exact absurd (z.1.symm.trans y.1) (by decide)
          · exact absurd ((z.2.symm.trans q1).trans q2) (by decide)
        refine lv_aload_n hx hb dL_law_1461 rfl (lv_at hl 5 rfl) ?_
        refine lv_iconst (v := 0) hx hb dL_law_1462 (by decide) ?_
        refine va_lald (D := D) hx hb hK hP 0 3 rfl rfl (vp_in_nI (n := 0) (N := 1) (by decide) (by decide)) dL_law_1463 ?_
        refine lv_iload hx hb dL_law_1464 (lv_at hl 0 rfl) ?_
        refine lv_i2l hx hb dL_law_1466 rfl ?_
        refine W.lcmp hx hb dL_law_1467 ?_
        refine lv_if_eq (tgt := 1473) hx hb dL_law_1468 (by decide) (fun q3 => ?_) (fun q3 => ?_)
        · exact jend _ _ _ hP hS hl
        · exact absurd (by show lg_cmp (f2 0) (Int32.toInt64 r) = 0; rw [hv]; exact zy_cmp _) q3
    by_cases c21 : v = 21
    · refine lv_tableIn (tgt := 1476) hx hb dL_law_39 (by rw [c21]; decide) (by rw [c21]; decide) (by rw [c21]; rfl) (by decide) ?_
      obtain ⟨R, r, S2, hf2, hf3, hI2, hpost⟩ := hs_save ((xs (Int32.toNatClampNeg ((nI i) + 1)))) B S hI
      refine lv_aload_n hx hb dL_law_1476 rfl (lv_at hl 1 rfl) ?_
      refine lv_aload_n hx hb dL_law_1477 rfl (lv_at hl 0 rfl) ?_
      refine lv_iload hx hb dL_law_1478 (lv_at hl 4 rfl) ?_
      refine lv_iconst (v := 1) hx hb dL_law_1480 (by decide) ?_
      refine lv_iadd hx hb dL_law_1481 ?_
      refine va_sld hx hb hX hbl hbA hS (zy_in (k := 1) hL (by omega)) dL_law_1482 ?_
      refine lv_aload_n hx hb dL_law_1483 rfl (lv_at hl 3 rfl) ?_
      have hPc := zy_P1 hP
      have hDc := zy_D1 hD
      have hF := zx_fW hDc hS hA
      refine va_calli (vx_runSW (As := [.ref h, .int (xs (Int32.toNatClampNeg ((nI i) + 1))), .ref o]) (rest := []) ⟨hx, hb, hml, hown, hts⟩ (c_L_save l hlt D cI cZ cT cL o h hh aa f B _ N ((xs (Int32.toNatClampNeg ((nI i) + 1)))) hf2 (hpost.elim (fun z => Or.inl z.1) (fun z => Or.inr z.1))) (vx_cwSW 3 hts (zg_S zw_34_13 zw_34_14 zw_4_12 zw_34_15) rfl rfl rfl zyL_save ⟨Nat.le_of_ble_eq_true rfl, Nat.le_of_ble_eq_true rfl⟩) ⟨bY_blind, bY_pre hPc hK hDc hN hXX hNc hS hF⟩ rfl rfl hl.1 rfl (lv_room (Nat.le_of_ble_eq_true rfl)) dL_law_1484 ⟨by show 219 + j + 1 ≤ 601024; omega, by show 19600 + 6 * j + 6 ≤ 7293034; omega⟩) hS (fun q _ h => hF q h) hF (fun kr u t H1 lc ht hvm hw hB hz1 hk1 hS => ?_)
      obtain ⟨f2, B2⟩ := u
      obtain ⟨hw, hB2⟩ := hw
      replace hB2 : B2 = R.2.2 := hB2
      rw [← hB2] at hI2
      rw [ht] at hB
      replace hP := zy_S1 (by rw [zxL_len, zxL_len]) hP hD hk1 hB
      replace hD := zW_D f2 B2 S hD
      refine lv_istore (lv' := [(5, .int kr), (0, .ref b), (1, .ref h), (2, .ref h3), (3, .ref o), (4, .int (nI i))]) hx hb dL_law_1487 hl (by decide) rfl (fun ls hl => ?_)
      refine lv_aload_n hx hb dL_law_1489 rfl (lv_at hl 3 rfl) ?_
      refine lv_aload_n hx hb dL_law_1490 rfl (lv_at hl 1 rfl) ?_
      refine lv_iload hx hb dL_law_1491 (lv_at hl 5 rfl) ?_
      refine lv_iconst (v := 1) hx hb dL_law_1493 (by decide) ?_
      refine lv_iadd hx hb dL_law_1494 ?_
      refine va_sld hx hb hX hbl hbA hS (zy_in (k := 1) hL (by omega)) dL_law_1495 ?_
      have hF3 := zx_fW (zy_D2 hD) hS hA
      refine va_calli (va_runV (As := [.int (xs (Int32.toNatClampNeg ((nI i) + 1)))]) (rest := []) ⟨hx, hb, hml, hown, hts⟩ (c_X3_save l D cI cZ cT h3 a3 S _ N ((xs (Int32.toNatClampNeg ((nI i) + 1)))) hf3) (cwV 1 hts (zg_V zw_34_21 zw_34_22 zw_34_23 zw_1_5 zw_35_0) rfl rfl rfl ⟨rfl, zyX3_save⟩ ⟨Nat.le_of_ble_eq_true rfl, Nat.le_of_ble_eq_true rfl⟩) ⟨bS_blind, va_recv hK3 (zy_P2 hP) (ci := 3) (q0 := 0) rfl rfl, bS_pre (zy_P2 hP) hK3 (zy_D2 hD) hN⟩ rfl rfl hl.1 rfl (lv_room (Nat.le_of_ble_eq_true rfl)) dL_law_1496 ⟨by show 219 + j + 1 + 0 ≤ 601024; omega, by show 19600 + 6 * j + 6 + 0 ≤ 7293034; omega⟩) hS (fun q _ h => hF3 q h) hF3 (fun r3 u t H1 lc ht hvm hw3 hB hz1 hk1 hS => ?_)
      obtain ⟨hw1, hw2⟩ := Prod.mk.inj hw3; subst hw1; subst hw2
      rw [ht] at hB
      replace hP := zy_S2 (w2 := xW3 cI cZ h3 a3 S) (v2 := xW3 cI cZ h3 a3 S2) rfl hP hD hk1 hB
      replace hD := zW_D f2 B2 S2 hD
      refine lv_istore (lv' := [(6, .int r), (5, .int kr), (0, .ref b), (1, .ref h), (2, .ref h3), (3, .ref o), (4, .int (nI i))]) hx hb dL_law_1499 hl (by decide) rfl (fun ls hl => ?_)
      refine lv_aload_n hx hb dL_law_1501 rfl (lv_at hl 4 rfl) ?_
      refine va_calli (va_runV (As := []) (rest := []) ⟨hx, hb, hml, hown, hts⟩ (c_X3_thrown l D cI cZ cT h3 a3 S2 _ N rfl) (cwV 0 hts (zg_V zw_5_19 zw_5_20 zw_5_21 zw_1_5 zw_5_22) rfl rfl rfl ⟨rfl, zyX3_thrown⟩ ⟨Nat.le_of_ble_eq_true rfl, Nat.le_of_ble_eq_true rfl⟩) ⟨bS_blind, va_recv hK3 (zy_P2 hP) (ci := 3) (q0 := 0) rfl rfl, bS_pre (zy_P2 hP) hK3 (zy_D2 hD) hN⟩ rfl rfl hl.1 rfl (lv_room (Nat.le_of_ble_eq_true rfl)) dL_law_1502 ⟨by show 219 + j + 1 + 0 + 0 ≤ 601024; omega, by show 19600 + 6 * j + 6 + 0 + 0 ≤ 7293034; omega⟩) hS (fun q h1 h2 => absurd h1 (Nat.not_lt.mpr h2)) (fun q h => hA q (Nat.le_trans hS.1 h)) (fun rf u t H1 lc ht hvm hrf hB hz1 hk1 hS => ?_)
      replace hrf : S2 12 0 = rf := hrf; subst hrf
      replace hP := zx_keep hP hk1
      refine lv_iload hx hb dL_law_1505 (lv_at hl 1 rfl) ?_
      have hkr : S2 12 0 = kr := by
        rcases hpost with z | z
        · rcases hw with y | y
          · rw [z.2.1, y.2.1]
          · exact absurd (z.1.symm.trans y.1) (by decide)
        · rcases hw with y | y
          · exact absurd (z.1.symm.trans y.1) (by decide)
          · rw [z.2, y.2]
      refine lv_icmp_eq (tgt := 1512) hx hb dL_law_1507 (by decide) (fun q1 => ?_) (fun q1 => absurd hkr q1)
      refine lv_iload hx hb dL_law_1512 (lv_at hl 1 rfl) ?_
      have jend : ∀ (H : Heap) (lc : List Loc) (ls : Array Slot), va_P D vwCl (zW cI cZ cT cL o h hh aa h3 a3 f2 B2 S2) H → va_S (fun q : Nat => s.heap.size ≤ q) s.heap H lc → lv_has ls 7 [(6, .int r), (5, .int kr), (0, .ref b), (1, .ref h), (2, .ref h3), (3, .ref o), (4, .int (nI i))] → W p l e room_1 s m #[Value.ref b] below meth c H lc (219 + j + 1 + 0 + 0) (19600 + 6 * j + 6 + 0 + 0) (lw_Z below #[Value.ref b] s) (F0 m 1529 ls []) := by
        intro H lc ls hP hS hl
        refine lv_goto (tgt := 1588) hx hb dL_law_1529 (by decide) ?_
        exact j1588 f2 B2 S2 _ _ _ hI2 hP hD hS (lv_sub hl [2, 3, 4, 5, 6] rfl)
      refine lv_if_ne (tgt := 1529) hx hb dL_law_1514 (by decide) (fun q2 => ?_) (fun q2 => ?_)
      · exact jend _ _ _ hP hS hl
      · have hv : f2 0 = Int32.toInt64 r := by
          rcases hpost with z | z
          · rcases hw with y | y
            · rw [← z.2.2]; exact y.2.2
            · exact absurd (z.1.symm.trans y.1) (by decide)
          · exact absurd ((z.2.symm.trans q1).trans q2) (by decide)
        refine lv_aload_n hx hb dL_law_1517 rfl (lv_at hl 5 rfl) ?_
        refine lv_iconst (v := 0) hx hb dL_law_1518 (by decide) ?_
        refine va_lald (D := D) hx hb hK hP 0 3 rfl rfl (vp_in_nI (n := 0) (N := 1) (by decide) (by decide)) dL_law_1519 ?_
        refine lv_iload hx hb dL_law_1520 (lv_at hl 0 rfl) ?_
        refine lv_i2l hx hb dL_law_1522 rfl ?_
        refine W.lcmp hx hb dL_law_1523 ?_
        refine lv_if_eq (tgt := 1529) hx hb dL_law_1524 (by decide) (fun q3 => ?_) (fun q3 => ?_)
        · exact jend _ _ _ hP hS hl
        · exact absurd (by show lg_cmp (f2 0) (Int32.toInt64 r) = 0; rw [hv]; exact zy_cmp _) q3
    by_cases c22 : v = 22
    · refine lv_tableIn (tgt := 1532) hx hb dL_law_39 (by rw [c22]; decide) (by rw [c22]; decide) (by rw [c22]; rfl) (by decide) ?_
      obtain ⟨R, r, S2, hf2, hf3, hI2, hpost⟩ := hs_restore ((xs (Int32.toNatClampNeg ((nI i) + 1)))) B S hI
      refine lv_aload_n hx hb dL_law_1532 rfl (lv_at hl 1 rfl) ?_
      refine lv_aload_n hx hb dL_law_1533 rfl (lv_at hl 0 rfl) ?_
      refine lv_iload hx hb dL_law_1534 (lv_at hl 4 rfl) ?_
      refine lv_iconst (v := 1) hx hb dL_law_1536 (by decide) ?_
      refine lv_iadd hx hb dL_law_1537 ?_
      refine va_sld hx hb hX hbl hbA hS (zy_in (k := 1) hL (by omega)) dL_law_1538 ?_
      refine lv_aload_n hx hb dL_law_1539 rfl (lv_at hl 3 rfl) ?_
      have hPc := zy_P1 hP
      have hDc := zy_D1 hD
      have hF := zx_fW hDc hS hA
      refine va_calli (vx_runSW (As := [.ref h, .int (xs (Int32.toNatClampNeg ((nI i) + 1))), .ref o]) (rest := []) ⟨hx, hb, hml, hown, hts⟩ (c_L_restore l hlt D cI cZ cT cL o h hh aa f B _ N ((xs (Int32.toNatClampNeg ((nI i) + 1)))) hf2 (hpost.elim (fun z => Or.inl z.1) (fun z => Or.inr (z.elim (fun z => Or.inl z.1) (fun z => Or.inr z.1))))) (vx_cwSW 3 hts (zg_S zw_35_1 zw_35_2 zw_4_12 zw_35_3) rfl rfl rfl zyL_restore ⟨Nat.le_of_ble_eq_true rfl, Nat.le_of_ble_eq_true rfl⟩) ⟨bY_blind, bY_pre hPc hK hDc hN hXX hNc hS hF⟩ rfl rfl hl.1 rfl (lv_room (Nat.le_of_ble_eq_true rfl)) dL_law_1540 ⟨by show 219 + j + 1 ≤ 601024; omega, by show 19600 + 6 * j + 6 ≤ 7293034; omega⟩) hS (fun q _ h => hF q h) hF (fun kr u t H1 lc ht hvm hw hB hz1 hk1 hS => ?_)
      obtain ⟨f2, B2⟩ := u
      obtain ⟨hw, hB2⟩ := hw
      replace hB2 : B2 = R.2.2 := hB2
      rw [← hB2] at hI2
      rw [ht] at hB
      replace hP := zy_S1 (by rw [zxL_len, zxL_len]) hP hD hk1 hB
      replace hD := zW_D f2 B2 S hD
      refine lv_istore (lv' := [(5, .int kr), (0, .ref b), (1, .ref h), (2, .ref h3), (3, .ref o), (4, .int (nI i))]) hx hb dL_law_1543 hl (by decide) rfl (fun ls hl => ?_)
      refine lv_aload_n hx hb dL_law_1545 rfl (lv_at hl 3 rfl) ?_
      refine lv_aload_n hx hb dL_law_1546 rfl (lv_at hl 1 rfl) ?_
      refine lv_iload hx hb dL_law_1547 (lv_at hl 5 rfl) ?_
      refine lv_iconst (v := 1) hx hb dL_law_1549 (by decide) ?_
      refine lv_iadd hx hb dL_law_1550 ?_
      refine va_sld hx hb hX hbl hbA hS (zy_in (k := 1) hL (by omega)) dL_law_1551 ?_
      have hF3 := zx_fW (zy_D2 hD) hS hA
      refine va_calli (va_runV (As := [.int (xs (Int32.toNatClampNeg ((nI i) + 1)))]) (rest := []) ⟨hx, hb, hml, hown, hts⟩ (c_X3_restore l D cI cZ cT h3 a3 S _ N ((xs (Int32.toNatClampNeg ((nI i) + 1)))) hf3) (cwV 1 hts (zg_V zw_35_9 zw_35_10 zw_35_11 zw_1_5 zw_35_12) rfl rfl rfl ⟨rfl, zyX3_restore⟩ ⟨Nat.le_of_ble_eq_true rfl, Nat.le_of_ble_eq_true rfl⟩) ⟨bS_blind, va_recv hK3 (zy_P2 hP) (ci := 3) (q0 := 0) rfl rfl, bS_pre (zy_P2 hP) hK3 (zy_D2 hD) hN⟩ rfl rfl hl.1 rfl (lv_room (Nat.le_of_ble_eq_true rfl)) dL_law_1552 ⟨by show 219 + j + 1 + 0 ≤ 601024; omega, by show 19600 + 6 * j + 6 + 0 ≤ 7293034; omega⟩) hS (fun q _ h => hF3 q h) hF3 (fun r3 u t H1 lc ht hvm hw3 hB hz1 hk1 hS => ?_)
      obtain ⟨hw1, hw2⟩ := Prod.mk.inj hw3; subst hw1; subst hw2
      rw [ht] at hB
      replace hP := zy_S2 (w2 := xW3 cI cZ h3 a3 S) (v2 := xW3 cI cZ h3 a3 S2) rfl hP hD hk1 hB
      replace hD := zW_D f2 B2 S2 hD
      refine lv_istore (lv' := [(6, .int r), (5, .int kr), (0, .ref b), (1, .ref h), (2, .ref h3), (3, .ref o), (4, .int (nI i))]) hx hb dL_law_1555 hl (by decide) rfl (fun ls hl => ?_)
      refine lv_aload_n hx hb dL_law_1557 rfl (lv_at hl 4 rfl) ?_
      refine va_calli (va_runV (As := []) (rest := []) ⟨hx, hb, hml, hown, hts⟩ (c_X3_thrown l D cI cZ cT h3 a3 S2 _ N rfl) (cwV 0 hts (zg_V zw_5_19 zw_5_20 zw_5_21 zw_1_5 zw_5_22) rfl rfl rfl ⟨rfl, zyX3_thrown⟩ ⟨Nat.le_of_ble_eq_true rfl, Nat.le_of_ble_eq_true rfl⟩) ⟨bS_blind, va_recv hK3 (zy_P2 hP) (ci := 3) (q0 := 0) rfl rfl, bS_pre (zy_P2 hP) hK3 (zy_D2 hD) hN⟩ rfl rfl hl.1 rfl (lv_room (Nat.le_of_ble_eq_true rfl)) dL_law_1558 ⟨by show 219 + j + 1 + 0 + 0 ≤ 601024; omega, by show 19600 + 6 * j + 6 + 0 + 0 ≤ 7293034; omega⟩) hS (fun q h1 h2 => absurd h1 (Nat.not_lt.mpr h2)) (fun q h => hA q (Nat.le_trans hS.1 h)) (fun rf u t H1 lc ht hvm hrf hB hz1 hk1 hS => ?_)
      replace hrf : S2 12 0 = rf := hrf; subst hrf
      replace hP := zx_keep hP hk1
      refine lv_iload hx hb dL_law_1561 (lv_at hl 1 rfl) ?_
      have hkr : S2 12 0 = kr := by
        rcases hpost with z | z | z
        · rcases hw with y | y | y
          · rw [z.2.1, y.2.1]
          · exact absurd (z.1.symm.trans y.1) (by decide)
          · exact absurd (z.1.symm.trans y.1) (by decide)
        · rcases hw with y | y | y
          · exact absurd (z.1.symm.trans y.1) (by decide)
          · rw [z.2, y.2]
          · exact absurd (z.1.symm.trans y.1) (by decide)
        · rcases hw with y | y | y
          · exact absurd (z.1.symm.trans y.1) (by decide)
          · exact absurd (z.1.symm.trans y.1) (by decide)
          · rw [z.2, y.2]
      refine lv_icmp_eq (tgt := 1568) hx hb dL_law_1563 (by decide) (fun q1 => ?_) (fun q1 => absurd hkr q1)
      refine lv_iload hx hb dL_law_1568 (lv_at hl 1 rfl) ?_
      have jend : ∀ (H : Heap) (lc : List Loc) (ls : Array Slot), va_P D vwCl (zW cI cZ cT cL o h hh aa h3 a3 f2 B2 S2) H → va_S (fun q : Nat => s.heap.size ≤ q) s.heap H lc → lv_has ls 7 [(6, .int r), (5, .int kr), (0, .ref b), (1, .ref h), (2, .ref h3), (3, .ref o), (4, .int (nI i))] → W p l e room_1 s m #[Value.ref b] below meth c H lc (219 + j + 1 + 0 + 0) (19600 + 6 * j + 6 + 0 + 0) (lw_Z below #[Value.ref b] s) (F0 m 1585 ls []) := by
        intro H lc ls hP hS hl
        refine lv_goto (tgt := 1588) hx hb dL_law_1585 (by decide) ?_
        exact j1588 f2 B2 S2 _ _ _ hI2 hP hD hS (lv_sub hl [2, 3, 4, 5, 6] rfl)
      refine lv_if_ne (tgt := 1585) hx hb dL_law_1570 (by decide) (fun q2 => ?_) (fun q2 => ?_)
      · exact jend _ _ _ hP hS hl
      · have hv : f2 0 = Int32.toInt64 r := by
          rcases hpost with z | z | z
          · rcases hw with y | y | y
            · rw [← z.2.2]; exact y.2.2
            · exact absurd (z.1.symm.trans y.1) (by decide)
            · exact absurd (z.1.symm.trans y.1) (by decide)
          · exact absurd ((z.2.symm.trans q1).trans q2) (by decide)
          · exact absurd ((z.2.symm.trans q1).trans q2) (by decide)
        refine lv_aload_n hx hb dL_law_1573 rfl (lv_at hl 5 rfl) ?_
        refine lv_iconst (v := 0) hx hb dL_law_1574 (by decide) ?_
        refine va_lald (D := D) hx hb hK hP 0 3 rfl rfl (vp_in_nI (n := 0) (N := 1) (by decide) (by decide)) dL_law_1575 ?_
        refine lv_iload hx hb dL_law_1576 (lv_at hl 0 rfl) ?_
        refine lv_i2l hx hb dL_law_1578 rfl ?_
        refine W.lcmp hx hb dL_law_1579 ?_
        refine lv_if_eq (tgt := 1585) hx hb dL_law_1580 (by decide) (fun q3 => ?_) (fun q3 => ?_)
        · exact jend _ _ _ hP hS hl
        · exact absurd (by show lg_cmp (f2 0) (Int32.toInt64 r) = 0; rw [hv]; exact zy_cmp _) q3
    refine lv_tableOut (tgt := 1588) hx hb dL_law_39 (zx_sw (lo := 0) (hi := 22) (by decide) (by decide) (fun k h1 h2 => by rcases (show k = 0 ∨ k = 1 ∨ k = 2 ∨ k = 3 ∨ k = 4 ∨ k = 5 ∨ k = 6 ∨ k = 7 ∨ k = 8 ∨ k = 9 ∨ k = 10 ∨ k = 11 ∨ k = 12 ∨ k = 13 ∨ k = 14 ∨ k = 15 ∨ k = 16 ∨ k = 17 ∨ k = 18 ∨ k = 19 ∨ k = 20 ∨ k = 21 ∨ k = 22 by omega) with rfl | rfl | rfl | rfl | rfl | rfl | rfl | rfl | rfl | rfl | rfl | rfl | rfl | rfl | rfl | rfl | rfl | rfl | rfl | rfl | rfl | rfl | rfl <;> assumption)) (by decide) ?_
    refine W.widen (k := 219 + j + 1) (n := 19600 + 6 * j + 6) (by omega) (by omega) ?_
    exact j1588 f B S _ _ _ hI hP hD hS hl
