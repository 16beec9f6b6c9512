/-! ===== the property of its own: looks change nothing that counts ===== -/
/-- two trees of the class that are the same to every look -/
def zte (T T' : zx_S) : Prop := (∀ j, j < 192 → T' 0 j = T 0 j) ∧ (∀ j, j < 49 → T' 1 j = T 1 j) ∧ (∀ j, j < 49 → T' 2 j = T 2 j) ∧ (∀ j, j < 49 → T' 3 j = T 3 j) ∧ (∀ j, j < 245 → T' 4 j = T 4 j) ∧ ∀ j, j < 4 → T' 10 j = T 10 j
theorem zte_refl {T : zx_S} : zte T T := ⟨fun _ _ => rfl, fun _ _ => rfl, fun _ _ => rfl, fun _ _ => rfl, fun _ _ => rfl, fun _ _ => rfl⟩
theorem zte_trans {T T1 T2 : zx_S} (h : zte T T1) (g : zte T1 T2) : zte T T2 := ⟨fun j hj => (g.1 j hj).trans (h.1 j hj), fun j hj => (g.2.1 j hj).trans (h.2.1 j hj), fun j hj => (g.2.2.1 j hj).trans (h.2.2.1 j hj), fun j hj => (g.2.2.2.1 j hj).trans (h.2.2.2.1 j hj), fun j hj => (g.2.2.2.2.1 j hj).trans (h.2.2.2.2.1 j hj), fun j hj => (g.2.2.2.2.2 j hj).trans (h.2.2.2.2.2 j hj)⟩
theorem zte_fr {T T' : zx_S} (h : zfr [5, 6, 7, 8, 9] T T') : zte T T' := ⟨fun _ _ => by rw [h 0 (by decide)], fun _ _ => by rw [h 1 (by decide)], fun _ _ => by rw [h 2 (by decide)], fun _ _ => by rw [h 3 (by decide)], fun _ _ => by rw [h 4 (by decide)], fun _ _ => by rw [h 10 (by decide)]⟩
theorem zcbx_te {T T' : zx_S} {t : ZT} (ht : zb t) (h : zcbx T t) (e : ∀ j, j < 192 → T' 0 j = T 0 j) : zcbx T' t := by
  refine ⟨fun i k hi hk hp => ?_, fun s hs hne k hk => ?_⟩
  · rw [e _ (by omega)]; exact h.1 i k hi hk hp
  · have hs24 := zb_lt ht hs
    rw [e _ (by omega), h.2 s hs hne k hk]
    exact zjn_congr (fun x hx => (e _ (by have := (ht.1 s x hx).1; omega)).symm)
theorem zQ_te {v w : Nat} {T T' S S' : zx_S} {t : ZT} (h : zQ v T S t) (e : zte T T') (er : ∀ j, j < 380 → S' w j = S v j) : zQ w T' S' t := by
  have hR := zwf_lv h.2.2.1 (by decide)
  have ht := zwf_zb h.2.2.1 (by omega)
  obtain ⟨hT, hr, hw, hbx, c1, c2, c3⟩ := h
  have h5 : ∀ j, (zes t j).length ≤ 5 := ht.2.2.2.1
  exact ⟨zcx_cong hT h5 (fun s x hx => (ht.1 s x hx).1) e.2.1 e.2.2.1 e.2.2.2.1 e.2.2.2.2.1 e.2.2.2.2.2, zref_cong hr h5 er, hw, zcbx_te ht hbx e.1, by rw [e.2.2.2.2.2 1 (by decide), er 377 (by decide)]; exact c1, by rw [e.2.2.2.2.2 2 (by decide), er 378 (by decide)]; exact c2, by rw [e.2.2.2.2.2 3 (by decide), er 379 (by decide)]; exact c3⟩
/-- the class after a look -/
def zsc (B B' : zx_B) : Prop := (∀ j, 1 < j → j < 18 → B' j = B j) ∧ zte (B 0) (B' 0) ∧ (B' 18 0 = B 18 0 ∧ B' 18 2 0 = B 18 2 0) ∧ B' 19 = B 19
theorem zsc_refl {B : zx_B} : zsc B B := ⟨fun _ _ _ => rfl, zte_refl, ⟨rfl, rfl⟩, rfl⟩
theorem zsc_trans {B B1 B2 : zx_B} (h : zsc B B1) (g : zsc B1 B2) : zsc B B2 := ⟨fun j a b => (g.1 j a b).trans (h.1 j a b), zte_trans h.2.1 g.2.1, ⟨g.2.2.1.1.trans h.2.2.1.1, g.2.2.1.2.trans h.2.2.1.2⟩, g.2.2.2.trans h.2.2.2⟩
theorem zsc_sb {B : zx_B} {T' : zx_S} (h : zte (B 0) T') : zsc B (zx_sb B 0 T') := ⟨fun j a b => zsb_ne (by omega), by rw [zsb_at]; exact h, ⟨by rw [zsb_ne (by decide)], by rw [zsb_ne (by decide)]⟩, zsb_ne (by decide)⟩
theorem zsc_1 {B B' : zx_B} (h : ∀ j, j ≠ 1 → B' j = B j) : zsc B B' := ⟨fun j a b => h j (by omega), by rw [h 0 (by decide)]; exact zte_refl, ⟨by rw [h 18 (by decide)], by rw [h 18 (by decide)]⟩, h 19 (by decide)⟩
/-- the class and its ghost, the tree behind both, and its boxes -/
def zK (S Sx : zx_S) (t : ZT) (f : Nat → Int32) (B : zx_B) : Prop := ZInv B S ∧ zQ 1 (B 0) Sx t ∧ ∀ j, j < 192 → B 0 0 j = f j
theorem zK_sc {S Sx : zx_S} {t : ZT} {f : Nat → Int32} {B B' : zx_B} (h : zK S Sx t f B) (s : zsc B B') : zK S Sx t f B' := by
  obtain ⟨t0, hQ0⟩ := same_zQ (w := 1) h.1.1
  have hQ := zQ_te (w := 1) (S' := S) hQ0 s.2.1 (fun _ _ => rfl)
  exact ⟨ZInv_mk h.1 (zQ_same hQ) s.1 s.2.2.1 s.2.2.2 ⟨rfl, rfl, rfl, rfl⟩ ⟨rfl, rfl⟩, zQ_te (w := 1) (S' := Sx) h.2.1 s.2.1 (fun _ _ => rfl), fun j hj => (s.2.1.1 j hj).trans (h.2.2 j hj)⟩
theorem zK_mk {S : zx_S} {B : zx_B} (h : ZInv B S) : ∃ t f, zK S S t f B := by
  obtain ⟨t, hQ⟩ := same_zQ (w := 1) h.1
  exact ⟨t, B 0 0, h, hQ, fun _ _ => rfl⟩
theorem zK_zb {S Sx : zx_S} {t : ZT} {f : Nat → Int32} {B : zx_B} (h : zK S Sx t f B) : zb t := by
  have hR := zwf_lv h.2.1.2.2.1 (by decide)
  exact zwf_zb h.2.1.2.2.1 (by omega)
theorem m_b2_id {β γ : Type} (x : Option (β × γ)) : zx_b2 x (fun a c => some (a, c)) = x := by
  cases x with
  | none => rfl
  | some p => rfl
