/-! the tree, as numbers and lists: levels (0: no node; else level + 1), entries, root, which rectangles there are, their corners -/
abbrev ZT : Type := (Nat → Nat) × (Nat → List Nat) × Nat × (Nat → Bool) × (Nat → Nat → Int32)
def zlv (t : ZT) : Nat → Nat := t.1
def zes (t : ZT) : Nat → List Nat := t.2.1
def zrt (t : ZT) : Nat := t.2.2.1
def zpr (t : ZT) : Nat → Bool := t.2.2.2.1
def zrc (t : ZT) : Nat → Nat → Int32 := t.2.2.2.2
/-- the join of the boxes of a list's items -/
def zjn (b : Nat → Nat → Int32) : List Nat → Nat → Int32
  | [], _ => 0
  | [c], k => b c k
  | c :: l, k => if k < 2 then (if b c k ≤ zjn b l k then b c k else zjn b l k) else (if zjn b l k ≤ b c k then b c k else zjn b l k)
/-- the box of an item, n levels deep -/
def zbx (t : ZT) : Nat → Nat → Nat → Int32
  | 0, c, k => if c < 24 then zrc t c k else 0
  | n + 1, c, k => if c < 24 then zrc t c k else zjn (fun e j => zbx t n e j) (zes t (c - 24)) k
/-- an item's level + 1: a rectangle's is 0 -/
def zil (t : ZT) (c : Nat) : Nat := if c < 24 then 0 else zlv t (c - 24)
/-- an item's box -/
def zbo (t : ZT) (c k : Nat) : Int32 := zbx t (zil t c) c k
/-- what all entries are, and what is loose -/
def zall (t : ZT) : List Nat := (List.range 24).flatMap (zes t)
/-- the tree is well made; lo: items that are in no node's entries, ov: a node that may have 5 entries -/
def zwf (t : ZT) (lo : List Nat) (ov : Nat) : Prop :=
  (lo ++ zall t).Nodup ∧
  (∀ c, c ∈ lo ++ zall t ↔ (c < 24 ∧ zpr t c = true) ∨ (24 ≤ c ∧ c < 48 ∧ zlv t (c - 24) ≠ 0 ∧ c - 24 ≠ zrt t)) ∧
  (∀ s, s < 24 → ∀ e ∈ zes t s, zil t e + 1 = zlv t s) ∧
  (∀ s, zlv t s = 0 → zes t s = []) ∧
  (∀ s, 24 ≤ s → zlv t s = 0) ∧
  (zrt t < 24 ∧ zlv t (zrt t) ≠ 0) ∧
  (∀ s, zlv t s ≠ 0 → s ≠ zrt t → zlv t s < zlv t (zrt t) ∧ 2 ≤ (zes t s).length) ∧
  (∀ s, (zes t s).length ≤ 5 ∧ (s ≠ ov → (zes t s).length ≤ 4)) ∧
  (1 < zlv t (zrt t) → 2 ≤ (zes t (zrt t)).length) ∧
  (∀ c, c < 24 → zpr t c = true → 0 ≤ (zrc t c 0).toInt ∧ (zrc t c 0).toInt ≤ (zrc t c 2).toInt ∧ (zrc t c 2).toInt ≤ 99 ∧ 0 ≤ (zrc t c 1).toInt ∧ (zrc t c 1).toInt ≤ (zrc t c 3).toInt ∧ (zrc t c 3).toInt ≤ 99)
/-- the reference's row of 380 numbers is this tree -/
def zref (r : Nat → Int32) (t : ZT) : Prop :=
  (∀ i, i < 24 → r (5 * i) = if zpr t i = true then 1 else 0) ∧
  (∀ i k, i < 24 → k < 4 → zpr t i = true → r (5 * i + 1 + k) = zrc t i k) ∧
  (∀ s, s < 32 → r (120 + 8 * s) = nI (zlv t s)) ∧
  (∀ s, s < 32 → r (121 + 8 * s) = nI (zes t s).length) ∧
  (∀ s k, s < 32 → k < (zes t s).length → r (122 + 8 * s + k) = nI ((zes t s).getD k 0)) ∧
  r 376 = nI (zrt t)
/-- the class's Tree is this tree (its boxes apart) -/
def zcmp (T : zx_S) (t : ZT) : Prop :=
  (∀ i, i < 24 → T 1 i = -1) ∧
  (∀ s, s < 24 → T 1 (24 + s) = if zlv t s = 0 then -2 else nI (zlv t s - 1)) ∧
  (∀ s, s < 24 → zlv t s ≠ 0 → T 3 (24 + s) = nI (zes t s).length) ∧
  (∀ s k, s < 24 → k < (zes t s).length → T 4 ((24 + s) * 5 + k) = nI ((zes t s).getD k 0)) ∧
  (∀ s e, s < 24 → e ∈ zes t s → T 2 e = nI (24 + s)) ∧
  (∀ c, c < 48 → c ∉ zall t → T 2 c = -1) ∧
  T 10 0 = nI (24 + zrt t)
/-- its boxes: those of the rectangles, and those of the nodes with entries, P apart -/
def zcbx (T : zx_S) (t : ZT) (P : Nat → Prop) : Prop :=
  (∀ i k, i < 24 → k < 4 → zpr t i = true → T 0 (i * 4 + k) = zrc t i k) ∧
  (∀ s k, s < 24 → k < 4 → zlv t s ≠ 0 → zes t s ≠ [] → ¬ P s → T 0 ((24 + s) * 4 + k) = zbo t (24 + s) k)
/-- the counters: thrown out, splits, dissolved -/
def zcnt (T : zx_S) (r : Nat → Int32) : Prop := T 10 1 = r 377 ∧ T 10 2 = r 378 ∧ T 10 3 = r 379
/-- a state of the class, and one of the reference, are the same well made tree -/
def zsame (T : zx_S) (r : Nat → Int32) : Prop := ∃ t : ZT, zwf t [] 99 ∧ zref r t ∧ zcmp T t ∧ zcbx T t (fun _ => False) ∧ zcnt T r
/-- THE INVARIANT between the class and the reference -/
def ZInv (B : zx_B) (S : zx_S) : Prop :=
  zsame (B 0) (S 1) ∧
  (∃ n : Nat, n ≤ 100 ∧ B 18 2 0 = nI n ∧ S 12 1 = nI n ∧ (∀ i, i < n → B 18 0 i = S 0 i ∧ 0 ≤ (S 0 i).toInt ∧ (S 0 i).toInt ≤ 255)) ∧
  (∃ a o : Nat, a ≤ 14 ∧ o < 14 ∧ B 19 1 0 = nI o ∧ B 19 1 1 = nI a ∧ S 12 2 = nI a ∧ ∀ i, i < a → zsame (B (2 + (o + i) % 14)) (fun j => S 3 (380 * i + j))) ∧
  (∀ j, j < 2 → (B 19 0 j = 0 ∧ S 5 j = 0) ∨ (B 19 0 j = 1 ∧ S 5 j = 1 ∧ zsame (B (16 + j)) (fun k => S 4 (380 * j + k))))
