/-! the tree, as numbers and lists: levels (0: no node; else level + 1), entries, root, which rectangles there are, their corners -/
abbrev ZT : Type := (Nat → Nat) × (Nat → List Nat) × Nat × (Nat → Bool) × (Nat → Nat → Int32)
/-- none, and free -/
def zM1 : Int32 := -1
def zM2 : Int32 := -2
def zlv (t : ZT) : Nat → Nat := t.1
def zes (t : ZT) : Nat → List Nat := t.2.1
def zrt (t : ZT) : Nat := t.2.2.1
def zpr (t : ZT) : Nat → Bool := t.2.2.2.1
def zrc (t : ZT) : Nat → Nat → Int32 := t.2.2.2.2
/-- one slot's entries, one slot's level, the root, a rectangle's flag, a rectangle's corners set anew -/
def zE (t : ZT) (s : Nat) (l : List Nat) : ZT := (zlv t, (fun j => if j = s then l else zes t j), zrt t, zpr t, zrc t)
def zL (t : ZT) (s v : Nat) : ZT := ((fun j => if j = s then v else zlv t j), zes t, zrt t, zpr t, zrc t)
def zR (t : ZT) (r : Nat) : ZT := (zlv t, zes t, r, zpr t, zrc t)
def zP (t : ZT) (i : Nat) (b : Bool) : ZT := (zlv t, zes t, zrt t, (fun j => if j = i then b else zpr t j), zrc t)
def zC (t : ZT) (i : Nat) (f : Nat → Int32) : ZT := (zlv t, zes t, zrt t, zpr t, (fun j => if j = i then f else zrc t j))
/-- an item's level + 1: a rectangle's is 0 -/
def zil (t : ZT) (c : Nat) : Nat := if c < 24 then 0 else zlv t (c - 24)
/-- a list lies in a row, from a place on -/
def zat (f : Nat → Int32) : Nat → List Nat → Prop
  | _, [] => True
  | b, c :: l => f b = nI c ∧ zat f (b + 1) l
/-! numbers of boxes; a box of a thing c: four numbers from 4 * c on -/
def zmn (a b : Int32) : Int32 := if b < a then b else a
def zmx (a b : Int32) : Int32 := if a < b then b else a
def zmm (k : Nat) (a b : Int32) : Int32 := if k < 2 then zmn a b else zmx a b
def zar (f : Nat → Int32) (c : Nat) : Int32 := (f (4 * c + 2) - f (4 * c) + 1) * (f (4 * c + 3) - f (4 * c + 1) + 1)
def zja (f : Nat → Int32) (c d : Nat) : Int32 := (zmx (f (4 * c + 2)) (f (4 * d + 2)) - zmn (f (4 * c)) (f (4 * d)) + 1) * (zmx (f (4 * c + 3)) (f (4 * d + 3)) - zmn (f (4 * c + 1)) (f (4 * d + 1)) + 1)
def zcw (f : Nat → Int32) (c d : Nat) : Int32 := zmn (f (4 * c + 2)) (f (4 * d + 2)) - zmx (f (4 * c)) (f (4 * d)) + 1
def zch (f : Nat → Int32) (c d : Nat) : Int32 := zmn (f (4 * c + 3)) (f (4 * d + 3)) - zmx (f (4 * c + 1)) (f (4 * d + 1)) + 1
def zcc (f : Nat → Int32) (c d : Nat) : Int32 := if zcw f c d ≤ 0 then 0 else if zch f c d ≤ 0 then 0 else zcw f c d * zch f c d
def zmd (f : Nat → Int32) (c d : Nat) : Int32 := (f (4 * c) + f (4 * c + 2) - f (4 * d) - f (4 * d + 2)) * (f (4 * c) + f (4 * c + 2) - f (4 * d) - f (4 * d + 2)) + (f (4 * c + 1) + f (4 * c + 3) - f (4 * d + 1) - f (4 * d + 3)) * (f (4 * c + 1) + f (4 * c + 3) - f (4 * d + 1) - f (4 * d + 3))
/-- the join of the boxes of a list's items, from a number on -/
def zjf (f : Nat → Int32) (k : Nat) : Int32 → List Nat → Int32
  | a, [] => a
  | a, c :: l => zjf f k (zmm k a (f (4 * c + k))) l
def zjn (f : Nat → Int32) (l : List Nat) (k : Nat) : Int32 := match l with
  | [] => 0
  | c :: l => zjf f k (f (4 * c + k)) l
/-- a node's box is the join of its entries' -/
def zLC (f : Nat → Int32) (t : ZT) (s : Nat) : Prop := zes t s ≠ [] → ∀ k, k < 4 → f (4 * (24 + s) + k) = zjn f (zes t s) k
/-- the rectangles' boxes -/
def zrb (f : Nat → Int32) (t : ZT) : Prop := ∀ i k, i < 24 → k < 4 → zpr t i = true → f (4 * i + k) = zrc t i k
/-- the choice of one of a list: the first stays while none is better -/
def zfd (p : Nat → Nat → Bool) : Nat → List Nat → Nat
  | b, [] => b
  | b, c :: l => zfd p (if p c b = true then c else b) l
/-- each item is an entry at one place -/
def zuq (t : ZT) : Prop := (∀ s, (zes t s).Nodup) ∧ ∀ s s' c, c ∈ zes t s → c ∈ zes t s' → s = s'
/-- the tree is well made; lo: items that are in no node's entries, ov: a node that may have 5 entries, un: one that may have fewer than 2 -/
def zwf (t : ZT) (lo : List Nat) (ov un : Nat) : Prop :=
  zuq t ∧
  (lo.Nodup ∧ ∀ c, c ∈ lo → ∀ s, c ∉ zes t s) ∧
  (∀ c, (c ∈ lo ∨ ∃ s, c ∈ zes t s) ↔ (c < 24 ∧ zpr t c = true) ∨ (24 ≤ c ∧ c < 48 ∧ zlv t (c - 24) ≠ 0 ∧ c - 24 ≠ zrt t)) ∧
  (∀ s e, e ∈ zes t s → zil t e + 1 = zlv t s) ∧
  (∀ s, zlv t s = 0 → zes t s = []) ∧
  (∀ s, 24 ≤ s → zlv t s = 0) ∧
  (zrt t < 24 ∧ zlv t (zrt t) ≠ 0) ∧
  (∀ s, zlv t s ≠ 0 → s ≠ zrt t → zlv t s < zlv t (zrt t)) ∧
  (∀ s, zlv t s ≠ 0 → s ≠ zrt t → s ≠ un → 2 ≤ (zes t s).length) ∧
  (∀ s, (zes t s).length ≤ 5 ∧ (s ≠ ov → (zes t s).length ≤ 4)) ∧
  (1 < zlv t (zrt t) → zrt t ≠ un → 2 ≤ (zes t (zrt t)).length) ∧
  (∀ c, c < 24 → zpr t c = true → 0 ≤ (zrc t c 0).toInt ∧ (zrc t c 0).toInt ≤ (zrc t c 2).toInt ∧ (zrc t c 2).toInt ≤ 99 ∧ 0 ≤ (zrc t c 1).toInt ∧ (zrc t c 1).toInt ≤ (zrc t c 3).toInt ∧ (zrc t c 3).toInt ≤ 99)
/-- the reference's row of 380 numbers is this tree -/
def zref (r : Nat → Int32) (t : ZT) : Prop :=
  (∀ i, i < 24 → r (5 * i) = if zpr t i = true then 1 else 0) ∧
  (∀ i k, i < 24 → k < 4 → zpr t i = true → r (5 * i + 1 + k) = zrc t i k) ∧
  (∀ s, s < 32 → r (120 + 8 * s) = nI (zlv t s)) ∧
  (∀ s, s < 32 → r (120 + 8 * s + 1) = nI (zes t s).length) ∧
  (∀ s, s < 32 → zat r (120 + 8 * s + 2) (zes t s)) ∧
  r 376 = nI (zrt t)
/-- the class's Tree is this tree (its boxes apart); X: loose items whose word 'above' is old -/
def zcx (T : zx_S) (t : ZT) (X : List Nat) : Prop :=
  (∀ i, i < 24 → T 1 i = zM1) ∧
  (∀ s, s < 24 → T 1 (24 + s) = if zlv t s = 0 then zM2 else nI (zlv t s - 1)) ∧
  (∀ s, s < 24 → zlv t s ≠ 0 → T 3 (24 + s) = nI (zes t s).length) ∧
  (∀ s, s < 24 → zat (T 4) (5 * (24 + s)) (zes t s)) ∧
  (∀ s e, s < 24 → e ∈ zes t s → T 2 e = nI (24 + s)) ∧
  (∀ c, c < 48 → c ∉ X → (∀ s, s < 24 → c ∉ zes t s) → T 2 c = zM1) ∧
  T 10 0 = nI (24 + zrt t)
def zcmp (T : zx_S) (t : ZT) : Prop := zcx T t []
/-- its boxes -/
def zcbx (T : zx_S) (t : ZT) : Prop := zrb (T 0) t ∧ ∀ s, zlv t s ≠ 0 → zLC (T 0) t s
/-- the counters: thrown out, splits, dissolved -/
def zcnt (T : zx_S) (r : Nat → Int32) : Prop := T 10 1 = r 377 ∧ T 10 2 = r 378 ∧ T 10 3 = r 379
/-- a state of the class, and one of the reference, are the same well made tree -/
def zsame (T : zx_S) (r : Nat → Int32) : Prop := ∃ t : ZT, zwf t [] 99 99 ∧ zref r t ∧ zcmp T t ∧ zcbx T t ∧ zcnt T r
/-- arrays that are kept -/
def zfr (l : List Nat) (T T' : zx_S) : Prop := ∀ j, j ∉ l → T' j = T j
/-- THE INVARIANT between the class and the reference -/
def ZInv (B : zx_B) (S : zx_S) : Prop :=
  zsame (B 0) (S 1) ∧
  (∃ n : Nat, n ≤ 100 ∧ B 18 2 0 = nI n ∧ S 12 1 = nI n ∧ (∀ i, i < n → B 18 0 i = S 0 i ∧ 0 ≤ (S 0 i).toInt ∧ (S 0 i).toInt ≤ 255)) ∧
  (∃ a o : Nat, a ≤ 14 ∧ o < 14 ∧ B 19 1 0 = nI o ∧ B 19 1 1 = nI a ∧ S 12 2 = nI a ∧ ∀ i, i < a → zsame (B (2 + (o + i) % 14)) (fun j => S 3 (380 * i + j))) ∧
  (∀ j, j < 2 → (B 19 0 j = 0 ∧ S 5 j = 0) ∨ (B 19 0 j = 1 ∧ S 5 j = 1 ∧ zsame (B (16 + j)) (fun k => S 4 (380 * j + k))))
