/-! the law: holds(LShallowBoxes;I)Z -/
def f_L_holds_j1023 (N : Nat) (v2 : Int32) (v7 : Int32) (v8 : Int32) (v9 : Int32) (v10 : Int32) (v11 : Int32) (v12 : Int32) (v16 : Int32) (S_ : zx_B) : Option (Int32 × zx_B) :=
  (if v7 = 0 then
  some (0, S_) else
  (zx_b2 (f_L_call N 1 1 0 0 S_) (fun x2 T3 =>
(if x2 = v2 then
  (zx_b2 (f_L_call N 1 3 0 0 T3) (fun x6 T7 =>
(if x6 = v16 then
  (zx_b2 (f_L_tryWindow N v8 v9 v10 v11 T7) (fun x10 T11 =>
(if x10 = v12 then
  some (1, T11) else
  some (0, T11)))) else
  some (0, T7)))) else
  some (0, T3)))))
def f_L_holds_j1021 (N : Nat) (v2 : Int32) (v8 : Int32) (v9 : Int32) (v10 : Int32) (v11 : Int32) (v12 : Int32) (v16 : Int32) (t0 : Int32) (S_ : zx_B) : Option (Int32 × zx_B) :=
  f_L_holds_j1023 N  v2 t0 v8 v9 v10 v11 v12 v16 S_
def f_L_holds_j1020 (N : Nat) (v2 : Int32) (v8 : Int32) (v9 : Int32) (v10 : Int32) (v11 : Int32) (v12 : Int32) (v16 : Int32) (S_ : zx_B) : Option (Int32 × zx_B) :=
  f_L_holds_j1021 N  v2 v8 v9 v10 v11 v12 v16 0 S_
def f_L_holds_j1004 (N : Nat) (v2 : Int32) (v7 : Int32) (v8 : Int32) (v9 : Int32) (v10 : Int32) (v11 : Int32) (v12 : Int32) (v16 : Int32) (v17 : Int32) (S_ : zx_B) : Option (Int32 × zx_B) :=
  (if v7 = 0 then
  f_L_holds_j1020 N  v2 v8 v9 v10 v11 v12 v16 S_ else
  (if v17 = (-100001) then
  f_L_holds_j1021 N  v2 v8 v9 v10 v11 v12 v16 1 S_ else
  f_L_holds_j1020 N  v2 v8 v9 v10 v11 v12 v16 S_))
def f_L_holds_j999 (N : Nat) (v2 : Int32) (v8 : Int32) (v9 : Int32) (v10 : Int32) (v11 : Int32) (v12 : Int32) (v16 : Int32) (t0 : Int32) (S_ : zx_B) : Option (Int32 × zx_B) :=
  f_L_holds_j1023 N  v2 t0 v8 v9 v10 v11 v12 v16 S_
def f_L_holds_j998 (N : Nat) (v2 : Int32) (v8 : Int32) (v9 : Int32) (v10 : Int32) (v11 : Int32) (v12 : Int32) (v16 : Int32) (S_ : zx_B) : Option (Int32 × zx_B) :=
  f_L_holds_j999 N  v2 v8 v9 v10 v11 v12 v16 0 S_
def f_L_holds_j844 (N : Nat) (v2 : Int32) (v3 : Int32) (v8 : Int32) (v9 : Int32) (v10 : Int32) (v11 : Int32) (v12 : Int32) (t0 : Int32) (S_ : zx_B) : Option (Int32 × zx_B) :=
  (zx_b2 (f_L_call N 1 3 0 0 S_) (fun x16 T17 =>
(zx_b2 (f_L_tryIfAdded N v8 v9 v10 v11 T17) (fun x19 T20 =>
(if 24 ≤ v3 then
  f_L_holds_j1004 N  v2 t0 v8 v9 v10 v11 v12 x16 x19 T20 else
  (if t0 = 0 then
  f_L_holds_j1004 N  v2 t0 v8 v9 v10 v11 v12 x16 x19 T20 else
  (zx_b2 (f_L_tryAdd N v8 v9 v10 v11 T20) (fun x24 T25 =>
(if x24 < 0 then
  f_L_holds_j998 N  v2 v8 v9 v10 v11 v12 x16 T25 else
  (zx_b2 (f_L_call N 2 x24 2 0 T25) (fun x28 T29 =>
(if x28 = v10 then
  (zx_b2 (f_L_call N 1 3 0 0 T29) (fun x32 T33 =>
(if x32 = (x16 + x19) then
  (zx_b2 (f_L_call N 1 0 0 0 T33) (fun x36 T37 =>
(if x36 = (v3 + 1) then
  (zx_b2 (f_L_call N 6 x24 0 0 T37) (fun x40 T41 =>
(if x40 < 1 then
  f_L_holds_j998 N  v2 v8 v9 v10 v11 v12 x16 T41 else
  (zx_b2 (f_L_call N 1 0 0 0 T41) (fun x44 T45 =>
(if x44 = v3 then
  (zx_b2 (f_L_call N 8 0 0 0 T45) (fun x48 T49 =>
(if x48 < 0 then
  f_L_holds_j998 N  v2 v8 v9 v10 v11 v12 x16 T49 else
  (zx_b2 (f_L_call N 8 0 0 0 T49) (fun x52 T53 =>
(if x52 < 0 then
  f_L_holds_j998 N  v2 v8 v9 v10 v11 v12 x16 T53 else
  f_L_holds_j999 N  v2 v8 v9 v10 v11 v12 x16 1 T53)))))) else
  f_L_holds_j998 N  v2 v8 v9 v10 v11 v12 x16 T45)))))) else
  f_L_holds_j998 N  v2 v8 v9 v10 v11 v12 x16 T37))) else
  f_L_holds_j998 N  v2 v8 v9 v10 v11 v12 x16 T33))) else
  f_L_holds_j998 N  v2 v8 v9 v10 v11 v12 x16 T29))))))))))))
def f_L_holds_j843 (N : Nat) (v2 : Int32) (v3 : Int32) (v8 : Int32) (v9 : Int32) (v10 : Int32) (v11 : Int32) (v12 : Int32) (S_ : zx_B) : Option (Int32 × zx_B) :=
  f_L_holds_j844 N  v2 v3 v8 v9 v10 v11 v12 0 S_
def f_L_holds_j829 (N : Nat) (v2 : Int32) (v3 : Int32) (v8 : Int32) (v9 : Int32) (v10 : Int32) (v11 : Int32) (v12 : Int32) (t0 : Int32) (t1 : Int32) (S_ : zx_B) : Option (Int32 × zx_B) :=
  (if t0 = t1 then
  (zx_b2 (f_X2_anew N S_) (fun x70 T71 =>
(if x70 < 0 then
  f_L_holds_j843 N  v2 v3 v8 v9 v10 v11 v12 T71 else
  f_L_holds_j844 N  v2 v3 v8 v9 v10 v11 v12 1 T71))) else
  f_L_holds_j843 N  v2 v3 v8 v9 v10 v11 v12 S_)
def f_L_holds_j816 (N : Nat) (v2 : Int32) (v3 : Int32) (v8 : Int32) (v9 : Int32) (v10 : Int32) (v11 : Int32) (v12 : Int32) (t0 : Int32) (S_ : zx_B) : Option (Int32 × zx_B) :=
  (zx_b2 (f_X2_bestRemoval N S_) (fun x74 T75 =>
(if x74 = (-1) then
  f_L_holds_j829 N  v2 v3 v8 v9 v10 v11 v12 t0 1 T75 else
  f_L_holds_j829 N  v2 v3 v8 v9 v10 v11 v12 t0 0 T75)))
def f_L_holds_j795 (N : Nat) (v2 : Int32) (v3 : Int32) (v8 : Int32) (v9 : Int32) (v10 : Int32) (v11 : Int32) (v12 : Int32) (v15 : Int32) (S_ : zx_B) : Option (Int32 × zx_B) :=
  (zx_b2 (f_L_call N 3 v15 0 0 S_) (fun x65 T66 =>
(if x65 = 0 then
  (if v3 = 0 then
  f_L_holds_j816 N  v2 v3 v8 v9 v10 v11 v12 1 T66 else
  f_L_holds_j816 N  v2 v3 v8 v9 v10 v11 v12 0 T66) else
  f_L_holds_j843 N  v2 v3 v8 v9 v10 v11 v12 T66)))
def f_L_holds_j738 (N : Nat) (v2 : Int32) (v3 : Int32) (v4 : Int32) (v7 : Int32) (v8 : Int32) (v9 : Int32) (v10 : Int32) (v11 : Int32) (v12 : Int32) (v13 : Int32) (S_ : zx_B) : Option (Int32 × zx_B) :=
  (zx_b2 (f_L_tryLooks N v8 v9 v10 v11 S_) (fun x56 T57 =>
(zx_b2 (f_L_tryChosen N v8 v9 v10 v11 T57) (fun x59 T60 =>
(if v7 = 0 then
  f_L_holds_j843 N  v2 v3 v8 v9 v10 v11 v12 T60 else
  (if x56 < 1 then
  f_L_holds_j843 N  v2 v3 v8 v9 v10 v11 v12 T60 else
  (if v2 < x56 then
  f_L_holds_j843 N  v2 v3 v8 v9 v10 v11 v12 T60 else
  (if v13 = 0 then
  f_L_holds_j795 N  v2 v3 v8 v9 v10 v11 v12 x59 T60 else
  (if x56 ≤ v4 then
  f_L_holds_j843 N  v2 v3 v8 v9 v10 v11 v12 T60 else
  f_L_holds_j795 N  v2 v3 v8 v9 v10 v11 v12 x59 T60)))))))))
def f_L_holds_j730 (N : Nat) (k602 : Int32 → Int32 → Int32 → Int32 → Int32 → Int32 → Int32 → Int32 → Int32 → Int32 → Int32 → zx_B → Option (Int32 × zx_B)) (v2 : Int32) (v3 : Int32) (v4 : Int32) (v8 : Int32) (v9 : Int32) (v10 : Int32) (v11 : Int32) (v12 : Int32) (v13 : Int32) (v14 : Int32) (t0 : Int32) (S_ : zx_B) : Option (Int32 × zx_B) :=
  (zx_n (v14 + 1) (fun x83 =>
k602 v2 v3 v4 t0 v8 v9 v10 v11 v12 v13 x83 S_))
def f_L_holds_j722 (N : Nat) (k602 : Int32 → Int32 → Int32 → Int32 → Int32 → Int32 → Int32 → Int32 → Int32 → Int32 → Int32 → zx_B → Option (Int32 × zx_B)) (v2 : Int32) (v3 : Int32) (v4 : Int32) (v8 : Int32) (v9 : Int32) (v10 : Int32) (v11 : Int32) (v12 : Int32) (v13 : Int32) (v14 : Int32) (t0 : Int32) (t1 : Int32) (S_ : zx_B) : Option (Int32 × zx_B) :=
  (if t0 = t1 then
  f_L_holds_j730 N k602 v2 v3 v4 v8 v9 v10 v11 v12 v13 v14 1 S_ else
  f_L_holds_j730 N k602 v2 v3 v4 v8 v9 v10 v11 v12 v13 v14 0 S_)
def f_L_holds_j701 (N : Nat) (k602 : Int32 → Int32 → Int32 → Int32 → Int32 → Int32 → Int32 → Int32 → Int32 → Int32 → Int32 → zx_B → Option (Int32 × zx_B)) (v2 : Int32) (v3 : Int32) (v4 : Int32) (v8 : Int32) (v9 : Int32) (v10 : Int32) (v11 : Int32) (v12 : Int32) (v14 : Int32) (v15 : Int32) (t0 : Int32) (t1 : Int32) (S_ : zx_B) : Option (Int32 × zx_B) :=
  (zx_n (t0 + t1) (fun x85 =>
(if ((v12 >>> (v14 &&& 31)) &&& 1) = 1 then
  f_L_holds_j722 N k602 v2 v3 v4 v8 v9 v10 v11 v12 x85 v14 v15 1 S_ else
  f_L_holds_j722 N k602 v2 v3 v4 v8 v9 v10 v11 v12 x85 v14 v15 0 S_)))
def f_L_holds_j687 (N : Nat) (k602 : Int32 → Int32 → Int32 → Int32 → Int32 → Int32 → Int32 → Int32 → Int32 → Int32 → Int32 → zx_B → Option (Int32 × zx_B)) (v2 : Int32) (v3 : Int32) (v4 : Int32) (v8 : Int32) (v9 : Int32) (v10 : Int32) (v11 : Int32) (v12 : Int32) (v13 : Int32) (v14 : Int32) (t0 : Int32) (S_ : zx_B) : Option (Int32 × zx_B) :=
  (if t0 = 0 then
  f_L_holds_j701 N k602 v2 v3 v4 v8 v9 v10 v11 v12 v14 t0 v13 0 S_ else
  f_L_holds_j701 N k602 v2 v3 v4 v8 v9 v10 v11 v12 v14 t0 v13 1 S_)
def f_L_holds_j686 (N : Nat) (k602 : Int32 → Int32 → Int32 → Int32 → Int32 → Int32 → Int32 → Int32 → Int32 → Int32 → Int32 → zx_B → Option (Int32 × zx_B)) (v2 : Int32) (v3 : Int32) (v4 : Int32) (v8 : Int32) (v9 : Int32) (v10 : Int32) (v11 : Int32) (v12 : Int32) (v13 : Int32) (v14 : Int32) (S_ : zx_B) : Option (Int32 × zx_B) :=
  f_L_holds_j687 N k602 v2 v3 v4 v8 v9 v10 v11 v12 v13 v14 0 S_
def f_L_holds_l602 (N : Nat) : Nat → Int32 → Int32 → Int32 → Int32 → Int32 → Int32 → Int32 → Int32 → Int32 → Int32 → Int32 → zx_B → Option (Int32 × zx_B)
  | 0, _, _, _, _, _, _, _, _, _, _, _, _ => none
  | n602 + 1, v2, v3, v4, v7, v8, v9, v10, v11, v12, v13, v14, S_ => (if 24 ≤ v14 then
  f_L_holds_j738 N  v2 v3 v4 v7 v8 v9 v10 v11 v12 v13 S_ else
  (if v7 = 0 then
  f_L_holds_j738 N  v2 v3 v4 v7 v8 v9 v10 v11 v12 v13 S_ else
  (zx_b2 (f_L_call N 2 v14 0 0 S_) (fun x88 T89 =>
(if x88 < 0 then
  f_L_holds_j686 N (f_L_holds_l602 N  n602) v2 v3 v4 v8 v9 v10 v11 v12 v13 v14 T89 else
  (zx_b2 (f_L_call N 2 v14 0 0 T89) (fun x92 T93 =>
(if v10 < x92 then
  f_L_holds_j686 N (f_L_holds_l602 N  n602) v2 v3 v4 v8 v9 v10 v11 v12 v13 v14 T93 else
  (zx_b2 (f_L_call N 2 v14 2 0 T93) (fun x96 T97 =>
(if x96 < v8 then
  f_L_holds_j686 N (f_L_holds_l602 N  n602) v2 v3 v4 v8 v9 v10 v11 v12 v13 v14 T97 else
  (zx_b2 (f_L_call N 2 v14 1 0 T97) (fun x100 T101 =>
(if v11 < x100 then
  f_L_holds_j686 N (f_L_holds_l602 N  n602) v2 v3 v4 v8 v9 v10 v11 v12 v13 v14 T101 else
  (zx_b2 (f_L_call N 2 v14 3 0 T101) (fun x104 T105 =>
(if x104 < v9 then
  f_L_holds_j686 N (f_L_holds_l602 N  n602) v2 v3 v4 v8 v9 v10 v11 v12 v13 v14 T105 else
  f_L_holds_j687 N (f_L_holds_l602 N  n602) v2 v3 v4 v8 v9 v10 v11 v12 v13 v14 1 T105)))))))))))))))))
def f_L_holds_j533 (N : Nat) (v1 : Int32) (v2 : Int32) (v3 : Int32) (v4 : Int32) (t0 : Int32) (S_ : zx_B) : Option (Int32 × zx_B) :=
  (zx_n (v1 - v1 / 100 * 100) (fun x108 =>
(zx_n (v1 / 128) (fun x109 =>
(zx_n (x109 - x109 / 100 * 100) (fun x110 =>
(zx_n (v1 / 16384) (fun x111 =>
(zx_nz (100 - x108) (
(zx_n (x111 - x111 / (100 - x108) * (100 - x108)) (fun x113 =>
(zx_n (x108 + x113) (fun x114 =>
(zx_n (v1 / 131072) (fun x115 =>
(zx_nz (100 - x110) (
(zx_n (x115 - x115 / (100 - x110) * (100 - x110)) (fun x117 =>
(zx_n (x110 + x117) (fun x118 =>
(zx_b2 (f_L_tryWindow N x108 x110 x114 x118 S_) (fun x119 T120 =>
f_L_holds_l602 N  30 v2 v3 v4 t0 x108 x110 x114 x118 x119 0 0 T120))))))))))))))))))))))))
def f_L_holds_j532 (N : Nat) (v1 : Int32) (v2 : Int32) (v3 : Int32) (v4 : Int32) (S_ : zx_B) : Option (Int32 × zx_B) :=
  f_L_holds_j533 N  v1 v2 v3 v4 0 S_
def f_L_holds_j528 (N : Nat) (v1 : Int32) (v2 : Int32) (v3 : Int32) (v4 : Int32) (S_ : zx_B) : Option (Int32 × zx_B) :=
  f_L_holds_j533 N  v1 v2 v3 v4 1 S_
def f_L_holds_j482 (N : Nat) (v1 : Int32) (v2 : Int32) (v3 : Int32) (v4 : Int32) (v5 : Int32) (v6 : Int32) (v7 : Int32) (S_ : zx_B) : Option (Int32 × zx_B) :=
  (if v7 = 0 then
  f_L_holds_j532 N  v1 v2 v3 v4 S_ else
  (if v5 = v3 then
  (if v6 = (v2 - 1) then
  (if 1 < v2 then
  f_L_holds_j528 N  v1 v2 v3 v4 S_ else
  (zx_b2 (f_L_call N 1 3 0 0 S_) (fun x126 T127 =>
(if x126 = 0 then
  (zx_b2 (f_L_call N 1 4 0 0 T127) (fun x130 T131 =>
(if x130 = 0 then
  f_L_holds_j528 N  v1 v2 v3 v4 T131 else
  f_L_holds_j532 N  v1 v2 v3 v4 T131))) else
  f_L_holds_j532 N  v1 v2 v3 v4 T127)))) else
  f_L_holds_j532 N  v1 v2 v3 v4 S_) else
  f_L_holds_j532 N  v1 v2 v3 v4 S_))
def f_L_holds_j474 (N : Nat) (k70 : Int32 → Int32 → Int32 → Int32 → Int32 → Int32 → Int32 → Int32 → zx_B → Option (Int32 × zx_B)) (v1 : Int32) (v2 : Int32) (v3 : Int32) (v4 : Int32) (v5 : Int32) (v6 : Int32) (v8 : Int32) (t0 : Int32) (S_ : zx_B) : Option (Int32 × zx_B) :=
  (zx_n (v8 + 1) (fun x136 =>
k70 v1 v2 v3 v4 v5 v6 t0 x136 S_))
def f_L_holds_j473 (N : Nat) (k70 : Int32 → Int32 → Int32 → Int32 → Int32 → Int32 → Int32 → Int32 → zx_B → Option (Int32 × zx_B)) (v1 : Int32) (v2 : Int32) (v3 : Int32) (v4 : Int32) (v5 : Int32) (v6 : Int32) (v8 : Int32) (S_ : zx_B) : Option (Int32 × zx_B) :=
  f_L_holds_j474 N k70 v1 v2 v3 v4 v5 v6 v8 0 S_
def f_L_holds_j469 (N : Nat) (k70 : Int32 → Int32 → Int32 → Int32 → Int32 → Int32 → Int32 → Int32 → zx_B → Option (Int32 × zx_B)) (v1 : Int32) (v2 : Int32) (v3 : Int32) (v4 : Int32) (v5 : Int32) (v6 : Int32) (v8 : Int32) (S_ : zx_B) : Option (Int32 × zx_B) :=
  f_L_holds_j474 N k70 v1 v2 v3 v4 v5 v6 v8 1 S_
def f_L_holds_j415 (N : Nat) (k70 : Int32 → Int32 → Int32 → Int32 → Int32 → Int32 → Int32 → Int32 → zx_B → Option (Int32 × zx_B)) (v1 : Int32) (v2 : Int32) (v3 : Int32) (v4 : Int32) (v5 : Int32) (v6 : Int32) (v7 : Int32) (v8 : Int32) (v10 : Int32) (v11 : Int32) (v12 : Int32) (S_ : zx_B) : Option (Int32 × zx_B) :=
  (if v7 = 0 then
  f_L_holds_j473 N k70 v1 v2 v3 v4 v5 v6 v8 S_ else
  (if v10 = 0 then
  (zx_b2 (f_L_call N 3 v8 2 0 S_) (fun x147 T148 =>
(if x147 = (-1) then
  f_L_holds_j469 N k70 v1 v2 v3 v4 v5 v6 v8 T148 else
  f_L_holds_j473 N k70 v1 v2 v3 v4 v5 v6 v8 T148))) else
  (zx_b2 (f_L_call N 3 v8 2 0 S_) (fun x139 T140 =>
(if x139 = v11 then
  (zx_b2 (f_L_call N 3 v8 5 0 T140) (fun x143 T144 =>
(if x143 = v12 then
  f_L_holds_j469 N k70 v1 v2 v3 v4 v5 v6 v8 T144 else
  f_L_holds_j473 N k70 v1 v2 v3 v4 v5 v6 v8 T144))) else
  f_L_holds_j473 N k70 v1 v2 v3 v4 v5 v6 v8 T140)))))
def f_L_holds_j407 (N : Nat) (k70 : Int32 → Int32 → Int32 → Int32 → Int32 → Int32 → Int32 → Int32 → zx_B → Option (Int32 × zx_B)) (k204 : Int32 → Int32 → Int32 → Int32 → Int32 → Int32 → Int32 → Int32 → Int32 → Int32 → Int32 → Int32 → Int32 → zx_B → Option (Int32 × zx_B)) (v1 : Int32) (v2 : Int32) (v3 : Int32) (v4 : Int32) (v5 : Int32) (v6 : Int32) (v8 : Int32) (v9 : Int32) (v10 : Int32) (v11 : Int32) (v12 : Int32) (v13 : Int32) (t0 : Int32) (S_ : zx_B) : Option (Int32 × zx_B) :=
  (zx_n (v13 + 1) (fun x153 =>
k204 v1 v2 v3 v4 v5 v6 t0 v8 v9 v10 v11 v12 x153 S_))
def f_L_holds_j406 (N : Nat) (k70 : Int32 → Int32 → Int32 → Int32 → Int32 → Int32 → Int32 → Int32 → zx_B → Option (Int32 × zx_B)) (k204 : Int32 → Int32 → Int32 → Int32 → Int32 → Int32 → Int32 → Int32 → Int32 → Int32 → Int32 → Int32 → Int32 → zx_B → Option (Int32 × zx_B)) (v1 : Int32) (v2 : Int32) (v3 : Int32) (v4 : Int32) (v5 : Int32) (v6 : Int32) (v8 : Int32) (v9 : Int32) (v10 : Int32) (v11 : Int32) (v12 : Int32) (v13 : Int32) (S_ : zx_B) : Option (Int32 × zx_B) :=
  f_L_holds_j407 N k70 k204 v1 v2 v3 v4 v5 v6 v8 v9 v10 v11 v12 v13 0 S_
def f_L_holds_j402 (N : Nat) (k70 : Int32 → Int32 → Int32 → Int32 → Int32 → Int32 → Int32 → Int32 → zx_B → Option (Int32 × zx_B)) (k204 : Int32 → Int32 → Int32 → Int32 → Int32 → Int32 → Int32 → Int32 → Int32 → Int32 → Int32 → Int32 → Int32 → zx_B → Option (Int32 × zx_B)) (v1 : Int32) (v2 : Int32) (v3 : Int32) (v4 : Int32) (v5 : Int32) (v6 : Int32) (v8 : Int32) (v9 : Int32) (v10 : Int32) (v11 : Int32) (v12 : Int32) (v13 : Int32) (S_ : zx_B) : Option (Int32 × zx_B) :=
  f_L_holds_j407 N k70 k204 v1 v2 v3 v4 v5 v6 v8 v9 v10 v11 v12 v13 1 S_
def f_L_holds_j344 (N : Nat) (k70 : Int32 → Int32 → Int32 → Int32 → Int32 → Int32 → Int32 → Int32 → zx_B → Option (Int32 × zx_B)) (k204 : Int32 → Int32 → Int32 → Int32 → Int32 → Int32 → Int32 → Int32 → Int32 → Int32 → Int32 → Int32 → Int32 → zx_B → Option (Int32 × zx_B)) (v1 : Int32) (v2 : Int32) (v3 : Int32) (v4 : Int32) (v5 : Int32) (v6 : Int32) (v8 : Int32) (v9 : Int32) (v10 : Int32) (v11 : Int32) (v13 : Int32) (v14 : Int32) (t0 : Int32) (S_ : zx_B) : Option (Int32 × zx_B) :=
  (if v9 = 0 then
  (zx_b2 (f_L_call N 2 v14 4 0 S_) (fun x161 T162 =>
(if x161 = v8 then
  f_L_holds_j407 N k70 k204 v1 v2 v3 v4 v5 v6 v8 v9 v10 v11 t0 v13 1 T162 else
  f_L_holds_j407 N k70 k204 v1 v2 v3 v4 v5 v6 v8 v9 v10 v11 t0 v13 0 T162))) else
  (zx_b2 (f_L_call N 3 v14 6 0 S_) (fun x155 T156 =>
(if x155 = v8 then
  (if 0 < v13 then
  f_L_holds_j402 N k70 k204 v1 v2 v3 v4 v5 v6 v8 v9 v10 v11 t0 v13 T156 else
  (if v14 = (v8 + 1) then
  f_L_holds_j402 N k70 k204 v1 v2 v3 v4 v5 v6 v8 v9 v10 v11 t0 v13 T156 else
  f_L_holds_j406 N k70 k204 v1 v2 v3 v4 v5 v6 v8 v9 v10 v11 t0 v13 T156)) else
  f_L_holds_j406 N k70 k204 v1 v2 v3 v4 v5 v6 v8 v9 v10 v11 t0 v13 T156))))
def f_L_holds_j328 (N : Nat) (k70 : Int32 → Int32 → Int32 → Int32 → Int32 → Int32 → Int32 → Int32 → zx_B → Option (Int32 × zx_B)) (k204 : Int32 → Int32 → Int32 → Int32 → Int32 → Int32 → Int32 → Int32 → Int32 → Int32 → Int32 → Int32 → Int32 → zx_B → Option (Int32 × zx_B)) (v1 : Int32) (v2 : Int32) (v3 : Int32) (v4 : Int32) (v5 : Int32) (v6 : Int32) (v8 : Int32) (v9 : Int32) (v10 : Int32) (v12 : Int32) (v13 : Int32) (v14 : Int32) (v16 : Int32) (t0 : Int32) (S_ : zx_B) : Option (Int32 × zx_B) :=
  (if v16 ≤ v12 then
  f_L_holds_j344 N k70 k204 v1 v2 v3 v4 v5 v6 v8 v9 v10 t0 v13 v14 v12 S_ else
  f_L_holds_j344 N k70 k204 v1 v2 v3 v4 v5 v6 v8 v9 v10 t0 v13 v14 v16 S_)
def f_L_holds_j312 (N : Nat) (k70 : Int32 → Int32 → Int32 → Int32 → Int32 → Int32 → Int32 → Int32 → zx_B → Option (Int32 × zx_B)) (k204 : Int32 → Int32 → Int32 → Int32 → Int32 → Int32 → Int32 → Int32 → Int32 → Int32 → Int32 → Int32 → Int32 → zx_B → Option (Int32 × zx_B)) (v1 : Int32) (v2 : Int32) (v3 : Int32) (v4 : Int32) (v5 : Int32) (v6 : Int32) (v8 : Int32) (v9 : Int32) (v10 : Int32) (v11 : Int32) (v12 : Int32) (v13 : Int32) (v14 : Int32) (v15 : Int32) (t0 : Int32) (S_ : zx_B) : Option (Int32 × zx_B) :=
  (if v11 ≤ v15 then
  f_L_holds_j328 N k70 k204 v1 v2 v3 v4 v5 v6 v8 v9 v10 v12 v13 v14 t0 v11 S_ else
  f_L_holds_j328 N k70 k204 v1 v2 v3 v4 v5 v6 v8 v9 v10 v12 v13 v14 t0 v15 S_)
def f_L_holds_j284 (N : Nat) (k70 : Int32 → Int32 → Int32 → Int32 → Int32 → Int32 → Int32 → Int32 → zx_B → Option (Int32 × zx_B)) (k204 : Int32 → Int32 → Int32 → Int32 → Int32 → Int32 → Int32 → Int32 → Int32 → Int32 → Int32 → Int32 → Int32 → zx_B → Option (Int32 × zx_B)) (v1 : Int32) (v2 : Int32) (v3 : Int32) (v4 : Int32) (v5 : Int32) (v6 : Int32) (v8 : Int32) (v9 : Int32) (v10 : Int32) (v11 : Int32) (v12 : Int32) (v13 : Int32) (v14 : Int32) (t0 : Int32) (S_ : zx_B) : Option (Int32 × zx_B) :=
  (if v9 = 0 then
  (zx_b2 (f_L_call N 2 v14 3 0 S_) (fun x171 T172 =>
f_L_holds_j312 N k70 k204 v1 v2 v3 v4 v5 v6 v8 v9 v10 v11 v12 v13 v14 t0 x171 T172)) else
  (zx_b2 (f_L_call N 3 v14 5 0 S_) (fun x168 T169 =>
f_L_holds_j312 N k70 k204 v1 v2 v3 v4 v5 v6 v8 v9 v10 v11 v12 v13 v14 t0 x168 T169)))
def f_L_holds_j255 (N : Nat) (k70 : Int32 → Int32 → Int32 → Int32 → Int32 → Int32 → Int32 → Int32 → zx_B → Option (Int32 × zx_B)) (k204 : Int32 → Int32 → Int32 → Int32 → Int32 → Int32 → Int32 → Int32 → Int32 → Int32 → Int32 → Int32 → Int32 → zx_B → Option (Int32 × zx_B)) (v1 : Int32) (v2 : Int32) (v3 : Int32) (v4 : Int32) (v5 : Int32) (v8 : Int32) (v9 : Int32) (v10 : Int32) (v11 : Int32) (v12 : Int32) (v13 : Int32) (v14 : Int32) (t0 : Int32) (t1 : Int32) (S_ : zx_B) : Option (Int32 × zx_B) :=
  (zx_n (t0 + t1) (fun x174 =>
(if v9 = 0 then
  (zx_b2 (f_L_call N 2 v14 0 0 S_) (fun x179 T180 =>
f_L_holds_j284 N k70 k204 v1 v2 v3 v4 v5 x174 v8 v9 v10 v11 v12 v13 v14 x179 T180)) else
  (zx_b2 (f_L_call N 3 v14 2 0 S_) (fun x176 T177 =>
f_L_holds_j284 N k70 k204 v1 v2 v3 v4 v5 x174 v8 v9 v10 v11 v12 v13 v14 x176 T177)))))
def f_L_holds_j240 (N : Nat) (k70 : Int32 → Int32 → Int32 → Int32 → Int32 → Int32 → Int32 → Int32 → zx_B → Option (Int32 × zx_B)) (k204 : Int32 → Int32 → Int32 → Int32 → Int32 → Int32 → Int32 → Int32 → Int32 → Int32 → Int32 → Int32 → Int32 → zx_B → Option (Int32 × zx_B)) (v1 : Int32) (v2 : Int32) (v3 : Int32) (v4 : Int32) (v6 : Int32) (v8 : Int32) (v9 : Int32) (v10 : Int32) (v11 : Int32) (v12 : Int32) (v13 : Int32) (v14 : Int32) (t0 : Int32) (t1 : Int32) (S_ : zx_B) : Option (Int32 × zx_B) :=
  (zx_n (t0 + t1) (fun x182 =>
(if v9 = 0 then
  f_L_holds_j255 N k70 k204 v1 v2 v3 v4 x182 v8 v9 v10 v11 v12 v13 v14 v6 0 S_ else
  f_L_holds_j255 N k70 k204 v1 v2 v3 v4 x182 v8 v9 v10 v11 v12 v13 v14 v6 1 S_)))
def f_L_holds_l204 (N : Nat) (k70 : Int32 → Int32 → Int32 → Int32 → Int32 → Int32 → Int32 → Int32 → zx_B → Option (Int32 × zx_B)) : Nat → Int32 → Int32 → Int32 → Int32 → Int32 → Int32 → Int32 → Int32 → Int32 → Int32 → Int32 → Int32 → Int32 → zx_B → Option (Int32 × zx_B)
  | 0, _, _, _, _, _, _, _, _, _, _, _, _, _, _ => none
  | n204 + 1, v1, v2, v3, v4, v5, v6, v7, v8, v9, v10, v11, v12, v13, S_ => (if v10 ≤ v13 then
  f_L_holds_j415 N k70 v1 v2 v3 v4 v5 v6 v7 v8 v10 v11 v12 S_ else
  (if v7 = 0 then
  f_L_holds_j415 N k70 v1 v2 v3 v4 v5 v6 v7 v8 v10 v11 v12 S_ else
  (zx_b2 (f_L_call N 4 v8 v13 0 S_) (fun x184 T185 =>
(if v9 = 0 then
  f_L_holds_j240 N k70 (f_L_holds_l204 N k70  n204) v1 v2 v3 v4 v6 v8 v9 v10 v11 v12 v13 x184 v5 1 T185 else
  f_L_holds_j240 N k70 (f_L_holds_l204 N k70  n204) v1 v2 v3 v4 v6 v8 v9 v10 v11 v12 v13 x184 v5 0 T185)))))
def f_L_holds_j192 (N : Nat) (k70 : Int32 → Int32 → Int32 → Int32 → Int32 → Int32 → Int32 → Int32 → zx_B → Option (Int32 × zx_B)) (v1 : Int32) (v2 : Int32) (v3 : Int32) (v4 : Int32) (v5 : Int32) (v6 : Int32) (v8 : Int32) (v9 : Int32) (v10 : Int32) (t0 : Int32) (S_ : zx_B) : Option (Int32 × zx_B) :=
  f_L_holds_l204 N k70 30 v1 v2 v3 v4 v5 v6 t0 v8 v9 v10 100 (-1) 0 S_
def f_L_holds_j191 (N : Nat) (k70 : Int32 → Int32 → Int32 → Int32 → Int32 → Int32 → Int32 → Int32 → zx_B → Option (Int32 × zx_B)) (v1 : Int32) (v2 : Int32) (v3 : Int32) (v4 : Int32) (v5 : Int32) (v6 : Int32) (v8 : Int32) (v9 : Int32) (v10 : Int32) (S_ : zx_B) : Option (Int32 × zx_B) :=
  f_L_holds_j192 N k70 v1 v2 v3 v4 v5 v6 v8 v9 v10 0 S_
def f_L_holds_j173 (N : Nat) (k70 : Int32 → Int32 → Int32 → Int32 → Int32 → Int32 → Int32 → Int32 → zx_B → Option (Int32 × zx_B)) (v1 : Int32) (v2 : Int32) (v3 : Int32) (v4 : Int32) (v5 : Int32) (v6 : Int32) (v8 : Int32) (v9 : Int32) (v10 : Int32) (S_ : zx_B) : Option (Int32 × zx_B) :=
  (zx_b2 (f_L_call N 4 v8 v10 0 S_) (fun x195 T196 =>
(if x195 = (-1) then
  f_L_holds_j192 N k70 v1 v2 v3 v4 v5 v6 v8 v9 v10 1 T196 else
  f_L_holds_j191 N k70 v1 v2 v3 v4 v5 v6 v8 v9 v10 T196)))
def f_L_holds_l70 (N : Nat) : Nat → Int32 → Int32 → Int32 → Int32 → Int32 → Int32 → Int32 → Int32 → zx_B → Option (Int32 × zx_B)
  | 0, _, _, _, _, _, _, _, _, _ => none
  | n70 + 1, v1, v2, v3, v4, v5, v6, v7, v8, S_ => (if v2 ≤ v8 then
  f_L_holds_j482 N  v1 v2 v3 v4 v5 v6 v7 S_ else
  (if v7 = 0 then
  f_L_holds_j482 N  v1 v2 v3 v4 v5 v6 v7 S_ else
  (zx_b2 (f_L_call N 3 v8 0 0 S_) (fun x188 T189 =>
(zx_b2 (f_L_call N 3 v8 1 0 T189) (fun x191 T192 =>
(if 4 < x191 then
  f_L_holds_j191 N (f_L_holds_l70 N  n70) v1 v2 v3 v4 v5 v6 v8 x188 x191 T192 else
  (if v8 = 0 then
  (if x188 = 0 then
  f_L_holds_j173 N (f_L_holds_l70 N  n70) v1 v2 v3 v4 v5 v6 v8 x188 x191 T192 else
  (if x191 < 2 then
  f_L_holds_j191 N (f_L_holds_l70 N  n70) v1 v2 v3 v4 v5 v6 v8 x188 x191 T192 else
  f_L_holds_j173 N (f_L_holds_l70 N  n70) v1 v2 v3 v4 v5 v6 v8 x188 x191 T192)) else
  (if x191 < 2 then
  f_L_holds_j191 N (f_L_holds_l70 N  n70) v1 v2 v3 v4 v5 v6 v8 x188 x191 T192 else
  (zx_b2 (f_L_call N 3 v8 6 0 T192) (fun x201 T202 =>
(zx_b2 (f_L_call N 3 x201 0 0 T202) (fun x204 T205 =>
(if x204 = (x188 + 1) then
  (zx_b2 (f_L_call N 3 v8 6 0 T205) (fun x208 T209 =>
(if v8 ≤ x208 then
  f_L_holds_j191 N (f_L_holds_l70 N  n70) v1 v2 v3 v4 v5 v6 v8 x188 x191 T209 else
  f_L_holds_j173 N (f_L_holds_l70 N  n70) v1 v2 v3 v4 v5 v6 v8 x188 x191 T209))) else
  f_L_holds_j191 N (f_L_holds_l70 N  n70) v1 v2 v3 v4 v5 v6 v8 x188 x191 T205))))))))))))))
def f_L_holds_j65 (N : Nat) (v1 : Int32) (v2 : Int32) (v3 : Int32) (v4 : Int32) (v5 : Int32) (v6 : Int32) (t0 : Int32) (S_ : zx_B) : Option (Int32 × zx_B) :=
  f_L_holds_l70 N  30 v1 v2 v3 v4 v5 v6 t0 0 S_
def f_L_holds_j64 (N : Nat) (v1 : Int32) (v2 : Int32) (v3 : Int32) (v4 : Int32) (v5 : Int32) (v6 : Int32) (S_ : zx_B) : Option (Int32 × zx_B) :=
  f_L_holds_j65 N  v1 v2 v3 v4 v5 v6 0 S_
def f_L_holds (N : Nat) (p1 : Int32) (S : zx_B) : Option (Int32 × zx_B) :=
  (zx_b2 (f_L_call N 1 1 0 0 S) (fun x214 T215 =>
(zx_b2 (f_L_call N 1 0 0 0 T215) (fun x217 T218 =>
(zx_b2 (f_L_call N 1 2 0 0 T218) (fun x220 T221 =>
(zx_b2 (f_L_call N 3 0 0 0 T221) (fun x223 T224 =>
(if x223 = x220 then
  (zx_b2 (f_L_call N 3 0 6 0 T224) (fun x227 T228 =>
(if x227 = (-1) then
  f_L_holds_j65 N  p1 x214 x217 x220 0 0 1 T228 else
  f_L_holds_j64 N  p1 x214 x217 x220 0 0 T228))) else
  f_L_holds_j64 N  p1 x214 x217 x220 0 0 T224)))))))))
abbrev rmL_holds : Room := { frames := 9, cells := 4014, slots := 24084, locals := 223 }
abbrev zsL_holds : List Cond := .code yL_holds cL_holds 19 (some .boolean) :: wsL_law
theorem zyL_holds : yL_holds.cls ≠ "java/lang/invoke/MethodHandle" ∧ yL_holds.cls ≠ "java/lang/invoke/VarHandle" ∧ (parseMethodDescriptor yL_holds.desc).map (fun d => d.parameters.length) = some 2 := by decide +kernel
set_option maxHeartbeats 16000000 in
set_option maxRecDepth 100000 in
theorem c_L_holds (l : Launch) (hlt : l.stackTraces = false) (D : va_G) (cI cZ cT : ClassId) (h : Nat) (hh : Nat → Nat) (aa : Nat → Nat → Nat) (S : zx_B) (sz : Nat) (N : Nat) (p1 : Int32) {R : Int32 × zx_B} (hM : f_L_holds N p1 S = some R) : Met l yL_holds zsL_holds rmL_holds (va_Pc [.ref h, .int p1] (bY D (zx_ty cI cZ cT) (xW2 cI cT h hh aa S) sz)) (va_Qi (fun r (u : zx_B) => R = (r, u)) (fun u t => va_P D vwCl (xW2 cI cT h hh aa u) t.heap) (va_A (xW2 cI cT h hh aa S) sz)) 4014 24084 (va_A (xW2 cI cT h hh aa S) sz) := by
  refine Met.ofW (cc := cL_holds) (maxL := 19) (ret := (some .boolean)) (by decide) rfl ?_
  intro p e s m args below meth c s₁ B hml hv
  obtain ⟨rfl, ⟨⟨hsz, hP, hK, hD0, hN⟩, hXX⟩, hNc⟩ := hv
  have hx := B.exec
  have hb := B.bytes
  have hr := B.returns
  have hts : ∀ w ∈ wsL_law, w.before _ s = true := fun w hw => atoms_spec (ws := zsL_holds) B.pre w (List.mem_cons_of_mem _ hw)
  have hown : s.vm.findClass RL = some m.cls := findClass_of_methodNamed B.named
  have hlocks := B.notSynchronized
  subst hsz
  have hD := hD0.self (sz := s.heap.size)
  generalize hAe : va_A (xW2 cI cT h hh aa S) s.heap.size = A at hD hXX ⊢
  have hA : ∀ q : Nat, s.heap.size ≤ q → A q := fun q h => by rw [← hAe]; exact Or.inr h
  have hS : va_S A s.heap s.heap [] := va_S.rf
  have hl := lv_entry ([.ref h, .int p1]) (n := 19) (Nat.le_of_ble_eq_true rfl)
  rw [lg_entry_eq]
  generalize (lg_sl ([.ref h, .int p1]) ++ List.replicate (19 - (lg_sl ([.ref h, .int p1])).length) Slot.unset).toArray = ls at hl ⊢
  have hl : lv_has ls 19 [(0, .ref h), (1, .int p1)] := hl
  generalize hQ : MQ below (va_Qi (fun r (u : zx_B) => R = (r, u)) (fun u t => va_P D vwCl (xW2 cI cT h hh aa u) t.heap) A) ([.ref h, .int p1] : List Value).toArray s 4014 24084 A = Q9
  replace hQ := hQ.symm
  obtain ⟨kc, hkc0⟩ : ∃ kc : Nat, kc = 0 := ⟨0, rfl⟩
  have hkc : kc + 4014 ≤ 4014 := by omega
  refine W.widen (k := kc) (n := 6 * kc) (by omega) (by omega) ?_
  unfold f_L_holds at hM
  have j65 : ∀ (v1 : Int32) (v2 : Int32) (v3 : Int32) (v4 : Int32) (v5 : Int32) (v6 : Int32) (t0 : Int32) (S_ : zx_B) (kc : Nat) (H : Heap) (lc : List Loc) (ls : Array Slot), kc + (4009) ≤ 4014 → va_P D vwCl (xW2 cI cT h hh aa S_) H → va_D A (xW2 cI cT h hh aa S_) → va_S A s.heap H lc → lv_has ls 19 [(0, .ref h), (1, .int v1), (2, .int v2), (3, .int v3), (4, .int v4), (5, .int v5), (6, .int v6)] → f_L_holds_j65 N v1 v2 v3 v4 v5 v6 t0 S_ = some R → W p l e (headSpec zsL_holds rmL_holds).room s m ([.ref h, .int p1] : List Value).toArray below meth c H lc kc (6 * kc) Q9 (F0 m 65 ls [.int t0]) := by
    intro v1 v2 v3 v4 v5 v6 t0 S_ kc H lc ls hkc hP hD hS hl hM
    unfold f_L_holds_j65 at hM
    have l70 : ∀ (n70 : Nat) (v1 : Int32) (v2 : Int32) (v3 : Int32) (v4 : Int32) (v5 : Int32) (v6 : Int32) (v7 : Int32) (v8 : Int32) (S_ : zx_B) (kc : Nat) (H : Heap) (lc : List Loc) (ls : Array Slot), kc + (n70 * 128 + 169) ≤ 4014 → va_P D vwCl (xW2 cI cT h hh aa S_) H → va_D A (xW2 cI cT h hh aa S_) → va_S A s.heap H lc → lv_has ls 19 [(0, .ref h), (1, .int v1), (2, .int v2), (3, .int v3), (4, .int v4), (5, .int v5), (6, .int v6), (7, .int v7), (8, .int v8)] → f_L_holds_l70 N n70 v1 v2 v3 v4 v5 v6 v7 v8 S_ = some R → W p l e (headSpec zsL_holds rmL_holds).room s m ([.ref h, .int p1] : List Value).toArray below meth c H lc kc (6 * kc) Q9 (F0 m 70 ls []) := by
      intro n70
      induction n70 with
      | zero =>
        intro v1 v2 v3 v4 v5 v6 v7 v8 S_ kc H lc ls hkc hP hD hS hl hM
        rw [f_L_holds_l70] at hM; exact absurd hM (by intro h; cases h)
      | succ n70 ih70 =>
        intro v1 v2 v3 v4 v5 v6 v7 v8 S_ kc H lc ls hkc hP hD hS hl hM
        rw [f_L_holds_l70] at hM
        have j482 : ∀ (v1 : Int32) (v2 : Int32) (v3 : Int32) (v4 : Int32) (v5 : Int32) (v6 : Int32) (v7 : Int32) (S_ : zx_B) (kc : Nat) (H : Heap) (lc : List Loc) (ls : Array Slot), kc + (169) ≤ 4014 → va_P D vwCl (xW2 cI cT h hh aa S_) H → va_D A (xW2 cI cT h hh aa S_) → va_S A s.heap H lc → lv_has ls 19 [(0, .ref h), (1, .int v1), (2, .int v2), (3, .int v3), (4, .int v4), (5, .int v5), (6, .int v6), (7, .int v7)] → f_L_holds_j482 N v1 v2 v3 v4 v5 v6 v7 S_ = some R → W p l e (headSpec zsL_holds rmL_holds).room s m ([.ref h, .int p1] : List Value).toArray below meth c H lc kc (6 * kc) Q9 (F0 m 482 ls []) := by
          intro v1 v2 v3 v4 v5 v6 v7 S_ kc H lc ls hkc hP hD hS hl hM
          unfold f_L_holds_j482 at hM
          have j533 : ∀ (v1 : Int32) (v2 : Int32) (v3 : Int32) (v4 : Int32) (t0 : Int32) (S_ : zx_B) (kc : Nat) (H : Heap) (lc : List Loc) (ls : Array Slot), kc + (167) ≤ 4014 → va_P D vwCl (xW2 cI cT h hh aa S_) H → va_D A (xW2 cI cT h hh aa S_) → va_S A s.heap H lc → lv_has ls 19 [(0, .ref h), (1, .int v1), (2, .int v2), (3, .int v3), (4, .int v4)] → f_L_holds_j533 N v1 v2 v3 v4 t0 S_ = some R → W p l e (headSpec zsL_holds rmL_holds).room s m ([.ref h, .int p1] : List Value).toArray below meth c H lc kc (6 * kc) Q9 (F0 m 533 ls [.int t0]) := by
            intro v1 v2 v3 v4 t0 S_ kc H lc ls hkc hP hD hS hl hM
            unfold f_L_holds_j533 at hM
            have l602 : ∀ (n602 : Nat) (v2 : Int32) (v3 : Int32) (v4 : Int32) (v7 : Int32) (v8 : Int32) (v9 : Int32) (v10 : Int32) (v11 : Int32) (v12 : Int32) (v13 : Int32) (v14 : Int32) (S_ : zx_B) (kc : Nat) (H : Heap) (lc : List Loc) (ls : Array Slot), kc + (n602 * 5 + 16) ≤ 4014 → va_P D vwCl (xW2 cI cT h hh aa S_) H → va_D A (xW2 cI cT h hh aa S_) → va_S A s.heap H lc → lv_has ls 19 [(0, .ref h), (2, .int v2), (3, .int v3), (4, .int v4), (7, .int v7), (8, .int v8), (9, .int v9), (10, .int v10), (11, .int v11), (12, .int v12), (13, .int v13), (14, .int v14)] → f_L_holds_l602 N n602 v2 v3 v4 v7 v8 v9 v10 v11 v12 v13 v14 S_ = some R → W p l e (headSpec zsL_holds rmL_holds).room s m ([.ref h, .int p1] : List Value).toArray below meth c H lc kc (6 * kc) Q9 (F0 m 602 ls []) := by
              intro n602
              induction n602 with
              | zero =>
                intro v2 v3 v4 v7 v8 v9 v10 v11 v12 v13 v14 S_ kc H lc ls hkc hP hD hS hl hM
                rw [f_L_holds_l602] at hM; exact absurd hM (by intro h; cases h)
              | succ n602 ih602 =>
                intro v2 v3 v4 v7 v8 v9 v10 v11 v12 v13 v14 S_ kc H lc ls hkc hP hD hS hl hM
                rw [f_L_holds_l602] at hM
                have j738 : ∀ (v2 : Int32) (v3 : Int32) (v4 : Int32) (v7 : Int32) (v8 : Int32) (v9 : Int32) (v10 : Int32) (v11 : Int32) (v12 : Int32) (v13 : Int32) (S_ : zx_B) (kc : Nat) (H : Heap) (lc : List Loc) (ls : Array Slot), kc + (16) ≤ 4014 → va_P D vwCl (xW2 cI cT h hh aa S_) H → va_D A (xW2 cI cT h hh aa S_) → va_S A s.heap H lc → lv_has ls 19 [(0, .ref h), (2, .int v2), (3, .int v3), (4, .int v4), (7, .int v7), (8, .int v8), (9, .int v9), (10, .int v10), (11, .int v11), (12, .int v12), (13, .int v13)] → f_L_holds_j738 N v2 v3 v4 v7 v8 v9 v10 v11 v12 v13 S_ = some R → W p l e (headSpec zsL_holds rmL_holds).room s m ([.ref h, .int p1] : List Value).toArray below meth c H lc kc (6 * kc) Q9 (F0 m 738 ls []) := by
                  intro v2 v3 v4 v7 v8 v9 v10 v11 v12 v13 S_ kc H lc ls hkc hP hD hS hl hM
                  unfold f_L_holds_j738 at hM
                  have j844 : ∀ (v2 : Int32) (v3 : Int32) (v8 : Int32) (v9 : Int32) (v10 : Int32) (v11 : Int32) (v12 : Int32) (t0 : Int32) (S_ : zx_B) (kc : Nat) (H : Heap) (lc : List Loc) (ls : Array Slot), kc + (13) ≤ 4014 → va_P D vwCl (xW2 cI cT h hh aa S_) H → va_D A (xW2 cI cT h hh aa S_) → va_S A s.heap H lc → lv_has ls 19 [(0, .ref h), (2, .int v2), (3, .int v3), (8, .int v8), (9, .int v9), (10, .int v10), (11, .int v11), (12, .int v12)] → f_L_holds_j844 N v2 v3 v8 v9 v10 v11 v12 t0 S_ = some R → W p l e (headSpec zsL_holds rmL_holds).room s m ([.ref h, .int p1] : List Value).toArray below meth c H lc kc (6 * kc) Q9 (F0 m 844 ls [.int t0]) := by
                    intro v2 v3 v8 v9 v10 v11 v12 t0 S_ kc H lc ls hkc hP hD hS hl hM
                    unfold f_L_holds_j844 at hM
                    have j1023 : ∀ (v2 : Int32) (v7 : Int32) (v8 : Int32) (v9 : Int32) (v10 : Int32) (v11 : Int32) (v12 : Int32) (v16 : Int32) (S_ : zx_B) (kc : Nat) (H : Heap) (lc : List Loc) (ls : Array Slot), kc + (3) ≤ 4014 → va_P D vwCl (xW2 cI cT h hh aa S_) H → va_D A (xW2 cI cT h hh aa S_) → va_S A s.heap H lc → lv_has ls 19 [(0, .ref h), (2, .int v2), (7, .int v7), (8, .int v8), (9, .int v9), (10, .int v10), (11, .int v11), (12, .int v12), (16, .int v16)] → f_L_holds_j1023 N v2 v7 v8 v9 v10 v11 v12 v16 S_ = some R → W p l e (headSpec zsL_holds rmL_holds).room s m ([.ref h, .int p1] : List Value).toArray below meth c H lc kc (6 * kc) Q9 (F0 m 1023 ls []) := by
                      intro v2 v7 v8 v9 v10 v11 v12 v16 S_ kc H lc ls hkc hP hD hS hl hM
                      unfold f_L_holds_j1023 at hM
                      refine lv_iload hx hb dL_holds_1023 (lv_at hl 2 rfl) ?_
                      refine lv_if_eq (tgt := 1074) hx hb dL_holds_1025 (by decide) (fun q1 => ?_) (fun q1 => ?_)
                      · replace hM := zx_t q1 hM
                        refine lv_iconst (v := 0) hx hb dL_holds_1074 (by decide) ?_
                        rw [hQ]
                        refine W.widen (k := 4014) (n := 24084) (by omega) (by omega) ?_
                        exact W.zret hx hb hr (by rfl) (fun t ht hW => ⟨⟨0, S_, rfl, (Option.some.inj hM).symm, by show va_P D vwCl _ t.heap; rw [ht]; exact hP⟩, hS.F ht⟩) hS.2.2 dL_holds_1075
                      · replace hM := zx_f q1 hM
                        refine lv_aload_n hx hb dL_holds_1028 rfl (lv_at hl 0 rfl) ?_
                        refine lv_iconst (v := 1) hx hb dL_holds_1029 (by decide) ?_
                        refine lv_iconst (v := 1) hx hb dL_holds_1030 (by decide) ?_
                        refine lv_iconst (v := 0) hx hb dL_holds_1031 (by decide) ?_
                        refine lv_iconst (v := 0) hx hb dL_holds_1032 (by decide) ?_
                        obtain ⟨x2, T3, hz4, hM⟩ := zx_b2E hM
                        have hF := zx_fW hD hS hA
                        refine va_calli (va_runS (As := [.ref h, .int 1, .int 1, .int 0, .int 0]) (rest := []) ⟨hx, hb, hml, hown, hts⟩ (c_L_call l hlt D cI cZ cT h hh aa S_ _ N 1 1 0 0 hz4) (va_cwS 5 hts (zg_S zw_4_2 zw_4_3 zw_3_14 zw_4_4) rfl rfl rfl zyL_call ⟨Nat.le_of_ble_eq_true rfl, Nat.le_of_ble_eq_true rfl⟩) ⟨bY_blind, bY_pre hP hK hD hN hXX hNc hS hF⟩ rfl rfl hl.1 rfl (lv_room (Nat.le_of_ble_eq_true rfl)) dL_holds_1033 ⟨by show kc + 1 ≤ 4014; omega, by show 6 * kc + 6 ≤ 24084; omega⟩) hS (fun q _ h => hF q h) (fun q h => hF q h) (fun r u t H1 lc ht hvm hw hB hz1 hk1 hS => ?_)
                        obtain ⟨hw1, hw2⟩ := Prod.mk.inj hw; subst hw1; subst hw2
                        rw [ht] at hB
                        replace hP := hB
                        replace hD := zx2_Da T3 hD
                        refine W.widen (k := (kc + 1)) (n := 6 * (kc + 1)) (by omega) (by omega) ?_
                        refine lv_iload_n hx hb dL_holds_1036 rfl (lv_at hl 1 rfl) ?_
                        refine lv_icmp_ne (tgt := 1074) hx hb dL_holds_1037 (by decide) (fun q5 => ?_) (fun q5 => ?_)
                        · replace hM := zx_f q5 hM
                          refine lv_iconst (v := 0) hx hb dL_holds_1074 (by decide) ?_
                          rw [hQ]
                          refine W.widen (k := 4014) (n := 24084) (by omega) (by omega) ?_
                          exact W.zret hx hb hr (by rfl) (fun t ht hW => ⟨⟨0, T3, rfl, (Option.some.inj hM).symm, by show va_P D vwCl _ t.heap; rw [ht]; exact hP⟩, hS.F ht⟩) hS.2.2 dL_holds_1075
                        · replace hM := zx_t q5 hM
                          refine lv_aload_n hx hb dL_holds_1040 rfl (lv_at hl 0 rfl) ?_
                          refine lv_iconst (v := 1) hx hb dL_holds_1041 (by decide) ?_
                          refine lv_iconst (v := 3) hx hb dL_holds_1042 (by decide) ?_
                          refine lv_iconst (v := 0) hx hb dL_holds_1043 (by decide) ?_
                          refine lv_iconst (v := 0) hx hb dL_holds_1044 (by decide) ?_
                          obtain ⟨x6, T7, hz8, hM⟩ := zx_b2E hM
                          have hF := zx_fW hD hS hA
                          refine va_calli (va_runS (As := [.ref h, .int 1, .int 3, .int 0, .int 0]) (rest := []) ⟨hx, hb, hml, hown, hts⟩ (c_L_call l hlt D cI cZ cT h hh aa T3 _ N 1 3 0 0 hz8) (va_cwS 5 hts (zg_S zw_4_2 zw_4_3 zw_3_14 zw_4_4) rfl rfl rfl zyL_call ⟨Nat.le_of_ble_eq_true rfl, Nat.le_of_ble_eq_true rfl⟩) ⟨bY_blind, bY_pre hP hK hD hN hXX hNc hS hF⟩ rfl rfl hl.1 rfl (lv_room (Nat.le_of_ble_eq_true rfl)) dL_holds_1045 ⟨by show (kc + 1) + 1 ≤ 4014; omega, by show 6 * (kc + 1) + 6 ≤ 24084; omega⟩) hS (fun q _ h => hF q h) (fun q h => hF q h) (fun r u t H1 lc ht hvm hw hB hz1 hk1 hS => ?_)
                          obtain ⟨hw1, hw2⟩ := Prod.mk.inj hw; subst hw1; subst hw2
                          rw [ht] at hB
                          replace hP := hB
                          replace hD := zx2_Da T7 hD
                          refine W.widen (k := (kc + 2)) (n := 6 * (kc + 2)) (by omega) (by omega) ?_
                          refine lv_iload hx hb dL_holds_1048 (lv_at hl 8 rfl) ?_
                          refine lv_icmp_ne (tgt := 1074) hx hb dL_holds_1050 (by decide) (fun q9 => ?_) (fun q9 => ?_)
                          · replace hM := zx_f q9 hM
                            refine lv_iconst (v := 0) hx hb dL_holds_1074 (by decide) ?_
                            rw [hQ]
                            refine W.widen (k := 4014) (n := 24084) (by omega) (by omega) ?_
                            exact W.zret hx hb hr (by rfl) (fun t ht hW => ⟨⟨0, T7, rfl, (Option.some.inj hM).symm, by show va_P D vwCl _ t.heap; rw [ht]; exact hP⟩, hS.F ht⟩) hS.2.2 dL_holds_1075
                          · replace hM := zx_t q9 hM
                            refine lv_aload_n hx hb dL_holds_1053 rfl (lv_at hl 0 rfl) ?_
                            refine lv_iload hx hb dL_holds_1054 (lv_at hl 3 rfl) ?_
                            refine lv_iload hx hb dL_holds_1056 (lv_at hl 4 rfl) ?_
                            refine lv_iload hx hb dL_holds_1058 (lv_at hl 5 rfl) ?_
                            refine lv_iload hx hb dL_holds_1060 (lv_at hl 6 rfl) ?_
                            obtain ⟨x10, T11, hz12, hM⟩ := zx_b2E hM
                            have hF := zx_fW hD hS hA
                            refine va_calli (vx_runSW (As := [.ref h, .int v8, .int v9, .int v10, .int v11]) (rest := []) ⟨hx, hb, hml, hown, hts⟩ (c_L_tryWindow l hlt D cI cZ cT h hh aa T7 _ N v8 v9 v10 v11 hz12) (vx_cwSW 5 hts (zg_S zw_17_21 zw_17_22 zw_3_14 zw_17_23) rfl rfl rfl zyL_tryWindow ⟨Nat.le_of_ble_eq_true rfl, Nat.le_of_ble_eq_true rfl⟩) ⟨bY_blind, bY_pre hP hK hD hN hXX hNc hS hF⟩ rfl rfl hl.1 rfl (lv_room (Nat.le_of_ble_eq_true rfl)) dL_holds_1062 ⟨by show (kc + 2) + 1 ≤ 4014; omega, by show 6 * (kc + 2) + 6 ≤ 24084; omega⟩) hS (fun q _ h => hF q h) (fun q h => hF q h) (fun r u t H1 lc ht hvm hw hB hz1 hk1 hS => ?_)
                            obtain ⟨hw1, hw2⟩ := Prod.mk.inj hw; subst hw1; subst hw2
                            rw [ht] at hB
                            replace hP := hB
                            replace hD := zx2_Da T11 hD
                            refine W.widen (k := (kc + 3)) (n := 6 * (kc + 3)) (by omega) (by omega) ?_
                            refine lv_iload hx hb dL_holds_1065 (lv_at hl 7 rfl) ?_
                            refine lv_icmp_ne (tgt := 1074) hx hb dL_holds_1067 (by decide) (fun q13 => ?_) (fun q13 => ?_)
                            · replace hM := zx_f q13 hM
                              refine lv_iconst (v := 0) hx hb dL_holds_1074 (by decide) ?_
                              rw [hQ]
                              refine W.widen (k := 4014) (n := 24084) (by omega) (by omega) ?_
                              exact W.zret hx hb hr (by rfl) (fun t ht hW => ⟨⟨0, T11, rfl, (Option.some.inj hM).symm, by show va_P D vwCl _ t.heap; rw [ht]; exact hP⟩, hS.F ht⟩) hS.2.2 dL_holds_1075
                            · replace hM := zx_t q13 hM
                              refine lv_iconst (v := 1) hx hb dL_holds_1070 (by decide) ?_
                              refine lv_goto (tgt := 1075) hx hb dL_holds_1071 (by decide) ?_
                              rw [hQ]
                              refine W.widen (k := 4014) (n := 24084) (by omega) (by omega) ?_
                              exact W.zret hx hb hr (by rfl) (fun t ht hW => ⟨⟨1, T11, rfl, (Option.some.inj hM).symm, by show va_P D vwCl _ t.heap; rw [ht]; exact hP⟩, hS.F ht⟩) hS.2.2 dL_holds_1075
                    have j1004 : ∀ (v2 : Int32) (v7 : Int32) (v8 : Int32) (v9 : Int32) (v10 : Int32) (v11 : Int32) (v12 : Int32) (v16 : Int32) (v17 : Int32) (S_ : zx_B) (kc : Nat) (H : Heap) (lc : List Loc) (ls : Array Slot), kc + (3) ≤ 4014 → va_P D vwCl (xW2 cI cT h hh aa S_) H → va_D A (xW2 cI cT h hh aa S_) → va_S A s.heap H lc → lv_has ls 19 [(0, .ref h), (2, .int v2), (7, .int v7), (8, .int v8), (9, .int v9), (10, .int v10), (11, .int v11), (12, .int v12), (16, .int v16), (17, .int v17)] → f_L_holds_j1004 N v2 v7 v8 v9 v10 v11 v12 v16 v17 S_ = some R → W p l e (headSpec zsL_holds rmL_holds).room s m ([.ref h, .int p1] : List Value).toArray below meth c H lc kc (6 * kc) Q9 (F0 m 1004 ls []) := by
                      intro v2 v7 v8 v9 v10 v11 v12 v16 v17 S_ kc H lc ls hkc hP hD hS hl hM
                      unfold f_L_holds_j1004 at hM
                      have j1021 : ∀ (v2 : Int32) (v8 : Int32) (v9 : Int32) (v10 : Int32) (v11 : Int32) (v12 : Int32) (v16 : Int32) (t0 : Int32) (S_ : zx_B) (kc : Nat) (H : Heap) (lc : List Loc) (ls : Array Slot), kc + (3) ≤ 4014 → va_P D vwCl (xW2 cI cT h hh aa S_) H → va_D A (xW2 cI cT h hh aa S_) → va_S A s.heap H lc → lv_has ls 19 [(0, .ref h), (2, .int v2), (8, .int v8), (9, .int v9), (10, .int v10), (11, .int v11), (12, .int v12), (16, .int v16)] → f_L_holds_j1021 N v2 v8 v9 v10 v11 v12 v16 t0 S_ = some R → W p l e (headSpec zsL_holds rmL_holds).room s m ([.ref h, .int p1] : List Value).toArray below meth c H lc kc (6 * kc) Q9 (F0 m 1021 ls [.int t0]) := by
                        intro v2 v8 v9 v10 v11 v12 v16 t0 S_ kc H lc ls hkc hP hD hS hl hM
                        unfold f_L_holds_j1021 at hM
                        refine lv_istore (lv' := [(7, .int t0), (0, .ref h), (2, .int v2), (8, .int v8), (9, .int v9), (10, .int v10), (11, .int v11), (12, .int v12), (16, .int v16)]) hx hb dL_holds_1021 hl (by decide) rfl (fun ls hl => ?_)
                        exact j1023 v2 t0 v8 v9 v10 v11 v12 v16 S_ kc _ _ _ (by omega) hP hD hS (lv_sub hl [1, 2, 0, 3, 4, 5, 6, 7, 8] rfl) hM
                      have j1020 : ∀ (v2 : Int32) (v8 : Int32) (v9 : Int32) (v10 : Int32) (v11 : Int32) (v12 : Int32) (v16 : Int32) (S_ : zx_B) (kc : Nat) (H : Heap) (lc : List Loc) (ls : Array Slot), kc + (3) ≤ 4014 → va_P D vwCl (xW2 cI cT h hh aa S_) H → va_D A (xW2 cI cT h hh aa S_) → va_S A s.heap H lc → lv_has ls 19 [(0, .ref h), (2, .int v2), (8, .int v8), (9, .int v9), (10, .int v10), (11, .int v11), (12, .int v12), (16, .int v16)] → f_L_holds_j1020 N v2 v8 v9 v10 v11 v12 v16 S_ = some R → W p l e (headSpec zsL_holds rmL_holds).room s m ([.ref h, .int p1] : List Value).toArray below meth c H lc kc (6 * kc) Q9 (F0 m 1020 ls []) := by
                        intro v2 v8 v9 v10 v11 v12 v16 S_ kc H lc ls hkc hP hD hS hl hM
                        unfold f_L_holds_j1020 at hM
                        refine lv_iconst (v := 0) hx hb dL_holds_1020 (by decide) ?_
                        exact j1021 v2 v8 v9 v10 v11 v12 v16 0 S_ kc _ _ _ (by omega) hP hD hS (lv_sub hl [0, 1, 2, 3, 4, 5, 6, 7] rfl) hM
                      refine lv_iload hx hb dL_holds_1004 (lv_at hl 2 rfl) ?_
                      refine lv_if_eq (tgt := 1020) hx hb dL_holds_1006 (by decide) (fun q14 => ?_) (fun q14 => ?_)
                      · replace hM := zx_t q14 hM
                        exact j1020 v2 v8 v9 v10 v11 v12 v16 S_ kc _ _ _ (by omega) hP hD hS (lv_sub hl [0, 1, 3, 4, 5, 6, 7, 8] rfl) hM
                      · replace hM := zx_f q14 hM
                        refine lv_iload hx hb dL_holds_1009 (lv_at hl 9 rfl) ?_
                        refine lv_ldc (v := (-100001)) hx hb hown (hts _ zw_21_18) dL_holds_1011 ?_
                        refine lv_icmp_ne (tgt := 1020) hx hb dL_holds_1013 (by decide) (fun q15 => ?_) (fun q15 => ?_)
                        · replace hM := zx_f q15 hM
                          exact j1020 v2 v8 v9 v10 v11 v12 v16 S_ kc _ _ _ (by omega) hP hD hS (lv_sub hl [0, 1, 3, 4, 5, 6, 7, 8] rfl) hM
                        · replace hM := zx_t q15 hM
                          refine lv_iconst (v := 1) hx hb dL_holds_1016 (by decide) ?_
                          refine lv_goto (tgt := 1021) hx hb dL_holds_1017 (by decide) ?_
                          exact j1021 v2 v8 v9 v10 v11 v12 v16 1 S_ kc _ _ _ (by omega) hP hD hS (lv_sub hl [0, 1, 3, 4, 5, 6, 7, 8] rfl) hM
                    refine lv_istore (lv' := [(7, .int t0), (0, .ref h), (2, .int v2), (3, .int v3), (8, .int v8), (9, .int v9), (10, .int v10), (11, .int v11), (12, .int v12)]) hx hb dL_holds_844 hl (by decide) rfl (fun ls hl => ?_)
                    refine lv_aload_n hx hb dL_holds_846 rfl (lv_at hl 1 rfl) ?_
                    refine lv_iconst (v := 1) hx hb dL_holds_847 (by decide) ?_
                    refine lv_iconst (v := 3) hx hb dL_holds_848 (by decide) ?_
                    refine lv_iconst (v := 0) hx hb dL_holds_849 (by decide) ?_
                    refine lv_iconst (v := 0) hx hb dL_holds_850 (by decide) ?_
                    obtain ⟨x16, T17, hz18, hM⟩ := zx_b2E hM
                    have hF := zx_fW hD hS hA
                    refine va_calli (va_runS (As := [.ref h, .int 1, .int 3, .int 0, .int 0]) (rest := []) ⟨hx, hb, hml, hown, hts⟩ (c_L_call l hlt D cI cZ cT h hh aa S_ _ N 1 3 0 0 hz18) (va_cwS 5 hts (zg_S zw_4_2 zw_4_3 zw_3_14 zw_4_4) rfl rfl rfl zyL_call ⟨Nat.le_of_ble_eq_true rfl, Nat.le_of_ble_eq_true rfl⟩) ⟨bY_blind, bY_pre hP hK hD hN hXX hNc hS hF⟩ rfl rfl hl.1 rfl (lv_room (Nat.le_of_ble_eq_true rfl)) dL_holds_851 ⟨by show kc + 1 ≤ 4014; omega, by show 6 * kc + 6 ≤ 24084; omega⟩) hS (fun q _ h => hF q h) (fun q h => hF q h) (fun r u t H1 lc ht hvm hw hB hz1 hk1 hS => ?_)
                    obtain ⟨hw1, hw2⟩ := Prod.mk.inj hw; subst hw1; subst hw2
                    rw [ht] at hB
                    replace hP := hB
                    replace hD := zx2_Da T17 hD
                    refine W.widen (k := (kc + 1)) (n := 6 * (kc + 1)) (by omega) (by omega) ?_
                    refine lv_istore (lv' := [(16, .int x16), (7, .int t0), (0, .ref h), (2, .int v2), (3, .int v3), (8, .int v8), (9, .int v9), (10, .int v10), (11, .int v11), (12, .int v12)]) hx hb dL_holds_854 hl (by decide) rfl (fun ls hl => ?_)
                    refine lv_aload_n hx hb dL_holds_856 rfl (lv_at hl 2 rfl) ?_
                    refine lv_iload hx hb dL_holds_857 (lv_at hl 5 rfl) ?_
                    refine lv_iload hx hb dL_holds_859 (lv_at hl 6 rfl) ?_
                    refine lv_iload hx hb dL_holds_861 (lv_at hl 7 rfl) ?_
                    refine lv_iload hx hb dL_holds_863 (lv_at hl 8 rfl) ?_
                    obtain ⟨x19, T20, hz21, hM⟩ := zx_b2E hM
                    have hF := zx_fW hD hS hA
                    refine va_calli (vx_runSW (As := [.ref h, .int v8, .int v9, .int v10, .int v11]) (rest := []) ⟨hx, hb, hml, hown, hts⟩ (c_L_tryIfAdded l hlt D cI cZ cT h hh aa T17 _ N v8 v9 v10 v11 hz21) (vx_cwSW 5 hts (zg_S zw_19_0 zw_19_1 zw_3_14 zw_19_2) rfl rfl rfl zyL_tryIfAdded ⟨Nat.le_of_ble_eq_true rfl, Nat.le_of_ble_eq_true rfl⟩) ⟨bY_blind, bY_pre hP hK hD hN hXX hNc hS hF⟩ rfl rfl hl.1 rfl (lv_room (Nat.le_of_ble_eq_true rfl)) dL_holds_865 ⟨by show (kc + 1) + 1 ≤ 4014; omega, by show 6 * (kc + 1) + 6 ≤ 24084; omega⟩) hS (fun q _ h => hF q h) (fun q h => hF q h) (fun r u t H1 lc ht hvm hw hB hz1 hk1 hS => ?_)
                    obtain ⟨hw1, hw2⟩ := Prod.mk.inj hw; subst hw1; subst hw2
                    rw [ht] at hB
                    replace hP := hB
                    replace hD := zx2_Da T20 hD
                    refine W.widen (k := (kc + 2)) (n := 6 * (kc + 2)) (by omega) (by omega) ?_
                    refine lv_istore (lv' := [(17, .int x19), (16, .int x16), (7, .int t0), (0, .ref h), (2, .int v2), (3, .int v3), (8, .int v8), (9, .int v9), (10, .int v10), (11, .int v11), (12, .int v12)]) hx hb dL_holds_868 hl (by decide) rfl (fun ls hl => ?_)
                    refine lv_iload_n hx hb dL_holds_870 rfl (lv_at hl 5 rfl) ?_
                    refine lv_bipush (v := 24) hx hb dL_holds_871 (by decide) ?_
                    refine lv_icmp_ge (tgt := 1004) hx hb dL_holds_873 (by decide) (fun q22 => ?_) (fun q22 => ?_)
                    · replace hM := zx_t q22 hM
                      exact j1004 v2 t0 v8 v9 v10 v11 v12 x16 x19 T20 (kc + 2) _ _ _ (by omega) hP hD hS (lv_sub hl [3, 4, 2, 6, 7, 8, 9, 10, 1, 0] rfl) hM
                    · replace hM := zx_f q22 hM
                      refine lv_iload hx hb dL_holds_876 (lv_at hl 2 rfl) ?_
                      refine lv_if_eq (tgt := 1004) hx hb dL_holds_878 (by decide) (fun q23 => ?_) (fun q23 => ?_)
                      · replace hM := zx_t q23 hM
                        exact j1004 v2 t0 v8 v9 v10 v11 v12 x16 x19 T20 (kc + 2) _ _ _ (by omega) hP hD hS (lv_sub hl [3, 4, 2, 6, 7, 8, 9, 10, 1, 0] rfl) hM
                      · replace hM := zx_f q23 hM
                        have j999 : ∀ (v2 : Int32) (v8 : Int32) (v9 : Int32) (v10 : Int32) (v11 : Int32) (v12 : Int32) (v16 : Int32) (t0 : Int32) (S_ : zx_B) (kc : Nat) (H : Heap) (lc : List Loc) (ls : Array Slot), kc + (3) ≤ 4014 → va_P D vwCl (xW2 cI cT h hh aa S_) H → va_D A (xW2 cI cT h hh aa S_) → va_S A s.heap H lc → lv_has ls 19 [(0, .ref h), (2, .int v2), (8, .int v8), (9, .int v9), (10, .int v10), (11, .int v11), (12, .int v12), (16, .int v16)] → f_L_holds_j999 N v2 v8 v9 v10 v11 v12 v16 t0 S_ = some R → W p l e (headSpec zsL_holds rmL_holds).room s m ([.ref h, .int p1] : List Value).toArray below meth c H lc kc (6 * kc) Q9 (F0 m 999 ls [.int t0]) := by
                          intro v2 v8 v9 v10 v11 v12 v16 t0 S_ kc H lc ls hkc hP hD hS hl hM
                          unfold f_L_holds_j999 at hM
                          refine lv_istore (lv' := [(7, .int t0), (0, .ref h), (2, .int v2), (8, .int v8), (9, .int v9), (10, .int v10), (11, .int v11), (12, .int v12), (16, .int v16)]) hx hb dL_holds_999 hl (by decide) rfl (fun ls hl => ?_)
                          refine lv_goto (tgt := 1023) hx hb dL_holds_1001 (by decide) ?_
                          exact j1023 v2 t0 v8 v9 v10 v11 v12 v16 S_ kc _ _ _ (by omega) hP hD hS (lv_sub hl [1, 2, 0, 3, 4, 5, 6, 7, 8] rfl) hM
                        have j998 : ∀ (v2 : Int32) (v8 : Int32) (v9 : Int32) (v10 : Int32) (v11 : Int32) (v12 : Int32) (v16 : Int32) (S_ : zx_B) (kc : Nat) (H : Heap) (lc : List Loc) (ls : Array Slot), kc + (3) ≤ 4014 → va_P D vwCl (xW2 cI cT h hh aa S_) H → va_D A (xW2 cI cT h hh aa S_) → va_S A s.heap H lc → lv_has ls 19 [(0, .ref h), (2, .int v2), (8, .int v8), (9, .int v9), (10, .int v10), (11, .int v11), (12, .int v12), (16, .int v16)] → f_L_holds_j998 N v2 v8 v9 v10 v11 v12 v16 S_ = some R → W p l e (headSpec zsL_holds rmL_holds).room s m ([.ref h, .int p1] : List Value).toArray below meth c H lc kc (6 * kc) Q9 (F0 m 998 ls []) := by
                          intro v2 v8 v9 v10 v11 v12 v16 S_ kc H lc ls hkc hP hD hS hl hM
                          unfold f_L_holds_j998 at hM
                          refine lv_iconst (v := 0) hx hb dL_holds_998 (by decide) ?_
                          exact j999 v2 v8 v9 v10 v11 v12 v16 0 S_ kc _ _ _ (by omega) hP hD hS (lv_sub hl [0, 1, 2, 3, 4, 5, 6, 7] rfl) hM
                        refine lv_aload_n hx hb dL_holds_881 rfl (lv_at hl 3 rfl) ?_
                        refine lv_iload hx hb dL_holds_882 (lv_at hl 6 rfl) ?_
                        refine lv_iload hx hb dL_holds_884 (lv_at hl 7 rfl) ?_
                        refine lv_iload hx hb dL_holds_886 (lv_at hl 8 rfl) ?_
                        refine lv_iload hx hb dL_holds_888 (lv_at hl 9 rfl) ?_
                        obtain ⟨x24, T25, hz26, hM⟩ := zx_b2E hM
                        have hF := zx_fW hD hS hA
                        refine va_calli (vx_runSW (As := [.ref h, .int v8, .int v9, .int v10, .int v11]) (rest := []) ⟨hx, hb, hml, hown, hts⟩ (c_L_tryAdd l hlt D cI cZ cT h hh aa T20 _ N v8 v9 v10 v11 hz26) (vx_cwSW 5 hts (zg_S zw_17_13 zw_17_14 zw_3_14 zw_17_15) rfl rfl rfl zyL_tryAdd ⟨Nat.le_of_ble_eq_true rfl, Nat.le_of_ble_eq_true rfl⟩) ⟨bY_blind, bY_pre hP hK hD hN hXX hNc hS hF⟩ rfl rfl hl.1 rfl (lv_room (Nat.le_of_ble_eq_true rfl)) dL_holds_890 ⟨by show (kc + 2) + 1 ≤ 4014; omega, by show 6 * (kc + 2) + 6 ≤ 24084; omega⟩) hS (fun q _ h => hF q h) (fun q h => hF q h) (fun r u t H1 lc ht hvm hw hB hz1 hk1 hS => ?_)
                        obtain ⟨hw1, hw2⟩ := Prod.mk.inj hw; subst hw1; subst hw2
                        rw [ht] at hB
                        replace hP := hB
                        replace hD := zx2_Da T25 hD
                        refine W.widen (k := (kc + 3)) (n := 6 * (kc + 3)) (by omega) (by omega) ?_
                        refine lv_istore (lv' := [(18, .int x24), (17, .int x19), (16, .int x16), (7, .int t0), (0, .ref h), (2, .int v2), (3, .int v3), (8, .int v8), (9, .int v9), (10, .int v10), (11, .int v11), (12, .int v12)]) hx hb dL_holds_893 hl (by decide) rfl (fun ls hl => ?_)
                        refine lv_iload hx hb dL_holds_895 (lv_at hl 0 rfl) ?_
                        refine lv_if_lt (tgt := 998) hx hb dL_holds_897 (by decide) (fun q27 => ?_) (fun q27 => ?_)
                        · replace hM := zx_t q27 hM
                          exact j998 v2 v8 v9 v10 v11 v12 x16 T25 (kc + 3) _ _ _ (by omega) hP hD hS (lv_sub hl [4, 5, 7, 8, 9, 10, 11, 2] rfl) hM
                        · replace hM := zx_f q27 hM
                          refine lv_aload_n hx hb dL_holds_900 rfl (lv_at hl 4 rfl) ?_
                          refine lv_iconst (v := 2) hx hb dL_holds_901 (by decide) ?_
                          refine lv_iload hx hb dL_holds_902 (lv_at hl 0 rfl) ?_
                          refine lv_iconst (v := 2) hx hb dL_holds_904 (by decide) ?_
                          refine lv_iconst (v := 0) hx hb dL_holds_905 (by decide) ?_
                          obtain ⟨x28, T29, hz30, hM⟩ := zx_b2E hM
                          have hF := zx_fW hD hS hA
                          refine va_calli (va_runS (As := [.ref h, .int 2, .int x24, .int 2, .int 0]) (rest := []) ⟨hx, hb, hml, hown, hts⟩ (c_L_call l hlt D cI cZ cT h hh aa T25 _ N 2 x24 2 0 hz30) (va_cwS 5 hts (zg_S zw_4_2 zw_4_3 zw_3_14 zw_4_4) rfl rfl rfl zyL_call ⟨Nat.le_of_ble_eq_true rfl, Nat.le_of_ble_eq_true rfl⟩) ⟨bY_blind, bY_pre hP hK hD hN hXX hNc hS hF⟩ rfl rfl hl.1 rfl (lv_room (Nat.le_of_ble_eq_true rfl)) dL_holds_906 ⟨by show (kc + 3) + 1 ≤ 4014; omega, by show 6 * (kc + 3) + 6 ≤ 24084; omega⟩) hS (fun q _ h => hF q h) (fun q h => hF q h) (fun r u t H1 lc ht hvm hw hB hz1 hk1 hS => ?_)
                          obtain ⟨hw1, hw2⟩ := Prod.mk.inj hw; subst hw1; subst hw2
                          rw [ht] at hB
                          replace hP := hB
                          replace hD := zx2_Da T29 hD
                          refine W.widen (k := (kc + 4)) (n := 6 * (kc + 4)) (by omega) (by omega) ?_
                          refine lv_iload hx hb dL_holds_909 (lv_at hl 9 rfl) ?_
                          refine lv_icmp_ne (tgt := 998) hx hb dL_holds_911 (by decide) (fun q31 => ?_) (fun q31 => ?_)
                          · replace hM := zx_f q31 hM
                            exact j998 v2 v8 v9 v10 v11 v12 x16 T29 (kc + 4) _ _ _ (by omega) hP hD hS (lv_sub hl [4, 5, 7, 8, 9, 10, 11, 2] rfl) hM
                          · replace hM := zx_t q31 hM
                            refine lv_aload_n hx hb dL_holds_914 rfl (lv_at hl 4 rfl) ?_
                            refine lv_iconst (v := 1) hx hb dL_holds_915 (by decide) ?_
                            refine lv_iconst (v := 3) hx hb dL_holds_916 (by decide) ?_
                            refine lv_iconst (v := 0) hx hb dL_holds_917 (by decide) ?_
                            refine lv_iconst (v := 0) hx hb dL_holds_918 (by decide) ?_
                            obtain ⟨x32, T33, hz34, hM⟩ := zx_b2E hM
                            have hF := zx_fW hD hS hA
                            refine va_calli (va_runS (As := [.ref h, .int 1, .int 3, .int 0, .int 0]) (rest := []) ⟨hx, hb, hml, hown, hts⟩ (c_L_call l hlt D cI cZ cT h hh aa T29 _ N 1 3 0 0 hz34) (va_cwS 5 hts (zg_S zw_4_2 zw_4_3 zw_3_14 zw_4_4) rfl rfl rfl zyL_call ⟨Nat.le_of_ble_eq_true rfl, Nat.le_of_ble_eq_true rfl⟩) ⟨bY_blind, bY_pre hP hK hD hN hXX hNc hS hF⟩ rfl rfl hl.1 rfl (lv_room (Nat.le_of_ble_eq_true rfl)) dL_holds_919 ⟨by show (kc + 4) + 1 ≤ 4014; omega, by show 6 * (kc + 4) + 6 ≤ 24084; omega⟩) hS (fun q _ h => hF q h) (fun q h => hF q h) (fun r u t H1 lc ht hvm hw hB hz1 hk1 hS => ?_)
                            obtain ⟨hw1, hw2⟩ := Prod.mk.inj hw; subst hw1; subst hw2
                            rw [ht] at hB
                            replace hP := hB
                            replace hD := zx2_Da T33 hD
                            refine W.widen (k := (kc + 5)) (n := 6 * (kc + 5)) (by omega) (by omega) ?_
                            refine lv_iload hx hb dL_holds_922 (lv_at hl 2 rfl) ?_
                            refine lv_iload hx hb dL_holds_924 (lv_at hl 1 rfl) ?_
                            refine lv_iadd hx hb dL_holds_926 ?_
                            refine lv_icmp_ne (tgt := 998) hx hb dL_holds_927 (by decide) (fun q35 => ?_) (fun q35 => ?_)
                            · replace hM := zx_f q35 hM
                              exact j998 v2 v8 v9 v10 v11 v12 x16 T33 (kc + 5) _ _ _ (by omega) hP hD hS (lv_sub hl [4, 5, 7, 8, 9, 10, 11, 2] rfl) hM
                            · replace hM := zx_t q35 hM
                              refine lv_aload_n hx hb dL_holds_930 rfl (lv_at hl 4 rfl) ?_
                              refine lv_iconst (v := 1) hx hb dL_holds_931 (by decide) ?_
                              refine lv_iconst (v := 0) hx hb dL_holds_932 (by decide) ?_
                              refine lv_iconst (v := 0) hx hb dL_holds_933 (by decide) ?_
                              refine lv_iconst (v := 0) hx hb dL_holds_934 (by decide) ?_
                              obtain ⟨x36, T37, hz38, hM⟩ := zx_b2E hM
                              have hF := zx_fW hD hS hA
                              refine va_calli (va_runS (As := [.ref h, .int 1, .int 0, .int 0, .int 0]) (rest := []) ⟨hx, hb, hml, hown, hts⟩ (c_L_call l hlt D cI cZ cT h hh aa T33 _ N 1 0 0 0 hz38) (va_cwS 5 hts (zg_S zw_4_2 zw_4_3 zw_3_14 zw_4_4) rfl rfl rfl zyL_call ⟨Nat.le_of_ble_eq_true rfl, Nat.le_of_ble_eq_true rfl⟩) ⟨bY_blind, bY_pre hP hK hD hN hXX hNc hS hF⟩ rfl rfl hl.1 rfl (lv_room (Nat.le_of_ble_eq_true rfl)) dL_holds_935 ⟨by show (kc + 5) + 1 ≤ 4014; omega, by show 6 * (kc + 5) + 6 ≤ 24084; omega⟩) hS (fun q _ h => hF q h) (fun q h => hF q h) (fun r u t H1 lc ht hvm hw hB hz1 hk1 hS => ?_)
                              obtain ⟨hw1, hw2⟩ := Prod.mk.inj hw; subst hw1; subst hw2
                              rw [ht] at hB
                              replace hP := hB
                              replace hD := zx2_Da T37 hD
                              refine W.widen (k := (kc + 6)) (n := 6 * (kc + 6)) (by omega) (by omega) ?_
                              refine lv_iload_n hx hb dL_holds_938 rfl (lv_at hl 6 rfl) ?_
                              refine lv_iconst (v := 1) hx hb dL_holds_939 (by decide) ?_
                              refine lv_iadd hx hb dL_holds_940 ?_
                              refine lv_icmp_ne (tgt := 998) hx hb dL_holds_941 (by decide) (fun q39 => ?_) (fun q39 => ?_)
                              · replace hM := zx_f q39 hM
                                exact j998 v2 v8 v9 v10 v11 v12 x16 T37 (kc + 6) _ _ _ (by omega) hP hD hS (lv_sub hl [4, 5, 7, 8, 9, 10, 11, 2] rfl) hM
                              · replace hM := zx_t q39 hM
                                refine lv_aload_n hx hb dL_holds_944 rfl (lv_at hl 4 rfl) ?_
                                refine lv_bipush (v := 6) hx hb dL_holds_945 (by decide) ?_
                                refine lv_iload hx hb dL_holds_947 (lv_at hl 0 rfl) ?_
                                refine lv_iconst (v := 0) hx hb dL_holds_949 (by decide) ?_
                                refine lv_iconst (v := 0) hx hb dL_holds_950 (by decide) ?_
                                obtain ⟨x40, T41, hz42, hM⟩ := zx_b2E hM
                                have hF := zx_fW hD hS hA
                                refine va_calli (va_runS (As := [.ref h, .int 6, .int x24, .int 0, .int 0]) (rest := []) ⟨hx, hb, hml, hown, hts⟩ (c_L_call l hlt D cI cZ cT h hh aa T37 _ N 6 x24 0 0 hz42) (va_cwS 5 hts (zg_S zw_4_2 zw_4_3 zw_3_14 zw_4_4) rfl rfl rfl zyL_call ⟨Nat.le_of_ble_eq_true rfl, Nat.le_of_ble_eq_true rfl⟩) ⟨bY_blind, bY_pre hP hK hD hN hXX hNc hS hF⟩ rfl rfl hl.1 rfl (lv_room (Nat.le_of_ble_eq_true rfl)) dL_holds_951 ⟨by show (kc + 6) + 1 ≤ 4014; omega, by show 6 * (kc + 6) + 6 ≤ 24084; omega⟩) hS (fun q _ h => hF q h) (fun q h => hF q h) (fun r u t H1 lc ht hvm hw hB hz1 hk1 hS => ?_)
                                obtain ⟨hw1, hw2⟩ := Prod.mk.inj hw; subst hw1; subst hw2
                                rw [ht] at hB
                                replace hP := hB
                                replace hD := zx2_Da T41 hD
                                refine W.widen (k := (kc + 7)) (n := 6 * (kc + 7)) (by omega) (by omega) ?_
                                refine lv_iconst (v := 1) hx hb dL_holds_954 (by decide) ?_
                                refine lv_icmp_lt (tgt := 998) hx hb dL_holds_955 (by decide) (fun q43 => ?_) (fun q43 => ?_)
                                · replace hM := zx_t q43 hM
                                  exact j998 v2 v8 v9 v10 v11 v12 x16 T41 (kc + 7) _ _ _ (by omega) hP hD hS (lv_sub hl [4, 5, 7, 8, 9, 10, 11, 2] rfl) hM
                                · replace hM := zx_f q43 hM
                                  refine lv_aload_n hx hb dL_holds_958 rfl (lv_at hl 4 rfl) ?_
                                  refine lv_iconst (v := 1) hx hb dL_holds_959 (by decide) ?_
                                  refine lv_iconst (v := 0) hx hb dL_holds_960 (by decide) ?_
                                  refine lv_iconst (v := 0) hx hb dL_holds_961 (by decide) ?_
                                  refine lv_iconst (v := 0) hx hb dL_holds_962 (by decide) ?_
                                  obtain ⟨x44, T45, hz46, hM⟩ := zx_b2E hM
                                  have hF := zx_fW hD hS hA
                                  refine va_calli (va_runS (As := [.ref h, .int 1, .int 0, .int 0, .int 0]) (rest := []) ⟨hx, hb, hml, hown, hts⟩ (c_L_call l hlt D cI cZ cT h hh aa T41 _ N 1 0 0 0 hz46) (va_cwS 5 hts (zg_S zw_4_2 zw_4_3 zw_3_14 zw_4_4) rfl rfl rfl zyL_call ⟨Nat.le_of_ble_eq_true rfl, Nat.le_of_ble_eq_true rfl⟩) ⟨bY_blind, bY_pre hP hK hD hN hXX hNc hS hF⟩ rfl rfl hl.1 rfl (lv_room (Nat.le_of_ble_eq_true rfl)) dL_holds_963 ⟨by show (kc + 7) + 1 ≤ 4014; omega, by show 6 * (kc + 7) + 6 ≤ 24084; omega⟩) hS (fun q _ h => hF q h) (fun q h => hF q h) (fun r u t H1 lc ht hvm hw hB hz1 hk1 hS => ?_)
                                  obtain ⟨hw1, hw2⟩ := Prod.mk.inj hw; subst hw1; subst hw2
                                  rw [ht] at hB
                                  replace hP := hB
                                  replace hD := zx2_Da T45 hD
                                  refine W.widen (k := (kc + 8)) (n := 6 * (kc + 8)) (by omega) (by omega) ?_
                                  refine lv_iload_n hx hb dL_holds_966 rfl (lv_at hl 6 rfl) ?_
                                  refine lv_icmp_ne (tgt := 998) hx hb dL_holds_967 (by decide) (fun q47 => ?_) (fun q47 => ?_)
                                  · replace hM := zx_f q47 hM
                                    exact j998 v2 v8 v9 v10 v11 v12 x16 T45 (kc + 8) _ _ _ (by omega) hP hD hS (lv_sub hl [4, 5, 7, 8, 9, 10, 11, 2] rfl) hM
                                  · replace hM := zx_t q47 hM
                                    refine lv_aload_n hx hb dL_holds_970 rfl (lv_at hl 4 rfl) ?_
                                    refine lv_bipush (v := 8) hx hb dL_holds_971 (by decide) ?_
                                    refine lv_iconst (v := 0) hx hb dL_holds_973 (by decide) ?_
                                    refine lv_iconst (v := 0) hx hb dL_holds_974 (by decide) ?_
                                    refine lv_iconst (v := 0) hx hb dL_holds_975 (by decide) ?_
                                    obtain ⟨x48, T49, hz50, hM⟩ := zx_b2E hM
                                    have hF := zx_fW hD hS hA
                                    refine va_calli (va_runS (As := [.ref h, .int 8, .int 0, .int 0, .int 0]) (rest := []) ⟨hx, hb, hml, hown, hts⟩ (c_L_call l hlt D cI cZ cT h hh aa T45 _ N 8 0 0 0 hz50) (va_cwS 5 hts (zg_S zw_4_2 zw_4_3 zw_3_14 zw_4_4) rfl rfl rfl zyL_call ⟨Nat.le_of_ble_eq_true rfl, Nat.le_of_ble_eq_true rfl⟩) ⟨bY_blind, bY_pre hP hK hD hN hXX hNc hS hF⟩ rfl rfl hl.1 rfl (lv_room (Nat.le_of_ble_eq_true rfl)) dL_holds_976 ⟨by show (kc + 8) + 1 ≤ 4014; omega, by show 6 * (kc + 8) + 6 ≤ 24084; omega⟩) hS (fun q _ h => hF q h) (fun q h => hF q h) (fun r u t H1 lc ht hvm hw hB hz1 hk1 hS => ?_)
                                    obtain ⟨hw1, hw2⟩ := Prod.mk.inj hw; subst hw1; subst hw2
                                    rw [ht] at hB
                                    replace hP := hB
                                    replace hD := zx2_Da T49 hD
                                    refine W.widen (k := (kc + 9)) (n := 6 * (kc + 9)) (by omega) (by omega) ?_
                                    refine lv_if_lt (tgt := 998) hx hb dL_holds_979 (by decide) (fun q51 => ?_) (fun q51 => ?_)
                                    · replace hM := zx_t q51 hM
                                      exact j998 v2 v8 v9 v10 v11 v12 x16 T49 (kc + 9) _ _ _ (by omega) hP hD hS (lv_sub hl [4, 5, 7, 8, 9, 10, 11, 2] rfl) hM
                                    · replace hM := zx_f q51 hM
                                      refine lv_aload_n hx hb dL_holds_982 rfl (lv_at hl 4 rfl) ?_
                                      refine lv_bipush (v := 8) hx hb dL_holds_983 (by decide) ?_
                                      refine lv_iconst (v := 0) hx hb dL_holds_985 (by decide) ?_
                                      refine lv_iconst (v := 0) hx hb dL_holds_986 (by decide) ?_
                                      refine lv_iconst (v := 0) hx hb dL_holds_987 (by decide) ?_
                                      obtain ⟨x52, T53, hz54, hM⟩ := zx_b2E hM
                                      have hF := zx_fW hD hS hA
                                      refine va_calli (va_runS (As := [.ref h, .int 8, .int 0, .int 0, .int 0]) (rest := []) ⟨hx, hb, hml, hown, hts⟩ (c_L_call l hlt D cI cZ cT h hh aa T49 _ N 8 0 0 0 hz54) (va_cwS 5 hts (zg_S zw_4_2 zw_4_3 zw_3_14 zw_4_4) rfl rfl rfl zyL_call ⟨Nat.le_of_ble_eq_true rfl, Nat.le_of_ble_eq_true rfl⟩) ⟨bY_blind, bY_pre hP hK hD hN hXX hNc hS hF⟩ rfl rfl hl.1 rfl (lv_room (Nat.le_of_ble_eq_true rfl)) dL_holds_988 ⟨by show (kc + 9) + 1 ≤ 4014; omega, by show 6 * (kc + 9) + 6 ≤ 24084; omega⟩) hS (fun q _ h => hF q h) (fun q h => hF q h) (fun r u t H1 lc ht hvm hw hB hz1 hk1 hS => ?_)
                                      obtain ⟨hw1, hw2⟩ := Prod.mk.inj hw; subst hw1; subst hw2
                                      rw [ht] at hB
                                      replace hP := hB
                                      replace hD := zx2_Da T53 hD
                                      refine W.widen (k := (kc + 10)) (n := 6 * (kc + 10)) (by omega) (by omega) ?_
                                      refine lv_if_lt (tgt := 998) hx hb dL_holds_991 (by decide) (fun q55 => ?_) (fun q55 => ?_)
                                      · replace hM := zx_t q55 hM
                                        exact j998 v2 v8 v9 v10 v11 v12 x16 T53 (kc + 10) _ _ _ (by omega) hP hD hS (lv_sub hl [4, 5, 7, 8, 9, 10, 11, 2] rfl) hM
                                      · replace hM := zx_f q55 hM
                                        refine lv_iconst (v := 1) hx hb dL_holds_994 (by decide) ?_
                                        refine lv_goto (tgt := 999) hx hb dL_holds_995 (by decide) ?_
                                        exact j999 v2 v8 v9 v10 v11 v12 x16 1 T53 (kc + 10) _ _ _ (by omega) hP hD hS (lv_sub hl [4, 5, 7, 8, 9, 10, 11, 2] rfl) hM
                  have j843 : ∀ (v2 : Int32) (v3 : Int32) (v8 : Int32) (v9 : Int32) (v10 : Int32) (v11 : Int32) (v12 : Int32) (S_ : zx_B) (kc : Nat) (H : Heap) (lc : List Loc) (ls : Array Slot), kc + (13) ≤ 4014 → va_P D vwCl (xW2 cI cT h hh aa S_) H → va_D A (xW2 cI cT h hh aa S_) → va_S A s.heap H lc → lv_has ls 19 [(0, .ref h), (2, .int v2), (3, .int v3), (8, .int v8), (9, .int v9), (10, .int v10), (11, .int v11), (12, .int v12)] → f_L_holds_j843 N v2 v3 v8 v9 v10 v11 v12 S_ = some R → W p l e (headSpec zsL_holds rmL_holds).room s m ([.ref h, .int p1] : List Value).toArray below meth c H lc kc (6 * kc) Q9 (F0 m 843 ls []) := by
                    intro v2 v3 v8 v9 v10 v11 v12 S_ kc H lc ls hkc hP hD hS hl hM
                    unfold f_L_holds_j843 at hM
                    refine lv_iconst (v := 0) hx hb dL_holds_843 (by decide) ?_
                    exact j844 v2 v3 v8 v9 v10 v11 v12 0 S_ kc _ _ _ (by omega) hP hD hS (lv_sub hl [0, 1, 2, 3, 4, 5, 6, 7] rfl) hM
                  refine lv_aload_n hx hb dL_holds_738 rfl (lv_at hl 0 rfl) ?_
                  refine lv_iload hx hb dL_holds_739 (lv_at hl 5 rfl) ?_
                  refine lv_iload hx hb dL_holds_741 (lv_at hl 6 rfl) ?_
                  refine lv_iload hx hb dL_holds_743 (lv_at hl 7 rfl) ?_
                  refine lv_iload hx hb dL_holds_745 (lv_at hl 8 rfl) ?_
                  obtain ⟨x56, T57, hz58, hM⟩ := zx_b2E hM
                  have hF := zx_fW hD hS hA
                  refine va_calli (vx_runSW (As := [.ref h, .int v8, .int v9, .int v10, .int v11]) (rest := []) ⟨hx, hb, hml, hown, hts⟩ (c_L_tryLooks l hlt D cI cZ cT h hh aa S_ _ N v8 v9 v10 v11 hz58) (vx_cwSW 5 hts (zg_S zw_18_5 zw_18_6 zw_3_14 zw_18_7) rfl rfl rfl zyL_tryLooks ⟨Nat.le_of_ble_eq_true rfl, Nat.le_of_ble_eq_true rfl⟩) ⟨bY_blind, bY_pre hP hK hD hN hXX hNc hS hF⟩ rfl rfl hl.1 rfl (lv_room (Nat.le_of_ble_eq_true rfl)) dL_holds_747 ⟨by show kc + 1 ≤ 4014; omega, by show 6 * kc + 6 ≤ 24084; omega⟩) hS (fun q _ h => hF q h) (fun q h => hF q h) (fun r u t H1 lc ht hvm hw hB hz1 hk1 hS => ?_)
                  obtain ⟨hw1, hw2⟩ := Prod.mk.inj hw; subst hw1; subst hw2
                  rw [ht] at hB
                  replace hP := hB
                  replace hD := zx2_Da T57 hD
                  refine W.widen (k := (kc + 1)) (n := 6 * (kc + 1)) (by omega) (by omega) ?_
                  refine lv_istore (lv' := [(14, .int x56), (0, .ref h), (2, .int v2), (3, .int v3), (4, .int v4), (7, .int v7), (8, .int v8), (9, .int v9), (10, .int v10), (11, .int v11), (12, .int v12), (13, .int v13)]) hx hb dL_holds_750 hl (by decide) rfl (fun ls hl => ?_)
                  refine lv_aload_n hx hb dL_holds_752 rfl (lv_at hl 1 rfl) ?_
                  refine lv_iload hx hb dL_holds_753 (lv_at hl 6 rfl) ?_
                  refine lv_iload hx hb dL_holds_755 (lv_at hl 7 rfl) ?_
                  refine lv_iload hx hb dL_holds_757 (lv_at hl 8 rfl) ?_
                  refine lv_iload hx hb dL_holds_759 (lv_at hl 9 rfl) ?_
                  obtain ⟨x59, T60, hz61, hM⟩ := zx_b2E hM
                  have hF := zx_fW hD hS hA
                  refine va_calli (vx_runSW (As := [.ref h, .int v8, .int v9, .int v10, .int v11]) (rest := []) ⟨hx, hb, hml, hown, hts⟩ (c_L_tryChosen l hlt D cI cZ cT h hh aa T57 _ N v8 v9 v10 v11 hz61) (vx_cwSW 5 hts (zg_S zw_18_16 zw_18_17 zw_3_14 zw_18_18) rfl rfl rfl zyL_tryChosen ⟨Nat.le_of_ble_eq_true rfl, Nat.le_of_ble_eq_true rfl⟩) ⟨bY_blind, bY_pre hP hK hD hN hXX hNc hS hF⟩ rfl rfl hl.1 rfl (lv_room (Nat.le_of_ble_eq_true rfl)) dL_holds_761 ⟨by show (kc + 1) + 1 ≤ 4014; omega, by show 6 * (kc + 1) + 6 ≤ 24084; omega⟩) hS (fun q _ h => hF q h) (fun q h => hF q h) (fun r u t H1 lc ht hvm hw hB hz1 hk1 hS => ?_)
                  obtain ⟨hw1, hw2⟩ := Prod.mk.inj hw; subst hw1; subst hw2
                  rw [ht] at hB
                  replace hP := hB
                  replace hD := zx2_Da T60 hD
                  refine W.widen (k := (kc + 2)) (n := 6 * (kc + 2)) (by omega) (by omega) ?_
                  refine lv_istore (lv' := [(15, .int x59), (14, .int x56), (0, .ref h), (2, .int v2), (3, .int v3), (4, .int v4), (7, .int v7), (8, .int v8), (9, .int v9), (10, .int v10), (11, .int v11), (12, .int v12), (13, .int v13)]) hx hb dL_holds_764 hl (by decide) rfl (fun ls hl => ?_)
                  refine lv_iload hx hb dL_holds_766 (lv_at hl 6 rfl) ?_
                  refine lv_if_eq (tgt := 843) hx hb dL_holds_768 (by decide) (fun q62 => ?_) (fun q62 => ?_)
                  · replace hM := zx_t q62 hM
                    exact j843 v2 v3 v8 v9 v10 v11 v12 T60 (kc + 2) _ _ _ (by omega) hP hD hS (lv_sub hl [2, 3, 4, 7, 8, 9, 10, 11] rfl) hM
                  · replace hM := zx_f q62 hM
                    refine lv_iload hx hb dL_holds_771 (lv_at hl 1 rfl) ?_
                    refine lv_iconst (v := 1) hx hb dL_holds_773 (by decide) ?_
                    refine lv_icmp_lt (tgt := 843) hx hb dL_holds_774 (by decide) (fun q63 => ?_) (fun q63 => ?_)
                    · replace hM := zx_t q63 hM
                      exact j843 v2 v3 v8 v9 v10 v11 v12 T60 (kc + 2) _ _ _ (by omega) hP hD hS (lv_sub hl [2, 3, 4, 7, 8, 9, 10, 11] rfl) hM
                    · replace hM := zx_f q63 hM
                      refine lv_iload hx hb dL_holds_777 (lv_at hl 1 rfl) ?_
                      refine lv_iload_n hx hb dL_holds_779 rfl (lv_at hl 3 rfl) ?_
                      refine lv_icmp_gt (tgt := 843) hx hb dL_holds_780 (by decide) (fun q64 => ?_) (fun q64 => ?_)
                      · replace hM := zx_t q64 hM
                        exact j843 v2 v3 v8 v9 v10 v11 v12 T60 (kc + 2) _ _ _ (by omega) hP hD hS (lv_sub hl [2, 3, 4, 7, 8, 9, 10, 11] rfl) hM
                      · replace hM := zx_f q64 hM
                        have j795 : ∀ (v2 : Int32) (v3 : Int32) (v8 : Int32) (v9 : Int32) (v10 : Int32) (v11 : Int32) (v12 : Int32) (v15 : Int32) (S_ : zx_B) (kc : Nat) (H : Heap) (lc : List Loc) (ls : Array Slot), kc + (14) ≤ 4014 → va_P D vwCl (xW2 cI cT h hh aa S_) H → va_D A (xW2 cI cT h hh aa S_) → va_S A s.heap H lc → lv_has ls 19 [(0, .ref h), (2, .int v2), (3, .int v3), (8, .int v8), (9, .int v9), (10, .int v10), (11, .int v11), (12, .int v12), (15, .int v15)] → f_L_holds_j795 N v2 v3 v8 v9 v10 v11 v12 v15 S_ = some R → W p l e (headSpec zsL_holds rmL_holds).room s m ([.ref h, .int p1] : List Value).toArray below meth c H lc kc (6 * kc) Q9 (F0 m 795 ls []) := by
                          intro v2 v3 v8 v9 v10 v11 v12 v15 S_ kc H lc ls hkc hP hD hS hl hM
                          unfold f_L_holds_j795 at hM
                          refine lv_aload_n hx hb dL_holds_795 rfl (lv_at hl 0 rfl) ?_
                          refine lv_iconst (v := 3) hx hb dL_holds_796 (by decide) ?_
                          refine lv_iload hx hb dL_holds_797 (lv_at hl 8 rfl) ?_
                          refine lv_iconst (v := 0) hx hb dL_holds_799 (by decide) ?_
                          refine lv_iconst (v := 0) hx hb dL_holds_800 (by decide) ?_
                          obtain ⟨x65, T66, hz67, hM⟩ := zx_b2E hM
                          have hF := zx_fW hD hS hA
                          refine va_calli (va_runS (As := [.ref h, .int 3, .int v15, .int 0, .int 0]) (rest := []) ⟨hx, hb, hml, hown, hts⟩ (c_L_call l hlt D cI cZ cT h hh aa S_ _ N 3 v15 0 0 hz67) (va_cwS 5 hts (zg_S zw_4_2 zw_4_3 zw_3_14 zw_4_4) rfl rfl rfl zyL_call ⟨Nat.le_of_ble_eq_true rfl, Nat.le_of_ble_eq_true rfl⟩) ⟨bY_blind, bY_pre hP hK hD hN hXX hNc hS hF⟩ rfl rfl hl.1 rfl (lv_room (Nat.le_of_ble_eq_true rfl)) dL_holds_801 ⟨by show kc + 1 ≤ 4014; omega, by show 6 * kc + 6 ≤ 24084; omega⟩) hS (fun q _ h => hF q h) (fun q h => hF q h) (fun r u t H1 lc ht hvm hw hB hz1 hk1 hS => ?_)
                          obtain ⟨hw1, hw2⟩ := Prod.mk.inj hw; subst hw1; subst hw2
                          rw [ht] at hB
                          replace hP := hB
                          replace hD := zx2_Da T66 hD
                          refine W.widen (k := (kc + 1)) (n := 6 * (kc + 1)) (by omega) (by omega) ?_
                          refine lv_if_ne (tgt := 843) hx hb dL_holds_804 (by decide) (fun q68 => ?_) (fun q68 => ?_)
                          · replace hM := zx_f q68 hM
                            exact j843 v2 v3 v8 v9 v10 v11 v12 T66 (kc + 1) _ _ _ (by omega) hP hD hS (lv_sub hl [0, 1, 2, 3, 4, 5, 6, 7] rfl) hM
                          · replace hM := zx_t q68 hM
                            have j816 : ∀ (v2 : Int32) (v3 : Int32) (v8 : Int32) (v9 : Int32) (v10 : Int32) (v11 : Int32) (v12 : Int32) (t0 : Int32) (S_ : zx_B) (kc : Nat) (H : Heap) (lc : List Loc) (ls : Array Slot), kc + (13) ≤ 4014 → va_P D vwCl (xW2 cI cT h hh aa S_) H → va_D A (xW2 cI cT h hh aa S_) → va_S A s.heap H lc → lv_has ls 19 [(0, .ref h), (2, .int v2), (3, .int v3), (8, .int v8), (9, .int v9), (10, .int v10), (11, .int v11), (12, .int v12)] → f_L_holds_j816 N v2 v3 v8 v9 v10 v11 v12 t0 S_ = some R → W p l e (headSpec zsL_holds rmL_holds).room s m ([.ref h, .int p1] : List Value).toArray below meth c H lc kc (6 * kc) Q9 (F0 m 816 ls [.int t0]) := by
                              intro v2 v3 v8 v9 v10 v11 v12 t0 S_ kc H lc ls hkc hP hD hS hl hM
                              unfold f_L_holds_j816 at hM
                              have j829 : ∀ (v2 : Int32) (v3 : Int32) (v8 : Int32) (v9 : Int32) (v10 : Int32) (v11 : Int32) (v12 : Int32) (t0 : Int32) (t1 : Int32) (S_ : zx_B) (kc : Nat) (H : Heap) (lc : List Loc) (ls : Array Slot), kc + (13) ≤ 4014 → va_P D vwCl (xW2 cI cT h hh aa S_) H → va_D A (xW2 cI cT h hh aa S_) → va_S A s.heap H lc → lv_has ls 19 [(0, .ref h), (2, .int v2), (3, .int v3), (8, .int v8), (9, .int v9), (10, .int v10), (11, .int v11), (12, .int v12)] → f_L_holds_j829 N v2 v3 v8 v9 v10 v11 v12 t0 t1 S_ = some R → W p l e (headSpec zsL_holds rmL_holds).room s m ([.ref h, .int p1] : List Value).toArray below meth c H lc kc (6 * kc) Q9 (F0 m 829 ls [.int t1, .int t0]) := by
                                intro v2 v3 v8 v9 v10 v11 v12 t0 t1 S_ kc H lc ls hkc hP hD hS hl hM
                                unfold f_L_holds_j829 at hM
                                refine lv_icmp_ne (tgt := 843) hx hb dL_holds_829 (by decide) (fun q69 => ?_) (fun q69 => ?_)
                                · replace hM := zx_f q69 hM
                                  exact j843 v2 v3 v8 v9 v10 v11 v12 S_ kc _ _ _ (by omega) hP hD hS (lv_sub hl [0, 1, 2, 3, 4, 5, 6, 7] rfl) hM
                                · replace hM := zx_t q69 hM
                                  refine lv_aload_n hx hb dL_holds_832 rfl (lv_at hl 0 rfl) ?_
                                  obtain ⟨x70, T71, hz72, hM⟩ := zx_b2E hM
                                  have hF := zx_fW hD hS hA
                                  refine va_calli (va_runV (As := []) (rest := []) ⟨hx, hb, hml, hown, hts⟩ (c_X2_anew l D cI cZ cT h hh aa S_ _ N hz72) (cwV 0 hts (zg_V zw_21_23 zw_22_0 zw_22_1 zw_1_2 zw_22_2) rfl rfl rfl ⟨rfl, zyX2_anew⟩ ⟨Nat.le_of_ble_eq_true rfl, Nat.le_of_ble_eq_true rfl⟩) ⟨bS_blind, va_recv hK hP (ci := 2) (q0 := 0) rfl rfl, bS_pre hP hK hD hN⟩ rfl rfl hl.1 rfl (lv_room (Nat.le_of_ble_eq_true rfl)) dL_holds_833 ⟨by show kc + 0 ≤ 4014; omega, by show 6 * kc + 0 ≤ 24084; omega⟩) hS (fun q _ h => hF q h) (fun q h => hF q h) (fun r u t H1 lc ht hvm hw hB hz1 hk1 hS => ?_)
                                  obtain ⟨hw1, hw2⟩ := Prod.mk.inj hw; subst hw1; subst hw2
                                  rw [ht] at hB
                                  replace hP := hB
                                  replace hD := zx2_Da T71 hD
                                  refine W.widen (k := kc) (n := 6 * kc) (by omega) (by omega) ?_
                                  refine lv_if_lt (tgt := 843) hx hb dL_holds_836 (by decide) (fun q73 => ?_) (fun q73 => ?_)
                                  · replace hM := zx_t q73 hM
                                    exact j843 v2 v3 v8 v9 v10 v11 v12 T71 kc _ _ _ (by omega) hP hD hS (lv_sub hl [0, 1, 2, 3, 4, 5, 6, 7] rfl) hM
                                  · replace hM := zx_f q73 hM
                                    refine lv_iconst (v := 1) hx hb dL_holds_839 (by decide) ?_
                                    refine lv_goto (tgt := 844) hx hb dL_holds_840 (by decide) ?_
                                    exact j844 v2 v3 v8 v9 v10 v11 v12 1 T71 kc _ _ _ (by omega) hP hD hS (lv_sub hl [0, 1, 2, 3, 4, 5, 6, 7] rfl) hM
                              refine lv_aload_n hx hb dL_holds_816 rfl (lv_at hl 0 rfl) ?_
                              obtain ⟨x74, T75, hz76, hM⟩ := zx_b2E hM
                              have hF := zx_fW hD hS hA
                              refine va_calli (va_runV (As := []) (rest := [.int t0]) ⟨hx, hb, hml, hown, hts⟩ (c_X2_bestRemoval l D cI cZ cT h hh aa S_ _ N hz76) (cwV 0 hts (zg_V zw_21_19 zw_21_20 zw_21_21 zw_1_2 zw_21_22) rfl rfl rfl ⟨rfl, zyX2_bestRemoval⟩ ⟨Nat.le_of_ble_eq_true rfl, Nat.le_of_ble_eq_true rfl⟩) ⟨bS_blind, va_recv hK hP (ci := 2) (q0 := 0) rfl rfl, bS_pre hP hK hD hN⟩ rfl rfl hl.1 rfl (lv_room (Nat.le_of_ble_eq_true rfl)) dL_holds_817 ⟨by show kc + 0 ≤ 4014; omega, by show 6 * kc + 0 ≤ 24084; omega⟩) hS (fun q _ h => hF q h) (fun q h => hF q h) (fun r u t H1 lc ht hvm hw hB hz1 hk1 hS => ?_)
                              obtain ⟨hw1, hw2⟩ := Prod.mk.inj hw; subst hw1; subst hw2
                              rw [ht] at hB
                              replace hP := hB
                              replace hD := zx2_Da T75 hD
                              refine W.widen (k := kc) (n := 6 * kc) (by omega) (by omega) ?_
                              refine lv_iconst (v := (-1)) hx hb dL_holds_820 (by decide) ?_
                              refine lv_icmp_ne (tgt := 828) hx hb dL_holds_821 (by decide) (fun q77 => ?_) (fun q77 => ?_)
                              · replace hM := zx_f q77 hM
                                refine lv_iconst (v := 0) hx hb dL_holds_828 (by decide) ?_
                                exact j829 v2 v3 v8 v9 v10 v11 v12 t0 0 T75 kc _ _ _ (by omega) hP hD hS (lv_sub hl [0, 1, 2, 3, 4, 5, 6, 7] rfl) hM
                              · replace hM := zx_t q77 hM
                                refine lv_iconst (v := 1) hx hb dL_holds_824 (by decide) ?_
                                refine lv_goto (tgt := 829) hx hb dL_holds_825 (by decide) ?_
                                exact j829 v2 v3 v8 v9 v10 v11 v12 t0 1 T75 kc _ _ _ (by omega) hP hD hS (lv_sub hl [0, 1, 2, 3, 4, 5, 6, 7] rfl) hM
                            refine lv_iload_n hx hb dL_holds_807 rfl (lv_at hl 2 rfl) ?_
                            refine lv_if_ne (tgt := 815) hx hb dL_holds_808 (by decide) (fun q78 => ?_) (fun q78 => ?_)
                            · replace hM := zx_f q78 hM
                              refine lv_iconst (v := 0) hx hb dL_holds_815 (by decide) ?_
                              exact j816 v2 v3 v8 v9 v10 v11 v12 0 T66 (kc + 1) _ _ _ (by omega) hP hD hS (lv_sub hl [0, 1, 2, 3, 4, 5, 6, 7] rfl) hM
                            · replace hM := zx_t q78 hM
                              refine lv_iconst (v := 1) hx hb dL_holds_811 (by decide) ?_
                              refine lv_goto (tgt := 816) hx hb dL_holds_812 (by decide) ?_
                              exact j816 v2 v3 v8 v9 v10 v11 v12 1 T66 (kc + 1) _ _ _ (by omega) hP hD hS (lv_sub hl [0, 1, 2, 3, 4, 5, 6, 7] rfl) hM
                        refine lv_iload hx hb dL_holds_783 (lv_at hl 12 rfl) ?_
                        refine lv_if_eq (tgt := 795) hx hb dL_holds_785 (by decide) (fun q79 => ?_) (fun q79 => ?_)
                        · replace hM := zx_t q79 hM
                          exact j795 v2 v3 v8 v9 v10 v11 v12 x59 T60 (kc + 2) _ _ _ (by omega) hP hD hS (lv_sub hl [2, 3, 4, 7, 8, 9, 10, 11, 0] rfl) hM
                        · replace hM := zx_f q79 hM
                          refine lv_iload hx hb dL_holds_788 (lv_at hl 1 rfl) ?_
                          refine lv_iload hx hb dL_holds_790 (lv_at hl 5 rfl) ?_
                          refine lv_icmp_le (tgt := 843) hx hb dL_holds_792 (by decide) (fun q80 => ?_) (fun q80 => ?_)
                          · replace hM := zx_t q80 hM
                            exact j843 v2 v3 v8 v9 v10 v11 v12 T60 (kc + 2) _ _ _ (by omega) hP hD hS (lv_sub hl [2, 3, 4, 7, 8, 9, 10, 11] rfl) hM
                          · replace hM := zx_f q80 hM
                            exact j795 v2 v3 v8 v9 v10 v11 v12 x59 T60 (kc + 2) _ _ _ (by omega) hP hD hS (lv_sub hl [2, 3, 4, 7, 8, 9, 10, 11, 0] rfl) hM
                refine lv_iload hx hb dL_holds_602 (lv_at hl 11 rfl) ?_
                refine lv_bipush (v := 24) hx hb dL_holds_604 (by decide) ?_
                refine lv_icmp_ge (tgt := 738) hx hb dL_holds_606 (by decide) (fun q81 => ?_) (fun q81 => ?_)
                · replace hM := zx_t q81 hM
                  exact j738 v2 v3 v4 v7 v8 v9 v10 v11 v12 v13 S_ kc _ _ _ (by omega) hP hD hS (lv_sub hl [0, 1, 2, 3, 4, 5, 6, 7, 8, 9, 10] rfl) hM
                · replace hM := zx_f q81 hM
                  refine lv_iload hx hb dL_holds_609 (lv_at hl 4 rfl) ?_
                  refine lv_if_eq (tgt := 738) hx hb dL_holds_611 (by decide) (fun q82 => ?_) (fun q82 => ?_)
                  · replace hM := zx_t q82 hM
                    exact j738 v2 v3 v4 v7 v8 v9 v10 v11 v12 v13 S_ kc _ _ _ (by omega) hP hD hS (lv_sub hl [0, 1, 2, 3, 4, 5, 6, 7, 8, 9, 10] rfl) hM
                  · replace hM := zx_f q82 hM
                    have j687 : ∀ (v2 : Int32) (v3 : Int32) (v4 : Int32) (v8 : Int32) (v9 : Int32) (v10 : Int32) (v11 : Int32) (v12 : Int32) (v13 : Int32) (v14 : Int32) (t0 : Int32) (S_ : zx_B) (kc : Nat) (H : Heap) (lc : List Loc) (ls : Array Slot), kc + (n602 * 5 + 16) ≤ 4014 → va_P D vwCl (xW2 cI cT h hh aa S_) H → va_D A (xW2 cI cT h hh aa S_) → va_S A s.heap H lc → lv_has ls 19 [(0, .ref h), (2, .int v2), (3, .int v3), (4, .int v4), (8, .int v8), (9, .int v9), (10, .int v10), (11, .int v11), (12, .int v12), (13, .int v13), (14, .int v14)] → f_L_holds_j687 N (f_L_holds_l602 N  n602) v2 v3 v4 v8 v9 v10 v11 v12 v13 v14 t0 S_ = some R → W p l e (headSpec zsL_holds rmL_holds).room s m ([.ref h, .int p1] : List Value).toArray below meth c H lc kc (6 * kc) Q9 (F0 m 687 ls [.int t0]) := by
                      intro v2 v3 v4 v8 v9 v10 v11 v12 v13 v14 t0 S_ kc H lc ls hkc hP hD hS hl hM
                      unfold f_L_holds_j687 at hM
                      have j701 : ∀ (v2 : Int32) (v3 : Int32) (v4 : Int32) (v8 : Int32) (v9 : Int32) (v10 : Int32) (v11 : Int32) (v12 : Int32) (v14 : Int32) (v15 : Int32) (t0 : Int32) (t1 : Int32) (S_ : zx_B) (kc : Nat) (H : Heap) (lc : List Loc) (ls : Array Slot), kc + (n602 * 5 + 16) ≤ 4014 → va_P D vwCl (xW2 cI cT h hh aa S_) H → va_D A (xW2 cI cT h hh aa S_) → va_S A s.heap H lc → lv_has ls 19 [(0, .ref h), (2, .int v2), (3, .int v3), (4, .int v4), (8, .int v8), (9, .int v9), (10, .int v10), (11, .int v11), (12, .int v12), (14, .int v14), (15, .int v15)] → f_L_holds_j701 N (f_L_holds_l602 N  n602) v2 v3 v4 v8 v9 v10 v11 v12 v14 v15 t0 t1 S_ = some R → W p l e (headSpec zsL_holds rmL_holds).room s m ([.ref h, .int p1] : List Value).toArray below meth c H lc kc (6 * kc) Q9 (F0 m 701 ls [.int t1, .int t0]) := by
                        intro v2 v3 v4 v8 v9 v10 v11 v12 v14 v15 t0 t1 S_ kc H lc ls hkc hP hD hS hl hM
                        unfold f_L_holds_j701 at hM
                        have j722 : ∀ (v2 : Int32) (v3 : Int32) (v4 : Int32) (v8 : Int32) (v9 : Int32) (v10 : Int32) (v11 : Int32) (v12 : Int32) (v13 : Int32) (v14 : Int32) (t0 : Int32) (t1 : Int32) (S_ : zx_B) (kc : Nat) (H : Heap) (lc : List Loc) (ls : Array Slot), kc + (n602 * 5 + 16) ≤ 4014 → va_P D vwCl (xW2 cI cT h hh aa S_) H → va_D A (xW2 cI cT h hh aa S_) → va_S A s.heap H lc → lv_has ls 19 [(0, .ref h), (2, .int v2), (3, .int v3), (4, .int v4), (8, .int v8), (9, .int v9), (10, .int v10), (11, .int v11), (12, .int v12), (13, .int v13), (14, .int v14)] → f_L_holds_j722 N (f_L_holds_l602 N  n602) v2 v3 v4 v8 v9 v10 v11 v12 v13 v14 t0 t1 S_ = some R → W p l e (headSpec zsL_holds rmL_holds).room s m ([.ref h, .int p1] : List Value).toArray below meth c H lc kc (6 * kc) Q9 (F0 m 722 ls [.int t1, .int t0]) := by
                          intro v2 v3 v4 v8 v9 v10 v11 v12 v13 v14 t0 t1 S_ kc H lc ls hkc hP hD hS hl hM
                          unfold f_L_holds_j722 at hM
                          have j730 : ∀ (v2 : Int32) (v3 : Int32) (v4 : Int32) (v8 : Int32) (v9 : Int32) (v10 : Int32) (v11 : Int32) (v12 : Int32) (v13 : Int32) (v14 : Int32) (t0 : Int32) (S_ : zx_B) (kc : Nat) (H : Heap) (lc : List Loc) (ls : Array Slot), kc + (n602 * 5 + 16) ≤ 4014 → va_P D vwCl (xW2 cI cT h hh aa S_) H → va_D A (xW2 cI cT h hh aa S_) → va_S A s.heap H lc → lv_has ls 19 [(0, .ref h), (2, .int v2), (3, .int v3), (4, .int v4), (8, .int v8), (9, .int v9), (10, .int v10), (11, .int v11), (12, .int v12), (13, .int v13), (14, .int v14)] → f_L_holds_j730 N (f_L_holds_l602 N  n602) v2 v3 v4 v8 v9 v10 v11 v12 v13 v14 t0 S_ = some R → W p l e (headSpec zsL_holds rmL_holds).room s m ([.ref h, .int p1] : List Value).toArray below meth c H lc kc (6 * kc) Q9 (F0 m 730 ls [.int t0]) := by
                            intro v2 v3 v4 v8 v9 v10 v11 v12 v13 v14 t0 S_ kc H lc ls hkc hP hD hS hl hM
                            unfold f_L_holds_j730 at hM
                            refine lv_istore (lv' := [(7, .int t0), (0, .ref h), (2, .int v2), (3, .int v3), (4, .int v4), (8, .int v8), (9, .int v9), (10, .int v10), (11, .int v11), (12, .int v12), (13, .int v13), (14, .int v14)]) hx hb dL_holds_730 hl (by decide) rfl (fun ls hl => ?_)
                            obtain ⟨x83, ex83, hM⟩ := zx_nE hM
                            refine lv_iinc (v := x83) (lv' := [(14, .int x83), (7, .int t0), (0, .ref h), (2, .int v2), (3, .int v3), (4, .int v4), (8, .int v8), (9, .int v9), (10, .int v10), (11, .int v11), (12, .int v12), (13, .int v13)]) hx hb dL_holds_732 hl (k := 11) rfl (by rw [ex83]; rfl) (by decide) rfl (fun ls hl => ?_)
                            refine lv_goto (tgt := 602) hx hb dL_holds_735 (by decide) ?_
                            exact ih602 v2 v3 v4 t0 v8 v9 v10 v11 v12 v13 x83 S_ kc _ _ _ (by omega) hP hD hS (lv_sub hl [2, 3, 4, 5, 1, 6, 7, 8, 9, 10, 11, 0] rfl) hM
                          refine lv_icmp_ne (tgt := 729) hx hb dL_holds_722 (by decide) (fun q84 => ?_) (fun q84 => ?_)
                          · replace hM := zx_f q84 hM
                            refine lv_iconst (v := 0) hx hb dL_holds_729 (by decide) ?_
                            exact j730 v2 v3 v4 v8 v9 v10 v11 v12 v13 v14 0 S_ kc _ _ _ (by omega) hP hD hS (lv_sub hl [0, 1, 2, 3, 4, 5, 6, 7, 8, 9, 10] rfl) hM
                          · replace hM := zx_t q84 hM
                            refine lv_iconst (v := 1) hx hb dL_holds_725 (by decide) ?_
                            refine lv_goto (tgt := 730) hx hb dL_holds_726 (by decide) ?_
                            exact j730 v2 v3 v4 v8 v9 v10 v11 v12 v13 v14 1 S_ kc _ _ _ (by omega) hP hD hS (lv_sub hl [0, 1, 2, 3, 4, 5, 6, 7, 8, 9, 10] rfl) hM
                        refine lv_iadd hx hb dL_holds_701 ?_
                        obtain ⟨x85, ex85, hM⟩ := zx_nE hM
                        refine zx_top ex85 ?_
                        refine lv_istore (lv' := [(13, .int x85), (0, .ref h), (2, .int v2), (3, .int v3), (4, .int v4), (8, .int v8), (9, .int v9), (10, .int v10), (11, .int v11), (12, .int v12), (14, .int v14), (15, .int v15)]) hx hb dL_holds_702 hl (by decide) rfl (fun ls hl => ?_)
                        refine lv_iload hx hb dL_holds_704 (lv_at hl 11 rfl) ?_
                        refine lv_iload hx hb dL_holds_706 (lv_at hl 9 rfl) ?_
                        refine lv_iload hx hb dL_holds_708 (lv_at hl 10 rfl) ?_
                        refine lv_ishr hx hb dL_holds_710 ?_
                        refine lv_iconst (v := 1) hx hb dL_holds_711 (by decide) ?_
                        refine lv_iand hx hb dL_holds_712 ?_
                        refine lv_iconst (v := 1) hx hb dL_holds_713 (by decide) ?_
                        refine lv_icmp_ne (tgt := 721) hx hb dL_holds_714 (by decide) (fun q86 => ?_) (fun q86 => ?_)
                        · replace hM := zx_f q86 hM
                          refine lv_iconst (v := 0) hx hb dL_holds_721 (by decide) ?_
                          exact j722 v2 v3 v4 v8 v9 v10 v11 v12 x85 v14 v15 0 S_ kc _ _ _ (by omega) hP hD hS (lv_sub hl [1, 2, 3, 4, 5, 6, 7, 8, 9, 0, 10] rfl) hM
                        · replace hM := zx_t q86 hM
                          refine lv_iconst (v := 1) hx hb dL_holds_717 (by decide) ?_
                          refine lv_goto (tgt := 722) hx hb dL_holds_718 (by decide) ?_
                          exact j722 v2 v3 v4 v8 v9 v10 v11 v12 x85 v14 v15 1 S_ kc _ _ _ (by omega) hP hD hS (lv_sub hl [1, 2, 3, 4, 5, 6, 7, 8, 9, 0, 10] rfl) hM
                      refine lv_istore (lv' := [(15, .int t0), (0, .ref h), (2, .int v2), (3, .int v3), (4, .int v4), (8, .int v8), (9, .int v9), (10, .int v10), (11, .int v11), (12, .int v12), (13, .int v13), (14, .int v14)]) hx hb dL_holds_687 hl (by decide) rfl (fun ls hl => ?_)
                      refine lv_iload hx hb dL_holds_689 (lv_at hl 10 rfl) ?_
                      refine lv_iload hx hb dL_holds_691 (lv_at hl 0 rfl) ?_
                      refine lv_if_eq (tgt := 700) hx hb dL_holds_693 (by decide) (fun q87 => ?_) (fun q87 => ?_)
                      · replace hM := zx_t q87 hM
                        refine lv_iconst (v := 0) hx hb dL_holds_700 (by decide) ?_
                        exact j701 v2 v3 v4 v8 v9 v10 v11 v12 v14 t0 v13 0 S_ kc _ _ _ (by omega) hP hD hS (lv_sub hl [1, 2, 3, 4, 5, 6, 7, 8, 9, 11, 0] rfl) hM
                      · replace hM := zx_f q87 hM
                        refine lv_iconst (v := 1) hx hb dL_holds_696 (by decide) ?_
                        refine lv_goto (tgt := 701) hx hb dL_holds_697 (by decide) ?_
                        exact j701 v2 v3 v4 v8 v9 v10 v11 v12 v14 t0 v13 1 S_ kc _ _ _ (by omega) hP hD hS (lv_sub hl [1, 2, 3, 4, 5, 6, 7, 8, 9, 11, 0] rfl) hM
                    have j686 : ∀ (v2 : Int32) (v3 : Int32) (v4 : Int32) (v8 : Int32) (v9 : Int32) (v10 : Int32) (v11 : Int32) (v12 : Int32) (v13 : Int32) (v14 : Int32) (S_ : zx_B) (kc : Nat) (H : Heap) (lc : List Loc) (ls : Array Slot), kc + (n602 * 5 + 16) ≤ 4014 → va_P D vwCl (xW2 cI cT h hh aa S_) H → va_D A (xW2 cI cT h hh aa S_) → va_S A s.heap H lc → lv_has ls 19 [(0, .ref h), (2, .int v2), (3, .int v3), (4, .int v4), (8, .int v8), (9, .int v9), (10, .int v10), (11, .int v11), (12, .int v12), (13, .int v13), (14, .int v14)] → f_L_holds_j686 N (f_L_holds_l602 N  n602) v2 v3 v4 v8 v9 v10 v11 v12 v13 v14 S_ = some R → W p l e (headSpec zsL_holds rmL_holds).room s m ([.ref h, .int p1] : List Value).toArray below meth c H lc kc (6 * kc) Q9 (F0 m 686 ls []) := by
                      intro v2 v3 v4 v8 v9 v10 v11 v12 v13 v14 S_ kc H lc ls hkc hP hD hS hl hM
                      unfold f_L_holds_j686 at hM
                      refine lv_iconst (v := 0) hx hb dL_holds_686 (by decide) ?_
                      exact j687 v2 v3 v4 v8 v9 v10 v11 v12 v13 v14 0 S_ kc _ _ _ (by omega) hP hD hS (lv_sub hl [0, 1, 2, 3, 4, 5, 6, 7, 8, 9, 10] rfl) hM
                    refine lv_aload_n hx hb dL_holds_614 rfl (lv_at hl 0 rfl) ?_
                    refine lv_iconst (v := 2) hx hb dL_holds_615 (by decide) ?_
                    refine lv_iload hx hb dL_holds_616 (lv_at hl 11 rfl) ?_
                    refine lv_iconst (v := 0) hx hb dL_holds_618 (by decide) ?_
                    refine lv_iconst (v := 0) hx hb dL_holds_619 (by decide) ?_
                    obtain ⟨x88, T89, hz90, hM⟩ := zx_b2E hM
                    have hF := zx_fW hD hS hA
                    refine va_calli (va_runS (As := [.ref h, .int 2, .int v14, .int 0, .int 0]) (rest := []) ⟨hx, hb, hml, hown, hts⟩ (c_L_call l hlt D cI cZ cT h hh aa S_ _ N 2 v14 0 0 hz90) (va_cwS 5 hts (zg_S zw_4_2 zw_4_3 zw_3_14 zw_4_4) rfl rfl rfl zyL_call ⟨Nat.le_of_ble_eq_true rfl, Nat.le_of_ble_eq_true rfl⟩) ⟨bY_blind, bY_pre hP hK hD hN hXX hNc hS hF⟩ rfl rfl hl.1 rfl (lv_room (Nat.le_of_ble_eq_true rfl)) dL_holds_620 ⟨by show kc + 1 ≤ 4014; omega, by show 6 * kc + 6 ≤ 24084; omega⟩) hS (fun q _ h => hF q h) (fun q h => hF q h) (fun r u t H1 lc ht hvm hw hB hz1 hk1 hS => ?_)
                    obtain ⟨hw1, hw2⟩ := Prod.mk.inj hw; subst hw1; subst hw2
                    rw [ht] at hB
                    replace hP := hB
                    replace hD := zx2_Da T89 hD
                    refine W.widen (k := (kc + 1)) (n := 6 * (kc + 1)) (by omega) (by omega) ?_
                    refine lv_if_lt (tgt := 686) hx hb dL_holds_623 (by decide) (fun q91 => ?_) (fun q91 => ?_)
                    · replace hM := zx_t q91 hM
                      exact j686 v2 v3 v4 v8 v9 v10 v11 v12 v13 v14 T89 (kc + 1) _ _ _ (by omega) hP hD hS (lv_sub hl [0, 1, 2, 3, 5, 6, 7, 8, 9, 10, 11] rfl) hM
                    · replace hM := zx_f q91 hM
                      refine lv_aload_n hx hb dL_holds_626 rfl (lv_at hl 0 rfl) ?_
                      refine lv_iconst (v := 2) hx hb dL_holds_627 (by decide) ?_
                      refine lv_iload hx hb dL_holds_628 (lv_at hl 11 rfl) ?_
                      refine lv_iconst (v := 0) hx hb dL_holds_630 (by decide) ?_
                      refine lv_iconst (v := 0) hx hb dL_holds_631 (by decide) ?_
                      obtain ⟨x92, T93, hz94, hM⟩ := zx_b2E hM
                      have hF := zx_fW hD hS hA
                      refine va_calli (va_runS (As := [.ref h, .int 2, .int v14, .int 0, .int 0]) (rest := []) ⟨hx, hb, hml, hown, hts⟩ (c_L_call l hlt D cI cZ cT h hh aa T89 _ N 2 v14 0 0 hz94) (va_cwS 5 hts (zg_S zw_4_2 zw_4_3 zw_3_14 zw_4_4) rfl rfl rfl zyL_call ⟨Nat.le_of_ble_eq_true rfl, Nat.le_of_ble_eq_true rfl⟩) ⟨bY_blind, bY_pre hP hK hD hN hXX hNc hS hF⟩ rfl rfl hl.1 rfl (lv_room (Nat.le_of_ble_eq_true rfl)) dL_holds_632 ⟨by show (kc + 1) + 1 ≤ 4014; omega, by show 6 * (kc + 1) + 6 ≤ 24084; omega⟩) hS (fun q _ h => hF q h) (fun q h => hF q h) (fun r u t H1 lc ht hvm hw hB hz1 hk1 hS => ?_)
                      obtain ⟨hw1, hw2⟩ := Prod.mk.inj hw; subst hw1; subst hw2
                      rw [ht] at hB
                      replace hP := hB
                      replace hD := zx2_Da T93 hD
                      refine W.widen (k := (kc + 2)) (n := 6 * (kc + 2)) (by omega) (by omega) ?_
                      refine lv_iload hx hb dL_holds_635 (lv_at hl 7 rfl) ?_
                      refine lv_icmp_gt (tgt := 686) hx hb dL_holds_637 (by decide) (fun q95 => ?_) (fun q95 => ?_)
                      · replace hM := zx_t q95 hM
                        exact j686 v2 v3 v4 v8 v9 v10 v11 v12 v13 v14 T93 (kc + 2) _ _ _ (by omega) hP hD hS (lv_sub hl [0, 1, 2, 3, 5, 6, 7, 8, 9, 10, 11] rfl) hM
                      · replace hM := zx_f q95 hM
                        refine lv_aload_n hx hb dL_holds_640 rfl (lv_at hl 0 rfl) ?_
                        refine lv_iconst (v := 2) hx hb dL_holds_641 (by decide) ?_
                        refine lv_iload hx hb dL_holds_642 (lv_at hl 11 rfl) ?_
                        refine lv_iconst (v := 2) hx hb dL_holds_644 (by decide) ?_
                        refine lv_iconst (v := 0) hx hb dL_holds_645 (by decide) ?_
                        obtain ⟨x96, T97, hz98, hM⟩ := zx_b2E hM
                        have hF := zx_fW hD hS hA
                        refine va_calli (va_runS (As := [.ref h, .int 2, .int v14, .int 2, .int 0]) (rest := []) ⟨hx, hb, hml, hown, hts⟩ (c_L_call l hlt D cI cZ cT h hh aa T93 _ N 2 v14 2 0 hz98) (va_cwS 5 hts (zg_S zw_4_2 zw_4_3 zw_3_14 zw_4_4) rfl rfl rfl zyL_call ⟨Nat.le_of_ble_eq_true rfl, Nat.le_of_ble_eq_true rfl⟩) ⟨bY_blind, bY_pre hP hK hD hN hXX hNc hS hF⟩ rfl rfl hl.1 rfl (lv_room (Nat.le_of_ble_eq_true rfl)) dL_holds_646 ⟨by show (kc + 2) + 1 ≤ 4014; omega, by show 6 * (kc + 2) + 6 ≤ 24084; omega⟩) hS (fun q _ h => hF q h) (fun q h => hF q h) (fun r u t H1 lc ht hvm hw hB hz1 hk1 hS => ?_)
                        obtain ⟨hw1, hw2⟩ := Prod.mk.inj hw; subst hw1; subst hw2
                        rw [ht] at hB
                        replace hP := hB
                        replace hD := zx2_Da T97 hD
                        refine W.widen (k := (kc + 3)) (n := 6 * (kc + 3)) (by omega) (by omega) ?_
                        refine lv_iload hx hb dL_holds_649 (lv_at hl 5 rfl) ?_
                        refine lv_icmp_lt (tgt := 686) hx hb dL_holds_651 (by decide) (fun q99 => ?_) (fun q99 => ?_)
                        · replace hM := zx_t q99 hM
                          exact j686 v2 v3 v4 v8 v9 v10 v11 v12 v13 v14 T97 (kc + 3) _ _ _ (by omega) hP hD hS (lv_sub hl [0, 1, 2, 3, 5, 6, 7, 8, 9, 10, 11] rfl) hM
                        · replace hM := zx_f q99 hM
                          refine lv_aload_n hx hb dL_holds_654 rfl (lv_at hl 0 rfl) ?_
                          refine lv_iconst (v := 2) hx hb dL_holds_655 (by decide) ?_
                          refine lv_iload hx hb dL_holds_656 (lv_at hl 11 rfl) ?_
                          refine lv_iconst (v := 1) hx hb dL_holds_658 (by decide) ?_
                          refine lv_iconst (v := 0) hx hb dL_holds_659 (by decide) ?_
                          obtain ⟨x100, T101, hz102, hM⟩ := zx_b2E hM
                          have hF := zx_fW hD hS hA
                          refine va_calli (va_runS (As := [.ref h, .int 2, .int v14, .int 1, .int 0]) (rest := []) ⟨hx, hb, hml, hown, hts⟩ (c_L_call l hlt D cI cZ cT h hh aa T97 _ N 2 v14 1 0 hz102) (va_cwS 5 hts (zg_S zw_4_2 zw_4_3 zw_3_14 zw_4_4) rfl rfl rfl zyL_call ⟨Nat.le_of_ble_eq_true rfl, Nat.le_of_ble_eq_true rfl⟩) ⟨bY_blind, bY_pre hP hK hD hN hXX hNc hS hF⟩ rfl rfl hl.1 rfl (lv_room (Nat.le_of_ble_eq_true rfl)) dL_holds_660 ⟨by show (kc + 3) + 1 ≤ 4014; omega, by show 6 * (kc + 3) + 6 ≤ 24084; omega⟩) hS (fun q _ h => hF q h) (fun q h => hF q h) (fun r u t H1 lc ht hvm hw hB hz1 hk1 hS => ?_)
                          obtain ⟨hw1, hw2⟩ := Prod.mk.inj hw; subst hw1; subst hw2
                          rw [ht] at hB
                          replace hP := hB
                          replace hD := zx2_Da T101 hD
                          refine W.widen (k := (kc + 4)) (n := 6 * (kc + 4)) (by omega) (by omega) ?_
                          refine lv_iload hx hb dL_holds_663 (lv_at hl 8 rfl) ?_
                          refine lv_icmp_gt (tgt := 686) hx hb dL_holds_665 (by decide) (fun q103 => ?_) (fun q103 => ?_)
                          · replace hM := zx_t q103 hM
                            exact j686 v2 v3 v4 v8 v9 v10 v11 v12 v13 v14 T101 (kc + 4) _ _ _ (by omega) hP hD hS (lv_sub hl [0, 1, 2, 3, 5, 6, 7, 8, 9, 10, 11] rfl) hM
                          · replace hM := zx_f q103 hM
                            refine lv_aload_n hx hb dL_holds_668 rfl (lv_at hl 0 rfl) ?_
                            refine lv_iconst (v := 2) hx hb dL_holds_669 (by decide) ?_
                            refine lv_iload hx hb dL_holds_670 (lv_at hl 11 rfl) ?_
                            refine lv_iconst (v := 3) hx hb dL_holds_672 (by decide) ?_
                            refine lv_iconst (v := 0) hx hb dL_holds_673 (by decide) ?_
                            obtain ⟨x104, T105, hz106, hM⟩ := zx_b2E hM
                            have hF := zx_fW hD hS hA
                            refine va_calli (va_runS (As := [.ref h, .int 2, .int v14, .int 3, .int 0]) (rest := []) ⟨hx, hb, hml, hown, hts⟩ (c_L_call l hlt D cI cZ cT h hh aa T101 _ N 2 v14 3 0 hz106) (va_cwS 5 hts (zg_S zw_4_2 zw_4_3 zw_3_14 zw_4_4) rfl rfl rfl zyL_call ⟨Nat.le_of_ble_eq_true rfl, Nat.le_of_ble_eq_true rfl⟩) ⟨bY_blind, bY_pre hP hK hD hN hXX hNc hS hF⟩ rfl rfl hl.1 rfl (lv_room (Nat.le_of_ble_eq_true rfl)) dL_holds_674 ⟨by show (kc + 4) + 1 ≤ 4014; omega, by show 6 * (kc + 4) + 6 ≤ 24084; omega⟩) hS (fun q _ h => hF q h) (fun q h => hF q h) (fun r u t H1 lc ht hvm hw hB hz1 hk1 hS => ?_)
                            obtain ⟨hw1, hw2⟩ := Prod.mk.inj hw; subst hw1; subst hw2
                            rw [ht] at hB
                            replace hP := hB
                            replace hD := zx2_Da T105 hD
                            refine W.widen (k := (kc + 5)) (n := 6 * (kc + 5)) (by omega) (by omega) ?_
                            refine lv_iload hx hb dL_holds_677 (lv_at hl 6 rfl) ?_
                            refine lv_icmp_lt (tgt := 686) hx hb dL_holds_679 (by decide) (fun q107 => ?_) (fun q107 => ?_)
                            · replace hM := zx_t q107 hM
                              exact j686 v2 v3 v4 v8 v9 v10 v11 v12 v13 v14 T105 (kc + 5) _ _ _ (by omega) hP hD hS (lv_sub hl [0, 1, 2, 3, 5, 6, 7, 8, 9, 10, 11] rfl) hM
                            · replace hM := zx_f q107 hM
                              refine lv_iconst (v := 1) hx hb dL_holds_682 (by decide) ?_
                              refine lv_goto (tgt := 687) hx hb dL_holds_683 (by decide) ?_
                              exact j687 v2 v3 v4 v8 v9 v10 v11 v12 v13 v14 1 T105 (kc + 5) _ _ _ (by omega) hP hD hS (lv_sub hl [0, 1, 2, 3, 5, 6, 7, 8, 9, 10, 11] rfl) hM
            refine lv_istore (lv' := [(7, .int t0), (0, .ref h), (1, .int v1), (2, .int v2), (3, .int v3), (4, .int v4)]) hx hb dL_holds_533 hl (by decide) rfl (fun ls hl => ?_)
            refine lv_iload_n hx hb dL_holds_535 rfl (lv_at hl 2 rfl) ?_
            refine lv_bipush (v := 100) hx hb dL_holds_536 (by decide) ?_
            refine lv_irem hx hb dL_holds_538 (by decide) ?_
            obtain ⟨x108, ex108, hM⟩ := zx_nE hM
            refine zx_top ex108 ?_
            refine lv_istore (lv' := [(8, .int x108), (7, .int t0), (0, .ref h), (1, .int v1), (2, .int v2), (3, .int v3), (4, .int v4)]) hx hb dL_holds_539 hl (by decide) rfl (fun ls hl => ?_)
            refine lv_iload_n hx hb dL_holds_541 rfl (lv_at hl 3 rfl) ?_
            refine lv_sipush (v := 128) hx hb dL_holds_542 (by decide) ?_
            refine lv_idiv hx hb dL_holds_545 (by decide) ?_
            obtain ⟨x109, ex109, hM⟩ := zx_nE hM
            refine zx_top ex109 ?_
            refine lv_bipush (v := 100) hx hb dL_holds_546 (by decide) ?_
            refine lv_irem hx hb dL_holds_548 (by decide) ?_
            obtain ⟨x110, ex110, hM⟩ := zx_nE hM
            refine zx_top ex110 ?_
            refine lv_istore (lv' := [(9, .int x110), (8, .int x108), (7, .int t0), (0, .ref h), (1, .int v1), (2, .int v2), (3, .int v3), (4, .int v4)]) hx hb dL_holds_549 hl (by decide) rfl (fun ls hl => ?_)
            refine lv_iload hx hb dL_holds_551 (lv_at hl 1 rfl) ?_
            refine lv_iload_n hx hb dL_holds_553 rfl (lv_at hl 4 rfl) ?_
            refine lv_sipush (v := 16384) hx hb dL_holds_554 (by decide) ?_
            refine lv_idiv hx hb dL_holds_557 (by decide) ?_
            obtain ⟨x111, ex111, hM⟩ := zx_nE hM
            refine zx_top ex111 ?_
            refine lv_bipush (v := 100) hx hb dL_holds_558 (by decide) ?_
            refine lv_iload hx hb dL_holds_560 (lv_at hl 1 rfl) ?_
            refine lv_isub hx hb dL_holds_562 ?_
            obtain ⟨q112, hM⟩ := zx_nzE hM
            refine lv_irem hx hb dL_holds_563 q112 ?_
            obtain ⟨x113, ex113, hM⟩ := zx_nE hM
            refine zx_top ex113 ?_
            refine lv_iadd hx hb dL_holds_564 ?_
            obtain ⟨x114, ex114, hM⟩ := zx_nE hM
            refine zx_top ex114 ?_
            refine lv_istore (lv' := [(10, .int x114), (9, .int x110), (8, .int x108), (7, .int t0), (0, .ref h), (1, .int v1), (2, .int v2), (3, .int v3), (4, .int v4)]) hx hb dL_holds_565 hl (by decide) rfl (fun ls hl => ?_)
            refine lv_iload hx hb dL_holds_567 (lv_at hl 1 rfl) ?_
            refine lv_iload_n hx hb dL_holds_569 rfl (lv_at hl 5 rfl) ?_
            refine lv_ldc (v := 131072) hx hb hown (hts _ zw_21_17) dL_holds_570 ?_
            refine lv_idiv hx hb dL_holds_572 (by decide) ?_
            obtain ⟨x115, ex115, hM⟩ := zx_nE hM
            refine zx_top ex115 ?_
            refine lv_bipush (v := 100) hx hb dL_holds_573 (by decide) ?_
            refine lv_iload hx hb dL_holds_575 (lv_at hl 1 rfl) ?_
            refine lv_isub hx hb dL_holds_577 ?_
            obtain ⟨q116, hM⟩ := zx_nzE hM
            refine lv_irem hx hb dL_holds_578 q116 ?_
            obtain ⟨x117, ex117, hM⟩ := zx_nE hM
            refine zx_top ex117 ?_
            refine lv_iadd hx hb dL_holds_579 ?_
            obtain ⟨x118, ex118, hM⟩ := zx_nE hM
            refine zx_top ex118 ?_
            refine lv_istore (lv' := [(11, .int x118), (10, .int x114), (9, .int x110), (8, .int x108), (7, .int t0), (0, .ref h), (1, .int v1), (2, .int v2), (3, .int v3), (4, .int v4)]) hx hb dL_holds_580 hl (by decide) rfl (fun ls hl => ?_)
            refine lv_aload_n hx hb dL_holds_582 rfl (lv_at hl 5 rfl) ?_
            refine lv_iload hx hb dL_holds_583 (lv_at hl 3 rfl) ?_
            refine lv_iload hx hb dL_holds_585 (lv_at hl 2 rfl) ?_
            refine lv_iload hx hb dL_holds_587 (lv_at hl 1 rfl) ?_
            refine lv_iload hx hb dL_holds_589 (lv_at hl 0 rfl) ?_
            obtain ⟨x119, T120, hz121, hM⟩ := zx_b2E hM
            have hF := zx_fW hD hS hA
            refine va_calli (vx_runSW (As := [.ref h, .int x108, .int x110, .int x114, .int x118]) (rest := []) ⟨hx, hb, hml, hown, hts⟩ (c_L_tryWindow l hlt D cI cZ cT h hh aa S_ _ N x108 x110 x114 x118 hz121) (vx_cwSW 5 hts (zg_S zw_17_21 zw_17_22 zw_3_14 zw_17_23) rfl rfl rfl zyL_tryWindow ⟨Nat.le_of_ble_eq_true rfl, Nat.le_of_ble_eq_true rfl⟩) ⟨bY_blind, bY_pre hP hK hD hN hXX hNc hS hF⟩ rfl rfl hl.1 rfl (lv_room (Nat.le_of_ble_eq_true rfl)) dL_holds_591 ⟨by show kc + 1 ≤ 4014; omega, by show 6 * kc + 6 ≤ 24084; omega⟩) hS (fun q _ h => hF q h) (fun q h => hF q h) (fun r u t H1 lc ht hvm hw hB hz1 hk1 hS => ?_)
            obtain ⟨hw1, hw2⟩ := Prod.mk.inj hw; subst hw1; subst hw2
            rw [ht] at hB
            replace hP := hB
            replace hD := zx2_Da T120 hD
            refine W.widen (k := (kc + 1)) (n := 6 * (kc + 1)) (by omega) (by omega) ?_
            refine lv_istore (lv' := [(12, .int x119), (11, .int x118), (10, .int x114), (9, .int x110), (8, .int x108), (7, .int t0), (0, .ref h), (1, .int v1), (2, .int v2), (3, .int v3), (4, .int v4)]) hx hb dL_holds_594 hl (by decide) rfl (fun ls hl => ?_)
            refine lv_iconst (v := 0) hx hb dL_holds_596 (by decide) ?_
            refine lv_istore (lv' := [(13, .int 0), (12, .int x119), (11, .int x118), (10, .int x114), (9, .int x110), (8, .int x108), (7, .int t0), (0, .ref h), (1, .int v1), (2, .int v2), (3, .int v3), (4, .int v4)]) hx hb dL_holds_597 hl (by decide) rfl (fun ls hl => ?_)
            refine lv_iconst (v := 0) hx hb dL_holds_599 (by decide) ?_
            refine lv_istore (lv' := [(14, .int 0), (13, .int 0), (12, .int x119), (11, .int x118), (10, .int x114), (9, .int x110), (8, .int x108), (7, .int t0), (0, .ref h), (1, .int v1), (2, .int v2), (3, .int v3), (4, .int v4)]) hx hb dL_holds_600 hl (by decide) rfl (fun ls hl => ?_)
            exact l602 30 v2 v3 v4 t0 x108 x110 x114 x118 x119 0 0 T120 (kc + 1) _ _ _ (by omega) hP hD hS (lv_sub hl [8, 10, 11, 12, 7, 6, 5, 4, 3, 2, 1, 0] rfl) hM
          have j532 : ∀ (v1 : Int32) (v2 : Int32) (v3 : Int32) (v4 : Int32) (S_ : zx_B) (kc : Nat) (H : Heap) (lc : List Loc) (ls : Array Slot), kc + (167) ≤ 4014 → va_P D vwCl (xW2 cI cT h hh aa S_) H → va_D A (xW2 cI cT h hh aa S_) → va_S A s.heap H lc → lv_has ls 19 [(0, .ref h), (1, .int v1), (2, .int v2), (3, .int v3), (4, .int v4)] → f_L_holds_j532 N v1 v2 v3 v4 S_ = some R → W p l e (headSpec zsL_holds rmL_holds).room s m ([.ref h, .int p1] : List Value).toArray below meth c H lc kc (6 * kc) Q9 (F0 m 532 ls []) := by
            intro v1 v2 v3 v4 S_ kc H lc ls hkc hP hD hS hl hM
            unfold f_L_holds_j532 at hM
            refine lv_iconst (v := 0) hx hb dL_holds_532 (by decide) ?_
            exact j533 v1 v2 v3 v4 0 S_ kc _ _ _ (by omega) hP hD hS (lv_sub hl [0, 1, 2, 3, 4] rfl) hM
          refine lv_iload hx hb dL_holds_482 (lv_at hl 7 rfl) ?_
          refine lv_if_eq (tgt := 532) hx hb dL_holds_484 (by decide) (fun q122 => ?_) (fun q122 => ?_)
          · replace hM := zx_t q122 hM
            exact j532 v1 v2 v3 v4 S_ kc _ _ _ (by omega) hP hD hS (lv_sub hl [0, 1, 2, 3, 4] rfl) hM
          · replace hM := zx_f q122 hM
            refine lv_iload hx hb dL_holds_487 (lv_at hl 5 rfl) ?_
            refine lv_iload_n hx hb dL_holds_489 rfl (lv_at hl 3 rfl) ?_
            refine lv_icmp_ne (tgt := 532) hx hb dL_holds_490 (by decide) (fun q123 => ?_) (fun q123 => ?_)
            · replace hM := zx_f q123 hM
              exact j532 v1 v2 v3 v4 S_ kc _ _ _ (by omega) hP hD hS (lv_sub hl [0, 1, 2, 3, 4] rfl) hM
            · replace hM := zx_t q123 hM
              refine lv_iload hx hb dL_holds_493 (lv_at hl 6 rfl) ?_
              refine lv_iload_n hx hb dL_holds_495 rfl (lv_at hl 2 rfl) ?_
              refine lv_iconst (v := 1) hx hb dL_holds_496 (by decide) ?_
              refine lv_isub hx hb dL_holds_497 ?_
              refine lv_icmp_ne (tgt := 532) hx hb dL_holds_498 (by decide) (fun q124 => ?_) (fun q124 => ?_)
              · replace hM := zx_f q124 hM
                exact j532 v1 v2 v3 v4 S_ kc _ _ _ (by omega) hP hD hS (lv_sub hl [0, 1, 2, 3, 4] rfl) hM
              · replace hM := zx_t q124 hM
                have j528 : ∀ (v1 : Int32) (v2 : Int32) (v3 : Int32) (v4 : Int32) (S_ : zx_B) (kc : Nat) (H : Heap) (lc : List Loc) (ls : Array Slot), kc + (167) ≤ 4014 → va_P D vwCl (xW2 cI cT h hh aa S_) H → va_D A (xW2 cI cT h hh aa S_) → va_S A s.heap H lc → lv_has ls 19 [(0, .ref h), (1, .int v1), (2, .int v2), (3, .int v3), (4, .int v4)] → f_L_holds_j528 N v1 v2 v3 v4 S_ = some R → W p l e (headSpec zsL_holds rmL_holds).room s m ([.ref h, .int p1] : List Value).toArray below meth c H lc kc (6 * kc) Q9 (F0 m 528 ls []) := by
                  intro v1 v2 v3 v4 S_ kc H lc ls hkc hP hD hS hl hM
                  unfold f_L_holds_j528 at hM
                  refine lv_iconst (v := 1) hx hb dL_holds_528 (by decide) ?_
                  refine lv_goto (tgt := 533) hx hb dL_holds_529 (by decide) ?_
                  exact j533 v1 v2 v3 v4 1 S_ kc _ _ _ (by omega) hP hD hS (lv_sub hl [0, 1, 2, 3, 4] rfl) hM
                refine lv_iload_n hx hb dL_holds_501 rfl (lv_at hl 2 rfl) ?_
                refine lv_iconst (v := 1) hx hb dL_holds_502 (by decide) ?_
                refine lv_icmp_gt (tgt := 528) hx hb dL_holds_503 (by decide) (fun q125 => ?_) (fun q125 => ?_)
                · replace hM := zx_t q125 hM
                  exact j528 v1 v2 v3 v4 S_ kc _ _ _ (by omega) hP hD hS (lv_sub hl [0, 1, 2, 3, 4] rfl) hM
                · replace hM := zx_f q125 hM
                  refine lv_aload_n hx hb dL_holds_506 rfl (lv_at hl 0 rfl) ?_
                  refine lv_iconst (v := 1) hx hb dL_holds_507 (by decide) ?_
                  refine lv_iconst (v := 3) hx hb dL_holds_508 (by decide) ?_
                  refine lv_iconst (v := 0) hx hb dL_holds_509 (by decide) ?_
                  refine lv_iconst (v := 0) hx hb dL_holds_510 (by decide) ?_
                  obtain ⟨x126, T127, hz128, hM⟩ := zx_b2E hM
                  have hF := zx_fW hD hS hA
                  refine va_calli (va_runS (As := [.ref h, .int 1, .int 3, .int 0, .int 0]) (rest := []) ⟨hx, hb, hml, hown, hts⟩ (c_L_call l hlt D cI cZ cT h hh aa S_ _ N 1 3 0 0 hz128) (va_cwS 5 hts (zg_S zw_4_2 zw_4_3 zw_3_14 zw_4_4) rfl rfl rfl zyL_call ⟨Nat.le_of_ble_eq_true rfl, Nat.le_of_ble_eq_true rfl⟩) ⟨bY_blind, bY_pre hP hK hD hN hXX hNc hS hF⟩ rfl rfl hl.1 rfl (lv_room (Nat.le_of_ble_eq_true rfl)) dL_holds_511 ⟨by show kc + 1 ≤ 4014; omega, by show 6 * kc + 6 ≤ 24084; omega⟩) hS (fun q _ h => hF q h) (fun q h => hF q h) (fun r u t H1 lc ht hvm hw hB hz1 hk1 hS => ?_)
                  obtain ⟨hw1, hw2⟩ := Prod.mk.inj hw; subst hw1; subst hw2
                  rw [ht] at hB
                  replace hP := hB
                  replace hD := zx2_Da T127 hD
                  refine W.widen (k := (kc + 1)) (n := 6 * (kc + 1)) (by omega) (by omega) ?_
                  refine lv_if_ne (tgt := 532) hx hb dL_holds_514 (by decide) (fun q129 => ?_) (fun q129 => ?_)
                  · replace hM := zx_f q129 hM
                    exact j532 v1 v2 v3 v4 T127 (kc + 1) _ _ _ (by omega) hP hD hS (lv_sub hl [0, 1, 2, 3, 4] rfl) hM
                  · replace hM := zx_t q129 hM
                    refine lv_aload_n hx hb dL_holds_517 rfl (lv_at hl 0 rfl) ?_
                    refine lv_iconst (v := 1) hx hb dL_holds_518 (by decide) ?_
                    refine lv_iconst (v := 4) hx hb dL_holds_519 (by decide) ?_
                    refine lv_iconst (v := 0) hx hb dL_holds_520 (by decide) ?_
                    refine lv_iconst (v := 0) hx hb dL_holds_521 (by decide) ?_
                    obtain ⟨x130, T131, hz132, hM⟩ := zx_b2E hM
                    have hF := zx_fW hD hS hA
                    refine va_calli (va_runS (As := [.ref h, .int 1, .int 4, .int 0, .int 0]) (rest := []) ⟨hx, hb, hml, hown, hts⟩ (c_L_call l hlt D cI cZ cT h hh aa T127 _ N 1 4 0 0 hz132) (va_cwS 5 hts (zg_S zw_4_2 zw_4_3 zw_3_14 zw_4_4) rfl rfl rfl zyL_call ⟨Nat.le_of_ble_eq_true rfl, Nat.le_of_ble_eq_true rfl⟩) ⟨bY_blind, bY_pre hP hK hD hN hXX hNc hS hF⟩ rfl rfl hl.1 rfl (lv_room (Nat.le_of_ble_eq_true rfl)) dL_holds_522 ⟨by show (kc + 1) + 1 ≤ 4014; omega, by show 6 * (kc + 1) + 6 ≤ 24084; omega⟩) hS (fun q _ h => hF q h) (fun q h => hF q h) (fun r u t H1 lc ht hvm hw hB hz1 hk1 hS => ?_)
                    obtain ⟨hw1, hw2⟩ := Prod.mk.inj hw; subst hw1; subst hw2
                    rw [ht] at hB
                    replace hP := hB
                    replace hD := zx2_Da T131 hD
                    refine W.widen (k := (kc + 2)) (n := 6 * (kc + 2)) (by omega) (by omega) ?_
                    refine lv_if_ne (tgt := 532) hx hb dL_holds_525 (by decide) (fun q133 => ?_) (fun q133 => ?_)
                    · replace hM := zx_f q133 hM
                      exact j532 v1 v2 v3 v4 T131 (kc + 2) _ _ _ (by omega) hP hD hS (lv_sub hl [0, 1, 2, 3, 4] rfl) hM
                    · replace hM := zx_t q133 hM
                      exact j528 v1 v2 v3 v4 T131 (kc + 2) _ _ _ (by omega) hP hD hS (lv_sub hl [0, 1, 2, 3, 4] rfl) hM
        refine lv_iload hx hb dL_holds_70 (lv_at hl 8 rfl) ?_
        refine lv_iload_n hx hb dL_holds_72 rfl (lv_at hl 2 rfl) ?_
        refine lv_icmp_ge (tgt := 482) hx hb dL_holds_73 (by decide) (fun q134 => ?_) (fun q134 => ?_)
        · replace hM := zx_t q134 hM
          exact j482 v1 v2 v3 v4 v5 v6 v7 S_ kc _ _ _ (by omega) hP hD hS (lv_sub hl [0, 1, 2, 3, 4, 5, 6, 7] rfl) hM
        · replace hM := zx_f q134 hM
          refine lv_iload hx hb dL_holds_76 (lv_at hl 7 rfl) ?_
          refine lv_if_eq (tgt := 482) hx hb dL_holds_78 (by decide) (fun q135 => ?_) (fun q135 => ?_)
          · replace hM := zx_t q135 hM
            exact j482 v1 v2 v3 v4 v5 v6 v7 S_ kc _ _ _ (by omega) hP hD hS (lv_sub hl [0, 1, 2, 3, 4, 5, 6, 7] rfl) hM
          · replace hM := zx_f q135 hM
            have j192 : ∀ (v1 : Int32) (v2 : Int32) (v3 : Int32) (v4 : Int32) (v5 : Int32) (v6 : Int32) (v8 : Int32) (v9 : Int32) (v10 : Int32) (t0 : Int32) (S_ : zx_B) (kc : Nat) (H : Heap) (lc : List Loc) (ls : Array Slot), kc + (n70 * 128 + 291) ≤ 4014 → va_P D vwCl (xW2 cI cT h hh aa S_) H → va_D A (xW2 cI cT h hh aa S_) → va_S A s.heap H lc → lv_has ls 19 [(0, .ref h), (1, .int v1), (2, .int v2), (3, .int v3), (4, .int v4), (5, .int v5), (6, .int v6), (8, .int v8), (9, .int v9), (10, .int v10)] → f_L_holds_j192 N (f_L_holds_l70 N  n70) v1 v2 v3 v4 v5 v6 v8 v9 v10 t0 S_ = some R → W p l e (headSpec zsL_holds rmL_holds).room s m ([.ref h, .int p1] : List Value).toArray below meth c H lc kc (6 * kc) Q9 (F0 m 192 ls [.int t0]) := by
              intro v1 v2 v3 v4 v5 v6 v8 v9 v10 t0 S_ kc H lc ls hkc hP hD hS hl hM
              unfold f_L_holds_j192 at hM
              have l204 : ∀ (n204 : Nat) (v1 : Int32) (v2 : Int32) (v3 : Int32) (v4 : Int32) (v5 : Int32) (v6 : Int32) (v7 : Int32) (v8 : Int32) (v9 : Int32) (v10 : Int32) (v11 : Int32) (v12 : Int32) (v13 : Int32) (S_ : zx_B) (kc : Nat) (H : Heap) (lc : List Loc) (ls : Array Slot), kc + (n204 * 4 + n70 * 128 + 171) ≤ 4014 → va_P D vwCl (xW2 cI cT h hh aa S_) H → va_D A (xW2 cI cT h hh aa S_) → va_S A s.heap H lc → lv_has ls 19 [(0, .ref h), (1, .int v1), (2, .int v2), (3, .int v3), (4, .int v4), (5, .int v5), (6, .int v6), (7, .int v7), (8, .int v8), (9, .int v9), (10, .int v10), (11, .int v11), (12, .int v12), (13, .int v13)] → f_L_holds_l204 N (f_L_holds_l70 N  n70) n204 v1 v2 v3 v4 v5 v6 v7 v8 v9 v10 v11 v12 v13 S_ = some R → W p l e (headSpec zsL_holds rmL_holds).room s m ([.ref h, .int p1] : List Value).toArray below meth c H lc kc (6 * kc) Q9 (F0 m 204 ls []) := by
                intro n204
                induction n204 with
                | zero =>
                  intro v1 v2 v3 v4 v5 v6 v7 v8 v9 v10 v11 v12 v13 S_ kc H lc ls hkc hP hD hS hl hM
                  rw [f_L_holds_l204] at hM; exact absurd hM (by intro h; cases h)
                | succ n204 ih204 =>
                  intro v1 v2 v3 v4 v5 v6 v7 v8 v9 v10 v11 v12 v13 S_ kc H lc ls hkc hP hD hS hl hM
                  rw [f_L_holds_l204] at hM
                  have j415 : ∀ (v1 : Int32) (v2 : Int32) (v3 : Int32) (v4 : Int32) (v5 : Int32) (v6 : Int32) (v7 : Int32) (v8 : Int32) (v10 : Int32) (v11 : Int32) (v12 : Int32) (S_ : zx_B) (kc : Nat) (H : Heap) (lc : List Loc) (ls : Array Slot), kc + (n70 * 128 + 171) ≤ 4014 → va_P D vwCl (xW2 cI cT h hh aa S_) H → va_D A (xW2 cI cT h hh aa S_) → va_S A s.heap H lc → lv_has ls 19 [(0, .ref h), (1, .int v1), (2, .int v2), (3, .int v3), (4, .int v4), (5, .int v5), (6, .int v6), (7, .int v7), (8, .int v8), (10, .int v10), (11, .int v11), (12, .int v12)] → f_L_holds_j415 N (f_L_holds_l70 N  n70) v1 v2 v3 v4 v5 v6 v7 v8 v10 v11 v12 S_ = some R → W p l e (headSpec zsL_holds rmL_holds).room s m ([.ref h, .int p1] : List Value).toArray below meth c H lc kc (6 * kc) Q9 (F0 m 415 ls []) := by
                    intro v1 v2 v3 v4 v5 v6 v7 v8 v10 v11 v12 S_ kc H lc ls hkc hP hD hS hl hM
                    unfold f_L_holds_j415 at hM
                    have j474 : ∀ (v1 : Int32) (v2 : Int32) (v3 : Int32) (v4 : Int32) (v5 : Int32) (v6 : Int32) (v8 : Int32) (t0 : Int32) (S_ : zx_B) (kc : Nat) (H : Heap) (lc : List Loc) (ls : Array Slot), kc + (n70 * 128 + 169) ≤ 4014 → va_P D vwCl (xW2 cI cT h hh aa S_) H → va_D A (xW2 cI cT h hh aa S_) → va_S A s.heap H lc → lv_has ls 19 [(0, .ref h), (1, .int v1), (2, .int v2), (3, .int v3), (4, .int v4), (5, .int v5), (6, .int v6), (8, .int v8)] → f_L_holds_j474 N (f_L_holds_l70 N  n70) v1 v2 v3 v4 v5 v6 v8 t0 S_ = some R → W p l e (headSpec zsL_holds rmL_holds).room s m ([.ref h, .int p1] : List Value).toArray below meth c H lc kc (6 * kc) Q9 (F0 m 474 ls [.int t0]) := by
                      intro v1 v2 v3 v4 v5 v6 v8 t0 S_ kc H lc ls hkc hP hD hS hl hM
                      unfold f_L_holds_j474 at hM
                      refine lv_istore (lv' := [(7, .int t0), (0, .ref h), (1, .int v1), (2, .int v2), (3, .int v3), (4, .int v4), (5, .int v5), (6, .int v6), (8, .int v8)]) hx hb dL_holds_474 hl (by decide) rfl (fun ls hl => ?_)
                      obtain ⟨x136, ex136, hM⟩ := zx_nE hM
                      refine lv_iinc (v := x136) (lv' := [(8, .int x136), (7, .int t0), (0, .ref h), (1, .int v1), (2, .int v2), (3, .int v3), (4, .int v4), (5, .int v5), (6, .int v6)]) hx hb dL_holds_476 hl (k := 8) rfl (by rw [ex136]; rfl) (by decide) rfl (fun ls hl => ?_)
                      refine lv_goto (tgt := 70) hx hb dL_holds_479 (by decide) ?_
                      exact ih70 v1 v2 v3 v4 v5 v6 t0 x136 S_ kc _ _ _ (by omega) hP hD hS (lv_sub hl [2, 3, 4, 5, 6, 7, 8, 1, 0] rfl) hM
                    have j473 : ∀ (v1 : Int32) (v2 : Int32) (v3 : Int32) (v4 : Int32) (v5 : Int32) (v6 : Int32) (v8 : Int32) (S_ : zx_B) (kc : Nat) (H : Heap) (lc : List Loc) (ls : Array Slot), kc + (n70 * 128 + 169) ≤ 4014 → va_P D vwCl (xW2 cI cT h hh aa S_) H → va_D A (xW2 cI cT h hh aa S_) → va_S A s.heap H lc → lv_has ls 19 [(0, .ref h), (1, .int v1), (2, .int v2), (3, .int v3), (4, .int v4), (5, .int v5), (6, .int v6), (8, .int v8)] → f_L_holds_j473 N (f_L_holds_l70 N  n70) v1 v2 v3 v4 v5 v6 v8 S_ = some R → W p l e (headSpec zsL_holds rmL_holds).room s m ([.ref h, .int p1] : List Value).toArray below meth c H lc kc (6 * kc) Q9 (F0 m 473 ls []) := by
                      intro v1 v2 v3 v4 v5 v6 v8 S_ kc H lc ls hkc hP hD hS hl hM
                      unfold f_L_holds_j473 at hM
                      refine lv_iconst (v := 0) hx hb dL_holds_473 (by decide) ?_
                      exact j474 v1 v2 v3 v4 v5 v6 v8 0 S_ kc _ _ _ (by omega) hP hD hS (lv_sub hl [0, 1, 2, 3, 4, 5, 6, 7] rfl) hM
                    refine lv_iload hx hb dL_holds_415 (lv_at hl 7 rfl) ?_
                    refine lv_if_eq (tgt := 473) hx hb dL_holds_417 (by decide) (fun q137 => ?_) (fun q137 => ?_)
                    · replace hM := zx_t q137 hM
                      exact j473 v1 v2 v3 v4 v5 v6 v8 S_ kc _ _ _ (by omega) hP hD hS (lv_sub hl [0, 1, 2, 3, 4, 5, 6, 8] rfl) hM
                    · replace hM := zx_f q137 hM
                      have j469 : ∀ (v1 : Int32) (v2 : Int32) (v3 : Int32) (v4 : Int32) (v5 : Int32) (v6 : Int32) (v8 : Int32) (S_ : zx_B) (kc : Nat) (H : Heap) (lc : List Loc) (ls : Array Slot), kc + (n70 * 128 + 169) ≤ 4014 → va_P D vwCl (xW2 cI cT h hh aa S_) H → va_D A (xW2 cI cT h hh aa S_) → va_S A s.heap H lc → lv_has ls 19 [(0, .ref h), (1, .int v1), (2, .int v2), (3, .int v3), (4, .int v4), (5, .int v5), (6, .int v6), (8, .int v8)] → f_L_holds_j469 N (f_L_holds_l70 N  n70) v1 v2 v3 v4 v5 v6 v8 S_ = some R → W p l e (headSpec zsL_holds rmL_holds).room s m ([.ref h, .int p1] : List Value).toArray below meth c H lc kc (6 * kc) Q9 (F0 m 469 ls []) := by
                        intro v1 v2 v3 v4 v5 v6 v8 S_ kc H lc ls hkc hP hD hS hl hM
                        unfold f_L_holds_j469 at hM
                        refine lv_iconst (v := 1) hx hb dL_holds_469 (by decide) ?_
                        refine lv_goto (tgt := 474) hx hb dL_holds_470 (by decide) ?_
                        exact j474 v1 v2 v3 v4 v5 v6 v8 1 S_ kc _ _ _ (by omega) hP hD hS (lv_sub hl [0, 1, 2, 3, 4, 5, 6, 7] rfl) hM
                      refine lv_iload hx hb dL_holds_420 (lv_at hl 9 rfl) ?_
                      refine lv_if_ne (tgt := 441) hx hb dL_holds_422 (by decide) (fun q138 => ?_) (fun q138 => ?_)
                      · replace hM := zx_f q138 hM
                        refine lv_aload_n hx hb dL_holds_441 rfl (lv_at hl 0 rfl) ?_
                        refine lv_iconst (v := 3) hx hb dL_holds_442 (by decide) ?_
                        refine lv_iload hx hb dL_holds_443 (lv_at hl 8 rfl) ?_
                        refine lv_iconst (v := 2) hx hb dL_holds_445 (by decide) ?_
                        refine lv_iconst (v := 0) hx hb dL_holds_446 (by decide) ?_
                        obtain ⟨x139, T140, hz141, hM⟩ := zx_b2E hM
                        have hF := zx_fW hD hS hA
                        refine va_calli (va_runS (As := [.ref h, .int 3, .int v8, .int 2, .int 0]) (rest := []) ⟨hx, hb, hml, hown, hts⟩ (c_L_call l hlt D cI cZ cT h hh aa S_ _ N 3 v8 2 0 hz141) (va_cwS 5 hts (zg_S zw_4_2 zw_4_3 zw_3_14 zw_4_4) rfl rfl rfl zyL_call ⟨Nat.le_of_ble_eq_true rfl, Nat.le_of_ble_eq_true rfl⟩) ⟨bY_blind, bY_pre hP hK hD hN hXX hNc hS hF⟩ rfl rfl hl.1 rfl (lv_room (Nat.le_of_ble_eq_true rfl)) dL_holds_447 ⟨by show kc + 1 ≤ 4014; omega, by show 6 * kc + 6 ≤ 24084; omega⟩) hS (fun q _ h => hF q h) (fun q h => hF q h) (fun r u t H1 lc ht hvm hw hB hz1 hk1 hS => ?_)
                        obtain ⟨hw1, hw2⟩ := Prod.mk.inj hw; subst hw1; subst hw2
                        rw [ht] at hB
                        replace hP := hB
                        replace hD := zx2_Da T140 hD
                        refine W.widen (k := (kc + 1)) (n := 6 * (kc + 1)) (by omega) (by omega) ?_
                        refine lv_iload hx hb dL_holds_450 (lv_at hl 10 rfl) ?_
                        refine lv_icmp_ne (tgt := 473) hx hb dL_holds_452 (by decide) (fun q142 => ?_) (fun q142 => ?_)
                        · replace hM := zx_f q142 hM
                          exact j473 v1 v2 v3 v4 v5 v6 v8 T140 (kc + 1) _ _ _ (by omega) hP hD hS (lv_sub hl [0, 1, 2, 3, 4, 5, 6, 8] rfl) hM
                        · replace hM := zx_t q142 hM
                          refine lv_aload_n hx hb dL_holds_455 rfl (lv_at hl 0 rfl) ?_
                          refine lv_iconst (v := 3) hx hb dL_holds_456 (by decide) ?_
                          refine lv_iload hx hb dL_holds_457 (lv_at hl 8 rfl) ?_
                          refine lv_iconst (v := 5) hx hb dL_holds_459 (by decide) ?_
                          refine lv_iconst (v := 0) hx hb dL_holds_460 (by decide) ?_
                          obtain ⟨x143, T144, hz145, hM⟩ := zx_b2E hM
                          have hF := zx_fW hD hS hA
                          refine va_calli (va_runS (As := [.ref h, .int 3, .int v8, .int 5, .int 0]) (rest := []) ⟨hx, hb, hml, hown, hts⟩ (c_L_call l hlt D cI cZ cT h hh aa T140 _ N 3 v8 5 0 hz145) (va_cwS 5 hts (zg_S zw_4_2 zw_4_3 zw_3_14 zw_4_4) rfl rfl rfl zyL_call ⟨Nat.le_of_ble_eq_true rfl, Nat.le_of_ble_eq_true rfl⟩) ⟨bY_blind, bY_pre hP hK hD hN hXX hNc hS hF⟩ rfl rfl hl.1 rfl (lv_room (Nat.le_of_ble_eq_true rfl)) dL_holds_461 ⟨by show (kc + 1) + 1 ≤ 4014; omega, by show 6 * (kc + 1) + 6 ≤ 24084; omega⟩) hS (fun q _ h => hF q h) (fun q h => hF q h) (fun r u t H1 lc ht hvm hw hB hz1 hk1 hS => ?_)
                          obtain ⟨hw1, hw2⟩ := Prod.mk.inj hw; subst hw1; subst hw2
                          rw [ht] at hB
                          replace hP := hB
                          replace hD := zx2_Da T144 hD
                          refine W.widen (k := (kc + 2)) (n := 6 * (kc + 2)) (by omega) (by omega) ?_
                          refine lv_iload hx hb dL_holds_464 (lv_at hl 11 rfl) ?_
                          refine lv_icmp_ne (tgt := 473) hx hb dL_holds_466 (by decide) (fun q146 => ?_) (fun q146 => ?_)
                          · replace hM := zx_f q146 hM
                            exact j473 v1 v2 v3 v4 v5 v6 v8 T144 (kc + 2) _ _ _ (by omega) hP hD hS (lv_sub hl [0, 1, 2, 3, 4, 5, 6, 8] rfl) hM
                          · replace hM := zx_t q146 hM
                            exact j469 v1 v2 v3 v4 v5 v6 v8 T144 (kc + 2) _ _ _ (by omega) hP hD hS (lv_sub hl [0, 1, 2, 3, 4, 5, 6, 8] rfl) hM
                      · replace hM := zx_t q138 hM
                        refine lv_aload_n hx hb dL_holds_425 rfl (lv_at hl 0 rfl) ?_
                        refine lv_iconst (v := 3) hx hb dL_holds_426 (by decide) ?_
                        refine lv_iload hx hb dL_holds_427 (lv_at hl 8 rfl) ?_
                        refine lv_iconst (v := 2) hx hb dL_holds_429 (by decide) ?_
                        refine lv_iconst (v := 0) hx hb dL_holds_430 (by decide) ?_
                        obtain ⟨x147, T148, hz149, hM⟩ := zx_b2E hM
                        have hF := zx_fW hD hS hA
                        refine va_calli (va_runS (As := [.ref h, .int 3, .int v8, .int 2, .int 0]) (rest := []) ⟨hx, hb, hml, hown, hts⟩ (c_L_call l hlt D cI cZ cT h hh aa S_ _ N 3 v8 2 0 hz149) (va_cwS 5 hts (zg_S zw_4_2 zw_4_3 zw_3_14 zw_4_4) rfl rfl rfl zyL_call ⟨Nat.le_of_ble_eq_true rfl, Nat.le_of_ble_eq_true rfl⟩) ⟨bY_blind, bY_pre hP hK hD hN hXX hNc hS hF⟩ rfl rfl hl.1 rfl (lv_room (Nat.le_of_ble_eq_true rfl)) dL_holds_431 ⟨by show kc + 1 ≤ 4014; omega, by show 6 * kc + 6 ≤ 24084; omega⟩) hS (fun q _ h => hF q h) (fun q h => hF q h) (fun r u t H1 lc ht hvm hw hB hz1 hk1 hS => ?_)
                        obtain ⟨hw1, hw2⟩ := Prod.mk.inj hw; subst hw1; subst hw2
                        rw [ht] at hB
                        replace hP := hB
                        replace hD := zx2_Da T148 hD
                        refine W.widen (k := (kc + 1)) (n := 6 * (kc + 1)) (by omega) (by omega) ?_
                        refine lv_iconst (v := (-1)) hx hb dL_holds_434 (by decide) ?_
                        refine lv_icmp_ne (tgt := 473) hx hb dL_holds_435 (by decide) (fun q150 => ?_) (fun q150 => ?_)
                        · replace hM := zx_f q150 hM
                          exact j473 v1 v2 v3 v4 v5 v6 v8 T148 (kc + 1) _ _ _ (by omega) hP hD hS (lv_sub hl [0, 1, 2, 3, 4, 5, 6, 8] rfl) hM
                        · replace hM := zx_t q150 hM
                          refine lv_goto (tgt := 469) hx hb dL_holds_438 (by decide) ?_
                          exact j469 v1 v2 v3 v4 v5 v6 v8 T148 (kc + 1) _ _ _ (by omega) hP hD hS (lv_sub hl [0, 1, 2, 3, 4, 5, 6, 8] rfl) hM
                  refine lv_iload hx hb dL_holds_204 (lv_at hl 13 rfl) ?_
                  refine lv_iload hx hb dL_holds_206 (lv_at hl 10 rfl) ?_
                  refine lv_icmp_ge (tgt := 415) hx hb dL_holds_208 (by decide) (fun q151 => ?_) (fun q151 => ?_)
                  · replace hM := zx_t q151 hM
                    exact j415 v1 v2 v3 v4 v5 v6 v7 v8 v10 v11 v12 S_ kc _ _ _ (by omega) hP hD hS (lv_sub hl [0, 1, 2, 3, 4, 5, 6, 7, 8, 10, 11, 12] rfl) hM
                  · replace hM := zx_f q151 hM
                    refine lv_iload hx hb dL_holds_211 (lv_at hl 7 rfl) ?_
                    refine lv_if_eq (tgt := 415) hx hb dL_holds_213 (by decide) (fun q152 => ?_) (fun q152 => ?_)
                    · replace hM := zx_t q152 hM
                      exact j415 v1 v2 v3 v4 v5 v6 v7 v8 v10 v11 v12 S_ kc _ _ _ (by omega) hP hD hS (lv_sub hl [0, 1, 2, 3, 4, 5, 6, 7, 8, 10, 11, 12] rfl) hM
                    · replace hM := zx_f q152 hM
                      have j240 : ∀ (v1 : Int32) (v2 : Int32) (v3 : Int32) (v4 : Int32) (v6 : Int32) (v8 : Int32) (v9 : Int32) (v10 : Int32) (v11 : Int32) (v12 : Int32) (v13 : Int32) (v14 : Int32) (t0 : Int32) (t1 : Int32) (S_ : zx_B) (kc : Nat) (H : Heap) (lc : List Loc) (ls : Array Slot), kc + (n204 * 4 + n70 * 128 + 174) ≤ 4014 → va_P D vwCl (xW2 cI cT h hh aa S_) H → va_D A (xW2 cI cT h hh aa S_) → va_S A s.heap H lc → lv_has ls 19 [(0, .ref h), (1, .int v1), (2, .int v2), (3, .int v3), (4, .int v4), (6, .int v6), (8, .int v8), (9, .int v9), (10, .int v10), (11, .int v11), (12, .int v12), (13, .int v13), (14, .int v14)] → f_L_holds_j240 N (f_L_holds_l70 N  n70) (f_L_holds_l204 N (f_L_holds_l70 N  n70)  n204) v1 v2 v3 v4 v6 v8 v9 v10 v11 v12 v13 v14 t0 t1 S_ = some R → W p l e (headSpec zsL_holds rmL_holds).room s m ([.ref h, .int p1] : List Value).toArray below meth c H lc kc (6 * kc) Q9 (F0 m 240 ls [.int t1, .int t0]) := by
                        intro v1 v2 v3 v4 v6 v8 v9 v10 v11 v12 v13 v14 t0 t1 S_ kc H lc ls hkc hP hD hS hl hM
                        unfold f_L_holds_j240 at hM
                        have j255 : ∀ (v1 : Int32) (v2 : Int32) (v3 : Int32) (v4 : Int32) (v5 : Int32) (v8 : Int32) (v9 : Int32) (v10 : Int32) (v11 : Int32) (v12 : Int32) (v13 : Int32) (v14 : Int32) (t0 : Int32) (t1 : Int32) (S_ : zx_B) (kc : Nat) (H : Heap) (lc : List Loc) (ls : Array Slot), kc + (n204 * 4 + n70 * 128 + 174) ≤ 4014 → va_P D vwCl (xW2 cI cT h hh aa S_) H → va_D A (xW2 cI cT h hh aa S_) → va_S A s.heap H lc → lv_has ls 19 [(0, .ref h), (1, .int v1), (2, .int v2), (3, .int v3), (4, .int v4), (5, .int v5), (8, .int v8), (9, .int v9), (10, .int v10), (11, .int v11), (12, .int v12), (13, .int v13), (14, .int v14)] → f_L_holds_j255 N (f_L_holds_l70 N  n70) (f_L_holds_l204 N (f_L_holds_l70 N  n70)  n204) v1 v2 v3 v4 v5 v8 v9 v10 v11 v12 v13 v14 t0 t1 S_ = some R → W p l e (headSpec zsL_holds rmL_holds).room s m ([.ref h, .int p1] : List Value).toArray below meth c H lc kc (6 * kc) Q9 (F0 m 255 ls [.int t1, .int t0]) := by
                          intro v1 v2 v3 v4 v5 v8 v9 v10 v11 v12 v13 v14 t0 t1 S_ kc H lc ls hkc hP hD hS hl hM
                          unfold f_L_holds_j255 at hM
                          have j284 : ∀ (v1 : Int32) (v2 : Int32) (v3 : Int32) (v4 : Int32) (v5 : Int32) (v6 : Int32) (v8 : Int32) (v9 : Int32) (v10 : Int32) (v11 : Int32) (v12 : Int32) (v13 : Int32) (v14 : Int32) (t0 : Int32) (S_ : zx_B) (kc : Nat) (H : Heap) (lc : List Loc) (ls : Array Slot), kc + (n204 * 4 + n70 * 128 + 173) ≤ 4014 → va_P D vwCl (xW2 cI cT h hh aa S_) H → va_D A (xW2 cI cT h hh aa S_) → va_S A s.heap H lc → lv_has ls 19 [(0, .ref h), (1, .int v1), (2, .int v2), (3, .int v3), (4, .int v4), (5, .int v5), (6, .int v6), (8, .int v8), (9, .int v9), (10, .int v10), (11, .int v11), (12, .int v12), (13, .int v13), (14, .int v14)] → f_L_holds_j284 N (f_L_holds_l70 N  n70) (f_L_holds_l204 N (f_L_holds_l70 N  n70)  n204) v1 v2 v3 v4 v5 v6 v8 v9 v10 v11 v12 v13 v14 t0 S_ = some R → W p l e (headSpec zsL_holds rmL_holds).room s m ([.ref h, .int p1] : List Value).toArray below meth c H lc kc (6 * kc) Q9 (F0 m 284 ls [.int t0]) := by
                            intro v1 v2 v3 v4 v5 v6 v8 v9 v10 v11 v12 v13 v14 t0 S_ kc H lc ls hkc hP hD hS hl hM
                            unfold f_L_holds_j284 at hM
                            have j312 : ∀ (v1 : Int32) (v2 : Int32) (v3 : Int32) (v4 : Int32) (v5 : Int32) (v6 : Int32) (v8 : Int32) (v9 : Int32) (v10 : Int32) (v11 : Int32) (v12 : Int32) (v13 : Int32) (v14 : Int32) (v15 : Int32) (t0 : Int32) (S_ : zx_B) (kc : Nat) (H : Heap) (lc : List Loc) (ls : Array Slot), kc + (n204 * 4 + n70 * 128 + 172) ≤ 4014 → va_P D vwCl (xW2 cI cT h hh aa S_) H → va_D A (xW2 cI cT h hh aa S_) → va_S A s.heap H lc → lv_has ls 19 [(0, .ref h), (1, .int v1), (2, .int v2), (3, .int v3), (4, .int v4), (5, .int v5), (6, .int v6), (8, .int v8), (9, .int v9), (10, .int v10), (11, .int v11), (12, .int v12), (13, .int v13), (14, .int v14), (15, .int v15)] → f_L_holds_j312 N (f_L_holds_l70 N  n70) (f_L_holds_l204 N (f_L_holds_l70 N  n70)  n204) v1 v2 v3 v4 v5 v6 v8 v9 v10 v11 v12 v13 v14 v15 t0 S_ = some R → W p l e (headSpec zsL_holds rmL_holds).room s m ([.ref h, .int p1] : List Value).toArray below meth c H lc kc (6 * kc) Q9 (F0 m 312 ls [.int t0]) := by
                              intro v1 v2 v3 v4 v5 v6 v8 v9 v10 v11 v12 v13 v14 v15 t0 S_ kc H lc ls hkc hP hD hS hl hM
                              unfold f_L_holds_j312 at hM
                              have j328 : ∀ (v1 : Int32) (v2 : Int32) (v3 : Int32) (v4 : Int32) (v5 : Int32) (v6 : Int32) (v8 : Int32) (v9 : Int32) (v10 : Int32) (v12 : Int32) (v13 : Int32) (v14 : Int32) (v16 : Int32) (t0 : Int32) (S_ : zx_B) (kc : Nat) (H : Heap) (lc : List Loc) (ls : Array Slot), kc + (n204 * 4 + n70 * 128 + 172) ≤ 4014 → va_P D vwCl (xW2 cI cT h hh aa S_) H → va_D A (xW2 cI cT h hh aa S_) → va_S A s.heap H lc → lv_has ls 19 [(0, .ref h), (1, .int v1), (2, .int v2), (3, .int v3), (4, .int v4), (5, .int v5), (6, .int v6), (8, .int v8), (9, .int v9), (10, .int v10), (12, .int v12), (13, .int v13), (14, .int v14), (16, .int v16)] → f_L_holds_j328 N (f_L_holds_l70 N  n70) (f_L_holds_l204 N (f_L_holds_l70 N  n70)  n204) v1 v2 v3 v4 v5 v6 v8 v9 v10 v12 v13 v14 v16 t0 S_ = some R → W p l e (headSpec zsL_holds rmL_holds).room s m ([.ref h, .int p1] : List Value).toArray below meth c H lc kc (6 * kc) Q9 (F0 m 328 ls [.int t0]) := by
                                intro v1 v2 v3 v4 v5 v6 v8 v9 v10 v12 v13 v14 v16 t0 S_ kc H lc ls hkc hP hD hS hl hM
                                unfold f_L_holds_j328 at hM
                                have j344 : ∀ (v1 : Int32) (v2 : Int32) (v3 : Int32) (v4 : Int32) (v5 : Int32) (v6 : Int32) (v8 : Int32) (v9 : Int32) (v10 : Int32) (v11 : Int32) (v13 : Int32) (v14 : Int32) (t0 : Int32) (S_ : zx_B) (kc : Nat) (H : Heap) (lc : List Loc) (ls : Array Slot), kc + (n204 * 4 + n70 * 128 + 172) ≤ 4014 → va_P D vwCl (xW2 cI cT h hh aa S_) H → va_D A (xW2 cI cT h hh aa S_) → va_S A s.heap H lc → lv_has ls 19 [(0, .ref h), (1, .int v1), (2, .int v2), (3, .int v3), (4, .int v4), (5, .int v5), (6, .int v6), (8, .int v8), (9, .int v9), (10, .int v10), (11, .int v11), (13, .int v13), (14, .int v14)] → f_L_holds_j344 N (f_L_holds_l70 N  n70) (f_L_holds_l204 N (f_L_holds_l70 N  n70)  n204) v1 v2 v3 v4 v5 v6 v8 v9 v10 v11 v13 v14 t0 S_ = some R → W p l e (headSpec zsL_holds rmL_holds).room s m ([.ref h, .int p1] : List Value).toArray below meth c H lc kc (6 * kc) Q9 (F0 m 344 ls [.int t0]) := by
                                  intro v1 v2 v3 v4 v5 v6 v8 v9 v10 v11 v13 v14 t0 S_ kc H lc ls hkc hP hD hS hl hM
                                  unfold f_L_holds_j344 at hM
                                  have j407 : ∀ (v1 : Int32) (v2 : Int32) (v3 : Int32) (v4 : Int32) (v5 : Int32) (v6 : Int32) (v8 : Int32) (v9 : Int32) (v10 : Int32) (v11 : Int32) (v12 : Int32) (v13 : Int32) (t0 : Int32) (S_ : zx_B) (kc : Nat) (H : Heap) (lc : List Loc) (ls : Array Slot), kc + (n204 * 4 + n70 * 128 + 171) ≤ 4014 → va_P D vwCl (xW2 cI cT h hh aa S_) H → va_D A (xW2 cI cT h hh aa S_) → va_S A s.heap H lc → lv_has ls 19 [(0, .ref h), (1, .int v1), (2, .int v2), (3, .int v3), (4, .int v4), (5, .int v5), (6, .int v6), (8, .int v8), (9, .int v9), (10, .int v10), (11, .int v11), (12, .int v12), (13, .int v13)] → f_L_holds_j407 N (f_L_holds_l70 N  n70) (f_L_holds_l204 N (f_L_holds_l70 N  n70)  n204) v1 v2 v3 v4 v5 v6 v8 v9 v10 v11 v12 v13 t0 S_ = some R → W p l e (headSpec zsL_holds rmL_holds).room s m ([.ref h, .int p1] : List Value).toArray below meth c H lc kc (6 * kc) Q9 (F0 m 407 ls [.int t0]) := by
                                    intro v1 v2 v3 v4 v5 v6 v8 v9 v10 v11 v12 v13 t0 S_ kc H lc ls hkc hP hD hS hl hM
                                    unfold f_L_holds_j407 at hM
                                    refine lv_istore (lv' := [(7, .int t0), (0, .ref h), (1, .int v1), (2, .int v2), (3, .int v3), (4, .int v4), (5, .int v5), (6, .int v6), (8, .int v8), (9, .int v9), (10, .int v10), (11, .int v11), (12, .int v12), (13, .int v13)]) hx hb dL_holds_407 hl (by decide) rfl (fun ls hl => ?_)
                                    obtain ⟨x153, ex153, hM⟩ := zx_nE hM
                                    refine lv_iinc (v := x153) (lv' := [(13, .int x153), (7, .int t0), (0, .ref h), (1, .int v1), (2, .int v2), (3, .int v3), (4, .int v4), (5, .int v5), (6, .int v6), (8, .int v8), (9, .int v9), (10, .int v10), (11, .int v11), (12, .int v12)]) hx hb dL_holds_409 hl (k := 13) rfl (by rw [ex153]; rfl) (by decide) rfl (fun ls hl => ?_)
                                    refine lv_goto (tgt := 204) hx hb dL_holds_412 (by decide) ?_
                                    exact ih204 v1 v2 v3 v4 v5 v6 t0 v8 v9 v10 v11 v12 x153 S_ kc _ _ _ (by omega) hP hD hS (lv_sub hl [2, 3, 4, 5, 6, 7, 8, 1, 9, 10, 11, 12, 13, 0] rfl) hM
                                  refine lv_istore (lv' := [(12, .int t0), (0, .ref h), (1, .int v1), (2, .int v2), (3, .int v3), (4, .int v4), (5, .int v5), (6, .int v6), (8, .int v8), (9, .int v9), (10, .int v10), (11, .int v11), (13, .int v13), (14, .int v14)]) hx hb dL_holds_344 hl (by decide) rfl (fun ls hl => ?_)
                                  refine lv_iload hx hb dL_holds_346 (lv_at hl 9 rfl) ?_
                                  refine lv_if_ne (tgt := 373) hx hb dL_holds_348 (by decide) (fun q154 => ?_) (fun q154 => ?_)
                                  · replace hM := zx_f q154 hM
                                    have j406 : ∀ (v1 : Int32) (v2 : Int32) (v3 : Int32) (v4 : Int32) (v5 : Int32) (v6 : Int32) (v8 : Int32) (v9 : Int32) (v10 : Int32) (v11 : Int32) (v12 : Int32) (v13 : Int32) (S_ : zx_B) (kc : Nat) (H : Heap) (lc : List Loc) (ls : Array Slot), kc + (n204 * 4 + n70 * 128 + 171) ≤ 4014 → va_P D vwCl (xW2 cI cT h hh aa S_) H → va_D A (xW2 cI cT h hh aa S_) → va_S A s.heap H lc → lv_has ls 19 [(0, .ref h), (1, .int v1), (2, .int v2), (3, .int v3), (4, .int v4), (5, .int v5), (6, .int v6), (8, .int v8), (9, .int v9), (10, .int v10), (11, .int v11), (12, .int v12), (13, .int v13)] → f_L_holds_j406 N (f_L_holds_l70 N  n70) (f_L_holds_l204 N (f_L_holds_l70 N  n70)  n204) v1 v2 v3 v4 v5 v6 v8 v9 v10 v11 v12 v13 S_ = some R → W p l e (headSpec zsL_holds rmL_holds).room s m ([.ref h, .int p1] : List Value).toArray below meth c H lc kc (6 * kc) Q9 (F0 m 406 ls []) := by
                                      intro v1 v2 v3 v4 v5 v6 v8 v9 v10 v11 v12 v13 S_ kc H lc ls hkc hP hD hS hl hM
                                      unfold f_L_holds_j406 at hM
                                      refine lv_iconst (v := 0) hx hb dL_holds_406 (by decide) ?_
                                      exact j407 v1 v2 v3 v4 v5 v6 v8 v9 v10 v11 v12 v13 0 S_ kc _ _ _ (by omega) hP hD hS (lv_sub hl [0, 1, 2, 3, 4, 5, 6, 7, 8, 9, 10, 11, 12] rfl) hM
                                    refine lv_aload_n hx hb dL_holds_373 rfl (lv_at hl 1 rfl) ?_
                                    refine lv_iconst (v := 3) hx hb dL_holds_374 (by decide) ?_
                                    refine lv_iload hx hb dL_holds_375 (lv_at hl 13 rfl) ?_
                                    refine lv_bipush (v := 6) hx hb dL_holds_377 (by decide) ?_
                                    refine lv_iconst (v := 0) hx hb dL_holds_379 (by decide) ?_
                                    obtain ⟨x155, T156, hz157, hM⟩ := zx_b2E hM
                                    have hF := zx_fW hD hS hA
                                    refine va_calli (va_runS (As := [.ref h, .int 3, .int v14, .int 6, .int 0]) (rest := []) ⟨hx, hb, hml, hown, hts⟩ (c_L_call l hlt D cI cZ cT h hh aa S_ _ N 3 v14 6 0 hz157) (va_cwS 5 hts (zg_S zw_4_2 zw_4_3 zw_3_14 zw_4_4) rfl rfl rfl zyL_call ⟨Nat.le_of_ble_eq_true rfl, Nat.le_of_ble_eq_true rfl⟩) ⟨bY_blind, bY_pre hP hK hD hN hXX hNc hS hF⟩ rfl rfl hl.1 rfl (lv_room (Nat.le_of_ble_eq_true rfl)) dL_holds_380 ⟨by show kc + 1 ≤ 4014; omega, by show 6 * kc + 6 ≤ 24084; omega⟩) hS (fun q _ h => hF q h) (fun q h => hF q h) (fun r u t H1 lc ht hvm hw hB hz1 hk1 hS => ?_)
                                    obtain ⟨hw1, hw2⟩ := Prod.mk.inj hw; subst hw1; subst hw2
                                    rw [ht] at hB
                                    replace hP := hB
                                    replace hD := zx2_Da T156 hD
                                    refine W.widen (k := (kc + 1)) (n := 6 * (kc + 1)) (by omega) (by omega) ?_
                                    refine lv_iload hx hb dL_holds_383 (lv_at hl 8 rfl) ?_
                                    refine lv_icmp_ne (tgt := 406) hx hb dL_holds_385 (by decide) (fun q158 => ?_) (fun q158 => ?_)
                                    · replace hM := zx_f q158 hM
                                      exact j406 v1 v2 v3 v4 v5 v6 v8 v9 v10 v11 t0 v13 T156 (kc + 1) _ _ _ (by omega) hP hD hS (lv_sub hl [1, 2, 3, 4, 5, 6, 7, 8, 9, 10, 11, 0, 12] rfl) hM
                                    · replace hM := zx_t q158 hM
                                      have j402 : ∀ (v1 : Int32) (v2 : Int32) (v3 : Int32) (v4 : Int32) (v5 : Int32) (v6 : Int32) (v8 : Int32) (v9 : Int32) (v10 : Int32) (v11 : Int32) (v12 : Int32) (v13 : Int32) (S_ : zx_B) (kc : Nat) (H : Heap) (lc : List Loc) (ls : Array Slot), kc + (n204 * 4 + n70 * 128 + 171) ≤ 4014 → va_P D vwCl (xW2 cI cT h hh aa S_) H → va_D A (xW2 cI cT h hh aa S_) → va_S A s.heap H lc → lv_has ls 19 [(0, .ref h), (1, .int v1), (2, .int v2), (3, .int v3), (4, .int v4), (5, .int v5), (6, .int v6), (8, .int v8), (9, .int v9), (10, .int v10), (11, .int v11), (12, .int v12), (13, .int v13)] → f_L_holds_j402 N (f_L_holds_l70 N  n70) (f_L_holds_l204 N (f_L_holds_l70 N  n70)  n204) v1 v2 v3 v4 v5 v6 v8 v9 v10 v11 v12 v13 S_ = some R → W p l e (headSpec zsL_holds rmL_holds).room s m ([.ref h, .int p1] : List Value).toArray below meth c H lc kc (6 * kc) Q9 (F0 m 402 ls []) := by
                                        intro v1 v2 v3 v4 v5 v6 v8 v9 v10 v11 v12 v13 S_ kc H lc ls hkc hP hD hS hl hM
                                        unfold f_L_holds_j402 at hM
                                        refine lv_iconst (v := 1) hx hb dL_holds_402 (by decide) ?_
                                        refine lv_goto (tgt := 407) hx hb dL_holds_403 (by decide) ?_
                                        exact j407 v1 v2 v3 v4 v5 v6 v8 v9 v10 v11 v12 v13 1 S_ kc _ _ _ (by omega) hP hD hS (lv_sub hl [0, 1, 2, 3, 4, 5, 6, 7, 8, 9, 10, 11, 12] rfl) hM
                                      refine lv_iload hx hb dL_holds_388 (lv_at hl 12 rfl) ?_
                                      refine lv_if_gt (tgt := 402) hx hb dL_holds_390 (by decide) (fun q159 => ?_) (fun q159 => ?_)
                                      · replace hM := zx_t q159 hM
                                        exact j402 v1 v2 v3 v4 v5 v6 v8 v9 v10 v11 t0 v13 T156 (kc + 1) _ _ _ (by omega) hP hD hS (lv_sub hl [1, 2, 3, 4, 5, 6, 7, 8, 9, 10, 11, 0, 12] rfl) hM
                                      · replace hM := zx_f q159 hM
                                        refine lv_iload hx hb dL_holds_393 (lv_at hl 13 rfl) ?_
                                        refine lv_iload hx hb dL_holds_395 (lv_at hl 8 rfl) ?_
                                        refine lv_iconst (v := 1) hx hb dL_holds_397 (by decide) ?_
                                        refine lv_iadd hx hb dL_holds_398 ?_
                                        refine lv_icmp_ne (tgt := 406) hx hb dL_holds_399 (by decide) (fun q160 => ?_) (fun q160 => ?_)
                                        · replace hM := zx_f q160 hM
                                          exact j406 v1 v2 v3 v4 v5 v6 v8 v9 v10 v11 t0 v13 T156 (kc + 1) _ _ _ (by omega) hP hD hS (lv_sub hl [1, 2, 3, 4, 5, 6, 7, 8, 9, 10, 11, 0, 12] rfl) hM
                                        · replace hM := zx_t q160 hM
                                          exact j402 v1 v2 v3 v4 v5 v6 v8 v9 v10 v11 t0 v13 T156 (kc + 1) _ _ _ (by omega) hP hD hS (lv_sub hl [1, 2, 3, 4, 5, 6, 7, 8, 9, 10, 11, 0, 12] rfl) hM
                                  · replace hM := zx_t q154 hM
                                    refine lv_aload_n hx hb dL_holds_351 rfl (lv_at hl 1 rfl) ?_
                                    refine lv_iconst (v := 2) hx hb dL_holds_352 (by decide) ?_
                                    refine lv_iload hx hb dL_holds_353 (lv_at hl 13 rfl) ?_
                                    refine lv_iconst (v := 4) hx hb dL_holds_355 (by decide) ?_
                                    refine lv_iconst (v := 0) hx hb dL_holds_356 (by decide) ?_
                                    obtain ⟨x161, T162, hz163, hM⟩ := zx_b2E hM
                                    have hF := zx_fW hD hS hA
                                    refine va_calli (va_runS (As := [.ref h, .int 2, .int v14, .int 4, .int 0]) (rest := []) ⟨hx, hb, hml, hown, hts⟩ (c_L_call l hlt D cI cZ cT h hh aa S_ _ N 2 v14 4 0 hz163) (va_cwS 5 hts (zg_S zw_4_2 zw_4_3 zw_3_14 zw_4_4) rfl rfl rfl zyL_call ⟨Nat.le_of_ble_eq_true rfl, Nat.le_of_ble_eq_true rfl⟩) ⟨bY_blind, bY_pre hP hK hD hN hXX hNc hS hF⟩ rfl rfl hl.1 rfl (lv_room (Nat.le_of_ble_eq_true rfl)) dL_holds_357 ⟨by show kc + 1 ≤ 4014; omega, by show 6 * kc + 6 ≤ 24084; omega⟩) hS (fun q _ h => hF q h) (fun q h => hF q h) (fun r u t H1 lc ht hvm hw hB hz1 hk1 hS => ?_)
                                    obtain ⟨hw1, hw2⟩ := Prod.mk.inj hw; subst hw1; subst hw2
                                    rw [ht] at hB
                                    replace hP := hB
                                    replace hD := zx2_Da T162 hD
                                    refine W.widen (k := (kc + 1)) (n := 6 * (kc + 1)) (by omega) (by omega) ?_
                                    refine lv_iload hx hb dL_holds_360 (lv_at hl 8 rfl) ?_
                                    refine lv_icmp_ne (tgt := 369) hx hb dL_holds_362 (by decide) (fun q164 => ?_) (fun q164 => ?_)
                                    · replace hM := zx_f q164 hM
                                      refine lv_iconst (v := 0) hx hb dL_holds_369 (by decide) ?_
                                      refine lv_goto (tgt := 407) hx hb dL_holds_370 (by decide) ?_
                                      exact j407 v1 v2 v3 v4 v5 v6 v8 v9 v10 v11 t0 v13 0 T162 (kc + 1) _ _ _ (by omega) hP hD hS (lv_sub hl [1, 2, 3, 4, 5, 6, 7, 8, 9, 10, 11, 0, 12] rfl) hM
                                    · replace hM := zx_t q164 hM
                                      refine lv_iconst (v := 1) hx hb dL_holds_365 (by decide) ?_
                                      refine lv_goto (tgt := 407) hx hb dL_holds_366 (by decide) ?_
                                      exact j407 v1 v2 v3 v4 v5 v6 v8 v9 v10 v11 t0 v13 1 T162 (kc + 1) _ _ _ (by omega) hP hD hS (lv_sub hl [1, 2, 3, 4, 5, 6, 7, 8, 9, 10, 11, 0, 12] rfl) hM
                                refine lv_istore (lv' := [(11, .int t0), (0, .ref h), (1, .int v1), (2, .int v2), (3, .int v3), (4, .int v4), (5, .int v5), (6, .int v6), (8, .int v8), (9, .int v9), (10, .int v10), (12, .int v12), (13, .int v13), (14, .int v14), (16, .int v16)]) hx hb dL_holds_328 hl (by decide) rfl (fun ls hl => ?_)
                                refine lv_iload hx hb dL_holds_330 (lv_at hl 14 rfl) ?_
                                refine lv_iload hx hb dL_holds_332 (lv_at hl 11 rfl) ?_
                                refine lv_icmp_le (tgt := 342) hx hb dL_holds_334 (by decide) (fun q165 => ?_) (fun q165 => ?_)
                                · replace hM := zx_t q165 hM
                                  refine lv_iload hx hb dL_holds_342 (lv_at hl 11 rfl) ?_
                                  exact j344 v1 v2 v3 v4 v5 v6 v8 v9 v10 t0 v13 v14 v12 S_ kc _ _ _ (by omega) hP hD hS (lv_sub hl [1, 2, 3, 4, 5, 6, 7, 8, 9, 10, 0, 12, 13] rfl) hM
                                · replace hM := zx_f q165 hM
                                  refine lv_iload hx hb dL_holds_337 (lv_at hl 14 rfl) ?_
                                  refine lv_goto (tgt := 344) hx hb dL_holds_339 (by decide) ?_
                                  exact j344 v1 v2 v3 v4 v5 v6 v8 v9 v10 t0 v13 v14 v16 S_ kc _ _ _ (by omega) hP hD hS (lv_sub hl [1, 2, 3, 4, 5, 6, 7, 8, 9, 10, 0, 12, 13] rfl) hM
                              refine lv_istore (lv' := [(16, .int t0), (0, .ref h), (1, .int v1), (2, .int v2), (3, .int v3), (4, .int v4), (5, .int v5), (6, .int v6), (8, .int v8), (9, .int v9), (10, .int v10), (11, .int v11), (12, .int v12), (13, .int v13), (14, .int v14), (15, .int v15)]) hx hb dL_holds_312 hl (by decide) rfl (fun ls hl => ?_)
                              refine lv_iload hx hb dL_holds_314 (lv_at hl 15 rfl) ?_
                              refine lv_iload hx hb dL_holds_316 (lv_at hl 11 rfl) ?_
                              refine lv_icmp_ge (tgt := 326) hx hb dL_holds_318 (by decide) (fun q166 => ?_) (fun q166 => ?_)
                              · replace hM := zx_t q166 hM
                                refine lv_iload hx hb dL_holds_326 (lv_at hl 11 rfl) ?_
                                exact j328 v1 v2 v3 v4 v5 v6 v8 v9 v10 v12 v13 v14 t0 v11 S_ kc _ _ _ (by omega) hP hD hS (lv_sub hl [1, 2, 3, 4, 5, 6, 7, 8, 9, 10, 12, 13, 14, 0] rfl) hM
                              · replace hM := zx_f q166 hM
                                refine lv_iload hx hb dL_holds_321 (lv_at hl 15 rfl) ?_
                                refine lv_goto (tgt := 328) hx hb dL_holds_323 (by decide) ?_
                                exact j328 v1 v2 v3 v4 v5 v6 v8 v9 v10 v12 v13 v14 t0 v15 S_ kc _ _ _ (by omega) hP hD hS (lv_sub hl [1, 2, 3, 4, 5, 6, 7, 8, 9, 10, 12, 13, 14, 0] rfl) hM
                            refine lv_istore (lv' := [(15, .int t0), (0, .ref h), (1, .int v1), (2, .int v2), (3, .int v3), (4, .int v4), (5, .int v5), (6, .int v6), (8, .int v8), (9, .int v9), (10, .int v10), (11, .int v11), (12, .int v12), (13, .int v13), (14, .int v14)]) hx hb dL_holds_284 hl (by decide) rfl (fun ls hl => ?_)
                            refine lv_iload hx hb dL_holds_286 (lv_at hl 9 rfl) ?_
                            refine lv_if_ne (tgt := 303) hx hb dL_holds_288 (by decide) (fun q167 => ?_) (fun q167 => ?_)
                            · replace hM := zx_f q167 hM
                              refine lv_aload_n hx hb dL_holds_303 rfl (lv_at hl 1 rfl) ?_
                              refine lv_iconst (v := 3) hx hb dL_holds_304 (by decide) ?_
                              refine lv_iload hx hb dL_holds_305 (lv_at hl 14 rfl) ?_
                              refine lv_iconst (v := 5) hx hb dL_holds_307 (by decide) ?_
                              refine lv_iconst (v := 0) hx hb dL_holds_308 (by decide) ?_
                              obtain ⟨x168, T169, hz170, hM⟩ := zx_b2E hM
                              have hF := zx_fW hD hS hA
                              refine va_calli (va_runS (As := [.ref h, .int 3, .int v14, .int 5, .int 0]) (rest := []) ⟨hx, hb, hml, hown, hts⟩ (c_L_call l hlt D cI cZ cT h hh aa S_ _ N 3 v14 5 0 hz170) (va_cwS 5 hts (zg_S zw_4_2 zw_4_3 zw_3_14 zw_4_4) rfl rfl rfl zyL_call ⟨Nat.le_of_ble_eq_true rfl, Nat.le_of_ble_eq_true rfl⟩) ⟨bY_blind, bY_pre hP hK hD hN hXX hNc hS hF⟩ rfl rfl hl.1 rfl (lv_room (Nat.le_of_ble_eq_true rfl)) dL_holds_309 ⟨by show kc + 1 ≤ 4014; omega, by show 6 * kc + 6 ≤ 24084; omega⟩) hS (fun q _ h => hF q h) (fun q h => hF q h) (fun r u t H1 lc ht hvm hw hB hz1 hk1 hS => ?_)
                              obtain ⟨hw1, hw2⟩ := Prod.mk.inj hw; subst hw1; subst hw2
                              rw [ht] at hB
                              replace hP := hB
                              replace hD := zx2_Da T169 hD
                              refine W.widen (k := (kc + 1)) (n := 6 * (kc + 1)) (by omega) (by omega) ?_
                              exact j312 v1 v2 v3 v4 v5 v6 v8 v9 v10 v11 v12 v13 v14 t0 x168 T169 (kc + 1) _ _ _ (by omega) hP hD hS (lv_sub hl [1, 2, 3, 4, 5, 6, 7, 8, 9, 10, 11, 12, 13, 14, 0] rfl) hM
                            · replace hM := zx_t q167 hM
                              refine lv_aload_n hx hb dL_holds_291 rfl (lv_at hl 1 rfl) ?_
                              refine lv_iconst (v := 2) hx hb dL_holds_292 (by decide) ?_
                              refine lv_iload hx hb dL_holds_293 (lv_at hl 14 rfl) ?_
                              refine lv_iconst (v := 3) hx hb dL_holds_295 (by decide) ?_
                              refine lv_iconst (v := 0) hx hb dL_holds_296 (by decide) ?_
                              obtain ⟨x171, T172, hz173, hM⟩ := zx_b2E hM
                              have hF := zx_fW hD hS hA
                              refine va_calli (va_runS (As := [.ref h, .int 2, .int v14, .int 3, .int 0]) (rest := []) ⟨hx, hb, hml, hown, hts⟩ (c_L_call l hlt D cI cZ cT h hh aa S_ _ N 2 v14 3 0 hz173) (va_cwS 5 hts (zg_S zw_4_2 zw_4_3 zw_3_14 zw_4_4) rfl rfl rfl zyL_call ⟨Nat.le_of_ble_eq_true rfl, Nat.le_of_ble_eq_true rfl⟩) ⟨bY_blind, bY_pre hP hK hD hN hXX hNc hS hF⟩ rfl rfl hl.1 rfl (lv_room (Nat.le_of_ble_eq_true rfl)) dL_holds_297 ⟨by show kc + 1 ≤ 4014; omega, by show 6 * kc + 6 ≤ 24084; omega⟩) hS (fun q _ h => hF q h) (fun q h => hF q h) (fun r u t H1 lc ht hvm hw hB hz1 hk1 hS => ?_)
                              obtain ⟨hw1, hw2⟩ := Prod.mk.inj hw; subst hw1; subst hw2
                              rw [ht] at hB
                              replace hP := hB
                              replace hD := zx2_Da T172 hD
                              refine W.widen (k := (kc + 1)) (n := 6 * (kc + 1)) (by omega) (by omega) ?_
                              refine lv_goto (tgt := 312) hx hb dL_holds_300 (by decide) ?_
                              exact j312 v1 v2 v3 v4 v5 v6 v8 v9 v10 v11 v12 v13 v14 t0 x171 T172 (kc + 1) _ _ _ (by omega) hP hD hS (lv_sub hl [1, 2, 3, 4, 5, 6, 7, 8, 9, 10, 11, 12, 13, 14, 0] rfl) hM
                          refine lv_iadd hx hb dL_holds_255 ?_
                          obtain ⟨x174, ex174, hM⟩ := zx_nE hM
                          refine zx_top ex174 ?_
                          refine lv_istore (lv' := [(6, .int x174), (0, .ref h), (1, .int v1), (2, .int v2), (3, .int v3), (4, .int v4), (5, .int v5), (8, .int v8), (9, .int v9), (10, .int v10), (11, .int v11), (12, .int v12), (13, .int v13), (14, .int v14)]) hx hb dL_holds_256 hl (by decide) rfl (fun ls hl => ?_)
                          refine lv_iload hx hb dL_holds_258 (lv_at hl 8 rfl) ?_
                          refine lv_if_ne (tgt := 275) hx hb dL_holds_260 (by decide) (fun q175 => ?_) (fun q175 => ?_)
                          · replace hM := zx_f q175 hM
                            refine lv_aload_n hx hb dL_holds_275 rfl (lv_at hl 1 rfl) ?_
                            refine lv_iconst (v := 3) hx hb dL_holds_276 (by decide) ?_
                            refine lv_iload hx hb dL_holds_277 (lv_at hl 13 rfl) ?_
                            refine lv_iconst (v := 2) hx hb dL_holds_279 (by decide) ?_
                            refine lv_iconst (v := 0) hx hb dL_holds_280 (by decide) ?_
                            obtain ⟨x176, T177, hz178, hM⟩ := zx_b2E hM
                            have hF := zx_fW hD hS hA
                            refine va_calli (va_runS (As := [.ref h, .int 3, .int v14, .int 2, .int 0]) (rest := []) ⟨hx, hb, hml, hown, hts⟩ (c_L_call l hlt D cI cZ cT h hh aa S_ _ N 3 v14 2 0 hz178) (va_cwS 5 hts (zg_S zw_4_2 zw_4_3 zw_3_14 zw_4_4) rfl rfl rfl zyL_call ⟨Nat.le_of_ble_eq_true rfl, Nat.le_of_ble_eq_true rfl⟩) ⟨bY_blind, bY_pre hP hK hD hN hXX hNc hS hF⟩ rfl rfl hl.1 rfl (lv_room (Nat.le_of_ble_eq_true rfl)) dL_holds_281 ⟨by show kc + 1 ≤ 4014; omega, by show 6 * kc + 6 ≤ 24084; omega⟩) hS (fun q _ h => hF q h) (fun q h => hF q h) (fun r u t H1 lc ht hvm hw hB hz1 hk1 hS => ?_)
                            obtain ⟨hw1, hw2⟩ := Prod.mk.inj hw; subst hw1; subst hw2
                            rw [ht] at hB
                            replace hP := hB
                            replace hD := zx2_Da T177 hD
                            refine W.widen (k := (kc + 1)) (n := 6 * (kc + 1)) (by omega) (by omega) ?_
                            exact j284 v1 v2 v3 v4 v5 x174 v8 v9 v10 v11 v12 v13 v14 x176 T177 (kc + 1) _ _ _ (by omega) hP hD hS (lv_sub hl [1, 2, 3, 4, 5, 6, 0, 7, 8, 9, 10, 11, 12, 13] rfl) hM
                          · replace hM := zx_t q175 hM
                            refine lv_aload_n hx hb dL_holds_263 rfl (lv_at hl 1 rfl) ?_
                            refine lv_iconst (v := 2) hx hb dL_holds_264 (by decide) ?_
                            refine lv_iload hx hb dL_holds_265 (lv_at hl 13 rfl) ?_
                            refine lv_iconst (v := 0) hx hb dL_holds_267 (by decide) ?_
                            refine lv_iconst (v := 0) hx hb dL_holds_268 (by decide) ?_
                            obtain ⟨x179, T180, hz181, hM⟩ := zx_b2E hM
                            have hF := zx_fW hD hS hA
                            refine va_calli (va_runS (As := [.ref h, .int 2, .int v14, .int 0, .int 0]) (rest := []) ⟨hx, hb, hml, hown, hts⟩ (c_L_call l hlt D cI cZ cT h hh aa S_ _ N 2 v14 0 0 hz181) (va_cwS 5 hts (zg_S zw_4_2 zw_4_3 zw_3_14 zw_4_4) rfl rfl rfl zyL_call ⟨Nat.le_of_ble_eq_true rfl, Nat.le_of_ble_eq_true rfl⟩) ⟨bY_blind, bY_pre hP hK hD hN hXX hNc hS hF⟩ rfl rfl hl.1 rfl (lv_room (Nat.le_of_ble_eq_true rfl)) dL_holds_269 ⟨by show kc + 1 ≤ 4014; omega, by show 6 * kc + 6 ≤ 24084; omega⟩) hS (fun q _ h => hF q h) (fun q h => hF q h) (fun r u t H1 lc ht hvm hw hB hz1 hk1 hS => ?_)
                            obtain ⟨hw1, hw2⟩ := Prod.mk.inj hw; subst hw1; subst hw2
                            rw [ht] at hB
                            replace hP := hB
                            replace hD := zx2_Da T180 hD
                            refine W.widen (k := (kc + 1)) (n := 6 * (kc + 1)) (by omega) (by omega) ?_
                            refine lv_goto (tgt := 284) hx hb dL_holds_272 (by decide) ?_
                            exact j284 v1 v2 v3 v4 v5 x174 v8 v9 v10 v11 v12 v13 v14 x179 T180 (kc + 1) _ _ _ (by omega) hP hD hS (lv_sub hl [1, 2, 3, 4, 5, 6, 0, 7, 8, 9, 10, 11, 12, 13] rfl) hM
                        refine lv_iadd hx hb dL_holds_240 ?_
                        obtain ⟨x182, ex182, hM⟩ := zx_nE hM
                        refine zx_top ex182 ?_
                        refine lv_istore (lv' := [(5, .int x182), (0, .ref h), (1, .int v1), (2, .int v2), (3, .int v3), (4, .int v4), (6, .int v6), (8, .int v8), (9, .int v9), (10, .int v10), (11, .int v11), (12, .int v12), (13, .int v13), (14, .int v14)]) hx hb dL_holds_241 hl (by decide) rfl (fun ls hl => ?_)
                        refine lv_iload hx hb dL_holds_243 (lv_at hl 6 rfl) ?_
                        refine lv_iload hx hb dL_holds_245 (lv_at hl 8 rfl) ?_
                        refine lv_if_ne (tgt := 254) hx hb dL_holds_247 (by decide) (fun q183 => ?_) (fun q183 => ?_)
                        · replace hM := zx_f q183 hM
                          refine lv_iconst (v := 1) hx hb dL_holds_254 (by decide) ?_
                          exact j255 v1 v2 v3 v4 x182 v8 v9 v10 v11 v12 v13 v14 v6 1 S_ kc _ _ _ (by omega) hP hD hS (lv_sub hl [1, 2, 3, 4, 5, 0, 7, 8, 9, 10, 11, 12, 13] rfl) hM
                        · replace hM := zx_t q183 hM
                          refine lv_iconst (v := 0) hx hb dL_holds_250 (by decide) ?_
                          refine lv_goto (tgt := 255) hx hb dL_holds_251 (by decide) ?_
                          exact j255 v1 v2 v3 v4 x182 v8 v9 v10 v11 v12 v13 v14 v6 0 S_ kc _ _ _ (by omega) hP hD hS (lv_sub hl [1, 2, 3, 4, 5, 0, 7, 8, 9, 10, 11, 12, 13] rfl) hM
                      refine lv_aload_n hx hb dL_holds_216 rfl (lv_at hl 0 rfl) ?_
                      refine lv_iconst (v := 4) hx hb dL_holds_217 (by decide) ?_
                      refine lv_iload hx hb dL_holds_218 (lv_at hl 8 rfl) ?_
                      refine lv_iload hx hb dL_holds_220 (lv_at hl 13 rfl) ?_
                      refine lv_iconst (v := 0) hx hb dL_holds_222 (by decide) ?_
                      obtain ⟨x184, T185, hz186, hM⟩ := zx_b2E hM
                      have hF := zx_fW hD hS hA
                      refine va_calli (va_runS (As := [.ref h, .int 4, .int v8, .int v13, .int 0]) (rest := []) ⟨hx, hb, hml, hown, hts⟩ (c_L_call l hlt D cI cZ cT h hh aa S_ _ N 4 v8 v13 0 hz186) (va_cwS 5 hts (zg_S zw_4_2 zw_4_3 zw_3_14 zw_4_4) rfl rfl rfl zyL_call ⟨Nat.le_of_ble_eq_true rfl, Nat.le_of_ble_eq_true rfl⟩) ⟨bY_blind, bY_pre hP hK hD hN hXX hNc hS hF⟩ rfl rfl hl.1 rfl (lv_room (Nat.le_of_ble_eq_true rfl)) dL_holds_223 ⟨by show kc + 1 ≤ 4014; omega, by show 6 * kc + 6 ≤ 24084; omega⟩) hS (fun q _ h => hF q h) (fun q h => hF q h) (fun r u t H1 lc ht hvm hw hB hz1 hk1 hS => ?_)
                      obtain ⟨hw1, hw2⟩ := Prod.mk.inj hw; subst hw1; subst hw2
                      rw [ht] at hB
                      replace hP := hB
                      replace hD := zx2_Da T185 hD
                      refine W.widen (k := (kc + 1)) (n := 6 * (kc + 1)) (by omega) (by omega) ?_
                      refine lv_istore (lv' := [(14, .int x184), (0, .ref h), (1, .int v1), (2, .int v2), (3, .int v3), (4, .int v4), (5, .int v5), (6, .int v6), (7, .int v7), (8, .int v8), (9, .int v9), (10, .int v10), (11, .int v11), (12, .int v12), (13, .int v13)]) hx hb dL_holds_226 hl (by decide) rfl (fun ls hl => ?_)
                      refine lv_iload hx hb dL_holds_228 (lv_at hl 6 rfl) ?_
                      refine lv_iload hx hb dL_holds_230 (lv_at hl 10 rfl) ?_
                      refine lv_if_ne (tgt := 239) hx hb dL_holds_232 (by decide) (fun q187 => ?_) (fun q187 => ?_)
                      · replace hM := zx_f q187 hM
                        refine lv_iconst (v := 0) hx hb dL_holds_239 (by decide) ?_
                        exact j240 v1 v2 v3 v4 v6 v8 v9 v10 v11 v12 v13 x184 v5 0 T185 (kc + 1) _ _ _ (by omega) hP hD hS (lv_sub hl [1, 2, 3, 4, 5, 7, 9, 10, 11, 12, 13, 14, 0] rfl) hM
                      · replace hM := zx_t q187 hM
                        refine lv_iconst (v := 1) hx hb dL_holds_235 (by decide) ?_
                        refine lv_goto (tgt := 240) hx hb dL_holds_236 (by decide) ?_
                        exact j240 v1 v2 v3 v4 v6 v8 v9 v10 v11 v12 v13 x184 v5 1 T185 (kc + 1) _ _ _ (by omega) hP hD hS (lv_sub hl [1, 2, 3, 4, 5, 7, 9, 10, 11, 12, 13, 14, 0] rfl) hM
              refine lv_istore (lv' := [(7, .int t0), (0, .ref h), (1, .int v1), (2, .int v2), (3, .int v3), (4, .int v4), (5, .int v5), (6, .int v6), (8, .int v8), (9, .int v9), (10, .int v10)]) hx hb dL_holds_192 hl (by decide) rfl (fun ls hl => ?_)
              refine lv_bipush (v := 100) hx hb dL_holds_194 (by decide) ?_
              refine lv_istore (lv' := [(11, .int 100), (7, .int t0), (0, .ref h), (1, .int v1), (2, .int v2), (3, .int v3), (4, .int v4), (5, .int v5), (6, .int v6), (8, .int v8), (9, .int v9), (10, .int v10)]) hx hb dL_holds_196 hl (by decide) rfl (fun ls hl => ?_)
              refine lv_iconst (v := (-1)) hx hb dL_holds_198 (by decide) ?_
              refine lv_istore (lv' := [(12, .int (-1)), (11, .int 100), (7, .int t0), (0, .ref h), (1, .int v1), (2, .int v2), (3, .int v3), (4, .int v4), (5, .int v5), (6, .int v6), (8, .int v8), (9, .int v9), (10, .int v10)]) hx hb dL_holds_199 hl (by decide) rfl (fun ls hl => ?_)
              refine lv_iconst (v := 0) hx hb dL_holds_201 (by decide) ?_
              refine lv_istore (lv' := [(13, .int 0), (12, .int (-1)), (11, .int 100), (7, .int t0), (0, .ref h), (1, .int v1), (2, .int v2), (3, .int v3), (4, .int v4), (5, .int v5), (6, .int v6), (8, .int v8), (9, .int v9), (10, .int v10)]) hx hb dL_holds_202 hl (by decide) rfl (fun ls hl => ?_)
              exact l204 30 v1 v2 v3 v4 v5 v6 t0 v8 v9 v10 100 (-1) 0 S_ kc _ _ _ (by omega) hP hD hS (lv_sub hl [4, 5, 6, 7, 8, 9, 10, 3, 11, 12, 13, 2, 1, 0] rfl) hM
            have j191 : ∀ (v1 : Int32) (v2 : Int32) (v3 : Int32) (v4 : Int32) (v5 : Int32) (v6 : Int32) (v8 : Int32) (v9 : Int32) (v10 : Int32) (S_ : zx_B) (kc : Nat) (H : Heap) (lc : List Loc) (ls : Array Slot), kc + (n70 * 128 + 291) ≤ 4014 → va_P D vwCl (xW2 cI cT h hh aa S_) H → va_D A (xW2 cI cT h hh aa S_) → va_S A s.heap H lc → lv_has ls 19 [(0, .ref h), (1, .int v1), (2, .int v2), (3, .int v3), (4, .int v4), (5, .int v5), (6, .int v6), (8, .int v8), (9, .int v9), (10, .int v10)] → f_L_holds_j191 N (f_L_holds_l70 N  n70) v1 v2 v3 v4 v5 v6 v8 v9 v10 S_ = some R → W p l e (headSpec zsL_holds rmL_holds).room s m ([.ref h, .int p1] : List Value).toArray below meth c H lc kc (6 * kc) Q9 (F0 m 191 ls []) := by
              intro v1 v2 v3 v4 v5 v6 v8 v9 v10 S_ kc H lc ls hkc hP hD hS hl hM
              unfold f_L_holds_j191 at hM
              refine lv_iconst (v := 0) hx hb dL_holds_191 (by decide) ?_
              exact j192 v1 v2 v3 v4 v5 v6 v8 v9 v10 0 S_ kc _ _ _ (by omega) hP hD hS (lv_sub hl [0, 1, 2, 3, 4, 5, 6, 7, 8, 9] rfl) hM
            refine lv_aload_n hx hb dL_holds_81 rfl (lv_at hl 0 rfl) ?_
            refine lv_iconst (v := 3) hx hb dL_holds_82 (by decide) ?_
            refine lv_iload hx hb dL_holds_83 (lv_at hl 8 rfl) ?_
            refine lv_iconst (v := 0) hx hb dL_holds_85 (by decide) ?_
            refine lv_iconst (v := 0) hx hb dL_holds_86 (by decide) ?_
            obtain ⟨x188, T189, hz190, hM⟩ := zx_b2E hM
            have hF := zx_fW hD hS hA
            refine va_calli (va_runS (As := [.ref h, .int 3, .int v8, .int 0, .int 0]) (rest := []) ⟨hx, hb, hml, hown, hts⟩ (c_L_call l hlt D cI cZ cT h hh aa S_ _ N 3 v8 0 0 hz190) (va_cwS 5 hts (zg_S zw_4_2 zw_4_3 zw_3_14 zw_4_4) rfl rfl rfl zyL_call ⟨Nat.le_of_ble_eq_true rfl, Nat.le_of_ble_eq_true rfl⟩) ⟨bY_blind, bY_pre hP hK hD hN hXX hNc hS hF⟩ rfl rfl hl.1 rfl (lv_room (Nat.le_of_ble_eq_true rfl)) dL_holds_87 ⟨by show kc + 1 ≤ 4014; omega, by show 6 * kc + 6 ≤ 24084; omega⟩) hS (fun q _ h => hF q h) (fun q h => hF q h) (fun r u t H1 lc ht hvm hw hB hz1 hk1 hS => ?_)
            obtain ⟨hw1, hw2⟩ := Prod.mk.inj hw; subst hw1; subst hw2
            rw [ht] at hB
            replace hP := hB
            replace hD := zx2_Da T189 hD
            refine W.widen (k := (kc + 1)) (n := 6 * (kc + 1)) (by omega) (by omega) ?_
            refine lv_istore (lv' := [(9, .int x188), (0, .ref h), (1, .int v1), (2, .int v2), (3, .int v3), (4, .int v4), (5, .int v5), (6, .int v6), (7, .int v7), (8, .int v8)]) hx hb dL_holds_90 hl (by decide) rfl (fun ls hl => ?_)
            refine lv_aload_n hx hb dL_holds_92 rfl (lv_at hl 1 rfl) ?_
            refine lv_iconst (v := 3) hx hb dL_holds_93 (by decide) ?_
            refine lv_iload hx hb dL_holds_94 (lv_at hl 9 rfl) ?_
            refine lv_iconst (v := 1) hx hb dL_holds_96 (by decide) ?_
            refine lv_iconst (v := 0) hx hb dL_holds_97 (by decide) ?_
            obtain ⟨x191, T192, hz193, hM⟩ := zx_b2E hM
            have hF := zx_fW hD hS hA
            refine va_calli (va_runS (As := [.ref h, .int 3, .int v8, .int 1, .int 0]) (rest := []) ⟨hx, hb, hml, hown, hts⟩ (c_L_call l hlt D cI cZ cT h hh aa T189 _ N 3 v8 1 0 hz193) (va_cwS 5 hts (zg_S zw_4_2 zw_4_3 zw_3_14 zw_4_4) rfl rfl rfl zyL_call ⟨Nat.le_of_ble_eq_true rfl, Nat.le_of_ble_eq_true rfl⟩) ⟨bY_blind, bY_pre hP hK hD hN hXX hNc hS hF⟩ rfl rfl hl.1 rfl (lv_room (Nat.le_of_ble_eq_true rfl)) dL_holds_98 ⟨by show (kc + 1) + 1 ≤ 4014; omega, by show 6 * (kc + 1) + 6 ≤ 24084; omega⟩) hS (fun q _ h => hF q h) (fun q h => hF q h) (fun r u t H1 lc ht hvm hw hB hz1 hk1 hS => ?_)
            obtain ⟨hw1, hw2⟩ := Prod.mk.inj hw; subst hw1; subst hw2
            rw [ht] at hB
            replace hP := hB
            replace hD := zx2_Da T192 hD
            refine W.widen (k := (kc + 2)) (n := 6 * (kc + 2)) (by omega) (by omega) ?_
            refine lv_istore (lv' := [(10, .int x191), (9, .int x188), (0, .ref h), (1, .int v1), (2, .int v2), (3, .int v3), (4, .int v4), (5, .int v5), (6, .int v6), (7, .int v7), (8, .int v8)]) hx hb dL_holds_101 hl (by decide) rfl (fun ls hl => ?_)
            refine lv_iload hx hb dL_holds_103 (lv_at hl 0 rfl) ?_
            refine lv_iconst (v := 4) hx hb dL_holds_105 (by decide) ?_
            refine lv_icmp_gt (tgt := 191) hx hb dL_holds_106 (by decide) (fun q194 => ?_) (fun q194 => ?_)
            · replace hM := zx_t q194 hM
              exact j191 v1 v2 v3 v4 v5 v6 v8 x188 x191 T192 (kc + 2) _ _ _ (by omega) hP hD hS (lv_sub hl [2, 3, 4, 5, 6, 7, 8, 10, 1, 0] rfl) hM
            · replace hM := zx_f q194 hM
              have j173 : ∀ (v1 : Int32) (v2 : Int32) (v3 : Int32) (v4 : Int32) (v5 : Int32) (v6 : Int32) (v8 : Int32) (v9 : Int32) (v10 : Int32) (S_ : zx_B) (kc : Nat) (H : Heap) (lc : List Loc) (ls : Array Slot), kc + (n70 * 128 + 292) ≤ 4014 → va_P D vwCl (xW2 cI cT h hh aa S_) H → va_D A (xW2 cI cT h hh aa S_) → va_S A s.heap H lc → lv_has ls 19 [(0, .ref h), (1, .int v1), (2, .int v2), (3, .int v3), (4, .int v4), (5, .int v5), (6, .int v6), (8, .int v8), (9, .int v9), (10, .int v10)] → f_L_holds_j173 N (f_L_holds_l70 N  n70) v1 v2 v3 v4 v5 v6 v8 v9 v10 S_ = some R → W p l e (headSpec zsL_holds rmL_holds).room s m ([.ref h, .int p1] : List Value).toArray below meth c H lc kc (6 * kc) Q9 (F0 m 173 ls []) := by
                intro v1 v2 v3 v4 v5 v6 v8 v9 v10 S_ kc H lc ls hkc hP hD hS hl hM
                unfold f_L_holds_j173 at hM
                refine lv_aload_n hx hb dL_holds_173 rfl (lv_at hl 0 rfl) ?_
                refine lv_iconst (v := 4) hx hb dL_holds_174 (by decide) ?_
                refine lv_iload hx hb dL_holds_175 (lv_at hl 7 rfl) ?_
                refine lv_iload hx hb dL_holds_177 (lv_at hl 9 rfl) ?_
                refine lv_iconst (v := 0) hx hb dL_holds_179 (by decide) ?_
                obtain ⟨x195, T196, hz197, hM⟩ := zx_b2E hM
                have hF := zx_fW hD hS hA
                refine va_calli (va_runS (As := [.ref h, .int 4, .int v8, .int v10, .int 0]) (rest := []) ⟨hx, hb, hml, hown, hts⟩ (c_L_call l hlt D cI cZ cT h hh aa S_ _ N 4 v8 v10 0 hz197) (va_cwS 5 hts (zg_S zw_4_2 zw_4_3 zw_3_14 zw_4_4) rfl rfl rfl zyL_call ⟨Nat.le_of_ble_eq_true rfl, Nat.le_of_ble_eq_true rfl⟩) ⟨bY_blind, bY_pre hP hK hD hN hXX hNc hS hF⟩ rfl rfl hl.1 rfl (lv_room (Nat.le_of_ble_eq_true rfl)) dL_holds_180 ⟨by show kc + 1 ≤ 4014; omega, by show 6 * kc + 6 ≤ 24084; omega⟩) hS (fun q _ h => hF q h) (fun q h => hF q h) (fun r u t H1 lc ht hvm hw hB hz1 hk1 hS => ?_)
                obtain ⟨hw1, hw2⟩ := Prod.mk.inj hw; subst hw1; subst hw2
                rw [ht] at hB
                replace hP := hB
                replace hD := zx2_Da T196 hD
                refine W.widen (k := (kc + 1)) (n := 6 * (kc + 1)) (by omega) (by omega) ?_
                refine lv_iconst (v := (-1)) hx hb dL_holds_183 (by decide) ?_
                refine lv_icmp_ne (tgt := 191) hx hb dL_holds_184 (by decide) (fun q198 => ?_) (fun q198 => ?_)
                · replace hM := zx_f q198 hM
                  exact j191 v1 v2 v3 v4 v5 v6 v8 v9 v10 T196 (kc + 1) _ _ _ (by omega) hP hD hS (lv_sub hl [0, 1, 2, 3, 4, 5, 6, 7, 8, 9] rfl) hM
                · replace hM := zx_t q198 hM
                  refine lv_iconst (v := 1) hx hb dL_holds_187 (by decide) ?_
                  refine lv_goto (tgt := 192) hx hb dL_holds_188 (by decide) ?_
                  exact j192 v1 v2 v3 v4 v5 v6 v8 v9 v10 1 T196 (kc + 1) _ _ _ (by omega) hP hD hS (lv_sub hl [0, 1, 2, 3, 4, 5, 6, 7, 8, 9] rfl) hM
              refine lv_iload hx hb dL_holds_109 (lv_at hl 10 rfl) ?_
              refine lv_if_ne (tgt := 128) hx hb dL_holds_111 (by decide) (fun q199 => ?_) (fun q199 => ?_)
              · replace hM := zx_f q199 hM
                refine lv_iload hx hb dL_holds_128 (lv_at hl 0 rfl) ?_
                refine lv_iconst (v := 2) hx hb dL_holds_130 (by decide) ?_
                refine lv_icmp_lt (tgt := 191) hx hb dL_holds_131 (by decide) (fun q200 => ?_) (fun q200 => ?_)
                · replace hM := zx_t q200 hM
                  exact j191 v1 v2 v3 v4 v5 v6 v8 x188 x191 T192 (kc + 2) _ _ _ (by omega) hP hD hS (lv_sub hl [2, 3, 4, 5, 6, 7, 8, 10, 1, 0] rfl) hM
                · replace hM := zx_f q200 hM
                  refine lv_aload_n hx hb dL_holds_134 rfl (lv_at hl 2 rfl) ?_
                  refine lv_iconst (v := 3) hx hb dL_holds_135 (by decide) ?_
                  refine lv_aload_n hx hb dL_holds_136 rfl (lv_at hl 2 rfl) ?_
                  refine lv_iconst (v := 3) hx hb dL_holds_137 (by decide) ?_
                  refine lv_iload hx hb dL_holds_138 (lv_at hl 10 rfl) ?_
                  refine lv_bipush (v := 6) hx hb dL_holds_140 (by decide) ?_
                  refine lv_iconst (v := 0) hx hb dL_holds_142 (by decide) ?_
                  obtain ⟨x201, T202, hz203, hM⟩ := zx_b2E hM
                  have hF := zx_fW hD hS hA
                  refine va_calli (va_runS (As := [.ref h, .int 3, .int v8, .int 6, .int 0]) (rest := [.int 3, .ref h]) ⟨hx, hb, hml, hown, hts⟩ (c_L_call l hlt D cI cZ cT h hh aa T192 _ N 3 v8 6 0 hz203) (va_cwS 5 hts (zg_S zw_4_2 zw_4_3 zw_3_14 zw_4_4) rfl rfl rfl zyL_call ⟨Nat.le_of_ble_eq_true rfl, Nat.le_of_ble_eq_true rfl⟩) ⟨bY_blind, bY_pre hP hK hD hN hXX hNc hS hF⟩ rfl rfl hl.1 rfl (lv_room (Nat.le_of_ble_eq_true rfl)) dL_holds_143 ⟨by show (kc + 2) + 1 ≤ 4014; omega, by show 6 * (kc + 2) + 6 ≤ 24084; omega⟩) hS (fun q _ h => hF q h) (fun q h => hF q h) (fun r u t H1 lc ht hvm hw hB hz1 hk1 hS => ?_)
                  obtain ⟨hw1, hw2⟩ := Prod.mk.inj hw; subst hw1; subst hw2
                  rw [ht] at hB
                  replace hP := hB
                  replace hD := zx2_Da T202 hD
                  refine W.widen (k := (kc + 3)) (n := 6 * (kc + 3)) (by omega) (by omega) ?_
                  refine lv_iconst (v := 0) hx hb dL_holds_146 (by decide) ?_
                  refine lv_iconst (v := 0) hx hb dL_holds_147 (by decide) ?_
                  obtain ⟨x204, T205, hz206, hM⟩ := zx_b2E hM
                  have hF := zx_fW hD hS hA
                  refine va_calli (va_runS (As := [.ref h, .int 3, .int x201, .int 0, .int 0]) (rest := []) ⟨hx, hb, hml, hown, hts⟩ (c_L_call l hlt D cI cZ cT h hh aa T202 _ N 3 x201 0 0 hz206) (va_cwS 5 hts (zg_S zw_4_2 zw_4_3 zw_3_14 zw_4_4) rfl rfl rfl zyL_call ⟨Nat.le_of_ble_eq_true rfl, Nat.le_of_ble_eq_true rfl⟩) ⟨bY_blind, bY_pre hP hK hD hN hXX hNc hS hF⟩ rfl rfl hl.1 rfl (lv_room (Nat.le_of_ble_eq_true rfl)) dL_holds_148 ⟨by show (kc + 3) + 1 ≤ 4014; omega, by show 6 * (kc + 3) + 6 ≤ 24084; omega⟩) hS (fun q _ h => hF q h) (fun q h => hF q h) (fun r u t H1 lc ht hvm hw hB hz1 hk1 hS => ?_)
                  obtain ⟨hw1, hw2⟩ := Prod.mk.inj hw; subst hw1; subst hw2
                  rw [ht] at hB
                  replace hP := hB
                  replace hD := zx2_Da T205 hD
                  refine W.widen (k := (kc + 4)) (n := 6 * (kc + 4)) (by omega) (by omega) ?_
                  refine lv_iload hx hb dL_holds_151 (lv_at hl 1 rfl) ?_
                  refine lv_iconst (v := 1) hx hb dL_holds_153 (by decide) ?_
                  refine lv_iadd hx hb dL_holds_154 ?_
                  refine lv_icmp_ne (tgt := 191) hx hb dL_holds_155 (by decide) (fun q207 => ?_) (fun q207 => ?_)
                  · replace hM := zx_f q207 hM
                    exact j191 v1 v2 v3 v4 v5 v6 v8 x188 x191 T205 (kc + 4) _ _ _ (by omega) hP hD hS (lv_sub hl [2, 3, 4, 5, 6, 7, 8, 10, 1, 0] rfl) hM
                  · replace hM := zx_t q207 hM
                    refine lv_aload_n hx hb dL_holds_158 rfl (lv_at hl 2 rfl) ?_
                    refine lv_iconst (v := 3) hx hb dL_holds_159 (by decide) ?_
                    refine lv_iload hx hb dL_holds_160 (lv_at hl 10 rfl) ?_
                    refine lv_bipush (v := 6) hx hb dL_holds_162 (by decide) ?_
                    refine lv_iconst (v := 0) hx hb dL_holds_164 (by decide) ?_
                    obtain ⟨x208, T209, hz210, hM⟩ := zx_b2E hM
                    have hF := zx_fW hD hS hA
                    refine va_calli (va_runS (As := [.ref h, .int 3, .int v8, .int 6, .int 0]) (rest := []) ⟨hx, hb, hml, hown, hts⟩ (c_L_call l hlt D cI cZ cT h hh aa T205 _ N 3 v8 6 0 hz210) (va_cwS 5 hts (zg_S zw_4_2 zw_4_3 zw_3_14 zw_4_4) rfl rfl rfl zyL_call ⟨Nat.le_of_ble_eq_true rfl, Nat.le_of_ble_eq_true rfl⟩) ⟨bY_blind, bY_pre hP hK hD hN hXX hNc hS hF⟩ rfl rfl hl.1 rfl (lv_room (Nat.le_of_ble_eq_true rfl)) dL_holds_165 ⟨by show (kc + 4) + 1 ≤ 4014; omega, by show 6 * (kc + 4) + 6 ≤ 24084; omega⟩) hS (fun q _ h => hF q h) (fun q h => hF q h) (fun r u t H1 lc ht hvm hw hB hz1 hk1 hS => ?_)
                    obtain ⟨hw1, hw2⟩ := Prod.mk.inj hw; subst hw1; subst hw2
                    rw [ht] at hB
                    replace hP := hB
                    replace hD := zx2_Da T209 hD
                    refine W.widen (k := (kc + 5)) (n := 6 * (kc + 5)) (by omega) (by omega) ?_
                    refine lv_iload hx hb dL_holds_168 (lv_at hl 10 rfl) ?_
                    refine lv_icmp_ge (tgt := 191) hx hb dL_holds_170 (by decide) (fun q211 => ?_) (fun q211 => ?_)
                    · replace hM := zx_t q211 hM
                      exact j191 v1 v2 v3 v4 v5 v6 v8 x188 x191 T209 (kc + 5) _ _ _ (by omega) hP hD hS (lv_sub hl [2, 3, 4, 5, 6, 7, 8, 10, 1, 0] rfl) hM
                    · replace hM := zx_f q211 hM
                      exact j173 v1 v2 v3 v4 v5 v6 v8 x188 x191 T209 (kc + 5) _ _ _ (by omega) hP hD hS (lv_sub hl [2, 3, 4, 5, 6, 7, 8, 10, 1, 0] rfl) hM
              · replace hM := zx_t q199 hM
                refine lv_iload hx hb dL_holds_114 (lv_at hl 1 rfl) ?_
                refine lv_if_eq (tgt := 173) hx hb dL_holds_116 (by decide) (fun q212 => ?_) (fun q212 => ?_)
                · replace hM := zx_t q212 hM
                  exact j173 v1 v2 v3 v4 v5 v6 v8 x188 x191 T192 (kc + 2) _ _ _ (by omega) hP hD hS (lv_sub hl [2, 3, 4, 5, 6, 7, 8, 10, 1, 0] rfl) hM
                · replace hM := zx_f q212 hM
                  refine lv_iload hx hb dL_holds_119 (lv_at hl 0 rfl) ?_
                  refine lv_iconst (v := 2) hx hb dL_holds_121 (by decide) ?_
                  refine lv_icmp_lt (tgt := 191) hx hb dL_holds_122 (by decide) (fun q213 => ?_) (fun q213 => ?_)
                  · replace hM := zx_t q213 hM
                    exact j191 v1 v2 v3 v4 v5 v6 v8 x188 x191 T192 (kc + 2) _ _ _ (by omega) hP hD hS (lv_sub hl [2, 3, 4, 5, 6, 7, 8, 10, 1, 0] rfl) hM
                  · replace hM := zx_f q213 hM
                    refine lv_goto (tgt := 173) hx hb dL_holds_125 (by decide) ?_
                    exact j173 v1 v2 v3 v4 v5 v6 v8 x188 x191 T192 (kc + 2) _ _ _ (by omega) hP hD hS (lv_sub hl [2, 3, 4, 5, 6, 7, 8, 10, 1, 0] rfl) hM
    refine lv_istore (lv' := [(7, .int t0), (0, .ref h), (1, .int v1), (2, .int v2), (3, .int v3), (4, .int v4), (5, .int v5), (6, .int v6)]) hx hb dL_holds_65 hl (by decide) rfl (fun ls hl => ?_)
    refine lv_iconst (v := 0) hx hb dL_holds_67 (by decide) ?_
    refine lv_istore (lv' := [(8, .int 0), (7, .int t0), (0, .ref h), (1, .int v1), (2, .int v2), (3, .int v3), (4, .int v4), (5, .int v5), (6, .int v6)]) hx hb dL_holds_68 hl (by decide) rfl (fun ls hl => ?_)
    exact l70 30 v1 v2 v3 v4 v5 v6 t0 0 S_ kc _ _ _ (by omega) hP hD hS (lv_sub hl [2, 3, 4, 5, 6, 7, 8, 1, 0] rfl) hM
  have j64 : ∀ (v1 : Int32) (v2 : Int32) (v3 : Int32) (v4 : Int32) (v5 : Int32) (v6 : Int32) (S_ : zx_B) (kc : Nat) (H : Heap) (lc : List Loc) (ls : Array Slot), kc + (4009) ≤ 4014 → va_P D vwCl (xW2 cI cT h hh aa S_) H → va_D A (xW2 cI cT h hh aa S_) → va_S A s.heap H lc → lv_has ls 19 [(0, .ref h), (1, .int v1), (2, .int v2), (3, .int v3), (4, .int v4), (5, .int v5), (6, .int v6)] → f_L_holds_j64 N v1 v2 v3 v4 v5 v6 S_ = some R → W p l e (headSpec zsL_holds rmL_holds).room s m ([.ref h, .int p1] : List Value).toArray below meth c H lc kc (6 * kc) Q9 (F0 m 64 ls []) := by
    intro v1 v2 v3 v4 v5 v6 S_ kc H lc ls hkc hP hD hS hl hM
    unfold f_L_holds_j64 at hM
    refine lv_iconst (v := 0) hx hb dL_holds_64 (by decide) ?_
    exact j65 v1 v2 v3 v4 v5 v6 0 S_ kc _ _ _ (by omega) hP hD hS (lv_sub hl [0, 1, 2, 3, 4, 5, 6] rfl) hM
  refine lv_aload_n hx hb dL_holds_0 rfl (lv_at hl 0 rfl) ?_
  refine lv_iconst (v := 1) hx hb dL_holds_1 (by decide) ?_
  refine lv_iconst (v := 1) hx hb dL_holds_2 (by decide) ?_
  refine lv_iconst (v := 0) hx hb dL_holds_3 (by decide) ?_
  refine lv_iconst (v := 0) hx hb dL_holds_4 (by decide) ?_
  obtain ⟨x214, T215, hz216, hM⟩ := zx_b2E hM
  have hF := zx_fW hD hS hA
  refine va_calli (va_runS (As := [.ref h, .int 1, .int 1, .int 0, .int 0]) (rest := []) ⟨hx, hb, hml, hown, hts⟩ (c_L_call l hlt D cI cZ cT h hh aa S _ N 1 1 0 0 hz216) (va_cwS 5 hts (zg_S zw_4_2 zw_4_3 zw_3_14 zw_4_4) rfl rfl rfl zyL_call ⟨Nat.le_of_ble_eq_true rfl, Nat.le_of_ble_eq_true rfl⟩) ⟨bY_blind, bY_pre hP hK hD hN hXX hNc hS hF⟩ rfl rfl hl.1 rfl (lv_room (Nat.le_of_ble_eq_true rfl)) dL_holds_5 ⟨by show kc + 1 ≤ 4014; omega, by show 6 * kc + 6 ≤ 24084; omega⟩) hS (fun q _ h => hF q h) (fun q h => hF q h) (fun r u t H1 lc ht hvm hw hB hz1 hk1 hS => ?_)
  obtain ⟨hw1, hw2⟩ := Prod.mk.inj hw; subst hw1; subst hw2
  rw [ht] at hB
  replace hP := hB
  replace hD := zx2_Da T215 hD
  refine W.widen (k := (kc + 1)) (n := 6 * (kc + 1)) (by omega) (by omega) ?_
  refine lv_istore_n (lv' := [(2, .int x214), (0, .ref h), (1, .int p1)]) hx hb dL_holds_8 rfl hl (by decide) rfl (fun ls hl => ?_)
  refine lv_aload_n hx hb dL_holds_9 rfl (lv_at hl 1 rfl) ?_
  refine lv_iconst (v := 1) hx hb dL_holds_10 (by decide) ?_
  refine lv_iconst (v := 0) hx hb dL_holds_11 (by decide) ?_
  refine lv_iconst (v := 0) hx hb dL_holds_12 (by decide) ?_
  refine lv_iconst (v := 0) hx hb dL_holds_13 (by decide) ?_
  obtain ⟨x217, T218, hz219, hM⟩ := zx_b2E hM
  have hF := zx_fW hD hS hA
  refine va_calli (va_runS (As := [.ref h, .int 1, .int 0, .int 0, .int 0]) (rest := []) ⟨hx, hb, hml, hown, hts⟩ (c_L_call l hlt D cI cZ cT h hh aa T215 _ N 1 0 0 0 hz219) (va_cwS 5 hts (zg_S zw_4_2 zw_4_3 zw_3_14 zw_4_4) rfl rfl rfl zyL_call ⟨Nat.le_of_ble_eq_true rfl, Nat.le_of_ble_eq_true rfl⟩) ⟨bY_blind, bY_pre hP hK hD hN hXX hNc hS hF⟩ rfl rfl hl.1 rfl (lv_room (Nat.le_of_ble_eq_true rfl)) dL_holds_14 ⟨by show (kc + 1) + 1 ≤ 4014; omega, by show 6 * (kc + 1) + 6 ≤ 24084; omega⟩) hS (fun q _ h => hF q h) (fun q h => hF q h) (fun r u t H1 lc ht hvm hw hB hz1 hk1 hS => ?_)
  obtain ⟨hw1, hw2⟩ := Prod.mk.inj hw; subst hw1; subst hw2
  rw [ht] at hB
  replace hP := hB
  replace hD := zx2_Da T218 hD
  refine W.widen (k := (kc + 2)) (n := 6 * (kc + 2)) (by omega) (by omega) ?_
  refine lv_istore_n (lv' := [(3, .int x217), (2, .int x214), (0, .ref h), (1, .int p1)]) hx hb dL_holds_17 rfl hl (by decide) rfl (fun ls hl => ?_)
  refine lv_aload_n hx hb dL_holds_18 rfl (lv_at hl 2 rfl) ?_
  refine lv_iconst (v := 1) hx hb dL_holds_19 (by decide) ?_
  refine lv_iconst (v := 2) hx hb dL_holds_20 (by decide) ?_
  refine lv_iconst (v := 0) hx hb dL_holds_21 (by decide) ?_
  refine lv_iconst (v := 0) hx hb dL_holds_22 (by decide) ?_
  obtain ⟨x220, T221, hz222, hM⟩ := zx_b2E hM
  have hF := zx_fW hD hS hA
  refine va_calli (va_runS (As := [.ref h, .int 1, .int 2, .int 0, .int 0]) (rest := []) ⟨hx, hb, hml, hown, hts⟩ (c_L_call l hlt D cI cZ cT h hh aa T218 _ N 1 2 0 0 hz222) (va_cwS 5 hts (zg_S zw_4_2 zw_4_3 zw_3_14 zw_4_4) rfl rfl rfl zyL_call ⟨Nat.le_of_ble_eq_true rfl, Nat.le_of_ble_eq_true rfl⟩) ⟨bY_blind, bY_pre hP hK hD hN hXX hNc hS hF⟩ rfl rfl hl.1 rfl (lv_room (Nat.le_of_ble_eq_true rfl)) dL_holds_23 ⟨by show (kc + 2) + 1 ≤ 4014; omega, by show 6 * (kc + 2) + 6 ≤ 24084; omega⟩) hS (fun q _ h => hF q h) (fun q h => hF q h) (fun r u t H1 lc ht hvm hw hB hz1 hk1 hS => ?_)
  obtain ⟨hw1, hw2⟩ := Prod.mk.inj hw; subst hw1; subst hw2
  rw [ht] at hB
  replace hP := hB
  replace hD := zx2_Da T221 hD
  refine W.widen (k := (kc + 3)) (n := 6 * (kc + 3)) (by omega) (by omega) ?_
  refine lv_istore (lv' := [(4, .int x220), (3, .int x217), (2, .int x214), (0, .ref h), (1, .int p1)]) hx hb dL_holds_26 hl (by decide) rfl (fun ls hl => ?_)
  refine lv_iconst (v := 0) hx hb dL_holds_28 (by decide) ?_
  refine lv_istore (lv' := [(5, .int 0), (4, .int x220), (3, .int x217), (2, .int x214), (0, .ref h), (1, .int p1)]) hx hb dL_holds_29 hl (by decide) rfl (fun ls hl => ?_)
  refine lv_iconst (v := 0) hx hb dL_holds_31 (by decide) ?_
  refine lv_istore (lv' := [(6, .int 0), (5, .int 0), (4, .int x220), (3, .int x217), (2, .int x214), (0, .ref h), (1, .int p1)]) hx hb dL_holds_32 hl (by decide) rfl (fun ls hl => ?_)
  refine lv_aload_n hx hb dL_holds_34 rfl (lv_at hl 5 rfl) ?_
  refine lv_iconst (v := 3) hx hb dL_holds_35 (by decide) ?_
  refine lv_iconst (v := 0) hx hb dL_holds_36 (by decide) ?_
  refine lv_iconst (v := 0) hx hb dL_holds_37 (by decide) ?_
  refine lv_iconst (v := 0) hx hb dL_holds_38 (by decide) ?_
  obtain ⟨x223, T224, hz225, hM⟩ := zx_b2E hM
  have hF := zx_fW hD hS hA
  refine va_calli (va_runS (As := [.ref h, .int 3, .int 0, .int 0, .int 0]) (rest := []) ⟨hx, hb, hml, hown, hts⟩ (c_L_call l hlt D cI cZ cT h hh aa T221 _ N 3 0 0 0 hz225) (va_cwS 5 hts (zg_S zw_4_2 zw_4_3 zw_3_14 zw_4_4) rfl rfl rfl zyL_call ⟨Nat.le_of_ble_eq_true rfl, Nat.le_of_ble_eq_true rfl⟩) ⟨bY_blind, bY_pre hP hK hD hN hXX hNc hS hF⟩ rfl rfl hl.1 rfl (lv_room (Nat.le_of_ble_eq_true rfl)) dL_holds_39 ⟨by show (kc + 3) + 1 ≤ 4014; omega, by show 6 * (kc + 3) + 6 ≤ 24084; omega⟩) hS (fun q _ h => hF q h) (fun q h => hF q h) (fun r u t H1 lc ht hvm hw hB hz1 hk1 hS => ?_)
  obtain ⟨hw1, hw2⟩ := Prod.mk.inj hw; subst hw1; subst hw2
  rw [ht] at hB
  replace hP := hB
  replace hD := zx2_Da T224 hD
  refine W.widen (k := (kc + 4)) (n := 6 * (kc + 4)) (by omega) (by omega) ?_
  refine lv_iload hx hb dL_holds_42 (lv_at hl 2 rfl) ?_
  refine lv_icmp_ne (tgt := 64) hx hb dL_holds_44 (by decide) (fun q226 => ?_) (fun q226 => ?_)
  · replace hM := zx_f q226 hM
    exact j64 p1 x214 x217 x220 0 0 T224 (kc + 4) _ _ _ (by omega) hP hD hS (lv_sub hl [5, 6, 4, 3, 2, 1, 0] rfl) hM
  · replace hM := zx_t q226 hM
    refine lv_aload_n hx hb dL_holds_47 rfl (lv_at hl 5 rfl) ?_
    refine lv_iconst (v := 3) hx hb dL_holds_48 (by decide) ?_
    refine lv_iconst (v := 0) hx hb dL_holds_49 (by decide) ?_
    refine lv_bipush (v := 6) hx hb dL_holds_50 (by decide) ?_
    refine lv_iconst (v := 0) hx hb dL_holds_52 (by decide) ?_
    obtain ⟨x227, T228, hz229, hM⟩ := zx_b2E hM
    have hF := zx_fW hD hS hA
    refine va_calli (va_runS (As := [.ref h, .int 3, .int 0, .int 6, .int 0]) (rest := []) ⟨hx, hb, hml, hown, hts⟩ (c_L_call l hlt D cI cZ cT h hh aa T224 _ N 3 0 6 0 hz229) (va_cwS 5 hts (zg_S zw_4_2 zw_4_3 zw_3_14 zw_4_4) rfl rfl rfl zyL_call ⟨Nat.le_of_ble_eq_true rfl, Nat.le_of_ble_eq_true rfl⟩) ⟨bY_blind, bY_pre hP hK hD hN hXX hNc hS hF⟩ rfl rfl hl.1 rfl (lv_room (Nat.le_of_ble_eq_true rfl)) dL_holds_53 ⟨by show (kc + 4) + 1 ≤ 4014; omega, by show 6 * (kc + 4) + 6 ≤ 24084; omega⟩) hS (fun q _ h => hF q h) (fun q h => hF q h) (fun r u t H1 lc ht hvm hw hB hz1 hk1 hS => ?_)
    obtain ⟨hw1, hw2⟩ := Prod.mk.inj hw; subst hw1; subst hw2
    rw [ht] at hB
    replace hP := hB
    replace hD := zx2_Da T228 hD
    refine W.widen (k := (kc + 5)) (n := 6 * (kc + 5)) (by omega) (by omega) ?_
    refine lv_iconst (v := (-1)) hx hb dL_holds_56 (by decide) ?_
    refine lv_icmp_ne (tgt := 64) hx hb dL_holds_57 (by decide) (fun q230 => ?_) (fun q230 => ?_)
    · replace hM := zx_f q230 hM
      exact j64 p1 x214 x217 x220 0 0 T228 (kc + 5) _ _ _ (by omega) hP hD hS (lv_sub hl [5, 6, 4, 3, 2, 1, 0] rfl) hM
    · replace hM := zx_t q230 hM
      refine lv_iconst (v := 1) hx hb dL_holds_60 (by decide) ?_
      refine lv_goto (tgt := 65) hx hb dL_holds_61 (by decide) ?_
      exact j65 p1 x214 x217 x220 0 0 1 T228 (kc + 5) _ _ _ (by omega) hP hD hS (lv_sub hl [5, 6, 4, 3, 2, 1, 0] rfl) hM
