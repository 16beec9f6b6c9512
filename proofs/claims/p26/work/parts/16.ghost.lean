/-! the reference, as pure functions alone: a ghost; no machine of it stands in this room -/
def f_X3_begin_l2 (N : Nat) (n0 : Nat) : Nat → Int32 → (Nat → Int32) → Option ((Nat → Int32))
  | 0, _, _ => none
  | n2 + 1, v1, f0_ => (if 380 ≤ v1 then
  (zx_wr n0 120 (upd f0_ (Int32.toNatClampNeg 120) 1) (fun g2 =>
some g2)) else
  (zx_wr n0 v1 (upd f0_ (Int32.toNatClampNeg v1) 0) (fun g4 =>
(zx_n (v1 + 1) (fun x6 =>
f_X3_begin_l2 N n0  n2 x6 g4)))))
def f_X3_begin (N : Nat) (n0 : Nat) (f0 : (Nat → Int32)) : Option ((Nat → Int32)) :=
  f_X3_begin_l2 N n0  N 0 f0
def f_X3_thrown (N : Nat) (S : zx_S) : Option (Int32) :=
  some (S 12 0)
def f_X3_refused (N : Nat) (p1 : Int32) (S : zx_S) : Option (Int32 × zx_S) :=
  (zx_n (zx_st S 12 (upd (S 12) 0 p1)) (fun T1 =>
(if p1 ≤ 0 then
  some (0, T1) else
  some (1, T1))))
def f_X3_in (N : Nat) (p0 : Int64) (p2 : Int64) (p4 : Int64) : Option (Int32) :=
  (if (lg_cmp p0 p2) < 0 then
  some 0 else
  (if 0 < (lg_cmp p0 p4) then
  some 0 else
  some 1))
def f_X3_copyState_l3 (N : Nat) (n0 : Nat) (n1 : Nat) (f0 : (Nat → Int32)) : Nat → Int32 → Int32 → Int32 → (Nat → Int32) → Option ((Nat → Int32))
  | 0, _, _, _, _ => none
  | n3 + 1, v1, v3, v4, f1_ => (if 380 ≤ v4 then
  some f1_ else
  (zx_rd n0 f0 (v1 + v4) (fun x2 =>
(zx_wr n1 (v3 + v4) (upd f1_ (Int32.toNatClampNeg (v3 + v4)) x2) (fun g4 =>
(zx_n (v4 + 1) (fun x6 =>
f_X3_copyState_l3 N n0 n1 f0  n3 v1 v3 x6 g4)))))))
def f_X3_copyState (N : Nat) (n0 : Nat) (n1 : Nat) (p1 : Int32) (p3 : Int32) (f0 : (Nat → Int32)) (f1 : (Nat → Int32)) : Option ((Nat → Int32)) :=
  f_X3_copyState_l3 N n0 n1 f0  N p1 p3 0 f1
def f_X3_at (N : Nat) (p0 : Int32) : Option (Int32) :=
  some (120 + (8 * p0))
def f_X3_levelOf (N : Nat) (n0 : Nat) (p1 : Int32) (f0 : (Nat → Int32)) : Option (Int32) :=
  (zx_b1 (f_X3_at N p1) (fun x1 =>
(zx_rd n0 f0 x1 (fun x3 =>
some (x3 - 1)))))
def f_X3_many (N : Nat) (n0 : Nat) (p1 : Int32) (f0 : (Nat → Int32)) : Option (Int32) :=
  (zx_b1 (f_X3_at N p1) (fun x1 =>
(zx_rd n0 f0 (x1 + 1) (fun x3 =>
some x3))))
def f_X3_entryOf (N : Nat) (n0 : Nat) (p1 : Int32) (p2 : Int32) (f0 : (Nat → Int32)) : Option (Int32) :=
  (zx_b1 (f_X3_at N p1) (fun x1 =>
(zx_rd n0 f0 ((x1 + 2) + p2) (fun x3 =>
some x3))))
def f_X3_isThere (N : Nat) (n0 : Nat) (p1 : Int32) (f0 : (Nat → Int32)) : Option (Int32) :=
  (zx_b1 (f_X3_in N (Int32.toInt64 p1) 0 23) (fun x1 =>
(if x1 = 0 then
  some 0 else
  (zx_rd n0 f0 (5 * p1) (fun x4 =>
(if x4 = 1 then
  some 1 else
  some 0))))))
def f_X3_count_l4 (N : Nat) (n0 : Nat) (f0 : (Nat → Int32)) : Nat → Int32 → Int32 → Option (Int32)
  | 0, _, _ => none
  | n4 + 1, v1, v2 => (if 24 ≤ v2 then
  some v1 else
  (zx_rd n0 f0 (5 * v2) (fun x2 =>
(zx_n (v1 + x2) (fun x4 =>
(zx_n (v2 + 1) (fun x5 =>
f_X3_count_l4 N n0 f0  n4 x4 x5)))))))
def f_X3_count (N : Nat) (n0 : Nat) (f0 : (Nat → Int32)) : Option (Int32) :=
  f_X3_count_l4 N n0 f0  N 0 0
def f_X3_nodes_j25 (N : Nat) (n0 : Nat) (f0 : (Nat → Int32)) (k4 : Int32 → Int32 → Option (Int32)) (v2 : Int32) (t0 : Int32) (t1 : Int32) : Option (Int32) :=
  (zx_n (t0 + t1) (fun x2 =>
(zx_n (v2 + 1) (fun x3 =>
k4 x2 x3))))
def f_X3_nodes_l4 (N : Nat) (n0 : Nat) (f0 : (Nat → Int32)) : Nat → Int32 → Int32 → Option (Int32)
  | 0, _, _ => none
  | n4 + 1, v1, v2 => (if 32 ≤ v2 then
  some v1 else
  (zx_b1 (f_X3_at N v2) (fun x4 =>
(zx_rd n0 f0 x4 (fun x6 =>
(if x6 ≤ 0 then
  f_X3_nodes_j25 N n0 f0 (f_X3_nodes_l4 N n0 f0  n4) v2 v1 0 else
  f_X3_nodes_j25 N n0 f0 (f_X3_nodes_l4 N n0 f0  n4) v2 v1 1))))))
def f_X3_nodes (N : Nat) (n0 : Nat) (f0 : (Nat → Int32)) : Option (Int32) :=
  f_X3_nodes_l4 N n0 f0  N 0 0
def f_X3_nodeWith_j86 (N : Nat) (n0 : Nat) (f0 : (Nat → Int32)) (k2 : Int32 → Int32 → Option (Int32)) (v1 : Int32) (v2 : Int32) : Option (Int32) :=
  (zx_n (v2 + 1) (fun x2 =>
k2 v1 x2))
def f_X3_nodeWith_l53 (N : Nat) (n0 : Nat) (f0 : (Nat → Int32)) (k2 : Int32 → Int32 → Option (Int32)) : Nat → Int32 → Int32 → Int32 → Int32 → Option (Int32)
  | 0, _, _, _, _ => none
  | n53 + 1, v1, v2, v3, v4 => (zx_b1 (f_X3_many N n0 v2 f0) (fun x3 =>
(if x3 ≤ v4 then
  f_X3_nodeWith_j86 N n0 f0 k2 v1 v2 else
  (if v3 = 0 then
  f_X3_nodeWith_j86 N n0 f0 k2 v1 v2 else
  (zx_b1 (f_X3_entryOf N n0 v2 v4 f0) (fun x7 =>
(if x7 = v1 then
  some v2 else
  (zx_n (v4 + 1) (fun x10 =>
f_X3_nodeWith_l53 N n0 f0 k2  n53 v1 v2 v3 x10)))))))))
def f_X3_nodeWith_j49 (N : Nat) (n0 : Nat) (f0 : (Nat → Int32)) (k2 : Int32 → Int32 → Option (Int32)) (v1 : Int32) (v2 : Int32) (t0 : Int32) : Option (Int32) :=
  f_X3_nodeWith_l53 N n0 f0 k2 N v1 v2 t0 0
def f_X3_nodeWith_j48 (N : Nat) (n0 : Nat) (f0 : (Nat → Int32)) (k2 : Int32 → Int32 → Option (Int32)) (v1 : Int32) (v2 : Int32) : Option (Int32) :=
  f_X3_nodeWith_j49 N n0 f0 k2 v1 v2 0
def f_X3_nodeWith_j41 (N : Nat) (n0 : Nat) (f0 : (Nat → Int32)) (k2 : Int32 → Int32 → Option (Int32)) (v1 : Int32) (v2 : Int32) (t0 : Int32) (t1 : Int32) : Option (Int32) :=
  (if t0 = t1 then
  f_X3_nodeWith_j49 N n0 f0 k2 v1 v2 1 else
  f_X3_nodeWith_j48 N n0 f0 k2 v1 v2)
def f_X3_nodeWith_j30 (N : Nat) (n0 : Nat) (f0 : (Nat → Int32)) (k2 : Int32 → Int32 → Option (Int32)) (v1 : Int32) (v2 : Int32) (t0 : Int32) : Option (Int32) :=
  (if 24 ≤ v1 then
  f_X3_nodeWith_j41 N n0 f0 k2 v1 v2 t0 0 else
  f_X3_nodeWith_j41 N n0 f0 k2 v1 v2 t0 1)
def f_X3_nodeWith_l2 (N : Nat) (n0 : Nat) (f0 : (Nat → Int32)) : Nat → Int32 → Int32 → Option (Int32)
  | 0, _, _ => none
  | n2 + 1, v1, v2 => (if 32 ≤ v2 then
  some (-1) else
  (zx_b1 (f_X3_at N v2) (fun x11 =>
(zx_rd n0 f0 x11 (fun x13 =>
(if x13 ≤ 0 then
  f_X3_nodeWith_j48 N n0 f0 (f_X3_nodeWith_l2 N n0 f0  n2) v1 v2 else
  (zx_b1 (f_X3_levelOf N n0 v2 f0) (fun x18 =>
(if x18 = 0 then
  f_X3_nodeWith_j30 N n0 f0 (f_X3_nodeWith_l2 N n0 f0  n2) v1 v2 1 else
  f_X3_nodeWith_j30 N n0 f0 (f_X3_nodeWith_l2 N n0 f0  n2) v1 v2 0)))))))))
def f_X3_nodeWith (N : Nat) (n0 : Nat) (p1 : Int32) (f0 : (Nat → Int32)) : Option (Int32) :=
  f_X3_nodeWith_l2 N n0 f0  N p1 0
def f_X3_insert_l15 (N : Nat) (n0 : Nat) : Nat → Int32 → Int32 → Int32 → Int32 → Int32 → (Nat → Int32) → Option ((Nat → Int32))
  | 0, _, _, _, _, _, _ => none
  | n15 + 1, v1, v2, v3, v4, v5, f0_ => (if v5 ≤ v2 then
  (zx_wr n0 (v4 + v2) (upd f0_ (Int32.toNatClampNeg (v4 + v2)) v3) (fun g2 =>
(zx_b1 (f_X3_at N v1) (fun x4 =>
(zx_rd n0 g2 (x4 + 1) (fun x6 =>
(zx_wr n0 (x4 + 1) (upd g2 (Int32.toNatClampNeg (x4 + 1)) (x6 + 1)) (fun g8 =>
some g8)))))))) else
  (zx_rd n0 f0_ ((v4 + v5) - 1) (fun x10 =>
(zx_wr n0 (v4 + v5) (upd f0_ (Int32.toNatClampNeg (v4 + v5)) x10) (fun g12 =>
(zx_n (v5 + (-1)) (fun x14 =>
f_X3_insert_l15 N n0  n15 v1 v2 v3 v4 x14 g12)))))))
def f_X3_insert (N : Nat) (n0 : Nat) (p1 : Int32) (p2 : Int32) (p3 : Int32) (f0 : (Nat → Int32)) : Option ((Nat → Int32)) :=
  (zx_b1 (f_X3_at N p1) (fun x15 =>
(zx_n (x15 + 2) (fun x17 =>
(zx_b1 (f_X3_many N n0 p1 f0) (fun x18 =>
f_X3_insert_l15 N n0  N p1 p2 p3 x17 x18 f0))))))
def f_X3_cutOut_l42 (N : Nat) (n0 : Nat) : Nat → Int32 → Int32 → Int32 → (Nat → Int32) → Option ((Nat → Int32))
  | 0, _, _, _, _ => none
  | n42 + 1, v1, v3, v5, f0_ => (zx_b1 (f_X3_many N n0 v1 f0_) (fun x4 =>
(if x4 ≤ v5 then
  (zx_b1 (f_X3_many N n0 v1 f0_) (fun x7 =>
(zx_wr n0 (v3 + x7) (upd f0_ (Int32.toNatClampNeg (v3 + x7)) 0) (fun g9 =>
some g9)))) else
  (zx_rd n0 f0_ ((v3 + v5) + 1) (fun x11 =>
(zx_wr n0 (v3 + v5) (upd f0_ (Int32.toNatClampNeg (v3 + v5)) x11) (fun g13 =>
(zx_n (v5 + 1) (fun x15 =>
f_X3_cutOut_l42 N n0  n42 v1 v3 x15 g13)))))))))
def f_X3_cutOut_l10 (N : Nat) (n0 : Nat) : Nat → Int32 → Int32 → Int32 → Int32 → (Nat → Int32) → Option ((Nat → Int32))
  | 0, _, _, _, _, _ => none
  | n10 + 1, v1, v2, v3, v4, f0_ => (zx_rd n0 f0_ (v3 + v4) (fun x1 =>
(if x1 = v2 then
  (zx_b1 (f_X3_at N v1) (fun x16 =>
(zx_rd n0 f0_ (x16 + 1) (fun x18 =>
(zx_wr n0 (x16 + 1) (upd f0_ (Int32.toNatClampNeg (x16 + 1)) (x18 - 1)) (fun g20 =>
f_X3_cutOut_l42 N n0  N v1 v3 v4 g20)))))) else
  (zx_n (v4 + 1) (fun x22 =>
f_X3_cutOut_l10 N n0  n10 v1 v2 v3 x22 f0_)))))
def f_X3_cutOut (N : Nat) (n0 : Nat) (p1 : Int32) (p2 : Int32) (f0 : (Nat → Int32)) : Option ((Nat → Int32)) :=
  (zx_b1 (f_X3_at N p1) (fun x23 =>
(zx_n (x23 + 2) (fun x25 =>
f_X3_cutOut_l10 N n0  N p1 p2 x25 0 f0))))
def f_X3_clearSlot_l2 (N : Nat) (n0 : Nat) : Nat → Int32 → Int32 → (Nat → Int32) → Option ((Nat → Int32))
  | 0, _, _, _ => none
  | n2 + 1, v1, v2, f0_ => (if 8 ≤ v2 then
  some f0_ else
  (zx_b1 (f_X3_at N v1) (fun x2 =>
(zx_wr n0 (x2 + v2) (upd f0_ (Int32.toNatClampNeg (x2 + v2)) 0) (fun g4 =>
(zx_n (v2 + 1) (fun x6 =>
f_X3_clearSlot_l2 N n0  n2 v1 x6 g4)))))))
def f_X3_clearSlot (N : Nat) (n0 : Nat) (p1 : Int32) (f0 : (Nat → Int32)) : Option ((Nat → Int32)) :=
  f_X3_clearSlot_l2 N n0  N p1 0 f0
def f_X3_newSlot_l2 (N : Nat) (n0 : Nat) : Nat → Int32 → Int32 → (Nat → Int32) → Option (Int32 × (Nat → Int32))
  | 0, _, _, _ => none
  | n2 + 1, v1, v2, f0_ => (zx_b1 (f_X3_at N v2) (fun x1 =>
(zx_rd n0 f0_ x1 (fun x3 =>
(if x3 ≤ 0 then
  (zx_b1 (f_X3_clearSlot N n0 v2 f0_) (fun g6 =>
(zx_b1 (f_X3_at N v2) (fun x8 =>
(zx_wr n0 x8 (upd g6 (Int32.toNatClampNeg x8) (v1 + 1)) (fun g10 =>
some (v2, g10))))))) else
  (zx_n (v2 + 1) (fun x12 =>
f_X3_newSlot_l2 N n0  n2 v1 x12 f0_)))))))
def f_X3_newSlot (N : Nat) (n0 : Nat) (p1 : Int32) (f0 : (Nat → Int32)) : Option (Int32 × (Nat → Int32)) :=
  f_X3_newSlot_l2 N n0  N p1 0 f0
def f_X3_joinInto_j91 (N : Nat) (k3 : Int32 → Int32 → Int32 → Int32 → zx_S → Option (zx_S)) (v1 : Int32) (v2 : Int32) (v3 : Int32) (v4 : Int32) (t1 : Int32) (t2 : Int32) (S_ : zx_S) : Option (zx_S) :=
  (zx_wr 224 t1 (zx_st S_ 6 (upd (S_ 6) (Int32.toNatClampNeg t1) t2)) (fun T2 =>
(zx_n (v4 + 1) (fun x4 =>
k3 v1 v2 v3 x4 T2))))
def f_X3_joinInto_j67 (N : Nat) (k3 : Int32 → Int32 → Int32 → Int32 → zx_S → Option (zx_S)) (v1 : Int32) (v2 : Int32) (v3 : Int32) (v4 : Int32) (v5 : Int32) (v6 : Int32) (t0 : Int32) (S_ : zx_S) : Option (zx_S) :=
  (if t0 = 0 then
  f_X3_joinInto_j91 N k3 v1 v2 v3 v4 ((4 * v1) + v4) v5 S_ else
  f_X3_joinInto_j91 N k3 v1 v2 v3 v4 ((4 * v1) + v4) v6 S_)
def f_X3_joinInto_j62 (N : Nat) (k3 : Int32 → Int32 → Int32 → Int32 → zx_S → Option (zx_S)) (v1 : Int32) (v2 : Int32) (v3 : Int32) (v4 : Int32) (v5 : Int32) (v6 : Int32) (S_ : zx_S) : Option (zx_S) :=
  f_X3_joinInto_j67 N k3 v1 v2 v3 v4 v5 v6 1 S_
def f_X3_joinInto_j66 (N : Nat) (k3 : Int32 → Int32 → Int32 → Int32 → zx_S → Option (zx_S)) (v1 : Int32) (v2 : Int32) (v3 : Int32) (v4 : Int32) (v5 : Int32) (v6 : Int32) (S_ : zx_S) : Option (zx_S) :=
  f_X3_joinInto_j67 N k3 v1 v2 v3 v4 v5 v6 0 S_
def f_X3_joinInto_l3 (N : Nat) : Nat → Int32 → Int32 → Int32 → Int32 → zx_S → Option (zx_S)
  | 0, _, _, _, _, _ => none
  | n3 + 1, v1, v2, v3, v4, S_ => (if 4 ≤ v4 then
  some S_ else
  (zx_rd 224 (S_ 6) ((4 * v1) + v4) (fun x6 =>
(zx_rd 224 (S_ 6) ((4 * v2) + v4) (fun x8 =>
(if v3 = 0 then
  (if 2 ≤ v4 then
  (if x8 ≤ x6 then
  f_X3_joinInto_j66 N (f_X3_joinInto_l3 N  n3) v1 v2 v3 v4 x6 x8 S_ else
  f_X3_joinInto_j62 N (f_X3_joinInto_l3 N  n3) v1 v2 v3 v4 x6 x8 S_) else
  (if x6 ≤ x8 then
  f_X3_joinInto_j66 N (f_X3_joinInto_l3 N  n3) v1 v2 v3 v4 x6 x8 S_ else
  f_X3_joinInto_j62 N (f_X3_joinInto_l3 N  n3) v1 v2 v3 v4 x6 x8 S_)) else
  f_X3_joinInto_j62 N (f_X3_joinInto_l3 N  n3) v1 v2 v3 v4 x6 x8 S_))))))
def f_X3_joinInto (N : Nat) (p1 : Int32) (p2 : Int32) (p3 : Int32) (S : zx_S) : Option (zx_S) :=
  f_X3_joinInto_l3 N  N p1 p2 p3 0 S
def f_X3_layBoxes_j115 (N : Nat) (w : Nat) (k48 : Int32 → zx_S → Option (zx_S)) (k56 : Int32 → Int32 → zx_S → Option (zx_S)) (v2 : Int32) (v3 : Int32) (S_ : zx_S) : Option (zx_S) :=
  (zx_n (v3 + 1) (fun x5 =>
k56 v2 x5 S_))
def f_X3_layBoxes_j106 (N : Nat) (w : Nat) (k48 : Int32 → zx_S → Option (zx_S)) (k56 : Int32 → Int32 → zx_S → Option (zx_S)) (k65 : Int32 → Int32 → Int32 → zx_S → Option (zx_S)) (v2 : Int32) (v3 : Int32) (v4 : Int32) (t1 : Int32) (t2 : Int32) (t3 : Int32) (S_ : zx_S) : Option (zx_S) :=
  (zx_b1 (f_X3_joinInto N t1 t2 t3 S_) (fun T12 =>
(zx_n (v4 + 1) (fun x14 =>
k65 v2 v3 x14 T12))))
def f_X3_layBoxes_l65 (N : Nat) (w : Nat) (k48 : Int32 → zx_S → Option (zx_S)) (k56 : Int32 → Int32 → zx_S → Option (zx_S)) : Nat → Int32 → Int32 → Int32 → zx_S → Option (zx_S)
  | 0, _, _, _, _ => none
  | n65 + 1, v2, v3, v4, S_ => (zx_b1 (f_X3_many N 380 v3 (S_ w)) (fun x6 =>
(if x6 ≤ v4 then
  f_X3_layBoxes_j115 N w k48 k56 v2 v3 S_ else
  (zx_b1 (f_X3_levelOf N 380 v3 (S_ w)) (fun x9 =>
(if x9 = v2 then
  (zx_b1 (f_X3_entryOf N 380 v3 v4 (S_ w)) (fun x15 =>
(if v4 = 0 then
  f_X3_layBoxes_j106 N w k48 k56 (f_X3_layBoxes_l65 N w k48 k56  n65) v2 v3 v4 (24 + v3) x15 1 S_ else
  f_X3_layBoxes_j106 N w k48 k56 (f_X3_layBoxes_l65 N w k48 k56  n65) v2 v3 v4 (24 + v3) x15 0 S_))) else
  f_X3_layBoxes_j115 N w k48 k56 v2 v3 S_))))))
def f_X3_layBoxes_l56 (N : Nat) (w : Nat) (k48 : Int32 → zx_S → Option (zx_S)) : Nat → Int32 → Int32 → zx_S → Option (zx_S)
  | 0, _, _, _ => none
  | n56 + 1, v2, v3, S_ => (if 32 ≤ v3 then
  (zx_n (v2 + 1) (fun x4 =>
k48 x4 S_)) else
  f_X3_layBoxes_l65 N w k48 (f_X3_layBoxes_l56 N w k48  n56) N v2 v3 0 S_)
def f_X3_layBoxes_l48 (N : Nat) (w : Nat) : Nat → Int32 → zx_S → Option (zx_S)
  | 0, _, _ => none
  | n48 + 1, v2, S_ => (if 6 ≤ v2 then
  some S_ else
  f_X3_layBoxes_l56 N w (f_X3_layBoxes_l48 N w  n48) N v2 0 S_)
def f_X3_layBoxes_l10 (N : Nat) (w : Nat) (k2 : Int32 → zx_S → Option (zx_S)) : Nat → Int32 → Int32 → zx_S → Option (zx_S)
  | 0, _, _, _ => none
  | n10 + 1, v2, v3, S_ => (if 4 ≤ v3 then
  (zx_n (v2 + 1) (fun x19 =>
k2 x19 S_)) else
  (zx_rd 380 (S_ w) (((5 * v2) + 1) + v3) (fun x20 =>
(zx_wr 224 ((4 * v2) + v3) (zx_st S_ 6 (upd (S_ 6) (Int32.toNatClampNeg ((4 * v2) + v3)) x20)) (fun T22 =>
(zx_n (v3 + 1) (fun x24 =>
f_X3_layBoxes_l10 N w k2  n10 v2 x24 T22)))))))
def f_X3_layBoxes_l2 (N : Nat) (w : Nat) : Nat → Int32 → zx_S → Option (zx_S)
  | 0, _, _ => none
  | n2 + 1, v2, S_ => (if 24 ≤ v2 then
  f_X3_layBoxes_l48 N w  N 0 S_ else
  f_X3_layBoxes_l10 N w (f_X3_layBoxes_l2 N w  n2) N v2 0 S_)
def f_X3_layBoxes (N : Nat) (w : Nat) (S : zx_S) : Option (zx_S) :=
  f_X3_layBoxes_l2 N w  N 0 S
def f_X3_area (N : Nat) (p1 : Int32) (S : zx_S) : Option (Int32) :=
  (zx_rd 224 (S 6) ((4 * p1) + 2) (fun x1 =>
(zx_rd 224 (S 6) (4 * p1) (fun x3 =>
(zx_rd 224 (S 6) ((4 * p1) + 3) (fun x5 =>
(zx_rd 224 (S 6) ((4 * p1) + 1) (fun x7 =>
some (((x1 - x3) + 1) * ((x5 - x7) + 1))))))))))
def f_X3_less (N : Nat) (p0 : Int32) (p1 : Int32) : Option (Int32) :=
  (if p1 ≤ p0 then
  some p1 else
  some p0)
def f_X3_more (N : Nat) (p0 : Int32) (p1 : Int32) : Option (Int32) :=
  (if p0 ≤ p1 then
  some p1 else
  some p0)
def f_X3_joinArea (N : Nat) (p1 : Int32) (p2 : Int32) (S : zx_S) : Option (Int32) :=
  (zx_rd 224 (S 6) ((4 * p1) + 2) (fun x1 =>
(zx_rd 224 (S 6) ((4 * p2) + 2) (fun x3 =>
(zx_b1 (f_X3_more N x1 x3) (fun x5 =>
(zx_rd 224 (S 6) (4 * p1) (fun x7 =>
(zx_rd 224 (S 6) (4 * p2) (fun x9 =>
(zx_b1 (f_X3_less N x7 x9) (fun x11 =>
(zx_n ((x5 - x11) + 1) (fun x13 =>
(zx_rd 224 (S 6) ((4 * p1) + 3) (fun x14 =>
(zx_rd 224 (S 6) ((4 * p2) + 3) (fun x16 =>
(zx_b1 (f_X3_more N x14 x16) (fun x18 =>
(zx_rd 224 (S 6) ((4 * p1) + 1) (fun x20 =>
(zx_rd 224 (S 6) ((4 * p2) + 1) (fun x22 =>
(zx_b1 (f_X3_less N x20 x22) (fun x24 =>
(zx_n ((x18 - x24) + 1) (fun x26 =>
some (x13 * x26)))))))))))))))))))))))))))))
def f_X3_common (N : Nat) (p1 : Int32) (p2 : Int32) (S : zx_S) : Option (Int32) :=
  (zx_rd 224 (S 6) ((4 * p1) + 2) (fun x1 =>
(zx_rd 224 (S 6) ((4 * p2) + 2) (fun x3 =>
(zx_b1 (f_X3_less N x1 x3) (fun x5 =>
(zx_rd 224 (S 6) (4 * p1) (fun x7 =>
(zx_rd 224 (S 6) (4 * p2) (fun x9 =>
(zx_b1 (f_X3_more N x7 x9) (fun x11 =>
(zx_n ((x5 - x11) + 1) (fun x13 =>
(zx_rd 224 (S 6) ((4 * p1) + 3) (fun x14 =>
(zx_rd 224 (S 6) ((4 * p2) + 3) (fun x16 =>
(zx_b1 (f_X3_less N x14 x16) (fun x18 =>
(zx_rd 224 (S 6) ((4 * p1) + 1) (fun x20 =>
(zx_rd 224 (S 6) ((4 * p2) + 1) (fun x22 =>
(zx_b1 (f_X3_more N x20 x22) (fun x24 =>
(zx_n ((x18 - x24) + 1) (fun x26 =>
(if x13 ≤ 0 then
  some 0 else
  (if x26 ≤ 0 then
  some 0 else
  some (x13 * x26)))))))))))))))))))))))))))))))
def f_X3_apart (N : Nat) (p1 : Int32) (p2 : Int32) (S : zx_S) : Option (Int32) :=
  (zx_rd 224 (S 6) (4 * p1) (fun x1 =>
(zx_rd 224 (S 6) ((4 * p1) + 2) (fun x3 =>
(zx_rd 224 (S 6) (4 * p2) (fun x5 =>
(zx_rd 224 (S 6) ((4 * p2) + 2) (fun x7 =>
(zx_n (((x1 + x3) - x5) - x7) (fun x9 =>
(zx_rd 224 (S 6) ((4 * p1) + 1) (fun x10 =>
(zx_rd 224 (S 6) ((4 * p1) + 3) (fun x12 =>
(zx_rd 224 (S 6) ((4 * p2) + 1) (fun x14 =>
(zx_rd 224 (S 6) ((4 * p2) + 3) (fun x16 =>
(zx_n (((x10 + x12) - x14) - x16) (fun x18 =>
some ((x9 * x9) + (x18 * x18))))))))))))))))))))))
def f_X3_reach_j142 (N : Nat) (w : Nat) (S : zx_S) (k7 : Int32 → Int32 → Int32 → Option (Int32)) (k23 : Int32 → Int32 → Int32 → Int32 → Int32 → Option (Int32)) (v2 : Int32) (v3 : Int32) (v4 : Int32) (v6 : Int32) (t0 : Int32) : Option (Int32) :=
  (zx_n (v6 + 1) (fun x8 =>
k23 v2 v3 v4 t0 x8))
def f_X3_reach_j130 (N : Nat) (w : Nat) (S : zx_S) (k7 : Int32 → Int32 → Int32 → Option (Int32)) (k23 : Int32 → Int32 → Int32 → Int32 → Int32 → Option (Int32)) (v2 : Int32) (v3 : Int32) (v4 : Int32) (v5 : Int32) (v6 : Int32) (v7 : Int32) (v8 : Int32) : Option (Int32) :=
  (if v8 = 0 then
  f_X3_reach_j142 N w S k7 k23 v2 v3 v4 v6 v5 else
  f_X3_reach_j142 N w S k7 k23 v2 v3 v4 v6 v7)
def f_X3_reach_j128 (N : Nat) (w : Nat) (S : zx_S) (k7 : Int32 → Int32 → Int32 → Option (Int32)) (k23 : Int32 → Int32 → Int32 → Int32 → Int32 → Option (Int32)) (v2 : Int32) (v3 : Int32) (v4 : Int32) (v5 : Int32) (v6 : Int32) (v7 : Int32) (t0 : Int32) : Option (Int32) :=
  f_X3_reach_j130 N w S k7 k23 v2 v3 v4 v5 v6 v7 t0
def f_X3_reach_j123 (N : Nat) (w : Nat) (S : zx_S) (k7 : Int32 → Int32 → Int32 → Option (Int32)) (k23 : Int32 → Int32 → Int32 → Int32 → Int32 → Option (Int32)) (v2 : Int32) (v3 : Int32) (v4 : Int32) (v5 : Int32) (v6 : Int32) (v7 : Int32) : Option (Int32) :=
  f_X3_reach_j128 N w S k7 k23 v2 v3 v4 v5 v6 v7 1
def f_X3_reach_j127 (N : Nat) (w : Nat) (S : zx_S) (k7 : Int32 → Int32 → Int32 → Option (Int32)) (k23 : Int32 → Int32 → Int32 → Int32 → Int32 → Option (Int32)) (v2 : Int32) (v3 : Int32) (v4 : Int32) (v5 : Int32) (v6 : Int32) (v7 : Int32) : Option (Int32) :=
  f_X3_reach_j128 N w S k7 k23 v2 v3 v4 v5 v6 v7 0
def f_X3_reach_j55 (N : Nat) (w : Nat) (S : zx_S) (k7 : Int32 → Int32 → Int32 → Option (Int32)) (k23 : Int32 → Int32 → Int32 → Int32 → Int32 → Option (Int32)) (v2 : Int32) (v3 : Int32) (v4 : Int32) (v5 : Int32) (v6 : Int32) (v7 : Int32) (t0 : Int32) : Option (Int32) :=
  (if t0 = 0 then
  (zx_b1 (f_X3_joinArea N v7 v2 S) (fun x11 =>
(zx_b1 (f_X3_area N v7 S) (fun x13 =>
(zx_n (x11 - x13) (fun x15 =>
(zx_b1 (f_X3_joinArea N v5 v2 S) (fun x16 =>
(zx_b1 (f_X3_area N v5 S) (fun x18 =>
(zx_n (x16 - x18) (fun x20 =>
(if x15 < x20 then
  f_X3_reach_j123 N w S k7 k23 v2 v3 v4 v5 v6 v7 else
  (if x15 = x20 then
  (zx_b1 (f_X3_area N v7 S) (fun x23 =>
(zx_b1 (f_X3_area N v5 S) (fun x25 =>
(if x25 ≤ x23 then
  f_X3_reach_j127 N w S k7 k23 v2 v3 v4 v5 v6 v7 else
  f_X3_reach_j123 N w S k7 k23 v2 v3 v4 v5 v6 v7))))) else
  f_X3_reach_j127 N w S k7 k23 v2 v3 v4 v5 v6 v7)))))))))))))) else
  f_X3_reach_j130 N w S k7 k23 v2 v3 v4 v5 v6 v7 t0)
def f_X3_reach_l23 (N : Nat) (w : Nat) (S : zx_S) (k7 : Int32 → Int32 → Int32 → Option (Int32)) : Nat → Int32 → Int32 → Int32 → Int32 → Int32 → Option (Int32)
  | 0, _, _, _, _, _ => none
  | n23 + 1, v2, v3, v4, v5, v6 => (zx_b1 (f_X3_many N 380 v4 (S w)) (fun x4 =>
(if x4 ≤ v6 then
  (zx_n (v5 - 24) (fun x7 =>
k7 v2 v3 x7)) else
  (zx_b1 (f_X3_entryOf N 380 v4 v6 (S w)) (fun x28 =>
(if v5 = (-1) then
  f_X3_reach_j55 N w S k7 (f_X3_reach_l23 N w S k7  n23) v2 v3 v4 v5 v6 x28 1 else
  f_X3_reach_j55 N w S k7 (f_X3_reach_l23 N w S k7  n23) v2 v3 v4 v5 v6 x28 0))))))
def f_X3_reach_l7 (N : Nat) (w : Nat) (S : zx_S) : Nat → Int32 → Int32 → Int32 → Option (Int32)
  | 0, _, _, _ => none
  | n7 + 1, v2, v3, v4 => (zx_b1 (f_X3_levelOf N 380 v4 (S w)) (fun x1 =>
(if x1 ≤ v3 then
  some v4 else
  f_X3_reach_l23 N w S (f_X3_reach_l7 N w S  n7) N v2 v3 v4 (-1) 0)))
def f_X3_reach (N : Nat) (w : Nat) (p2 : Int32) (p3 : Int32) (S : zx_S) : Option (Int32) :=
  (zx_rd 380 (S w) 376 (fun x31 =>
f_X3_reach_l7 N w S  N p2 p3 x31))
def f_X3_throwOut_j57 (N : Nat) (w : Nat) (k10 : Int32 → Int32 → Int32 → zx_S → Option (zx_S)) (v2 : Int32) (v4 : Int32) (t0 : Int32) (S_ : zx_S) : Option (zx_S) :=
  (zx_n (v4 + 1) (fun x18 =>
k10 v2 t0 x18 S_))
def f_X3_throwOut_l10 (N : Nat) (w : Nat) : Nat → Int32 → Int32 → Int32 → zx_S → Option (zx_S)
  | 0, _, _, _, _ => none
  | n10 + 1, v2, v3, v4, S_ => (zx_b1 (f_X3_many N 380 v2 (S_ w)) (fun x1 =>
(if x1 ≤ v4 then
  (zx_b1 (f_X3_cutOut N 380 v2 v3 (S_ w)) (fun g4 =>
(zx_n (zx_st S_ w g4) (fun T6 =>
(zx_b1 (f_X3_levelOf N 380 v2 (T6 w)) (fun x7 =>
(zx_n (zx_st T6 12 (upd (T6 12) 3 ((T6 12 3) ||| (1 <<< (x7 &&& 31))))) (fun T9 =>
(zx_rd 380 (T9 w) 377 (fun x10 =>
(zx_wr 380 377 (zx_st T9 w (upd (T9 w) (Int32.toNatClampNeg 377) (x10 + 1))) (fun T12 =>
(zx_n (zx_st T12 12 (upd (T12 12) 4 v3)) (fun T14 =>
(zx_b1 (f_X3_levelOf N 380 v2 (T14 w)) (fun x15 =>
(zx_n (zx_st T14 12 (upd (T14 12) 5 x15)) (fun T17 =>
some T17)))))))))))))))))) else
  (zx_b1 (f_X3_entryOf N 380 v2 v4 (S_ w)) (fun x19 =>
(zx_b1 (f_X3_apart N x19 (24 + v2) S_) (fun x21 =>
(zx_b1 (f_X3_apart N v3 (24 + v2) S_) (fun x23 =>
(if x21 ≤ x23 then
  f_X3_throwOut_j57 N w (f_X3_throwOut_l10 N w  n10) v2 v4 v3 S_ else
  f_X3_throwOut_j57 N w (f_X3_throwOut_l10 N w  n10) v2 v4 x19 S_))))))))))
def f_X3_throwOut (N : Nat) (w : Nat) (p2 : Int32) (S : zx_S) : Option (zx_S) :=
  (zx_b1 (f_X3_entryOf N 380 p2 0 (S w)) (fun x26 =>
f_X3_throwOut_l10 N w  N p2 x26 1 S))
def f_X3_waste (N : Nat) (p1 : Int32) (p2 : Int32) (S : zx_S) : Option (Int32) :=
  (zx_b1 (f_X3_joinArea N p1 p2 S) (fun x1 =>
(zx_b1 (f_X3_area N p1 S) (fun x3 =>
(zx_b1 (f_X3_area N p2 S) (fun x5 =>
some ((x1 - x3) - x5)))))))
def f_X3_take_j19 (N : Nat) (w : Nat) (v2 : Int32) (v3 : Int32) (t1 : Int32) (t2 : Int32) (t3 : Int32) (S_ : zx_S) : Option (zx_S) :=
  (zx_b1 (f_X3_joinInto N t1 t2 t3 S_) (fun T1 =>
(zx_b1 (f_X3_many N 380 v2 (T1 w)) (fun x3 =>
(zx_b1 (f_X3_insert N 380 v2 x3 v3 (T1 w)) (fun g5 =>
(zx_n (zx_st T1 w g5) (fun T7 =>
some T7))))))))
def f_X3_take (N : Nat) (w : Nat) (p2 : Int32) (p3 : Int32) (S : zx_S) : Option (zx_S) :=
  (zx_b1 (f_X3_many N 380 p2 (S w)) (fun x8 =>
(if x8 = 0 then
  f_X3_take_j19 N w  p2 p3 (24 + p2) p3 1 S else
  f_X3_take_j19 N w  p2 p3 (24 + p2) p3 0 S)))
def f_X3_goesFirst_j24 (N : Nat) (w : Nat) (S : zx_S) (v2 : Int32) (v5 : Int32) : Option (Int32) :=
  (zx_b1 (f_X3_many N 380 v2 (S w)) (fun x1 =>
(if (x1 + v5) = 2 then
  some 1 else
  some 0)))
def f_X3_goesFirst (N : Nat) (w : Nat) (p2 : Int32) (p3 : Int32) (p4 : Int32) (p5 : Int32) (S : zx_S) : Option (Int32) :=
  (zx_b1 (f_X3_many N 380 p2 (S w)) (fun x4 =>
(if (x4 + p5) = 2 then
  f_X3_goesFirst_j24 N w S  p2 p5 else
  (zx_b1 (f_X3_many N 380 p3 (S w)) (fun x7 =>
(if (x7 + p5) = 2 then
  f_X3_goesFirst_j24 N w S  p2 p5 else
  (zx_n (24 + p2) (fun x10 =>
(zx_n (24 + p3) (fun x11 =>
(zx_b1 (f_X3_joinArea N x10 p4 S) (fun x12 =>
(zx_b1 (f_X3_area N x10 S) (fun x14 =>
(zx_n (x12 - x14) (fun x16 =>
(zx_b1 (f_X3_joinArea N x11 p4 S) (fun x17 =>
(zx_b1 (f_X3_area N x11 S) (fun x19 =>
(zx_n (x17 - x19) (fun x21 =>
(if x16 = x21 then
  (zx_b1 (f_X3_area N x10 S) (fun x23 =>
(zx_b1 (f_X3_area N x11 S) (fun x25 =>
(if x23 = x25 then
  (zx_b1 (f_X3_many N 380 p2 (S w)) (fun x28 =>
(zx_b1 (f_X3_many N 380 p3 (S w)) (fun x30 =>
(if x30 < x28 then
  some 0 else
  some 1))))) else
  (zx_b1 (f_X3_area N x10 S) (fun x33 =>
(zx_b1 (f_X3_area N x11 S) (fun x35 =>
(if x35 ≤ x33 then
  some 0 else
  some 1)))))))))) else
  (if x21 ≤ x16 then
  some 0 else
  some 1))))))))))))))))))))))))
def f_X3_split_j274 (N : Nat) (w : Nat) (k213 : Int32 → Int32 → Int32 → Int32 → Int32 → Int32 → Int32 → zx_S → Option (Int32 × zx_S)) (v2 : Int32) (v3 : Int32) (v4 : Int32) (v5 : Int32) (v7 : Int32) (v8 : Int32) (v9 : Int32) (S_ : zx_S) : Option (Int32 × zx_S) :=
  (zx_n (v9 + 1) (fun x8 =>
k213 v2 v3 v4 v5 v7 v8 x8 S_))
def f_X3_split_j261 (N : Nat) (w : Nat) (k213 : Int32 → Int32 → Int32 → Int32 → Int32 → Int32 → Int32 → zx_S → Option (Int32 × zx_S)) (v2 : Int32) (v3 : Int32) (v4 : Int32) (v5 : Int32) (v7 : Int32) (v8 : Int32) (v9 : Int32) (t2 : Int32) (S_ : zx_S) : Option (Int32 × zx_S) :=
  (zx_rd 5 (S_ 7) v9 (fun x11 =>
(zx_b1 (f_X3_take N w t2 x11 S_) (fun T13 =>
(zx_n (v8 + (-1)) (fun x15 =>
f_X3_split_j274 N w k213 v2 v3 v4 v5 v7 x15 v9 T13))))))
def f_X3_split_l213 (N : Nat) (w : Nat) : Nat → Int32 → Int32 → Int32 → Int32 → Int32 → Int32 → Int32 → zx_S → Option (Int32 × zx_S)
  | 0, _, _, _, _, _, _, _, _ => none
  | n213 + 1, v2, v3, v4, v5, v7, v8, v9, S_ => (if v3 ≤ v9 then
  (zx_rd 380 (S_ w) 378 (fun x4 =>
(zx_wr 380 378 (zx_st S_ w (upd (S_ w) (Int32.toNatClampNeg 378) (x4 + 1))) (fun T6 =>
some (v7, T6))))) else
  (if v9 = v4 then
  f_X3_split_j274 N w (f_X3_split_l213 N w  n213) v2 v3 v4 v5 v7 v8 v9 S_ else
  (if v9 = v5 then
  f_X3_split_j274 N w (f_X3_split_l213 N w  n213) v2 v3 v4 v5 v7 v8 v9 S_ else
  (zx_rd 5 (S_ 7) v9 (fun x16 =>
(zx_b1 (f_X3_goesFirst N w v2 v7 x16 v8 S_) (fun x18 =>
(if x18 = 0 then
  f_X3_split_j261 N w (f_X3_split_l213 N w  n213) v2 v3 v4 v5 v7 v8 v9 v7 S_ else
  f_X3_split_j261 N w (f_X3_split_l213 N w  n213) v2 v3 v4 v5 v7 v8 v9 v2 S_))))))))
def f_X3_split_j134 (N : Nat) (w : Nat) (k44 : Int32 → Int32 → Int32 → Int32 → Int32 → zx_S → Option (Int32 × zx_S)) (k56 : Int32 → Int32 → Int32 → Int32 → Int32 → Int32 → zx_S → Option (Int32 × zx_S)) (v2 : Int32) (v3 : Int32) (v4 : Int32) (v6 : Int32) (v7 : Int32) (t0 : Int32) (S_ : zx_S) : Option (Int32 × zx_S) :=
  (zx_n (v7 + 1) (fun x45 =>
k56 v2 v3 v4 t0 v6 x45 S_))
def f_X3_split_j120 (N : Nat) (w : Nat) (k44 : Int32 → Int32 → Int32 → Int32 → Int32 → zx_S → Option (Int32 × zx_S)) (k56 : Int32 → Int32 → Int32 → Int32 → Int32 → Int32 → zx_S → Option (Int32 × zx_S)) (v2 : Int32) (v3 : Int32) (v5 : Int32) (v6 : Int32) (v7 : Int32) (v8 : Int32) (t0 : Int32) (S_ : zx_S) : Option (Int32 × zx_S) :=
  (if v8 = 0 then
  f_X3_split_j134 N w k44 k56 v2 v3 t0 v6 v7 v5 S_ else
  f_X3_split_j134 N w k44 k56 v2 v3 t0 v6 v7 v7 S_)
def f_X3_split_j106 (N : Nat) (w : Nat) (k44 : Int32 → Int32 → Int32 → Int32 → Int32 → zx_S → Option (Int32 × zx_S)) (k56 : Int32 → Int32 → Int32 → Int32 → Int32 → Int32 → zx_S → Option (Int32 × zx_S)) (v2 : Int32) (v3 : Int32) (v4 : Int32) (v5 : Int32) (v6 : Int32) (v7 : Int32) (t0 : Int32) (S_ : zx_S) : Option (Int32 × zx_S) :=
  (if t0 = 0 then
  f_X3_split_j120 N w k44 k56 v2 v3 v5 v6 v7 t0 v4 S_ else
  f_X3_split_j120 N w k44 k56 v2 v3 v5 v6 v7 t0 v6 S_)
def f_X3_split_l56 (N : Nat) (w : Nat) (k44 : Int32 → Int32 → Int32 → Int32 → Int32 → zx_S → Option (Int32 × zx_S)) : Nat → Int32 → Int32 → Int32 → Int32 → Int32 → Int32 → zx_S → Option (Int32 × zx_S)
  | 0, _, _, _, _, _, _, _ => none
  | n56 + 1, v2, v3, v4, v5, v6, v7, S_ => (if v3 ≤ v7 then
  (zx_n (v6 + 1) (fun x44 =>
k44 v2 v3 v4 v5 x44 S_)) else
  (zx_rd 5 (S_ 7) v6 (fun x48 =>
(zx_rd 5 (S_ 7) v7 (fun x50 =>
(zx_b1 (f_X3_waste N x48 x50 S_) (fun x52 =>
(zx_rd 5 (S_ 7) v4 (fun x54 =>
(zx_rd 5 (S_ 7) v5 (fun x56 =>
(zx_b1 (f_X3_waste N x54 x56 S_) (fun x58 =>
(if x52 ≤ x58 then
  f_X3_split_j106 N w k44 (f_X3_split_l56 N w k44  n56) v2 v3 v4 v5 v6 v7 0 S_ else
  f_X3_split_j106 N w k44 (f_X3_split_l56 N w k44  n56) v2 v3 v4 v5 v6 v7 1 S_))))))))))))))
def f_X3_split_l44 (N : Nat) (w : Nat) : Nat → Int32 → Int32 → Int32 → Int32 → Int32 → zx_S → Option (Int32 × zx_S)
  | 0, _, _, _, _, _, _ => none
  | n44 + 1, v2, v3, v4, v5, v6, S_ => (if v3 ≤ v6 then
  (zx_b1 (f_X3_levelOf N 380 v2 (S_ w)) (fun x21 =>
(zx_b1 (f_X3_clearSlot N 380 v2 (S_ w)) (fun g23 =>
(zx_n (zx_st S_ w g23) (fun T25 =>
(zx_b1 (f_X3_at N v2) (fun x26 =>
(zx_wr 380 x26 (zx_st T25 w (upd (T25 w) (Int32.toNatClampNeg x26) (x21 + 1))) (fun T28 =>
(zx_b2 (f_X3_newSlot N 380 x21 (T28 w)) (fun x30 g31 =>
(zx_n (zx_st T28 w g31) (fun T33 =>
(zx_rd 5 (T33 7) v4 (fun x34 =>
(zx_b1 (f_X3_take N w v2 x34 T33) (fun T36 =>
(zx_rd 5 (T36 7) v5 (fun x38 =>
(zx_b1 (f_X3_take N w x30 x38 T36) (fun T40 =>
(zx_n (v3 - 2) (fun x42 =>
f_X3_split_l213 N w  N v2 v3 v4 v5 x30 x42 0 T40)))))))))))))))))))))))) else
  (zx_n (v6 + 1) (fun x61 =>
f_X3_split_l56 N w (f_X3_split_l44 N w  n44) N v2 v3 v4 v5 v6 x61 S_)))
def f_X3_split_l15 (N : Nat) (w : Nat) : Nat → Int32 → Int32 → Int32 → Int32 → Int32 → zx_S → Option (Int32 × zx_S)
  | 0, _, _, _, _, _, _ => none
  | n15 + 1, v2, v3, v4, v5, v6, S_ => (if v3 ≤ v6 then
  f_X3_split_l44 N w  N v2 v3 v4 v5 0 S_ else
  (zx_b1 (f_X3_entryOf N 380 v2 v6 (S_ w)) (fun x62 =>
(zx_wr 5 v6 (zx_st S_ 7 (upd (S_ 7) (Int32.toNatClampNeg v6) x62)) (fun T64 =>
(zx_n (v6 + 1) (fun x66 =>
f_X3_split_l15 N w  n15 v2 v3 v4 v5 x66 T64)))))))
def f_X3_split (N : Nat) (w : Nat) (p2 : Int32) (S : zx_S) : Option (Int32 × zx_S) :=
  (zx_b1 (f_X3_many N 380 p2 (S w)) (fun x67 =>
f_X3_split_l15 N w  N p2 x67 0 1 0 S))
def f_X3_treat_l114 (N : Nat) (w : Nat) (k2 : Int32 → zx_S → Option (zx_S)) : Nat → Int32 → Int32 → Int32 → Int32 → zx_S → Option (zx_S)
  | 0, _, _, _, _, _ => none
  | n114 + 1, v3, v4, v5, v6, S_ => (zx_b1 (f_X3_entryOf N 380 v4 v6 (S_ w)) (fun x5 =>
(if x5 = (24 + v3) then
  (zx_b1 (f_X3_insert N 380 v4 (v6 + 1) (24 + v5) (S_ w)) (fun g8 =>
(zx_n (zx_st S_ w g8) (fun T10 =>
k2 v4 T10)))) else
  (zx_n (v6 + 1) (fun x11 =>
f_X3_treat_l114 N w k2  n114 v3 v4 v5 x11 S_)))))
def f_X3_treat_j111 (N : Nat) (w : Nat) (k2 : Int32 → zx_S → Option (zx_S)) (v3 : Int32) (v4 : Int32) (v5 : Int32) (S_ : zx_S) : Option (zx_S) :=
  f_X3_treat_l114 N w k2 N v3 v4 v5 0 S_
def f_X3_treat_j56 (N : Nat) (w : Nat) (k2 : Int32 → zx_S → Option (zx_S)) (v3 : Int32) (S_ : zx_S) : Option (zx_S) :=
  (zx_b1 (f_X3_nodeWith N 380 (24 + v3) (S_ w)) (fun x12 =>
(zx_b2 (f_X3_split N w v3 S_) (fun x14 T15 =>
(if x12 = (-1) then
  (zx_b1 (f_X3_levelOf N 380 v3 (T15 w)) (fun x18 =>
(zx_b2 (f_X3_newSlot N 380 (x18 + 1) (T15 w)) (fun x20 g21 =>
(zx_n (zx_st T15 w g21) (fun T23 =>
(zx_b1 (f_X3_insert N 380 x20 0 (24 + v3) (T23 w)) (fun g24 =>
(zx_n (zx_st T23 w g24) (fun T26 =>
(zx_wr 380 376 (zx_st T26 w (upd (T26 w) (Int32.toNatClampNeg 376) x20)) (fun T27 =>
f_X3_treat_j111 N w k2 v3 x20 x14 T27)))))))))))) else
  f_X3_treat_j111 N w k2 v3 x12 x14 T15)))))
def f_X3_treat_l2 (N : Nat) (w : Nat) : Nat → Int32 → zx_S → Option (zx_S)
  | 0, _, _ => none
  | n2 + 1, v3, S_ => (if v3 = (-1) then
  some S_ else
  (zx_b1 (f_X3_many N 380 v3 (S_ w)) (fun x2 =>
(if x2 ≤ 4 then
  some S_ else
  (zx_b1 (f_X3_layBoxes N w S_) (fun T29 =>
(zx_rd 380 (T29 w) 376 (fun x31 =>
(if v3 = x31 then
  f_X3_treat_j56 N w (f_X3_treat_l2 N w  n2) v3 T29 else
  (zx_b1 (f_X3_levelOf N 380 v3 (T29 w)) (fun x34 =>
(if (((T29 12 3) >>> (x34 &&& 31)) &&& 1) = 0 then
  (zx_b1 (f_X3_throwOut N w v3 T29) (fun T37 =>
f_X3_treat_l2 N w  n2 (-1) T37)) else
  f_X3_treat_j56 N w (f_X3_treat_l2 N w  n2) v3 T29))))))))))))
def f_X3_treat (N : Nat) (w : Nat) (p2 : Int32) (S : zx_S) : Option (zx_S) :=
  f_X3_treat_l2 N w  N p2 S
def f_X3_putIn_l10 (N : Nat) (w : Nat) : Nat → zx_S → Option (zx_S)
  | 0, _ => none
  | n10 + 1, S_ => (if (S_ 12 4) = (-1) then
  some S_ else
  (zx_n (zx_st S_ 12 (upd (S_ 12) 4 (-1))) (fun T2 =>
(zx_b1 (f_X3_layBoxes N w T2) (fun T3 =>
(zx_b1 (f_X3_reach N w (S_ 12 4) (T3 12 5) T3) (fun x5 =>
(zx_b1 (f_X3_many N 380 x5 (T3 w)) (fun x7 =>
(zx_b1 (f_X3_insert N 380 x5 x7 (S_ 12 4) (T3 w)) (fun g9 =>
(zx_n (zx_st T3 w g9) (fun T11 =>
(zx_b1 (f_X3_treat N w x5 T11) (fun T12 =>
f_X3_putIn_l10 N w  n10 T12)))))))))))))))
def f_X3_putIn (N : Nat) (w : Nat) (p2 : Int32) (p3 : Int32) (S : zx_S) : Option (zx_S) :=
  (zx_n (zx_st S 12 (upd (S 12) 4 p2)) (fun T14 =>
(zx_n (zx_st T14 12 (upd (T14 12) 5 p3)) (fun T15 =>
f_X3_putIn_l10 N w  N T15))))
def f_X3_takeOut_j213 (N : Nat) (w : Nat) (k181 : Int32 → zx_S → Option (zx_S)) (v4 : Int32) (S_ : zx_S) : Option (zx_S) :=
  (zx_n (v4 + 1) (fun x3 =>
k181 x3 S_))
def f_X3_takeOut_l181 (N : Nat) (w : Nat) : Nat → Int32 → zx_S → Option (zx_S)
  | 0, _, _ => none
  | n181 + 1, v4, S_ => (if 6 ≤ v4 then
  some S_ else
  (zx_rd 6 (S_ 8) v4 (fun x4 =>
(if x4 = (-1) then
  f_X3_takeOut_j213 N w (f_X3_takeOut_l181 N w  n181) v4 S_ else
  (zx_rd 6 (S_ 8) v4 (fun x7 =>
(zx_b1 (f_X3_putIn N w x7 v4 S_) (fun T9 =>
f_X3_takeOut_j213 N w (f_X3_takeOut_l181 N w  n181) v4 T9))))))))
def f_X3_takeOut_j178 (N : Nat) (w : Nat) (S_ : zx_S) : Option (zx_S) :=
  f_X3_takeOut_l181 N w  N 0 S_
def f_X3_takeOut_l119 (N : Nat) (w : Nat) : Nat → zx_S → Option (zx_S)
  | 0, _ => none
  | n119 + 1, S_ => (zx_rd 380 (S_ w) 376 (fun x11 =>
(zx_b1 (f_X3_levelOf N 380 x11 (S_ w)) (fun x13 =>
(if x13 ≤ 0 then
  f_X3_takeOut_j178 N w  S_ else
  (zx_rd 380 (S_ w) 376 (fun x16 =>
(zx_b1 (f_X3_many N 380 x16 (S_ w)) (fun x18 =>
(if x18 = 1 then
  (zx_rd 380 (S_ w) 376 (fun x21 =>
(zx_b1 (f_X3_entryOf N 380 x21 0 (S_ w)) (fun x23 =>
(zx_n (x23 - 24) (fun x25 =>
(zx_rd 380 (S_ w) 376 (fun x26 =>
(zx_b1 (f_X3_clearSlot N 380 x26 (S_ w)) (fun g28 =>
(zx_n (zx_st S_ w g28) (fun T30 =>
(zx_wr 380 376 (zx_st T30 w (upd (T30 w) (Int32.toNatClampNeg 376) x25)) (fun T31 =>
f_X3_takeOut_l119 N w  n119 T31)))))))))))))) else
  f_X3_takeOut_j178 N w  S_))))))))))
def f_X3_takeOut_j88 (N : Nat) (w : Nat) (k33 : Int32 → zx_S → Option (zx_S)) (v3 : Int32) (v4 : Int32) (t1 : Int32) (t2 : Int32) (S_ : zx_S) : Option (zx_S) :=
  (zx_wr 6 t1 (zx_st S_ 8 (upd (S_ 8) (Int32.toNatClampNeg t1) t2)) (fun T39 =>
(zx_b1 (f_X3_cutOut N 380 v4 (24 + v3) (T39 w)) (fun g41 =>
(zx_n (zx_st T39 w g41) (fun T43 =>
(zx_b1 (f_X3_clearSlot N 380 v3 (T43 w)) (fun g44 =>
(zx_n (zx_st T43 w g44) (fun T46 =>
(zx_rd 380 (T46 w) 379 (fun x47 =>
(zx_wr 380 379 (zx_st T46 w (upd (T46 w) (Int32.toNatClampNeg 379) (x47 + 1))) (fun T49 =>
k33 v4 T49))))))))))))))
def f_X3_takeOut_l33 (N : Nat) (w : Nat) : Nat → Int32 → zx_S → Option (zx_S)
  | 0, _, _ => none
  | n33 + 1, v3, S_ => (zx_rd 380 (S_ w) 376 (fun x33 =>
(if v3 = x33 then
  f_X3_takeOut_l119 N w  N S_ else
  (zx_b1 (f_X3_many N 380 v3 (S_ w)) (fun x36 =>
(if 2 ≤ x36 then
  f_X3_takeOut_l119 N w  N S_ else
  (zx_b1 (f_X3_nodeWith N 380 (24 + v3) (S_ w)) (fun x51 =>
(zx_b1 (f_X3_levelOf N 380 v3 (S_ w)) (fun x53 =>
(zx_b1 (f_X3_many N 380 v3 (S_ w)) (fun x55 =>
(if x55 = 0 then
  f_X3_takeOut_j88 N w (f_X3_takeOut_l33 N w  n33) v3 x51 x53 (-1) S_ else
  (zx_b1 (f_X3_entryOf N 380 v3 0 (S_ w)) (fun x58 =>
f_X3_takeOut_j88 N w (f_X3_takeOut_l33 N w  n33) v3 x51 x53 x58 S_)))))))))))))))
def f_X3_takeOut_l2 (N : Nat) (w : Nat) : Nat → Int32 → Int32 → zx_S → Option (zx_S)
  | 0, _, _, _ => none
  | n2 + 1, v2, v3, S_ => (if 6 ≤ v3 then
  (zx_b1 (f_X3_nodeWith N 380 v2 (S_ w)) (fun x60 =>
(zx_b1 (f_X3_cutOut N 380 x60 v2 (S_ w)) (fun g62 =>
(zx_n (zx_st S_ w g62) (fun T64 =>
f_X3_takeOut_l33 N w  N x60 T64)))))) else
  (zx_wr 6 v3 (zx_st S_ 8 (upd (S_ 8) (Int32.toNatClampNeg v3) (-1))) (fun T65 =>
(zx_n (v3 + 1) (fun x67 =>
f_X3_takeOut_l2 N w  n2 v2 x67 T65)))))
def f_X3_takeOut (N : Nat) (w : Nat) (p2 : Int32) (S : zx_S) : Option (zx_S) :=
  f_X3_takeOut_l2 N w  N p2 0 S
def f_X3_layRectangle (N : Nat) (n0 : Nat) (p1 : Int32) (p2 : Int32) (p3 : Int32) (p4 : Int32) (p5 : Int32) (f0 : (Nat → Int32)) : Option ((Nat → Int32)) :=
  (zx_wr n0 (5 * p1) (upd f0 (Int32.toNatClampNeg (5 * p1)) 1) (fun g1 =>
(zx_wr n0 ((5 * p1) + 1) (upd g1 (Int32.toNatClampNeg ((5 * p1) + 1)) p2) (fun g3 =>
(zx_wr n0 ((5 * p1) + 2) (upd g3 (Int32.toNatClampNeg ((5 * p1) + 2)) p3) (fun g5 =>
(zx_wr n0 ((5 * p1) + 3) (upd g5 (Int32.toNatClampNeg ((5 * p1) + 3)) p4) (fun g7 =>
(zx_wr n0 ((5 * p1) + 4) (upd g7 (Int32.toNatClampNeg ((5 * p1) + 4)) p5) (fun g9 =>
some g9))))))))))
def f_X3_addOn_l3 (N : Nat) (w : Nat) : Nat → Int32 → Int32 → Int32 → Int32 → Int32 → zx_S → Option (Int32 × zx_S)
  | 0, _, _, _, _, _, _ => none
  | n3 + 1, v2, v3, v4, v5, v6, S_ => (zx_rd 380 (S_ w) (5 * v6) (fun x1 =>
(if x1 = 1 then
  (zx_n (v6 + 1) (fun x9 =>
f_X3_addOn_l3 N w  n3 v2 v3 v4 v5 x9 S_)) else
  (zx_b1 (f_X3_layRectangle N 380 v6 v2 v3 v4 v5 (S_ w)) (fun g4 =>
(zx_n (zx_st S_ w g4) (fun T6 =>
(zx_b1 (f_X3_putIn N w v6 0 T6) (fun T7 =>
some (v6, T7))))))))))
def f_X3_addOn (N : Nat) (w : Nat) (p2 : Int32) (p3 : Int32) (p4 : Int32) (p5 : Int32) (S : zx_S) : Option (Int32 × zx_S) :=
  f_X3_addOn_l3 N w  N p2 p3 p4 p5 0 S
def f_X3_wipe_l2 (N : Nat) (n0 : Nat) : Nat → Int32 → Int32 → (Nat → Int32) → Option ((Nat → Int32))
  | 0, _, _, _ => none
  | n2 + 1, v1, v2, f0_ => (if 5 ≤ v2 then
  some f0_ else
  (zx_wr n0 ((5 * v1) + v2) (upd f0_ (Int32.toNatClampNeg ((5 * v1) + v2)) 0) (fun g2 =>
(zx_n (v2 + 1) (fun x4 =>
f_X3_wipe_l2 N n0  n2 v1 x4 g2)))))
def f_X3_wipe (N : Nat) (n0 : Nat) (p1 : Int32) (f0 : (Nat → Int32)) : Option ((Nat → Int32)) :=
  f_X3_wipe_l2 N n0  N p1 0 f0
def f_X3_removeOn (N : Nat) (w : Nat) (p2 : Int32) (S : zx_S) : Option (Int32 × zx_S) :=
  (zx_n (zx_st S 12 (upd (S 12) 3 0)) (fun T1 =>
(zx_b1 (f_X3_takeOut N w p2 T1) (fun T2 =>
(zx_b1 (f_X3_wipe N 380 p2 (T2 w)) (fun g4 =>
(zx_n (zx_st T2 w g4) (fun T6 =>
(zx_b1 (f_X3_nodes N 380 (T6 w)) (fun x7 =>
some (x7, T6)))))))))))
def f_X3_moveOn (N : Nat) (w : Nat) (p2 : Int32) (p3 : Int32) (p4 : Int32) (S : zx_S) : Option (zx_S) :=
  (zx_n (zx_st S 12 (upd (S 12) 3 0)) (fun T1 =>
(zx_b1 (f_X3_takeOut N w p2 T1) (fun T2 =>
(zx_n (5 * p2) (fun x4 =>
(zx_rd 380 (T2 w) (x4 + 1) (fun x5 =>
(zx_rd 380 (T2 w) (x4 + 2) (fun x7 =>
(zx_rd 380 (T2 w) (x4 + 3) (fun x9 =>
(zx_rd 380 (T2 w) (x4 + 4) (fun x11 =>
(zx_b1 (f_X3_layRectangle N 380 p2 (x5 + p3) (x7 + p4) (x9 + p3) (x11 + p4) (T2 w)) (fun g13 =>
(zx_n (zx_st T2 w g13) (fun T15 =>
(zx_b1 (f_X3_putIn N w p2 0 T15) (fun T16 =>
some T16))))))))))))))))))))
def f_X3_whyNotMove (N : Nat) (n0 : Nat) (p1 : Int32) (p2 : Int32) (p3 : Int32) (f0 : (Nat → Int32)) : Option (Int32) :=
  (zx_b1 (f_X3_isThere N n0 p1 f0) (fun x1 =>
(if x1 = 0 then
  some 1 else
  (zx_b1 (f_X3_in N (Int32.toInt64 p2) (-99) 99) (fun x4 =>
(if x4 = 0 then
  some 2 else
  (zx_b1 (f_X3_in N (Int32.toInt64 p3) (-99) 99) (fun x7 =>
(if x7 = 0 then
  some 2 else
  (zx_n (5 * p1) (fun x10 =>
(zx_rd n0 f0 (x10 + 1) (fun x11 =>
(if (x11 + p2) < 0 then
  some 3 else
  (zx_rd n0 f0 (x10 + 2) (fun x14 =>
(if (x14 + p3) < 0 then
  some 3 else
  (zx_rd n0 f0 (x10 + 3) (fun x17 =>
(if 100 ≤ (x17 + p2) then
  some 3 else
  (zx_rd n0 f0 (x10 + 4) (fun x20 =>
(if 100 ≤ (x20 + p3) then
  some 3 else
  some 0)))))))))))))))))))))))
def f_X3_isRectangle (N : Nat) (p0 : Int32) (p1 : Int32) (p2 : Int32) (p3 : Int32) : Option (Int32) :=
  (zx_b1 (f_X3_in N (Int32.toInt64 p0) 0 99) (fun x1 =>
(if x1 = 0 then
  some 0 else
  (zx_b1 (f_X3_in N (Int32.toInt64 p1) 0 99) (fun x4 =>
(if x4 = 0 then
  some 0 else
  (zx_b1 (f_X3_in N (Int32.toInt64 p2) (Int32.toInt64 p0) 99) (fun x7 =>
(if x7 = 0 then
  some 0 else
  (zx_b1 (f_X3_in N (Int32.toInt64 p3) (Int32.toInt64 p1) 99) (fun x10 =>
(if x10 = 0 then
  some 0 else
  some 1))))))))))))
def f_X3_numberNodes_j99 (N : Nat) (w : Nat) (k15 : Int32 → Int32 → zx_S → Option (Int32 × zx_S)) (v2 : Int32) (v3 : Int32) (S_ : zx_S) : Option (Int32 × zx_S) :=
  k15 v2 v3 S_
def f_X3_numberNodes_l59 (N : Nat) (w : Nat) (k15 : Int32 → Int32 → zx_S → Option (Int32 × zx_S)) : Nat → Int32 → Int32 → Int32 → Int32 → zx_S → Option (Int32 × zx_S)
  | 0, _, _, _, _, _ => none
  | n59 + 1, v2, v3, v4, v5, S_ => (if v5 < 0 then
  f_X3_numberNodes_j99 N w k15 v2 v3 S_ else
  (zx_b1 (f_X3_levelOf N 380 v4 (S_ w)) (fun x3 =>
(if x3 ≤ 0 then
  f_X3_numberNodes_j99 N w k15 v2 v3 S_ else
  (zx_b1 (f_X3_entryOf N 380 v4 v5 (S_ w)) (fun x6 =>
(zx_wr 64 v3 (zx_st S_ 11 (upd (S_ 11) (Int32.toNatClampNeg v3) (x6 - 24))) (fun T8 =>
(zx_n (v3 + 1) (fun x10 =>
(zx_n (v5 + (-1)) (fun x11 =>
f_X3_numberNodes_l59 N w k15  n59 v2 x10 v4 x11 T8))))))))))))
def f_X3_numberNodes_l15 (N : Nat) (w : Nat) : Nat → Int32 → Int32 → zx_S → Option (Int32 × zx_S)
  | 0, _, _, _ => none
  | n15 + 1, v2, v3, S_ => (if v3 ≤ 0 then
  some (v2, S_) else
  (zx_n (v3 + (-1)) (fun x12 =>
(zx_rd 64 (S_ 11) x12 (fun x13 =>
(zx_wr 32 x13 (zx_st S_ 9 (upd (S_ 9) (Int32.toNatClampNeg x13) v2)) (fun T15 =>
(zx_wr 32 v2 (zx_st T15 10 (upd (T15 10) (Int32.toNatClampNeg v2) x13)) (fun T17 =>
(zx_n (v2 + 1) (fun x19 =>
(zx_b1 (f_X3_many N 380 x13 (T17 w)) (fun x20 =>
(zx_n (x20 - 1) (fun x22 =>
f_X3_numberNodes_l59 N w (f_X3_numberNodes_l15 N w  n15) N x19 x12 x13 x22 T17)))))))))))))))
def f_X3_numberNodes (N : Nat) (w : Nat) (S : zx_S) : Option (Int32 × zx_S) :=
  (zx_rd 380 (S w) 376 (fun x23 =>
(zx_wr 64 0 (zx_st S 11 (upd (S 11) (Int32.toNatClampNeg 0) x23)) (fun T25 =>
f_X3_numberNodes_l15 N w  N 0 1 T25))))
def f_X3_overlap_j85 (N : Nat) (w : Nat) (k9 : Int32 → Int32 → zx_S → Option (Int32 × zx_S)) (v2 : Int32) (v3 : Int32) (S_ : zx_S) : Option (Int32 × zx_S) :=
  (zx_n (v3 + 1) (fun x2 =>
k9 v2 x2 S_))
def f_X3_overlap_l42 (N : Nat) (w : Nat) (k9 : Int32 → Int32 → zx_S → Option (Int32 × zx_S)) (k18 : Int32 → Int32 → Int32 → zx_S → Option (Int32 × zx_S)) : Nat → Int32 → Int32 → Int32 → Int32 → zx_S → Option (Int32 × zx_S)
  | 0, _, _, _, _, _ => none
  | n42 + 1, v2, v3, v4, v5, S_ => (zx_b1 (f_X3_many N 380 v3 (S_ w)) (fun x9 =>
(if x9 ≤ v5 then
  (zx_n (v4 + 1) (fun x12 =>
k18 v2 v3 x12 S_)) else
  (zx_b1 (f_X3_entryOf N 380 v3 v4 (S_ w)) (fun x13 =>
(zx_b1 (f_X3_entryOf N 380 v3 v5 (S_ w)) (fun x15 =>
(zx_b1 (f_X3_common N x13 x15 S_) (fun x17 =>
(zx_n (v2 + x17) (fun x19 =>
(zx_n (v5 + 1) (fun x20 =>
f_X3_overlap_l42 N w k9 k18  n42 x19 v3 v4 x20 S_)))))))))))))
def f_X3_overlap_l18 (N : Nat) (w : Nat) (k9 : Int32 → Int32 → zx_S → Option (Int32 × zx_S)) : Nat → Int32 → Int32 → Int32 → zx_S → Option (Int32 × zx_S)
  | 0, _, _, _, _ => none
  | n18 + 1, v2, v3, v4, S_ => (zx_b1 (f_X3_many N 380 v3 (S_ w)) (fun x3 =>
(if x3 ≤ v4 then
  f_X3_overlap_j85 N w k9 v2 v3 S_ else
  (zx_b1 (f_X3_levelOf N 380 v3 (S_ w)) (fun x6 =>
(if x6 ≤ 0 then
  f_X3_overlap_j85 N w k9 v2 v3 S_ else
  (zx_n (v4 + 1) (fun x21 =>
f_X3_overlap_l42 N w k9 (f_X3_overlap_l18 N w k9  n18) N v2 v3 v4 x21 S_))))))))
def f_X3_overlap_l9 (N : Nat) (w : Nat) : Nat → Int32 → Int32 → zx_S → Option (Int32 × zx_S)
  | 0, _, _, _ => none
  | n9 + 1, v2, v3, S_ => (if 32 ≤ v3 then
  some (v2, S_) else
  f_X3_overlap_l18 N w (f_X3_overlap_l9 N w  n9) N v2 v3 0 S_)
def f_X3_overlap (N : Nat) (w : Nat) (S : zx_S) : Option (Int32 × zx_S) :=
  (zx_b1 (f_X3_layBoxes N w S) (fun T22 =>
f_X3_overlap_l9 N w  N 0 0 T22))
def f_X3_append_j31 (N : Nat) (v1 : Int32) (t1 : Int32) (S_ : zx_S) : Option (Int32 × zx_S) :=
  (zx_b2 (f_X3_refused N t1 S_) (fun x1 T2 =>
(if x1 = 0 then
  (zx_wr 100 (T2 12 1) (zx_st T2 0 (upd (T2 0) (Int32.toNatClampNeg (T2 12 1)) v1)) (fun T5 =>
(zx_n (zx_st T5 12 (upd (T5 12) 1 ((T5 12 1) + 1))) (fun T7 =>
some ((T7 12 1), T7))))) else
  some (0, T2))))
def f_X3_append (N : Nat) (p1 : Int32) (S : zx_S) : Option (Int32 × zx_S) :=
  (zx_b1 (f_X3_in N (Int32.toInt64 p1) 0 255) (fun x8 =>
(if x8 = 0 then
  f_X3_append_j31 N  p1 1 S else
  (if (S 12 1) = 100 then
  f_X3_append_j31 N  p1 2 S else
  f_X3_append_j31 N  p1 0 S))))
def f_X3_clearText (N : Nat) (S : zx_S) : Option (Int32 × zx_S) :=
  (zx_n (zx_st S 12 (upd (S 12) 0 0)) (fun T1 =>
(zx_n (zx_st T1 12 (upd (T1 12) 1 0)) (fun T2 =>
some ((T1 12 1), T2)))))
def f_X3_here (N : Nat) (S : zx_S) : Option (Int32) :=
  (if (S 12 1) ≤ (S 12 6) then
  some (-1) else
  (zx_rd 100 (S 0) (S 12 6) (fun x2 =>
some x2)))
def f_X3_passed (N : Nat) (p1 : Int32) (S : zx_S) : Option (Int32 × zx_S) :=
  (zx_b1 (f_X3_here N S) (fun x1 =>
(if x1 = p1 then
  (zx_n (zx_st S 12 (upd (S 12) 6 ((S 12 6) + 1))) (fun T4 =>
some (1, T4))) else
  some (0, S))))
def f_X3_number_l49 (N : Nat) : Nat → Int32 → Int32 → zx_S → Option (Int32 × zx_S)
  | 0, _, _, _ => none
  | n49 + 1, v2, v3, S_ => (if v3 ≤ 0 then
  some (v3, S_) else
  (zx_b1 (f_X3_here N S_) (fun x13 =>
(zx_b1 (f_X3_in N (Int32.toInt64 x13) 48 57) (fun x15 =>
(if x15 = 0 then
  some (v3, S_) else
  (zx_b1 (f_X3_here N S_) (fun x18 =>
(if v2 < (((10 * v3) + x18) - 48) then
  some (v3, S_) else
  (zx_b1 (f_X3_here N S_) (fun x21 =>
(zx_n (((10 * v3) + x21) - 48) (fun x23 =>
(zx_n (zx_st S_ 12 (upd (S_ 12) 6 ((S_ 12 6) + 1))) (fun T24 =>
f_X3_number_l49 N  n49 v2 x23 T24)))))))))))))))
def f_X3_number (N : Nat) (p1 : Int32) (p2 : Int32) (S : zx_S) : Option (Int32 × zx_S) :=
  (zx_b1 (f_X3_here N S) (fun x1 =>
(zx_n (x1 - 48) (fun x3 =>
(zx_b1 (f_X3_here N S) (fun x4 =>
(zx_b1 (f_X3_in N (Int32.toInt64 x4) 48 57) (fun x6 =>
(if x6 = 0 then
  some ((-1), S) else
  (zx_b1 (f_X3_in N (Int32.toInt64 x3) (Int32.toInt64 p1) (Int32.toInt64 p2)) (fun x9 =>
(if x9 = 0 then
  some ((-1), S) else
  (zx_n (zx_st S 12 (upd (S 12) 6 ((S 12 6) + 1))) (fun T25 =>
f_X3_number_l49 N  N p2 x3 T25))))))))))))))
def f_X3_readOne (N : Nat) (w : Nat) (p2 : Int32) (S : zx_S) : Option (Int32 × zx_S) :=
  (zx_b2 (f_X3_number N 0 99 S) (fun x1 T2 =>
(if x1 = (-1) then
  some (0, T2) else
  (zx_b2 (f_X3_passed N 44 T2) (fun x5 T6 =>
(if x5 = 0 then
  some (0, T6) else
  (zx_b2 (f_X3_number N 0 99 T6) (fun x9 T10 =>
(if x9 = (-1) then
  some (0, T10) else
  (zx_b2 (f_X3_passed N 58 T10) (fun x13 T14 =>
(if x13 = 0 then
  some (0, T14) else
  (zx_b2 (f_X3_number N 1 (100 - x1) T14) (fun x17 T18 =>
(if x17 = (-1) then
  some (0, T18) else
  (zx_b2 (f_X3_passed N 120 T18) (fun x21 T22 =>
(if x21 = 0 then
  some (0, T22) else
  (zx_b2 (f_X3_number N 1 (100 - x9) T22) (fun x25 T26 =>
(if x25 = (-1) then
  some (0, T26) else
  (zx_n (zx_st T26 12 (upd (T26 12) 7 ((T26 12 7) + 1))) (fun T29 =>
(if p2 = 0 then
  some (1, T29) else
  (zx_b2 (f_X3_addOn N w x1 x9 ((x1 + x17) - 1) ((x9 + x25) - 1) T29) (fun x31 T32 =>
some (1, T32)))))))))))))))))))))))))))
def f_X3_readText_l12 (N : Nat) (w : Nat) : Nat → Int32 → Int32 → zx_S → Option (Int32 × zx_S)
  | 0, _, _, _ => none
  | n12 + 1, v2, v3, S_ => (if v3 = 0 then
  (if (S_ 12 1) ≤ (S_ 12 6) then
  some ((-1), S_) else
  some ((S_ 12 6), S_)) else
  (zx_b2 (f_X3_readOne N w v2 S_) (fun x3 T4 =>
(if x3 = 0 then
  some ((T4 12 6), T4) else
  (zx_b2 (f_X3_passed N 59 T4) (fun x7 T8 =>
f_X3_readText_l12 N w  n12 v2 x7 T8))))))
def f_X3_readText (N : Nat) (w : Nat) (p2 : Int32) (S : zx_S) : Option (Int32 × zx_S) :=
  (zx_n (zx_st S 12 (upd (S 12) 6 0)) (fun T10 =>
(zx_n (zx_st T10 12 (upd (T10 12) 7 0)) (fun T11 =>
f_X3_readText_l12 N w  N p2 1 T11))))
def f_X3_errorPosition (N : Nat) (S : zx_S) : Option (Int32 × zx_S) :=
  (zx_n (zx_st S 12 (upd (S 12) 0 0)) (fun T1 =>
(zx_b2 (f_X3_readText N 1 0 T1) (fun x2 T3 =>
some (x2, T3)))))
def f_X3_areas_j55 (N : Nat) (k12 : Int32 → Int32 → zx_S → Option (Int32 × zx_S)) (v2 : Int32) (t0 : Int32) (t1 : Int32) (S_ : zx_S) : Option (Int32 × zx_S) :=
  (zx_n (t0 + t1) (fun x2 =>
(zx_n (v2 + 1) (fun x3 =>
k12 x2 x3 S_))))
def f_X3_areas_j54 (N : Nat) (k12 : Int32 → Int32 → zx_S → Option (Int32 × zx_S)) (v2 : Int32) (t0 : Int32) (S_ : zx_S) : Option (Int32 × zx_S) :=
  f_X3_areas_j55 N k12 v2 t0 0 S_
def f_X3_areas_l12 (N : Nat) : Nat → Int32 → Int32 → zx_S → Option (Int32 × zx_S)
  | 0, _, _, _ => none
  | n12 + 1, v1, v2, S_ => (if 32 ≤ v2 then
  some (v1, S_) else
  (zx_b1 (f_X3_at N v2) (fun x4 =>
(zx_rd 380 (S_ 1) x4 (fun x6 =>
(if x6 ≤ 0 then
  f_X3_areas_j54 N (f_X3_areas_l12 N  n12) v2 v1 S_ else
  (zx_rd 380 (S_ 1) 376 (fun x9 =>
(if v2 = x9 then
  f_X3_areas_j54 N (f_X3_areas_l12 N  n12) v2 v1 S_ else
  (zx_b1 (f_X3_area N (24 + v2) S_) (fun x12 =>
f_X3_areas_j55 N (f_X3_areas_l12 N  n12) v2 v1 x12 S_)))))))))))
def f_X3_areas (N : Nat) (S : zx_S) : Option (Int32 × zx_S) :=
  (zx_b1 (f_X3_layBoxes N 1 S) (fun T14 =>
f_X3_areas_l12 N  N 0 0 T14))
def f_X3_about_j18 (N : Nat) (v1 : Int32) (t1 : Int32) (S_ : zx_S) : Option (Int32 × zx_S) :=
  (zx_b2 (f_X3_refused N t1 S_) (fun x1 T2 =>
(if x1 = 0 then
  (if v1 = 0 then
  (zx_b1 (f_X3_count N 380 (T2 1)) (fun x6 =>
some (x6, T2))) else
(if v1 = 1 then
  (zx_b1 (f_X3_nodes N 380 (T2 1)) (fun x9 =>
some (x9, T2))) else
(if v1 = 2 then
  (zx_rd 380 (T2 1) 376 (fun x12 =>
(zx_b1 (f_X3_levelOf N 380 x12 (T2 1)) (fun x14 =>
some (x14, T2))))) else
(if v1 = 3 then
  (zx_b2 (f_X3_overlap N 1 T2) (fun x17 T18 =>
some (x17, T18))) else
(if v1 = 4 then
  (zx_b2 (f_X3_areas N T2) (fun x21 T22 =>
some (x21, T22))) else
(zx_rd 380 (T2 1) ((377 + v1) - 5) (fun x24 =>
some (x24, T2)))))))) else
  some (0, T2))))
def f_X3_about (N : Nat) (p1 : Int32) (S : zx_S) : Option (Int32 × zx_S) :=
  (zx_b1 (f_X3_in N (Int32.toInt64 p1) 0 7) (fun x26 =>
(if x26 = 0 then
  f_X3_about_j18 N  p1 1 S else
  f_X3_about_j18 N  p1 0 S)))
def f_X3_rectangle_j33 (N : Nat) (v1 : Int32) (v2 : Int32) (t1 : Int32) (S_ : zx_S) : Option (Int32 × zx_S) :=
  (zx_b2 (f_X3_refused N t1 S_) (fun x1 T2 =>
(if x1 = 0 then
  (zx_b2 (f_X3_numberNodes N 1 T2) (fun x5 T6 =>
(if 4 ≤ v2 then
  (zx_b1 (f_X3_nodeWith N 380 v1 (T6 1)) (fun x9 =>
(zx_rd 32 (T6 9) x9 (fun x11 =>
some (x11, T6))))) else
  (zx_rd 380 (T6 1) (((5 * v1) + 1) + v2) (fun x13 =>
some (x13, T6)))))) else
  some (0, T2))))
def f_X3_rectangle (N : Nat) (p1 : Int32) (p2 : Int32) (S : zx_S) : Option (Int32 × zx_S) :=
  (zx_b1 (f_X3_isThere N 380 p1 (S 1)) (fun x15 =>
(if x15 = 0 then
  f_X3_rectangle_j33 N  p1 p2 1 S else
  (zx_b1 (f_X3_in N (Int32.toInt64 p2) 0 4) (fun x18 =>
(if x18 = 0 then
  f_X3_rectangle_j33 N  p1 p2 2 S else
  f_X3_rectangle_j33 N  p1 p2 0 S))))))
def f_X3_node_j41 (N : Nat) (v1 : Int32) (v2 : Int32) (t1 : Int32) (S_ : zx_S) : Option (Int32 × zx_S) :=
  (zx_b2 (f_X3_refused N t1 S_) (fun x1 T2 =>
(if x1 = 0 then
  (zx_b2 (f_X3_numberNodes N 1 T2) (fun x5 T6 =>
(zx_b1 (f_X3_layBoxes N 1 T6) (fun T8 =>
(zx_rd 32 (T8 10) v1 (fun x10 =>
(if v2 = 0 then
  (zx_b1 (f_X3_levelOf N 380 x10 (T8 1)) (fun x13 =>
some (x13, T8))) else
(if v2 = 1 then
  (zx_b1 (f_X3_many N 380 x10 (T8 1)) (fun x16 =>
some (x16, T8))) else
(if v2 = 6 then
  (if v1 = 0 then
  some ((-1), T8) else
  (zx_b1 (f_X3_nodeWith N 380 (24 + x10) (T8 1)) (fun x20 =>
(zx_rd 32 (T8 9) x20 (fun x22 =>
some (x22, T8)))))) else
(zx_b1 (f_X3_many N 380 x10 (T8 1)) (fun x24 =>
(if x24 = 0 then
  some ((-1), T8) else
  (zx_rd 224 (T8 6) (((4 * (24 + x10)) + v2) - 2) (fun x27 =>
some (x27, T8))))))))))))))) else
  some (0, T2))))
def f_X3_node (N : Nat) (p1 : Int32) (p2 : Int32) (S : zx_S) : Option (Int32 × zx_S) :=
  (zx_b1 (f_X3_nodes N 380 (S 1)) (fun x29 =>
(zx_b1 (f_X3_in N (Int32.toInt64 p1) 0 (Int32.toInt64 (x29 - 1))) (fun x31 =>
(if x31 = 0 then
  f_X3_node_j41 N  p1 p2 1 S else
  (zx_b1 (f_X3_in N (Int32.toInt64 p2) 0 6) (fun x34 =>
(if x34 = 0 then
  f_X3_node_j41 N  p1 p2 2 S else
  f_X3_node_j41 N  p1 p2 0 S))))))))
def f_X3_entry_j33 (N : Nat) (v1 : Int32) (v2 : Int32) (t1 : Int32) (S_ : zx_S) : Option (Int32 × zx_S) :=
  (zx_b2 (f_X3_refused N t1 S_) (fun x1 T2 =>
(if x1 = 0 then
  (zx_b2 (f_X3_numberNodes N 1 T2) (fun x5 T6 =>
(zx_rd 32 (T6 10) v1 (fun x8 =>
(zx_b1 (f_X3_many N 380 x8 (T6 1)) (fun x10 =>
(if v2 < x10 then
  (zx_b1 (f_X3_entryOf N 380 x8 v2 (T6 1)) (fun x13 =>
(if 24 ≤ x13 then
  (zx_rd 32 (T6 9) (x13 - 24) (fun x16 =>
some (x16, T6))) else
  some (x13, T6)))) else
  some ((-1), T6)))))))) else
  some (0, T2))))
def f_X3_entry (N : Nat) (p1 : Int32) (p2 : Int32) (S : zx_S) : Option (Int32 × zx_S) :=
  (zx_b1 (f_X3_nodes N 380 (S 1)) (fun x18 =>
(zx_b1 (f_X3_in N (Int32.toInt64 p1) 0 (Int32.toInt64 (x18 - 1))) (fun x20 =>
(if x20 = 0 then
  f_X3_entry_j33 N  p1 p2 1 S else
  (if 0 ≤ p2 then
  f_X3_entry_j33 N  p1 p2 0 S else
  f_X3_entry_j33 N  p1 p2 2 S))))))
def f_X3_remember_j50 (N : Nat) (S_ : zx_S) : Option (zx_S) :=
  (zx_b1 (f_X3_copyState N 380 5320 0 (380 * (S_ 12 2)) (S_ 1) (S_ 3)) (fun g1 =>
(zx_n (zx_st S_ 3 g1) (fun T3 =>
(zx_n (zx_st T3 12 (upd (T3 12) 2 ((T3 12 2) + 1))) (fun T4 =>
some T4))))))
def f_X3_remember_l11 (N : Nat) : Nat → Int32 → zx_S → Option (zx_S)
  | 0, _, _ => none
  | n11 + 1, v1, S_ => (if 4940 ≤ v1 then
  (zx_n (zx_st S_ 12 (upd (S_ 12) 2 ((S_ 12 2) - 1))) (fun T7 =>
f_X3_remember_j50 N  T7)) else
  (zx_rd 5320 (S_ 3) (v1 + 380) (fun x8 =>
(zx_wr 5320 v1 (zx_st S_ 3 (upd (S_ 3) (Int32.toNatClampNeg v1) x8)) (fun T10 =>
(zx_n (v1 + 1) (fun x12 =>
f_X3_remember_l11 N  n11 x12 T10)))))))
def f_X3_remember (N : Nat) (S : zx_S) : Option (zx_S) :=
  (if (S 12 2) = 14 then
  f_X3_remember_l11 N  N 0 S else
  f_X3_remember_j50 N  S)
def f_X3_add_j33 (N : Nat) (v1 : Int32) (v2 : Int32) (v3 : Int32) (v4 : Int32) (t1 : Int32) (S_ : zx_S) : Option (Int32 × zx_S) :=
  (zx_b2 (f_X3_refused N t1 S_) (fun x1 T2 =>
(if x1 = 0 then
  (zx_b1 (f_X3_remember N T2) (fun T5 =>
(zx_n (zx_st T5 12 (upd (T5 12) 3 0)) (fun T7 =>
(zx_b2 (f_X3_addOn N 1 v1 v2 v3 v4 T7) (fun x8 T9 =>
some (x8, T9))))))) else
  some (0, T2))))
def f_X3_add (N : Nat) (p1 : Int32) (p2 : Int32) (p3 : Int32) (p4 : Int32) (S : zx_S) : Option (Int32 × zx_S) :=
  (zx_b1 (f_X3_isRectangle N p1 p2 p3 p4) (fun x11 =>
(if x11 = 0 then
  f_X3_add_j33 N  p1 p2 p3 p4 1 S else
  (zx_b1 (f_X3_count N 380 (S 1)) (fun x14 =>
(if x14 = 24 then
  f_X3_add_j33 N  p1 p2 p3 p4 2 S else
  f_X3_add_j33 N  p1 p2 p3 p4 0 S))))))
def f_X3_addAll_j36 (N : Nat) (t1 : Int32) (S_ : zx_S) : Option (Int32 × zx_S) :=
  (zx_b2 (f_X3_refused N t1 S_) (fun x1 T2 =>
(if x1 = 0 then
  (zx_b1 (f_X3_remember N T2) (fun T5 =>
(zx_n (zx_st T5 12 (upd (T5 12) 3 0)) (fun T7 =>
(zx_b2 (f_X3_readText N 1 1 T7) (fun x8 T9 =>
(zx_b1 (f_X3_count N 380 (T9 1)) (fun x11 =>
some (x11, T9))))))))) else
  some (0, T2))))
def f_X3_addAll_j35 (N : Nat) (S_ : zx_S) : Option (Int32 × zx_S) :=
  f_X3_addAll_j36 N  1 S_
def f_X3_addAll (N : Nat) (S : zx_S) : Option (Int32 × zx_S) :=
  (zx_b2 (f_X3_readText N 1 0 S) (fun x13 T14 =>
(if x13 = (-1) then
  (zx_b1 (f_X3_count N 380 (T14 1)) (fun x17 =>
(if 24 < (x17 + (T14 12 7)) then
  f_X3_addAll_j35 N  T14 else
  f_X3_addAll_j36 N  0 T14))) else
  f_X3_addAll_j35 N  T14)))
def f_X3_remove_j17 (N : Nat) (v1 : Int32) (t1 : Int32) (S_ : zx_S) : Option (Int32 × zx_S) :=
  (zx_b2 (f_X3_refused N t1 S_) (fun x1 T2 =>
(if x1 = 0 then
  (zx_b1 (f_X3_remember N T2) (fun T5 =>
(zx_b2 (f_X3_removeOn N 1 v1 T5) (fun x7 T8 =>
some (x7, T8))))) else
  some (0, T2))))
def f_X3_remove (N : Nat) (p1 : Int32) (S : zx_S) : Option (Int32 × zx_S) :=
  (zx_b1 (f_X3_isThere N 380 p1 (S 1)) (fun x10 =>
(if x10 = 0 then
  f_X3_remove_j17 N  p1 1 S else
  f_X3_remove_j17 N  p1 0 S)))
def f_X3_move (N : Nat) (p1 : Int32) (p2 : Int32) (p3 : Int32) (S : zx_S) : Option (Int32 × zx_S) :=
  (zx_b1 (f_X3_whyNotMove N 380 p1 p2 p3 (S 1)) (fun x1 =>
(zx_b2 (f_X3_refused N x1 S) (fun x3 T4 =>
(if x3 = 0 then
  (zx_b1 (f_X3_remember N T4) (fun T7 =>
(zx_b1 (f_X3_moveOn N 1 p1 p2 p3 T7) (fun T9 =>
(zx_b2 (f_X3_numberNodes N 1 T9) (fun x11 T12 =>
(zx_b1 (f_X3_nodeWith N 380 p1 (T12 1)) (fun x14 =>
(zx_rd 32 (T12 9) x14 (fun x16 =>
some (x16, T12))))))))))) else
  some (0, T4))))))
def f_X3_undo_j13 (N : Nat) (t1 : Int32) (S_ : zx_S) : Option (Int32 × zx_S) :=
  (zx_b2 (f_X3_refused N t1 S_) (fun x1 T2 =>
(if x1 = 0 then
  (zx_n (zx_st T2 12 (upd (T2 12) 2 ((T2 12 2) - 1))) (fun T5 =>
(zx_b1 (f_X3_copyState N 5320 380 (380 * (T5 12 2)) 0 (T5 3) (T5 1)) (fun g6 =>
(zx_n (zx_st T5 1 g6) (fun T8 =>
some ((T8 12 2), T8))))))) else
  some (0, T2))))
def f_X3_undo (N : Nat) (S : zx_S) : Option (Int32 × zx_S) :=
  (if (S 12 2) = 0 then
  f_X3_undo_j13 N  1 S else
  f_X3_undo_j13 N  0 S)
def f_X3_meets (N : Nat) (p1 : Int32) (p2 : Int32) (p3 : Int32) (p4 : Int32) (p5 : Int32) (S : zx_S) : Option (Int32) :=
  (zx_rd 224 (S 6) (4 * p1) (fun x1 =>
(if p4 < x1 then
  some 0 else
  (zx_rd 224 (S 6) ((4 * p1) + 2) (fun x4 =>
(if x4 < p2 then
  some 0 else
  (zx_rd 224 (S 6) ((4 * p1) + 1) (fun x7 =>
(if p5 < x7 then
  some 0 else
  (zx_rd 224 (S 6) ((4 * p1) + 3) (fun x10 =>
(if x10 < p3 then
  some 0 else
  some 1))))))))))))
def f_X3_window_j83 (N : Nat) (k39 : Int32 → Int32 → Int32 → Int32 → Int32 → Int32 → zx_S → Option (Int32 × zx_S)) (v1 : Int32) (v2 : Int32) (v3 : Int32) (v4 : Int32) (v6 : Int32) (t0 : Int32) (t1 : Int32) (S_ : zx_S) : Option (Int32 × zx_S) :=
  (zx_n (t0 ||| t1) (fun x6 =>
(zx_n (v6 + 1) (fun x7 =>
k39 v1 v2 v3 v4 x6 x7 S_))))
def f_X3_window_j82 (N : Nat) (k39 : Int32 → Int32 → Int32 → Int32 → Int32 → Int32 → zx_S → Option (Int32 × zx_S)) (v1 : Int32) (v2 : Int32) (v3 : Int32) (v4 : Int32) (v6 : Int32) (t0 : Int32) (S_ : zx_S) : Option (Int32 × zx_S) :=
  f_X3_window_j83 N k39 v1 v2 v3 v4 v6 t0 0 S_
def f_X3_window_l39 (N : Nat) : Nat → Int32 → Int32 → Int32 → Int32 → Int32 → Int32 → zx_S → Option (Int32 × zx_S)
  | 0, _, _, _, _, _, _, _ => none
  | n39 + 1, v1, v2, v3, v4, v5, v6, S_ => (if 24 ≤ v6 then
  some (v5, S_) else
  (zx_rd 380 (S_ 1) (5 * v6) (fun x8 =>
(if x8 = 1 then
  (zx_b1 (f_X3_meets N v6 v1 v2 v3 v4 S_) (fun x11 =>
(if x11 = 0 then
  f_X3_window_j82 N (f_X3_window_l39 N  n39) v1 v2 v3 v4 v6 v5 S_ else
  f_X3_window_j83 N (f_X3_window_l39 N  n39) v1 v2 v3 v4 v6 v5 (1 <<< (v6 &&& 31)) S_))) else
  f_X3_window_j82 N (f_X3_window_l39 N  n39) v1 v2 v3 v4 v6 v5 S_))))
def f_X3_window_j17 (N : Nat) (v1 : Int32) (v2 : Int32) (v3 : Int32) (v4 : Int32) (t1 : Int32) (S_ : zx_S) : Option (Int32 × zx_S) :=
  (zx_b2 (f_X3_refused N t1 S_) (fun x1 T2 =>
(if x1 = 0 then
  (zx_b1 (f_X3_layBoxes N 1 T2) (fun T14 =>
f_X3_window_l39 N  N v1 v2 v3 v4 0 0 T14)) else
  some (0, T2))))
def f_X3_window (N : Nat) (p1 : Int32) (p2 : Int32) (p3 : Int32) (p4 : Int32) (S : zx_S) : Option (Int32 × zx_S) :=
  (zx_b1 (f_X3_isRectangle N p1 p2 p3 p4) (fun x16 =>
(if x16 = 0 then
  f_X3_window_j17 N  p1 p2 p3 p4 1 S else
  f_X3_window_j17 N  p1 p2 p3 p4 0 S)))
def f_X3_looks_j155 (N : Nat) (k53 : Int32 → Int32 → Int32 → Int32 → Int32 → Int32 → zx_S → Option (Int32 × zx_S)) (v1 : Int32) (v2 : Int32) (v3 : Int32) (v4 : Int32) (v5 : Int32) (v6 : Int32) (S_ : zx_S) : Option (Int32 × zx_S) :=
  k53 v1 v2 v3 v4 v5 v6 S_
def f_X3_looks_j149 (N : Nat) (k53 : Int32 → Int32 → Int32 → Int32 → Int32 → Int32 → zx_S → Option (Int32 × zx_S)) (k76 : Int32 → Int32 → Int32 → Int32 → Int32 → Int32 → Int32 → Int32 → zx_S → Option (Int32 × zx_S)) (v1 : Int32) (v2 : Int32) (v3 : Int32) (v4 : Int32) (v5 : Int32) (v6 : Int32) (v7 : Int32) (v8 : Int32) (S_ : zx_S) : Option (Int32 × zx_S) :=
  (zx_n (v8 + 1) (fun x12 =>
k76 v1 v2 v3 v4 v5 v6 v7 x12 S_))
def f_X3_looks_l76 (N : Nat) (k53 : Int32 → Int32 → Int32 → Int32 → Int32 → Int32 → zx_S → Option (Int32 × zx_S)) : Nat → Int32 → Int32 → Int32 → Int32 → Int32 → Int32 → Int32 → Int32 → zx_S → Option (Int32 × zx_S)
  | 0, _, _, _, _, _, _, _, _, _ => none
  | n76 + 1, v1, v2, v3, v4, v5, v6, v7, v8, S_ => (zx_b1 (f_X3_many N 380 v7 (S_ 1)) (fun x6 =>
(if x6 ≤ v8 then
  f_X3_looks_j155 N k53 v1 v2 v3 v4 v5 v6 S_ else
  (zx_b1 (f_X3_levelOf N 380 v7 (S_ 1)) (fun x9 =>
(if x9 ≤ 0 then
  f_X3_looks_j155 N k53 v1 v2 v3 v4 v5 v6 S_ else
  (zx_b1 (f_X3_entryOf N 380 v7 v8 (S_ 1)) (fun x13 =>
(zx_b1 (f_X3_meets N x13 v1 v2 v3 v4 S_) (fun x15 =>
(if x15 = 0 then
  f_X3_looks_j149 N k53 (f_X3_looks_l76 N k53  n76) v1 v2 v3 v4 v5 v6 v7 v8 S_ else
  (zx_b1 (f_X3_entryOf N 380 v7 v8 (S_ 1)) (fun x18 =>
(zx_wr 64 v6 (zx_st S_ 11 (upd (S_ 11) (Int32.toNatClampNeg v6) (x18 - 24))) (fun T20 =>
(zx_n (v6 + 1) (fun x22 =>
f_X3_looks_j149 N k53 (f_X3_looks_l76 N k53  n76) v1 v2 v3 v4 v5 x22 v7 v8 T20)))))))))))))))))
def f_X3_looks_l53 (N : Nat) : Nat → Int32 → Int32 → Int32 → Int32 → Int32 → Int32 → zx_S → Option (Int32 × zx_S)
  | 0, _, _, _, _, _, _, _ => none
  | n53 + 1, v1, v2, v3, v4, v5, v6, S_ => (if v6 ≤ 0 then
  some (v5, S_) else
  (zx_n (v6 + (-1)) (fun x23 =>
(zx_rd 64 (S_ 11) x23 (fun x24 =>
(zx_n (v5 + 1) (fun x26 =>
f_X3_looks_l76 N (f_X3_looks_l53 N  n53) N v1 v2 v3 v4 x26 x23 x24 0 S_)))))))
def f_X3_looks_j17 (N : Nat) (v1 : Int32) (v2 : Int32) (v3 : Int32) (v4 : Int32) (t1 : Int32) (S_ : zx_S) : Option (Int32 × zx_S) :=
  (zx_b2 (f_X3_refused N t1 S_) (fun x1 T2 =>
(if x1 = 0 then
  (zx_b1 (f_X3_layBoxes N 1 T2) (fun T27 =>
(zx_rd 380 (T27 1) 376 (fun x29 =>
(zx_wr 64 0 (zx_st T27 11 (upd (T27 11) (Int32.toNatClampNeg 0) x29)) (fun T31 =>
f_X3_looks_l53 N  N v1 v2 v3 v4 0 1 T31)))))) else
  some (0, T2))))
def f_X3_looks (N : Nat) (p1 : Int32) (p2 : Int32) (p3 : Int32) (p4 : Int32) (S : zx_S) : Option (Int32 × zx_S) :=
  (zx_b1 (f_X3_isRectangle N p1 p2 p3 p4) (fun x33 =>
(if x33 = 0 then
  f_X3_looks_j17 N  p1 p2 p3 p4 1 S else
  f_X3_looks_j17 N  p1 p2 p3 p4 0 S)))
def f_X3_beyond (N : Nat) (p0 : Int32) (p1 : Int32) (p2 : Int32) : Option (Int32) :=
  (if p1 ≤ p0 then
  (if p0 ≤ p2 then
  some 0 else
  some (p0 - p2)) else
  some (p1 - p0))
def f_X3_distance (N : Nat) (n0 : Nat) (p1 : Int32) (p2 : Int32) (p3 : Int32) (f0 : (Nat → Int32)) : Option (Int32) :=
  (zx_rd n0 f0 ((5 * p1) + 1) (fun x1 =>
(zx_rd n0 f0 ((5 * p1) + 3) (fun x3 =>
(zx_b1 (f_X3_beyond N p2 x1 x3) (fun x5 =>
(zx_rd n0 f0 ((5 * p1) + 2) (fun x7 =>
(zx_rd n0 f0 ((5 * p1) + 4) (fun x9 =>
(zx_b1 (f_X3_beyond N p3 x7 x9) (fun x11 =>
some ((x5 * x5) + (x11 * x11))))))))))))))
def f_X3_nearestOn_j107 (N : Nat) (n0 : Nat) (f0 : (Nat → Int32)) (k3 : Int32 → Int32 → Int32 → Int32 → Option (Int32)) (v1 : Int32) (v2 : Int32) (v3 : Int32) (v4 : Int32) : Option (Int32) :=
  (zx_n (v4 + 1) (fun x3 =>
k3 v1 v2 v3 x3))
def f_X3_nearestOn_j80 (N : Nat) (n0 : Nat) (f0 : (Nat → Int32)) (k3 : Int32 → Int32 → Int32 → Int32 → Option (Int32)) (k26 : Int32 → Int32 → Int32 → Int32 → Int32 → Int32 → Int32 → Option (Int32)) (v1 : Int32) (v2 : Int32) (v3 : Int32) (v4 : Int32) (v5 : Int32) (v7 : Int32) (t0 : Int32) (t1 : Int32) : Option (Int32) :=
  (zx_n (t0 + t1) (fun x8 =>
(zx_n (v7 + 1) (fun x9 =>
k26 v1 v2 v3 v4 v5 x8 x9))))
def f_X3_nearestOn_j79 (N : Nat) (n0 : Nat) (f0 : (Nat → Int32)) (k3 : Int32 → Int32 → Int32 → Int32 → Option (Int32)) (k26 : Int32 → Int32 → Int32 → Int32 → Int32 → Int32 → Int32 → Option (Int32)) (v1 : Int32) (v2 : Int32) (v3 : Int32) (v4 : Int32) (v5 : Int32) (v7 : Int32) (t0 : Int32) : Option (Int32) :=
  f_X3_nearestOn_j80 N n0 f0 k3 k26 v1 v2 v3 v4 v5 v7 t0 0
def f_X3_nearestOn_j75 (N : Nat) (n0 : Nat) (f0 : (Nat → Int32)) (k3 : Int32 → Int32 → Int32 → Int32 → Option (Int32)) (k26 : Int32 → Int32 → Int32 → Int32 → Int32 → Int32 → Int32 → Option (Int32)) (v1 : Int32) (v2 : Int32) (v3 : Int32) (v4 : Int32) (v5 : Int32) (v7 : Int32) (t0 : Int32) : Option (Int32) :=
  f_X3_nearestOn_j80 N n0 f0 k3 k26 v1 v2 v3 v4 v5 v7 t0 1
def f_X3_nearestOn_l26 (N : Nat) (n0 : Nat) (f0 : (Nat → Int32)) (k3 : Int32 → Int32 → Int32 → Int32 → Option (Int32)) : Nat → Int32 → Int32 → Int32 → Int32 → Int32 → Int32 → Int32 → Option (Int32)
  | 0, _, _, _, _, _, _, _ => none
  | n26 + 1, v1, v2, v3, v4, v5, v6, v7 => (if 24 ≤ v7 then
  (zx_b1 (f_X3_isThere N n0 v4 f0) (fun x4 =>
(if x4 = 0 then
  f_X3_nearestOn_j107 N n0 f0 k3 v1 v2 v3 v4 else
  (if v6 = v3 then
  some v4 else
  f_X3_nearestOn_j107 N n0 f0 k3 v1 v2 v3 v4)))) else
  (zx_b1 (f_X3_distance N n0 v7 v1 v2 f0) (fun x10 =>
(zx_b1 (f_X3_isThere N n0 v7 f0) (fun x12 =>
(if x12 = 0 then
  f_X3_nearestOn_j79 N n0 f0 k3 (f_X3_nearestOn_l26 N n0 f0 k3  n26) v1 v2 v3 v4 v5 v7 v6 else
  (if x10 < v5 then
  f_X3_nearestOn_j75 N n0 f0 k3 (f_X3_nearestOn_l26 N n0 f0 k3  n26) v1 v2 v3 v4 v5 v7 v6 else
  (if x10 = v5 then
  (if v4 ≤ v7 then
  f_X3_nearestOn_j79 N n0 f0 k3 (f_X3_nearestOn_l26 N n0 f0 k3  n26) v1 v2 v3 v4 v5 v7 v6 else
  f_X3_nearestOn_j75 N n0 f0 k3 (f_X3_nearestOn_l26 N n0 f0 k3  n26) v1 v2 v3 v4 v5 v7 v6) else
  f_X3_nearestOn_j79 N n0 f0 k3 (f_X3_nearestOn_l26 N n0 f0 k3  n26) v1 v2 v3 v4 v5 v7 v6))))))))
def f_X3_nearestOn_l3 (N : Nat) (n0 : Nat) (f0 : (Nat → Int32)) : Nat → Int32 → Int32 → Int32 → Int32 → Option (Int32)
  | 0, _, _, _, _ => none
  | n3 + 1, v1, v2, v3, v4 => (if 24 ≤ v4 then
  some (-1) else
  (zx_b1 (f_X3_distance N n0 v4 v1 v2 f0) (fun x18 =>
f_X3_nearestOn_l26 N n0 f0 (f_X3_nearestOn_l3 N n0 f0  n3) N v1 v2 v3 v4 x18 0 0)))
def f_X3_nearestOn (N : Nat) (n0 : Nat) (p1 : Int32) (p2 : Int32) (p3 : Int32) (f0 : (Nat → Int32)) : Option (Int32) :=
  f_X3_nearestOn_l3 N n0 f0  N p1 p2 p3 0
def f_X3_isCell (N : Nat) (p0 : Int32) (p1 : Int32) : Option (Int32) :=
  (zx_b1 (f_X3_in N (Int32.toInt64 p0) 0 99) (fun x1 =>
(if x1 = 0 then
  some 0 else
  (zx_b1 (f_X3_in N (Int32.toInt64 p1) 0 99) (fun x4 =>
(if x4 = 0 then
  some 0 else
  some 1))))))
def f_X3_nearest_j18 (N : Nat) (v1 : Int32) (v2 : Int32) (v3 : Int32) (t1 : Int32) (S_ : zx_S) : Option (Int32 × zx_S) :=
  (zx_b2 (f_X3_refused N t1 S_) (fun x1 T2 =>
(if x1 = 0 then
  (zx_b1 (f_X3_nearestOn N 380 v1 v2 v3 (T2 1)) (fun x5 =>
some (x5, T2))) else
  some (0, T2))))
def f_X3_nearest_j17 (N : Nat) (v1 : Int32) (v2 : Int32) (v3 : Int32) (S_ : zx_S) : Option (Int32 × zx_S) :=
  f_X3_nearest_j18 N  v1 v2 v3 1 S_
def f_X3_nearest (N : Nat) (p1 : Int32) (p2 : Int32) (p3 : Int32) (S : zx_S) : Option (Int32 × zx_S) :=
  (zx_b1 (f_X3_isCell N p1 p2) (fun x7 =>
(if x7 = 0 then
  f_X3_nearest_j17 N  p1 p2 p3 S else
  (if p3 < 0 then
  f_X3_nearest_j17 N  p1 p2 p3 S else
  f_X3_nearest_j18 N  p1 p2 p3 0 S))))
def f_X3_chosen_j17 (N : Nat) (v1 : Int32) (v2 : Int32) (v3 : Int32) (v4 : Int32) (t1 : Int32) (S_ : zx_S) : Option (Int32 × zx_S) :=
  (zx_b2 (f_X3_refused N t1 S_) (fun x1 T2 =>
(if x1 = 0 then
  (zx_b1 (f_X3_layBoxes N 1 T2) (fun T5 =>
(zx_wr 224 (4 * 55) (zx_st T5 6 (upd (T5 6) (Int32.toNatClampNeg (4 * 55)) v1)) (fun T7 =>
(zx_wr 224 ((4 * 55) + 1) (zx_st T7 6 (upd (T7 6) (Int32.toNatClampNeg ((4 * 55) + 1)) v2)) (fun T9 =>
(zx_wr 224 ((4 * 55) + 2) (zx_st T9 6 (upd (T9 6) (Int32.toNatClampNeg ((4 * 55) + 2)) v3)) (fun T11 =>
(zx_wr 224 ((4 * 55) + 3) (zx_st T11 6 (upd (T11 6) (Int32.toNatClampNeg ((4 * 55) + 3)) v4)) (fun T13 =>
(zx_b1 (f_X3_reach N 1 55 0 T13) (fun x15 =>
(zx_b2 (f_X3_numberNodes N 1 T13) (fun x17 T18 =>
(zx_rd 32 (T18 9) x15 (fun x20 =>
some (x20, T18))))))))))))))))) else
  some (0, T2))))
def f_X3_chosen (N : Nat) (p1 : Int32) (p2 : Int32) (p3 : Int32) (p4 : Int32) (S : zx_S) : Option (Int32 × zx_S) :=
  (zx_b1 (f_X3_isRectangle N p1 p2 p3 p4) (fun x22 =>
(if x22 = 0 then
  f_X3_chosen_j17 N  p1 p2 p3 p4 1 S else
  f_X3_chosen_j17 N  p1 p2 p3 p4 0 S)))
def f_X3_ifAdded_j17 (N : Nat) (v1 : Int32) (v2 : Int32) (v3 : Int32) (v4 : Int32) (t1 : Int32) (S_ : zx_S) : Option (Int32 × zx_S) :=
  (zx_b2 (f_X3_refused N t1 S_) (fun x1 T2 =>
(if x1 = 0 then
  (zx_b1 (f_X3_count N 380 (T2 1)) (fun x5 =>
(if x5 = 24 then
  some ((-100001), T2) else
  (zx_b2 (f_X3_overlap N 1 T2) (fun x8 T9 =>
(zx_b1 (f_X3_copyState N 380 380 0 0 (T9 1) (T9 2)) (fun g11 =>
(zx_n (zx_st T9 2 g11) (fun T13 =>
(zx_n (zx_st T13 12 (upd (T13 12) 3 0)) (fun T14 =>
(zx_b2 (f_X3_addOn N 2 v1 v2 v3 v4 T14) (fun x15 T16 =>
(zx_b2 (f_X3_overlap N 2 T16) (fun x18 T19 =>
some ((x18 - x8), T19)))))))))))))))) else
  some (0, T2))))
def f_X3_ifAdded (N : Nat) (p1 : Int32) (p2 : Int32) (p3 : Int32) (p4 : Int32) (S : zx_S) : Option (Int32 × zx_S) :=
  (zx_b1 (f_X3_isRectangle N p1 p2 p3 p4) (fun x21 =>
(if x21 = 0 then
  f_X3_ifAdded_j17 N  p1 p2 p3 p4 1 S else
  f_X3_ifAdded_j17 N  p1 p2 p3 p4 0 S)))
def f_X3_bestRemoval_j102 (N : Nat) (k11 : Int32 → Int32 → Int32 → zx_S → Option (Int32 × zx_S)) (v1 : Int32) (v2 : Int32) (v3 : Int32) (S_ : zx_S) : Option (Int32 × zx_S) :=
  (zx_n (v3 + 1) (fun x2 =>
k11 v1 v2 x2 S_))
def f_X3_bestRemoval_j101 (N : Nat) (k11 : Int32 → Int32 → Int32 → zx_S → Option (Int32 × zx_S)) (v1 : Int32) (v3 : Int32) (t0 : Int32) (S_ : zx_S) : Option (Int32 × zx_S) :=
  f_X3_bestRemoval_j102 N k11 v1 t0 v3 S_
def f_X3_bestRemoval_j89 (N : Nat) (k11 : Int32 → Int32 → Int32 → zx_S → Option (Int32 × zx_S)) (v2 : Int32) (v3 : Int32) (v4 : Int32) (v5 : Int32) (t0 : Int32) (S_ : zx_S) : Option (Int32 × zx_S) :=
  (if v5 = 0 then
  f_X3_bestRemoval_j101 N k11 t0 v3 v2 S_ else
  f_X3_bestRemoval_j101 N k11 t0 v3 v4 S_)
def f_X3_bestRemoval_j77 (N : Nat) (k11 : Int32 → Int32 → Int32 → zx_S → Option (Int32 × zx_S)) (v1 : Int32) (v2 : Int32) (v3 : Int32) (v4 : Int32) (t0 : Int32) (S_ : zx_S) : Option (Int32 × zx_S) :=
  (if t0 = 0 then
  f_X3_bestRemoval_j89 N k11 v2 v3 v4 t0 v1 S_ else
  f_X3_bestRemoval_j89 N k11 v2 v3 v4 t0 v3 S_)
def f_X3_bestRemoval_j72 (N : Nat) (k11 : Int32 → Int32 → Int32 → zx_S → Option (Int32 × zx_S)) (v1 : Int32) (v2 : Int32) (v3 : Int32) (v4 : Int32) (S_ : zx_S) : Option (Int32 × zx_S) :=
  f_X3_bestRemoval_j77 N k11 v1 v2 v3 v4 1 S_
def f_X3_bestRemoval_l11 (N : Nat) : Nat → Int32 → Int32 → Int32 → zx_S → Option (Int32 × zx_S)
  | 0, _, _, _, _ => none
  | n11 + 1, v1, v2, v3, S_ => (if 24 ≤ v3 then
  some (v1, S_) else
  (zx_b1 (f_X3_isThere N 380 v3 (S_ 1)) (fun x3 =>
(if x3 = 0 then
  f_X3_bestRemoval_j102 N (f_X3_bestRemoval_l11 N  n11) v1 v2 v3 S_ else
  (zx_b1 (f_X3_copyState N 380 380 0 0 (S_ 1) (S_ 2)) (fun g8 =>
(zx_n (zx_st S_ 2 g8) (fun T10 =>
(zx_b2 (f_X3_removeOn N 2 v3 T10) (fun x11 T12 =>
(zx_b2 (f_X3_overlap N 2 T12) (fun x14 T15 =>
(if v1 = (-1) then
  f_X3_bestRemoval_j72 N (f_X3_bestRemoval_l11 N  n11) v1 v2 v3 x14 T15 else
  (if v2 ≤ x14 then
  f_X3_bestRemoval_j77 N (f_X3_bestRemoval_l11 N  n11) v1 v2 v3 x14 0 T15 else
  f_X3_bestRemoval_j72 N (f_X3_bestRemoval_l11 N  n11) v1 v2 v3 x14 T15))))))))))))))
def f_X3_bestRemoval (N : Nat) (S : zx_S) : Option (Int32 × zx_S) :=
  (zx_n (zx_st S 12 (upd (S 12) 0 0)) (fun T19 =>
f_X3_bestRemoval_l11 N  N (-1) 0 0 T19))
def f_X3_anew_j81 (N : Nat) (k14 : Int32 → zx_S → Option (Int32 × zx_S)) (v1 : Int32) (S_ : zx_S) : Option (Int32 × zx_S) :=
  (zx_n (v1 + 1) (fun x5 =>
k14 x5 S_))
def f_X3_anew_l14 (N : Nat) : Nat → Int32 → zx_S → Option (Int32 × zx_S)
  | 0, _, _ => none
  | n14 + 1, v1, S_ => (if 24 ≤ v1 then
  (zx_b2 (f_X3_overlap N 2 S_) (fun x2 T3 =>
some (x2, T3))) else
  (zx_b1 (f_X3_isThere N 380 v1 (S_ 1)) (fun x6 =>
(if x6 = 0 then
  f_X3_anew_j81 N (f_X3_anew_l14 N  n14) v1 S_ else
  (zx_n (zx_st S_ 12 (upd (S_ 12) 3 0)) (fun T9 =>
(zx_n (5 * v1) (fun x10 =>
(zx_rd 380 (T9 1) (x10 + 1) (fun x11 =>
(zx_rd 380 (T9 1) (x10 + 2) (fun x13 =>
(zx_rd 380 (T9 1) (x10 + 3) (fun x15 =>
(zx_rd 380 (T9 1) (x10 + 4) (fun x17 =>
(zx_b2 (f_X3_addOn N 2 x11 x13 x15 x17 T9) (fun x19 T20 =>
f_X3_anew_j81 N (f_X3_anew_l14 N  n14) v1 T20))))))))))))))))))
def f_X3_anew (N : Nat) (S : zx_S) : Option (Int32 × zx_S) :=
  (zx_n (zx_st S 12 (upd (S 12) 0 0)) (fun T22 =>
(zx_b1 (f_X3_begin N 380 (T22 2)) (fun g23 =>
(zx_n (zx_st T22 2 g23) (fun T25 =>
f_X3_anew_l14 N  N 0 T25))))))
def f_X3_adds (N : Nat) (p1 : Int32) (p2 : Int32) (p3 : Int32) (p4 : Int32) (S : zx_S) : Option (Int32 × zx_S) :=
  (zx_b1 (f_X3_isRectangle N p1 p2 (p1 + p3) (p2 + p4)) (fun x1 =>
(if x1 = 0 then
  some (0, S) else
  (zx_b1 (f_X3_count N 380 (S 2)) (fun x4 =>
(if x4 = 24 then
  some (0, S) else
  (zx_n (zx_st S 12 (upd (S 12) 3 0)) (fun T7 =>
(zx_b2 (f_X3_addOn N 2 p1 p2 (p1 + p3) (p2 + p4) T7) (fun x8 T9 =>
some (1, T9)))))))))))
def f_X3_moves (N : Nat) (p1 : Int32) (p2 : Int32) (p3 : Int32) (S : zx_S) : Option (Int32 × zx_S) :=
  (zx_b1 (f_X3_whyNotMove N 380 p1 p2 p3 (S 2)) (fun x1 =>
(if x1 = 0 then
  (zx_b1 (f_X3_moveOn N 2 p1 p2 p3 S) (fun T4 =>
some (1, T4))) else
  some (0, S))))
def f_X3_command (N : Nat) (p1 : Int32) (p2 : Int32) (p3 : Int32) (p4 : Int32) (p5 : Int32) (S : zx_S) : Option (Int32 × zx_S) :=
  (if p1 = 1 then
  (zx_b2 (f_X3_adds N p2 p3 p4 p5 S) (fun x2 T3 =>
(zx_bl x2 (
some (x2, T3))))) else
(if p1 = 2 then
  (if ((p3 + p4) + p5) = 0 then
  (zx_b1 (f_X3_isThere N 380 p2 (S 2)) (fun x8 =>
(if x8 = 0 then
  some (0, S) else
  (zx_b2 (f_X3_removeOn N 2 p2 S) (fun x11 T12 =>
(if x11 ≤ 0 then
  some (0, T12) else
  some (1, T12))))))) else
  some (0, S)) else
(if p1 = 3 then
  (if p5 = 0 then
  (zx_b2 (f_X3_moves N p2 p3 p4 S) (fun x17 T18 =>
(if x17 = 0 then
  some (0, T18) else
  some (1, T18)))) else
  some (0, S)) else
(if p1 = 4 then
  (if p5 = 0 then
  (zx_b2 (f_X3_moves N p2 (-p3) (-p4) S) (fun x23 T24 =>
(if x23 = 0 then
  some (0, T24) else
  some (1, T24)))) else
  some (0, S)) else
(if p1 = 5 then
  (if ((p2 + p3) + p4) = 0 then
  (zx_b1 (f_X3_nodes N 380 (S 2)) (fun x29 =>
(if p5 < x29 then
  some (0, S) else
  some (1, S)))) else
  some (0, S)) else
(if p1 = 6 then
  (if p2 = 0 then
  (if 10 ≤ p3 then
  some (0, S) else
  (zx_b2 (f_X3_overlap N 2 S) (fun x35 T36 =>
(if (((10000 * p3) + (100 * p4)) + p5) < x35 then
  some (0, T36) else
  some (1, T36))))) else
  some (0, S)) else
(if p1 = 7 then
  (if p5 = 0 then
  (zx_b1 (f_X3_isThere N 380 p4 (S 2)) (fun x41 =>
(if x41 = 0 then
  some (0, S) else
  (zx_b1 (f_X3_nearestOn N 380 p2 p3 0 (S 2)) (fun x44 =>
(if x44 = p4 then
  some (1, S) else
  some (0, S))))))) else
  some (0, S)) else
(if p1 = 8 then
  (if p5 = 0 then
  (zx_b1 (f_X3_isThere N 380 p4 (S 2)) (fun x49 =>
(if x49 = 0 then
  some (0, S) else
  (zx_b1 (f_X3_distance N 380 p4 p2 p3 (S 2)) (fun x52 =>
(if x52 = 0 then
  some (1, S) else
  some (0, S))))))) else
  some (0, S)) else
some (0, S)))))))))
def f_X3_runScript_l86 (N : Nat) : Nat → Int32 → Int64 → Int64 → Int32 → zx_S → Option (Int32 × zx_S)
  | 0, _, _, _, _, _ => none
  | n86 + 1, v1, v2, v4, v6, S_ => (if v1 ≤ v6 then
  some ((-1), S_) else
  (zx_n (v4 / 1000000000) (fun x6 =>
(zx_nz x6 (
(zx_n (v2 / x6) (fun x8 =>
(zx_n (x8 - x8 / 1000000000 * 1000000000) (fun x9 =>
(zx_n (Int64.toInt32 x9) (fun x10 =>
(zx_n (x10 / 100000000) (fun x11 =>
(zx_n (x10 / 1000000) (fun x12 =>
(zx_n (x12 - x12 / 100 * 100) (fun x13 =>
(zx_n (x10 / 10000) (fun x14 =>
(zx_n (x14 - x14 / 100 * 100) (fun x15 =>
(zx_n (x10 / 100) (fun x16 =>
(zx_n (x16 - x16 / 100 * 100) (fun x17 =>
(zx_n (x10 - x10 / 100 * 100) (fun x18 =>
(zx_b2 (f_X3_command N x11 x13 x15 x17 x18 S_) (fun x19 T20 =>
(if x19 = 0 then
  some (v6, T20) else
  (zx_n (v6 + 1) (fun x23 =>
f_X3_runScript_l86 N  n86 v1 v2 x6 x23 T20))))))))))))))))))))))))))))))))
def f_X3_runScript_j62 (N : Nat) (v1 : Int32) (v2 : Int64) (v4 : Int64) (t1 : Int32) (S_ : zx_S) : Option (Int32 × zx_S) :=
  (zx_b2 (f_X3_refused N t1 S_) (fun x1 T2 =>
(if x1 = 0 then
  (zx_b1 (f_X3_copyState N 380 380 0 0 (T2 1) (T2 2)) (fun g24 =>
(zx_n (zx_st T2 2 g24) (fun T26 =>
f_X3_runScript_l86 N  N v1 v2 v4 0 T26)))) else
  some (0, T2))))
def f_X3_runScript_j61 (N : Nat) (v1 : Int32) (v2 : Int64) (v4 : Int64) (S_ : zx_S) : Option (Int32 × zx_S) :=
  f_X3_runScript_j62 N  v1 v2 v4 1 S_
def f_X3_runScript_j32 (N : Nat) (v1 : Int32) (v2 : Int64) (v4 : Int64) (S_ : zx_S) : Option (Int32 × zx_S) :=
  (zx_b1 (f_X3_in N (Int32.toInt64 v1) 1 2) (fun x27 =>
(if x27 = 0 then
  f_X3_runScript_j61 N  v1 v2 v4 S_ else
  (zx_b1 (f_X3_in N v2 0 (v4 - 1)) (fun x30 =>
(if x30 = 0 then
  f_X3_runScript_j61 N  v1 v2 v4 S_ else
  f_X3_runScript_j62 N  v1 v2 v4 0 S_))))))
def f_X3_runScript_l6 (N : Nat) : Nat → Int32 → Int64 → Int64 → Int32 → zx_S → Option (Int32 × zx_S)
  | 0, _, _, _, _, _ => none
  | n6 + 1, v1, v2, v4, v6, S_ => (if v1 ≤ v6 then
  f_X3_runScript_j32 N  v1 v2 v4 S_ else
  (if 2 ≤ v6 then
  f_X3_runScript_j32 N  v1 v2 v4 S_ else
  (zx_n (v4 * 1000000000) (fun x35 =>
(zx_n (v6 + 1) (fun x36 =>
f_X3_runScript_l6 N  n6 v1 v2 x35 x36 S_))))))
def f_X3_runScript (N : Nat) (p1 : Int32) (p2 : Int64) (S : zx_S) : Option (Int32 × zx_S) :=
  f_X3_runScript_l6 N  N p1 p2 1 0 S
def f_X3_turn_j24 (N : Nat) (v1 : Int32) (S_ : zx_S) : Option (zx_S) :=
  (zx_n (v1 / 4) (fun x1 =>
(zx_n (x1 - x1 / 24 * 24) (fun x2 =>
(zx_b1 (f_X3_isThere N 380 x2 (S_ 2)) (fun x3 =>
(if x3 = 0 then
  some S_ else
  (zx_n (v1 / 4) (fun x6 =>
(zx_n (x6 - x6 / 24 * 24) (fun x7 =>
(zx_b2 (f_X3_removeOn N 2 x7 S_) (fun x8 T9 =>
some T9)))))))))))))
def f_X3_turn_j58 (N : Nat) (v1 : Int32) (S_ : zx_S) : Option (zx_S) :=
  (zx_n (v1 / 4) (fun x14 =>
(zx_n (x14 - x14 / 90 * 90) (fun x15 =>
(zx_n (v1 / 512) (fun x16 =>
(zx_n (x16 - x16 / 90 * 90) (fun x17 =>
(zx_n (v1 / 65536) (fun x18 =>
(zx_n (x18 - x18 / 10 * 10) (fun x19 =>
(zx_n (v1 / 1048576) (fun x20 =>
(zx_n (x20 - x20 / 10 * 10) (fun x21 =>
(zx_b2 (f_X3_adds N x15 x17 x19 x21 S_) (fun x22 T23 =>
some T23))))))))))))))))))
def f_X3_turn (N : Nat) (p1 : Int32) (S : zx_S) : Option (zx_S) :=
  (zx_b1 (f_X3_count N 380 (S 2)) (fun x11 =>
(if x11 = 24 then
  f_X3_turn_j24 N  p1 S else
  (zx_n (p1 - p1 / 4 * 4) (fun x25 =>
(if x25 = 0 then
  (if x11 ≤ 0 then
  f_X3_turn_j58 N  p1 S else
  f_X3_turn_j24 N  p1 S) else
  f_X3_turn_j58 N  p1 S))))))
def f_X3_simulate_l45 (N : Nat) : Nat → Int32 → Int64 → Int32 → zx_S → Option (Int32 × zx_S)
  | 0, _, _, _, _ => none
  | n45 + 1, v3, v4, v6, S_ => (if v3 ≤ v6 then
  (zx_b1 (f_X3_nodes N 380 (S_ 2)) (fun x6 =>
(zx_b1 (f_X3_count N 380 (S_ 2)) (fun x8 =>
some (((1000 * x6) + x8), S_))))) else
  (zx_n ((v4 * 6364136223846793005) + 1442695040888963407) (fun x10 =>
(zx_b1 (f_X3_turn N (Int64.toInt32 ((x10).toUInt64 >>> ((33 : Int32).toInt64.toUInt64 &&& Int64.toUInt64 63)).toInt64) S_) (fun T11 =>
(zx_n (v6 + 1) (fun x13 =>
f_X3_simulate_l45 N  n45 v3 x10 x13 T11)))))))
def f_X3_simulate_j18 (N : Nat) (v1 : Int64) (v3 : Int32) (t1 : Int32) (S_ : zx_S) : Option (Int32 × zx_S) :=
  (zx_b2 (f_X3_refused N t1 S_) (fun x1 T2 =>
(if x1 = 0 then
  (zx_b1 (f_X3_copyState N 380 380 0 0 (T2 1) (T2 2)) (fun g14 =>
(zx_n (zx_st T2 2 g14) (fun T16 =>
f_X3_simulate_l45 N  N v3 v1 0 T16)))) else
  some (0, T2))))
def f_X3_simulate (N : Nat) (p1 : Int64) (p3 : Int32) (S : zx_S) : Option (Int32 × zx_S) :=
  (zx_b1 (f_X3_in N (Int32.toInt64 p3) 1 60) (fun x17 =>
(if x17 = 0 then
  f_X3_simulate_j18 N  p1 p3 1 S else
  f_X3_simulate_j18 N  p1 p3 0 S)))
def f_X3_save_j16 (N : Nat) (v1 : Int32) (t1 : Int32) (S_ : zx_S) : Option (Int32 × zx_S) :=
  (zx_b2 (f_X3_refused N t1 S_) (fun x1 T2 =>
(if x1 = 0 then
  (zx_b1 (f_X3_copyState N 380 760 0 (380 * v1) (T2 1) (T2 4)) (fun g5 =>
(zx_n (zx_st T2 4 g5) (fun T7 =>
(zx_wr 2 v1 (zx_st T7 5 (upd (T7 5) (Int32.toNatClampNeg v1) (vp_nar .boolean 1))) (fun T8 =>
(zx_b1 (f_X3_count N 380 (T8 1)) (fun x10 =>
some (x10, T8))))))))) else
  some (0, T2))))
def f_X3_save (N : Nat) (p1 : Int32) (S : zx_S) : Option (Int32 × zx_S) :=
  (zx_b1 (f_X3_in N (Int32.toInt64 p1) 0 1) (fun x12 =>
(if x12 = 0 then
  f_X3_save_j16 N  p1 1 S else
  f_X3_save_j16 N  p1 0 S)))
def f_X3_restore_j29 (N : Nat) (v1 : Int32) (t1 : Int32) (S_ : zx_S) : Option (Int32 × zx_S) :=
  (zx_b2 (f_X3_refused N t1 S_) (fun x1 T2 =>
(if x1 = 0 then
  (zx_b1 (f_X3_copyState N 760 380 (380 * v1) 0 (T2 4) (T2 1)) (fun g5 =>
(zx_n (zx_st T2 1 g5) (fun T7 =>
(zx_n (zx_st T7 12 (upd (T7 12) 2 0)) (fun T8 =>
(zx_b1 (f_X3_count N 380 (T8 1)) (fun x9 =>
some (x9, T8))))))))) else
  some (0, T2))))
def f_X3_restore (N : Nat) (p1 : Int32) (S : zx_S) : Option (Int32 × zx_S) :=
  (zx_b1 (f_X3_in N (Int32.toInt64 p1) 0 1) (fun x11 =>
(if x11 = 0 then
  f_X3_restore_j29 N  p1 1 S else
  (zx_rd 2 (S 5) p1 (fun x14 =>
(if x14 = 0 then
  f_X3_restore_j29 N  p1 2 S else
  f_X3_restore_j29 N  p1 0 S))))))
