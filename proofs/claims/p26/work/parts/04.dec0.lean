def zd_ok (b : ByteArray) (l : List (Nat × Instr × Nat)) : Bool := l.all (fun q => decide (decode b q.1 = .ok q.2))
theorem zd_at {b : ByteArray} {l : List (Nat × Instr × Nat)} (h : zd_ok b l = true) (k : Nat) {pc : Nat} {i : Instr × Nat} (hk : l[k]? = some (pc, i)) : decode b pc = .ok i := of_decide_eq_true (List.all_eq_true.mp h (pc, i) (List.mem_of_getElem? hk))
def zl_cX0_init_0 : List (Nat × Instr × Nat) := [(0, .aload_n 0, 1), (1, .invokespecial 3, 3), (4, .aload_n 0, 1), (5, .bipush 100, 2), (7, .newarray .int, 2), (9, .putfield 9, 3), (12, .aload_n 0, 1), (13, .bipush 56, 2), (15, .newarray .int, 2), (17, .putfield 15, 3), (20, .return_, 1)]
theorem zo_cX0_init_0 : zd_ok cX0_init zl_cX0_init_0 = true := by decide +kernel
theorem dX0_init_0 : decode cX0_init 0 = .ok (.aload_n 0, 1) := zd_at zo_cX0_init_0 0 rfl
theorem dX0_init_1 : decode cX0_init 1 = .ok (.invokespecial 3, 3) := zd_at zo_cX0_init_0 1 rfl
theorem dX0_init_4 : decode cX0_init 4 = .ok (.aload_n 0, 1) := zd_at zo_cX0_init_0 2 rfl
theorem dX0_init_5 : decode cX0_init 5 = .ok (.bipush 100, 2) := zd_at zo_cX0_init_0 3 rfl
theorem dX0_init_7 : decode cX0_init 7 = .ok (.newarray .int, 2) := zd_at zo_cX0_init_0 4 rfl
theorem dX0_init_9 : decode cX0_init 9 = .ok (.putfield 9, 3) := zd_at zo_cX0_init_0 5 rfl
theorem dX0_init_12 : decode cX0_init 12 = .ok (.aload_n 0, 1) := zd_at zo_cX0_init_0 6 rfl
theorem dX0_init_13 : decode cX0_init 13 = .ok (.bipush 56, 2) := zd_at zo_cX0_init_0 7 rfl
theorem dX0_init_15 : decode cX0_init 15 = .ok (.newarray .int, 2) := zd_at zo_cX0_init_0 8 rfl
theorem dX0_init_17 : decode cX0_init 17 = .ok (.putfield 15, 3) := zd_at zo_cX0_init_0 9 rfl
theorem dX0_init_20 : decode cX0_init 20 = .ok (.return_, 1) := zd_at zo_cX0_init_0 10 rfl
def zl_cX0_lengthen_0 : List (Nat × Instr × Nat) := [(0, .aload_n 0, 1), (1, .getfield 9, 3), (4, .aload_n 0, 1), (5, .getfield 18, 3), (8, .iload_n 1, 1), (9, .invokestatic 22, 3), (12, .aload_n 0, 1), (13, .dup, 1), (14, .getfield 18, 3), (17, .iconst 1, 1), (18, .iadd, 1), (19, .putfield 18, 3), (22, .aload_n 0, 1), (23, .getfield 18, 3), (26, .ireturn, 1)]
theorem zo_cX0_lengthen_0 : zd_ok cX0_lengthen zl_cX0_lengthen_0 = true := by decide +kernel
theorem dX0_lengthen_0 : decode cX0_lengthen 0 = .ok (.aload_n 0, 1) := zd_at zo_cX0_lengthen_0 0 rfl
theorem dX0_lengthen_1 : decode cX0_lengthen 1 = .ok (.getfield 9, 3) := zd_at zo_cX0_lengthen_0 1 rfl
theorem dX0_lengthen_4 : decode cX0_lengthen 4 = .ok (.aload_n 0, 1) := zd_at zo_cX0_lengthen_0 2 rfl
theorem dX0_lengthen_5 : decode cX0_lengthen 5 = .ok (.getfield 18, 3) := zd_at zo_cX0_lengthen_0 3 rfl
theorem dX0_lengthen_8 : decode cX0_lengthen 8 = .ok (.iload_n 1, 1) := zd_at zo_cX0_lengthen_0 4 rfl
theorem dX0_lengthen_9 : decode cX0_lengthen 9 = .ok (.invokestatic 22, 3) := zd_at zo_cX0_lengthen_0 5 rfl
theorem dX0_lengthen_12 : decode cX0_lengthen 12 = .ok (.aload_n 0, 1) := zd_at zo_cX0_lengthen_0 6 rfl
theorem dX0_lengthen_13 : decode cX0_lengthen 13 = .ok (.dup, 1) := zd_at zo_cX0_lengthen_0 7 rfl
theorem dX0_lengthen_14 : decode cX0_lengthen 14 = .ok (.getfield 18, 3) := zd_at zo_cX0_lengthen_0 8 rfl
theorem dX0_lengthen_17 : decode cX0_lengthen 17 = .ok (.iconst 1, 1) := zd_at zo_cX0_lengthen_0 9 rfl
theorem dX0_lengthen_18 : decode cX0_lengthen 18 = .ok (.iadd, 1) := zd_at zo_cX0_lengthen_0 10 rfl
theorem dX0_lengthen_19 : decode cX0_lengthen 19 = .ok (.putfield 18, 3) := zd_at zo_cX0_lengthen_0 11 rfl
theorem dX0_lengthen_22 : decode cX0_lengthen 22 = .ok (.aload_n 0, 1) := zd_at zo_cX0_lengthen_0 12 rfl
theorem dX0_lengthen_23 : decode cX0_lengthen 23 = .ok (.getfield 18, 3) := zd_at zo_cX0_lengthen_0 13 rfl
theorem dX0_lengthen_26 : decode cX0_lengthen 26 = .ok (.ireturn, 1) := zd_at zo_cX0_lengthen_0 14 rfl
def zl_cX0_corner_0 : List (Nat × Instr × Nat) := [(0, .aload_n 0, 1), (1, .getfield 15, 3), (4, .iload_n 1, 1), (5, .iconst 4, 1), (6, .imul, 1), (7, .iload_n 2, 1), (8, .iadd, 1), (9, .invokestatic 26, 3), (12, .ireturn, 1)]
theorem zo_cX0_corner_0 : zd_ok cX0_corner zl_cX0_corner_0 = true := by decide +kernel
theorem dX0_corner_0 : decode cX0_corner 0 = .ok (.aload_n 0, 1) := zd_at zo_cX0_corner_0 0 rfl
theorem dX0_corner_1 : decode cX0_corner 1 = .ok (.getfield 15, 3) := zd_at zo_cX0_corner_0 1 rfl
theorem dX0_corner_4 : decode cX0_corner 4 = .ok (.iload_n 1, 1) := zd_at zo_cX0_corner_0 2 rfl
theorem dX0_corner_5 : decode cX0_corner 5 = .ok (.iconst 4, 1) := zd_at zo_cX0_corner_0 3 rfl
theorem dX0_corner_6 : decode cX0_corner 6 = .ok (.imul, 1) := zd_at zo_cX0_corner_0 4 rfl
theorem dX0_corner_7 : decode cX0_corner 7 = .ok (.iload_n 2, 1) := zd_at zo_cX0_corner_0 5 rfl
theorem dX0_corner_8 : decode cX0_corner 8 = .ok (.iadd, 1) := zd_at zo_cX0_corner_0 6 rfl
theorem dX0_corner_9 : decode cX0_corner 9 = .ok (.invokestatic 26, 3) := zd_at zo_cX0_corner_0 7 rfl
theorem dX0_corner_12 : decode cX0_corner 12 = .ok (.ireturn, 1) := zd_at zo_cX0_corner_0 8 rfl
def zl_cX0_read_0 : List (Nat × Instr × Nat) := [(0, .aload_n 0, 1), (1, .iconst 0, 1), (2, .putfield 30, 3), (5, .aload_n 0, 1), (6, .iconst 0, 1), (7, .putfield 33, 3), (10, .aload_n 0, 1), (11, .iconst 0, 1), (12, .putfield 36, 3), (15, .iconst 0, 1), (16, .istore_n 1, 1), (17, .iload_n 1, 1), (18, .bipush 100, 2), (20, .if_icmp .gt 46, 3), (23, .aload_n 0, 1), (24, .getfield 36, 3), (27, .ifCond .ne 39, 3), (30, .aload_n 0, 1), (31, .invokevirtual 40, 3), (34, .aload_n 0, 1), (35, .getfield 36, 3), (38, .ifCond .ne 16, 3), (41, .aload_n 0, 1), (42, .getfield 30, 3), (45, .aload_n 0, 1), (46, .getfield 18, 3), (49, .if_icmp .ne 5, 3), (52, .iconst (-1), 1), (53, .ireturn, 1), (54, .aload_n 0, 1), (55, .bipush 59, 2), (57, .invokevirtual 43, 3), (60, .iinc 1 1, 3), (63, .goto (-46), 3), (66, .aload_n 0, 1), (67, .getfield 30, 3), (70, .ireturn, 1)]
theorem zo_cX0_read_0 : zd_ok cX0_read zl_cX0_read_0 = true := by decide +kernel
theorem dX0_read_0 : decode cX0_read 0 = .ok (.aload_n 0, 1) := zd_at zo_cX0_read_0 0 rfl
theorem dX0_read_1 : decode cX0_read 1 = .ok (.iconst 0, 1) := zd_at zo_cX0_read_0 1 rfl
theorem dX0_read_2 : decode cX0_read 2 = .ok (.putfield 30, 3) := zd_at zo_cX0_read_0 2 rfl
theorem dX0_read_5 : decode cX0_read 5 = .ok (.aload_n 0, 1) := zd_at zo_cX0_read_0 3 rfl
theorem dX0_read_6 : decode cX0_read 6 = .ok (.iconst 0, 1) := zd_at zo_cX0_read_0 4 rfl
theorem dX0_read_7 : decode cX0_read 7 = .ok (.putfield 33, 3) := zd_at zo_cX0_read_0 5 rfl
theorem dX0_read_10 : decode cX0_read 10 = .ok (.aload_n 0, 1) := zd_at zo_cX0_read_0 6 rfl
theorem dX0_read_11 : decode cX0_read 11 = .ok (.iconst 0, 1) := zd_at zo_cX0_read_0 7 rfl
theorem dX0_read_12 : decode cX0_read 12 = .ok (.putfield 36, 3) := zd_at zo_cX0_read_0 8 rfl
theorem dX0_read_15 : decode cX0_read 15 = .ok (.iconst 0, 1) := zd_at zo_cX0_read_0 9 rfl
theorem dX0_read_16 : decode cX0_read 16 = .ok (.istore_n 1, 1) := zd_at zo_cX0_read_0 10 rfl
theorem dX0_read_17 : decode cX0_read 17 = .ok (.iload_n 1, 1) := zd_at zo_cX0_read_0 11 rfl
theorem dX0_read_18 : decode cX0_read 18 = .ok (.bipush 100, 2) := zd_at zo_cX0_read_0 12 rfl
theorem dX0_read_20 : decode cX0_read 20 = .ok (.if_icmp .gt 46, 3) := zd_at zo_cX0_read_0 13 rfl
theorem dX0_read_23 : decode cX0_read 23 = .ok (.aload_n 0, 1) := zd_at zo_cX0_read_0 14 rfl
theorem dX0_read_24 : decode cX0_read 24 = .ok (.getfield 36, 3) := zd_at zo_cX0_read_0 15 rfl
theorem dX0_read_27 : decode cX0_read 27 = .ok (.ifCond .ne 39, 3) := zd_at zo_cX0_read_0 16 rfl
theorem dX0_read_30 : decode cX0_read 30 = .ok (.aload_n 0, 1) := zd_at zo_cX0_read_0 17 rfl
theorem dX0_read_31 : decode cX0_read 31 = .ok (.invokevirtual 40, 3) := zd_at zo_cX0_read_0 18 rfl
theorem dX0_read_34 : decode cX0_read 34 = .ok (.aload_n 0, 1) := zd_at zo_cX0_read_0 19 rfl
theorem dX0_read_35 : decode cX0_read 35 = .ok (.getfield 36, 3) := zd_at zo_cX0_read_0 20 rfl
theorem dX0_read_38 : decode cX0_read 38 = .ok (.ifCond .ne 16, 3) := zd_at zo_cX0_read_0 21 rfl
theorem dX0_read_41 : decode cX0_read 41 = .ok (.aload_n 0, 1) := zd_at zo_cX0_read_0 22 rfl
theorem dX0_read_42 : decode cX0_read 42 = .ok (.getfield 30, 3) := zd_at zo_cX0_read_0 23 rfl
theorem dX0_read_45 : decode cX0_read 45 = .ok (.aload_n 0, 1) := zd_at zo_cX0_read_0 24 rfl
theorem dX0_read_46 : decode cX0_read 46 = .ok (.getfield 18, 3) := zd_at zo_cX0_read_0 25 rfl
theorem dX0_read_49 : decode cX0_read 49 = .ok (.if_icmp .ne 5, 3) := zd_at zo_cX0_read_0 26 rfl
theorem dX0_read_52 : decode cX0_read 52 = .ok (.iconst (-1), 1) := zd_at zo_cX0_read_0 27 rfl
theorem dX0_read_53 : decode cX0_read 53 = .ok (.ireturn, 1) := zd_at zo_cX0_read_0 28 rfl
theorem dX0_read_54 : decode cX0_read 54 = .ok (.aload_n 0, 1) := zd_at zo_cX0_read_0 29 rfl
theorem dX0_read_55 : decode cX0_read 55 = .ok (.bipush 59, 2) := zd_at zo_cX0_read_0 30 rfl
theorem dX0_read_57 : decode cX0_read 57 = .ok (.invokevirtual 43, 3) := zd_at zo_cX0_read_0 31 rfl
theorem dX0_read_60 : decode cX0_read 60 = .ok (.iinc 1 1, 3) := zd_at zo_cX0_read_0 32 rfl
theorem dX0_read_63 : decode cX0_read 63 = .ok (.goto (-46), 3) := zd_at zo_cX0_read_0 33 rfl
theorem dX0_read_66 : decode cX0_read 66 = .ok (.aload_n 0, 1) := zd_at zo_cX0_read_0 34 rfl
theorem dX0_read_67 : decode cX0_read 67 = .ok (.getfield 30, 3) := zd_at zo_cX0_read_0 35 rfl
theorem dX0_read_70 : decode cX0_read 70 = .ok (.ireturn, 1) := zd_at zo_cX0_read_0 36 rfl
def zl_cX0_readRectangle_0 : List (Nat × Instr × Nat) := [(0, .aload_n 0, 1), (1, .iconst 0, 1), (2, .bipush 99, 2), (4, .invokevirtual 47, 3), (7, .istore_n 1, 1), (8, .aload_n 0, 1), (9, .bipush 44, 2), (11, .invokevirtual 43, 3), (14, .aload_n 0, 1), (15, .iconst 0, 1), (16, .bipush 99, 2), (18, .invokevirtual 47, 3), (21, .istore_n 2, 1), (22, .aload_n 0, 1), (23, .bipush 58, 2), (25, .invokevirtual 43, 3), (28, .aload_n 0, 1), (29, .iconst 1, 1), (30, .bipush 100, 2), (32, .iload_n 1, 1), (33, .isub, 1), (34, .invokevirtual 47, 3), (37, .istore_n 3, 1), (38, .aload_n 0, 1), (39, .bipush 120, 2), (41, .invokevirtual 43, 3), (44, .aload_n 0, 1), (45, .iconst 1, 1), (46, .bipush 100, 2), (48, .iload_n 2, 1), (49, .isub, 1), (50, .invokevirtual 47, 3), (53, .istore 4, 2), (55, .aload_n 0, 1), (56, .getfield 36, 3), (59, .ifCond .ne 76, 3), (62, .aload_n 0, 1), (63, .getfield 33, 3), (66, .iconst 4, 1), (67, .imul, 1), (68, .istore 5, 2), (70, .aload_n 0, 1), (71, .getfield 15, 3), (74, .iload 5, 2), (76, .iload_n 1, 1), (77, .invokestatic 22, 3), (80, .aload_n 0, 1), (81, .getfield 15, 3), (84, .iload 5, 2), (86, .iconst 1, 1), (87, .iadd, 1), (88, .iload_n 2, 1), (89, .invokestatic 22, 3), (92, .aload_n 0, 1), (93, .getfield 15, 3), (96, .iload 5, 2), (98, .iconst 2, 1), (99, .iadd, 1), (100, .iload_n 1, 1), (101, .iload_n 3, 1), (102, .iadd, 1), (103, .iconst 1, 1), (104, .isub, 1), (105, .invokestatic 22, 3), (108, .aload_n 0, 1), (109, .getfield 15, 3), (112, .iload 5, 2), (114, .iconst 3, 1), (115, .iadd, 1), (116, .iload_n 2, 1), (117, .iload 4, 2), (119, .iadd, 1), (120, .iconst 1, 1), (121, .isub, 1), (122, .invokestatic 22, 3), (125, .aload_n 0, 1), (126, .dup, 1), (127, .getfield 33, 3), (130, .iconst 1, 1), (131, .iadd, 1), (132, .putfield 33, 3), (135, .return_, 1)]
theorem zo_cX0_readRectangle_0 : zd_ok cX0_readRectangle zl_cX0_readRectangle_0 = true := by decide +kernel
theorem dX0_readRectangle_0 : decode cX0_readRectangle 0 = .ok (.aload_n 0, 1) := zd_at zo_cX0_readRectangle_0 0 rfl
theorem dX0_readRectangle_1 : decode cX0_readRectangle 1 = .ok (.iconst 0, 1) := zd_at zo_cX0_readRectangle_0 1 rfl
theorem dX0_readRectangle_2 : decode cX0_readRectangle 2 = .ok (.bipush 99, 2) := zd_at zo_cX0_readRectangle_0 2 rfl
theorem dX0_readRectangle_4 : decode cX0_readRectangle 4 = .ok (.invokevirtual 47, 3) := zd_at zo_cX0_readRectangle_0 3 rfl
theorem dX0_readRectangle_7 : decode cX0_readRectangle 7 = .ok (.istore_n 1, 1) := zd_at zo_cX0_readRectangle_0 4 rfl
theorem dX0_readRectangle_8 : decode cX0_readRectangle 8 = .ok (.aload_n 0, 1) := zd_at zo_cX0_readRectangle_0 5 rfl
theorem dX0_readRectangle_9 : decode cX0_readRectangle 9 = .ok (.bipush 44, 2) := zd_at zo_cX0_readRectangle_0 6 rfl
theorem dX0_readRectangle_11 : decode cX0_readRectangle 11 = .ok (.invokevirtual 43, 3) := zd_at zo_cX0_readRectangle_0 7 rfl
theorem dX0_readRectangle_14 : decode cX0_readRectangle 14 = .ok (.aload_n 0, 1) := zd_at zo_cX0_readRectangle_0 8 rfl
theorem dX0_readRectangle_15 : decode cX0_readRectangle 15 = .ok (.iconst 0, 1) := zd_at zo_cX0_readRectangle_0 9 rfl
theorem dX0_readRectangle_16 : decode cX0_readRectangle 16 = .ok (.bipush 99, 2) := zd_at zo_cX0_readRectangle_0 10 rfl
theorem dX0_readRectangle_18 : decode cX0_readRectangle 18 = .ok (.invokevirtual 47, 3) := zd_at zo_cX0_readRectangle_0 11 rfl
theorem dX0_readRectangle_21 : decode cX0_readRectangle 21 = .ok (.istore_n 2, 1) := zd_at zo_cX0_readRectangle_0 12 rfl
theorem dX0_readRectangle_22 : decode cX0_readRectangle 22 = .ok (.aload_n 0, 1) := zd_at zo_cX0_readRectangle_0 13 rfl
theorem dX0_readRectangle_23 : decode cX0_readRectangle 23 = .ok (.bipush 58, 2) := zd_at zo_cX0_readRectangle_0 14 rfl
theorem dX0_readRectangle_25 : decode cX0_readRectangle 25 = .ok (.invokevirtual 43, 3) := zd_at zo_cX0_readRectangle_0 15 rfl
theorem dX0_readRectangle_28 : decode cX0_readRectangle 28 = .ok (.aload_n 0, 1) := zd_at zo_cX0_readRectangle_0 16 rfl
theorem dX0_readRectangle_29 : decode cX0_readRectangle 29 = .ok (.iconst 1, 1) := zd_at zo_cX0_readRectangle_0 17 rfl
theorem dX0_readRectangle_30 : decode cX0_readRectangle 30 = .ok (.bipush 100, 2) := zd_at zo_cX0_readRectangle_0 18 rfl
theorem dX0_readRectangle_32 : decode cX0_readRectangle 32 = .ok (.iload_n 1, 1) := zd_at zo_cX0_readRectangle_0 19 rfl
theorem dX0_readRectangle_33 : decode cX0_readRectangle 33 = .ok (.isub, 1) := zd_at zo_cX0_readRectangle_0 20 rfl
theorem dX0_readRectangle_34 : decode cX0_readRectangle 34 = .ok (.invokevirtual 47, 3) := zd_at zo_cX0_readRectangle_0 21 rfl
theorem dX0_readRectangle_37 : decode cX0_readRectangle 37 = .ok (.istore_n 3, 1) := zd_at zo_cX0_readRectangle_0 22 rfl
theorem dX0_readRectangle_38 : decode cX0_readRectangle 38 = .ok (.aload_n 0, 1) := zd_at zo_cX0_readRectangle_0 23 rfl
theorem dX0_readRectangle_39 : decode cX0_readRectangle 39 = .ok (.bipush 120, 2) := zd_at zo_cX0_readRectangle_0 24 rfl
theorem dX0_readRectangle_41 : decode cX0_readRectangle 41 = .ok (.invokevirtual 43, 3) := zd_at zo_cX0_readRectangle_0 25 rfl
theorem dX0_readRectangle_44 : decode cX0_readRectangle 44 = .ok (.aload_n 0, 1) := zd_at zo_cX0_readRectangle_0 26 rfl
theorem dX0_readRectangle_45 : decode cX0_readRectangle 45 = .ok (.iconst 1, 1) := zd_at zo_cX0_readRectangle_0 27 rfl
theorem dX0_readRectangle_46 : decode cX0_readRectangle 46 = .ok (.bipush 100, 2) := zd_at zo_cX0_readRectangle_0 28 rfl
theorem dX0_readRectangle_48 : decode cX0_readRectangle 48 = .ok (.iload_n 2, 1) := zd_at zo_cX0_readRectangle_0 29 rfl
theorem dX0_readRectangle_49 : decode cX0_readRectangle 49 = .ok (.isub, 1) := zd_at zo_cX0_readRectangle_0 30 rfl
theorem dX0_readRectangle_50 : decode cX0_readRectangle 50 = .ok (.invokevirtual 47, 3) := zd_at zo_cX0_readRectangle_0 31 rfl
theorem dX0_readRectangle_53 : decode cX0_readRectangle 53 = .ok (.istore 4, 2) := zd_at zo_cX0_readRectangle_0 32 rfl
theorem dX0_readRectangle_55 : decode cX0_readRectangle 55 = .ok (.aload_n 0, 1) := zd_at zo_cX0_readRectangle_0 33 rfl
theorem dX0_readRectangle_56 : decode cX0_readRectangle 56 = .ok (.getfield 36, 3) := zd_at zo_cX0_readRectangle_0 34 rfl
theorem dX0_readRectangle_59 : decode cX0_readRectangle 59 = .ok (.ifCond .ne 76, 3) := zd_at zo_cX0_readRectangle_0 35 rfl
theorem dX0_readRectangle_62 : decode cX0_readRectangle 62 = .ok (.aload_n 0, 1) := zd_at zo_cX0_readRectangle_0 36 rfl
theorem dX0_readRectangle_63 : decode cX0_readRectangle 63 = .ok (.getfield 33, 3) := zd_at zo_cX0_readRectangle_0 37 rfl
theorem dX0_readRectangle_66 : decode cX0_readRectangle 66 = .ok (.iconst 4, 1) := zd_at zo_cX0_readRectangle_0 38 rfl
theorem dX0_readRectangle_67 : decode cX0_readRectangle 67 = .ok (.imul, 1) := zd_at zo_cX0_readRectangle_0 39 rfl
theorem dX0_readRectangle_68 : decode cX0_readRectangle 68 = .ok (.istore 5, 2) := zd_at zo_cX0_readRectangle_0 40 rfl
theorem dX0_readRectangle_70 : decode cX0_readRectangle 70 = .ok (.aload_n 0, 1) := zd_at zo_cX0_readRectangle_0 41 rfl
theorem dX0_readRectangle_71 : decode cX0_readRectangle 71 = .ok (.getfield 15, 3) := zd_at zo_cX0_readRectangle_0 42 rfl
theorem dX0_readRectangle_74 : decode cX0_readRectangle 74 = .ok (.iload 5, 2) := zd_at zo_cX0_readRectangle_0 43 rfl
theorem dX0_readRectangle_76 : decode cX0_readRectangle 76 = .ok (.iload_n 1, 1) := zd_at zo_cX0_readRectangle_0 44 rfl
theorem dX0_readRectangle_77 : decode cX0_readRectangle 77 = .ok (.invokestatic 22, 3) := zd_at zo_cX0_readRectangle_0 45 rfl
theorem dX0_readRectangle_80 : decode cX0_readRectangle 80 = .ok (.aload_n 0, 1) := zd_at zo_cX0_readRectangle_0 46 rfl
theorem dX0_readRectangle_81 : decode cX0_readRectangle 81 = .ok (.getfield 15, 3) := zd_at zo_cX0_readRectangle_0 47 rfl
theorem dX0_readRectangle_84 : decode cX0_readRectangle 84 = .ok (.iload 5, 2) := zd_at zo_cX0_readRectangle_0 48 rfl
theorem dX0_readRectangle_86 : decode cX0_readRectangle 86 = .ok (.iconst 1, 1) := zd_at zo_cX0_readRectangle_0 49 rfl
theorem dX0_readRectangle_87 : decode cX0_readRectangle 87 = .ok (.iadd, 1) := zd_at zo_cX0_readRectangle_0 50 rfl
theorem dX0_readRectangle_88 : decode cX0_readRectangle 88 = .ok (.iload_n 2, 1) := zd_at zo_cX0_readRectangle_0 51 rfl
theorem dX0_readRectangle_89 : decode cX0_readRectangle 89 = .ok (.invokestatic 22, 3) := zd_at zo_cX0_readRectangle_0 52 rfl
theorem dX0_readRectangle_92 : decode cX0_readRectangle 92 = .ok (.aload_n 0, 1) := zd_at zo_cX0_readRectangle_0 53 rfl
theorem dX0_readRectangle_93 : decode cX0_readRectangle 93 = .ok (.getfield 15, 3) := zd_at zo_cX0_readRectangle_0 54 rfl
theorem dX0_readRectangle_96 : decode cX0_readRectangle 96 = .ok (.iload 5, 2) := zd_at zo_cX0_readRectangle_0 55 rfl
theorem dX0_readRectangle_98 : decode cX0_readRectangle 98 = .ok (.iconst 2, 1) := zd_at zo_cX0_readRectangle_0 56 rfl
theorem dX0_readRectangle_99 : decode cX0_readRectangle 99 = .ok (.iadd, 1) := zd_at zo_cX0_readRectangle_0 57 rfl
theorem dX0_readRectangle_100 : decode cX0_readRectangle 100 = .ok (.iload_n 1, 1) := zd_at zo_cX0_readRectangle_0 58 rfl
theorem dX0_readRectangle_101 : decode cX0_readRectangle 101 = .ok (.iload_n 3, 1) := zd_at zo_cX0_readRectangle_0 59 rfl
theorem dX0_readRectangle_102 : decode cX0_readRectangle 102 = .ok (.iadd, 1) := zd_at zo_cX0_readRectangle_0 60 rfl
theorem dX0_readRectangle_103 : decode cX0_readRectangle 103 = .ok (.iconst 1, 1) := zd_at zo_cX0_readRectangle_0 61 rfl
theorem dX0_readRectangle_104 : decode cX0_readRectangle 104 = .ok (.isub, 1) := zd_at zo_cX0_readRectangle_0 62 rfl
theorem dX0_readRectangle_105 : decode cX0_readRectangle 105 = .ok (.invokestatic 22, 3) := zd_at zo_cX0_readRectangle_0 63 rfl
theorem dX0_readRectangle_108 : decode cX0_readRectangle 108 = .ok (.aload_n 0, 1) := zd_at zo_cX0_readRectangle_0 64 rfl
theorem dX0_readRectangle_109 : decode cX0_readRectangle 109 = .ok (.getfield 15, 3) := zd_at zo_cX0_readRectangle_0 65 rfl
theorem dX0_readRectangle_112 : decode cX0_readRectangle 112 = .ok (.iload 5, 2) := zd_at zo_cX0_readRectangle_0 66 rfl
theorem dX0_readRectangle_114 : decode cX0_readRectangle 114 = .ok (.iconst 3, 1) := zd_at zo_cX0_readRectangle_0 67 rfl
theorem dX0_readRectangle_115 : decode cX0_readRectangle 115 = .ok (.iadd, 1) := zd_at zo_cX0_readRectangle_0 68 rfl
theorem dX0_readRectangle_116 : decode cX0_readRectangle 116 = .ok (.iload_n 2, 1) := zd_at zo_cX0_readRectangle_0 69 rfl
theorem dX0_readRectangle_117 : decode cX0_readRectangle 117 = .ok (.iload 4, 2) := zd_at zo_cX0_readRectangle_0 70 rfl
theorem dX0_readRectangle_119 : decode cX0_readRectangle 119 = .ok (.iadd, 1) := zd_at zo_cX0_readRectangle_0 71 rfl
theorem dX0_readRectangle_120 : decode cX0_readRectangle 120 = .ok (.iconst 1, 1) := zd_at zo_cX0_readRectangle_0 72 rfl
theorem dX0_readRectangle_121 : decode cX0_readRectangle 121 = .ok (.isub, 1) := zd_at zo_cX0_readRectangle_0 73 rfl
theorem dX0_readRectangle_122 : decode cX0_readRectangle 122 = .ok (.invokestatic 22, 3) := zd_at zo_cX0_readRectangle_0 74 rfl
theorem dX0_readRectangle_125 : decode cX0_readRectangle 125 = .ok (.aload_n 0, 1) := zd_at zo_cX0_readRectangle_0 75 rfl
theorem dX0_readRectangle_126 : decode cX0_readRectangle 126 = .ok (.dup, 1) := zd_at zo_cX0_readRectangle_0 76 rfl
theorem dX0_readRectangle_127 : decode cX0_readRectangle 127 = .ok (.getfield 33, 3) := zd_at zo_cX0_readRectangle_0 77 rfl
theorem dX0_readRectangle_130 : decode cX0_readRectangle 130 = .ok (.iconst 1, 1) := zd_at zo_cX0_readRectangle_0 78 rfl
theorem dX0_readRectangle_131 : decode cX0_readRectangle 131 = .ok (.iadd, 1) := zd_at zo_cX0_readRectangle_0 79 rfl
theorem dX0_readRectangle_132 : decode cX0_readRectangle 132 = .ok (.putfield 33, 3) := zd_at zo_cX0_readRectangle_0 80 rfl
theorem dX0_readRectangle_135 : decode cX0_readRectangle 135 = .ok (.return_, 1) := zd_at zo_cX0_readRectangle_0 81 rfl
def zl_cX0_expect_0 : List (Nat × Instr × Nat) := [(0, .aload_n 0, 1), (1, .getfield 36, 3), (4, .ifCond .ne 29, 3), (7, .aload_n 0, 1), (8, .getfield 30, 3), (11, .aload_n 0, 1), (12, .getfield 18, 3), (15, .if_icmp .ge 18, 3), (18, .aload_n 0, 1), (19, .getfield 9, 3), (22, .aload_n 0, 1), (23, .getfield 30, 3), (26, .invokestatic 26, 3), (29, .iload_n 1, 1), (30, .if_icmp .eq 11, 3), (33, .aload_n 0, 1), (34, .iconst 1, 1), (35, .putfield 36, 3), (38, .goto 13, 3), (41, .aload_n 0, 1), (42, .dup, 1), (43, .getfield 30, 3), (46, .iconst 1, 1), (47, .iadd, 1), (48, .putfield 30, 3), (51, .return_, 1)]
theorem zo_cX0_expect_0 : zd_ok cX0_expect zl_cX0_expect_0 = true := by decide +kernel
theorem dX0_expect_0 : decode cX0_expect 0 = .ok (.aload_n 0, 1) := zd_at zo_cX0_expect_0 0 rfl
theorem dX0_expect_1 : decode cX0_expect 1 = .ok (.getfield 36, 3) := zd_at zo_cX0_expect_0 1 rfl
theorem dX0_expect_4 : decode cX0_expect 4 = .ok (.ifCond .ne 29, 3) := zd_at zo_cX0_expect_0 2 rfl
theorem dX0_expect_7 : decode cX0_expect 7 = .ok (.aload_n 0, 1) := zd_at zo_cX0_expect_0 3 rfl
theorem dX0_expect_8 : decode cX0_expect 8 = .ok (.getfield 30, 3) := zd_at zo_cX0_expect_0 4 rfl
theorem dX0_expect_11 : decode cX0_expect 11 = .ok (.aload_n 0, 1) := zd_at zo_cX0_expect_0 5 rfl
theorem dX0_expect_12 : decode cX0_expect 12 = .ok (.getfield 18, 3) := zd_at zo_cX0_expect_0 6 rfl
theorem dX0_expect_15 : decode cX0_expect 15 = .ok (.if_icmp .ge 18, 3) := zd_at zo_cX0_expect_0 7 rfl
theorem dX0_expect_18 : decode cX0_expect 18 = .ok (.aload_n 0, 1) := zd_at zo_cX0_expect_0 8 rfl
theorem dX0_expect_19 : decode cX0_expect 19 = .ok (.getfield 9, 3) := zd_at zo_cX0_expect_0 9 rfl
theorem dX0_expect_22 : decode cX0_expect 22 = .ok (.aload_n 0, 1) := zd_at zo_cX0_expect_0 10 rfl
theorem dX0_expect_23 : decode cX0_expect 23 = .ok (.getfield 30, 3) := zd_at zo_cX0_expect_0 11 rfl
theorem dX0_expect_26 : decode cX0_expect 26 = .ok (.invokestatic 26, 3) := zd_at zo_cX0_expect_0 12 rfl
theorem dX0_expect_29 : decode cX0_expect 29 = .ok (.iload_n 1, 1) := zd_at zo_cX0_expect_0 13 rfl
theorem dX0_expect_30 : decode cX0_expect 30 = .ok (.if_icmp .eq 11, 3) := zd_at zo_cX0_expect_0 14 rfl
theorem dX0_expect_33 : decode cX0_expect 33 = .ok (.aload_n 0, 1) := zd_at zo_cX0_expect_0 15 rfl
theorem dX0_expect_34 : decode cX0_expect 34 = .ok (.iconst 1, 1) := zd_at zo_cX0_expect_0 16 rfl
theorem dX0_expect_35 : decode cX0_expect 35 = .ok (.putfield 36, 3) := zd_at zo_cX0_expect_0 17 rfl
theorem dX0_expect_38 : decode cX0_expect 38 = .ok (.goto 13, 3) := zd_at zo_cX0_expect_0 18 rfl
theorem dX0_expect_41 : decode cX0_expect 41 = .ok (.aload_n 0, 1) := zd_at zo_cX0_expect_0 19 rfl
theorem dX0_expect_42 : decode cX0_expect 42 = .ok (.dup, 1) := zd_at zo_cX0_expect_0 20 rfl
theorem dX0_expect_43 : decode cX0_expect 43 = .ok (.getfield 30, 3) := zd_at zo_cX0_expect_0 21 rfl
theorem dX0_expect_46 : decode cX0_expect 46 = .ok (.iconst 1, 1) := zd_at zo_cX0_expect_0 22 rfl
theorem dX0_expect_47 : decode cX0_expect 47 = .ok (.iadd, 1) := zd_at zo_cX0_expect_0 23 rfl
theorem dX0_expect_48 : decode cX0_expect 48 = .ok (.putfield 30, 3) := zd_at zo_cX0_expect_0 24 rfl
theorem dX0_expect_51 : decode cX0_expect 51 = .ok (.return_, 1) := zd_at zo_cX0_expect_0 25 rfl
def zl_cX0_readNumber_0 : List (Nat × Instr × Nat) := [(0, .iconst 0, 1), (1, .istore_n 3, 1), (2, .iconst 0, 1), (3, .istore 4, 2), (5, .aload_n 0, 1), (6, .getfield 36, 3), (9, .ifCond .ne 94, 3), (12, .aload_n 0, 1), (13, .getfield 30, 3), (16, .aload_n 0, 1), (17, .getfield 18, 3), (20, .if_icmp .ge 83, 3), (23, .iload 4, 2), (25, .ifCond .eq 7, 3), (28, .iload_n 3, 1), (29, .ifCond .le 74, 3), (32, .aload_n 0, 1), (33, .getfield 9, 3), (36, .aload_n 0, 1), (37, .getfield 30, 3), (40, .invokestatic 26, 3), (43, .bipush 48, 2), (45, .isub, 1), (46, .istore 5, 2), (48, .iload_n 3, 1), (49, .bipush 10, 2), (51, .imul, 1), (52, .iload 5, 2), (54, .iadd, 1), (55, .istore 6, 2), (57, .iload 5, 2), (59, .ifCond .lt 44, 3), (62, .iload 5, 2), (64, .bipush 9, 2), (66, .if_icmp .gt 37, 3), (69, .iload 6, 2), (71, .iload_n 1, 1), (72, .if_icmp .lt 31, 3), (75, .iload 6, 2), (77, .iload_n 2, 1), (78, .if_icmp .le 6, 3), (81, .goto 22, 3), (84, .iload 6, 2), (86, .istore_n 3, 1), (87, .iinc 4 1, 3), (90, .aload_n 0, 1), (91, .dup, 1), (92, .getfield 30, 3), (95, .iconst 1, 1), (96, .iadd, 1), (97, .putfield 30, 3), (100, .goto (-95), 3), (103, .iload 4, 2), (105, .ifCond .ne 8, 3), (108, .aload_n 0, 1), (109, .iconst 1, 1), (110, .putfield 36, 3), (113, .iload_n 3, 1), (114, .ireturn, 1)]
theorem zo_cX0_readNumber_0 : zd_ok cX0_readNumber zl_cX0_readNumber_0 = true := by decide +kernel
theorem dX0_readNumber_0 : decode cX0_readNumber 0 = .ok (.iconst 0, 1) := zd_at zo_cX0_readNumber_0 0 rfl
theorem dX0_readNumber_1 : decode cX0_readNumber 1 = .ok (.istore_n 3, 1) := zd_at zo_cX0_readNumber_0 1 rfl
theorem dX0_readNumber_2 : decode cX0_readNumber 2 = .ok (.iconst 0, 1) := zd_at zo_cX0_readNumber_0 2 rfl
theorem dX0_readNumber_3 : decode cX0_readNumber 3 = .ok (.istore 4, 2) := zd_at zo_cX0_readNumber_0 3 rfl
theorem dX0_readNumber_5 : decode cX0_readNumber 5 = .ok (.aload_n 0, 1) := zd_at zo_cX0_readNumber_0 4 rfl
theorem dX0_readNumber_6 : decode cX0_readNumber 6 = .ok (.getfield 36, 3) := zd_at zo_cX0_readNumber_0 5 rfl
theorem dX0_readNumber_9 : decode cX0_readNumber 9 = .ok (.ifCond .ne 94, 3) := zd_at zo_cX0_readNumber_0 6 rfl
theorem dX0_readNumber_12 : decode cX0_readNumber 12 = .ok (.aload_n 0, 1) := zd_at zo_cX0_readNumber_0 7 rfl
theorem dX0_readNumber_13 : decode cX0_readNumber 13 = .ok (.getfield 30, 3) := zd_at zo_cX0_readNumber_0 8 rfl
theorem dX0_readNumber_16 : decode cX0_readNumber 16 = .ok (.aload_n 0, 1) := zd_at zo_cX0_readNumber_0 9 rfl
theorem dX0_readNumber_17 : decode cX0_readNumber 17 = .ok (.getfield 18, 3) := zd_at zo_cX0_readNumber_0 10 rfl
theorem dX0_readNumber_20 : decode cX0_readNumber 20 = .ok (.if_icmp .ge 83, 3) := zd_at zo_cX0_readNumber_0 11 rfl
theorem dX0_readNumber_23 : decode cX0_readNumber 23 = .ok (.iload 4, 2) := zd_at zo_cX0_readNumber_0 12 rfl
theorem dX0_readNumber_25 : decode cX0_readNumber 25 = .ok (.ifCond .eq 7, 3) := zd_at zo_cX0_readNumber_0 13 rfl
theorem dX0_readNumber_28 : decode cX0_readNumber 28 = .ok (.iload_n 3, 1) := zd_at zo_cX0_readNumber_0 14 rfl
theorem dX0_readNumber_29 : decode cX0_readNumber 29 = .ok (.ifCond .le 74, 3) := zd_at zo_cX0_readNumber_0 15 rfl
theorem dX0_readNumber_32 : decode cX0_readNumber 32 = .ok (.aload_n 0, 1) := zd_at zo_cX0_readNumber_0 16 rfl
theorem dX0_readNumber_33 : decode cX0_readNumber 33 = .ok (.getfield 9, 3) := zd_at zo_cX0_readNumber_0 17 rfl
theorem dX0_readNumber_36 : decode cX0_readNumber 36 = .ok (.aload_n 0, 1) := zd_at zo_cX0_readNumber_0 18 rfl
theorem dX0_readNumber_37 : decode cX0_readNumber 37 = .ok (.getfield 30, 3) := zd_at zo_cX0_readNumber_0 19 rfl
theorem dX0_readNumber_40 : decode cX0_readNumber 40 = .ok (.invokestatic 26, 3) := zd_at zo_cX0_readNumber_0 20 rfl
theorem dX0_readNumber_43 : decode cX0_readNumber 43 = .ok (.bipush 48, 2) := zd_at zo_cX0_readNumber_0 21 rfl
theorem dX0_readNumber_45 : decode cX0_readNumber 45 = .ok (.isub, 1) := zd_at zo_cX0_readNumber_0 22 rfl
theorem dX0_readNumber_46 : decode cX0_readNumber 46 = .ok (.istore 5, 2) := zd_at zo_cX0_readNumber_0 23 rfl
theorem dX0_readNumber_48 : decode cX0_readNumber 48 = .ok (.iload_n 3, 1) := zd_at zo_cX0_readNumber_0 24 rfl
theorem dX0_readNumber_49 : decode cX0_readNumber 49 = .ok (.bipush 10, 2) := zd_at zo_cX0_readNumber_0 25 rfl
theorem dX0_readNumber_51 : decode cX0_readNumber 51 = .ok (.imul, 1) := zd_at zo_cX0_readNumber_0 26 rfl
theorem dX0_readNumber_52 : decode cX0_readNumber 52 = .ok (.iload 5, 2) := zd_at zo_cX0_readNumber_0 27 rfl
theorem dX0_readNumber_54 : decode cX0_readNumber 54 = .ok (.iadd, 1) := zd_at zo_cX0_readNumber_0 28 rfl
theorem dX0_readNumber_55 : decode cX0_readNumber 55 = .ok (.istore 6, 2) := zd_at zo_cX0_readNumber_0 29 rfl
theorem dX0_readNumber_57 : decode cX0_readNumber 57 = .ok (.iload 5, 2) := zd_at zo_cX0_readNumber_0 30 rfl
theorem dX0_readNumber_59 : decode cX0_readNumber 59 = .ok (.ifCond .lt 44, 3) := zd_at zo_cX0_readNumber_0 31 rfl
theorem dX0_readNumber_62 : decode cX0_readNumber 62 = .ok (.iload 5, 2) := zd_at zo_cX0_readNumber_0 32 rfl
theorem dX0_readNumber_64 : decode cX0_readNumber 64 = .ok (.bipush 9, 2) := zd_at zo_cX0_readNumber_0 33 rfl
theorem dX0_readNumber_66 : decode cX0_readNumber 66 = .ok (.if_icmp .gt 37, 3) := zd_at zo_cX0_readNumber_0 34 rfl
theorem dX0_readNumber_69 : decode cX0_readNumber 69 = .ok (.iload 6, 2) := zd_at zo_cX0_readNumber_0 35 rfl
theorem dX0_readNumber_71 : decode cX0_readNumber 71 = .ok (.iload_n 1, 1) := zd_at zo_cX0_readNumber_0 36 rfl
theorem dX0_readNumber_72 : decode cX0_readNumber 72 = .ok (.if_icmp .lt 31, 3) := zd_at zo_cX0_readNumber_0 37 rfl
theorem dX0_readNumber_75 : decode cX0_readNumber 75 = .ok (.iload 6, 2) := zd_at zo_cX0_readNumber_0 38 rfl
theorem dX0_readNumber_77 : decode cX0_readNumber 77 = .ok (.iload_n 2, 1) := zd_at zo_cX0_readNumber_0 39 rfl
theorem dX0_readNumber_78 : decode cX0_readNumber 78 = .ok (.if_icmp .le 6, 3) := zd_at zo_cX0_readNumber_0 40 rfl
theorem dX0_readNumber_81 : decode cX0_readNumber 81 = .ok (.goto 22, 3) := zd_at zo_cX0_readNumber_0 41 rfl
theorem dX0_readNumber_84 : decode cX0_readNumber 84 = .ok (.iload 6, 2) := zd_at zo_cX0_readNumber_0 42 rfl
theorem dX0_readNumber_86 : decode cX0_readNumber 86 = .ok (.istore_n 3, 1) := zd_at zo_cX0_readNumber_0 43 rfl
theorem dX0_readNumber_87 : decode cX0_readNumber 87 = .ok (.iinc 4 1, 3) := zd_at zo_cX0_readNumber_0 44 rfl
theorem dX0_readNumber_90 : decode cX0_readNumber 90 = .ok (.aload_n 0, 1) := zd_at zo_cX0_readNumber_0 45 rfl
theorem dX0_readNumber_91 : decode cX0_readNumber 91 = .ok (.dup, 1) := zd_at zo_cX0_readNumber_0 46 rfl
theorem dX0_readNumber_92 : decode cX0_readNumber 92 = .ok (.getfield 30, 3) := zd_at zo_cX0_readNumber_0 47 rfl
theorem dX0_readNumber_95 : decode cX0_readNumber 95 = .ok (.iconst 1, 1) := zd_at zo_cX0_readNumber_0 48 rfl
theorem dX0_readNumber_96 : decode cX0_readNumber 96 = .ok (.iadd, 1) := zd_at zo_cX0_readNumber_0 49 rfl
theorem dX0_readNumber_97 : decode cX0_readNumber 97 = .ok (.putfield 30, 3) := zd_at zo_cX0_readNumber_0 50 rfl
theorem dX0_readNumber_100 : decode cX0_readNumber 100 = .ok (.goto (-95), 3) := zd_at zo_cX0_readNumber_0 51 rfl
theorem dX0_readNumber_103 : decode cX0_readNumber 103 = .ok (.iload 4, 2) := zd_at zo_cX0_readNumber_0 52 rfl
theorem dX0_readNumber_105 : decode cX0_readNumber 105 = .ok (.ifCond .ne 8, 3) := zd_at zo_cX0_readNumber_0 53 rfl
theorem dX0_readNumber_108 : decode cX0_readNumber 108 = .ok (.aload_n 0, 1) := zd_at zo_cX0_readNumber_0 54 rfl
theorem dX0_readNumber_109 : decode cX0_readNumber 109 = .ok (.iconst 1, 1) := zd_at zo_cX0_readNumber_0 55 rfl
theorem dX0_readNumber_110 : decode cX0_readNumber 110 = .ok (.putfield 36, 3) := zd_at zo_cX0_readNumber_0 56 rfl
theorem dX0_readNumber_113 : decode cX0_readNumber 113 = .ok (.iload_n 3, 1) := zd_at zo_cX0_readNumber_0 57 rfl
theorem dX0_readNumber_114 : decode cX0_readNumber 114 = .ok (.ireturn, 1) := zd_at zo_cX0_readNumber_0 58 rfl
def zl_cX1_init_0 : List (Nat × Instr × Nat) := [(0, .aload_n 0, 1), (1, .invokespecial 3, 3), (4, .aload_n 0, 1), (5, .sipush 196, 3), (8, .newarray .int, 2), (10, .putfield 9, 3), (13, .aload_n 0, 1), (14, .bipush 49, 2), (16, .newarray .int, 2), (18, .putfield 15, 3), (21, .aload_n 0, 1), (22, .bipush 49, 2), (24, .newarray .int, 2), (26, .putfield 18, 3), (29, .aload_n 0, 1), (30, .bipush 49, 2), (32, .newarray .int, 2), (34, .putfield 21, 3), (37, .aload_n 0, 1), (38, .sipush 245, 3), (41, .newarray .int, 2), (43, .putfield 24, 3), (46, .aload_n 0, 1), (47, .bipush 8, 2), (49, .newarray .int, 2), (51, .putfield 27, 3), (54, .aload_n 0, 1), (55, .bipush 8, 2), (57, .newarray .int, 2), (59, .putfield 30, 3), (62, .aload_n 0, 1), (63, .iconst 5, 1), (64, .newarray .int, 2), (66, .putfield 33, 3), (69, .aload_n 0, 1), (70, .bipush 24, 2), (72, .newarray .int, 2), (74, .putfield 36, 3), (77, .aload_n 0, 1), (78, .bipush 24, 2), (80, .newarray .int, 2), (82, .putfield 39, 3), (85, .aload_n 0, 1), (86, .invokevirtual 42, 3), (89, .return_, 1)]
theorem zo_cX1_init_0 : zd_ok cX1_init zl_cX1_init_0 = true := by decide +kernel
theorem dX1_init_0 : decode cX1_init 0 = .ok (.aload_n 0, 1) := zd_at zo_cX1_init_0 0 rfl
theorem dX1_init_1 : decode cX1_init 1 = .ok (.invokespecial 3, 3) := zd_at zo_cX1_init_0 1 rfl
theorem dX1_init_4 : decode cX1_init 4 = .ok (.aload_n 0, 1) := zd_at zo_cX1_init_0 2 rfl
theorem dX1_init_5 : decode cX1_init 5 = .ok (.sipush 196, 3) := zd_at zo_cX1_init_0 3 rfl
theorem dX1_init_8 : decode cX1_init 8 = .ok (.newarray .int, 2) := zd_at zo_cX1_init_0 4 rfl
theorem dX1_init_10 : decode cX1_init 10 = .ok (.putfield 9, 3) := zd_at zo_cX1_init_0 5 rfl
theorem dX1_init_13 : decode cX1_init 13 = .ok (.aload_n 0, 1) := zd_at zo_cX1_init_0 6 rfl
theorem dX1_init_14 : decode cX1_init 14 = .ok (.bipush 49, 2) := zd_at zo_cX1_init_0 7 rfl
theorem dX1_init_16 : decode cX1_init 16 = .ok (.newarray .int, 2) := zd_at zo_cX1_init_0 8 rfl
theorem dX1_init_18 : decode cX1_init 18 = .ok (.putfield 15, 3) := zd_at zo_cX1_init_0 9 rfl
theorem dX1_init_21 : decode cX1_init 21 = .ok (.aload_n 0, 1) := zd_at zo_cX1_init_0 10 rfl
theorem dX1_init_22 : decode cX1_init 22 = .ok (.bipush 49, 2) := zd_at zo_cX1_init_0 11 rfl
theorem dX1_init_24 : decode cX1_init 24 = .ok (.newarray .int, 2) := zd_at zo_cX1_init_0 12 rfl
theorem dX1_init_26 : decode cX1_init 26 = .ok (.putfield 18, 3) := zd_at zo_cX1_init_0 13 rfl
theorem dX1_init_29 : decode cX1_init 29 = .ok (.aload_n 0, 1) := zd_at zo_cX1_init_0 14 rfl
theorem dX1_init_30 : decode cX1_init 30 = .ok (.bipush 49, 2) := zd_at zo_cX1_init_0 15 rfl
theorem dX1_init_32 : decode cX1_init 32 = .ok (.newarray .int, 2) := zd_at zo_cX1_init_0 16 rfl
theorem dX1_init_34 : decode cX1_init 34 = .ok (.putfield 21, 3) := zd_at zo_cX1_init_0 17 rfl
theorem dX1_init_37 : decode cX1_init 37 = .ok (.aload_n 0, 1) := zd_at zo_cX1_init_0 18 rfl
theorem dX1_init_38 : decode cX1_init 38 = .ok (.sipush 245, 3) := zd_at zo_cX1_init_0 19 rfl
theorem dX1_init_41 : decode cX1_init 41 = .ok (.newarray .int, 2) := zd_at zo_cX1_init_0 20 rfl
theorem dX1_init_43 : decode cX1_init 43 = .ok (.putfield 24, 3) := zd_at zo_cX1_init_0 21 rfl
theorem dX1_init_46 : decode cX1_init 46 = .ok (.aload_n 0, 1) := zd_at zo_cX1_init_0 22 rfl
theorem dX1_init_47 : decode cX1_init 47 = .ok (.bipush 8, 2) := zd_at zo_cX1_init_0 23 rfl
theorem dX1_init_49 : decode cX1_init 49 = .ok (.newarray .int, 2) := zd_at zo_cX1_init_0 24 rfl
theorem dX1_init_51 : decode cX1_init 51 = .ok (.putfield 27, 3) := zd_at zo_cX1_init_0 25 rfl
theorem dX1_init_54 : decode cX1_init 54 = .ok (.aload_n 0, 1) := zd_at zo_cX1_init_0 26 rfl
theorem dX1_init_55 : decode cX1_init 55 = .ok (.bipush 8, 2) := zd_at zo_cX1_init_0 27 rfl
theorem dX1_init_57 : decode cX1_init 57 = .ok (.newarray .int, 2) := zd_at zo_cX1_init_0 28 rfl
theorem dX1_init_59 : decode cX1_init 59 = .ok (.putfield 30, 3) := zd_at zo_cX1_init_0 29 rfl
theorem dX1_init_62 : decode cX1_init 62 = .ok (.aload_n 0, 1) := zd_at zo_cX1_init_0 30 rfl
theorem dX1_init_63 : decode cX1_init 63 = .ok (.iconst 5, 1) := zd_at zo_cX1_init_0 31 rfl
theorem dX1_init_64 : decode cX1_init 64 = .ok (.newarray .int, 2) := zd_at zo_cX1_init_0 32 rfl
theorem dX1_init_66 : decode cX1_init 66 = .ok (.putfield 33, 3) := zd_at zo_cX1_init_0 33 rfl
theorem dX1_init_69 : decode cX1_init 69 = .ok (.aload_n 0, 1) := zd_at zo_cX1_init_0 34 rfl
theorem dX1_init_70 : decode cX1_init 70 = .ok (.bipush 24, 2) := zd_at zo_cX1_init_0 35 rfl
theorem dX1_init_72 : decode cX1_init 72 = .ok (.newarray .int, 2) := zd_at zo_cX1_init_0 36 rfl
theorem dX1_init_74 : decode cX1_init 74 = .ok (.putfield 36, 3) := zd_at zo_cX1_init_0 37 rfl
theorem dX1_init_77 : decode cX1_init 77 = .ok (.aload_n 0, 1) := zd_at zo_cX1_init_0 38 rfl
theorem dX1_init_78 : decode cX1_init 78 = .ok (.bipush 24, 2) := zd_at zo_cX1_init_0 39 rfl
theorem dX1_init_80 : decode cX1_init 80 = .ok (.newarray .int, 2) := zd_at zo_cX1_init_0 40 rfl
theorem dX1_init_82 : decode cX1_init 82 = .ok (.putfield 39, 3) := zd_at zo_cX1_init_0 41 rfl
theorem dX1_init_85 : decode cX1_init 85 = .ok (.aload_n 0, 1) := zd_at zo_cX1_init_0 42 rfl
theorem dX1_init_86 : decode cX1_init 86 = .ok (.invokevirtual 42, 3) := zd_at zo_cX1_init_0 43 rfl
theorem dX1_init_89 : decode cX1_init 89 = .ok (.return_, 1) := zd_at zo_cX1_init_0 44 rfl
def zl_cX1_clear_0 : List (Nat × Instr × Nat) := [(0, .iconst 0, 1), (1, .istore_n 1, 1), (2, .iload_n 1, 1), (3, .bipush 49, 2), (5, .if_icmp .ge 47, 3), (8, .aload_n 0, 1), (9, .getfield 15, 3), (12, .iload_n 1, 1), (13, .iload_n 1, 1), (14, .bipush 24, 2), (16, .if_icmp .ge 7, 3), (19, .iconst (-1), 1), (20, .goto 5, 3), (23, .bipush (-2), 2), (25, .invokestatic 45, 3), (28, .aload_n 0, 1), (29, .getfield 18, 3), (32, .iload_n 1, 1), (33, .iconst (-1), 1), (34, .invokestatic 45, 3), (37, .aload_n 0, 1), (38, .getfield 21, 3), (41, .iload_n 1, 1), (42, .iconst 0, 1), (43, .invokestatic 45, 3), (46, .iinc 1 1, 3), (49, .goto (-47), 3), (52, .aload_n 0, 1), (53, .iconst 0, 1), (54, .putfield 49, 3), (57, .aload_n 0, 1), (58, .iconst 0, 1), (59, .putfield 53, 3), (62, .aload_n 0, 1), (63, .iconst 0, 1), (64, .putfield 56, 3), (67, .aload_n 0, 1), (68, .aload_n 0, 1), (69, .iconst 0, 1), (70, .invokevirtual 59, 3), (73, .putfield 63, 3), (76, .return_, 1)]
theorem zo_cX1_clear_0 : zd_ok cX1_clear zl_cX1_clear_0 = true := by decide +kernel
theorem dX1_clear_0 : decode cX1_clear 0 = .ok (.iconst 0, 1) := zd_at zo_cX1_clear_0 0 rfl
theorem dX1_clear_1 : decode cX1_clear 1 = .ok (.istore_n 1, 1) := zd_at zo_cX1_clear_0 1 rfl
theorem dX1_clear_2 : decode cX1_clear 2 = .ok (.iload_n 1, 1) := zd_at zo_cX1_clear_0 2 rfl
theorem dX1_clear_3 : decode cX1_clear 3 = .ok (.bipush 49, 2) := zd_at zo_cX1_clear_0 3 rfl
theorem dX1_clear_5 : decode cX1_clear 5 = .ok (.if_icmp .ge 47, 3) := zd_at zo_cX1_clear_0 4 rfl
theorem dX1_clear_8 : decode cX1_clear 8 = .ok (.aload_n 0, 1) := zd_at zo_cX1_clear_0 5 rfl
theorem dX1_clear_9 : decode cX1_clear 9 = .ok (.getfield 15, 3) := zd_at zo_cX1_clear_0 6 rfl
theorem dX1_clear_12 : decode cX1_clear 12 = .ok (.iload_n 1, 1) := zd_at zo_cX1_clear_0 7 rfl
theorem dX1_clear_13 : decode cX1_clear 13 = .ok (.iload_n 1, 1) := zd_at zo_cX1_clear_0 8 rfl
theorem dX1_clear_14 : decode cX1_clear 14 = .ok (.bipush 24, 2) := zd_at zo_cX1_clear_0 9 rfl
theorem dX1_clear_16 : decode cX1_clear 16 = .ok (.if_icmp .ge 7, 3) := zd_at zo_cX1_clear_0 10 rfl
theorem dX1_clear_19 : decode cX1_clear 19 = .ok (.iconst (-1), 1) := zd_at zo_cX1_clear_0 11 rfl
theorem dX1_clear_20 : decode cX1_clear 20 = .ok (.goto 5, 3) := zd_at zo_cX1_clear_0 12 rfl
theorem dX1_clear_23 : decode cX1_clear 23 = .ok (.bipush (-2), 2) := zd_at zo_cX1_clear_0 13 rfl
theorem dX1_clear_25 : decode cX1_clear 25 = .ok (.invokestatic 45, 3) := zd_at zo_cX1_clear_0 14 rfl
theorem dX1_clear_28 : decode cX1_clear 28 = .ok (.aload_n 0, 1) := zd_at zo_cX1_clear_0 15 rfl
theorem dX1_clear_29 : decode cX1_clear 29 = .ok (.getfield 18, 3) := zd_at zo_cX1_clear_0 16 rfl
theorem dX1_clear_32 : decode cX1_clear 32 = .ok (.iload_n 1, 1) := zd_at zo_cX1_clear_0 17 rfl
theorem dX1_clear_33 : decode cX1_clear 33 = .ok (.iconst (-1), 1) := zd_at zo_cX1_clear_0 18 rfl
theorem dX1_clear_34 : decode cX1_clear 34 = .ok (.invokestatic 45, 3) := zd_at zo_cX1_clear_0 19 rfl
theorem dX1_clear_37 : decode cX1_clear 37 = .ok (.aload_n 0, 1) := zd_at zo_cX1_clear_0 20 rfl
theorem dX1_clear_38 : decode cX1_clear 38 = .ok (.getfield 21, 3) := zd_at zo_cX1_clear_0 21 rfl
theorem dX1_clear_41 : decode cX1_clear 41 = .ok (.iload_n 1, 1) := zd_at zo_cX1_clear_0 22 rfl
theorem dX1_clear_42 : decode cX1_clear 42 = .ok (.iconst 0, 1) := zd_at zo_cX1_clear_0 23 rfl
theorem dX1_clear_43 : decode cX1_clear 43 = .ok (.invokestatic 45, 3) := zd_at zo_cX1_clear_0 24 rfl
theorem dX1_clear_46 : decode cX1_clear 46 = .ok (.iinc 1 1, 3) := zd_at zo_cX1_clear_0 25 rfl
theorem dX1_clear_49 : decode cX1_clear 49 = .ok (.goto (-47), 3) := zd_at zo_cX1_clear_0 26 rfl
theorem dX1_clear_52 : decode cX1_clear 52 = .ok (.aload_n 0, 1) := zd_at zo_cX1_clear_0 27 rfl
theorem dX1_clear_53 : decode cX1_clear 53 = .ok (.iconst 0, 1) := zd_at zo_cX1_clear_0 28 rfl
theorem dX1_clear_54 : decode cX1_clear 54 = .ok (.putfield 49, 3) := zd_at zo_cX1_clear_0 29 rfl
theorem dX1_clear_57 : decode cX1_clear 57 = .ok (.aload_n 0, 1) := zd_at zo_cX1_clear_0 30 rfl
theorem dX1_clear_58 : decode cX1_clear 58 = .ok (.iconst 0, 1) := zd_at zo_cX1_clear_0 31 rfl
theorem dX1_clear_59 : decode cX1_clear 59 = .ok (.putfield 53, 3) := zd_at zo_cX1_clear_0 32 rfl
theorem dX1_clear_62 : decode cX1_clear 62 = .ok (.aload_n 0, 1) := zd_at zo_cX1_clear_0 33 rfl
theorem dX1_clear_63 : decode cX1_clear 63 = .ok (.iconst 0, 1) := zd_at zo_cX1_clear_0 34 rfl
theorem dX1_clear_64 : decode cX1_clear 64 = .ok (.putfield 56, 3) := zd_at zo_cX1_clear_0 35 rfl
theorem dX1_clear_67 : decode cX1_clear 67 = .ok (.aload_n 0, 1) := zd_at zo_cX1_clear_0 36 rfl
theorem dX1_clear_68 : decode cX1_clear 68 = .ok (.aload_n 0, 1) := zd_at zo_cX1_clear_0 37 rfl
theorem dX1_clear_69 : decode cX1_clear 69 = .ok (.iconst 0, 1) := zd_at zo_cX1_clear_0 38 rfl
theorem dX1_clear_70 : decode cX1_clear 70 = .ok (.invokevirtual 59, 3) := zd_at zo_cX1_clear_0 39 rfl
theorem dX1_clear_73 : decode cX1_clear 73 = .ok (.putfield 63, 3) := zd_at zo_cX1_clear_0 40 rfl
theorem dX1_clear_76 : decode cX1_clear 76 = .ok (.return_, 1) := zd_at zo_cX1_clear_0 41 rfl
def zl_cX1_takeOver_0 : List (Nat × Instr × Nat) := [(0, .aload_n 1, 1), (1, .ifnull 90, 3), (4, .aload_n 1, 1), (5, .getfield 9, 3), (8, .aload_n 0, 1), (9, .getfield 9, 3), (12, .invokestatic 66, 3), (15, .aload_n 1, 1), (16, .getfield 15, 3), (19, .aload_n 0, 1), (20, .getfield 15, 3), (23, .invokestatic 66, 3), (26, .aload_n 1, 1), (27, .getfield 18, 3), (30, .aload_n 0, 1), (31, .getfield 18, 3), (34, .invokestatic 66, 3), (37, .aload_n 1, 1), (38, .getfield 21, 3), (41, .aload_n 0, 1), (42, .getfield 21, 3), (45, .invokestatic 66, 3), (48, .aload_n 1, 1), (49, .getfield 24, 3), (52, .aload_n 0, 1), (53, .getfield 24, 3), (56, .invokestatic 66, 3), (59, .aload_n 0, 1), (60, .aload_n 1, 1), (61, .getfield 63, 3), (64, .putfield 63, 3), (67, .aload_n 0, 1), (68, .aload_n 1, 1), (69, .getfield 49, 3), (72, .putfield 49, 3), (75, .aload_n 0, 1), (76, .aload_n 1, 1), (77, .getfield 53, 3), (80, .putfield 53, 3), (83, .aload_n 0, 1), (84, .aload_n 1, 1), (85, .getfield 56, 3), (88, .putfield 56, 3), (91, .return_, 1)]
theorem zo_cX1_takeOver_0 : zd_ok cX1_takeOver zl_cX1_takeOver_0 = true := by decide +kernel
theorem dX1_takeOver_0 : decode cX1_takeOver 0 = .ok (.aload_n 1, 1) := zd_at zo_cX1_takeOver_0 0 rfl
theorem dX1_takeOver_1 : decode cX1_takeOver 1 = .ok (.ifnull 90, 3) := zd_at zo_cX1_takeOver_0 1 rfl
theorem dX1_takeOver_4 : decode cX1_takeOver 4 = .ok (.aload_n 1, 1) := zd_at zo_cX1_takeOver_0 2 rfl
theorem dX1_takeOver_5 : decode cX1_takeOver 5 = .ok (.getfield 9, 3) := zd_at zo_cX1_takeOver_0 3 rfl
theorem dX1_takeOver_8 : decode cX1_takeOver 8 = .ok (.aload_n 0, 1) := zd_at zo_cX1_takeOver_0 4 rfl
theorem dX1_takeOver_9 : decode cX1_takeOver 9 = .ok (.getfield 9, 3) := zd_at zo_cX1_takeOver_0 5 rfl
theorem dX1_takeOver_12 : decode cX1_takeOver 12 = .ok (.invokestatic 66, 3) := zd_at zo_cX1_takeOver_0 6 rfl
theorem dX1_takeOver_15 : decode cX1_takeOver 15 = .ok (.aload_n 1, 1) := zd_at zo_cX1_takeOver_0 7 rfl
theorem dX1_takeOver_16 : decode cX1_takeOver 16 = .ok (.getfield 15, 3) := zd_at zo_cX1_takeOver_0 8 rfl
theorem dX1_takeOver_19 : decode cX1_takeOver 19 = .ok (.aload_n 0, 1) := zd_at zo_cX1_takeOver_0 9 rfl
theorem dX1_takeOver_20 : decode cX1_takeOver 20 = .ok (.getfield 15, 3) := zd_at zo_cX1_takeOver_0 10 rfl
theorem dX1_takeOver_23 : decode cX1_takeOver 23 = .ok (.invokestatic 66, 3) := zd_at zo_cX1_takeOver_0 11 rfl
theorem dX1_takeOver_26 : decode cX1_takeOver 26 = .ok (.aload_n 1, 1) := zd_at zo_cX1_takeOver_0 12 rfl
theorem dX1_takeOver_27 : decode cX1_takeOver 27 = .ok (.getfield 18, 3) := zd_at zo_cX1_takeOver_0 13 rfl
theorem dX1_takeOver_30 : decode cX1_takeOver 30 = .ok (.aload_n 0, 1) := zd_at zo_cX1_takeOver_0 14 rfl
theorem dX1_takeOver_31 : decode cX1_takeOver 31 = .ok (.getfield 18, 3) := zd_at zo_cX1_takeOver_0 15 rfl
theorem dX1_takeOver_34 : decode cX1_takeOver 34 = .ok (.invokestatic 66, 3) := zd_at zo_cX1_takeOver_0 16 rfl
theorem dX1_takeOver_37 : decode cX1_takeOver 37 = .ok (.aload_n 1, 1) := zd_at zo_cX1_takeOver_0 17 rfl
theorem dX1_takeOver_38 : decode cX1_takeOver 38 = .ok (.getfield 21, 3) := zd_at zo_cX1_takeOver_0 18 rfl
theorem dX1_takeOver_41 : decode cX1_takeOver 41 = .ok (.aload_n 0, 1) := zd_at zo_cX1_takeOver_0 19 rfl
theorem dX1_takeOver_42 : decode cX1_takeOver 42 = .ok (.getfield 21, 3) := zd_at zo_cX1_takeOver_0 20 rfl
theorem dX1_takeOver_45 : decode cX1_takeOver 45 = .ok (.invokestatic 66, 3) := zd_at zo_cX1_takeOver_0 21 rfl
theorem dX1_takeOver_48 : decode cX1_takeOver 48 = .ok (.aload_n 1, 1) := zd_at zo_cX1_takeOver_0 22 rfl
theorem dX1_takeOver_49 : decode cX1_takeOver 49 = .ok (.getfield 24, 3) := zd_at zo_cX1_takeOver_0 23 rfl
theorem dX1_takeOver_52 : decode cX1_takeOver 52 = .ok (.aload_n 0, 1) := zd_at zo_cX1_takeOver_0 24 rfl
theorem dX1_takeOver_53 : decode cX1_takeOver 53 = .ok (.getfield 24, 3) := zd_at zo_cX1_takeOver_0 25 rfl
theorem dX1_takeOver_56 : decode cX1_takeOver 56 = .ok (.invokestatic 66, 3) := zd_at zo_cX1_takeOver_0 26 rfl
theorem dX1_takeOver_59 : decode cX1_takeOver 59 = .ok (.aload_n 0, 1) := zd_at zo_cX1_takeOver_0 27 rfl
theorem dX1_takeOver_60 : decode cX1_takeOver 60 = .ok (.aload_n 1, 1) := zd_at zo_cX1_takeOver_0 28 rfl
theorem dX1_takeOver_61 : decode cX1_takeOver 61 = .ok (.getfield 63, 3) := zd_at zo_cX1_takeOver_0 29 rfl
theorem dX1_takeOver_64 : decode cX1_takeOver 64 = .ok (.putfield 63, 3) := zd_at zo_cX1_takeOver_0 30 rfl
theorem dX1_takeOver_67 : decode cX1_takeOver 67 = .ok (.aload_n 0, 1) := zd_at zo_cX1_takeOver_0 31 rfl
theorem dX1_takeOver_68 : decode cX1_takeOver 68 = .ok (.aload_n 1, 1) := zd_at zo_cX1_takeOver_0 32 rfl
theorem dX1_takeOver_69 : decode cX1_takeOver 69 = .ok (.getfield 49, 3) := zd_at zo_cX1_takeOver_0 33 rfl
theorem dX1_takeOver_72 : decode cX1_takeOver 72 = .ok (.putfield 49, 3) := zd_at zo_cX1_takeOver_0 34 rfl
theorem dX1_takeOver_75 : decode cX1_takeOver 75 = .ok (.aload_n 0, 1) := zd_at zo_cX1_takeOver_0 35 rfl
theorem dX1_takeOver_76 : decode cX1_takeOver 76 = .ok (.aload_n 1, 1) := zd_at zo_cX1_takeOver_0 36 rfl
theorem dX1_takeOver_77 : decode cX1_takeOver 77 = .ok (.getfield 53, 3) := zd_at zo_cX1_takeOver_0 37 rfl
theorem dX1_takeOver_80 : decode cX1_takeOver 80 = .ok (.putfield 53, 3) := zd_at zo_cX1_takeOver_0 38 rfl
theorem dX1_takeOver_83 : decode cX1_takeOver 83 = .ok (.aload_n 0, 1) := zd_at zo_cX1_takeOver_0 39 rfl
theorem dX1_takeOver_84 : decode cX1_takeOver 84 = .ok (.aload_n 1, 1) := zd_at zo_cX1_takeOver_0 40 rfl
theorem dX1_takeOver_85 : decode cX1_takeOver 85 = .ok (.getfield 56, 3) := zd_at zo_cX1_takeOver_0 41 rfl
theorem dX1_takeOver_88 : decode cX1_takeOver 88 = .ok (.putfield 56, 3) := zd_at zo_cX1_takeOver_0 42 rfl
theorem dX1_takeOver_91 : decode cX1_takeOver 91 = .ok (.return_, 1) := zd_at zo_cX1_takeOver_0 43 rfl
def zl_cX1_corner_0 : List (Nat × Instr × Nat) := [(0, .aload_n 0, 1), (1, .getfield 9, 3), (4, .iload_n 1, 1), (5, .iconst 4, 1), (6, .imul, 1), (7, .iload_n 2, 1), (8, .iadd, 1), (9, .invokestatic 70, 3), (12, .ireturn, 1)]
theorem zo_cX1_corner_0 : zd_ok cX1_corner zl_cX1_corner_0 = true := by decide +kernel
theorem dX1_corner_0 : decode cX1_corner 0 = .ok (.aload_n 0, 1) := zd_at zo_cX1_corner_0 0 rfl
theorem dX1_corner_1 : decode cX1_corner 1 = .ok (.getfield 9, 3) := zd_at zo_cX1_corner_0 1 rfl
theorem dX1_corner_4 : decode cX1_corner 4 = .ok (.iload_n 1, 1) := zd_at zo_cX1_corner_0 2 rfl
theorem dX1_corner_5 : decode cX1_corner 5 = .ok (.iconst 4, 1) := zd_at zo_cX1_corner_0 3 rfl
theorem dX1_corner_6 : decode cX1_corner 6 = .ok (.imul, 1) := zd_at zo_cX1_corner_0 4 rfl
theorem dX1_corner_7 : decode cX1_corner 7 = .ok (.iload_n 2, 1) := zd_at zo_cX1_corner_0 5 rfl
theorem dX1_corner_8 : decode cX1_corner 8 = .ok (.iadd, 1) := zd_at zo_cX1_corner_0 6 rfl
theorem dX1_corner_9 : decode cX1_corner 9 = .ok (.invokestatic 70, 3) := zd_at zo_cX1_corner_0 7 rfl
theorem dX1_corner_12 : decode cX1_corner 12 = .ok (.ireturn, 1) := zd_at zo_cX1_corner_0 8 rfl
def zl_cX1_setBox_0 : List (Nat × Instr × Nat) := [(0, .iload_n 1, 1), (1, .iconst 4, 1), (2, .imul, 1), (3, .istore 6, 2), (5, .aload_n 0, 1), (6, .getfield 9, 3), (9, .iload 6, 2), (11, .iload_n 2, 1), (12, .invokestatic 45, 3), (15, .aload_n 0, 1), (16, .getfield 9, 3), (19, .iload 6, 2), (21, .iconst 1, 1), (22, .iadd, 1), (23, .iload_n 3, 1), (24, .invokestatic 45, 3), (27, .aload_n 0, 1), (28, .getfield 9, 3), (31, .iload 6, 2), (33, .iconst 2, 1), (34, .iadd, 1), (35, .iload 4, 2), (37, .invokestatic 45, 3), (40, .aload_n 0, 1), (41, .getfield 9, 3), (44, .iload 6, 2), (46, .iconst 3, 1), (47, .iadd, 1), (48, .iload 5, 2), (50, .invokestatic 45, 3), (53, .return_, 1)]
theorem zo_cX1_setBox_0 : zd_ok cX1_setBox zl_cX1_setBox_0 = true := by decide +kernel
theorem dX1_setBox_0 : decode cX1_setBox 0 = .ok (.iload_n 1, 1) := zd_at zo_cX1_setBox_0 0 rfl
theorem dX1_setBox_1 : decode cX1_setBox 1 = .ok (.iconst 4, 1) := zd_at zo_cX1_setBox_0 1 rfl
theorem dX1_setBox_2 : decode cX1_setBox 2 = .ok (.imul, 1) := zd_at zo_cX1_setBox_0 2 rfl
theorem dX1_setBox_3 : decode cX1_setBox 3 = .ok (.istore 6, 2) := zd_at zo_cX1_setBox_0 3 rfl
theorem dX1_setBox_5 : decode cX1_setBox 5 = .ok (.aload_n 0, 1) := zd_at zo_cX1_setBox_0 4 rfl
theorem dX1_setBox_6 : decode cX1_setBox 6 = .ok (.getfield 9, 3) := zd_at zo_cX1_setBox_0 5 rfl
theorem dX1_setBox_9 : decode cX1_setBox 9 = .ok (.iload 6, 2) := zd_at zo_cX1_setBox_0 6 rfl
theorem dX1_setBox_11 : decode cX1_setBox 11 = .ok (.iload_n 2, 1) := zd_at zo_cX1_setBox_0 7 rfl
theorem dX1_setBox_12 : decode cX1_setBox 12 = .ok (.invokestatic 45, 3) := zd_at zo_cX1_setBox_0 8 rfl
theorem dX1_setBox_15 : decode cX1_setBox 15 = .ok (.aload_n 0, 1) := zd_at zo_cX1_setBox_0 9 rfl
theorem dX1_setBox_16 : decode cX1_setBox 16 = .ok (.getfield 9, 3) := zd_at zo_cX1_setBox_0 10 rfl
theorem dX1_setBox_19 : decode cX1_setBox 19 = .ok (.iload 6, 2) := zd_at zo_cX1_setBox_0 11 rfl
theorem dX1_setBox_21 : decode cX1_setBox 21 = .ok (.iconst 1, 1) := zd_at zo_cX1_setBox_0 12 rfl
theorem dX1_setBox_22 : decode cX1_setBox 22 = .ok (.iadd, 1) := zd_at zo_cX1_setBox_0 13 rfl
theorem dX1_setBox_23 : decode cX1_setBox 23 = .ok (.iload_n 3, 1) := zd_at zo_cX1_setBox_0 14 rfl
theorem dX1_setBox_24 : decode cX1_setBox 24 = .ok (.invokestatic 45, 3) := zd_at zo_cX1_setBox_0 15 rfl
theorem dX1_setBox_27 : decode cX1_setBox 27 = .ok (.aload_n 0, 1) := zd_at zo_cX1_setBox_0 16 rfl
theorem dX1_setBox_28 : decode cX1_setBox 28 = .ok (.getfield 9, 3) := zd_at zo_cX1_setBox_0 17 rfl
theorem dX1_setBox_31 : decode cX1_setBox 31 = .ok (.iload 6, 2) := zd_at zo_cX1_setBox_0 18 rfl
theorem dX1_setBox_33 : decode cX1_setBox 33 = .ok (.iconst 2, 1) := zd_at zo_cX1_setBox_0 19 rfl
theorem dX1_setBox_34 : decode cX1_setBox 34 = .ok (.iadd, 1) := zd_at zo_cX1_setBox_0 20 rfl
theorem dX1_setBox_35 : decode cX1_setBox 35 = .ok (.iload 4, 2) := zd_at zo_cX1_setBox_0 21 rfl
theorem dX1_setBox_37 : decode cX1_setBox 37 = .ok (.invokestatic 45, 3) := zd_at zo_cX1_setBox_0 22 rfl
theorem dX1_setBox_40 : decode cX1_setBox 40 = .ok (.aload_n 0, 1) := zd_at zo_cX1_setBox_0 23 rfl
theorem dX1_setBox_41 : decode cX1_setBox 41 = .ok (.getfield 9, 3) := zd_at zo_cX1_setBox_0 24 rfl
theorem dX1_setBox_44 : decode cX1_setBox 44 = .ok (.iload 6, 2) := zd_at zo_cX1_setBox_0 25 rfl
theorem dX1_setBox_46 : decode cX1_setBox 46 = .ok (.iconst 3, 1) := zd_at zo_cX1_setBox_0 26 rfl
theorem dX1_setBox_47 : decode cX1_setBox 47 = .ok (.iadd, 1) := zd_at zo_cX1_setBox_0 27 rfl
theorem dX1_setBox_48 : decode cX1_setBox 48 = .ok (.iload 5, 2) := zd_at zo_cX1_setBox_0 28 rfl
theorem dX1_setBox_50 : decode cX1_setBox 50 = .ok (.invokestatic 45, 3) := zd_at zo_cX1_setBox_0 29 rfl
theorem dX1_setBox_53 : decode cX1_setBox 53 = .ok (.return_, 1) := zd_at zo_cX1_setBox_0 30 rfl
def zl_cX1_shiftBox_0 : List (Nat × Instr × Nat) := [(0, .aload_n 0, 1), (1, .iload_n 1, 1), (2, .aload_n 0, 1), (3, .iload_n 1, 1), (4, .iconst 0, 1), (5, .invokevirtual 74, 3), (8, .iload_n 2, 1), (9, .iadd, 1), (10, .aload_n 0, 1), (11, .iload_n 1, 1), (12, .iconst 1, 1), (13, .invokevirtual 74, 3), (16, .iload_n 3, 1), (17, .iadd, 1), (18, .aload_n 0, 1), (19, .iload_n 1, 1), (20, .iconst 2, 1), (21, .invokevirtual 74, 3), (24, .iload_n 2, 1), (25, .iadd, 1), (26, .aload_n 0, 1), (27, .iload_n 1, 1), (28, .iconst 3, 1), (29, .invokevirtual 74, 3), (32, .iload_n 3, 1), (33, .iadd, 1), (34, .invokevirtual 78, 3), (37, .return_, 1)]
theorem zo_cX1_shiftBox_0 : zd_ok cX1_shiftBox zl_cX1_shiftBox_0 = true := by decide +kernel
theorem dX1_shiftBox_0 : decode cX1_shiftBox 0 = .ok (.aload_n 0, 1) := zd_at zo_cX1_shiftBox_0 0 rfl
theorem dX1_shiftBox_1 : decode cX1_shiftBox 1 = .ok (.iload_n 1, 1) := zd_at zo_cX1_shiftBox_0 1 rfl
theorem dX1_shiftBox_2 : decode cX1_shiftBox 2 = .ok (.aload_n 0, 1) := zd_at zo_cX1_shiftBox_0 2 rfl
theorem dX1_shiftBox_3 : decode cX1_shiftBox 3 = .ok (.iload_n 1, 1) := zd_at zo_cX1_shiftBox_0 3 rfl
theorem dX1_shiftBox_4 : decode cX1_shiftBox 4 = .ok (.iconst 0, 1) := zd_at zo_cX1_shiftBox_0 4 rfl
theorem dX1_shiftBox_5 : decode cX1_shiftBox 5 = .ok (.invokevirtual 74, 3) := zd_at zo_cX1_shiftBox_0 5 rfl
theorem dX1_shiftBox_8 : decode cX1_shiftBox 8 = .ok (.iload_n 2, 1) := zd_at zo_cX1_shiftBox_0 6 rfl
theorem dX1_shiftBox_9 : decode cX1_shiftBox 9 = .ok (.iadd, 1) := zd_at zo_cX1_shiftBox_0 7 rfl
theorem dX1_shiftBox_10 : decode cX1_shiftBox 10 = .ok (.aload_n 0, 1) := zd_at zo_cX1_shiftBox_0 8 rfl
theorem dX1_shiftBox_11 : decode cX1_shiftBox 11 = .ok (.iload_n 1, 1) := zd_at zo_cX1_shiftBox_0 9 rfl
theorem dX1_shiftBox_12 : decode cX1_shiftBox 12 = .ok (.iconst 1, 1) := zd_at zo_cX1_shiftBox_0 10 rfl
theorem dX1_shiftBox_13 : decode cX1_shiftBox 13 = .ok (.invokevirtual 74, 3) := zd_at zo_cX1_shiftBox_0 11 rfl
theorem dX1_shiftBox_16 : decode cX1_shiftBox 16 = .ok (.iload_n 3, 1) := zd_at zo_cX1_shiftBox_0 12 rfl
theorem dX1_shiftBox_17 : decode cX1_shiftBox 17 = .ok (.iadd, 1) := zd_at zo_cX1_shiftBox_0 13 rfl
theorem dX1_shiftBox_18 : decode cX1_shiftBox 18 = .ok (.aload_n 0, 1) := zd_at zo_cX1_shiftBox_0 14 rfl
theorem dX1_shiftBox_19 : decode cX1_shiftBox 19 = .ok (.iload_n 1, 1) := zd_at zo_cX1_shiftBox_0 15 rfl
theorem dX1_shiftBox_20 : decode cX1_shiftBox 20 = .ok (.iconst 2, 1) := zd_at zo_cX1_shiftBox_0 16 rfl
theorem dX1_shiftBox_21 : decode cX1_shiftBox 21 = .ok (.invokevirtual 74, 3) := zd_at zo_cX1_shiftBox_0 17 rfl
theorem dX1_shiftBox_24 : decode cX1_shiftBox 24 = .ok (.iload_n 2, 1) := zd_at zo_cX1_shiftBox_0 18 rfl
theorem dX1_shiftBox_25 : decode cX1_shiftBox 25 = .ok (.iadd, 1) := zd_at zo_cX1_shiftBox_0 19 rfl
theorem dX1_shiftBox_26 : decode cX1_shiftBox 26 = .ok (.aload_n 0, 1) := zd_at zo_cX1_shiftBox_0 20 rfl
theorem dX1_shiftBox_27 : decode cX1_shiftBox 27 = .ok (.iload_n 1, 1) := zd_at zo_cX1_shiftBox_0 21 rfl
theorem dX1_shiftBox_28 : decode cX1_shiftBox 28 = .ok (.iconst 3, 1) := zd_at zo_cX1_shiftBox_0 22 rfl
theorem dX1_shiftBox_29 : decode cX1_shiftBox 29 = .ok (.invokevirtual 74, 3) := zd_at zo_cX1_shiftBox_0 23 rfl
theorem dX1_shiftBox_32 : decode cX1_shiftBox 32 = .ok (.iload_n 3, 1) := zd_at zo_cX1_shiftBox_0 24 rfl
theorem dX1_shiftBox_33 : decode cX1_shiftBox 33 = .ok (.iadd, 1) := zd_at zo_cX1_shiftBox_0 25 rfl
theorem dX1_shiftBox_34 : decode cX1_shiftBox 34 = .ok (.invokevirtual 78, 3) := zd_at zo_cX1_shiftBox_0 26 rfl
theorem dX1_shiftBox_37 : decode cX1_shiftBox 37 = .ok (.return_, 1) := zd_at zo_cX1_shiftBox_0 27 rfl
def zl_cX1_area_0 : List (Nat × Instr × Nat) := [(0, .iload_n 1, 1), (1, .iconst 4, 1), (2, .imul, 1), (3, .istore_n 2, 1), (4, .iload_n 2, 1), (5, .ifCond .lt 14, 3), (8, .iload_n 2, 1), (9, .aload_n 0, 1), (10, .getfield 9, 3), (13, .arraylength, 1), (14, .iconst 4, 1), (15, .isub, 1), (16, .if_icmp .le 5, 3), (19, .iconst 0, 1), (20, .ireturn, 1), (21, .aload_n 0, 1), (22, .getfield 9, 3), (25, .iload_n 2, 1), (26, .iconst 2, 1), (27, .iadd, 1), (28, .iaload, 1), (29, .aload_n 0, 1), (30, .getfield 9, 3), (33, .iload_n 2, 1), (34, .iaload, 1), (35, .isub, 1), (36, .iconst 1, 1), (37, .iadd, 1), (38, .aload_n 0, 1), (39, .getfield 9, 3), (42, .iload_n 2, 1), (43, .iconst 3, 1), (44, .iadd, 1), (45, .iaload, 1), (46, .aload_n 0, 1), (47, .getfield 9, 3), (50, .iload_n 2, 1), (51, .iconst 1, 1), (52, .iadd, 1), (53, .iaload, 1), (54, .isub, 1), (55, .iconst 1, 1), (56, .iadd, 1), (57, .imul, 1), (58, .ireturn, 1)]
theorem zo_cX1_area_0 : zd_ok cX1_area zl_cX1_area_0 = true := by decide +kernel
theorem dX1_area_0 : decode cX1_area 0 = .ok (.iload_n 1, 1) := zd_at zo_cX1_area_0 0 rfl
theorem dX1_area_1 : decode cX1_area 1 = .ok (.iconst 4, 1) := zd_at zo_cX1_area_0 1 rfl
theorem dX1_area_2 : decode cX1_area 2 = .ok (.imul, 1) := zd_at zo_cX1_area_0 2 rfl
theorem dX1_area_3 : decode cX1_area 3 = .ok (.istore_n 2, 1) := zd_at zo_cX1_area_0 3 rfl
theorem dX1_area_4 : decode cX1_area 4 = .ok (.iload_n 2, 1) := zd_at zo_cX1_area_0 4 rfl
theorem dX1_area_5 : decode cX1_area 5 = .ok (.ifCond .lt 14, 3) := zd_at zo_cX1_area_0 5 rfl
theorem dX1_area_8 : decode cX1_area 8 = .ok (.iload_n 2, 1) := zd_at zo_cX1_area_0 6 rfl
theorem dX1_area_9 : decode cX1_area 9 = .ok (.aload_n 0, 1) := zd_at zo_cX1_area_0 7 rfl
theorem dX1_area_10 : decode cX1_area 10 = .ok (.getfield 9, 3) := zd_at zo_cX1_area_0 8 rfl
theorem dX1_area_13 : decode cX1_area 13 = .ok (.arraylength, 1) := zd_at zo_cX1_area_0 9 rfl
theorem dX1_area_14 : decode cX1_area 14 = .ok (.iconst 4, 1) := zd_at zo_cX1_area_0 10 rfl
theorem dX1_area_15 : decode cX1_area 15 = .ok (.isub, 1) := zd_at zo_cX1_area_0 11 rfl
theorem dX1_area_16 : decode cX1_area 16 = .ok (.if_icmp .le 5, 3) := zd_at zo_cX1_area_0 12 rfl
theorem dX1_area_19 : decode cX1_area 19 = .ok (.iconst 0, 1) := zd_at zo_cX1_area_0 13 rfl
theorem dX1_area_20 : decode cX1_area 20 = .ok (.ireturn, 1) := zd_at zo_cX1_area_0 14 rfl
theorem dX1_area_21 : decode cX1_area 21 = .ok (.aload_n 0, 1) := zd_at zo_cX1_area_0 15 rfl
theorem dX1_area_22 : decode cX1_area 22 = .ok (.getfield 9, 3) := zd_at zo_cX1_area_0 16 rfl
theorem dX1_area_25 : decode cX1_area 25 = .ok (.iload_n 2, 1) := zd_at zo_cX1_area_0 17 rfl
theorem dX1_area_26 : decode cX1_area 26 = .ok (.iconst 2, 1) := zd_at zo_cX1_area_0 18 rfl
theorem dX1_area_27 : decode cX1_area 27 = .ok (.iadd, 1) := zd_at zo_cX1_area_0 19 rfl
theorem dX1_area_28 : decode cX1_area 28 = .ok (.iaload, 1) := zd_at zo_cX1_area_0 20 rfl
theorem dX1_area_29 : decode cX1_area 29 = .ok (.aload_n 0, 1) := zd_at zo_cX1_area_0 21 rfl
theorem dX1_area_30 : decode cX1_area 30 = .ok (.getfield 9, 3) := zd_at zo_cX1_area_0 22 rfl
theorem dX1_area_33 : decode cX1_area 33 = .ok (.iload_n 2, 1) := zd_at zo_cX1_area_0 23 rfl
theorem dX1_area_34 : decode cX1_area 34 = .ok (.iaload, 1) := zd_at zo_cX1_area_0 24 rfl
theorem dX1_area_35 : decode cX1_area 35 = .ok (.isub, 1) := zd_at zo_cX1_area_0 25 rfl
theorem dX1_area_36 : decode cX1_area 36 = .ok (.iconst 1, 1) := zd_at zo_cX1_area_0 26 rfl
theorem dX1_area_37 : decode cX1_area 37 = .ok (.iadd, 1) := zd_at zo_cX1_area_0 27 rfl
theorem dX1_area_38 : decode cX1_area 38 = .ok (.aload_n 0, 1) := zd_at zo_cX1_area_0 28 rfl
theorem dX1_area_39 : decode cX1_area 39 = .ok (.getfield 9, 3) := zd_at zo_cX1_area_0 29 rfl
theorem dX1_area_42 : decode cX1_area 42 = .ok (.iload_n 2, 1) := zd_at zo_cX1_area_0 30 rfl
theorem dX1_area_43 : decode cX1_area 43 = .ok (.iconst 3, 1) := zd_at zo_cX1_area_0 31 rfl
theorem dX1_area_44 : decode cX1_area 44 = .ok (.iadd, 1) := zd_at zo_cX1_area_0 32 rfl
theorem dX1_area_45 : decode cX1_area 45 = .ok (.iaload, 1) := zd_at zo_cX1_area_0 33 rfl
theorem dX1_area_46 : decode cX1_area 46 = .ok (.aload_n 0, 1) := zd_at zo_cX1_area_0 34 rfl
theorem dX1_area_47 : decode cX1_area 47 = .ok (.getfield 9, 3) := zd_at zo_cX1_area_0 35 rfl
theorem dX1_area_50 : decode cX1_area 50 = .ok (.iload_n 2, 1) := zd_at zo_cX1_area_0 36 rfl
theorem dX1_area_51 : decode cX1_area 51 = .ok (.iconst 1, 1) := zd_at zo_cX1_area_0 37 rfl
theorem dX1_area_52 : decode cX1_area 52 = .ok (.iadd, 1) := zd_at zo_cX1_area_0 38 rfl
theorem dX1_area_53 : decode cX1_area 53 = .ok (.iaload, 1) := zd_at zo_cX1_area_0 39 rfl
theorem dX1_area_54 : decode cX1_area 54 = .ok (.isub, 1) := zd_at zo_cX1_area_0 40 rfl
theorem dX1_area_55 : decode cX1_area 55 = .ok (.iconst 1, 1) := zd_at zo_cX1_area_0 41 rfl
theorem dX1_area_56 : decode cX1_area 56 = .ok (.iadd, 1) := zd_at zo_cX1_area_0 42 rfl
theorem dX1_area_57 : decode cX1_area 57 = .ok (.imul, 1) := zd_at zo_cX1_area_0 43 rfl
theorem dX1_area_58 : decode cX1_area 58 = .ok (.ireturn, 1) := zd_at zo_cX1_area_0 44 rfl
def zl_cX1_joinArea_0 : List (Nat × Instr × Nat) := [(0, .iload_n 1, 1), (1, .iconst 4, 1), (2, .imul, 1), (3, .istore_n 3, 1), (4, .iload_n 2, 1), (5, .iconst 4, 1), (6, .imul, 1), (7, .istore 4, 2), (9, .iload_n 3, 1), (10, .ifCond .lt 31, 3), (13, .iload_n 3, 1), (14, .aload_n 0, 1), (15, .getfield 9, 3), (18, .arraylength, 1), (19, .iconst 4, 1), (20, .isub, 1), (21, .if_icmp .gt 20, 3), (24, .iload 4, 2), (26, .ifCond .lt 15, 3), (29, .iload 4, 2), (31, .aload_n 0, 1), (32, .getfield 9, 3), (35, .arraylength, 1), (36, .iconst 4, 1), (37, .isub, 1), (38, .if_icmp .le 5, 3), (41, .iconst 0, 1), (42, .ireturn, 1), (43, .aload_n 0, 1), (44, .getfield 9, 3), (47, .iload_n 3, 1), (48, .iconst 2, 1), (49, .iadd, 1), (50, .iaload, 1), (51, .aload_n 0, 1), (52, .getfield 9, 3), (55, .iload 4, 2), (57, .iconst 2, 1), (58, .iadd, 1), (59, .iaload, 1), (60, .invokestatic 82, 3), (63, .aload_n 0, 1), (64, .getfield 9, 3), (67, .iload_n 3, 1), (68, .iaload, 1), (69, .aload_n 0, 1), (70, .getfield 9, 3), (73, .iload 4, 2), (75, .iaload, 1), (76, .invokestatic 87, 3), (79, .isub, 1), (80, .iconst 1, 1), (81, .iadd, 1), (82, .istore 5, 2), (84, .aload_n 0, 1), (85, .getfield 9, 3), (88, .iload_n 3, 1), (89, .iconst 3, 1), (90, .iadd, 1), (91, .iaload, 1), (92, .aload_n 0, 1), (93, .getfield 9, 3), (96, .iload 4, 2), (98, .iconst 3, 1), (99, .iadd, 1), (100, .iaload, 1), (101, .invokestatic 82, 3), (104, .aload_n 0, 1), (105, .getfield 9, 3), (108, .iload_n 3, 1), (109, .iconst 1, 1), (110, .iadd, 1), (111, .iaload, 1), (112, .aload_n 0, 1), (113, .getfield 9, 3), (116, .iload 4, 2), (118, .iconst 1, 1), (119, .iadd, 1), (120, .iaload, 1), (121, .invokestatic 87, 3), (124, .isub, 1), (125, .iconst 1, 1), (126, .iadd, 1), (127, .istore 6, 2), (129, .iload 5, 2), (131, .iload 6, 2), (133, .imul, 1), (134, .ireturn, 1)]
theorem zo_cX1_joinArea_0 : zd_ok cX1_joinArea zl_cX1_joinArea_0 = true := by decide +kernel
theorem dX1_joinArea_0 : decode cX1_joinArea 0 = .ok (.iload_n 1, 1) := zd_at zo_cX1_joinArea_0 0 rfl
theorem dX1_joinArea_1 : decode cX1_joinArea 1 = .ok (.iconst 4, 1) := zd_at zo_cX1_joinArea_0 1 rfl
theorem dX1_joinArea_2 : decode cX1_joinArea 2 = .ok (.imul, 1) := zd_at zo_cX1_joinArea_0 2 rfl
theorem dX1_joinArea_3 : decode cX1_joinArea 3 = .ok (.istore_n 3, 1) := zd_at zo_cX1_joinArea_0 3 rfl
theorem dX1_joinArea_4 : decode cX1_joinArea 4 = .ok (.iload_n 2, 1) := zd_at zo_cX1_joinArea_0 4 rfl
theorem dX1_joinArea_5 : decode cX1_joinArea 5 = .ok (.iconst 4, 1) := zd_at zo_cX1_joinArea_0 5 rfl
theorem dX1_joinArea_6 : decode cX1_joinArea 6 = .ok (.imul, 1) := zd_at zo_cX1_joinArea_0 6 rfl
theorem dX1_joinArea_7 : decode cX1_joinArea 7 = .ok (.istore 4, 2) := zd_at zo_cX1_joinArea_0 7 rfl
theorem dX1_joinArea_9 : decode cX1_joinArea 9 = .ok (.iload_n 3, 1) := zd_at zo_cX1_joinArea_0 8 rfl
theorem dX1_joinArea_10 : decode cX1_joinArea 10 = .ok (.ifCond .lt 31, 3) := zd_at zo_cX1_joinArea_0 9 rfl
theorem dX1_joinArea_13 : decode cX1_joinArea 13 = .ok (.iload_n 3, 1) := zd_at zo_cX1_joinArea_0 10 rfl
theorem dX1_joinArea_14 : decode cX1_joinArea 14 = .ok (.aload_n 0, 1) := zd_at zo_cX1_joinArea_0 11 rfl
theorem dX1_joinArea_15 : decode cX1_joinArea 15 = .ok (.getfield 9, 3) := zd_at zo_cX1_joinArea_0 12 rfl
theorem dX1_joinArea_18 : decode cX1_joinArea 18 = .ok (.arraylength, 1) := zd_at zo_cX1_joinArea_0 13 rfl
theorem dX1_joinArea_19 : decode cX1_joinArea 19 = .ok (.iconst 4, 1) := zd_at zo_cX1_joinArea_0 14 rfl
theorem dX1_joinArea_20 : decode cX1_joinArea 20 = .ok (.isub, 1) := zd_at zo_cX1_joinArea_0 15 rfl
theorem dX1_joinArea_21 : decode cX1_joinArea 21 = .ok (.if_icmp .gt 20, 3) := zd_at zo_cX1_joinArea_0 16 rfl
theorem dX1_joinArea_24 : decode cX1_joinArea 24 = .ok (.iload 4, 2) := zd_at zo_cX1_joinArea_0 17 rfl
theorem dX1_joinArea_26 : decode cX1_joinArea 26 = .ok (.ifCond .lt 15, 3) := zd_at zo_cX1_joinArea_0 18 rfl
theorem dX1_joinArea_29 : decode cX1_joinArea 29 = .ok (.iload 4, 2) := zd_at zo_cX1_joinArea_0 19 rfl
theorem dX1_joinArea_31 : decode cX1_joinArea 31 = .ok (.aload_n 0, 1) := zd_at zo_cX1_joinArea_0 20 rfl
theorem dX1_joinArea_32 : decode cX1_joinArea 32 = .ok (.getfield 9, 3) := zd_at zo_cX1_joinArea_0 21 rfl
theorem dX1_joinArea_35 : decode cX1_joinArea 35 = .ok (.arraylength, 1) := zd_at zo_cX1_joinArea_0 22 rfl
theorem dX1_joinArea_36 : decode cX1_joinArea 36 = .ok (.iconst 4, 1) := zd_at zo_cX1_joinArea_0 23 rfl
theorem dX1_joinArea_37 : decode cX1_joinArea 37 = .ok (.isub, 1) := zd_at zo_cX1_joinArea_0 24 rfl
theorem dX1_joinArea_38 : decode cX1_joinArea 38 = .ok (.if_icmp .le 5, 3) := zd_at zo_cX1_joinArea_0 25 rfl
theorem dX1_joinArea_41 : decode cX1_joinArea 41 = .ok (.iconst 0, 1) := zd_at zo_cX1_joinArea_0 26 rfl
theorem dX1_joinArea_42 : decode cX1_joinArea 42 = .ok (.ireturn, 1) := zd_at zo_cX1_joinArea_0 27 rfl
theorem dX1_joinArea_43 : decode cX1_joinArea 43 = .ok (.aload_n 0, 1) := zd_at zo_cX1_joinArea_0 28 rfl
theorem dX1_joinArea_44 : decode cX1_joinArea 44 = .ok (.getfield 9, 3) := zd_at zo_cX1_joinArea_0 29 rfl
theorem dX1_joinArea_47 : decode cX1_joinArea 47 = .ok (.iload_n 3, 1) := zd_at zo_cX1_joinArea_0 30 rfl
theorem dX1_joinArea_48 : decode cX1_joinArea 48 = .ok (.iconst 2, 1) := zd_at zo_cX1_joinArea_0 31 rfl
theorem dX1_joinArea_49 : decode cX1_joinArea 49 = .ok (.iadd, 1) := zd_at zo_cX1_joinArea_0 32 rfl
theorem dX1_joinArea_50 : decode cX1_joinArea 50 = .ok (.iaload, 1) := zd_at zo_cX1_joinArea_0 33 rfl
theorem dX1_joinArea_51 : decode cX1_joinArea 51 = .ok (.aload_n 0, 1) := zd_at zo_cX1_joinArea_0 34 rfl
theorem dX1_joinArea_52 : decode cX1_joinArea 52 = .ok (.getfield 9, 3) := zd_at zo_cX1_joinArea_0 35 rfl
theorem dX1_joinArea_55 : decode cX1_joinArea 55 = .ok (.iload 4, 2) := zd_at zo_cX1_joinArea_0 36 rfl
theorem dX1_joinArea_57 : decode cX1_joinArea 57 = .ok (.iconst 2, 1) := zd_at zo_cX1_joinArea_0 37 rfl
theorem dX1_joinArea_58 : decode cX1_joinArea 58 = .ok (.iadd, 1) := zd_at zo_cX1_joinArea_0 38 rfl
theorem dX1_joinArea_59 : decode cX1_joinArea 59 = .ok (.iaload, 1) := zd_at zo_cX1_joinArea_0 39 rfl
theorem dX1_joinArea_60 : decode cX1_joinArea 60 = .ok (.invokestatic 82, 3) := zd_at zo_cX1_joinArea_0 40 rfl
theorem dX1_joinArea_63 : decode cX1_joinArea 63 = .ok (.aload_n 0, 1) := zd_at zo_cX1_joinArea_0 41 rfl
theorem dX1_joinArea_64 : decode cX1_joinArea 64 = .ok (.getfield 9, 3) := zd_at zo_cX1_joinArea_0 42 rfl
theorem dX1_joinArea_67 : decode cX1_joinArea 67 = .ok (.iload_n 3, 1) := zd_at zo_cX1_joinArea_0 43 rfl
theorem dX1_joinArea_68 : decode cX1_joinArea 68 = .ok (.iaload, 1) := zd_at zo_cX1_joinArea_0 44 rfl
theorem dX1_joinArea_69 : decode cX1_joinArea 69 = .ok (.aload_n 0, 1) := zd_at zo_cX1_joinArea_0 45 rfl
theorem dX1_joinArea_70 : decode cX1_joinArea 70 = .ok (.getfield 9, 3) := zd_at zo_cX1_joinArea_0 46 rfl
theorem dX1_joinArea_73 : decode cX1_joinArea 73 = .ok (.iload 4, 2) := zd_at zo_cX1_joinArea_0 47 rfl
theorem dX1_joinArea_75 : decode cX1_joinArea 75 = .ok (.iaload, 1) := zd_at zo_cX1_joinArea_0 48 rfl
theorem dX1_joinArea_76 : decode cX1_joinArea 76 = .ok (.invokestatic 87, 3) := zd_at zo_cX1_joinArea_0 49 rfl
theorem dX1_joinArea_79 : decode cX1_joinArea 79 = .ok (.isub, 1) := zd_at zo_cX1_joinArea_0 50 rfl
theorem dX1_joinArea_80 : decode cX1_joinArea 80 = .ok (.iconst 1, 1) := zd_at zo_cX1_joinArea_0 51 rfl
theorem dX1_joinArea_81 : decode cX1_joinArea 81 = .ok (.iadd, 1) := zd_at zo_cX1_joinArea_0 52 rfl
theorem dX1_joinArea_82 : decode cX1_joinArea 82 = .ok (.istore 5, 2) := zd_at zo_cX1_joinArea_0 53 rfl
theorem dX1_joinArea_84 : decode cX1_joinArea 84 = .ok (.aload_n 0, 1) := zd_at zo_cX1_joinArea_0 54 rfl
theorem dX1_joinArea_85 : decode cX1_joinArea 85 = .ok (.getfield 9, 3) := zd_at zo_cX1_joinArea_0 55 rfl
theorem dX1_joinArea_88 : decode cX1_joinArea 88 = .ok (.iload_n 3, 1) := zd_at zo_cX1_joinArea_0 56 rfl
theorem dX1_joinArea_89 : decode cX1_joinArea 89 = .ok (.iconst 3, 1) := zd_at zo_cX1_joinArea_0 57 rfl
theorem dX1_joinArea_90 : decode cX1_joinArea 90 = .ok (.iadd, 1) := zd_at zo_cX1_joinArea_0 58 rfl
theorem dX1_joinArea_91 : decode cX1_joinArea 91 = .ok (.iaload, 1) := zd_at zo_cX1_joinArea_0 59 rfl
theorem dX1_joinArea_92 : decode cX1_joinArea 92 = .ok (.aload_n 0, 1) := zd_at zo_cX1_joinArea_0 60 rfl
theorem dX1_joinArea_93 : decode cX1_joinArea 93 = .ok (.getfield 9, 3) := zd_at zo_cX1_joinArea_0 61 rfl
theorem dX1_joinArea_96 : decode cX1_joinArea 96 = .ok (.iload 4, 2) := zd_at zo_cX1_joinArea_0 62 rfl
theorem dX1_joinArea_98 : decode cX1_joinArea 98 = .ok (.iconst 3, 1) := zd_at zo_cX1_joinArea_0 63 rfl
theorem dX1_joinArea_99 : decode cX1_joinArea 99 = .ok (.iadd, 1) := zd_at zo_cX1_joinArea_0 64 rfl
theorem dX1_joinArea_100 : decode cX1_joinArea 100 = .ok (.iaload, 1) := zd_at zo_cX1_joinArea_0 65 rfl
theorem dX1_joinArea_101 : decode cX1_joinArea 101 = .ok (.invokestatic 82, 3) := zd_at zo_cX1_joinArea_0 66 rfl
theorem dX1_joinArea_104 : decode cX1_joinArea 104 = .ok (.aload_n 0, 1) := zd_at zo_cX1_joinArea_0 67 rfl
theorem dX1_joinArea_105 : decode cX1_joinArea 105 = .ok (.getfield 9, 3) := zd_at zo_cX1_joinArea_0 68 rfl
theorem dX1_joinArea_108 : decode cX1_joinArea 108 = .ok (.iload_n 3, 1) := zd_at zo_cX1_joinArea_0 69 rfl
theorem dX1_joinArea_109 : decode cX1_joinArea 109 = .ok (.iconst 1, 1) := zd_at zo_cX1_joinArea_0 70 rfl
theorem dX1_joinArea_110 : decode cX1_joinArea 110 = .ok (.iadd, 1) := zd_at zo_cX1_joinArea_0 71 rfl
theorem dX1_joinArea_111 : decode cX1_joinArea 111 = .ok (.iaload, 1) := zd_at zo_cX1_joinArea_0 72 rfl
theorem dX1_joinArea_112 : decode cX1_joinArea 112 = .ok (.aload_n 0, 1) := zd_at zo_cX1_joinArea_0 73 rfl
theorem dX1_joinArea_113 : decode cX1_joinArea 113 = .ok (.getfield 9, 3) := zd_at zo_cX1_joinArea_0 74 rfl
theorem dX1_joinArea_116 : decode cX1_joinArea 116 = .ok (.iload 4, 2) := zd_at zo_cX1_joinArea_0 75 rfl
theorem dX1_joinArea_118 : decode cX1_joinArea 118 = .ok (.iconst 1, 1) := zd_at zo_cX1_joinArea_0 76 rfl
theorem dX1_joinArea_119 : decode cX1_joinArea 119 = .ok (.iadd, 1) := zd_at zo_cX1_joinArea_0 77 rfl
theorem dX1_joinArea_120 : decode cX1_joinArea 120 = .ok (.iaload, 1) := zd_at zo_cX1_joinArea_0 78 rfl
theorem dX1_joinArea_121 : decode cX1_joinArea 121 = .ok (.invokestatic 87, 3) := zd_at zo_cX1_joinArea_0 79 rfl
theorem dX1_joinArea_124 : decode cX1_joinArea 124 = .ok (.isub, 1) := zd_at zo_cX1_joinArea_0 80 rfl
theorem dX1_joinArea_125 : decode cX1_joinArea 125 = .ok (.iconst 1, 1) := zd_at zo_cX1_joinArea_0 81 rfl
theorem dX1_joinArea_126 : decode cX1_joinArea 126 = .ok (.iadd, 1) := zd_at zo_cX1_joinArea_0 82 rfl
theorem dX1_joinArea_127 : decode cX1_joinArea 127 = .ok (.istore 6, 2) := zd_at zo_cX1_joinArea_0 83 rfl
theorem dX1_joinArea_129 : decode cX1_joinArea 129 = .ok (.iload 5, 2) := zd_at zo_cX1_joinArea_0 84 rfl
theorem dX1_joinArea_131 : decode cX1_joinArea 131 = .ok (.iload 6, 2) := zd_at zo_cX1_joinArea_0 85 rfl
theorem dX1_joinArea_133 : decode cX1_joinArea 133 = .ok (.imul, 1) := zd_at zo_cX1_joinArea_0 86 rfl
theorem dX1_joinArea_134 : decode cX1_joinArea 134 = .ok (.ireturn, 1) := zd_at zo_cX1_joinArea_0 87 rfl
def zl_cX1_commonCells_0 : List (Nat × Instr × Nat) := [(0, .iload_n 1, 1), (1, .iconst 4, 1), (2, .imul, 1), (3, .istore_n 3, 1), (4, .iload_n 2, 1), (5, .iconst 4, 1), (6, .imul, 1), (7, .istore 4, 2), (9, .iload_n 3, 1), (10, .ifCond .lt 31, 3), (13, .iload_n 3, 1), (14, .aload_n 0, 1), (15, .getfield 9, 3), (18, .arraylength, 1), (19, .iconst 4, 1), (20, .isub, 1), (21, .if_icmp .gt 20, 3), (24, .iload 4, 2), (26, .ifCond .lt 15, 3), (29, .iload 4, 2), (31, .aload_n 0, 1), (32, .getfield 9, 3), (35, .arraylength, 1), (36, .iconst 4, 1), (37, .isub, 1), (38, .if_icmp .le 5, 3), (41, .iconst 0, 1), (42, .ireturn, 1), (43, .aload_n 0, 1), (44, .getfield 9, 3), (47, .iload_n 3, 1), (48, .iconst 2, 1), (49, .iadd, 1), (50, .iaload, 1), (51, .aload_n 0, 1), (52, .getfield 9, 3), (55, .iload 4, 2), (57, .iconst 2, 1), (58, .iadd, 1), (59, .iaload, 1), (60, .invokestatic 87, 3), (63, .aload_n 0, 1), (64, .getfield 9, 3), (67, .iload_n 3, 1), (68, .iaload, 1), (69, .aload_n 0, 1), (70, .getfield 9, 3), (73, .iload 4, 2), (75, .iaload, 1), (76, .invokestatic 82, 3), (79, .isub, 1), (80, .iconst 1, 1), (81, .iadd, 1), (82, .istore 5, 2), (84, .aload_n 0, 1), (85, .getfield 9, 3), (88, .iload_n 3, 1), (89, .iconst 3, 1), (90, .iadd, 1), (91, .iaload, 1), (92, .aload_n 0, 1), (93, .getfield 9, 3), (96, .iload 4, 2), (98, .iconst 3, 1), (99, .iadd, 1), (100, .iaload, 1), (101, .invokestatic 87, 3), (104, .aload_n 0, 1), (105, .getfield 9, 3), (108, .iload_n 3, 1), (109, .iconst 1, 1), (110, .iadd, 1), (111, .iaload, 1), (112, .aload_n 0, 1), (113, .getfield 9, 3), (116, .iload 4, 2), (118, .iconst 1, 1), (119, .iadd, 1), (120, .iaload, 1), (121, .invokestatic 82, 3), (124, .isub, 1), (125, .iconst 1, 1), (126, .iadd, 1), (127, .istore 6, 2), (129, .iload 5, 2), (131, .ifCond .le 16, 3), (134, .iload 6, 2), (136, .ifCond .le 11, 3), (139, .iload 5, 2), (141, .iload 6, 2), (143, .imul, 1), (144, .goto 4, 3), (147, .iconst 0, 1), (148, .ireturn, 1)]
theorem zo_cX1_commonCells_0 : zd_ok cX1_commonCells zl_cX1_commonCells_0 = true := by decide +kernel
theorem dX1_commonCells_0 : decode cX1_commonCells 0 = .ok (.iload_n 1, 1) := zd_at zo_cX1_commonCells_0 0 rfl
theorem dX1_commonCells_1 : decode cX1_commonCells 1 = .ok (.iconst 4, 1) := zd_at zo_cX1_commonCells_0 1 rfl
theorem dX1_commonCells_2 : decode cX1_commonCells 2 = .ok (.imul, 1) := zd_at zo_cX1_commonCells_0 2 rfl
theorem dX1_commonCells_3 : decode cX1_commonCells 3 = .ok (.istore_n 3, 1) := zd_at zo_cX1_commonCells_0 3 rfl
theorem dX1_commonCells_4 : decode cX1_commonCells 4 = .ok (.iload_n 2, 1) := zd_at zo_cX1_commonCells_0 4 rfl
theorem dX1_commonCells_5 : decode cX1_commonCells 5 = .ok (.iconst 4, 1) := zd_at zo_cX1_commonCells_0 5 rfl
theorem dX1_commonCells_6 : decode cX1_commonCells 6 = .ok (.imul, 1) := zd_at zo_cX1_commonCells_0 6 rfl
theorem dX1_commonCells_7 : decode cX1_commonCells 7 = .ok (.istore 4, 2) := zd_at zo_cX1_commonCells_0 7 rfl
theorem dX1_commonCells_9 : decode cX1_commonCells 9 = .ok (.iload_n 3, 1) := zd_at zo_cX1_commonCells_0 8 rfl
theorem dX1_commonCells_10 : decode cX1_commonCells 10 = .ok (.ifCond .lt 31, 3) := zd_at zo_cX1_commonCells_0 9 rfl
theorem dX1_commonCells_13 : decode cX1_commonCells 13 = .ok (.iload_n 3, 1) := zd_at zo_cX1_commonCells_0 10 rfl
theorem dX1_commonCells_14 : decode cX1_commonCells 14 = .ok (.aload_n 0, 1) := zd_at zo_cX1_commonCells_0 11 rfl
theorem dX1_commonCells_15 : decode cX1_commonCells 15 = .ok (.getfield 9, 3) := zd_at zo_cX1_commonCells_0 12 rfl
theorem dX1_commonCells_18 : decode cX1_commonCells 18 = .ok (.arraylength, 1) := zd_at zo_cX1_commonCells_0 13 rfl
theorem dX1_commonCells_19 : decode cX1_commonCells 19 = .ok (.iconst 4, 1) := zd_at zo_cX1_commonCells_0 14 rfl
theorem dX1_commonCells_20 : decode cX1_commonCells 20 = .ok (.isub, 1) := zd_at zo_cX1_commonCells_0 15 rfl
theorem dX1_commonCells_21 : decode cX1_commonCells 21 = .ok (.if_icmp .gt 20, 3) := zd_at zo_cX1_commonCells_0 16 rfl
theorem dX1_commonCells_24 : decode cX1_commonCells 24 = .ok (.iload 4, 2) := zd_at zo_cX1_commonCells_0 17 rfl
theorem dX1_commonCells_26 : decode cX1_commonCells 26 = .ok (.ifCond .lt 15, 3) := zd_at zo_cX1_commonCells_0 18 rfl
theorem dX1_commonCells_29 : decode cX1_commonCells 29 = .ok (.iload 4, 2) := zd_at zo_cX1_commonCells_0 19 rfl
theorem dX1_commonCells_31 : decode cX1_commonCells 31 = .ok (.aload_n 0, 1) := zd_at zo_cX1_commonCells_0 20 rfl
theorem dX1_commonCells_32 : decode cX1_commonCells 32 = .ok (.getfield 9, 3) := zd_at zo_cX1_commonCells_0 21 rfl
theorem dX1_commonCells_35 : decode cX1_commonCells 35 = .ok (.arraylength, 1) := zd_at zo_cX1_commonCells_0 22 rfl
theorem dX1_commonCells_36 : decode cX1_commonCells 36 = .ok (.iconst 4, 1) := zd_at zo_cX1_commonCells_0 23 rfl
theorem dX1_commonCells_37 : decode cX1_commonCells 37 = .ok (.isub, 1) := zd_at zo_cX1_commonCells_0 24 rfl
theorem dX1_commonCells_38 : decode cX1_commonCells 38 = .ok (.if_icmp .le 5, 3) := zd_at zo_cX1_commonCells_0 25 rfl
theorem dX1_commonCells_41 : decode cX1_commonCells 41 = .ok (.iconst 0, 1) := zd_at zo_cX1_commonCells_0 26 rfl
theorem dX1_commonCells_42 : decode cX1_commonCells 42 = .ok (.ireturn, 1) := zd_at zo_cX1_commonCells_0 27 rfl
theorem dX1_commonCells_43 : decode cX1_commonCells 43 = .ok (.aload_n 0, 1) := zd_at zo_cX1_commonCells_0 28 rfl
theorem dX1_commonCells_44 : decode cX1_commonCells 44 = .ok (.getfield 9, 3) := zd_at zo_cX1_commonCells_0 29 rfl
theorem dX1_commonCells_47 : decode cX1_commonCells 47 = .ok (.iload_n 3, 1) := zd_at zo_cX1_commonCells_0 30 rfl
theorem dX1_commonCells_48 : decode cX1_commonCells 48 = .ok (.iconst 2, 1) := zd_at zo_cX1_commonCells_0 31 rfl
theorem dX1_commonCells_49 : decode cX1_commonCells 49 = .ok (.iadd, 1) := zd_at zo_cX1_commonCells_0 32 rfl
theorem dX1_commonCells_50 : decode cX1_commonCells 50 = .ok (.iaload, 1) := zd_at zo_cX1_commonCells_0 33 rfl
theorem dX1_commonCells_51 : decode cX1_commonCells 51 = .ok (.aload_n 0, 1) := zd_at zo_cX1_commonCells_0 34 rfl
theorem dX1_commonCells_52 : decode cX1_commonCells 52 = .ok (.getfield 9, 3) := zd_at zo_cX1_commonCells_0 35 rfl
theorem dX1_commonCells_55 : decode cX1_commonCells 55 = .ok (.iload 4, 2) := zd_at zo_cX1_commonCells_0 36 rfl
theorem dX1_commonCells_57 : decode cX1_commonCells 57 = .ok (.iconst 2, 1) := zd_at zo_cX1_commonCells_0 37 rfl
theorem dX1_commonCells_58 : decode cX1_commonCells 58 = .ok (.iadd, 1) := zd_at zo_cX1_commonCells_0 38 rfl
theorem dX1_commonCells_59 : decode cX1_commonCells 59 = .ok (.iaload, 1) := zd_at zo_cX1_commonCells_0 39 rfl
theorem dX1_commonCells_60 : decode cX1_commonCells 60 = .ok (.invokestatic 87, 3) := zd_at zo_cX1_commonCells_0 40 rfl
theorem dX1_commonCells_63 : decode cX1_commonCells 63 = .ok (.aload_n 0, 1) := zd_at zo_cX1_commonCells_0 41 rfl
theorem dX1_commonCells_64 : decode cX1_commonCells 64 = .ok (.getfield 9, 3) := zd_at zo_cX1_commonCells_0 42 rfl
theorem dX1_commonCells_67 : decode cX1_commonCells 67 = .ok (.iload_n 3, 1) := zd_at zo_cX1_commonCells_0 43 rfl
theorem dX1_commonCells_68 : decode cX1_commonCells 68 = .ok (.iaload, 1) := zd_at zo_cX1_commonCells_0 44 rfl
theorem dX1_commonCells_69 : decode cX1_commonCells 69 = .ok (.aload_n 0, 1) := zd_at zo_cX1_commonCells_0 45 rfl
theorem dX1_commonCells_70 : decode cX1_commonCells 70 = .ok (.getfield 9, 3) := zd_at zo_cX1_commonCells_0 46 rfl
theorem dX1_commonCells_73 : decode cX1_commonCells 73 = .ok (.iload 4, 2) := zd_at zo_cX1_commonCells_0 47 rfl
theorem dX1_commonCells_75 : decode cX1_commonCells 75 = .ok (.iaload, 1) := zd_at zo_cX1_commonCells_0 48 rfl
theorem dX1_commonCells_76 : decode cX1_commonCells 76 = .ok (.invokestatic 82, 3) := zd_at zo_cX1_commonCells_0 49 rfl
theorem dX1_commonCells_79 : decode cX1_commonCells 79 = .ok (.isub, 1) := zd_at zo_cX1_commonCells_0 50 rfl
theorem dX1_commonCells_80 : decode cX1_commonCells 80 = .ok (.iconst 1, 1) := zd_at zo_cX1_commonCells_0 51 rfl
theorem dX1_commonCells_81 : decode cX1_commonCells 81 = .ok (.iadd, 1) := zd_at zo_cX1_commonCells_0 52 rfl
theorem dX1_commonCells_82 : decode cX1_commonCells 82 = .ok (.istore 5, 2) := zd_at zo_cX1_commonCells_0 53 rfl
theorem dX1_commonCells_84 : decode cX1_commonCells 84 = .ok (.aload_n 0, 1) := zd_at zo_cX1_commonCells_0 54 rfl
theorem dX1_commonCells_85 : decode cX1_commonCells 85 = .ok (.getfield 9, 3) := zd_at zo_cX1_commonCells_0 55 rfl
theorem dX1_commonCells_88 : decode cX1_commonCells 88 = .ok (.iload_n 3, 1) := zd_at zo_cX1_commonCells_0 56 rfl
theorem dX1_commonCells_89 : decode cX1_commonCells 89 = .ok (.iconst 3, 1) := zd_at zo_cX1_commonCells_0 57 rfl
theorem dX1_commonCells_90 : decode cX1_commonCells 90 = .ok (.iadd, 1) := zd_at zo_cX1_commonCells_0 58 rfl
theorem dX1_commonCells_91 : decode cX1_commonCells 91 = .ok (.iaload, 1) := zd_at zo_cX1_commonCells_0 59 rfl
theorem dX1_commonCells_92 : decode cX1_commonCells 92 = .ok (.aload_n 0, 1) := zd_at zo_cX1_commonCells_0 60 rfl
theorem dX1_commonCells_93 : decode cX1_commonCells 93 = .ok (.getfield 9, 3) := zd_at zo_cX1_commonCells_0 61 rfl
theorem dX1_commonCells_96 : decode cX1_commonCells 96 = .ok (.iload 4, 2) := zd_at zo_cX1_commonCells_0 62 rfl
theorem dX1_commonCells_98 : decode cX1_commonCells 98 = .ok (.iconst 3, 1) := zd_at zo_cX1_commonCells_0 63 rfl
theorem dX1_commonCells_99 : decode cX1_commonCells 99 = .ok (.iadd, 1) := zd_at zo_cX1_commonCells_0 64 rfl
theorem dX1_commonCells_100 : decode cX1_commonCells 100 = .ok (.iaload, 1) := zd_at zo_cX1_commonCells_0 65 rfl
theorem dX1_commonCells_101 : decode cX1_commonCells 101 = .ok (.invokestatic 87, 3) := zd_at zo_cX1_commonCells_0 66 rfl
theorem dX1_commonCells_104 : decode cX1_commonCells 104 = .ok (.aload_n 0, 1) := zd_at zo_cX1_commonCells_0 67 rfl
theorem dX1_commonCells_105 : decode cX1_commonCells 105 = .ok (.getfield 9, 3) := zd_at zo_cX1_commonCells_0 68 rfl
theorem dX1_commonCells_108 : decode cX1_commonCells 108 = .ok (.iload_n 3, 1) := zd_at zo_cX1_commonCells_0 69 rfl
theorem dX1_commonCells_109 : decode cX1_commonCells 109 = .ok (.iconst 1, 1) := zd_at zo_cX1_commonCells_0 70 rfl
theorem dX1_commonCells_110 : decode cX1_commonCells 110 = .ok (.iadd, 1) := zd_at zo_cX1_commonCells_0 71 rfl
theorem dX1_commonCells_111 : decode cX1_commonCells 111 = .ok (.iaload, 1) := zd_at zo_cX1_commonCells_0 72 rfl
theorem dX1_commonCells_112 : decode cX1_commonCells 112 = .ok (.aload_n 0, 1) := zd_at zo_cX1_commonCells_0 73 rfl
theorem dX1_commonCells_113 : decode cX1_commonCells 113 = .ok (.getfield 9, 3) := zd_at zo_cX1_commonCells_0 74 rfl
theorem dX1_commonCells_116 : decode cX1_commonCells 116 = .ok (.iload 4, 2) := zd_at zo_cX1_commonCells_0 75 rfl
theorem dX1_commonCells_118 : decode cX1_commonCells 118 = .ok (.iconst 1, 1) := zd_at zo_cX1_commonCells_0 76 rfl
theorem dX1_commonCells_119 : decode cX1_commonCells 119 = .ok (.iadd, 1) := zd_at zo_cX1_commonCells_0 77 rfl
theorem dX1_commonCells_120 : decode cX1_commonCells 120 = .ok (.iaload, 1) := zd_at zo_cX1_commonCells_0 78 rfl
theorem dX1_commonCells_121 : decode cX1_commonCells 121 = .ok (.invokestatic 82, 3) := zd_at zo_cX1_commonCells_0 79 rfl
theorem dX1_commonCells_124 : decode cX1_commonCells 124 = .ok (.isub, 1) := zd_at zo_cX1_commonCells_0 80 rfl
theorem dX1_commonCells_125 : decode cX1_commonCells 125 = .ok (.iconst 1, 1) := zd_at zo_cX1_commonCells_0 81 rfl
theorem dX1_commonCells_126 : decode cX1_commonCells 126 = .ok (.iadd, 1) := zd_at zo_cX1_commonCells_0 82 rfl
theorem dX1_commonCells_127 : decode cX1_commonCells 127 = .ok (.istore 6, 2) := zd_at zo_cX1_commonCells_0 83 rfl
theorem dX1_commonCells_129 : decode cX1_commonCells 129 = .ok (.iload 5, 2) := zd_at zo_cX1_commonCells_0 84 rfl
theorem dX1_commonCells_131 : decode cX1_commonCells 131 = .ok (.ifCond .le 16, 3) := zd_at zo_cX1_commonCells_0 85 rfl
theorem dX1_commonCells_134 : decode cX1_commonCells 134 = .ok (.iload 6, 2) := zd_at zo_cX1_commonCells_0 86 rfl
theorem dX1_commonCells_136 : decode cX1_commonCells 136 = .ok (.ifCond .le 11, 3) := zd_at zo_cX1_commonCells_0 87 rfl
theorem dX1_commonCells_139 : decode cX1_commonCells 139 = .ok (.iload 5, 2) := zd_at zo_cX1_commonCells_0 88 rfl
theorem dX1_commonCells_141 : decode cX1_commonCells 141 = .ok (.iload 6, 2) := zd_at zo_cX1_commonCells_0 89 rfl
theorem dX1_commonCells_143 : decode cX1_commonCells 143 = .ok (.imul, 1) := zd_at zo_cX1_commonCells_0 90 rfl
theorem dX1_commonCells_144 : decode cX1_commonCells 144 = .ok (.goto 4, 3) := zd_at zo_cX1_commonCells_0 91 rfl
theorem dX1_commonCells_147 : decode cX1_commonCells 147 = .ok (.iconst 0, 1) := zd_at zo_cX1_commonCells_0 92 rfl
theorem dX1_commonCells_148 : decode cX1_commonCells 148 = .ok (.ireturn, 1) := zd_at zo_cX1_commonCells_0 93 rfl
def zl_cX1_middleDistance_0 : List (Nat × Instr × Nat) := [(0, .iload_n 1, 1), (1, .iconst 4, 1), (2, .imul, 1), (3, .istore_n 3, 1), (4, .iload_n 2, 1), (5, .iconst 4, 1), (6, .imul, 1), (7, .istore 4, 2), (9, .iload_n 3, 1), (10, .ifCond .lt 31, 3), (13, .iload_n 3, 1), (14, .aload_n 0, 1), (15, .getfield 9, 3), (18, .arraylength, 1), (19, .iconst 4, 1), (20, .isub, 1), (21, .if_icmp .gt 20, 3), (24, .iload 4, 2), (26, .ifCond .lt 15, 3), (29, .iload 4, 2), (31, .aload_n 0, 1), (32, .getfield 9, 3), (35, .arraylength, 1), (36, .iconst 4, 1), (37, .isub, 1), (38, .if_icmp .le 5, 3), (41, .iconst 0, 1), (42, .ireturn, 1), (43, .aload_n 0, 1), (44, .getfield 9, 3), (47, .iload_n 3, 1), (48, .iaload, 1), (49, .aload_n 0, 1), (50, .getfield 9, 3), (53, .iload_n 3, 1), (54, .iconst 2, 1), (55, .iadd, 1), (56, .iaload, 1), (57, .iadd, 1), (58, .aload_n 0, 1), (59, .getfield 9, 3), (62, .iload 4, 2), (64, .iaload, 1), (65, .isub, 1), (66, .aload_n 0, 1), (67, .getfield 9, 3), (70, .iload 4, 2), (72, .iconst 2, 1), (73, .iadd, 1), (74, .iaload, 1), (75, .isub, 1), (76, .istore 5, 2), (78, .aload_n 0, 1), (79, .getfield 9, 3), (82, .iload_n 3, 1), (83, .iconst 1, 1), (84, .iadd, 1), (85, .iaload, 1), (86, .aload_n 0, 1), (87, .getfield 9, 3), (90, .iload_n 3, 1), (91, .iconst 3, 1), (92, .iadd, 1), (93, .iaload, 1), (94, .iadd, 1), (95, .aload_n 0, 1), (96, .getfield 9, 3), (99, .iload 4, 2), (101, .iconst 1, 1), (102, .iadd, 1), (103, .iaload, 1), (104, .isub, 1), (105, .aload_n 0, 1), (106, .getfield 9, 3), (109, .iload 4, 2), (111, .iconst 3, 1), (112, .iadd, 1), (113, .iaload, 1), (114, .isub, 1), (115, .istore 6, 2), (117, .iload 5, 2), (119, .iload 5, 2), (121, .imul, 1), (122, .iload 6, 2), (124, .iload 6, 2), (126, .imul, 1), (127, .iadd, 1), (128, .ireturn, 1)]
theorem zo_cX1_middleDistance_0 : zd_ok cX1_middleDistance zl_cX1_middleDistance_0 = true := by decide +kernel
theorem dX1_middleDistance_0 : decode cX1_middleDistance 0 = .ok (.iload_n 1, 1) := zd_at zo_cX1_middleDistance_0 0 rfl
theorem dX1_middleDistance_1 : decode cX1_middleDistance 1 = .ok (.iconst 4, 1) := zd_at zo_cX1_middleDistance_0 1 rfl
theorem dX1_middleDistance_2 : decode cX1_middleDistance 2 = .ok (.imul, 1) := zd_at zo_cX1_middleDistance_0 2 rfl
theorem dX1_middleDistance_3 : decode cX1_middleDistance 3 = .ok (.istore_n 3, 1) := zd_at zo_cX1_middleDistance_0 3 rfl
theorem dX1_middleDistance_4 : decode cX1_middleDistance 4 = .ok (.iload_n 2, 1) := zd_at zo_cX1_middleDistance_0 4 rfl
theorem dX1_middleDistance_5 : decode cX1_middleDistance 5 = .ok (.iconst 4, 1) := zd_at zo_cX1_middleDistance_0 5 rfl
theorem dX1_middleDistance_6 : decode cX1_middleDistance 6 = .ok (.imul, 1) := zd_at zo_cX1_middleDistance_0 6 rfl
theorem dX1_middleDistance_7 : decode cX1_middleDistance 7 = .ok (.istore 4, 2) := zd_at zo_cX1_middleDistance_0 7 rfl
theorem dX1_middleDistance_9 : decode cX1_middleDistance 9 = .ok (.iload_n 3, 1) := zd_at zo_cX1_middleDistance_0 8 rfl
theorem dX1_middleDistance_10 : decode cX1_middleDistance 10 = .ok (.ifCond .lt 31, 3) := zd_at zo_cX1_middleDistance_0 9 rfl
theorem dX1_middleDistance_13 : decode cX1_middleDistance 13 = .ok (.iload_n 3, 1) := zd_at zo_cX1_middleDistance_0 10 rfl
theorem dX1_middleDistance_14 : decode cX1_middleDistance 14 = .ok (.aload_n 0, 1) := zd_at zo_cX1_middleDistance_0 11 rfl
theorem dX1_middleDistance_15 : decode cX1_middleDistance 15 = .ok (.getfield 9, 3) := zd_at zo_cX1_middleDistance_0 12 rfl
theorem dX1_middleDistance_18 : decode cX1_middleDistance 18 = .ok (.arraylength, 1) := zd_at zo_cX1_middleDistance_0 13 rfl
theorem dX1_middleDistance_19 : decode cX1_middleDistance 19 = .ok (.iconst 4, 1) := zd_at zo_cX1_middleDistance_0 14 rfl
theorem dX1_middleDistance_20 : decode cX1_middleDistance 20 = .ok (.isub, 1) := zd_at zo_cX1_middleDistance_0 15 rfl
theorem dX1_middleDistance_21 : decode cX1_middleDistance 21 = .ok (.if_icmp .gt 20, 3) := zd_at zo_cX1_middleDistance_0 16 rfl
theorem dX1_middleDistance_24 : decode cX1_middleDistance 24 = .ok (.iload 4, 2) := zd_at zo_cX1_middleDistance_0 17 rfl
theorem dX1_middleDistance_26 : decode cX1_middleDistance 26 = .ok (.ifCond .lt 15, 3) := zd_at zo_cX1_middleDistance_0 18 rfl
theorem dX1_middleDistance_29 : decode cX1_middleDistance 29 = .ok (.iload 4, 2) := zd_at zo_cX1_middleDistance_0 19 rfl
theorem dX1_middleDistance_31 : decode cX1_middleDistance 31 = .ok (.aload_n 0, 1) := zd_at zo_cX1_middleDistance_0 20 rfl
theorem dX1_middleDistance_32 : decode cX1_middleDistance 32 = .ok (.getfield 9, 3) := zd_at zo_cX1_middleDistance_0 21 rfl
theorem dX1_middleDistance_35 : decode cX1_middleDistance 35 = .ok (.arraylength, 1) := zd_at zo_cX1_middleDistance_0 22 rfl
theorem dX1_middleDistance_36 : decode cX1_middleDistance 36 = .ok (.iconst 4, 1) := zd_at zo_cX1_middleDistance_0 23 rfl
theorem dX1_middleDistance_37 : decode cX1_middleDistance 37 = .ok (.isub, 1) := zd_at zo_cX1_middleDistance_0 24 rfl
theorem dX1_middleDistance_38 : decode cX1_middleDistance 38 = .ok (.if_icmp .le 5, 3) := zd_at zo_cX1_middleDistance_0 25 rfl
theorem dX1_middleDistance_41 : decode cX1_middleDistance 41 = .ok (.iconst 0, 1) := zd_at zo_cX1_middleDistance_0 26 rfl
theorem dX1_middleDistance_42 : decode cX1_middleDistance 42 = .ok (.ireturn, 1) := zd_at zo_cX1_middleDistance_0 27 rfl
theorem dX1_middleDistance_43 : decode cX1_middleDistance 43 = .ok (.aload_n 0, 1) := zd_at zo_cX1_middleDistance_0 28 rfl
theorem dX1_middleDistance_44 : decode cX1_middleDistance 44 = .ok (.getfield 9, 3) := zd_at zo_cX1_middleDistance_0 29 rfl
theorem dX1_middleDistance_47 : decode cX1_middleDistance 47 = .ok (.iload_n 3, 1) := zd_at zo_cX1_middleDistance_0 30 rfl
theorem dX1_middleDistance_48 : decode cX1_middleDistance 48 = .ok (.iaload, 1) := zd_at zo_cX1_middleDistance_0 31 rfl
theorem dX1_middleDistance_49 : decode cX1_middleDistance 49 = .ok (.aload_n 0, 1) := zd_at zo_cX1_middleDistance_0 32 rfl
theorem dX1_middleDistance_50 : decode cX1_middleDistance 50 = .ok (.getfield 9, 3) := zd_at zo_cX1_middleDistance_0 33 rfl
theorem dX1_middleDistance_53 : decode cX1_middleDistance 53 = .ok (.iload_n 3, 1) := zd_at zo_cX1_middleDistance_0 34 rfl
theorem dX1_middleDistance_54 : decode cX1_middleDistance 54 = .ok (.iconst 2, 1) := zd_at zo_cX1_middleDistance_0 35 rfl
theorem dX1_middleDistance_55 : decode cX1_middleDistance 55 = .ok (.iadd, 1) := zd_at zo_cX1_middleDistance_0 36 rfl
theorem dX1_middleDistance_56 : decode cX1_middleDistance 56 = .ok (.iaload, 1) := zd_at zo_cX1_middleDistance_0 37 rfl
theorem dX1_middleDistance_57 : decode cX1_middleDistance 57 = .ok (.iadd, 1) := zd_at zo_cX1_middleDistance_0 38 rfl
theorem dX1_middleDistance_58 : decode cX1_middleDistance 58 = .ok (.aload_n 0, 1) := zd_at zo_cX1_middleDistance_0 39 rfl
theorem dX1_middleDistance_59 : decode cX1_middleDistance 59 = .ok (.getfield 9, 3) := zd_at zo_cX1_middleDistance_0 40 rfl
theorem dX1_middleDistance_62 : decode cX1_middleDistance 62 = .ok (.iload 4, 2) := zd_at zo_cX1_middleDistance_0 41 rfl
theorem dX1_middleDistance_64 : decode cX1_middleDistance 64 = .ok (.iaload, 1) := zd_at zo_cX1_middleDistance_0 42 rfl
theorem dX1_middleDistance_65 : decode cX1_middleDistance 65 = .ok (.isub, 1) := zd_at zo_cX1_middleDistance_0 43 rfl
theorem dX1_middleDistance_66 : decode cX1_middleDistance 66 = .ok (.aload_n 0, 1) := zd_at zo_cX1_middleDistance_0 44 rfl
theorem dX1_middleDistance_67 : decode cX1_middleDistance 67 = .ok (.getfield 9, 3) := zd_at zo_cX1_middleDistance_0 45 rfl
theorem dX1_middleDistance_70 : decode cX1_middleDistance 70 = .ok (.iload 4, 2) := zd_at zo_cX1_middleDistance_0 46 rfl
theorem dX1_middleDistance_72 : decode cX1_middleDistance 72 = .ok (.iconst 2, 1) := zd_at zo_cX1_middleDistance_0 47 rfl
theorem dX1_middleDistance_73 : decode cX1_middleDistance 73 = .ok (.iadd, 1) := zd_at zo_cX1_middleDistance_0 48 rfl
theorem dX1_middleDistance_74 : decode cX1_middleDistance 74 = .ok (.iaload, 1) := zd_at zo_cX1_middleDistance_0 49 rfl
theorem dX1_middleDistance_75 : decode cX1_middleDistance 75 = .ok (.isub, 1) := zd_at zo_cX1_middleDistance_0 50 rfl
theorem dX1_middleDistance_76 : decode cX1_middleDistance 76 = .ok (.istore 5, 2) := zd_at zo_cX1_middleDistance_0 51 rfl
theorem dX1_middleDistance_78 : decode cX1_middleDistance 78 = .ok (.aload_n 0, 1) := zd_at zo_cX1_middleDistance_0 52 rfl
theorem dX1_middleDistance_79 : decode cX1_middleDistance 79 = .ok (.getfield 9, 3) := zd_at zo_cX1_middleDistance_0 53 rfl
theorem dX1_middleDistance_82 : decode cX1_middleDistance 82 = .ok (.iload_n 3, 1) := zd_at zo_cX1_middleDistance_0 54 rfl
theorem dX1_middleDistance_83 : decode cX1_middleDistance 83 = .ok (.iconst 1, 1) := zd_at zo_cX1_middleDistance_0 55 rfl
theorem dX1_middleDistance_84 : decode cX1_middleDistance 84 = .ok (.iadd, 1) := zd_at zo_cX1_middleDistance_0 56 rfl
theorem dX1_middleDistance_85 : decode cX1_middleDistance 85 = .ok (.iaload, 1) := zd_at zo_cX1_middleDistance_0 57 rfl
theorem dX1_middleDistance_86 : decode cX1_middleDistance 86 = .ok (.aload_n 0, 1) := zd_at zo_cX1_middleDistance_0 58 rfl
theorem dX1_middleDistance_87 : decode cX1_middleDistance 87 = .ok (.getfield 9, 3) := zd_at zo_cX1_middleDistance_0 59 rfl
theorem dX1_middleDistance_90 : decode cX1_middleDistance 90 = .ok (.iload_n 3, 1) := zd_at zo_cX1_middleDistance_0 60 rfl
theorem dX1_middleDistance_91 : decode cX1_middleDistance 91 = .ok (.iconst 3, 1) := zd_at zo_cX1_middleDistance_0 61 rfl
theorem dX1_middleDistance_92 : decode cX1_middleDistance 92 = .ok (.iadd, 1) := zd_at zo_cX1_middleDistance_0 62 rfl
theorem dX1_middleDistance_93 : decode cX1_middleDistance 93 = .ok (.iaload, 1) := zd_at zo_cX1_middleDistance_0 63 rfl
theorem dX1_middleDistance_94 : decode cX1_middleDistance 94 = .ok (.iadd, 1) := zd_at zo_cX1_middleDistance_0 64 rfl
theorem dX1_middleDistance_95 : decode cX1_middleDistance 95 = .ok (.aload_n 0, 1) := zd_at zo_cX1_middleDistance_0 65 rfl
theorem dX1_middleDistance_96 : decode cX1_middleDistance 96 = .ok (.getfield 9, 3) := zd_at zo_cX1_middleDistance_0 66 rfl
theorem dX1_middleDistance_99 : decode cX1_middleDistance 99 = .ok (.iload 4, 2) := zd_at zo_cX1_middleDistance_0 67 rfl
theorem dX1_middleDistance_101 : decode cX1_middleDistance 101 = .ok (.iconst 1, 1) := zd_at zo_cX1_middleDistance_0 68 rfl
theorem dX1_middleDistance_102 : decode cX1_middleDistance 102 = .ok (.iadd, 1) := zd_at zo_cX1_middleDistance_0 69 rfl
theorem dX1_middleDistance_103 : decode cX1_middleDistance 103 = .ok (.iaload, 1) := zd_at zo_cX1_middleDistance_0 70 rfl
theorem dX1_middleDistance_104 : decode cX1_middleDistance 104 = .ok (.isub, 1) := zd_at zo_cX1_middleDistance_0 71 rfl
theorem dX1_middleDistance_105 : decode cX1_middleDistance 105 = .ok (.aload_n 0, 1) := zd_at zo_cX1_middleDistance_0 72 rfl
theorem dX1_middleDistance_106 : decode cX1_middleDistance 106 = .ok (.getfield 9, 3) := zd_at zo_cX1_middleDistance_0 73 rfl
theorem dX1_middleDistance_109 : decode cX1_middleDistance 109 = .ok (.iload 4, 2) := zd_at zo_cX1_middleDistance_0 74 rfl
theorem dX1_middleDistance_111 : decode cX1_middleDistance 111 = .ok (.iconst 3, 1) := zd_at zo_cX1_middleDistance_0 75 rfl
theorem dX1_middleDistance_112 : decode cX1_middleDistance 112 = .ok (.iadd, 1) := zd_at zo_cX1_middleDistance_0 76 rfl
theorem dX1_middleDistance_113 : decode cX1_middleDistance 113 = .ok (.iaload, 1) := zd_at zo_cX1_middleDistance_0 77 rfl
theorem dX1_middleDistance_114 : decode cX1_middleDistance 114 = .ok (.isub, 1) := zd_at zo_cX1_middleDistance_0 78 rfl
theorem dX1_middleDistance_115 : decode cX1_middleDistance 115 = .ok (.istore 6, 2) := zd_at zo_cX1_middleDistance_0 79 rfl
theorem dX1_middleDistance_117 : decode cX1_middleDistance 117 = .ok (.iload 5, 2) := zd_at zo_cX1_middleDistance_0 80 rfl
theorem dX1_middleDistance_119 : decode cX1_middleDistance 119 = .ok (.iload 5, 2) := zd_at zo_cX1_middleDistance_0 81 rfl
theorem dX1_middleDistance_121 : decode cX1_middleDistance 121 = .ok (.imul, 1) := zd_at zo_cX1_middleDistance_0 82 rfl
theorem dX1_middleDistance_122 : decode cX1_middleDistance 122 = .ok (.iload 6, 2) := zd_at zo_cX1_middleDistance_0 83 rfl
theorem dX1_middleDistance_124 : decode cX1_middleDistance 124 = .ok (.iload 6, 2) := zd_at zo_cX1_middleDistance_0 84 rfl
theorem dX1_middleDistance_126 : decode cX1_middleDistance 126 = .ok (.imul, 1) := zd_at zo_cX1_middleDistance_0 85 rfl
theorem dX1_middleDistance_127 : decode cX1_middleDistance 127 = .ok (.iadd, 1) := zd_at zo_cX1_middleDistance_0 86 rfl
theorem dX1_middleDistance_128 : decode cX1_middleDistance 128 = .ok (.ireturn, 1) := zd_at zo_cX1_middleDistance_0 87 rfl
def zl_cX1_distance_0 : List (Nat × Instr × Nat) := [(0, .iconst 0, 1), (1, .aload_n 0, 1), (2, .iload_n 1, 1), (3, .iconst 0, 1), (4, .invokevirtual 74, 3), (7, .iload_n 2, 1), (8, .isub, 1), (9, .iload_n 2, 1), (10, .aload_n 0, 1), (11, .iload_n 1, 1), (12, .iconst 2, 1), (13, .invokevirtual 74, 3), (16, .isub, 1), (17, .invokestatic 82, 3), (20, .invokestatic 82, 3), (23, .istore 4, 2), (25, .iconst 0, 1), (26, .aload_n 0, 1), (27, .iload_n 1, 1), (28, .iconst 1, 1), (29, .invokevirtual 74, 3), (32, .iload_n 3, 1), (33, .isub, 1), (34, .iload_n 3, 1), (35, .aload_n 0, 1), (36, .iload_n 1, 1), (37, .iconst 3, 1), (38, .invokevirtual 74, 3), (41, .isub, 1), (42, .invokestatic 82, 3), (45, .invokestatic 82, 3), (48, .istore 5, 2), (50, .iload 4, 2), (52, .iload 4, 2), (54, .imul, 1), (55, .iload 5, 2), (57, .iload 5, 2), (59, .imul, 1), (60, .iadd, 1), (61, .ireturn, 1)]
theorem zo_cX1_distance_0 : zd_ok cX1_distance zl_cX1_distance_0 = true := by decide +kernel
theorem dX1_distance_0 : decode cX1_distance 0 = .ok (.iconst 0, 1) := zd_at zo_cX1_distance_0 0 rfl
theorem dX1_distance_1 : decode cX1_distance 1 = .ok (.aload_n 0, 1) := zd_at zo_cX1_distance_0 1 rfl
theorem dX1_distance_2 : decode cX1_distance 2 = .ok (.iload_n 1, 1) := zd_at zo_cX1_distance_0 2 rfl
theorem dX1_distance_3 : decode cX1_distance 3 = .ok (.iconst 0, 1) := zd_at zo_cX1_distance_0 3 rfl
theorem dX1_distance_4 : decode cX1_distance 4 = .ok (.invokevirtual 74, 3) := zd_at zo_cX1_distance_0 4 rfl
theorem dX1_distance_7 : decode cX1_distance 7 = .ok (.iload_n 2, 1) := zd_at zo_cX1_distance_0 5 rfl
theorem dX1_distance_8 : decode cX1_distance 8 = .ok (.isub, 1) := zd_at zo_cX1_distance_0 6 rfl
theorem dX1_distance_9 : decode cX1_distance 9 = .ok (.iload_n 2, 1) := zd_at zo_cX1_distance_0 7 rfl
theorem dX1_distance_10 : decode cX1_distance 10 = .ok (.aload_n 0, 1) := zd_at zo_cX1_distance_0 8 rfl
theorem dX1_distance_11 : decode cX1_distance 11 = .ok (.iload_n 1, 1) := zd_at zo_cX1_distance_0 9 rfl
theorem dX1_distance_12 : decode cX1_distance 12 = .ok (.iconst 2, 1) := zd_at zo_cX1_distance_0 10 rfl
theorem dX1_distance_13 : decode cX1_distance 13 = .ok (.invokevirtual 74, 3) := zd_at zo_cX1_distance_0 11 rfl
theorem dX1_distance_16 : decode cX1_distance 16 = .ok (.isub, 1) := zd_at zo_cX1_distance_0 12 rfl
theorem dX1_distance_17 : decode cX1_distance 17 = .ok (.invokestatic 82, 3) := zd_at zo_cX1_distance_0 13 rfl
theorem dX1_distance_20 : decode cX1_distance 20 = .ok (.invokestatic 82, 3) := zd_at zo_cX1_distance_0 14 rfl
theorem dX1_distance_23 : decode cX1_distance 23 = .ok (.istore 4, 2) := zd_at zo_cX1_distance_0 15 rfl
theorem dX1_distance_25 : decode cX1_distance 25 = .ok (.iconst 0, 1) := zd_at zo_cX1_distance_0 16 rfl
theorem dX1_distance_26 : decode cX1_distance 26 = .ok (.aload_n 0, 1) := zd_at zo_cX1_distance_0 17 rfl
theorem dX1_distance_27 : decode cX1_distance 27 = .ok (.iload_n 1, 1) := zd_at zo_cX1_distance_0 18 rfl
theorem dX1_distance_28 : decode cX1_distance 28 = .ok (.iconst 1, 1) := zd_at zo_cX1_distance_0 19 rfl
theorem dX1_distance_29 : decode cX1_distance 29 = .ok (.invokevirtual 74, 3) := zd_at zo_cX1_distance_0 20 rfl
theorem dX1_distance_32 : decode cX1_distance 32 = .ok (.iload_n 3, 1) := zd_at zo_cX1_distance_0 21 rfl
theorem dX1_distance_33 : decode cX1_distance 33 = .ok (.isub, 1) := zd_at zo_cX1_distance_0 22 rfl
theorem dX1_distance_34 : decode cX1_distance 34 = .ok (.iload_n 3, 1) := zd_at zo_cX1_distance_0 23 rfl
theorem dX1_distance_35 : decode cX1_distance 35 = .ok (.aload_n 0, 1) := zd_at zo_cX1_distance_0 24 rfl
theorem dX1_distance_36 : decode cX1_distance 36 = .ok (.iload_n 1, 1) := zd_at zo_cX1_distance_0 25 rfl
theorem dX1_distance_37 : decode cX1_distance 37 = .ok (.iconst 3, 1) := zd_at zo_cX1_distance_0 26 rfl
theorem dX1_distance_38 : decode cX1_distance 38 = .ok (.invokevirtual 74, 3) := zd_at zo_cX1_distance_0 27 rfl
theorem dX1_distance_41 : decode cX1_distance 41 = .ok (.isub, 1) := zd_at zo_cX1_distance_0 28 rfl
theorem dX1_distance_42 : decode cX1_distance 42 = .ok (.invokestatic 82, 3) := zd_at zo_cX1_distance_0 29 rfl
theorem dX1_distance_45 : decode cX1_distance 45 = .ok (.invokestatic 82, 3) := zd_at zo_cX1_distance_0 30 rfl
theorem dX1_distance_48 : decode cX1_distance 48 = .ok (.istore 5, 2) := zd_at zo_cX1_distance_0 31 rfl
theorem dX1_distance_50 : decode cX1_distance 50 = .ok (.iload 4, 2) := zd_at zo_cX1_distance_0 32 rfl
theorem dX1_distance_52 : decode cX1_distance 52 = .ok (.iload 4, 2) := zd_at zo_cX1_distance_0 33 rfl
theorem dX1_distance_54 : decode cX1_distance 54 = .ok (.imul, 1) := zd_at zo_cX1_distance_0 34 rfl
theorem dX1_distance_55 : decode cX1_distance 55 = .ok (.iload 5, 2) := zd_at zo_cX1_distance_0 35 rfl
theorem dX1_distance_57 : decode cX1_distance 57 = .ok (.iload 5, 2) := zd_at zo_cX1_distance_0 36 rfl
theorem dX1_distance_59 : decode cX1_distance 59 = .ok (.imul, 1) := zd_at zo_cX1_distance_0 37 rfl
theorem dX1_distance_60 : decode cX1_distance 60 = .ok (.iadd, 1) := zd_at zo_cX1_distance_0 38 rfl
theorem dX1_distance_61 : decode cX1_distance 61 = .ok (.ireturn, 1) := zd_at zo_cX1_distance_0 39 rfl
def zl_cX1_fit_0 : List (Nat × Instr × Nat) := [(0, .aload_n 0, 1), (1, .getfield 21, 3), (4, .iload_n 1, 1), (5, .invokestatic 70, 3), (8, .istore_n 2, 1), (9, .bipush 100, 2), (11, .istore_n 3, 1), (12, .bipush 100, 2), (14, .istore 4, 2), (16, .iconst (-1), 1), (17, .istore 5, 2), (19, .iconst (-1), 1), (20, .istore 6, 2), (22, .iconst 0, 1), (23, .istore 7, 2), (25, .iload 7, 2), (27, .iload_n 2, 1), (28, .if_icmp .ge 94, 3), (31, .aload_n 0, 1), (32, .getfield 24, 3), (35, .iload_n 1, 1), (36, .iconst 5, 1), (37, .imul, 1), (38, .iload 7, 2), (40, .iadd, 1), (41, .invokestatic 70, 3), (44, .iconst 4, 1), (45, .imul, 1), (46, .istore 8, 2), (48, .iload_n 3, 1), (49, .aload_n 0, 1), (50, .getfield 9, 3), (53, .iload 8, 2), (55, .invokestatic 70, 3), (58, .invokestatic 87, 3), (61, .istore_n 3, 1), (62, .iload 4, 2), (64, .aload_n 0, 1), (65, .getfield 9, 3), (68, .iload 8, 2), (70, .iconst 1, 1), (71, .iadd, 1), (72, .invokestatic 70, 3), (75, .invokestatic 87, 3), (78, .istore 4, 2), (80, .iload 5, 2), (82, .aload_n 0, 1), (83, .getfield 9, 3), (86, .iload 8, 2), (88, .iconst 2, 1), (89, .iadd, 1), (90, .invokestatic 70, 3), (93, .invokestatic 82, 3), (96, .istore 5, 2), (98, .iload 6, 2), (100, .aload_n 0, 1), (101, .getfield 9, 3), (104, .iload 8, 2), (106, .iconst 3, 1), (107, .iadd, 1), (108, .invokestatic 70, 3), (111, .invokestatic 82, 3), (114, .istore 6, 2), (116, .iinc 7 1, 3), (119, .goto (-94), 3), (122, .iload_n 1, 1), (123, .iconst 4, 1), (124, .imul, 1), (125, .istore 7, 2), (127, .aload_n 0, 1), (128, .getfield 9, 3), (131, .iload 7, 2), (133, .iload_n 3, 1), (134, .invokestatic 45, 3), (137, .aload_n 0, 1), (138, .getfield 9, 3), (141, .iload 7, 2), (143, .iconst 1, 1), (144, .iadd, 1), (145, .iload 4, 2), (147, .invokestatic 45, 3), (150, .aload_n 0, 1), (151, .getfield 9, 3), (154, .iload 7, 2), (156, .iconst 2, 1), (157, .iadd, 1), (158, .iload 5, 2), (160, .invokestatic 45, 3), (163, .aload_n 0, 1), (164, .getfield 9, 3), (167, .iload 7, 2), (169, .iconst 3, 1), (170, .iadd, 1), (171, .iload 6, 2), (173, .invokestatic 45, 3), (176, .return_, 1)]
theorem zo_cX1_fit_0 : zd_ok cX1_fit zl_cX1_fit_0 = true := by decide +kernel
theorem dX1_fit_0 : decode cX1_fit 0 = .ok (.aload_n 0, 1) := zd_at zo_cX1_fit_0 0 rfl
theorem dX1_fit_1 : decode cX1_fit 1 = .ok (.getfield 21, 3) := zd_at zo_cX1_fit_0 1 rfl
theorem dX1_fit_4 : decode cX1_fit 4 = .ok (.iload_n 1, 1) := zd_at zo_cX1_fit_0 2 rfl
theorem dX1_fit_5 : decode cX1_fit 5 = .ok (.invokestatic 70, 3) := zd_at zo_cX1_fit_0 3 rfl
theorem dX1_fit_8 : decode cX1_fit 8 = .ok (.istore_n 2, 1) := zd_at zo_cX1_fit_0 4 rfl
theorem dX1_fit_9 : decode cX1_fit 9 = .ok (.bipush 100, 2) := zd_at zo_cX1_fit_0 5 rfl
theorem dX1_fit_11 : decode cX1_fit 11 = .ok (.istore_n 3, 1) := zd_at zo_cX1_fit_0 6 rfl
theorem dX1_fit_12 : decode cX1_fit 12 = .ok (.bipush 100, 2) := zd_at zo_cX1_fit_0 7 rfl
theorem dX1_fit_14 : decode cX1_fit 14 = .ok (.istore 4, 2) := zd_at zo_cX1_fit_0 8 rfl
theorem dX1_fit_16 : decode cX1_fit 16 = .ok (.iconst (-1), 1) := zd_at zo_cX1_fit_0 9 rfl
theorem dX1_fit_17 : decode cX1_fit 17 = .ok (.istore 5, 2) := zd_at zo_cX1_fit_0 10 rfl
theorem dX1_fit_19 : decode cX1_fit 19 = .ok (.iconst (-1), 1) := zd_at zo_cX1_fit_0 11 rfl
theorem dX1_fit_20 : decode cX1_fit 20 = .ok (.istore 6, 2) := zd_at zo_cX1_fit_0 12 rfl
theorem dX1_fit_22 : decode cX1_fit 22 = .ok (.iconst 0, 1) := zd_at zo_cX1_fit_0 13 rfl
theorem dX1_fit_23 : decode cX1_fit 23 = .ok (.istore 7, 2) := zd_at zo_cX1_fit_0 14 rfl
theorem dX1_fit_25 : decode cX1_fit 25 = .ok (.iload 7, 2) := zd_at zo_cX1_fit_0 15 rfl
theorem dX1_fit_27 : decode cX1_fit 27 = .ok (.iload_n 2, 1) := zd_at zo_cX1_fit_0 16 rfl
theorem dX1_fit_28 : decode cX1_fit 28 = .ok (.if_icmp .ge 94, 3) := zd_at zo_cX1_fit_0 17 rfl
theorem dX1_fit_31 : decode cX1_fit 31 = .ok (.aload_n 0, 1) := zd_at zo_cX1_fit_0 18 rfl
theorem dX1_fit_32 : decode cX1_fit 32 = .ok (.getfield 24, 3) := zd_at zo_cX1_fit_0 19 rfl
theorem dX1_fit_35 : decode cX1_fit 35 = .ok (.iload_n 1, 1) := zd_at zo_cX1_fit_0 20 rfl
theorem dX1_fit_36 : decode cX1_fit 36 = .ok (.iconst 5, 1) := zd_at zo_cX1_fit_0 21 rfl
theorem dX1_fit_37 : decode cX1_fit 37 = .ok (.imul, 1) := zd_at zo_cX1_fit_0 22 rfl
theorem dX1_fit_38 : decode cX1_fit 38 = .ok (.iload 7, 2) := zd_at zo_cX1_fit_0 23 rfl
theorem dX1_fit_40 : decode cX1_fit 40 = .ok (.iadd, 1) := zd_at zo_cX1_fit_0 24 rfl
theorem dX1_fit_41 : decode cX1_fit 41 = .ok (.invokestatic 70, 3) := zd_at zo_cX1_fit_0 25 rfl
theorem dX1_fit_44 : decode cX1_fit 44 = .ok (.iconst 4, 1) := zd_at zo_cX1_fit_0 26 rfl
theorem dX1_fit_45 : decode cX1_fit 45 = .ok (.imul, 1) := zd_at zo_cX1_fit_0 27 rfl
theorem dX1_fit_46 : decode cX1_fit 46 = .ok (.istore 8, 2) := zd_at zo_cX1_fit_0 28 rfl
theorem dX1_fit_48 : decode cX1_fit 48 = .ok (.iload_n 3, 1) := zd_at zo_cX1_fit_0 29 rfl
theorem dX1_fit_49 : decode cX1_fit 49 = .ok (.aload_n 0, 1) := zd_at zo_cX1_fit_0 30 rfl
theorem dX1_fit_50 : decode cX1_fit 50 = .ok (.getfield 9, 3) := zd_at zo_cX1_fit_0 31 rfl
theorem dX1_fit_53 : decode cX1_fit 53 = .ok (.iload 8, 2) := zd_at zo_cX1_fit_0 32 rfl
theorem dX1_fit_55 : decode cX1_fit 55 = .ok (.invokestatic 70, 3) := zd_at zo_cX1_fit_0 33 rfl
theorem dX1_fit_58 : decode cX1_fit 58 = .ok (.invokestatic 87, 3) := zd_at zo_cX1_fit_0 34 rfl
theorem dX1_fit_61 : decode cX1_fit 61 = .ok (.istore_n 3, 1) := zd_at zo_cX1_fit_0 35 rfl
theorem dX1_fit_62 : decode cX1_fit 62 = .ok (.iload 4, 2) := zd_at zo_cX1_fit_0 36 rfl
theorem dX1_fit_64 : decode cX1_fit 64 = .ok (.aload_n 0, 1) := zd_at zo_cX1_fit_0 37 rfl
theorem dX1_fit_65 : decode cX1_fit 65 = .ok (.getfield 9, 3) := zd_at zo_cX1_fit_0 38 rfl
theorem dX1_fit_68 : decode cX1_fit 68 = .ok (.iload 8, 2) := zd_at zo_cX1_fit_0 39 rfl
theorem dX1_fit_70 : decode cX1_fit 70 = .ok (.iconst 1, 1) := zd_at zo_cX1_fit_0 40 rfl
theorem dX1_fit_71 : decode cX1_fit 71 = .ok (.iadd, 1) := zd_at zo_cX1_fit_0 41 rfl
theorem dX1_fit_72 : decode cX1_fit 72 = .ok (.invokestatic 70, 3) := zd_at zo_cX1_fit_0 42 rfl
theorem dX1_fit_75 : decode cX1_fit 75 = .ok (.invokestatic 87, 3) := zd_at zo_cX1_fit_0 43 rfl
theorem dX1_fit_78 : decode cX1_fit 78 = .ok (.istore 4, 2) := zd_at zo_cX1_fit_0 44 rfl
theorem dX1_fit_80 : decode cX1_fit 80 = .ok (.iload 5, 2) := zd_at zo_cX1_fit_0 45 rfl
theorem dX1_fit_82 : decode cX1_fit 82 = .ok (.aload_n 0, 1) := zd_at zo_cX1_fit_0 46 rfl
theorem dX1_fit_83 : decode cX1_fit 83 = .ok (.getfield 9, 3) := zd_at zo_cX1_fit_0 47 rfl
theorem dX1_fit_86 : decode cX1_fit 86 = .ok (.iload 8, 2) := zd_at zo_cX1_fit_0 48 rfl
theorem dX1_fit_88 : decode cX1_fit 88 = .ok (.iconst 2, 1) := zd_at zo_cX1_fit_0 49 rfl
theorem dX1_fit_89 : decode cX1_fit 89 = .ok (.iadd, 1) := zd_at zo_cX1_fit_0 50 rfl
theorem dX1_fit_90 : decode cX1_fit 90 = .ok (.invokestatic 70, 3) := zd_at zo_cX1_fit_0 51 rfl
theorem dX1_fit_93 : decode cX1_fit 93 = .ok (.invokestatic 82, 3) := zd_at zo_cX1_fit_0 52 rfl
theorem dX1_fit_96 : decode cX1_fit 96 = .ok (.istore 5, 2) := zd_at zo_cX1_fit_0 53 rfl
theorem dX1_fit_98 : decode cX1_fit 98 = .ok (.iload 6, 2) := zd_at zo_cX1_fit_0 54 rfl
theorem dX1_fit_100 : decode cX1_fit 100 = .ok (.aload_n 0, 1) := zd_at zo_cX1_fit_0 55 rfl
theorem dX1_fit_101 : decode cX1_fit 101 = .ok (.getfield 9, 3) := zd_at zo_cX1_fit_0 56 rfl
theorem dX1_fit_104 : decode cX1_fit 104 = .ok (.iload 8, 2) := zd_at zo_cX1_fit_0 57 rfl
theorem dX1_fit_106 : decode cX1_fit 106 = .ok (.iconst 3, 1) := zd_at zo_cX1_fit_0 58 rfl
theorem dX1_fit_107 : decode cX1_fit 107 = .ok (.iadd, 1) := zd_at zo_cX1_fit_0 59 rfl
theorem dX1_fit_108 : decode cX1_fit 108 = .ok (.invokestatic 70, 3) := zd_at zo_cX1_fit_0 60 rfl
theorem dX1_fit_111 : decode cX1_fit 111 = .ok (.invokestatic 82, 3) := zd_at zo_cX1_fit_0 61 rfl
theorem dX1_fit_114 : decode cX1_fit 114 = .ok (.istore 6, 2) := zd_at zo_cX1_fit_0 62 rfl
theorem dX1_fit_116 : decode cX1_fit 116 = .ok (.iinc 7 1, 3) := zd_at zo_cX1_fit_0 63 rfl
theorem dX1_fit_119 : decode cX1_fit 119 = .ok (.goto (-94), 3) := zd_at zo_cX1_fit_0 64 rfl
theorem dX1_fit_122 : decode cX1_fit 122 = .ok (.iload_n 1, 1) := zd_at zo_cX1_fit_0 65 rfl
theorem dX1_fit_123 : decode cX1_fit 123 = .ok (.iconst 4, 1) := zd_at zo_cX1_fit_0 66 rfl
theorem dX1_fit_124 : decode cX1_fit 124 = .ok (.imul, 1) := zd_at zo_cX1_fit_0 67 rfl
theorem dX1_fit_125 : decode cX1_fit 125 = .ok (.istore 7, 2) := zd_at zo_cX1_fit_0 68 rfl
theorem dX1_fit_127 : decode cX1_fit 127 = .ok (.aload_n 0, 1) := zd_at zo_cX1_fit_0 69 rfl
theorem dX1_fit_128 : decode cX1_fit 128 = .ok (.getfield 9, 3) := zd_at zo_cX1_fit_0 70 rfl
theorem dX1_fit_131 : decode cX1_fit 131 = .ok (.iload 7, 2) := zd_at zo_cX1_fit_0 71 rfl
theorem dX1_fit_133 : decode cX1_fit 133 = .ok (.iload_n 3, 1) := zd_at zo_cX1_fit_0 72 rfl
theorem dX1_fit_134 : decode cX1_fit 134 = .ok (.invokestatic 45, 3) := zd_at zo_cX1_fit_0 73 rfl
theorem dX1_fit_137 : decode cX1_fit 137 = .ok (.aload_n 0, 1) := zd_at zo_cX1_fit_0 74 rfl
theorem dX1_fit_138 : decode cX1_fit 138 = .ok (.getfield 9, 3) := zd_at zo_cX1_fit_0 75 rfl
theorem dX1_fit_141 : decode cX1_fit 141 = .ok (.iload 7, 2) := zd_at zo_cX1_fit_0 76 rfl
theorem dX1_fit_143 : decode cX1_fit 143 = .ok (.iconst 1, 1) := zd_at zo_cX1_fit_0 77 rfl
theorem dX1_fit_144 : decode cX1_fit 144 = .ok (.iadd, 1) := zd_at zo_cX1_fit_0 78 rfl
theorem dX1_fit_145 : decode cX1_fit 145 = .ok (.iload 4, 2) := zd_at zo_cX1_fit_0 79 rfl
theorem dX1_fit_147 : decode cX1_fit 147 = .ok (.invokestatic 45, 3) := zd_at zo_cX1_fit_0 80 rfl
theorem dX1_fit_150 : decode cX1_fit 150 = .ok (.aload_n 0, 1) := zd_at zo_cX1_fit_0 81 rfl
theorem dX1_fit_151 : decode cX1_fit 151 = .ok (.getfield 9, 3) := zd_at zo_cX1_fit_0 82 rfl
theorem dX1_fit_154 : decode cX1_fit 154 = .ok (.iload 7, 2) := zd_at zo_cX1_fit_0 83 rfl
theorem dX1_fit_156 : decode cX1_fit 156 = .ok (.iconst 2, 1) := zd_at zo_cX1_fit_0 84 rfl
theorem dX1_fit_157 : decode cX1_fit 157 = .ok (.iadd, 1) := zd_at zo_cX1_fit_0 85 rfl
theorem dX1_fit_158 : decode cX1_fit 158 = .ok (.iload 5, 2) := zd_at zo_cX1_fit_0 86 rfl
theorem dX1_fit_160 : decode cX1_fit 160 = .ok (.invokestatic 45, 3) := zd_at zo_cX1_fit_0 87 rfl
theorem dX1_fit_163 : decode cX1_fit 163 = .ok (.aload_n 0, 1) := zd_at zo_cX1_fit_0 88 rfl
theorem dX1_fit_164 : decode cX1_fit 164 = .ok (.getfield 9, 3) := zd_at zo_cX1_fit_0 89 rfl
theorem dX1_fit_167 : decode cX1_fit 167 = .ok (.iload 7, 2) := zd_at zo_cX1_fit_0 90 rfl
theorem dX1_fit_169 : decode cX1_fit 169 = .ok (.iconst 3, 1) := zd_at zo_cX1_fit_0 91 rfl
theorem dX1_fit_170 : decode cX1_fit 170 = .ok (.iadd, 1) := zd_at zo_cX1_fit_0 92 rfl
theorem dX1_fit_171 : decode cX1_fit 171 = .ok (.iload 6, 2) := zd_at zo_cX1_fit_0 93 rfl
theorem dX1_fit_173 : decode cX1_fit 173 = .ok (.invokestatic 45, 3) := zd_at zo_cX1_fit_0 94 rfl
theorem dX1_fit_176 : decode cX1_fit 176 = .ok (.return_, 1) := zd_at zo_cX1_fit_0 95 rfl
def zl_cX1_fitUpward_0 : List (Nat × Instr × Nat) := [(0, .iload_n 1, 1), (1, .istore_n 2, 1), (2, .iconst 0, 1), (3, .istore_n 3, 1), (4, .iload_n 3, 1), (5, .bipush 8, 2), (7, .if_icmp .ge 28, 3), (10, .iload_n 2, 1), (11, .iconst (-1), 1), (12, .if_icmp .eq 23, 3), (15, .aload_n 0, 1), (16, .iload_n 2, 1), (17, .invokevirtual 90, 3), (20, .aload_n 0, 1), (21, .getfield 18, 3), (24, .iload_n 2, 1), (25, .invokestatic 70, 3), (28, .istore_n 2, 1), (29, .iinc 3 1, 3), (32, .goto (-28), 3), (35, .return_, 1)]
theorem zo_cX1_fitUpward_0 : zd_ok cX1_fitUpward zl_cX1_fitUpward_0 = true := by decide +kernel
theorem dX1_fitUpward_0 : decode cX1_fitUpward 0 = .ok (.iload_n 1, 1) := zd_at zo_cX1_fitUpward_0 0 rfl
theorem dX1_fitUpward_1 : decode cX1_fitUpward 1 = .ok (.istore_n 2, 1) := zd_at zo_cX1_fitUpward_0 1 rfl
theorem dX1_fitUpward_2 : decode cX1_fitUpward 2 = .ok (.iconst 0, 1) := zd_at zo_cX1_fitUpward_0 2 rfl
theorem dX1_fitUpward_3 : decode cX1_fitUpward 3 = .ok (.istore_n 3, 1) := zd_at zo_cX1_fitUpward_0 3 rfl
theorem dX1_fitUpward_4 : decode cX1_fitUpward 4 = .ok (.iload_n 3, 1) := zd_at zo_cX1_fitUpward_0 4 rfl
theorem dX1_fitUpward_5 : decode cX1_fitUpward 5 = .ok (.bipush 8, 2) := zd_at zo_cX1_fitUpward_0 5 rfl
theorem dX1_fitUpward_7 : decode cX1_fitUpward 7 = .ok (.if_icmp .ge 28, 3) := zd_at zo_cX1_fitUpward_0 6 rfl
theorem dX1_fitUpward_10 : decode cX1_fitUpward 10 = .ok (.iload_n 2, 1) := zd_at zo_cX1_fitUpward_0 7 rfl
theorem dX1_fitUpward_11 : decode cX1_fitUpward 11 = .ok (.iconst (-1), 1) := zd_at zo_cX1_fitUpward_0 8 rfl
theorem dX1_fitUpward_12 : decode cX1_fitUpward 12 = .ok (.if_icmp .eq 23, 3) := zd_at zo_cX1_fitUpward_0 9 rfl
theorem dX1_fitUpward_15 : decode cX1_fitUpward 15 = .ok (.aload_n 0, 1) := zd_at zo_cX1_fitUpward_0 10 rfl
theorem dX1_fitUpward_16 : decode cX1_fitUpward 16 = .ok (.iload_n 2, 1) := zd_at zo_cX1_fitUpward_0 11 rfl
theorem dX1_fitUpward_17 : decode cX1_fitUpward 17 = .ok (.invokevirtual 90, 3) := zd_at zo_cX1_fitUpward_0 12 rfl
theorem dX1_fitUpward_20 : decode cX1_fitUpward 20 = .ok (.aload_n 0, 1) := zd_at zo_cX1_fitUpward_0 13 rfl
theorem dX1_fitUpward_21 : decode cX1_fitUpward 21 = .ok (.getfield 18, 3) := zd_at zo_cX1_fitUpward_0 14 rfl
theorem dX1_fitUpward_24 : decode cX1_fitUpward 24 = .ok (.iload_n 2, 1) := zd_at zo_cX1_fitUpward_0 15 rfl
theorem dX1_fitUpward_25 : decode cX1_fitUpward 25 = .ok (.invokestatic 70, 3) := zd_at zo_cX1_fitUpward_0 16 rfl
theorem dX1_fitUpward_28 : decode cX1_fitUpward 28 = .ok (.istore_n 2, 1) := zd_at zo_cX1_fitUpward_0 17 rfl
theorem dX1_fitUpward_29 : decode cX1_fitUpward 29 = .ok (.iinc 3 1, 3) := zd_at zo_cX1_fitUpward_0 18 rfl
theorem dX1_fitUpward_32 : decode cX1_fitUpward 32 = .ok (.goto (-28), 3) := zd_at zo_cX1_fitUpward_0 19 rfl
theorem dX1_fitUpward_35 : decode cX1_fitUpward 35 = .ok (.return_, 1) := zd_at zo_cX1_fitUpward_0 20 rfl
def zl_cX1_levelOf_0 : List (Nat × Instr × Nat) := [(0, .aload_n 0, 1), (1, .getfield 15, 3), (4, .iload_n 1, 1), (5, .invokestatic 70, 3), (8, .ireturn, 1)]
theorem zo_cX1_levelOf_0 : zd_ok cX1_levelOf zl_cX1_levelOf_0 = true := by decide +kernel
theorem dX1_levelOf_0 : decode cX1_levelOf 0 = .ok (.aload_n 0, 1) := zd_at zo_cX1_levelOf_0 0 rfl
theorem dX1_levelOf_1 : decode cX1_levelOf 1 = .ok (.getfield 15, 3) := zd_at zo_cX1_levelOf_0 1 rfl
theorem dX1_levelOf_4 : decode cX1_levelOf 4 = .ok (.iload_n 1, 1) := zd_at zo_cX1_levelOf_0 2 rfl
theorem dX1_levelOf_5 : decode cX1_levelOf 5 = .ok (.invokestatic 70, 3) := zd_at zo_cX1_levelOf_0 3 rfl
theorem dX1_levelOf_8 : decode cX1_levelOf 8 = .ok (.ireturn, 1) := zd_at zo_cX1_levelOf_0 4 rfl
def zl_cX1_sizeOf_0 : List (Nat × Instr × Nat) := [(0, .aload_n 0, 1), (1, .getfield 21, 3), (4, .iload_n 1, 1), (5, .invokestatic 70, 3), (8, .ireturn, 1)]
theorem zo_cX1_sizeOf_0 : zd_ok cX1_sizeOf zl_cX1_sizeOf_0 = true := by decide +kernel
theorem dX1_sizeOf_0 : decode cX1_sizeOf 0 = .ok (.aload_n 0, 1) := zd_at zo_cX1_sizeOf_0 0 rfl
theorem dX1_sizeOf_1 : decode cX1_sizeOf 1 = .ok (.getfield 21, 3) := zd_at zo_cX1_sizeOf_0 1 rfl
theorem dX1_sizeOf_4 : decode cX1_sizeOf 4 = .ok (.iload_n 1, 1) := zd_at zo_cX1_sizeOf_0 2 rfl
theorem dX1_sizeOf_5 : decode cX1_sizeOf 5 = .ok (.invokestatic 70, 3) := zd_at zo_cX1_sizeOf_0 3 rfl
theorem dX1_sizeOf_8 : decode cX1_sizeOf 8 = .ok (.ireturn, 1) := zd_at zo_cX1_sizeOf_0 4 rfl
def zl_cX1_nodeAbove_0 : List (Nat × Instr × Nat) := [(0, .aload_n 0, 1), (1, .getfield 18, 3), (4, .iload_n 1, 1), (5, .invokestatic 70, 3), (8, .ireturn, 1)]
theorem zo_cX1_nodeAbove_0 : zd_ok cX1_nodeAbove zl_cX1_nodeAbove_0 = true := by decide +kernel
theorem dX1_nodeAbove_0 : decode cX1_nodeAbove 0 = .ok (.aload_n 0, 1) := zd_at zo_cX1_nodeAbove_0 0 rfl
theorem dX1_nodeAbove_1 : decode cX1_nodeAbove 1 = .ok (.getfield 18, 3) := zd_at zo_cX1_nodeAbove_0 1 rfl
theorem dX1_nodeAbove_4 : decode cX1_nodeAbove 4 = .ok (.iload_n 1, 1) := zd_at zo_cX1_nodeAbove_0 2 rfl
theorem dX1_nodeAbove_5 : decode cX1_nodeAbove 5 = .ok (.invokestatic 70, 3) := zd_at zo_cX1_nodeAbove_0 3 rfl
theorem dX1_nodeAbove_8 : decode cX1_nodeAbove 8 = .ok (.ireturn, 1) := zd_at zo_cX1_nodeAbove_0 4 rfl
def zl_cX1_entryOf_0 : List (Nat × Instr × Nat) := [(0, .aload_n 0, 1), (1, .getfield 24, 3), (4, .iload_n 1, 1), (5, .iconst 5, 1), (6, .imul, 1), (7, .iload_n 2, 1), (8, .iadd, 1), (9, .invokestatic 70, 3), (12, .ireturn, 1)]
theorem zo_cX1_entryOf_0 : zd_ok cX1_entryOf zl_cX1_entryOf_0 = true := by decide +kernel
theorem dX1_entryOf_0 : decode cX1_entryOf 0 = .ok (.aload_n 0, 1) := zd_at zo_cX1_entryOf_0 0 rfl
theorem dX1_entryOf_1 : decode cX1_entryOf 1 = .ok (.getfield 24, 3) := zd_at zo_cX1_entryOf_0 1 rfl
theorem dX1_entryOf_4 : decode cX1_entryOf 4 = .ok (.iload_n 1, 1) := zd_at zo_cX1_entryOf_0 2 rfl
theorem dX1_entryOf_5 : decode cX1_entryOf 5 = .ok (.iconst 5, 1) := zd_at zo_cX1_entryOf_0 3 rfl
theorem dX1_entryOf_6 : decode cX1_entryOf 6 = .ok (.imul, 1) := zd_at zo_cX1_entryOf_0 4 rfl
theorem dX1_entryOf_7 : decode cX1_entryOf 7 = .ok (.iload_n 2, 1) := zd_at zo_cX1_entryOf_0 5 rfl
theorem dX1_entryOf_8 : decode cX1_entryOf 8 = .ok (.iadd, 1) := zd_at zo_cX1_entryOf_0 6 rfl
theorem dX1_entryOf_9 : decode cX1_entryOf 9 = .ok (.invokestatic 70, 3) := zd_at zo_cX1_entryOf_0 7 rfl
theorem dX1_entryOf_12 : decode cX1_entryOf 12 = .ok (.ireturn, 1) := zd_at zo_cX1_entryOf_0 8 rfl
def zl_cX1_newNode_0 : List (Nat × Instr × Nat) := [(0, .bipush 24, 2), (2, .istore_n 2, 1), (3, .iload_n 2, 1), (4, .bipush 48, 2), (6, .if_icmp .ge 51, 3), (9, .aload_n 0, 1), (10, .getfield 15, 3), (13, .iload_n 2, 1), (14, .invokestatic 70, 3), (17, .bipush (-2), 2), (19, .if_icmp .ne 32, 3), (22, .aload_n 0, 1), (23, .getfield 15, 3), (26, .iload_n 2, 1), (27, .iload_n 1, 1), (28, .invokestatic 45, 3), (31, .aload_n 0, 1), (32, .getfield 18, 3), (35, .iload_n 2, 1), (36, .iconst (-1), 1), (37, .invokestatic 45, 3), (40, .aload_n 0, 1), (41, .getfield 21, 3), (44, .iload_n 2, 1), (45, .iconst 0, 1), (46, .invokestatic 45, 3), (49, .iload_n 2, 1), (50, .ireturn, 1), (51, .iinc 2 1, 3), (54, .goto (-51), 3), (57, .iconst (-1), 1), (58, .ireturn, 1)]
theorem zo_cX1_newNode_0 : zd_ok cX1_newNode zl_cX1_newNode_0 = true := by decide +kernel
theorem dX1_newNode_0 : decode cX1_newNode 0 = .ok (.bipush 24, 2) := zd_at zo_cX1_newNode_0 0 rfl
theorem dX1_newNode_2 : decode cX1_newNode 2 = .ok (.istore_n 2, 1) := zd_at zo_cX1_newNode_0 1 rfl
theorem dX1_newNode_3 : decode cX1_newNode 3 = .ok (.iload_n 2, 1) := zd_at zo_cX1_newNode_0 2 rfl
theorem dX1_newNode_4 : decode cX1_newNode 4 = .ok (.bipush 48, 2) := zd_at zo_cX1_newNode_0 3 rfl
theorem dX1_newNode_6 : decode cX1_newNode 6 = .ok (.if_icmp .ge 51, 3) := zd_at zo_cX1_newNode_0 4 rfl
theorem dX1_newNode_9 : decode cX1_newNode 9 = .ok (.aload_n 0, 1) := zd_at zo_cX1_newNode_0 5 rfl
theorem dX1_newNode_10 : decode cX1_newNode 10 = .ok (.getfield 15, 3) := zd_at zo_cX1_newNode_0 6 rfl
theorem dX1_newNode_13 : decode cX1_newNode 13 = .ok (.iload_n 2, 1) := zd_at zo_cX1_newNode_0 7 rfl
theorem dX1_newNode_14 : decode cX1_newNode 14 = .ok (.invokestatic 70, 3) := zd_at zo_cX1_newNode_0 8 rfl
theorem dX1_newNode_17 : decode cX1_newNode 17 = .ok (.bipush (-2), 2) := zd_at zo_cX1_newNode_0 9 rfl
theorem dX1_newNode_19 : decode cX1_newNode 19 = .ok (.if_icmp .ne 32, 3) := zd_at zo_cX1_newNode_0 10 rfl
theorem dX1_newNode_22 : decode cX1_newNode 22 = .ok (.aload_n 0, 1) := zd_at zo_cX1_newNode_0 11 rfl
theorem dX1_newNode_23 : decode cX1_newNode 23 = .ok (.getfield 15, 3) := zd_at zo_cX1_newNode_0 12 rfl
theorem dX1_newNode_26 : decode cX1_newNode 26 = .ok (.iload_n 2, 1) := zd_at zo_cX1_newNode_0 13 rfl
theorem dX1_newNode_27 : decode cX1_newNode 27 = .ok (.iload_n 1, 1) := zd_at zo_cX1_newNode_0 14 rfl
theorem dX1_newNode_28 : decode cX1_newNode 28 = .ok (.invokestatic 45, 3) := zd_at zo_cX1_newNode_0 15 rfl
theorem dX1_newNode_31 : decode cX1_newNode 31 = .ok (.aload_n 0, 1) := zd_at zo_cX1_newNode_0 16 rfl
theorem dX1_newNode_32 : decode cX1_newNode 32 = .ok (.getfield 18, 3) := zd_at zo_cX1_newNode_0 17 rfl
theorem dX1_newNode_35 : decode cX1_newNode 35 = .ok (.iload_n 2, 1) := zd_at zo_cX1_newNode_0 18 rfl
theorem dX1_newNode_36 : decode cX1_newNode 36 = .ok (.iconst (-1), 1) := zd_at zo_cX1_newNode_0 19 rfl
theorem dX1_newNode_37 : decode cX1_newNode 37 = .ok (.invokestatic 45, 3) := zd_at zo_cX1_newNode_0 20 rfl
theorem dX1_newNode_40 : decode cX1_newNode 40 = .ok (.aload_n 0, 1) := zd_at zo_cX1_newNode_0 21 rfl
theorem dX1_newNode_41 : decode cX1_newNode 41 = .ok (.getfield 21, 3) := zd_at zo_cX1_newNode_0 22 rfl
theorem dX1_newNode_44 : decode cX1_newNode 44 = .ok (.iload_n 2, 1) := zd_at zo_cX1_newNode_0 23 rfl
theorem dX1_newNode_45 : decode cX1_newNode 45 = .ok (.iconst 0, 1) := zd_at zo_cX1_newNode_0 24 rfl
theorem dX1_newNode_46 : decode cX1_newNode 46 = .ok (.invokestatic 45, 3) := zd_at zo_cX1_newNode_0 25 rfl
theorem dX1_newNode_49 : decode cX1_newNode 49 = .ok (.iload_n 2, 1) := zd_at zo_cX1_newNode_0 26 rfl
theorem dX1_newNode_50 : decode cX1_newNode 50 = .ok (.ireturn, 1) := zd_at zo_cX1_newNode_0 27 rfl
theorem dX1_newNode_51 : decode cX1_newNode 51 = .ok (.iinc 2 1, 3) := zd_at zo_cX1_newNode_0 28 rfl
theorem dX1_newNode_54 : decode cX1_newNode 54 = .ok (.goto (-51), 3) := zd_at zo_cX1_newNode_0 29 rfl
theorem dX1_newNode_57 : decode cX1_newNode 57 = .ok (.iconst (-1), 1) := zd_at zo_cX1_newNode_0 30 rfl
theorem dX1_newNode_58 : decode cX1_newNode 58 = .ok (.ireturn, 1) := zd_at zo_cX1_newNode_0 31 rfl
def zl_cX1_placeOf_0 : List (Nat × Instr × Nat) := [(0, .aload_n 0, 1), (1, .getfield 21, 3), (4, .iload_n 1, 1), (5, .invokestatic 70, 3), (8, .istore_n 3, 1), (9, .iconst 0, 1), (10, .istore 4, 2), (12, .iload 4, 2), (14, .iload_n 3, 1), (15, .if_icmp .ge 29, 3), (18, .aload_n 0, 1), (19, .getfield 24, 3), (22, .iload_n 1, 1), (23, .iconst 5, 1), (24, .imul, 1), (25, .iload 4, 2), (27, .iadd, 1), (28, .invokestatic 70, 3), (31, .iload_n 2, 1), (32, .if_icmp .ne 6, 3), (35, .iload 4, 2), (37, .ireturn, 1), (38, .iinc 4 1, 3), (41, .goto (-29), 3), (44, .iload_n 3, 1), (45, .ireturn, 1)]
theorem zo_cX1_placeOf_0 : zd_ok cX1_placeOf zl_cX1_placeOf_0 = true := by decide +kernel
theorem dX1_placeOf_0 : decode cX1_placeOf 0 = .ok (.aload_n 0, 1) := zd_at zo_cX1_placeOf_0 0 rfl
theorem dX1_placeOf_1 : decode cX1_placeOf 1 = .ok (.getfield 21, 3) := zd_at zo_cX1_placeOf_0 1 rfl
theorem dX1_placeOf_4 : decode cX1_placeOf 4 = .ok (.iload_n 1, 1) := zd_at zo_cX1_placeOf_0 2 rfl
theorem dX1_placeOf_5 : decode cX1_placeOf 5 = .ok (.invokestatic 70, 3) := zd_at zo_cX1_placeOf_0 3 rfl
theorem dX1_placeOf_8 : decode cX1_placeOf 8 = .ok (.istore_n 3, 1) := zd_at zo_cX1_placeOf_0 4 rfl
theorem dX1_placeOf_9 : decode cX1_placeOf 9 = .ok (.iconst 0, 1) := zd_at zo_cX1_placeOf_0 5 rfl
theorem dX1_placeOf_10 : decode cX1_placeOf 10 = .ok (.istore 4, 2) := zd_at zo_cX1_placeOf_0 6 rfl
theorem dX1_placeOf_12 : decode cX1_placeOf 12 = .ok (.iload 4, 2) := zd_at zo_cX1_placeOf_0 7 rfl
theorem dX1_placeOf_14 : decode cX1_placeOf 14 = .ok (.iload_n 3, 1) := zd_at zo_cX1_placeOf_0 8 rfl
theorem dX1_placeOf_15 : decode cX1_placeOf 15 = .ok (.if_icmp .ge 29, 3) := zd_at zo_cX1_placeOf_0 9 rfl
theorem dX1_placeOf_18 : decode cX1_placeOf 18 = .ok (.aload_n 0, 1) := zd_at zo_cX1_placeOf_0 10 rfl
theorem dX1_placeOf_19 : decode cX1_placeOf 19 = .ok (.getfield 24, 3) := zd_at zo_cX1_placeOf_0 11 rfl
theorem dX1_placeOf_22 : decode cX1_placeOf 22 = .ok (.iload_n 1, 1) := zd_at zo_cX1_placeOf_0 12 rfl
theorem dX1_placeOf_23 : decode cX1_placeOf 23 = .ok (.iconst 5, 1) := zd_at zo_cX1_placeOf_0 13 rfl
theorem dX1_placeOf_24 : decode cX1_placeOf 24 = .ok (.imul, 1) := zd_at zo_cX1_placeOf_0 14 rfl
theorem dX1_placeOf_25 : decode cX1_placeOf 25 = .ok (.iload 4, 2) := zd_at zo_cX1_placeOf_0 15 rfl
theorem dX1_placeOf_27 : decode cX1_placeOf 27 = .ok (.iadd, 1) := zd_at zo_cX1_placeOf_0 16 rfl
theorem dX1_placeOf_28 : decode cX1_placeOf 28 = .ok (.invokestatic 70, 3) := zd_at zo_cX1_placeOf_0 17 rfl
theorem dX1_placeOf_31 : decode cX1_placeOf 31 = .ok (.iload_n 2, 1) := zd_at zo_cX1_placeOf_0 18 rfl
theorem dX1_placeOf_32 : decode cX1_placeOf 32 = .ok (.if_icmp .ne 6, 3) := zd_at zo_cX1_placeOf_0 19 rfl
theorem dX1_placeOf_35 : decode cX1_placeOf 35 = .ok (.iload 4, 2) := zd_at zo_cX1_placeOf_0 20 rfl
theorem dX1_placeOf_37 : decode cX1_placeOf 37 = .ok (.ireturn, 1) := zd_at zo_cX1_placeOf_0 21 rfl
theorem dX1_placeOf_38 : decode cX1_placeOf 38 = .ok (.iinc 4 1, 3) := zd_at zo_cX1_placeOf_0 22 rfl
theorem dX1_placeOf_41 : decode cX1_placeOf 41 = .ok (.goto (-29), 3) := zd_at zo_cX1_placeOf_0 23 rfl
theorem dX1_placeOf_44 : decode cX1_placeOf 44 = .ok (.iload_n 3, 1) := zd_at zo_cX1_placeOf_0 24 rfl
theorem dX1_placeOf_45 : decode cX1_placeOf 45 = .ok (.ireturn, 1) := zd_at zo_cX1_placeOf_0 25 rfl
def zl_cX1_attach_0 : List (Nat × Instr × Nat) := [(0, .aload_n 0, 1), (1, .getfield 21, 3), (4, .iload_n 1, 1), (5, .invokestatic 70, 3), (8, .istore 4, 2), (10, .iload_n 1, 1), (11, .iconst 5, 1), (12, .imul, 1), (13, .istore 5, 2), (15, .iload 4, 2), (17, .istore 6, 2), (19, .iload 6, 2), (21, .iload_n 2, 1), (22, .if_icmp .le 35, 3), (25, .aload_n 0, 1), (26, .getfield 24, 3), (29, .iload 5, 2), (31, .iload 6, 2), (33, .iadd, 1), (34, .aload_n 0, 1), (35, .getfield 24, 3), (38, .iload 5, 2), (40, .iload 6, 2), (42, .iadd, 1), (43, .iconst 1, 1), (44, .isub, 1), (45, .invokestatic 70, 3), (48, .invokestatic 45, 3), (51, .iinc 6 (-1), 3), (54, .goto (-35), 3), (57, .aload_n 0, 1), (58, .getfield 24, 3), (61, .iload 5, 2), (63, .iload_n 2, 1), (64, .iadd, 1), (65, .iload_n 3, 1), (66, .invokestatic 45, 3), (69, .aload_n 0, 1), (70, .getfield 21, 3), (73, .iload_n 1, 1), (74, .iload 4, 2), (76, .iconst 1, 1), (77, .iadd, 1), (78, .invokestatic 45, 3), (81, .aload_n 0, 1), (82, .getfield 18, 3), (85, .iload_n 3, 1), (86, .iload_n 1, 1), (87, .invokestatic 45, 3), (90, .return_, 1)]
theorem zo_cX1_attach_0 : zd_ok cX1_attach zl_cX1_attach_0 = true := by decide +kernel
theorem dX1_attach_0 : decode cX1_attach 0 = .ok (.aload_n 0, 1) := zd_at zo_cX1_attach_0 0 rfl
theorem dX1_attach_1 : decode cX1_attach 1 = .ok (.getfield 21, 3) := zd_at zo_cX1_attach_0 1 rfl
theorem dX1_attach_4 : decode cX1_attach 4 = .ok (.iload_n 1, 1) := zd_at zo_cX1_attach_0 2 rfl
theorem dX1_attach_5 : decode cX1_attach 5 = .ok (.invokestatic 70, 3) := zd_at zo_cX1_attach_0 3 rfl
theorem dX1_attach_8 : decode cX1_attach 8 = .ok (.istore 4, 2) := zd_at zo_cX1_attach_0 4 rfl
theorem dX1_attach_10 : decode cX1_attach 10 = .ok (.iload_n 1, 1) := zd_at zo_cX1_attach_0 5 rfl
theorem dX1_attach_11 : decode cX1_attach 11 = .ok (.iconst 5, 1) := zd_at zo_cX1_attach_0 6 rfl
theorem dX1_attach_12 : decode cX1_attach 12 = .ok (.imul, 1) := zd_at zo_cX1_attach_0 7 rfl
theorem dX1_attach_13 : decode cX1_attach 13 = .ok (.istore 5, 2) := zd_at zo_cX1_attach_0 8 rfl
theorem dX1_attach_15 : decode cX1_attach 15 = .ok (.iload 4, 2) := zd_at zo_cX1_attach_0 9 rfl
theorem dX1_attach_17 : decode cX1_attach 17 = .ok (.istore 6, 2) := zd_at zo_cX1_attach_0 10 rfl
theorem dX1_attach_19 : decode cX1_attach 19 = .ok (.iload 6, 2) := zd_at zo_cX1_attach_0 11 rfl
theorem dX1_attach_21 : decode cX1_attach 21 = .ok (.iload_n 2, 1) := zd_at zo_cX1_attach_0 12 rfl
theorem dX1_attach_22 : decode cX1_attach 22 = .ok (.if_icmp .le 35, 3) := zd_at zo_cX1_attach_0 13 rfl
theorem dX1_attach_25 : decode cX1_attach 25 = .ok (.aload_n 0, 1) := zd_at zo_cX1_attach_0 14 rfl
theorem dX1_attach_26 : decode cX1_attach 26 = .ok (.getfield 24, 3) := zd_at zo_cX1_attach_0 15 rfl
theorem dX1_attach_29 : decode cX1_attach 29 = .ok (.iload 5, 2) := zd_at zo_cX1_attach_0 16 rfl
theorem dX1_attach_31 : decode cX1_attach 31 = .ok (.iload 6, 2) := zd_at zo_cX1_attach_0 17 rfl
theorem dX1_attach_33 : decode cX1_attach 33 = .ok (.iadd, 1) := zd_at zo_cX1_attach_0 18 rfl
theorem dX1_attach_34 : decode cX1_attach 34 = .ok (.aload_n 0, 1) := zd_at zo_cX1_attach_0 19 rfl
theorem dX1_attach_35 : decode cX1_attach 35 = .ok (.getfield 24, 3) := zd_at zo_cX1_attach_0 20 rfl
theorem dX1_attach_38 : decode cX1_attach 38 = .ok (.iload 5, 2) := zd_at zo_cX1_attach_0 21 rfl
theorem dX1_attach_40 : decode cX1_attach 40 = .ok (.iload 6, 2) := zd_at zo_cX1_attach_0 22 rfl
theorem dX1_attach_42 : decode cX1_attach 42 = .ok (.iadd, 1) := zd_at zo_cX1_attach_0 23 rfl
theorem dX1_attach_43 : decode cX1_attach 43 = .ok (.iconst 1, 1) := zd_at zo_cX1_attach_0 24 rfl
theorem dX1_attach_44 : decode cX1_attach 44 = .ok (.isub, 1) := zd_at zo_cX1_attach_0 25 rfl
theorem dX1_attach_45 : decode cX1_attach 45 = .ok (.invokestatic 70, 3) := zd_at zo_cX1_attach_0 26 rfl
theorem dX1_attach_48 : decode cX1_attach 48 = .ok (.invokestatic 45, 3) := zd_at zo_cX1_attach_0 27 rfl
theorem dX1_attach_51 : decode cX1_attach 51 = .ok (.iinc 6 (-1), 3) := zd_at zo_cX1_attach_0 28 rfl
theorem dX1_attach_54 : decode cX1_attach 54 = .ok (.goto (-35), 3) := zd_at zo_cX1_attach_0 29 rfl
theorem dX1_attach_57 : decode cX1_attach 57 = .ok (.aload_n 0, 1) := zd_at zo_cX1_attach_0 30 rfl
theorem dX1_attach_58 : decode cX1_attach 58 = .ok (.getfield 24, 3) := zd_at zo_cX1_attach_0 31 rfl
theorem dX1_attach_61 : decode cX1_attach 61 = .ok (.iload 5, 2) := zd_at zo_cX1_attach_0 32 rfl
theorem dX1_attach_63 : decode cX1_attach 63 = .ok (.iload_n 2, 1) := zd_at zo_cX1_attach_0 33 rfl
theorem dX1_attach_64 : decode cX1_attach 64 = .ok (.iadd, 1) := zd_at zo_cX1_attach_0 34 rfl
theorem dX1_attach_65 : decode cX1_attach 65 = .ok (.iload_n 3, 1) := zd_at zo_cX1_attach_0 35 rfl
theorem dX1_attach_66 : decode cX1_attach 66 = .ok (.invokestatic 45, 3) := zd_at zo_cX1_attach_0 36 rfl
theorem dX1_attach_69 : decode cX1_attach 69 = .ok (.aload_n 0, 1) := zd_at zo_cX1_attach_0 37 rfl
theorem dX1_attach_70 : decode cX1_attach 70 = .ok (.getfield 21, 3) := zd_at zo_cX1_attach_0 38 rfl
theorem dX1_attach_73 : decode cX1_attach 73 = .ok (.iload_n 1, 1) := zd_at zo_cX1_attach_0 39 rfl
theorem dX1_attach_74 : decode cX1_attach 74 = .ok (.iload 4, 2) := zd_at zo_cX1_attach_0 40 rfl
theorem dX1_attach_76 : decode cX1_attach 76 = .ok (.iconst 1, 1) := zd_at zo_cX1_attach_0 41 rfl
theorem dX1_attach_77 : decode cX1_attach 77 = .ok (.iadd, 1) := zd_at zo_cX1_attach_0 42 rfl
theorem dX1_attach_78 : decode cX1_attach 78 = .ok (.invokestatic 45, 3) := zd_at zo_cX1_attach_0 43 rfl
theorem dX1_attach_81 : decode cX1_attach 81 = .ok (.aload_n 0, 1) := zd_at zo_cX1_attach_0 44 rfl
theorem dX1_attach_82 : decode cX1_attach 82 = .ok (.getfield 18, 3) := zd_at zo_cX1_attach_0 45 rfl
theorem dX1_attach_85 : decode cX1_attach 85 = .ok (.iload_n 3, 1) := zd_at zo_cX1_attach_0 46 rfl
theorem dX1_attach_86 : decode cX1_attach 86 = .ok (.iload_n 1, 1) := zd_at zo_cX1_attach_0 47 rfl
theorem dX1_attach_87 : decode cX1_attach 87 = .ok (.invokestatic 45, 3) := zd_at zo_cX1_attach_0 48 rfl
theorem dX1_attach_90 : decode cX1_attach 90 = .ok (.return_, 1) := zd_at zo_cX1_attach_0 49 rfl
def zl_cX1_detach_0 : List (Nat × Instr × Nat) := [(0, .aload_n 0, 1), (1, .getfield 18, 3), (4, .iload_n 1, 1), (5, .invokestatic 70, 3), (8, .istore_n 2, 1), (9, .aload_n 0, 1), (10, .getfield 21, 3), (13, .iload_n 2, 1), (14, .invokestatic 70, 3), (17, .istore_n 3, 1), (18, .iload_n 2, 1), (19, .iconst 5, 1), (20, .imul, 1), (21, .istore 4, 2), (23, .aload_n 0, 1), (24, .iload_n 2, 1), (25, .iload_n 1, 1), (26, .invokevirtual 94, 3), (29, .istore 5, 2), (31, .iload 5, 2), (33, .iload_n 3, 1), (34, .iconst 1, 1), (35, .isub, 1), (36, .if_icmp .ge 35, 3), (39, .aload_n 0, 1), (40, .getfield 24, 3), (43, .iload 4, 2), (45, .iload 5, 2), (47, .iadd, 1), (48, .aload_n 0, 1), (49, .getfield 24, 3), (52, .iload 4, 2), (54, .iload 5, 2), (56, .iadd, 1), (57, .iconst 1, 1), (58, .iadd, 1), (59, .invokestatic 70, 3), (62, .invokestatic 45, 3), (65, .iinc 5 1, 3), (68, .goto (-37), 3), (71, .aload_n 0, 1), (72, .getfield 21, 3), (75, .iload_n 2, 1), (76, .iload_n 3, 1), (77, .iconst 1, 1), (78, .isub, 1), (79, .invokestatic 45, 3), (82, .aload_n 0, 1), (83, .getfield 18, 3), (86, .iload_n 1, 1), (87, .iconst (-1), 1), (88, .invokestatic 45, 3), (91, .return_, 1)]
theorem zo_cX1_detach_0 : zd_ok cX1_detach zl_cX1_detach_0 = true := by decide +kernel
theorem dX1_detach_0 : decode cX1_detach 0 = .ok (.aload_n 0, 1) := zd_at zo_cX1_detach_0 0 rfl
theorem dX1_detach_1 : decode cX1_detach 1 = .ok (.getfield 18, 3) := zd_at zo_cX1_detach_0 1 rfl
theorem dX1_detach_4 : decode cX1_detach 4 = .ok (.iload_n 1, 1) := zd_at zo_cX1_detach_0 2 rfl
theorem dX1_detach_5 : decode cX1_detach 5 = .ok (.invokestatic 70, 3) := zd_at zo_cX1_detach_0 3 rfl
theorem dX1_detach_8 : decode cX1_detach 8 = .ok (.istore_n 2, 1) := zd_at zo_cX1_detach_0 4 rfl
theorem dX1_detach_9 : decode cX1_detach 9 = .ok (.aload_n 0, 1) := zd_at zo_cX1_detach_0 5 rfl
theorem dX1_detach_10 : decode cX1_detach 10 = .ok (.getfield 21, 3) := zd_at zo_cX1_detach_0 6 rfl
theorem dX1_detach_13 : decode cX1_detach 13 = .ok (.iload_n 2, 1) := zd_at zo_cX1_detach_0 7 rfl
theorem dX1_detach_14 : decode cX1_detach 14 = .ok (.invokestatic 70, 3) := zd_at zo_cX1_detach_0 8 rfl
theorem dX1_detach_17 : decode cX1_detach 17 = .ok (.istore_n 3, 1) := zd_at zo_cX1_detach_0 9 rfl
theorem dX1_detach_18 : decode cX1_detach 18 = .ok (.iload_n 2, 1) := zd_at zo_cX1_detach_0 10 rfl
theorem dX1_detach_19 : decode cX1_detach 19 = .ok (.iconst 5, 1) := zd_at zo_cX1_detach_0 11 rfl
theorem dX1_detach_20 : decode cX1_detach 20 = .ok (.imul, 1) := zd_at zo_cX1_detach_0 12 rfl
theorem dX1_detach_21 : decode cX1_detach 21 = .ok (.istore 4, 2) := zd_at zo_cX1_detach_0 13 rfl
theorem dX1_detach_23 : decode cX1_detach 23 = .ok (.aload_n 0, 1) := zd_at zo_cX1_detach_0 14 rfl
theorem dX1_detach_24 : decode cX1_detach 24 = .ok (.iload_n 2, 1) := zd_at zo_cX1_detach_0 15 rfl
theorem dX1_detach_25 : decode cX1_detach 25 = .ok (.iload_n 1, 1) := zd_at zo_cX1_detach_0 16 rfl
theorem dX1_detach_26 : decode cX1_detach 26 = .ok (.invokevirtual 94, 3) := zd_at zo_cX1_detach_0 17 rfl
theorem dX1_detach_29 : decode cX1_detach 29 = .ok (.istore 5, 2) := zd_at zo_cX1_detach_0 18 rfl
theorem dX1_detach_31 : decode cX1_detach 31 = .ok (.iload 5, 2) := zd_at zo_cX1_detach_0 19 rfl
theorem dX1_detach_33 : decode cX1_detach 33 = .ok (.iload_n 3, 1) := zd_at zo_cX1_detach_0 20 rfl
theorem dX1_detach_34 : decode cX1_detach 34 = .ok (.iconst 1, 1) := zd_at zo_cX1_detach_0 21 rfl
theorem dX1_detach_35 : decode cX1_detach 35 = .ok (.isub, 1) := zd_at zo_cX1_detach_0 22 rfl
theorem dX1_detach_36 : decode cX1_detach 36 = .ok (.if_icmp .ge 35, 3) := zd_at zo_cX1_detach_0 23 rfl
theorem dX1_detach_39 : decode cX1_detach 39 = .ok (.aload_n 0, 1) := zd_at zo_cX1_detach_0 24 rfl
theorem dX1_detach_40 : decode cX1_detach 40 = .ok (.getfield 24, 3) := zd_at zo_cX1_detach_0 25 rfl
theorem dX1_detach_43 : decode cX1_detach 43 = .ok (.iload 4, 2) := zd_at zo_cX1_detach_0 26 rfl
theorem dX1_detach_45 : decode cX1_detach 45 = .ok (.iload 5, 2) := zd_at zo_cX1_detach_0 27 rfl
theorem dX1_detach_47 : decode cX1_detach 47 = .ok (.iadd, 1) := zd_at zo_cX1_detach_0 28 rfl
theorem dX1_detach_48 : decode cX1_detach 48 = .ok (.aload_n 0, 1) := zd_at zo_cX1_detach_0 29 rfl
theorem dX1_detach_49 : decode cX1_detach 49 = .ok (.getfield 24, 3) := zd_at zo_cX1_detach_0 30 rfl
theorem dX1_detach_52 : decode cX1_detach 52 = .ok (.iload 4, 2) := zd_at zo_cX1_detach_0 31 rfl
theorem dX1_detach_54 : decode cX1_detach 54 = .ok (.iload 5, 2) := zd_at zo_cX1_detach_0 32 rfl
theorem dX1_detach_56 : decode cX1_detach 56 = .ok (.iadd, 1) := zd_at zo_cX1_detach_0 33 rfl
theorem dX1_detach_57 : decode cX1_detach 57 = .ok (.iconst 1, 1) := zd_at zo_cX1_detach_0 34 rfl
theorem dX1_detach_58 : decode cX1_detach 58 = .ok (.iadd, 1) := zd_at zo_cX1_detach_0 35 rfl
theorem dX1_detach_59 : decode cX1_detach 59 = .ok (.invokestatic 70, 3) := zd_at zo_cX1_detach_0 36 rfl
theorem dX1_detach_62 : decode cX1_detach 62 = .ok (.invokestatic 45, 3) := zd_at zo_cX1_detach_0 37 rfl
theorem dX1_detach_65 : decode cX1_detach 65 = .ok (.iinc 5 1, 3) := zd_at zo_cX1_detach_0 38 rfl
theorem dX1_detach_68 : decode cX1_detach 68 = .ok (.goto (-37), 3) := zd_at zo_cX1_detach_0 39 rfl
theorem dX1_detach_71 : decode cX1_detach 71 = .ok (.aload_n 0, 1) := zd_at zo_cX1_detach_0 40 rfl
theorem dX1_detach_72 : decode cX1_detach 72 = .ok (.getfield 21, 3) := zd_at zo_cX1_detach_0 41 rfl
theorem dX1_detach_75 : decode cX1_detach 75 = .ok (.iload_n 2, 1) := zd_at zo_cX1_detach_0 42 rfl
theorem dX1_detach_76 : decode cX1_detach 76 = .ok (.iload_n 3, 1) := zd_at zo_cX1_detach_0 43 rfl
theorem dX1_detach_77 : decode cX1_detach 77 = .ok (.iconst 1, 1) := zd_at zo_cX1_detach_0 44 rfl
theorem dX1_detach_78 : decode cX1_detach 78 = .ok (.isub, 1) := zd_at zo_cX1_detach_0 45 rfl
theorem dX1_detach_79 : decode cX1_detach 79 = .ok (.invokestatic 45, 3) := zd_at zo_cX1_detach_0 46 rfl
theorem dX1_detach_82 : decode cX1_detach 82 = .ok (.aload_n 0, 1) := zd_at zo_cX1_detach_0 47 rfl
theorem dX1_detach_83 : decode cX1_detach 83 = .ok (.getfield 18, 3) := zd_at zo_cX1_detach_0 48 rfl
theorem dX1_detach_86 : decode cX1_detach 86 = .ok (.iload_n 1, 1) := zd_at zo_cX1_detach_0 49 rfl
theorem dX1_detach_87 : decode cX1_detach 87 = .ok (.iconst (-1), 1) := zd_at zo_cX1_detach_0 50 rfl
theorem dX1_detach_88 : decode cX1_detach 88 = .ok (.invokestatic 45, 3) := zd_at zo_cX1_detach_0 51 rfl
theorem dX1_detach_91 : decode cX1_detach 91 = .ok (.return_, 1) := zd_at zo_cX1_detach_0 52 rfl
def zl_cX1_countNodes_0 : List (Nat × Instr × Nat) := [(0, .iconst 0, 1), (1, .istore_n 1, 1), (2, .iconst 1, 1), (3, .istore_n 2, 1), (4, .aload_n 0, 1), (5, .getfield 39, 3), (8, .iconst 0, 1), (9, .aload_n 0, 1), (10, .getfield 63, 3), (13, .invokestatic 45, 3), (16, .iconst 0, 1), (17, .istore_n 3, 1), (18, .iload_n 3, 1), (19, .bipush 24, 2), (21, .if_icmp .ge 100, 3), (24, .iload_n 2, 1), (25, .ifCond .le 96, 3), (28, .iinc 2 (-1), 3), (31, .aload_n 0, 1), (32, .getfield 39, 3), (35, .iload_n 2, 1), (36, .invokestatic 70, 3), (39, .istore 4, 2), (41, .aload_n 0, 1), (42, .getfield 36, 3), (45, .iload_n 1, 1), (46, .iload 4, 2), (48, .invokestatic 45, 3), (51, .iinc 1 1, 3), (54, .aload_n 0, 1), (55, .getfield 15, 3), (58, .iload 4, 2), (60, .invokestatic 70, 3), (63, .ifCond .le 52, 3), (66, .aload_n 0, 1), (67, .getfield 21, 3), (70, .iload 4, 2), (72, .invokestatic 70, 3), (75, .iconst 1, 1), (76, .isub, 1), (77, .istore 5, 2), (79, .iload 5, 2), (81, .ifCond .lt 34, 3), (84, .aload_n 0, 1), (85, .getfield 39, 3), (88, .iload_n 2, 1), (89, .aload_n 0, 1), (90, .getfield 24, 3), (93, .iload 4, 2), (95, .iconst 5, 1), (96, .imul, 1), (97, .iload 5, 2), (99, .iadd, 1), (100, .invokestatic 70, 3), (103, .invokestatic 45, 3), (106, .iinc 2 1, 3), (109, .iinc 5 (-1), 3), (112, .goto (-33), 3), (115, .iinc 3 1, 3), (118, .goto (-100), 3), (121, .iload_n 1, 1), (122, .ireturn, 1)]
theorem zo_cX1_countNodes_0 : zd_ok cX1_countNodes zl_cX1_countNodes_0 = true := by decide +kernel
theorem dX1_countNodes_0 : decode cX1_countNodes 0 = .ok (.iconst 0, 1) := zd_at zo_cX1_countNodes_0 0 rfl
theorem dX1_countNodes_1 : decode cX1_countNodes 1 = .ok (.istore_n 1, 1) := zd_at zo_cX1_countNodes_0 1 rfl
theorem dX1_countNodes_2 : decode cX1_countNodes 2 = .ok (.iconst 1, 1) := zd_at zo_cX1_countNodes_0 2 rfl
theorem dX1_countNodes_3 : decode cX1_countNodes 3 = .ok (.istore_n 2, 1) := zd_at zo_cX1_countNodes_0 3 rfl
theorem dX1_countNodes_4 : decode cX1_countNodes 4 = .ok (.aload_n 0, 1) := zd_at zo_cX1_countNodes_0 4 rfl
theorem dX1_countNodes_5 : decode cX1_countNodes 5 = .ok (.getfield 39, 3) := zd_at zo_cX1_countNodes_0 5 rfl
theorem dX1_countNodes_8 : decode cX1_countNodes 8 = .ok (.iconst 0, 1) := zd_at zo_cX1_countNodes_0 6 rfl
theorem dX1_countNodes_9 : decode cX1_countNodes 9 = .ok (.aload_n 0, 1) := zd_at zo_cX1_countNodes_0 7 rfl
theorem dX1_countNodes_10 : decode cX1_countNodes 10 = .ok (.getfield 63, 3) := zd_at zo_cX1_countNodes_0 8 rfl
theorem dX1_countNodes_13 : decode cX1_countNodes 13 = .ok (.invokestatic 45, 3) := zd_at zo_cX1_countNodes_0 9 rfl
theorem dX1_countNodes_16 : decode cX1_countNodes 16 = .ok (.iconst 0, 1) := zd_at zo_cX1_countNodes_0 10 rfl
theorem dX1_countNodes_17 : decode cX1_countNodes 17 = .ok (.istore_n 3, 1) := zd_at zo_cX1_countNodes_0 11 rfl
theorem dX1_countNodes_18 : decode cX1_countNodes 18 = .ok (.iload_n 3, 1) := zd_at zo_cX1_countNodes_0 12 rfl
theorem dX1_countNodes_19 : decode cX1_countNodes 19 = .ok (.bipush 24, 2) := zd_at zo_cX1_countNodes_0 13 rfl
theorem dX1_countNodes_21 : decode cX1_countNodes 21 = .ok (.if_icmp .ge 100, 3) := zd_at zo_cX1_countNodes_0 14 rfl
theorem dX1_countNodes_24 : decode cX1_countNodes 24 = .ok (.iload_n 2, 1) := zd_at zo_cX1_countNodes_0 15 rfl
theorem dX1_countNodes_25 : decode cX1_countNodes 25 = .ok (.ifCond .le 96, 3) := zd_at zo_cX1_countNodes_0 16 rfl
theorem dX1_countNodes_28 : decode cX1_countNodes 28 = .ok (.iinc 2 (-1), 3) := zd_at zo_cX1_countNodes_0 17 rfl
theorem dX1_countNodes_31 : decode cX1_countNodes 31 = .ok (.aload_n 0, 1) := zd_at zo_cX1_countNodes_0 18 rfl
theorem dX1_countNodes_32 : decode cX1_countNodes 32 = .ok (.getfield 39, 3) := zd_at zo_cX1_countNodes_0 19 rfl
theorem dX1_countNodes_35 : decode cX1_countNodes 35 = .ok (.iload_n 2, 1) := zd_at zo_cX1_countNodes_0 20 rfl
theorem dX1_countNodes_36 : decode cX1_countNodes 36 = .ok (.invokestatic 70, 3) := zd_at zo_cX1_countNodes_0 21 rfl
theorem dX1_countNodes_39 : decode cX1_countNodes 39 = .ok (.istore 4, 2) := zd_at zo_cX1_countNodes_0 22 rfl
theorem dX1_countNodes_41 : decode cX1_countNodes 41 = .ok (.aload_n 0, 1) := zd_at zo_cX1_countNodes_0 23 rfl
theorem dX1_countNodes_42 : decode cX1_countNodes 42 = .ok (.getfield 36, 3) := zd_at zo_cX1_countNodes_0 24 rfl
theorem dX1_countNodes_45 : decode cX1_countNodes 45 = .ok (.iload_n 1, 1) := zd_at zo_cX1_countNodes_0 25 rfl
theorem dX1_countNodes_46 : decode cX1_countNodes 46 = .ok (.iload 4, 2) := zd_at zo_cX1_countNodes_0 26 rfl
theorem dX1_countNodes_48 : decode cX1_countNodes 48 = .ok (.invokestatic 45, 3) := zd_at zo_cX1_countNodes_0 27 rfl
theorem dX1_countNodes_51 : decode cX1_countNodes 51 = .ok (.iinc 1 1, 3) := zd_at zo_cX1_countNodes_0 28 rfl
theorem dX1_countNodes_54 : decode cX1_countNodes 54 = .ok (.aload_n 0, 1) := zd_at zo_cX1_countNodes_0 29 rfl
theorem dX1_countNodes_55 : decode cX1_countNodes 55 = .ok (.getfield 15, 3) := zd_at zo_cX1_countNodes_0 30 rfl
theorem dX1_countNodes_58 : decode cX1_countNodes 58 = .ok (.iload 4, 2) := zd_at zo_cX1_countNodes_0 31 rfl
theorem dX1_countNodes_60 : decode cX1_countNodes 60 = .ok (.invokestatic 70, 3) := zd_at zo_cX1_countNodes_0 32 rfl
theorem dX1_countNodes_63 : decode cX1_countNodes 63 = .ok (.ifCond .le 52, 3) := zd_at zo_cX1_countNodes_0 33 rfl
theorem dX1_countNodes_66 : decode cX1_countNodes 66 = .ok (.aload_n 0, 1) := zd_at zo_cX1_countNodes_0 34 rfl
theorem dX1_countNodes_67 : decode cX1_countNodes 67 = .ok (.getfield 21, 3) := zd_at zo_cX1_countNodes_0 35 rfl
theorem dX1_countNodes_70 : decode cX1_countNodes 70 = .ok (.iload 4, 2) := zd_at zo_cX1_countNodes_0 36 rfl
theorem dX1_countNodes_72 : decode cX1_countNodes 72 = .ok (.invokestatic 70, 3) := zd_at zo_cX1_countNodes_0 37 rfl
theorem dX1_countNodes_75 : decode cX1_countNodes 75 = .ok (.iconst 1, 1) := zd_at zo_cX1_countNodes_0 38 rfl
theorem dX1_countNodes_76 : decode cX1_countNodes 76 = .ok (.isub, 1) := zd_at zo_cX1_countNodes_0 39 rfl
theorem dX1_countNodes_77 : decode cX1_countNodes 77 = .ok (.istore 5, 2) := zd_at zo_cX1_countNodes_0 40 rfl
theorem dX1_countNodes_79 : decode cX1_countNodes 79 = .ok (.iload 5, 2) := zd_at zo_cX1_countNodes_0 41 rfl
theorem dX1_countNodes_81 : decode cX1_countNodes 81 = .ok (.ifCond .lt 34, 3) := zd_at zo_cX1_countNodes_0 42 rfl
theorem dX1_countNodes_84 : decode cX1_countNodes 84 = .ok (.aload_n 0, 1) := zd_at zo_cX1_countNodes_0 43 rfl
theorem dX1_countNodes_85 : decode cX1_countNodes 85 = .ok (.getfield 39, 3) := zd_at zo_cX1_countNodes_0 44 rfl
theorem dX1_countNodes_88 : decode cX1_countNodes 88 = .ok (.iload_n 2, 1) := zd_at zo_cX1_countNodes_0 45 rfl
theorem dX1_countNodes_89 : decode cX1_countNodes 89 = .ok (.aload_n 0, 1) := zd_at zo_cX1_countNodes_0 46 rfl
theorem dX1_countNodes_90 : decode cX1_countNodes 90 = .ok (.getfield 24, 3) := zd_at zo_cX1_countNodes_0 47 rfl
theorem dX1_countNodes_93 : decode cX1_countNodes 93 = .ok (.iload 4, 2) := zd_at zo_cX1_countNodes_0 48 rfl
theorem dX1_countNodes_95 : decode cX1_countNodes 95 = .ok (.iconst 5, 1) := zd_at zo_cX1_countNodes_0 49 rfl
theorem dX1_countNodes_96 : decode cX1_countNodes 96 = .ok (.imul, 1) := zd_at zo_cX1_countNodes_0 50 rfl
theorem dX1_countNodes_97 : decode cX1_countNodes 97 = .ok (.iload 5, 2) := zd_at zo_cX1_countNodes_0 51 rfl
theorem dX1_countNodes_99 : decode cX1_countNodes 99 = .ok (.iadd, 1) := zd_at zo_cX1_countNodes_0 52 rfl
theorem dX1_countNodes_100 : decode cX1_countNodes 100 = .ok (.invokestatic 70, 3) := zd_at zo_cX1_countNodes_0 53 rfl
theorem dX1_countNodes_103 : decode cX1_countNodes 103 = .ok (.invokestatic 45, 3) := zd_at zo_cX1_countNodes_0 54 rfl
theorem dX1_countNodes_106 : decode cX1_countNodes 106 = .ok (.iinc 2 1, 3) := zd_at zo_cX1_countNodes_0 55 rfl
theorem dX1_countNodes_109 : decode cX1_countNodes 109 = .ok (.iinc 5 (-1), 3) := zd_at zo_cX1_countNodes_0 56 rfl
theorem dX1_countNodes_112 : decode cX1_countNodes 112 = .ok (.goto (-33), 3) := zd_at zo_cX1_countNodes_0 57 rfl
theorem dX1_countNodes_115 : decode cX1_countNodes 115 = .ok (.iinc 3 1, 3) := zd_at zo_cX1_countNodes_0 58 rfl
theorem dX1_countNodes_118 : decode cX1_countNodes 118 = .ok (.goto (-100), 3) := zd_at zo_cX1_countNodes_0 59 rfl
theorem dX1_countNodes_121 : decode cX1_countNodes 121 = .ok (.iload_n 1, 1) := zd_at zo_cX1_countNodes_0 60 rfl
theorem dX1_countNodes_122 : decode cX1_countNodes 122 = .ok (.ireturn, 1) := zd_at zo_cX1_countNodes_0 61 rfl
def zl_cX1_nodeNumbered_0 : List (Nat × Instr × Nat) := [(0, .iload_n 1, 1), (1, .ifCond .lt 22, 3), (4, .iload_n 1, 1), (5, .aload_n 0, 1), (6, .invokevirtual 97, 3), (9, .if_icmp .ge 14, 3), (12, .aload_n 0, 1), (13, .getfield 36, 3), (16, .iload_n 1, 1), (17, .invokestatic 70, 3), (20, .goto 4, 3), (23, .iconst (-1), 1), (24, .ireturn, 1)]
theorem zo_cX1_nodeNumbered_0 : zd_ok cX1_nodeNumbered zl_cX1_nodeNumbered_0 = true := by decide +kernel
theorem dX1_nodeNumbered_0 : decode cX1_nodeNumbered 0 = .ok (.iload_n 1, 1) := zd_at zo_cX1_nodeNumbered_0 0 rfl
theorem dX1_nodeNumbered_1 : decode cX1_nodeNumbered 1 = .ok (.ifCond .lt 22, 3) := zd_at zo_cX1_nodeNumbered_0 1 rfl
theorem dX1_nodeNumbered_4 : decode cX1_nodeNumbered 4 = .ok (.iload_n 1, 1) := zd_at zo_cX1_nodeNumbered_0 2 rfl
theorem dX1_nodeNumbered_5 : decode cX1_nodeNumbered 5 = .ok (.aload_n 0, 1) := zd_at zo_cX1_nodeNumbered_0 3 rfl
theorem dX1_nodeNumbered_6 : decode cX1_nodeNumbered 6 = .ok (.invokevirtual 97, 3) := zd_at zo_cX1_nodeNumbered_0 4 rfl
theorem dX1_nodeNumbered_9 : decode cX1_nodeNumbered 9 = .ok (.if_icmp .ge 14, 3) := zd_at zo_cX1_nodeNumbered_0 5 rfl
theorem dX1_nodeNumbered_12 : decode cX1_nodeNumbered 12 = .ok (.aload_n 0, 1) := zd_at zo_cX1_nodeNumbered_0 6 rfl
theorem dX1_nodeNumbered_13 : decode cX1_nodeNumbered 13 = .ok (.getfield 36, 3) := zd_at zo_cX1_nodeNumbered_0 7 rfl
theorem dX1_nodeNumbered_16 : decode cX1_nodeNumbered 16 = .ok (.iload_n 1, 1) := zd_at zo_cX1_nodeNumbered_0 8 rfl
theorem dX1_nodeNumbered_17 : decode cX1_nodeNumbered 17 = .ok (.invokestatic 70, 3) := zd_at zo_cX1_nodeNumbered_0 9 rfl
theorem dX1_nodeNumbered_20 : decode cX1_nodeNumbered 20 = .ok (.goto 4, 3) := zd_at zo_cX1_nodeNumbered_0 10 rfl
theorem dX1_nodeNumbered_23 : decode cX1_nodeNumbered 23 = .ok (.iconst (-1), 1) := zd_at zo_cX1_nodeNumbered_0 11 rfl
theorem dX1_nodeNumbered_24 : decode cX1_nodeNumbered 24 = .ok (.ireturn, 1) := zd_at zo_cX1_nodeNumbered_0 12 rfl
def zl_cX1_numberOf_0 : List (Nat × Instr × Nat) := [(0, .aload_n 0, 1), (1, .invokevirtual 97, 3), (4, .istore_n 2, 1), (5, .iconst 0, 1), (6, .istore_n 3, 1), (7, .iload_n 3, 1), (8, .iload_n 2, 1), (9, .if_icmp .ge 23, 3), (12, .aload_n 0, 1), (13, .getfield 36, 3), (16, .iload_n 3, 1), (17, .invokestatic 70, 3), (20, .iload_n 1, 1), (21, .if_icmp .ne 5, 3), (24, .iload_n 3, 1), (25, .ireturn, 1), (26, .iinc 3 1, 3), (29, .goto (-22), 3), (32, .iconst (-1), 1), (33, .ireturn, 1)]
theorem zo_cX1_numberOf_0 : zd_ok cX1_numberOf zl_cX1_numberOf_0 = true := by decide +kernel
theorem dX1_numberOf_0 : decode cX1_numberOf 0 = .ok (.aload_n 0, 1) := zd_at zo_cX1_numberOf_0 0 rfl
theorem dX1_numberOf_1 : decode cX1_numberOf 1 = .ok (.invokevirtual 97, 3) := zd_at zo_cX1_numberOf_0 1 rfl
theorem dX1_numberOf_4 : decode cX1_numberOf 4 = .ok (.istore_n 2, 1) := zd_at zo_cX1_numberOf_0 2 rfl
theorem dX1_numberOf_5 : decode cX1_numberOf 5 = .ok (.iconst 0, 1) := zd_at zo_cX1_numberOf_0 3 rfl
theorem dX1_numberOf_6 : decode cX1_numberOf 6 = .ok (.istore_n 3, 1) := zd_at zo_cX1_numberOf_0 4 rfl
theorem dX1_numberOf_7 : decode cX1_numberOf 7 = .ok (.iload_n 3, 1) := zd_at zo_cX1_numberOf_0 5 rfl
theorem dX1_numberOf_8 : decode cX1_numberOf 8 = .ok (.iload_n 2, 1) := zd_at zo_cX1_numberOf_0 6 rfl
theorem dX1_numberOf_9 : decode cX1_numberOf 9 = .ok (.if_icmp .ge 23, 3) := zd_at zo_cX1_numberOf_0 7 rfl
theorem dX1_numberOf_12 : decode cX1_numberOf 12 = .ok (.aload_n 0, 1) := zd_at zo_cX1_numberOf_0 8 rfl
theorem dX1_numberOf_13 : decode cX1_numberOf 13 = .ok (.getfield 36, 3) := zd_at zo_cX1_numberOf_0 9 rfl
theorem dX1_numberOf_16 : decode cX1_numberOf 16 = .ok (.iload_n 3, 1) := zd_at zo_cX1_numberOf_0 10 rfl
theorem dX1_numberOf_17 : decode cX1_numberOf 17 = .ok (.invokestatic 70, 3) := zd_at zo_cX1_numberOf_0 11 rfl
theorem dX1_numberOf_20 : decode cX1_numberOf 20 = .ok (.iload_n 1, 1) := zd_at zo_cX1_numberOf_0 12 rfl
theorem dX1_numberOf_21 : decode cX1_numberOf 21 = .ok (.if_icmp .ne 5, 3) := zd_at zo_cX1_numberOf_0 13 rfl
theorem dX1_numberOf_24 : decode cX1_numberOf 24 = .ok (.iload_n 3, 1) := zd_at zo_cX1_numberOf_0 14 rfl
theorem dX1_numberOf_25 : decode cX1_numberOf 25 = .ok (.ireturn, 1) := zd_at zo_cX1_numberOf_0 15 rfl
theorem dX1_numberOf_26 : decode cX1_numberOf 26 = .ok (.iinc 3 1, 3) := zd_at zo_cX1_numberOf_0 16 rfl
theorem dX1_numberOf_29 : decode cX1_numberOf 29 = .ok (.goto (-22), 3) := zd_at zo_cX1_numberOf_0 17 rfl
theorem dX1_numberOf_32 : decode cX1_numberOf 32 = .ok (.iconst (-1), 1) := zd_at zo_cX1_numberOf_0 18 rfl
theorem dX1_numberOf_33 : decode cX1_numberOf 33 = .ok (.ireturn, 1) := zd_at zo_cX1_numberOf_0 19 rfl
def zl_cX1_hasRectangle_0 : List (Nat × Instr × Nat) := [(0, .iload_n 1, 1), (1, .ifCond .lt 25, 3), (4, .iload_n 1, 1), (5, .bipush 24, 2), (7, .if_icmp .ge 19, 3), (10, .aload_n 0, 1), (11, .getfield 18, 3), (14, .iload_n 1, 1), (15, .invokestatic 70, 3), (18, .iconst (-1), 1), (19, .if_icmp .eq 7, 3), (22, .iconst 1, 1), (23, .goto 4, 3), (26, .iconst 0, 1), (27, .ireturn, 1)]
theorem zo_cX1_hasRectangle_0 : zd_ok cX1_hasRectangle zl_cX1_hasRectangle_0 = true := by decide +kernel
theorem dX1_hasRectangle_0 : decode cX1_hasRectangle 0 = .ok (.iload_n 1, 1) := zd_at zo_cX1_hasRectangle_0 0 rfl
theorem dX1_hasRectangle_1 : decode cX1_hasRectangle 1 = .ok (.ifCond .lt 25, 3) := zd_at zo_cX1_hasRectangle_0 1 rfl
theorem dX1_hasRectangle_4 : decode cX1_hasRectangle 4 = .ok (.iload_n 1, 1) := zd_at zo_cX1_hasRectangle_0 2 rfl
theorem dX1_hasRectangle_5 : decode cX1_hasRectangle 5 = .ok (.bipush 24, 2) := zd_at zo_cX1_hasRectangle_0 3 rfl
theorem dX1_hasRectangle_7 : decode cX1_hasRectangle 7 = .ok (.if_icmp .ge 19, 3) := zd_at zo_cX1_hasRectangle_0 4 rfl
theorem dX1_hasRectangle_10 : decode cX1_hasRectangle 10 = .ok (.aload_n 0, 1) := zd_at zo_cX1_hasRectangle_0 5 rfl
theorem dX1_hasRectangle_11 : decode cX1_hasRectangle 11 = .ok (.getfield 18, 3) := zd_at zo_cX1_hasRectangle_0 6 rfl
theorem dX1_hasRectangle_14 : decode cX1_hasRectangle 14 = .ok (.iload_n 1, 1) := zd_at zo_cX1_hasRectangle_0 7 rfl
theorem dX1_hasRectangle_15 : decode cX1_hasRectangle 15 = .ok (.invokestatic 70, 3) := zd_at zo_cX1_hasRectangle_0 8 rfl
theorem dX1_hasRectangle_18 : decode cX1_hasRectangle 18 = .ok (.iconst (-1), 1) := zd_at zo_cX1_hasRectangle_0 9 rfl
theorem dX1_hasRectangle_19 : decode cX1_hasRectangle 19 = .ok (.if_icmp .eq 7, 3) := zd_at zo_cX1_hasRectangle_0 10 rfl
theorem dX1_hasRectangle_22 : decode cX1_hasRectangle 22 = .ok (.iconst 1, 1) := zd_at zo_cX1_hasRectangle_0 11 rfl
theorem dX1_hasRectangle_23 : decode cX1_hasRectangle 23 = .ok (.goto 4, 3) := zd_at zo_cX1_hasRectangle_0 12 rfl
theorem dX1_hasRectangle_26 : decode cX1_hasRectangle 26 = .ok (.iconst 0, 1) := zd_at zo_cX1_hasRectangle_0 13 rfl
theorem dX1_hasRectangle_27 : decode cX1_hasRectangle 27 = .ok (.ireturn, 1) := zd_at zo_cX1_hasRectangle_0 14 rfl
def zl_cX1_countRectangles_0 : List (Nat × Instr × Nat) := [(0, .iconst 0, 1), (1, .istore_n 1, 1), (2, .iconst 0, 1), (3, .istore_n 2, 1), (4, .iload_n 2, 1), (5, .bipush 24, 2), (7, .if_icmp .ge 24, 3), (10, .aload_n 0, 1), (11, .getfield 18, 3), (14, .iload_n 2, 1), (15, .invokestatic 70, 3), (18, .iconst (-1), 1), (19, .if_icmp .eq 6, 3), (22, .iinc 1 1, 3), (25, .iinc 2 1, 3), (28, .goto (-24), 3), (31, .iload_n 1, 1), (32, .ireturn, 1)]
theorem zo_cX1_countRectangles_0 : zd_ok cX1_countRectangles zl_cX1_countRectangles_0 = true := by decide +kernel
theorem dX1_countRectangles_0 : decode cX1_countRectangles 0 = .ok (.iconst 0, 1) := zd_at zo_cX1_countRectangles_0 0 rfl
theorem dX1_countRectangles_1 : decode cX1_countRectangles 1 = .ok (.istore_n 1, 1) := zd_at zo_cX1_countRectangles_0 1 rfl
theorem dX1_countRectangles_2 : decode cX1_countRectangles 2 = .ok (.iconst 0, 1) := zd_at zo_cX1_countRectangles_0 2 rfl
theorem dX1_countRectangles_3 : decode cX1_countRectangles 3 = .ok (.istore_n 2, 1) := zd_at zo_cX1_countRectangles_0 3 rfl
theorem dX1_countRectangles_4 : decode cX1_countRectangles 4 = .ok (.iload_n 2, 1) := zd_at zo_cX1_countRectangles_0 4 rfl
theorem dX1_countRectangles_5 : decode cX1_countRectangles 5 = .ok (.bipush 24, 2) := zd_at zo_cX1_countRectangles_0 5 rfl
theorem dX1_countRectangles_7 : decode cX1_countRectangles 7 = .ok (.if_icmp .ge 24, 3) := zd_at zo_cX1_countRectangles_0 6 rfl
theorem dX1_countRectangles_10 : decode cX1_countRectangles 10 = .ok (.aload_n 0, 1) := zd_at zo_cX1_countRectangles_0 7 rfl
theorem dX1_countRectangles_11 : decode cX1_countRectangles 11 = .ok (.getfield 18, 3) := zd_at zo_cX1_countRectangles_0 8 rfl
theorem dX1_countRectangles_14 : decode cX1_countRectangles 14 = .ok (.iload_n 2, 1) := zd_at zo_cX1_countRectangles_0 9 rfl
theorem dX1_countRectangles_15 : decode cX1_countRectangles 15 = .ok (.invokestatic 70, 3) := zd_at zo_cX1_countRectangles_0 10 rfl
theorem dX1_countRectangles_18 : decode cX1_countRectangles 18 = .ok (.iconst (-1), 1) := zd_at zo_cX1_countRectangles_0 11 rfl
theorem dX1_countRectangles_19 : decode cX1_countRectangles 19 = .ok (.if_icmp .eq 6, 3) := zd_at zo_cX1_countRectangles_0 12 rfl
theorem dX1_countRectangles_22 : decode cX1_countRectangles 22 = .ok (.iinc 1 1, 3) := zd_at zo_cX1_countRectangles_0 13 rfl
theorem dX1_countRectangles_25 : decode cX1_countRectangles 25 = .ok (.iinc 2 1, 3) := zd_at zo_cX1_countRectangles_0 14 rfl
theorem dX1_countRectangles_28 : decode cX1_countRectangles 28 = .ok (.goto (-24), 3) := zd_at zo_cX1_countRectangles_0 15 rfl
theorem dX1_countRectangles_31 : decode cX1_countRectangles 31 = .ok (.iload_n 1, 1) := zd_at zo_cX1_countRectangles_0 16 rfl
theorem dX1_countRectangles_32 : decode cX1_countRectangles 32 = .ok (.ireturn, 1) := zd_at zo_cX1_countRectangles_0 17 rfl
def zl_cX1_lowestFreeNumber_0 : List (Nat × Instr × Nat) := [(0, .iconst 0, 1), (1, .istore_n 1, 1), (2, .iload_n 1, 1), (3, .bipush 24, 2), (5, .if_icmp .ge 23, 3), (8, .aload_n 0, 1), (9, .getfield 18, 3), (12, .iload_n 1, 1), (13, .invokestatic 70, 3), (16, .iconst (-1), 1), (17, .if_icmp .ne 5, 3), (20, .iload_n 1, 1), (21, .ireturn, 1), (22, .iinc 1 1, 3), (25, .goto (-23), 3), (28, .iconst (-1), 1), (29, .ireturn, 1)]
theorem zo_cX1_lowestFreeNumber_0 : zd_ok cX1_lowestFreeNumber zl_cX1_lowestFreeNumber_0 = true := by decide +kernel
theorem dX1_lowestFreeNumber_0 : decode cX1_lowestFreeNumber 0 = .ok (.iconst 0, 1) := zd_at zo_cX1_lowestFreeNumber_0 0 rfl
theorem dX1_lowestFreeNumber_1 : decode cX1_lowestFreeNumber 1 = .ok (.istore_n 1, 1) := zd_at zo_cX1_lowestFreeNumber_0 1 rfl
theorem dX1_lowestFreeNumber_2 : decode cX1_lowestFreeNumber 2 = .ok (.iload_n 1, 1) := zd_at zo_cX1_lowestFreeNumber_0 2 rfl
theorem dX1_lowestFreeNumber_3 : decode cX1_lowestFreeNumber 3 = .ok (.bipush 24, 2) := zd_at zo_cX1_lowestFreeNumber_0 3 rfl
theorem dX1_lowestFreeNumber_5 : decode cX1_lowestFreeNumber 5 = .ok (.if_icmp .ge 23, 3) := zd_at zo_cX1_lowestFreeNumber_0 4 rfl
theorem dX1_lowestFreeNumber_8 : decode cX1_lowestFreeNumber 8 = .ok (.aload_n 0, 1) := zd_at zo_cX1_lowestFreeNumber_0 5 rfl
theorem dX1_lowestFreeNumber_9 : decode cX1_lowestFreeNumber 9 = .ok (.getfield 18, 3) := zd_at zo_cX1_lowestFreeNumber_0 6 rfl
theorem dX1_lowestFreeNumber_12 : decode cX1_lowestFreeNumber 12 = .ok (.iload_n 1, 1) := zd_at zo_cX1_lowestFreeNumber_0 7 rfl
theorem dX1_lowestFreeNumber_13 : decode cX1_lowestFreeNumber 13 = .ok (.invokestatic 70, 3) := zd_at zo_cX1_lowestFreeNumber_0 8 rfl
theorem dX1_lowestFreeNumber_16 : decode cX1_lowestFreeNumber 16 = .ok (.iconst (-1), 1) := zd_at zo_cX1_lowestFreeNumber_0 9 rfl
theorem dX1_lowestFreeNumber_17 : decode cX1_lowestFreeNumber 17 = .ok (.if_icmp .ne 5, 3) := zd_at zo_cX1_lowestFreeNumber_0 10 rfl
theorem dX1_lowestFreeNumber_20 : decode cX1_lowestFreeNumber 20 = .ok (.iload_n 1, 1) := zd_at zo_cX1_lowestFreeNumber_0 11 rfl
theorem dX1_lowestFreeNumber_21 : decode cX1_lowestFreeNumber 21 = .ok (.ireturn, 1) := zd_at zo_cX1_lowestFreeNumber_0 12 rfl
theorem dX1_lowestFreeNumber_22 : decode cX1_lowestFreeNumber 22 = .ok (.iinc 1 1, 3) := zd_at zo_cX1_lowestFreeNumber_0 13 rfl
theorem dX1_lowestFreeNumber_25 : decode cX1_lowestFreeNumber 25 = .ok (.goto (-23), 3) := zd_at zo_cX1_lowestFreeNumber_0 14 rfl
theorem dX1_lowestFreeNumber_28 : decode cX1_lowestFreeNumber 28 = .ok (.iconst (-1), 1) := zd_at zo_cX1_lowestFreeNumber_0 15 rfl
theorem dX1_lowestFreeNumber_29 : decode cX1_lowestFreeNumber 29 = .ok (.ireturn, 1) := zd_at zo_cX1_lowestFreeNumber_0 16 rfl
def zl_cX1_canShift_0 : List (Nat × Instr × Nat) := [(0, .aload_n 0, 1), (1, .iload_n 1, 1), (2, .iconst 0, 1), (3, .invokevirtual 74, 3), (6, .iload_n 2, 1), (7, .iadd, 1), (8, .aload_n 0, 1), (9, .iload_n 1, 1), (10, .iconst 1, 1), (11, .invokevirtual 74, 3), (14, .iload_n 3, 1), (15, .iadd, 1), (16, .aload_n 0, 1), (17, .iload_n 1, 1), (18, .iconst 2, 1), (19, .invokevirtual 74, 3), (22, .iload_n 2, 1), (23, .iadd, 1), (24, .aload_n 0, 1), (25, .iload_n 1, 1), (26, .iconst 3, 1), (27, .invokevirtual 74, 3), (30, .iload_n 3, 1), (31, .iadd, 1), (32, .invokestatic 101, 3), (35, .ireturn, 1)]
theorem zo_cX1_canShift_0 : zd_ok cX1_canShift zl_cX1_canShift_0 = true := by decide +kernel
theorem dX1_canShift_0 : decode cX1_canShift 0 = .ok (.aload_n 0, 1) := zd_at zo_cX1_canShift_0 0 rfl
theorem dX1_canShift_1 : decode cX1_canShift 1 = .ok (.iload_n 1, 1) := zd_at zo_cX1_canShift_0 1 rfl
theorem dX1_canShift_2 : decode cX1_canShift 2 = .ok (.iconst 0, 1) := zd_at zo_cX1_canShift_0 2 rfl
theorem dX1_canShift_3 : decode cX1_canShift 3 = .ok (.invokevirtual 74, 3) := zd_at zo_cX1_canShift_0 3 rfl
theorem dX1_canShift_6 : decode cX1_canShift 6 = .ok (.iload_n 2, 1) := zd_at zo_cX1_canShift_0 4 rfl
theorem dX1_canShift_7 : decode cX1_canShift 7 = .ok (.iadd, 1) := zd_at zo_cX1_canShift_0 5 rfl
theorem dX1_canShift_8 : decode cX1_canShift 8 = .ok (.aload_n 0, 1) := zd_at zo_cX1_canShift_0 6 rfl
theorem dX1_canShift_9 : decode cX1_canShift 9 = .ok (.iload_n 1, 1) := zd_at zo_cX1_canShift_0 7 rfl
theorem dX1_canShift_10 : decode cX1_canShift 10 = .ok (.iconst 1, 1) := zd_at zo_cX1_canShift_0 8 rfl
theorem dX1_canShift_11 : decode cX1_canShift 11 = .ok (.invokevirtual 74, 3) := zd_at zo_cX1_canShift_0 9 rfl
theorem dX1_canShift_14 : decode cX1_canShift 14 = .ok (.iload_n 3, 1) := zd_at zo_cX1_canShift_0 10 rfl
theorem dX1_canShift_15 : decode cX1_canShift 15 = .ok (.iadd, 1) := zd_at zo_cX1_canShift_0 11 rfl
theorem dX1_canShift_16 : decode cX1_canShift 16 = .ok (.aload_n 0, 1) := zd_at zo_cX1_canShift_0 12 rfl
theorem dX1_canShift_17 : decode cX1_canShift 17 = .ok (.iload_n 1, 1) := zd_at zo_cX1_canShift_0 13 rfl
theorem dX1_canShift_18 : decode cX1_canShift 18 = .ok (.iconst 2, 1) := zd_at zo_cX1_canShift_0 14 rfl
theorem dX1_canShift_19 : decode cX1_canShift 19 = .ok (.invokevirtual 74, 3) := zd_at zo_cX1_canShift_0 15 rfl
theorem dX1_canShift_22 : decode cX1_canShift 22 = .ok (.iload_n 2, 1) := zd_at zo_cX1_canShift_0 16 rfl
theorem dX1_canShift_23 : decode cX1_canShift 23 = .ok (.iadd, 1) := zd_at zo_cX1_canShift_0 17 rfl
theorem dX1_canShift_24 : decode cX1_canShift 24 = .ok (.aload_n 0, 1) := zd_at zo_cX1_canShift_0 18 rfl
theorem dX1_canShift_25 : decode cX1_canShift 25 = .ok (.iload_n 1, 1) := zd_at zo_cX1_canShift_0 19 rfl
theorem dX1_canShift_26 : decode cX1_canShift 26 = .ok (.iconst 3, 1) := zd_at zo_cX1_canShift_0 20 rfl
theorem dX1_canShift_27 : decode cX1_canShift 27 = .ok (.invokevirtual 74, 3) := zd_at zo_cX1_canShift_0 21 rfl
theorem dX1_canShift_30 : decode cX1_canShift 30 = .ok (.iload_n 3, 1) := zd_at zo_cX1_canShift_0 22 rfl
theorem dX1_canShift_31 : decode cX1_canShift 31 = .ok (.iadd, 1) := zd_at zo_cX1_canShift_0 23 rfl
theorem dX1_canShift_32 : decode cX1_canShift 32 = .ok (.invokestatic 101, 3) := zd_at zo_cX1_canShift_0 24 rfl
theorem dX1_canShift_35 : decode cX1_canShift 35 = .ok (.ireturn, 1) := zd_at zo_cX1_canShift_0 25 rfl
def zl_cX1_beginCall_0 : List (Nat × Instr × Nat) := [(0, .iconst 0, 1), (1, .istore_n 1, 1), (2, .iload_n 1, 1), (3, .bipush 8, 2), (5, .if_icmp .ge 18, 3), (8, .aload_n 0, 1), (9, .getfield 27, 3), (12, .iload_n 1, 1), (13, .iconst 0, 1), (14, .invokestatic 45, 3), (17, .iinc 1 1, 3), (20, .goto (-18), 3), (23, .return_, 1)]
theorem zo_cX1_beginCall_0 : zd_ok cX1_beginCall zl_cX1_beginCall_0 = true := by decide +kernel
theorem dX1_beginCall_0 : decode cX1_beginCall 0 = .ok (.iconst 0, 1) := zd_at zo_cX1_beginCall_0 0 rfl
theorem dX1_beginCall_1 : decode cX1_beginCall 1 = .ok (.istore_n 1, 1) := zd_at zo_cX1_beginCall_0 1 rfl
theorem dX1_beginCall_2 : decode cX1_beginCall 2 = .ok (.iload_n 1, 1) := zd_at zo_cX1_beginCall_0 2 rfl
theorem dX1_beginCall_3 : decode cX1_beginCall 3 = .ok (.bipush 8, 2) := zd_at zo_cX1_beginCall_0 3 rfl
theorem dX1_beginCall_5 : decode cX1_beginCall 5 = .ok (.if_icmp .ge 18, 3) := zd_at zo_cX1_beginCall_0 4 rfl
theorem dX1_beginCall_8 : decode cX1_beginCall 8 = .ok (.aload_n 0, 1) := zd_at zo_cX1_beginCall_0 5 rfl
theorem dX1_beginCall_9 : decode cX1_beginCall 9 = .ok (.getfield 27, 3) := zd_at zo_cX1_beginCall_0 6 rfl
theorem dX1_beginCall_12 : decode cX1_beginCall 12 = .ok (.iload_n 1, 1) := zd_at zo_cX1_beginCall_0 7 rfl
theorem dX1_beginCall_13 : decode cX1_beginCall 13 = .ok (.iconst 0, 1) := zd_at zo_cX1_beginCall_0 8 rfl
theorem dX1_beginCall_14 : decode cX1_beginCall 14 = .ok (.invokestatic 45, 3) := zd_at zo_cX1_beginCall_0 9 rfl
theorem dX1_beginCall_17 : decode cX1_beginCall 17 = .ok (.iinc 1 1, 3) := zd_at zo_cX1_beginCall_0 10 rfl
theorem dX1_beginCall_20 : decode cX1_beginCall 20 = .ok (.goto (-18), 3) := zd_at zo_cX1_beginCall_0 11 rfl
theorem dX1_beginCall_23 : decode cX1_beginCall 23 = .ok (.return_, 1) := zd_at zo_cX1_beginCall_0 12 rfl
def zl_cX1_putIn_0 : List (Nat × Instr × Nat) := [(0, .iload_n 1, 1), (1, .istore_n 2, 1), (2, .iconst 0, 1), (3, .istore_n 3, 1), (4, .iload_n 3, 1), (5, .bipush 8, 2), (7, .if_icmp .gt 136, 3), (10, .iload_n 2, 1), (11, .iconst (-1), 1), (12, .if_icmp .eq 131, 3), (15, .aload_n 0, 1), (16, .iload_n 2, 1), (17, .aload_n 0, 1), (18, .getfield 15, 3), (21, .iload_n 2, 1), (22, .invokestatic 70, 3), (25, .iconst 1, 1), (26, .iadd, 1), (27, .invokevirtual 105, 3), (30, .istore 4, 2), (32, .aload_n 0, 1), (33, .iload 4, 2), (35, .aload_n 0, 1), (36, .getfield 21, 3), (39, .iload 4, 2), (41, .invokestatic 70, 3), (44, .iload_n 2, 1), (45, .invokevirtual 108, 3), (48, .aload_n 0, 1), (49, .iload 4, 2), (51, .invokevirtual 112, 3), (54, .iconst (-1), 1), (55, .istore_n 2, 1), (56, .iconst 0, 1), (57, .istore 5, 2), (59, .iload 5, 2), (61, .bipush 8, 2), (63, .if_icmp .ge 74, 3), (66, .aload_n 0, 1), (67, .getfield 21, 3), (70, .iload 4, 2), (72, .invokestatic 70, 3), (75, .iconst 4, 1), (76, .if_icmp .le 61, 3), (79, .iload 4, 2), (81, .aload_n 0, 1), (82, .getfield 63, 3), (85, .if_icmp .eq 32, 3), (88, .aload_n 0, 1), (89, .getfield 27, 3), (92, .aload_n 0, 1), (93, .getfield 15, 3), (96, .iload 4, 2), (98, .invokestatic 70, 3), (101, .invokestatic 70, 3), (104, .ifCond .ne 13, 3), (107, .aload_n 0, 1), (108, .iload 4, 2), (110, .invokevirtual 115, 3), (113, .istore_n 2, 1), (114, .goto 11, 3), (117, .aload_n 0, 1), (118, .iload 4, 2), (120, .invokevirtual 118, 3), (123, .istore 4, 2), (125, .aload_n 0, 1), (126, .iload 4, 2), (128, .invokevirtual 112, 3), (131, .iinc 5 1, 3), (134, .goto (-75), 3), (137, .iinc 3 1, 3), (140, .goto (-136), 3), (143, .return_, 1)]
theorem zo_cX1_putIn_0 : zd_ok cX1_putIn zl_cX1_putIn_0 = true := by decide +kernel
theorem dX1_putIn_0 : decode cX1_putIn 0 = .ok (.iload_n 1, 1) := zd_at zo_cX1_putIn_0 0 rfl
theorem dX1_putIn_1 : decode cX1_putIn 1 = .ok (.istore_n 2, 1) := zd_at zo_cX1_putIn_0 1 rfl
theorem dX1_putIn_2 : decode cX1_putIn 2 = .ok (.iconst 0, 1) := zd_at zo_cX1_putIn_0 2 rfl
theorem dX1_putIn_3 : decode cX1_putIn 3 = .ok (.istore_n 3, 1) := zd_at zo_cX1_putIn_0 3 rfl
theorem dX1_putIn_4 : decode cX1_putIn 4 = .ok (.iload_n 3, 1) := zd_at zo_cX1_putIn_0 4 rfl
theorem dX1_putIn_5 : decode cX1_putIn 5 = .ok (.bipush 8, 2) := zd_at zo_cX1_putIn_0 5 rfl
theorem dX1_putIn_7 : decode cX1_putIn 7 = .ok (.if_icmp .gt 136, 3) := zd_at zo_cX1_putIn_0 6 rfl
theorem dX1_putIn_10 : decode cX1_putIn 10 = .ok (.iload_n 2, 1) := zd_at zo_cX1_putIn_0 7 rfl
theorem dX1_putIn_11 : decode cX1_putIn 11 = .ok (.iconst (-1), 1) := zd_at zo_cX1_putIn_0 8 rfl
theorem dX1_putIn_12 : decode cX1_putIn 12 = .ok (.if_icmp .eq 131, 3) := zd_at zo_cX1_putIn_0 9 rfl
theorem dX1_putIn_15 : decode cX1_putIn 15 = .ok (.aload_n 0, 1) := zd_at zo_cX1_putIn_0 10 rfl
theorem dX1_putIn_16 : decode cX1_putIn 16 = .ok (.iload_n 2, 1) := zd_at zo_cX1_putIn_0 11 rfl
theorem dX1_putIn_17 : decode cX1_putIn 17 = .ok (.aload_n 0, 1) := zd_at zo_cX1_putIn_0 12 rfl
theorem dX1_putIn_18 : decode cX1_putIn 18 = .ok (.getfield 15, 3) := zd_at zo_cX1_putIn_0 13 rfl
theorem dX1_putIn_21 : decode cX1_putIn 21 = .ok (.iload_n 2, 1) := zd_at zo_cX1_putIn_0 14 rfl
theorem dX1_putIn_22 : decode cX1_putIn 22 = .ok (.invokestatic 70, 3) := zd_at zo_cX1_putIn_0 15 rfl
theorem dX1_putIn_25 : decode cX1_putIn 25 = .ok (.iconst 1, 1) := zd_at zo_cX1_putIn_0 16 rfl
theorem dX1_putIn_26 : decode cX1_putIn 26 = .ok (.iadd, 1) := zd_at zo_cX1_putIn_0 17 rfl
theorem dX1_putIn_27 : decode cX1_putIn 27 = .ok (.invokevirtual 105, 3) := zd_at zo_cX1_putIn_0 18 rfl
theorem dX1_putIn_30 : decode cX1_putIn 30 = .ok (.istore 4, 2) := zd_at zo_cX1_putIn_0 19 rfl
theorem dX1_putIn_32 : decode cX1_putIn 32 = .ok (.aload_n 0, 1) := zd_at zo_cX1_putIn_0 20 rfl
theorem dX1_putIn_33 : decode cX1_putIn 33 = .ok (.iload 4, 2) := zd_at zo_cX1_putIn_0 21 rfl
theorem dX1_putIn_35 : decode cX1_putIn 35 = .ok (.aload_n 0, 1) := zd_at zo_cX1_putIn_0 22 rfl
theorem dX1_putIn_36 : decode cX1_putIn 36 = .ok (.getfield 21, 3) := zd_at zo_cX1_putIn_0 23 rfl
theorem dX1_putIn_39 : decode cX1_putIn 39 = .ok (.iload 4, 2) := zd_at zo_cX1_putIn_0 24 rfl
theorem dX1_putIn_41 : decode cX1_putIn 41 = .ok (.invokestatic 70, 3) := zd_at zo_cX1_putIn_0 25 rfl
theorem dX1_putIn_44 : decode cX1_putIn 44 = .ok (.iload_n 2, 1) := zd_at zo_cX1_putIn_0 26 rfl
theorem dX1_putIn_45 : decode cX1_putIn 45 = .ok (.invokevirtual 108, 3) := zd_at zo_cX1_putIn_0 27 rfl
theorem dX1_putIn_48 : decode cX1_putIn 48 = .ok (.aload_n 0, 1) := zd_at zo_cX1_putIn_0 28 rfl
theorem dX1_putIn_49 : decode cX1_putIn 49 = .ok (.iload 4, 2) := zd_at zo_cX1_putIn_0 29 rfl
theorem dX1_putIn_51 : decode cX1_putIn 51 = .ok (.invokevirtual 112, 3) := zd_at zo_cX1_putIn_0 30 rfl
theorem dX1_putIn_54 : decode cX1_putIn 54 = .ok (.iconst (-1), 1) := zd_at zo_cX1_putIn_0 31 rfl
theorem dX1_putIn_55 : decode cX1_putIn 55 = .ok (.istore_n 2, 1) := zd_at zo_cX1_putIn_0 32 rfl
theorem dX1_putIn_56 : decode cX1_putIn 56 = .ok (.iconst 0, 1) := zd_at zo_cX1_putIn_0 33 rfl
theorem dX1_putIn_57 : decode cX1_putIn 57 = .ok (.istore 5, 2) := zd_at zo_cX1_putIn_0 34 rfl
theorem dX1_putIn_59 : decode cX1_putIn 59 = .ok (.iload 5, 2) := zd_at zo_cX1_putIn_0 35 rfl
theorem dX1_putIn_61 : decode cX1_putIn 61 = .ok (.bipush 8, 2) := zd_at zo_cX1_putIn_0 36 rfl
theorem dX1_putIn_63 : decode cX1_putIn 63 = .ok (.if_icmp .ge 74, 3) := zd_at zo_cX1_putIn_0 37 rfl
theorem dX1_putIn_66 : decode cX1_putIn 66 = .ok (.aload_n 0, 1) := zd_at zo_cX1_putIn_0 38 rfl
theorem dX1_putIn_67 : decode cX1_putIn 67 = .ok (.getfield 21, 3) := zd_at zo_cX1_putIn_0 39 rfl
theorem dX1_putIn_70 : decode cX1_putIn 70 = .ok (.iload 4, 2) := zd_at zo_cX1_putIn_0 40 rfl
theorem dX1_putIn_72 : decode cX1_putIn 72 = .ok (.invokestatic 70, 3) := zd_at zo_cX1_putIn_0 41 rfl
theorem dX1_putIn_75 : decode cX1_putIn 75 = .ok (.iconst 4, 1) := zd_at zo_cX1_putIn_0 42 rfl
theorem dX1_putIn_76 : decode cX1_putIn 76 = .ok (.if_icmp .le 61, 3) := zd_at zo_cX1_putIn_0 43 rfl
theorem dX1_putIn_79 : decode cX1_putIn 79 = .ok (.iload 4, 2) := zd_at zo_cX1_putIn_0 44 rfl
theorem dX1_putIn_81 : decode cX1_putIn 81 = .ok (.aload_n 0, 1) := zd_at zo_cX1_putIn_0 45 rfl
theorem dX1_putIn_82 : decode cX1_putIn 82 = .ok (.getfield 63, 3) := zd_at zo_cX1_putIn_0 46 rfl
theorem dX1_putIn_85 : decode cX1_putIn 85 = .ok (.if_icmp .eq 32, 3) := zd_at zo_cX1_putIn_0 47 rfl
theorem dX1_putIn_88 : decode cX1_putIn 88 = .ok (.aload_n 0, 1) := zd_at zo_cX1_putIn_0 48 rfl
theorem dX1_putIn_89 : decode cX1_putIn 89 = .ok (.getfield 27, 3) := zd_at zo_cX1_putIn_0 49 rfl
theorem dX1_putIn_92 : decode cX1_putIn 92 = .ok (.aload_n 0, 1) := zd_at zo_cX1_putIn_0 50 rfl
theorem dX1_putIn_93 : decode cX1_putIn 93 = .ok (.getfield 15, 3) := zd_at zo_cX1_putIn_0 51 rfl
theorem dX1_putIn_96 : decode cX1_putIn 96 = .ok (.iload 4, 2) := zd_at zo_cX1_putIn_0 52 rfl
theorem dX1_putIn_98 : decode cX1_putIn 98 = .ok (.invokestatic 70, 3) := zd_at zo_cX1_putIn_0 53 rfl
theorem dX1_putIn_101 : decode cX1_putIn 101 = .ok (.invokestatic 70, 3) := zd_at zo_cX1_putIn_0 54 rfl
theorem dX1_putIn_104 : decode cX1_putIn 104 = .ok (.ifCond .ne 13, 3) := zd_at zo_cX1_putIn_0 55 rfl
theorem dX1_putIn_107 : decode cX1_putIn 107 = .ok (.aload_n 0, 1) := zd_at zo_cX1_putIn_0 56 rfl
theorem dX1_putIn_108 : decode cX1_putIn 108 = .ok (.iload 4, 2) := zd_at zo_cX1_putIn_0 57 rfl
theorem dX1_putIn_110 : decode cX1_putIn 110 = .ok (.invokevirtual 115, 3) := zd_at zo_cX1_putIn_0 58 rfl
theorem dX1_putIn_113 : decode cX1_putIn 113 = .ok (.istore_n 2, 1) := zd_at zo_cX1_putIn_0 59 rfl
theorem dX1_putIn_114 : decode cX1_putIn 114 = .ok (.goto 11, 3) := zd_at zo_cX1_putIn_0 60 rfl
theorem dX1_putIn_117 : decode cX1_putIn 117 = .ok (.aload_n 0, 1) := zd_at zo_cX1_putIn_0 61 rfl
theorem dX1_putIn_118 : decode cX1_putIn 118 = .ok (.iload 4, 2) := zd_at zo_cX1_putIn_0 62 rfl
theorem dX1_putIn_120 : decode cX1_putIn 120 = .ok (.invokevirtual 118, 3) := zd_at zo_cX1_putIn_0 63 rfl
theorem dX1_putIn_123 : decode cX1_putIn 123 = .ok (.istore 4, 2) := zd_at zo_cX1_putIn_0 64 rfl
theorem dX1_putIn_125 : decode cX1_putIn 125 = .ok (.aload_n 0, 1) := zd_at zo_cX1_putIn_0 65 rfl
theorem dX1_putIn_126 : decode cX1_putIn 126 = .ok (.iload 4, 2) := zd_at zo_cX1_putIn_0 66 rfl
theorem dX1_putIn_128 : decode cX1_putIn 128 = .ok (.invokevirtual 112, 3) := zd_at zo_cX1_putIn_0 67 rfl
theorem dX1_putIn_131 : decode cX1_putIn 131 = .ok (.iinc 5 1, 3) := zd_at zo_cX1_putIn_0 68 rfl
theorem dX1_putIn_134 : decode cX1_putIn 134 = .ok (.goto (-75), 3) := zd_at zo_cX1_putIn_0 69 rfl
theorem dX1_putIn_137 : decode cX1_putIn 137 = .ok (.iinc 3 1, 3) := zd_at zo_cX1_putIn_0 70 rfl
theorem dX1_putIn_140 : decode cX1_putIn 140 = .ok (.goto (-136), 3) := zd_at zo_cX1_putIn_0 71 rfl
theorem dX1_putIn_143 : decode cX1_putIn 143 = .ok (.return_, 1) := zd_at zo_cX1_putIn_0 72 rfl
def zl_cX1_reached_0 : List (Nat × Instr × Nat) := [(0, .aload_n 0, 1), (1, .getfield 63, 3), (4, .istore_n 3, 1), (5, .iconst 0, 1), (6, .istore 4, 2), (8, .iload 4, 2), (10, .bipush 8, 2), (12, .if_icmp .ge 28, 3), (15, .aload_n 0, 1), (16, .getfield 15, 3), (19, .iload_n 3, 1), (20, .invokestatic 70, 3), (23, .iload_n 2, 1), (24, .if_icmp .le 16, 3), (27, .aload_n 0, 1), (28, .iload_n 3, 1), (29, .iload_n 1, 1), (30, .invokevirtual 121, 3), (33, .istore_n 3, 1), (34, .iinc 4 1, 3), (37, .goto (-29), 3), (40, .iload_n 3, 1), (41, .ireturn, 1)]
theorem zo_cX1_reached_0 : zd_ok cX1_reached zl_cX1_reached_0 = true := by decide +kernel
theorem dX1_reached_0 : decode cX1_reached 0 = .ok (.aload_n 0, 1) := zd_at zo_cX1_reached_0 0 rfl
theorem dX1_reached_1 : decode cX1_reached 1 = .ok (.getfield 63, 3) := zd_at zo_cX1_reached_0 1 rfl
theorem dX1_reached_4 : decode cX1_reached 4 = .ok (.istore_n 3, 1) := zd_at zo_cX1_reached_0 2 rfl
theorem dX1_reached_5 : decode cX1_reached 5 = .ok (.iconst 0, 1) := zd_at zo_cX1_reached_0 3 rfl
theorem dX1_reached_6 : decode cX1_reached 6 = .ok (.istore 4, 2) := zd_at zo_cX1_reached_0 4 rfl
theorem dX1_reached_8 : decode cX1_reached 8 = .ok (.iload 4, 2) := zd_at zo_cX1_reached_0 5 rfl
theorem dX1_reached_10 : decode cX1_reached 10 = .ok (.bipush 8, 2) := zd_at zo_cX1_reached_0 6 rfl
theorem dX1_reached_12 : decode cX1_reached 12 = .ok (.if_icmp .ge 28, 3) := zd_at zo_cX1_reached_0 7 rfl
theorem dX1_reached_15 : decode cX1_reached 15 = .ok (.aload_n 0, 1) := zd_at zo_cX1_reached_0 8 rfl
theorem dX1_reached_16 : decode cX1_reached 16 = .ok (.getfield 15, 3) := zd_at zo_cX1_reached_0 9 rfl
theorem dX1_reached_19 : decode cX1_reached 19 = .ok (.iload_n 3, 1) := zd_at zo_cX1_reached_0 10 rfl
theorem dX1_reached_20 : decode cX1_reached 20 = .ok (.invokestatic 70, 3) := zd_at zo_cX1_reached_0 11 rfl
theorem dX1_reached_23 : decode cX1_reached 23 = .ok (.iload_n 2, 1) := zd_at zo_cX1_reached_0 12 rfl
theorem dX1_reached_24 : decode cX1_reached 24 = .ok (.if_icmp .le 16, 3) := zd_at zo_cX1_reached_0 13 rfl
theorem dX1_reached_27 : decode cX1_reached 27 = .ok (.aload_n 0, 1) := zd_at zo_cX1_reached_0 14 rfl
theorem dX1_reached_28 : decode cX1_reached 28 = .ok (.iload_n 3, 1) := zd_at zo_cX1_reached_0 15 rfl
theorem dX1_reached_29 : decode cX1_reached 29 = .ok (.iload_n 1, 1) := zd_at zo_cX1_reached_0 16 rfl
theorem dX1_reached_30 : decode cX1_reached 30 = .ok (.invokevirtual 121, 3) := zd_at zo_cX1_reached_0 17 rfl
theorem dX1_reached_33 : decode cX1_reached 33 = .ok (.istore_n 3, 1) := zd_at zo_cX1_reached_0 18 rfl
theorem dX1_reached_34 : decode cX1_reached 34 = .ok (.iinc 4 1, 3) := zd_at zo_cX1_reached_0 19 rfl
theorem dX1_reached_37 : decode cX1_reached 37 = .ok (.goto (-29), 3) := zd_at zo_cX1_reached_0 20 rfl
theorem dX1_reached_40 : decode cX1_reached 40 = .ok (.iload_n 3, 1) := zd_at zo_cX1_reached_0 21 rfl
theorem dX1_reached_41 : decode cX1_reached 41 = .ok (.ireturn, 1) := zd_at zo_cX1_reached_0 22 rfl
def zl_cX1_branch_0 : List (Nat × Instr × Nat) := [(0, .aload_n 0, 1), (1, .getfield 21, 3), (4, .iload_n 1, 1), (5, .invokestatic 70, 3), (8, .istore_n 3, 1), (9, .aload_n 0, 1), (10, .getfield 24, 3), (13, .iload_n 1, 1), (14, .iconst 5, 1), (15, .imul, 1), (16, .invokestatic 70, 3), (19, .istore 4, 2), (21, .iconst 1, 1), (22, .istore 5, 2), (24, .iload 5, 2), (26, .iload_n 3, 1), (27, .if_icmp .ge 84, 3), (30, .aload_n 0, 1), (31, .getfield 24, 3), (34, .iload_n 1, 1), (35, .iconst 5, 1), (36, .imul, 1), (37, .iload 5, 2), (39, .iadd, 1), (40, .invokestatic 70, 3), (43, .istore 6, 2), (45, .aload_n 0, 1), (46, .iload 6, 2), (48, .iload_n 2, 1), (49, .invokevirtual 124, 3), (52, .aload_n 0, 1), (53, .iload 6, 2), (55, .invokevirtual 127, 3), (58, .isub, 1), (59, .aload_n 0, 1), (60, .iload 4, 2), (62, .iload_n 2, 1), (63, .invokevirtual 124, 3), (66, .isub, 1), (67, .aload_n 0, 1), (68, .iload 4, 2), (70, .invokevirtual 127, 3), (73, .iadd, 1), (74, .istore 7, 2), (76, .iload 7, 2), (78, .ifCond .lt 23, 3), (81, .iload 7, 2), (83, .ifCond .ne 22, 3), (86, .aload_n 0, 1), (87, .iload 6, 2), (89, .invokevirtual 127, 3), (92, .aload_n 0, 1), (93, .iload 4, 2), (95, .invokevirtual 127, 3), (98, .if_icmp .ge 7, 3), (101, .iload 6, 2), (103, .istore 4, 2), (105, .iinc 5 1, 3), (108, .goto (-84), 3), (111, .iload 4, 2), (113, .ireturn, 1)]
theorem zo_cX1_branch_0 : zd_ok cX1_branch zl_cX1_branch_0 = true := by decide +kernel
theorem dX1_branch_0 : decode cX1_branch 0 = .ok (.aload_n 0, 1) := zd_at zo_cX1_branch_0 0 rfl
theorem dX1_branch_1 : decode cX1_branch 1 = .ok (.getfield 21, 3) := zd_at zo_cX1_branch_0 1 rfl
theorem dX1_branch_4 : decode cX1_branch 4 = .ok (.iload_n 1, 1) := zd_at zo_cX1_branch_0 2 rfl
theorem dX1_branch_5 : decode cX1_branch 5 = .ok (.invokestatic 70, 3) := zd_at zo_cX1_branch_0 3 rfl
theorem dX1_branch_8 : decode cX1_branch 8 = .ok (.istore_n 3, 1) := zd_at zo_cX1_branch_0 4 rfl
theorem dX1_branch_9 : decode cX1_branch 9 = .ok (.aload_n 0, 1) := zd_at zo_cX1_branch_0 5 rfl
theorem dX1_branch_10 : decode cX1_branch 10 = .ok (.getfield 24, 3) := zd_at zo_cX1_branch_0 6 rfl
theorem dX1_branch_13 : decode cX1_branch 13 = .ok (.iload_n 1, 1) := zd_at zo_cX1_branch_0 7 rfl
theorem dX1_branch_14 : decode cX1_branch 14 = .ok (.iconst 5, 1) := zd_at zo_cX1_branch_0 8 rfl
theorem dX1_branch_15 : decode cX1_branch 15 = .ok (.imul, 1) := zd_at zo_cX1_branch_0 9 rfl
theorem dX1_branch_16 : decode cX1_branch 16 = .ok (.invokestatic 70, 3) := zd_at zo_cX1_branch_0 10 rfl
theorem dX1_branch_19 : decode cX1_branch 19 = .ok (.istore 4, 2) := zd_at zo_cX1_branch_0 11 rfl
theorem dX1_branch_21 : decode cX1_branch 21 = .ok (.iconst 1, 1) := zd_at zo_cX1_branch_0 12 rfl
theorem dX1_branch_22 : decode cX1_branch 22 = .ok (.istore 5, 2) := zd_at zo_cX1_branch_0 13 rfl
theorem dX1_branch_24 : decode cX1_branch 24 = .ok (.iload 5, 2) := zd_at zo_cX1_branch_0 14 rfl
theorem dX1_branch_26 : decode cX1_branch 26 = .ok (.iload_n 3, 1) := zd_at zo_cX1_branch_0 15 rfl
theorem dX1_branch_27 : decode cX1_branch 27 = .ok (.if_icmp .ge 84, 3) := zd_at zo_cX1_branch_0 16 rfl
theorem dX1_branch_30 : decode cX1_branch 30 = .ok (.aload_n 0, 1) := zd_at zo_cX1_branch_0 17 rfl
theorem dX1_branch_31 : decode cX1_branch 31 = .ok (.getfield 24, 3) := zd_at zo_cX1_branch_0 18 rfl
theorem dX1_branch_34 : decode cX1_branch 34 = .ok (.iload_n 1, 1) := zd_at zo_cX1_branch_0 19 rfl
theorem dX1_branch_35 : decode cX1_branch 35 = .ok (.iconst 5, 1) := zd_at zo_cX1_branch_0 20 rfl
theorem dX1_branch_36 : decode cX1_branch 36 = .ok (.imul, 1) := zd_at zo_cX1_branch_0 21 rfl
theorem dX1_branch_37 : decode cX1_branch 37 = .ok (.iload 5, 2) := zd_at zo_cX1_branch_0 22 rfl
theorem dX1_branch_39 : decode cX1_branch 39 = .ok (.iadd, 1) := zd_at zo_cX1_branch_0 23 rfl
theorem dX1_branch_40 : decode cX1_branch 40 = .ok (.invokestatic 70, 3) := zd_at zo_cX1_branch_0 24 rfl
theorem dX1_branch_43 : decode cX1_branch 43 = .ok (.istore 6, 2) := zd_at zo_cX1_branch_0 25 rfl
theorem dX1_branch_45 : decode cX1_branch 45 = .ok (.aload_n 0, 1) := zd_at zo_cX1_branch_0 26 rfl
theorem dX1_branch_46 : decode cX1_branch 46 = .ok (.iload 6, 2) := zd_at zo_cX1_branch_0 27 rfl
theorem dX1_branch_48 : decode cX1_branch 48 = .ok (.iload_n 2, 1) := zd_at zo_cX1_branch_0 28 rfl
theorem dX1_branch_49 : decode cX1_branch 49 = .ok (.invokevirtual 124, 3) := zd_at zo_cX1_branch_0 29 rfl
theorem dX1_branch_52 : decode cX1_branch 52 = .ok (.aload_n 0, 1) := zd_at zo_cX1_branch_0 30 rfl
theorem dX1_branch_53 : decode cX1_branch 53 = .ok (.iload 6, 2) := zd_at zo_cX1_branch_0 31 rfl
theorem dX1_branch_55 : decode cX1_branch 55 = .ok (.invokevirtual 127, 3) := zd_at zo_cX1_branch_0 32 rfl
theorem dX1_branch_58 : decode cX1_branch 58 = .ok (.isub, 1) := zd_at zo_cX1_branch_0 33 rfl
theorem dX1_branch_59 : decode cX1_branch 59 = .ok (.aload_n 0, 1) := zd_at zo_cX1_branch_0 34 rfl
theorem dX1_branch_60 : decode cX1_branch 60 = .ok (.iload 4, 2) := zd_at zo_cX1_branch_0 35 rfl
theorem dX1_branch_62 : decode cX1_branch 62 = .ok (.iload_n 2, 1) := zd_at zo_cX1_branch_0 36 rfl
theorem dX1_branch_63 : decode cX1_branch 63 = .ok (.invokevirtual 124, 3) := zd_at zo_cX1_branch_0 37 rfl
theorem dX1_branch_66 : decode cX1_branch 66 = .ok (.isub, 1) := zd_at zo_cX1_branch_0 38 rfl
theorem dX1_branch_67 : decode cX1_branch 67 = .ok (.aload_n 0, 1) := zd_at zo_cX1_branch_0 39 rfl
theorem dX1_branch_68 : decode cX1_branch 68 = .ok (.iload 4, 2) := zd_at zo_cX1_branch_0 40 rfl
theorem dX1_branch_70 : decode cX1_branch 70 = .ok (.invokevirtual 127, 3) := zd_at zo_cX1_branch_0 41 rfl
theorem dX1_branch_73 : decode cX1_branch 73 = .ok (.iadd, 1) := zd_at zo_cX1_branch_0 42 rfl
theorem dX1_branch_74 : decode cX1_branch 74 = .ok (.istore 7, 2) := zd_at zo_cX1_branch_0 43 rfl
theorem dX1_branch_76 : decode cX1_branch 76 = .ok (.iload 7, 2) := zd_at zo_cX1_branch_0 44 rfl
theorem dX1_branch_78 : decode cX1_branch 78 = .ok (.ifCond .lt 23, 3) := zd_at zo_cX1_branch_0 45 rfl
theorem dX1_branch_81 : decode cX1_branch 81 = .ok (.iload 7, 2) := zd_at zo_cX1_branch_0 46 rfl
theorem dX1_branch_83 : decode cX1_branch 83 = .ok (.ifCond .ne 22, 3) := zd_at zo_cX1_branch_0 47 rfl
theorem dX1_branch_86 : decode cX1_branch 86 = .ok (.aload_n 0, 1) := zd_at zo_cX1_branch_0 48 rfl
theorem dX1_branch_87 : decode cX1_branch 87 = .ok (.iload 6, 2) := zd_at zo_cX1_branch_0 49 rfl
theorem dX1_branch_89 : decode cX1_branch 89 = .ok (.invokevirtual 127, 3) := zd_at zo_cX1_branch_0 50 rfl
theorem dX1_branch_92 : decode cX1_branch 92 = .ok (.aload_n 0, 1) := zd_at zo_cX1_branch_0 51 rfl
theorem dX1_branch_93 : decode cX1_branch 93 = .ok (.iload 4, 2) := zd_at zo_cX1_branch_0 52 rfl
theorem dX1_branch_95 : decode cX1_branch 95 = .ok (.invokevirtual 127, 3) := zd_at zo_cX1_branch_0 53 rfl
theorem dX1_branch_98 : decode cX1_branch 98 = .ok (.if_icmp .ge 7, 3) := zd_at zo_cX1_branch_0 54 rfl
theorem dX1_branch_101 : decode cX1_branch 101 = .ok (.iload 6, 2) := zd_at zo_cX1_branch_0 55 rfl
theorem dX1_branch_103 : decode cX1_branch 103 = .ok (.istore 4, 2) := zd_at zo_cX1_branch_0 56 rfl
theorem dX1_branch_105 : decode cX1_branch 105 = .ok (.iinc 5 1, 3) := zd_at zo_cX1_branch_0 57 rfl
theorem dX1_branch_108 : decode cX1_branch 108 = .ok (.goto (-84), 3) := zd_at zo_cX1_branch_0 58 rfl
theorem dX1_branch_111 : decode cX1_branch 111 = .ok (.iload 4, 2) := zd_at zo_cX1_branch_0 59 rfl
theorem dX1_branch_113 : decode cX1_branch 113 = .ok (.ireturn, 1) := zd_at zo_cX1_branch_0 60 rfl
def zl_cX1_throwOut_0 : List (Nat × Instr × Nat) := [(0, .aload_n 0, 1), (1, .getfield 21, 3), (4, .iload_n 1, 1), (5, .invokestatic 70, 3), (8, .istore_n 2, 1), (9, .aload_n 0, 1), (10, .getfield 24, 3), (13, .iload_n 1, 1), (14, .iconst 5, 1), (15, .imul, 1), (16, .invokestatic 70, 3), (19, .istore_n 3, 1), (20, .iconst 1, 1), (21, .istore 4, 2), (23, .iload 4, 2), (25, .iload_n 2, 1), (26, .if_icmp .ge 43, 3), (29, .aload_n 0, 1), (30, .getfield 24, 3), (33, .iload_n 1, 1), (34, .iconst 5, 1), (35, .imul, 1), (36, .iload 4, 2), (38, .iadd, 1), (39, .invokestatic 70, 3), (42, .istore 5, 2), (44, .aload_n 0, 1), (45, .iload 5, 2), (47, .iload_n 1, 1), (48, .invokevirtual 130, 3), (51, .aload_n 0, 1), (52, .iload_n 3, 1), (53, .iload_n 1, 1), (54, .invokevirtual 130, 3), (57, .if_icmp .le 6, 3), (60, .iload 5, 2), (62, .istore_n 3, 1), (63, .iinc 4 1, 3), (66, .goto (-43), 3), (69, .aload_n 0, 1), (70, .iload_n 3, 1), (71, .invokevirtual 133, 3), (74, .aload_n 0, 1), (75, .getfield 27, 3), (78, .aload_n 0, 1), (79, .getfield 15, 3), (82, .iload_n 1, 1), (83, .invokestatic 70, 3), (86, .iconst 1, 1), (87, .invokestatic 45, 3), (90, .aload_n 0, 1), (91, .dup, 1), (92, .getfield 49, 3), (95, .iconst 1, 1), (96, .iadd, 1), (97, .putfield 49, 3), (100, .iload_n 3, 1), (101, .ireturn, 1)]
theorem zo_cX1_throwOut_0 : zd_ok cX1_throwOut zl_cX1_throwOut_0 = true := by decide +kernel
theorem dX1_throwOut_0 : decode cX1_throwOut 0 = .ok (.aload_n 0, 1) := zd_at zo_cX1_throwOut_0 0 rfl
theorem dX1_throwOut_1 : decode cX1_throwOut 1 = .ok (.getfield 21, 3) := zd_at zo_cX1_throwOut_0 1 rfl
theorem dX1_throwOut_4 : decode cX1_throwOut 4 = .ok (.iload_n 1, 1) := zd_at zo_cX1_throwOut_0 2 rfl
theorem dX1_throwOut_5 : decode cX1_throwOut 5 = .ok (.invokestatic 70, 3) := zd_at zo_cX1_throwOut_0 3 rfl
theorem dX1_throwOut_8 : decode cX1_throwOut 8 = .ok (.istore_n 2, 1) := zd_at zo_cX1_throwOut_0 4 rfl
theorem dX1_throwOut_9 : decode cX1_throwOut 9 = .ok (.aload_n 0, 1) := zd_at zo_cX1_throwOut_0 5 rfl
theorem dX1_throwOut_10 : decode cX1_throwOut 10 = .ok (.getfield 24, 3) := zd_at zo_cX1_throwOut_0 6 rfl
theorem dX1_throwOut_13 : decode cX1_throwOut 13 = .ok (.iload_n 1, 1) := zd_at zo_cX1_throwOut_0 7 rfl
theorem dX1_throwOut_14 : decode cX1_throwOut 14 = .ok (.iconst 5, 1) := zd_at zo_cX1_throwOut_0 8 rfl
theorem dX1_throwOut_15 : decode cX1_throwOut 15 = .ok (.imul, 1) := zd_at zo_cX1_throwOut_0 9 rfl
theorem dX1_throwOut_16 : decode cX1_throwOut 16 = .ok (.invokestatic 70, 3) := zd_at zo_cX1_throwOut_0 10 rfl
theorem dX1_throwOut_19 : decode cX1_throwOut 19 = .ok (.istore_n 3, 1) := zd_at zo_cX1_throwOut_0 11 rfl
theorem dX1_throwOut_20 : decode cX1_throwOut 20 = .ok (.iconst 1, 1) := zd_at zo_cX1_throwOut_0 12 rfl
theorem dX1_throwOut_21 : decode cX1_throwOut 21 = .ok (.istore 4, 2) := zd_at zo_cX1_throwOut_0 13 rfl
theorem dX1_throwOut_23 : decode cX1_throwOut 23 = .ok (.iload 4, 2) := zd_at zo_cX1_throwOut_0 14 rfl
theorem dX1_throwOut_25 : decode cX1_throwOut 25 = .ok (.iload_n 2, 1) := zd_at zo_cX1_throwOut_0 15 rfl
theorem dX1_throwOut_26 : decode cX1_throwOut 26 = .ok (.if_icmp .ge 43, 3) := zd_at zo_cX1_throwOut_0 16 rfl
theorem dX1_throwOut_29 : decode cX1_throwOut 29 = .ok (.aload_n 0, 1) := zd_at zo_cX1_throwOut_0 17 rfl
theorem dX1_throwOut_30 : decode cX1_throwOut 30 = .ok (.getfield 24, 3) := zd_at zo_cX1_throwOut_0 18 rfl
theorem dX1_throwOut_33 : decode cX1_throwOut 33 = .ok (.iload_n 1, 1) := zd_at zo_cX1_throwOut_0 19 rfl
theorem dX1_throwOut_34 : decode cX1_throwOut 34 = .ok (.iconst 5, 1) := zd_at zo_cX1_throwOut_0 20 rfl
theorem dX1_throwOut_35 : decode cX1_throwOut 35 = .ok (.imul, 1) := zd_at zo_cX1_throwOut_0 21 rfl
theorem dX1_throwOut_36 : decode cX1_throwOut 36 = .ok (.iload 4, 2) := zd_at zo_cX1_throwOut_0 22 rfl
theorem dX1_throwOut_38 : decode cX1_throwOut 38 = .ok (.iadd, 1) := zd_at zo_cX1_throwOut_0 23 rfl
theorem dX1_throwOut_39 : decode cX1_throwOut 39 = .ok (.invokestatic 70, 3) := zd_at zo_cX1_throwOut_0 24 rfl
theorem dX1_throwOut_42 : decode cX1_throwOut 42 = .ok (.istore 5, 2) := zd_at zo_cX1_throwOut_0 25 rfl
theorem dX1_throwOut_44 : decode cX1_throwOut 44 = .ok (.aload_n 0, 1) := zd_at zo_cX1_throwOut_0 26 rfl
theorem dX1_throwOut_45 : decode cX1_throwOut 45 = .ok (.iload 5, 2) := zd_at zo_cX1_throwOut_0 27 rfl
theorem dX1_throwOut_47 : decode cX1_throwOut 47 = .ok (.iload_n 1, 1) := zd_at zo_cX1_throwOut_0 28 rfl
theorem dX1_throwOut_48 : decode cX1_throwOut 48 = .ok (.invokevirtual 130, 3) := zd_at zo_cX1_throwOut_0 29 rfl
theorem dX1_throwOut_51 : decode cX1_throwOut 51 = .ok (.aload_n 0, 1) := zd_at zo_cX1_throwOut_0 30 rfl
theorem dX1_throwOut_52 : decode cX1_throwOut 52 = .ok (.iload_n 3, 1) := zd_at zo_cX1_throwOut_0 31 rfl
theorem dX1_throwOut_53 : decode cX1_throwOut 53 = .ok (.iload_n 1, 1) := zd_at zo_cX1_throwOut_0 32 rfl
theorem dX1_throwOut_54 : decode cX1_throwOut 54 = .ok (.invokevirtual 130, 3) := zd_at zo_cX1_throwOut_0 33 rfl
theorem dX1_throwOut_57 : decode cX1_throwOut 57 = .ok (.if_icmp .le 6, 3) := zd_at zo_cX1_throwOut_0 34 rfl
theorem dX1_throwOut_60 : decode cX1_throwOut 60 = .ok (.iload 5, 2) := zd_at zo_cX1_throwOut_0 35 rfl
theorem dX1_throwOut_62 : decode cX1_throwOut 62 = .ok (.istore_n 3, 1) := zd_at zo_cX1_throwOut_0 36 rfl
theorem dX1_throwOut_63 : decode cX1_throwOut 63 = .ok (.iinc 4 1, 3) := zd_at zo_cX1_throwOut_0 37 rfl
theorem dX1_throwOut_66 : decode cX1_throwOut 66 = .ok (.goto (-43), 3) := zd_at zo_cX1_throwOut_0 38 rfl
theorem dX1_throwOut_69 : decode cX1_throwOut 69 = .ok (.aload_n 0, 1) := zd_at zo_cX1_throwOut_0 39 rfl
theorem dX1_throwOut_70 : decode cX1_throwOut 70 = .ok (.iload_n 3, 1) := zd_at zo_cX1_throwOut_0 40 rfl
theorem dX1_throwOut_71 : decode cX1_throwOut 71 = .ok (.invokevirtual 133, 3) := zd_at zo_cX1_throwOut_0 41 rfl
theorem dX1_throwOut_74 : decode cX1_throwOut 74 = .ok (.aload_n 0, 1) := zd_at zo_cX1_throwOut_0 42 rfl
theorem dX1_throwOut_75 : decode cX1_throwOut 75 = .ok (.getfield 27, 3) := zd_at zo_cX1_throwOut_0 43 rfl
theorem dX1_throwOut_78 : decode cX1_throwOut 78 = .ok (.aload_n 0, 1) := zd_at zo_cX1_throwOut_0 44 rfl
theorem dX1_throwOut_79 : decode cX1_throwOut 79 = .ok (.getfield 15, 3) := zd_at zo_cX1_throwOut_0 45 rfl
theorem dX1_throwOut_82 : decode cX1_throwOut 82 = .ok (.iload_n 1, 1) := zd_at zo_cX1_throwOut_0 46 rfl
theorem dX1_throwOut_83 : decode cX1_throwOut 83 = .ok (.invokestatic 70, 3) := zd_at zo_cX1_throwOut_0 47 rfl
theorem dX1_throwOut_86 : decode cX1_throwOut 86 = .ok (.iconst 1, 1) := zd_at zo_cX1_throwOut_0 48 rfl
theorem dX1_throwOut_87 : decode cX1_throwOut 87 = .ok (.invokestatic 45, 3) := zd_at zo_cX1_throwOut_0 49 rfl
theorem dX1_throwOut_90 : decode cX1_throwOut 90 = .ok (.aload_n 0, 1) := zd_at zo_cX1_throwOut_0 50 rfl
theorem dX1_throwOut_91 : decode cX1_throwOut 91 = .ok (.dup, 1) := zd_at zo_cX1_throwOut_0 51 rfl
theorem dX1_throwOut_92 : decode cX1_throwOut 92 = .ok (.getfield 49, 3) := zd_at zo_cX1_throwOut_0 52 rfl
theorem dX1_throwOut_95 : decode cX1_throwOut 95 = .ok (.iconst 1, 1) := zd_at zo_cX1_throwOut_0 53 rfl
theorem dX1_throwOut_96 : decode cX1_throwOut 96 = .ok (.iadd, 1) := zd_at zo_cX1_throwOut_0 54 rfl
theorem dX1_throwOut_97 : decode cX1_throwOut 97 = .ok (.putfield 49, 3) := zd_at zo_cX1_throwOut_0 55 rfl
theorem dX1_throwOut_100 : decode cX1_throwOut 100 = .ok (.iload_n 3, 1) := zd_at zo_cX1_throwOut_0 56 rfl
theorem dX1_throwOut_101 : decode cX1_throwOut 101 = .ok (.ireturn, 1) := zd_at zo_cX1_throwOut_0 57 rfl
def zl_cX1_split_0 : List (Nat × Instr × Nat) := [(0, .iconst 0, 1), (1, .istore_n 2, 1), (2, .iload_n 2, 1), (3, .iconst 5, 1), (4, .if_icmp .ge 29, 3), (7, .aload_n 0, 1), (8, .getfield 33, 3), (11, .iload_n 2, 1), (12, .aload_n 0, 1), (13, .getfield 24, 3), (16, .iload_n 1, 1), (17, .iconst 5, 1), (18, .imul, 1), (19, .iload_n 2, 1), (20, .iadd, 1), (21, .invokestatic 70, 3), (24, .invokestatic 45, 3), (27, .iinc 2 1, 3), (30, .goto (-28), 3), (33, .aload_n 0, 1), (34, .invokevirtual 136, 3), (37, .istore_n 2, 1), (38, .iload_n 2, 1), (39, .iconst 5, 1), (40, .idiv, 1), (41, .istore_n 3, 1), (42, .iload_n 2, 1), (43, .iconst 5, 1), (44, .irem, 1), (45, .istore 4, 2), (47, .aload_n 0, 1), (48, .aload_n 0, 1), (49, .getfield 15, 3), (52, .iload_n 1, 1), (53, .invokestatic 70, 3), (56, .invokevirtual 59, 3), (59, .istore 5, 2), (61, .aload_n 0, 1), (62, .getfield 21, 3), (65, .iload_n 1, 1), (66, .iconst 0, 1), (67, .invokestatic 45, 3), (70, .aload_n 0, 1), (71, .iload_n 1, 1), (72, .aload_n 0, 1), (73, .getfield 33, 3), (76, .iload_n 3, 1), (77, .invokestatic 70, 3), (80, .invokevirtual 139, 3), (83, .aload_n 0, 1), (84, .iload 5, 2), (86, .aload_n 0, 1), (87, .getfield 33, 3), (90, .iload 4, 2), (92, .invokestatic 70, 3), (95, .invokevirtual 139, 3), (98, .iconst 3, 1), (99, .istore 6, 2), (101, .iconst 0, 1), (102, .istore 7, 2), (104, .iload 7, 2), (106, .iconst 5, 1), (107, .if_icmp .ge 56, 3), (110, .iload 7, 2), (112, .iload_n 3, 1), (113, .if_icmp .eq 44, 3), (116, .iload 7, 2), (118, .iload 4, 2), (120, .if_icmp .eq 37, 3), (123, .aload_n 0, 1), (124, .aload_n 0, 1), (125, .aload_n 0, 1), (126, .getfield 33, 3), (129, .iload 7, 2), (131, .invokestatic 70, 3), (134, .iload_n 1, 1), (135, .iload 5, 2), (137, .iload 6, 2), (139, .invokevirtual 143, 3), (142, .aload_n 0, 1), (143, .getfield 33, 3), (146, .iload 7, 2), (148, .invokestatic 70, 3), (151, .invokevirtual 139, 3), (154, .iinc 6 (-1), 3), (157, .iinc 7 1, 3), (160, .goto (-56), 3), (163, .aload_n 0, 1), (164, .dup, 1), (165, .getfield 53, 3), (168, .iconst 1, 1), (169, .iadd, 1), (170, .putfield 53, 3), (173, .iload_n 1, 1), (174, .aload_n 0, 1), (175, .getfield 63, 3), (178, .if_icmp .ne 31, 3), (181, .aload_n 0, 1), (182, .aload_n 0, 1), (183, .aload_n 0, 1), (184, .getfield 15, 3), (187, .iload_n 1, 1), (188, .invokestatic 70, 3), (191, .iconst 1, 1), (192, .iadd, 1), (193, .invokevirtual 59, 3), (196, .putfield 63, 3), (199, .aload_n 0, 1), (200, .aload_n 0, 1), (201, .getfield 63, 3), (204, .iconst 0, 1), (205, .iload_n 1, 1), (206, .invokevirtual 108, 3), (209, .aload_n 0, 1), (210, .getfield 18, 3), (213, .iload_n 1, 1), (214, .invokestatic 70, 3), (217, .istore 7, 2), (219, .aload_n 0, 1), (220, .iload 7, 2)]
theorem zo_cX1_split_0 : zd_ok cX1_split zl_cX1_split_0 = true := by decide +kernel
theorem dX1_split_0 : decode cX1_split 0 = .ok (.iconst 0, 1) := zd_at zo_cX1_split_0 0 rfl
theorem dX1_split_1 : decode cX1_split 1 = .ok (.istore_n 2, 1) := zd_at zo_cX1_split_0 1 rfl
theorem dX1_split_2 : decode cX1_split 2 = .ok (.iload_n 2, 1) := zd_at zo_cX1_split_0 2 rfl
theorem dX1_split_3 : decode cX1_split 3 = .ok (.iconst 5, 1) := zd_at zo_cX1_split_0 3 rfl
theorem dX1_split_4 : decode cX1_split 4 = .ok (.if_icmp .ge 29, 3) := zd_at zo_cX1_split_0 4 rfl
theorem dX1_split_7 : decode cX1_split 7 = .ok (.aload_n 0, 1) := zd_at zo_cX1_split_0 5 rfl
theorem dX1_split_8 : decode cX1_split 8 = .ok (.getfield 33, 3) := zd_at zo_cX1_split_0 6 rfl
theorem dX1_split_11 : decode cX1_split 11 = .ok (.iload_n 2, 1) := zd_at zo_cX1_split_0 7 rfl
theorem dX1_split_12 : decode cX1_split 12 = .ok (.aload_n 0, 1) := zd_at zo_cX1_split_0 8 rfl
theorem dX1_split_13 : decode cX1_split 13 = .ok (.getfield 24, 3) := zd_at zo_cX1_split_0 9 rfl
theorem dX1_split_16 : decode cX1_split 16 = .ok (.iload_n 1, 1) := zd_at zo_cX1_split_0 10 rfl
theorem dX1_split_17 : decode cX1_split 17 = .ok (.iconst 5, 1) := zd_at zo_cX1_split_0 11 rfl
theorem dX1_split_18 : decode cX1_split 18 = .ok (.imul, 1) := zd_at zo_cX1_split_0 12 rfl
theorem dX1_split_19 : decode cX1_split 19 = .ok (.iload_n 2, 1) := zd_at zo_cX1_split_0 13 rfl
theorem dX1_split_20 : decode cX1_split 20 = .ok (.iadd, 1) := zd_at zo_cX1_split_0 14 rfl
theorem dX1_split_21 : decode cX1_split 21 = .ok (.invokestatic 70, 3) := zd_at zo_cX1_split_0 15 rfl
theorem dX1_split_24 : decode cX1_split 24 = .ok (.invokestatic 45, 3) := zd_at zo_cX1_split_0 16 rfl
theorem dX1_split_27 : decode cX1_split 27 = .ok (.iinc 2 1, 3) := zd_at zo_cX1_split_0 17 rfl
theorem dX1_split_30 : decode cX1_split 30 = .ok (.goto (-28), 3) := zd_at zo_cX1_split_0 18 rfl
theorem dX1_split_33 : decode cX1_split 33 = .ok (.aload_n 0, 1) := zd_at zo_cX1_split_0 19 rfl
theorem dX1_split_34 : decode cX1_split 34 = .ok (.invokevirtual 136, 3) := zd_at zo_cX1_split_0 20 rfl
theorem dX1_split_37 : decode cX1_split 37 = .ok (.istore_n 2, 1) := zd_at zo_cX1_split_0 21 rfl
theorem dX1_split_38 : decode cX1_split 38 = .ok (.iload_n 2, 1) := zd_at zo_cX1_split_0 22 rfl
theorem dX1_split_39 : decode cX1_split 39 = .ok (.iconst 5, 1) := zd_at zo_cX1_split_0 23 rfl
theorem dX1_split_40 : decode cX1_split 40 = .ok (.idiv, 1) := zd_at zo_cX1_split_0 24 rfl
theorem dX1_split_41 : decode cX1_split 41 = .ok (.istore_n 3, 1) := zd_at zo_cX1_split_0 25 rfl
theorem dX1_split_42 : decode cX1_split 42 = .ok (.iload_n 2, 1) := zd_at zo_cX1_split_0 26 rfl
theorem dX1_split_43 : decode cX1_split 43 = .ok (.iconst 5, 1) := zd_at zo_cX1_split_0 27 rfl
theorem dX1_split_44 : decode cX1_split 44 = .ok (.irem, 1) := zd_at zo_cX1_split_0 28 rfl
theorem dX1_split_45 : decode cX1_split 45 = .ok (.istore 4, 2) := zd_at zo_cX1_split_0 29 rfl
theorem dX1_split_47 : decode cX1_split 47 = .ok (.aload_n 0, 1) := zd_at zo_cX1_split_0 30 rfl
theorem dX1_split_48 : decode cX1_split 48 = .ok (.aload_n 0, 1) := zd_at zo_cX1_split_0 31 rfl
theorem dX1_split_49 : decode cX1_split 49 = .ok (.getfield 15, 3) := zd_at zo_cX1_split_0 32 rfl
theorem dX1_split_52 : decode cX1_split 52 = .ok (.iload_n 1, 1) := zd_at zo_cX1_split_0 33 rfl
theorem dX1_split_53 : decode cX1_split 53 = .ok (.invokestatic 70, 3) := zd_at zo_cX1_split_0 34 rfl
theorem dX1_split_56 : decode cX1_split 56 = .ok (.invokevirtual 59, 3) := zd_at zo_cX1_split_0 35 rfl
theorem dX1_split_59 : decode cX1_split 59 = .ok (.istore 5, 2) := zd_at zo_cX1_split_0 36 rfl
theorem dX1_split_61 : decode cX1_split 61 = .ok (.aload_n 0, 1) := zd_at zo_cX1_split_0 37 rfl
theorem dX1_split_62 : decode cX1_split 62 = .ok (.getfield 21, 3) := zd_at zo_cX1_split_0 38 rfl
theorem dX1_split_65 : decode cX1_split 65 = .ok (.iload_n 1, 1) := zd_at zo_cX1_split_0 39 rfl
theorem dX1_split_66 : decode cX1_split 66 = .ok (.iconst 0, 1) := zd_at zo_cX1_split_0 40 rfl
theorem dX1_split_67 : decode cX1_split 67 = .ok (.invokestatic 45, 3) := zd_at zo_cX1_split_0 41 rfl
theorem dX1_split_70 : decode cX1_split 70 = .ok (.aload_n 0, 1) := zd_at zo_cX1_split_0 42 rfl
theorem dX1_split_71 : decode cX1_split 71 = .ok (.iload_n 1, 1) := zd_at zo_cX1_split_0 43 rfl
theorem dX1_split_72 : decode cX1_split 72 = .ok (.aload_n 0, 1) := zd_at zo_cX1_split_0 44 rfl
theorem dX1_split_73 : decode cX1_split 73 = .ok (.getfield 33, 3) := zd_at zo_cX1_split_0 45 rfl
theorem dX1_split_76 : decode cX1_split 76 = .ok (.iload_n 3, 1) := zd_at zo_cX1_split_0 46 rfl
theorem dX1_split_77 : decode cX1_split 77 = .ok (.invokestatic 70, 3) := zd_at zo_cX1_split_0 47 rfl
theorem dX1_split_80 : decode cX1_split 80 = .ok (.invokevirtual 139, 3) := zd_at zo_cX1_split_0 48 rfl
theorem dX1_split_83 : decode cX1_split 83 = .ok (.aload_n 0, 1) := zd_at zo_cX1_split_0 49 rfl
theorem dX1_split_84 : decode cX1_split 84 = .ok (.iload 5, 2) := zd_at zo_cX1_split_0 50 rfl
theorem dX1_split_86 : decode cX1_split 86 = .ok (.aload_n 0, 1) := zd_at zo_cX1_split_0 51 rfl
theorem dX1_split_87 : decode cX1_split 87 = .ok (.getfield 33, 3) := zd_at zo_cX1_split_0 52 rfl
theorem dX1_split_90 : decode cX1_split 90 = .ok (.iload 4, 2) := zd_at zo_cX1_split_0 53 rfl
theorem dX1_split_92 : decode cX1_split 92 = .ok (.invokestatic 70, 3) := zd_at zo_cX1_split_0 54 rfl
theorem dX1_split_95 : decode cX1_split 95 = .ok (.invokevirtual 139, 3) := zd_at zo_cX1_split_0 55 rfl
theorem dX1_split_98 : decode cX1_split 98 = .ok (.iconst 3, 1) := zd_at zo_cX1_split_0 56 rfl
theorem dX1_split_99 : decode cX1_split 99 = .ok (.istore 6, 2) := zd_at zo_cX1_split_0 57 rfl
theorem dX1_split_101 : decode cX1_split 101 = .ok (.iconst 0, 1) := zd_at zo_cX1_split_0 58 rfl
theorem dX1_split_102 : decode cX1_split 102 = .ok (.istore 7, 2) := zd_at zo_cX1_split_0 59 rfl
theorem dX1_split_104 : decode cX1_split 104 = .ok (.iload 7, 2) := zd_at zo_cX1_split_0 60 rfl
theorem dX1_split_106 : decode cX1_split 106 = .ok (.iconst 5, 1) := zd_at zo_cX1_split_0 61 rfl
theorem dX1_split_107 : decode cX1_split 107 = .ok (.if_icmp .ge 56, 3) := zd_at zo_cX1_split_0 62 rfl
theorem dX1_split_110 : decode cX1_split 110 = .ok (.iload 7, 2) := zd_at zo_cX1_split_0 63 rfl
theorem dX1_split_112 : decode cX1_split 112 = .ok (.iload_n 3, 1) := zd_at zo_cX1_split_0 64 rfl
theorem dX1_split_113 : decode cX1_split 113 = .ok (.if_icmp .eq 44, 3) := zd_at zo_cX1_split_0 65 rfl
theorem dX1_split_116 : decode cX1_split 116 = .ok (.iload 7, 2) := zd_at zo_cX1_split_0 66 rfl
theorem dX1_split_118 : decode cX1_split 118 = .ok (.iload 4, 2) := zd_at zo_cX1_split_0 67 rfl
theorem dX1_split_120 : decode cX1_split 120 = .ok (.if_icmp .eq 37, 3) := zd_at zo_cX1_split_0 68 rfl
theorem dX1_split_123 : decode cX1_split 123 = .ok (.aload_n 0, 1) := zd_at zo_cX1_split_0 69 rfl
theorem dX1_split_124 : decode cX1_split 124 = .ok (.aload_n 0, 1) := zd_at zo_cX1_split_0 70 rfl
theorem dX1_split_125 : decode cX1_split 125 = .ok (.aload_n 0, 1) := zd_at zo_cX1_split_0 71 rfl
theorem dX1_split_126 : decode cX1_split 126 = .ok (.getfield 33, 3) := zd_at zo_cX1_split_0 72 rfl
theorem dX1_split_129 : decode cX1_split 129 = .ok (.iload 7, 2) := zd_at zo_cX1_split_0 73 rfl
theorem dX1_split_131 : decode cX1_split 131 = .ok (.invokestatic 70, 3) := zd_at zo_cX1_split_0 74 rfl
theorem dX1_split_134 : decode cX1_split 134 = .ok (.iload_n 1, 1) := zd_at zo_cX1_split_0 75 rfl
theorem dX1_split_135 : decode cX1_split 135 = .ok (.iload 5, 2) := zd_at zo_cX1_split_0 76 rfl
theorem dX1_split_137 : decode cX1_split 137 = .ok (.iload 6, 2) := zd_at zo_cX1_split_0 77 rfl
theorem dX1_split_139 : decode cX1_split 139 = .ok (.invokevirtual 143, 3) := zd_at zo_cX1_split_0 78 rfl
theorem dX1_split_142 : decode cX1_split 142 = .ok (.aload_n 0, 1) := zd_at zo_cX1_split_0 79 rfl
theorem dX1_split_143 : decode cX1_split 143 = .ok (.getfield 33, 3) := zd_at zo_cX1_split_0 80 rfl
theorem dX1_split_146 : decode cX1_split 146 = .ok (.iload 7, 2) := zd_at zo_cX1_split_0 81 rfl
theorem dX1_split_148 : decode cX1_split 148 = .ok (.invokestatic 70, 3) := zd_at zo_cX1_split_0 82 rfl
theorem dX1_split_151 : decode cX1_split 151 = .ok (.invokevirtual 139, 3) := zd_at zo_cX1_split_0 83 rfl
theorem dX1_split_154 : decode cX1_split 154 = .ok (.iinc 6 (-1), 3) := zd_at zo_cX1_split_0 84 rfl
theorem dX1_split_157 : decode cX1_split 157 = .ok (.iinc 7 1, 3) := zd_at zo_cX1_split_0 85 rfl
theorem dX1_split_160 : decode cX1_split 160 = .ok (.goto (-56), 3) := zd_at zo_cX1_split_0 86 rfl
theorem dX1_split_163 : decode cX1_split 163 = .ok (.aload_n 0, 1) := zd_at zo_cX1_split_0 87 rfl
theorem dX1_split_164 : decode cX1_split 164 = .ok (.dup, 1) := zd_at zo_cX1_split_0 88 rfl
theorem dX1_split_165 : decode cX1_split 165 = .ok (.getfield 53, 3) := zd_at zo_cX1_split_0 89 rfl
theorem dX1_split_168 : decode cX1_split 168 = .ok (.iconst 1, 1) := zd_at zo_cX1_split_0 90 rfl
theorem dX1_split_169 : decode cX1_split 169 = .ok (.iadd, 1) := zd_at zo_cX1_split_0 91 rfl
theorem dX1_split_170 : decode cX1_split 170 = .ok (.putfield 53, 3) := zd_at zo_cX1_split_0 92 rfl
theorem dX1_split_173 : decode cX1_split 173 = .ok (.iload_n 1, 1) := zd_at zo_cX1_split_0 93 rfl
theorem dX1_split_174 : decode cX1_split 174 = .ok (.aload_n 0, 1) := zd_at zo_cX1_split_0 94 rfl
theorem dX1_split_175 : decode cX1_split 175 = .ok (.getfield 63, 3) := zd_at zo_cX1_split_0 95 rfl
theorem dX1_split_178 : decode cX1_split 178 = .ok (.if_icmp .ne 31, 3) := zd_at zo_cX1_split_0 96 rfl
theorem dX1_split_181 : decode cX1_split 181 = .ok (.aload_n 0, 1) := zd_at zo_cX1_split_0 97 rfl
theorem dX1_split_182 : decode cX1_split 182 = .ok (.aload_n 0, 1) := zd_at zo_cX1_split_0 98 rfl
theorem dX1_split_183 : decode cX1_split 183 = .ok (.aload_n 0, 1) := zd_at zo_cX1_split_0 99 rfl
theorem dX1_split_184 : decode cX1_split 184 = .ok (.getfield 15, 3) := zd_at zo_cX1_split_0 100 rfl
theorem dX1_split_187 : decode cX1_split 187 = .ok (.iload_n 1, 1) := zd_at zo_cX1_split_0 101 rfl
theorem dX1_split_188 : decode cX1_split 188 = .ok (.invokestatic 70, 3) := zd_at zo_cX1_split_0 102 rfl
theorem dX1_split_191 : decode cX1_split 191 = .ok (.iconst 1, 1) := zd_at zo_cX1_split_0 103 rfl
theorem dX1_split_192 : decode cX1_split 192 = .ok (.iadd, 1) := zd_at zo_cX1_split_0 104 rfl
theorem dX1_split_193 : decode cX1_split 193 = .ok (.invokevirtual 59, 3) := zd_at zo_cX1_split_0 105 rfl
theorem dX1_split_196 : decode cX1_split 196 = .ok (.putfield 63, 3) := zd_at zo_cX1_split_0 106 rfl
theorem dX1_split_199 : decode cX1_split 199 = .ok (.aload_n 0, 1) := zd_at zo_cX1_split_0 107 rfl
theorem dX1_split_200 : decode cX1_split 200 = .ok (.aload_n 0, 1) := zd_at zo_cX1_split_0 108 rfl
theorem dX1_split_201 : decode cX1_split 201 = .ok (.getfield 63, 3) := zd_at zo_cX1_split_0 109 rfl
theorem dX1_split_204 : decode cX1_split 204 = .ok (.iconst 0, 1) := zd_at zo_cX1_split_0 110 rfl
theorem dX1_split_205 : decode cX1_split 205 = .ok (.iload_n 1, 1) := zd_at zo_cX1_split_0 111 rfl
theorem dX1_split_206 : decode cX1_split 206 = .ok (.invokevirtual 108, 3) := zd_at zo_cX1_split_0 112 rfl
theorem dX1_split_209 : decode cX1_split 209 = .ok (.aload_n 0, 1) := zd_at zo_cX1_split_0 113 rfl
theorem dX1_split_210 : decode cX1_split 210 = .ok (.getfield 18, 3) := zd_at zo_cX1_split_0 114 rfl
theorem dX1_split_213 : decode cX1_split 213 = .ok (.iload_n 1, 1) := zd_at zo_cX1_split_0 115 rfl
theorem dX1_split_214 : decode cX1_split 214 = .ok (.invokestatic 70, 3) := zd_at zo_cX1_split_0 116 rfl
theorem dX1_split_217 : decode cX1_split 217 = .ok (.istore 7, 2) := zd_at zo_cX1_split_0 117 rfl
theorem dX1_split_219 : decode cX1_split 219 = .ok (.aload_n 0, 1) := zd_at zo_cX1_split_0 118 rfl
theorem dX1_split_220 : decode cX1_split 220 = .ok (.iload 7, 2) := zd_at zo_cX1_split_0 119 rfl
def zl_cX1_split_120 : List (Nat × Instr × Nat) := [(222, .aload_n 0, 1), (223, .iload 7, 2), (225, .iload_n 1, 1), (226, .invokevirtual 94, 3), (229, .iconst 1, 1), (230, .iadd, 1), (231, .iload 5, 2), (233, .invokevirtual 108, 3), (236, .iload 7, 2), (238, .ireturn, 1)]
theorem zo_cX1_split_120 : zd_ok cX1_split zl_cX1_split_120 = true := by decide +kernel
theorem dX1_split_222 : decode cX1_split 222 = .ok (.aload_n 0, 1) := zd_at zo_cX1_split_120 0 rfl
theorem dX1_split_223 : decode cX1_split 223 = .ok (.iload 7, 2) := zd_at zo_cX1_split_120 1 rfl
theorem dX1_split_225 : decode cX1_split 225 = .ok (.iload_n 1, 1) := zd_at zo_cX1_split_120 2 rfl
theorem dX1_split_226 : decode cX1_split 226 = .ok (.invokevirtual 94, 3) := zd_at zo_cX1_split_120 3 rfl
theorem dX1_split_229 : decode cX1_split 229 = .ok (.iconst 1, 1) := zd_at zo_cX1_split_120 4 rfl
theorem dX1_split_230 : decode cX1_split 230 = .ok (.iadd, 1) := zd_at zo_cX1_split_120 5 rfl
theorem dX1_split_231 : decode cX1_split 231 = .ok (.iload 5, 2) := zd_at zo_cX1_split_120 6 rfl
theorem dX1_split_233 : decode cX1_split 233 = .ok (.invokevirtual 108, 3) := zd_at zo_cX1_split_120 7 rfl
theorem dX1_split_236 : decode cX1_split 236 = .ok (.iload 7, 2) := zd_at zo_cX1_split_120 8 rfl
theorem dX1_split_238 : decode cX1_split 238 = .ok (.ireturn, 1) := zd_at zo_cX1_split_120 9 rfl
def zl_cX1_join_0 : List (Nat × Instr × Nat) := [(0, .aload_n 0, 1), (1, .getfield 21, 3), (4, .iload_n 1, 1), (5, .invokestatic 70, 3), (8, .istore_n 3, 1), (9, .aload_n 0, 1), (10, .getfield 24, 3), (13, .iload_n 1, 1), (14, .iconst 5, 1), (15, .imul, 1), (16, .iload_n 3, 1), (17, .iadd, 1), (18, .iload_n 2, 1), (19, .invokestatic 45, 3), (22, .aload_n 0, 1), (23, .getfield 21, 3), (26, .iload_n 1, 1), (27, .iload_n 3, 1), (28, .iconst 1, 1), (29, .iadd, 1), (30, .invokestatic 45, 3), (33, .aload_n 0, 1), (34, .getfield 18, 3), (37, .iload_n 2, 1), (38, .iload_n 1, 1), (39, .invokestatic 45, 3), (42, .aload_n 0, 1), (43, .iload_n 1, 1), (44, .invokevirtual 90, 3), (47, .return_, 1)]
theorem zo_cX1_join_0 : zd_ok cX1_join zl_cX1_join_0 = true := by decide +kernel
theorem dX1_join_0 : decode cX1_join 0 = .ok (.aload_n 0, 1) := zd_at zo_cX1_join_0 0 rfl
theorem dX1_join_1 : decode cX1_join 1 = .ok (.getfield 21, 3) := zd_at zo_cX1_join_0 1 rfl
theorem dX1_join_4 : decode cX1_join 4 = .ok (.iload_n 1, 1) := zd_at zo_cX1_join_0 2 rfl
theorem dX1_join_5 : decode cX1_join 5 = .ok (.invokestatic 70, 3) := zd_at zo_cX1_join_0 3 rfl
theorem dX1_join_8 : decode cX1_join 8 = .ok (.istore_n 3, 1) := zd_at zo_cX1_join_0 4 rfl
theorem dX1_join_9 : decode cX1_join 9 = .ok (.aload_n 0, 1) := zd_at zo_cX1_join_0 5 rfl
theorem dX1_join_10 : decode cX1_join 10 = .ok (.getfield 24, 3) := zd_at zo_cX1_join_0 6 rfl
theorem dX1_join_13 : decode cX1_join 13 = .ok (.iload_n 1, 1) := zd_at zo_cX1_join_0 7 rfl
theorem dX1_join_14 : decode cX1_join 14 = .ok (.iconst 5, 1) := zd_at zo_cX1_join_0 8 rfl
theorem dX1_join_15 : decode cX1_join 15 = .ok (.imul, 1) := zd_at zo_cX1_join_0 9 rfl
theorem dX1_join_16 : decode cX1_join 16 = .ok (.iload_n 3, 1) := zd_at zo_cX1_join_0 10 rfl
theorem dX1_join_17 : decode cX1_join 17 = .ok (.iadd, 1) := zd_at zo_cX1_join_0 11 rfl
theorem dX1_join_18 : decode cX1_join 18 = .ok (.iload_n 2, 1) := zd_at zo_cX1_join_0 12 rfl
theorem dX1_join_19 : decode cX1_join 19 = .ok (.invokestatic 45, 3) := zd_at zo_cX1_join_0 13 rfl
theorem dX1_join_22 : decode cX1_join 22 = .ok (.aload_n 0, 1) := zd_at zo_cX1_join_0 14 rfl
theorem dX1_join_23 : decode cX1_join 23 = .ok (.getfield 21, 3) := zd_at zo_cX1_join_0 15 rfl
theorem dX1_join_26 : decode cX1_join 26 = .ok (.iload_n 1, 1) := zd_at zo_cX1_join_0 16 rfl
theorem dX1_join_27 : decode cX1_join 27 = .ok (.iload_n 3, 1) := zd_at zo_cX1_join_0 17 rfl
theorem dX1_join_28 : decode cX1_join 28 = .ok (.iconst 1, 1) := zd_at zo_cX1_join_0 18 rfl
theorem dX1_join_29 : decode cX1_join 29 = .ok (.iadd, 1) := zd_at zo_cX1_join_0 19 rfl
theorem dX1_join_30 : decode cX1_join 30 = .ok (.invokestatic 45, 3) := zd_at zo_cX1_join_0 20 rfl
theorem dX1_join_33 : decode cX1_join 33 = .ok (.aload_n 0, 1) := zd_at zo_cX1_join_0 21 rfl
theorem dX1_join_34 : decode cX1_join 34 = .ok (.getfield 18, 3) := zd_at zo_cX1_join_0 22 rfl
theorem dX1_join_37 : decode cX1_join 37 = .ok (.iload_n 2, 1) := zd_at zo_cX1_join_0 23 rfl
theorem dX1_join_38 : decode cX1_join 38 = .ok (.iload_n 1, 1) := zd_at zo_cX1_join_0 24 rfl
theorem dX1_join_39 : decode cX1_join 39 = .ok (.invokestatic 45, 3) := zd_at zo_cX1_join_0 25 rfl
theorem dX1_join_42 : decode cX1_join 42 = .ok (.aload_n 0, 1) := zd_at zo_cX1_join_0 26 rfl
theorem dX1_join_43 : decode cX1_join 43 = .ok (.iload_n 1, 1) := zd_at zo_cX1_join_0 27 rfl
theorem dX1_join_44 : decode cX1_join 44 = .ok (.invokevirtual 90, 3) := zd_at zo_cX1_join_0 28 rfl
theorem dX1_join_47 : decode cX1_join 47 = .ok (.return_, 1) := zd_at zo_cX1_join_0 29 rfl
def zl_cX1_seedPair_0 : List (Nat × Instr × Nat) := [(0, .iconst 1, 1), (1, .istore_n 1, 1), (2, .iconst 0, 1), (3, .istore_n 2, 1), (4, .iconst 0, 1), (5, .istore_n 3, 1), (6, .iload_n 3, 1), (7, .iconst 5, 1), (8, .if_icmp .ge 97, 3), (11, .iload_n 3, 1), (12, .iconst 1, 1), (13, .iadd, 1), (14, .istore 4, 2), (16, .iload 4, 2), (18, .iconst 5, 1), (19, .if_icmp .ge 80, 3), (22, .aload_n 0, 1), (23, .getfield 33, 3), (26, .iload_n 3, 1), (27, .invokestatic 70, 3), (30, .istore 5, 2), (32, .aload_n 0, 1), (33, .getfield 33, 3), (36, .iload 4, 2), (38, .invokestatic 70, 3), (41, .istore 6, 2), (43, .aload_n 0, 1), (44, .iload 5, 2), (46, .iload 6, 2), (48, .invokevirtual 124, 3), (51, .aload_n 0, 1), (52, .iload 5, 2), (54, .invokevirtual 127, 3), (57, .isub, 1), (58, .aload_n 0, 1), (59, .iload 6, 2), (61, .invokevirtual 127, 3), (64, .isub, 1), (65, .istore 7, 2), (67, .iload_n 3, 1), (68, .ifCond .ne 9, 3), (71, .iload 4, 2), (73, .iconst 1, 1), (74, .if_icmp .eq 9, 3), (77, .iload 7, 2), (79, .iload_n 2, 1), (80, .if_icmp .le 13, 3), (83, .iload_n 3, 1), (84, .iconst 5, 1), (85, .imul, 1), (86, .iload 4, 2), (88, .iadd, 1), (89, .istore_n 1, 1), (90, .iload 7, 2), (92, .istore_n 2, 1), (93, .iinc 4 1, 3), (96, .goto (-80), 3), (99, .iinc 3 1, 3), (102, .goto (-96), 3), (105, .iload_n 1, 1), (106, .ireturn, 1)]
theorem zo_cX1_seedPair_0 : zd_ok cX1_seedPair zl_cX1_seedPair_0 = true := by decide +kernel
theorem dX1_seedPair_0 : decode cX1_seedPair 0 = .ok (.iconst 1, 1) := zd_at zo_cX1_seedPair_0 0 rfl
theorem dX1_seedPair_1 : decode cX1_seedPair 1 = .ok (.istore_n 1, 1) := zd_at zo_cX1_seedPair_0 1 rfl
theorem dX1_seedPair_2 : decode cX1_seedPair 2 = .ok (.iconst 0, 1) := zd_at zo_cX1_seedPair_0 2 rfl
theorem dX1_seedPair_3 : decode cX1_seedPair 3 = .ok (.istore_n 2, 1) := zd_at zo_cX1_seedPair_0 3 rfl
theorem dX1_seedPair_4 : decode cX1_seedPair 4 = .ok (.iconst 0, 1) := zd_at zo_cX1_seedPair_0 4 rfl
theorem dX1_seedPair_5 : decode cX1_seedPair 5 = .ok (.istore_n 3, 1) := zd_at zo_cX1_seedPair_0 5 rfl
theorem dX1_seedPair_6 : decode cX1_seedPair 6 = .ok (.iload_n 3, 1) := zd_at zo_cX1_seedPair_0 6 rfl
theorem dX1_seedPair_7 : decode cX1_seedPair 7 = .ok (.iconst 5, 1) := zd_at zo_cX1_seedPair_0 7 rfl
theorem dX1_seedPair_8 : decode cX1_seedPair 8 = .ok (.if_icmp .ge 97, 3) := zd_at zo_cX1_seedPair_0 8 rfl
theorem dX1_seedPair_11 : decode cX1_seedPair 11 = .ok (.iload_n 3, 1) := zd_at zo_cX1_seedPair_0 9 rfl
theorem dX1_seedPair_12 : decode cX1_seedPair 12 = .ok (.iconst 1, 1) := zd_at zo_cX1_seedPair_0 10 rfl
theorem dX1_seedPair_13 : decode cX1_seedPair 13 = .ok (.iadd, 1) := zd_at zo_cX1_seedPair_0 11 rfl
theorem dX1_seedPair_14 : decode cX1_seedPair 14 = .ok (.istore 4, 2) := zd_at zo_cX1_seedPair_0 12 rfl
theorem dX1_seedPair_16 : decode cX1_seedPair 16 = .ok (.iload 4, 2) := zd_at zo_cX1_seedPair_0 13 rfl
theorem dX1_seedPair_18 : decode cX1_seedPair 18 = .ok (.iconst 5, 1) := zd_at zo_cX1_seedPair_0 14 rfl
theorem dX1_seedPair_19 : decode cX1_seedPair 19 = .ok (.if_icmp .ge 80, 3) := zd_at zo_cX1_seedPair_0 15 rfl
theorem dX1_seedPair_22 : decode cX1_seedPair 22 = .ok (.aload_n 0, 1) := zd_at zo_cX1_seedPair_0 16 rfl
theorem dX1_seedPair_23 : decode cX1_seedPair 23 = .ok (.getfield 33, 3) := zd_at zo_cX1_seedPair_0 17 rfl
theorem dX1_seedPair_26 : decode cX1_seedPair 26 = .ok (.iload_n 3, 1) := zd_at zo_cX1_seedPair_0 18 rfl
theorem dX1_seedPair_27 : decode cX1_seedPair 27 = .ok (.invokestatic 70, 3) := zd_at zo_cX1_seedPair_0 19 rfl
theorem dX1_seedPair_30 : decode cX1_seedPair 30 = .ok (.istore 5, 2) := zd_at zo_cX1_seedPair_0 20 rfl
theorem dX1_seedPair_32 : decode cX1_seedPair 32 = .ok (.aload_n 0, 1) := zd_at zo_cX1_seedPair_0 21 rfl
theorem dX1_seedPair_33 : decode cX1_seedPair 33 = .ok (.getfield 33, 3) := zd_at zo_cX1_seedPair_0 22 rfl
theorem dX1_seedPair_36 : decode cX1_seedPair 36 = .ok (.iload 4, 2) := zd_at zo_cX1_seedPair_0 23 rfl
theorem dX1_seedPair_38 : decode cX1_seedPair 38 = .ok (.invokestatic 70, 3) := zd_at zo_cX1_seedPair_0 24 rfl
theorem dX1_seedPair_41 : decode cX1_seedPair 41 = .ok (.istore 6, 2) := zd_at zo_cX1_seedPair_0 25 rfl
theorem dX1_seedPair_43 : decode cX1_seedPair 43 = .ok (.aload_n 0, 1) := zd_at zo_cX1_seedPair_0 26 rfl
theorem dX1_seedPair_44 : decode cX1_seedPair 44 = .ok (.iload 5, 2) := zd_at zo_cX1_seedPair_0 27 rfl
theorem dX1_seedPair_46 : decode cX1_seedPair 46 = .ok (.iload 6, 2) := zd_at zo_cX1_seedPair_0 28 rfl
theorem dX1_seedPair_48 : decode cX1_seedPair 48 = .ok (.invokevirtual 124, 3) := zd_at zo_cX1_seedPair_0 29 rfl
theorem dX1_seedPair_51 : decode cX1_seedPair 51 = .ok (.aload_n 0, 1) := zd_at zo_cX1_seedPair_0 30 rfl
theorem dX1_seedPair_52 : decode cX1_seedPair 52 = .ok (.iload 5, 2) := zd_at zo_cX1_seedPair_0 31 rfl
theorem dX1_seedPair_54 : decode cX1_seedPair 54 = .ok (.invokevirtual 127, 3) := zd_at zo_cX1_seedPair_0 32 rfl
theorem dX1_seedPair_57 : decode cX1_seedPair 57 = .ok (.isub, 1) := zd_at zo_cX1_seedPair_0 33 rfl
theorem dX1_seedPair_58 : decode cX1_seedPair 58 = .ok (.aload_n 0, 1) := zd_at zo_cX1_seedPair_0 34 rfl
theorem dX1_seedPair_59 : decode cX1_seedPair 59 = .ok (.iload 6, 2) := zd_at zo_cX1_seedPair_0 35 rfl
theorem dX1_seedPair_61 : decode cX1_seedPair 61 = .ok (.invokevirtual 127, 3) := zd_at zo_cX1_seedPair_0 36 rfl
theorem dX1_seedPair_64 : decode cX1_seedPair 64 = .ok (.isub, 1) := zd_at zo_cX1_seedPair_0 37 rfl
theorem dX1_seedPair_65 : decode cX1_seedPair 65 = .ok (.istore 7, 2) := zd_at zo_cX1_seedPair_0 38 rfl
theorem dX1_seedPair_67 : decode cX1_seedPair 67 = .ok (.iload_n 3, 1) := zd_at zo_cX1_seedPair_0 39 rfl
theorem dX1_seedPair_68 : decode cX1_seedPair 68 = .ok (.ifCond .ne 9, 3) := zd_at zo_cX1_seedPair_0 40 rfl
theorem dX1_seedPair_71 : decode cX1_seedPair 71 = .ok (.iload 4, 2) := zd_at zo_cX1_seedPair_0 41 rfl
theorem dX1_seedPair_73 : decode cX1_seedPair 73 = .ok (.iconst 1, 1) := zd_at zo_cX1_seedPair_0 42 rfl
theorem dX1_seedPair_74 : decode cX1_seedPair 74 = .ok (.if_icmp .eq 9, 3) := zd_at zo_cX1_seedPair_0 43 rfl
theorem dX1_seedPair_77 : decode cX1_seedPair 77 = .ok (.iload 7, 2) := zd_at zo_cX1_seedPair_0 44 rfl
theorem dX1_seedPair_79 : decode cX1_seedPair 79 = .ok (.iload_n 2, 1) := zd_at zo_cX1_seedPair_0 45 rfl
theorem dX1_seedPair_80 : decode cX1_seedPair 80 = .ok (.if_icmp .le 13, 3) := zd_at zo_cX1_seedPair_0 46 rfl
theorem dX1_seedPair_83 : decode cX1_seedPair 83 = .ok (.iload_n 3, 1) := zd_at zo_cX1_seedPair_0 47 rfl
theorem dX1_seedPair_84 : decode cX1_seedPair 84 = .ok (.iconst 5, 1) := zd_at zo_cX1_seedPair_0 48 rfl
theorem dX1_seedPair_85 : decode cX1_seedPair 85 = .ok (.imul, 1) := zd_at zo_cX1_seedPair_0 49 rfl
theorem dX1_seedPair_86 : decode cX1_seedPair 86 = .ok (.iload 4, 2) := zd_at zo_cX1_seedPair_0 50 rfl
theorem dX1_seedPair_88 : decode cX1_seedPair 88 = .ok (.iadd, 1) := zd_at zo_cX1_seedPair_0 51 rfl
theorem dX1_seedPair_89 : decode cX1_seedPair 89 = .ok (.istore_n 1, 1) := zd_at zo_cX1_seedPair_0 52 rfl
theorem dX1_seedPair_90 : decode cX1_seedPair 90 = .ok (.iload 7, 2) := zd_at zo_cX1_seedPair_0 53 rfl
theorem dX1_seedPair_92 : decode cX1_seedPair 92 = .ok (.istore_n 2, 1) := zd_at zo_cX1_seedPair_0 54 rfl
theorem dX1_seedPair_93 : decode cX1_seedPair 93 = .ok (.iinc 4 1, 3) := zd_at zo_cX1_seedPair_0 55 rfl
theorem dX1_seedPair_96 : decode cX1_seedPair 96 = .ok (.goto (-80), 3) := zd_at zo_cX1_seedPair_0 56 rfl
theorem dX1_seedPair_99 : decode cX1_seedPair 99 = .ok (.iinc 3 1, 3) := zd_at zo_cX1_seedPair_0 57 rfl
theorem dX1_seedPair_102 : decode cX1_seedPair 102 = .ok (.goto (-96), 3) := zd_at zo_cX1_seedPair_0 58 rfl
theorem dX1_seedPair_105 : decode cX1_seedPair 105 = .ok (.iload_n 1, 1) := zd_at zo_cX1_seedPair_0 59 rfl
theorem dX1_seedPair_106 : decode cX1_seedPair 106 = .ok (.ireturn, 1) := zd_at zo_cX1_seedPair_0 60 rfl
def zl_cX1_groupFor_0 : List (Nat × Instr × Nat) := [(0, .aload_n 0, 1), (1, .getfield 21, 3), (4, .iload_n 2, 1), (5, .invokestatic 70, 3), (8, .iload 4, 2), (10, .iadd, 1), (11, .iconst 2, 1), (12, .if_icmp .gt 5, 3), (15, .iload_n 2, 1), (16, .ireturn, 1), (17, .aload_n 0, 1), (18, .getfield 21, 3), (21, .iload_n 3, 1), (22, .invokestatic 70, 3), (25, .iload 4, 2), (27, .iadd, 1), (28, .iconst 2, 1), (29, .if_icmp .gt 5, 3), (32, .iload_n 3, 1), (33, .ireturn, 1), (34, .aload_n 0, 1), (35, .iload_n 2, 1), (36, .invokevirtual 127, 3), (39, .istore 5, 2), (41, .aload_n 0, 1), (42, .iload_n 3, 1), (43, .invokevirtual 127, 3), (46, .istore 6, 2), (48, .aload_n 0, 1), (49, .iload_n 2, 1), (50, .iload_n 1, 1), (51, .invokevirtual 124, 3), (54, .iload 5, 2), (56, .isub, 1), (57, .istore 7, 2), (59, .aload_n 0, 1), (60, .iload_n 3, 1), (61, .iload_n 1, 1), (62, .invokevirtual 124, 3), (65, .iload 6, 2), (67, .isub, 1), (68, .istore 8, 2), (70, .iload 7, 2), (72, .iload 8, 2), (74, .if_icmp .eq 16, 3), (77, .iload 7, 2), (79, .iload 8, 2), (81, .if_icmp .ge 7, 3), (84, .iload_n 2, 1), (85, .goto 4, 3), (88, .iload_n 3, 1), (89, .ireturn, 1), (90, .iload 5, 2), (92, .iload 6, 2), (94, .if_icmp .eq 16, 3), (97, .iload 5, 2), (99, .iload 6, 2), (101, .if_icmp .ge 7, 3), (104, .iload_n 2, 1), (105, .goto 4, 3), (108, .iload_n 3, 1), (109, .ireturn, 1), (110, .aload_n 0, 1), (111, .getfield 21, 3), (114, .iload_n 2, 1), (115, .invokestatic 70, 3), (118, .aload_n 0, 1), (119, .getfield 21, 3), (122, .iload_n 3, 1), (123, .invokestatic 70, 3), (126, .if_icmp .gt 7, 3), (129, .iload_n 2, 1), (130, .goto 4, 3), (133, .iload_n 3, 1), (134, .ireturn, 1)]
theorem zo_cX1_groupFor_0 : zd_ok cX1_groupFor zl_cX1_groupFor_0 = true := by decide +kernel
theorem dX1_groupFor_0 : decode cX1_groupFor 0 = .ok (.aload_n 0, 1) := zd_at zo_cX1_groupFor_0 0 rfl
theorem dX1_groupFor_1 : decode cX1_groupFor 1 = .ok (.getfield 21, 3) := zd_at zo_cX1_groupFor_0 1 rfl
theorem dX1_groupFor_4 : decode cX1_groupFor 4 = .ok (.iload_n 2, 1) := zd_at zo_cX1_groupFor_0 2 rfl
theorem dX1_groupFor_5 : decode cX1_groupFor 5 = .ok (.invokestatic 70, 3) := zd_at zo_cX1_groupFor_0 3 rfl
theorem dX1_groupFor_8 : decode cX1_groupFor 8 = .ok (.iload 4, 2) := zd_at zo_cX1_groupFor_0 4 rfl
theorem dX1_groupFor_10 : decode cX1_groupFor 10 = .ok (.iadd, 1) := zd_at zo_cX1_groupFor_0 5 rfl
theorem dX1_groupFor_11 : decode cX1_groupFor 11 = .ok (.iconst 2, 1) := zd_at zo_cX1_groupFor_0 6 rfl
theorem dX1_groupFor_12 : decode cX1_groupFor 12 = .ok (.if_icmp .gt 5, 3) := zd_at zo_cX1_groupFor_0 7 rfl
theorem dX1_groupFor_15 : decode cX1_groupFor 15 = .ok (.iload_n 2, 1) := zd_at zo_cX1_groupFor_0 8 rfl
theorem dX1_groupFor_16 : decode cX1_groupFor 16 = .ok (.ireturn, 1) := zd_at zo_cX1_groupFor_0 9 rfl
theorem dX1_groupFor_17 : decode cX1_groupFor 17 = .ok (.aload_n 0, 1) := zd_at zo_cX1_groupFor_0 10 rfl
theorem dX1_groupFor_18 : decode cX1_groupFor 18 = .ok (.getfield 21, 3) := zd_at zo_cX1_groupFor_0 11 rfl
theorem dX1_groupFor_21 : decode cX1_groupFor 21 = .ok (.iload_n 3, 1) := zd_at zo_cX1_groupFor_0 12 rfl
theorem dX1_groupFor_22 : decode cX1_groupFor 22 = .ok (.invokestatic 70, 3) := zd_at zo_cX1_groupFor_0 13 rfl
theorem dX1_groupFor_25 : decode cX1_groupFor 25 = .ok (.iload 4, 2) := zd_at zo_cX1_groupFor_0 14 rfl
theorem dX1_groupFor_27 : decode cX1_groupFor 27 = .ok (.iadd, 1) := zd_at zo_cX1_groupFor_0 15 rfl
theorem dX1_groupFor_28 : decode cX1_groupFor 28 = .ok (.iconst 2, 1) := zd_at zo_cX1_groupFor_0 16 rfl
theorem dX1_groupFor_29 : decode cX1_groupFor 29 = .ok (.if_icmp .gt 5, 3) := zd_at zo_cX1_groupFor_0 17 rfl
theorem dX1_groupFor_32 : decode cX1_groupFor 32 = .ok (.iload_n 3, 1) := zd_at zo_cX1_groupFor_0 18 rfl
theorem dX1_groupFor_33 : decode cX1_groupFor 33 = .ok (.ireturn, 1) := zd_at zo_cX1_groupFor_0 19 rfl
theorem dX1_groupFor_34 : decode cX1_groupFor 34 = .ok (.aload_n 0, 1) := zd_at zo_cX1_groupFor_0 20 rfl
theorem dX1_groupFor_35 : decode cX1_groupFor 35 = .ok (.iload_n 2, 1) := zd_at zo_cX1_groupFor_0 21 rfl
theorem dX1_groupFor_36 : decode cX1_groupFor 36 = .ok (.invokevirtual 127, 3) := zd_at zo_cX1_groupFor_0 22 rfl
theorem dX1_groupFor_39 : decode cX1_groupFor 39 = .ok (.istore 5, 2) := zd_at zo_cX1_groupFor_0 23 rfl
theorem dX1_groupFor_41 : decode cX1_groupFor 41 = .ok (.aload_n 0, 1) := zd_at zo_cX1_groupFor_0 24 rfl
theorem dX1_groupFor_42 : decode cX1_groupFor 42 = .ok (.iload_n 3, 1) := zd_at zo_cX1_groupFor_0 25 rfl
theorem dX1_groupFor_43 : decode cX1_groupFor 43 = .ok (.invokevirtual 127, 3) := zd_at zo_cX1_groupFor_0 26 rfl
theorem dX1_groupFor_46 : decode cX1_groupFor 46 = .ok (.istore 6, 2) := zd_at zo_cX1_groupFor_0 27 rfl
theorem dX1_groupFor_48 : decode cX1_groupFor 48 = .ok (.aload_n 0, 1) := zd_at zo_cX1_groupFor_0 28 rfl
theorem dX1_groupFor_49 : decode cX1_groupFor 49 = .ok (.iload_n 2, 1) := zd_at zo_cX1_groupFor_0 29 rfl
theorem dX1_groupFor_50 : decode cX1_groupFor 50 = .ok (.iload_n 1, 1) := zd_at zo_cX1_groupFor_0 30 rfl
theorem dX1_groupFor_51 : decode cX1_groupFor 51 = .ok (.invokevirtual 124, 3) := zd_at zo_cX1_groupFor_0 31 rfl
theorem dX1_groupFor_54 : decode cX1_groupFor 54 = .ok (.iload 5, 2) := zd_at zo_cX1_groupFor_0 32 rfl
theorem dX1_groupFor_56 : decode cX1_groupFor 56 = .ok (.isub, 1) := zd_at zo_cX1_groupFor_0 33 rfl
theorem dX1_groupFor_57 : decode cX1_groupFor 57 = .ok (.istore 7, 2) := zd_at zo_cX1_groupFor_0 34 rfl
theorem dX1_groupFor_59 : decode cX1_groupFor 59 = .ok (.aload_n 0, 1) := zd_at zo_cX1_groupFor_0 35 rfl
theorem dX1_groupFor_60 : decode cX1_groupFor 60 = .ok (.iload_n 3, 1) := zd_at zo_cX1_groupFor_0 36 rfl
theorem dX1_groupFor_61 : decode cX1_groupFor 61 = .ok (.iload_n 1, 1) := zd_at zo_cX1_groupFor_0 37 rfl
theorem dX1_groupFor_62 : decode cX1_groupFor 62 = .ok (.invokevirtual 124, 3) := zd_at zo_cX1_groupFor_0 38 rfl
theorem dX1_groupFor_65 : decode cX1_groupFor 65 = .ok (.iload 6, 2) := zd_at zo_cX1_groupFor_0 39 rfl
theorem dX1_groupFor_67 : decode cX1_groupFor 67 = .ok (.isub, 1) := zd_at zo_cX1_groupFor_0 40 rfl
theorem dX1_groupFor_68 : decode cX1_groupFor 68 = .ok (.istore 8, 2) := zd_at zo_cX1_groupFor_0 41 rfl
theorem dX1_groupFor_70 : decode cX1_groupFor 70 = .ok (.iload 7, 2) := zd_at zo_cX1_groupFor_0 42 rfl
theorem dX1_groupFor_72 : decode cX1_groupFor 72 = .ok (.iload 8, 2) := zd_at zo_cX1_groupFor_0 43 rfl
theorem dX1_groupFor_74 : decode cX1_groupFor 74 = .ok (.if_icmp .eq 16, 3) := zd_at zo_cX1_groupFor_0 44 rfl
theorem dX1_groupFor_77 : decode cX1_groupFor 77 = .ok (.iload 7, 2) := zd_at zo_cX1_groupFor_0 45 rfl
theorem dX1_groupFor_79 : decode cX1_groupFor 79 = .ok (.iload 8, 2) := zd_at zo_cX1_groupFor_0 46 rfl
theorem dX1_groupFor_81 : decode cX1_groupFor 81 = .ok (.if_icmp .ge 7, 3) := zd_at zo_cX1_groupFor_0 47 rfl
theorem dX1_groupFor_84 : decode cX1_groupFor 84 = .ok (.iload_n 2, 1) := zd_at zo_cX1_groupFor_0 48 rfl
theorem dX1_groupFor_85 : decode cX1_groupFor 85 = .ok (.goto 4, 3) := zd_at zo_cX1_groupFor_0 49 rfl
theorem dX1_groupFor_88 : decode cX1_groupFor 88 = .ok (.iload_n 3, 1) := zd_at zo_cX1_groupFor_0 50 rfl
theorem dX1_groupFor_89 : decode cX1_groupFor 89 = .ok (.ireturn, 1) := zd_at zo_cX1_groupFor_0 51 rfl
theorem dX1_groupFor_90 : decode cX1_groupFor 90 = .ok (.iload 5, 2) := zd_at zo_cX1_groupFor_0 52 rfl
theorem dX1_groupFor_92 : decode cX1_groupFor 92 = .ok (.iload 6, 2) := zd_at zo_cX1_groupFor_0 53 rfl
theorem dX1_groupFor_94 : decode cX1_groupFor 94 = .ok (.if_icmp .eq 16, 3) := zd_at zo_cX1_groupFor_0 54 rfl
theorem dX1_groupFor_97 : decode cX1_groupFor 97 = .ok (.iload 5, 2) := zd_at zo_cX1_groupFor_0 55 rfl
theorem dX1_groupFor_99 : decode cX1_groupFor 99 = .ok (.iload 6, 2) := zd_at zo_cX1_groupFor_0 56 rfl
theorem dX1_groupFor_101 : decode cX1_groupFor 101 = .ok (.if_icmp .ge 7, 3) := zd_at zo_cX1_groupFor_0 57 rfl
theorem dX1_groupFor_104 : decode cX1_groupFor 104 = .ok (.iload_n 2, 1) := zd_at zo_cX1_groupFor_0 58 rfl
theorem dX1_groupFor_105 : decode cX1_groupFor 105 = .ok (.goto 4, 3) := zd_at zo_cX1_groupFor_0 59 rfl
theorem dX1_groupFor_108 : decode cX1_groupFor 108 = .ok (.iload_n 3, 1) := zd_at zo_cX1_groupFor_0 60 rfl
theorem dX1_groupFor_109 : decode cX1_groupFor 109 = .ok (.ireturn, 1) := zd_at zo_cX1_groupFor_0 61 rfl
theorem dX1_groupFor_110 : decode cX1_groupFor 110 = .ok (.aload_n 0, 1) := zd_at zo_cX1_groupFor_0 62 rfl
theorem dX1_groupFor_111 : decode cX1_groupFor 111 = .ok (.getfield 21, 3) := zd_at zo_cX1_groupFor_0 63 rfl
theorem dX1_groupFor_114 : decode cX1_groupFor 114 = .ok (.iload_n 2, 1) := zd_at zo_cX1_groupFor_0 64 rfl
theorem dX1_groupFor_115 : decode cX1_groupFor 115 = .ok (.invokestatic 70, 3) := zd_at zo_cX1_groupFor_0 65 rfl
theorem dX1_groupFor_118 : decode cX1_groupFor 118 = .ok (.aload_n 0, 1) := zd_at zo_cX1_groupFor_0 66 rfl
theorem dX1_groupFor_119 : decode cX1_groupFor 119 = .ok (.getfield 21, 3) := zd_at zo_cX1_groupFor_0 67 rfl
theorem dX1_groupFor_122 : decode cX1_groupFor 122 = .ok (.iload_n 3, 1) := zd_at zo_cX1_groupFor_0 68 rfl
theorem dX1_groupFor_123 : decode cX1_groupFor 123 = .ok (.invokestatic 70, 3) := zd_at zo_cX1_groupFor_0 69 rfl
theorem dX1_groupFor_126 : decode cX1_groupFor 126 = .ok (.if_icmp .gt 7, 3) := zd_at zo_cX1_groupFor_0 70 rfl
theorem dX1_groupFor_129 : decode cX1_groupFor 129 = .ok (.iload_n 2, 1) := zd_at zo_cX1_groupFor_0 71 rfl
theorem dX1_groupFor_130 : decode cX1_groupFor 130 = .ok (.goto 4, 3) := zd_at zo_cX1_groupFor_0 72 rfl
theorem dX1_groupFor_133 : decode cX1_groupFor 133 = .ok (.iload_n 3, 1) := zd_at zo_cX1_groupFor_0 73 rfl
theorem dX1_groupFor_134 : decode cX1_groupFor 134 = .ok (.ireturn, 1) := zd_at zo_cX1_groupFor_0 74 rfl
def zl_cX1_takeOut_0 : List (Nat × Instr × Nat) := [(0, .aload_n 0, 1), (1, .getfield 18, 3), (4, .iload_n 1, 1), (5, .invokestatic 70, 3), (8, .istore_n 2, 1), (9, .aload_n 0, 1), (10, .iload_n 1, 1), (11, .invokevirtual 133, 3), (14, .aload_n 0, 1), (15, .iload_n 2, 1), (16, .invokevirtual 147, 3), (19, .istore_n 3, 1), (20, .iconst 0, 1), (21, .istore 4, 2), (23, .iload 4, 2), (25, .bipush 8, 2), (27, .if_icmp .ge 78, 3), (30, .aload_n 0, 1), (31, .getfield 15, 3), (34, .aload_n 0, 1), (35, .getfield 63, 3), (38, .invokestatic 70, 3), (41, .ifCond .le 64, 3), (44, .aload_n 0, 1), (45, .getfield 21, 3), (48, .aload_n 0, 1), (49, .getfield 63, 3), (52, .invokestatic 70, 3), (55, .iconst 1, 1), (56, .if_icmp .ne 49, 3), (59, .aload_n 0, 1), (60, .getfield 63, 3), (63, .istore 5, 2), (65, .aload_n 0, 1), (66, .aload_n 0, 1), (67, .getfield 24, 3), (70, .iload 5, 2), (72, .iconst 5, 1), (73, .imul, 1), (74, .invokestatic 70, 3), (77, .putfield 63, 3), (80, .aload_n 0, 1), (81, .aload_n 0, 1), (82, .getfield 63, 3), (85, .invokevirtual 133, 3), (88, .aload_n 0, 1), (89, .getfield 15, 3), (92, .iload 5, 2), (94, .bipush (-2), 2), (96, .invokestatic 45, 3), (99, .iinc 4 1, 3), (102, .goto (-79), 3), (105, .iconst 0, 1), (106, .istore 4, 2), (108, .iload 4, 2), (110, .iload_n 3, 1), (111, .if_icmp .ge 22, 3), (114, .aload_n 0, 1), (115, .aload_n 0, 1), (116, .getfield 30, 3), (119, .iload 4, 2), (121, .invokestatic 70, 3), (124, .invokevirtual 150, 3), (127, .iinc 4 1, 3), (130, .goto (-22), 3), (133, .return_, 1)]
theorem zo_cX1_takeOut_0 : zd_ok cX1_takeOut zl_cX1_takeOut_0 = true := by decide +kernel
theorem dX1_takeOut_0 : decode cX1_takeOut 0 = .ok (.aload_n 0, 1) := zd_at zo_cX1_takeOut_0 0 rfl
theorem dX1_takeOut_1 : decode cX1_takeOut 1 = .ok (.getfield 18, 3) := zd_at zo_cX1_takeOut_0 1 rfl
theorem dX1_takeOut_4 : decode cX1_takeOut 4 = .ok (.iload_n 1, 1) := zd_at zo_cX1_takeOut_0 2 rfl
theorem dX1_takeOut_5 : decode cX1_takeOut 5 = .ok (.invokestatic 70, 3) := zd_at zo_cX1_takeOut_0 3 rfl
theorem dX1_takeOut_8 : decode cX1_takeOut 8 = .ok (.istore_n 2, 1) := zd_at zo_cX1_takeOut_0 4 rfl
theorem dX1_takeOut_9 : decode cX1_takeOut 9 = .ok (.aload_n 0, 1) := zd_at zo_cX1_takeOut_0 5 rfl
theorem dX1_takeOut_10 : decode cX1_takeOut 10 = .ok (.iload_n 1, 1) := zd_at zo_cX1_takeOut_0 6 rfl
theorem dX1_takeOut_11 : decode cX1_takeOut 11 = .ok (.invokevirtual 133, 3) := zd_at zo_cX1_takeOut_0 7 rfl
theorem dX1_takeOut_14 : decode cX1_takeOut 14 = .ok (.aload_n 0, 1) := zd_at zo_cX1_takeOut_0 8 rfl
theorem dX1_takeOut_15 : decode cX1_takeOut 15 = .ok (.iload_n 2, 1) := zd_at zo_cX1_takeOut_0 9 rfl
theorem dX1_takeOut_16 : decode cX1_takeOut 16 = .ok (.invokevirtual 147, 3) := zd_at zo_cX1_takeOut_0 10 rfl
theorem dX1_takeOut_19 : decode cX1_takeOut 19 = .ok (.istore_n 3, 1) := zd_at zo_cX1_takeOut_0 11 rfl
theorem dX1_takeOut_20 : decode cX1_takeOut 20 = .ok (.iconst 0, 1) := zd_at zo_cX1_takeOut_0 12 rfl
theorem dX1_takeOut_21 : decode cX1_takeOut 21 = .ok (.istore 4, 2) := zd_at zo_cX1_takeOut_0 13 rfl
theorem dX1_takeOut_23 : decode cX1_takeOut 23 = .ok (.iload 4, 2) := zd_at zo_cX1_takeOut_0 14 rfl
theorem dX1_takeOut_25 : decode cX1_takeOut 25 = .ok (.bipush 8, 2) := zd_at zo_cX1_takeOut_0 15 rfl
theorem dX1_takeOut_27 : decode cX1_takeOut 27 = .ok (.if_icmp .ge 78, 3) := zd_at zo_cX1_takeOut_0 16 rfl
theorem dX1_takeOut_30 : decode cX1_takeOut 30 = .ok (.aload_n 0, 1) := zd_at zo_cX1_takeOut_0 17 rfl
theorem dX1_takeOut_31 : decode cX1_takeOut 31 = .ok (.getfield 15, 3) := zd_at zo_cX1_takeOut_0 18 rfl
theorem dX1_takeOut_34 : decode cX1_takeOut 34 = .ok (.aload_n 0, 1) := zd_at zo_cX1_takeOut_0 19 rfl
theorem dX1_takeOut_35 : decode cX1_takeOut 35 = .ok (.getfield 63, 3) := zd_at zo_cX1_takeOut_0 20 rfl
theorem dX1_takeOut_38 : decode cX1_takeOut 38 = .ok (.invokestatic 70, 3) := zd_at zo_cX1_takeOut_0 21 rfl
theorem dX1_takeOut_41 : decode cX1_takeOut 41 = .ok (.ifCond .le 64, 3) := zd_at zo_cX1_takeOut_0 22 rfl
theorem dX1_takeOut_44 : decode cX1_takeOut 44 = .ok (.aload_n 0, 1) := zd_at zo_cX1_takeOut_0 23 rfl
theorem dX1_takeOut_45 : decode cX1_takeOut 45 = .ok (.getfield 21, 3) := zd_at zo_cX1_takeOut_0 24 rfl
theorem dX1_takeOut_48 : decode cX1_takeOut 48 = .ok (.aload_n 0, 1) := zd_at zo_cX1_takeOut_0 25 rfl
theorem dX1_takeOut_49 : decode cX1_takeOut 49 = .ok (.getfield 63, 3) := zd_at zo_cX1_takeOut_0 26 rfl
theorem dX1_takeOut_52 : decode cX1_takeOut 52 = .ok (.invokestatic 70, 3) := zd_at zo_cX1_takeOut_0 27 rfl
theorem dX1_takeOut_55 : decode cX1_takeOut 55 = .ok (.iconst 1, 1) := zd_at zo_cX1_takeOut_0 28 rfl
theorem dX1_takeOut_56 : decode cX1_takeOut 56 = .ok (.if_icmp .ne 49, 3) := zd_at zo_cX1_takeOut_0 29 rfl
theorem dX1_takeOut_59 : decode cX1_takeOut 59 = .ok (.aload_n 0, 1) := zd_at zo_cX1_takeOut_0 30 rfl
theorem dX1_takeOut_60 : decode cX1_takeOut 60 = .ok (.getfield 63, 3) := zd_at zo_cX1_takeOut_0 31 rfl
theorem dX1_takeOut_63 : decode cX1_takeOut 63 = .ok (.istore 5, 2) := zd_at zo_cX1_takeOut_0 32 rfl
theorem dX1_takeOut_65 : decode cX1_takeOut 65 = .ok (.aload_n 0, 1) := zd_at zo_cX1_takeOut_0 33 rfl
theorem dX1_takeOut_66 : decode cX1_takeOut 66 = .ok (.aload_n 0, 1) := zd_at zo_cX1_takeOut_0 34 rfl
theorem dX1_takeOut_67 : decode cX1_takeOut 67 = .ok (.getfield 24, 3) := zd_at zo_cX1_takeOut_0 35 rfl
theorem dX1_takeOut_70 : decode cX1_takeOut 70 = .ok (.iload 5, 2) := zd_at zo_cX1_takeOut_0 36 rfl
theorem dX1_takeOut_72 : decode cX1_takeOut 72 = .ok (.iconst 5, 1) := zd_at zo_cX1_takeOut_0 37 rfl
theorem dX1_takeOut_73 : decode cX1_takeOut 73 = .ok (.imul, 1) := zd_at zo_cX1_takeOut_0 38 rfl
theorem dX1_takeOut_74 : decode cX1_takeOut 74 = .ok (.invokestatic 70, 3) := zd_at zo_cX1_takeOut_0 39 rfl
theorem dX1_takeOut_77 : decode cX1_takeOut 77 = .ok (.putfield 63, 3) := zd_at zo_cX1_takeOut_0 40 rfl
theorem dX1_takeOut_80 : decode cX1_takeOut 80 = .ok (.aload_n 0, 1) := zd_at zo_cX1_takeOut_0 41 rfl
theorem dX1_takeOut_81 : decode cX1_takeOut 81 = .ok (.aload_n 0, 1) := zd_at zo_cX1_takeOut_0 42 rfl
theorem dX1_takeOut_82 : decode cX1_takeOut 82 = .ok (.getfield 63, 3) := zd_at zo_cX1_takeOut_0 43 rfl
theorem dX1_takeOut_85 : decode cX1_takeOut 85 = .ok (.invokevirtual 133, 3) := zd_at zo_cX1_takeOut_0 44 rfl
theorem dX1_takeOut_88 : decode cX1_takeOut 88 = .ok (.aload_n 0, 1) := zd_at zo_cX1_takeOut_0 45 rfl
theorem dX1_takeOut_89 : decode cX1_takeOut 89 = .ok (.getfield 15, 3) := zd_at zo_cX1_takeOut_0 46 rfl
theorem dX1_takeOut_92 : decode cX1_takeOut 92 = .ok (.iload 5, 2) := zd_at zo_cX1_takeOut_0 47 rfl
theorem dX1_takeOut_94 : decode cX1_takeOut 94 = .ok (.bipush (-2), 2) := zd_at zo_cX1_takeOut_0 48 rfl
theorem dX1_takeOut_96 : decode cX1_takeOut 96 = .ok (.invokestatic 45, 3) := zd_at zo_cX1_takeOut_0 49 rfl
theorem dX1_takeOut_99 : decode cX1_takeOut 99 = .ok (.iinc 4 1, 3) := zd_at zo_cX1_takeOut_0 50 rfl
theorem dX1_takeOut_102 : decode cX1_takeOut 102 = .ok (.goto (-79), 3) := zd_at zo_cX1_takeOut_0 51 rfl
theorem dX1_takeOut_105 : decode cX1_takeOut 105 = .ok (.iconst 0, 1) := zd_at zo_cX1_takeOut_0 52 rfl
theorem dX1_takeOut_106 : decode cX1_takeOut 106 = .ok (.istore 4, 2) := zd_at zo_cX1_takeOut_0 53 rfl
theorem dX1_takeOut_108 : decode cX1_takeOut 108 = .ok (.iload 4, 2) := zd_at zo_cX1_takeOut_0 54 rfl
theorem dX1_takeOut_110 : decode cX1_takeOut 110 = .ok (.iload_n 3, 1) := zd_at zo_cX1_takeOut_0 55 rfl
theorem dX1_takeOut_111 : decode cX1_takeOut 111 = .ok (.if_icmp .ge 22, 3) := zd_at zo_cX1_takeOut_0 56 rfl
theorem dX1_takeOut_114 : decode cX1_takeOut 114 = .ok (.aload_n 0, 1) := zd_at zo_cX1_takeOut_0 57 rfl
theorem dX1_takeOut_115 : decode cX1_takeOut 115 = .ok (.aload_n 0, 1) := zd_at zo_cX1_takeOut_0 58 rfl
theorem dX1_takeOut_116 : decode cX1_takeOut 116 = .ok (.getfield 30, 3) := zd_at zo_cX1_takeOut_0 59 rfl
theorem dX1_takeOut_119 : decode cX1_takeOut 119 = .ok (.iload 4, 2) := zd_at zo_cX1_takeOut_0 60 rfl
theorem dX1_takeOut_121 : decode cX1_takeOut 121 = .ok (.invokestatic 70, 3) := zd_at zo_cX1_takeOut_0 61 rfl
theorem dX1_takeOut_124 : decode cX1_takeOut 124 = .ok (.invokevirtual 150, 3) := zd_at zo_cX1_takeOut_0 62 rfl
theorem dX1_takeOut_127 : decode cX1_takeOut 127 = .ok (.iinc 4 1, 3) := zd_at zo_cX1_takeOut_0 63 rfl
theorem dX1_takeOut_130 : decode cX1_takeOut 130 = .ok (.goto (-22), 3) := zd_at zo_cX1_takeOut_0 64 rfl
theorem dX1_takeOut_133 : decode cX1_takeOut 133 = .ok (.return_, 1) := zd_at zo_cX1_takeOut_0 65 rfl
def zl_cX1_dissolveUpward_0 : List (Nat × Instr × Nat) := [(0, .iconst 0, 1), (1, .istore_n 2, 1), (2, .iload_n 1, 1), (3, .istore_n 3, 1), (4, .iconst 0, 1), (5, .istore 4, 2), (7, .iload 4, 2), (9, .bipush 8, 2), (11, .if_icmp .ge 123, 3), (14, .iload_n 3, 1), (15, .aload_n 0, 1), (16, .getfield 63, 3), (19, .if_icmp .eq 115, 3), (22, .iload_n 3, 1), (23, .iconst (-1), 1), (24, .if_icmp .eq 110, 3), (27, .aload_n 0, 1), (28, .getfield 18, 3), (31, .iload_n 3, 1), (32, .invokestatic 70, 3), (35, .istore 5, 2), (37, .aload_n 0, 1), (38, .getfield 21, 3), (41, .iload_n 3, 1), (42, .invokestatic 70, 3), (45, .iconst 2, 1), (46, .if_icmp .ge 74, 3), (49, .aload_n 0, 1), (50, .getfield 21, 3), (53, .iload_n 3, 1), (54, .invokestatic 70, 3), (57, .iconst 1, 1), (58, .if_icmp .ne 34, 3), (61, .aload_n 0, 1), (62, .getfield 24, 3), (65, .iload_n 3, 1), (66, .iconst 5, 1), (67, .imul, 1), (68, .invokestatic 70, 3), (71, .istore 6, 2), (73, .aload_n 0, 1), (74, .iload 6, 2), (76, .invokevirtual 133, 3), (79, .aload_n 0, 1), (80, .getfield 30, 3), (83, .iload_n 2, 1), (84, .iload 6, 2), (86, .invokestatic 45, 3), (89, .iinc 2 1, 3), (92, .aload_n 0, 1), (93, .iload_n 3, 1), (94, .invokevirtual 133, 3), (97, .aload_n 0, 1), (98, .getfield 15, 3), (101, .iload_n 3, 1), (102, .bipush (-2), 2), (104, .invokestatic 45, 3), (107, .aload_n 0, 1), (108, .dup, 1), (109, .getfield 56, 3), (112, .iconst 1, 1), (113, .iadd, 1), (114, .putfield 56, 3), (117, .goto 8, 3), (120, .aload_n 0, 1), (121, .iload_n 3, 1), (122, .invokevirtual 90, 3), (125, .iload 5, 2), (127, .istore_n 3, 1), (128, .iinc 4 1, 3), (131, .goto (-124), 3), (134, .aload_n 0, 1), (135, .aload_n 0, 1), (136, .getfield 63, 3), (139, .invokevirtual 90, 3), (142, .iload_n 2, 1), (143, .ireturn, 1)]
theorem zo_cX1_dissolveUpward_0 : zd_ok cX1_dissolveUpward zl_cX1_dissolveUpward_0 = true := by decide +kernel
theorem dX1_dissolveUpward_0 : decode cX1_dissolveUpward 0 = .ok (.iconst 0, 1) := zd_at zo_cX1_dissolveUpward_0 0 rfl
theorem dX1_dissolveUpward_1 : decode cX1_dissolveUpward 1 = .ok (.istore_n 2, 1) := zd_at zo_cX1_dissolveUpward_0 1 rfl
theorem dX1_dissolveUpward_2 : decode cX1_dissolveUpward 2 = .ok (.iload_n 1, 1) := zd_at zo_cX1_dissolveUpward_0 2 rfl
theorem dX1_dissolveUpward_3 : decode cX1_dissolveUpward 3 = .ok (.istore_n 3, 1) := zd_at zo_cX1_dissolveUpward_0 3 rfl
theorem dX1_dissolveUpward_4 : decode cX1_dissolveUpward 4 = .ok (.iconst 0, 1) := zd_at zo_cX1_dissolveUpward_0 4 rfl
theorem dX1_dissolveUpward_5 : decode cX1_dissolveUpward 5 = .ok (.istore 4, 2) := zd_at zo_cX1_dissolveUpward_0 5 rfl
theorem dX1_dissolveUpward_7 : decode cX1_dissolveUpward 7 = .ok (.iload 4, 2) := zd_at zo_cX1_dissolveUpward_0 6 rfl
theorem dX1_dissolveUpward_9 : decode cX1_dissolveUpward 9 = .ok (.bipush 8, 2) := zd_at zo_cX1_dissolveUpward_0 7 rfl
theorem dX1_dissolveUpward_11 : decode cX1_dissolveUpward 11 = .ok (.if_icmp .ge 123, 3) := zd_at zo_cX1_dissolveUpward_0 8 rfl
theorem dX1_dissolveUpward_14 : decode cX1_dissolveUpward 14 = .ok (.iload_n 3, 1) := zd_at zo_cX1_dissolveUpward_0 9 rfl
theorem dX1_dissolveUpward_15 : decode cX1_dissolveUpward 15 = .ok (.aload_n 0, 1) := zd_at zo_cX1_dissolveUpward_0 10 rfl
theorem dX1_dissolveUpward_16 : decode cX1_dissolveUpward 16 = .ok (.getfield 63, 3) := zd_at zo_cX1_dissolveUpward_0 11 rfl
theorem dX1_dissolveUpward_19 : decode cX1_dissolveUpward 19 = .ok (.if_icmp .eq 115, 3) := zd_at zo_cX1_dissolveUpward_0 12 rfl
theorem dX1_dissolveUpward_22 : decode cX1_dissolveUpward 22 = .ok (.iload_n 3, 1) := zd_at zo_cX1_dissolveUpward_0 13 rfl
theorem dX1_dissolveUpward_23 : decode cX1_dissolveUpward 23 = .ok (.iconst (-1), 1) := zd_at zo_cX1_dissolveUpward_0 14 rfl
theorem dX1_dissolveUpward_24 : decode cX1_dissolveUpward 24 = .ok (.if_icmp .eq 110, 3) := zd_at zo_cX1_dissolveUpward_0 15 rfl
theorem dX1_dissolveUpward_27 : decode cX1_dissolveUpward 27 = .ok (.aload_n 0, 1) := zd_at zo_cX1_dissolveUpward_0 16 rfl
theorem dX1_dissolveUpward_28 : decode cX1_dissolveUpward 28 = .ok (.getfield 18, 3) := zd_at zo_cX1_dissolveUpward_0 17 rfl
theorem dX1_dissolveUpward_31 : decode cX1_dissolveUpward 31 = .ok (.iload_n 3, 1) := zd_at zo_cX1_dissolveUpward_0 18 rfl
theorem dX1_dissolveUpward_32 : decode cX1_dissolveUpward 32 = .ok (.invokestatic 70, 3) := zd_at zo_cX1_dissolveUpward_0 19 rfl
theorem dX1_dissolveUpward_35 : decode cX1_dissolveUpward 35 = .ok (.istore 5, 2) := zd_at zo_cX1_dissolveUpward_0 20 rfl
theorem dX1_dissolveUpward_37 : decode cX1_dissolveUpward 37 = .ok (.aload_n 0, 1) := zd_at zo_cX1_dissolveUpward_0 21 rfl
theorem dX1_dissolveUpward_38 : decode cX1_dissolveUpward 38 = .ok (.getfield 21, 3) := zd_at zo_cX1_dissolveUpward_0 22 rfl
theorem dX1_dissolveUpward_41 : decode cX1_dissolveUpward 41 = .ok (.iload_n 3, 1) := zd_at zo_cX1_dissolveUpward_0 23 rfl
theorem dX1_dissolveUpward_42 : decode cX1_dissolveUpward 42 = .ok (.invokestatic 70, 3) := zd_at zo_cX1_dissolveUpward_0 24 rfl
theorem dX1_dissolveUpward_45 : decode cX1_dissolveUpward 45 = .ok (.iconst 2, 1) := zd_at zo_cX1_dissolveUpward_0 25 rfl
theorem dX1_dissolveUpward_46 : decode cX1_dissolveUpward 46 = .ok (.if_icmp .ge 74, 3) := zd_at zo_cX1_dissolveUpward_0 26 rfl
theorem dX1_dissolveUpward_49 : decode cX1_dissolveUpward 49 = .ok (.aload_n 0, 1) := zd_at zo_cX1_dissolveUpward_0 27 rfl
theorem dX1_dissolveUpward_50 : decode cX1_dissolveUpward 50 = .ok (.getfield 21, 3) := zd_at zo_cX1_dissolveUpward_0 28 rfl
theorem dX1_dissolveUpward_53 : decode cX1_dissolveUpward 53 = .ok (.iload_n 3, 1) := zd_at zo_cX1_dissolveUpward_0 29 rfl
theorem dX1_dissolveUpward_54 : decode cX1_dissolveUpward 54 = .ok (.invokestatic 70, 3) := zd_at zo_cX1_dissolveUpward_0 30 rfl
theorem dX1_dissolveUpward_57 : decode cX1_dissolveUpward 57 = .ok (.iconst 1, 1) := zd_at zo_cX1_dissolveUpward_0 31 rfl
theorem dX1_dissolveUpward_58 : decode cX1_dissolveUpward 58 = .ok (.if_icmp .ne 34, 3) := zd_at zo_cX1_dissolveUpward_0 32 rfl
theorem dX1_dissolveUpward_61 : decode cX1_dissolveUpward 61 = .ok (.aload_n 0, 1) := zd_at zo_cX1_dissolveUpward_0 33 rfl
theorem dX1_dissolveUpward_62 : decode cX1_dissolveUpward 62 = .ok (.getfield 24, 3) := zd_at zo_cX1_dissolveUpward_0 34 rfl
theorem dX1_dissolveUpward_65 : decode cX1_dissolveUpward 65 = .ok (.iload_n 3, 1) := zd_at zo_cX1_dissolveUpward_0 35 rfl
theorem dX1_dissolveUpward_66 : decode cX1_dissolveUpward 66 = .ok (.iconst 5, 1) := zd_at zo_cX1_dissolveUpward_0 36 rfl
theorem dX1_dissolveUpward_67 : decode cX1_dissolveUpward 67 = .ok (.imul, 1) := zd_at zo_cX1_dissolveUpward_0 37 rfl
theorem dX1_dissolveUpward_68 : decode cX1_dissolveUpward 68 = .ok (.invokestatic 70, 3) := zd_at zo_cX1_dissolveUpward_0 38 rfl
theorem dX1_dissolveUpward_71 : decode cX1_dissolveUpward 71 = .ok (.istore 6, 2) := zd_at zo_cX1_dissolveUpward_0 39 rfl
theorem dX1_dissolveUpward_73 : decode cX1_dissolveUpward 73 = .ok (.aload_n 0, 1) := zd_at zo_cX1_dissolveUpward_0 40 rfl
theorem dX1_dissolveUpward_74 : decode cX1_dissolveUpward 74 = .ok (.iload 6, 2) := zd_at zo_cX1_dissolveUpward_0 41 rfl
theorem dX1_dissolveUpward_76 : decode cX1_dissolveUpward 76 = .ok (.invokevirtual 133, 3) := zd_at zo_cX1_dissolveUpward_0 42 rfl
theorem dX1_dissolveUpward_79 : decode cX1_dissolveUpward 79 = .ok (.aload_n 0, 1) := zd_at zo_cX1_dissolveUpward_0 43 rfl
theorem dX1_dissolveUpward_80 : decode cX1_dissolveUpward 80 = .ok (.getfield 30, 3) := zd_at zo_cX1_dissolveUpward_0 44 rfl
theorem dX1_dissolveUpward_83 : decode cX1_dissolveUpward 83 = .ok (.iload_n 2, 1) := zd_at zo_cX1_dissolveUpward_0 45 rfl
theorem dX1_dissolveUpward_84 : decode cX1_dissolveUpward 84 = .ok (.iload 6, 2) := zd_at zo_cX1_dissolveUpward_0 46 rfl
theorem dX1_dissolveUpward_86 : decode cX1_dissolveUpward 86 = .ok (.invokestatic 45, 3) := zd_at zo_cX1_dissolveUpward_0 47 rfl
theorem dX1_dissolveUpward_89 : decode cX1_dissolveUpward 89 = .ok (.iinc 2 1, 3) := zd_at zo_cX1_dissolveUpward_0 48 rfl
theorem dX1_dissolveUpward_92 : decode cX1_dissolveUpward 92 = .ok (.aload_n 0, 1) := zd_at zo_cX1_dissolveUpward_0 49 rfl
theorem dX1_dissolveUpward_93 : decode cX1_dissolveUpward 93 = .ok (.iload_n 3, 1) := zd_at zo_cX1_dissolveUpward_0 50 rfl
theorem dX1_dissolveUpward_94 : decode cX1_dissolveUpward 94 = .ok (.invokevirtual 133, 3) := zd_at zo_cX1_dissolveUpward_0 51 rfl
theorem dX1_dissolveUpward_97 : decode cX1_dissolveUpward 97 = .ok (.aload_n 0, 1) := zd_at zo_cX1_dissolveUpward_0 52 rfl
theorem dX1_dissolveUpward_98 : decode cX1_dissolveUpward 98 = .ok (.getfield 15, 3) := zd_at zo_cX1_dissolveUpward_0 53 rfl
theorem dX1_dissolveUpward_101 : decode cX1_dissolveUpward 101 = .ok (.iload_n 3, 1) := zd_at zo_cX1_dissolveUpward_0 54 rfl
theorem dX1_dissolveUpward_102 : decode cX1_dissolveUpward 102 = .ok (.bipush (-2), 2) := zd_at zo_cX1_dissolveUpward_0 55 rfl
theorem dX1_dissolveUpward_104 : decode cX1_dissolveUpward 104 = .ok (.invokestatic 45, 3) := zd_at zo_cX1_dissolveUpward_0 56 rfl
theorem dX1_dissolveUpward_107 : decode cX1_dissolveUpward 107 = .ok (.aload_n 0, 1) := zd_at zo_cX1_dissolveUpward_0 57 rfl
theorem dX1_dissolveUpward_108 : decode cX1_dissolveUpward 108 = .ok (.dup, 1) := zd_at zo_cX1_dissolveUpward_0 58 rfl
theorem dX1_dissolveUpward_109 : decode cX1_dissolveUpward 109 = .ok (.getfield 56, 3) := zd_at zo_cX1_dissolveUpward_0 59 rfl
theorem dX1_dissolveUpward_112 : decode cX1_dissolveUpward 112 = .ok (.iconst 1, 1) := zd_at zo_cX1_dissolveUpward_0 60 rfl
theorem dX1_dissolveUpward_113 : decode cX1_dissolveUpward 113 = .ok (.iadd, 1) := zd_at zo_cX1_dissolveUpward_0 61 rfl
theorem dX1_dissolveUpward_114 : decode cX1_dissolveUpward 114 = .ok (.putfield 56, 3) := zd_at zo_cX1_dissolveUpward_0 62 rfl
theorem dX1_dissolveUpward_117 : decode cX1_dissolveUpward 117 = .ok (.goto 8, 3) := zd_at zo_cX1_dissolveUpward_0 63 rfl
theorem dX1_dissolveUpward_120 : decode cX1_dissolveUpward 120 = .ok (.aload_n 0, 1) := zd_at zo_cX1_dissolveUpward_0 64 rfl
theorem dX1_dissolveUpward_121 : decode cX1_dissolveUpward 121 = .ok (.iload_n 3, 1) := zd_at zo_cX1_dissolveUpward_0 65 rfl
theorem dX1_dissolveUpward_122 : decode cX1_dissolveUpward 122 = .ok (.invokevirtual 90, 3) := zd_at zo_cX1_dissolveUpward_0 66 rfl
theorem dX1_dissolveUpward_125 : decode cX1_dissolveUpward 125 = .ok (.iload 5, 2) := zd_at zo_cX1_dissolveUpward_0 67 rfl
theorem dX1_dissolveUpward_127 : decode cX1_dissolveUpward 127 = .ok (.istore_n 3, 1) := zd_at zo_cX1_dissolveUpward_0 68 rfl
theorem dX1_dissolveUpward_128 : decode cX1_dissolveUpward 128 = .ok (.iinc 4 1, 3) := zd_at zo_cX1_dissolveUpward_0 69 rfl
theorem dX1_dissolveUpward_131 : decode cX1_dissolveUpward 131 = .ok (.goto (-124), 3) := zd_at zo_cX1_dissolveUpward_0 70 rfl
theorem dX1_dissolveUpward_134 : decode cX1_dissolveUpward 134 = .ok (.aload_n 0, 1) := zd_at zo_cX1_dissolveUpward_0 71 rfl
theorem dX1_dissolveUpward_135 : decode cX1_dissolveUpward 135 = .ok (.aload_n 0, 1) := zd_at zo_cX1_dissolveUpward_0 72 rfl
theorem dX1_dissolveUpward_136 : decode cX1_dissolveUpward 136 = .ok (.getfield 63, 3) := zd_at zo_cX1_dissolveUpward_0 73 rfl
theorem dX1_dissolveUpward_139 : decode cX1_dissolveUpward 139 = .ok (.invokevirtual 90, 3) := zd_at zo_cX1_dissolveUpward_0 74 rfl
theorem dX1_dissolveUpward_142 : decode cX1_dissolveUpward 142 = .ok (.iload_n 2, 1) := zd_at zo_cX1_dissolveUpward_0 75 rfl
theorem dX1_dissolveUpward_143 : decode cX1_dissolveUpward 143 = .ok (.ireturn, 1) := zd_at zo_cX1_dissolveUpward_0 76 rfl
def zl_cX1_overlap_0 : List (Nat × Instr × Nat) := [(0, .iconst 0, 1), (1, .istore_n 1, 1), (2, .aload_n 0, 1), (3, .invokevirtual 97, 3), (6, .istore_n 2, 1), (7, .iconst 0, 1), (8, .istore_n 3, 1), (9, .iload_n 3, 1), (10, .iload_n 2, 1), (11, .if_icmp .ge 40, 3), (14, .aload_n 0, 1), (15, .getfield 36, 3), (18, .iload_n 3, 1), (19, .invokestatic 70, 3), (22, .istore 4, 2), (24, .aload_n 0, 1), (25, .getfield 15, 3), (28, .iload 4, 2), (30, .invokestatic 70, 3), (33, .ifCond .le 12, 3), (36, .iload_n 1, 1), (37, .aload_n 0, 1), (38, .iload 4, 2), (40, .invokevirtual 153, 3), (43, .iadd, 1), (44, .istore_n 1, 1), (45, .iinc 3 1, 3), (48, .goto (-39), 3), (51, .iload_n 1, 1), (52, .ireturn, 1)]
theorem zo_cX1_overlap_0 : zd_ok cX1_overlap zl_cX1_overlap_0 = true := by decide +kernel
theorem dX1_overlap_0 : decode cX1_overlap 0 = .ok (.iconst 0, 1) := zd_at zo_cX1_overlap_0 0 rfl
theorem dX1_overlap_1 : decode cX1_overlap 1 = .ok (.istore_n 1, 1) := zd_at zo_cX1_overlap_0 1 rfl
theorem dX1_overlap_2 : decode cX1_overlap 2 = .ok (.aload_n 0, 1) := zd_at zo_cX1_overlap_0 2 rfl
theorem dX1_overlap_3 : decode cX1_overlap 3 = .ok (.invokevirtual 97, 3) := zd_at zo_cX1_overlap_0 3 rfl
theorem dX1_overlap_6 : decode cX1_overlap 6 = .ok (.istore_n 2, 1) := zd_at zo_cX1_overlap_0 4 rfl
theorem dX1_overlap_7 : decode cX1_overlap 7 = .ok (.iconst 0, 1) := zd_at zo_cX1_overlap_0 5 rfl
theorem dX1_overlap_8 : decode cX1_overlap 8 = .ok (.istore_n 3, 1) := zd_at zo_cX1_overlap_0 6 rfl
theorem dX1_overlap_9 : decode cX1_overlap 9 = .ok (.iload_n 3, 1) := zd_at zo_cX1_overlap_0 7 rfl
theorem dX1_overlap_10 : decode cX1_overlap 10 = .ok (.iload_n 2, 1) := zd_at zo_cX1_overlap_0 8 rfl
theorem dX1_overlap_11 : decode cX1_overlap 11 = .ok (.if_icmp .ge 40, 3) := zd_at zo_cX1_overlap_0 9 rfl
theorem dX1_overlap_14 : decode cX1_overlap 14 = .ok (.aload_n 0, 1) := zd_at zo_cX1_overlap_0 10 rfl
theorem dX1_overlap_15 : decode cX1_overlap 15 = .ok (.getfield 36, 3) := zd_at zo_cX1_overlap_0 11 rfl
theorem dX1_overlap_18 : decode cX1_overlap 18 = .ok (.iload_n 3, 1) := zd_at zo_cX1_overlap_0 12 rfl
theorem dX1_overlap_19 : decode cX1_overlap 19 = .ok (.invokestatic 70, 3) := zd_at zo_cX1_overlap_0 13 rfl
theorem dX1_overlap_22 : decode cX1_overlap 22 = .ok (.istore 4, 2) := zd_at zo_cX1_overlap_0 14 rfl
theorem dX1_overlap_24 : decode cX1_overlap 24 = .ok (.aload_n 0, 1) := zd_at zo_cX1_overlap_0 15 rfl
theorem dX1_overlap_25 : decode cX1_overlap 25 = .ok (.getfield 15, 3) := zd_at zo_cX1_overlap_0 16 rfl
theorem dX1_overlap_28 : decode cX1_overlap 28 = .ok (.iload 4, 2) := zd_at zo_cX1_overlap_0 17 rfl
theorem dX1_overlap_30 : decode cX1_overlap 30 = .ok (.invokestatic 70, 3) := zd_at zo_cX1_overlap_0 18 rfl
theorem dX1_overlap_33 : decode cX1_overlap 33 = .ok (.ifCond .le 12, 3) := zd_at zo_cX1_overlap_0 19 rfl
theorem dX1_overlap_36 : decode cX1_overlap 36 = .ok (.iload_n 1, 1) := zd_at zo_cX1_overlap_0 20 rfl
theorem dX1_overlap_37 : decode cX1_overlap 37 = .ok (.aload_n 0, 1) := zd_at zo_cX1_overlap_0 21 rfl
theorem dX1_overlap_38 : decode cX1_overlap 38 = .ok (.iload 4, 2) := zd_at zo_cX1_overlap_0 22 rfl
theorem dX1_overlap_40 : decode cX1_overlap 40 = .ok (.invokevirtual 153, 3) := zd_at zo_cX1_overlap_0 23 rfl
theorem dX1_overlap_43 : decode cX1_overlap 43 = .ok (.iadd, 1) := zd_at zo_cX1_overlap_0 24 rfl
theorem dX1_overlap_44 : decode cX1_overlap 44 = .ok (.istore_n 1, 1) := zd_at zo_cX1_overlap_0 25 rfl
theorem dX1_overlap_45 : decode cX1_overlap 45 = .ok (.iinc 3 1, 3) := zd_at zo_cX1_overlap_0 26 rfl
theorem dX1_overlap_48 : decode cX1_overlap 48 = .ok (.goto (-39), 3) := zd_at zo_cX1_overlap_0 27 rfl
theorem dX1_overlap_51 : decode cX1_overlap 51 = .ok (.iload_n 1, 1) := zd_at zo_cX1_overlap_0 28 rfl
theorem dX1_overlap_52 : decode cX1_overlap 52 = .ok (.ireturn, 1) := zd_at zo_cX1_overlap_0 29 rfl
def zl_cX1_overlapIn_0 : List (Nat × Instr × Nat) := [(0, .iconst 0, 1), (1, .istore_n 2, 1), (2, .aload_n 0, 1), (3, .getfield 21, 3), (6, .iload_n 1, 1), (7, .invokestatic 70, 3), (10, .istore_n 3, 1), (11, .iconst 0, 1), (12, .istore 4, 2), (14, .iload 4, 2), (16, .iload_n 3, 1), (17, .if_icmp .ge 60, 3), (20, .iload 4, 2), (22, .iconst 1, 1), (23, .iadd, 1), (24, .istore 5, 2), (26, .iload 5, 2), (28, .iload_n 3, 1), (29, .if_icmp .ge 42, 3), (32, .iload_n 2, 1), (33, .aload_n 0, 1), (34, .aload_n 0, 1), (35, .getfield 24, 3), (38, .iload_n 1, 1), (39, .iconst 5, 1), (40, .imul, 1), (41, .iload 4, 2), (43, .iadd, 1), (44, .invokestatic 70, 3), (47, .aload_n 0, 1), (48, .getfield 24, 3), (51, .iload_n 1, 1), (52, .iconst 5, 1), (53, .imul, 1), (54, .iload 5, 2), (56, .iadd, 1), (57, .invokestatic 70, 3), (60, .invokevirtual 156, 3), (63, .iadd, 1), (64, .istore_n 2, 1), (65, .iinc 5 1, 3), (68, .goto (-42), 3), (71, .iinc 4 1, 3), (74, .goto (-60), 3), (77, .iload_n 2, 1), (78, .ireturn, 1)]
theorem zo_cX1_overlapIn_0 : zd_ok cX1_overlapIn zl_cX1_overlapIn_0 = true := by decide +kernel
theorem dX1_overlapIn_0 : decode cX1_overlapIn 0 = .ok (.iconst 0, 1) := zd_at zo_cX1_overlapIn_0 0 rfl
theorem dX1_overlapIn_1 : decode cX1_overlapIn 1 = .ok (.istore_n 2, 1) := zd_at zo_cX1_overlapIn_0 1 rfl
theorem dX1_overlapIn_2 : decode cX1_overlapIn 2 = .ok (.aload_n 0, 1) := zd_at zo_cX1_overlapIn_0 2 rfl
theorem dX1_overlapIn_3 : decode cX1_overlapIn 3 = .ok (.getfield 21, 3) := zd_at zo_cX1_overlapIn_0 3 rfl
theorem dX1_overlapIn_6 : decode cX1_overlapIn 6 = .ok (.iload_n 1, 1) := zd_at zo_cX1_overlapIn_0 4 rfl
theorem dX1_overlapIn_7 : decode cX1_overlapIn 7 = .ok (.invokestatic 70, 3) := zd_at zo_cX1_overlapIn_0 5 rfl
theorem dX1_overlapIn_10 : decode cX1_overlapIn 10 = .ok (.istore_n 3, 1) := zd_at zo_cX1_overlapIn_0 6 rfl
theorem dX1_overlapIn_11 : decode cX1_overlapIn 11 = .ok (.iconst 0, 1) := zd_at zo_cX1_overlapIn_0 7 rfl
theorem dX1_overlapIn_12 : decode cX1_overlapIn 12 = .ok (.istore 4, 2) := zd_at zo_cX1_overlapIn_0 8 rfl
theorem dX1_overlapIn_14 : decode cX1_overlapIn 14 = .ok (.iload 4, 2) := zd_at zo_cX1_overlapIn_0 9 rfl
theorem dX1_overlapIn_16 : decode cX1_overlapIn 16 = .ok (.iload_n 3, 1) := zd_at zo_cX1_overlapIn_0 10 rfl
theorem dX1_overlapIn_17 : decode cX1_overlapIn 17 = .ok (.if_icmp .ge 60, 3) := zd_at zo_cX1_overlapIn_0 11 rfl
theorem dX1_overlapIn_20 : decode cX1_overlapIn 20 = .ok (.iload 4, 2) := zd_at zo_cX1_overlapIn_0 12 rfl
theorem dX1_overlapIn_22 : decode cX1_overlapIn 22 = .ok (.iconst 1, 1) := zd_at zo_cX1_overlapIn_0 13 rfl
theorem dX1_overlapIn_23 : decode cX1_overlapIn 23 = .ok (.iadd, 1) := zd_at zo_cX1_overlapIn_0 14 rfl
theorem dX1_overlapIn_24 : decode cX1_overlapIn 24 = .ok (.istore 5, 2) := zd_at zo_cX1_overlapIn_0 15 rfl
theorem dX1_overlapIn_26 : decode cX1_overlapIn 26 = .ok (.iload 5, 2) := zd_at zo_cX1_overlapIn_0 16 rfl
theorem dX1_overlapIn_28 : decode cX1_overlapIn 28 = .ok (.iload_n 3, 1) := zd_at zo_cX1_overlapIn_0 17 rfl
theorem dX1_overlapIn_29 : decode cX1_overlapIn 29 = .ok (.if_icmp .ge 42, 3) := zd_at zo_cX1_overlapIn_0 18 rfl
theorem dX1_overlapIn_32 : decode cX1_overlapIn 32 = .ok (.iload_n 2, 1) := zd_at zo_cX1_overlapIn_0 19 rfl
theorem dX1_overlapIn_33 : decode cX1_overlapIn 33 = .ok (.aload_n 0, 1) := zd_at zo_cX1_overlapIn_0 20 rfl
theorem dX1_overlapIn_34 : decode cX1_overlapIn 34 = .ok (.aload_n 0, 1) := zd_at zo_cX1_overlapIn_0 21 rfl
theorem dX1_overlapIn_35 : decode cX1_overlapIn 35 = .ok (.getfield 24, 3) := zd_at zo_cX1_overlapIn_0 22 rfl
theorem dX1_overlapIn_38 : decode cX1_overlapIn 38 = .ok (.iload_n 1, 1) := zd_at zo_cX1_overlapIn_0 23 rfl
theorem dX1_overlapIn_39 : decode cX1_overlapIn 39 = .ok (.iconst 5, 1) := zd_at zo_cX1_overlapIn_0 24 rfl
theorem dX1_overlapIn_40 : decode cX1_overlapIn 40 = .ok (.imul, 1) := zd_at zo_cX1_overlapIn_0 25 rfl
theorem dX1_overlapIn_41 : decode cX1_overlapIn 41 = .ok (.iload 4, 2) := zd_at zo_cX1_overlapIn_0 26 rfl
theorem dX1_overlapIn_43 : decode cX1_overlapIn 43 = .ok (.iadd, 1) := zd_at zo_cX1_overlapIn_0 27 rfl
theorem dX1_overlapIn_44 : decode cX1_overlapIn 44 = .ok (.invokestatic 70, 3) := zd_at zo_cX1_overlapIn_0 28 rfl
theorem dX1_overlapIn_47 : decode cX1_overlapIn 47 = .ok (.aload_n 0, 1) := zd_at zo_cX1_overlapIn_0 29 rfl
theorem dX1_overlapIn_48 : decode cX1_overlapIn 48 = .ok (.getfield 24, 3) := zd_at zo_cX1_overlapIn_0 30 rfl
theorem dX1_overlapIn_51 : decode cX1_overlapIn 51 = .ok (.iload_n 1, 1) := zd_at zo_cX1_overlapIn_0 31 rfl
theorem dX1_overlapIn_52 : decode cX1_overlapIn 52 = .ok (.iconst 5, 1) := zd_at zo_cX1_overlapIn_0 32 rfl
theorem dX1_overlapIn_53 : decode cX1_overlapIn 53 = .ok (.imul, 1) := zd_at zo_cX1_overlapIn_0 33 rfl
theorem dX1_overlapIn_54 : decode cX1_overlapIn 54 = .ok (.iload 5, 2) := zd_at zo_cX1_overlapIn_0 34 rfl
theorem dX1_overlapIn_56 : decode cX1_overlapIn 56 = .ok (.iadd, 1) := zd_at zo_cX1_overlapIn_0 35 rfl
theorem dX1_overlapIn_57 : decode cX1_overlapIn 57 = .ok (.invokestatic 70, 3) := zd_at zo_cX1_overlapIn_0 36 rfl
theorem dX1_overlapIn_60 : decode cX1_overlapIn 60 = .ok (.invokevirtual 156, 3) := zd_at zo_cX1_overlapIn_0 37 rfl
theorem dX1_overlapIn_63 : decode cX1_overlapIn 63 = .ok (.iadd, 1) := zd_at zo_cX1_overlapIn_0 38 rfl
theorem dX1_overlapIn_64 : decode cX1_overlapIn 64 = .ok (.istore_n 2, 1) := zd_at zo_cX1_overlapIn_0 39 rfl
theorem dX1_overlapIn_65 : decode cX1_overlapIn 65 = .ok (.iinc 5 1, 3) := zd_at zo_cX1_overlapIn_0 40 rfl
theorem dX1_overlapIn_68 : decode cX1_overlapIn 68 = .ok (.goto (-42), 3) := zd_at zo_cX1_overlapIn_0 41 rfl
theorem dX1_overlapIn_71 : decode cX1_overlapIn 71 = .ok (.iinc 4 1, 3) := zd_at zo_cX1_overlapIn_0 42 rfl
theorem dX1_overlapIn_74 : decode cX1_overlapIn 74 = .ok (.goto (-60), 3) := zd_at zo_cX1_overlapIn_0 43 rfl
theorem dX1_overlapIn_77 : decode cX1_overlapIn 77 = .ok (.iload_n 2, 1) := zd_at zo_cX1_overlapIn_0 44 rfl
theorem dX1_overlapIn_78 : decode cX1_overlapIn 78 = .ok (.ireturn, 1) := zd_at zo_cX1_overlapIn_0 45 rfl
def zl_cX1_areaBelowRoot_0 : List (Nat × Instr × Nat) := [(0, .iconst 0, 1), (1, .istore_n 1, 1), (2, .aload_n 0, 1), (3, .invokevirtual 97, 3), (6, .istore_n 2, 1), (7, .iconst 1, 1), (8, .istore_n 3, 1), (9, .iload_n 3, 1), (10, .iload_n 2, 1), (11, .if_icmp .ge 24, 3), (14, .iload_n 1, 1), (15, .aload_n 0, 1), (16, .aload_n 0, 1), (17, .getfield 36, 3), (20, .iload_n 3, 1), (21, .invokestatic 70, 3), (24, .invokevirtual 127, 3), (27, .iadd, 1), (28, .istore_n 1, 1), (29, .iinc 3 1, 3), (32, .goto (-23), 3), (35, .iload_n 1, 1), (36, .ireturn, 1)]
theorem zo_cX1_areaBelowRoot_0 : zd_ok cX1_areaBelowRoot zl_cX1_areaBelowRoot_0 = true := by decide +kernel
theorem dX1_areaBelowRoot_0 : decode cX1_areaBelowRoot 0 = .ok (.iconst 0, 1) := zd_at zo_cX1_areaBelowRoot_0 0 rfl
theorem dX1_areaBelowRoot_1 : decode cX1_areaBelowRoot 1 = .ok (.istore_n 1, 1) := zd_at zo_cX1_areaBelowRoot_0 1 rfl
theorem dX1_areaBelowRoot_2 : decode cX1_areaBelowRoot 2 = .ok (.aload_n 0, 1) := zd_at zo_cX1_areaBelowRoot_0 2 rfl
theorem dX1_areaBelowRoot_3 : decode cX1_areaBelowRoot 3 = .ok (.invokevirtual 97, 3) := zd_at zo_cX1_areaBelowRoot_0 3 rfl
theorem dX1_areaBelowRoot_6 : decode cX1_areaBelowRoot 6 = .ok (.istore_n 2, 1) := zd_at zo_cX1_areaBelowRoot_0 4 rfl
theorem dX1_areaBelowRoot_7 : decode cX1_areaBelowRoot 7 = .ok (.iconst 1, 1) := zd_at zo_cX1_areaBelowRoot_0 5 rfl
theorem dX1_areaBelowRoot_8 : decode cX1_areaBelowRoot 8 = .ok (.istore_n 3, 1) := zd_at zo_cX1_areaBelowRoot_0 6 rfl
theorem dX1_areaBelowRoot_9 : decode cX1_areaBelowRoot 9 = .ok (.iload_n 3, 1) := zd_at zo_cX1_areaBelowRoot_0 7 rfl
theorem dX1_areaBelowRoot_10 : decode cX1_areaBelowRoot 10 = .ok (.iload_n 2, 1) := zd_at zo_cX1_areaBelowRoot_0 8 rfl
theorem dX1_areaBelowRoot_11 : decode cX1_areaBelowRoot 11 = .ok (.if_icmp .ge 24, 3) := zd_at zo_cX1_areaBelowRoot_0 9 rfl
theorem dX1_areaBelowRoot_14 : decode cX1_areaBelowRoot 14 = .ok (.iload_n 1, 1) := zd_at zo_cX1_areaBelowRoot_0 10 rfl
theorem dX1_areaBelowRoot_15 : decode cX1_areaBelowRoot 15 = .ok (.aload_n 0, 1) := zd_at zo_cX1_areaBelowRoot_0 11 rfl
theorem dX1_areaBelowRoot_16 : decode cX1_areaBelowRoot 16 = .ok (.aload_n 0, 1) := zd_at zo_cX1_areaBelowRoot_0 12 rfl
theorem dX1_areaBelowRoot_17 : decode cX1_areaBelowRoot 17 = .ok (.getfield 36, 3) := zd_at zo_cX1_areaBelowRoot_0 13 rfl
theorem dX1_areaBelowRoot_20 : decode cX1_areaBelowRoot 20 = .ok (.iload_n 3, 1) := zd_at zo_cX1_areaBelowRoot_0 14 rfl
theorem dX1_areaBelowRoot_21 : decode cX1_areaBelowRoot 21 = .ok (.invokestatic 70, 3) := zd_at zo_cX1_areaBelowRoot_0 15 rfl
theorem dX1_areaBelowRoot_24 : decode cX1_areaBelowRoot 24 = .ok (.invokevirtual 127, 3) := zd_at zo_cX1_areaBelowRoot_0 16 rfl
theorem dX1_areaBelowRoot_27 : decode cX1_areaBelowRoot 27 = .ok (.iadd, 1) := zd_at zo_cX1_areaBelowRoot_0 17 rfl
theorem dX1_areaBelowRoot_28 : decode cX1_areaBelowRoot 28 = .ok (.istore_n 1, 1) := zd_at zo_cX1_areaBelowRoot_0 18 rfl
theorem dX1_areaBelowRoot_29 : decode cX1_areaBelowRoot 29 = .ok (.iinc 3 1, 3) := zd_at zo_cX1_areaBelowRoot_0 19 rfl
theorem dX1_areaBelowRoot_32 : decode cX1_areaBelowRoot 32 = .ok (.goto (-23), 3) := zd_at zo_cX1_areaBelowRoot_0 20 rfl
theorem dX1_areaBelowRoot_35 : decode cX1_areaBelowRoot 35 = .ok (.iload_n 1, 1) := zd_at zo_cX1_areaBelowRoot_0 21 rfl
theorem dX1_areaBelowRoot_36 : decode cX1_areaBelowRoot 36 = .ok (.ireturn, 1) := zd_at zo_cX1_areaBelowRoot_0 22 rfl
def zl_cX1_lookedAt_0 : List (Nat × Instr × Nat) := [(0, .iconst 0, 1), (1, .istore_n 2, 1), (2, .iconst 1, 1), (3, .istore_n 3, 1), (4, .aload_n 0, 1), (5, .getfield 39, 3), (8, .iconst 0, 1), (9, .aload_n 0, 1), (10, .getfield 63, 3), (13, .invokestatic 45, 3), (16, .iconst 0, 1), (17, .istore 4, 2), (19, .iload 4, 2), (21, .bipush 24, 2), (23, .if_icmp .ge 111, 3), (26, .iload_n 3, 1), (27, .ifCond .le 107, 3), (30, .iinc 3 (-1), 3), (33, .aload_n 0, 1), (34, .getfield 39, 3), (37, .iload_n 3, 1), (38, .invokestatic 70, 3), (41, .istore 5, 2), (43, .iinc 2 1, 3), (46, .aload_n 0, 1), (47, .getfield 15, 3), (50, .iload 5, 2), (52, .invokestatic 70, 3), (55, .ifCond .le 15, 3), (58, .aload_n 0, 1), (59, .getfield 21, 3), (62, .iload 5, 2), (64, .invokestatic 70, 3), (67, .goto 4, 3), (70, .iconst 0, 1), (71, .istore 6, 2), (73, .iconst 0, 1), (74, .istore 7, 2), (76, .iload 7, 2), (78, .iload 6, 2), (80, .if_icmp .ge 48, 3), (83, .aload_n 0, 1), (84, .getfield 24, 3), (87, .iload 5, 2), (89, .iconst 5, 1), (90, .imul, 1), (91, .iload 7, 2), (93, .iadd, 1), (94, .invokestatic 70, 3), (97, .istore 8, 2), (99, .aload_n 0, 1), (100, .iload 8, 2), (102, .iload_n 1, 1), (103, .invokevirtual 156, 3), (106, .ifCond .le 16, 3), (109, .aload_n 0, 1), (110, .getfield 39, 3), (113, .iload_n 3, 1), (114, .iload 8, 2), (116, .invokestatic 45, 3), (119, .iinc 3 1, 3), (122, .iinc 7 1, 3), (125, .goto (-49), 3), (128, .iinc 4 1, 3), (131, .goto (-112), 3), (134, .iload_n 2, 1), (135, .ireturn, 1)]
theorem zo_cX1_lookedAt_0 : zd_ok cX1_lookedAt zl_cX1_lookedAt_0 = true := by decide +kernel
theorem dX1_lookedAt_0 : decode cX1_lookedAt 0 = .ok (.iconst 0, 1) := zd_at zo_cX1_lookedAt_0 0 rfl
theorem dX1_lookedAt_1 : decode cX1_lookedAt 1 = .ok (.istore_n 2, 1) := zd_at zo_cX1_lookedAt_0 1 rfl
theorem dX1_lookedAt_2 : decode cX1_lookedAt 2 = .ok (.iconst 1, 1) := zd_at zo_cX1_lookedAt_0 2 rfl
theorem dX1_lookedAt_3 : decode cX1_lookedAt 3 = .ok (.istore_n 3, 1) := zd_at zo_cX1_lookedAt_0 3 rfl
theorem dX1_lookedAt_4 : decode cX1_lookedAt 4 = .ok (.aload_n 0, 1) := zd_at zo_cX1_lookedAt_0 4 rfl
theorem dX1_lookedAt_5 : decode cX1_lookedAt 5 = .ok (.getfield 39, 3) := zd_at zo_cX1_lookedAt_0 5 rfl
theorem dX1_lookedAt_8 : decode cX1_lookedAt 8 = .ok (.iconst 0, 1) := zd_at zo_cX1_lookedAt_0 6 rfl
theorem dX1_lookedAt_9 : decode cX1_lookedAt 9 = .ok (.aload_n 0, 1) := zd_at zo_cX1_lookedAt_0 7 rfl
theorem dX1_lookedAt_10 : decode cX1_lookedAt 10 = .ok (.getfield 63, 3) := zd_at zo_cX1_lookedAt_0 8 rfl
theorem dX1_lookedAt_13 : decode cX1_lookedAt 13 = .ok (.invokestatic 45, 3) := zd_at zo_cX1_lookedAt_0 9 rfl
theorem dX1_lookedAt_16 : decode cX1_lookedAt 16 = .ok (.iconst 0, 1) := zd_at zo_cX1_lookedAt_0 10 rfl
theorem dX1_lookedAt_17 : decode cX1_lookedAt 17 = .ok (.istore 4, 2) := zd_at zo_cX1_lookedAt_0 11 rfl
theorem dX1_lookedAt_19 : decode cX1_lookedAt 19 = .ok (.iload 4, 2) := zd_at zo_cX1_lookedAt_0 12 rfl
theorem dX1_lookedAt_21 : decode cX1_lookedAt 21 = .ok (.bipush 24, 2) := zd_at zo_cX1_lookedAt_0 13 rfl
theorem dX1_lookedAt_23 : decode cX1_lookedAt 23 = .ok (.if_icmp .ge 111, 3) := zd_at zo_cX1_lookedAt_0 14 rfl
theorem dX1_lookedAt_26 : decode cX1_lookedAt 26 = .ok (.iload_n 3, 1) := zd_at zo_cX1_lookedAt_0 15 rfl
theorem dX1_lookedAt_27 : decode cX1_lookedAt 27 = .ok (.ifCond .le 107, 3) := zd_at zo_cX1_lookedAt_0 16 rfl
theorem dX1_lookedAt_30 : decode cX1_lookedAt 30 = .ok (.iinc 3 (-1), 3) := zd_at zo_cX1_lookedAt_0 17 rfl
theorem dX1_lookedAt_33 : decode cX1_lookedAt 33 = .ok (.aload_n 0, 1) := zd_at zo_cX1_lookedAt_0 18 rfl
theorem dX1_lookedAt_34 : decode cX1_lookedAt 34 = .ok (.getfield 39, 3) := zd_at zo_cX1_lookedAt_0 19 rfl
theorem dX1_lookedAt_37 : decode cX1_lookedAt 37 = .ok (.iload_n 3, 1) := zd_at zo_cX1_lookedAt_0 20 rfl
theorem dX1_lookedAt_38 : decode cX1_lookedAt 38 = .ok (.invokestatic 70, 3) := zd_at zo_cX1_lookedAt_0 21 rfl
theorem dX1_lookedAt_41 : decode cX1_lookedAt 41 = .ok (.istore 5, 2) := zd_at zo_cX1_lookedAt_0 22 rfl
theorem dX1_lookedAt_43 : decode cX1_lookedAt 43 = .ok (.iinc 2 1, 3) := zd_at zo_cX1_lookedAt_0 23 rfl
theorem dX1_lookedAt_46 : decode cX1_lookedAt 46 = .ok (.aload_n 0, 1) := zd_at zo_cX1_lookedAt_0 24 rfl
theorem dX1_lookedAt_47 : decode cX1_lookedAt 47 = .ok (.getfield 15, 3) := zd_at zo_cX1_lookedAt_0 25 rfl
theorem dX1_lookedAt_50 : decode cX1_lookedAt 50 = .ok (.iload 5, 2) := zd_at zo_cX1_lookedAt_0 26 rfl
theorem dX1_lookedAt_52 : decode cX1_lookedAt 52 = .ok (.invokestatic 70, 3) := zd_at zo_cX1_lookedAt_0 27 rfl
theorem dX1_lookedAt_55 : decode cX1_lookedAt 55 = .ok (.ifCond .le 15, 3) := zd_at zo_cX1_lookedAt_0 28 rfl
theorem dX1_lookedAt_58 : decode cX1_lookedAt 58 = .ok (.aload_n 0, 1) := zd_at zo_cX1_lookedAt_0 29 rfl
theorem dX1_lookedAt_59 : decode cX1_lookedAt 59 = .ok (.getfield 21, 3) := zd_at zo_cX1_lookedAt_0 30 rfl
theorem dX1_lookedAt_62 : decode cX1_lookedAt 62 = .ok (.iload 5, 2) := zd_at zo_cX1_lookedAt_0 31 rfl
theorem dX1_lookedAt_64 : decode cX1_lookedAt 64 = .ok (.invokestatic 70, 3) := zd_at zo_cX1_lookedAt_0 32 rfl
theorem dX1_lookedAt_67 : decode cX1_lookedAt 67 = .ok (.goto 4, 3) := zd_at zo_cX1_lookedAt_0 33 rfl
theorem dX1_lookedAt_70 : decode cX1_lookedAt 70 = .ok (.iconst 0, 1) := zd_at zo_cX1_lookedAt_0 34 rfl
theorem dX1_lookedAt_71 : decode cX1_lookedAt 71 = .ok (.istore 6, 2) := zd_at zo_cX1_lookedAt_0 35 rfl
theorem dX1_lookedAt_73 : decode cX1_lookedAt 73 = .ok (.iconst 0, 1) := zd_at zo_cX1_lookedAt_0 36 rfl
theorem dX1_lookedAt_74 : decode cX1_lookedAt 74 = .ok (.istore 7, 2) := zd_at zo_cX1_lookedAt_0 37 rfl
theorem dX1_lookedAt_76 : decode cX1_lookedAt 76 = .ok (.iload 7, 2) := zd_at zo_cX1_lookedAt_0 38 rfl
theorem dX1_lookedAt_78 : decode cX1_lookedAt 78 = .ok (.iload 6, 2) := zd_at zo_cX1_lookedAt_0 39 rfl
theorem dX1_lookedAt_80 : decode cX1_lookedAt 80 = .ok (.if_icmp .ge 48, 3) := zd_at zo_cX1_lookedAt_0 40 rfl
theorem dX1_lookedAt_83 : decode cX1_lookedAt 83 = .ok (.aload_n 0, 1) := zd_at zo_cX1_lookedAt_0 41 rfl
theorem dX1_lookedAt_84 : decode cX1_lookedAt 84 = .ok (.getfield 24, 3) := zd_at zo_cX1_lookedAt_0 42 rfl
theorem dX1_lookedAt_87 : decode cX1_lookedAt 87 = .ok (.iload 5, 2) := zd_at zo_cX1_lookedAt_0 43 rfl
theorem dX1_lookedAt_89 : decode cX1_lookedAt 89 = .ok (.iconst 5, 1) := zd_at zo_cX1_lookedAt_0 44 rfl
theorem dX1_lookedAt_90 : decode cX1_lookedAt 90 = .ok (.imul, 1) := zd_at zo_cX1_lookedAt_0 45 rfl
theorem dX1_lookedAt_91 : decode cX1_lookedAt 91 = .ok (.iload 7, 2) := zd_at zo_cX1_lookedAt_0 46 rfl
theorem dX1_lookedAt_93 : decode cX1_lookedAt 93 = .ok (.iadd, 1) := zd_at zo_cX1_lookedAt_0 47 rfl
theorem dX1_lookedAt_94 : decode cX1_lookedAt 94 = .ok (.invokestatic 70, 3) := zd_at zo_cX1_lookedAt_0 48 rfl
theorem dX1_lookedAt_97 : decode cX1_lookedAt 97 = .ok (.istore 8, 2) := zd_at zo_cX1_lookedAt_0 49 rfl
theorem dX1_lookedAt_99 : decode cX1_lookedAt 99 = .ok (.aload_n 0, 1) := zd_at zo_cX1_lookedAt_0 50 rfl
theorem dX1_lookedAt_100 : decode cX1_lookedAt 100 = .ok (.iload 8, 2) := zd_at zo_cX1_lookedAt_0 51 rfl
theorem dX1_lookedAt_102 : decode cX1_lookedAt 102 = .ok (.iload_n 1, 1) := zd_at zo_cX1_lookedAt_0 52 rfl
theorem dX1_lookedAt_103 : decode cX1_lookedAt 103 = .ok (.invokevirtual 156, 3) := zd_at zo_cX1_lookedAt_0 53 rfl
theorem dX1_lookedAt_106 : decode cX1_lookedAt 106 = .ok (.ifCond .le 16, 3) := zd_at zo_cX1_lookedAt_0 54 rfl
theorem dX1_lookedAt_109 : decode cX1_lookedAt 109 = .ok (.aload_n 0, 1) := zd_at zo_cX1_lookedAt_0 55 rfl
theorem dX1_lookedAt_110 : decode cX1_lookedAt 110 = .ok (.getfield 39, 3) := zd_at zo_cX1_lookedAt_0 56 rfl
theorem dX1_lookedAt_113 : decode cX1_lookedAt 113 = .ok (.iload_n 3, 1) := zd_at zo_cX1_lookedAt_0 57 rfl
theorem dX1_lookedAt_114 : decode cX1_lookedAt 114 = .ok (.iload 8, 2) := zd_at zo_cX1_lookedAt_0 58 rfl
theorem dX1_lookedAt_116 : decode cX1_lookedAt 116 = .ok (.invokestatic 45, 3) := zd_at zo_cX1_lookedAt_0 59 rfl
theorem dX1_lookedAt_119 : decode cX1_lookedAt 119 = .ok (.iinc 3 1, 3) := zd_at zo_cX1_lookedAt_0 60 rfl
theorem dX1_lookedAt_122 : decode cX1_lookedAt 122 = .ok (.iinc 7 1, 3) := zd_at zo_cX1_lookedAt_0 61 rfl
theorem dX1_lookedAt_125 : decode cX1_lookedAt 125 = .ok (.goto (-49), 3) := zd_at zo_cX1_lookedAt_0 62 rfl
theorem dX1_lookedAt_128 : decode cX1_lookedAt 128 = .ok (.iinc 4 1, 3) := zd_at zo_cX1_lookedAt_0 63 rfl
theorem dX1_lookedAt_131 : decode cX1_lookedAt 131 = .ok (.goto (-112), 3) := zd_at zo_cX1_lookedAt_0 64 rfl
theorem dX1_lookedAt_134 : decode cX1_lookedAt 134 = .ok (.iload_n 2, 1) := zd_at zo_cX1_lookedAt_0 65 rfl
theorem dX1_lookedAt_135 : decode cX1_lookedAt 135 = .ok (.ireturn, 1) := zd_at zo_cX1_lookedAt_0 66 rfl
def zl_cX1_ranked_0 : List (Nat × Instr × Nat) := [(0, .iconst 0, 1), (1, .istore 4, 2), (3, .iload 4, 2), (5, .bipush 24, 2), (7, .if_icmp .ge 33, 3), (10, .aload_n 0, 1), (11, .iload 4, 2), (13, .invokevirtual 159, 3), (16, .ifCond .eq 18, 3), (19, .aload_n 0, 1), (20, .iload 4, 2), (22, .iload_n 1, 1), (23, .iload_n 2, 1), (24, .invokevirtual 163, 3), (27, .iload_n 3, 1), (28, .if_icmp .ne 6, 3), (31, .iload 4, 2), (33, .ireturn, 1), (34, .iinc 4 1, 3), (37, .goto (-34), 3), (40, .iconst (-1), 1), (41, .ireturn, 1)]
theorem zo_cX1_ranked_0 : zd_ok cX1_ranked zl_cX1_ranked_0 = true := by decide +kernel
theorem dX1_ranked_0 : decode cX1_ranked 0 = .ok (.iconst 0, 1) := zd_at zo_cX1_ranked_0 0 rfl
theorem dX1_ranked_1 : decode cX1_ranked 1 = .ok (.istore 4, 2) := zd_at zo_cX1_ranked_0 1 rfl
theorem dX1_ranked_3 : decode cX1_ranked 3 = .ok (.iload 4, 2) := zd_at zo_cX1_ranked_0 2 rfl
theorem dX1_ranked_5 : decode cX1_ranked 5 = .ok (.bipush 24, 2) := zd_at zo_cX1_ranked_0 3 rfl
theorem dX1_ranked_7 : decode cX1_ranked 7 = .ok (.if_icmp .ge 33, 3) := zd_at zo_cX1_ranked_0 4 rfl
theorem dX1_ranked_10 : decode cX1_ranked 10 = .ok (.aload_n 0, 1) := zd_at zo_cX1_ranked_0 5 rfl
theorem dX1_ranked_11 : decode cX1_ranked 11 = .ok (.iload 4, 2) := zd_at zo_cX1_ranked_0 6 rfl
theorem dX1_ranked_13 : decode cX1_ranked 13 = .ok (.invokevirtual 159, 3) := zd_at zo_cX1_ranked_0 7 rfl
theorem dX1_ranked_16 : decode cX1_ranked 16 = .ok (.ifCond .eq 18, 3) := zd_at zo_cX1_ranked_0 8 rfl
theorem dX1_ranked_19 : decode cX1_ranked 19 = .ok (.aload_n 0, 1) := zd_at zo_cX1_ranked_0 9 rfl
theorem dX1_ranked_20 : decode cX1_ranked 20 = .ok (.iload 4, 2) := zd_at zo_cX1_ranked_0 10 rfl
theorem dX1_ranked_22 : decode cX1_ranked 22 = .ok (.iload_n 1, 1) := zd_at zo_cX1_ranked_0 11 rfl
theorem dX1_ranked_23 : decode cX1_ranked 23 = .ok (.iload_n 2, 1) := zd_at zo_cX1_ranked_0 12 rfl
theorem dX1_ranked_24 : decode cX1_ranked 24 = .ok (.invokevirtual 163, 3) := zd_at zo_cX1_ranked_0 13 rfl
theorem dX1_ranked_27 : decode cX1_ranked 27 = .ok (.iload_n 3, 1) := zd_at zo_cX1_ranked_0 14 rfl
theorem dX1_ranked_28 : decode cX1_ranked 28 = .ok (.if_icmp .ne 6, 3) := zd_at zo_cX1_ranked_0 15 rfl
theorem dX1_ranked_31 : decode cX1_ranked 31 = .ok (.iload 4, 2) := zd_at zo_cX1_ranked_0 16 rfl
theorem dX1_ranked_33 : decode cX1_ranked 33 = .ok (.ireturn, 1) := zd_at zo_cX1_ranked_0 17 rfl
theorem dX1_ranked_34 : decode cX1_ranked 34 = .ok (.iinc 4 1, 3) := zd_at zo_cX1_ranked_0 18 rfl
theorem dX1_ranked_37 : decode cX1_ranked 37 = .ok (.goto (-34), 3) := zd_at zo_cX1_ranked_0 19 rfl
theorem dX1_ranked_40 : decode cX1_ranked 40 = .ok (.iconst (-1), 1) := zd_at zo_cX1_ranked_0 20 rfl
theorem dX1_ranked_41 : decode cX1_ranked 41 = .ok (.ireturn, 1) := zd_at zo_cX1_ranked_0 21 rfl
def zl_cX1_countNearer_0 : List (Nat × Instr × Nat) := [(0, .aload_n 0, 1), (1, .iload_n 1, 1), (2, .iload_n 2, 1), (3, .iload_n 3, 1), (4, .invokevirtual 167, 3), (7, .istore 4, 2), (9, .iconst 0, 1), (10, .istore 5, 2), (12, .iconst 0, 1), (13, .istore 6, 2), (15, .iload 6, 2), (17, .bipush 24, 2), (19, .if_icmp .ge 51, 3), (22, .aload_n 0, 1), (23, .iload 6, 2), (25, .invokevirtual 159, 3), (28, .ifCond .eq 36, 3), (31, .aload_n 0, 1), (32, .iload 6, 2), (34, .iload_n 2, 1), (35, .iload_n 3, 1), (36, .invokevirtual 167, 3), (39, .istore 7, 2), (41, .iload 7, 2), (43, .iload 4, 2), (45, .if_icmp .lt 16, 3), (48, .iload 7, 2), (50, .iload 4, 2), (52, .if_icmp .ne 12, 3), (55, .iload 6, 2), (57, .iload_n 1, 1), (58, .if_icmp .ge 6, 3), (61, .iinc 5 1, 3), (64, .iinc 6 1, 3), (67, .goto (-52), 3), (70, .iload 5, 2), (72, .ireturn, 1)]
theorem zo_cX1_countNearer_0 : zd_ok cX1_countNearer zl_cX1_countNearer_0 = true := by decide +kernel
theorem dX1_countNearer_0 : decode cX1_countNearer 0 = .ok (.aload_n 0, 1) := zd_at zo_cX1_countNearer_0 0 rfl
theorem dX1_countNearer_1 : decode cX1_countNearer 1 = .ok (.iload_n 1, 1) := zd_at zo_cX1_countNearer_0 1 rfl
theorem dX1_countNearer_2 : decode cX1_countNearer 2 = .ok (.iload_n 2, 1) := zd_at zo_cX1_countNearer_0 2 rfl
theorem dX1_countNearer_3 : decode cX1_countNearer 3 = .ok (.iload_n 3, 1) := zd_at zo_cX1_countNearer_0 3 rfl
theorem dX1_countNearer_4 : decode cX1_countNearer 4 = .ok (.invokevirtual 167, 3) := zd_at zo_cX1_countNearer_0 4 rfl
theorem dX1_countNearer_7 : decode cX1_countNearer 7 = .ok (.istore 4, 2) := zd_at zo_cX1_countNearer_0 5 rfl
theorem dX1_countNearer_9 : decode cX1_countNearer 9 = .ok (.iconst 0, 1) := zd_at zo_cX1_countNearer_0 6 rfl
theorem dX1_countNearer_10 : decode cX1_countNearer 10 = .ok (.istore 5, 2) := zd_at zo_cX1_countNearer_0 7 rfl
theorem dX1_countNearer_12 : decode cX1_countNearer 12 = .ok (.iconst 0, 1) := zd_at zo_cX1_countNearer_0 8 rfl
theorem dX1_countNearer_13 : decode cX1_countNearer 13 = .ok (.istore 6, 2) := zd_at zo_cX1_countNearer_0 9 rfl
theorem dX1_countNearer_15 : decode cX1_countNearer 15 = .ok (.iload 6, 2) := zd_at zo_cX1_countNearer_0 10 rfl
theorem dX1_countNearer_17 : decode cX1_countNearer 17 = .ok (.bipush 24, 2) := zd_at zo_cX1_countNearer_0 11 rfl
theorem dX1_countNearer_19 : decode cX1_countNearer 19 = .ok (.if_icmp .ge 51, 3) := zd_at zo_cX1_countNearer_0 12 rfl
theorem dX1_countNearer_22 : decode cX1_countNearer 22 = .ok (.aload_n 0, 1) := zd_at zo_cX1_countNearer_0 13 rfl
theorem dX1_countNearer_23 : decode cX1_countNearer 23 = .ok (.iload 6, 2) := zd_at zo_cX1_countNearer_0 14 rfl
theorem dX1_countNearer_25 : decode cX1_countNearer 25 = .ok (.invokevirtual 159, 3) := zd_at zo_cX1_countNearer_0 15 rfl
theorem dX1_countNearer_28 : decode cX1_countNearer 28 = .ok (.ifCond .eq 36, 3) := zd_at zo_cX1_countNearer_0 16 rfl
theorem dX1_countNearer_31 : decode cX1_countNearer 31 = .ok (.aload_n 0, 1) := zd_at zo_cX1_countNearer_0 17 rfl
theorem dX1_countNearer_32 : decode cX1_countNearer 32 = .ok (.iload 6, 2) := zd_at zo_cX1_countNearer_0 18 rfl
theorem dX1_countNearer_34 : decode cX1_countNearer 34 = .ok (.iload_n 2, 1) := zd_at zo_cX1_countNearer_0 19 rfl
theorem dX1_countNearer_35 : decode cX1_countNearer 35 = .ok (.iload_n 3, 1) := zd_at zo_cX1_countNearer_0 20 rfl
theorem dX1_countNearer_36 : decode cX1_countNearer 36 = .ok (.invokevirtual 167, 3) := zd_at zo_cX1_countNearer_0 21 rfl
theorem dX1_countNearer_39 : decode cX1_countNearer 39 = .ok (.istore 7, 2) := zd_at zo_cX1_countNearer_0 22 rfl
theorem dX1_countNearer_41 : decode cX1_countNearer 41 = .ok (.iload 7, 2) := zd_at zo_cX1_countNearer_0 23 rfl
theorem dX1_countNearer_43 : decode cX1_countNearer 43 = .ok (.iload 4, 2) := zd_at zo_cX1_countNearer_0 24 rfl
theorem dX1_countNearer_45 : decode cX1_countNearer 45 = .ok (.if_icmp .lt 16, 3) := zd_at zo_cX1_countNearer_0 25 rfl
theorem dX1_countNearer_48 : decode cX1_countNearer 48 = .ok (.iload 7, 2) := zd_at zo_cX1_countNearer_0 26 rfl
theorem dX1_countNearer_50 : decode cX1_countNearer 50 = .ok (.iload 4, 2) := zd_at zo_cX1_countNearer_0 27 rfl
theorem dX1_countNearer_52 : decode cX1_countNearer 52 = .ok (.if_icmp .ne 12, 3) := zd_at zo_cX1_countNearer_0 28 rfl
theorem dX1_countNearer_55 : decode cX1_countNearer 55 = .ok (.iload 6, 2) := zd_at zo_cX1_countNearer_0 29 rfl
theorem dX1_countNearer_57 : decode cX1_countNearer 57 = .ok (.iload_n 1, 1) := zd_at zo_cX1_countNearer_0 30 rfl
theorem dX1_countNearer_58 : decode cX1_countNearer 58 = .ok (.if_icmp .ge 6, 3) := zd_at zo_cX1_countNearer_0 31 rfl
theorem dX1_countNearer_61 : decode cX1_countNearer 61 = .ok (.iinc 5 1, 3) := zd_at zo_cX1_countNearer_0 32 rfl
theorem dX1_countNearer_64 : decode cX1_countNearer 64 = .ok (.iinc 6 1, 3) := zd_at zo_cX1_countNearer_0 33 rfl
theorem dX1_countNearer_67 : decode cX1_countNearer 67 = .ok (.goto (-52), 3) := zd_at zo_cX1_countNearer_0 34 rfl
theorem dX1_countNearer_70 : decode cX1_countNearer 70 = .ok (.iload 5, 2) := zd_at zo_cX1_countNearer_0 35 rfl
theorem dX1_countNearer_72 : decode cX1_countNearer 72 = .ok (.ireturn, 1) := zd_at zo_cX1_countNearer_0 36 rfl
def zl_cX2_init_0 : List (Nat × Instr × Nat) := [(0, .aload_n 0, 1), (1, .invokespecial 3, 3), (4, .aload_n 0, 1), (5, .new 9, 3), (8, .dup, 1), (9, .invokespecial 11, 3), (12, .putfield 12, 3), (15, .aload_n 0, 1), (16, .new 9, 3), (19, .dup, 1), (20, .invokespecial 11, 3), (23, .putfield 16, 3), (26, .aload_n 0, 1), (27, .bipush 14, 2), (29, .anewarray 9, 3), (32, .putfield 19, 3), (35, .iconst 0, 1), (36, .istore_n 1, 1), (37, .iload_n 1, 1), (38, .aload_n 0, 1), (39, .getfield 19, 3), (42, .arraylength, 1), (43, .if_icmp .ge 22, 3), (46, .aload_n 0, 1), (47, .getfield 19, 3), (50, .iload_n 1, 1), (51, .new 9, 3), (54, .dup, 1), (55, .invokespecial 11, 3), (58, .aastore, 1), (59, .iinc 1 1, 3), (62, .goto (-25), 3), (65, .aload_n 0, 1), (66, .iconst 2, 1), (67, .anewarray 9, 3), (70, .putfield 23, 3), (73, .iconst 0, 1), (74, .istore_n 1, 1), (75, .iload_n 1, 1), (76, .aload_n 0, 1), (77, .getfield 23, 3), (80, .arraylength, 1), (81, .if_icmp .ge 22, 3), (84, .aload_n 0, 1), (85, .getfield 23, 3), (88, .iload_n 1, 1), (89, .new 9, 3), (92, .dup, 1), (93, .invokespecial 11, 3), (96, .aastore, 1), (97, .iinc 1 1, 3), (100, .goto (-25), 3), (103, .aload_n 0, 1), (104, .iconst 2, 1), (105, .newarray .int, 2), (107, .putfield 26, 3), (110, .aload_n 0, 1), (111, .new 30, 3), (114, .dup, 1), (115, .invokespecial 32, 3), (118, .putfield 33, 3), (121, .return_, 1)]
theorem zo_cX2_init_0 : zd_ok cX2_init zl_cX2_init_0 = true := by decide +kernel
theorem dX2_init_0 : decode cX2_init 0 = .ok (.aload_n 0, 1) := zd_at zo_cX2_init_0 0 rfl
theorem dX2_init_1 : decode cX2_init 1 = .ok (.invokespecial 3, 3) := zd_at zo_cX2_init_0 1 rfl
theorem dX2_init_4 : decode cX2_init 4 = .ok (.aload_n 0, 1) := zd_at zo_cX2_init_0 2 rfl
theorem dX2_init_5 : decode cX2_init 5 = .ok (.new 9, 3) := zd_at zo_cX2_init_0 3 rfl
theorem dX2_init_8 : decode cX2_init 8 = .ok (.dup, 1) := zd_at zo_cX2_init_0 4 rfl
theorem dX2_init_9 : decode cX2_init 9 = .ok (.invokespecial 11, 3) := zd_at zo_cX2_init_0 5 rfl
theorem dX2_init_12 : decode cX2_init 12 = .ok (.putfield 12, 3) := zd_at zo_cX2_init_0 6 rfl
theorem dX2_init_15 : decode cX2_init 15 = .ok (.aload_n 0, 1) := zd_at zo_cX2_init_0 7 rfl
theorem dX2_init_16 : decode cX2_init 16 = .ok (.new 9, 3) := zd_at zo_cX2_init_0 8 rfl
theorem dX2_init_19 : decode cX2_init 19 = .ok (.dup, 1) := zd_at zo_cX2_init_0 9 rfl
theorem dX2_init_20 : decode cX2_init 20 = .ok (.invokespecial 11, 3) := zd_at zo_cX2_init_0 10 rfl
theorem dX2_init_23 : decode cX2_init 23 = .ok (.putfield 16, 3) := zd_at zo_cX2_init_0 11 rfl
theorem dX2_init_26 : decode cX2_init 26 = .ok (.aload_n 0, 1) := zd_at zo_cX2_init_0 12 rfl
theorem dX2_init_27 : decode cX2_init 27 = .ok (.bipush 14, 2) := zd_at zo_cX2_init_0 13 rfl
theorem dX2_init_29 : decode cX2_init 29 = .ok (.anewarray 9, 3) := zd_at zo_cX2_init_0 14 rfl
theorem dX2_init_32 : decode cX2_init 32 = .ok (.putfield 19, 3) := zd_at zo_cX2_init_0 15 rfl
theorem dX2_init_35 : decode cX2_init 35 = .ok (.iconst 0, 1) := zd_at zo_cX2_init_0 16 rfl
theorem dX2_init_36 : decode cX2_init 36 = .ok (.istore_n 1, 1) := zd_at zo_cX2_init_0 17 rfl
theorem dX2_init_37 : decode cX2_init 37 = .ok (.iload_n 1, 1) := zd_at zo_cX2_init_0 18 rfl
theorem dX2_init_38 : decode cX2_init 38 = .ok (.aload_n 0, 1) := zd_at zo_cX2_init_0 19 rfl
theorem dX2_init_39 : decode cX2_init 39 = .ok (.getfield 19, 3) := zd_at zo_cX2_init_0 20 rfl
theorem dX2_init_42 : decode cX2_init 42 = .ok (.arraylength, 1) := zd_at zo_cX2_init_0 21 rfl
theorem dX2_init_43 : decode cX2_init 43 = .ok (.if_icmp .ge 22, 3) := zd_at zo_cX2_init_0 22 rfl
theorem dX2_init_46 : decode cX2_init 46 = .ok (.aload_n 0, 1) := zd_at zo_cX2_init_0 23 rfl
theorem dX2_init_47 : decode cX2_init 47 = .ok (.getfield 19, 3) := zd_at zo_cX2_init_0 24 rfl
theorem dX2_init_50 : decode cX2_init 50 = .ok (.iload_n 1, 1) := zd_at zo_cX2_init_0 25 rfl
theorem dX2_init_51 : decode cX2_init 51 = .ok (.new 9, 3) := zd_at zo_cX2_init_0 26 rfl
theorem dX2_init_54 : decode cX2_init 54 = .ok (.dup, 1) := zd_at zo_cX2_init_0 27 rfl
theorem dX2_init_55 : decode cX2_init 55 = .ok (.invokespecial 11, 3) := zd_at zo_cX2_init_0 28 rfl
theorem dX2_init_58 : decode cX2_init 58 = .ok (.aastore, 1) := zd_at zo_cX2_init_0 29 rfl
theorem dX2_init_59 : decode cX2_init 59 = .ok (.iinc 1 1, 3) := zd_at zo_cX2_init_0 30 rfl
theorem dX2_init_62 : decode cX2_init 62 = .ok (.goto (-25), 3) := zd_at zo_cX2_init_0 31 rfl
theorem dX2_init_65 : decode cX2_init 65 = .ok (.aload_n 0, 1) := zd_at zo_cX2_init_0 32 rfl
theorem dX2_init_66 : decode cX2_init 66 = .ok (.iconst 2, 1) := zd_at zo_cX2_init_0 33 rfl
theorem dX2_init_67 : decode cX2_init 67 = .ok (.anewarray 9, 3) := zd_at zo_cX2_init_0 34 rfl
theorem dX2_init_70 : decode cX2_init 70 = .ok (.putfield 23, 3) := zd_at zo_cX2_init_0 35 rfl
theorem dX2_init_73 : decode cX2_init 73 = .ok (.iconst 0, 1) := zd_at zo_cX2_init_0 36 rfl
theorem dX2_init_74 : decode cX2_init 74 = .ok (.istore_n 1, 1) := zd_at zo_cX2_init_0 37 rfl
theorem dX2_init_75 : decode cX2_init 75 = .ok (.iload_n 1, 1) := zd_at zo_cX2_init_0 38 rfl
theorem dX2_init_76 : decode cX2_init 76 = .ok (.aload_n 0, 1) := zd_at zo_cX2_init_0 39 rfl
theorem dX2_init_77 : decode cX2_init 77 = .ok (.getfield 23, 3) := zd_at zo_cX2_init_0 40 rfl
theorem dX2_init_80 : decode cX2_init 80 = .ok (.arraylength, 1) := zd_at zo_cX2_init_0 41 rfl
theorem dX2_init_81 : decode cX2_init 81 = .ok (.if_icmp .ge 22, 3) := zd_at zo_cX2_init_0 42 rfl
theorem dX2_init_84 : decode cX2_init 84 = .ok (.aload_n 0, 1) := zd_at zo_cX2_init_0 43 rfl
theorem dX2_init_85 : decode cX2_init 85 = .ok (.getfield 23, 3) := zd_at zo_cX2_init_0 44 rfl
theorem dX2_init_88 : decode cX2_init 88 = .ok (.iload_n 1, 1) := zd_at zo_cX2_init_0 45 rfl
theorem dX2_init_89 : decode cX2_init 89 = .ok (.new 9, 3) := zd_at zo_cX2_init_0 46 rfl
theorem dX2_init_92 : decode cX2_init 92 = .ok (.dup, 1) := zd_at zo_cX2_init_0 47 rfl
theorem dX2_init_93 : decode cX2_init 93 = .ok (.invokespecial 11, 3) := zd_at zo_cX2_init_0 48 rfl
theorem dX2_init_96 : decode cX2_init 96 = .ok (.aastore, 1) := zd_at zo_cX2_init_0 49 rfl
theorem dX2_init_97 : decode cX2_init 97 = .ok (.iinc 1 1, 3) := zd_at zo_cX2_init_0 50 rfl
theorem dX2_init_100 : decode cX2_init 100 = .ok (.goto (-25), 3) := zd_at zo_cX2_init_0 51 rfl
theorem dX2_init_103 : decode cX2_init 103 = .ok (.aload_n 0, 1) := zd_at zo_cX2_init_0 52 rfl
theorem dX2_init_104 : decode cX2_init 104 = .ok (.iconst 2, 1) := zd_at zo_cX2_init_0 53 rfl
theorem dX2_init_105 : decode cX2_init 105 = .ok (.newarray .int, 2) := zd_at zo_cX2_init_0 54 rfl
theorem dX2_init_107 : decode cX2_init 107 = .ok (.putfield 26, 3) := zd_at zo_cX2_init_0 55 rfl
theorem dX2_init_110 : decode cX2_init 110 = .ok (.aload_n 0, 1) := zd_at zo_cX2_init_0 56 rfl
theorem dX2_init_111 : decode cX2_init 111 = .ok (.new 30, 3) := zd_at zo_cX2_init_0 57 rfl
theorem dX2_init_114 : decode cX2_init 114 = .ok (.dup, 1) := zd_at zo_cX2_init_0 58 rfl
theorem dX2_init_115 : decode cX2_init 115 = .ok (.invokespecial 32, 3) := zd_at zo_cX2_init_0 59 rfl
theorem dX2_init_118 : decode cX2_init 118 = .ok (.putfield 33, 3) := zd_at zo_cX2_init_0 60 rfl
theorem dX2_init_121 : decode cX2_init 121 = .ok (.return_, 1) := zd_at zo_cX2_init_0 61 rfl
