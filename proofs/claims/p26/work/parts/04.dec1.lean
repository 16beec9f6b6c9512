def zl_cX2_append_0 : List (Nat × Instr × Nat) := [(0, .iload_n 1, 1), (1, .ifCond .lt 10, 3), (4, .iload_n 1, 1), (5, .sipush 255, 3), (8, .if_icmp .le 13, 3), (11, .new 37, 3), (14, .dup, 1), (15, .ldc 39, 2), (17, .invokespecial 41, 3), (20, .athrow, 1), (21, .aload_n 0, 1), (22, .getfield 33, 3), (25, .getfield 44, 3), (28, .bipush 100, 2), (30, .if_icmp .lt 13, 3), (33, .new 48, 3), (36, .dup, 1), (37, .ldc 50, 2), (39, .invokespecial 52, 3), (42, .athrow, 1), (43, .aload_n 0, 1), (44, .getfield 33, 3), (47, .iload_n 1, 1), (48, .invokevirtual 53, 3), (51, .ireturn, 1)]
theorem zo_cX2_append_0 : zd_ok cX2_append zl_cX2_append_0 = true := by decide +kernel
theorem dX2_append_0 : decode cX2_append 0 = .ok (.iload_n 1, 1) := zd_at zo_cX2_append_0 0 rfl
theorem dX2_append_1 : decode cX2_append 1 = .ok (.ifCond .lt 10, 3) := zd_at zo_cX2_append_0 1 rfl
theorem dX2_append_4 : decode cX2_append 4 = .ok (.iload_n 1, 1) := zd_at zo_cX2_append_0 2 rfl
theorem dX2_append_5 : decode cX2_append 5 = .ok (.sipush 255, 3) := zd_at zo_cX2_append_0 3 rfl
theorem dX2_append_8 : decode cX2_append 8 = .ok (.if_icmp .le 13, 3) := zd_at zo_cX2_append_0 4 rfl
theorem dX2_append_11 : decode cX2_append 11 = .ok (.new 37, 3) := zd_at zo_cX2_append_0 5 rfl
theorem dX2_append_14 : decode cX2_append 14 = .ok (.dup, 1) := zd_at zo_cX2_append_0 6 rfl
theorem dX2_append_15 : decode cX2_append 15 = .ok (.ldc 39, 2) := zd_at zo_cX2_append_0 7 rfl
theorem dX2_append_17 : decode cX2_append 17 = .ok (.invokespecial 41, 3) := zd_at zo_cX2_append_0 8 rfl
theorem dX2_append_20 : decode cX2_append 20 = .ok (.athrow, 1) := zd_at zo_cX2_append_0 9 rfl
theorem dX2_append_21 : decode cX2_append 21 = .ok (.aload_n 0, 1) := zd_at zo_cX2_append_0 10 rfl
theorem dX2_append_22 : decode cX2_append 22 = .ok (.getfield 33, 3) := zd_at zo_cX2_append_0 11 rfl
theorem dX2_append_25 : decode cX2_append 25 = .ok (.getfield 44, 3) := zd_at zo_cX2_append_0 12 rfl
theorem dX2_append_28 : decode cX2_append 28 = .ok (.bipush 100, 2) := zd_at zo_cX2_append_0 13 rfl
theorem dX2_append_30 : decode cX2_append 30 = .ok (.if_icmp .lt 13, 3) := zd_at zo_cX2_append_0 14 rfl
theorem dX2_append_33 : decode cX2_append 33 = .ok (.new 48, 3) := zd_at zo_cX2_append_0 15 rfl
theorem dX2_append_36 : decode cX2_append 36 = .ok (.dup, 1) := zd_at zo_cX2_append_0 16 rfl
theorem dX2_append_37 : decode cX2_append 37 = .ok (.ldc 50, 2) := zd_at zo_cX2_append_0 17 rfl
theorem dX2_append_39 : decode cX2_append 39 = .ok (.invokespecial 52, 3) := zd_at zo_cX2_append_0 18 rfl
theorem dX2_append_42 : decode cX2_append 42 = .ok (.athrow, 1) := zd_at zo_cX2_append_0 19 rfl
theorem dX2_append_43 : decode cX2_append 43 = .ok (.aload_n 0, 1) := zd_at zo_cX2_append_0 20 rfl
theorem dX2_append_44 : decode cX2_append 44 = .ok (.getfield 33, 3) := zd_at zo_cX2_append_0 21 rfl
theorem dX2_append_47 : decode cX2_append 47 = .ok (.iload_n 1, 1) := zd_at zo_cX2_append_0 22 rfl
theorem dX2_append_48 : decode cX2_append 48 = .ok (.invokevirtual 53, 3) := zd_at zo_cX2_append_0 23 rfl
theorem dX2_append_51 : decode cX2_append 51 = .ok (.ireturn, 1) := zd_at zo_cX2_append_0 24 rfl
def zl_cX2_clearText_0 : List (Nat × Instr × Nat) := [(0, .aload_n 0, 1), (1, .getfield 33, 3), (4, .getfield 44, 3), (7, .istore_n 1, 1), (8, .aload_n 0, 1), (9, .getfield 33, 3), (12, .iconst 0, 1), (13, .putfield 44, 3), (16, .iload_n 1, 1), (17, .ireturn, 1)]
theorem zo_cX2_clearText_0 : zd_ok cX2_clearText zl_cX2_clearText_0 = true := by decide +kernel
theorem dX2_clearText_0 : decode cX2_clearText 0 = .ok (.aload_n 0, 1) := zd_at zo_cX2_clearText_0 0 rfl
theorem dX2_clearText_1 : decode cX2_clearText 1 = .ok (.getfield 33, 3) := zd_at zo_cX2_clearText_0 1 rfl
theorem dX2_clearText_4 : decode cX2_clearText 4 = .ok (.getfield 44, 3) := zd_at zo_cX2_clearText_0 2 rfl
theorem dX2_clearText_7 : decode cX2_clearText 7 = .ok (.istore_n 1, 1) := zd_at zo_cX2_clearText_0 3 rfl
theorem dX2_clearText_8 : decode cX2_clearText 8 = .ok (.aload_n 0, 1) := zd_at zo_cX2_clearText_0 4 rfl
theorem dX2_clearText_9 : decode cX2_clearText 9 = .ok (.getfield 33, 3) := zd_at zo_cX2_clearText_0 5 rfl
theorem dX2_clearText_12 : decode cX2_clearText 12 = .ok (.iconst 0, 1) := zd_at zo_cX2_clearText_0 6 rfl
theorem dX2_clearText_13 : decode cX2_clearText 13 = .ok (.putfield 44, 3) := zd_at zo_cX2_clearText_0 7 rfl
theorem dX2_clearText_16 : decode cX2_clearText 16 = .ok (.iload_n 1, 1) := zd_at zo_cX2_clearText_0 8 rfl
theorem dX2_clearText_17 : decode cX2_clearText 17 = .ok (.ireturn, 1) := zd_at zo_cX2_clearText_0 9 rfl
def zl_cX2_errorPosition_0 : List (Nat × Instr × Nat) := [(0, .aload_n 0, 1), (1, .getfield 33, 3), (4, .invokevirtual 57, 3), (7, .ireturn, 1)]
theorem zo_cX2_errorPosition_0 : zd_ok cX2_errorPosition zl_cX2_errorPosition_0 = true := by decide +kernel
theorem dX2_errorPosition_0 : decode cX2_errorPosition 0 = .ok (.aload_n 0, 1) := zd_at zo_cX2_errorPosition_0 0 rfl
theorem dX2_errorPosition_1 : decode cX2_errorPosition 1 = .ok (.getfield 33, 3) := zd_at zo_cX2_errorPosition_0 1 rfl
theorem dX2_errorPosition_4 : decode cX2_errorPosition 4 = .ok (.invokevirtual 57, 3) := zd_at zo_cX2_errorPosition_0 2 rfl
theorem dX2_errorPosition_7 : decode cX2_errorPosition 7 = .ok (.ireturn, 1) := zd_at zo_cX2_errorPosition_0 3 rfl
def zl_cX2_about_0 : List (Nat × Instr × Nat) := [(0, .iload_n 1, 1), (1, .tableswitch 118 0 7 #[47, 55, 63, 78, 86, 94, 102, 110], 47), (48, .aload_n 0, 1), (49, .getfield 12, 3), (52, .invokevirtual 61, 3), (55, .ireturn, 1), (56, .aload_n 0, 1), (57, .getfield 12, 3), (60, .invokevirtual 64, 3), (63, .ireturn, 1), (64, .aload_n 0, 1), (65, .getfield 12, 3), (68, .aload_n 0, 1), (69, .getfield 12, 3), (72, .getfield 67, 3), (75, .invokevirtual 70, 3), (78, .ireturn, 1), (79, .aload_n 0, 1), (80, .getfield 12, 3), (83, .invokevirtual 73, 3), (86, .ireturn, 1), (87, .aload_n 0, 1), (88, .getfield 12, 3), (91, .invokevirtual 76, 3), (94, .ireturn, 1), (95, .aload_n 0, 1), (96, .getfield 12, 3), (99, .getfield 79, 3), (102, .ireturn, 1), (103, .aload_n 0, 1), (104, .getfield 12, 3), (107, .getfield 82, 3), (110, .ireturn, 1), (111, .aload_n 0, 1), (112, .getfield 12, 3), (115, .getfield 85, 3), (118, .ireturn, 1), (119, .new 37, 3), (122, .dup, 1), (123, .ldc 88, 2), (125, .invokespecial 41, 3), (128, .athrow, 1)]
theorem zo_cX2_about_0 : zd_ok cX2_about zl_cX2_about_0 = true := by decide +kernel
theorem dX2_about_0 : decode cX2_about 0 = .ok (.iload_n 1, 1) := zd_at zo_cX2_about_0 0 rfl
theorem dX2_about_1 : decode cX2_about 1 = .ok (.tableswitch 118 0 7 #[47, 55, 63, 78, 86, 94, 102, 110], 47) := zd_at zo_cX2_about_0 1 rfl
theorem dX2_about_48 : decode cX2_about 48 = .ok (.aload_n 0, 1) := zd_at zo_cX2_about_0 2 rfl
theorem dX2_about_49 : decode cX2_about 49 = .ok (.getfield 12, 3) := zd_at zo_cX2_about_0 3 rfl
theorem dX2_about_52 : decode cX2_about 52 = .ok (.invokevirtual 61, 3) := zd_at zo_cX2_about_0 4 rfl
theorem dX2_about_55 : decode cX2_about 55 = .ok (.ireturn, 1) := zd_at zo_cX2_about_0 5 rfl
theorem dX2_about_56 : decode cX2_about 56 = .ok (.aload_n 0, 1) := zd_at zo_cX2_about_0 6 rfl
theorem dX2_about_57 : decode cX2_about 57 = .ok (.getfield 12, 3) := zd_at zo_cX2_about_0 7 rfl
theorem dX2_about_60 : decode cX2_about 60 = .ok (.invokevirtual 64, 3) := zd_at zo_cX2_about_0 8 rfl
theorem dX2_about_63 : decode cX2_about 63 = .ok (.ireturn, 1) := zd_at zo_cX2_about_0 9 rfl
theorem dX2_about_64 : decode cX2_about 64 = .ok (.aload_n 0, 1) := zd_at zo_cX2_about_0 10 rfl
theorem dX2_about_65 : decode cX2_about 65 = .ok (.getfield 12, 3) := zd_at zo_cX2_about_0 11 rfl
theorem dX2_about_68 : decode cX2_about 68 = .ok (.aload_n 0, 1) := zd_at zo_cX2_about_0 12 rfl
theorem dX2_about_69 : decode cX2_about 69 = .ok (.getfield 12, 3) := zd_at zo_cX2_about_0 13 rfl
theorem dX2_about_72 : decode cX2_about 72 = .ok (.getfield 67, 3) := zd_at zo_cX2_about_0 14 rfl
theorem dX2_about_75 : decode cX2_about 75 = .ok (.invokevirtual 70, 3) := zd_at zo_cX2_about_0 15 rfl
theorem dX2_about_78 : decode cX2_about 78 = .ok (.ireturn, 1) := zd_at zo_cX2_about_0 16 rfl
theorem dX2_about_79 : decode cX2_about 79 = .ok (.aload_n 0, 1) := zd_at zo_cX2_about_0 17 rfl
theorem dX2_about_80 : decode cX2_about 80 = .ok (.getfield 12, 3) := zd_at zo_cX2_about_0 18 rfl
theorem dX2_about_83 : decode cX2_about 83 = .ok (.invokevirtual 73, 3) := zd_at zo_cX2_about_0 19 rfl
theorem dX2_about_86 : decode cX2_about 86 = .ok (.ireturn, 1) := zd_at zo_cX2_about_0 20 rfl
theorem dX2_about_87 : decode cX2_about 87 = .ok (.aload_n 0, 1) := zd_at zo_cX2_about_0 21 rfl
theorem dX2_about_88 : decode cX2_about 88 = .ok (.getfield 12, 3) := zd_at zo_cX2_about_0 22 rfl
theorem dX2_about_91 : decode cX2_about 91 = .ok (.invokevirtual 76, 3) := zd_at zo_cX2_about_0 23 rfl
theorem dX2_about_94 : decode cX2_about 94 = .ok (.ireturn, 1) := zd_at zo_cX2_about_0 24 rfl
theorem dX2_about_95 : decode cX2_about 95 = .ok (.aload_n 0, 1) := zd_at zo_cX2_about_0 25 rfl
theorem dX2_about_96 : decode cX2_about 96 = .ok (.getfield 12, 3) := zd_at zo_cX2_about_0 26 rfl
theorem dX2_about_99 : decode cX2_about 99 = .ok (.getfield 79, 3) := zd_at zo_cX2_about_0 27 rfl
theorem dX2_about_102 : decode cX2_about 102 = .ok (.ireturn, 1) := zd_at zo_cX2_about_0 28 rfl
theorem dX2_about_103 : decode cX2_about 103 = .ok (.aload_n 0, 1) := zd_at zo_cX2_about_0 29 rfl
theorem dX2_about_104 : decode cX2_about 104 = .ok (.getfield 12, 3) := zd_at zo_cX2_about_0 30 rfl
theorem dX2_about_107 : decode cX2_about 107 = .ok (.getfield 82, 3) := zd_at zo_cX2_about_0 31 rfl
theorem dX2_about_110 : decode cX2_about 110 = .ok (.ireturn, 1) := zd_at zo_cX2_about_0 32 rfl
theorem dX2_about_111 : decode cX2_about 111 = .ok (.aload_n 0, 1) := zd_at zo_cX2_about_0 33 rfl
theorem dX2_about_112 : decode cX2_about 112 = .ok (.getfield 12, 3) := zd_at zo_cX2_about_0 34 rfl
theorem dX2_about_115 : decode cX2_about 115 = .ok (.getfield 85, 3) := zd_at zo_cX2_about_0 35 rfl
theorem dX2_about_118 : decode cX2_about 118 = .ok (.ireturn, 1) := zd_at zo_cX2_about_0 36 rfl
theorem dX2_about_119 : decode cX2_about 119 = .ok (.new 37, 3) := zd_at zo_cX2_about_0 37 rfl
theorem dX2_about_122 : decode cX2_about 122 = .ok (.dup, 1) := zd_at zo_cX2_about_0 38 rfl
theorem dX2_about_123 : decode cX2_about 123 = .ok (.ldc 88, 2) := zd_at zo_cX2_about_0 39 rfl
theorem dX2_about_125 : decode cX2_about 125 = .ok (.invokespecial 41, 3) := zd_at zo_cX2_about_0 40 rfl
theorem dX2_about_128 : decode cX2_about 128 = .ok (.athrow, 1) := zd_at zo_cX2_about_0 41 rfl
def zl_cX2_rectangle_0 : List (Nat × Instr × Nat) := [(0, .aload_n 0, 1), (1, .getfield 12, 3), (4, .iload_n 1, 1), (5, .invokevirtual 90, 3), (8, .ifCond .ne 13, 3), (11, .new 94, 3), (14, .dup, 1), (15, .ldc 96, 2), (17, .invokespecial 98, 3), (20, .athrow, 1), (21, .iload_n 2, 1), (22, .ifCond .lt 8, 3), (25, .iload_n 2, 1), (26, .iconst 4, 1), (27, .if_icmp .le 13, 3), (30, .new 37, 3), (33, .dup, 1), (34, .ldc 99, 2), (36, .invokespecial 41, 3), (39, .athrow, 1), (40, .iload_n 2, 1), (41, .iconst 4, 1), (42, .if_icmp .ne 21, 3), (45, .aload_n 0, 1), (46, .getfield 12, 3), (49, .aload_n 0, 1), (50, .getfield 12, 3), (53, .iload_n 1, 1), (54, .invokevirtual 101, 3), (57, .invokevirtual 104, 3), (60, .goto 12, 3), (63, .aload_n 0, 1), (64, .getfield 12, 3), (67, .iload_n 1, 1), (68, .iload_n 2, 1), (69, .invokevirtual 107, 3), (72, .ireturn, 1)]
theorem zo_cX2_rectangle_0 : zd_ok cX2_rectangle zl_cX2_rectangle_0 = true := by decide +kernel
theorem dX2_rectangle_0 : decode cX2_rectangle 0 = .ok (.aload_n 0, 1) := zd_at zo_cX2_rectangle_0 0 rfl
theorem dX2_rectangle_1 : decode cX2_rectangle 1 = .ok (.getfield 12, 3) := zd_at zo_cX2_rectangle_0 1 rfl
theorem dX2_rectangle_4 : decode cX2_rectangle 4 = .ok (.iload_n 1, 1) := zd_at zo_cX2_rectangle_0 2 rfl
theorem dX2_rectangle_5 : decode cX2_rectangle 5 = .ok (.invokevirtual 90, 3) := zd_at zo_cX2_rectangle_0 3 rfl
theorem dX2_rectangle_8 : decode cX2_rectangle 8 = .ok (.ifCond .ne 13, 3) := zd_at zo_cX2_rectangle_0 4 rfl
theorem dX2_rectangle_11 : decode cX2_rectangle 11 = .ok (.new 94, 3) := zd_at zo_cX2_rectangle_0 5 rfl
theorem dX2_rectangle_14 : decode cX2_rectangle 14 = .ok (.dup, 1) := zd_at zo_cX2_rectangle_0 6 rfl
theorem dX2_rectangle_15 : decode cX2_rectangle 15 = .ok (.ldc 96, 2) := zd_at zo_cX2_rectangle_0 7 rfl
theorem dX2_rectangle_17 : decode cX2_rectangle 17 = .ok (.invokespecial 98, 3) := zd_at zo_cX2_rectangle_0 8 rfl
theorem dX2_rectangle_20 : decode cX2_rectangle 20 = .ok (.athrow, 1) := zd_at zo_cX2_rectangle_0 9 rfl
theorem dX2_rectangle_21 : decode cX2_rectangle 21 = .ok (.iload_n 2, 1) := zd_at zo_cX2_rectangle_0 10 rfl
theorem dX2_rectangle_22 : decode cX2_rectangle 22 = .ok (.ifCond .lt 8, 3) := zd_at zo_cX2_rectangle_0 11 rfl
theorem dX2_rectangle_25 : decode cX2_rectangle 25 = .ok (.iload_n 2, 1) := zd_at zo_cX2_rectangle_0 12 rfl
theorem dX2_rectangle_26 : decode cX2_rectangle 26 = .ok (.iconst 4, 1) := zd_at zo_cX2_rectangle_0 13 rfl
theorem dX2_rectangle_27 : decode cX2_rectangle 27 = .ok (.if_icmp .le 13, 3) := zd_at zo_cX2_rectangle_0 14 rfl
theorem dX2_rectangle_30 : decode cX2_rectangle 30 = .ok (.new 37, 3) := zd_at zo_cX2_rectangle_0 15 rfl
theorem dX2_rectangle_33 : decode cX2_rectangle 33 = .ok (.dup, 1) := zd_at zo_cX2_rectangle_0 16 rfl
theorem dX2_rectangle_34 : decode cX2_rectangle 34 = .ok (.ldc 99, 2) := zd_at zo_cX2_rectangle_0 17 rfl
theorem dX2_rectangle_36 : decode cX2_rectangle 36 = .ok (.invokespecial 41, 3) := zd_at zo_cX2_rectangle_0 18 rfl
theorem dX2_rectangle_39 : decode cX2_rectangle 39 = .ok (.athrow, 1) := zd_at zo_cX2_rectangle_0 19 rfl
theorem dX2_rectangle_40 : decode cX2_rectangle 40 = .ok (.iload_n 2, 1) := zd_at zo_cX2_rectangle_0 20 rfl
theorem dX2_rectangle_41 : decode cX2_rectangle 41 = .ok (.iconst 4, 1) := zd_at zo_cX2_rectangle_0 21 rfl
theorem dX2_rectangle_42 : decode cX2_rectangle 42 = .ok (.if_icmp .ne 21, 3) := zd_at zo_cX2_rectangle_0 22 rfl
theorem dX2_rectangle_45 : decode cX2_rectangle 45 = .ok (.aload_n 0, 1) := zd_at zo_cX2_rectangle_0 23 rfl
theorem dX2_rectangle_46 : decode cX2_rectangle 46 = .ok (.getfield 12, 3) := zd_at zo_cX2_rectangle_0 24 rfl
theorem dX2_rectangle_49 : decode cX2_rectangle 49 = .ok (.aload_n 0, 1) := zd_at zo_cX2_rectangle_0 25 rfl
theorem dX2_rectangle_50 : decode cX2_rectangle 50 = .ok (.getfield 12, 3) := zd_at zo_cX2_rectangle_0 26 rfl
theorem dX2_rectangle_53 : decode cX2_rectangle 53 = .ok (.iload_n 1, 1) := zd_at zo_cX2_rectangle_0 27 rfl
theorem dX2_rectangle_54 : decode cX2_rectangle 54 = .ok (.invokevirtual 101, 3) := zd_at zo_cX2_rectangle_0 28 rfl
theorem dX2_rectangle_57 : decode cX2_rectangle 57 = .ok (.invokevirtual 104, 3) := zd_at zo_cX2_rectangle_0 29 rfl
theorem dX2_rectangle_60 : decode cX2_rectangle 60 = .ok (.goto 12, 3) := zd_at zo_cX2_rectangle_0 30 rfl
theorem dX2_rectangle_63 : decode cX2_rectangle 63 = .ok (.aload_n 0, 1) := zd_at zo_cX2_rectangle_0 31 rfl
theorem dX2_rectangle_64 : decode cX2_rectangle 64 = .ok (.getfield 12, 3) := zd_at zo_cX2_rectangle_0 32 rfl
theorem dX2_rectangle_67 : decode cX2_rectangle 67 = .ok (.iload_n 1, 1) := zd_at zo_cX2_rectangle_0 33 rfl
theorem dX2_rectangle_68 : decode cX2_rectangle 68 = .ok (.iload_n 2, 1) := zd_at zo_cX2_rectangle_0 34 rfl
theorem dX2_rectangle_69 : decode cX2_rectangle 69 = .ok (.invokevirtual 107, 3) := zd_at zo_cX2_rectangle_0 35 rfl
theorem dX2_rectangle_72 : decode cX2_rectangle 72 = .ok (.ireturn, 1) := zd_at zo_cX2_rectangle_0 36 rfl
def zl_cX2_node_0 : List (Nat × Instr × Nat) := [(0, .aload_n 0, 1), (1, .getfield 12, 3), (4, .iload_n 1, 1), (5, .invokevirtual 111, 3), (8, .istore_n 3, 1), (9, .iload_n 3, 1), (10, .iconst (-1), 1), (11, .if_icmp .ne 13, 3), (14, .new 94, 3), (17, .dup, 1), (18, .ldc 114, 2), (20, .invokespecial 98, 3), (23, .athrow, 1), (24, .iload_n 2, 1), (25, .ifCond .lt 9, 3), (28, .iload_n 2, 1), (29, .bipush 6, 2), (31, .if_icmp .le 13, 3), (34, .new 37, 3), (37, .dup, 1), (38, .ldc 116, 2), (40, .invokespecial 41, 3), (43, .athrow, 1), (44, .iload_n 2, 1), (45, .ifCond .ne 12, 3), (48, .aload_n 0, 1), (49, .getfield 12, 3), (52, .iload_n 3, 1), (53, .invokevirtual 70, 3), (56, .ireturn, 1), (57, .iload_n 2, 1), (58, .iconst 1, 1), (59, .if_icmp .ne 12, 3), (62, .aload_n 0, 1), (63, .getfield 12, 3), (66, .iload_n 3, 1), (67, .invokevirtual 118, 3), (70, .ireturn, 1), (71, .iload_n 2, 1), (72, .bipush 6, 2), (74, .if_icmp .ne 19, 3), (77, .aload_n 0, 1), (78, .getfield 12, 3), (81, .aload_n 0, 1), (82, .getfield 12, 3), (85, .iload_n 3, 1), (86, .invokevirtual 101, 3), (89, .invokevirtual 104, 3), (92, .ireturn, 1), (93, .aload_n 0, 1), (94, .getfield 12, 3), (97, .iload_n 3, 1), (98, .invokevirtual 118, 3), (101, .ifCond .ne 7, 3), (104, .iconst (-1), 1), (105, .goto 14, 3), (108, .aload_n 0, 1), (109, .getfield 12, 3), (112, .iload_n 3, 1), (113, .iload_n 2, 1), (114, .iconst 2, 1), (115, .isub, 1), (116, .invokevirtual 107, 3), (119, .ireturn, 1)]
theorem zo_cX2_node_0 : zd_ok cX2_node zl_cX2_node_0 = true := by decide +kernel
theorem dX2_node_0 : decode cX2_node 0 = .ok (.aload_n 0, 1) := zd_at zo_cX2_node_0 0 rfl
theorem dX2_node_1 : decode cX2_node 1 = .ok (.getfield 12, 3) := zd_at zo_cX2_node_0 1 rfl
theorem dX2_node_4 : decode cX2_node 4 = .ok (.iload_n 1, 1) := zd_at zo_cX2_node_0 2 rfl
theorem dX2_node_5 : decode cX2_node 5 = .ok (.invokevirtual 111, 3) := zd_at zo_cX2_node_0 3 rfl
theorem dX2_node_8 : decode cX2_node 8 = .ok (.istore_n 3, 1) := zd_at zo_cX2_node_0 4 rfl
theorem dX2_node_9 : decode cX2_node 9 = .ok (.iload_n 3, 1) := zd_at zo_cX2_node_0 5 rfl
theorem dX2_node_10 : decode cX2_node 10 = .ok (.iconst (-1), 1) := zd_at zo_cX2_node_0 6 rfl
theorem dX2_node_11 : decode cX2_node 11 = .ok (.if_icmp .ne 13, 3) := zd_at zo_cX2_node_0 7 rfl
theorem dX2_node_14 : decode cX2_node 14 = .ok (.new 94, 3) := zd_at zo_cX2_node_0 8 rfl
theorem dX2_node_17 : decode cX2_node 17 = .ok (.dup, 1) := zd_at zo_cX2_node_0 9 rfl
theorem dX2_node_18 : decode cX2_node 18 = .ok (.ldc 114, 2) := zd_at zo_cX2_node_0 10 rfl
theorem dX2_node_20 : decode cX2_node 20 = .ok (.invokespecial 98, 3) := zd_at zo_cX2_node_0 11 rfl
theorem dX2_node_23 : decode cX2_node 23 = .ok (.athrow, 1) := zd_at zo_cX2_node_0 12 rfl
theorem dX2_node_24 : decode cX2_node 24 = .ok (.iload_n 2, 1) := zd_at zo_cX2_node_0 13 rfl
theorem dX2_node_25 : decode cX2_node 25 = .ok (.ifCond .lt 9, 3) := zd_at zo_cX2_node_0 14 rfl
theorem dX2_node_28 : decode cX2_node 28 = .ok (.iload_n 2, 1) := zd_at zo_cX2_node_0 15 rfl
theorem dX2_node_29 : decode cX2_node 29 = .ok (.bipush 6, 2) := zd_at zo_cX2_node_0 16 rfl
theorem dX2_node_31 : decode cX2_node 31 = .ok (.if_icmp .le 13, 3) := zd_at zo_cX2_node_0 17 rfl
theorem dX2_node_34 : decode cX2_node 34 = .ok (.new 37, 3) := zd_at zo_cX2_node_0 18 rfl
theorem dX2_node_37 : decode cX2_node 37 = .ok (.dup, 1) := zd_at zo_cX2_node_0 19 rfl
theorem dX2_node_38 : decode cX2_node 38 = .ok (.ldc 116, 2) := zd_at zo_cX2_node_0 20 rfl
theorem dX2_node_40 : decode cX2_node 40 = .ok (.invokespecial 41, 3) := zd_at zo_cX2_node_0 21 rfl
theorem dX2_node_43 : decode cX2_node 43 = .ok (.athrow, 1) := zd_at zo_cX2_node_0 22 rfl
theorem dX2_node_44 : decode cX2_node 44 = .ok (.iload_n 2, 1) := zd_at zo_cX2_node_0 23 rfl
theorem dX2_node_45 : decode cX2_node 45 = .ok (.ifCond .ne 12, 3) := zd_at zo_cX2_node_0 24 rfl
theorem dX2_node_48 : decode cX2_node 48 = .ok (.aload_n 0, 1) := zd_at zo_cX2_node_0 25 rfl
theorem dX2_node_49 : decode cX2_node 49 = .ok (.getfield 12, 3) := zd_at zo_cX2_node_0 26 rfl
theorem dX2_node_52 : decode cX2_node 52 = .ok (.iload_n 3, 1) := zd_at zo_cX2_node_0 27 rfl
theorem dX2_node_53 : decode cX2_node 53 = .ok (.invokevirtual 70, 3) := zd_at zo_cX2_node_0 28 rfl
theorem dX2_node_56 : decode cX2_node 56 = .ok (.ireturn, 1) := zd_at zo_cX2_node_0 29 rfl
theorem dX2_node_57 : decode cX2_node 57 = .ok (.iload_n 2, 1) := zd_at zo_cX2_node_0 30 rfl
theorem dX2_node_58 : decode cX2_node 58 = .ok (.iconst 1, 1) := zd_at zo_cX2_node_0 31 rfl
theorem dX2_node_59 : decode cX2_node 59 = .ok (.if_icmp .ne 12, 3) := zd_at zo_cX2_node_0 32 rfl
theorem dX2_node_62 : decode cX2_node 62 = .ok (.aload_n 0, 1) := zd_at zo_cX2_node_0 33 rfl
theorem dX2_node_63 : decode cX2_node 63 = .ok (.getfield 12, 3) := zd_at zo_cX2_node_0 34 rfl
theorem dX2_node_66 : decode cX2_node 66 = .ok (.iload_n 3, 1) := zd_at zo_cX2_node_0 35 rfl
theorem dX2_node_67 : decode cX2_node 67 = .ok (.invokevirtual 118, 3) := zd_at zo_cX2_node_0 36 rfl
theorem dX2_node_70 : decode cX2_node 70 = .ok (.ireturn, 1) := zd_at zo_cX2_node_0 37 rfl
theorem dX2_node_71 : decode cX2_node 71 = .ok (.iload_n 2, 1) := zd_at zo_cX2_node_0 38 rfl
theorem dX2_node_72 : decode cX2_node 72 = .ok (.bipush 6, 2) := zd_at zo_cX2_node_0 39 rfl
theorem dX2_node_74 : decode cX2_node 74 = .ok (.if_icmp .ne 19, 3) := zd_at zo_cX2_node_0 40 rfl
theorem dX2_node_77 : decode cX2_node 77 = .ok (.aload_n 0, 1) := zd_at zo_cX2_node_0 41 rfl
theorem dX2_node_78 : decode cX2_node 78 = .ok (.getfield 12, 3) := zd_at zo_cX2_node_0 42 rfl
theorem dX2_node_81 : decode cX2_node 81 = .ok (.aload_n 0, 1) := zd_at zo_cX2_node_0 43 rfl
theorem dX2_node_82 : decode cX2_node 82 = .ok (.getfield 12, 3) := zd_at zo_cX2_node_0 44 rfl
theorem dX2_node_85 : decode cX2_node 85 = .ok (.iload_n 3, 1) := zd_at zo_cX2_node_0 45 rfl
theorem dX2_node_86 : decode cX2_node 86 = .ok (.invokevirtual 101, 3) := zd_at zo_cX2_node_0 46 rfl
theorem dX2_node_89 : decode cX2_node 89 = .ok (.invokevirtual 104, 3) := zd_at zo_cX2_node_0 47 rfl
theorem dX2_node_92 : decode cX2_node 92 = .ok (.ireturn, 1) := zd_at zo_cX2_node_0 48 rfl
theorem dX2_node_93 : decode cX2_node 93 = .ok (.aload_n 0, 1) := zd_at zo_cX2_node_0 49 rfl
theorem dX2_node_94 : decode cX2_node 94 = .ok (.getfield 12, 3) := zd_at zo_cX2_node_0 50 rfl
theorem dX2_node_97 : decode cX2_node 97 = .ok (.iload_n 3, 1) := zd_at zo_cX2_node_0 51 rfl
theorem dX2_node_98 : decode cX2_node 98 = .ok (.invokevirtual 118, 3) := zd_at zo_cX2_node_0 52 rfl
theorem dX2_node_101 : decode cX2_node 101 = .ok (.ifCond .ne 7, 3) := zd_at zo_cX2_node_0 53 rfl
theorem dX2_node_104 : decode cX2_node 104 = .ok (.iconst (-1), 1) := zd_at zo_cX2_node_0 54 rfl
theorem dX2_node_105 : decode cX2_node 105 = .ok (.goto 14, 3) := zd_at zo_cX2_node_0 55 rfl
theorem dX2_node_108 : decode cX2_node 108 = .ok (.aload_n 0, 1) := zd_at zo_cX2_node_0 56 rfl
theorem dX2_node_109 : decode cX2_node 109 = .ok (.getfield 12, 3) := zd_at zo_cX2_node_0 57 rfl
theorem dX2_node_112 : decode cX2_node 112 = .ok (.iload_n 3, 1) := zd_at zo_cX2_node_0 58 rfl
theorem dX2_node_113 : decode cX2_node 113 = .ok (.iload_n 2, 1) := zd_at zo_cX2_node_0 59 rfl
theorem dX2_node_114 : decode cX2_node 114 = .ok (.iconst 2, 1) := zd_at zo_cX2_node_0 60 rfl
theorem dX2_node_115 : decode cX2_node 115 = .ok (.isub, 1) := zd_at zo_cX2_node_0 61 rfl
theorem dX2_node_116 : decode cX2_node 116 = .ok (.invokevirtual 107, 3) := zd_at zo_cX2_node_0 62 rfl
theorem dX2_node_119 : decode cX2_node 119 = .ok (.ireturn, 1) := zd_at zo_cX2_node_0 63 rfl
def zl_cX2_entry_0 : List (Nat × Instr × Nat) := [(0, .aload_n 0, 1), (1, .getfield 12, 3), (4, .iload_n 1, 1), (5, .invokevirtual 111, 3), (8, .istore_n 3, 1), (9, .iload_n 3, 1), (10, .iconst (-1), 1), (11, .if_icmp .ne 13, 3), (14, .new 94, 3), (17, .dup, 1), (18, .ldc 114, 2), (20, .invokespecial 98, 3), (23, .athrow, 1), (24, .iload_n 2, 1), (25, .ifCond .ge 13, 3), (28, .new 37, 3), (31, .dup, 1), (32, .ldc 121, 2), (34, .invokespecial 41, 3), (37, .athrow, 1), (38, .iload_n 2, 1), (39, .aload_n 0, 1), (40, .getfield 12, 3), (43, .iload_n 3, 1), (44, .invokevirtual 118, 3), (47, .if_icmp .lt 5, 3), (50, .iconst (-1), 1), (51, .ireturn, 1), (52, .aload_n 0, 1), (53, .getfield 12, 3), (56, .iload_n 3, 1), (57, .iload_n 2, 1), (58, .invokevirtual 123, 3), (61, .istore 4, 2), (63, .aload_n 0, 1), (64, .getfield 12, 3), (67, .iload_n 3, 1), (68, .invokevirtual 70, 3), (71, .ifCond .ne 8, 3), (74, .iload 4, 2), (76, .goto 12, 3), (79, .aload_n 0, 1), (80, .getfield 12, 3), (83, .iload 4, 2), (85, .invokevirtual 104, 3), (88, .ireturn, 1)]
theorem zo_cX2_entry_0 : zd_ok cX2_entry zl_cX2_entry_0 = true := by decide +kernel
theorem dX2_entry_0 : decode cX2_entry 0 = .ok (.aload_n 0, 1) := zd_at zo_cX2_entry_0 0 rfl
theorem dX2_entry_1 : decode cX2_entry 1 = .ok (.getfield 12, 3) := zd_at zo_cX2_entry_0 1 rfl
theorem dX2_entry_4 : decode cX2_entry 4 = .ok (.iload_n 1, 1) := zd_at zo_cX2_entry_0 2 rfl
theorem dX2_entry_5 : decode cX2_entry 5 = .ok (.invokevirtual 111, 3) := zd_at zo_cX2_entry_0 3 rfl
theorem dX2_entry_8 : decode cX2_entry 8 = .ok (.istore_n 3, 1) := zd_at zo_cX2_entry_0 4 rfl
theorem dX2_entry_9 : decode cX2_entry 9 = .ok (.iload_n 3, 1) := zd_at zo_cX2_entry_0 5 rfl
theorem dX2_entry_10 : decode cX2_entry 10 = .ok (.iconst (-1), 1) := zd_at zo_cX2_entry_0 6 rfl
theorem dX2_entry_11 : decode cX2_entry 11 = .ok (.if_icmp .ne 13, 3) := zd_at zo_cX2_entry_0 7 rfl
theorem dX2_entry_14 : decode cX2_entry 14 = .ok (.new 94, 3) := zd_at zo_cX2_entry_0 8 rfl
theorem dX2_entry_17 : decode cX2_entry 17 = .ok (.dup, 1) := zd_at zo_cX2_entry_0 9 rfl
theorem dX2_entry_18 : decode cX2_entry 18 = .ok (.ldc 114, 2) := zd_at zo_cX2_entry_0 10 rfl
theorem dX2_entry_20 : decode cX2_entry 20 = .ok (.invokespecial 98, 3) := zd_at zo_cX2_entry_0 11 rfl
theorem dX2_entry_23 : decode cX2_entry 23 = .ok (.athrow, 1) := zd_at zo_cX2_entry_0 12 rfl
theorem dX2_entry_24 : decode cX2_entry 24 = .ok (.iload_n 2, 1) := zd_at zo_cX2_entry_0 13 rfl
theorem dX2_entry_25 : decode cX2_entry 25 = .ok (.ifCond .ge 13, 3) := zd_at zo_cX2_entry_0 14 rfl
theorem dX2_entry_28 : decode cX2_entry 28 = .ok (.new 37, 3) := zd_at zo_cX2_entry_0 15 rfl
theorem dX2_entry_31 : decode cX2_entry 31 = .ok (.dup, 1) := zd_at zo_cX2_entry_0 16 rfl
theorem dX2_entry_32 : decode cX2_entry 32 = .ok (.ldc 121, 2) := zd_at zo_cX2_entry_0 17 rfl
theorem dX2_entry_34 : decode cX2_entry 34 = .ok (.invokespecial 41, 3) := zd_at zo_cX2_entry_0 18 rfl
theorem dX2_entry_37 : decode cX2_entry 37 = .ok (.athrow, 1) := zd_at zo_cX2_entry_0 19 rfl
theorem dX2_entry_38 : decode cX2_entry 38 = .ok (.iload_n 2, 1) := zd_at zo_cX2_entry_0 20 rfl
theorem dX2_entry_39 : decode cX2_entry 39 = .ok (.aload_n 0, 1) := zd_at zo_cX2_entry_0 21 rfl
theorem dX2_entry_40 : decode cX2_entry 40 = .ok (.getfield 12, 3) := zd_at zo_cX2_entry_0 22 rfl
theorem dX2_entry_43 : decode cX2_entry 43 = .ok (.iload_n 3, 1) := zd_at zo_cX2_entry_0 23 rfl
theorem dX2_entry_44 : decode cX2_entry 44 = .ok (.invokevirtual 118, 3) := zd_at zo_cX2_entry_0 24 rfl
theorem dX2_entry_47 : decode cX2_entry 47 = .ok (.if_icmp .lt 5, 3) := zd_at zo_cX2_entry_0 25 rfl
theorem dX2_entry_50 : decode cX2_entry 50 = .ok (.iconst (-1), 1) := zd_at zo_cX2_entry_0 26 rfl
theorem dX2_entry_51 : decode cX2_entry 51 = .ok (.ireturn, 1) := zd_at zo_cX2_entry_0 27 rfl
theorem dX2_entry_52 : decode cX2_entry 52 = .ok (.aload_n 0, 1) := zd_at zo_cX2_entry_0 28 rfl
theorem dX2_entry_53 : decode cX2_entry 53 = .ok (.getfield 12, 3) := zd_at zo_cX2_entry_0 29 rfl
theorem dX2_entry_56 : decode cX2_entry 56 = .ok (.iload_n 3, 1) := zd_at zo_cX2_entry_0 30 rfl
theorem dX2_entry_57 : decode cX2_entry 57 = .ok (.iload_n 2, 1) := zd_at zo_cX2_entry_0 31 rfl
theorem dX2_entry_58 : decode cX2_entry 58 = .ok (.invokevirtual 123, 3) := zd_at zo_cX2_entry_0 32 rfl
theorem dX2_entry_61 : decode cX2_entry 61 = .ok (.istore 4, 2) := zd_at zo_cX2_entry_0 33 rfl
theorem dX2_entry_63 : decode cX2_entry 63 = .ok (.aload_n 0, 1) := zd_at zo_cX2_entry_0 34 rfl
theorem dX2_entry_64 : decode cX2_entry 64 = .ok (.getfield 12, 3) := zd_at zo_cX2_entry_0 35 rfl
theorem dX2_entry_67 : decode cX2_entry 67 = .ok (.iload_n 3, 1) := zd_at zo_cX2_entry_0 36 rfl
theorem dX2_entry_68 : decode cX2_entry 68 = .ok (.invokevirtual 70, 3) := zd_at zo_cX2_entry_0 37 rfl
theorem dX2_entry_71 : decode cX2_entry 71 = .ok (.ifCond .ne 8, 3) := zd_at zo_cX2_entry_0 38 rfl
theorem dX2_entry_74 : decode cX2_entry 74 = .ok (.iload 4, 2) := zd_at zo_cX2_entry_0 39 rfl
theorem dX2_entry_76 : decode cX2_entry 76 = .ok (.goto 12, 3) := zd_at zo_cX2_entry_0 40 rfl
theorem dX2_entry_79 : decode cX2_entry 79 = .ok (.aload_n 0, 1) := zd_at zo_cX2_entry_0 41 rfl
theorem dX2_entry_80 : decode cX2_entry 80 = .ok (.getfield 12, 3) := zd_at zo_cX2_entry_0 42 rfl
theorem dX2_entry_83 : decode cX2_entry 83 = .ok (.iload 4, 2) := zd_at zo_cX2_entry_0 43 rfl
theorem dX2_entry_85 : decode cX2_entry 85 = .ok (.invokevirtual 104, 3) := zd_at zo_cX2_entry_0 44 rfl
theorem dX2_entry_88 : decode cX2_entry 88 = .ok (.ireturn, 1) := zd_at zo_cX2_entry_0 45 rfl
def zl_cX2_add_0 : List (Nat × Instr × Nat) := [(0, .iload_n 1, 1), (1, .iload_n 2, 1), (2, .iload_n 3, 1), (3, .iload 4, 2), (5, .invokestatic 126, 3), (8, .ifCond .ne 13, 3), (11, .new 37, 3), (14, .dup, 1), (15, .ldc 130, 2), (17, .invokespecial 41, 3), (20, .athrow, 1), (21, .aload_n 0, 1), (22, .getfield 12, 3), (25, .invokevirtual 61, 3), (28, .bipush 24, 2), (30, .if_icmp .lt 13, 3), (33, .new 48, 3), (36, .dup, 1), (37, .ldc 132, 2), (39, .invokespecial 52, 3), (42, .athrow, 1), (43, .aload_n 0, 1), (44, .invokevirtual 134, 3), (47, .aload_n 0, 1), (48, .getfield 12, 3), (51, .invokevirtual 137, 3), (54, .istore 5, 2), (56, .aload_n 0, 1), (57, .getfield 12, 3), (60, .invokevirtual 140, 3), (63, .aload_n 0, 1), (64, .getfield 12, 3), (67, .iload 5, 2), (69, .iload_n 1, 1), (70, .iload_n 2, 1), (71, .iload_n 3, 1), (72, .iload 4, 2), (74, .invokevirtual 143, 3), (77, .aload_n 0, 1), (78, .getfield 12, 3), (81, .iload 5, 2), (83, .invokevirtual 147, 3), (86, .iload 5, 2), (88, .ireturn, 1)]
theorem zo_cX2_add_0 : zd_ok cX2_add zl_cX2_add_0 = true := by decide +kernel
theorem dX2_add_0 : decode cX2_add 0 = .ok (.iload_n 1, 1) := zd_at zo_cX2_add_0 0 rfl
theorem dX2_add_1 : decode cX2_add 1 = .ok (.iload_n 2, 1) := zd_at zo_cX2_add_0 1 rfl
theorem dX2_add_2 : decode cX2_add 2 = .ok (.iload_n 3, 1) := zd_at zo_cX2_add_0 2 rfl
theorem dX2_add_3 : decode cX2_add 3 = .ok (.iload 4, 2) := zd_at zo_cX2_add_0 3 rfl
theorem dX2_add_5 : decode cX2_add 5 = .ok (.invokestatic 126, 3) := zd_at zo_cX2_add_0 4 rfl
theorem dX2_add_8 : decode cX2_add 8 = .ok (.ifCond .ne 13, 3) := zd_at zo_cX2_add_0 5 rfl
theorem dX2_add_11 : decode cX2_add 11 = .ok (.new 37, 3) := zd_at zo_cX2_add_0 6 rfl
theorem dX2_add_14 : decode cX2_add 14 = .ok (.dup, 1) := zd_at zo_cX2_add_0 7 rfl
theorem dX2_add_15 : decode cX2_add 15 = .ok (.ldc 130, 2) := zd_at zo_cX2_add_0 8 rfl
theorem dX2_add_17 : decode cX2_add 17 = .ok (.invokespecial 41, 3) := zd_at zo_cX2_add_0 9 rfl
theorem dX2_add_20 : decode cX2_add 20 = .ok (.athrow, 1) := zd_at zo_cX2_add_0 10 rfl
theorem dX2_add_21 : decode cX2_add 21 = .ok (.aload_n 0, 1) := zd_at zo_cX2_add_0 11 rfl
theorem dX2_add_22 : decode cX2_add 22 = .ok (.getfield 12, 3) := zd_at zo_cX2_add_0 12 rfl
theorem dX2_add_25 : decode cX2_add 25 = .ok (.invokevirtual 61, 3) := zd_at zo_cX2_add_0 13 rfl
theorem dX2_add_28 : decode cX2_add 28 = .ok (.bipush 24, 2) := zd_at zo_cX2_add_0 14 rfl
theorem dX2_add_30 : decode cX2_add 30 = .ok (.if_icmp .lt 13, 3) := zd_at zo_cX2_add_0 15 rfl
theorem dX2_add_33 : decode cX2_add 33 = .ok (.new 48, 3) := zd_at zo_cX2_add_0 16 rfl
theorem dX2_add_36 : decode cX2_add 36 = .ok (.dup, 1) := zd_at zo_cX2_add_0 17 rfl
theorem dX2_add_37 : decode cX2_add 37 = .ok (.ldc 132, 2) := zd_at zo_cX2_add_0 18 rfl
theorem dX2_add_39 : decode cX2_add 39 = .ok (.invokespecial 52, 3) := zd_at zo_cX2_add_0 19 rfl
theorem dX2_add_42 : decode cX2_add 42 = .ok (.athrow, 1) := zd_at zo_cX2_add_0 20 rfl
theorem dX2_add_43 : decode cX2_add 43 = .ok (.aload_n 0, 1) := zd_at zo_cX2_add_0 21 rfl
theorem dX2_add_44 : decode cX2_add 44 = .ok (.invokevirtual 134, 3) := zd_at zo_cX2_add_0 22 rfl
theorem dX2_add_47 : decode cX2_add 47 = .ok (.aload_n 0, 1) := zd_at zo_cX2_add_0 23 rfl
theorem dX2_add_48 : decode cX2_add 48 = .ok (.getfield 12, 3) := zd_at zo_cX2_add_0 24 rfl
theorem dX2_add_51 : decode cX2_add 51 = .ok (.invokevirtual 137, 3) := zd_at zo_cX2_add_0 25 rfl
theorem dX2_add_54 : decode cX2_add 54 = .ok (.istore 5, 2) := zd_at zo_cX2_add_0 26 rfl
theorem dX2_add_56 : decode cX2_add 56 = .ok (.aload_n 0, 1) := zd_at zo_cX2_add_0 27 rfl
theorem dX2_add_57 : decode cX2_add 57 = .ok (.getfield 12, 3) := zd_at zo_cX2_add_0 28 rfl
theorem dX2_add_60 : decode cX2_add 60 = .ok (.invokevirtual 140, 3) := zd_at zo_cX2_add_0 29 rfl
theorem dX2_add_63 : decode cX2_add 63 = .ok (.aload_n 0, 1) := zd_at zo_cX2_add_0 30 rfl
theorem dX2_add_64 : decode cX2_add 64 = .ok (.getfield 12, 3) := zd_at zo_cX2_add_0 31 rfl
theorem dX2_add_67 : decode cX2_add 67 = .ok (.iload 5, 2) := zd_at zo_cX2_add_0 32 rfl
theorem dX2_add_69 : decode cX2_add 69 = .ok (.iload_n 1, 1) := zd_at zo_cX2_add_0 33 rfl
theorem dX2_add_70 : decode cX2_add 70 = .ok (.iload_n 2, 1) := zd_at zo_cX2_add_0 34 rfl
theorem dX2_add_71 : decode cX2_add 71 = .ok (.iload_n 3, 1) := zd_at zo_cX2_add_0 35 rfl
theorem dX2_add_72 : decode cX2_add 72 = .ok (.iload 4, 2) := zd_at zo_cX2_add_0 36 rfl
theorem dX2_add_74 : decode cX2_add 74 = .ok (.invokevirtual 143, 3) := zd_at zo_cX2_add_0 37 rfl
theorem dX2_add_77 : decode cX2_add 77 = .ok (.aload_n 0, 1) := zd_at zo_cX2_add_0 38 rfl
theorem dX2_add_78 : decode cX2_add 78 = .ok (.getfield 12, 3) := zd_at zo_cX2_add_0 39 rfl
theorem dX2_add_81 : decode cX2_add 81 = .ok (.iload 5, 2) := zd_at zo_cX2_add_0 40 rfl
theorem dX2_add_83 : decode cX2_add 83 = .ok (.invokevirtual 147, 3) := zd_at zo_cX2_add_0 41 rfl
theorem dX2_add_86 : decode cX2_add 86 = .ok (.iload 5, 2) := zd_at zo_cX2_add_0 42 rfl
theorem dX2_add_88 : decode cX2_add 88 = .ok (.ireturn, 1) := zd_at zo_cX2_add_0 43 rfl
def zl_cX2_addAll_0 : List (Nat × Instr × Nat) := [(0, .aload_n 0, 1), (1, .getfield 33, 3), (4, .invokevirtual 57, 3), (7, .iconst (-1), 1), (8, .if_icmp .eq 13, 3), (11, .new 48, 3), (14, .dup, 1), (15, .ldc 151, 2), (17, .invokespecial 52, 3), (20, .athrow, 1), (21, .aload_n 0, 1), (22, .getfield 12, 3), (25, .invokevirtual 61, 3), (28, .aload_n 0, 1), (29, .getfield 33, 3), (32, .getfield 153, 3), (35, .iadd, 1), (36, .bipush 24, 2), (38, .if_icmp .le 13, 3), (41, .new 48, 3), (44, .dup, 1), (45, .ldc 156, 2), (47, .invokespecial 52, 3), (50, .athrow, 1), (51, .aload_n 0, 1), (52, .invokevirtual 134, 3), (55, .aload_n 0, 1), (56, .getfield 12, 3), (59, .invokevirtual 140, 3), (62, .iconst 0, 1), (63, .istore_n 1, 1), (64, .iload_n 1, 1), (65, .aload_n 0, 1), (66, .getfield 33, 3), (69, .getfield 153, 3), (72, .if_icmp .ge 69, 3), (75, .aload_n 0, 1), (76, .getfield 12, 3), (79, .invokevirtual 137, 3), (82, .istore_n 2, 1), (83, .aload_n 0, 1), (84, .getfield 12, 3), (87, .iload_n 2, 1), (88, .aload_n 0, 1), (89, .getfield 33, 3), (92, .iload_n 1, 1), (93, .iconst 0, 1), (94, .invokevirtual 158, 3), (97, .aload_n 0, 1), (98, .getfield 33, 3), (101, .iload_n 1, 1), (102, .iconst 1, 1), (103, .invokevirtual 158, 3), (106, .aload_n 0, 1), (107, .getfield 33, 3), (110, .iload_n 1, 1), (111, .iconst 2, 1), (112, .invokevirtual 158, 3), (115, .aload_n 0, 1), (116, .getfield 33, 3), (119, .iload_n 1, 1), (120, .iconst 3, 1), (121, .invokevirtual 158, 3), (124, .invokevirtual 143, 3), (127, .aload_n 0, 1), (128, .getfield 12, 3), (131, .iload_n 2, 1), (132, .invokevirtual 147, 3), (135, .iinc 1 1, 3), (138, .goto (-74), 3), (141, .aload_n 0, 1), (142, .getfield 12, 3), (145, .invokevirtual 61, 3), (148, .ireturn, 1)]
theorem zo_cX2_addAll_0 : zd_ok cX2_addAll zl_cX2_addAll_0 = true := by decide +kernel
theorem dX2_addAll_0 : decode cX2_addAll 0 = .ok (.aload_n 0, 1) := zd_at zo_cX2_addAll_0 0 rfl
theorem dX2_addAll_1 : decode cX2_addAll 1 = .ok (.getfield 33, 3) := zd_at zo_cX2_addAll_0 1 rfl
theorem dX2_addAll_4 : decode cX2_addAll 4 = .ok (.invokevirtual 57, 3) := zd_at zo_cX2_addAll_0 2 rfl
theorem dX2_addAll_7 : decode cX2_addAll 7 = .ok (.iconst (-1), 1) := zd_at zo_cX2_addAll_0 3 rfl
theorem dX2_addAll_8 : decode cX2_addAll 8 = .ok (.if_icmp .eq 13, 3) := zd_at zo_cX2_addAll_0 4 rfl
theorem dX2_addAll_11 : decode cX2_addAll 11 = .ok (.new 48, 3) := zd_at zo_cX2_addAll_0 5 rfl
theorem dX2_addAll_14 : decode cX2_addAll 14 = .ok (.dup, 1) := zd_at zo_cX2_addAll_0 6 rfl
theorem dX2_addAll_15 : decode cX2_addAll 15 = .ok (.ldc 151, 2) := zd_at zo_cX2_addAll_0 7 rfl
theorem dX2_addAll_17 : decode cX2_addAll 17 = .ok (.invokespecial 52, 3) := zd_at zo_cX2_addAll_0 8 rfl
theorem dX2_addAll_20 : decode cX2_addAll 20 = .ok (.athrow, 1) := zd_at zo_cX2_addAll_0 9 rfl
theorem dX2_addAll_21 : decode cX2_addAll 21 = .ok (.aload_n 0, 1) := zd_at zo_cX2_addAll_0 10 rfl
theorem dX2_addAll_22 : decode cX2_addAll 22 = .ok (.getfield 12, 3) := zd_at zo_cX2_addAll_0 11 rfl
theorem dX2_addAll_25 : decode cX2_addAll 25 = .ok (.invokevirtual 61, 3) := zd_at zo_cX2_addAll_0 12 rfl
theorem dX2_addAll_28 : decode cX2_addAll 28 = .ok (.aload_n 0, 1) := zd_at zo_cX2_addAll_0 13 rfl
theorem dX2_addAll_29 : decode cX2_addAll 29 = .ok (.getfield 33, 3) := zd_at zo_cX2_addAll_0 14 rfl
theorem dX2_addAll_32 : decode cX2_addAll 32 = .ok (.getfield 153, 3) := zd_at zo_cX2_addAll_0 15 rfl
theorem dX2_addAll_35 : decode cX2_addAll 35 = .ok (.iadd, 1) := zd_at zo_cX2_addAll_0 16 rfl
theorem dX2_addAll_36 : decode cX2_addAll 36 = .ok (.bipush 24, 2) := zd_at zo_cX2_addAll_0 17 rfl
theorem dX2_addAll_38 : decode cX2_addAll 38 = .ok (.if_icmp .le 13, 3) := zd_at zo_cX2_addAll_0 18 rfl
theorem dX2_addAll_41 : decode cX2_addAll 41 = .ok (.new 48, 3) := zd_at zo_cX2_addAll_0 19 rfl
theorem dX2_addAll_44 : decode cX2_addAll 44 = .ok (.dup, 1) := zd_at zo_cX2_addAll_0 20 rfl
theorem dX2_addAll_45 : decode cX2_addAll 45 = .ok (.ldc 156, 2) := zd_at zo_cX2_addAll_0 21 rfl
theorem dX2_addAll_47 : decode cX2_addAll 47 = .ok (.invokespecial 52, 3) := zd_at zo_cX2_addAll_0 22 rfl
theorem dX2_addAll_50 : decode cX2_addAll 50 = .ok (.athrow, 1) := zd_at zo_cX2_addAll_0 23 rfl
theorem dX2_addAll_51 : decode cX2_addAll 51 = .ok (.aload_n 0, 1) := zd_at zo_cX2_addAll_0 24 rfl
theorem dX2_addAll_52 : decode cX2_addAll 52 = .ok (.invokevirtual 134, 3) := zd_at zo_cX2_addAll_0 25 rfl
theorem dX2_addAll_55 : decode cX2_addAll 55 = .ok (.aload_n 0, 1) := zd_at zo_cX2_addAll_0 26 rfl
theorem dX2_addAll_56 : decode cX2_addAll 56 = .ok (.getfield 12, 3) := zd_at zo_cX2_addAll_0 27 rfl
theorem dX2_addAll_59 : decode cX2_addAll 59 = .ok (.invokevirtual 140, 3) := zd_at zo_cX2_addAll_0 28 rfl
theorem dX2_addAll_62 : decode cX2_addAll 62 = .ok (.iconst 0, 1) := zd_at zo_cX2_addAll_0 29 rfl
theorem dX2_addAll_63 : decode cX2_addAll 63 = .ok (.istore_n 1, 1) := zd_at zo_cX2_addAll_0 30 rfl
theorem dX2_addAll_64 : decode cX2_addAll 64 = .ok (.iload_n 1, 1) := zd_at zo_cX2_addAll_0 31 rfl
theorem dX2_addAll_65 : decode cX2_addAll 65 = .ok (.aload_n 0, 1) := zd_at zo_cX2_addAll_0 32 rfl
theorem dX2_addAll_66 : decode cX2_addAll 66 = .ok (.getfield 33, 3) := zd_at zo_cX2_addAll_0 33 rfl
theorem dX2_addAll_69 : decode cX2_addAll 69 = .ok (.getfield 153, 3) := zd_at zo_cX2_addAll_0 34 rfl
theorem dX2_addAll_72 : decode cX2_addAll 72 = .ok (.if_icmp .ge 69, 3) := zd_at zo_cX2_addAll_0 35 rfl
theorem dX2_addAll_75 : decode cX2_addAll 75 = .ok (.aload_n 0, 1) := zd_at zo_cX2_addAll_0 36 rfl
theorem dX2_addAll_76 : decode cX2_addAll 76 = .ok (.getfield 12, 3) := zd_at zo_cX2_addAll_0 37 rfl
theorem dX2_addAll_79 : decode cX2_addAll 79 = .ok (.invokevirtual 137, 3) := zd_at zo_cX2_addAll_0 38 rfl
theorem dX2_addAll_82 : decode cX2_addAll 82 = .ok (.istore_n 2, 1) := zd_at zo_cX2_addAll_0 39 rfl
theorem dX2_addAll_83 : decode cX2_addAll 83 = .ok (.aload_n 0, 1) := zd_at zo_cX2_addAll_0 40 rfl
theorem dX2_addAll_84 : decode cX2_addAll 84 = .ok (.getfield 12, 3) := zd_at zo_cX2_addAll_0 41 rfl
theorem dX2_addAll_87 : decode cX2_addAll 87 = .ok (.iload_n 2, 1) := zd_at zo_cX2_addAll_0 42 rfl
theorem dX2_addAll_88 : decode cX2_addAll 88 = .ok (.aload_n 0, 1) := zd_at zo_cX2_addAll_0 43 rfl
theorem dX2_addAll_89 : decode cX2_addAll 89 = .ok (.getfield 33, 3) := zd_at zo_cX2_addAll_0 44 rfl
theorem dX2_addAll_92 : decode cX2_addAll 92 = .ok (.iload_n 1, 1) := zd_at zo_cX2_addAll_0 45 rfl
theorem dX2_addAll_93 : decode cX2_addAll 93 = .ok (.iconst 0, 1) := zd_at zo_cX2_addAll_0 46 rfl
theorem dX2_addAll_94 : decode cX2_addAll 94 = .ok (.invokevirtual 158, 3) := zd_at zo_cX2_addAll_0 47 rfl
theorem dX2_addAll_97 : decode cX2_addAll 97 = .ok (.aload_n 0, 1) := zd_at zo_cX2_addAll_0 48 rfl
theorem dX2_addAll_98 : decode cX2_addAll 98 = .ok (.getfield 33, 3) := zd_at zo_cX2_addAll_0 49 rfl
theorem dX2_addAll_101 : decode cX2_addAll 101 = .ok (.iload_n 1, 1) := zd_at zo_cX2_addAll_0 50 rfl
theorem dX2_addAll_102 : decode cX2_addAll 102 = .ok (.iconst 1, 1) := zd_at zo_cX2_addAll_0 51 rfl
theorem dX2_addAll_103 : decode cX2_addAll 103 = .ok (.invokevirtual 158, 3) := zd_at zo_cX2_addAll_0 52 rfl
theorem dX2_addAll_106 : decode cX2_addAll 106 = .ok (.aload_n 0, 1) := zd_at zo_cX2_addAll_0 53 rfl
theorem dX2_addAll_107 : decode cX2_addAll 107 = .ok (.getfield 33, 3) := zd_at zo_cX2_addAll_0 54 rfl
theorem dX2_addAll_110 : decode cX2_addAll 110 = .ok (.iload_n 1, 1) := zd_at zo_cX2_addAll_0 55 rfl
theorem dX2_addAll_111 : decode cX2_addAll 111 = .ok (.iconst 2, 1) := zd_at zo_cX2_addAll_0 56 rfl
theorem dX2_addAll_112 : decode cX2_addAll 112 = .ok (.invokevirtual 158, 3) := zd_at zo_cX2_addAll_0 57 rfl
theorem dX2_addAll_115 : decode cX2_addAll 115 = .ok (.aload_n 0, 1) := zd_at zo_cX2_addAll_0 58 rfl
theorem dX2_addAll_116 : decode cX2_addAll 116 = .ok (.getfield 33, 3) := zd_at zo_cX2_addAll_0 59 rfl
theorem dX2_addAll_119 : decode cX2_addAll 119 = .ok (.iload_n 1, 1) := zd_at zo_cX2_addAll_0 60 rfl
theorem dX2_addAll_120 : decode cX2_addAll 120 = .ok (.iconst 3, 1) := zd_at zo_cX2_addAll_0 61 rfl
theorem dX2_addAll_121 : decode cX2_addAll 121 = .ok (.invokevirtual 158, 3) := zd_at zo_cX2_addAll_0 62 rfl
theorem dX2_addAll_124 : decode cX2_addAll 124 = .ok (.invokevirtual 143, 3) := zd_at zo_cX2_addAll_0 63 rfl
theorem dX2_addAll_127 : decode cX2_addAll 127 = .ok (.aload_n 0, 1) := zd_at zo_cX2_addAll_0 64 rfl
theorem dX2_addAll_128 : decode cX2_addAll 128 = .ok (.getfield 12, 3) := zd_at zo_cX2_addAll_0 65 rfl
theorem dX2_addAll_131 : decode cX2_addAll 131 = .ok (.iload_n 2, 1) := zd_at zo_cX2_addAll_0 66 rfl
theorem dX2_addAll_132 : decode cX2_addAll 132 = .ok (.invokevirtual 147, 3) := zd_at zo_cX2_addAll_0 67 rfl
theorem dX2_addAll_135 : decode cX2_addAll 135 = .ok (.iinc 1 1, 3) := zd_at zo_cX2_addAll_0 68 rfl
theorem dX2_addAll_138 : decode cX2_addAll 138 = .ok (.goto (-74), 3) := zd_at zo_cX2_addAll_0 69 rfl
theorem dX2_addAll_141 : decode cX2_addAll 141 = .ok (.aload_n 0, 1) := zd_at zo_cX2_addAll_0 70 rfl
theorem dX2_addAll_142 : decode cX2_addAll 142 = .ok (.getfield 12, 3) := zd_at zo_cX2_addAll_0 71 rfl
theorem dX2_addAll_145 : decode cX2_addAll 145 = .ok (.invokevirtual 61, 3) := zd_at zo_cX2_addAll_0 72 rfl
theorem dX2_addAll_148 : decode cX2_addAll 148 = .ok (.ireturn, 1) := zd_at zo_cX2_addAll_0 73 rfl
def zl_cX2_remove_0 : List (Nat × Instr × Nat) := [(0, .aload_n 0, 1), (1, .getfield 12, 3), (4, .iload_n 1, 1), (5, .invokevirtual 90, 3), (8, .ifCond .ne 13, 3), (11, .new 94, 3), (14, .dup, 1), (15, .ldc 96, 2), (17, .invokespecial 98, 3), (20, .athrow, 1), (21, .aload_n 0, 1), (22, .invokevirtual 134, 3), (25, .aload_n 0, 1), (26, .getfield 12, 3), (29, .invokevirtual 140, 3), (32, .aload_n 0, 1), (33, .getfield 12, 3), (36, .iload_n 1, 1), (37, .invokevirtual 159, 3), (40, .aload_n 0, 1), (41, .getfield 12, 3), (44, .invokevirtual 64, 3), (47, .ireturn, 1)]
theorem zo_cX2_remove_0 : zd_ok cX2_remove zl_cX2_remove_0 = true := by decide +kernel
theorem dX2_remove_0 : decode cX2_remove 0 = .ok (.aload_n 0, 1) := zd_at zo_cX2_remove_0 0 rfl
theorem dX2_remove_1 : decode cX2_remove 1 = .ok (.getfield 12, 3) := zd_at zo_cX2_remove_0 1 rfl
theorem dX2_remove_4 : decode cX2_remove 4 = .ok (.iload_n 1, 1) := zd_at zo_cX2_remove_0 2 rfl
theorem dX2_remove_5 : decode cX2_remove 5 = .ok (.invokevirtual 90, 3) := zd_at zo_cX2_remove_0 3 rfl
theorem dX2_remove_8 : decode cX2_remove 8 = .ok (.ifCond .ne 13, 3) := zd_at zo_cX2_remove_0 4 rfl
theorem dX2_remove_11 : decode cX2_remove 11 = .ok (.new 94, 3) := zd_at zo_cX2_remove_0 5 rfl
theorem dX2_remove_14 : decode cX2_remove 14 = .ok (.dup, 1) := zd_at zo_cX2_remove_0 6 rfl
theorem dX2_remove_15 : decode cX2_remove 15 = .ok (.ldc 96, 2) := zd_at zo_cX2_remove_0 7 rfl
theorem dX2_remove_17 : decode cX2_remove 17 = .ok (.invokespecial 98, 3) := zd_at zo_cX2_remove_0 8 rfl
theorem dX2_remove_20 : decode cX2_remove 20 = .ok (.athrow, 1) := zd_at zo_cX2_remove_0 9 rfl
theorem dX2_remove_21 : decode cX2_remove 21 = .ok (.aload_n 0, 1) := zd_at zo_cX2_remove_0 10 rfl
theorem dX2_remove_22 : decode cX2_remove 22 = .ok (.invokevirtual 134, 3) := zd_at zo_cX2_remove_0 11 rfl
theorem dX2_remove_25 : decode cX2_remove 25 = .ok (.aload_n 0, 1) := zd_at zo_cX2_remove_0 12 rfl
theorem dX2_remove_26 : decode cX2_remove 26 = .ok (.getfield 12, 3) := zd_at zo_cX2_remove_0 13 rfl
theorem dX2_remove_29 : decode cX2_remove 29 = .ok (.invokevirtual 140, 3) := zd_at zo_cX2_remove_0 14 rfl
theorem dX2_remove_32 : decode cX2_remove 32 = .ok (.aload_n 0, 1) := zd_at zo_cX2_remove_0 15 rfl
theorem dX2_remove_33 : decode cX2_remove 33 = .ok (.getfield 12, 3) := zd_at zo_cX2_remove_0 16 rfl
theorem dX2_remove_36 : decode cX2_remove 36 = .ok (.iload_n 1, 1) := zd_at zo_cX2_remove_0 17 rfl
theorem dX2_remove_37 : decode cX2_remove 37 = .ok (.invokevirtual 159, 3) := zd_at zo_cX2_remove_0 18 rfl
theorem dX2_remove_40 : decode cX2_remove 40 = .ok (.aload_n 0, 1) := zd_at zo_cX2_remove_0 19 rfl
theorem dX2_remove_41 : decode cX2_remove 41 = .ok (.getfield 12, 3) := zd_at zo_cX2_remove_0 20 rfl
theorem dX2_remove_44 : decode cX2_remove 44 = .ok (.invokevirtual 64, 3) := zd_at zo_cX2_remove_0 21 rfl
theorem dX2_remove_47 : decode cX2_remove 47 = .ok (.ireturn, 1) := zd_at zo_cX2_remove_0 22 rfl
def zl_cX2_move_0 : List (Nat × Instr × Nat) := [(0, .aload_n 0, 1), (1, .getfield 12, 3), (4, .iload_n 1, 1), (5, .invokevirtual 90, 3), (8, .ifCond .ne 13, 3), (11, .new 94, 3), (14, .dup, 1), (15, .ldc 96, 2), (17, .invokespecial 98, 3), (20, .athrow, 1), (21, .iload_n 2, 1), (22, .bipush (-100), 2), (24, .if_icmp .le 21, 3), (27, .iload_n 2, 1), (28, .bipush 100, 2), (30, .if_icmp .ge 15, 3), (33, .iload_n 3, 1), (34, .bipush (-100), 2), (36, .if_icmp .le 9, 3), (39, .iload_n 3, 1), (40, .bipush 100, 2), (42, .if_icmp .lt 13, 3), (45, .new 37, 3), (48, .dup, 1), (49, .ldc 162, 2), (51, .invokespecial 41, 3), (54, .athrow, 1), (55, .aload_n 0, 1), (56, .getfield 12, 3), (59, .iload_n 1, 1), (60, .iload_n 2, 1), (61, .iload_n 3, 1), (62, .invokevirtual 164, 3), (65, .ifCond .ne 13, 3), (68, .new 48, 3), (71, .dup, 1), (72, .ldc 168, 2), (74, .invokespecial 52, 3), (77, .athrow, 1), (78, .aload_n 0, 1), (79, .invokevirtual 134, 3), (82, .aload_n 0, 1), (83, .getfield 12, 3), (86, .invokevirtual 140, 3), (89, .aload_n 0, 1), (90, .getfield 12, 3), (93, .iload_n 1, 1), (94, .invokevirtual 159, 3), (97, .aload_n 0, 1), (98, .getfield 12, 3), (101, .iload_n 1, 1), (102, .iload_n 2, 1), (103, .iload_n 3, 1), (104, .invokevirtual 170, 3), (107, .aload_n 0, 1), (108, .getfield 12, 3), (111, .iload_n 1, 1), (112, .invokevirtual 147, 3), (115, .aload_n 0, 1), (116, .getfield 12, 3), (119, .aload_n 0, 1), (120, .getfield 12, 3), (123, .iload_n 1, 1), (124, .invokevirtual 101, 3), (127, .invokevirtual 104, 3), (130, .ireturn, 1)]
theorem zo_cX2_move_0 : zd_ok cX2_move zl_cX2_move_0 = true := by decide +kernel
theorem dX2_move_0 : decode cX2_move 0 = .ok (.aload_n 0, 1) := zd_at zo_cX2_move_0 0 rfl
theorem dX2_move_1 : decode cX2_move 1 = .ok (.getfield 12, 3) := zd_at zo_cX2_move_0 1 rfl
theorem dX2_move_4 : decode cX2_move 4 = .ok (.iload_n 1, 1) := zd_at zo_cX2_move_0 2 rfl
theorem dX2_move_5 : decode cX2_move 5 = .ok (.invokevirtual 90, 3) := zd_at zo_cX2_move_0 3 rfl
theorem dX2_move_8 : decode cX2_move 8 = .ok (.ifCond .ne 13, 3) := zd_at zo_cX2_move_0 4 rfl
theorem dX2_move_11 : decode cX2_move 11 = .ok (.new 94, 3) := zd_at zo_cX2_move_0 5 rfl
theorem dX2_move_14 : decode cX2_move 14 = .ok (.dup, 1) := zd_at zo_cX2_move_0 6 rfl
theorem dX2_move_15 : decode cX2_move 15 = .ok (.ldc 96, 2) := zd_at zo_cX2_move_0 7 rfl
theorem dX2_move_17 : decode cX2_move 17 = .ok (.invokespecial 98, 3) := zd_at zo_cX2_move_0 8 rfl
theorem dX2_move_20 : decode cX2_move 20 = .ok (.athrow, 1) := zd_at zo_cX2_move_0 9 rfl
theorem dX2_move_21 : decode cX2_move 21 = .ok (.iload_n 2, 1) := zd_at zo_cX2_move_0 10 rfl
theorem dX2_move_22 : decode cX2_move 22 = .ok (.bipush (-100), 2) := zd_at zo_cX2_move_0 11 rfl
theorem dX2_move_24 : decode cX2_move 24 = .ok (.if_icmp .le 21, 3) := zd_at zo_cX2_move_0 12 rfl
theorem dX2_move_27 : decode cX2_move 27 = .ok (.iload_n 2, 1) := zd_at zo_cX2_move_0 13 rfl
theorem dX2_move_28 : decode cX2_move 28 = .ok (.bipush 100, 2) := zd_at zo_cX2_move_0 14 rfl
theorem dX2_move_30 : decode cX2_move 30 = .ok (.if_icmp .ge 15, 3) := zd_at zo_cX2_move_0 15 rfl
theorem dX2_move_33 : decode cX2_move 33 = .ok (.iload_n 3, 1) := zd_at zo_cX2_move_0 16 rfl
theorem dX2_move_34 : decode cX2_move 34 = .ok (.bipush (-100), 2) := zd_at zo_cX2_move_0 17 rfl
theorem dX2_move_36 : decode cX2_move 36 = .ok (.if_icmp .le 9, 3) := zd_at zo_cX2_move_0 18 rfl
theorem dX2_move_39 : decode cX2_move 39 = .ok (.iload_n 3, 1) := zd_at zo_cX2_move_0 19 rfl
theorem dX2_move_40 : decode cX2_move 40 = .ok (.bipush 100, 2) := zd_at zo_cX2_move_0 20 rfl
theorem dX2_move_42 : decode cX2_move 42 = .ok (.if_icmp .lt 13, 3) := zd_at zo_cX2_move_0 21 rfl
theorem dX2_move_45 : decode cX2_move 45 = .ok (.new 37, 3) := zd_at zo_cX2_move_0 22 rfl
theorem dX2_move_48 : decode cX2_move 48 = .ok (.dup, 1) := zd_at zo_cX2_move_0 23 rfl
theorem dX2_move_49 : decode cX2_move 49 = .ok (.ldc 162, 2) := zd_at zo_cX2_move_0 24 rfl
theorem dX2_move_51 : decode cX2_move 51 = .ok (.invokespecial 41, 3) := zd_at zo_cX2_move_0 25 rfl
theorem dX2_move_54 : decode cX2_move 54 = .ok (.athrow, 1) := zd_at zo_cX2_move_0 26 rfl
theorem dX2_move_55 : decode cX2_move 55 = .ok (.aload_n 0, 1) := zd_at zo_cX2_move_0 27 rfl
theorem dX2_move_56 : decode cX2_move 56 = .ok (.getfield 12, 3) := zd_at zo_cX2_move_0 28 rfl
theorem dX2_move_59 : decode cX2_move 59 = .ok (.iload_n 1, 1) := zd_at zo_cX2_move_0 29 rfl
theorem dX2_move_60 : decode cX2_move 60 = .ok (.iload_n 2, 1) := zd_at zo_cX2_move_0 30 rfl
theorem dX2_move_61 : decode cX2_move 61 = .ok (.iload_n 3, 1) := zd_at zo_cX2_move_0 31 rfl
theorem dX2_move_62 : decode cX2_move 62 = .ok (.invokevirtual 164, 3) := zd_at zo_cX2_move_0 32 rfl
theorem dX2_move_65 : decode cX2_move 65 = .ok (.ifCond .ne 13, 3) := zd_at zo_cX2_move_0 33 rfl
theorem dX2_move_68 : decode cX2_move 68 = .ok (.new 48, 3) := zd_at zo_cX2_move_0 34 rfl
theorem dX2_move_71 : decode cX2_move 71 = .ok (.dup, 1) := zd_at zo_cX2_move_0 35 rfl
theorem dX2_move_72 : decode cX2_move 72 = .ok (.ldc 168, 2) := zd_at zo_cX2_move_0 36 rfl
theorem dX2_move_74 : decode cX2_move 74 = .ok (.invokespecial 52, 3) := zd_at zo_cX2_move_0 37 rfl
theorem dX2_move_77 : decode cX2_move 77 = .ok (.athrow, 1) := zd_at zo_cX2_move_0 38 rfl
theorem dX2_move_78 : decode cX2_move 78 = .ok (.aload_n 0, 1) := zd_at zo_cX2_move_0 39 rfl
theorem dX2_move_79 : decode cX2_move 79 = .ok (.invokevirtual 134, 3) := zd_at zo_cX2_move_0 40 rfl
theorem dX2_move_82 : decode cX2_move 82 = .ok (.aload_n 0, 1) := zd_at zo_cX2_move_0 41 rfl
theorem dX2_move_83 : decode cX2_move 83 = .ok (.getfield 12, 3) := zd_at zo_cX2_move_0 42 rfl
theorem dX2_move_86 : decode cX2_move 86 = .ok (.invokevirtual 140, 3) := zd_at zo_cX2_move_0 43 rfl
theorem dX2_move_89 : decode cX2_move 89 = .ok (.aload_n 0, 1) := zd_at zo_cX2_move_0 44 rfl
theorem dX2_move_90 : decode cX2_move 90 = .ok (.getfield 12, 3) := zd_at zo_cX2_move_0 45 rfl
theorem dX2_move_93 : decode cX2_move 93 = .ok (.iload_n 1, 1) := zd_at zo_cX2_move_0 46 rfl
theorem dX2_move_94 : decode cX2_move 94 = .ok (.invokevirtual 159, 3) := zd_at zo_cX2_move_0 47 rfl
theorem dX2_move_97 : decode cX2_move 97 = .ok (.aload_n 0, 1) := zd_at zo_cX2_move_0 48 rfl
theorem dX2_move_98 : decode cX2_move 98 = .ok (.getfield 12, 3) := zd_at zo_cX2_move_0 49 rfl
theorem dX2_move_101 : decode cX2_move 101 = .ok (.iload_n 1, 1) := zd_at zo_cX2_move_0 50 rfl
theorem dX2_move_102 : decode cX2_move 102 = .ok (.iload_n 2, 1) := zd_at zo_cX2_move_0 51 rfl
theorem dX2_move_103 : decode cX2_move 103 = .ok (.iload_n 3, 1) := zd_at zo_cX2_move_0 52 rfl
theorem dX2_move_104 : decode cX2_move 104 = .ok (.invokevirtual 170, 3) := zd_at zo_cX2_move_0 53 rfl
theorem dX2_move_107 : decode cX2_move 107 = .ok (.aload_n 0, 1) := zd_at zo_cX2_move_0 54 rfl
theorem dX2_move_108 : decode cX2_move 108 = .ok (.getfield 12, 3) := zd_at zo_cX2_move_0 55 rfl
theorem dX2_move_111 : decode cX2_move 111 = .ok (.iload_n 1, 1) := zd_at zo_cX2_move_0 56 rfl
theorem dX2_move_112 : decode cX2_move 112 = .ok (.invokevirtual 147, 3) := zd_at zo_cX2_move_0 57 rfl
theorem dX2_move_115 : decode cX2_move 115 = .ok (.aload_n 0, 1) := zd_at zo_cX2_move_0 58 rfl
theorem dX2_move_116 : decode cX2_move 116 = .ok (.getfield 12, 3) := zd_at zo_cX2_move_0 59 rfl
theorem dX2_move_119 : decode cX2_move 119 = .ok (.aload_n 0, 1) := zd_at zo_cX2_move_0 60 rfl
theorem dX2_move_120 : decode cX2_move 120 = .ok (.getfield 12, 3) := zd_at zo_cX2_move_0 61 rfl
theorem dX2_move_123 : decode cX2_move 123 = .ok (.iload_n 1, 1) := zd_at zo_cX2_move_0 62 rfl
theorem dX2_move_124 : decode cX2_move 124 = .ok (.invokevirtual 101, 3) := zd_at zo_cX2_move_0 63 rfl
theorem dX2_move_127 : decode cX2_move 127 = .ok (.invokevirtual 104, 3) := zd_at zo_cX2_move_0 64 rfl
theorem dX2_move_130 : decode cX2_move 130 = .ok (.ireturn, 1) := zd_at zo_cX2_move_0 65 rfl
def zl_cX2_undo_0 : List (Nat × Instr × Nat) := [(0, .aload_n 0, 1), (1, .getfield 174, 3), (4, .ifCond .ne 13, 3), (7, .new 48, 3), (10, .dup, 1), (11, .ldc 177, 2), (13, .invokespecial 52, 3), (16, .athrow, 1), (17, .aload_n 0, 1), (18, .dup, 1), (19, .getfield 174, 3), (22, .iconst 1, 1), (23, .isub, 1), (24, .putfield 174, 3), (27, .aload_n 0, 1), (28, .getfield 12, 3), (31, .aload_n 0, 1), (32, .getfield 19, 3), (35, .aload_n 0, 1), (36, .getfield 179, 3), (39, .aload_n 0, 1), (40, .getfield 174, 3), (43, .iadd, 1), (44, .bipush 14, 2), (46, .irem, 1), (47, .invokestatic 182, 3), (50, .invokevirtual 186, 3), (53, .aload_n 0, 1), (54, .getfield 174, 3), (57, .ireturn, 1)]
theorem zo_cX2_undo_0 : zd_ok cX2_undo zl_cX2_undo_0 = true := by decide +kernel
theorem dX2_undo_0 : decode cX2_undo 0 = .ok (.aload_n 0, 1) := zd_at zo_cX2_undo_0 0 rfl
theorem dX2_undo_1 : decode cX2_undo 1 = .ok (.getfield 174, 3) := zd_at zo_cX2_undo_0 1 rfl
theorem dX2_undo_4 : decode cX2_undo 4 = .ok (.ifCond .ne 13, 3) := zd_at zo_cX2_undo_0 2 rfl
theorem dX2_undo_7 : decode cX2_undo 7 = .ok (.new 48, 3) := zd_at zo_cX2_undo_0 3 rfl
theorem dX2_undo_10 : decode cX2_undo 10 = .ok (.dup, 1) := zd_at zo_cX2_undo_0 4 rfl
theorem dX2_undo_11 : decode cX2_undo 11 = .ok (.ldc 177, 2) := zd_at zo_cX2_undo_0 5 rfl
theorem dX2_undo_13 : decode cX2_undo 13 = .ok (.invokespecial 52, 3) := zd_at zo_cX2_undo_0 6 rfl
theorem dX2_undo_16 : decode cX2_undo 16 = .ok (.athrow, 1) := zd_at zo_cX2_undo_0 7 rfl
theorem dX2_undo_17 : decode cX2_undo 17 = .ok (.aload_n 0, 1) := zd_at zo_cX2_undo_0 8 rfl
theorem dX2_undo_18 : decode cX2_undo 18 = .ok (.dup, 1) := zd_at zo_cX2_undo_0 9 rfl
theorem dX2_undo_19 : decode cX2_undo 19 = .ok (.getfield 174, 3) := zd_at zo_cX2_undo_0 10 rfl
theorem dX2_undo_22 : decode cX2_undo 22 = .ok (.iconst 1, 1) := zd_at zo_cX2_undo_0 11 rfl
theorem dX2_undo_23 : decode cX2_undo 23 = .ok (.isub, 1) := zd_at zo_cX2_undo_0 12 rfl
theorem dX2_undo_24 : decode cX2_undo 24 = .ok (.putfield 174, 3) := zd_at zo_cX2_undo_0 13 rfl
theorem dX2_undo_27 : decode cX2_undo 27 = .ok (.aload_n 0, 1) := zd_at zo_cX2_undo_0 14 rfl
theorem dX2_undo_28 : decode cX2_undo 28 = .ok (.getfield 12, 3) := zd_at zo_cX2_undo_0 15 rfl
theorem dX2_undo_31 : decode cX2_undo 31 = .ok (.aload_n 0, 1) := zd_at zo_cX2_undo_0 16 rfl
theorem dX2_undo_32 : decode cX2_undo 32 = .ok (.getfield 19, 3) := zd_at zo_cX2_undo_0 17 rfl
theorem dX2_undo_35 : decode cX2_undo 35 = .ok (.aload_n 0, 1) := zd_at zo_cX2_undo_0 18 rfl
theorem dX2_undo_36 : decode cX2_undo 36 = .ok (.getfield 179, 3) := zd_at zo_cX2_undo_0 19 rfl
theorem dX2_undo_39 : decode cX2_undo 39 = .ok (.aload_n 0, 1) := zd_at zo_cX2_undo_0 20 rfl
theorem dX2_undo_40 : decode cX2_undo 40 = .ok (.getfield 174, 3) := zd_at zo_cX2_undo_0 21 rfl
theorem dX2_undo_43 : decode cX2_undo 43 = .ok (.iadd, 1) := zd_at zo_cX2_undo_0 22 rfl
theorem dX2_undo_44 : decode cX2_undo 44 = .ok (.bipush 14, 2) := zd_at zo_cX2_undo_0 23 rfl
theorem dX2_undo_46 : decode cX2_undo 46 = .ok (.irem, 1) := zd_at zo_cX2_undo_0 24 rfl
theorem dX2_undo_47 : decode cX2_undo 47 = .ok (.invokestatic 182, 3) := zd_at zo_cX2_undo_0 25 rfl
theorem dX2_undo_50 : decode cX2_undo 50 = .ok (.invokevirtual 186, 3) := zd_at zo_cX2_undo_0 26 rfl
theorem dX2_undo_53 : decode cX2_undo 53 = .ok (.aload_n 0, 1) := zd_at zo_cX2_undo_0 27 rfl
theorem dX2_undo_54 : decode cX2_undo 54 = .ok (.getfield 174, 3) := zd_at zo_cX2_undo_0 28 rfl
theorem dX2_undo_57 : decode cX2_undo 57 = .ok (.ireturn, 1) := zd_at zo_cX2_undo_0 29 rfl
def zl_cX2_window_0 : List (Nat × Instr × Nat) := [(0, .iload_n 1, 1), (1, .iload_n 2, 1), (2, .iload_n 3, 1), (3, .iload 4, 2), (5, .invokestatic 126, 3), (8, .ifCond .ne 13, 3), (11, .new 37, 3), (14, .dup, 1), (15, .ldc 130, 2), (17, .invokespecial 41, 3), (20, .athrow, 1), (21, .aload_n 0, 1), (22, .getfield 12, 3), (25, .bipush 48, 2), (27, .iload_n 1, 1), (28, .iload_n 2, 1), (29, .iload_n 3, 1), (30, .iload 4, 2), (32, .invokevirtual 143, 3), (35, .iconst 0, 1), (36, .istore 5, 2), (38, .iconst 0, 1), (39, .istore 6, 2), (41, .iload 6, 2), (43, .bipush 24, 2), (45, .if_icmp .ge 44, 3), (48, .aload_n 0, 1), (49, .getfield 12, 3), (52, .iload 6, 2), (54, .invokevirtual 90, 3), (57, .ifCond .eq 26, 3), (60, .aload_n 0, 1), (61, .getfield 12, 3), (64, .iload 6, 2), (66, .bipush 48, 2), (68, .invokevirtual 190, 3), (71, .ifCond .le 12, 3), (74, .iload 5, 2), (76, .iconst 1, 1), (77, .iload 6, 2), (79, .ishl, 1), (80, .ior, 1), (81, .istore 5, 2), (83, .iinc 6 1, 3), (86, .goto (-45), 3), (89, .iload 5, 2), (91, .ireturn, 1)]
theorem zo_cX2_window_0 : zd_ok cX2_window zl_cX2_window_0 = true := by decide +kernel
theorem dX2_window_0 : decode cX2_window 0 = .ok (.iload_n 1, 1) := zd_at zo_cX2_window_0 0 rfl
theorem dX2_window_1 : decode cX2_window 1 = .ok (.iload_n 2, 1) := zd_at zo_cX2_window_0 1 rfl
theorem dX2_window_2 : decode cX2_window 2 = .ok (.iload_n 3, 1) := zd_at zo_cX2_window_0 2 rfl
theorem dX2_window_3 : decode cX2_window 3 = .ok (.iload 4, 2) := zd_at zo_cX2_window_0 3 rfl
theorem dX2_window_5 : decode cX2_window 5 = .ok (.invokestatic 126, 3) := zd_at zo_cX2_window_0 4 rfl
theorem dX2_window_8 : decode cX2_window 8 = .ok (.ifCond .ne 13, 3) := zd_at zo_cX2_window_0 5 rfl
theorem dX2_window_11 : decode cX2_window 11 = .ok (.new 37, 3) := zd_at zo_cX2_window_0 6 rfl
theorem dX2_window_14 : decode cX2_window 14 = .ok (.dup, 1) := zd_at zo_cX2_window_0 7 rfl
theorem dX2_window_15 : decode cX2_window 15 = .ok (.ldc 130, 2) := zd_at zo_cX2_window_0 8 rfl
theorem dX2_window_17 : decode cX2_window 17 = .ok (.invokespecial 41, 3) := zd_at zo_cX2_window_0 9 rfl
theorem dX2_window_20 : decode cX2_window 20 = .ok (.athrow, 1) := zd_at zo_cX2_window_0 10 rfl
theorem dX2_window_21 : decode cX2_window 21 = .ok (.aload_n 0, 1) := zd_at zo_cX2_window_0 11 rfl
theorem dX2_window_22 : decode cX2_window 22 = .ok (.getfield 12, 3) := zd_at zo_cX2_window_0 12 rfl
theorem dX2_window_25 : decode cX2_window 25 = .ok (.bipush 48, 2) := zd_at zo_cX2_window_0 13 rfl
theorem dX2_window_27 : decode cX2_window 27 = .ok (.iload_n 1, 1) := zd_at zo_cX2_window_0 14 rfl
theorem dX2_window_28 : decode cX2_window 28 = .ok (.iload_n 2, 1) := zd_at zo_cX2_window_0 15 rfl
theorem dX2_window_29 : decode cX2_window 29 = .ok (.iload_n 3, 1) := zd_at zo_cX2_window_0 16 rfl
theorem dX2_window_30 : decode cX2_window 30 = .ok (.iload 4, 2) := zd_at zo_cX2_window_0 17 rfl
theorem dX2_window_32 : decode cX2_window 32 = .ok (.invokevirtual 143, 3) := zd_at zo_cX2_window_0 18 rfl
theorem dX2_window_35 : decode cX2_window 35 = .ok (.iconst 0, 1) := zd_at zo_cX2_window_0 19 rfl
theorem dX2_window_36 : decode cX2_window 36 = .ok (.istore 5, 2) := zd_at zo_cX2_window_0 20 rfl
theorem dX2_window_38 : decode cX2_window 38 = .ok (.iconst 0, 1) := zd_at zo_cX2_window_0 21 rfl
theorem dX2_window_39 : decode cX2_window 39 = .ok (.istore 6, 2) := zd_at zo_cX2_window_0 22 rfl
theorem dX2_window_41 : decode cX2_window 41 = .ok (.iload 6, 2) := zd_at zo_cX2_window_0 23 rfl
theorem dX2_window_43 : decode cX2_window 43 = .ok (.bipush 24, 2) := zd_at zo_cX2_window_0 24 rfl
theorem dX2_window_45 : decode cX2_window 45 = .ok (.if_icmp .ge 44, 3) := zd_at zo_cX2_window_0 25 rfl
theorem dX2_window_48 : decode cX2_window 48 = .ok (.aload_n 0, 1) := zd_at zo_cX2_window_0 26 rfl
theorem dX2_window_49 : decode cX2_window 49 = .ok (.getfield 12, 3) := zd_at zo_cX2_window_0 27 rfl
theorem dX2_window_52 : decode cX2_window 52 = .ok (.iload 6, 2) := zd_at zo_cX2_window_0 28 rfl
theorem dX2_window_54 : decode cX2_window 54 = .ok (.invokevirtual 90, 3) := zd_at zo_cX2_window_0 29 rfl
theorem dX2_window_57 : decode cX2_window 57 = .ok (.ifCond .eq 26, 3) := zd_at zo_cX2_window_0 30 rfl
theorem dX2_window_60 : decode cX2_window 60 = .ok (.aload_n 0, 1) := zd_at zo_cX2_window_0 31 rfl
theorem dX2_window_61 : decode cX2_window 61 = .ok (.getfield 12, 3) := zd_at zo_cX2_window_0 32 rfl
theorem dX2_window_64 : decode cX2_window 64 = .ok (.iload 6, 2) := zd_at zo_cX2_window_0 33 rfl
theorem dX2_window_66 : decode cX2_window 66 = .ok (.bipush 48, 2) := zd_at zo_cX2_window_0 34 rfl
theorem dX2_window_68 : decode cX2_window 68 = .ok (.invokevirtual 190, 3) := zd_at zo_cX2_window_0 35 rfl
theorem dX2_window_71 : decode cX2_window 71 = .ok (.ifCond .le 12, 3) := zd_at zo_cX2_window_0 36 rfl
theorem dX2_window_74 : decode cX2_window 74 = .ok (.iload 5, 2) := zd_at zo_cX2_window_0 37 rfl
theorem dX2_window_76 : decode cX2_window 76 = .ok (.iconst 1, 1) := zd_at zo_cX2_window_0 38 rfl
theorem dX2_window_77 : decode cX2_window 77 = .ok (.iload 6, 2) := zd_at zo_cX2_window_0 39 rfl
theorem dX2_window_79 : decode cX2_window 79 = .ok (.ishl, 1) := zd_at zo_cX2_window_0 40 rfl
theorem dX2_window_80 : decode cX2_window 80 = .ok (.ior, 1) := zd_at zo_cX2_window_0 41 rfl
theorem dX2_window_81 : decode cX2_window 81 = .ok (.istore 5, 2) := zd_at zo_cX2_window_0 42 rfl
theorem dX2_window_83 : decode cX2_window 83 = .ok (.iinc 6 1, 3) := zd_at zo_cX2_window_0 43 rfl
theorem dX2_window_86 : decode cX2_window 86 = .ok (.goto (-45), 3) := zd_at zo_cX2_window_0 44 rfl
theorem dX2_window_89 : decode cX2_window 89 = .ok (.iload 5, 2) := zd_at zo_cX2_window_0 45 rfl
theorem dX2_window_91 : decode cX2_window 91 = .ok (.ireturn, 1) := zd_at zo_cX2_window_0 46 rfl
def zl_cX2_looks_0 : List (Nat × Instr × Nat) := [(0, .iload_n 1, 1), (1, .iload_n 2, 1), (2, .iload_n 3, 1), (3, .iload 4, 2), (5, .invokestatic 126, 3), (8, .ifCond .ne 13, 3), (11, .new 37, 3), (14, .dup, 1), (15, .ldc 130, 2), (17, .invokespecial 41, 3), (20, .athrow, 1), (21, .aload_n 0, 1), (22, .getfield 12, 3), (25, .bipush 48, 2), (27, .iload_n 1, 1), (28, .iload_n 2, 1), (29, .iload_n 3, 1), (30, .iload 4, 2), (32, .invokevirtual 143, 3), (35, .aload_n 0, 1), (36, .getfield 12, 3), (39, .bipush 48, 2), (41, .invokevirtual 193, 3), (44, .ireturn, 1)]
theorem zo_cX2_looks_0 : zd_ok cX2_looks zl_cX2_looks_0 = true := by decide +kernel
theorem dX2_looks_0 : decode cX2_looks 0 = .ok (.iload_n 1, 1) := zd_at zo_cX2_looks_0 0 rfl
theorem dX2_looks_1 : decode cX2_looks 1 = .ok (.iload_n 2, 1) := zd_at zo_cX2_looks_0 1 rfl
theorem dX2_looks_2 : decode cX2_looks 2 = .ok (.iload_n 3, 1) := zd_at zo_cX2_looks_0 2 rfl
theorem dX2_looks_3 : decode cX2_looks 3 = .ok (.iload 4, 2) := zd_at zo_cX2_looks_0 3 rfl
theorem dX2_looks_5 : decode cX2_looks 5 = .ok (.invokestatic 126, 3) := zd_at zo_cX2_looks_0 4 rfl
theorem dX2_looks_8 : decode cX2_looks 8 = .ok (.ifCond .ne 13, 3) := zd_at zo_cX2_looks_0 5 rfl
theorem dX2_looks_11 : decode cX2_looks 11 = .ok (.new 37, 3) := zd_at zo_cX2_looks_0 6 rfl
theorem dX2_looks_14 : decode cX2_looks 14 = .ok (.dup, 1) := zd_at zo_cX2_looks_0 7 rfl
theorem dX2_looks_15 : decode cX2_looks 15 = .ok (.ldc 130, 2) := zd_at zo_cX2_looks_0 8 rfl
theorem dX2_looks_17 : decode cX2_looks 17 = .ok (.invokespecial 41, 3) := zd_at zo_cX2_looks_0 9 rfl
theorem dX2_looks_20 : decode cX2_looks 20 = .ok (.athrow, 1) := zd_at zo_cX2_looks_0 10 rfl
theorem dX2_looks_21 : decode cX2_looks 21 = .ok (.aload_n 0, 1) := zd_at zo_cX2_looks_0 11 rfl
theorem dX2_looks_22 : decode cX2_looks 22 = .ok (.getfield 12, 3) := zd_at zo_cX2_looks_0 12 rfl
theorem dX2_looks_25 : decode cX2_looks 25 = .ok (.bipush 48, 2) := zd_at zo_cX2_looks_0 13 rfl
theorem dX2_looks_27 : decode cX2_looks 27 = .ok (.iload_n 1, 1) := zd_at zo_cX2_looks_0 14 rfl
theorem dX2_looks_28 : decode cX2_looks 28 = .ok (.iload_n 2, 1) := zd_at zo_cX2_looks_0 15 rfl
theorem dX2_looks_29 : decode cX2_looks 29 = .ok (.iload_n 3, 1) := zd_at zo_cX2_looks_0 16 rfl
theorem dX2_looks_30 : decode cX2_looks 30 = .ok (.iload 4, 2) := zd_at zo_cX2_looks_0 17 rfl
theorem dX2_looks_32 : decode cX2_looks 32 = .ok (.invokevirtual 143, 3) := zd_at zo_cX2_looks_0 18 rfl
theorem dX2_looks_35 : decode cX2_looks 35 = .ok (.aload_n 0, 1) := zd_at zo_cX2_looks_0 19 rfl
theorem dX2_looks_36 : decode cX2_looks 36 = .ok (.getfield 12, 3) := zd_at zo_cX2_looks_0 20 rfl
theorem dX2_looks_39 : decode cX2_looks 39 = .ok (.bipush 48, 2) := zd_at zo_cX2_looks_0 21 rfl
theorem dX2_looks_41 : decode cX2_looks 41 = .ok (.invokevirtual 193, 3) := zd_at zo_cX2_looks_0 22 rfl
theorem dX2_looks_44 : decode cX2_looks 44 = .ok (.ireturn, 1) := zd_at zo_cX2_looks_0 23 rfl
def zl_cX2_nearest_0 : List (Nat × Instr × Nat) := [(0, .iload_n 1, 1), (1, .iload_n 2, 1), (2, .invokestatic 196, 3), (5, .ifCond .ne 13, 3), (8, .new 37, 3), (11, .dup, 1), (12, .ldc 200, 2), (14, .invokespecial 41, 3), (17, .athrow, 1), (18, .iload_n 3, 1), (19, .ifCond .ge 13, 3), (22, .new 37, 3), (25, .dup, 1), (26, .ldc 121, 2), (28, .invokespecial 41, 3), (31, .athrow, 1), (32, .aload_n 0, 1), (33, .getfield 12, 3), (36, .iload_n 1, 1), (37, .iload_n 2, 1), (38, .iload_n 3, 1), (39, .invokevirtual 202, 3), (42, .ireturn, 1)]
theorem zo_cX2_nearest_0 : zd_ok cX2_nearest zl_cX2_nearest_0 = true := by decide +kernel
theorem dX2_nearest_0 : decode cX2_nearest 0 = .ok (.iload_n 1, 1) := zd_at zo_cX2_nearest_0 0 rfl
theorem dX2_nearest_1 : decode cX2_nearest 1 = .ok (.iload_n 2, 1) := zd_at zo_cX2_nearest_0 1 rfl
theorem dX2_nearest_2 : decode cX2_nearest 2 = .ok (.invokestatic 196, 3) := zd_at zo_cX2_nearest_0 2 rfl
theorem dX2_nearest_5 : decode cX2_nearest 5 = .ok (.ifCond .ne 13, 3) := zd_at zo_cX2_nearest_0 3 rfl
theorem dX2_nearest_8 : decode cX2_nearest 8 = .ok (.new 37, 3) := zd_at zo_cX2_nearest_0 4 rfl
theorem dX2_nearest_11 : decode cX2_nearest 11 = .ok (.dup, 1) := zd_at zo_cX2_nearest_0 5 rfl
theorem dX2_nearest_12 : decode cX2_nearest 12 = .ok (.ldc 200, 2) := zd_at zo_cX2_nearest_0 6 rfl
theorem dX2_nearest_14 : decode cX2_nearest 14 = .ok (.invokespecial 41, 3) := zd_at zo_cX2_nearest_0 7 rfl
theorem dX2_nearest_17 : decode cX2_nearest 17 = .ok (.athrow, 1) := zd_at zo_cX2_nearest_0 8 rfl
theorem dX2_nearest_18 : decode cX2_nearest 18 = .ok (.iload_n 3, 1) := zd_at zo_cX2_nearest_0 9 rfl
theorem dX2_nearest_19 : decode cX2_nearest 19 = .ok (.ifCond .ge 13, 3) := zd_at zo_cX2_nearest_0 10 rfl
theorem dX2_nearest_22 : decode cX2_nearest 22 = .ok (.new 37, 3) := zd_at zo_cX2_nearest_0 11 rfl
theorem dX2_nearest_25 : decode cX2_nearest 25 = .ok (.dup, 1) := zd_at zo_cX2_nearest_0 12 rfl
theorem dX2_nearest_26 : decode cX2_nearest 26 = .ok (.ldc 121, 2) := zd_at zo_cX2_nearest_0 13 rfl
theorem dX2_nearest_28 : decode cX2_nearest 28 = .ok (.invokespecial 41, 3) := zd_at zo_cX2_nearest_0 14 rfl
theorem dX2_nearest_31 : decode cX2_nearest 31 = .ok (.athrow, 1) := zd_at zo_cX2_nearest_0 15 rfl
theorem dX2_nearest_32 : decode cX2_nearest 32 = .ok (.aload_n 0, 1) := zd_at zo_cX2_nearest_0 16 rfl
theorem dX2_nearest_33 : decode cX2_nearest 33 = .ok (.getfield 12, 3) := zd_at zo_cX2_nearest_0 17 rfl
theorem dX2_nearest_36 : decode cX2_nearest 36 = .ok (.iload_n 1, 1) := zd_at zo_cX2_nearest_0 18 rfl
theorem dX2_nearest_37 : decode cX2_nearest 37 = .ok (.iload_n 2, 1) := zd_at zo_cX2_nearest_0 19 rfl
theorem dX2_nearest_38 : decode cX2_nearest 38 = .ok (.iload_n 3, 1) := zd_at zo_cX2_nearest_0 20 rfl
theorem dX2_nearest_39 : decode cX2_nearest 39 = .ok (.invokevirtual 202, 3) := zd_at zo_cX2_nearest_0 21 rfl
theorem dX2_nearest_42 : decode cX2_nearest 42 = .ok (.ireturn, 1) := zd_at zo_cX2_nearest_0 22 rfl
def zl_cX2_chosen_0 : List (Nat × Instr × Nat) := [(0, .iload_n 1, 1), (1, .iload_n 2, 1), (2, .iload_n 3, 1), (3, .iload 4, 2), (5, .invokestatic 126, 3), (8, .ifCond .ne 13, 3), (11, .new 37, 3), (14, .dup, 1), (15, .ldc 130, 2), (17, .invokespecial 41, 3), (20, .athrow, 1), (21, .aload_n 0, 1), (22, .getfield 12, 3), (25, .bipush 48, 2), (27, .iload_n 1, 1), (28, .iload_n 2, 1), (29, .iload_n 3, 1), (30, .iload 4, 2), (32, .invokevirtual 143, 3), (35, .aload_n 0, 1), (36, .getfield 12, 3), (39, .aload_n 0, 1), (40, .getfield 12, 3), (43, .bipush 48, 2), (45, .iconst 0, 1), (46, .invokevirtual 206, 3), (49, .invokevirtual 104, 3), (52, .ireturn, 1)]
theorem zo_cX2_chosen_0 : zd_ok cX2_chosen zl_cX2_chosen_0 = true := by decide +kernel
theorem dX2_chosen_0 : decode cX2_chosen 0 = .ok (.iload_n 1, 1) := zd_at zo_cX2_chosen_0 0 rfl
theorem dX2_chosen_1 : decode cX2_chosen 1 = .ok (.iload_n 2, 1) := zd_at zo_cX2_chosen_0 1 rfl
theorem dX2_chosen_2 : decode cX2_chosen 2 = .ok (.iload_n 3, 1) := zd_at zo_cX2_chosen_0 2 rfl
theorem dX2_chosen_3 : decode cX2_chosen 3 = .ok (.iload 4, 2) := zd_at zo_cX2_chosen_0 3 rfl
theorem dX2_chosen_5 : decode cX2_chosen 5 = .ok (.invokestatic 126, 3) := zd_at zo_cX2_chosen_0 4 rfl
theorem dX2_chosen_8 : decode cX2_chosen 8 = .ok (.ifCond .ne 13, 3) := zd_at zo_cX2_chosen_0 5 rfl
theorem dX2_chosen_11 : decode cX2_chosen 11 = .ok (.new 37, 3) := zd_at zo_cX2_chosen_0 6 rfl
theorem dX2_chosen_14 : decode cX2_chosen 14 = .ok (.dup, 1) := zd_at zo_cX2_chosen_0 7 rfl
theorem dX2_chosen_15 : decode cX2_chosen 15 = .ok (.ldc 130, 2) := zd_at zo_cX2_chosen_0 8 rfl
theorem dX2_chosen_17 : decode cX2_chosen 17 = .ok (.invokespecial 41, 3) := zd_at zo_cX2_chosen_0 9 rfl
theorem dX2_chosen_20 : decode cX2_chosen 20 = .ok (.athrow, 1) := zd_at zo_cX2_chosen_0 10 rfl
theorem dX2_chosen_21 : decode cX2_chosen 21 = .ok (.aload_n 0, 1) := zd_at zo_cX2_chosen_0 11 rfl
theorem dX2_chosen_22 : decode cX2_chosen 22 = .ok (.getfield 12, 3) := zd_at zo_cX2_chosen_0 12 rfl
theorem dX2_chosen_25 : decode cX2_chosen 25 = .ok (.bipush 48, 2) := zd_at zo_cX2_chosen_0 13 rfl
theorem dX2_chosen_27 : decode cX2_chosen 27 = .ok (.iload_n 1, 1) := zd_at zo_cX2_chosen_0 14 rfl
theorem dX2_chosen_28 : decode cX2_chosen 28 = .ok (.iload_n 2, 1) := zd_at zo_cX2_chosen_0 15 rfl
theorem dX2_chosen_29 : decode cX2_chosen 29 = .ok (.iload_n 3, 1) := zd_at zo_cX2_chosen_0 16 rfl
theorem dX2_chosen_30 : decode cX2_chosen 30 = .ok (.iload 4, 2) := zd_at zo_cX2_chosen_0 17 rfl
theorem dX2_chosen_32 : decode cX2_chosen 32 = .ok (.invokevirtual 143, 3) := zd_at zo_cX2_chosen_0 18 rfl
theorem dX2_chosen_35 : decode cX2_chosen 35 = .ok (.aload_n 0, 1) := zd_at zo_cX2_chosen_0 19 rfl
theorem dX2_chosen_36 : decode cX2_chosen 36 = .ok (.getfield 12, 3) := zd_at zo_cX2_chosen_0 20 rfl
theorem dX2_chosen_39 : decode cX2_chosen 39 = .ok (.aload_n 0, 1) := zd_at zo_cX2_chosen_0 21 rfl
theorem dX2_chosen_40 : decode cX2_chosen 40 = .ok (.getfield 12, 3) := zd_at zo_cX2_chosen_0 22 rfl
theorem dX2_chosen_43 : decode cX2_chosen 43 = .ok (.bipush 48, 2) := zd_at zo_cX2_chosen_0 23 rfl
theorem dX2_chosen_45 : decode cX2_chosen 45 = .ok (.iconst 0, 1) := zd_at zo_cX2_chosen_0 24 rfl
theorem dX2_chosen_46 : decode cX2_chosen 46 = .ok (.invokevirtual 206, 3) := zd_at zo_cX2_chosen_0 25 rfl
theorem dX2_chosen_49 : decode cX2_chosen 49 = .ok (.invokevirtual 104, 3) := zd_at zo_cX2_chosen_0 26 rfl
theorem dX2_chosen_52 : decode cX2_chosen 52 = .ok (.ireturn, 1) := zd_at zo_cX2_chosen_0 27 rfl
def zl_cX2_ifAdded_0 : List (Nat × Instr × Nat) := [(0, .iload_n 1, 1), (1, .iload_n 2, 1), (2, .iload_n 3, 1), (3, .iload 4, 2), (5, .invokestatic 126, 3), (8, .ifCond .ne 13, 3), (11, .new 37, 3), (14, .dup, 1), (15, .ldc 130, 2), (17, .invokespecial 41, 3), (20, .athrow, 1), (21, .aload_n 0, 1), (22, .getfield 12, 3), (25, .invokevirtual 61, 3), (28, .bipush 24, 2), (30, .if_icmp .lt 6, 3), (33, .ldc 209, 2), (35, .ireturn, 1), (36, .aload_n 0, 1), (37, .getfield 16, 3), (40, .aload_n 0, 1), (41, .getfield 12, 3), (44, .invokevirtual 186, 3), (47, .aload_n 0, 1), (48, .iload_n 1, 1), (49, .iload_n 2, 1), (50, .iload_n 3, 1), (51, .iload 4, 2), (53, .invokevirtual 210, 3), (56, .aload_n 0, 1), (57, .getfield 16, 3), (60, .invokevirtual 73, 3), (63, .aload_n 0, 1), (64, .getfield 12, 3), (67, .invokevirtual 73, 3), (70, .isub, 1), (71, .ireturn, 1)]
theorem zo_cX2_ifAdded_0 : zd_ok cX2_ifAdded zl_cX2_ifAdded_0 = true := by decide +kernel
theorem dX2_ifAdded_0 : decode cX2_ifAdded 0 = .ok (.iload_n 1, 1) := zd_at zo_cX2_ifAdded_0 0 rfl
theorem dX2_ifAdded_1 : decode cX2_ifAdded 1 = .ok (.iload_n 2, 1) := zd_at zo_cX2_ifAdded_0 1 rfl
theorem dX2_ifAdded_2 : decode cX2_ifAdded 2 = .ok (.iload_n 3, 1) := zd_at zo_cX2_ifAdded_0 2 rfl
theorem dX2_ifAdded_3 : decode cX2_ifAdded 3 = .ok (.iload 4, 2) := zd_at zo_cX2_ifAdded_0 3 rfl
theorem dX2_ifAdded_5 : decode cX2_ifAdded 5 = .ok (.invokestatic 126, 3) := zd_at zo_cX2_ifAdded_0 4 rfl
theorem dX2_ifAdded_8 : decode cX2_ifAdded 8 = .ok (.ifCond .ne 13, 3) := zd_at zo_cX2_ifAdded_0 5 rfl
theorem dX2_ifAdded_11 : decode cX2_ifAdded 11 = .ok (.new 37, 3) := zd_at zo_cX2_ifAdded_0 6 rfl
theorem dX2_ifAdded_14 : decode cX2_ifAdded 14 = .ok (.dup, 1) := zd_at zo_cX2_ifAdded_0 7 rfl
theorem dX2_ifAdded_15 : decode cX2_ifAdded 15 = .ok (.ldc 130, 2) := zd_at zo_cX2_ifAdded_0 8 rfl
theorem dX2_ifAdded_17 : decode cX2_ifAdded 17 = .ok (.invokespecial 41, 3) := zd_at zo_cX2_ifAdded_0 9 rfl
theorem dX2_ifAdded_20 : decode cX2_ifAdded 20 = .ok (.athrow, 1) := zd_at zo_cX2_ifAdded_0 10 rfl
theorem dX2_ifAdded_21 : decode cX2_ifAdded 21 = .ok (.aload_n 0, 1) := zd_at zo_cX2_ifAdded_0 11 rfl
theorem dX2_ifAdded_22 : decode cX2_ifAdded 22 = .ok (.getfield 12, 3) := zd_at zo_cX2_ifAdded_0 12 rfl
theorem dX2_ifAdded_25 : decode cX2_ifAdded 25 = .ok (.invokevirtual 61, 3) := zd_at zo_cX2_ifAdded_0 13 rfl
theorem dX2_ifAdded_28 : decode cX2_ifAdded 28 = .ok (.bipush 24, 2) := zd_at zo_cX2_ifAdded_0 14 rfl
theorem dX2_ifAdded_30 : decode cX2_ifAdded 30 = .ok (.if_icmp .lt 6, 3) := zd_at zo_cX2_ifAdded_0 15 rfl
theorem dX2_ifAdded_33 : decode cX2_ifAdded 33 = .ok (.ldc 209, 2) := zd_at zo_cX2_ifAdded_0 16 rfl
theorem dX2_ifAdded_35 : decode cX2_ifAdded 35 = .ok (.ireturn, 1) := zd_at zo_cX2_ifAdded_0 17 rfl
theorem dX2_ifAdded_36 : decode cX2_ifAdded 36 = .ok (.aload_n 0, 1) := zd_at zo_cX2_ifAdded_0 18 rfl
theorem dX2_ifAdded_37 : decode cX2_ifAdded 37 = .ok (.getfield 16, 3) := zd_at zo_cX2_ifAdded_0 19 rfl
theorem dX2_ifAdded_40 : decode cX2_ifAdded 40 = .ok (.aload_n 0, 1) := zd_at zo_cX2_ifAdded_0 20 rfl
theorem dX2_ifAdded_41 : decode cX2_ifAdded 41 = .ok (.getfield 12, 3) := zd_at zo_cX2_ifAdded_0 21 rfl
theorem dX2_ifAdded_44 : decode cX2_ifAdded 44 = .ok (.invokevirtual 186, 3) := zd_at zo_cX2_ifAdded_0 22 rfl
theorem dX2_ifAdded_47 : decode cX2_ifAdded 47 = .ok (.aload_n 0, 1) := zd_at zo_cX2_ifAdded_0 23 rfl
theorem dX2_ifAdded_48 : decode cX2_ifAdded 48 = .ok (.iload_n 1, 1) := zd_at zo_cX2_ifAdded_0 24 rfl
theorem dX2_ifAdded_49 : decode cX2_ifAdded 49 = .ok (.iload_n 2, 1) := zd_at zo_cX2_ifAdded_0 25 rfl
theorem dX2_ifAdded_50 : decode cX2_ifAdded 50 = .ok (.iload_n 3, 1) := zd_at zo_cX2_ifAdded_0 26 rfl
theorem dX2_ifAdded_51 : decode cX2_ifAdded 51 = .ok (.iload 4, 2) := zd_at zo_cX2_ifAdded_0 27 rfl
theorem dX2_ifAdded_53 : decode cX2_ifAdded 53 = .ok (.invokevirtual 210, 3) := zd_at zo_cX2_ifAdded_0 28 rfl
theorem dX2_ifAdded_56 : decode cX2_ifAdded 56 = .ok (.aload_n 0, 1) := zd_at zo_cX2_ifAdded_0 29 rfl
theorem dX2_ifAdded_57 : decode cX2_ifAdded 57 = .ok (.getfield 16, 3) := zd_at zo_cX2_ifAdded_0 30 rfl
theorem dX2_ifAdded_60 : decode cX2_ifAdded 60 = .ok (.invokevirtual 73, 3) := zd_at zo_cX2_ifAdded_0 31 rfl
theorem dX2_ifAdded_63 : decode cX2_ifAdded 63 = .ok (.aload_n 0, 1) := zd_at zo_cX2_ifAdded_0 32 rfl
theorem dX2_ifAdded_64 : decode cX2_ifAdded 64 = .ok (.getfield 12, 3) := zd_at zo_cX2_ifAdded_0 33 rfl
theorem dX2_ifAdded_67 : decode cX2_ifAdded 67 = .ok (.invokevirtual 73, 3) := zd_at zo_cX2_ifAdded_0 34 rfl
theorem dX2_ifAdded_70 : decode cX2_ifAdded 70 = .ok (.isub, 1) := zd_at zo_cX2_ifAdded_0 35 rfl
theorem dX2_ifAdded_71 : decode cX2_ifAdded 71 = .ok (.ireturn, 1) := zd_at zo_cX2_ifAdded_0 36 rfl
def zl_cX2_bestRemoval_0 : List (Nat × Instr × Nat) := [(0, .iconst (-1), 1), (1, .istore_n 1, 1), (2, .iconst 0, 1), (3, .istore_n 2, 1), (4, .iconst 0, 1), (5, .istore_n 3, 1), (6, .iload_n 3, 1), (7, .bipush 24, 2), (9, .if_icmp .ge 71, 3), (12, .aload_n 0, 1), (13, .getfield 12, 3), (16, .iload_n 3, 1), (17, .invokevirtual 90, 3), (20, .ifCond .eq 54, 3), (23, .aload_n 0, 1), (24, .getfield 16, 3), (27, .aload_n 0, 1), (28, .getfield 12, 3), (31, .invokevirtual 186, 3), (34, .aload_n 0, 1), (35, .getfield 16, 3), (38, .invokevirtual 140, 3), (41, .aload_n 0, 1), (42, .getfield 16, 3), (45, .iload_n 3, 1), (46, .invokevirtual 159, 3), (49, .aload_n 0, 1), (50, .getfield 16, 3), (53, .invokevirtual 73, 3), (56, .istore 4, 2), (58, .iload_n 1, 1), (59, .iconst (-1), 1), (60, .if_icmp .eq 9, 3), (63, .iload 4, 2), (65, .iload_n 2, 1), (66, .if_icmp .ge 8, 3), (69, .iload_n 3, 1), (70, .istore_n 1, 1), (71, .iload 4, 2), (73, .istore_n 2, 1), (74, .iinc 3 1, 3), (77, .goto (-71), 3), (80, .iload_n 1, 1), (81, .ireturn, 1)]
theorem zo_cX2_bestRemoval_0 : zd_ok cX2_bestRemoval zl_cX2_bestRemoval_0 = true := by decide +kernel
theorem dX2_bestRemoval_0 : decode cX2_bestRemoval 0 = .ok (.iconst (-1), 1) := zd_at zo_cX2_bestRemoval_0 0 rfl
theorem dX2_bestRemoval_1 : decode cX2_bestRemoval 1 = .ok (.istore_n 1, 1) := zd_at zo_cX2_bestRemoval_0 1 rfl
theorem dX2_bestRemoval_2 : decode cX2_bestRemoval 2 = .ok (.iconst 0, 1) := zd_at zo_cX2_bestRemoval_0 2 rfl
theorem dX2_bestRemoval_3 : decode cX2_bestRemoval 3 = .ok (.istore_n 2, 1) := zd_at zo_cX2_bestRemoval_0 3 rfl
theorem dX2_bestRemoval_4 : decode cX2_bestRemoval 4 = .ok (.iconst 0, 1) := zd_at zo_cX2_bestRemoval_0 4 rfl
theorem dX2_bestRemoval_5 : decode cX2_bestRemoval 5 = .ok (.istore_n 3, 1) := zd_at zo_cX2_bestRemoval_0 5 rfl
theorem dX2_bestRemoval_6 : decode cX2_bestRemoval 6 = .ok (.iload_n 3, 1) := zd_at zo_cX2_bestRemoval_0 6 rfl
theorem dX2_bestRemoval_7 : decode cX2_bestRemoval 7 = .ok (.bipush 24, 2) := zd_at zo_cX2_bestRemoval_0 7 rfl
theorem dX2_bestRemoval_9 : decode cX2_bestRemoval 9 = .ok (.if_icmp .ge 71, 3) := zd_at zo_cX2_bestRemoval_0 8 rfl
theorem dX2_bestRemoval_12 : decode cX2_bestRemoval 12 = .ok (.aload_n 0, 1) := zd_at zo_cX2_bestRemoval_0 9 rfl
theorem dX2_bestRemoval_13 : decode cX2_bestRemoval 13 = .ok (.getfield 12, 3) := zd_at zo_cX2_bestRemoval_0 10 rfl
theorem dX2_bestRemoval_16 : decode cX2_bestRemoval 16 = .ok (.iload_n 3, 1) := zd_at zo_cX2_bestRemoval_0 11 rfl
theorem dX2_bestRemoval_17 : decode cX2_bestRemoval 17 = .ok (.invokevirtual 90, 3) := zd_at zo_cX2_bestRemoval_0 12 rfl
theorem dX2_bestRemoval_20 : decode cX2_bestRemoval 20 = .ok (.ifCond .eq 54, 3) := zd_at zo_cX2_bestRemoval_0 13 rfl
theorem dX2_bestRemoval_23 : decode cX2_bestRemoval 23 = .ok (.aload_n 0, 1) := zd_at zo_cX2_bestRemoval_0 14 rfl
theorem dX2_bestRemoval_24 : decode cX2_bestRemoval 24 = .ok (.getfield 16, 3) := zd_at zo_cX2_bestRemoval_0 15 rfl
theorem dX2_bestRemoval_27 : decode cX2_bestRemoval 27 = .ok (.aload_n 0, 1) := zd_at zo_cX2_bestRemoval_0 16 rfl
theorem dX2_bestRemoval_28 : decode cX2_bestRemoval 28 = .ok (.getfield 12, 3) := zd_at zo_cX2_bestRemoval_0 17 rfl
theorem dX2_bestRemoval_31 : decode cX2_bestRemoval 31 = .ok (.invokevirtual 186, 3) := zd_at zo_cX2_bestRemoval_0 18 rfl
theorem dX2_bestRemoval_34 : decode cX2_bestRemoval 34 = .ok (.aload_n 0, 1) := zd_at zo_cX2_bestRemoval_0 19 rfl
theorem dX2_bestRemoval_35 : decode cX2_bestRemoval 35 = .ok (.getfield 16, 3) := zd_at zo_cX2_bestRemoval_0 20 rfl
theorem dX2_bestRemoval_38 : decode cX2_bestRemoval 38 = .ok (.invokevirtual 140, 3) := zd_at zo_cX2_bestRemoval_0 21 rfl
theorem dX2_bestRemoval_41 : decode cX2_bestRemoval 41 = .ok (.aload_n 0, 1) := zd_at zo_cX2_bestRemoval_0 22 rfl
theorem dX2_bestRemoval_42 : decode cX2_bestRemoval 42 = .ok (.getfield 16, 3) := zd_at zo_cX2_bestRemoval_0 23 rfl
theorem dX2_bestRemoval_45 : decode cX2_bestRemoval 45 = .ok (.iload_n 3, 1) := zd_at zo_cX2_bestRemoval_0 24 rfl
theorem dX2_bestRemoval_46 : decode cX2_bestRemoval 46 = .ok (.invokevirtual 159, 3) := zd_at zo_cX2_bestRemoval_0 25 rfl
theorem dX2_bestRemoval_49 : decode cX2_bestRemoval 49 = .ok (.aload_n 0, 1) := zd_at zo_cX2_bestRemoval_0 26 rfl
theorem dX2_bestRemoval_50 : decode cX2_bestRemoval 50 = .ok (.getfield 16, 3) := zd_at zo_cX2_bestRemoval_0 27 rfl
theorem dX2_bestRemoval_53 : decode cX2_bestRemoval 53 = .ok (.invokevirtual 73, 3) := zd_at zo_cX2_bestRemoval_0 28 rfl
theorem dX2_bestRemoval_56 : decode cX2_bestRemoval 56 = .ok (.istore 4, 2) := zd_at zo_cX2_bestRemoval_0 29 rfl
theorem dX2_bestRemoval_58 : decode cX2_bestRemoval 58 = .ok (.iload_n 1, 1) := zd_at zo_cX2_bestRemoval_0 30 rfl
theorem dX2_bestRemoval_59 : decode cX2_bestRemoval 59 = .ok (.iconst (-1), 1) := zd_at zo_cX2_bestRemoval_0 31 rfl
theorem dX2_bestRemoval_60 : decode cX2_bestRemoval 60 = .ok (.if_icmp .eq 9, 3) := zd_at zo_cX2_bestRemoval_0 32 rfl
theorem dX2_bestRemoval_63 : decode cX2_bestRemoval 63 = .ok (.iload 4, 2) := zd_at zo_cX2_bestRemoval_0 33 rfl
theorem dX2_bestRemoval_65 : decode cX2_bestRemoval 65 = .ok (.iload_n 2, 1) := zd_at zo_cX2_bestRemoval_0 34 rfl
theorem dX2_bestRemoval_66 : decode cX2_bestRemoval 66 = .ok (.if_icmp .ge 8, 3) := zd_at zo_cX2_bestRemoval_0 35 rfl
theorem dX2_bestRemoval_69 : decode cX2_bestRemoval 69 = .ok (.iload_n 3, 1) := zd_at zo_cX2_bestRemoval_0 36 rfl
theorem dX2_bestRemoval_70 : decode cX2_bestRemoval 70 = .ok (.istore_n 1, 1) := zd_at zo_cX2_bestRemoval_0 37 rfl
theorem dX2_bestRemoval_71 : decode cX2_bestRemoval 71 = .ok (.iload 4, 2) := zd_at zo_cX2_bestRemoval_0 38 rfl
theorem dX2_bestRemoval_73 : decode cX2_bestRemoval 73 = .ok (.istore_n 2, 1) := zd_at zo_cX2_bestRemoval_0 39 rfl
theorem dX2_bestRemoval_74 : decode cX2_bestRemoval 74 = .ok (.iinc 3 1, 3) := zd_at zo_cX2_bestRemoval_0 40 rfl
theorem dX2_bestRemoval_77 : decode cX2_bestRemoval 77 = .ok (.goto (-71), 3) := zd_at zo_cX2_bestRemoval_0 41 rfl
theorem dX2_bestRemoval_80 : decode cX2_bestRemoval 80 = .ok (.iload_n 1, 1) := zd_at zo_cX2_bestRemoval_0 42 rfl
theorem dX2_bestRemoval_81 : decode cX2_bestRemoval 81 = .ok (.ireturn, 1) := zd_at zo_cX2_bestRemoval_0 43 rfl
def zl_cX2_anew_0 : List (Nat × Instr × Nat) := [(0, .aload_n 0, 1), (1, .getfield 16, 3), (4, .invokevirtual 214, 3), (7, .iconst 0, 1), (8, .istore_n 1, 1), (9, .iload_n 1, 1), (10, .bipush 24, 2), (12, .if_icmp .ge 60, 3), (15, .aload_n 0, 1), (16, .getfield 12, 3), (19, .iload_n 1, 1), (20, .invokevirtual 90, 3), (23, .ifCond .eq 43, 3), (26, .aload_n 0, 1), (27, .aload_n 0, 1), (28, .getfield 12, 3), (31, .iload_n 1, 1), (32, .iconst 0, 1), (33, .invokevirtual 107, 3), (36, .aload_n 0, 1), (37, .getfield 12, 3), (40, .iload_n 1, 1), (41, .iconst 1, 1), (42, .invokevirtual 107, 3), (45, .aload_n 0, 1), (46, .getfield 12, 3), (49, .iload_n 1, 1), (50, .iconst 2, 1), (51, .invokevirtual 107, 3), (54, .aload_n 0, 1), (55, .getfield 12, 3), (58, .iload_n 1, 1), (59, .iconst 3, 1), (60, .invokevirtual 107, 3), (63, .invokevirtual 210, 3), (66, .iinc 1 1, 3), (69, .goto (-60), 3), (72, .aload_n 0, 1), (73, .getfield 16, 3), (76, .invokevirtual 73, 3), (79, .ireturn, 1)]
theorem zo_cX2_anew_0 : zd_ok cX2_anew zl_cX2_anew_0 = true := by decide +kernel
theorem dX2_anew_0 : decode cX2_anew 0 = .ok (.aload_n 0, 1) := zd_at zo_cX2_anew_0 0 rfl
theorem dX2_anew_1 : decode cX2_anew 1 = .ok (.getfield 16, 3) := zd_at zo_cX2_anew_0 1 rfl
theorem dX2_anew_4 : decode cX2_anew 4 = .ok (.invokevirtual 214, 3) := zd_at zo_cX2_anew_0 2 rfl
theorem dX2_anew_7 : decode cX2_anew 7 = .ok (.iconst 0, 1) := zd_at zo_cX2_anew_0 3 rfl
theorem dX2_anew_8 : decode cX2_anew 8 = .ok (.istore_n 1, 1) := zd_at zo_cX2_anew_0 4 rfl
theorem dX2_anew_9 : decode cX2_anew 9 = .ok (.iload_n 1, 1) := zd_at zo_cX2_anew_0 5 rfl
theorem dX2_anew_10 : decode cX2_anew 10 = .ok (.bipush 24, 2) := zd_at zo_cX2_anew_0 6 rfl
theorem dX2_anew_12 : decode cX2_anew 12 = .ok (.if_icmp .ge 60, 3) := zd_at zo_cX2_anew_0 7 rfl
theorem dX2_anew_15 : decode cX2_anew 15 = .ok (.aload_n 0, 1) := zd_at zo_cX2_anew_0 8 rfl
theorem dX2_anew_16 : decode cX2_anew 16 = .ok (.getfield 12, 3) := zd_at zo_cX2_anew_0 9 rfl
theorem dX2_anew_19 : decode cX2_anew 19 = .ok (.iload_n 1, 1) := zd_at zo_cX2_anew_0 10 rfl
theorem dX2_anew_20 : decode cX2_anew 20 = .ok (.invokevirtual 90, 3) := zd_at zo_cX2_anew_0 11 rfl
theorem dX2_anew_23 : decode cX2_anew 23 = .ok (.ifCond .eq 43, 3) := zd_at zo_cX2_anew_0 12 rfl
theorem dX2_anew_26 : decode cX2_anew 26 = .ok (.aload_n 0, 1) := zd_at zo_cX2_anew_0 13 rfl
theorem dX2_anew_27 : decode cX2_anew 27 = .ok (.aload_n 0, 1) := zd_at zo_cX2_anew_0 14 rfl
theorem dX2_anew_28 : decode cX2_anew 28 = .ok (.getfield 12, 3) := zd_at zo_cX2_anew_0 15 rfl
theorem dX2_anew_31 : decode cX2_anew 31 = .ok (.iload_n 1, 1) := zd_at zo_cX2_anew_0 16 rfl
theorem dX2_anew_32 : decode cX2_anew 32 = .ok (.iconst 0, 1) := zd_at zo_cX2_anew_0 17 rfl
theorem dX2_anew_33 : decode cX2_anew 33 = .ok (.invokevirtual 107, 3) := zd_at zo_cX2_anew_0 18 rfl
theorem dX2_anew_36 : decode cX2_anew 36 = .ok (.aload_n 0, 1) := zd_at zo_cX2_anew_0 19 rfl
theorem dX2_anew_37 : decode cX2_anew 37 = .ok (.getfield 12, 3) := zd_at zo_cX2_anew_0 20 rfl
theorem dX2_anew_40 : decode cX2_anew 40 = .ok (.iload_n 1, 1) := zd_at zo_cX2_anew_0 21 rfl
theorem dX2_anew_41 : decode cX2_anew 41 = .ok (.iconst 1, 1) := zd_at zo_cX2_anew_0 22 rfl
theorem dX2_anew_42 : decode cX2_anew 42 = .ok (.invokevirtual 107, 3) := zd_at zo_cX2_anew_0 23 rfl
theorem dX2_anew_45 : decode cX2_anew 45 = .ok (.aload_n 0, 1) := zd_at zo_cX2_anew_0 24 rfl
theorem dX2_anew_46 : decode cX2_anew 46 = .ok (.getfield 12, 3) := zd_at zo_cX2_anew_0 25 rfl
theorem dX2_anew_49 : decode cX2_anew 49 = .ok (.iload_n 1, 1) := zd_at zo_cX2_anew_0 26 rfl
theorem dX2_anew_50 : decode cX2_anew 50 = .ok (.iconst 2, 1) := zd_at zo_cX2_anew_0 27 rfl
theorem dX2_anew_51 : decode cX2_anew 51 = .ok (.invokevirtual 107, 3) := zd_at zo_cX2_anew_0 28 rfl
theorem dX2_anew_54 : decode cX2_anew 54 = .ok (.aload_n 0, 1) := zd_at zo_cX2_anew_0 29 rfl
theorem dX2_anew_55 : decode cX2_anew 55 = .ok (.getfield 12, 3) := zd_at zo_cX2_anew_0 30 rfl
theorem dX2_anew_58 : decode cX2_anew 58 = .ok (.iload_n 1, 1) := zd_at zo_cX2_anew_0 31 rfl
theorem dX2_anew_59 : decode cX2_anew 59 = .ok (.iconst 3, 1) := zd_at zo_cX2_anew_0 32 rfl
theorem dX2_anew_60 : decode cX2_anew 60 = .ok (.invokevirtual 107, 3) := zd_at zo_cX2_anew_0 33 rfl
theorem dX2_anew_63 : decode cX2_anew 63 = .ok (.invokevirtual 210, 3) := zd_at zo_cX2_anew_0 34 rfl
theorem dX2_anew_66 : decode cX2_anew 66 = .ok (.iinc 1 1, 3) := zd_at zo_cX2_anew_0 35 rfl
theorem dX2_anew_69 : decode cX2_anew 69 = .ok (.goto (-60), 3) := zd_at zo_cX2_anew_0 36 rfl
theorem dX2_anew_72 : decode cX2_anew 72 = .ok (.aload_n 0, 1) := zd_at zo_cX2_anew_0 37 rfl
theorem dX2_anew_73 : decode cX2_anew 73 = .ok (.getfield 16, 3) := zd_at zo_cX2_anew_0 38 rfl
theorem dX2_anew_76 : decode cX2_anew 76 = .ok (.invokevirtual 73, 3) := zd_at zo_cX2_anew_0 39 rfl
theorem dX2_anew_79 : decode cX2_anew 79 = .ok (.ireturn, 1) := zd_at zo_cX2_anew_0 40 rfl
def zl_cX2_runScript_0 : List (Nat × Instr × Nat) := [(0, .iload_n 1, 1), (1, .iconst 1, 1), (2, .if_icmp .lt 8, 3), (5, .iload_n 1, 1), (6, .iconst 2, 1), (7, .if_icmp .le 13, 3), (10, .new 37, 3), (13, .dup, 1), (14, .ldc 217, 2), (16, .invokespecial 41, 3), (19, .athrow, 1), (20, .lload_n 2, 1), (21, .lconst 0, 1), (22, .lcmp, 1), (23, .ifCond .lt 22, 3), (26, .lload_n 2, 1), (27, .iload_n 1, 1), (28, .iconst 1, 1), (29, .if_icmp .ne 9, 3), (32, .ldc2_w 219, 3), (35, .goto 6, 3), (38, .ldc2_w 221, 3), (41, .lcmp, 1), (42, .ifCond .lt 13, 3), (45, .new 37, 3), (48, .dup, 1), (49, .ldc 223, 2), (51, .invokespecial 41, 3), (54, .athrow, 1), (55, .aload_n 0, 1), (56, .getfield 16, 3), (59, .aload_n 0, 1), (60, .getfield 12, 3), (63, .invokevirtual 186, 3), (66, .iconst 0, 1), (67, .istore 4, 2), (69, .iload 4, 2), (71, .iload_n 1, 1), (72, .if_icmp .ge 45, 3), (75, .iload 4, 2), (77, .iload_n 1, 1), (78, .iconst 1, 1), (79, .isub, 1), (80, .if_icmp .ne 11, 3), (83, .lload_n 2, 1), (84, .ldc2_w 219, 3), (87, .lrem, 1), (88, .goto 8, 3), (91, .lload_n 2, 1), (92, .ldc2_w 219, 3), (95, .ldiv, 1), (96, .lstore 5, 2), (98, .aload_n 0, 1), (99, .lload 5, 2), (101, .l2i, 1), (102, .invokevirtual 225, 3), (105, .ifCond .ne 6, 3), (108, .iload 4, 2), (110, .ireturn, 1), (111, .iinc 4 1, 3), (114, .goto (-45), 3), (117, .iconst (-1), 1), (118, .ireturn, 1)]
theorem zo_cX2_runScript_0 : zd_ok cX2_runScript zl_cX2_runScript_0 = true := by decide +kernel
theorem dX2_runScript_0 : decode cX2_runScript 0 = .ok (.iload_n 1, 1) := zd_at zo_cX2_runScript_0 0 rfl
theorem dX2_runScript_1 : decode cX2_runScript 1 = .ok (.iconst 1, 1) := zd_at zo_cX2_runScript_0 1 rfl
theorem dX2_runScript_2 : decode cX2_runScript 2 = .ok (.if_icmp .lt 8, 3) := zd_at zo_cX2_runScript_0 2 rfl
theorem dX2_runScript_5 : decode cX2_runScript 5 = .ok (.iload_n 1, 1) := zd_at zo_cX2_runScript_0 3 rfl
theorem dX2_runScript_6 : decode cX2_runScript 6 = .ok (.iconst 2, 1) := zd_at zo_cX2_runScript_0 4 rfl
theorem dX2_runScript_7 : decode cX2_runScript 7 = .ok (.if_icmp .le 13, 3) := zd_at zo_cX2_runScript_0 5 rfl
theorem dX2_runScript_10 : decode cX2_runScript 10 = .ok (.new 37, 3) := zd_at zo_cX2_runScript_0 6 rfl
theorem dX2_runScript_13 : decode cX2_runScript 13 = .ok (.dup, 1) := zd_at zo_cX2_runScript_0 7 rfl
theorem dX2_runScript_14 : decode cX2_runScript 14 = .ok (.ldc 217, 2) := zd_at zo_cX2_runScript_0 8 rfl
theorem dX2_runScript_16 : decode cX2_runScript 16 = .ok (.invokespecial 41, 3) := zd_at zo_cX2_runScript_0 9 rfl
theorem dX2_runScript_19 : decode cX2_runScript 19 = .ok (.athrow, 1) := zd_at zo_cX2_runScript_0 10 rfl
theorem dX2_runScript_20 : decode cX2_runScript 20 = .ok (.lload_n 2, 1) := zd_at zo_cX2_runScript_0 11 rfl
theorem dX2_runScript_21 : decode cX2_runScript 21 = .ok (.lconst 0, 1) := zd_at zo_cX2_runScript_0 12 rfl
theorem dX2_runScript_22 : decode cX2_runScript 22 = .ok (.lcmp, 1) := zd_at zo_cX2_runScript_0 13 rfl
theorem dX2_runScript_23 : decode cX2_runScript 23 = .ok (.ifCond .lt 22, 3) := zd_at zo_cX2_runScript_0 14 rfl
theorem dX2_runScript_26 : decode cX2_runScript 26 = .ok (.lload_n 2, 1) := zd_at zo_cX2_runScript_0 15 rfl
theorem dX2_runScript_27 : decode cX2_runScript 27 = .ok (.iload_n 1, 1) := zd_at zo_cX2_runScript_0 16 rfl
theorem dX2_runScript_28 : decode cX2_runScript 28 = .ok (.iconst 1, 1) := zd_at zo_cX2_runScript_0 17 rfl
theorem dX2_runScript_29 : decode cX2_runScript 29 = .ok (.if_icmp .ne 9, 3) := zd_at zo_cX2_runScript_0 18 rfl
theorem dX2_runScript_32 : decode cX2_runScript 32 = .ok (.ldc2_w 219, 3) := zd_at zo_cX2_runScript_0 19 rfl
theorem dX2_runScript_35 : decode cX2_runScript 35 = .ok (.goto 6, 3) := zd_at zo_cX2_runScript_0 20 rfl
theorem dX2_runScript_38 : decode cX2_runScript 38 = .ok (.ldc2_w 221, 3) := zd_at zo_cX2_runScript_0 21 rfl
theorem dX2_runScript_41 : decode cX2_runScript 41 = .ok (.lcmp, 1) := zd_at zo_cX2_runScript_0 22 rfl
theorem dX2_runScript_42 : decode cX2_runScript 42 = .ok (.ifCond .lt 13, 3) := zd_at zo_cX2_runScript_0 23 rfl
theorem dX2_runScript_45 : decode cX2_runScript 45 = .ok (.new 37, 3) := zd_at zo_cX2_runScript_0 24 rfl
theorem dX2_runScript_48 : decode cX2_runScript 48 = .ok (.dup, 1) := zd_at zo_cX2_runScript_0 25 rfl
theorem dX2_runScript_49 : decode cX2_runScript 49 = .ok (.ldc 223, 2) := zd_at zo_cX2_runScript_0 26 rfl
theorem dX2_runScript_51 : decode cX2_runScript 51 = .ok (.invokespecial 41, 3) := zd_at zo_cX2_runScript_0 27 rfl
theorem dX2_runScript_54 : decode cX2_runScript 54 = .ok (.athrow, 1) := zd_at zo_cX2_runScript_0 28 rfl
theorem dX2_runScript_55 : decode cX2_runScript 55 = .ok (.aload_n 0, 1) := zd_at zo_cX2_runScript_0 29 rfl
theorem dX2_runScript_56 : decode cX2_runScript 56 = .ok (.getfield 16, 3) := zd_at zo_cX2_runScript_0 30 rfl
theorem dX2_runScript_59 : decode cX2_runScript 59 = .ok (.aload_n 0, 1) := zd_at zo_cX2_runScript_0 31 rfl
theorem dX2_runScript_60 : decode cX2_runScript 60 = .ok (.getfield 12, 3) := zd_at zo_cX2_runScript_0 32 rfl
theorem dX2_runScript_63 : decode cX2_runScript 63 = .ok (.invokevirtual 186, 3) := zd_at zo_cX2_runScript_0 33 rfl
theorem dX2_runScript_66 : decode cX2_runScript 66 = .ok (.iconst 0, 1) := zd_at zo_cX2_runScript_0 34 rfl
theorem dX2_runScript_67 : decode cX2_runScript 67 = .ok (.istore 4, 2) := zd_at zo_cX2_runScript_0 35 rfl
theorem dX2_runScript_69 : decode cX2_runScript 69 = .ok (.iload 4, 2) := zd_at zo_cX2_runScript_0 36 rfl
theorem dX2_runScript_71 : decode cX2_runScript 71 = .ok (.iload_n 1, 1) := zd_at zo_cX2_runScript_0 37 rfl
theorem dX2_runScript_72 : decode cX2_runScript 72 = .ok (.if_icmp .ge 45, 3) := zd_at zo_cX2_runScript_0 38 rfl
theorem dX2_runScript_75 : decode cX2_runScript 75 = .ok (.iload 4, 2) := zd_at zo_cX2_runScript_0 39 rfl
theorem dX2_runScript_77 : decode cX2_runScript 77 = .ok (.iload_n 1, 1) := zd_at zo_cX2_runScript_0 40 rfl
theorem dX2_runScript_78 : decode cX2_runScript 78 = .ok (.iconst 1, 1) := zd_at zo_cX2_runScript_0 41 rfl
theorem dX2_runScript_79 : decode cX2_runScript 79 = .ok (.isub, 1) := zd_at zo_cX2_runScript_0 42 rfl
theorem dX2_runScript_80 : decode cX2_runScript 80 = .ok (.if_icmp .ne 11, 3) := zd_at zo_cX2_runScript_0 43 rfl
theorem dX2_runScript_83 : decode cX2_runScript 83 = .ok (.lload_n 2, 1) := zd_at zo_cX2_runScript_0 44 rfl
theorem dX2_runScript_84 : decode cX2_runScript 84 = .ok (.ldc2_w 219, 3) := zd_at zo_cX2_runScript_0 45 rfl
theorem dX2_runScript_87 : decode cX2_runScript 87 = .ok (.lrem, 1) := zd_at zo_cX2_runScript_0 46 rfl
theorem dX2_runScript_88 : decode cX2_runScript 88 = .ok (.goto 8, 3) := zd_at zo_cX2_runScript_0 47 rfl
theorem dX2_runScript_91 : decode cX2_runScript 91 = .ok (.lload_n 2, 1) := zd_at zo_cX2_runScript_0 48 rfl
theorem dX2_runScript_92 : decode cX2_runScript 92 = .ok (.ldc2_w 219, 3) := zd_at zo_cX2_runScript_0 49 rfl
theorem dX2_runScript_95 : decode cX2_runScript 95 = .ok (.ldiv, 1) := zd_at zo_cX2_runScript_0 50 rfl
theorem dX2_runScript_96 : decode cX2_runScript 96 = .ok (.lstore 5, 2) := zd_at zo_cX2_runScript_0 51 rfl
theorem dX2_runScript_98 : decode cX2_runScript 98 = .ok (.aload_n 0, 1) := zd_at zo_cX2_runScript_0 52 rfl
theorem dX2_runScript_99 : decode cX2_runScript 99 = .ok (.lload 5, 2) := zd_at zo_cX2_runScript_0 53 rfl
theorem dX2_runScript_101 : decode cX2_runScript 101 = .ok (.l2i, 1) := zd_at zo_cX2_runScript_0 54 rfl
theorem dX2_runScript_102 : decode cX2_runScript 102 = .ok (.invokevirtual 225, 3) := zd_at zo_cX2_runScript_0 55 rfl
theorem dX2_runScript_105 : decode cX2_runScript 105 = .ok (.ifCond .ne 6, 3) := zd_at zo_cX2_runScript_0 56 rfl
theorem dX2_runScript_108 : decode cX2_runScript 108 = .ok (.iload 4, 2) := zd_at zo_cX2_runScript_0 57 rfl
theorem dX2_runScript_110 : decode cX2_runScript 110 = .ok (.ireturn, 1) := zd_at zo_cX2_runScript_0 58 rfl
theorem dX2_runScript_111 : decode cX2_runScript 111 = .ok (.iinc 4 1, 3) := zd_at zo_cX2_runScript_0 59 rfl
theorem dX2_runScript_114 : decode cX2_runScript 114 = .ok (.goto (-45), 3) := zd_at zo_cX2_runScript_0 60 rfl
theorem dX2_runScript_117 : decode cX2_runScript 117 = .ok (.iconst (-1), 1) := zd_at zo_cX2_runScript_0 61 rfl
theorem dX2_runScript_118 : decode cX2_runScript 118 = .ok (.ireturn, 1) := zd_at zo_cX2_runScript_0 62 rfl
def zl_cX2_simulate_0 : List (Nat × Instr × Nat) := [(0, .iload_n 3, 1), (1, .iconst 1, 1), (2, .if_icmp .lt 9, 3), (5, .iload_n 3, 1), (6, .bipush 60, 2), (8, .if_icmp .le 13, 3), (11, .new 37, 3), (14, .dup, 1), (15, .ldc 228, 2), (17, .invokespecial 41, 3), (20, .athrow, 1), (21, .aload_n 0, 1), (22, .getfield 16, 3), (25, .aload_n 0, 1), (26, .getfield 12, 3), (29, .invokevirtual 186, 3), (32, .lload_n 1, 1), (33, .lstore 4, 2), (35, .iconst 0, 1), (36, .istore 6, 2), (38, .iload 6, 2), (40, .iload_n 3, 1), (41, .if_icmp .ge 31, 3), (44, .lload 4, 2), (46, .ldc2_w 230, 3), (49, .lmul, 1), (50, .ldc2_w 232, 3), (53, .ladd, 1), (54, .lstore 4, 2), (56, .aload_n 0, 1), (57, .lload 4, 2), (59, .bipush 33, 2), (61, .lushr, 1), (62, .l2i, 1), (63, .invokevirtual 234, 3), (66, .iinc 6 1, 3), (69, .goto (-31), 3), (72, .sipush 1000, 3), (75, .aload_n 0, 1), (76, .getfield 16, 3), (79, .invokevirtual 64, 3), (82, .imul, 1), (83, .aload_n 0, 1), (84, .getfield 16, 3), (87, .invokevirtual 61, 3), (90, .iadd, 1), (91, .ireturn, 1)]
theorem zo_cX2_simulate_0 : zd_ok cX2_simulate zl_cX2_simulate_0 = true := by decide +kernel
theorem dX2_simulate_0 : decode cX2_simulate 0 = .ok (.iload_n 3, 1) := zd_at zo_cX2_simulate_0 0 rfl
theorem dX2_simulate_1 : decode cX2_simulate 1 = .ok (.iconst 1, 1) := zd_at zo_cX2_simulate_0 1 rfl
theorem dX2_simulate_2 : decode cX2_simulate 2 = .ok (.if_icmp .lt 9, 3) := zd_at zo_cX2_simulate_0 2 rfl
theorem dX2_simulate_5 : decode cX2_simulate 5 = .ok (.iload_n 3, 1) := zd_at zo_cX2_simulate_0 3 rfl
theorem dX2_simulate_6 : decode cX2_simulate 6 = .ok (.bipush 60, 2) := zd_at zo_cX2_simulate_0 4 rfl
theorem dX2_simulate_8 : decode cX2_simulate 8 = .ok (.if_icmp .le 13, 3) := zd_at zo_cX2_simulate_0 5 rfl
theorem dX2_simulate_11 : decode cX2_simulate 11 = .ok (.new 37, 3) := zd_at zo_cX2_simulate_0 6 rfl
theorem dX2_simulate_14 : decode cX2_simulate 14 = .ok (.dup, 1) := zd_at zo_cX2_simulate_0 7 rfl
theorem dX2_simulate_15 : decode cX2_simulate 15 = .ok (.ldc 228, 2) := zd_at zo_cX2_simulate_0 8 rfl
theorem dX2_simulate_17 : decode cX2_simulate 17 = .ok (.invokespecial 41, 3) := zd_at zo_cX2_simulate_0 9 rfl
theorem dX2_simulate_20 : decode cX2_simulate 20 = .ok (.athrow, 1) := zd_at zo_cX2_simulate_0 10 rfl
theorem dX2_simulate_21 : decode cX2_simulate 21 = .ok (.aload_n 0, 1) := zd_at zo_cX2_simulate_0 11 rfl
theorem dX2_simulate_22 : decode cX2_simulate 22 = .ok (.getfield 16, 3) := zd_at zo_cX2_simulate_0 12 rfl
theorem dX2_simulate_25 : decode cX2_simulate 25 = .ok (.aload_n 0, 1) := zd_at zo_cX2_simulate_0 13 rfl
theorem dX2_simulate_26 : decode cX2_simulate 26 = .ok (.getfield 12, 3) := zd_at zo_cX2_simulate_0 14 rfl
theorem dX2_simulate_29 : decode cX2_simulate 29 = .ok (.invokevirtual 186, 3) := zd_at zo_cX2_simulate_0 15 rfl
theorem dX2_simulate_32 : decode cX2_simulate 32 = .ok (.lload_n 1, 1) := zd_at zo_cX2_simulate_0 16 rfl
theorem dX2_simulate_33 : decode cX2_simulate 33 = .ok (.lstore 4, 2) := zd_at zo_cX2_simulate_0 17 rfl
theorem dX2_simulate_35 : decode cX2_simulate 35 = .ok (.iconst 0, 1) := zd_at zo_cX2_simulate_0 18 rfl
theorem dX2_simulate_36 : decode cX2_simulate 36 = .ok (.istore 6, 2) := zd_at zo_cX2_simulate_0 19 rfl
theorem dX2_simulate_38 : decode cX2_simulate 38 = .ok (.iload 6, 2) := zd_at zo_cX2_simulate_0 20 rfl
theorem dX2_simulate_40 : decode cX2_simulate 40 = .ok (.iload_n 3, 1) := zd_at zo_cX2_simulate_0 21 rfl
theorem dX2_simulate_41 : decode cX2_simulate 41 = .ok (.if_icmp .ge 31, 3) := zd_at zo_cX2_simulate_0 22 rfl
theorem dX2_simulate_44 : decode cX2_simulate 44 = .ok (.lload 4, 2) := zd_at zo_cX2_simulate_0 23 rfl
theorem dX2_simulate_46 : decode cX2_simulate 46 = .ok (.ldc2_w 230, 3) := zd_at zo_cX2_simulate_0 24 rfl
theorem dX2_simulate_49 : decode cX2_simulate 49 = .ok (.lmul, 1) := zd_at zo_cX2_simulate_0 25 rfl
theorem dX2_simulate_50 : decode cX2_simulate 50 = .ok (.ldc2_w 232, 3) := zd_at zo_cX2_simulate_0 26 rfl
theorem dX2_simulate_53 : decode cX2_simulate 53 = .ok (.ladd, 1) := zd_at zo_cX2_simulate_0 27 rfl
theorem dX2_simulate_54 : decode cX2_simulate 54 = .ok (.lstore 4, 2) := zd_at zo_cX2_simulate_0 28 rfl
theorem dX2_simulate_56 : decode cX2_simulate 56 = .ok (.aload_n 0, 1) := zd_at zo_cX2_simulate_0 29 rfl
theorem dX2_simulate_57 : decode cX2_simulate 57 = .ok (.lload 4, 2) := zd_at zo_cX2_simulate_0 30 rfl
theorem dX2_simulate_59 : decode cX2_simulate 59 = .ok (.bipush 33, 2) := zd_at zo_cX2_simulate_0 31 rfl
theorem dX2_simulate_61 : decode cX2_simulate 61 = .ok (.lushr, 1) := zd_at zo_cX2_simulate_0 32 rfl
theorem dX2_simulate_62 : decode cX2_simulate 62 = .ok (.l2i, 1) := zd_at zo_cX2_simulate_0 33 rfl
theorem dX2_simulate_63 : decode cX2_simulate 63 = .ok (.invokevirtual 234, 3) := zd_at zo_cX2_simulate_0 34 rfl
theorem dX2_simulate_66 : decode cX2_simulate 66 = .ok (.iinc 6 1, 3) := zd_at zo_cX2_simulate_0 35 rfl
theorem dX2_simulate_69 : decode cX2_simulate 69 = .ok (.goto (-31), 3) := zd_at zo_cX2_simulate_0 36 rfl
theorem dX2_simulate_72 : decode cX2_simulate 72 = .ok (.sipush 1000, 3) := zd_at zo_cX2_simulate_0 37 rfl
theorem dX2_simulate_75 : decode cX2_simulate 75 = .ok (.aload_n 0, 1) := zd_at zo_cX2_simulate_0 38 rfl
theorem dX2_simulate_76 : decode cX2_simulate 76 = .ok (.getfield 16, 3) := zd_at zo_cX2_simulate_0 39 rfl
theorem dX2_simulate_79 : decode cX2_simulate 79 = .ok (.invokevirtual 64, 3) := zd_at zo_cX2_simulate_0 40 rfl
theorem dX2_simulate_82 : decode cX2_simulate 82 = .ok (.imul, 1) := zd_at zo_cX2_simulate_0 41 rfl
theorem dX2_simulate_83 : decode cX2_simulate 83 = .ok (.aload_n 0, 1) := zd_at zo_cX2_simulate_0 42 rfl
theorem dX2_simulate_84 : decode cX2_simulate 84 = .ok (.getfield 16, 3) := zd_at zo_cX2_simulate_0 43 rfl
theorem dX2_simulate_87 : decode cX2_simulate 87 = .ok (.invokevirtual 61, 3) := zd_at zo_cX2_simulate_0 44 rfl
theorem dX2_simulate_90 : decode cX2_simulate 90 = .ok (.iadd, 1) := zd_at zo_cX2_simulate_0 45 rfl
theorem dX2_simulate_91 : decode cX2_simulate 91 = .ok (.ireturn, 1) := zd_at zo_cX2_simulate_0 46 rfl
def zl_cX2_save_0 : List (Nat × Instr × Nat) := [(0, .iload_n 1, 1), (1, .ifCond .lt 8, 3), (4, .iload_n 1, 1), (5, .iconst 2, 1), (6, .if_icmp .lt 13, 3), (9, .new 94, 3), (12, .dup, 1), (13, .ldc 237, 2), (15, .invokespecial 98, 3), (18, .athrow, 1), (19, .aload_n 0, 1), (20, .getfield 23, 3), (23, .iload_n 1, 1), (24, .invokestatic 182, 3), (27, .astore_n 2, 1), (28, .aload_n 2, 1), (29, .ifnull 11, 3), (32, .aload_n 2, 1), (33, .aload_n 0, 1), (34, .getfield 12, 3), (37, .invokevirtual 186, 3), (40, .aload_n 0, 1), (41, .getfield 26, 3), (44, .iload_n 1, 1), (45, .iconst 1, 1), (46, .invokestatic 239, 3), (49, .aload_n 0, 1), (50, .getfield 12, 3), (53, .invokevirtual 61, 3), (56, .ireturn, 1)]
theorem zo_cX2_save_0 : zd_ok cX2_save zl_cX2_save_0 = true := by decide +kernel
theorem dX2_save_0 : decode cX2_save 0 = .ok (.iload_n 1, 1) := zd_at zo_cX2_save_0 0 rfl
theorem dX2_save_1 : decode cX2_save 1 = .ok (.ifCond .lt 8, 3) := zd_at zo_cX2_save_0 1 rfl
theorem dX2_save_4 : decode cX2_save 4 = .ok (.iload_n 1, 1) := zd_at zo_cX2_save_0 2 rfl
theorem dX2_save_5 : decode cX2_save 5 = .ok (.iconst 2, 1) := zd_at zo_cX2_save_0 3 rfl
theorem dX2_save_6 : decode cX2_save 6 = .ok (.if_icmp .lt 13, 3) := zd_at zo_cX2_save_0 4 rfl
theorem dX2_save_9 : decode cX2_save 9 = .ok (.new 94, 3) := zd_at zo_cX2_save_0 5 rfl
theorem dX2_save_12 : decode cX2_save 12 = .ok (.dup, 1) := zd_at zo_cX2_save_0 6 rfl
theorem dX2_save_13 : decode cX2_save 13 = .ok (.ldc 237, 2) := zd_at zo_cX2_save_0 7 rfl
theorem dX2_save_15 : decode cX2_save 15 = .ok (.invokespecial 98, 3) := zd_at zo_cX2_save_0 8 rfl
theorem dX2_save_18 : decode cX2_save 18 = .ok (.athrow, 1) := zd_at zo_cX2_save_0 9 rfl
theorem dX2_save_19 : decode cX2_save 19 = .ok (.aload_n 0, 1) := zd_at zo_cX2_save_0 10 rfl
theorem dX2_save_20 : decode cX2_save 20 = .ok (.getfield 23, 3) := zd_at zo_cX2_save_0 11 rfl
theorem dX2_save_23 : decode cX2_save 23 = .ok (.iload_n 1, 1) := zd_at zo_cX2_save_0 12 rfl
theorem dX2_save_24 : decode cX2_save 24 = .ok (.invokestatic 182, 3) := zd_at zo_cX2_save_0 13 rfl
theorem dX2_save_27 : decode cX2_save 27 = .ok (.astore_n 2, 1) := zd_at zo_cX2_save_0 14 rfl
theorem dX2_save_28 : decode cX2_save 28 = .ok (.aload_n 2, 1) := zd_at zo_cX2_save_0 15 rfl
theorem dX2_save_29 : decode cX2_save 29 = .ok (.ifnull 11, 3) := zd_at zo_cX2_save_0 16 rfl
theorem dX2_save_32 : decode cX2_save 32 = .ok (.aload_n 2, 1) := zd_at zo_cX2_save_0 17 rfl
theorem dX2_save_33 : decode cX2_save 33 = .ok (.aload_n 0, 1) := zd_at zo_cX2_save_0 18 rfl
theorem dX2_save_34 : decode cX2_save 34 = .ok (.getfield 12, 3) := zd_at zo_cX2_save_0 19 rfl
theorem dX2_save_37 : decode cX2_save 37 = .ok (.invokevirtual 186, 3) := zd_at zo_cX2_save_0 20 rfl
theorem dX2_save_40 : decode cX2_save 40 = .ok (.aload_n 0, 1) := zd_at zo_cX2_save_0 21 rfl
theorem dX2_save_41 : decode cX2_save 41 = .ok (.getfield 26, 3) := zd_at zo_cX2_save_0 22 rfl
theorem dX2_save_44 : decode cX2_save 44 = .ok (.iload_n 1, 1) := zd_at zo_cX2_save_0 23 rfl
theorem dX2_save_45 : decode cX2_save 45 = .ok (.iconst 1, 1) := zd_at zo_cX2_save_0 24 rfl
theorem dX2_save_46 : decode cX2_save 46 = .ok (.invokestatic 239, 3) := zd_at zo_cX2_save_0 25 rfl
theorem dX2_save_49 : decode cX2_save 49 = .ok (.aload_n 0, 1) := zd_at zo_cX2_save_0 26 rfl
theorem dX2_save_50 : decode cX2_save 50 = .ok (.getfield 12, 3) := zd_at zo_cX2_save_0 27 rfl
theorem dX2_save_53 : decode cX2_save 53 = .ok (.invokevirtual 61, 3) := zd_at zo_cX2_save_0 28 rfl
theorem dX2_save_56 : decode cX2_save 56 = .ok (.ireturn, 1) := zd_at zo_cX2_save_0 29 rfl
def zl_cX2_restore_0 : List (Nat × Instr × Nat) := [(0, .iload_n 1, 1), (1, .ifCond .lt 8, 3), (4, .iload_n 1, 1), (5, .iconst 2, 1), (6, .if_icmp .lt 13, 3), (9, .new 94, 3), (12, .dup, 1), (13, .ldc 237, 2), (15, .invokespecial 98, 3), (18, .athrow, 1), (19, .aload_n 0, 1), (20, .getfield 26, 3), (23, .iload_n 1, 1), (24, .invokestatic 243, 3), (27, .ifCond .ne 13, 3), (30, .new 48, 3), (33, .dup, 1), (34, .ldc 247, 2), (36, .invokespecial 52, 3), (39, .athrow, 1), (40, .aload_n 0, 1), (41, .getfield 12, 3), (44, .aload_n 0, 1), (45, .getfield 23, 3), (48, .iload_n 1, 1), (49, .invokestatic 182, 3), (52, .invokevirtual 186, 3), (55, .aload_n 0, 1), (56, .iconst 0, 1), (57, .putfield 174, 3), (60, .aload_n 0, 1), (61, .getfield 12, 3), (64, .invokevirtual 61, 3), (67, .ireturn, 1)]
theorem zo_cX2_restore_0 : zd_ok cX2_restore zl_cX2_restore_0 = true := by decide +kernel
theorem dX2_restore_0 : decode cX2_restore 0 = .ok (.iload_n 1, 1) := zd_at zo_cX2_restore_0 0 rfl
theorem dX2_restore_1 : decode cX2_restore 1 = .ok (.ifCond .lt 8, 3) := zd_at zo_cX2_restore_0 1 rfl
theorem dX2_restore_4 : decode cX2_restore 4 = .ok (.iload_n 1, 1) := zd_at zo_cX2_restore_0 2 rfl
theorem dX2_restore_5 : decode cX2_restore 5 = .ok (.iconst 2, 1) := zd_at zo_cX2_restore_0 3 rfl
theorem dX2_restore_6 : decode cX2_restore 6 = .ok (.if_icmp .lt 13, 3) := zd_at zo_cX2_restore_0 4 rfl
theorem dX2_restore_9 : decode cX2_restore 9 = .ok (.new 94, 3) := zd_at zo_cX2_restore_0 5 rfl
theorem dX2_restore_12 : decode cX2_restore 12 = .ok (.dup, 1) := zd_at zo_cX2_restore_0 6 rfl
theorem dX2_restore_13 : decode cX2_restore 13 = .ok (.ldc 237, 2) := zd_at zo_cX2_restore_0 7 rfl
theorem dX2_restore_15 : decode cX2_restore 15 = .ok (.invokespecial 98, 3) := zd_at zo_cX2_restore_0 8 rfl
theorem dX2_restore_18 : decode cX2_restore 18 = .ok (.athrow, 1) := zd_at zo_cX2_restore_0 9 rfl
theorem dX2_restore_19 : decode cX2_restore 19 = .ok (.aload_n 0, 1) := zd_at zo_cX2_restore_0 10 rfl
theorem dX2_restore_20 : decode cX2_restore 20 = .ok (.getfield 26, 3) := zd_at zo_cX2_restore_0 11 rfl
theorem dX2_restore_23 : decode cX2_restore 23 = .ok (.iload_n 1, 1) := zd_at zo_cX2_restore_0 12 rfl
theorem dX2_restore_24 : decode cX2_restore 24 = .ok (.invokestatic 243, 3) := zd_at zo_cX2_restore_0 13 rfl
theorem dX2_restore_27 : decode cX2_restore 27 = .ok (.ifCond .ne 13, 3) := zd_at zo_cX2_restore_0 14 rfl
theorem dX2_restore_30 : decode cX2_restore 30 = .ok (.new 48, 3) := zd_at zo_cX2_restore_0 15 rfl
theorem dX2_restore_33 : decode cX2_restore 33 = .ok (.dup, 1) := zd_at zo_cX2_restore_0 16 rfl
theorem dX2_restore_34 : decode cX2_restore 34 = .ok (.ldc 247, 2) := zd_at zo_cX2_restore_0 17 rfl
theorem dX2_restore_36 : decode cX2_restore 36 = .ok (.invokespecial 52, 3) := zd_at zo_cX2_restore_0 18 rfl
theorem dX2_restore_39 : decode cX2_restore 39 = .ok (.athrow, 1) := zd_at zo_cX2_restore_0 19 rfl
theorem dX2_restore_40 : decode cX2_restore 40 = .ok (.aload_n 0, 1) := zd_at zo_cX2_restore_0 20 rfl
theorem dX2_restore_41 : decode cX2_restore 41 = .ok (.getfield 12, 3) := zd_at zo_cX2_restore_0 21 rfl
theorem dX2_restore_44 : decode cX2_restore 44 = .ok (.aload_n 0, 1) := zd_at zo_cX2_restore_0 22 rfl
theorem dX2_restore_45 : decode cX2_restore 45 = .ok (.getfield 23, 3) := zd_at zo_cX2_restore_0 23 rfl
theorem dX2_restore_48 : decode cX2_restore 48 = .ok (.iload_n 1, 1) := zd_at zo_cX2_restore_0 24 rfl
theorem dX2_restore_49 : decode cX2_restore 49 = .ok (.invokestatic 182, 3) := zd_at zo_cX2_restore_0 25 rfl
theorem dX2_restore_52 : decode cX2_restore 52 = .ok (.invokevirtual 186, 3) := zd_at zo_cX2_restore_0 26 rfl
theorem dX2_restore_55 : decode cX2_restore 55 = .ok (.aload_n 0, 1) := zd_at zo_cX2_restore_0 27 rfl
theorem dX2_restore_56 : decode cX2_restore 56 = .ok (.iconst 0, 1) := zd_at zo_cX2_restore_0 28 rfl
theorem dX2_restore_57 : decode cX2_restore 57 = .ok (.putfield 174, 3) := zd_at zo_cX2_restore_0 29 rfl
theorem dX2_restore_60 : decode cX2_restore 60 = .ok (.aload_n 0, 1) := zd_at zo_cX2_restore_0 30 rfl
theorem dX2_restore_61 : decode cX2_restore 61 = .ok (.getfield 12, 3) := zd_at zo_cX2_restore_0 31 rfl
theorem dX2_restore_64 : decode cX2_restore 64 = .ok (.invokevirtual 61, 3) := zd_at zo_cX2_restore_0 32 rfl
theorem dX2_restore_67 : decode cX2_restore 67 = .ok (.ireturn, 1) := zd_at zo_cX2_restore_0 33 rfl
def zl_cX2_remember_0 : List (Nat × Instr × Nat) := [(0, .aload_n 0, 1), (1, .getfield 174, 3), (4, .bipush 14, 2), (6, .if_icmp .ne 26, 3), (9, .aload_n 0, 1), (10, .aload_n 0, 1), (11, .getfield 179, 3), (14, .iconst 1, 1), (15, .iadd, 1), (16, .bipush 14, 2), (18, .irem, 1), (19, .putfield 179, 3), (22, .aload_n 0, 1), (23, .dup, 1), (24, .getfield 174, 3), (27, .iconst 1, 1), (28, .isub, 1), (29, .putfield 174, 3), (32, .aload_n 0, 1), (33, .getfield 19, 3), (36, .aload_n 0, 1), (37, .getfield 179, 3), (40, .aload_n 0, 1), (41, .getfield 174, 3), (44, .iadd, 1), (45, .bipush 14, 2), (47, .irem, 1), (48, .invokestatic 182, 3), (51, .astore_n 1, 1), (52, .aload_n 1, 1), (53, .ifnull 11, 3), (56, .aload_n 1, 1), (57, .aload_n 0, 1), (58, .getfield 12, 3), (61, .invokevirtual 186, 3), (64, .aload_n 0, 1), (65, .dup, 1), (66, .getfield 174, 3), (69, .iconst 1, 1), (70, .iadd, 1), (71, .putfield 174, 3), (74, .return_, 1)]
theorem zo_cX2_remember_0 : zd_ok cX2_remember zl_cX2_remember_0 = true := by decide +kernel
theorem dX2_remember_0 : decode cX2_remember 0 = .ok (.aload_n 0, 1) := zd_at zo_cX2_remember_0 0 rfl
theorem dX2_remember_1 : decode cX2_remember 1 = .ok (.getfield 174, 3) := zd_at zo_cX2_remember_0 1 rfl
theorem dX2_remember_4 : decode cX2_remember 4 = .ok (.bipush 14, 2) := zd_at zo_cX2_remember_0 2 rfl
theorem dX2_remember_6 : decode cX2_remember 6 = .ok (.if_icmp .ne 26, 3) := zd_at zo_cX2_remember_0 3 rfl
theorem dX2_remember_9 : decode cX2_remember 9 = .ok (.aload_n 0, 1) := zd_at zo_cX2_remember_0 4 rfl
theorem dX2_remember_10 : decode cX2_remember 10 = .ok (.aload_n 0, 1) := zd_at zo_cX2_remember_0 5 rfl
theorem dX2_remember_11 : decode cX2_remember 11 = .ok (.getfield 179, 3) := zd_at zo_cX2_remember_0 6 rfl
theorem dX2_remember_14 : decode cX2_remember 14 = .ok (.iconst 1, 1) := zd_at zo_cX2_remember_0 7 rfl
theorem dX2_remember_15 : decode cX2_remember 15 = .ok (.iadd, 1) := zd_at zo_cX2_remember_0 8 rfl
theorem dX2_remember_16 : decode cX2_remember 16 = .ok (.bipush 14, 2) := zd_at zo_cX2_remember_0 9 rfl
theorem dX2_remember_18 : decode cX2_remember 18 = .ok (.irem, 1) := zd_at zo_cX2_remember_0 10 rfl
theorem dX2_remember_19 : decode cX2_remember 19 = .ok (.putfield 179, 3) := zd_at zo_cX2_remember_0 11 rfl
theorem dX2_remember_22 : decode cX2_remember 22 = .ok (.aload_n 0, 1) := zd_at zo_cX2_remember_0 12 rfl
theorem dX2_remember_23 : decode cX2_remember 23 = .ok (.dup, 1) := zd_at zo_cX2_remember_0 13 rfl
theorem dX2_remember_24 : decode cX2_remember 24 = .ok (.getfield 174, 3) := zd_at zo_cX2_remember_0 14 rfl
theorem dX2_remember_27 : decode cX2_remember 27 = .ok (.iconst 1, 1) := zd_at zo_cX2_remember_0 15 rfl
theorem dX2_remember_28 : decode cX2_remember 28 = .ok (.isub, 1) := zd_at zo_cX2_remember_0 16 rfl
theorem dX2_remember_29 : decode cX2_remember 29 = .ok (.putfield 174, 3) := zd_at zo_cX2_remember_0 17 rfl
theorem dX2_remember_32 : decode cX2_remember 32 = .ok (.aload_n 0, 1) := zd_at zo_cX2_remember_0 18 rfl
theorem dX2_remember_33 : decode cX2_remember 33 = .ok (.getfield 19, 3) := zd_at zo_cX2_remember_0 19 rfl
theorem dX2_remember_36 : decode cX2_remember 36 = .ok (.aload_n 0, 1) := zd_at zo_cX2_remember_0 20 rfl
theorem dX2_remember_37 : decode cX2_remember 37 = .ok (.getfield 179, 3) := zd_at zo_cX2_remember_0 21 rfl
theorem dX2_remember_40 : decode cX2_remember 40 = .ok (.aload_n 0, 1) := zd_at zo_cX2_remember_0 22 rfl
theorem dX2_remember_41 : decode cX2_remember 41 = .ok (.getfield 174, 3) := zd_at zo_cX2_remember_0 23 rfl
theorem dX2_remember_44 : decode cX2_remember 44 = .ok (.iadd, 1) := zd_at zo_cX2_remember_0 24 rfl
theorem dX2_remember_45 : decode cX2_remember 45 = .ok (.bipush 14, 2) := zd_at zo_cX2_remember_0 25 rfl
theorem dX2_remember_47 : decode cX2_remember 47 = .ok (.irem, 1) := zd_at zo_cX2_remember_0 26 rfl
theorem dX2_remember_48 : decode cX2_remember 48 = .ok (.invokestatic 182, 3) := zd_at zo_cX2_remember_0 27 rfl
theorem dX2_remember_51 : decode cX2_remember 51 = .ok (.astore_n 1, 1) := zd_at zo_cX2_remember_0 28 rfl
theorem dX2_remember_52 : decode cX2_remember 52 = .ok (.aload_n 1, 1) := zd_at zo_cX2_remember_0 29 rfl
theorem dX2_remember_53 : decode cX2_remember 53 = .ok (.ifnull 11, 3) := zd_at zo_cX2_remember_0 30 rfl
theorem dX2_remember_56 : decode cX2_remember 56 = .ok (.aload_n 1, 1) := zd_at zo_cX2_remember_0 31 rfl
theorem dX2_remember_57 : decode cX2_remember 57 = .ok (.aload_n 0, 1) := zd_at zo_cX2_remember_0 32 rfl
theorem dX2_remember_58 : decode cX2_remember 58 = .ok (.getfield 12, 3) := zd_at zo_cX2_remember_0 33 rfl
theorem dX2_remember_61 : decode cX2_remember 61 = .ok (.invokevirtual 186, 3) := zd_at zo_cX2_remember_0 34 rfl
theorem dX2_remember_64 : decode cX2_remember 64 = .ok (.aload_n 0, 1) := zd_at zo_cX2_remember_0 35 rfl
theorem dX2_remember_65 : decode cX2_remember 65 = .ok (.dup, 1) := zd_at zo_cX2_remember_0 36 rfl
theorem dX2_remember_66 : decode cX2_remember 66 = .ok (.getfield 174, 3) := zd_at zo_cX2_remember_0 37 rfl
theorem dX2_remember_69 : decode cX2_remember 69 = .ok (.iconst 1, 1) := zd_at zo_cX2_remember_0 38 rfl
theorem dX2_remember_70 : decode cX2_remember 70 = .ok (.iadd, 1) := zd_at zo_cX2_remember_0 39 rfl
theorem dX2_remember_71 : decode cX2_remember 71 = .ok (.putfield 174, 3) := zd_at zo_cX2_remember_0 40 rfl
theorem dX2_remember_74 : decode cX2_remember 74 = .ok (.return_, 1) := zd_at zo_cX2_remember_0 41 rfl
def zl_cX2_tryAdding_0 : List (Nat × Instr × Nat) := [(0, .aload_n 0, 1), (1, .getfield 16, 3), (4, .invokevirtual 137, 3), (7, .istore 5, 2), (9, .aload_n 0, 1), (10, .getfield 16, 3), (13, .invokevirtual 140, 3), (16, .aload_n 0, 1), (17, .getfield 16, 3), (20, .iload 5, 2), (22, .iload_n 1, 1), (23, .iload_n 2, 1), (24, .iload_n 3, 1), (25, .iload 4, 2), (27, .invokevirtual 143, 3), (30, .aload_n 0, 1), (31, .getfield 16, 3), (34, .iload 5, 2), (36, .invokevirtual 147, 3), (39, .return_, 1)]
theorem zo_cX2_tryAdding_0 : zd_ok cX2_tryAdding zl_cX2_tryAdding_0 = true := by decide +kernel
theorem dX2_tryAdding_0 : decode cX2_tryAdding 0 = .ok (.aload_n 0, 1) := zd_at zo_cX2_tryAdding_0 0 rfl
theorem dX2_tryAdding_1 : decode cX2_tryAdding 1 = .ok (.getfield 16, 3) := zd_at zo_cX2_tryAdding_0 1 rfl
theorem dX2_tryAdding_4 : decode cX2_tryAdding 4 = .ok (.invokevirtual 137, 3) := zd_at zo_cX2_tryAdding_0 2 rfl
theorem dX2_tryAdding_7 : decode cX2_tryAdding 7 = .ok (.istore 5, 2) := zd_at zo_cX2_tryAdding_0 3 rfl
theorem dX2_tryAdding_9 : decode cX2_tryAdding 9 = .ok (.aload_n 0, 1) := zd_at zo_cX2_tryAdding_0 4 rfl
theorem dX2_tryAdding_10 : decode cX2_tryAdding 10 = .ok (.getfield 16, 3) := zd_at zo_cX2_tryAdding_0 5 rfl
theorem dX2_tryAdding_13 : decode cX2_tryAdding 13 = .ok (.invokevirtual 140, 3) := zd_at zo_cX2_tryAdding_0 6 rfl
theorem dX2_tryAdding_16 : decode cX2_tryAdding 16 = .ok (.aload_n 0, 1) := zd_at zo_cX2_tryAdding_0 7 rfl
theorem dX2_tryAdding_17 : decode cX2_tryAdding 17 = .ok (.getfield 16, 3) := zd_at zo_cX2_tryAdding_0 8 rfl
theorem dX2_tryAdding_20 : decode cX2_tryAdding 20 = .ok (.iload 5, 2) := zd_at zo_cX2_tryAdding_0 9 rfl
theorem dX2_tryAdding_22 : decode cX2_tryAdding 22 = .ok (.iload_n 1, 1) := zd_at zo_cX2_tryAdding_0 10 rfl
theorem dX2_tryAdding_23 : decode cX2_tryAdding 23 = .ok (.iload_n 2, 1) := zd_at zo_cX2_tryAdding_0 11 rfl
theorem dX2_tryAdding_24 : decode cX2_tryAdding 24 = .ok (.iload_n 3, 1) := zd_at zo_cX2_tryAdding_0 12 rfl
theorem dX2_tryAdding_25 : decode cX2_tryAdding 25 = .ok (.iload 4, 2) := zd_at zo_cX2_tryAdding_0 13 rfl
theorem dX2_tryAdding_27 : decode cX2_tryAdding 27 = .ok (.invokevirtual 143, 3) := zd_at zo_cX2_tryAdding_0 14 rfl
theorem dX2_tryAdding_30 : decode cX2_tryAdding 30 = .ok (.aload_n 0, 1) := zd_at zo_cX2_tryAdding_0 15 rfl
theorem dX2_tryAdding_31 : decode cX2_tryAdding 31 = .ok (.getfield 16, 3) := zd_at zo_cX2_tryAdding_0 16 rfl
theorem dX2_tryAdding_34 : decode cX2_tryAdding 34 = .ok (.iload 5, 2) := zd_at zo_cX2_tryAdding_0 17 rfl
theorem dX2_tryAdding_36 : decode cX2_tryAdding 36 = .ok (.invokevirtual 147, 3) := zd_at zo_cX2_tryAdding_0 18 rfl
theorem dX2_tryAdding_39 : decode cX2_tryAdding 39 = .ok (.return_, 1) := zd_at zo_cX2_tryAdding_0 19 rfl
def zl_cX2_takeTurn_0 : List (Nat × Instr × Nat) := [(0, .aload_n 0, 1), (1, .getfield 16, 3), (4, .invokevirtual 61, 3), (7, .istore_n 2, 1), (8, .iload_n 2, 1), (9, .bipush 24, 2), (11, .if_icmp .eq 13, 3), (14, .iload_n 1, 1), (15, .iconst 4, 1), (16, .irem, 1), (17, .ifCond .ne 43, 3), (20, .iload_n 2, 1), (21, .ifCond .le 39, 3), (24, .iload_n 1, 1), (25, .iconst 4, 1), (26, .idiv, 1), (27, .bipush 24, 2), (29, .irem, 1), (30, .istore_n 3, 1), (31, .aload_n 0, 1), (32, .getfield 16, 3), (35, .iload_n 3, 1), (36, .invokevirtual 90, 3), (39, .ifCond .eq 18, 3), (42, .aload_n 0, 1), (43, .getfield 16, 3), (46, .invokevirtual 140, 3), (49, .aload_n 0, 1), (50, .getfield 16, 3), (53, .iload_n 3, 1), (54, .invokevirtual 159, 3), (57, .goto 46, 3), (60, .iload_n 1, 1), (61, .iconst 4, 1), (62, .idiv, 1), (63, .bipush 90, 2), (65, .irem, 1), (66, .istore_n 3, 1), (67, .iload_n 1, 1), (68, .sipush 512, 3), (71, .idiv, 1), (72, .bipush 90, 2), (74, .irem, 1), (75, .istore 4, 2), (77, .aload_n 0, 1), (78, .iload_n 3, 1), (79, .iload 4, 2), (81, .iload_n 3, 1), (82, .iload_n 1, 1), (83, .ldc 249, 2), (85, .idiv, 1), (86, .bipush 10, 2), (88, .irem, 1), (89, .iadd, 1), (90, .iload 4, 2), (92, .iload_n 1, 1), (93, .ldc 250, 2), (95, .idiv, 1), (96, .bipush 10, 2), (98, .irem, 1), (99, .iadd, 1), (100, .invokevirtual 210, 3), (103, .return_, 1)]
theorem zo_cX2_takeTurn_0 : zd_ok cX2_takeTurn zl_cX2_takeTurn_0 = true := by decide +kernel
theorem dX2_takeTurn_0 : decode cX2_takeTurn 0 = .ok (.aload_n 0, 1) := zd_at zo_cX2_takeTurn_0 0 rfl
theorem dX2_takeTurn_1 : decode cX2_takeTurn 1 = .ok (.getfield 16, 3) := zd_at zo_cX2_takeTurn_0 1 rfl
theorem dX2_takeTurn_4 : decode cX2_takeTurn 4 = .ok (.invokevirtual 61, 3) := zd_at zo_cX2_takeTurn_0 2 rfl
theorem dX2_takeTurn_7 : decode cX2_takeTurn 7 = .ok (.istore_n 2, 1) := zd_at zo_cX2_takeTurn_0 3 rfl
theorem dX2_takeTurn_8 : decode cX2_takeTurn 8 = .ok (.iload_n 2, 1) := zd_at zo_cX2_takeTurn_0 4 rfl
theorem dX2_takeTurn_9 : decode cX2_takeTurn 9 = .ok (.bipush 24, 2) := zd_at zo_cX2_takeTurn_0 5 rfl
theorem dX2_takeTurn_11 : decode cX2_takeTurn 11 = .ok (.if_icmp .eq 13, 3) := zd_at zo_cX2_takeTurn_0 6 rfl
theorem dX2_takeTurn_14 : decode cX2_takeTurn 14 = .ok (.iload_n 1, 1) := zd_at zo_cX2_takeTurn_0 7 rfl
theorem dX2_takeTurn_15 : decode cX2_takeTurn 15 = .ok (.iconst 4, 1) := zd_at zo_cX2_takeTurn_0 8 rfl
theorem dX2_takeTurn_16 : decode cX2_takeTurn 16 = .ok (.irem, 1) := zd_at zo_cX2_takeTurn_0 9 rfl
theorem dX2_takeTurn_17 : decode cX2_takeTurn 17 = .ok (.ifCond .ne 43, 3) := zd_at zo_cX2_takeTurn_0 10 rfl
theorem dX2_takeTurn_20 : decode cX2_takeTurn 20 = .ok (.iload_n 2, 1) := zd_at zo_cX2_takeTurn_0 11 rfl
theorem dX2_takeTurn_21 : decode cX2_takeTurn 21 = .ok (.ifCond .le 39, 3) := zd_at zo_cX2_takeTurn_0 12 rfl
theorem dX2_takeTurn_24 : decode cX2_takeTurn 24 = .ok (.iload_n 1, 1) := zd_at zo_cX2_takeTurn_0 13 rfl
theorem dX2_takeTurn_25 : decode cX2_takeTurn 25 = .ok (.iconst 4, 1) := zd_at zo_cX2_takeTurn_0 14 rfl
theorem dX2_takeTurn_26 : decode cX2_takeTurn 26 = .ok (.idiv, 1) := zd_at zo_cX2_takeTurn_0 15 rfl
theorem dX2_takeTurn_27 : decode cX2_takeTurn 27 = .ok (.bipush 24, 2) := zd_at zo_cX2_takeTurn_0 16 rfl
theorem dX2_takeTurn_29 : decode cX2_takeTurn 29 = .ok (.irem, 1) := zd_at zo_cX2_takeTurn_0 17 rfl
theorem dX2_takeTurn_30 : decode cX2_takeTurn 30 = .ok (.istore_n 3, 1) := zd_at zo_cX2_takeTurn_0 18 rfl
theorem dX2_takeTurn_31 : decode cX2_takeTurn 31 = .ok (.aload_n 0, 1) := zd_at zo_cX2_takeTurn_0 19 rfl
theorem dX2_takeTurn_32 : decode cX2_takeTurn 32 = .ok (.getfield 16, 3) := zd_at zo_cX2_takeTurn_0 20 rfl
theorem dX2_takeTurn_35 : decode cX2_takeTurn 35 = .ok (.iload_n 3, 1) := zd_at zo_cX2_takeTurn_0 21 rfl
theorem dX2_takeTurn_36 : decode cX2_takeTurn 36 = .ok (.invokevirtual 90, 3) := zd_at zo_cX2_takeTurn_0 22 rfl
theorem dX2_takeTurn_39 : decode cX2_takeTurn 39 = .ok (.ifCond .eq 18, 3) := zd_at zo_cX2_takeTurn_0 23 rfl
theorem dX2_takeTurn_42 : decode cX2_takeTurn 42 = .ok (.aload_n 0, 1) := zd_at zo_cX2_takeTurn_0 24 rfl
theorem dX2_takeTurn_43 : decode cX2_takeTurn 43 = .ok (.getfield 16, 3) := zd_at zo_cX2_takeTurn_0 25 rfl
theorem dX2_takeTurn_46 : decode cX2_takeTurn 46 = .ok (.invokevirtual 140, 3) := zd_at zo_cX2_takeTurn_0 26 rfl
theorem dX2_takeTurn_49 : decode cX2_takeTurn 49 = .ok (.aload_n 0, 1) := zd_at zo_cX2_takeTurn_0 27 rfl
theorem dX2_takeTurn_50 : decode cX2_takeTurn 50 = .ok (.getfield 16, 3) := zd_at zo_cX2_takeTurn_0 28 rfl
theorem dX2_takeTurn_53 : decode cX2_takeTurn 53 = .ok (.iload_n 3, 1) := zd_at zo_cX2_takeTurn_0 29 rfl
theorem dX2_takeTurn_54 : decode cX2_takeTurn 54 = .ok (.invokevirtual 159, 3) := zd_at zo_cX2_takeTurn_0 30 rfl
theorem dX2_takeTurn_57 : decode cX2_takeTurn 57 = .ok (.goto 46, 3) := zd_at zo_cX2_takeTurn_0 31 rfl
theorem dX2_takeTurn_60 : decode cX2_takeTurn 60 = .ok (.iload_n 1, 1) := zd_at zo_cX2_takeTurn_0 32 rfl
theorem dX2_takeTurn_61 : decode cX2_takeTurn 61 = .ok (.iconst 4, 1) := zd_at zo_cX2_takeTurn_0 33 rfl
theorem dX2_takeTurn_62 : decode cX2_takeTurn 62 = .ok (.idiv, 1) := zd_at zo_cX2_takeTurn_0 34 rfl
theorem dX2_takeTurn_63 : decode cX2_takeTurn 63 = .ok (.bipush 90, 2) := zd_at zo_cX2_takeTurn_0 35 rfl
theorem dX2_takeTurn_65 : decode cX2_takeTurn 65 = .ok (.irem, 1) := zd_at zo_cX2_takeTurn_0 36 rfl
theorem dX2_takeTurn_66 : decode cX2_takeTurn 66 = .ok (.istore_n 3, 1) := zd_at zo_cX2_takeTurn_0 37 rfl
theorem dX2_takeTurn_67 : decode cX2_takeTurn 67 = .ok (.iload_n 1, 1) := zd_at zo_cX2_takeTurn_0 38 rfl
theorem dX2_takeTurn_68 : decode cX2_takeTurn 68 = .ok (.sipush 512, 3) := zd_at zo_cX2_takeTurn_0 39 rfl
theorem dX2_takeTurn_71 : decode cX2_takeTurn 71 = .ok (.idiv, 1) := zd_at zo_cX2_takeTurn_0 40 rfl
theorem dX2_takeTurn_72 : decode cX2_takeTurn 72 = .ok (.bipush 90, 2) := zd_at zo_cX2_takeTurn_0 41 rfl
theorem dX2_takeTurn_74 : decode cX2_takeTurn 74 = .ok (.irem, 1) := zd_at zo_cX2_takeTurn_0 42 rfl
theorem dX2_takeTurn_75 : decode cX2_takeTurn 75 = .ok (.istore 4, 2) := zd_at zo_cX2_takeTurn_0 43 rfl
theorem dX2_takeTurn_77 : decode cX2_takeTurn 77 = .ok (.aload_n 0, 1) := zd_at zo_cX2_takeTurn_0 44 rfl
theorem dX2_takeTurn_78 : decode cX2_takeTurn 78 = .ok (.iload_n 3, 1) := zd_at zo_cX2_takeTurn_0 45 rfl
theorem dX2_takeTurn_79 : decode cX2_takeTurn 79 = .ok (.iload 4, 2) := zd_at zo_cX2_takeTurn_0 46 rfl
theorem dX2_takeTurn_81 : decode cX2_takeTurn 81 = .ok (.iload_n 3, 1) := zd_at zo_cX2_takeTurn_0 47 rfl
theorem dX2_takeTurn_82 : decode cX2_takeTurn 82 = .ok (.iload_n 1, 1) := zd_at zo_cX2_takeTurn_0 48 rfl
theorem dX2_takeTurn_83 : decode cX2_takeTurn 83 = .ok (.ldc 249, 2) := zd_at zo_cX2_takeTurn_0 49 rfl
theorem dX2_takeTurn_85 : decode cX2_takeTurn 85 = .ok (.idiv, 1) := zd_at zo_cX2_takeTurn_0 50 rfl
theorem dX2_takeTurn_86 : decode cX2_takeTurn 86 = .ok (.bipush 10, 2) := zd_at zo_cX2_takeTurn_0 51 rfl
theorem dX2_takeTurn_88 : decode cX2_takeTurn 88 = .ok (.irem, 1) := zd_at zo_cX2_takeTurn_0 52 rfl
theorem dX2_takeTurn_89 : decode cX2_takeTurn 89 = .ok (.iadd, 1) := zd_at zo_cX2_takeTurn_0 53 rfl
theorem dX2_takeTurn_90 : decode cX2_takeTurn 90 = .ok (.iload 4, 2) := zd_at zo_cX2_takeTurn_0 54 rfl
theorem dX2_takeTurn_92 : decode cX2_takeTurn 92 = .ok (.iload_n 1, 1) := zd_at zo_cX2_takeTurn_0 55 rfl
theorem dX2_takeTurn_93 : decode cX2_takeTurn 93 = .ok (.ldc 250, 2) := zd_at zo_cX2_takeTurn_0 56 rfl
theorem dX2_takeTurn_95 : decode cX2_takeTurn 95 = .ok (.idiv, 1) := zd_at zo_cX2_takeTurn_0 57 rfl
theorem dX2_takeTurn_96 : decode cX2_takeTurn 96 = .ok (.bipush 10, 2) := zd_at zo_cX2_takeTurn_0 58 rfl
theorem dX2_takeTurn_98 : decode cX2_takeTurn 98 = .ok (.irem, 1) := zd_at zo_cX2_takeTurn_0 59 rfl
theorem dX2_takeTurn_99 : decode cX2_takeTurn 99 = .ok (.iadd, 1) := zd_at zo_cX2_takeTurn_0 60 rfl
theorem dX2_takeTurn_100 : decode cX2_takeTurn 100 = .ok (.invokevirtual 210, 3) := zd_at zo_cX2_takeTurn_0 61 rfl
theorem dX2_takeTurn_103 : decode cX2_takeTurn 103 = .ok (.return_, 1) := zd_at zo_cX2_takeTurn_0 62 rfl
def zl_cX2_succeeds_0 : List (Nat × Instr × Nat) := [(0, .iload_n 1, 1), (1, .ldc 251, 2), (3, .idiv, 1), (4, .bipush 100, 2), (6, .irem, 1), (7, .istore_n 2, 1), (8, .iload_n 1, 1), (9, .sipush 10000, 3), (12, .idiv, 1), (13, .bipush 100, 2), (15, .irem, 1), (16, .istore_n 3, 1), (17, .iload_n 1, 1), (18, .bipush 100, 2), (20, .idiv, 1), (21, .bipush 100, 2), (23, .irem, 1), (24, .istore 4, 2), (26, .iload_n 1, 1), (27, .bipush 100, 2), (29, .irem, 1), (30, .istore 5, 2), (32, .iload_n 1, 1), (33, .ldc 252, 2), (35, .idiv, 1), (36, .istore 6, 2), (38, .iload 6, 2), (40, .tableswitch 222 1 4 #[32, 78, 122, 122], 32), (72, .iload_n 2, 1), (73, .iload_n 3, 1), (74, .iload_n 2, 1), (75, .iload 4, 2), (77, .iadd, 1), (78, .iload_n 3, 1), (79, .iload 5, 2), (81, .iadd, 1), (82, .invokestatic 126, 3), (85, .ifCond .eq 15, 3), (88, .aload_n 0, 1), (89, .getfield 16, 3), (92, .invokevirtual 61, 3), (95, .bipush 24, 2), (97, .if_icmp .lt 5, 3), (100, .iconst 0, 1), (101, .ireturn, 1), (102, .aload_n 0, 1), (103, .iload_n 2, 1), (104, .iload_n 3, 1), (105, .iload_n 2, 1), (106, .iload 4, 2), (108, .iadd, 1), (109, .iload_n 3, 1), (110, .iload 5, 2), (112, .iadd, 1), (113, .invokevirtual 210, 3), (116, .iconst 1, 1), (117, .ireturn, 1), (118, .iload_n 3, 1), (119, .ifCond .ne 24, 3), (122, .iload 4, 2), (124, .ifCond .ne 19, 3), (127, .iload 5, 2), (129, .ifCond .ne 14, 3), (132, .aload_n 0, 1), (133, .getfield 16, 3), (136, .iload_n 2, 1), (137, .invokevirtual 90, 3), (140, .ifCond .ne 5, 3), (143, .iconst 0, 1), (144, .ireturn, 1), (145, .aload_n 0, 1), (146, .getfield 16, 3), (149, .invokevirtual 140, 3), (152, .aload_n 0, 1), (153, .getfield 16, 3), (156, .iload_n 2, 1), (157, .invokevirtual 159, 3), (160, .iconst 1, 1), (161, .ireturn, 1), (162, .iload 6, 2), (164, .iconst 3, 1), (165, .if_icmp .ne 7, 3), (168, .iload_n 3, 1), (169, .goto 5, 3), (172, .iload_n 3, 1), (173, .ineg, 1), (174, .istore 7, 2), (176, .iload 6, 2), (178, .iconst 3, 1), (179, .if_icmp .ne 8, 3), (182, .iload 4, 2), (184, .goto 6, 3), (187, .iload 4, 2), (189, .ineg, 1), (190, .istore 8, 2), (192, .iload 5, 2), (194, .ifCond .ne 29, 3), (197, .aload_n 0, 1), (198, .getfield 16, 3), (201, .iload_n 2, 1), (202, .invokevirtual 90, 3), (205, .ifCond .eq 18, 3), (208, .aload_n 0, 1), (209, .getfield 16, 3), (212, .iload_n 2, 1), (213, .iload 7, 2), (215, .iload 8, 2), (217, .invokevirtual 164, 3), (220, .ifCond .ne 5, 3), (223, .iconst 0, 1), (224, .ireturn, 1), (225, .aload_n 0, 1), (226, .getfield 16, 3), (229, .invokevirtual 140, 3), (232, .aload_n 0, 1), (233, .getfield 16, 3), (236, .iload_n 2, 1), (237, .invokevirtual 159, 3), (240, .aload_n 0, 1), (241, .getfield 16, 3)]
theorem zo_cX2_succeeds_0 : zd_ok cX2_succeeds zl_cX2_succeeds_0 = true := by decide +kernel
theorem dX2_succeeds_0 : decode cX2_succeeds 0 = .ok (.iload_n 1, 1) := zd_at zo_cX2_succeeds_0 0 rfl
theorem dX2_succeeds_1 : decode cX2_succeeds 1 = .ok (.ldc 251, 2) := zd_at zo_cX2_succeeds_0 1 rfl
theorem dX2_succeeds_3 : decode cX2_succeeds 3 = .ok (.idiv, 1) := zd_at zo_cX2_succeeds_0 2 rfl
theorem dX2_succeeds_4 : decode cX2_succeeds 4 = .ok (.bipush 100, 2) := zd_at zo_cX2_succeeds_0 3 rfl
theorem dX2_succeeds_6 : decode cX2_succeeds 6 = .ok (.irem, 1) := zd_at zo_cX2_succeeds_0 4 rfl
theorem dX2_succeeds_7 : decode cX2_succeeds 7 = .ok (.istore_n 2, 1) := zd_at zo_cX2_succeeds_0 5 rfl
theorem dX2_succeeds_8 : decode cX2_succeeds 8 = .ok (.iload_n 1, 1) := zd_at zo_cX2_succeeds_0 6 rfl
theorem dX2_succeeds_9 : decode cX2_succeeds 9 = .ok (.sipush 10000, 3) := zd_at zo_cX2_succeeds_0 7 rfl
theorem dX2_succeeds_12 : decode cX2_succeeds 12 = .ok (.idiv, 1) := zd_at zo_cX2_succeeds_0 8 rfl
theorem dX2_succeeds_13 : decode cX2_succeeds 13 = .ok (.bipush 100, 2) := zd_at zo_cX2_succeeds_0 9 rfl
theorem dX2_succeeds_15 : decode cX2_succeeds 15 = .ok (.irem, 1) := zd_at zo_cX2_succeeds_0 10 rfl
theorem dX2_succeeds_16 : decode cX2_succeeds 16 = .ok (.istore_n 3, 1) := zd_at zo_cX2_succeeds_0 11 rfl
theorem dX2_succeeds_17 : decode cX2_succeeds 17 = .ok (.iload_n 1, 1) := zd_at zo_cX2_succeeds_0 12 rfl
theorem dX2_succeeds_18 : decode cX2_succeeds 18 = .ok (.bipush 100, 2) := zd_at zo_cX2_succeeds_0 13 rfl
theorem dX2_succeeds_20 : decode cX2_succeeds 20 = .ok (.idiv, 1) := zd_at zo_cX2_succeeds_0 14 rfl
theorem dX2_succeeds_21 : decode cX2_succeeds 21 = .ok (.bipush 100, 2) := zd_at zo_cX2_succeeds_0 15 rfl
theorem dX2_succeeds_23 : decode cX2_succeeds 23 = .ok (.irem, 1) := zd_at zo_cX2_succeeds_0 16 rfl
theorem dX2_succeeds_24 : decode cX2_succeeds 24 = .ok (.istore 4, 2) := zd_at zo_cX2_succeeds_0 17 rfl
theorem dX2_succeeds_26 : decode cX2_succeeds 26 = .ok (.iload_n 1, 1) := zd_at zo_cX2_succeeds_0 18 rfl
theorem dX2_succeeds_27 : decode cX2_succeeds 27 = .ok (.bipush 100, 2) := zd_at zo_cX2_succeeds_0 19 rfl
theorem dX2_succeeds_29 : decode cX2_succeeds 29 = .ok (.irem, 1) := zd_at zo_cX2_succeeds_0 20 rfl
theorem dX2_succeeds_30 : decode cX2_succeeds 30 = .ok (.istore 5, 2) := zd_at zo_cX2_succeeds_0 21 rfl
theorem dX2_succeeds_32 : decode cX2_succeeds 32 = .ok (.iload_n 1, 1) := zd_at zo_cX2_succeeds_0 22 rfl
theorem dX2_succeeds_33 : decode cX2_succeeds 33 = .ok (.ldc 252, 2) := zd_at zo_cX2_succeeds_0 23 rfl
theorem dX2_succeeds_35 : decode cX2_succeeds 35 = .ok (.idiv, 1) := zd_at zo_cX2_succeeds_0 24 rfl
theorem dX2_succeeds_36 : decode cX2_succeeds 36 = .ok (.istore 6, 2) := zd_at zo_cX2_succeeds_0 25 rfl
theorem dX2_succeeds_38 : decode cX2_succeeds 38 = .ok (.iload 6, 2) := zd_at zo_cX2_succeeds_0 26 rfl
theorem dX2_succeeds_40 : decode cX2_succeeds 40 = .ok (.tableswitch 222 1 4 #[32, 78, 122, 122], 32) := zd_at zo_cX2_succeeds_0 27 rfl
theorem dX2_succeeds_72 : decode cX2_succeeds 72 = .ok (.iload_n 2, 1) := zd_at zo_cX2_succeeds_0 28 rfl
theorem dX2_succeeds_73 : decode cX2_succeeds 73 = .ok (.iload_n 3, 1) := zd_at zo_cX2_succeeds_0 29 rfl
theorem dX2_succeeds_74 : decode cX2_succeeds 74 = .ok (.iload_n 2, 1) := zd_at zo_cX2_succeeds_0 30 rfl
theorem dX2_succeeds_75 : decode cX2_succeeds 75 = .ok (.iload 4, 2) := zd_at zo_cX2_succeeds_0 31 rfl
theorem dX2_succeeds_77 : decode cX2_succeeds 77 = .ok (.iadd, 1) := zd_at zo_cX2_succeeds_0 32 rfl
theorem dX2_succeeds_78 : decode cX2_succeeds 78 = .ok (.iload_n 3, 1) := zd_at zo_cX2_succeeds_0 33 rfl
theorem dX2_succeeds_79 : decode cX2_succeeds 79 = .ok (.iload 5, 2) := zd_at zo_cX2_succeeds_0 34 rfl
theorem dX2_succeeds_81 : decode cX2_succeeds 81 = .ok (.iadd, 1) := zd_at zo_cX2_succeeds_0 35 rfl
theorem dX2_succeeds_82 : decode cX2_succeeds 82 = .ok (.invokestatic 126, 3) := zd_at zo_cX2_succeeds_0 36 rfl
theorem dX2_succeeds_85 : decode cX2_succeeds 85 = .ok (.ifCond .eq 15, 3) := zd_at zo_cX2_succeeds_0 37 rfl
theorem dX2_succeeds_88 : decode cX2_succeeds 88 = .ok (.aload_n 0, 1) := zd_at zo_cX2_succeeds_0 38 rfl
theorem dX2_succeeds_89 : decode cX2_succeeds 89 = .ok (.getfield 16, 3) := zd_at zo_cX2_succeeds_0 39 rfl
theorem dX2_succeeds_92 : decode cX2_succeeds 92 = .ok (.invokevirtual 61, 3) := zd_at zo_cX2_succeeds_0 40 rfl
theorem dX2_succeeds_95 : decode cX2_succeeds 95 = .ok (.bipush 24, 2) := zd_at zo_cX2_succeeds_0 41 rfl
theorem dX2_succeeds_97 : decode cX2_succeeds 97 = .ok (.if_icmp .lt 5, 3) := zd_at zo_cX2_succeeds_0 42 rfl
theorem dX2_succeeds_100 : decode cX2_succeeds 100 = .ok (.iconst 0, 1) := zd_at zo_cX2_succeeds_0 43 rfl
theorem dX2_succeeds_101 : decode cX2_succeeds 101 = .ok (.ireturn, 1) := zd_at zo_cX2_succeeds_0 44 rfl
theorem dX2_succeeds_102 : decode cX2_succeeds 102 = .ok (.aload_n 0, 1) := zd_at zo_cX2_succeeds_0 45 rfl
theorem dX2_succeeds_103 : decode cX2_succeeds 103 = .ok (.iload_n 2, 1) := zd_at zo_cX2_succeeds_0 46 rfl
theorem dX2_succeeds_104 : decode cX2_succeeds 104 = .ok (.iload_n 3, 1) := zd_at zo_cX2_succeeds_0 47 rfl
theorem dX2_succeeds_105 : decode cX2_succeeds 105 = .ok (.iload_n 2, 1) := zd_at zo_cX2_succeeds_0 48 rfl
theorem dX2_succeeds_106 : decode cX2_succeeds 106 = .ok (.iload 4, 2) := zd_at zo_cX2_succeeds_0 49 rfl
theorem dX2_succeeds_108 : decode cX2_succeeds 108 = .ok (.iadd, 1) := zd_at zo_cX2_succeeds_0 50 rfl
theorem dX2_succeeds_109 : decode cX2_succeeds 109 = .ok (.iload_n 3, 1) := zd_at zo_cX2_succeeds_0 51 rfl
theorem dX2_succeeds_110 : decode cX2_succeeds 110 = .ok (.iload 5, 2) := zd_at zo_cX2_succeeds_0 52 rfl
theorem dX2_succeeds_112 : decode cX2_succeeds 112 = .ok (.iadd, 1) := zd_at zo_cX2_succeeds_0 53 rfl
theorem dX2_succeeds_113 : decode cX2_succeeds 113 = .ok (.invokevirtual 210, 3) := zd_at zo_cX2_succeeds_0 54 rfl
theorem dX2_succeeds_116 : decode cX2_succeeds 116 = .ok (.iconst 1, 1) := zd_at zo_cX2_succeeds_0 55 rfl
theorem dX2_succeeds_117 : decode cX2_succeeds 117 = .ok (.ireturn, 1) := zd_at zo_cX2_succeeds_0 56 rfl
theorem dX2_succeeds_118 : decode cX2_succeeds 118 = .ok (.iload_n 3, 1) := zd_at zo_cX2_succeeds_0 57 rfl
theorem dX2_succeeds_119 : decode cX2_succeeds 119 = .ok (.ifCond .ne 24, 3) := zd_at zo_cX2_succeeds_0 58 rfl
theorem dX2_succeeds_122 : decode cX2_succeeds 122 = .ok (.iload 4, 2) := zd_at zo_cX2_succeeds_0 59 rfl
theorem dX2_succeeds_124 : decode cX2_succeeds 124 = .ok (.ifCond .ne 19, 3) := zd_at zo_cX2_succeeds_0 60 rfl
theorem dX2_succeeds_127 : decode cX2_succeeds 127 = .ok (.iload 5, 2) := zd_at zo_cX2_succeeds_0 61 rfl
theorem dX2_succeeds_129 : decode cX2_succeeds 129 = .ok (.ifCond .ne 14, 3) := zd_at zo_cX2_succeeds_0 62 rfl
theorem dX2_succeeds_132 : decode cX2_succeeds 132 = .ok (.aload_n 0, 1) := zd_at zo_cX2_succeeds_0 63 rfl
theorem dX2_succeeds_133 : decode cX2_succeeds 133 = .ok (.getfield 16, 3) := zd_at zo_cX2_succeeds_0 64 rfl
theorem dX2_succeeds_136 : decode cX2_succeeds 136 = .ok (.iload_n 2, 1) := zd_at zo_cX2_succeeds_0 65 rfl
theorem dX2_succeeds_137 : decode cX2_succeeds 137 = .ok (.invokevirtual 90, 3) := zd_at zo_cX2_succeeds_0 66 rfl
theorem dX2_succeeds_140 : decode cX2_succeeds 140 = .ok (.ifCond .ne 5, 3) := zd_at zo_cX2_succeeds_0 67 rfl
theorem dX2_succeeds_143 : decode cX2_succeeds 143 = .ok (.iconst 0, 1) := zd_at zo_cX2_succeeds_0 68 rfl
theorem dX2_succeeds_144 : decode cX2_succeeds 144 = .ok (.ireturn, 1) := zd_at zo_cX2_succeeds_0 69 rfl
theorem dX2_succeeds_145 : decode cX2_succeeds 145 = .ok (.aload_n 0, 1) := zd_at zo_cX2_succeeds_0 70 rfl
theorem dX2_succeeds_146 : decode cX2_succeeds 146 = .ok (.getfield 16, 3) := zd_at zo_cX2_succeeds_0 71 rfl
theorem dX2_succeeds_149 : decode cX2_succeeds 149 = .ok (.invokevirtual 140, 3) := zd_at zo_cX2_succeeds_0 72 rfl
theorem dX2_succeeds_152 : decode cX2_succeeds 152 = .ok (.aload_n 0, 1) := zd_at zo_cX2_succeeds_0 73 rfl
theorem dX2_succeeds_153 : decode cX2_succeeds 153 = .ok (.getfield 16, 3) := zd_at zo_cX2_succeeds_0 74 rfl
theorem dX2_succeeds_156 : decode cX2_succeeds 156 = .ok (.iload_n 2, 1) := zd_at zo_cX2_succeeds_0 75 rfl
theorem dX2_succeeds_157 : decode cX2_succeeds 157 = .ok (.invokevirtual 159, 3) := zd_at zo_cX2_succeeds_0 76 rfl
theorem dX2_succeeds_160 : decode cX2_succeeds 160 = .ok (.iconst 1, 1) := zd_at zo_cX2_succeeds_0 77 rfl
theorem dX2_succeeds_161 : decode cX2_succeeds 161 = .ok (.ireturn, 1) := zd_at zo_cX2_succeeds_0 78 rfl
theorem dX2_succeeds_162 : decode cX2_succeeds 162 = .ok (.iload 6, 2) := zd_at zo_cX2_succeeds_0 79 rfl
theorem dX2_succeeds_164 : decode cX2_succeeds 164 = .ok (.iconst 3, 1) := zd_at zo_cX2_succeeds_0 80 rfl
theorem dX2_succeeds_165 : decode cX2_succeeds 165 = .ok (.if_icmp .ne 7, 3) := zd_at zo_cX2_succeeds_0 81 rfl
theorem dX2_succeeds_168 : decode cX2_succeeds 168 = .ok (.iload_n 3, 1) := zd_at zo_cX2_succeeds_0 82 rfl
theorem dX2_succeeds_169 : decode cX2_succeeds 169 = .ok (.goto 5, 3) := zd_at zo_cX2_succeeds_0 83 rfl
theorem dX2_succeeds_172 : decode cX2_succeeds 172 = .ok (.iload_n 3, 1) := zd_at zo_cX2_succeeds_0 84 rfl
theorem dX2_succeeds_173 : decode cX2_succeeds 173 = .ok (.ineg, 1) := zd_at zo_cX2_succeeds_0 85 rfl
theorem dX2_succeeds_174 : decode cX2_succeeds 174 = .ok (.istore 7, 2) := zd_at zo_cX2_succeeds_0 86 rfl
theorem dX2_succeeds_176 : decode cX2_succeeds 176 = .ok (.iload 6, 2) := zd_at zo_cX2_succeeds_0 87 rfl
theorem dX2_succeeds_178 : decode cX2_succeeds 178 = .ok (.iconst 3, 1) := zd_at zo_cX2_succeeds_0 88 rfl
theorem dX2_succeeds_179 : decode cX2_succeeds 179 = .ok (.if_icmp .ne 8, 3) := zd_at zo_cX2_succeeds_0 89 rfl
theorem dX2_succeeds_182 : decode cX2_succeeds 182 = .ok (.iload 4, 2) := zd_at zo_cX2_succeeds_0 90 rfl
theorem dX2_succeeds_184 : decode cX2_succeeds 184 = .ok (.goto 6, 3) := zd_at zo_cX2_succeeds_0 91 rfl
theorem dX2_succeeds_187 : decode cX2_succeeds 187 = .ok (.iload 4, 2) := zd_at zo_cX2_succeeds_0 92 rfl
theorem dX2_succeeds_189 : decode cX2_succeeds 189 = .ok (.ineg, 1) := zd_at zo_cX2_succeeds_0 93 rfl
theorem dX2_succeeds_190 : decode cX2_succeeds 190 = .ok (.istore 8, 2) := zd_at zo_cX2_succeeds_0 94 rfl
theorem dX2_succeeds_192 : decode cX2_succeeds 192 = .ok (.iload 5, 2) := zd_at zo_cX2_succeeds_0 95 rfl
theorem dX2_succeeds_194 : decode cX2_succeeds 194 = .ok (.ifCond .ne 29, 3) := zd_at zo_cX2_succeeds_0 96 rfl
theorem dX2_succeeds_197 : decode cX2_succeeds 197 = .ok (.aload_n 0, 1) := zd_at zo_cX2_succeeds_0 97 rfl
theorem dX2_succeeds_198 : decode cX2_succeeds 198 = .ok (.getfield 16, 3) := zd_at zo_cX2_succeeds_0 98 rfl
theorem dX2_succeeds_201 : decode cX2_succeeds 201 = .ok (.iload_n 2, 1) := zd_at zo_cX2_succeeds_0 99 rfl
theorem dX2_succeeds_202 : decode cX2_succeeds 202 = .ok (.invokevirtual 90, 3) := zd_at zo_cX2_succeeds_0 100 rfl
theorem dX2_succeeds_205 : decode cX2_succeeds 205 = .ok (.ifCond .eq 18, 3) := zd_at zo_cX2_succeeds_0 101 rfl
theorem dX2_succeeds_208 : decode cX2_succeeds 208 = .ok (.aload_n 0, 1) := zd_at zo_cX2_succeeds_0 102 rfl
theorem dX2_succeeds_209 : decode cX2_succeeds 209 = .ok (.getfield 16, 3) := zd_at zo_cX2_succeeds_0 103 rfl
theorem dX2_succeeds_212 : decode cX2_succeeds 212 = .ok (.iload_n 2, 1) := zd_at zo_cX2_succeeds_0 104 rfl
theorem dX2_succeeds_213 : decode cX2_succeeds 213 = .ok (.iload 7, 2) := zd_at zo_cX2_succeeds_0 105 rfl
theorem dX2_succeeds_215 : decode cX2_succeeds 215 = .ok (.iload 8, 2) := zd_at zo_cX2_succeeds_0 106 rfl
theorem dX2_succeeds_217 : decode cX2_succeeds 217 = .ok (.invokevirtual 164, 3) := zd_at zo_cX2_succeeds_0 107 rfl
theorem dX2_succeeds_220 : decode cX2_succeeds 220 = .ok (.ifCond .ne 5, 3) := zd_at zo_cX2_succeeds_0 108 rfl
theorem dX2_succeeds_223 : decode cX2_succeeds 223 = .ok (.iconst 0, 1) := zd_at zo_cX2_succeeds_0 109 rfl
theorem dX2_succeeds_224 : decode cX2_succeeds 224 = .ok (.ireturn, 1) := zd_at zo_cX2_succeeds_0 110 rfl
theorem dX2_succeeds_225 : decode cX2_succeeds 225 = .ok (.aload_n 0, 1) := zd_at zo_cX2_succeeds_0 111 rfl
theorem dX2_succeeds_226 : decode cX2_succeeds 226 = .ok (.getfield 16, 3) := zd_at zo_cX2_succeeds_0 112 rfl
theorem dX2_succeeds_229 : decode cX2_succeeds 229 = .ok (.invokevirtual 140, 3) := zd_at zo_cX2_succeeds_0 113 rfl
theorem dX2_succeeds_232 : decode cX2_succeeds 232 = .ok (.aload_n 0, 1) := zd_at zo_cX2_succeeds_0 114 rfl
theorem dX2_succeeds_233 : decode cX2_succeeds 233 = .ok (.getfield 16, 3) := zd_at zo_cX2_succeeds_0 115 rfl
theorem dX2_succeeds_236 : decode cX2_succeeds 236 = .ok (.iload_n 2, 1) := zd_at zo_cX2_succeeds_0 116 rfl
theorem dX2_succeeds_237 : decode cX2_succeeds 237 = .ok (.invokevirtual 159, 3) := zd_at zo_cX2_succeeds_0 117 rfl
theorem dX2_succeeds_240 : decode cX2_succeeds 240 = .ok (.aload_n 0, 1) := zd_at zo_cX2_succeeds_0 118 rfl
theorem dX2_succeeds_241 : decode cX2_succeeds 241 = .ok (.getfield 16, 3) := zd_at zo_cX2_succeeds_0 119 rfl
def zl_cX2_succeeds_120 : List (Nat × Instr × Nat) := [(244, .iload_n 2, 1), (245, .iload 7, 2), (247, .iload 8, 2), (249, .invokevirtual 170, 3), (252, .aload_n 0, 1), (253, .getfield 16, 3), (256, .iload_n 2, 1), (257, .invokevirtual 147, 3), (260, .iconst 1, 1), (261, .ireturn, 1), (262, .aload_n 0, 1), (263, .iload 6, 2), (265, .iload_n 2, 1), (266, .iload_n 3, 1), (267, .iload 4, 2), (269, .iload 5, 2), (271, .invokevirtual 253, 3), (274, .ireturn, 1)]
theorem zo_cX2_succeeds_120 : zd_ok cX2_succeeds zl_cX2_succeeds_120 = true := by decide +kernel
theorem dX2_succeeds_244 : decode cX2_succeeds 244 = .ok (.iload_n 2, 1) := zd_at zo_cX2_succeeds_120 0 rfl
theorem dX2_succeeds_245 : decode cX2_succeeds 245 = .ok (.iload 7, 2) := zd_at zo_cX2_succeeds_120 1 rfl
theorem dX2_succeeds_247 : decode cX2_succeeds 247 = .ok (.iload 8, 2) := zd_at zo_cX2_succeeds_120 2 rfl
theorem dX2_succeeds_249 : decode cX2_succeeds 249 = .ok (.invokevirtual 170, 3) := zd_at zo_cX2_succeeds_120 3 rfl
theorem dX2_succeeds_252 : decode cX2_succeeds 252 = .ok (.aload_n 0, 1) := zd_at zo_cX2_succeeds_120 4 rfl
theorem dX2_succeeds_253 : decode cX2_succeeds 253 = .ok (.getfield 16, 3) := zd_at zo_cX2_succeeds_120 5 rfl
theorem dX2_succeeds_256 : decode cX2_succeeds 256 = .ok (.iload_n 2, 1) := zd_at zo_cX2_succeeds_120 6 rfl
theorem dX2_succeeds_257 : decode cX2_succeeds 257 = .ok (.invokevirtual 147, 3) := zd_at zo_cX2_succeeds_120 7 rfl
theorem dX2_succeeds_260 : decode cX2_succeeds 260 = .ok (.iconst 1, 1) := zd_at zo_cX2_succeeds_120 8 rfl
theorem dX2_succeeds_261 : decode cX2_succeeds 261 = .ok (.ireturn, 1) := zd_at zo_cX2_succeeds_120 9 rfl
theorem dX2_succeeds_262 : decode cX2_succeeds 262 = .ok (.aload_n 0, 1) := zd_at zo_cX2_succeeds_120 10 rfl
theorem dX2_succeeds_263 : decode cX2_succeeds 263 = .ok (.iload 6, 2) := zd_at zo_cX2_succeeds_120 11 rfl
theorem dX2_succeeds_265 : decode cX2_succeeds 265 = .ok (.iload_n 2, 1) := zd_at zo_cX2_succeeds_120 12 rfl
theorem dX2_succeeds_266 : decode cX2_succeeds 266 = .ok (.iload_n 3, 1) := zd_at zo_cX2_succeeds_120 13 rfl
theorem dX2_succeeds_267 : decode cX2_succeeds 267 = .ok (.iload 4, 2) := zd_at zo_cX2_succeeds_120 14 rfl
theorem dX2_succeeds_269 : decode cX2_succeeds 269 = .ok (.iload 5, 2) := zd_at zo_cX2_succeeds_120 15 rfl
theorem dX2_succeeds_271 : decode cX2_succeeds 271 = .ok (.invokevirtual 253, 3) := zd_at zo_cX2_succeeds_120 16 rfl
theorem dX2_succeeds_274 : decode cX2_succeeds 274 = .ok (.ireturn, 1) := zd_at zo_cX2_succeeds_120 17 rfl
def zl_cX2_holds_0 : List (Nat × Instr × Nat) := [(0, .iload_n 1, 1), (1, .tableswitch 176 5 8 #[31, 62, 101, 139], 31), (32, .iload_n 2, 1), (33, .ifCond .ne 28, 3), (36, .iload_n 3, 1), (37, .ifCond .ne 24, 3), (40, .iload 4, 2), (42, .ifCond .ne 19, 3), (45, .aload_n 0, 1), (46, .getfield 16, 3), (49, .invokevirtual 64, 3), (52, .iload 5, 2), (54, .if_icmp .gt 7, 3), (57, .iconst 1, 1), (58, .goto 4, 3), (61, .iconst 0, 1), (62, .ireturn, 1), (63, .iload_n 2, 1), (64, .ifCond .ne 36, 3), (67, .iload_n 3, 1), (68, .bipush 10, 2), (70, .if_icmp .ge 30, 3), (73, .aload_n 0, 1), (74, .getfield 16, 3), (77, .invokevirtual 73, 3), (80, .iload_n 3, 1), (81, .bipush 100, 2), (83, .imul, 1), (84, .iload 4, 2), (86, .iadd, 1), (87, .bipush 100, 2), (89, .imul, 1), (90, .iload 5, 2), (92, .iadd, 1), (93, .if_icmp .gt 7, 3), (96, .iconst 1, 1), (97, .goto 4, 3), (100, .iconst 0, 1), (101, .ireturn, 1), (102, .iload 5, 2), (104, .ifCond .ne 34, 3), (107, .aload_n 0, 1), (108, .getfield 16, 3), (111, .iload 4, 2), (113, .invokevirtual 90, 3), (116, .ifCond .eq 22, 3), (119, .aload_n 0, 1), (120, .getfield 16, 3), (123, .iload_n 2, 1), (124, .iload_n 3, 1), (125, .iconst 0, 1), (126, .invokevirtual 202, 3), (129, .iload 4, 2), (131, .if_icmp .ne 7, 3), (134, .iconst 1, 1), (135, .goto 4, 3), (138, .iconst 0, 1), (139, .ireturn, 1), (140, .iload 5, 2), (142, .ifCond .ne 33, 3), (145, .aload_n 0, 1), (146, .getfield 16, 3), (149, .iload 4, 2), (151, .invokevirtual 90, 3), (154, .ifCond .eq 21, 3), (157, .aload_n 0, 1), (158, .getfield 16, 3), (161, .iload 4, 2), (163, .iload_n 2, 1), (164, .iload_n 3, 1), (165, .invokevirtual 257, 3), (168, .ifCond .ne 7, 3), (171, .iconst 1, 1), (172, .goto 4, 3), (175, .iconst 0, 1), (176, .ireturn, 1), (177, .iconst 0, 1), (178, .ireturn, 1)]
theorem zo_cX2_holds_0 : zd_ok cX2_holds zl_cX2_holds_0 = true := by decide +kernel
theorem dX2_holds_0 : decode cX2_holds 0 = .ok (.iload_n 1, 1) := zd_at zo_cX2_holds_0 0 rfl
theorem dX2_holds_1 : decode cX2_holds 1 = .ok (.tableswitch 176 5 8 #[31, 62, 101, 139], 31) := zd_at zo_cX2_holds_0 1 rfl
theorem dX2_holds_32 : decode cX2_holds 32 = .ok (.iload_n 2, 1) := zd_at zo_cX2_holds_0 2 rfl
theorem dX2_holds_33 : decode cX2_holds 33 = .ok (.ifCond .ne 28, 3) := zd_at zo_cX2_holds_0 3 rfl
theorem dX2_holds_36 : decode cX2_holds 36 = .ok (.iload_n 3, 1) := zd_at zo_cX2_holds_0 4 rfl
theorem dX2_holds_37 : decode cX2_holds 37 = .ok (.ifCond .ne 24, 3) := zd_at zo_cX2_holds_0 5 rfl
theorem dX2_holds_40 : decode cX2_holds 40 = .ok (.iload 4, 2) := zd_at zo_cX2_holds_0 6 rfl
theorem dX2_holds_42 : decode cX2_holds 42 = .ok (.ifCond .ne 19, 3) := zd_at zo_cX2_holds_0 7 rfl
theorem dX2_holds_45 : decode cX2_holds 45 = .ok (.aload_n 0, 1) := zd_at zo_cX2_holds_0 8 rfl
theorem dX2_holds_46 : decode cX2_holds 46 = .ok (.getfield 16, 3) := zd_at zo_cX2_holds_0 9 rfl
theorem dX2_holds_49 : decode cX2_holds 49 = .ok (.invokevirtual 64, 3) := zd_at zo_cX2_holds_0 10 rfl
theorem dX2_holds_52 : decode cX2_holds 52 = .ok (.iload 5, 2) := zd_at zo_cX2_holds_0 11 rfl
theorem dX2_holds_54 : decode cX2_holds 54 = .ok (.if_icmp .gt 7, 3) := zd_at zo_cX2_holds_0 12 rfl
theorem dX2_holds_57 : decode cX2_holds 57 = .ok (.iconst 1, 1) := zd_at zo_cX2_holds_0 13 rfl
theorem dX2_holds_58 : decode cX2_holds 58 = .ok (.goto 4, 3) := zd_at zo_cX2_holds_0 14 rfl
theorem dX2_holds_61 : decode cX2_holds 61 = .ok (.iconst 0, 1) := zd_at zo_cX2_holds_0 15 rfl
theorem dX2_holds_62 : decode cX2_holds 62 = .ok (.ireturn, 1) := zd_at zo_cX2_holds_0 16 rfl
theorem dX2_holds_63 : decode cX2_holds 63 = .ok (.iload_n 2, 1) := zd_at zo_cX2_holds_0 17 rfl
theorem dX2_holds_64 : decode cX2_holds 64 = .ok (.ifCond .ne 36, 3) := zd_at zo_cX2_holds_0 18 rfl
theorem dX2_holds_67 : decode cX2_holds 67 = .ok (.iload_n 3, 1) := zd_at zo_cX2_holds_0 19 rfl
theorem dX2_holds_68 : decode cX2_holds 68 = .ok (.bipush 10, 2) := zd_at zo_cX2_holds_0 20 rfl
theorem dX2_holds_70 : decode cX2_holds 70 = .ok (.if_icmp .ge 30, 3) := zd_at zo_cX2_holds_0 21 rfl
theorem dX2_holds_73 : decode cX2_holds 73 = .ok (.aload_n 0, 1) := zd_at zo_cX2_holds_0 22 rfl
theorem dX2_holds_74 : decode cX2_holds 74 = .ok (.getfield 16, 3) := zd_at zo_cX2_holds_0 23 rfl
theorem dX2_holds_77 : decode cX2_holds 77 = .ok (.invokevirtual 73, 3) := zd_at zo_cX2_holds_0 24 rfl
theorem dX2_holds_80 : decode cX2_holds 80 = .ok (.iload_n 3, 1) := zd_at zo_cX2_holds_0 25 rfl
theorem dX2_holds_81 : decode cX2_holds 81 = .ok (.bipush 100, 2) := zd_at zo_cX2_holds_0 26 rfl
theorem dX2_holds_83 : decode cX2_holds 83 = .ok (.imul, 1) := zd_at zo_cX2_holds_0 27 rfl
theorem dX2_holds_84 : decode cX2_holds 84 = .ok (.iload 4, 2) := zd_at zo_cX2_holds_0 28 rfl
theorem dX2_holds_86 : decode cX2_holds 86 = .ok (.iadd, 1) := zd_at zo_cX2_holds_0 29 rfl
theorem dX2_holds_87 : decode cX2_holds 87 = .ok (.bipush 100, 2) := zd_at zo_cX2_holds_0 30 rfl
theorem dX2_holds_89 : decode cX2_holds 89 = .ok (.imul, 1) := zd_at zo_cX2_holds_0 31 rfl
theorem dX2_holds_90 : decode cX2_holds 90 = .ok (.iload 5, 2) := zd_at zo_cX2_holds_0 32 rfl
theorem dX2_holds_92 : decode cX2_holds 92 = .ok (.iadd, 1) := zd_at zo_cX2_holds_0 33 rfl
theorem dX2_holds_93 : decode cX2_holds 93 = .ok (.if_icmp .gt 7, 3) := zd_at zo_cX2_holds_0 34 rfl
theorem dX2_holds_96 : decode cX2_holds 96 = .ok (.iconst 1, 1) := zd_at zo_cX2_holds_0 35 rfl
theorem dX2_holds_97 : decode cX2_holds 97 = .ok (.goto 4, 3) := zd_at zo_cX2_holds_0 36 rfl
theorem dX2_holds_100 : decode cX2_holds 100 = .ok (.iconst 0, 1) := zd_at zo_cX2_holds_0 37 rfl
theorem dX2_holds_101 : decode cX2_holds 101 = .ok (.ireturn, 1) := zd_at zo_cX2_holds_0 38 rfl
theorem dX2_holds_102 : decode cX2_holds 102 = .ok (.iload 5, 2) := zd_at zo_cX2_holds_0 39 rfl
theorem dX2_holds_104 : decode cX2_holds 104 = .ok (.ifCond .ne 34, 3) := zd_at zo_cX2_holds_0 40 rfl
theorem dX2_holds_107 : decode cX2_holds 107 = .ok (.aload_n 0, 1) := zd_at zo_cX2_holds_0 41 rfl
theorem dX2_holds_108 : decode cX2_holds 108 = .ok (.getfield 16, 3) := zd_at zo_cX2_holds_0 42 rfl
theorem dX2_holds_111 : decode cX2_holds 111 = .ok (.iload 4, 2) := zd_at zo_cX2_holds_0 43 rfl
theorem dX2_holds_113 : decode cX2_holds 113 = .ok (.invokevirtual 90, 3) := zd_at zo_cX2_holds_0 44 rfl
theorem dX2_holds_116 : decode cX2_holds 116 = .ok (.ifCond .eq 22, 3) := zd_at zo_cX2_holds_0 45 rfl
theorem dX2_holds_119 : decode cX2_holds 119 = .ok (.aload_n 0, 1) := zd_at zo_cX2_holds_0 46 rfl
theorem dX2_holds_120 : decode cX2_holds 120 = .ok (.getfield 16, 3) := zd_at zo_cX2_holds_0 47 rfl
theorem dX2_holds_123 : decode cX2_holds 123 = .ok (.iload_n 2, 1) := zd_at zo_cX2_holds_0 48 rfl
theorem dX2_holds_124 : decode cX2_holds 124 = .ok (.iload_n 3, 1) := zd_at zo_cX2_holds_0 49 rfl
theorem dX2_holds_125 : decode cX2_holds 125 = .ok (.iconst 0, 1) := zd_at zo_cX2_holds_0 50 rfl
theorem dX2_holds_126 : decode cX2_holds 126 = .ok (.invokevirtual 202, 3) := zd_at zo_cX2_holds_0 51 rfl
theorem dX2_holds_129 : decode cX2_holds 129 = .ok (.iload 4, 2) := zd_at zo_cX2_holds_0 52 rfl
theorem dX2_holds_131 : decode cX2_holds 131 = .ok (.if_icmp .ne 7, 3) := zd_at zo_cX2_holds_0 53 rfl
theorem dX2_holds_134 : decode cX2_holds 134 = .ok (.iconst 1, 1) := zd_at zo_cX2_holds_0 54 rfl
theorem dX2_holds_135 : decode cX2_holds 135 = .ok (.goto 4, 3) := zd_at zo_cX2_holds_0 55 rfl
theorem dX2_holds_138 : decode cX2_holds 138 = .ok (.iconst 0, 1) := zd_at zo_cX2_holds_0 56 rfl
theorem dX2_holds_139 : decode cX2_holds 139 = .ok (.ireturn, 1) := zd_at zo_cX2_holds_0 57 rfl
theorem dX2_holds_140 : decode cX2_holds 140 = .ok (.iload 5, 2) := zd_at zo_cX2_holds_0 58 rfl
theorem dX2_holds_142 : decode cX2_holds 142 = .ok (.ifCond .ne 33, 3) := zd_at zo_cX2_holds_0 59 rfl
theorem dX2_holds_145 : decode cX2_holds 145 = .ok (.aload_n 0, 1) := zd_at zo_cX2_holds_0 60 rfl
theorem dX2_holds_146 : decode cX2_holds 146 = .ok (.getfield 16, 3) := zd_at zo_cX2_holds_0 61 rfl
theorem dX2_holds_149 : decode cX2_holds 149 = .ok (.iload 4, 2) := zd_at zo_cX2_holds_0 62 rfl
theorem dX2_holds_151 : decode cX2_holds 151 = .ok (.invokevirtual 90, 3) := zd_at zo_cX2_holds_0 63 rfl
theorem dX2_holds_154 : decode cX2_holds 154 = .ok (.ifCond .eq 21, 3) := zd_at zo_cX2_holds_0 64 rfl
theorem dX2_holds_157 : decode cX2_holds 157 = .ok (.aload_n 0, 1) := zd_at zo_cX2_holds_0 65 rfl
theorem dX2_holds_158 : decode cX2_holds 158 = .ok (.getfield 16, 3) := zd_at zo_cX2_holds_0 66 rfl
theorem dX2_holds_161 : decode cX2_holds 161 = .ok (.iload 4, 2) := zd_at zo_cX2_holds_0 67 rfl
theorem dX2_holds_163 : decode cX2_holds 163 = .ok (.iload_n 2, 1) := zd_at zo_cX2_holds_0 68 rfl
theorem dX2_holds_164 : decode cX2_holds 164 = .ok (.iload_n 3, 1) := zd_at zo_cX2_holds_0 69 rfl
theorem dX2_holds_165 : decode cX2_holds 165 = .ok (.invokevirtual 257, 3) := zd_at zo_cX2_holds_0 70 rfl
theorem dX2_holds_168 : decode cX2_holds 168 = .ok (.ifCond .ne 7, 3) := zd_at zo_cX2_holds_0 71 rfl
theorem dX2_holds_171 : decode cX2_holds 171 = .ok (.iconst 1, 1) := zd_at zo_cX2_holds_0 72 rfl
theorem dX2_holds_172 : decode cX2_holds 172 = .ok (.goto 4, 3) := zd_at zo_cX2_holds_0 73 rfl
theorem dX2_holds_175 : decode cX2_holds 175 = .ok (.iconst 0, 1) := zd_at zo_cX2_holds_0 74 rfl
theorem dX2_holds_176 : decode cX2_holds 176 = .ok (.ireturn, 1) := zd_at zo_cX2_holds_0 75 rfl
theorem dX2_holds_177 : decode cX2_holds 177 = .ok (.iconst 0, 1) := zd_at zo_cX2_holds_0 76 rfl
theorem dX2_holds_178 : decode cX2_holds 178 = .ok (.ireturn, 1) := zd_at zo_cX2_holds_0 77 rfl
def zl_cX2_isCell_0 : List (Nat × Instr × Nat) := [(0, .iload_n 0, 1), (1, .ifCond .lt 23, 3), (4, .iload_n 0, 1), (5, .bipush 100, 2), (7, .if_icmp .ge 17, 3), (10, .iload_n 1, 1), (11, .ifCond .lt 13, 3), (14, .iload_n 1, 1), (15, .bipush 100, 2), (17, .if_icmp .ge 7, 3), (20, .iconst 1, 1), (21, .goto 4, 3), (24, .iconst 0, 1), (25, .ireturn, 1)]
theorem zo_cX2_isCell_0 : zd_ok cX2_isCell zl_cX2_isCell_0 = true := by decide +kernel
theorem dX2_isCell_0 : decode cX2_isCell 0 = .ok (.iload_n 0, 1) := zd_at zo_cX2_isCell_0 0 rfl
theorem dX2_isCell_1 : decode cX2_isCell 1 = .ok (.ifCond .lt 23, 3) := zd_at zo_cX2_isCell_0 1 rfl
theorem dX2_isCell_4 : decode cX2_isCell 4 = .ok (.iload_n 0, 1) := zd_at zo_cX2_isCell_0 2 rfl
theorem dX2_isCell_5 : decode cX2_isCell 5 = .ok (.bipush 100, 2) := zd_at zo_cX2_isCell_0 3 rfl
theorem dX2_isCell_7 : decode cX2_isCell 7 = .ok (.if_icmp .ge 17, 3) := zd_at zo_cX2_isCell_0 4 rfl
theorem dX2_isCell_10 : decode cX2_isCell 10 = .ok (.iload_n 1, 1) := zd_at zo_cX2_isCell_0 5 rfl
theorem dX2_isCell_11 : decode cX2_isCell 11 = .ok (.ifCond .lt 13, 3) := zd_at zo_cX2_isCell_0 6 rfl
theorem dX2_isCell_14 : decode cX2_isCell 14 = .ok (.iload_n 1, 1) := zd_at zo_cX2_isCell_0 7 rfl
theorem dX2_isCell_15 : decode cX2_isCell 15 = .ok (.bipush 100, 2) := zd_at zo_cX2_isCell_0 8 rfl
theorem dX2_isCell_17 : decode cX2_isCell 17 = .ok (.if_icmp .ge 7, 3) := zd_at zo_cX2_isCell_0 9 rfl
theorem dX2_isCell_20 : decode cX2_isCell 20 = .ok (.iconst 1, 1) := zd_at zo_cX2_isCell_0 10 rfl
theorem dX2_isCell_21 : decode cX2_isCell 21 = .ok (.goto 4, 3) := zd_at zo_cX2_isCell_0 11 rfl
theorem dX2_isCell_24 : decode cX2_isCell 24 = .ok (.iconst 0, 1) := zd_at zo_cX2_isCell_0 12 rfl
theorem dX2_isCell_25 : decode cX2_isCell 25 = .ok (.ireturn, 1) := zd_at zo_cX2_isCell_0 13 rfl
def zl_cX2_isBox_0 : List (Nat × Instr × Nat) := [(0, .iload_n 0, 1), (1, .ifCond .lt 33, 3), (4, .iload_n 0, 1), (5, .iload_n 2, 1), (6, .if_icmp .gt 28, 3), (9, .iload_n 2, 1), (10, .bipush 100, 2), (12, .if_icmp .ge 22, 3), (15, .iload_n 1, 1), (16, .ifCond .lt 18, 3), (19, .iload_n 1, 1), (20, .iload_n 3, 1), (21, .if_icmp .gt 13, 3), (24, .iload_n 3, 1), (25, .bipush 100, 2), (27, .if_icmp .ge 7, 3), (30, .iconst 1, 1), (31, .goto 4, 3), (34, .iconst 0, 1), (35, .ireturn, 1)]
theorem zo_cX2_isBox_0 : zd_ok cX2_isBox zl_cX2_isBox_0 = true := by decide +kernel
theorem dX2_isBox_0 : decode cX2_isBox 0 = .ok (.iload_n 0, 1) := zd_at zo_cX2_isBox_0 0 rfl
theorem dX2_isBox_1 : decode cX2_isBox 1 = .ok (.ifCond .lt 33, 3) := zd_at zo_cX2_isBox_0 1 rfl
theorem dX2_isBox_4 : decode cX2_isBox 4 = .ok (.iload_n 0, 1) := zd_at zo_cX2_isBox_0 2 rfl
theorem dX2_isBox_5 : decode cX2_isBox 5 = .ok (.iload_n 2, 1) := zd_at zo_cX2_isBox_0 3 rfl
theorem dX2_isBox_6 : decode cX2_isBox 6 = .ok (.if_icmp .gt 28, 3) := zd_at zo_cX2_isBox_0 4 rfl
theorem dX2_isBox_9 : decode cX2_isBox 9 = .ok (.iload_n 2, 1) := zd_at zo_cX2_isBox_0 5 rfl
theorem dX2_isBox_10 : decode cX2_isBox 10 = .ok (.bipush 100, 2) := zd_at zo_cX2_isBox_0 6 rfl
theorem dX2_isBox_12 : decode cX2_isBox 12 = .ok (.if_icmp .ge 22, 3) := zd_at zo_cX2_isBox_0 7 rfl
theorem dX2_isBox_15 : decode cX2_isBox 15 = .ok (.iload_n 1, 1) := zd_at zo_cX2_isBox_0 8 rfl
theorem dX2_isBox_16 : decode cX2_isBox 16 = .ok (.ifCond .lt 18, 3) := zd_at zo_cX2_isBox_0 9 rfl
theorem dX2_isBox_19 : decode cX2_isBox 19 = .ok (.iload_n 1, 1) := zd_at zo_cX2_isBox_0 10 rfl
theorem dX2_isBox_20 : decode cX2_isBox 20 = .ok (.iload_n 3, 1) := zd_at zo_cX2_isBox_0 11 rfl
theorem dX2_isBox_21 : decode cX2_isBox 21 = .ok (.if_icmp .gt 13, 3) := zd_at zo_cX2_isBox_0 12 rfl
theorem dX2_isBox_24 : decode cX2_isBox 24 = .ok (.iload_n 3, 1) := zd_at zo_cX2_isBox_0 13 rfl
theorem dX2_isBox_25 : decode cX2_isBox 25 = .ok (.bipush 100, 2) := zd_at zo_cX2_isBox_0 14 rfl
theorem dX2_isBox_27 : decode cX2_isBox 27 = .ok (.if_icmp .ge 7, 3) := zd_at zo_cX2_isBox_0 15 rfl
theorem dX2_isBox_30 : decode cX2_isBox 30 = .ok (.iconst 1, 1) := zd_at zo_cX2_isBox_0 16 rfl
theorem dX2_isBox_31 : decode cX2_isBox 31 = .ok (.goto 4, 3) := zd_at zo_cX2_isBox_0 17 rfl
theorem dX2_isBox_34 : decode cX2_isBox 34 = .ok (.iconst 0, 1) := zd_at zo_cX2_isBox_0 18 rfl
theorem dX2_isBox_35 : decode cX2_isBox 35 = .ok (.ireturn, 1) := zd_at zo_cX2_isBox_0 19 rfl
def zl_cX2_treeAt_0 : List (Nat × Instr × Nat) := [(0, .aload_n 0, 1), (1, .ifnull 19, 3), (4, .iload_n 1, 1), (5, .ifCond .lt 15, 3), (8, .iload_n 1, 1), (9, .aload_n 0, 1), (10, .arraylength, 1), (11, .if_icmp .ge 9, 3), (14, .aload_n 0, 1), (15, .iload_n 1, 1), (16, .aaload, 1), (17, .goto 4, 3), (20, .aconst_null, 1), (21, .areturn, 1)]
theorem zo_cX2_treeAt_0 : zd_ok cX2_treeAt zl_cX2_treeAt_0 = true := by decide +kernel
theorem dX2_treeAt_0 : decode cX2_treeAt 0 = .ok (.aload_n 0, 1) := zd_at zo_cX2_treeAt_0 0 rfl
theorem dX2_treeAt_1 : decode cX2_treeAt 1 = .ok (.ifnull 19, 3) := zd_at zo_cX2_treeAt_0 1 rfl
theorem dX2_treeAt_4 : decode cX2_treeAt 4 = .ok (.iload_n 1, 1) := zd_at zo_cX2_treeAt_0 2 rfl
theorem dX2_treeAt_5 : decode cX2_treeAt 5 = .ok (.ifCond .lt 15, 3) := zd_at zo_cX2_treeAt_0 3 rfl
theorem dX2_treeAt_8 : decode cX2_treeAt 8 = .ok (.iload_n 1, 1) := zd_at zo_cX2_treeAt_0 4 rfl
theorem dX2_treeAt_9 : decode cX2_treeAt 9 = .ok (.aload_n 0, 1) := zd_at zo_cX2_treeAt_0 5 rfl
theorem dX2_treeAt_10 : decode cX2_treeAt 10 = .ok (.arraylength, 1) := zd_at zo_cX2_treeAt_0 6 rfl
theorem dX2_treeAt_11 : decode cX2_treeAt 11 = .ok (.if_icmp .ge 9, 3) := zd_at zo_cX2_treeAt_0 7 rfl
theorem dX2_treeAt_14 : decode cX2_treeAt 14 = .ok (.aload_n 0, 1) := zd_at zo_cX2_treeAt_0 8 rfl
theorem dX2_treeAt_15 : decode cX2_treeAt 15 = .ok (.iload_n 1, 1) := zd_at zo_cX2_treeAt_0 9 rfl
theorem dX2_treeAt_16 : decode cX2_treeAt 16 = .ok (.aaload, 1) := zd_at zo_cX2_treeAt_0 10 rfl
theorem dX2_treeAt_17 : decode cX2_treeAt 17 = .ok (.goto 4, 3) := zd_at zo_cX2_treeAt_0 11 rfl
theorem dX2_treeAt_20 : decode cX2_treeAt 20 = .ok (.aconst_null, 1) := zd_at zo_cX2_treeAt_0 12 rfl
theorem dX2_treeAt_21 : decode cX2_treeAt 21 = .ok (.areturn, 1) := zd_at zo_cX2_treeAt_0 13 rfl
def zl_cX2_get_0 : List (Nat × Instr × Nat) := [(0, .aload_n 0, 1), (1, .ifnull 19, 3), (4, .iload_n 1, 1), (5, .ifCond .lt 15, 3), (8, .iload_n 1, 1), (9, .aload_n 0, 1), (10, .arraylength, 1), (11, .if_icmp .ge 9, 3), (14, .aload_n 0, 1), (15, .iload_n 1, 1), (16, .iaload, 1), (17, .goto 4, 3), (20, .iconst 0, 1), (21, .ireturn, 1)]
theorem zo_cX2_get_0 : zd_ok cX2_get zl_cX2_get_0 = true := by decide +kernel
theorem dX2_get_0 : decode cX2_get 0 = .ok (.aload_n 0, 1) := zd_at zo_cX2_get_0 0 rfl
theorem dX2_get_1 : decode cX2_get 1 = .ok (.ifnull 19, 3) := zd_at zo_cX2_get_0 1 rfl
theorem dX2_get_4 : decode cX2_get 4 = .ok (.iload_n 1, 1) := zd_at zo_cX2_get_0 2 rfl
theorem dX2_get_5 : decode cX2_get 5 = .ok (.ifCond .lt 15, 3) := zd_at zo_cX2_get_0 3 rfl
theorem dX2_get_8 : decode cX2_get 8 = .ok (.iload_n 1, 1) := zd_at zo_cX2_get_0 4 rfl
theorem dX2_get_9 : decode cX2_get 9 = .ok (.aload_n 0, 1) := zd_at zo_cX2_get_0 5 rfl
theorem dX2_get_10 : decode cX2_get 10 = .ok (.arraylength, 1) := zd_at zo_cX2_get_0 6 rfl
theorem dX2_get_11 : decode cX2_get 11 = .ok (.if_icmp .ge 9, 3) := zd_at zo_cX2_get_0 7 rfl
theorem dX2_get_14 : decode cX2_get 14 = .ok (.aload_n 0, 1) := zd_at zo_cX2_get_0 8 rfl
theorem dX2_get_15 : decode cX2_get 15 = .ok (.iload_n 1, 1) := zd_at zo_cX2_get_0 9 rfl
theorem dX2_get_16 : decode cX2_get 16 = .ok (.iaload, 1) := zd_at zo_cX2_get_0 10 rfl
theorem dX2_get_17 : decode cX2_get 17 = .ok (.goto 4, 3) := zd_at zo_cX2_get_0 11 rfl
theorem dX2_get_20 : decode cX2_get 20 = .ok (.iconst 0, 1) := zd_at zo_cX2_get_0 12 rfl
theorem dX2_get_21 : decode cX2_get 21 = .ok (.ireturn, 1) := zd_at zo_cX2_get_0 13 rfl
def zl_cX2_put_0 : List (Nat × Instr × Nat) := [(0, .aload_n 0, 1), (1, .ifnull 17, 3), (4, .iload_n 1, 1), (5, .ifCond .lt 13, 3), (8, .iload_n 1, 1), (9, .aload_n 0, 1), (10, .arraylength, 1), (11, .if_icmp .ge 7, 3), (14, .aload_n 0, 1), (15, .iload_n 1, 1), (16, .iload_n 2, 1), (17, .iastore, 1), (18, .return_, 1)]
theorem zo_cX2_put_0 : zd_ok cX2_put zl_cX2_put_0 = true := by decide +kernel
theorem dX2_put_0 : decode cX2_put 0 = .ok (.aload_n 0, 1) := zd_at zo_cX2_put_0 0 rfl
theorem dX2_put_1 : decode cX2_put 1 = .ok (.ifnull 17, 3) := zd_at zo_cX2_put_0 1 rfl
theorem dX2_put_4 : decode cX2_put 4 = .ok (.iload_n 1, 1) := zd_at zo_cX2_put_0 2 rfl
theorem dX2_put_5 : decode cX2_put 5 = .ok (.ifCond .lt 13, 3) := zd_at zo_cX2_put_0 3 rfl
theorem dX2_put_8 : decode cX2_put 8 = .ok (.iload_n 1, 1) := zd_at zo_cX2_put_0 4 rfl
theorem dX2_put_9 : decode cX2_put 9 = .ok (.aload_n 0, 1) := zd_at zo_cX2_put_0 5 rfl
theorem dX2_put_10 : decode cX2_put 10 = .ok (.arraylength, 1) := zd_at zo_cX2_put_0 6 rfl
theorem dX2_put_11 : decode cX2_put 11 = .ok (.if_icmp .ge 7, 3) := zd_at zo_cX2_put_0 7 rfl
theorem dX2_put_14 : decode cX2_put 14 = .ok (.aload_n 0, 1) := zd_at zo_cX2_put_0 8 rfl
theorem dX2_put_15 : decode cX2_put 15 = .ok (.iload_n 1, 1) := zd_at zo_cX2_put_0 9 rfl
theorem dX2_put_16 : decode cX2_put 16 = .ok (.iload_n 2, 1) := zd_at zo_cX2_put_0 10 rfl
theorem dX2_put_17 : decode cX2_put 17 = .ok (.iastore, 1) := zd_at zo_cX2_put_0 11 rfl
theorem dX2_put_18 : decode cX2_put 18 = .ok (.return_, 1) := zd_at zo_cX2_put_0 12 rfl
def zl_cX2_copy_0 : List (Nat × Instr × Nat) := [(0, .aload_n 0, 1), (1, .ifnull 21, 3), (4, .aload_n 1, 1), (5, .ifnull 17, 3), (8, .aload_n 0, 1), (9, .iconst 0, 1), (10, .aload_n 1, 1), (11, .iconst 0, 1), (12, .aload_n 0, 1), (13, .arraylength, 1), (14, .aload_n 1, 1), (15, .arraylength, 1), (16, .invokestatic 260, 3), (19, .invokestatic 265, 3), (22, .return_, 1)]
theorem zo_cX2_copy_0 : zd_ok cX2_copy zl_cX2_copy_0 = true := by decide +kernel
theorem dX2_copy_0 : decode cX2_copy 0 = .ok (.aload_n 0, 1) := zd_at zo_cX2_copy_0 0 rfl
theorem dX2_copy_1 : decode cX2_copy 1 = .ok (.ifnull 21, 3) := zd_at zo_cX2_copy_0 1 rfl
theorem dX2_copy_4 : decode cX2_copy 4 = .ok (.aload_n 1, 1) := zd_at zo_cX2_copy_0 2 rfl
theorem dX2_copy_5 : decode cX2_copy 5 = .ok (.ifnull 17, 3) := zd_at zo_cX2_copy_0 3 rfl
theorem dX2_copy_8 : decode cX2_copy 8 = .ok (.aload_n 0, 1) := zd_at zo_cX2_copy_0 4 rfl
theorem dX2_copy_9 : decode cX2_copy 9 = .ok (.iconst 0, 1) := zd_at zo_cX2_copy_0 5 rfl
theorem dX2_copy_10 : decode cX2_copy 10 = .ok (.aload_n 1, 1) := zd_at zo_cX2_copy_0 6 rfl
theorem dX2_copy_11 : decode cX2_copy 11 = .ok (.iconst 0, 1) := zd_at zo_cX2_copy_0 7 rfl
theorem dX2_copy_12 : decode cX2_copy 12 = .ok (.aload_n 0, 1) := zd_at zo_cX2_copy_0 8 rfl
theorem dX2_copy_13 : decode cX2_copy 13 = .ok (.arraylength, 1) := zd_at zo_cX2_copy_0 9 rfl
theorem dX2_copy_14 : decode cX2_copy 14 = .ok (.aload_n 1, 1) := zd_at zo_cX2_copy_0 10 rfl
theorem dX2_copy_15 : decode cX2_copy 15 = .ok (.arraylength, 1) := zd_at zo_cX2_copy_0 11 rfl
theorem dX2_copy_16 : decode cX2_copy 16 = .ok (.invokestatic 260, 3) := zd_at zo_cX2_copy_0 12 rfl
theorem dX2_copy_19 : decode cX2_copy 19 = .ok (.invokestatic 265, 3) := zd_at zo_cX2_copy_0 13 rfl
theorem dX2_copy_22 : decode cX2_copy 22 = .ok (.return_, 1) := zd_at zo_cX2_copy_0 14 rfl
def zl_cL_tryAdd_0 : List (Nat × Instr × Nat) := [(0, .aload_n 0, 1), (1, .iload_n 1, 1), (2, .iload_n 2, 1), (3, .iload_n 3, 1), (4, .iload 4, 2), (6, .invokevirtual 7, 3), (9, .ireturn, 1), (10, .astore 5, 2), (12, .ldc 15, 2), (14, .ireturn, 1), (15, .astore 5, 2), (17, .ldc 18, 2), (19, .ireturn, 1)]
theorem zo_cL_tryAdd_0 : zd_ok cL_tryAdd zl_cL_tryAdd_0 = true := by decide +kernel
theorem dL_tryAdd_0 : decode cL_tryAdd 0 = .ok (.aload_n 0, 1) := zd_at zo_cL_tryAdd_0 0 rfl
theorem dL_tryAdd_1 : decode cL_tryAdd 1 = .ok (.iload_n 1, 1) := zd_at zo_cL_tryAdd_0 1 rfl
theorem dL_tryAdd_2 : decode cL_tryAdd 2 = .ok (.iload_n 2, 1) := zd_at zo_cL_tryAdd_0 2 rfl
theorem dL_tryAdd_3 : decode cL_tryAdd 3 = .ok (.iload_n 3, 1) := zd_at zo_cL_tryAdd_0 3 rfl
theorem dL_tryAdd_4 : decode cL_tryAdd 4 = .ok (.iload 4, 2) := zd_at zo_cL_tryAdd_0 4 rfl
theorem dL_tryAdd_6 : decode cL_tryAdd 6 = .ok (.invokevirtual 7, 3) := zd_at zo_cL_tryAdd_0 5 rfl
theorem dL_tryAdd_9 : decode cL_tryAdd 9 = .ok (.ireturn, 1) := zd_at zo_cL_tryAdd_0 6 rfl
theorem dL_tryAdd_10 : decode cL_tryAdd 10 = .ok (.astore 5, 2) := zd_at zo_cL_tryAdd_0 7 rfl
theorem dL_tryAdd_12 : decode cL_tryAdd 12 = .ok (.ldc 15, 2) := zd_at zo_cL_tryAdd_0 8 rfl
theorem dL_tryAdd_14 : decode cL_tryAdd 14 = .ok (.ireturn, 1) := zd_at zo_cL_tryAdd_0 9 rfl
theorem dL_tryAdd_15 : decode cL_tryAdd 15 = .ok (.astore 5, 2) := zd_at zo_cL_tryAdd_0 10 rfl
theorem dL_tryAdd_17 : decode cL_tryAdd 17 = .ok (.ldc 18, 2) := zd_at zo_cL_tryAdd_0 11 rfl
theorem dL_tryAdd_19 : decode cL_tryAdd 19 = .ok (.ireturn, 1) := zd_at zo_cL_tryAdd_0 12 rfl
def zl_cL_tryWindow_0 : List (Nat × Instr × Nat) := [(0, .aload_n 0, 1), (1, .iload_n 1, 1), (2, .iload_n 2, 1), (3, .iload_n 3, 1), (4, .iload 4, 2), (6, .invokevirtual 19, 3), (9, .ireturn, 1), (10, .astore 5, 2), (12, .ldc 15, 2), (14, .ireturn, 1)]
theorem zo_cL_tryWindow_0 : zd_ok cL_tryWindow zl_cL_tryWindow_0 = true := by decide +kernel
theorem dL_tryWindow_0 : decode cL_tryWindow 0 = .ok (.aload_n 0, 1) := zd_at zo_cL_tryWindow_0 0 rfl
theorem dL_tryWindow_1 : decode cL_tryWindow 1 = .ok (.iload_n 1, 1) := zd_at zo_cL_tryWindow_0 1 rfl
theorem dL_tryWindow_2 : decode cL_tryWindow 2 = .ok (.iload_n 2, 1) := zd_at zo_cL_tryWindow_0 2 rfl
theorem dL_tryWindow_3 : decode cL_tryWindow 3 = .ok (.iload_n 3, 1) := zd_at zo_cL_tryWindow_0 3 rfl
theorem dL_tryWindow_4 : decode cL_tryWindow 4 = .ok (.iload 4, 2) := zd_at zo_cL_tryWindow_0 4 rfl
theorem dL_tryWindow_6 : decode cL_tryWindow 6 = .ok (.invokevirtual 19, 3) := zd_at zo_cL_tryWindow_0 5 rfl
theorem dL_tryWindow_9 : decode cL_tryWindow 9 = .ok (.ireturn, 1) := zd_at zo_cL_tryWindow_0 6 rfl
theorem dL_tryWindow_10 : decode cL_tryWindow 10 = .ok (.astore 5, 2) := zd_at zo_cL_tryWindow_0 7 rfl
theorem dL_tryWindow_12 : decode cL_tryWindow 12 = .ok (.ldc 15, 2) := zd_at zo_cL_tryWindow_0 8 rfl
theorem dL_tryWindow_14 : decode cL_tryWindow 14 = .ok (.ireturn, 1) := zd_at zo_cL_tryWindow_0 9 rfl
def zl_cL_tryLooks_0 : List (Nat × Instr × Nat) := [(0, .aload_n 0, 1), (1, .iload_n 1, 1), (2, .iload_n 2, 1), (3, .iload_n 3, 1), (4, .iload 4, 2), (6, .invokevirtual 22, 3), (9, .ireturn, 1), (10, .astore 5, 2), (12, .ldc 15, 2), (14, .ireturn, 1)]
theorem zo_cL_tryLooks_0 : zd_ok cL_tryLooks zl_cL_tryLooks_0 = true := by decide +kernel
theorem dL_tryLooks_0 : decode cL_tryLooks 0 = .ok (.aload_n 0, 1) := zd_at zo_cL_tryLooks_0 0 rfl
theorem dL_tryLooks_1 : decode cL_tryLooks 1 = .ok (.iload_n 1, 1) := zd_at zo_cL_tryLooks_0 1 rfl
theorem dL_tryLooks_2 : decode cL_tryLooks 2 = .ok (.iload_n 2, 1) := zd_at zo_cL_tryLooks_0 2 rfl
theorem dL_tryLooks_3 : decode cL_tryLooks 3 = .ok (.iload_n 3, 1) := zd_at zo_cL_tryLooks_0 3 rfl
theorem dL_tryLooks_4 : decode cL_tryLooks 4 = .ok (.iload 4, 2) := zd_at zo_cL_tryLooks_0 4 rfl
theorem dL_tryLooks_6 : decode cL_tryLooks 6 = .ok (.invokevirtual 22, 3) := zd_at zo_cL_tryLooks_0 5 rfl
theorem dL_tryLooks_9 : decode cL_tryLooks 9 = .ok (.ireturn, 1) := zd_at zo_cL_tryLooks_0 6 rfl
theorem dL_tryLooks_10 : decode cL_tryLooks 10 = .ok (.astore 5, 2) := zd_at zo_cL_tryLooks_0 7 rfl
theorem dL_tryLooks_12 : decode cL_tryLooks 12 = .ok (.ldc 15, 2) := zd_at zo_cL_tryLooks_0 8 rfl
theorem dL_tryLooks_14 : decode cL_tryLooks 14 = .ok (.ireturn, 1) := zd_at zo_cL_tryLooks_0 9 rfl
def zl_cL_tryChosen_0 : List (Nat × Instr × Nat) := [(0, .aload_n 0, 1), (1, .iload_n 1, 1), (2, .iload_n 2, 1), (3, .iload_n 3, 1), (4, .iload 4, 2), (6, .invokevirtual 25, 3), (9, .ireturn, 1), (10, .astore 5, 2), (12, .ldc 15, 2), (14, .ireturn, 1)]
theorem zo_cL_tryChosen_0 : zd_ok cL_tryChosen zl_cL_tryChosen_0 = true := by decide +kernel
theorem dL_tryChosen_0 : decode cL_tryChosen 0 = .ok (.aload_n 0, 1) := zd_at zo_cL_tryChosen_0 0 rfl
theorem dL_tryChosen_1 : decode cL_tryChosen 1 = .ok (.iload_n 1, 1) := zd_at zo_cL_tryChosen_0 1 rfl
theorem dL_tryChosen_2 : decode cL_tryChosen 2 = .ok (.iload_n 2, 1) := zd_at zo_cL_tryChosen_0 2 rfl
theorem dL_tryChosen_3 : decode cL_tryChosen 3 = .ok (.iload_n 3, 1) := zd_at zo_cL_tryChosen_0 3 rfl
theorem dL_tryChosen_4 : decode cL_tryChosen 4 = .ok (.iload 4, 2) := zd_at zo_cL_tryChosen_0 4 rfl
theorem dL_tryChosen_6 : decode cL_tryChosen 6 = .ok (.invokevirtual 25, 3) := zd_at zo_cL_tryChosen_0 5 rfl
theorem dL_tryChosen_9 : decode cL_tryChosen 9 = .ok (.ireturn, 1) := zd_at zo_cL_tryChosen_0 6 rfl
theorem dL_tryChosen_10 : decode cL_tryChosen 10 = .ok (.astore 5, 2) := zd_at zo_cL_tryChosen_0 7 rfl
theorem dL_tryChosen_12 : decode cL_tryChosen 12 = .ok (.ldc 15, 2) := zd_at zo_cL_tryChosen_0 8 rfl
theorem dL_tryChosen_14 : decode cL_tryChosen 14 = .ok (.ireturn, 1) := zd_at zo_cL_tryChosen_0 9 rfl
def zl_cL_tryIfAdded_0 : List (Nat × Instr × Nat) := [(0, .aload_n 0, 1), (1, .iload_n 1, 1), (2, .iload_n 2, 1), (3, .iload_n 3, 1), (4, .iload 4, 2), (6, .invokevirtual 28, 3), (9, .ireturn, 1), (10, .astore 5, 2), (12, .ldc 15, 2), (14, .ireturn, 1)]
theorem zo_cL_tryIfAdded_0 : zd_ok cL_tryIfAdded zl_cL_tryIfAdded_0 = true := by decide +kernel
theorem dL_tryIfAdded_0 : decode cL_tryIfAdded 0 = .ok (.aload_n 0, 1) := zd_at zo_cL_tryIfAdded_0 0 rfl
theorem dL_tryIfAdded_1 : decode cL_tryIfAdded 1 = .ok (.iload_n 1, 1) := zd_at zo_cL_tryIfAdded_0 1 rfl
theorem dL_tryIfAdded_2 : decode cL_tryIfAdded 2 = .ok (.iload_n 2, 1) := zd_at zo_cL_tryIfAdded_0 2 rfl
theorem dL_tryIfAdded_3 : decode cL_tryIfAdded 3 = .ok (.iload_n 3, 1) := zd_at zo_cL_tryIfAdded_0 3 rfl
theorem dL_tryIfAdded_4 : decode cL_tryIfAdded 4 = .ok (.iload 4, 2) := zd_at zo_cL_tryIfAdded_0 4 rfl
theorem dL_tryIfAdded_6 : decode cL_tryIfAdded 6 = .ok (.invokevirtual 28, 3) := zd_at zo_cL_tryIfAdded_0 5 rfl
theorem dL_tryIfAdded_9 : decode cL_tryIfAdded 9 = .ok (.ireturn, 1) := zd_at zo_cL_tryIfAdded_0 6 rfl
theorem dL_tryIfAdded_10 : decode cL_tryIfAdded 10 = .ok (.astore 5, 2) := zd_at zo_cL_tryIfAdded_0 7 rfl
theorem dL_tryIfAdded_12 : decode cL_tryIfAdded 12 = .ok (.ldc 15, 2) := zd_at zo_cL_tryIfAdded_0 8 rfl
theorem dL_tryIfAdded_14 : decode cL_tryIfAdded 14 = .ok (.ireturn, 1) := zd_at zo_cL_tryIfAdded_0 9 rfl
def zl_cL_tryScript_0 : List (Nat × Instr × Nat) := [(0, .aload_n 0, 1), (1, .iload_n 1, 1), (2, .lload_n 2, 1), (3, .invokevirtual 31, 3), (6, .ireturn, 1), (7, .astore 4, 2), (9, .ldc 15, 2), (11, .ireturn, 1)]
theorem zo_cL_tryScript_0 : zd_ok cL_tryScript zl_cL_tryScript_0 = true := by decide +kernel
theorem dL_tryScript_0 : decode cL_tryScript 0 = .ok (.aload_n 0, 1) := zd_at zo_cL_tryScript_0 0 rfl
theorem dL_tryScript_1 : decode cL_tryScript 1 = .ok (.iload_n 1, 1) := zd_at zo_cL_tryScript_0 1 rfl
theorem dL_tryScript_2 : decode cL_tryScript 2 = .ok (.lload_n 2, 1) := zd_at zo_cL_tryScript_0 2 rfl
theorem dL_tryScript_3 : decode cL_tryScript 3 = .ok (.invokevirtual 31, 3) := zd_at zo_cL_tryScript_0 3 rfl
theorem dL_tryScript_6 : decode cL_tryScript 6 = .ok (.ireturn, 1) := zd_at zo_cL_tryScript_0 4 rfl
theorem dL_tryScript_7 : decode cL_tryScript 7 = .ok (.astore 4, 2) := zd_at zo_cL_tryScript_0 5 rfl
theorem dL_tryScript_9 : decode cL_tryScript 9 = .ok (.ldc 15, 2) := zd_at zo_cL_tryScript_0 6 rfl
theorem dL_tryScript_11 : decode cL_tryScript 11 = .ok (.ireturn, 1) := zd_at zo_cL_tryScript_0 7 rfl
def zl_cL_trySimulate_0 : List (Nat × Instr × Nat) := [(0, .aload_n 0, 1), (1, .lload_n 1, 1), (2, .iload_n 3, 1), (3, .invokevirtual 35, 3), (6, .ireturn, 1), (7, .astore 4, 2), (9, .ldc 15, 2), (11, .ireturn, 1)]
theorem zo_cL_trySimulate_0 : zd_ok cL_trySimulate zl_cL_trySimulate_0 = true := by decide +kernel
theorem dL_trySimulate_0 : decode cL_trySimulate 0 = .ok (.aload_n 0, 1) := zd_at zo_cL_trySimulate_0 0 rfl
theorem dL_trySimulate_1 : decode cL_trySimulate 1 = .ok (.lload_n 1, 1) := zd_at zo_cL_trySimulate_0 1 rfl
theorem dL_trySimulate_2 : decode cL_trySimulate 2 = .ok (.iload_n 3, 1) := zd_at zo_cL_trySimulate_0 2 rfl
theorem dL_trySimulate_3 : decode cL_trySimulate 3 = .ok (.invokevirtual 35, 3) := zd_at zo_cL_trySimulate_0 3 rfl
theorem dL_trySimulate_6 : decode cL_trySimulate 6 = .ok (.ireturn, 1) := zd_at zo_cL_trySimulate_0 4 rfl
theorem dL_trySimulate_7 : decode cL_trySimulate 7 = .ok (.astore 4, 2) := zd_at zo_cL_trySimulate_0 5 rfl
theorem dL_trySimulate_9 : decode cL_trySimulate 9 = .ok (.ldc 15, 2) := zd_at zo_cL_trySimulate_0 6 rfl
theorem dL_trySimulate_11 : decode cL_trySimulate 11 = .ok (.ireturn, 1) := zd_at zo_cL_trySimulate_0 7 rfl
def zl_cL_tryAppend_0 : List (Nat × Instr × Nat) := [(0, .aload_n 0, 1), (1, .iload_n 1, 1), (2, .invokevirtual 39, 3), (5, .ireturn, 1), (6, .astore_n 2, 1), (7, .ldc 15, 2), (9, .ireturn, 1), (10, .astore_n 2, 1), (11, .ldc 18, 2), (13, .ireturn, 1)]
theorem zo_cL_tryAppend_0 : zd_ok cL_tryAppend zl_cL_tryAppend_0 = true := by decide +kernel
theorem dL_tryAppend_0 : decode cL_tryAppend 0 = .ok (.aload_n 0, 1) := zd_at zo_cL_tryAppend_0 0 rfl
theorem dL_tryAppend_1 : decode cL_tryAppend 1 = .ok (.iload_n 1, 1) := zd_at zo_cL_tryAppend_0 1 rfl
theorem dL_tryAppend_2 : decode cL_tryAppend 2 = .ok (.invokevirtual 39, 3) := zd_at zo_cL_tryAppend_0 2 rfl
theorem dL_tryAppend_5 : decode cL_tryAppend 5 = .ok (.ireturn, 1) := zd_at zo_cL_tryAppend_0 3 rfl
theorem dL_tryAppend_6 : decode cL_tryAppend 6 = .ok (.astore_n 2, 1) := zd_at zo_cL_tryAppend_0 4 rfl
theorem dL_tryAppend_7 : decode cL_tryAppend 7 = .ok (.ldc 15, 2) := zd_at zo_cL_tryAppend_0 5 rfl
theorem dL_tryAppend_9 : decode cL_tryAppend 9 = .ok (.ireturn, 1) := zd_at zo_cL_tryAppend_0 6 rfl
theorem dL_tryAppend_10 : decode cL_tryAppend 10 = .ok (.astore_n 2, 1) := zd_at zo_cL_tryAppend_0 7 rfl
theorem dL_tryAppend_11 : decode cL_tryAppend 11 = .ok (.ldc 18, 2) := zd_at zo_cL_tryAppend_0 8 rfl
theorem dL_tryAppend_13 : decode cL_tryAppend 13 = .ok (.ireturn, 1) := zd_at zo_cL_tryAppend_0 9 rfl
def zl_cL_tryAbout_0 : List (Nat × Instr × Nat) := [(0, .aload_n 0, 1), (1, .iload_n 1, 1), (2, .invokevirtual 43, 3), (5, .ireturn, 1), (6, .astore_n 2, 1), (7, .ldc 15, 2), (9, .ireturn, 1)]
theorem zo_cL_tryAbout_0 : zd_ok cL_tryAbout zl_cL_tryAbout_0 = true := by decide +kernel
theorem dL_tryAbout_0 : decode cL_tryAbout 0 = .ok (.aload_n 0, 1) := zd_at zo_cL_tryAbout_0 0 rfl
theorem dL_tryAbout_1 : decode cL_tryAbout 1 = .ok (.iload_n 1, 1) := zd_at zo_cL_tryAbout_0 1 rfl
theorem dL_tryAbout_2 : decode cL_tryAbout 2 = .ok (.invokevirtual 43, 3) := zd_at zo_cL_tryAbout_0 2 rfl
theorem dL_tryAbout_5 : decode cL_tryAbout 5 = .ok (.ireturn, 1) := zd_at zo_cL_tryAbout_0 3 rfl
theorem dL_tryAbout_6 : decode cL_tryAbout 6 = .ok (.astore_n 2, 1) := zd_at zo_cL_tryAbout_0 4 rfl
theorem dL_tryAbout_7 : decode cL_tryAbout 7 = .ok (.ldc 15, 2) := zd_at zo_cL_tryAbout_0 5 rfl
theorem dL_tryAbout_9 : decode cL_tryAbout 9 = .ok (.ireturn, 1) := zd_at zo_cL_tryAbout_0 6 rfl
def zl_cL_tryRect_0 : List (Nat × Instr × Nat) := [(0, .aload_n 0, 1), (1, .iload_n 1, 1), (2, .iload_n 2, 1), (3, .invokevirtual 46, 3), (6, .ireturn, 1), (7, .astore_n 3, 1), (8, .ldc 52, 2), (10, .ireturn, 1), (11, .astore_n 3, 1), (12, .ldc 15, 2), (14, .ireturn, 1)]
theorem zo_cL_tryRect_0 : zd_ok cL_tryRect zl_cL_tryRect_0 = true := by decide +kernel
theorem dL_tryRect_0 : decode cL_tryRect 0 = .ok (.aload_n 0, 1) := zd_at zo_cL_tryRect_0 0 rfl
theorem dL_tryRect_1 : decode cL_tryRect 1 = .ok (.iload_n 1, 1) := zd_at zo_cL_tryRect_0 1 rfl
theorem dL_tryRect_2 : decode cL_tryRect 2 = .ok (.iload_n 2, 1) := zd_at zo_cL_tryRect_0 2 rfl
theorem dL_tryRect_3 : decode cL_tryRect 3 = .ok (.invokevirtual 46, 3) := zd_at zo_cL_tryRect_0 3 rfl
theorem dL_tryRect_6 : decode cL_tryRect 6 = .ok (.ireturn, 1) := zd_at zo_cL_tryRect_0 4 rfl
theorem dL_tryRect_7 : decode cL_tryRect 7 = .ok (.astore_n 3, 1) := zd_at zo_cL_tryRect_0 5 rfl
theorem dL_tryRect_8 : decode cL_tryRect 8 = .ok (.ldc 52, 2) := zd_at zo_cL_tryRect_0 6 rfl
theorem dL_tryRect_10 : decode cL_tryRect 10 = .ok (.ireturn, 1) := zd_at zo_cL_tryRect_0 7 rfl
theorem dL_tryRect_11 : decode cL_tryRect 11 = .ok (.astore_n 3, 1) := zd_at zo_cL_tryRect_0 8 rfl
theorem dL_tryRect_12 : decode cL_tryRect 12 = .ok (.ldc 15, 2) := zd_at zo_cL_tryRect_0 9 rfl
theorem dL_tryRect_14 : decode cL_tryRect 14 = .ok (.ireturn, 1) := zd_at zo_cL_tryRect_0 10 rfl
def zl_cL_tryNode_0 : List (Nat × Instr × Nat) := [(0, .aload_n 0, 1), (1, .iload_n 1, 1), (2, .iload_n 2, 1), (3, .invokevirtual 53, 3), (6, .ireturn, 1), (7, .astore_n 3, 1), (8, .ldc 52, 2), (10, .ireturn, 1), (11, .astore_n 3, 1), (12, .ldc 15, 2), (14, .ireturn, 1)]
theorem zo_cL_tryNode_0 : zd_ok cL_tryNode zl_cL_tryNode_0 = true := by decide +kernel
theorem dL_tryNode_0 : decode cL_tryNode 0 = .ok (.aload_n 0, 1) := zd_at zo_cL_tryNode_0 0 rfl
theorem dL_tryNode_1 : decode cL_tryNode 1 = .ok (.iload_n 1, 1) := zd_at zo_cL_tryNode_0 1 rfl
theorem dL_tryNode_2 : decode cL_tryNode 2 = .ok (.iload_n 2, 1) := zd_at zo_cL_tryNode_0 2 rfl
theorem dL_tryNode_3 : decode cL_tryNode 3 = .ok (.invokevirtual 53, 3) := zd_at zo_cL_tryNode_0 3 rfl
theorem dL_tryNode_6 : decode cL_tryNode 6 = .ok (.ireturn, 1) := zd_at zo_cL_tryNode_0 4 rfl
theorem dL_tryNode_7 : decode cL_tryNode 7 = .ok (.astore_n 3, 1) := zd_at zo_cL_tryNode_0 5 rfl
theorem dL_tryNode_8 : decode cL_tryNode 8 = .ok (.ldc 52, 2) := zd_at zo_cL_tryNode_0 6 rfl
theorem dL_tryNode_10 : decode cL_tryNode 10 = .ok (.ireturn, 1) := zd_at zo_cL_tryNode_0 7 rfl
theorem dL_tryNode_11 : decode cL_tryNode 11 = .ok (.astore_n 3, 1) := zd_at zo_cL_tryNode_0 8 rfl
theorem dL_tryNode_12 : decode cL_tryNode 12 = .ok (.ldc 15, 2) := zd_at zo_cL_tryNode_0 9 rfl
theorem dL_tryNode_14 : decode cL_tryNode 14 = .ok (.ireturn, 1) := zd_at zo_cL_tryNode_0 10 rfl
def zl_cL_tryEntry_0 : List (Nat × Instr × Nat) := [(0, .aload_n 0, 1), (1, .iload_n 1, 1), (2, .iload_n 2, 1), (3, .invokevirtual 56, 3), (6, .ireturn, 1), (7, .astore_n 3, 1), (8, .ldc 52, 2), (10, .ireturn, 1), (11, .astore_n 3, 1), (12, .ldc 15, 2), (14, .ireturn, 1)]
theorem zo_cL_tryEntry_0 : zd_ok cL_tryEntry zl_cL_tryEntry_0 = true := by decide +kernel
theorem dL_tryEntry_0 : decode cL_tryEntry 0 = .ok (.aload_n 0, 1) := zd_at zo_cL_tryEntry_0 0 rfl
theorem dL_tryEntry_1 : decode cL_tryEntry 1 = .ok (.iload_n 1, 1) := zd_at zo_cL_tryEntry_0 1 rfl
theorem dL_tryEntry_2 : decode cL_tryEntry 2 = .ok (.iload_n 2, 1) := zd_at zo_cL_tryEntry_0 2 rfl
theorem dL_tryEntry_3 : decode cL_tryEntry 3 = .ok (.invokevirtual 56, 3) := zd_at zo_cL_tryEntry_0 3 rfl
theorem dL_tryEntry_6 : decode cL_tryEntry 6 = .ok (.ireturn, 1) := zd_at zo_cL_tryEntry_0 4 rfl
theorem dL_tryEntry_7 : decode cL_tryEntry 7 = .ok (.astore_n 3, 1) := zd_at zo_cL_tryEntry_0 5 rfl
theorem dL_tryEntry_8 : decode cL_tryEntry 8 = .ok (.ldc 52, 2) := zd_at zo_cL_tryEntry_0 6 rfl
theorem dL_tryEntry_10 : decode cL_tryEntry 10 = .ok (.ireturn, 1) := zd_at zo_cL_tryEntry_0 7 rfl
theorem dL_tryEntry_11 : decode cL_tryEntry 11 = .ok (.astore_n 3, 1) := zd_at zo_cL_tryEntry_0 8 rfl
theorem dL_tryEntry_12 : decode cL_tryEntry 12 = .ok (.ldc 15, 2) := zd_at zo_cL_tryEntry_0 9 rfl
theorem dL_tryEntry_14 : decode cL_tryEntry 14 = .ok (.ireturn, 1) := zd_at zo_cL_tryEntry_0 10 rfl
def zl_cL_tryAddAll_0 : List (Nat × Instr × Nat) := [(0, .aload_n 0, 1), (1, .invokevirtual 59, 3), (4, .ireturn, 1), (5, .astore_n 1, 1), (6, .ldc 18, 2), (8, .ireturn, 1)]
theorem zo_cL_tryAddAll_0 : zd_ok cL_tryAddAll zl_cL_tryAddAll_0 = true := by decide +kernel
theorem dL_tryAddAll_0 : decode cL_tryAddAll 0 = .ok (.aload_n 0, 1) := zd_at zo_cL_tryAddAll_0 0 rfl
theorem dL_tryAddAll_1 : decode cL_tryAddAll 1 = .ok (.invokevirtual 59, 3) := zd_at zo_cL_tryAddAll_0 1 rfl
theorem dL_tryAddAll_4 : decode cL_tryAddAll 4 = .ok (.ireturn, 1) := zd_at zo_cL_tryAddAll_0 2 rfl
theorem dL_tryAddAll_5 : decode cL_tryAddAll 5 = .ok (.astore_n 1, 1) := zd_at zo_cL_tryAddAll_0 3 rfl
theorem dL_tryAddAll_6 : decode cL_tryAddAll 6 = .ok (.ldc 18, 2) := zd_at zo_cL_tryAddAll_0 4 rfl
theorem dL_tryAddAll_8 : decode cL_tryAddAll 8 = .ok (.ireturn, 1) := zd_at zo_cL_tryAddAll_0 5 rfl
def zl_cL_tryRemove_0 : List (Nat × Instr × Nat) := [(0, .aload_n 0, 1), (1, .iload_n 1, 1), (2, .invokevirtual 63, 3), (5, .ireturn, 1), (6, .astore_n 2, 1), (7, .ldc 52, 2), (9, .ireturn, 1)]
theorem zo_cL_tryRemove_0 : zd_ok cL_tryRemove zl_cL_tryRemove_0 = true := by decide +kernel
theorem dL_tryRemove_0 : decode cL_tryRemove 0 = .ok (.aload_n 0, 1) := zd_at zo_cL_tryRemove_0 0 rfl
theorem dL_tryRemove_1 : decode cL_tryRemove 1 = .ok (.iload_n 1, 1) := zd_at zo_cL_tryRemove_0 1 rfl
theorem dL_tryRemove_2 : decode cL_tryRemove 2 = .ok (.invokevirtual 63, 3) := zd_at zo_cL_tryRemove_0 2 rfl
theorem dL_tryRemove_5 : decode cL_tryRemove 5 = .ok (.ireturn, 1) := zd_at zo_cL_tryRemove_0 3 rfl
theorem dL_tryRemove_6 : decode cL_tryRemove 6 = .ok (.astore_n 2, 1) := zd_at zo_cL_tryRemove_0 4 rfl
theorem dL_tryRemove_7 : decode cL_tryRemove 7 = .ok (.ldc 52, 2) := zd_at zo_cL_tryRemove_0 5 rfl
theorem dL_tryRemove_9 : decode cL_tryRemove 9 = .ok (.ireturn, 1) := zd_at zo_cL_tryRemove_0 6 rfl
def zl_cL_tryMove_0 : List (Nat × Instr × Nat) := [(0, .aload_n 0, 1), (1, .iload_n 1, 1), (2, .iload_n 2, 1), (3, .iload_n 3, 1), (4, .invokevirtual 66, 3), (7, .ireturn, 1), (8, .astore 4, 2), (10, .ldc 52, 2), (12, .ireturn, 1), (13, .astore 4, 2), (15, .ldc 15, 2), (17, .ireturn, 1), (18, .astore 4, 2), (20, .ldc 18, 2), (22, .ireturn, 1)]
theorem zo_cL_tryMove_0 : zd_ok cL_tryMove zl_cL_tryMove_0 = true := by decide +kernel
theorem dL_tryMove_0 : decode cL_tryMove 0 = .ok (.aload_n 0, 1) := zd_at zo_cL_tryMove_0 0 rfl
theorem dL_tryMove_1 : decode cL_tryMove 1 = .ok (.iload_n 1, 1) := zd_at zo_cL_tryMove_0 1 rfl
theorem dL_tryMove_2 : decode cL_tryMove 2 = .ok (.iload_n 2, 1) := zd_at zo_cL_tryMove_0 2 rfl
theorem dL_tryMove_3 : decode cL_tryMove 3 = .ok (.iload_n 3, 1) := zd_at zo_cL_tryMove_0 3 rfl
theorem dL_tryMove_4 : decode cL_tryMove 4 = .ok (.invokevirtual 66, 3) := zd_at zo_cL_tryMove_0 4 rfl
theorem dL_tryMove_7 : decode cL_tryMove 7 = .ok (.ireturn, 1) := zd_at zo_cL_tryMove_0 5 rfl
theorem dL_tryMove_8 : decode cL_tryMove 8 = .ok (.astore 4, 2) := zd_at zo_cL_tryMove_0 6 rfl
theorem dL_tryMove_10 : decode cL_tryMove 10 = .ok (.ldc 52, 2) := zd_at zo_cL_tryMove_0 7 rfl
theorem dL_tryMove_12 : decode cL_tryMove 12 = .ok (.ireturn, 1) := zd_at zo_cL_tryMove_0 8 rfl
theorem dL_tryMove_13 : decode cL_tryMove 13 = .ok (.astore 4, 2) := zd_at zo_cL_tryMove_0 9 rfl
theorem dL_tryMove_15 : decode cL_tryMove 15 = .ok (.ldc 15, 2) := zd_at zo_cL_tryMove_0 10 rfl
theorem dL_tryMove_17 : decode cL_tryMove 17 = .ok (.ireturn, 1) := zd_at zo_cL_tryMove_0 11 rfl
theorem dL_tryMove_18 : decode cL_tryMove 18 = .ok (.astore 4, 2) := zd_at zo_cL_tryMove_0 12 rfl
theorem dL_tryMove_20 : decode cL_tryMove 20 = .ok (.ldc 18, 2) := zd_at zo_cL_tryMove_0 13 rfl
theorem dL_tryMove_22 : decode cL_tryMove 22 = .ok (.ireturn, 1) := zd_at zo_cL_tryMove_0 14 rfl
def zl_cL_tryUndo_0 : List (Nat × Instr × Nat) := [(0, .aload_n 0, 1), (1, .invokevirtual 70, 3), (4, .ireturn, 1), (5, .astore_n 1, 1), (6, .ldc 18, 2), (8, .ireturn, 1)]
theorem zo_cL_tryUndo_0 : zd_ok cL_tryUndo zl_cL_tryUndo_0 = true := by decide +kernel
theorem dL_tryUndo_0 : decode cL_tryUndo 0 = .ok (.aload_n 0, 1) := zd_at zo_cL_tryUndo_0 0 rfl
theorem dL_tryUndo_1 : decode cL_tryUndo 1 = .ok (.invokevirtual 70, 3) := zd_at zo_cL_tryUndo_0 1 rfl
theorem dL_tryUndo_4 : decode cL_tryUndo 4 = .ok (.ireturn, 1) := zd_at zo_cL_tryUndo_0 2 rfl
theorem dL_tryUndo_5 : decode cL_tryUndo 5 = .ok (.astore_n 1, 1) := zd_at zo_cL_tryUndo_0 3 rfl
theorem dL_tryUndo_6 : decode cL_tryUndo 6 = .ok (.ldc 18, 2) := zd_at zo_cL_tryUndo_0 4 rfl
theorem dL_tryUndo_8 : decode cL_tryUndo 8 = .ok (.ireturn, 1) := zd_at zo_cL_tryUndo_0 5 rfl
def zl_cL_tryNearest_0 : List (Nat × Instr × Nat) := [(0, .aload_n 0, 1), (1, .iload_n 1, 1), (2, .iload_n 2, 1), (3, .iload_n 3, 1), (4, .invokevirtual 73, 3), (7, .ireturn, 1), (8, .astore 4, 2), (10, .ldc 15, 2), (12, .ireturn, 1)]
theorem zo_cL_tryNearest_0 : zd_ok cL_tryNearest zl_cL_tryNearest_0 = true := by decide +kernel
theorem dL_tryNearest_0 : decode cL_tryNearest 0 = .ok (.aload_n 0, 1) := zd_at zo_cL_tryNearest_0 0 rfl
theorem dL_tryNearest_1 : decode cL_tryNearest 1 = .ok (.iload_n 1, 1) := zd_at zo_cL_tryNearest_0 1 rfl
theorem dL_tryNearest_2 : decode cL_tryNearest 2 = .ok (.iload_n 2, 1) := zd_at zo_cL_tryNearest_0 2 rfl
theorem dL_tryNearest_3 : decode cL_tryNearest 3 = .ok (.iload_n 3, 1) := zd_at zo_cL_tryNearest_0 3 rfl
theorem dL_tryNearest_4 : decode cL_tryNearest 4 = .ok (.invokevirtual 73, 3) := zd_at zo_cL_tryNearest_0 4 rfl
theorem dL_tryNearest_7 : decode cL_tryNearest 7 = .ok (.ireturn, 1) := zd_at zo_cL_tryNearest_0 5 rfl
theorem dL_tryNearest_8 : decode cL_tryNearest 8 = .ok (.astore 4, 2) := zd_at zo_cL_tryNearest_0 6 rfl
theorem dL_tryNearest_10 : decode cL_tryNearest 10 = .ok (.ldc 15, 2) := zd_at zo_cL_tryNearest_0 7 rfl
theorem dL_tryNearest_12 : decode cL_tryNearest 12 = .ok (.ireturn, 1) := zd_at zo_cL_tryNearest_0 8 rfl
def zl_cL_tryKeep_0 : List (Nat × Instr × Nat) := [(0, .aload_n 0, 1), (1, .iload_n 1, 1), (2, .invokevirtual 76, 3), (5, .ireturn, 1), (6, .astore_n 2, 1), (7, .ldc 52, 2), (9, .ireturn, 1)]
theorem zo_cL_tryKeep_0 : zd_ok cL_tryKeep zl_cL_tryKeep_0 = true := by decide +kernel
theorem dL_tryKeep_0 : decode cL_tryKeep 0 = .ok (.aload_n 0, 1) := zd_at zo_cL_tryKeep_0 0 rfl
theorem dL_tryKeep_1 : decode cL_tryKeep 1 = .ok (.iload_n 1, 1) := zd_at zo_cL_tryKeep_0 1 rfl
theorem dL_tryKeep_2 : decode cL_tryKeep 2 = .ok (.invokevirtual 76, 3) := zd_at zo_cL_tryKeep_0 2 rfl
theorem dL_tryKeep_5 : decode cL_tryKeep 5 = .ok (.ireturn, 1) := zd_at zo_cL_tryKeep_0 3 rfl
theorem dL_tryKeep_6 : decode cL_tryKeep 6 = .ok (.astore_n 2, 1) := zd_at zo_cL_tryKeep_0 4 rfl
theorem dL_tryKeep_7 : decode cL_tryKeep 7 = .ok (.ldc 52, 2) := zd_at zo_cL_tryKeep_0 5 rfl
theorem dL_tryKeep_9 : decode cL_tryKeep 9 = .ok (.ireturn, 1) := zd_at zo_cL_tryKeep_0 6 rfl
def zl_cL_tryBack_0 : List (Nat × Instr × Nat) := [(0, .aload_n 0, 1), (1, .iload_n 1, 1), (2, .invokevirtual 79, 3), (5, .ireturn, 1), (6, .astore_n 2, 1), (7, .ldc 52, 2), (9, .ireturn, 1), (10, .astore_n 2, 1), (11, .ldc 18, 2), (13, .ireturn, 1)]
theorem zo_cL_tryBack_0 : zd_ok cL_tryBack zl_cL_tryBack_0 = true := by decide +kernel
theorem dL_tryBack_0 : decode cL_tryBack 0 = .ok (.aload_n 0, 1) := zd_at zo_cL_tryBack_0 0 rfl
theorem dL_tryBack_1 : decode cL_tryBack 1 = .ok (.iload_n 1, 1) := zd_at zo_cL_tryBack_0 1 rfl
theorem dL_tryBack_2 : decode cL_tryBack 2 = .ok (.invokevirtual 79, 3) := zd_at zo_cL_tryBack_0 2 rfl
theorem dL_tryBack_5 : decode cL_tryBack 5 = .ok (.ireturn, 1) := zd_at zo_cL_tryBack_0 3 rfl
theorem dL_tryBack_6 : decode cL_tryBack 6 = .ok (.astore_n 2, 1) := zd_at zo_cL_tryBack_0 4 rfl
theorem dL_tryBack_7 : decode cL_tryBack 7 = .ok (.ldc 52, 2) := zd_at zo_cL_tryBack_0 5 rfl
theorem dL_tryBack_9 : decode cL_tryBack 9 = .ok (.ireturn, 1) := zd_at zo_cL_tryBack_0 6 rfl
theorem dL_tryBack_10 : decode cL_tryBack 10 = .ok (.astore_n 2, 1) := zd_at zo_cL_tryBack_0 7 rfl
theorem dL_tryBack_11 : decode cL_tryBack 11 = .ok (.ldc 18, 2) := zd_at zo_cL_tryBack_0 8 rfl
theorem dL_tryBack_13 : decode cL_tryBack 13 = .ok (.ireturn, 1) := zd_at zo_cL_tryBack_0 9 rfl
def zl_cL_call_0 : List (Nat × Instr × Nat) := [(0, .iload_n 1, 1), (1, .tableswitch 132 0 10 #[59, 65, 71, 78, 85, 92, 97, 103, 112, 117, 126], 59), (60, .aload_n 0, 1), (61, .iload_n 2, 1), (62, .invokestatic 82, 3), (65, .ireturn, 1), (66, .aload_n 0, 1), (67, .iload_n 2, 1), (68, .invokestatic 88, 3), (71, .ireturn, 1), (72, .aload_n 0, 1), (73, .iload_n 2, 1), (74, .iload_n 3, 1), (75, .invokestatic 91, 3), (78, .ireturn, 1), (79, .aload_n 0, 1), (80, .iload_n 2, 1), (81, .iload_n 3, 1), (82, .invokestatic 95, 3), (85, .ireturn, 1), (86, .aload_n 0, 1), (87, .iload_n 2, 1), (88, .iload_n 3, 1), (89, .invokestatic 98, 3), (92, .ireturn, 1), (93, .aload_n 0, 1), (94, .invokestatic 101, 3), (97, .ireturn, 1), (98, .aload_n 0, 1), (99, .iload_n 2, 1), (100, .invokestatic 105, 3), (103, .ireturn, 1), (104, .aload_n 0, 1), (105, .iload_n 2, 1), (106, .iload_n 3, 1), (107, .iload 4, 2), (109, .invokestatic 108, 3), (112, .ireturn, 1), (113, .aload_n 0, 1), (114, .invokestatic 112, 3), (117, .ireturn, 1), (118, .aload_n 0, 1), (119, .iload_n 2, 1), (120, .iload_n 3, 1), (121, .iload 4, 2), (123, .invokestatic 115, 3), (126, .ireturn, 1), (127, .aload_n 0, 1), (128, .iload_n 2, 1), (129, .invokestatic 118, 3), (132, .ireturn, 1), (133, .aload_n 0, 1), (134, .iload_n 2, 1), (135, .invokestatic 121, 3), (138, .ireturn, 1)]
theorem zo_cL_call_0 : zd_ok cL_call zl_cL_call_0 = true := by decide +kernel
theorem dL_call_0 : decode cL_call 0 = .ok (.iload_n 1, 1) := zd_at zo_cL_call_0 0 rfl
theorem dL_call_1 : decode cL_call 1 = .ok (.tableswitch 132 0 10 #[59, 65, 71, 78, 85, 92, 97, 103, 112, 117, 126], 59) := zd_at zo_cL_call_0 1 rfl
theorem dL_call_60 : decode cL_call 60 = .ok (.aload_n 0, 1) := zd_at zo_cL_call_0 2 rfl
theorem dL_call_61 : decode cL_call 61 = .ok (.iload_n 2, 1) := zd_at zo_cL_call_0 3 rfl
theorem dL_call_62 : decode cL_call 62 = .ok (.invokestatic 82, 3) := zd_at zo_cL_call_0 4 rfl
theorem dL_call_65 : decode cL_call 65 = .ok (.ireturn, 1) := zd_at zo_cL_call_0 5 rfl
theorem dL_call_66 : decode cL_call 66 = .ok (.aload_n 0, 1) := zd_at zo_cL_call_0 6 rfl
theorem dL_call_67 : decode cL_call 67 = .ok (.iload_n 2, 1) := zd_at zo_cL_call_0 7 rfl
theorem dL_call_68 : decode cL_call 68 = .ok (.invokestatic 88, 3) := zd_at zo_cL_call_0 8 rfl
theorem dL_call_71 : decode cL_call 71 = .ok (.ireturn, 1) := zd_at zo_cL_call_0 9 rfl
theorem dL_call_72 : decode cL_call 72 = .ok (.aload_n 0, 1) := zd_at zo_cL_call_0 10 rfl
theorem dL_call_73 : decode cL_call 73 = .ok (.iload_n 2, 1) := zd_at zo_cL_call_0 11 rfl
theorem dL_call_74 : decode cL_call 74 = .ok (.iload_n 3, 1) := zd_at zo_cL_call_0 12 rfl
theorem dL_call_75 : decode cL_call 75 = .ok (.invokestatic 91, 3) := zd_at zo_cL_call_0 13 rfl
theorem dL_call_78 : decode cL_call 78 = .ok (.ireturn, 1) := zd_at zo_cL_call_0 14 rfl
theorem dL_call_79 : decode cL_call 79 = .ok (.aload_n 0, 1) := zd_at zo_cL_call_0 15 rfl
theorem dL_call_80 : decode cL_call 80 = .ok (.iload_n 2, 1) := zd_at zo_cL_call_0 16 rfl
theorem dL_call_81 : decode cL_call 81 = .ok (.iload_n 3, 1) := zd_at zo_cL_call_0 17 rfl
theorem dL_call_82 : decode cL_call 82 = .ok (.invokestatic 95, 3) := zd_at zo_cL_call_0 18 rfl
theorem dL_call_85 : decode cL_call 85 = .ok (.ireturn, 1) := zd_at zo_cL_call_0 19 rfl
theorem dL_call_86 : decode cL_call 86 = .ok (.aload_n 0, 1) := zd_at zo_cL_call_0 20 rfl
theorem dL_call_87 : decode cL_call 87 = .ok (.iload_n 2, 1) := zd_at zo_cL_call_0 21 rfl
theorem dL_call_88 : decode cL_call 88 = .ok (.iload_n 3, 1) := zd_at zo_cL_call_0 22 rfl
theorem dL_call_89 : decode cL_call 89 = .ok (.invokestatic 98, 3) := zd_at zo_cL_call_0 23 rfl
theorem dL_call_92 : decode cL_call 92 = .ok (.ireturn, 1) := zd_at zo_cL_call_0 24 rfl
theorem dL_call_93 : decode cL_call 93 = .ok (.aload_n 0, 1) := zd_at zo_cL_call_0 25 rfl
theorem dL_call_94 : decode cL_call 94 = .ok (.invokestatic 101, 3) := zd_at zo_cL_call_0 26 rfl
theorem dL_call_97 : decode cL_call 97 = .ok (.ireturn, 1) := zd_at zo_cL_call_0 27 rfl
theorem dL_call_98 : decode cL_call 98 = .ok (.aload_n 0, 1) := zd_at zo_cL_call_0 28 rfl
theorem dL_call_99 : decode cL_call 99 = .ok (.iload_n 2, 1) := zd_at zo_cL_call_0 29 rfl
theorem dL_call_100 : decode cL_call 100 = .ok (.invokestatic 105, 3) := zd_at zo_cL_call_0 30 rfl
theorem dL_call_103 : decode cL_call 103 = .ok (.ireturn, 1) := zd_at zo_cL_call_0 31 rfl
theorem dL_call_104 : decode cL_call 104 = .ok (.aload_n 0, 1) := zd_at zo_cL_call_0 32 rfl
theorem dL_call_105 : decode cL_call 105 = .ok (.iload_n 2, 1) := zd_at zo_cL_call_0 33 rfl
theorem dL_call_106 : decode cL_call 106 = .ok (.iload_n 3, 1) := zd_at zo_cL_call_0 34 rfl
theorem dL_call_107 : decode cL_call 107 = .ok (.iload 4, 2) := zd_at zo_cL_call_0 35 rfl
theorem dL_call_109 : decode cL_call 109 = .ok (.invokestatic 108, 3) := zd_at zo_cL_call_0 36 rfl
theorem dL_call_112 : decode cL_call 112 = .ok (.ireturn, 1) := zd_at zo_cL_call_0 37 rfl
theorem dL_call_113 : decode cL_call 113 = .ok (.aload_n 0, 1) := zd_at zo_cL_call_0 38 rfl
theorem dL_call_114 : decode cL_call 114 = .ok (.invokestatic 112, 3) := zd_at zo_cL_call_0 39 rfl
theorem dL_call_117 : decode cL_call 117 = .ok (.ireturn, 1) := zd_at zo_cL_call_0 40 rfl
theorem dL_call_118 : decode cL_call 118 = .ok (.aload_n 0, 1) := zd_at zo_cL_call_0 41 rfl
theorem dL_call_119 : decode cL_call 119 = .ok (.iload_n 2, 1) := zd_at zo_cL_call_0 42 rfl
theorem dL_call_120 : decode cL_call 120 = .ok (.iload_n 3, 1) := zd_at zo_cL_call_0 43 rfl
theorem dL_call_121 : decode cL_call 121 = .ok (.iload 4, 2) := zd_at zo_cL_call_0 44 rfl
theorem dL_call_123 : decode cL_call 123 = .ok (.invokestatic 115, 3) := zd_at zo_cL_call_0 45 rfl
theorem dL_call_126 : decode cL_call 126 = .ok (.ireturn, 1) := zd_at zo_cL_call_0 46 rfl
theorem dL_call_127 : decode cL_call 127 = .ok (.aload_n 0, 1) := zd_at zo_cL_call_0 47 rfl
theorem dL_call_128 : decode cL_call 128 = .ok (.iload_n 2, 1) := zd_at zo_cL_call_0 48 rfl
theorem dL_call_129 : decode cL_call 129 = .ok (.invokestatic 118, 3) := zd_at zo_cL_call_0 49 rfl
theorem dL_call_132 : decode cL_call 132 = .ok (.ireturn, 1) := zd_at zo_cL_call_0 50 rfl
theorem dL_call_133 : decode cL_call 133 = .ok (.aload_n 0, 1) := zd_at zo_cL_call_0 51 rfl
theorem dL_call_134 : decode cL_call 134 = .ok (.iload_n 2, 1) := zd_at zo_cL_call_0 52 rfl
theorem dL_call_135 : decode cL_call 135 = .ok (.invokestatic 121, 3) := zd_at zo_cL_call_0 53 rfl
theorem dL_call_138 : decode cL_call 138 = .ok (.ireturn, 1) := zd_at zo_cL_call_0 54 rfl
def zl_cL_cell_0 : List (Nat × Instr × Nat) := [(0, .iload_n 1, 1), (1, .aload_n 0, 1), (2, .arraylength, 1), (3, .if_icmp .ge 9, 3), (6, .aload_n 0, 1), (7, .iload_n 1, 1), (8, .iaload, 1), (9, .goto 13, 3), (12, .ldc 124, 2), (14, .iload_n 1, 1), (15, .iconst 3, 1), (16, .iadd, 1), (17, .imul, 1), (18, .sipush 10733, 3), (21, .iadd, 1), (22, .ldc 125, 2), (24, .iand, 1), (25, .ireturn, 1)]
theorem zo_cL_cell_0 : zd_ok cL_cell zl_cL_cell_0 = true := by decide +kernel
theorem dL_cell_0 : decode cL_cell 0 = .ok (.iload_n 1, 1) := zd_at zo_cL_cell_0 0 rfl
theorem dL_cell_1 : decode cL_cell 1 = .ok (.aload_n 0, 1) := zd_at zo_cL_cell_0 1 rfl
theorem dL_cell_2 : decode cL_cell 2 = .ok (.arraylength, 1) := zd_at zo_cL_cell_0 2 rfl
theorem dL_cell_3 : decode cL_cell 3 = .ok (.if_icmp .ge 9, 3) := zd_at zo_cL_cell_0 3 rfl
theorem dL_cell_6 : decode cL_cell 6 = .ok (.aload_n 0, 1) := zd_at zo_cL_cell_0 4 rfl
theorem dL_cell_7 : decode cL_cell 7 = .ok (.iload_n 1, 1) := zd_at zo_cL_cell_0 5 rfl
theorem dL_cell_8 : decode cL_cell 8 = .ok (.iaload, 1) := zd_at zo_cL_cell_0 6 rfl
theorem dL_cell_9 : decode cL_cell 9 = .ok (.goto 13, 3) := zd_at zo_cL_cell_0 7 rfl
theorem dL_cell_12 : decode cL_cell 12 = .ok (.ldc 124, 2) := zd_at zo_cL_cell_0 8 rfl
theorem dL_cell_14 : decode cL_cell 14 = .ok (.iload_n 1, 1) := zd_at zo_cL_cell_0 9 rfl
theorem dL_cell_15 : decode cL_cell 15 = .ok (.iconst 3, 1) := zd_at zo_cL_cell_0 10 rfl
theorem dL_cell_16 : decode cL_cell 16 = .ok (.iadd, 1) := zd_at zo_cL_cell_0 11 rfl
theorem dL_cell_17 : decode cL_cell 17 = .ok (.imul, 1) := zd_at zo_cL_cell_0 12 rfl
theorem dL_cell_18 : decode cL_cell 18 = .ok (.sipush 10733, 3) := zd_at zo_cL_cell_0 13 rfl
theorem dL_cell_21 : decode cL_cell 21 = .ok (.iadd, 1) := zd_at zo_cL_cell_0 14 rfl
theorem dL_cell_22 : decode cL_cell 22 = .ok (.ldc 125, 2) := zd_at zo_cL_cell_0 15 rfl
theorem dL_cell_24 : decode cL_cell 24 = .ok (.iand, 1) := zd_at zo_cL_cell_0 16 rfl
theorem dL_cell_25 : decode cL_cell 25 = .ok (.ireturn, 1) := zd_at zo_cL_cell_0 17 rfl
def zl_cL_refuses_0 : List (Nat × Instr × Nat) := [(0, .aload_n 0, 1), (1, .iconst 1, 1), (2, .iconst 1, 1), (3, .iconst 0, 1), (4, .iconst 0, 1), (5, .invokestatic 126, 3), (8, .istore_n 2, 1), (9, .aload_n 0, 1), (10, .iconst 1, 1), (11, .bipush 8, 2), (13, .iload_n 1, 1), (14, .bipush 9, 2), (16, .irem, 1), (17, .iadd, 1), (18, .iconst 0, 1), (19, .iconst 0, 1), (20, .invokestatic 126, 3), (23, .ldc 15, 2), (25, .if_icmp .ne 148, 3), (28, .aload_n 0, 1), (29, .iconst 2, 1), (30, .bipush 24, 2), (32, .iload_n 1, 1), (33, .bipush 9, 2), (35, .irem, 1), (36, .iadd, 1), (37, .bipush 9, 2), (39, .iconst 0, 1), (40, .invokestatic 126, 3), (43, .ldc 52, 2), (45, .if_icmp .ne 128, 3), (48, .aload_n 0, 1), (49, .iconst 3, 1), (50, .iload_n 2, 1), (51, .iload_n 1, 1), (52, .bipush 9, 2), (54, .irem, 1), (55, .iadd, 1), (56, .bipush 9, 2), (58, .iconst 0, 1), (59, .invokestatic 126, 3), (62, .ldc 52, 2), (64, .if_icmp .ne 109, 3), (67, .aload_n 0, 1), (68, .iconst 3, 1), (69, .iload_n 1, 1), (70, .iload_n 2, 1), (71, .irem, 1), (72, .bipush 7, 2), (74, .iload_n 1, 1), (75, .bipush 9, 2), (77, .irem, 1), (78, .iadd, 1), (79, .iconst 0, 1), (80, .invokestatic 126, 3), (83, .ldc 15, 2), (85, .if_icmp .ne 88, 3), (88, .aload_n 0, 1), (89, .iconst 4, 1), (90, .iload_n 2, 1), (91, .iconst (-1), 1), (92, .iconst 0, 1), (93, .invokestatic 126, 3), (96, .ldc 52, 2), (98, .if_icmp .ne 75, 3), (101, .aload_n 0, 1), (102, .iconst 4, 1), (103, .iload_n 1, 1), (104, .iload_n 2, 1), (105, .irem, 1), (106, .iconst (-1), 1), (107, .iload_n 1, 1), (108, .bipush 9, 2), (110, .irem, 1), (111, .isub, 1), (112, .iconst 0, 1), (113, .invokestatic 126, 3), (116, .ldc 15, 2), (118, .if_icmp .ne 55, 3), (121, .aload_n 0, 1), (122, .bipush 100, 2), (124, .iload_n 1, 1), (125, .bipush 9, 2), (127, .irem, 1), (128, .iadd, 1), (129, .iconst 0, 1), (130, .bipush 100, 2), (132, .iconst 0, 1), (133, .invokestatic 130, 3), (136, .ldc 15, 2), (138, .if_icmp .ne 35, 3), (141, .aload_n 0, 1), (142, .iconst 5, 1), (143, .iconst 5, 1), (144, .iconst 4, 1), (145, .bipush 9, 2), (147, .invokestatic 130, 3), (150, .ldc 15, 2), (152, .if_icmp .ne 21, 3), (155, .aload_n 0, 1), (156, .iconst 5, 1), (157, .iconst (-1), 1), (158, .iconst 5, 1), (159, .bipush 9, 2), (161, .invokestatic 130, 3), (164, .ldc 15, 2), (166, .if_icmp .ne 7, 3), (169, .iconst 1, 1), (170, .goto 4, 3), (173, .iconst 0, 1), (174, .istore_n 3, 1), (175, .iload_n 3, 1), (176, .ifCond .eq 175, 3), (179, .aload_n 0, 1), (180, .bipush 6, 2), (182, .iconst (-1), 1), (183, .iload_n 1, 1), (184, .bipush 9, 2), (186, .irem, 1), (187, .isub, 1)]
theorem zo_cL_refuses_0 : zd_ok cL_refuses zl_cL_refuses_0 = true := by decide +kernel
theorem dL_refuses_0 : decode cL_refuses 0 = .ok (.aload_n 0, 1) := zd_at zo_cL_refuses_0 0 rfl
theorem dL_refuses_1 : decode cL_refuses 1 = .ok (.iconst 1, 1) := zd_at zo_cL_refuses_0 1 rfl
theorem dL_refuses_2 : decode cL_refuses 2 = .ok (.iconst 1, 1) := zd_at zo_cL_refuses_0 2 rfl
theorem dL_refuses_3 : decode cL_refuses 3 = .ok (.iconst 0, 1) := zd_at zo_cL_refuses_0 3 rfl
theorem dL_refuses_4 : decode cL_refuses 4 = .ok (.iconst 0, 1) := zd_at zo_cL_refuses_0 4 rfl
theorem dL_refuses_5 : decode cL_refuses 5 = .ok (.invokestatic 126, 3) := zd_at zo_cL_refuses_0 5 rfl
theorem dL_refuses_8 : decode cL_refuses 8 = .ok (.istore_n 2, 1) := zd_at zo_cL_refuses_0 6 rfl
theorem dL_refuses_9 : decode cL_refuses 9 = .ok (.aload_n 0, 1) := zd_at zo_cL_refuses_0 7 rfl
theorem dL_refuses_10 : decode cL_refuses 10 = .ok (.iconst 1, 1) := zd_at zo_cL_refuses_0 8 rfl
theorem dL_refuses_11 : decode cL_refuses 11 = .ok (.bipush 8, 2) := zd_at zo_cL_refuses_0 9 rfl
theorem dL_refuses_13 : decode cL_refuses 13 = .ok (.iload_n 1, 1) := zd_at zo_cL_refuses_0 10 rfl
theorem dL_refuses_14 : decode cL_refuses 14 = .ok (.bipush 9, 2) := zd_at zo_cL_refuses_0 11 rfl
theorem dL_refuses_16 : decode cL_refuses 16 = .ok (.irem, 1) := zd_at zo_cL_refuses_0 12 rfl
theorem dL_refuses_17 : decode cL_refuses 17 = .ok (.iadd, 1) := zd_at zo_cL_refuses_0 13 rfl
theorem dL_refuses_18 : decode cL_refuses 18 = .ok (.iconst 0, 1) := zd_at zo_cL_refuses_0 14 rfl
theorem dL_refuses_19 : decode cL_refuses 19 = .ok (.iconst 0, 1) := zd_at zo_cL_refuses_0 15 rfl
theorem dL_refuses_20 : decode cL_refuses 20 = .ok (.invokestatic 126, 3) := zd_at zo_cL_refuses_0 16 rfl
theorem dL_refuses_23 : decode cL_refuses 23 = .ok (.ldc 15, 2) := zd_at zo_cL_refuses_0 17 rfl
theorem dL_refuses_25 : decode cL_refuses 25 = .ok (.if_icmp .ne 148, 3) := zd_at zo_cL_refuses_0 18 rfl
theorem dL_refuses_28 : decode cL_refuses 28 = .ok (.aload_n 0, 1) := zd_at zo_cL_refuses_0 19 rfl
theorem dL_refuses_29 : decode cL_refuses 29 = .ok (.iconst 2, 1) := zd_at zo_cL_refuses_0 20 rfl
theorem dL_refuses_30 : decode cL_refuses 30 = .ok (.bipush 24, 2) := zd_at zo_cL_refuses_0 21 rfl
theorem dL_refuses_32 : decode cL_refuses 32 = .ok (.iload_n 1, 1) := zd_at zo_cL_refuses_0 22 rfl
theorem dL_refuses_33 : decode cL_refuses 33 = .ok (.bipush 9, 2) := zd_at zo_cL_refuses_0 23 rfl
theorem dL_refuses_35 : decode cL_refuses 35 = .ok (.irem, 1) := zd_at zo_cL_refuses_0 24 rfl
theorem dL_refuses_36 : decode cL_refuses 36 = .ok (.iadd, 1) := zd_at zo_cL_refuses_0 25 rfl
theorem dL_refuses_37 : decode cL_refuses 37 = .ok (.bipush 9, 2) := zd_at zo_cL_refuses_0 26 rfl
theorem dL_refuses_39 : decode cL_refuses 39 = .ok (.iconst 0, 1) := zd_at zo_cL_refuses_0 27 rfl
theorem dL_refuses_40 : decode cL_refuses 40 = .ok (.invokestatic 126, 3) := zd_at zo_cL_refuses_0 28 rfl
theorem dL_refuses_43 : decode cL_refuses 43 = .ok (.ldc 52, 2) := zd_at zo_cL_refuses_0 29 rfl
theorem dL_refuses_45 : decode cL_refuses 45 = .ok (.if_icmp .ne 128, 3) := zd_at zo_cL_refuses_0 30 rfl
theorem dL_refuses_48 : decode cL_refuses 48 = .ok (.aload_n 0, 1) := zd_at zo_cL_refuses_0 31 rfl
theorem dL_refuses_49 : decode cL_refuses 49 = .ok (.iconst 3, 1) := zd_at zo_cL_refuses_0 32 rfl
theorem dL_refuses_50 : decode cL_refuses 50 = .ok (.iload_n 2, 1) := zd_at zo_cL_refuses_0 33 rfl
theorem dL_refuses_51 : decode cL_refuses 51 = .ok (.iload_n 1, 1) := zd_at zo_cL_refuses_0 34 rfl
theorem dL_refuses_52 : decode cL_refuses 52 = .ok (.bipush 9, 2) := zd_at zo_cL_refuses_0 35 rfl
theorem dL_refuses_54 : decode cL_refuses 54 = .ok (.irem, 1) := zd_at zo_cL_refuses_0 36 rfl
theorem dL_refuses_55 : decode cL_refuses 55 = .ok (.iadd, 1) := zd_at zo_cL_refuses_0 37 rfl
theorem dL_refuses_56 : decode cL_refuses 56 = .ok (.bipush 9, 2) := zd_at zo_cL_refuses_0 38 rfl
theorem dL_refuses_58 : decode cL_refuses 58 = .ok (.iconst 0, 1) := zd_at zo_cL_refuses_0 39 rfl
theorem dL_refuses_59 : decode cL_refuses 59 = .ok (.invokestatic 126, 3) := zd_at zo_cL_refuses_0 40 rfl
theorem dL_refuses_62 : decode cL_refuses 62 = .ok (.ldc 52, 2) := zd_at zo_cL_refuses_0 41 rfl
theorem dL_refuses_64 : decode cL_refuses 64 = .ok (.if_icmp .ne 109, 3) := zd_at zo_cL_refuses_0 42 rfl
theorem dL_refuses_67 : decode cL_refuses 67 = .ok (.aload_n 0, 1) := zd_at zo_cL_refuses_0 43 rfl
theorem dL_refuses_68 : decode cL_refuses 68 = .ok (.iconst 3, 1) := zd_at zo_cL_refuses_0 44 rfl
theorem dL_refuses_69 : decode cL_refuses 69 = .ok (.iload_n 1, 1) := zd_at zo_cL_refuses_0 45 rfl
theorem dL_refuses_70 : decode cL_refuses 70 = .ok (.iload_n 2, 1) := zd_at zo_cL_refuses_0 46 rfl
theorem dL_refuses_71 : decode cL_refuses 71 = .ok (.irem, 1) := zd_at zo_cL_refuses_0 47 rfl
theorem dL_refuses_72 : decode cL_refuses 72 = .ok (.bipush 7, 2) := zd_at zo_cL_refuses_0 48 rfl
theorem dL_refuses_74 : decode cL_refuses 74 = .ok (.iload_n 1, 1) := zd_at zo_cL_refuses_0 49 rfl
theorem dL_refuses_75 : decode cL_refuses 75 = .ok (.bipush 9, 2) := zd_at zo_cL_refuses_0 50 rfl
theorem dL_refuses_77 : decode cL_refuses 77 = .ok (.irem, 1) := zd_at zo_cL_refuses_0 51 rfl
theorem dL_refuses_78 : decode cL_refuses 78 = .ok (.iadd, 1) := zd_at zo_cL_refuses_0 52 rfl
theorem dL_refuses_79 : decode cL_refuses 79 = .ok (.iconst 0, 1) := zd_at zo_cL_refuses_0 53 rfl
theorem dL_refuses_80 : decode cL_refuses 80 = .ok (.invokestatic 126, 3) := zd_at zo_cL_refuses_0 54 rfl
theorem dL_refuses_83 : decode cL_refuses 83 = .ok (.ldc 15, 2) := zd_at zo_cL_refuses_0 55 rfl
theorem dL_refuses_85 : decode cL_refuses 85 = .ok (.if_icmp .ne 88, 3) := zd_at zo_cL_refuses_0 56 rfl
theorem dL_refuses_88 : decode cL_refuses 88 = .ok (.aload_n 0, 1) := zd_at zo_cL_refuses_0 57 rfl
theorem dL_refuses_89 : decode cL_refuses 89 = .ok (.iconst 4, 1) := zd_at zo_cL_refuses_0 58 rfl
theorem dL_refuses_90 : decode cL_refuses 90 = .ok (.iload_n 2, 1) := zd_at zo_cL_refuses_0 59 rfl
theorem dL_refuses_91 : decode cL_refuses 91 = .ok (.iconst (-1), 1) := zd_at zo_cL_refuses_0 60 rfl
theorem dL_refuses_92 : decode cL_refuses 92 = .ok (.iconst 0, 1) := zd_at zo_cL_refuses_0 61 rfl
theorem dL_refuses_93 : decode cL_refuses 93 = .ok (.invokestatic 126, 3) := zd_at zo_cL_refuses_0 62 rfl
theorem dL_refuses_96 : decode cL_refuses 96 = .ok (.ldc 52, 2) := zd_at zo_cL_refuses_0 63 rfl
theorem dL_refuses_98 : decode cL_refuses 98 = .ok (.if_icmp .ne 75, 3) := zd_at zo_cL_refuses_0 64 rfl
theorem dL_refuses_101 : decode cL_refuses 101 = .ok (.aload_n 0, 1) := zd_at zo_cL_refuses_0 65 rfl
theorem dL_refuses_102 : decode cL_refuses 102 = .ok (.iconst 4, 1) := zd_at zo_cL_refuses_0 66 rfl
theorem dL_refuses_103 : decode cL_refuses 103 = .ok (.iload_n 1, 1) := zd_at zo_cL_refuses_0 67 rfl
theorem dL_refuses_104 : decode cL_refuses 104 = .ok (.iload_n 2, 1) := zd_at zo_cL_refuses_0 68 rfl
theorem dL_refuses_105 : decode cL_refuses 105 = .ok (.irem, 1) := zd_at zo_cL_refuses_0 69 rfl
theorem dL_refuses_106 : decode cL_refuses 106 = .ok (.iconst (-1), 1) := zd_at zo_cL_refuses_0 70 rfl
theorem dL_refuses_107 : decode cL_refuses 107 = .ok (.iload_n 1, 1) := zd_at zo_cL_refuses_0 71 rfl
theorem dL_refuses_108 : decode cL_refuses 108 = .ok (.bipush 9, 2) := zd_at zo_cL_refuses_0 72 rfl
theorem dL_refuses_110 : decode cL_refuses 110 = .ok (.irem, 1) := zd_at zo_cL_refuses_0 73 rfl
theorem dL_refuses_111 : decode cL_refuses 111 = .ok (.isub, 1) := zd_at zo_cL_refuses_0 74 rfl
theorem dL_refuses_112 : decode cL_refuses 112 = .ok (.iconst 0, 1) := zd_at zo_cL_refuses_0 75 rfl
theorem dL_refuses_113 : decode cL_refuses 113 = .ok (.invokestatic 126, 3) := zd_at zo_cL_refuses_0 76 rfl
theorem dL_refuses_116 : decode cL_refuses 116 = .ok (.ldc 15, 2) := zd_at zo_cL_refuses_0 77 rfl
theorem dL_refuses_118 : decode cL_refuses 118 = .ok (.if_icmp .ne 55, 3) := zd_at zo_cL_refuses_0 78 rfl
theorem dL_refuses_121 : decode cL_refuses 121 = .ok (.aload_n 0, 1) := zd_at zo_cL_refuses_0 79 rfl
theorem dL_refuses_122 : decode cL_refuses 122 = .ok (.bipush 100, 2) := zd_at zo_cL_refuses_0 80 rfl
theorem dL_refuses_124 : decode cL_refuses 124 = .ok (.iload_n 1, 1) := zd_at zo_cL_refuses_0 81 rfl
theorem dL_refuses_125 : decode cL_refuses 125 = .ok (.bipush 9, 2) := zd_at zo_cL_refuses_0 82 rfl
theorem dL_refuses_127 : decode cL_refuses 127 = .ok (.irem, 1) := zd_at zo_cL_refuses_0 83 rfl
theorem dL_refuses_128 : decode cL_refuses 128 = .ok (.iadd, 1) := zd_at zo_cL_refuses_0 84 rfl
theorem dL_refuses_129 : decode cL_refuses 129 = .ok (.iconst 0, 1) := zd_at zo_cL_refuses_0 85 rfl
theorem dL_refuses_130 : decode cL_refuses 130 = .ok (.bipush 100, 2) := zd_at zo_cL_refuses_0 86 rfl
theorem dL_refuses_132 : decode cL_refuses 132 = .ok (.iconst 0, 1) := zd_at zo_cL_refuses_0 87 rfl
theorem dL_refuses_133 : decode cL_refuses 133 = .ok (.invokestatic 130, 3) := zd_at zo_cL_refuses_0 88 rfl
theorem dL_refuses_136 : decode cL_refuses 136 = .ok (.ldc 15, 2) := zd_at zo_cL_refuses_0 89 rfl
theorem dL_refuses_138 : decode cL_refuses 138 = .ok (.if_icmp .ne 35, 3) := zd_at zo_cL_refuses_0 90 rfl
theorem dL_refuses_141 : decode cL_refuses 141 = .ok (.aload_n 0, 1) := zd_at zo_cL_refuses_0 91 rfl
theorem dL_refuses_142 : decode cL_refuses 142 = .ok (.iconst 5, 1) := zd_at zo_cL_refuses_0 92 rfl
theorem dL_refuses_143 : decode cL_refuses 143 = .ok (.iconst 5, 1) := zd_at zo_cL_refuses_0 93 rfl
theorem dL_refuses_144 : decode cL_refuses 144 = .ok (.iconst 4, 1) := zd_at zo_cL_refuses_0 94 rfl
theorem dL_refuses_145 : decode cL_refuses 145 = .ok (.bipush 9, 2) := zd_at zo_cL_refuses_0 95 rfl
theorem dL_refuses_147 : decode cL_refuses 147 = .ok (.invokestatic 130, 3) := zd_at zo_cL_refuses_0 96 rfl
theorem dL_refuses_150 : decode cL_refuses 150 = .ok (.ldc 15, 2) := zd_at zo_cL_refuses_0 97 rfl
theorem dL_refuses_152 : decode cL_refuses 152 = .ok (.if_icmp .ne 21, 3) := zd_at zo_cL_refuses_0 98 rfl
theorem dL_refuses_155 : decode cL_refuses 155 = .ok (.aload_n 0, 1) := zd_at zo_cL_refuses_0 99 rfl
theorem dL_refuses_156 : decode cL_refuses 156 = .ok (.iconst 5, 1) := zd_at zo_cL_refuses_0 100 rfl
theorem dL_refuses_157 : decode cL_refuses 157 = .ok (.iconst (-1), 1) := zd_at zo_cL_refuses_0 101 rfl
theorem dL_refuses_158 : decode cL_refuses 158 = .ok (.iconst 5, 1) := zd_at zo_cL_refuses_0 102 rfl
theorem dL_refuses_159 : decode cL_refuses 159 = .ok (.bipush 9, 2) := zd_at zo_cL_refuses_0 103 rfl
theorem dL_refuses_161 : decode cL_refuses 161 = .ok (.invokestatic 130, 3) := zd_at zo_cL_refuses_0 104 rfl
theorem dL_refuses_164 : decode cL_refuses 164 = .ok (.ldc 15, 2) := zd_at zo_cL_refuses_0 105 rfl
theorem dL_refuses_166 : decode cL_refuses 166 = .ok (.if_icmp .ne 7, 3) := zd_at zo_cL_refuses_0 106 rfl
theorem dL_refuses_169 : decode cL_refuses 169 = .ok (.iconst 1, 1) := zd_at zo_cL_refuses_0 107 rfl
theorem dL_refuses_170 : decode cL_refuses 170 = .ok (.goto 4, 3) := zd_at zo_cL_refuses_0 108 rfl
theorem dL_refuses_173 : decode cL_refuses 173 = .ok (.iconst 0, 1) := zd_at zo_cL_refuses_0 109 rfl
theorem dL_refuses_174 : decode cL_refuses 174 = .ok (.istore_n 3, 1) := zd_at zo_cL_refuses_0 110 rfl
theorem dL_refuses_175 : decode cL_refuses 175 = .ok (.iload_n 3, 1) := zd_at zo_cL_refuses_0 111 rfl
theorem dL_refuses_176 : decode cL_refuses 176 = .ok (.ifCond .eq 175, 3) := zd_at zo_cL_refuses_0 112 rfl
theorem dL_refuses_179 : decode cL_refuses 179 = .ok (.aload_n 0, 1) := zd_at zo_cL_refuses_0 113 rfl
theorem dL_refuses_180 : decode cL_refuses 180 = .ok (.bipush 6, 2) := zd_at zo_cL_refuses_0 114 rfl
theorem dL_refuses_182 : decode cL_refuses 182 = .ok (.iconst (-1), 1) := zd_at zo_cL_refuses_0 115 rfl
theorem dL_refuses_183 : decode cL_refuses 183 = .ok (.iload_n 1, 1) := zd_at zo_cL_refuses_0 116 rfl
theorem dL_refuses_184 : decode cL_refuses 184 = .ok (.bipush 9, 2) := zd_at zo_cL_refuses_0 117 rfl
theorem dL_refuses_186 : decode cL_refuses 186 = .ok (.irem, 1) := zd_at zo_cL_refuses_0 118 rfl
theorem dL_refuses_187 : decode cL_refuses 187 = .ok (.isub, 1) := zd_at zo_cL_refuses_0 119 rfl
def zl_cL_refuses_120 : List (Nat × Instr × Nat) := [(188, .iconst 0, 1), (189, .iconst 0, 1), (190, .invokestatic 126, 3), (193, .ldc 52, 2), (195, .if_icmp .ne 156, 3), (198, .aload_n 0, 1), (199, .bipush 7, 2), (201, .bipush 24, 2), (203, .bipush 100, 2), (205, .bipush 100, 2), (207, .invokestatic 126, 3), (210, .ldc 52, 2), (212, .if_icmp .ne 139, 3), (215, .aload_n 0, 1), (216, .iconst 0, 1), (217, .bipush 9, 2), (219, .iconst 0, 1), (220, .bipush 8, 2), (222, .invokestatic 133, 3), (225, .ldc 15, 2), (227, .if_icmp .ne 124, 3), (230, .aload_n 0, 1), (231, .iconst 0, 1), (232, .iconst 0, 1), (233, .bipush 100, 2), (235, .iload_n 1, 1), (236, .bipush 9, 2), (238, .irem, 1), (239, .iadd, 1), (240, .iconst 0, 1), (241, .invokestatic 136, 3), (244, .ldc 15, 2), (246, .if_icmp .ne 105, 3), (249, .aload_n 0, 1), (250, .iconst (-1), 1), (251, .iload_n 1, 1), (252, .bipush 9, 2), (254, .irem, 1), (255, .isub, 1), (256, .iconst 0, 1), (257, .iconst 0, 1), (258, .iconst 0, 1), (259, .invokestatic 139, 3), (262, .ldc 15, 2), (264, .if_icmp .ne 87, 3), (267, .aload_n 0, 1), (268, .bipush 9, 2), (270, .iconst 0, 1), (271, .bipush 8, 2), (273, .iconst 0, 1), (274, .invokestatic 142, 3), (277, .ldc 15, 2), (279, .if_icmp .ne 72, 3), (282, .aload_n 0, 1), (283, .bipush 9, 2), (285, .bipush 100, 2), (287, .iload_n 1, 1), (288, .bipush 9, 2), (290, .irem, 1), (291, .iadd, 1), (292, .iconst 0, 1), (293, .iconst 0, 1), (294, .invokestatic 126, 3), (297, .ldc 15, 2), (299, .if_icmp .ne 52, 3), (302, .aload_n 0, 1), (303, .bipush 9, 2), (305, .iconst 0, 1), (306, .iconst 0, 1), (307, .iconst (-1), 1), (308, .iload_n 1, 1), (309, .bipush 9, 2), (311, .irem, 1), (312, .isub, 1), (313, .invokestatic 126, 3), (316, .ldc 15, 2), (318, .if_icmp .ne 33, 3), (321, .aload_n 0, 1), (322, .iconst 1, 1), (323, .iconst 0, 1), (324, .iconst 0, 1), (325, .iconst 0, 1), (326, .invokestatic 126, 3), (329, .bipush 24, 2), (331, .if_icmp .lt 16, 3), (334, .aload_n 0, 1), (335, .iconst 0, 1), (336, .iconst 0, 1), (337, .iconst 0, 1), (338, .iconst 0, 1), (339, .invokestatic 130, 3), (342, .ldc 18, 2), (344, .if_icmp .ne 7, 3), (347, .iconst 1, 1), (348, .goto 4, 3), (351, .iconst 0, 1), (352, .istore_n 3, 1), (353, .aload_n 0, 1), (354, .bipush 9, 2), (356, .iload_n 1, 1), (357, .bipush 100, 2), (359, .irem, 1), (360, .iload_n 1, 1), (361, .sipush 128, 3), (364, .idiv, 1), (365, .bipush 100, 2), (367, .irem, 1), (368, .iconst 0, 1), (369, .invokestatic 126, 3), (372, .istore 4, 2), (374, .iload 4, 2), (376, .ifCond .lt 96, 3), (379, .iload_n 3, 1), (380, .ifCond .eq 90, 3), (383, .aload_n 0, 1), (384, .iconst 2, 1), (385, .iload 4, 2), (387, .iconst 5, 1), (388, .iload_n 1, 1), (389, .bipush 9, 2)]
theorem zo_cL_refuses_120 : zd_ok cL_refuses zl_cL_refuses_120 = true := by decide +kernel
theorem dL_refuses_188 : decode cL_refuses 188 = .ok (.iconst 0, 1) := zd_at zo_cL_refuses_120 0 rfl
theorem dL_refuses_189 : decode cL_refuses 189 = .ok (.iconst 0, 1) := zd_at zo_cL_refuses_120 1 rfl
theorem dL_refuses_190 : decode cL_refuses 190 = .ok (.invokestatic 126, 3) := zd_at zo_cL_refuses_120 2 rfl
theorem dL_refuses_193 : decode cL_refuses 193 = .ok (.ldc 52, 2) := zd_at zo_cL_refuses_120 3 rfl
theorem dL_refuses_195 : decode cL_refuses 195 = .ok (.if_icmp .ne 156, 3) := zd_at zo_cL_refuses_120 4 rfl
theorem dL_refuses_198 : decode cL_refuses 198 = .ok (.aload_n 0, 1) := zd_at zo_cL_refuses_120 5 rfl
theorem dL_refuses_199 : decode cL_refuses 199 = .ok (.bipush 7, 2) := zd_at zo_cL_refuses_120 6 rfl
theorem dL_refuses_201 : decode cL_refuses 201 = .ok (.bipush 24, 2) := zd_at zo_cL_refuses_120 7 rfl
theorem dL_refuses_203 : decode cL_refuses 203 = .ok (.bipush 100, 2) := zd_at zo_cL_refuses_120 8 rfl
theorem dL_refuses_205 : decode cL_refuses 205 = .ok (.bipush 100, 2) := zd_at zo_cL_refuses_120 9 rfl
theorem dL_refuses_207 : decode cL_refuses 207 = .ok (.invokestatic 126, 3) := zd_at zo_cL_refuses_120 10 rfl
theorem dL_refuses_210 : decode cL_refuses 210 = .ok (.ldc 52, 2) := zd_at zo_cL_refuses_120 11 rfl
theorem dL_refuses_212 : decode cL_refuses 212 = .ok (.if_icmp .ne 139, 3) := zd_at zo_cL_refuses_120 12 rfl
theorem dL_refuses_215 : decode cL_refuses 215 = .ok (.aload_n 0, 1) := zd_at zo_cL_refuses_120 13 rfl
theorem dL_refuses_216 : decode cL_refuses 216 = .ok (.iconst 0, 1) := zd_at zo_cL_refuses_120 14 rfl
theorem dL_refuses_217 : decode cL_refuses 217 = .ok (.bipush 9, 2) := zd_at zo_cL_refuses_120 15 rfl
theorem dL_refuses_219 : decode cL_refuses 219 = .ok (.iconst 0, 1) := zd_at zo_cL_refuses_120 16 rfl
theorem dL_refuses_220 : decode cL_refuses 220 = .ok (.bipush 8, 2) := zd_at zo_cL_refuses_120 17 rfl
theorem dL_refuses_222 : decode cL_refuses 222 = .ok (.invokestatic 133, 3) := zd_at zo_cL_refuses_120 18 rfl
theorem dL_refuses_225 : decode cL_refuses 225 = .ok (.ldc 15, 2) := zd_at zo_cL_refuses_120 19 rfl
theorem dL_refuses_227 : decode cL_refuses 227 = .ok (.if_icmp .ne 124, 3) := zd_at zo_cL_refuses_120 20 rfl
theorem dL_refuses_230 : decode cL_refuses 230 = .ok (.aload_n 0, 1) := zd_at zo_cL_refuses_120 21 rfl
theorem dL_refuses_231 : decode cL_refuses 231 = .ok (.iconst 0, 1) := zd_at zo_cL_refuses_120 22 rfl
theorem dL_refuses_232 : decode cL_refuses 232 = .ok (.iconst 0, 1) := zd_at zo_cL_refuses_120 23 rfl
theorem dL_refuses_233 : decode cL_refuses 233 = .ok (.bipush 100, 2) := zd_at zo_cL_refuses_120 24 rfl
theorem dL_refuses_235 : decode cL_refuses 235 = .ok (.iload_n 1, 1) := zd_at zo_cL_refuses_120 25 rfl
theorem dL_refuses_236 : decode cL_refuses 236 = .ok (.bipush 9, 2) := zd_at zo_cL_refuses_120 26 rfl
theorem dL_refuses_238 : decode cL_refuses 238 = .ok (.irem, 1) := zd_at zo_cL_refuses_120 27 rfl
theorem dL_refuses_239 : decode cL_refuses 239 = .ok (.iadd, 1) := zd_at zo_cL_refuses_120 28 rfl
theorem dL_refuses_240 : decode cL_refuses 240 = .ok (.iconst 0, 1) := zd_at zo_cL_refuses_120 29 rfl
theorem dL_refuses_241 : decode cL_refuses 241 = .ok (.invokestatic 136, 3) := zd_at zo_cL_refuses_120 30 rfl
theorem dL_refuses_244 : decode cL_refuses 244 = .ok (.ldc 15, 2) := zd_at zo_cL_refuses_120 31 rfl
theorem dL_refuses_246 : decode cL_refuses 246 = .ok (.if_icmp .ne 105, 3) := zd_at zo_cL_refuses_120 32 rfl
theorem dL_refuses_249 : decode cL_refuses 249 = .ok (.aload_n 0, 1) := zd_at zo_cL_refuses_120 33 rfl
theorem dL_refuses_250 : decode cL_refuses 250 = .ok (.iconst (-1), 1) := zd_at zo_cL_refuses_120 34 rfl
theorem dL_refuses_251 : decode cL_refuses 251 = .ok (.iload_n 1, 1) := zd_at zo_cL_refuses_120 35 rfl
theorem dL_refuses_252 : decode cL_refuses 252 = .ok (.bipush 9, 2) := zd_at zo_cL_refuses_120 36 rfl
theorem dL_refuses_254 : decode cL_refuses 254 = .ok (.irem, 1) := zd_at zo_cL_refuses_120 37 rfl
theorem dL_refuses_255 : decode cL_refuses 255 = .ok (.isub, 1) := zd_at zo_cL_refuses_120 38 rfl
theorem dL_refuses_256 : decode cL_refuses 256 = .ok (.iconst 0, 1) := zd_at zo_cL_refuses_120 39 rfl
theorem dL_refuses_257 : decode cL_refuses 257 = .ok (.iconst 0, 1) := zd_at zo_cL_refuses_120 40 rfl
theorem dL_refuses_258 : decode cL_refuses 258 = .ok (.iconst 0, 1) := zd_at zo_cL_refuses_120 41 rfl
theorem dL_refuses_259 : decode cL_refuses 259 = .ok (.invokestatic 139, 3) := zd_at zo_cL_refuses_120 42 rfl
theorem dL_refuses_262 : decode cL_refuses 262 = .ok (.ldc 15, 2) := zd_at zo_cL_refuses_120 43 rfl
theorem dL_refuses_264 : decode cL_refuses 264 = .ok (.if_icmp .ne 87, 3) := zd_at zo_cL_refuses_120 44 rfl
theorem dL_refuses_267 : decode cL_refuses 267 = .ok (.aload_n 0, 1) := zd_at zo_cL_refuses_120 45 rfl
theorem dL_refuses_268 : decode cL_refuses 268 = .ok (.bipush 9, 2) := zd_at zo_cL_refuses_120 46 rfl
theorem dL_refuses_270 : decode cL_refuses 270 = .ok (.iconst 0, 1) := zd_at zo_cL_refuses_120 47 rfl
theorem dL_refuses_271 : decode cL_refuses 271 = .ok (.bipush 8, 2) := zd_at zo_cL_refuses_120 48 rfl
theorem dL_refuses_273 : decode cL_refuses 273 = .ok (.iconst 0, 1) := zd_at zo_cL_refuses_120 49 rfl
theorem dL_refuses_274 : decode cL_refuses 274 = .ok (.invokestatic 142, 3) := zd_at zo_cL_refuses_120 50 rfl
theorem dL_refuses_277 : decode cL_refuses 277 = .ok (.ldc 15, 2) := zd_at zo_cL_refuses_120 51 rfl
theorem dL_refuses_279 : decode cL_refuses 279 = .ok (.if_icmp .ne 72, 3) := zd_at zo_cL_refuses_120 52 rfl
theorem dL_refuses_282 : decode cL_refuses 282 = .ok (.aload_n 0, 1) := zd_at zo_cL_refuses_120 53 rfl
theorem dL_refuses_283 : decode cL_refuses 283 = .ok (.bipush 9, 2) := zd_at zo_cL_refuses_120 54 rfl
theorem dL_refuses_285 : decode cL_refuses 285 = .ok (.bipush 100, 2) := zd_at zo_cL_refuses_120 55 rfl
theorem dL_refuses_287 : decode cL_refuses 287 = .ok (.iload_n 1, 1) := zd_at zo_cL_refuses_120 56 rfl
theorem dL_refuses_288 : decode cL_refuses 288 = .ok (.bipush 9, 2) := zd_at zo_cL_refuses_120 57 rfl
theorem dL_refuses_290 : decode cL_refuses 290 = .ok (.irem, 1) := zd_at zo_cL_refuses_120 58 rfl
theorem dL_refuses_291 : decode cL_refuses 291 = .ok (.iadd, 1) := zd_at zo_cL_refuses_120 59 rfl
theorem dL_refuses_292 : decode cL_refuses 292 = .ok (.iconst 0, 1) := zd_at zo_cL_refuses_120 60 rfl
theorem dL_refuses_293 : decode cL_refuses 293 = .ok (.iconst 0, 1) := zd_at zo_cL_refuses_120 61 rfl
theorem dL_refuses_294 : decode cL_refuses 294 = .ok (.invokestatic 126, 3) := zd_at zo_cL_refuses_120 62 rfl
theorem dL_refuses_297 : decode cL_refuses 297 = .ok (.ldc 15, 2) := zd_at zo_cL_refuses_120 63 rfl
theorem dL_refuses_299 : decode cL_refuses 299 = .ok (.if_icmp .ne 52, 3) := zd_at zo_cL_refuses_120 64 rfl
theorem dL_refuses_302 : decode cL_refuses 302 = .ok (.aload_n 0, 1) := zd_at zo_cL_refuses_120 65 rfl
theorem dL_refuses_303 : decode cL_refuses 303 = .ok (.bipush 9, 2) := zd_at zo_cL_refuses_120 66 rfl
theorem dL_refuses_305 : decode cL_refuses 305 = .ok (.iconst 0, 1) := zd_at zo_cL_refuses_120 67 rfl
theorem dL_refuses_306 : decode cL_refuses 306 = .ok (.iconst 0, 1) := zd_at zo_cL_refuses_120 68 rfl
theorem dL_refuses_307 : decode cL_refuses 307 = .ok (.iconst (-1), 1) := zd_at zo_cL_refuses_120 69 rfl
theorem dL_refuses_308 : decode cL_refuses 308 = .ok (.iload_n 1, 1) := zd_at zo_cL_refuses_120 70 rfl
theorem dL_refuses_309 : decode cL_refuses 309 = .ok (.bipush 9, 2) := zd_at zo_cL_refuses_120 71 rfl
theorem dL_refuses_311 : decode cL_refuses 311 = .ok (.irem, 1) := zd_at zo_cL_refuses_120 72 rfl
theorem dL_refuses_312 : decode cL_refuses 312 = .ok (.isub, 1) := zd_at zo_cL_refuses_120 73 rfl
theorem dL_refuses_313 : decode cL_refuses 313 = .ok (.invokestatic 126, 3) := zd_at zo_cL_refuses_120 74 rfl
theorem dL_refuses_316 : decode cL_refuses 316 = .ok (.ldc 15, 2) := zd_at zo_cL_refuses_120 75 rfl
theorem dL_refuses_318 : decode cL_refuses 318 = .ok (.if_icmp .ne 33, 3) := zd_at zo_cL_refuses_120 76 rfl
theorem dL_refuses_321 : decode cL_refuses 321 = .ok (.aload_n 0, 1) := zd_at zo_cL_refuses_120 77 rfl
theorem dL_refuses_322 : decode cL_refuses 322 = .ok (.iconst 1, 1) := zd_at zo_cL_refuses_120 78 rfl
theorem dL_refuses_323 : decode cL_refuses 323 = .ok (.iconst 0, 1) := zd_at zo_cL_refuses_120 79 rfl
theorem dL_refuses_324 : decode cL_refuses 324 = .ok (.iconst 0, 1) := zd_at zo_cL_refuses_120 80 rfl
theorem dL_refuses_325 : decode cL_refuses 325 = .ok (.iconst 0, 1) := zd_at zo_cL_refuses_120 81 rfl
theorem dL_refuses_326 : decode cL_refuses 326 = .ok (.invokestatic 126, 3) := zd_at zo_cL_refuses_120 82 rfl
theorem dL_refuses_329 : decode cL_refuses 329 = .ok (.bipush 24, 2) := zd_at zo_cL_refuses_120 83 rfl
theorem dL_refuses_331 : decode cL_refuses 331 = .ok (.if_icmp .lt 16, 3) := zd_at zo_cL_refuses_120 84 rfl
theorem dL_refuses_334 : decode cL_refuses 334 = .ok (.aload_n 0, 1) := zd_at zo_cL_refuses_120 85 rfl
theorem dL_refuses_335 : decode cL_refuses 335 = .ok (.iconst 0, 1) := zd_at zo_cL_refuses_120 86 rfl
theorem dL_refuses_336 : decode cL_refuses 336 = .ok (.iconst 0, 1) := zd_at zo_cL_refuses_120 87 rfl
theorem dL_refuses_337 : decode cL_refuses 337 = .ok (.iconst 0, 1) := zd_at zo_cL_refuses_120 88 rfl
theorem dL_refuses_338 : decode cL_refuses 338 = .ok (.iconst 0, 1) := zd_at zo_cL_refuses_120 89 rfl
theorem dL_refuses_339 : decode cL_refuses 339 = .ok (.invokestatic 130, 3) := zd_at zo_cL_refuses_120 90 rfl
theorem dL_refuses_342 : decode cL_refuses 342 = .ok (.ldc 18, 2) := zd_at zo_cL_refuses_120 91 rfl
theorem dL_refuses_344 : decode cL_refuses 344 = .ok (.if_icmp .ne 7, 3) := zd_at zo_cL_refuses_120 92 rfl
theorem dL_refuses_347 : decode cL_refuses 347 = .ok (.iconst 1, 1) := zd_at zo_cL_refuses_120 93 rfl
theorem dL_refuses_348 : decode cL_refuses 348 = .ok (.goto 4, 3) := zd_at zo_cL_refuses_120 94 rfl
theorem dL_refuses_351 : decode cL_refuses 351 = .ok (.iconst 0, 1) := zd_at zo_cL_refuses_120 95 rfl
theorem dL_refuses_352 : decode cL_refuses 352 = .ok (.istore_n 3, 1) := zd_at zo_cL_refuses_120 96 rfl
theorem dL_refuses_353 : decode cL_refuses 353 = .ok (.aload_n 0, 1) := zd_at zo_cL_refuses_120 97 rfl
theorem dL_refuses_354 : decode cL_refuses 354 = .ok (.bipush 9, 2) := zd_at zo_cL_refuses_120 98 rfl
theorem dL_refuses_356 : decode cL_refuses 356 = .ok (.iload_n 1, 1) := zd_at zo_cL_refuses_120 99 rfl
theorem dL_refuses_357 : decode cL_refuses 357 = .ok (.bipush 100, 2) := zd_at zo_cL_refuses_120 100 rfl
theorem dL_refuses_359 : decode cL_refuses 359 = .ok (.irem, 1) := zd_at zo_cL_refuses_120 101 rfl
theorem dL_refuses_360 : decode cL_refuses 360 = .ok (.iload_n 1, 1) := zd_at zo_cL_refuses_120 102 rfl
theorem dL_refuses_361 : decode cL_refuses 361 = .ok (.sipush 128, 3) := zd_at zo_cL_refuses_120 103 rfl
theorem dL_refuses_364 : decode cL_refuses 364 = .ok (.idiv, 1) := zd_at zo_cL_refuses_120 104 rfl
theorem dL_refuses_365 : decode cL_refuses 365 = .ok (.bipush 100, 2) := zd_at zo_cL_refuses_120 105 rfl
theorem dL_refuses_367 : decode cL_refuses 367 = .ok (.irem, 1) := zd_at zo_cL_refuses_120 106 rfl
theorem dL_refuses_368 : decode cL_refuses 368 = .ok (.iconst 0, 1) := zd_at zo_cL_refuses_120 107 rfl
theorem dL_refuses_369 : decode cL_refuses 369 = .ok (.invokestatic 126, 3) := zd_at zo_cL_refuses_120 108 rfl
theorem dL_refuses_372 : decode cL_refuses 372 = .ok (.istore 4, 2) := zd_at zo_cL_refuses_120 109 rfl
theorem dL_refuses_374 : decode cL_refuses 374 = .ok (.iload 4, 2) := zd_at zo_cL_refuses_120 110 rfl
theorem dL_refuses_376 : decode cL_refuses 376 = .ok (.ifCond .lt 96, 3) := zd_at zo_cL_refuses_120 111 rfl
theorem dL_refuses_379 : decode cL_refuses 379 = .ok (.iload_n 3, 1) := zd_at zo_cL_refuses_120 112 rfl
theorem dL_refuses_380 : decode cL_refuses 380 = .ok (.ifCond .eq 90, 3) := zd_at zo_cL_refuses_120 113 rfl
theorem dL_refuses_383 : decode cL_refuses 383 = .ok (.aload_n 0, 1) := zd_at zo_cL_refuses_120 114 rfl
theorem dL_refuses_384 : decode cL_refuses 384 = .ok (.iconst 2, 1) := zd_at zo_cL_refuses_120 115 rfl
theorem dL_refuses_385 : decode cL_refuses 385 = .ok (.iload 4, 2) := zd_at zo_cL_refuses_120 116 rfl
theorem dL_refuses_387 : decode cL_refuses 387 = .ok (.iconst 5, 1) := zd_at zo_cL_refuses_120 117 rfl
theorem dL_refuses_388 : decode cL_refuses 388 = .ok (.iload_n 1, 1) := zd_at zo_cL_refuses_120 118 rfl
theorem dL_refuses_389 : decode cL_refuses 389 = .ok (.bipush 9, 2) := zd_at zo_cL_refuses_120 119 rfl
def zl_cL_refuses_240 : List (Nat × Instr × Nat) := [(391, .irem, 1), (392, .iadd, 1), (393, .iconst 0, 1), (394, .invokestatic 126, 3), (397, .ldc 15, 2), (399, .if_icmp .ne 71, 3), (402, .aload_n 0, 1), (403, .bipush 7, 2), (405, .iload 4, 2), (407, .bipush 100, 2), (409, .iload_n 1, 1), (410, .bipush 9, 2), (412, .irem, 1), (413, .iadd, 1), (414, .iconst 0, 1), (415, .invokestatic 126, 3), (418, .ldc 15, 2), (420, .if_icmp .ne 50, 3), (423, .aload_n 0, 1), (424, .bipush 7, 2), (426, .iload 4, 2), (428, .bipush 100, 2), (430, .aload_n 0, 1), (431, .iconst 2, 1), (432, .iload 4, 2), (434, .iconst 2, 1), (435, .iconst 0, 1), (436, .invokestatic 126, 3), (439, .isub, 1), (440, .iconst 0, 1), (441, .invokestatic 126, 3), (444, .aload_n 0, 1), (445, .iconst 2, 1), (446, .iload 4, 2), (448, .iconst 2, 1), (449, .iconst 0, 1), (450, .invokestatic 126, 3), (453, .ifCond .ne 8, 3), (456, .ldc 15, 2), (458, .goto 5, 3), (461, .ldc 18, 2), (463, .if_icmp .ne 7, 3), (466, .iconst 1, 1), (467, .goto 4, 3), (470, .iconst 0, 1), (471, .istore_n 3, 1), (472, .iload_n 3, 1), (473, .ifCond .eq 132, 3), (476, .aload_n 0, 1), (477, .bipush 10, 2), (479, .iconst 2, 1), (480, .iconst 0, 1), (481, .iconst 0, 1), (482, .invokestatic 126, 3), (485, .ldc 52, 2), (487, .if_icmp .ne 118, 3), (490, .aload_n 0, 1), (491, .bipush 11, 2), (493, .iconst (-1), 1), (494, .iconst 0, 1), (495, .iconst 0, 1), (496, .invokestatic 126, 3), (499, .ldc 52, 2), (501, .if_icmp .ne 104, 3), (504, .aload_n 0, 1), (505, .iconst 0, 1), (506, .sipush 256, 3), (509, .iload_n 1, 1), (510, .bipush 9, 2), (512, .irem, 1), (513, .iadd, 1), (514, .iconst 0, 1), (515, .iconst 0, 1), (516, .invokestatic 126, 3), (519, .ldc 15, 2), (521, .if_icmp .ne 84, 3), (524, .aload_n 0, 1), (525, .iconst 3, 1), (526, .lconst 0, 1), (527, .invokestatic 145, 3), (530, .ldc 15, 2), (532, .if_icmp .ne 73, 3), (535, .aload_n 0, 1), (536, .iconst 1, 1), (537, .ldc2_w 149, 3), (540, .iload_n 1, 1), (541, .i2l, 1), (542, .ladd, 1), (543, .invokestatic 145, 3), (546, .ldc 15, 2), (548, .if_icmp .ne 57, 3), (551, .aload_n 0, 1), (552, .iconst 2, 1), (553, .ldc2_w 151, 3), (556, .iload_n 1, 1), (557, .i2l, 1), (558, .lsub, 1), (559, .invokestatic 145, 3), (562, .ldc 15, 2), (564, .if_icmp .ne 41, 3), (567, .aload_n 0, 1), (568, .iload_n 1, 1), (569, .i2l, 1), (570, .bipush 61, 2), (572, .invokestatic 153, 3), (575, .ldc 15, 2), (577, .if_icmp .ne 28, 3), (580, .aload_n 0, 1), (581, .invokevirtual 157, 3), (584, .iconst (-1), 1), (585, .if_icmp .eq 16, 3), (588, .aload_n 0, 1), (589, .iconst 5, 1), (590, .iconst 0, 1), (591, .iconst 0, 1), (592, .iconst 0, 1), (593, .invokestatic 126, 3), (596, .ldc 18, 2), (598, .if_icmp .ne 7, 3), (601, .iconst 1, 1)]
theorem zo_cL_refuses_240 : zd_ok cL_refuses zl_cL_refuses_240 = true := by decide +kernel
theorem dL_refuses_391 : decode cL_refuses 391 = .ok (.irem, 1) := zd_at zo_cL_refuses_240 0 rfl
theorem dL_refuses_392 : decode cL_refuses 392 = .ok (.iadd, 1) := zd_at zo_cL_refuses_240 1 rfl
theorem dL_refuses_393 : decode cL_refuses 393 = .ok (.iconst 0, 1) := zd_at zo_cL_refuses_240 2 rfl
theorem dL_refuses_394 : decode cL_refuses 394 = .ok (.invokestatic 126, 3) := zd_at zo_cL_refuses_240 3 rfl
theorem dL_refuses_397 : decode cL_refuses 397 = .ok (.ldc 15, 2) := zd_at zo_cL_refuses_240 4 rfl
theorem dL_refuses_399 : decode cL_refuses 399 = .ok (.if_icmp .ne 71, 3) := zd_at zo_cL_refuses_240 5 rfl
theorem dL_refuses_402 : decode cL_refuses 402 = .ok (.aload_n 0, 1) := zd_at zo_cL_refuses_240 6 rfl
theorem dL_refuses_403 : decode cL_refuses 403 = .ok (.bipush 7, 2) := zd_at zo_cL_refuses_240 7 rfl
theorem dL_refuses_405 : decode cL_refuses 405 = .ok (.iload 4, 2) := zd_at zo_cL_refuses_240 8 rfl
theorem dL_refuses_407 : decode cL_refuses 407 = .ok (.bipush 100, 2) := zd_at zo_cL_refuses_240 9 rfl
theorem dL_refuses_409 : decode cL_refuses 409 = .ok (.iload_n 1, 1) := zd_at zo_cL_refuses_240 10 rfl
theorem dL_refuses_410 : decode cL_refuses 410 = .ok (.bipush 9, 2) := zd_at zo_cL_refuses_240 11 rfl
theorem dL_refuses_412 : decode cL_refuses 412 = .ok (.irem, 1) := zd_at zo_cL_refuses_240 12 rfl
theorem dL_refuses_413 : decode cL_refuses 413 = .ok (.iadd, 1) := zd_at zo_cL_refuses_240 13 rfl
theorem dL_refuses_414 : decode cL_refuses 414 = .ok (.iconst 0, 1) := zd_at zo_cL_refuses_240 14 rfl
theorem dL_refuses_415 : decode cL_refuses 415 = .ok (.invokestatic 126, 3) := zd_at zo_cL_refuses_240 15 rfl
theorem dL_refuses_418 : decode cL_refuses 418 = .ok (.ldc 15, 2) := zd_at zo_cL_refuses_240 16 rfl
theorem dL_refuses_420 : decode cL_refuses 420 = .ok (.if_icmp .ne 50, 3) := zd_at zo_cL_refuses_240 17 rfl
theorem dL_refuses_423 : decode cL_refuses 423 = .ok (.aload_n 0, 1) := zd_at zo_cL_refuses_240 18 rfl
theorem dL_refuses_424 : decode cL_refuses 424 = .ok (.bipush 7, 2) := zd_at zo_cL_refuses_240 19 rfl
theorem dL_refuses_426 : decode cL_refuses 426 = .ok (.iload 4, 2) := zd_at zo_cL_refuses_240 20 rfl
theorem dL_refuses_428 : decode cL_refuses 428 = .ok (.bipush 100, 2) := zd_at zo_cL_refuses_240 21 rfl
theorem dL_refuses_430 : decode cL_refuses 430 = .ok (.aload_n 0, 1) := zd_at zo_cL_refuses_240 22 rfl
theorem dL_refuses_431 : decode cL_refuses 431 = .ok (.iconst 2, 1) := zd_at zo_cL_refuses_240 23 rfl
theorem dL_refuses_432 : decode cL_refuses 432 = .ok (.iload 4, 2) := zd_at zo_cL_refuses_240 24 rfl
theorem dL_refuses_434 : decode cL_refuses 434 = .ok (.iconst 2, 1) := zd_at zo_cL_refuses_240 25 rfl
theorem dL_refuses_435 : decode cL_refuses 435 = .ok (.iconst 0, 1) := zd_at zo_cL_refuses_240 26 rfl
theorem dL_refuses_436 : decode cL_refuses 436 = .ok (.invokestatic 126, 3) := zd_at zo_cL_refuses_240 27 rfl
theorem dL_refuses_439 : decode cL_refuses 439 = .ok (.isub, 1) := zd_at zo_cL_refuses_240 28 rfl
theorem dL_refuses_440 : decode cL_refuses 440 = .ok (.iconst 0, 1) := zd_at zo_cL_refuses_240 29 rfl
theorem dL_refuses_441 : decode cL_refuses 441 = .ok (.invokestatic 126, 3) := zd_at zo_cL_refuses_240 30 rfl
theorem dL_refuses_444 : decode cL_refuses 444 = .ok (.aload_n 0, 1) := zd_at zo_cL_refuses_240 31 rfl
theorem dL_refuses_445 : decode cL_refuses 445 = .ok (.iconst 2, 1) := zd_at zo_cL_refuses_240 32 rfl
theorem dL_refuses_446 : decode cL_refuses 446 = .ok (.iload 4, 2) := zd_at zo_cL_refuses_240 33 rfl
theorem dL_refuses_448 : decode cL_refuses 448 = .ok (.iconst 2, 1) := zd_at zo_cL_refuses_240 34 rfl
theorem dL_refuses_449 : decode cL_refuses 449 = .ok (.iconst 0, 1) := zd_at zo_cL_refuses_240 35 rfl
theorem dL_refuses_450 : decode cL_refuses 450 = .ok (.invokestatic 126, 3) := zd_at zo_cL_refuses_240 36 rfl
theorem dL_refuses_453 : decode cL_refuses 453 = .ok (.ifCond .ne 8, 3) := zd_at zo_cL_refuses_240 37 rfl
theorem dL_refuses_456 : decode cL_refuses 456 = .ok (.ldc 15, 2) := zd_at zo_cL_refuses_240 38 rfl
theorem dL_refuses_458 : decode cL_refuses 458 = .ok (.goto 5, 3) := zd_at zo_cL_refuses_240 39 rfl
theorem dL_refuses_461 : decode cL_refuses 461 = .ok (.ldc 18, 2) := zd_at zo_cL_refuses_240 40 rfl
theorem dL_refuses_463 : decode cL_refuses 463 = .ok (.if_icmp .ne 7, 3) := zd_at zo_cL_refuses_240 41 rfl
theorem dL_refuses_466 : decode cL_refuses 466 = .ok (.iconst 1, 1) := zd_at zo_cL_refuses_240 42 rfl
theorem dL_refuses_467 : decode cL_refuses 467 = .ok (.goto 4, 3) := zd_at zo_cL_refuses_240 43 rfl
theorem dL_refuses_470 : decode cL_refuses 470 = .ok (.iconst 0, 1) := zd_at zo_cL_refuses_240 44 rfl
theorem dL_refuses_471 : decode cL_refuses 471 = .ok (.istore_n 3, 1) := zd_at zo_cL_refuses_240 45 rfl
theorem dL_refuses_472 : decode cL_refuses 472 = .ok (.iload_n 3, 1) := zd_at zo_cL_refuses_240 46 rfl
theorem dL_refuses_473 : decode cL_refuses 473 = .ok (.ifCond .eq 132, 3) := zd_at zo_cL_refuses_240 47 rfl
theorem dL_refuses_476 : decode cL_refuses 476 = .ok (.aload_n 0, 1) := zd_at zo_cL_refuses_240 48 rfl
theorem dL_refuses_477 : decode cL_refuses 477 = .ok (.bipush 10, 2) := zd_at zo_cL_refuses_240 49 rfl
theorem dL_refuses_479 : decode cL_refuses 479 = .ok (.iconst 2, 1) := zd_at zo_cL_refuses_240 50 rfl
theorem dL_refuses_480 : decode cL_refuses 480 = .ok (.iconst 0, 1) := zd_at zo_cL_refuses_240 51 rfl
theorem dL_refuses_481 : decode cL_refuses 481 = .ok (.iconst 0, 1) := zd_at zo_cL_refuses_240 52 rfl
theorem dL_refuses_482 : decode cL_refuses 482 = .ok (.invokestatic 126, 3) := zd_at zo_cL_refuses_240 53 rfl
theorem dL_refuses_485 : decode cL_refuses 485 = .ok (.ldc 52, 2) := zd_at zo_cL_refuses_240 54 rfl
theorem dL_refuses_487 : decode cL_refuses 487 = .ok (.if_icmp .ne 118, 3) := zd_at zo_cL_refuses_240 55 rfl
theorem dL_refuses_490 : decode cL_refuses 490 = .ok (.aload_n 0, 1) := zd_at zo_cL_refuses_240 56 rfl
theorem dL_refuses_491 : decode cL_refuses 491 = .ok (.bipush 11, 2) := zd_at zo_cL_refuses_240 57 rfl
theorem dL_refuses_493 : decode cL_refuses 493 = .ok (.iconst (-1), 1) := zd_at zo_cL_refuses_240 58 rfl
theorem dL_refuses_494 : decode cL_refuses 494 = .ok (.iconst 0, 1) := zd_at zo_cL_refuses_240 59 rfl
theorem dL_refuses_495 : decode cL_refuses 495 = .ok (.iconst 0, 1) := zd_at zo_cL_refuses_240 60 rfl
theorem dL_refuses_496 : decode cL_refuses 496 = .ok (.invokestatic 126, 3) := zd_at zo_cL_refuses_240 61 rfl
theorem dL_refuses_499 : decode cL_refuses 499 = .ok (.ldc 52, 2) := zd_at zo_cL_refuses_240 62 rfl
theorem dL_refuses_501 : decode cL_refuses 501 = .ok (.if_icmp .ne 104, 3) := zd_at zo_cL_refuses_240 63 rfl
theorem dL_refuses_504 : decode cL_refuses 504 = .ok (.aload_n 0, 1) := zd_at zo_cL_refuses_240 64 rfl
theorem dL_refuses_505 : decode cL_refuses 505 = .ok (.iconst 0, 1) := zd_at zo_cL_refuses_240 65 rfl
theorem dL_refuses_506 : decode cL_refuses 506 = .ok (.sipush 256, 3) := zd_at zo_cL_refuses_240 66 rfl
theorem dL_refuses_509 : decode cL_refuses 509 = .ok (.iload_n 1, 1) := zd_at zo_cL_refuses_240 67 rfl
theorem dL_refuses_510 : decode cL_refuses 510 = .ok (.bipush 9, 2) := zd_at zo_cL_refuses_240 68 rfl
theorem dL_refuses_512 : decode cL_refuses 512 = .ok (.irem, 1) := zd_at zo_cL_refuses_240 69 rfl
theorem dL_refuses_513 : decode cL_refuses 513 = .ok (.iadd, 1) := zd_at zo_cL_refuses_240 70 rfl
theorem dL_refuses_514 : decode cL_refuses 514 = .ok (.iconst 0, 1) := zd_at zo_cL_refuses_240 71 rfl
theorem dL_refuses_515 : decode cL_refuses 515 = .ok (.iconst 0, 1) := zd_at zo_cL_refuses_240 72 rfl
theorem dL_refuses_516 : decode cL_refuses 516 = .ok (.invokestatic 126, 3) := zd_at zo_cL_refuses_240 73 rfl
theorem dL_refuses_519 : decode cL_refuses 519 = .ok (.ldc 15, 2) := zd_at zo_cL_refuses_240 74 rfl
theorem dL_refuses_521 : decode cL_refuses 521 = .ok (.if_icmp .ne 84, 3) := zd_at zo_cL_refuses_240 75 rfl
theorem dL_refuses_524 : decode cL_refuses 524 = .ok (.aload_n 0, 1) := zd_at zo_cL_refuses_240 76 rfl
theorem dL_refuses_525 : decode cL_refuses 525 = .ok (.iconst 3, 1) := zd_at zo_cL_refuses_240 77 rfl
theorem dL_refuses_526 : decode cL_refuses 526 = .ok (.lconst 0, 1) := zd_at zo_cL_refuses_240 78 rfl
theorem dL_refuses_527 : decode cL_refuses 527 = .ok (.invokestatic 145, 3) := zd_at zo_cL_refuses_240 79 rfl
theorem dL_refuses_530 : decode cL_refuses 530 = .ok (.ldc 15, 2) := zd_at zo_cL_refuses_240 80 rfl
theorem dL_refuses_532 : decode cL_refuses 532 = .ok (.if_icmp .ne 73, 3) := zd_at zo_cL_refuses_240 81 rfl
theorem dL_refuses_535 : decode cL_refuses 535 = .ok (.aload_n 0, 1) := zd_at zo_cL_refuses_240 82 rfl
theorem dL_refuses_536 : decode cL_refuses 536 = .ok (.iconst 1, 1) := zd_at zo_cL_refuses_240 83 rfl
theorem dL_refuses_537 : decode cL_refuses 537 = .ok (.ldc2_w 149, 3) := zd_at zo_cL_refuses_240 84 rfl
theorem dL_refuses_540 : decode cL_refuses 540 = .ok (.iload_n 1, 1) := zd_at zo_cL_refuses_240 85 rfl
theorem dL_refuses_541 : decode cL_refuses 541 = .ok (.i2l, 1) := zd_at zo_cL_refuses_240 86 rfl
theorem dL_refuses_542 : decode cL_refuses 542 = .ok (.ladd, 1) := zd_at zo_cL_refuses_240 87 rfl
theorem dL_refuses_543 : decode cL_refuses 543 = .ok (.invokestatic 145, 3) := zd_at zo_cL_refuses_240 88 rfl
theorem dL_refuses_546 : decode cL_refuses 546 = .ok (.ldc 15, 2) := zd_at zo_cL_refuses_240 89 rfl
theorem dL_refuses_548 : decode cL_refuses 548 = .ok (.if_icmp .ne 57, 3) := zd_at zo_cL_refuses_240 90 rfl
theorem dL_refuses_551 : decode cL_refuses 551 = .ok (.aload_n 0, 1) := zd_at zo_cL_refuses_240 91 rfl
theorem dL_refuses_552 : decode cL_refuses 552 = .ok (.iconst 2, 1) := zd_at zo_cL_refuses_240 92 rfl
theorem dL_refuses_553 : decode cL_refuses 553 = .ok (.ldc2_w 151, 3) := zd_at zo_cL_refuses_240 93 rfl
theorem dL_refuses_556 : decode cL_refuses 556 = .ok (.iload_n 1, 1) := zd_at zo_cL_refuses_240 94 rfl
theorem dL_refuses_557 : decode cL_refuses 557 = .ok (.i2l, 1) := zd_at zo_cL_refuses_240 95 rfl
theorem dL_refuses_558 : decode cL_refuses 558 = .ok (.lsub, 1) := zd_at zo_cL_refuses_240 96 rfl
theorem dL_refuses_559 : decode cL_refuses 559 = .ok (.invokestatic 145, 3) := zd_at zo_cL_refuses_240 97 rfl
theorem dL_refuses_562 : decode cL_refuses 562 = .ok (.ldc 15, 2) := zd_at zo_cL_refuses_240 98 rfl
theorem dL_refuses_564 : decode cL_refuses 564 = .ok (.if_icmp .ne 41, 3) := zd_at zo_cL_refuses_240 99 rfl
theorem dL_refuses_567 : decode cL_refuses 567 = .ok (.aload_n 0, 1) := zd_at zo_cL_refuses_240 100 rfl
theorem dL_refuses_568 : decode cL_refuses 568 = .ok (.iload_n 1, 1) := zd_at zo_cL_refuses_240 101 rfl
theorem dL_refuses_569 : decode cL_refuses 569 = .ok (.i2l, 1) := zd_at zo_cL_refuses_240 102 rfl
theorem dL_refuses_570 : decode cL_refuses 570 = .ok (.bipush 61, 2) := zd_at zo_cL_refuses_240 103 rfl
theorem dL_refuses_572 : decode cL_refuses 572 = .ok (.invokestatic 153, 3) := zd_at zo_cL_refuses_240 104 rfl
theorem dL_refuses_575 : decode cL_refuses 575 = .ok (.ldc 15, 2) := zd_at zo_cL_refuses_240 105 rfl
theorem dL_refuses_577 : decode cL_refuses 577 = .ok (.if_icmp .ne 28, 3) := zd_at zo_cL_refuses_240 106 rfl
theorem dL_refuses_580 : decode cL_refuses 580 = .ok (.aload_n 0, 1) := zd_at zo_cL_refuses_240 107 rfl
theorem dL_refuses_581 : decode cL_refuses 581 = .ok (.invokevirtual 157, 3) := zd_at zo_cL_refuses_240 108 rfl
theorem dL_refuses_584 : decode cL_refuses 584 = .ok (.iconst (-1), 1) := zd_at zo_cL_refuses_240 109 rfl
theorem dL_refuses_585 : decode cL_refuses 585 = .ok (.if_icmp .eq 16, 3) := zd_at zo_cL_refuses_240 110 rfl
theorem dL_refuses_588 : decode cL_refuses 588 = .ok (.aload_n 0, 1) := zd_at zo_cL_refuses_240 111 rfl
theorem dL_refuses_589 : decode cL_refuses 589 = .ok (.iconst 5, 1) := zd_at zo_cL_refuses_240 112 rfl
theorem dL_refuses_590 : decode cL_refuses 590 = .ok (.iconst 0, 1) := zd_at zo_cL_refuses_240 113 rfl
theorem dL_refuses_591 : decode cL_refuses 591 = .ok (.iconst 0, 1) := zd_at zo_cL_refuses_240 114 rfl
theorem dL_refuses_592 : decode cL_refuses 592 = .ok (.iconst 0, 1) := zd_at zo_cL_refuses_240 115 rfl
theorem dL_refuses_593 : decode cL_refuses 593 = .ok (.invokestatic 126, 3) := zd_at zo_cL_refuses_240 116 rfl
theorem dL_refuses_596 : decode cL_refuses 596 = .ok (.ldc 18, 2) := zd_at zo_cL_refuses_240 117 rfl
theorem dL_refuses_598 : decode cL_refuses 598 = .ok (.if_icmp .ne 7, 3) := zd_at zo_cL_refuses_240 118 rfl
theorem dL_refuses_601 : decode cL_refuses 601 = .ok (.iconst 1, 1) := zd_at zo_cL_refuses_240 119 rfl
def zl_cL_refuses_360 : List (Nat × Instr × Nat) := [(602, .goto 4, 3), (605, .iconst 0, 1), (606, .ireturn, 1)]
theorem zo_cL_refuses_360 : zd_ok cL_refuses zl_cL_refuses_360 = true := by decide +kernel
theorem dL_refuses_602 : decode cL_refuses 602 = .ok (.goto 4, 3) := zd_at zo_cL_refuses_360 0 rfl
theorem dL_refuses_605 : decode cL_refuses 605 = .ok (.iconst 0, 1) := zd_at zo_cL_refuses_360 1 rfl
theorem dL_refuses_606 : decode cL_refuses 606 = .ok (.ireturn, 1) := zd_at zo_cL_refuses_360 2 rfl
def zl_cL_alike_0 : List (Nat × Instr × Nat) := [(0, .aload_n 0, 1), (1, .invokevirtual 157, 3), (4, .aload_n 1, 1), (5, .invokevirtual 157, 3), (8, .if_icmp .ne 7, 3), (11, .iconst 1, 1), (12, .goto 4, 3), (15, .iconst 0, 1), (16, .istore_n 3, 1), (17, .iconst 0, 1), (18, .istore 4, 2), (20, .iload 4, 2), (22, .bipush 8, 2), (24, .if_icmp .ge 40, 3), (27, .iload_n 3, 1), (28, .ifCond .eq 36, 3), (31, .aload_n 0, 1), (32, .iconst 1, 1), (33, .iload 4, 2), (35, .iconst 0, 1), (36, .iconst 0, 1), (37, .invokestatic 126, 3), (40, .aload_n 1, 1), (41, .iconst 1, 1), (42, .iload 4, 2), (44, .iconst 0, 1), (45, .iconst 0, 1), (46, .invokestatic 126, 3), (49, .if_icmp .ne 7, 3), (52, .iconst 1, 1), (53, .goto 4, 3), (56, .iconst 0, 1), (57, .istore_n 3, 1), (58, .iinc 4 1, 3), (61, .goto (-41), 3), (64, .iconst 0, 1), (65, .istore 4, 2), (67, .iload 4, 2), (69, .aload_n 0, 1), (70, .iconst 1, 1), (71, .iconst 1, 1), (72, .iconst 0, 1), (73, .iconst 0, 1), (74, .invokestatic 126, 3), (77, .if_icmp .ge 115, 3), (80, .iload_n 3, 1), (81, .ifCond .eq 111, 3), (84, .aload_n 0, 1), (85, .iconst 3, 1), (86, .iload 4, 2), (88, .iload_n 2, 1), (89, .bipush 7, 2), (91, .irem, 1), (92, .iconst 0, 1), (93, .invokestatic 126, 3), (96, .aload_n 1, 1), (97, .iconst 3, 1), (98, .iload 4, 2), (100, .iload_n 2, 1), (101, .bipush 7, 2), (103, .irem, 1), (104, .iconst 0, 1), (105, .invokestatic 126, 3), (108, .if_icmp .ne 28, 3), (111, .aload_n 0, 1), (112, .iconst 3, 1), (113, .iload 4, 2), (115, .iconst 1, 1), (116, .iconst 0, 1), (117, .invokestatic 126, 3), (120, .aload_n 1, 1), (121, .iconst 3, 1), (122, .iload 4, 2), (124, .iconst 1, 1), (125, .iconst 0, 1), (126, .invokestatic 126, 3), (129, .if_icmp .ne 7, 3), (132, .iconst 1, 1), (133, .goto 4, 3), (136, .iconst 0, 1), (137, .istore_n 3, 1), (138, .iconst 0, 1), (139, .istore 5, 2), (141, .iload 5, 2), (143, .iconst 4, 1), (144, .if_icmp .ge 42, 3), (147, .iload_n 3, 1), (148, .ifCond .eq 38, 3), (151, .aload_n 0, 1), (152, .iconst 4, 1), (153, .iload 4, 2), (155, .iload 5, 2), (157, .iconst 0, 1), (158, .invokestatic 126, 3), (161, .aload_n 1, 1), (162, .iconst 4, 1), (163, .iload 4, 2), (165, .iload 5, 2), (167, .iconst 0, 1), (168, .invokestatic 126, 3), (171, .if_icmp .ne 7, 3), (174, .iconst 1, 1), (175, .goto 4, 3), (178, .iconst 0, 1), (179, .istore_n 3, 1), (180, .iinc 5 1, 3), (183, .goto (-42), 3), (186, .iinc 4 1, 3), (189, .goto (-122), 3), (192, .iconst 0, 1), (193, .istore 4, 2), (195, .iload 4, 2), (197, .bipush 24, 2), (199, .if_icmp .ge 44, 3), (202, .iload_n 3, 1), (203, .ifCond .eq 40, 3), (206, .aload_n 0, 1), (207, .iconst 2, 1), (208, .iload 4, 2), (210, .iload_n 2, 1)]
theorem zo_cL_alike_0 : zd_ok cL_alike zl_cL_alike_0 = true := by decide +kernel
theorem dL_alike_0 : decode cL_alike 0 = .ok (.aload_n 0, 1) := zd_at zo_cL_alike_0 0 rfl
theorem dL_alike_1 : decode cL_alike 1 = .ok (.invokevirtual 157, 3) := zd_at zo_cL_alike_0 1 rfl
theorem dL_alike_4 : decode cL_alike 4 = .ok (.aload_n 1, 1) := zd_at zo_cL_alike_0 2 rfl
theorem dL_alike_5 : decode cL_alike 5 = .ok (.invokevirtual 157, 3) := zd_at zo_cL_alike_0 3 rfl
theorem dL_alike_8 : decode cL_alike 8 = .ok (.if_icmp .ne 7, 3) := zd_at zo_cL_alike_0 4 rfl
theorem dL_alike_11 : decode cL_alike 11 = .ok (.iconst 1, 1) := zd_at zo_cL_alike_0 5 rfl
theorem dL_alike_12 : decode cL_alike 12 = .ok (.goto 4, 3) := zd_at zo_cL_alike_0 6 rfl
theorem dL_alike_15 : decode cL_alike 15 = .ok (.iconst 0, 1) := zd_at zo_cL_alike_0 7 rfl
theorem dL_alike_16 : decode cL_alike 16 = .ok (.istore_n 3, 1) := zd_at zo_cL_alike_0 8 rfl
theorem dL_alike_17 : decode cL_alike 17 = .ok (.iconst 0, 1) := zd_at zo_cL_alike_0 9 rfl
theorem dL_alike_18 : decode cL_alike 18 = .ok (.istore 4, 2) := zd_at zo_cL_alike_0 10 rfl
theorem dL_alike_20 : decode cL_alike 20 = .ok (.iload 4, 2) := zd_at zo_cL_alike_0 11 rfl
theorem dL_alike_22 : decode cL_alike 22 = .ok (.bipush 8, 2) := zd_at zo_cL_alike_0 12 rfl
theorem dL_alike_24 : decode cL_alike 24 = .ok (.if_icmp .ge 40, 3) := zd_at zo_cL_alike_0 13 rfl
theorem dL_alike_27 : decode cL_alike 27 = .ok (.iload_n 3, 1) := zd_at zo_cL_alike_0 14 rfl
theorem dL_alike_28 : decode cL_alike 28 = .ok (.ifCond .eq 36, 3) := zd_at zo_cL_alike_0 15 rfl
theorem dL_alike_31 : decode cL_alike 31 = .ok (.aload_n 0, 1) := zd_at zo_cL_alike_0 16 rfl
theorem dL_alike_32 : decode cL_alike 32 = .ok (.iconst 1, 1) := zd_at zo_cL_alike_0 17 rfl
theorem dL_alike_33 : decode cL_alike 33 = .ok (.iload 4, 2) := zd_at zo_cL_alike_0 18 rfl
theorem dL_alike_35 : decode cL_alike 35 = .ok (.iconst 0, 1) := zd_at zo_cL_alike_0 19 rfl
theorem dL_alike_36 : decode cL_alike 36 = .ok (.iconst 0, 1) := zd_at zo_cL_alike_0 20 rfl
theorem dL_alike_37 : decode cL_alike 37 = .ok (.invokestatic 126, 3) := zd_at zo_cL_alike_0 21 rfl
theorem dL_alike_40 : decode cL_alike 40 = .ok (.aload_n 1, 1) := zd_at zo_cL_alike_0 22 rfl
theorem dL_alike_41 : decode cL_alike 41 = .ok (.iconst 1, 1) := zd_at zo_cL_alike_0 23 rfl
theorem dL_alike_42 : decode cL_alike 42 = .ok (.iload 4, 2) := zd_at zo_cL_alike_0 24 rfl
theorem dL_alike_44 : decode cL_alike 44 = .ok (.iconst 0, 1) := zd_at zo_cL_alike_0 25 rfl
theorem dL_alike_45 : decode cL_alike 45 = .ok (.iconst 0, 1) := zd_at zo_cL_alike_0 26 rfl
theorem dL_alike_46 : decode cL_alike 46 = .ok (.invokestatic 126, 3) := zd_at zo_cL_alike_0 27 rfl
theorem dL_alike_49 : decode cL_alike 49 = .ok (.if_icmp .ne 7, 3) := zd_at zo_cL_alike_0 28 rfl
theorem dL_alike_52 : decode cL_alike 52 = .ok (.iconst 1, 1) := zd_at zo_cL_alike_0 29 rfl
theorem dL_alike_53 : decode cL_alike 53 = .ok (.goto 4, 3) := zd_at zo_cL_alike_0 30 rfl
theorem dL_alike_56 : decode cL_alike 56 = .ok (.iconst 0, 1) := zd_at zo_cL_alike_0 31 rfl
theorem dL_alike_57 : decode cL_alike 57 = .ok (.istore_n 3, 1) := zd_at zo_cL_alike_0 32 rfl
theorem dL_alike_58 : decode cL_alike 58 = .ok (.iinc 4 1, 3) := zd_at zo_cL_alike_0 33 rfl
theorem dL_alike_61 : decode cL_alike 61 = .ok (.goto (-41), 3) := zd_at zo_cL_alike_0 34 rfl
theorem dL_alike_64 : decode cL_alike 64 = .ok (.iconst 0, 1) := zd_at zo_cL_alike_0 35 rfl
theorem dL_alike_65 : decode cL_alike 65 = .ok (.istore 4, 2) := zd_at zo_cL_alike_0 36 rfl
theorem dL_alike_67 : decode cL_alike 67 = .ok (.iload 4, 2) := zd_at zo_cL_alike_0 37 rfl
theorem dL_alike_69 : decode cL_alike 69 = .ok (.aload_n 0, 1) := zd_at zo_cL_alike_0 38 rfl
theorem dL_alike_70 : decode cL_alike 70 = .ok (.iconst 1, 1) := zd_at zo_cL_alike_0 39 rfl
theorem dL_alike_71 : decode cL_alike 71 = .ok (.iconst 1, 1) := zd_at zo_cL_alike_0 40 rfl
theorem dL_alike_72 : decode cL_alike 72 = .ok (.iconst 0, 1) := zd_at zo_cL_alike_0 41 rfl
theorem dL_alike_73 : decode cL_alike 73 = .ok (.iconst 0, 1) := zd_at zo_cL_alike_0 42 rfl
theorem dL_alike_74 : decode cL_alike 74 = .ok (.invokestatic 126, 3) := zd_at zo_cL_alike_0 43 rfl
theorem dL_alike_77 : decode cL_alike 77 = .ok (.if_icmp .ge 115, 3) := zd_at zo_cL_alike_0 44 rfl
theorem dL_alike_80 : decode cL_alike 80 = .ok (.iload_n 3, 1) := zd_at zo_cL_alike_0 45 rfl
theorem dL_alike_81 : decode cL_alike 81 = .ok (.ifCond .eq 111, 3) := zd_at zo_cL_alike_0 46 rfl
theorem dL_alike_84 : decode cL_alike 84 = .ok (.aload_n 0, 1) := zd_at zo_cL_alike_0 47 rfl
theorem dL_alike_85 : decode cL_alike 85 = .ok (.iconst 3, 1) := zd_at zo_cL_alike_0 48 rfl
theorem dL_alike_86 : decode cL_alike 86 = .ok (.iload 4, 2) := zd_at zo_cL_alike_0 49 rfl
theorem dL_alike_88 : decode cL_alike 88 = .ok (.iload_n 2, 1) := zd_at zo_cL_alike_0 50 rfl
theorem dL_alike_89 : decode cL_alike 89 = .ok (.bipush 7, 2) := zd_at zo_cL_alike_0 51 rfl
theorem dL_alike_91 : decode cL_alike 91 = .ok (.irem, 1) := zd_at zo_cL_alike_0 52 rfl
theorem dL_alike_92 : decode cL_alike 92 = .ok (.iconst 0, 1) := zd_at zo_cL_alike_0 53 rfl
theorem dL_alike_93 : decode cL_alike 93 = .ok (.invokestatic 126, 3) := zd_at zo_cL_alike_0 54 rfl
theorem dL_alike_96 : decode cL_alike 96 = .ok (.aload_n 1, 1) := zd_at zo_cL_alike_0 55 rfl
theorem dL_alike_97 : decode cL_alike 97 = .ok (.iconst 3, 1) := zd_at zo_cL_alike_0 56 rfl
theorem dL_alike_98 : decode cL_alike 98 = .ok (.iload 4, 2) := zd_at zo_cL_alike_0 57 rfl
theorem dL_alike_100 : decode cL_alike 100 = .ok (.iload_n 2, 1) := zd_at zo_cL_alike_0 58 rfl
theorem dL_alike_101 : decode cL_alike 101 = .ok (.bipush 7, 2) := zd_at zo_cL_alike_0 59 rfl
theorem dL_alike_103 : decode cL_alike 103 = .ok (.irem, 1) := zd_at zo_cL_alike_0 60 rfl
theorem dL_alike_104 : decode cL_alike 104 = .ok (.iconst 0, 1) := zd_at zo_cL_alike_0 61 rfl
theorem dL_alike_105 : decode cL_alike 105 = .ok (.invokestatic 126, 3) := zd_at zo_cL_alike_0 62 rfl
theorem dL_alike_108 : decode cL_alike 108 = .ok (.if_icmp .ne 28, 3) := zd_at zo_cL_alike_0 63 rfl
theorem dL_alike_111 : decode cL_alike 111 = .ok (.aload_n 0, 1) := zd_at zo_cL_alike_0 64 rfl
theorem dL_alike_112 : decode cL_alike 112 = .ok (.iconst 3, 1) := zd_at zo_cL_alike_0 65 rfl
theorem dL_alike_113 : decode cL_alike 113 = .ok (.iload 4, 2) := zd_at zo_cL_alike_0 66 rfl
theorem dL_alike_115 : decode cL_alike 115 = .ok (.iconst 1, 1) := zd_at zo_cL_alike_0 67 rfl
theorem dL_alike_116 : decode cL_alike 116 = .ok (.iconst 0, 1) := zd_at zo_cL_alike_0 68 rfl
theorem dL_alike_117 : decode cL_alike 117 = .ok (.invokestatic 126, 3) := zd_at zo_cL_alike_0 69 rfl
theorem dL_alike_120 : decode cL_alike 120 = .ok (.aload_n 1, 1) := zd_at zo_cL_alike_0 70 rfl
theorem dL_alike_121 : decode cL_alike 121 = .ok (.iconst 3, 1) := zd_at zo_cL_alike_0 71 rfl
theorem dL_alike_122 : decode cL_alike 122 = .ok (.iload 4, 2) := zd_at zo_cL_alike_0 72 rfl
theorem dL_alike_124 : decode cL_alike 124 = .ok (.iconst 1, 1) := zd_at zo_cL_alike_0 73 rfl
theorem dL_alike_125 : decode cL_alike 125 = .ok (.iconst 0, 1) := zd_at zo_cL_alike_0 74 rfl
theorem dL_alike_126 : decode cL_alike 126 = .ok (.invokestatic 126, 3) := zd_at zo_cL_alike_0 75 rfl
theorem dL_alike_129 : decode cL_alike 129 = .ok (.if_icmp .ne 7, 3) := zd_at zo_cL_alike_0 76 rfl
theorem dL_alike_132 : decode cL_alike 132 = .ok (.iconst 1, 1) := zd_at zo_cL_alike_0 77 rfl
theorem dL_alike_133 : decode cL_alike 133 = .ok (.goto 4, 3) := zd_at zo_cL_alike_0 78 rfl
theorem dL_alike_136 : decode cL_alike 136 = .ok (.iconst 0, 1) := zd_at zo_cL_alike_0 79 rfl
theorem dL_alike_137 : decode cL_alike 137 = .ok (.istore_n 3, 1) := zd_at zo_cL_alike_0 80 rfl
theorem dL_alike_138 : decode cL_alike 138 = .ok (.iconst 0, 1) := zd_at zo_cL_alike_0 81 rfl
theorem dL_alike_139 : decode cL_alike 139 = .ok (.istore 5, 2) := zd_at zo_cL_alike_0 82 rfl
theorem dL_alike_141 : decode cL_alike 141 = .ok (.iload 5, 2) := zd_at zo_cL_alike_0 83 rfl
theorem dL_alike_143 : decode cL_alike 143 = .ok (.iconst 4, 1) := zd_at zo_cL_alike_0 84 rfl
theorem dL_alike_144 : decode cL_alike 144 = .ok (.if_icmp .ge 42, 3) := zd_at zo_cL_alike_0 85 rfl
theorem dL_alike_147 : decode cL_alike 147 = .ok (.iload_n 3, 1) := zd_at zo_cL_alike_0 86 rfl
theorem dL_alike_148 : decode cL_alike 148 = .ok (.ifCond .eq 38, 3) := zd_at zo_cL_alike_0 87 rfl
theorem dL_alike_151 : decode cL_alike 151 = .ok (.aload_n 0, 1) := zd_at zo_cL_alike_0 88 rfl
theorem dL_alike_152 : decode cL_alike 152 = .ok (.iconst 4, 1) := zd_at zo_cL_alike_0 89 rfl
theorem dL_alike_153 : decode cL_alike 153 = .ok (.iload 4, 2) := zd_at zo_cL_alike_0 90 rfl
theorem dL_alike_155 : decode cL_alike 155 = .ok (.iload 5, 2) := zd_at zo_cL_alike_0 91 rfl
theorem dL_alike_157 : decode cL_alike 157 = .ok (.iconst 0, 1) := zd_at zo_cL_alike_0 92 rfl
theorem dL_alike_158 : decode cL_alike 158 = .ok (.invokestatic 126, 3) := zd_at zo_cL_alike_0 93 rfl
theorem dL_alike_161 : decode cL_alike 161 = .ok (.aload_n 1, 1) := zd_at zo_cL_alike_0 94 rfl
theorem dL_alike_162 : decode cL_alike 162 = .ok (.iconst 4, 1) := zd_at zo_cL_alike_0 95 rfl
theorem dL_alike_163 : decode cL_alike 163 = .ok (.iload 4, 2) := zd_at zo_cL_alike_0 96 rfl
theorem dL_alike_165 : decode cL_alike 165 = .ok (.iload 5, 2) := zd_at zo_cL_alike_0 97 rfl
theorem dL_alike_167 : decode cL_alike 167 = .ok (.iconst 0, 1) := zd_at zo_cL_alike_0 98 rfl
theorem dL_alike_168 : decode cL_alike 168 = .ok (.invokestatic 126, 3) := zd_at zo_cL_alike_0 99 rfl
theorem dL_alike_171 : decode cL_alike 171 = .ok (.if_icmp .ne 7, 3) := zd_at zo_cL_alike_0 100 rfl
theorem dL_alike_174 : decode cL_alike 174 = .ok (.iconst 1, 1) := zd_at zo_cL_alike_0 101 rfl
theorem dL_alike_175 : decode cL_alike 175 = .ok (.goto 4, 3) := zd_at zo_cL_alike_0 102 rfl
theorem dL_alike_178 : decode cL_alike 178 = .ok (.iconst 0, 1) := zd_at zo_cL_alike_0 103 rfl
theorem dL_alike_179 : decode cL_alike 179 = .ok (.istore_n 3, 1) := zd_at zo_cL_alike_0 104 rfl
theorem dL_alike_180 : decode cL_alike 180 = .ok (.iinc 5 1, 3) := zd_at zo_cL_alike_0 105 rfl
theorem dL_alike_183 : decode cL_alike 183 = .ok (.goto (-42), 3) := zd_at zo_cL_alike_0 106 rfl
theorem dL_alike_186 : decode cL_alike 186 = .ok (.iinc 4 1, 3) := zd_at zo_cL_alike_0 107 rfl
theorem dL_alike_189 : decode cL_alike 189 = .ok (.goto (-122), 3) := zd_at zo_cL_alike_0 108 rfl
theorem dL_alike_192 : decode cL_alike 192 = .ok (.iconst 0, 1) := zd_at zo_cL_alike_0 109 rfl
theorem dL_alike_193 : decode cL_alike 193 = .ok (.istore 4, 2) := zd_at zo_cL_alike_0 110 rfl
theorem dL_alike_195 : decode cL_alike 195 = .ok (.iload 4, 2) := zd_at zo_cL_alike_0 111 rfl
theorem dL_alike_197 : decode cL_alike 197 = .ok (.bipush 24, 2) := zd_at zo_cL_alike_0 112 rfl
theorem dL_alike_199 : decode cL_alike 199 = .ok (.if_icmp .ge 44, 3) := zd_at zo_cL_alike_0 113 rfl
theorem dL_alike_202 : decode cL_alike 202 = .ok (.iload_n 3, 1) := zd_at zo_cL_alike_0 114 rfl
theorem dL_alike_203 : decode cL_alike 203 = .ok (.ifCond .eq 40, 3) := zd_at zo_cL_alike_0 115 rfl
theorem dL_alike_206 : decode cL_alike 206 = .ok (.aload_n 0, 1) := zd_at zo_cL_alike_0 116 rfl
theorem dL_alike_207 : decode cL_alike 207 = .ok (.iconst 2, 1) := zd_at zo_cL_alike_0 117 rfl
theorem dL_alike_208 : decode cL_alike 208 = .ok (.iload 4, 2) := zd_at zo_cL_alike_0 118 rfl
theorem dL_alike_210 : decode cL_alike 210 = .ok (.iload_n 2, 1) := zd_at zo_cL_alike_0 119 rfl
def zl_cL_alike_120 : List (Nat × Instr × Nat) := [(211, .iconst 5, 1), (212, .irem, 1), (213, .iconst 0, 1), (214, .invokestatic 126, 3), (217, .aload_n 1, 1), (218, .iconst 2, 1), (219, .iload 4, 2), (221, .iload_n 2, 1), (222, .iconst 5, 1), (223, .irem, 1), (224, .iconst 0, 1), (225, .invokestatic 126, 3), (228, .if_icmp .ne 7, 3), (231, .iconst 1, 1), (232, .goto 4, 3), (235, .iconst 0, 1), (236, .istore_n 3, 1), (237, .iinc 4 1, 3), (240, .goto (-45), 3), (243, .iload_n 2, 1), (244, .bipush 100, 2), (246, .irem, 1), (247, .istore 4, 2), (249, .iload_n 2, 1), (250, .sipush 128, 3), (253, .idiv, 1), (254, .bipush 100, 2), (256, .irem, 1), (257, .istore 5, 2), (259, .iload_n 3, 1), (260, .ifCond .eq 113, 3), (263, .aload_n 0, 1), (264, .iload 4, 2), (266, .iload 5, 2), (268, .bipush 99, 2), (270, .bipush 99, 2), (272, .invokestatic 133, 3), (275, .aload_n 1, 1), (276, .iload 4, 2), (278, .iload 5, 2), (280, .bipush 99, 2), (282, .bipush 99, 2), (284, .invokestatic 133, 3), (287, .if_icmp .ne 86, 3), (290, .aload_n 0, 1), (291, .iconst 0, 1), (292, .iconst 0, 1), (293, .iload 4, 2), (295, .iload 5, 2), (297, .invokestatic 136, 3), (300, .aload_n 1, 1), (301, .iconst 0, 1), (302, .iconst 0, 1), (303, .iload 4, 2), (305, .iload 5, 2), (307, .invokestatic 136, 3), (310, .if_icmp .ne 63, 3), (313, .aload_n 0, 1), (314, .iload 4, 2), (316, .iload 5, 2), (318, .iload 4, 2), (320, .iload 5, 2), (322, .invokestatic 139, 3), (325, .aload_n 1, 1), (326, .iload 4, 2), (328, .iload 5, 2), (330, .iload 4, 2), (332, .iload 5, 2), (334, .invokestatic 139, 3), (337, .if_icmp .ne 36, 3), (340, .aload_n 0, 1), (341, .bipush 9, 2), (343, .iload 4, 2), (345, .iload 5, 2), (347, .iload_n 2, 1), (348, .iconst 5, 1), (349, .irem, 1), (350, .invokestatic 126, 3), (353, .aload_n 1, 1), (354, .bipush 9, 2), (356, .iload 4, 2), (358, .iload 5, 2), (360, .iload_n 2, 1), (361, .iconst 5, 1), (362, .irem, 1), (363, .invokestatic 126, 3), (366, .if_icmp .ne 7, 3), (369, .iconst 1, 1), (370, .goto 4, 3), (373, .iconst 0, 1), (374, .ireturn, 1)]
theorem zo_cL_alike_120 : zd_ok cL_alike zl_cL_alike_120 = true := by decide +kernel
theorem dL_alike_211 : decode cL_alike 211 = .ok (.iconst 5, 1) := zd_at zo_cL_alike_120 0 rfl
theorem dL_alike_212 : decode cL_alike 212 = .ok (.irem, 1) := zd_at zo_cL_alike_120 1 rfl
theorem dL_alike_213 : decode cL_alike 213 = .ok (.iconst 0, 1) := zd_at zo_cL_alike_120 2 rfl
theorem dL_alike_214 : decode cL_alike 214 = .ok (.invokestatic 126, 3) := zd_at zo_cL_alike_120 3 rfl
theorem dL_alike_217 : decode cL_alike 217 = .ok (.aload_n 1, 1) := zd_at zo_cL_alike_120 4 rfl
theorem dL_alike_218 : decode cL_alike 218 = .ok (.iconst 2, 1) := zd_at zo_cL_alike_120 5 rfl
theorem dL_alike_219 : decode cL_alike 219 = .ok (.iload 4, 2) := zd_at zo_cL_alike_120 6 rfl
theorem dL_alike_221 : decode cL_alike 221 = .ok (.iload_n 2, 1) := zd_at zo_cL_alike_120 7 rfl
theorem dL_alike_222 : decode cL_alike 222 = .ok (.iconst 5, 1) := zd_at zo_cL_alike_120 8 rfl
theorem dL_alike_223 : decode cL_alike 223 = .ok (.irem, 1) := zd_at zo_cL_alike_120 9 rfl
theorem dL_alike_224 : decode cL_alike 224 = .ok (.iconst 0, 1) := zd_at zo_cL_alike_120 10 rfl
theorem dL_alike_225 : decode cL_alike 225 = .ok (.invokestatic 126, 3) := zd_at zo_cL_alike_120 11 rfl
theorem dL_alike_228 : decode cL_alike 228 = .ok (.if_icmp .ne 7, 3) := zd_at zo_cL_alike_120 12 rfl
theorem dL_alike_231 : decode cL_alike 231 = .ok (.iconst 1, 1) := zd_at zo_cL_alike_120 13 rfl
theorem dL_alike_232 : decode cL_alike 232 = .ok (.goto 4, 3) := zd_at zo_cL_alike_120 14 rfl
theorem dL_alike_235 : decode cL_alike 235 = .ok (.iconst 0, 1) := zd_at zo_cL_alike_120 15 rfl
theorem dL_alike_236 : decode cL_alike 236 = .ok (.istore_n 3, 1) := zd_at zo_cL_alike_120 16 rfl
theorem dL_alike_237 : decode cL_alike 237 = .ok (.iinc 4 1, 3) := zd_at zo_cL_alike_120 17 rfl
theorem dL_alike_240 : decode cL_alike 240 = .ok (.goto (-45), 3) := zd_at zo_cL_alike_120 18 rfl
theorem dL_alike_243 : decode cL_alike 243 = .ok (.iload_n 2, 1) := zd_at zo_cL_alike_120 19 rfl
theorem dL_alike_244 : decode cL_alike 244 = .ok (.bipush 100, 2) := zd_at zo_cL_alike_120 20 rfl
theorem dL_alike_246 : decode cL_alike 246 = .ok (.irem, 1) := zd_at zo_cL_alike_120 21 rfl
theorem dL_alike_247 : decode cL_alike 247 = .ok (.istore 4, 2) := zd_at zo_cL_alike_120 22 rfl
theorem dL_alike_249 : decode cL_alike 249 = .ok (.iload_n 2, 1) := zd_at zo_cL_alike_120 23 rfl
theorem dL_alike_250 : decode cL_alike 250 = .ok (.sipush 128, 3) := zd_at zo_cL_alike_120 24 rfl
theorem dL_alike_253 : decode cL_alike 253 = .ok (.idiv, 1) := zd_at zo_cL_alike_120 25 rfl
theorem dL_alike_254 : decode cL_alike 254 = .ok (.bipush 100, 2) := zd_at zo_cL_alike_120 26 rfl
theorem dL_alike_256 : decode cL_alike 256 = .ok (.irem, 1) := zd_at zo_cL_alike_120 27 rfl
theorem dL_alike_257 : decode cL_alike 257 = .ok (.istore 5, 2) := zd_at zo_cL_alike_120 28 rfl
theorem dL_alike_259 : decode cL_alike 259 = .ok (.iload_n 3, 1) := zd_at zo_cL_alike_120 29 rfl
theorem dL_alike_260 : decode cL_alike 260 = .ok (.ifCond .eq 113, 3) := zd_at zo_cL_alike_120 30 rfl
theorem dL_alike_263 : decode cL_alike 263 = .ok (.aload_n 0, 1) := zd_at zo_cL_alike_120 31 rfl
theorem dL_alike_264 : decode cL_alike 264 = .ok (.iload 4, 2) := zd_at zo_cL_alike_120 32 rfl
theorem dL_alike_266 : decode cL_alike 266 = .ok (.iload 5, 2) := zd_at zo_cL_alike_120 33 rfl
theorem dL_alike_268 : decode cL_alike 268 = .ok (.bipush 99, 2) := zd_at zo_cL_alike_120 34 rfl
theorem dL_alike_270 : decode cL_alike 270 = .ok (.bipush 99, 2) := zd_at zo_cL_alike_120 35 rfl
theorem dL_alike_272 : decode cL_alike 272 = .ok (.invokestatic 133, 3) := zd_at zo_cL_alike_120 36 rfl
theorem dL_alike_275 : decode cL_alike 275 = .ok (.aload_n 1, 1) := zd_at zo_cL_alike_120 37 rfl
theorem dL_alike_276 : decode cL_alike 276 = .ok (.iload 4, 2) := zd_at zo_cL_alike_120 38 rfl
theorem dL_alike_278 : decode cL_alike 278 = .ok (.iload 5, 2) := zd_at zo_cL_alike_120 39 rfl
theorem dL_alike_280 : decode cL_alike 280 = .ok (.bipush 99, 2) := zd_at zo_cL_alike_120 40 rfl
theorem dL_alike_282 : decode cL_alike 282 = .ok (.bipush 99, 2) := zd_at zo_cL_alike_120 41 rfl
theorem dL_alike_284 : decode cL_alike 284 = .ok (.invokestatic 133, 3) := zd_at zo_cL_alike_120 42 rfl
theorem dL_alike_287 : decode cL_alike 287 = .ok (.if_icmp .ne 86, 3) := zd_at zo_cL_alike_120 43 rfl
theorem dL_alike_290 : decode cL_alike 290 = .ok (.aload_n 0, 1) := zd_at zo_cL_alike_120 44 rfl
theorem dL_alike_291 : decode cL_alike 291 = .ok (.iconst 0, 1) := zd_at zo_cL_alike_120 45 rfl
theorem dL_alike_292 : decode cL_alike 292 = .ok (.iconst 0, 1) := zd_at zo_cL_alike_120 46 rfl
theorem dL_alike_293 : decode cL_alike 293 = .ok (.iload 4, 2) := zd_at zo_cL_alike_120 47 rfl
theorem dL_alike_295 : decode cL_alike 295 = .ok (.iload 5, 2) := zd_at zo_cL_alike_120 48 rfl
theorem dL_alike_297 : decode cL_alike 297 = .ok (.invokestatic 136, 3) := zd_at zo_cL_alike_120 49 rfl
theorem dL_alike_300 : decode cL_alike 300 = .ok (.aload_n 1, 1) := zd_at zo_cL_alike_120 50 rfl
theorem dL_alike_301 : decode cL_alike 301 = .ok (.iconst 0, 1) := zd_at zo_cL_alike_120 51 rfl
theorem dL_alike_302 : decode cL_alike 302 = .ok (.iconst 0, 1) := zd_at zo_cL_alike_120 52 rfl
theorem dL_alike_303 : decode cL_alike 303 = .ok (.iload 4, 2) := zd_at zo_cL_alike_120 53 rfl
theorem dL_alike_305 : decode cL_alike 305 = .ok (.iload 5, 2) := zd_at zo_cL_alike_120 54 rfl
theorem dL_alike_307 : decode cL_alike 307 = .ok (.invokestatic 136, 3) := zd_at zo_cL_alike_120 55 rfl
theorem dL_alike_310 : decode cL_alike 310 = .ok (.if_icmp .ne 63, 3) := zd_at zo_cL_alike_120 56 rfl
theorem dL_alike_313 : decode cL_alike 313 = .ok (.aload_n 0, 1) := zd_at zo_cL_alike_120 57 rfl
theorem dL_alike_314 : decode cL_alike 314 = .ok (.iload 4, 2) := zd_at zo_cL_alike_120 58 rfl
theorem dL_alike_316 : decode cL_alike 316 = .ok (.iload 5, 2) := zd_at zo_cL_alike_120 59 rfl
theorem dL_alike_318 : decode cL_alike 318 = .ok (.iload 4, 2) := zd_at zo_cL_alike_120 60 rfl
theorem dL_alike_320 : decode cL_alike 320 = .ok (.iload 5, 2) := zd_at zo_cL_alike_120 61 rfl
theorem dL_alike_322 : decode cL_alike 322 = .ok (.invokestatic 139, 3) := zd_at zo_cL_alike_120 62 rfl
theorem dL_alike_325 : decode cL_alike 325 = .ok (.aload_n 1, 1) := zd_at zo_cL_alike_120 63 rfl
theorem dL_alike_326 : decode cL_alike 326 = .ok (.iload 4, 2) := zd_at zo_cL_alike_120 64 rfl
theorem dL_alike_328 : decode cL_alike 328 = .ok (.iload 5, 2) := zd_at zo_cL_alike_120 65 rfl
theorem dL_alike_330 : decode cL_alike 330 = .ok (.iload 4, 2) := zd_at zo_cL_alike_120 66 rfl
theorem dL_alike_332 : decode cL_alike 332 = .ok (.iload 5, 2) := zd_at zo_cL_alike_120 67 rfl
theorem dL_alike_334 : decode cL_alike 334 = .ok (.invokestatic 139, 3) := zd_at zo_cL_alike_120 68 rfl
theorem dL_alike_337 : decode cL_alike 337 = .ok (.if_icmp .ne 36, 3) := zd_at zo_cL_alike_120 69 rfl
theorem dL_alike_340 : decode cL_alike 340 = .ok (.aload_n 0, 1) := zd_at zo_cL_alike_120 70 rfl
theorem dL_alike_341 : decode cL_alike 341 = .ok (.bipush 9, 2) := zd_at zo_cL_alike_120 71 rfl
theorem dL_alike_343 : decode cL_alike 343 = .ok (.iload 4, 2) := zd_at zo_cL_alike_120 72 rfl
theorem dL_alike_345 : decode cL_alike 345 = .ok (.iload 5, 2) := zd_at zo_cL_alike_120 73 rfl
theorem dL_alike_347 : decode cL_alike 347 = .ok (.iload_n 2, 1) := zd_at zo_cL_alike_120 74 rfl
theorem dL_alike_348 : decode cL_alike 348 = .ok (.iconst 5, 1) := zd_at zo_cL_alike_120 75 rfl
theorem dL_alike_349 : decode cL_alike 349 = .ok (.irem, 1) := zd_at zo_cL_alike_120 76 rfl
theorem dL_alike_350 : decode cL_alike 350 = .ok (.invokestatic 126, 3) := zd_at zo_cL_alike_120 77 rfl
theorem dL_alike_353 : decode cL_alike 353 = .ok (.aload_n 1, 1) := zd_at zo_cL_alike_120 78 rfl
theorem dL_alike_354 : decode cL_alike 354 = .ok (.bipush 9, 2) := zd_at zo_cL_alike_120 79 rfl
theorem dL_alike_356 : decode cL_alike 356 = .ok (.iload 4, 2) := zd_at zo_cL_alike_120 80 rfl
theorem dL_alike_358 : decode cL_alike 358 = .ok (.iload 5, 2) := zd_at zo_cL_alike_120 81 rfl
theorem dL_alike_360 : decode cL_alike 360 = .ok (.iload_n 2, 1) := zd_at zo_cL_alike_120 82 rfl
theorem dL_alike_361 : decode cL_alike 361 = .ok (.iconst 5, 1) := zd_at zo_cL_alike_120 83 rfl
theorem dL_alike_362 : decode cL_alike 362 = .ok (.irem, 1) := zd_at zo_cL_alike_120 84 rfl
theorem dL_alike_363 : decode cL_alike 363 = .ok (.invokestatic 126, 3) := zd_at zo_cL_alike_120 85 rfl
theorem dL_alike_366 : decode cL_alike 366 = .ok (.if_icmp .ne 7, 3) := zd_at zo_cL_alike_120 86 rfl
theorem dL_alike_369 : decode cL_alike 369 = .ok (.iconst 1, 1) := zd_at zo_cL_alike_120 87 rfl
theorem dL_alike_370 : decode cL_alike 370 = .ok (.goto 4, 3) := zd_at zo_cL_alike_120 88 rfl
theorem dL_alike_373 : decode cL_alike 373 = .ok (.iconst 0, 1) := zd_at zo_cL_alike_120 89 rfl
theorem dL_alike_374 : decode cL_alike 374 = .ok (.ireturn, 1) := zd_at zo_cL_alike_120 90 rfl
def zl_cL_holds_0 : List (Nat × Instr × Nat) := [(0, .aload_n 0, 1), (1, .iconst 1, 1), (2, .iconst 1, 1), (3, .iconst 0, 1), (4, .iconst 0, 1), (5, .invokestatic 126, 3), (8, .istore_n 2, 1), (9, .aload_n 0, 1), (10, .iconst 1, 1), (11, .iconst 0, 1), (12, .iconst 0, 1), (13, .iconst 0, 1), (14, .invokestatic 126, 3), (17, .istore_n 3, 1), (18, .aload_n 0, 1), (19, .iconst 1, 1), (20, .iconst 2, 1), (21, .iconst 0, 1), (22, .iconst 0, 1), (23, .invokestatic 126, 3), (26, .istore 4, 2), (28, .iconst 0, 1), (29, .istore 5, 2), (31, .iconst 0, 1), (32, .istore 6, 2), (34, .aload_n 0, 1), (35, .iconst 3, 1), (36, .iconst 0, 1), (37, .iconst 0, 1), (38, .iconst 0, 1), (39, .invokestatic 126, 3), (42, .iload 4, 2), (44, .if_icmp .ne 20, 3), (47, .aload_n 0, 1), (48, .iconst 3, 1), (49, .iconst 0, 1), (50, .bipush 6, 2), (52, .iconst 0, 1), (53, .invokestatic 126, 3), (56, .iconst (-1), 1), (57, .if_icmp .ne 7, 3), (60, .iconst 1, 1), (61, .goto 4, 3), (64, .iconst 0, 1), (65, .istore 7, 2), (67, .iconst 0, 1), (68, .istore 8, 2), (70, .iload 8, 2), (72, .iload_n 2, 1), (73, .if_icmp .ge 409, 3), (76, .iload 7, 2), (78, .ifCond .eq 404, 3), (81, .aload_n 0, 1), (82, .iconst 3, 1), (83, .iload 8, 2), (85, .iconst 0, 1), (86, .iconst 0, 1), (87, .invokestatic 126, 3), (90, .istore 9, 2), (92, .aload_n 0, 1), (93, .iconst 3, 1), (94, .iload 8, 2), (96, .iconst 1, 1), (97, .iconst 0, 1), (98, .invokestatic 126, 3), (101, .istore 10, 2), (103, .iload 10, 2), (105, .iconst 4, 1), (106, .if_icmp .gt 85, 3), (109, .iload 8, 2), (111, .ifCond .ne 17, 3), (114, .iload 9, 2), (116, .ifCond .eq 57, 3), (119, .iload 10, 2), (121, .iconst 2, 1), (122, .if_icmp .lt 69, 3), (125, .goto 48, 3), (128, .iload 10, 2), (130, .iconst 2, 1), (131, .if_icmp .lt 60, 3), (134, .aload_n 0, 1), (135, .iconst 3, 1), (136, .aload_n 0, 1), (137, .iconst 3, 1), (138, .iload 8, 2), (140, .bipush 6, 2), (142, .iconst 0, 1), (143, .invokestatic 126, 3), (146, .iconst 0, 1), (147, .iconst 0, 1), (148, .invokestatic 126, 3), (151, .iload 9, 2), (153, .iconst 1, 1), (154, .iadd, 1), (155, .if_icmp .ne 36, 3), (158, .aload_n 0, 1), (159, .iconst 3, 1), (160, .iload 8, 2), (162, .bipush 6, 2), (164, .iconst 0, 1), (165, .invokestatic 126, 3), (168, .iload 8, 2), (170, .if_icmp .ge 21, 3), (173, .aload_n 0, 1), (174, .iconst 4, 1), (175, .iload 8, 2), (177, .iload 10, 2), (179, .iconst 0, 1), (180, .invokestatic 126, 3), (183, .iconst (-1), 1), (184, .if_icmp .ne 7, 3), (187, .iconst 1, 1), (188, .goto 4, 3), (191, .iconst 0, 1), (192, .istore 7, 2), (194, .bipush 100, 2), (196, .istore 11, 2), (198, .iconst (-1), 1), (199, .istore 12, 2), (201, .iconst 0, 1)]
theorem zo_cL_holds_0 : zd_ok cL_holds zl_cL_holds_0 = true := by decide +kernel
theorem dL_holds_0 : decode cL_holds 0 = .ok (.aload_n 0, 1) := zd_at zo_cL_holds_0 0 rfl
theorem dL_holds_1 : decode cL_holds 1 = .ok (.iconst 1, 1) := zd_at zo_cL_holds_0 1 rfl
theorem dL_holds_2 : decode cL_holds 2 = .ok (.iconst 1, 1) := zd_at zo_cL_holds_0 2 rfl
theorem dL_holds_3 : decode cL_holds 3 = .ok (.iconst 0, 1) := zd_at zo_cL_holds_0 3 rfl
theorem dL_holds_4 : decode cL_holds 4 = .ok (.iconst 0, 1) := zd_at zo_cL_holds_0 4 rfl
theorem dL_holds_5 : decode cL_holds 5 = .ok (.invokestatic 126, 3) := zd_at zo_cL_holds_0 5 rfl
theorem dL_holds_8 : decode cL_holds 8 = .ok (.istore_n 2, 1) := zd_at zo_cL_holds_0 6 rfl
theorem dL_holds_9 : decode cL_holds 9 = .ok (.aload_n 0, 1) := zd_at zo_cL_holds_0 7 rfl
theorem dL_holds_10 : decode cL_holds 10 = .ok (.iconst 1, 1) := zd_at zo_cL_holds_0 8 rfl
theorem dL_holds_11 : decode cL_holds 11 = .ok (.iconst 0, 1) := zd_at zo_cL_holds_0 9 rfl
theorem dL_holds_12 : decode cL_holds 12 = .ok (.iconst 0, 1) := zd_at zo_cL_holds_0 10 rfl
theorem dL_holds_13 : decode cL_holds 13 = .ok (.iconst 0, 1) := zd_at zo_cL_holds_0 11 rfl
theorem dL_holds_14 : decode cL_holds 14 = .ok (.invokestatic 126, 3) := zd_at zo_cL_holds_0 12 rfl
theorem dL_holds_17 : decode cL_holds 17 = .ok (.istore_n 3, 1) := zd_at zo_cL_holds_0 13 rfl
theorem dL_holds_18 : decode cL_holds 18 = .ok (.aload_n 0, 1) := zd_at zo_cL_holds_0 14 rfl
theorem dL_holds_19 : decode cL_holds 19 = .ok (.iconst 1, 1) := zd_at zo_cL_holds_0 15 rfl
theorem dL_holds_20 : decode cL_holds 20 = .ok (.iconst 2, 1) := zd_at zo_cL_holds_0 16 rfl
theorem dL_holds_21 : decode cL_holds 21 = .ok (.iconst 0, 1) := zd_at zo_cL_holds_0 17 rfl
theorem dL_holds_22 : decode cL_holds 22 = .ok (.iconst 0, 1) := zd_at zo_cL_holds_0 18 rfl
theorem dL_holds_23 : decode cL_holds 23 = .ok (.invokestatic 126, 3) := zd_at zo_cL_holds_0 19 rfl
theorem dL_holds_26 : decode cL_holds 26 = .ok (.istore 4, 2) := zd_at zo_cL_holds_0 20 rfl
theorem dL_holds_28 : decode cL_holds 28 = .ok (.iconst 0, 1) := zd_at zo_cL_holds_0 21 rfl
theorem dL_holds_29 : decode cL_holds 29 = .ok (.istore 5, 2) := zd_at zo_cL_holds_0 22 rfl
theorem dL_holds_31 : decode cL_holds 31 = .ok (.iconst 0, 1) := zd_at zo_cL_holds_0 23 rfl
theorem dL_holds_32 : decode cL_holds 32 = .ok (.istore 6, 2) := zd_at zo_cL_holds_0 24 rfl
theorem dL_holds_34 : decode cL_holds 34 = .ok (.aload_n 0, 1) := zd_at zo_cL_holds_0 25 rfl
theorem dL_holds_35 : decode cL_holds 35 = .ok (.iconst 3, 1) := zd_at zo_cL_holds_0 26 rfl
theorem dL_holds_36 : decode cL_holds 36 = .ok (.iconst 0, 1) := zd_at zo_cL_holds_0 27 rfl
theorem dL_holds_37 : decode cL_holds 37 = .ok (.iconst 0, 1) := zd_at zo_cL_holds_0 28 rfl
theorem dL_holds_38 : decode cL_holds 38 = .ok (.iconst 0, 1) := zd_at zo_cL_holds_0 29 rfl
theorem dL_holds_39 : decode cL_holds 39 = .ok (.invokestatic 126, 3) := zd_at zo_cL_holds_0 30 rfl
theorem dL_holds_42 : decode cL_holds 42 = .ok (.iload 4, 2) := zd_at zo_cL_holds_0 31 rfl
theorem dL_holds_44 : decode cL_holds 44 = .ok (.if_icmp .ne 20, 3) := zd_at zo_cL_holds_0 32 rfl
theorem dL_holds_47 : decode cL_holds 47 = .ok (.aload_n 0, 1) := zd_at zo_cL_holds_0 33 rfl
theorem dL_holds_48 : decode cL_holds 48 = .ok (.iconst 3, 1) := zd_at zo_cL_holds_0 34 rfl
theorem dL_holds_49 : decode cL_holds 49 = .ok (.iconst 0, 1) := zd_at zo_cL_holds_0 35 rfl
theorem dL_holds_50 : decode cL_holds 50 = .ok (.bipush 6, 2) := zd_at zo_cL_holds_0 36 rfl
theorem dL_holds_52 : decode cL_holds 52 = .ok (.iconst 0, 1) := zd_at zo_cL_holds_0 37 rfl
theorem dL_holds_53 : decode cL_holds 53 = .ok (.invokestatic 126, 3) := zd_at zo_cL_holds_0 38 rfl
theorem dL_holds_56 : decode cL_holds 56 = .ok (.iconst (-1), 1) := zd_at zo_cL_holds_0 39 rfl
theorem dL_holds_57 : decode cL_holds 57 = .ok (.if_icmp .ne 7, 3) := zd_at zo_cL_holds_0 40 rfl
theorem dL_holds_60 : decode cL_holds 60 = .ok (.iconst 1, 1) := zd_at zo_cL_holds_0 41 rfl
theorem dL_holds_61 : decode cL_holds 61 = .ok (.goto 4, 3) := zd_at zo_cL_holds_0 42 rfl
theorem dL_holds_64 : decode cL_holds 64 = .ok (.iconst 0, 1) := zd_at zo_cL_holds_0 43 rfl
theorem dL_holds_65 : decode cL_holds 65 = .ok (.istore 7, 2) := zd_at zo_cL_holds_0 44 rfl
theorem dL_holds_67 : decode cL_holds 67 = .ok (.iconst 0, 1) := zd_at zo_cL_holds_0 45 rfl
theorem dL_holds_68 : decode cL_holds 68 = .ok (.istore 8, 2) := zd_at zo_cL_holds_0 46 rfl
theorem dL_holds_70 : decode cL_holds 70 = .ok (.iload 8, 2) := zd_at zo_cL_holds_0 47 rfl
theorem dL_holds_72 : decode cL_holds 72 = .ok (.iload_n 2, 1) := zd_at zo_cL_holds_0 48 rfl
theorem dL_holds_73 : decode cL_holds 73 = .ok (.if_icmp .ge 409, 3) := zd_at zo_cL_holds_0 49 rfl
theorem dL_holds_76 : decode cL_holds 76 = .ok (.iload 7, 2) := zd_at zo_cL_holds_0 50 rfl
theorem dL_holds_78 : decode cL_holds 78 = .ok (.ifCond .eq 404, 3) := zd_at zo_cL_holds_0 51 rfl
theorem dL_holds_81 : decode cL_holds 81 = .ok (.aload_n 0, 1) := zd_at zo_cL_holds_0 52 rfl
theorem dL_holds_82 : decode cL_holds 82 = .ok (.iconst 3, 1) := zd_at zo_cL_holds_0 53 rfl
theorem dL_holds_83 : decode cL_holds 83 = .ok (.iload 8, 2) := zd_at zo_cL_holds_0 54 rfl
theorem dL_holds_85 : decode cL_holds 85 = .ok (.iconst 0, 1) := zd_at zo_cL_holds_0 55 rfl
theorem dL_holds_86 : decode cL_holds 86 = .ok (.iconst 0, 1) := zd_at zo_cL_holds_0 56 rfl
theorem dL_holds_87 : decode cL_holds 87 = .ok (.invokestatic 126, 3) := zd_at zo_cL_holds_0 57 rfl
theorem dL_holds_90 : decode cL_holds 90 = .ok (.istore 9, 2) := zd_at zo_cL_holds_0 58 rfl
theorem dL_holds_92 : decode cL_holds 92 = .ok (.aload_n 0, 1) := zd_at zo_cL_holds_0 59 rfl
theorem dL_holds_93 : decode cL_holds 93 = .ok (.iconst 3, 1) := zd_at zo_cL_holds_0 60 rfl
theorem dL_holds_94 : decode cL_holds 94 = .ok (.iload 8, 2) := zd_at zo_cL_holds_0 61 rfl
theorem dL_holds_96 : decode cL_holds 96 = .ok (.iconst 1, 1) := zd_at zo_cL_holds_0 62 rfl
theorem dL_holds_97 : decode cL_holds 97 = .ok (.iconst 0, 1) := zd_at zo_cL_holds_0 63 rfl
theorem dL_holds_98 : decode cL_holds 98 = .ok (.invokestatic 126, 3) := zd_at zo_cL_holds_0 64 rfl
theorem dL_holds_101 : decode cL_holds 101 = .ok (.istore 10, 2) := zd_at zo_cL_holds_0 65 rfl
theorem dL_holds_103 : decode cL_holds 103 = .ok (.iload 10, 2) := zd_at zo_cL_holds_0 66 rfl
theorem dL_holds_105 : decode cL_holds 105 = .ok (.iconst 4, 1) := zd_at zo_cL_holds_0 67 rfl
theorem dL_holds_106 : decode cL_holds 106 = .ok (.if_icmp .gt 85, 3) := zd_at zo_cL_holds_0 68 rfl
theorem dL_holds_109 : decode cL_holds 109 = .ok (.iload 8, 2) := zd_at zo_cL_holds_0 69 rfl
theorem dL_holds_111 : decode cL_holds 111 = .ok (.ifCond .ne 17, 3) := zd_at zo_cL_holds_0 70 rfl
theorem dL_holds_114 : decode cL_holds 114 = .ok (.iload 9, 2) := zd_at zo_cL_holds_0 71 rfl
theorem dL_holds_116 : decode cL_holds 116 = .ok (.ifCond .eq 57, 3) := zd_at zo_cL_holds_0 72 rfl
theorem dL_holds_119 : decode cL_holds 119 = .ok (.iload 10, 2) := zd_at zo_cL_holds_0 73 rfl
theorem dL_holds_121 : decode cL_holds 121 = .ok (.iconst 2, 1) := zd_at zo_cL_holds_0 74 rfl
theorem dL_holds_122 : decode cL_holds 122 = .ok (.if_icmp .lt 69, 3) := zd_at zo_cL_holds_0 75 rfl
theorem dL_holds_125 : decode cL_holds 125 = .ok (.goto 48, 3) := zd_at zo_cL_holds_0 76 rfl
theorem dL_holds_128 : decode cL_holds 128 = .ok (.iload 10, 2) := zd_at zo_cL_holds_0 77 rfl
theorem dL_holds_130 : decode cL_holds 130 = .ok (.iconst 2, 1) := zd_at zo_cL_holds_0 78 rfl
theorem dL_holds_131 : decode cL_holds 131 = .ok (.if_icmp .lt 60, 3) := zd_at zo_cL_holds_0 79 rfl
theorem dL_holds_134 : decode cL_holds 134 = .ok (.aload_n 0, 1) := zd_at zo_cL_holds_0 80 rfl
theorem dL_holds_135 : decode cL_holds 135 = .ok (.iconst 3, 1) := zd_at zo_cL_holds_0 81 rfl
theorem dL_holds_136 : decode cL_holds 136 = .ok (.aload_n 0, 1) := zd_at zo_cL_holds_0 82 rfl
theorem dL_holds_137 : decode cL_holds 137 = .ok (.iconst 3, 1) := zd_at zo_cL_holds_0 83 rfl
theorem dL_holds_138 : decode cL_holds 138 = .ok (.iload 8, 2) := zd_at zo_cL_holds_0 84 rfl
theorem dL_holds_140 : decode cL_holds 140 = .ok (.bipush 6, 2) := zd_at zo_cL_holds_0 85 rfl
theorem dL_holds_142 : decode cL_holds 142 = .ok (.iconst 0, 1) := zd_at zo_cL_holds_0 86 rfl
theorem dL_holds_143 : decode cL_holds 143 = .ok (.invokestatic 126, 3) := zd_at zo_cL_holds_0 87 rfl
theorem dL_holds_146 : decode cL_holds 146 = .ok (.iconst 0, 1) := zd_at zo_cL_holds_0 88 rfl
theorem dL_holds_147 : decode cL_holds 147 = .ok (.iconst 0, 1) := zd_at zo_cL_holds_0 89 rfl
theorem dL_holds_148 : decode cL_holds 148 = .ok (.invokestatic 126, 3) := zd_at zo_cL_holds_0 90 rfl
theorem dL_holds_151 : decode cL_holds 151 = .ok (.iload 9, 2) := zd_at zo_cL_holds_0 91 rfl
theorem dL_holds_153 : decode cL_holds 153 = .ok (.iconst 1, 1) := zd_at zo_cL_holds_0 92 rfl
theorem dL_holds_154 : decode cL_holds 154 = .ok (.iadd, 1) := zd_at zo_cL_holds_0 93 rfl
theorem dL_holds_155 : decode cL_holds 155 = .ok (.if_icmp .ne 36, 3) := zd_at zo_cL_holds_0 94 rfl
theorem dL_holds_158 : decode cL_holds 158 = .ok (.aload_n 0, 1) := zd_at zo_cL_holds_0 95 rfl
theorem dL_holds_159 : decode cL_holds 159 = .ok (.iconst 3, 1) := zd_at zo_cL_holds_0 96 rfl
theorem dL_holds_160 : decode cL_holds 160 = .ok (.iload 8, 2) := zd_at zo_cL_holds_0 97 rfl
theorem dL_holds_162 : decode cL_holds 162 = .ok (.bipush 6, 2) := zd_at zo_cL_holds_0 98 rfl
theorem dL_holds_164 : decode cL_holds 164 = .ok (.iconst 0, 1) := zd_at zo_cL_holds_0 99 rfl
theorem dL_holds_165 : decode cL_holds 165 = .ok (.invokestatic 126, 3) := zd_at zo_cL_holds_0 100 rfl
theorem dL_holds_168 : decode cL_holds 168 = .ok (.iload 8, 2) := zd_at zo_cL_holds_0 101 rfl
theorem dL_holds_170 : decode cL_holds 170 = .ok (.if_icmp .ge 21, 3) := zd_at zo_cL_holds_0 102 rfl
theorem dL_holds_173 : decode cL_holds 173 = .ok (.aload_n 0, 1) := zd_at zo_cL_holds_0 103 rfl
theorem dL_holds_174 : decode cL_holds 174 = .ok (.iconst 4, 1) := zd_at zo_cL_holds_0 104 rfl
theorem dL_holds_175 : decode cL_holds 175 = .ok (.iload 8, 2) := zd_at zo_cL_holds_0 105 rfl
theorem dL_holds_177 : decode cL_holds 177 = .ok (.iload 10, 2) := zd_at zo_cL_holds_0 106 rfl
theorem dL_holds_179 : decode cL_holds 179 = .ok (.iconst 0, 1) := zd_at zo_cL_holds_0 107 rfl
theorem dL_holds_180 : decode cL_holds 180 = .ok (.invokestatic 126, 3) := zd_at zo_cL_holds_0 108 rfl
theorem dL_holds_183 : decode cL_holds 183 = .ok (.iconst (-1), 1) := zd_at zo_cL_holds_0 109 rfl
theorem dL_holds_184 : decode cL_holds 184 = .ok (.if_icmp .ne 7, 3) := zd_at zo_cL_holds_0 110 rfl
theorem dL_holds_187 : decode cL_holds 187 = .ok (.iconst 1, 1) := zd_at zo_cL_holds_0 111 rfl
theorem dL_holds_188 : decode cL_holds 188 = .ok (.goto 4, 3) := zd_at zo_cL_holds_0 112 rfl
theorem dL_holds_191 : decode cL_holds 191 = .ok (.iconst 0, 1) := zd_at zo_cL_holds_0 113 rfl
theorem dL_holds_192 : decode cL_holds 192 = .ok (.istore 7, 2) := zd_at zo_cL_holds_0 114 rfl
theorem dL_holds_194 : decode cL_holds 194 = .ok (.bipush 100, 2) := zd_at zo_cL_holds_0 115 rfl
theorem dL_holds_196 : decode cL_holds 196 = .ok (.istore 11, 2) := zd_at zo_cL_holds_0 116 rfl
theorem dL_holds_198 : decode cL_holds 198 = .ok (.iconst (-1), 1) := zd_at zo_cL_holds_0 117 rfl
theorem dL_holds_199 : decode cL_holds 199 = .ok (.istore 12, 2) := zd_at zo_cL_holds_0 118 rfl
theorem dL_holds_201 : decode cL_holds 201 = .ok (.iconst 0, 1) := zd_at zo_cL_holds_0 119 rfl
def zl_cL_holds_120 : List (Nat × Instr × Nat) := [(202, .istore 13, 2), (204, .iload 13, 2), (206, .iload 10, 2), (208, .if_icmp .ge 207, 3), (211, .iload 7, 2), (213, .ifCond .eq 202, 3), (216, .aload_n 0, 1), (217, .iconst 4, 1), (218, .iload 8, 2), (220, .iload 13, 2), (222, .iconst 0, 1), (223, .invokestatic 126, 3), (226, .istore 14, 2), (228, .iload 5, 2), (230, .iload 9, 2), (232, .ifCond .ne 7, 3), (235, .iconst 1, 1), (236, .goto 4, 3), (239, .iconst 0, 1), (240, .iadd, 1), (241, .istore 5, 2), (243, .iload 6, 2), (245, .iload 9, 2), (247, .ifCond .ne 7, 3), (250, .iconst 0, 1), (251, .goto 4, 3), (254, .iconst 1, 1), (255, .iadd, 1), (256, .istore 6, 2), (258, .iload 9, 2), (260, .ifCond .ne 15, 3), (263, .aload_n 0, 1), (264, .iconst 2, 1), (265, .iload 14, 2), (267, .iconst 0, 1), (268, .iconst 0, 1), (269, .invokestatic 126, 3), (272, .goto 12, 3), (275, .aload_n 0, 1), (276, .iconst 3, 1), (277, .iload 14, 2), (279, .iconst 2, 1), (280, .iconst 0, 1), (281, .invokestatic 126, 3), (284, .istore 15, 2), (286, .iload 9, 2), (288, .ifCond .ne 15, 3), (291, .aload_n 0, 1), (292, .iconst 2, 1), (293, .iload 14, 2), (295, .iconst 3, 1), (296, .iconst 0, 1), (297, .invokestatic 126, 3), (300, .goto 12, 3), (303, .aload_n 0, 1), (304, .iconst 3, 1), (305, .iload 14, 2), (307, .iconst 5, 1), (308, .iconst 0, 1), (309, .invokestatic 126, 3), (312, .istore 16, 2), (314, .iload 15, 2), (316, .iload 11, 2), (318, .if_icmp .ge 8, 3), (321, .iload 15, 2), (323, .goto 5, 3), (326, .iload 11, 2), (328, .istore 11, 2), (330, .iload 16, 2), (332, .iload 12, 2), (334, .if_icmp .le 8, 3), (337, .iload 16, 2), (339, .goto 5, 3), (342, .iload 12, 2), (344, .istore 12, 2), (346, .iload 9, 2), (348, .ifCond .ne 25, 3), (351, .aload_n 0, 1), (352, .iconst 2, 1), (353, .iload 14, 2), (355, .iconst 4, 1), (356, .iconst 0, 1), (357, .invokestatic 126, 3), (360, .iload 8, 2), (362, .if_icmp .ne 7, 3), (365, .iconst 1, 1), (366, .goto 41, 3), (369, .iconst 0, 1), (370, .goto 37, 3), (373, .aload_n 0, 1), (374, .iconst 3, 1), (375, .iload 14, 2), (377, .bipush 6, 2), (379, .iconst 0, 1), (380, .invokestatic 126, 3), (383, .iload 8, 2), (385, .if_icmp .ne 21, 3), (388, .iload 13, 2), (390, .ifCond .gt 12, 3), (393, .iload 14, 2), (395, .iload 8, 2), (397, .iconst 1, 1), (398, .iadd, 1), (399, .if_icmp .ne 7, 3), (402, .iconst 1, 1), (403, .goto 4, 3), (406, .iconst 0, 1), (407, .istore 7, 2), (409, .iinc 13 1, 3), (412, .goto (-208), 3), (415, .iload 7, 2), (417, .ifCond .eq 56, 3), (420, .iload 10, 2), (422, .ifCond .ne 19, 3), (425, .aload_n 0, 1), (426, .iconst 3, 1), (427, .iload 8, 2), (429, .iconst 2, 1), (430, .iconst 0, 1), (431, .invokestatic 126, 3)]
theorem zo_cL_holds_120 : zd_ok cL_holds zl_cL_holds_120 = true := by decide +kernel
theorem dL_holds_202 : decode cL_holds 202 = .ok (.istore 13, 2) := zd_at zo_cL_holds_120 0 rfl
theorem dL_holds_204 : decode cL_holds 204 = .ok (.iload 13, 2) := zd_at zo_cL_holds_120 1 rfl
theorem dL_holds_206 : decode cL_holds 206 = .ok (.iload 10, 2) := zd_at zo_cL_holds_120 2 rfl
theorem dL_holds_208 : decode cL_holds 208 = .ok (.if_icmp .ge 207, 3) := zd_at zo_cL_holds_120 3 rfl
theorem dL_holds_211 : decode cL_holds 211 = .ok (.iload 7, 2) := zd_at zo_cL_holds_120 4 rfl
theorem dL_holds_213 : decode cL_holds 213 = .ok (.ifCond .eq 202, 3) := zd_at zo_cL_holds_120 5 rfl
theorem dL_holds_216 : decode cL_holds 216 = .ok (.aload_n 0, 1) := zd_at zo_cL_holds_120 6 rfl
theorem dL_holds_217 : decode cL_holds 217 = .ok (.iconst 4, 1) := zd_at zo_cL_holds_120 7 rfl
theorem dL_holds_218 : decode cL_holds 218 = .ok (.iload 8, 2) := zd_at zo_cL_holds_120 8 rfl
theorem dL_holds_220 : decode cL_holds 220 = .ok (.iload 13, 2) := zd_at zo_cL_holds_120 9 rfl
theorem dL_holds_222 : decode cL_holds 222 = .ok (.iconst 0, 1) := zd_at zo_cL_holds_120 10 rfl
theorem dL_holds_223 : decode cL_holds 223 = .ok (.invokestatic 126, 3) := zd_at zo_cL_holds_120 11 rfl
theorem dL_holds_226 : decode cL_holds 226 = .ok (.istore 14, 2) := zd_at zo_cL_holds_120 12 rfl
theorem dL_holds_228 : decode cL_holds 228 = .ok (.iload 5, 2) := zd_at zo_cL_holds_120 13 rfl
theorem dL_holds_230 : decode cL_holds 230 = .ok (.iload 9, 2) := zd_at zo_cL_holds_120 14 rfl
theorem dL_holds_232 : decode cL_holds 232 = .ok (.ifCond .ne 7, 3) := zd_at zo_cL_holds_120 15 rfl
theorem dL_holds_235 : decode cL_holds 235 = .ok (.iconst 1, 1) := zd_at zo_cL_holds_120 16 rfl
theorem dL_holds_236 : decode cL_holds 236 = .ok (.goto 4, 3) := zd_at zo_cL_holds_120 17 rfl
theorem dL_holds_239 : decode cL_holds 239 = .ok (.iconst 0, 1) := zd_at zo_cL_holds_120 18 rfl
theorem dL_holds_240 : decode cL_holds 240 = .ok (.iadd, 1) := zd_at zo_cL_holds_120 19 rfl
theorem dL_holds_241 : decode cL_holds 241 = .ok (.istore 5, 2) := zd_at zo_cL_holds_120 20 rfl
theorem dL_holds_243 : decode cL_holds 243 = .ok (.iload 6, 2) := zd_at zo_cL_holds_120 21 rfl
theorem dL_holds_245 : decode cL_holds 245 = .ok (.iload 9, 2) := zd_at zo_cL_holds_120 22 rfl
theorem dL_holds_247 : decode cL_holds 247 = .ok (.ifCond .ne 7, 3) := zd_at zo_cL_holds_120 23 rfl
theorem dL_holds_250 : decode cL_holds 250 = .ok (.iconst 0, 1) := zd_at zo_cL_holds_120 24 rfl
theorem dL_holds_251 : decode cL_holds 251 = .ok (.goto 4, 3) := zd_at zo_cL_holds_120 25 rfl
theorem dL_holds_254 : decode cL_holds 254 = .ok (.iconst 1, 1) := zd_at zo_cL_holds_120 26 rfl
theorem dL_holds_255 : decode cL_holds 255 = .ok (.iadd, 1) := zd_at zo_cL_holds_120 27 rfl
theorem dL_holds_256 : decode cL_holds 256 = .ok (.istore 6, 2) := zd_at zo_cL_holds_120 28 rfl
theorem dL_holds_258 : decode cL_holds 258 = .ok (.iload 9, 2) := zd_at zo_cL_holds_120 29 rfl
theorem dL_holds_260 : decode cL_holds 260 = .ok (.ifCond .ne 15, 3) := zd_at zo_cL_holds_120 30 rfl
theorem dL_holds_263 : decode cL_holds 263 = .ok (.aload_n 0, 1) := zd_at zo_cL_holds_120 31 rfl
theorem dL_holds_264 : decode cL_holds 264 = .ok (.iconst 2, 1) := zd_at zo_cL_holds_120 32 rfl
theorem dL_holds_265 : decode cL_holds 265 = .ok (.iload 14, 2) := zd_at zo_cL_holds_120 33 rfl
theorem dL_holds_267 : decode cL_holds 267 = .ok (.iconst 0, 1) := zd_at zo_cL_holds_120 34 rfl
theorem dL_holds_268 : decode cL_holds 268 = .ok (.iconst 0, 1) := zd_at zo_cL_holds_120 35 rfl
theorem dL_holds_269 : decode cL_holds 269 = .ok (.invokestatic 126, 3) := zd_at zo_cL_holds_120 36 rfl
theorem dL_holds_272 : decode cL_holds 272 = .ok (.goto 12, 3) := zd_at zo_cL_holds_120 37 rfl
theorem dL_holds_275 : decode cL_holds 275 = .ok (.aload_n 0, 1) := zd_at zo_cL_holds_120 38 rfl
theorem dL_holds_276 : decode cL_holds 276 = .ok (.iconst 3, 1) := zd_at zo_cL_holds_120 39 rfl
theorem dL_holds_277 : decode cL_holds 277 = .ok (.iload 14, 2) := zd_at zo_cL_holds_120 40 rfl
theorem dL_holds_279 : decode cL_holds 279 = .ok (.iconst 2, 1) := zd_at zo_cL_holds_120 41 rfl
theorem dL_holds_280 : decode cL_holds 280 = .ok (.iconst 0, 1) := zd_at zo_cL_holds_120 42 rfl
theorem dL_holds_281 : decode cL_holds 281 = .ok (.invokestatic 126, 3) := zd_at zo_cL_holds_120 43 rfl
theorem dL_holds_284 : decode cL_holds 284 = .ok (.istore 15, 2) := zd_at zo_cL_holds_120 44 rfl
theorem dL_holds_286 : decode cL_holds 286 = .ok (.iload 9, 2) := zd_at zo_cL_holds_120 45 rfl
theorem dL_holds_288 : decode cL_holds 288 = .ok (.ifCond .ne 15, 3) := zd_at zo_cL_holds_120 46 rfl
theorem dL_holds_291 : decode cL_holds 291 = .ok (.aload_n 0, 1) := zd_at zo_cL_holds_120 47 rfl
theorem dL_holds_292 : decode cL_holds 292 = .ok (.iconst 2, 1) := zd_at zo_cL_holds_120 48 rfl
theorem dL_holds_293 : decode cL_holds 293 = .ok (.iload 14, 2) := zd_at zo_cL_holds_120 49 rfl
theorem dL_holds_295 : decode cL_holds 295 = .ok (.iconst 3, 1) := zd_at zo_cL_holds_120 50 rfl
theorem dL_holds_296 : decode cL_holds 296 = .ok (.iconst 0, 1) := zd_at zo_cL_holds_120 51 rfl
theorem dL_holds_297 : decode cL_holds 297 = .ok (.invokestatic 126, 3) := zd_at zo_cL_holds_120 52 rfl
theorem dL_holds_300 : decode cL_holds 300 = .ok (.goto 12, 3) := zd_at zo_cL_holds_120 53 rfl
theorem dL_holds_303 : decode cL_holds 303 = .ok (.aload_n 0, 1) := zd_at zo_cL_holds_120 54 rfl
theorem dL_holds_304 : decode cL_holds 304 = .ok (.iconst 3, 1) := zd_at zo_cL_holds_120 55 rfl
theorem dL_holds_305 : decode cL_holds 305 = .ok (.iload 14, 2) := zd_at zo_cL_holds_120 56 rfl
theorem dL_holds_307 : decode cL_holds 307 = .ok (.iconst 5, 1) := zd_at zo_cL_holds_120 57 rfl
theorem dL_holds_308 : decode cL_holds 308 = .ok (.iconst 0, 1) := zd_at zo_cL_holds_120 58 rfl
theorem dL_holds_309 : decode cL_holds 309 = .ok (.invokestatic 126, 3) := zd_at zo_cL_holds_120 59 rfl
theorem dL_holds_312 : decode cL_holds 312 = .ok (.istore 16, 2) := zd_at zo_cL_holds_120 60 rfl
theorem dL_holds_314 : decode cL_holds 314 = .ok (.iload 15, 2) := zd_at zo_cL_holds_120 61 rfl
theorem dL_holds_316 : decode cL_holds 316 = .ok (.iload 11, 2) := zd_at zo_cL_holds_120 62 rfl
theorem dL_holds_318 : decode cL_holds 318 = .ok (.if_icmp .ge 8, 3) := zd_at zo_cL_holds_120 63 rfl
theorem dL_holds_321 : decode cL_holds 321 = .ok (.iload 15, 2) := zd_at zo_cL_holds_120 64 rfl
theorem dL_holds_323 : decode cL_holds 323 = .ok (.goto 5, 3) := zd_at zo_cL_holds_120 65 rfl
theorem dL_holds_326 : decode cL_holds 326 = .ok (.iload 11, 2) := zd_at zo_cL_holds_120 66 rfl
theorem dL_holds_328 : decode cL_holds 328 = .ok (.istore 11, 2) := zd_at zo_cL_holds_120 67 rfl
theorem dL_holds_330 : decode cL_holds 330 = .ok (.iload 16, 2) := zd_at zo_cL_holds_120 68 rfl
theorem dL_holds_332 : decode cL_holds 332 = .ok (.iload 12, 2) := zd_at zo_cL_holds_120 69 rfl
theorem dL_holds_334 : decode cL_holds 334 = .ok (.if_icmp .le 8, 3) := zd_at zo_cL_holds_120 70 rfl
theorem dL_holds_337 : decode cL_holds 337 = .ok (.iload 16, 2) := zd_at zo_cL_holds_120 71 rfl
theorem dL_holds_339 : decode cL_holds 339 = .ok (.goto 5, 3) := zd_at zo_cL_holds_120 72 rfl
theorem dL_holds_342 : decode cL_holds 342 = .ok (.iload 12, 2) := zd_at zo_cL_holds_120 73 rfl
theorem dL_holds_344 : decode cL_holds 344 = .ok (.istore 12, 2) := zd_at zo_cL_holds_120 74 rfl
theorem dL_holds_346 : decode cL_holds 346 = .ok (.iload 9, 2) := zd_at zo_cL_holds_120 75 rfl
theorem dL_holds_348 : decode cL_holds 348 = .ok (.ifCond .ne 25, 3) := zd_at zo_cL_holds_120 76 rfl
theorem dL_holds_351 : decode cL_holds 351 = .ok (.aload_n 0, 1) := zd_at zo_cL_holds_120 77 rfl
theorem dL_holds_352 : decode cL_holds 352 = .ok (.iconst 2, 1) := zd_at zo_cL_holds_120 78 rfl
theorem dL_holds_353 : decode cL_holds 353 = .ok (.iload 14, 2) := zd_at zo_cL_holds_120 79 rfl
theorem dL_holds_355 : decode cL_holds 355 = .ok (.iconst 4, 1) := zd_at zo_cL_holds_120 80 rfl
theorem dL_holds_356 : decode cL_holds 356 = .ok (.iconst 0, 1) := zd_at zo_cL_holds_120 81 rfl
theorem dL_holds_357 : decode cL_holds 357 = .ok (.invokestatic 126, 3) := zd_at zo_cL_holds_120 82 rfl
theorem dL_holds_360 : decode cL_holds 360 = .ok (.iload 8, 2) := zd_at zo_cL_holds_120 83 rfl
theorem dL_holds_362 : decode cL_holds 362 = .ok (.if_icmp .ne 7, 3) := zd_at zo_cL_holds_120 84 rfl
theorem dL_holds_365 : decode cL_holds 365 = .ok (.iconst 1, 1) := zd_at zo_cL_holds_120 85 rfl
theorem dL_holds_366 : decode cL_holds 366 = .ok (.goto 41, 3) := zd_at zo_cL_holds_120 86 rfl
theorem dL_holds_369 : decode cL_holds 369 = .ok (.iconst 0, 1) := zd_at zo_cL_holds_120 87 rfl
theorem dL_holds_370 : decode cL_holds 370 = .ok (.goto 37, 3) := zd_at zo_cL_holds_120 88 rfl
theorem dL_holds_373 : decode cL_holds 373 = .ok (.aload_n 0, 1) := zd_at zo_cL_holds_120 89 rfl
theorem dL_holds_374 : decode cL_holds 374 = .ok (.iconst 3, 1) := zd_at zo_cL_holds_120 90 rfl
theorem dL_holds_375 : decode cL_holds 375 = .ok (.iload 14, 2) := zd_at zo_cL_holds_120 91 rfl
theorem dL_holds_377 : decode cL_holds 377 = .ok (.bipush 6, 2) := zd_at zo_cL_holds_120 92 rfl
theorem dL_holds_379 : decode cL_holds 379 = .ok (.iconst 0, 1) := zd_at zo_cL_holds_120 93 rfl
theorem dL_holds_380 : decode cL_holds 380 = .ok (.invokestatic 126, 3) := zd_at zo_cL_holds_120 94 rfl
theorem dL_holds_383 : decode cL_holds 383 = .ok (.iload 8, 2) := zd_at zo_cL_holds_120 95 rfl
theorem dL_holds_385 : decode cL_holds 385 = .ok (.if_icmp .ne 21, 3) := zd_at zo_cL_holds_120 96 rfl
theorem dL_holds_388 : decode cL_holds 388 = .ok (.iload 13, 2) := zd_at zo_cL_holds_120 97 rfl
theorem dL_holds_390 : decode cL_holds 390 = .ok (.ifCond .gt 12, 3) := zd_at zo_cL_holds_120 98 rfl
theorem dL_holds_393 : decode cL_holds 393 = .ok (.iload 14, 2) := zd_at zo_cL_holds_120 99 rfl
theorem dL_holds_395 : decode cL_holds 395 = .ok (.iload 8, 2) := zd_at zo_cL_holds_120 100 rfl
theorem dL_holds_397 : decode cL_holds 397 = .ok (.iconst 1, 1) := zd_at zo_cL_holds_120 101 rfl
theorem dL_holds_398 : decode cL_holds 398 = .ok (.iadd, 1) := zd_at zo_cL_holds_120 102 rfl
theorem dL_holds_399 : decode cL_holds 399 = .ok (.if_icmp .ne 7, 3) := zd_at zo_cL_holds_120 103 rfl
theorem dL_holds_402 : decode cL_holds 402 = .ok (.iconst 1, 1) := zd_at zo_cL_holds_120 104 rfl
theorem dL_holds_403 : decode cL_holds 403 = .ok (.goto 4, 3) := zd_at zo_cL_holds_120 105 rfl
theorem dL_holds_406 : decode cL_holds 406 = .ok (.iconst 0, 1) := zd_at zo_cL_holds_120 106 rfl
theorem dL_holds_407 : decode cL_holds 407 = .ok (.istore 7, 2) := zd_at zo_cL_holds_120 107 rfl
theorem dL_holds_409 : decode cL_holds 409 = .ok (.iinc 13 1, 3) := zd_at zo_cL_holds_120 108 rfl
theorem dL_holds_412 : decode cL_holds 412 = .ok (.goto (-208), 3) := zd_at zo_cL_holds_120 109 rfl
theorem dL_holds_415 : decode cL_holds 415 = .ok (.iload 7, 2) := zd_at zo_cL_holds_120 110 rfl
theorem dL_holds_417 : decode cL_holds 417 = .ok (.ifCond .eq 56, 3) := zd_at zo_cL_holds_120 111 rfl
theorem dL_holds_420 : decode cL_holds 420 = .ok (.iload 10, 2) := zd_at zo_cL_holds_120 112 rfl
theorem dL_holds_422 : decode cL_holds 422 = .ok (.ifCond .ne 19, 3) := zd_at zo_cL_holds_120 113 rfl
theorem dL_holds_425 : decode cL_holds 425 = .ok (.aload_n 0, 1) := zd_at zo_cL_holds_120 114 rfl
theorem dL_holds_426 : decode cL_holds 426 = .ok (.iconst 3, 1) := zd_at zo_cL_holds_120 115 rfl
theorem dL_holds_427 : decode cL_holds 427 = .ok (.iload 8, 2) := zd_at zo_cL_holds_120 116 rfl
theorem dL_holds_429 : decode cL_holds 429 = .ok (.iconst 2, 1) := zd_at zo_cL_holds_120 117 rfl
theorem dL_holds_430 : decode cL_holds 430 = .ok (.iconst 0, 1) := zd_at zo_cL_holds_120 118 rfl
theorem dL_holds_431 : decode cL_holds 431 = .ok (.invokestatic 126, 3) := zd_at zo_cL_holds_120 119 rfl
def zl_cL_holds_240 : List (Nat × Instr × Nat) := [(434, .iconst (-1), 1), (435, .if_icmp .ne 38, 3), (438, .goto 31, 3), (441, .aload_n 0, 1), (442, .iconst 3, 1), (443, .iload 8, 2), (445, .iconst 2, 1), (446, .iconst 0, 1), (447, .invokestatic 126, 3), (450, .iload 11, 2), (452, .if_icmp .ne 21, 3), (455, .aload_n 0, 1), (456, .iconst 3, 1), (457, .iload 8, 2), (459, .iconst 5, 1), (460, .iconst 0, 1), (461, .invokestatic 126, 3), (464, .iload 12, 2), (466, .if_icmp .ne 7, 3), (469, .iconst 1, 1), (470, .goto 4, 3), (473, .iconst 0, 1), (474, .istore 7, 2), (476, .iinc 8 1, 3), (479, .goto (-409), 3), (482, .iload 7, 2), (484, .ifCond .eq 48, 3), (487, .iload 5, 2), (489, .iload_n 3, 1), (490, .if_icmp .ne 42, 3), (493, .iload 6, 2), (495, .iload_n 2, 1), (496, .iconst 1, 1), (497, .isub, 1), (498, .if_icmp .ne 34, 3), (501, .iload_n 2, 1), (502, .iconst 1, 1), (503, .if_icmp .gt 25, 3), (506, .aload_n 0, 1), (507, .iconst 1, 1), (508, .iconst 3, 1), (509, .iconst 0, 1), (510, .iconst 0, 1), (511, .invokestatic 126, 3), (514, .ifCond .ne 18, 3), (517, .aload_n 0, 1), (518, .iconst 1, 1), (519, .iconst 4, 1), (520, .iconst 0, 1), (521, .iconst 0, 1), (522, .invokestatic 126, 3), (525, .ifCond .ne 7, 3), (528, .iconst 1, 1), (529, .goto 4, 3), (532, .iconst 0, 1), (533, .istore 7, 2), (535, .iload_n 1, 1), (536, .bipush 100, 2), (538, .irem, 1), (539, .istore 8, 2), (541, .iload_n 1, 1), (542, .sipush 128, 3), (545, .idiv, 1), (546, .bipush 100, 2), (548, .irem, 1), (549, .istore 9, 2), (551, .iload 8, 2), (553, .iload_n 1, 1), (554, .sipush 16384, 3), (557, .idiv, 1), (558, .bipush 100, 2), (560, .iload 8, 2), (562, .isub, 1), (563, .irem, 1), (564, .iadd, 1), (565, .istore 10, 2), (567, .iload 9, 2), (569, .iload_n 1, 1), (570, .ldc 160, 2), (572, .idiv, 1), (573, .bipush 100, 2), (575, .iload 9, 2), (577, .isub, 1), (578, .irem, 1), (579, .iadd, 1), (580, .istore 11, 2), (582, .aload_n 0, 1), (583, .iload 8, 2), (585, .iload 9, 2), (587, .iload 10, 2), (589, .iload 11, 2), (591, .invokestatic 133, 3), (594, .istore 12, 2), (596, .iconst 0, 1), (597, .istore 13, 2), (599, .iconst 0, 1), (600, .istore 14, 2), (602, .iload 14, 2), (604, .bipush 24, 2), (606, .if_icmp .ge 132, 3), (609, .iload 7, 2), (611, .ifCond .eq 127, 3), (614, .aload_n 0, 1), (615, .iconst 2, 1), (616, .iload 14, 2), (618, .iconst 0, 1), (619, .iconst 0, 1), (620, .invokestatic 126, 3), (623, .ifCond .lt 63, 3), (626, .aload_n 0, 1), (627, .iconst 2, 1), (628, .iload 14, 2), (630, .iconst 0, 1), (631, .iconst 0, 1), (632, .invokestatic 126, 3), (635, .iload 10, 2), (637, .if_icmp .gt 49, 3), (640, .aload_n 0, 1), (641, .iconst 2, 1), (642, .iload 14, 2)]
theorem zo_cL_holds_240 : zd_ok cL_holds zl_cL_holds_240 = true := by decide +kernel
theorem dL_holds_434 : decode cL_holds 434 = .ok (.iconst (-1), 1) := zd_at zo_cL_holds_240 0 rfl
theorem dL_holds_435 : decode cL_holds 435 = .ok (.if_icmp .ne 38, 3) := zd_at zo_cL_holds_240 1 rfl
theorem dL_holds_438 : decode cL_holds 438 = .ok (.goto 31, 3) := zd_at zo_cL_holds_240 2 rfl
theorem dL_holds_441 : decode cL_holds 441 = .ok (.aload_n 0, 1) := zd_at zo_cL_holds_240 3 rfl
theorem dL_holds_442 : decode cL_holds 442 = .ok (.iconst 3, 1) := zd_at zo_cL_holds_240 4 rfl
theorem dL_holds_443 : decode cL_holds 443 = .ok (.iload 8, 2) := zd_at zo_cL_holds_240 5 rfl
theorem dL_holds_445 : decode cL_holds 445 = .ok (.iconst 2, 1) := zd_at zo_cL_holds_240 6 rfl
theorem dL_holds_446 : decode cL_holds 446 = .ok (.iconst 0, 1) := zd_at zo_cL_holds_240 7 rfl
theorem dL_holds_447 : decode cL_holds 447 = .ok (.invokestatic 126, 3) := zd_at zo_cL_holds_240 8 rfl
theorem dL_holds_450 : decode cL_holds 450 = .ok (.iload 11, 2) := zd_at zo_cL_holds_240 9 rfl
theorem dL_holds_452 : decode cL_holds 452 = .ok (.if_icmp .ne 21, 3) := zd_at zo_cL_holds_240 10 rfl
theorem dL_holds_455 : decode cL_holds 455 = .ok (.aload_n 0, 1) := zd_at zo_cL_holds_240 11 rfl
theorem dL_holds_456 : decode cL_holds 456 = .ok (.iconst 3, 1) := zd_at zo_cL_holds_240 12 rfl
theorem dL_holds_457 : decode cL_holds 457 = .ok (.iload 8, 2) := zd_at zo_cL_holds_240 13 rfl
theorem dL_holds_459 : decode cL_holds 459 = .ok (.iconst 5, 1) := zd_at zo_cL_holds_240 14 rfl
theorem dL_holds_460 : decode cL_holds 460 = .ok (.iconst 0, 1) := zd_at zo_cL_holds_240 15 rfl
theorem dL_holds_461 : decode cL_holds 461 = .ok (.invokestatic 126, 3) := zd_at zo_cL_holds_240 16 rfl
theorem dL_holds_464 : decode cL_holds 464 = .ok (.iload 12, 2) := zd_at zo_cL_holds_240 17 rfl
theorem dL_holds_466 : decode cL_holds 466 = .ok (.if_icmp .ne 7, 3) := zd_at zo_cL_holds_240 18 rfl
theorem dL_holds_469 : decode cL_holds 469 = .ok (.iconst 1, 1) := zd_at zo_cL_holds_240 19 rfl
theorem dL_holds_470 : decode cL_holds 470 = .ok (.goto 4, 3) := zd_at zo_cL_holds_240 20 rfl
theorem dL_holds_473 : decode cL_holds 473 = .ok (.iconst 0, 1) := zd_at zo_cL_holds_240 21 rfl
theorem dL_holds_474 : decode cL_holds 474 = .ok (.istore 7, 2) := zd_at zo_cL_holds_240 22 rfl
theorem dL_holds_476 : decode cL_holds 476 = .ok (.iinc 8 1, 3) := zd_at zo_cL_holds_240 23 rfl
theorem dL_holds_479 : decode cL_holds 479 = .ok (.goto (-409), 3) := zd_at zo_cL_holds_240 24 rfl
theorem dL_holds_482 : decode cL_holds 482 = .ok (.iload 7, 2) := zd_at zo_cL_holds_240 25 rfl
theorem dL_holds_484 : decode cL_holds 484 = .ok (.ifCond .eq 48, 3) := zd_at zo_cL_holds_240 26 rfl
theorem dL_holds_487 : decode cL_holds 487 = .ok (.iload 5, 2) := zd_at zo_cL_holds_240 27 rfl
theorem dL_holds_489 : decode cL_holds 489 = .ok (.iload_n 3, 1) := zd_at zo_cL_holds_240 28 rfl
theorem dL_holds_490 : decode cL_holds 490 = .ok (.if_icmp .ne 42, 3) := zd_at zo_cL_holds_240 29 rfl
theorem dL_holds_493 : decode cL_holds 493 = .ok (.iload 6, 2) := zd_at zo_cL_holds_240 30 rfl
theorem dL_holds_495 : decode cL_holds 495 = .ok (.iload_n 2, 1) := zd_at zo_cL_holds_240 31 rfl
theorem dL_holds_496 : decode cL_holds 496 = .ok (.iconst 1, 1) := zd_at zo_cL_holds_240 32 rfl
theorem dL_holds_497 : decode cL_holds 497 = .ok (.isub, 1) := zd_at zo_cL_holds_240 33 rfl
theorem dL_holds_498 : decode cL_holds 498 = .ok (.if_icmp .ne 34, 3) := zd_at zo_cL_holds_240 34 rfl
theorem dL_holds_501 : decode cL_holds 501 = .ok (.iload_n 2, 1) := zd_at zo_cL_holds_240 35 rfl
theorem dL_holds_502 : decode cL_holds 502 = .ok (.iconst 1, 1) := zd_at zo_cL_holds_240 36 rfl
theorem dL_holds_503 : decode cL_holds 503 = .ok (.if_icmp .gt 25, 3) := zd_at zo_cL_holds_240 37 rfl
theorem dL_holds_506 : decode cL_holds 506 = .ok (.aload_n 0, 1) := zd_at zo_cL_holds_240 38 rfl
theorem dL_holds_507 : decode cL_holds 507 = .ok (.iconst 1, 1) := zd_at zo_cL_holds_240 39 rfl
theorem dL_holds_508 : decode cL_holds 508 = .ok (.iconst 3, 1) := zd_at zo_cL_holds_240 40 rfl
theorem dL_holds_509 : decode cL_holds 509 = .ok (.iconst 0, 1) := zd_at zo_cL_holds_240 41 rfl
theorem dL_holds_510 : decode cL_holds 510 = .ok (.iconst 0, 1) := zd_at zo_cL_holds_240 42 rfl
theorem dL_holds_511 : decode cL_holds 511 = .ok (.invokestatic 126, 3) := zd_at zo_cL_holds_240 43 rfl
theorem dL_holds_514 : decode cL_holds 514 = .ok (.ifCond .ne 18, 3) := zd_at zo_cL_holds_240 44 rfl
theorem dL_holds_517 : decode cL_holds 517 = .ok (.aload_n 0, 1) := zd_at zo_cL_holds_240 45 rfl
theorem dL_holds_518 : decode cL_holds 518 = .ok (.iconst 1, 1) := zd_at zo_cL_holds_240 46 rfl
theorem dL_holds_519 : decode cL_holds 519 = .ok (.iconst 4, 1) := zd_at zo_cL_holds_240 47 rfl
theorem dL_holds_520 : decode cL_holds 520 = .ok (.iconst 0, 1) := zd_at zo_cL_holds_240 48 rfl
theorem dL_holds_521 : decode cL_holds 521 = .ok (.iconst 0, 1) := zd_at zo_cL_holds_240 49 rfl
theorem dL_holds_522 : decode cL_holds 522 = .ok (.invokestatic 126, 3) := zd_at zo_cL_holds_240 50 rfl
theorem dL_holds_525 : decode cL_holds 525 = .ok (.ifCond .ne 7, 3) := zd_at zo_cL_holds_240 51 rfl
theorem dL_holds_528 : decode cL_holds 528 = .ok (.iconst 1, 1) := zd_at zo_cL_holds_240 52 rfl
theorem dL_holds_529 : decode cL_holds 529 = .ok (.goto 4, 3) := zd_at zo_cL_holds_240 53 rfl
theorem dL_holds_532 : decode cL_holds 532 = .ok (.iconst 0, 1) := zd_at zo_cL_holds_240 54 rfl
theorem dL_holds_533 : decode cL_holds 533 = .ok (.istore 7, 2) := zd_at zo_cL_holds_240 55 rfl
theorem dL_holds_535 : decode cL_holds 535 = .ok (.iload_n 1, 1) := zd_at zo_cL_holds_240 56 rfl
theorem dL_holds_536 : decode cL_holds 536 = .ok (.bipush 100, 2) := zd_at zo_cL_holds_240 57 rfl
theorem dL_holds_538 : decode cL_holds 538 = .ok (.irem, 1) := zd_at zo_cL_holds_240 58 rfl
theorem dL_holds_539 : decode cL_holds 539 = .ok (.istore 8, 2) := zd_at zo_cL_holds_240 59 rfl
theorem dL_holds_541 : decode cL_holds 541 = .ok (.iload_n 1, 1) := zd_at zo_cL_holds_240 60 rfl
theorem dL_holds_542 : decode cL_holds 542 = .ok (.sipush 128, 3) := zd_at zo_cL_holds_240 61 rfl
theorem dL_holds_545 : decode cL_holds 545 = .ok (.idiv, 1) := zd_at zo_cL_holds_240 62 rfl
theorem dL_holds_546 : decode cL_holds 546 = .ok (.bipush 100, 2) := zd_at zo_cL_holds_240 63 rfl
theorem dL_holds_548 : decode cL_holds 548 = .ok (.irem, 1) := zd_at zo_cL_holds_240 64 rfl
theorem dL_holds_549 : decode cL_holds 549 = .ok (.istore 9, 2) := zd_at zo_cL_holds_240 65 rfl
theorem dL_holds_551 : decode cL_holds 551 = .ok (.iload 8, 2) := zd_at zo_cL_holds_240 66 rfl
theorem dL_holds_553 : decode cL_holds 553 = .ok (.iload_n 1, 1) := zd_at zo_cL_holds_240 67 rfl
theorem dL_holds_554 : decode cL_holds 554 = .ok (.sipush 16384, 3) := zd_at zo_cL_holds_240 68 rfl
theorem dL_holds_557 : decode cL_holds 557 = .ok (.idiv, 1) := zd_at zo_cL_holds_240 69 rfl
theorem dL_holds_558 : decode cL_holds 558 = .ok (.bipush 100, 2) := zd_at zo_cL_holds_240 70 rfl
theorem dL_holds_560 : decode cL_holds 560 = .ok (.iload 8, 2) := zd_at zo_cL_holds_240 71 rfl
theorem dL_holds_562 : decode cL_holds 562 = .ok (.isub, 1) := zd_at zo_cL_holds_240 72 rfl
theorem dL_holds_563 : decode cL_holds 563 = .ok (.irem, 1) := zd_at zo_cL_holds_240 73 rfl
theorem dL_holds_564 : decode cL_holds 564 = .ok (.iadd, 1) := zd_at zo_cL_holds_240 74 rfl
theorem dL_holds_565 : decode cL_holds 565 = .ok (.istore 10, 2) := zd_at zo_cL_holds_240 75 rfl
theorem dL_holds_567 : decode cL_holds 567 = .ok (.iload 9, 2) := zd_at zo_cL_holds_240 76 rfl
theorem dL_holds_569 : decode cL_holds 569 = .ok (.iload_n 1, 1) := zd_at zo_cL_holds_240 77 rfl
theorem dL_holds_570 : decode cL_holds 570 = .ok (.ldc 160, 2) := zd_at zo_cL_holds_240 78 rfl
theorem dL_holds_572 : decode cL_holds 572 = .ok (.idiv, 1) := zd_at zo_cL_holds_240 79 rfl
theorem dL_holds_573 : decode cL_holds 573 = .ok (.bipush 100, 2) := zd_at zo_cL_holds_240 80 rfl
theorem dL_holds_575 : decode cL_holds 575 = .ok (.iload 9, 2) := zd_at zo_cL_holds_240 81 rfl
theorem dL_holds_577 : decode cL_holds 577 = .ok (.isub, 1) := zd_at zo_cL_holds_240 82 rfl
theorem dL_holds_578 : decode cL_holds 578 = .ok (.irem, 1) := zd_at zo_cL_holds_240 83 rfl
theorem dL_holds_579 : decode cL_holds 579 = .ok (.iadd, 1) := zd_at zo_cL_holds_240 84 rfl
theorem dL_holds_580 : decode cL_holds 580 = .ok (.istore 11, 2) := zd_at zo_cL_holds_240 85 rfl
theorem dL_holds_582 : decode cL_holds 582 = .ok (.aload_n 0, 1) := zd_at zo_cL_holds_240 86 rfl
theorem dL_holds_583 : decode cL_holds 583 = .ok (.iload 8, 2) := zd_at zo_cL_holds_240 87 rfl
theorem dL_holds_585 : decode cL_holds 585 = .ok (.iload 9, 2) := zd_at zo_cL_holds_240 88 rfl
theorem dL_holds_587 : decode cL_holds 587 = .ok (.iload 10, 2) := zd_at zo_cL_holds_240 89 rfl
theorem dL_holds_589 : decode cL_holds 589 = .ok (.iload 11, 2) := zd_at zo_cL_holds_240 90 rfl
theorem dL_holds_591 : decode cL_holds 591 = .ok (.invokestatic 133, 3) := zd_at zo_cL_holds_240 91 rfl
theorem dL_holds_594 : decode cL_holds 594 = .ok (.istore 12, 2) := zd_at zo_cL_holds_240 92 rfl
theorem dL_holds_596 : decode cL_holds 596 = .ok (.iconst 0, 1) := zd_at zo_cL_holds_240 93 rfl
theorem dL_holds_597 : decode cL_holds 597 = .ok (.istore 13, 2) := zd_at zo_cL_holds_240 94 rfl
theorem dL_holds_599 : decode cL_holds 599 = .ok (.iconst 0, 1) := zd_at zo_cL_holds_240 95 rfl
theorem dL_holds_600 : decode cL_holds 600 = .ok (.istore 14, 2) := zd_at zo_cL_holds_240 96 rfl
theorem dL_holds_602 : decode cL_holds 602 = .ok (.iload 14, 2) := zd_at zo_cL_holds_240 97 rfl
theorem dL_holds_604 : decode cL_holds 604 = .ok (.bipush 24, 2) := zd_at zo_cL_holds_240 98 rfl
theorem dL_holds_606 : decode cL_holds 606 = .ok (.if_icmp .ge 132, 3) := zd_at zo_cL_holds_240 99 rfl
theorem dL_holds_609 : decode cL_holds 609 = .ok (.iload 7, 2) := zd_at zo_cL_holds_240 100 rfl
theorem dL_holds_611 : decode cL_holds 611 = .ok (.ifCond .eq 127, 3) := zd_at zo_cL_holds_240 101 rfl
theorem dL_holds_614 : decode cL_holds 614 = .ok (.aload_n 0, 1) := zd_at zo_cL_holds_240 102 rfl
theorem dL_holds_615 : decode cL_holds 615 = .ok (.iconst 2, 1) := zd_at zo_cL_holds_240 103 rfl
theorem dL_holds_616 : decode cL_holds 616 = .ok (.iload 14, 2) := zd_at zo_cL_holds_240 104 rfl
theorem dL_holds_618 : decode cL_holds 618 = .ok (.iconst 0, 1) := zd_at zo_cL_holds_240 105 rfl
theorem dL_holds_619 : decode cL_holds 619 = .ok (.iconst 0, 1) := zd_at zo_cL_holds_240 106 rfl
theorem dL_holds_620 : decode cL_holds 620 = .ok (.invokestatic 126, 3) := zd_at zo_cL_holds_240 107 rfl
theorem dL_holds_623 : decode cL_holds 623 = .ok (.ifCond .lt 63, 3) := zd_at zo_cL_holds_240 108 rfl
theorem dL_holds_626 : decode cL_holds 626 = .ok (.aload_n 0, 1) := zd_at zo_cL_holds_240 109 rfl
theorem dL_holds_627 : decode cL_holds 627 = .ok (.iconst 2, 1) := zd_at zo_cL_holds_240 110 rfl
theorem dL_holds_628 : decode cL_holds 628 = .ok (.iload 14, 2) := zd_at zo_cL_holds_240 111 rfl
theorem dL_holds_630 : decode cL_holds 630 = .ok (.iconst 0, 1) := zd_at zo_cL_holds_240 112 rfl
theorem dL_holds_631 : decode cL_holds 631 = .ok (.iconst 0, 1) := zd_at zo_cL_holds_240 113 rfl
theorem dL_holds_632 : decode cL_holds 632 = .ok (.invokestatic 126, 3) := zd_at zo_cL_holds_240 114 rfl
theorem dL_holds_635 : decode cL_holds 635 = .ok (.iload 10, 2) := zd_at zo_cL_holds_240 115 rfl
theorem dL_holds_637 : decode cL_holds 637 = .ok (.if_icmp .gt 49, 3) := zd_at zo_cL_holds_240 116 rfl
theorem dL_holds_640 : decode cL_holds 640 = .ok (.aload_n 0, 1) := zd_at zo_cL_holds_240 117 rfl
theorem dL_holds_641 : decode cL_holds 641 = .ok (.iconst 2, 1) := zd_at zo_cL_holds_240 118 rfl
theorem dL_holds_642 : decode cL_holds 642 = .ok (.iload 14, 2) := zd_at zo_cL_holds_240 119 rfl
def zl_cL_holds_360 : List (Nat × Instr × Nat) := [(644, .iconst 2, 1), (645, .iconst 0, 1), (646, .invokestatic 126, 3), (649, .iload 8, 2), (651, .if_icmp .lt 35, 3), (654, .aload_n 0, 1), (655, .iconst 2, 1), (656, .iload 14, 2), (658, .iconst 1, 1), (659, .iconst 0, 1), (660, .invokestatic 126, 3), (663, .iload 11, 2), (665, .if_icmp .gt 21, 3), (668, .aload_n 0, 1), (669, .iconst 2, 1), (670, .iload 14, 2), (672, .iconst 3, 1), (673, .iconst 0, 1), (674, .invokestatic 126, 3), (677, .iload 9, 2), (679, .if_icmp .lt 7, 3), (682, .iconst 1, 1), (683, .goto 4, 3), (686, .iconst 0, 1), (687, .istore 15, 2), (689, .iload 13, 2), (691, .iload 15, 2), (693, .ifCond .eq 7, 3), (696, .iconst 1, 1), (697, .goto 4, 3), (700, .iconst 0, 1), (701, .iadd, 1), (702, .istore 13, 2), (704, .iload 15, 2), (706, .iload 12, 2), (708, .iload 14, 2), (710, .ishr, 1), (711, .iconst 1, 1), (712, .iand, 1), (713, .iconst 1, 1), (714, .if_icmp .ne 7, 3), (717, .iconst 1, 1), (718, .goto 4, 3), (721, .iconst 0, 1), (722, .if_icmp .ne 7, 3), (725, .iconst 1, 1), (726, .goto 4, 3), (729, .iconst 0, 1), (730, .istore 7, 2), (732, .iinc 14 1, 3), (735, .goto (-133), 3), (738, .aload_n 0, 1), (739, .iload 8, 2), (741, .iload 9, 2), (743, .iload 10, 2), (745, .iload 11, 2), (747, .invokestatic 136, 3), (750, .istore 14, 2), (752, .aload_n 0, 1), (753, .iload 8, 2), (755, .iload 9, 2), (757, .iload 10, 2), (759, .iload 11, 2), (761, .invokestatic 139, 3), (764, .istore 15, 2), (766, .iload 7, 2), (768, .ifCond .eq 75, 3), (771, .iload 14, 2), (773, .iconst 1, 1), (774, .if_icmp .lt 69, 3), (777, .iload 14, 2), (779, .iload_n 2, 1), (780, .if_icmp .gt 63, 3), (783, .iload 13, 2), (785, .ifCond .eq 10, 3), (788, .iload 14, 2), (790, .iload 4, 2), (792, .if_icmp .le 51, 3), (795, .aload_n 0, 1), (796, .iconst 3, 1), (797, .iload 15, 2), (799, .iconst 0, 1), (800, .iconst 0, 1), (801, .invokestatic 126, 3), (804, .ifCond .ne 39, 3), (807, .iload_n 3, 1), (808, .ifCond .ne 7, 3), (811, .iconst 1, 1), (812, .goto 4, 3), (815, .iconst 0, 1), (816, .aload_n 0, 1), (817, .invokevirtual 161, 3), (820, .iconst (-1), 1), (821, .if_icmp .ne 7, 3), (824, .iconst 1, 1), (825, .goto 4, 3), (828, .iconst 0, 1), (829, .if_icmp .ne 14, 3), (832, .aload_n 0, 1), (833, .invokevirtual 164, 3), (836, .ifCond .lt 7, 3), (839, .iconst 1, 1), (840, .goto 4, 3), (843, .iconst 0, 1), (844, .istore 7, 2), (846, .aload_n 0, 1), (847, .iconst 1, 1), (848, .iconst 3, 1), (849, .iconst 0, 1), (850, .iconst 0, 1), (851, .invokestatic 126, 3), (854, .istore 16, 2), (856, .aload_n 0, 1), (857, .iload 8, 2), (859, .iload 9, 2), (861, .iload 10, 2), (863, .iload 11, 2), (865, .invokestatic 142, 3), (868, .istore 17, 2), (870, .iload_n 3, 1)]
theorem zo_cL_holds_360 : zd_ok cL_holds zl_cL_holds_360 = true := by decide +kernel
theorem dL_holds_644 : decode cL_holds 644 = .ok (.iconst 2, 1) := zd_at zo_cL_holds_360 0 rfl
theorem dL_holds_645 : decode cL_holds 645 = .ok (.iconst 0, 1) := zd_at zo_cL_holds_360 1 rfl
theorem dL_holds_646 : decode cL_holds 646 = .ok (.invokestatic 126, 3) := zd_at zo_cL_holds_360 2 rfl
theorem dL_holds_649 : decode cL_holds 649 = .ok (.iload 8, 2) := zd_at zo_cL_holds_360 3 rfl
theorem dL_holds_651 : decode cL_holds 651 = .ok (.if_icmp .lt 35, 3) := zd_at zo_cL_holds_360 4 rfl
theorem dL_holds_654 : decode cL_holds 654 = .ok (.aload_n 0, 1) := zd_at zo_cL_holds_360 5 rfl
theorem dL_holds_655 : decode cL_holds 655 = .ok (.iconst 2, 1) := zd_at zo_cL_holds_360 6 rfl
theorem dL_holds_656 : decode cL_holds 656 = .ok (.iload 14, 2) := zd_at zo_cL_holds_360 7 rfl
theorem dL_holds_658 : decode cL_holds 658 = .ok (.iconst 1, 1) := zd_at zo_cL_holds_360 8 rfl
theorem dL_holds_659 : decode cL_holds 659 = .ok (.iconst 0, 1) := zd_at zo_cL_holds_360 9 rfl
theorem dL_holds_660 : decode cL_holds 660 = .ok (.invokestatic 126, 3) := zd_at zo_cL_holds_360 10 rfl
theorem dL_holds_663 : decode cL_holds 663 = .ok (.iload 11, 2) := zd_at zo_cL_holds_360 11 rfl
theorem dL_holds_665 : decode cL_holds 665 = .ok (.if_icmp .gt 21, 3) := zd_at zo_cL_holds_360 12 rfl
theorem dL_holds_668 : decode cL_holds 668 = .ok (.aload_n 0, 1) := zd_at zo_cL_holds_360 13 rfl
theorem dL_holds_669 : decode cL_holds 669 = .ok (.iconst 2, 1) := zd_at zo_cL_holds_360 14 rfl
theorem dL_holds_670 : decode cL_holds 670 = .ok (.iload 14, 2) := zd_at zo_cL_holds_360 15 rfl
theorem dL_holds_672 : decode cL_holds 672 = .ok (.iconst 3, 1) := zd_at zo_cL_holds_360 16 rfl
theorem dL_holds_673 : decode cL_holds 673 = .ok (.iconst 0, 1) := zd_at zo_cL_holds_360 17 rfl
theorem dL_holds_674 : decode cL_holds 674 = .ok (.invokestatic 126, 3) := zd_at zo_cL_holds_360 18 rfl
theorem dL_holds_677 : decode cL_holds 677 = .ok (.iload 9, 2) := zd_at zo_cL_holds_360 19 rfl
theorem dL_holds_679 : decode cL_holds 679 = .ok (.if_icmp .lt 7, 3) := zd_at zo_cL_holds_360 20 rfl
theorem dL_holds_682 : decode cL_holds 682 = .ok (.iconst 1, 1) := zd_at zo_cL_holds_360 21 rfl
theorem dL_holds_683 : decode cL_holds 683 = .ok (.goto 4, 3) := zd_at zo_cL_holds_360 22 rfl
theorem dL_holds_686 : decode cL_holds 686 = .ok (.iconst 0, 1) := zd_at zo_cL_holds_360 23 rfl
theorem dL_holds_687 : decode cL_holds 687 = .ok (.istore 15, 2) := zd_at zo_cL_holds_360 24 rfl
theorem dL_holds_689 : decode cL_holds 689 = .ok (.iload 13, 2) := zd_at zo_cL_holds_360 25 rfl
theorem dL_holds_691 : decode cL_holds 691 = .ok (.iload 15, 2) := zd_at zo_cL_holds_360 26 rfl
theorem dL_holds_693 : decode cL_holds 693 = .ok (.ifCond .eq 7, 3) := zd_at zo_cL_holds_360 27 rfl
theorem dL_holds_696 : decode cL_holds 696 = .ok (.iconst 1, 1) := zd_at zo_cL_holds_360 28 rfl
theorem dL_holds_697 : decode cL_holds 697 = .ok (.goto 4, 3) := zd_at zo_cL_holds_360 29 rfl
theorem dL_holds_700 : decode cL_holds 700 = .ok (.iconst 0, 1) := zd_at zo_cL_holds_360 30 rfl
theorem dL_holds_701 : decode cL_holds 701 = .ok (.iadd, 1) := zd_at zo_cL_holds_360 31 rfl
theorem dL_holds_702 : decode cL_holds 702 = .ok (.istore 13, 2) := zd_at zo_cL_holds_360 32 rfl
theorem dL_holds_704 : decode cL_holds 704 = .ok (.iload 15, 2) := zd_at zo_cL_holds_360 33 rfl
theorem dL_holds_706 : decode cL_holds 706 = .ok (.iload 12, 2) := zd_at zo_cL_holds_360 34 rfl
theorem dL_holds_708 : decode cL_holds 708 = .ok (.iload 14, 2) := zd_at zo_cL_holds_360 35 rfl
theorem dL_holds_710 : decode cL_holds 710 = .ok (.ishr, 1) := zd_at zo_cL_holds_360 36 rfl
theorem dL_holds_711 : decode cL_holds 711 = .ok (.iconst 1, 1) := zd_at zo_cL_holds_360 37 rfl
theorem dL_holds_712 : decode cL_holds 712 = .ok (.iand, 1) := zd_at zo_cL_holds_360 38 rfl
theorem dL_holds_713 : decode cL_holds 713 = .ok (.iconst 1, 1) := zd_at zo_cL_holds_360 39 rfl
theorem dL_holds_714 : decode cL_holds 714 = .ok (.if_icmp .ne 7, 3) := zd_at zo_cL_holds_360 40 rfl
theorem dL_holds_717 : decode cL_holds 717 = .ok (.iconst 1, 1) := zd_at zo_cL_holds_360 41 rfl
theorem dL_holds_718 : decode cL_holds 718 = .ok (.goto 4, 3) := zd_at zo_cL_holds_360 42 rfl
theorem dL_holds_721 : decode cL_holds 721 = .ok (.iconst 0, 1) := zd_at zo_cL_holds_360 43 rfl
theorem dL_holds_722 : decode cL_holds 722 = .ok (.if_icmp .ne 7, 3) := zd_at zo_cL_holds_360 44 rfl
theorem dL_holds_725 : decode cL_holds 725 = .ok (.iconst 1, 1) := zd_at zo_cL_holds_360 45 rfl
theorem dL_holds_726 : decode cL_holds 726 = .ok (.goto 4, 3) := zd_at zo_cL_holds_360 46 rfl
theorem dL_holds_729 : decode cL_holds 729 = .ok (.iconst 0, 1) := zd_at zo_cL_holds_360 47 rfl
theorem dL_holds_730 : decode cL_holds 730 = .ok (.istore 7, 2) := zd_at zo_cL_holds_360 48 rfl
theorem dL_holds_732 : decode cL_holds 732 = .ok (.iinc 14 1, 3) := zd_at zo_cL_holds_360 49 rfl
theorem dL_holds_735 : decode cL_holds 735 = .ok (.goto (-133), 3) := zd_at zo_cL_holds_360 50 rfl
theorem dL_holds_738 : decode cL_holds 738 = .ok (.aload_n 0, 1) := zd_at zo_cL_holds_360 51 rfl
theorem dL_holds_739 : decode cL_holds 739 = .ok (.iload 8, 2) := zd_at zo_cL_holds_360 52 rfl
theorem dL_holds_741 : decode cL_holds 741 = .ok (.iload 9, 2) := zd_at zo_cL_holds_360 53 rfl
theorem dL_holds_743 : decode cL_holds 743 = .ok (.iload 10, 2) := zd_at zo_cL_holds_360 54 rfl
theorem dL_holds_745 : decode cL_holds 745 = .ok (.iload 11, 2) := zd_at zo_cL_holds_360 55 rfl
theorem dL_holds_747 : decode cL_holds 747 = .ok (.invokestatic 136, 3) := zd_at zo_cL_holds_360 56 rfl
theorem dL_holds_750 : decode cL_holds 750 = .ok (.istore 14, 2) := zd_at zo_cL_holds_360 57 rfl
theorem dL_holds_752 : decode cL_holds 752 = .ok (.aload_n 0, 1) := zd_at zo_cL_holds_360 58 rfl
theorem dL_holds_753 : decode cL_holds 753 = .ok (.iload 8, 2) := zd_at zo_cL_holds_360 59 rfl
theorem dL_holds_755 : decode cL_holds 755 = .ok (.iload 9, 2) := zd_at zo_cL_holds_360 60 rfl
theorem dL_holds_757 : decode cL_holds 757 = .ok (.iload 10, 2) := zd_at zo_cL_holds_360 61 rfl
theorem dL_holds_759 : decode cL_holds 759 = .ok (.iload 11, 2) := zd_at zo_cL_holds_360 62 rfl
theorem dL_holds_761 : decode cL_holds 761 = .ok (.invokestatic 139, 3) := zd_at zo_cL_holds_360 63 rfl
theorem dL_holds_764 : decode cL_holds 764 = .ok (.istore 15, 2) := zd_at zo_cL_holds_360 64 rfl
theorem dL_holds_766 : decode cL_holds 766 = .ok (.iload 7, 2) := zd_at zo_cL_holds_360 65 rfl
theorem dL_holds_768 : decode cL_holds 768 = .ok (.ifCond .eq 75, 3) := zd_at zo_cL_holds_360 66 rfl
theorem dL_holds_771 : decode cL_holds 771 = .ok (.iload 14, 2) := zd_at zo_cL_holds_360 67 rfl
theorem dL_holds_773 : decode cL_holds 773 = .ok (.iconst 1, 1) := zd_at zo_cL_holds_360 68 rfl
theorem dL_holds_774 : decode cL_holds 774 = .ok (.if_icmp .lt 69, 3) := zd_at zo_cL_holds_360 69 rfl
theorem dL_holds_777 : decode cL_holds 777 = .ok (.iload 14, 2) := zd_at zo_cL_holds_360 70 rfl
theorem dL_holds_779 : decode cL_holds 779 = .ok (.iload_n 2, 1) := zd_at zo_cL_holds_360 71 rfl
theorem dL_holds_780 : decode cL_holds 780 = .ok (.if_icmp .gt 63, 3) := zd_at zo_cL_holds_360 72 rfl
theorem dL_holds_783 : decode cL_holds 783 = .ok (.iload 13, 2) := zd_at zo_cL_holds_360 73 rfl
theorem dL_holds_785 : decode cL_holds 785 = .ok (.ifCond .eq 10, 3) := zd_at zo_cL_holds_360 74 rfl
theorem dL_holds_788 : decode cL_holds 788 = .ok (.iload 14, 2) := zd_at zo_cL_holds_360 75 rfl
theorem dL_holds_790 : decode cL_holds 790 = .ok (.iload 4, 2) := zd_at zo_cL_holds_360 76 rfl
theorem dL_holds_792 : decode cL_holds 792 = .ok (.if_icmp .le 51, 3) := zd_at zo_cL_holds_360 77 rfl
theorem dL_holds_795 : decode cL_holds 795 = .ok (.aload_n 0, 1) := zd_at zo_cL_holds_360 78 rfl
theorem dL_holds_796 : decode cL_holds 796 = .ok (.iconst 3, 1) := zd_at zo_cL_holds_360 79 rfl
theorem dL_holds_797 : decode cL_holds 797 = .ok (.iload 15, 2) := zd_at zo_cL_holds_360 80 rfl
theorem dL_holds_799 : decode cL_holds 799 = .ok (.iconst 0, 1) := zd_at zo_cL_holds_360 81 rfl
theorem dL_holds_800 : decode cL_holds 800 = .ok (.iconst 0, 1) := zd_at zo_cL_holds_360 82 rfl
theorem dL_holds_801 : decode cL_holds 801 = .ok (.invokestatic 126, 3) := zd_at zo_cL_holds_360 83 rfl
theorem dL_holds_804 : decode cL_holds 804 = .ok (.ifCond .ne 39, 3) := zd_at zo_cL_holds_360 84 rfl
theorem dL_holds_807 : decode cL_holds 807 = .ok (.iload_n 3, 1) := zd_at zo_cL_holds_360 85 rfl
theorem dL_holds_808 : decode cL_holds 808 = .ok (.ifCond .ne 7, 3) := zd_at zo_cL_holds_360 86 rfl
theorem dL_holds_811 : decode cL_holds 811 = .ok (.iconst 1, 1) := zd_at zo_cL_holds_360 87 rfl
theorem dL_holds_812 : decode cL_holds 812 = .ok (.goto 4, 3) := zd_at zo_cL_holds_360 88 rfl
theorem dL_holds_815 : decode cL_holds 815 = .ok (.iconst 0, 1) := zd_at zo_cL_holds_360 89 rfl
theorem dL_holds_816 : decode cL_holds 816 = .ok (.aload_n 0, 1) := zd_at zo_cL_holds_360 90 rfl
theorem dL_holds_817 : decode cL_holds 817 = .ok (.invokevirtual 161, 3) := zd_at zo_cL_holds_360 91 rfl
theorem dL_holds_820 : decode cL_holds 820 = .ok (.iconst (-1), 1) := zd_at zo_cL_holds_360 92 rfl
theorem dL_holds_821 : decode cL_holds 821 = .ok (.if_icmp .ne 7, 3) := zd_at zo_cL_holds_360 93 rfl
theorem dL_holds_824 : decode cL_holds 824 = .ok (.iconst 1, 1) := zd_at zo_cL_holds_360 94 rfl
theorem dL_holds_825 : decode cL_holds 825 = .ok (.goto 4, 3) := zd_at zo_cL_holds_360 95 rfl
theorem dL_holds_828 : decode cL_holds 828 = .ok (.iconst 0, 1) := zd_at zo_cL_holds_360 96 rfl
theorem dL_holds_829 : decode cL_holds 829 = .ok (.if_icmp .ne 14, 3) := zd_at zo_cL_holds_360 97 rfl
theorem dL_holds_832 : decode cL_holds 832 = .ok (.aload_n 0, 1) := zd_at zo_cL_holds_360 98 rfl
theorem dL_holds_833 : decode cL_holds 833 = .ok (.invokevirtual 164, 3) := zd_at zo_cL_holds_360 99 rfl
theorem dL_holds_836 : decode cL_holds 836 = .ok (.ifCond .lt 7, 3) := zd_at zo_cL_holds_360 100 rfl
theorem dL_holds_839 : decode cL_holds 839 = .ok (.iconst 1, 1) := zd_at zo_cL_holds_360 101 rfl
theorem dL_holds_840 : decode cL_holds 840 = .ok (.goto 4, 3) := zd_at zo_cL_holds_360 102 rfl
theorem dL_holds_843 : decode cL_holds 843 = .ok (.iconst 0, 1) := zd_at zo_cL_holds_360 103 rfl
theorem dL_holds_844 : decode cL_holds 844 = .ok (.istore 7, 2) := zd_at zo_cL_holds_360 104 rfl
theorem dL_holds_846 : decode cL_holds 846 = .ok (.aload_n 0, 1) := zd_at zo_cL_holds_360 105 rfl
theorem dL_holds_847 : decode cL_holds 847 = .ok (.iconst 1, 1) := zd_at zo_cL_holds_360 106 rfl
theorem dL_holds_848 : decode cL_holds 848 = .ok (.iconst 3, 1) := zd_at zo_cL_holds_360 107 rfl
theorem dL_holds_849 : decode cL_holds 849 = .ok (.iconst 0, 1) := zd_at zo_cL_holds_360 108 rfl
theorem dL_holds_850 : decode cL_holds 850 = .ok (.iconst 0, 1) := zd_at zo_cL_holds_360 109 rfl
theorem dL_holds_851 : decode cL_holds 851 = .ok (.invokestatic 126, 3) := zd_at zo_cL_holds_360 110 rfl
theorem dL_holds_854 : decode cL_holds 854 = .ok (.istore 16, 2) := zd_at zo_cL_holds_360 111 rfl
theorem dL_holds_856 : decode cL_holds 856 = .ok (.aload_n 0, 1) := zd_at zo_cL_holds_360 112 rfl
theorem dL_holds_857 : decode cL_holds 857 = .ok (.iload 8, 2) := zd_at zo_cL_holds_360 113 rfl
theorem dL_holds_859 : decode cL_holds 859 = .ok (.iload 9, 2) := zd_at zo_cL_holds_360 114 rfl
theorem dL_holds_861 : decode cL_holds 861 = .ok (.iload 10, 2) := zd_at zo_cL_holds_360 115 rfl
theorem dL_holds_863 : decode cL_holds 863 = .ok (.iload 11, 2) := zd_at zo_cL_holds_360 116 rfl
theorem dL_holds_865 : decode cL_holds 865 = .ok (.invokestatic 142, 3) := zd_at zo_cL_holds_360 117 rfl
theorem dL_holds_868 : decode cL_holds 868 = .ok (.istore 17, 2) := zd_at zo_cL_holds_360 118 rfl
theorem dL_holds_870 : decode cL_holds 870 = .ok (.iload_n 3, 1) := zd_at zo_cL_holds_360 119 rfl
def zl_cL_holds_480 : List (Nat × Instr × Nat) := [(871, .bipush 24, 2), (873, .if_icmp .ge 131, 3), (876, .iload 7, 2), (878, .ifCond .eq 126, 3), (881, .aload_n 0, 1), (882, .iload 8, 2), (884, .iload 9, 2), (886, .iload 10, 2), (888, .iload 11, 2), (890, .invokestatic 130, 3), (893, .istore 18, 2), (895, .iload 18, 2), (897, .ifCond .lt 101, 3), (900, .aload_n 0, 1), (901, .iconst 2, 1), (902, .iload 18, 2), (904, .iconst 2, 1), (905, .iconst 0, 1), (906, .invokestatic 126, 3), (909, .iload 10, 2), (911, .if_icmp .ne 87, 3), (914, .aload_n 0, 1), (915, .iconst 1, 1), (916, .iconst 3, 1), (917, .iconst 0, 1), (918, .iconst 0, 1), (919, .invokestatic 126, 3), (922, .iload 16, 2), (924, .iload 17, 2), (926, .iadd, 1), (927, .if_icmp .ne 71, 3), (930, .aload_n 0, 1), (931, .iconst 1, 1), (932, .iconst 0, 1), (933, .iconst 0, 1), (934, .iconst 0, 1), (935, .invokestatic 126, 3), (938, .iload_n 3, 1), (939, .iconst 1, 1), (940, .iadd, 1), (941, .if_icmp .ne 57, 3), (944, .aload_n 0, 1), (945, .bipush 6, 2), (947, .iload 18, 2), (949, .iconst 0, 1), (950, .iconst 0, 1), (951, .invokestatic 126, 3), (954, .iconst 1, 1), (955, .if_icmp .lt 43, 3), (958, .aload_n 0, 1), (959, .iconst 1, 1), (960, .iconst 0, 1), (961, .iconst 0, 1), (962, .iconst 0, 1), (963, .invokestatic 126, 3), (966, .iload_n 3, 1), (967, .if_icmp .ne 31, 3), (970, .aload_n 0, 1), (971, .bipush 8, 2), (973, .iconst 0, 1), (974, .iconst 0, 1), (975, .iconst 0, 1), (976, .invokestatic 126, 3), (979, .ifCond .lt 19, 3), (982, .aload_n 0, 1), (983, .bipush 8, 2), (985, .iconst 0, 1), (986, .iconst 0, 1), (987, .iconst 0, 1), (988, .invokestatic 126, 3), (991, .ifCond .lt 7, 3), (994, .iconst 1, 1), (995, .goto 4, 3), (998, .iconst 0, 1), (999, .istore 7, 2), (1001, .goto 22, 3), (1004, .iload 7, 2), (1006, .ifCond .eq 14, 3), (1009, .iload 17, 2), (1011, .ldc 167, 2), (1013, .if_icmp .ne 7, 3), (1016, .iconst 1, 1), (1017, .goto 4, 3), (1020, .iconst 0, 1), (1021, .istore 7, 2), (1023, .iload 7, 2), (1025, .ifCond .eq 49, 3), (1028, .aload_n 0, 1), (1029, .iconst 1, 1), (1030, .iconst 1, 1), (1031, .iconst 0, 1), (1032, .iconst 0, 1), (1033, .invokestatic 126, 3), (1036, .iload_n 2, 1), (1037, .if_icmp .ne 37, 3), (1040, .aload_n 0, 1), (1041, .iconst 1, 1), (1042, .iconst 3, 1), (1043, .iconst 0, 1), (1044, .iconst 0, 1), (1045, .invokestatic 126, 3), (1048, .iload 16, 2), (1050, .if_icmp .ne 24, 3), (1053, .aload_n 0, 1), (1054, .iload 8, 2), (1056, .iload 9, 2), (1058, .iload 10, 2), (1060, .iload 11, 2), (1062, .invokestatic 133, 3), (1065, .iload 12, 2), (1067, .if_icmp .ne 7, 3), (1070, .iconst 1, 1), (1071, .goto 4, 3), (1074, .iconst 0, 1), (1075, .ireturn, 1)]
theorem zo_cL_holds_480 : zd_ok cL_holds zl_cL_holds_480 = true := by decide +kernel
theorem dL_holds_871 : decode cL_holds 871 = .ok (.bipush 24, 2) := zd_at zo_cL_holds_480 0 rfl
theorem dL_holds_873 : decode cL_holds 873 = .ok (.if_icmp .ge 131, 3) := zd_at zo_cL_holds_480 1 rfl
theorem dL_holds_876 : decode cL_holds 876 = .ok (.iload 7, 2) := zd_at zo_cL_holds_480 2 rfl
theorem dL_holds_878 : decode cL_holds 878 = .ok (.ifCond .eq 126, 3) := zd_at zo_cL_holds_480 3 rfl
theorem dL_holds_881 : decode cL_holds 881 = .ok (.aload_n 0, 1) := zd_at zo_cL_holds_480 4 rfl
theorem dL_holds_882 : decode cL_holds 882 = .ok (.iload 8, 2) := zd_at zo_cL_holds_480 5 rfl
theorem dL_holds_884 : decode cL_holds 884 = .ok (.iload 9, 2) := zd_at zo_cL_holds_480 6 rfl
theorem dL_holds_886 : decode cL_holds 886 = .ok (.iload 10, 2) := zd_at zo_cL_holds_480 7 rfl
theorem dL_holds_888 : decode cL_holds 888 = .ok (.iload 11, 2) := zd_at zo_cL_holds_480 8 rfl
theorem dL_holds_890 : decode cL_holds 890 = .ok (.invokestatic 130, 3) := zd_at zo_cL_holds_480 9 rfl
theorem dL_holds_893 : decode cL_holds 893 = .ok (.istore 18, 2) := zd_at zo_cL_holds_480 10 rfl
theorem dL_holds_895 : decode cL_holds 895 = .ok (.iload 18, 2) := zd_at zo_cL_holds_480 11 rfl
theorem dL_holds_897 : decode cL_holds 897 = .ok (.ifCond .lt 101, 3) := zd_at zo_cL_holds_480 12 rfl
theorem dL_holds_900 : decode cL_holds 900 = .ok (.aload_n 0, 1) := zd_at zo_cL_holds_480 13 rfl
theorem dL_holds_901 : decode cL_holds 901 = .ok (.iconst 2, 1) := zd_at zo_cL_holds_480 14 rfl
theorem dL_holds_902 : decode cL_holds 902 = .ok (.iload 18, 2) := zd_at zo_cL_holds_480 15 rfl
theorem dL_holds_904 : decode cL_holds 904 = .ok (.iconst 2, 1) := zd_at zo_cL_holds_480 16 rfl
theorem dL_holds_905 : decode cL_holds 905 = .ok (.iconst 0, 1) := zd_at zo_cL_holds_480 17 rfl
theorem dL_holds_906 : decode cL_holds 906 = .ok (.invokestatic 126, 3) := zd_at zo_cL_holds_480 18 rfl
theorem dL_holds_909 : decode cL_holds 909 = .ok (.iload 10, 2) := zd_at zo_cL_holds_480 19 rfl
theorem dL_holds_911 : decode cL_holds 911 = .ok (.if_icmp .ne 87, 3) := zd_at zo_cL_holds_480 20 rfl
theorem dL_holds_914 : decode cL_holds 914 = .ok (.aload_n 0, 1) := zd_at zo_cL_holds_480 21 rfl
theorem dL_holds_915 : decode cL_holds 915 = .ok (.iconst 1, 1) := zd_at zo_cL_holds_480 22 rfl
theorem dL_holds_916 : decode cL_holds 916 = .ok (.iconst 3, 1) := zd_at zo_cL_holds_480 23 rfl
theorem dL_holds_917 : decode cL_holds 917 = .ok (.iconst 0, 1) := zd_at zo_cL_holds_480 24 rfl
theorem dL_holds_918 : decode cL_holds 918 = .ok (.iconst 0, 1) := zd_at zo_cL_holds_480 25 rfl
theorem dL_holds_919 : decode cL_holds 919 = .ok (.invokestatic 126, 3) := zd_at zo_cL_holds_480 26 rfl
theorem dL_holds_922 : decode cL_holds 922 = .ok (.iload 16, 2) := zd_at zo_cL_holds_480 27 rfl
theorem dL_holds_924 : decode cL_holds 924 = .ok (.iload 17, 2) := zd_at zo_cL_holds_480 28 rfl
theorem dL_holds_926 : decode cL_holds 926 = .ok (.iadd, 1) := zd_at zo_cL_holds_480 29 rfl
theorem dL_holds_927 : decode cL_holds 927 = .ok (.if_icmp .ne 71, 3) := zd_at zo_cL_holds_480 30 rfl
theorem dL_holds_930 : decode cL_holds 930 = .ok (.aload_n 0, 1) := zd_at zo_cL_holds_480 31 rfl
theorem dL_holds_931 : decode cL_holds 931 = .ok (.iconst 1, 1) := zd_at zo_cL_holds_480 32 rfl
theorem dL_holds_932 : decode cL_holds 932 = .ok (.iconst 0, 1) := zd_at zo_cL_holds_480 33 rfl
theorem dL_holds_933 : decode cL_holds 933 = .ok (.iconst 0, 1) := zd_at zo_cL_holds_480 34 rfl
theorem dL_holds_934 : decode cL_holds 934 = .ok (.iconst 0, 1) := zd_at zo_cL_holds_480 35 rfl
theorem dL_holds_935 : decode cL_holds 935 = .ok (.invokestatic 126, 3) := zd_at zo_cL_holds_480 36 rfl
theorem dL_holds_938 : decode cL_holds 938 = .ok (.iload_n 3, 1) := zd_at zo_cL_holds_480 37 rfl
theorem dL_holds_939 : decode cL_holds 939 = .ok (.iconst 1, 1) := zd_at zo_cL_holds_480 38 rfl
theorem dL_holds_940 : decode cL_holds 940 = .ok (.iadd, 1) := zd_at zo_cL_holds_480 39 rfl
theorem dL_holds_941 : decode cL_holds 941 = .ok (.if_icmp .ne 57, 3) := zd_at zo_cL_holds_480 40 rfl
theorem dL_holds_944 : decode cL_holds 944 = .ok (.aload_n 0, 1) := zd_at zo_cL_holds_480 41 rfl
theorem dL_holds_945 : decode cL_holds 945 = .ok (.bipush 6, 2) := zd_at zo_cL_holds_480 42 rfl
theorem dL_holds_947 : decode cL_holds 947 = .ok (.iload 18, 2) := zd_at zo_cL_holds_480 43 rfl
theorem dL_holds_949 : decode cL_holds 949 = .ok (.iconst 0, 1) := zd_at zo_cL_holds_480 44 rfl
theorem dL_holds_950 : decode cL_holds 950 = .ok (.iconst 0, 1) := zd_at zo_cL_holds_480 45 rfl
theorem dL_holds_951 : decode cL_holds 951 = .ok (.invokestatic 126, 3) := zd_at zo_cL_holds_480 46 rfl
theorem dL_holds_954 : decode cL_holds 954 = .ok (.iconst 1, 1) := zd_at zo_cL_holds_480 47 rfl
theorem dL_holds_955 : decode cL_holds 955 = .ok (.if_icmp .lt 43, 3) := zd_at zo_cL_holds_480 48 rfl
theorem dL_holds_958 : decode cL_holds 958 = .ok (.aload_n 0, 1) := zd_at zo_cL_holds_480 49 rfl
theorem dL_holds_959 : decode cL_holds 959 = .ok (.iconst 1, 1) := zd_at zo_cL_holds_480 50 rfl
theorem dL_holds_960 : decode cL_holds 960 = .ok (.iconst 0, 1) := zd_at zo_cL_holds_480 51 rfl
theorem dL_holds_961 : decode cL_holds 961 = .ok (.iconst 0, 1) := zd_at zo_cL_holds_480 52 rfl
theorem dL_holds_962 : decode cL_holds 962 = .ok (.iconst 0, 1) := zd_at zo_cL_holds_480 53 rfl
theorem dL_holds_963 : decode cL_holds 963 = .ok (.invokestatic 126, 3) := zd_at zo_cL_holds_480 54 rfl
theorem dL_holds_966 : decode cL_holds 966 = .ok (.iload_n 3, 1) := zd_at zo_cL_holds_480 55 rfl
theorem dL_holds_967 : decode cL_holds 967 = .ok (.if_icmp .ne 31, 3) := zd_at zo_cL_holds_480 56 rfl
theorem dL_holds_970 : decode cL_holds 970 = .ok (.aload_n 0, 1) := zd_at zo_cL_holds_480 57 rfl
theorem dL_holds_971 : decode cL_holds 971 = .ok (.bipush 8, 2) := zd_at zo_cL_holds_480 58 rfl
theorem dL_holds_973 : decode cL_holds 973 = .ok (.iconst 0, 1) := zd_at zo_cL_holds_480 59 rfl
theorem dL_holds_974 : decode cL_holds 974 = .ok (.iconst 0, 1) := zd_at zo_cL_holds_480 60 rfl
theorem dL_holds_975 : decode cL_holds 975 = .ok (.iconst 0, 1) := zd_at zo_cL_holds_480 61 rfl
theorem dL_holds_976 : decode cL_holds 976 = .ok (.invokestatic 126, 3) := zd_at zo_cL_holds_480 62 rfl
theorem dL_holds_979 : decode cL_holds 979 = .ok (.ifCond .lt 19, 3) := zd_at zo_cL_holds_480 63 rfl
theorem dL_holds_982 : decode cL_holds 982 = .ok (.aload_n 0, 1) := zd_at zo_cL_holds_480 64 rfl
theorem dL_holds_983 : decode cL_holds 983 = .ok (.bipush 8, 2) := zd_at zo_cL_holds_480 65 rfl
theorem dL_holds_985 : decode cL_holds 985 = .ok (.iconst 0, 1) := zd_at zo_cL_holds_480 66 rfl
theorem dL_holds_986 : decode cL_holds 986 = .ok (.iconst 0, 1) := zd_at zo_cL_holds_480 67 rfl
theorem dL_holds_987 : decode cL_holds 987 = .ok (.iconst 0, 1) := zd_at zo_cL_holds_480 68 rfl
theorem dL_holds_988 : decode cL_holds 988 = .ok (.invokestatic 126, 3) := zd_at zo_cL_holds_480 69 rfl
theorem dL_holds_991 : decode cL_holds 991 = .ok (.ifCond .lt 7, 3) := zd_at zo_cL_holds_480 70 rfl
theorem dL_holds_994 : decode cL_holds 994 = .ok (.iconst 1, 1) := zd_at zo_cL_holds_480 71 rfl
theorem dL_holds_995 : decode cL_holds 995 = .ok (.goto 4, 3) := zd_at zo_cL_holds_480 72 rfl
theorem dL_holds_998 : decode cL_holds 998 = .ok (.iconst 0, 1) := zd_at zo_cL_holds_480 73 rfl
theorem dL_holds_999 : decode cL_holds 999 = .ok (.istore 7, 2) := zd_at zo_cL_holds_480 74 rfl
theorem dL_holds_1001 : decode cL_holds 1001 = .ok (.goto 22, 3) := zd_at zo_cL_holds_480 75 rfl
theorem dL_holds_1004 : decode cL_holds 1004 = .ok (.iload 7, 2) := zd_at zo_cL_holds_480 76 rfl
theorem dL_holds_1006 : decode cL_holds 1006 = .ok (.ifCond .eq 14, 3) := zd_at zo_cL_holds_480 77 rfl
theorem dL_holds_1009 : decode cL_holds 1009 = .ok (.iload 17, 2) := zd_at zo_cL_holds_480 78 rfl
theorem dL_holds_1011 : decode cL_holds 1011 = .ok (.ldc 167, 2) := zd_at zo_cL_holds_480 79 rfl
theorem dL_holds_1013 : decode cL_holds 1013 = .ok (.if_icmp .ne 7, 3) := zd_at zo_cL_holds_480 80 rfl
theorem dL_holds_1016 : decode cL_holds 1016 = .ok (.iconst 1, 1) := zd_at zo_cL_holds_480 81 rfl
theorem dL_holds_1017 : decode cL_holds 1017 = .ok (.goto 4, 3) := zd_at zo_cL_holds_480 82 rfl
theorem dL_holds_1020 : decode cL_holds 1020 = .ok (.iconst 0, 1) := zd_at zo_cL_holds_480 83 rfl
theorem dL_holds_1021 : decode cL_holds 1021 = .ok (.istore 7, 2) := zd_at zo_cL_holds_480 84 rfl
theorem dL_holds_1023 : decode cL_holds 1023 = .ok (.iload 7, 2) := zd_at zo_cL_holds_480 85 rfl
theorem dL_holds_1025 : decode cL_holds 1025 = .ok (.ifCond .eq 49, 3) := zd_at zo_cL_holds_480 86 rfl
theorem dL_holds_1028 : decode cL_holds 1028 = .ok (.aload_n 0, 1) := zd_at zo_cL_holds_480 87 rfl
theorem dL_holds_1029 : decode cL_holds 1029 = .ok (.iconst 1, 1) := zd_at zo_cL_holds_480 88 rfl
theorem dL_holds_1030 : decode cL_holds 1030 = .ok (.iconst 1, 1) := zd_at zo_cL_holds_480 89 rfl
theorem dL_holds_1031 : decode cL_holds 1031 = .ok (.iconst 0, 1) := zd_at zo_cL_holds_480 90 rfl
theorem dL_holds_1032 : decode cL_holds 1032 = .ok (.iconst 0, 1) := zd_at zo_cL_holds_480 91 rfl
theorem dL_holds_1033 : decode cL_holds 1033 = .ok (.invokestatic 126, 3) := zd_at zo_cL_holds_480 92 rfl
theorem dL_holds_1036 : decode cL_holds 1036 = .ok (.iload_n 2, 1) := zd_at zo_cL_holds_480 93 rfl
theorem dL_holds_1037 : decode cL_holds 1037 = .ok (.if_icmp .ne 37, 3) := zd_at zo_cL_holds_480 94 rfl
theorem dL_holds_1040 : decode cL_holds 1040 = .ok (.aload_n 0, 1) := zd_at zo_cL_holds_480 95 rfl
theorem dL_holds_1041 : decode cL_holds 1041 = .ok (.iconst 1, 1) := zd_at zo_cL_holds_480 96 rfl
theorem dL_holds_1042 : decode cL_holds 1042 = .ok (.iconst 3, 1) := zd_at zo_cL_holds_480 97 rfl
theorem dL_holds_1043 : decode cL_holds 1043 = .ok (.iconst 0, 1) := zd_at zo_cL_holds_480 98 rfl
theorem dL_holds_1044 : decode cL_holds 1044 = .ok (.iconst 0, 1) := zd_at zo_cL_holds_480 99 rfl
theorem dL_holds_1045 : decode cL_holds 1045 = .ok (.invokestatic 126, 3) := zd_at zo_cL_holds_480 100 rfl
theorem dL_holds_1048 : decode cL_holds 1048 = .ok (.iload 16, 2) := zd_at zo_cL_holds_480 101 rfl
theorem dL_holds_1050 : decode cL_holds 1050 = .ok (.if_icmp .ne 24, 3) := zd_at zo_cL_holds_480 102 rfl
theorem dL_holds_1053 : decode cL_holds 1053 = .ok (.aload_n 0, 1) := zd_at zo_cL_holds_480 103 rfl
theorem dL_holds_1054 : decode cL_holds 1054 = .ok (.iload 8, 2) := zd_at zo_cL_holds_480 104 rfl
theorem dL_holds_1056 : decode cL_holds 1056 = .ok (.iload 9, 2) := zd_at zo_cL_holds_480 105 rfl
theorem dL_holds_1058 : decode cL_holds 1058 = .ok (.iload 10, 2) := zd_at zo_cL_holds_480 106 rfl
theorem dL_holds_1060 : decode cL_holds 1060 = .ok (.iload 11, 2) := zd_at zo_cL_holds_480 107 rfl
theorem dL_holds_1062 : decode cL_holds 1062 = .ok (.invokestatic 133, 3) := zd_at zo_cL_holds_480 108 rfl
theorem dL_holds_1065 : decode cL_holds 1065 = .ok (.iload 12, 2) := zd_at zo_cL_holds_480 109 rfl
theorem dL_holds_1067 : decode cL_holds 1067 = .ok (.if_icmp .ne 7, 3) := zd_at zo_cL_holds_480 110 rfl
theorem dL_holds_1070 : decode cL_holds 1070 = .ok (.iconst 1, 1) := zd_at zo_cL_holds_480 111 rfl
theorem dL_holds_1071 : decode cL_holds 1071 = .ok (.goto 4, 3) := zd_at zo_cL_holds_480 112 rfl
theorem dL_holds_1074 : decode cL_holds 1074 = .ok (.iconst 0, 1) := zd_at zo_cL_holds_480 113 rfl
theorem dL_holds_1075 : decode cL_holds 1075 = .ok (.ireturn, 1) := zd_at zo_cL_holds_480 114 rfl
