def zl_cX2_append_0 : List (Nat × Instr × Nat) := [(0, .iload_n 1, 1), (1, .ifCond .lt 10, 3), (4, .iload_n 1, 1), (5, .sipush 255, 3), (8, .if_icmp .le 13, 3), (11, .new 37, 3), (14, .dup, 1), (15, .ldc 39, 2), (17, .invokespecial 41, 3), (20, .athrow, 1), (21, .aload_n 0, 1), (22, .getfield 33, 3), (25, .getfield 44, 3), (28, .bipush 100, 2), (30, .if_icmp .lt 13, 3), (33, .new 48, 3), (36, .dup, 1), (37, .ldc 50, 2), (39, .invokespecial 52, 3), (42, .athrow, 1), (43, .aload_n 0, 1), (44, .getfield 33, 3), (47, .iload_n 1, 1), (48, .invokevirtual 53, 3), (51, .ireturn, 1)]
theorem zo_cX2_append_0 : zd_ok cX2_append zl_cX2_append_0 = true := by decide +kernel
theorem dX2_append_0 : decode cX2_append 0 = .ok (.iload_n 1, 1) := zd_at zo_cX2_append_0 0 rfl
theorem dX2_append_1 : decode cX2_append 1 = .ok (.ifCond .lt 10, 3) := zd_at zo_cX2_append_0 1 rfl
theorem dX2_append_4 : decode cX2_append 4 = .ok (.iload_n 1, 1) := zd_at zo_cX2_append_0 2 rfl
theorem dX2_append_5 : decode cX2_append 5 = .ok (.sipush 255, 3) := zd_at zo_cX2_append_0 3 rfl
theorem dX2_append_8 : decode cX2_append 8 = .ok (.if_icmp .le 13, 3) := zd_at zo_cX2_append_0 4 rfl
theorem dX2_append_11 : decode cX2_append 11 = .ok (.new 37, 3) := zd_at zo_cX2_append_0 5 rfl
theorem dX2_append_14 : decode cX2_append 14 = .ok (.dup, 1) := zd_at zo_cX2_append_0 6 rfl
theorem dX2_append_15 : decode cX2_append 15 = .ok (.ldc 39, 2) := zd_at zo_cX2_append_0 7 rfl
theorem dX2_append_17 : decode cX2_append 17 = .ok (.invokespecial 41, 3) := zd_at zo_cX2_append_0 8 rfl
theorem dX2_append_20 : decode cX2_append 20 = .ok (.athrow, 1) := zd_at zo_cX2_append_0 9 rfl
theorem dX2_append_21 : decode cX2_append 21 = .ok (.aload_n 0, 1) := zd_at zo_cX2_append_0 10 rfl
theorem dX2_append_22 : decode cX2_append 22 = .ok (.getfield 33, 3) := zd_at zo_cX2_append_0 11 rfl
theorem dX2_append_25 : decode cX2_append 25 = .ok (.getfield 44, 3) := zd_at zo_cX2_append_0 12 rfl
theorem dX2_append_28 : decode cX2_append 28 = .ok (.bipush 100, 2) := zd_at zo_cX2_append_0 13 rfl
theorem dX2_append_30 : decode cX2_append 30 = .ok (.if_icmp .lt 13, 3) := zd_at zo_cX2_append_0 14 rfl
theorem dX2_append_33 : decode cX2_append 33 = .ok (.new 48, 3) := zd_at zo_cX2_append_0 15 rfl
theorem dX2_append_36 : decode cX2_append 36 = .ok (.dup, 1) := zd_at zo_cX2_append_0 16 rfl
theorem dX2_append_37 : decode cX2_append 37 = .ok (.ldc 50, 2) := zd_at zo_cX2_append_0 17 rfl
theorem dX2_append_39 : decode cX2_append 39 = .ok (.invokespecial 52, 3) := zd_at zo_cX2_append_0 18 rfl
theorem dX2_append_42 : decode cX2_append 42 = .ok (.athrow, 1) := zd_at zo_cX2_append_0 19 rfl
theorem dX2_append_43 : decode cX2_append 43 = .ok (.aload_n 0, 1) := zd_at zo_cX2_append_0 20 rfl
theorem dX2_append_44 : decode cX2_append 44 = .ok (.getfield 33, 3) := zd_at zo_cX2_append_0 21 rfl
theorem dX2_append_47 : decode cX2_append 47 = .ok (.iload_n 1, 1) := zd_at zo_cX2_append_0 22 rfl
theorem dX2_append_48 : decode cX2_append 48 = .ok (.invokevirtual 53, 3) := zd_at zo_cX2_append_0 23 rfl
theorem dX2_append_51 : decode cX2_append 51 = .ok (.ireturn, 1) := zd_at zo_cX2_append_0 24 rfl
def zl_cX2_clearText_0 : List (Nat × Instr × Nat) := [(0, .aload_n 0, 1), (1, .getfield 33, 3), (4, .getfield 44, 3), (7, .istore_n 1, 1), (8, .aload_n 0, 1), (9, .getfield 33, 3), (12, .iconst 0, 1), (13, .putfield 44, 3), (16, .iload_n 1, 1), (17, .ireturn, 1)]
theorem zo_cX2_clearText_0 : zd_ok cX2_clearText zl_cX2_clearText_0 = true := by decide +kernel
theorem dX2_clearText_0 : decode cX2_clearText 0 = .ok (.aload_n 0, 1) := zd_at zo_cX2_clearText_0 0 rfl
theorem dX2_clearText_1 : decode cX2_clearText 1 = .ok (.getfield 33, 3) := zd_at zo_cX2_clearText_0 1 rfl
theorem dX2_clearText_4 : decode cX2_clearText 4 = .ok (.getfield 44, 3) := zd_at zo_cX2_clearText_0 2 rfl
theorem dX2_clearText_7 : decode cX2_clearText 7 = .ok (.istore_n 1, 1) := zd_at zo_cX2_clearText_0 3 rfl
theorem dX2_clearText_8 : decode cX2_clearText 8 = .ok (.aload_n 0, 1) := zd_at zo_cX2_clearText_0 4 rfl
theorem dX2_clearText_9 : decode cX2_clearText 9 = .ok (.getfield 33, 3) := zd_at zo_cX2_clearText_0 5 rfl
theorem dX2_clearText_12 : decode cX2_clearText 12 = .ok (.iconst 0, 1) := zd_at zo_cX2_clearText_0 6 rfl
theorem dX2_clearText_13 : decode cX2_clearText 13 = .ok (.putfield 44, 3) := zd_at zo_cX2_clearText_0 7 rfl
theorem dX2_clearText_16 : decode cX2_clearText 16 = .ok (.iload_n 1, 1) := zd_at zo_cX2_clearText_0 8 rfl
theorem dX2_clearText_17 : decode cX2_clearText 17 = .ok (.ireturn, 1) := zd_at zo_cX2_clearText_0 9 rfl
def zl_cX2_errorPosition_0 : List (Nat × Instr × Nat) := [(0, .aload_n 0, 1), (1, .getfield 33, 3), (4, .invokevirtual 57, 3), (7, .ireturn, 1)]
theorem zo_cX2_errorPosition_0 : zd_ok cX2_errorPosition zl_cX2_errorPosition_0 = true := by decide +kernel
theorem dX2_errorPosition_0 : decode cX2_errorPosition 0 = .ok (.aload_n 0, 1) := zd_at zo_cX2_errorPosition_0 0 rfl
theorem dX2_errorPosition_1 : decode cX2_errorPosition 1 = .ok (.getfield 33, 3) := zd_at zo_cX2_errorPosition_0 1 rfl
theorem dX2_errorPosition_4 : decode cX2_errorPosition 4 = .ok (.invokevirtual 57, 3) := zd_at zo_cX2_errorPosition_0 2 rfl
theorem dX2_errorPosition_7 : decode cX2_errorPosition 7 = .ok (.ireturn, 1) := zd_at zo_cX2_errorPosition_0 3 rfl
def zl_cX2_about_0 : List (Nat × Instr × Nat) := [(0, .iload_n 1, 1), (1, .tableswitch 118 0 7 #[47, 55, 63, 78, 86, 94, 102, 110], 47), (48, .aload_n 0, 1), (49, .getfield 12, 3), (52, .invokevirtual 61, 3), (55, .ireturn, 1), (56, .aload_n 0, 1), (57, .getfield 12, 3), (60, .invokevirtual 64, 3), (63, .ireturn, 1), (64, .aload_n 0, 1), (65, .getfield 12, 3), (68, .aload_n 0, 1), (69, .getfield 12, 3), (72, .getfield 67, 3), (75, .invokevirtual 70, 3), (78, .ireturn, 1), (79, .aload_n 0, 1), (80, .getfield 12, 3), (83, .invokevirtual 73, 3), (86, .ireturn, 1), (87, .aload_n 0, 1), (88, .getfield 12, 3), (91, .invokevirtual 76, 3), (94, .ireturn, 1), (95, .aload_n 0, 1), (96, .getfield 12, 3), (99, .getfield 79, 3), (102, .ireturn, 1), (103, .aload_n 0, 1), (104, .getfield 12, 3), (107, .getfield 82, 3), (110, .ireturn, 1), (111, .aload_n 0, 1), (112, .getfield 12, 3), (115, .getfield 85, 3), (118, .ireturn, 1), (119, .new 37, 3), (122, .dup, 1), (123, .ldc 88, 2), (125, .invokespecial 41, 3), (128, .athrow, 1)]
theorem zo_cX2_about_0 : zd_ok cX2_about zl_cX2_about_0 = true := by decide +kernel
theorem dX2_about_0 : decode cX2_about 0 = .ok (.iload_n 1, 1) := zd_at zo_cX2_about_0 0 rfl
theorem dX2_about_1 : decode cX2_about 1 = .ok (.tableswitch 118 0 7 #[47, 55, 63, 78, 86, 94, 102, 110], 47) := zd_at zo_cX2_about_0 1 rfl
theorem dX2_about_48 : decode cX2_about 48 = .ok (.aload_n 0, 1) := zd_at zo_cX2_about_0 2 rfl
theorem dX2_about_49 : decode cX2_about 49 = .ok (.getfield 12, 3) := zd_at zo_cX2_about_0 3 rfl
theorem dX2_about_52 : decode cX2_about 52 = .ok (.invokevirtual 61, 3) := zd_at zo_cX2_about_0 4 rfl
theorem dX2_about_55 : decode cX2_about 55 = .ok (.ireturn, 1) := zd_at zo_cX2_about_0 5 rfl
theorem dX2_about_56 : decode cX2_about 56 = .ok (.aload_n 0, 1) := zd_at zo_cX2_about_0 6 rfl
theorem dX2_about_57 : decode cX2_about 57 = .ok (.getfield 12, 3) := zd_at zo_cX2_about_0 7 rfl
theorem dX2_about_60 : decode cX2_about 60 = .ok (.invokevirtual 64, 3) := zd_at zo_cX2_about_0 8 rfl
theorem dX2_about_63 : decode cX2_about 63 = .ok (.ireturn, 1) := zd_at zo_cX2_about_0 9 rfl
theorem dX2_about_64 : decode cX2_about 64 = .ok (.aload_n 0, 1) := zd_at zo_cX2_about_0 10 rfl
theorem dX2_about_65 : decode cX2_about 65 = .ok (.getfield 12, 3) := zd_at zo_cX2_about_0 11 rfl
theorem dX2_about_68 : decode cX2_about 68 = .ok (.aload_n 0, 1) := zd_at zo_cX2_about_0 12 rfl
theorem dX2_about_69 : decode cX2_about 69 = .ok (.getfield 12, 3) := zd_at zo_cX2_about_0 13 rfl
theorem dX2_about_72 : decode cX2_about 72 = .ok (.getfield 67, 3) := zd_at zo_cX2_about_0 14 rfl
theorem dX2_about_75 : decode cX2_about 75 = .ok (.invokevirtual 70, 3) := zd_at zo_cX2_about_0 15 rfl
theorem dX2_about_78 : decode cX2_about 78 = .ok (.ireturn, 1) := zd_at zo_cX2_about_0 16 rfl
theorem dX2_about_79 : decode cX2_about 79 = .ok (.aload_n 0, 1) := zd_at zo_cX2_about_0 17 rfl
theorem dX2_about_80 : decode cX2_about 80 = .ok (.getfield 12, 3) := zd_at zo_cX2_about_0 18 rfl
theorem dX2_about_83 : decode cX2_about 83 = .ok (.invokevirtual 73, 3) := zd_at zo_cX2_about_0 19 rfl
theorem dX2_about_86 : decode cX2_about 86 = .ok (.ireturn, 1) := zd_at zo_cX2_about_0 20 rfl
theorem dX2_about_87 : decode cX2_about 87 = .ok (.aload_n 0, 1) := zd_at zo_cX2_about_0 21 rfl
theorem dX2_about_88 : decode cX2_about 88 = .ok (.getfield 12, 3) := zd_at zo_cX2_about_0 22 rfl
theorem dX2_about_91 : decode cX2_about 91 = .ok (.invokevirtual 76, 3) := zd_at zo_cX2_about_0 23 rfl
theorem dX2_about_94 : decode cX2_about 94 = .ok (.ireturn, 1) := zd_at zo_cX2_about_0 24 rfl
theorem dX2_about_95 : decode cX2_about 95 = .ok (.aload_n 0, 1) := zd_at zo_cX2_about_0 25 rfl
theorem dX2_about_96 : decode cX2_about 96 = .ok (.getfield 12, 3) := zd_at zo_cX2_about_0 26 rfl
theorem dX2_about_99 : decode cX2_about 99 = .ok (.getfield 79, 3) := zd_at zo_cX2_about_0 27 rfl
theorem dX2_about_102 : decode cX2_about 102 = .ok (.ireturn, 1) := zd_at zo_cX2_about_0 28 rfl
theorem dX2_about_103 : decode cX2_about 103 = .ok (.aload_n 0, 1) := zd_at zo_cX2_about_0 29 rfl
theorem dX2_about_104 : decode cX2_about 104 = .ok (.getfield 12, 3) := zd_at zo_cX2_about_0 30 rfl
theorem dX2_about_107 : decode cX2_about 107 = .ok (.getfield 82, 3) := zd_at zo_cX2_about_0 31 rfl
theorem dX2_about_110 : decode cX2_about 110 = .ok (.ireturn, 1) := zd_at zo_cX2_about_0 32 rfl
theorem dX2_about_111 : decode cX2_about 111 = .ok (.aload_n 0, 1) := zd_at zo_cX2_about_0 33 rfl
theorem dX2_about_112 : decode cX2_about 112 = .ok (.getfield 12, 3) := zd_at zo_cX2_about_0 34 rfl
theorem dX2_about_115 : decode cX2_about 115 = .ok (.getfield 85, 3) := zd_at zo_cX2_about_0 35 rfl
theorem dX2_about_118 : decode cX2_about 118 = .ok (.ireturn, 1) := zd_at zo_cX2_about_0 36 rfl
theorem dX2_about_119 : decode cX2_about 119 = .ok (.new 37, 3) := zd_at zo_cX2_about_0 37 rfl
theorem dX2_about_122 : decode cX2_about 122 = .ok (.dup, 1) := zd_at zo_cX2_about_0 38 rfl
theorem dX2_about_123 : decode cX2_about 123 = .ok (.ldc 88, 2) := zd_at zo_cX2_about_0 39 rfl
theorem dX2_about_125 : decode cX2_about 125 = .ok (.invokespecial 41, 3) := zd_at zo_cX2_about_0 40 rfl
theorem dX2_about_128 : decode cX2_about 128 = .ok (.athrow, 1) := zd_at zo_cX2_about_0 41 rfl
def zl_cX2_rectangle_0 : List (Nat × Instr × Nat) := [(0, .aload_n 0, 1), (1, .getfield 12, 3), (4, .iload_n 1, 1), (5, .invokevirtual 90, 3), (8, .ifCond .ne 13, 3), (11, .new 94, 3), (14, .dup, 1), (15, .ldc 96, 2), (17, .invokespecial 98, 3), (20, .athrow, 1), (21, .iload_n 2, 1), (22, .ifCond .lt 8, 3), (25, .iload_n 2, 1), (26, .iconst 4, 1), (27, .if_icmp .le 13, 3), (30, .new 37, 3), (33, .dup, 1), (34, .ldc 99, 2), (36, .invokespecial 41, 3), (39, .athrow, 1), (40, .iload_n 2, 1), (41, .iconst 4, 1), (42, .if_icmp .ne 21, 3), (45, .aload_n 0, 1), (46, .getfield 12, 3), (49, .aload_n 0, 1), (50, .getfield 12, 3), (53, .iload_n 1, 1), (54, .invokevirtual 101, 3), (57, .invokevirtual 104, 3), (60, .goto 12, 3), (63, .aload_n 0, 1), (64, .getfield 12, 3), (67, .iload_n 1, 1), (68, .iload_n 2, 1), (69, .invokevirtual 107, 3), (72, .ireturn, 1)]
theorem zo_cX2_rectangle_0 : zd_ok cX2_rectangle zl_cX2_rectangle_0 = true := by decide +kernel
theorem dX2_rectangle_0 : decode cX2_rectangle 0 = .ok (.aload_n 0, 1) := zd_at zo_cX2_rectangle_0 0 rfl
theorem dX2_rectangle_1 : decode cX2_rectangle 1 = .ok (.getfield 12, 3) := zd_at zo_cX2_rectangle_0 1 rfl
theorem dX2_rectangle_4 : decode cX2_rectangle 4 = .ok (.iload_n 1, 1) := zd_at zo_cX2_rectangle_0 2 rfl
theorem dX2_rectangle_5 : decode cX2_rectangle 5 = .ok (.invokevirtual 90, 3) := zd_at zo_cX2_rectangle_0 3 rfl
theorem dX2_rectangle_8 : decode cX2_rectangle 8 = .ok (.ifCond .ne 13, 3) := zd_at zo_cX2_rectangle_0 4 rfl
theorem dX2_rectangle_11 : decode cX2_rectangle 11 = .ok (.new 94, 3) := zd_at zo_cX2_rectangle_0 5 rfl
theorem dX2_rectangle_14 : decode cX2_rectangle 14 = .ok (.dup, 1) := zd_at zo_cX2_rectangle_0 6 rfl
theorem dX2_rectangle_15 : decode cX2_rectangle 15 = .ok (.ldc 96, 2) := zd_at zo_cX2_rectangle_0 7 rfl
theorem dX2_rectangle_17 : decode cX2_rectangle 17 = .ok (.invokespecial 98, 3) := zd_at zo_cX2_rectangle_0 8 rfl
theorem dX2_rectangle_20 : decode cX2_rectangle 20 = .ok (.athrow, 1) := zd_at zo_cX2_rectangle_0 9 rfl
theorem dX2_rectangle_21 : decode cX2_rectangle 21 = .ok (.iload_n 2, 1) := zd_at zo_cX2_rectangle_0 10 rfl
theorem dX2_rectangle_22 : decode cX2_rectangle 22 = .ok (.ifCond .lt 8, 3) := zd_at zo_cX2_rectangle_0 11 rfl
theorem dX2_rectangle_25 : decode cX2_rectangle 25 = .ok (.iload_n 2, 1) := zd_at zo_cX2_rectangle_0 12 rfl
theorem dX2_rectangle_26 : decode cX2_rectangle 26 = .ok (.iconst 4, 1) := zd_at zo_cX2_rectangle_0 13 rfl
theorem dX2_rectangle_27 : decode cX2_rectangle 27 = .ok (.if_icmp .le 13, 3) := zd_at zo_cX2_rectangle_0 14 rfl
theorem dX2_rectangle_30 : decode cX2_rectangle 30 = .ok (.new 37, 3) := zd_at zo_cX2_rectangle_0 15 rfl
theorem dX2_rectangle_33 : decode cX2_rectangle 33 = .ok (.dup, 1) := zd_at zo_cX2_rectangle_0 16 rfl
theorem dX2_rectangle_34 : decode cX2_rectangle 34 = .ok (.ldc 99, 2) := zd_at zo_cX2_rectangle_0 17 rfl
theorem dX2_rectangle_36 : decode cX2_rectangle 36 = .ok (.invokespecial 41, 3) := zd_at zo_cX2_rectangle_0 18 rfl
theorem dX2_rectangle_39 : decode cX2_rectangle 39 = .ok (.athrow, 1) := zd_at zo_cX2_rectangle_0 19 rfl
theorem dX2_rectangle_40 : decode cX2_rectangle 40 = .ok (.iload_n 2, 1) := zd_at zo_cX2_rectangle_0 20 rfl
theorem dX2_rectangle_41 : decode cX2_rectangle 41 = .ok (.iconst 4, 1) := zd_at zo_cX2_rectangle_0 21 rfl
theorem dX2_rectangle_42 : decode cX2_rectangle 42 = .ok (.if_icmp .ne 21, 3) := zd_at zo_cX2_rectangle_0 22 rfl
theorem dX2_rectangle_45 : decode cX2_rectangle 45 = .ok (.aload_n 0, 1) := zd_at zo_cX2_rectangle_0 23 rfl
theorem dX2_rectangle_46 : decode cX2_rectangle 46 = .ok (.getfield 12, 3) := zd_at zo_cX2_rectangle_0 24 rfl
theorem dX2_rectangle_49 : decode cX2_rectangle 49 = .ok (.aload_n 0, 1) := zd_at zo_cX2_rectangle_0 25 rfl
theorem dX2_rectangle_50 : decode cX2_rectangle 50 = .ok (.getfield 12, 3) := zd_at zo_cX2_rectangle_0 26 rfl
theorem dX2_rectangle_53 : decode cX2_rectangle 53 = .ok (.iload_n 1, 1) := zd_at zo_cX2_rectangle_0 27 rfl
theorem dX2_rectangle_54 : decode cX2_rectangle 54 = .ok (.invokevirtual 101, 3) := zd_at zo_cX2_rectangle_0 28 rfl
theorem dX2_rectangle_57 : decode cX2_rectangle 57 = .ok (.invokevirtual 104, 3) := zd_at zo_cX2_rectangle_0 29 rfl
theorem dX2_rectangle_60 : decode cX2_rectangle 60 = .ok (.goto 12, 3) := zd_at zo_cX2_rectangle_0 30 rfl
theorem dX2_rectangle_63 : decode cX2_rectangle 63 = .ok (.aload_n 0, 1) := zd_at zo_cX2_rectangle_0 31 rfl
theorem dX2_rectangle_64 : decode cX2_rectangle 64 = .ok (.getfield 12, 3) := zd_at zo_cX2_rectangle_0 32 rfl
theorem dX2_rectangle_67 : decode cX2_rectangle 67 = .ok (.iload_n 1, 1) := zd_at zo_cX2_rectangle_0 33 rfl
theorem dX2_rectangle_68 : decode cX2_rectangle 68 = .ok (.iload_n 2, 1) := zd_at zo_cX2_rectangle_0 34 rfl
theorem dX2_rectangle_69 : decode cX2_rectangle 69 = .ok (.invokevirtual 107, 3) := zd_at zo_cX2_rectangle_0 35 rfl
theorem dX2_rectangle_72 : decode cX2_rectangle 72 = .ok (.ireturn, 1) := zd_at zo_cX2_rectangle_0 36 rfl
def zl_cX2_node_0 : List (Nat × Instr × Nat) := [(0, .aload_n 0, 1), (1, .getfield 12, 3), (4, .iload_n 1, 1), (5, .invokevirtual 111, 3), (8, .istore_n 3, 1), (9, .iload_n 3, 1), (10, .iconst (-1), 1), (11, .if_icmp .ne 13, 3), (14, .new 94, 3), (17, .dup, 1), (18, .ldc 114, 2), (20, .invokespecial 98, 3), (23, .athrow, 1), (24, .iload_n 2, 1), (25, .ifCond .lt 9, 3), (28, .iload_n 2, 1), (29, .bipush 6, 2), (31, .if_icmp .le 13, 3), (34, .new 37, 3), (37, .dup, 1), (38, .ldc 116, 2), (40, .invokespecial 41, 3), (43, .athrow, 1), (44, .iload_n 2, 1), (45, .ifCond .ne 12, 3), (48, .aload_n 0, 1), (49, .getfield 12, 3), (52, .iload_n 3, 1), (53, .invokevirtual 70, 3), (56, .ireturn, 1), (57, .iload_n 2, 1), (58, .iconst 1, 1), (59, .if_icmp .ne 12, 3), (62, .aload_n 0, 1), (63, .getfield 12, 3), (66, .iload_n 3, 1), (67, .invokevirtual 118, 3), (70, .ireturn, 1), (71, .iload_n 2, 1), (72, .bipush 6, 2), (74, .if_icmp .ne 19, 3), (77, .aload_n 0, 1), (78, .getfield 12, 3), (81, .aload_n 0, 1), (82, .getfield 12, 3), (85, .iload_n 3, 1), (86, .invokevirtual 101, 3), (89, .invokevirtual 104, 3), (92, .ireturn, 1), (93, .aload_n 0, 1), (94, .getfield 12, 3), (97, .iload_n 3, 1), (98, .invokevirtual 118, 3), (101, .ifCond .ne 7, 3), (104, .iconst (-1), 1), (105, .goto 14, 3), (108, .aload_n 0, 1), (109, .getfield 12, 3), (112, .iload_n 3, 1), (113, .iload_n 2, 1), (114, .iconst 2, 1), (115, .isub, 1), (116, .invokevirtual 107, 3), (119, .ireturn, 1)]
theorem zo_cX2_node_0 : zd_ok cX2_node zl_cX2_node_0 = true := by decide +kernel
theorem dX2_node_0 : decode cX2_node 0 = .ok (.aload_n 0, 1) := zd_at zo_cX2_node_0 0 rfl
theorem dX2_node_1 : decode cX2_node 1 = .ok (.getfield 12, 3) := zd_at zo_cX2_node_0 1 rfl
theorem dX2_node_4 : decode cX2_node 4 = .ok (.iload_n 1, 1) := zd_at zo_cX2_node_0 2 rfl
theorem dX2_node_5 : decode cX2_node 5 = .ok (.invokevirtual 111, 3) := zd_at zo_cX2_node_0 3 rfl
theorem dX2_node_8 : decode cX2_node 8 = .ok (.istore_n 3, 1) := zd_at zo_cX2_node_0 4 rfl
theorem dX2_node_9 : decode cX2_node 9 = .ok (.iload_n 3, 1) := zd_at zo_cX2_node_0 5 rfl
theorem dX2_node_10 : decode cX2_node 10 = .ok (.iconst (-1), 1) := zd_at zo_cX2_node_0 6 rfl
theorem dX2_node_11 : decode cX2_node 11 = .ok (.if_icmp .ne 13, 3) := zd_at zo_cX2_node_0 7 rfl
theorem dX2_node_14 : decode cX2_node 14 = .ok (.new 94, 3) := zd_at zo_cX2_node_0 8 rfl
theorem dX2_node_17 : decode cX2_node 17 = .ok (.dup, 1) := zd_at zo_cX2_node_0 9 rfl
theorem dX2_node_18 : decode cX2_node 18 = .ok (.ldc 114, 2) := zd_at zo_cX2_node_0 10 rfl
theorem dX2_node_20 : decode cX2_node 20 = .ok (.invokespecial 98, 3) := zd_at zo_cX2_node_0 11 rfl
theorem dX2_node_23 : decode cX2_node 23 = .ok (.athrow, 1) := zd_at zo_cX2_node_0 12 rfl
theorem dX2_node_24 : decode cX2_node 24 = .ok (.iload_n 2, 1) := zd_at zo_cX2_node_0 13 rfl
theorem dX2_node_25 : decode cX2_node 25 = .ok (.ifCond .lt 9, 3) := zd_at zo_cX2_node_0 14 rfl
theorem dX2_node_28 : decode cX2_node 28 = .ok (.iload_n 2, 1) := zd_at zo_cX2_node_0 15 rfl
theorem dX2_node_29 : decode cX2_node 29 = .ok (.bipush 6, 2) := zd_at zo_cX2_node_0 16 rfl
theorem dX2_node_31 : decode cX2_node 31 = .ok (.if_icmp .le 13, 3) := zd_at zo_cX2_node_0 17 rfl
theorem dX2_node_34 : decode cX2_node 34 = .ok (.new 37, 3) := zd_at zo_cX2_node_0 18 rfl
theorem dX2_node_37 : decode cX2_node 37 = .ok (.dup, 1) := zd_at zo_cX2_node_0 19 rfl
theorem dX2_node_38 : decode cX2_node 38 = .ok (.ldc 116, 2) := zd_at zo_cX2_node_0 20 rfl
theorem dX2_node_40 : decode cX2_node 40 = .ok (.invokespecial 41, 3) := zd_at zo_cX2_node_0 21 rfl
theorem dX2_node_43 : decode cX2_node 43 = .ok (.athrow, 1) := zd_at zo_cX2_node_0 22 rfl
theorem dX2_node_44 : decode cX2_node 44 = .ok (.iload_n 2, 1) := zd_at zo_cX2_node_0 23 rfl
theorem dX2_node_45 : decode cX2_node 45 = .ok (.ifCond .ne 12, 3) := zd_at zo_cX2_node_0 24 rfl
theorem dX2_node_48 : decode cX2_node 48 = .ok (.aload_n 0, 1) := zd_at zo_cX2_node_0 25 rfl
theorem dX2_node_49 : decode cX2_node 49 = .ok (.getfield 12, 3) := zd_at zo_cX2_node_0 26 rfl
theorem dX2_node_52 : decode cX2_node 52 = .ok (.iload_n 3, 1) := zd_at zo_cX2_node_0 27 rfl
theorem dX2_node_53 : decode cX2_node 53 = .ok (.invokevirtual 70, 3) := zd_at zo_cX2_node_0 28 rfl
theorem dX2_node_56 : decode cX2_node 56 = .ok (.ireturn, 1) := zd_at zo_cX2_node_0 29 rfl
theorem dX2_node_57 : decode cX2_node 57 = .ok (.iload_n 2, 1) := zd_at zo_cX2_node_0 30 rfl
theorem dX2_node_58 : decode cX2_node 58 = .ok (.iconst 1, 1) := zd_at zo_cX2_node_0 31 rfl
theorem dX2_node_59 : decode cX2_node 59 = .ok (.if_icmp .ne 12, 3) := zd_at zo_cX2_node_0 32 rfl
theorem dX2_node_62 : decode cX2_node 62 = .ok (.aload_n 0, 1) := zd_at zo_cX2_node_0 33 rfl
theorem dX2_node_63 : decode cX2_node 63 = .ok (.getfield 12, 3) := zd_at zo_cX2_node_0 34 rfl
theorem dX2_node_66 : decode cX2_node 66 = .ok (.iload_n 3, 1) := zd_at zo_cX2_node_0 35 rfl
theorem dX2_node_67 : decode cX2_node 67 = .ok (.invokevirtual 118, 3) := zd_at zo_cX2_node_0 36 rfl
theorem dX2_node_70 : decode cX2_node 70 = .ok (.ireturn, 1) := zd_at zo_cX2_node_0 37 rfl
theorem dX2_node_71 : decode cX2_node 71 = .ok (.iload_n 2, 1) := zd_at zo_cX2_node_0 38 rfl
theorem dX2_node_72 : decode cX2_node 72 = .ok (.bipush 6, 2) := zd_at zo_cX2_node_0 39 rfl
theorem dX2_node_74 : decode cX2_node 74 = .ok (.if_icmp .ne 19, 3) := zd_at zo_cX2_node_0 40 rfl
theorem dX2_node_77 : decode cX2_node 77 = .ok (.aload_n 0, 1) := zd_at zo_cX2_node_0 41 rfl
theorem dX2_node_78 : decode cX2_node 78 = .ok (.getfield 12, 3) := zd_at zo_cX2_node_0 42 rfl
theorem dX2_node_81 : decode cX2_node 81 = .ok (.aload_n 0, 1) := zd_at zo_cX2_node_0 43 rfl
theorem dX2_node_82 : decode cX2_node 82 = .ok (.getfield 12, 3) := zd_at zo_cX2_node_0 44 rfl
theorem dX2_node_85 : decode cX2_node 85 = .ok (.iload_n 3, 1) := zd_at zo_cX2_node_0 45 rfl
theorem dX2_node_86 : decode cX2_node 86 = .ok (.invokevirtual 101, 3) := zd_at zo_cX2_node_0 46 rfl
theorem dX2_node_89 : decode cX2_node 89 = .ok (.invokevirtual 104, 3) := zd_at zo_cX2_node_0 47 rfl
theorem dX2_node_92 : decode cX2_node 92 = .ok (.ireturn, 1) := zd_at zo_cX2_node_0 48 rfl
theorem dX2_node_93 : decode cX2_node 93 = .ok (.aload_n 0, 1) := zd_at zo_cX2_node_0 49 rfl
theorem dX2_node_94 : decode cX2_node 94 = .ok (.getfield 12, 3) := zd_at zo_cX2_node_0 50 rfl
theorem dX2_node_97 : decode cX2_node 97 = .ok (.iload_n 3, 1) := zd_at zo_cX2_node_0 51 rfl
theorem dX2_node_98 : decode cX2_node 98 = .ok (.invokevirtual 118, 3) := zd_at zo_cX2_node_0 52 rfl
theorem dX2_node_101 : decode cX2_node 101 = .ok (.ifCond .ne 7, 3) := zd_at zo_cX2_node_0 53 rfl
theorem dX2_node_104 : decode cX2_node 104 = .ok (.iconst (-1), 1) := zd_at zo_cX2_node_0 54 rfl
theorem dX2_node_105 : decode cX2_node 105 = .ok (.goto 14, 3) := zd_at zo_cX2_node_0 55 rfl
theorem dX2_node_108 : decode cX2_node 108 = .ok (.aload_n 0, 1) := zd_at zo_cX2_node_0 56 rfl
theorem dX2_node_109 : decode cX2_node 109 = .ok (.getfield 12, 3) := zd_at zo_cX2_node_0 57 rfl
theorem dX2_node_112 : decode cX2_node 112 = .ok (.iload_n 3, 1) := zd_at zo_cX2_node_0 58 rfl
theorem dX2_node_113 : decode cX2_node 113 = .ok (.iload_n 2, 1) := zd_at zo_cX2_node_0 59 rfl
theorem dX2_node_114 : decode cX2_node 114 = .ok (.iconst 2, 1) := zd_at zo_cX2_node_0 60 rfl
theorem dX2_node_115 : decode cX2_node 115 = .ok (.isub, 1) := zd_at zo_cX2_node_0 61 rfl
theorem dX2_node_116 : decode cX2_node 116 = .ok (.invokevirtual 107, 3) := zd_at zo_cX2_node_0 62 rfl
theorem dX2_node_119 : decode cX2_node 119 = .ok (.ireturn, 1) := zd_at zo_cX2_node_0 63 rfl
def zl_cX2_entry_0 : List (Nat × Instr × Nat) := [(0, .aload_n 0, 1), (1, .getfield 12, 3), (4, .iload_n 1, 1), (5, .invokevirtual 111, 3), (8, .istore_n 3, 1), (9, .iload_n 3, 1), (10, .iconst (-1), 1), (11, .if_icmp .ne 13, 3), (14, .new 94, 3), (17, .dup, 1), (18, .ldc 114, 2), (20, .invokespecial 98, 3), (23, .athrow, 1), (24, .iload_n 2, 1), (25, .ifCond .ge 13, 3), (28, .new 37, 3), (31, .dup, 1), (32, .ldc 121, 2), (34, .invokespecial 41, 3), (37, .athrow, 1), (38, .iload_n 2, 1), (39, .aload_n 0, 1), (40, .getfield 12, 3), (43, .iload_n 3, 1), (44, .invokevirtual 118, 3), (47, .if_icmp .lt 5, 3), (50, .iconst (-1), 1), (51, .ireturn, 1), (52, .aload_n 0, 1), (53, .getfield 12, 3), (56, .iload_n 3, 1), (57, .iload_n 2, 1), (58, .invokevirtual 123, 3), (61, .istore 4, 2), (63, .aload_n 0, 1), (64, .getfield 12, 3), (67, .iload_n 3, 1), (68, .invokevirtual 70, 3), (71, .ifCond .ne 8, 3), (74, .iload 4, 2), (76, .goto 12, 3), (79, .aload_n 0, 1), (80, .getfield 12, 3), (83, .iload 4, 2), (85, .invokevirtual 104, 3), (88, .ireturn, 1)]
theorem zo_cX2_entry_0 : zd_ok cX2_entry zl_cX2_entry_0 = true := by decide +kernel
theorem dX2_entry_0 : decode cX2_entry 0 = .ok (.aload_n 0, 1) := zd_at zo_cX2_entry_0 0 rfl
theorem dX2_entry_1 : decode cX2_entry 1 = .ok (.getfield 12, 3) := zd_at zo_cX2_entry_0 1 rfl
theorem dX2_entry_4 : decode cX2_entry 4 = .ok (.iload_n 1, 1) := zd_at zo_cX2_entry_0 2 rfl
theorem dX2_entry_5 : decode cX2_entry 5 = .ok (.invokevirtual 111, 3) := zd_at zo_cX2_entry_0 3 rfl
theorem dX2_entry_8 : decode cX2_entry 8 = .ok (.istore_n 3, 1) := zd_at zo_cX2_entry_0 4 rfl
theorem dX2_entry_9 : decode cX2_entry 9 = .ok (.iload_n 3, 1) := zd_at zo_cX2_entry_0 5 rfl
theorem dX2_entry_10 : decode cX2_entry 10 = .ok (.iconst (-1), 1) := zd_at zo_cX2_entry_0 6 rfl
theorem dX2_entry_11 : decode cX2_entry 11 = .ok (.if_icmp .ne 13, 3) := zd_at zo_cX2_entry_0 7 rfl
theorem dX2_entry_14 : decode cX2_entry 14 = .ok (.new 94, 3) := zd_at zo_cX2_entry_0 8 rfl
theorem dX2_entry_17 : decode cX2_entry 17 = .ok (.dup, 1) := zd_at zo_cX2_entry_0 9 rfl
theorem dX2_entry_18 : decode cX2_entry 18 = .ok (.ldc 114, 2) := zd_at zo_cX2_entry_0 10 rfl
theorem dX2_entry_20 : decode cX2_entry 20 = .ok (.invokespecial 98, 3) := zd_at zo_cX2_entry_0 11 rfl
theorem dX2_entry_23 : decode cX2_entry 23 = .ok (.athrow, 1) := zd_at zo_cX2_entry_0 12 rfl
theorem dX2_entry_24 : decode cX2_entry 24 = .ok (.iload_n 2, 1) := zd_at zo_cX2_entry_0 13 rfl
theorem dX2_entry_25 : decode cX2_entry 25 = .ok (.ifCond .ge 13, 3) := zd_at zo_cX2_entry_0 14 rfl
theorem dX2_entry_28 : decode cX2_entry 28 = .ok (.new 37, 3) := zd_at zo_cX2_entry_0 15 rfl
theorem dX2_entry_31 : decode cX2_entry 31 = .ok (.dup, 1) := zd_at zo_cX2_entry_0 16 rfl
theorem dX2_entry_32 : decode cX2_entry 32 = .ok (.ldc 121, 2) := zd_at zo_cX2_entry_0 17 rfl
theorem dX2_entry_34 : decode cX2_entry 34 = .ok (.invokespecial 41, 3) := zd_at zo_cX2_entry_0 18 rfl
theorem dX2_entry_37 : decode cX2_entry 37 = .ok (.athrow, 1) := zd_at zo_cX2_entry_0 19 rfl
theorem dX2_entry_38 : decode cX2_entry 38 = .ok (.iload_n 2, 1) := zd_at zo_cX2_entry_0 20 rfl
theorem dX2_entry_39 : decode cX2_entry 39 = .ok (.aload_n 0, 1) := zd_at zo_cX2_entry_0 21 rfl
theorem dX2_entry_40 : decode cX2_entry 40 = .ok (.getfield 12, 3) := zd_at zo_cX2_entry_0 22 rfl
theorem dX2_entry_43 : decode cX2_entry 43 = .ok (.iload_n 3, 1) := zd_at zo_cX2_entry_0 23 rfl
theorem dX2_entry_44 : decode cX2_entry 44 = .ok (.invokevirtual 118, 3) := zd_at zo_cX2_entry_0 24 rfl
theorem dX2_entry_47 : decode cX2_entry 47 = .ok (.if_icmp .lt 5, 3) := zd_at zo_cX2_entry_0 25 rfl
theorem dX2_entry_50 : decode cX2_entry 50 = .ok (.iconst (-1), 1) := zd_at zo_cX2_entry_0 26 rfl
theorem dX2_entry_51 : decode cX2_entry 51 = .ok (.ireturn, 1) := zd_at zo_cX2_entry_0 27 rfl
theorem dX2_entry_52 : decode cX2_entry 52 = .ok (.aload_n 0, 1) := zd_at zo_cX2_entry_0 28 rfl
theorem dX2_entry_53 : decode cX2_entry 53 = .ok (.getfield 12, 3) := zd_at zo_cX2_entry_0 29 rfl
theorem dX2_entry_56 : decode cX2_entry 56 = .ok (.iload_n 3, 1) := zd_at zo_cX2_entry_0 30 rfl
theorem dX2_entry_57 : decode cX2_entry 57 = .ok (.iload_n 2, 1) := zd_at zo_cX2_entry_0 31 rfl
theorem dX2_entry_58 : decode cX2_entry 58 = .ok (.invokevirtual 123, 3) := zd_at zo_cX2_entry_0 32 rfl
theorem dX2_entry_61 : decode cX2_entry 61 = .ok (.istore 4, 2) := zd_at zo_cX2_entry_0 33 rfl
theorem dX2_entry_63 : decode cX2_entry 63 = .ok (.aload_n 0, 1) := zd_at zo_cX2_entry_0 34 rfl
theorem dX2_entry_64 : decode cX2_entry 64 = .ok (.getfield 12, 3) := zd_at zo_cX2_entry_0 35 rfl
theorem dX2_entry_67 : decode cX2_entry 67 = .ok (.iload_n 3, 1) := zd_at zo_cX2_entry_0 36 rfl
theorem dX2_entry_68 : decode cX2_entry 68 = .ok (.invokevirtual 70, 3) := zd_at zo_cX2_entry_0 37 rfl
theorem dX2_entry_71 : decode cX2_entry 71 = .ok (.ifCond .ne 8, 3) := zd_at zo_cX2_entry_0 38 rfl
theorem dX2_entry_74 : decode cX2_entry 74 = .ok (.iload 4, 2) := zd_at zo_cX2_entry_0 39 rfl
theorem dX2_entry_76 : decode cX2_entry 76 = .ok (.goto 12, 3) := zd_at zo_cX2_entry_0 40 rfl
theorem dX2_entry_79 : decode cX2_entry 79 = .ok (.aload_n 0, 1) := zd_at zo_cX2_entry_0 41 rfl
theorem dX2_entry_80 : decode cX2_entry 80 = .ok (.getfield 12, 3) := zd_at zo_cX2_entry_0 42 rfl
theorem dX2_entry_83 : decode cX2_entry 83 = .ok (.iload 4, 2) := zd_at zo_cX2_entry_0 43 rfl
theorem dX2_entry_85 : decode cX2_entry 85 = .ok (.invokevirtual 104, 3) := zd_at zo_cX2_entry_0 44 rfl
theorem dX2_entry_88 : decode cX2_entry 88 = .ok (.ireturn, 1) := zd_at zo_cX2_entry_0 45 rfl
def zl_cX2_add_0 : List (Nat × Instr × Nat) := [(0, .iload_n 1, 1), (1, .iload_n 2, 1), (2, .iload_n 3, 1), (3, .iload 4, 2), (5, .invokestatic 126, 3), (8, .ifCond .ne 13, 3), (11, .new 37, 3), (14, .dup, 1), (15, .ldc 130, 2), (17, .invokespecial 41, 3), (20, .athrow, 1), (21, .aload_n 0, 1), (22, .getfield 12, 3), (25, .invokevirtual 61, 3), (28, .bipush 24, 2), (30, .if_icmp .lt 13, 3), (33, .new 48, 3), (36, .dup, 1), (37, .ldc 132, 2), (39, .invokespecial 52, 3), (42, .athrow, 1), (43, .aload_n 0, 1), (44, .invokevirtual 134, 3), (47, .aload_n 0, 1), (48, .getfield 12, 3), (51, .invokevirtual 137, 3), (54, .istore 5, 2), (56, .aload_n 0, 1), (57, .getfield 12, 3), (60, .invokevirtual 140, 3), (63, .aload_n 0, 1), (64, .getfield 12, 3), (67, .iload 5, 2), (69, .iload_n 1, 1), (70, .iload_n 2, 1), (71, .iload_n 3, 1), (72, .iload 4, 2), (74, .invokevirtual 143, 3), (77, .aload_n 0, 1), (78, .getfield 12, 3), (81, .iload 5, 2), (83, .invokevirtual 147, 3), (86, .iload 5, 2), (88, .ireturn, 1)]
theorem zo_cX2_add_0 : zd_ok cX2_add zl_cX2_add_0 = true := by decide +kernel
theorem dX2_add_0 : decode cX2_add 0 = .ok (.iload_n 1, 1) := zd_at zo_cX2_add_0 0 rfl
theorem dX2_add_1 : decode cX2_add 1 = .ok (.iload_n 2, 1) := zd_at zo_cX2_add_0 1 rfl
theorem dX2_add_2 : decode cX2_add 2 = .ok (.iload_n 3, 1) := zd_at zo_cX2_add_0 2 rfl
theorem dX2_add_3 : decode cX2_add 3 = .ok (.iload 4, 2) := zd_at zo_cX2_add_0 3 rfl
theorem dX2_add_5 : decode cX2_add 5 = .ok (.invokestatic 126, 3) := zd_at zo_cX2_add_0 4 rfl
theorem dX2_add_8 : decode cX2_add 8 = .ok (.ifCond .ne 13, 3) := zd_at zo_cX2_add_0 5 rfl
theorem dX2_add_11 : decode cX2_add 11 = .ok (.new 37, 3) := zd_at zo_cX2_add_0 6 rfl
theorem dX2_add_14 : decode cX2_add 14 = .ok (.dup, 1) := zd_at zo_cX2_add_0 7 rfl
theorem dX2_add_15 : decode cX2_add 15 = .ok (.ldc 130, 2) := zd_at zo_cX2_add_0 8 rfl
theorem dX2_add_17 : decode cX2_add 17 = .ok (.invokespecial 41, 3) := zd_at zo_cX2_add_0 9 rfl
theorem dX2_add_20 : decode cX2_add 20 = .ok (.athrow, 1) := zd_at zo_cX2_add_0 10 rfl
theorem dX2_add_21 : decode cX2_add 21 = .ok (.aload_n 0, 1) := zd_at zo_cX2_add_0 11 rfl
theorem dX2_add_22 : decode cX2_add 22 = .ok (.getfield 12, 3) := zd_at zo_cX2_add_0 12 rfl
theorem dX2_add_25 : decode cX2_add 25 = .ok (.invokevirtual 61, 3) := zd_at zo_cX2_add_0 13 rfl
theorem dX2_add_28 : decode cX2_add 28 = .ok (.bipush 24, 2) := zd_at zo_cX2_add_0 14 rfl
theorem dX2_add_30 : decode cX2_add 30 = .ok (.if_icmp .lt 13, 3) := zd_at zo_cX2_add_0 15 rfl
theorem dX2_add_33 : decode cX2_add 33 = .ok (.new 48, 3) := zd_at zo_cX2_add_0 16 rfl
theorem dX2_add_36 : decode cX2_add 36 = .ok (.dup, 1) := zd_at zo_cX2_add_0 17 rfl
theorem dX2_add_37 : decode cX2_add 37 = .ok (.ldc 132, 2) := zd_at zo_cX2_add_0 18 rfl
theorem dX2_add_39 : decode cX2_add 39 = .ok (.invokespecial 52, 3) := zd_at zo_cX2_add_0 19 rfl
theorem dX2_add_42 : decode cX2_add 42 = .ok (.athrow, 1) := zd_at zo_cX2_add_0 20 rfl
theorem dX2_add_43 : decode cX2_add 43 = .ok (.aload_n 0, 1) := zd_at zo_cX2_add_0 21 rfl
theorem dX2_add_44 : decode cX2_add 44 = .ok (.invokevirtual 134, 3) := zd_at zo_cX2_add_0 22 rfl
theorem dX2_add_47 : decode cX2_add 47 = .ok (.aload_n 0, 1) := zd_at zo_cX2_add_0 23 rfl
theorem dX2_add_48 : decode cX2_add 48 = .ok (.getfield 12, 3) := zd_at zo_cX2_add_0 24 rfl
theorem dX2_add_51 : decode cX2_add 51 = .ok (.invokevirtual 137, 3) := zd_at zo_cX2_add_0 25 rfl
theorem dX2_add_54 : decode cX2_add 54 = .ok (.istore 5, 2) := zd_at zo_cX2_add_0 26 rfl
theorem dX2_add_56 : decode cX2_add 56 = .ok (.aload_n 0, 1) := zd_at zo_cX2_add_0 27 rfl
theorem dX2_add_57 : decode cX2_add 57 = .ok (.getfield 12, 3) := zd_at zo_cX2_add_0 28 rfl
theorem dX2_add_60 : decode cX2_add 60 = .ok (.invokevirtual 140, 3) := zd_at zo_cX2_add_0 29 rfl
theorem dX2_add_63 : decode cX2_add 63 = .ok (.aload_n 0, 1) := zd_at zo_cX2_add_0 30 rfl
theorem dX2_add_64 : decode cX2_add 64 = .ok (.getfield 12, 3) := zd_at zo_cX2_add_0 31 rfl
theorem dX2_add_67 : decode cX2_add 67 = .ok (.iload 5, 2) := zd_at zo_cX2_add_0 32 rfl
theorem dX2_add_69 : decode cX2_add 69 = .ok (.iload_n 1, 1) := zd_at zo_cX2_add_0 33 rfl
theorem dX2_add_70 : decode cX2_add 70 = .ok (.iload_n 2, 1) := zd_at zo_cX2_add_0 34 rfl
theorem dX2_add_71 : decode cX2_add 71 = .ok (.iload_n 3, 1) := zd_at zo_cX2_add_0 35 rfl
theorem dX2_add_72 : decode cX2_add 72 = .ok (.iload 4, 2) := zd_at zo_cX2_add_0 36 rfl
theorem dX2_add_74 : decode cX2_add 74 = .ok (.invokevirtual 143, 3) := zd_at zo_cX2_add_0 37 rfl
theorem dX2_add_77 : decode cX2_add 77 = .ok (.aload_n 0, 1) := zd_at zo_cX2_add_0 38 rfl
theorem dX2_add_78 : decode cX2_add 78 = .ok (.getfield 12, 3) := zd_at zo_cX2_add_0 39 rfl
theorem dX2_add_81 : decode cX2_add 81 = .ok (.iload 5, 2) := zd_at zo_cX2_add_0 40 rfl
theorem dX2_add_83 : decode cX2_add 83 = .ok (.invokevirtual 147, 3) := zd_at zo_cX2_add_0 41 rfl
theorem dX2_add_86 : decode cX2_add 86 = .ok (.iload 5, 2) := zd_at zo_cX2_add_0 42 rfl
theorem dX2_add_88 : decode cX2_add 88 = .ok (.ireturn, 1) := zd_at zo_cX2_add_0 43 rfl
def zl_cX2_addAll_0 : List (Nat × Instr × Nat) := [(0, .aload_n 0, 1), (1, .getfield 33, 3), (4, .invokevirtual 57, 3), (7, .iconst (-1), 1), (8, .if_icmp .eq 13, 3), (11, .new 48, 3), (14, .dup, 1), (15, .ldc 151, 2), (17, .invokespecial 52, 3), (20, .athrow, 1), (21, .aload_n 0, 1), (22, .getfield 12, 3), (25, .invokevirtual 61, 3), (28, .aload_n 0, 1), (29, .getfield 33, 3), (32, .getfield 153, 3), (35, .iadd, 1), (36, .bipush 24, 2), (38, .if_icmp .le 13, 3), (41, .new 48, 3), (44, .dup, 1), (45, .ldc 156, 2), (47, .invokespecial 52, 3), (50, .athrow, 1), (51, .aload_n 0, 1), (52, .invokevirtual 134, 3), (55, .aload_n 0, 1), (56, .getfield 12, 3), (59, .invokevirtual 140, 3), (62, .iconst 0, 1), (63, .istore_n 1, 1), (64, .iload_n 1, 1), (65, .aload_n 0, 1), (66, .getfield 33, 3), (69, .getfield 153, 3), (72, .if_icmp .ge 69, 3), (75, .aload_n 0, 1), (76, .getfield 12, 3), (79, .invokevirtual 137, 3), (82, .istore_n 2, 1), (83, .aload_n 0, 1), (84, .getfield 12, 3), (87, .iload_n 2, 1), (88, .aload_n 0, 1), (89, .getfield 33, 3), (92, .iload_n 1, 1), (93, .iconst 0, 1), (94, .invokevirtual 158, 3), (97, .aload_n 0, 1), (98, .getfield 33, 3), (101, .iload_n 1, 1), (102, .iconst 1, 1), (103, .invokevirtual 158, 3), (106, .aload_n 0, 1), (107, .getfield 33, 3), (110, .iload_n 1, 1), (111, .iconst 2, 1), (112, .invokevirtual 158, 3), (115, .aload_n 0, 1), (116, .getfield 33, 3), (119, .iload_n 1, 1), (120, .iconst 3, 1), (121, .invokevirtual 158, 3), (124, .invokevirtual 143, 3), (127, .aload_n 0, 1), (128, .getfield 12, 3), (131, .iload_n 2, 1), (132, .invokevirtual 147, 3), (135, .iinc 1 1, 3), (138, .goto (-74), 3), (141, .aload_n 0, 1), (142, .getfield 12, 3), (145, .invokevirtual 61, 3), (148, .ireturn, 1)]
theorem zo_cX2_addAll_0 : zd_ok cX2_addAll zl_cX2_addAll_0 = true := by decide +kernel
theorem dX2_addAll_0 : decode cX2_addAll 0 = .ok (.aload_n 0, 1) := zd_at zo_cX2_addAll_0 0 rfl
theorem dX2_addAll_1 : decode cX2_addAll 1 = .ok (.getfield 33, 3) := zd_at zo_cX2_addAll_0 1 rfl
theorem dX2_addAll_4 : decode cX2_addAll 4 = .ok (.invokevirtual 57, 3) := zd_at zo_cX2_addAll_0 2 rfl
theorem dX2_addAll_7 : decode cX2_addAll 7 = .ok (.iconst (-1), 1) := zd_at zo_cX2_addAll_0 3 rfl
theorem dX2_addAll_8 : decode cX2_addAll 8 = .ok (.if_icmp .eq 13, 3) := zd_at zo_cX2_addAll_0 4 rfl
theorem dX2_addAll_11 : decode cX2_addAll 11 = .ok (.new 48, 3) := zd_at zo_cX2_addAll_0 5 rfl
theorem dX2_addAll_14 : decode cX2_addAll 14 = .ok (.dup, 1) := zd_at zo_cX2_addAll_0 6 rfl
theorem dX2_addAll_15 : decode cX2_addAll 15 = .ok (.ldc 151, 2) := zd_at zo_cX2_addAll_0 7 rfl
theorem dX2_addAll_17 : decode cX2_addAll 17 = .ok (.invokespecial 52, 3) := zd_at zo_cX2_addAll_0 8 rfl
theorem dX2_addAll_20 : decode cX2_addAll 20 = .ok (.athrow, 1) := zd_at zo_cX2_addAll_0 9 rfl
theorem dX2_addAll_21 : decode cX2_addAll 21 = .ok (.aload_n 0, 1) := zd_at zo_cX2_addAll_0 10 rfl
theorem dX2_addAll_22 : decode cX2_addAll 22 = .ok (.getfield 12, 3) := zd_at zo_cX2_addAll_0 11 rfl
theorem dX2_addAll_25 : decode cX2_addAll 25 = .ok (.invokevirtual 61, 3) := zd_at zo_cX2_addAll_0 12 rfl
theorem dX2_addAll_28 : decode cX2_addAll 28 = .ok (.aload_n 0, 1) := zd_at zo_cX2_addAll_0 13 rfl
theorem dX2_addAll_29 : decode cX2_addAll 29 = .ok (.getfield 33, 3) := zd_at zo_cX2_addAll_0 14 rfl
theorem dX2_addAll_32 : decode cX2_addAll 32 = .ok (.getfield 153, 3) := zd_at zo_cX2_addAll_0 15 rfl
theorem dX2_addAll_35 : decode cX2_addAll 35 = .ok (.iadd, 1) := zd_at zo_cX2_addAll_0 16 rfl
theorem dX2_addAll_36 : decode cX2_addAll 36 = .ok (.bipush 24, 2) := zd_at zo_cX2_addAll_0 17 rfl
theorem dX2_addAll_38 : decode cX2_addAll 38 = .ok (.if_icmp .le 13, 3) := zd_at zo_cX2_addAll_0 18 rfl
theorem dX2_addAll_41 : decode cX2_addAll 41 = .ok (.new 48, 3) := zd_at zo_cX2_addAll_0 19 rfl
theorem dX2_addAll_44 : decode cX2_addAll 44 = .ok (.dup, 1) := zd_at zo_cX2_addAll_0 20 rfl
theorem dX2_addAll_45 : decode cX2_addAll 45 = .ok (.ldc 156, 2) := zd_at zo_cX2_addAll_0 21 rfl
theorem dX2_addAll_47 : decode cX2_addAll 47 = .ok (.invokespecial 52, 3) := zd_at zo_cX2_addAll_0 22 rfl
theorem dX2_addAll_50 : decode cX2_addAll 50 = .ok (.athrow, 1) := zd_at zo_cX2_addAll_0 23 rfl
theorem dX2_addAll_51 : decode cX2_addAll 51 = .ok (.aload_n 0, 1) := zd_at zo_cX2_addAll_0 24 rfl
theorem dX2_addAll_52 : decode cX2_addAll 52 = .ok (.invokevirtual 134, 3) := zd_at zo_cX2_addAll_0 25 rfl
theorem dX2_addAll_55 : decode cX2_addAll 55 = .ok (.aload_n 0, 1) := zd_at zo_cX2_addAll_0 26 rfl
theorem dX2_addAll_56 : decode cX2_addAll 56 = .ok (.getfield 12, 3) := zd_at zo_cX2_addAll_0 27 rfl
theorem dX2_addAll_59 : decode cX2_addAll 59 = .ok (.invokevirtual 140, 3) := zd_at zo_cX2_addAll_0 28 rfl
theorem dX2_addAll_62 : decode cX2_addAll 62 = .ok (.iconst 0, 1) := zd_at zo_cX2_addAll_0 29 rfl
theorem dX2_addAll_63 : decode cX2_addAll 63 = .ok (.istore_n 1, 1) := zd_at zo_cX2_addAll_0 30 rfl
theorem dX2_addAll_64 : decode cX2_addAll 64 = .ok (.iload_n 1, 1) := zd_at zo_cX2_addAll_0 31 rfl
theorem dX2_addAll_65 : decode cX2_addAll 65 = .ok (.aload_n 0, 1) := zd_at zo_cX2_addAll_0 32 rfl
theorem dX2_addAll_66 : decode cX2_addAll 66 = .ok (.getfield 33, 3) := zd_at zo_cX2_addAll_0 33 rfl
theorem dX2_addAll_69 : decode cX2_addAll 69 = .ok (.getfield 153, 3) := zd_at zo_cX2_addAll_0 34 rfl
theorem dX2_addAll_72 : decode cX2_addAll 72 = .ok (.if_icmp .ge 69, 3) := zd_at zo_cX2_addAll_0 35 rfl
theorem dX2_addAll_75 : decode cX2_addAll 75 = .ok (.aload_n 0, 1) := zd_at zo_cX2_addAll_0 36 rfl
theorem dX2_addAll_76 : decode cX2_addAll 76 = .ok (.getfield 12, 3) := zd_at zo_cX2_addAll_0 37 rfl
theorem dX2_addAll_79 : decode cX2_addAll 79 = .ok (.invokevirtual 137, 3) := zd_at zo_cX2_addAll_0 38 rfl
theorem dX2_addAll_82 : decode cX2_addAll 82 = .ok (.istore_n 2, 1) := zd_at zo_cX2_addAll_0 39 rfl
theorem dX2_addAll_83 : decode cX2_addAll 83 = .ok (.aload_n 0, 1) := zd_at zo_cX2_addAll_0 40 rfl
theorem dX2_addAll_84 : decode cX2_addAll 84 = .ok (.getfield 12, 3) := zd_at zo_cX2_addAll_0 41 rfl
theorem dX2_addAll_87 : decode cX2_addAll 87 = .ok (.iload_n 2, 1) := zd_at zo_cX2_addAll_0 42 rfl
theorem dX2_addAll_88 : decode cX2_addAll 88 = .ok (.aload_n 0, 1) := zd_at zo_cX2_addAll_0 43 rfl
theorem dX2_addAll_89 : decode cX2_addAll 89 = .ok (.getfield 33, 3) := zd_at zo_cX2_addAll_0 44 rfl
theorem dX2_addAll_92 : decode cX2_addAll 92 = .ok (.iload_n 1, 1) := zd_at zo_cX2_addAll_0 45 rfl
theorem dX2_addAll_93 : decode cX2_addAll 93 = .ok (.iconst 0, 1) := zd_at zo_cX2_addAll_0 46 rfl
theorem dX2_addAll_94 : decode cX2_addAll 94 = .ok (.invokevirtual 158, 3) := zd_at zo_cX2_addAll_0 47 rfl
theorem dX2_addAll_97 : decode cX2_addAll 97 = .ok (.aload_n 0, 1) := zd_at zo_cX2_addAll_0 48 rfl
theorem dX2_addAll_98 : decode cX2_addAll 98 = .ok (.getfield 33, 3) := zd_at zo_cX2_addAll_0 49 rfl
theorem dX2_addAll_101 : decode cX2_addAll 101 = .ok (.iload_n 1, 1) := zd_at zo_cX2_addAll_0 50 rfl
theorem dX2_addAll_102 : decode cX2_addAll 102 = .ok (.iconst 1, 1) := zd_at zo_cX2_addAll_0 51 rfl
theorem dX2_addAll_103 : decode cX2_addAll 103 = .ok (.invokevirtual 158, 3) := zd_at zo_cX2_addAll_0 52 rfl
theorem dX2_addAll_106 : decode cX2_addAll 106 = .ok (.aload_n 0, 1) := zd_at zo_cX2_addAll_0 53 rfl
theorem dX2_addAll_107 : decode cX2_addAll 107 = .ok (.getfield 33, 3) := zd_at zo_cX2_addAll_0 54 rfl
theorem dX2_addAll_110 : decode cX2_addAll 110 = .ok (.iload_n 1, 1) := zd_at zo_cX2_addAll_0 55 rfl
theorem dX2_addAll_111 : decode cX2_addAll 111 = .ok (.iconst 2, 1) := zd_at zo_cX2_addAll_0 56 rfl
theorem dX2_addAll_112 : decode cX2_addAll 112 = .ok (.invokevirtual 158, 3) := zd_at zo_cX2_addAll_0 57 rfl
theorem dX2_addAll_115 : decode cX2_addAll 115 = .ok (.aload_n 0, 1) := zd_at zo_cX2_addAll_0 58 rfl
theorem dX2_addAll_116 : decode cX2_addAll 116 = .ok (.getfield 33, 3) := zd_at zo_cX2_addAll_0 59 rfl
theorem dX2_addAll_119 : decode cX2_addAll 119 = .ok (.iload_n 1, 1) := zd_at zo_cX2_addAll_0 60 rfl
theorem dX2_addAll_120 : decode cX2_addAll 120 = .ok (.iconst 3, 1) := zd_at zo_cX2_addAll_0 61 rfl
theorem dX2_addAll_121 : decode cX2_addAll 121 = .ok (.invokevirtual 158, 3) := zd_at zo_cX2_addAll_0 62 rfl
theorem dX2_addAll_124 : decode cX2_addAll 124 = .ok (.invokevirtual 143, 3) := zd_at zo_cX2_addAll_0 63 rfl
theorem dX2_addAll_127 : decode cX2_addAll 127 = .ok (.aload_n 0, 1) := zd_at zo_cX2_addAll_0 64 rfl
theorem dX2_addAll_128 : decode cX2_addAll 128 = .ok (.getfield 12, 3) := zd_at zo_cX2_addAll_0 65 rfl
theorem dX2_addAll_131 : decode cX2_addAll 131 = .ok (.iload_n 2, 1) := zd_at zo_cX2_addAll_0 66 rfl
theorem dX2_addAll_132 : decode cX2_addAll 132 = .ok (.invokevirtual 147, 3) := zd_at zo_cX2_addAll_0 67 rfl
theorem dX2_addAll_135 : decode cX2_addAll 135 = .ok (.iinc 1 1, 3) := zd_at zo_cX2_addAll_0 68 rfl
theorem dX2_addAll_138 : decode cX2_addAll 138 = .ok (.goto (-74), 3) := zd_at zo_cX2_addAll_0 69 rfl
theorem dX2_addAll_141 : decode cX2_addAll 141 = .ok (.aload_n 0, 1) := zd_at zo_cX2_addAll_0 70 rfl
theorem dX2_addAll_142 : decode cX2_addAll 142 = .ok (.getfield 12, 3) := zd_at zo_cX2_addAll_0 71 rfl
theorem dX2_addAll_145 : decode cX2_addAll 145 = .ok (.invokevirtual 61, 3) := zd_at zo_cX2_addAll_0 72 rfl
theorem dX2_addAll_148 : decode cX2_addAll 148 = .ok (.ireturn, 1) := zd_at zo_cX2_addAll_0 73 rfl
def zl_cX2_remove_0 : List (Nat × Instr × Nat) := [(0, .aload_n 0, 1), (1, .getfield 12, 3), (4, .iload_n 1, 1), (5, .invokevirtual 90, 3), (8, .ifCond .ne 13, 3), (11, .new 94, 3), (14, .dup, 1), (15, .ldc 96, 2), (17, .invokespecial 98, 3), (20, .athrow, 1), (21, .aload_n 0, 1), (22, .invokevirtual 134, 3), (25, .aload_n 0, 1), (26, .getfield 12, 3), (29, .invokevirtual 140, 3), (32, .aload_n 0, 1), (33, .getfield 12, 3), (36, .iload_n 1, 1), (37, .invokevirtual 159, 3), (40, .aload_n 0, 1), (41, .getfield 12, 3), (44, .invokevirtual 64, 3), (47, .ireturn, 1)]
theorem zo_cX2_remove_0 : zd_ok cX2_remove zl_cX2_remove_0 = true := by decide +kernel
theorem dX2_remove_0 : decode cX2_remove 0 = .ok (.aload_n 0, 1) := zd_at zo_cX2_remove_0 0 rfl
theorem dX2_remove_1 : decode cX2_remove 1 = .ok (.getfield 12, 3) := zd_at zo_cX2_remove_0 1 rfl
theorem dX2_remove_4 : decode cX2_remove 4 = .ok (.iload_n 1, 1) := zd_at zo_cX2_remove_0 2 rfl
theorem dX2_remove_5 : decode cX2_remove 5 = .ok (.invokevirtual 90, 3) := zd_at zo_cX2_remove_0 3 rfl
theorem dX2_remove_8 : decode cX2_remove 8 = .ok (.ifCond .ne 13, 3) := zd_at zo_cX2_remove_0 4 rfl
theorem dX2_remove_11 : decode cX2_remove 11 = .ok (.new 94, 3) := zd_at zo_cX2_remove_0 5 rfl
theorem dX2_remove_14 : decode cX2_remove 14 = .ok (.dup, 1) := zd_at zo_cX2_remove_0 6 rfl
theorem dX2_remove_15 : decode cX2_remove 15 = .ok (.ldc 96, 2) := zd_at zo_cX2_remove_0 7 rfl
theorem dX2_remove_17 : decode cX2_remove 17 = .ok (.invokespecial 98, 3) := zd_at zo_cX2_remove_0 8 rfl
theorem dX2_remove_20 : decode cX2_remove 20 = .ok (.athrow, 1) := zd_at zo_cX2_remove_0 9 rfl
theorem dX2_remove_21 : decode cX2_remove 21 = .ok (.aload_n 0, 1) := zd_at zo_cX2_remove_0 10 rfl
theorem dX2_remove_22 : decode cX2_remove 22 = .ok (.invokevirtual 134, 3) := zd_at zo_cX2_remove_0 11 rfl
theorem dX2_remove_25 : decode cX2_remove 25 = .ok (.aload_n 0, 1) := zd_at zo_cX2_remove_0 12 rfl
theorem dX2_remove_26 : decode cX2_remove 26 = .ok (.getfield 12, 3) := zd_at zo_cX2_remove_0 13 rfl
theorem dX2_remove_29 : decode cX2_remove 29 = .ok (.invokevirtual 140, 3) := zd_at zo_cX2_remove_0 14 rfl
theorem dX2_remove_32 : decode cX2_remove 32 = .ok (.aload_n 0, 1) := zd_at zo_cX2_remove_0 15 rfl
theorem dX2_remove_33 : decode cX2_remove 33 = .ok (.getfield 12, 3) := zd_at zo_cX2_remove_0 16 rfl
theorem dX2_remove_36 : decode cX2_remove 36 = .ok (.iload_n 1, 1) := zd_at zo_cX2_remove_0 17 rfl
theorem dX2_remove_37 : decode cX2_remove 37 = .ok (.invokevirtual 159, 3) := zd_at zo_cX2_remove_0 18 rfl
theorem dX2_remove_40 : decode cX2_remove 40 = .ok (.aload_n 0, 1) := zd_at zo_cX2_remove_0 19 rfl
theorem dX2_remove_41 : decode cX2_remove 41 = .ok (.getfield 12, 3) := zd_at zo_cX2_remove_0 20 rfl
theorem dX2_remove_44 : decode cX2_remove 44 = .ok (.invokevirtual 64, 3) := zd_at zo_cX2_remove_0 21 rfl
theorem dX2_remove_47 : decode cX2_remove 47 = .ok (.ireturn, 1) := zd_at zo_cX2_remove_0 22 rfl
def zl_cX2_move_0 : List (Nat × Instr × Nat) := [(0, .aload_n 0, 1), (1, .getfield 12, 3), (4, .iload_n 1, 1), (5, .invokevirtual 90, 3), (8, .ifCond .ne 13, 3), (11, .new 94, 3), (14, .dup, 1), (15, .ldc 96, 2), (17, .invokespecial 98, 3), (20, .athrow, 1), (21, .iload_n 2, 1), (22, .bipush (-100), 2), (24, .if_icmp .le 21, 3), (27, .iload_n 2, 1), (28, .bipush 100, 2), (30, .if_icmp .ge 15, 3), (33, .iload_n 3, 1), (34, .bipush (-100), 2), (36, .if_icmp .le 9, 3), (39, .iload_n 3, 1), (40, .bipush 100, 2), (42, .if_icmp .lt 13, 3), (45, .new 37, 3), (48, .dup, 1), (49, .ldc 162, 2), (51, .invokespecial 41, 3), (54, .athrow, 1), (55, .aload_n 0, 1), (56, .getfield 12, 3), (59, .iload_n 1, 1), (60, .iload_n 2, 1), (61, .iload_n 3, 1), (62, .invokevirtual 164, 3), (65, .ifCond .ne 13, 3), (68, .new 48, 3), (71, .dup, 1), (72, .ldc 168, 2), (74, .invokespecial 52, 3), (77, .athrow, 1), (78, .aload_n 0, 1), (79, .invokevirtual 134, 3), (82, .aload_n 0, 1), (83, .getfield 12, 3), (86, .invokevirtual 140, 3), (89, .aload_n 0, 1), (90, .getfield 12, 3), (93, .iload_n 1, 1), (94, .invokevirtual 159, 3), (97, .aload_n 0, 1), (98, .getfield 12, 3), (101, .iload_n 1, 1), (102, .iload_n 2, 1), (103, .iload_n 3, 1), (104, .invokevirtual 170, 3), (107, .aload_n 0, 1), (108, .getfield 12, 3), (111, .iload_n 1, 1), (112, .invokevirtual 147, 3), (115, .aload_n 0, 1), (116, .getfield 12, 3), (119, .aload_n 0, 1), (120, .getfield 12, 3), (123, .iload_n 1, 1), (124, .invokevirtual 101, 3), (127, .invokevirtual 104, 3), (130, .ireturn, 1)]
theorem zo_cX2_move_0 : zd_ok cX2_move zl_cX2_move_0 = true := by decide +kernel
theorem dX2_move_0 : decode cX2_move 0 = .ok (.aload_n 0, 1) := zd_at zo_cX2_move_0 0 rfl
theorem dX2_move_1 : decode cX2_move 1 = .ok (.getfield 12, 3) := zd_at zo_cX2_move_0 1 rfl
theorem dX2_move_4 : decode cX2_move 4 = .ok (.iload_n 1, 1) := zd_at zo_cX2_move_0 2 rfl
theorem dX2_move_5 : decode cX2_move 5 = .ok (.invokevirtual 90, 3) := zd_at zo_cX2_move_0 3 rfl
theorem dX2_move_8 : decode cX2_move 8 = .ok (.ifCond .ne 13, 3) := zd_at zo_cX2_move_0 4 rfl
theorem dX2_move_11 : decode cX2_move 11 = .ok (.new 94, 3) := zd_at zo_cX2_move_0 5 rfl
theorem dX2_move_14 : decode cX2_move 14 = .ok (.dup, 1) := zd_at zo_cX2_move_0 6 rfl
theorem dX2_move_15 : decode cX2_move 15 = .ok (.ldc 96, 2) := zd_at zo_cX2_move_0 7 rfl
theorem dX2_move_17 : decode cX2_move 17 = .ok (.invokespecial 98, 3) := zd_at zo_cX2_move_0 8 rfl
theorem dX2_move_20 : decode cX2_move 20 = .ok (.athrow, 1) := zd_at zo_cX2_move_0 9 rfl
theorem dX2_move_21 : decode cX2_move 21 = .ok (.iload_n 2, 1) := zd_at zo_cX2_move_0 10 rfl
theorem dX2_move_22 : decode cX2_move 22 = .ok (.bipush (-100), 2) := zd_at zo_cX2_move_0 11 rfl
theorem dX2_move_24 : decode cX2_move 24 = .ok (.if_icmp .le 21, 3) := zd_at zo_cX2_move_0 12 rfl
theorem dX2_move_27 : decode cX2_move 27 = .ok (.iload_n 2, 1) := zd_at zo_cX2_move_0 13 rfl
theorem dX2_move_28 : decode cX2_move 28 = .ok (.bipush 100, 2) := zd_at zo_cX2_move_0 14 rfl
theorem dX2_move_30 : decode cX2_move 30 = .ok (.if_icmp .ge 15, 3) := zd_at zo_cX2_move_0 15 rfl
theorem dX2_move_33 : decode cX2_move 33 = .ok (.iload_n 3, 1) := zd_at zo_cX2_move_0 16 rfl
theorem dX2_move_34 : decode cX2_move 34 = .ok (.bipush (-100), 2) := zd_at zo_cX2_move_0 17 rfl
theorem dX2_move_36 : decode cX2_move 36 = .ok (.if_icmp .le 9, 3) := zd_at zo_cX2_move_0 18 rfl
theorem dX2_move_39 : decode cX2_move 39 = .ok (.iload_n 3, 1) := zd_at zo_cX2_move_0 19 rfl
theorem dX2_move_40 : decode cX2_move 40 = .ok (.bipush 100, 2) := zd_at zo_cX2_move_0 20 rfl
theorem dX2_move_42 : decode cX2_move 42 = .ok (.if_icmp .lt 13, 3) := zd_at zo_cX2_move_0 21 rfl
theorem dX2_move_45 : decode cX2_move 45 = .ok (.new 37, 3) := zd_at zo_cX2_move_0 22 rfl
theorem dX2_move_48 : decode cX2_move 48 = .ok (.dup, 1) := zd_at zo_cX2_move_0 23 rfl
theorem dX2_move_49 : decode cX2_move 49 = .ok (.ldc 162, 2) := zd_at zo_cX2_move_0 24 rfl
theorem dX2_move_51 : decode cX2_move 51 = .ok (.invokespecial 41, 3) := zd_at zo_cX2_move_0 25 rfl
theorem dX2_move_54 : decode cX2_move 54 = .ok (.athrow, 1) := zd_at zo_cX2_move_0 26 rfl
theorem dX2_move_55 : decode cX2_move 55 = .ok (.aload_n 0, 1) := zd_at zo_cX2_move_0 27 rfl
theorem dX2_move_56 : decode cX2_move 56 = .ok (.getfield 12, 3) := zd_at zo_cX2_move_0 28 rfl
theorem dX2_move_59 : decode cX2_move 59 = .ok (.iload_n 1, 1) := zd_at zo_cX2_move_0 29 rfl
theorem dX2_move_60 : decode cX2_move 60 = .ok (.iload_n 2, 1) := zd_at zo_cX2_move_0 30 rfl
theorem dX2_move_61 : decode cX2_move 61 = .ok (.iload_n 3, 1) := zd_at zo_cX2_move_0 31 rfl
theorem dX2_move_62 : decode cX2_move 62 = .ok (.invokevirtual 164, 3) := zd_at zo_cX2_move_0 32 rfl
theorem dX2_move_65 : decode cX2_move 65 = .ok (.ifCond .ne 13, 3) := zd_at zo_cX2_move_0 33 rfl
theorem dX2_move_68 : decode cX2_move 68 = .ok (.new 48, 3) := zd_at zo_cX2_move_0 34 rfl
theorem dX2_move_71 : decode cX2_move 71 = .ok (.dup, 1) := zd_at zo_cX2_move_0 35 rfl
theorem dX2_move_72 : decode cX2_move 72 = .ok (.ldc 168, 2) := zd_at zo_cX2_move_0 36 rfl
theorem dX2_move_74 : decode cX2_move 74 = .ok (.invokespecial 52, 3) := zd_at zo_cX2_move_0 37 rfl
theorem dX2_move_77 : decode cX2_move 77 = .ok (.athrow, 1) := zd_at zo_cX2_move_0 38 rfl
theorem dX2_move_78 : decode cX2_move 78 = .ok (.aload_n 0, 1) := zd_at zo_cX2_move_0 39 rfl
theorem dX2_move_79 : decode cX2_move 79 = .ok (.invokevirtual 134, 3) := zd_at zo_cX2_move_0 40 rfl
theorem dX2_move_82 : decode cX2_move 82 = .ok (.aload_n 0, 1) := zd_at zo_cX2_move_0 41 rfl
theorem dX2_move_83 : decode cX2_move 83 = .ok (.getfield 12, 3) := zd_at zo_cX2_move_0 42 rfl
theorem dX2_move_86 : decode cX2_move 86 = .ok (.invokevirtual 140, 3) := zd_at zo_cX2_move_0 43 rfl
theorem dX2_move_89 : decode cX2_move 89 = .ok (.aload_n 0, 1) := zd_at zo_cX2_move_0 44 rfl
theorem dX2_move_90 : decode cX2_move 90 = .ok (.getfield 12, 3) := zd_at zo_cX2_move_0 45 rfl
theorem dX2_move_93 : decode cX2_move 93 = .ok (.iload_n 1, 1) := zd_at zo_cX2_move_0 46 rfl
theorem dX2_move_94 : decode cX2_move 94 = .ok (.invokevirtual 159, 3) := zd_at zo_cX2_move_0 47 rfl
theorem dX2_move_97 : decode cX2_move 97 = .ok (.aload_n 0, 1) := zd_at zo_cX2_move_0 48 rfl
theorem dX2_move_98 : decode cX2_move 98 = .ok (.getfield 12, 3) := zd_at zo_cX2_move_0 49 rfl
theorem dX2_move_101 : decode cX2_move 101 = .ok (.iload_n 1, 1) := zd_at zo_cX2_move_0 50 rfl
theorem dX2_move_102 : decode cX2_move 102 = .ok (.iload_n 2, 1) := zd_at zo_cX2_move_0 51 rfl
theorem dX2_move_103 : decode cX2_move 103 = .ok (.iload_n 3, 1) := zd_at zo_cX2_move_0 52 rfl
theorem dX2_move_104 : decode cX2_move 104 = .ok (.invokevirtual 170, 3) := zd_at zo_cX2_move_0 53 rfl
theorem dX2_move_107 : decode cX2_move 107 = .ok (.aload_n 0, 1) := zd_at zo_cX2_move_0 54 rfl
theorem dX2_move_108 : decode cX2_move 108 = .ok (.getfield 12, 3) := zd_at zo_cX2_move_0 55 rfl
theorem dX2_move_111 : decode cX2_move 111 = .ok (.iload_n 1, 1) := zd_at zo_cX2_move_0 56 rfl
theorem dX2_move_112 : decode cX2_move 112 = .ok (.invokevirtual 147, 3) := zd_at zo_cX2_move_0 57 rfl
theorem dX2_move_115 : decode cX2_move 115 = .ok (.aload_n 0, 1) := zd_at zo_cX2_move_0 58 rfl
theorem dX2_move_116 : decode cX2_move 116 = .ok (.getfield 12, 3) := zd_at zo_cX2_move_0 59 rfl
theorem dX2_move_119 : decode cX2_move 119 = .ok (.aload_n 0, 1) := zd_at zo_cX2_move_0 60 rfl
theorem dX2_move_120 : decode cX2_move 120 = .ok (.getfield 12, 3) := zd_at zo_cX2_move_0 61 rfl
theorem dX2_move_123 : decode cX2_move 123 = .ok (.iload_n 1, 1) := zd_at zo_cX2_move_0 62 rfl
theorem dX2_move_124 : decode cX2_move 124 = .ok (.invokevirtual 101, 3) := zd_at zo_cX2_move_0 63 rfl
theorem dX2_move_127 : decode cX2_move 127 = .ok (.invokevirtual 104, 3) := zd_at zo_cX2_move_0 64 rfl
theorem dX2_move_130 : decode cX2_move 130 = .ok (.ireturn, 1) := zd_at zo_cX2_move_0 65 rfl
def zl_cX2_undo_0 : List (Nat × Instr × Nat) := [(0, .aload_n 0, 1), (1, .getfield 174, 3), (4, .ifCond .ne 13, 3), (7, .new 48, 3), (10, .dup, 1), (11, .ldc 177, 2), (13, .invokespecial 52, 3), (16, .athrow, 1), (17, .aload_n 0, 1), (18, .dup, 1), (19, .getfield 174, 3), (22, .iconst 1, 1), (23, .isub, 1), (24, .putfield 174, 3), (27, .aload_n 0, 1), (28, .getfield 12, 3), (31, .aload_n 0, 1), (32, .getfield 19, 3), (35, .aload_n 0, 1), (36, .getfield 179, 3), (39, .aload_n 0, 1), (40, .getfield 174, 3), (43, .iadd, 1), (44, .bipush 14, 2), (46, .irem, 1), (47, .invokestatic 182, 3), (50, .invokevirtual 186, 3), (53, .aload_n 0, 1), (54, .getfield 174, 3), (57, .ireturn, 1)]
theorem zo_cX2_undo_0 : zd_ok cX2_undo zl_cX2_undo_0 = true := by decide +kernel
theorem dX2_undo_0 : decode cX2_undo 0 = .ok (.aload_n 0, 1) := zd_at zo_cX2_undo_0 0 rfl
theorem dX2_undo_1 : decode cX2_undo 1 = .ok (.getfield 174, 3) := zd_at zo_cX2_undo_0 1 rfl
theorem dX2_undo_4 : decode cX2_undo 4 = .ok (.ifCond .ne 13, 3) := zd_at zo_cX2_undo_0 2 rfl
theorem dX2_undo_7 : decode cX2_undo 7 = .ok (.new 48, 3) := zd_at zo_cX2_undo_0 3 rfl
theorem dX2_undo_10 : decode cX2_undo 10 = .ok (.dup, 1) := zd_at zo_cX2_undo_0 4 rfl
theorem dX2_undo_11 : decode cX2_undo 11 = .ok (.ldc 177, 2) := zd_at zo_cX2_undo_0 5 rfl
theorem dX2_undo_13 : decode cX2_undo 13 = .ok (.invokespecial 52, 3) := zd_at zo_cX2_undo_0 6 rfl
theorem dX2_undo_16 : decode cX2_undo 16 = .ok (.athrow, 1) := zd_at zo_cX2_undo_0 7 rfl
theorem dX2_undo_17 : decode cX2_undo 17 = .ok (.aload_n 0, 1) := zd_at zo_cX2_undo_0 8 rfl
theorem dX2_undo_18 : decode cX2_undo 18 = .ok (.dup, 1) := zd_at zo_cX2_undo_0 9 rfl
theorem dX2_undo_19 : decode cX2_undo 19 = .ok (.getfield 174, 3) := zd_at zo_cX2_undo_0 10 rfl
theorem dX2_undo_22 : decode cX2_undo 22 = .ok (.iconst 1, 1) := zd_at zo_cX2_undo_0 11 rfl
theorem dX2_undo_23 : decode cX2_undo 23 = .ok (.isub, 1) := zd_at zo_cX2_undo_0 12 rfl
theorem dX2_undo_24 : decode cX2_undo 24 = .ok (.putfield 174, 3) := zd_at zo_cX2_undo_0 13 rfl
theorem dX2_undo_27 : decode cX2_undo 27 = .ok (.aload_n 0, 1) := zd_at zo_cX2_undo_0 14 rfl
theorem dX2_undo_28 : decode cX2_undo 28 = .ok (.getfield 12, 3) := zd_at zo_cX2_undo_0 15 rfl
theorem dX2_undo_31 : decode cX2_undo 31 = .ok (.aload_n 0, 1) := zd_at zo_cX2_undo_0 16 rfl
theorem dX2_undo_32 : decode cX2_undo 32 = .ok (.getfield 19, 3) := zd_at zo_cX2_undo_0 17 rfl
theorem dX2_undo_35 : decode cX2_undo 35 = .ok (.aload_n 0, 1) := zd_at zo_cX2_undo_0 18 rfl
theorem dX2_undo_36 : decode cX2_undo 36 = .ok (.getfield 179, 3) := zd_at zo_cX2_undo_0 19 rfl
theorem dX2_undo_39 : decode cX2_undo 39 = .ok (.aload_n 0, 1) := zd_at zo_cX2_undo_0 20 rfl
theorem dX2_undo_40 : decode cX2_undo 40 = .ok (.getfield 174, 3) := zd_at zo_cX2_undo_0 21 rfl
theorem dX2_undo_43 : decode cX2_undo 43 = .ok (.iadd, 1) := zd_at zo_cX2_undo_0 22 rfl
theorem dX2_undo_44 : decode cX2_undo 44 = .ok (.bipush 14, 2) := zd_at zo_cX2_undo_0 23 rfl
theorem dX2_undo_46 : decode cX2_undo 46 = .ok (.irem, 1) := zd_at zo_cX2_undo_0 24 rfl
theorem dX2_undo_47 : decode cX2_undo 47 = .ok (.invokestatic 182, 3) := zd_at zo_cX2_undo_0 25 rfl
theorem dX2_undo_50 : decode cX2_undo 50 = .ok (.invokevirtual 186, 3) := zd_at zo_cX2_undo_0 26 rfl
theorem dX2_undo_53 : decode cX2_undo 53 = .ok (.aload_n 0, 1) := zd_at zo_cX2_undo_0 27 rfl
theorem dX2_undo_54 : decode cX2_undo 54 = .ok (.getfield 174, 3) := zd_at zo_cX2_undo_0 28 rfl
theorem dX2_undo_57 : decode cX2_undo 57 = .ok (.ireturn, 1) := zd_at zo_cX2_undo_0 29 rfl
def zl_cX2_window_0 : List (Nat × Instr × Nat) := [(0, .iload_n 1, 1), (1, .iload_n 2, 1), (2, .iload_n 3, 1), (3, .iload 4, 2), (5, .invokestatic 126, 3), (8, .ifCond .ne 13, 3), (11, .new 37, 3), (14, .dup, 1), (15, .ldc 130, 2), (17, .invokespecial 41, 3), (20, .athrow, 1), (21, .aload_n 0, 1), (22, .getfield 12, 3), (25, .bipush 48, 2), (27, .iload_n 1, 1), (28, .iload_n 2, 1), (29, .iload_n 3, 1), (30, .iload 4, 2), (32, .invokevirtual 143, 3), (35, .iconst 0, 1), (36, .istore 5, 2), (38, .iconst 0, 1), (39, .istore 6, 2), (41, .iload 6, 2), (43, .bipush 24, 2), (45, .if_icmp .ge 44, 3), (48, .aload_n 0, 1), (49, .getfield 12, 3), (52, .iload 6, 2), (54, .invokevirtual 90, 3), (57, .ifCond .eq 26, 3), (60, .aload_n 0, 1), (61, .getfield 12, 3), (64, .iload 6, 2), (66, .bipush 48, 2), (68, .invokevirtual 190, 3), (71, .ifCond .le 12, 3), (74, .iload 5, 2), (76, .iconst 1, 1), (77, .iload 6, 2), (79, .ishl, 1), (80, .ior, 1), (81, .istore 5, 2), (83, .iinc 6 1, 3), (86, .goto (-45), 3), (89, .iload 5, 2), (91, .ireturn, 1)]
theorem zo_cX2_window_0 : zd_ok cX2_window zl_cX2_window_0 = true := by decide +kernel
theorem dX2_window_0 : decode cX2_window 0 = .ok (.iload_n 1, 1) := zd_at zo_cX2_window_0 0 rfl
theorem dX2_window_1 : decode cX2_window 1 = .ok (.iload_n 2, 1) := zd_at zo_cX2_window_0 1 rfl
theorem dX2_window_2 : decode cX2_window 2 = .ok (.iload_n 3, 1) := zd_at zo_cX2_window_0 2 rfl
theorem dX2_window_3 : decode cX2_window 3 = .ok (.iload 4, 2) := zd_at zo_cX2_window_0 3 rfl
theorem dX2_window_5 : decode cX2_window 5 = .ok (.invokestatic 126, 3) := zd_at zo_cX2_window_0 4 rfl
theorem dX2_window_8 : decode cX2_window 8 = .ok (.ifCond .ne 13, 3) := zd_at zo_cX2_window_0 5 rfl
theorem dX2_window_11 : decode cX2_window 11 = .ok (.new 37, 3) := zd_at zo_cX2_window_0 6 rfl
theorem dX2_window_14 : decode cX2_window 14 = .ok (.dup, 1) := zd_at zo_cX2_window_0 7 rfl
theorem dX2_window_15 : decode cX2_window 15 = .ok (.ldc 130, 2) := zd_at zo_cX2_window_0 8 rfl
theorem dX2_window_17 : decode cX2_window 17 = .ok (.invokespecial 41, 3) := zd_at zo_cX2_window_0 9 rfl
theorem dX2_window_20 : decode cX2_window 20 = .ok (.athrow, 1) := zd_at zo_cX2_window_0 10 rfl
theorem dX2_window_21 : decode cX2_window 21 = .ok (.aload_n 0, 1) := zd_at zo_cX2_window_0 11 rfl
theorem dX2_window_22 : decode cX2_window 22 = .ok (.getfield 12, 3) := zd_at zo_cX2_window_0 12 rfl
theorem dX2_window_25 : decode cX2_window 25 = .ok (.bipush 48, 2) := zd_at zo_cX2_window_0 13 rfl
theorem dX2_window_27 : decode cX2_window 27 = .ok (.iload_n 1, 1) := zd_at zo_cX2_window_0 14 rfl
theorem dX2_window_28 : decode cX2_window 28 = .ok (.iload_n 2, 1) := zd_at zo_cX2_window_0 15 rfl
theorem dX2_window_29 : decode cX2_window 29 = .ok (.iload_n 3, 1) := zd_at zo_cX2_window_0 16 rfl
theorem dX2_window_30 : decode cX2_window 30 = .ok (.iload 4, 2) := zd_at zo_cX2_window_0 17 rfl
theorem dX2_window_32 : decode cX2_window 32 = .ok (.invokevirtual 143, 3) := zd_at zo_cX2_window_0 18 rfl
theorem dX2_window_35 : decode cX2_window 35 = .ok (.iconst 0, 1) := zd_at zo_cX2_window_0 19 rfl
theorem dX2_window_36 : decode cX2_window 36 = .ok (.istore 5, 2) := zd_at zo_cX2_window_0 20 rfl
theorem dX2_window_38 : decode cX2_window 38 = .ok (.iconst 0, 1) := zd_at zo_cX2_window_0 21 rfl
theorem dX2_window_39 : decode cX2_window 39 = .ok (.istore 6, 2) := zd_at zo_cX2_window_0 22 rfl
theorem dX2_window_41 : decode cX2_window 41 = .ok (.iload 6, 2) := zd_at zo_cX2_window_0 23 rfl
theorem dX2_window_43 : decode cX2_window 43 = .ok (.bipush 24, 2) := zd_at zo_cX2_window_0 24 rfl
theorem dX2_window_45 : decode cX2_window 45 = .ok (.if_icmp .ge 44, 3) := zd_at zo_cX2_window_0 25 rfl
theorem dX2_window_48 : decode cX2_window 48 = .ok (.aload_n 0, 1) := zd_at zo_cX2_window_0 26 rfl
theorem dX2_window_49 : decode cX2_window 49 = .ok (.getfield 12, 3) := zd_at zo_cX2_window_0 27 rfl
theorem dX2_window_52 : decode cX2_window 52 = .ok (.iload 6, 2) := zd_at zo_cX2_window_0 28 rfl
theorem dX2_window_54 : decode cX2_window 54 = .ok (.invokevirtual 90, 3) := zd_at zo_cX2_window_0 29 rfl
theorem dX2_window_57 : decode cX2_window 57 = .ok (.ifCond .eq 26, 3) := zd_at zo_cX2_window_0 30 rfl
theorem dX2_window_60 : decode cX2_window 60 = .ok (.aload_n 0, 1) := zd_at zo_cX2_window_0 31 rfl
theorem dX2_window_61 : decode cX2_window 61 = .ok (.getfield 12, 3) := zd_at zo_cX2_window_0 32 rfl
theorem dX2_window_64 : decode cX2_window 64 = .ok (.iload 6, 2) := zd_at zo_cX2_window_0 33 rfl
theorem dX2_window_66 : decode cX2_window 66 = .ok (.bipush 48, 2) := zd_at zo_cX2_window_0 34 rfl
theorem dX2_window_68 : decode cX2_window 68 = .ok (.invokevirtual 190, 3) := zd_at zo_cX2_window_0 35 rfl
theorem dX2_window_71 : decode cX2_window 71 = .ok (.ifCond .le 12, 3) := zd_at zo_cX2_window_0 36 rfl
theorem dX2_window_74 : decode cX2_window 74 = .ok (.iload 5, 2) := zd_at zo_cX2_window_0 37 rfl
theorem dX2_window_76 : decode cX2_window 76 = .ok (.iconst 1, 1) := zd_at zo_cX2_window_0 38 rfl
theorem dX2_window_77 : decode cX2_window 77 = .ok (.iload 6, 2) := zd_at zo_cX2_window_0 39 rfl
theorem dX2_window_79 : decode cX2_window 79 = .ok (.ishl, 1) := zd_at zo_cX2_window_0 40 rfl
theorem dX2_window_80 : decode cX2_window 80 = .ok (.ior, 1) := zd_at zo_cX2_window_0 41 rfl
theorem dX2_window_81 : decode cX2_window 81 = .ok (.istore 5, 2) := zd_at zo_cX2_window_0 42 rfl
theorem dX2_window_83 : decode cX2_window 83 = .ok (.iinc 6 1, 3) := zd_at zo_cX2_window_0 43 rfl
theorem dX2_window_86 : decode cX2_window 86 = .ok (.goto (-45), 3) := zd_at zo_cX2_window_0 44 rfl
theorem dX2_window_89 : decode cX2_window 89 = .ok (.iload 5, 2) := zd_at zo_cX2_window_0 45 rfl
theorem dX2_window_91 : decode cX2_window 91 = .ok (.ireturn, 1) := zd_at zo_cX2_window_0 46 rfl
def zl_cX2_looks_0 : List (Nat × Instr × Nat) := [(0, .iload_n 1, 1), (1, .iload_n 2, 1), (2, .iload_n 3, 1), (3, .iload 4, 2), (5, .invokestatic 126, 3), (8, .ifCond .ne 13, 3), (11, .new 37, 3), (14, .dup, 1), (15, .ldc 130, 2), (17, .invokespecial 41, 3), (20, .athrow, 1), (21, .aload_n 0, 1), (22, .getfield 12, 3), (25, .bipush 48, 2), (27, .iload_n 1, 1), (28, .iload_n 2, 1), (29, .iload_n 3, 1), (30, .iload 4, 2), (32, .invokevirtual 143, 3), (35, .aload_n 0, 1), (36, .getfield 12, 3), (39, .bipush 48, 2), (41, .invokevirtual 193, 3), (44, .ireturn, 1)]
theorem zo_cX2_looks_0 : zd_ok cX2_looks zl_cX2_looks_0 = true := by decide +kernel
theorem dX2_looks_0 : decode cX2_looks 0 = .ok (.iload_n 1, 1) := zd_at zo_cX2_looks_0 0 rfl
theorem dX2_looks_1 : decode cX2_looks 1 = .ok (.iload_n 2, 1) := zd_at zo_cX2_looks_0 1 rfl
theorem dX2_looks_2 : decode cX2_looks 2 = .ok (.iload_n 3, 1) := zd_at zo_cX2_looks_0 2 rfl
theorem dX2_looks_3 : decode cX2_looks 3 = .ok (.iload 4, 2) := zd_at zo_cX2_looks_0 3 rfl
theorem dX2_looks_5 : decode cX2_looks 5 = .ok (.invokestatic 126, 3) := zd_at zo_cX2_looks_0 4 rfl
theorem dX2_looks_8 : decode cX2_looks 8 = .ok (.ifCond .ne 13, 3) := zd_at zo_cX2_looks_0 5 rfl
theorem dX2_looks_11 : decode cX2_looks 11 = .ok (.new 37, 3) := zd_at zo_cX2_looks_0 6 rfl
theorem dX2_looks_14 : decode cX2_looks 14 = .ok (.dup, 1) := zd_at zo_cX2_looks_0 7 rfl
theorem dX2_looks_15 : decode cX2_looks 15 = .ok (.ldc 130, 2) := zd_at zo_cX2_looks_0 8 rfl
theorem dX2_looks_17 : decode cX2_looks 17 = .ok (.invokespecial 41, 3) := zd_at zo_cX2_looks_0 9 rfl
theorem dX2_looks_20 : decode cX2_looks 20 = .ok (.athrow, 1) := zd_at zo_cX2_looks_0 10 rfl
theorem dX2_looks_21 : decode cX2_looks 21 = .ok (.aload_n 0, 1) := zd_at zo_cX2_looks_0 11 rfl
theorem dX2_looks_22 : decode cX2_looks 22 = .ok (.getfield 12, 3) := zd_at zo_cX2_looks_0 12 rfl
theorem dX2_looks_25 : decode cX2_looks 25 = .ok (.bipush 48, 2) := zd_at zo_cX2_looks_0 13 rfl
theorem dX2_looks_27 : decode cX2_looks 27 = .ok (.iload_n 1, 1) := zd_at zo_cX2_looks_0 14 rfl
theorem dX2_looks_28 : decode cX2_looks 28 = .ok (.iload_n 2, 1) := zd_at zo_cX2_looks_0 15 rfl
theorem dX2_looks_29 : decode cX2_looks 29 = .ok (.iload_n 3, 1) := zd_at zo_cX2_looks_0 16 rfl
theorem dX2_looks_30 : decode cX2_looks 30 = .ok (.iload 4, 2) := zd_at zo_cX2_looks_0 17 rfl
theorem dX2_looks_32 : decode cX2_looks 32 = .ok (.invokevirtual 143, 3) := zd_at zo_cX2_looks_0 18 rfl
theorem dX2_looks_35 : decode cX2_looks 35 = .ok (.aload_n 0, 1) := zd_at zo_cX2_looks_0 19 rfl
theorem dX2_looks_36 : decode cX2_looks 36 = .ok (.getfield 12, 3) := zd_at zo_cX2_looks_0 20 rfl
theorem dX2_looks_39 : decode cX2_looks 39 = .ok (.bipush 48, 2) := zd_at zo_cX2_looks_0 21 rfl
theorem dX2_looks_41 : decode cX2_looks 41 = .ok (.invokevirtual 193, 3) := zd_at zo_cX2_looks_0 22 rfl
theorem dX2_looks_44 : decode cX2_looks 44 = .ok (.ireturn, 1) := zd_at zo_cX2_looks_0 23 rfl
def zl_cX2_nearest_0 : List (Nat × Instr × Nat) := [(0, .iload_n 1, 1), (1, .iload_n 2, 1), (2, .invokestatic 196, 3), (5, .ifCond .ne 13, 3), (8, .new 37, 3), (11, .dup, 1), (12, .ldc 200, 2), (14, .invokespecial 41, 3), (17, .athrow, 1), (18, .iload_n 3, 1), (19, .ifCond .ge 13, 3), (22, .new 37, 3), (25, .dup, 1), (26, .ldc 121, 2), (28, .invokespecial 41, 3), (31, .athrow, 1), (32, .aload_n 0, 1), (33, .getfield 12, 3), (36, .iload_n 1, 1), (37, .iload_n 2, 1), (38, .iload_n 3, 1), (39, .invokevirtual 202, 3), (42, .ireturn, 1)]
theorem zo_cX2_nearest_0 : zd_ok cX2_nearest zl_cX2_nearest_0 = true := by decide +kernel
theorem dX2_nearest_0 : decode cX2_nearest 0 = .ok (.iload_n 1, 1) := zd_at zo_cX2_nearest_0 0 rfl
theorem dX2_nearest_1 : decode cX2_nearest 1 = .ok (.iload_n 2, 1) := zd_at zo_cX2_nearest_0 1 rfl
theorem dX2_nearest_2 : decode cX2_nearest 2 = .ok (.invokestatic 196, 3) := zd_at zo_cX2_nearest_0 2 rfl
theorem dX2_nearest_5 : decode cX2_nearest 5 = .ok (.ifCond .ne 13, 3) := zd_at zo_cX2_nearest_0 3 rfl
theorem dX2_nearest_8 : decode cX2_nearest 8 = .ok (.new 37, 3) := zd_at zo_cX2_nearest_0 4 rfl
theorem dX2_nearest_11 : decode cX2_nearest 11 = .ok (.dup, 1) := zd_at zo_cX2_nearest_0 5 rfl
theorem dX2_nearest_12 : decode cX2_nearest 12 = .ok (.ldc 200, 2) := zd_at zo_cX2_nearest_0 6 rfl
theorem dX2_nearest_14 : decode cX2_nearest 14 = .ok (.invokespecial 41, 3) := zd_at zo_cX2_nearest_0 7 rfl
theorem dX2_nearest_17 : decode cX2_nearest 17 = .ok (.athrow, 1) := zd_at zo_cX2_nearest_0 8 rfl
theorem dX2_nearest_18 : decode cX2_nearest 18 = .ok (.iload_n 3, 1) := zd_at zo_cX2_nearest_0 9 rfl
theorem dX2_nearest_19 : decode cX2_nearest 19 = .ok (.ifCond .ge 13, 3) := zd_at zo_cX2_nearest_0 10 rfl
theorem dX2_nearest_22 : decode cX2_nearest 22 = .ok (.new 37, 3) := zd_at zo_cX2_nearest_0 11 rfl
theorem dX2_nearest_25 : decode cX2_nearest 25 = .ok (.dup, 1) := zd_at zo_cX2_nearest_0 12 rfl
theorem dX2_nearest_26 : decode cX2_nearest 26 = .ok (.ldc 121, 2) := zd_at zo_cX2_nearest_0 13 rfl
theorem dX2_nearest_28 : decode cX2_nearest 28 = .ok (.invokespecial 41, 3) := zd_at zo_cX2_nearest_0 14 rfl
theorem dX2_nearest_31 : decode cX2_nearest 31 = .ok (.athrow, 1) := zd_at zo_cX2_nearest_0 15 rfl
theorem dX2_nearest_32 : decode cX2_nearest 32 = .ok (.aload_n 0, 1) := zd_at zo_cX2_nearest_0 16 rfl
theorem dX2_nearest_33 : decode cX2_nearest 33 = .ok (.getfield 12, 3) := zd_at zo_cX2_nearest_0 17 rfl
theorem dX2_nearest_36 : decode cX2_nearest 36 = .ok (.iload_n 1, 1) := zd_at zo_cX2_nearest_0 18 rfl
theorem dX2_nearest_37 : decode cX2_nearest 37 = .ok (.iload_n 2, 1) := zd_at zo_cX2_nearest_0 19 rfl
theorem dX2_nearest_38 : decode cX2_nearest 38 = .ok (.iload_n 3, 1) := zd_at zo_cX2_nearest_0 20 rfl
theorem dX2_nearest_39 : decode cX2_nearest 39 = .ok (.invokevirtual 202, 3) := zd_at zo_cX2_nearest_0 21 rfl
theorem dX2_nearest_42 : decode cX2_nearest 42 = .ok (.ireturn, 1) := zd_at zo_cX2_nearest_0 22 rfl
def zl_cX2_chosen_0 : List (Nat × Instr × Nat) := [(0, .iload_n 1, 1), (1, .iload_n 2, 1), (2, .iload_n 3, 1), (3, .iload 4, 2), (5, .invokestatic 126, 3), (8, .ifCond .ne 13, 3), (11, .new 37, 3), (14, .dup, 1), (15, .ldc 130, 2), (17, .invokespecial 41, 3), (20, .athrow, 1), (21, .aload_n 0, 1), (22, .getfield 12, 3), (25, .bipush 48, 2), (27, .iload_n 1, 1), (28, .iload_n 2, 1), (29, .iload_n 3, 1), (30, .iload 4, 2), (32, .invokevirtual 143, 3), (35, .aload_n 0, 1), (36, .getfield 12, 3), (39, .aload_n 0, 1), (40, .getfield 12, 3), (43, .bipush 48, 2), (45, .iconst 0, 1), (46, .invokevirtual 206, 3), (49, .invokevirtual 104, 3), (52, .ireturn, 1)]
theorem zo_cX2_chosen_0 : zd_ok cX2_chosen zl_cX2_chosen_0 = true := by decide +kernel
theorem dX2_chosen_0 : decode cX2_chosen 0 = .ok (.iload_n 1, 1) := zd_at zo_cX2_chosen_0 0 rfl
theorem dX2_chosen_1 : decode cX2_chosen 1 = .ok (.iload_n 2, 1) := zd_at zo_cX2_chosen_0 1 rfl
theorem dX2_chosen_2 : decode cX2_chosen 2 = .ok (.iload_n 3, 1) := zd_at zo_cX2_chosen_0 2 rfl
theorem dX2_chosen_3 : decode cX2_chosen 3 = .ok (.iload 4, 2) := zd_at zo_cX2_chosen_0 3 rfl
theorem dX2_chosen_5 : decode cX2_chosen 5 = .ok (.invokestatic 126, 3) := zd_at zo_cX2_chosen_0 4 rfl
theorem dX2_chosen_8 : decode cX2_chosen 8 = .ok (.ifCond .ne 13, 3) := zd_at zo_cX2_chosen_0 5 rfl
theorem dX2_chosen_11 : decode cX2_chosen 11 = .ok (.new 37, 3) := zd_at zo_cX2_chosen_0 6 rfl
theorem dX2_chosen_14 : decode cX2_chosen 14 = .ok (.dup, 1) := zd_at zo_cX2_chosen_0 7 rfl
theorem dX2_chosen_15 : decode cX2_chosen 15 = .ok (.ldc 130, 2) := zd_at zo_cX2_chosen_0 8 rfl
theorem dX2_chosen_17 : decode cX2_chosen 17 = .ok (.invokespecial 41, 3) := zd_at zo_cX2_chosen_0 9 rfl
theorem dX2_chosen_20 : decode cX2_chosen 20 = .ok (.athrow, 1) := zd_at zo_cX2_chosen_0 10 rfl
theorem dX2_chosen_21 : decode cX2_chosen 21 = .ok (.aload_n 0, 1) := zd_at zo_cX2_chosen_0 11 rfl
theorem dX2_chosen_22 : decode cX2_chosen 22 = .ok (.getfield 12, 3) := zd_at zo_cX2_chosen_0 12 rfl
theorem dX2_chosen_25 : decode cX2_chosen 25 = .ok (.bipush 48, 2) := zd_at zo_cX2_chosen_0 13 rfl
theorem dX2_chosen_27 : decode cX2_chosen 27 = .ok (.iload_n 1, 1) := zd_at zo_cX2_chosen_0 14 rfl
theorem dX2_chosen_28 : decode cX2_chosen 28 = .ok (.iload_n 2, 1) := zd_at zo_cX2_chosen_0 15 rfl
theorem dX2_chosen_29 : decode cX2_chosen 29 = .ok (.iload_n 3, 1) := zd_at zo_cX2_chosen_0 16 rfl
theorem dX2_chosen_30 : decode cX2_chosen 30 = .ok (.iload 4, 2) := zd_at zo_cX2_chosen_0 17 rfl
theorem dX2_chosen_32 : decode cX2_chosen 32 = .ok (.invokevirtual 143, 3) := zd_at zo_cX2_chosen_0 18 rfl
theorem dX2_chosen_35 : decode cX2_chosen 35 = .ok (.aload_n 0, 1) := zd_at zo_cX2_chosen_0 19 rfl
theorem dX2_chosen_36 : decode cX2_chosen 36 = .ok (.getfield 12, 3) := zd_at zo_cX2_chosen_0 20 rfl
theorem dX2_chosen_39 : decode cX2_chosen 39 = .ok (.aload_n 0, 1) := zd_at zo_cX2_chosen_0 21 rfl
theorem dX2_chosen_40 : decode cX2_chosen 40 = .ok (.getfield 12, 3) := zd_at zo_cX2_chosen_0 22 rfl
theorem dX2_chosen_43 : decode cX2_chosen 43 = .ok (.bipush 48, 2) := zd_at zo_cX2_chosen_0 23 rfl
theorem dX2_chosen_45 : decode cX2_chosen 45 = .ok (.iconst 0, 1) := zd_at zo_cX2_chosen_0 24 rfl
theorem dX2_chosen_46 : decode cX2_chosen 46 = .ok (.invokevirtual 206, 3) := zd_at zo_cX2_chosen_0 25 rfl
theorem dX2_chosen_49 : decode cX2_chosen 49 = .ok (.invokevirtual 104, 3) := zd_at zo_cX2_chosen_0 26 rfl
theorem dX2_chosen_52 : decode cX2_chosen 52 = .ok (.ireturn, 1) := zd_at zo_cX2_chosen_0 27 rfl
def zl_cX2_ifAdded_0 : List (Nat × Instr × Nat) := [(0, .iload_n 1, 1), (1, .iload_n 2, 1), (2, .iload_n 3, 1), (3, .iload 4, 2), (5, .invokestatic 126, 3), (8, .ifCond .ne 13, 3), (11, .new 37, 3), (14, .dup, 1), (15, .ldc 130, 2), (17, .invokespecial 41, 3), (20, .athrow, 1), (21, .aload_n 0, 1), (22, .getfield 12, 3), (25, .invokevirtual 61, 3), (28, .bipush 24, 2), (30, .if_icmp .lt 6, 3), (33, .ldc 209, 2), (35, .ireturn, 1), (36, .aload_n 0, 1), (37, .getfield 16, 3), (40, .aload_n 0, 1), (41, .getfield 12, 3), (44, .invokevirtual 186, 3), (47, .aload_n 0, 1), (48, .iload_n 1, 1), (49, .iload_n 2, 1), (50, .iload_n 3, 1), (51, .iload 4, 2), (53, .invokevirtual 210, 3), (56, .aload_n 0, 1), (57, .getfield 16, 3), (60, .invokevirtual 73, 3), (63, .aload_n 0, 1), (64, .getfield 12, 3), (67, .invokevirtual 73, 3), (70, .isub, 1), (71, .ireturn, 1)]
theorem zo_cX2_ifAdded_0 : zd_ok cX2_ifAdded zl_cX2_ifAdded_0 = true := by decide +kernel
theorem dX2_ifAdded_0 : decode cX2_ifAdded 0 = .ok (.iload_n 1, 1) := zd_at zo_cX2_ifAdded_0 0 rfl
theorem dX2_ifAdded_1 : decode cX2_ifAdded 1 = .ok (.iload_n 2, 1) := zd_at zo_cX2_ifAdded_0 1 rfl
theorem dX2_ifAdded_2 : decode cX2_ifAdded 2 = .ok (.iload_n 3, 1) := zd_at zo_cX2_ifAdded_0 2 rfl
theorem dX2_ifAdded_3 : decode cX2_ifAdded 3 = .ok (.iload 4, 2) := zd_at zo_cX2_ifAdded_0 3 rfl
theorem dX2_ifAdded_5 : decode cX2_ifAdded 5 = .ok (.invokestatic 126, 3) := zd_at zo_cX2_ifAdded_0 4 rfl
theorem dX2_ifAdded_8 : decode cX2_ifAdded 8 = .ok (.ifCond .ne 13, 3) := zd_at zo_cX2_ifAdded_0 5 rfl
theorem dX2_ifAdded_11 : decode cX2_ifAdded 11 = .ok (.new 37, 3) := zd_at zo_cX2_ifAdded_0 6 rfl
theorem dX2_ifAdded_14 : decode cX2_ifAdded 14 = .ok (.dup, 1) := zd_at zo_cX2_ifAdded_0 7 rfl
theorem dX2_ifAdded_15 : decode cX2_ifAdded 15 = .ok (.ldc 130, 2) := zd_at zo_cX2_ifAdded_0 8 rfl
theorem dX2_ifAdded_17 : decode cX2_ifAdded 17 = .ok (.invokespecial 41, 3) := zd_at zo_cX2_ifAdded_0 9 rfl
theorem dX2_ifAdded_20 : decode cX2_ifAdded 20 = .ok (.athrow, 1) := zd_at zo_cX2_ifAdded_0 10 rfl
theorem dX2_ifAdded_21 : decode cX2_ifAdded 21 = .ok (.aload_n 0, 1) := zd_at zo_cX2_ifAdded_0 11 rfl
theorem dX2_ifAdded_22 : decode cX2_ifAdded 22 = .ok (.getfield 12, 3) := zd_at zo_cX2_ifAdded_0 12 rfl
theorem dX2_ifAdded_25 : decode cX2_ifAdded 25 = .ok (.invokevirtual 61, 3) := zd_at zo_cX2_ifAdded_0 13 rfl
theorem dX2_ifAdded_28 : decode cX2_ifAdded 28 = .ok (.bipush 24, 2) := zd_at zo_cX2_ifAdded_0 14 rfl
theorem dX2_ifAdded_30 : decode cX2_ifAdded 30 = .ok (.if_icmp .lt 6, 3) := zd_at zo_cX2_ifAdded_0 15 rfl
theorem dX2_ifAdded_33 : decode cX2_ifAdded 33 = .ok (.ldc 209, 2) := zd_at zo_cX2_ifAdded_0 16 rfl
theorem dX2_ifAdded_35 : decode cX2_ifAdded 35 = .ok (.ireturn, 1) := zd_at zo_cX2_ifAdded_0 17 rfl
theorem dX2_ifAdded_36 : decode cX2_ifAdded 36 = .ok (.aload_n 0, 1) := zd_at zo_cX2_ifAdded_0 18 rfl
theorem dX2_ifAdded_37 : decode cX2_ifAdded 37 = .ok (.getfield 16, 3) := zd_at zo_cX2_ifAdded_0 19 rfl
theorem dX2_ifAdded_40 : decode cX2_ifAdded 40 = .ok (.aload_n 0, 1) := zd_at zo_cX2_ifAdded_0 20 rfl
theorem dX2_ifAdded_41 : decode cX2_ifAdded 41 = .ok (.getfield 12, 3) := zd_at zo_cX2_ifAdded_0 21 rfl
theorem dX2_ifAdded_44 : decode cX2_ifAdded 44 = .ok (.invokevirtual 186, 3) := zd_at zo_cX2_ifAdded_0 22 rfl
theorem dX2_ifAdded_47 : decode cX2_ifAdded 47 = .ok (.aload_n 0, 1) := zd_at zo_cX2_ifAdded_0 23 rfl
theorem dX2_ifAdded_48 : decode cX2_ifAdded 48 = .ok (.iload_n 1, 1) := zd_at zo_cX2_ifAdded_0 24 rfl
theorem dX2_ifAdded_49 : decode cX2_ifAdded 49 = .ok (.iload_n 2, 1) := zd_at zo_cX2_ifAdded_0 25 rfl
theorem dX2_ifAdded_50 : decode cX2_ifAdded 50 = .ok (.iload_n 3, 1) := zd_at zo_cX2_ifAdded_0 26 rfl
theorem dX2_ifAdded_51 : decode cX2_ifAdded 51 = .ok (.iload 4, 2) := zd_at zo_cX2_ifAdded_0 27 rfl
theorem dX2_ifAdded_53 : decode cX2_ifAdded 53 = .ok (.invokevirtual 210, 3) := zd_at zo_cX2_ifAdded_0 28 rfl
theorem dX2_ifAdded_56 : decode cX2_ifAdded 56 = .ok (.aload_n 0, 1) := zd_at zo_cX2_ifAdded_0 29 rfl
theorem dX2_ifAdded_57 : decode cX2_ifAdded 57 = .ok (.getfield 16, 3) := zd_at zo_cX2_ifAdded_0 30 rfl
theorem dX2_ifAdded_60 : decode cX2_ifAdded 60 = .ok (.invokevirtual 73, 3) := zd_at zo_cX2_ifAdded_0 31 rfl
theorem dX2_ifAdded_63 : decode cX2_ifAdded 63 = .ok (.aload_n 0, 1) := zd_at zo_cX2_ifAdded_0 32 rfl
theorem dX2_ifAdded_64 : decode cX2_ifAdded 64 = .ok (.getfield 12, 3) := zd_at zo_cX2_ifAdded_0 33 rfl
theorem dX2_ifAdded_67 : decode cX2_ifAdded 67 = .ok (.invokevirtual 73, 3) := zd_at zo_cX2_ifAdded_0 34 rfl
theorem dX2_ifAdded_70 : decode cX2_ifAdded 70 = .ok (.isub, 1) := zd_at zo_cX2_ifAdded_0 35 rfl
theorem dX2_ifAdded_71 : decode cX2_ifAdded 71 = .ok (.ireturn, 1) := zd_at zo_cX2_ifAdded_0 36 rfl
def zl_cX2_bestRemoval_0 : List (Nat × Instr × Nat) := [(0, .iconst (-1), 1), (1, .istore_n 1, 1), (2, .iconst 0, 1), (3, .istore_n 2, 1), (4, .iconst 0, 1), (5, .istore_n 3, 1), (6, .iload_n 3, 1), (7, .bipush 24, 2), (9, .if_icmp .ge 71, 3), (12, .aload_n 0, 1), (13, .getfield 12, 3), (16, .iload_n 3, 1), (17, .invokevirtual 90, 3), (20, .ifCond .eq 54, 3), (23, .aload_n 0, 1), (24, .getfield 16, 3), (27, .aload_n 0, 1), (28, .getfield 12, 3), (31, .invokevirtual 186, 3), (34, .aload_n 0, 1), (35, .getfield 16, 3), (38, .invokevirtual 140, 3), (41, .aload_n 0, 1), (42, .getfield 16, 3), (45, .iload_n 3, 1), (46, .invokevirtual 159, 3), (49, .aload_n 0, 1), (50, .getfield 16, 3), (53, .invokevirtual 73, 3), (56, .istore 4, 2), (58, .iload_n 1, 1), (59, .iconst (-1), 1), (60, .if_icmp .eq 9, 3), (63, .iload 4, 2), (65, .iload_n 2, 1), (66, .if_icmp .ge 8, 3), (69, .iload_n 3, 1), (70, .istore_n 1, 1), (71, .iload 4, 2), (73, .istore_n 2, 1), (74, .iinc 3 1, 3), (77, .goto (-71), 3), (80, .iload_n 1, 1), (81, .ireturn, 1)]
theorem zo_cX2_bestRemoval_0 : zd_ok cX2_bestRemoval zl_cX2_bestRemoval_0 = true := by decide +kernel
theorem dX2_bestRemoval_0 : decode cX2_bestRemoval 0 = .ok (.iconst (-1), 1) := zd_at zo_cX2_bestRemoval_0 0 rfl
theorem dX2_bestRemoval_1 : decode cX2_bestRemoval 1 = .ok (.istore_n 1, 1) := zd_at zo_cX2_bestRemoval_0 1 rfl
theorem dX2_bestRemoval_2 : decode cX2_bestRemoval 2 = .ok (.iconst 0, 1) := zd_at zo_cX2_bestRemoval_0 2 rfl
theorem dX2_bestRemoval_3 : decode cX2_bestRemoval 3 = .ok (.istore_n 2, 1) := zd_at zo_cX2_bestRemoval_0 3 rfl
theorem dX2_bestRemoval_4 : decode cX2_bestRemoval 4 = .ok (.iconst 0, 1) := zd_at zo_cX2_bestRemoval_0 4 rfl
theorem dX2_bestRemoval_5 : decode cX2_bestRemoval 5 = .ok (.istore_n 3, 1) := zd_at zo_cX2_bestRemoval_0 5 rfl
theorem dX2_bestRemoval_6 : decode cX2_bestRemoval 6 = .ok (.iload_n 3, 1) := zd_at zo_cX2_bestRemoval_0 6 rfl
theorem dX2_bestRemoval_7 : decode cX2_bestRemoval 7 = .ok (.bipush 24, 2) := zd_at zo_cX2_bestRemoval_0 7 rfl
theorem dX2_bestRemoval_9 : decode cX2_bestRemoval 9 = .ok (.if_icmp .ge 71, 3) := zd_at zo_cX2_bestRemoval_0 8 rfl
theorem dX2_bestRemoval_12 : decode cX2_bestRemoval 12 = .ok (.aload_n 0, 1) := zd_at zo_cX2_bestRemoval_0 9 rfl
theorem dX2_bestRemoval_13 : decode cX2_bestRemoval 13 = .ok (.getfield 12, 3) := zd_at zo_cX2_bestRemoval_0 10 rfl
theorem dX2_bestRemoval_16 : decode cX2_bestRemoval 16 = .ok (.iload_n 3, 1) := zd_at zo_cX2_bestRemoval_0 11 rfl
theorem dX2_bestRemoval_17 : decode cX2_bestRemoval 17 = .ok (.invokevirtual 90, 3) := zd_at zo_cX2_bestRemoval_0 12 rfl
theorem dX2_bestRemoval_20 : decode cX2_bestRemoval 20 = .ok (.ifCond .eq 54, 3) := zd_at zo_cX2_bestRemoval_0 13 rfl
theorem dX2_bestRemoval_23 : decode cX2_bestRemoval 23 = .ok (.aload_n 0, 1) := zd_at zo_cX2_bestRemoval_0 14 rfl
theorem dX2_bestRemoval_24 : decode cX2_bestRemoval 24 = .ok (.getfield 16, 3) := zd_at zo_cX2_bestRemoval_0 15 rfl
theorem dX2_bestRemoval_27 : decode cX2_bestRemoval 27 = .ok (.aload_n 0, 1) := zd_at zo_cX2_bestRemoval_0 16 rfl
theorem dX2_bestRemoval_28 : decode cX2_bestRemoval 28 = .ok (.getfield 12, 3) := zd_at zo_cX2_bestRemoval_0 17 rfl
theorem dX2_bestRemoval_31 : decode cX2_bestRemoval 31 = .ok (.invokevirtual 186, 3) := zd_at zo_cX2_bestRemoval_0 18 rfl
theorem dX2_bestRemoval_34 : decode cX2_bestRemoval 34 = .ok (.aload_n 0, 1) := zd_at zo_cX2_bestRemoval_0 19 rfl
theorem dX2_bestRemoval_35 : decode cX2_bestRemoval 35 = .ok (.getfield 16, 3) := zd_at zo_cX2_bestRemoval_0 20 rfl
theorem dX2_bestRemoval_38 : decode cX2_bestRemoval 38 = .ok (.invokevirtual 140, 3) := zd_at zo_cX2_bestRemoval_0 21 rfl
theorem dX2_bestRemoval_41 : decode cX2_bestRemoval 41 = .ok (.aload_n 0, 1) := zd_at zo_cX2_bestRemoval_0 22 rfl
theorem dX2_bestRemoval_42 : decode cX2_bestRemoval 42 = .ok (.getfield 16, 3) := zd_at zo_cX2_bestRemoval_0 23 rfl
theorem dX2_bestRemoval_45 : decode cX2_bestRemoval 45 = .ok (.iload_n 3, 1) := zd_at zo_cX2_bestRemoval_0 24 rfl
theorem dX2_bestRemoval_46 : decode cX2_bestRemoval 46 = .ok (.invokevirtual 159, 3) := zd_at zo_cX2_bestRemoval_0 25 rfl
theorem dX2_bestRemoval_49 : decode cX2_bestRemoval 49 = .ok (.aload_n 0, 1) := zd_at zo_cX2_bestRemoval_0 26 rfl
theorem dX2_bestRemoval_50 : decode cX2_bestRemoval 50 = .ok (.getfield 16, 3) := zd_at zo_cX2_bestRemoval_0 27 rfl
theorem dX2_bestRemoval_53 : decode cX2_bestRemoval 53 = .ok (.invokevirtual 73, 3) := zd_at zo_cX2_bestRemoval_0 28 rfl
theorem dX2_bestRemoval_56 : decode cX2_bestRemoval 56 = .ok (.istore 4, 2) := zd_at zo_cX2_bestRemoval_0 29 rfl
theorem dX2_bestRemoval_58 : decode cX2_bestRemoval 58 = .ok (.iload_n 1, 1) := zd_at zo_cX2_bestRemoval_0 30 rfl
theorem dX2_bestRemoval_59 : decode cX2_bestRemoval 59 = .ok (.iconst (-1), 1) := zd_at zo_cX2_bestRemoval_0 31 rfl
theorem dX2_bestRemoval_60 : decode cX2_bestRemoval 60 = .ok (.if_icmp .eq 9, 3) := zd_at zo_cX2_bestRemoval_0 32 rfl
theorem dX2_bestRemoval_63 : decode cX2_bestRemoval 63 = .ok (.iload 4, 2) := zd_at zo_cX2_bestRemoval_0 33 rfl
theorem dX2_bestRemoval_65 : decode cX2_bestRemoval 65 = .ok (.iload_n 2, 1) := zd_at zo_cX2_bestRemoval_0 34 rfl
theorem dX2_bestRemoval_66 : decode cX2_bestRemoval 66 = .ok (.if_icmp .ge 8, 3) := zd_at zo_cX2_bestRemoval_0 35 rfl
theorem dX2_bestRemoval_69 : decode cX2_bestRemoval 69 = .ok (.iload_n 3, 1) := zd_at zo_cX2_bestRemoval_0 36 rfl
theorem dX2_bestRemoval_70 : decode cX2_bestRemoval 70 = .ok (.istore_n 1, 1) := zd_at zo_cX2_bestRemoval_0 37 rfl
theorem dX2_bestRemoval_71 : decode cX2_bestRemoval 71 = .ok (.iload 4, 2) := zd_at zo_cX2_bestRemoval_0 38 rfl
theorem dX2_bestRemoval_73 : decode cX2_bestRemoval 73 = .ok (.istore_n 2, 1) := zd_at zo_cX2_bestRemoval_0 39 rfl
theorem dX2_bestRemoval_74 : decode cX2_bestRemoval 74 = .ok (.iinc 3 1, 3) := zd_at zo_cX2_bestRemoval_0 40 rfl
theorem dX2_bestRemoval_77 : decode cX2_bestRemoval 77 = .ok (.goto (-71), 3) := zd_at zo_cX2_bestRemoval_0 41 rfl
theorem dX2_bestRemoval_80 : decode cX2_bestRemoval 80 = .ok (.iload_n 1, 1) := zd_at zo_cX2_bestRemoval_0 42 rfl
theorem dX2_bestRemoval_81 : decode cX2_bestRemoval 81 = .ok (.ireturn, 1) := zd_at zo_cX2_bestRemoval_0 43 rfl
def zl_cX2_anew_0 : List (Nat × Instr × Nat) := [(0, .aload_n 0, 1), (1, .getfield 16, 3), (4, .invokevirtual 214, 3), (7, .iconst 0, 1), (8, .istore_n 1, 1), (9, .iload_n 1, 1), (10, .bipush 24, 2), (12, .if_icmp .ge 60, 3), (15, .aload_n 0, 1), (16, .getfield 12, 3), (19, .iload_n 1, 1), (20, .invokevirtual 90, 3), (23, .ifCond .eq 43, 3), (26, .aload_n 0, 1), (27, .aload_n 0, 1), (28, .getfield 12, 3), (31, .iload_n 1, 1), (32, .iconst 0, 1), (33, .invokevirtual 107, 3), (36, .aload_n 0, 1), (37, .getfield 12, 3), (40, .iload_n 1, 1), (41, .iconst 1, 1), (42, .invokevirtual 107, 3), (45, .aload_n 0, 1), (46, .getfield 12, 3), (49, .iload_n 1, 1), (50, .iconst 2, 1), (51, .invokevirtual 107, 3), (54, .aload_n 0, 1), (55, .getfield 12, 3), (58, .iload_n 1, 1), (59, .iconst 3, 1), (60, .invokevirtual 107, 3), (63, .invokevirtual 210, 3), (66, .iinc 1 1, 3), (69, .goto (-60), 3), (72, .aload_n 0, 1), (73, .getfield 16, 3), (76, .invokevirtual 73, 3), (79, .ireturn, 1)]
theorem zo_cX2_anew_0 : zd_ok cX2_anew zl_cX2_anew_0 = true := by decide +kernel
theorem dX2_anew_0 : decode cX2_anew 0 = .ok (.aload_n 0, 1) := zd_at zo_cX2_anew_0 0 rfl
theorem dX2_anew_1 : decode cX2_anew 1 = .ok (.getfield 16, 3) := zd_at zo_cX2_anew_0 1 rfl
theorem dX2_anew_4 : decode cX2_anew 4 = .ok (.invokevirtual 214, 3) := zd_at zo_cX2_anew_0 2 rfl
theorem dX2_anew_7 : decode cX2_anew 7 = .ok (.iconst 0, 1) := zd_at zo_cX2_anew_0 3 rfl
theorem dX2_anew_8 : decode cX2_anew 8 = .ok (.istore_n 1, 1) := zd_at zo_cX2_anew_0 4 rfl
theorem dX2_anew_9 : decode cX2_anew 9 = .ok (.iload_n 1, 1) := zd_at zo_cX2_anew_0 5 rfl
theorem dX2_anew_10 : decode cX2_anew 10 = .ok (.bipush 24, 2) := zd_at zo_cX2_anew_0 6 rfl
theorem dX2_anew_12 : decode cX2_anew 12 = .ok (.if_icmp .ge 60, 3) := zd_at zo_cX2_anew_0 7 rfl
theorem dX2_anew_15 : decode cX2_anew 15 = .ok (.aload_n 0, 1) := zd_at zo_cX2_anew_0 8 rfl
theorem dX2_anew_16 : decode cX2_anew 16 = .ok (.getfield 12, 3) := zd_at zo_cX2_anew_0 9 rfl
theorem dX2_anew_19 : decode cX2_anew 19 = .ok (.iload_n 1, 1) := zd_at zo_cX2_anew_0 10 rfl
theorem dX2_anew_20 : decode cX2_anew 20 = .ok (.invokevirtual 90, 3) := zd_at zo_cX2_anew_0 11 rfl
theorem dX2_anew_23 : decode cX2_anew 23 = .ok (.ifCond .eq 43, 3) := zd_at zo_cX2_anew_0 12 rfl
theorem dX2_anew_26 : decode cX2_anew 26 = .ok (.aload_n 0, 1) := zd_at zo_cX2_anew_0 13 rfl
theorem dX2_anew_27 : decode cX2_anew 27 = .ok (.aload_n 0, 1) := zd_at zo_cX2_anew_0 14 rfl
theorem dX2_anew_28 : decode cX2_anew 28 = .ok (.getfield 12, 3) := zd_at zo_cX2_anew_0 15 rfl
theorem dX2_anew_31 : decode cX2_anew 31 = .ok (.iload_n 1, 1) := zd_at zo_cX2_anew_0 16 rfl
theorem dX2_anew_32 : decode cX2_anew 32 = .ok (.iconst 0, 1) := zd_at zo_cX2_anew_0 17 rfl
theorem dX2_anew_33 : decode cX2_anew 33 = .ok (.invokevirtual 107, 3) := zd_at zo_cX2_anew_0 18 rfl
theorem dX2_anew_36 : decode cX2_anew 36 = .ok (.aload_n 0, 1) := zd_at zo_cX2_anew_0 19 rfl
theorem dX2_anew_37 : decode cX2_anew 37 = .ok (.getfield 12, 3) := zd_at zo_cX2_anew_0 20 rfl
theorem dX2_anew_40 : decode cX2_anew 40 = .ok (.iload_n 1, 1) := zd_at zo_cX2_anew_0 21 rfl
theorem dX2_anew_41 : decode cX2_anew 41 = .ok (.iconst 1, 1) := zd_at zo_cX2_anew_0 22 rfl
theorem dX2_anew_42 : decode cX2_anew 42 = .ok (.invokevirtual 107, 3) := zd_at zo_cX2_anew_0 23 rfl
theorem dX2_anew_45 : decode cX2_anew 45 = .ok (.aload_n 0, 1) := zd_at zo_cX2_anew_0 24 rfl
theorem dX2_anew_46 : decode cX2_anew 46 = .ok (.getfield 12, 3) := zd_at zo_cX2_anew_0 25 rfl
theorem dX2_anew_49 : decode cX2_anew 49 = .ok (.iload_n 1, 1) := zd_at zo_cX2_anew_0 26 rfl
theorem dX2_anew_50 : decode cX2_anew 50 = .ok (.iconst 2, 1) := zd_at zo_cX2_anew_0 27 rfl
theorem dX2_anew_51 : decode cX2_anew 51 = .ok (.invokevirtual 107, 3) := zd_at zo_cX2_anew_0 28 rfl
theorem dX2_anew_54 : decode cX2_anew 54 = .ok (.aload_n 0, 1) := zd_at zo_cX2_anew_0 29 rfl
theorem dX2_anew_55 : decode cX2_anew 55 = .ok (.getfield 12, 3) := zd_at zo_cX2_anew_0 30 rfl
theorem dX2_anew_58 : decode cX2_anew 58 = .ok (.iload_n 1, 1) := zd_at zo_cX2_anew_0 31 rfl
theorem dX2_anew_59 : decode cX2_anew 59 = .ok (.iconst 3, 1) := zd_at zo_cX2_anew_0 32 rfl
theorem dX2_anew_60 : decode cX2_anew 60 = .ok (.invokevirtual 107, 3) := zd_at zo_cX2_anew_0 33 rfl
theorem dX2_anew_63 : decode cX2_anew 63 = .ok (.invokevirtual 210, 3) := zd_at zo_cX2_anew_0 34 rfl
theorem dX2_anew_66 : decode cX2_anew 66 = .ok (.iinc 1 1, 3) := zd_at zo_cX2_anew_0 35 rfl
theorem dX2_anew_69 : decode cX2_anew 69 = .ok (.goto (-60), 3) := zd_at zo_cX2_anew_0 36 rfl
theorem dX2_anew_72 : decode cX2_anew 72 = .ok (.aload_n 0, 1) := zd_at zo_cX2_anew_0 37 rfl
theorem dX2_anew_73 : decode cX2_anew 73 = .ok (.getfield 16, 3) := zd_at zo_cX2_anew_0 38 rfl
theorem dX2_anew_76 : decode cX2_anew 76 = .ok (.invokevirtual 73, 3) := zd_at zo_cX2_anew_0 39 rfl
theorem dX2_anew_79 : decode cX2_anew 79 = .ok (.ireturn, 1) := zd_at zo_cX2_anew_0 40 rfl
def zl_cX2_runScript_0 : List (Nat × Instr × Nat) := [(0, .iload_n 1, 1), (1, .iconst 1, 1), (2, .if_icmp .lt 8, 3), (5, .iload_n 1, 1), (6, .iconst 2, 1), (7, .if_icmp .le 13, 3), (10, .new 37, 3), (13, .dup, 1), (14, .ldc 217, 2), (16, .invokespecial 41, 3), (19, .athrow, 1), (20, .lload_n 2, 1), (21, .lconst 0, 1), (22, .lcmp, 1), (23, .ifCond .lt 22, 3), (26, .lload_n 2, 1), (27, .iload_n 1, 1), (28, .iconst 1, 1), (29, .if_icmp .ne 9, 3), (32, .ldc2_w 219, 3), (35, .goto 6, 3), (38, .ldc2_w 221, 3), (41, .lcmp, 1), (42, .ifCond .lt 13, 3), (45, .new 37, 3), (48, .dup, 1), (49, .ldc 223, 2), (51, .invokespecial 41, 3), (54, .athrow, 1), (55, .aload_n 0, 1), (56, .getfield 16, 3), (59, .aload_n 0, 1), (60, .getfield 12, 3), (63, .invokevirtual 186, 3), (66, .iconst 0, 1), (67, .istore 4, 2), (69, .iload 4, 2), (71, .iload_n 1, 1), (72, .if_icmp .ge 45, 3), (75, .iload 4, 2), (77, .iload_n 1, 1), (78, .iconst 1, 1), (79, .isub, 1), (80, .if_icmp .ne 11, 3), (83, .lload_n 2, 1), (84, .ldc2_w 219, 3), (87, .lrem, 1), (88, .goto 8, 3), (91, .lload_n 2, 1), (92, .ldc2_w 219, 3), (95, .ldiv, 1), (96, .lstore 5, 2), (98, .aload_n 0, 1), (99, .lload 5, 2), (101, .l2i, 1), (102, .invokevirtual 225, 3), (105, .ifCond .ne 6, 3), (108, .iload 4, 2), (110, .ireturn, 1), (111, .iinc 4 1, 3), (114, .goto (-45), 3), (117, .iconst (-1), 1), (118, .ireturn, 1)]
theorem zo_cX2_runScript_0 : zd_ok cX2_runScript zl_cX2_runScript_0 = true := by decide +kernel
theorem dX2_runScript_0 : decode cX2_runScript 0 = .ok (.iload_n 1, 1) := zd_at zo_cX2_runScript_0 0 rfl
theorem dX2_runScript_1 : decode cX2_runScript 1 = .ok (.iconst 1, 1) := zd_at zo_cX2_runScript_0 1 rfl
theorem dX2_runScript_2 : decode cX2_runScript 2 = .ok (.if_icmp .lt 8, 3) := zd_at zo_cX2_runScript_0 2 rfl
theorem dX2_runScript_5 : decode cX2_runScript 5 = .ok (.iload_n 1, 1) := zd_at zo_cX2_runScript_0 3 rfl
theorem dX2_runScript_6 : decode cX2_runScript 6 = .ok (.iconst 2, 1) := zd_at zo_cX2_runScript_0 4 rfl
theorem dX2_runScript_7 : decode cX2_runScript 7 = .ok (.if_icmp .le 13, 3) := zd_at zo_cX2_runScript_0 5 rfl
theorem dX2_runScript_10 : decode cX2_runScript 10 = .ok (.new 37, 3) := zd_at zo_cX2_runScript_0 6 rfl
theorem dX2_runScript_13 : decode cX2_runScript 13 = .ok (.dup, 1) := zd_at zo_cX2_runScript_0 7 rfl
theorem dX2_runScript_14 : decode cX2_runScript 14 = .ok (.ldc 217, 2) := zd_at zo_cX2_runScript_0 8 rfl
theorem dX2_runScript_16 : decode cX2_runScript 16 = .ok (.invokespecial 41, 3) := zd_at zo_cX2_runScript_0 9 rfl
theorem dX2_runScript_19 : decode cX2_runScript 19 = .ok (.athrow, 1) := zd_at zo_cX2_runScript_0 10 rfl
theorem dX2_runScript_20 : decode cX2_runScript 20 = .ok (.lload_n 2, 1) := zd_at zo_cX2_runScript_0 11 rfl
theorem dX2_runScript_21 : decode cX2_runScript 21 = .ok (.lconst 0, 1) := zd_at zo_cX2_runScript_0 12 rfl
theorem dX2_runScript_22 : decode cX2_runScript 22 = .ok (.lcmp, 1) := zd_at zo_cX2_runScript_0 13 rfl
theorem dX2_runScript_23 : decode cX2_runScript 23 = .ok (.ifCond .lt 22, 3) := zd_at zo_cX2_runScript_0 14 rfl
theorem dX2_runScript_26 : decode cX2_runScript 26 = .ok (.lload_n 2, 1) := zd_at zo_cX2_runScript_0 15 rfl
theorem dX2_runScript_27 : decode cX2_runScript 27 = .ok (.iload_n 1, 1) := zd_at zo_cX2_runScript_0 16 rfl
theorem dX2_runScript_28 : decode cX2_runScript 28 = .ok (.iconst 1, 1) := zd_at zo_cX2_runScript_0 17 rfl
theorem dX2_runScript_29 : decode cX2_runScript 29 = .ok (.if_icmp .ne 9, 3) := zd_at zo_cX2_runScript_0 18 rfl
theorem dX2_runScript_32 : decode cX2_runScript 32 = .ok (.ldc2_w 219, 3) := zd_at zo_cX2_runScript_0 19 rfl
theorem dX2_runScript_35 : decode cX2_runScript 35 = .ok (.goto 6, 3) := zd_at zo_cX2_runScript_0 20 rfl
theorem dX2_runScript_38 : decode cX2_runScript 38 = .ok (.ldc2_w 221, 3) := zd_at zo_cX2_runScript_0 21 rfl
theorem dX2_runScript_41 : decode cX2_runScript 41 = .ok (.lcmp, 1) := zd_at zo_cX2_runScript_0 22 rfl
theorem dX2_runScript_42 : decode cX2_runScript 42 = .ok (.ifCond .lt 13, 3) := zd_at zo_cX2_runScript_0 23 rfl
theorem dX2_runScript_45 : decode cX2_runScript 45 = .ok (.new 37, 3) := zd_at zo_cX2_runScript_0 24 rfl
theorem dX2_runScript_48 : decode cX2_runScript 48 = .ok (.dup, 1) := zd_at zo_cX2_runScript_0 25 rfl
theorem dX2_runScript_49 : decode cX2_runScript 49 = .ok (.ldc 223, 2) := zd_at zo_cX2_runScript_0 26 rfl
theorem dX2_runScript_51 : decode cX2_runScript 51 = .ok (.invokespecial 41, 3) := zd_at zo_cX2_runScript_0 27 rfl
theorem dX2_runScript_54 : decode cX2_runScript 54 = .ok (.athrow, 1) := zd_at zo_cX2_runScript_0 28 rfl
theorem dX2_runScript_55 : decode cX2_runScript 55 = .ok (.aload_n 0, 1) := zd_at zo_cX2_runScript_0 29 rfl
theorem dX2_runScript_56 : decode cX2_runScript 56 = .ok (.getfield 16, 3) := zd_at zo_cX2_runScript_0 30 rfl
theorem dX2_runScript_59 : decode cX2_runScript 59 = .ok (.aload_n 0, 1) := zd_at zo_cX2_runScript_0 31 rfl
theorem dX2_runScript_60 : decode cX2_runScript 60 = .ok (.getfield 12, 3) := zd_at zo_cX2_runScript_0 32 rfl
theorem dX2_runScript_63 : decode cX2_runScript 63 = .ok (.invokevirtual 186, 3) := zd_at zo_cX2_runScript_0 33 rfl
theorem dX2_runScript_66 : decode cX2_runScript 66 = .ok (.iconst 0, 1) := zd_at zo_cX2_runScript_0 34 rfl
theorem dX2_runScript_67 : decode cX2_runScript 67 = .ok (.istore 4, 2) := zd_at zo_cX2_runScript_0 35 rfl
theorem dX2_runScript_69 : decode cX2_runScript 69 = .ok (.iload 4, 2) := zd_at zo_cX2_runScript_0 36 rfl
theorem dX2_runScript_71 : decode cX2_runScript 71 = .ok (.iload_n 1, 1) := zd_at zo_cX2_runScript_0 37 rfl
theorem dX2_runScript_72 : decode cX2_runScript 72 = .ok (.if_icmp .ge 45, 3) := zd_at zo_cX2_runScript_0 38 rfl
theorem dX2_runScript_75 : decode cX2_runScript 75 = .ok (.iload 4, 2) := zd_at zo_cX2_runScript_0 39 rfl
theorem dX2_runScript_77 : decode cX2_runScript 77 = .ok (.iload_n 1, 1) := zd_at zo_cX2_runScript_0 40 rfl
theorem dX2_runScript_78 : decode cX2_runScript 78 = .ok (.iconst 1, 1) := zd_at zo_cX2_runScript_0 41 rfl
theorem dX2_runScript_79 : decode cX2_runScript 79 = .ok (.isub, 1) := zd_at zo_cX2_runScript_0 42 rfl
theorem dX2_runScript_80 : decode cX2_runScript 80 = .ok (.if_icmp .ne 11, 3) := zd_at zo_cX2_runScript_0 43 rfl
theorem dX2_runScript_83 : decode cX2_runScript 83 = .ok (.lload_n 2, 1) := zd_at zo_cX2_runScript_0 44 rfl
theorem dX2_runScript_84 : decode cX2_runScript 84 = .ok (.ldc2_w 219, 3) := zd_at zo_cX2_runScript_0 45 rfl
theorem dX2_runScript_87 : decode cX2_runScript 87 = .ok (.lrem, 1) := zd_at zo_cX2_runScript_0 46 rfl
theorem dX2_runScript_88 : decode cX2_runScript 88 = .ok (.goto 8, 3) := zd_at zo_cX2_runScript_0 47 rfl
theorem dX2_runScript_91 : decode cX2_runScript 91 = .ok (.lload_n 2, 1) := zd_at zo_cX2_runScript_0 48 rfl
theorem dX2_runScript_92 : decode cX2_runScript 92 = .ok (.ldc2_w 219, 3) := zd_at zo_cX2_runScript_0 49 rfl
theorem dX2_runScript_95 : decode cX2_runScript 95 = .ok (.ldiv, 1) := zd_at zo_cX2_runScript_0 50 rfl
theorem dX2_runScript_96 : decode cX2_runScript 96 = .ok (.lstore 5, 2) := zd_at zo_cX2_runScript_0 51 rfl
theorem dX2_runScript_98 : decode cX2_runScript 98 = .ok (.aload_n 0, 1) := zd_at zo_cX2_runScript_0 52 rfl
theorem dX2_runScript_99 : decode cX2_runScript 99 = .ok (.lload 5, 2) := zd_at zo_cX2_runScript_0 53 rfl
theorem dX2_runScript_101 : decode cX2_runScript 101 = .ok (.l2i, 1) := zd_at zo_cX2_runScript_0 54 rfl
theorem dX2_runScript_102 : decode cX2_runScript 102 = .ok (.invokevirtual 225, 3) := zd_at zo_cX2_runScript_0 55 rfl
theorem dX2_runScript_105 : decode cX2_runScript 105 = .ok (.ifCond .ne 6, 3) := zd_at zo_cX2_runScript_0 56 rfl
theorem dX2_runScript_108 : decode cX2_runScript 108 = .ok (.iload 4, 2) := zd_at zo_cX2_runScript_0 57 rfl
theorem dX2_runScript_110 : decode cX2_runScript 110 = .ok (.ireturn, 1) := zd_at zo_cX2_runScript_0 58 rfl
theorem dX2_runScript_111 : decode cX2_runScript 111 = .ok (.iinc 4 1, 3) := zd_at zo_cX2_runScript_0 59 rfl
theorem dX2_runScript_114 : decode cX2_runScript 114 = .ok (.goto (-45), 3) := zd_at zo_cX2_runScript_0 60 rfl
theorem dX2_runScript_117 : decode cX2_runScript 117 = .ok (.iconst (-1), 1) := zd_at zo_cX2_runScript_0 61 rfl
theorem dX2_runScript_118 : decode cX2_runScript 118 = .ok (.ireturn, 1) := zd_at zo_cX2_runScript_0 62 rfl
def zl_cX2_simulate_0 : List (Nat × Instr × Nat) := [(0, .iload_n 3, 1), (1, .iconst 1, 1), (2, .if_icmp .lt 9, 3), (5, .iload_n 3, 1), (6, .bipush 60, 2), (8, .if_icmp .le 13, 3), (11, .new 37, 3), (14, .dup, 1), (15, .ldc 228, 2), (17, .invokespecial 41, 3), (20, .athrow, 1), (21, .aload_n 0, 1), (22, .getfield 16, 3), (25, .aload_n 0, 1), (26, .getfield 12, 3), (29, .invokevirtual 186, 3), (32, .lload_n 1, 1), (33, .lstore 4, 2), (35, .iconst 0, 1), (36, .istore 6, 2), (38, .iload 6, 2), (40, .iload_n 3, 1), (41, .if_icmp .ge 31, 3), (44, .lload 4, 2), (46, .ldc2_w 230, 3), (49, .lmul, 1), (50, .ldc2_w 232, 3), (53, .ladd, 1), (54, .lstore 4, 2), (56, .aload_n 0, 1), (57, .lload 4, 2), (59, .bipush 33, 2), (61, .lushr, 1), (62, .l2i, 1), (63, .invokevirtual 234, 3), (66, .iinc 6 1, 3), (69, .goto (-31), 3), (72, .sipush 1000, 3), (75, .aload_n 0, 1), (76, .getfield 16, 3), (79, .invokevirtual 64, 3), (82, .imul, 1), (83, .aload_n 0, 1), (84, .getfield 16, 3), (87, .invokevirtual 61, 3), (90, .iadd, 1), (91, .ireturn, 1)]
theorem zo_cX2_simulate_0 : zd_ok cX2_simulate zl_cX2_simulate_0 = true := by decide +kernel
theorem dX2_simulate_0 : decode cX2_simulate 0 = .ok (.iload_n 3, 1) := zd_at zo_cX2_simulate_0 0 rfl
theorem dX2_simulate_1 : decode cX2_simulate 1 = .ok (.iconst 1, 1) := zd_at zo_cX2_simulate_0 1 rfl
theorem dX2_simulate_2 : decode cX2_simulate 2 = .ok (.if_icmp .lt 9, 3) := zd_at zo_cX2_simulate_0 2 rfl
theorem dX2_simulate_5 : decode cX2_simulate 5 = .ok (.iload_n 3, 1) := zd_at zo_cX2_simulate_0 3 rfl
theorem dX2_simulate_6 : decode cX2_simulate 6 = .ok (.bipush 60, 2) := zd_at zo_cX2_simulate_0 4 rfl
theorem dX2_simulate_8 : decode cX2_simulate 8 = .ok (.if_icmp .le 13, 3) := zd_at zo_cX2_simulate_0 5 rfl
theorem dX2_simulate_11 : decode cX2_simulate 11 = .ok (.new 37, 3) := zd_at zo_cX2_simulate_0 6 rfl
theorem dX2_simulate_14 : decode cX2_simulate 14 = .ok (.dup, 1) := zd_at zo_cX2_simulate_0 7 rfl
theorem dX2_simulate_15 : decode cX2_simulate 15 = .ok (.ldc 228, 2) := zd_at zo_cX2_simulate_0 8 rfl
theorem dX2_simulate_17 : decode cX2_simulate 17 = .ok (.invokespecial 41, 3) := zd_at zo_cX2_simulate_0 9 rfl
theorem dX2_simulate_20 : decode cX2_simulate 20 = .ok (.athrow, 1) := zd_at zo_cX2_simulate_0 10 rfl
theorem dX2_simulate_21 : decode cX2_simulate 21 = .ok (.aload_n 0, 1) := zd_at zo_cX2_simulate_0 11 rfl
theorem dX2_simulate_22 : decode cX2_simulate 22 = .ok (.getfield 16, 3) := zd_at zo_cX2_simulate_0 12 rfl
theorem dX2_simulate_25 : decode cX2_simulate 25 = .ok (.aload_n 0, 1) := zd_at zo_cX2_simulate_0 13 rfl
theorem dX2_simulate_26 : decode cX2_simulate 26 = .ok (.getfield 12, 3) := zd_at zo_cX2_simulate_0 14 rfl
theorem dX2_simulate_29 : decode cX2_simulate 29 = .ok (.invokevirtual 186, 3) := zd_at zo_cX2_simulate_0 15 rfl
theorem dX2_simulate_32 : decode cX2_simulate 32 = .ok (.lload_n 1, 1) := zd_at zo_cX2_simulate_0 16 rfl
theorem dX2_simulate_33 : decode cX2_simulate 33 = .ok (.lstore 4, 2) := zd_at zo_cX2_simulate_0 17 rfl
theorem dX2_simulate_35 : decode cX2_simulate 35 = .ok (.iconst 0, 1) := zd_at zo_cX2_simulate_0 18 rfl
theorem dX2_simulate_36 : decode cX2_simulate 36 = .ok (.istore 6, 2) := zd_at zo_cX2_simulate_0 19 rfl
theorem dX2_simulate_38 : decode cX2_simulate 38 = .ok (.iload 6, 2) := zd_at zo_cX2_simulate_0 20 rfl
theorem dX2_simulate_40 : decode cX2_simulate 40 = .ok (.iload_n 3, 1) := zd_at zo_cX2_simulate_0 21 rfl
theorem dX2_simulate_41 : decode cX2_simulate 41 = .ok (.if_icmp .ge 31, 3) := zd_at zo_cX2_simulate_0 22 rfl
theorem dX2_simulate_44 : decode cX2_simulate 44 = .ok (.lload 4, 2) := zd_at zo_cX2_simulate_0 23 rfl
theorem dX2_simulate_46 : decode cX2_simulate 46 = .ok (.ldc2_w 230, 3) := zd_at zo_cX2_simulate_0 24 rfl
theorem dX2_simulate_49 : decode cX2_simulate 49 = .ok (.lmul, 1) := zd_at zo_cX2_simulate_0 25 rfl
theorem dX2_simulate_50 : decode cX2_simulate 50 = .ok (.ldc2_w 232, 3) := zd_at zo_cX2_simulate_0 26 rfl
theorem dX2_simulate_53 : decode cX2_simulate 53 = .ok (.ladd, 1) := zd_at zo_cX2_simulate_0 27 rfl
theorem dX2_simulate_54 : decode cX2_simulate 54 = .ok (.lstore 4, 2) := zd_at zo_cX2_simulate_0 28 rfl
theorem dX2_simulate_56 : decode cX2_simulate 56 = .ok (.aload_n 0, 1) := zd_at zo_cX2_simulate_0 29 rfl
theorem dX2_simulate_57 : decode cX2_simulate 57 = .ok (.lload 4, 2) := zd_at zo_cX2_simulate_0 30 rfl
theorem dX2_simulate_59 : decode cX2_simulate 59 = .ok (.bipush 33, 2) := zd_at zo_cX2_simulate_0 31 rfl
theorem dX2_simulate_61 : decode cX2_simulate 61 = .ok (.lushr, 1) := zd_at zo_cX2_simulate_0 32 rfl
theorem dX2_simulate_62 : decode cX2_simulate 62 = .ok (.l2i, 1) := zd_at zo_cX2_simulate_0 33 rfl
theorem dX2_simulate_63 : decode cX2_simulate 63 = .ok (.invokevirtual 234, 3) := zd_at zo_cX2_simulate_0 34 rfl
theorem dX2_simulate_66 : decode cX2_simulate 66 = .ok (.iinc 6 1, 3) := zd_at zo_cX2_simulate_0 35 rfl
theorem dX2_simulate_69 : decode cX2_simulate 69 = .ok (.goto (-31), 3) := zd_at zo_cX2_simulate_0 36 rfl
theorem dX2_simulate_72 : decode cX2_simulate 72 = .ok (.sipush 1000, 3) := zd_at zo_cX2_simulate_0 37 rfl
theorem dX2_simulate_75 : decode cX2_simulate 75 = .ok (.aload_n 0, 1) := zd_at zo_cX2_simulate_0 38 rfl
theorem dX2_simulate_76 : decode cX2_simulate 76 = .ok (.getfield 16, 3) := zd_at zo_cX2_simulate_0 39 rfl
theorem dX2_simulate_79 : decode cX2_simulate 79 = .ok (.invokevirtual 64, 3) := zd_at zo_cX2_simulate_0 40 rfl
theorem dX2_simulate_82 : decode cX2_simulate 82 = .ok (.imul, 1) := zd_at zo_cX2_simulate_0 41 rfl
theorem dX2_simulate_83 : decode cX2_simulate 83 = .ok (.aload_n 0, 1) := zd_at zo_cX2_simulate_0 42 rfl
theorem dX2_simulate_84 : decode cX2_simulate 84 = .ok (.getfield 16, 3) := zd_at zo_cX2_simulate_0 43 rfl
theorem dX2_simulate_87 : decode cX2_simulate 87 = .ok (.invokevirtual 61, 3) := zd_at zo_cX2_simulate_0 44 rfl
theorem dX2_simulate_90 : decode cX2_simulate 90 = .ok (.iadd, 1) := zd_at zo_cX2_simulate_0 45 rfl
theorem dX2_simulate_91 : decode cX2_simulate 91 = .ok (.ireturn, 1) := zd_at zo_cX2_simulate_0 46 rfl
def zl_cX2_save_0 : List (Nat × Instr × Nat) := [(0, .iload_n 1, 1), (1, .ifCond .lt 8, 3), (4, .iload_n 1, 1), (5, .iconst 2, 1), (6, .if_icmp .lt 13, 3), (9, .new 94, 3), (12, .dup, 1), (13, .ldc 237, 2), (15, .invokespecial 98, 3), (18, .athrow, 1), (19, .aload_n 0, 1), (20, .getfield 23, 3), (23, .iload_n 1, 1), (24, .invokestatic 182, 3), (27, .astore_n 2, 1), (28, .aload_n 2, 1), (29, .ifnull 11, 3), (32, .aload_n 2, 1), (33, .aload_n 0, 1), (34, .getfield 12, 3), (37, .invokevirtual 186, 3), (40, .aload_n 0, 1), (41, .getfield 26, 3), (44, .iload_n 1, 1), (45, .iconst 1, 1), (46, .invokestatic 239, 3), (49, .aload_n 0, 1), (50, .getfield 12, 3), (53, .invokevirtual 61, 3), (56, .ireturn, 1)]
theorem zo_cX2_save_0 : zd_ok cX2_save zl_cX2_save_0 = true := by decide +kernel
theorem dX2_save_0 : decode cX2_save 0 = .ok (.iload_n 1, 1) := zd_at zo_cX2_save_0 0 rfl
theorem dX2_save_1 : decode cX2_save 1 = .ok (.ifCond .lt 8, 3) := zd_at zo_cX2_save_0 1 rfl
theorem dX2_save_4 : decode cX2_save 4 = .ok (.iload_n 1, 1) := zd_at zo_cX2_save_0 2 rfl
theorem dX2_save_5 : decode cX2_save 5 = .ok (.iconst 2, 1) := zd_at zo_cX2_save_0 3 rfl
theorem dX2_save_6 : decode cX2_save 6 = .ok (.if_icmp .lt 13, 3) := zd_at zo_cX2_save_0 4 rfl
theorem dX2_save_9 : decode cX2_save 9 = .ok (.new 94, 3) := zd_at zo_cX2_save_0 5 rfl
theorem dX2_save_12 : decode cX2_save 12 = .ok (.dup, 1) := zd_at zo_cX2_save_0 6 rfl
theorem dX2_save_13 : decode cX2_save 13 = .ok (.ldc 237, 2) := zd_at zo_cX2_save_0 7 rfl
theorem dX2_save_15 : decode cX2_save 15 = .ok (.invokespecial 98, 3) := zd_at zo_cX2_save_0 8 rfl
theorem dX2_save_18 : decode cX2_save 18 = .ok (.athrow, 1) := zd_at zo_cX2_save_0 9 rfl
theorem dX2_save_19 : decode cX2_save 19 = .ok (.aload_n 0, 1) := zd_at zo_cX2_save_0 10 rfl
theorem dX2_save_20 : decode cX2_save 20 = .ok (.getfield 23, 3) := zd_at zo_cX2_save_0 11 rfl
theorem dX2_save_23 : decode cX2_save 23 = .ok (.iload_n 1, 1) := zd_at zo_cX2_save_0 12 rfl
theorem dX2_save_24 : decode cX2_save 24 = .ok (.invokestatic 182, 3) := zd_at zo_cX2_save_0 13 rfl
theorem dX2_save_27 : decode cX2_save 27 = .ok (.astore_n 2, 1) := zd_at zo_cX2_save_0 14 rfl
theorem dX2_save_28 : decode cX2_save 28 = .ok (.aload_n 2, 1) := zd_at zo_cX2_save_0 15 rfl
theorem dX2_save_29 : decode cX2_save 29 = .ok (.ifnull 11, 3) := zd_at zo_cX2_save_0 16 rfl
theorem dX2_save_32 : decode cX2_save 32 = .ok (.aload_n 2, 1) := zd_at zo_cX2_save_0 17 rfl
theorem dX2_save_33 : decode cX2_save 33 = .ok (.aload_n 0, 1) := zd_at zo_cX2_save_0 18 rfl
theorem dX2_save_34 : decode cX2_save 34 = .ok (.getfield 12, 3) := zd_at zo_cX2_save_0 19 rfl
theorem dX2_save_37 : decode cX2_save 37 = .ok (.invokevirtual 186, 3) := zd_at zo_cX2_save_0 20 rfl
theorem dX2_save_40 : decode cX2_save 40 = .ok (.aload_n 0, 1) := zd_at zo_cX2_save_0 21 rfl
theorem dX2_save_41 : decode cX2_save 41 = .ok (.getfield 26, 3) := zd_at zo_cX2_save_0 22 rfl
theorem dX2_save_44 : decode cX2_save 44 = .ok (.iload_n 1, 1) := zd_at zo_cX2_save_0 23 rfl
theorem dX2_save_45 : decode cX2_save 45 = .ok (.iconst 1, 1) := zd_at zo_cX2_save_0 24 rfl
theorem dX2_save_46 : decode cX2_save 46 = .ok (.invokestatic 239, 3) := zd_at zo_cX2_save_0 25 rfl
theorem dX2_save_49 : decode cX2_save 49 = .ok (.aload_n 0, 1) := zd_at zo_cX2_save_0 26 rfl
theorem dX2_save_50 : decode cX2_save 50 = .ok (.getfield 12, 3) := zd_at zo_cX2_save_0 27 rfl
theorem dX2_save_53 : decode cX2_save 53 = .ok (.invokevirtual 61, 3) := zd_at zo_cX2_save_0 28 rfl
theorem dX2_save_56 : decode cX2_save 56 = .ok (.ireturn, 1) := zd_at zo_cX2_save_0 29 rfl
def zl_cX2_restore_0 : List (Nat × Instr × Nat) := [(0, .iload_n 1, 1), (1, .ifCond .lt 8, 3), (4, .iload_n 1, 1), (5, .iconst 2, 1), (6, .if_icmp .lt 13, 3), (9, .new 94, 3), (12, .dup, 1), (13, .ldc 237, 2), (15, .invokespecial 98, 3), (18, .athrow, 1), (19, .aload_n 0, 1), (20, .getfield 26, 3), (23, .iload_n 1, 1), (24, .invokestatic 243, 3), (27, .ifCond .ne 13, 3), (30, .new 48, 3), (33, .dup, 1), (34, .ldc 247, 2), (36, .invokespecial 52, 3), (39, .athrow, 1), (40, .aload_n 0, 1), (41, .getfield 12, 3), (44, .aload_n 0, 1), (45, .getfield 23, 3), (48, .iload_n 1, 1), (49, .invokestatic 182, 3), (52, .invokevirtual 186, 3), (55, .aload_n 0, 1), (56, .iconst 0, 1), (57, .putfield 174, 3), (60, .aload_n 0, 1), (61, .getfield 12, 3), (64, .invokevirtual 61, 3), (67, .ireturn, 1)]
theorem zo_cX2_restore_0 : zd_ok cX2_restore zl_cX2_restore_0 = true := by decide +kernel
theorem dX2_restore_0 : decode cX2_restore 0 = .ok (.iload_n 1, 1) := zd_at zo_cX2_restore_0 0 rfl
theorem dX2_restore_1 : decode cX2_restore 1 = .ok (.ifCond .lt 8, 3) := zd_at zo_cX2_restore_0 1 rfl
theorem dX2_restore_4 : decode cX2_restore 4 = .ok (.iload_n 1, 1) := zd_at zo_cX2_restore_0 2 rfl
theorem dX2_restore_5 : decode cX2_restore 5 = .ok (.iconst 2, 1) := zd_at zo_cX2_restore_0 3 rfl
theorem dX2_restore_6 : decode cX2_restore 6 = .ok (.if_icmp .lt 13, 3) := zd_at zo_cX2_restore_0 4 rfl
theorem dX2_restore_9 : decode cX2_restore 9 = .ok (.new 94, 3) := zd_at zo_cX2_restore_0 5 rfl
theorem dX2_restore_12 : decode cX2_restore 12 = .ok (.dup, 1) := zd_at zo_cX2_restore_0 6 rfl
theorem dX2_restore_13 : decode cX2_restore 13 = .ok (.ldc 237, 2) := zd_at zo_cX2_restore_0 7 rfl
theorem dX2_restore_15 : decode cX2_restore 15 = .ok (.invokespecial 98, 3) := zd_at zo_cX2_restore_0 8 rfl
theorem dX2_restore_18 : decode cX2_restore 18 = .ok (.athrow, 1) := zd_at zo_cX2_restore_0 9 rfl
theorem dX2_restore_19 : decode cX2_restore 19 = .ok (.aload_n 0, 1) := zd_at zo_cX2_restore_0 10 rfl
theorem dX2_restore_20 : decode cX2_restore 20 = .ok (.getfield 26, 3) := zd_at zo_cX2_restore_0 11 rfl
theorem dX2_restore_23 : decode cX2_restore 23 = .ok (.iload_n 1, 1) := zd_at zo_cX2_restore_0 12 rfl
theorem dX2_restore_24 : decode cX2_restore 24 = .ok (.invokestatic 243, 3) := zd_at zo_cX2_restore_0 13 rfl
theorem dX2_restore_27 : decode cX2_restore 27 = .ok (.ifCond .ne 13, 3) := zd_at zo_cX2_restore_0 14 rfl
theorem dX2_restore_30 : decode cX2_restore 30 = .ok (.new 48, 3) := zd_at zo_cX2_restore_0 15 rfl
theorem dX2_restore_33 : decode cX2_restore 33 = .ok (.dup, 1) := zd_at zo_cX2_restore_0 16 rfl
theorem dX2_restore_34 : decode cX2_restore 34 = .ok (.ldc 247, 2) := zd_at zo_cX2_restore_0 17 rfl
theorem dX2_restore_36 : decode cX2_restore 36 = .ok (.invokespecial 52, 3) := zd_at zo_cX2_restore_0 18 rfl
theorem dX2_restore_39 : decode cX2_restore 39 = .ok (.athrow, 1) := zd_at zo_cX2_restore_0 19 rfl
theorem dX2_restore_40 : decode cX2_restore 40 = .ok (.aload_n 0, 1) := zd_at zo_cX2_restore_0 20 rfl
theorem dX2_restore_41 : decode cX2_restore 41 = .ok (.getfield 12, 3) := zd_at zo_cX2_restore_0 21 rfl
theorem dX2_restore_44 : decode cX2_restore 44 = .ok (.aload_n 0, 1) := zd_at zo_cX2_restore_0 22 rfl
theorem dX2_restore_45 : decode cX2_restore 45 = .ok (.getfield 23, 3) := zd_at zo_cX2_restore_0 23 rfl
theorem dX2_restore_48 : decode cX2_restore 48 = .ok (.iload_n 1, 1) := zd_at zo_cX2_restore_0 24 rfl
theorem dX2_restore_49 : decode cX2_restore 49 = .ok (.invokestatic 182, 3) := zd_at zo_cX2_restore_0 25 rfl
theorem dX2_restore_52 : decode cX2_restore 52 = .ok (.invokevirtual 186, 3) := zd_at zo_cX2_restore_0 26 rfl
theorem dX2_restore_55 : decode cX2_restore 55 = .ok (.aload_n 0, 1) := zd_at zo_cX2_restore_0 27 rfl
theorem dX2_restore_56 : decode cX2_restore 56 = .ok (.iconst 0, 1) := zd_at zo_cX2_restore_0 28 rfl
theorem dX2_restore_57 : decode cX2_restore 57 = .ok (.putfield 174, 3) := zd_at zo_cX2_restore_0 29 rfl
theorem dX2_restore_60 : decode cX2_restore 60 = .ok (.aload_n 0, 1) := zd_at zo_cX2_restore_0 30 rfl
theorem dX2_restore_61 : decode cX2_restore 61 = .ok (.getfield 12, 3) := zd_at zo_cX2_restore_0 31 rfl
theorem dX2_restore_64 : decode cX2_restore 64 = .ok (.invokevirtual 61, 3) := zd_at zo_cX2_restore_0 32 rfl
theorem dX2_restore_67 : decode cX2_restore 67 = .ok (.ireturn, 1) := zd_at zo_cX2_restore_0 33 rfl
def zl_cX2_remember_0 : List (Nat × Instr × Nat) := [(0, .aload_n 0, 1), (1, .getfield 174, 3), (4, .bipush 14, 2), (6, .if_icmp .ne 26, 3), (9, .aload_n 0, 1), (10, .aload_n 0, 1), (11, .getfield 179, 3), (14, .iconst 1, 1), (15, .iadd, 1), (16, .bipush 14, 2), (18, .irem, 1), (19, .putfield 179, 3), (22, .aload_n 0, 1), (23, .dup, 1), (24, .getfield 174, 3), (27, .iconst 1, 1), (28, .isub, 1), (29, .putfield 174, 3), (32, .aload_n 0, 1), (33, .getfield 19, 3), (36, .aload_n 0, 1), (37, .getfield 179, 3), (40, .aload_n 0, 1), (41, .getfield 174, 3), (44, .iadd, 1), (45, .bipush 14, 2), (47, .irem, 1), (48, .invokestatic 182, 3), (51, .astore_n 1, 1), (52, .aload_n 1, 1), (53, .ifnull 11, 3), (56, .aload_n 1, 1), (57, .aload_n 0, 1), (58, .getfield 12, 3), (61, .invokevirtual 186, 3), (64, .aload_n 0, 1), (65, .dup, 1), (66, .getfield 174, 3), (69, .iconst 1, 1), (70, .iadd, 1), (71, .putfield 174, 3), (74, .return_, 1)]
theorem zo_cX2_remember_0 : zd_ok cX2_remember zl_cX2_remember_0 = true := by decide +kernel
theorem dX2_remember_0 : decode cX2_remember 0 = .ok (.aload_n 0, 1) := zd_at zo_cX2_remember_0 0 rfl
theorem dX2_remember_1 : decode cX2_remember 1 = .ok (.getfield 174, 3) := zd_at zo_cX2_remember_0 1 rfl
theorem dX2_remember_4 : decode cX2_remember 4 = .ok (.bipush 14, 2) := zd_at zo_cX2_remember_0 2 rfl
theorem dX2_remember_6 : decode cX2_remember 6 = .ok (.if_icmp .ne 26, 3) := zd_at zo_cX2_remember_0 3 rfl
theorem dX2_remember_9 : decode cX2_remember 9 = .ok (.aload_n 0, 1) := zd_at zo_cX2_remember_0 4 rfl
theorem dX2_remember_10 : decode cX2_remember 10 = .ok (.aload_n 0, 1) := zd_at zo_cX2_remember_0 5 rfl
theorem dX2_remember_11 : decode cX2_remember 11 = .ok (.getfield 179, 3) := zd_at zo_cX2_remember_0 6 rfl
theorem dX2_remember_14 : decode cX2_remember 14 = .ok (.iconst 1, 1) := zd_at zo_cX2_remember_0 7 rfl
theorem dX2_remember_15 : decode cX2_remember 15 = .ok (.iadd, 1) := zd_at zo_cX2_remember_0 8 rfl
theorem dX2_remember_16 : decode cX2_remember 16 = .ok (.bipush 14, 2) := zd_at zo_cX2_remember_0 9 rfl
theorem dX2_remember_18 : decode cX2_remember 18 = .ok (.irem, 1) := zd_at zo_cX2_remember_0 10 rfl
theorem dX2_remember_19 : decode cX2_remember 19 = .ok (.putfield 179, 3) := zd_at zo_cX2_remember_0 11 rfl
theorem dX2_remember_22 : decode cX2_remember 22 = .ok (.aload_n 0, 1) := zd_at zo_cX2_remember_0 12 rfl
theorem dX2_remember_23 : decode cX2_remember 23 = .ok (.dup, 1) := zd_at zo_cX2_remember_0 13 rfl
theorem dX2_remember_24 : decode cX2_remember 24 = .ok (.getfield 174, 3) := zd_at zo_cX2_remember_0 14 rfl
theorem dX2_remember_27 : decode cX2_remember 27 = .ok (.iconst 1, 1) := zd_at zo_cX2_remember_0 15 rfl
theorem dX2_remember_28 : decode cX2_remember 28 = .ok (.isub, 1) := zd_at zo_cX2_remember_0 16 rfl
theorem dX2_remember_29 : decode cX2_remember 29 = .ok (.putfield 174, 3) := zd_at zo_cX2_remember_0 17 rfl
theorem dX2_remember_32 : decode cX2_remember 32 = .ok (.aload_n 0, 1) := zd_at zo_cX2_remember_0 18 rfl
theorem dX2_remember_33 : decode cX2_remember 33 = .ok (.getfield 19, 3) := zd_at zo_cX2_remember_0 19 rfl
theorem dX2_remember_36 : decode cX2_remember 36 = .ok (.aload_n 0, 1) := zd_at zo_cX2_remember_0 20 rfl
theorem dX2_remember_37 : decode cX2_remember 37 = .ok (.getfield 179, 3) := zd_at zo_cX2_remember_0 21 rfl
theorem dX2_remember_40 : decode cX2_remember 40 = .ok (.aload_n 0, 1) := zd_at zo_cX2_remember_0 22 rfl
theorem dX2_remember_41 : decode cX2_remember 41 = .ok (.getfield 174, 3) := zd_at zo_cX2_remember_0 23 rfl
theorem dX2_remember_44 : decode cX2_remember 44 = .ok (.iadd, 1) := zd_at zo_cX2_remember_0 24 rfl
theorem dX2_remember_45 : decode cX2_remember 45 = .ok (.bipush 14, 2) := zd_at zo_cX2_remember_0 25 rfl
theorem dX2_remember_47 : decode cX2_remember 47 = .ok (.irem, 1) := zd_at zo_cX2_remember_0 26 rfl
theorem dX2_remember_48 : decode cX2_remember 48 = .ok (.invokestatic 182, 3) := zd_at zo_cX2_remember_0 27 rfl
theorem dX2_remember_51 : decode cX2_remember 51 = .ok (.astore_n 1, 1) := zd_at zo_cX2_remember_0 28 rfl
theorem dX2_remember_52 : decode cX2_remember 52 = .ok (.aload_n 1, 1) := zd_at zo_cX2_remember_0 29 rfl
theorem dX2_remember_53 : decode cX2_remember 53 = .ok (.ifnull 11, 3) := zd_at zo_cX2_remember_0 30 rfl
theorem dX2_remember_56 : decode cX2_remember 56 = .ok (.aload_n 1, 1) := zd_at zo_cX2_remember_0 31 rfl
theorem dX2_remember_57 : decode cX2_remember 57 = .ok (.aload_n 0, 1) := zd_at zo_cX2_remember_0 32 rfl
theorem dX2_remember_58 : decode cX2_remember 58 = .ok (.getfield 12, 3) := zd_at zo_cX2_remember_0 33 rfl
theorem dX2_remember_61 : decode cX2_remember 61 = .ok (.invokevirtual 186, 3) := zd_at zo_cX2_remember_0 34 rfl
theorem dX2_remember_64 : decode cX2_remember 64 = .ok (.aload_n 0, 1) := zd_at zo_cX2_remember_0 35 rfl
theorem dX2_remember_65 : decode cX2_remember 65 = .ok (.dup, 1) := zd_at zo_cX2_remember_0 36 rfl
theorem dX2_remember_66 : decode cX2_remember 66 = .ok (.getfield 174, 3) := zd_at zo_cX2_remember_0 37 rfl
theorem dX2_remember_69 : decode cX2_remember 69 = .ok (.iconst 1, 1) := zd_at zo_cX2_remember_0 38 rfl
theorem dX2_remember_70 : decode cX2_remember 70 = .ok (.iadd, 1) := zd_at zo_cX2_remember_0 39 rfl
theorem dX2_remember_71 : decode cX2_remember 71 = .ok (.putfield 174, 3) := zd_at zo_cX2_remember_0 40 rfl
theorem dX2_remember_74 : decode cX2_remember 74 = .ok (.return_, 1) := zd_at zo_cX2_remember_0 41 rfl
def zl_cX2_tryAdding_0 : List (Nat × Instr × Nat) := [(0, .aload_n 0, 1), (1, .getfield 16, 3), (4, .invokevirtual 137, 3), (7, .istore 5, 2), (9, .aload_n 0, 1), (10, .getfield 16, 3), (13, .invokevirtual 140, 3), (16, .aload_n 0, 1), (17, .getfield 16, 3), (20, .iload 5, 2), (22, .iload_n 1, 1), (23, .iload_n 2, 1), (24, .iload_n 3, 1), (25, .iload 4, 2), (27, .invokevirtual 143, 3), (30, .aload_n 0, 1), (31, .getfield 16, 3), (34, .iload 5, 2), (36, .invokevirtual 147, 3), (39, .return_, 1)]
theorem zo_cX2_tryAdding_0 : zd_ok cX2_tryAdding zl_cX2_tryAdding_0 = true := by decide +kernel
theorem dX2_tryAdding_0 : decode cX2_tryAdding 0 = .ok (.aload_n 0, 1) := zd_at zo_cX2_tryAdding_0 0 rfl
theorem dX2_tryAdding_1 : decode cX2_tryAdding 1 = .ok (.getfield 16, 3) := zd_at zo_cX2_tryAdding_0 1 rfl
theorem dX2_tryAdding_4 : decode cX2_tryAdding 4 = .ok (.invokevirtual 137, 3) := zd_at zo_cX2_tryAdding_0 2 rfl
theorem dX2_tryAdding_7 : decode cX2_tryAdding 7 = .ok (.istore 5, 2) := zd_at zo_cX2_tryAdding_0 3 rfl
theorem dX2_tryAdding_9 : decode cX2_tryAdding 9 = .ok (.aload_n 0, 1) := zd_at zo_cX2_tryAdding_0 4 rfl
theorem dX2_tryAdding_10 : decode cX2_tryAdding 10 = .ok (.getfield 16, 3) := zd_at zo_cX2_tryAdding_0 5 rfl
theorem dX2_tryAdding_13 : decode cX2_tryAdding 13 = .ok (.invokevirtual 140, 3) := zd_at zo_cX2_tryAdding_0 6 rfl
theorem dX2_tryAdding_16 : decode cX2_tryAdding 16 = .ok (.aload_n 0, 1) := zd_at zo_cX2_tryAdding_0 7 rfl
theorem dX2_tryAdding_17 : decode cX2_tryAdding 17 = .ok (.getfield 16, 3) := zd_at zo_cX2_tryAdding_0 8 rfl
theorem dX2_tryAdding_20 : decode cX2_tryAdding 20 = .ok (.iload 5, 2) := zd_at zo_cX2_tryAdding_0 9 rfl
theorem dX2_tryAdding_22 : decode cX2_tryAdding 22 = .ok (.iload_n 1, 1) := zd_at zo_cX2_tryAdding_0 10 rfl
theorem dX2_tryAdding_23 : decode cX2_tryAdding 23 = .ok (.iload_n 2, 1) := zd_at zo_cX2_tryAdding_0 11 rfl
theorem dX2_tryAdding_24 : decode cX2_tryAdding 24 = .ok (.iload_n 3, 1) := zd_at zo_cX2_tryAdding_0 12 rfl
theorem dX2_tryAdding_25 : decode cX2_tryAdding 25 = .ok (.iload 4, 2) := zd_at zo_cX2_tryAdding_0 13 rfl
theorem dX2_tryAdding_27 : decode cX2_tryAdding 27 = .ok (.invokevirtual 143, 3) := zd_at zo_cX2_tryAdding_0 14 rfl
theorem dX2_tryAdding_30 : decode cX2_tryAdding 30 = .ok (.aload_n 0, 1) := zd_at zo_cX2_tryAdding_0 15 rfl
theorem dX2_tryAdding_31 : decode cX2_tryAdding 31 = .ok (.getfield 16, 3) := zd_at zo_cX2_tryAdding_0 16 rfl
theorem dX2_tryAdding_34 : decode cX2_tryAdding 34 = .ok (.iload 5, 2) := zd_at zo_cX2_tryAdding_0 17 rfl
theorem dX2_tryAdding_36 : decode cX2_tryAdding 36 = .ok (.invokevirtual 147, 3) := zd_at zo_cX2_tryAdding_0 18 rfl
theorem dX2_tryAdding_39 : decode cX2_tryAdding 39 = .ok (.return_, 1) := zd_at zo_cX2_tryAdding_0 19 rfl
def zl_cX2_takeTurn_0 : List (Nat × Instr × Nat) := [(0, .aload_n 0, 1), (1, .getfield 16, 3), (4, .invokevirtual 61, 3), (7, .istore_n 2, 1), (8, .iload_n 2, 1), (9, .bipush 24, 2), (11, .if_icmp .eq 13, 3), (14, .iload_n 1, 1), (15, .iconst 4, 1), (16, .irem, 1), (17, .ifCond .ne 43, 3), (20, .iload_n 2, 1), (21, .ifCond .le 39, 3), (24, .iload_n 1, 1), (25, .iconst 4, 1), (26, .idiv, 1), (27, .bipush 24, 2), (29, .irem, 1), (30, .istore_n 3, 1), (31, .aload_n 0, 1), (32, .getfield 16, 3), (35, .iload_n 3, 1), (36, .invokevirtual 90, 3), (39, .ifCond .eq 18, 3), (42, .aload_n 0, 1), (43, .getfield 16, 3), (46, .invokevirtual 140, 3), (49, .aload_n 0, 1), (50, .getfield 16, 3), (53, .iload_n 3, 1), (54, .invokevirtual 159, 3), (57, .goto 46, 3), (60, .iload_n 1, 1), (61, .iconst 4, 1), (62, .idiv, 1), (63, .bipush 90, 2), (65, .irem, 1), (66, .istore_n 3, 1), (67, .iload_n 1, 1), (68, .sipush 512, 3), (71, .idiv, 1), (72, .bipush 90, 2), (74, .irem, 1), (75, .istore 4, 2), (77, .aload_n 0, 1), (78, .iload_n 3, 1), (79, .iload 4, 2), (81, .iload_n 3, 1), (82, .iload_n 1, 1), (83, .ldc 249, 2), (85, .idiv, 1), (86, .bipush 10, 2), (88, .irem, 1), (89, .iadd, 1), (90, .iload 4, 2), (92, .iload_n 1, 1), (93, .ldc 250, 2), (95, .idiv, 1), (96, .bipush 10, 2), (98, .irem, 1), (99, .iadd, 1), (100, .invokevirtual 210, 3), (103, .return_, 1)]
theorem zo_cX2_takeTurn_0 : zd_ok cX2_takeTurn zl_cX2_takeTurn_0 = true := by decide +kernel
theorem dX2_takeTurn_0 : decode cX2_takeTurn 0 = .ok (.aload_n 0, 1) := zd_at zo_cX2_takeTurn_0 0 rfl
theorem dX2_takeTurn_1 : decode cX2_takeTurn 1 = .ok (.getfield 16, 3) := zd_at zo_cX2_takeTurn_0 1 rfl
theorem dX2_takeTurn_4 : decode cX2_takeTurn 4 = .ok (.invokevirtual 61, 3) := zd_at zo_cX2_takeTurn_0 2 rfl
theorem dX2_takeTurn_7 : decode cX2_takeTurn 7 = .ok (.istore_n 2, 1) := zd_at zo_cX2_takeTurn_0 3 rfl
theorem dX2_takeTurn_8 : decode cX2_takeTurn 8 = .ok (.iload_n 2, 1) := zd_at zo_cX2_takeTurn_0 4 rfl
theorem dX2_takeTurn_9 : decode cX2_takeTurn 9 = .ok (.bipush 24, 2) := zd_at zo_cX2_takeTurn_0 5 rfl
theorem dX2_takeTurn_11 : decode cX2_takeTurn 11 = .ok (.if_icmp .eq 13, 3) := zd_at zo_cX2_takeTurn_0 6 rfl
theorem dX2_takeTurn_14 : decode cX2_takeTurn 14 = .ok (.iload_n 1, 1) := zd_at zo_cX2_takeTurn_0 7 rfl
theorem dX2_takeTurn_15 : decode cX2_takeTurn 15 = .ok (.iconst 4, 1) := zd_at zo_cX2_takeTurn_0 8 rfl
theorem dX2_takeTurn_16 : decode cX2_takeTurn 16 = .ok (.irem, 1) := zd_at zo_cX2_takeTurn_0 9 rfl
theorem dX2_takeTurn_17 : decode cX2_takeTurn 17 = .ok (.ifCond .ne 43, 3) := zd_at zo_cX2_takeTurn_0 10 rfl
theorem dX2_takeTurn_20 : decode cX2_takeTurn 20 = .ok (.iload_n 2, 1) := zd_at zo_cX2_takeTurn_0 11 rfl
theorem dX2_takeTurn_21 : decode cX2_takeTurn 21 = .ok (.ifCond .le 39, 3) := zd_at zo_cX2_takeTurn_0 12 rfl
theorem dX2_takeTurn_24 : decode cX2_takeTurn 24 = .ok (.iload_n 1, 1) := zd_at zo_cX2_takeTurn_0 13 rfl
theorem dX2_takeTurn_25 : decode cX2_takeTurn 25 = .ok (.iconst 4, 1) := zd_at zo_cX2_takeTurn_0 14 rfl
theorem dX2_takeTurn_26 : decode cX2_takeTurn 26 = .ok (.idiv, 1) := zd_at zo_cX2_takeTurn_0 15 rfl
theorem dX2_takeTurn_27 : decode cX2_takeTurn 27 = .ok (.bipush 24, 2) := zd_at zo_cX2_takeTurn_0 16 rfl
theorem dX2_takeTurn_29 : decode cX2_takeTurn 29 = .ok (.irem, 1) := zd_at zo_cX2_takeTurn_0 17 rfl
theorem dX2_takeTurn_30 : decode cX2_takeTurn 30 = .ok (.istore_n 3, 1) := zd_at zo_cX2_takeTurn_0 18 rfl
theorem dX2_takeTurn_31 : decode cX2_takeTurn 31 = .ok (.aload_n 0, 1) := zd_at zo_cX2_takeTurn_0 19 rfl
theorem dX2_takeTurn_32 : decode cX2_takeTurn 32 = .ok (.getfield 16, 3) := zd_at zo_cX2_takeTurn_0 20 rfl
theorem dX2_takeTurn_35 : decode cX2_takeTurn 35 = .ok (.iload_n 3, 1) := zd_at zo_cX2_takeTurn_0 21 rfl
theorem dX2_takeTurn_36 : decode cX2_takeTurn 36 = .ok (.invokevirtual 90, 3) := zd_at zo_cX2_takeTurn_0 22 rfl
theorem dX2_takeTurn_39 : decode cX2_takeTurn 39 = .ok (.ifCond .eq 18, 3) := zd_at zo_cX2_takeTurn_0 23 rfl
theorem dX2_takeTurn_42 : decode cX2_takeTurn 42 = .ok (.aload_n 0, 1) := zd_at zo_cX2_takeTurn_0 24 rfl
theorem dX2_takeTurn_43 : decode cX2_takeTurn 43 = .ok (.getfield 16, 3) := zd_at zo_cX2_takeTurn_0 25 rfl
theorem dX2_takeTurn_46 : decode cX2_takeTurn 46 = .ok (.invokevirtual 140, 3) := zd_at zo_cX2_takeTurn_0 26 rfl
theorem dX2_takeTurn_49 : decode cX2_takeTurn 49 = .ok (.aload_n 0, 1) := zd_at zo_cX2_takeTurn_0 27 rfl
theorem dX2_takeTurn_50 : decode cX2_takeTurn 50 = .ok (.getfield 16, 3) := zd_at zo_cX2_takeTurn_0 28 rfl
theorem dX2_takeTurn_53 : decode cX2_takeTurn 53 = .ok (.iload_n 3, 1) := zd_at zo_cX2_takeTurn_0 29 rfl
theorem dX2_takeTurn_54 : decode cX2_takeTurn 54 = .ok (.invokevirtual 159, 3) := zd_at zo_cX2_takeTurn_0 30 rfl
theorem dX2_takeTurn_57 : decode cX2_takeTurn 57 = .ok (.goto 46, 3) := zd_at zo_cX2_takeTurn_0 31 rfl
theorem dX2_takeTurn_60 : decode cX2_takeTurn 60 = .ok (.iload_n 1, 1) := zd_at zo_cX2_takeTurn_0 32 rfl
theorem dX2_takeTurn_61 : decode cX2_takeTurn 61 = .ok (.iconst 4, 1) := zd_at zo_cX2_takeTurn_0 33 rfl
theorem dX2_takeTurn_62 : decode cX2_takeTurn 62 = .ok (.idiv, 1) := zd_at zo_cX2_takeTurn_0 34 rfl
theorem dX2_takeTurn_63 : decode cX2_takeTurn 63 = .ok (.bipush 90, 2) := zd_at zo_cX2_takeTurn_0 35 rfl
theorem dX2_takeTurn_65 : decode cX2_takeTurn 65 = .ok (.irem, 1) := zd_at zo_cX2_takeTurn_0 36 rfl
theorem dX2_takeTurn_66 : decode cX2_takeTurn 66 = .ok (.istore_n 3, 1) := zd_at zo_cX2_takeTurn_0 37 rfl
theorem dX2_takeTurn_67 : decode cX2_takeTurn 67 = .ok (.iload_n 1, 1) := zd_at zo_cX2_takeTurn_0 38 rfl
theorem dX2_takeTurn_68 : decode cX2_takeTurn 68 = .ok (.sipush 512, 3) := zd_at zo_cX2_takeTurn_0 39 rfl
theorem dX2_takeTurn_71 : decode cX2_takeTurn 71 = .ok (.idiv, 1) := zd_at zo_cX2_takeTurn_0 40 rfl
theorem dX2_takeTurn_72 : decode cX2_takeTurn 72 = .ok (.bipush 90, 2) := zd_at zo_cX2_takeTurn_0 41 rfl
theorem dX2_takeTurn_74 : decode cX2_takeTurn 74 = .ok (.irem, 1) := zd_at zo_cX2_takeTurn_0 42 rfl
theorem dX2_takeTurn_75 : decode cX2_takeTurn 75 = .ok (.istore 4, 2) := zd_at zo_cX2_takeTurn_0 43 rfl
theorem dX2_takeTurn_77 : decode cX2_takeTurn 77 = .ok (.aload_n 0, 1) := zd_at zo_cX2_takeTurn_0 44 rfl
theorem dX2_takeTurn_78 : decode cX2_takeTurn 78 = .ok (.iload_n 3, 1) := zd_at zo_cX2_takeTurn_0 45 rfl
theorem dX2_takeTurn_79 : decode cX2_takeTurn 79 = .ok (.iload 4, 2) := zd_at zo_cX2_takeTurn_0 46 rfl
theorem dX2_takeTurn_81 : decode cX2_takeTurn 81 = .ok (.iload_n 3, 1) := zd_at zo_cX2_takeTurn_0 47 rfl
theorem dX2_takeTurn_82 : decode cX2_takeTurn 82 = .ok (.iload_n 1, 1) := zd_at zo_cX2_takeTurn_0 48 rfl
theorem dX2_takeTurn_83 : decode cX2_takeTurn 83 = .ok (.ldc 249, 2) := zd_at zo_cX2_takeTurn_0 49 rfl
theorem dX2_takeTurn_85 : decode cX2_takeTurn 85 = .ok (.idiv, 1) := zd_at zo_cX2_takeTurn_0 50 rfl
theorem dX2_takeTurn_86 : decode cX2_takeTurn 86 = .ok (.bipush 10, 2) := zd_at zo_cX2_takeTurn_0 51 rfl
theorem dX2_takeTurn_88 : decode cX2_takeTurn 88 = .ok (.irem, 1) := zd_at zo_cX2_takeTurn_0 52 rfl
theorem dX2_takeTurn_89 : decode cX2_takeTurn 89 = .ok (.iadd, 1) := zd_at zo_cX2_takeTurn_0 53 rfl
theorem dX2_takeTurn_90 : decode cX2_takeTurn 90 = .ok (.iload 4, 2) := zd_at zo_cX2_takeTurn_0 54 rfl
theorem dX2_takeTurn_92 : decode cX2_takeTurn 92 = .ok (.iload_n 1, 1) := zd_at zo_cX2_takeTurn_0 55 rfl
theorem dX2_takeTurn_93 : decode cX2_takeTurn 93 = .ok (.ldc 250, 2) := zd_at zo_cX2_takeTurn_0 56 rfl
theorem dX2_takeTurn_95 : decode cX2_takeTurn 95 = .ok (.idiv, 1) := zd_at zo_cX2_takeTurn_0 57 rfl
theorem dX2_takeTurn_96 : decode cX2_takeTurn 96 = .ok (.bipush 10, 2) := zd_at zo_cX2_takeTurn_0 58 rfl
theorem dX2_takeTurn_98 : decode cX2_takeTurn 98 = .ok (.irem, 1) := zd_at zo_cX2_takeTurn_0 59 rfl
theorem dX2_takeTurn_99 : decode cX2_takeTurn 99 = .ok (.iadd, 1) := zd_at zo_cX2_takeTurn_0 60 rfl
theorem dX2_takeTurn_100 : decode cX2_takeTurn 100 = .ok (.invokevirtual 210, 3) := zd_at zo_cX2_takeTurn_0 61 rfl
theorem dX2_takeTurn_103 : decode cX2_takeTurn 103 = .ok (.return_, 1) := zd_at zo_cX2_takeTurn_0 62 rfl
def zl_cX2_succeeds_0 : List (Nat × Instr × Nat) := [(0, .iload_n 1, 1), (1, .ldc 251, 2), (3, .idiv, 1), (4, .bipush 100, 2), (6, .irem, 1), (7, .istore_n 2, 1), (8, .iload_n 1, 1), (9, .sipush 10000, 3), (12, .idiv, 1), (13, .bipush 100, 2), (15, .irem, 1), (16, .istore_n 3, 1), (17, .iload_n 1, 1), (18, .bipush 100, 2), (20, .idiv, 1), (21, .bipush 100, 2), (23, .irem, 1), (24, .istore 4, 2), (26, .iload_n 1, 1), (27, .bipush 100, 2), (29, .irem, 1), (30, .istore 5, 2), (32, .iload_n 1, 1), (33, .ldc 252, 2), (35, .idiv, 1), (36, .istore 6, 2), (38, .iload 6, 2), (40, .tableswitch 222 1 4 #[32, 78, 122, 122], 32), (72, .iload_n 2, 1), (73, .iload_n 3, 1), (74, .iload_n 2, 1), (75, .iload 4, 2), (77, .iadd, 1), (78, .iload_n 3, 1), (79, .iload 5, 2), (81, .iadd, 1), (82, .invokestatic 126, 3), (85, .ifCond .eq 15, 3), (88, .aload_n 0, 1), (89, .getfield 16, 3), (92, .invokevirtual 61, 3), (95, .bipush 24, 2), (97, .if_icmp .lt 5, 3), (100, .iconst 0, 1), (101, .ireturn, 1), (102, .aload_n 0, 1), (103, .iload_n 2, 1), (104, .iload_n 3, 1), (105, .iload_n 2, 1), (106, .iload 4, 2), (108, .iadd, 1), (109, .iload_n 3, 1), (110, .iload 5, 2), (112, .iadd, 1), (113, .invokevirtual 210, 3), (116, .iconst 1, 1), (117, .ireturn, 1), (118, .iload_n 3, 1), (119, .ifCond .ne 24, 3), (122, .iload 4, 2), (124, .ifCond .ne 19, 3), (127, .iload 5, 2), (129, .ifCond .ne 14, 3), (132, .aload_n 0, 1), (133, .getfield 16, 3), (136, .iload_n 2, 1), (137, .invokevirtual 90, 3), (140, .ifCond .ne 5, 3), (143, .iconst 0, 1), (144, .ireturn, 1), (145, .aload_n 0, 1), (146, .getfield 16, 3), (149, .invokevirtual 140, 3), (152, .aload_n 0, 1), (153, .getfield 16, 3), (156, .iload_n 2, 1), (157, .invokevirtual 159, 3), (160, .iconst 1, 1), (161, .ireturn, 1), (162, .iload 6, 2), (164, .iconst 3, 1), (165, .if_icmp .ne 7, 3), (168, .iload_n 3, 1), (169, .goto 5, 3), (172, .iload_n 3, 1), (173, .ineg, 1), (174, .istore 7, 2), (176, .iload 6, 2), (178, .iconst 3, 1), (179, .if_icmp .ne 8, 3), (182, .iload 4, 2), (184, .goto 6, 3), (187, .iload 4, 2), (189, .ineg, 1), (190, .istore 8, 2), (192, .iload 5, 2), (194, .ifCond .ne 29, 3), (197, .aload_n 0, 1), (198, .getfield 16, 3), (201, .iload_n 2, 1), (202, .invokevirtual 90, 3), (205, .ifCond .eq 18, 3), (208, .aload_n 0, 1), (209, .getfield 16, 3), (212, .iload_n 2, 1), (213, .iload 7, 2), (215, .iload 8, 2), (217, .invokevirtual 164, 3), (220, .ifCond .ne 5, 3), (223, .iconst 0, 1), (224, .ireturn, 1), (225, .aload_n 0, 1), (226, .getfield 16, 3), (229, .invokevirtual 140, 3), (232, .aload_n 0, 1), (233, .getfield 16, 3), (236, .iload_n 2, 1), (237, .invokevirtual 159, 3), (240, .aload_n 0, 1), (241, .getfield 16, 3)]
theorem zo_cX2_succeeds_0 : zd_ok cX2_succeeds zl_cX2_succeeds_0 = true := by decide +kernel
theorem dX2_succeeds_0 : decode cX2_succeeds 0 = .ok (.iload_n 1, 1) := zd_at zo_cX2_succeeds_0 0 rfl
theorem dX2_succeeds_1 : decode cX2_succeeds 1 = .ok (.ldc 251, 2) := zd_at zo_cX2_succeeds_0 1 rfl
theorem dX2_succeeds_3 : decode cX2_succeeds 3 = .ok (.idiv, 1) := zd_at zo_cX2_succeeds_0 2 rfl
theorem dX2_succeeds_4 : decode cX2_succeeds 4 = .ok (.bipush 100, 2) := zd_at zo_cX2_succeeds_0 3 rfl
theorem dX2_succeeds_6 : decode cX2_succeeds 6 = .ok (.irem, 1) := zd_at zo_cX2_succeeds_0 4 rfl
theorem dX2_succeeds_7 : decode cX2_succeeds 7 = .ok (.istore_n 2, 1) := zd_at zo_cX2_succeeds_0 5 rfl
theorem dX2_succeeds_8 : decode cX2_succeeds 8 = .ok (.iload_n 1, 1) := zd_at zo_cX2_succeeds_0 6 rfl
theorem dX2_succeeds_9 : decode cX2_succeeds 9 = .ok (.sipush 10000, 3) := zd_at zo_cX2_succeeds_0 7 rfl
theorem dX2_succeeds_12 : decode cX2_succeeds 12 = .ok (.idiv, 1) := zd_at zo_cX2_succeeds_0 8 rfl
theorem dX2_succeeds_13 : decode cX2_succeeds 13 = .ok (.bipush 100, 2) := zd_at zo_cX2_succeeds_0 9 rfl
theorem dX2_succeeds_15 : decode cX2_succeeds 15 = .ok (.irem, 1) := zd_at zo_cX2_succeeds_0 10 rfl
theorem dX2_succeeds_16 : decode cX2_succeeds 16 = .ok (.istore_n 3, 1) := zd_at zo_cX2_succeeds_0 11 rfl
theorem dX2_succeeds_17 : decode cX2_succeeds 17 = .ok (.iload_n 1, 1) := zd_at zo_cX2_succeeds_0 12 rfl
theorem dX2_succeeds_18 : decode cX2_succeeds 18 = .ok (.bipush 100, 2) := zd_at zo_cX2_succeeds_0 13 rfl
theorem dX2_succeeds_20 : decode cX2_succeeds 20 = .ok (.idiv, 1) := zd_at zo_cX2_succeeds_0 14 rfl
theorem dX2_succeeds_21 : decode cX2_succeeds 21 = .ok (.bipush 100, 2) := zd_at zo_cX2_succeeds_0 15 rfl
theorem dX2_succeeds_23 : decode cX2_succeeds 23 = .ok (.irem, 1) := zd_at zo_cX2_succeeds_0 16 rfl
theorem dX2_succeeds_24 : decode cX2_succeeds 24 = .ok (.istore 4, 2) := zd_at zo_cX2_succeeds_0 17 rfl
theorem dX2_succeeds_26 : decode cX2_succeeds 26 = .ok (.iload_n 1, 1) := zd_at zo_cX2_succeeds_0 18 rfl
theorem dX2_succeeds_27 : decode cX2_succeeds 27 = .ok (.bipush 100, 2) := zd_at zo_cX2_succeeds_0 19 rfl
theorem dX2_succeeds_29 : decode cX2_succeeds 29 = .ok (.irem, 1) := zd_at zo_cX2_succeeds_0 20 rfl
theorem dX2_succeeds_30 : decode cX2_succeeds 30 = .ok (.istore 5, 2) := zd_at zo_cX2_succeeds_0 21 rfl
theorem dX2_succeeds_32 : decode cX2_succeeds 32 = .ok (.iload_n 1, 1) := zd_at zo_cX2_succeeds_0 22 rfl
theorem dX2_succeeds_33 : decode cX2_succeeds 33 = .ok (.ldc 252, 2) := zd_at zo_cX2_succeeds_0 23 rfl
theorem dX2_succeeds_35 : decode cX2_succeeds 35 = .ok (.idiv, 1) := zd_at zo_cX2_succeeds_0 24 rfl
theorem dX2_succeeds_36 : decode cX2_succeeds 36 = .ok (.istore 6, 2) := zd_at zo_cX2_succeeds_0 25 rfl
theorem dX2_succeeds_38 : decode cX2_succeeds 38 = .ok (.iload 6, 2) := zd_at zo_cX2_succeeds_0 26 rfl
theorem dX2_succeeds_40 : decode cX2_succeeds 40 = .ok (.tableswitch 222 1 4 #[32, 78, 122, 122], 32) := zd_at zo_cX2_succeeds_0 27 rfl
theorem dX2_succeeds_72 : decode cX2_succeeds 72 = .ok (.iload_n 2, 1) := zd_at zo_cX2_succeeds_0 28 rfl
theorem dX2_succeeds_73 : decode cX2_succeeds 73 = .ok (.iload_n 3, 1) := zd_at zo_cX2_succeeds_0 29 rfl
theorem dX2_succeeds_74 : decode cX2_succeeds 74 = .ok (.iload_n 2, 1) := zd_at zo_cX2_succeeds_0 30 rfl
theorem dX2_succeeds_75 : decode cX2_succeeds 75 = .ok (.iload 4, 2) := zd_at zo_cX2_succeeds_0 31 rfl
theorem dX2_succeeds_77 : decode cX2_succeeds 77 = .ok (.iadd, 1) := zd_at zo_cX2_succeeds_0 32 rfl
theorem dX2_succeeds_78 : decode cX2_succeeds 78 = .ok (.iload_n 3, 1) := zd_at zo_cX2_succeeds_0 33 rfl
theorem dX2_succeeds_79 : decode cX2_succeeds 79 = .ok (.iload 5, 2) := zd_at zo_cX2_succeeds_0 34 rfl
theorem dX2_succeeds_81 : decode cX2_succeeds 81 = .ok (.iadd, 1) := zd_at zo_cX2_succeeds_0 35 rfl
theorem dX2_succeeds_82 : decode cX2_succeeds 82 = .ok (.invokestatic 126, 3) := zd_at zo_cX2_succeeds_0 36 rfl
theorem dX2_succeeds_85 : decode cX2_succeeds 85 = .ok (.ifCond .eq 15, 3) := zd_at zo_cX2_succeeds_0 37 rfl
theorem dX2_succeeds_88 : decode cX2_succeeds 88 = .ok (.aload_n 0, 1) := zd_at zo_cX2_succeeds_0 38 rfl
theorem dX2_succeeds_89 : decode cX2_succeeds 89 = .ok (.getfield 16, 3) := zd_at zo_cX2_succeeds_0 39 rfl
theorem dX2_succeeds_92 : decode cX2_succeeds 92 = .ok (.invokevirtual 61, 3) := zd_at zo_cX2_succeeds_0 40 rfl
theorem dX2_succeeds_95 : decode cX2_succeeds 95 = .ok (.bipush 24, 2) := zd_at zo_cX2_succeeds_0 41 rfl
theorem dX2_succeeds_97 : decode cX2_succeeds 97 = .ok (.if_icmp .lt 5, 3) := zd_at zo_cX2_succeeds_0 42 rfl
theorem dX2_succeeds_100 : decode cX2_succeeds 100 = .ok (.iconst 0, 1) := zd_at zo_cX2_succeeds_0 43 rfl
theorem dX2_succeeds_101 : decode cX2_succeeds 101 = .ok (.ireturn, 1) := zd_at zo_cX2_succeeds_0 44 rfl
theorem dX2_succeeds_102 : decode cX2_succeeds 102 = .ok (.aload_n 0, 1) := zd_at zo_cX2_succeeds_0 45 rfl
theorem dX2_succeeds_103 : decode cX2_succeeds 103 = .ok (.iload_n 2, 1) := zd_at zo_cX2_succeeds_0 46 rfl
theorem dX2_succeeds_104 : decode cX2_succeeds 104 = .ok (.iload_n 3, 1) := zd_at zo_cX2_succeeds_0 47 rfl
theorem dX2_succeeds_105 : decode cX2_succeeds 105 = .ok (.iload_n 2, 1) := zd_at zo_cX2_succeeds_0 48 rfl
theorem dX2_succeeds_106 : decode cX2_succeeds 106 = .ok (.iload 4, 2) := zd_at zo_cX2_succeeds_0 49 rfl
theorem dX2_succeeds_108 : decode cX2_succeeds 108 = .ok (.iadd, 1) := zd_at zo_cX2_succeeds_0 50 rfl
theorem dX2_succeeds_109 : decode cX2_succeeds 109 = .ok (.iload_n 3, 1) := zd_at zo_cX2_succeeds_0 51 rfl
theorem dX2_succeeds_110 : decode cX2_succeeds 110 = .ok (.iload 5, 2) := zd_at zo_cX2_succeeds_0 52 rfl
theorem dX2_succeeds_112 : decode cX2_succeeds 112 = .ok (.iadd, 1) := zd_at zo_cX2_succeeds_0 53 rfl
theorem dX2_succeeds_113 : decode cX2_succeeds 113 = .ok (.invokevirtual 210, 3) := zd_at zo_cX2_succeeds_0 54 rfl
theorem dX2_succeeds_116 : decode cX2_succeeds 116 = .ok (.iconst 1, 1) := zd_at zo_cX2_succeeds_0 55 rfl
theorem dX2_succeeds_117 : decode cX2_succeeds 117 = .ok (.ireturn, 1) := zd_at zo_cX2_succeeds_0 56 rfl
theorem dX2_succeeds_118 : decode cX2_succeeds 118 = .ok (.iload_n 3, 1) := zd_at zo_cX2_succeeds_0 57 rfl
theorem dX2_succeeds_119 : decode cX2_succeeds 119 = .ok (.ifCond .ne 24, 3) := zd_at zo_cX2_succeeds_0 58 rfl
theorem dX2_succeeds_122 : decode cX2_succeeds 122 = .ok (.iload 4, 2) := zd_at zo_cX2_succeeds_0 59 rfl
theorem dX2_succeeds_124 : decode cX2_succeeds 124 = .ok (.ifCond .ne 19, 3) := zd_at zo_cX2_succeeds_0 60 rfl
theorem dX2_succeeds_127 : decode cX2_succeeds 127 = .ok (.iload 5, 2) := zd_at zo_cX2_succeeds_0 61 rfl
theorem dX2_succeeds_129 : decode cX2_succeeds 129 = .ok (.ifCond .ne 14, 3) := zd_at zo_cX2_succeeds_0 62 rfl
theorem dX2_succeeds_132 : decode cX2_succeeds 132 = .ok (.aload_n 0, 1) := zd_at zo_cX2_succeeds_0 63 rfl
theorem dX2_succeeds_133 : decode cX2_succeeds 133 = .ok (.getfield 16, 3) := zd_at zo_cX2_succeeds_0 64 rfl
theorem dX2_succeeds_136 : decode cX2_succeeds 136 = .ok (.iload_n 2, 1) := zd_at zo_cX2_succeeds_0 65 rfl
theorem dX2_succeeds_137 : decode cX2_succeeds 137 = .ok (.invokevirtual 90, 3) := zd_at zo_cX2_succeeds_0 66 rfl
theorem dX2_succeeds_140 : decode cX2_succeeds 140 = .ok (.ifCond .ne 5, 3) := zd_at zo_cX2_succeeds_0 67 rfl
theorem dX2_succeeds_143 : decode cX2_succeeds 143 = .ok (.iconst 0, 1) := zd_at zo_cX2_succeeds_0 68 rfl
theorem dX2_succeeds_144 : decode cX2_succeeds 144 = .ok (.ireturn, 1) := zd_at zo_cX2_succeeds_0 69 rfl
theorem dX2_succeeds_145 : decode cX2_succeeds 145 = .ok (.aload_n 0, 1) := zd_at zo_cX2_succeeds_0 70 rfl
theorem dX2_succeeds_146 : decode cX2_succeeds 146 = .ok (.getfield 16, 3) := zd_at zo_cX2_succeeds_0 71 rfl
theorem dX2_succeeds_149 : decode cX2_succeeds 149 = .ok (.invokevirtual 140, 3) := zd_at zo_cX2_succeeds_0 72 rfl
theorem dX2_succeeds_152 : decode cX2_succeeds 152 = .ok (.aload_n 0, 1) := zd_at zo_cX2_succeeds_0 73 rfl
theorem dX2_succeeds_153 : decode cX2_succeeds 153 = .ok (.getfield 16, 3) := zd_at zo_cX2_succeeds_0 74 rfl
theorem dX2_succeeds_156 : decode cX2_succeeds 156 = .ok (.iload_n 2, 1) := zd_at zo_cX2_succeeds_0 75 rfl
theorem dX2_succeeds_157 : decode cX2_succeeds 157 = .ok (.invokevirtual 159, 3) := zd_at zo_cX2_succeeds_0 76 rfl
theorem dX2_succeeds_160 : decode cX2_succeeds 160 = .ok (.iconst 1, 1) := zd_at zo_cX2_succeeds_0 77 rfl
theorem dX2_succeeds_161 : decode cX2_succeeds 161 = .ok (.ireturn, 1) := zd_at zo_cX2_succeeds_0 78 rfl
theorem dX2_succeeds_162 : decode cX2_succeeds 162 = .ok (.iload 6, 2) := zd_at zo_cX2_succeeds_0 79 rfl
theorem dX2_succeeds_164 : decode cX2_succeeds 164 = .ok (.iconst 3, 1) := zd_at zo_cX2_succeeds_0 80 rfl
theorem dX2_succeeds_165 : decode cX2_succeeds 165 = .ok (.if_icmp .ne 7, 3) := zd_at zo_cX2_succeeds_0 81 rfl
theorem dX2_succeeds_168 : decode cX2_succeeds 168 = .ok (.iload_n 3, 1) := zd_at zo_cX2_succeeds_0 82 rfl
theorem dX2_succeeds_169 : decode cX2_succeeds 169 = .ok (.goto 5, 3) := zd_at zo_cX2_succeeds_0 83 rfl
theorem dX2_succeeds_172 : decode cX2_succeeds 172 = .ok (.iload_n 3, 1) := zd_at zo_cX2_succeeds_0 84 rfl
theorem dX2_succeeds_173 : decode cX2_succeeds 173 = .ok (.ineg, 1) := zd_at zo_cX2_succeeds_0 85 rfl
theorem dX2_succeeds_174 : decode cX2_succeeds 174 = .ok (.istore 7, 2) := zd_at zo_cX2_succeeds_0 86 rfl
theorem dX2_succeeds_176 : decode cX2_succeeds 176 = .ok (.iload 6, 2) := zd_at zo_cX2_succeeds_0 87 rfl
theorem dX2_succeeds_178 : decode cX2_succeeds 178 = .ok (.iconst 3, 1) := zd_at zo_cX2_succeeds_0 88 rfl
theorem dX2_succeeds_179 : decode cX2_succeeds 179 = .ok (.if_icmp .ne 8, 3) := zd_at zo_cX2_succeeds_0 89 rfl
theorem dX2_succeeds_182 : decode cX2_succeeds 182 = .ok (.iload 4, 2) := zd_at zo_cX2_succeeds_0 90 rfl
theorem dX2_succeeds_184 : decode cX2_succeeds 184 = .ok (.goto 6, 3) := zd_at zo_cX2_succeeds_0 91 rfl
theorem dX2_succeeds_187 : decode cX2_succeeds 187 = .ok (.iload 4, 2) := zd_at zo_cX2_succeeds_0 92 rfl
theorem dX2_succeeds_189 : decode cX2_succeeds 189 = .ok (.ineg, 1) := zd_at zo_cX2_succeeds_0 93 rfl
theorem dX2_succeeds_190 : decode cX2_succeeds 190 = .ok (.istore 8, 2) := zd_at zo_cX2_succeeds_0 94 rfl
theorem dX2_succeeds_192 : decode cX2_succeeds 192 = .ok (.iload 5, 2) := zd_at zo_cX2_succeeds_0 95 rfl
theorem dX2_succeeds_194 : decode cX2_succeeds 194 = .ok (.ifCond .ne 29, 3) := zd_at zo_cX2_succeeds_0 96 rfl
theorem dX2_succeeds_197 : decode cX2_succeeds 197 = .ok (.aload_n 0, 1) := zd_at zo_cX2_succeeds_0 97 rfl
theorem dX2_succeeds_198 : decode cX2_succeeds 198 = .ok (.getfield 16, 3) := zd_at zo_cX2_succeeds_0 98 rfl
theorem dX2_succeeds_201 : decode cX2_succeeds 201 = .ok (.iload_n 2, 1) := zd_at zo_cX2_succeeds_0 99 rfl
theorem dX2_succeeds_202 : decode cX2_succeeds 202 = .ok (.invokevirtual 90, 3) := zd_at zo_cX2_succeeds_0 100 rfl
theorem dX2_succeeds_205 : decode cX2_succeeds 205 = .ok (.ifCond .eq 18, 3) := zd_at zo_cX2_succeeds_0 101 rfl
theorem dX2_succeeds_208 : decode cX2_succeeds 208 = .ok (.aload_n 0, 1) := zd_at zo_cX2_succeeds_0 102 rfl
theorem dX2_succeeds_209 : decode cX2_succeeds 209 = .ok (.getfield 16, 3) := zd_at zo_cX2_succeeds_0 103 rfl
theorem dX2_succeeds_212 : decode cX2_succeeds 212 = .ok (.iload_n 2, 1) := zd_at zo_cX2_succeeds_0 104 rfl
theorem dX2_succeeds_213 : decode cX2_succeeds 213 = .ok (.iload 7, 2) := zd_at zo_cX2_succeeds_0 105 rfl
theorem dX2_succeeds_215 : decode cX2_succeeds 215 = .ok (.iload 8, 2) := zd_at zo_cX2_succeeds_0 106 rfl
theorem dX2_succeeds_217 : decode cX2_succeeds 217 = .ok (.invokevirtual 164, 3) := zd_at zo_cX2_succeeds_0 107 rfl
theorem dX2_succeeds_220 : decode cX2_succeeds 220 = .ok (.ifCond .ne 5, 3) := zd_at zo_cX2_succeeds_0 108 rfl
theorem dX2_succeeds_223 : decode cX2_succeeds 223 = .ok (.iconst 0, 1) := zd_at zo_cX2_succeeds_0 109 rfl
theorem dX2_succeeds_224 : decode cX2_succeeds 224 = .ok (.ireturn, 1) := zd_at zo_cX2_succeeds_0 110 rfl
theorem dX2_succeeds_225 : decode cX2_succeeds 225 = .ok (.aload_n 0, 1) := zd_at zo_cX2_succeeds_0 111 rfl
theorem dX2_succeeds_226 : decode cX2_succeeds 226 = .ok (.getfield 16, 3) := zd_at zo_cX2_succeeds_0 112 rfl
theorem dX2_succeeds_229 : decode cX2_succeeds 229 = .ok (.invokevirtual 140, 3) := zd_at zo_cX2_succeeds_0 113 rfl
theorem dX2_succeeds_232 : decode cX2_succeeds 232 = .ok (.aload_n 0, 1) := zd_at zo_cX2_succeeds_0 114 rfl
theorem dX2_succeeds_233 : decode cX2_succeeds 233 = .ok (.getfield 16, 3) := zd_at zo_cX2_succeeds_0 115 rfl
theorem dX2_succeeds_236 : decode cX2_succeeds 236 = .ok (.iload_n 2, 1) := zd_at zo_cX2_succeeds_0 116 rfl
theorem dX2_succeeds_237 : decode cX2_succeeds 237 = .ok (.invokevirtual 159, 3) := zd_at zo_cX2_succeeds_0 117 rfl
theorem dX2_succeeds_240 : decode cX2_succeeds 240 = .ok (.aload_n 0, 1) := zd_at zo_cX2_succeeds_0 118 rfl
theorem dX2_succeeds_241 : decode cX2_succeeds 241 = .ok (.getfield 16, 3) := zd_at zo_cX2_succeeds_0 119 rfl
def zl_cX2_succeeds_120 : List (Nat × Instr × Nat) := [(244, .iload_n 2, 1), (245, .iload 7, 2), (247, .iload 8, 2), (249, .invokevirtual 170, 3), (252, .aload_n 0, 1), (253, .getfield 16, 3), (256, .iload_n 2, 1), (257, .invokevirtual 147, 3), (260, .iconst 1, 1), (261, .ireturn, 1), (262, .aload_n 0, 1), (263, .iload 6, 2), (265, .iload_n 2, 1), (266, .iload_n 3, 1), (267, .iload 4, 2), (269, .iload 5, 2), (271, .invokevirtual 253, 3), (274, .ireturn, 1)]
theorem zo_cX2_succeeds_120 : zd_ok cX2_succeeds zl_cX2_succeeds_120 = true := by decide +kernel
theorem dX2_succeeds_244 : decode cX2_succeeds 244 = .ok (.iload_n 2, 1) := zd_at zo_cX2_succeeds_120 0 rfl
theorem dX2_succeeds_245 : decode cX2_succeeds 245 = .ok (.iload 7, 2) := zd_at zo_cX2_succeeds_120 1 rfl
theorem dX2_succeeds_247 : decode cX2_succeeds 247 = .ok (.iload 8, 2) := zd_at zo_cX2_succeeds_120 2 rfl
theorem dX2_succeeds_249 : decode cX2_succeeds 249 = .ok (.invokevirtual 170, 3) := zd_at zo_cX2_succeeds_120 3 rfl
theorem dX2_succeeds_252 : decode cX2_succeeds 252 = .ok (.aload_n 0, 1) := zd_at zo_cX2_succeeds_120 4 rfl
theorem dX2_succeeds_253 : decode cX2_succeeds 253 = .ok (.getfield 16, 3) := zd_at zo_cX2_succeeds_120 5 rfl
theorem dX2_succeeds_256 : decode cX2_succeeds 256 = .ok (.iload_n 2, 1) := zd_at zo_cX2_succeeds_120 6 rfl
theorem dX2_succeeds_257 : decode cX2_succeeds 257 = .ok (.invokevirtual 147, 3) := zd_at zo_cX2_succeeds_120 7 rfl
theorem dX2_succeeds_260 : decode cX2_succeeds 260 = .ok (.iconst 1, 1) := zd_at zo_cX2_succeeds_120 8 rfl
theorem dX2_succeeds_261 : decode cX2_succeeds 261 = .ok (.ireturn, 1) := zd_at zo_cX2_succeeds_120 9 rfl
theorem dX2_succeeds_262 : decode cX2_succeeds 262 = .ok (.aload_n 0, 1) := zd_at zo_cX2_succeeds_120 10 rfl
theorem dX2_succeeds_263 : decode cX2_succeeds 263 = .ok (.iload 6, 2) := zd_at zo_cX2_succeeds_120 11 rfl
theorem dX2_succeeds_265 : decode cX2_succeeds 265 = .ok (.iload_n 2, 1) := zd_at zo_cX2_succeeds_120 12 rfl
theorem dX2_succeeds_266 : decode cX2_succeeds 266 = .ok (.iload_n 3, 1) := zd_at zo_cX2_succeeds_120 13 rfl
theorem dX2_succeeds_267 : decode cX2_succeeds 267 = .ok (.iload 4, 2) := zd_at zo_cX2_succeeds_120 14 rfl
theorem dX2_succeeds_269 : decode cX2_succeeds 269 = .ok (.iload 5, 2) := zd_at zo_cX2_succeeds_120 15 rfl
theorem dX2_succeeds_271 : decode cX2_succeeds 271 = .ok (.invokevirtual 253, 3) := zd_at zo_cX2_succeeds_120 16 rfl
theorem dX2_succeeds_274 : decode cX2_succeeds 274 = .ok (.ireturn, 1) := zd_at zo_cX2_succeeds_120 17 rfl
def zl_cX2_holds_0 : List (Nat × Instr × Nat) := [(0, .iload_n 1, 1), (1, .tableswitch 176 5 8 #[31, 62, 101, 139], 31), (32, .iload_n 2, 1), (33, .ifCond .ne 28, 3), (36, .iload_n 3, 1), (37, .ifCond .ne 24, 3), (40, .iload 4, 2), (42, .ifCond .ne 19, 3), (45, .aload_n 0, 1), (46, .getfield 16, 3), (49, .invokevirtual 64, 3), (52, .iload 5, 2), (54, .if_icmp .gt 7, 3), (57, .iconst 1, 1), (58, .goto 4, 3), (61, .iconst 0, 1), (62, .ireturn, 1), (63, .iload_n 2, 1), (64, .ifCond .ne 36, 3), (67, .iload_n 3, 1), (68, .bipush 10, 2), (70, .if_icmp .ge 30, 3), (73, .aload_n 0, 1), (74, .getfield 16, 3), (77, .invokevirtual 73, 3), (80, .iload_n 3, 1), (81, .bipush 100, 2), (83, .imul, 1), (84, .iload 4, 2), (86, .iadd, 1), (87, .bipush 100, 2), (89, .imul, 1), (90, .iload 5, 2), (92, .iadd, 1), (93, .if_icmp .gt 7, 3), (96, .iconst 1, 1), (97, .goto 4, 3), (100, .iconst 0, 1), (101, .ireturn, 1), (102, .iload 5, 2), (104, .ifCond .ne 34, 3), (107, .aload_n 0, 1), (108, .getfield 16, 3), (111, .iload 4, 2), (113, .invokevirtual 90, 3), (116, .ifCond .eq 22, 3), (119, .aload_n 0, 1), (120, .getfield 16, 3), (123, .iload_n 2, 1), (124, .iload_n 3, 1), (125, .iconst 0, 1), (126, .invokevirtual 202, 3), (129, .iload 4, 2), (131, .if_icmp .ne 7, 3), (134, .iconst 1, 1), (135, .goto 4, 3), (138, .iconst 0, 1), (139, .ireturn, 1), (140, .iload 5, 2), (142, .ifCond .ne 33, 3), (145, .aload_n 0, 1), (146, .getfield 16, 3), (149, .iload 4, 2), (151, .invokevirtual 90, 3), (154, .ifCond .eq 21, 3), (157, .aload_n 0, 1), (158, .getfield 16, 3), (161, .iload 4, 2), (163, .iload_n 2, 1), (164, .iload_n 3, 1), (165, .invokevirtual 257, 3), (168, .ifCond .ne 7, 3), (171, .iconst 1, 1), (172, .goto 4, 3), (175, .iconst 0, 1), (176, .ireturn, 1), (177, .iconst 0, 1), (178, .ireturn, 1)]
theorem zo_cX2_holds_0 : zd_ok cX2_holds zl_cX2_holds_0 = true := by decide +kernel
theorem dX2_holds_0 : decode cX2_holds 0 = .ok (.iload_n 1, 1) := zd_at zo_cX2_holds_0 0 rfl
theorem dX2_holds_1 : decode cX2_holds 1 = .ok (.tableswitch 176 5 8 #[31, 62, 101, 139], 31) := zd_at zo_cX2_holds_0 1 rfl
theorem dX2_holds_32 : decode cX2_holds 32 = .ok (.iload_n 2, 1) := zd_at zo_cX2_holds_0 2 rfl
theorem dX2_holds_33 : decode cX2_holds 33 = .ok (.ifCond .ne 28, 3) := zd_at zo_cX2_holds_0 3 rfl
theorem dX2_holds_36 : decode cX2_holds 36 = .ok (.iload_n 3, 1) := zd_at zo_cX2_holds_0 4 rfl
theorem dX2_holds_37 : decode cX2_holds 37 = .ok (.ifCond .ne 24, 3) := zd_at zo_cX2_holds_0 5 rfl
theorem dX2_holds_40 : decode cX2_holds 40 = .ok (.iload 4, 2) := zd_at zo_cX2_holds_0 6 rfl
theorem dX2_holds_42 : decode cX2_holds 42 = .ok (.ifCond .ne 19, 3) := zd_at zo_cX2_holds_0 7 rfl
theorem dX2_holds_45 : decode cX2_holds 45 = .ok (.aload_n 0, 1) := zd_at zo_cX2_holds_0 8 rfl
theorem dX2_holds_46 : decode cX2_holds 46 = .ok (.getfield 16, 3) := zd_at zo_cX2_holds_0 9 rfl
theorem dX2_holds_49 : decode cX2_holds 49 = .ok (.invokevirtual 64, 3) := zd_at zo_cX2_holds_0 10 rfl
theorem dX2_holds_52 : decode cX2_holds 52 = .ok (.iload 5, 2) := zd_at zo_cX2_holds_0 11 rfl
theorem dX2_holds_54 : decode cX2_holds 54 = .ok (.if_icmp .gt 7, 3) := zd_at zo_cX2_holds_0 12 rfl
theorem dX2_holds_57 : decode cX2_holds 57 = .ok (.iconst 1, 1) := zd_at zo_cX2_holds_0 13 rfl
theorem dX2_holds_58 : decode cX2_holds 58 = .ok (.goto 4, 3) := zd_at zo_cX2_holds_0 14 rfl
theorem dX2_holds_61 : decode cX2_holds 61 = .ok (.iconst 0, 1) := zd_at zo_cX2_holds_0 15 rfl
theorem dX2_holds_62 : decode cX2_holds 62 = .ok (.ireturn, 1) := zd_at zo_cX2_holds_0 16 rfl
theorem dX2_holds_63 : decode cX2_holds 63 = .ok (.iload_n 2, 1) := zd_at zo_cX2_holds_0 17 rfl
theorem dX2_holds_64 : decode cX2_holds 64 = .ok (.ifCond .ne 36, 3) := zd_at zo_cX2_holds_0 18 rfl
theorem dX2_holds_67 : decode cX2_holds 67 = .ok (.iload_n 3, 1) := zd_at zo_cX2_holds_0 19 rfl
theorem dX2_holds_68 : decode cX2_holds 68 = .ok (.bipush 10, 2) := zd_at zo_cX2_holds_0 20 rfl
theorem dX2_holds_70 : decode cX2_holds 70 = .ok (.if_icmp .ge 30, 3) := zd_at zo_cX2_holds_0 21 rfl
theorem dX2_holds_73 : decode cX2_holds 73 = .ok (.aload_n 0, 1) := zd_at zo_cX2_holds_0 22 rfl
theorem dX2_holds_74 : decode cX2_holds 74 = .ok (.getfield 16, 3) := zd_at zo_cX2_holds_0 23 rfl
theorem dX2_holds_77 : decode cX2_holds 77 = .ok (.invokevirtual 73, 3) := zd_at zo_cX2_holds_0 24 rfl
theorem dX2_holds_80 : decode cX2_holds 80 = .ok (.iload_n 3, 1) := zd_at zo_cX2_holds_0 25 rfl
theorem dX2_holds_81 : decode cX2_holds 81 = .ok (.bipush 100, 2) := zd_at zo_cX2_holds_0 26 rfl
theorem dX2_holds_83 : decode cX2_holds 83 = .ok (.imul, 1) := zd_at zo_cX2_holds_0 27 rfl
theorem dX2_holds_84 : decode cX2_holds 84 = .ok (.iload 4, 2) := zd_at zo_cX2_holds_0 28 rfl
theorem dX2_holds_86 : decode cX2_holds 86 = .ok (.iadd, 1) := zd_at zo_cX2_holds_0 29 rfl
theorem dX2_holds_87 : decode cX2_holds 87 = .ok (.bipush 100, 2) := zd_at zo_cX2_holds_0 30 rfl
theorem dX2_holds_89 : decode cX2_holds 89 = .ok (.imul, 1) := zd_at zo_cX2_holds_0 31 rfl
theorem dX2_holds_90 : decode cX2_holds 90 = .ok (.iload 5, 2) := zd_at zo_cX2_holds_0 32 rfl
theorem dX2_holds_92 : decode cX2_holds 92 = .ok (.iadd, 1) := zd_at zo_cX2_holds_0 33 rfl
theorem dX2_holds_93 : decode cX2_holds 93 = .ok (.if_icmp .gt 7, 3) := zd_at zo_cX2_holds_0 34 rfl
theorem dX2_holds_96 : decode cX2_holds 96 = .ok (.iconst 1, 1) := zd_at zo_cX2_holds_0 35 rfl
theorem dX2_holds_97 : decode cX2_holds 97 = .ok (.goto 4, 3) := zd_at zo_cX2_holds_0 36 rfl
theorem dX2_holds_100 : decode cX2_holds 100 = .ok (.iconst 0, 1) := zd_at zo_cX2_holds_0 37 rfl
theorem dX2_holds_101 : decode cX2_holds 101 = .ok (.ireturn, 1) := zd_at zo_cX2_holds_0 38 rfl
theorem dX2_holds_102 : decode cX2_holds 102 = .ok (.iload 5, 2) := zd_at zo_cX2_holds_0 39 rfl
theorem dX2_holds_104 : decode cX2_holds 104 = .ok (.ifCond .ne 34, 3) := zd_at zo_cX2_holds_0 40 rfl
theorem dX2_holds_107 : decode cX2_holds 107 = .ok (.aload_n 0, 1) := zd_at zo_cX2_holds_0 41 rfl
theorem dX2_holds_108 : decode cX2_holds 108 = .ok (.getfield 16, 3) := zd_at zo_cX2_holds_0 42 rfl
theorem dX2_holds_111 : decode cX2_holds 111 = .ok (.iload 4, 2) := zd_at zo_cX2_holds_0 43 rfl
theorem dX2_holds_113 : decode cX2_holds 113 = .ok (.invokevirtual 90, 3) := zd_at zo_cX2_holds_0 44 rfl
theorem dX2_holds_116 : decode cX2_holds 116 = .ok (.ifCond .eq 22, 3) := zd_at zo_cX2_holds_0 45 rfl
theorem dX2_holds_119 : decode cX2_holds 119 = .ok (.aload_n 0, 1) := zd_at zo_cX2_holds_0 46 rfl
theorem dX2_holds_120 : decode cX2_holds 120 = .ok (.getfield 16, 3) := zd_at zo_cX2_holds_0 47 rfl
theorem dX2_holds_123 : decode cX2_holds 123 = .ok (.iload_n 2, 1) := zd_at zo_cX2_holds_0 48 rfl
theorem dX2_holds_124 : decode cX2_holds 124 = .ok (.iload_n 3, 1) := zd_at zo_cX2_holds_0 49 rfl
theorem dX2_holds_125 : decode cX2_holds 125 = .ok (.iconst 0, 1) := zd_at zo_cX2_holds_0 50 rfl
theorem dX2_holds_126 : decode cX2_holds 126 = .ok (.invokevirtual 202, 3) := zd_at zo_cX2_holds_0 51 rfl
theorem dX2_holds_129 : decode cX2_holds 129 = .ok (.iload 4, 2) := zd_at zo_cX2_holds_0 52 rfl
theorem dX2_holds_131 : decode cX2_holds 131 = .ok (.if_icmp .ne 7, 3) := zd_at zo_cX2_holds_0 53 rfl
theorem dX2_holds_134 : decode cX2_holds 134 = .ok (.iconst 1, 1) := zd_at zo_cX2_holds_0 54 rfl
theorem dX2_holds_135 : decode cX2_holds 135 = .ok (.goto 4, 3) := zd_at zo_cX2_holds_0 55 rfl
theorem dX2_holds_138 : decode cX2_holds 138 = .ok (.iconst 0, 1) := zd_at zo_cX2_holds_0 56 rfl
theorem dX2_holds_139 : decode cX2_holds 139 = .ok (.ireturn, 1) := zd_at zo_cX2_holds_0 57 rfl
theorem dX2_holds_140 : decode cX2_holds 140 = .ok (.iload 5, 2) := zd_at zo_cX2_holds_0 58 rfl
theorem dX2_holds_142 : decode cX2_holds 142 = .ok (.ifCond .ne 33, 3) := zd_at zo_cX2_holds_0 59 rfl
theorem dX2_holds_145 : decode cX2_holds 145 = .ok (.aload_n 0, 1) := zd_at zo_cX2_holds_0 60 rfl
theorem dX2_holds_146 : decode cX2_holds 146 = .ok (.getfield 16, 3) := zd_at zo_cX2_holds_0 61 rfl
theorem dX2_holds_149 : decode cX2_holds 149 = .ok (.iload 4, 2) := zd_at zo_cX2_holds_0 62 rfl
theorem dX2_holds_151 : decode cX2_holds 151 = .ok (.invokevirtual 90, 3) := zd_at zo_cX2_holds_0 63 rfl
theorem dX2_holds_154 : decode cX2_holds 154 = .ok (.ifCond .eq 21, 3) := zd_at zo_cX2_holds_0 64 rfl
theorem dX2_holds_157 : decode cX2_holds 157 = .ok (.aload_n 0, 1) := zd_at zo_cX2_holds_0 65 rfl
theorem dX2_holds_158 : decode cX2_holds 158 = .ok (.getfield 16, 3) := zd_at zo_cX2_holds_0 66 rfl
theorem dX2_holds_161 : decode cX2_holds 161 = .ok (.iload 4, 2) := zd_at zo_cX2_holds_0 67 rfl
theorem dX2_holds_163 : decode cX2_holds 163 = .ok (.iload_n 2, 1) := zd_at zo_cX2_holds_0 68 rfl
theorem dX2_holds_164 : decode cX2_holds 164 = .ok (.iload_n 3, 1) := zd_at zo_cX2_holds_0 69 rfl
theorem dX2_holds_165 : decode cX2_holds 165 = .ok (.invokevirtual 257, 3) := zd_at zo_cX2_holds_0 70 rfl
theorem dX2_holds_168 : decode cX2_holds 168 = .ok (.ifCond .ne 7, 3) := zd_at zo_cX2_holds_0 71 rfl
theorem dX2_holds_171 : decode cX2_holds 171 = .ok (.iconst 1, 1) := zd_at zo_cX2_holds_0 72 rfl
theorem dX2_holds_172 : decode cX2_holds 172 = .ok (.goto 4, 3) := zd_at zo_cX2_holds_0 73 rfl
theorem dX2_holds_175 : decode cX2_holds 175 = .ok (.iconst 0, 1) := zd_at zo_cX2_holds_0 74 rfl
theorem dX2_holds_176 : decode cX2_holds 176 = .ok (.ireturn, 1) := zd_at zo_cX2_holds_0 75 rfl
theorem dX2_holds_177 : decode cX2_holds 177 = .ok (.iconst 0, 1) := zd_at zo_cX2_holds_0 76 rfl
theorem dX2_holds_178 : decode cX2_holds 178 = .ok (.ireturn, 1) := zd_at zo_cX2_holds_0 77 rfl
def zl_cX2_isCell_0 : List (Nat × Instr × Nat) := [(0, .iload_n 0, 1), (1, .ifCond .lt 23, 3), (4, .iload_n 0, 1), (5, .bipush 100, 2), (7, .if_icmp .ge 17, 3), (10, .iload_n 1, 1), (11, .ifCond .lt 13, 3), (14, .iload_n 1, 1), (15, .bipush 100, 2), (17, .if_icmp .ge 7, 3), (20, .iconst 1, 1), (21, .goto 4, 3), (24, .iconst 0, 1), (25, .ireturn, 1)]
theorem zo_cX2_isCell_0 : zd_ok cX2_isCell zl_cX2_isCell_0 = true := by decide +kernel
theorem dX2_isCell_0 : decode cX2_isCell 0 = .ok (.iload_n 0, 1) := zd_at zo_cX2_isCell_0 0 rfl
theorem dX2_isCell_1 : decode cX2_isCell 1 = .ok (.ifCond .lt 23, 3) := zd_at zo_cX2_isCell_0 1 rfl
theorem dX2_isCell_4 : decode cX2_isCell 4 = .ok (.iload_n 0, 1) := zd_at zo_cX2_isCell_0 2 rfl
theorem dX2_isCell_5 : decode cX2_isCell 5 = .ok (.bipush 100, 2) := zd_at zo_cX2_isCell_0 3 rfl
theorem dX2_isCell_7 : decode cX2_isCell 7 = .ok (.if_icmp .ge 17, 3) := zd_at zo_cX2_isCell_0 4 rfl
theorem dX2_isCell_10 : decode cX2_isCell 10 = .ok (.iload_n 1, 1) := zd_at zo_cX2_isCell_0 5 rfl
theorem dX2_isCell_11 : decode cX2_isCell 11 = .ok (.ifCond .lt 13, 3) := zd_at zo_cX2_isCell_0 6 rfl
theorem dX2_isCell_14 : decode cX2_isCell 14 = .ok (.iload_n 1, 1) := zd_at zo_cX2_isCell_0 7 rfl
theorem dX2_isCell_15 : decode cX2_isCell 15 = .ok (.bipush 100, 2) := zd_at zo_cX2_isCell_0 8 rfl
theorem dX2_isCell_17 : decode cX2_isCell 17 = .ok (.if_icmp .ge 7, 3) := zd_at zo_cX2_isCell_0 9 rfl
theorem dX2_isCell_20 : decode cX2_isCell 20 = .ok (.iconst 1, 1) := zd_at zo_cX2_isCell_0 10 rfl
theorem dX2_isCell_21 : decode cX2_isCell 21 = .ok (.goto 4, 3) := zd_at zo_cX2_isCell_0 11 rfl
theorem dX2_isCell_24 : decode cX2_isCell 24 = .ok (.iconst 0, 1) := zd_at zo_cX2_isCell_0 12 rfl
theorem dX2_isCell_25 : decode cX2_isCell 25 = .ok (.ireturn, 1) := zd_at zo_cX2_isCell_0 13 rfl
def zl_cX2_isBox_0 : List (Nat × Instr × Nat) := [(0, .iload_n 0, 1), (1, .ifCond .lt 33, 3), (4, .iload_n 0, 1), (5, .iload_n 2, 1), (6, .if_icmp .gt 28, 3), (9, .iload_n 2, 1), (10, .bipush 100, 2), (12, .if_icmp .ge 22, 3), (15, .iload_n 1, 1), (16, .ifCond .lt 18, 3), (19, .iload_n 1, 1), (20, .iload_n 3, 1), (21, .if_icmp .gt 13, 3), (24, .iload_n 3, 1), (25, .bipush 100, 2), (27, .if_icmp .ge 7, 3), (30, .iconst 1, 1), (31, .goto 4, 3), (34, .iconst 0, 1), (35, .ireturn, 1)]
theorem zo_cX2_isBox_0 : zd_ok cX2_isBox zl_cX2_isBox_0 = true := by decide +kernel
theorem dX2_isBox_0 : decode cX2_isBox 0 = .ok (.iload_n 0, 1) := zd_at zo_cX2_isBox_0 0 rfl
theorem dX2_isBox_1 : decode cX2_isBox 1 = .ok (.ifCond .lt 33, 3) := zd_at zo_cX2_isBox_0 1 rfl
theorem dX2_isBox_4 : decode cX2_isBox 4 = .ok (.iload_n 0, 1) := zd_at zo_cX2_isBox_0 2 rfl
theorem dX2_isBox_5 : decode cX2_isBox 5 = .ok (.iload_n 2, 1) := zd_at zo_cX2_isBox_0 3 rfl
theorem dX2_isBox_6 : decode cX2_isBox 6 = .ok (.if_icmp .gt 28, 3) := zd_at zo_cX2_isBox_0 4 rfl
theorem dX2_isBox_9 : decode cX2_isBox 9 = .ok (.iload_n 2, 1) := zd_at zo_cX2_isBox_0 5 rfl
theorem dX2_isBox_10 : decode cX2_isBox 10 = .ok (.bipush 100, 2) := zd_at zo_cX2_isBox_0 6 rfl
theorem dX2_isBox_12 : decode cX2_isBox 12 = .ok (.if_icmp .ge 22, 3) := zd_at zo_cX2_isBox_0 7 rfl
theorem dX2_isBox_15 : decode cX2_isBox 15 = .ok (.iload_n 1, 1) := zd_at zo_cX2_isBox_0 8 rfl
theorem dX2_isBox_16 : decode cX2_isBox 16 = .ok (.ifCond .lt 18, 3) := zd_at zo_cX2_isBox_0 9 rfl
theorem dX2_isBox_19 : decode cX2_isBox 19 = .ok (.iload_n 1, 1) := zd_at zo_cX2_isBox_0 10 rfl
theorem dX2_isBox_20 : decode cX2_isBox 20 = .ok (.iload_n 3, 1) := zd_at zo_cX2_isBox_0 11 rfl
theorem dX2_isBox_21 : decode cX2_isBox 21 = .ok (.if_icmp .gt 13, 3) := zd_at zo_cX2_isBox_0 12 rfl
theorem dX2_isBox_24 : decode cX2_isBox 24 = .ok (.iload_n 3, 1) := zd_at zo_cX2_isBox_0 13 rfl
theorem dX2_isBox_25 : decode cX2_isBox 25 = .ok (.bipush 100, 2) := zd_at zo_cX2_isBox_0 14 rfl
theorem dX2_isBox_27 : decode cX2_isBox 27 = .ok (.if_icmp .ge 7, 3) := zd_at zo_cX2_isBox_0 15 rfl
theorem dX2_isBox_30 : decode cX2_isBox 30 = .ok (.iconst 1, 1) := zd_at zo_cX2_isBox_0 16 rfl
theorem dX2_isBox_31 : decode cX2_isBox 31 = .ok (.goto 4, 3) := zd_at zo_cX2_isBox_0 17 rfl
theorem dX2_isBox_34 : decode cX2_isBox 34 = .ok (.iconst 0, 1) := zd_at zo_cX2_isBox_0 18 rfl
theorem dX2_isBox_35 : decode cX2_isBox 35 = .ok (.ireturn, 1) := zd_at zo_cX2_isBox_0 19 rfl
def zl_cX2_treeAt_0 : List (Nat × Instr × Nat) := [(0, .aload_n 0, 1), (1, .ifnull 19, 3), (4, .iload_n 1, 1), (5, .ifCond .lt 15, 3), (8, .iload_n 1, 1), (9, .aload_n 0, 1), (10, .arraylength, 1), (11, .if_icmp .ge 9, 3), (14, .aload_n 0, 1), (15, .iload_n 1, 1), (16, .aaload, 1), (17, .goto 4, 3), (20, .aconst_null, 1), (21, .areturn, 1)]
theorem zo_cX2_treeAt_0 : zd_ok cX2_treeAt zl_cX2_treeAt_0 = true := by decide +kernel
theorem dX2_treeAt_0 : decode cX2_treeAt 0 = .ok (.aload_n 0, 1) := zd_at zo_cX2_treeAt_0 0 rfl
theorem dX2_treeAt_1 : decode cX2_treeAt 1 = .ok (.ifnull 19, 3) := zd_at zo_cX2_treeAt_0 1 rfl
theorem dX2_treeAt_4 : decode cX2_treeAt 4 = .ok (.iload_n 1, 1) := zd_at zo_cX2_treeAt_0 2 rfl
theorem dX2_treeAt_5 : decode cX2_treeAt 5 = .ok (.ifCond .lt 15, 3) := zd_at zo_cX2_treeAt_0 3 rfl
theorem dX2_treeAt_8 : decode cX2_treeAt 8 = .ok (.iload_n 1, 1) := zd_at zo_cX2_treeAt_0 4 rfl
theorem dX2_treeAt_9 : decode cX2_treeAt 9 = .ok (.aload_n 0, 1) := zd_at zo_cX2_treeAt_0 5 rfl
theorem dX2_treeAt_10 : decode cX2_treeAt 10 = .ok (.arraylength, 1) := zd_at zo_cX2_treeAt_0 6 rfl
theorem dX2_treeAt_11 : decode cX2_treeAt 11 = .ok (.if_icmp .ge 9, 3) := zd_at zo_cX2_treeAt_0 7 rfl
theorem dX2_treeAt_14 : decode cX2_treeAt 14 = .ok (.aload_n 0, 1) := zd_at zo_cX2_treeAt_0 8 rfl
theorem dX2_treeAt_15 : decode cX2_treeAt 15 = .ok (.iload_n 1, 1) := zd_at zo_cX2_treeAt_0 9 rfl
theorem dX2_treeAt_16 : decode cX2_treeAt 16 = .ok (.aaload, 1) := zd_at zo_cX2_treeAt_0 10 rfl
theorem dX2_treeAt_17 : decode cX2_treeAt 17 = .ok (.goto 4, 3) := zd_at zo_cX2_treeAt_0 11 rfl
theorem dX2_treeAt_20 : decode cX2_treeAt 20 = .ok (.aconst_null, 1) := zd_at zo_cX2_treeAt_0 12 rfl
theorem dX2_treeAt_21 : decode cX2_treeAt 21 = .ok (.areturn, 1) := zd_at zo_cX2_treeAt_0 13 rfl
def zl_cX2_get_0 : List (Nat × Instr × Nat) := [(0, .aload_n 0, 1), (1, .ifnull 19, 3), (4, .iload_n 1, 1), (5, .ifCond .lt 15, 3), (8, .iload_n 1, 1), (9, .aload_n 0, 1), (10, .arraylength, 1), (11, .if_icmp .ge 9, 3), (14, .aload_n 0, 1), (15, .iload_n 1, 1), (16, .iaload, 1), (17, .goto 4, 3), (20, .iconst 0, 1), (21, .ireturn, 1)]
theorem zo_cX2_get_0 : zd_ok cX2_get zl_cX2_get_0 = true := by decide +kernel
theorem dX2_get_0 : decode cX2_get 0 = .ok (.aload_n 0, 1) := zd_at zo_cX2_get_0 0 rfl
theorem dX2_get_1 : decode cX2_get 1 = .ok (.ifnull 19, 3) := zd_at zo_cX2_get_0 1 rfl
theorem dX2_get_4 : decode cX2_get 4 = .ok (.iload_n 1, 1) := zd_at zo_cX2_get_0 2 rfl
theorem dX2_get_5 : decode cX2_get 5 = .ok (.ifCond .lt 15, 3) := zd_at zo_cX2_get_0 3 rfl
theorem dX2_get_8 : decode cX2_get 8 = .ok (.iload_n 1, 1) := zd_at zo_cX2_get_0 4 rfl
theorem dX2_get_9 : decode cX2_get 9 = .ok (.aload_n 0, 1) := zd_at zo_cX2_get_0 5 rfl
theorem dX2_get_10 : decode cX2_get 10 = .ok (.arraylength, 1) := zd_at zo_cX2_get_0 6 rfl
theorem dX2_get_11 : decode cX2_get 11 = .ok (.if_icmp .ge 9, 3) := zd_at zo_cX2_get_0 7 rfl
theorem dX2_get_14 : decode cX2_get 14 = .ok (.aload_n 0, 1) := zd_at zo_cX2_get_0 8 rfl
theorem dX2_get_15 : decode cX2_get 15 = .ok (.iload_n 1, 1) := zd_at zo_cX2_get_0 9 rfl
theorem dX2_get_16 : decode cX2_get 16 = .ok (.iaload, 1) := zd_at zo_cX2_get_0 10 rfl
theorem dX2_get_17 : decode cX2_get 17 = .ok (.goto 4, 3) := zd_at zo_cX2_get_0 11 rfl
theorem dX2_get_20 : decode cX2_get 20 = .ok (.iconst 0, 1) := zd_at zo_cX2_get_0 12 rfl
theorem dX2_get_21 : decode cX2_get 21 = .ok (.ireturn, 1) := zd_at zo_cX2_get_0 13 rfl
def zl_cX2_put_0 : List (Nat × Instr × Nat) := [(0, .aload_n 0, 1), (1, .ifnull 17, 3), (4, .iload_n 1, 1), (5, .ifCond .lt 13, 3), (8, .iload_n 1, 1), (9, .aload_n 0, 1), (10, .arraylength, 1), (11, .if_icmp .ge 7, 3), (14, .aload_n 0, 1), (15, .iload_n 1, 1), (16, .iload_n 2, 1), (17, .iastore, 1), (18, .return_, 1)]
theorem zo_cX2_put_0 : zd_ok cX2_put zl_cX2_put_0 = true := by decide +kernel
theorem dX2_put_0 : decode cX2_put 0 = .ok (.aload_n 0, 1) := zd_at zo_cX2_put_0 0 rfl
theorem dX2_put_1 : decode cX2_put 1 = .ok (.ifnull 17, 3) := zd_at zo_cX2_put_0 1 rfl
theorem dX2_put_4 : decode cX2_put 4 = .ok (.iload_n 1, 1) := zd_at zo_cX2_put_0 2 rfl
theorem dX2_put_5 : decode cX2_put 5 = .ok (.ifCond .lt 13, 3) := zd_at zo_cX2_put_0 3 rfl
theorem dX2_put_8 : decode cX2_put 8 = .ok (.iload_n 1, 1) := zd_at zo_cX2_put_0 4 rfl
theorem dX2_put_9 : decode cX2_put 9 = .ok (.aload_n 0, 1) := zd_at zo_cX2_put_0 5 rfl
theorem dX2_put_10 : decode cX2_put 10 = .ok (.arraylength, 1) := zd_at zo_cX2_put_0 6 rfl
theorem dX2_put_11 : decode cX2_put 11 = .ok (.if_icmp .ge 7, 3) := zd_at zo_cX2_put_0 7 rfl
theorem dX2_put_14 : decode cX2_put 14 = .ok (.aload_n 0, 1) := zd_at zo_cX2_put_0 8 rfl
theorem dX2_put_15 : decode cX2_put 15 = .ok (.iload_n 1, 1) := zd_at zo_cX2_put_0 9 rfl
theorem dX2_put_16 : decode cX2_put 16 = .ok (.iload_n 2, 1) := zd_at zo_cX2_put_0 10 rfl
theorem dX2_put_17 : decode cX2_put 17 = .ok (.iastore, 1) := zd_at zo_cX2_put_0 11 rfl
theorem dX2_put_18 : decode cX2_put 18 = .ok (.return_, 1) := zd_at zo_cX2_put_0 12 rfl
def zl_cX2_copy_0 : List (Nat × Instr × Nat) := [(0, .aload_n 0, 1), (1, .ifnull 21, 3), (4, .aload_n 1, 1), (5, .ifnull 17, 3), (8, .aload_n 0, 1), (9, .iconst 0, 1), (10, .aload_n 1, 1), (11, .iconst 0, 1), (12, .aload_n 0, 1), (13, .arraylength, 1), (14, .aload_n 1, 1), (15, .arraylength, 1), (16, .invokestatic 260, 3), (19, .invokestatic 265, 3), (22, .return_, 1)]
theorem zo_cX2_copy_0 : zd_ok cX2_copy zl_cX2_copy_0 = true := by decide +kernel
theorem dX2_copy_0 : decode cX2_copy 0 = .ok (.aload_n 0, 1) := zd_at zo_cX2_copy_0 0 rfl
theorem dX2_copy_1 : decode cX2_copy 1 = .ok (.ifnull 21, 3) := zd_at zo_cX2_copy_0 1 rfl
theorem dX2_copy_4 : decode cX2_copy 4 = .ok (.aload_n 1, 1) := zd_at zo_cX2_copy_0 2 rfl
theorem dX2_copy_5 : decode cX2_copy 5 = .ok (.ifnull 17, 3) := zd_at zo_cX2_copy_0 3 rfl
theorem dX2_copy_8 : decode cX2_copy 8 = .ok (.aload_n 0, 1) := zd_at zo_cX2_copy_0 4 rfl
theorem dX2_copy_9 : decode cX2_copy 9 = .ok (.iconst 0, 1) := zd_at zo_cX2_copy_0 5 rfl
theorem dX2_copy_10 : decode cX2_copy 10 = .ok (.aload_n 1, 1) := zd_at zo_cX2_copy_0 6 rfl
theorem dX2_copy_11 : decode cX2_copy 11 = .ok (.iconst 0, 1) := zd_at zo_cX2_copy_0 7 rfl
theorem dX2_copy_12 : decode cX2_copy 12 = .ok (.aload_n 0, 1) := zd_at zo_cX2_copy_0 8 rfl
theorem dX2_copy_13 : decode cX2_copy 13 = .ok (.arraylength, 1) := zd_at zo_cX2_copy_0 9 rfl
theorem dX2_copy_14 : decode cX2_copy 14 = .ok (.aload_n 1, 1) := zd_at zo_cX2_copy_0 10 rfl
theorem dX2_copy_15 : decode cX2_copy 15 = .ok (.arraylength, 1) := zd_at zo_cX2_copy_0 11 rfl
theorem dX2_copy_16 : decode cX2_copy 16 = .ok (.invokestatic 260, 3) := zd_at zo_cX2_copy_0 12 rfl
theorem dX2_copy_19 : decode cX2_copy 19 = .ok (.invokestatic 265, 3) := zd_at zo_cX2_copy_0 13 rfl
theorem dX2_copy_22 : decode cX2_copy 22 = .ok (.return_, 1) := zd_at zo_cX2_copy_0 14 rfl
def zl_cX3_init_0 : List (Nat × Instr × Nat) := [(0, .aload_n 0, 1), (1, .invokespecial 1, 3), (4, .aload_n 0, 1), (5, .bipush 100, 2), (7, .newarray .int, 2), (9, .putfield 7, 3), (12, .aload_n 0, 1), (13, .sipush 380, 3), (16, .newarray .int, 2), (18, .putfield 13, 3), (21, .aload_n 0, 1), (22, .sipush 380, 3), (25, .newarray .int, 2), (27, .putfield 16, 3), (30, .aload_n 0, 1), (31, .sipush 5320, 3), (34, .newarray .int, 2), (36, .putfield 19, 3), (39, .aload_n 0, 1), (40, .sipush 760, 3), (43, .newarray .int, 2), (45, .putfield 22, 3), (48, .aload_n 0, 1), (49, .iconst 2, 1), (50, .newarray .boolean, 2), (52, .putfield 25, 3), (55, .aload_n 0, 1), (56, .sipush 224, 3), (59, .newarray .int, 2), (61, .putfield 29, 3), (64, .aload_n 0, 1), (65, .iconst 5, 1), (66, .newarray .int, 2), (68, .putfield 32, 3), (71, .aload_n 0, 1), (72, .bipush 6, 2), (74, .newarray .int, 2), (76, .putfield 35, 3), (79, .aload_n 0, 1), (80, .bipush 32, 2), (82, .newarray .int, 2), (84, .putfield 38, 3), (87, .aload_n 0, 1), (88, .bipush 32, 2), (90, .newarray .int, 2), (92, .putfield 41, 3), (95, .aload_n 0, 1), (96, .bipush 64, 2), (98, .newarray .int, 2), (100, .putfield 44, 3), (103, .aload_n 0, 1), (104, .getfield 13, 3), (107, .invokestatic 47, 3), (110, .return_, 1)]
theorem zo_cX3_init_0 : zd_ok cX3_init zl_cX3_init_0 = true := by decide +kernel
theorem dX3_init_0 : decode cX3_init 0 = .ok (.aload_n 0, 1) := zd_at zo_cX3_init_0 0 rfl
theorem dX3_init_1 : decode cX3_init 1 = .ok (.invokespecial 1, 3) := zd_at zo_cX3_init_0 1 rfl
theorem dX3_init_4 : decode cX3_init 4 = .ok (.aload_n 0, 1) := zd_at zo_cX3_init_0 2 rfl
theorem dX3_init_5 : decode cX3_init 5 = .ok (.bipush 100, 2) := zd_at zo_cX3_init_0 3 rfl
theorem dX3_init_7 : decode cX3_init 7 = .ok (.newarray .int, 2) := zd_at zo_cX3_init_0 4 rfl
theorem dX3_init_9 : decode cX3_init 9 = .ok (.putfield 7, 3) := zd_at zo_cX3_init_0 5 rfl
theorem dX3_init_12 : decode cX3_init 12 = .ok (.aload_n 0, 1) := zd_at zo_cX3_init_0 6 rfl
theorem dX3_init_13 : decode cX3_init 13 = .ok (.sipush 380, 3) := zd_at zo_cX3_init_0 7 rfl
theorem dX3_init_16 : decode cX3_init 16 = .ok (.newarray .int, 2) := zd_at zo_cX3_init_0 8 rfl
theorem dX3_init_18 : decode cX3_init 18 = .ok (.putfield 13, 3) := zd_at zo_cX3_init_0 9 rfl
theorem dX3_init_21 : decode cX3_init 21 = .ok (.aload_n 0, 1) := zd_at zo_cX3_init_0 10 rfl
theorem dX3_init_22 : decode cX3_init 22 = .ok (.sipush 380, 3) := zd_at zo_cX3_init_0 11 rfl
theorem dX3_init_25 : decode cX3_init 25 = .ok (.newarray .int, 2) := zd_at zo_cX3_init_0 12 rfl
theorem dX3_init_27 : decode cX3_init 27 = .ok (.putfield 16, 3) := zd_at zo_cX3_init_0 13 rfl
theorem dX3_init_30 : decode cX3_init 30 = .ok (.aload_n 0, 1) := zd_at zo_cX3_init_0 14 rfl
theorem dX3_init_31 : decode cX3_init 31 = .ok (.sipush 5320, 3) := zd_at zo_cX3_init_0 15 rfl
theorem dX3_init_34 : decode cX3_init 34 = .ok (.newarray .int, 2) := zd_at zo_cX3_init_0 16 rfl
theorem dX3_init_36 : decode cX3_init 36 = .ok (.putfield 19, 3) := zd_at zo_cX3_init_0 17 rfl
theorem dX3_init_39 : decode cX3_init 39 = .ok (.aload_n 0, 1) := zd_at zo_cX3_init_0 18 rfl
theorem dX3_init_40 : decode cX3_init 40 = .ok (.sipush 760, 3) := zd_at zo_cX3_init_0 19 rfl
theorem dX3_init_43 : decode cX3_init 43 = .ok (.newarray .int, 2) := zd_at zo_cX3_init_0 20 rfl
theorem dX3_init_45 : decode cX3_init 45 = .ok (.putfield 22, 3) := zd_at zo_cX3_init_0 21 rfl
theorem dX3_init_48 : decode cX3_init 48 = .ok (.aload_n 0, 1) := zd_at zo_cX3_init_0 22 rfl
theorem dX3_init_49 : decode cX3_init 49 = .ok (.iconst 2, 1) := zd_at zo_cX3_init_0 23 rfl
theorem dX3_init_50 : decode cX3_init 50 = .ok (.newarray .boolean, 2) := zd_at zo_cX3_init_0 24 rfl
theorem dX3_init_52 : decode cX3_init 52 = .ok (.putfield 25, 3) := zd_at zo_cX3_init_0 25 rfl
theorem dX3_init_55 : decode cX3_init 55 = .ok (.aload_n 0, 1) := zd_at zo_cX3_init_0 26 rfl
theorem dX3_init_56 : decode cX3_init 56 = .ok (.sipush 224, 3) := zd_at zo_cX3_init_0 27 rfl
theorem dX3_init_59 : decode cX3_init 59 = .ok (.newarray .int, 2) := zd_at zo_cX3_init_0 28 rfl
theorem dX3_init_61 : decode cX3_init 61 = .ok (.putfield 29, 3) := zd_at zo_cX3_init_0 29 rfl
theorem dX3_init_64 : decode cX3_init 64 = .ok (.aload_n 0, 1) := zd_at zo_cX3_init_0 30 rfl
theorem dX3_init_65 : decode cX3_init 65 = .ok (.iconst 5, 1) := zd_at zo_cX3_init_0 31 rfl
theorem dX3_init_66 : decode cX3_init 66 = .ok (.newarray .int, 2) := zd_at zo_cX3_init_0 32 rfl
theorem dX3_init_68 : decode cX3_init 68 = .ok (.putfield 32, 3) := zd_at zo_cX3_init_0 33 rfl
theorem dX3_init_71 : decode cX3_init 71 = .ok (.aload_n 0, 1) := zd_at zo_cX3_init_0 34 rfl
theorem dX3_init_72 : decode cX3_init 72 = .ok (.bipush 6, 2) := zd_at zo_cX3_init_0 35 rfl
theorem dX3_init_74 : decode cX3_init 74 = .ok (.newarray .int, 2) := zd_at zo_cX3_init_0 36 rfl
theorem dX3_init_76 : decode cX3_init 76 = .ok (.putfield 35, 3) := zd_at zo_cX3_init_0 37 rfl
theorem dX3_init_79 : decode cX3_init 79 = .ok (.aload_n 0, 1) := zd_at zo_cX3_init_0 38 rfl
theorem dX3_init_80 : decode cX3_init 80 = .ok (.bipush 32, 2) := zd_at zo_cX3_init_0 39 rfl
theorem dX3_init_82 : decode cX3_init 82 = .ok (.newarray .int, 2) := zd_at zo_cX3_init_0 40 rfl
theorem dX3_init_84 : decode cX3_init 84 = .ok (.putfield 38, 3) := zd_at zo_cX3_init_0 41 rfl
theorem dX3_init_87 : decode cX3_init 87 = .ok (.aload_n 0, 1) := zd_at zo_cX3_init_0 42 rfl
theorem dX3_init_88 : decode cX3_init 88 = .ok (.bipush 32, 2) := zd_at zo_cX3_init_0 43 rfl
theorem dX3_init_90 : decode cX3_init 90 = .ok (.newarray .int, 2) := zd_at zo_cX3_init_0 44 rfl
theorem dX3_init_92 : decode cX3_init 92 = .ok (.putfield 41, 3) := zd_at zo_cX3_init_0 45 rfl
theorem dX3_init_95 : decode cX3_init 95 = .ok (.aload_n 0, 1) := zd_at zo_cX3_init_0 46 rfl
theorem dX3_init_96 : decode cX3_init 96 = .ok (.bipush 64, 2) := zd_at zo_cX3_init_0 47 rfl
theorem dX3_init_98 : decode cX3_init 98 = .ok (.newarray .int, 2) := zd_at zo_cX3_init_0 48 rfl
theorem dX3_init_100 : decode cX3_init 100 = .ok (.putfield 44, 3) := zd_at zo_cX3_init_0 49 rfl
theorem dX3_init_103 : decode cX3_init 103 = .ok (.aload_n 0, 1) := zd_at zo_cX3_init_0 50 rfl
theorem dX3_init_104 : decode cX3_init 104 = .ok (.getfield 13, 3) := zd_at zo_cX3_init_0 51 rfl
theorem dX3_init_107 : decode cX3_init 107 = .ok (.invokestatic 47, 3) := zd_at zo_cX3_init_0 52 rfl
theorem dX3_init_110 : decode cX3_init 110 = .ok (.return_, 1) := zd_at zo_cX3_init_0 53 rfl
def zl_cX3_begin_0 : List (Nat × Instr × Nat) := [(0, .iconst 0, 1), (1, .istore_n 1, 1), (2, .iload_n 1, 1), (3, .sipush 380, 3), (6, .if_icmp .ge 13, 3), (9, .aload_n 0, 1), (10, .iload_n 1, 1), (11, .iconst 0, 1), (12, .iastore, 1), (13, .iinc 1 1, 3), (16, .goto (-14), 3), (19, .aload_n 0, 1), (20, .bipush 120, 2), (22, .iconst 1, 1), (23, .iastore, 1), (24, .return_, 1)]
theorem zo_cX3_begin_0 : zd_ok cX3_begin zl_cX3_begin_0 = true := by decide +kernel
theorem dX3_begin_0 : decode cX3_begin 0 = .ok (.iconst 0, 1) := zd_at zo_cX3_begin_0 0 rfl
theorem dX3_begin_1 : decode cX3_begin 1 = .ok (.istore_n 1, 1) := zd_at zo_cX3_begin_0 1 rfl
theorem dX3_begin_2 : decode cX3_begin 2 = .ok (.iload_n 1, 1) := zd_at zo_cX3_begin_0 2 rfl
theorem dX3_begin_3 : decode cX3_begin 3 = .ok (.sipush 380, 3) := zd_at zo_cX3_begin_0 3 rfl
theorem dX3_begin_6 : decode cX3_begin 6 = .ok (.if_icmp .ge 13, 3) := zd_at zo_cX3_begin_0 4 rfl
theorem dX3_begin_9 : decode cX3_begin 9 = .ok (.aload_n 0, 1) := zd_at zo_cX3_begin_0 5 rfl
theorem dX3_begin_10 : decode cX3_begin 10 = .ok (.iload_n 1, 1) := zd_at zo_cX3_begin_0 6 rfl
theorem dX3_begin_11 : decode cX3_begin 11 = .ok (.iconst 0, 1) := zd_at zo_cX3_begin_0 7 rfl
theorem dX3_begin_12 : decode cX3_begin 12 = .ok (.iastore, 1) := zd_at zo_cX3_begin_0 8 rfl
theorem dX3_begin_13 : decode cX3_begin 13 = .ok (.iinc 1 1, 3) := zd_at zo_cX3_begin_0 9 rfl
theorem dX3_begin_16 : decode cX3_begin 16 = .ok (.goto (-14), 3) := zd_at zo_cX3_begin_0 10 rfl
theorem dX3_begin_19 : decode cX3_begin 19 = .ok (.aload_n 0, 1) := zd_at zo_cX3_begin_0 11 rfl
theorem dX3_begin_20 : decode cX3_begin 20 = .ok (.bipush 120, 2) := zd_at zo_cX3_begin_0 12 rfl
theorem dX3_begin_22 : decode cX3_begin 22 = .ok (.iconst 1, 1) := zd_at zo_cX3_begin_0 13 rfl
theorem dX3_begin_23 : decode cX3_begin 23 = .ok (.iastore, 1) := zd_at zo_cX3_begin_0 14 rfl
theorem dX3_begin_24 : decode cX3_begin 24 = .ok (.return_, 1) := zd_at zo_cX3_begin_0 15 rfl
def zl_cX3_thrown_0 : List (Nat × Instr × Nat) := [(0, .aload_n 0, 1), (1, .getfield 51, 3), (4, .ireturn, 1)]
theorem zo_cX3_thrown_0 : zd_ok cX3_thrown zl_cX3_thrown_0 = true := by decide +kernel
theorem dX3_thrown_0 : decode cX3_thrown 0 = .ok (.aload_n 0, 1) := zd_at zo_cX3_thrown_0 0 rfl
theorem dX3_thrown_1 : decode cX3_thrown 1 = .ok (.getfield 51, 3) := zd_at zo_cX3_thrown_0 1 rfl
theorem dX3_thrown_4 : decode cX3_thrown 4 = .ok (.ireturn, 1) := zd_at zo_cX3_thrown_0 2 rfl
def zl_cX3_refused_0 : List (Nat × Instr × Nat) := [(0, .aload_n 0, 1), (1, .iload_n 1, 1), (2, .putfield 51, 3), (5, .iload_n 1, 1), (6, .ifCond .le 7, 3), (9, .iconst 1, 1), (10, .goto 4, 3), (13, .iconst 0, 1), (14, .ireturn, 1)]
theorem zo_cX3_refused_0 : zd_ok cX3_refused zl_cX3_refused_0 = true := by decide +kernel
theorem dX3_refused_0 : decode cX3_refused 0 = .ok (.aload_n 0, 1) := zd_at zo_cX3_refused_0 0 rfl
theorem dX3_refused_1 : decode cX3_refused 1 = .ok (.iload_n 1, 1) := zd_at zo_cX3_refused_0 1 rfl
theorem dX3_refused_2 : decode cX3_refused 2 = .ok (.putfield 51, 3) := zd_at zo_cX3_refused_0 2 rfl
theorem dX3_refused_5 : decode cX3_refused 5 = .ok (.iload_n 1, 1) := zd_at zo_cX3_refused_0 3 rfl
theorem dX3_refused_6 : decode cX3_refused 6 = .ok (.ifCond .le 7, 3) := zd_at zo_cX3_refused_0 4 rfl
theorem dX3_refused_9 : decode cX3_refused 9 = .ok (.iconst 1, 1) := zd_at zo_cX3_refused_0 5 rfl
theorem dX3_refused_10 : decode cX3_refused 10 = .ok (.goto 4, 3) := zd_at zo_cX3_refused_0 6 rfl
theorem dX3_refused_13 : decode cX3_refused 13 = .ok (.iconst 0, 1) := zd_at zo_cX3_refused_0 7 rfl
theorem dX3_refused_14 : decode cX3_refused 14 = .ok (.ireturn, 1) := zd_at zo_cX3_refused_0 8 rfl
def zl_cX3_in_0 : List (Nat × Instr × Nat) := [(0, .lload_n 0, 1), (1, .lload_n 2, 1), (2, .lcmp, 1), (3, .ifCond .lt 14, 3), (6, .lload_n 0, 1), (7, .lload 4, 2), (9, .lcmp, 1), (10, .ifCond .gt 7, 3), (13, .iconst 1, 1), (14, .goto 4, 3), (17, .iconst 0, 1), (18, .ireturn, 1)]
theorem zo_cX3_in_0 : zd_ok cX3_in zl_cX3_in_0 = true := by decide +kernel
theorem dX3_in_0 : decode cX3_in 0 = .ok (.lload_n 0, 1) := zd_at zo_cX3_in_0 0 rfl
theorem dX3_in_1 : decode cX3_in 1 = .ok (.lload_n 2, 1) := zd_at zo_cX3_in_0 1 rfl
theorem dX3_in_2 : decode cX3_in 2 = .ok (.lcmp, 1) := zd_at zo_cX3_in_0 2 rfl
theorem dX3_in_3 : decode cX3_in 3 = .ok (.ifCond .lt 14, 3) := zd_at zo_cX3_in_0 3 rfl
theorem dX3_in_6 : decode cX3_in 6 = .ok (.lload_n 0, 1) := zd_at zo_cX3_in_0 4 rfl
theorem dX3_in_7 : decode cX3_in 7 = .ok (.lload 4, 2) := zd_at zo_cX3_in_0 5 rfl
theorem dX3_in_9 : decode cX3_in 9 = .ok (.lcmp, 1) := zd_at zo_cX3_in_0 6 rfl
theorem dX3_in_10 : decode cX3_in 10 = .ok (.ifCond .gt 7, 3) := zd_at zo_cX3_in_0 7 rfl
theorem dX3_in_13 : decode cX3_in 13 = .ok (.iconst 1, 1) := zd_at zo_cX3_in_0 8 rfl
theorem dX3_in_14 : decode cX3_in 14 = .ok (.goto 4, 3) := zd_at zo_cX3_in_0 9 rfl
theorem dX3_in_17 : decode cX3_in 17 = .ok (.iconst 0, 1) := zd_at zo_cX3_in_0 10 rfl
theorem dX3_in_18 : decode cX3_in 18 = .ok (.ireturn, 1) := zd_at zo_cX3_in_0 11 rfl
def zl_cX3_copyState_0 : List (Nat × Instr × Nat) := [(0, .iconst 0, 1), (1, .istore 4, 2), (3, .iload 4, 2), (5, .sipush 380, 3), (8, .if_icmp .ge 21, 3), (11, .aload_n 2, 1), (12, .iload_n 3, 1), (13, .iload 4, 2), (15, .iadd, 1), (16, .aload_n 0, 1), (17, .iload_n 1, 1), (18, .iload 4, 2), (20, .iadd, 1), (21, .iaload, 1), (22, .iastore, 1), (23, .iinc 4 1, 3), (26, .goto (-23), 3), (29, .return_, 1)]
theorem zo_cX3_copyState_0 : zd_ok cX3_copyState zl_cX3_copyState_0 = true := by decide +kernel
theorem dX3_copyState_0 : decode cX3_copyState 0 = .ok (.iconst 0, 1) := zd_at zo_cX3_copyState_0 0 rfl
theorem dX3_copyState_1 : decode cX3_copyState 1 = .ok (.istore 4, 2) := zd_at zo_cX3_copyState_0 1 rfl
theorem dX3_copyState_3 : decode cX3_copyState 3 = .ok (.iload 4, 2) := zd_at zo_cX3_copyState_0 2 rfl
theorem dX3_copyState_5 : decode cX3_copyState 5 = .ok (.sipush 380, 3) := zd_at zo_cX3_copyState_0 3 rfl
theorem dX3_copyState_8 : decode cX3_copyState 8 = .ok (.if_icmp .ge 21, 3) := zd_at zo_cX3_copyState_0 4 rfl
theorem dX3_copyState_11 : decode cX3_copyState 11 = .ok (.aload_n 2, 1) := zd_at zo_cX3_copyState_0 5 rfl
theorem dX3_copyState_12 : decode cX3_copyState 12 = .ok (.iload_n 3, 1) := zd_at zo_cX3_copyState_0 6 rfl
theorem dX3_copyState_13 : decode cX3_copyState 13 = .ok (.iload 4, 2) := zd_at zo_cX3_copyState_0 7 rfl
theorem dX3_copyState_15 : decode cX3_copyState 15 = .ok (.iadd, 1) := zd_at zo_cX3_copyState_0 8 rfl
theorem dX3_copyState_16 : decode cX3_copyState 16 = .ok (.aload_n 0, 1) := zd_at zo_cX3_copyState_0 9 rfl
theorem dX3_copyState_17 : decode cX3_copyState 17 = .ok (.iload_n 1, 1) := zd_at zo_cX3_copyState_0 10 rfl
theorem dX3_copyState_18 : decode cX3_copyState 18 = .ok (.iload 4, 2) := zd_at zo_cX3_copyState_0 11 rfl
theorem dX3_copyState_20 : decode cX3_copyState 20 = .ok (.iadd, 1) := zd_at zo_cX3_copyState_0 12 rfl
theorem dX3_copyState_21 : decode cX3_copyState 21 = .ok (.iaload, 1) := zd_at zo_cX3_copyState_0 13 rfl
theorem dX3_copyState_22 : decode cX3_copyState 22 = .ok (.iastore, 1) := zd_at zo_cX3_copyState_0 14 rfl
theorem dX3_copyState_23 : decode cX3_copyState 23 = .ok (.iinc 4 1, 3) := zd_at zo_cX3_copyState_0 15 rfl
theorem dX3_copyState_26 : decode cX3_copyState 26 = .ok (.goto (-23), 3) := zd_at zo_cX3_copyState_0 16 rfl
theorem dX3_copyState_29 : decode cX3_copyState 29 = .ok (.return_, 1) := zd_at zo_cX3_copyState_0 17 rfl
def zl_cX3_at_0 : List (Nat × Instr × Nat) := [(0, .bipush 120, 2), (2, .bipush 8, 2), (4, .iload_n 0, 1), (5, .imul, 1), (6, .iadd, 1), (7, .ireturn, 1)]
theorem zo_cX3_at_0 : zd_ok cX3_at zl_cX3_at_0 = true := by decide +kernel
theorem dX3_at_0 : decode cX3_at 0 = .ok (.bipush 120, 2) := zd_at zo_cX3_at_0 0 rfl
theorem dX3_at_2 : decode cX3_at 2 = .ok (.bipush 8, 2) := zd_at zo_cX3_at_0 1 rfl
theorem dX3_at_4 : decode cX3_at 4 = .ok (.iload_n 0, 1) := zd_at zo_cX3_at_0 2 rfl
theorem dX3_at_5 : decode cX3_at 5 = .ok (.imul, 1) := zd_at zo_cX3_at_0 3 rfl
theorem dX3_at_6 : decode cX3_at 6 = .ok (.iadd, 1) := zd_at zo_cX3_at_0 4 rfl
theorem dX3_at_7 : decode cX3_at 7 = .ok (.ireturn, 1) := zd_at zo_cX3_at_0 5 rfl
def zl_cX3_levelOf_0 : List (Nat × Instr × Nat) := [(0, .aload_n 0, 1), (1, .iload_n 1, 1), (2, .invokestatic 55, 3), (5, .iaload, 1), (6, .iconst 1, 1), (7, .isub, 1), (8, .ireturn, 1)]
theorem zo_cX3_levelOf_0 : zd_ok cX3_levelOf zl_cX3_levelOf_0 = true := by decide +kernel
theorem dX3_levelOf_0 : decode cX3_levelOf 0 = .ok (.aload_n 0, 1) := zd_at zo_cX3_levelOf_0 0 rfl
theorem dX3_levelOf_1 : decode cX3_levelOf 1 = .ok (.iload_n 1, 1) := zd_at zo_cX3_levelOf_0 1 rfl
theorem dX3_levelOf_2 : decode cX3_levelOf 2 = .ok (.invokestatic 55, 3) := zd_at zo_cX3_levelOf_0 2 rfl
theorem dX3_levelOf_5 : decode cX3_levelOf 5 = .ok (.iaload, 1) := zd_at zo_cX3_levelOf_0 3 rfl
theorem dX3_levelOf_6 : decode cX3_levelOf 6 = .ok (.iconst 1, 1) := zd_at zo_cX3_levelOf_0 4 rfl
theorem dX3_levelOf_7 : decode cX3_levelOf 7 = .ok (.isub, 1) := zd_at zo_cX3_levelOf_0 5 rfl
theorem dX3_levelOf_8 : decode cX3_levelOf 8 = .ok (.ireturn, 1) := zd_at zo_cX3_levelOf_0 6 rfl
def zl_cX3_many_0 : List (Nat × Instr × Nat) := [(0, .aload_n 0, 1), (1, .iload_n 1, 1), (2, .invokestatic 55, 3), (5, .iconst 1, 1), (6, .iadd, 1), (7, .iaload, 1), (8, .ireturn, 1)]
theorem zo_cX3_many_0 : zd_ok cX3_many zl_cX3_many_0 = true := by decide +kernel
theorem dX3_many_0 : decode cX3_many 0 = .ok (.aload_n 0, 1) := zd_at zo_cX3_many_0 0 rfl
theorem dX3_many_1 : decode cX3_many 1 = .ok (.iload_n 1, 1) := zd_at zo_cX3_many_0 1 rfl
theorem dX3_many_2 : decode cX3_many 2 = .ok (.invokestatic 55, 3) := zd_at zo_cX3_many_0 2 rfl
theorem dX3_many_5 : decode cX3_many 5 = .ok (.iconst 1, 1) := zd_at zo_cX3_many_0 3 rfl
theorem dX3_many_6 : decode cX3_many 6 = .ok (.iadd, 1) := zd_at zo_cX3_many_0 4 rfl
theorem dX3_many_7 : decode cX3_many 7 = .ok (.iaload, 1) := zd_at zo_cX3_many_0 5 rfl
theorem dX3_many_8 : decode cX3_many 8 = .ok (.ireturn, 1) := zd_at zo_cX3_many_0 6 rfl
def zl_cX3_entryOf_0 : List (Nat × Instr × Nat) := [(0, .aload_n 0, 1), (1, .iload_n 1, 1), (2, .invokestatic 55, 3), (5, .iconst 2, 1), (6, .iadd, 1), (7, .iload_n 2, 1), (8, .iadd, 1), (9, .iaload, 1), (10, .ireturn, 1)]
theorem zo_cX3_entryOf_0 : zd_ok cX3_entryOf zl_cX3_entryOf_0 = true := by decide +kernel
theorem dX3_entryOf_0 : decode cX3_entryOf 0 = .ok (.aload_n 0, 1) := zd_at zo_cX3_entryOf_0 0 rfl
theorem dX3_entryOf_1 : decode cX3_entryOf 1 = .ok (.iload_n 1, 1) := zd_at zo_cX3_entryOf_0 1 rfl
theorem dX3_entryOf_2 : decode cX3_entryOf 2 = .ok (.invokestatic 55, 3) := zd_at zo_cX3_entryOf_0 2 rfl
theorem dX3_entryOf_5 : decode cX3_entryOf 5 = .ok (.iconst 2, 1) := zd_at zo_cX3_entryOf_0 3 rfl
theorem dX3_entryOf_6 : decode cX3_entryOf 6 = .ok (.iadd, 1) := zd_at zo_cX3_entryOf_0 4 rfl
theorem dX3_entryOf_7 : decode cX3_entryOf 7 = .ok (.iload_n 2, 1) := zd_at zo_cX3_entryOf_0 5 rfl
theorem dX3_entryOf_8 : decode cX3_entryOf 8 = .ok (.iadd, 1) := zd_at zo_cX3_entryOf_0 6 rfl
theorem dX3_entryOf_9 : decode cX3_entryOf 9 = .ok (.iaload, 1) := zd_at zo_cX3_entryOf_0 7 rfl
theorem dX3_entryOf_10 : decode cX3_entryOf 10 = .ok (.ireturn, 1) := zd_at zo_cX3_entryOf_0 8 rfl
def zl_cX3_isThere_0 : List (Nat × Instr × Nat) := [(0, .iload_n 1, 1), (1, .i2l, 1), (2, .lconst 0, 1), (3, .ldc2_w 59, 3), (6, .invokestatic 61, 3), (9, .ifCond .eq 16, 3), (12, .aload_n 0, 1), (13, .iconst 5, 1), (14, .iload_n 1, 1), (15, .imul, 1), (16, .iaload, 1), (17, .iconst 1, 1), (18, .if_icmp .ne 7, 3), (21, .iconst 1, 1), (22, .goto 4, 3), (25, .iconst 0, 1), (26, .ireturn, 1)]
theorem zo_cX3_isThere_0 : zd_ok cX3_isThere zl_cX3_isThere_0 = true := by decide +kernel
theorem dX3_isThere_0 : decode cX3_isThere 0 = .ok (.iload_n 1, 1) := zd_at zo_cX3_isThere_0 0 rfl
theorem dX3_isThere_1 : decode cX3_isThere 1 = .ok (.i2l, 1) := zd_at zo_cX3_isThere_0 1 rfl
theorem dX3_isThere_2 : decode cX3_isThere 2 = .ok (.lconst 0, 1) := zd_at zo_cX3_isThere_0 2 rfl
theorem dX3_isThere_3 : decode cX3_isThere 3 = .ok (.ldc2_w 59, 3) := zd_at zo_cX3_isThere_0 3 rfl
theorem dX3_isThere_6 : decode cX3_isThere 6 = .ok (.invokestatic 61, 3) := zd_at zo_cX3_isThere_0 4 rfl
theorem dX3_isThere_9 : decode cX3_isThere 9 = .ok (.ifCond .eq 16, 3) := zd_at zo_cX3_isThere_0 5 rfl
theorem dX3_isThere_12 : decode cX3_isThere 12 = .ok (.aload_n 0, 1) := zd_at zo_cX3_isThere_0 6 rfl
theorem dX3_isThere_13 : decode cX3_isThere 13 = .ok (.iconst 5, 1) := zd_at zo_cX3_isThere_0 7 rfl
theorem dX3_isThere_14 : decode cX3_isThere 14 = .ok (.iload_n 1, 1) := zd_at zo_cX3_isThere_0 8 rfl
theorem dX3_isThere_15 : decode cX3_isThere 15 = .ok (.imul, 1) := zd_at zo_cX3_isThere_0 9 rfl
theorem dX3_isThere_16 : decode cX3_isThere 16 = .ok (.iaload, 1) := zd_at zo_cX3_isThere_0 10 rfl
theorem dX3_isThere_17 : decode cX3_isThere 17 = .ok (.iconst 1, 1) := zd_at zo_cX3_isThere_0 11 rfl
theorem dX3_isThere_18 : decode cX3_isThere 18 = .ok (.if_icmp .ne 7, 3) := zd_at zo_cX3_isThere_0 12 rfl
theorem dX3_isThere_21 : decode cX3_isThere 21 = .ok (.iconst 1, 1) := zd_at zo_cX3_isThere_0 13 rfl
theorem dX3_isThere_22 : decode cX3_isThere 22 = .ok (.goto 4, 3) := zd_at zo_cX3_isThere_0 14 rfl
theorem dX3_isThere_25 : decode cX3_isThere 25 = .ok (.iconst 0, 1) := zd_at zo_cX3_isThere_0 15 rfl
theorem dX3_isThere_26 : decode cX3_isThere 26 = .ok (.ireturn, 1) := zd_at zo_cX3_isThere_0 16 rfl
def zl_cX3_count_0 : List (Nat × Instr × Nat) := [(0, .iconst 0, 1), (1, .istore_n 1, 1), (2, .iconst 0, 1), (3, .istore_n 2, 1), (4, .iload_n 2, 1), (5, .bipush 24, 2), (7, .if_icmp .ge 17, 3), (10, .iload_n 1, 1), (11, .aload_n 0, 1), (12, .iconst 5, 1), (13, .iload_n 2, 1), (14, .imul, 1), (15, .iaload, 1), (16, .iadd, 1), (17, .istore_n 1, 1), (18, .iinc 2 1, 3), (21, .goto (-17), 3), (24, .iload_n 1, 1), (25, .ireturn, 1)]
theorem zo_cX3_count_0 : zd_ok cX3_count zl_cX3_count_0 = true := by decide +kernel
theorem dX3_count_0 : decode cX3_count 0 = .ok (.iconst 0, 1) := zd_at zo_cX3_count_0 0 rfl
theorem dX3_count_1 : decode cX3_count 1 = .ok (.istore_n 1, 1) := zd_at zo_cX3_count_0 1 rfl
theorem dX3_count_2 : decode cX3_count 2 = .ok (.iconst 0, 1) := zd_at zo_cX3_count_0 2 rfl
theorem dX3_count_3 : decode cX3_count 3 = .ok (.istore_n 2, 1) := zd_at zo_cX3_count_0 3 rfl
theorem dX3_count_4 : decode cX3_count 4 = .ok (.iload_n 2, 1) := zd_at zo_cX3_count_0 4 rfl
theorem dX3_count_5 : decode cX3_count 5 = .ok (.bipush 24, 2) := zd_at zo_cX3_count_0 5 rfl
theorem dX3_count_7 : decode cX3_count 7 = .ok (.if_icmp .ge 17, 3) := zd_at zo_cX3_count_0 6 rfl
theorem dX3_count_10 : decode cX3_count 10 = .ok (.iload_n 1, 1) := zd_at zo_cX3_count_0 7 rfl
theorem dX3_count_11 : decode cX3_count 11 = .ok (.aload_n 0, 1) := zd_at zo_cX3_count_0 8 rfl
theorem dX3_count_12 : decode cX3_count 12 = .ok (.iconst 5, 1) := zd_at zo_cX3_count_0 9 rfl
theorem dX3_count_13 : decode cX3_count 13 = .ok (.iload_n 2, 1) := zd_at zo_cX3_count_0 10 rfl
theorem dX3_count_14 : decode cX3_count 14 = .ok (.imul, 1) := zd_at zo_cX3_count_0 11 rfl
theorem dX3_count_15 : decode cX3_count 15 = .ok (.iaload, 1) := zd_at zo_cX3_count_0 12 rfl
theorem dX3_count_16 : decode cX3_count 16 = .ok (.iadd, 1) := zd_at zo_cX3_count_0 13 rfl
theorem dX3_count_17 : decode cX3_count 17 = .ok (.istore_n 1, 1) := zd_at zo_cX3_count_0 14 rfl
theorem dX3_count_18 : decode cX3_count 18 = .ok (.iinc 2 1, 3) := zd_at zo_cX3_count_0 15 rfl
theorem dX3_count_21 : decode cX3_count 21 = .ok (.goto (-17), 3) := zd_at zo_cX3_count_0 16 rfl
theorem dX3_count_24 : decode cX3_count 24 = .ok (.iload_n 1, 1) := zd_at zo_cX3_count_0 17 rfl
theorem dX3_count_25 : decode cX3_count 25 = .ok (.ireturn, 1) := zd_at zo_cX3_count_0 18 rfl
def zl_cX3_nodes_0 : List (Nat × Instr × Nat) := [(0, .iconst 0, 1), (1, .istore_n 1, 1), (2, .iconst 0, 1), (3, .istore_n 2, 1), (4, .iload_n 2, 1), (5, .bipush 32, 2), (7, .if_icmp .ge 26, 3), (10, .iload_n 1, 1), (11, .aload_n 0, 1), (12, .iload_n 2, 1), (13, .invokestatic 55, 3), (16, .iaload, 1), (17, .ifCond .le 7, 3), (20, .iconst 1, 1), (21, .goto 4, 3), (24, .iconst 0, 1), (25, .iadd, 1), (26, .istore_n 1, 1), (27, .iinc 2 1, 3), (30, .goto (-26), 3), (33, .iload_n 1, 1), (34, .ireturn, 1)]
theorem zo_cX3_nodes_0 : zd_ok cX3_nodes zl_cX3_nodes_0 = true := by decide +kernel
theorem dX3_nodes_0 : decode cX3_nodes 0 = .ok (.iconst 0, 1) := zd_at zo_cX3_nodes_0 0 rfl
theorem dX3_nodes_1 : decode cX3_nodes 1 = .ok (.istore_n 1, 1) := zd_at zo_cX3_nodes_0 1 rfl
theorem dX3_nodes_2 : decode cX3_nodes 2 = .ok (.iconst 0, 1) := zd_at zo_cX3_nodes_0 2 rfl
theorem dX3_nodes_3 : decode cX3_nodes 3 = .ok (.istore_n 2, 1) := zd_at zo_cX3_nodes_0 3 rfl
theorem dX3_nodes_4 : decode cX3_nodes 4 = .ok (.iload_n 2, 1) := zd_at zo_cX3_nodes_0 4 rfl
theorem dX3_nodes_5 : decode cX3_nodes 5 = .ok (.bipush 32, 2) := zd_at zo_cX3_nodes_0 5 rfl
theorem dX3_nodes_7 : decode cX3_nodes 7 = .ok (.if_icmp .ge 26, 3) := zd_at zo_cX3_nodes_0 6 rfl
theorem dX3_nodes_10 : decode cX3_nodes 10 = .ok (.iload_n 1, 1) := zd_at zo_cX3_nodes_0 7 rfl
theorem dX3_nodes_11 : decode cX3_nodes 11 = .ok (.aload_n 0, 1) := zd_at zo_cX3_nodes_0 8 rfl
theorem dX3_nodes_12 : decode cX3_nodes 12 = .ok (.iload_n 2, 1) := zd_at zo_cX3_nodes_0 9 rfl
theorem dX3_nodes_13 : decode cX3_nodes 13 = .ok (.invokestatic 55, 3) := zd_at zo_cX3_nodes_0 10 rfl
theorem dX3_nodes_16 : decode cX3_nodes 16 = .ok (.iaload, 1) := zd_at zo_cX3_nodes_0 11 rfl
theorem dX3_nodes_17 : decode cX3_nodes 17 = .ok (.ifCond .le 7, 3) := zd_at zo_cX3_nodes_0 12 rfl
theorem dX3_nodes_20 : decode cX3_nodes 20 = .ok (.iconst 1, 1) := zd_at zo_cX3_nodes_0 13 rfl
theorem dX3_nodes_21 : decode cX3_nodes 21 = .ok (.goto 4, 3) := zd_at zo_cX3_nodes_0 14 rfl
theorem dX3_nodes_24 : decode cX3_nodes 24 = .ok (.iconst 0, 1) := zd_at zo_cX3_nodes_0 15 rfl
theorem dX3_nodes_25 : decode cX3_nodes 25 = .ok (.iadd, 1) := zd_at zo_cX3_nodes_0 16 rfl
theorem dX3_nodes_26 : decode cX3_nodes 26 = .ok (.istore_n 1, 1) := zd_at zo_cX3_nodes_0 17 rfl
theorem dX3_nodes_27 : decode cX3_nodes 27 = .ok (.iinc 2 1, 3) := zd_at zo_cX3_nodes_0 18 rfl
theorem dX3_nodes_30 : decode cX3_nodes 30 = .ok (.goto (-26), 3) := zd_at zo_cX3_nodes_0 19 rfl
theorem dX3_nodes_33 : decode cX3_nodes 33 = .ok (.iload_n 1, 1) := zd_at zo_cX3_nodes_0 20 rfl
theorem dX3_nodes_34 : decode cX3_nodes 34 = .ok (.ireturn, 1) := zd_at zo_cX3_nodes_0 21 rfl
def zl_cX3_nodeWith_0 : List (Nat × Instr × Nat) := [(0, .iconst 0, 1), (1, .istore_n 2, 1), (2, .iload_n 2, 1), (3, .bipush 32, 2), (5, .if_icmp .ge 87, 3), (8, .aload_n 0, 1), (9, .iload_n 2, 1), (10, .invokestatic 55, 3), (13, .iaload, 1), (14, .ifCond .le 34, 3), (17, .aload_n 0, 1), (18, .iload_n 2, 1), (19, .invokestatic 65, 3), (22, .ifCond .ne 7, 3), (25, .iconst 1, 1), (26, .goto 4, 3), (29, .iconst 0, 1), (30, .iload_n 1, 1), (31, .bipush 24, 2), (33, .if_icmp .ge 7, 3), (36, .iconst 1, 1), (37, .goto 4, 3), (40, .iconst 0, 1), (41, .if_icmp .ne 7, 3), (44, .iconst 1, 1), (45, .goto 4, 3), (48, .iconst 0, 1), (49, .istore_n 3, 1), (50, .iconst 0, 1), (51, .istore 4, 2), (53, .iload 4, 2), (55, .aload_n 0, 1), (56, .iload_n 2, 1), (57, .invokestatic 69, 3), (60, .if_icmp .ge 26, 3), (63, .iload_n 3, 1), (64, .ifCond .eq 22, 3), (67, .aload_n 0, 1), (68, .iload_n 2, 1), (69, .iload 4, 2), (71, .invokestatic 72, 3), (74, .iload_n 1, 1), (75, .if_icmp .ne 5, 3), (78, .iload_n 2, 1), (79, .ireturn, 1), (80, .iinc 4 1, 3), (83, .goto (-30), 3), (86, .iinc 2 1, 3), (89, .goto (-87), 3), (92, .iconst (-1), 1), (93, .ireturn, 1)]
theorem zo_cX3_nodeWith_0 : zd_ok cX3_nodeWith zl_cX3_nodeWith_0 = true := by decide +kernel
theorem dX3_nodeWith_0 : decode cX3_nodeWith 0 = .ok (.iconst 0, 1) := zd_at zo_cX3_nodeWith_0 0 rfl
theorem dX3_nodeWith_1 : decode cX3_nodeWith 1 = .ok (.istore_n 2, 1) := zd_at zo_cX3_nodeWith_0 1 rfl
theorem dX3_nodeWith_2 : decode cX3_nodeWith 2 = .ok (.iload_n 2, 1) := zd_at zo_cX3_nodeWith_0 2 rfl
theorem dX3_nodeWith_3 : decode cX3_nodeWith 3 = .ok (.bipush 32, 2) := zd_at zo_cX3_nodeWith_0 3 rfl
theorem dX3_nodeWith_5 : decode cX3_nodeWith 5 = .ok (.if_icmp .ge 87, 3) := zd_at zo_cX3_nodeWith_0 4 rfl
theorem dX3_nodeWith_8 : decode cX3_nodeWith 8 = .ok (.aload_n 0, 1) := zd_at zo_cX3_nodeWith_0 5 rfl
theorem dX3_nodeWith_9 : decode cX3_nodeWith 9 = .ok (.iload_n 2, 1) := zd_at zo_cX3_nodeWith_0 6 rfl
theorem dX3_nodeWith_10 : decode cX3_nodeWith 10 = .ok (.invokestatic 55, 3) := zd_at zo_cX3_nodeWith_0 7 rfl
theorem dX3_nodeWith_13 : decode cX3_nodeWith 13 = .ok (.iaload, 1) := zd_at zo_cX3_nodeWith_0 8 rfl
theorem dX3_nodeWith_14 : decode cX3_nodeWith 14 = .ok (.ifCond .le 34, 3) := zd_at zo_cX3_nodeWith_0 9 rfl
theorem dX3_nodeWith_17 : decode cX3_nodeWith 17 = .ok (.aload_n 0, 1) := zd_at zo_cX3_nodeWith_0 10 rfl
theorem dX3_nodeWith_18 : decode cX3_nodeWith 18 = .ok (.iload_n 2, 1) := zd_at zo_cX3_nodeWith_0 11 rfl
theorem dX3_nodeWith_19 : decode cX3_nodeWith 19 = .ok (.invokestatic 65, 3) := zd_at zo_cX3_nodeWith_0 12 rfl
theorem dX3_nodeWith_22 : decode cX3_nodeWith 22 = .ok (.ifCond .ne 7, 3) := zd_at zo_cX3_nodeWith_0 13 rfl
theorem dX3_nodeWith_25 : decode cX3_nodeWith 25 = .ok (.iconst 1, 1) := zd_at zo_cX3_nodeWith_0 14 rfl
theorem dX3_nodeWith_26 : decode cX3_nodeWith 26 = .ok (.goto 4, 3) := zd_at zo_cX3_nodeWith_0 15 rfl
theorem dX3_nodeWith_29 : decode cX3_nodeWith 29 = .ok (.iconst 0, 1) := zd_at zo_cX3_nodeWith_0 16 rfl
theorem dX3_nodeWith_30 : decode cX3_nodeWith 30 = .ok (.iload_n 1, 1) := zd_at zo_cX3_nodeWith_0 17 rfl
theorem dX3_nodeWith_31 : decode cX3_nodeWith 31 = .ok (.bipush 24, 2) := zd_at zo_cX3_nodeWith_0 18 rfl
theorem dX3_nodeWith_33 : decode cX3_nodeWith 33 = .ok (.if_icmp .ge 7, 3) := zd_at zo_cX3_nodeWith_0 19 rfl
theorem dX3_nodeWith_36 : decode cX3_nodeWith 36 = .ok (.iconst 1, 1) := zd_at zo_cX3_nodeWith_0 20 rfl
theorem dX3_nodeWith_37 : decode cX3_nodeWith 37 = .ok (.goto 4, 3) := zd_at zo_cX3_nodeWith_0 21 rfl
theorem dX3_nodeWith_40 : decode cX3_nodeWith 40 = .ok (.iconst 0, 1) := zd_at zo_cX3_nodeWith_0 22 rfl
theorem dX3_nodeWith_41 : decode cX3_nodeWith 41 = .ok (.if_icmp .ne 7, 3) := zd_at zo_cX3_nodeWith_0 23 rfl
theorem dX3_nodeWith_44 : decode cX3_nodeWith 44 = .ok (.iconst 1, 1) := zd_at zo_cX3_nodeWith_0 24 rfl
theorem dX3_nodeWith_45 : decode cX3_nodeWith 45 = .ok (.goto 4, 3) := zd_at zo_cX3_nodeWith_0 25 rfl
theorem dX3_nodeWith_48 : decode cX3_nodeWith 48 = .ok (.iconst 0, 1) := zd_at zo_cX3_nodeWith_0 26 rfl
theorem dX3_nodeWith_49 : decode cX3_nodeWith 49 = .ok (.istore_n 3, 1) := zd_at zo_cX3_nodeWith_0 27 rfl
theorem dX3_nodeWith_50 : decode cX3_nodeWith 50 = .ok (.iconst 0, 1) := zd_at zo_cX3_nodeWith_0 28 rfl
theorem dX3_nodeWith_51 : decode cX3_nodeWith 51 = .ok (.istore 4, 2) := zd_at zo_cX3_nodeWith_0 29 rfl
theorem dX3_nodeWith_53 : decode cX3_nodeWith 53 = .ok (.iload 4, 2) := zd_at zo_cX3_nodeWith_0 30 rfl
theorem dX3_nodeWith_55 : decode cX3_nodeWith 55 = .ok (.aload_n 0, 1) := zd_at zo_cX3_nodeWith_0 31 rfl
theorem dX3_nodeWith_56 : decode cX3_nodeWith 56 = .ok (.iload_n 2, 1) := zd_at zo_cX3_nodeWith_0 32 rfl
theorem dX3_nodeWith_57 : decode cX3_nodeWith 57 = .ok (.invokestatic 69, 3) := zd_at zo_cX3_nodeWith_0 33 rfl
theorem dX3_nodeWith_60 : decode cX3_nodeWith 60 = .ok (.if_icmp .ge 26, 3) := zd_at zo_cX3_nodeWith_0 34 rfl
theorem dX3_nodeWith_63 : decode cX3_nodeWith 63 = .ok (.iload_n 3, 1) := zd_at zo_cX3_nodeWith_0 35 rfl
theorem dX3_nodeWith_64 : decode cX3_nodeWith 64 = .ok (.ifCond .eq 22, 3) := zd_at zo_cX3_nodeWith_0 36 rfl
theorem dX3_nodeWith_67 : decode cX3_nodeWith 67 = .ok (.aload_n 0, 1) := zd_at zo_cX3_nodeWith_0 37 rfl
theorem dX3_nodeWith_68 : decode cX3_nodeWith 68 = .ok (.iload_n 2, 1) := zd_at zo_cX3_nodeWith_0 38 rfl
theorem dX3_nodeWith_69 : decode cX3_nodeWith 69 = .ok (.iload 4, 2) := zd_at zo_cX3_nodeWith_0 39 rfl
theorem dX3_nodeWith_71 : decode cX3_nodeWith 71 = .ok (.invokestatic 72, 3) := zd_at zo_cX3_nodeWith_0 40 rfl
theorem dX3_nodeWith_74 : decode cX3_nodeWith 74 = .ok (.iload_n 1, 1) := zd_at zo_cX3_nodeWith_0 41 rfl
theorem dX3_nodeWith_75 : decode cX3_nodeWith 75 = .ok (.if_icmp .ne 5, 3) := zd_at zo_cX3_nodeWith_0 42 rfl
theorem dX3_nodeWith_78 : decode cX3_nodeWith 78 = .ok (.iload_n 2, 1) := zd_at zo_cX3_nodeWith_0 43 rfl
theorem dX3_nodeWith_79 : decode cX3_nodeWith 79 = .ok (.ireturn, 1) := zd_at zo_cX3_nodeWith_0 44 rfl
theorem dX3_nodeWith_80 : decode cX3_nodeWith 80 = .ok (.iinc 4 1, 3) := zd_at zo_cX3_nodeWith_0 45 rfl
theorem dX3_nodeWith_83 : decode cX3_nodeWith 83 = .ok (.goto (-30), 3) := zd_at zo_cX3_nodeWith_0 46 rfl
theorem dX3_nodeWith_86 : decode cX3_nodeWith 86 = .ok (.iinc 2 1, 3) := zd_at zo_cX3_nodeWith_0 47 rfl
theorem dX3_nodeWith_89 : decode cX3_nodeWith 89 = .ok (.goto (-87), 3) := zd_at zo_cX3_nodeWith_0 48 rfl
theorem dX3_nodeWith_92 : decode cX3_nodeWith 92 = .ok (.iconst (-1), 1) := zd_at zo_cX3_nodeWith_0 49 rfl
theorem dX3_nodeWith_93 : decode cX3_nodeWith 93 = .ok (.ireturn, 1) := zd_at zo_cX3_nodeWith_0 50 rfl
def zl_cX3_insert_0 : List (Nat × Instr × Nat) := [(0, .iload_n 1, 1), (1, .invokestatic 55, 3), (4, .iconst 2, 1), (5, .iadd, 1), (6, .istore 4, 2), (8, .aload_n 0, 1), (9, .iload_n 1, 1), (10, .invokestatic 69, 3), (13, .istore 5, 2), (15, .iload 5, 2), (17, .iload_n 2, 1), (18, .if_icmp .le 25, 3), (21, .aload_n 0, 1), (22, .iload 4, 2), (24, .iload 5, 2), (26, .iadd, 1), (27, .aload_n 0, 1), (28, .iload 4, 2), (30, .iload 5, 2), (32, .iadd, 1), (33, .iconst 1, 1), (34, .isub, 1), (35, .iaload, 1), (36, .iastore, 1), (37, .iinc 5 (-1), 3), (40, .goto (-25), 3), (43, .aload_n 0, 1), (44, .iload 4, 2), (46, .iload_n 2, 1), (47, .iadd, 1), (48, .iload_n 3, 1), (49, .iastore, 1), (50, .aload_n 0, 1), (51, .iload_n 1, 1), (52, .invokestatic 55, 3), (55, .iconst 1, 1), (56, .iadd, 1), (57, .dup2, 1), (58, .iaload, 1), (59, .iconst 1, 1), (60, .iadd, 1), (61, .iastore, 1), (62, .return_, 1)]
theorem zo_cX3_insert_0 : zd_ok cX3_insert zl_cX3_insert_0 = true := by decide +kernel
theorem dX3_insert_0 : decode cX3_insert 0 = .ok (.iload_n 1, 1) := zd_at zo_cX3_insert_0 0 rfl
theorem dX3_insert_1 : decode cX3_insert 1 = .ok (.invokestatic 55, 3) := zd_at zo_cX3_insert_0 1 rfl
theorem dX3_insert_4 : decode cX3_insert 4 = .ok (.iconst 2, 1) := zd_at zo_cX3_insert_0 2 rfl
theorem dX3_insert_5 : decode cX3_insert 5 = .ok (.iadd, 1) := zd_at zo_cX3_insert_0 3 rfl
theorem dX3_insert_6 : decode cX3_insert 6 = .ok (.istore 4, 2) := zd_at zo_cX3_insert_0 4 rfl
theorem dX3_insert_8 : decode cX3_insert 8 = .ok (.aload_n 0, 1) := zd_at zo_cX3_insert_0 5 rfl
theorem dX3_insert_9 : decode cX3_insert 9 = .ok (.iload_n 1, 1) := zd_at zo_cX3_insert_0 6 rfl
theorem dX3_insert_10 : decode cX3_insert 10 = .ok (.invokestatic 69, 3) := zd_at zo_cX3_insert_0 7 rfl
theorem dX3_insert_13 : decode cX3_insert 13 = .ok (.istore 5, 2) := zd_at zo_cX3_insert_0 8 rfl
theorem dX3_insert_15 : decode cX3_insert 15 = .ok (.iload 5, 2) := zd_at zo_cX3_insert_0 9 rfl
theorem dX3_insert_17 : decode cX3_insert 17 = .ok (.iload_n 2, 1) := zd_at zo_cX3_insert_0 10 rfl
theorem dX3_insert_18 : decode cX3_insert 18 = .ok (.if_icmp .le 25, 3) := zd_at zo_cX3_insert_0 11 rfl
theorem dX3_insert_21 : decode cX3_insert 21 = .ok (.aload_n 0, 1) := zd_at zo_cX3_insert_0 12 rfl
theorem dX3_insert_22 : decode cX3_insert 22 = .ok (.iload 4, 2) := zd_at zo_cX3_insert_0 13 rfl
theorem dX3_insert_24 : decode cX3_insert 24 = .ok (.iload 5, 2) := zd_at zo_cX3_insert_0 14 rfl
theorem dX3_insert_26 : decode cX3_insert 26 = .ok (.iadd, 1) := zd_at zo_cX3_insert_0 15 rfl
theorem dX3_insert_27 : decode cX3_insert 27 = .ok (.aload_n 0, 1) := zd_at zo_cX3_insert_0 16 rfl
theorem dX3_insert_28 : decode cX3_insert 28 = .ok (.iload 4, 2) := zd_at zo_cX3_insert_0 17 rfl
theorem dX3_insert_30 : decode cX3_insert 30 = .ok (.iload 5, 2) := zd_at zo_cX3_insert_0 18 rfl
theorem dX3_insert_32 : decode cX3_insert 32 = .ok (.iadd, 1) := zd_at zo_cX3_insert_0 19 rfl
theorem dX3_insert_33 : decode cX3_insert 33 = .ok (.iconst 1, 1) := zd_at zo_cX3_insert_0 20 rfl
theorem dX3_insert_34 : decode cX3_insert 34 = .ok (.isub, 1) := zd_at zo_cX3_insert_0 21 rfl
theorem dX3_insert_35 : decode cX3_insert 35 = .ok (.iaload, 1) := zd_at zo_cX3_insert_0 22 rfl
theorem dX3_insert_36 : decode cX3_insert 36 = .ok (.iastore, 1) := zd_at zo_cX3_insert_0 23 rfl
theorem dX3_insert_37 : decode cX3_insert 37 = .ok (.iinc 5 (-1), 3) := zd_at zo_cX3_insert_0 24 rfl
theorem dX3_insert_40 : decode cX3_insert 40 = .ok (.goto (-25), 3) := zd_at zo_cX3_insert_0 25 rfl
theorem dX3_insert_43 : decode cX3_insert 43 = .ok (.aload_n 0, 1) := zd_at zo_cX3_insert_0 26 rfl
theorem dX3_insert_44 : decode cX3_insert 44 = .ok (.iload 4, 2) := zd_at zo_cX3_insert_0 27 rfl
theorem dX3_insert_46 : decode cX3_insert 46 = .ok (.iload_n 2, 1) := zd_at zo_cX3_insert_0 28 rfl
theorem dX3_insert_47 : decode cX3_insert 47 = .ok (.iadd, 1) := zd_at zo_cX3_insert_0 29 rfl
theorem dX3_insert_48 : decode cX3_insert 48 = .ok (.iload_n 3, 1) := zd_at zo_cX3_insert_0 30 rfl
theorem dX3_insert_49 : decode cX3_insert 49 = .ok (.iastore, 1) := zd_at zo_cX3_insert_0 31 rfl
theorem dX3_insert_50 : decode cX3_insert 50 = .ok (.aload_n 0, 1) := zd_at zo_cX3_insert_0 32 rfl
theorem dX3_insert_51 : decode cX3_insert 51 = .ok (.iload_n 1, 1) := zd_at zo_cX3_insert_0 33 rfl
theorem dX3_insert_52 : decode cX3_insert 52 = .ok (.invokestatic 55, 3) := zd_at zo_cX3_insert_0 34 rfl
theorem dX3_insert_55 : decode cX3_insert 55 = .ok (.iconst 1, 1) := zd_at zo_cX3_insert_0 35 rfl
theorem dX3_insert_56 : decode cX3_insert 56 = .ok (.iadd, 1) := zd_at zo_cX3_insert_0 36 rfl
theorem dX3_insert_57 : decode cX3_insert 57 = .ok (.dup2, 1) := zd_at zo_cX3_insert_0 37 rfl
theorem dX3_insert_58 : decode cX3_insert 58 = .ok (.iaload, 1) := zd_at zo_cX3_insert_0 38 rfl
theorem dX3_insert_59 : decode cX3_insert 59 = .ok (.iconst 1, 1) := zd_at zo_cX3_insert_0 39 rfl
theorem dX3_insert_60 : decode cX3_insert 60 = .ok (.iadd, 1) := zd_at zo_cX3_insert_0 40 rfl
theorem dX3_insert_61 : decode cX3_insert 61 = .ok (.iastore, 1) := zd_at zo_cX3_insert_0 41 rfl
theorem dX3_insert_62 : decode cX3_insert 62 = .ok (.return_, 1) := zd_at zo_cX3_insert_0 42 rfl
def zl_cX3_cutOut_0 : List (Nat × Instr × Nat) := [(0, .iload_n 1, 1), (1, .invokestatic 55, 3), (4, .iconst 2, 1), (5, .iadd, 1), (6, .istore_n 3, 1), (7, .iconst 0, 1), (8, .istore 4, 2), (10, .aload_n 0, 1), (11, .iload_n 3, 1), (12, .iload 4, 2), (14, .iadd, 1), (15, .iaload, 1), (16, .iload_n 2, 1), (17, .if_icmp .eq 9, 3), (20, .iinc 4 1, 3), (23, .goto (-13), 3), (26, .aload_n 0, 1), (27, .iload_n 1, 1), (28, .invokestatic 55, 3), (31, .iconst 1, 1), (32, .iadd, 1), (33, .dup2, 1), (34, .iaload, 1), (35, .iconst 1, 1), (36, .isub, 1), (37, .iastore, 1), (38, .iload 4, 2), (40, .istore 5, 2), (42, .iload 5, 2), (44, .aload_n 0, 1), (45, .iload_n 1, 1), (46, .invokestatic 69, 3), (49, .if_icmp .ge 23, 3), (52, .aload_n 0, 1), (53, .iload_n 3, 1), (54, .iload 5, 2), (56, .iadd, 1), (57, .aload_n 0, 1), (58, .iload_n 3, 1), (59, .iload 5, 2), (61, .iadd, 1), (62, .iconst 1, 1), (63, .iadd, 1), (64, .iaload, 1), (65, .iastore, 1), (66, .iinc 5 1, 3), (69, .goto (-27), 3), (72, .aload_n 0, 1), (73, .iload_n 3, 1), (74, .aload_n 0, 1), (75, .iload_n 1, 1), (76, .invokestatic 69, 3), (79, .iadd, 1), (80, .iconst 0, 1), (81, .iastore, 1), (82, .return_, 1)]
theorem zo_cX3_cutOut_0 : zd_ok cX3_cutOut zl_cX3_cutOut_0 = true := by decide +kernel
theorem dX3_cutOut_0 : decode cX3_cutOut 0 = .ok (.iload_n 1, 1) := zd_at zo_cX3_cutOut_0 0 rfl
theorem dX3_cutOut_1 : decode cX3_cutOut 1 = .ok (.invokestatic 55, 3) := zd_at zo_cX3_cutOut_0 1 rfl
theorem dX3_cutOut_4 : decode cX3_cutOut 4 = .ok (.iconst 2, 1) := zd_at zo_cX3_cutOut_0 2 rfl
theorem dX3_cutOut_5 : decode cX3_cutOut 5 = .ok (.iadd, 1) := zd_at zo_cX3_cutOut_0 3 rfl
theorem dX3_cutOut_6 : decode cX3_cutOut 6 = .ok (.istore_n 3, 1) := zd_at zo_cX3_cutOut_0 4 rfl
theorem dX3_cutOut_7 : decode cX3_cutOut 7 = .ok (.iconst 0, 1) := zd_at zo_cX3_cutOut_0 5 rfl
theorem dX3_cutOut_8 : decode cX3_cutOut 8 = .ok (.istore 4, 2) := zd_at zo_cX3_cutOut_0 6 rfl
theorem dX3_cutOut_10 : decode cX3_cutOut 10 = .ok (.aload_n 0, 1) := zd_at zo_cX3_cutOut_0 7 rfl
theorem dX3_cutOut_11 : decode cX3_cutOut 11 = .ok (.iload_n 3, 1) := zd_at zo_cX3_cutOut_0 8 rfl
theorem dX3_cutOut_12 : decode cX3_cutOut 12 = .ok (.iload 4, 2) := zd_at zo_cX3_cutOut_0 9 rfl
theorem dX3_cutOut_14 : decode cX3_cutOut 14 = .ok (.iadd, 1) := zd_at zo_cX3_cutOut_0 10 rfl
theorem dX3_cutOut_15 : decode cX3_cutOut 15 = .ok (.iaload, 1) := zd_at zo_cX3_cutOut_0 11 rfl
theorem dX3_cutOut_16 : decode cX3_cutOut 16 = .ok (.iload_n 2, 1) := zd_at zo_cX3_cutOut_0 12 rfl
theorem dX3_cutOut_17 : decode cX3_cutOut 17 = .ok (.if_icmp .eq 9, 3) := zd_at zo_cX3_cutOut_0 13 rfl
theorem dX3_cutOut_20 : decode cX3_cutOut 20 = .ok (.iinc 4 1, 3) := zd_at zo_cX3_cutOut_0 14 rfl
theorem dX3_cutOut_23 : decode cX3_cutOut 23 = .ok (.goto (-13), 3) := zd_at zo_cX3_cutOut_0 15 rfl
theorem dX3_cutOut_26 : decode cX3_cutOut 26 = .ok (.aload_n 0, 1) := zd_at zo_cX3_cutOut_0 16 rfl
theorem dX3_cutOut_27 : decode cX3_cutOut 27 = .ok (.iload_n 1, 1) := zd_at zo_cX3_cutOut_0 17 rfl
theorem dX3_cutOut_28 : decode cX3_cutOut 28 = .ok (.invokestatic 55, 3) := zd_at zo_cX3_cutOut_0 18 rfl
theorem dX3_cutOut_31 : decode cX3_cutOut 31 = .ok (.iconst 1, 1) := zd_at zo_cX3_cutOut_0 19 rfl
theorem dX3_cutOut_32 : decode cX3_cutOut 32 = .ok (.iadd, 1) := zd_at zo_cX3_cutOut_0 20 rfl
theorem dX3_cutOut_33 : decode cX3_cutOut 33 = .ok (.dup2, 1) := zd_at zo_cX3_cutOut_0 21 rfl
theorem dX3_cutOut_34 : decode cX3_cutOut 34 = .ok (.iaload, 1) := zd_at zo_cX3_cutOut_0 22 rfl
theorem dX3_cutOut_35 : decode cX3_cutOut 35 = .ok (.iconst 1, 1) := zd_at zo_cX3_cutOut_0 23 rfl
theorem dX3_cutOut_36 : decode cX3_cutOut 36 = .ok (.isub, 1) := zd_at zo_cX3_cutOut_0 24 rfl
theorem dX3_cutOut_37 : decode cX3_cutOut 37 = .ok (.iastore, 1) := zd_at zo_cX3_cutOut_0 25 rfl
theorem dX3_cutOut_38 : decode cX3_cutOut 38 = .ok (.iload 4, 2) := zd_at zo_cX3_cutOut_0 26 rfl
theorem dX3_cutOut_40 : decode cX3_cutOut 40 = .ok (.istore 5, 2) := zd_at zo_cX3_cutOut_0 27 rfl
theorem dX3_cutOut_42 : decode cX3_cutOut 42 = .ok (.iload 5, 2) := zd_at zo_cX3_cutOut_0 28 rfl
theorem dX3_cutOut_44 : decode cX3_cutOut 44 = .ok (.aload_n 0, 1) := zd_at zo_cX3_cutOut_0 29 rfl
theorem dX3_cutOut_45 : decode cX3_cutOut 45 = .ok (.iload_n 1, 1) := zd_at zo_cX3_cutOut_0 30 rfl
theorem dX3_cutOut_46 : decode cX3_cutOut 46 = .ok (.invokestatic 69, 3) := zd_at zo_cX3_cutOut_0 31 rfl
theorem dX3_cutOut_49 : decode cX3_cutOut 49 = .ok (.if_icmp .ge 23, 3) := zd_at zo_cX3_cutOut_0 32 rfl
theorem dX3_cutOut_52 : decode cX3_cutOut 52 = .ok (.aload_n 0, 1) := zd_at zo_cX3_cutOut_0 33 rfl
theorem dX3_cutOut_53 : decode cX3_cutOut 53 = .ok (.iload_n 3, 1) := zd_at zo_cX3_cutOut_0 34 rfl
theorem dX3_cutOut_54 : decode cX3_cutOut 54 = .ok (.iload 5, 2) := zd_at zo_cX3_cutOut_0 35 rfl
theorem dX3_cutOut_56 : decode cX3_cutOut 56 = .ok (.iadd, 1) := zd_at zo_cX3_cutOut_0 36 rfl
theorem dX3_cutOut_57 : decode cX3_cutOut 57 = .ok (.aload_n 0, 1) := zd_at zo_cX3_cutOut_0 37 rfl
theorem dX3_cutOut_58 : decode cX3_cutOut 58 = .ok (.iload_n 3, 1) := zd_at zo_cX3_cutOut_0 38 rfl
theorem dX3_cutOut_59 : decode cX3_cutOut 59 = .ok (.iload 5, 2) := zd_at zo_cX3_cutOut_0 39 rfl
theorem dX3_cutOut_61 : decode cX3_cutOut 61 = .ok (.iadd, 1) := zd_at zo_cX3_cutOut_0 40 rfl
theorem dX3_cutOut_62 : decode cX3_cutOut 62 = .ok (.iconst 1, 1) := zd_at zo_cX3_cutOut_0 41 rfl
theorem dX3_cutOut_63 : decode cX3_cutOut 63 = .ok (.iadd, 1) := zd_at zo_cX3_cutOut_0 42 rfl
theorem dX3_cutOut_64 : decode cX3_cutOut 64 = .ok (.iaload, 1) := zd_at zo_cX3_cutOut_0 43 rfl
theorem dX3_cutOut_65 : decode cX3_cutOut 65 = .ok (.iastore, 1) := zd_at zo_cX3_cutOut_0 44 rfl
theorem dX3_cutOut_66 : decode cX3_cutOut 66 = .ok (.iinc 5 1, 3) := zd_at zo_cX3_cutOut_0 45 rfl
theorem dX3_cutOut_69 : decode cX3_cutOut 69 = .ok (.goto (-27), 3) := zd_at zo_cX3_cutOut_0 46 rfl
theorem dX3_cutOut_72 : decode cX3_cutOut 72 = .ok (.aload_n 0, 1) := zd_at zo_cX3_cutOut_0 47 rfl
theorem dX3_cutOut_73 : decode cX3_cutOut 73 = .ok (.iload_n 3, 1) := zd_at zo_cX3_cutOut_0 48 rfl
theorem dX3_cutOut_74 : decode cX3_cutOut 74 = .ok (.aload_n 0, 1) := zd_at zo_cX3_cutOut_0 49 rfl
theorem dX3_cutOut_75 : decode cX3_cutOut 75 = .ok (.iload_n 1, 1) := zd_at zo_cX3_cutOut_0 50 rfl
theorem dX3_cutOut_76 : decode cX3_cutOut 76 = .ok (.invokestatic 69, 3) := zd_at zo_cX3_cutOut_0 51 rfl
theorem dX3_cutOut_79 : decode cX3_cutOut 79 = .ok (.iadd, 1) := zd_at zo_cX3_cutOut_0 52 rfl
theorem dX3_cutOut_80 : decode cX3_cutOut 80 = .ok (.iconst 0, 1) := zd_at zo_cX3_cutOut_0 53 rfl
theorem dX3_cutOut_81 : decode cX3_cutOut 81 = .ok (.iastore, 1) := zd_at zo_cX3_cutOut_0 54 rfl
theorem dX3_cutOut_82 : decode cX3_cutOut 82 = .ok (.return_, 1) := zd_at zo_cX3_cutOut_0 55 rfl
def zl_cX3_newSlot_0 : List (Nat × Instr × Nat) := [(0, .iconst 0, 1), (1, .istore_n 2, 1), (2, .aload_n 0, 1), (3, .iload_n 2, 1), (4, .invokestatic 55, 3), (7, .iaload, 1), (8, .ifCond .le 9, 3), (11, .iinc 2 1, 3), (14, .goto (-12), 3), (17, .aload_n 0, 1), (18, .iload_n 2, 1), (19, .invokestatic 76, 3), (22, .aload_n 0, 1), (23, .iload_n 2, 1), (24, .invokestatic 55, 3), (27, .iload_n 1, 1), (28, .iconst 1, 1), (29, .iadd, 1), (30, .iastore, 1), (31, .iload_n 2, 1), (32, .ireturn, 1)]
theorem zo_cX3_newSlot_0 : zd_ok cX3_newSlot zl_cX3_newSlot_0 = true := by decide +kernel
theorem dX3_newSlot_0 : decode cX3_newSlot 0 = .ok (.iconst 0, 1) := zd_at zo_cX3_newSlot_0 0 rfl
theorem dX3_newSlot_1 : decode cX3_newSlot 1 = .ok (.istore_n 2, 1) := zd_at zo_cX3_newSlot_0 1 rfl
theorem dX3_newSlot_2 : decode cX3_newSlot 2 = .ok (.aload_n 0, 1) := zd_at zo_cX3_newSlot_0 2 rfl
theorem dX3_newSlot_3 : decode cX3_newSlot 3 = .ok (.iload_n 2, 1) := zd_at zo_cX3_newSlot_0 3 rfl
theorem dX3_newSlot_4 : decode cX3_newSlot 4 = .ok (.invokestatic 55, 3) := zd_at zo_cX3_newSlot_0 4 rfl
theorem dX3_newSlot_7 : decode cX3_newSlot 7 = .ok (.iaload, 1) := zd_at zo_cX3_newSlot_0 5 rfl
theorem dX3_newSlot_8 : decode cX3_newSlot 8 = .ok (.ifCond .le 9, 3) := zd_at zo_cX3_newSlot_0 6 rfl
theorem dX3_newSlot_11 : decode cX3_newSlot 11 = .ok (.iinc 2 1, 3) := zd_at zo_cX3_newSlot_0 7 rfl
theorem dX3_newSlot_14 : decode cX3_newSlot 14 = .ok (.goto (-12), 3) := zd_at zo_cX3_newSlot_0 8 rfl
theorem dX3_newSlot_17 : decode cX3_newSlot 17 = .ok (.aload_n 0, 1) := zd_at zo_cX3_newSlot_0 9 rfl
theorem dX3_newSlot_18 : decode cX3_newSlot 18 = .ok (.iload_n 2, 1) := zd_at zo_cX3_newSlot_0 10 rfl
theorem dX3_newSlot_19 : decode cX3_newSlot 19 = .ok (.invokestatic 76, 3) := zd_at zo_cX3_newSlot_0 11 rfl
theorem dX3_newSlot_22 : decode cX3_newSlot 22 = .ok (.aload_n 0, 1) := zd_at zo_cX3_newSlot_0 12 rfl
theorem dX3_newSlot_23 : decode cX3_newSlot 23 = .ok (.iload_n 2, 1) := zd_at zo_cX3_newSlot_0 13 rfl
theorem dX3_newSlot_24 : decode cX3_newSlot 24 = .ok (.invokestatic 55, 3) := zd_at zo_cX3_newSlot_0 14 rfl
theorem dX3_newSlot_27 : decode cX3_newSlot 27 = .ok (.iload_n 1, 1) := zd_at zo_cX3_newSlot_0 15 rfl
theorem dX3_newSlot_28 : decode cX3_newSlot 28 = .ok (.iconst 1, 1) := zd_at zo_cX3_newSlot_0 16 rfl
theorem dX3_newSlot_29 : decode cX3_newSlot 29 = .ok (.iadd, 1) := zd_at zo_cX3_newSlot_0 17 rfl
theorem dX3_newSlot_30 : decode cX3_newSlot 30 = .ok (.iastore, 1) := zd_at zo_cX3_newSlot_0 18 rfl
theorem dX3_newSlot_31 : decode cX3_newSlot 31 = .ok (.iload_n 2, 1) := zd_at zo_cX3_newSlot_0 19 rfl
theorem dX3_newSlot_32 : decode cX3_newSlot 32 = .ok (.ireturn, 1) := zd_at zo_cX3_newSlot_0 20 rfl
def zl_cX3_clearSlot_0 : List (Nat × Instr × Nat) := [(0, .iconst 0, 1), (1, .istore_n 2, 1), (2, .iload_n 2, 1), (3, .bipush 8, 2), (5, .if_icmp .ge 18, 3), (8, .aload_n 0, 1), (9, .iload_n 1, 1), (10, .invokestatic 55, 3), (13, .iload_n 2, 1), (14, .iadd, 1), (15, .iconst 0, 1), (16, .iastore, 1), (17, .iinc 2 1, 3), (20, .goto (-18), 3), (23, .return_, 1)]
theorem zo_cX3_clearSlot_0 : zd_ok cX3_clearSlot zl_cX3_clearSlot_0 = true := by decide +kernel
theorem dX3_clearSlot_0 : decode cX3_clearSlot 0 = .ok (.iconst 0, 1) := zd_at zo_cX3_clearSlot_0 0 rfl
theorem dX3_clearSlot_1 : decode cX3_clearSlot 1 = .ok (.istore_n 2, 1) := zd_at zo_cX3_clearSlot_0 1 rfl
theorem dX3_clearSlot_2 : decode cX3_clearSlot 2 = .ok (.iload_n 2, 1) := zd_at zo_cX3_clearSlot_0 2 rfl
theorem dX3_clearSlot_3 : decode cX3_clearSlot 3 = .ok (.bipush 8, 2) := zd_at zo_cX3_clearSlot_0 3 rfl
theorem dX3_clearSlot_5 : decode cX3_clearSlot 5 = .ok (.if_icmp .ge 18, 3) := zd_at zo_cX3_clearSlot_0 4 rfl
theorem dX3_clearSlot_8 : decode cX3_clearSlot 8 = .ok (.aload_n 0, 1) := zd_at zo_cX3_clearSlot_0 5 rfl
theorem dX3_clearSlot_9 : decode cX3_clearSlot 9 = .ok (.iload_n 1, 1) := zd_at zo_cX3_clearSlot_0 6 rfl
theorem dX3_clearSlot_10 : decode cX3_clearSlot 10 = .ok (.invokestatic 55, 3) := zd_at zo_cX3_clearSlot_0 7 rfl
theorem dX3_clearSlot_13 : decode cX3_clearSlot 13 = .ok (.iload_n 2, 1) := zd_at zo_cX3_clearSlot_0 8 rfl
theorem dX3_clearSlot_14 : decode cX3_clearSlot 14 = .ok (.iadd, 1) := zd_at zo_cX3_clearSlot_0 9 rfl
theorem dX3_clearSlot_15 : decode cX3_clearSlot 15 = .ok (.iconst 0, 1) := zd_at zo_cX3_clearSlot_0 10 rfl
theorem dX3_clearSlot_16 : decode cX3_clearSlot 16 = .ok (.iastore, 1) := zd_at zo_cX3_clearSlot_0 11 rfl
theorem dX3_clearSlot_17 : decode cX3_clearSlot 17 = .ok (.iinc 2 1, 3) := zd_at zo_cX3_clearSlot_0 12 rfl
theorem dX3_clearSlot_20 : decode cX3_clearSlot 20 = .ok (.goto (-18), 3) := zd_at zo_cX3_clearSlot_0 13 rfl
theorem dX3_clearSlot_23 : decode cX3_clearSlot 23 = .ok (.return_, 1) := zd_at zo_cX3_clearSlot_0 14 rfl
def zl_cX3_joinInto_0 : List (Nat × Instr × Nat) := [(0, .iconst 0, 1), (1, .istore 4, 2), (3, .iload 4, 2), (5, .iconst 4, 1), (6, .if_icmp .ge 92, 3), (9, .aload_n 0, 1), (10, .getfield 29, 3), (13, .iconst 4, 1), (14, .iload_n 1, 1), (15, .imul, 1), (16, .iload 4, 2), (18, .iadd, 1), (19, .iaload, 1), (20, .istore 5, 2), (22, .aload_n 0, 1), (23, .getfield 29, 3), (26, .iconst 4, 1), (27, .iload_n 2, 1), (28, .imul, 1), (29, .iload 4, 2), (31, .iadd, 1), (32, .iaload, 1), (33, .istore 6, 2), (35, .iload_n 3, 1), (36, .ifCond .ne 26, 3), (39, .iload 4, 2), (41, .iconst 2, 1), (42, .if_icmp .ge 13, 3), (45, .iload 6, 2), (47, .iload 5, 2), (49, .if_icmp .ge 17, 3), (52, .goto 10, 3), (55, .iload 6, 2), (57, .iload 5, 2), (59, .if_icmp .le 7, 3), (62, .iconst 1, 1), (63, .goto 4, 3), (66, .iconst 0, 1), (67, .istore 7, 2), (69, .aload_n 0, 1), (70, .getfield 29, 3), (73, .iconst 4, 1), (74, .iload_n 1, 1), (75, .imul, 1), (76, .iload 4, 2), (78, .iadd, 1), (79, .iload 7, 2), (81, .ifCond .eq 8, 3), (84, .iload 6, 2), (86, .goto 5, 3), (89, .iload 5, 2), (91, .iastore, 1), (92, .iinc 4 1, 3), (95, .goto (-92), 3), (98, .return_, 1)]
theorem zo_cX3_joinInto_0 : zd_ok cX3_joinInto zl_cX3_joinInto_0 = true := by decide +kernel
theorem dX3_joinInto_0 : decode cX3_joinInto 0 = .ok (.iconst 0, 1) := zd_at zo_cX3_joinInto_0 0 rfl
theorem dX3_joinInto_1 : decode cX3_joinInto 1 = .ok (.istore 4, 2) := zd_at zo_cX3_joinInto_0 1 rfl
theorem dX3_joinInto_3 : decode cX3_joinInto 3 = .ok (.iload 4, 2) := zd_at zo_cX3_joinInto_0 2 rfl
theorem dX3_joinInto_5 : decode cX3_joinInto 5 = .ok (.iconst 4, 1) := zd_at zo_cX3_joinInto_0 3 rfl
theorem dX3_joinInto_6 : decode cX3_joinInto 6 = .ok (.if_icmp .ge 92, 3) := zd_at zo_cX3_joinInto_0 4 rfl
theorem dX3_joinInto_9 : decode cX3_joinInto 9 = .ok (.aload_n 0, 1) := zd_at zo_cX3_joinInto_0 5 rfl
theorem dX3_joinInto_10 : decode cX3_joinInto 10 = .ok (.getfield 29, 3) := zd_at zo_cX3_joinInto_0 6 rfl
theorem dX3_joinInto_13 : decode cX3_joinInto 13 = .ok (.iconst 4, 1) := zd_at zo_cX3_joinInto_0 7 rfl
theorem dX3_joinInto_14 : decode cX3_joinInto 14 = .ok (.iload_n 1, 1) := zd_at zo_cX3_joinInto_0 8 rfl
theorem dX3_joinInto_15 : decode cX3_joinInto 15 = .ok (.imul, 1) := zd_at zo_cX3_joinInto_0 9 rfl
theorem dX3_joinInto_16 : decode cX3_joinInto 16 = .ok (.iload 4, 2) := zd_at zo_cX3_joinInto_0 10 rfl
theorem dX3_joinInto_18 : decode cX3_joinInto 18 = .ok (.iadd, 1) := zd_at zo_cX3_joinInto_0 11 rfl
theorem dX3_joinInto_19 : decode cX3_joinInto 19 = .ok (.iaload, 1) := zd_at zo_cX3_joinInto_0 12 rfl
theorem dX3_joinInto_20 : decode cX3_joinInto 20 = .ok (.istore 5, 2) := zd_at zo_cX3_joinInto_0 13 rfl
theorem dX3_joinInto_22 : decode cX3_joinInto 22 = .ok (.aload_n 0, 1) := zd_at zo_cX3_joinInto_0 14 rfl
theorem dX3_joinInto_23 : decode cX3_joinInto 23 = .ok (.getfield 29, 3) := zd_at zo_cX3_joinInto_0 15 rfl
theorem dX3_joinInto_26 : decode cX3_joinInto 26 = .ok (.iconst 4, 1) := zd_at zo_cX3_joinInto_0 16 rfl
theorem dX3_joinInto_27 : decode cX3_joinInto 27 = .ok (.iload_n 2, 1) := zd_at zo_cX3_joinInto_0 17 rfl
theorem dX3_joinInto_28 : decode cX3_joinInto 28 = .ok (.imul, 1) := zd_at zo_cX3_joinInto_0 18 rfl
theorem dX3_joinInto_29 : decode cX3_joinInto 29 = .ok (.iload 4, 2) := zd_at zo_cX3_joinInto_0 19 rfl
theorem dX3_joinInto_31 : decode cX3_joinInto 31 = .ok (.iadd, 1) := zd_at zo_cX3_joinInto_0 20 rfl
theorem dX3_joinInto_32 : decode cX3_joinInto 32 = .ok (.iaload, 1) := zd_at zo_cX3_joinInto_0 21 rfl
theorem dX3_joinInto_33 : decode cX3_joinInto 33 = .ok (.istore 6, 2) := zd_at zo_cX3_joinInto_0 22 rfl
theorem dX3_joinInto_35 : decode cX3_joinInto 35 = .ok (.iload_n 3, 1) := zd_at zo_cX3_joinInto_0 23 rfl
theorem dX3_joinInto_36 : decode cX3_joinInto 36 = .ok (.ifCond .ne 26, 3) := zd_at zo_cX3_joinInto_0 24 rfl
theorem dX3_joinInto_39 : decode cX3_joinInto 39 = .ok (.iload 4, 2) := zd_at zo_cX3_joinInto_0 25 rfl
theorem dX3_joinInto_41 : decode cX3_joinInto 41 = .ok (.iconst 2, 1) := zd_at zo_cX3_joinInto_0 26 rfl
theorem dX3_joinInto_42 : decode cX3_joinInto 42 = .ok (.if_icmp .ge 13, 3) := zd_at zo_cX3_joinInto_0 27 rfl
theorem dX3_joinInto_45 : decode cX3_joinInto 45 = .ok (.iload 6, 2) := zd_at zo_cX3_joinInto_0 28 rfl
theorem dX3_joinInto_47 : decode cX3_joinInto 47 = .ok (.iload 5, 2) := zd_at zo_cX3_joinInto_0 29 rfl
theorem dX3_joinInto_49 : decode cX3_joinInto 49 = .ok (.if_icmp .ge 17, 3) := zd_at zo_cX3_joinInto_0 30 rfl
theorem dX3_joinInto_52 : decode cX3_joinInto 52 = .ok (.goto 10, 3) := zd_at zo_cX3_joinInto_0 31 rfl
theorem dX3_joinInto_55 : decode cX3_joinInto 55 = .ok (.iload 6, 2) := zd_at zo_cX3_joinInto_0 32 rfl
theorem dX3_joinInto_57 : decode cX3_joinInto 57 = .ok (.iload 5, 2) := zd_at zo_cX3_joinInto_0 33 rfl
theorem dX3_joinInto_59 : decode cX3_joinInto 59 = .ok (.if_icmp .le 7, 3) := zd_at zo_cX3_joinInto_0 34 rfl
theorem dX3_joinInto_62 : decode cX3_joinInto 62 = .ok (.iconst 1, 1) := zd_at zo_cX3_joinInto_0 35 rfl
theorem dX3_joinInto_63 : decode cX3_joinInto 63 = .ok (.goto 4, 3) := zd_at zo_cX3_joinInto_0 36 rfl
theorem dX3_joinInto_66 : decode cX3_joinInto 66 = .ok (.iconst 0, 1) := zd_at zo_cX3_joinInto_0 37 rfl
theorem dX3_joinInto_67 : decode cX3_joinInto 67 = .ok (.istore 7, 2) := zd_at zo_cX3_joinInto_0 38 rfl
theorem dX3_joinInto_69 : decode cX3_joinInto 69 = .ok (.aload_n 0, 1) := zd_at zo_cX3_joinInto_0 39 rfl
theorem dX3_joinInto_70 : decode cX3_joinInto 70 = .ok (.getfield 29, 3) := zd_at zo_cX3_joinInto_0 40 rfl
theorem dX3_joinInto_73 : decode cX3_joinInto 73 = .ok (.iconst 4, 1) := zd_at zo_cX3_joinInto_0 41 rfl
theorem dX3_joinInto_74 : decode cX3_joinInto 74 = .ok (.iload_n 1, 1) := zd_at zo_cX3_joinInto_0 42 rfl
theorem dX3_joinInto_75 : decode cX3_joinInto 75 = .ok (.imul, 1) := zd_at zo_cX3_joinInto_0 43 rfl
theorem dX3_joinInto_76 : decode cX3_joinInto 76 = .ok (.iload 4, 2) := zd_at zo_cX3_joinInto_0 44 rfl
theorem dX3_joinInto_78 : decode cX3_joinInto 78 = .ok (.iadd, 1) := zd_at zo_cX3_joinInto_0 45 rfl
theorem dX3_joinInto_79 : decode cX3_joinInto 79 = .ok (.iload 7, 2) := zd_at zo_cX3_joinInto_0 46 rfl
theorem dX3_joinInto_81 : decode cX3_joinInto 81 = .ok (.ifCond .eq 8, 3) := zd_at zo_cX3_joinInto_0 47 rfl
theorem dX3_joinInto_84 : decode cX3_joinInto 84 = .ok (.iload 6, 2) := zd_at zo_cX3_joinInto_0 48 rfl
theorem dX3_joinInto_86 : decode cX3_joinInto 86 = .ok (.goto 5, 3) := zd_at zo_cX3_joinInto_0 49 rfl
theorem dX3_joinInto_89 : decode cX3_joinInto 89 = .ok (.iload 5, 2) := zd_at zo_cX3_joinInto_0 50 rfl
theorem dX3_joinInto_91 : decode cX3_joinInto 91 = .ok (.iastore, 1) := zd_at zo_cX3_joinInto_0 51 rfl
theorem dX3_joinInto_92 : decode cX3_joinInto 92 = .ok (.iinc 4 1, 3) := zd_at zo_cX3_joinInto_0 52 rfl
theorem dX3_joinInto_95 : decode cX3_joinInto 95 = .ok (.goto (-92), 3) := zd_at zo_cX3_joinInto_0 53 rfl
theorem dX3_joinInto_98 : decode cX3_joinInto 98 = .ok (.return_, 1) := zd_at zo_cX3_joinInto_0 54 rfl
def zl_cX3_layBoxes_0 : List (Nat × Instr × Nat) := [(0, .iconst 0, 1), (1, .istore_n 2, 1), (2, .iload_n 2, 1), (3, .bipush 24, 2), (5, .if_icmp .ge 41, 3), (8, .iconst 0, 1), (9, .istore_n 3, 1), (10, .iload_n 3, 1), (11, .iconst 4, 1), (12, .if_icmp .ge 28, 3), (15, .aload_n 0, 1), (16, .getfield 29, 3), (19, .iconst 4, 1), (20, .iload_n 2, 1), (21, .imul, 1), (22, .iload_n 3, 1), (23, .iadd, 1), (24, .aload_n 1, 1), (25, .iconst 5, 1), (26, .iload_n 2, 1), (27, .imul, 1), (28, .iconst 1, 1), (29, .iadd, 1), (30, .iload_n 3, 1), (31, .iadd, 1), (32, .iaload, 1), (33, .iastore, 1), (34, .iinc 3 1, 3), (37, .goto (-27), 3), (40, .iinc 2 1, 3), (43, .goto (-41), 3), (46, .iconst 0, 1), (47, .istore_n 2, 1), (48, .iload_n 2, 1), (49, .bipush 6, 2), (51, .if_icmp .ge 76, 3), (54, .iconst 0, 1), (55, .istore_n 3, 1), (56, .iload_n 3, 1), (57, .bipush 32, 2), (59, .if_icmp .ge 62, 3), (62, .iconst 0, 1), (63, .istore 4, 2), (65, .iload 4, 2), (67, .aload_n 1, 1), (68, .iload_n 3, 1), (69, .invokestatic 69, 3), (72, .if_icmp .ge 43, 3), (75, .aload_n 1, 1), (76, .iload_n 3, 1), (77, .invokestatic 65, 3), (80, .iload_n 2, 1), (81, .if_icmp .ne 34, 3), (84, .aload_n 0, 1), (85, .bipush 24, 2), (87, .iload_n 3, 1), (88, .iadd, 1), (89, .aload_n 1, 1), (90, .iload_n 3, 1), (91, .iload 4, 2), (93, .invokestatic 72, 3), (96, .iload 4, 2), (98, .ifCond .ne 7, 3), (101, .iconst 1, 1), (102, .goto 4, 3), (105, .iconst 0, 1), (106, .invokevirtual 80, 3), (109, .iinc 4 1, 3), (112, .goto (-47), 3), (115, .iinc 3 1, 3), (118, .goto (-62), 3), (121, .iinc 2 1, 3), (124, .goto (-76), 3), (127, .return_, 1)]
theorem zo_cX3_layBoxes_0 : zd_ok cX3_layBoxes zl_cX3_layBoxes_0 = true := by decide +kernel
theorem dX3_layBoxes_0 : decode cX3_layBoxes 0 = .ok (.iconst 0, 1) := zd_at zo_cX3_layBoxes_0 0 rfl
theorem dX3_layBoxes_1 : decode cX3_layBoxes 1 = .ok (.istore_n 2, 1) := zd_at zo_cX3_layBoxes_0 1 rfl
theorem dX3_layBoxes_2 : decode cX3_layBoxes 2 = .ok (.iload_n 2, 1) := zd_at zo_cX3_layBoxes_0 2 rfl
theorem dX3_layBoxes_3 : decode cX3_layBoxes 3 = .ok (.bipush 24, 2) := zd_at zo_cX3_layBoxes_0 3 rfl
theorem dX3_layBoxes_5 : decode cX3_layBoxes 5 = .ok (.if_icmp .ge 41, 3) := zd_at zo_cX3_layBoxes_0 4 rfl
theorem dX3_layBoxes_8 : decode cX3_layBoxes 8 = .ok (.iconst 0, 1) := zd_at zo_cX3_layBoxes_0 5 rfl
theorem dX3_layBoxes_9 : decode cX3_layBoxes 9 = .ok (.istore_n 3, 1) := zd_at zo_cX3_layBoxes_0 6 rfl
theorem dX3_layBoxes_10 : decode cX3_layBoxes 10 = .ok (.iload_n 3, 1) := zd_at zo_cX3_layBoxes_0 7 rfl
theorem dX3_layBoxes_11 : decode cX3_layBoxes 11 = .ok (.iconst 4, 1) := zd_at zo_cX3_layBoxes_0 8 rfl
theorem dX3_layBoxes_12 : decode cX3_layBoxes 12 = .ok (.if_icmp .ge 28, 3) := zd_at zo_cX3_layBoxes_0 9 rfl
theorem dX3_layBoxes_15 : decode cX3_layBoxes 15 = .ok (.aload_n 0, 1) := zd_at zo_cX3_layBoxes_0 10 rfl
theorem dX3_layBoxes_16 : decode cX3_layBoxes 16 = .ok (.getfield 29, 3) := zd_at zo_cX3_layBoxes_0 11 rfl
theorem dX3_layBoxes_19 : decode cX3_layBoxes 19 = .ok (.iconst 4, 1) := zd_at zo_cX3_layBoxes_0 12 rfl
theorem dX3_layBoxes_20 : decode cX3_layBoxes 20 = .ok (.iload_n 2, 1) := zd_at zo_cX3_layBoxes_0 13 rfl
theorem dX3_layBoxes_21 : decode cX3_layBoxes 21 = .ok (.imul, 1) := zd_at zo_cX3_layBoxes_0 14 rfl
theorem dX3_layBoxes_22 : decode cX3_layBoxes 22 = .ok (.iload_n 3, 1) := zd_at zo_cX3_layBoxes_0 15 rfl
theorem dX3_layBoxes_23 : decode cX3_layBoxes 23 = .ok (.iadd, 1) := zd_at zo_cX3_layBoxes_0 16 rfl
theorem dX3_layBoxes_24 : decode cX3_layBoxes 24 = .ok (.aload_n 1, 1) := zd_at zo_cX3_layBoxes_0 17 rfl
theorem dX3_layBoxes_25 : decode cX3_layBoxes 25 = .ok (.iconst 5, 1) := zd_at zo_cX3_layBoxes_0 18 rfl
theorem dX3_layBoxes_26 : decode cX3_layBoxes 26 = .ok (.iload_n 2, 1) := zd_at zo_cX3_layBoxes_0 19 rfl
theorem dX3_layBoxes_27 : decode cX3_layBoxes 27 = .ok (.imul, 1) := zd_at zo_cX3_layBoxes_0 20 rfl
theorem dX3_layBoxes_28 : decode cX3_layBoxes 28 = .ok (.iconst 1, 1) := zd_at zo_cX3_layBoxes_0 21 rfl
theorem dX3_layBoxes_29 : decode cX3_layBoxes 29 = .ok (.iadd, 1) := zd_at zo_cX3_layBoxes_0 22 rfl
theorem dX3_layBoxes_30 : decode cX3_layBoxes 30 = .ok (.iload_n 3, 1) := zd_at zo_cX3_layBoxes_0 23 rfl
theorem dX3_layBoxes_31 : decode cX3_layBoxes 31 = .ok (.iadd, 1) := zd_at zo_cX3_layBoxes_0 24 rfl
theorem dX3_layBoxes_32 : decode cX3_layBoxes 32 = .ok (.iaload, 1) := zd_at zo_cX3_layBoxes_0 25 rfl
theorem dX3_layBoxes_33 : decode cX3_layBoxes 33 = .ok (.iastore, 1) := zd_at zo_cX3_layBoxes_0 26 rfl
theorem dX3_layBoxes_34 : decode cX3_layBoxes 34 = .ok (.iinc 3 1, 3) := zd_at zo_cX3_layBoxes_0 27 rfl
theorem dX3_layBoxes_37 : decode cX3_layBoxes 37 = .ok (.goto (-27), 3) := zd_at zo_cX3_layBoxes_0 28 rfl
theorem dX3_layBoxes_40 : decode cX3_layBoxes 40 = .ok (.iinc 2 1, 3) := zd_at zo_cX3_layBoxes_0 29 rfl
theorem dX3_layBoxes_43 : decode cX3_layBoxes 43 = .ok (.goto (-41), 3) := zd_at zo_cX3_layBoxes_0 30 rfl
theorem dX3_layBoxes_46 : decode cX3_layBoxes 46 = .ok (.iconst 0, 1) := zd_at zo_cX3_layBoxes_0 31 rfl
theorem dX3_layBoxes_47 : decode cX3_layBoxes 47 = .ok (.istore_n 2, 1) := zd_at zo_cX3_layBoxes_0 32 rfl
theorem dX3_layBoxes_48 : decode cX3_layBoxes 48 = .ok (.iload_n 2, 1) := zd_at zo_cX3_layBoxes_0 33 rfl
theorem dX3_layBoxes_49 : decode cX3_layBoxes 49 = .ok (.bipush 6, 2) := zd_at zo_cX3_layBoxes_0 34 rfl
theorem dX3_layBoxes_51 : decode cX3_layBoxes 51 = .ok (.if_icmp .ge 76, 3) := zd_at zo_cX3_layBoxes_0 35 rfl
theorem dX3_layBoxes_54 : decode cX3_layBoxes 54 = .ok (.iconst 0, 1) := zd_at zo_cX3_layBoxes_0 36 rfl
theorem dX3_layBoxes_55 : decode cX3_layBoxes 55 = .ok (.istore_n 3, 1) := zd_at zo_cX3_layBoxes_0 37 rfl
theorem dX3_layBoxes_56 : decode cX3_layBoxes 56 = .ok (.iload_n 3, 1) := zd_at zo_cX3_layBoxes_0 38 rfl
theorem dX3_layBoxes_57 : decode cX3_layBoxes 57 = .ok (.bipush 32, 2) := zd_at zo_cX3_layBoxes_0 39 rfl
theorem dX3_layBoxes_59 : decode cX3_layBoxes 59 = .ok (.if_icmp .ge 62, 3) := zd_at zo_cX3_layBoxes_0 40 rfl
theorem dX3_layBoxes_62 : decode cX3_layBoxes 62 = .ok (.iconst 0, 1) := zd_at zo_cX3_layBoxes_0 41 rfl
theorem dX3_layBoxes_63 : decode cX3_layBoxes 63 = .ok (.istore 4, 2) := zd_at zo_cX3_layBoxes_0 42 rfl
theorem dX3_layBoxes_65 : decode cX3_layBoxes 65 = .ok (.iload 4, 2) := zd_at zo_cX3_layBoxes_0 43 rfl
theorem dX3_layBoxes_67 : decode cX3_layBoxes 67 = .ok (.aload_n 1, 1) := zd_at zo_cX3_layBoxes_0 44 rfl
theorem dX3_layBoxes_68 : decode cX3_layBoxes 68 = .ok (.iload_n 3, 1) := zd_at zo_cX3_layBoxes_0 45 rfl
theorem dX3_layBoxes_69 : decode cX3_layBoxes 69 = .ok (.invokestatic 69, 3) := zd_at zo_cX3_layBoxes_0 46 rfl
theorem dX3_layBoxes_72 : decode cX3_layBoxes 72 = .ok (.if_icmp .ge 43, 3) := zd_at zo_cX3_layBoxes_0 47 rfl
theorem dX3_layBoxes_75 : decode cX3_layBoxes 75 = .ok (.aload_n 1, 1) := zd_at zo_cX3_layBoxes_0 48 rfl
theorem dX3_layBoxes_76 : decode cX3_layBoxes 76 = .ok (.iload_n 3, 1) := zd_at zo_cX3_layBoxes_0 49 rfl
theorem dX3_layBoxes_77 : decode cX3_layBoxes 77 = .ok (.invokestatic 65, 3) := zd_at zo_cX3_layBoxes_0 50 rfl
theorem dX3_layBoxes_80 : decode cX3_layBoxes 80 = .ok (.iload_n 2, 1) := zd_at zo_cX3_layBoxes_0 51 rfl
theorem dX3_layBoxes_81 : decode cX3_layBoxes 81 = .ok (.if_icmp .ne 34, 3) := zd_at zo_cX3_layBoxes_0 52 rfl
theorem dX3_layBoxes_84 : decode cX3_layBoxes 84 = .ok (.aload_n 0, 1) := zd_at zo_cX3_layBoxes_0 53 rfl
theorem dX3_layBoxes_85 : decode cX3_layBoxes 85 = .ok (.bipush 24, 2) := zd_at zo_cX3_layBoxes_0 54 rfl
theorem dX3_layBoxes_87 : decode cX3_layBoxes 87 = .ok (.iload_n 3, 1) := zd_at zo_cX3_layBoxes_0 55 rfl
theorem dX3_layBoxes_88 : decode cX3_layBoxes 88 = .ok (.iadd, 1) := zd_at zo_cX3_layBoxes_0 56 rfl
theorem dX3_layBoxes_89 : decode cX3_layBoxes 89 = .ok (.aload_n 1, 1) := zd_at zo_cX3_layBoxes_0 57 rfl
theorem dX3_layBoxes_90 : decode cX3_layBoxes 90 = .ok (.iload_n 3, 1) := zd_at zo_cX3_layBoxes_0 58 rfl
theorem dX3_layBoxes_91 : decode cX3_layBoxes 91 = .ok (.iload 4, 2) := zd_at zo_cX3_layBoxes_0 59 rfl
theorem dX3_layBoxes_93 : decode cX3_layBoxes 93 = .ok (.invokestatic 72, 3) := zd_at zo_cX3_layBoxes_0 60 rfl
theorem dX3_layBoxes_96 : decode cX3_layBoxes 96 = .ok (.iload 4, 2) := zd_at zo_cX3_layBoxes_0 61 rfl
theorem dX3_layBoxes_98 : decode cX3_layBoxes 98 = .ok (.ifCond .ne 7, 3) := zd_at zo_cX3_layBoxes_0 62 rfl
theorem dX3_layBoxes_101 : decode cX3_layBoxes 101 = .ok (.iconst 1, 1) := zd_at zo_cX3_layBoxes_0 63 rfl
theorem dX3_layBoxes_102 : decode cX3_layBoxes 102 = .ok (.goto 4, 3) := zd_at zo_cX3_layBoxes_0 64 rfl
theorem dX3_layBoxes_105 : decode cX3_layBoxes 105 = .ok (.iconst 0, 1) := zd_at zo_cX3_layBoxes_0 65 rfl
theorem dX3_layBoxes_106 : decode cX3_layBoxes 106 = .ok (.invokevirtual 80, 3) := zd_at zo_cX3_layBoxes_0 66 rfl
theorem dX3_layBoxes_109 : decode cX3_layBoxes 109 = .ok (.iinc 4 1, 3) := zd_at zo_cX3_layBoxes_0 67 rfl
theorem dX3_layBoxes_112 : decode cX3_layBoxes 112 = .ok (.goto (-47), 3) := zd_at zo_cX3_layBoxes_0 68 rfl
theorem dX3_layBoxes_115 : decode cX3_layBoxes 115 = .ok (.iinc 3 1, 3) := zd_at zo_cX3_layBoxes_0 69 rfl
theorem dX3_layBoxes_118 : decode cX3_layBoxes 118 = .ok (.goto (-62), 3) := zd_at zo_cX3_layBoxes_0 70 rfl
theorem dX3_layBoxes_121 : decode cX3_layBoxes 121 = .ok (.iinc 2 1, 3) := zd_at zo_cX3_layBoxes_0 71 rfl
theorem dX3_layBoxes_124 : decode cX3_layBoxes 124 = .ok (.goto (-76), 3) := zd_at zo_cX3_layBoxes_0 72 rfl
theorem dX3_layBoxes_127 : decode cX3_layBoxes 127 = .ok (.return_, 1) := zd_at zo_cX3_layBoxes_0 73 rfl
def zl_cX3_area_0 : List (Nat × Instr × Nat) := [(0, .aload_n 0, 1), (1, .getfield 29, 3), (4, .iconst 4, 1), (5, .iload_n 1, 1), (6, .imul, 1), (7, .iconst 2, 1), (8, .iadd, 1), (9, .iaload, 1), (10, .aload_n 0, 1), (11, .getfield 29, 3), (14, .iconst 4, 1), (15, .iload_n 1, 1), (16, .imul, 1), (17, .iaload, 1), (18, .isub, 1), (19, .iconst 1, 1), (20, .iadd, 1), (21, .aload_n 0, 1), (22, .getfield 29, 3), (25, .iconst 4, 1), (26, .iload_n 1, 1), (27, .imul, 1), (28, .iconst 3, 1), (29, .iadd, 1), (30, .iaload, 1), (31, .aload_n 0, 1), (32, .getfield 29, 3), (35, .iconst 4, 1), (36, .iload_n 1, 1), (37, .imul, 1), (38, .iconst 1, 1), (39, .iadd, 1), (40, .iaload, 1), (41, .isub, 1), (42, .iconst 1, 1), (43, .iadd, 1), (44, .imul, 1), (45, .ireturn, 1)]
theorem zo_cX3_area_0 : zd_ok cX3_area zl_cX3_area_0 = true := by decide +kernel
theorem dX3_area_0 : decode cX3_area 0 = .ok (.aload_n 0, 1) := zd_at zo_cX3_area_0 0 rfl
theorem dX3_area_1 : decode cX3_area 1 = .ok (.getfield 29, 3) := zd_at zo_cX3_area_0 1 rfl
theorem dX3_area_4 : decode cX3_area 4 = .ok (.iconst 4, 1) := zd_at zo_cX3_area_0 2 rfl
theorem dX3_area_5 : decode cX3_area 5 = .ok (.iload_n 1, 1) := zd_at zo_cX3_area_0 3 rfl
theorem dX3_area_6 : decode cX3_area 6 = .ok (.imul, 1) := zd_at zo_cX3_area_0 4 rfl
theorem dX3_area_7 : decode cX3_area 7 = .ok (.iconst 2, 1) := zd_at zo_cX3_area_0 5 rfl
theorem dX3_area_8 : decode cX3_area 8 = .ok (.iadd, 1) := zd_at zo_cX3_area_0 6 rfl
theorem dX3_area_9 : decode cX3_area 9 = .ok (.iaload, 1) := zd_at zo_cX3_area_0 7 rfl
theorem dX3_area_10 : decode cX3_area 10 = .ok (.aload_n 0, 1) := zd_at zo_cX3_area_0 8 rfl
theorem dX3_area_11 : decode cX3_area 11 = .ok (.getfield 29, 3) := zd_at zo_cX3_area_0 9 rfl
theorem dX3_area_14 : decode cX3_area 14 = .ok (.iconst 4, 1) := zd_at zo_cX3_area_0 10 rfl
theorem dX3_area_15 : decode cX3_area 15 = .ok (.iload_n 1, 1) := zd_at zo_cX3_area_0 11 rfl
theorem dX3_area_16 : decode cX3_area 16 = .ok (.imul, 1) := zd_at zo_cX3_area_0 12 rfl
theorem dX3_area_17 : decode cX3_area 17 = .ok (.iaload, 1) := zd_at zo_cX3_area_0 13 rfl
theorem dX3_area_18 : decode cX3_area 18 = .ok (.isub, 1) := zd_at zo_cX3_area_0 14 rfl
theorem dX3_area_19 : decode cX3_area 19 = .ok (.iconst 1, 1) := zd_at zo_cX3_area_0 15 rfl
theorem dX3_area_20 : decode cX3_area 20 = .ok (.iadd, 1) := zd_at zo_cX3_area_0 16 rfl
theorem dX3_area_21 : decode cX3_area 21 = .ok (.aload_n 0, 1) := zd_at zo_cX3_area_0 17 rfl
theorem dX3_area_22 : decode cX3_area 22 = .ok (.getfield 29, 3) := zd_at zo_cX3_area_0 18 rfl
theorem dX3_area_25 : decode cX3_area 25 = .ok (.iconst 4, 1) := zd_at zo_cX3_area_0 19 rfl
theorem dX3_area_26 : decode cX3_area 26 = .ok (.iload_n 1, 1) := zd_at zo_cX3_area_0 20 rfl
theorem dX3_area_27 : decode cX3_area 27 = .ok (.imul, 1) := zd_at zo_cX3_area_0 21 rfl
theorem dX3_area_28 : decode cX3_area 28 = .ok (.iconst 3, 1) := zd_at zo_cX3_area_0 22 rfl
theorem dX3_area_29 : decode cX3_area 29 = .ok (.iadd, 1) := zd_at zo_cX3_area_0 23 rfl
theorem dX3_area_30 : decode cX3_area 30 = .ok (.iaload, 1) := zd_at zo_cX3_area_0 24 rfl
theorem dX3_area_31 : decode cX3_area 31 = .ok (.aload_n 0, 1) := zd_at zo_cX3_area_0 25 rfl
theorem dX3_area_32 : decode cX3_area 32 = .ok (.getfield 29, 3) := zd_at zo_cX3_area_0 26 rfl
theorem dX3_area_35 : decode cX3_area 35 = .ok (.iconst 4, 1) := zd_at zo_cX3_area_0 27 rfl
theorem dX3_area_36 : decode cX3_area 36 = .ok (.iload_n 1, 1) := zd_at zo_cX3_area_0 28 rfl
theorem dX3_area_37 : decode cX3_area 37 = .ok (.imul, 1) := zd_at zo_cX3_area_0 29 rfl
theorem dX3_area_38 : decode cX3_area 38 = .ok (.iconst 1, 1) := zd_at zo_cX3_area_0 30 rfl
theorem dX3_area_39 : decode cX3_area 39 = .ok (.iadd, 1) := zd_at zo_cX3_area_0 31 rfl
theorem dX3_area_40 : decode cX3_area 40 = .ok (.iaload, 1) := zd_at zo_cX3_area_0 32 rfl
theorem dX3_area_41 : decode cX3_area 41 = .ok (.isub, 1) := zd_at zo_cX3_area_0 33 rfl
theorem dX3_area_42 : decode cX3_area 42 = .ok (.iconst 1, 1) := zd_at zo_cX3_area_0 34 rfl
theorem dX3_area_43 : decode cX3_area 43 = .ok (.iadd, 1) := zd_at zo_cX3_area_0 35 rfl
theorem dX3_area_44 : decode cX3_area 44 = .ok (.imul, 1) := zd_at zo_cX3_area_0 36 rfl
theorem dX3_area_45 : decode cX3_area 45 = .ok (.ireturn, 1) := zd_at zo_cX3_area_0 37 rfl
def zl_cX3_less_0 : List (Nat × Instr × Nat) := [(0, .iload_n 0, 1), (1, .iload_n 1, 1), (2, .if_icmp .ge 7, 3), (5, .iload_n 0, 1), (6, .goto 4, 3), (9, .iload_n 1, 1), (10, .ireturn, 1)]
theorem zo_cX3_less_0 : zd_ok cX3_less zl_cX3_less_0 = true := by decide +kernel
theorem dX3_less_0 : decode cX3_less 0 = .ok (.iload_n 0, 1) := zd_at zo_cX3_less_0 0 rfl
theorem dX3_less_1 : decode cX3_less 1 = .ok (.iload_n 1, 1) := zd_at zo_cX3_less_0 1 rfl
theorem dX3_less_2 : decode cX3_less 2 = .ok (.if_icmp .ge 7, 3) := zd_at zo_cX3_less_0 2 rfl
theorem dX3_less_5 : decode cX3_less 5 = .ok (.iload_n 0, 1) := zd_at zo_cX3_less_0 3 rfl
theorem dX3_less_6 : decode cX3_less 6 = .ok (.goto 4, 3) := zd_at zo_cX3_less_0 4 rfl
theorem dX3_less_9 : decode cX3_less 9 = .ok (.iload_n 1, 1) := zd_at zo_cX3_less_0 5 rfl
theorem dX3_less_10 : decode cX3_less 10 = .ok (.ireturn, 1) := zd_at zo_cX3_less_0 6 rfl
def zl_cX3_more_0 : List (Nat × Instr × Nat) := [(0, .iload_n 0, 1), (1, .iload_n 1, 1), (2, .if_icmp .le 7, 3), (5, .iload_n 0, 1), (6, .goto 4, 3), (9, .iload_n 1, 1), (10, .ireturn, 1)]
theorem zo_cX3_more_0 : zd_ok cX3_more zl_cX3_more_0 = true := by decide +kernel
theorem dX3_more_0 : decode cX3_more 0 = .ok (.iload_n 0, 1) := zd_at zo_cX3_more_0 0 rfl
theorem dX3_more_1 : decode cX3_more 1 = .ok (.iload_n 1, 1) := zd_at zo_cX3_more_0 1 rfl
theorem dX3_more_2 : decode cX3_more 2 = .ok (.if_icmp .le 7, 3) := zd_at zo_cX3_more_0 2 rfl
theorem dX3_more_5 : decode cX3_more 5 = .ok (.iload_n 0, 1) := zd_at zo_cX3_more_0 3 rfl
theorem dX3_more_6 : decode cX3_more 6 = .ok (.goto 4, 3) := zd_at zo_cX3_more_0 4 rfl
theorem dX3_more_9 : decode cX3_more 9 = .ok (.iload_n 1, 1) := zd_at zo_cX3_more_0 5 rfl
theorem dX3_more_10 : decode cX3_more 10 = .ok (.ireturn, 1) := zd_at zo_cX3_more_0 6 rfl
def zl_cX3_joinArea_0 : List (Nat × Instr × Nat) := [(0, .aload_n 0, 1), (1, .getfield 29, 3), (4, .iconst 4, 1), (5, .iload_n 1, 1), (6, .imul, 1), (7, .iconst 2, 1), (8, .iadd, 1), (9, .iaload, 1), (10, .aload_n 0, 1), (11, .getfield 29, 3), (14, .iconst 4, 1), (15, .iload_n 2, 1), (16, .imul, 1), (17, .iconst 2, 1), (18, .iadd, 1), (19, .iaload, 1), (20, .invokestatic 84, 3), (23, .aload_n 0, 1), (24, .getfield 29, 3), (27, .iconst 4, 1), (28, .iload_n 1, 1), (29, .imul, 1), (30, .iaload, 1), (31, .aload_n 0, 1), (32, .getfield 29, 3), (35, .iconst 4, 1), (36, .iload_n 2, 1), (37, .imul, 1), (38, .iaload, 1), (39, .invokestatic 88, 3), (42, .isub, 1), (43, .iconst 1, 1), (44, .iadd, 1), (45, .istore_n 3, 1), (46, .aload_n 0, 1), (47, .getfield 29, 3), (50, .iconst 4, 1), (51, .iload_n 1, 1), (52, .imul, 1), (53, .iconst 3, 1), (54, .iadd, 1), (55, .iaload, 1), (56, .aload_n 0, 1), (57, .getfield 29, 3), (60, .iconst 4, 1), (61, .iload_n 2, 1), (62, .imul, 1), (63, .iconst 3, 1), (64, .iadd, 1), (65, .iaload, 1), (66, .invokestatic 84, 3), (69, .aload_n 0, 1), (70, .getfield 29, 3), (73, .iconst 4, 1), (74, .iload_n 1, 1), (75, .imul, 1), (76, .iconst 1, 1), (77, .iadd, 1), (78, .iaload, 1), (79, .aload_n 0, 1), (80, .getfield 29, 3), (83, .iconst 4, 1), (84, .iload_n 2, 1), (85, .imul, 1), (86, .iconst 1, 1), (87, .iadd, 1), (88, .iaload, 1), (89, .invokestatic 88, 3), (92, .isub, 1), (93, .iconst 1, 1), (94, .iadd, 1), (95, .istore 4, 2), (97, .iload_n 3, 1), (98, .iload 4, 2), (100, .imul, 1), (101, .ireturn, 1)]
theorem zo_cX3_joinArea_0 : zd_ok cX3_joinArea zl_cX3_joinArea_0 = true := by decide +kernel
theorem dX3_joinArea_0 : decode cX3_joinArea 0 = .ok (.aload_n 0, 1) := zd_at zo_cX3_joinArea_0 0 rfl
theorem dX3_joinArea_1 : decode cX3_joinArea 1 = .ok (.getfield 29, 3) := zd_at zo_cX3_joinArea_0 1 rfl
theorem dX3_joinArea_4 : decode cX3_joinArea 4 = .ok (.iconst 4, 1) := zd_at zo_cX3_joinArea_0 2 rfl
theorem dX3_joinArea_5 : decode cX3_joinArea 5 = .ok (.iload_n 1, 1) := zd_at zo_cX3_joinArea_0 3 rfl
theorem dX3_joinArea_6 : decode cX3_joinArea 6 = .ok (.imul, 1) := zd_at zo_cX3_joinArea_0 4 rfl
theorem dX3_joinArea_7 : decode cX3_joinArea 7 = .ok (.iconst 2, 1) := zd_at zo_cX3_joinArea_0 5 rfl
theorem dX3_joinArea_8 : decode cX3_joinArea 8 = .ok (.iadd, 1) := zd_at zo_cX3_joinArea_0 6 rfl
theorem dX3_joinArea_9 : decode cX3_joinArea 9 = .ok (.iaload, 1) := zd_at zo_cX3_joinArea_0 7 rfl
theorem dX3_joinArea_10 : decode cX3_joinArea 10 = .ok (.aload_n 0, 1) := zd_at zo_cX3_joinArea_0 8 rfl
theorem dX3_joinArea_11 : decode cX3_joinArea 11 = .ok (.getfield 29, 3) := zd_at zo_cX3_joinArea_0 9 rfl
theorem dX3_joinArea_14 : decode cX3_joinArea 14 = .ok (.iconst 4, 1) := zd_at zo_cX3_joinArea_0 10 rfl
theorem dX3_joinArea_15 : decode cX3_joinArea 15 = .ok (.iload_n 2, 1) := zd_at zo_cX3_joinArea_0 11 rfl
theorem dX3_joinArea_16 : decode cX3_joinArea 16 = .ok (.imul, 1) := zd_at zo_cX3_joinArea_0 12 rfl
theorem dX3_joinArea_17 : decode cX3_joinArea 17 = .ok (.iconst 2, 1) := zd_at zo_cX3_joinArea_0 13 rfl
theorem dX3_joinArea_18 : decode cX3_joinArea 18 = .ok (.iadd, 1) := zd_at zo_cX3_joinArea_0 14 rfl
theorem dX3_joinArea_19 : decode cX3_joinArea 19 = .ok (.iaload, 1) := zd_at zo_cX3_joinArea_0 15 rfl
theorem dX3_joinArea_20 : decode cX3_joinArea 20 = .ok (.invokestatic 84, 3) := zd_at zo_cX3_joinArea_0 16 rfl
theorem dX3_joinArea_23 : decode cX3_joinArea 23 = .ok (.aload_n 0, 1) := zd_at zo_cX3_joinArea_0 17 rfl
theorem dX3_joinArea_24 : decode cX3_joinArea 24 = .ok (.getfield 29, 3) := zd_at zo_cX3_joinArea_0 18 rfl
theorem dX3_joinArea_27 : decode cX3_joinArea 27 = .ok (.iconst 4, 1) := zd_at zo_cX3_joinArea_0 19 rfl
theorem dX3_joinArea_28 : decode cX3_joinArea 28 = .ok (.iload_n 1, 1) := zd_at zo_cX3_joinArea_0 20 rfl
theorem dX3_joinArea_29 : decode cX3_joinArea 29 = .ok (.imul, 1) := zd_at zo_cX3_joinArea_0 21 rfl
theorem dX3_joinArea_30 : decode cX3_joinArea 30 = .ok (.iaload, 1) := zd_at zo_cX3_joinArea_0 22 rfl
theorem dX3_joinArea_31 : decode cX3_joinArea 31 = .ok (.aload_n 0, 1) := zd_at zo_cX3_joinArea_0 23 rfl
theorem dX3_joinArea_32 : decode cX3_joinArea 32 = .ok (.getfield 29, 3) := zd_at zo_cX3_joinArea_0 24 rfl
theorem dX3_joinArea_35 : decode cX3_joinArea 35 = .ok (.iconst 4, 1) := zd_at zo_cX3_joinArea_0 25 rfl
theorem dX3_joinArea_36 : decode cX3_joinArea 36 = .ok (.iload_n 2, 1) := zd_at zo_cX3_joinArea_0 26 rfl
theorem dX3_joinArea_37 : decode cX3_joinArea 37 = .ok (.imul, 1) := zd_at zo_cX3_joinArea_0 27 rfl
theorem dX3_joinArea_38 : decode cX3_joinArea 38 = .ok (.iaload, 1) := zd_at zo_cX3_joinArea_0 28 rfl
theorem dX3_joinArea_39 : decode cX3_joinArea 39 = .ok (.invokestatic 88, 3) := zd_at zo_cX3_joinArea_0 29 rfl
theorem dX3_joinArea_42 : decode cX3_joinArea 42 = .ok (.isub, 1) := zd_at zo_cX3_joinArea_0 30 rfl
theorem dX3_joinArea_43 : decode cX3_joinArea 43 = .ok (.iconst 1, 1) := zd_at zo_cX3_joinArea_0 31 rfl
theorem dX3_joinArea_44 : decode cX3_joinArea 44 = .ok (.iadd, 1) := zd_at zo_cX3_joinArea_0 32 rfl
theorem dX3_joinArea_45 : decode cX3_joinArea 45 = .ok (.istore_n 3, 1) := zd_at zo_cX3_joinArea_0 33 rfl
theorem dX3_joinArea_46 : decode cX3_joinArea 46 = .ok (.aload_n 0, 1) := zd_at zo_cX3_joinArea_0 34 rfl
theorem dX3_joinArea_47 : decode cX3_joinArea 47 = .ok (.getfield 29, 3) := zd_at zo_cX3_joinArea_0 35 rfl
theorem dX3_joinArea_50 : decode cX3_joinArea 50 = .ok (.iconst 4, 1) := zd_at zo_cX3_joinArea_0 36 rfl
theorem dX3_joinArea_51 : decode cX3_joinArea 51 = .ok (.iload_n 1, 1) := zd_at zo_cX3_joinArea_0 37 rfl
theorem dX3_joinArea_52 : decode cX3_joinArea 52 = .ok (.imul, 1) := zd_at zo_cX3_joinArea_0 38 rfl
theorem dX3_joinArea_53 : decode cX3_joinArea 53 = .ok (.iconst 3, 1) := zd_at zo_cX3_joinArea_0 39 rfl
theorem dX3_joinArea_54 : decode cX3_joinArea 54 = .ok (.iadd, 1) := zd_at zo_cX3_joinArea_0 40 rfl
theorem dX3_joinArea_55 : decode cX3_joinArea 55 = .ok (.iaload, 1) := zd_at zo_cX3_joinArea_0 41 rfl
theorem dX3_joinArea_56 : decode cX3_joinArea 56 = .ok (.aload_n 0, 1) := zd_at zo_cX3_joinArea_0 42 rfl
theorem dX3_joinArea_57 : decode cX3_joinArea 57 = .ok (.getfield 29, 3) := zd_at zo_cX3_joinArea_0 43 rfl
theorem dX3_joinArea_60 : decode cX3_joinArea 60 = .ok (.iconst 4, 1) := zd_at zo_cX3_joinArea_0 44 rfl
theorem dX3_joinArea_61 : decode cX3_joinArea 61 = .ok (.iload_n 2, 1) := zd_at zo_cX3_joinArea_0 45 rfl
theorem dX3_joinArea_62 : decode cX3_joinArea 62 = .ok (.imul, 1) := zd_at zo_cX3_joinArea_0 46 rfl
theorem dX3_joinArea_63 : decode cX3_joinArea 63 = .ok (.iconst 3, 1) := zd_at zo_cX3_joinArea_0 47 rfl
theorem dX3_joinArea_64 : decode cX3_joinArea 64 = .ok (.iadd, 1) := zd_at zo_cX3_joinArea_0 48 rfl
theorem dX3_joinArea_65 : decode cX3_joinArea 65 = .ok (.iaload, 1) := zd_at zo_cX3_joinArea_0 49 rfl
theorem dX3_joinArea_66 : decode cX3_joinArea 66 = .ok (.invokestatic 84, 3) := zd_at zo_cX3_joinArea_0 50 rfl
theorem dX3_joinArea_69 : decode cX3_joinArea 69 = .ok (.aload_n 0, 1) := zd_at zo_cX3_joinArea_0 51 rfl
theorem dX3_joinArea_70 : decode cX3_joinArea 70 = .ok (.getfield 29, 3) := zd_at zo_cX3_joinArea_0 52 rfl
theorem dX3_joinArea_73 : decode cX3_joinArea 73 = .ok (.iconst 4, 1) := zd_at zo_cX3_joinArea_0 53 rfl
theorem dX3_joinArea_74 : decode cX3_joinArea 74 = .ok (.iload_n 1, 1) := zd_at zo_cX3_joinArea_0 54 rfl
theorem dX3_joinArea_75 : decode cX3_joinArea 75 = .ok (.imul, 1) := zd_at zo_cX3_joinArea_0 55 rfl
theorem dX3_joinArea_76 : decode cX3_joinArea 76 = .ok (.iconst 1, 1) := zd_at zo_cX3_joinArea_0 56 rfl
theorem dX3_joinArea_77 : decode cX3_joinArea 77 = .ok (.iadd, 1) := zd_at zo_cX3_joinArea_0 57 rfl
theorem dX3_joinArea_78 : decode cX3_joinArea 78 = .ok (.iaload, 1) := zd_at zo_cX3_joinArea_0 58 rfl
theorem dX3_joinArea_79 : decode cX3_joinArea 79 = .ok (.aload_n 0, 1) := zd_at zo_cX3_joinArea_0 59 rfl
theorem dX3_joinArea_80 : decode cX3_joinArea 80 = .ok (.getfield 29, 3) := zd_at zo_cX3_joinArea_0 60 rfl
theorem dX3_joinArea_83 : decode cX3_joinArea 83 = .ok (.iconst 4, 1) := zd_at zo_cX3_joinArea_0 61 rfl
theorem dX3_joinArea_84 : decode cX3_joinArea 84 = .ok (.iload_n 2, 1) := zd_at zo_cX3_joinArea_0 62 rfl
theorem dX3_joinArea_85 : decode cX3_joinArea 85 = .ok (.imul, 1) := zd_at zo_cX3_joinArea_0 63 rfl
theorem dX3_joinArea_86 : decode cX3_joinArea 86 = .ok (.iconst 1, 1) := zd_at zo_cX3_joinArea_0 64 rfl
theorem dX3_joinArea_87 : decode cX3_joinArea 87 = .ok (.iadd, 1) := zd_at zo_cX3_joinArea_0 65 rfl
theorem dX3_joinArea_88 : decode cX3_joinArea 88 = .ok (.iaload, 1) := zd_at zo_cX3_joinArea_0 66 rfl
theorem dX3_joinArea_89 : decode cX3_joinArea 89 = .ok (.invokestatic 88, 3) := zd_at zo_cX3_joinArea_0 67 rfl
theorem dX3_joinArea_92 : decode cX3_joinArea 92 = .ok (.isub, 1) := zd_at zo_cX3_joinArea_0 68 rfl
theorem dX3_joinArea_93 : decode cX3_joinArea 93 = .ok (.iconst 1, 1) := zd_at zo_cX3_joinArea_0 69 rfl
theorem dX3_joinArea_94 : decode cX3_joinArea 94 = .ok (.iadd, 1) := zd_at zo_cX3_joinArea_0 70 rfl
theorem dX3_joinArea_95 : decode cX3_joinArea 95 = .ok (.istore 4, 2) := zd_at zo_cX3_joinArea_0 71 rfl
theorem dX3_joinArea_97 : decode cX3_joinArea 97 = .ok (.iload_n 3, 1) := zd_at zo_cX3_joinArea_0 72 rfl
theorem dX3_joinArea_98 : decode cX3_joinArea 98 = .ok (.iload 4, 2) := zd_at zo_cX3_joinArea_0 73 rfl
theorem dX3_joinArea_100 : decode cX3_joinArea 100 = .ok (.imul, 1) := zd_at zo_cX3_joinArea_0 74 rfl
theorem dX3_joinArea_101 : decode cX3_joinArea 101 = .ok (.ireturn, 1) := zd_at zo_cX3_joinArea_0 75 rfl
def zl_cX3_common_0 : List (Nat × Instr × Nat) := [(0, .aload_n 0, 1), (1, .getfield 29, 3), (4, .iconst 4, 1), (5, .iload_n 1, 1), (6, .imul, 1), (7, .iconst 2, 1), (8, .iadd, 1), (9, .iaload, 1), (10, .aload_n 0, 1), (11, .getfield 29, 3), (14, .iconst 4, 1), (15, .iload_n 2, 1), (16, .imul, 1), (17, .iconst 2, 1), (18, .iadd, 1), (19, .iaload, 1), (20, .invokestatic 88, 3), (23, .aload_n 0, 1), (24, .getfield 29, 3), (27, .iconst 4, 1), (28, .iload_n 1, 1), (29, .imul, 1), (30, .iaload, 1), (31, .aload_n 0, 1), (32, .getfield 29, 3), (35, .iconst 4, 1), (36, .iload_n 2, 1), (37, .imul, 1), (38, .iaload, 1), (39, .invokestatic 84, 3), (42, .isub, 1), (43, .iconst 1, 1), (44, .iadd, 1), (45, .istore_n 3, 1), (46, .aload_n 0, 1), (47, .getfield 29, 3), (50, .iconst 4, 1), (51, .iload_n 1, 1), (52, .imul, 1), (53, .iconst 3, 1), (54, .iadd, 1), (55, .iaload, 1), (56, .aload_n 0, 1), (57, .getfield 29, 3), (60, .iconst 4, 1), (61, .iload_n 2, 1), (62, .imul, 1), (63, .iconst 3, 1), (64, .iadd, 1), (65, .iaload, 1), (66, .invokestatic 88, 3), (69, .aload_n 0, 1), (70, .getfield 29, 3), (73, .iconst 4, 1), (74, .iload_n 1, 1), (75, .imul, 1), (76, .iconst 1, 1), (77, .iadd, 1), (78, .iaload, 1), (79, .aload_n 0, 1), (80, .getfield 29, 3), (83, .iconst 4, 1), (84, .iload_n 2, 1), (85, .imul, 1), (86, .iconst 1, 1), (87, .iadd, 1), (88, .iaload, 1), (89, .invokestatic 84, 3), (92, .isub, 1), (93, .iconst 1, 1), (94, .iadd, 1), (95, .istore 4, 2), (97, .iload_n 3, 1), (98, .ifCond .le 15, 3), (101, .iload 4, 2), (103, .ifCond .le 10, 3), (106, .iload_n 3, 1), (107, .iload 4, 2), (109, .imul, 1), (110, .goto 4, 3), (113, .iconst 0, 1), (114, .ireturn, 1)]
theorem zo_cX3_common_0 : zd_ok cX3_common zl_cX3_common_0 = true := by decide +kernel
theorem dX3_common_0 : decode cX3_common 0 = .ok (.aload_n 0, 1) := zd_at zo_cX3_common_0 0 rfl
theorem dX3_common_1 : decode cX3_common 1 = .ok (.getfield 29, 3) := zd_at zo_cX3_common_0 1 rfl
theorem dX3_common_4 : decode cX3_common 4 = .ok (.iconst 4, 1) := zd_at zo_cX3_common_0 2 rfl
theorem dX3_common_5 : decode cX3_common 5 = .ok (.iload_n 1, 1) := zd_at zo_cX3_common_0 3 rfl
theorem dX3_common_6 : decode cX3_common 6 = .ok (.imul, 1) := zd_at zo_cX3_common_0 4 rfl
theorem dX3_common_7 : decode cX3_common 7 = .ok (.iconst 2, 1) := zd_at zo_cX3_common_0 5 rfl
theorem dX3_common_8 : decode cX3_common 8 = .ok (.iadd, 1) := zd_at zo_cX3_common_0 6 rfl
theorem dX3_common_9 : decode cX3_common 9 = .ok (.iaload, 1) := zd_at zo_cX3_common_0 7 rfl
theorem dX3_common_10 : decode cX3_common 10 = .ok (.aload_n 0, 1) := zd_at zo_cX3_common_0 8 rfl
theorem dX3_common_11 : decode cX3_common 11 = .ok (.getfield 29, 3) := zd_at zo_cX3_common_0 9 rfl
theorem dX3_common_14 : decode cX3_common 14 = .ok (.iconst 4, 1) := zd_at zo_cX3_common_0 10 rfl
theorem dX3_common_15 : decode cX3_common 15 = .ok (.iload_n 2, 1) := zd_at zo_cX3_common_0 11 rfl
theorem dX3_common_16 : decode cX3_common 16 = .ok (.imul, 1) := zd_at zo_cX3_common_0 12 rfl
theorem dX3_common_17 : decode cX3_common 17 = .ok (.iconst 2, 1) := zd_at zo_cX3_common_0 13 rfl
theorem dX3_common_18 : decode cX3_common 18 = .ok (.iadd, 1) := zd_at zo_cX3_common_0 14 rfl
theorem dX3_common_19 : decode cX3_common 19 = .ok (.iaload, 1) := zd_at zo_cX3_common_0 15 rfl
theorem dX3_common_20 : decode cX3_common 20 = .ok (.invokestatic 88, 3) := zd_at zo_cX3_common_0 16 rfl
theorem dX3_common_23 : decode cX3_common 23 = .ok (.aload_n 0, 1) := zd_at zo_cX3_common_0 17 rfl
theorem dX3_common_24 : decode cX3_common 24 = .ok (.getfield 29, 3) := zd_at zo_cX3_common_0 18 rfl
theorem dX3_common_27 : decode cX3_common 27 = .ok (.iconst 4, 1) := zd_at zo_cX3_common_0 19 rfl
theorem dX3_common_28 : decode cX3_common 28 = .ok (.iload_n 1, 1) := zd_at zo_cX3_common_0 20 rfl
theorem dX3_common_29 : decode cX3_common 29 = .ok (.imul, 1) := zd_at zo_cX3_common_0 21 rfl
theorem dX3_common_30 : decode cX3_common 30 = .ok (.iaload, 1) := zd_at zo_cX3_common_0 22 rfl
theorem dX3_common_31 : decode cX3_common 31 = .ok (.aload_n 0, 1) := zd_at zo_cX3_common_0 23 rfl
theorem dX3_common_32 : decode cX3_common 32 = .ok (.getfield 29, 3) := zd_at zo_cX3_common_0 24 rfl
theorem dX3_common_35 : decode cX3_common 35 = .ok (.iconst 4, 1) := zd_at zo_cX3_common_0 25 rfl
theorem dX3_common_36 : decode cX3_common 36 = .ok (.iload_n 2, 1) := zd_at zo_cX3_common_0 26 rfl
theorem dX3_common_37 : decode cX3_common 37 = .ok (.imul, 1) := zd_at zo_cX3_common_0 27 rfl
theorem dX3_common_38 : decode cX3_common 38 = .ok (.iaload, 1) := zd_at zo_cX3_common_0 28 rfl
theorem dX3_common_39 : decode cX3_common 39 = .ok (.invokestatic 84, 3) := zd_at zo_cX3_common_0 29 rfl
theorem dX3_common_42 : decode cX3_common 42 = .ok (.isub, 1) := zd_at zo_cX3_common_0 30 rfl
theorem dX3_common_43 : decode cX3_common 43 = .ok (.iconst 1, 1) := zd_at zo_cX3_common_0 31 rfl
theorem dX3_common_44 : decode cX3_common 44 = .ok (.iadd, 1) := zd_at zo_cX3_common_0 32 rfl
theorem dX3_common_45 : decode cX3_common 45 = .ok (.istore_n 3, 1) := zd_at zo_cX3_common_0 33 rfl
theorem dX3_common_46 : decode cX3_common 46 = .ok (.aload_n 0, 1) := zd_at zo_cX3_common_0 34 rfl
theorem dX3_common_47 : decode cX3_common 47 = .ok (.getfield 29, 3) := zd_at zo_cX3_common_0 35 rfl
theorem dX3_common_50 : decode cX3_common 50 = .ok (.iconst 4, 1) := zd_at zo_cX3_common_0 36 rfl
theorem dX3_common_51 : decode cX3_common 51 = .ok (.iload_n 1, 1) := zd_at zo_cX3_common_0 37 rfl
theorem dX3_common_52 : decode cX3_common 52 = .ok (.imul, 1) := zd_at zo_cX3_common_0 38 rfl
theorem dX3_common_53 : decode cX3_common 53 = .ok (.iconst 3, 1) := zd_at zo_cX3_common_0 39 rfl
theorem dX3_common_54 : decode cX3_common 54 = .ok (.iadd, 1) := zd_at zo_cX3_common_0 40 rfl
theorem dX3_common_55 : decode cX3_common 55 = .ok (.iaload, 1) := zd_at zo_cX3_common_0 41 rfl
theorem dX3_common_56 : decode cX3_common 56 = .ok (.aload_n 0, 1) := zd_at zo_cX3_common_0 42 rfl
theorem dX3_common_57 : decode cX3_common 57 = .ok (.getfield 29, 3) := zd_at zo_cX3_common_0 43 rfl
theorem dX3_common_60 : decode cX3_common 60 = .ok (.iconst 4, 1) := zd_at zo_cX3_common_0 44 rfl
theorem dX3_common_61 : decode cX3_common 61 = .ok (.iload_n 2, 1) := zd_at zo_cX3_common_0 45 rfl
theorem dX3_common_62 : decode cX3_common 62 = .ok (.imul, 1) := zd_at zo_cX3_common_0 46 rfl
theorem dX3_common_63 : decode cX3_common 63 = .ok (.iconst 3, 1) := zd_at zo_cX3_common_0 47 rfl
theorem dX3_common_64 : decode cX3_common 64 = .ok (.iadd, 1) := zd_at zo_cX3_common_0 48 rfl
theorem dX3_common_65 : decode cX3_common 65 = .ok (.iaload, 1) := zd_at zo_cX3_common_0 49 rfl
theorem dX3_common_66 : decode cX3_common 66 = .ok (.invokestatic 88, 3) := zd_at zo_cX3_common_0 50 rfl
theorem dX3_common_69 : decode cX3_common 69 = .ok (.aload_n 0, 1) := zd_at zo_cX3_common_0 51 rfl
theorem dX3_common_70 : decode cX3_common 70 = .ok (.getfield 29, 3) := zd_at zo_cX3_common_0 52 rfl
theorem dX3_common_73 : decode cX3_common 73 = .ok (.iconst 4, 1) := zd_at zo_cX3_common_0 53 rfl
theorem dX3_common_74 : decode cX3_common 74 = .ok (.iload_n 1, 1) := zd_at zo_cX3_common_0 54 rfl
theorem dX3_common_75 : decode cX3_common 75 = .ok (.imul, 1) := zd_at zo_cX3_common_0 55 rfl
theorem dX3_common_76 : decode cX3_common 76 = .ok (.iconst 1, 1) := zd_at zo_cX3_common_0 56 rfl
theorem dX3_common_77 : decode cX3_common 77 = .ok (.iadd, 1) := zd_at zo_cX3_common_0 57 rfl
theorem dX3_common_78 : decode cX3_common 78 = .ok (.iaload, 1) := zd_at zo_cX3_common_0 58 rfl
theorem dX3_common_79 : decode cX3_common 79 = .ok (.aload_n 0, 1) := zd_at zo_cX3_common_0 59 rfl
theorem dX3_common_80 : decode cX3_common 80 = .ok (.getfield 29, 3) := zd_at zo_cX3_common_0 60 rfl
theorem dX3_common_83 : decode cX3_common 83 = .ok (.iconst 4, 1) := zd_at zo_cX3_common_0 61 rfl
theorem dX3_common_84 : decode cX3_common 84 = .ok (.iload_n 2, 1) := zd_at zo_cX3_common_0 62 rfl
theorem dX3_common_85 : decode cX3_common 85 = .ok (.imul, 1) := zd_at zo_cX3_common_0 63 rfl
theorem dX3_common_86 : decode cX3_common 86 = .ok (.iconst 1, 1) := zd_at zo_cX3_common_0 64 rfl
theorem dX3_common_87 : decode cX3_common 87 = .ok (.iadd, 1) := zd_at zo_cX3_common_0 65 rfl
theorem dX3_common_88 : decode cX3_common 88 = .ok (.iaload, 1) := zd_at zo_cX3_common_0 66 rfl
theorem dX3_common_89 : decode cX3_common 89 = .ok (.invokestatic 84, 3) := zd_at zo_cX3_common_0 67 rfl
theorem dX3_common_92 : decode cX3_common 92 = .ok (.isub, 1) := zd_at zo_cX3_common_0 68 rfl
theorem dX3_common_93 : decode cX3_common 93 = .ok (.iconst 1, 1) := zd_at zo_cX3_common_0 69 rfl
theorem dX3_common_94 : decode cX3_common 94 = .ok (.iadd, 1) := zd_at zo_cX3_common_0 70 rfl
theorem dX3_common_95 : decode cX3_common 95 = .ok (.istore 4, 2) := zd_at zo_cX3_common_0 71 rfl
theorem dX3_common_97 : decode cX3_common 97 = .ok (.iload_n 3, 1) := zd_at zo_cX3_common_0 72 rfl
theorem dX3_common_98 : decode cX3_common 98 = .ok (.ifCond .le 15, 3) := zd_at zo_cX3_common_0 73 rfl
theorem dX3_common_101 : decode cX3_common 101 = .ok (.iload 4, 2) := zd_at zo_cX3_common_0 74 rfl
theorem dX3_common_103 : decode cX3_common 103 = .ok (.ifCond .le 10, 3) := zd_at zo_cX3_common_0 75 rfl
theorem dX3_common_106 : decode cX3_common 106 = .ok (.iload_n 3, 1) := zd_at zo_cX3_common_0 76 rfl
theorem dX3_common_107 : decode cX3_common 107 = .ok (.iload 4, 2) := zd_at zo_cX3_common_0 77 rfl
theorem dX3_common_109 : decode cX3_common 109 = .ok (.imul, 1) := zd_at zo_cX3_common_0 78 rfl
theorem dX3_common_110 : decode cX3_common 110 = .ok (.goto 4, 3) := zd_at zo_cX3_common_0 79 rfl
theorem dX3_common_113 : decode cX3_common 113 = .ok (.iconst 0, 1) := zd_at zo_cX3_common_0 80 rfl
theorem dX3_common_114 : decode cX3_common 114 = .ok (.ireturn, 1) := zd_at zo_cX3_common_0 81 rfl
def zl_cX3_apart_0 : List (Nat × Instr × Nat) := [(0, .aload_n 0, 1), (1, .getfield 29, 3), (4, .iconst 4, 1), (5, .iload_n 1, 1), (6, .imul, 1), (7, .iaload, 1), (8, .aload_n 0, 1), (9, .getfield 29, 3), (12, .iconst 4, 1), (13, .iload_n 1, 1), (14, .imul, 1), (15, .iconst 2, 1), (16, .iadd, 1), (17, .iaload, 1), (18, .iadd, 1), (19, .aload_n 0, 1), (20, .getfield 29, 3), (23, .iconst 4, 1), (24, .iload_n 2, 1), (25, .imul, 1), (26, .iaload, 1), (27, .isub, 1), (28, .aload_n 0, 1), (29, .getfield 29, 3), (32, .iconst 4, 1), (33, .iload_n 2, 1), (34, .imul, 1), (35, .iconst 2, 1), (36, .iadd, 1), (37, .iaload, 1), (38, .isub, 1), (39, .istore_n 3, 1), (40, .aload_n 0, 1), (41, .getfield 29, 3), (44, .iconst 4, 1), (45, .iload_n 1, 1), (46, .imul, 1), (47, .iconst 1, 1), (48, .iadd, 1), (49, .iaload, 1), (50, .aload_n 0, 1), (51, .getfield 29, 3), (54, .iconst 4, 1), (55, .iload_n 1, 1), (56, .imul, 1), (57, .iconst 3, 1), (58, .iadd, 1), (59, .iaload, 1), (60, .iadd, 1), (61, .aload_n 0, 1), (62, .getfield 29, 3), (65, .iconst 4, 1), (66, .iload_n 2, 1), (67, .imul, 1), (68, .iconst 1, 1), (69, .iadd, 1), (70, .iaload, 1), (71, .isub, 1), (72, .aload_n 0, 1), (73, .getfield 29, 3), (76, .iconst 4, 1), (77, .iload_n 2, 1), (78, .imul, 1), (79, .iconst 3, 1), (80, .iadd, 1), (81, .iaload, 1), (82, .isub, 1), (83, .istore 4, 2), (85, .iload_n 3, 1), (86, .iload_n 3, 1), (87, .imul, 1), (88, .iload 4, 2), (90, .iload 4, 2), (92, .imul, 1), (93, .iadd, 1), (94, .ireturn, 1)]
theorem zo_cX3_apart_0 : zd_ok cX3_apart zl_cX3_apart_0 = true := by decide +kernel
theorem dX3_apart_0 : decode cX3_apart 0 = .ok (.aload_n 0, 1) := zd_at zo_cX3_apart_0 0 rfl
theorem dX3_apart_1 : decode cX3_apart 1 = .ok (.getfield 29, 3) := zd_at zo_cX3_apart_0 1 rfl
theorem dX3_apart_4 : decode cX3_apart 4 = .ok (.iconst 4, 1) := zd_at zo_cX3_apart_0 2 rfl
theorem dX3_apart_5 : decode cX3_apart 5 = .ok (.iload_n 1, 1) := zd_at zo_cX3_apart_0 3 rfl
theorem dX3_apart_6 : decode cX3_apart 6 = .ok (.imul, 1) := zd_at zo_cX3_apart_0 4 rfl
theorem dX3_apart_7 : decode cX3_apart 7 = .ok (.iaload, 1) := zd_at zo_cX3_apart_0 5 rfl
theorem dX3_apart_8 : decode cX3_apart 8 = .ok (.aload_n 0, 1) := zd_at zo_cX3_apart_0 6 rfl
theorem dX3_apart_9 : decode cX3_apart 9 = .ok (.getfield 29, 3) := zd_at zo_cX3_apart_0 7 rfl
theorem dX3_apart_12 : decode cX3_apart 12 = .ok (.iconst 4, 1) := zd_at zo_cX3_apart_0 8 rfl
theorem dX3_apart_13 : decode cX3_apart 13 = .ok (.iload_n 1, 1) := zd_at zo_cX3_apart_0 9 rfl
theorem dX3_apart_14 : decode cX3_apart 14 = .ok (.imul, 1) := zd_at zo_cX3_apart_0 10 rfl
theorem dX3_apart_15 : decode cX3_apart 15 = .ok (.iconst 2, 1) := zd_at zo_cX3_apart_0 11 rfl
theorem dX3_apart_16 : decode cX3_apart 16 = .ok (.iadd, 1) := zd_at zo_cX3_apart_0 12 rfl
theorem dX3_apart_17 : decode cX3_apart 17 = .ok (.iaload, 1) := zd_at zo_cX3_apart_0 13 rfl
theorem dX3_apart_18 : decode cX3_apart 18 = .ok (.iadd, 1) := zd_at zo_cX3_apart_0 14 rfl
theorem dX3_apart_19 : decode cX3_apart 19 = .ok (.aload_n 0, 1) := zd_at zo_cX3_apart_0 15 rfl
theorem dX3_apart_20 : decode cX3_apart 20 = .ok (.getfield 29, 3) := zd_at zo_cX3_apart_0 16 rfl
theorem dX3_apart_23 : decode cX3_apart 23 = .ok (.iconst 4, 1) := zd_at zo_cX3_apart_0 17 rfl
theorem dX3_apart_24 : decode cX3_apart 24 = .ok (.iload_n 2, 1) := zd_at zo_cX3_apart_0 18 rfl
theorem dX3_apart_25 : decode cX3_apart 25 = .ok (.imul, 1) := zd_at zo_cX3_apart_0 19 rfl
theorem dX3_apart_26 : decode cX3_apart 26 = .ok (.iaload, 1) := zd_at zo_cX3_apart_0 20 rfl
theorem dX3_apart_27 : decode cX3_apart 27 = .ok (.isub, 1) := zd_at zo_cX3_apart_0 21 rfl
theorem dX3_apart_28 : decode cX3_apart 28 = .ok (.aload_n 0, 1) := zd_at zo_cX3_apart_0 22 rfl
theorem dX3_apart_29 : decode cX3_apart 29 = .ok (.getfield 29, 3) := zd_at zo_cX3_apart_0 23 rfl
theorem dX3_apart_32 : decode cX3_apart 32 = .ok (.iconst 4, 1) := zd_at zo_cX3_apart_0 24 rfl
theorem dX3_apart_33 : decode cX3_apart 33 = .ok (.iload_n 2, 1) := zd_at zo_cX3_apart_0 25 rfl
theorem dX3_apart_34 : decode cX3_apart 34 = .ok (.imul, 1) := zd_at zo_cX3_apart_0 26 rfl
theorem dX3_apart_35 : decode cX3_apart 35 = .ok (.iconst 2, 1) := zd_at zo_cX3_apart_0 27 rfl
theorem dX3_apart_36 : decode cX3_apart 36 = .ok (.iadd, 1) := zd_at zo_cX3_apart_0 28 rfl
theorem dX3_apart_37 : decode cX3_apart 37 = .ok (.iaload, 1) := zd_at zo_cX3_apart_0 29 rfl
theorem dX3_apart_38 : decode cX3_apart 38 = .ok (.isub, 1) := zd_at zo_cX3_apart_0 30 rfl
theorem dX3_apart_39 : decode cX3_apart 39 = .ok (.istore_n 3, 1) := zd_at zo_cX3_apart_0 31 rfl
theorem dX3_apart_40 : decode cX3_apart 40 = .ok (.aload_n 0, 1) := zd_at zo_cX3_apart_0 32 rfl
theorem dX3_apart_41 : decode cX3_apart 41 = .ok (.getfield 29, 3) := zd_at zo_cX3_apart_0 33 rfl
theorem dX3_apart_44 : decode cX3_apart 44 = .ok (.iconst 4, 1) := zd_at zo_cX3_apart_0 34 rfl
theorem dX3_apart_45 : decode cX3_apart 45 = .ok (.iload_n 1, 1) := zd_at zo_cX3_apart_0 35 rfl
theorem dX3_apart_46 : decode cX3_apart 46 = .ok (.imul, 1) := zd_at zo_cX3_apart_0 36 rfl
theorem dX3_apart_47 : decode cX3_apart 47 = .ok (.iconst 1, 1) := zd_at zo_cX3_apart_0 37 rfl
theorem dX3_apart_48 : decode cX3_apart 48 = .ok (.iadd, 1) := zd_at zo_cX3_apart_0 38 rfl
theorem dX3_apart_49 : decode cX3_apart 49 = .ok (.iaload, 1) := zd_at zo_cX3_apart_0 39 rfl
theorem dX3_apart_50 : decode cX3_apart 50 = .ok (.aload_n 0, 1) := zd_at zo_cX3_apart_0 40 rfl
theorem dX3_apart_51 : decode cX3_apart 51 = .ok (.getfield 29, 3) := zd_at zo_cX3_apart_0 41 rfl
theorem dX3_apart_54 : decode cX3_apart 54 = .ok (.iconst 4, 1) := zd_at zo_cX3_apart_0 42 rfl
theorem dX3_apart_55 : decode cX3_apart 55 = .ok (.iload_n 1, 1) := zd_at zo_cX3_apart_0 43 rfl
theorem dX3_apart_56 : decode cX3_apart 56 = .ok (.imul, 1) := zd_at zo_cX3_apart_0 44 rfl
theorem dX3_apart_57 : decode cX3_apart 57 = .ok (.iconst 3, 1) := zd_at zo_cX3_apart_0 45 rfl
theorem dX3_apart_58 : decode cX3_apart 58 = .ok (.iadd, 1) := zd_at zo_cX3_apart_0 46 rfl
theorem dX3_apart_59 : decode cX3_apart 59 = .ok (.iaload, 1) := zd_at zo_cX3_apart_0 47 rfl
theorem dX3_apart_60 : decode cX3_apart 60 = .ok (.iadd, 1) := zd_at zo_cX3_apart_0 48 rfl
theorem dX3_apart_61 : decode cX3_apart 61 = .ok (.aload_n 0, 1) := zd_at zo_cX3_apart_0 49 rfl
theorem dX3_apart_62 : decode cX3_apart 62 = .ok (.getfield 29, 3) := zd_at zo_cX3_apart_0 50 rfl
theorem dX3_apart_65 : decode cX3_apart 65 = .ok (.iconst 4, 1) := zd_at zo_cX3_apart_0 51 rfl
theorem dX3_apart_66 : decode cX3_apart 66 = .ok (.iload_n 2, 1) := zd_at zo_cX3_apart_0 52 rfl
theorem dX3_apart_67 : decode cX3_apart 67 = .ok (.imul, 1) := zd_at zo_cX3_apart_0 53 rfl
theorem dX3_apart_68 : decode cX3_apart 68 = .ok (.iconst 1, 1) := zd_at zo_cX3_apart_0 54 rfl
theorem dX3_apart_69 : decode cX3_apart 69 = .ok (.iadd, 1) := zd_at zo_cX3_apart_0 55 rfl
theorem dX3_apart_70 : decode cX3_apart 70 = .ok (.iaload, 1) := zd_at zo_cX3_apart_0 56 rfl
theorem dX3_apart_71 : decode cX3_apart 71 = .ok (.isub, 1) := zd_at zo_cX3_apart_0 57 rfl
theorem dX3_apart_72 : decode cX3_apart 72 = .ok (.aload_n 0, 1) := zd_at zo_cX3_apart_0 58 rfl
theorem dX3_apart_73 : decode cX3_apart 73 = .ok (.getfield 29, 3) := zd_at zo_cX3_apart_0 59 rfl
theorem dX3_apart_76 : decode cX3_apart 76 = .ok (.iconst 4, 1) := zd_at zo_cX3_apart_0 60 rfl
theorem dX3_apart_77 : decode cX3_apart 77 = .ok (.iload_n 2, 1) := zd_at zo_cX3_apart_0 61 rfl
theorem dX3_apart_78 : decode cX3_apart 78 = .ok (.imul, 1) := zd_at zo_cX3_apart_0 62 rfl
theorem dX3_apart_79 : decode cX3_apart 79 = .ok (.iconst 3, 1) := zd_at zo_cX3_apart_0 63 rfl
theorem dX3_apart_80 : decode cX3_apart 80 = .ok (.iadd, 1) := zd_at zo_cX3_apart_0 64 rfl
theorem dX3_apart_81 : decode cX3_apart 81 = .ok (.iaload, 1) := zd_at zo_cX3_apart_0 65 rfl
theorem dX3_apart_82 : decode cX3_apart 82 = .ok (.isub, 1) := zd_at zo_cX3_apart_0 66 rfl
theorem dX3_apart_83 : decode cX3_apart 83 = .ok (.istore 4, 2) := zd_at zo_cX3_apart_0 67 rfl
theorem dX3_apart_85 : decode cX3_apart 85 = .ok (.iload_n 3, 1) := zd_at zo_cX3_apart_0 68 rfl
theorem dX3_apart_86 : decode cX3_apart 86 = .ok (.iload_n 3, 1) := zd_at zo_cX3_apart_0 69 rfl
theorem dX3_apart_87 : decode cX3_apart 87 = .ok (.imul, 1) := zd_at zo_cX3_apart_0 70 rfl
theorem dX3_apart_88 : decode cX3_apart 88 = .ok (.iload 4, 2) := zd_at zo_cX3_apart_0 71 rfl
theorem dX3_apart_90 : decode cX3_apart 90 = .ok (.iload 4, 2) := zd_at zo_cX3_apart_0 72 rfl
theorem dX3_apart_92 : decode cX3_apart 92 = .ok (.imul, 1) := zd_at zo_cX3_apart_0 73 rfl
theorem dX3_apart_93 : decode cX3_apart 93 = .ok (.iadd, 1) := zd_at zo_cX3_apart_0 74 rfl
theorem dX3_apart_94 : decode cX3_apart 94 = .ok (.ireturn, 1) := zd_at zo_cX3_apart_0 75 rfl
def zl_cX3_reach_0 : List (Nat × Instr × Nat) := [(0, .aload_n 1, 1), (1, .sipush 376, 3), (4, .iaload, 1), (5, .istore 4, 2), (7, .aload_n 1, 1), (8, .iload 4, 2), (10, .invokestatic 65, 3), (13, .iload_n 3, 1), (14, .if_icmp .le 146, 3), (17, .iconst (-1), 1), (18, .istore 5, 2), (20, .iconst 0, 1), (21, .istore 6, 2), (23, .iload 6, 2), (25, .aload_n 1, 1), (26, .iload 4, 2), (28, .invokestatic 69, 3), (31, .if_icmp .ge 119, 3), (34, .aload_n 1, 1), (35, .iload 4, 2), (37, .iload 6, 2), (39, .invokestatic 72, 3), (42, .istore 7, 2), (44, .iload 5, 2), (46, .iconst (-1), 1), (47, .if_icmp .ne 7, 3), (50, .iconst 1, 1), (51, .goto 4, 3), (54, .iconst 0, 1), (55, .istore 8, 2), (57, .iload 8, 2), (59, .ifCond .ne 71, 3), (62, .aload_n 0, 1), (63, .iload 7, 2), (65, .iload_n 2, 1), (66, .invokevirtual 91, 3), (69, .aload_n 0, 1), (70, .iload 7, 2), (72, .invokevirtual 94, 3), (75, .isub, 1), (76, .istore 9, 2), (78, .aload_n 0, 1), (79, .iload 5, 2), (81, .iload_n 2, 1), (82, .invokevirtual 91, 3), (85, .aload_n 0, 1), (86, .iload 5, 2), (88, .invokevirtual 94, 3), (91, .isub, 1), (92, .istore 10, 2), (94, .iload 9, 2), (96, .iload 10, 2), (98, .if_icmp .lt 25, 3), (101, .iload 9, 2), (103, .iload 10, 2), (105, .if_icmp .ne 22, 3), (108, .aload_n 0, 1), (109, .iload 7, 2), (111, .invokevirtual 94, 3), (114, .aload_n 0, 1), (115, .iload 5, 2), (117, .invokevirtual 94, 3), (120, .if_icmp .ge 7, 3), (123, .iconst 1, 1), (124, .goto 4, 3), (127, .iconst 0, 1), (128, .istore 8, 2), (130, .iload 8, 2), (132, .ifCond .eq 8, 3), (135, .iload 7, 2), (137, .goto 5, 3), (140, .iload 5, 2), (142, .istore 5, 2), (144, .iinc 6 1, 3), (147, .goto (-124), 3), (150, .iload 5, 2), (152, .bipush 24, 2), (154, .isub, 1), (155, .istore 4, 2), (157, .goto (-150), 3), (160, .iload 4, 2), (162, .ireturn, 1)]
theorem zo_cX3_reach_0 : zd_ok cX3_reach zl_cX3_reach_0 = true := by decide +kernel
theorem dX3_reach_0 : decode cX3_reach 0 = .ok (.aload_n 1, 1) := zd_at zo_cX3_reach_0 0 rfl
theorem dX3_reach_1 : decode cX3_reach 1 = .ok (.sipush 376, 3) := zd_at zo_cX3_reach_0 1 rfl
theorem dX3_reach_4 : decode cX3_reach 4 = .ok (.iaload, 1) := zd_at zo_cX3_reach_0 2 rfl
theorem dX3_reach_5 : decode cX3_reach 5 = .ok (.istore 4, 2) := zd_at zo_cX3_reach_0 3 rfl
theorem dX3_reach_7 : decode cX3_reach 7 = .ok (.aload_n 1, 1) := zd_at zo_cX3_reach_0 4 rfl
theorem dX3_reach_8 : decode cX3_reach 8 = .ok (.iload 4, 2) := zd_at zo_cX3_reach_0 5 rfl
theorem dX3_reach_10 : decode cX3_reach 10 = .ok (.invokestatic 65, 3) := zd_at zo_cX3_reach_0 6 rfl
theorem dX3_reach_13 : decode cX3_reach 13 = .ok (.iload_n 3, 1) := zd_at zo_cX3_reach_0 7 rfl
theorem dX3_reach_14 : decode cX3_reach 14 = .ok (.if_icmp .le 146, 3) := zd_at zo_cX3_reach_0 8 rfl
theorem dX3_reach_17 : decode cX3_reach 17 = .ok (.iconst (-1), 1) := zd_at zo_cX3_reach_0 9 rfl
theorem dX3_reach_18 : decode cX3_reach 18 = .ok (.istore 5, 2) := zd_at zo_cX3_reach_0 10 rfl
theorem dX3_reach_20 : decode cX3_reach 20 = .ok (.iconst 0, 1) := zd_at zo_cX3_reach_0 11 rfl
theorem dX3_reach_21 : decode cX3_reach 21 = .ok (.istore 6, 2) := zd_at zo_cX3_reach_0 12 rfl
theorem dX3_reach_23 : decode cX3_reach 23 = .ok (.iload 6, 2) := zd_at zo_cX3_reach_0 13 rfl
theorem dX3_reach_25 : decode cX3_reach 25 = .ok (.aload_n 1, 1) := zd_at zo_cX3_reach_0 14 rfl
theorem dX3_reach_26 : decode cX3_reach 26 = .ok (.iload 4, 2) := zd_at zo_cX3_reach_0 15 rfl
theorem dX3_reach_28 : decode cX3_reach 28 = .ok (.invokestatic 69, 3) := zd_at zo_cX3_reach_0 16 rfl
theorem dX3_reach_31 : decode cX3_reach 31 = .ok (.if_icmp .ge 119, 3) := zd_at zo_cX3_reach_0 17 rfl
theorem dX3_reach_34 : decode cX3_reach 34 = .ok (.aload_n 1, 1) := zd_at zo_cX3_reach_0 18 rfl
theorem dX3_reach_35 : decode cX3_reach 35 = .ok (.iload 4, 2) := zd_at zo_cX3_reach_0 19 rfl
theorem dX3_reach_37 : decode cX3_reach 37 = .ok (.iload 6, 2) := zd_at zo_cX3_reach_0 20 rfl
theorem dX3_reach_39 : decode cX3_reach 39 = .ok (.invokestatic 72, 3) := zd_at zo_cX3_reach_0 21 rfl
theorem dX3_reach_42 : decode cX3_reach 42 = .ok (.istore 7, 2) := zd_at zo_cX3_reach_0 22 rfl
theorem dX3_reach_44 : decode cX3_reach 44 = .ok (.iload 5, 2) := zd_at zo_cX3_reach_0 23 rfl
theorem dX3_reach_46 : decode cX3_reach 46 = .ok (.iconst (-1), 1) := zd_at zo_cX3_reach_0 24 rfl
theorem dX3_reach_47 : decode cX3_reach 47 = .ok (.if_icmp .ne 7, 3) := zd_at zo_cX3_reach_0 25 rfl
theorem dX3_reach_50 : decode cX3_reach 50 = .ok (.iconst 1, 1) := zd_at zo_cX3_reach_0 26 rfl
theorem dX3_reach_51 : decode cX3_reach 51 = .ok (.goto 4, 3) := zd_at zo_cX3_reach_0 27 rfl
theorem dX3_reach_54 : decode cX3_reach 54 = .ok (.iconst 0, 1) := zd_at zo_cX3_reach_0 28 rfl
theorem dX3_reach_55 : decode cX3_reach 55 = .ok (.istore 8, 2) := zd_at zo_cX3_reach_0 29 rfl
theorem dX3_reach_57 : decode cX3_reach 57 = .ok (.iload 8, 2) := zd_at zo_cX3_reach_0 30 rfl
theorem dX3_reach_59 : decode cX3_reach 59 = .ok (.ifCond .ne 71, 3) := zd_at zo_cX3_reach_0 31 rfl
theorem dX3_reach_62 : decode cX3_reach 62 = .ok (.aload_n 0, 1) := zd_at zo_cX3_reach_0 32 rfl
theorem dX3_reach_63 : decode cX3_reach 63 = .ok (.iload 7, 2) := zd_at zo_cX3_reach_0 33 rfl
theorem dX3_reach_65 : decode cX3_reach 65 = .ok (.iload_n 2, 1) := zd_at zo_cX3_reach_0 34 rfl
theorem dX3_reach_66 : decode cX3_reach 66 = .ok (.invokevirtual 91, 3) := zd_at zo_cX3_reach_0 35 rfl
theorem dX3_reach_69 : decode cX3_reach 69 = .ok (.aload_n 0, 1) := zd_at zo_cX3_reach_0 36 rfl
theorem dX3_reach_70 : decode cX3_reach 70 = .ok (.iload 7, 2) := zd_at zo_cX3_reach_0 37 rfl
theorem dX3_reach_72 : decode cX3_reach 72 = .ok (.invokevirtual 94, 3) := zd_at zo_cX3_reach_0 38 rfl
theorem dX3_reach_75 : decode cX3_reach 75 = .ok (.isub, 1) := zd_at zo_cX3_reach_0 39 rfl
theorem dX3_reach_76 : decode cX3_reach 76 = .ok (.istore 9, 2) := zd_at zo_cX3_reach_0 40 rfl
theorem dX3_reach_78 : decode cX3_reach 78 = .ok (.aload_n 0, 1) := zd_at zo_cX3_reach_0 41 rfl
theorem dX3_reach_79 : decode cX3_reach 79 = .ok (.iload 5, 2) := zd_at zo_cX3_reach_0 42 rfl
theorem dX3_reach_81 : decode cX3_reach 81 = .ok (.iload_n 2, 1) := zd_at zo_cX3_reach_0 43 rfl
theorem dX3_reach_82 : decode cX3_reach 82 = .ok (.invokevirtual 91, 3) := zd_at zo_cX3_reach_0 44 rfl
theorem dX3_reach_85 : decode cX3_reach 85 = .ok (.aload_n 0, 1) := zd_at zo_cX3_reach_0 45 rfl
theorem dX3_reach_86 : decode cX3_reach 86 = .ok (.iload 5, 2) := zd_at zo_cX3_reach_0 46 rfl
theorem dX3_reach_88 : decode cX3_reach 88 = .ok (.invokevirtual 94, 3) := zd_at zo_cX3_reach_0 47 rfl
theorem dX3_reach_91 : decode cX3_reach 91 = .ok (.isub, 1) := zd_at zo_cX3_reach_0 48 rfl
theorem dX3_reach_92 : decode cX3_reach 92 = .ok (.istore 10, 2) := zd_at zo_cX3_reach_0 49 rfl
theorem dX3_reach_94 : decode cX3_reach 94 = .ok (.iload 9, 2) := zd_at zo_cX3_reach_0 50 rfl
theorem dX3_reach_96 : decode cX3_reach 96 = .ok (.iload 10, 2) := zd_at zo_cX3_reach_0 51 rfl
theorem dX3_reach_98 : decode cX3_reach 98 = .ok (.if_icmp .lt 25, 3) := zd_at zo_cX3_reach_0 52 rfl
theorem dX3_reach_101 : decode cX3_reach 101 = .ok (.iload 9, 2) := zd_at zo_cX3_reach_0 53 rfl
theorem dX3_reach_103 : decode cX3_reach 103 = .ok (.iload 10, 2) := zd_at zo_cX3_reach_0 54 rfl
theorem dX3_reach_105 : decode cX3_reach 105 = .ok (.if_icmp .ne 22, 3) := zd_at zo_cX3_reach_0 55 rfl
theorem dX3_reach_108 : decode cX3_reach 108 = .ok (.aload_n 0, 1) := zd_at zo_cX3_reach_0 56 rfl
theorem dX3_reach_109 : decode cX3_reach 109 = .ok (.iload 7, 2) := zd_at zo_cX3_reach_0 57 rfl
theorem dX3_reach_111 : decode cX3_reach 111 = .ok (.invokevirtual 94, 3) := zd_at zo_cX3_reach_0 58 rfl
theorem dX3_reach_114 : decode cX3_reach 114 = .ok (.aload_n 0, 1) := zd_at zo_cX3_reach_0 59 rfl
theorem dX3_reach_115 : decode cX3_reach 115 = .ok (.iload 5, 2) := zd_at zo_cX3_reach_0 60 rfl
theorem dX3_reach_117 : decode cX3_reach 117 = .ok (.invokevirtual 94, 3) := zd_at zo_cX3_reach_0 61 rfl
theorem dX3_reach_120 : decode cX3_reach 120 = .ok (.if_icmp .ge 7, 3) := zd_at zo_cX3_reach_0 62 rfl
theorem dX3_reach_123 : decode cX3_reach 123 = .ok (.iconst 1, 1) := zd_at zo_cX3_reach_0 63 rfl
theorem dX3_reach_124 : decode cX3_reach 124 = .ok (.goto 4, 3) := zd_at zo_cX3_reach_0 64 rfl
theorem dX3_reach_127 : decode cX3_reach 127 = .ok (.iconst 0, 1) := zd_at zo_cX3_reach_0 65 rfl
theorem dX3_reach_128 : decode cX3_reach 128 = .ok (.istore 8, 2) := zd_at zo_cX3_reach_0 66 rfl
theorem dX3_reach_130 : decode cX3_reach 130 = .ok (.iload 8, 2) := zd_at zo_cX3_reach_0 67 rfl
theorem dX3_reach_132 : decode cX3_reach 132 = .ok (.ifCond .eq 8, 3) := zd_at zo_cX3_reach_0 68 rfl
theorem dX3_reach_135 : decode cX3_reach 135 = .ok (.iload 7, 2) := zd_at zo_cX3_reach_0 69 rfl
theorem dX3_reach_137 : decode cX3_reach 137 = .ok (.goto 5, 3) := zd_at zo_cX3_reach_0 70 rfl
theorem dX3_reach_140 : decode cX3_reach 140 = .ok (.iload 5, 2) := zd_at zo_cX3_reach_0 71 rfl
theorem dX3_reach_142 : decode cX3_reach 142 = .ok (.istore 5, 2) := zd_at zo_cX3_reach_0 72 rfl
theorem dX3_reach_144 : decode cX3_reach 144 = .ok (.iinc 6 1, 3) := zd_at zo_cX3_reach_0 73 rfl
theorem dX3_reach_147 : decode cX3_reach 147 = .ok (.goto (-124), 3) := zd_at zo_cX3_reach_0 74 rfl
theorem dX3_reach_150 : decode cX3_reach 150 = .ok (.iload 5, 2) := zd_at zo_cX3_reach_0 75 rfl
theorem dX3_reach_152 : decode cX3_reach 152 = .ok (.bipush 24, 2) := zd_at zo_cX3_reach_0 76 rfl
theorem dX3_reach_154 : decode cX3_reach 154 = .ok (.isub, 1) := zd_at zo_cX3_reach_0 77 rfl
theorem dX3_reach_155 : decode cX3_reach 155 = .ok (.istore 4, 2) := zd_at zo_cX3_reach_0 78 rfl
theorem dX3_reach_157 : decode cX3_reach 157 = .ok (.goto (-150), 3) := zd_at zo_cX3_reach_0 79 rfl
theorem dX3_reach_160 : decode cX3_reach 160 = .ok (.iload 4, 2) := zd_at zo_cX3_reach_0 80 rfl
theorem dX3_reach_162 : decode cX3_reach 162 = .ok (.ireturn, 1) := zd_at zo_cX3_reach_0 81 rfl
def zl_cX3_throwOut_0 : List (Nat × Instr × Nat) := [(0, .aload_n 1, 1), (1, .iload_n 2, 1), (2, .iconst 0, 1), (3, .invokestatic 72, 3), (6, .istore_n 3, 1), (7, .iconst 1, 1), (8, .istore 4, 2), (10, .iload 4, 2), (12, .aload_n 1, 1), (13, .iload_n 2, 1), (14, .invokestatic 69, 3), (17, .if_icmp .ge 47, 3), (20, .aload_n 1, 1), (21, .iload_n 2, 1), (22, .iload 4, 2), (24, .invokestatic 72, 3), (27, .istore 5, 2), (29, .aload_n 0, 1), (30, .iload 5, 2), (32, .bipush 24, 2), (34, .iload_n 2, 1), (35, .iadd, 1), (36, .invokevirtual 97, 3), (39, .aload_n 0, 1), (40, .iload_n 3, 1), (41, .bipush 24, 2), (43, .iload_n 2, 1), (44, .iadd, 1), (45, .invokevirtual 97, 3), (48, .if_icmp .le 8, 3), (51, .iload 5, 2), (53, .goto 4, 3), (56, .iload_n 3, 1), (57, .istore_n 3, 1), (58, .iinc 4 1, 3), (61, .goto (-51), 3), (64, .aload_n 1, 1), (65, .iload_n 2, 1), (66, .iload_n 3, 1), (67, .invokestatic 100, 3), (70, .aload_n 0, 1), (71, .dup, 1), (72, .getfield 104, 3), (75, .iconst 1, 1), (76, .aload_n 1, 1), (77, .iload_n 2, 1), (78, .invokestatic 65, 3), (81, .ishl, 1), (82, .ior, 1), (83, .putfield 104, 3), (86, .aload_n 1, 1), (87, .sipush 377, 3), (90, .dup2, 1), (91, .iaload, 1), (92, .iconst 1, 1), (93, .iadd, 1), (94, .iastore, 1), (95, .aload_n 0, 1), (96, .iload_n 3, 1), (97, .putfield 107, 3), (100, .aload_n 0, 1), (101, .aload_n 1, 1), (102, .iload_n 2, 1), (103, .invokestatic 65, 3), (106, .putfield 110, 3), (109, .return_, 1)]
theorem zo_cX3_throwOut_0 : zd_ok cX3_throwOut zl_cX3_throwOut_0 = true := by decide +kernel
theorem dX3_throwOut_0 : decode cX3_throwOut 0 = .ok (.aload_n 1, 1) := zd_at zo_cX3_throwOut_0 0 rfl
theorem dX3_throwOut_1 : decode cX3_throwOut 1 = .ok (.iload_n 2, 1) := zd_at zo_cX3_throwOut_0 1 rfl
theorem dX3_throwOut_2 : decode cX3_throwOut 2 = .ok (.iconst 0, 1) := zd_at zo_cX3_throwOut_0 2 rfl
theorem dX3_throwOut_3 : decode cX3_throwOut 3 = .ok (.invokestatic 72, 3) := zd_at zo_cX3_throwOut_0 3 rfl
theorem dX3_throwOut_6 : decode cX3_throwOut 6 = .ok (.istore_n 3, 1) := zd_at zo_cX3_throwOut_0 4 rfl
theorem dX3_throwOut_7 : decode cX3_throwOut 7 = .ok (.iconst 1, 1) := zd_at zo_cX3_throwOut_0 5 rfl
theorem dX3_throwOut_8 : decode cX3_throwOut 8 = .ok (.istore 4, 2) := zd_at zo_cX3_throwOut_0 6 rfl
theorem dX3_throwOut_10 : decode cX3_throwOut 10 = .ok (.iload 4, 2) := zd_at zo_cX3_throwOut_0 7 rfl
theorem dX3_throwOut_12 : decode cX3_throwOut 12 = .ok (.aload_n 1, 1) := zd_at zo_cX3_throwOut_0 8 rfl
theorem dX3_throwOut_13 : decode cX3_throwOut 13 = .ok (.iload_n 2, 1) := zd_at zo_cX3_throwOut_0 9 rfl
theorem dX3_throwOut_14 : decode cX3_throwOut 14 = .ok (.invokestatic 69, 3) := zd_at zo_cX3_throwOut_0 10 rfl
theorem dX3_throwOut_17 : decode cX3_throwOut 17 = .ok (.if_icmp .ge 47, 3) := zd_at zo_cX3_throwOut_0 11 rfl
theorem dX3_throwOut_20 : decode cX3_throwOut 20 = .ok (.aload_n 1, 1) := zd_at zo_cX3_throwOut_0 12 rfl
theorem dX3_throwOut_21 : decode cX3_throwOut 21 = .ok (.iload_n 2, 1) := zd_at zo_cX3_throwOut_0 13 rfl
theorem dX3_throwOut_22 : decode cX3_throwOut 22 = .ok (.iload 4, 2) := zd_at zo_cX3_throwOut_0 14 rfl
theorem dX3_throwOut_24 : decode cX3_throwOut 24 = .ok (.invokestatic 72, 3) := zd_at zo_cX3_throwOut_0 15 rfl
theorem dX3_throwOut_27 : decode cX3_throwOut 27 = .ok (.istore 5, 2) := zd_at zo_cX3_throwOut_0 16 rfl
theorem dX3_throwOut_29 : decode cX3_throwOut 29 = .ok (.aload_n 0, 1) := zd_at zo_cX3_throwOut_0 17 rfl
theorem dX3_throwOut_30 : decode cX3_throwOut 30 = .ok (.iload 5, 2) := zd_at zo_cX3_throwOut_0 18 rfl
theorem dX3_throwOut_32 : decode cX3_throwOut 32 = .ok (.bipush 24, 2) := zd_at zo_cX3_throwOut_0 19 rfl
theorem dX3_throwOut_34 : decode cX3_throwOut 34 = .ok (.iload_n 2, 1) := zd_at zo_cX3_throwOut_0 20 rfl
theorem dX3_throwOut_35 : decode cX3_throwOut 35 = .ok (.iadd, 1) := zd_at zo_cX3_throwOut_0 21 rfl
theorem dX3_throwOut_36 : decode cX3_throwOut 36 = .ok (.invokevirtual 97, 3) := zd_at zo_cX3_throwOut_0 22 rfl
theorem dX3_throwOut_39 : decode cX3_throwOut 39 = .ok (.aload_n 0, 1) := zd_at zo_cX3_throwOut_0 23 rfl
theorem dX3_throwOut_40 : decode cX3_throwOut 40 = .ok (.iload_n 3, 1) := zd_at zo_cX3_throwOut_0 24 rfl
theorem dX3_throwOut_41 : decode cX3_throwOut 41 = .ok (.bipush 24, 2) := zd_at zo_cX3_throwOut_0 25 rfl
theorem dX3_throwOut_43 : decode cX3_throwOut 43 = .ok (.iload_n 2, 1) := zd_at zo_cX3_throwOut_0 26 rfl
theorem dX3_throwOut_44 : decode cX3_throwOut 44 = .ok (.iadd, 1) := zd_at zo_cX3_throwOut_0 27 rfl
theorem dX3_throwOut_45 : decode cX3_throwOut 45 = .ok (.invokevirtual 97, 3) := zd_at zo_cX3_throwOut_0 28 rfl
theorem dX3_throwOut_48 : decode cX3_throwOut 48 = .ok (.if_icmp .le 8, 3) := zd_at zo_cX3_throwOut_0 29 rfl
theorem dX3_throwOut_51 : decode cX3_throwOut 51 = .ok (.iload 5, 2) := zd_at zo_cX3_throwOut_0 30 rfl
theorem dX3_throwOut_53 : decode cX3_throwOut 53 = .ok (.goto 4, 3) := zd_at zo_cX3_throwOut_0 31 rfl
theorem dX3_throwOut_56 : decode cX3_throwOut 56 = .ok (.iload_n 3, 1) := zd_at zo_cX3_throwOut_0 32 rfl
theorem dX3_throwOut_57 : decode cX3_throwOut 57 = .ok (.istore_n 3, 1) := zd_at zo_cX3_throwOut_0 33 rfl
theorem dX3_throwOut_58 : decode cX3_throwOut 58 = .ok (.iinc 4 1, 3) := zd_at zo_cX3_throwOut_0 34 rfl
theorem dX3_throwOut_61 : decode cX3_throwOut 61 = .ok (.goto (-51), 3) := zd_at zo_cX3_throwOut_0 35 rfl
theorem dX3_throwOut_64 : decode cX3_throwOut 64 = .ok (.aload_n 1, 1) := zd_at zo_cX3_throwOut_0 36 rfl
theorem dX3_throwOut_65 : decode cX3_throwOut 65 = .ok (.iload_n 2, 1) := zd_at zo_cX3_throwOut_0 37 rfl
theorem dX3_throwOut_66 : decode cX3_throwOut 66 = .ok (.iload_n 3, 1) := zd_at zo_cX3_throwOut_0 38 rfl
theorem dX3_throwOut_67 : decode cX3_throwOut 67 = .ok (.invokestatic 100, 3) := zd_at zo_cX3_throwOut_0 39 rfl
theorem dX3_throwOut_70 : decode cX3_throwOut 70 = .ok (.aload_n 0, 1) := zd_at zo_cX3_throwOut_0 40 rfl
theorem dX3_throwOut_71 : decode cX3_throwOut 71 = .ok (.dup, 1) := zd_at zo_cX3_throwOut_0 41 rfl
theorem dX3_throwOut_72 : decode cX3_throwOut 72 = .ok (.getfield 104, 3) := zd_at zo_cX3_throwOut_0 42 rfl
theorem dX3_throwOut_75 : decode cX3_throwOut 75 = .ok (.iconst 1, 1) := zd_at zo_cX3_throwOut_0 43 rfl
theorem dX3_throwOut_76 : decode cX3_throwOut 76 = .ok (.aload_n 1, 1) := zd_at zo_cX3_throwOut_0 44 rfl
theorem dX3_throwOut_77 : decode cX3_throwOut 77 = .ok (.iload_n 2, 1) := zd_at zo_cX3_throwOut_0 45 rfl
theorem dX3_throwOut_78 : decode cX3_throwOut 78 = .ok (.invokestatic 65, 3) := zd_at zo_cX3_throwOut_0 46 rfl
theorem dX3_throwOut_81 : decode cX3_throwOut 81 = .ok (.ishl, 1) := zd_at zo_cX3_throwOut_0 47 rfl
theorem dX3_throwOut_82 : decode cX3_throwOut 82 = .ok (.ior, 1) := zd_at zo_cX3_throwOut_0 48 rfl
theorem dX3_throwOut_83 : decode cX3_throwOut 83 = .ok (.putfield 104, 3) := zd_at zo_cX3_throwOut_0 49 rfl
theorem dX3_throwOut_86 : decode cX3_throwOut 86 = .ok (.aload_n 1, 1) := zd_at zo_cX3_throwOut_0 50 rfl
theorem dX3_throwOut_87 : decode cX3_throwOut 87 = .ok (.sipush 377, 3) := zd_at zo_cX3_throwOut_0 51 rfl
theorem dX3_throwOut_90 : decode cX3_throwOut 90 = .ok (.dup2, 1) := zd_at zo_cX3_throwOut_0 52 rfl
theorem dX3_throwOut_91 : decode cX3_throwOut 91 = .ok (.iaload, 1) := zd_at zo_cX3_throwOut_0 53 rfl
theorem dX3_throwOut_92 : decode cX3_throwOut 92 = .ok (.iconst 1, 1) := zd_at zo_cX3_throwOut_0 54 rfl
theorem dX3_throwOut_93 : decode cX3_throwOut 93 = .ok (.iadd, 1) := zd_at zo_cX3_throwOut_0 55 rfl
theorem dX3_throwOut_94 : decode cX3_throwOut 94 = .ok (.iastore, 1) := zd_at zo_cX3_throwOut_0 56 rfl
theorem dX3_throwOut_95 : decode cX3_throwOut 95 = .ok (.aload_n 0, 1) := zd_at zo_cX3_throwOut_0 57 rfl
theorem dX3_throwOut_96 : decode cX3_throwOut 96 = .ok (.iload_n 3, 1) := zd_at zo_cX3_throwOut_0 58 rfl
theorem dX3_throwOut_97 : decode cX3_throwOut 97 = .ok (.putfield 107, 3) := zd_at zo_cX3_throwOut_0 59 rfl
theorem dX3_throwOut_100 : decode cX3_throwOut 100 = .ok (.aload_n 0, 1) := zd_at zo_cX3_throwOut_0 60 rfl
theorem dX3_throwOut_101 : decode cX3_throwOut 101 = .ok (.aload_n 1, 1) := zd_at zo_cX3_throwOut_0 61 rfl
theorem dX3_throwOut_102 : decode cX3_throwOut 102 = .ok (.iload_n 2, 1) := zd_at zo_cX3_throwOut_0 62 rfl
theorem dX3_throwOut_103 : decode cX3_throwOut 103 = .ok (.invokestatic 65, 3) := zd_at zo_cX3_throwOut_0 63 rfl
theorem dX3_throwOut_106 : decode cX3_throwOut 106 = .ok (.putfield 110, 3) := zd_at zo_cX3_throwOut_0 64 rfl
theorem dX3_throwOut_109 : decode cX3_throwOut 109 = .ok (.return_, 1) := zd_at zo_cX3_throwOut_0 65 rfl
