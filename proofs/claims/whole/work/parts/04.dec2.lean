def zl_cX3_split_0 : List (Nat × Instr × Nat) := [(0, .aload_n 1, 1), (1, .iload_n 2, 1), (2, .invokestatic 69, 3), (5, .istore_n 3, 1), (6, .iconst 0, 1), (7, .istore 4, 2), (9, .iconst 1, 1), (10, .istore 5, 2), (12, .iconst 0, 1), (13, .istore 6, 2), (15, .iload 6, 2), (17, .iload_n 3, 1), (18, .if_icmp .ge 23, 3), (21, .aload_n 0, 1), (22, .getfield 32, 3), (25, .iload 6, 2), (27, .aload_n 1, 1), (28, .iload_n 2, 1), (29, .iload 6, 2), (31, .invokestatic 72, 3), (34, .iastore, 1), (35, .iinc 6 1, 3), (38, .goto (-23), 3), (41, .iconst 0, 1), (42, .istore 6, 2), (44, .iload 6, 2), (46, .iload_n 3, 1), (47, .if_icmp .ge 101, 3), (50, .iload 6, 2), (52, .iconst 1, 1), (53, .iadd, 1), (54, .istore 7, 2), (56, .iload 7, 2), (58, .iload_n 3, 1), (59, .if_icmp .ge 83, 3), (62, .aload_n 0, 1), (63, .aload_n 0, 1), (64, .getfield 32, 3), (67, .iload 6, 2), (69, .iaload, 1), (70, .aload_n 0, 1), (71, .getfield 32, 3), (74, .iload 7, 2), (76, .iaload, 1), (77, .invokevirtual 113, 3), (80, .aload_n 0, 1), (81, .aload_n 0, 1), (82, .getfield 32, 3), (85, .iload 4, 2), (87, .iaload, 1), (88, .aload_n 0, 1), (89, .getfield 32, 3), (92, .iload 5, 2), (94, .iaload, 1), (95, .invokevirtual 113, 3), (98, .if_icmp .le 7, 3), (101, .iconst 1, 1), (102, .goto 4, 3), (105, .iconst 0, 1), (106, .istore 8, 2), (108, .iload 8, 2), (110, .ifCond .eq 8, 3), (113, .iload 6, 2), (115, .goto 5, 3), (118, .iload 4, 2), (120, .istore 4, 2), (122, .iload 8, 2), (124, .ifCond .eq 8, 3), (127, .iload 7, 2), (129, .goto 5, 3), (132, .iload 5, 2), (134, .istore 5, 2), (136, .iinc 7 1, 3), (139, .goto (-83), 3), (142, .iinc 6 1, 3), (145, .goto (-101), 3), (148, .aload_n 1, 1), (149, .iload_n 2, 1), (150, .invokestatic 65, 3), (153, .istore 6, 2), (155, .aload_n 1, 1), (156, .iload_n 2, 1), (157, .invokestatic 76, 3), (160, .aload_n 1, 1), (161, .iload_n 2, 1), (162, .invokestatic 55, 3), (165, .iload 6, 2), (167, .iconst 1, 1), (168, .iadd, 1), (169, .iastore, 1), (170, .aload_n 1, 1), (171, .iload 6, 2), (173, .invokestatic 116, 3), (176, .istore 7, 2), (178, .aload_n 0, 1), (179, .aload_n 1, 1), (180, .iload_n 2, 1), (181, .aload_n 0, 1), (182, .getfield 32, 3), (185, .iload 4, 2), (187, .iaload, 1), (188, .invokevirtual 119, 3), (191, .aload_n 0, 1), (192, .aload_n 1, 1), (193, .iload 7, 2), (195, .aload_n 0, 1), (196, .getfield 32, 3), (199, .iload 5, 2), (201, .iaload, 1), (202, .invokevirtual 119, 3), (205, .iload_n 3, 1), (206, .iconst 2, 1), (207, .isub, 1), (208, .istore 8, 2), (210, .iconst 0, 1), (211, .istore 9, 2), (213, .iload 9, 2), (215, .iload_n 3, 1), (216, .if_icmp .ge 64, 3), (219, .iload 9, 2)]
theorem zo_cX3_split_0 : zd_ok cX3_split zl_cX3_split_0 = true := by decide +kernel
theorem dX3_split_0 : decode cX3_split 0 = .ok (.aload_n 1, 1) := zd_at zo_cX3_split_0 0 rfl
theorem dX3_split_1 : decode cX3_split 1 = .ok (.iload_n 2, 1) := zd_at zo_cX3_split_0 1 rfl
theorem dX3_split_2 : decode cX3_split 2 = .ok (.invokestatic 69, 3) := zd_at zo_cX3_split_0 2 rfl
theorem dX3_split_5 : decode cX3_split 5 = .ok (.istore_n 3, 1) := zd_at zo_cX3_split_0 3 rfl
theorem dX3_split_6 : decode cX3_split 6 = .ok (.iconst 0, 1) := zd_at zo_cX3_split_0 4 rfl
theorem dX3_split_7 : decode cX3_split 7 = .ok (.istore 4, 2) := zd_at zo_cX3_split_0 5 rfl
theorem dX3_split_9 : decode cX3_split 9 = .ok (.iconst 1, 1) := zd_at zo_cX3_split_0 6 rfl
theorem dX3_split_10 : decode cX3_split 10 = .ok (.istore 5, 2) := zd_at zo_cX3_split_0 7 rfl
theorem dX3_split_12 : decode cX3_split 12 = .ok (.iconst 0, 1) := zd_at zo_cX3_split_0 8 rfl
theorem dX3_split_13 : decode cX3_split 13 = .ok (.istore 6, 2) := zd_at zo_cX3_split_0 9 rfl
theorem dX3_split_15 : decode cX3_split 15 = .ok (.iload 6, 2) := zd_at zo_cX3_split_0 10 rfl
theorem dX3_split_17 : decode cX3_split 17 = .ok (.iload_n 3, 1) := zd_at zo_cX3_split_0 11 rfl
theorem dX3_split_18 : decode cX3_split 18 = .ok (.if_icmp .ge 23, 3) := zd_at zo_cX3_split_0 12 rfl
theorem dX3_split_21 : decode cX3_split 21 = .ok (.aload_n 0, 1) := zd_at zo_cX3_split_0 13 rfl
theorem dX3_split_22 : decode cX3_split 22 = .ok (.getfield 32, 3) := zd_at zo_cX3_split_0 14 rfl
theorem dX3_split_25 : decode cX3_split 25 = .ok (.iload 6, 2) := zd_at zo_cX3_split_0 15 rfl
theorem dX3_split_27 : decode cX3_split 27 = .ok (.aload_n 1, 1) := zd_at zo_cX3_split_0 16 rfl
theorem dX3_split_28 : decode cX3_split 28 = .ok (.iload_n 2, 1) := zd_at zo_cX3_split_0 17 rfl
theorem dX3_split_29 : decode cX3_split 29 = .ok (.iload 6, 2) := zd_at zo_cX3_split_0 18 rfl
theorem dX3_split_31 : decode cX3_split 31 = .ok (.invokestatic 72, 3) := zd_at zo_cX3_split_0 19 rfl
theorem dX3_split_34 : decode cX3_split 34 = .ok (.iastore, 1) := zd_at zo_cX3_split_0 20 rfl
theorem dX3_split_35 : decode cX3_split 35 = .ok (.iinc 6 1, 3) := zd_at zo_cX3_split_0 21 rfl
theorem dX3_split_38 : decode cX3_split 38 = .ok (.goto (-23), 3) := zd_at zo_cX3_split_0 22 rfl
theorem dX3_split_41 : decode cX3_split 41 = .ok (.iconst 0, 1) := zd_at zo_cX3_split_0 23 rfl
theorem dX3_split_42 : decode cX3_split 42 = .ok (.istore 6, 2) := zd_at zo_cX3_split_0 24 rfl
theorem dX3_split_44 : decode cX3_split 44 = .ok (.iload 6, 2) := zd_at zo_cX3_split_0 25 rfl
theorem dX3_split_46 : decode cX3_split 46 = .ok (.iload_n 3, 1) := zd_at zo_cX3_split_0 26 rfl
theorem dX3_split_47 : decode cX3_split 47 = .ok (.if_icmp .ge 101, 3) := zd_at zo_cX3_split_0 27 rfl
theorem dX3_split_50 : decode cX3_split 50 = .ok (.iload 6, 2) := zd_at zo_cX3_split_0 28 rfl
theorem dX3_split_52 : decode cX3_split 52 = .ok (.iconst 1, 1) := zd_at zo_cX3_split_0 29 rfl
theorem dX3_split_53 : decode cX3_split 53 = .ok (.iadd, 1) := zd_at zo_cX3_split_0 30 rfl
theorem dX3_split_54 : decode cX3_split 54 = .ok (.istore 7, 2) := zd_at zo_cX3_split_0 31 rfl
theorem dX3_split_56 : decode cX3_split 56 = .ok (.iload 7, 2) := zd_at zo_cX3_split_0 32 rfl
theorem dX3_split_58 : decode cX3_split 58 = .ok (.iload_n 3, 1) := zd_at zo_cX3_split_0 33 rfl
theorem dX3_split_59 : decode cX3_split 59 = .ok (.if_icmp .ge 83, 3) := zd_at zo_cX3_split_0 34 rfl
theorem dX3_split_62 : decode cX3_split 62 = .ok (.aload_n 0, 1) := zd_at zo_cX3_split_0 35 rfl
theorem dX3_split_63 : decode cX3_split 63 = .ok (.aload_n 0, 1) := zd_at zo_cX3_split_0 36 rfl
theorem dX3_split_64 : decode cX3_split 64 = .ok (.getfield 32, 3) := zd_at zo_cX3_split_0 37 rfl
theorem dX3_split_67 : decode cX3_split 67 = .ok (.iload 6, 2) := zd_at zo_cX3_split_0 38 rfl
theorem dX3_split_69 : decode cX3_split 69 = .ok (.iaload, 1) := zd_at zo_cX3_split_0 39 rfl
theorem dX3_split_70 : decode cX3_split 70 = .ok (.aload_n 0, 1) := zd_at zo_cX3_split_0 40 rfl
theorem dX3_split_71 : decode cX3_split 71 = .ok (.getfield 32, 3) := zd_at zo_cX3_split_0 41 rfl
theorem dX3_split_74 : decode cX3_split 74 = .ok (.iload 7, 2) := zd_at zo_cX3_split_0 42 rfl
theorem dX3_split_76 : decode cX3_split 76 = .ok (.iaload, 1) := zd_at zo_cX3_split_0 43 rfl
theorem dX3_split_77 : decode cX3_split 77 = .ok (.invokevirtual 113, 3) := zd_at zo_cX3_split_0 44 rfl
theorem dX3_split_80 : decode cX3_split 80 = .ok (.aload_n 0, 1) := zd_at zo_cX3_split_0 45 rfl
theorem dX3_split_81 : decode cX3_split 81 = .ok (.aload_n 0, 1) := zd_at zo_cX3_split_0 46 rfl
theorem dX3_split_82 : decode cX3_split 82 = .ok (.getfield 32, 3) := zd_at zo_cX3_split_0 47 rfl
theorem dX3_split_85 : decode cX3_split 85 = .ok (.iload 4, 2) := zd_at zo_cX3_split_0 48 rfl
theorem dX3_split_87 : decode cX3_split 87 = .ok (.iaload, 1) := zd_at zo_cX3_split_0 49 rfl
theorem dX3_split_88 : decode cX3_split 88 = .ok (.aload_n 0, 1) := zd_at zo_cX3_split_0 50 rfl
theorem dX3_split_89 : decode cX3_split 89 = .ok (.getfield 32, 3) := zd_at zo_cX3_split_0 51 rfl
theorem dX3_split_92 : decode cX3_split 92 = .ok (.iload 5, 2) := zd_at zo_cX3_split_0 52 rfl
theorem dX3_split_94 : decode cX3_split 94 = .ok (.iaload, 1) := zd_at zo_cX3_split_0 53 rfl
theorem dX3_split_95 : decode cX3_split 95 = .ok (.invokevirtual 113, 3) := zd_at zo_cX3_split_0 54 rfl
theorem dX3_split_98 : decode cX3_split 98 = .ok (.if_icmp .le 7, 3) := zd_at zo_cX3_split_0 55 rfl
theorem dX3_split_101 : decode cX3_split 101 = .ok (.iconst 1, 1) := zd_at zo_cX3_split_0 56 rfl
theorem dX3_split_102 : decode cX3_split 102 = .ok (.goto 4, 3) := zd_at zo_cX3_split_0 57 rfl
theorem dX3_split_105 : decode cX3_split 105 = .ok (.iconst 0, 1) := zd_at zo_cX3_split_0 58 rfl
theorem dX3_split_106 : decode cX3_split 106 = .ok (.istore 8, 2) := zd_at zo_cX3_split_0 59 rfl
theorem dX3_split_108 : decode cX3_split 108 = .ok (.iload 8, 2) := zd_at zo_cX3_split_0 60 rfl
theorem dX3_split_110 : decode cX3_split 110 = .ok (.ifCond .eq 8, 3) := zd_at zo_cX3_split_0 61 rfl
theorem dX3_split_113 : decode cX3_split 113 = .ok (.iload 6, 2) := zd_at zo_cX3_split_0 62 rfl
theorem dX3_split_115 : decode cX3_split 115 = .ok (.goto 5, 3) := zd_at zo_cX3_split_0 63 rfl
theorem dX3_split_118 : decode cX3_split 118 = .ok (.iload 4, 2) := zd_at zo_cX3_split_0 64 rfl
theorem dX3_split_120 : decode cX3_split 120 = .ok (.istore 4, 2) := zd_at zo_cX3_split_0 65 rfl
theorem dX3_split_122 : decode cX3_split 122 = .ok (.iload 8, 2) := zd_at zo_cX3_split_0 66 rfl
theorem dX3_split_124 : decode cX3_split 124 = .ok (.ifCond .eq 8, 3) := zd_at zo_cX3_split_0 67 rfl
theorem dX3_split_127 : decode cX3_split 127 = .ok (.iload 7, 2) := zd_at zo_cX3_split_0 68 rfl
theorem dX3_split_129 : decode cX3_split 129 = .ok (.goto 5, 3) := zd_at zo_cX3_split_0 69 rfl
theorem dX3_split_132 : decode cX3_split 132 = .ok (.iload 5, 2) := zd_at zo_cX3_split_0 70 rfl
theorem dX3_split_134 : decode cX3_split 134 = .ok (.istore 5, 2) := zd_at zo_cX3_split_0 71 rfl
theorem dX3_split_136 : decode cX3_split 136 = .ok (.iinc 7 1, 3) := zd_at zo_cX3_split_0 72 rfl
theorem dX3_split_139 : decode cX3_split 139 = .ok (.goto (-83), 3) := zd_at zo_cX3_split_0 73 rfl
theorem dX3_split_142 : decode cX3_split 142 = .ok (.iinc 6 1, 3) := zd_at zo_cX3_split_0 74 rfl
theorem dX3_split_145 : decode cX3_split 145 = .ok (.goto (-101), 3) := zd_at zo_cX3_split_0 75 rfl
theorem dX3_split_148 : decode cX3_split 148 = .ok (.aload_n 1, 1) := zd_at zo_cX3_split_0 76 rfl
theorem dX3_split_149 : decode cX3_split 149 = .ok (.iload_n 2, 1) := zd_at zo_cX3_split_0 77 rfl
theorem dX3_split_150 : decode cX3_split 150 = .ok (.invokestatic 65, 3) := zd_at zo_cX3_split_0 78 rfl
theorem dX3_split_153 : decode cX3_split 153 = .ok (.istore 6, 2) := zd_at zo_cX3_split_0 79 rfl
theorem dX3_split_155 : decode cX3_split 155 = .ok (.aload_n 1, 1) := zd_at zo_cX3_split_0 80 rfl
theorem dX3_split_156 : decode cX3_split 156 = .ok (.iload_n 2, 1) := zd_at zo_cX3_split_0 81 rfl
theorem dX3_split_157 : decode cX3_split 157 = .ok (.invokestatic 76, 3) := zd_at zo_cX3_split_0 82 rfl
theorem dX3_split_160 : decode cX3_split 160 = .ok (.aload_n 1, 1) := zd_at zo_cX3_split_0 83 rfl
theorem dX3_split_161 : decode cX3_split 161 = .ok (.iload_n 2, 1) := zd_at zo_cX3_split_0 84 rfl
theorem dX3_split_162 : decode cX3_split 162 = .ok (.invokestatic 55, 3) := zd_at zo_cX3_split_0 85 rfl
theorem dX3_split_165 : decode cX3_split 165 = .ok (.iload 6, 2) := zd_at zo_cX3_split_0 86 rfl
theorem dX3_split_167 : decode cX3_split 167 = .ok (.iconst 1, 1) := zd_at zo_cX3_split_0 87 rfl
theorem dX3_split_168 : decode cX3_split 168 = .ok (.iadd, 1) := zd_at zo_cX3_split_0 88 rfl
theorem dX3_split_169 : decode cX3_split 169 = .ok (.iastore, 1) := zd_at zo_cX3_split_0 89 rfl
theorem dX3_split_170 : decode cX3_split 170 = .ok (.aload_n 1, 1) := zd_at zo_cX3_split_0 90 rfl
theorem dX3_split_171 : decode cX3_split 171 = .ok (.iload 6, 2) := zd_at zo_cX3_split_0 91 rfl
theorem dX3_split_173 : decode cX3_split 173 = .ok (.invokestatic 116, 3) := zd_at zo_cX3_split_0 92 rfl
theorem dX3_split_176 : decode cX3_split 176 = .ok (.istore 7, 2) := zd_at zo_cX3_split_0 93 rfl
theorem dX3_split_178 : decode cX3_split 178 = .ok (.aload_n 0, 1) := zd_at zo_cX3_split_0 94 rfl
theorem dX3_split_179 : decode cX3_split 179 = .ok (.aload_n 1, 1) := zd_at zo_cX3_split_0 95 rfl
theorem dX3_split_180 : decode cX3_split 180 = .ok (.iload_n 2, 1) := zd_at zo_cX3_split_0 96 rfl
theorem dX3_split_181 : decode cX3_split 181 = .ok (.aload_n 0, 1) := zd_at zo_cX3_split_0 97 rfl
theorem dX3_split_182 : decode cX3_split 182 = .ok (.getfield 32, 3) := zd_at zo_cX3_split_0 98 rfl
theorem dX3_split_185 : decode cX3_split 185 = .ok (.iload 4, 2) := zd_at zo_cX3_split_0 99 rfl
theorem dX3_split_187 : decode cX3_split 187 = .ok (.iaload, 1) := zd_at zo_cX3_split_0 100 rfl
theorem dX3_split_188 : decode cX3_split 188 = .ok (.invokevirtual 119, 3) := zd_at zo_cX3_split_0 101 rfl
theorem dX3_split_191 : decode cX3_split 191 = .ok (.aload_n 0, 1) := zd_at zo_cX3_split_0 102 rfl
theorem dX3_split_192 : decode cX3_split 192 = .ok (.aload_n 1, 1) := zd_at zo_cX3_split_0 103 rfl
theorem dX3_split_193 : decode cX3_split 193 = .ok (.iload 7, 2) := zd_at zo_cX3_split_0 104 rfl
theorem dX3_split_195 : decode cX3_split 195 = .ok (.aload_n 0, 1) := zd_at zo_cX3_split_0 105 rfl
theorem dX3_split_196 : decode cX3_split 196 = .ok (.getfield 32, 3) := zd_at zo_cX3_split_0 106 rfl
theorem dX3_split_199 : decode cX3_split 199 = .ok (.iload 5, 2) := zd_at zo_cX3_split_0 107 rfl
theorem dX3_split_201 : decode cX3_split 201 = .ok (.iaload, 1) := zd_at zo_cX3_split_0 108 rfl
theorem dX3_split_202 : decode cX3_split 202 = .ok (.invokevirtual 119, 3) := zd_at zo_cX3_split_0 109 rfl
theorem dX3_split_205 : decode cX3_split 205 = .ok (.iload_n 3, 1) := zd_at zo_cX3_split_0 110 rfl
theorem dX3_split_206 : decode cX3_split 206 = .ok (.iconst 2, 1) := zd_at zo_cX3_split_0 111 rfl
theorem dX3_split_207 : decode cX3_split 207 = .ok (.isub, 1) := zd_at zo_cX3_split_0 112 rfl
theorem dX3_split_208 : decode cX3_split 208 = .ok (.istore 8, 2) := zd_at zo_cX3_split_0 113 rfl
theorem dX3_split_210 : decode cX3_split 210 = .ok (.iconst 0, 1) := zd_at zo_cX3_split_0 114 rfl
theorem dX3_split_211 : decode cX3_split 211 = .ok (.istore 9, 2) := zd_at zo_cX3_split_0 115 rfl
theorem dX3_split_213 : decode cX3_split 213 = .ok (.iload 9, 2) := zd_at zo_cX3_split_0 116 rfl
theorem dX3_split_215 : decode cX3_split 215 = .ok (.iload_n 3, 1) := zd_at zo_cX3_split_0 117 rfl
theorem dX3_split_216 : decode cX3_split 216 = .ok (.if_icmp .ge 64, 3) := zd_at zo_cX3_split_0 118 rfl
theorem dX3_split_219 : decode cX3_split 219 = .ok (.iload 9, 2) := zd_at zo_cX3_split_0 119 rfl
def zl_cX3_split_120 : List (Nat × Instr × Nat) := [(221, .iload 4, 2), (223, .if_icmp .eq 51, 3), (226, .iload 9, 2), (228, .iload 5, 2), (230, .if_icmp .eq 44, 3), (233, .aload_n 0, 1), (234, .aload_n 1, 1), (235, .aload_n 0, 1), (236, .aload_n 1, 1), (237, .iload_n 2, 1), (238, .iload 7, 2), (240, .aload_n 0, 1), (241, .getfield 32, 3), (244, .iload 9, 2), (246, .iaload, 1), (247, .iload 8, 2), (249, .invokevirtual 122, 3), (252, .ifCond .eq 7, 3), (255, .iload_n 2, 1), (256, .goto 5, 3), (259, .iload 7, 2), (261, .aload_n 0, 1), (262, .getfield 32, 3), (265, .iload 9, 2), (267, .iaload, 1), (268, .invokevirtual 119, 3), (271, .iinc 8 (-1), 3), (274, .iinc 9 1, 3), (277, .goto (-64), 3), (280, .aload_n 1, 1), (281, .sipush 378, 3), (284, .dup2, 1), (285, .iaload, 1), (286, .iconst 1, 1), (287, .iadd, 1), (288, .iastore, 1), (289, .iload 7, 2), (291, .ireturn, 1)]
theorem zo_cX3_split_120 : zd_ok cX3_split zl_cX3_split_120 = true := by decide +kernel
theorem dX3_split_221 : decode cX3_split 221 = .ok (.iload 4, 2) := zd_at zo_cX3_split_120 0 rfl
theorem dX3_split_223 : decode cX3_split 223 = .ok (.if_icmp .eq 51, 3) := zd_at zo_cX3_split_120 1 rfl
theorem dX3_split_226 : decode cX3_split 226 = .ok (.iload 9, 2) := zd_at zo_cX3_split_120 2 rfl
theorem dX3_split_228 : decode cX3_split 228 = .ok (.iload 5, 2) := zd_at zo_cX3_split_120 3 rfl
theorem dX3_split_230 : decode cX3_split 230 = .ok (.if_icmp .eq 44, 3) := zd_at zo_cX3_split_120 4 rfl
theorem dX3_split_233 : decode cX3_split 233 = .ok (.aload_n 0, 1) := zd_at zo_cX3_split_120 5 rfl
theorem dX3_split_234 : decode cX3_split 234 = .ok (.aload_n 1, 1) := zd_at zo_cX3_split_120 6 rfl
theorem dX3_split_235 : decode cX3_split 235 = .ok (.aload_n 0, 1) := zd_at zo_cX3_split_120 7 rfl
theorem dX3_split_236 : decode cX3_split 236 = .ok (.aload_n 1, 1) := zd_at zo_cX3_split_120 8 rfl
theorem dX3_split_237 : decode cX3_split 237 = .ok (.iload_n 2, 1) := zd_at zo_cX3_split_120 9 rfl
theorem dX3_split_238 : decode cX3_split 238 = .ok (.iload 7, 2) := zd_at zo_cX3_split_120 10 rfl
theorem dX3_split_240 : decode cX3_split 240 = .ok (.aload_n 0, 1) := zd_at zo_cX3_split_120 11 rfl
theorem dX3_split_241 : decode cX3_split 241 = .ok (.getfield 32, 3) := zd_at zo_cX3_split_120 12 rfl
theorem dX3_split_244 : decode cX3_split 244 = .ok (.iload 9, 2) := zd_at zo_cX3_split_120 13 rfl
theorem dX3_split_246 : decode cX3_split 246 = .ok (.iaload, 1) := zd_at zo_cX3_split_120 14 rfl
theorem dX3_split_247 : decode cX3_split 247 = .ok (.iload 8, 2) := zd_at zo_cX3_split_120 15 rfl
theorem dX3_split_249 : decode cX3_split 249 = .ok (.invokevirtual 122, 3) := zd_at zo_cX3_split_120 16 rfl
theorem dX3_split_252 : decode cX3_split 252 = .ok (.ifCond .eq 7, 3) := zd_at zo_cX3_split_120 17 rfl
theorem dX3_split_255 : decode cX3_split 255 = .ok (.iload_n 2, 1) := zd_at zo_cX3_split_120 18 rfl
theorem dX3_split_256 : decode cX3_split 256 = .ok (.goto 5, 3) := zd_at zo_cX3_split_120 19 rfl
theorem dX3_split_259 : decode cX3_split 259 = .ok (.iload 7, 2) := zd_at zo_cX3_split_120 20 rfl
theorem dX3_split_261 : decode cX3_split 261 = .ok (.aload_n 0, 1) := zd_at zo_cX3_split_120 21 rfl
theorem dX3_split_262 : decode cX3_split 262 = .ok (.getfield 32, 3) := zd_at zo_cX3_split_120 22 rfl
theorem dX3_split_265 : decode cX3_split 265 = .ok (.iload 9, 2) := zd_at zo_cX3_split_120 23 rfl
theorem dX3_split_267 : decode cX3_split 267 = .ok (.iaload, 1) := zd_at zo_cX3_split_120 24 rfl
theorem dX3_split_268 : decode cX3_split 268 = .ok (.invokevirtual 119, 3) := zd_at zo_cX3_split_120 25 rfl
theorem dX3_split_271 : decode cX3_split 271 = .ok (.iinc 8 (-1), 3) := zd_at zo_cX3_split_120 26 rfl
theorem dX3_split_274 : decode cX3_split 274 = .ok (.iinc 9 1, 3) := zd_at zo_cX3_split_120 27 rfl
theorem dX3_split_277 : decode cX3_split 277 = .ok (.goto (-64), 3) := zd_at zo_cX3_split_120 28 rfl
theorem dX3_split_280 : decode cX3_split 280 = .ok (.aload_n 1, 1) := zd_at zo_cX3_split_120 29 rfl
theorem dX3_split_281 : decode cX3_split 281 = .ok (.sipush 378, 3) := zd_at zo_cX3_split_120 30 rfl
theorem dX3_split_284 : decode cX3_split 284 = .ok (.dup2, 1) := zd_at zo_cX3_split_120 31 rfl
theorem dX3_split_285 : decode cX3_split 285 = .ok (.iaload, 1) := zd_at zo_cX3_split_120 32 rfl
theorem dX3_split_286 : decode cX3_split 286 = .ok (.iconst 1, 1) := zd_at zo_cX3_split_120 33 rfl
theorem dX3_split_287 : decode cX3_split 287 = .ok (.iadd, 1) := zd_at zo_cX3_split_120 34 rfl
theorem dX3_split_288 : decode cX3_split 288 = .ok (.iastore, 1) := zd_at zo_cX3_split_120 35 rfl
theorem dX3_split_289 : decode cX3_split 289 = .ok (.iload 7, 2) := zd_at zo_cX3_split_120 36 rfl
theorem dX3_split_291 : decode cX3_split 291 = .ok (.ireturn, 1) := zd_at zo_cX3_split_120 37 rfl
def zl_cX3_waste_0 : List (Nat × Instr × Nat) := [(0, .aload_n 0, 1), (1, .iload_n 1, 1), (2, .iload_n 2, 1), (3, .invokevirtual 91, 3), (6, .aload_n 0, 1), (7, .iload_n 1, 1), (8, .invokevirtual 94, 3), (11, .isub, 1), (12, .aload_n 0, 1), (13, .iload_n 2, 1), (14, .invokevirtual 94, 3), (17, .isub, 1), (18, .ireturn, 1)]
theorem zo_cX3_waste_0 : zd_ok cX3_waste zl_cX3_waste_0 = true := by decide +kernel
theorem dX3_waste_0 : decode cX3_waste 0 = .ok (.aload_n 0, 1) := zd_at zo_cX3_waste_0 0 rfl
theorem dX3_waste_1 : decode cX3_waste 1 = .ok (.iload_n 1, 1) := zd_at zo_cX3_waste_0 1 rfl
theorem dX3_waste_2 : decode cX3_waste 2 = .ok (.iload_n 2, 1) := zd_at zo_cX3_waste_0 2 rfl
theorem dX3_waste_3 : decode cX3_waste 3 = .ok (.invokevirtual 91, 3) := zd_at zo_cX3_waste_0 3 rfl
theorem dX3_waste_6 : decode cX3_waste 6 = .ok (.aload_n 0, 1) := zd_at zo_cX3_waste_0 4 rfl
theorem dX3_waste_7 : decode cX3_waste 7 = .ok (.iload_n 1, 1) := zd_at zo_cX3_waste_0 5 rfl
theorem dX3_waste_8 : decode cX3_waste 8 = .ok (.invokevirtual 94, 3) := zd_at zo_cX3_waste_0 6 rfl
theorem dX3_waste_11 : decode cX3_waste 11 = .ok (.isub, 1) := zd_at zo_cX3_waste_0 7 rfl
theorem dX3_waste_12 : decode cX3_waste 12 = .ok (.aload_n 0, 1) := zd_at zo_cX3_waste_0 8 rfl
theorem dX3_waste_13 : decode cX3_waste 13 = .ok (.iload_n 2, 1) := zd_at zo_cX3_waste_0 9 rfl
theorem dX3_waste_14 : decode cX3_waste 14 = .ok (.invokevirtual 94, 3) := zd_at zo_cX3_waste_0 10 rfl
theorem dX3_waste_17 : decode cX3_waste 17 = .ok (.isub, 1) := zd_at zo_cX3_waste_0 11 rfl
theorem dX3_waste_18 : decode cX3_waste 18 = .ok (.ireturn, 1) := zd_at zo_cX3_waste_0 12 rfl
def zl_cX3_take_0 : List (Nat × Instr × Nat) := [(0, .aload_n 0, 1), (1, .bipush 24, 2), (3, .iload_n 2, 1), (4, .iadd, 1), (5, .iload_n 3, 1), (6, .aload_n 1, 1), (7, .iload_n 2, 1), (8, .invokestatic 69, 3), (11, .ifCond .ne 7, 3), (14, .iconst 1, 1), (15, .goto 4, 3), (18, .iconst 0, 1), (19, .invokevirtual 80, 3), (22, .aload_n 1, 1), (23, .iload_n 2, 1), (24, .aload_n 1, 1), (25, .iload_n 2, 1), (26, .invokestatic 69, 3), (29, .iload_n 3, 1), (30, .invokestatic 126, 3), (33, .return_, 1)]
theorem zo_cX3_take_0 : zd_ok cX3_take zl_cX3_take_0 = true := by decide +kernel
theorem dX3_take_0 : decode cX3_take 0 = .ok (.aload_n 0, 1) := zd_at zo_cX3_take_0 0 rfl
theorem dX3_take_1 : decode cX3_take 1 = .ok (.bipush 24, 2) := zd_at zo_cX3_take_0 1 rfl
theorem dX3_take_3 : decode cX3_take 3 = .ok (.iload_n 2, 1) := zd_at zo_cX3_take_0 2 rfl
theorem dX3_take_4 : decode cX3_take 4 = .ok (.iadd, 1) := zd_at zo_cX3_take_0 3 rfl
theorem dX3_take_5 : decode cX3_take 5 = .ok (.iload_n 3, 1) := zd_at zo_cX3_take_0 4 rfl
theorem dX3_take_6 : decode cX3_take 6 = .ok (.aload_n 1, 1) := zd_at zo_cX3_take_0 5 rfl
theorem dX3_take_7 : decode cX3_take 7 = .ok (.iload_n 2, 1) := zd_at zo_cX3_take_0 6 rfl
theorem dX3_take_8 : decode cX3_take 8 = .ok (.invokestatic 69, 3) := zd_at zo_cX3_take_0 7 rfl
theorem dX3_take_11 : decode cX3_take 11 = .ok (.ifCond .ne 7, 3) := zd_at zo_cX3_take_0 8 rfl
theorem dX3_take_14 : decode cX3_take 14 = .ok (.iconst 1, 1) := zd_at zo_cX3_take_0 9 rfl
theorem dX3_take_15 : decode cX3_take 15 = .ok (.goto 4, 3) := zd_at zo_cX3_take_0 10 rfl
theorem dX3_take_18 : decode cX3_take 18 = .ok (.iconst 0, 1) := zd_at zo_cX3_take_0 11 rfl
theorem dX3_take_19 : decode cX3_take 19 = .ok (.invokevirtual 80, 3) := zd_at zo_cX3_take_0 12 rfl
theorem dX3_take_22 : decode cX3_take 22 = .ok (.aload_n 1, 1) := zd_at zo_cX3_take_0 13 rfl
theorem dX3_take_23 : decode cX3_take 23 = .ok (.iload_n 2, 1) := zd_at zo_cX3_take_0 14 rfl
theorem dX3_take_24 : decode cX3_take 24 = .ok (.aload_n 1, 1) := zd_at zo_cX3_take_0 15 rfl
theorem dX3_take_25 : decode cX3_take 25 = .ok (.iload_n 2, 1) := zd_at zo_cX3_take_0 16 rfl
theorem dX3_take_26 : decode cX3_take 26 = .ok (.invokestatic 69, 3) := zd_at zo_cX3_take_0 17 rfl
theorem dX3_take_29 : decode cX3_take 29 = .ok (.iload_n 3, 1) := zd_at zo_cX3_take_0 18 rfl
theorem dX3_take_30 : decode cX3_take 30 = .ok (.invokestatic 126, 3) := zd_at zo_cX3_take_0 19 rfl
theorem dX3_take_33 : decode cX3_take 33 = .ok (.return_, 1) := zd_at zo_cX3_take_0 20 rfl
def zl_cX3_goesFirst_0 : List (Nat × Instr × Nat) := [(0, .aload_n 1, 1), (1, .iload_n 2, 1), (2, .invokestatic 69, 3), (5, .iload 5, 2), (7, .iadd, 1), (8, .iconst 2, 1), (9, .if_icmp .eq 15, 3), (12, .aload_n 1, 1), (13, .iload_n 3, 1), (14, .invokestatic 69, 3), (17, .iload 5, 2), (19, .iadd, 1), (20, .iconst 2, 1), (21, .if_icmp .ne 21, 3), (24, .aload_n 1, 1), (25, .iload_n 2, 1), (26, .invokestatic 69, 3), (29, .iload 5, 2), (31, .iadd, 1), (32, .iconst 2, 1), (33, .if_icmp .ne 7, 3), (36, .iconst 1, 1), (37, .goto 4, 3), (40, .iconst 0, 1), (41, .ireturn, 1), (42, .bipush 24, 2), (44, .iload_n 2, 1), (45, .iadd, 1), (46, .istore 6, 2), (48, .bipush 24, 2), (50, .iload_n 3, 1), (51, .iadd, 1), (52, .istore 7, 2), (54, .aload_n 0, 1), (55, .iload 6, 2), (57, .iload 4, 2), (59, .invokevirtual 91, 3), (62, .aload_n 0, 1), (63, .iload 6, 2), (65, .invokevirtual 94, 3), (68, .isub, 1), (69, .istore 8, 2), (71, .aload_n 0, 1), (72, .iload 7, 2), (74, .iload 4, 2), (76, .invokevirtual 91, 3), (79, .aload_n 0, 1), (80, .iload 7, 2), (82, .invokevirtual 94, 3), (85, .isub, 1), (86, .istore 9, 2), (88, .iload 8, 2), (90, .iload 9, 2), (92, .if_icmp .eq 18, 3), (95, .iload 8, 2), (97, .iload 9, 2), (99, .if_icmp .ge 7, 3), (102, .iconst 1, 1), (103, .goto 63, 3), (106, .iconst 0, 1), (107, .goto 59, 3), (110, .aload_n 0, 1), (111, .iload 6, 2), (113, .invokevirtual 94, 3), (116, .aload_n 0, 1), (117, .iload 7, 2), (119, .invokevirtual 94, 3), (122, .if_icmp .eq 26, 3), (125, .aload_n 0, 1), (126, .iload 6, 2), (128, .invokevirtual 94, 3), (131, .aload_n 0, 1), (132, .iload 7, 2), (134, .invokevirtual 94, 3), (137, .if_icmp .ge 7, 3), (140, .iconst 1, 1), (141, .goto 25, 3), (144, .iconst 0, 1), (145, .goto 21, 3), (148, .aload_n 1, 1), (149, .iload_n 2, 1), (150, .invokestatic 69, 3), (153, .aload_n 1, 1), (154, .iload_n 3, 1), (155, .invokestatic 69, 3), (158, .if_icmp .gt 7, 3), (161, .iconst 1, 1), (162, .goto 4, 3), (165, .iconst 0, 1), (166, .ireturn, 1)]
theorem zo_cX3_goesFirst_0 : zd_ok cX3_goesFirst zl_cX3_goesFirst_0 = true := by decide +kernel
theorem dX3_goesFirst_0 : decode cX3_goesFirst 0 = .ok (.aload_n 1, 1) := zd_at zo_cX3_goesFirst_0 0 rfl
theorem dX3_goesFirst_1 : decode cX3_goesFirst 1 = .ok (.iload_n 2, 1) := zd_at zo_cX3_goesFirst_0 1 rfl
theorem dX3_goesFirst_2 : decode cX3_goesFirst 2 = .ok (.invokestatic 69, 3) := zd_at zo_cX3_goesFirst_0 2 rfl
theorem dX3_goesFirst_5 : decode cX3_goesFirst 5 = .ok (.iload 5, 2) := zd_at zo_cX3_goesFirst_0 3 rfl
theorem dX3_goesFirst_7 : decode cX3_goesFirst 7 = .ok (.iadd, 1) := zd_at zo_cX3_goesFirst_0 4 rfl
theorem dX3_goesFirst_8 : decode cX3_goesFirst 8 = .ok (.iconst 2, 1) := zd_at zo_cX3_goesFirst_0 5 rfl
theorem dX3_goesFirst_9 : decode cX3_goesFirst 9 = .ok (.if_icmp .eq 15, 3) := zd_at zo_cX3_goesFirst_0 6 rfl
theorem dX3_goesFirst_12 : decode cX3_goesFirst 12 = .ok (.aload_n 1, 1) := zd_at zo_cX3_goesFirst_0 7 rfl
theorem dX3_goesFirst_13 : decode cX3_goesFirst 13 = .ok (.iload_n 3, 1) := zd_at zo_cX3_goesFirst_0 8 rfl
theorem dX3_goesFirst_14 : decode cX3_goesFirst 14 = .ok (.invokestatic 69, 3) := zd_at zo_cX3_goesFirst_0 9 rfl
theorem dX3_goesFirst_17 : decode cX3_goesFirst 17 = .ok (.iload 5, 2) := zd_at zo_cX3_goesFirst_0 10 rfl
theorem dX3_goesFirst_19 : decode cX3_goesFirst 19 = .ok (.iadd, 1) := zd_at zo_cX3_goesFirst_0 11 rfl
theorem dX3_goesFirst_20 : decode cX3_goesFirst 20 = .ok (.iconst 2, 1) := zd_at zo_cX3_goesFirst_0 12 rfl
theorem dX3_goesFirst_21 : decode cX3_goesFirst 21 = .ok (.if_icmp .ne 21, 3) := zd_at zo_cX3_goesFirst_0 13 rfl
theorem dX3_goesFirst_24 : decode cX3_goesFirst 24 = .ok (.aload_n 1, 1) := zd_at zo_cX3_goesFirst_0 14 rfl
theorem dX3_goesFirst_25 : decode cX3_goesFirst 25 = .ok (.iload_n 2, 1) := zd_at zo_cX3_goesFirst_0 15 rfl
theorem dX3_goesFirst_26 : decode cX3_goesFirst 26 = .ok (.invokestatic 69, 3) := zd_at zo_cX3_goesFirst_0 16 rfl
theorem dX3_goesFirst_29 : decode cX3_goesFirst 29 = .ok (.iload 5, 2) := zd_at zo_cX3_goesFirst_0 17 rfl
theorem dX3_goesFirst_31 : decode cX3_goesFirst 31 = .ok (.iadd, 1) := zd_at zo_cX3_goesFirst_0 18 rfl
theorem dX3_goesFirst_32 : decode cX3_goesFirst 32 = .ok (.iconst 2, 1) := zd_at zo_cX3_goesFirst_0 19 rfl
theorem dX3_goesFirst_33 : decode cX3_goesFirst 33 = .ok (.if_icmp .ne 7, 3) := zd_at zo_cX3_goesFirst_0 20 rfl
theorem dX3_goesFirst_36 : decode cX3_goesFirst 36 = .ok (.iconst 1, 1) := zd_at zo_cX3_goesFirst_0 21 rfl
theorem dX3_goesFirst_37 : decode cX3_goesFirst 37 = .ok (.goto 4, 3) := zd_at zo_cX3_goesFirst_0 22 rfl
theorem dX3_goesFirst_40 : decode cX3_goesFirst 40 = .ok (.iconst 0, 1) := zd_at zo_cX3_goesFirst_0 23 rfl
theorem dX3_goesFirst_41 : decode cX3_goesFirst 41 = .ok (.ireturn, 1) := zd_at zo_cX3_goesFirst_0 24 rfl
theorem dX3_goesFirst_42 : decode cX3_goesFirst 42 = .ok (.bipush 24, 2) := zd_at zo_cX3_goesFirst_0 25 rfl
theorem dX3_goesFirst_44 : decode cX3_goesFirst 44 = .ok (.iload_n 2, 1) := zd_at zo_cX3_goesFirst_0 26 rfl
theorem dX3_goesFirst_45 : decode cX3_goesFirst 45 = .ok (.iadd, 1) := zd_at zo_cX3_goesFirst_0 27 rfl
theorem dX3_goesFirst_46 : decode cX3_goesFirst 46 = .ok (.istore 6, 2) := zd_at zo_cX3_goesFirst_0 28 rfl
theorem dX3_goesFirst_48 : decode cX3_goesFirst 48 = .ok (.bipush 24, 2) := zd_at zo_cX3_goesFirst_0 29 rfl
theorem dX3_goesFirst_50 : decode cX3_goesFirst 50 = .ok (.iload_n 3, 1) := zd_at zo_cX3_goesFirst_0 30 rfl
theorem dX3_goesFirst_51 : decode cX3_goesFirst 51 = .ok (.iadd, 1) := zd_at zo_cX3_goesFirst_0 31 rfl
theorem dX3_goesFirst_52 : decode cX3_goesFirst 52 = .ok (.istore 7, 2) := zd_at zo_cX3_goesFirst_0 32 rfl
theorem dX3_goesFirst_54 : decode cX3_goesFirst 54 = .ok (.aload_n 0, 1) := zd_at zo_cX3_goesFirst_0 33 rfl
theorem dX3_goesFirst_55 : decode cX3_goesFirst 55 = .ok (.iload 6, 2) := zd_at zo_cX3_goesFirst_0 34 rfl
theorem dX3_goesFirst_57 : decode cX3_goesFirst 57 = .ok (.iload 4, 2) := zd_at zo_cX3_goesFirst_0 35 rfl
theorem dX3_goesFirst_59 : decode cX3_goesFirst 59 = .ok (.invokevirtual 91, 3) := zd_at zo_cX3_goesFirst_0 36 rfl
theorem dX3_goesFirst_62 : decode cX3_goesFirst 62 = .ok (.aload_n 0, 1) := zd_at zo_cX3_goesFirst_0 37 rfl
theorem dX3_goesFirst_63 : decode cX3_goesFirst 63 = .ok (.iload 6, 2) := zd_at zo_cX3_goesFirst_0 38 rfl
theorem dX3_goesFirst_65 : decode cX3_goesFirst 65 = .ok (.invokevirtual 94, 3) := zd_at zo_cX3_goesFirst_0 39 rfl
theorem dX3_goesFirst_68 : decode cX3_goesFirst 68 = .ok (.isub, 1) := zd_at zo_cX3_goesFirst_0 40 rfl
theorem dX3_goesFirst_69 : decode cX3_goesFirst 69 = .ok (.istore 8, 2) := zd_at zo_cX3_goesFirst_0 41 rfl
theorem dX3_goesFirst_71 : decode cX3_goesFirst 71 = .ok (.aload_n 0, 1) := zd_at zo_cX3_goesFirst_0 42 rfl
theorem dX3_goesFirst_72 : decode cX3_goesFirst 72 = .ok (.iload 7, 2) := zd_at zo_cX3_goesFirst_0 43 rfl
theorem dX3_goesFirst_74 : decode cX3_goesFirst 74 = .ok (.iload 4, 2) := zd_at zo_cX3_goesFirst_0 44 rfl
theorem dX3_goesFirst_76 : decode cX3_goesFirst 76 = .ok (.invokevirtual 91, 3) := zd_at zo_cX3_goesFirst_0 45 rfl
theorem dX3_goesFirst_79 : decode cX3_goesFirst 79 = .ok (.aload_n 0, 1) := zd_at zo_cX3_goesFirst_0 46 rfl
theorem dX3_goesFirst_80 : decode cX3_goesFirst 80 = .ok (.iload 7, 2) := zd_at zo_cX3_goesFirst_0 47 rfl
theorem dX3_goesFirst_82 : decode cX3_goesFirst 82 = .ok (.invokevirtual 94, 3) := zd_at zo_cX3_goesFirst_0 48 rfl
theorem dX3_goesFirst_85 : decode cX3_goesFirst 85 = .ok (.isub, 1) := zd_at zo_cX3_goesFirst_0 49 rfl
theorem dX3_goesFirst_86 : decode cX3_goesFirst 86 = .ok (.istore 9, 2) := zd_at zo_cX3_goesFirst_0 50 rfl
theorem dX3_goesFirst_88 : decode cX3_goesFirst 88 = .ok (.iload 8, 2) := zd_at zo_cX3_goesFirst_0 51 rfl
theorem dX3_goesFirst_90 : decode cX3_goesFirst 90 = .ok (.iload 9, 2) := zd_at zo_cX3_goesFirst_0 52 rfl
theorem dX3_goesFirst_92 : decode cX3_goesFirst 92 = .ok (.if_icmp .eq 18, 3) := zd_at zo_cX3_goesFirst_0 53 rfl
theorem dX3_goesFirst_95 : decode cX3_goesFirst 95 = .ok (.iload 8, 2) := zd_at zo_cX3_goesFirst_0 54 rfl
theorem dX3_goesFirst_97 : decode cX3_goesFirst 97 = .ok (.iload 9, 2) := zd_at zo_cX3_goesFirst_0 55 rfl
theorem dX3_goesFirst_99 : decode cX3_goesFirst 99 = .ok (.if_icmp .ge 7, 3) := zd_at zo_cX3_goesFirst_0 56 rfl
theorem dX3_goesFirst_102 : decode cX3_goesFirst 102 = .ok (.iconst 1, 1) := zd_at zo_cX3_goesFirst_0 57 rfl
theorem dX3_goesFirst_103 : decode cX3_goesFirst 103 = .ok (.goto 63, 3) := zd_at zo_cX3_goesFirst_0 58 rfl
theorem dX3_goesFirst_106 : decode cX3_goesFirst 106 = .ok (.iconst 0, 1) := zd_at zo_cX3_goesFirst_0 59 rfl
theorem dX3_goesFirst_107 : decode cX3_goesFirst 107 = .ok (.goto 59, 3) := zd_at zo_cX3_goesFirst_0 60 rfl
theorem dX3_goesFirst_110 : decode cX3_goesFirst 110 = .ok (.aload_n 0, 1) := zd_at zo_cX3_goesFirst_0 61 rfl
theorem dX3_goesFirst_111 : decode cX3_goesFirst 111 = .ok (.iload 6, 2) := zd_at zo_cX3_goesFirst_0 62 rfl
theorem dX3_goesFirst_113 : decode cX3_goesFirst 113 = .ok (.invokevirtual 94, 3) := zd_at zo_cX3_goesFirst_0 63 rfl
theorem dX3_goesFirst_116 : decode cX3_goesFirst 116 = .ok (.aload_n 0, 1) := zd_at zo_cX3_goesFirst_0 64 rfl
theorem dX3_goesFirst_117 : decode cX3_goesFirst 117 = .ok (.iload 7, 2) := zd_at zo_cX3_goesFirst_0 65 rfl
theorem dX3_goesFirst_119 : decode cX3_goesFirst 119 = .ok (.invokevirtual 94, 3) := zd_at zo_cX3_goesFirst_0 66 rfl
theorem dX3_goesFirst_122 : decode cX3_goesFirst 122 = .ok (.if_icmp .eq 26, 3) := zd_at zo_cX3_goesFirst_0 67 rfl
theorem dX3_goesFirst_125 : decode cX3_goesFirst 125 = .ok (.aload_n 0, 1) := zd_at zo_cX3_goesFirst_0 68 rfl
theorem dX3_goesFirst_126 : decode cX3_goesFirst 126 = .ok (.iload 6, 2) := zd_at zo_cX3_goesFirst_0 69 rfl
theorem dX3_goesFirst_128 : decode cX3_goesFirst 128 = .ok (.invokevirtual 94, 3) := zd_at zo_cX3_goesFirst_0 70 rfl
theorem dX3_goesFirst_131 : decode cX3_goesFirst 131 = .ok (.aload_n 0, 1) := zd_at zo_cX3_goesFirst_0 71 rfl
theorem dX3_goesFirst_132 : decode cX3_goesFirst 132 = .ok (.iload 7, 2) := zd_at zo_cX3_goesFirst_0 72 rfl
theorem dX3_goesFirst_134 : decode cX3_goesFirst 134 = .ok (.invokevirtual 94, 3) := zd_at zo_cX3_goesFirst_0 73 rfl
theorem dX3_goesFirst_137 : decode cX3_goesFirst 137 = .ok (.if_icmp .ge 7, 3) := zd_at zo_cX3_goesFirst_0 74 rfl
theorem dX3_goesFirst_140 : decode cX3_goesFirst 140 = .ok (.iconst 1, 1) := zd_at zo_cX3_goesFirst_0 75 rfl
theorem dX3_goesFirst_141 : decode cX3_goesFirst 141 = .ok (.goto 25, 3) := zd_at zo_cX3_goesFirst_0 76 rfl
theorem dX3_goesFirst_144 : decode cX3_goesFirst 144 = .ok (.iconst 0, 1) := zd_at zo_cX3_goesFirst_0 77 rfl
theorem dX3_goesFirst_145 : decode cX3_goesFirst 145 = .ok (.goto 21, 3) := zd_at zo_cX3_goesFirst_0 78 rfl
theorem dX3_goesFirst_148 : decode cX3_goesFirst 148 = .ok (.aload_n 1, 1) := zd_at zo_cX3_goesFirst_0 79 rfl
theorem dX3_goesFirst_149 : decode cX3_goesFirst 149 = .ok (.iload_n 2, 1) := zd_at zo_cX3_goesFirst_0 80 rfl
theorem dX3_goesFirst_150 : decode cX3_goesFirst 150 = .ok (.invokestatic 69, 3) := zd_at zo_cX3_goesFirst_0 81 rfl
theorem dX3_goesFirst_153 : decode cX3_goesFirst 153 = .ok (.aload_n 1, 1) := zd_at zo_cX3_goesFirst_0 82 rfl
theorem dX3_goesFirst_154 : decode cX3_goesFirst 154 = .ok (.iload_n 3, 1) := zd_at zo_cX3_goesFirst_0 83 rfl
theorem dX3_goesFirst_155 : decode cX3_goesFirst 155 = .ok (.invokestatic 69, 3) := zd_at zo_cX3_goesFirst_0 84 rfl
theorem dX3_goesFirst_158 : decode cX3_goesFirst 158 = .ok (.if_icmp .gt 7, 3) := zd_at zo_cX3_goesFirst_0 85 rfl
theorem dX3_goesFirst_161 : decode cX3_goesFirst 161 = .ok (.iconst 1, 1) := zd_at zo_cX3_goesFirst_0 86 rfl
theorem dX3_goesFirst_162 : decode cX3_goesFirst 162 = .ok (.goto 4, 3) := zd_at zo_cX3_goesFirst_0 87 rfl
theorem dX3_goesFirst_165 : decode cX3_goesFirst 165 = .ok (.iconst 0, 1) := zd_at zo_cX3_goesFirst_0 88 rfl
theorem dX3_goesFirst_166 : decode cX3_goesFirst 166 = .ok (.ireturn, 1) := zd_at zo_cX3_goesFirst_0 89 rfl
def zl_cX3_treat_0 : List (Nat × Instr × Nat) := [(0, .iload_n 2, 1), (1, .istore_n 3, 1), (2, .iload_n 3, 1), (3, .iconst (-1), 1), (4, .if_icmp .eq 152, 3), (7, .aload_n 1, 1), (8, .iload_n 3, 1), (9, .invokestatic 69, 3), (12, .iconst 4, 1), (13, .if_icmp .le 143, 3), (16, .aload_n 0, 1), (17, .aload_n 1, 1), (18, .invokevirtual 130, 3), (21, .iload_n 3, 1), (22, .aload_n 1, 1), (23, .sipush 376, 3), (26, .iaload, 1), (27, .if_icmp .eq 29, 3), (30, .aload_n 0, 1), (31, .getfield 104, 3), (34, .aload_n 1, 1), (35, .iload_n 3, 1), (36, .invokestatic 65, 3), (39, .ishr, 1), (40, .iconst 1, 1), (41, .iand, 1), (42, .ifCond .ne 14, 3), (45, .aload_n 0, 1), (46, .aload_n 1, 1), (47, .iload_n 3, 1), (48, .invokevirtual 133, 3), (51, .iconst (-1), 1), (52, .istore_n 3, 1), (53, .goto (-51), 3), (56, .aload_n 1, 1), (57, .bipush 24, 2), (59, .iload_n 3, 1), (60, .iadd, 1), (61, .invokestatic 136, 3), (64, .istore 4, 2), (66, .aload_n 0, 1), (67, .aload_n 1, 1), (68, .iload_n 3, 1), (69, .invokevirtual 139, 3), (72, .istore 5, 2), (74, .iload 4, 2), (76, .iconst (-1), 1), (77, .if_icmp .ne 34, 3), (80, .aload_n 1, 1), (81, .aload_n 1, 1), (82, .iload_n 3, 1), (83, .invokestatic 65, 3), (86, .iconst 1, 1), (87, .iadd, 1), (88, .invokestatic 116, 3), (91, .istore 4, 2), (93, .aload_n 1, 1), (94, .iload 4, 2), (96, .iconst 0, 1), (97, .bipush 24, 2), (99, .iload_n 3, 1), (100, .iadd, 1), (101, .invokestatic 126, 3), (104, .aload_n 1, 1), (105, .sipush 376, 3), (108, .iload 4, 2), (110, .iastore, 1), (111, .iconst 0, 1), (112, .istore 6, 2), (114, .aload_n 1, 1), (115, .iload 4, 2), (117, .iload 6, 2), (119, .invokestatic 72, 3), (122, .bipush 24, 2), (124, .iload_n 3, 1), (125, .iadd, 1), (126, .if_icmp .eq 9, 3), (129, .iinc 6 1, 3), (132, .goto (-18), 3), (135, .aload_n 1, 1), (136, .iload 4, 2), (138, .iload 6, 2), (140, .iconst 1, 1), (141, .iadd, 1), (142, .bipush 24, 2), (144, .iload 5, 2), (146, .iadd, 1), (147, .invokestatic 126, 3), (150, .iload 4, 2), (152, .istore_n 3, 1), (153, .goto (-151), 3), (156, .return_, 1)]
theorem zo_cX3_treat_0 : zd_ok cX3_treat zl_cX3_treat_0 = true := by decide +kernel
theorem dX3_treat_0 : decode cX3_treat 0 = .ok (.iload_n 2, 1) := zd_at zo_cX3_treat_0 0 rfl
theorem dX3_treat_1 : decode cX3_treat 1 = .ok (.istore_n 3, 1) := zd_at zo_cX3_treat_0 1 rfl
theorem dX3_treat_2 : decode cX3_treat 2 = .ok (.iload_n 3, 1) := zd_at zo_cX3_treat_0 2 rfl
theorem dX3_treat_3 : decode cX3_treat 3 = .ok (.iconst (-1), 1) := zd_at zo_cX3_treat_0 3 rfl
theorem dX3_treat_4 : decode cX3_treat 4 = .ok (.if_icmp .eq 152, 3) := zd_at zo_cX3_treat_0 4 rfl
theorem dX3_treat_7 : decode cX3_treat 7 = .ok (.aload_n 1, 1) := zd_at zo_cX3_treat_0 5 rfl
theorem dX3_treat_8 : decode cX3_treat 8 = .ok (.iload_n 3, 1) := zd_at zo_cX3_treat_0 6 rfl
theorem dX3_treat_9 : decode cX3_treat 9 = .ok (.invokestatic 69, 3) := zd_at zo_cX3_treat_0 7 rfl
theorem dX3_treat_12 : decode cX3_treat 12 = .ok (.iconst 4, 1) := zd_at zo_cX3_treat_0 8 rfl
theorem dX3_treat_13 : decode cX3_treat 13 = .ok (.if_icmp .le 143, 3) := zd_at zo_cX3_treat_0 9 rfl
theorem dX3_treat_16 : decode cX3_treat 16 = .ok (.aload_n 0, 1) := zd_at zo_cX3_treat_0 10 rfl
theorem dX3_treat_17 : decode cX3_treat 17 = .ok (.aload_n 1, 1) := zd_at zo_cX3_treat_0 11 rfl
theorem dX3_treat_18 : decode cX3_treat 18 = .ok (.invokevirtual 130, 3) := zd_at zo_cX3_treat_0 12 rfl
theorem dX3_treat_21 : decode cX3_treat 21 = .ok (.iload_n 3, 1) := zd_at zo_cX3_treat_0 13 rfl
theorem dX3_treat_22 : decode cX3_treat 22 = .ok (.aload_n 1, 1) := zd_at zo_cX3_treat_0 14 rfl
theorem dX3_treat_23 : decode cX3_treat 23 = .ok (.sipush 376, 3) := zd_at zo_cX3_treat_0 15 rfl
theorem dX3_treat_26 : decode cX3_treat 26 = .ok (.iaload, 1) := zd_at zo_cX3_treat_0 16 rfl
theorem dX3_treat_27 : decode cX3_treat 27 = .ok (.if_icmp .eq 29, 3) := zd_at zo_cX3_treat_0 17 rfl
theorem dX3_treat_30 : decode cX3_treat 30 = .ok (.aload_n 0, 1) := zd_at zo_cX3_treat_0 18 rfl
theorem dX3_treat_31 : decode cX3_treat 31 = .ok (.getfield 104, 3) := zd_at zo_cX3_treat_0 19 rfl
theorem dX3_treat_34 : decode cX3_treat 34 = .ok (.aload_n 1, 1) := zd_at zo_cX3_treat_0 20 rfl
theorem dX3_treat_35 : decode cX3_treat 35 = .ok (.iload_n 3, 1) := zd_at zo_cX3_treat_0 21 rfl
theorem dX3_treat_36 : decode cX3_treat 36 = .ok (.invokestatic 65, 3) := zd_at zo_cX3_treat_0 22 rfl
theorem dX3_treat_39 : decode cX3_treat 39 = .ok (.ishr, 1) := zd_at zo_cX3_treat_0 23 rfl
theorem dX3_treat_40 : decode cX3_treat 40 = .ok (.iconst 1, 1) := zd_at zo_cX3_treat_0 24 rfl
theorem dX3_treat_41 : decode cX3_treat 41 = .ok (.iand, 1) := zd_at zo_cX3_treat_0 25 rfl
theorem dX3_treat_42 : decode cX3_treat 42 = .ok (.ifCond .ne 14, 3) := zd_at zo_cX3_treat_0 26 rfl
theorem dX3_treat_45 : decode cX3_treat 45 = .ok (.aload_n 0, 1) := zd_at zo_cX3_treat_0 27 rfl
theorem dX3_treat_46 : decode cX3_treat 46 = .ok (.aload_n 1, 1) := zd_at zo_cX3_treat_0 28 rfl
theorem dX3_treat_47 : decode cX3_treat 47 = .ok (.iload_n 3, 1) := zd_at zo_cX3_treat_0 29 rfl
theorem dX3_treat_48 : decode cX3_treat 48 = .ok (.invokevirtual 133, 3) := zd_at zo_cX3_treat_0 30 rfl
theorem dX3_treat_51 : decode cX3_treat 51 = .ok (.iconst (-1), 1) := zd_at zo_cX3_treat_0 31 rfl
theorem dX3_treat_52 : decode cX3_treat 52 = .ok (.istore_n 3, 1) := zd_at zo_cX3_treat_0 32 rfl
theorem dX3_treat_53 : decode cX3_treat 53 = .ok (.goto (-51), 3) := zd_at zo_cX3_treat_0 33 rfl
theorem dX3_treat_56 : decode cX3_treat 56 = .ok (.aload_n 1, 1) := zd_at zo_cX3_treat_0 34 rfl
theorem dX3_treat_57 : decode cX3_treat 57 = .ok (.bipush 24, 2) := zd_at zo_cX3_treat_0 35 rfl
theorem dX3_treat_59 : decode cX3_treat 59 = .ok (.iload_n 3, 1) := zd_at zo_cX3_treat_0 36 rfl
theorem dX3_treat_60 : decode cX3_treat 60 = .ok (.iadd, 1) := zd_at zo_cX3_treat_0 37 rfl
theorem dX3_treat_61 : decode cX3_treat 61 = .ok (.invokestatic 136, 3) := zd_at zo_cX3_treat_0 38 rfl
theorem dX3_treat_64 : decode cX3_treat 64 = .ok (.istore 4, 2) := zd_at zo_cX3_treat_0 39 rfl
theorem dX3_treat_66 : decode cX3_treat 66 = .ok (.aload_n 0, 1) := zd_at zo_cX3_treat_0 40 rfl
theorem dX3_treat_67 : decode cX3_treat 67 = .ok (.aload_n 1, 1) := zd_at zo_cX3_treat_0 41 rfl
theorem dX3_treat_68 : decode cX3_treat 68 = .ok (.iload_n 3, 1) := zd_at zo_cX3_treat_0 42 rfl
theorem dX3_treat_69 : decode cX3_treat 69 = .ok (.invokevirtual 139, 3) := zd_at zo_cX3_treat_0 43 rfl
theorem dX3_treat_72 : decode cX3_treat 72 = .ok (.istore 5, 2) := zd_at zo_cX3_treat_0 44 rfl
theorem dX3_treat_74 : decode cX3_treat 74 = .ok (.iload 4, 2) := zd_at zo_cX3_treat_0 45 rfl
theorem dX3_treat_76 : decode cX3_treat 76 = .ok (.iconst (-1), 1) := zd_at zo_cX3_treat_0 46 rfl
theorem dX3_treat_77 : decode cX3_treat 77 = .ok (.if_icmp .ne 34, 3) := zd_at zo_cX3_treat_0 47 rfl
theorem dX3_treat_80 : decode cX3_treat 80 = .ok (.aload_n 1, 1) := zd_at zo_cX3_treat_0 48 rfl
theorem dX3_treat_81 : decode cX3_treat 81 = .ok (.aload_n 1, 1) := zd_at zo_cX3_treat_0 49 rfl
theorem dX3_treat_82 : decode cX3_treat 82 = .ok (.iload_n 3, 1) := zd_at zo_cX3_treat_0 50 rfl
theorem dX3_treat_83 : decode cX3_treat 83 = .ok (.invokestatic 65, 3) := zd_at zo_cX3_treat_0 51 rfl
theorem dX3_treat_86 : decode cX3_treat 86 = .ok (.iconst 1, 1) := zd_at zo_cX3_treat_0 52 rfl
theorem dX3_treat_87 : decode cX3_treat 87 = .ok (.iadd, 1) := zd_at zo_cX3_treat_0 53 rfl
theorem dX3_treat_88 : decode cX3_treat 88 = .ok (.invokestatic 116, 3) := zd_at zo_cX3_treat_0 54 rfl
theorem dX3_treat_91 : decode cX3_treat 91 = .ok (.istore 4, 2) := zd_at zo_cX3_treat_0 55 rfl
theorem dX3_treat_93 : decode cX3_treat 93 = .ok (.aload_n 1, 1) := zd_at zo_cX3_treat_0 56 rfl
theorem dX3_treat_94 : decode cX3_treat 94 = .ok (.iload 4, 2) := zd_at zo_cX3_treat_0 57 rfl
theorem dX3_treat_96 : decode cX3_treat 96 = .ok (.iconst 0, 1) := zd_at zo_cX3_treat_0 58 rfl
theorem dX3_treat_97 : decode cX3_treat 97 = .ok (.bipush 24, 2) := zd_at zo_cX3_treat_0 59 rfl
theorem dX3_treat_99 : decode cX3_treat 99 = .ok (.iload_n 3, 1) := zd_at zo_cX3_treat_0 60 rfl
theorem dX3_treat_100 : decode cX3_treat 100 = .ok (.iadd, 1) := zd_at zo_cX3_treat_0 61 rfl
theorem dX3_treat_101 : decode cX3_treat 101 = .ok (.invokestatic 126, 3) := zd_at zo_cX3_treat_0 62 rfl
theorem dX3_treat_104 : decode cX3_treat 104 = .ok (.aload_n 1, 1) := zd_at zo_cX3_treat_0 63 rfl
theorem dX3_treat_105 : decode cX3_treat 105 = .ok (.sipush 376, 3) := zd_at zo_cX3_treat_0 64 rfl
theorem dX3_treat_108 : decode cX3_treat 108 = .ok (.iload 4, 2) := zd_at zo_cX3_treat_0 65 rfl
theorem dX3_treat_110 : decode cX3_treat 110 = .ok (.iastore, 1) := zd_at zo_cX3_treat_0 66 rfl
theorem dX3_treat_111 : decode cX3_treat 111 = .ok (.iconst 0, 1) := zd_at zo_cX3_treat_0 67 rfl
theorem dX3_treat_112 : decode cX3_treat 112 = .ok (.istore 6, 2) := zd_at zo_cX3_treat_0 68 rfl
theorem dX3_treat_114 : decode cX3_treat 114 = .ok (.aload_n 1, 1) := zd_at zo_cX3_treat_0 69 rfl
theorem dX3_treat_115 : decode cX3_treat 115 = .ok (.iload 4, 2) := zd_at zo_cX3_treat_0 70 rfl
theorem dX3_treat_117 : decode cX3_treat 117 = .ok (.iload 6, 2) := zd_at zo_cX3_treat_0 71 rfl
theorem dX3_treat_119 : decode cX3_treat 119 = .ok (.invokestatic 72, 3) := zd_at zo_cX3_treat_0 72 rfl
theorem dX3_treat_122 : decode cX3_treat 122 = .ok (.bipush 24, 2) := zd_at zo_cX3_treat_0 73 rfl
theorem dX3_treat_124 : decode cX3_treat 124 = .ok (.iload_n 3, 1) := zd_at zo_cX3_treat_0 74 rfl
theorem dX3_treat_125 : decode cX3_treat 125 = .ok (.iadd, 1) := zd_at zo_cX3_treat_0 75 rfl
theorem dX3_treat_126 : decode cX3_treat 126 = .ok (.if_icmp .eq 9, 3) := zd_at zo_cX3_treat_0 76 rfl
theorem dX3_treat_129 : decode cX3_treat 129 = .ok (.iinc 6 1, 3) := zd_at zo_cX3_treat_0 77 rfl
theorem dX3_treat_132 : decode cX3_treat 132 = .ok (.goto (-18), 3) := zd_at zo_cX3_treat_0 78 rfl
theorem dX3_treat_135 : decode cX3_treat 135 = .ok (.aload_n 1, 1) := zd_at zo_cX3_treat_0 79 rfl
theorem dX3_treat_136 : decode cX3_treat 136 = .ok (.iload 4, 2) := zd_at zo_cX3_treat_0 80 rfl
theorem dX3_treat_138 : decode cX3_treat 138 = .ok (.iload 6, 2) := zd_at zo_cX3_treat_0 81 rfl
theorem dX3_treat_140 : decode cX3_treat 140 = .ok (.iconst 1, 1) := zd_at zo_cX3_treat_0 82 rfl
theorem dX3_treat_141 : decode cX3_treat 141 = .ok (.iadd, 1) := zd_at zo_cX3_treat_0 83 rfl
theorem dX3_treat_142 : decode cX3_treat 142 = .ok (.bipush 24, 2) := zd_at zo_cX3_treat_0 84 rfl
theorem dX3_treat_144 : decode cX3_treat 144 = .ok (.iload 5, 2) := zd_at zo_cX3_treat_0 85 rfl
theorem dX3_treat_146 : decode cX3_treat 146 = .ok (.iadd, 1) := zd_at zo_cX3_treat_0 86 rfl
theorem dX3_treat_147 : decode cX3_treat 147 = .ok (.invokestatic 126, 3) := zd_at zo_cX3_treat_0 87 rfl
theorem dX3_treat_150 : decode cX3_treat 150 = .ok (.iload 4, 2) := zd_at zo_cX3_treat_0 88 rfl
theorem dX3_treat_152 : decode cX3_treat 152 = .ok (.istore_n 3, 1) := zd_at zo_cX3_treat_0 89 rfl
theorem dX3_treat_153 : decode cX3_treat 153 = .ok (.goto (-151), 3) := zd_at zo_cX3_treat_0 90 rfl
theorem dX3_treat_156 : decode cX3_treat 156 = .ok (.return_, 1) := zd_at zo_cX3_treat_0 91 rfl
def zl_cX3_putIn_0 : List (Nat × Instr × Nat) := [(0, .aload_n 0, 1), (1, .iload_n 2, 1), (2, .putfield 107, 3), (5, .aload_n 0, 1), (6, .iload_n 3, 1), (7, .putfield 110, 3), (10, .aload_n 0, 1), (11, .getfield 107, 3), (14, .iconst (-1), 1), (15, .if_icmp .eq 56, 3), (18, .aload_n 0, 1), (19, .getfield 107, 3), (22, .istore 4, 2), (24, .aload_n 0, 1), (25, .iconst (-1), 1), (26, .putfield 107, 3), (29, .aload_n 0, 1), (30, .aload_n 1, 1), (31, .invokevirtual 130, 3), (34, .aload_n 0, 1), (35, .aload_n 1, 1), (36, .iload 4, 2), (38, .aload_n 0, 1), (39, .getfield 110, 3), (42, .invokevirtual 142, 3), (45, .istore 5, 2), (47, .aload_n 1, 1), (48, .iload 5, 2), (50, .aload_n 1, 1), (51, .iload 5, 2), (53, .invokestatic 69, 3), (56, .iload 4, 2), (58, .invokestatic 126, 3), (61, .aload_n 0, 1), (62, .aload_n 1, 1), (63, .iload 5, 2), (65, .invokevirtual 145, 3), (68, .goto (-58), 3), (71, .return_, 1)]
theorem zo_cX3_putIn_0 : zd_ok cX3_putIn zl_cX3_putIn_0 = true := by decide +kernel
theorem dX3_putIn_0 : decode cX3_putIn 0 = .ok (.aload_n 0, 1) := zd_at zo_cX3_putIn_0 0 rfl
theorem dX3_putIn_1 : decode cX3_putIn 1 = .ok (.iload_n 2, 1) := zd_at zo_cX3_putIn_0 1 rfl
theorem dX3_putIn_2 : decode cX3_putIn 2 = .ok (.putfield 107, 3) := zd_at zo_cX3_putIn_0 2 rfl
theorem dX3_putIn_5 : decode cX3_putIn 5 = .ok (.aload_n 0, 1) := zd_at zo_cX3_putIn_0 3 rfl
theorem dX3_putIn_6 : decode cX3_putIn 6 = .ok (.iload_n 3, 1) := zd_at zo_cX3_putIn_0 4 rfl
theorem dX3_putIn_7 : decode cX3_putIn 7 = .ok (.putfield 110, 3) := zd_at zo_cX3_putIn_0 5 rfl
theorem dX3_putIn_10 : decode cX3_putIn 10 = .ok (.aload_n 0, 1) := zd_at zo_cX3_putIn_0 6 rfl
theorem dX3_putIn_11 : decode cX3_putIn 11 = .ok (.getfield 107, 3) := zd_at zo_cX3_putIn_0 7 rfl
theorem dX3_putIn_14 : decode cX3_putIn 14 = .ok (.iconst (-1), 1) := zd_at zo_cX3_putIn_0 8 rfl
theorem dX3_putIn_15 : decode cX3_putIn 15 = .ok (.if_icmp .eq 56, 3) := zd_at zo_cX3_putIn_0 9 rfl
theorem dX3_putIn_18 : decode cX3_putIn 18 = .ok (.aload_n 0, 1) := zd_at zo_cX3_putIn_0 10 rfl
theorem dX3_putIn_19 : decode cX3_putIn 19 = .ok (.getfield 107, 3) := zd_at zo_cX3_putIn_0 11 rfl
theorem dX3_putIn_22 : decode cX3_putIn 22 = .ok (.istore 4, 2) := zd_at zo_cX3_putIn_0 12 rfl
theorem dX3_putIn_24 : decode cX3_putIn 24 = .ok (.aload_n 0, 1) := zd_at zo_cX3_putIn_0 13 rfl
theorem dX3_putIn_25 : decode cX3_putIn 25 = .ok (.iconst (-1), 1) := zd_at zo_cX3_putIn_0 14 rfl
theorem dX3_putIn_26 : decode cX3_putIn 26 = .ok (.putfield 107, 3) := zd_at zo_cX3_putIn_0 15 rfl
theorem dX3_putIn_29 : decode cX3_putIn 29 = .ok (.aload_n 0, 1) := zd_at zo_cX3_putIn_0 16 rfl
theorem dX3_putIn_30 : decode cX3_putIn 30 = .ok (.aload_n 1, 1) := zd_at zo_cX3_putIn_0 17 rfl
theorem dX3_putIn_31 : decode cX3_putIn 31 = .ok (.invokevirtual 130, 3) := zd_at zo_cX3_putIn_0 18 rfl
theorem dX3_putIn_34 : decode cX3_putIn 34 = .ok (.aload_n 0, 1) := zd_at zo_cX3_putIn_0 19 rfl
theorem dX3_putIn_35 : decode cX3_putIn 35 = .ok (.aload_n 1, 1) := zd_at zo_cX3_putIn_0 20 rfl
theorem dX3_putIn_36 : decode cX3_putIn 36 = .ok (.iload 4, 2) := zd_at zo_cX3_putIn_0 21 rfl
theorem dX3_putIn_38 : decode cX3_putIn 38 = .ok (.aload_n 0, 1) := zd_at zo_cX3_putIn_0 22 rfl
theorem dX3_putIn_39 : decode cX3_putIn 39 = .ok (.getfield 110, 3) := zd_at zo_cX3_putIn_0 23 rfl
theorem dX3_putIn_42 : decode cX3_putIn 42 = .ok (.invokevirtual 142, 3) := zd_at zo_cX3_putIn_0 24 rfl
theorem dX3_putIn_45 : decode cX3_putIn 45 = .ok (.istore 5, 2) := zd_at zo_cX3_putIn_0 25 rfl
theorem dX3_putIn_47 : decode cX3_putIn 47 = .ok (.aload_n 1, 1) := zd_at zo_cX3_putIn_0 26 rfl
theorem dX3_putIn_48 : decode cX3_putIn 48 = .ok (.iload 5, 2) := zd_at zo_cX3_putIn_0 27 rfl
theorem dX3_putIn_50 : decode cX3_putIn 50 = .ok (.aload_n 1, 1) := zd_at zo_cX3_putIn_0 28 rfl
theorem dX3_putIn_51 : decode cX3_putIn 51 = .ok (.iload 5, 2) := zd_at zo_cX3_putIn_0 29 rfl
theorem dX3_putIn_53 : decode cX3_putIn 53 = .ok (.invokestatic 69, 3) := zd_at zo_cX3_putIn_0 30 rfl
theorem dX3_putIn_56 : decode cX3_putIn 56 = .ok (.iload 4, 2) := zd_at zo_cX3_putIn_0 31 rfl
theorem dX3_putIn_58 : decode cX3_putIn 58 = .ok (.invokestatic 126, 3) := zd_at zo_cX3_putIn_0 32 rfl
theorem dX3_putIn_61 : decode cX3_putIn 61 = .ok (.aload_n 0, 1) := zd_at zo_cX3_putIn_0 33 rfl
theorem dX3_putIn_62 : decode cX3_putIn 62 = .ok (.aload_n 1, 1) := zd_at zo_cX3_putIn_0 34 rfl
theorem dX3_putIn_63 : decode cX3_putIn 63 = .ok (.iload 5, 2) := zd_at zo_cX3_putIn_0 35 rfl
theorem dX3_putIn_65 : decode cX3_putIn 65 = .ok (.invokevirtual 145, 3) := zd_at zo_cX3_putIn_0 36 rfl
theorem dX3_putIn_68 : decode cX3_putIn 68 = .ok (.goto (-58), 3) := zd_at zo_cX3_putIn_0 37 rfl
theorem dX3_putIn_71 : decode cX3_putIn 71 = .ok (.return_, 1) := zd_at zo_cX3_putIn_0 38 rfl
def zl_cX3_takeOut_0 : List (Nat × Instr × Nat) := [(0, .iconst 0, 1), (1, .istore_n 3, 1), (2, .iload_n 3, 1), (3, .bipush 6, 2), (5, .if_icmp .ge 16, 3), (8, .aload_n 0, 1), (9, .getfield 35, 3), (12, .iload_n 3, 1), (13, .iconst (-1), 1), (14, .iastore, 1), (15, .iinc 3 1, 3), (18, .goto (-16), 3), (21, .aload_n 1, 1), (22, .iload_n 2, 1), (23, .invokestatic 136, 3), (26, .istore_n 3, 1), (27, .aload_n 1, 1), (28, .iload_n 3, 1), (29, .iload_n 2, 1), (30, .invokestatic 100, 3), (33, .iload_n 3, 1), (34, .aload_n 1, 1), (35, .sipush 376, 3), (38, .iaload, 1), (39, .if_icmp .eq 80, 3), (42, .aload_n 1, 1), (43, .iload_n 3, 1), (44, .invokestatic 69, 3), (47, .iconst 2, 1), (48, .if_icmp .ge 71, 3), (51, .aload_n 1, 1), (52, .bipush 24, 2), (54, .iload_n 3, 1), (55, .iadd, 1), (56, .invokestatic 136, 3), (59, .istore 4, 2), (61, .aload_n 0, 1), (62, .getfield 35, 3), (65, .aload_n 1, 1), (66, .iload_n 3, 1), (67, .invokestatic 65, 3), (70, .aload_n 1, 1), (71, .iload_n 3, 1), (72, .invokestatic 69, 3), (75, .ifCond .ne 7, 3), (78, .iconst (-1), 1), (79, .goto 9, 3), (82, .aload_n 1, 1), (83, .iload_n 3, 1), (84, .iconst 0, 1), (85, .invokestatic 72, 3), (88, .iastore, 1), (89, .aload_n 1, 1), (90, .iload 4, 2), (92, .bipush 24, 2), (94, .iload_n 3, 1), (95, .iadd, 1), (96, .invokestatic 100, 3), (99, .aload_n 1, 1), (100, .iload_n 3, 1), (101, .invokestatic 76, 3), (104, .aload_n 1, 1), (105, .sipush 379, 3), (108, .dup2, 1), (109, .iaload, 1), (110, .iconst 1, 1), (111, .iadd, 1), (112, .iastore, 1), (113, .iload 4, 2), (115, .istore_n 3, 1), (116, .goto (-83), 3), (119, .aload_n 1, 1), (120, .aload_n 1, 1), (121, .sipush 376, 3), (124, .iaload, 1), (125, .invokestatic 65, 3), (128, .ifCond .le 50, 3), (131, .aload_n 1, 1), (132, .aload_n 1, 1), (133, .sipush 376, 3), (136, .iaload, 1), (137, .invokestatic 69, 3), (140, .iconst 1, 1), (141, .if_icmp .ne 37, 3), (144, .aload_n 1, 1), (145, .aload_n 1, 1), (146, .sipush 376, 3), (149, .iaload, 1), (150, .iconst 0, 1), (151, .invokestatic 72, 3), (154, .bipush 24, 2), (156, .isub, 1), (157, .istore 4, 2), (159, .aload_n 1, 1), (160, .aload_n 1, 1), (161, .sipush 376, 3), (164, .iaload, 1), (165, .invokestatic 76, 3), (168, .aload_n 1, 1), (169, .sipush 376, 3), (172, .iload 4, 2), (174, .iastore, 1), (175, .goto (-56), 3), (178, .iconst 0, 1), (179, .istore 4, 2), (181, .iload 4, 2), (183, .bipush 6, 2), (185, .if_icmp .ge 34, 3), (188, .aload_n 0, 1), (189, .getfield 35, 3), (192, .iload 4, 2), (194, .iaload, 1), (195, .iconst (-1), 1), (196, .if_icmp .eq 17, 3), (199, .aload_n 0, 1), (200, .aload_n 1, 1), (201, .aload_n 0, 1), (202, .getfield 35, 3), (205, .iload 4, 2), (207, .iaload, 1)]
theorem zo_cX3_takeOut_0 : zd_ok cX3_takeOut zl_cX3_takeOut_0 = true := by decide +kernel
theorem dX3_takeOut_0 : decode cX3_takeOut 0 = .ok (.iconst 0, 1) := zd_at zo_cX3_takeOut_0 0 rfl
theorem dX3_takeOut_1 : decode cX3_takeOut 1 = .ok (.istore_n 3, 1) := zd_at zo_cX3_takeOut_0 1 rfl
theorem dX3_takeOut_2 : decode cX3_takeOut 2 = .ok (.iload_n 3, 1) := zd_at zo_cX3_takeOut_0 2 rfl
theorem dX3_takeOut_3 : decode cX3_takeOut 3 = .ok (.bipush 6, 2) := zd_at zo_cX3_takeOut_0 3 rfl
theorem dX3_takeOut_5 : decode cX3_takeOut 5 = .ok (.if_icmp .ge 16, 3) := zd_at zo_cX3_takeOut_0 4 rfl
theorem dX3_takeOut_8 : decode cX3_takeOut 8 = .ok (.aload_n 0, 1) := zd_at zo_cX3_takeOut_0 5 rfl
theorem dX3_takeOut_9 : decode cX3_takeOut 9 = .ok (.getfield 35, 3) := zd_at zo_cX3_takeOut_0 6 rfl
theorem dX3_takeOut_12 : decode cX3_takeOut 12 = .ok (.iload_n 3, 1) := zd_at zo_cX3_takeOut_0 7 rfl
theorem dX3_takeOut_13 : decode cX3_takeOut 13 = .ok (.iconst (-1), 1) := zd_at zo_cX3_takeOut_0 8 rfl
theorem dX3_takeOut_14 : decode cX3_takeOut 14 = .ok (.iastore, 1) := zd_at zo_cX3_takeOut_0 9 rfl
theorem dX3_takeOut_15 : decode cX3_takeOut 15 = .ok (.iinc 3 1, 3) := zd_at zo_cX3_takeOut_0 10 rfl
theorem dX3_takeOut_18 : decode cX3_takeOut 18 = .ok (.goto (-16), 3) := zd_at zo_cX3_takeOut_0 11 rfl
theorem dX3_takeOut_21 : decode cX3_takeOut 21 = .ok (.aload_n 1, 1) := zd_at zo_cX3_takeOut_0 12 rfl
theorem dX3_takeOut_22 : decode cX3_takeOut 22 = .ok (.iload_n 2, 1) := zd_at zo_cX3_takeOut_0 13 rfl
theorem dX3_takeOut_23 : decode cX3_takeOut 23 = .ok (.invokestatic 136, 3) := zd_at zo_cX3_takeOut_0 14 rfl
theorem dX3_takeOut_26 : decode cX3_takeOut 26 = .ok (.istore_n 3, 1) := zd_at zo_cX3_takeOut_0 15 rfl
theorem dX3_takeOut_27 : decode cX3_takeOut 27 = .ok (.aload_n 1, 1) := zd_at zo_cX3_takeOut_0 16 rfl
theorem dX3_takeOut_28 : decode cX3_takeOut 28 = .ok (.iload_n 3, 1) := zd_at zo_cX3_takeOut_0 17 rfl
theorem dX3_takeOut_29 : decode cX3_takeOut 29 = .ok (.iload_n 2, 1) := zd_at zo_cX3_takeOut_0 18 rfl
theorem dX3_takeOut_30 : decode cX3_takeOut 30 = .ok (.invokestatic 100, 3) := zd_at zo_cX3_takeOut_0 19 rfl
theorem dX3_takeOut_33 : decode cX3_takeOut 33 = .ok (.iload_n 3, 1) := zd_at zo_cX3_takeOut_0 20 rfl
theorem dX3_takeOut_34 : decode cX3_takeOut 34 = .ok (.aload_n 1, 1) := zd_at zo_cX3_takeOut_0 21 rfl
theorem dX3_takeOut_35 : decode cX3_takeOut 35 = .ok (.sipush 376, 3) := zd_at zo_cX3_takeOut_0 22 rfl
theorem dX3_takeOut_38 : decode cX3_takeOut 38 = .ok (.iaload, 1) := zd_at zo_cX3_takeOut_0 23 rfl
theorem dX3_takeOut_39 : decode cX3_takeOut 39 = .ok (.if_icmp .eq 80, 3) := zd_at zo_cX3_takeOut_0 24 rfl
theorem dX3_takeOut_42 : decode cX3_takeOut 42 = .ok (.aload_n 1, 1) := zd_at zo_cX3_takeOut_0 25 rfl
theorem dX3_takeOut_43 : decode cX3_takeOut 43 = .ok (.iload_n 3, 1) := zd_at zo_cX3_takeOut_0 26 rfl
theorem dX3_takeOut_44 : decode cX3_takeOut 44 = .ok (.invokestatic 69, 3) := zd_at zo_cX3_takeOut_0 27 rfl
theorem dX3_takeOut_47 : decode cX3_takeOut 47 = .ok (.iconst 2, 1) := zd_at zo_cX3_takeOut_0 28 rfl
theorem dX3_takeOut_48 : decode cX3_takeOut 48 = .ok (.if_icmp .ge 71, 3) := zd_at zo_cX3_takeOut_0 29 rfl
theorem dX3_takeOut_51 : decode cX3_takeOut 51 = .ok (.aload_n 1, 1) := zd_at zo_cX3_takeOut_0 30 rfl
theorem dX3_takeOut_52 : decode cX3_takeOut 52 = .ok (.bipush 24, 2) := zd_at zo_cX3_takeOut_0 31 rfl
theorem dX3_takeOut_54 : decode cX3_takeOut 54 = .ok (.iload_n 3, 1) := zd_at zo_cX3_takeOut_0 32 rfl
theorem dX3_takeOut_55 : decode cX3_takeOut 55 = .ok (.iadd, 1) := zd_at zo_cX3_takeOut_0 33 rfl
theorem dX3_takeOut_56 : decode cX3_takeOut 56 = .ok (.invokestatic 136, 3) := zd_at zo_cX3_takeOut_0 34 rfl
theorem dX3_takeOut_59 : decode cX3_takeOut 59 = .ok (.istore 4, 2) := zd_at zo_cX3_takeOut_0 35 rfl
theorem dX3_takeOut_61 : decode cX3_takeOut 61 = .ok (.aload_n 0, 1) := zd_at zo_cX3_takeOut_0 36 rfl
theorem dX3_takeOut_62 : decode cX3_takeOut 62 = .ok (.getfield 35, 3) := zd_at zo_cX3_takeOut_0 37 rfl
theorem dX3_takeOut_65 : decode cX3_takeOut 65 = .ok (.aload_n 1, 1) := zd_at zo_cX3_takeOut_0 38 rfl
theorem dX3_takeOut_66 : decode cX3_takeOut 66 = .ok (.iload_n 3, 1) := zd_at zo_cX3_takeOut_0 39 rfl
theorem dX3_takeOut_67 : decode cX3_takeOut 67 = .ok (.invokestatic 65, 3) := zd_at zo_cX3_takeOut_0 40 rfl
theorem dX3_takeOut_70 : decode cX3_takeOut 70 = .ok (.aload_n 1, 1) := zd_at zo_cX3_takeOut_0 41 rfl
theorem dX3_takeOut_71 : decode cX3_takeOut 71 = .ok (.iload_n 3, 1) := zd_at zo_cX3_takeOut_0 42 rfl
theorem dX3_takeOut_72 : decode cX3_takeOut 72 = .ok (.invokestatic 69, 3) := zd_at zo_cX3_takeOut_0 43 rfl
theorem dX3_takeOut_75 : decode cX3_takeOut 75 = .ok (.ifCond .ne 7, 3) := zd_at zo_cX3_takeOut_0 44 rfl
theorem dX3_takeOut_78 : decode cX3_takeOut 78 = .ok (.iconst (-1), 1) := zd_at zo_cX3_takeOut_0 45 rfl
theorem dX3_takeOut_79 : decode cX3_takeOut 79 = .ok (.goto 9, 3) := zd_at zo_cX3_takeOut_0 46 rfl
theorem dX3_takeOut_82 : decode cX3_takeOut 82 = .ok (.aload_n 1, 1) := zd_at zo_cX3_takeOut_0 47 rfl
theorem dX3_takeOut_83 : decode cX3_takeOut 83 = .ok (.iload_n 3, 1) := zd_at zo_cX3_takeOut_0 48 rfl
theorem dX3_takeOut_84 : decode cX3_takeOut 84 = .ok (.iconst 0, 1) := zd_at zo_cX3_takeOut_0 49 rfl
theorem dX3_takeOut_85 : decode cX3_takeOut 85 = .ok (.invokestatic 72, 3) := zd_at zo_cX3_takeOut_0 50 rfl
theorem dX3_takeOut_88 : decode cX3_takeOut 88 = .ok (.iastore, 1) := zd_at zo_cX3_takeOut_0 51 rfl
theorem dX3_takeOut_89 : decode cX3_takeOut 89 = .ok (.aload_n 1, 1) := zd_at zo_cX3_takeOut_0 52 rfl
theorem dX3_takeOut_90 : decode cX3_takeOut 90 = .ok (.iload 4, 2) := zd_at zo_cX3_takeOut_0 53 rfl
theorem dX3_takeOut_92 : decode cX3_takeOut 92 = .ok (.bipush 24, 2) := zd_at zo_cX3_takeOut_0 54 rfl
theorem dX3_takeOut_94 : decode cX3_takeOut 94 = .ok (.iload_n 3, 1) := zd_at zo_cX3_takeOut_0 55 rfl
theorem dX3_takeOut_95 : decode cX3_takeOut 95 = .ok (.iadd, 1) := zd_at zo_cX3_takeOut_0 56 rfl
theorem dX3_takeOut_96 : decode cX3_takeOut 96 = .ok (.invokestatic 100, 3) := zd_at zo_cX3_takeOut_0 57 rfl
theorem dX3_takeOut_99 : decode cX3_takeOut 99 = .ok (.aload_n 1, 1) := zd_at zo_cX3_takeOut_0 58 rfl
theorem dX3_takeOut_100 : decode cX3_takeOut 100 = .ok (.iload_n 3, 1) := zd_at zo_cX3_takeOut_0 59 rfl
theorem dX3_takeOut_101 : decode cX3_takeOut 101 = .ok (.invokestatic 76, 3) := zd_at zo_cX3_takeOut_0 60 rfl
theorem dX3_takeOut_104 : decode cX3_takeOut 104 = .ok (.aload_n 1, 1) := zd_at zo_cX3_takeOut_0 61 rfl
theorem dX3_takeOut_105 : decode cX3_takeOut 105 = .ok (.sipush 379, 3) := zd_at zo_cX3_takeOut_0 62 rfl
theorem dX3_takeOut_108 : decode cX3_takeOut 108 = .ok (.dup2, 1) := zd_at zo_cX3_takeOut_0 63 rfl
theorem dX3_takeOut_109 : decode cX3_takeOut 109 = .ok (.iaload, 1) := zd_at zo_cX3_takeOut_0 64 rfl
theorem dX3_takeOut_110 : decode cX3_takeOut 110 = .ok (.iconst 1, 1) := zd_at zo_cX3_takeOut_0 65 rfl
theorem dX3_takeOut_111 : decode cX3_takeOut 111 = .ok (.iadd, 1) := zd_at zo_cX3_takeOut_0 66 rfl
theorem dX3_takeOut_112 : decode cX3_takeOut 112 = .ok (.iastore, 1) := zd_at zo_cX3_takeOut_0 67 rfl
theorem dX3_takeOut_113 : decode cX3_takeOut 113 = .ok (.iload 4, 2) := zd_at zo_cX3_takeOut_0 68 rfl
theorem dX3_takeOut_115 : decode cX3_takeOut 115 = .ok (.istore_n 3, 1) := zd_at zo_cX3_takeOut_0 69 rfl
theorem dX3_takeOut_116 : decode cX3_takeOut 116 = .ok (.goto (-83), 3) := zd_at zo_cX3_takeOut_0 70 rfl
theorem dX3_takeOut_119 : decode cX3_takeOut 119 = .ok (.aload_n 1, 1) := zd_at zo_cX3_takeOut_0 71 rfl
theorem dX3_takeOut_120 : decode cX3_takeOut 120 = .ok (.aload_n 1, 1) := zd_at zo_cX3_takeOut_0 72 rfl
theorem dX3_takeOut_121 : decode cX3_takeOut 121 = .ok (.sipush 376, 3) := zd_at zo_cX3_takeOut_0 73 rfl
theorem dX3_takeOut_124 : decode cX3_takeOut 124 = .ok (.iaload, 1) := zd_at zo_cX3_takeOut_0 74 rfl
theorem dX3_takeOut_125 : decode cX3_takeOut 125 = .ok (.invokestatic 65, 3) := zd_at zo_cX3_takeOut_0 75 rfl
theorem dX3_takeOut_128 : decode cX3_takeOut 128 = .ok (.ifCond .le 50, 3) := zd_at zo_cX3_takeOut_0 76 rfl
theorem dX3_takeOut_131 : decode cX3_takeOut 131 = .ok (.aload_n 1, 1) := zd_at zo_cX3_takeOut_0 77 rfl
theorem dX3_takeOut_132 : decode cX3_takeOut 132 = .ok (.aload_n 1, 1) := zd_at zo_cX3_takeOut_0 78 rfl
theorem dX3_takeOut_133 : decode cX3_takeOut 133 = .ok (.sipush 376, 3) := zd_at zo_cX3_takeOut_0 79 rfl
theorem dX3_takeOut_136 : decode cX3_takeOut 136 = .ok (.iaload, 1) := zd_at zo_cX3_takeOut_0 80 rfl
theorem dX3_takeOut_137 : decode cX3_takeOut 137 = .ok (.invokestatic 69, 3) := zd_at zo_cX3_takeOut_0 81 rfl
theorem dX3_takeOut_140 : decode cX3_takeOut 140 = .ok (.iconst 1, 1) := zd_at zo_cX3_takeOut_0 82 rfl
theorem dX3_takeOut_141 : decode cX3_takeOut 141 = .ok (.if_icmp .ne 37, 3) := zd_at zo_cX3_takeOut_0 83 rfl
theorem dX3_takeOut_144 : decode cX3_takeOut 144 = .ok (.aload_n 1, 1) := zd_at zo_cX3_takeOut_0 84 rfl
theorem dX3_takeOut_145 : decode cX3_takeOut 145 = .ok (.aload_n 1, 1) := zd_at zo_cX3_takeOut_0 85 rfl
theorem dX3_takeOut_146 : decode cX3_takeOut 146 = .ok (.sipush 376, 3) := zd_at zo_cX3_takeOut_0 86 rfl
theorem dX3_takeOut_149 : decode cX3_takeOut 149 = .ok (.iaload, 1) := zd_at zo_cX3_takeOut_0 87 rfl
theorem dX3_takeOut_150 : decode cX3_takeOut 150 = .ok (.iconst 0, 1) := zd_at zo_cX3_takeOut_0 88 rfl
theorem dX3_takeOut_151 : decode cX3_takeOut 151 = .ok (.invokestatic 72, 3) := zd_at zo_cX3_takeOut_0 89 rfl
theorem dX3_takeOut_154 : decode cX3_takeOut 154 = .ok (.bipush 24, 2) := zd_at zo_cX3_takeOut_0 90 rfl
theorem dX3_takeOut_156 : decode cX3_takeOut 156 = .ok (.isub, 1) := zd_at zo_cX3_takeOut_0 91 rfl
theorem dX3_takeOut_157 : decode cX3_takeOut 157 = .ok (.istore 4, 2) := zd_at zo_cX3_takeOut_0 92 rfl
theorem dX3_takeOut_159 : decode cX3_takeOut 159 = .ok (.aload_n 1, 1) := zd_at zo_cX3_takeOut_0 93 rfl
theorem dX3_takeOut_160 : decode cX3_takeOut 160 = .ok (.aload_n 1, 1) := zd_at zo_cX3_takeOut_0 94 rfl
theorem dX3_takeOut_161 : decode cX3_takeOut 161 = .ok (.sipush 376, 3) := zd_at zo_cX3_takeOut_0 95 rfl
theorem dX3_takeOut_164 : decode cX3_takeOut 164 = .ok (.iaload, 1) := zd_at zo_cX3_takeOut_0 96 rfl
theorem dX3_takeOut_165 : decode cX3_takeOut 165 = .ok (.invokestatic 76, 3) := zd_at zo_cX3_takeOut_0 97 rfl
theorem dX3_takeOut_168 : decode cX3_takeOut 168 = .ok (.aload_n 1, 1) := zd_at zo_cX3_takeOut_0 98 rfl
theorem dX3_takeOut_169 : decode cX3_takeOut 169 = .ok (.sipush 376, 3) := zd_at zo_cX3_takeOut_0 99 rfl
theorem dX3_takeOut_172 : decode cX3_takeOut 172 = .ok (.iload 4, 2) := zd_at zo_cX3_takeOut_0 100 rfl
theorem dX3_takeOut_174 : decode cX3_takeOut 174 = .ok (.iastore, 1) := zd_at zo_cX3_takeOut_0 101 rfl
theorem dX3_takeOut_175 : decode cX3_takeOut 175 = .ok (.goto (-56), 3) := zd_at zo_cX3_takeOut_0 102 rfl
theorem dX3_takeOut_178 : decode cX3_takeOut 178 = .ok (.iconst 0, 1) := zd_at zo_cX3_takeOut_0 103 rfl
theorem dX3_takeOut_179 : decode cX3_takeOut 179 = .ok (.istore 4, 2) := zd_at zo_cX3_takeOut_0 104 rfl
theorem dX3_takeOut_181 : decode cX3_takeOut 181 = .ok (.iload 4, 2) := zd_at zo_cX3_takeOut_0 105 rfl
theorem dX3_takeOut_183 : decode cX3_takeOut 183 = .ok (.bipush 6, 2) := zd_at zo_cX3_takeOut_0 106 rfl
theorem dX3_takeOut_185 : decode cX3_takeOut 185 = .ok (.if_icmp .ge 34, 3) := zd_at zo_cX3_takeOut_0 107 rfl
theorem dX3_takeOut_188 : decode cX3_takeOut 188 = .ok (.aload_n 0, 1) := zd_at zo_cX3_takeOut_0 108 rfl
theorem dX3_takeOut_189 : decode cX3_takeOut 189 = .ok (.getfield 35, 3) := zd_at zo_cX3_takeOut_0 109 rfl
theorem dX3_takeOut_192 : decode cX3_takeOut 192 = .ok (.iload 4, 2) := zd_at zo_cX3_takeOut_0 110 rfl
theorem dX3_takeOut_194 : decode cX3_takeOut 194 = .ok (.iaload, 1) := zd_at zo_cX3_takeOut_0 111 rfl
theorem dX3_takeOut_195 : decode cX3_takeOut 195 = .ok (.iconst (-1), 1) := zd_at zo_cX3_takeOut_0 112 rfl
theorem dX3_takeOut_196 : decode cX3_takeOut 196 = .ok (.if_icmp .eq 17, 3) := zd_at zo_cX3_takeOut_0 113 rfl
theorem dX3_takeOut_199 : decode cX3_takeOut 199 = .ok (.aload_n 0, 1) := zd_at zo_cX3_takeOut_0 114 rfl
theorem dX3_takeOut_200 : decode cX3_takeOut 200 = .ok (.aload_n 1, 1) := zd_at zo_cX3_takeOut_0 115 rfl
theorem dX3_takeOut_201 : decode cX3_takeOut 201 = .ok (.aload_n 0, 1) := zd_at zo_cX3_takeOut_0 116 rfl
theorem dX3_takeOut_202 : decode cX3_takeOut 202 = .ok (.getfield 35, 3) := zd_at zo_cX3_takeOut_0 117 rfl
theorem dX3_takeOut_205 : decode cX3_takeOut 205 = .ok (.iload 4, 2) := zd_at zo_cX3_takeOut_0 118 rfl
theorem dX3_takeOut_207 : decode cX3_takeOut 207 = .ok (.iaload, 1) := zd_at zo_cX3_takeOut_0 119 rfl
def zl_cX3_takeOut_120 : List (Nat × Instr × Nat) := [(208, .iload 4, 2), (210, .invokevirtual 148, 3), (213, .iinc 4 1, 3), (216, .goto (-35), 3), (219, .return_, 1)]
theorem zo_cX3_takeOut_120 : zd_ok cX3_takeOut zl_cX3_takeOut_120 = true := by decide +kernel
theorem dX3_takeOut_208 : decode cX3_takeOut 208 = .ok (.iload 4, 2) := zd_at zo_cX3_takeOut_120 0 rfl
theorem dX3_takeOut_210 : decode cX3_takeOut 210 = .ok (.invokevirtual 148, 3) := zd_at zo_cX3_takeOut_120 1 rfl
theorem dX3_takeOut_213 : decode cX3_takeOut 213 = .ok (.iinc 4 1, 3) := zd_at zo_cX3_takeOut_120 2 rfl
theorem dX3_takeOut_216 : decode cX3_takeOut 216 = .ok (.goto (-35), 3) := zd_at zo_cX3_takeOut_120 3 rfl
theorem dX3_takeOut_219 : decode cX3_takeOut 219 = .ok (.return_, 1) := zd_at zo_cX3_takeOut_120 4 rfl
def zl_cX3_layRectangle_0 : List (Nat × Instr × Nat) := [(0, .aload_n 0, 1), (1, .iconst 5, 1), (2, .iload_n 1, 1), (3, .imul, 1), (4, .iconst 1, 1), (5, .iastore, 1), (6, .aload_n 0, 1), (7, .iconst 5, 1), (8, .iload_n 1, 1), (9, .imul, 1), (10, .iconst 1, 1), (11, .iadd, 1), (12, .iload_n 2, 1), (13, .iastore, 1), (14, .aload_n 0, 1), (15, .iconst 5, 1), (16, .iload_n 1, 1), (17, .imul, 1), (18, .iconst 2, 1), (19, .iadd, 1), (20, .iload_n 3, 1), (21, .iastore, 1), (22, .aload_n 0, 1), (23, .iconst 5, 1), (24, .iload_n 1, 1), (25, .imul, 1), (26, .iconst 3, 1), (27, .iadd, 1), (28, .iload 4, 2), (30, .iastore, 1), (31, .aload_n 0, 1), (32, .iconst 5, 1), (33, .iload_n 1, 1), (34, .imul, 1), (35, .iconst 4, 1), (36, .iadd, 1), (37, .iload 5, 2), (39, .iastore, 1), (40, .return_, 1)]
theorem zo_cX3_layRectangle_0 : zd_ok cX3_layRectangle zl_cX3_layRectangle_0 = true := by decide +kernel
theorem dX3_layRectangle_0 : decode cX3_layRectangle 0 = .ok (.aload_n 0, 1) := zd_at zo_cX3_layRectangle_0 0 rfl
theorem dX3_layRectangle_1 : decode cX3_layRectangle 1 = .ok (.iconst 5, 1) := zd_at zo_cX3_layRectangle_0 1 rfl
theorem dX3_layRectangle_2 : decode cX3_layRectangle 2 = .ok (.iload_n 1, 1) := zd_at zo_cX3_layRectangle_0 2 rfl
theorem dX3_layRectangle_3 : decode cX3_layRectangle 3 = .ok (.imul, 1) := zd_at zo_cX3_layRectangle_0 3 rfl
theorem dX3_layRectangle_4 : decode cX3_layRectangle 4 = .ok (.iconst 1, 1) := zd_at zo_cX3_layRectangle_0 4 rfl
theorem dX3_layRectangle_5 : decode cX3_layRectangle 5 = .ok (.iastore, 1) := zd_at zo_cX3_layRectangle_0 5 rfl
theorem dX3_layRectangle_6 : decode cX3_layRectangle 6 = .ok (.aload_n 0, 1) := zd_at zo_cX3_layRectangle_0 6 rfl
theorem dX3_layRectangle_7 : decode cX3_layRectangle 7 = .ok (.iconst 5, 1) := zd_at zo_cX3_layRectangle_0 7 rfl
theorem dX3_layRectangle_8 : decode cX3_layRectangle 8 = .ok (.iload_n 1, 1) := zd_at zo_cX3_layRectangle_0 8 rfl
theorem dX3_layRectangle_9 : decode cX3_layRectangle 9 = .ok (.imul, 1) := zd_at zo_cX3_layRectangle_0 9 rfl
theorem dX3_layRectangle_10 : decode cX3_layRectangle 10 = .ok (.iconst 1, 1) := zd_at zo_cX3_layRectangle_0 10 rfl
theorem dX3_layRectangle_11 : decode cX3_layRectangle 11 = .ok (.iadd, 1) := zd_at zo_cX3_layRectangle_0 11 rfl
theorem dX3_layRectangle_12 : decode cX3_layRectangle 12 = .ok (.iload_n 2, 1) := zd_at zo_cX3_layRectangle_0 12 rfl
theorem dX3_layRectangle_13 : decode cX3_layRectangle 13 = .ok (.iastore, 1) := zd_at zo_cX3_layRectangle_0 13 rfl
theorem dX3_layRectangle_14 : decode cX3_layRectangle 14 = .ok (.aload_n 0, 1) := zd_at zo_cX3_layRectangle_0 14 rfl
theorem dX3_layRectangle_15 : decode cX3_layRectangle 15 = .ok (.iconst 5, 1) := zd_at zo_cX3_layRectangle_0 15 rfl
theorem dX3_layRectangle_16 : decode cX3_layRectangle 16 = .ok (.iload_n 1, 1) := zd_at zo_cX3_layRectangle_0 16 rfl
theorem dX3_layRectangle_17 : decode cX3_layRectangle 17 = .ok (.imul, 1) := zd_at zo_cX3_layRectangle_0 17 rfl
theorem dX3_layRectangle_18 : decode cX3_layRectangle 18 = .ok (.iconst 2, 1) := zd_at zo_cX3_layRectangle_0 18 rfl
theorem dX3_layRectangle_19 : decode cX3_layRectangle 19 = .ok (.iadd, 1) := zd_at zo_cX3_layRectangle_0 19 rfl
theorem dX3_layRectangle_20 : decode cX3_layRectangle 20 = .ok (.iload_n 3, 1) := zd_at zo_cX3_layRectangle_0 20 rfl
theorem dX3_layRectangle_21 : decode cX3_layRectangle 21 = .ok (.iastore, 1) := zd_at zo_cX3_layRectangle_0 21 rfl
theorem dX3_layRectangle_22 : decode cX3_layRectangle 22 = .ok (.aload_n 0, 1) := zd_at zo_cX3_layRectangle_0 22 rfl
theorem dX3_layRectangle_23 : decode cX3_layRectangle 23 = .ok (.iconst 5, 1) := zd_at zo_cX3_layRectangle_0 23 rfl
theorem dX3_layRectangle_24 : decode cX3_layRectangle 24 = .ok (.iload_n 1, 1) := zd_at zo_cX3_layRectangle_0 24 rfl
theorem dX3_layRectangle_25 : decode cX3_layRectangle 25 = .ok (.imul, 1) := zd_at zo_cX3_layRectangle_0 25 rfl
theorem dX3_layRectangle_26 : decode cX3_layRectangle 26 = .ok (.iconst 3, 1) := zd_at zo_cX3_layRectangle_0 26 rfl
theorem dX3_layRectangle_27 : decode cX3_layRectangle 27 = .ok (.iadd, 1) := zd_at zo_cX3_layRectangle_0 27 rfl
theorem dX3_layRectangle_28 : decode cX3_layRectangle 28 = .ok (.iload 4, 2) := zd_at zo_cX3_layRectangle_0 28 rfl
theorem dX3_layRectangle_30 : decode cX3_layRectangle 30 = .ok (.iastore, 1) := zd_at zo_cX3_layRectangle_0 29 rfl
theorem dX3_layRectangle_31 : decode cX3_layRectangle 31 = .ok (.aload_n 0, 1) := zd_at zo_cX3_layRectangle_0 30 rfl
theorem dX3_layRectangle_32 : decode cX3_layRectangle 32 = .ok (.iconst 5, 1) := zd_at zo_cX3_layRectangle_0 31 rfl
theorem dX3_layRectangle_33 : decode cX3_layRectangle 33 = .ok (.iload_n 1, 1) := zd_at zo_cX3_layRectangle_0 32 rfl
theorem dX3_layRectangle_34 : decode cX3_layRectangle 34 = .ok (.imul, 1) := zd_at zo_cX3_layRectangle_0 33 rfl
theorem dX3_layRectangle_35 : decode cX3_layRectangle 35 = .ok (.iconst 4, 1) := zd_at zo_cX3_layRectangle_0 34 rfl
theorem dX3_layRectangle_36 : decode cX3_layRectangle 36 = .ok (.iadd, 1) := zd_at zo_cX3_layRectangle_0 35 rfl
theorem dX3_layRectangle_37 : decode cX3_layRectangle 37 = .ok (.iload 5, 2) := zd_at zo_cX3_layRectangle_0 36 rfl
theorem dX3_layRectangle_39 : decode cX3_layRectangle 39 = .ok (.iastore, 1) := zd_at zo_cX3_layRectangle_0 37 rfl
theorem dX3_layRectangle_40 : decode cX3_layRectangle 40 = .ok (.return_, 1) := zd_at zo_cX3_layRectangle_0 38 rfl
def zl_cX3_addOn_0 : List (Nat × Instr × Nat) := [(0, .iconst 0, 1), (1, .istore 6, 2), (3, .aload_n 1, 1), (4, .iconst 5, 1), (5, .iload 6, 2), (7, .imul, 1), (8, .iaload, 1), (9, .iconst 1, 1), (10, .if_icmp .ne 9, 3), (13, .iinc 6 1, 3), (16, .goto (-13), 3), (19, .aload_n 1, 1), (20, .iload 6, 2), (22, .iload_n 2, 1), (23, .iload_n 3, 1), (24, .iload 4, 2), (26, .iload 5, 2), (28, .invokestatic 151, 3), (31, .aload_n 0, 1), (32, .aload_n 1, 1), (33, .iload 6, 2), (35, .iconst 0, 1), (36, .invokevirtual 148, 3), (39, .iload 6, 2), (41, .ireturn, 1)]
theorem zo_cX3_addOn_0 : zd_ok cX3_addOn zl_cX3_addOn_0 = true := by decide +kernel
theorem dX3_addOn_0 : decode cX3_addOn 0 = .ok (.iconst 0, 1) := zd_at zo_cX3_addOn_0 0 rfl
theorem dX3_addOn_1 : decode cX3_addOn 1 = .ok (.istore 6, 2) := zd_at zo_cX3_addOn_0 1 rfl
theorem dX3_addOn_3 : decode cX3_addOn 3 = .ok (.aload_n 1, 1) := zd_at zo_cX3_addOn_0 2 rfl
theorem dX3_addOn_4 : decode cX3_addOn 4 = .ok (.iconst 5, 1) := zd_at zo_cX3_addOn_0 3 rfl
theorem dX3_addOn_5 : decode cX3_addOn 5 = .ok (.iload 6, 2) := zd_at zo_cX3_addOn_0 4 rfl
theorem dX3_addOn_7 : decode cX3_addOn 7 = .ok (.imul, 1) := zd_at zo_cX3_addOn_0 5 rfl
theorem dX3_addOn_8 : decode cX3_addOn 8 = .ok (.iaload, 1) := zd_at zo_cX3_addOn_0 6 rfl
theorem dX3_addOn_9 : decode cX3_addOn 9 = .ok (.iconst 1, 1) := zd_at zo_cX3_addOn_0 7 rfl
theorem dX3_addOn_10 : decode cX3_addOn 10 = .ok (.if_icmp .ne 9, 3) := zd_at zo_cX3_addOn_0 8 rfl
theorem dX3_addOn_13 : decode cX3_addOn 13 = .ok (.iinc 6 1, 3) := zd_at zo_cX3_addOn_0 9 rfl
theorem dX3_addOn_16 : decode cX3_addOn 16 = .ok (.goto (-13), 3) := zd_at zo_cX3_addOn_0 10 rfl
theorem dX3_addOn_19 : decode cX3_addOn 19 = .ok (.aload_n 1, 1) := zd_at zo_cX3_addOn_0 11 rfl
theorem dX3_addOn_20 : decode cX3_addOn 20 = .ok (.iload 6, 2) := zd_at zo_cX3_addOn_0 12 rfl
theorem dX3_addOn_22 : decode cX3_addOn 22 = .ok (.iload_n 2, 1) := zd_at zo_cX3_addOn_0 13 rfl
theorem dX3_addOn_23 : decode cX3_addOn 23 = .ok (.iload_n 3, 1) := zd_at zo_cX3_addOn_0 14 rfl
theorem dX3_addOn_24 : decode cX3_addOn 24 = .ok (.iload 4, 2) := zd_at zo_cX3_addOn_0 15 rfl
theorem dX3_addOn_26 : decode cX3_addOn 26 = .ok (.iload 5, 2) := zd_at zo_cX3_addOn_0 16 rfl
theorem dX3_addOn_28 : decode cX3_addOn 28 = .ok (.invokestatic 151, 3) := zd_at zo_cX3_addOn_0 17 rfl
theorem dX3_addOn_31 : decode cX3_addOn 31 = .ok (.aload_n 0, 1) := zd_at zo_cX3_addOn_0 18 rfl
theorem dX3_addOn_32 : decode cX3_addOn 32 = .ok (.aload_n 1, 1) := zd_at zo_cX3_addOn_0 19 rfl
theorem dX3_addOn_33 : decode cX3_addOn 33 = .ok (.iload 6, 2) := zd_at zo_cX3_addOn_0 20 rfl
theorem dX3_addOn_35 : decode cX3_addOn 35 = .ok (.iconst 0, 1) := zd_at zo_cX3_addOn_0 21 rfl
theorem dX3_addOn_36 : decode cX3_addOn 36 = .ok (.invokevirtual 148, 3) := zd_at zo_cX3_addOn_0 22 rfl
theorem dX3_addOn_39 : decode cX3_addOn 39 = .ok (.iload 6, 2) := zd_at zo_cX3_addOn_0 23 rfl
theorem dX3_addOn_41 : decode cX3_addOn 41 = .ok (.ireturn, 1) := zd_at zo_cX3_addOn_0 24 rfl
def zl_cX3_wipe_0 : List (Nat × Instr × Nat) := [(0, .iconst 0, 1), (1, .istore_n 2, 1), (2, .iload_n 2, 1), (3, .iconst 5, 1), (4, .if_icmp .ge 17, 3), (7, .aload_n 0, 1), (8, .iconst 5, 1), (9, .iload_n 1, 1), (10, .imul, 1), (11, .iload_n 2, 1), (12, .iadd, 1), (13, .iconst 0, 1), (14, .iastore, 1), (15, .iinc 2 1, 3), (18, .goto (-16), 3), (21, .return_, 1)]
theorem zo_cX3_wipe_0 : zd_ok cX3_wipe zl_cX3_wipe_0 = true := by decide +kernel
theorem dX3_wipe_0 : decode cX3_wipe 0 = .ok (.iconst 0, 1) := zd_at zo_cX3_wipe_0 0 rfl
theorem dX3_wipe_1 : decode cX3_wipe 1 = .ok (.istore_n 2, 1) := zd_at zo_cX3_wipe_0 1 rfl
theorem dX3_wipe_2 : decode cX3_wipe 2 = .ok (.iload_n 2, 1) := zd_at zo_cX3_wipe_0 2 rfl
theorem dX3_wipe_3 : decode cX3_wipe 3 = .ok (.iconst 5, 1) := zd_at zo_cX3_wipe_0 3 rfl
theorem dX3_wipe_4 : decode cX3_wipe 4 = .ok (.if_icmp .ge 17, 3) := zd_at zo_cX3_wipe_0 4 rfl
theorem dX3_wipe_7 : decode cX3_wipe 7 = .ok (.aload_n 0, 1) := zd_at zo_cX3_wipe_0 5 rfl
theorem dX3_wipe_8 : decode cX3_wipe 8 = .ok (.iconst 5, 1) := zd_at zo_cX3_wipe_0 6 rfl
theorem dX3_wipe_9 : decode cX3_wipe 9 = .ok (.iload_n 1, 1) := zd_at zo_cX3_wipe_0 7 rfl
theorem dX3_wipe_10 : decode cX3_wipe 10 = .ok (.imul, 1) := zd_at zo_cX3_wipe_0 8 rfl
theorem dX3_wipe_11 : decode cX3_wipe 11 = .ok (.iload_n 2, 1) := zd_at zo_cX3_wipe_0 9 rfl
theorem dX3_wipe_12 : decode cX3_wipe 12 = .ok (.iadd, 1) := zd_at zo_cX3_wipe_0 10 rfl
theorem dX3_wipe_13 : decode cX3_wipe 13 = .ok (.iconst 0, 1) := zd_at zo_cX3_wipe_0 11 rfl
theorem dX3_wipe_14 : decode cX3_wipe 14 = .ok (.iastore, 1) := zd_at zo_cX3_wipe_0 12 rfl
theorem dX3_wipe_15 : decode cX3_wipe 15 = .ok (.iinc 2 1, 3) := zd_at zo_cX3_wipe_0 13 rfl
theorem dX3_wipe_18 : decode cX3_wipe 18 = .ok (.goto (-16), 3) := zd_at zo_cX3_wipe_0 14 rfl
theorem dX3_wipe_21 : decode cX3_wipe 21 = .ok (.return_, 1) := zd_at zo_cX3_wipe_0 15 rfl
def zl_cX3_removeOn_0 : List (Nat × Instr × Nat) := [(0, .aload_n 0, 1), (1, .iconst 0, 1), (2, .putfield 104, 3), (5, .aload_n 0, 1), (6, .aload_n 1, 1), (7, .iload_n 2, 1), (8, .invokevirtual 155, 3), (11, .aload_n 1, 1), (12, .iload_n 2, 1), (13, .invokestatic 158, 3), (16, .aload_n 1, 1), (17, .invokestatic 161, 3), (20, .ireturn, 1)]
theorem zo_cX3_removeOn_0 : zd_ok cX3_removeOn zl_cX3_removeOn_0 = true := by decide +kernel
theorem dX3_removeOn_0 : decode cX3_removeOn 0 = .ok (.aload_n 0, 1) := zd_at zo_cX3_removeOn_0 0 rfl
theorem dX3_removeOn_1 : decode cX3_removeOn 1 = .ok (.iconst 0, 1) := zd_at zo_cX3_removeOn_0 1 rfl
theorem dX3_removeOn_2 : decode cX3_removeOn 2 = .ok (.putfield 104, 3) := zd_at zo_cX3_removeOn_0 2 rfl
theorem dX3_removeOn_5 : decode cX3_removeOn 5 = .ok (.aload_n 0, 1) := zd_at zo_cX3_removeOn_0 3 rfl
theorem dX3_removeOn_6 : decode cX3_removeOn 6 = .ok (.aload_n 1, 1) := zd_at zo_cX3_removeOn_0 4 rfl
theorem dX3_removeOn_7 : decode cX3_removeOn 7 = .ok (.iload_n 2, 1) := zd_at zo_cX3_removeOn_0 5 rfl
theorem dX3_removeOn_8 : decode cX3_removeOn 8 = .ok (.invokevirtual 155, 3) := zd_at zo_cX3_removeOn_0 6 rfl
theorem dX3_removeOn_11 : decode cX3_removeOn 11 = .ok (.aload_n 1, 1) := zd_at zo_cX3_removeOn_0 7 rfl
theorem dX3_removeOn_12 : decode cX3_removeOn 12 = .ok (.iload_n 2, 1) := zd_at zo_cX3_removeOn_0 8 rfl
theorem dX3_removeOn_13 : decode cX3_removeOn 13 = .ok (.invokestatic 158, 3) := zd_at zo_cX3_removeOn_0 9 rfl
theorem dX3_removeOn_16 : decode cX3_removeOn 16 = .ok (.aload_n 1, 1) := zd_at zo_cX3_removeOn_0 10 rfl
theorem dX3_removeOn_17 : decode cX3_removeOn 17 = .ok (.invokestatic 161, 3) := zd_at zo_cX3_removeOn_0 11 rfl
theorem dX3_removeOn_20 : decode cX3_removeOn 20 = .ok (.ireturn, 1) := zd_at zo_cX3_removeOn_0 12 rfl
def zl_cX3_moveOn_0 : List (Nat × Instr × Nat) := [(0, .aload_n 0, 1), (1, .iconst 0, 1), (2, .putfield 104, 3), (5, .aload_n 0, 1), (6, .aload_n 1, 1), (7, .iload_n 2, 1), (8, .invokevirtual 155, 3), (11, .iconst 5, 1), (12, .iload_n 2, 1), (13, .imul, 1), (14, .istore 5, 2), (16, .aload_n 1, 1), (17, .iload_n 2, 1), (18, .aload_n 1, 1), (19, .iload 5, 2), (21, .iconst 1, 1), (22, .iadd, 1), (23, .iaload, 1), (24, .iload_n 3, 1), (25, .iadd, 1), (26, .aload_n 1, 1), (27, .iload 5, 2), (29, .iconst 2, 1), (30, .iadd, 1), (31, .iaload, 1), (32, .iload 4, 2), (34, .iadd, 1), (35, .aload_n 1, 1), (36, .iload 5, 2), (38, .iconst 3, 1), (39, .iadd, 1), (40, .iaload, 1), (41, .iload_n 3, 1), (42, .iadd, 1), (43, .aload_n 1, 1), (44, .iload 5, 2), (46, .iconst 4, 1), (47, .iadd, 1), (48, .iaload, 1), (49, .iload 4, 2), (51, .iadd, 1), (52, .invokestatic 151, 3), (55, .aload_n 0, 1), (56, .aload_n 1, 1), (57, .iload_n 2, 1), (58, .iconst 0, 1), (59, .invokevirtual 148, 3), (62, .return_, 1)]
theorem zo_cX3_moveOn_0 : zd_ok cX3_moveOn zl_cX3_moveOn_0 = true := by decide +kernel
theorem dX3_moveOn_0 : decode cX3_moveOn 0 = .ok (.aload_n 0, 1) := zd_at zo_cX3_moveOn_0 0 rfl
theorem dX3_moveOn_1 : decode cX3_moveOn 1 = .ok (.iconst 0, 1) := zd_at zo_cX3_moveOn_0 1 rfl
theorem dX3_moveOn_2 : decode cX3_moveOn 2 = .ok (.putfield 104, 3) := zd_at zo_cX3_moveOn_0 2 rfl
theorem dX3_moveOn_5 : decode cX3_moveOn 5 = .ok (.aload_n 0, 1) := zd_at zo_cX3_moveOn_0 3 rfl
theorem dX3_moveOn_6 : decode cX3_moveOn 6 = .ok (.aload_n 1, 1) := zd_at zo_cX3_moveOn_0 4 rfl
theorem dX3_moveOn_7 : decode cX3_moveOn 7 = .ok (.iload_n 2, 1) := zd_at zo_cX3_moveOn_0 5 rfl
theorem dX3_moveOn_8 : decode cX3_moveOn 8 = .ok (.invokevirtual 155, 3) := zd_at zo_cX3_moveOn_0 6 rfl
theorem dX3_moveOn_11 : decode cX3_moveOn 11 = .ok (.iconst 5, 1) := zd_at zo_cX3_moveOn_0 7 rfl
theorem dX3_moveOn_12 : decode cX3_moveOn 12 = .ok (.iload_n 2, 1) := zd_at zo_cX3_moveOn_0 8 rfl
theorem dX3_moveOn_13 : decode cX3_moveOn 13 = .ok (.imul, 1) := zd_at zo_cX3_moveOn_0 9 rfl
theorem dX3_moveOn_14 : decode cX3_moveOn 14 = .ok (.istore 5, 2) := zd_at zo_cX3_moveOn_0 10 rfl
theorem dX3_moveOn_16 : decode cX3_moveOn 16 = .ok (.aload_n 1, 1) := zd_at zo_cX3_moveOn_0 11 rfl
theorem dX3_moveOn_17 : decode cX3_moveOn 17 = .ok (.iload_n 2, 1) := zd_at zo_cX3_moveOn_0 12 rfl
theorem dX3_moveOn_18 : decode cX3_moveOn 18 = .ok (.aload_n 1, 1) := zd_at zo_cX3_moveOn_0 13 rfl
theorem dX3_moveOn_19 : decode cX3_moveOn 19 = .ok (.iload 5, 2) := zd_at zo_cX3_moveOn_0 14 rfl
theorem dX3_moveOn_21 : decode cX3_moveOn 21 = .ok (.iconst 1, 1) := zd_at zo_cX3_moveOn_0 15 rfl
theorem dX3_moveOn_22 : decode cX3_moveOn 22 = .ok (.iadd, 1) := zd_at zo_cX3_moveOn_0 16 rfl
theorem dX3_moveOn_23 : decode cX3_moveOn 23 = .ok (.iaload, 1) := zd_at zo_cX3_moveOn_0 17 rfl
theorem dX3_moveOn_24 : decode cX3_moveOn 24 = .ok (.iload_n 3, 1) := zd_at zo_cX3_moveOn_0 18 rfl
theorem dX3_moveOn_25 : decode cX3_moveOn 25 = .ok (.iadd, 1) := zd_at zo_cX3_moveOn_0 19 rfl
theorem dX3_moveOn_26 : decode cX3_moveOn 26 = .ok (.aload_n 1, 1) := zd_at zo_cX3_moveOn_0 20 rfl
theorem dX3_moveOn_27 : decode cX3_moveOn 27 = .ok (.iload 5, 2) := zd_at zo_cX3_moveOn_0 21 rfl
theorem dX3_moveOn_29 : decode cX3_moveOn 29 = .ok (.iconst 2, 1) := zd_at zo_cX3_moveOn_0 22 rfl
theorem dX3_moveOn_30 : decode cX3_moveOn 30 = .ok (.iadd, 1) := zd_at zo_cX3_moveOn_0 23 rfl
theorem dX3_moveOn_31 : decode cX3_moveOn 31 = .ok (.iaload, 1) := zd_at zo_cX3_moveOn_0 24 rfl
theorem dX3_moveOn_32 : decode cX3_moveOn 32 = .ok (.iload 4, 2) := zd_at zo_cX3_moveOn_0 25 rfl
theorem dX3_moveOn_34 : decode cX3_moveOn 34 = .ok (.iadd, 1) := zd_at zo_cX3_moveOn_0 26 rfl
theorem dX3_moveOn_35 : decode cX3_moveOn 35 = .ok (.aload_n 1, 1) := zd_at zo_cX3_moveOn_0 27 rfl
theorem dX3_moveOn_36 : decode cX3_moveOn 36 = .ok (.iload 5, 2) := zd_at zo_cX3_moveOn_0 28 rfl
theorem dX3_moveOn_38 : decode cX3_moveOn 38 = .ok (.iconst 3, 1) := zd_at zo_cX3_moveOn_0 29 rfl
theorem dX3_moveOn_39 : decode cX3_moveOn 39 = .ok (.iadd, 1) := zd_at zo_cX3_moveOn_0 30 rfl
theorem dX3_moveOn_40 : decode cX3_moveOn 40 = .ok (.iaload, 1) := zd_at zo_cX3_moveOn_0 31 rfl
theorem dX3_moveOn_41 : decode cX3_moveOn 41 = .ok (.iload_n 3, 1) := zd_at zo_cX3_moveOn_0 32 rfl
theorem dX3_moveOn_42 : decode cX3_moveOn 42 = .ok (.iadd, 1) := zd_at zo_cX3_moveOn_0 33 rfl
theorem dX3_moveOn_43 : decode cX3_moveOn 43 = .ok (.aload_n 1, 1) := zd_at zo_cX3_moveOn_0 34 rfl
theorem dX3_moveOn_44 : decode cX3_moveOn 44 = .ok (.iload 5, 2) := zd_at zo_cX3_moveOn_0 35 rfl
theorem dX3_moveOn_46 : decode cX3_moveOn 46 = .ok (.iconst 4, 1) := zd_at zo_cX3_moveOn_0 36 rfl
theorem dX3_moveOn_47 : decode cX3_moveOn 47 = .ok (.iadd, 1) := zd_at zo_cX3_moveOn_0 37 rfl
theorem dX3_moveOn_48 : decode cX3_moveOn 48 = .ok (.iaload, 1) := zd_at zo_cX3_moveOn_0 38 rfl
theorem dX3_moveOn_49 : decode cX3_moveOn 49 = .ok (.iload 4, 2) := zd_at zo_cX3_moveOn_0 39 rfl
theorem dX3_moveOn_51 : decode cX3_moveOn 51 = .ok (.iadd, 1) := zd_at zo_cX3_moveOn_0 40 rfl
theorem dX3_moveOn_52 : decode cX3_moveOn 52 = .ok (.invokestatic 151, 3) := zd_at zo_cX3_moveOn_0 41 rfl
theorem dX3_moveOn_55 : decode cX3_moveOn 55 = .ok (.aload_n 0, 1) := zd_at zo_cX3_moveOn_0 42 rfl
theorem dX3_moveOn_56 : decode cX3_moveOn 56 = .ok (.aload_n 1, 1) := zd_at zo_cX3_moveOn_0 43 rfl
theorem dX3_moveOn_57 : decode cX3_moveOn 57 = .ok (.iload_n 2, 1) := zd_at zo_cX3_moveOn_0 44 rfl
theorem dX3_moveOn_58 : decode cX3_moveOn 58 = .ok (.iconst 0, 1) := zd_at zo_cX3_moveOn_0 45 rfl
theorem dX3_moveOn_59 : decode cX3_moveOn 59 = .ok (.invokevirtual 148, 3) := zd_at zo_cX3_moveOn_0 46 rfl
theorem dX3_moveOn_62 : decode cX3_moveOn 62 = .ok (.return_, 1) := zd_at zo_cX3_moveOn_0 47 rfl
def zl_cX3_whyNotMove_0 : List (Nat × Instr × Nat) := [(0, .aload_n 0, 1), (1, .iload_n 1, 1), (2, .invokestatic 165, 3), (5, .ifCond .ne 5, 3), (8, .iconst 1, 1), (9, .ireturn, 1), (10, .iload_n 2, 1), (11, .i2l, 1), (12, .ldc2_w 169, 3), (15, .ldc2_w 171, 3), (18, .invokestatic 61, 3), (21, .ifCond .eq 17, 3), (24, .iload_n 3, 1), (25, .i2l, 1), (26, .ldc2_w 169, 3), (29, .ldc2_w 171, 3), (32, .invokestatic 61, 3), (35, .ifCond .ne 5, 3), (38, .iconst 2, 1), (39, .ireturn, 1), (40, .iconst 5, 1), (41, .iload_n 1, 1), (42, .imul, 1), (43, .istore 4, 2), (45, .aload_n 0, 1), (46, .iload 4, 2), (48, .iconst 1, 1), (49, .iadd, 1), (50, .iaload, 1), (51, .iload_n 2, 1), (52, .iadd, 1), (53, .ifCond .lt 44, 3), (56, .aload_n 0, 1), (57, .iload 4, 2), (59, .iconst 2, 1), (60, .iadd, 1), (61, .iaload, 1), (62, .iload_n 3, 1), (63, .iadd, 1), (64, .ifCond .lt 33, 3), (67, .aload_n 0, 1), (68, .iload 4, 2), (70, .iconst 3, 1), (71, .iadd, 1), (72, .iaload, 1), (73, .iload_n 2, 1), (74, .iadd, 1), (75, .bipush 100, 2), (77, .if_icmp .ge 20, 3), (80, .aload_n 0, 1), (81, .iload 4, 2), (83, .iconst 4, 1), (84, .iadd, 1), (85, .iaload, 1), (86, .iload_n 3, 1), (87, .iadd, 1), (88, .bipush 100, 2), (90, .if_icmp .ge 7, 3), (93, .iconst 0, 1), (94, .goto 4, 3), (97, .iconst 3, 1), (98, .ireturn, 1)]
theorem zo_cX3_whyNotMove_0 : zd_ok cX3_whyNotMove zl_cX3_whyNotMove_0 = true := by decide +kernel
theorem dX3_whyNotMove_0 : decode cX3_whyNotMove 0 = .ok (.aload_n 0, 1) := zd_at zo_cX3_whyNotMove_0 0 rfl
theorem dX3_whyNotMove_1 : decode cX3_whyNotMove 1 = .ok (.iload_n 1, 1) := zd_at zo_cX3_whyNotMove_0 1 rfl
theorem dX3_whyNotMove_2 : decode cX3_whyNotMove 2 = .ok (.invokestatic 165, 3) := zd_at zo_cX3_whyNotMove_0 2 rfl
theorem dX3_whyNotMove_5 : decode cX3_whyNotMove 5 = .ok (.ifCond .ne 5, 3) := zd_at zo_cX3_whyNotMove_0 3 rfl
theorem dX3_whyNotMove_8 : decode cX3_whyNotMove 8 = .ok (.iconst 1, 1) := zd_at zo_cX3_whyNotMove_0 4 rfl
theorem dX3_whyNotMove_9 : decode cX3_whyNotMove 9 = .ok (.ireturn, 1) := zd_at zo_cX3_whyNotMove_0 5 rfl
theorem dX3_whyNotMove_10 : decode cX3_whyNotMove 10 = .ok (.iload_n 2, 1) := zd_at zo_cX3_whyNotMove_0 6 rfl
theorem dX3_whyNotMove_11 : decode cX3_whyNotMove 11 = .ok (.i2l, 1) := zd_at zo_cX3_whyNotMove_0 7 rfl
theorem dX3_whyNotMove_12 : decode cX3_whyNotMove 12 = .ok (.ldc2_w 169, 3) := zd_at zo_cX3_whyNotMove_0 8 rfl
theorem dX3_whyNotMove_15 : decode cX3_whyNotMove 15 = .ok (.ldc2_w 171, 3) := zd_at zo_cX3_whyNotMove_0 9 rfl
theorem dX3_whyNotMove_18 : decode cX3_whyNotMove 18 = .ok (.invokestatic 61, 3) := zd_at zo_cX3_whyNotMove_0 10 rfl
theorem dX3_whyNotMove_21 : decode cX3_whyNotMove 21 = .ok (.ifCond .eq 17, 3) := zd_at zo_cX3_whyNotMove_0 11 rfl
theorem dX3_whyNotMove_24 : decode cX3_whyNotMove 24 = .ok (.iload_n 3, 1) := zd_at zo_cX3_whyNotMove_0 12 rfl
theorem dX3_whyNotMove_25 : decode cX3_whyNotMove 25 = .ok (.i2l, 1) := zd_at zo_cX3_whyNotMove_0 13 rfl
theorem dX3_whyNotMove_26 : decode cX3_whyNotMove 26 = .ok (.ldc2_w 169, 3) := zd_at zo_cX3_whyNotMove_0 14 rfl
theorem dX3_whyNotMove_29 : decode cX3_whyNotMove 29 = .ok (.ldc2_w 171, 3) := zd_at zo_cX3_whyNotMove_0 15 rfl
theorem dX3_whyNotMove_32 : decode cX3_whyNotMove 32 = .ok (.invokestatic 61, 3) := zd_at zo_cX3_whyNotMove_0 16 rfl
theorem dX3_whyNotMove_35 : decode cX3_whyNotMove 35 = .ok (.ifCond .ne 5, 3) := zd_at zo_cX3_whyNotMove_0 17 rfl
theorem dX3_whyNotMove_38 : decode cX3_whyNotMove 38 = .ok (.iconst 2, 1) := zd_at zo_cX3_whyNotMove_0 18 rfl
theorem dX3_whyNotMove_39 : decode cX3_whyNotMove 39 = .ok (.ireturn, 1) := zd_at zo_cX3_whyNotMove_0 19 rfl
theorem dX3_whyNotMove_40 : decode cX3_whyNotMove 40 = .ok (.iconst 5, 1) := zd_at zo_cX3_whyNotMove_0 20 rfl
theorem dX3_whyNotMove_41 : decode cX3_whyNotMove 41 = .ok (.iload_n 1, 1) := zd_at zo_cX3_whyNotMove_0 21 rfl
theorem dX3_whyNotMove_42 : decode cX3_whyNotMove 42 = .ok (.imul, 1) := zd_at zo_cX3_whyNotMove_0 22 rfl
theorem dX3_whyNotMove_43 : decode cX3_whyNotMove 43 = .ok (.istore 4, 2) := zd_at zo_cX3_whyNotMove_0 23 rfl
theorem dX3_whyNotMove_45 : decode cX3_whyNotMove 45 = .ok (.aload_n 0, 1) := zd_at zo_cX3_whyNotMove_0 24 rfl
theorem dX3_whyNotMove_46 : decode cX3_whyNotMove 46 = .ok (.iload 4, 2) := zd_at zo_cX3_whyNotMove_0 25 rfl
theorem dX3_whyNotMove_48 : decode cX3_whyNotMove 48 = .ok (.iconst 1, 1) := zd_at zo_cX3_whyNotMove_0 26 rfl
theorem dX3_whyNotMove_49 : decode cX3_whyNotMove 49 = .ok (.iadd, 1) := zd_at zo_cX3_whyNotMove_0 27 rfl
theorem dX3_whyNotMove_50 : decode cX3_whyNotMove 50 = .ok (.iaload, 1) := zd_at zo_cX3_whyNotMove_0 28 rfl
theorem dX3_whyNotMove_51 : decode cX3_whyNotMove 51 = .ok (.iload_n 2, 1) := zd_at zo_cX3_whyNotMove_0 29 rfl
theorem dX3_whyNotMove_52 : decode cX3_whyNotMove 52 = .ok (.iadd, 1) := zd_at zo_cX3_whyNotMove_0 30 rfl
theorem dX3_whyNotMove_53 : decode cX3_whyNotMove 53 = .ok (.ifCond .lt 44, 3) := zd_at zo_cX3_whyNotMove_0 31 rfl
theorem dX3_whyNotMove_56 : decode cX3_whyNotMove 56 = .ok (.aload_n 0, 1) := zd_at zo_cX3_whyNotMove_0 32 rfl
theorem dX3_whyNotMove_57 : decode cX3_whyNotMove 57 = .ok (.iload 4, 2) := zd_at zo_cX3_whyNotMove_0 33 rfl
theorem dX3_whyNotMove_59 : decode cX3_whyNotMove 59 = .ok (.iconst 2, 1) := zd_at zo_cX3_whyNotMove_0 34 rfl
theorem dX3_whyNotMove_60 : decode cX3_whyNotMove 60 = .ok (.iadd, 1) := zd_at zo_cX3_whyNotMove_0 35 rfl
theorem dX3_whyNotMove_61 : decode cX3_whyNotMove 61 = .ok (.iaload, 1) := zd_at zo_cX3_whyNotMove_0 36 rfl
theorem dX3_whyNotMove_62 : decode cX3_whyNotMove 62 = .ok (.iload_n 3, 1) := zd_at zo_cX3_whyNotMove_0 37 rfl
theorem dX3_whyNotMove_63 : decode cX3_whyNotMove 63 = .ok (.iadd, 1) := zd_at zo_cX3_whyNotMove_0 38 rfl
theorem dX3_whyNotMove_64 : decode cX3_whyNotMove 64 = .ok (.ifCond .lt 33, 3) := zd_at zo_cX3_whyNotMove_0 39 rfl
theorem dX3_whyNotMove_67 : decode cX3_whyNotMove 67 = .ok (.aload_n 0, 1) := zd_at zo_cX3_whyNotMove_0 40 rfl
theorem dX3_whyNotMove_68 : decode cX3_whyNotMove 68 = .ok (.iload 4, 2) := zd_at zo_cX3_whyNotMove_0 41 rfl
theorem dX3_whyNotMove_70 : decode cX3_whyNotMove 70 = .ok (.iconst 3, 1) := zd_at zo_cX3_whyNotMove_0 42 rfl
theorem dX3_whyNotMove_71 : decode cX3_whyNotMove 71 = .ok (.iadd, 1) := zd_at zo_cX3_whyNotMove_0 43 rfl
theorem dX3_whyNotMove_72 : decode cX3_whyNotMove 72 = .ok (.iaload, 1) := zd_at zo_cX3_whyNotMove_0 44 rfl
theorem dX3_whyNotMove_73 : decode cX3_whyNotMove 73 = .ok (.iload_n 2, 1) := zd_at zo_cX3_whyNotMove_0 45 rfl
theorem dX3_whyNotMove_74 : decode cX3_whyNotMove 74 = .ok (.iadd, 1) := zd_at zo_cX3_whyNotMove_0 46 rfl
theorem dX3_whyNotMove_75 : decode cX3_whyNotMove 75 = .ok (.bipush 100, 2) := zd_at zo_cX3_whyNotMove_0 47 rfl
theorem dX3_whyNotMove_77 : decode cX3_whyNotMove 77 = .ok (.if_icmp .ge 20, 3) := zd_at zo_cX3_whyNotMove_0 48 rfl
theorem dX3_whyNotMove_80 : decode cX3_whyNotMove 80 = .ok (.aload_n 0, 1) := zd_at zo_cX3_whyNotMove_0 49 rfl
theorem dX3_whyNotMove_81 : decode cX3_whyNotMove 81 = .ok (.iload 4, 2) := zd_at zo_cX3_whyNotMove_0 50 rfl
theorem dX3_whyNotMove_83 : decode cX3_whyNotMove 83 = .ok (.iconst 4, 1) := zd_at zo_cX3_whyNotMove_0 51 rfl
theorem dX3_whyNotMove_84 : decode cX3_whyNotMove 84 = .ok (.iadd, 1) := zd_at zo_cX3_whyNotMove_0 52 rfl
theorem dX3_whyNotMove_85 : decode cX3_whyNotMove 85 = .ok (.iaload, 1) := zd_at zo_cX3_whyNotMove_0 53 rfl
theorem dX3_whyNotMove_86 : decode cX3_whyNotMove 86 = .ok (.iload_n 3, 1) := zd_at zo_cX3_whyNotMove_0 54 rfl
theorem dX3_whyNotMove_87 : decode cX3_whyNotMove 87 = .ok (.iadd, 1) := zd_at zo_cX3_whyNotMove_0 55 rfl
theorem dX3_whyNotMove_88 : decode cX3_whyNotMove 88 = .ok (.bipush 100, 2) := zd_at zo_cX3_whyNotMove_0 56 rfl
theorem dX3_whyNotMove_90 : decode cX3_whyNotMove 90 = .ok (.if_icmp .ge 7, 3) := zd_at zo_cX3_whyNotMove_0 57 rfl
theorem dX3_whyNotMove_93 : decode cX3_whyNotMove 93 = .ok (.iconst 0, 1) := zd_at zo_cX3_whyNotMove_0 58 rfl
theorem dX3_whyNotMove_94 : decode cX3_whyNotMove 94 = .ok (.goto 4, 3) := zd_at zo_cX3_whyNotMove_0 59 rfl
theorem dX3_whyNotMove_97 : decode cX3_whyNotMove 97 = .ok (.iconst 3, 1) := zd_at zo_cX3_whyNotMove_0 60 rfl
theorem dX3_whyNotMove_98 : decode cX3_whyNotMove 98 = .ok (.ireturn, 1) := zd_at zo_cX3_whyNotMove_0 61 rfl
def zl_cX3_isRectangle_0 : List (Nat × Instr × Nat) := [(0, .iload_n 0, 1), (1, .i2l, 1), (2, .lconst 0, 1), (3, .ldc2_w 171, 3), (6, .invokestatic 61, 3), (9, .ifCond .eq 45, 3), (12, .iload_n 1, 1), (13, .i2l, 1), (14, .lconst 0, 1), (15, .ldc2_w 171, 3), (18, .invokestatic 61, 3), (21, .ifCond .eq 33, 3), (24, .iload_n 2, 1), (25, .i2l, 1), (26, .iload_n 0, 1), (27, .i2l, 1), (28, .ldc2_w 171, 3), (31, .invokestatic 61, 3), (34, .ifCond .eq 20, 3), (37, .iload_n 3, 1), (38, .i2l, 1), (39, .iload_n 1, 1), (40, .i2l, 1), (41, .ldc2_w 171, 3), (44, .invokestatic 61, 3), (47, .ifCond .eq 7, 3), (50, .iconst 1, 1), (51, .goto 4, 3), (54, .iconst 0, 1), (55, .ireturn, 1)]
theorem zo_cX3_isRectangle_0 : zd_ok cX3_isRectangle zl_cX3_isRectangle_0 = true := by decide +kernel
theorem dX3_isRectangle_0 : decode cX3_isRectangle 0 = .ok (.iload_n 0, 1) := zd_at zo_cX3_isRectangle_0 0 rfl
theorem dX3_isRectangle_1 : decode cX3_isRectangle 1 = .ok (.i2l, 1) := zd_at zo_cX3_isRectangle_0 1 rfl
theorem dX3_isRectangle_2 : decode cX3_isRectangle 2 = .ok (.lconst 0, 1) := zd_at zo_cX3_isRectangle_0 2 rfl
theorem dX3_isRectangle_3 : decode cX3_isRectangle 3 = .ok (.ldc2_w 171, 3) := zd_at zo_cX3_isRectangle_0 3 rfl
theorem dX3_isRectangle_6 : decode cX3_isRectangle 6 = .ok (.invokestatic 61, 3) := zd_at zo_cX3_isRectangle_0 4 rfl
theorem dX3_isRectangle_9 : decode cX3_isRectangle 9 = .ok (.ifCond .eq 45, 3) := zd_at zo_cX3_isRectangle_0 5 rfl
theorem dX3_isRectangle_12 : decode cX3_isRectangle 12 = .ok (.iload_n 1, 1) := zd_at zo_cX3_isRectangle_0 6 rfl
theorem dX3_isRectangle_13 : decode cX3_isRectangle 13 = .ok (.i2l, 1) := zd_at zo_cX3_isRectangle_0 7 rfl
theorem dX3_isRectangle_14 : decode cX3_isRectangle 14 = .ok (.lconst 0, 1) := zd_at zo_cX3_isRectangle_0 8 rfl
theorem dX3_isRectangle_15 : decode cX3_isRectangle 15 = .ok (.ldc2_w 171, 3) := zd_at zo_cX3_isRectangle_0 9 rfl
theorem dX3_isRectangle_18 : decode cX3_isRectangle 18 = .ok (.invokestatic 61, 3) := zd_at zo_cX3_isRectangle_0 10 rfl
theorem dX3_isRectangle_21 : decode cX3_isRectangle 21 = .ok (.ifCond .eq 33, 3) := zd_at zo_cX3_isRectangle_0 11 rfl
theorem dX3_isRectangle_24 : decode cX3_isRectangle 24 = .ok (.iload_n 2, 1) := zd_at zo_cX3_isRectangle_0 12 rfl
theorem dX3_isRectangle_25 : decode cX3_isRectangle 25 = .ok (.i2l, 1) := zd_at zo_cX3_isRectangle_0 13 rfl
theorem dX3_isRectangle_26 : decode cX3_isRectangle 26 = .ok (.iload_n 0, 1) := zd_at zo_cX3_isRectangle_0 14 rfl
theorem dX3_isRectangle_27 : decode cX3_isRectangle 27 = .ok (.i2l, 1) := zd_at zo_cX3_isRectangle_0 15 rfl
theorem dX3_isRectangle_28 : decode cX3_isRectangle 28 = .ok (.ldc2_w 171, 3) := zd_at zo_cX3_isRectangle_0 16 rfl
theorem dX3_isRectangle_31 : decode cX3_isRectangle 31 = .ok (.invokestatic 61, 3) := zd_at zo_cX3_isRectangle_0 17 rfl
theorem dX3_isRectangle_34 : decode cX3_isRectangle 34 = .ok (.ifCond .eq 20, 3) := zd_at zo_cX3_isRectangle_0 18 rfl
theorem dX3_isRectangle_37 : decode cX3_isRectangle 37 = .ok (.iload_n 3, 1) := zd_at zo_cX3_isRectangle_0 19 rfl
theorem dX3_isRectangle_38 : decode cX3_isRectangle 38 = .ok (.i2l, 1) := zd_at zo_cX3_isRectangle_0 20 rfl
theorem dX3_isRectangle_39 : decode cX3_isRectangle 39 = .ok (.iload_n 1, 1) := zd_at zo_cX3_isRectangle_0 21 rfl
theorem dX3_isRectangle_40 : decode cX3_isRectangle 40 = .ok (.i2l, 1) := zd_at zo_cX3_isRectangle_0 22 rfl
theorem dX3_isRectangle_41 : decode cX3_isRectangle 41 = .ok (.ldc2_w 171, 3) := zd_at zo_cX3_isRectangle_0 23 rfl
theorem dX3_isRectangle_44 : decode cX3_isRectangle 44 = .ok (.invokestatic 61, 3) := zd_at zo_cX3_isRectangle_0 24 rfl
theorem dX3_isRectangle_47 : decode cX3_isRectangle 47 = .ok (.ifCond .eq 7, 3) := zd_at zo_cX3_isRectangle_0 25 rfl
theorem dX3_isRectangle_50 : decode cX3_isRectangle 50 = .ok (.iconst 1, 1) := zd_at zo_cX3_isRectangle_0 26 rfl
theorem dX3_isRectangle_51 : decode cX3_isRectangle 51 = .ok (.goto 4, 3) := zd_at zo_cX3_isRectangle_0 27 rfl
theorem dX3_isRectangle_54 : decode cX3_isRectangle 54 = .ok (.iconst 0, 1) := zd_at zo_cX3_isRectangle_0 28 rfl
theorem dX3_isRectangle_55 : decode cX3_isRectangle 55 = .ok (.ireturn, 1) := zd_at zo_cX3_isRectangle_0 29 rfl
def zl_cX3_numberNodes_0 : List (Nat × Instr × Nat) := [(0, .iconst 0, 1), (1, .istore_n 2, 1), (2, .iconst 1, 1), (3, .istore_n 3, 1), (4, .aload_n 0, 1), (5, .getfield 44, 3), (8, .iconst 0, 1), (9, .aload_n 1, 1), (10, .sipush 376, 3), (13, .iaload, 1), (14, .iastore, 1), (15, .iload_n 3, 1), (16, .ifCond .le 86, 3), (19, .iinc 3 (-1), 3), (22, .aload_n 0, 1), (23, .getfield 44, 3), (26, .iload_n 3, 1), (27, .iaload, 1), (28, .istore 4, 2), (30, .aload_n 0, 1), (31, .getfield 38, 3), (34, .iload 4, 2), (36, .iload_n 2, 1), (37, .iastore, 1), (38, .aload_n 0, 1), (39, .getfield 41, 3), (42, .iload_n 2, 1), (43, .iload 4, 2), (45, .iastore, 1), (46, .iinc 2 1, 3), (49, .aload_n 1, 1), (50, .iload 4, 2), (52, .invokestatic 69, 3), (55, .iconst 1, 1), (56, .isub, 1), (57, .istore 5, 2), (59, .iload 5, 2), (61, .ifCond .lt 38, 3), (64, .aload_n 1, 1), (65, .iload 4, 2), (67, .invokestatic 65, 3), (70, .ifCond .le 29, 3), (73, .aload_n 0, 1), (74, .getfield 44, 3), (77, .iload_n 3, 1), (78, .aload_n 1, 1), (79, .iload 4, 2), (81, .iload 5, 2), (83, .invokestatic 72, 3), (86, .bipush 24, 2), (88, .isub, 1), (89, .iastore, 1), (90, .iinc 3 1, 3), (93, .iinc 5 (-1), 3), (96, .goto (-37), 3), (99, .goto (-84), 3), (102, .iload_n 2, 1), (103, .ireturn, 1)]
theorem zo_cX3_numberNodes_0 : zd_ok cX3_numberNodes zl_cX3_numberNodes_0 = true := by decide +kernel
theorem dX3_numberNodes_0 : decode cX3_numberNodes 0 = .ok (.iconst 0, 1) := zd_at zo_cX3_numberNodes_0 0 rfl
theorem dX3_numberNodes_1 : decode cX3_numberNodes 1 = .ok (.istore_n 2, 1) := zd_at zo_cX3_numberNodes_0 1 rfl
theorem dX3_numberNodes_2 : decode cX3_numberNodes 2 = .ok (.iconst 1, 1) := zd_at zo_cX3_numberNodes_0 2 rfl
theorem dX3_numberNodes_3 : decode cX3_numberNodes 3 = .ok (.istore_n 3, 1) := zd_at zo_cX3_numberNodes_0 3 rfl
theorem dX3_numberNodes_4 : decode cX3_numberNodes 4 = .ok (.aload_n 0, 1) := zd_at zo_cX3_numberNodes_0 4 rfl
theorem dX3_numberNodes_5 : decode cX3_numberNodes 5 = .ok (.getfield 44, 3) := zd_at zo_cX3_numberNodes_0 5 rfl
theorem dX3_numberNodes_8 : decode cX3_numberNodes 8 = .ok (.iconst 0, 1) := zd_at zo_cX3_numberNodes_0 6 rfl
theorem dX3_numberNodes_9 : decode cX3_numberNodes 9 = .ok (.aload_n 1, 1) := zd_at zo_cX3_numberNodes_0 7 rfl
theorem dX3_numberNodes_10 : decode cX3_numberNodes 10 = .ok (.sipush 376, 3) := zd_at zo_cX3_numberNodes_0 8 rfl
theorem dX3_numberNodes_13 : decode cX3_numberNodes 13 = .ok (.iaload, 1) := zd_at zo_cX3_numberNodes_0 9 rfl
theorem dX3_numberNodes_14 : decode cX3_numberNodes 14 = .ok (.iastore, 1) := zd_at zo_cX3_numberNodes_0 10 rfl
theorem dX3_numberNodes_15 : decode cX3_numberNodes 15 = .ok (.iload_n 3, 1) := zd_at zo_cX3_numberNodes_0 11 rfl
theorem dX3_numberNodes_16 : decode cX3_numberNodes 16 = .ok (.ifCond .le 86, 3) := zd_at zo_cX3_numberNodes_0 12 rfl
theorem dX3_numberNodes_19 : decode cX3_numberNodes 19 = .ok (.iinc 3 (-1), 3) := zd_at zo_cX3_numberNodes_0 13 rfl
theorem dX3_numberNodes_22 : decode cX3_numberNodes 22 = .ok (.aload_n 0, 1) := zd_at zo_cX3_numberNodes_0 14 rfl
theorem dX3_numberNodes_23 : decode cX3_numberNodes 23 = .ok (.getfield 44, 3) := zd_at zo_cX3_numberNodes_0 15 rfl
theorem dX3_numberNodes_26 : decode cX3_numberNodes 26 = .ok (.iload_n 3, 1) := zd_at zo_cX3_numberNodes_0 16 rfl
theorem dX3_numberNodes_27 : decode cX3_numberNodes 27 = .ok (.iaload, 1) := zd_at zo_cX3_numberNodes_0 17 rfl
theorem dX3_numberNodes_28 : decode cX3_numberNodes 28 = .ok (.istore 4, 2) := zd_at zo_cX3_numberNodes_0 18 rfl
theorem dX3_numberNodes_30 : decode cX3_numberNodes 30 = .ok (.aload_n 0, 1) := zd_at zo_cX3_numberNodes_0 19 rfl
theorem dX3_numberNodes_31 : decode cX3_numberNodes 31 = .ok (.getfield 38, 3) := zd_at zo_cX3_numberNodes_0 20 rfl
theorem dX3_numberNodes_34 : decode cX3_numberNodes 34 = .ok (.iload 4, 2) := zd_at zo_cX3_numberNodes_0 21 rfl
theorem dX3_numberNodes_36 : decode cX3_numberNodes 36 = .ok (.iload_n 2, 1) := zd_at zo_cX3_numberNodes_0 22 rfl
theorem dX3_numberNodes_37 : decode cX3_numberNodes 37 = .ok (.iastore, 1) := zd_at zo_cX3_numberNodes_0 23 rfl
theorem dX3_numberNodes_38 : decode cX3_numberNodes 38 = .ok (.aload_n 0, 1) := zd_at zo_cX3_numberNodes_0 24 rfl
theorem dX3_numberNodes_39 : decode cX3_numberNodes 39 = .ok (.getfield 41, 3) := zd_at zo_cX3_numberNodes_0 25 rfl
theorem dX3_numberNodes_42 : decode cX3_numberNodes 42 = .ok (.iload_n 2, 1) := zd_at zo_cX3_numberNodes_0 26 rfl
theorem dX3_numberNodes_43 : decode cX3_numberNodes 43 = .ok (.iload 4, 2) := zd_at zo_cX3_numberNodes_0 27 rfl
theorem dX3_numberNodes_45 : decode cX3_numberNodes 45 = .ok (.iastore, 1) := zd_at zo_cX3_numberNodes_0 28 rfl
theorem dX3_numberNodes_46 : decode cX3_numberNodes 46 = .ok (.iinc 2 1, 3) := zd_at zo_cX3_numberNodes_0 29 rfl
theorem dX3_numberNodes_49 : decode cX3_numberNodes 49 = .ok (.aload_n 1, 1) := zd_at zo_cX3_numberNodes_0 30 rfl
theorem dX3_numberNodes_50 : decode cX3_numberNodes 50 = .ok (.iload 4, 2) := zd_at zo_cX3_numberNodes_0 31 rfl
theorem dX3_numberNodes_52 : decode cX3_numberNodes 52 = .ok (.invokestatic 69, 3) := zd_at zo_cX3_numberNodes_0 32 rfl
theorem dX3_numberNodes_55 : decode cX3_numberNodes 55 = .ok (.iconst 1, 1) := zd_at zo_cX3_numberNodes_0 33 rfl
theorem dX3_numberNodes_56 : decode cX3_numberNodes 56 = .ok (.isub, 1) := zd_at zo_cX3_numberNodes_0 34 rfl
theorem dX3_numberNodes_57 : decode cX3_numberNodes 57 = .ok (.istore 5, 2) := zd_at zo_cX3_numberNodes_0 35 rfl
theorem dX3_numberNodes_59 : decode cX3_numberNodes 59 = .ok (.iload 5, 2) := zd_at zo_cX3_numberNodes_0 36 rfl
theorem dX3_numberNodes_61 : decode cX3_numberNodes 61 = .ok (.ifCond .lt 38, 3) := zd_at zo_cX3_numberNodes_0 37 rfl
theorem dX3_numberNodes_64 : decode cX3_numberNodes 64 = .ok (.aload_n 1, 1) := zd_at zo_cX3_numberNodes_0 38 rfl
theorem dX3_numberNodes_65 : decode cX3_numberNodes 65 = .ok (.iload 4, 2) := zd_at zo_cX3_numberNodes_0 39 rfl
theorem dX3_numberNodes_67 : decode cX3_numberNodes 67 = .ok (.invokestatic 65, 3) := zd_at zo_cX3_numberNodes_0 40 rfl
theorem dX3_numberNodes_70 : decode cX3_numberNodes 70 = .ok (.ifCond .le 29, 3) := zd_at zo_cX3_numberNodes_0 41 rfl
theorem dX3_numberNodes_73 : decode cX3_numberNodes 73 = .ok (.aload_n 0, 1) := zd_at zo_cX3_numberNodes_0 42 rfl
theorem dX3_numberNodes_74 : decode cX3_numberNodes 74 = .ok (.getfield 44, 3) := zd_at zo_cX3_numberNodes_0 43 rfl
theorem dX3_numberNodes_77 : decode cX3_numberNodes 77 = .ok (.iload_n 3, 1) := zd_at zo_cX3_numberNodes_0 44 rfl
theorem dX3_numberNodes_78 : decode cX3_numberNodes 78 = .ok (.aload_n 1, 1) := zd_at zo_cX3_numberNodes_0 45 rfl
theorem dX3_numberNodes_79 : decode cX3_numberNodes 79 = .ok (.iload 4, 2) := zd_at zo_cX3_numberNodes_0 46 rfl
theorem dX3_numberNodes_81 : decode cX3_numberNodes 81 = .ok (.iload 5, 2) := zd_at zo_cX3_numberNodes_0 47 rfl
theorem dX3_numberNodes_83 : decode cX3_numberNodes 83 = .ok (.invokestatic 72, 3) := zd_at zo_cX3_numberNodes_0 48 rfl
theorem dX3_numberNodes_86 : decode cX3_numberNodes 86 = .ok (.bipush 24, 2) := zd_at zo_cX3_numberNodes_0 49 rfl
theorem dX3_numberNodes_88 : decode cX3_numberNodes 88 = .ok (.isub, 1) := zd_at zo_cX3_numberNodes_0 50 rfl
theorem dX3_numberNodes_89 : decode cX3_numberNodes 89 = .ok (.iastore, 1) := zd_at zo_cX3_numberNodes_0 51 rfl
theorem dX3_numberNodes_90 : decode cX3_numberNodes 90 = .ok (.iinc 3 1, 3) := zd_at zo_cX3_numberNodes_0 52 rfl
theorem dX3_numberNodes_93 : decode cX3_numberNodes 93 = .ok (.iinc 5 (-1), 3) := zd_at zo_cX3_numberNodes_0 53 rfl
theorem dX3_numberNodes_96 : decode cX3_numberNodes 96 = .ok (.goto (-37), 3) := zd_at zo_cX3_numberNodes_0 54 rfl
theorem dX3_numberNodes_99 : decode cX3_numberNodes 99 = .ok (.goto (-84), 3) := zd_at zo_cX3_numberNodes_0 55 rfl
theorem dX3_numberNodes_102 : decode cX3_numberNodes 102 = .ok (.iload_n 2, 1) := zd_at zo_cX3_numberNodes_0 56 rfl
theorem dX3_numberNodes_103 : decode cX3_numberNodes 103 = .ok (.ireturn, 1) := zd_at zo_cX3_numberNodes_0 57 rfl
def zl_cX3_overlap_0 : List (Nat × Instr × Nat) := [(0, .aload_n 0, 1), (1, .aload_n 1, 1), (2, .invokevirtual 130, 3), (5, .iconst 0, 1), (6, .istore_n 2, 1), (7, .iconst 0, 1), (8, .istore_n 3, 1), (9, .iload_n 3, 1), (10, .bipush 32, 2), (12, .if_icmp .ge 79, 3), (15, .iconst 0, 1), (16, .istore 4, 2), (18, .iload 4, 2), (20, .aload_n 1, 1), (21, .iload_n 3, 1), (22, .invokestatic 69, 3), (25, .if_icmp .ge 60, 3), (28, .aload_n 1, 1), (29, .iload_n 3, 1), (30, .invokestatic 65, 3), (33, .ifCond .le 52, 3), (36, .iload 4, 2), (38, .iconst 1, 1), (39, .iadd, 1), (40, .istore 5, 2), (42, .iload 5, 2), (44, .aload_n 1, 1), (45, .iload_n 3, 1), (46, .invokestatic 69, 3), (49, .if_icmp .ge 30, 3), (52, .iload_n 2, 1), (53, .aload_n 0, 1), (54, .aload_n 1, 1), (55, .iload_n 3, 1), (56, .iload 4, 2), (58, .invokestatic 72, 3), (61, .aload_n 1, 1), (62, .iload_n 3, 1), (63, .iload 5, 2), (65, .invokestatic 72, 3), (68, .invokevirtual 173, 3), (71, .iadd, 1), (72, .istore_n 2, 1), (73, .iinc 5 1, 3), (76, .goto (-34), 3), (79, .iinc 4 1, 3), (82, .goto (-64), 3), (85, .iinc 3 1, 3), (88, .goto (-79), 3), (91, .iload_n 2, 1), (92, .ireturn, 1)]
theorem zo_cX3_overlap_0 : zd_ok cX3_overlap zl_cX3_overlap_0 = true := by decide +kernel
theorem dX3_overlap_0 : decode cX3_overlap 0 = .ok (.aload_n 0, 1) := zd_at zo_cX3_overlap_0 0 rfl
theorem dX3_overlap_1 : decode cX3_overlap 1 = .ok (.aload_n 1, 1) := zd_at zo_cX3_overlap_0 1 rfl
theorem dX3_overlap_2 : decode cX3_overlap 2 = .ok (.invokevirtual 130, 3) := zd_at zo_cX3_overlap_0 2 rfl
theorem dX3_overlap_5 : decode cX3_overlap 5 = .ok (.iconst 0, 1) := zd_at zo_cX3_overlap_0 3 rfl
theorem dX3_overlap_6 : decode cX3_overlap 6 = .ok (.istore_n 2, 1) := zd_at zo_cX3_overlap_0 4 rfl
theorem dX3_overlap_7 : decode cX3_overlap 7 = .ok (.iconst 0, 1) := zd_at zo_cX3_overlap_0 5 rfl
theorem dX3_overlap_8 : decode cX3_overlap 8 = .ok (.istore_n 3, 1) := zd_at zo_cX3_overlap_0 6 rfl
theorem dX3_overlap_9 : decode cX3_overlap 9 = .ok (.iload_n 3, 1) := zd_at zo_cX3_overlap_0 7 rfl
theorem dX3_overlap_10 : decode cX3_overlap 10 = .ok (.bipush 32, 2) := zd_at zo_cX3_overlap_0 8 rfl
theorem dX3_overlap_12 : decode cX3_overlap 12 = .ok (.if_icmp .ge 79, 3) := zd_at zo_cX3_overlap_0 9 rfl
theorem dX3_overlap_15 : decode cX3_overlap 15 = .ok (.iconst 0, 1) := zd_at zo_cX3_overlap_0 10 rfl
theorem dX3_overlap_16 : decode cX3_overlap 16 = .ok (.istore 4, 2) := zd_at zo_cX3_overlap_0 11 rfl
theorem dX3_overlap_18 : decode cX3_overlap 18 = .ok (.iload 4, 2) := zd_at zo_cX3_overlap_0 12 rfl
theorem dX3_overlap_20 : decode cX3_overlap 20 = .ok (.aload_n 1, 1) := zd_at zo_cX3_overlap_0 13 rfl
theorem dX3_overlap_21 : decode cX3_overlap 21 = .ok (.iload_n 3, 1) := zd_at zo_cX3_overlap_0 14 rfl
theorem dX3_overlap_22 : decode cX3_overlap 22 = .ok (.invokestatic 69, 3) := zd_at zo_cX3_overlap_0 15 rfl
theorem dX3_overlap_25 : decode cX3_overlap 25 = .ok (.if_icmp .ge 60, 3) := zd_at zo_cX3_overlap_0 16 rfl
theorem dX3_overlap_28 : decode cX3_overlap 28 = .ok (.aload_n 1, 1) := zd_at zo_cX3_overlap_0 17 rfl
theorem dX3_overlap_29 : decode cX3_overlap 29 = .ok (.iload_n 3, 1) := zd_at zo_cX3_overlap_0 18 rfl
theorem dX3_overlap_30 : decode cX3_overlap 30 = .ok (.invokestatic 65, 3) := zd_at zo_cX3_overlap_0 19 rfl
theorem dX3_overlap_33 : decode cX3_overlap 33 = .ok (.ifCond .le 52, 3) := zd_at zo_cX3_overlap_0 20 rfl
theorem dX3_overlap_36 : decode cX3_overlap 36 = .ok (.iload 4, 2) := zd_at zo_cX3_overlap_0 21 rfl
theorem dX3_overlap_38 : decode cX3_overlap 38 = .ok (.iconst 1, 1) := zd_at zo_cX3_overlap_0 22 rfl
theorem dX3_overlap_39 : decode cX3_overlap 39 = .ok (.iadd, 1) := zd_at zo_cX3_overlap_0 23 rfl
theorem dX3_overlap_40 : decode cX3_overlap 40 = .ok (.istore 5, 2) := zd_at zo_cX3_overlap_0 24 rfl
theorem dX3_overlap_42 : decode cX3_overlap 42 = .ok (.iload 5, 2) := zd_at zo_cX3_overlap_0 25 rfl
theorem dX3_overlap_44 : decode cX3_overlap 44 = .ok (.aload_n 1, 1) := zd_at zo_cX3_overlap_0 26 rfl
theorem dX3_overlap_45 : decode cX3_overlap 45 = .ok (.iload_n 3, 1) := zd_at zo_cX3_overlap_0 27 rfl
theorem dX3_overlap_46 : decode cX3_overlap 46 = .ok (.invokestatic 69, 3) := zd_at zo_cX3_overlap_0 28 rfl
theorem dX3_overlap_49 : decode cX3_overlap 49 = .ok (.if_icmp .ge 30, 3) := zd_at zo_cX3_overlap_0 29 rfl
theorem dX3_overlap_52 : decode cX3_overlap 52 = .ok (.iload_n 2, 1) := zd_at zo_cX3_overlap_0 30 rfl
theorem dX3_overlap_53 : decode cX3_overlap 53 = .ok (.aload_n 0, 1) := zd_at zo_cX3_overlap_0 31 rfl
theorem dX3_overlap_54 : decode cX3_overlap 54 = .ok (.aload_n 1, 1) := zd_at zo_cX3_overlap_0 32 rfl
theorem dX3_overlap_55 : decode cX3_overlap 55 = .ok (.iload_n 3, 1) := zd_at zo_cX3_overlap_0 33 rfl
theorem dX3_overlap_56 : decode cX3_overlap 56 = .ok (.iload 4, 2) := zd_at zo_cX3_overlap_0 34 rfl
theorem dX3_overlap_58 : decode cX3_overlap 58 = .ok (.invokestatic 72, 3) := zd_at zo_cX3_overlap_0 35 rfl
theorem dX3_overlap_61 : decode cX3_overlap 61 = .ok (.aload_n 1, 1) := zd_at zo_cX3_overlap_0 36 rfl
theorem dX3_overlap_62 : decode cX3_overlap 62 = .ok (.iload_n 3, 1) := zd_at zo_cX3_overlap_0 37 rfl
theorem dX3_overlap_63 : decode cX3_overlap 63 = .ok (.iload 5, 2) := zd_at zo_cX3_overlap_0 38 rfl
theorem dX3_overlap_65 : decode cX3_overlap 65 = .ok (.invokestatic 72, 3) := zd_at zo_cX3_overlap_0 39 rfl
theorem dX3_overlap_68 : decode cX3_overlap 68 = .ok (.invokevirtual 173, 3) := zd_at zo_cX3_overlap_0 40 rfl
theorem dX3_overlap_71 : decode cX3_overlap 71 = .ok (.iadd, 1) := zd_at zo_cX3_overlap_0 41 rfl
theorem dX3_overlap_72 : decode cX3_overlap 72 = .ok (.istore_n 2, 1) := zd_at zo_cX3_overlap_0 42 rfl
theorem dX3_overlap_73 : decode cX3_overlap 73 = .ok (.iinc 5 1, 3) := zd_at zo_cX3_overlap_0 43 rfl
theorem dX3_overlap_76 : decode cX3_overlap 76 = .ok (.goto (-34), 3) := zd_at zo_cX3_overlap_0 44 rfl
theorem dX3_overlap_79 : decode cX3_overlap 79 = .ok (.iinc 4 1, 3) := zd_at zo_cX3_overlap_0 45 rfl
theorem dX3_overlap_82 : decode cX3_overlap 82 = .ok (.goto (-64), 3) := zd_at zo_cX3_overlap_0 46 rfl
theorem dX3_overlap_85 : decode cX3_overlap 85 = .ok (.iinc 3 1, 3) := zd_at zo_cX3_overlap_0 47 rfl
theorem dX3_overlap_88 : decode cX3_overlap 88 = .ok (.goto (-79), 3) := zd_at zo_cX3_overlap_0 48 rfl
theorem dX3_overlap_91 : decode cX3_overlap 91 = .ok (.iload_n 2, 1) := zd_at zo_cX3_overlap_0 49 rfl
theorem dX3_overlap_92 : decode cX3_overlap 92 = .ok (.ireturn, 1) := zd_at zo_cX3_overlap_0 50 rfl
def zl_cX3_append_0 : List (Nat × Instr × Nat) := [(0, .aload_n 0, 1), (1, .iload_n 1, 1), (2, .i2l, 1), (3, .lconst 0, 1), (4, .ldc2_w 176, 3), (7, .invokestatic 61, 3), (10, .ifCond .ne 7, 3), (13, .iconst 1, 1), (14, .goto 17, 3), (17, .aload_n 0, 1), (18, .getfield 178, 3), (21, .bipush 100, 2), (23, .if_icmp .ne 7, 3), (26, .iconst 2, 1), (27, .goto 4, 3), (30, .iconst 0, 1), (31, .invokevirtual 181, 3), (34, .ifCond .eq 5, 3), (37, .iconst 0, 1), (38, .ireturn, 1), (39, .aload_n 0, 1), (40, .getfield 7, 3), (43, .aload_n 0, 1), (44, .getfield 178, 3), (47, .iload_n 1, 1), (48, .iastore, 1), (49, .aload_n 0, 1), (50, .dup, 1), (51, .getfield 178, 3), (54, .iconst 1, 1), (55, .iadd, 1), (56, .putfield 178, 3), (59, .aload_n 0, 1), (60, .getfield 178, 3), (63, .ireturn, 1)]
theorem zo_cX3_append_0 : zd_ok cX3_append zl_cX3_append_0 = true := by decide +kernel
theorem dX3_append_0 : decode cX3_append 0 = .ok (.aload_n 0, 1) := zd_at zo_cX3_append_0 0 rfl
theorem dX3_append_1 : decode cX3_append 1 = .ok (.iload_n 1, 1) := zd_at zo_cX3_append_0 1 rfl
theorem dX3_append_2 : decode cX3_append 2 = .ok (.i2l, 1) := zd_at zo_cX3_append_0 2 rfl
theorem dX3_append_3 : decode cX3_append 3 = .ok (.lconst 0, 1) := zd_at zo_cX3_append_0 3 rfl
theorem dX3_append_4 : decode cX3_append 4 = .ok (.ldc2_w 176, 3) := zd_at zo_cX3_append_0 4 rfl
theorem dX3_append_7 : decode cX3_append 7 = .ok (.invokestatic 61, 3) := zd_at zo_cX3_append_0 5 rfl
theorem dX3_append_10 : decode cX3_append 10 = .ok (.ifCond .ne 7, 3) := zd_at zo_cX3_append_0 6 rfl
theorem dX3_append_13 : decode cX3_append 13 = .ok (.iconst 1, 1) := zd_at zo_cX3_append_0 7 rfl
theorem dX3_append_14 : decode cX3_append 14 = .ok (.goto 17, 3) := zd_at zo_cX3_append_0 8 rfl
theorem dX3_append_17 : decode cX3_append 17 = .ok (.aload_n 0, 1) := zd_at zo_cX3_append_0 9 rfl
theorem dX3_append_18 : decode cX3_append 18 = .ok (.getfield 178, 3) := zd_at zo_cX3_append_0 10 rfl
theorem dX3_append_21 : decode cX3_append 21 = .ok (.bipush 100, 2) := zd_at zo_cX3_append_0 11 rfl
theorem dX3_append_23 : decode cX3_append 23 = .ok (.if_icmp .ne 7, 3) := zd_at zo_cX3_append_0 12 rfl
theorem dX3_append_26 : decode cX3_append 26 = .ok (.iconst 2, 1) := zd_at zo_cX3_append_0 13 rfl
theorem dX3_append_27 : decode cX3_append 27 = .ok (.goto 4, 3) := zd_at zo_cX3_append_0 14 rfl
theorem dX3_append_30 : decode cX3_append 30 = .ok (.iconst 0, 1) := zd_at zo_cX3_append_0 15 rfl
theorem dX3_append_31 : decode cX3_append 31 = .ok (.invokevirtual 181, 3) := zd_at zo_cX3_append_0 16 rfl
theorem dX3_append_34 : decode cX3_append 34 = .ok (.ifCond .eq 5, 3) := zd_at zo_cX3_append_0 17 rfl
theorem dX3_append_37 : decode cX3_append 37 = .ok (.iconst 0, 1) := zd_at zo_cX3_append_0 18 rfl
theorem dX3_append_38 : decode cX3_append 38 = .ok (.ireturn, 1) := zd_at zo_cX3_append_0 19 rfl
theorem dX3_append_39 : decode cX3_append 39 = .ok (.aload_n 0, 1) := zd_at zo_cX3_append_0 20 rfl
theorem dX3_append_40 : decode cX3_append 40 = .ok (.getfield 7, 3) := zd_at zo_cX3_append_0 21 rfl
theorem dX3_append_43 : decode cX3_append 43 = .ok (.aload_n 0, 1) := zd_at zo_cX3_append_0 22 rfl
theorem dX3_append_44 : decode cX3_append 44 = .ok (.getfield 178, 3) := zd_at zo_cX3_append_0 23 rfl
theorem dX3_append_47 : decode cX3_append 47 = .ok (.iload_n 1, 1) := zd_at zo_cX3_append_0 24 rfl
theorem dX3_append_48 : decode cX3_append 48 = .ok (.iastore, 1) := zd_at zo_cX3_append_0 25 rfl
theorem dX3_append_49 : decode cX3_append 49 = .ok (.aload_n 0, 1) := zd_at zo_cX3_append_0 26 rfl
theorem dX3_append_50 : decode cX3_append 50 = .ok (.dup, 1) := zd_at zo_cX3_append_0 27 rfl
theorem dX3_append_51 : decode cX3_append 51 = .ok (.getfield 178, 3) := zd_at zo_cX3_append_0 28 rfl
theorem dX3_append_54 : decode cX3_append 54 = .ok (.iconst 1, 1) := zd_at zo_cX3_append_0 29 rfl
theorem dX3_append_55 : decode cX3_append 55 = .ok (.iadd, 1) := zd_at zo_cX3_append_0 30 rfl
theorem dX3_append_56 : decode cX3_append 56 = .ok (.putfield 178, 3) := zd_at zo_cX3_append_0 31 rfl
theorem dX3_append_59 : decode cX3_append 59 = .ok (.aload_n 0, 1) := zd_at zo_cX3_append_0 32 rfl
theorem dX3_append_60 : decode cX3_append 60 = .ok (.getfield 178, 3) := zd_at zo_cX3_append_0 33 rfl
theorem dX3_append_63 : decode cX3_append 63 = .ok (.ireturn, 1) := zd_at zo_cX3_append_0 34 rfl
def zl_cX3_clearText_0 : List (Nat × Instr × Nat) := [(0, .aload_n 0, 1), (1, .iconst 0, 1), (2, .putfield 51, 3), (5, .aload_n 0, 1), (6, .getfield 178, 3), (9, .istore_n 1, 1), (10, .aload_n 0, 1), (11, .iconst 0, 1), (12, .putfield 178, 3), (15, .iload_n 1, 1), (16, .ireturn, 1)]
theorem zo_cX3_clearText_0 : zd_ok cX3_clearText zl_cX3_clearText_0 = true := by decide +kernel
theorem dX3_clearText_0 : decode cX3_clearText 0 = .ok (.aload_n 0, 1) := zd_at zo_cX3_clearText_0 0 rfl
theorem dX3_clearText_1 : decode cX3_clearText 1 = .ok (.iconst 0, 1) := zd_at zo_cX3_clearText_0 1 rfl
theorem dX3_clearText_2 : decode cX3_clearText 2 = .ok (.putfield 51, 3) := zd_at zo_cX3_clearText_0 2 rfl
theorem dX3_clearText_5 : decode cX3_clearText 5 = .ok (.aload_n 0, 1) := zd_at zo_cX3_clearText_0 3 rfl
theorem dX3_clearText_6 : decode cX3_clearText 6 = .ok (.getfield 178, 3) := zd_at zo_cX3_clearText_0 4 rfl
theorem dX3_clearText_9 : decode cX3_clearText 9 = .ok (.istore_n 1, 1) := zd_at zo_cX3_clearText_0 5 rfl
theorem dX3_clearText_10 : decode cX3_clearText 10 = .ok (.aload_n 0, 1) := zd_at zo_cX3_clearText_0 6 rfl
theorem dX3_clearText_11 : decode cX3_clearText 11 = .ok (.iconst 0, 1) := zd_at zo_cX3_clearText_0 7 rfl
theorem dX3_clearText_12 : decode cX3_clearText 12 = .ok (.putfield 178, 3) := zd_at zo_cX3_clearText_0 8 rfl
theorem dX3_clearText_15 : decode cX3_clearText 15 = .ok (.iload_n 1, 1) := zd_at zo_cX3_clearText_0 9 rfl
theorem dX3_clearText_16 : decode cX3_clearText 16 = .ok (.ireturn, 1) := zd_at zo_cX3_clearText_0 10 rfl
def zl_cX3_here_0 : List (Nat × Instr × Nat) := [(0, .aload_n 0, 1), (1, .getfield 185, 3), (4, .aload_n 0, 1), (5, .getfield 178, 3), (8, .if_icmp .ge 15, 3), (11, .aload_n 0, 1), (12, .getfield 7, 3), (15, .aload_n 0, 1), (16, .getfield 185, 3), (19, .iaload, 1), (20, .goto 4, 3), (23, .iconst (-1), 1), (24, .ireturn, 1)]
theorem zo_cX3_here_0 : zd_ok cX3_here zl_cX3_here_0 = true := by decide +kernel
theorem dX3_here_0 : decode cX3_here 0 = .ok (.aload_n 0, 1) := zd_at zo_cX3_here_0 0 rfl
theorem dX3_here_1 : decode cX3_here 1 = .ok (.getfield 185, 3) := zd_at zo_cX3_here_0 1 rfl
theorem dX3_here_4 : decode cX3_here 4 = .ok (.aload_n 0, 1) := zd_at zo_cX3_here_0 2 rfl
theorem dX3_here_5 : decode cX3_here 5 = .ok (.getfield 178, 3) := zd_at zo_cX3_here_0 3 rfl
theorem dX3_here_8 : decode cX3_here 8 = .ok (.if_icmp .ge 15, 3) := zd_at zo_cX3_here_0 4 rfl
theorem dX3_here_11 : decode cX3_here 11 = .ok (.aload_n 0, 1) := zd_at zo_cX3_here_0 5 rfl
theorem dX3_here_12 : decode cX3_here 12 = .ok (.getfield 7, 3) := zd_at zo_cX3_here_0 6 rfl
theorem dX3_here_15 : decode cX3_here 15 = .ok (.aload_n 0, 1) := zd_at zo_cX3_here_0 7 rfl
theorem dX3_here_16 : decode cX3_here 16 = .ok (.getfield 185, 3) := zd_at zo_cX3_here_0 8 rfl
theorem dX3_here_19 : decode cX3_here 19 = .ok (.iaload, 1) := zd_at zo_cX3_here_0 9 rfl
theorem dX3_here_20 : decode cX3_here 20 = .ok (.goto 4, 3) := zd_at zo_cX3_here_0 10 rfl
theorem dX3_here_23 : decode cX3_here 23 = .ok (.iconst (-1), 1) := zd_at zo_cX3_here_0 11 rfl
theorem dX3_here_24 : decode cX3_here 24 = .ok (.ireturn, 1) := zd_at zo_cX3_here_0 12 rfl
def zl_cX3_passed_0 : List (Nat × Instr × Nat) := [(0, .aload_n 0, 1), (1, .invokevirtual 188, 3), (4, .iload_n 1, 1), (5, .if_icmp .eq 5, 3), (8, .iconst 0, 1), (9, .ireturn, 1), (10, .aload_n 0, 1), (11, .dup, 1), (12, .getfield 185, 3), (15, .iconst 1, 1), (16, .iadd, 1), (17, .putfield 185, 3), (20, .iconst 1, 1), (21, .ireturn, 1)]
theorem zo_cX3_passed_0 : zd_ok cX3_passed zl_cX3_passed_0 = true := by decide +kernel
theorem dX3_passed_0 : decode cX3_passed 0 = .ok (.aload_n 0, 1) := zd_at zo_cX3_passed_0 0 rfl
theorem dX3_passed_1 : decode cX3_passed 1 = .ok (.invokevirtual 188, 3) := zd_at zo_cX3_passed_0 1 rfl
theorem dX3_passed_4 : decode cX3_passed 4 = .ok (.iload_n 1, 1) := zd_at zo_cX3_passed_0 2 rfl
theorem dX3_passed_5 : decode cX3_passed 5 = .ok (.if_icmp .eq 5, 3) := zd_at zo_cX3_passed_0 3 rfl
theorem dX3_passed_8 : decode cX3_passed 8 = .ok (.iconst 0, 1) := zd_at zo_cX3_passed_0 4 rfl
theorem dX3_passed_9 : decode cX3_passed 9 = .ok (.ireturn, 1) := zd_at zo_cX3_passed_0 5 rfl
theorem dX3_passed_10 : decode cX3_passed 10 = .ok (.aload_n 0, 1) := zd_at zo_cX3_passed_0 6 rfl
theorem dX3_passed_11 : decode cX3_passed 11 = .ok (.dup, 1) := zd_at zo_cX3_passed_0 7 rfl
theorem dX3_passed_12 : decode cX3_passed 12 = .ok (.getfield 185, 3) := zd_at zo_cX3_passed_0 8 rfl
theorem dX3_passed_15 : decode cX3_passed 15 = .ok (.iconst 1, 1) := zd_at zo_cX3_passed_0 9 rfl
theorem dX3_passed_16 : decode cX3_passed 16 = .ok (.iadd, 1) := zd_at zo_cX3_passed_0 10 rfl
theorem dX3_passed_17 : decode cX3_passed 17 = .ok (.putfield 185, 3) := zd_at zo_cX3_passed_0 11 rfl
theorem dX3_passed_20 : decode cX3_passed 20 = .ok (.iconst 1, 1) := zd_at zo_cX3_passed_0 12 rfl
theorem dX3_passed_21 : decode cX3_passed 21 = .ok (.ireturn, 1) := zd_at zo_cX3_passed_0 13 rfl
def zl_cX3_number_0 : List (Nat × Instr × Nat) := [(0, .aload_n 0, 1), (1, .invokevirtual 188, 3), (4, .bipush 48, 2), (6, .isub, 1), (7, .istore_n 3, 1), (8, .aload_n 0, 1), (9, .invokevirtual 188, 3), (12, .i2l, 1), (13, .ldc2_w 192, 3), (16, .ldc2_w 194, 3), (19, .invokestatic 61, 3), (22, .ifCond .eq 15, 3), (25, .iload_n 3, 1), (26, .i2l, 1), (27, .iload_n 1, 1), (28, .i2l, 1), (29, .iload_n 2, 1), (30, .i2l, 1), (31, .invokestatic 61, 3), (34, .ifCond .ne 5, 3), (37, .iconst (-1), 1), (38, .ireturn, 1), (39, .aload_n 0, 1), (40, .dup, 1), (41, .getfield 185, 3), (44, .iconst 1, 1), (45, .iadd, 1), (46, .putfield 185, 3), (49, .iload_n 3, 1), (50, .ifCond .le 62, 3), (53, .aload_n 0, 1), (54, .invokevirtual 188, 3), (57, .i2l, 1), (58, .ldc2_w 192, 3), (61, .ldc2_w 194, 3), (64, .invokestatic 61, 3), (67, .ifCond .eq 45, 3), (70, .bipush 10, 2), (72, .iload_n 3, 1), (73, .imul, 1), (74, .aload_n 0, 1), (75, .invokevirtual 188, 3), (78, .iadd, 1), (79, .bipush 48, 2), (81, .isub, 1), (82, .iload_n 2, 1), (83, .if_icmp .gt 29, 3), (86, .bipush 10, 2), (88, .iload_n 3, 1), (89, .imul, 1), (90, .aload_n 0, 1), (91, .invokevirtual 188, 3), (94, .iadd, 1), (95, .bipush 48, 2), (97, .isub, 1), (98, .istore_n 3, 1), (99, .aload_n 0, 1), (100, .dup, 1), (101, .getfield 185, 3), (104, .iconst 1, 1), (105, .iadd, 1), (106, .putfield 185, 3), (109, .goto (-60), 3), (112, .iload_n 3, 1), (113, .ireturn, 1)]
theorem zo_cX3_number_0 : zd_ok cX3_number zl_cX3_number_0 = true := by decide +kernel
theorem dX3_number_0 : decode cX3_number 0 = .ok (.aload_n 0, 1) := zd_at zo_cX3_number_0 0 rfl
theorem dX3_number_1 : decode cX3_number 1 = .ok (.invokevirtual 188, 3) := zd_at zo_cX3_number_0 1 rfl
theorem dX3_number_4 : decode cX3_number 4 = .ok (.bipush 48, 2) := zd_at zo_cX3_number_0 2 rfl
theorem dX3_number_6 : decode cX3_number 6 = .ok (.isub, 1) := zd_at zo_cX3_number_0 3 rfl
theorem dX3_number_7 : decode cX3_number 7 = .ok (.istore_n 3, 1) := zd_at zo_cX3_number_0 4 rfl
theorem dX3_number_8 : decode cX3_number 8 = .ok (.aload_n 0, 1) := zd_at zo_cX3_number_0 5 rfl
theorem dX3_number_9 : decode cX3_number 9 = .ok (.invokevirtual 188, 3) := zd_at zo_cX3_number_0 6 rfl
theorem dX3_number_12 : decode cX3_number 12 = .ok (.i2l, 1) := zd_at zo_cX3_number_0 7 rfl
theorem dX3_number_13 : decode cX3_number 13 = .ok (.ldc2_w 192, 3) := zd_at zo_cX3_number_0 8 rfl
theorem dX3_number_16 : decode cX3_number 16 = .ok (.ldc2_w 194, 3) := zd_at zo_cX3_number_0 9 rfl
theorem dX3_number_19 : decode cX3_number 19 = .ok (.invokestatic 61, 3) := zd_at zo_cX3_number_0 10 rfl
theorem dX3_number_22 : decode cX3_number 22 = .ok (.ifCond .eq 15, 3) := zd_at zo_cX3_number_0 11 rfl
theorem dX3_number_25 : decode cX3_number 25 = .ok (.iload_n 3, 1) := zd_at zo_cX3_number_0 12 rfl
theorem dX3_number_26 : decode cX3_number 26 = .ok (.i2l, 1) := zd_at zo_cX3_number_0 13 rfl
theorem dX3_number_27 : decode cX3_number 27 = .ok (.iload_n 1, 1) := zd_at zo_cX3_number_0 14 rfl
theorem dX3_number_28 : decode cX3_number 28 = .ok (.i2l, 1) := zd_at zo_cX3_number_0 15 rfl
theorem dX3_number_29 : decode cX3_number 29 = .ok (.iload_n 2, 1) := zd_at zo_cX3_number_0 16 rfl
theorem dX3_number_30 : decode cX3_number 30 = .ok (.i2l, 1) := zd_at zo_cX3_number_0 17 rfl
theorem dX3_number_31 : decode cX3_number 31 = .ok (.invokestatic 61, 3) := zd_at zo_cX3_number_0 18 rfl
theorem dX3_number_34 : decode cX3_number 34 = .ok (.ifCond .ne 5, 3) := zd_at zo_cX3_number_0 19 rfl
theorem dX3_number_37 : decode cX3_number 37 = .ok (.iconst (-1), 1) := zd_at zo_cX3_number_0 20 rfl
theorem dX3_number_38 : decode cX3_number 38 = .ok (.ireturn, 1) := zd_at zo_cX3_number_0 21 rfl
theorem dX3_number_39 : decode cX3_number 39 = .ok (.aload_n 0, 1) := zd_at zo_cX3_number_0 22 rfl
theorem dX3_number_40 : decode cX3_number 40 = .ok (.dup, 1) := zd_at zo_cX3_number_0 23 rfl
theorem dX3_number_41 : decode cX3_number 41 = .ok (.getfield 185, 3) := zd_at zo_cX3_number_0 24 rfl
theorem dX3_number_44 : decode cX3_number 44 = .ok (.iconst 1, 1) := zd_at zo_cX3_number_0 25 rfl
theorem dX3_number_45 : decode cX3_number 45 = .ok (.iadd, 1) := zd_at zo_cX3_number_0 26 rfl
theorem dX3_number_46 : decode cX3_number 46 = .ok (.putfield 185, 3) := zd_at zo_cX3_number_0 27 rfl
theorem dX3_number_49 : decode cX3_number 49 = .ok (.iload_n 3, 1) := zd_at zo_cX3_number_0 28 rfl
theorem dX3_number_50 : decode cX3_number 50 = .ok (.ifCond .le 62, 3) := zd_at zo_cX3_number_0 29 rfl
theorem dX3_number_53 : decode cX3_number 53 = .ok (.aload_n 0, 1) := zd_at zo_cX3_number_0 30 rfl
theorem dX3_number_54 : decode cX3_number 54 = .ok (.invokevirtual 188, 3) := zd_at zo_cX3_number_0 31 rfl
theorem dX3_number_57 : decode cX3_number 57 = .ok (.i2l, 1) := zd_at zo_cX3_number_0 32 rfl
theorem dX3_number_58 : decode cX3_number 58 = .ok (.ldc2_w 192, 3) := zd_at zo_cX3_number_0 33 rfl
theorem dX3_number_61 : decode cX3_number 61 = .ok (.ldc2_w 194, 3) := zd_at zo_cX3_number_0 34 rfl
theorem dX3_number_64 : decode cX3_number 64 = .ok (.invokestatic 61, 3) := zd_at zo_cX3_number_0 35 rfl
theorem dX3_number_67 : decode cX3_number 67 = .ok (.ifCond .eq 45, 3) := zd_at zo_cX3_number_0 36 rfl
theorem dX3_number_70 : decode cX3_number 70 = .ok (.bipush 10, 2) := zd_at zo_cX3_number_0 37 rfl
theorem dX3_number_72 : decode cX3_number 72 = .ok (.iload_n 3, 1) := zd_at zo_cX3_number_0 38 rfl
theorem dX3_number_73 : decode cX3_number 73 = .ok (.imul, 1) := zd_at zo_cX3_number_0 39 rfl
theorem dX3_number_74 : decode cX3_number 74 = .ok (.aload_n 0, 1) := zd_at zo_cX3_number_0 40 rfl
theorem dX3_number_75 : decode cX3_number 75 = .ok (.invokevirtual 188, 3) := zd_at zo_cX3_number_0 41 rfl
theorem dX3_number_78 : decode cX3_number 78 = .ok (.iadd, 1) := zd_at zo_cX3_number_0 42 rfl
theorem dX3_number_79 : decode cX3_number 79 = .ok (.bipush 48, 2) := zd_at zo_cX3_number_0 43 rfl
theorem dX3_number_81 : decode cX3_number 81 = .ok (.isub, 1) := zd_at zo_cX3_number_0 44 rfl
theorem dX3_number_82 : decode cX3_number 82 = .ok (.iload_n 2, 1) := zd_at zo_cX3_number_0 45 rfl
theorem dX3_number_83 : decode cX3_number 83 = .ok (.if_icmp .gt 29, 3) := zd_at zo_cX3_number_0 46 rfl
theorem dX3_number_86 : decode cX3_number 86 = .ok (.bipush 10, 2) := zd_at zo_cX3_number_0 47 rfl
theorem dX3_number_88 : decode cX3_number 88 = .ok (.iload_n 3, 1) := zd_at zo_cX3_number_0 48 rfl
theorem dX3_number_89 : decode cX3_number 89 = .ok (.imul, 1) := zd_at zo_cX3_number_0 49 rfl
theorem dX3_number_90 : decode cX3_number 90 = .ok (.aload_n 0, 1) := zd_at zo_cX3_number_0 50 rfl
theorem dX3_number_91 : decode cX3_number 91 = .ok (.invokevirtual 188, 3) := zd_at zo_cX3_number_0 51 rfl
theorem dX3_number_94 : decode cX3_number 94 = .ok (.iadd, 1) := zd_at zo_cX3_number_0 52 rfl
theorem dX3_number_95 : decode cX3_number 95 = .ok (.bipush 48, 2) := zd_at zo_cX3_number_0 53 rfl
theorem dX3_number_97 : decode cX3_number 97 = .ok (.isub, 1) := zd_at zo_cX3_number_0 54 rfl
theorem dX3_number_98 : decode cX3_number 98 = .ok (.istore_n 3, 1) := zd_at zo_cX3_number_0 55 rfl
theorem dX3_number_99 : decode cX3_number 99 = .ok (.aload_n 0, 1) := zd_at zo_cX3_number_0 56 rfl
theorem dX3_number_100 : decode cX3_number 100 = .ok (.dup, 1) := zd_at zo_cX3_number_0 57 rfl
theorem dX3_number_101 : decode cX3_number 101 = .ok (.getfield 185, 3) := zd_at zo_cX3_number_0 58 rfl
theorem dX3_number_104 : decode cX3_number 104 = .ok (.iconst 1, 1) := zd_at zo_cX3_number_0 59 rfl
theorem dX3_number_105 : decode cX3_number 105 = .ok (.iadd, 1) := zd_at zo_cX3_number_0 60 rfl
theorem dX3_number_106 : decode cX3_number 106 = .ok (.putfield 185, 3) := zd_at zo_cX3_number_0 61 rfl
theorem dX3_number_109 : decode cX3_number 109 = .ok (.goto (-60), 3) := zd_at zo_cX3_number_0 62 rfl
theorem dX3_number_112 : decode cX3_number 112 = .ok (.iload_n 3, 1) := zd_at zo_cX3_number_0 63 rfl
theorem dX3_number_113 : decode cX3_number 113 = .ok (.ireturn, 1) := zd_at zo_cX3_number_0 64 rfl
def zl_cX3_readOne_0 : List (Nat × Instr × Nat) := [(0, .aload_n 0, 1), (1, .iconst 0, 1), (2, .bipush 99, 2), (4, .invokevirtual 196, 3), (7, .istore_n 3, 1), (8, .iload_n 3, 1), (9, .iconst (-1), 1), (10, .if_icmp .eq 12, 3), (13, .aload_n 0, 1), (14, .bipush 44, 2), (16, .invokevirtual 199, 3), (19, .ifCond .ne 5, 3), (22, .iconst 0, 1), (23, .ireturn, 1), (24, .aload_n 0, 1), (25, .iconst 0, 1), (26, .bipush 99, 2), (28, .invokevirtual 196, 3), (31, .istore 4, 2), (33, .iload 4, 2), (35, .iconst (-1), 1), (36, .if_icmp .eq 12, 3), (39, .aload_n 0, 1), (40, .bipush 58, 2), (42, .invokevirtual 199, 3), (45, .ifCond .ne 5, 3), (48, .iconst 0, 1), (49, .ireturn, 1), (50, .aload_n 0, 1), (51, .iconst 1, 1), (52, .bipush 100, 2), (54, .iload_n 3, 1), (55, .isub, 1), (56, .invokevirtual 196, 3), (59, .istore 5, 2), (61, .iload 5, 2), (63, .iconst (-1), 1), (64, .if_icmp .eq 12, 3), (67, .aload_n 0, 1), (68, .bipush 120, 2), (70, .invokevirtual 199, 3), (73, .ifCond .ne 5, 3), (76, .iconst 0, 1), (77, .ireturn, 1), (78, .aload_n 0, 1), (79, .iconst 1, 1), (80, .bipush 100, 2), (82, .iload 4, 2), (84, .isub, 1), (85, .invokevirtual 196, 3), (88, .istore 6, 2), (90, .iload 6, 2), (92, .iconst (-1), 1), (93, .if_icmp .ne 5, 3), (96, .iconst 0, 1), (97, .ireturn, 1), (98, .aload_n 0, 1), (99, .dup, 1), (100, .getfield 202, 3), (103, .iconst 1, 1), (104, .iadd, 1), (105, .putfield 202, 3), (108, .iload_n 2, 1), (109, .ifCond .eq 25, 3), (112, .aload_n 0, 1), (113, .aload_n 1, 1), (114, .iload_n 3, 1), (115, .iload 4, 2), (117, .iload_n 3, 1), (118, .iload 5, 2), (120, .iadd, 1), (121, .iconst 1, 1), (122, .isub, 1), (123, .iload 4, 2), (125, .iload 6, 2), (127, .iadd, 1), (128, .iconst 1, 1), (129, .isub, 1), (130, .invokevirtual 205, 3), (133, .pop, 1), (134, .iconst 1, 1), (135, .ireturn, 1)]
theorem zo_cX3_readOne_0 : zd_ok cX3_readOne zl_cX3_readOne_0 = true := by decide +kernel
theorem dX3_readOne_0 : decode cX3_readOne 0 = .ok (.aload_n 0, 1) := zd_at zo_cX3_readOne_0 0 rfl
theorem dX3_readOne_1 : decode cX3_readOne 1 = .ok (.iconst 0, 1) := zd_at zo_cX3_readOne_0 1 rfl
theorem dX3_readOne_2 : decode cX3_readOne 2 = .ok (.bipush 99, 2) := zd_at zo_cX3_readOne_0 2 rfl
theorem dX3_readOne_4 : decode cX3_readOne 4 = .ok (.invokevirtual 196, 3) := zd_at zo_cX3_readOne_0 3 rfl
theorem dX3_readOne_7 : decode cX3_readOne 7 = .ok (.istore_n 3, 1) := zd_at zo_cX3_readOne_0 4 rfl
theorem dX3_readOne_8 : decode cX3_readOne 8 = .ok (.iload_n 3, 1) := zd_at zo_cX3_readOne_0 5 rfl
theorem dX3_readOne_9 : decode cX3_readOne 9 = .ok (.iconst (-1), 1) := zd_at zo_cX3_readOne_0 6 rfl
theorem dX3_readOne_10 : decode cX3_readOne 10 = .ok (.if_icmp .eq 12, 3) := zd_at zo_cX3_readOne_0 7 rfl
theorem dX3_readOne_13 : decode cX3_readOne 13 = .ok (.aload_n 0, 1) := zd_at zo_cX3_readOne_0 8 rfl
theorem dX3_readOne_14 : decode cX3_readOne 14 = .ok (.bipush 44, 2) := zd_at zo_cX3_readOne_0 9 rfl
theorem dX3_readOne_16 : decode cX3_readOne 16 = .ok (.invokevirtual 199, 3) := zd_at zo_cX3_readOne_0 10 rfl
theorem dX3_readOne_19 : decode cX3_readOne 19 = .ok (.ifCond .ne 5, 3) := zd_at zo_cX3_readOne_0 11 rfl
theorem dX3_readOne_22 : decode cX3_readOne 22 = .ok (.iconst 0, 1) := zd_at zo_cX3_readOne_0 12 rfl
theorem dX3_readOne_23 : decode cX3_readOne 23 = .ok (.ireturn, 1) := zd_at zo_cX3_readOne_0 13 rfl
theorem dX3_readOne_24 : decode cX3_readOne 24 = .ok (.aload_n 0, 1) := zd_at zo_cX3_readOne_0 14 rfl
theorem dX3_readOne_25 : decode cX3_readOne 25 = .ok (.iconst 0, 1) := zd_at zo_cX3_readOne_0 15 rfl
theorem dX3_readOne_26 : decode cX3_readOne 26 = .ok (.bipush 99, 2) := zd_at zo_cX3_readOne_0 16 rfl
theorem dX3_readOne_28 : decode cX3_readOne 28 = .ok (.invokevirtual 196, 3) := zd_at zo_cX3_readOne_0 17 rfl
theorem dX3_readOne_31 : decode cX3_readOne 31 = .ok (.istore 4, 2) := zd_at zo_cX3_readOne_0 18 rfl
theorem dX3_readOne_33 : decode cX3_readOne 33 = .ok (.iload 4, 2) := zd_at zo_cX3_readOne_0 19 rfl
theorem dX3_readOne_35 : decode cX3_readOne 35 = .ok (.iconst (-1), 1) := zd_at zo_cX3_readOne_0 20 rfl
theorem dX3_readOne_36 : decode cX3_readOne 36 = .ok (.if_icmp .eq 12, 3) := zd_at zo_cX3_readOne_0 21 rfl
theorem dX3_readOne_39 : decode cX3_readOne 39 = .ok (.aload_n 0, 1) := zd_at zo_cX3_readOne_0 22 rfl
theorem dX3_readOne_40 : decode cX3_readOne 40 = .ok (.bipush 58, 2) := zd_at zo_cX3_readOne_0 23 rfl
theorem dX3_readOne_42 : decode cX3_readOne 42 = .ok (.invokevirtual 199, 3) := zd_at zo_cX3_readOne_0 24 rfl
theorem dX3_readOne_45 : decode cX3_readOne 45 = .ok (.ifCond .ne 5, 3) := zd_at zo_cX3_readOne_0 25 rfl
theorem dX3_readOne_48 : decode cX3_readOne 48 = .ok (.iconst 0, 1) := zd_at zo_cX3_readOne_0 26 rfl
theorem dX3_readOne_49 : decode cX3_readOne 49 = .ok (.ireturn, 1) := zd_at zo_cX3_readOne_0 27 rfl
theorem dX3_readOne_50 : decode cX3_readOne 50 = .ok (.aload_n 0, 1) := zd_at zo_cX3_readOne_0 28 rfl
theorem dX3_readOne_51 : decode cX3_readOne 51 = .ok (.iconst 1, 1) := zd_at zo_cX3_readOne_0 29 rfl
theorem dX3_readOne_52 : decode cX3_readOne 52 = .ok (.bipush 100, 2) := zd_at zo_cX3_readOne_0 30 rfl
theorem dX3_readOne_54 : decode cX3_readOne 54 = .ok (.iload_n 3, 1) := zd_at zo_cX3_readOne_0 31 rfl
theorem dX3_readOne_55 : decode cX3_readOne 55 = .ok (.isub, 1) := zd_at zo_cX3_readOne_0 32 rfl
theorem dX3_readOne_56 : decode cX3_readOne 56 = .ok (.invokevirtual 196, 3) := zd_at zo_cX3_readOne_0 33 rfl
theorem dX3_readOne_59 : decode cX3_readOne 59 = .ok (.istore 5, 2) := zd_at zo_cX3_readOne_0 34 rfl
theorem dX3_readOne_61 : decode cX3_readOne 61 = .ok (.iload 5, 2) := zd_at zo_cX3_readOne_0 35 rfl
theorem dX3_readOne_63 : decode cX3_readOne 63 = .ok (.iconst (-1), 1) := zd_at zo_cX3_readOne_0 36 rfl
theorem dX3_readOne_64 : decode cX3_readOne 64 = .ok (.if_icmp .eq 12, 3) := zd_at zo_cX3_readOne_0 37 rfl
theorem dX3_readOne_67 : decode cX3_readOne 67 = .ok (.aload_n 0, 1) := zd_at zo_cX3_readOne_0 38 rfl
theorem dX3_readOne_68 : decode cX3_readOne 68 = .ok (.bipush 120, 2) := zd_at zo_cX3_readOne_0 39 rfl
theorem dX3_readOne_70 : decode cX3_readOne 70 = .ok (.invokevirtual 199, 3) := zd_at zo_cX3_readOne_0 40 rfl
theorem dX3_readOne_73 : decode cX3_readOne 73 = .ok (.ifCond .ne 5, 3) := zd_at zo_cX3_readOne_0 41 rfl
theorem dX3_readOne_76 : decode cX3_readOne 76 = .ok (.iconst 0, 1) := zd_at zo_cX3_readOne_0 42 rfl
theorem dX3_readOne_77 : decode cX3_readOne 77 = .ok (.ireturn, 1) := zd_at zo_cX3_readOne_0 43 rfl
theorem dX3_readOne_78 : decode cX3_readOne 78 = .ok (.aload_n 0, 1) := zd_at zo_cX3_readOne_0 44 rfl
theorem dX3_readOne_79 : decode cX3_readOne 79 = .ok (.iconst 1, 1) := zd_at zo_cX3_readOne_0 45 rfl
theorem dX3_readOne_80 : decode cX3_readOne 80 = .ok (.bipush 100, 2) := zd_at zo_cX3_readOne_0 46 rfl
theorem dX3_readOne_82 : decode cX3_readOne 82 = .ok (.iload 4, 2) := zd_at zo_cX3_readOne_0 47 rfl
theorem dX3_readOne_84 : decode cX3_readOne 84 = .ok (.isub, 1) := zd_at zo_cX3_readOne_0 48 rfl
theorem dX3_readOne_85 : decode cX3_readOne 85 = .ok (.invokevirtual 196, 3) := zd_at zo_cX3_readOne_0 49 rfl
theorem dX3_readOne_88 : decode cX3_readOne 88 = .ok (.istore 6, 2) := zd_at zo_cX3_readOne_0 50 rfl
theorem dX3_readOne_90 : decode cX3_readOne 90 = .ok (.iload 6, 2) := zd_at zo_cX3_readOne_0 51 rfl
theorem dX3_readOne_92 : decode cX3_readOne 92 = .ok (.iconst (-1), 1) := zd_at zo_cX3_readOne_0 52 rfl
theorem dX3_readOne_93 : decode cX3_readOne 93 = .ok (.if_icmp .ne 5, 3) := zd_at zo_cX3_readOne_0 53 rfl
theorem dX3_readOne_96 : decode cX3_readOne 96 = .ok (.iconst 0, 1) := zd_at zo_cX3_readOne_0 54 rfl
theorem dX3_readOne_97 : decode cX3_readOne 97 = .ok (.ireturn, 1) := zd_at zo_cX3_readOne_0 55 rfl
theorem dX3_readOne_98 : decode cX3_readOne 98 = .ok (.aload_n 0, 1) := zd_at zo_cX3_readOne_0 56 rfl
theorem dX3_readOne_99 : decode cX3_readOne 99 = .ok (.dup, 1) := zd_at zo_cX3_readOne_0 57 rfl
theorem dX3_readOne_100 : decode cX3_readOne 100 = .ok (.getfield 202, 3) := zd_at zo_cX3_readOne_0 58 rfl
theorem dX3_readOne_103 : decode cX3_readOne 103 = .ok (.iconst 1, 1) := zd_at zo_cX3_readOne_0 59 rfl
theorem dX3_readOne_104 : decode cX3_readOne 104 = .ok (.iadd, 1) := zd_at zo_cX3_readOne_0 60 rfl
theorem dX3_readOne_105 : decode cX3_readOne 105 = .ok (.putfield 202, 3) := zd_at zo_cX3_readOne_0 61 rfl
theorem dX3_readOne_108 : decode cX3_readOne 108 = .ok (.iload_n 2, 1) := zd_at zo_cX3_readOne_0 62 rfl
theorem dX3_readOne_109 : decode cX3_readOne 109 = .ok (.ifCond .eq 25, 3) := zd_at zo_cX3_readOne_0 63 rfl
theorem dX3_readOne_112 : decode cX3_readOne 112 = .ok (.aload_n 0, 1) := zd_at zo_cX3_readOne_0 64 rfl
theorem dX3_readOne_113 : decode cX3_readOne 113 = .ok (.aload_n 1, 1) := zd_at zo_cX3_readOne_0 65 rfl
theorem dX3_readOne_114 : decode cX3_readOne 114 = .ok (.iload_n 3, 1) := zd_at zo_cX3_readOne_0 66 rfl
theorem dX3_readOne_115 : decode cX3_readOne 115 = .ok (.iload 4, 2) := zd_at zo_cX3_readOne_0 67 rfl
theorem dX3_readOne_117 : decode cX3_readOne 117 = .ok (.iload_n 3, 1) := zd_at zo_cX3_readOne_0 68 rfl
theorem dX3_readOne_118 : decode cX3_readOne 118 = .ok (.iload 5, 2) := zd_at zo_cX3_readOne_0 69 rfl
theorem dX3_readOne_120 : decode cX3_readOne 120 = .ok (.iadd, 1) := zd_at zo_cX3_readOne_0 70 rfl
theorem dX3_readOne_121 : decode cX3_readOne 121 = .ok (.iconst 1, 1) := zd_at zo_cX3_readOne_0 71 rfl
theorem dX3_readOne_122 : decode cX3_readOne 122 = .ok (.isub, 1) := zd_at zo_cX3_readOne_0 72 rfl
theorem dX3_readOne_123 : decode cX3_readOne 123 = .ok (.iload 4, 2) := zd_at zo_cX3_readOne_0 73 rfl
theorem dX3_readOne_125 : decode cX3_readOne 125 = .ok (.iload 6, 2) := zd_at zo_cX3_readOne_0 74 rfl
theorem dX3_readOne_127 : decode cX3_readOne 127 = .ok (.iadd, 1) := zd_at zo_cX3_readOne_0 75 rfl
theorem dX3_readOne_128 : decode cX3_readOne 128 = .ok (.iconst 1, 1) := zd_at zo_cX3_readOne_0 76 rfl
theorem dX3_readOne_129 : decode cX3_readOne 129 = .ok (.isub, 1) := zd_at zo_cX3_readOne_0 77 rfl
theorem dX3_readOne_130 : decode cX3_readOne 130 = .ok (.invokevirtual 205, 3) := zd_at zo_cX3_readOne_0 78 rfl
theorem dX3_readOne_133 : decode cX3_readOne 133 = .ok (.pop, 1) := zd_at zo_cX3_readOne_0 79 rfl
theorem dX3_readOne_134 : decode cX3_readOne 134 = .ok (.iconst 1, 1) := zd_at zo_cX3_readOne_0 80 rfl
theorem dX3_readOne_135 : decode cX3_readOne 135 = .ok (.ireturn, 1) := zd_at zo_cX3_readOne_0 81 rfl
def zl_cX3_readText_0 : List (Nat × Instr × Nat) := [(0, .aload_n 0, 1), (1, .iconst 0, 1), (2, .putfield 185, 3), (5, .aload_n 0, 1), (6, .iconst 0, 1), (7, .putfield 202, 3), (10, .iconst 1, 1), (11, .istore_n 3, 1), (12, .iload_n 3, 1), (13, .ifCond .eq 27, 3), (16, .aload_n 0, 1), (17, .aload_n 1, 1), (18, .iload_n 2, 1), (19, .invokevirtual 209, 3), (22, .ifCond .ne 8, 3), (25, .aload_n 0, 1), (26, .getfield 185, 3), (29, .ireturn, 1), (30, .aload_n 0, 1), (31, .bipush 59, 2), (33, .invokevirtual 199, 3), (36, .istore_n 3, 1), (37, .goto (-25), 3), (40, .aload_n 0, 1), (41, .getfield 185, 3), (44, .aload_n 0, 1), (45, .getfield 178, 3), (48, .if_icmp .ge 10, 3), (51, .aload_n 0, 1), (52, .getfield 185, 3), (55, .goto 4, 3), (58, .iconst (-1), 1), (59, .ireturn, 1)]
theorem zo_cX3_readText_0 : zd_ok cX3_readText zl_cX3_readText_0 = true := by decide +kernel
theorem dX3_readText_0 : decode cX3_readText 0 = .ok (.aload_n 0, 1) := zd_at zo_cX3_readText_0 0 rfl
theorem dX3_readText_1 : decode cX3_readText 1 = .ok (.iconst 0, 1) := zd_at zo_cX3_readText_0 1 rfl
theorem dX3_readText_2 : decode cX3_readText 2 = .ok (.putfield 185, 3) := zd_at zo_cX3_readText_0 2 rfl
theorem dX3_readText_5 : decode cX3_readText 5 = .ok (.aload_n 0, 1) := zd_at zo_cX3_readText_0 3 rfl
theorem dX3_readText_6 : decode cX3_readText 6 = .ok (.iconst 0, 1) := zd_at zo_cX3_readText_0 4 rfl
theorem dX3_readText_7 : decode cX3_readText 7 = .ok (.putfield 202, 3) := zd_at zo_cX3_readText_0 5 rfl
theorem dX3_readText_10 : decode cX3_readText 10 = .ok (.iconst 1, 1) := zd_at zo_cX3_readText_0 6 rfl
theorem dX3_readText_11 : decode cX3_readText 11 = .ok (.istore_n 3, 1) := zd_at zo_cX3_readText_0 7 rfl
theorem dX3_readText_12 : decode cX3_readText 12 = .ok (.iload_n 3, 1) := zd_at zo_cX3_readText_0 8 rfl
theorem dX3_readText_13 : decode cX3_readText 13 = .ok (.ifCond .eq 27, 3) := zd_at zo_cX3_readText_0 9 rfl
theorem dX3_readText_16 : decode cX3_readText 16 = .ok (.aload_n 0, 1) := zd_at zo_cX3_readText_0 10 rfl
theorem dX3_readText_17 : decode cX3_readText 17 = .ok (.aload_n 1, 1) := zd_at zo_cX3_readText_0 11 rfl
theorem dX3_readText_18 : decode cX3_readText 18 = .ok (.iload_n 2, 1) := zd_at zo_cX3_readText_0 12 rfl
theorem dX3_readText_19 : decode cX3_readText 19 = .ok (.invokevirtual 209, 3) := zd_at zo_cX3_readText_0 13 rfl
theorem dX3_readText_22 : decode cX3_readText 22 = .ok (.ifCond .ne 8, 3) := zd_at zo_cX3_readText_0 14 rfl
theorem dX3_readText_25 : decode cX3_readText 25 = .ok (.aload_n 0, 1) := zd_at zo_cX3_readText_0 15 rfl
theorem dX3_readText_26 : decode cX3_readText 26 = .ok (.getfield 185, 3) := zd_at zo_cX3_readText_0 16 rfl
theorem dX3_readText_29 : decode cX3_readText 29 = .ok (.ireturn, 1) := zd_at zo_cX3_readText_0 17 rfl
theorem dX3_readText_30 : decode cX3_readText 30 = .ok (.aload_n 0, 1) := zd_at zo_cX3_readText_0 18 rfl
theorem dX3_readText_31 : decode cX3_readText 31 = .ok (.bipush 59, 2) := zd_at zo_cX3_readText_0 19 rfl
theorem dX3_readText_33 : decode cX3_readText 33 = .ok (.invokevirtual 199, 3) := zd_at zo_cX3_readText_0 20 rfl
theorem dX3_readText_36 : decode cX3_readText 36 = .ok (.istore_n 3, 1) := zd_at zo_cX3_readText_0 21 rfl
theorem dX3_readText_37 : decode cX3_readText 37 = .ok (.goto (-25), 3) := zd_at zo_cX3_readText_0 22 rfl
theorem dX3_readText_40 : decode cX3_readText 40 = .ok (.aload_n 0, 1) := zd_at zo_cX3_readText_0 23 rfl
theorem dX3_readText_41 : decode cX3_readText 41 = .ok (.getfield 185, 3) := zd_at zo_cX3_readText_0 24 rfl
theorem dX3_readText_44 : decode cX3_readText 44 = .ok (.aload_n 0, 1) := zd_at zo_cX3_readText_0 25 rfl
theorem dX3_readText_45 : decode cX3_readText 45 = .ok (.getfield 178, 3) := zd_at zo_cX3_readText_0 26 rfl
theorem dX3_readText_48 : decode cX3_readText 48 = .ok (.if_icmp .ge 10, 3) := zd_at zo_cX3_readText_0 27 rfl
theorem dX3_readText_51 : decode cX3_readText 51 = .ok (.aload_n 0, 1) := zd_at zo_cX3_readText_0 28 rfl
theorem dX3_readText_52 : decode cX3_readText 52 = .ok (.getfield 185, 3) := zd_at zo_cX3_readText_0 29 rfl
theorem dX3_readText_55 : decode cX3_readText 55 = .ok (.goto 4, 3) := zd_at zo_cX3_readText_0 30 rfl
theorem dX3_readText_58 : decode cX3_readText 58 = .ok (.iconst (-1), 1) := zd_at zo_cX3_readText_0 31 rfl
theorem dX3_readText_59 : decode cX3_readText 59 = .ok (.ireturn, 1) := zd_at zo_cX3_readText_0 32 rfl
def zl_cX3_errorPosition_0 : List (Nat × Instr × Nat) := [(0, .aload_n 0, 1), (1, .iconst 0, 1), (2, .putfield 51, 3), (5, .aload_n 0, 1), (6, .aload_n 0, 1), (7, .getfield 13, 3), (10, .iconst 0, 1), (11, .invokevirtual 213, 3), (14, .ireturn, 1)]
theorem zo_cX3_errorPosition_0 : zd_ok cX3_errorPosition zl_cX3_errorPosition_0 = true := by decide +kernel
theorem dX3_errorPosition_0 : decode cX3_errorPosition 0 = .ok (.aload_n 0, 1) := zd_at zo_cX3_errorPosition_0 0 rfl
theorem dX3_errorPosition_1 : decode cX3_errorPosition 1 = .ok (.iconst 0, 1) := zd_at zo_cX3_errorPosition_0 1 rfl
theorem dX3_errorPosition_2 : decode cX3_errorPosition 2 = .ok (.putfield 51, 3) := zd_at zo_cX3_errorPosition_0 2 rfl
theorem dX3_errorPosition_5 : decode cX3_errorPosition 5 = .ok (.aload_n 0, 1) := zd_at zo_cX3_errorPosition_0 3 rfl
theorem dX3_errorPosition_6 : decode cX3_errorPosition 6 = .ok (.aload_n 0, 1) := zd_at zo_cX3_errorPosition_0 4 rfl
theorem dX3_errorPosition_7 : decode cX3_errorPosition 7 = .ok (.getfield 13, 3) := zd_at zo_cX3_errorPosition_0 5 rfl
theorem dX3_errorPosition_10 : decode cX3_errorPosition 10 = .ok (.iconst 0, 1) := zd_at zo_cX3_errorPosition_0 6 rfl
theorem dX3_errorPosition_11 : decode cX3_errorPosition 11 = .ok (.invokevirtual 213, 3) := zd_at zo_cX3_errorPosition_0 7 rfl
theorem dX3_errorPosition_14 : decode cX3_errorPosition 14 = .ok (.ireturn, 1) := zd_at zo_cX3_errorPosition_0 8 rfl
def zl_cX3_areas_0 : List (Nat × Instr × Nat) := [(0, .aload_n 0, 1), (1, .aload_n 0, 1), (2, .getfield 13, 3), (5, .invokevirtual 130, 3), (8, .iconst 0, 1), (9, .istore_n 1, 1), (10, .iconst 0, 1), (11, .istore_n 2, 1), (12, .iload_n 2, 1), (13, .bipush 32, 2), (15, .if_icmp .ge 48, 3), (18, .iload_n 1, 1), (19, .aload_n 0, 1), (20, .getfield 13, 3), (23, .iload_n 2, 1), (24, .invokestatic 55, 3), (27, .iaload, 1), (28, .ifCond .le 26, 3), (31, .iload_n 2, 1), (32, .aload_n 0, 1), (33, .getfield 13, 3), (36, .sipush 376, 3), (39, .iaload, 1), (40, .if_icmp .eq 14, 3), (43, .aload_n 0, 1), (44, .bipush 24, 2), (46, .iload_n 2, 1), (47, .iadd, 1), (48, .invokevirtual 94, 3), (51, .goto 4, 3), (54, .iconst 0, 1), (55, .iadd, 1), (56, .istore_n 1, 1), (57, .iinc 2 1, 3), (60, .goto (-48), 3), (63, .iload_n 1, 1), (64, .ireturn, 1)]
theorem zo_cX3_areas_0 : zd_ok cX3_areas zl_cX3_areas_0 = true := by decide +kernel
theorem dX3_areas_0 : decode cX3_areas 0 = .ok (.aload_n 0, 1) := zd_at zo_cX3_areas_0 0 rfl
theorem dX3_areas_1 : decode cX3_areas 1 = .ok (.aload_n 0, 1) := zd_at zo_cX3_areas_0 1 rfl
theorem dX3_areas_2 : decode cX3_areas 2 = .ok (.getfield 13, 3) := zd_at zo_cX3_areas_0 2 rfl
theorem dX3_areas_5 : decode cX3_areas 5 = .ok (.invokevirtual 130, 3) := zd_at zo_cX3_areas_0 3 rfl
theorem dX3_areas_8 : decode cX3_areas 8 = .ok (.iconst 0, 1) := zd_at zo_cX3_areas_0 4 rfl
theorem dX3_areas_9 : decode cX3_areas 9 = .ok (.istore_n 1, 1) := zd_at zo_cX3_areas_0 5 rfl
theorem dX3_areas_10 : decode cX3_areas 10 = .ok (.iconst 0, 1) := zd_at zo_cX3_areas_0 6 rfl
theorem dX3_areas_11 : decode cX3_areas 11 = .ok (.istore_n 2, 1) := zd_at zo_cX3_areas_0 7 rfl
theorem dX3_areas_12 : decode cX3_areas 12 = .ok (.iload_n 2, 1) := zd_at zo_cX3_areas_0 8 rfl
theorem dX3_areas_13 : decode cX3_areas 13 = .ok (.bipush 32, 2) := zd_at zo_cX3_areas_0 9 rfl
theorem dX3_areas_15 : decode cX3_areas 15 = .ok (.if_icmp .ge 48, 3) := zd_at zo_cX3_areas_0 10 rfl
theorem dX3_areas_18 : decode cX3_areas 18 = .ok (.iload_n 1, 1) := zd_at zo_cX3_areas_0 11 rfl
theorem dX3_areas_19 : decode cX3_areas 19 = .ok (.aload_n 0, 1) := zd_at zo_cX3_areas_0 12 rfl
theorem dX3_areas_20 : decode cX3_areas 20 = .ok (.getfield 13, 3) := zd_at zo_cX3_areas_0 13 rfl
theorem dX3_areas_23 : decode cX3_areas 23 = .ok (.iload_n 2, 1) := zd_at zo_cX3_areas_0 14 rfl
theorem dX3_areas_24 : decode cX3_areas 24 = .ok (.invokestatic 55, 3) := zd_at zo_cX3_areas_0 15 rfl
theorem dX3_areas_27 : decode cX3_areas 27 = .ok (.iaload, 1) := zd_at zo_cX3_areas_0 16 rfl
theorem dX3_areas_28 : decode cX3_areas 28 = .ok (.ifCond .le 26, 3) := zd_at zo_cX3_areas_0 17 rfl
theorem dX3_areas_31 : decode cX3_areas 31 = .ok (.iload_n 2, 1) := zd_at zo_cX3_areas_0 18 rfl
theorem dX3_areas_32 : decode cX3_areas 32 = .ok (.aload_n 0, 1) := zd_at zo_cX3_areas_0 19 rfl
theorem dX3_areas_33 : decode cX3_areas 33 = .ok (.getfield 13, 3) := zd_at zo_cX3_areas_0 20 rfl
theorem dX3_areas_36 : decode cX3_areas 36 = .ok (.sipush 376, 3) := zd_at zo_cX3_areas_0 21 rfl
theorem dX3_areas_39 : decode cX3_areas 39 = .ok (.iaload, 1) := zd_at zo_cX3_areas_0 22 rfl
theorem dX3_areas_40 : decode cX3_areas 40 = .ok (.if_icmp .eq 14, 3) := zd_at zo_cX3_areas_0 23 rfl
theorem dX3_areas_43 : decode cX3_areas 43 = .ok (.aload_n 0, 1) := zd_at zo_cX3_areas_0 24 rfl
theorem dX3_areas_44 : decode cX3_areas 44 = .ok (.bipush 24, 2) := zd_at zo_cX3_areas_0 25 rfl
theorem dX3_areas_46 : decode cX3_areas 46 = .ok (.iload_n 2, 1) := zd_at zo_cX3_areas_0 26 rfl
theorem dX3_areas_47 : decode cX3_areas 47 = .ok (.iadd, 1) := zd_at zo_cX3_areas_0 27 rfl
theorem dX3_areas_48 : decode cX3_areas 48 = .ok (.invokevirtual 94, 3) := zd_at zo_cX3_areas_0 28 rfl
theorem dX3_areas_51 : decode cX3_areas 51 = .ok (.goto 4, 3) := zd_at zo_cX3_areas_0 29 rfl
theorem dX3_areas_54 : decode cX3_areas 54 = .ok (.iconst 0, 1) := zd_at zo_cX3_areas_0 30 rfl
theorem dX3_areas_55 : decode cX3_areas 55 = .ok (.iadd, 1) := zd_at zo_cX3_areas_0 31 rfl
theorem dX3_areas_56 : decode cX3_areas 56 = .ok (.istore_n 1, 1) := zd_at zo_cX3_areas_0 32 rfl
theorem dX3_areas_57 : decode cX3_areas 57 = .ok (.iinc 2 1, 3) := zd_at zo_cX3_areas_0 33 rfl
theorem dX3_areas_60 : decode cX3_areas 60 = .ok (.goto (-48), 3) := zd_at zo_cX3_areas_0 34 rfl
theorem dX3_areas_63 : decode cX3_areas 63 = .ok (.iload_n 1, 1) := zd_at zo_cX3_areas_0 35 rfl
theorem dX3_areas_64 : decode cX3_areas 64 = .ok (.ireturn, 1) := zd_at zo_cX3_areas_0 36 rfl
def zl_cX3_about_0 : List (Nat × Instr × Nat) := [(0, .aload_n 0, 1), (1, .iload_n 1, 1), (2, .i2l, 1), (3, .lconst 0, 1), (4, .ldc2_w 217, 3), (7, .invokestatic 61, 3), (10, .ifCond .eq 7, 3), (13, .iconst 0, 1), (14, .goto 4, 3), (17, .iconst 1, 1), (18, .invokevirtual 181, 3), (21, .ifCond .eq 5, 3), (24, .iconst 0, 1), (25, .ireturn, 1), (26, .iload_n 1, 1), (27, .tableswitch 79 0 4 #[33, 41, 49, 65, 74], 33), (60, .aload_n 0, 1), (61, .getfield 13, 3), (64, .invokestatic 219, 3), (67, .ireturn, 1), (68, .aload_n 0, 1), (69, .getfield 13, 3), (72, .invokestatic 161, 3), (75, .ireturn, 1), (76, .aload_n 0, 1), (77, .getfield 13, 3), (80, .aload_n 0, 1), (81, .getfield 13, 3), (84, .sipush 376, 3), (87, .iaload, 1), (88, .invokestatic 65, 3), (91, .ireturn, 1), (92, .aload_n 0, 1), (93, .aload_n 0, 1), (94, .getfield 13, 3), (97, .invokevirtual 222, 3), (100, .ireturn, 1), (101, .aload_n 0, 1), (102, .invokevirtual 225, 3), (105, .ireturn, 1), (106, .aload_n 0, 1), (107, .getfield 13, 3), (110, .sipush 377, 3), (113, .iload_n 1, 1), (114, .iadd, 1), (115, .iconst 5, 1), (116, .isub, 1), (117, .iaload, 1), (118, .ireturn, 1)]
theorem zo_cX3_about_0 : zd_ok cX3_about zl_cX3_about_0 = true := by decide +kernel
theorem dX3_about_0 : decode cX3_about 0 = .ok (.aload_n 0, 1) := zd_at zo_cX3_about_0 0 rfl
theorem dX3_about_1 : decode cX3_about 1 = .ok (.iload_n 1, 1) := zd_at zo_cX3_about_0 1 rfl
theorem dX3_about_2 : decode cX3_about 2 = .ok (.i2l, 1) := zd_at zo_cX3_about_0 2 rfl
theorem dX3_about_3 : decode cX3_about 3 = .ok (.lconst 0, 1) := zd_at zo_cX3_about_0 3 rfl
theorem dX3_about_4 : decode cX3_about 4 = .ok (.ldc2_w 217, 3) := zd_at zo_cX3_about_0 4 rfl
theorem dX3_about_7 : decode cX3_about 7 = .ok (.invokestatic 61, 3) := zd_at zo_cX3_about_0 5 rfl
theorem dX3_about_10 : decode cX3_about 10 = .ok (.ifCond .eq 7, 3) := zd_at zo_cX3_about_0 6 rfl
theorem dX3_about_13 : decode cX3_about 13 = .ok (.iconst 0, 1) := zd_at zo_cX3_about_0 7 rfl
theorem dX3_about_14 : decode cX3_about 14 = .ok (.goto 4, 3) := zd_at zo_cX3_about_0 8 rfl
theorem dX3_about_17 : decode cX3_about 17 = .ok (.iconst 1, 1) := zd_at zo_cX3_about_0 9 rfl
theorem dX3_about_18 : decode cX3_about 18 = .ok (.invokevirtual 181, 3) := zd_at zo_cX3_about_0 10 rfl
theorem dX3_about_21 : decode cX3_about 21 = .ok (.ifCond .eq 5, 3) := zd_at zo_cX3_about_0 11 rfl
theorem dX3_about_24 : decode cX3_about 24 = .ok (.iconst 0, 1) := zd_at zo_cX3_about_0 12 rfl
theorem dX3_about_25 : decode cX3_about 25 = .ok (.ireturn, 1) := zd_at zo_cX3_about_0 13 rfl
theorem dX3_about_26 : decode cX3_about 26 = .ok (.iload_n 1, 1) := zd_at zo_cX3_about_0 14 rfl
theorem dX3_about_27 : decode cX3_about 27 = .ok (.tableswitch 79 0 4 #[33, 41, 49, 65, 74], 33) := zd_at zo_cX3_about_0 15 rfl
theorem dX3_about_60 : decode cX3_about 60 = .ok (.aload_n 0, 1) := zd_at zo_cX3_about_0 16 rfl
theorem dX3_about_61 : decode cX3_about 61 = .ok (.getfield 13, 3) := zd_at zo_cX3_about_0 17 rfl
theorem dX3_about_64 : decode cX3_about 64 = .ok (.invokestatic 219, 3) := zd_at zo_cX3_about_0 18 rfl
theorem dX3_about_67 : decode cX3_about 67 = .ok (.ireturn, 1) := zd_at zo_cX3_about_0 19 rfl
theorem dX3_about_68 : decode cX3_about 68 = .ok (.aload_n 0, 1) := zd_at zo_cX3_about_0 20 rfl
theorem dX3_about_69 : decode cX3_about 69 = .ok (.getfield 13, 3) := zd_at zo_cX3_about_0 21 rfl
theorem dX3_about_72 : decode cX3_about 72 = .ok (.invokestatic 161, 3) := zd_at zo_cX3_about_0 22 rfl
theorem dX3_about_75 : decode cX3_about 75 = .ok (.ireturn, 1) := zd_at zo_cX3_about_0 23 rfl
theorem dX3_about_76 : decode cX3_about 76 = .ok (.aload_n 0, 1) := zd_at zo_cX3_about_0 24 rfl
theorem dX3_about_77 : decode cX3_about 77 = .ok (.getfield 13, 3) := zd_at zo_cX3_about_0 25 rfl
theorem dX3_about_80 : decode cX3_about 80 = .ok (.aload_n 0, 1) := zd_at zo_cX3_about_0 26 rfl
theorem dX3_about_81 : decode cX3_about 81 = .ok (.getfield 13, 3) := zd_at zo_cX3_about_0 27 rfl
theorem dX3_about_84 : decode cX3_about 84 = .ok (.sipush 376, 3) := zd_at zo_cX3_about_0 28 rfl
theorem dX3_about_87 : decode cX3_about 87 = .ok (.iaload, 1) := zd_at zo_cX3_about_0 29 rfl
theorem dX3_about_88 : decode cX3_about 88 = .ok (.invokestatic 65, 3) := zd_at zo_cX3_about_0 30 rfl
theorem dX3_about_91 : decode cX3_about 91 = .ok (.ireturn, 1) := zd_at zo_cX3_about_0 31 rfl
theorem dX3_about_92 : decode cX3_about 92 = .ok (.aload_n 0, 1) := zd_at zo_cX3_about_0 32 rfl
theorem dX3_about_93 : decode cX3_about 93 = .ok (.aload_n 0, 1) := zd_at zo_cX3_about_0 33 rfl
theorem dX3_about_94 : decode cX3_about 94 = .ok (.getfield 13, 3) := zd_at zo_cX3_about_0 34 rfl
theorem dX3_about_97 : decode cX3_about 97 = .ok (.invokevirtual 222, 3) := zd_at zo_cX3_about_0 35 rfl
theorem dX3_about_100 : decode cX3_about 100 = .ok (.ireturn, 1) := zd_at zo_cX3_about_0 36 rfl
theorem dX3_about_101 : decode cX3_about 101 = .ok (.aload_n 0, 1) := zd_at zo_cX3_about_0 37 rfl
theorem dX3_about_102 : decode cX3_about 102 = .ok (.invokevirtual 225, 3) := zd_at zo_cX3_about_0 38 rfl
theorem dX3_about_105 : decode cX3_about 105 = .ok (.ireturn, 1) := zd_at zo_cX3_about_0 39 rfl
theorem dX3_about_106 : decode cX3_about 106 = .ok (.aload_n 0, 1) := zd_at zo_cX3_about_0 40 rfl
theorem dX3_about_107 : decode cX3_about 107 = .ok (.getfield 13, 3) := zd_at zo_cX3_about_0 41 rfl
theorem dX3_about_110 : decode cX3_about 110 = .ok (.sipush 377, 3) := zd_at zo_cX3_about_0 42 rfl
theorem dX3_about_113 : decode cX3_about 113 = .ok (.iload_n 1, 1) := zd_at zo_cX3_about_0 43 rfl
theorem dX3_about_114 : decode cX3_about 114 = .ok (.iadd, 1) := zd_at zo_cX3_about_0 44 rfl
theorem dX3_about_115 : decode cX3_about 115 = .ok (.iconst 5, 1) := zd_at zo_cX3_about_0 45 rfl
theorem dX3_about_116 : decode cX3_about 116 = .ok (.isub, 1) := zd_at zo_cX3_about_0 46 rfl
theorem dX3_about_117 : decode cX3_about 117 = .ok (.iaload, 1) := zd_at zo_cX3_about_0 47 rfl
theorem dX3_about_118 : decode cX3_about 118 = .ok (.ireturn, 1) := zd_at zo_cX3_about_0 48 rfl
def zl_cX3_rectangle_0 : List (Nat × Instr × Nat) := [(0, .aload_n 0, 1), (1, .aload_n 0, 1), (2, .getfield 13, 3), (5, .iload_n 1, 1), (6, .invokestatic 165, 3), (9, .ifCond .ne 7, 3), (12, .iconst 1, 1), (13, .goto 20, 3), (16, .iload_n 2, 1), (17, .i2l, 1), (18, .lconst 0, 1), (19, .ldc2_w 228, 3), (22, .invokestatic 61, 3), (25, .ifCond .eq 7, 3), (28, .iconst 0, 1), (29, .goto 4, 3), (32, .iconst 2, 1), (33, .invokevirtual 181, 3), (36, .ifCond .eq 5, 3), (39, .iconst 0, 1), (40, .ireturn, 1), (41, .aload_n 0, 1), (42, .aload_n 0, 1), (43, .getfield 13, 3), (46, .invokevirtual 230, 3), (49, .pop, 1), (50, .iload_n 2, 1), (51, .iconst 4, 1), (52, .if_icmp .ge 18, 3), (55, .aload_n 0, 1), (56, .getfield 13, 3), (59, .iconst 5, 1), (60, .iload_n 1, 1), (61, .imul, 1), (62, .iconst 1, 1), (63, .iadd, 1), (64, .iload_n 2, 1), (65, .iadd, 1), (66, .iaload, 1), (67, .goto 16, 3), (70, .aload_n 0, 1), (71, .getfield 38, 3), (74, .aload_n 0, 1), (75, .getfield 13, 3), (78, .iload_n 1, 1), (79, .invokestatic 136, 3), (82, .iaload, 1), (83, .ireturn, 1)]
theorem zo_cX3_rectangle_0 : zd_ok cX3_rectangle zl_cX3_rectangle_0 = true := by decide +kernel
theorem dX3_rectangle_0 : decode cX3_rectangle 0 = .ok (.aload_n 0, 1) := zd_at zo_cX3_rectangle_0 0 rfl
theorem dX3_rectangle_1 : decode cX3_rectangle 1 = .ok (.aload_n 0, 1) := zd_at zo_cX3_rectangle_0 1 rfl
theorem dX3_rectangle_2 : decode cX3_rectangle 2 = .ok (.getfield 13, 3) := zd_at zo_cX3_rectangle_0 2 rfl
theorem dX3_rectangle_5 : decode cX3_rectangle 5 = .ok (.iload_n 1, 1) := zd_at zo_cX3_rectangle_0 3 rfl
theorem dX3_rectangle_6 : decode cX3_rectangle 6 = .ok (.invokestatic 165, 3) := zd_at zo_cX3_rectangle_0 4 rfl
theorem dX3_rectangle_9 : decode cX3_rectangle 9 = .ok (.ifCond .ne 7, 3) := zd_at zo_cX3_rectangle_0 5 rfl
theorem dX3_rectangle_12 : decode cX3_rectangle 12 = .ok (.iconst 1, 1) := zd_at zo_cX3_rectangle_0 6 rfl
theorem dX3_rectangle_13 : decode cX3_rectangle 13 = .ok (.goto 20, 3) := zd_at zo_cX3_rectangle_0 7 rfl
theorem dX3_rectangle_16 : decode cX3_rectangle 16 = .ok (.iload_n 2, 1) := zd_at zo_cX3_rectangle_0 8 rfl
theorem dX3_rectangle_17 : decode cX3_rectangle 17 = .ok (.i2l, 1) := zd_at zo_cX3_rectangle_0 9 rfl
theorem dX3_rectangle_18 : decode cX3_rectangle 18 = .ok (.lconst 0, 1) := zd_at zo_cX3_rectangle_0 10 rfl
theorem dX3_rectangle_19 : decode cX3_rectangle 19 = .ok (.ldc2_w 228, 3) := zd_at zo_cX3_rectangle_0 11 rfl
theorem dX3_rectangle_22 : decode cX3_rectangle 22 = .ok (.invokestatic 61, 3) := zd_at zo_cX3_rectangle_0 12 rfl
theorem dX3_rectangle_25 : decode cX3_rectangle 25 = .ok (.ifCond .eq 7, 3) := zd_at zo_cX3_rectangle_0 13 rfl
theorem dX3_rectangle_28 : decode cX3_rectangle 28 = .ok (.iconst 0, 1) := zd_at zo_cX3_rectangle_0 14 rfl
theorem dX3_rectangle_29 : decode cX3_rectangle 29 = .ok (.goto 4, 3) := zd_at zo_cX3_rectangle_0 15 rfl
theorem dX3_rectangle_32 : decode cX3_rectangle 32 = .ok (.iconst 2, 1) := zd_at zo_cX3_rectangle_0 16 rfl
theorem dX3_rectangle_33 : decode cX3_rectangle 33 = .ok (.invokevirtual 181, 3) := zd_at zo_cX3_rectangle_0 17 rfl
theorem dX3_rectangle_36 : decode cX3_rectangle 36 = .ok (.ifCond .eq 5, 3) := zd_at zo_cX3_rectangle_0 18 rfl
theorem dX3_rectangle_39 : decode cX3_rectangle 39 = .ok (.iconst 0, 1) := zd_at zo_cX3_rectangle_0 19 rfl
theorem dX3_rectangle_40 : decode cX3_rectangle 40 = .ok (.ireturn, 1) := zd_at zo_cX3_rectangle_0 20 rfl
theorem dX3_rectangle_41 : decode cX3_rectangle 41 = .ok (.aload_n 0, 1) := zd_at zo_cX3_rectangle_0 21 rfl
theorem dX3_rectangle_42 : decode cX3_rectangle 42 = .ok (.aload_n 0, 1) := zd_at zo_cX3_rectangle_0 22 rfl
theorem dX3_rectangle_43 : decode cX3_rectangle 43 = .ok (.getfield 13, 3) := zd_at zo_cX3_rectangle_0 23 rfl
theorem dX3_rectangle_46 : decode cX3_rectangle 46 = .ok (.invokevirtual 230, 3) := zd_at zo_cX3_rectangle_0 24 rfl
theorem dX3_rectangle_49 : decode cX3_rectangle 49 = .ok (.pop, 1) := zd_at zo_cX3_rectangle_0 25 rfl
theorem dX3_rectangle_50 : decode cX3_rectangle 50 = .ok (.iload_n 2, 1) := zd_at zo_cX3_rectangle_0 26 rfl
theorem dX3_rectangle_51 : decode cX3_rectangle 51 = .ok (.iconst 4, 1) := zd_at zo_cX3_rectangle_0 27 rfl
theorem dX3_rectangle_52 : decode cX3_rectangle 52 = .ok (.if_icmp .ge 18, 3) := zd_at zo_cX3_rectangle_0 28 rfl
theorem dX3_rectangle_55 : decode cX3_rectangle 55 = .ok (.aload_n 0, 1) := zd_at zo_cX3_rectangle_0 29 rfl
theorem dX3_rectangle_56 : decode cX3_rectangle 56 = .ok (.getfield 13, 3) := zd_at zo_cX3_rectangle_0 30 rfl
theorem dX3_rectangle_59 : decode cX3_rectangle 59 = .ok (.iconst 5, 1) := zd_at zo_cX3_rectangle_0 31 rfl
theorem dX3_rectangle_60 : decode cX3_rectangle 60 = .ok (.iload_n 1, 1) := zd_at zo_cX3_rectangle_0 32 rfl
theorem dX3_rectangle_61 : decode cX3_rectangle 61 = .ok (.imul, 1) := zd_at zo_cX3_rectangle_0 33 rfl
theorem dX3_rectangle_62 : decode cX3_rectangle 62 = .ok (.iconst 1, 1) := zd_at zo_cX3_rectangle_0 34 rfl
theorem dX3_rectangle_63 : decode cX3_rectangle 63 = .ok (.iadd, 1) := zd_at zo_cX3_rectangle_0 35 rfl
theorem dX3_rectangle_64 : decode cX3_rectangle 64 = .ok (.iload_n 2, 1) := zd_at zo_cX3_rectangle_0 36 rfl
theorem dX3_rectangle_65 : decode cX3_rectangle 65 = .ok (.iadd, 1) := zd_at zo_cX3_rectangle_0 37 rfl
theorem dX3_rectangle_66 : decode cX3_rectangle 66 = .ok (.iaload, 1) := zd_at zo_cX3_rectangle_0 38 rfl
theorem dX3_rectangle_67 : decode cX3_rectangle 67 = .ok (.goto 16, 3) := zd_at zo_cX3_rectangle_0 39 rfl
theorem dX3_rectangle_70 : decode cX3_rectangle 70 = .ok (.aload_n 0, 1) := zd_at zo_cX3_rectangle_0 40 rfl
theorem dX3_rectangle_71 : decode cX3_rectangle 71 = .ok (.getfield 38, 3) := zd_at zo_cX3_rectangle_0 41 rfl
theorem dX3_rectangle_74 : decode cX3_rectangle 74 = .ok (.aload_n 0, 1) := zd_at zo_cX3_rectangle_0 42 rfl
theorem dX3_rectangle_75 : decode cX3_rectangle 75 = .ok (.getfield 13, 3) := zd_at zo_cX3_rectangle_0 43 rfl
theorem dX3_rectangle_78 : decode cX3_rectangle 78 = .ok (.iload_n 1, 1) := zd_at zo_cX3_rectangle_0 44 rfl
theorem dX3_rectangle_79 : decode cX3_rectangle 79 = .ok (.invokestatic 136, 3) := zd_at zo_cX3_rectangle_0 45 rfl
theorem dX3_rectangle_82 : decode cX3_rectangle 82 = .ok (.iaload, 1) := zd_at zo_cX3_rectangle_0 46 rfl
theorem dX3_rectangle_83 : decode cX3_rectangle 83 = .ok (.ireturn, 1) := zd_at zo_cX3_rectangle_0 47 rfl
def zl_cX3_node_0 : List (Nat × Instr × Nat) := [(0, .aload_n 0, 1), (1, .iload_n 1, 1), (2, .i2l, 1), (3, .lconst 0, 1), (4, .aload_n 0, 1), (5, .getfield 13, 3), (8, .invokestatic 161, 3), (11, .iconst 1, 1), (12, .isub, 1), (13, .i2l, 1), (14, .invokestatic 61, 3), (17, .ifCond .ne 7, 3), (20, .iconst 1, 1), (21, .goto 20, 3), (24, .iload_n 2, 1), (25, .i2l, 1), (26, .lconst 0, 1), (27, .ldc2_w 233, 3), (30, .invokestatic 61, 3), (33, .ifCond .eq 7, 3), (36, .iconst 0, 1), (37, .goto 4, 3), (40, .iconst 2, 1), (41, .invokevirtual 181, 3), (44, .ifCond .eq 5, 3), (47, .iconst 0, 1), (48, .ireturn, 1), (49, .aload_n 0, 1), (50, .aload_n 0, 1), (51, .getfield 13, 3), (54, .invokevirtual 230, 3), (57, .pop, 1), (58, .aload_n 0, 1), (59, .aload_n 0, 1), (60, .getfield 13, 3), (63, .invokevirtual 130, 3), (66, .aload_n 0, 1), (67, .getfield 41, 3), (70, .iload_n 1, 1), (71, .iaload, 1), (72, .istore_n 3, 1), (73, .iload_n 2, 1), (74, .lookupswitch 77 #[(0, 34), (1, 43), (6, 52)], 34), (108, .aload_n 0, 1), (109, .getfield 13, 3), (112, .iload_n 3, 1), (113, .invokestatic 65, 3), (116, .ireturn, 1), (117, .aload_n 0, 1), (118, .getfield 13, 3), (121, .iload_n 3, 1), (122, .invokestatic 69, 3), (125, .ireturn, 1), (126, .iload_n 1, 1), (127, .ifCond .ne 7, 3), (130, .iconst (-1), 1), (131, .goto 19, 3), (134, .aload_n 0, 1), (135, .getfield 38, 3), (138, .aload_n 0, 1), (139, .getfield 13, 3), (142, .bipush 24, 2), (144, .iload_n 3, 1), (145, .iadd, 1), (146, .invokestatic 136, 3), (149, .iaload, 1), (150, .ireturn, 1), (151, .aload_n 0, 1), (152, .getfield 13, 3), (155, .iload_n 3, 1), (156, .invokestatic 69, 3), (159, .ifCond .ne 7, 3), (162, .iconst (-1), 1), (163, .goto 18, 3), (166, .aload_n 0, 1), (167, .getfield 29, 3), (170, .iconst 4, 1), (171, .bipush 24, 2), (173, .iload_n 3, 1), (174, .iadd, 1), (175, .imul, 1), (176, .iload_n 2, 1), (177, .iadd, 1), (178, .iconst 2, 1), (179, .isub, 1), (180, .iaload, 1), (181, .ireturn, 1)]
theorem zo_cX3_node_0 : zd_ok cX3_node zl_cX3_node_0 = true := by decide +kernel
theorem dX3_node_0 : decode cX3_node 0 = .ok (.aload_n 0, 1) := zd_at zo_cX3_node_0 0 rfl
theorem dX3_node_1 : decode cX3_node 1 = .ok (.iload_n 1, 1) := zd_at zo_cX3_node_0 1 rfl
theorem dX3_node_2 : decode cX3_node 2 = .ok (.i2l, 1) := zd_at zo_cX3_node_0 2 rfl
theorem dX3_node_3 : decode cX3_node 3 = .ok (.lconst 0, 1) := zd_at zo_cX3_node_0 3 rfl
theorem dX3_node_4 : decode cX3_node 4 = .ok (.aload_n 0, 1) := zd_at zo_cX3_node_0 4 rfl
theorem dX3_node_5 : decode cX3_node 5 = .ok (.getfield 13, 3) := zd_at zo_cX3_node_0 5 rfl
theorem dX3_node_8 : decode cX3_node 8 = .ok (.invokestatic 161, 3) := zd_at zo_cX3_node_0 6 rfl
theorem dX3_node_11 : decode cX3_node 11 = .ok (.iconst 1, 1) := zd_at zo_cX3_node_0 7 rfl
theorem dX3_node_12 : decode cX3_node 12 = .ok (.isub, 1) := zd_at zo_cX3_node_0 8 rfl
theorem dX3_node_13 : decode cX3_node 13 = .ok (.i2l, 1) := zd_at zo_cX3_node_0 9 rfl
theorem dX3_node_14 : decode cX3_node 14 = .ok (.invokestatic 61, 3) := zd_at zo_cX3_node_0 10 rfl
theorem dX3_node_17 : decode cX3_node 17 = .ok (.ifCond .ne 7, 3) := zd_at zo_cX3_node_0 11 rfl
theorem dX3_node_20 : decode cX3_node 20 = .ok (.iconst 1, 1) := zd_at zo_cX3_node_0 12 rfl
theorem dX3_node_21 : decode cX3_node 21 = .ok (.goto 20, 3) := zd_at zo_cX3_node_0 13 rfl
theorem dX3_node_24 : decode cX3_node 24 = .ok (.iload_n 2, 1) := zd_at zo_cX3_node_0 14 rfl
theorem dX3_node_25 : decode cX3_node 25 = .ok (.i2l, 1) := zd_at zo_cX3_node_0 15 rfl
theorem dX3_node_26 : decode cX3_node 26 = .ok (.lconst 0, 1) := zd_at zo_cX3_node_0 16 rfl
theorem dX3_node_27 : decode cX3_node 27 = .ok (.ldc2_w 233, 3) := zd_at zo_cX3_node_0 17 rfl
theorem dX3_node_30 : decode cX3_node 30 = .ok (.invokestatic 61, 3) := zd_at zo_cX3_node_0 18 rfl
theorem dX3_node_33 : decode cX3_node 33 = .ok (.ifCond .eq 7, 3) := zd_at zo_cX3_node_0 19 rfl
theorem dX3_node_36 : decode cX3_node 36 = .ok (.iconst 0, 1) := zd_at zo_cX3_node_0 20 rfl
theorem dX3_node_37 : decode cX3_node 37 = .ok (.goto 4, 3) := zd_at zo_cX3_node_0 21 rfl
theorem dX3_node_40 : decode cX3_node 40 = .ok (.iconst 2, 1) := zd_at zo_cX3_node_0 22 rfl
theorem dX3_node_41 : decode cX3_node 41 = .ok (.invokevirtual 181, 3) := zd_at zo_cX3_node_0 23 rfl
theorem dX3_node_44 : decode cX3_node 44 = .ok (.ifCond .eq 5, 3) := zd_at zo_cX3_node_0 24 rfl
theorem dX3_node_47 : decode cX3_node 47 = .ok (.iconst 0, 1) := zd_at zo_cX3_node_0 25 rfl
theorem dX3_node_48 : decode cX3_node 48 = .ok (.ireturn, 1) := zd_at zo_cX3_node_0 26 rfl
theorem dX3_node_49 : decode cX3_node 49 = .ok (.aload_n 0, 1) := zd_at zo_cX3_node_0 27 rfl
theorem dX3_node_50 : decode cX3_node 50 = .ok (.aload_n 0, 1) := zd_at zo_cX3_node_0 28 rfl
theorem dX3_node_51 : decode cX3_node 51 = .ok (.getfield 13, 3) := zd_at zo_cX3_node_0 29 rfl
theorem dX3_node_54 : decode cX3_node 54 = .ok (.invokevirtual 230, 3) := zd_at zo_cX3_node_0 30 rfl
theorem dX3_node_57 : decode cX3_node 57 = .ok (.pop, 1) := zd_at zo_cX3_node_0 31 rfl
theorem dX3_node_58 : decode cX3_node 58 = .ok (.aload_n 0, 1) := zd_at zo_cX3_node_0 32 rfl
theorem dX3_node_59 : decode cX3_node 59 = .ok (.aload_n 0, 1) := zd_at zo_cX3_node_0 33 rfl
theorem dX3_node_60 : decode cX3_node 60 = .ok (.getfield 13, 3) := zd_at zo_cX3_node_0 34 rfl
theorem dX3_node_63 : decode cX3_node 63 = .ok (.invokevirtual 130, 3) := zd_at zo_cX3_node_0 35 rfl
theorem dX3_node_66 : decode cX3_node 66 = .ok (.aload_n 0, 1) := zd_at zo_cX3_node_0 36 rfl
theorem dX3_node_67 : decode cX3_node 67 = .ok (.getfield 41, 3) := zd_at zo_cX3_node_0 37 rfl
theorem dX3_node_70 : decode cX3_node 70 = .ok (.iload_n 1, 1) := zd_at zo_cX3_node_0 38 rfl
theorem dX3_node_71 : decode cX3_node 71 = .ok (.iaload, 1) := zd_at zo_cX3_node_0 39 rfl
theorem dX3_node_72 : decode cX3_node 72 = .ok (.istore_n 3, 1) := zd_at zo_cX3_node_0 40 rfl
theorem dX3_node_73 : decode cX3_node 73 = .ok (.iload_n 2, 1) := zd_at zo_cX3_node_0 41 rfl
theorem dX3_node_74 : decode cX3_node 74 = .ok (.lookupswitch 77 #[(0, 34), (1, 43), (6, 52)], 34) := zd_at zo_cX3_node_0 42 rfl
theorem dX3_node_108 : decode cX3_node 108 = .ok (.aload_n 0, 1) := zd_at zo_cX3_node_0 43 rfl
theorem dX3_node_109 : decode cX3_node 109 = .ok (.getfield 13, 3) := zd_at zo_cX3_node_0 44 rfl
theorem dX3_node_112 : decode cX3_node 112 = .ok (.iload_n 3, 1) := zd_at zo_cX3_node_0 45 rfl
theorem dX3_node_113 : decode cX3_node 113 = .ok (.invokestatic 65, 3) := zd_at zo_cX3_node_0 46 rfl
theorem dX3_node_116 : decode cX3_node 116 = .ok (.ireturn, 1) := zd_at zo_cX3_node_0 47 rfl
theorem dX3_node_117 : decode cX3_node 117 = .ok (.aload_n 0, 1) := zd_at zo_cX3_node_0 48 rfl
theorem dX3_node_118 : decode cX3_node 118 = .ok (.getfield 13, 3) := zd_at zo_cX3_node_0 49 rfl
theorem dX3_node_121 : decode cX3_node 121 = .ok (.iload_n 3, 1) := zd_at zo_cX3_node_0 50 rfl
theorem dX3_node_122 : decode cX3_node 122 = .ok (.invokestatic 69, 3) := zd_at zo_cX3_node_0 51 rfl
theorem dX3_node_125 : decode cX3_node 125 = .ok (.ireturn, 1) := zd_at zo_cX3_node_0 52 rfl
theorem dX3_node_126 : decode cX3_node 126 = .ok (.iload_n 1, 1) := zd_at zo_cX3_node_0 53 rfl
theorem dX3_node_127 : decode cX3_node 127 = .ok (.ifCond .ne 7, 3) := zd_at zo_cX3_node_0 54 rfl
theorem dX3_node_130 : decode cX3_node 130 = .ok (.iconst (-1), 1) := zd_at zo_cX3_node_0 55 rfl
theorem dX3_node_131 : decode cX3_node 131 = .ok (.goto 19, 3) := zd_at zo_cX3_node_0 56 rfl
theorem dX3_node_134 : decode cX3_node 134 = .ok (.aload_n 0, 1) := zd_at zo_cX3_node_0 57 rfl
theorem dX3_node_135 : decode cX3_node 135 = .ok (.getfield 38, 3) := zd_at zo_cX3_node_0 58 rfl
theorem dX3_node_138 : decode cX3_node 138 = .ok (.aload_n 0, 1) := zd_at zo_cX3_node_0 59 rfl
theorem dX3_node_139 : decode cX3_node 139 = .ok (.getfield 13, 3) := zd_at zo_cX3_node_0 60 rfl
theorem dX3_node_142 : decode cX3_node 142 = .ok (.bipush 24, 2) := zd_at zo_cX3_node_0 61 rfl
theorem dX3_node_144 : decode cX3_node 144 = .ok (.iload_n 3, 1) := zd_at zo_cX3_node_0 62 rfl
theorem dX3_node_145 : decode cX3_node 145 = .ok (.iadd, 1) := zd_at zo_cX3_node_0 63 rfl
theorem dX3_node_146 : decode cX3_node 146 = .ok (.invokestatic 136, 3) := zd_at zo_cX3_node_0 64 rfl
theorem dX3_node_149 : decode cX3_node 149 = .ok (.iaload, 1) := zd_at zo_cX3_node_0 65 rfl
theorem dX3_node_150 : decode cX3_node 150 = .ok (.ireturn, 1) := zd_at zo_cX3_node_0 66 rfl
theorem dX3_node_151 : decode cX3_node 151 = .ok (.aload_n 0, 1) := zd_at zo_cX3_node_0 67 rfl
theorem dX3_node_152 : decode cX3_node 152 = .ok (.getfield 13, 3) := zd_at zo_cX3_node_0 68 rfl
theorem dX3_node_155 : decode cX3_node 155 = .ok (.iload_n 3, 1) := zd_at zo_cX3_node_0 69 rfl
theorem dX3_node_156 : decode cX3_node 156 = .ok (.invokestatic 69, 3) := zd_at zo_cX3_node_0 70 rfl
theorem dX3_node_159 : decode cX3_node 159 = .ok (.ifCond .ne 7, 3) := zd_at zo_cX3_node_0 71 rfl
theorem dX3_node_162 : decode cX3_node 162 = .ok (.iconst (-1), 1) := zd_at zo_cX3_node_0 72 rfl
theorem dX3_node_163 : decode cX3_node 163 = .ok (.goto 18, 3) := zd_at zo_cX3_node_0 73 rfl
theorem dX3_node_166 : decode cX3_node 166 = .ok (.aload_n 0, 1) := zd_at zo_cX3_node_0 74 rfl
theorem dX3_node_167 : decode cX3_node 167 = .ok (.getfield 29, 3) := zd_at zo_cX3_node_0 75 rfl
theorem dX3_node_170 : decode cX3_node 170 = .ok (.iconst 4, 1) := zd_at zo_cX3_node_0 76 rfl
theorem dX3_node_171 : decode cX3_node 171 = .ok (.bipush 24, 2) := zd_at zo_cX3_node_0 77 rfl
theorem dX3_node_173 : decode cX3_node 173 = .ok (.iload_n 3, 1) := zd_at zo_cX3_node_0 78 rfl
theorem dX3_node_174 : decode cX3_node 174 = .ok (.iadd, 1) := zd_at zo_cX3_node_0 79 rfl
theorem dX3_node_175 : decode cX3_node 175 = .ok (.imul, 1) := zd_at zo_cX3_node_0 80 rfl
theorem dX3_node_176 : decode cX3_node 176 = .ok (.iload_n 2, 1) := zd_at zo_cX3_node_0 81 rfl
theorem dX3_node_177 : decode cX3_node 177 = .ok (.iadd, 1) := zd_at zo_cX3_node_0 82 rfl
theorem dX3_node_178 : decode cX3_node 178 = .ok (.iconst 2, 1) := zd_at zo_cX3_node_0 83 rfl
theorem dX3_node_179 : decode cX3_node 179 = .ok (.isub, 1) := zd_at zo_cX3_node_0 84 rfl
theorem dX3_node_180 : decode cX3_node 180 = .ok (.iaload, 1) := zd_at zo_cX3_node_0 85 rfl
theorem dX3_node_181 : decode cX3_node 181 = .ok (.ireturn, 1) := zd_at zo_cX3_node_0 86 rfl
def zl_cX3_entry_0 : List (Nat × Instr × Nat) := [(0, .aload_n 0, 1), (1, .iload_n 1, 1), (2, .i2l, 1), (3, .lconst 0, 1), (4, .aload_n 0, 1), (5, .getfield 13, 3), (8, .invokestatic 161, 3), (11, .iconst 1, 1), (12, .isub, 1), (13, .i2l, 1), (14, .invokestatic 61, 3), (17, .ifCond .ne 7, 3), (20, .iconst 1, 1), (21, .goto 12, 3), (24, .iload_n 2, 1), (25, .ifCond .ge 7, 3), (28, .iconst 2, 1), (29, .goto 4, 3), (32, .iconst 0, 1), (33, .invokevirtual 181, 3), (36, .ifCond .eq 5, 3), (39, .iconst 0, 1), (40, .ireturn, 1), (41, .aload_n 0, 1), (42, .aload_n 0, 1), (43, .getfield 13, 3), (46, .invokevirtual 230, 3), (49, .pop, 1), (50, .aload_n 0, 1), (51, .getfield 41, 3), (54, .iload_n 1, 1), (55, .iaload, 1), (56, .istore_n 3, 1), (57, .iload_n 2, 1), (58, .aload_n 0, 1), (59, .getfield 13, 3), (62, .iload_n 3, 1), (63, .invokestatic 69, 3), (66, .if_icmp .lt 5, 3), (69, .iconst (-1), 1), (70, .ireturn, 1), (71, .aload_n 0, 1), (72, .getfield 13, 3), (75, .iload_n 3, 1), (76, .iload_n 2, 1), (77, .invokestatic 72, 3), (80, .istore 4, 2), (82, .iload 4, 2), (84, .bipush 24, 2), (86, .if_icmp .ge 8, 3), (89, .iload 4, 2), (91, .goto 13, 3), (94, .aload_n 0, 1), (95, .getfield 38, 3), (98, .iload 4, 2), (100, .bipush 24, 2), (102, .isub, 1), (103, .iaload, 1), (104, .ireturn, 1)]
theorem zo_cX3_entry_0 : zd_ok cX3_entry zl_cX3_entry_0 = true := by decide +kernel
theorem dX3_entry_0 : decode cX3_entry 0 = .ok (.aload_n 0, 1) := zd_at zo_cX3_entry_0 0 rfl
theorem dX3_entry_1 : decode cX3_entry 1 = .ok (.iload_n 1, 1) := zd_at zo_cX3_entry_0 1 rfl
theorem dX3_entry_2 : decode cX3_entry 2 = .ok (.i2l, 1) := zd_at zo_cX3_entry_0 2 rfl
theorem dX3_entry_3 : decode cX3_entry 3 = .ok (.lconst 0, 1) := zd_at zo_cX3_entry_0 3 rfl
theorem dX3_entry_4 : decode cX3_entry 4 = .ok (.aload_n 0, 1) := zd_at zo_cX3_entry_0 4 rfl
theorem dX3_entry_5 : decode cX3_entry 5 = .ok (.getfield 13, 3) := zd_at zo_cX3_entry_0 5 rfl
theorem dX3_entry_8 : decode cX3_entry 8 = .ok (.invokestatic 161, 3) := zd_at zo_cX3_entry_0 6 rfl
theorem dX3_entry_11 : decode cX3_entry 11 = .ok (.iconst 1, 1) := zd_at zo_cX3_entry_0 7 rfl
theorem dX3_entry_12 : decode cX3_entry 12 = .ok (.isub, 1) := zd_at zo_cX3_entry_0 8 rfl
theorem dX3_entry_13 : decode cX3_entry 13 = .ok (.i2l, 1) := zd_at zo_cX3_entry_0 9 rfl
theorem dX3_entry_14 : decode cX3_entry 14 = .ok (.invokestatic 61, 3) := zd_at zo_cX3_entry_0 10 rfl
theorem dX3_entry_17 : decode cX3_entry 17 = .ok (.ifCond .ne 7, 3) := zd_at zo_cX3_entry_0 11 rfl
theorem dX3_entry_20 : decode cX3_entry 20 = .ok (.iconst 1, 1) := zd_at zo_cX3_entry_0 12 rfl
theorem dX3_entry_21 : decode cX3_entry 21 = .ok (.goto 12, 3) := zd_at zo_cX3_entry_0 13 rfl
theorem dX3_entry_24 : decode cX3_entry 24 = .ok (.iload_n 2, 1) := zd_at zo_cX3_entry_0 14 rfl
theorem dX3_entry_25 : decode cX3_entry 25 = .ok (.ifCond .ge 7, 3) := zd_at zo_cX3_entry_0 15 rfl
theorem dX3_entry_28 : decode cX3_entry 28 = .ok (.iconst 2, 1) := zd_at zo_cX3_entry_0 16 rfl
theorem dX3_entry_29 : decode cX3_entry 29 = .ok (.goto 4, 3) := zd_at zo_cX3_entry_0 17 rfl
theorem dX3_entry_32 : decode cX3_entry 32 = .ok (.iconst 0, 1) := zd_at zo_cX3_entry_0 18 rfl
theorem dX3_entry_33 : decode cX3_entry 33 = .ok (.invokevirtual 181, 3) := zd_at zo_cX3_entry_0 19 rfl
theorem dX3_entry_36 : decode cX3_entry 36 = .ok (.ifCond .eq 5, 3) := zd_at zo_cX3_entry_0 20 rfl
theorem dX3_entry_39 : decode cX3_entry 39 = .ok (.iconst 0, 1) := zd_at zo_cX3_entry_0 21 rfl
theorem dX3_entry_40 : decode cX3_entry 40 = .ok (.ireturn, 1) := zd_at zo_cX3_entry_0 22 rfl
theorem dX3_entry_41 : decode cX3_entry 41 = .ok (.aload_n 0, 1) := zd_at zo_cX3_entry_0 23 rfl
theorem dX3_entry_42 : decode cX3_entry 42 = .ok (.aload_n 0, 1) := zd_at zo_cX3_entry_0 24 rfl
theorem dX3_entry_43 : decode cX3_entry 43 = .ok (.getfield 13, 3) := zd_at zo_cX3_entry_0 25 rfl
theorem dX3_entry_46 : decode cX3_entry 46 = .ok (.invokevirtual 230, 3) := zd_at zo_cX3_entry_0 26 rfl
theorem dX3_entry_49 : decode cX3_entry 49 = .ok (.pop, 1) := zd_at zo_cX3_entry_0 27 rfl
theorem dX3_entry_50 : decode cX3_entry 50 = .ok (.aload_n 0, 1) := zd_at zo_cX3_entry_0 28 rfl
theorem dX3_entry_51 : decode cX3_entry 51 = .ok (.getfield 41, 3) := zd_at zo_cX3_entry_0 29 rfl
theorem dX3_entry_54 : decode cX3_entry 54 = .ok (.iload_n 1, 1) := zd_at zo_cX3_entry_0 30 rfl
theorem dX3_entry_55 : decode cX3_entry 55 = .ok (.iaload, 1) := zd_at zo_cX3_entry_0 31 rfl
theorem dX3_entry_56 : decode cX3_entry 56 = .ok (.istore_n 3, 1) := zd_at zo_cX3_entry_0 32 rfl
theorem dX3_entry_57 : decode cX3_entry 57 = .ok (.iload_n 2, 1) := zd_at zo_cX3_entry_0 33 rfl
theorem dX3_entry_58 : decode cX3_entry 58 = .ok (.aload_n 0, 1) := zd_at zo_cX3_entry_0 34 rfl
theorem dX3_entry_59 : decode cX3_entry 59 = .ok (.getfield 13, 3) := zd_at zo_cX3_entry_0 35 rfl
theorem dX3_entry_62 : decode cX3_entry 62 = .ok (.iload_n 3, 1) := zd_at zo_cX3_entry_0 36 rfl
theorem dX3_entry_63 : decode cX3_entry 63 = .ok (.invokestatic 69, 3) := zd_at zo_cX3_entry_0 37 rfl
theorem dX3_entry_66 : decode cX3_entry 66 = .ok (.if_icmp .lt 5, 3) := zd_at zo_cX3_entry_0 38 rfl
theorem dX3_entry_69 : decode cX3_entry 69 = .ok (.iconst (-1), 1) := zd_at zo_cX3_entry_0 39 rfl
theorem dX3_entry_70 : decode cX3_entry 70 = .ok (.ireturn, 1) := zd_at zo_cX3_entry_0 40 rfl
theorem dX3_entry_71 : decode cX3_entry 71 = .ok (.aload_n 0, 1) := zd_at zo_cX3_entry_0 41 rfl
theorem dX3_entry_72 : decode cX3_entry 72 = .ok (.getfield 13, 3) := zd_at zo_cX3_entry_0 42 rfl
theorem dX3_entry_75 : decode cX3_entry 75 = .ok (.iload_n 3, 1) := zd_at zo_cX3_entry_0 43 rfl
theorem dX3_entry_76 : decode cX3_entry 76 = .ok (.iload_n 2, 1) := zd_at zo_cX3_entry_0 44 rfl
theorem dX3_entry_77 : decode cX3_entry 77 = .ok (.invokestatic 72, 3) := zd_at zo_cX3_entry_0 45 rfl
theorem dX3_entry_80 : decode cX3_entry 80 = .ok (.istore 4, 2) := zd_at zo_cX3_entry_0 46 rfl
theorem dX3_entry_82 : decode cX3_entry 82 = .ok (.iload 4, 2) := zd_at zo_cX3_entry_0 47 rfl
theorem dX3_entry_84 : decode cX3_entry 84 = .ok (.bipush 24, 2) := zd_at zo_cX3_entry_0 48 rfl
theorem dX3_entry_86 : decode cX3_entry 86 = .ok (.if_icmp .ge 8, 3) := zd_at zo_cX3_entry_0 49 rfl
theorem dX3_entry_89 : decode cX3_entry 89 = .ok (.iload 4, 2) := zd_at zo_cX3_entry_0 50 rfl
theorem dX3_entry_91 : decode cX3_entry 91 = .ok (.goto 13, 3) := zd_at zo_cX3_entry_0 51 rfl
theorem dX3_entry_94 : decode cX3_entry 94 = .ok (.aload_n 0, 1) := zd_at zo_cX3_entry_0 52 rfl
theorem dX3_entry_95 : decode cX3_entry 95 = .ok (.getfield 38, 3) := zd_at zo_cX3_entry_0 53 rfl
theorem dX3_entry_98 : decode cX3_entry 98 = .ok (.iload 4, 2) := zd_at zo_cX3_entry_0 54 rfl
theorem dX3_entry_100 : decode cX3_entry 100 = .ok (.bipush 24, 2) := zd_at zo_cX3_entry_0 55 rfl
theorem dX3_entry_102 : decode cX3_entry 102 = .ok (.isub, 1) := zd_at zo_cX3_entry_0 56 rfl
theorem dX3_entry_103 : decode cX3_entry 103 = .ok (.iaload, 1) := zd_at zo_cX3_entry_0 57 rfl
theorem dX3_entry_104 : decode cX3_entry 104 = .ok (.ireturn, 1) := zd_at zo_cX3_entry_0 58 rfl
def zl_cX3_remember_0 : List (Nat × Instr × Nat) := [(0, .aload_n 0, 1), (1, .getfield 235, 3), (4, .bipush 14, 2), (6, .if_icmp .ne 44, 3), (9, .iconst 0, 1), (10, .istore_n 1, 1), (11, .iload_n 1, 1), (12, .sipush 4940, 3), (15, .if_icmp .ge 25, 3), (18, .aload_n 0, 1), (19, .getfield 19, 3), (22, .iload_n 1, 1), (23, .aload_n 0, 1), (24, .getfield 19, 3), (27, .iload_n 1, 1), (28, .sipush 380, 3), (31, .iadd, 1), (32, .iaload, 1), (33, .iastore, 1), (34, .iinc 1 1, 3), (37, .goto (-26), 3), (40, .aload_n 0, 1), (41, .dup, 1), (42, .getfield 235, 3), (45, .iconst 1, 1), (46, .isub, 1), (47, .putfield 235, 3), (50, .aload_n 0, 1), (51, .getfield 13, 3), (54, .iconst 0, 1), (55, .aload_n 0, 1), (56, .getfield 19, 3), (59, .sipush 380, 3), (62, .aload_n 0, 1), (63, .getfield 235, 3), (66, .imul, 1), (67, .invokestatic 238, 3), (70, .aload_n 0, 1), (71, .dup, 1), (72, .getfield 235, 3), (75, .iconst 1, 1), (76, .iadd, 1), (77, .putfield 235, 3), (80, .return_, 1)]
theorem zo_cX3_remember_0 : zd_ok cX3_remember zl_cX3_remember_0 = true := by decide +kernel
theorem dX3_remember_0 : decode cX3_remember 0 = .ok (.aload_n 0, 1) := zd_at zo_cX3_remember_0 0 rfl
theorem dX3_remember_1 : decode cX3_remember 1 = .ok (.getfield 235, 3) := zd_at zo_cX3_remember_0 1 rfl
theorem dX3_remember_4 : decode cX3_remember 4 = .ok (.bipush 14, 2) := zd_at zo_cX3_remember_0 2 rfl
theorem dX3_remember_6 : decode cX3_remember 6 = .ok (.if_icmp .ne 44, 3) := zd_at zo_cX3_remember_0 3 rfl
theorem dX3_remember_9 : decode cX3_remember 9 = .ok (.iconst 0, 1) := zd_at zo_cX3_remember_0 4 rfl
theorem dX3_remember_10 : decode cX3_remember 10 = .ok (.istore_n 1, 1) := zd_at zo_cX3_remember_0 5 rfl
theorem dX3_remember_11 : decode cX3_remember 11 = .ok (.iload_n 1, 1) := zd_at zo_cX3_remember_0 6 rfl
theorem dX3_remember_12 : decode cX3_remember 12 = .ok (.sipush 4940, 3) := zd_at zo_cX3_remember_0 7 rfl
theorem dX3_remember_15 : decode cX3_remember 15 = .ok (.if_icmp .ge 25, 3) := zd_at zo_cX3_remember_0 8 rfl
theorem dX3_remember_18 : decode cX3_remember 18 = .ok (.aload_n 0, 1) := zd_at zo_cX3_remember_0 9 rfl
theorem dX3_remember_19 : decode cX3_remember 19 = .ok (.getfield 19, 3) := zd_at zo_cX3_remember_0 10 rfl
theorem dX3_remember_22 : decode cX3_remember 22 = .ok (.iload_n 1, 1) := zd_at zo_cX3_remember_0 11 rfl
theorem dX3_remember_23 : decode cX3_remember 23 = .ok (.aload_n 0, 1) := zd_at zo_cX3_remember_0 12 rfl
theorem dX3_remember_24 : decode cX3_remember 24 = .ok (.getfield 19, 3) := zd_at zo_cX3_remember_0 13 rfl
theorem dX3_remember_27 : decode cX3_remember 27 = .ok (.iload_n 1, 1) := zd_at zo_cX3_remember_0 14 rfl
theorem dX3_remember_28 : decode cX3_remember 28 = .ok (.sipush 380, 3) := zd_at zo_cX3_remember_0 15 rfl
theorem dX3_remember_31 : decode cX3_remember 31 = .ok (.iadd, 1) := zd_at zo_cX3_remember_0 16 rfl
theorem dX3_remember_32 : decode cX3_remember 32 = .ok (.iaload, 1) := zd_at zo_cX3_remember_0 17 rfl
theorem dX3_remember_33 : decode cX3_remember 33 = .ok (.iastore, 1) := zd_at zo_cX3_remember_0 18 rfl
theorem dX3_remember_34 : decode cX3_remember 34 = .ok (.iinc 1 1, 3) := zd_at zo_cX3_remember_0 19 rfl
theorem dX3_remember_37 : decode cX3_remember 37 = .ok (.goto (-26), 3) := zd_at zo_cX3_remember_0 20 rfl
theorem dX3_remember_40 : decode cX3_remember 40 = .ok (.aload_n 0, 1) := zd_at zo_cX3_remember_0 21 rfl
theorem dX3_remember_41 : decode cX3_remember 41 = .ok (.dup, 1) := zd_at zo_cX3_remember_0 22 rfl
theorem dX3_remember_42 : decode cX3_remember 42 = .ok (.getfield 235, 3) := zd_at zo_cX3_remember_0 23 rfl
theorem dX3_remember_45 : decode cX3_remember 45 = .ok (.iconst 1, 1) := zd_at zo_cX3_remember_0 24 rfl
theorem dX3_remember_46 : decode cX3_remember 46 = .ok (.isub, 1) := zd_at zo_cX3_remember_0 25 rfl
theorem dX3_remember_47 : decode cX3_remember 47 = .ok (.putfield 235, 3) := zd_at zo_cX3_remember_0 26 rfl
theorem dX3_remember_50 : decode cX3_remember 50 = .ok (.aload_n 0, 1) := zd_at zo_cX3_remember_0 27 rfl
theorem dX3_remember_51 : decode cX3_remember 51 = .ok (.getfield 13, 3) := zd_at zo_cX3_remember_0 28 rfl
theorem dX3_remember_54 : decode cX3_remember 54 = .ok (.iconst 0, 1) := zd_at zo_cX3_remember_0 29 rfl
theorem dX3_remember_55 : decode cX3_remember 55 = .ok (.aload_n 0, 1) := zd_at zo_cX3_remember_0 30 rfl
theorem dX3_remember_56 : decode cX3_remember 56 = .ok (.getfield 19, 3) := zd_at zo_cX3_remember_0 31 rfl
theorem dX3_remember_59 : decode cX3_remember 59 = .ok (.sipush 380, 3) := zd_at zo_cX3_remember_0 32 rfl
theorem dX3_remember_62 : decode cX3_remember 62 = .ok (.aload_n 0, 1) := zd_at zo_cX3_remember_0 33 rfl
theorem dX3_remember_63 : decode cX3_remember 63 = .ok (.getfield 235, 3) := zd_at zo_cX3_remember_0 34 rfl
theorem dX3_remember_66 : decode cX3_remember 66 = .ok (.imul, 1) := zd_at zo_cX3_remember_0 35 rfl
theorem dX3_remember_67 : decode cX3_remember 67 = .ok (.invokestatic 238, 3) := zd_at zo_cX3_remember_0 36 rfl
theorem dX3_remember_70 : decode cX3_remember 70 = .ok (.aload_n 0, 1) := zd_at zo_cX3_remember_0 37 rfl
theorem dX3_remember_71 : decode cX3_remember 71 = .ok (.dup, 1) := zd_at zo_cX3_remember_0 38 rfl
theorem dX3_remember_72 : decode cX3_remember 72 = .ok (.getfield 235, 3) := zd_at zo_cX3_remember_0 39 rfl
theorem dX3_remember_75 : decode cX3_remember 75 = .ok (.iconst 1, 1) := zd_at zo_cX3_remember_0 40 rfl
theorem dX3_remember_76 : decode cX3_remember 76 = .ok (.iadd, 1) := zd_at zo_cX3_remember_0 41 rfl
theorem dX3_remember_77 : decode cX3_remember 77 = .ok (.putfield 235, 3) := zd_at zo_cX3_remember_0 42 rfl
theorem dX3_remember_80 : decode cX3_remember 80 = .ok (.return_, 1) := zd_at zo_cX3_remember_0 43 rfl
def zl_cX3_add_0 : List (Nat × Instr × Nat) := [(0, .aload_n 0, 1), (1, .iload_n 1, 1), (2, .iload_n 2, 1), (3, .iload_n 3, 1), (4, .iload 4, 2), (6, .invokestatic 242, 3), (9, .ifCond .ne 7, 3), (12, .iconst 1, 1), (13, .goto 20, 3), (16, .aload_n 0, 1), (17, .getfield 13, 3), (20, .invokestatic 219, 3), (23, .bipush 24, 2), (25, .if_icmp .ne 7, 3), (28, .iconst 2, 1), (29, .goto 4, 3), (32, .iconst 0, 1), (33, .invokevirtual 181, 3), (36, .ifCond .eq 5, 3), (39, .iconst 0, 1), (40, .ireturn, 1), (41, .aload_n 0, 1), (42, .invokevirtual 246, 3), (45, .aload_n 0, 1), (46, .iconst 0, 1), (47, .putfield 104, 3), (50, .aload_n 0, 1), (51, .aload_n 0, 1), (52, .getfield 13, 3), (55, .iload_n 1, 1), (56, .iload_n 2, 1), (57, .iload_n 3, 1), (58, .iload 4, 2), (60, .invokevirtual 205, 3), (63, .ireturn, 1)]
theorem zo_cX3_add_0 : zd_ok cX3_add zl_cX3_add_0 = true := by decide +kernel
theorem dX3_add_0 : decode cX3_add 0 = .ok (.aload_n 0, 1) := zd_at zo_cX3_add_0 0 rfl
theorem dX3_add_1 : decode cX3_add 1 = .ok (.iload_n 1, 1) := zd_at zo_cX3_add_0 1 rfl
theorem dX3_add_2 : decode cX3_add 2 = .ok (.iload_n 2, 1) := zd_at zo_cX3_add_0 2 rfl
theorem dX3_add_3 : decode cX3_add 3 = .ok (.iload_n 3, 1) := zd_at zo_cX3_add_0 3 rfl
theorem dX3_add_4 : decode cX3_add 4 = .ok (.iload 4, 2) := zd_at zo_cX3_add_0 4 rfl
theorem dX3_add_6 : decode cX3_add 6 = .ok (.invokestatic 242, 3) := zd_at zo_cX3_add_0 5 rfl
theorem dX3_add_9 : decode cX3_add 9 = .ok (.ifCond .ne 7, 3) := zd_at zo_cX3_add_0 6 rfl
theorem dX3_add_12 : decode cX3_add 12 = .ok (.iconst 1, 1) := zd_at zo_cX3_add_0 7 rfl
theorem dX3_add_13 : decode cX3_add 13 = .ok (.goto 20, 3) := zd_at zo_cX3_add_0 8 rfl
theorem dX3_add_16 : decode cX3_add 16 = .ok (.aload_n 0, 1) := zd_at zo_cX3_add_0 9 rfl
theorem dX3_add_17 : decode cX3_add 17 = .ok (.getfield 13, 3) := zd_at zo_cX3_add_0 10 rfl
theorem dX3_add_20 : decode cX3_add 20 = .ok (.invokestatic 219, 3) := zd_at zo_cX3_add_0 11 rfl
theorem dX3_add_23 : decode cX3_add 23 = .ok (.bipush 24, 2) := zd_at zo_cX3_add_0 12 rfl
theorem dX3_add_25 : decode cX3_add 25 = .ok (.if_icmp .ne 7, 3) := zd_at zo_cX3_add_0 13 rfl
theorem dX3_add_28 : decode cX3_add 28 = .ok (.iconst 2, 1) := zd_at zo_cX3_add_0 14 rfl
theorem dX3_add_29 : decode cX3_add 29 = .ok (.goto 4, 3) := zd_at zo_cX3_add_0 15 rfl
theorem dX3_add_32 : decode cX3_add 32 = .ok (.iconst 0, 1) := zd_at zo_cX3_add_0 16 rfl
theorem dX3_add_33 : decode cX3_add 33 = .ok (.invokevirtual 181, 3) := zd_at zo_cX3_add_0 17 rfl
theorem dX3_add_36 : decode cX3_add 36 = .ok (.ifCond .eq 5, 3) := zd_at zo_cX3_add_0 18 rfl
theorem dX3_add_39 : decode cX3_add 39 = .ok (.iconst 0, 1) := zd_at zo_cX3_add_0 19 rfl
theorem dX3_add_40 : decode cX3_add 40 = .ok (.ireturn, 1) := zd_at zo_cX3_add_0 20 rfl
theorem dX3_add_41 : decode cX3_add 41 = .ok (.aload_n 0, 1) := zd_at zo_cX3_add_0 21 rfl
theorem dX3_add_42 : decode cX3_add 42 = .ok (.invokevirtual 246, 3) := zd_at zo_cX3_add_0 22 rfl
theorem dX3_add_45 : decode cX3_add 45 = .ok (.aload_n 0, 1) := zd_at zo_cX3_add_0 23 rfl
theorem dX3_add_46 : decode cX3_add 46 = .ok (.iconst 0, 1) := zd_at zo_cX3_add_0 24 rfl
theorem dX3_add_47 : decode cX3_add 47 = .ok (.putfield 104, 3) := zd_at zo_cX3_add_0 25 rfl
theorem dX3_add_50 : decode cX3_add 50 = .ok (.aload_n 0, 1) := zd_at zo_cX3_add_0 26 rfl
theorem dX3_add_51 : decode cX3_add 51 = .ok (.aload_n 0, 1) := zd_at zo_cX3_add_0 27 rfl
theorem dX3_add_52 : decode cX3_add 52 = .ok (.getfield 13, 3) := zd_at zo_cX3_add_0 28 rfl
theorem dX3_add_55 : decode cX3_add 55 = .ok (.iload_n 1, 1) := zd_at zo_cX3_add_0 29 rfl
theorem dX3_add_56 : decode cX3_add 56 = .ok (.iload_n 2, 1) := zd_at zo_cX3_add_0 30 rfl
theorem dX3_add_57 : decode cX3_add 57 = .ok (.iload_n 3, 1) := zd_at zo_cX3_add_0 31 rfl
theorem dX3_add_58 : decode cX3_add 58 = .ok (.iload 4, 2) := zd_at zo_cX3_add_0 32 rfl
theorem dX3_add_60 : decode cX3_add 60 = .ok (.invokevirtual 205, 3) := zd_at zo_cX3_add_0 33 rfl
theorem dX3_add_63 : decode cX3_add 63 = .ok (.ireturn, 1) := zd_at zo_cX3_add_0 34 rfl
def zl_cX3_addAll_0 : List (Nat × Instr × Nat) := [(0, .aload_n 0, 1), (1, .aload_n 0, 1), (2, .aload_n 0, 1), (3, .getfield 13, 3), (6, .iconst 0, 1), (7, .invokevirtual 213, 3), (10, .iconst (-1), 1), (11, .if_icmp .ne 24, 3), (14, .aload_n 0, 1), (15, .getfield 13, 3), (18, .invokestatic 219, 3), (21, .aload_n 0, 1), (22, .getfield 202, 3), (25, .iadd, 1), (26, .bipush 24, 2), (28, .if_icmp .gt 7, 3), (31, .iconst 0, 1), (32, .goto 4, 3), (35, .iconst 1, 1), (36, .invokevirtual 181, 3), (39, .ifCond .eq 5, 3), (42, .iconst 0, 1), (43, .ireturn, 1), (44, .aload_n 0, 1), (45, .invokevirtual 246, 3), (48, .aload_n 0, 1), (49, .iconst 0, 1), (50, .putfield 104, 3), (53, .aload_n 0, 1), (54, .aload_n 0, 1), (55, .getfield 13, 3), (58, .iconst 1, 1), (59, .invokevirtual 213, 3), (62, .pop, 1), (63, .aload_n 0, 1), (64, .getfield 13, 3), (67, .invokestatic 219, 3), (70, .ireturn, 1)]
theorem zo_cX3_addAll_0 : zd_ok cX3_addAll zl_cX3_addAll_0 = true := by decide +kernel
theorem dX3_addAll_0 : decode cX3_addAll 0 = .ok (.aload_n 0, 1) := zd_at zo_cX3_addAll_0 0 rfl
theorem dX3_addAll_1 : decode cX3_addAll 1 = .ok (.aload_n 0, 1) := zd_at zo_cX3_addAll_0 1 rfl
theorem dX3_addAll_2 : decode cX3_addAll 2 = .ok (.aload_n 0, 1) := zd_at zo_cX3_addAll_0 2 rfl
theorem dX3_addAll_3 : decode cX3_addAll 3 = .ok (.getfield 13, 3) := zd_at zo_cX3_addAll_0 3 rfl
theorem dX3_addAll_6 : decode cX3_addAll 6 = .ok (.iconst 0, 1) := zd_at zo_cX3_addAll_0 4 rfl
theorem dX3_addAll_7 : decode cX3_addAll 7 = .ok (.invokevirtual 213, 3) := zd_at zo_cX3_addAll_0 5 rfl
theorem dX3_addAll_10 : decode cX3_addAll 10 = .ok (.iconst (-1), 1) := zd_at zo_cX3_addAll_0 6 rfl
theorem dX3_addAll_11 : decode cX3_addAll 11 = .ok (.if_icmp .ne 24, 3) := zd_at zo_cX3_addAll_0 7 rfl
theorem dX3_addAll_14 : decode cX3_addAll 14 = .ok (.aload_n 0, 1) := zd_at zo_cX3_addAll_0 8 rfl
theorem dX3_addAll_15 : decode cX3_addAll 15 = .ok (.getfield 13, 3) := zd_at zo_cX3_addAll_0 9 rfl
theorem dX3_addAll_18 : decode cX3_addAll 18 = .ok (.invokestatic 219, 3) := zd_at zo_cX3_addAll_0 10 rfl
theorem dX3_addAll_21 : decode cX3_addAll 21 = .ok (.aload_n 0, 1) := zd_at zo_cX3_addAll_0 11 rfl
theorem dX3_addAll_22 : decode cX3_addAll 22 = .ok (.getfield 202, 3) := zd_at zo_cX3_addAll_0 12 rfl
theorem dX3_addAll_25 : decode cX3_addAll 25 = .ok (.iadd, 1) := zd_at zo_cX3_addAll_0 13 rfl
theorem dX3_addAll_26 : decode cX3_addAll 26 = .ok (.bipush 24, 2) := zd_at zo_cX3_addAll_0 14 rfl
theorem dX3_addAll_28 : decode cX3_addAll 28 = .ok (.if_icmp .gt 7, 3) := zd_at zo_cX3_addAll_0 15 rfl
theorem dX3_addAll_31 : decode cX3_addAll 31 = .ok (.iconst 0, 1) := zd_at zo_cX3_addAll_0 16 rfl
theorem dX3_addAll_32 : decode cX3_addAll 32 = .ok (.goto 4, 3) := zd_at zo_cX3_addAll_0 17 rfl
theorem dX3_addAll_35 : decode cX3_addAll 35 = .ok (.iconst 1, 1) := zd_at zo_cX3_addAll_0 18 rfl
theorem dX3_addAll_36 : decode cX3_addAll 36 = .ok (.invokevirtual 181, 3) := zd_at zo_cX3_addAll_0 19 rfl
theorem dX3_addAll_39 : decode cX3_addAll 39 = .ok (.ifCond .eq 5, 3) := zd_at zo_cX3_addAll_0 20 rfl
theorem dX3_addAll_42 : decode cX3_addAll 42 = .ok (.iconst 0, 1) := zd_at zo_cX3_addAll_0 21 rfl
theorem dX3_addAll_43 : decode cX3_addAll 43 = .ok (.ireturn, 1) := zd_at zo_cX3_addAll_0 22 rfl
theorem dX3_addAll_44 : decode cX3_addAll 44 = .ok (.aload_n 0, 1) := zd_at zo_cX3_addAll_0 23 rfl
theorem dX3_addAll_45 : decode cX3_addAll 45 = .ok (.invokevirtual 246, 3) := zd_at zo_cX3_addAll_0 24 rfl
theorem dX3_addAll_48 : decode cX3_addAll 48 = .ok (.aload_n 0, 1) := zd_at zo_cX3_addAll_0 25 rfl
theorem dX3_addAll_49 : decode cX3_addAll 49 = .ok (.iconst 0, 1) := zd_at zo_cX3_addAll_0 26 rfl
theorem dX3_addAll_50 : decode cX3_addAll 50 = .ok (.putfield 104, 3) := zd_at zo_cX3_addAll_0 27 rfl
theorem dX3_addAll_53 : decode cX3_addAll 53 = .ok (.aload_n 0, 1) := zd_at zo_cX3_addAll_0 28 rfl
theorem dX3_addAll_54 : decode cX3_addAll 54 = .ok (.aload_n 0, 1) := zd_at zo_cX3_addAll_0 29 rfl
theorem dX3_addAll_55 : decode cX3_addAll 55 = .ok (.getfield 13, 3) := zd_at zo_cX3_addAll_0 30 rfl
theorem dX3_addAll_58 : decode cX3_addAll 58 = .ok (.iconst 1, 1) := zd_at zo_cX3_addAll_0 31 rfl
theorem dX3_addAll_59 : decode cX3_addAll 59 = .ok (.invokevirtual 213, 3) := zd_at zo_cX3_addAll_0 32 rfl
theorem dX3_addAll_62 : decode cX3_addAll 62 = .ok (.pop, 1) := zd_at zo_cX3_addAll_0 33 rfl
theorem dX3_addAll_63 : decode cX3_addAll 63 = .ok (.aload_n 0, 1) := zd_at zo_cX3_addAll_0 34 rfl
theorem dX3_addAll_64 : decode cX3_addAll 64 = .ok (.getfield 13, 3) := zd_at zo_cX3_addAll_0 35 rfl
theorem dX3_addAll_67 : decode cX3_addAll 67 = .ok (.invokestatic 219, 3) := zd_at zo_cX3_addAll_0 36 rfl
theorem dX3_addAll_70 : decode cX3_addAll 70 = .ok (.ireturn, 1) := zd_at zo_cX3_addAll_0 37 rfl
def zl_cX3_remove_0 : List (Nat × Instr × Nat) := [(0, .aload_n 0, 1), (1, .aload_n 0, 1), (2, .getfield 13, 3), (5, .iload_n 1, 1), (6, .invokestatic 165, 3), (9, .ifCond .eq 7, 3), (12, .iconst 0, 1), (13, .goto 4, 3), (16, .iconst 1, 1), (17, .invokevirtual 181, 3), (20, .ifCond .eq 5, 3), (23, .iconst 0, 1), (24, .ireturn, 1), (25, .aload_n 0, 1), (26, .invokevirtual 246, 3), (29, .aload_n 0, 1), (30, .aload_n 0, 1), (31, .getfield 13, 3), (34, .iload_n 1, 1), (35, .invokevirtual 249, 3), (38, .ireturn, 1)]
theorem zo_cX3_remove_0 : zd_ok cX3_remove zl_cX3_remove_0 = true := by decide +kernel
theorem dX3_remove_0 : decode cX3_remove 0 = .ok (.aload_n 0, 1) := zd_at zo_cX3_remove_0 0 rfl
theorem dX3_remove_1 : decode cX3_remove 1 = .ok (.aload_n 0, 1) := zd_at zo_cX3_remove_0 1 rfl
theorem dX3_remove_2 : decode cX3_remove 2 = .ok (.getfield 13, 3) := zd_at zo_cX3_remove_0 2 rfl
theorem dX3_remove_5 : decode cX3_remove 5 = .ok (.iload_n 1, 1) := zd_at zo_cX3_remove_0 3 rfl
theorem dX3_remove_6 : decode cX3_remove 6 = .ok (.invokestatic 165, 3) := zd_at zo_cX3_remove_0 4 rfl
theorem dX3_remove_9 : decode cX3_remove 9 = .ok (.ifCond .eq 7, 3) := zd_at zo_cX3_remove_0 5 rfl
theorem dX3_remove_12 : decode cX3_remove 12 = .ok (.iconst 0, 1) := zd_at zo_cX3_remove_0 6 rfl
theorem dX3_remove_13 : decode cX3_remove 13 = .ok (.goto 4, 3) := zd_at zo_cX3_remove_0 7 rfl
theorem dX3_remove_16 : decode cX3_remove 16 = .ok (.iconst 1, 1) := zd_at zo_cX3_remove_0 8 rfl
theorem dX3_remove_17 : decode cX3_remove 17 = .ok (.invokevirtual 181, 3) := zd_at zo_cX3_remove_0 9 rfl
theorem dX3_remove_20 : decode cX3_remove 20 = .ok (.ifCond .eq 5, 3) := zd_at zo_cX3_remove_0 10 rfl
theorem dX3_remove_23 : decode cX3_remove 23 = .ok (.iconst 0, 1) := zd_at zo_cX3_remove_0 11 rfl
theorem dX3_remove_24 : decode cX3_remove 24 = .ok (.ireturn, 1) := zd_at zo_cX3_remove_0 12 rfl
theorem dX3_remove_25 : decode cX3_remove 25 = .ok (.aload_n 0, 1) := zd_at zo_cX3_remove_0 13 rfl
theorem dX3_remove_26 : decode cX3_remove 26 = .ok (.invokevirtual 246, 3) := zd_at zo_cX3_remove_0 14 rfl
theorem dX3_remove_29 : decode cX3_remove 29 = .ok (.aload_n 0, 1) := zd_at zo_cX3_remove_0 15 rfl
theorem dX3_remove_30 : decode cX3_remove 30 = .ok (.aload_n 0, 1) := zd_at zo_cX3_remove_0 16 rfl
theorem dX3_remove_31 : decode cX3_remove 31 = .ok (.getfield 13, 3) := zd_at zo_cX3_remove_0 17 rfl
theorem dX3_remove_34 : decode cX3_remove 34 = .ok (.iload_n 1, 1) := zd_at zo_cX3_remove_0 18 rfl
theorem dX3_remove_35 : decode cX3_remove 35 = .ok (.invokevirtual 249, 3) := zd_at zo_cX3_remove_0 19 rfl
theorem dX3_remove_38 : decode cX3_remove 38 = .ok (.ireturn, 1) := zd_at zo_cX3_remove_0 20 rfl
def zl_cX3_move_0 : List (Nat × Instr × Nat) := [(0, .aload_n 0, 1), (1, .aload_n 0, 1), (2, .getfield 13, 3), (5, .iload_n 1, 1), (6, .iload_n 2, 1), (7, .iload_n 3, 1), (8, .invokestatic 252, 3), (11, .invokevirtual 181, 3), (14, .ifCond .eq 5, 3), (17, .iconst 0, 1), (18, .ireturn, 1), (19, .aload_n 0, 1), (20, .invokevirtual 246, 3), (23, .aload_n 0, 1), (24, .aload_n 0, 1), (25, .getfield 13, 3), (28, .iload_n 1, 1), (29, .iload_n 2, 1), (30, .iload_n 3, 1), (31, .invokevirtual 256, 3), (34, .aload_n 0, 1), (35, .aload_n 0, 1), (36, .getfield 13, 3), (39, .invokevirtual 230, 3), (42, .pop, 1), (43, .aload_n 0, 1), (44, .getfield 38, 3), (47, .aload_n 0, 1), (48, .getfield 13, 3), (51, .iload_n 1, 1), (52, .invokestatic 136, 3), (55, .iaload, 1), (56, .ireturn, 1)]
theorem zo_cX3_move_0 : zd_ok cX3_move zl_cX3_move_0 = true := by decide +kernel
theorem dX3_move_0 : decode cX3_move 0 = .ok (.aload_n 0, 1) := zd_at zo_cX3_move_0 0 rfl
theorem dX3_move_1 : decode cX3_move 1 = .ok (.aload_n 0, 1) := zd_at zo_cX3_move_0 1 rfl
theorem dX3_move_2 : decode cX3_move 2 = .ok (.getfield 13, 3) := zd_at zo_cX3_move_0 2 rfl
theorem dX3_move_5 : decode cX3_move 5 = .ok (.iload_n 1, 1) := zd_at zo_cX3_move_0 3 rfl
theorem dX3_move_6 : decode cX3_move 6 = .ok (.iload_n 2, 1) := zd_at zo_cX3_move_0 4 rfl
theorem dX3_move_7 : decode cX3_move 7 = .ok (.iload_n 3, 1) := zd_at zo_cX3_move_0 5 rfl
theorem dX3_move_8 : decode cX3_move 8 = .ok (.invokestatic 252, 3) := zd_at zo_cX3_move_0 6 rfl
theorem dX3_move_11 : decode cX3_move 11 = .ok (.invokevirtual 181, 3) := zd_at zo_cX3_move_0 7 rfl
theorem dX3_move_14 : decode cX3_move 14 = .ok (.ifCond .eq 5, 3) := zd_at zo_cX3_move_0 8 rfl
theorem dX3_move_17 : decode cX3_move 17 = .ok (.iconst 0, 1) := zd_at zo_cX3_move_0 9 rfl
theorem dX3_move_18 : decode cX3_move 18 = .ok (.ireturn, 1) := zd_at zo_cX3_move_0 10 rfl
theorem dX3_move_19 : decode cX3_move 19 = .ok (.aload_n 0, 1) := zd_at zo_cX3_move_0 11 rfl
theorem dX3_move_20 : decode cX3_move 20 = .ok (.invokevirtual 246, 3) := zd_at zo_cX3_move_0 12 rfl
theorem dX3_move_23 : decode cX3_move 23 = .ok (.aload_n 0, 1) := zd_at zo_cX3_move_0 13 rfl
theorem dX3_move_24 : decode cX3_move 24 = .ok (.aload_n 0, 1) := zd_at zo_cX3_move_0 14 rfl
theorem dX3_move_25 : decode cX3_move 25 = .ok (.getfield 13, 3) := zd_at zo_cX3_move_0 15 rfl
theorem dX3_move_28 : decode cX3_move 28 = .ok (.iload_n 1, 1) := zd_at zo_cX3_move_0 16 rfl
theorem dX3_move_29 : decode cX3_move 29 = .ok (.iload_n 2, 1) := zd_at zo_cX3_move_0 17 rfl
theorem dX3_move_30 : decode cX3_move 30 = .ok (.iload_n 3, 1) := zd_at zo_cX3_move_0 18 rfl
theorem dX3_move_31 : decode cX3_move 31 = .ok (.invokevirtual 256, 3) := zd_at zo_cX3_move_0 19 rfl
theorem dX3_move_34 : decode cX3_move 34 = .ok (.aload_n 0, 1) := zd_at zo_cX3_move_0 20 rfl
theorem dX3_move_35 : decode cX3_move 35 = .ok (.aload_n 0, 1) := zd_at zo_cX3_move_0 21 rfl
theorem dX3_move_36 : decode cX3_move 36 = .ok (.getfield 13, 3) := zd_at zo_cX3_move_0 22 rfl
theorem dX3_move_39 : decode cX3_move 39 = .ok (.invokevirtual 230, 3) := zd_at zo_cX3_move_0 23 rfl
theorem dX3_move_42 : decode cX3_move 42 = .ok (.pop, 1) := zd_at zo_cX3_move_0 24 rfl
theorem dX3_move_43 : decode cX3_move 43 = .ok (.aload_n 0, 1) := zd_at zo_cX3_move_0 25 rfl
theorem dX3_move_44 : decode cX3_move 44 = .ok (.getfield 38, 3) := zd_at zo_cX3_move_0 26 rfl
theorem dX3_move_47 : decode cX3_move 47 = .ok (.aload_n 0, 1) := zd_at zo_cX3_move_0 27 rfl
theorem dX3_move_48 : decode cX3_move 48 = .ok (.getfield 13, 3) := zd_at zo_cX3_move_0 28 rfl
theorem dX3_move_51 : decode cX3_move 51 = .ok (.iload_n 1, 1) := zd_at zo_cX3_move_0 29 rfl
theorem dX3_move_52 : decode cX3_move 52 = .ok (.invokestatic 136, 3) := zd_at zo_cX3_move_0 30 rfl
theorem dX3_move_55 : decode cX3_move 55 = .ok (.iaload, 1) := zd_at zo_cX3_move_0 31 rfl
theorem dX3_move_56 : decode cX3_move 56 = .ok (.ireturn, 1) := zd_at zo_cX3_move_0 32 rfl
def zl_cX3_undo_0 : List (Nat × Instr × Nat) := [(0, .aload_n 0, 1), (1, .aload_n 0, 1), (2, .getfield 235, 3), (5, .ifCond .ne 7, 3), (8, .iconst 1, 1), (9, .goto 4, 3), (12, .iconst 0, 1), (13, .invokevirtual 181, 3), (16, .ifCond .eq 5, 3), (19, .iconst 0, 1), (20, .ireturn, 1), (21, .aload_n 0, 1), (22, .dup, 1), (23, .getfield 235, 3), (26, .iconst 1, 1), (27, .isub, 1), (28, .putfield 235, 3), (31, .aload_n 0, 1), (32, .getfield 19, 3), (35, .sipush 380, 3), (38, .aload_n 0, 1), (39, .getfield 235, 3), (42, .imul, 1), (43, .aload_n 0, 1), (44, .getfield 13, 3), (47, .iconst 0, 1), (48, .invokestatic 238, 3), (51, .aload_n 0, 1), (52, .getfield 235, 3), (55, .ireturn, 1)]
theorem zo_cX3_undo_0 : zd_ok cX3_undo zl_cX3_undo_0 = true := by decide +kernel
theorem dX3_undo_0 : decode cX3_undo 0 = .ok (.aload_n 0, 1) := zd_at zo_cX3_undo_0 0 rfl
theorem dX3_undo_1 : decode cX3_undo 1 = .ok (.aload_n 0, 1) := zd_at zo_cX3_undo_0 1 rfl
theorem dX3_undo_2 : decode cX3_undo 2 = .ok (.getfield 235, 3) := zd_at zo_cX3_undo_0 2 rfl
theorem dX3_undo_5 : decode cX3_undo 5 = .ok (.ifCond .ne 7, 3) := zd_at zo_cX3_undo_0 3 rfl
theorem dX3_undo_8 : decode cX3_undo 8 = .ok (.iconst 1, 1) := zd_at zo_cX3_undo_0 4 rfl
theorem dX3_undo_9 : decode cX3_undo 9 = .ok (.goto 4, 3) := zd_at zo_cX3_undo_0 5 rfl
theorem dX3_undo_12 : decode cX3_undo 12 = .ok (.iconst 0, 1) := zd_at zo_cX3_undo_0 6 rfl
theorem dX3_undo_13 : decode cX3_undo 13 = .ok (.invokevirtual 181, 3) := zd_at zo_cX3_undo_0 7 rfl
theorem dX3_undo_16 : decode cX3_undo 16 = .ok (.ifCond .eq 5, 3) := zd_at zo_cX3_undo_0 8 rfl
theorem dX3_undo_19 : decode cX3_undo 19 = .ok (.iconst 0, 1) := zd_at zo_cX3_undo_0 9 rfl
theorem dX3_undo_20 : decode cX3_undo 20 = .ok (.ireturn, 1) := zd_at zo_cX3_undo_0 10 rfl
theorem dX3_undo_21 : decode cX3_undo 21 = .ok (.aload_n 0, 1) := zd_at zo_cX3_undo_0 11 rfl
theorem dX3_undo_22 : decode cX3_undo 22 = .ok (.dup, 1) := zd_at zo_cX3_undo_0 12 rfl
theorem dX3_undo_23 : decode cX3_undo 23 = .ok (.getfield 235, 3) := zd_at zo_cX3_undo_0 13 rfl
theorem dX3_undo_26 : decode cX3_undo 26 = .ok (.iconst 1, 1) := zd_at zo_cX3_undo_0 14 rfl
theorem dX3_undo_27 : decode cX3_undo 27 = .ok (.isub, 1) := zd_at zo_cX3_undo_0 15 rfl
theorem dX3_undo_28 : decode cX3_undo 28 = .ok (.putfield 235, 3) := zd_at zo_cX3_undo_0 16 rfl
theorem dX3_undo_31 : decode cX3_undo 31 = .ok (.aload_n 0, 1) := zd_at zo_cX3_undo_0 17 rfl
theorem dX3_undo_32 : decode cX3_undo 32 = .ok (.getfield 19, 3) := zd_at zo_cX3_undo_0 18 rfl
theorem dX3_undo_35 : decode cX3_undo 35 = .ok (.sipush 380, 3) := zd_at zo_cX3_undo_0 19 rfl
theorem dX3_undo_38 : decode cX3_undo 38 = .ok (.aload_n 0, 1) := zd_at zo_cX3_undo_0 20 rfl
theorem dX3_undo_39 : decode cX3_undo 39 = .ok (.getfield 235, 3) := zd_at zo_cX3_undo_0 21 rfl
theorem dX3_undo_42 : decode cX3_undo 42 = .ok (.imul, 1) := zd_at zo_cX3_undo_0 22 rfl
theorem dX3_undo_43 : decode cX3_undo 43 = .ok (.aload_n 0, 1) := zd_at zo_cX3_undo_0 23 rfl
theorem dX3_undo_44 : decode cX3_undo 44 = .ok (.getfield 13, 3) := zd_at zo_cX3_undo_0 24 rfl
theorem dX3_undo_47 : decode cX3_undo 47 = .ok (.iconst 0, 1) := zd_at zo_cX3_undo_0 25 rfl
theorem dX3_undo_48 : decode cX3_undo 48 = .ok (.invokestatic 238, 3) := zd_at zo_cX3_undo_0 26 rfl
theorem dX3_undo_51 : decode cX3_undo 51 = .ok (.aload_n 0, 1) := zd_at zo_cX3_undo_0 27 rfl
theorem dX3_undo_52 : decode cX3_undo 52 = .ok (.getfield 235, 3) := zd_at zo_cX3_undo_0 28 rfl
theorem dX3_undo_55 : decode cX3_undo 55 = .ok (.ireturn, 1) := zd_at zo_cX3_undo_0 29 rfl
def zl_cX3_meets_0 : List (Nat × Instr × Nat) := [(0, .aload_n 0, 1), (1, .getfield 29, 3), (4, .iconst 4, 1), (5, .iload_n 1, 1), (6, .imul, 1), (7, .iaload, 1), (8, .iload 4, 2), (10, .if_icmp .gt 50, 3), (13, .aload_n 0, 1), (14, .getfield 29, 3), (17, .iconst 4, 1), (18, .iload_n 1, 1), (19, .imul, 1), (20, .iconst 2, 1), (21, .iadd, 1), (22, .iaload, 1), (23, .iload_n 2, 1), (24, .if_icmp .lt 36, 3), (27, .aload_n 0, 1), (28, .getfield 29, 3), (31, .iconst 4, 1), (32, .iload_n 1, 1), (33, .imul, 1), (34, .iconst 1, 1), (35, .iadd, 1), (36, .iaload, 1), (37, .iload 5, 2), (39, .if_icmp .gt 21, 3), (42, .aload_n 0, 1), (43, .getfield 29, 3), (46, .iconst 4, 1), (47, .iload_n 1, 1), (48, .imul, 1), (49, .iconst 3, 1), (50, .iadd, 1), (51, .iaload, 1), (52, .iload_n 3, 1), (53, .if_icmp .lt 7, 3), (56, .iconst 1, 1), (57, .goto 4, 3), (60, .iconst 0, 1), (61, .ireturn, 1)]
theorem zo_cX3_meets_0 : zd_ok cX3_meets zl_cX3_meets_0 = true := by decide +kernel
theorem dX3_meets_0 : decode cX3_meets 0 = .ok (.aload_n 0, 1) := zd_at zo_cX3_meets_0 0 rfl
theorem dX3_meets_1 : decode cX3_meets 1 = .ok (.getfield 29, 3) := zd_at zo_cX3_meets_0 1 rfl
theorem dX3_meets_4 : decode cX3_meets 4 = .ok (.iconst 4, 1) := zd_at zo_cX3_meets_0 2 rfl
theorem dX3_meets_5 : decode cX3_meets 5 = .ok (.iload_n 1, 1) := zd_at zo_cX3_meets_0 3 rfl
theorem dX3_meets_6 : decode cX3_meets 6 = .ok (.imul, 1) := zd_at zo_cX3_meets_0 4 rfl
theorem dX3_meets_7 : decode cX3_meets 7 = .ok (.iaload, 1) := zd_at zo_cX3_meets_0 5 rfl
theorem dX3_meets_8 : decode cX3_meets 8 = .ok (.iload 4, 2) := zd_at zo_cX3_meets_0 6 rfl
theorem dX3_meets_10 : decode cX3_meets 10 = .ok (.if_icmp .gt 50, 3) := zd_at zo_cX3_meets_0 7 rfl
theorem dX3_meets_13 : decode cX3_meets 13 = .ok (.aload_n 0, 1) := zd_at zo_cX3_meets_0 8 rfl
theorem dX3_meets_14 : decode cX3_meets 14 = .ok (.getfield 29, 3) := zd_at zo_cX3_meets_0 9 rfl
theorem dX3_meets_17 : decode cX3_meets 17 = .ok (.iconst 4, 1) := zd_at zo_cX3_meets_0 10 rfl
theorem dX3_meets_18 : decode cX3_meets 18 = .ok (.iload_n 1, 1) := zd_at zo_cX3_meets_0 11 rfl
theorem dX3_meets_19 : decode cX3_meets 19 = .ok (.imul, 1) := zd_at zo_cX3_meets_0 12 rfl
theorem dX3_meets_20 : decode cX3_meets 20 = .ok (.iconst 2, 1) := zd_at zo_cX3_meets_0 13 rfl
theorem dX3_meets_21 : decode cX3_meets 21 = .ok (.iadd, 1) := zd_at zo_cX3_meets_0 14 rfl
theorem dX3_meets_22 : decode cX3_meets 22 = .ok (.iaload, 1) := zd_at zo_cX3_meets_0 15 rfl
theorem dX3_meets_23 : decode cX3_meets 23 = .ok (.iload_n 2, 1) := zd_at zo_cX3_meets_0 16 rfl
theorem dX3_meets_24 : decode cX3_meets 24 = .ok (.if_icmp .lt 36, 3) := zd_at zo_cX3_meets_0 17 rfl
theorem dX3_meets_27 : decode cX3_meets 27 = .ok (.aload_n 0, 1) := zd_at zo_cX3_meets_0 18 rfl
theorem dX3_meets_28 : decode cX3_meets 28 = .ok (.getfield 29, 3) := zd_at zo_cX3_meets_0 19 rfl
theorem dX3_meets_31 : decode cX3_meets 31 = .ok (.iconst 4, 1) := zd_at zo_cX3_meets_0 20 rfl
theorem dX3_meets_32 : decode cX3_meets 32 = .ok (.iload_n 1, 1) := zd_at zo_cX3_meets_0 21 rfl
theorem dX3_meets_33 : decode cX3_meets 33 = .ok (.imul, 1) := zd_at zo_cX3_meets_0 22 rfl
theorem dX3_meets_34 : decode cX3_meets 34 = .ok (.iconst 1, 1) := zd_at zo_cX3_meets_0 23 rfl
theorem dX3_meets_35 : decode cX3_meets 35 = .ok (.iadd, 1) := zd_at zo_cX3_meets_0 24 rfl
theorem dX3_meets_36 : decode cX3_meets 36 = .ok (.iaload, 1) := zd_at zo_cX3_meets_0 25 rfl
theorem dX3_meets_37 : decode cX3_meets 37 = .ok (.iload 5, 2) := zd_at zo_cX3_meets_0 26 rfl
theorem dX3_meets_39 : decode cX3_meets 39 = .ok (.if_icmp .gt 21, 3) := zd_at zo_cX3_meets_0 27 rfl
theorem dX3_meets_42 : decode cX3_meets 42 = .ok (.aload_n 0, 1) := zd_at zo_cX3_meets_0 28 rfl
theorem dX3_meets_43 : decode cX3_meets 43 = .ok (.getfield 29, 3) := zd_at zo_cX3_meets_0 29 rfl
theorem dX3_meets_46 : decode cX3_meets 46 = .ok (.iconst 4, 1) := zd_at zo_cX3_meets_0 30 rfl
theorem dX3_meets_47 : decode cX3_meets 47 = .ok (.iload_n 1, 1) := zd_at zo_cX3_meets_0 31 rfl
theorem dX3_meets_48 : decode cX3_meets 48 = .ok (.imul, 1) := zd_at zo_cX3_meets_0 32 rfl
theorem dX3_meets_49 : decode cX3_meets 49 = .ok (.iconst 3, 1) := zd_at zo_cX3_meets_0 33 rfl
theorem dX3_meets_50 : decode cX3_meets 50 = .ok (.iadd, 1) := zd_at zo_cX3_meets_0 34 rfl
theorem dX3_meets_51 : decode cX3_meets 51 = .ok (.iaload, 1) := zd_at zo_cX3_meets_0 35 rfl
theorem dX3_meets_52 : decode cX3_meets 52 = .ok (.iload_n 3, 1) := zd_at zo_cX3_meets_0 36 rfl
theorem dX3_meets_53 : decode cX3_meets 53 = .ok (.if_icmp .lt 7, 3) := zd_at zo_cX3_meets_0 37 rfl
theorem dX3_meets_56 : decode cX3_meets 56 = .ok (.iconst 1, 1) := zd_at zo_cX3_meets_0 38 rfl
theorem dX3_meets_57 : decode cX3_meets 57 = .ok (.goto 4, 3) := zd_at zo_cX3_meets_0 39 rfl
theorem dX3_meets_60 : decode cX3_meets 60 = .ok (.iconst 0, 1) := zd_at zo_cX3_meets_0 40 rfl
theorem dX3_meets_61 : decode cX3_meets 61 = .ok (.ireturn, 1) := zd_at zo_cX3_meets_0 41 rfl
def zl_cX3_window_0 : List (Nat × Instr × Nat) := [(0, .aload_n 0, 1), (1, .iload_n 1, 1), (2, .iload_n 2, 1), (3, .iload_n 3, 1), (4, .iload 4, 2), (6, .invokestatic 242, 3), (9, .ifCond .eq 7, 3), (12, .iconst 0, 1), (13, .goto 4, 3), (16, .iconst 1, 1), (17, .invokevirtual 181, 3), (20, .ifCond .eq 5, 3), (23, .iconst 0, 1), (24, .ireturn, 1), (25, .aload_n 0, 1), (26, .aload_n 0, 1), (27, .getfield 13, 3), (30, .invokevirtual 130, 3), (33, .iconst 0, 1), (34, .istore 5, 2), (36, .iconst 0, 1), (37, .istore 6, 2), (39, .iload 6, 2), (41, .bipush 24, 2), (43, .if_icmp .ge 49, 3), (46, .iload 5, 2), (48, .aload_n 0, 1), (49, .getfield 13, 3), (52, .iconst 5, 1), (53, .iload 6, 2), (55, .imul, 1), (56, .iaload, 1), (57, .iconst 1, 1), (58, .if_icmp .ne 24, 3), (61, .aload_n 0, 1), (62, .iload 6, 2), (64, .iload_n 1, 1), (65, .iload_n 2, 1), (66, .iload_n 3, 1), (67, .iload 4, 2), (69, .invokevirtual 259, 3), (72, .ifCond .eq 10, 3), (75, .iconst 1, 1), (76, .iload 6, 2), (78, .ishl, 1), (79, .goto 4, 3), (82, .iconst 0, 1), (83, .ior, 1), (84, .istore 5, 2), (86, .iinc 6 1, 3), (89, .goto (-50), 3), (92, .iload 5, 2), (94, .ireturn, 1)]
theorem zo_cX3_window_0 : zd_ok cX3_window zl_cX3_window_0 = true := by decide +kernel
theorem dX3_window_0 : decode cX3_window 0 = .ok (.aload_n 0, 1) := zd_at zo_cX3_window_0 0 rfl
theorem dX3_window_1 : decode cX3_window 1 = .ok (.iload_n 1, 1) := zd_at zo_cX3_window_0 1 rfl
theorem dX3_window_2 : decode cX3_window 2 = .ok (.iload_n 2, 1) := zd_at zo_cX3_window_0 2 rfl
theorem dX3_window_3 : decode cX3_window 3 = .ok (.iload_n 3, 1) := zd_at zo_cX3_window_0 3 rfl
theorem dX3_window_4 : decode cX3_window 4 = .ok (.iload 4, 2) := zd_at zo_cX3_window_0 4 rfl
theorem dX3_window_6 : decode cX3_window 6 = .ok (.invokestatic 242, 3) := zd_at zo_cX3_window_0 5 rfl
theorem dX3_window_9 : decode cX3_window 9 = .ok (.ifCond .eq 7, 3) := zd_at zo_cX3_window_0 6 rfl
theorem dX3_window_12 : decode cX3_window 12 = .ok (.iconst 0, 1) := zd_at zo_cX3_window_0 7 rfl
theorem dX3_window_13 : decode cX3_window 13 = .ok (.goto 4, 3) := zd_at zo_cX3_window_0 8 rfl
theorem dX3_window_16 : decode cX3_window 16 = .ok (.iconst 1, 1) := zd_at zo_cX3_window_0 9 rfl
theorem dX3_window_17 : decode cX3_window 17 = .ok (.invokevirtual 181, 3) := zd_at zo_cX3_window_0 10 rfl
theorem dX3_window_20 : decode cX3_window 20 = .ok (.ifCond .eq 5, 3) := zd_at zo_cX3_window_0 11 rfl
theorem dX3_window_23 : decode cX3_window 23 = .ok (.iconst 0, 1) := zd_at zo_cX3_window_0 12 rfl
theorem dX3_window_24 : decode cX3_window 24 = .ok (.ireturn, 1) := zd_at zo_cX3_window_0 13 rfl
theorem dX3_window_25 : decode cX3_window 25 = .ok (.aload_n 0, 1) := zd_at zo_cX3_window_0 14 rfl
theorem dX3_window_26 : decode cX3_window 26 = .ok (.aload_n 0, 1) := zd_at zo_cX3_window_0 15 rfl
theorem dX3_window_27 : decode cX3_window 27 = .ok (.getfield 13, 3) := zd_at zo_cX3_window_0 16 rfl
theorem dX3_window_30 : decode cX3_window 30 = .ok (.invokevirtual 130, 3) := zd_at zo_cX3_window_0 17 rfl
theorem dX3_window_33 : decode cX3_window 33 = .ok (.iconst 0, 1) := zd_at zo_cX3_window_0 18 rfl
theorem dX3_window_34 : decode cX3_window 34 = .ok (.istore 5, 2) := zd_at zo_cX3_window_0 19 rfl
theorem dX3_window_36 : decode cX3_window 36 = .ok (.iconst 0, 1) := zd_at zo_cX3_window_0 20 rfl
theorem dX3_window_37 : decode cX3_window 37 = .ok (.istore 6, 2) := zd_at zo_cX3_window_0 21 rfl
theorem dX3_window_39 : decode cX3_window 39 = .ok (.iload 6, 2) := zd_at zo_cX3_window_0 22 rfl
theorem dX3_window_41 : decode cX3_window 41 = .ok (.bipush 24, 2) := zd_at zo_cX3_window_0 23 rfl
theorem dX3_window_43 : decode cX3_window 43 = .ok (.if_icmp .ge 49, 3) := zd_at zo_cX3_window_0 24 rfl
theorem dX3_window_46 : decode cX3_window 46 = .ok (.iload 5, 2) := zd_at zo_cX3_window_0 25 rfl
theorem dX3_window_48 : decode cX3_window 48 = .ok (.aload_n 0, 1) := zd_at zo_cX3_window_0 26 rfl
theorem dX3_window_49 : decode cX3_window 49 = .ok (.getfield 13, 3) := zd_at zo_cX3_window_0 27 rfl
theorem dX3_window_52 : decode cX3_window 52 = .ok (.iconst 5, 1) := zd_at zo_cX3_window_0 28 rfl
theorem dX3_window_53 : decode cX3_window 53 = .ok (.iload 6, 2) := zd_at zo_cX3_window_0 29 rfl
theorem dX3_window_55 : decode cX3_window 55 = .ok (.imul, 1) := zd_at zo_cX3_window_0 30 rfl
theorem dX3_window_56 : decode cX3_window 56 = .ok (.iaload, 1) := zd_at zo_cX3_window_0 31 rfl
theorem dX3_window_57 : decode cX3_window 57 = .ok (.iconst 1, 1) := zd_at zo_cX3_window_0 32 rfl
theorem dX3_window_58 : decode cX3_window 58 = .ok (.if_icmp .ne 24, 3) := zd_at zo_cX3_window_0 33 rfl
theorem dX3_window_61 : decode cX3_window 61 = .ok (.aload_n 0, 1) := zd_at zo_cX3_window_0 34 rfl
theorem dX3_window_62 : decode cX3_window 62 = .ok (.iload 6, 2) := zd_at zo_cX3_window_0 35 rfl
theorem dX3_window_64 : decode cX3_window 64 = .ok (.iload_n 1, 1) := zd_at zo_cX3_window_0 36 rfl
theorem dX3_window_65 : decode cX3_window 65 = .ok (.iload_n 2, 1) := zd_at zo_cX3_window_0 37 rfl
theorem dX3_window_66 : decode cX3_window 66 = .ok (.iload_n 3, 1) := zd_at zo_cX3_window_0 38 rfl
theorem dX3_window_67 : decode cX3_window 67 = .ok (.iload 4, 2) := zd_at zo_cX3_window_0 39 rfl
theorem dX3_window_69 : decode cX3_window 69 = .ok (.invokevirtual 259, 3) := zd_at zo_cX3_window_0 40 rfl
theorem dX3_window_72 : decode cX3_window 72 = .ok (.ifCond .eq 10, 3) := zd_at zo_cX3_window_0 41 rfl
theorem dX3_window_75 : decode cX3_window 75 = .ok (.iconst 1, 1) := zd_at zo_cX3_window_0 42 rfl
theorem dX3_window_76 : decode cX3_window 76 = .ok (.iload 6, 2) := zd_at zo_cX3_window_0 43 rfl
theorem dX3_window_78 : decode cX3_window 78 = .ok (.ishl, 1) := zd_at zo_cX3_window_0 44 rfl
theorem dX3_window_79 : decode cX3_window 79 = .ok (.goto 4, 3) := zd_at zo_cX3_window_0 45 rfl
theorem dX3_window_82 : decode cX3_window 82 = .ok (.iconst 0, 1) := zd_at zo_cX3_window_0 46 rfl
theorem dX3_window_83 : decode cX3_window 83 = .ok (.ior, 1) := zd_at zo_cX3_window_0 47 rfl
theorem dX3_window_84 : decode cX3_window 84 = .ok (.istore 5, 2) := zd_at zo_cX3_window_0 48 rfl
theorem dX3_window_86 : decode cX3_window 86 = .ok (.iinc 6 1, 3) := zd_at zo_cX3_window_0 49 rfl
theorem dX3_window_89 : decode cX3_window 89 = .ok (.goto (-50), 3) := zd_at zo_cX3_window_0 50 rfl
theorem dX3_window_92 : decode cX3_window 92 = .ok (.iload 5, 2) := zd_at zo_cX3_window_0 51 rfl
theorem dX3_window_94 : decode cX3_window 94 = .ok (.ireturn, 1) := zd_at zo_cX3_window_0 52 rfl
def zl_cX3_looks_0 : List (Nat × Instr × Nat) := [(0, .aload_n 0, 1), (1, .iload_n 1, 1), (2, .iload_n 2, 1), (3, .iload_n 3, 1), (4, .iload 4, 2), (6, .invokestatic 242, 3), (9, .ifCond .eq 7, 3), (12, .iconst 0, 1), (13, .goto 4, 3), (16, .iconst 1, 1), (17, .invokevirtual 181, 3), (20, .ifCond .eq 5, 3), (23, .iconst 0, 1), (24, .ireturn, 1), (25, .aload_n 0, 1), (26, .aload_n 0, 1), (27, .getfield 13, 3), (30, .invokevirtual 130, 3), (33, .iconst 0, 1), (34, .istore 5, 2), (36, .iconst 1, 1), (37, .istore 6, 2), (39, .aload_n 0, 1), (40, .getfield 44, 3), (43, .iconst 0, 1), (44, .aload_n 0, 1), (45, .getfield 13, 3), (48, .sipush 376, 3), (51, .iaload, 1), (52, .iastore, 1), (53, .iload 6, 2), (55, .ifCond .le 103, 3), (58, .iinc 6 (-1), 3), (61, .aload_n 0, 1), (62, .getfield 44, 3), (65, .iload 6, 2), (67, .iaload, 1), (68, .istore 7, 2), (70, .iinc 5 1, 3), (73, .iconst 0, 1), (74, .istore 8, 2), (76, .iload 8, 2), (78, .aload_n 0, 1), (79, .getfield 13, 3), (82, .iload 7, 2), (84, .invokestatic 69, 3), (87, .if_icmp .ge 68, 3), (90, .aload_n 0, 1), (91, .getfield 13, 3), (94, .iload 7, 2), (96, .invokestatic 65, 3), (99, .ifCond .le 56, 3), (102, .aload_n 0, 1), (103, .aload_n 0, 1), (104, .getfield 13, 3), (107, .iload 7, 2), (109, .iload 8, 2), (111, .invokestatic 72, 3), (114, .iload_n 1, 1), (115, .iload_n 2, 1), (116, .iload_n 3, 1), (117, .iload 4, 2), (119, .invokevirtual 259, 3), (122, .ifCond .eq 27, 3), (125, .aload_n 0, 1), (126, .getfield 44, 3), (129, .iload 6, 2), (131, .aload_n 0, 1), (132, .getfield 13, 3), (135, .iload 7, 2), (137, .iload 8, 2), (139, .invokestatic 72, 3), (142, .bipush 24, 2), (144, .isub, 1), (145, .iastore, 1), (146, .iinc 6 1, 3), (149, .iinc 8 1, 3), (152, .goto (-76), 3), (155, .goto (-102), 3), (158, .iload 5, 2), (160, .ireturn, 1)]
theorem zo_cX3_looks_0 : zd_ok cX3_looks zl_cX3_looks_0 = true := by decide +kernel
theorem dX3_looks_0 : decode cX3_looks 0 = .ok (.aload_n 0, 1) := zd_at zo_cX3_looks_0 0 rfl
theorem dX3_looks_1 : decode cX3_looks 1 = .ok (.iload_n 1, 1) := zd_at zo_cX3_looks_0 1 rfl
theorem dX3_looks_2 : decode cX3_looks 2 = .ok (.iload_n 2, 1) := zd_at zo_cX3_looks_0 2 rfl
theorem dX3_looks_3 : decode cX3_looks 3 = .ok (.iload_n 3, 1) := zd_at zo_cX3_looks_0 3 rfl
theorem dX3_looks_4 : decode cX3_looks 4 = .ok (.iload 4, 2) := zd_at zo_cX3_looks_0 4 rfl
theorem dX3_looks_6 : decode cX3_looks 6 = .ok (.invokestatic 242, 3) := zd_at zo_cX3_looks_0 5 rfl
theorem dX3_looks_9 : decode cX3_looks 9 = .ok (.ifCond .eq 7, 3) := zd_at zo_cX3_looks_0 6 rfl
theorem dX3_looks_12 : decode cX3_looks 12 = .ok (.iconst 0, 1) := zd_at zo_cX3_looks_0 7 rfl
theorem dX3_looks_13 : decode cX3_looks 13 = .ok (.goto 4, 3) := zd_at zo_cX3_looks_0 8 rfl
theorem dX3_looks_16 : decode cX3_looks 16 = .ok (.iconst 1, 1) := zd_at zo_cX3_looks_0 9 rfl
theorem dX3_looks_17 : decode cX3_looks 17 = .ok (.invokevirtual 181, 3) := zd_at zo_cX3_looks_0 10 rfl
theorem dX3_looks_20 : decode cX3_looks 20 = .ok (.ifCond .eq 5, 3) := zd_at zo_cX3_looks_0 11 rfl
theorem dX3_looks_23 : decode cX3_looks 23 = .ok (.iconst 0, 1) := zd_at zo_cX3_looks_0 12 rfl
theorem dX3_looks_24 : decode cX3_looks 24 = .ok (.ireturn, 1) := zd_at zo_cX3_looks_0 13 rfl
theorem dX3_looks_25 : decode cX3_looks 25 = .ok (.aload_n 0, 1) := zd_at zo_cX3_looks_0 14 rfl
theorem dX3_looks_26 : decode cX3_looks 26 = .ok (.aload_n 0, 1) := zd_at zo_cX3_looks_0 15 rfl
theorem dX3_looks_27 : decode cX3_looks 27 = .ok (.getfield 13, 3) := zd_at zo_cX3_looks_0 16 rfl
theorem dX3_looks_30 : decode cX3_looks 30 = .ok (.invokevirtual 130, 3) := zd_at zo_cX3_looks_0 17 rfl
theorem dX3_looks_33 : decode cX3_looks 33 = .ok (.iconst 0, 1) := zd_at zo_cX3_looks_0 18 rfl
theorem dX3_looks_34 : decode cX3_looks 34 = .ok (.istore 5, 2) := zd_at zo_cX3_looks_0 19 rfl
theorem dX3_looks_36 : decode cX3_looks 36 = .ok (.iconst 1, 1) := zd_at zo_cX3_looks_0 20 rfl
theorem dX3_looks_37 : decode cX3_looks 37 = .ok (.istore 6, 2) := zd_at zo_cX3_looks_0 21 rfl
theorem dX3_looks_39 : decode cX3_looks 39 = .ok (.aload_n 0, 1) := zd_at zo_cX3_looks_0 22 rfl
theorem dX3_looks_40 : decode cX3_looks 40 = .ok (.getfield 44, 3) := zd_at zo_cX3_looks_0 23 rfl
theorem dX3_looks_43 : decode cX3_looks 43 = .ok (.iconst 0, 1) := zd_at zo_cX3_looks_0 24 rfl
theorem dX3_looks_44 : decode cX3_looks 44 = .ok (.aload_n 0, 1) := zd_at zo_cX3_looks_0 25 rfl
theorem dX3_looks_45 : decode cX3_looks 45 = .ok (.getfield 13, 3) := zd_at zo_cX3_looks_0 26 rfl
theorem dX3_looks_48 : decode cX3_looks 48 = .ok (.sipush 376, 3) := zd_at zo_cX3_looks_0 27 rfl
theorem dX3_looks_51 : decode cX3_looks 51 = .ok (.iaload, 1) := zd_at zo_cX3_looks_0 28 rfl
theorem dX3_looks_52 : decode cX3_looks 52 = .ok (.iastore, 1) := zd_at zo_cX3_looks_0 29 rfl
theorem dX3_looks_53 : decode cX3_looks 53 = .ok (.iload 6, 2) := zd_at zo_cX3_looks_0 30 rfl
theorem dX3_looks_55 : decode cX3_looks 55 = .ok (.ifCond .le 103, 3) := zd_at zo_cX3_looks_0 31 rfl
theorem dX3_looks_58 : decode cX3_looks 58 = .ok (.iinc 6 (-1), 3) := zd_at zo_cX3_looks_0 32 rfl
theorem dX3_looks_61 : decode cX3_looks 61 = .ok (.aload_n 0, 1) := zd_at zo_cX3_looks_0 33 rfl
theorem dX3_looks_62 : decode cX3_looks 62 = .ok (.getfield 44, 3) := zd_at zo_cX3_looks_0 34 rfl
theorem dX3_looks_65 : decode cX3_looks 65 = .ok (.iload 6, 2) := zd_at zo_cX3_looks_0 35 rfl
theorem dX3_looks_67 : decode cX3_looks 67 = .ok (.iaload, 1) := zd_at zo_cX3_looks_0 36 rfl
theorem dX3_looks_68 : decode cX3_looks 68 = .ok (.istore 7, 2) := zd_at zo_cX3_looks_0 37 rfl
theorem dX3_looks_70 : decode cX3_looks 70 = .ok (.iinc 5 1, 3) := zd_at zo_cX3_looks_0 38 rfl
theorem dX3_looks_73 : decode cX3_looks 73 = .ok (.iconst 0, 1) := zd_at zo_cX3_looks_0 39 rfl
theorem dX3_looks_74 : decode cX3_looks 74 = .ok (.istore 8, 2) := zd_at zo_cX3_looks_0 40 rfl
theorem dX3_looks_76 : decode cX3_looks 76 = .ok (.iload 8, 2) := zd_at zo_cX3_looks_0 41 rfl
theorem dX3_looks_78 : decode cX3_looks 78 = .ok (.aload_n 0, 1) := zd_at zo_cX3_looks_0 42 rfl
theorem dX3_looks_79 : decode cX3_looks 79 = .ok (.getfield 13, 3) := zd_at zo_cX3_looks_0 43 rfl
theorem dX3_looks_82 : decode cX3_looks 82 = .ok (.iload 7, 2) := zd_at zo_cX3_looks_0 44 rfl
theorem dX3_looks_84 : decode cX3_looks 84 = .ok (.invokestatic 69, 3) := zd_at zo_cX3_looks_0 45 rfl
theorem dX3_looks_87 : decode cX3_looks 87 = .ok (.if_icmp .ge 68, 3) := zd_at zo_cX3_looks_0 46 rfl
theorem dX3_looks_90 : decode cX3_looks 90 = .ok (.aload_n 0, 1) := zd_at zo_cX3_looks_0 47 rfl
theorem dX3_looks_91 : decode cX3_looks 91 = .ok (.getfield 13, 3) := zd_at zo_cX3_looks_0 48 rfl
theorem dX3_looks_94 : decode cX3_looks 94 = .ok (.iload 7, 2) := zd_at zo_cX3_looks_0 49 rfl
theorem dX3_looks_96 : decode cX3_looks 96 = .ok (.invokestatic 65, 3) := zd_at zo_cX3_looks_0 50 rfl
theorem dX3_looks_99 : decode cX3_looks 99 = .ok (.ifCond .le 56, 3) := zd_at zo_cX3_looks_0 51 rfl
theorem dX3_looks_102 : decode cX3_looks 102 = .ok (.aload_n 0, 1) := zd_at zo_cX3_looks_0 52 rfl
theorem dX3_looks_103 : decode cX3_looks 103 = .ok (.aload_n 0, 1) := zd_at zo_cX3_looks_0 53 rfl
theorem dX3_looks_104 : decode cX3_looks 104 = .ok (.getfield 13, 3) := zd_at zo_cX3_looks_0 54 rfl
theorem dX3_looks_107 : decode cX3_looks 107 = .ok (.iload 7, 2) := zd_at zo_cX3_looks_0 55 rfl
theorem dX3_looks_109 : decode cX3_looks 109 = .ok (.iload 8, 2) := zd_at zo_cX3_looks_0 56 rfl
theorem dX3_looks_111 : decode cX3_looks 111 = .ok (.invokestatic 72, 3) := zd_at zo_cX3_looks_0 57 rfl
theorem dX3_looks_114 : decode cX3_looks 114 = .ok (.iload_n 1, 1) := zd_at zo_cX3_looks_0 58 rfl
theorem dX3_looks_115 : decode cX3_looks 115 = .ok (.iload_n 2, 1) := zd_at zo_cX3_looks_0 59 rfl
theorem dX3_looks_116 : decode cX3_looks 116 = .ok (.iload_n 3, 1) := zd_at zo_cX3_looks_0 60 rfl
theorem dX3_looks_117 : decode cX3_looks 117 = .ok (.iload 4, 2) := zd_at zo_cX3_looks_0 61 rfl
theorem dX3_looks_119 : decode cX3_looks 119 = .ok (.invokevirtual 259, 3) := zd_at zo_cX3_looks_0 62 rfl
theorem dX3_looks_122 : decode cX3_looks 122 = .ok (.ifCond .eq 27, 3) := zd_at zo_cX3_looks_0 63 rfl
theorem dX3_looks_125 : decode cX3_looks 125 = .ok (.aload_n 0, 1) := zd_at zo_cX3_looks_0 64 rfl
theorem dX3_looks_126 : decode cX3_looks 126 = .ok (.getfield 44, 3) := zd_at zo_cX3_looks_0 65 rfl
theorem dX3_looks_129 : decode cX3_looks 129 = .ok (.iload 6, 2) := zd_at zo_cX3_looks_0 66 rfl
theorem dX3_looks_131 : decode cX3_looks 131 = .ok (.aload_n 0, 1) := zd_at zo_cX3_looks_0 67 rfl
theorem dX3_looks_132 : decode cX3_looks 132 = .ok (.getfield 13, 3) := zd_at zo_cX3_looks_0 68 rfl
theorem dX3_looks_135 : decode cX3_looks 135 = .ok (.iload 7, 2) := zd_at zo_cX3_looks_0 69 rfl
theorem dX3_looks_137 : decode cX3_looks 137 = .ok (.iload 8, 2) := zd_at zo_cX3_looks_0 70 rfl
theorem dX3_looks_139 : decode cX3_looks 139 = .ok (.invokestatic 72, 3) := zd_at zo_cX3_looks_0 71 rfl
theorem dX3_looks_142 : decode cX3_looks 142 = .ok (.bipush 24, 2) := zd_at zo_cX3_looks_0 72 rfl
theorem dX3_looks_144 : decode cX3_looks 144 = .ok (.isub, 1) := zd_at zo_cX3_looks_0 73 rfl
theorem dX3_looks_145 : decode cX3_looks 145 = .ok (.iastore, 1) := zd_at zo_cX3_looks_0 74 rfl
theorem dX3_looks_146 : decode cX3_looks 146 = .ok (.iinc 6 1, 3) := zd_at zo_cX3_looks_0 75 rfl
theorem dX3_looks_149 : decode cX3_looks 149 = .ok (.iinc 8 1, 3) := zd_at zo_cX3_looks_0 76 rfl
theorem dX3_looks_152 : decode cX3_looks 152 = .ok (.goto (-76), 3) := zd_at zo_cX3_looks_0 77 rfl
theorem dX3_looks_155 : decode cX3_looks 155 = .ok (.goto (-102), 3) := zd_at zo_cX3_looks_0 78 rfl
theorem dX3_looks_158 : decode cX3_looks 158 = .ok (.iload 5, 2) := zd_at zo_cX3_looks_0 79 rfl
theorem dX3_looks_160 : decode cX3_looks 160 = .ok (.ireturn, 1) := zd_at zo_cX3_looks_0 80 rfl
def zl_cX3_beyond_0 : List (Nat × Instr × Nat) := [(0, .iload_n 0, 1), (1, .iload_n 1, 1), (2, .if_icmp .ge 9, 3), (5, .iload_n 1, 1), (6, .iload_n 0, 1), (7, .isub, 1), (8, .goto 15, 3), (11, .iload_n 0, 1), (12, .iload_n 2, 1), (13, .if_icmp .le 9, 3), (16, .iload_n 0, 1), (17, .iload_n 2, 1), (18, .isub, 1), (19, .goto 4, 3), (22, .iconst 0, 1), (23, .ireturn, 1)]
theorem zo_cX3_beyond_0 : zd_ok cX3_beyond zl_cX3_beyond_0 = true := by decide +kernel
theorem dX3_beyond_0 : decode cX3_beyond 0 = .ok (.iload_n 0, 1) := zd_at zo_cX3_beyond_0 0 rfl
theorem dX3_beyond_1 : decode cX3_beyond 1 = .ok (.iload_n 1, 1) := zd_at zo_cX3_beyond_0 1 rfl
theorem dX3_beyond_2 : decode cX3_beyond 2 = .ok (.if_icmp .ge 9, 3) := zd_at zo_cX3_beyond_0 2 rfl
theorem dX3_beyond_5 : decode cX3_beyond 5 = .ok (.iload_n 1, 1) := zd_at zo_cX3_beyond_0 3 rfl
theorem dX3_beyond_6 : decode cX3_beyond 6 = .ok (.iload_n 0, 1) := zd_at zo_cX3_beyond_0 4 rfl
theorem dX3_beyond_7 : decode cX3_beyond 7 = .ok (.isub, 1) := zd_at zo_cX3_beyond_0 5 rfl
theorem dX3_beyond_8 : decode cX3_beyond 8 = .ok (.goto 15, 3) := zd_at zo_cX3_beyond_0 6 rfl
theorem dX3_beyond_11 : decode cX3_beyond 11 = .ok (.iload_n 0, 1) := zd_at zo_cX3_beyond_0 7 rfl
theorem dX3_beyond_12 : decode cX3_beyond 12 = .ok (.iload_n 2, 1) := zd_at zo_cX3_beyond_0 8 rfl
theorem dX3_beyond_13 : decode cX3_beyond 13 = .ok (.if_icmp .le 9, 3) := zd_at zo_cX3_beyond_0 9 rfl
theorem dX3_beyond_16 : decode cX3_beyond 16 = .ok (.iload_n 0, 1) := zd_at zo_cX3_beyond_0 10 rfl
theorem dX3_beyond_17 : decode cX3_beyond 17 = .ok (.iload_n 2, 1) := zd_at zo_cX3_beyond_0 11 rfl
theorem dX3_beyond_18 : decode cX3_beyond 18 = .ok (.isub, 1) := zd_at zo_cX3_beyond_0 12 rfl
theorem dX3_beyond_19 : decode cX3_beyond 19 = .ok (.goto 4, 3) := zd_at zo_cX3_beyond_0 13 rfl
theorem dX3_beyond_22 : decode cX3_beyond 22 = .ok (.iconst 0, 1) := zd_at zo_cX3_beyond_0 14 rfl
theorem dX3_beyond_23 : decode cX3_beyond 23 = .ok (.ireturn, 1) := zd_at zo_cX3_beyond_0 15 rfl
def zl_cX3_distance_0 : List (Nat × Instr × Nat) := [(0, .iload_n 2, 1), (1, .aload_n 0, 1), (2, .iconst 5, 1), (3, .iload_n 1, 1), (4, .imul, 1), (5, .iconst 1, 1), (6, .iadd, 1), (7, .iaload, 1), (8, .aload_n 0, 1), (9, .iconst 5, 1), (10, .iload_n 1, 1), (11, .imul, 1), (12, .iconst 3, 1), (13, .iadd, 1), (14, .iaload, 1), (15, .invokestatic 263, 3), (18, .istore 4, 2), (20, .iload_n 3, 1), (21, .aload_n 0, 1), (22, .iconst 5, 1), (23, .iload_n 1, 1), (24, .imul, 1), (25, .iconst 2, 1), (26, .iadd, 1), (27, .iaload, 1), (28, .aload_n 0, 1), (29, .iconst 5, 1), (30, .iload_n 1, 1), (31, .imul, 1), (32, .iconst 4, 1), (33, .iadd, 1), (34, .iaload, 1), (35, .invokestatic 263, 3), (38, .istore 5, 2), (40, .iload 4, 2), (42, .iload 4, 2), (44, .imul, 1), (45, .iload 5, 2), (47, .iload 5, 2), (49, .imul, 1), (50, .iadd, 1), (51, .ireturn, 1)]
theorem zo_cX3_distance_0 : zd_ok cX3_distance zl_cX3_distance_0 = true := by decide +kernel
theorem dX3_distance_0 : decode cX3_distance 0 = .ok (.iload_n 2, 1) := zd_at zo_cX3_distance_0 0 rfl
theorem dX3_distance_1 : decode cX3_distance 1 = .ok (.aload_n 0, 1) := zd_at zo_cX3_distance_0 1 rfl
theorem dX3_distance_2 : decode cX3_distance 2 = .ok (.iconst 5, 1) := zd_at zo_cX3_distance_0 2 rfl
theorem dX3_distance_3 : decode cX3_distance 3 = .ok (.iload_n 1, 1) := zd_at zo_cX3_distance_0 3 rfl
theorem dX3_distance_4 : decode cX3_distance 4 = .ok (.imul, 1) := zd_at zo_cX3_distance_0 4 rfl
theorem dX3_distance_5 : decode cX3_distance 5 = .ok (.iconst 1, 1) := zd_at zo_cX3_distance_0 5 rfl
theorem dX3_distance_6 : decode cX3_distance 6 = .ok (.iadd, 1) := zd_at zo_cX3_distance_0 6 rfl
theorem dX3_distance_7 : decode cX3_distance 7 = .ok (.iaload, 1) := zd_at zo_cX3_distance_0 7 rfl
theorem dX3_distance_8 : decode cX3_distance 8 = .ok (.aload_n 0, 1) := zd_at zo_cX3_distance_0 8 rfl
theorem dX3_distance_9 : decode cX3_distance 9 = .ok (.iconst 5, 1) := zd_at zo_cX3_distance_0 9 rfl
theorem dX3_distance_10 : decode cX3_distance 10 = .ok (.iload_n 1, 1) := zd_at zo_cX3_distance_0 10 rfl
theorem dX3_distance_11 : decode cX3_distance 11 = .ok (.imul, 1) := zd_at zo_cX3_distance_0 11 rfl
theorem dX3_distance_12 : decode cX3_distance 12 = .ok (.iconst 3, 1) := zd_at zo_cX3_distance_0 12 rfl
theorem dX3_distance_13 : decode cX3_distance 13 = .ok (.iadd, 1) := zd_at zo_cX3_distance_0 13 rfl
theorem dX3_distance_14 : decode cX3_distance 14 = .ok (.iaload, 1) := zd_at zo_cX3_distance_0 14 rfl
theorem dX3_distance_15 : decode cX3_distance 15 = .ok (.invokestatic 263, 3) := zd_at zo_cX3_distance_0 15 rfl
theorem dX3_distance_18 : decode cX3_distance 18 = .ok (.istore 4, 2) := zd_at zo_cX3_distance_0 16 rfl
theorem dX3_distance_20 : decode cX3_distance 20 = .ok (.iload_n 3, 1) := zd_at zo_cX3_distance_0 17 rfl
theorem dX3_distance_21 : decode cX3_distance 21 = .ok (.aload_n 0, 1) := zd_at zo_cX3_distance_0 18 rfl
theorem dX3_distance_22 : decode cX3_distance 22 = .ok (.iconst 5, 1) := zd_at zo_cX3_distance_0 19 rfl
theorem dX3_distance_23 : decode cX3_distance 23 = .ok (.iload_n 1, 1) := zd_at zo_cX3_distance_0 20 rfl
theorem dX3_distance_24 : decode cX3_distance 24 = .ok (.imul, 1) := zd_at zo_cX3_distance_0 21 rfl
theorem dX3_distance_25 : decode cX3_distance 25 = .ok (.iconst 2, 1) := zd_at zo_cX3_distance_0 22 rfl
theorem dX3_distance_26 : decode cX3_distance 26 = .ok (.iadd, 1) := zd_at zo_cX3_distance_0 23 rfl
theorem dX3_distance_27 : decode cX3_distance 27 = .ok (.iaload, 1) := zd_at zo_cX3_distance_0 24 rfl
theorem dX3_distance_28 : decode cX3_distance 28 = .ok (.aload_n 0, 1) := zd_at zo_cX3_distance_0 25 rfl
theorem dX3_distance_29 : decode cX3_distance 29 = .ok (.iconst 5, 1) := zd_at zo_cX3_distance_0 26 rfl
theorem dX3_distance_30 : decode cX3_distance 30 = .ok (.iload_n 1, 1) := zd_at zo_cX3_distance_0 27 rfl
theorem dX3_distance_31 : decode cX3_distance 31 = .ok (.imul, 1) := zd_at zo_cX3_distance_0 28 rfl
theorem dX3_distance_32 : decode cX3_distance 32 = .ok (.iconst 4, 1) := zd_at zo_cX3_distance_0 29 rfl
theorem dX3_distance_33 : decode cX3_distance 33 = .ok (.iadd, 1) := zd_at zo_cX3_distance_0 30 rfl
theorem dX3_distance_34 : decode cX3_distance 34 = .ok (.iaload, 1) := zd_at zo_cX3_distance_0 31 rfl
theorem dX3_distance_35 : decode cX3_distance 35 = .ok (.invokestatic 263, 3) := zd_at zo_cX3_distance_0 32 rfl
theorem dX3_distance_38 : decode cX3_distance 38 = .ok (.istore 5, 2) := zd_at zo_cX3_distance_0 33 rfl
theorem dX3_distance_40 : decode cX3_distance 40 = .ok (.iload 4, 2) := zd_at zo_cX3_distance_0 34 rfl
theorem dX3_distance_42 : decode cX3_distance 42 = .ok (.iload 4, 2) := zd_at zo_cX3_distance_0 35 rfl
theorem dX3_distance_44 : decode cX3_distance 44 = .ok (.imul, 1) := zd_at zo_cX3_distance_0 36 rfl
theorem dX3_distance_45 : decode cX3_distance 45 = .ok (.iload 5, 2) := zd_at zo_cX3_distance_0 37 rfl
theorem dX3_distance_47 : decode cX3_distance 47 = .ok (.iload 5, 2) := zd_at zo_cX3_distance_0 38 rfl
theorem dX3_distance_49 : decode cX3_distance 49 = .ok (.imul, 1) := zd_at zo_cX3_distance_0 39 rfl
theorem dX3_distance_50 : decode cX3_distance 50 = .ok (.iadd, 1) := zd_at zo_cX3_distance_0 40 rfl
theorem dX3_distance_51 : decode cX3_distance 51 = .ok (.ireturn, 1) := zd_at zo_cX3_distance_0 41 rfl
def zl_cX3_nearestOn_0 : List (Nat × Instr × Nat) := [(0, .iconst 0, 1), (1, .istore 4, 2), (3, .iload 4, 2), (5, .bipush 24, 2), (7, .if_icmp .ge 106, 3), (10, .aload_n 0, 1), (11, .iload 4, 2), (13, .iload_n 1, 1), (14, .iload_n 2, 1), (15, .invokestatic 267, 3), (18, .istore 5, 2), (20, .iconst 0, 1), (21, .istore 6, 2), (23, .iconst 0, 1), (24, .istore 7, 2), (26, .iload 7, 2), (28, .bipush 24, 2), (30, .if_icmp .ge 59, 3), (33, .aload_n 0, 1), (34, .iload 7, 2), (36, .iload_n 1, 1), (37, .iload_n 2, 1), (38, .invokestatic 267, 3), (41, .istore 8, 2), (43, .iload 6, 2), (45, .aload_n 0, 1), (46, .iload 7, 2), (48, .invokestatic 165, 3), (51, .ifCond .eq 28, 3), (54, .iload 8, 2), (56, .iload 5, 2), (58, .if_icmp .lt 17, 3), (61, .iload 8, 2), (63, .iload 5, 2), (65, .if_icmp .ne 14, 3), (68, .iload 7, 2), (70, .iload 4, 2), (72, .if_icmp .ge 7, 3), (75, .iconst 1, 1), (76, .goto 4, 3), (79, .iconst 0, 1), (80, .iadd, 1), (81, .istore 6, 2), (83, .iinc 7 1, 3), (86, .goto (-60), 3), (89, .aload_n 0, 1), (90, .iload 4, 2), (92, .invokestatic 165, 3), (95, .ifCond .eq 12, 3), (98, .iload 6, 2), (100, .iload_n 3, 1), (101, .if_icmp .ne 6, 3), (104, .iload 4, 2), (106, .ireturn, 1), (107, .iinc 4 1, 3), (110, .goto (-107), 3), (113, .iconst (-1), 1), (114, .ireturn, 1)]
theorem zo_cX3_nearestOn_0 : zd_ok cX3_nearestOn zl_cX3_nearestOn_0 = true := by decide +kernel
theorem dX3_nearestOn_0 : decode cX3_nearestOn 0 = .ok (.iconst 0, 1) := zd_at zo_cX3_nearestOn_0 0 rfl
theorem dX3_nearestOn_1 : decode cX3_nearestOn 1 = .ok (.istore 4, 2) := zd_at zo_cX3_nearestOn_0 1 rfl
theorem dX3_nearestOn_3 : decode cX3_nearestOn 3 = .ok (.iload 4, 2) := zd_at zo_cX3_nearestOn_0 2 rfl
theorem dX3_nearestOn_5 : decode cX3_nearestOn 5 = .ok (.bipush 24, 2) := zd_at zo_cX3_nearestOn_0 3 rfl
theorem dX3_nearestOn_7 : decode cX3_nearestOn 7 = .ok (.if_icmp .ge 106, 3) := zd_at zo_cX3_nearestOn_0 4 rfl
theorem dX3_nearestOn_10 : decode cX3_nearestOn 10 = .ok (.aload_n 0, 1) := zd_at zo_cX3_nearestOn_0 5 rfl
theorem dX3_nearestOn_11 : decode cX3_nearestOn 11 = .ok (.iload 4, 2) := zd_at zo_cX3_nearestOn_0 6 rfl
theorem dX3_nearestOn_13 : decode cX3_nearestOn 13 = .ok (.iload_n 1, 1) := zd_at zo_cX3_nearestOn_0 7 rfl
theorem dX3_nearestOn_14 : decode cX3_nearestOn 14 = .ok (.iload_n 2, 1) := zd_at zo_cX3_nearestOn_0 8 rfl
theorem dX3_nearestOn_15 : decode cX3_nearestOn 15 = .ok (.invokestatic 267, 3) := zd_at zo_cX3_nearestOn_0 9 rfl
theorem dX3_nearestOn_18 : decode cX3_nearestOn 18 = .ok (.istore 5, 2) := zd_at zo_cX3_nearestOn_0 10 rfl
theorem dX3_nearestOn_20 : decode cX3_nearestOn 20 = .ok (.iconst 0, 1) := zd_at zo_cX3_nearestOn_0 11 rfl
theorem dX3_nearestOn_21 : decode cX3_nearestOn 21 = .ok (.istore 6, 2) := zd_at zo_cX3_nearestOn_0 12 rfl
theorem dX3_nearestOn_23 : decode cX3_nearestOn 23 = .ok (.iconst 0, 1) := zd_at zo_cX3_nearestOn_0 13 rfl
theorem dX3_nearestOn_24 : decode cX3_nearestOn 24 = .ok (.istore 7, 2) := zd_at zo_cX3_nearestOn_0 14 rfl
theorem dX3_nearestOn_26 : decode cX3_nearestOn 26 = .ok (.iload 7, 2) := zd_at zo_cX3_nearestOn_0 15 rfl
theorem dX3_nearestOn_28 : decode cX3_nearestOn 28 = .ok (.bipush 24, 2) := zd_at zo_cX3_nearestOn_0 16 rfl
theorem dX3_nearestOn_30 : decode cX3_nearestOn 30 = .ok (.if_icmp .ge 59, 3) := zd_at zo_cX3_nearestOn_0 17 rfl
theorem dX3_nearestOn_33 : decode cX3_nearestOn 33 = .ok (.aload_n 0, 1) := zd_at zo_cX3_nearestOn_0 18 rfl
theorem dX3_nearestOn_34 : decode cX3_nearestOn 34 = .ok (.iload 7, 2) := zd_at zo_cX3_nearestOn_0 19 rfl
theorem dX3_nearestOn_36 : decode cX3_nearestOn 36 = .ok (.iload_n 1, 1) := zd_at zo_cX3_nearestOn_0 20 rfl
theorem dX3_nearestOn_37 : decode cX3_nearestOn 37 = .ok (.iload_n 2, 1) := zd_at zo_cX3_nearestOn_0 21 rfl
theorem dX3_nearestOn_38 : decode cX3_nearestOn 38 = .ok (.invokestatic 267, 3) := zd_at zo_cX3_nearestOn_0 22 rfl
theorem dX3_nearestOn_41 : decode cX3_nearestOn 41 = .ok (.istore 8, 2) := zd_at zo_cX3_nearestOn_0 23 rfl
theorem dX3_nearestOn_43 : decode cX3_nearestOn 43 = .ok (.iload 6, 2) := zd_at zo_cX3_nearestOn_0 24 rfl
theorem dX3_nearestOn_45 : decode cX3_nearestOn 45 = .ok (.aload_n 0, 1) := zd_at zo_cX3_nearestOn_0 25 rfl
theorem dX3_nearestOn_46 : decode cX3_nearestOn 46 = .ok (.iload 7, 2) := zd_at zo_cX3_nearestOn_0 26 rfl
theorem dX3_nearestOn_48 : decode cX3_nearestOn 48 = .ok (.invokestatic 165, 3) := zd_at zo_cX3_nearestOn_0 27 rfl
theorem dX3_nearestOn_51 : decode cX3_nearestOn 51 = .ok (.ifCond .eq 28, 3) := zd_at zo_cX3_nearestOn_0 28 rfl
theorem dX3_nearestOn_54 : decode cX3_nearestOn 54 = .ok (.iload 8, 2) := zd_at zo_cX3_nearestOn_0 29 rfl
theorem dX3_nearestOn_56 : decode cX3_nearestOn 56 = .ok (.iload 5, 2) := zd_at zo_cX3_nearestOn_0 30 rfl
theorem dX3_nearestOn_58 : decode cX3_nearestOn 58 = .ok (.if_icmp .lt 17, 3) := zd_at zo_cX3_nearestOn_0 31 rfl
theorem dX3_nearestOn_61 : decode cX3_nearestOn 61 = .ok (.iload 8, 2) := zd_at zo_cX3_nearestOn_0 32 rfl
theorem dX3_nearestOn_63 : decode cX3_nearestOn 63 = .ok (.iload 5, 2) := zd_at zo_cX3_nearestOn_0 33 rfl
theorem dX3_nearestOn_65 : decode cX3_nearestOn 65 = .ok (.if_icmp .ne 14, 3) := zd_at zo_cX3_nearestOn_0 34 rfl
theorem dX3_nearestOn_68 : decode cX3_nearestOn 68 = .ok (.iload 7, 2) := zd_at zo_cX3_nearestOn_0 35 rfl
theorem dX3_nearestOn_70 : decode cX3_nearestOn 70 = .ok (.iload 4, 2) := zd_at zo_cX3_nearestOn_0 36 rfl
theorem dX3_nearestOn_72 : decode cX3_nearestOn 72 = .ok (.if_icmp .ge 7, 3) := zd_at zo_cX3_nearestOn_0 37 rfl
theorem dX3_nearestOn_75 : decode cX3_nearestOn 75 = .ok (.iconst 1, 1) := zd_at zo_cX3_nearestOn_0 38 rfl
theorem dX3_nearestOn_76 : decode cX3_nearestOn 76 = .ok (.goto 4, 3) := zd_at zo_cX3_nearestOn_0 39 rfl
theorem dX3_nearestOn_79 : decode cX3_nearestOn 79 = .ok (.iconst 0, 1) := zd_at zo_cX3_nearestOn_0 40 rfl
theorem dX3_nearestOn_80 : decode cX3_nearestOn 80 = .ok (.iadd, 1) := zd_at zo_cX3_nearestOn_0 41 rfl
theorem dX3_nearestOn_81 : decode cX3_nearestOn 81 = .ok (.istore 6, 2) := zd_at zo_cX3_nearestOn_0 42 rfl
theorem dX3_nearestOn_83 : decode cX3_nearestOn 83 = .ok (.iinc 7 1, 3) := zd_at zo_cX3_nearestOn_0 43 rfl
theorem dX3_nearestOn_86 : decode cX3_nearestOn 86 = .ok (.goto (-60), 3) := zd_at zo_cX3_nearestOn_0 44 rfl
theorem dX3_nearestOn_89 : decode cX3_nearestOn 89 = .ok (.aload_n 0, 1) := zd_at zo_cX3_nearestOn_0 45 rfl
theorem dX3_nearestOn_90 : decode cX3_nearestOn 90 = .ok (.iload 4, 2) := zd_at zo_cX3_nearestOn_0 46 rfl
theorem dX3_nearestOn_92 : decode cX3_nearestOn 92 = .ok (.invokestatic 165, 3) := zd_at zo_cX3_nearestOn_0 47 rfl
theorem dX3_nearestOn_95 : decode cX3_nearestOn 95 = .ok (.ifCond .eq 12, 3) := zd_at zo_cX3_nearestOn_0 48 rfl
theorem dX3_nearestOn_98 : decode cX3_nearestOn 98 = .ok (.iload 6, 2) := zd_at zo_cX3_nearestOn_0 49 rfl
theorem dX3_nearestOn_100 : decode cX3_nearestOn 100 = .ok (.iload_n 3, 1) := zd_at zo_cX3_nearestOn_0 50 rfl
theorem dX3_nearestOn_101 : decode cX3_nearestOn 101 = .ok (.if_icmp .ne 6, 3) := zd_at zo_cX3_nearestOn_0 51 rfl
theorem dX3_nearestOn_104 : decode cX3_nearestOn 104 = .ok (.iload 4, 2) := zd_at zo_cX3_nearestOn_0 52 rfl
theorem dX3_nearestOn_106 : decode cX3_nearestOn 106 = .ok (.ireturn, 1) := zd_at zo_cX3_nearestOn_0 53 rfl
theorem dX3_nearestOn_107 : decode cX3_nearestOn 107 = .ok (.iinc 4 1, 3) := zd_at zo_cX3_nearestOn_0 54 rfl
theorem dX3_nearestOn_110 : decode cX3_nearestOn 110 = .ok (.goto (-107), 3) := zd_at zo_cX3_nearestOn_0 55 rfl
theorem dX3_nearestOn_113 : decode cX3_nearestOn 113 = .ok (.iconst (-1), 1) := zd_at zo_cX3_nearestOn_0 56 rfl
theorem dX3_nearestOn_114 : decode cX3_nearestOn 114 = .ok (.ireturn, 1) := zd_at zo_cX3_nearestOn_0 57 rfl
def zl_cX3_isCell_0 : List (Nat × Instr × Nat) := [(0, .iload_n 0, 1), (1, .i2l, 1), (2, .lconst 0, 1), (3, .ldc2_w 171, 3), (6, .invokestatic 61, 3), (9, .ifCond .eq 19, 3), (12, .iload_n 1, 1), (13, .i2l, 1), (14, .lconst 0, 1), (15, .ldc2_w 171, 3), (18, .invokestatic 61, 3), (21, .ifCond .eq 7, 3), (24, .iconst 1, 1), (25, .goto 4, 3), (28, .iconst 0, 1), (29, .ireturn, 1)]
theorem zo_cX3_isCell_0 : zd_ok cX3_isCell zl_cX3_isCell_0 = true := by decide +kernel
theorem dX3_isCell_0 : decode cX3_isCell 0 = .ok (.iload_n 0, 1) := zd_at zo_cX3_isCell_0 0 rfl
theorem dX3_isCell_1 : decode cX3_isCell 1 = .ok (.i2l, 1) := zd_at zo_cX3_isCell_0 1 rfl
theorem dX3_isCell_2 : decode cX3_isCell 2 = .ok (.lconst 0, 1) := zd_at zo_cX3_isCell_0 2 rfl
theorem dX3_isCell_3 : decode cX3_isCell 3 = .ok (.ldc2_w 171, 3) := zd_at zo_cX3_isCell_0 3 rfl
theorem dX3_isCell_6 : decode cX3_isCell 6 = .ok (.invokestatic 61, 3) := zd_at zo_cX3_isCell_0 4 rfl
theorem dX3_isCell_9 : decode cX3_isCell 9 = .ok (.ifCond .eq 19, 3) := zd_at zo_cX3_isCell_0 5 rfl
theorem dX3_isCell_12 : decode cX3_isCell 12 = .ok (.iload_n 1, 1) := zd_at zo_cX3_isCell_0 6 rfl
theorem dX3_isCell_13 : decode cX3_isCell 13 = .ok (.i2l, 1) := zd_at zo_cX3_isCell_0 7 rfl
theorem dX3_isCell_14 : decode cX3_isCell 14 = .ok (.lconst 0, 1) := zd_at zo_cX3_isCell_0 8 rfl
theorem dX3_isCell_15 : decode cX3_isCell 15 = .ok (.ldc2_w 171, 3) := zd_at zo_cX3_isCell_0 9 rfl
theorem dX3_isCell_18 : decode cX3_isCell 18 = .ok (.invokestatic 61, 3) := zd_at zo_cX3_isCell_0 10 rfl
theorem dX3_isCell_21 : decode cX3_isCell 21 = .ok (.ifCond .eq 7, 3) := zd_at zo_cX3_isCell_0 11 rfl
theorem dX3_isCell_24 : decode cX3_isCell 24 = .ok (.iconst 1, 1) := zd_at zo_cX3_isCell_0 12 rfl
theorem dX3_isCell_25 : decode cX3_isCell 25 = .ok (.goto 4, 3) := zd_at zo_cX3_isCell_0 13 rfl
theorem dX3_isCell_28 : decode cX3_isCell 28 = .ok (.iconst 0, 1) := zd_at zo_cX3_isCell_0 14 rfl
theorem dX3_isCell_29 : decode cX3_isCell 29 = .ok (.ireturn, 1) := zd_at zo_cX3_isCell_0 15 rfl
def zl_cX3_nearest_0 : List (Nat × Instr × Nat) := [(0, .aload_n 0, 1), (1, .iload_n 1, 1), (2, .iload_n 2, 1), (3, .invokestatic 270, 3), (6, .ifCond .eq 11, 3), (9, .iload_n 3, 1), (10, .ifCond .lt 7, 3), (13, .iconst 0, 1), (14, .goto 4, 3), (17, .iconst 1, 1), (18, .invokevirtual 181, 3), (21, .ifCond .eq 5, 3), (24, .iconst 0, 1), (25, .ireturn, 1), (26, .aload_n 0, 1), (27, .getfield 13, 3), (30, .iload_n 1, 1), (31, .iload_n 2, 1), (32, .iload_n 3, 1), (33, .invokestatic 274, 3), (36, .ireturn, 1)]
theorem zo_cX3_nearest_0 : zd_ok cX3_nearest zl_cX3_nearest_0 = true := by decide +kernel
theorem dX3_nearest_0 : decode cX3_nearest 0 = .ok (.aload_n 0, 1) := zd_at zo_cX3_nearest_0 0 rfl
theorem dX3_nearest_1 : decode cX3_nearest 1 = .ok (.iload_n 1, 1) := zd_at zo_cX3_nearest_0 1 rfl
theorem dX3_nearest_2 : decode cX3_nearest 2 = .ok (.iload_n 2, 1) := zd_at zo_cX3_nearest_0 2 rfl
theorem dX3_nearest_3 : decode cX3_nearest 3 = .ok (.invokestatic 270, 3) := zd_at zo_cX3_nearest_0 3 rfl
theorem dX3_nearest_6 : decode cX3_nearest 6 = .ok (.ifCond .eq 11, 3) := zd_at zo_cX3_nearest_0 4 rfl
theorem dX3_nearest_9 : decode cX3_nearest 9 = .ok (.iload_n 3, 1) := zd_at zo_cX3_nearest_0 5 rfl
theorem dX3_nearest_10 : decode cX3_nearest 10 = .ok (.ifCond .lt 7, 3) := zd_at zo_cX3_nearest_0 6 rfl
theorem dX3_nearest_13 : decode cX3_nearest 13 = .ok (.iconst 0, 1) := zd_at zo_cX3_nearest_0 7 rfl
theorem dX3_nearest_14 : decode cX3_nearest 14 = .ok (.goto 4, 3) := zd_at zo_cX3_nearest_0 8 rfl
theorem dX3_nearest_17 : decode cX3_nearest 17 = .ok (.iconst 1, 1) := zd_at zo_cX3_nearest_0 9 rfl
theorem dX3_nearest_18 : decode cX3_nearest 18 = .ok (.invokevirtual 181, 3) := zd_at zo_cX3_nearest_0 10 rfl
theorem dX3_nearest_21 : decode cX3_nearest 21 = .ok (.ifCond .eq 5, 3) := zd_at zo_cX3_nearest_0 11 rfl
theorem dX3_nearest_24 : decode cX3_nearest 24 = .ok (.iconst 0, 1) := zd_at zo_cX3_nearest_0 12 rfl
theorem dX3_nearest_25 : decode cX3_nearest 25 = .ok (.ireturn, 1) := zd_at zo_cX3_nearest_0 13 rfl
theorem dX3_nearest_26 : decode cX3_nearest 26 = .ok (.aload_n 0, 1) := zd_at zo_cX3_nearest_0 14 rfl
theorem dX3_nearest_27 : decode cX3_nearest 27 = .ok (.getfield 13, 3) := zd_at zo_cX3_nearest_0 15 rfl
theorem dX3_nearest_30 : decode cX3_nearest 30 = .ok (.iload_n 1, 1) := zd_at zo_cX3_nearest_0 16 rfl
theorem dX3_nearest_31 : decode cX3_nearest 31 = .ok (.iload_n 2, 1) := zd_at zo_cX3_nearest_0 17 rfl
theorem dX3_nearest_32 : decode cX3_nearest 32 = .ok (.iload_n 3, 1) := zd_at zo_cX3_nearest_0 18 rfl
theorem dX3_nearest_33 : decode cX3_nearest 33 = .ok (.invokestatic 274, 3) := zd_at zo_cX3_nearest_0 19 rfl
theorem dX3_nearest_36 : decode cX3_nearest 36 = .ok (.ireturn, 1) := zd_at zo_cX3_nearest_0 20 rfl
def zl_cX3_chosen_0 : List (Nat × Instr × Nat) := [(0, .aload_n 0, 1), (1, .iload_n 1, 1), (2, .iload_n 2, 1), (3, .iload_n 3, 1), (4, .iload 4, 2), (6, .invokestatic 242, 3), (9, .ifCond .eq 7, 3), (12, .iconst 0, 1), (13, .goto 4, 3), (16, .iconst 1, 1), (17, .invokevirtual 181, 3), (20, .ifCond .eq 5, 3), (23, .iconst 0, 1), (24, .ireturn, 1), (25, .aload_n 0, 1), (26, .aload_n 0, 1), (27, .getfield 13, 3), (30, .invokevirtual 130, 3), (33, .bipush 55, 2), (35, .istore 5, 2), (37, .aload_n 0, 1), (38, .getfield 29, 3), (41, .iconst 4, 1), (42, .iload 5, 2), (44, .imul, 1), (45, .iload_n 1, 1), (46, .iastore, 1), (47, .aload_n 0, 1), (48, .getfield 29, 3), (51, .iconst 4, 1), (52, .iload 5, 2), (54, .imul, 1), (55, .iconst 1, 1), (56, .iadd, 1), (57, .iload_n 2, 1), (58, .iastore, 1), (59, .aload_n 0, 1), (60, .getfield 29, 3), (63, .iconst 4, 1), (64, .iload 5, 2), (66, .imul, 1), (67, .iconst 2, 1), (68, .iadd, 1), (69, .iload_n 3, 1), (70, .iastore, 1), (71, .aload_n 0, 1), (72, .getfield 29, 3), (75, .iconst 4, 1), (76, .iload 5, 2), (78, .imul, 1), (79, .iconst 3, 1), (80, .iadd, 1), (81, .iload 4, 2), (83, .iastore, 1), (84, .aload_n 0, 1), (85, .aload_n 0, 1), (86, .getfield 13, 3), (89, .iload 5, 2), (91, .iconst 0, 1), (92, .invokevirtual 142, 3), (95, .istore 6, 2), (97, .aload_n 0, 1), (98, .aload_n 0, 1), (99, .getfield 13, 3), (102, .invokevirtual 230, 3), (105, .pop, 1), (106, .aload_n 0, 1), (107, .getfield 38, 3), (110, .iload 6, 2), (112, .iaload, 1), (113, .ireturn, 1)]
theorem zo_cX3_chosen_0 : zd_ok cX3_chosen zl_cX3_chosen_0 = true := by decide +kernel
theorem dX3_chosen_0 : decode cX3_chosen 0 = .ok (.aload_n 0, 1) := zd_at zo_cX3_chosen_0 0 rfl
theorem dX3_chosen_1 : decode cX3_chosen 1 = .ok (.iload_n 1, 1) := zd_at zo_cX3_chosen_0 1 rfl
theorem dX3_chosen_2 : decode cX3_chosen 2 = .ok (.iload_n 2, 1) := zd_at zo_cX3_chosen_0 2 rfl
theorem dX3_chosen_3 : decode cX3_chosen 3 = .ok (.iload_n 3, 1) := zd_at zo_cX3_chosen_0 3 rfl
theorem dX3_chosen_4 : decode cX3_chosen 4 = .ok (.iload 4, 2) := zd_at zo_cX3_chosen_0 4 rfl
theorem dX3_chosen_6 : decode cX3_chosen 6 = .ok (.invokestatic 242, 3) := zd_at zo_cX3_chosen_0 5 rfl
theorem dX3_chosen_9 : decode cX3_chosen 9 = .ok (.ifCond .eq 7, 3) := zd_at zo_cX3_chosen_0 6 rfl
theorem dX3_chosen_12 : decode cX3_chosen 12 = .ok (.iconst 0, 1) := zd_at zo_cX3_chosen_0 7 rfl
theorem dX3_chosen_13 : decode cX3_chosen 13 = .ok (.goto 4, 3) := zd_at zo_cX3_chosen_0 8 rfl
theorem dX3_chosen_16 : decode cX3_chosen 16 = .ok (.iconst 1, 1) := zd_at zo_cX3_chosen_0 9 rfl
theorem dX3_chosen_17 : decode cX3_chosen 17 = .ok (.invokevirtual 181, 3) := zd_at zo_cX3_chosen_0 10 rfl
theorem dX3_chosen_20 : decode cX3_chosen 20 = .ok (.ifCond .eq 5, 3) := zd_at zo_cX3_chosen_0 11 rfl
theorem dX3_chosen_23 : decode cX3_chosen 23 = .ok (.iconst 0, 1) := zd_at zo_cX3_chosen_0 12 rfl
theorem dX3_chosen_24 : decode cX3_chosen 24 = .ok (.ireturn, 1) := zd_at zo_cX3_chosen_0 13 rfl
theorem dX3_chosen_25 : decode cX3_chosen 25 = .ok (.aload_n 0, 1) := zd_at zo_cX3_chosen_0 14 rfl
theorem dX3_chosen_26 : decode cX3_chosen 26 = .ok (.aload_n 0, 1) := zd_at zo_cX3_chosen_0 15 rfl
theorem dX3_chosen_27 : decode cX3_chosen 27 = .ok (.getfield 13, 3) := zd_at zo_cX3_chosen_0 16 rfl
theorem dX3_chosen_30 : decode cX3_chosen 30 = .ok (.invokevirtual 130, 3) := zd_at zo_cX3_chosen_0 17 rfl
theorem dX3_chosen_33 : decode cX3_chosen 33 = .ok (.bipush 55, 2) := zd_at zo_cX3_chosen_0 18 rfl
theorem dX3_chosen_35 : decode cX3_chosen 35 = .ok (.istore 5, 2) := zd_at zo_cX3_chosen_0 19 rfl
theorem dX3_chosen_37 : decode cX3_chosen 37 = .ok (.aload_n 0, 1) := zd_at zo_cX3_chosen_0 20 rfl
theorem dX3_chosen_38 : decode cX3_chosen 38 = .ok (.getfield 29, 3) := zd_at zo_cX3_chosen_0 21 rfl
theorem dX3_chosen_41 : decode cX3_chosen 41 = .ok (.iconst 4, 1) := zd_at zo_cX3_chosen_0 22 rfl
theorem dX3_chosen_42 : decode cX3_chosen 42 = .ok (.iload 5, 2) := zd_at zo_cX3_chosen_0 23 rfl
theorem dX3_chosen_44 : decode cX3_chosen 44 = .ok (.imul, 1) := zd_at zo_cX3_chosen_0 24 rfl
theorem dX3_chosen_45 : decode cX3_chosen 45 = .ok (.iload_n 1, 1) := zd_at zo_cX3_chosen_0 25 rfl
theorem dX3_chosen_46 : decode cX3_chosen 46 = .ok (.iastore, 1) := zd_at zo_cX3_chosen_0 26 rfl
theorem dX3_chosen_47 : decode cX3_chosen 47 = .ok (.aload_n 0, 1) := zd_at zo_cX3_chosen_0 27 rfl
theorem dX3_chosen_48 : decode cX3_chosen 48 = .ok (.getfield 29, 3) := zd_at zo_cX3_chosen_0 28 rfl
theorem dX3_chosen_51 : decode cX3_chosen 51 = .ok (.iconst 4, 1) := zd_at zo_cX3_chosen_0 29 rfl
theorem dX3_chosen_52 : decode cX3_chosen 52 = .ok (.iload 5, 2) := zd_at zo_cX3_chosen_0 30 rfl
theorem dX3_chosen_54 : decode cX3_chosen 54 = .ok (.imul, 1) := zd_at zo_cX3_chosen_0 31 rfl
theorem dX3_chosen_55 : decode cX3_chosen 55 = .ok (.iconst 1, 1) := zd_at zo_cX3_chosen_0 32 rfl
theorem dX3_chosen_56 : decode cX3_chosen 56 = .ok (.iadd, 1) := zd_at zo_cX3_chosen_0 33 rfl
theorem dX3_chosen_57 : decode cX3_chosen 57 = .ok (.iload_n 2, 1) := zd_at zo_cX3_chosen_0 34 rfl
theorem dX3_chosen_58 : decode cX3_chosen 58 = .ok (.iastore, 1) := zd_at zo_cX3_chosen_0 35 rfl
theorem dX3_chosen_59 : decode cX3_chosen 59 = .ok (.aload_n 0, 1) := zd_at zo_cX3_chosen_0 36 rfl
theorem dX3_chosen_60 : decode cX3_chosen 60 = .ok (.getfield 29, 3) := zd_at zo_cX3_chosen_0 37 rfl
theorem dX3_chosen_63 : decode cX3_chosen 63 = .ok (.iconst 4, 1) := zd_at zo_cX3_chosen_0 38 rfl
theorem dX3_chosen_64 : decode cX3_chosen 64 = .ok (.iload 5, 2) := zd_at zo_cX3_chosen_0 39 rfl
theorem dX3_chosen_66 : decode cX3_chosen 66 = .ok (.imul, 1) := zd_at zo_cX3_chosen_0 40 rfl
theorem dX3_chosen_67 : decode cX3_chosen 67 = .ok (.iconst 2, 1) := zd_at zo_cX3_chosen_0 41 rfl
theorem dX3_chosen_68 : decode cX3_chosen 68 = .ok (.iadd, 1) := zd_at zo_cX3_chosen_0 42 rfl
theorem dX3_chosen_69 : decode cX3_chosen 69 = .ok (.iload_n 3, 1) := zd_at zo_cX3_chosen_0 43 rfl
theorem dX3_chosen_70 : decode cX3_chosen 70 = .ok (.iastore, 1) := zd_at zo_cX3_chosen_0 44 rfl
theorem dX3_chosen_71 : decode cX3_chosen 71 = .ok (.aload_n 0, 1) := zd_at zo_cX3_chosen_0 45 rfl
theorem dX3_chosen_72 : decode cX3_chosen 72 = .ok (.getfield 29, 3) := zd_at zo_cX3_chosen_0 46 rfl
theorem dX3_chosen_75 : decode cX3_chosen 75 = .ok (.iconst 4, 1) := zd_at zo_cX3_chosen_0 47 rfl
theorem dX3_chosen_76 : decode cX3_chosen 76 = .ok (.iload 5, 2) := zd_at zo_cX3_chosen_0 48 rfl
theorem dX3_chosen_78 : decode cX3_chosen 78 = .ok (.imul, 1) := zd_at zo_cX3_chosen_0 49 rfl
theorem dX3_chosen_79 : decode cX3_chosen 79 = .ok (.iconst 3, 1) := zd_at zo_cX3_chosen_0 50 rfl
theorem dX3_chosen_80 : decode cX3_chosen 80 = .ok (.iadd, 1) := zd_at zo_cX3_chosen_0 51 rfl
theorem dX3_chosen_81 : decode cX3_chosen 81 = .ok (.iload 4, 2) := zd_at zo_cX3_chosen_0 52 rfl
theorem dX3_chosen_83 : decode cX3_chosen 83 = .ok (.iastore, 1) := zd_at zo_cX3_chosen_0 53 rfl
theorem dX3_chosen_84 : decode cX3_chosen 84 = .ok (.aload_n 0, 1) := zd_at zo_cX3_chosen_0 54 rfl
theorem dX3_chosen_85 : decode cX3_chosen 85 = .ok (.aload_n 0, 1) := zd_at zo_cX3_chosen_0 55 rfl
theorem dX3_chosen_86 : decode cX3_chosen 86 = .ok (.getfield 13, 3) := zd_at zo_cX3_chosen_0 56 rfl
theorem dX3_chosen_89 : decode cX3_chosen 89 = .ok (.iload 5, 2) := zd_at zo_cX3_chosen_0 57 rfl
theorem dX3_chosen_91 : decode cX3_chosen 91 = .ok (.iconst 0, 1) := zd_at zo_cX3_chosen_0 58 rfl
theorem dX3_chosen_92 : decode cX3_chosen 92 = .ok (.invokevirtual 142, 3) := zd_at zo_cX3_chosen_0 59 rfl
theorem dX3_chosen_95 : decode cX3_chosen 95 = .ok (.istore 6, 2) := zd_at zo_cX3_chosen_0 60 rfl
theorem dX3_chosen_97 : decode cX3_chosen 97 = .ok (.aload_n 0, 1) := zd_at zo_cX3_chosen_0 61 rfl
theorem dX3_chosen_98 : decode cX3_chosen 98 = .ok (.aload_n 0, 1) := zd_at zo_cX3_chosen_0 62 rfl
theorem dX3_chosen_99 : decode cX3_chosen 99 = .ok (.getfield 13, 3) := zd_at zo_cX3_chosen_0 63 rfl
theorem dX3_chosen_102 : decode cX3_chosen 102 = .ok (.invokevirtual 230, 3) := zd_at zo_cX3_chosen_0 64 rfl
theorem dX3_chosen_105 : decode cX3_chosen 105 = .ok (.pop, 1) := zd_at zo_cX3_chosen_0 65 rfl
theorem dX3_chosen_106 : decode cX3_chosen 106 = .ok (.aload_n 0, 1) := zd_at zo_cX3_chosen_0 66 rfl
theorem dX3_chosen_107 : decode cX3_chosen 107 = .ok (.getfield 38, 3) := zd_at zo_cX3_chosen_0 67 rfl
theorem dX3_chosen_110 : decode cX3_chosen 110 = .ok (.iload 6, 2) := zd_at zo_cX3_chosen_0 68 rfl
theorem dX3_chosen_112 : decode cX3_chosen 112 = .ok (.iaload, 1) := zd_at zo_cX3_chosen_0 69 rfl
theorem dX3_chosen_113 : decode cX3_chosen 113 = .ok (.ireturn, 1) := zd_at zo_cX3_chosen_0 70 rfl
def zl_cX3_ifAdded_0 : List (Nat × Instr × Nat) := [(0, .aload_n 0, 1), (1, .iload_n 1, 1), (2, .iload_n 2, 1), (3, .iload_n 3, 1), (4, .iload 4, 2), (6, .invokestatic 242, 3), (9, .ifCond .eq 7, 3), (12, .iconst 0, 1), (13, .goto 4, 3), (16, .iconst 1, 1), (17, .invokevirtual 181, 3), (20, .ifCond .eq 5, 3), (23, .iconst 0, 1), (24, .ireturn, 1), (25, .aload_n 0, 1), (26, .getfield 13, 3), (29, .invokestatic 219, 3), (32, .bipush 24, 2), (34, .if_icmp .ne 7, 3), (37, .ldc_w 277, 3), (40, .ireturn, 1), (41, .aload_n 0, 1), (42, .aload_n 0, 1), (43, .getfield 13, 3), (46, .invokevirtual 222, 3), (49, .istore 5, 2), (51, .aload_n 0, 1), (52, .getfield 13, 3), (55, .iconst 0, 1), (56, .aload_n 0, 1), (57, .getfield 16, 3), (60, .iconst 0, 1), (61, .invokestatic 238, 3), (64, .aload_n 0, 1), (65, .iconst 0, 1), (66, .putfield 104, 3), (69, .aload_n 0, 1), (70, .aload_n 0, 1), (71, .getfield 16, 3), (74, .iload_n 1, 1), (75, .iload_n 2, 1), (76, .iload_n 3, 1), (77, .iload 4, 2), (79, .invokevirtual 205, 3), (82, .pop, 1), (83, .aload_n 0, 1), (84, .aload_n 0, 1), (85, .getfield 16, 3), (88, .invokevirtual 222, 3), (91, .iload 5, 2), (93, .isub, 1), (94, .ireturn, 1)]
theorem zo_cX3_ifAdded_0 : zd_ok cX3_ifAdded zl_cX3_ifAdded_0 = true := by decide +kernel
theorem dX3_ifAdded_0 : decode cX3_ifAdded 0 = .ok (.aload_n 0, 1) := zd_at zo_cX3_ifAdded_0 0 rfl
theorem dX3_ifAdded_1 : decode cX3_ifAdded 1 = .ok (.iload_n 1, 1) := zd_at zo_cX3_ifAdded_0 1 rfl
theorem dX3_ifAdded_2 : decode cX3_ifAdded 2 = .ok (.iload_n 2, 1) := zd_at zo_cX3_ifAdded_0 2 rfl
theorem dX3_ifAdded_3 : decode cX3_ifAdded 3 = .ok (.iload_n 3, 1) := zd_at zo_cX3_ifAdded_0 3 rfl
theorem dX3_ifAdded_4 : decode cX3_ifAdded 4 = .ok (.iload 4, 2) := zd_at zo_cX3_ifAdded_0 4 rfl
theorem dX3_ifAdded_6 : decode cX3_ifAdded 6 = .ok (.invokestatic 242, 3) := zd_at zo_cX3_ifAdded_0 5 rfl
theorem dX3_ifAdded_9 : decode cX3_ifAdded 9 = .ok (.ifCond .eq 7, 3) := zd_at zo_cX3_ifAdded_0 6 rfl
theorem dX3_ifAdded_12 : decode cX3_ifAdded 12 = .ok (.iconst 0, 1) := zd_at zo_cX3_ifAdded_0 7 rfl
theorem dX3_ifAdded_13 : decode cX3_ifAdded 13 = .ok (.goto 4, 3) := zd_at zo_cX3_ifAdded_0 8 rfl
theorem dX3_ifAdded_16 : decode cX3_ifAdded 16 = .ok (.iconst 1, 1) := zd_at zo_cX3_ifAdded_0 9 rfl
theorem dX3_ifAdded_17 : decode cX3_ifAdded 17 = .ok (.invokevirtual 181, 3) := zd_at zo_cX3_ifAdded_0 10 rfl
theorem dX3_ifAdded_20 : decode cX3_ifAdded 20 = .ok (.ifCond .eq 5, 3) := zd_at zo_cX3_ifAdded_0 11 rfl
theorem dX3_ifAdded_23 : decode cX3_ifAdded 23 = .ok (.iconst 0, 1) := zd_at zo_cX3_ifAdded_0 12 rfl
theorem dX3_ifAdded_24 : decode cX3_ifAdded 24 = .ok (.ireturn, 1) := zd_at zo_cX3_ifAdded_0 13 rfl
theorem dX3_ifAdded_25 : decode cX3_ifAdded 25 = .ok (.aload_n 0, 1) := zd_at zo_cX3_ifAdded_0 14 rfl
theorem dX3_ifAdded_26 : decode cX3_ifAdded 26 = .ok (.getfield 13, 3) := zd_at zo_cX3_ifAdded_0 15 rfl
theorem dX3_ifAdded_29 : decode cX3_ifAdded 29 = .ok (.invokestatic 219, 3) := zd_at zo_cX3_ifAdded_0 16 rfl
theorem dX3_ifAdded_32 : decode cX3_ifAdded 32 = .ok (.bipush 24, 2) := zd_at zo_cX3_ifAdded_0 17 rfl
theorem dX3_ifAdded_34 : decode cX3_ifAdded 34 = .ok (.if_icmp .ne 7, 3) := zd_at zo_cX3_ifAdded_0 18 rfl
theorem dX3_ifAdded_37 : decode cX3_ifAdded 37 = .ok (.ldc_w 277, 3) := zd_at zo_cX3_ifAdded_0 19 rfl
theorem dX3_ifAdded_40 : decode cX3_ifAdded 40 = .ok (.ireturn, 1) := zd_at zo_cX3_ifAdded_0 20 rfl
theorem dX3_ifAdded_41 : decode cX3_ifAdded 41 = .ok (.aload_n 0, 1) := zd_at zo_cX3_ifAdded_0 21 rfl
theorem dX3_ifAdded_42 : decode cX3_ifAdded 42 = .ok (.aload_n 0, 1) := zd_at zo_cX3_ifAdded_0 22 rfl
theorem dX3_ifAdded_43 : decode cX3_ifAdded 43 = .ok (.getfield 13, 3) := zd_at zo_cX3_ifAdded_0 23 rfl
theorem dX3_ifAdded_46 : decode cX3_ifAdded 46 = .ok (.invokevirtual 222, 3) := zd_at zo_cX3_ifAdded_0 24 rfl
theorem dX3_ifAdded_49 : decode cX3_ifAdded 49 = .ok (.istore 5, 2) := zd_at zo_cX3_ifAdded_0 25 rfl
theorem dX3_ifAdded_51 : decode cX3_ifAdded 51 = .ok (.aload_n 0, 1) := zd_at zo_cX3_ifAdded_0 26 rfl
theorem dX3_ifAdded_52 : decode cX3_ifAdded 52 = .ok (.getfield 13, 3) := zd_at zo_cX3_ifAdded_0 27 rfl
theorem dX3_ifAdded_55 : decode cX3_ifAdded 55 = .ok (.iconst 0, 1) := zd_at zo_cX3_ifAdded_0 28 rfl
theorem dX3_ifAdded_56 : decode cX3_ifAdded 56 = .ok (.aload_n 0, 1) := zd_at zo_cX3_ifAdded_0 29 rfl
theorem dX3_ifAdded_57 : decode cX3_ifAdded 57 = .ok (.getfield 16, 3) := zd_at zo_cX3_ifAdded_0 30 rfl
theorem dX3_ifAdded_60 : decode cX3_ifAdded 60 = .ok (.iconst 0, 1) := zd_at zo_cX3_ifAdded_0 31 rfl
theorem dX3_ifAdded_61 : decode cX3_ifAdded 61 = .ok (.invokestatic 238, 3) := zd_at zo_cX3_ifAdded_0 32 rfl
theorem dX3_ifAdded_64 : decode cX3_ifAdded 64 = .ok (.aload_n 0, 1) := zd_at zo_cX3_ifAdded_0 33 rfl
theorem dX3_ifAdded_65 : decode cX3_ifAdded 65 = .ok (.iconst 0, 1) := zd_at zo_cX3_ifAdded_0 34 rfl
theorem dX3_ifAdded_66 : decode cX3_ifAdded 66 = .ok (.putfield 104, 3) := zd_at zo_cX3_ifAdded_0 35 rfl
theorem dX3_ifAdded_69 : decode cX3_ifAdded 69 = .ok (.aload_n 0, 1) := zd_at zo_cX3_ifAdded_0 36 rfl
theorem dX3_ifAdded_70 : decode cX3_ifAdded 70 = .ok (.aload_n 0, 1) := zd_at zo_cX3_ifAdded_0 37 rfl
theorem dX3_ifAdded_71 : decode cX3_ifAdded 71 = .ok (.getfield 16, 3) := zd_at zo_cX3_ifAdded_0 38 rfl
theorem dX3_ifAdded_74 : decode cX3_ifAdded 74 = .ok (.iload_n 1, 1) := zd_at zo_cX3_ifAdded_0 39 rfl
theorem dX3_ifAdded_75 : decode cX3_ifAdded 75 = .ok (.iload_n 2, 1) := zd_at zo_cX3_ifAdded_0 40 rfl
theorem dX3_ifAdded_76 : decode cX3_ifAdded 76 = .ok (.iload_n 3, 1) := zd_at zo_cX3_ifAdded_0 41 rfl
theorem dX3_ifAdded_77 : decode cX3_ifAdded 77 = .ok (.iload 4, 2) := zd_at zo_cX3_ifAdded_0 42 rfl
theorem dX3_ifAdded_79 : decode cX3_ifAdded 79 = .ok (.invokevirtual 205, 3) := zd_at zo_cX3_ifAdded_0 43 rfl
theorem dX3_ifAdded_82 : decode cX3_ifAdded 82 = .ok (.pop, 1) := zd_at zo_cX3_ifAdded_0 44 rfl
theorem dX3_ifAdded_83 : decode cX3_ifAdded 83 = .ok (.aload_n 0, 1) := zd_at zo_cX3_ifAdded_0 45 rfl
theorem dX3_ifAdded_84 : decode cX3_ifAdded 84 = .ok (.aload_n 0, 1) := zd_at zo_cX3_ifAdded_0 46 rfl
theorem dX3_ifAdded_85 : decode cX3_ifAdded 85 = .ok (.getfield 16, 3) := zd_at zo_cX3_ifAdded_0 47 rfl
theorem dX3_ifAdded_88 : decode cX3_ifAdded 88 = .ok (.invokevirtual 222, 3) := zd_at zo_cX3_ifAdded_0 48 rfl
theorem dX3_ifAdded_91 : decode cX3_ifAdded 91 = .ok (.iload 5, 2) := zd_at zo_cX3_ifAdded_0 49 rfl
theorem dX3_ifAdded_93 : decode cX3_ifAdded 93 = .ok (.isub, 1) := zd_at zo_cX3_ifAdded_0 50 rfl
theorem dX3_ifAdded_94 : decode cX3_ifAdded 94 = .ok (.ireturn, 1) := zd_at zo_cX3_ifAdded_0 51 rfl
def zl_cX3_bestRemoval_0 : List (Nat × Instr × Nat) := [(0, .aload_n 0, 1), (1, .iconst 0, 1), (2, .putfield 51, 3), (5, .iconst (-1), 1), (6, .istore_n 1, 1), (7, .iconst 0, 1), (8, .istore_n 2, 1), (9, .iconst 0, 1), (10, .istore_n 3, 1), (11, .iload_n 3, 1), (12, .bipush 24, 2), (14, .if_icmp .ge 94, 3), (17, .aload_n 0, 1), (18, .getfield 13, 3), (21, .iload_n 3, 1), (22, .invokestatic 165, 3), (25, .ifCond .eq 77, 3), (28, .aload_n 0, 1), (29, .getfield 13, 3), (32, .iconst 0, 1), (33, .aload_n 0, 1), (34, .getfield 16, 3), (37, .iconst 0, 1), (38, .invokestatic 238, 3), (41, .aload_n 0, 1), (42, .aload_n 0, 1), (43, .getfield 16, 3), (46, .iload_n 3, 1), (47, .invokevirtual 249, 3), (50, .pop, 1), (51, .aload_n 0, 1), (52, .aload_n 0, 1), (53, .getfield 16, 3), (56, .invokevirtual 222, 3), (59, .istore 4, 2), (61, .iload_n 1, 1), (62, .iconst (-1), 1), (63, .if_icmp .eq 9, 3), (66, .iload 4, 2), (68, .iload_n 2, 1), (69, .if_icmp .ge 7, 3), (72, .iconst 1, 1), (73, .goto 4, 3), (76, .iconst 0, 1), (77, .istore 5, 2), (79, .iload 5, 2), (81, .ifCond .eq 7, 3), (84, .iload_n 3, 1), (85, .goto 4, 3), (88, .iload_n 1, 1), (89, .istore_n 1, 1), (90, .iload 5, 2), (92, .ifCond .eq 8, 3), (95, .iload 4, 2), (97, .goto 4, 3), (100, .iload_n 2, 1), (101, .istore_n 2, 1), (102, .iinc 3 1, 3), (105, .goto (-94), 3), (108, .iload_n 1, 1), (109, .ireturn, 1)]
theorem zo_cX3_bestRemoval_0 : zd_ok cX3_bestRemoval zl_cX3_bestRemoval_0 = true := by decide +kernel
theorem dX3_bestRemoval_0 : decode cX3_bestRemoval 0 = .ok (.aload_n 0, 1) := zd_at zo_cX3_bestRemoval_0 0 rfl
theorem dX3_bestRemoval_1 : decode cX3_bestRemoval 1 = .ok (.iconst 0, 1) := zd_at zo_cX3_bestRemoval_0 1 rfl
theorem dX3_bestRemoval_2 : decode cX3_bestRemoval 2 = .ok (.putfield 51, 3) := zd_at zo_cX3_bestRemoval_0 2 rfl
theorem dX3_bestRemoval_5 : decode cX3_bestRemoval 5 = .ok (.iconst (-1), 1) := zd_at zo_cX3_bestRemoval_0 3 rfl
theorem dX3_bestRemoval_6 : decode cX3_bestRemoval 6 = .ok (.istore_n 1, 1) := zd_at zo_cX3_bestRemoval_0 4 rfl
theorem dX3_bestRemoval_7 : decode cX3_bestRemoval 7 = .ok (.iconst 0, 1) := zd_at zo_cX3_bestRemoval_0 5 rfl
theorem dX3_bestRemoval_8 : decode cX3_bestRemoval 8 = .ok (.istore_n 2, 1) := zd_at zo_cX3_bestRemoval_0 6 rfl
theorem dX3_bestRemoval_9 : decode cX3_bestRemoval 9 = .ok (.iconst 0, 1) := zd_at zo_cX3_bestRemoval_0 7 rfl
theorem dX3_bestRemoval_10 : decode cX3_bestRemoval 10 = .ok (.istore_n 3, 1) := zd_at zo_cX3_bestRemoval_0 8 rfl
theorem dX3_bestRemoval_11 : decode cX3_bestRemoval 11 = .ok (.iload_n 3, 1) := zd_at zo_cX3_bestRemoval_0 9 rfl
theorem dX3_bestRemoval_12 : decode cX3_bestRemoval 12 = .ok (.bipush 24, 2) := zd_at zo_cX3_bestRemoval_0 10 rfl
theorem dX3_bestRemoval_14 : decode cX3_bestRemoval 14 = .ok (.if_icmp .ge 94, 3) := zd_at zo_cX3_bestRemoval_0 11 rfl
theorem dX3_bestRemoval_17 : decode cX3_bestRemoval 17 = .ok (.aload_n 0, 1) := zd_at zo_cX3_bestRemoval_0 12 rfl
theorem dX3_bestRemoval_18 : decode cX3_bestRemoval 18 = .ok (.getfield 13, 3) := zd_at zo_cX3_bestRemoval_0 13 rfl
theorem dX3_bestRemoval_21 : decode cX3_bestRemoval 21 = .ok (.iload_n 3, 1) := zd_at zo_cX3_bestRemoval_0 14 rfl
theorem dX3_bestRemoval_22 : decode cX3_bestRemoval 22 = .ok (.invokestatic 165, 3) := zd_at zo_cX3_bestRemoval_0 15 rfl
theorem dX3_bestRemoval_25 : decode cX3_bestRemoval 25 = .ok (.ifCond .eq 77, 3) := zd_at zo_cX3_bestRemoval_0 16 rfl
theorem dX3_bestRemoval_28 : decode cX3_bestRemoval 28 = .ok (.aload_n 0, 1) := zd_at zo_cX3_bestRemoval_0 17 rfl
theorem dX3_bestRemoval_29 : decode cX3_bestRemoval 29 = .ok (.getfield 13, 3) := zd_at zo_cX3_bestRemoval_0 18 rfl
theorem dX3_bestRemoval_32 : decode cX3_bestRemoval 32 = .ok (.iconst 0, 1) := zd_at zo_cX3_bestRemoval_0 19 rfl
theorem dX3_bestRemoval_33 : decode cX3_bestRemoval 33 = .ok (.aload_n 0, 1) := zd_at zo_cX3_bestRemoval_0 20 rfl
theorem dX3_bestRemoval_34 : decode cX3_bestRemoval 34 = .ok (.getfield 16, 3) := zd_at zo_cX3_bestRemoval_0 21 rfl
theorem dX3_bestRemoval_37 : decode cX3_bestRemoval 37 = .ok (.iconst 0, 1) := zd_at zo_cX3_bestRemoval_0 22 rfl
theorem dX3_bestRemoval_38 : decode cX3_bestRemoval 38 = .ok (.invokestatic 238, 3) := zd_at zo_cX3_bestRemoval_0 23 rfl
theorem dX3_bestRemoval_41 : decode cX3_bestRemoval 41 = .ok (.aload_n 0, 1) := zd_at zo_cX3_bestRemoval_0 24 rfl
theorem dX3_bestRemoval_42 : decode cX3_bestRemoval 42 = .ok (.aload_n 0, 1) := zd_at zo_cX3_bestRemoval_0 25 rfl
theorem dX3_bestRemoval_43 : decode cX3_bestRemoval 43 = .ok (.getfield 16, 3) := zd_at zo_cX3_bestRemoval_0 26 rfl
theorem dX3_bestRemoval_46 : decode cX3_bestRemoval 46 = .ok (.iload_n 3, 1) := zd_at zo_cX3_bestRemoval_0 27 rfl
theorem dX3_bestRemoval_47 : decode cX3_bestRemoval 47 = .ok (.invokevirtual 249, 3) := zd_at zo_cX3_bestRemoval_0 28 rfl
theorem dX3_bestRemoval_50 : decode cX3_bestRemoval 50 = .ok (.pop, 1) := zd_at zo_cX3_bestRemoval_0 29 rfl
theorem dX3_bestRemoval_51 : decode cX3_bestRemoval 51 = .ok (.aload_n 0, 1) := zd_at zo_cX3_bestRemoval_0 30 rfl
theorem dX3_bestRemoval_52 : decode cX3_bestRemoval 52 = .ok (.aload_n 0, 1) := zd_at zo_cX3_bestRemoval_0 31 rfl
theorem dX3_bestRemoval_53 : decode cX3_bestRemoval 53 = .ok (.getfield 16, 3) := zd_at zo_cX3_bestRemoval_0 32 rfl
theorem dX3_bestRemoval_56 : decode cX3_bestRemoval 56 = .ok (.invokevirtual 222, 3) := zd_at zo_cX3_bestRemoval_0 33 rfl
theorem dX3_bestRemoval_59 : decode cX3_bestRemoval 59 = .ok (.istore 4, 2) := zd_at zo_cX3_bestRemoval_0 34 rfl
theorem dX3_bestRemoval_61 : decode cX3_bestRemoval 61 = .ok (.iload_n 1, 1) := zd_at zo_cX3_bestRemoval_0 35 rfl
theorem dX3_bestRemoval_62 : decode cX3_bestRemoval 62 = .ok (.iconst (-1), 1) := zd_at zo_cX3_bestRemoval_0 36 rfl
theorem dX3_bestRemoval_63 : decode cX3_bestRemoval 63 = .ok (.if_icmp .eq 9, 3) := zd_at zo_cX3_bestRemoval_0 37 rfl
theorem dX3_bestRemoval_66 : decode cX3_bestRemoval 66 = .ok (.iload 4, 2) := zd_at zo_cX3_bestRemoval_0 38 rfl
theorem dX3_bestRemoval_68 : decode cX3_bestRemoval 68 = .ok (.iload_n 2, 1) := zd_at zo_cX3_bestRemoval_0 39 rfl
theorem dX3_bestRemoval_69 : decode cX3_bestRemoval 69 = .ok (.if_icmp .ge 7, 3) := zd_at zo_cX3_bestRemoval_0 40 rfl
theorem dX3_bestRemoval_72 : decode cX3_bestRemoval 72 = .ok (.iconst 1, 1) := zd_at zo_cX3_bestRemoval_0 41 rfl
theorem dX3_bestRemoval_73 : decode cX3_bestRemoval 73 = .ok (.goto 4, 3) := zd_at zo_cX3_bestRemoval_0 42 rfl
theorem dX3_bestRemoval_76 : decode cX3_bestRemoval 76 = .ok (.iconst 0, 1) := zd_at zo_cX3_bestRemoval_0 43 rfl
theorem dX3_bestRemoval_77 : decode cX3_bestRemoval 77 = .ok (.istore 5, 2) := zd_at zo_cX3_bestRemoval_0 44 rfl
theorem dX3_bestRemoval_79 : decode cX3_bestRemoval 79 = .ok (.iload 5, 2) := zd_at zo_cX3_bestRemoval_0 45 rfl
theorem dX3_bestRemoval_81 : decode cX3_bestRemoval 81 = .ok (.ifCond .eq 7, 3) := zd_at zo_cX3_bestRemoval_0 46 rfl
theorem dX3_bestRemoval_84 : decode cX3_bestRemoval 84 = .ok (.iload_n 3, 1) := zd_at zo_cX3_bestRemoval_0 47 rfl
theorem dX3_bestRemoval_85 : decode cX3_bestRemoval 85 = .ok (.goto 4, 3) := zd_at zo_cX3_bestRemoval_0 48 rfl
theorem dX3_bestRemoval_88 : decode cX3_bestRemoval 88 = .ok (.iload_n 1, 1) := zd_at zo_cX3_bestRemoval_0 49 rfl
theorem dX3_bestRemoval_89 : decode cX3_bestRemoval 89 = .ok (.istore_n 1, 1) := zd_at zo_cX3_bestRemoval_0 50 rfl
theorem dX3_bestRemoval_90 : decode cX3_bestRemoval 90 = .ok (.iload 5, 2) := zd_at zo_cX3_bestRemoval_0 51 rfl
theorem dX3_bestRemoval_92 : decode cX3_bestRemoval 92 = .ok (.ifCond .eq 8, 3) := zd_at zo_cX3_bestRemoval_0 52 rfl
theorem dX3_bestRemoval_95 : decode cX3_bestRemoval 95 = .ok (.iload 4, 2) := zd_at zo_cX3_bestRemoval_0 53 rfl
theorem dX3_bestRemoval_97 : decode cX3_bestRemoval 97 = .ok (.goto 4, 3) := zd_at zo_cX3_bestRemoval_0 54 rfl
theorem dX3_bestRemoval_100 : decode cX3_bestRemoval 100 = .ok (.iload_n 2, 1) := zd_at zo_cX3_bestRemoval_0 55 rfl
theorem dX3_bestRemoval_101 : decode cX3_bestRemoval 101 = .ok (.istore_n 2, 1) := zd_at zo_cX3_bestRemoval_0 56 rfl
theorem dX3_bestRemoval_102 : decode cX3_bestRemoval 102 = .ok (.iinc 3 1, 3) := zd_at zo_cX3_bestRemoval_0 57 rfl
theorem dX3_bestRemoval_105 : decode cX3_bestRemoval 105 = .ok (.goto (-94), 3) := zd_at zo_cX3_bestRemoval_0 58 rfl
theorem dX3_bestRemoval_108 : decode cX3_bestRemoval 108 = .ok (.iload_n 1, 1) := zd_at zo_cX3_bestRemoval_0 59 rfl
theorem dX3_bestRemoval_109 : decode cX3_bestRemoval 109 = .ok (.ireturn, 1) := zd_at zo_cX3_bestRemoval_0 60 rfl
def zl_cX3_anew_0 : List (Nat × Instr × Nat) := [(0, .aload_n 0, 1), (1, .iconst 0, 1), (2, .putfield 51, 3), (5, .aload_n 0, 1), (6, .getfield 16, 3), (9, .invokestatic 47, 3), (12, .iconst 0, 1), (13, .istore_n 1, 1), (14, .iload_n 1, 1), (15, .bipush 24, 2), (17, .if_icmp .ge 70, 3), (20, .aload_n 0, 1), (21, .getfield 13, 3), (24, .iload_n 1, 1), (25, .invokestatic 165, 3), (28, .ifCond .eq 53, 3), (31, .aload_n 0, 1), (32, .iconst 0, 1), (33, .putfield 104, 3), (36, .iconst 5, 1), (37, .iload_n 1, 1), (38, .imul, 1), (39, .istore_n 2, 1), (40, .aload_n 0, 1), (41, .aload_n 0, 1), (42, .getfield 16, 3), (45, .aload_n 0, 1), (46, .getfield 13, 3), (49, .iload_n 2, 1), (50, .iconst 1, 1), (51, .iadd, 1), (52, .iaload, 1), (53, .aload_n 0, 1), (54, .getfield 13, 3), (57, .iload_n 2, 1), (58, .iconst 2, 1), (59, .iadd, 1), (60, .iaload, 1), (61, .aload_n 0, 1), (62, .getfield 13, 3), (65, .iload_n 2, 1), (66, .iconst 3, 1), (67, .iadd, 1), (68, .iaload, 1), (69, .aload_n 0, 1), (70, .getfield 13, 3), (73, .iload_n 2, 1), (74, .iconst 4, 1), (75, .iadd, 1), (76, .iaload, 1), (77, .invokevirtual 205, 3), (80, .pop, 1), (81, .iinc 1 1, 3), (84, .goto (-70), 3), (87, .aload_n 0, 1), (88, .aload_n 0, 1), (89, .getfield 16, 3), (92, .invokevirtual 222, 3), (95, .ireturn, 1)]
theorem zo_cX3_anew_0 : zd_ok cX3_anew zl_cX3_anew_0 = true := by decide +kernel
theorem dX3_anew_0 : decode cX3_anew 0 = .ok (.aload_n 0, 1) := zd_at zo_cX3_anew_0 0 rfl
theorem dX3_anew_1 : decode cX3_anew 1 = .ok (.iconst 0, 1) := zd_at zo_cX3_anew_0 1 rfl
theorem dX3_anew_2 : decode cX3_anew 2 = .ok (.putfield 51, 3) := zd_at zo_cX3_anew_0 2 rfl
theorem dX3_anew_5 : decode cX3_anew 5 = .ok (.aload_n 0, 1) := zd_at zo_cX3_anew_0 3 rfl
theorem dX3_anew_6 : decode cX3_anew 6 = .ok (.getfield 16, 3) := zd_at zo_cX3_anew_0 4 rfl
theorem dX3_anew_9 : decode cX3_anew 9 = .ok (.invokestatic 47, 3) := zd_at zo_cX3_anew_0 5 rfl
theorem dX3_anew_12 : decode cX3_anew 12 = .ok (.iconst 0, 1) := zd_at zo_cX3_anew_0 6 rfl
theorem dX3_anew_13 : decode cX3_anew 13 = .ok (.istore_n 1, 1) := zd_at zo_cX3_anew_0 7 rfl
theorem dX3_anew_14 : decode cX3_anew 14 = .ok (.iload_n 1, 1) := zd_at zo_cX3_anew_0 8 rfl
theorem dX3_anew_15 : decode cX3_anew 15 = .ok (.bipush 24, 2) := zd_at zo_cX3_anew_0 9 rfl
theorem dX3_anew_17 : decode cX3_anew 17 = .ok (.if_icmp .ge 70, 3) := zd_at zo_cX3_anew_0 10 rfl
theorem dX3_anew_20 : decode cX3_anew 20 = .ok (.aload_n 0, 1) := zd_at zo_cX3_anew_0 11 rfl
theorem dX3_anew_21 : decode cX3_anew 21 = .ok (.getfield 13, 3) := zd_at zo_cX3_anew_0 12 rfl
theorem dX3_anew_24 : decode cX3_anew 24 = .ok (.iload_n 1, 1) := zd_at zo_cX3_anew_0 13 rfl
theorem dX3_anew_25 : decode cX3_anew 25 = .ok (.invokestatic 165, 3) := zd_at zo_cX3_anew_0 14 rfl
theorem dX3_anew_28 : decode cX3_anew 28 = .ok (.ifCond .eq 53, 3) := zd_at zo_cX3_anew_0 15 rfl
theorem dX3_anew_31 : decode cX3_anew 31 = .ok (.aload_n 0, 1) := zd_at zo_cX3_anew_0 16 rfl
theorem dX3_anew_32 : decode cX3_anew 32 = .ok (.iconst 0, 1) := zd_at zo_cX3_anew_0 17 rfl
theorem dX3_anew_33 : decode cX3_anew 33 = .ok (.putfield 104, 3) := zd_at zo_cX3_anew_0 18 rfl
theorem dX3_anew_36 : decode cX3_anew 36 = .ok (.iconst 5, 1) := zd_at zo_cX3_anew_0 19 rfl
theorem dX3_anew_37 : decode cX3_anew 37 = .ok (.iload_n 1, 1) := zd_at zo_cX3_anew_0 20 rfl
theorem dX3_anew_38 : decode cX3_anew 38 = .ok (.imul, 1) := zd_at zo_cX3_anew_0 21 rfl
theorem dX3_anew_39 : decode cX3_anew 39 = .ok (.istore_n 2, 1) := zd_at zo_cX3_anew_0 22 rfl
theorem dX3_anew_40 : decode cX3_anew 40 = .ok (.aload_n 0, 1) := zd_at zo_cX3_anew_0 23 rfl
theorem dX3_anew_41 : decode cX3_anew 41 = .ok (.aload_n 0, 1) := zd_at zo_cX3_anew_0 24 rfl
theorem dX3_anew_42 : decode cX3_anew 42 = .ok (.getfield 16, 3) := zd_at zo_cX3_anew_0 25 rfl
theorem dX3_anew_45 : decode cX3_anew 45 = .ok (.aload_n 0, 1) := zd_at zo_cX3_anew_0 26 rfl
theorem dX3_anew_46 : decode cX3_anew 46 = .ok (.getfield 13, 3) := zd_at zo_cX3_anew_0 27 rfl
theorem dX3_anew_49 : decode cX3_anew 49 = .ok (.iload_n 2, 1) := zd_at zo_cX3_anew_0 28 rfl
theorem dX3_anew_50 : decode cX3_anew 50 = .ok (.iconst 1, 1) := zd_at zo_cX3_anew_0 29 rfl
theorem dX3_anew_51 : decode cX3_anew 51 = .ok (.iadd, 1) := zd_at zo_cX3_anew_0 30 rfl
theorem dX3_anew_52 : decode cX3_anew 52 = .ok (.iaload, 1) := zd_at zo_cX3_anew_0 31 rfl
theorem dX3_anew_53 : decode cX3_anew 53 = .ok (.aload_n 0, 1) := zd_at zo_cX3_anew_0 32 rfl
theorem dX3_anew_54 : decode cX3_anew 54 = .ok (.getfield 13, 3) := zd_at zo_cX3_anew_0 33 rfl
theorem dX3_anew_57 : decode cX3_anew 57 = .ok (.iload_n 2, 1) := zd_at zo_cX3_anew_0 34 rfl
theorem dX3_anew_58 : decode cX3_anew 58 = .ok (.iconst 2, 1) := zd_at zo_cX3_anew_0 35 rfl
theorem dX3_anew_59 : decode cX3_anew 59 = .ok (.iadd, 1) := zd_at zo_cX3_anew_0 36 rfl
theorem dX3_anew_60 : decode cX3_anew 60 = .ok (.iaload, 1) := zd_at zo_cX3_anew_0 37 rfl
theorem dX3_anew_61 : decode cX3_anew 61 = .ok (.aload_n 0, 1) := zd_at zo_cX3_anew_0 38 rfl
theorem dX3_anew_62 : decode cX3_anew 62 = .ok (.getfield 13, 3) := zd_at zo_cX3_anew_0 39 rfl
theorem dX3_anew_65 : decode cX3_anew 65 = .ok (.iload_n 2, 1) := zd_at zo_cX3_anew_0 40 rfl
theorem dX3_anew_66 : decode cX3_anew 66 = .ok (.iconst 3, 1) := zd_at zo_cX3_anew_0 41 rfl
theorem dX3_anew_67 : decode cX3_anew 67 = .ok (.iadd, 1) := zd_at zo_cX3_anew_0 42 rfl
theorem dX3_anew_68 : decode cX3_anew 68 = .ok (.iaload, 1) := zd_at zo_cX3_anew_0 43 rfl
theorem dX3_anew_69 : decode cX3_anew 69 = .ok (.aload_n 0, 1) := zd_at zo_cX3_anew_0 44 rfl
theorem dX3_anew_70 : decode cX3_anew 70 = .ok (.getfield 13, 3) := zd_at zo_cX3_anew_0 45 rfl
theorem dX3_anew_73 : decode cX3_anew 73 = .ok (.iload_n 2, 1) := zd_at zo_cX3_anew_0 46 rfl
theorem dX3_anew_74 : decode cX3_anew 74 = .ok (.iconst 4, 1) := zd_at zo_cX3_anew_0 47 rfl
theorem dX3_anew_75 : decode cX3_anew 75 = .ok (.iadd, 1) := zd_at zo_cX3_anew_0 48 rfl
theorem dX3_anew_76 : decode cX3_anew 76 = .ok (.iaload, 1) := zd_at zo_cX3_anew_0 49 rfl
theorem dX3_anew_77 : decode cX3_anew 77 = .ok (.invokevirtual 205, 3) := zd_at zo_cX3_anew_0 50 rfl
theorem dX3_anew_80 : decode cX3_anew 80 = .ok (.pop, 1) := zd_at zo_cX3_anew_0 51 rfl
theorem dX3_anew_81 : decode cX3_anew 81 = .ok (.iinc 1 1, 3) := zd_at zo_cX3_anew_0 52 rfl
theorem dX3_anew_84 : decode cX3_anew 84 = .ok (.goto (-70), 3) := zd_at zo_cX3_anew_0 53 rfl
theorem dX3_anew_87 : decode cX3_anew 87 = .ok (.aload_n 0, 1) := zd_at zo_cX3_anew_0 54 rfl
theorem dX3_anew_88 : decode cX3_anew 88 = .ok (.aload_n 0, 1) := zd_at zo_cX3_anew_0 55 rfl
theorem dX3_anew_89 : decode cX3_anew 89 = .ok (.getfield 16, 3) := zd_at zo_cX3_anew_0 56 rfl
theorem dX3_anew_92 : decode cX3_anew 92 = .ok (.invokevirtual 222, 3) := zd_at zo_cX3_anew_0 57 rfl
theorem dX3_anew_95 : decode cX3_anew 95 = .ok (.ireturn, 1) := zd_at zo_cX3_anew_0 58 rfl
def zl_cX3_adds_0 : List (Nat × Instr × Nat) := [(0, .iload_n 1, 1), (1, .iload_n 2, 1), (2, .iload_n 1, 1), (3, .iload_n 3, 1), (4, .iadd, 1), (5, .iload_n 2, 1), (6, .iload 4, 2), (8, .iadd, 1), (9, .invokestatic 242, 3), (12, .ifCond .eq 15, 3), (15, .aload_n 0, 1), (16, .getfield 16, 3), (19, .invokestatic 219, 3), (22, .bipush 24, 2), (24, .if_icmp .ne 5, 3), (27, .iconst 0, 1), (28, .ireturn, 1), (29, .aload_n 0, 1), (30, .iconst 0, 1), (31, .putfield 104, 3), (34, .aload_n 0, 1), (35, .aload_n 0, 1), (36, .getfield 16, 3), (39, .iload_n 1, 1), (40, .iload_n 2, 1), (41, .iload_n 1, 1), (42, .iload_n 3, 1), (43, .iadd, 1), (44, .iload_n 2, 1), (45, .iload 4, 2), (47, .iadd, 1), (48, .invokevirtual 205, 3), (51, .pop, 1), (52, .iconst 1, 1), (53, .ireturn, 1)]
theorem zo_cX3_adds_0 : zd_ok cX3_adds zl_cX3_adds_0 = true := by decide +kernel
theorem dX3_adds_0 : decode cX3_adds 0 = .ok (.iload_n 1, 1) := zd_at zo_cX3_adds_0 0 rfl
theorem dX3_adds_1 : decode cX3_adds 1 = .ok (.iload_n 2, 1) := zd_at zo_cX3_adds_0 1 rfl
theorem dX3_adds_2 : decode cX3_adds 2 = .ok (.iload_n 1, 1) := zd_at zo_cX3_adds_0 2 rfl
theorem dX3_adds_3 : decode cX3_adds 3 = .ok (.iload_n 3, 1) := zd_at zo_cX3_adds_0 3 rfl
theorem dX3_adds_4 : decode cX3_adds 4 = .ok (.iadd, 1) := zd_at zo_cX3_adds_0 4 rfl
theorem dX3_adds_5 : decode cX3_adds 5 = .ok (.iload_n 2, 1) := zd_at zo_cX3_adds_0 5 rfl
theorem dX3_adds_6 : decode cX3_adds 6 = .ok (.iload 4, 2) := zd_at zo_cX3_adds_0 6 rfl
theorem dX3_adds_8 : decode cX3_adds 8 = .ok (.iadd, 1) := zd_at zo_cX3_adds_0 7 rfl
theorem dX3_adds_9 : decode cX3_adds 9 = .ok (.invokestatic 242, 3) := zd_at zo_cX3_adds_0 8 rfl
theorem dX3_adds_12 : decode cX3_adds 12 = .ok (.ifCond .eq 15, 3) := zd_at zo_cX3_adds_0 9 rfl
theorem dX3_adds_15 : decode cX3_adds 15 = .ok (.aload_n 0, 1) := zd_at zo_cX3_adds_0 10 rfl
theorem dX3_adds_16 : decode cX3_adds 16 = .ok (.getfield 16, 3) := zd_at zo_cX3_adds_0 11 rfl
theorem dX3_adds_19 : decode cX3_adds 19 = .ok (.invokestatic 219, 3) := zd_at zo_cX3_adds_0 12 rfl
theorem dX3_adds_22 : decode cX3_adds 22 = .ok (.bipush 24, 2) := zd_at zo_cX3_adds_0 13 rfl
theorem dX3_adds_24 : decode cX3_adds 24 = .ok (.if_icmp .ne 5, 3) := zd_at zo_cX3_adds_0 14 rfl
theorem dX3_adds_27 : decode cX3_adds 27 = .ok (.iconst 0, 1) := zd_at zo_cX3_adds_0 15 rfl
theorem dX3_adds_28 : decode cX3_adds 28 = .ok (.ireturn, 1) := zd_at zo_cX3_adds_0 16 rfl
theorem dX3_adds_29 : decode cX3_adds 29 = .ok (.aload_n 0, 1) := zd_at zo_cX3_adds_0 17 rfl
theorem dX3_adds_30 : decode cX3_adds 30 = .ok (.iconst 0, 1) := zd_at zo_cX3_adds_0 18 rfl
theorem dX3_adds_31 : decode cX3_adds 31 = .ok (.putfield 104, 3) := zd_at zo_cX3_adds_0 19 rfl
theorem dX3_adds_34 : decode cX3_adds 34 = .ok (.aload_n 0, 1) := zd_at zo_cX3_adds_0 20 rfl
theorem dX3_adds_35 : decode cX3_adds 35 = .ok (.aload_n 0, 1) := zd_at zo_cX3_adds_0 21 rfl
theorem dX3_adds_36 : decode cX3_adds 36 = .ok (.getfield 16, 3) := zd_at zo_cX3_adds_0 22 rfl
theorem dX3_adds_39 : decode cX3_adds 39 = .ok (.iload_n 1, 1) := zd_at zo_cX3_adds_0 23 rfl
theorem dX3_adds_40 : decode cX3_adds 40 = .ok (.iload_n 2, 1) := zd_at zo_cX3_adds_0 24 rfl
theorem dX3_adds_41 : decode cX3_adds 41 = .ok (.iload_n 1, 1) := zd_at zo_cX3_adds_0 25 rfl
theorem dX3_adds_42 : decode cX3_adds 42 = .ok (.iload_n 3, 1) := zd_at zo_cX3_adds_0 26 rfl
theorem dX3_adds_43 : decode cX3_adds 43 = .ok (.iadd, 1) := zd_at zo_cX3_adds_0 27 rfl
theorem dX3_adds_44 : decode cX3_adds 44 = .ok (.iload_n 2, 1) := zd_at zo_cX3_adds_0 28 rfl
theorem dX3_adds_45 : decode cX3_adds 45 = .ok (.iload 4, 2) := zd_at zo_cX3_adds_0 29 rfl
theorem dX3_adds_47 : decode cX3_adds 47 = .ok (.iadd, 1) := zd_at zo_cX3_adds_0 30 rfl
theorem dX3_adds_48 : decode cX3_adds 48 = .ok (.invokevirtual 205, 3) := zd_at zo_cX3_adds_0 31 rfl
theorem dX3_adds_51 : decode cX3_adds 51 = .ok (.pop, 1) := zd_at zo_cX3_adds_0 32 rfl
theorem dX3_adds_52 : decode cX3_adds 52 = .ok (.iconst 1, 1) := zd_at zo_cX3_adds_0 33 rfl
theorem dX3_adds_53 : decode cX3_adds 53 = .ok (.ireturn, 1) := zd_at zo_cX3_adds_0 34 rfl
