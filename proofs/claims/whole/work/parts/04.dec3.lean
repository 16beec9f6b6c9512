def zl_cX3_moves_0 : List (Nat × Instr × Nat) := [(0, .aload_n 0, 1), (1, .getfield 16, 3), (4, .iload_n 1, 1), (5, .iload_n 2, 1), (6, .iload_n 3, 1), (7, .invokestatic 252, 3), (10, .ifCond .eq 5, 3), (13, .iconst 0, 1), (14, .ireturn, 1), (15, .aload_n 0, 1), (16, .aload_n 0, 1), (17, .getfield 16, 3), (20, .iload_n 1, 1), (21, .iload_n 2, 1), (22, .iload_n 3, 1), (23, .invokevirtual 256, 3), (26, .iconst 1, 1), (27, .ireturn, 1)]
theorem zo_cX3_moves_0 : zd_ok cX3_moves zl_cX3_moves_0 = true := by decide +kernel
theorem dX3_moves_0 : decode cX3_moves 0 = .ok (.aload_n 0, 1) := zd_at zo_cX3_moves_0 0 rfl
theorem dX3_moves_1 : decode cX3_moves 1 = .ok (.getfield 16, 3) := zd_at zo_cX3_moves_0 1 rfl
theorem dX3_moves_4 : decode cX3_moves 4 = .ok (.iload_n 1, 1) := zd_at zo_cX3_moves_0 2 rfl
theorem dX3_moves_5 : decode cX3_moves 5 = .ok (.iload_n 2, 1) := zd_at zo_cX3_moves_0 3 rfl
theorem dX3_moves_6 : decode cX3_moves 6 = .ok (.iload_n 3, 1) := zd_at zo_cX3_moves_0 4 rfl
theorem dX3_moves_7 : decode cX3_moves 7 = .ok (.invokestatic 252, 3) := zd_at zo_cX3_moves_0 5 rfl
theorem dX3_moves_10 : decode cX3_moves 10 = .ok (.ifCond .eq 5, 3) := zd_at zo_cX3_moves_0 6 rfl
theorem dX3_moves_13 : decode cX3_moves 13 = .ok (.iconst 0, 1) := zd_at zo_cX3_moves_0 7 rfl
theorem dX3_moves_14 : decode cX3_moves 14 = .ok (.ireturn, 1) := zd_at zo_cX3_moves_0 8 rfl
theorem dX3_moves_15 : decode cX3_moves 15 = .ok (.aload_n 0, 1) := zd_at zo_cX3_moves_0 9 rfl
theorem dX3_moves_16 : decode cX3_moves 16 = .ok (.aload_n 0, 1) := zd_at zo_cX3_moves_0 10 rfl
theorem dX3_moves_17 : decode cX3_moves 17 = .ok (.getfield 16, 3) := zd_at zo_cX3_moves_0 11 rfl
theorem dX3_moves_20 : decode cX3_moves 20 = .ok (.iload_n 1, 1) := zd_at zo_cX3_moves_0 12 rfl
theorem dX3_moves_21 : decode cX3_moves 21 = .ok (.iload_n 2, 1) := zd_at zo_cX3_moves_0 13 rfl
theorem dX3_moves_22 : decode cX3_moves 22 = .ok (.iload_n 3, 1) := zd_at zo_cX3_moves_0 14 rfl
theorem dX3_moves_23 : decode cX3_moves 23 = .ok (.invokevirtual 256, 3) := zd_at zo_cX3_moves_0 15 rfl
theorem dX3_moves_26 : decode cX3_moves 26 = .ok (.iconst 1, 1) := zd_at zo_cX3_moves_0 16 rfl
theorem dX3_moves_27 : decode cX3_moves 27 = .ok (.ireturn, 1) := zd_at zo_cX3_moves_0 17 rfl
def zl_cX3_command_0 : List (Nat × Instr × Nat) := [(0, .iload_n 1, 1), (1, .tableswitch 286 1 8 #[47, 58, 97, 119, 143, 170, 211, 249], 47), (48, .aload_n 0, 1), (49, .iload_n 2, 1), (50, .iload_n 3, 1), (51, .iload 4, 2), (53, .iload 5, 2), (55, .invokevirtual 278, 3), (58, .ireturn, 1), (59, .iload_n 3, 1), (60, .iload 4, 2), (62, .iadd, 1), (63, .iload 5, 2), (65, .iadd, 1), (66, .ifCond .ne 30, 3), (69, .aload_n 0, 1), (70, .getfield 16, 3), (73, .iload_n 2, 1), (74, .invokestatic 165, 3), (77, .ifCond .eq 19, 3), (80, .aload_n 0, 1), (81, .aload_n 0, 1), (82, .getfield 16, 3), (85, .iload_n 2, 1), (86, .invokevirtual 249, 3), (89, .ifCond .le 7, 3), (92, .iconst 1, 1), (93, .goto 4, 3), (96, .iconst 0, 1), (97, .ireturn, 1), (98, .iload 5, 2), (100, .ifCond .ne 18, 3), (103, .aload_n 0, 1), (104, .iload_n 2, 1), (105, .iload_n 3, 1), (106, .iload 4, 2), (108, .invokevirtual 281, 3), (111, .ifCond .eq 7, 3), (114, .iconst 1, 1), (115, .goto 4, 3), (118, .iconst 0, 1), (119, .ireturn, 1), (120, .iload 5, 2), (122, .ifCond .ne 20, 3), (125, .aload_n 0, 1), (126, .iload_n 2, 1), (127, .iload_n 3, 1), (128, .ineg, 1), (129, .iload 4, 2), (131, .ineg, 1), (132, .invokevirtual 281, 3), (135, .ifCond .eq 7, 3), (138, .iconst 1, 1), (139, .goto 4, 3), (142, .iconst 0, 1), (143, .ireturn, 1), (144, .iload_n 2, 1), (145, .iload_n 3, 1), (146, .iadd, 1), (147, .iload 4, 2), (149, .iadd, 1), (150, .ifCond .ne 19, 3), (153, .aload_n 0, 1), (154, .getfield 16, 3), (157, .invokestatic 161, 3), (160, .iload 5, 2), (162, .if_icmp .gt 7, 3), (165, .iconst 1, 1), (166, .goto 4, 3), (169, .iconst 0, 1), (170, .ireturn, 1), (171, .iload_n 2, 1), (172, .ifCond .ne 38, 3), (175, .iload_n 3, 1), (176, .bipush 10, 2), (178, .if_icmp .ge 32, 3), (181, .aload_n 0, 1), (182, .aload_n 0, 1), (183, .getfield 16, 3), (186, .invokevirtual 222, 3), (189, .sipush 10000, 3), (192, .iload_n 3, 1), (193, .imul, 1), (194, .bipush 100, 2), (196, .iload 4, 2), (198, .imul, 1), (199, .iadd, 1), (200, .iload 5, 2), (202, .iadd, 1), (203, .if_icmp .gt 7, 3), (206, .iconst 1, 1), (207, .goto 4, 3), (210, .iconst 0, 1), (211, .ireturn, 1), (212, .iload 5, 2), (214, .ifCond .ne 34, 3), (217, .aload_n 0, 1), (218, .getfield 16, 3), (221, .iload 4, 2), (223, .invokestatic 165, 3), (226, .ifCond .eq 22, 3), (229, .aload_n 0, 1), (230, .getfield 16, 3), (233, .iload_n 2, 1), (234, .iload_n 3, 1), (235, .iconst 0, 1), (236, .invokestatic 274, 3), (239, .iload 4, 2), (241, .if_icmp .ne 7, 3), (244, .iconst 1, 1), (245, .goto 4, 3), (248, .iconst 0, 1), (249, .ireturn, 1), (250, .iload 5, 2), (252, .ifCond .ne 33, 3), (255, .aload_n 0, 1), (256, .getfield 16, 3), (259, .iload 4, 2), (261, .invokestatic 165, 3), (264, .ifCond .eq 21, 3)]
theorem zo_cX3_command_0 : zd_ok cX3_command zl_cX3_command_0 = true := by decide +kernel
theorem dX3_command_0 : decode cX3_command 0 = .ok (.iload_n 1, 1) := zd_at zo_cX3_command_0 0 rfl
theorem dX3_command_1 : decode cX3_command 1 = .ok (.tableswitch 286 1 8 #[47, 58, 97, 119, 143, 170, 211, 249], 47) := zd_at zo_cX3_command_0 1 rfl
theorem dX3_command_48 : decode cX3_command 48 = .ok (.aload_n 0, 1) := zd_at zo_cX3_command_0 2 rfl
theorem dX3_command_49 : decode cX3_command 49 = .ok (.iload_n 2, 1) := zd_at zo_cX3_command_0 3 rfl
theorem dX3_command_50 : decode cX3_command 50 = .ok (.iload_n 3, 1) := zd_at zo_cX3_command_0 4 rfl
theorem dX3_command_51 : decode cX3_command 51 = .ok (.iload 4, 2) := zd_at zo_cX3_command_0 5 rfl
theorem dX3_command_53 : decode cX3_command 53 = .ok (.iload 5, 2) := zd_at zo_cX3_command_0 6 rfl
theorem dX3_command_55 : decode cX3_command 55 = .ok (.invokevirtual 278, 3) := zd_at zo_cX3_command_0 7 rfl
theorem dX3_command_58 : decode cX3_command 58 = .ok (.ireturn, 1) := zd_at zo_cX3_command_0 8 rfl
theorem dX3_command_59 : decode cX3_command 59 = .ok (.iload_n 3, 1) := zd_at zo_cX3_command_0 9 rfl
theorem dX3_command_60 : decode cX3_command 60 = .ok (.iload 4, 2) := zd_at zo_cX3_command_0 10 rfl
theorem dX3_command_62 : decode cX3_command 62 = .ok (.iadd, 1) := zd_at zo_cX3_command_0 11 rfl
theorem dX3_command_63 : decode cX3_command 63 = .ok (.iload 5, 2) := zd_at zo_cX3_command_0 12 rfl
theorem dX3_command_65 : decode cX3_command 65 = .ok (.iadd, 1) := zd_at zo_cX3_command_0 13 rfl
theorem dX3_command_66 : decode cX3_command 66 = .ok (.ifCond .ne 30, 3) := zd_at zo_cX3_command_0 14 rfl
theorem dX3_command_69 : decode cX3_command 69 = .ok (.aload_n 0, 1) := zd_at zo_cX3_command_0 15 rfl
theorem dX3_command_70 : decode cX3_command 70 = .ok (.getfield 16, 3) := zd_at zo_cX3_command_0 16 rfl
theorem dX3_command_73 : decode cX3_command 73 = .ok (.iload_n 2, 1) := zd_at zo_cX3_command_0 17 rfl
theorem dX3_command_74 : decode cX3_command 74 = .ok (.invokestatic 165, 3) := zd_at zo_cX3_command_0 18 rfl
theorem dX3_command_77 : decode cX3_command 77 = .ok (.ifCond .eq 19, 3) := zd_at zo_cX3_command_0 19 rfl
theorem dX3_command_80 : decode cX3_command 80 = .ok (.aload_n 0, 1) := zd_at zo_cX3_command_0 20 rfl
theorem dX3_command_81 : decode cX3_command 81 = .ok (.aload_n 0, 1) := zd_at zo_cX3_command_0 21 rfl
theorem dX3_command_82 : decode cX3_command 82 = .ok (.getfield 16, 3) := zd_at zo_cX3_command_0 22 rfl
theorem dX3_command_85 : decode cX3_command 85 = .ok (.iload_n 2, 1) := zd_at zo_cX3_command_0 23 rfl
theorem dX3_command_86 : decode cX3_command 86 = .ok (.invokevirtual 249, 3) := zd_at zo_cX3_command_0 24 rfl
theorem dX3_command_89 : decode cX3_command 89 = .ok (.ifCond .le 7, 3) := zd_at zo_cX3_command_0 25 rfl
theorem dX3_command_92 : decode cX3_command 92 = .ok (.iconst 1, 1) := zd_at zo_cX3_command_0 26 rfl
theorem dX3_command_93 : decode cX3_command 93 = .ok (.goto 4, 3) := zd_at zo_cX3_command_0 27 rfl
theorem dX3_command_96 : decode cX3_command 96 = .ok (.iconst 0, 1) := zd_at zo_cX3_command_0 28 rfl
theorem dX3_command_97 : decode cX3_command 97 = .ok (.ireturn, 1) := zd_at zo_cX3_command_0 29 rfl
theorem dX3_command_98 : decode cX3_command 98 = .ok (.iload 5, 2) := zd_at zo_cX3_command_0 30 rfl
theorem dX3_command_100 : decode cX3_command 100 = .ok (.ifCond .ne 18, 3) := zd_at zo_cX3_command_0 31 rfl
theorem dX3_command_103 : decode cX3_command 103 = .ok (.aload_n 0, 1) := zd_at zo_cX3_command_0 32 rfl
theorem dX3_command_104 : decode cX3_command 104 = .ok (.iload_n 2, 1) := zd_at zo_cX3_command_0 33 rfl
theorem dX3_command_105 : decode cX3_command 105 = .ok (.iload_n 3, 1) := zd_at zo_cX3_command_0 34 rfl
theorem dX3_command_106 : decode cX3_command 106 = .ok (.iload 4, 2) := zd_at zo_cX3_command_0 35 rfl
theorem dX3_command_108 : decode cX3_command 108 = .ok (.invokevirtual 281, 3) := zd_at zo_cX3_command_0 36 rfl
theorem dX3_command_111 : decode cX3_command 111 = .ok (.ifCond .eq 7, 3) := zd_at zo_cX3_command_0 37 rfl
theorem dX3_command_114 : decode cX3_command 114 = .ok (.iconst 1, 1) := zd_at zo_cX3_command_0 38 rfl
theorem dX3_command_115 : decode cX3_command 115 = .ok (.goto 4, 3) := zd_at zo_cX3_command_0 39 rfl
theorem dX3_command_118 : decode cX3_command 118 = .ok (.iconst 0, 1) := zd_at zo_cX3_command_0 40 rfl
theorem dX3_command_119 : decode cX3_command 119 = .ok (.ireturn, 1) := zd_at zo_cX3_command_0 41 rfl
theorem dX3_command_120 : decode cX3_command 120 = .ok (.iload 5, 2) := zd_at zo_cX3_command_0 42 rfl
theorem dX3_command_122 : decode cX3_command 122 = .ok (.ifCond .ne 20, 3) := zd_at zo_cX3_command_0 43 rfl
theorem dX3_command_125 : decode cX3_command 125 = .ok (.aload_n 0, 1) := zd_at zo_cX3_command_0 44 rfl
theorem dX3_command_126 : decode cX3_command 126 = .ok (.iload_n 2, 1) := zd_at zo_cX3_command_0 45 rfl
theorem dX3_command_127 : decode cX3_command 127 = .ok (.iload_n 3, 1) := zd_at zo_cX3_command_0 46 rfl
theorem dX3_command_128 : decode cX3_command 128 = .ok (.ineg, 1) := zd_at zo_cX3_command_0 47 rfl
theorem dX3_command_129 : decode cX3_command 129 = .ok (.iload 4, 2) := zd_at zo_cX3_command_0 48 rfl
theorem dX3_command_131 : decode cX3_command 131 = .ok (.ineg, 1) := zd_at zo_cX3_command_0 49 rfl
theorem dX3_command_132 : decode cX3_command 132 = .ok (.invokevirtual 281, 3) := zd_at zo_cX3_command_0 50 rfl
theorem dX3_command_135 : decode cX3_command 135 = .ok (.ifCond .eq 7, 3) := zd_at zo_cX3_command_0 51 rfl
theorem dX3_command_138 : decode cX3_command 138 = .ok (.iconst 1, 1) := zd_at zo_cX3_command_0 52 rfl
theorem dX3_command_139 : decode cX3_command 139 = .ok (.goto 4, 3) := zd_at zo_cX3_command_0 53 rfl
theorem dX3_command_142 : decode cX3_command 142 = .ok (.iconst 0, 1) := zd_at zo_cX3_command_0 54 rfl
theorem dX3_command_143 : decode cX3_command 143 = .ok (.ireturn, 1) := zd_at zo_cX3_command_0 55 rfl
theorem dX3_command_144 : decode cX3_command 144 = .ok (.iload_n 2, 1) := zd_at zo_cX3_command_0 56 rfl
theorem dX3_command_145 : decode cX3_command 145 = .ok (.iload_n 3, 1) := zd_at zo_cX3_command_0 57 rfl
theorem dX3_command_146 : decode cX3_command 146 = .ok (.iadd, 1) := zd_at zo_cX3_command_0 58 rfl
theorem dX3_command_147 : decode cX3_command 147 = .ok (.iload 4, 2) := zd_at zo_cX3_command_0 59 rfl
theorem dX3_command_149 : decode cX3_command 149 = .ok (.iadd, 1) := zd_at zo_cX3_command_0 60 rfl
theorem dX3_command_150 : decode cX3_command 150 = .ok (.ifCond .ne 19, 3) := zd_at zo_cX3_command_0 61 rfl
theorem dX3_command_153 : decode cX3_command 153 = .ok (.aload_n 0, 1) := zd_at zo_cX3_command_0 62 rfl
theorem dX3_command_154 : decode cX3_command 154 = .ok (.getfield 16, 3) := zd_at zo_cX3_command_0 63 rfl
theorem dX3_command_157 : decode cX3_command 157 = .ok (.invokestatic 161, 3) := zd_at zo_cX3_command_0 64 rfl
theorem dX3_command_160 : decode cX3_command 160 = .ok (.iload 5, 2) := zd_at zo_cX3_command_0 65 rfl
theorem dX3_command_162 : decode cX3_command 162 = .ok (.if_icmp .gt 7, 3) := zd_at zo_cX3_command_0 66 rfl
theorem dX3_command_165 : decode cX3_command 165 = .ok (.iconst 1, 1) := zd_at zo_cX3_command_0 67 rfl
theorem dX3_command_166 : decode cX3_command 166 = .ok (.goto 4, 3) := zd_at zo_cX3_command_0 68 rfl
theorem dX3_command_169 : decode cX3_command 169 = .ok (.iconst 0, 1) := zd_at zo_cX3_command_0 69 rfl
theorem dX3_command_170 : decode cX3_command 170 = .ok (.ireturn, 1) := zd_at zo_cX3_command_0 70 rfl
theorem dX3_command_171 : decode cX3_command 171 = .ok (.iload_n 2, 1) := zd_at zo_cX3_command_0 71 rfl
theorem dX3_command_172 : decode cX3_command 172 = .ok (.ifCond .ne 38, 3) := zd_at zo_cX3_command_0 72 rfl
theorem dX3_command_175 : decode cX3_command 175 = .ok (.iload_n 3, 1) := zd_at zo_cX3_command_0 73 rfl
theorem dX3_command_176 : decode cX3_command 176 = .ok (.bipush 10, 2) := zd_at zo_cX3_command_0 74 rfl
theorem dX3_command_178 : decode cX3_command 178 = .ok (.if_icmp .ge 32, 3) := zd_at zo_cX3_command_0 75 rfl
theorem dX3_command_181 : decode cX3_command 181 = .ok (.aload_n 0, 1) := zd_at zo_cX3_command_0 76 rfl
theorem dX3_command_182 : decode cX3_command 182 = .ok (.aload_n 0, 1) := zd_at zo_cX3_command_0 77 rfl
theorem dX3_command_183 : decode cX3_command 183 = .ok (.getfield 16, 3) := zd_at zo_cX3_command_0 78 rfl
theorem dX3_command_186 : decode cX3_command 186 = .ok (.invokevirtual 222, 3) := zd_at zo_cX3_command_0 79 rfl
theorem dX3_command_189 : decode cX3_command 189 = .ok (.sipush 10000, 3) := zd_at zo_cX3_command_0 80 rfl
theorem dX3_command_192 : decode cX3_command 192 = .ok (.iload_n 3, 1) := zd_at zo_cX3_command_0 81 rfl
theorem dX3_command_193 : decode cX3_command 193 = .ok (.imul, 1) := zd_at zo_cX3_command_0 82 rfl
theorem dX3_command_194 : decode cX3_command 194 = .ok (.bipush 100, 2) := zd_at zo_cX3_command_0 83 rfl
theorem dX3_command_196 : decode cX3_command 196 = .ok (.iload 4, 2) := zd_at zo_cX3_command_0 84 rfl
theorem dX3_command_198 : decode cX3_command 198 = .ok (.imul, 1) := zd_at zo_cX3_command_0 85 rfl
theorem dX3_command_199 : decode cX3_command 199 = .ok (.iadd, 1) := zd_at zo_cX3_command_0 86 rfl
theorem dX3_command_200 : decode cX3_command 200 = .ok (.iload 5, 2) := zd_at zo_cX3_command_0 87 rfl
theorem dX3_command_202 : decode cX3_command 202 = .ok (.iadd, 1) := zd_at zo_cX3_command_0 88 rfl
theorem dX3_command_203 : decode cX3_command 203 = .ok (.if_icmp .gt 7, 3) := zd_at zo_cX3_command_0 89 rfl
theorem dX3_command_206 : decode cX3_command 206 = .ok (.iconst 1, 1) := zd_at zo_cX3_command_0 90 rfl
theorem dX3_command_207 : decode cX3_command 207 = .ok (.goto 4, 3) := zd_at zo_cX3_command_0 91 rfl
theorem dX3_command_210 : decode cX3_command 210 = .ok (.iconst 0, 1) := zd_at zo_cX3_command_0 92 rfl
theorem dX3_command_211 : decode cX3_command 211 = .ok (.ireturn, 1) := zd_at zo_cX3_command_0 93 rfl
theorem dX3_command_212 : decode cX3_command 212 = .ok (.iload 5, 2) := zd_at zo_cX3_command_0 94 rfl
theorem dX3_command_214 : decode cX3_command 214 = .ok (.ifCond .ne 34, 3) := zd_at zo_cX3_command_0 95 rfl
theorem dX3_command_217 : decode cX3_command 217 = .ok (.aload_n 0, 1) := zd_at zo_cX3_command_0 96 rfl
theorem dX3_command_218 : decode cX3_command 218 = .ok (.getfield 16, 3) := zd_at zo_cX3_command_0 97 rfl
theorem dX3_command_221 : decode cX3_command 221 = .ok (.iload 4, 2) := zd_at zo_cX3_command_0 98 rfl
theorem dX3_command_223 : decode cX3_command 223 = .ok (.invokestatic 165, 3) := zd_at zo_cX3_command_0 99 rfl
theorem dX3_command_226 : decode cX3_command 226 = .ok (.ifCond .eq 22, 3) := zd_at zo_cX3_command_0 100 rfl
theorem dX3_command_229 : decode cX3_command 229 = .ok (.aload_n 0, 1) := zd_at zo_cX3_command_0 101 rfl
theorem dX3_command_230 : decode cX3_command 230 = .ok (.getfield 16, 3) := zd_at zo_cX3_command_0 102 rfl
theorem dX3_command_233 : decode cX3_command 233 = .ok (.iload_n 2, 1) := zd_at zo_cX3_command_0 103 rfl
theorem dX3_command_234 : decode cX3_command 234 = .ok (.iload_n 3, 1) := zd_at zo_cX3_command_0 104 rfl
theorem dX3_command_235 : decode cX3_command 235 = .ok (.iconst 0, 1) := zd_at zo_cX3_command_0 105 rfl
theorem dX3_command_236 : decode cX3_command 236 = .ok (.invokestatic 274, 3) := zd_at zo_cX3_command_0 106 rfl
theorem dX3_command_239 : decode cX3_command 239 = .ok (.iload 4, 2) := zd_at zo_cX3_command_0 107 rfl
theorem dX3_command_241 : decode cX3_command 241 = .ok (.if_icmp .ne 7, 3) := zd_at zo_cX3_command_0 108 rfl
theorem dX3_command_244 : decode cX3_command 244 = .ok (.iconst 1, 1) := zd_at zo_cX3_command_0 109 rfl
theorem dX3_command_245 : decode cX3_command 245 = .ok (.goto 4, 3) := zd_at zo_cX3_command_0 110 rfl
theorem dX3_command_248 : decode cX3_command 248 = .ok (.iconst 0, 1) := zd_at zo_cX3_command_0 111 rfl
theorem dX3_command_249 : decode cX3_command 249 = .ok (.ireturn, 1) := zd_at zo_cX3_command_0 112 rfl
theorem dX3_command_250 : decode cX3_command 250 = .ok (.iload 5, 2) := zd_at zo_cX3_command_0 113 rfl
theorem dX3_command_252 : decode cX3_command 252 = .ok (.ifCond .ne 33, 3) := zd_at zo_cX3_command_0 114 rfl
theorem dX3_command_255 : decode cX3_command 255 = .ok (.aload_n 0, 1) := zd_at zo_cX3_command_0 115 rfl
theorem dX3_command_256 : decode cX3_command 256 = .ok (.getfield 16, 3) := zd_at zo_cX3_command_0 116 rfl
theorem dX3_command_259 : decode cX3_command 259 = .ok (.iload 4, 2) := zd_at zo_cX3_command_0 117 rfl
theorem dX3_command_261 : decode cX3_command 261 = .ok (.invokestatic 165, 3) := zd_at zo_cX3_command_0 118 rfl
theorem dX3_command_264 : decode cX3_command 264 = .ok (.ifCond .eq 21, 3) := zd_at zo_cX3_command_0 119 rfl
def zl_cX3_command_120 : List (Nat × Instr × Nat) := [(267, .aload_n 0, 1), (268, .getfield 16, 3), (271, .iload 4, 2), (273, .iload_n 2, 1), (274, .iload_n 3, 1), (275, .invokestatic 267, 3), (278, .ifCond .ne 7, 3), (281, .iconst 1, 1), (282, .goto 4, 3), (285, .iconst 0, 1), (286, .ireturn, 1), (287, .iconst 0, 1), (288, .ireturn, 1)]
theorem zo_cX3_command_120 : zd_ok cX3_command zl_cX3_command_120 = true := by decide +kernel
theorem dX3_command_267 : decode cX3_command 267 = .ok (.aload_n 0, 1) := zd_at zo_cX3_command_120 0 rfl
theorem dX3_command_268 : decode cX3_command 268 = .ok (.getfield 16, 3) := zd_at zo_cX3_command_120 1 rfl
theorem dX3_command_271 : decode cX3_command 271 = .ok (.iload 4, 2) := zd_at zo_cX3_command_120 2 rfl
theorem dX3_command_273 : decode cX3_command 273 = .ok (.iload_n 2, 1) := zd_at zo_cX3_command_120 3 rfl
theorem dX3_command_274 : decode cX3_command 274 = .ok (.iload_n 3, 1) := zd_at zo_cX3_command_120 4 rfl
theorem dX3_command_275 : decode cX3_command 275 = .ok (.invokestatic 267, 3) := zd_at zo_cX3_command_120 5 rfl
theorem dX3_command_278 : decode cX3_command 278 = .ok (.ifCond .ne 7, 3) := zd_at zo_cX3_command_120 6 rfl
theorem dX3_command_281 : decode cX3_command 281 = .ok (.iconst 1, 1) := zd_at zo_cX3_command_120 7 rfl
theorem dX3_command_282 : decode cX3_command 282 = .ok (.goto 4, 3) := zd_at zo_cX3_command_120 8 rfl
theorem dX3_command_285 : decode cX3_command 285 = .ok (.iconst 0, 1) := zd_at zo_cX3_command_120 9 rfl
theorem dX3_command_286 : decode cX3_command 286 = .ok (.ireturn, 1) := zd_at zo_cX3_command_120 10 rfl
theorem dX3_command_287 : decode cX3_command 287 = .ok (.iconst 0, 1) := zd_at zo_cX3_command_120 11 rfl
theorem dX3_command_288 : decode cX3_command 288 = .ok (.ireturn, 1) := zd_at zo_cX3_command_120 12 rfl
def zl_cX3_runScript_0 : List (Nat × Instr × Nat) := [(0, .lconst 1, 1), (1, .lstore 4, 2), (3, .iconst 0, 1), (4, .istore 6, 2), (6, .iload 6, 2), (8, .iload_n 1, 1), (9, .if_icmp .ge 23, 3), (12, .iload 6, 2), (14, .iconst 2, 1), (15, .if_icmp .ge 17, 3), (18, .lload 4, 2), (20, .ldc2_w 285, 3), (23, .lmul, 1), (24, .lstore 4, 2), (26, .iinc 6 1, 3), (29, .goto (-23), 3), (32, .aload_n 0, 1), (33, .iload_n 1, 1), (34, .i2l, 1), (35, .lconst 1, 1), (36, .ldc2_w 287, 3), (39, .invokestatic 61, 3), (42, .ifCond .eq 19, 3), (45, .lload_n 2, 1), (46, .lconst 0, 1), (47, .lload 4, 2), (49, .lconst 1, 1), (50, .lsub, 1), (51, .invokestatic 61, 3), (54, .ifCond .eq 7, 3), (57, .iconst 0, 1), (58, .goto 4, 3), (61, .iconst 1, 1), (62, .invokevirtual 181, 3), (65, .ifCond .eq 5, 3), (68, .iconst 0, 1), (69, .ireturn, 1), (70, .aload_n 0, 1), (71, .getfield 13, 3), (74, .iconst 0, 1), (75, .aload_n 0, 1), (76, .getfield 16, 3), (79, .iconst 0, 1), (80, .invokestatic 238, 3), (83, .iconst 0, 1), (84, .istore 6, 2), (86, .iload 6, 2), (88, .iload_n 1, 1), (89, .if_icmp .ge 75, 3), (92, .lload 4, 2), (94, .ldc2_w 285, 3), (97, .ldiv, 1), (98, .lstore 4, 2), (100, .lload_n 2, 1), (101, .lload 4, 2), (103, .ldiv, 1), (104, .ldc2_w 285, 3), (107, .lrem, 1), (108, .l2i, 1), (109, .istore 7, 2), (111, .aload_n 0, 1), (112, .iload 7, 2), (114, .ldc_w 289, 3), (117, .idiv, 1), (118, .iload 7, 2), (120, .ldc_w 290, 3), (123, .idiv, 1), (124, .bipush 100, 2), (126, .irem, 1), (127, .iload 7, 2), (129, .sipush 10000, 3), (132, .idiv, 1), (133, .bipush 100, 2), (135, .irem, 1), (136, .iload 7, 2), (138, .bipush 100, 2), (140, .idiv, 1), (141, .bipush 100, 2), (143, .irem, 1), (144, .iload 7, 2), (146, .bipush 100, 2), (148, .irem, 1), (149, .invokevirtual 291, 3), (152, .ifCond .ne 6, 3), (155, .iload 6, 2), (157, .ireturn, 1), (158, .iinc 6 1, 3), (161, .goto (-75), 3), (164, .iconst (-1), 1), (165, .ireturn, 1)]
theorem zo_cX3_runScript_0 : zd_ok cX3_runScript zl_cX3_runScript_0 = true := by decide +kernel
theorem dX3_runScript_0 : decode cX3_runScript 0 = .ok (.lconst 1, 1) := zd_at zo_cX3_runScript_0 0 rfl
theorem dX3_runScript_1 : decode cX3_runScript 1 = .ok (.lstore 4, 2) := zd_at zo_cX3_runScript_0 1 rfl
theorem dX3_runScript_3 : decode cX3_runScript 3 = .ok (.iconst 0, 1) := zd_at zo_cX3_runScript_0 2 rfl
theorem dX3_runScript_4 : decode cX3_runScript 4 = .ok (.istore 6, 2) := zd_at zo_cX3_runScript_0 3 rfl
theorem dX3_runScript_6 : decode cX3_runScript 6 = .ok (.iload 6, 2) := zd_at zo_cX3_runScript_0 4 rfl
theorem dX3_runScript_8 : decode cX3_runScript 8 = .ok (.iload_n 1, 1) := zd_at zo_cX3_runScript_0 5 rfl
theorem dX3_runScript_9 : decode cX3_runScript 9 = .ok (.if_icmp .ge 23, 3) := zd_at zo_cX3_runScript_0 6 rfl
theorem dX3_runScript_12 : decode cX3_runScript 12 = .ok (.iload 6, 2) := zd_at zo_cX3_runScript_0 7 rfl
theorem dX3_runScript_14 : decode cX3_runScript 14 = .ok (.iconst 2, 1) := zd_at zo_cX3_runScript_0 8 rfl
theorem dX3_runScript_15 : decode cX3_runScript 15 = .ok (.if_icmp .ge 17, 3) := zd_at zo_cX3_runScript_0 9 rfl
theorem dX3_runScript_18 : decode cX3_runScript 18 = .ok (.lload 4, 2) := zd_at zo_cX3_runScript_0 10 rfl
theorem dX3_runScript_20 : decode cX3_runScript 20 = .ok (.ldc2_w 285, 3) := zd_at zo_cX3_runScript_0 11 rfl
theorem dX3_runScript_23 : decode cX3_runScript 23 = .ok (.lmul, 1) := zd_at zo_cX3_runScript_0 12 rfl
theorem dX3_runScript_24 : decode cX3_runScript 24 = .ok (.lstore 4, 2) := zd_at zo_cX3_runScript_0 13 rfl
theorem dX3_runScript_26 : decode cX3_runScript 26 = .ok (.iinc 6 1, 3) := zd_at zo_cX3_runScript_0 14 rfl
theorem dX3_runScript_29 : decode cX3_runScript 29 = .ok (.goto (-23), 3) := zd_at zo_cX3_runScript_0 15 rfl
theorem dX3_runScript_32 : decode cX3_runScript 32 = .ok (.aload_n 0, 1) := zd_at zo_cX3_runScript_0 16 rfl
theorem dX3_runScript_33 : decode cX3_runScript 33 = .ok (.iload_n 1, 1) := zd_at zo_cX3_runScript_0 17 rfl
theorem dX3_runScript_34 : decode cX3_runScript 34 = .ok (.i2l, 1) := zd_at zo_cX3_runScript_0 18 rfl
theorem dX3_runScript_35 : decode cX3_runScript 35 = .ok (.lconst 1, 1) := zd_at zo_cX3_runScript_0 19 rfl
theorem dX3_runScript_36 : decode cX3_runScript 36 = .ok (.ldc2_w 287, 3) := zd_at zo_cX3_runScript_0 20 rfl
theorem dX3_runScript_39 : decode cX3_runScript 39 = .ok (.invokestatic 61, 3) := zd_at zo_cX3_runScript_0 21 rfl
theorem dX3_runScript_42 : decode cX3_runScript 42 = .ok (.ifCond .eq 19, 3) := zd_at zo_cX3_runScript_0 22 rfl
theorem dX3_runScript_45 : decode cX3_runScript 45 = .ok (.lload_n 2, 1) := zd_at zo_cX3_runScript_0 23 rfl
theorem dX3_runScript_46 : decode cX3_runScript 46 = .ok (.lconst 0, 1) := zd_at zo_cX3_runScript_0 24 rfl
theorem dX3_runScript_47 : decode cX3_runScript 47 = .ok (.lload 4, 2) := zd_at zo_cX3_runScript_0 25 rfl
theorem dX3_runScript_49 : decode cX3_runScript 49 = .ok (.lconst 1, 1) := zd_at zo_cX3_runScript_0 26 rfl
theorem dX3_runScript_50 : decode cX3_runScript 50 = .ok (.lsub, 1) := zd_at zo_cX3_runScript_0 27 rfl
theorem dX3_runScript_51 : decode cX3_runScript 51 = .ok (.invokestatic 61, 3) := zd_at zo_cX3_runScript_0 28 rfl
theorem dX3_runScript_54 : decode cX3_runScript 54 = .ok (.ifCond .eq 7, 3) := zd_at zo_cX3_runScript_0 29 rfl
theorem dX3_runScript_57 : decode cX3_runScript 57 = .ok (.iconst 0, 1) := zd_at zo_cX3_runScript_0 30 rfl
theorem dX3_runScript_58 : decode cX3_runScript 58 = .ok (.goto 4, 3) := zd_at zo_cX3_runScript_0 31 rfl
theorem dX3_runScript_61 : decode cX3_runScript 61 = .ok (.iconst 1, 1) := zd_at zo_cX3_runScript_0 32 rfl
theorem dX3_runScript_62 : decode cX3_runScript 62 = .ok (.invokevirtual 181, 3) := zd_at zo_cX3_runScript_0 33 rfl
theorem dX3_runScript_65 : decode cX3_runScript 65 = .ok (.ifCond .eq 5, 3) := zd_at zo_cX3_runScript_0 34 rfl
theorem dX3_runScript_68 : decode cX3_runScript 68 = .ok (.iconst 0, 1) := zd_at zo_cX3_runScript_0 35 rfl
theorem dX3_runScript_69 : decode cX3_runScript 69 = .ok (.ireturn, 1) := zd_at zo_cX3_runScript_0 36 rfl
theorem dX3_runScript_70 : decode cX3_runScript 70 = .ok (.aload_n 0, 1) := zd_at zo_cX3_runScript_0 37 rfl
theorem dX3_runScript_71 : decode cX3_runScript 71 = .ok (.getfield 13, 3) := zd_at zo_cX3_runScript_0 38 rfl
theorem dX3_runScript_74 : decode cX3_runScript 74 = .ok (.iconst 0, 1) := zd_at zo_cX3_runScript_0 39 rfl
theorem dX3_runScript_75 : decode cX3_runScript 75 = .ok (.aload_n 0, 1) := zd_at zo_cX3_runScript_0 40 rfl
theorem dX3_runScript_76 : decode cX3_runScript 76 = .ok (.getfield 16, 3) := zd_at zo_cX3_runScript_0 41 rfl
theorem dX3_runScript_79 : decode cX3_runScript 79 = .ok (.iconst 0, 1) := zd_at zo_cX3_runScript_0 42 rfl
theorem dX3_runScript_80 : decode cX3_runScript 80 = .ok (.invokestatic 238, 3) := zd_at zo_cX3_runScript_0 43 rfl
theorem dX3_runScript_83 : decode cX3_runScript 83 = .ok (.iconst 0, 1) := zd_at zo_cX3_runScript_0 44 rfl
theorem dX3_runScript_84 : decode cX3_runScript 84 = .ok (.istore 6, 2) := zd_at zo_cX3_runScript_0 45 rfl
theorem dX3_runScript_86 : decode cX3_runScript 86 = .ok (.iload 6, 2) := zd_at zo_cX3_runScript_0 46 rfl
theorem dX3_runScript_88 : decode cX3_runScript 88 = .ok (.iload_n 1, 1) := zd_at zo_cX3_runScript_0 47 rfl
theorem dX3_runScript_89 : decode cX3_runScript 89 = .ok (.if_icmp .ge 75, 3) := zd_at zo_cX3_runScript_0 48 rfl
theorem dX3_runScript_92 : decode cX3_runScript 92 = .ok (.lload 4, 2) := zd_at zo_cX3_runScript_0 49 rfl
theorem dX3_runScript_94 : decode cX3_runScript 94 = .ok (.ldc2_w 285, 3) := zd_at zo_cX3_runScript_0 50 rfl
theorem dX3_runScript_97 : decode cX3_runScript 97 = .ok (.ldiv, 1) := zd_at zo_cX3_runScript_0 51 rfl
theorem dX3_runScript_98 : decode cX3_runScript 98 = .ok (.lstore 4, 2) := zd_at zo_cX3_runScript_0 52 rfl
theorem dX3_runScript_100 : decode cX3_runScript 100 = .ok (.lload_n 2, 1) := zd_at zo_cX3_runScript_0 53 rfl
theorem dX3_runScript_101 : decode cX3_runScript 101 = .ok (.lload 4, 2) := zd_at zo_cX3_runScript_0 54 rfl
theorem dX3_runScript_103 : decode cX3_runScript 103 = .ok (.ldiv, 1) := zd_at zo_cX3_runScript_0 55 rfl
theorem dX3_runScript_104 : decode cX3_runScript 104 = .ok (.ldc2_w 285, 3) := zd_at zo_cX3_runScript_0 56 rfl
theorem dX3_runScript_107 : decode cX3_runScript 107 = .ok (.lrem, 1) := zd_at zo_cX3_runScript_0 57 rfl
theorem dX3_runScript_108 : decode cX3_runScript 108 = .ok (.l2i, 1) := zd_at zo_cX3_runScript_0 58 rfl
theorem dX3_runScript_109 : decode cX3_runScript 109 = .ok (.istore 7, 2) := zd_at zo_cX3_runScript_0 59 rfl
theorem dX3_runScript_111 : decode cX3_runScript 111 = .ok (.aload_n 0, 1) := zd_at zo_cX3_runScript_0 60 rfl
theorem dX3_runScript_112 : decode cX3_runScript 112 = .ok (.iload 7, 2) := zd_at zo_cX3_runScript_0 61 rfl
theorem dX3_runScript_114 : decode cX3_runScript 114 = .ok (.ldc_w 289, 3) := zd_at zo_cX3_runScript_0 62 rfl
theorem dX3_runScript_117 : decode cX3_runScript 117 = .ok (.idiv, 1) := zd_at zo_cX3_runScript_0 63 rfl
theorem dX3_runScript_118 : decode cX3_runScript 118 = .ok (.iload 7, 2) := zd_at zo_cX3_runScript_0 64 rfl
theorem dX3_runScript_120 : decode cX3_runScript 120 = .ok (.ldc_w 290, 3) := zd_at zo_cX3_runScript_0 65 rfl
theorem dX3_runScript_123 : decode cX3_runScript 123 = .ok (.idiv, 1) := zd_at zo_cX3_runScript_0 66 rfl
theorem dX3_runScript_124 : decode cX3_runScript 124 = .ok (.bipush 100, 2) := zd_at zo_cX3_runScript_0 67 rfl
theorem dX3_runScript_126 : decode cX3_runScript 126 = .ok (.irem, 1) := zd_at zo_cX3_runScript_0 68 rfl
theorem dX3_runScript_127 : decode cX3_runScript 127 = .ok (.iload 7, 2) := zd_at zo_cX3_runScript_0 69 rfl
theorem dX3_runScript_129 : decode cX3_runScript 129 = .ok (.sipush 10000, 3) := zd_at zo_cX3_runScript_0 70 rfl
theorem dX3_runScript_132 : decode cX3_runScript 132 = .ok (.idiv, 1) := zd_at zo_cX3_runScript_0 71 rfl
theorem dX3_runScript_133 : decode cX3_runScript 133 = .ok (.bipush 100, 2) := zd_at zo_cX3_runScript_0 72 rfl
theorem dX3_runScript_135 : decode cX3_runScript 135 = .ok (.irem, 1) := zd_at zo_cX3_runScript_0 73 rfl
theorem dX3_runScript_136 : decode cX3_runScript 136 = .ok (.iload 7, 2) := zd_at zo_cX3_runScript_0 74 rfl
theorem dX3_runScript_138 : decode cX3_runScript 138 = .ok (.bipush 100, 2) := zd_at zo_cX3_runScript_0 75 rfl
theorem dX3_runScript_140 : decode cX3_runScript 140 = .ok (.idiv, 1) := zd_at zo_cX3_runScript_0 76 rfl
theorem dX3_runScript_141 : decode cX3_runScript 141 = .ok (.bipush 100, 2) := zd_at zo_cX3_runScript_0 77 rfl
theorem dX3_runScript_143 : decode cX3_runScript 143 = .ok (.irem, 1) := zd_at zo_cX3_runScript_0 78 rfl
theorem dX3_runScript_144 : decode cX3_runScript 144 = .ok (.iload 7, 2) := zd_at zo_cX3_runScript_0 79 rfl
theorem dX3_runScript_146 : decode cX3_runScript 146 = .ok (.bipush 100, 2) := zd_at zo_cX3_runScript_0 80 rfl
theorem dX3_runScript_148 : decode cX3_runScript 148 = .ok (.irem, 1) := zd_at zo_cX3_runScript_0 81 rfl
theorem dX3_runScript_149 : decode cX3_runScript 149 = .ok (.invokevirtual 291, 3) := zd_at zo_cX3_runScript_0 82 rfl
theorem dX3_runScript_152 : decode cX3_runScript 152 = .ok (.ifCond .ne 6, 3) := zd_at zo_cX3_runScript_0 83 rfl
theorem dX3_runScript_155 : decode cX3_runScript 155 = .ok (.iload 6, 2) := zd_at zo_cX3_runScript_0 84 rfl
theorem dX3_runScript_157 : decode cX3_runScript 157 = .ok (.ireturn, 1) := zd_at zo_cX3_runScript_0 85 rfl
theorem dX3_runScript_158 : decode cX3_runScript 158 = .ok (.iinc 6 1, 3) := zd_at zo_cX3_runScript_0 86 rfl
theorem dX3_runScript_161 : decode cX3_runScript 161 = .ok (.goto (-75), 3) := zd_at zo_cX3_runScript_0 87 rfl
theorem dX3_runScript_164 : decode cX3_runScript 164 = .ok (.iconst (-1), 1) := zd_at zo_cX3_runScript_0 88 rfl
theorem dX3_runScript_165 : decode cX3_runScript 165 = .ok (.ireturn, 1) := zd_at zo_cX3_runScript_0 89 rfl
def zl_cX3_turn_0 : List (Nat × Instr × Nat) := [(0, .aload_n 0, 1), (1, .getfield 16, 3), (4, .invokestatic 219, 3), (7, .istore_n 2, 1), (8, .iload_n 2, 1), (9, .bipush 24, 2), (11, .if_icmp .eq 13, 3), (14, .iload_n 1, 1), (15, .iconst 4, 1), (16, .irem, 1), (17, .ifCond .ne 41, 3), (20, .iload_n 2, 1), (21, .ifCond .le 37, 3), (24, .aload_n 0, 1), (25, .getfield 16, 3), (28, .iload_n 1, 1), (29, .iconst 4, 1), (30, .idiv, 1), (31, .bipush 24, 2), (33, .irem, 1), (34, .invokestatic 165, 3), (37, .ifCond .eq 56, 3), (40, .aload_n 0, 1), (41, .aload_n 0, 1), (42, .getfield 16, 3), (45, .iload_n 1, 1), (46, .iconst 4, 1), (47, .idiv, 1), (48, .bipush 24, 2), (50, .irem, 1), (51, .invokevirtual 249, 3), (54, .pop, 1), (55, .goto 38, 3), (58, .aload_n 0, 1), (59, .iload_n 1, 1), (60, .iconst 4, 1), (61, .idiv, 1), (62, .bipush 90, 2), (64, .irem, 1), (65, .iload_n 1, 1), (66, .sipush 512, 3), (69, .idiv, 1), (70, .bipush 90, 2), (72, .irem, 1), (73, .iload_n 1, 1), (74, .ldc_w 294, 3), (77, .idiv, 1), (78, .bipush 10, 2), (80, .irem, 1), (81, .iload_n 1, 1), (82, .ldc_w 295, 3), (85, .idiv, 1), (86, .bipush 10, 2), (88, .irem, 1), (89, .invokevirtual 278, 3), (92, .pop, 1), (93, .return_, 1)]
theorem zo_cX3_turn_0 : zd_ok cX3_turn zl_cX3_turn_0 = true := by decide +kernel
theorem dX3_turn_0 : decode cX3_turn 0 = .ok (.aload_n 0, 1) := zd_at zo_cX3_turn_0 0 rfl
theorem dX3_turn_1 : decode cX3_turn 1 = .ok (.getfield 16, 3) := zd_at zo_cX3_turn_0 1 rfl
theorem dX3_turn_4 : decode cX3_turn 4 = .ok (.invokestatic 219, 3) := zd_at zo_cX3_turn_0 2 rfl
theorem dX3_turn_7 : decode cX3_turn 7 = .ok (.istore_n 2, 1) := zd_at zo_cX3_turn_0 3 rfl
theorem dX3_turn_8 : decode cX3_turn 8 = .ok (.iload_n 2, 1) := zd_at zo_cX3_turn_0 4 rfl
theorem dX3_turn_9 : decode cX3_turn 9 = .ok (.bipush 24, 2) := zd_at zo_cX3_turn_0 5 rfl
theorem dX3_turn_11 : decode cX3_turn 11 = .ok (.if_icmp .eq 13, 3) := zd_at zo_cX3_turn_0 6 rfl
theorem dX3_turn_14 : decode cX3_turn 14 = .ok (.iload_n 1, 1) := zd_at zo_cX3_turn_0 7 rfl
theorem dX3_turn_15 : decode cX3_turn 15 = .ok (.iconst 4, 1) := zd_at zo_cX3_turn_0 8 rfl
theorem dX3_turn_16 : decode cX3_turn 16 = .ok (.irem, 1) := zd_at zo_cX3_turn_0 9 rfl
theorem dX3_turn_17 : decode cX3_turn 17 = .ok (.ifCond .ne 41, 3) := zd_at zo_cX3_turn_0 10 rfl
theorem dX3_turn_20 : decode cX3_turn 20 = .ok (.iload_n 2, 1) := zd_at zo_cX3_turn_0 11 rfl
theorem dX3_turn_21 : decode cX3_turn 21 = .ok (.ifCond .le 37, 3) := zd_at zo_cX3_turn_0 12 rfl
theorem dX3_turn_24 : decode cX3_turn 24 = .ok (.aload_n 0, 1) := zd_at zo_cX3_turn_0 13 rfl
theorem dX3_turn_25 : decode cX3_turn 25 = .ok (.getfield 16, 3) := zd_at zo_cX3_turn_0 14 rfl
theorem dX3_turn_28 : decode cX3_turn 28 = .ok (.iload_n 1, 1) := zd_at zo_cX3_turn_0 15 rfl
theorem dX3_turn_29 : decode cX3_turn 29 = .ok (.iconst 4, 1) := zd_at zo_cX3_turn_0 16 rfl
theorem dX3_turn_30 : decode cX3_turn 30 = .ok (.idiv, 1) := zd_at zo_cX3_turn_0 17 rfl
theorem dX3_turn_31 : decode cX3_turn 31 = .ok (.bipush 24, 2) := zd_at zo_cX3_turn_0 18 rfl
theorem dX3_turn_33 : decode cX3_turn 33 = .ok (.irem, 1) := zd_at zo_cX3_turn_0 19 rfl
theorem dX3_turn_34 : decode cX3_turn 34 = .ok (.invokestatic 165, 3) := zd_at zo_cX3_turn_0 20 rfl
theorem dX3_turn_37 : decode cX3_turn 37 = .ok (.ifCond .eq 56, 3) := zd_at zo_cX3_turn_0 21 rfl
theorem dX3_turn_40 : decode cX3_turn 40 = .ok (.aload_n 0, 1) := zd_at zo_cX3_turn_0 22 rfl
theorem dX3_turn_41 : decode cX3_turn 41 = .ok (.aload_n 0, 1) := zd_at zo_cX3_turn_0 23 rfl
theorem dX3_turn_42 : decode cX3_turn 42 = .ok (.getfield 16, 3) := zd_at zo_cX3_turn_0 24 rfl
theorem dX3_turn_45 : decode cX3_turn 45 = .ok (.iload_n 1, 1) := zd_at zo_cX3_turn_0 25 rfl
theorem dX3_turn_46 : decode cX3_turn 46 = .ok (.iconst 4, 1) := zd_at zo_cX3_turn_0 26 rfl
theorem dX3_turn_47 : decode cX3_turn 47 = .ok (.idiv, 1) := zd_at zo_cX3_turn_0 27 rfl
theorem dX3_turn_48 : decode cX3_turn 48 = .ok (.bipush 24, 2) := zd_at zo_cX3_turn_0 28 rfl
theorem dX3_turn_50 : decode cX3_turn 50 = .ok (.irem, 1) := zd_at zo_cX3_turn_0 29 rfl
theorem dX3_turn_51 : decode cX3_turn 51 = .ok (.invokevirtual 249, 3) := zd_at zo_cX3_turn_0 30 rfl
theorem dX3_turn_54 : decode cX3_turn 54 = .ok (.pop, 1) := zd_at zo_cX3_turn_0 31 rfl
theorem dX3_turn_55 : decode cX3_turn 55 = .ok (.goto 38, 3) := zd_at zo_cX3_turn_0 32 rfl
theorem dX3_turn_58 : decode cX3_turn 58 = .ok (.aload_n 0, 1) := zd_at zo_cX3_turn_0 33 rfl
theorem dX3_turn_59 : decode cX3_turn 59 = .ok (.iload_n 1, 1) := zd_at zo_cX3_turn_0 34 rfl
theorem dX3_turn_60 : decode cX3_turn 60 = .ok (.iconst 4, 1) := zd_at zo_cX3_turn_0 35 rfl
theorem dX3_turn_61 : decode cX3_turn 61 = .ok (.idiv, 1) := zd_at zo_cX3_turn_0 36 rfl
theorem dX3_turn_62 : decode cX3_turn 62 = .ok (.bipush 90, 2) := zd_at zo_cX3_turn_0 37 rfl
theorem dX3_turn_64 : decode cX3_turn 64 = .ok (.irem, 1) := zd_at zo_cX3_turn_0 38 rfl
theorem dX3_turn_65 : decode cX3_turn 65 = .ok (.iload_n 1, 1) := zd_at zo_cX3_turn_0 39 rfl
theorem dX3_turn_66 : decode cX3_turn 66 = .ok (.sipush 512, 3) := zd_at zo_cX3_turn_0 40 rfl
theorem dX3_turn_69 : decode cX3_turn 69 = .ok (.idiv, 1) := zd_at zo_cX3_turn_0 41 rfl
theorem dX3_turn_70 : decode cX3_turn 70 = .ok (.bipush 90, 2) := zd_at zo_cX3_turn_0 42 rfl
theorem dX3_turn_72 : decode cX3_turn 72 = .ok (.irem, 1) := zd_at zo_cX3_turn_0 43 rfl
theorem dX3_turn_73 : decode cX3_turn 73 = .ok (.iload_n 1, 1) := zd_at zo_cX3_turn_0 44 rfl
theorem dX3_turn_74 : decode cX3_turn 74 = .ok (.ldc_w 294, 3) := zd_at zo_cX3_turn_0 45 rfl
theorem dX3_turn_77 : decode cX3_turn 77 = .ok (.idiv, 1) := zd_at zo_cX3_turn_0 46 rfl
theorem dX3_turn_78 : decode cX3_turn 78 = .ok (.bipush 10, 2) := zd_at zo_cX3_turn_0 47 rfl
theorem dX3_turn_80 : decode cX3_turn 80 = .ok (.irem, 1) := zd_at zo_cX3_turn_0 48 rfl
theorem dX3_turn_81 : decode cX3_turn 81 = .ok (.iload_n 1, 1) := zd_at zo_cX3_turn_0 49 rfl
theorem dX3_turn_82 : decode cX3_turn 82 = .ok (.ldc_w 295, 3) := zd_at zo_cX3_turn_0 50 rfl
theorem dX3_turn_85 : decode cX3_turn 85 = .ok (.idiv, 1) := zd_at zo_cX3_turn_0 51 rfl
theorem dX3_turn_86 : decode cX3_turn 86 = .ok (.bipush 10, 2) := zd_at zo_cX3_turn_0 52 rfl
theorem dX3_turn_88 : decode cX3_turn 88 = .ok (.irem, 1) := zd_at zo_cX3_turn_0 53 rfl
theorem dX3_turn_89 : decode cX3_turn 89 = .ok (.invokevirtual 278, 3) := zd_at zo_cX3_turn_0 54 rfl
theorem dX3_turn_92 : decode cX3_turn 92 = .ok (.pop, 1) := zd_at zo_cX3_turn_0 55 rfl
theorem dX3_turn_93 : decode cX3_turn 93 = .ok (.return_, 1) := zd_at zo_cX3_turn_0 56 rfl
def zl_cX3_simulate_0 : List (Nat × Instr × Nat) := [(0, .aload_n 0, 1), (1, .iload_n 3, 1), (2, .i2l, 1), (3, .lconst 1, 1), (4, .ldc2_w 296, 3), (7, .invokestatic 61, 3), (10, .ifCond .eq 7, 3), (13, .iconst 0, 1), (14, .goto 4, 3), (17, .iconst 1, 1), (18, .invokevirtual 181, 3), (21, .ifCond .eq 5, 3), (24, .iconst 0, 1), (25, .ireturn, 1), (26, .aload_n 0, 1), (27, .getfield 13, 3), (30, .iconst 0, 1), (31, .aload_n 0, 1), (32, .getfield 16, 3), (35, .iconst 0, 1), (36, .invokestatic 238, 3), (39, .lload_n 1, 1), (40, .lstore 4, 2), (42, .iconst 0, 1), (43, .istore 6, 2), (45, .iload 6, 2), (47, .iload_n 3, 1), (48, .if_icmp .ge 31, 3), (51, .lload 4, 2), (53, .ldc2_w 298, 3), (56, .lmul, 1), (57, .ldc2_w 300, 3), (60, .ladd, 1), (61, .lstore 4, 2), (63, .aload_n 0, 1), (64, .lload 4, 2), (66, .bipush 33, 2), (68, .lushr, 1), (69, .l2i, 1), (70, .invokevirtual 302, 3), (73, .iinc 6 1, 3), (76, .goto (-31), 3), (79, .sipush 1000, 3), (82, .aload_n 0, 1), (83, .getfield 16, 3), (86, .invokestatic 161, 3), (89, .imul, 1), (90, .aload_n 0, 1), (91, .getfield 16, 3), (94, .invokestatic 219, 3), (97, .iadd, 1), (98, .ireturn, 1)]
theorem zo_cX3_simulate_0 : zd_ok cX3_simulate zl_cX3_simulate_0 = true := by decide +kernel
theorem dX3_simulate_0 : decode cX3_simulate 0 = .ok (.aload_n 0, 1) := zd_at zo_cX3_simulate_0 0 rfl
theorem dX3_simulate_1 : decode cX3_simulate 1 = .ok (.iload_n 3, 1) := zd_at zo_cX3_simulate_0 1 rfl
theorem dX3_simulate_2 : decode cX3_simulate 2 = .ok (.i2l, 1) := zd_at zo_cX3_simulate_0 2 rfl
theorem dX3_simulate_3 : decode cX3_simulate 3 = .ok (.lconst 1, 1) := zd_at zo_cX3_simulate_0 3 rfl
theorem dX3_simulate_4 : decode cX3_simulate 4 = .ok (.ldc2_w 296, 3) := zd_at zo_cX3_simulate_0 4 rfl
theorem dX3_simulate_7 : decode cX3_simulate 7 = .ok (.invokestatic 61, 3) := zd_at zo_cX3_simulate_0 5 rfl
theorem dX3_simulate_10 : decode cX3_simulate 10 = .ok (.ifCond .eq 7, 3) := zd_at zo_cX3_simulate_0 6 rfl
theorem dX3_simulate_13 : decode cX3_simulate 13 = .ok (.iconst 0, 1) := zd_at zo_cX3_simulate_0 7 rfl
theorem dX3_simulate_14 : decode cX3_simulate 14 = .ok (.goto 4, 3) := zd_at zo_cX3_simulate_0 8 rfl
theorem dX3_simulate_17 : decode cX3_simulate 17 = .ok (.iconst 1, 1) := zd_at zo_cX3_simulate_0 9 rfl
theorem dX3_simulate_18 : decode cX3_simulate 18 = .ok (.invokevirtual 181, 3) := zd_at zo_cX3_simulate_0 10 rfl
theorem dX3_simulate_21 : decode cX3_simulate 21 = .ok (.ifCond .eq 5, 3) := zd_at zo_cX3_simulate_0 11 rfl
theorem dX3_simulate_24 : decode cX3_simulate 24 = .ok (.iconst 0, 1) := zd_at zo_cX3_simulate_0 12 rfl
theorem dX3_simulate_25 : decode cX3_simulate 25 = .ok (.ireturn, 1) := zd_at zo_cX3_simulate_0 13 rfl
theorem dX3_simulate_26 : decode cX3_simulate 26 = .ok (.aload_n 0, 1) := zd_at zo_cX3_simulate_0 14 rfl
theorem dX3_simulate_27 : decode cX3_simulate 27 = .ok (.getfield 13, 3) := zd_at zo_cX3_simulate_0 15 rfl
theorem dX3_simulate_30 : decode cX3_simulate 30 = .ok (.iconst 0, 1) := zd_at zo_cX3_simulate_0 16 rfl
theorem dX3_simulate_31 : decode cX3_simulate 31 = .ok (.aload_n 0, 1) := zd_at zo_cX3_simulate_0 17 rfl
theorem dX3_simulate_32 : decode cX3_simulate 32 = .ok (.getfield 16, 3) := zd_at zo_cX3_simulate_0 18 rfl
theorem dX3_simulate_35 : decode cX3_simulate 35 = .ok (.iconst 0, 1) := zd_at zo_cX3_simulate_0 19 rfl
theorem dX3_simulate_36 : decode cX3_simulate 36 = .ok (.invokestatic 238, 3) := zd_at zo_cX3_simulate_0 20 rfl
theorem dX3_simulate_39 : decode cX3_simulate 39 = .ok (.lload_n 1, 1) := zd_at zo_cX3_simulate_0 21 rfl
theorem dX3_simulate_40 : decode cX3_simulate 40 = .ok (.lstore 4, 2) := zd_at zo_cX3_simulate_0 22 rfl
theorem dX3_simulate_42 : decode cX3_simulate 42 = .ok (.iconst 0, 1) := zd_at zo_cX3_simulate_0 23 rfl
theorem dX3_simulate_43 : decode cX3_simulate 43 = .ok (.istore 6, 2) := zd_at zo_cX3_simulate_0 24 rfl
theorem dX3_simulate_45 : decode cX3_simulate 45 = .ok (.iload 6, 2) := zd_at zo_cX3_simulate_0 25 rfl
theorem dX3_simulate_47 : decode cX3_simulate 47 = .ok (.iload_n 3, 1) := zd_at zo_cX3_simulate_0 26 rfl
theorem dX3_simulate_48 : decode cX3_simulate 48 = .ok (.if_icmp .ge 31, 3) := zd_at zo_cX3_simulate_0 27 rfl
theorem dX3_simulate_51 : decode cX3_simulate 51 = .ok (.lload 4, 2) := zd_at zo_cX3_simulate_0 28 rfl
theorem dX3_simulate_53 : decode cX3_simulate 53 = .ok (.ldc2_w 298, 3) := zd_at zo_cX3_simulate_0 29 rfl
theorem dX3_simulate_56 : decode cX3_simulate 56 = .ok (.lmul, 1) := zd_at zo_cX3_simulate_0 30 rfl
theorem dX3_simulate_57 : decode cX3_simulate 57 = .ok (.ldc2_w 300, 3) := zd_at zo_cX3_simulate_0 31 rfl
theorem dX3_simulate_60 : decode cX3_simulate 60 = .ok (.ladd, 1) := zd_at zo_cX3_simulate_0 32 rfl
theorem dX3_simulate_61 : decode cX3_simulate 61 = .ok (.lstore 4, 2) := zd_at zo_cX3_simulate_0 33 rfl
theorem dX3_simulate_63 : decode cX3_simulate 63 = .ok (.aload_n 0, 1) := zd_at zo_cX3_simulate_0 34 rfl
theorem dX3_simulate_64 : decode cX3_simulate 64 = .ok (.lload 4, 2) := zd_at zo_cX3_simulate_0 35 rfl
theorem dX3_simulate_66 : decode cX3_simulate 66 = .ok (.bipush 33, 2) := zd_at zo_cX3_simulate_0 36 rfl
theorem dX3_simulate_68 : decode cX3_simulate 68 = .ok (.lushr, 1) := zd_at zo_cX3_simulate_0 37 rfl
theorem dX3_simulate_69 : decode cX3_simulate 69 = .ok (.l2i, 1) := zd_at zo_cX3_simulate_0 38 rfl
theorem dX3_simulate_70 : decode cX3_simulate 70 = .ok (.invokevirtual 302, 3) := zd_at zo_cX3_simulate_0 39 rfl
theorem dX3_simulate_73 : decode cX3_simulate 73 = .ok (.iinc 6 1, 3) := zd_at zo_cX3_simulate_0 40 rfl
theorem dX3_simulate_76 : decode cX3_simulate 76 = .ok (.goto (-31), 3) := zd_at zo_cX3_simulate_0 41 rfl
theorem dX3_simulate_79 : decode cX3_simulate 79 = .ok (.sipush 1000, 3) := zd_at zo_cX3_simulate_0 42 rfl
theorem dX3_simulate_82 : decode cX3_simulate 82 = .ok (.aload_n 0, 1) := zd_at zo_cX3_simulate_0 43 rfl
theorem dX3_simulate_83 : decode cX3_simulate 83 = .ok (.getfield 16, 3) := zd_at zo_cX3_simulate_0 44 rfl
theorem dX3_simulate_86 : decode cX3_simulate 86 = .ok (.invokestatic 161, 3) := zd_at zo_cX3_simulate_0 45 rfl
theorem dX3_simulate_89 : decode cX3_simulate 89 = .ok (.imul, 1) := zd_at zo_cX3_simulate_0 46 rfl
theorem dX3_simulate_90 : decode cX3_simulate 90 = .ok (.aload_n 0, 1) := zd_at zo_cX3_simulate_0 47 rfl
theorem dX3_simulate_91 : decode cX3_simulate 91 = .ok (.getfield 16, 3) := zd_at zo_cX3_simulate_0 48 rfl
theorem dX3_simulate_94 : decode cX3_simulate 94 = .ok (.invokestatic 219, 3) := zd_at zo_cX3_simulate_0 49 rfl
theorem dX3_simulate_97 : decode cX3_simulate 97 = .ok (.iadd, 1) := zd_at zo_cX3_simulate_0 50 rfl
theorem dX3_simulate_98 : decode cX3_simulate 98 = .ok (.ireturn, 1) := zd_at zo_cX3_simulate_0 51 rfl
def zl_cX3_save_0 : List (Nat × Instr × Nat) := [(0, .aload_n 0, 1), (1, .iload_n 1, 1), (2, .i2l, 1), (3, .lconst 0, 1), (4, .lconst 1, 1), (5, .invokestatic 61, 3), (8, .ifCond .eq 7, 3), (11, .iconst 0, 1), (12, .goto 4, 3), (15, .iconst 1, 1), (16, .invokevirtual 181, 3), (19, .ifCond .eq 5, 3), (22, .iconst 0, 1), (23, .ireturn, 1), (24, .aload_n 0, 1), (25, .getfield 13, 3), (28, .iconst 0, 1), (29, .aload_n 0, 1), (30, .getfield 22, 3), (33, .sipush 380, 3), (36, .iload_n 1, 1), (37, .imul, 1), (38, .invokestatic 238, 3), (41, .aload_n 0, 1), (42, .getfield 25, 3), (45, .iload_n 1, 1), (46, .iconst 1, 1), (47, .bastore, 1), (48, .aload_n 0, 1), (49, .getfield 13, 3), (52, .invokestatic 219, 3), (55, .ireturn, 1)]
theorem zo_cX3_save_0 : zd_ok cX3_save zl_cX3_save_0 = true := by decide +kernel
theorem dX3_save_0 : decode cX3_save 0 = .ok (.aload_n 0, 1) := zd_at zo_cX3_save_0 0 rfl
theorem dX3_save_1 : decode cX3_save 1 = .ok (.iload_n 1, 1) := zd_at zo_cX3_save_0 1 rfl
theorem dX3_save_2 : decode cX3_save 2 = .ok (.i2l, 1) := zd_at zo_cX3_save_0 2 rfl
theorem dX3_save_3 : decode cX3_save 3 = .ok (.lconst 0, 1) := zd_at zo_cX3_save_0 3 rfl
theorem dX3_save_4 : decode cX3_save 4 = .ok (.lconst 1, 1) := zd_at zo_cX3_save_0 4 rfl
theorem dX3_save_5 : decode cX3_save 5 = .ok (.invokestatic 61, 3) := zd_at zo_cX3_save_0 5 rfl
theorem dX3_save_8 : decode cX3_save 8 = .ok (.ifCond .eq 7, 3) := zd_at zo_cX3_save_0 6 rfl
theorem dX3_save_11 : decode cX3_save 11 = .ok (.iconst 0, 1) := zd_at zo_cX3_save_0 7 rfl
theorem dX3_save_12 : decode cX3_save 12 = .ok (.goto 4, 3) := zd_at zo_cX3_save_0 8 rfl
theorem dX3_save_15 : decode cX3_save 15 = .ok (.iconst 1, 1) := zd_at zo_cX3_save_0 9 rfl
theorem dX3_save_16 : decode cX3_save 16 = .ok (.invokevirtual 181, 3) := zd_at zo_cX3_save_0 10 rfl
theorem dX3_save_19 : decode cX3_save 19 = .ok (.ifCond .eq 5, 3) := zd_at zo_cX3_save_0 11 rfl
theorem dX3_save_22 : decode cX3_save 22 = .ok (.iconst 0, 1) := zd_at zo_cX3_save_0 12 rfl
theorem dX3_save_23 : decode cX3_save 23 = .ok (.ireturn, 1) := zd_at zo_cX3_save_0 13 rfl
theorem dX3_save_24 : decode cX3_save 24 = .ok (.aload_n 0, 1) := zd_at zo_cX3_save_0 14 rfl
theorem dX3_save_25 : decode cX3_save 25 = .ok (.getfield 13, 3) := zd_at zo_cX3_save_0 15 rfl
theorem dX3_save_28 : decode cX3_save 28 = .ok (.iconst 0, 1) := zd_at zo_cX3_save_0 16 rfl
theorem dX3_save_29 : decode cX3_save 29 = .ok (.aload_n 0, 1) := zd_at zo_cX3_save_0 17 rfl
theorem dX3_save_30 : decode cX3_save 30 = .ok (.getfield 22, 3) := zd_at zo_cX3_save_0 18 rfl
theorem dX3_save_33 : decode cX3_save 33 = .ok (.sipush 380, 3) := zd_at zo_cX3_save_0 19 rfl
theorem dX3_save_36 : decode cX3_save 36 = .ok (.iload_n 1, 1) := zd_at zo_cX3_save_0 20 rfl
theorem dX3_save_37 : decode cX3_save 37 = .ok (.imul, 1) := zd_at zo_cX3_save_0 21 rfl
theorem dX3_save_38 : decode cX3_save 38 = .ok (.invokestatic 238, 3) := zd_at zo_cX3_save_0 22 rfl
theorem dX3_save_41 : decode cX3_save 41 = .ok (.aload_n 0, 1) := zd_at zo_cX3_save_0 23 rfl
theorem dX3_save_42 : decode cX3_save 42 = .ok (.getfield 25, 3) := zd_at zo_cX3_save_0 24 rfl
theorem dX3_save_45 : decode cX3_save 45 = .ok (.iload_n 1, 1) := zd_at zo_cX3_save_0 25 rfl
theorem dX3_save_46 : decode cX3_save 46 = .ok (.iconst 1, 1) := zd_at zo_cX3_save_0 26 rfl
theorem dX3_save_47 : decode cX3_save 47 = .ok (.bastore, 1) := zd_at zo_cX3_save_0 27 rfl
theorem dX3_save_48 : decode cX3_save 48 = .ok (.aload_n 0, 1) := zd_at zo_cX3_save_0 28 rfl
theorem dX3_save_49 : decode cX3_save 49 = .ok (.getfield 13, 3) := zd_at zo_cX3_save_0 29 rfl
theorem dX3_save_52 : decode cX3_save 52 = .ok (.invokestatic 219, 3) := zd_at zo_cX3_save_0 30 rfl
theorem dX3_save_55 : decode cX3_save 55 = .ok (.ireturn, 1) := zd_at zo_cX3_save_0 31 rfl
def zl_cX3_restore_0 : List (Nat × Instr × Nat) := [(0, .aload_n 0, 1), (1, .iload_n 1, 1), (2, .i2l, 1), (3, .lconst 0, 1), (4, .lconst 1, 1), (5, .invokestatic 61, 3), (8, .ifCond .ne 7, 3), (11, .iconst 1, 1), (12, .goto 17, 3), (15, .aload_n 0, 1), (16, .getfield 25, 3), (19, .iload_n 1, 1), (20, .baload, 1), (21, .ifCond .ne 7, 3), (24, .iconst 2, 1), (25, .goto 4, 3), (28, .iconst 0, 1), (29, .invokevirtual 181, 3), (32, .ifCond .eq 5, 3), (35, .iconst 0, 1), (36, .ireturn, 1), (37, .aload_n 0, 1), (38, .getfield 22, 3), (41, .sipush 380, 3), (44, .iload_n 1, 1), (45, .imul, 1), (46, .aload_n 0, 1), (47, .getfield 13, 3), (50, .iconst 0, 1), (51, .invokestatic 238, 3), (54, .aload_n 0, 1), (55, .iconst 0, 1), (56, .putfield 235, 3), (59, .aload_n 0, 1), (60, .getfield 13, 3), (63, .invokestatic 219, 3), (66, .ireturn, 1)]
theorem zo_cX3_restore_0 : zd_ok cX3_restore zl_cX3_restore_0 = true := by decide +kernel
theorem dX3_restore_0 : decode cX3_restore 0 = .ok (.aload_n 0, 1) := zd_at zo_cX3_restore_0 0 rfl
theorem dX3_restore_1 : decode cX3_restore 1 = .ok (.iload_n 1, 1) := zd_at zo_cX3_restore_0 1 rfl
theorem dX3_restore_2 : decode cX3_restore 2 = .ok (.i2l, 1) := zd_at zo_cX3_restore_0 2 rfl
theorem dX3_restore_3 : decode cX3_restore 3 = .ok (.lconst 0, 1) := zd_at zo_cX3_restore_0 3 rfl
theorem dX3_restore_4 : decode cX3_restore 4 = .ok (.lconst 1, 1) := zd_at zo_cX3_restore_0 4 rfl
theorem dX3_restore_5 : decode cX3_restore 5 = .ok (.invokestatic 61, 3) := zd_at zo_cX3_restore_0 5 rfl
theorem dX3_restore_8 : decode cX3_restore 8 = .ok (.ifCond .ne 7, 3) := zd_at zo_cX3_restore_0 6 rfl
theorem dX3_restore_11 : decode cX3_restore 11 = .ok (.iconst 1, 1) := zd_at zo_cX3_restore_0 7 rfl
theorem dX3_restore_12 : decode cX3_restore 12 = .ok (.goto 17, 3) := zd_at zo_cX3_restore_0 8 rfl
theorem dX3_restore_15 : decode cX3_restore 15 = .ok (.aload_n 0, 1) := zd_at zo_cX3_restore_0 9 rfl
theorem dX3_restore_16 : decode cX3_restore 16 = .ok (.getfield 25, 3) := zd_at zo_cX3_restore_0 10 rfl
theorem dX3_restore_19 : decode cX3_restore 19 = .ok (.iload_n 1, 1) := zd_at zo_cX3_restore_0 11 rfl
theorem dX3_restore_20 : decode cX3_restore 20 = .ok (.baload, 1) := zd_at zo_cX3_restore_0 12 rfl
theorem dX3_restore_21 : decode cX3_restore 21 = .ok (.ifCond .ne 7, 3) := zd_at zo_cX3_restore_0 13 rfl
theorem dX3_restore_24 : decode cX3_restore 24 = .ok (.iconst 2, 1) := zd_at zo_cX3_restore_0 14 rfl
theorem dX3_restore_25 : decode cX3_restore 25 = .ok (.goto 4, 3) := zd_at zo_cX3_restore_0 15 rfl
theorem dX3_restore_28 : decode cX3_restore 28 = .ok (.iconst 0, 1) := zd_at zo_cX3_restore_0 16 rfl
theorem dX3_restore_29 : decode cX3_restore 29 = .ok (.invokevirtual 181, 3) := zd_at zo_cX3_restore_0 17 rfl
theorem dX3_restore_32 : decode cX3_restore 32 = .ok (.ifCond .eq 5, 3) := zd_at zo_cX3_restore_0 18 rfl
theorem dX3_restore_35 : decode cX3_restore 35 = .ok (.iconst 0, 1) := zd_at zo_cX3_restore_0 19 rfl
theorem dX3_restore_36 : decode cX3_restore 36 = .ok (.ireturn, 1) := zd_at zo_cX3_restore_0 20 rfl
theorem dX3_restore_37 : decode cX3_restore 37 = .ok (.aload_n 0, 1) := zd_at zo_cX3_restore_0 21 rfl
theorem dX3_restore_38 : decode cX3_restore 38 = .ok (.getfield 22, 3) := zd_at zo_cX3_restore_0 22 rfl
theorem dX3_restore_41 : decode cX3_restore 41 = .ok (.sipush 380, 3) := zd_at zo_cX3_restore_0 23 rfl
theorem dX3_restore_44 : decode cX3_restore 44 = .ok (.iload_n 1, 1) := zd_at zo_cX3_restore_0 24 rfl
theorem dX3_restore_45 : decode cX3_restore 45 = .ok (.imul, 1) := zd_at zo_cX3_restore_0 25 rfl
theorem dX3_restore_46 : decode cX3_restore 46 = .ok (.aload_n 0, 1) := zd_at zo_cX3_restore_0 26 rfl
theorem dX3_restore_47 : decode cX3_restore 47 = .ok (.getfield 13, 3) := zd_at zo_cX3_restore_0 27 rfl
theorem dX3_restore_50 : decode cX3_restore 50 = .ok (.iconst 0, 1) := zd_at zo_cX3_restore_0 28 rfl
theorem dX3_restore_51 : decode cX3_restore 51 = .ok (.invokestatic 238, 3) := zd_at zo_cX3_restore_0 29 rfl
theorem dX3_restore_54 : decode cX3_restore 54 = .ok (.aload_n 0, 1) := zd_at zo_cX3_restore_0 30 rfl
theorem dX3_restore_55 : decode cX3_restore 55 = .ok (.iconst 0, 1) := zd_at zo_cX3_restore_0 31 rfl
theorem dX3_restore_56 : decode cX3_restore 56 = .ok (.putfield 235, 3) := zd_at zo_cX3_restore_0 32 rfl
theorem dX3_restore_59 : decode cX3_restore 59 = .ok (.aload_n 0, 1) := zd_at zo_cX3_restore_0 33 rfl
theorem dX3_restore_60 : decode cX3_restore 60 = .ok (.getfield 13, 3) := zd_at zo_cX3_restore_0 34 rfl
theorem dX3_restore_63 : decode cX3_restore 63 = .ok (.invokestatic 219, 3) := zd_at zo_cX3_restore_0 35 rfl
theorem dX3_restore_66 : decode cX3_restore 66 = .ok (.ireturn, 1) := zd_at zo_cX3_restore_0 36 rfl
def zl_cL_append_0 : List (Nat × Instr × Nat) := [(0, .aload_n 2, 1), (1, .iconst 0, 1), (2, .aload_n 0, 1), (3, .iload_n 1, 1), (4, .invokevirtual 7, 3), (7, .i2l, 1), (8, .lastore, 1), (9, .goto 9, 3), (12, .astore_n 3, 1), (13, .iconst 1, 1), (14, .ireturn, 1), (15, .astore_n 3, 1), (16, .iconst 2, 1), (17, .ireturn, 1), (18, .iconst 0, 1), (19, .ireturn, 1)]
theorem zo_cL_append_0 : zd_ok cL_append zl_cL_append_0 = true := by decide +kernel
theorem dL_append_0 : decode cL_append 0 = .ok (.aload_n 2, 1) := zd_at zo_cL_append_0 0 rfl
theorem dL_append_1 : decode cL_append 1 = .ok (.iconst 0, 1) := zd_at zo_cL_append_0 1 rfl
theorem dL_append_2 : decode cL_append 2 = .ok (.aload_n 0, 1) := zd_at zo_cL_append_0 2 rfl
theorem dL_append_3 : decode cL_append 3 = .ok (.iload_n 1, 1) := zd_at zo_cL_append_0 3 rfl
theorem dL_append_4 : decode cL_append 4 = .ok (.invokevirtual 7, 3) := zd_at zo_cL_append_0 4 rfl
theorem dL_append_7 : decode cL_append 7 = .ok (.i2l, 1) := zd_at zo_cL_append_0 5 rfl
theorem dL_append_8 : decode cL_append 8 = .ok (.lastore, 1) := zd_at zo_cL_append_0 6 rfl
theorem dL_append_9 : decode cL_append 9 = .ok (.goto 9, 3) := zd_at zo_cL_append_0 7 rfl
theorem dL_append_12 : decode cL_append 12 = .ok (.astore_n 3, 1) := zd_at zo_cL_append_0 8 rfl
theorem dL_append_13 : decode cL_append 13 = .ok (.iconst 1, 1) := zd_at zo_cL_append_0 9 rfl
theorem dL_append_14 : decode cL_append 14 = .ok (.ireturn, 1) := zd_at zo_cL_append_0 10 rfl
theorem dL_append_15 : decode cL_append 15 = .ok (.astore_n 3, 1) := zd_at zo_cL_append_0 11 rfl
theorem dL_append_16 : decode cL_append 16 = .ok (.iconst 2, 1) := zd_at zo_cL_append_0 12 rfl
theorem dL_append_17 : decode cL_append 17 = .ok (.ireturn, 1) := zd_at zo_cL_append_0 13 rfl
theorem dL_append_18 : decode cL_append 18 = .ok (.iconst 0, 1) := zd_at zo_cL_append_0 14 rfl
theorem dL_append_19 : decode cL_append 19 = .ok (.ireturn, 1) := zd_at zo_cL_append_0 15 rfl
def zl_cL_about_0 : List (Nat × Instr × Nat) := [(0, .aload_n 2, 1), (1, .iconst 0, 1), (2, .aload_n 0, 1), (3, .iload_n 1, 1), (4, .invokevirtual 17, 3), (7, .i2l, 1), (8, .lastore, 1), (9, .goto 6, 3), (12, .astore_n 3, 1), (13, .iconst 1, 1), (14, .ireturn, 1), (15, .iconst 0, 1), (16, .ireturn, 1)]
theorem zo_cL_about_0 : zd_ok cL_about zl_cL_about_0 = true := by decide +kernel
theorem dL_about_0 : decode cL_about 0 = .ok (.aload_n 2, 1) := zd_at zo_cL_about_0 0 rfl
theorem dL_about_1 : decode cL_about 1 = .ok (.iconst 0, 1) := zd_at zo_cL_about_0 1 rfl
theorem dL_about_2 : decode cL_about 2 = .ok (.aload_n 0, 1) := zd_at zo_cL_about_0 2 rfl
theorem dL_about_3 : decode cL_about 3 = .ok (.iload_n 1, 1) := zd_at zo_cL_about_0 3 rfl
theorem dL_about_4 : decode cL_about 4 = .ok (.invokevirtual 17, 3) := zd_at zo_cL_about_0 4 rfl
theorem dL_about_7 : decode cL_about 7 = .ok (.i2l, 1) := zd_at zo_cL_about_0 5 rfl
theorem dL_about_8 : decode cL_about 8 = .ok (.lastore, 1) := zd_at zo_cL_about_0 6 rfl
theorem dL_about_9 : decode cL_about 9 = .ok (.goto 6, 3) := zd_at zo_cL_about_0 7 rfl
theorem dL_about_12 : decode cL_about 12 = .ok (.astore_n 3, 1) := zd_at zo_cL_about_0 8 rfl
theorem dL_about_13 : decode cL_about 13 = .ok (.iconst 1, 1) := zd_at zo_cL_about_0 9 rfl
theorem dL_about_14 : decode cL_about 14 = .ok (.ireturn, 1) := zd_at zo_cL_about_0 10 rfl
theorem dL_about_15 : decode cL_about 15 = .ok (.iconst 0, 1) := zd_at zo_cL_about_0 11 rfl
theorem dL_about_16 : decode cL_about 16 = .ok (.ireturn, 1) := zd_at zo_cL_about_0 12 rfl
def zl_cL_rectangle_0 : List (Nat × Instr × Nat) := [(0, .aload_n 3, 1), (1, .iconst 0, 1), (2, .aload_n 0, 1), (3, .iload_n 1, 1), (4, .iload_n 2, 1), (5, .invokevirtual 20, 3), (8, .i2l, 1), (9, .lastore, 1), (10, .goto 11, 3), (13, .astore 4, 2), (15, .iconst 1, 1), (16, .ireturn, 1), (17, .astore 4, 2), (19, .iconst 2, 1), (20, .ireturn, 1), (21, .iconst 0, 1), (22, .ireturn, 1)]
theorem zo_cL_rectangle_0 : zd_ok cL_rectangle zl_cL_rectangle_0 = true := by decide +kernel
theorem dL_rectangle_0 : decode cL_rectangle 0 = .ok (.aload_n 3, 1) := zd_at zo_cL_rectangle_0 0 rfl
theorem dL_rectangle_1 : decode cL_rectangle 1 = .ok (.iconst 0, 1) := zd_at zo_cL_rectangle_0 1 rfl
theorem dL_rectangle_2 : decode cL_rectangle 2 = .ok (.aload_n 0, 1) := zd_at zo_cL_rectangle_0 2 rfl
theorem dL_rectangle_3 : decode cL_rectangle 3 = .ok (.iload_n 1, 1) := zd_at zo_cL_rectangle_0 3 rfl
theorem dL_rectangle_4 : decode cL_rectangle 4 = .ok (.iload_n 2, 1) := zd_at zo_cL_rectangle_0 4 rfl
theorem dL_rectangle_5 : decode cL_rectangle 5 = .ok (.invokevirtual 20, 3) := zd_at zo_cL_rectangle_0 5 rfl
theorem dL_rectangle_8 : decode cL_rectangle 8 = .ok (.i2l, 1) := zd_at zo_cL_rectangle_0 6 rfl
theorem dL_rectangle_9 : decode cL_rectangle 9 = .ok (.lastore, 1) := zd_at zo_cL_rectangle_0 7 rfl
theorem dL_rectangle_10 : decode cL_rectangle 10 = .ok (.goto 11, 3) := zd_at zo_cL_rectangle_0 8 rfl
theorem dL_rectangle_13 : decode cL_rectangle 13 = .ok (.astore 4, 2) := zd_at zo_cL_rectangle_0 9 rfl
theorem dL_rectangle_15 : decode cL_rectangle 15 = .ok (.iconst 1, 1) := zd_at zo_cL_rectangle_0 10 rfl
theorem dL_rectangle_16 : decode cL_rectangle 16 = .ok (.ireturn, 1) := zd_at zo_cL_rectangle_0 11 rfl
theorem dL_rectangle_17 : decode cL_rectangle 17 = .ok (.astore 4, 2) := zd_at zo_cL_rectangle_0 12 rfl
theorem dL_rectangle_19 : decode cL_rectangle 19 = .ok (.iconst 2, 1) := zd_at zo_cL_rectangle_0 13 rfl
theorem dL_rectangle_20 : decode cL_rectangle 20 = .ok (.ireturn, 1) := zd_at zo_cL_rectangle_0 14 rfl
theorem dL_rectangle_21 : decode cL_rectangle 21 = .ok (.iconst 0, 1) := zd_at zo_cL_rectangle_0 15 rfl
theorem dL_rectangle_22 : decode cL_rectangle 22 = .ok (.ireturn, 1) := zd_at zo_cL_rectangle_0 16 rfl
def zl_cL_node_0 : List (Nat × Instr × Nat) := [(0, .aload_n 3, 1), (1, .iconst 0, 1), (2, .aload_n 0, 1), (3, .iload_n 1, 1), (4, .iload_n 2, 1), (5, .invokevirtual 26, 3), (8, .i2l, 1), (9, .lastore, 1), (10, .goto 11, 3), (13, .astore 4, 2), (15, .iconst 1, 1), (16, .ireturn, 1), (17, .astore 4, 2), (19, .iconst 2, 1), (20, .ireturn, 1), (21, .iconst 0, 1), (22, .ireturn, 1)]
theorem zo_cL_node_0 : zd_ok cL_node zl_cL_node_0 = true := by decide +kernel
theorem dL_node_0 : decode cL_node 0 = .ok (.aload_n 3, 1) := zd_at zo_cL_node_0 0 rfl
theorem dL_node_1 : decode cL_node 1 = .ok (.iconst 0, 1) := zd_at zo_cL_node_0 1 rfl
theorem dL_node_2 : decode cL_node 2 = .ok (.aload_n 0, 1) := zd_at zo_cL_node_0 2 rfl
theorem dL_node_3 : decode cL_node 3 = .ok (.iload_n 1, 1) := zd_at zo_cL_node_0 3 rfl
theorem dL_node_4 : decode cL_node 4 = .ok (.iload_n 2, 1) := zd_at zo_cL_node_0 4 rfl
theorem dL_node_5 : decode cL_node 5 = .ok (.invokevirtual 26, 3) := zd_at zo_cL_node_0 5 rfl
theorem dL_node_8 : decode cL_node 8 = .ok (.i2l, 1) := zd_at zo_cL_node_0 6 rfl
theorem dL_node_9 : decode cL_node 9 = .ok (.lastore, 1) := zd_at zo_cL_node_0 7 rfl
theorem dL_node_10 : decode cL_node 10 = .ok (.goto 11, 3) := zd_at zo_cL_node_0 8 rfl
theorem dL_node_13 : decode cL_node 13 = .ok (.astore 4, 2) := zd_at zo_cL_node_0 9 rfl
theorem dL_node_15 : decode cL_node 15 = .ok (.iconst 1, 1) := zd_at zo_cL_node_0 10 rfl
theorem dL_node_16 : decode cL_node 16 = .ok (.ireturn, 1) := zd_at zo_cL_node_0 11 rfl
theorem dL_node_17 : decode cL_node 17 = .ok (.astore 4, 2) := zd_at zo_cL_node_0 12 rfl
theorem dL_node_19 : decode cL_node 19 = .ok (.iconst 2, 1) := zd_at zo_cL_node_0 13 rfl
theorem dL_node_20 : decode cL_node 20 = .ok (.ireturn, 1) := zd_at zo_cL_node_0 14 rfl
theorem dL_node_21 : decode cL_node 21 = .ok (.iconst 0, 1) := zd_at zo_cL_node_0 15 rfl
theorem dL_node_22 : decode cL_node 22 = .ok (.ireturn, 1) := zd_at zo_cL_node_0 16 rfl
def zl_cL_entry_0 : List (Nat × Instr × Nat) := [(0, .aload_n 3, 1), (1, .iconst 0, 1), (2, .aload_n 0, 1), (3, .iload_n 1, 1), (4, .iload_n 2, 1), (5, .invokevirtual 29, 3), (8, .i2l, 1), (9, .lastore, 1), (10, .goto 11, 3), (13, .astore 4, 2), (15, .iconst 1, 1), (16, .ireturn, 1), (17, .astore 4, 2), (19, .iconst 2, 1), (20, .ireturn, 1), (21, .iconst 0, 1), (22, .ireturn, 1)]
theorem zo_cL_entry_0 : zd_ok cL_entry zl_cL_entry_0 = true := by decide +kernel
theorem dL_entry_0 : decode cL_entry 0 = .ok (.aload_n 3, 1) := zd_at zo_cL_entry_0 0 rfl
theorem dL_entry_1 : decode cL_entry 1 = .ok (.iconst 0, 1) := zd_at zo_cL_entry_0 1 rfl
theorem dL_entry_2 : decode cL_entry 2 = .ok (.aload_n 0, 1) := zd_at zo_cL_entry_0 2 rfl
theorem dL_entry_3 : decode cL_entry 3 = .ok (.iload_n 1, 1) := zd_at zo_cL_entry_0 3 rfl
theorem dL_entry_4 : decode cL_entry 4 = .ok (.iload_n 2, 1) := zd_at zo_cL_entry_0 4 rfl
theorem dL_entry_5 : decode cL_entry 5 = .ok (.invokevirtual 29, 3) := zd_at zo_cL_entry_0 5 rfl
theorem dL_entry_8 : decode cL_entry 8 = .ok (.i2l, 1) := zd_at zo_cL_entry_0 6 rfl
theorem dL_entry_9 : decode cL_entry 9 = .ok (.lastore, 1) := zd_at zo_cL_entry_0 7 rfl
theorem dL_entry_10 : decode cL_entry 10 = .ok (.goto 11, 3) := zd_at zo_cL_entry_0 8 rfl
theorem dL_entry_13 : decode cL_entry 13 = .ok (.astore 4, 2) := zd_at zo_cL_entry_0 9 rfl
theorem dL_entry_15 : decode cL_entry 15 = .ok (.iconst 1, 1) := zd_at zo_cL_entry_0 10 rfl
theorem dL_entry_16 : decode cL_entry 16 = .ok (.ireturn, 1) := zd_at zo_cL_entry_0 11 rfl
theorem dL_entry_17 : decode cL_entry 17 = .ok (.astore 4, 2) := zd_at zo_cL_entry_0 12 rfl
theorem dL_entry_19 : decode cL_entry 19 = .ok (.iconst 2, 1) := zd_at zo_cL_entry_0 13 rfl
theorem dL_entry_20 : decode cL_entry 20 = .ok (.ireturn, 1) := zd_at zo_cL_entry_0 14 rfl
theorem dL_entry_21 : decode cL_entry 21 = .ok (.iconst 0, 1) := zd_at zo_cL_entry_0 15 rfl
theorem dL_entry_22 : decode cL_entry 22 = .ok (.ireturn, 1) := zd_at zo_cL_entry_0 16 rfl
def zl_cL_add_0 : List (Nat × Instr × Nat) := [(0, .aload 5, 2), (2, .iconst 0, 1), (3, .aload_n 0, 1), (4, .iload_n 1, 1), (5, .iload_n 2, 1), (6, .iload_n 3, 1), (7, .iload 4, 2), (9, .invokevirtual 32, 3), (12, .i2l, 1), (13, .lastore, 1), (14, .goto 11, 3), (17, .astore 6, 2), (19, .iconst 1, 1), (20, .ireturn, 1), (21, .astore 6, 2), (23, .iconst 2, 1), (24, .ireturn, 1), (25, .iconst 0, 1), (26, .ireturn, 1)]
theorem zo_cL_add_0 : zd_ok cL_add zl_cL_add_0 = true := by decide +kernel
theorem dL_add_0 : decode cL_add 0 = .ok (.aload 5, 2) := zd_at zo_cL_add_0 0 rfl
theorem dL_add_2 : decode cL_add 2 = .ok (.iconst 0, 1) := zd_at zo_cL_add_0 1 rfl
theorem dL_add_3 : decode cL_add 3 = .ok (.aload_n 0, 1) := zd_at zo_cL_add_0 2 rfl
theorem dL_add_4 : decode cL_add 4 = .ok (.iload_n 1, 1) := zd_at zo_cL_add_0 3 rfl
theorem dL_add_5 : decode cL_add 5 = .ok (.iload_n 2, 1) := zd_at zo_cL_add_0 4 rfl
theorem dL_add_6 : decode cL_add 6 = .ok (.iload_n 3, 1) := zd_at zo_cL_add_0 5 rfl
theorem dL_add_7 : decode cL_add 7 = .ok (.iload 4, 2) := zd_at zo_cL_add_0 6 rfl
theorem dL_add_9 : decode cL_add 9 = .ok (.invokevirtual 32, 3) := zd_at zo_cL_add_0 7 rfl
theorem dL_add_12 : decode cL_add 12 = .ok (.i2l, 1) := zd_at zo_cL_add_0 8 rfl
theorem dL_add_13 : decode cL_add 13 = .ok (.lastore, 1) := zd_at zo_cL_add_0 9 rfl
theorem dL_add_14 : decode cL_add 14 = .ok (.goto 11, 3) := zd_at zo_cL_add_0 10 rfl
theorem dL_add_17 : decode cL_add 17 = .ok (.astore 6, 2) := zd_at zo_cL_add_0 11 rfl
theorem dL_add_19 : decode cL_add 19 = .ok (.iconst 1, 1) := zd_at zo_cL_add_0 12 rfl
theorem dL_add_20 : decode cL_add 20 = .ok (.ireturn, 1) := zd_at zo_cL_add_0 13 rfl
theorem dL_add_21 : decode cL_add 21 = .ok (.astore 6, 2) := zd_at zo_cL_add_0 14 rfl
theorem dL_add_23 : decode cL_add 23 = .ok (.iconst 2, 1) := zd_at zo_cL_add_0 15 rfl
theorem dL_add_24 : decode cL_add 24 = .ok (.ireturn, 1) := zd_at zo_cL_add_0 16 rfl
theorem dL_add_25 : decode cL_add 25 = .ok (.iconst 0, 1) := zd_at zo_cL_add_0 17 rfl
theorem dL_add_26 : decode cL_add 26 = .ok (.ireturn, 1) := zd_at zo_cL_add_0 18 rfl
def zl_cL_addAll_0 : List (Nat × Instr × Nat) := [(0, .aload_n 1, 1), (1, .iconst 0, 1), (2, .aload_n 0, 1), (3, .invokevirtual 36, 3), (6, .i2l, 1), (7, .lastore, 1), (8, .goto 6, 3), (11, .astore_n 2, 1), (12, .iconst 1, 1), (13, .ireturn, 1), (14, .iconst 0, 1), (15, .ireturn, 1)]
theorem zo_cL_addAll_0 : zd_ok cL_addAll zl_cL_addAll_0 = true := by decide +kernel
theorem dL_addAll_0 : decode cL_addAll 0 = .ok (.aload_n 1, 1) := zd_at zo_cL_addAll_0 0 rfl
theorem dL_addAll_1 : decode cL_addAll 1 = .ok (.iconst 0, 1) := zd_at zo_cL_addAll_0 1 rfl
theorem dL_addAll_2 : decode cL_addAll 2 = .ok (.aload_n 0, 1) := zd_at zo_cL_addAll_0 2 rfl
theorem dL_addAll_3 : decode cL_addAll 3 = .ok (.invokevirtual 36, 3) := zd_at zo_cL_addAll_0 3 rfl
theorem dL_addAll_6 : decode cL_addAll 6 = .ok (.i2l, 1) := zd_at zo_cL_addAll_0 4 rfl
theorem dL_addAll_7 : decode cL_addAll 7 = .ok (.lastore, 1) := zd_at zo_cL_addAll_0 5 rfl
theorem dL_addAll_8 : decode cL_addAll 8 = .ok (.goto 6, 3) := zd_at zo_cL_addAll_0 6 rfl
theorem dL_addAll_11 : decode cL_addAll 11 = .ok (.astore_n 2, 1) := zd_at zo_cL_addAll_0 7 rfl
theorem dL_addAll_12 : decode cL_addAll 12 = .ok (.iconst 1, 1) := zd_at zo_cL_addAll_0 8 rfl
theorem dL_addAll_13 : decode cL_addAll 13 = .ok (.ireturn, 1) := zd_at zo_cL_addAll_0 9 rfl
theorem dL_addAll_14 : decode cL_addAll 14 = .ok (.iconst 0, 1) := zd_at zo_cL_addAll_0 10 rfl
theorem dL_addAll_15 : decode cL_addAll 15 = .ok (.ireturn, 1) := zd_at zo_cL_addAll_0 11 rfl
def zl_cL_remove_0 : List (Nat × Instr × Nat) := [(0, .aload_n 2, 1), (1, .iconst 0, 1), (2, .aload_n 0, 1), (3, .iload_n 1, 1), (4, .invokevirtual 40, 3), (7, .i2l, 1), (8, .lastore, 1), (9, .goto 6, 3), (12, .astore_n 3, 1), (13, .iconst 1, 1), (14, .ireturn, 1), (15, .iconst 0, 1), (16, .ireturn, 1)]
theorem zo_cL_remove_0 : zd_ok cL_remove zl_cL_remove_0 = true := by decide +kernel
theorem dL_remove_0 : decode cL_remove 0 = .ok (.aload_n 2, 1) := zd_at zo_cL_remove_0 0 rfl
theorem dL_remove_1 : decode cL_remove 1 = .ok (.iconst 0, 1) := zd_at zo_cL_remove_0 1 rfl
theorem dL_remove_2 : decode cL_remove 2 = .ok (.aload_n 0, 1) := zd_at zo_cL_remove_0 2 rfl
theorem dL_remove_3 : decode cL_remove 3 = .ok (.iload_n 1, 1) := zd_at zo_cL_remove_0 3 rfl
theorem dL_remove_4 : decode cL_remove 4 = .ok (.invokevirtual 40, 3) := zd_at zo_cL_remove_0 4 rfl
theorem dL_remove_7 : decode cL_remove 7 = .ok (.i2l, 1) := zd_at zo_cL_remove_0 5 rfl
theorem dL_remove_8 : decode cL_remove 8 = .ok (.lastore, 1) := zd_at zo_cL_remove_0 6 rfl
theorem dL_remove_9 : decode cL_remove 9 = .ok (.goto 6, 3) := zd_at zo_cL_remove_0 7 rfl
theorem dL_remove_12 : decode cL_remove 12 = .ok (.astore_n 3, 1) := zd_at zo_cL_remove_0 8 rfl
theorem dL_remove_13 : decode cL_remove 13 = .ok (.iconst 1, 1) := zd_at zo_cL_remove_0 9 rfl
theorem dL_remove_14 : decode cL_remove 14 = .ok (.ireturn, 1) := zd_at zo_cL_remove_0 10 rfl
theorem dL_remove_15 : decode cL_remove 15 = .ok (.iconst 0, 1) := zd_at zo_cL_remove_0 11 rfl
theorem dL_remove_16 : decode cL_remove 16 = .ok (.ireturn, 1) := zd_at zo_cL_remove_0 12 rfl
def zl_cL_move_0 : List (Nat × Instr × Nat) := [(0, .aload 4, 2), (2, .iconst 0, 1), (3, .aload_n 0, 1), (4, .iload_n 1, 1), (5, .iload_n 2, 1), (6, .iload_n 3, 1), (7, .invokevirtual 43, 3), (10, .i2l, 1), (11, .lastore, 1), (12, .goto 15, 3), (15, .astore 5, 2), (17, .iconst 1, 1), (18, .ireturn, 1), (19, .astore 5, 2), (21, .iconst 2, 1), (22, .ireturn, 1), (23, .astore 5, 2), (25, .iconst 3, 1), (26, .ireturn, 1), (27, .iconst 0, 1), (28, .ireturn, 1)]
theorem zo_cL_move_0 : zd_ok cL_move zl_cL_move_0 = true := by decide +kernel
theorem dL_move_0 : decode cL_move 0 = .ok (.aload 4, 2) := zd_at zo_cL_move_0 0 rfl
theorem dL_move_2 : decode cL_move 2 = .ok (.iconst 0, 1) := zd_at zo_cL_move_0 1 rfl
theorem dL_move_3 : decode cL_move 3 = .ok (.aload_n 0, 1) := zd_at zo_cL_move_0 2 rfl
theorem dL_move_4 : decode cL_move 4 = .ok (.iload_n 1, 1) := zd_at zo_cL_move_0 3 rfl
theorem dL_move_5 : decode cL_move 5 = .ok (.iload_n 2, 1) := zd_at zo_cL_move_0 4 rfl
theorem dL_move_6 : decode cL_move 6 = .ok (.iload_n 3, 1) := zd_at zo_cL_move_0 5 rfl
theorem dL_move_7 : decode cL_move 7 = .ok (.invokevirtual 43, 3) := zd_at zo_cL_move_0 6 rfl
theorem dL_move_10 : decode cL_move 10 = .ok (.i2l, 1) := zd_at zo_cL_move_0 7 rfl
theorem dL_move_11 : decode cL_move 11 = .ok (.lastore, 1) := zd_at zo_cL_move_0 8 rfl
theorem dL_move_12 : decode cL_move 12 = .ok (.goto 15, 3) := zd_at zo_cL_move_0 9 rfl
theorem dL_move_15 : decode cL_move 15 = .ok (.astore 5, 2) := zd_at zo_cL_move_0 10 rfl
theorem dL_move_17 : decode cL_move 17 = .ok (.iconst 1, 1) := zd_at zo_cL_move_0 11 rfl
theorem dL_move_18 : decode cL_move 18 = .ok (.ireturn, 1) := zd_at zo_cL_move_0 12 rfl
theorem dL_move_19 : decode cL_move 19 = .ok (.astore 5, 2) := zd_at zo_cL_move_0 13 rfl
theorem dL_move_21 : decode cL_move 21 = .ok (.iconst 2, 1) := zd_at zo_cL_move_0 14 rfl
theorem dL_move_22 : decode cL_move 22 = .ok (.ireturn, 1) := zd_at zo_cL_move_0 15 rfl
theorem dL_move_23 : decode cL_move 23 = .ok (.astore 5, 2) := zd_at zo_cL_move_0 16 rfl
theorem dL_move_25 : decode cL_move 25 = .ok (.iconst 3, 1) := zd_at zo_cL_move_0 17 rfl
theorem dL_move_26 : decode cL_move 26 = .ok (.ireturn, 1) := zd_at zo_cL_move_0 18 rfl
theorem dL_move_27 : decode cL_move 27 = .ok (.iconst 0, 1) := zd_at zo_cL_move_0 19 rfl
theorem dL_move_28 : decode cL_move 28 = .ok (.ireturn, 1) := zd_at zo_cL_move_0 20 rfl
def zl_cL_undo_0 : List (Nat × Instr × Nat) := [(0, .aload_n 1, 1), (1, .iconst 0, 1), (2, .aload_n 0, 1), (3, .invokevirtual 47, 3), (6, .i2l, 1), (7, .lastore, 1), (8, .goto 6, 3), (11, .astore_n 2, 1), (12, .iconst 1, 1), (13, .ireturn, 1), (14, .iconst 0, 1), (15, .ireturn, 1)]
theorem zo_cL_undo_0 : zd_ok cL_undo zl_cL_undo_0 = true := by decide +kernel
theorem dL_undo_0 : decode cL_undo 0 = .ok (.aload_n 1, 1) := zd_at zo_cL_undo_0 0 rfl
theorem dL_undo_1 : decode cL_undo 1 = .ok (.iconst 0, 1) := zd_at zo_cL_undo_0 1 rfl
theorem dL_undo_2 : decode cL_undo 2 = .ok (.aload_n 0, 1) := zd_at zo_cL_undo_0 2 rfl
theorem dL_undo_3 : decode cL_undo 3 = .ok (.invokevirtual 47, 3) := zd_at zo_cL_undo_0 3 rfl
theorem dL_undo_6 : decode cL_undo 6 = .ok (.i2l, 1) := zd_at zo_cL_undo_0 4 rfl
theorem dL_undo_7 : decode cL_undo 7 = .ok (.lastore, 1) := zd_at zo_cL_undo_0 5 rfl
theorem dL_undo_8 : decode cL_undo 8 = .ok (.goto 6, 3) := zd_at zo_cL_undo_0 6 rfl
theorem dL_undo_11 : decode cL_undo 11 = .ok (.astore_n 2, 1) := zd_at zo_cL_undo_0 7 rfl
theorem dL_undo_12 : decode cL_undo 12 = .ok (.iconst 1, 1) := zd_at zo_cL_undo_0 8 rfl
theorem dL_undo_13 : decode cL_undo 13 = .ok (.ireturn, 1) := zd_at zo_cL_undo_0 9 rfl
theorem dL_undo_14 : decode cL_undo 14 = .ok (.iconst 0, 1) := zd_at zo_cL_undo_0 10 rfl
theorem dL_undo_15 : decode cL_undo 15 = .ok (.ireturn, 1) := zd_at zo_cL_undo_0 11 rfl
def zl_cL_window_0 : List (Nat × Instr × Nat) := [(0, .aload 5, 2), (2, .iconst 0, 1), (3, .aload_n 0, 1), (4, .iload_n 1, 1), (5, .iload_n 2, 1), (6, .iload_n 3, 1), (7, .iload 4, 2), (9, .invokevirtual 50, 3), (12, .i2l, 1), (13, .lastore, 1), (14, .goto 7, 3), (17, .astore 6, 2), (19, .iconst 1, 1), (20, .ireturn, 1), (21, .iconst 0, 1), (22, .ireturn, 1)]
theorem zo_cL_window_0 : zd_ok cL_window zl_cL_window_0 = true := by decide +kernel
theorem dL_window_0 : decode cL_window 0 = .ok (.aload 5, 2) := zd_at zo_cL_window_0 0 rfl
theorem dL_window_2 : decode cL_window 2 = .ok (.iconst 0, 1) := zd_at zo_cL_window_0 1 rfl
theorem dL_window_3 : decode cL_window 3 = .ok (.aload_n 0, 1) := zd_at zo_cL_window_0 2 rfl
theorem dL_window_4 : decode cL_window 4 = .ok (.iload_n 1, 1) := zd_at zo_cL_window_0 3 rfl
theorem dL_window_5 : decode cL_window 5 = .ok (.iload_n 2, 1) := zd_at zo_cL_window_0 4 rfl
theorem dL_window_6 : decode cL_window 6 = .ok (.iload_n 3, 1) := zd_at zo_cL_window_0 5 rfl
theorem dL_window_7 : decode cL_window 7 = .ok (.iload 4, 2) := zd_at zo_cL_window_0 6 rfl
theorem dL_window_9 : decode cL_window 9 = .ok (.invokevirtual 50, 3) := zd_at zo_cL_window_0 7 rfl
theorem dL_window_12 : decode cL_window 12 = .ok (.i2l, 1) := zd_at zo_cL_window_0 8 rfl
theorem dL_window_13 : decode cL_window 13 = .ok (.lastore, 1) := zd_at zo_cL_window_0 9 rfl
theorem dL_window_14 : decode cL_window 14 = .ok (.goto 7, 3) := zd_at zo_cL_window_0 10 rfl
theorem dL_window_17 : decode cL_window 17 = .ok (.astore 6, 2) := zd_at zo_cL_window_0 11 rfl
theorem dL_window_19 : decode cL_window 19 = .ok (.iconst 1, 1) := zd_at zo_cL_window_0 12 rfl
theorem dL_window_20 : decode cL_window 20 = .ok (.ireturn, 1) := zd_at zo_cL_window_0 13 rfl
theorem dL_window_21 : decode cL_window 21 = .ok (.iconst 0, 1) := zd_at zo_cL_window_0 14 rfl
theorem dL_window_22 : decode cL_window 22 = .ok (.ireturn, 1) := zd_at zo_cL_window_0 15 rfl
def zl_cL_looks_0 : List (Nat × Instr × Nat) := [(0, .aload 5, 2), (2, .iconst 0, 1), (3, .aload_n 0, 1), (4, .iload_n 1, 1), (5, .iload_n 2, 1), (6, .iload_n 3, 1), (7, .iload 4, 2), (9, .invokevirtual 53, 3), (12, .i2l, 1), (13, .lastore, 1), (14, .goto 7, 3), (17, .astore 6, 2), (19, .iconst 1, 1), (20, .ireturn, 1), (21, .iconst 0, 1), (22, .ireturn, 1)]
theorem zo_cL_looks_0 : zd_ok cL_looks zl_cL_looks_0 = true := by decide +kernel
theorem dL_looks_0 : decode cL_looks 0 = .ok (.aload 5, 2) := zd_at zo_cL_looks_0 0 rfl
theorem dL_looks_2 : decode cL_looks 2 = .ok (.iconst 0, 1) := zd_at zo_cL_looks_0 1 rfl
theorem dL_looks_3 : decode cL_looks 3 = .ok (.aload_n 0, 1) := zd_at zo_cL_looks_0 2 rfl
theorem dL_looks_4 : decode cL_looks 4 = .ok (.iload_n 1, 1) := zd_at zo_cL_looks_0 3 rfl
theorem dL_looks_5 : decode cL_looks 5 = .ok (.iload_n 2, 1) := zd_at zo_cL_looks_0 4 rfl
theorem dL_looks_6 : decode cL_looks 6 = .ok (.iload_n 3, 1) := zd_at zo_cL_looks_0 5 rfl
theorem dL_looks_7 : decode cL_looks 7 = .ok (.iload 4, 2) := zd_at zo_cL_looks_0 6 rfl
theorem dL_looks_9 : decode cL_looks 9 = .ok (.invokevirtual 53, 3) := zd_at zo_cL_looks_0 7 rfl
theorem dL_looks_12 : decode cL_looks 12 = .ok (.i2l, 1) := zd_at zo_cL_looks_0 8 rfl
theorem dL_looks_13 : decode cL_looks 13 = .ok (.lastore, 1) := zd_at zo_cL_looks_0 9 rfl
theorem dL_looks_14 : decode cL_looks 14 = .ok (.goto 7, 3) := zd_at zo_cL_looks_0 10 rfl
theorem dL_looks_17 : decode cL_looks 17 = .ok (.astore 6, 2) := zd_at zo_cL_looks_0 11 rfl
theorem dL_looks_19 : decode cL_looks 19 = .ok (.iconst 1, 1) := zd_at zo_cL_looks_0 12 rfl
theorem dL_looks_20 : decode cL_looks 20 = .ok (.ireturn, 1) := zd_at zo_cL_looks_0 13 rfl
theorem dL_looks_21 : decode cL_looks 21 = .ok (.iconst 0, 1) := zd_at zo_cL_looks_0 14 rfl
theorem dL_looks_22 : decode cL_looks 22 = .ok (.ireturn, 1) := zd_at zo_cL_looks_0 15 rfl
def zl_cL_nearest_0 : List (Nat × Instr × Nat) := [(0, .aload 4, 2), (2, .iconst 0, 1), (3, .aload_n 0, 1), (4, .iload_n 1, 1), (5, .iload_n 2, 1), (6, .iload_n 3, 1), (7, .invokevirtual 56, 3), (10, .i2l, 1), (11, .lastore, 1), (12, .goto 7, 3), (15, .astore 5, 2), (17, .iconst 1, 1), (18, .ireturn, 1), (19, .iconst 0, 1), (20, .ireturn, 1)]
theorem zo_cL_nearest_0 : zd_ok cL_nearest zl_cL_nearest_0 = true := by decide +kernel
theorem dL_nearest_0 : decode cL_nearest 0 = .ok (.aload 4, 2) := zd_at zo_cL_nearest_0 0 rfl
theorem dL_nearest_2 : decode cL_nearest 2 = .ok (.iconst 0, 1) := zd_at zo_cL_nearest_0 1 rfl
theorem dL_nearest_3 : decode cL_nearest 3 = .ok (.aload_n 0, 1) := zd_at zo_cL_nearest_0 2 rfl
theorem dL_nearest_4 : decode cL_nearest 4 = .ok (.iload_n 1, 1) := zd_at zo_cL_nearest_0 3 rfl
theorem dL_nearest_5 : decode cL_nearest 5 = .ok (.iload_n 2, 1) := zd_at zo_cL_nearest_0 4 rfl
theorem dL_nearest_6 : decode cL_nearest 6 = .ok (.iload_n 3, 1) := zd_at zo_cL_nearest_0 5 rfl
theorem dL_nearest_7 : decode cL_nearest 7 = .ok (.invokevirtual 56, 3) := zd_at zo_cL_nearest_0 6 rfl
theorem dL_nearest_10 : decode cL_nearest 10 = .ok (.i2l, 1) := zd_at zo_cL_nearest_0 7 rfl
theorem dL_nearest_11 : decode cL_nearest 11 = .ok (.lastore, 1) := zd_at zo_cL_nearest_0 8 rfl
theorem dL_nearest_12 : decode cL_nearest 12 = .ok (.goto 7, 3) := zd_at zo_cL_nearest_0 9 rfl
theorem dL_nearest_15 : decode cL_nearest 15 = .ok (.astore 5, 2) := zd_at zo_cL_nearest_0 10 rfl
theorem dL_nearest_17 : decode cL_nearest 17 = .ok (.iconst 1, 1) := zd_at zo_cL_nearest_0 11 rfl
theorem dL_nearest_18 : decode cL_nearest 18 = .ok (.ireturn, 1) := zd_at zo_cL_nearest_0 12 rfl
theorem dL_nearest_19 : decode cL_nearest 19 = .ok (.iconst 0, 1) := zd_at zo_cL_nearest_0 13 rfl
theorem dL_nearest_20 : decode cL_nearest 20 = .ok (.ireturn, 1) := zd_at zo_cL_nearest_0 14 rfl
def zl_cL_chosen_0 : List (Nat × Instr × Nat) := [(0, .aload 5, 2), (2, .iconst 0, 1), (3, .aload_n 0, 1), (4, .iload_n 1, 1), (5, .iload_n 2, 1), (6, .iload_n 3, 1), (7, .iload 4, 2), (9, .invokevirtual 59, 3), (12, .i2l, 1), (13, .lastore, 1), (14, .goto 7, 3), (17, .astore 6, 2), (19, .iconst 1, 1), (20, .ireturn, 1), (21, .iconst 0, 1), (22, .ireturn, 1)]
theorem zo_cL_chosen_0 : zd_ok cL_chosen zl_cL_chosen_0 = true := by decide +kernel
theorem dL_chosen_0 : decode cL_chosen 0 = .ok (.aload 5, 2) := zd_at zo_cL_chosen_0 0 rfl
theorem dL_chosen_2 : decode cL_chosen 2 = .ok (.iconst 0, 1) := zd_at zo_cL_chosen_0 1 rfl
theorem dL_chosen_3 : decode cL_chosen 3 = .ok (.aload_n 0, 1) := zd_at zo_cL_chosen_0 2 rfl
theorem dL_chosen_4 : decode cL_chosen 4 = .ok (.iload_n 1, 1) := zd_at zo_cL_chosen_0 3 rfl
theorem dL_chosen_5 : decode cL_chosen 5 = .ok (.iload_n 2, 1) := zd_at zo_cL_chosen_0 4 rfl
theorem dL_chosen_6 : decode cL_chosen 6 = .ok (.iload_n 3, 1) := zd_at zo_cL_chosen_0 5 rfl
theorem dL_chosen_7 : decode cL_chosen 7 = .ok (.iload 4, 2) := zd_at zo_cL_chosen_0 6 rfl
theorem dL_chosen_9 : decode cL_chosen 9 = .ok (.invokevirtual 59, 3) := zd_at zo_cL_chosen_0 7 rfl
theorem dL_chosen_12 : decode cL_chosen 12 = .ok (.i2l, 1) := zd_at zo_cL_chosen_0 8 rfl
theorem dL_chosen_13 : decode cL_chosen 13 = .ok (.lastore, 1) := zd_at zo_cL_chosen_0 9 rfl
theorem dL_chosen_14 : decode cL_chosen 14 = .ok (.goto 7, 3) := zd_at zo_cL_chosen_0 10 rfl
theorem dL_chosen_17 : decode cL_chosen 17 = .ok (.astore 6, 2) := zd_at zo_cL_chosen_0 11 rfl
theorem dL_chosen_19 : decode cL_chosen 19 = .ok (.iconst 1, 1) := zd_at zo_cL_chosen_0 12 rfl
theorem dL_chosen_20 : decode cL_chosen 20 = .ok (.ireturn, 1) := zd_at zo_cL_chosen_0 13 rfl
theorem dL_chosen_21 : decode cL_chosen 21 = .ok (.iconst 0, 1) := zd_at zo_cL_chosen_0 14 rfl
theorem dL_chosen_22 : decode cL_chosen 22 = .ok (.ireturn, 1) := zd_at zo_cL_chosen_0 15 rfl
def zl_cL_ifAdded_0 : List (Nat × Instr × Nat) := [(0, .aload 5, 2), (2, .iconst 0, 1), (3, .aload_n 0, 1), (4, .iload_n 1, 1), (5, .iload_n 2, 1), (6, .iload_n 3, 1), (7, .iload 4, 2), (9, .invokevirtual 62, 3), (12, .i2l, 1), (13, .lastore, 1), (14, .goto 7, 3), (17, .astore 6, 2), (19, .iconst 1, 1), (20, .ireturn, 1), (21, .iconst 0, 1), (22, .ireturn, 1)]
theorem zo_cL_ifAdded_0 : zd_ok cL_ifAdded zl_cL_ifAdded_0 = true := by decide +kernel
theorem dL_ifAdded_0 : decode cL_ifAdded 0 = .ok (.aload 5, 2) := zd_at zo_cL_ifAdded_0 0 rfl
theorem dL_ifAdded_2 : decode cL_ifAdded 2 = .ok (.iconst 0, 1) := zd_at zo_cL_ifAdded_0 1 rfl
theorem dL_ifAdded_3 : decode cL_ifAdded 3 = .ok (.aload_n 0, 1) := zd_at zo_cL_ifAdded_0 2 rfl
theorem dL_ifAdded_4 : decode cL_ifAdded 4 = .ok (.iload_n 1, 1) := zd_at zo_cL_ifAdded_0 3 rfl
theorem dL_ifAdded_5 : decode cL_ifAdded 5 = .ok (.iload_n 2, 1) := zd_at zo_cL_ifAdded_0 4 rfl
theorem dL_ifAdded_6 : decode cL_ifAdded 6 = .ok (.iload_n 3, 1) := zd_at zo_cL_ifAdded_0 5 rfl
theorem dL_ifAdded_7 : decode cL_ifAdded 7 = .ok (.iload 4, 2) := zd_at zo_cL_ifAdded_0 6 rfl
theorem dL_ifAdded_9 : decode cL_ifAdded 9 = .ok (.invokevirtual 62, 3) := zd_at zo_cL_ifAdded_0 7 rfl
theorem dL_ifAdded_12 : decode cL_ifAdded 12 = .ok (.i2l, 1) := zd_at zo_cL_ifAdded_0 8 rfl
theorem dL_ifAdded_13 : decode cL_ifAdded 13 = .ok (.lastore, 1) := zd_at zo_cL_ifAdded_0 9 rfl
theorem dL_ifAdded_14 : decode cL_ifAdded 14 = .ok (.goto 7, 3) := zd_at zo_cL_ifAdded_0 10 rfl
theorem dL_ifAdded_17 : decode cL_ifAdded 17 = .ok (.astore 6, 2) := zd_at zo_cL_ifAdded_0 11 rfl
theorem dL_ifAdded_19 : decode cL_ifAdded 19 = .ok (.iconst 1, 1) := zd_at zo_cL_ifAdded_0 12 rfl
theorem dL_ifAdded_20 : decode cL_ifAdded 20 = .ok (.ireturn, 1) := zd_at zo_cL_ifAdded_0 13 rfl
theorem dL_ifAdded_21 : decode cL_ifAdded 21 = .ok (.iconst 0, 1) := zd_at zo_cL_ifAdded_0 14 rfl
theorem dL_ifAdded_22 : decode cL_ifAdded 22 = .ok (.ireturn, 1) := zd_at zo_cL_ifAdded_0 15 rfl
def zl_cL_runScript_0 : List (Nat × Instr × Nat) := [(0, .aload 4, 2), (2, .iconst 0, 1), (3, .aload_n 0, 1), (4, .iload_n 1, 1), (5, .lload_n 2, 1), (6, .invokevirtual 65, 3), (9, .i2l, 1), (10, .lastore, 1), (11, .goto 7, 3), (14, .astore 5, 2), (16, .iconst 1, 1), (17, .ireturn, 1), (18, .iconst 0, 1), (19, .ireturn, 1)]
theorem zo_cL_runScript_0 : zd_ok cL_runScript zl_cL_runScript_0 = true := by decide +kernel
theorem dL_runScript_0 : decode cL_runScript 0 = .ok (.aload 4, 2) := zd_at zo_cL_runScript_0 0 rfl
theorem dL_runScript_2 : decode cL_runScript 2 = .ok (.iconst 0, 1) := zd_at zo_cL_runScript_0 1 rfl
theorem dL_runScript_3 : decode cL_runScript 3 = .ok (.aload_n 0, 1) := zd_at zo_cL_runScript_0 2 rfl
theorem dL_runScript_4 : decode cL_runScript 4 = .ok (.iload_n 1, 1) := zd_at zo_cL_runScript_0 3 rfl
theorem dL_runScript_5 : decode cL_runScript 5 = .ok (.lload_n 2, 1) := zd_at zo_cL_runScript_0 4 rfl
theorem dL_runScript_6 : decode cL_runScript 6 = .ok (.invokevirtual 65, 3) := zd_at zo_cL_runScript_0 5 rfl
theorem dL_runScript_9 : decode cL_runScript 9 = .ok (.i2l, 1) := zd_at zo_cL_runScript_0 6 rfl
theorem dL_runScript_10 : decode cL_runScript 10 = .ok (.lastore, 1) := zd_at zo_cL_runScript_0 7 rfl
theorem dL_runScript_11 : decode cL_runScript 11 = .ok (.goto 7, 3) := zd_at zo_cL_runScript_0 8 rfl
theorem dL_runScript_14 : decode cL_runScript 14 = .ok (.astore 5, 2) := zd_at zo_cL_runScript_0 9 rfl
theorem dL_runScript_16 : decode cL_runScript 16 = .ok (.iconst 1, 1) := zd_at zo_cL_runScript_0 10 rfl
theorem dL_runScript_17 : decode cL_runScript 17 = .ok (.ireturn, 1) := zd_at zo_cL_runScript_0 11 rfl
theorem dL_runScript_18 : decode cL_runScript 18 = .ok (.iconst 0, 1) := zd_at zo_cL_runScript_0 12 rfl
theorem dL_runScript_19 : decode cL_runScript 19 = .ok (.ireturn, 1) := zd_at zo_cL_runScript_0 13 rfl
def zl_cL_simulate_0 : List (Nat × Instr × Nat) := [(0, .aload 4, 2), (2, .iconst 0, 1), (3, .aload_n 0, 1), (4, .lload_n 1, 1), (5, .iload_n 3, 1), (6, .invokevirtual 69, 3), (9, .i2l, 1), (10, .lastore, 1), (11, .goto 7, 3), (14, .astore 5, 2), (16, .iconst 1, 1), (17, .ireturn, 1), (18, .iconst 0, 1), (19, .ireturn, 1)]
theorem zo_cL_simulate_0 : zd_ok cL_simulate zl_cL_simulate_0 = true := by decide +kernel
theorem dL_simulate_0 : decode cL_simulate 0 = .ok (.aload 4, 2) := zd_at zo_cL_simulate_0 0 rfl
theorem dL_simulate_2 : decode cL_simulate 2 = .ok (.iconst 0, 1) := zd_at zo_cL_simulate_0 1 rfl
theorem dL_simulate_3 : decode cL_simulate 3 = .ok (.aload_n 0, 1) := zd_at zo_cL_simulate_0 2 rfl
theorem dL_simulate_4 : decode cL_simulate 4 = .ok (.lload_n 1, 1) := zd_at zo_cL_simulate_0 3 rfl
theorem dL_simulate_5 : decode cL_simulate 5 = .ok (.iload_n 3, 1) := zd_at zo_cL_simulate_0 4 rfl
theorem dL_simulate_6 : decode cL_simulate 6 = .ok (.invokevirtual 69, 3) := zd_at zo_cL_simulate_0 5 rfl
theorem dL_simulate_9 : decode cL_simulate 9 = .ok (.i2l, 1) := zd_at zo_cL_simulate_0 6 rfl
theorem dL_simulate_10 : decode cL_simulate 10 = .ok (.lastore, 1) := zd_at zo_cL_simulate_0 7 rfl
theorem dL_simulate_11 : decode cL_simulate 11 = .ok (.goto 7, 3) := zd_at zo_cL_simulate_0 8 rfl
theorem dL_simulate_14 : decode cL_simulate 14 = .ok (.astore 5, 2) := zd_at zo_cL_simulate_0 9 rfl
theorem dL_simulate_16 : decode cL_simulate 16 = .ok (.iconst 1, 1) := zd_at zo_cL_simulate_0 10 rfl
theorem dL_simulate_17 : decode cL_simulate 17 = .ok (.ireturn, 1) := zd_at zo_cL_simulate_0 11 rfl
theorem dL_simulate_18 : decode cL_simulate 18 = .ok (.iconst 0, 1) := zd_at zo_cL_simulate_0 12 rfl
theorem dL_simulate_19 : decode cL_simulate 19 = .ok (.ireturn, 1) := zd_at zo_cL_simulate_0 13 rfl
def zl_cL_save_0 : List (Nat × Instr × Nat) := [(0, .aload_n 2, 1), (1, .iconst 0, 1), (2, .aload_n 0, 1), (3, .iload_n 1, 1), (4, .invokevirtual 73, 3), (7, .i2l, 1), (8, .lastore, 1), (9, .goto 6, 3), (12, .astore_n 3, 1), (13, .iconst 1, 1), (14, .ireturn, 1), (15, .iconst 0, 1), (16, .ireturn, 1)]
theorem zo_cL_save_0 : zd_ok cL_save zl_cL_save_0 = true := by decide +kernel
theorem dL_save_0 : decode cL_save 0 = .ok (.aload_n 2, 1) := zd_at zo_cL_save_0 0 rfl
theorem dL_save_1 : decode cL_save 1 = .ok (.iconst 0, 1) := zd_at zo_cL_save_0 1 rfl
theorem dL_save_2 : decode cL_save 2 = .ok (.aload_n 0, 1) := zd_at zo_cL_save_0 2 rfl
theorem dL_save_3 : decode cL_save 3 = .ok (.iload_n 1, 1) := zd_at zo_cL_save_0 3 rfl
theorem dL_save_4 : decode cL_save 4 = .ok (.invokevirtual 73, 3) := zd_at zo_cL_save_0 4 rfl
theorem dL_save_7 : decode cL_save 7 = .ok (.i2l, 1) := zd_at zo_cL_save_0 5 rfl
theorem dL_save_8 : decode cL_save 8 = .ok (.lastore, 1) := zd_at zo_cL_save_0 6 rfl
theorem dL_save_9 : decode cL_save 9 = .ok (.goto 6, 3) := zd_at zo_cL_save_0 7 rfl
theorem dL_save_12 : decode cL_save 12 = .ok (.astore_n 3, 1) := zd_at zo_cL_save_0 8 rfl
theorem dL_save_13 : decode cL_save 13 = .ok (.iconst 1, 1) := zd_at zo_cL_save_0 9 rfl
theorem dL_save_14 : decode cL_save 14 = .ok (.ireturn, 1) := zd_at zo_cL_save_0 10 rfl
theorem dL_save_15 : decode cL_save 15 = .ok (.iconst 0, 1) := zd_at zo_cL_save_0 11 rfl
theorem dL_save_16 : decode cL_save 16 = .ok (.ireturn, 1) := zd_at zo_cL_save_0 12 rfl
def zl_cL_restore_0 : List (Nat × Instr × Nat) := [(0, .aload_n 2, 1), (1, .iconst 0, 1), (2, .aload_n 0, 1), (3, .iload_n 1, 1), (4, .invokevirtual 76, 3), (7, .i2l, 1), (8, .lastore, 1), (9, .goto 9, 3), (12, .astore_n 3, 1), (13, .iconst 1, 1), (14, .ireturn, 1), (15, .astore_n 3, 1), (16, .iconst 2, 1), (17, .ireturn, 1), (18, .iconst 0, 1), (19, .ireturn, 1)]
theorem zo_cL_restore_0 : zd_ok cL_restore zl_cL_restore_0 = true := by decide +kernel
theorem dL_restore_0 : decode cL_restore 0 = .ok (.aload_n 2, 1) := zd_at zo_cL_restore_0 0 rfl
theorem dL_restore_1 : decode cL_restore 1 = .ok (.iconst 0, 1) := zd_at zo_cL_restore_0 1 rfl
theorem dL_restore_2 : decode cL_restore 2 = .ok (.aload_n 0, 1) := zd_at zo_cL_restore_0 2 rfl
theorem dL_restore_3 : decode cL_restore 3 = .ok (.iload_n 1, 1) := zd_at zo_cL_restore_0 3 rfl
theorem dL_restore_4 : decode cL_restore 4 = .ok (.invokevirtual 76, 3) := zd_at zo_cL_restore_0 4 rfl
theorem dL_restore_7 : decode cL_restore 7 = .ok (.i2l, 1) := zd_at zo_cL_restore_0 5 rfl
theorem dL_restore_8 : decode cL_restore 8 = .ok (.lastore, 1) := zd_at zo_cL_restore_0 6 rfl
theorem dL_restore_9 : decode cL_restore 9 = .ok (.goto 9, 3) := zd_at zo_cL_restore_0 7 rfl
theorem dL_restore_12 : decode cL_restore 12 = .ok (.astore_n 3, 1) := zd_at zo_cL_restore_0 8 rfl
theorem dL_restore_13 : decode cL_restore 13 = .ok (.iconst 1, 1) := zd_at zo_cL_restore_0 9 rfl
theorem dL_restore_14 : decode cL_restore 14 = .ok (.ireturn, 1) := zd_at zo_cL_restore_0 10 rfl
theorem dL_restore_15 : decode cL_restore 15 = .ok (.astore_n 3, 1) := zd_at zo_cL_restore_0 11 rfl
theorem dL_restore_16 : decode cL_restore 16 = .ok (.iconst 2, 1) := zd_at zo_cL_restore_0 12 rfl
theorem dL_restore_17 : decode cL_restore 17 = .ok (.ireturn, 1) := zd_at zo_cL_restore_0 13 rfl
theorem dL_restore_18 : decode cL_restore 18 = .ok (.iconst 0, 1) := zd_at zo_cL_restore_0 14 rfl
theorem dL_restore_19 : decode cL_restore 19 = .ok (.ireturn, 1) := zd_at zo_cL_restore_0 15 rfl
def zl_cL_law_0 : List (Nat × Instr × Nat) := [(0, .new 8, 3), (3, .dup, 1), (4, .invokespecial 79, 3), (7, .astore_n 1, 1), (8, .new 80, 3), (11, .dup, 1), (12, .invokespecial 82, 3), (15, .astore_n 2, 1), (16, .iconst 1, 1), (17, .newarray .long, 2), (19, .astore_n 3, 1), (20, .iconst 0, 1), (21, .istore 4, 2), (23, .iload 4, 2), (25, .aload_n 0, 1), (26, .arraylength, 1), (27, .iconst 5, 1), (28, .isub, 1), (29, .if_icmp .gt 1565, 3), (32, .aload_n 0, 1), (33, .iload 4, 2), (35, .iaload, 1), (36, .bipush 31, 2), (38, .iand, 1), (39, .tableswitch 1549 0 22 #[105, 161, 174, 187, 243, 311, 379, 447, 539, 583, 639, 719, 763, 855, 947, 1027, 1119, 1211, 1224, 1237, 1337, 1437, 1493], 105), (144, .aload_n 1, 1), (145, .aload_n 0, 1), (146, .iload 4, 2), (148, .iconst 1, 1), (149, .iadd, 1), (150, .iaload, 1), (151, .aload_n 3, 1), (152, .invokestatic 83, 3), (155, .istore 5, 2), (157, .aload_n 2, 1), (158, .aload_n 0, 1), (159, .iload 4, 2), (161, .iconst 1, 1), (162, .iadd, 1), (163, .iaload, 1), (164, .invokevirtual 88, 3), (167, .istore 6, 2), (169, .aload_n 2, 1), (170, .invokevirtual 89, 3), (173, .iload 5, 2), (175, .if_icmp .eq 5, 3), (178, .iconst 0, 1), (179, .ireturn, 1), (180, .iload 5, 2), (182, .ifCond .ne 15, 3), (185, .aload_n 3, 1), (186, .iconst 0, 1), (187, .laload, 1), (188, .iload 6, 2), (190, .i2l, 1), (191, .lcmp, 1), (192, .ifCond .eq 5, 3), (195, .iconst 0, 1), (196, .ireturn, 1), (197, .goto 1391, 3), (200, .aload_n 1, 1), (201, .invokevirtual 92, 3), (204, .aload_n 2, 1), (205, .invokevirtual 95, 3), (208, .if_icmp .eq 1380, 3), (211, .iconst 0, 1), (212, .ireturn, 1), (213, .aload_n 1, 1), (214, .invokevirtual 96, 3), (217, .aload_n 2, 1), (218, .invokevirtual 99, 3), (221, .if_icmp .eq 1367, 3), (224, .iconst 0, 1), (225, .ireturn, 1), (226, .aload_n 1, 1), (227, .aload_n 0, 1), (228, .iload 4, 2), (230, .iconst 1, 1), (231, .iadd, 1), (232, .iaload, 1), (233, .aload_n 3, 1), (234, .invokestatic 100, 3), (237, .istore 5, 2), (239, .aload_n 2, 1), (240, .aload_n 0, 1), (241, .iload 4, 2), (243, .iconst 1, 1), (244, .iadd, 1), (245, .iaload, 1), (246, .invokevirtual 102, 3), (249, .istore 6, 2), (251, .aload_n 2, 1), (252, .invokevirtual 89, 3), (255, .iload 5, 2), (257, .if_icmp .eq 5, 3), (260, .iconst 0, 1), (261, .ireturn, 1), (262, .iload 5, 2), (264, .ifCond .ne 15, 3), (267, .aload_n 3, 1), (268, .iconst 0, 1), (269, .laload, 1), (270, .iload 6, 2), (272, .i2l, 1), (273, .lcmp, 1), (274, .ifCond .eq 5, 3), (277, .iconst 0, 1), (278, .ireturn, 1), (279, .goto 1309, 3), (282, .aload_n 1, 1), (283, .aload_n 0, 1), (284, .iload 4, 2), (286, .iconst 1, 1), (287, .iadd, 1), (288, .iaload, 1), (289, .aload_n 0, 1), (290, .iload 4, 2), (292, .iconst 2, 1), (293, .iadd, 1), (294, .iaload, 1)]
theorem zo_cL_law_0 : zd_ok cL_law zl_cL_law_0 = true := by decide +kernel
theorem dL_law_0 : decode cL_law 0 = .ok (.new 8, 3) := zd_at zo_cL_law_0 0 rfl
theorem dL_law_3 : decode cL_law 3 = .ok (.dup, 1) := zd_at zo_cL_law_0 1 rfl
theorem dL_law_4 : decode cL_law 4 = .ok (.invokespecial 79, 3) := zd_at zo_cL_law_0 2 rfl
theorem dL_law_7 : decode cL_law 7 = .ok (.astore_n 1, 1) := zd_at zo_cL_law_0 3 rfl
theorem dL_law_8 : decode cL_law 8 = .ok (.new 80, 3) := zd_at zo_cL_law_0 4 rfl
theorem dL_law_11 : decode cL_law 11 = .ok (.dup, 1) := zd_at zo_cL_law_0 5 rfl
theorem dL_law_12 : decode cL_law 12 = .ok (.invokespecial 82, 3) := zd_at zo_cL_law_0 6 rfl
theorem dL_law_15 : decode cL_law 15 = .ok (.astore_n 2, 1) := zd_at zo_cL_law_0 7 rfl
theorem dL_law_16 : decode cL_law 16 = .ok (.iconst 1, 1) := zd_at zo_cL_law_0 8 rfl
theorem dL_law_17 : decode cL_law 17 = .ok (.newarray .long, 2) := zd_at zo_cL_law_0 9 rfl
theorem dL_law_19 : decode cL_law 19 = .ok (.astore_n 3, 1) := zd_at zo_cL_law_0 10 rfl
theorem dL_law_20 : decode cL_law 20 = .ok (.iconst 0, 1) := zd_at zo_cL_law_0 11 rfl
theorem dL_law_21 : decode cL_law 21 = .ok (.istore 4, 2) := zd_at zo_cL_law_0 12 rfl
theorem dL_law_23 : decode cL_law 23 = .ok (.iload 4, 2) := zd_at zo_cL_law_0 13 rfl
theorem dL_law_25 : decode cL_law 25 = .ok (.aload_n 0, 1) := zd_at zo_cL_law_0 14 rfl
theorem dL_law_26 : decode cL_law 26 = .ok (.arraylength, 1) := zd_at zo_cL_law_0 15 rfl
theorem dL_law_27 : decode cL_law 27 = .ok (.iconst 5, 1) := zd_at zo_cL_law_0 16 rfl
theorem dL_law_28 : decode cL_law 28 = .ok (.isub, 1) := zd_at zo_cL_law_0 17 rfl
theorem dL_law_29 : decode cL_law 29 = .ok (.if_icmp .gt 1565, 3) := zd_at zo_cL_law_0 18 rfl
theorem dL_law_32 : decode cL_law 32 = .ok (.aload_n 0, 1) := zd_at zo_cL_law_0 19 rfl
theorem dL_law_33 : decode cL_law 33 = .ok (.iload 4, 2) := zd_at zo_cL_law_0 20 rfl
theorem dL_law_35 : decode cL_law 35 = .ok (.iaload, 1) := zd_at zo_cL_law_0 21 rfl
theorem dL_law_36 : decode cL_law 36 = .ok (.bipush 31, 2) := zd_at zo_cL_law_0 22 rfl
theorem dL_law_38 : decode cL_law 38 = .ok (.iand, 1) := zd_at zo_cL_law_0 23 rfl
theorem dL_law_39 : decode cL_law 39 = .ok (.tableswitch 1549 0 22 #[105, 161, 174, 187, 243, 311, 379, 447, 539, 583, 639, 719, 763, 855, 947, 1027, 1119, 1211, 1224, 1237, 1337, 1437, 1493], 105) := zd_at zo_cL_law_0 24 rfl
theorem dL_law_144 : decode cL_law 144 = .ok (.aload_n 1, 1) := zd_at zo_cL_law_0 25 rfl
theorem dL_law_145 : decode cL_law 145 = .ok (.aload_n 0, 1) := zd_at zo_cL_law_0 26 rfl
theorem dL_law_146 : decode cL_law 146 = .ok (.iload 4, 2) := zd_at zo_cL_law_0 27 rfl
theorem dL_law_148 : decode cL_law 148 = .ok (.iconst 1, 1) := zd_at zo_cL_law_0 28 rfl
theorem dL_law_149 : decode cL_law 149 = .ok (.iadd, 1) := zd_at zo_cL_law_0 29 rfl
theorem dL_law_150 : decode cL_law 150 = .ok (.iaload, 1) := zd_at zo_cL_law_0 30 rfl
theorem dL_law_151 : decode cL_law 151 = .ok (.aload_n 3, 1) := zd_at zo_cL_law_0 31 rfl
theorem dL_law_152 : decode cL_law 152 = .ok (.invokestatic 83, 3) := zd_at zo_cL_law_0 32 rfl
theorem dL_law_155 : decode cL_law 155 = .ok (.istore 5, 2) := zd_at zo_cL_law_0 33 rfl
theorem dL_law_157 : decode cL_law 157 = .ok (.aload_n 2, 1) := zd_at zo_cL_law_0 34 rfl
theorem dL_law_158 : decode cL_law 158 = .ok (.aload_n 0, 1) := zd_at zo_cL_law_0 35 rfl
theorem dL_law_159 : decode cL_law 159 = .ok (.iload 4, 2) := zd_at zo_cL_law_0 36 rfl
theorem dL_law_161 : decode cL_law 161 = .ok (.iconst 1, 1) := zd_at zo_cL_law_0 37 rfl
theorem dL_law_162 : decode cL_law 162 = .ok (.iadd, 1) := zd_at zo_cL_law_0 38 rfl
theorem dL_law_163 : decode cL_law 163 = .ok (.iaload, 1) := zd_at zo_cL_law_0 39 rfl
theorem dL_law_164 : decode cL_law 164 = .ok (.invokevirtual 88, 3) := zd_at zo_cL_law_0 40 rfl
theorem dL_law_167 : decode cL_law 167 = .ok (.istore 6, 2) := zd_at zo_cL_law_0 41 rfl
theorem dL_law_169 : decode cL_law 169 = .ok (.aload_n 2, 1) := zd_at zo_cL_law_0 42 rfl
theorem dL_law_170 : decode cL_law 170 = .ok (.invokevirtual 89, 3) := zd_at zo_cL_law_0 43 rfl
theorem dL_law_173 : decode cL_law 173 = .ok (.iload 5, 2) := zd_at zo_cL_law_0 44 rfl
theorem dL_law_175 : decode cL_law 175 = .ok (.if_icmp .eq 5, 3) := zd_at zo_cL_law_0 45 rfl
theorem dL_law_178 : decode cL_law 178 = .ok (.iconst 0, 1) := zd_at zo_cL_law_0 46 rfl
theorem dL_law_179 : decode cL_law 179 = .ok (.ireturn, 1) := zd_at zo_cL_law_0 47 rfl
theorem dL_law_180 : decode cL_law 180 = .ok (.iload 5, 2) := zd_at zo_cL_law_0 48 rfl
theorem dL_law_182 : decode cL_law 182 = .ok (.ifCond .ne 15, 3) := zd_at zo_cL_law_0 49 rfl
theorem dL_law_185 : decode cL_law 185 = .ok (.aload_n 3, 1) := zd_at zo_cL_law_0 50 rfl
theorem dL_law_186 : decode cL_law 186 = .ok (.iconst 0, 1) := zd_at zo_cL_law_0 51 rfl
theorem dL_law_187 : decode cL_law 187 = .ok (.laload, 1) := zd_at zo_cL_law_0 52 rfl
theorem dL_law_188 : decode cL_law 188 = .ok (.iload 6, 2) := zd_at zo_cL_law_0 53 rfl
theorem dL_law_190 : decode cL_law 190 = .ok (.i2l, 1) := zd_at zo_cL_law_0 54 rfl
theorem dL_law_191 : decode cL_law 191 = .ok (.lcmp, 1) := zd_at zo_cL_law_0 55 rfl
theorem dL_law_192 : decode cL_law 192 = .ok (.ifCond .eq 5, 3) := zd_at zo_cL_law_0 56 rfl
theorem dL_law_195 : decode cL_law 195 = .ok (.iconst 0, 1) := zd_at zo_cL_law_0 57 rfl
theorem dL_law_196 : decode cL_law 196 = .ok (.ireturn, 1) := zd_at zo_cL_law_0 58 rfl
theorem dL_law_197 : decode cL_law 197 = .ok (.goto 1391, 3) := zd_at zo_cL_law_0 59 rfl
theorem dL_law_200 : decode cL_law 200 = .ok (.aload_n 1, 1) := zd_at zo_cL_law_0 60 rfl
theorem dL_law_201 : decode cL_law 201 = .ok (.invokevirtual 92, 3) := zd_at zo_cL_law_0 61 rfl
theorem dL_law_204 : decode cL_law 204 = .ok (.aload_n 2, 1) := zd_at zo_cL_law_0 62 rfl
theorem dL_law_205 : decode cL_law 205 = .ok (.invokevirtual 95, 3) := zd_at zo_cL_law_0 63 rfl
theorem dL_law_208 : decode cL_law 208 = .ok (.if_icmp .eq 1380, 3) := zd_at zo_cL_law_0 64 rfl
theorem dL_law_211 : decode cL_law 211 = .ok (.iconst 0, 1) := zd_at zo_cL_law_0 65 rfl
theorem dL_law_212 : decode cL_law 212 = .ok (.ireturn, 1) := zd_at zo_cL_law_0 66 rfl
theorem dL_law_213 : decode cL_law 213 = .ok (.aload_n 1, 1) := zd_at zo_cL_law_0 67 rfl
theorem dL_law_214 : decode cL_law 214 = .ok (.invokevirtual 96, 3) := zd_at zo_cL_law_0 68 rfl
theorem dL_law_217 : decode cL_law 217 = .ok (.aload_n 2, 1) := zd_at zo_cL_law_0 69 rfl
theorem dL_law_218 : decode cL_law 218 = .ok (.invokevirtual 99, 3) := zd_at zo_cL_law_0 70 rfl
theorem dL_law_221 : decode cL_law 221 = .ok (.if_icmp .eq 1367, 3) := zd_at zo_cL_law_0 71 rfl
theorem dL_law_224 : decode cL_law 224 = .ok (.iconst 0, 1) := zd_at zo_cL_law_0 72 rfl
theorem dL_law_225 : decode cL_law 225 = .ok (.ireturn, 1) := zd_at zo_cL_law_0 73 rfl
theorem dL_law_226 : decode cL_law 226 = .ok (.aload_n 1, 1) := zd_at zo_cL_law_0 74 rfl
theorem dL_law_227 : decode cL_law 227 = .ok (.aload_n 0, 1) := zd_at zo_cL_law_0 75 rfl
theorem dL_law_228 : decode cL_law 228 = .ok (.iload 4, 2) := zd_at zo_cL_law_0 76 rfl
theorem dL_law_230 : decode cL_law 230 = .ok (.iconst 1, 1) := zd_at zo_cL_law_0 77 rfl
theorem dL_law_231 : decode cL_law 231 = .ok (.iadd, 1) := zd_at zo_cL_law_0 78 rfl
theorem dL_law_232 : decode cL_law 232 = .ok (.iaload, 1) := zd_at zo_cL_law_0 79 rfl
theorem dL_law_233 : decode cL_law 233 = .ok (.aload_n 3, 1) := zd_at zo_cL_law_0 80 rfl
theorem dL_law_234 : decode cL_law 234 = .ok (.invokestatic 100, 3) := zd_at zo_cL_law_0 81 rfl
theorem dL_law_237 : decode cL_law 237 = .ok (.istore 5, 2) := zd_at zo_cL_law_0 82 rfl
theorem dL_law_239 : decode cL_law 239 = .ok (.aload_n 2, 1) := zd_at zo_cL_law_0 83 rfl
theorem dL_law_240 : decode cL_law 240 = .ok (.aload_n 0, 1) := zd_at zo_cL_law_0 84 rfl
theorem dL_law_241 : decode cL_law 241 = .ok (.iload 4, 2) := zd_at zo_cL_law_0 85 rfl
theorem dL_law_243 : decode cL_law 243 = .ok (.iconst 1, 1) := zd_at zo_cL_law_0 86 rfl
theorem dL_law_244 : decode cL_law 244 = .ok (.iadd, 1) := zd_at zo_cL_law_0 87 rfl
theorem dL_law_245 : decode cL_law 245 = .ok (.iaload, 1) := zd_at zo_cL_law_0 88 rfl
theorem dL_law_246 : decode cL_law 246 = .ok (.invokevirtual 102, 3) := zd_at zo_cL_law_0 89 rfl
theorem dL_law_249 : decode cL_law 249 = .ok (.istore 6, 2) := zd_at zo_cL_law_0 90 rfl
theorem dL_law_251 : decode cL_law 251 = .ok (.aload_n 2, 1) := zd_at zo_cL_law_0 91 rfl
theorem dL_law_252 : decode cL_law 252 = .ok (.invokevirtual 89, 3) := zd_at zo_cL_law_0 92 rfl
theorem dL_law_255 : decode cL_law 255 = .ok (.iload 5, 2) := zd_at zo_cL_law_0 93 rfl
theorem dL_law_257 : decode cL_law 257 = .ok (.if_icmp .eq 5, 3) := zd_at zo_cL_law_0 94 rfl
theorem dL_law_260 : decode cL_law 260 = .ok (.iconst 0, 1) := zd_at zo_cL_law_0 95 rfl
theorem dL_law_261 : decode cL_law 261 = .ok (.ireturn, 1) := zd_at zo_cL_law_0 96 rfl
theorem dL_law_262 : decode cL_law 262 = .ok (.iload 5, 2) := zd_at zo_cL_law_0 97 rfl
theorem dL_law_264 : decode cL_law 264 = .ok (.ifCond .ne 15, 3) := zd_at zo_cL_law_0 98 rfl
theorem dL_law_267 : decode cL_law 267 = .ok (.aload_n 3, 1) := zd_at zo_cL_law_0 99 rfl
theorem dL_law_268 : decode cL_law 268 = .ok (.iconst 0, 1) := zd_at zo_cL_law_0 100 rfl
theorem dL_law_269 : decode cL_law 269 = .ok (.laload, 1) := zd_at zo_cL_law_0 101 rfl
theorem dL_law_270 : decode cL_law 270 = .ok (.iload 6, 2) := zd_at zo_cL_law_0 102 rfl
theorem dL_law_272 : decode cL_law 272 = .ok (.i2l, 1) := zd_at zo_cL_law_0 103 rfl
theorem dL_law_273 : decode cL_law 273 = .ok (.lcmp, 1) := zd_at zo_cL_law_0 104 rfl
theorem dL_law_274 : decode cL_law 274 = .ok (.ifCond .eq 5, 3) := zd_at zo_cL_law_0 105 rfl
theorem dL_law_277 : decode cL_law 277 = .ok (.iconst 0, 1) := zd_at zo_cL_law_0 106 rfl
theorem dL_law_278 : decode cL_law 278 = .ok (.ireturn, 1) := zd_at zo_cL_law_0 107 rfl
theorem dL_law_279 : decode cL_law 279 = .ok (.goto 1309, 3) := zd_at zo_cL_law_0 108 rfl
theorem dL_law_282 : decode cL_law 282 = .ok (.aload_n 1, 1) := zd_at zo_cL_law_0 109 rfl
theorem dL_law_283 : decode cL_law 283 = .ok (.aload_n 0, 1) := zd_at zo_cL_law_0 110 rfl
theorem dL_law_284 : decode cL_law 284 = .ok (.iload 4, 2) := zd_at zo_cL_law_0 111 rfl
theorem dL_law_286 : decode cL_law 286 = .ok (.iconst 1, 1) := zd_at zo_cL_law_0 112 rfl
theorem dL_law_287 : decode cL_law 287 = .ok (.iadd, 1) := zd_at zo_cL_law_0 113 rfl
theorem dL_law_288 : decode cL_law 288 = .ok (.iaload, 1) := zd_at zo_cL_law_0 114 rfl
theorem dL_law_289 : decode cL_law 289 = .ok (.aload_n 0, 1) := zd_at zo_cL_law_0 115 rfl
theorem dL_law_290 : decode cL_law 290 = .ok (.iload 4, 2) := zd_at zo_cL_law_0 116 rfl
theorem dL_law_292 : decode cL_law 292 = .ok (.iconst 2, 1) := zd_at zo_cL_law_0 117 rfl
theorem dL_law_293 : decode cL_law 293 = .ok (.iadd, 1) := zd_at zo_cL_law_0 118 rfl
theorem dL_law_294 : decode cL_law 294 = .ok (.iaload, 1) := zd_at zo_cL_law_0 119 rfl
def zl_cL_law_120 : List (Nat × Instr × Nat) := [(295, .aload_n 3, 1), (296, .invokestatic 103, 3), (299, .istore 5, 2), (301, .aload_n 2, 1), (302, .aload_n 0, 1), (303, .iload 4, 2), (305, .iconst 1, 1), (306, .iadd, 1), (307, .iaload, 1), (308, .aload_n 0, 1), (309, .iload 4, 2), (311, .iconst 2, 1), (312, .iadd, 1), (313, .iaload, 1), (314, .invokevirtual 106, 3), (317, .istore 6, 2), (319, .aload_n 2, 1), (320, .invokevirtual 89, 3), (323, .iload 5, 2), (325, .if_icmp .eq 5, 3), (328, .iconst 0, 1), (329, .ireturn, 1), (330, .iload 5, 2), (332, .ifCond .ne 15, 3), (335, .aload_n 3, 1), (336, .iconst 0, 1), (337, .laload, 1), (338, .iload 6, 2), (340, .i2l, 1), (341, .lcmp, 1), (342, .ifCond .eq 5, 3), (345, .iconst 0, 1), (346, .ireturn, 1), (347, .goto 1241, 3), (350, .aload_n 1, 1), (351, .aload_n 0, 1), (352, .iload 4, 2), (354, .iconst 1, 1), (355, .iadd, 1), (356, .iaload, 1), (357, .aload_n 0, 1), (358, .iload 4, 2), (360, .iconst 2, 1), (361, .iadd, 1), (362, .iaload, 1), (363, .aload_n 3, 1), (364, .invokestatic 107, 3), (367, .istore 5, 2), (369, .aload_n 2, 1), (370, .aload_n 0, 1), (371, .iload 4, 2), (373, .iconst 1, 1), (374, .iadd, 1), (375, .iaload, 1), (376, .aload_n 0, 1), (377, .iload 4, 2), (379, .iconst 2, 1), (380, .iadd, 1), (381, .iaload, 1), (382, .invokevirtual 109, 3), (385, .istore 6, 2), (387, .aload_n 2, 1), (388, .invokevirtual 89, 3), (391, .iload 5, 2), (393, .if_icmp .eq 5, 3), (396, .iconst 0, 1), (397, .ireturn, 1), (398, .iload 5, 2), (400, .ifCond .ne 15, 3), (403, .aload_n 3, 1), (404, .iconst 0, 1), (405, .laload, 1), (406, .iload 6, 2), (408, .i2l, 1), (409, .lcmp, 1), (410, .ifCond .eq 5, 3), (413, .iconst 0, 1), (414, .ireturn, 1), (415, .goto 1173, 3), (418, .aload_n 1, 1), (419, .aload_n 0, 1), (420, .iload 4, 2), (422, .iconst 1, 1), (423, .iadd, 1), (424, .iaload, 1), (425, .aload_n 0, 1), (426, .iload 4, 2), (428, .iconst 2, 1), (429, .iadd, 1), (430, .iaload, 1), (431, .aload_n 3, 1), (432, .invokestatic 110, 3), (435, .istore 5, 2), (437, .aload_n 2, 1), (438, .aload_n 0, 1), (439, .iload 4, 2), (441, .iconst 1, 1), (442, .iadd, 1), (443, .iaload, 1), (444, .aload_n 0, 1), (445, .iload 4, 2), (447, .iconst 2, 1), (448, .iadd, 1), (449, .iaload, 1), (450, .invokevirtual 112, 3), (453, .istore 6, 2), (455, .aload_n 2, 1), (456, .invokevirtual 89, 3), (459, .iload 5, 2), (461, .if_icmp .eq 5, 3), (464, .iconst 0, 1), (465, .ireturn, 1), (466, .iload 5, 2), (468, .ifCond .ne 15, 3), (471, .aload_n 3, 1), (472, .iconst 0, 1), (473, .laload, 1), (474, .iload 6, 2), (476, .i2l, 1), (477, .lcmp, 1)]
theorem zo_cL_law_120 : zd_ok cL_law zl_cL_law_120 = true := by decide +kernel
theorem dL_law_295 : decode cL_law 295 = .ok (.aload_n 3, 1) := zd_at zo_cL_law_120 0 rfl
theorem dL_law_296 : decode cL_law 296 = .ok (.invokestatic 103, 3) := zd_at zo_cL_law_120 1 rfl
theorem dL_law_299 : decode cL_law 299 = .ok (.istore 5, 2) := zd_at zo_cL_law_120 2 rfl
theorem dL_law_301 : decode cL_law 301 = .ok (.aload_n 2, 1) := zd_at zo_cL_law_120 3 rfl
theorem dL_law_302 : decode cL_law 302 = .ok (.aload_n 0, 1) := zd_at zo_cL_law_120 4 rfl
theorem dL_law_303 : decode cL_law 303 = .ok (.iload 4, 2) := zd_at zo_cL_law_120 5 rfl
theorem dL_law_305 : decode cL_law 305 = .ok (.iconst 1, 1) := zd_at zo_cL_law_120 6 rfl
theorem dL_law_306 : decode cL_law 306 = .ok (.iadd, 1) := zd_at zo_cL_law_120 7 rfl
theorem dL_law_307 : decode cL_law 307 = .ok (.iaload, 1) := zd_at zo_cL_law_120 8 rfl
theorem dL_law_308 : decode cL_law 308 = .ok (.aload_n 0, 1) := zd_at zo_cL_law_120 9 rfl
theorem dL_law_309 : decode cL_law 309 = .ok (.iload 4, 2) := zd_at zo_cL_law_120 10 rfl
theorem dL_law_311 : decode cL_law 311 = .ok (.iconst 2, 1) := zd_at zo_cL_law_120 11 rfl
theorem dL_law_312 : decode cL_law 312 = .ok (.iadd, 1) := zd_at zo_cL_law_120 12 rfl
theorem dL_law_313 : decode cL_law 313 = .ok (.iaload, 1) := zd_at zo_cL_law_120 13 rfl
theorem dL_law_314 : decode cL_law 314 = .ok (.invokevirtual 106, 3) := zd_at zo_cL_law_120 14 rfl
theorem dL_law_317 : decode cL_law 317 = .ok (.istore 6, 2) := zd_at zo_cL_law_120 15 rfl
theorem dL_law_319 : decode cL_law 319 = .ok (.aload_n 2, 1) := zd_at zo_cL_law_120 16 rfl
theorem dL_law_320 : decode cL_law 320 = .ok (.invokevirtual 89, 3) := zd_at zo_cL_law_120 17 rfl
theorem dL_law_323 : decode cL_law 323 = .ok (.iload 5, 2) := zd_at zo_cL_law_120 18 rfl
theorem dL_law_325 : decode cL_law 325 = .ok (.if_icmp .eq 5, 3) := zd_at zo_cL_law_120 19 rfl
theorem dL_law_328 : decode cL_law 328 = .ok (.iconst 0, 1) := zd_at zo_cL_law_120 20 rfl
theorem dL_law_329 : decode cL_law 329 = .ok (.ireturn, 1) := zd_at zo_cL_law_120 21 rfl
theorem dL_law_330 : decode cL_law 330 = .ok (.iload 5, 2) := zd_at zo_cL_law_120 22 rfl
theorem dL_law_332 : decode cL_law 332 = .ok (.ifCond .ne 15, 3) := zd_at zo_cL_law_120 23 rfl
theorem dL_law_335 : decode cL_law 335 = .ok (.aload_n 3, 1) := zd_at zo_cL_law_120 24 rfl
theorem dL_law_336 : decode cL_law 336 = .ok (.iconst 0, 1) := zd_at zo_cL_law_120 25 rfl
theorem dL_law_337 : decode cL_law 337 = .ok (.laload, 1) := zd_at zo_cL_law_120 26 rfl
theorem dL_law_338 : decode cL_law 338 = .ok (.iload 6, 2) := zd_at zo_cL_law_120 27 rfl
theorem dL_law_340 : decode cL_law 340 = .ok (.i2l, 1) := zd_at zo_cL_law_120 28 rfl
theorem dL_law_341 : decode cL_law 341 = .ok (.lcmp, 1) := zd_at zo_cL_law_120 29 rfl
theorem dL_law_342 : decode cL_law 342 = .ok (.ifCond .eq 5, 3) := zd_at zo_cL_law_120 30 rfl
theorem dL_law_345 : decode cL_law 345 = .ok (.iconst 0, 1) := zd_at zo_cL_law_120 31 rfl
theorem dL_law_346 : decode cL_law 346 = .ok (.ireturn, 1) := zd_at zo_cL_law_120 32 rfl
theorem dL_law_347 : decode cL_law 347 = .ok (.goto 1241, 3) := zd_at zo_cL_law_120 33 rfl
theorem dL_law_350 : decode cL_law 350 = .ok (.aload_n 1, 1) := zd_at zo_cL_law_120 34 rfl
theorem dL_law_351 : decode cL_law 351 = .ok (.aload_n 0, 1) := zd_at zo_cL_law_120 35 rfl
theorem dL_law_352 : decode cL_law 352 = .ok (.iload 4, 2) := zd_at zo_cL_law_120 36 rfl
theorem dL_law_354 : decode cL_law 354 = .ok (.iconst 1, 1) := zd_at zo_cL_law_120 37 rfl
theorem dL_law_355 : decode cL_law 355 = .ok (.iadd, 1) := zd_at zo_cL_law_120 38 rfl
theorem dL_law_356 : decode cL_law 356 = .ok (.iaload, 1) := zd_at zo_cL_law_120 39 rfl
theorem dL_law_357 : decode cL_law 357 = .ok (.aload_n 0, 1) := zd_at zo_cL_law_120 40 rfl
theorem dL_law_358 : decode cL_law 358 = .ok (.iload 4, 2) := zd_at zo_cL_law_120 41 rfl
theorem dL_law_360 : decode cL_law 360 = .ok (.iconst 2, 1) := zd_at zo_cL_law_120 42 rfl
theorem dL_law_361 : decode cL_law 361 = .ok (.iadd, 1) := zd_at zo_cL_law_120 43 rfl
theorem dL_law_362 : decode cL_law 362 = .ok (.iaload, 1) := zd_at zo_cL_law_120 44 rfl
theorem dL_law_363 : decode cL_law 363 = .ok (.aload_n 3, 1) := zd_at zo_cL_law_120 45 rfl
theorem dL_law_364 : decode cL_law 364 = .ok (.invokestatic 107, 3) := zd_at zo_cL_law_120 46 rfl
theorem dL_law_367 : decode cL_law 367 = .ok (.istore 5, 2) := zd_at zo_cL_law_120 47 rfl
theorem dL_law_369 : decode cL_law 369 = .ok (.aload_n 2, 1) := zd_at zo_cL_law_120 48 rfl
theorem dL_law_370 : decode cL_law 370 = .ok (.aload_n 0, 1) := zd_at zo_cL_law_120 49 rfl
theorem dL_law_371 : decode cL_law 371 = .ok (.iload 4, 2) := zd_at zo_cL_law_120 50 rfl
theorem dL_law_373 : decode cL_law 373 = .ok (.iconst 1, 1) := zd_at zo_cL_law_120 51 rfl
theorem dL_law_374 : decode cL_law 374 = .ok (.iadd, 1) := zd_at zo_cL_law_120 52 rfl
theorem dL_law_375 : decode cL_law 375 = .ok (.iaload, 1) := zd_at zo_cL_law_120 53 rfl
theorem dL_law_376 : decode cL_law 376 = .ok (.aload_n 0, 1) := zd_at zo_cL_law_120 54 rfl
theorem dL_law_377 : decode cL_law 377 = .ok (.iload 4, 2) := zd_at zo_cL_law_120 55 rfl
theorem dL_law_379 : decode cL_law 379 = .ok (.iconst 2, 1) := zd_at zo_cL_law_120 56 rfl
theorem dL_law_380 : decode cL_law 380 = .ok (.iadd, 1) := zd_at zo_cL_law_120 57 rfl
theorem dL_law_381 : decode cL_law 381 = .ok (.iaload, 1) := zd_at zo_cL_law_120 58 rfl
theorem dL_law_382 : decode cL_law 382 = .ok (.invokevirtual 109, 3) := zd_at zo_cL_law_120 59 rfl
theorem dL_law_385 : decode cL_law 385 = .ok (.istore 6, 2) := zd_at zo_cL_law_120 60 rfl
theorem dL_law_387 : decode cL_law 387 = .ok (.aload_n 2, 1) := zd_at zo_cL_law_120 61 rfl
theorem dL_law_388 : decode cL_law 388 = .ok (.invokevirtual 89, 3) := zd_at zo_cL_law_120 62 rfl
theorem dL_law_391 : decode cL_law 391 = .ok (.iload 5, 2) := zd_at zo_cL_law_120 63 rfl
theorem dL_law_393 : decode cL_law 393 = .ok (.if_icmp .eq 5, 3) := zd_at zo_cL_law_120 64 rfl
theorem dL_law_396 : decode cL_law 396 = .ok (.iconst 0, 1) := zd_at zo_cL_law_120 65 rfl
theorem dL_law_397 : decode cL_law 397 = .ok (.ireturn, 1) := zd_at zo_cL_law_120 66 rfl
theorem dL_law_398 : decode cL_law 398 = .ok (.iload 5, 2) := zd_at zo_cL_law_120 67 rfl
theorem dL_law_400 : decode cL_law 400 = .ok (.ifCond .ne 15, 3) := zd_at zo_cL_law_120 68 rfl
theorem dL_law_403 : decode cL_law 403 = .ok (.aload_n 3, 1) := zd_at zo_cL_law_120 69 rfl
theorem dL_law_404 : decode cL_law 404 = .ok (.iconst 0, 1) := zd_at zo_cL_law_120 70 rfl
theorem dL_law_405 : decode cL_law 405 = .ok (.laload, 1) := zd_at zo_cL_law_120 71 rfl
theorem dL_law_406 : decode cL_law 406 = .ok (.iload 6, 2) := zd_at zo_cL_law_120 72 rfl
theorem dL_law_408 : decode cL_law 408 = .ok (.i2l, 1) := zd_at zo_cL_law_120 73 rfl
theorem dL_law_409 : decode cL_law 409 = .ok (.lcmp, 1) := zd_at zo_cL_law_120 74 rfl
theorem dL_law_410 : decode cL_law 410 = .ok (.ifCond .eq 5, 3) := zd_at zo_cL_law_120 75 rfl
theorem dL_law_413 : decode cL_law 413 = .ok (.iconst 0, 1) := zd_at zo_cL_law_120 76 rfl
theorem dL_law_414 : decode cL_law 414 = .ok (.ireturn, 1) := zd_at zo_cL_law_120 77 rfl
theorem dL_law_415 : decode cL_law 415 = .ok (.goto 1173, 3) := zd_at zo_cL_law_120 78 rfl
theorem dL_law_418 : decode cL_law 418 = .ok (.aload_n 1, 1) := zd_at zo_cL_law_120 79 rfl
theorem dL_law_419 : decode cL_law 419 = .ok (.aload_n 0, 1) := zd_at zo_cL_law_120 80 rfl
theorem dL_law_420 : decode cL_law 420 = .ok (.iload 4, 2) := zd_at zo_cL_law_120 81 rfl
theorem dL_law_422 : decode cL_law 422 = .ok (.iconst 1, 1) := zd_at zo_cL_law_120 82 rfl
theorem dL_law_423 : decode cL_law 423 = .ok (.iadd, 1) := zd_at zo_cL_law_120 83 rfl
theorem dL_law_424 : decode cL_law 424 = .ok (.iaload, 1) := zd_at zo_cL_law_120 84 rfl
theorem dL_law_425 : decode cL_law 425 = .ok (.aload_n 0, 1) := zd_at zo_cL_law_120 85 rfl
theorem dL_law_426 : decode cL_law 426 = .ok (.iload 4, 2) := zd_at zo_cL_law_120 86 rfl
theorem dL_law_428 : decode cL_law 428 = .ok (.iconst 2, 1) := zd_at zo_cL_law_120 87 rfl
theorem dL_law_429 : decode cL_law 429 = .ok (.iadd, 1) := zd_at zo_cL_law_120 88 rfl
theorem dL_law_430 : decode cL_law 430 = .ok (.iaload, 1) := zd_at zo_cL_law_120 89 rfl
theorem dL_law_431 : decode cL_law 431 = .ok (.aload_n 3, 1) := zd_at zo_cL_law_120 90 rfl
theorem dL_law_432 : decode cL_law 432 = .ok (.invokestatic 110, 3) := zd_at zo_cL_law_120 91 rfl
theorem dL_law_435 : decode cL_law 435 = .ok (.istore 5, 2) := zd_at zo_cL_law_120 92 rfl
theorem dL_law_437 : decode cL_law 437 = .ok (.aload_n 2, 1) := zd_at zo_cL_law_120 93 rfl
theorem dL_law_438 : decode cL_law 438 = .ok (.aload_n 0, 1) := zd_at zo_cL_law_120 94 rfl
theorem dL_law_439 : decode cL_law 439 = .ok (.iload 4, 2) := zd_at zo_cL_law_120 95 rfl
theorem dL_law_441 : decode cL_law 441 = .ok (.iconst 1, 1) := zd_at zo_cL_law_120 96 rfl
theorem dL_law_442 : decode cL_law 442 = .ok (.iadd, 1) := zd_at zo_cL_law_120 97 rfl
theorem dL_law_443 : decode cL_law 443 = .ok (.iaload, 1) := zd_at zo_cL_law_120 98 rfl
theorem dL_law_444 : decode cL_law 444 = .ok (.aload_n 0, 1) := zd_at zo_cL_law_120 99 rfl
theorem dL_law_445 : decode cL_law 445 = .ok (.iload 4, 2) := zd_at zo_cL_law_120 100 rfl
theorem dL_law_447 : decode cL_law 447 = .ok (.iconst 2, 1) := zd_at zo_cL_law_120 101 rfl
theorem dL_law_448 : decode cL_law 448 = .ok (.iadd, 1) := zd_at zo_cL_law_120 102 rfl
theorem dL_law_449 : decode cL_law 449 = .ok (.iaload, 1) := zd_at zo_cL_law_120 103 rfl
theorem dL_law_450 : decode cL_law 450 = .ok (.invokevirtual 112, 3) := zd_at zo_cL_law_120 104 rfl
theorem dL_law_453 : decode cL_law 453 = .ok (.istore 6, 2) := zd_at zo_cL_law_120 105 rfl
theorem dL_law_455 : decode cL_law 455 = .ok (.aload_n 2, 1) := zd_at zo_cL_law_120 106 rfl
theorem dL_law_456 : decode cL_law 456 = .ok (.invokevirtual 89, 3) := zd_at zo_cL_law_120 107 rfl
theorem dL_law_459 : decode cL_law 459 = .ok (.iload 5, 2) := zd_at zo_cL_law_120 108 rfl
theorem dL_law_461 : decode cL_law 461 = .ok (.if_icmp .eq 5, 3) := zd_at zo_cL_law_120 109 rfl
theorem dL_law_464 : decode cL_law 464 = .ok (.iconst 0, 1) := zd_at zo_cL_law_120 110 rfl
theorem dL_law_465 : decode cL_law 465 = .ok (.ireturn, 1) := zd_at zo_cL_law_120 111 rfl
theorem dL_law_466 : decode cL_law 466 = .ok (.iload 5, 2) := zd_at zo_cL_law_120 112 rfl
theorem dL_law_468 : decode cL_law 468 = .ok (.ifCond .ne 15, 3) := zd_at zo_cL_law_120 113 rfl
theorem dL_law_471 : decode cL_law 471 = .ok (.aload_n 3, 1) := zd_at zo_cL_law_120 114 rfl
theorem dL_law_472 : decode cL_law 472 = .ok (.iconst 0, 1) := zd_at zo_cL_law_120 115 rfl
theorem dL_law_473 : decode cL_law 473 = .ok (.laload, 1) := zd_at zo_cL_law_120 116 rfl
theorem dL_law_474 : decode cL_law 474 = .ok (.iload 6, 2) := zd_at zo_cL_law_120 117 rfl
theorem dL_law_476 : decode cL_law 476 = .ok (.i2l, 1) := zd_at zo_cL_law_120 118 rfl
theorem dL_law_477 : decode cL_law 477 = .ok (.lcmp, 1) := zd_at zo_cL_law_120 119 rfl
def zl_cL_law_240 : List (Nat × Instr × Nat) := [(478, .ifCond .eq 5, 3), (481, .iconst 0, 1), (482, .ireturn, 1), (483, .goto 1105, 3), (486, .aload_n 1, 1), (487, .aload_n 0, 1), (488, .iload 4, 2), (490, .iconst 1, 1), (491, .iadd, 1), (492, .iaload, 1), (493, .aload_n 0, 1), (494, .iload 4, 2), (496, .iconst 2, 1), (497, .iadd, 1), (498, .iaload, 1), (499, .aload_n 0, 1), (500, .iload 4, 2), (502, .iconst 3, 1), (503, .iadd, 1), (504, .iaload, 1), (505, .aload_n 0, 1), (506, .iload 4, 2), (508, .iconst 4, 1), (509, .iadd, 1), (510, .iaload, 1), (511, .aload_n 3, 1), (512, .invokestatic 113, 3), (515, .istore 5, 2), (517, .aload_n 2, 1), (518, .aload_n 0, 1), (519, .iload 4, 2), (521, .iconst 1, 1), (522, .iadd, 1), (523, .iaload, 1), (524, .aload_n 0, 1), (525, .iload 4, 2), (527, .iconst 2, 1), (528, .iadd, 1), (529, .iaload, 1), (530, .aload_n 0, 1), (531, .iload 4, 2), (533, .iconst 3, 1), (534, .iadd, 1), (535, .iaload, 1), (536, .aload_n 0, 1), (537, .iload 4, 2), (539, .iconst 4, 1), (540, .iadd, 1), (541, .iaload, 1), (542, .invokevirtual 116, 3), (545, .istore 6, 2), (547, .aload_n 2, 1), (548, .invokevirtual 89, 3), (551, .iload 5, 2), (553, .if_icmp .eq 5, 3), (556, .iconst 0, 1), (557, .ireturn, 1), (558, .iload 5, 2), (560, .ifCond .ne 15, 3), (563, .aload_n 3, 1), (564, .iconst 0, 1), (565, .laload, 1), (566, .iload 6, 2), (568, .i2l, 1), (569, .lcmp, 1), (570, .ifCond .eq 5, 3), (573, .iconst 0, 1), (574, .ireturn, 1), (575, .goto 1013, 3), (578, .aload_n 1, 1), (579, .aload_n 3, 1), (580, .invokestatic 117, 3), (583, .istore 5, 2), (585, .aload_n 2, 1), (586, .invokevirtual 120, 3), (589, .istore 6, 2), (591, .aload_n 2, 1), (592, .invokevirtual 89, 3), (595, .iload 5, 2), (597, .if_icmp .eq 5, 3), (600, .iconst 0, 1), (601, .ireturn, 1), (602, .iload 5, 2), (604, .ifCond .ne 15, 3), (607, .aload_n 3, 1), (608, .iconst 0, 1), (609, .laload, 1), (610, .iload 6, 2), (612, .i2l, 1), (613, .lcmp, 1), (614, .ifCond .eq 5, 3), (617, .iconst 0, 1), (618, .ireturn, 1), (619, .goto 969, 3), (622, .aload_n 1, 1), (623, .aload_n 0, 1), (624, .iload 4, 2), (626, .iconst 1, 1), (627, .iadd, 1), (628, .iaload, 1), (629, .aload_n 3, 1), (630, .invokestatic 121, 3), (633, .istore 5, 2), (635, .aload_n 2, 1), (636, .aload_n 0, 1), (637, .iload 4, 2), (639, .iconst 1, 1), (640, .iadd, 1), (641, .iaload, 1), (642, .invokevirtual 123, 3), (645, .istore 6, 2), (647, .aload_n 2, 1), (648, .invokevirtual 89, 3), (651, .iload 5, 2), (653, .if_icmp .eq 5, 3), (656, .iconst 0, 1), (657, .ireturn, 1), (658, .iload 5, 2), (660, .ifCond .ne 15, 3), (663, .aload_n 3, 1)]
theorem zo_cL_law_240 : zd_ok cL_law zl_cL_law_240 = true := by decide +kernel
theorem dL_law_478 : decode cL_law 478 = .ok (.ifCond .eq 5, 3) := zd_at zo_cL_law_240 0 rfl
theorem dL_law_481 : decode cL_law 481 = .ok (.iconst 0, 1) := zd_at zo_cL_law_240 1 rfl
theorem dL_law_482 : decode cL_law 482 = .ok (.ireturn, 1) := zd_at zo_cL_law_240 2 rfl
theorem dL_law_483 : decode cL_law 483 = .ok (.goto 1105, 3) := zd_at zo_cL_law_240 3 rfl
theorem dL_law_486 : decode cL_law 486 = .ok (.aload_n 1, 1) := zd_at zo_cL_law_240 4 rfl
theorem dL_law_487 : decode cL_law 487 = .ok (.aload_n 0, 1) := zd_at zo_cL_law_240 5 rfl
theorem dL_law_488 : decode cL_law 488 = .ok (.iload 4, 2) := zd_at zo_cL_law_240 6 rfl
theorem dL_law_490 : decode cL_law 490 = .ok (.iconst 1, 1) := zd_at zo_cL_law_240 7 rfl
theorem dL_law_491 : decode cL_law 491 = .ok (.iadd, 1) := zd_at zo_cL_law_240 8 rfl
theorem dL_law_492 : decode cL_law 492 = .ok (.iaload, 1) := zd_at zo_cL_law_240 9 rfl
theorem dL_law_493 : decode cL_law 493 = .ok (.aload_n 0, 1) := zd_at zo_cL_law_240 10 rfl
theorem dL_law_494 : decode cL_law 494 = .ok (.iload 4, 2) := zd_at zo_cL_law_240 11 rfl
theorem dL_law_496 : decode cL_law 496 = .ok (.iconst 2, 1) := zd_at zo_cL_law_240 12 rfl
theorem dL_law_497 : decode cL_law 497 = .ok (.iadd, 1) := zd_at zo_cL_law_240 13 rfl
theorem dL_law_498 : decode cL_law 498 = .ok (.iaload, 1) := zd_at zo_cL_law_240 14 rfl
theorem dL_law_499 : decode cL_law 499 = .ok (.aload_n 0, 1) := zd_at zo_cL_law_240 15 rfl
theorem dL_law_500 : decode cL_law 500 = .ok (.iload 4, 2) := zd_at zo_cL_law_240 16 rfl
theorem dL_law_502 : decode cL_law 502 = .ok (.iconst 3, 1) := zd_at zo_cL_law_240 17 rfl
theorem dL_law_503 : decode cL_law 503 = .ok (.iadd, 1) := zd_at zo_cL_law_240 18 rfl
theorem dL_law_504 : decode cL_law 504 = .ok (.iaload, 1) := zd_at zo_cL_law_240 19 rfl
theorem dL_law_505 : decode cL_law 505 = .ok (.aload_n 0, 1) := zd_at zo_cL_law_240 20 rfl
theorem dL_law_506 : decode cL_law 506 = .ok (.iload 4, 2) := zd_at zo_cL_law_240 21 rfl
theorem dL_law_508 : decode cL_law 508 = .ok (.iconst 4, 1) := zd_at zo_cL_law_240 22 rfl
theorem dL_law_509 : decode cL_law 509 = .ok (.iadd, 1) := zd_at zo_cL_law_240 23 rfl
theorem dL_law_510 : decode cL_law 510 = .ok (.iaload, 1) := zd_at zo_cL_law_240 24 rfl
theorem dL_law_511 : decode cL_law 511 = .ok (.aload_n 3, 1) := zd_at zo_cL_law_240 25 rfl
theorem dL_law_512 : decode cL_law 512 = .ok (.invokestatic 113, 3) := zd_at zo_cL_law_240 26 rfl
theorem dL_law_515 : decode cL_law 515 = .ok (.istore 5, 2) := zd_at zo_cL_law_240 27 rfl
theorem dL_law_517 : decode cL_law 517 = .ok (.aload_n 2, 1) := zd_at zo_cL_law_240 28 rfl
theorem dL_law_518 : decode cL_law 518 = .ok (.aload_n 0, 1) := zd_at zo_cL_law_240 29 rfl
theorem dL_law_519 : decode cL_law 519 = .ok (.iload 4, 2) := zd_at zo_cL_law_240 30 rfl
theorem dL_law_521 : decode cL_law 521 = .ok (.iconst 1, 1) := zd_at zo_cL_law_240 31 rfl
theorem dL_law_522 : decode cL_law 522 = .ok (.iadd, 1) := zd_at zo_cL_law_240 32 rfl
theorem dL_law_523 : decode cL_law 523 = .ok (.iaload, 1) := zd_at zo_cL_law_240 33 rfl
theorem dL_law_524 : decode cL_law 524 = .ok (.aload_n 0, 1) := zd_at zo_cL_law_240 34 rfl
theorem dL_law_525 : decode cL_law 525 = .ok (.iload 4, 2) := zd_at zo_cL_law_240 35 rfl
theorem dL_law_527 : decode cL_law 527 = .ok (.iconst 2, 1) := zd_at zo_cL_law_240 36 rfl
theorem dL_law_528 : decode cL_law 528 = .ok (.iadd, 1) := zd_at zo_cL_law_240 37 rfl
theorem dL_law_529 : decode cL_law 529 = .ok (.iaload, 1) := zd_at zo_cL_law_240 38 rfl
theorem dL_law_530 : decode cL_law 530 = .ok (.aload_n 0, 1) := zd_at zo_cL_law_240 39 rfl
theorem dL_law_531 : decode cL_law 531 = .ok (.iload 4, 2) := zd_at zo_cL_law_240 40 rfl
theorem dL_law_533 : decode cL_law 533 = .ok (.iconst 3, 1) := zd_at zo_cL_law_240 41 rfl
theorem dL_law_534 : decode cL_law 534 = .ok (.iadd, 1) := zd_at zo_cL_law_240 42 rfl
theorem dL_law_535 : decode cL_law 535 = .ok (.iaload, 1) := zd_at zo_cL_law_240 43 rfl
theorem dL_law_536 : decode cL_law 536 = .ok (.aload_n 0, 1) := zd_at zo_cL_law_240 44 rfl
theorem dL_law_537 : decode cL_law 537 = .ok (.iload 4, 2) := zd_at zo_cL_law_240 45 rfl
theorem dL_law_539 : decode cL_law 539 = .ok (.iconst 4, 1) := zd_at zo_cL_law_240 46 rfl
theorem dL_law_540 : decode cL_law 540 = .ok (.iadd, 1) := zd_at zo_cL_law_240 47 rfl
theorem dL_law_541 : decode cL_law 541 = .ok (.iaload, 1) := zd_at zo_cL_law_240 48 rfl
theorem dL_law_542 : decode cL_law 542 = .ok (.invokevirtual 116, 3) := zd_at zo_cL_law_240 49 rfl
theorem dL_law_545 : decode cL_law 545 = .ok (.istore 6, 2) := zd_at zo_cL_law_240 50 rfl
theorem dL_law_547 : decode cL_law 547 = .ok (.aload_n 2, 1) := zd_at zo_cL_law_240 51 rfl
theorem dL_law_548 : decode cL_law 548 = .ok (.invokevirtual 89, 3) := zd_at zo_cL_law_240 52 rfl
theorem dL_law_551 : decode cL_law 551 = .ok (.iload 5, 2) := zd_at zo_cL_law_240 53 rfl
theorem dL_law_553 : decode cL_law 553 = .ok (.if_icmp .eq 5, 3) := zd_at zo_cL_law_240 54 rfl
theorem dL_law_556 : decode cL_law 556 = .ok (.iconst 0, 1) := zd_at zo_cL_law_240 55 rfl
theorem dL_law_557 : decode cL_law 557 = .ok (.ireturn, 1) := zd_at zo_cL_law_240 56 rfl
theorem dL_law_558 : decode cL_law 558 = .ok (.iload 5, 2) := zd_at zo_cL_law_240 57 rfl
theorem dL_law_560 : decode cL_law 560 = .ok (.ifCond .ne 15, 3) := zd_at zo_cL_law_240 58 rfl
theorem dL_law_563 : decode cL_law 563 = .ok (.aload_n 3, 1) := zd_at zo_cL_law_240 59 rfl
theorem dL_law_564 : decode cL_law 564 = .ok (.iconst 0, 1) := zd_at zo_cL_law_240 60 rfl
theorem dL_law_565 : decode cL_law 565 = .ok (.laload, 1) := zd_at zo_cL_law_240 61 rfl
theorem dL_law_566 : decode cL_law 566 = .ok (.iload 6, 2) := zd_at zo_cL_law_240 62 rfl
theorem dL_law_568 : decode cL_law 568 = .ok (.i2l, 1) := zd_at zo_cL_law_240 63 rfl
theorem dL_law_569 : decode cL_law 569 = .ok (.lcmp, 1) := zd_at zo_cL_law_240 64 rfl
theorem dL_law_570 : decode cL_law 570 = .ok (.ifCond .eq 5, 3) := zd_at zo_cL_law_240 65 rfl
theorem dL_law_573 : decode cL_law 573 = .ok (.iconst 0, 1) := zd_at zo_cL_law_240 66 rfl
theorem dL_law_574 : decode cL_law 574 = .ok (.ireturn, 1) := zd_at zo_cL_law_240 67 rfl
theorem dL_law_575 : decode cL_law 575 = .ok (.goto 1013, 3) := zd_at zo_cL_law_240 68 rfl
theorem dL_law_578 : decode cL_law 578 = .ok (.aload_n 1, 1) := zd_at zo_cL_law_240 69 rfl
theorem dL_law_579 : decode cL_law 579 = .ok (.aload_n 3, 1) := zd_at zo_cL_law_240 70 rfl
theorem dL_law_580 : decode cL_law 580 = .ok (.invokestatic 117, 3) := zd_at zo_cL_law_240 71 rfl
theorem dL_law_583 : decode cL_law 583 = .ok (.istore 5, 2) := zd_at zo_cL_law_240 72 rfl
theorem dL_law_585 : decode cL_law 585 = .ok (.aload_n 2, 1) := zd_at zo_cL_law_240 73 rfl
theorem dL_law_586 : decode cL_law 586 = .ok (.invokevirtual 120, 3) := zd_at zo_cL_law_240 74 rfl
theorem dL_law_589 : decode cL_law 589 = .ok (.istore 6, 2) := zd_at zo_cL_law_240 75 rfl
theorem dL_law_591 : decode cL_law 591 = .ok (.aload_n 2, 1) := zd_at zo_cL_law_240 76 rfl
theorem dL_law_592 : decode cL_law 592 = .ok (.invokevirtual 89, 3) := zd_at zo_cL_law_240 77 rfl
theorem dL_law_595 : decode cL_law 595 = .ok (.iload 5, 2) := zd_at zo_cL_law_240 78 rfl
theorem dL_law_597 : decode cL_law 597 = .ok (.if_icmp .eq 5, 3) := zd_at zo_cL_law_240 79 rfl
theorem dL_law_600 : decode cL_law 600 = .ok (.iconst 0, 1) := zd_at zo_cL_law_240 80 rfl
theorem dL_law_601 : decode cL_law 601 = .ok (.ireturn, 1) := zd_at zo_cL_law_240 81 rfl
theorem dL_law_602 : decode cL_law 602 = .ok (.iload 5, 2) := zd_at zo_cL_law_240 82 rfl
theorem dL_law_604 : decode cL_law 604 = .ok (.ifCond .ne 15, 3) := zd_at zo_cL_law_240 83 rfl
theorem dL_law_607 : decode cL_law 607 = .ok (.aload_n 3, 1) := zd_at zo_cL_law_240 84 rfl
theorem dL_law_608 : decode cL_law 608 = .ok (.iconst 0, 1) := zd_at zo_cL_law_240 85 rfl
theorem dL_law_609 : decode cL_law 609 = .ok (.laload, 1) := zd_at zo_cL_law_240 86 rfl
theorem dL_law_610 : decode cL_law 610 = .ok (.iload 6, 2) := zd_at zo_cL_law_240 87 rfl
theorem dL_law_612 : decode cL_law 612 = .ok (.i2l, 1) := zd_at zo_cL_law_240 88 rfl
theorem dL_law_613 : decode cL_law 613 = .ok (.lcmp, 1) := zd_at zo_cL_law_240 89 rfl
theorem dL_law_614 : decode cL_law 614 = .ok (.ifCond .eq 5, 3) := zd_at zo_cL_law_240 90 rfl
theorem dL_law_617 : decode cL_law 617 = .ok (.iconst 0, 1) := zd_at zo_cL_law_240 91 rfl
theorem dL_law_618 : decode cL_law 618 = .ok (.ireturn, 1) := zd_at zo_cL_law_240 92 rfl
theorem dL_law_619 : decode cL_law 619 = .ok (.goto 969, 3) := zd_at zo_cL_law_240 93 rfl
theorem dL_law_622 : decode cL_law 622 = .ok (.aload_n 1, 1) := zd_at zo_cL_law_240 94 rfl
theorem dL_law_623 : decode cL_law 623 = .ok (.aload_n 0, 1) := zd_at zo_cL_law_240 95 rfl
theorem dL_law_624 : decode cL_law 624 = .ok (.iload 4, 2) := zd_at zo_cL_law_240 96 rfl
theorem dL_law_626 : decode cL_law 626 = .ok (.iconst 1, 1) := zd_at zo_cL_law_240 97 rfl
theorem dL_law_627 : decode cL_law 627 = .ok (.iadd, 1) := zd_at zo_cL_law_240 98 rfl
theorem dL_law_628 : decode cL_law 628 = .ok (.iaload, 1) := zd_at zo_cL_law_240 99 rfl
theorem dL_law_629 : decode cL_law 629 = .ok (.aload_n 3, 1) := zd_at zo_cL_law_240 100 rfl
theorem dL_law_630 : decode cL_law 630 = .ok (.invokestatic 121, 3) := zd_at zo_cL_law_240 101 rfl
theorem dL_law_633 : decode cL_law 633 = .ok (.istore 5, 2) := zd_at zo_cL_law_240 102 rfl
theorem dL_law_635 : decode cL_law 635 = .ok (.aload_n 2, 1) := zd_at zo_cL_law_240 103 rfl
theorem dL_law_636 : decode cL_law 636 = .ok (.aload_n 0, 1) := zd_at zo_cL_law_240 104 rfl
theorem dL_law_637 : decode cL_law 637 = .ok (.iload 4, 2) := zd_at zo_cL_law_240 105 rfl
theorem dL_law_639 : decode cL_law 639 = .ok (.iconst 1, 1) := zd_at zo_cL_law_240 106 rfl
theorem dL_law_640 : decode cL_law 640 = .ok (.iadd, 1) := zd_at zo_cL_law_240 107 rfl
theorem dL_law_641 : decode cL_law 641 = .ok (.iaload, 1) := zd_at zo_cL_law_240 108 rfl
theorem dL_law_642 : decode cL_law 642 = .ok (.invokevirtual 123, 3) := zd_at zo_cL_law_240 109 rfl
theorem dL_law_645 : decode cL_law 645 = .ok (.istore 6, 2) := zd_at zo_cL_law_240 110 rfl
theorem dL_law_647 : decode cL_law 647 = .ok (.aload_n 2, 1) := zd_at zo_cL_law_240 111 rfl
theorem dL_law_648 : decode cL_law 648 = .ok (.invokevirtual 89, 3) := zd_at zo_cL_law_240 112 rfl
theorem dL_law_651 : decode cL_law 651 = .ok (.iload 5, 2) := zd_at zo_cL_law_240 113 rfl
theorem dL_law_653 : decode cL_law 653 = .ok (.if_icmp .eq 5, 3) := zd_at zo_cL_law_240 114 rfl
theorem dL_law_656 : decode cL_law 656 = .ok (.iconst 0, 1) := zd_at zo_cL_law_240 115 rfl
theorem dL_law_657 : decode cL_law 657 = .ok (.ireturn, 1) := zd_at zo_cL_law_240 116 rfl
theorem dL_law_658 : decode cL_law 658 = .ok (.iload 5, 2) := zd_at zo_cL_law_240 117 rfl
theorem dL_law_660 : decode cL_law 660 = .ok (.ifCond .ne 15, 3) := zd_at zo_cL_law_240 118 rfl
theorem dL_law_663 : decode cL_law 663 = .ok (.aload_n 3, 1) := zd_at zo_cL_law_240 119 rfl
def zl_cL_law_360 : List (Nat × Instr × Nat) := [(664, .iconst 0, 1), (665, .laload, 1), (666, .iload 6, 2), (668, .i2l, 1), (669, .lcmp, 1), (670, .ifCond .eq 5, 3), (673, .iconst 0, 1), (674, .ireturn, 1), (675, .goto 913, 3), (678, .aload_n 1, 1), (679, .aload_n 0, 1), (680, .iload 4, 2), (682, .iconst 1, 1), (683, .iadd, 1), (684, .iaload, 1), (685, .aload_n 0, 1), (686, .iload 4, 2), (688, .iconst 2, 1), (689, .iadd, 1), (690, .iaload, 1), (691, .aload_n 0, 1), (692, .iload 4, 2), (694, .iconst 3, 1), (695, .iadd, 1), (696, .iaload, 1), (697, .aload_n 3, 1), (698, .invokestatic 124, 3), (701, .istore 5, 2), (703, .aload_n 2, 1), (704, .aload_n 0, 1), (705, .iload 4, 2), (707, .iconst 1, 1), (708, .iadd, 1), (709, .iaload, 1), (710, .aload_n 0, 1), (711, .iload 4, 2), (713, .iconst 2, 1), (714, .iadd, 1), (715, .iaload, 1), (716, .aload_n 0, 1), (717, .iload 4, 2), (719, .iconst 3, 1), (720, .iadd, 1), (721, .iaload, 1), (722, .invokevirtual 127, 3), (725, .istore 6, 2), (727, .aload_n 2, 1), (728, .invokevirtual 89, 3), (731, .iload 5, 2), (733, .if_icmp .eq 5, 3), (736, .iconst 0, 1), (737, .ireturn, 1), (738, .iload 5, 2), (740, .ifCond .ne 15, 3), (743, .aload_n 3, 1), (744, .iconst 0, 1), (745, .laload, 1), (746, .iload 6, 2), (748, .i2l, 1), (749, .lcmp, 1), (750, .ifCond .eq 5, 3), (753, .iconst 0, 1), (754, .ireturn, 1), (755, .goto 833, 3), (758, .aload_n 1, 1), (759, .aload_n 3, 1), (760, .invokestatic 128, 3), (763, .istore 5, 2), (765, .aload_n 2, 1), (766, .invokevirtual 130, 3), (769, .istore 6, 2), (771, .aload_n 2, 1), (772, .invokevirtual 89, 3), (775, .iload 5, 2), (777, .if_icmp .eq 5, 3), (780, .iconst 0, 1), (781, .ireturn, 1), (782, .iload 5, 2), (784, .ifCond .ne 15, 3), (787, .aload_n 3, 1), (788, .iconst 0, 1), (789, .laload, 1), (790, .iload 6, 2), (792, .i2l, 1), (793, .lcmp, 1), (794, .ifCond .eq 5, 3), (797, .iconst 0, 1), (798, .ireturn, 1), (799, .goto 789, 3), (802, .aload_n 1, 1), (803, .aload_n 0, 1), (804, .iload 4, 2), (806, .iconst 1, 1), (807, .iadd, 1), (808, .iaload, 1), (809, .aload_n 0, 1), (810, .iload 4, 2), (812, .iconst 2, 1), (813, .iadd, 1), (814, .iaload, 1), (815, .aload_n 0, 1), (816, .iload 4, 2), (818, .iconst 3, 1), (819, .iadd, 1), (820, .iaload, 1), (821, .aload_n 0, 1), (822, .iload 4, 2), (824, .iconst 4, 1), (825, .iadd, 1), (826, .iaload, 1), (827, .aload_n 3, 1), (828, .invokestatic 131, 3), (831, .istore 5, 2), (833, .aload_n 2, 1), (834, .aload_n 0, 1), (835, .iload 4, 2), (837, .iconst 1, 1), (838, .iadd, 1), (839, .iaload, 1), (840, .aload_n 0, 1)]
theorem zo_cL_law_360 : zd_ok cL_law zl_cL_law_360 = true := by decide +kernel
theorem dL_law_664 : decode cL_law 664 = .ok (.iconst 0, 1) := zd_at zo_cL_law_360 0 rfl
theorem dL_law_665 : decode cL_law 665 = .ok (.laload, 1) := zd_at zo_cL_law_360 1 rfl
theorem dL_law_666 : decode cL_law 666 = .ok (.iload 6, 2) := zd_at zo_cL_law_360 2 rfl
theorem dL_law_668 : decode cL_law 668 = .ok (.i2l, 1) := zd_at zo_cL_law_360 3 rfl
theorem dL_law_669 : decode cL_law 669 = .ok (.lcmp, 1) := zd_at zo_cL_law_360 4 rfl
theorem dL_law_670 : decode cL_law 670 = .ok (.ifCond .eq 5, 3) := zd_at zo_cL_law_360 5 rfl
theorem dL_law_673 : decode cL_law 673 = .ok (.iconst 0, 1) := zd_at zo_cL_law_360 6 rfl
theorem dL_law_674 : decode cL_law 674 = .ok (.ireturn, 1) := zd_at zo_cL_law_360 7 rfl
theorem dL_law_675 : decode cL_law 675 = .ok (.goto 913, 3) := zd_at zo_cL_law_360 8 rfl
theorem dL_law_678 : decode cL_law 678 = .ok (.aload_n 1, 1) := zd_at zo_cL_law_360 9 rfl
theorem dL_law_679 : decode cL_law 679 = .ok (.aload_n 0, 1) := zd_at zo_cL_law_360 10 rfl
theorem dL_law_680 : decode cL_law 680 = .ok (.iload 4, 2) := zd_at zo_cL_law_360 11 rfl
theorem dL_law_682 : decode cL_law 682 = .ok (.iconst 1, 1) := zd_at zo_cL_law_360 12 rfl
theorem dL_law_683 : decode cL_law 683 = .ok (.iadd, 1) := zd_at zo_cL_law_360 13 rfl
theorem dL_law_684 : decode cL_law 684 = .ok (.iaload, 1) := zd_at zo_cL_law_360 14 rfl
theorem dL_law_685 : decode cL_law 685 = .ok (.aload_n 0, 1) := zd_at zo_cL_law_360 15 rfl
theorem dL_law_686 : decode cL_law 686 = .ok (.iload 4, 2) := zd_at zo_cL_law_360 16 rfl
theorem dL_law_688 : decode cL_law 688 = .ok (.iconst 2, 1) := zd_at zo_cL_law_360 17 rfl
theorem dL_law_689 : decode cL_law 689 = .ok (.iadd, 1) := zd_at zo_cL_law_360 18 rfl
theorem dL_law_690 : decode cL_law 690 = .ok (.iaload, 1) := zd_at zo_cL_law_360 19 rfl
theorem dL_law_691 : decode cL_law 691 = .ok (.aload_n 0, 1) := zd_at zo_cL_law_360 20 rfl
theorem dL_law_692 : decode cL_law 692 = .ok (.iload 4, 2) := zd_at zo_cL_law_360 21 rfl
theorem dL_law_694 : decode cL_law 694 = .ok (.iconst 3, 1) := zd_at zo_cL_law_360 22 rfl
theorem dL_law_695 : decode cL_law 695 = .ok (.iadd, 1) := zd_at zo_cL_law_360 23 rfl
theorem dL_law_696 : decode cL_law 696 = .ok (.iaload, 1) := zd_at zo_cL_law_360 24 rfl
theorem dL_law_697 : decode cL_law 697 = .ok (.aload_n 3, 1) := zd_at zo_cL_law_360 25 rfl
theorem dL_law_698 : decode cL_law 698 = .ok (.invokestatic 124, 3) := zd_at zo_cL_law_360 26 rfl
theorem dL_law_701 : decode cL_law 701 = .ok (.istore 5, 2) := zd_at zo_cL_law_360 27 rfl
theorem dL_law_703 : decode cL_law 703 = .ok (.aload_n 2, 1) := zd_at zo_cL_law_360 28 rfl
theorem dL_law_704 : decode cL_law 704 = .ok (.aload_n 0, 1) := zd_at zo_cL_law_360 29 rfl
theorem dL_law_705 : decode cL_law 705 = .ok (.iload 4, 2) := zd_at zo_cL_law_360 30 rfl
theorem dL_law_707 : decode cL_law 707 = .ok (.iconst 1, 1) := zd_at zo_cL_law_360 31 rfl
theorem dL_law_708 : decode cL_law 708 = .ok (.iadd, 1) := zd_at zo_cL_law_360 32 rfl
theorem dL_law_709 : decode cL_law 709 = .ok (.iaload, 1) := zd_at zo_cL_law_360 33 rfl
theorem dL_law_710 : decode cL_law 710 = .ok (.aload_n 0, 1) := zd_at zo_cL_law_360 34 rfl
theorem dL_law_711 : decode cL_law 711 = .ok (.iload 4, 2) := zd_at zo_cL_law_360 35 rfl
theorem dL_law_713 : decode cL_law 713 = .ok (.iconst 2, 1) := zd_at zo_cL_law_360 36 rfl
theorem dL_law_714 : decode cL_law 714 = .ok (.iadd, 1) := zd_at zo_cL_law_360 37 rfl
theorem dL_law_715 : decode cL_law 715 = .ok (.iaload, 1) := zd_at zo_cL_law_360 38 rfl
theorem dL_law_716 : decode cL_law 716 = .ok (.aload_n 0, 1) := zd_at zo_cL_law_360 39 rfl
theorem dL_law_717 : decode cL_law 717 = .ok (.iload 4, 2) := zd_at zo_cL_law_360 40 rfl
theorem dL_law_719 : decode cL_law 719 = .ok (.iconst 3, 1) := zd_at zo_cL_law_360 41 rfl
theorem dL_law_720 : decode cL_law 720 = .ok (.iadd, 1) := zd_at zo_cL_law_360 42 rfl
theorem dL_law_721 : decode cL_law 721 = .ok (.iaload, 1) := zd_at zo_cL_law_360 43 rfl
theorem dL_law_722 : decode cL_law 722 = .ok (.invokevirtual 127, 3) := zd_at zo_cL_law_360 44 rfl
theorem dL_law_725 : decode cL_law 725 = .ok (.istore 6, 2) := zd_at zo_cL_law_360 45 rfl
theorem dL_law_727 : decode cL_law 727 = .ok (.aload_n 2, 1) := zd_at zo_cL_law_360 46 rfl
theorem dL_law_728 : decode cL_law 728 = .ok (.invokevirtual 89, 3) := zd_at zo_cL_law_360 47 rfl
theorem dL_law_731 : decode cL_law 731 = .ok (.iload 5, 2) := zd_at zo_cL_law_360 48 rfl
theorem dL_law_733 : decode cL_law 733 = .ok (.if_icmp .eq 5, 3) := zd_at zo_cL_law_360 49 rfl
theorem dL_law_736 : decode cL_law 736 = .ok (.iconst 0, 1) := zd_at zo_cL_law_360 50 rfl
theorem dL_law_737 : decode cL_law 737 = .ok (.ireturn, 1) := zd_at zo_cL_law_360 51 rfl
theorem dL_law_738 : decode cL_law 738 = .ok (.iload 5, 2) := zd_at zo_cL_law_360 52 rfl
theorem dL_law_740 : decode cL_law 740 = .ok (.ifCond .ne 15, 3) := zd_at zo_cL_law_360 53 rfl
theorem dL_law_743 : decode cL_law 743 = .ok (.aload_n 3, 1) := zd_at zo_cL_law_360 54 rfl
theorem dL_law_744 : decode cL_law 744 = .ok (.iconst 0, 1) := zd_at zo_cL_law_360 55 rfl
theorem dL_law_745 : decode cL_law 745 = .ok (.laload, 1) := zd_at zo_cL_law_360 56 rfl
theorem dL_law_746 : decode cL_law 746 = .ok (.iload 6, 2) := zd_at zo_cL_law_360 57 rfl
theorem dL_law_748 : decode cL_law 748 = .ok (.i2l, 1) := zd_at zo_cL_law_360 58 rfl
theorem dL_law_749 : decode cL_law 749 = .ok (.lcmp, 1) := zd_at zo_cL_law_360 59 rfl
theorem dL_law_750 : decode cL_law 750 = .ok (.ifCond .eq 5, 3) := zd_at zo_cL_law_360 60 rfl
theorem dL_law_753 : decode cL_law 753 = .ok (.iconst 0, 1) := zd_at zo_cL_law_360 61 rfl
theorem dL_law_754 : decode cL_law 754 = .ok (.ireturn, 1) := zd_at zo_cL_law_360 62 rfl
theorem dL_law_755 : decode cL_law 755 = .ok (.goto 833, 3) := zd_at zo_cL_law_360 63 rfl
theorem dL_law_758 : decode cL_law 758 = .ok (.aload_n 1, 1) := zd_at zo_cL_law_360 64 rfl
theorem dL_law_759 : decode cL_law 759 = .ok (.aload_n 3, 1) := zd_at zo_cL_law_360 65 rfl
theorem dL_law_760 : decode cL_law 760 = .ok (.invokestatic 128, 3) := zd_at zo_cL_law_360 66 rfl
theorem dL_law_763 : decode cL_law 763 = .ok (.istore 5, 2) := zd_at zo_cL_law_360 67 rfl
theorem dL_law_765 : decode cL_law 765 = .ok (.aload_n 2, 1) := zd_at zo_cL_law_360 68 rfl
theorem dL_law_766 : decode cL_law 766 = .ok (.invokevirtual 130, 3) := zd_at zo_cL_law_360 69 rfl
theorem dL_law_769 : decode cL_law 769 = .ok (.istore 6, 2) := zd_at zo_cL_law_360 70 rfl
theorem dL_law_771 : decode cL_law 771 = .ok (.aload_n 2, 1) := zd_at zo_cL_law_360 71 rfl
theorem dL_law_772 : decode cL_law 772 = .ok (.invokevirtual 89, 3) := zd_at zo_cL_law_360 72 rfl
theorem dL_law_775 : decode cL_law 775 = .ok (.iload 5, 2) := zd_at zo_cL_law_360 73 rfl
theorem dL_law_777 : decode cL_law 777 = .ok (.if_icmp .eq 5, 3) := zd_at zo_cL_law_360 74 rfl
theorem dL_law_780 : decode cL_law 780 = .ok (.iconst 0, 1) := zd_at zo_cL_law_360 75 rfl
theorem dL_law_781 : decode cL_law 781 = .ok (.ireturn, 1) := zd_at zo_cL_law_360 76 rfl
theorem dL_law_782 : decode cL_law 782 = .ok (.iload 5, 2) := zd_at zo_cL_law_360 77 rfl
theorem dL_law_784 : decode cL_law 784 = .ok (.ifCond .ne 15, 3) := zd_at zo_cL_law_360 78 rfl
theorem dL_law_787 : decode cL_law 787 = .ok (.aload_n 3, 1) := zd_at zo_cL_law_360 79 rfl
theorem dL_law_788 : decode cL_law 788 = .ok (.iconst 0, 1) := zd_at zo_cL_law_360 80 rfl
theorem dL_law_789 : decode cL_law 789 = .ok (.laload, 1) := zd_at zo_cL_law_360 81 rfl
theorem dL_law_790 : decode cL_law 790 = .ok (.iload 6, 2) := zd_at zo_cL_law_360 82 rfl
theorem dL_law_792 : decode cL_law 792 = .ok (.i2l, 1) := zd_at zo_cL_law_360 83 rfl
theorem dL_law_793 : decode cL_law 793 = .ok (.lcmp, 1) := zd_at zo_cL_law_360 84 rfl
theorem dL_law_794 : decode cL_law 794 = .ok (.ifCond .eq 5, 3) := zd_at zo_cL_law_360 85 rfl
theorem dL_law_797 : decode cL_law 797 = .ok (.iconst 0, 1) := zd_at zo_cL_law_360 86 rfl
theorem dL_law_798 : decode cL_law 798 = .ok (.ireturn, 1) := zd_at zo_cL_law_360 87 rfl
theorem dL_law_799 : decode cL_law 799 = .ok (.goto 789, 3) := zd_at zo_cL_law_360 88 rfl
theorem dL_law_802 : decode cL_law 802 = .ok (.aload_n 1, 1) := zd_at zo_cL_law_360 89 rfl
theorem dL_law_803 : decode cL_law 803 = .ok (.aload_n 0, 1) := zd_at zo_cL_law_360 90 rfl
theorem dL_law_804 : decode cL_law 804 = .ok (.iload 4, 2) := zd_at zo_cL_law_360 91 rfl
theorem dL_law_806 : decode cL_law 806 = .ok (.iconst 1, 1) := zd_at zo_cL_law_360 92 rfl
theorem dL_law_807 : decode cL_law 807 = .ok (.iadd, 1) := zd_at zo_cL_law_360 93 rfl
theorem dL_law_808 : decode cL_law 808 = .ok (.iaload, 1) := zd_at zo_cL_law_360 94 rfl
theorem dL_law_809 : decode cL_law 809 = .ok (.aload_n 0, 1) := zd_at zo_cL_law_360 95 rfl
theorem dL_law_810 : decode cL_law 810 = .ok (.iload 4, 2) := zd_at zo_cL_law_360 96 rfl
theorem dL_law_812 : decode cL_law 812 = .ok (.iconst 2, 1) := zd_at zo_cL_law_360 97 rfl
theorem dL_law_813 : decode cL_law 813 = .ok (.iadd, 1) := zd_at zo_cL_law_360 98 rfl
theorem dL_law_814 : decode cL_law 814 = .ok (.iaload, 1) := zd_at zo_cL_law_360 99 rfl
theorem dL_law_815 : decode cL_law 815 = .ok (.aload_n 0, 1) := zd_at zo_cL_law_360 100 rfl
theorem dL_law_816 : decode cL_law 816 = .ok (.iload 4, 2) := zd_at zo_cL_law_360 101 rfl
theorem dL_law_818 : decode cL_law 818 = .ok (.iconst 3, 1) := zd_at zo_cL_law_360 102 rfl
theorem dL_law_819 : decode cL_law 819 = .ok (.iadd, 1) := zd_at zo_cL_law_360 103 rfl
theorem dL_law_820 : decode cL_law 820 = .ok (.iaload, 1) := zd_at zo_cL_law_360 104 rfl
theorem dL_law_821 : decode cL_law 821 = .ok (.aload_n 0, 1) := zd_at zo_cL_law_360 105 rfl
theorem dL_law_822 : decode cL_law 822 = .ok (.iload 4, 2) := zd_at zo_cL_law_360 106 rfl
theorem dL_law_824 : decode cL_law 824 = .ok (.iconst 4, 1) := zd_at zo_cL_law_360 107 rfl
theorem dL_law_825 : decode cL_law 825 = .ok (.iadd, 1) := zd_at zo_cL_law_360 108 rfl
theorem dL_law_826 : decode cL_law 826 = .ok (.iaload, 1) := zd_at zo_cL_law_360 109 rfl
theorem dL_law_827 : decode cL_law 827 = .ok (.aload_n 3, 1) := zd_at zo_cL_law_360 110 rfl
theorem dL_law_828 : decode cL_law 828 = .ok (.invokestatic 131, 3) := zd_at zo_cL_law_360 111 rfl
theorem dL_law_831 : decode cL_law 831 = .ok (.istore 5, 2) := zd_at zo_cL_law_360 112 rfl
theorem dL_law_833 : decode cL_law 833 = .ok (.aload_n 2, 1) := zd_at zo_cL_law_360 113 rfl
theorem dL_law_834 : decode cL_law 834 = .ok (.aload_n 0, 1) := zd_at zo_cL_law_360 114 rfl
theorem dL_law_835 : decode cL_law 835 = .ok (.iload 4, 2) := zd_at zo_cL_law_360 115 rfl
theorem dL_law_837 : decode cL_law 837 = .ok (.iconst 1, 1) := zd_at zo_cL_law_360 116 rfl
theorem dL_law_838 : decode cL_law 838 = .ok (.iadd, 1) := zd_at zo_cL_law_360 117 rfl
theorem dL_law_839 : decode cL_law 839 = .ok (.iaload, 1) := zd_at zo_cL_law_360 118 rfl
theorem dL_law_840 : decode cL_law 840 = .ok (.aload_n 0, 1) := zd_at zo_cL_law_360 119 rfl
def zl_cL_law_480 : List (Nat × Instr × Nat) := [(841, .iload 4, 2), (843, .iconst 2, 1), (844, .iadd, 1), (845, .iaload, 1), (846, .aload_n 0, 1), (847, .iload 4, 2), (849, .iconst 3, 1), (850, .iadd, 1), (851, .iaload, 1), (852, .aload_n 0, 1), (853, .iload 4, 2), (855, .iconst 4, 1), (856, .iadd, 1), (857, .iaload, 1), (858, .invokevirtual 133, 3), (861, .istore 6, 2), (863, .aload_n 2, 1), (864, .invokevirtual 89, 3), (867, .iload 5, 2), (869, .if_icmp .eq 5, 3), (872, .iconst 0, 1), (873, .ireturn, 1), (874, .iload 5, 2), (876, .ifCond .ne 15, 3), (879, .aload_n 3, 1), (880, .iconst 0, 1), (881, .laload, 1), (882, .iload 6, 2), (884, .i2l, 1), (885, .lcmp, 1), (886, .ifCond .eq 5, 3), (889, .iconst 0, 1), (890, .ireturn, 1), (891, .goto 697, 3), (894, .aload_n 1, 1), (895, .aload_n 0, 1), (896, .iload 4, 2), (898, .iconst 1, 1), (899, .iadd, 1), (900, .iaload, 1), (901, .aload_n 0, 1), (902, .iload 4, 2), (904, .iconst 2, 1), (905, .iadd, 1), (906, .iaload, 1), (907, .aload_n 0, 1), (908, .iload 4, 2), (910, .iconst 3, 1), (911, .iadd, 1), (912, .iaload, 1), (913, .aload_n 0, 1), (914, .iload 4, 2), (916, .iconst 4, 1), (917, .iadd, 1), (918, .iaload, 1), (919, .aload_n 3, 1), (920, .invokestatic 134, 3), (923, .istore 5, 2), (925, .aload_n 2, 1), (926, .aload_n 0, 1), (927, .iload 4, 2), (929, .iconst 1, 1), (930, .iadd, 1), (931, .iaload, 1), (932, .aload_n 0, 1), (933, .iload 4, 2), (935, .iconst 2, 1), (936, .iadd, 1), (937, .iaload, 1), (938, .aload_n 0, 1), (939, .iload 4, 2), (941, .iconst 3, 1), (942, .iadd, 1), (943, .iaload, 1), (944, .aload_n 0, 1), (945, .iload 4, 2), (947, .iconst 4, 1), (948, .iadd, 1), (949, .iaload, 1), (950, .invokevirtual 136, 3), (953, .istore 6, 2), (955, .aload_n 2, 1), (956, .invokevirtual 89, 3), (959, .iload 5, 2), (961, .if_icmp .eq 5, 3), (964, .iconst 0, 1), (965, .ireturn, 1), (966, .iload 5, 2), (968, .ifCond .ne 15, 3), (971, .aload_n 3, 1), (972, .iconst 0, 1), (973, .laload, 1), (974, .iload 6, 2), (976, .i2l, 1), (977, .lcmp, 1), (978, .ifCond .eq 5, 3), (981, .iconst 0, 1), (982, .ireturn, 1), (983, .goto 605, 3), (986, .aload_n 1, 1), (987, .aload_n 0, 1), (988, .iload 4, 2), (990, .iconst 1, 1), (991, .iadd, 1), (992, .iaload, 1), (993, .aload_n 0, 1), (994, .iload 4, 2), (996, .iconst 2, 1), (997, .iadd, 1), (998, .iaload, 1), (999, .aload_n 0, 1), (1000, .iload 4, 2), (1002, .iconst 3, 1), (1003, .iadd, 1), (1004, .iaload, 1), (1005, .aload_n 3, 1), (1006, .invokestatic 137, 3), (1009, .istore 5, 2), (1011, .aload_n 2, 1), (1012, .aload_n 0, 1)]
theorem zo_cL_law_480 : zd_ok cL_law zl_cL_law_480 = true := by decide +kernel
theorem dL_law_841 : decode cL_law 841 = .ok (.iload 4, 2) := zd_at zo_cL_law_480 0 rfl
theorem dL_law_843 : decode cL_law 843 = .ok (.iconst 2, 1) := zd_at zo_cL_law_480 1 rfl
theorem dL_law_844 : decode cL_law 844 = .ok (.iadd, 1) := zd_at zo_cL_law_480 2 rfl
theorem dL_law_845 : decode cL_law 845 = .ok (.iaload, 1) := zd_at zo_cL_law_480 3 rfl
theorem dL_law_846 : decode cL_law 846 = .ok (.aload_n 0, 1) := zd_at zo_cL_law_480 4 rfl
theorem dL_law_847 : decode cL_law 847 = .ok (.iload 4, 2) := zd_at zo_cL_law_480 5 rfl
theorem dL_law_849 : decode cL_law 849 = .ok (.iconst 3, 1) := zd_at zo_cL_law_480 6 rfl
theorem dL_law_850 : decode cL_law 850 = .ok (.iadd, 1) := zd_at zo_cL_law_480 7 rfl
theorem dL_law_851 : decode cL_law 851 = .ok (.iaload, 1) := zd_at zo_cL_law_480 8 rfl
theorem dL_law_852 : decode cL_law 852 = .ok (.aload_n 0, 1) := zd_at zo_cL_law_480 9 rfl
theorem dL_law_853 : decode cL_law 853 = .ok (.iload 4, 2) := zd_at zo_cL_law_480 10 rfl
theorem dL_law_855 : decode cL_law 855 = .ok (.iconst 4, 1) := zd_at zo_cL_law_480 11 rfl
theorem dL_law_856 : decode cL_law 856 = .ok (.iadd, 1) := zd_at zo_cL_law_480 12 rfl
theorem dL_law_857 : decode cL_law 857 = .ok (.iaload, 1) := zd_at zo_cL_law_480 13 rfl
theorem dL_law_858 : decode cL_law 858 = .ok (.invokevirtual 133, 3) := zd_at zo_cL_law_480 14 rfl
theorem dL_law_861 : decode cL_law 861 = .ok (.istore 6, 2) := zd_at zo_cL_law_480 15 rfl
theorem dL_law_863 : decode cL_law 863 = .ok (.aload_n 2, 1) := zd_at zo_cL_law_480 16 rfl
theorem dL_law_864 : decode cL_law 864 = .ok (.invokevirtual 89, 3) := zd_at zo_cL_law_480 17 rfl
theorem dL_law_867 : decode cL_law 867 = .ok (.iload 5, 2) := zd_at zo_cL_law_480 18 rfl
theorem dL_law_869 : decode cL_law 869 = .ok (.if_icmp .eq 5, 3) := zd_at zo_cL_law_480 19 rfl
theorem dL_law_872 : decode cL_law 872 = .ok (.iconst 0, 1) := zd_at zo_cL_law_480 20 rfl
theorem dL_law_873 : decode cL_law 873 = .ok (.ireturn, 1) := zd_at zo_cL_law_480 21 rfl
theorem dL_law_874 : decode cL_law 874 = .ok (.iload 5, 2) := zd_at zo_cL_law_480 22 rfl
theorem dL_law_876 : decode cL_law 876 = .ok (.ifCond .ne 15, 3) := zd_at zo_cL_law_480 23 rfl
theorem dL_law_879 : decode cL_law 879 = .ok (.aload_n 3, 1) := zd_at zo_cL_law_480 24 rfl
theorem dL_law_880 : decode cL_law 880 = .ok (.iconst 0, 1) := zd_at zo_cL_law_480 25 rfl
theorem dL_law_881 : decode cL_law 881 = .ok (.laload, 1) := zd_at zo_cL_law_480 26 rfl
theorem dL_law_882 : decode cL_law 882 = .ok (.iload 6, 2) := zd_at zo_cL_law_480 27 rfl
theorem dL_law_884 : decode cL_law 884 = .ok (.i2l, 1) := zd_at zo_cL_law_480 28 rfl
theorem dL_law_885 : decode cL_law 885 = .ok (.lcmp, 1) := zd_at zo_cL_law_480 29 rfl
theorem dL_law_886 : decode cL_law 886 = .ok (.ifCond .eq 5, 3) := zd_at zo_cL_law_480 30 rfl
theorem dL_law_889 : decode cL_law 889 = .ok (.iconst 0, 1) := zd_at zo_cL_law_480 31 rfl
theorem dL_law_890 : decode cL_law 890 = .ok (.ireturn, 1) := zd_at zo_cL_law_480 32 rfl
theorem dL_law_891 : decode cL_law 891 = .ok (.goto 697, 3) := zd_at zo_cL_law_480 33 rfl
theorem dL_law_894 : decode cL_law 894 = .ok (.aload_n 1, 1) := zd_at zo_cL_law_480 34 rfl
theorem dL_law_895 : decode cL_law 895 = .ok (.aload_n 0, 1) := zd_at zo_cL_law_480 35 rfl
theorem dL_law_896 : decode cL_law 896 = .ok (.iload 4, 2) := zd_at zo_cL_law_480 36 rfl
theorem dL_law_898 : decode cL_law 898 = .ok (.iconst 1, 1) := zd_at zo_cL_law_480 37 rfl
theorem dL_law_899 : decode cL_law 899 = .ok (.iadd, 1) := zd_at zo_cL_law_480 38 rfl
theorem dL_law_900 : decode cL_law 900 = .ok (.iaload, 1) := zd_at zo_cL_law_480 39 rfl
theorem dL_law_901 : decode cL_law 901 = .ok (.aload_n 0, 1) := zd_at zo_cL_law_480 40 rfl
theorem dL_law_902 : decode cL_law 902 = .ok (.iload 4, 2) := zd_at zo_cL_law_480 41 rfl
theorem dL_law_904 : decode cL_law 904 = .ok (.iconst 2, 1) := zd_at zo_cL_law_480 42 rfl
theorem dL_law_905 : decode cL_law 905 = .ok (.iadd, 1) := zd_at zo_cL_law_480 43 rfl
theorem dL_law_906 : decode cL_law 906 = .ok (.iaload, 1) := zd_at zo_cL_law_480 44 rfl
theorem dL_law_907 : decode cL_law 907 = .ok (.aload_n 0, 1) := zd_at zo_cL_law_480 45 rfl
theorem dL_law_908 : decode cL_law 908 = .ok (.iload 4, 2) := zd_at zo_cL_law_480 46 rfl
theorem dL_law_910 : decode cL_law 910 = .ok (.iconst 3, 1) := zd_at zo_cL_law_480 47 rfl
theorem dL_law_911 : decode cL_law 911 = .ok (.iadd, 1) := zd_at zo_cL_law_480 48 rfl
theorem dL_law_912 : decode cL_law 912 = .ok (.iaload, 1) := zd_at zo_cL_law_480 49 rfl
theorem dL_law_913 : decode cL_law 913 = .ok (.aload_n 0, 1) := zd_at zo_cL_law_480 50 rfl
theorem dL_law_914 : decode cL_law 914 = .ok (.iload 4, 2) := zd_at zo_cL_law_480 51 rfl
theorem dL_law_916 : decode cL_law 916 = .ok (.iconst 4, 1) := zd_at zo_cL_law_480 52 rfl
theorem dL_law_917 : decode cL_law 917 = .ok (.iadd, 1) := zd_at zo_cL_law_480 53 rfl
theorem dL_law_918 : decode cL_law 918 = .ok (.iaload, 1) := zd_at zo_cL_law_480 54 rfl
theorem dL_law_919 : decode cL_law 919 = .ok (.aload_n 3, 1) := zd_at zo_cL_law_480 55 rfl
theorem dL_law_920 : decode cL_law 920 = .ok (.invokestatic 134, 3) := zd_at zo_cL_law_480 56 rfl
theorem dL_law_923 : decode cL_law 923 = .ok (.istore 5, 2) := zd_at zo_cL_law_480 57 rfl
theorem dL_law_925 : decode cL_law 925 = .ok (.aload_n 2, 1) := zd_at zo_cL_law_480 58 rfl
theorem dL_law_926 : decode cL_law 926 = .ok (.aload_n 0, 1) := zd_at zo_cL_law_480 59 rfl
theorem dL_law_927 : decode cL_law 927 = .ok (.iload 4, 2) := zd_at zo_cL_law_480 60 rfl
theorem dL_law_929 : decode cL_law 929 = .ok (.iconst 1, 1) := zd_at zo_cL_law_480 61 rfl
theorem dL_law_930 : decode cL_law 930 = .ok (.iadd, 1) := zd_at zo_cL_law_480 62 rfl
theorem dL_law_931 : decode cL_law 931 = .ok (.iaload, 1) := zd_at zo_cL_law_480 63 rfl
theorem dL_law_932 : decode cL_law 932 = .ok (.aload_n 0, 1) := zd_at zo_cL_law_480 64 rfl
theorem dL_law_933 : decode cL_law 933 = .ok (.iload 4, 2) := zd_at zo_cL_law_480 65 rfl
theorem dL_law_935 : decode cL_law 935 = .ok (.iconst 2, 1) := zd_at zo_cL_law_480 66 rfl
theorem dL_law_936 : decode cL_law 936 = .ok (.iadd, 1) := zd_at zo_cL_law_480 67 rfl
theorem dL_law_937 : decode cL_law 937 = .ok (.iaload, 1) := zd_at zo_cL_law_480 68 rfl
theorem dL_law_938 : decode cL_law 938 = .ok (.aload_n 0, 1) := zd_at zo_cL_law_480 69 rfl
theorem dL_law_939 : decode cL_law 939 = .ok (.iload 4, 2) := zd_at zo_cL_law_480 70 rfl
theorem dL_law_941 : decode cL_law 941 = .ok (.iconst 3, 1) := zd_at zo_cL_law_480 71 rfl
theorem dL_law_942 : decode cL_law 942 = .ok (.iadd, 1) := zd_at zo_cL_law_480 72 rfl
theorem dL_law_943 : decode cL_law 943 = .ok (.iaload, 1) := zd_at zo_cL_law_480 73 rfl
theorem dL_law_944 : decode cL_law 944 = .ok (.aload_n 0, 1) := zd_at zo_cL_law_480 74 rfl
theorem dL_law_945 : decode cL_law 945 = .ok (.iload 4, 2) := zd_at zo_cL_law_480 75 rfl
theorem dL_law_947 : decode cL_law 947 = .ok (.iconst 4, 1) := zd_at zo_cL_law_480 76 rfl
theorem dL_law_948 : decode cL_law 948 = .ok (.iadd, 1) := zd_at zo_cL_law_480 77 rfl
theorem dL_law_949 : decode cL_law 949 = .ok (.iaload, 1) := zd_at zo_cL_law_480 78 rfl
theorem dL_law_950 : decode cL_law 950 = .ok (.invokevirtual 136, 3) := zd_at zo_cL_law_480 79 rfl
theorem dL_law_953 : decode cL_law 953 = .ok (.istore 6, 2) := zd_at zo_cL_law_480 80 rfl
theorem dL_law_955 : decode cL_law 955 = .ok (.aload_n 2, 1) := zd_at zo_cL_law_480 81 rfl
theorem dL_law_956 : decode cL_law 956 = .ok (.invokevirtual 89, 3) := zd_at zo_cL_law_480 82 rfl
theorem dL_law_959 : decode cL_law 959 = .ok (.iload 5, 2) := zd_at zo_cL_law_480 83 rfl
theorem dL_law_961 : decode cL_law 961 = .ok (.if_icmp .eq 5, 3) := zd_at zo_cL_law_480 84 rfl
theorem dL_law_964 : decode cL_law 964 = .ok (.iconst 0, 1) := zd_at zo_cL_law_480 85 rfl
theorem dL_law_965 : decode cL_law 965 = .ok (.ireturn, 1) := zd_at zo_cL_law_480 86 rfl
theorem dL_law_966 : decode cL_law 966 = .ok (.iload 5, 2) := zd_at zo_cL_law_480 87 rfl
theorem dL_law_968 : decode cL_law 968 = .ok (.ifCond .ne 15, 3) := zd_at zo_cL_law_480 88 rfl
theorem dL_law_971 : decode cL_law 971 = .ok (.aload_n 3, 1) := zd_at zo_cL_law_480 89 rfl
theorem dL_law_972 : decode cL_law 972 = .ok (.iconst 0, 1) := zd_at zo_cL_law_480 90 rfl
theorem dL_law_973 : decode cL_law 973 = .ok (.laload, 1) := zd_at zo_cL_law_480 91 rfl
theorem dL_law_974 : decode cL_law 974 = .ok (.iload 6, 2) := zd_at zo_cL_law_480 92 rfl
theorem dL_law_976 : decode cL_law 976 = .ok (.i2l, 1) := zd_at zo_cL_law_480 93 rfl
theorem dL_law_977 : decode cL_law 977 = .ok (.lcmp, 1) := zd_at zo_cL_law_480 94 rfl
theorem dL_law_978 : decode cL_law 978 = .ok (.ifCond .eq 5, 3) := zd_at zo_cL_law_480 95 rfl
theorem dL_law_981 : decode cL_law 981 = .ok (.iconst 0, 1) := zd_at zo_cL_law_480 96 rfl
theorem dL_law_982 : decode cL_law 982 = .ok (.ireturn, 1) := zd_at zo_cL_law_480 97 rfl
theorem dL_law_983 : decode cL_law 983 = .ok (.goto 605, 3) := zd_at zo_cL_law_480 98 rfl
theorem dL_law_986 : decode cL_law 986 = .ok (.aload_n 1, 1) := zd_at zo_cL_law_480 99 rfl
theorem dL_law_987 : decode cL_law 987 = .ok (.aload_n 0, 1) := zd_at zo_cL_law_480 100 rfl
theorem dL_law_988 : decode cL_law 988 = .ok (.iload 4, 2) := zd_at zo_cL_law_480 101 rfl
theorem dL_law_990 : decode cL_law 990 = .ok (.iconst 1, 1) := zd_at zo_cL_law_480 102 rfl
theorem dL_law_991 : decode cL_law 991 = .ok (.iadd, 1) := zd_at zo_cL_law_480 103 rfl
theorem dL_law_992 : decode cL_law 992 = .ok (.iaload, 1) := zd_at zo_cL_law_480 104 rfl
theorem dL_law_993 : decode cL_law 993 = .ok (.aload_n 0, 1) := zd_at zo_cL_law_480 105 rfl
theorem dL_law_994 : decode cL_law 994 = .ok (.iload 4, 2) := zd_at zo_cL_law_480 106 rfl
theorem dL_law_996 : decode cL_law 996 = .ok (.iconst 2, 1) := zd_at zo_cL_law_480 107 rfl
theorem dL_law_997 : decode cL_law 997 = .ok (.iadd, 1) := zd_at zo_cL_law_480 108 rfl
theorem dL_law_998 : decode cL_law 998 = .ok (.iaload, 1) := zd_at zo_cL_law_480 109 rfl
theorem dL_law_999 : decode cL_law 999 = .ok (.aload_n 0, 1) := zd_at zo_cL_law_480 110 rfl
theorem dL_law_1000 : decode cL_law 1000 = .ok (.iload 4, 2) := zd_at zo_cL_law_480 111 rfl
theorem dL_law_1002 : decode cL_law 1002 = .ok (.iconst 3, 1) := zd_at zo_cL_law_480 112 rfl
theorem dL_law_1003 : decode cL_law 1003 = .ok (.iadd, 1) := zd_at zo_cL_law_480 113 rfl
theorem dL_law_1004 : decode cL_law 1004 = .ok (.iaload, 1) := zd_at zo_cL_law_480 114 rfl
theorem dL_law_1005 : decode cL_law 1005 = .ok (.aload_n 3, 1) := zd_at zo_cL_law_480 115 rfl
theorem dL_law_1006 : decode cL_law 1006 = .ok (.invokestatic 137, 3) := zd_at zo_cL_law_480 116 rfl
theorem dL_law_1009 : decode cL_law 1009 = .ok (.istore 5, 2) := zd_at zo_cL_law_480 117 rfl
theorem dL_law_1011 : decode cL_law 1011 = .ok (.aload_n 2, 1) := zd_at zo_cL_law_480 118 rfl
theorem dL_law_1012 : decode cL_law 1012 = .ok (.aload_n 0, 1) := zd_at zo_cL_law_480 119 rfl
def zl_cL_law_600 : List (Nat × Instr × Nat) := [(1013, .iload 4, 2), (1015, .iconst 1, 1), (1016, .iadd, 1), (1017, .iaload, 1), (1018, .aload_n 0, 1), (1019, .iload 4, 2), (1021, .iconst 2, 1), (1022, .iadd, 1), (1023, .iaload, 1), (1024, .aload_n 0, 1), (1025, .iload 4, 2), (1027, .iconst 3, 1), (1028, .iadd, 1), (1029, .iaload, 1), (1030, .invokevirtual 139, 3), (1033, .istore 6, 2), (1035, .aload_n 2, 1), (1036, .invokevirtual 89, 3), (1039, .iload 5, 2), (1041, .if_icmp .eq 5, 3), (1044, .iconst 0, 1), (1045, .ireturn, 1), (1046, .iload 5, 2), (1048, .ifCond .ne 15, 3), (1051, .aload_n 3, 1), (1052, .iconst 0, 1), (1053, .laload, 1), (1054, .iload 6, 2), (1056, .i2l, 1), (1057, .lcmp, 1), (1058, .ifCond .eq 5, 3), (1061, .iconst 0, 1), (1062, .ireturn, 1), (1063, .goto 525, 3), (1066, .aload_n 1, 1), (1067, .aload_n 0, 1), (1068, .iload 4, 2), (1070, .iconst 1, 1), (1071, .iadd, 1), (1072, .iaload, 1), (1073, .aload_n 0, 1), (1074, .iload 4, 2), (1076, .iconst 2, 1), (1077, .iadd, 1), (1078, .iaload, 1), (1079, .aload_n 0, 1), (1080, .iload 4, 2), (1082, .iconst 3, 1), (1083, .iadd, 1), (1084, .iaload, 1), (1085, .aload_n 0, 1), (1086, .iload 4, 2), (1088, .iconst 4, 1), (1089, .iadd, 1), (1090, .iaload, 1), (1091, .aload_n 3, 1), (1092, .invokestatic 140, 3), (1095, .istore 5, 2), (1097, .aload_n 2, 1), (1098, .aload_n 0, 1), (1099, .iload 4, 2), (1101, .iconst 1, 1), (1102, .iadd, 1), (1103, .iaload, 1), (1104, .aload_n 0, 1), (1105, .iload 4, 2), (1107, .iconst 2, 1), (1108, .iadd, 1), (1109, .iaload, 1), (1110, .aload_n 0, 1), (1111, .iload 4, 2), (1113, .iconst 3, 1), (1114, .iadd, 1), (1115, .iaload, 1), (1116, .aload_n 0, 1), (1117, .iload 4, 2), (1119, .iconst 4, 1), (1120, .iadd, 1), (1121, .iaload, 1), (1122, .invokevirtual 142, 3), (1125, .istore 6, 2), (1127, .aload_n 2, 1), (1128, .invokevirtual 89, 3), (1131, .iload 5, 2), (1133, .if_icmp .eq 5, 3), (1136, .iconst 0, 1), (1137, .ireturn, 1), (1138, .iload 5, 2), (1140, .ifCond .ne 15, 3), (1143, .aload_n 3, 1), (1144, .iconst 0, 1), (1145, .laload, 1), (1146, .iload 6, 2), (1148, .i2l, 1), (1149, .lcmp, 1), (1150, .ifCond .eq 5, 3), (1153, .iconst 0, 1), (1154, .ireturn, 1), (1155, .goto 433, 3), (1158, .aload_n 1, 1), (1159, .aload_n 0, 1), (1160, .iload 4, 2), (1162, .iconst 1, 1), (1163, .iadd, 1), (1164, .iaload, 1), (1165, .aload_n 0, 1), (1166, .iload 4, 2), (1168, .iconst 2, 1), (1169, .iadd, 1), (1170, .iaload, 1), (1171, .aload_n 0, 1), (1172, .iload 4, 2), (1174, .iconst 3, 1), (1175, .iadd, 1), (1176, .iaload, 1), (1177, .aload_n 0, 1), (1178, .iload 4, 2), (1180, .iconst 4, 1), (1181, .iadd, 1), (1182, .iaload, 1)]
theorem zo_cL_law_600 : zd_ok cL_law zl_cL_law_600 = true := by decide +kernel
theorem dL_law_1013 : decode cL_law 1013 = .ok (.iload 4, 2) := zd_at zo_cL_law_600 0 rfl
theorem dL_law_1015 : decode cL_law 1015 = .ok (.iconst 1, 1) := zd_at zo_cL_law_600 1 rfl
theorem dL_law_1016 : decode cL_law 1016 = .ok (.iadd, 1) := zd_at zo_cL_law_600 2 rfl
theorem dL_law_1017 : decode cL_law 1017 = .ok (.iaload, 1) := zd_at zo_cL_law_600 3 rfl
theorem dL_law_1018 : decode cL_law 1018 = .ok (.aload_n 0, 1) := zd_at zo_cL_law_600 4 rfl
theorem dL_law_1019 : decode cL_law 1019 = .ok (.iload 4, 2) := zd_at zo_cL_law_600 5 rfl
theorem dL_law_1021 : decode cL_law 1021 = .ok (.iconst 2, 1) := zd_at zo_cL_law_600 6 rfl
theorem dL_law_1022 : decode cL_law 1022 = .ok (.iadd, 1) := zd_at zo_cL_law_600 7 rfl
theorem dL_law_1023 : decode cL_law 1023 = .ok (.iaload, 1) := zd_at zo_cL_law_600 8 rfl
theorem dL_law_1024 : decode cL_law 1024 = .ok (.aload_n 0, 1) := zd_at zo_cL_law_600 9 rfl
theorem dL_law_1025 : decode cL_law 1025 = .ok (.iload 4, 2) := zd_at zo_cL_law_600 10 rfl
theorem dL_law_1027 : decode cL_law 1027 = .ok (.iconst 3, 1) := zd_at zo_cL_law_600 11 rfl
theorem dL_law_1028 : decode cL_law 1028 = .ok (.iadd, 1) := zd_at zo_cL_law_600 12 rfl
theorem dL_law_1029 : decode cL_law 1029 = .ok (.iaload, 1) := zd_at zo_cL_law_600 13 rfl
theorem dL_law_1030 : decode cL_law 1030 = .ok (.invokevirtual 139, 3) := zd_at zo_cL_law_600 14 rfl
theorem dL_law_1033 : decode cL_law 1033 = .ok (.istore 6, 2) := zd_at zo_cL_law_600 15 rfl
theorem dL_law_1035 : decode cL_law 1035 = .ok (.aload_n 2, 1) := zd_at zo_cL_law_600 16 rfl
theorem dL_law_1036 : decode cL_law 1036 = .ok (.invokevirtual 89, 3) := zd_at zo_cL_law_600 17 rfl
theorem dL_law_1039 : decode cL_law 1039 = .ok (.iload 5, 2) := zd_at zo_cL_law_600 18 rfl
theorem dL_law_1041 : decode cL_law 1041 = .ok (.if_icmp .eq 5, 3) := zd_at zo_cL_law_600 19 rfl
theorem dL_law_1044 : decode cL_law 1044 = .ok (.iconst 0, 1) := zd_at zo_cL_law_600 20 rfl
theorem dL_law_1045 : decode cL_law 1045 = .ok (.ireturn, 1) := zd_at zo_cL_law_600 21 rfl
theorem dL_law_1046 : decode cL_law 1046 = .ok (.iload 5, 2) := zd_at zo_cL_law_600 22 rfl
theorem dL_law_1048 : decode cL_law 1048 = .ok (.ifCond .ne 15, 3) := zd_at zo_cL_law_600 23 rfl
theorem dL_law_1051 : decode cL_law 1051 = .ok (.aload_n 3, 1) := zd_at zo_cL_law_600 24 rfl
theorem dL_law_1052 : decode cL_law 1052 = .ok (.iconst 0, 1) := zd_at zo_cL_law_600 25 rfl
theorem dL_law_1053 : decode cL_law 1053 = .ok (.laload, 1) := zd_at zo_cL_law_600 26 rfl
theorem dL_law_1054 : decode cL_law 1054 = .ok (.iload 6, 2) := zd_at zo_cL_law_600 27 rfl
theorem dL_law_1056 : decode cL_law 1056 = .ok (.i2l, 1) := zd_at zo_cL_law_600 28 rfl
theorem dL_law_1057 : decode cL_law 1057 = .ok (.lcmp, 1) := zd_at zo_cL_law_600 29 rfl
theorem dL_law_1058 : decode cL_law 1058 = .ok (.ifCond .eq 5, 3) := zd_at zo_cL_law_600 30 rfl
theorem dL_law_1061 : decode cL_law 1061 = .ok (.iconst 0, 1) := zd_at zo_cL_law_600 31 rfl
theorem dL_law_1062 : decode cL_law 1062 = .ok (.ireturn, 1) := zd_at zo_cL_law_600 32 rfl
theorem dL_law_1063 : decode cL_law 1063 = .ok (.goto 525, 3) := zd_at zo_cL_law_600 33 rfl
theorem dL_law_1066 : decode cL_law 1066 = .ok (.aload_n 1, 1) := zd_at zo_cL_law_600 34 rfl
theorem dL_law_1067 : decode cL_law 1067 = .ok (.aload_n 0, 1) := zd_at zo_cL_law_600 35 rfl
theorem dL_law_1068 : decode cL_law 1068 = .ok (.iload 4, 2) := zd_at zo_cL_law_600 36 rfl
theorem dL_law_1070 : decode cL_law 1070 = .ok (.iconst 1, 1) := zd_at zo_cL_law_600 37 rfl
theorem dL_law_1071 : decode cL_law 1071 = .ok (.iadd, 1) := zd_at zo_cL_law_600 38 rfl
theorem dL_law_1072 : decode cL_law 1072 = .ok (.iaload, 1) := zd_at zo_cL_law_600 39 rfl
theorem dL_law_1073 : decode cL_law 1073 = .ok (.aload_n 0, 1) := zd_at zo_cL_law_600 40 rfl
theorem dL_law_1074 : decode cL_law 1074 = .ok (.iload 4, 2) := zd_at zo_cL_law_600 41 rfl
theorem dL_law_1076 : decode cL_law 1076 = .ok (.iconst 2, 1) := zd_at zo_cL_law_600 42 rfl
theorem dL_law_1077 : decode cL_law 1077 = .ok (.iadd, 1) := zd_at zo_cL_law_600 43 rfl
theorem dL_law_1078 : decode cL_law 1078 = .ok (.iaload, 1) := zd_at zo_cL_law_600 44 rfl
theorem dL_law_1079 : decode cL_law 1079 = .ok (.aload_n 0, 1) := zd_at zo_cL_law_600 45 rfl
theorem dL_law_1080 : decode cL_law 1080 = .ok (.iload 4, 2) := zd_at zo_cL_law_600 46 rfl
theorem dL_law_1082 : decode cL_law 1082 = .ok (.iconst 3, 1) := zd_at zo_cL_law_600 47 rfl
theorem dL_law_1083 : decode cL_law 1083 = .ok (.iadd, 1) := zd_at zo_cL_law_600 48 rfl
theorem dL_law_1084 : decode cL_law 1084 = .ok (.iaload, 1) := zd_at zo_cL_law_600 49 rfl
theorem dL_law_1085 : decode cL_law 1085 = .ok (.aload_n 0, 1) := zd_at zo_cL_law_600 50 rfl
theorem dL_law_1086 : decode cL_law 1086 = .ok (.iload 4, 2) := zd_at zo_cL_law_600 51 rfl
theorem dL_law_1088 : decode cL_law 1088 = .ok (.iconst 4, 1) := zd_at zo_cL_law_600 52 rfl
theorem dL_law_1089 : decode cL_law 1089 = .ok (.iadd, 1) := zd_at zo_cL_law_600 53 rfl
theorem dL_law_1090 : decode cL_law 1090 = .ok (.iaload, 1) := zd_at zo_cL_law_600 54 rfl
theorem dL_law_1091 : decode cL_law 1091 = .ok (.aload_n 3, 1) := zd_at zo_cL_law_600 55 rfl
theorem dL_law_1092 : decode cL_law 1092 = .ok (.invokestatic 140, 3) := zd_at zo_cL_law_600 56 rfl
theorem dL_law_1095 : decode cL_law 1095 = .ok (.istore 5, 2) := zd_at zo_cL_law_600 57 rfl
theorem dL_law_1097 : decode cL_law 1097 = .ok (.aload_n 2, 1) := zd_at zo_cL_law_600 58 rfl
theorem dL_law_1098 : decode cL_law 1098 = .ok (.aload_n 0, 1) := zd_at zo_cL_law_600 59 rfl
theorem dL_law_1099 : decode cL_law 1099 = .ok (.iload 4, 2) := zd_at zo_cL_law_600 60 rfl
theorem dL_law_1101 : decode cL_law 1101 = .ok (.iconst 1, 1) := zd_at zo_cL_law_600 61 rfl
theorem dL_law_1102 : decode cL_law 1102 = .ok (.iadd, 1) := zd_at zo_cL_law_600 62 rfl
theorem dL_law_1103 : decode cL_law 1103 = .ok (.iaload, 1) := zd_at zo_cL_law_600 63 rfl
theorem dL_law_1104 : decode cL_law 1104 = .ok (.aload_n 0, 1) := zd_at zo_cL_law_600 64 rfl
theorem dL_law_1105 : decode cL_law 1105 = .ok (.iload 4, 2) := zd_at zo_cL_law_600 65 rfl
theorem dL_law_1107 : decode cL_law 1107 = .ok (.iconst 2, 1) := zd_at zo_cL_law_600 66 rfl
theorem dL_law_1108 : decode cL_law 1108 = .ok (.iadd, 1) := zd_at zo_cL_law_600 67 rfl
theorem dL_law_1109 : decode cL_law 1109 = .ok (.iaload, 1) := zd_at zo_cL_law_600 68 rfl
theorem dL_law_1110 : decode cL_law 1110 = .ok (.aload_n 0, 1) := zd_at zo_cL_law_600 69 rfl
theorem dL_law_1111 : decode cL_law 1111 = .ok (.iload 4, 2) := zd_at zo_cL_law_600 70 rfl
theorem dL_law_1113 : decode cL_law 1113 = .ok (.iconst 3, 1) := zd_at zo_cL_law_600 71 rfl
theorem dL_law_1114 : decode cL_law 1114 = .ok (.iadd, 1) := zd_at zo_cL_law_600 72 rfl
theorem dL_law_1115 : decode cL_law 1115 = .ok (.iaload, 1) := zd_at zo_cL_law_600 73 rfl
theorem dL_law_1116 : decode cL_law 1116 = .ok (.aload_n 0, 1) := zd_at zo_cL_law_600 74 rfl
theorem dL_law_1117 : decode cL_law 1117 = .ok (.iload 4, 2) := zd_at zo_cL_law_600 75 rfl
theorem dL_law_1119 : decode cL_law 1119 = .ok (.iconst 4, 1) := zd_at zo_cL_law_600 76 rfl
theorem dL_law_1120 : decode cL_law 1120 = .ok (.iadd, 1) := zd_at zo_cL_law_600 77 rfl
theorem dL_law_1121 : decode cL_law 1121 = .ok (.iaload, 1) := zd_at zo_cL_law_600 78 rfl
theorem dL_law_1122 : decode cL_law 1122 = .ok (.invokevirtual 142, 3) := zd_at zo_cL_law_600 79 rfl
theorem dL_law_1125 : decode cL_law 1125 = .ok (.istore 6, 2) := zd_at zo_cL_law_600 80 rfl
theorem dL_law_1127 : decode cL_law 1127 = .ok (.aload_n 2, 1) := zd_at zo_cL_law_600 81 rfl
theorem dL_law_1128 : decode cL_law 1128 = .ok (.invokevirtual 89, 3) := zd_at zo_cL_law_600 82 rfl
theorem dL_law_1131 : decode cL_law 1131 = .ok (.iload 5, 2) := zd_at zo_cL_law_600 83 rfl
theorem dL_law_1133 : decode cL_law 1133 = .ok (.if_icmp .eq 5, 3) := zd_at zo_cL_law_600 84 rfl
theorem dL_law_1136 : decode cL_law 1136 = .ok (.iconst 0, 1) := zd_at zo_cL_law_600 85 rfl
theorem dL_law_1137 : decode cL_law 1137 = .ok (.ireturn, 1) := zd_at zo_cL_law_600 86 rfl
theorem dL_law_1138 : decode cL_law 1138 = .ok (.iload 5, 2) := zd_at zo_cL_law_600 87 rfl
theorem dL_law_1140 : decode cL_law 1140 = .ok (.ifCond .ne 15, 3) := zd_at zo_cL_law_600 88 rfl
theorem dL_law_1143 : decode cL_law 1143 = .ok (.aload_n 3, 1) := zd_at zo_cL_law_600 89 rfl
theorem dL_law_1144 : decode cL_law 1144 = .ok (.iconst 0, 1) := zd_at zo_cL_law_600 90 rfl
theorem dL_law_1145 : decode cL_law 1145 = .ok (.laload, 1) := zd_at zo_cL_law_600 91 rfl
theorem dL_law_1146 : decode cL_law 1146 = .ok (.iload 6, 2) := zd_at zo_cL_law_600 92 rfl
theorem dL_law_1148 : decode cL_law 1148 = .ok (.i2l, 1) := zd_at zo_cL_law_600 93 rfl
theorem dL_law_1149 : decode cL_law 1149 = .ok (.lcmp, 1) := zd_at zo_cL_law_600 94 rfl
theorem dL_law_1150 : decode cL_law 1150 = .ok (.ifCond .eq 5, 3) := zd_at zo_cL_law_600 95 rfl
theorem dL_law_1153 : decode cL_law 1153 = .ok (.iconst 0, 1) := zd_at zo_cL_law_600 96 rfl
theorem dL_law_1154 : decode cL_law 1154 = .ok (.ireturn, 1) := zd_at zo_cL_law_600 97 rfl
theorem dL_law_1155 : decode cL_law 1155 = .ok (.goto 433, 3) := zd_at zo_cL_law_600 98 rfl
theorem dL_law_1158 : decode cL_law 1158 = .ok (.aload_n 1, 1) := zd_at zo_cL_law_600 99 rfl
theorem dL_law_1159 : decode cL_law 1159 = .ok (.aload_n 0, 1) := zd_at zo_cL_law_600 100 rfl
theorem dL_law_1160 : decode cL_law 1160 = .ok (.iload 4, 2) := zd_at zo_cL_law_600 101 rfl
theorem dL_law_1162 : decode cL_law 1162 = .ok (.iconst 1, 1) := zd_at zo_cL_law_600 102 rfl
theorem dL_law_1163 : decode cL_law 1163 = .ok (.iadd, 1) := zd_at zo_cL_law_600 103 rfl
theorem dL_law_1164 : decode cL_law 1164 = .ok (.iaload, 1) := zd_at zo_cL_law_600 104 rfl
theorem dL_law_1165 : decode cL_law 1165 = .ok (.aload_n 0, 1) := zd_at zo_cL_law_600 105 rfl
theorem dL_law_1166 : decode cL_law 1166 = .ok (.iload 4, 2) := zd_at zo_cL_law_600 106 rfl
theorem dL_law_1168 : decode cL_law 1168 = .ok (.iconst 2, 1) := zd_at zo_cL_law_600 107 rfl
theorem dL_law_1169 : decode cL_law 1169 = .ok (.iadd, 1) := zd_at zo_cL_law_600 108 rfl
theorem dL_law_1170 : decode cL_law 1170 = .ok (.iaload, 1) := zd_at zo_cL_law_600 109 rfl
theorem dL_law_1171 : decode cL_law 1171 = .ok (.aload_n 0, 1) := zd_at zo_cL_law_600 110 rfl
theorem dL_law_1172 : decode cL_law 1172 = .ok (.iload 4, 2) := zd_at zo_cL_law_600 111 rfl
theorem dL_law_1174 : decode cL_law 1174 = .ok (.iconst 3, 1) := zd_at zo_cL_law_600 112 rfl
theorem dL_law_1175 : decode cL_law 1175 = .ok (.iadd, 1) := zd_at zo_cL_law_600 113 rfl
theorem dL_law_1176 : decode cL_law 1176 = .ok (.iaload, 1) := zd_at zo_cL_law_600 114 rfl
theorem dL_law_1177 : decode cL_law 1177 = .ok (.aload_n 0, 1) := zd_at zo_cL_law_600 115 rfl
theorem dL_law_1178 : decode cL_law 1178 = .ok (.iload 4, 2) := zd_at zo_cL_law_600 116 rfl
theorem dL_law_1180 : decode cL_law 1180 = .ok (.iconst 4, 1) := zd_at zo_cL_law_600 117 rfl
theorem dL_law_1181 : decode cL_law 1181 = .ok (.iadd, 1) := zd_at zo_cL_law_600 118 rfl
theorem dL_law_1182 : decode cL_law 1182 = .ok (.iaload, 1) := zd_at zo_cL_law_600 119 rfl
def zl_cL_law_720 : List (Nat × Instr × Nat) := [(1183, .aload_n 3, 1), (1184, .invokestatic 143, 3), (1187, .istore 5, 2), (1189, .aload_n 2, 1), (1190, .aload_n 0, 1), (1191, .iload 4, 2), (1193, .iconst 1, 1), (1194, .iadd, 1), (1195, .iaload, 1), (1196, .aload_n 0, 1), (1197, .iload 4, 2), (1199, .iconst 2, 1), (1200, .iadd, 1), (1201, .iaload, 1), (1202, .aload_n 0, 1), (1203, .iload 4, 2), (1205, .iconst 3, 1), (1206, .iadd, 1), (1207, .iaload, 1), (1208, .aload_n 0, 1), (1209, .iload 4, 2), (1211, .iconst 4, 1), (1212, .iadd, 1), (1213, .iaload, 1), (1214, .invokevirtual 145, 3), (1217, .istore 6, 2), (1219, .aload_n 2, 1), (1220, .invokevirtual 89, 3), (1223, .iload 5, 2), (1225, .if_icmp .eq 5, 3), (1228, .iconst 0, 1), (1229, .ireturn, 1), (1230, .iload 5, 2), (1232, .ifCond .ne 15, 3), (1235, .aload_n 3, 1), (1236, .iconst 0, 1), (1237, .laload, 1), (1238, .iload 6, 2), (1240, .i2l, 1), (1241, .lcmp, 1), (1242, .ifCond .eq 5, 3), (1245, .iconst 0, 1), (1246, .ireturn, 1), (1247, .goto 341, 3), (1250, .aload_n 1, 1), (1251, .invokevirtual 146, 3), (1254, .aload_n 2, 1), (1255, .invokevirtual 149, 3), (1258, .if_icmp .eq 330, 3), (1261, .iconst 0, 1), (1262, .ireturn, 1), (1263, .aload_n 1, 1), (1264, .invokevirtual 150, 3), (1267, .aload_n 2, 1), (1268, .invokevirtual 153, 3), (1271, .if_icmp .eq 317, 3), (1274, .iconst 0, 1), (1275, .ireturn, 1), (1276, .aload_n 1, 1), (1277, .aload_n 0, 1), (1278, .iload 4, 2), (1280, .iconst 1, 1), (1281, .iadd, 1), (1282, .iaload, 1), (1283, .aload_n 0, 1), (1284, .iload 4, 2), (1286, .iconst 2, 1), (1287, .iadd, 1), (1288, .iaload, 1), (1289, .i2l, 1), (1290, .bipush 32, 2), (1292, .lshl, 1), (1293, .aload_n 0, 1), (1294, .iload 4, 2), (1296, .iconst 3, 1), (1297, .iadd, 1), (1298, .iaload, 1), (1299, .i2l, 1), (1300, .ldc2_w 154, 3), (1303, .land, 1), (1304, .lor, 1), (1305, .aload_n 3, 1), (1306, .invokestatic 156, 3), (1309, .istore 5, 2), (1311, .aload_n 2, 1), (1312, .aload_n 0, 1), (1313, .iload 4, 2), (1315, .iconst 1, 1), (1316, .iadd, 1), (1317, .iaload, 1), (1318, .aload_n 0, 1), (1319, .iload 4, 2), (1321, .iconst 2, 1), (1322, .iadd, 1), (1323, .iaload, 1), (1324, .i2l, 1), (1325, .bipush 32, 2), (1327, .lshl, 1), (1328, .aload_n 0, 1), (1329, .iload 4, 2), (1331, .iconst 3, 1), (1332, .iadd, 1), (1333, .iaload, 1), (1334, .i2l, 1), (1335, .ldc2_w 154, 3), (1338, .land, 1), (1339, .lor, 1), (1340, .invokevirtual 159, 3), (1343, .istore 6, 2), (1345, .aload_n 2, 1), (1346, .invokevirtual 89, 3), (1349, .iload 5, 2), (1351, .if_icmp .eq 5, 3), (1354, .iconst 0, 1), (1355, .ireturn, 1), (1356, .iload 5, 2), (1358, .ifCond .ne 15, 3), (1361, .aload_n 3, 1), (1362, .iconst 0, 1), (1363, .laload, 1)]
theorem zo_cL_law_720 : zd_ok cL_law zl_cL_law_720 = true := by decide +kernel
theorem dL_law_1183 : decode cL_law 1183 = .ok (.aload_n 3, 1) := zd_at zo_cL_law_720 0 rfl
theorem dL_law_1184 : decode cL_law 1184 = .ok (.invokestatic 143, 3) := zd_at zo_cL_law_720 1 rfl
theorem dL_law_1187 : decode cL_law 1187 = .ok (.istore 5, 2) := zd_at zo_cL_law_720 2 rfl
theorem dL_law_1189 : decode cL_law 1189 = .ok (.aload_n 2, 1) := zd_at zo_cL_law_720 3 rfl
theorem dL_law_1190 : decode cL_law 1190 = .ok (.aload_n 0, 1) := zd_at zo_cL_law_720 4 rfl
theorem dL_law_1191 : decode cL_law 1191 = .ok (.iload 4, 2) := zd_at zo_cL_law_720 5 rfl
theorem dL_law_1193 : decode cL_law 1193 = .ok (.iconst 1, 1) := zd_at zo_cL_law_720 6 rfl
theorem dL_law_1194 : decode cL_law 1194 = .ok (.iadd, 1) := zd_at zo_cL_law_720 7 rfl
theorem dL_law_1195 : decode cL_law 1195 = .ok (.iaload, 1) := zd_at zo_cL_law_720 8 rfl
theorem dL_law_1196 : decode cL_law 1196 = .ok (.aload_n 0, 1) := zd_at zo_cL_law_720 9 rfl
theorem dL_law_1197 : decode cL_law 1197 = .ok (.iload 4, 2) := zd_at zo_cL_law_720 10 rfl
theorem dL_law_1199 : decode cL_law 1199 = .ok (.iconst 2, 1) := zd_at zo_cL_law_720 11 rfl
theorem dL_law_1200 : decode cL_law 1200 = .ok (.iadd, 1) := zd_at zo_cL_law_720 12 rfl
theorem dL_law_1201 : decode cL_law 1201 = .ok (.iaload, 1) := zd_at zo_cL_law_720 13 rfl
theorem dL_law_1202 : decode cL_law 1202 = .ok (.aload_n 0, 1) := zd_at zo_cL_law_720 14 rfl
theorem dL_law_1203 : decode cL_law 1203 = .ok (.iload 4, 2) := zd_at zo_cL_law_720 15 rfl
theorem dL_law_1205 : decode cL_law 1205 = .ok (.iconst 3, 1) := zd_at zo_cL_law_720 16 rfl
theorem dL_law_1206 : decode cL_law 1206 = .ok (.iadd, 1) := zd_at zo_cL_law_720 17 rfl
theorem dL_law_1207 : decode cL_law 1207 = .ok (.iaload, 1) := zd_at zo_cL_law_720 18 rfl
theorem dL_law_1208 : decode cL_law 1208 = .ok (.aload_n 0, 1) := zd_at zo_cL_law_720 19 rfl
theorem dL_law_1209 : decode cL_law 1209 = .ok (.iload 4, 2) := zd_at zo_cL_law_720 20 rfl
theorem dL_law_1211 : decode cL_law 1211 = .ok (.iconst 4, 1) := zd_at zo_cL_law_720 21 rfl
theorem dL_law_1212 : decode cL_law 1212 = .ok (.iadd, 1) := zd_at zo_cL_law_720 22 rfl
theorem dL_law_1213 : decode cL_law 1213 = .ok (.iaload, 1) := zd_at zo_cL_law_720 23 rfl
theorem dL_law_1214 : decode cL_law 1214 = .ok (.invokevirtual 145, 3) := zd_at zo_cL_law_720 24 rfl
theorem dL_law_1217 : decode cL_law 1217 = .ok (.istore 6, 2) := zd_at zo_cL_law_720 25 rfl
theorem dL_law_1219 : decode cL_law 1219 = .ok (.aload_n 2, 1) := zd_at zo_cL_law_720 26 rfl
theorem dL_law_1220 : decode cL_law 1220 = .ok (.invokevirtual 89, 3) := zd_at zo_cL_law_720 27 rfl
theorem dL_law_1223 : decode cL_law 1223 = .ok (.iload 5, 2) := zd_at zo_cL_law_720 28 rfl
theorem dL_law_1225 : decode cL_law 1225 = .ok (.if_icmp .eq 5, 3) := zd_at zo_cL_law_720 29 rfl
theorem dL_law_1228 : decode cL_law 1228 = .ok (.iconst 0, 1) := zd_at zo_cL_law_720 30 rfl
theorem dL_law_1229 : decode cL_law 1229 = .ok (.ireturn, 1) := zd_at zo_cL_law_720 31 rfl
theorem dL_law_1230 : decode cL_law 1230 = .ok (.iload 5, 2) := zd_at zo_cL_law_720 32 rfl
theorem dL_law_1232 : decode cL_law 1232 = .ok (.ifCond .ne 15, 3) := zd_at zo_cL_law_720 33 rfl
theorem dL_law_1235 : decode cL_law 1235 = .ok (.aload_n 3, 1) := zd_at zo_cL_law_720 34 rfl
theorem dL_law_1236 : decode cL_law 1236 = .ok (.iconst 0, 1) := zd_at zo_cL_law_720 35 rfl
theorem dL_law_1237 : decode cL_law 1237 = .ok (.laload, 1) := zd_at zo_cL_law_720 36 rfl
theorem dL_law_1238 : decode cL_law 1238 = .ok (.iload 6, 2) := zd_at zo_cL_law_720 37 rfl
theorem dL_law_1240 : decode cL_law 1240 = .ok (.i2l, 1) := zd_at zo_cL_law_720 38 rfl
theorem dL_law_1241 : decode cL_law 1241 = .ok (.lcmp, 1) := zd_at zo_cL_law_720 39 rfl
theorem dL_law_1242 : decode cL_law 1242 = .ok (.ifCond .eq 5, 3) := zd_at zo_cL_law_720 40 rfl
theorem dL_law_1245 : decode cL_law 1245 = .ok (.iconst 0, 1) := zd_at zo_cL_law_720 41 rfl
theorem dL_law_1246 : decode cL_law 1246 = .ok (.ireturn, 1) := zd_at zo_cL_law_720 42 rfl
theorem dL_law_1247 : decode cL_law 1247 = .ok (.goto 341, 3) := zd_at zo_cL_law_720 43 rfl
theorem dL_law_1250 : decode cL_law 1250 = .ok (.aload_n 1, 1) := zd_at zo_cL_law_720 44 rfl
theorem dL_law_1251 : decode cL_law 1251 = .ok (.invokevirtual 146, 3) := zd_at zo_cL_law_720 45 rfl
theorem dL_law_1254 : decode cL_law 1254 = .ok (.aload_n 2, 1) := zd_at zo_cL_law_720 46 rfl
theorem dL_law_1255 : decode cL_law 1255 = .ok (.invokevirtual 149, 3) := zd_at zo_cL_law_720 47 rfl
theorem dL_law_1258 : decode cL_law 1258 = .ok (.if_icmp .eq 330, 3) := zd_at zo_cL_law_720 48 rfl
theorem dL_law_1261 : decode cL_law 1261 = .ok (.iconst 0, 1) := zd_at zo_cL_law_720 49 rfl
theorem dL_law_1262 : decode cL_law 1262 = .ok (.ireturn, 1) := zd_at zo_cL_law_720 50 rfl
theorem dL_law_1263 : decode cL_law 1263 = .ok (.aload_n 1, 1) := zd_at zo_cL_law_720 51 rfl
theorem dL_law_1264 : decode cL_law 1264 = .ok (.invokevirtual 150, 3) := zd_at zo_cL_law_720 52 rfl
theorem dL_law_1267 : decode cL_law 1267 = .ok (.aload_n 2, 1) := zd_at zo_cL_law_720 53 rfl
theorem dL_law_1268 : decode cL_law 1268 = .ok (.invokevirtual 153, 3) := zd_at zo_cL_law_720 54 rfl
theorem dL_law_1271 : decode cL_law 1271 = .ok (.if_icmp .eq 317, 3) := zd_at zo_cL_law_720 55 rfl
theorem dL_law_1274 : decode cL_law 1274 = .ok (.iconst 0, 1) := zd_at zo_cL_law_720 56 rfl
theorem dL_law_1275 : decode cL_law 1275 = .ok (.ireturn, 1) := zd_at zo_cL_law_720 57 rfl
theorem dL_law_1276 : decode cL_law 1276 = .ok (.aload_n 1, 1) := zd_at zo_cL_law_720 58 rfl
theorem dL_law_1277 : decode cL_law 1277 = .ok (.aload_n 0, 1) := zd_at zo_cL_law_720 59 rfl
theorem dL_law_1278 : decode cL_law 1278 = .ok (.iload 4, 2) := zd_at zo_cL_law_720 60 rfl
theorem dL_law_1280 : decode cL_law 1280 = .ok (.iconst 1, 1) := zd_at zo_cL_law_720 61 rfl
theorem dL_law_1281 : decode cL_law 1281 = .ok (.iadd, 1) := zd_at zo_cL_law_720 62 rfl
theorem dL_law_1282 : decode cL_law 1282 = .ok (.iaload, 1) := zd_at zo_cL_law_720 63 rfl
theorem dL_law_1283 : decode cL_law 1283 = .ok (.aload_n 0, 1) := zd_at zo_cL_law_720 64 rfl
theorem dL_law_1284 : decode cL_law 1284 = .ok (.iload 4, 2) := zd_at zo_cL_law_720 65 rfl
theorem dL_law_1286 : decode cL_law 1286 = .ok (.iconst 2, 1) := zd_at zo_cL_law_720 66 rfl
theorem dL_law_1287 : decode cL_law 1287 = .ok (.iadd, 1) := zd_at zo_cL_law_720 67 rfl
theorem dL_law_1288 : decode cL_law 1288 = .ok (.iaload, 1) := zd_at zo_cL_law_720 68 rfl
theorem dL_law_1289 : decode cL_law 1289 = .ok (.i2l, 1) := zd_at zo_cL_law_720 69 rfl
theorem dL_law_1290 : decode cL_law 1290 = .ok (.bipush 32, 2) := zd_at zo_cL_law_720 70 rfl
theorem dL_law_1292 : decode cL_law 1292 = .ok (.lshl, 1) := zd_at zo_cL_law_720 71 rfl
theorem dL_law_1293 : decode cL_law 1293 = .ok (.aload_n 0, 1) := zd_at zo_cL_law_720 72 rfl
theorem dL_law_1294 : decode cL_law 1294 = .ok (.iload 4, 2) := zd_at zo_cL_law_720 73 rfl
theorem dL_law_1296 : decode cL_law 1296 = .ok (.iconst 3, 1) := zd_at zo_cL_law_720 74 rfl
theorem dL_law_1297 : decode cL_law 1297 = .ok (.iadd, 1) := zd_at zo_cL_law_720 75 rfl
theorem dL_law_1298 : decode cL_law 1298 = .ok (.iaload, 1) := zd_at zo_cL_law_720 76 rfl
theorem dL_law_1299 : decode cL_law 1299 = .ok (.i2l, 1) := zd_at zo_cL_law_720 77 rfl
theorem dL_law_1300 : decode cL_law 1300 = .ok (.ldc2_w 154, 3) := zd_at zo_cL_law_720 78 rfl
theorem dL_law_1303 : decode cL_law 1303 = .ok (.land, 1) := zd_at zo_cL_law_720 79 rfl
theorem dL_law_1304 : decode cL_law 1304 = .ok (.lor, 1) := zd_at zo_cL_law_720 80 rfl
theorem dL_law_1305 : decode cL_law 1305 = .ok (.aload_n 3, 1) := zd_at zo_cL_law_720 81 rfl
theorem dL_law_1306 : decode cL_law 1306 = .ok (.invokestatic 156, 3) := zd_at zo_cL_law_720 82 rfl
theorem dL_law_1309 : decode cL_law 1309 = .ok (.istore 5, 2) := zd_at zo_cL_law_720 83 rfl
theorem dL_law_1311 : decode cL_law 1311 = .ok (.aload_n 2, 1) := zd_at zo_cL_law_720 84 rfl
theorem dL_law_1312 : decode cL_law 1312 = .ok (.aload_n 0, 1) := zd_at zo_cL_law_720 85 rfl
theorem dL_law_1313 : decode cL_law 1313 = .ok (.iload 4, 2) := zd_at zo_cL_law_720 86 rfl
theorem dL_law_1315 : decode cL_law 1315 = .ok (.iconst 1, 1) := zd_at zo_cL_law_720 87 rfl
theorem dL_law_1316 : decode cL_law 1316 = .ok (.iadd, 1) := zd_at zo_cL_law_720 88 rfl
theorem dL_law_1317 : decode cL_law 1317 = .ok (.iaload, 1) := zd_at zo_cL_law_720 89 rfl
theorem dL_law_1318 : decode cL_law 1318 = .ok (.aload_n 0, 1) := zd_at zo_cL_law_720 90 rfl
theorem dL_law_1319 : decode cL_law 1319 = .ok (.iload 4, 2) := zd_at zo_cL_law_720 91 rfl
theorem dL_law_1321 : decode cL_law 1321 = .ok (.iconst 2, 1) := zd_at zo_cL_law_720 92 rfl
theorem dL_law_1322 : decode cL_law 1322 = .ok (.iadd, 1) := zd_at zo_cL_law_720 93 rfl
theorem dL_law_1323 : decode cL_law 1323 = .ok (.iaload, 1) := zd_at zo_cL_law_720 94 rfl
theorem dL_law_1324 : decode cL_law 1324 = .ok (.i2l, 1) := zd_at zo_cL_law_720 95 rfl
theorem dL_law_1325 : decode cL_law 1325 = .ok (.bipush 32, 2) := zd_at zo_cL_law_720 96 rfl
theorem dL_law_1327 : decode cL_law 1327 = .ok (.lshl, 1) := zd_at zo_cL_law_720 97 rfl
theorem dL_law_1328 : decode cL_law 1328 = .ok (.aload_n 0, 1) := zd_at zo_cL_law_720 98 rfl
theorem dL_law_1329 : decode cL_law 1329 = .ok (.iload 4, 2) := zd_at zo_cL_law_720 99 rfl
theorem dL_law_1331 : decode cL_law 1331 = .ok (.iconst 3, 1) := zd_at zo_cL_law_720 100 rfl
theorem dL_law_1332 : decode cL_law 1332 = .ok (.iadd, 1) := zd_at zo_cL_law_720 101 rfl
theorem dL_law_1333 : decode cL_law 1333 = .ok (.iaload, 1) := zd_at zo_cL_law_720 102 rfl
theorem dL_law_1334 : decode cL_law 1334 = .ok (.i2l, 1) := zd_at zo_cL_law_720 103 rfl
theorem dL_law_1335 : decode cL_law 1335 = .ok (.ldc2_w 154, 3) := zd_at zo_cL_law_720 104 rfl
theorem dL_law_1338 : decode cL_law 1338 = .ok (.land, 1) := zd_at zo_cL_law_720 105 rfl
theorem dL_law_1339 : decode cL_law 1339 = .ok (.lor, 1) := zd_at zo_cL_law_720 106 rfl
theorem dL_law_1340 : decode cL_law 1340 = .ok (.invokevirtual 159, 3) := zd_at zo_cL_law_720 107 rfl
theorem dL_law_1343 : decode cL_law 1343 = .ok (.istore 6, 2) := zd_at zo_cL_law_720 108 rfl
theorem dL_law_1345 : decode cL_law 1345 = .ok (.aload_n 2, 1) := zd_at zo_cL_law_720 109 rfl
theorem dL_law_1346 : decode cL_law 1346 = .ok (.invokevirtual 89, 3) := zd_at zo_cL_law_720 110 rfl
theorem dL_law_1349 : decode cL_law 1349 = .ok (.iload 5, 2) := zd_at zo_cL_law_720 111 rfl
theorem dL_law_1351 : decode cL_law 1351 = .ok (.if_icmp .eq 5, 3) := zd_at zo_cL_law_720 112 rfl
theorem dL_law_1354 : decode cL_law 1354 = .ok (.iconst 0, 1) := zd_at zo_cL_law_720 113 rfl
theorem dL_law_1355 : decode cL_law 1355 = .ok (.ireturn, 1) := zd_at zo_cL_law_720 114 rfl
theorem dL_law_1356 : decode cL_law 1356 = .ok (.iload 5, 2) := zd_at zo_cL_law_720 115 rfl
theorem dL_law_1358 : decode cL_law 1358 = .ok (.ifCond .ne 15, 3) := zd_at zo_cL_law_720 116 rfl
theorem dL_law_1361 : decode cL_law 1361 = .ok (.aload_n 3, 1) := zd_at zo_cL_law_720 117 rfl
theorem dL_law_1362 : decode cL_law 1362 = .ok (.iconst 0, 1) := zd_at zo_cL_law_720 118 rfl
theorem dL_law_1363 : decode cL_law 1363 = .ok (.laload, 1) := zd_at zo_cL_law_720 119 rfl
def zl_cL_law_840 : List (Nat × Instr × Nat) := [(1364, .iload 6, 2), (1366, .i2l, 1), (1367, .lcmp, 1), (1368, .ifCond .eq 5, 3), (1371, .iconst 0, 1), (1372, .ireturn, 1), (1373, .goto 215, 3), (1376, .aload_n 1, 1), (1377, .aload_n 0, 1), (1378, .iload 4, 2), (1380, .iconst 1, 1), (1381, .iadd, 1), (1382, .iaload, 1), (1383, .i2l, 1), (1384, .bipush 32, 2), (1386, .lshl, 1), (1387, .aload_n 0, 1), (1388, .iload 4, 2), (1390, .iconst 2, 1), (1391, .iadd, 1), (1392, .iaload, 1), (1393, .i2l, 1), (1394, .ldc2_w 154, 3), (1397, .land, 1), (1398, .lor, 1), (1399, .aload_n 0, 1), (1400, .iload 4, 2), (1402, .iconst 3, 1), (1403, .iadd, 1), (1404, .iaload, 1), (1405, .aload_n 3, 1), (1406, .invokestatic 160, 3), (1409, .istore 5, 2), (1411, .aload_n 2, 1), (1412, .aload_n 0, 1), (1413, .iload 4, 2), (1415, .iconst 1, 1), (1416, .iadd, 1), (1417, .iaload, 1), (1418, .i2l, 1), (1419, .bipush 32, 2), (1421, .lshl, 1), (1422, .aload_n 0, 1), (1423, .iload 4, 2), (1425, .iconst 2, 1), (1426, .iadd, 1), (1427, .iaload, 1), (1428, .i2l, 1), (1429, .ldc2_w 154, 3), (1432, .land, 1), (1433, .lor, 1), (1434, .aload_n 0, 1), (1435, .iload 4, 2), (1437, .iconst 3, 1), (1438, .iadd, 1), (1439, .iaload, 1), (1440, .invokevirtual 163, 3), (1443, .istore 6, 2), (1445, .aload_n 2, 1), (1446, .invokevirtual 89, 3), (1449, .iload 5, 2), (1451, .if_icmp .eq 5, 3), (1454, .iconst 0, 1), (1455, .ireturn, 1), (1456, .iload 5, 2), (1458, .ifCond .ne 15, 3), (1461, .aload_n 3, 1), (1462, .iconst 0, 1), (1463, .laload, 1), (1464, .iload 6, 2), (1466, .i2l, 1), (1467, .lcmp, 1), (1468, .ifCond .eq 5, 3), (1471, .iconst 0, 1), (1472, .ireturn, 1), (1473, .goto 115, 3), (1476, .aload_n 1, 1), (1477, .aload_n 0, 1), (1478, .iload 4, 2), (1480, .iconst 1, 1), (1481, .iadd, 1), (1482, .iaload, 1), (1483, .aload_n 3, 1), (1484, .invokestatic 164, 3), (1487, .istore 5, 2), (1489, .aload_n 2, 1), (1490, .aload_n 0, 1), (1491, .iload 4, 2), (1493, .iconst 1, 1), (1494, .iadd, 1), (1495, .iaload, 1), (1496, .invokevirtual 166, 3), (1499, .istore 6, 2), (1501, .aload_n 2, 1), (1502, .invokevirtual 89, 3), (1505, .iload 5, 2), (1507, .if_icmp .eq 5, 3), (1510, .iconst 0, 1), (1511, .ireturn, 1), (1512, .iload 5, 2), (1514, .ifCond .ne 15, 3), (1517, .aload_n 3, 1), (1518, .iconst 0, 1), (1519, .laload, 1), (1520, .iload 6, 2), (1522, .i2l, 1), (1523, .lcmp, 1), (1524, .ifCond .eq 5, 3), (1527, .iconst 0, 1), (1528, .ireturn, 1), (1529, .goto 59, 3), (1532, .aload_n 1, 1), (1533, .aload_n 0, 1), (1534, .iload 4, 2), (1536, .iconst 1, 1), (1537, .iadd, 1), (1538, .iaload, 1), (1539, .aload_n 3, 1), (1540, .invokestatic 167, 3), (1543, .istore 5, 2)]
theorem zo_cL_law_840 : zd_ok cL_law zl_cL_law_840 = true := by decide +kernel
theorem dL_law_1364 : decode cL_law 1364 = .ok (.iload 6, 2) := zd_at zo_cL_law_840 0 rfl
theorem dL_law_1366 : decode cL_law 1366 = .ok (.i2l, 1) := zd_at zo_cL_law_840 1 rfl
theorem dL_law_1367 : decode cL_law 1367 = .ok (.lcmp, 1) := zd_at zo_cL_law_840 2 rfl
theorem dL_law_1368 : decode cL_law 1368 = .ok (.ifCond .eq 5, 3) := zd_at zo_cL_law_840 3 rfl
theorem dL_law_1371 : decode cL_law 1371 = .ok (.iconst 0, 1) := zd_at zo_cL_law_840 4 rfl
theorem dL_law_1372 : decode cL_law 1372 = .ok (.ireturn, 1) := zd_at zo_cL_law_840 5 rfl
theorem dL_law_1373 : decode cL_law 1373 = .ok (.goto 215, 3) := zd_at zo_cL_law_840 6 rfl
theorem dL_law_1376 : decode cL_law 1376 = .ok (.aload_n 1, 1) := zd_at zo_cL_law_840 7 rfl
theorem dL_law_1377 : decode cL_law 1377 = .ok (.aload_n 0, 1) := zd_at zo_cL_law_840 8 rfl
theorem dL_law_1378 : decode cL_law 1378 = .ok (.iload 4, 2) := zd_at zo_cL_law_840 9 rfl
theorem dL_law_1380 : decode cL_law 1380 = .ok (.iconst 1, 1) := zd_at zo_cL_law_840 10 rfl
theorem dL_law_1381 : decode cL_law 1381 = .ok (.iadd, 1) := zd_at zo_cL_law_840 11 rfl
theorem dL_law_1382 : decode cL_law 1382 = .ok (.iaload, 1) := zd_at zo_cL_law_840 12 rfl
theorem dL_law_1383 : decode cL_law 1383 = .ok (.i2l, 1) := zd_at zo_cL_law_840 13 rfl
theorem dL_law_1384 : decode cL_law 1384 = .ok (.bipush 32, 2) := zd_at zo_cL_law_840 14 rfl
theorem dL_law_1386 : decode cL_law 1386 = .ok (.lshl, 1) := zd_at zo_cL_law_840 15 rfl
theorem dL_law_1387 : decode cL_law 1387 = .ok (.aload_n 0, 1) := zd_at zo_cL_law_840 16 rfl
theorem dL_law_1388 : decode cL_law 1388 = .ok (.iload 4, 2) := zd_at zo_cL_law_840 17 rfl
theorem dL_law_1390 : decode cL_law 1390 = .ok (.iconst 2, 1) := zd_at zo_cL_law_840 18 rfl
theorem dL_law_1391 : decode cL_law 1391 = .ok (.iadd, 1) := zd_at zo_cL_law_840 19 rfl
theorem dL_law_1392 : decode cL_law 1392 = .ok (.iaload, 1) := zd_at zo_cL_law_840 20 rfl
theorem dL_law_1393 : decode cL_law 1393 = .ok (.i2l, 1) := zd_at zo_cL_law_840 21 rfl
theorem dL_law_1394 : decode cL_law 1394 = .ok (.ldc2_w 154, 3) := zd_at zo_cL_law_840 22 rfl
theorem dL_law_1397 : decode cL_law 1397 = .ok (.land, 1) := zd_at zo_cL_law_840 23 rfl
theorem dL_law_1398 : decode cL_law 1398 = .ok (.lor, 1) := zd_at zo_cL_law_840 24 rfl
theorem dL_law_1399 : decode cL_law 1399 = .ok (.aload_n 0, 1) := zd_at zo_cL_law_840 25 rfl
theorem dL_law_1400 : decode cL_law 1400 = .ok (.iload 4, 2) := zd_at zo_cL_law_840 26 rfl
theorem dL_law_1402 : decode cL_law 1402 = .ok (.iconst 3, 1) := zd_at zo_cL_law_840 27 rfl
theorem dL_law_1403 : decode cL_law 1403 = .ok (.iadd, 1) := zd_at zo_cL_law_840 28 rfl
theorem dL_law_1404 : decode cL_law 1404 = .ok (.iaload, 1) := zd_at zo_cL_law_840 29 rfl
theorem dL_law_1405 : decode cL_law 1405 = .ok (.aload_n 3, 1) := zd_at zo_cL_law_840 30 rfl
theorem dL_law_1406 : decode cL_law 1406 = .ok (.invokestatic 160, 3) := zd_at zo_cL_law_840 31 rfl
theorem dL_law_1409 : decode cL_law 1409 = .ok (.istore 5, 2) := zd_at zo_cL_law_840 32 rfl
theorem dL_law_1411 : decode cL_law 1411 = .ok (.aload_n 2, 1) := zd_at zo_cL_law_840 33 rfl
theorem dL_law_1412 : decode cL_law 1412 = .ok (.aload_n 0, 1) := zd_at zo_cL_law_840 34 rfl
theorem dL_law_1413 : decode cL_law 1413 = .ok (.iload 4, 2) := zd_at zo_cL_law_840 35 rfl
theorem dL_law_1415 : decode cL_law 1415 = .ok (.iconst 1, 1) := zd_at zo_cL_law_840 36 rfl
theorem dL_law_1416 : decode cL_law 1416 = .ok (.iadd, 1) := zd_at zo_cL_law_840 37 rfl
theorem dL_law_1417 : decode cL_law 1417 = .ok (.iaload, 1) := zd_at zo_cL_law_840 38 rfl
theorem dL_law_1418 : decode cL_law 1418 = .ok (.i2l, 1) := zd_at zo_cL_law_840 39 rfl
theorem dL_law_1419 : decode cL_law 1419 = .ok (.bipush 32, 2) := zd_at zo_cL_law_840 40 rfl
theorem dL_law_1421 : decode cL_law 1421 = .ok (.lshl, 1) := zd_at zo_cL_law_840 41 rfl
theorem dL_law_1422 : decode cL_law 1422 = .ok (.aload_n 0, 1) := zd_at zo_cL_law_840 42 rfl
theorem dL_law_1423 : decode cL_law 1423 = .ok (.iload 4, 2) := zd_at zo_cL_law_840 43 rfl
theorem dL_law_1425 : decode cL_law 1425 = .ok (.iconst 2, 1) := zd_at zo_cL_law_840 44 rfl
theorem dL_law_1426 : decode cL_law 1426 = .ok (.iadd, 1) := zd_at zo_cL_law_840 45 rfl
theorem dL_law_1427 : decode cL_law 1427 = .ok (.iaload, 1) := zd_at zo_cL_law_840 46 rfl
theorem dL_law_1428 : decode cL_law 1428 = .ok (.i2l, 1) := zd_at zo_cL_law_840 47 rfl
theorem dL_law_1429 : decode cL_law 1429 = .ok (.ldc2_w 154, 3) := zd_at zo_cL_law_840 48 rfl
theorem dL_law_1432 : decode cL_law 1432 = .ok (.land, 1) := zd_at zo_cL_law_840 49 rfl
theorem dL_law_1433 : decode cL_law 1433 = .ok (.lor, 1) := zd_at zo_cL_law_840 50 rfl
theorem dL_law_1434 : decode cL_law 1434 = .ok (.aload_n 0, 1) := zd_at zo_cL_law_840 51 rfl
theorem dL_law_1435 : decode cL_law 1435 = .ok (.iload 4, 2) := zd_at zo_cL_law_840 52 rfl
theorem dL_law_1437 : decode cL_law 1437 = .ok (.iconst 3, 1) := zd_at zo_cL_law_840 53 rfl
theorem dL_law_1438 : decode cL_law 1438 = .ok (.iadd, 1) := zd_at zo_cL_law_840 54 rfl
theorem dL_law_1439 : decode cL_law 1439 = .ok (.iaload, 1) := zd_at zo_cL_law_840 55 rfl
theorem dL_law_1440 : decode cL_law 1440 = .ok (.invokevirtual 163, 3) := zd_at zo_cL_law_840 56 rfl
theorem dL_law_1443 : decode cL_law 1443 = .ok (.istore 6, 2) := zd_at zo_cL_law_840 57 rfl
theorem dL_law_1445 : decode cL_law 1445 = .ok (.aload_n 2, 1) := zd_at zo_cL_law_840 58 rfl
theorem dL_law_1446 : decode cL_law 1446 = .ok (.invokevirtual 89, 3) := zd_at zo_cL_law_840 59 rfl
theorem dL_law_1449 : decode cL_law 1449 = .ok (.iload 5, 2) := zd_at zo_cL_law_840 60 rfl
theorem dL_law_1451 : decode cL_law 1451 = .ok (.if_icmp .eq 5, 3) := zd_at zo_cL_law_840 61 rfl
theorem dL_law_1454 : decode cL_law 1454 = .ok (.iconst 0, 1) := zd_at zo_cL_law_840 62 rfl
theorem dL_law_1455 : decode cL_law 1455 = .ok (.ireturn, 1) := zd_at zo_cL_law_840 63 rfl
theorem dL_law_1456 : decode cL_law 1456 = .ok (.iload 5, 2) := zd_at zo_cL_law_840 64 rfl
theorem dL_law_1458 : decode cL_law 1458 = .ok (.ifCond .ne 15, 3) := zd_at zo_cL_law_840 65 rfl
theorem dL_law_1461 : decode cL_law 1461 = .ok (.aload_n 3, 1) := zd_at zo_cL_law_840 66 rfl
theorem dL_law_1462 : decode cL_law 1462 = .ok (.iconst 0, 1) := zd_at zo_cL_law_840 67 rfl
theorem dL_law_1463 : decode cL_law 1463 = .ok (.laload, 1) := zd_at zo_cL_law_840 68 rfl
theorem dL_law_1464 : decode cL_law 1464 = .ok (.iload 6, 2) := zd_at zo_cL_law_840 69 rfl
theorem dL_law_1466 : decode cL_law 1466 = .ok (.i2l, 1) := zd_at zo_cL_law_840 70 rfl
theorem dL_law_1467 : decode cL_law 1467 = .ok (.lcmp, 1) := zd_at zo_cL_law_840 71 rfl
theorem dL_law_1468 : decode cL_law 1468 = .ok (.ifCond .eq 5, 3) := zd_at zo_cL_law_840 72 rfl
theorem dL_law_1471 : decode cL_law 1471 = .ok (.iconst 0, 1) := zd_at zo_cL_law_840 73 rfl
theorem dL_law_1472 : decode cL_law 1472 = .ok (.ireturn, 1) := zd_at zo_cL_law_840 74 rfl
theorem dL_law_1473 : decode cL_law 1473 = .ok (.goto 115, 3) := zd_at zo_cL_law_840 75 rfl
theorem dL_law_1476 : decode cL_law 1476 = .ok (.aload_n 1, 1) := zd_at zo_cL_law_840 76 rfl
theorem dL_law_1477 : decode cL_law 1477 = .ok (.aload_n 0, 1) := zd_at zo_cL_law_840 77 rfl
theorem dL_law_1478 : decode cL_law 1478 = .ok (.iload 4, 2) := zd_at zo_cL_law_840 78 rfl
theorem dL_law_1480 : decode cL_law 1480 = .ok (.iconst 1, 1) := zd_at zo_cL_law_840 79 rfl
theorem dL_law_1481 : decode cL_law 1481 = .ok (.iadd, 1) := zd_at zo_cL_law_840 80 rfl
theorem dL_law_1482 : decode cL_law 1482 = .ok (.iaload, 1) := zd_at zo_cL_law_840 81 rfl
theorem dL_law_1483 : decode cL_law 1483 = .ok (.aload_n 3, 1) := zd_at zo_cL_law_840 82 rfl
theorem dL_law_1484 : decode cL_law 1484 = .ok (.invokestatic 164, 3) := zd_at zo_cL_law_840 83 rfl
theorem dL_law_1487 : decode cL_law 1487 = .ok (.istore 5, 2) := zd_at zo_cL_law_840 84 rfl
theorem dL_law_1489 : decode cL_law 1489 = .ok (.aload_n 2, 1) := zd_at zo_cL_law_840 85 rfl
theorem dL_law_1490 : decode cL_law 1490 = .ok (.aload_n 0, 1) := zd_at zo_cL_law_840 86 rfl
theorem dL_law_1491 : decode cL_law 1491 = .ok (.iload 4, 2) := zd_at zo_cL_law_840 87 rfl
theorem dL_law_1493 : decode cL_law 1493 = .ok (.iconst 1, 1) := zd_at zo_cL_law_840 88 rfl
theorem dL_law_1494 : decode cL_law 1494 = .ok (.iadd, 1) := zd_at zo_cL_law_840 89 rfl
theorem dL_law_1495 : decode cL_law 1495 = .ok (.iaload, 1) := zd_at zo_cL_law_840 90 rfl
theorem dL_law_1496 : decode cL_law 1496 = .ok (.invokevirtual 166, 3) := zd_at zo_cL_law_840 91 rfl
theorem dL_law_1499 : decode cL_law 1499 = .ok (.istore 6, 2) := zd_at zo_cL_law_840 92 rfl
theorem dL_law_1501 : decode cL_law 1501 = .ok (.aload_n 2, 1) := zd_at zo_cL_law_840 93 rfl
theorem dL_law_1502 : decode cL_law 1502 = .ok (.invokevirtual 89, 3) := zd_at zo_cL_law_840 94 rfl
theorem dL_law_1505 : decode cL_law 1505 = .ok (.iload 5, 2) := zd_at zo_cL_law_840 95 rfl
theorem dL_law_1507 : decode cL_law 1507 = .ok (.if_icmp .eq 5, 3) := zd_at zo_cL_law_840 96 rfl
theorem dL_law_1510 : decode cL_law 1510 = .ok (.iconst 0, 1) := zd_at zo_cL_law_840 97 rfl
theorem dL_law_1511 : decode cL_law 1511 = .ok (.ireturn, 1) := zd_at zo_cL_law_840 98 rfl
theorem dL_law_1512 : decode cL_law 1512 = .ok (.iload 5, 2) := zd_at zo_cL_law_840 99 rfl
theorem dL_law_1514 : decode cL_law 1514 = .ok (.ifCond .ne 15, 3) := zd_at zo_cL_law_840 100 rfl
theorem dL_law_1517 : decode cL_law 1517 = .ok (.aload_n 3, 1) := zd_at zo_cL_law_840 101 rfl
theorem dL_law_1518 : decode cL_law 1518 = .ok (.iconst 0, 1) := zd_at zo_cL_law_840 102 rfl
theorem dL_law_1519 : decode cL_law 1519 = .ok (.laload, 1) := zd_at zo_cL_law_840 103 rfl
theorem dL_law_1520 : decode cL_law 1520 = .ok (.iload 6, 2) := zd_at zo_cL_law_840 104 rfl
theorem dL_law_1522 : decode cL_law 1522 = .ok (.i2l, 1) := zd_at zo_cL_law_840 105 rfl
theorem dL_law_1523 : decode cL_law 1523 = .ok (.lcmp, 1) := zd_at zo_cL_law_840 106 rfl
theorem dL_law_1524 : decode cL_law 1524 = .ok (.ifCond .eq 5, 3) := zd_at zo_cL_law_840 107 rfl
theorem dL_law_1527 : decode cL_law 1527 = .ok (.iconst 0, 1) := zd_at zo_cL_law_840 108 rfl
theorem dL_law_1528 : decode cL_law 1528 = .ok (.ireturn, 1) := zd_at zo_cL_law_840 109 rfl
theorem dL_law_1529 : decode cL_law 1529 = .ok (.goto 59, 3) := zd_at zo_cL_law_840 110 rfl
theorem dL_law_1532 : decode cL_law 1532 = .ok (.aload_n 1, 1) := zd_at zo_cL_law_840 111 rfl
theorem dL_law_1533 : decode cL_law 1533 = .ok (.aload_n 0, 1) := zd_at zo_cL_law_840 112 rfl
theorem dL_law_1534 : decode cL_law 1534 = .ok (.iload 4, 2) := zd_at zo_cL_law_840 113 rfl
theorem dL_law_1536 : decode cL_law 1536 = .ok (.iconst 1, 1) := zd_at zo_cL_law_840 114 rfl
theorem dL_law_1537 : decode cL_law 1537 = .ok (.iadd, 1) := zd_at zo_cL_law_840 115 rfl
theorem dL_law_1538 : decode cL_law 1538 = .ok (.iaload, 1) := zd_at zo_cL_law_840 116 rfl
theorem dL_law_1539 : decode cL_law 1539 = .ok (.aload_n 3, 1) := zd_at zo_cL_law_840 117 rfl
theorem dL_law_1540 : decode cL_law 1540 = .ok (.invokestatic 167, 3) := zd_at zo_cL_law_840 118 rfl
theorem dL_law_1543 : decode cL_law 1543 = .ok (.istore 5, 2) := zd_at zo_cL_law_840 119 rfl
def zl_cL_law_960 : List (Nat × Instr × Nat) := [(1545, .aload_n 2, 1), (1546, .aload_n 0, 1), (1547, .iload 4, 2), (1549, .iconst 1, 1), (1550, .iadd, 1), (1551, .iaload, 1), (1552, .invokevirtual 169, 3), (1555, .istore 6, 2), (1557, .aload_n 2, 1), (1558, .invokevirtual 89, 3), (1561, .iload 5, 2), (1563, .if_icmp .eq 5, 3), (1566, .iconst 0, 1), (1567, .ireturn, 1), (1568, .iload 5, 2), (1570, .ifCond .ne 15, 3), (1573, .aload_n 3, 1), (1574, .iconst 0, 1), (1575, .laload, 1), (1576, .iload 6, 2), (1578, .i2l, 1), (1579, .lcmp, 1), (1580, .ifCond .eq 5, 3), (1583, .iconst 0, 1), (1584, .ireturn, 1), (1585, .goto 3, 3), (1588, .iinc 4 5, 3), (1591, .goto (-1568), 3), (1594, .iconst 1, 1), (1595, .ireturn, 1)]
theorem zo_cL_law_960 : zd_ok cL_law zl_cL_law_960 = true := by decide +kernel
theorem dL_law_1545 : decode cL_law 1545 = .ok (.aload_n 2, 1) := zd_at zo_cL_law_960 0 rfl
theorem dL_law_1546 : decode cL_law 1546 = .ok (.aload_n 0, 1) := zd_at zo_cL_law_960 1 rfl
theorem dL_law_1547 : decode cL_law 1547 = .ok (.iload 4, 2) := zd_at zo_cL_law_960 2 rfl
theorem dL_law_1549 : decode cL_law 1549 = .ok (.iconst 1, 1) := zd_at zo_cL_law_960 3 rfl
theorem dL_law_1550 : decode cL_law 1550 = .ok (.iadd, 1) := zd_at zo_cL_law_960 4 rfl
theorem dL_law_1551 : decode cL_law 1551 = .ok (.iaload, 1) := zd_at zo_cL_law_960 5 rfl
theorem dL_law_1552 : decode cL_law 1552 = .ok (.invokevirtual 169, 3) := zd_at zo_cL_law_960 6 rfl
theorem dL_law_1555 : decode cL_law 1555 = .ok (.istore 6, 2) := zd_at zo_cL_law_960 7 rfl
theorem dL_law_1557 : decode cL_law 1557 = .ok (.aload_n 2, 1) := zd_at zo_cL_law_960 8 rfl
theorem dL_law_1558 : decode cL_law 1558 = .ok (.invokevirtual 89, 3) := zd_at zo_cL_law_960 9 rfl
theorem dL_law_1561 : decode cL_law 1561 = .ok (.iload 5, 2) := zd_at zo_cL_law_960 10 rfl
theorem dL_law_1563 : decode cL_law 1563 = .ok (.if_icmp .eq 5, 3) := zd_at zo_cL_law_960 11 rfl
theorem dL_law_1566 : decode cL_law 1566 = .ok (.iconst 0, 1) := zd_at zo_cL_law_960 12 rfl
theorem dL_law_1567 : decode cL_law 1567 = .ok (.ireturn, 1) := zd_at zo_cL_law_960 13 rfl
theorem dL_law_1568 : decode cL_law 1568 = .ok (.iload 5, 2) := zd_at zo_cL_law_960 14 rfl
theorem dL_law_1570 : decode cL_law 1570 = .ok (.ifCond .ne 15, 3) := zd_at zo_cL_law_960 15 rfl
theorem dL_law_1573 : decode cL_law 1573 = .ok (.aload_n 3, 1) := zd_at zo_cL_law_960 16 rfl
theorem dL_law_1574 : decode cL_law 1574 = .ok (.iconst 0, 1) := zd_at zo_cL_law_960 17 rfl
theorem dL_law_1575 : decode cL_law 1575 = .ok (.laload, 1) := zd_at zo_cL_law_960 18 rfl
theorem dL_law_1576 : decode cL_law 1576 = .ok (.iload 6, 2) := zd_at zo_cL_law_960 19 rfl
theorem dL_law_1578 : decode cL_law 1578 = .ok (.i2l, 1) := zd_at zo_cL_law_960 20 rfl
theorem dL_law_1579 : decode cL_law 1579 = .ok (.lcmp, 1) := zd_at zo_cL_law_960 21 rfl
theorem dL_law_1580 : decode cL_law 1580 = .ok (.ifCond .eq 5, 3) := zd_at zo_cL_law_960 22 rfl
theorem dL_law_1583 : decode cL_law 1583 = .ok (.iconst 0, 1) := zd_at zo_cL_law_960 23 rfl
theorem dL_law_1584 : decode cL_law 1584 = .ok (.ireturn, 1) := zd_at zo_cL_law_960 24 rfl
theorem dL_law_1585 : decode cL_law 1585 = .ok (.goto 3, 3) := zd_at zo_cL_law_960 25 rfl
theorem dL_law_1588 : decode cL_law 1588 = .ok (.iinc 4 5, 3) := zd_at zo_cL_law_960 26 rfl
theorem dL_law_1591 : decode cL_law 1591 = .ok (.goto (-1568), 3) := zd_at zo_cL_law_960 27 rfl
theorem dL_law_1594 : decode cL_law 1594 = .ok (.iconst 1, 1) := zd_at zo_cL_law_960 28 rfl
theorem dL_law_1595 : decode cL_law 1595 = .ok (.ireturn, 1) := zd_at zo_cL_law_960 29 rfl
