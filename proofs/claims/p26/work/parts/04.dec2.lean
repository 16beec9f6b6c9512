def zl_cL_act_0 : List (Nat × Instr × Nat) := [(0, .iload_n 2, 1), (1, .bipush 24, 2), (3, .irem, 1), (4, .istore_n 3, 1), (5, .iload_n 1, 1), (6, .bipush 16, 2), (8, .irem, 1), (9, .tableswitch 253 0 7 #[47, 47, 57, 57, 86, 96, 108, 120], 47), (56, .aload_n 0, 1), (57, .bipush 6, 2), (59, .iload_n 3, 1), (60, .iconst 0, 1), (61, .iconst 0, 1), (62, .invokestatic 126, 3), (65, .ireturn, 1), (66, .aload_n 0, 1), (67, .bipush 7, 2), (69, .iload_n 3, 1), (70, .iload_n 2, 1), (71, .bipush 32, 2), (73, .idiv, 1), (74, .bipush 31, 2), (76, .irem, 1), (77, .bipush 15, 2), (79, .isub, 1), (80, .iload_n 2, 1), (81, .sipush 1024, 3), (84, .idiv, 1), (85, .bipush 31, 2), (87, .irem, 1), (88, .bipush 15, 2), (90, .isub, 1), (91, .invokestatic 126, 3), (94, .ireturn, 1), (95, .aload_n 0, 1), (96, .bipush 8, 2), (98, .iconst 0, 1), (99, .iconst 0, 1), (100, .iconst 0, 1), (101, .invokestatic 126, 3), (104, .ireturn, 1), (105, .aload_n 0, 1), (106, .bipush 10, 2), (108, .iload_n 2, 1), (109, .iconst 2, 1), (110, .irem, 1), (111, .iconst 0, 1), (112, .iconst 0, 1), (113, .invokestatic 126, 3), (116, .ireturn, 1), (117, .aload_n 0, 1), (118, .bipush 11, 2), (120, .iload_n 2, 1), (121, .iconst 2, 1), (122, .irem, 1), (123, .iconst 0, 1), (124, .iconst 0, 1), (125, .invokestatic 126, 3), (128, .ireturn, 1), (129, .aload_n 0, 1), (130, .invokevirtual 168, 3), (133, .pop, 1), (134, .aload_n 0, 1), (135, .iconst 0, 1), (136, .bipush 48, 2), (138, .iload_n 2, 1), (139, .bipush 10, 2), (141, .irem, 1), (142, .iadd, 1), (143, .iconst 0, 1), (144, .iconst 0, 1), (145, .invokestatic 126, 3), (148, .aload_n 0, 1), (149, .iconst 0, 1), (150, .bipush 44, 2), (152, .iconst 0, 1), (153, .iconst 0, 1), (154, .invokestatic 126, 3), (157, .iadd, 1), (158, .aload_n 0, 1), (159, .iconst 0, 1), (160, .bipush 49, 2), (162, .iload_n 2, 1), (163, .bipush 16, 2), (165, .idiv, 1), (166, .bipush 9, 2), (168, .irem, 1), (169, .iadd, 1), (170, .iconst 0, 1), (171, .iconst 0, 1), (172, .invokestatic 126, 3), (175, .iadd, 1), (176, .aload_n 0, 1), (177, .iconst 0, 1), (178, .bipush 48, 2), (180, .iload_n 2, 1), (181, .sipush 256, 3), (184, .idiv, 1), (185, .bipush 10, 2), (187, .irem, 1), (188, .iadd, 1), (189, .iconst 0, 1), (190, .iconst 0, 1), (191, .invokestatic 126, 3), (194, .iadd, 1), (195, .aload_n 0, 1), (196, .iconst 0, 1), (197, .bipush 58, 2), (199, .iconst 0, 1), (200, .iconst 0, 1), (201, .invokestatic 126, 3), (204, .iadd, 1), (205, .aload_n 0, 1), (206, .iconst 0, 1), (207, .bipush 49, 2), (209, .iload_n 2, 1), (210, .sipush 4096, 3), (213, .idiv, 1), (214, .bipush 9, 2), (216, .irem, 1)]
theorem zo_cL_act_0 : zd_ok cL_act zl_cL_act_0 = true := by decide +kernel
theorem dL_act_0 : decode cL_act 0 = .ok (.iload_n 2, 1) := zd_at zo_cL_act_0 0 rfl
theorem dL_act_1 : decode cL_act 1 = .ok (.bipush 24, 2) := zd_at zo_cL_act_0 1 rfl
theorem dL_act_3 : decode cL_act 3 = .ok (.irem, 1) := zd_at zo_cL_act_0 2 rfl
theorem dL_act_4 : decode cL_act 4 = .ok (.istore_n 3, 1) := zd_at zo_cL_act_0 3 rfl
theorem dL_act_5 : decode cL_act 5 = .ok (.iload_n 1, 1) := zd_at zo_cL_act_0 4 rfl
theorem dL_act_6 : decode cL_act 6 = .ok (.bipush 16, 2) := zd_at zo_cL_act_0 5 rfl
theorem dL_act_8 : decode cL_act 8 = .ok (.irem, 1) := zd_at zo_cL_act_0 6 rfl
theorem dL_act_9 : decode cL_act 9 = .ok (.tableswitch 253 0 7 #[47, 47, 57, 57, 86, 96, 108, 120], 47) := zd_at zo_cL_act_0 7 rfl
theorem dL_act_56 : decode cL_act 56 = .ok (.aload_n 0, 1) := zd_at zo_cL_act_0 8 rfl
theorem dL_act_57 : decode cL_act 57 = .ok (.bipush 6, 2) := zd_at zo_cL_act_0 9 rfl
theorem dL_act_59 : decode cL_act 59 = .ok (.iload_n 3, 1) := zd_at zo_cL_act_0 10 rfl
theorem dL_act_60 : decode cL_act 60 = .ok (.iconst 0, 1) := zd_at zo_cL_act_0 11 rfl
theorem dL_act_61 : decode cL_act 61 = .ok (.iconst 0, 1) := zd_at zo_cL_act_0 12 rfl
theorem dL_act_62 : decode cL_act 62 = .ok (.invokestatic 126, 3) := zd_at zo_cL_act_0 13 rfl
theorem dL_act_65 : decode cL_act 65 = .ok (.ireturn, 1) := zd_at zo_cL_act_0 14 rfl
theorem dL_act_66 : decode cL_act 66 = .ok (.aload_n 0, 1) := zd_at zo_cL_act_0 15 rfl
theorem dL_act_67 : decode cL_act 67 = .ok (.bipush 7, 2) := zd_at zo_cL_act_0 16 rfl
theorem dL_act_69 : decode cL_act 69 = .ok (.iload_n 3, 1) := zd_at zo_cL_act_0 17 rfl
theorem dL_act_70 : decode cL_act 70 = .ok (.iload_n 2, 1) := zd_at zo_cL_act_0 18 rfl
theorem dL_act_71 : decode cL_act 71 = .ok (.bipush 32, 2) := zd_at zo_cL_act_0 19 rfl
theorem dL_act_73 : decode cL_act 73 = .ok (.idiv, 1) := zd_at zo_cL_act_0 20 rfl
theorem dL_act_74 : decode cL_act 74 = .ok (.bipush 31, 2) := zd_at zo_cL_act_0 21 rfl
theorem dL_act_76 : decode cL_act 76 = .ok (.irem, 1) := zd_at zo_cL_act_0 22 rfl
theorem dL_act_77 : decode cL_act 77 = .ok (.bipush 15, 2) := zd_at zo_cL_act_0 23 rfl
theorem dL_act_79 : decode cL_act 79 = .ok (.isub, 1) := zd_at zo_cL_act_0 24 rfl
theorem dL_act_80 : decode cL_act 80 = .ok (.iload_n 2, 1) := zd_at zo_cL_act_0 25 rfl
theorem dL_act_81 : decode cL_act 81 = .ok (.sipush 1024, 3) := zd_at zo_cL_act_0 26 rfl
theorem dL_act_84 : decode cL_act 84 = .ok (.idiv, 1) := zd_at zo_cL_act_0 27 rfl
theorem dL_act_85 : decode cL_act 85 = .ok (.bipush 31, 2) := zd_at zo_cL_act_0 28 rfl
theorem dL_act_87 : decode cL_act 87 = .ok (.irem, 1) := zd_at zo_cL_act_0 29 rfl
theorem dL_act_88 : decode cL_act 88 = .ok (.bipush 15, 2) := zd_at zo_cL_act_0 30 rfl
theorem dL_act_90 : decode cL_act 90 = .ok (.isub, 1) := zd_at zo_cL_act_0 31 rfl
theorem dL_act_91 : decode cL_act 91 = .ok (.invokestatic 126, 3) := zd_at zo_cL_act_0 32 rfl
theorem dL_act_94 : decode cL_act 94 = .ok (.ireturn, 1) := zd_at zo_cL_act_0 33 rfl
theorem dL_act_95 : decode cL_act 95 = .ok (.aload_n 0, 1) := zd_at zo_cL_act_0 34 rfl
theorem dL_act_96 : decode cL_act 96 = .ok (.bipush 8, 2) := zd_at zo_cL_act_0 35 rfl
theorem dL_act_98 : decode cL_act 98 = .ok (.iconst 0, 1) := zd_at zo_cL_act_0 36 rfl
theorem dL_act_99 : decode cL_act 99 = .ok (.iconst 0, 1) := zd_at zo_cL_act_0 37 rfl
theorem dL_act_100 : decode cL_act 100 = .ok (.iconst 0, 1) := zd_at zo_cL_act_0 38 rfl
theorem dL_act_101 : decode cL_act 101 = .ok (.invokestatic 126, 3) := zd_at zo_cL_act_0 39 rfl
theorem dL_act_104 : decode cL_act 104 = .ok (.ireturn, 1) := zd_at zo_cL_act_0 40 rfl
theorem dL_act_105 : decode cL_act 105 = .ok (.aload_n 0, 1) := zd_at zo_cL_act_0 41 rfl
theorem dL_act_106 : decode cL_act 106 = .ok (.bipush 10, 2) := zd_at zo_cL_act_0 42 rfl
theorem dL_act_108 : decode cL_act 108 = .ok (.iload_n 2, 1) := zd_at zo_cL_act_0 43 rfl
theorem dL_act_109 : decode cL_act 109 = .ok (.iconst 2, 1) := zd_at zo_cL_act_0 44 rfl
theorem dL_act_110 : decode cL_act 110 = .ok (.irem, 1) := zd_at zo_cL_act_0 45 rfl
theorem dL_act_111 : decode cL_act 111 = .ok (.iconst 0, 1) := zd_at zo_cL_act_0 46 rfl
theorem dL_act_112 : decode cL_act 112 = .ok (.iconst 0, 1) := zd_at zo_cL_act_0 47 rfl
theorem dL_act_113 : decode cL_act 113 = .ok (.invokestatic 126, 3) := zd_at zo_cL_act_0 48 rfl
theorem dL_act_116 : decode cL_act 116 = .ok (.ireturn, 1) := zd_at zo_cL_act_0 49 rfl
theorem dL_act_117 : decode cL_act 117 = .ok (.aload_n 0, 1) := zd_at zo_cL_act_0 50 rfl
theorem dL_act_118 : decode cL_act 118 = .ok (.bipush 11, 2) := zd_at zo_cL_act_0 51 rfl
theorem dL_act_120 : decode cL_act 120 = .ok (.iload_n 2, 1) := zd_at zo_cL_act_0 52 rfl
theorem dL_act_121 : decode cL_act 121 = .ok (.iconst 2, 1) := zd_at zo_cL_act_0 53 rfl
theorem dL_act_122 : decode cL_act 122 = .ok (.irem, 1) := zd_at zo_cL_act_0 54 rfl
theorem dL_act_123 : decode cL_act 123 = .ok (.iconst 0, 1) := zd_at zo_cL_act_0 55 rfl
theorem dL_act_124 : decode cL_act 124 = .ok (.iconst 0, 1) := zd_at zo_cL_act_0 56 rfl
theorem dL_act_125 : decode cL_act 125 = .ok (.invokestatic 126, 3) := zd_at zo_cL_act_0 57 rfl
theorem dL_act_128 : decode cL_act 128 = .ok (.ireturn, 1) := zd_at zo_cL_act_0 58 rfl
theorem dL_act_129 : decode cL_act 129 = .ok (.aload_n 0, 1) := zd_at zo_cL_act_0 59 rfl
theorem dL_act_130 : decode cL_act 130 = .ok (.invokevirtual 168, 3) := zd_at zo_cL_act_0 60 rfl
theorem dL_act_133 : decode cL_act 133 = .ok (.pop, 1) := zd_at zo_cL_act_0 61 rfl
theorem dL_act_134 : decode cL_act 134 = .ok (.aload_n 0, 1) := zd_at zo_cL_act_0 62 rfl
theorem dL_act_135 : decode cL_act 135 = .ok (.iconst 0, 1) := zd_at zo_cL_act_0 63 rfl
theorem dL_act_136 : decode cL_act 136 = .ok (.bipush 48, 2) := zd_at zo_cL_act_0 64 rfl
theorem dL_act_138 : decode cL_act 138 = .ok (.iload_n 2, 1) := zd_at zo_cL_act_0 65 rfl
theorem dL_act_139 : decode cL_act 139 = .ok (.bipush 10, 2) := zd_at zo_cL_act_0 66 rfl
theorem dL_act_141 : decode cL_act 141 = .ok (.irem, 1) := zd_at zo_cL_act_0 67 rfl
theorem dL_act_142 : decode cL_act 142 = .ok (.iadd, 1) := zd_at zo_cL_act_0 68 rfl
theorem dL_act_143 : decode cL_act 143 = .ok (.iconst 0, 1) := zd_at zo_cL_act_0 69 rfl
theorem dL_act_144 : decode cL_act 144 = .ok (.iconst 0, 1) := zd_at zo_cL_act_0 70 rfl
theorem dL_act_145 : decode cL_act 145 = .ok (.invokestatic 126, 3) := zd_at zo_cL_act_0 71 rfl
theorem dL_act_148 : decode cL_act 148 = .ok (.aload_n 0, 1) := zd_at zo_cL_act_0 72 rfl
theorem dL_act_149 : decode cL_act 149 = .ok (.iconst 0, 1) := zd_at zo_cL_act_0 73 rfl
theorem dL_act_150 : decode cL_act 150 = .ok (.bipush 44, 2) := zd_at zo_cL_act_0 74 rfl
theorem dL_act_152 : decode cL_act 152 = .ok (.iconst 0, 1) := zd_at zo_cL_act_0 75 rfl
theorem dL_act_153 : decode cL_act 153 = .ok (.iconst 0, 1) := zd_at zo_cL_act_0 76 rfl
theorem dL_act_154 : decode cL_act 154 = .ok (.invokestatic 126, 3) := zd_at zo_cL_act_0 77 rfl
theorem dL_act_157 : decode cL_act 157 = .ok (.iadd, 1) := zd_at zo_cL_act_0 78 rfl
theorem dL_act_158 : decode cL_act 158 = .ok (.aload_n 0, 1) := zd_at zo_cL_act_0 79 rfl
theorem dL_act_159 : decode cL_act 159 = .ok (.iconst 0, 1) := zd_at zo_cL_act_0 80 rfl
theorem dL_act_160 : decode cL_act 160 = .ok (.bipush 49, 2) := zd_at zo_cL_act_0 81 rfl
theorem dL_act_162 : decode cL_act 162 = .ok (.iload_n 2, 1) := zd_at zo_cL_act_0 82 rfl
theorem dL_act_163 : decode cL_act 163 = .ok (.bipush 16, 2) := zd_at zo_cL_act_0 83 rfl
theorem dL_act_165 : decode cL_act 165 = .ok (.idiv, 1) := zd_at zo_cL_act_0 84 rfl
theorem dL_act_166 : decode cL_act 166 = .ok (.bipush 9, 2) := zd_at zo_cL_act_0 85 rfl
theorem dL_act_168 : decode cL_act 168 = .ok (.irem, 1) := zd_at zo_cL_act_0 86 rfl
theorem dL_act_169 : decode cL_act 169 = .ok (.iadd, 1) := zd_at zo_cL_act_0 87 rfl
theorem dL_act_170 : decode cL_act 170 = .ok (.iconst 0, 1) := zd_at zo_cL_act_0 88 rfl
theorem dL_act_171 : decode cL_act 171 = .ok (.iconst 0, 1) := zd_at zo_cL_act_0 89 rfl
theorem dL_act_172 : decode cL_act 172 = .ok (.invokestatic 126, 3) := zd_at zo_cL_act_0 90 rfl
theorem dL_act_175 : decode cL_act 175 = .ok (.iadd, 1) := zd_at zo_cL_act_0 91 rfl
theorem dL_act_176 : decode cL_act 176 = .ok (.aload_n 0, 1) := zd_at zo_cL_act_0 92 rfl
theorem dL_act_177 : decode cL_act 177 = .ok (.iconst 0, 1) := zd_at zo_cL_act_0 93 rfl
theorem dL_act_178 : decode cL_act 178 = .ok (.bipush 48, 2) := zd_at zo_cL_act_0 94 rfl
theorem dL_act_180 : decode cL_act 180 = .ok (.iload_n 2, 1) := zd_at zo_cL_act_0 95 rfl
theorem dL_act_181 : decode cL_act 181 = .ok (.sipush 256, 3) := zd_at zo_cL_act_0 96 rfl
theorem dL_act_184 : decode cL_act 184 = .ok (.idiv, 1) := zd_at zo_cL_act_0 97 rfl
theorem dL_act_185 : decode cL_act 185 = .ok (.bipush 10, 2) := zd_at zo_cL_act_0 98 rfl
theorem dL_act_187 : decode cL_act 187 = .ok (.irem, 1) := zd_at zo_cL_act_0 99 rfl
theorem dL_act_188 : decode cL_act 188 = .ok (.iadd, 1) := zd_at zo_cL_act_0 100 rfl
theorem dL_act_189 : decode cL_act 189 = .ok (.iconst 0, 1) := zd_at zo_cL_act_0 101 rfl
theorem dL_act_190 : decode cL_act 190 = .ok (.iconst 0, 1) := zd_at zo_cL_act_0 102 rfl
theorem dL_act_191 : decode cL_act 191 = .ok (.invokestatic 126, 3) := zd_at zo_cL_act_0 103 rfl
theorem dL_act_194 : decode cL_act 194 = .ok (.iadd, 1) := zd_at zo_cL_act_0 104 rfl
theorem dL_act_195 : decode cL_act 195 = .ok (.aload_n 0, 1) := zd_at zo_cL_act_0 105 rfl
theorem dL_act_196 : decode cL_act 196 = .ok (.iconst 0, 1) := zd_at zo_cL_act_0 106 rfl
theorem dL_act_197 : decode cL_act 197 = .ok (.bipush 58, 2) := zd_at zo_cL_act_0 107 rfl
theorem dL_act_199 : decode cL_act 199 = .ok (.iconst 0, 1) := zd_at zo_cL_act_0 108 rfl
theorem dL_act_200 : decode cL_act 200 = .ok (.iconst 0, 1) := zd_at zo_cL_act_0 109 rfl
theorem dL_act_201 : decode cL_act 201 = .ok (.invokestatic 126, 3) := zd_at zo_cL_act_0 110 rfl
theorem dL_act_204 : decode cL_act 204 = .ok (.iadd, 1) := zd_at zo_cL_act_0 111 rfl
theorem dL_act_205 : decode cL_act 205 = .ok (.aload_n 0, 1) := zd_at zo_cL_act_0 112 rfl
theorem dL_act_206 : decode cL_act 206 = .ok (.iconst 0, 1) := zd_at zo_cL_act_0 113 rfl
theorem dL_act_207 : decode cL_act 207 = .ok (.bipush 49, 2) := zd_at zo_cL_act_0 114 rfl
theorem dL_act_209 : decode cL_act 209 = .ok (.iload_n 2, 1) := zd_at zo_cL_act_0 115 rfl
theorem dL_act_210 : decode cL_act 210 = .ok (.sipush 4096, 3) := zd_at zo_cL_act_0 116 rfl
theorem dL_act_213 : decode cL_act 213 = .ok (.idiv, 1) := zd_at zo_cL_act_0 117 rfl
theorem dL_act_214 : decode cL_act 214 = .ok (.bipush 9, 2) := zd_at zo_cL_act_0 118 rfl
theorem dL_act_216 : decode cL_act 216 = .ok (.irem, 1) := zd_at zo_cL_act_0 119 rfl
def zl_cL_act_120 : List (Nat × Instr × Nat) := [(217, .iadd, 1), (218, .iconst 0, 1), (219, .iconst 0, 1), (220, .invokestatic 126, 3), (223, .iadd, 1), (224, .aload_n 0, 1), (225, .iconst 0, 1), (226, .bipush 120, 2), (228, .iconst 0, 1), (229, .iconst 0, 1), (230, .invokestatic 126, 3), (233, .iadd, 1), (234, .aload_n 0, 1), (235, .iconst 0, 1), (236, .bipush 48, 2), (238, .iload_n 2, 1), (239, .ldc 171, 2), (241, .idiv, 1), (242, .bipush 10, 2), (244, .irem, 1), (245, .iadd, 1), (246, .iconst 0, 1), (247, .iconst 0, 1), (248, .invokestatic 126, 3), (251, .iadd, 1), (252, .aload_n 0, 1), (253, .iconst 5, 1), (254, .iconst 0, 1), (255, .iconst 0, 1), (256, .iconst 0, 1), (257, .invokestatic 126, 3), (260, .iadd, 1), (261, .ireturn, 1), (262, .iload_n 2, 1), (263, .iload_n 1, 1), (264, .bipush 16, 2), (266, .idiv, 1), (267, .iconst 3, 1), (268, .irem, 1), (269, .ifCond .ne 8, 3), (272, .bipush 100, 2), (274, .goto 5, 3), (277, .bipush 40, 2), (279, .irem, 1), (280, .istore 4, 2), (282, .iload_n 2, 1), (283, .sipush 128, 3), (286, .idiv, 1), (287, .iload_n 1, 1), (288, .bipush 16, 2), (290, .idiv, 1), (291, .iconst 3, 1), (292, .irem, 1), (293, .iconst 1, 1), (294, .if_icmp .ne 8, 3), (297, .bipush 100, 2), (299, .goto 5, 3), (302, .bipush 40, 2), (304, .irem, 1), (305, .istore 5, 2), (307, .iload 4, 2), (309, .iload_n 2, 1), (310, .sipush 16384, 3), (313, .idiv, 1), (314, .bipush 12, 2), (316, .irem, 1), (317, .iadd, 1), (318, .istore 6, 2), (320, .iload 5, 2), (322, .iload_n 1, 1), (323, .sipush 256, 3), (326, .idiv, 1), (327, .bipush 12, 2), (329, .irem, 1), (330, .iadd, 1), (331, .istore 7, 2), (333, .aload_n 0, 1), (334, .iload 4, 2), (336, .iload 5, 2), (338, .iload 6, 2), (340, .bipush 99, 2), (342, .if_icmp .le 8, 3), (345, .bipush 99, 2), (347, .goto 5, 3), (350, .iload 6, 2), (352, .iload 7, 2), (354, .bipush 99, 2), (356, .if_icmp .le 8, 3), (359, .bipush 99, 2), (361, .goto 5, 3), (364, .iload 7, 2), (366, .invokestatic 130, 3), (369, .ireturn, 1)]
theorem zo_cL_act_120 : zd_ok cL_act zl_cL_act_120 = true := by decide +kernel
theorem dL_act_217 : decode cL_act 217 = .ok (.iadd, 1) := zd_at zo_cL_act_120 0 rfl
theorem dL_act_218 : decode cL_act 218 = .ok (.iconst 0, 1) := zd_at zo_cL_act_120 1 rfl
theorem dL_act_219 : decode cL_act 219 = .ok (.iconst 0, 1) := zd_at zo_cL_act_120 2 rfl
theorem dL_act_220 : decode cL_act 220 = .ok (.invokestatic 126, 3) := zd_at zo_cL_act_120 3 rfl
theorem dL_act_223 : decode cL_act 223 = .ok (.iadd, 1) := zd_at zo_cL_act_120 4 rfl
theorem dL_act_224 : decode cL_act 224 = .ok (.aload_n 0, 1) := zd_at zo_cL_act_120 5 rfl
theorem dL_act_225 : decode cL_act 225 = .ok (.iconst 0, 1) := zd_at zo_cL_act_120 6 rfl
theorem dL_act_226 : decode cL_act 226 = .ok (.bipush 120, 2) := zd_at zo_cL_act_120 7 rfl
theorem dL_act_228 : decode cL_act 228 = .ok (.iconst 0, 1) := zd_at zo_cL_act_120 8 rfl
theorem dL_act_229 : decode cL_act 229 = .ok (.iconst 0, 1) := zd_at zo_cL_act_120 9 rfl
theorem dL_act_230 : decode cL_act 230 = .ok (.invokestatic 126, 3) := zd_at zo_cL_act_120 10 rfl
theorem dL_act_233 : decode cL_act 233 = .ok (.iadd, 1) := zd_at zo_cL_act_120 11 rfl
theorem dL_act_234 : decode cL_act 234 = .ok (.aload_n 0, 1) := zd_at zo_cL_act_120 12 rfl
theorem dL_act_235 : decode cL_act 235 = .ok (.iconst 0, 1) := zd_at zo_cL_act_120 13 rfl
theorem dL_act_236 : decode cL_act 236 = .ok (.bipush 48, 2) := zd_at zo_cL_act_120 14 rfl
theorem dL_act_238 : decode cL_act 238 = .ok (.iload_n 2, 1) := zd_at zo_cL_act_120 15 rfl
theorem dL_act_239 : decode cL_act 239 = .ok (.ldc 171, 2) := zd_at zo_cL_act_120 16 rfl
theorem dL_act_241 : decode cL_act 241 = .ok (.idiv, 1) := zd_at zo_cL_act_120 17 rfl
theorem dL_act_242 : decode cL_act 242 = .ok (.bipush 10, 2) := zd_at zo_cL_act_120 18 rfl
theorem dL_act_244 : decode cL_act 244 = .ok (.irem, 1) := zd_at zo_cL_act_120 19 rfl
theorem dL_act_245 : decode cL_act 245 = .ok (.iadd, 1) := zd_at zo_cL_act_120 20 rfl
theorem dL_act_246 : decode cL_act 246 = .ok (.iconst 0, 1) := zd_at zo_cL_act_120 21 rfl
theorem dL_act_247 : decode cL_act 247 = .ok (.iconst 0, 1) := zd_at zo_cL_act_120 22 rfl
theorem dL_act_248 : decode cL_act 248 = .ok (.invokestatic 126, 3) := zd_at zo_cL_act_120 23 rfl
theorem dL_act_251 : decode cL_act 251 = .ok (.iadd, 1) := zd_at zo_cL_act_120 24 rfl
theorem dL_act_252 : decode cL_act 252 = .ok (.aload_n 0, 1) := zd_at zo_cL_act_120 25 rfl
theorem dL_act_253 : decode cL_act 253 = .ok (.iconst 5, 1) := zd_at zo_cL_act_120 26 rfl
theorem dL_act_254 : decode cL_act 254 = .ok (.iconst 0, 1) := zd_at zo_cL_act_120 27 rfl
theorem dL_act_255 : decode cL_act 255 = .ok (.iconst 0, 1) := zd_at zo_cL_act_120 28 rfl
theorem dL_act_256 : decode cL_act 256 = .ok (.iconst 0, 1) := zd_at zo_cL_act_120 29 rfl
theorem dL_act_257 : decode cL_act 257 = .ok (.invokestatic 126, 3) := zd_at zo_cL_act_120 30 rfl
theorem dL_act_260 : decode cL_act 260 = .ok (.iadd, 1) := zd_at zo_cL_act_120 31 rfl
theorem dL_act_261 : decode cL_act 261 = .ok (.ireturn, 1) := zd_at zo_cL_act_120 32 rfl
theorem dL_act_262 : decode cL_act 262 = .ok (.iload_n 2, 1) := zd_at zo_cL_act_120 33 rfl
theorem dL_act_263 : decode cL_act 263 = .ok (.iload_n 1, 1) := zd_at zo_cL_act_120 34 rfl
theorem dL_act_264 : decode cL_act 264 = .ok (.bipush 16, 2) := zd_at zo_cL_act_120 35 rfl
theorem dL_act_266 : decode cL_act 266 = .ok (.idiv, 1) := zd_at zo_cL_act_120 36 rfl
theorem dL_act_267 : decode cL_act 267 = .ok (.iconst 3, 1) := zd_at zo_cL_act_120 37 rfl
theorem dL_act_268 : decode cL_act 268 = .ok (.irem, 1) := zd_at zo_cL_act_120 38 rfl
theorem dL_act_269 : decode cL_act 269 = .ok (.ifCond .ne 8, 3) := zd_at zo_cL_act_120 39 rfl
theorem dL_act_272 : decode cL_act 272 = .ok (.bipush 100, 2) := zd_at zo_cL_act_120 40 rfl
theorem dL_act_274 : decode cL_act 274 = .ok (.goto 5, 3) := zd_at zo_cL_act_120 41 rfl
theorem dL_act_277 : decode cL_act 277 = .ok (.bipush 40, 2) := zd_at zo_cL_act_120 42 rfl
theorem dL_act_279 : decode cL_act 279 = .ok (.irem, 1) := zd_at zo_cL_act_120 43 rfl
theorem dL_act_280 : decode cL_act 280 = .ok (.istore 4, 2) := zd_at zo_cL_act_120 44 rfl
theorem dL_act_282 : decode cL_act 282 = .ok (.iload_n 2, 1) := zd_at zo_cL_act_120 45 rfl
theorem dL_act_283 : decode cL_act 283 = .ok (.sipush 128, 3) := zd_at zo_cL_act_120 46 rfl
theorem dL_act_286 : decode cL_act 286 = .ok (.idiv, 1) := zd_at zo_cL_act_120 47 rfl
theorem dL_act_287 : decode cL_act 287 = .ok (.iload_n 1, 1) := zd_at zo_cL_act_120 48 rfl
theorem dL_act_288 : decode cL_act 288 = .ok (.bipush 16, 2) := zd_at zo_cL_act_120 49 rfl
theorem dL_act_290 : decode cL_act 290 = .ok (.idiv, 1) := zd_at zo_cL_act_120 50 rfl
theorem dL_act_291 : decode cL_act 291 = .ok (.iconst 3, 1) := zd_at zo_cL_act_120 51 rfl
theorem dL_act_292 : decode cL_act 292 = .ok (.irem, 1) := zd_at zo_cL_act_120 52 rfl
theorem dL_act_293 : decode cL_act 293 = .ok (.iconst 1, 1) := zd_at zo_cL_act_120 53 rfl
theorem dL_act_294 : decode cL_act 294 = .ok (.if_icmp .ne 8, 3) := zd_at zo_cL_act_120 54 rfl
theorem dL_act_297 : decode cL_act 297 = .ok (.bipush 100, 2) := zd_at zo_cL_act_120 55 rfl
theorem dL_act_299 : decode cL_act 299 = .ok (.goto 5, 3) := zd_at zo_cL_act_120 56 rfl
theorem dL_act_302 : decode cL_act 302 = .ok (.bipush 40, 2) := zd_at zo_cL_act_120 57 rfl
theorem dL_act_304 : decode cL_act 304 = .ok (.irem, 1) := zd_at zo_cL_act_120 58 rfl
theorem dL_act_305 : decode cL_act 305 = .ok (.istore 5, 2) := zd_at zo_cL_act_120 59 rfl
theorem dL_act_307 : decode cL_act 307 = .ok (.iload 4, 2) := zd_at zo_cL_act_120 60 rfl
theorem dL_act_309 : decode cL_act 309 = .ok (.iload_n 2, 1) := zd_at zo_cL_act_120 61 rfl
theorem dL_act_310 : decode cL_act 310 = .ok (.sipush 16384, 3) := zd_at zo_cL_act_120 62 rfl
theorem dL_act_313 : decode cL_act 313 = .ok (.idiv, 1) := zd_at zo_cL_act_120 63 rfl
theorem dL_act_314 : decode cL_act 314 = .ok (.bipush 12, 2) := zd_at zo_cL_act_120 64 rfl
theorem dL_act_316 : decode cL_act 316 = .ok (.irem, 1) := zd_at zo_cL_act_120 65 rfl
theorem dL_act_317 : decode cL_act 317 = .ok (.iadd, 1) := zd_at zo_cL_act_120 66 rfl
theorem dL_act_318 : decode cL_act 318 = .ok (.istore 6, 2) := zd_at zo_cL_act_120 67 rfl
theorem dL_act_320 : decode cL_act 320 = .ok (.iload 5, 2) := zd_at zo_cL_act_120 68 rfl
theorem dL_act_322 : decode cL_act 322 = .ok (.iload_n 1, 1) := zd_at zo_cL_act_120 69 rfl
theorem dL_act_323 : decode cL_act 323 = .ok (.sipush 256, 3) := zd_at zo_cL_act_120 70 rfl
theorem dL_act_326 : decode cL_act 326 = .ok (.idiv, 1) := zd_at zo_cL_act_120 71 rfl
theorem dL_act_327 : decode cL_act 327 = .ok (.bipush 12, 2) := zd_at zo_cL_act_120 72 rfl
theorem dL_act_329 : decode cL_act 329 = .ok (.irem, 1) := zd_at zo_cL_act_120 73 rfl
theorem dL_act_330 : decode cL_act 330 = .ok (.iadd, 1) := zd_at zo_cL_act_120 74 rfl
theorem dL_act_331 : decode cL_act 331 = .ok (.istore 7, 2) := zd_at zo_cL_act_120 75 rfl
theorem dL_act_333 : decode cL_act 333 = .ok (.aload_n 0, 1) := zd_at zo_cL_act_120 76 rfl
theorem dL_act_334 : decode cL_act 334 = .ok (.iload 4, 2) := zd_at zo_cL_act_120 77 rfl
theorem dL_act_336 : decode cL_act 336 = .ok (.iload 5, 2) := zd_at zo_cL_act_120 78 rfl
theorem dL_act_338 : decode cL_act 338 = .ok (.iload 6, 2) := zd_at zo_cL_act_120 79 rfl
theorem dL_act_340 : decode cL_act 340 = .ok (.bipush 99, 2) := zd_at zo_cL_act_120 80 rfl
theorem dL_act_342 : decode cL_act 342 = .ok (.if_icmp .le 8, 3) := zd_at zo_cL_act_120 81 rfl
theorem dL_act_345 : decode cL_act 345 = .ok (.bipush 99, 2) := zd_at zo_cL_act_120 82 rfl
theorem dL_act_347 : decode cL_act 347 = .ok (.goto 5, 3) := zd_at zo_cL_act_120 83 rfl
theorem dL_act_350 : decode cL_act 350 = .ok (.iload 6, 2) := zd_at zo_cL_act_120 84 rfl
theorem dL_act_352 : decode cL_act 352 = .ok (.iload 7, 2) := zd_at zo_cL_act_120 85 rfl
theorem dL_act_354 : decode cL_act 354 = .ok (.bipush 99, 2) := zd_at zo_cL_act_120 86 rfl
theorem dL_act_356 : decode cL_act 356 = .ok (.if_icmp .le 8, 3) := zd_at zo_cL_act_120 87 rfl
theorem dL_act_359 : decode cL_act 359 = .ok (.bipush 99, 2) := zd_at zo_cL_act_120 88 rfl
theorem dL_act_361 : decode cL_act 361 = .ok (.goto 5, 3) := zd_at zo_cL_act_120 89 rfl
theorem dL_act_364 : decode cL_act 364 = .ok (.iload 7, 2) := zd_at zo_cL_act_120 90 rfl
theorem dL_act_366 : decode cL_act 366 = .ok (.invokestatic 130, 3) := zd_at zo_cL_act_120 91 rfl
theorem dL_act_369 : decode cL_act 369 = .ok (.ireturn, 1) := zd_at zo_cL_act_120 92 rfl
def zl_cL_law_0 : List (Nat × Instr × Nat) := [(0, .new 8, 3), (3, .dup, 1), (4, .invokespecial 172, 3), (7, .astore_n 1, 1), (8, .new 8, 3), (11, .dup, 1), (12, .invokespecial 172, 3), (15, .astore_n 2, 1), (16, .iconst 1, 1), (17, .istore_n 3, 1), (18, .iconst 0, 1), (19, .istore 4, 2), (21, .iload 4, 2), (23, .bipush 28, 2), (25, .if_icmp .ge 217, 3), (28, .iload_n 3, 1), (29, .ifCond .eq 213, 3), (32, .aload_n 0, 1), (33, .iconst 2, 1), (34, .iload 4, 2), (36, .imul, 1), (37, .invokestatic 173, 3), (40, .istore 5, 2), (42, .aload_n 0, 1), (43, .iconst 2, 1), (44, .iload 4, 2), (46, .imul, 1), (47, .iconst 1, 1), (48, .iadd, 1), (49, .invokestatic 173, 3), (52, .istore 6, 2), (54, .aload_n 1, 1), (55, .iload 5, 2), (57, .invokestatic 177, 3), (60, .ifCond .eq 45, 3), (63, .aload_n 1, 1), (64, .iload 5, 2), (66, .iload 6, 2), (68, .invokestatic 181, 3), (71, .aload_n 2, 1), (72, .iload 5, 2), (74, .iload 6, 2), (76, .invokestatic 181, 3), (79, .if_icmp .ne 26, 3), (82, .aload_n 1, 1), (83, .iload 6, 2), (85, .invokestatic 177, 3), (88, .ifCond .eq 17, 3), (91, .aload_n 1, 1), (92, .aload_n 2, 1), (93, .iload 5, 2), (95, .invokestatic 184, 3), (98, .ifCond .eq 7, 3), (101, .iconst 1, 1), (102, .goto 4, 3), (105, .iconst 0, 1), (106, .istore_n 3, 1), (107, .iload 4, 2), (109, .iconst 5, 1), (110, .irem, 1), (111, .iconst 4, 1), (112, .if_icmp .ne 124, 3), (115, .iload_n 3, 1), (116, .ifCond .eq 120, 3), (119, .aload_n 1, 1), (120, .iload 6, 2), (122, .invokestatic 188, 3), (125, .ifCond .eq 16, 3), (128, .aload_n 2, 1), (129, .iload 6, 2), (131, .invokestatic 188, 3), (134, .ifCond .eq 7, 3), (137, .iconst 1, 1), (138, .goto 4, 3), (141, .iconst 0, 1), (142, .istore_n 3, 1), (143, .iload 5, 2), (145, .i2l, 1), (146, .ldc2_w 191, 3), (149, .lmul, 1), (150, .ldc2_w 193, 3), (153, .lsub, 1), (154, .lstore 7, 2), (156, .aload_n 1, 1), (157, .lload 7, 2), (159, .iconst 1, 1), (160, .iload 6, 2), (162, .bipush 20, 2), (164, .irem, 1), (165, .iadd, 1), (166, .invokestatic 153, 3), (169, .istore 9, 2), (171, .iload_n 3, 1), (172, .ifCond .eq 62, 3), (175, .iload 9, 2), (177, .aload_n 2, 1), (178, .lload 7, 2), (180, .iconst 1, 1), (181, .iload 6, 2), (183, .bipush 20, 2), (185, .irem, 1), (186, .iadd, 1), (187, .invokestatic 153, 3), (190, .if_icmp .ne 44, 3), (193, .aload_n 1, 1), (194, .iconst 2, 1), (195, .iload 6, 2), (197, .i2l, 1), (198, .ldc2_w 195, 3), (201, .lmul, 1), (202, .invokestatic 145, 3), (205, .aload_n 2, 1), (206, .iconst 2, 1), (207, .iload 6, 2), (209, .i2l, 1), (210, .ldc2_w 195, 3), (213, .lmul, 1), (214, .invokestatic 145, 3), (217, .if_icmp .ne 17, 3), (220, .aload_n 1, 1)]
theorem zo_cL_law_0 : zd_ok cL_law zl_cL_law_0 = true := by decide +kernel
theorem dL_law_0 : decode cL_law 0 = .ok (.new 8, 3) := zd_at zo_cL_law_0 0 rfl
theorem dL_law_3 : decode cL_law 3 = .ok (.dup, 1) := zd_at zo_cL_law_0 1 rfl
theorem dL_law_4 : decode cL_law 4 = .ok (.invokespecial 172, 3) := zd_at zo_cL_law_0 2 rfl
theorem dL_law_7 : decode cL_law 7 = .ok (.astore_n 1, 1) := zd_at zo_cL_law_0 3 rfl
theorem dL_law_8 : decode cL_law 8 = .ok (.new 8, 3) := zd_at zo_cL_law_0 4 rfl
theorem dL_law_11 : decode cL_law 11 = .ok (.dup, 1) := zd_at zo_cL_law_0 5 rfl
theorem dL_law_12 : decode cL_law 12 = .ok (.invokespecial 172, 3) := zd_at zo_cL_law_0 6 rfl
theorem dL_law_15 : decode cL_law 15 = .ok (.astore_n 2, 1) := zd_at zo_cL_law_0 7 rfl
theorem dL_law_16 : decode cL_law 16 = .ok (.iconst 1, 1) := zd_at zo_cL_law_0 8 rfl
theorem dL_law_17 : decode cL_law 17 = .ok (.istore_n 3, 1) := zd_at zo_cL_law_0 9 rfl
theorem dL_law_18 : decode cL_law 18 = .ok (.iconst 0, 1) := zd_at zo_cL_law_0 10 rfl
theorem dL_law_19 : decode cL_law 19 = .ok (.istore 4, 2) := zd_at zo_cL_law_0 11 rfl
theorem dL_law_21 : decode cL_law 21 = .ok (.iload 4, 2) := zd_at zo_cL_law_0 12 rfl
theorem dL_law_23 : decode cL_law 23 = .ok (.bipush 28, 2) := zd_at zo_cL_law_0 13 rfl
theorem dL_law_25 : decode cL_law 25 = .ok (.if_icmp .ge 217, 3) := zd_at zo_cL_law_0 14 rfl
theorem dL_law_28 : decode cL_law 28 = .ok (.iload_n 3, 1) := zd_at zo_cL_law_0 15 rfl
theorem dL_law_29 : decode cL_law 29 = .ok (.ifCond .eq 213, 3) := zd_at zo_cL_law_0 16 rfl
theorem dL_law_32 : decode cL_law 32 = .ok (.aload_n 0, 1) := zd_at zo_cL_law_0 17 rfl
theorem dL_law_33 : decode cL_law 33 = .ok (.iconst 2, 1) := zd_at zo_cL_law_0 18 rfl
theorem dL_law_34 : decode cL_law 34 = .ok (.iload 4, 2) := zd_at zo_cL_law_0 19 rfl
theorem dL_law_36 : decode cL_law 36 = .ok (.imul, 1) := zd_at zo_cL_law_0 20 rfl
theorem dL_law_37 : decode cL_law 37 = .ok (.invokestatic 173, 3) := zd_at zo_cL_law_0 21 rfl
theorem dL_law_40 : decode cL_law 40 = .ok (.istore 5, 2) := zd_at zo_cL_law_0 22 rfl
theorem dL_law_42 : decode cL_law 42 = .ok (.aload_n 0, 1) := zd_at zo_cL_law_0 23 rfl
theorem dL_law_43 : decode cL_law 43 = .ok (.iconst 2, 1) := zd_at zo_cL_law_0 24 rfl
theorem dL_law_44 : decode cL_law 44 = .ok (.iload 4, 2) := zd_at zo_cL_law_0 25 rfl
theorem dL_law_46 : decode cL_law 46 = .ok (.imul, 1) := zd_at zo_cL_law_0 26 rfl
theorem dL_law_47 : decode cL_law 47 = .ok (.iconst 1, 1) := zd_at zo_cL_law_0 27 rfl
theorem dL_law_48 : decode cL_law 48 = .ok (.iadd, 1) := zd_at zo_cL_law_0 28 rfl
theorem dL_law_49 : decode cL_law 49 = .ok (.invokestatic 173, 3) := zd_at zo_cL_law_0 29 rfl
theorem dL_law_52 : decode cL_law 52 = .ok (.istore 6, 2) := zd_at zo_cL_law_0 30 rfl
theorem dL_law_54 : decode cL_law 54 = .ok (.aload_n 1, 1) := zd_at zo_cL_law_0 31 rfl
theorem dL_law_55 : decode cL_law 55 = .ok (.iload 5, 2) := zd_at zo_cL_law_0 32 rfl
theorem dL_law_57 : decode cL_law 57 = .ok (.invokestatic 177, 3) := zd_at zo_cL_law_0 33 rfl
theorem dL_law_60 : decode cL_law 60 = .ok (.ifCond .eq 45, 3) := zd_at zo_cL_law_0 34 rfl
theorem dL_law_63 : decode cL_law 63 = .ok (.aload_n 1, 1) := zd_at zo_cL_law_0 35 rfl
theorem dL_law_64 : decode cL_law 64 = .ok (.iload 5, 2) := zd_at zo_cL_law_0 36 rfl
theorem dL_law_66 : decode cL_law 66 = .ok (.iload 6, 2) := zd_at zo_cL_law_0 37 rfl
theorem dL_law_68 : decode cL_law 68 = .ok (.invokestatic 181, 3) := zd_at zo_cL_law_0 38 rfl
theorem dL_law_71 : decode cL_law 71 = .ok (.aload_n 2, 1) := zd_at zo_cL_law_0 39 rfl
theorem dL_law_72 : decode cL_law 72 = .ok (.iload 5, 2) := zd_at zo_cL_law_0 40 rfl
theorem dL_law_74 : decode cL_law 74 = .ok (.iload 6, 2) := zd_at zo_cL_law_0 41 rfl
theorem dL_law_76 : decode cL_law 76 = .ok (.invokestatic 181, 3) := zd_at zo_cL_law_0 42 rfl
theorem dL_law_79 : decode cL_law 79 = .ok (.if_icmp .ne 26, 3) := zd_at zo_cL_law_0 43 rfl
theorem dL_law_82 : decode cL_law 82 = .ok (.aload_n 1, 1) := zd_at zo_cL_law_0 44 rfl
theorem dL_law_83 : decode cL_law 83 = .ok (.iload 6, 2) := zd_at zo_cL_law_0 45 rfl
theorem dL_law_85 : decode cL_law 85 = .ok (.invokestatic 177, 3) := zd_at zo_cL_law_0 46 rfl
theorem dL_law_88 : decode cL_law 88 = .ok (.ifCond .eq 17, 3) := zd_at zo_cL_law_0 47 rfl
theorem dL_law_91 : decode cL_law 91 = .ok (.aload_n 1, 1) := zd_at zo_cL_law_0 48 rfl
theorem dL_law_92 : decode cL_law 92 = .ok (.aload_n 2, 1) := zd_at zo_cL_law_0 49 rfl
theorem dL_law_93 : decode cL_law 93 = .ok (.iload 5, 2) := zd_at zo_cL_law_0 50 rfl
theorem dL_law_95 : decode cL_law 95 = .ok (.invokestatic 184, 3) := zd_at zo_cL_law_0 51 rfl
theorem dL_law_98 : decode cL_law 98 = .ok (.ifCond .eq 7, 3) := zd_at zo_cL_law_0 52 rfl
theorem dL_law_101 : decode cL_law 101 = .ok (.iconst 1, 1) := zd_at zo_cL_law_0 53 rfl
theorem dL_law_102 : decode cL_law 102 = .ok (.goto 4, 3) := zd_at zo_cL_law_0 54 rfl
theorem dL_law_105 : decode cL_law 105 = .ok (.iconst 0, 1) := zd_at zo_cL_law_0 55 rfl
theorem dL_law_106 : decode cL_law 106 = .ok (.istore_n 3, 1) := zd_at zo_cL_law_0 56 rfl
theorem dL_law_107 : decode cL_law 107 = .ok (.iload 4, 2) := zd_at zo_cL_law_0 57 rfl
theorem dL_law_109 : decode cL_law 109 = .ok (.iconst 5, 1) := zd_at zo_cL_law_0 58 rfl
theorem dL_law_110 : decode cL_law 110 = .ok (.irem, 1) := zd_at zo_cL_law_0 59 rfl
theorem dL_law_111 : decode cL_law 111 = .ok (.iconst 4, 1) := zd_at zo_cL_law_0 60 rfl
theorem dL_law_112 : decode cL_law 112 = .ok (.if_icmp .ne 124, 3) := zd_at zo_cL_law_0 61 rfl
theorem dL_law_115 : decode cL_law 115 = .ok (.iload_n 3, 1) := zd_at zo_cL_law_0 62 rfl
theorem dL_law_116 : decode cL_law 116 = .ok (.ifCond .eq 120, 3) := zd_at zo_cL_law_0 63 rfl
theorem dL_law_119 : decode cL_law 119 = .ok (.aload_n 1, 1) := zd_at zo_cL_law_0 64 rfl
theorem dL_law_120 : decode cL_law 120 = .ok (.iload 6, 2) := zd_at zo_cL_law_0 65 rfl
theorem dL_law_122 : decode cL_law 122 = .ok (.invokestatic 188, 3) := zd_at zo_cL_law_0 66 rfl
theorem dL_law_125 : decode cL_law 125 = .ok (.ifCond .eq 16, 3) := zd_at zo_cL_law_0 67 rfl
theorem dL_law_128 : decode cL_law 128 = .ok (.aload_n 2, 1) := zd_at zo_cL_law_0 68 rfl
theorem dL_law_129 : decode cL_law 129 = .ok (.iload 6, 2) := zd_at zo_cL_law_0 69 rfl
theorem dL_law_131 : decode cL_law 131 = .ok (.invokestatic 188, 3) := zd_at zo_cL_law_0 70 rfl
theorem dL_law_134 : decode cL_law 134 = .ok (.ifCond .eq 7, 3) := zd_at zo_cL_law_0 71 rfl
theorem dL_law_137 : decode cL_law 137 = .ok (.iconst 1, 1) := zd_at zo_cL_law_0 72 rfl
theorem dL_law_138 : decode cL_law 138 = .ok (.goto 4, 3) := zd_at zo_cL_law_0 73 rfl
theorem dL_law_141 : decode cL_law 141 = .ok (.iconst 0, 1) := zd_at zo_cL_law_0 74 rfl
theorem dL_law_142 : decode cL_law 142 = .ok (.istore_n 3, 1) := zd_at zo_cL_law_0 75 rfl
theorem dL_law_143 : decode cL_law 143 = .ok (.iload 5, 2) := zd_at zo_cL_law_0 76 rfl
theorem dL_law_145 : decode cL_law 145 = .ok (.i2l, 1) := zd_at zo_cL_law_0 77 rfl
theorem dL_law_146 : decode cL_law 146 = .ok (.ldc2_w 191, 3) := zd_at zo_cL_law_0 78 rfl
theorem dL_law_149 : decode cL_law 149 = .ok (.lmul, 1) := zd_at zo_cL_law_0 79 rfl
theorem dL_law_150 : decode cL_law 150 = .ok (.ldc2_w 193, 3) := zd_at zo_cL_law_0 80 rfl
theorem dL_law_153 : decode cL_law 153 = .ok (.lsub, 1) := zd_at zo_cL_law_0 81 rfl
theorem dL_law_154 : decode cL_law 154 = .ok (.lstore 7, 2) := zd_at zo_cL_law_0 82 rfl
theorem dL_law_156 : decode cL_law 156 = .ok (.aload_n 1, 1) := zd_at zo_cL_law_0 83 rfl
theorem dL_law_157 : decode cL_law 157 = .ok (.lload 7, 2) := zd_at zo_cL_law_0 84 rfl
theorem dL_law_159 : decode cL_law 159 = .ok (.iconst 1, 1) := zd_at zo_cL_law_0 85 rfl
theorem dL_law_160 : decode cL_law 160 = .ok (.iload 6, 2) := zd_at zo_cL_law_0 86 rfl
theorem dL_law_162 : decode cL_law 162 = .ok (.bipush 20, 2) := zd_at zo_cL_law_0 87 rfl
theorem dL_law_164 : decode cL_law 164 = .ok (.irem, 1) := zd_at zo_cL_law_0 88 rfl
theorem dL_law_165 : decode cL_law 165 = .ok (.iadd, 1) := zd_at zo_cL_law_0 89 rfl
theorem dL_law_166 : decode cL_law 166 = .ok (.invokestatic 153, 3) := zd_at zo_cL_law_0 90 rfl
theorem dL_law_169 : decode cL_law 169 = .ok (.istore 9, 2) := zd_at zo_cL_law_0 91 rfl
theorem dL_law_171 : decode cL_law 171 = .ok (.iload_n 3, 1) := zd_at zo_cL_law_0 92 rfl
theorem dL_law_172 : decode cL_law 172 = .ok (.ifCond .eq 62, 3) := zd_at zo_cL_law_0 93 rfl
theorem dL_law_175 : decode cL_law 175 = .ok (.iload 9, 2) := zd_at zo_cL_law_0 94 rfl
theorem dL_law_177 : decode cL_law 177 = .ok (.aload_n 2, 1) := zd_at zo_cL_law_0 95 rfl
theorem dL_law_178 : decode cL_law 178 = .ok (.lload 7, 2) := zd_at zo_cL_law_0 96 rfl
theorem dL_law_180 : decode cL_law 180 = .ok (.iconst 1, 1) := zd_at zo_cL_law_0 97 rfl
theorem dL_law_181 : decode cL_law 181 = .ok (.iload 6, 2) := zd_at zo_cL_law_0 98 rfl
theorem dL_law_183 : decode cL_law 183 = .ok (.bipush 20, 2) := zd_at zo_cL_law_0 99 rfl
theorem dL_law_185 : decode cL_law 185 = .ok (.irem, 1) := zd_at zo_cL_law_0 100 rfl
theorem dL_law_186 : decode cL_law 186 = .ok (.iadd, 1) := zd_at zo_cL_law_0 101 rfl
theorem dL_law_187 : decode cL_law 187 = .ok (.invokestatic 153, 3) := zd_at zo_cL_law_0 102 rfl
theorem dL_law_190 : decode cL_law 190 = .ok (.if_icmp .ne 44, 3) := zd_at zo_cL_law_0 103 rfl
theorem dL_law_193 : decode cL_law 193 = .ok (.aload_n 1, 1) := zd_at zo_cL_law_0 104 rfl
theorem dL_law_194 : decode cL_law 194 = .ok (.iconst 2, 1) := zd_at zo_cL_law_0 105 rfl
theorem dL_law_195 : decode cL_law 195 = .ok (.iload 6, 2) := zd_at zo_cL_law_0 106 rfl
theorem dL_law_197 : decode cL_law 197 = .ok (.i2l, 1) := zd_at zo_cL_law_0 107 rfl
theorem dL_law_198 : decode cL_law 198 = .ok (.ldc2_w 195, 3) := zd_at zo_cL_law_0 108 rfl
theorem dL_law_201 : decode cL_law 201 = .ok (.lmul, 1) := zd_at zo_cL_law_0 109 rfl
theorem dL_law_202 : decode cL_law 202 = .ok (.invokestatic 145, 3) := zd_at zo_cL_law_0 110 rfl
theorem dL_law_205 : decode cL_law 205 = .ok (.aload_n 2, 1) := zd_at zo_cL_law_0 111 rfl
theorem dL_law_206 : decode cL_law 206 = .ok (.iconst 2, 1) := zd_at zo_cL_law_0 112 rfl
theorem dL_law_207 : decode cL_law 207 = .ok (.iload 6, 2) := zd_at zo_cL_law_0 113 rfl
theorem dL_law_209 : decode cL_law 209 = .ok (.i2l, 1) := zd_at zo_cL_law_0 114 rfl
theorem dL_law_210 : decode cL_law 210 = .ok (.ldc2_w 195, 3) := zd_at zo_cL_law_0 115 rfl
theorem dL_law_213 : decode cL_law 213 = .ok (.lmul, 1) := zd_at zo_cL_law_0 116 rfl
theorem dL_law_214 : decode cL_law 214 = .ok (.invokestatic 145, 3) := zd_at zo_cL_law_0 117 rfl
theorem dL_law_217 : decode cL_law 217 = .ok (.if_icmp .ne 17, 3) := zd_at zo_cL_law_0 118 rfl
theorem dL_law_220 : decode cL_law 220 = .ok (.aload_n 1, 1) := zd_at zo_cL_law_0 119 rfl
def zl_cL_law_120 : List (Nat × Instr × Nat) := [(221, .aload_n 2, 1), (222, .iload 6, 2), (224, .invokestatic 184, 3), (227, .ifCond .eq 7, 3), (230, .iconst 1, 1), (231, .goto 4, 3), (234, .iconst 0, 1), (235, .istore_n 3, 1), (236, .iinc 4 1, 3), (239, .goto (-218), 3), (242, .iload_n 3, 1), (243, .ireturn, 1)]
theorem zo_cL_law_120 : zd_ok cL_law zl_cL_law_120 = true := by decide +kernel
theorem dL_law_221 : decode cL_law 221 = .ok (.aload_n 2, 1) := zd_at zo_cL_law_120 0 rfl
theorem dL_law_222 : decode cL_law 222 = .ok (.iload 6, 2) := zd_at zo_cL_law_120 1 rfl
theorem dL_law_224 : decode cL_law 224 = .ok (.invokestatic 184, 3) := zd_at zo_cL_law_120 2 rfl
theorem dL_law_227 : decode cL_law 227 = .ok (.ifCond .eq 7, 3) := zd_at zo_cL_law_120 3 rfl
theorem dL_law_230 : decode cL_law 230 = .ok (.iconst 1, 1) := zd_at zo_cL_law_120 4 rfl
theorem dL_law_231 : decode cL_law 231 = .ok (.goto 4, 3) := zd_at zo_cL_law_120 5 rfl
theorem dL_law_234 : decode cL_law 234 = .ok (.iconst 0, 1) := zd_at zo_cL_law_120 6 rfl
theorem dL_law_235 : decode cL_law 235 = .ok (.istore_n 3, 1) := zd_at zo_cL_law_120 7 rfl
theorem dL_law_236 : decode cL_law 236 = .ok (.iinc 4 1, 3) := zd_at zo_cL_law_120 8 rfl
theorem dL_law_239 : decode cL_law 239 = .ok (.goto (-218), 3) := zd_at zo_cL_law_120 9 rfl
theorem dL_law_242 : decode cL_law 242 = .ok (.iload_n 3, 1) := zd_at zo_cL_law_120 10 rfl
theorem dL_law_243 : decode cL_law 243 = .ok (.ireturn, 1) := zd_at zo_cL_law_120 11 rfl
