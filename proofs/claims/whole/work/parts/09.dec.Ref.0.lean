def tab_Ref_init_c0 : List (Nat × Instr × Nat) := [(0, .aload_n 0, 1), (1, .invokespecial 1, 3), (4, .aload_n 0, 1), (5, .bipush 16, 2), (7, .newarray .int, 2), (9, .putfield 7, 3), (12, .aload_n 0, 1), (13, .bipush 20, 2), (15, .newarray .int, 2), (17, .putfield 13, 3), (20, .aload_n 0, 1), (21, .bipush 20, 2), (23, .newarray .int, 2), (25, .putfield 16, 3), (28, .aload_n 0, 1), (29, .iconst 4, 1), (30, .newarray .boolean, 2), (32, .putfield 19, 3), (35, .aload_n 0, 1), (36, .iconst 4, 1), (37, .newarray .int, 2), (39, .putfield 23, 3), (42, .aload_n 0, 1), (43, .iconst 4, 1)]
theorem dt_Ref_init_c0 (i : Nat) : decode (jm_cod M_Ref_init) (tab_Ref_init_c0.getD i (0, .aload_n 0, 1)).1 = .ok ((tab_Ref_init_c0.getD i (0, .aload_n 0, 1)).2.1, (tab_Ref_init_c0.getD i (0, .aload_n 0, 1)).2.2) := j_tab (by decide +kernel) i
theorem d_Ref_init_0 : decode (jm_cod M_Ref_init) 0 = .ok (.aload_n 0, 1) := dt_Ref_init_c0 0
theorem d_Ref_init_1 : decode (jm_cod M_Ref_init) 1 = .ok (.invokespecial 1, 3) := dt_Ref_init_c0 1
theorem d_Ref_init_4 : decode (jm_cod M_Ref_init) 4 = .ok (.aload_n 0, 1) := dt_Ref_init_c0 2
theorem d_Ref_init_5 : decode (jm_cod M_Ref_init) 5 = .ok (.bipush 16, 2) := dt_Ref_init_c0 3
theorem d_Ref_init_7 : decode (jm_cod M_Ref_init) 7 = .ok (.newarray .int, 2) := dt_Ref_init_c0 4
theorem d_Ref_init_9 : decode (jm_cod M_Ref_init) 9 = .ok (.putfield 7, 3) := dt_Ref_init_c0 5
theorem d_Ref_init_12 : decode (jm_cod M_Ref_init) 12 = .ok (.aload_n 0, 1) := dt_Ref_init_c0 6
theorem d_Ref_init_13 : decode (jm_cod M_Ref_init) 13 = .ok (.bipush 20, 2) := dt_Ref_init_c0 7
theorem d_Ref_init_15 : decode (jm_cod M_Ref_init) 15 = .ok (.newarray .int, 2) := dt_Ref_init_c0 8
theorem d_Ref_init_17 : decode (jm_cod M_Ref_init) 17 = .ok (.putfield 13, 3) := dt_Ref_init_c0 9
theorem d_Ref_init_20 : decode (jm_cod M_Ref_init) 20 = .ok (.aload_n 0, 1) := dt_Ref_init_c0 10
theorem d_Ref_init_21 : decode (jm_cod M_Ref_init) 21 = .ok (.bipush 20, 2) := dt_Ref_init_c0 11
theorem d_Ref_init_23 : decode (jm_cod M_Ref_init) 23 = .ok (.newarray .int, 2) := dt_Ref_init_c0 12
theorem d_Ref_init_25 : decode (jm_cod M_Ref_init) 25 = .ok (.putfield 16, 3) := dt_Ref_init_c0 13
theorem d_Ref_init_28 : decode (jm_cod M_Ref_init) 28 = .ok (.aload_n 0, 1) := dt_Ref_init_c0 14
theorem d_Ref_init_29 : decode (jm_cod M_Ref_init) 29 = .ok (.iconst 4, 1) := dt_Ref_init_c0 15
theorem d_Ref_init_30 : decode (jm_cod M_Ref_init) 30 = .ok (.newarray .boolean, 2) := dt_Ref_init_c0 16
theorem d_Ref_init_32 : decode (jm_cod M_Ref_init) 32 = .ok (.putfield 19, 3) := dt_Ref_init_c0 17
theorem d_Ref_init_35 : decode (jm_cod M_Ref_init) 35 = .ok (.aload_n 0, 1) := dt_Ref_init_c0 18
theorem d_Ref_init_36 : decode (jm_cod M_Ref_init) 36 = .ok (.iconst 4, 1) := dt_Ref_init_c0 19
theorem d_Ref_init_37 : decode (jm_cod M_Ref_init) 37 = .ok (.newarray .int, 2) := dt_Ref_init_c0 20
theorem d_Ref_init_39 : decode (jm_cod M_Ref_init) 39 = .ok (.putfield 23, 3) := dt_Ref_init_c0 21
theorem d_Ref_init_42 : decode (jm_cod M_Ref_init) 42 = .ok (.aload_n 0, 1) := dt_Ref_init_c0 22
theorem d_Ref_init_43 : decode (jm_cod M_Ref_init) 43 = .ok (.iconst 4, 1) := dt_Ref_init_c0 23
def tab_Ref_init_c1 : List (Nat × Instr × Nat) := [(44, .newarray .int, 2), (46, .putfield 26, 3), (49, .aload_n 0, 1), (50, .ldc 29, 2), (52, .newarray .int, 2), (54, .putfield 30, 3), (57, .aload_n 0, 1), (58, .ldc 29, 2), (60, .newarray .boolean, 2), (62, .putfield 33, 3), (65, .aload_n 0, 1), (66, .bipush 64, 2), (68, .newarray .int, 2), (70, .putfield 36, 3), (73, .aload_n 0, 1), (74, .bipush 64, 2), (76, .newarray .int, 2), (78, .putfield 39, 3), (81, .aload_n 0, 1), (82, .bipush 64, 2), (84, .newarray .int, 2), (86, .putfield 42, 3), (89, .aload_n 0, 1), (90, .bipush 64, 2)]
theorem dt_Ref_init_c1 (i : Nat) : decode (jm_cod M_Ref_init) (tab_Ref_init_c1.getD i (44, .newarray .int, 2)).1 = .ok ((tab_Ref_init_c1.getD i (44, .newarray .int, 2)).2.1, (tab_Ref_init_c1.getD i (44, .newarray .int, 2)).2.2) := j_tab (by decide +kernel) i
theorem d_Ref_init_44 : decode (jm_cod M_Ref_init) 44 = .ok (.newarray .int, 2) := dt_Ref_init_c1 0
theorem d_Ref_init_46 : decode (jm_cod M_Ref_init) 46 = .ok (.putfield 26, 3) := dt_Ref_init_c1 1
theorem d_Ref_init_49 : decode (jm_cod M_Ref_init) 49 = .ok (.aload_n 0, 1) := dt_Ref_init_c1 2
theorem d_Ref_init_50 : decode (jm_cod M_Ref_init) 50 = .ok (.ldc 29, 2) := dt_Ref_init_c1 3
theorem d_Ref_init_52 : decode (jm_cod M_Ref_init) 52 = .ok (.newarray .int, 2) := dt_Ref_init_c1 4
theorem d_Ref_init_54 : decode (jm_cod M_Ref_init) 54 = .ok (.putfield 30, 3) := dt_Ref_init_c1 5
theorem d_Ref_init_57 : decode (jm_cod M_Ref_init) 57 = .ok (.aload_n 0, 1) := dt_Ref_init_c1 6
theorem d_Ref_init_58 : decode (jm_cod M_Ref_init) 58 = .ok (.ldc 29, 2) := dt_Ref_init_c1 7
theorem d_Ref_init_60 : decode (jm_cod M_Ref_init) 60 = .ok (.newarray .boolean, 2) := dt_Ref_init_c1 8
theorem d_Ref_init_62 : decode (jm_cod M_Ref_init) 62 = .ok (.putfield 33, 3) := dt_Ref_init_c1 9
theorem d_Ref_init_65 : decode (jm_cod M_Ref_init) 65 = .ok (.aload_n 0, 1) := dt_Ref_init_c1 10
theorem d_Ref_init_66 : decode (jm_cod M_Ref_init) 66 = .ok (.bipush 64, 2) := dt_Ref_init_c1 11
theorem d_Ref_init_68 : decode (jm_cod M_Ref_init) 68 = .ok (.newarray .int, 2) := dt_Ref_init_c1 12
theorem d_Ref_init_70 : decode (jm_cod M_Ref_init) 70 = .ok (.putfield 36, 3) := dt_Ref_init_c1 13
theorem d_Ref_init_73 : decode (jm_cod M_Ref_init) 73 = .ok (.aload_n 0, 1) := dt_Ref_init_c1 14
theorem d_Ref_init_74 : decode (jm_cod M_Ref_init) 74 = .ok (.bipush 64, 2) := dt_Ref_init_c1 15
theorem d_Ref_init_76 : decode (jm_cod M_Ref_init) 76 = .ok (.newarray .int, 2) := dt_Ref_init_c1 16
theorem d_Ref_init_78 : decode (jm_cod M_Ref_init) 78 = .ok (.putfield 39, 3) := dt_Ref_init_c1 17
theorem d_Ref_init_81 : decode (jm_cod M_Ref_init) 81 = .ok (.aload_n 0, 1) := dt_Ref_init_c1 18
theorem d_Ref_init_82 : decode (jm_cod M_Ref_init) 82 = .ok (.bipush 64, 2) := dt_Ref_init_c1 19
theorem d_Ref_init_84 : decode (jm_cod M_Ref_init) 84 = .ok (.newarray .int, 2) := dt_Ref_init_c1 20
theorem d_Ref_init_86 : decode (jm_cod M_Ref_init) 86 = .ok (.putfield 42, 3) := dt_Ref_init_c1 21
theorem d_Ref_init_89 : decode (jm_cod M_Ref_init) 89 = .ok (.aload_n 0, 1) := dt_Ref_init_c1 22
theorem d_Ref_init_90 : decode (jm_cod M_Ref_init) 90 = .ok (.bipush 64, 2) := dt_Ref_init_c1 23
def tab_Ref_init_c2 : List (Nat × Instr × Nat) := [(92, .newarray .int, 2), (94, .putfield 45, 3), (97, .aload_n 0, 1), (98, .bipush 64, 2), (100, .newarray .boolean, 2), (102, .putfield 48, 3), (105, .aload_n 0, 1), (106, .bipush 64, 2), (108, .newarray .boolean, 2), (110, .putfield 51, 3), (113, .aload_n 0, 1), (114, .bipush 64, 2), (116, .newarray .boolean, 2), (118, .putfield 54, 3), (121, .aload_n 0, 1), (122, .bipush 64, 2), (124, .newarray .int, 2), (126, .putfield 57, 3), (129, .aload_n 0, 1), (130, .bipush 64, 2), (132, .newarray .int, 2), (134, .putfield 60, 3), (137, .aload_n 0, 1), (138, .bipush 64, 2)]
theorem dt_Ref_init_c2 (i : Nat) : decode (jm_cod M_Ref_init) (tab_Ref_init_c2.getD i (92, .newarray .int, 2)).1 = .ok ((tab_Ref_init_c2.getD i (92, .newarray .int, 2)).2.1, (tab_Ref_init_c2.getD i (92, .newarray .int, 2)).2.2) := j_tab (by decide +kernel) i
theorem d_Ref_init_92 : decode (jm_cod M_Ref_init) 92 = .ok (.newarray .int, 2) := dt_Ref_init_c2 0
theorem d_Ref_init_94 : decode (jm_cod M_Ref_init) 94 = .ok (.putfield 45, 3) := dt_Ref_init_c2 1
theorem d_Ref_init_97 : decode (jm_cod M_Ref_init) 97 = .ok (.aload_n 0, 1) := dt_Ref_init_c2 2
theorem d_Ref_init_98 : decode (jm_cod M_Ref_init) 98 = .ok (.bipush 64, 2) := dt_Ref_init_c2 3
theorem d_Ref_init_100 : decode (jm_cod M_Ref_init) 100 = .ok (.newarray .boolean, 2) := dt_Ref_init_c2 4
theorem d_Ref_init_102 : decode (jm_cod M_Ref_init) 102 = .ok (.putfield 48, 3) := dt_Ref_init_c2 5
theorem d_Ref_init_105 : decode (jm_cod M_Ref_init) 105 = .ok (.aload_n 0, 1) := dt_Ref_init_c2 6
theorem d_Ref_init_106 : decode (jm_cod M_Ref_init) 106 = .ok (.bipush 64, 2) := dt_Ref_init_c2 7
theorem d_Ref_init_108 : decode (jm_cod M_Ref_init) 108 = .ok (.newarray .boolean, 2) := dt_Ref_init_c2 8
theorem d_Ref_init_110 : decode (jm_cod M_Ref_init) 110 = .ok (.putfield 51, 3) := dt_Ref_init_c2 9
theorem d_Ref_init_113 : decode (jm_cod M_Ref_init) 113 = .ok (.aload_n 0, 1) := dt_Ref_init_c2 10
theorem d_Ref_init_114 : decode (jm_cod M_Ref_init) 114 = .ok (.bipush 64, 2) := dt_Ref_init_c2 11
theorem d_Ref_init_116 : decode (jm_cod M_Ref_init) 116 = .ok (.newarray .boolean, 2) := dt_Ref_init_c2 12
theorem d_Ref_init_118 : decode (jm_cod M_Ref_init) 118 = .ok (.putfield 54, 3) := dt_Ref_init_c2 13
theorem d_Ref_init_121 : decode (jm_cod M_Ref_init) 121 = .ok (.aload_n 0, 1) := dt_Ref_init_c2 14
theorem d_Ref_init_122 : decode (jm_cod M_Ref_init) 122 = .ok (.bipush 64, 2) := dt_Ref_init_c2 15
theorem d_Ref_init_124 : decode (jm_cod M_Ref_init) 124 = .ok (.newarray .int, 2) := dt_Ref_init_c2 16
theorem d_Ref_init_126 : decode (jm_cod M_Ref_init) 126 = .ok (.putfield 57, 3) := dt_Ref_init_c2 17
theorem d_Ref_init_129 : decode (jm_cod M_Ref_init) 129 = .ok (.aload_n 0, 1) := dt_Ref_init_c2 18
theorem d_Ref_init_130 : decode (jm_cod M_Ref_init) 130 = .ok (.bipush 64, 2) := dt_Ref_init_c2 19
theorem d_Ref_init_132 : decode (jm_cod M_Ref_init) 132 = .ok (.newarray .int, 2) := dt_Ref_init_c2 20
theorem d_Ref_init_134 : decode (jm_cod M_Ref_init) 134 = .ok (.putfield 60, 3) := dt_Ref_init_c2 21
theorem d_Ref_init_137 : decode (jm_cod M_Ref_init) 137 = .ok (.aload_n 0, 1) := dt_Ref_init_c2 22
theorem d_Ref_init_138 : decode (jm_cod M_Ref_init) 138 = .ok (.bipush 64, 2) := dt_Ref_init_c2 23
def tab_Ref_init_c3 : List (Nat × Instr × Nat) := [(140, .newarray .int, 2), (142, .putfield 63, 3), (145, .aload_n 0, 1), (146, .bipush 64, 2), (148, .newarray .long, 2), (150, .putfield 66, 3), (153, .aload_n 0, 1), (154, .bipush 64, 2), (156, .newarray .int, 2), (158, .putfield 70, 3), (161, .aload_n 0, 1), (162, .bipush 64, 2), (164, .newarray .int, 2), (166, .putfield 73, 3), (169, .aload_n 0, 1), (170, .bipush 64, 2), (172, .newarray .int, 2), (174, .putfield 76, 3), (177, .aload_n 0, 1), (178, .bipush 64, 2), (180, .newarray .int, 2), (182, .putfield 79, 3), (185, .aload_n 0, 1), (186, .bipush 64, 2)]
theorem dt_Ref_init_c3 (i : Nat) : decode (jm_cod M_Ref_init) (tab_Ref_init_c3.getD i (140, .newarray .int, 2)).1 = .ok ((tab_Ref_init_c3.getD i (140, .newarray .int, 2)).2.1, (tab_Ref_init_c3.getD i (140, .newarray .int, 2)).2.2) := j_tab (by decide +kernel) i
theorem d_Ref_init_140 : decode (jm_cod M_Ref_init) 140 = .ok (.newarray .int, 2) := dt_Ref_init_c3 0
theorem d_Ref_init_142 : decode (jm_cod M_Ref_init) 142 = .ok (.putfield 63, 3) := dt_Ref_init_c3 1
theorem d_Ref_init_145 : decode (jm_cod M_Ref_init) 145 = .ok (.aload_n 0, 1) := dt_Ref_init_c3 2
theorem d_Ref_init_146 : decode (jm_cod M_Ref_init) 146 = .ok (.bipush 64, 2) := dt_Ref_init_c3 3
theorem d_Ref_init_148 : decode (jm_cod M_Ref_init) 148 = .ok (.newarray .long, 2) := dt_Ref_init_c3 4
theorem d_Ref_init_150 : decode (jm_cod M_Ref_init) 150 = .ok (.putfield 66, 3) := dt_Ref_init_c3 5
theorem d_Ref_init_153 : decode (jm_cod M_Ref_init) 153 = .ok (.aload_n 0, 1) := dt_Ref_init_c3 6
theorem d_Ref_init_154 : decode (jm_cod M_Ref_init) 154 = .ok (.bipush 64, 2) := dt_Ref_init_c3 7
theorem d_Ref_init_156 : decode (jm_cod M_Ref_init) 156 = .ok (.newarray .int, 2) := dt_Ref_init_c3 8
theorem d_Ref_init_158 : decode (jm_cod M_Ref_init) 158 = .ok (.putfield 70, 3) := dt_Ref_init_c3 9
theorem d_Ref_init_161 : decode (jm_cod M_Ref_init) 161 = .ok (.aload_n 0, 1) := dt_Ref_init_c3 10
theorem d_Ref_init_162 : decode (jm_cod M_Ref_init) 162 = .ok (.bipush 64, 2) := dt_Ref_init_c3 11
theorem d_Ref_init_164 : decode (jm_cod M_Ref_init) 164 = .ok (.newarray .int, 2) := dt_Ref_init_c3 12
theorem d_Ref_init_166 : decode (jm_cod M_Ref_init) 166 = .ok (.putfield 73, 3) := dt_Ref_init_c3 13
theorem d_Ref_init_169 : decode (jm_cod M_Ref_init) 169 = .ok (.aload_n 0, 1) := dt_Ref_init_c3 14
theorem d_Ref_init_170 : decode (jm_cod M_Ref_init) 170 = .ok (.bipush 64, 2) := dt_Ref_init_c3 15
theorem d_Ref_init_172 : decode (jm_cod M_Ref_init) 172 = .ok (.newarray .int, 2) := dt_Ref_init_c3 16
theorem d_Ref_init_174 : decode (jm_cod M_Ref_init) 174 = .ok (.putfield 76, 3) := dt_Ref_init_c3 17
theorem d_Ref_init_177 : decode (jm_cod M_Ref_init) 177 = .ok (.aload_n 0, 1) := dt_Ref_init_c3 18
theorem d_Ref_init_178 : decode (jm_cod M_Ref_init) 178 = .ok (.bipush 64, 2) := dt_Ref_init_c3 19
theorem d_Ref_init_180 : decode (jm_cod M_Ref_init) 180 = .ok (.newarray .int, 2) := dt_Ref_init_c3 20
theorem d_Ref_init_182 : decode (jm_cod M_Ref_init) 182 = .ok (.putfield 79, 3) := dt_Ref_init_c3 21
theorem d_Ref_init_185 : decode (jm_cod M_Ref_init) 185 = .ok (.aload_n 0, 1) := dt_Ref_init_c3 22
theorem d_Ref_init_186 : decode (jm_cod M_Ref_init) 186 = .ok (.bipush 64, 2) := dt_Ref_init_c3 23
def tab_Ref_init_c4 : List (Nat × Instr × Nat) := [(188, .newarray .int, 2), (190, .putfield 82, 3), (193, .aload_n 0, 1), (194, .sipush 1024, 3), (197, .newarray .long, 2), (199, .putfield 85, 3), (202, .aload_n 0, 1), (203, .bipush 40, 2), (205, .newarray .boolean, 2), (207, .putfield 88, 3), (210, .aload_n 0, 1), (211, .bipush 40, 2), (213, .newarray .boolean, 2), (215, .putfield 91, 3), (218, .aload_n 0, 1), (219, .bipush 40, 2), (221, .newarray .long, 2), (223, .putfield 94, 3), (226, .aload_n 0, 1), (227, .bipush 40, 2), (229, .newarray .int, 2), (231, .putfield 97, 3), (234, .aload_n 0, 1), (235, .bipush 40, 2)]
theorem dt_Ref_init_c4 (i : Nat) : decode (jm_cod M_Ref_init) (tab_Ref_init_c4.getD i (188, .newarray .int, 2)).1 = .ok ((tab_Ref_init_c4.getD i (188, .newarray .int, 2)).2.1, (tab_Ref_init_c4.getD i (188, .newarray .int, 2)).2.2) := j_tab (by decide +kernel) i
theorem d_Ref_init_188 : decode (jm_cod M_Ref_init) 188 = .ok (.newarray .int, 2) := dt_Ref_init_c4 0
theorem d_Ref_init_190 : decode (jm_cod M_Ref_init) 190 = .ok (.putfield 82, 3) := dt_Ref_init_c4 1
theorem d_Ref_init_193 : decode (jm_cod M_Ref_init) 193 = .ok (.aload_n 0, 1) := dt_Ref_init_c4 2
theorem d_Ref_init_194 : decode (jm_cod M_Ref_init) 194 = .ok (.sipush 1024, 3) := dt_Ref_init_c4 3
theorem d_Ref_init_197 : decode (jm_cod M_Ref_init) 197 = .ok (.newarray .long, 2) := dt_Ref_init_c4 4
theorem d_Ref_init_199 : decode (jm_cod M_Ref_init) 199 = .ok (.putfield 85, 3) := dt_Ref_init_c4 5
theorem d_Ref_init_202 : decode (jm_cod M_Ref_init) 202 = .ok (.aload_n 0, 1) := dt_Ref_init_c4 6
theorem d_Ref_init_203 : decode (jm_cod M_Ref_init) 203 = .ok (.bipush 40, 2) := dt_Ref_init_c4 7
theorem d_Ref_init_205 : decode (jm_cod M_Ref_init) 205 = .ok (.newarray .boolean, 2) := dt_Ref_init_c4 8
theorem d_Ref_init_207 : decode (jm_cod M_Ref_init) 207 = .ok (.putfield 88, 3) := dt_Ref_init_c4 9
theorem d_Ref_init_210 : decode (jm_cod M_Ref_init) 210 = .ok (.aload_n 0, 1) := dt_Ref_init_c4 10
theorem d_Ref_init_211 : decode (jm_cod M_Ref_init) 211 = .ok (.bipush 40, 2) := dt_Ref_init_c4 11
theorem d_Ref_init_213 : decode (jm_cod M_Ref_init) 213 = .ok (.newarray .boolean, 2) := dt_Ref_init_c4 12
theorem d_Ref_init_215 : decode (jm_cod M_Ref_init) 215 = .ok (.putfield 91, 3) := dt_Ref_init_c4 13
theorem d_Ref_init_218 : decode (jm_cod M_Ref_init) 218 = .ok (.aload_n 0, 1) := dt_Ref_init_c4 14
theorem d_Ref_init_219 : decode (jm_cod M_Ref_init) 219 = .ok (.bipush 40, 2) := dt_Ref_init_c4 15
theorem d_Ref_init_221 : decode (jm_cod M_Ref_init) 221 = .ok (.newarray .long, 2) := dt_Ref_init_c4 16
theorem d_Ref_init_223 : decode (jm_cod M_Ref_init) 223 = .ok (.putfield 94, 3) := dt_Ref_init_c4 17
theorem d_Ref_init_226 : decode (jm_cod M_Ref_init) 226 = .ok (.aload_n 0, 1) := dt_Ref_init_c4 18
theorem d_Ref_init_227 : decode (jm_cod M_Ref_init) 227 = .ok (.bipush 40, 2) := dt_Ref_init_c4 19
theorem d_Ref_init_229 : decode (jm_cod M_Ref_init) 229 = .ok (.newarray .int, 2) := dt_Ref_init_c4 20
theorem d_Ref_init_231 : decode (jm_cod M_Ref_init) 231 = .ok (.putfield 97, 3) := dt_Ref_init_c4 21
theorem d_Ref_init_234 : decode (jm_cod M_Ref_init) 234 = .ok (.aload_n 0, 1) := dt_Ref_init_c4 22
theorem d_Ref_init_235 : decode (jm_cod M_Ref_init) 235 = .ok (.bipush 40, 2) := dt_Ref_init_c4 23
def tab_Ref_init_c5 : List (Nat × Instr × Nat) := [(237, .newarray .boolean, 2), (239, .putfield 100, 3), (242, .aload_n 0, 1), (243, .bipush 40, 2), (245, .newarray .int, 2), (247, .putfield 103, 3), (250, .aload_n 0, 1), (251, .sipush 180, 3), (254, .newarray .long, 2), (256, .putfield 106, 3), (259, .aload_n 0, 1), (260, .sipush 180, 3), (263, .newarray .int, 2), (265, .putfield 109, 3), (268, .aload_n 0, 1), (269, .sipush 180, 3), (272, .newarray .int, 2), (274, .putfield 112, 3), (277, .aload_n 0, 1), (278, .bipush 45, 2), (280, .newarray .int, 2), (282, .putfield 115, 3), (285, .aload_n 0, 1), (286, .bipush 40, 2)]
theorem dt_Ref_init_c5 (i : Nat) : decode (jm_cod M_Ref_init) (tab_Ref_init_c5.getD i (237, .newarray .boolean, 2)).1 = .ok ((tab_Ref_init_c5.getD i (237, .newarray .boolean, 2)).2.1, (tab_Ref_init_c5.getD i (237, .newarray .boolean, 2)).2.2) := j_tab (by decide +kernel) i
theorem d_Ref_init_237 : decode (jm_cod M_Ref_init) 237 = .ok (.newarray .boolean, 2) := dt_Ref_init_c5 0
theorem d_Ref_init_239 : decode (jm_cod M_Ref_init) 239 = .ok (.putfield 100, 3) := dt_Ref_init_c5 1
theorem d_Ref_init_242 : decode (jm_cod M_Ref_init) 242 = .ok (.aload_n 0, 1) := dt_Ref_init_c5 2
theorem d_Ref_init_243 : decode (jm_cod M_Ref_init) 243 = .ok (.bipush 40, 2) := dt_Ref_init_c5 3
theorem d_Ref_init_245 : decode (jm_cod M_Ref_init) 245 = .ok (.newarray .int, 2) := dt_Ref_init_c5 4
theorem d_Ref_init_247 : decode (jm_cod M_Ref_init) 247 = .ok (.putfield 103, 3) := dt_Ref_init_c5 5
theorem d_Ref_init_250 : decode (jm_cod M_Ref_init) 250 = .ok (.aload_n 0, 1) := dt_Ref_init_c5 6
theorem d_Ref_init_251 : decode (jm_cod M_Ref_init) 251 = .ok (.sipush 180, 3) := dt_Ref_init_c5 7
theorem d_Ref_init_254 : decode (jm_cod M_Ref_init) 254 = .ok (.newarray .long, 2) := dt_Ref_init_c5 8
theorem d_Ref_init_256 : decode (jm_cod M_Ref_init) 256 = .ok (.putfield 106, 3) := dt_Ref_init_c5 9
theorem d_Ref_init_259 : decode (jm_cod M_Ref_init) 259 = .ok (.aload_n 0, 1) := dt_Ref_init_c5 10
theorem d_Ref_init_260 : decode (jm_cod M_Ref_init) 260 = .ok (.sipush 180, 3) := dt_Ref_init_c5 11
theorem d_Ref_init_263 : decode (jm_cod M_Ref_init) 263 = .ok (.newarray .int, 2) := dt_Ref_init_c5 12
theorem d_Ref_init_265 : decode (jm_cod M_Ref_init) 265 = .ok (.putfield 109, 3) := dt_Ref_init_c5 13
theorem d_Ref_init_268 : decode (jm_cod M_Ref_init) 268 = .ok (.aload_n 0, 1) := dt_Ref_init_c5 14
theorem d_Ref_init_269 : decode (jm_cod M_Ref_init) 269 = .ok (.sipush 180, 3) := dt_Ref_init_c5 15
theorem d_Ref_init_272 : decode (jm_cod M_Ref_init) 272 = .ok (.newarray .int, 2) := dt_Ref_init_c5 16
theorem d_Ref_init_274 : decode (jm_cod M_Ref_init) 274 = .ok (.putfield 112, 3) := dt_Ref_init_c5 17
theorem d_Ref_init_277 : decode (jm_cod M_Ref_init) 277 = .ok (.aload_n 0, 1) := dt_Ref_init_c5 18
theorem d_Ref_init_278 : decode (jm_cod M_Ref_init) 278 = .ok (.bipush 45, 2) := dt_Ref_init_c5 19
theorem d_Ref_init_280 : decode (jm_cod M_Ref_init) 280 = .ok (.newarray .int, 2) := dt_Ref_init_c5 20
theorem d_Ref_init_282 : decode (jm_cod M_Ref_init) 282 = .ok (.putfield 115, 3) := dt_Ref_init_c5 21
theorem d_Ref_init_285 : decode (jm_cod M_Ref_init) 285 = .ok (.aload_n 0, 1) := dt_Ref_init_c5 22
theorem d_Ref_init_286 : decode (jm_cod M_Ref_init) 286 = .ok (.bipush 40, 2) := dt_Ref_init_c5 23
def tab_Ref_init_c6 : List (Nat × Instr × Nat) := [(288, .newarray .int, 2), (290, .putfield 118, 3), (293, .aload_n 0, 1), (294, .bipush 40, 2), (296, .newarray .int, 2), (298, .putfield 121, 3), (301, .aload_n 0, 1), (302, .bipush 40, 2), (304, .newarray .int, 2), (306, .putfield 124, 3), (309, .aload_n 0, 1), (310, .bipush 40, 2), (312, .newarray .int, 2), (314, .putfield 127, 3), (317, .aload_n 0, 1), (318, .bipush 40, 2), (320, .newarray .int, 2), (322, .putfield 130, 3), (325, .aload_n 0, 1), (326, .bipush 40, 2), (328, .newarray .int, 2), (330, .putfield 133, 3), (333, .aload_n 0, 1), (334, .bipush 40, 2)]
theorem dt_Ref_init_c6 (i : Nat) : decode (jm_cod M_Ref_init) (tab_Ref_init_c6.getD i (288, .newarray .int, 2)).1 = .ok ((tab_Ref_init_c6.getD i (288, .newarray .int, 2)).2.1, (tab_Ref_init_c6.getD i (288, .newarray .int, 2)).2.2) := j_tab (by decide +kernel) i
theorem d_Ref_init_288 : decode (jm_cod M_Ref_init) 288 = .ok (.newarray .int, 2) := dt_Ref_init_c6 0
theorem d_Ref_init_290 : decode (jm_cod M_Ref_init) 290 = .ok (.putfield 118, 3) := dt_Ref_init_c6 1
theorem d_Ref_init_293 : decode (jm_cod M_Ref_init) 293 = .ok (.aload_n 0, 1) := dt_Ref_init_c6 2
theorem d_Ref_init_294 : decode (jm_cod M_Ref_init) 294 = .ok (.bipush 40, 2) := dt_Ref_init_c6 3
theorem d_Ref_init_296 : decode (jm_cod M_Ref_init) 296 = .ok (.newarray .int, 2) := dt_Ref_init_c6 4
theorem d_Ref_init_298 : decode (jm_cod M_Ref_init) 298 = .ok (.putfield 121, 3) := dt_Ref_init_c6 5
theorem d_Ref_init_301 : decode (jm_cod M_Ref_init) 301 = .ok (.aload_n 0, 1) := dt_Ref_init_c6 6
theorem d_Ref_init_302 : decode (jm_cod M_Ref_init) 302 = .ok (.bipush 40, 2) := dt_Ref_init_c6 7
theorem d_Ref_init_304 : decode (jm_cod M_Ref_init) 304 = .ok (.newarray .int, 2) := dt_Ref_init_c6 8
theorem d_Ref_init_306 : decode (jm_cod M_Ref_init) 306 = .ok (.putfield 124, 3) := dt_Ref_init_c6 9
theorem d_Ref_init_309 : decode (jm_cod M_Ref_init) 309 = .ok (.aload_n 0, 1) := dt_Ref_init_c6 10
theorem d_Ref_init_310 : decode (jm_cod M_Ref_init) 310 = .ok (.bipush 40, 2) := dt_Ref_init_c6 11
theorem d_Ref_init_312 : decode (jm_cod M_Ref_init) 312 = .ok (.newarray .int, 2) := dt_Ref_init_c6 12
theorem d_Ref_init_314 : decode (jm_cod M_Ref_init) 314 = .ok (.putfield 127, 3) := dt_Ref_init_c6 13
theorem d_Ref_init_317 : decode (jm_cod M_Ref_init) 317 = .ok (.aload_n 0, 1) := dt_Ref_init_c6 14
theorem d_Ref_init_318 : decode (jm_cod M_Ref_init) 318 = .ok (.bipush 40, 2) := dt_Ref_init_c6 15
theorem d_Ref_init_320 : decode (jm_cod M_Ref_init) 320 = .ok (.newarray .int, 2) := dt_Ref_init_c6 16
theorem d_Ref_init_322 : decode (jm_cod M_Ref_init) 322 = .ok (.putfield 130, 3) := dt_Ref_init_c6 17
theorem d_Ref_init_325 : decode (jm_cod M_Ref_init) 325 = .ok (.aload_n 0, 1) := dt_Ref_init_c6 18
theorem d_Ref_init_326 : decode (jm_cod M_Ref_init) 326 = .ok (.bipush 40, 2) := dt_Ref_init_c6 19
theorem d_Ref_init_328 : decode (jm_cod M_Ref_init) 328 = .ok (.newarray .int, 2) := dt_Ref_init_c6 20
theorem d_Ref_init_330 : decode (jm_cod M_Ref_init) 330 = .ok (.putfield 133, 3) := dt_Ref_init_c6 21
theorem d_Ref_init_333 : decode (jm_cod M_Ref_init) 333 = .ok (.aload_n 0, 1) := dt_Ref_init_c6 22
theorem d_Ref_init_334 : decode (jm_cod M_Ref_init) 334 = .ok (.bipush 40, 2) := dt_Ref_init_c6 23
def tab_Ref_init_c7 : List (Nat × Instr × Nat) := [(336, .newarray .int, 2), (338, .putfield 136, 3), (341, .aload_n 0, 1), (342, .iconst 5, 1), (343, .newarray .int, 2), (345, .putfield 139, 3), (348, .aload_n 0, 1), (349, .iconst 5, 1), (350, .newarray .int, 2), (352, .putfield 142, 3), (355, .aload_n 0, 1), (356, .iconst 4, 1), (357, .newarray .int, 2), (359, .putfield 145, 3), (362, .aload_n 0, 1), (363, .iconst 4, 1), (364, .newarray .int, 2), (366, .putfield 148, 3), (369, .aload_n 0, 1), (370, .iconst 4, 1), (371, .newarray .boolean, 2), (373, .putfield 151, 3), (376, .aload_n 0, 1), (377, .iconst 4, 1)]
theorem dt_Ref_init_c7 (i : Nat) : decode (jm_cod M_Ref_init) (tab_Ref_init_c7.getD i (336, .newarray .int, 2)).1 = .ok ((tab_Ref_init_c7.getD i (336, .newarray .int, 2)).2.1, (tab_Ref_init_c7.getD i (336, .newarray .int, 2)).2.2) := j_tab (by decide +kernel) i
theorem d_Ref_init_336 : decode (jm_cod M_Ref_init) 336 = .ok (.newarray .int, 2) := dt_Ref_init_c7 0
theorem d_Ref_init_338 : decode (jm_cod M_Ref_init) 338 = .ok (.putfield 136, 3) := dt_Ref_init_c7 1
theorem d_Ref_init_341 : decode (jm_cod M_Ref_init) 341 = .ok (.aload_n 0, 1) := dt_Ref_init_c7 2
theorem d_Ref_init_342 : decode (jm_cod M_Ref_init) 342 = .ok (.iconst 5, 1) := dt_Ref_init_c7 3
theorem d_Ref_init_343 : decode (jm_cod M_Ref_init) 343 = .ok (.newarray .int, 2) := dt_Ref_init_c7 4
theorem d_Ref_init_345 : decode (jm_cod M_Ref_init) 345 = .ok (.putfield 139, 3) := dt_Ref_init_c7 5
theorem d_Ref_init_348 : decode (jm_cod M_Ref_init) 348 = .ok (.aload_n 0, 1) := dt_Ref_init_c7 6
theorem d_Ref_init_349 : decode (jm_cod M_Ref_init) 349 = .ok (.iconst 5, 1) := dt_Ref_init_c7 7
theorem d_Ref_init_350 : decode (jm_cod M_Ref_init) 350 = .ok (.newarray .int, 2) := dt_Ref_init_c7 8
theorem d_Ref_init_352 : decode (jm_cod M_Ref_init) 352 = .ok (.putfield 142, 3) := dt_Ref_init_c7 9
theorem d_Ref_init_355 : decode (jm_cod M_Ref_init) 355 = .ok (.aload_n 0, 1) := dt_Ref_init_c7 10
theorem d_Ref_init_356 : decode (jm_cod M_Ref_init) 356 = .ok (.iconst 4, 1) := dt_Ref_init_c7 11
theorem d_Ref_init_357 : decode (jm_cod M_Ref_init) 357 = .ok (.newarray .int, 2) := dt_Ref_init_c7 12
theorem d_Ref_init_359 : decode (jm_cod M_Ref_init) 359 = .ok (.putfield 145, 3) := dt_Ref_init_c7 13
theorem d_Ref_init_362 : decode (jm_cod M_Ref_init) 362 = .ok (.aload_n 0, 1) := dt_Ref_init_c7 14
theorem d_Ref_init_363 : decode (jm_cod M_Ref_init) 363 = .ok (.iconst 4, 1) := dt_Ref_init_c7 15
theorem d_Ref_init_364 : decode (jm_cod M_Ref_init) 364 = .ok (.newarray .int, 2) := dt_Ref_init_c7 16
theorem d_Ref_init_366 : decode (jm_cod M_Ref_init) 366 = .ok (.putfield 148, 3) := dt_Ref_init_c7 17
theorem d_Ref_init_369 : decode (jm_cod M_Ref_init) 369 = .ok (.aload_n 0, 1) := dt_Ref_init_c7 18
theorem d_Ref_init_370 : decode (jm_cod M_Ref_init) 370 = .ok (.iconst 4, 1) := dt_Ref_init_c7 19
theorem d_Ref_init_371 : decode (jm_cod M_Ref_init) 371 = .ok (.newarray .boolean, 2) := dt_Ref_init_c7 20
theorem d_Ref_init_373 : decode (jm_cod M_Ref_init) 373 = .ok (.putfield 151, 3) := dt_Ref_init_c7 21
theorem d_Ref_init_376 : decode (jm_cod M_Ref_init) 376 = .ok (.aload_n 0, 1) := dt_Ref_init_c7 22
theorem d_Ref_init_377 : decode (jm_cod M_Ref_init) 377 = .ok (.iconst 4, 1) := dt_Ref_init_c7 23
def tab_Ref_init_c8 : List (Nat × Instr × Nat) := [(378, .newarray .int, 2), (380, .putfield 154, 3), (383, .aload_n 0, 1), (384, .bipush 16, 2), (386, .newarray .int, 2), (388, .putfield 157, 3), (391, .aload_n 0, 1), (392, .bipush 16, 2), (394, .newarray .boolean, 2), (396, .putfield 160, 3), (399, .aload_n 0, 1), (400, .bipush 16, 2), (402, .newarray .long, 2), (404, .putfield 163, 3), (407, .aload_n 0, 1), (408, .bipush 16, 2), (410, .newarray .int, 2), (412, .putfield 166, 3), (415, .aload_n 0, 1), (416, .bipush 16, 2), (418, .newarray .int, 2), (420, .putfield 169, 3), (423, .aload_n 0, 1), (424, .bipush 16, 2)]
theorem dt_Ref_init_c8 (i : Nat) : decode (jm_cod M_Ref_init) (tab_Ref_init_c8.getD i (378, .newarray .int, 2)).1 = .ok ((tab_Ref_init_c8.getD i (378, .newarray .int, 2)).2.1, (tab_Ref_init_c8.getD i (378, .newarray .int, 2)).2.2) := j_tab (by decide +kernel) i
theorem d_Ref_init_378 : decode (jm_cod M_Ref_init) 378 = .ok (.newarray .int, 2) := dt_Ref_init_c8 0
theorem d_Ref_init_380 : decode (jm_cod M_Ref_init) 380 = .ok (.putfield 154, 3) := dt_Ref_init_c8 1
theorem d_Ref_init_383 : decode (jm_cod M_Ref_init) 383 = .ok (.aload_n 0, 1) := dt_Ref_init_c8 2
theorem d_Ref_init_384 : decode (jm_cod M_Ref_init) 384 = .ok (.bipush 16, 2) := dt_Ref_init_c8 3
theorem d_Ref_init_386 : decode (jm_cod M_Ref_init) 386 = .ok (.newarray .int, 2) := dt_Ref_init_c8 4
theorem d_Ref_init_388 : decode (jm_cod M_Ref_init) 388 = .ok (.putfield 157, 3) := dt_Ref_init_c8 5
theorem d_Ref_init_391 : decode (jm_cod M_Ref_init) 391 = .ok (.aload_n 0, 1) := dt_Ref_init_c8 6
theorem d_Ref_init_392 : decode (jm_cod M_Ref_init) 392 = .ok (.bipush 16, 2) := dt_Ref_init_c8 7
theorem d_Ref_init_394 : decode (jm_cod M_Ref_init) 394 = .ok (.newarray .boolean, 2) := dt_Ref_init_c8 8
theorem d_Ref_init_396 : decode (jm_cod M_Ref_init) 396 = .ok (.putfield 160, 3) := dt_Ref_init_c8 9
theorem d_Ref_init_399 : decode (jm_cod M_Ref_init) 399 = .ok (.aload_n 0, 1) := dt_Ref_init_c8 10
theorem d_Ref_init_400 : decode (jm_cod M_Ref_init) 400 = .ok (.bipush 16, 2) := dt_Ref_init_c8 11
theorem d_Ref_init_402 : decode (jm_cod M_Ref_init) 402 = .ok (.newarray .long, 2) := dt_Ref_init_c8 12
theorem d_Ref_init_404 : decode (jm_cod M_Ref_init) 404 = .ok (.putfield 163, 3) := dt_Ref_init_c8 13
theorem d_Ref_init_407 : decode (jm_cod M_Ref_init) 407 = .ok (.aload_n 0, 1) := dt_Ref_init_c8 14
theorem d_Ref_init_408 : decode (jm_cod M_Ref_init) 408 = .ok (.bipush 16, 2) := dt_Ref_init_c8 15
theorem d_Ref_init_410 : decode (jm_cod M_Ref_init) 410 = .ok (.newarray .int, 2) := dt_Ref_init_c8 16
theorem d_Ref_init_412 : decode (jm_cod M_Ref_init) 412 = .ok (.putfield 166, 3) := dt_Ref_init_c8 17
theorem d_Ref_init_415 : decode (jm_cod M_Ref_init) 415 = .ok (.aload_n 0, 1) := dt_Ref_init_c8 18
theorem d_Ref_init_416 : decode (jm_cod M_Ref_init) 416 = .ok (.bipush 16, 2) := dt_Ref_init_c8 19
theorem d_Ref_init_418 : decode (jm_cod M_Ref_init) 418 = .ok (.newarray .int, 2) := dt_Ref_init_c8 20
theorem d_Ref_init_420 : decode (jm_cod M_Ref_init) 420 = .ok (.putfield 169, 3) := dt_Ref_init_c8 21
theorem d_Ref_init_423 : decode (jm_cod M_Ref_init) 423 = .ok (.aload_n 0, 1) := dt_Ref_init_c8 22
theorem d_Ref_init_424 : decode (jm_cod M_Ref_init) 424 = .ok (.bipush 16, 2) := dt_Ref_init_c8 23
def tab_Ref_init_c9 : List (Nat × Instr × Nat) := [(426, .newarray .int, 2), (428, .putfield 172, 3), (431, .aload_n 0, 1), (432, .sipush 256, 3), (435, .newarray .long, 2), (437, .putfield 175, 3), (440, .aload_n 0, 1), (441, .sipush 256, 3), (444, .newarray .int, 2), (446, .putfield 178, 3), (449, .aload_n 0, 1), (450, .iconst 4, 1), (451, .newarray .int, 2), (453, .putfield 181, 3), (456, .aload_n 0, 1), (457, .bipush 16, 2), (459, .newarray .int, 2), (461, .putfield 184, 3), (464, .aload_n 0, 1), (465, .bipush 16, 2), (467, .newarray .boolean, 2), (469, .putfield 187, 3), (472, .aload_n 0, 1), (473, .bipush 16, 2)]
theorem dt_Ref_init_c9 (i : Nat) : decode (jm_cod M_Ref_init) (tab_Ref_init_c9.getD i (426, .newarray .int, 2)).1 = .ok ((tab_Ref_init_c9.getD i (426, .newarray .int, 2)).2.1, (tab_Ref_init_c9.getD i (426, .newarray .int, 2)).2.2) := j_tab (by decide +kernel) i
theorem d_Ref_init_426 : decode (jm_cod M_Ref_init) 426 = .ok (.newarray .int, 2) := dt_Ref_init_c9 0
theorem d_Ref_init_428 : decode (jm_cod M_Ref_init) 428 = .ok (.putfield 172, 3) := dt_Ref_init_c9 1
theorem d_Ref_init_431 : decode (jm_cod M_Ref_init) 431 = .ok (.aload_n 0, 1) := dt_Ref_init_c9 2
theorem d_Ref_init_432 : decode (jm_cod M_Ref_init) 432 = .ok (.sipush 256, 3) := dt_Ref_init_c9 3
theorem d_Ref_init_435 : decode (jm_cod M_Ref_init) 435 = .ok (.newarray .long, 2) := dt_Ref_init_c9 4
theorem d_Ref_init_437 : decode (jm_cod M_Ref_init) 437 = .ok (.putfield 175, 3) := dt_Ref_init_c9 5
theorem d_Ref_init_440 : decode (jm_cod M_Ref_init) 440 = .ok (.aload_n 0, 1) := dt_Ref_init_c9 6
theorem d_Ref_init_441 : decode (jm_cod M_Ref_init) 441 = .ok (.sipush 256, 3) := dt_Ref_init_c9 7
theorem d_Ref_init_444 : decode (jm_cod M_Ref_init) 444 = .ok (.newarray .int, 2) := dt_Ref_init_c9 8
theorem d_Ref_init_446 : decode (jm_cod M_Ref_init) 446 = .ok (.putfield 178, 3) := dt_Ref_init_c9 9
theorem d_Ref_init_449 : decode (jm_cod M_Ref_init) 449 = .ok (.aload_n 0, 1) := dt_Ref_init_c9 10
theorem d_Ref_init_450 : decode (jm_cod M_Ref_init) 450 = .ok (.iconst 4, 1) := dt_Ref_init_c9 11
theorem d_Ref_init_451 : decode (jm_cod M_Ref_init) 451 = .ok (.newarray .int, 2) := dt_Ref_init_c9 12
theorem d_Ref_init_453 : decode (jm_cod M_Ref_init) 453 = .ok (.putfield 181, 3) := dt_Ref_init_c9 13
theorem d_Ref_init_456 : decode (jm_cod M_Ref_init) 456 = .ok (.aload_n 0, 1) := dt_Ref_init_c9 14
theorem d_Ref_init_457 : decode (jm_cod M_Ref_init) 457 = .ok (.bipush 16, 2) := dt_Ref_init_c9 15
theorem d_Ref_init_459 : decode (jm_cod M_Ref_init) 459 = .ok (.newarray .int, 2) := dt_Ref_init_c9 16
theorem d_Ref_init_461 : decode (jm_cod M_Ref_init) 461 = .ok (.putfield 184, 3) := dt_Ref_init_c9 17
theorem d_Ref_init_464 : decode (jm_cod M_Ref_init) 464 = .ok (.aload_n 0, 1) := dt_Ref_init_c9 18
theorem d_Ref_init_465 : decode (jm_cod M_Ref_init) 465 = .ok (.bipush 16, 2) := dt_Ref_init_c9 19
theorem d_Ref_init_467 : decode (jm_cod M_Ref_init) 467 = .ok (.newarray .boolean, 2) := dt_Ref_init_c9 20
theorem d_Ref_init_469 : decode (jm_cod M_Ref_init) 469 = .ok (.putfield 187, 3) := dt_Ref_init_c9 21
theorem d_Ref_init_472 : decode (jm_cod M_Ref_init) 472 = .ok (.aload_n 0, 1) := dt_Ref_init_c9 22
theorem d_Ref_init_473 : decode (jm_cod M_Ref_init) 473 = .ok (.bipush 16, 2) := dt_Ref_init_c9 23
def tab_Ref_init_c10 : List (Nat × Instr × Nat) := [(475, .newarray .long, 2), (477, .putfield 190, 3), (480, .aload_n 0, 1), (481, .bipush 16, 2), (483, .newarray .int, 2), (485, .putfield 193, 3), (488, .aload_n 0, 1), (489, .bipush 16, 2), (491, .newarray .int, 2), (493, .putfield 196, 3), (496, .aload_n 0, 1), (497, .bipush 16, 2), (499, .newarray .int, 2), (501, .putfield 199, 3), (504, .aload_n 0, 1), (505, .sipush 256, 3), (508, .newarray .long, 2), (510, .putfield 202, 3), (513, .aload_n 0, 1), (514, .sipush 256, 3), (517, .newarray .int, 2), (519, .putfield 205, 3), (522, .aload_n 0, 1), (523, .iconst 4, 1)]
theorem dt_Ref_init_c10 (i : Nat) : decode (jm_cod M_Ref_init) (tab_Ref_init_c10.getD i (475, .newarray .long, 2)).1 = .ok ((tab_Ref_init_c10.getD i (475, .newarray .long, 2)).2.1, (tab_Ref_init_c10.getD i (475, .newarray .long, 2)).2.2) := j_tab (by decide +kernel) i
theorem d_Ref_init_475 : decode (jm_cod M_Ref_init) 475 = .ok (.newarray .long, 2) := dt_Ref_init_c10 0
theorem d_Ref_init_477 : decode (jm_cod M_Ref_init) 477 = .ok (.putfield 190, 3) := dt_Ref_init_c10 1
theorem d_Ref_init_480 : decode (jm_cod M_Ref_init) 480 = .ok (.aload_n 0, 1) := dt_Ref_init_c10 2
theorem d_Ref_init_481 : decode (jm_cod M_Ref_init) 481 = .ok (.bipush 16, 2) := dt_Ref_init_c10 3
theorem d_Ref_init_483 : decode (jm_cod M_Ref_init) 483 = .ok (.newarray .int, 2) := dt_Ref_init_c10 4
theorem d_Ref_init_485 : decode (jm_cod M_Ref_init) 485 = .ok (.putfield 193, 3) := dt_Ref_init_c10 5
theorem d_Ref_init_488 : decode (jm_cod M_Ref_init) 488 = .ok (.aload_n 0, 1) := dt_Ref_init_c10 6
theorem d_Ref_init_489 : decode (jm_cod M_Ref_init) 489 = .ok (.bipush 16, 2) := dt_Ref_init_c10 7
theorem d_Ref_init_491 : decode (jm_cod M_Ref_init) 491 = .ok (.newarray .int, 2) := dt_Ref_init_c10 8
theorem d_Ref_init_493 : decode (jm_cod M_Ref_init) 493 = .ok (.putfield 196, 3) := dt_Ref_init_c10 9
theorem d_Ref_init_496 : decode (jm_cod M_Ref_init) 496 = .ok (.aload_n 0, 1) := dt_Ref_init_c10 10
theorem d_Ref_init_497 : decode (jm_cod M_Ref_init) 497 = .ok (.bipush 16, 2) := dt_Ref_init_c10 11
theorem d_Ref_init_499 : decode (jm_cod M_Ref_init) 499 = .ok (.newarray .int, 2) := dt_Ref_init_c10 12
theorem d_Ref_init_501 : decode (jm_cod M_Ref_init) 501 = .ok (.putfield 199, 3) := dt_Ref_init_c10 13
theorem d_Ref_init_504 : decode (jm_cod M_Ref_init) 504 = .ok (.aload_n 0, 1) := dt_Ref_init_c10 14
theorem d_Ref_init_505 : decode (jm_cod M_Ref_init) 505 = .ok (.sipush 256, 3) := dt_Ref_init_c10 15
theorem d_Ref_init_508 : decode (jm_cod M_Ref_init) 508 = .ok (.newarray .long, 2) := dt_Ref_init_c10 16
theorem d_Ref_init_510 : decode (jm_cod M_Ref_init) 510 = .ok (.putfield 202, 3) := dt_Ref_init_c10 17
theorem d_Ref_init_513 : decode (jm_cod M_Ref_init) 513 = .ok (.aload_n 0, 1) := dt_Ref_init_c10 18
theorem d_Ref_init_514 : decode (jm_cod M_Ref_init) 514 = .ok (.sipush 256, 3) := dt_Ref_init_c10 19
theorem d_Ref_init_517 : decode (jm_cod M_Ref_init) 517 = .ok (.newarray .int, 2) := dt_Ref_init_c10 20
theorem d_Ref_init_519 : decode (jm_cod M_Ref_init) 519 = .ok (.putfield 205, 3) := dt_Ref_init_c10 21
theorem d_Ref_init_522 : decode (jm_cod M_Ref_init) 522 = .ok (.aload_n 0, 1) := dt_Ref_init_c10 22
theorem d_Ref_init_523 : decode (jm_cod M_Ref_init) 523 = .ok (.iconst 4, 1) := dt_Ref_init_c10 23
def tab_Ref_init_c11 : List (Nat × Instr × Nat) := [(524, .newarray .int, 2), (526, .putfield 208, 3), (529, .aload_n 0, 1), (530, .iconst 4, 1), (531, .newarray .int, 2), (533, .putfield 211, 3), (536, .aload_n 0, 1), (537, .iconst 4, 1), (538, .newarray .int, 2), (540, .putfield 214, 3), (543, .aload_n 0, 1), (544, .iconst 4, 1), (545, .newarray .int, 2), (547, .putfield 217, 3), (550, .aload_n 0, 1), (551, .sipush 256, 3), (554, .newarray .int, 2), (556, .putfield 220, 3), (559, .aload_n 0, 1), (560, .sipush 256, 3), (563, .newarray .int, 2), (565, .putfield 223, 3), (568, .aload_n 0, 1), (569, .bipush 50, 2)]
theorem dt_Ref_init_c11 (i : Nat) : decode (jm_cod M_Ref_init) (tab_Ref_init_c11.getD i (524, .newarray .int, 2)).1 = .ok ((tab_Ref_init_c11.getD i (524, .newarray .int, 2)).2.1, (tab_Ref_init_c11.getD i (524, .newarray .int, 2)).2.2) := j_tab (by decide +kernel) i
theorem d_Ref_init_524 : decode (jm_cod M_Ref_init) 524 = .ok (.newarray .int, 2) := dt_Ref_init_c11 0
theorem d_Ref_init_526 : decode (jm_cod M_Ref_init) 526 = .ok (.putfield 208, 3) := dt_Ref_init_c11 1
theorem d_Ref_init_529 : decode (jm_cod M_Ref_init) 529 = .ok (.aload_n 0, 1) := dt_Ref_init_c11 2
theorem d_Ref_init_530 : decode (jm_cod M_Ref_init) 530 = .ok (.iconst 4, 1) := dt_Ref_init_c11 3
theorem d_Ref_init_531 : decode (jm_cod M_Ref_init) 531 = .ok (.newarray .int, 2) := dt_Ref_init_c11 4
theorem d_Ref_init_533 : decode (jm_cod M_Ref_init) 533 = .ok (.putfield 211, 3) := dt_Ref_init_c11 5
theorem d_Ref_init_536 : decode (jm_cod M_Ref_init) 536 = .ok (.aload_n 0, 1) := dt_Ref_init_c11 6
theorem d_Ref_init_537 : decode (jm_cod M_Ref_init) 537 = .ok (.iconst 4, 1) := dt_Ref_init_c11 7
theorem d_Ref_init_538 : decode (jm_cod M_Ref_init) 538 = .ok (.newarray .int, 2) := dt_Ref_init_c11 8
theorem d_Ref_init_540 : decode (jm_cod M_Ref_init) 540 = .ok (.putfield 214, 3) := dt_Ref_init_c11 9
theorem d_Ref_init_543 : decode (jm_cod M_Ref_init) 543 = .ok (.aload_n 0, 1) := dt_Ref_init_c11 10
theorem d_Ref_init_544 : decode (jm_cod M_Ref_init) 544 = .ok (.iconst 4, 1) := dt_Ref_init_c11 11
theorem d_Ref_init_545 : decode (jm_cod M_Ref_init) 545 = .ok (.newarray .int, 2) := dt_Ref_init_c11 12
theorem d_Ref_init_547 : decode (jm_cod M_Ref_init) 547 = .ok (.putfield 217, 3) := dt_Ref_init_c11 13
theorem d_Ref_init_550 : decode (jm_cod M_Ref_init) 550 = .ok (.aload_n 0, 1) := dt_Ref_init_c11 14
theorem d_Ref_init_551 : decode (jm_cod M_Ref_init) 551 = .ok (.sipush 256, 3) := dt_Ref_init_c11 15
theorem d_Ref_init_554 : decode (jm_cod M_Ref_init) 554 = .ok (.newarray .int, 2) := dt_Ref_init_c11 16
theorem d_Ref_init_556 : decode (jm_cod M_Ref_init) 556 = .ok (.putfield 220, 3) := dt_Ref_init_c11 17
theorem d_Ref_init_559 : decode (jm_cod M_Ref_init) 559 = .ok (.aload_n 0, 1) := dt_Ref_init_c11 18
theorem d_Ref_init_560 : decode (jm_cod M_Ref_init) 560 = .ok (.sipush 256, 3) := dt_Ref_init_c11 19
theorem d_Ref_init_563 : decode (jm_cod M_Ref_init) 563 = .ok (.newarray .int, 2) := dt_Ref_init_c11 20
theorem d_Ref_init_565 : decode (jm_cod M_Ref_init) 565 = .ok (.putfield 223, 3) := dt_Ref_init_c11 21
theorem d_Ref_init_568 : decode (jm_cod M_Ref_init) 568 = .ok (.aload_n 0, 1) := dt_Ref_init_c11 22
theorem d_Ref_init_569 : decode (jm_cod M_Ref_init) 569 = .ok (.bipush 50, 2) := dt_Ref_init_c11 23
def tab_Ref_init_c12 : List (Nat × Instr × Nat) := [(571, .newarray .boolean, 2), (573, .putfield 226, 3), (576, .aload_n 0, 1), (577, .bipush 50, 2), (579, .newarray .long, 2), (581, .putfield 229, 3), (584, .aload_n 0, 1), (585, .bipush 50, 2), (587, .newarray .int, 2), (589, .putfield 232, 3), (592, .aload_n 0, 1), (593, .bipush 10, 2), (595, .newarray .int, 2), (597, .putfield 235, 3), (600, .aload_n 0, 1), (601, .bipush 10, 2), (603, .newarray .int, 2), (605, .putfield 238, 3), (608, .aload_n 0, 1), (609, .bipush 10, 2), (611, .newarray .int, 2), (613, .putfield 241, 3), (616, .aload_n 0, 1), (617, .bipush 10, 2)]
theorem dt_Ref_init_c12 (i : Nat) : decode (jm_cod M_Ref_init) (tab_Ref_init_c12.getD i (571, .newarray .boolean, 2)).1 = .ok ((tab_Ref_init_c12.getD i (571, .newarray .boolean, 2)).2.1, (tab_Ref_init_c12.getD i (571, .newarray .boolean, 2)).2.2) := j_tab (by decide +kernel) i
theorem d_Ref_init_571 : decode (jm_cod M_Ref_init) 571 = .ok (.newarray .boolean, 2) := dt_Ref_init_c12 0
theorem d_Ref_init_573 : decode (jm_cod M_Ref_init) 573 = .ok (.putfield 226, 3) := dt_Ref_init_c12 1
theorem d_Ref_init_576 : decode (jm_cod M_Ref_init) 576 = .ok (.aload_n 0, 1) := dt_Ref_init_c12 2
theorem d_Ref_init_577 : decode (jm_cod M_Ref_init) 577 = .ok (.bipush 50, 2) := dt_Ref_init_c12 3
theorem d_Ref_init_579 : decode (jm_cod M_Ref_init) 579 = .ok (.newarray .long, 2) := dt_Ref_init_c12 4
theorem d_Ref_init_581 : decode (jm_cod M_Ref_init) 581 = .ok (.putfield 229, 3) := dt_Ref_init_c12 5
theorem d_Ref_init_584 : decode (jm_cod M_Ref_init) 584 = .ok (.aload_n 0, 1) := dt_Ref_init_c12 6
theorem d_Ref_init_585 : decode (jm_cod M_Ref_init) 585 = .ok (.bipush 50, 2) := dt_Ref_init_c12 7
theorem d_Ref_init_587 : decode (jm_cod M_Ref_init) 587 = .ok (.newarray .int, 2) := dt_Ref_init_c12 8
theorem d_Ref_init_589 : decode (jm_cod M_Ref_init) 589 = .ok (.putfield 232, 3) := dt_Ref_init_c12 9
theorem d_Ref_init_592 : decode (jm_cod M_Ref_init) 592 = .ok (.aload_n 0, 1) := dt_Ref_init_c12 10
theorem d_Ref_init_593 : decode (jm_cod M_Ref_init) 593 = .ok (.bipush 10, 2) := dt_Ref_init_c12 11
theorem d_Ref_init_595 : decode (jm_cod M_Ref_init) 595 = .ok (.newarray .int, 2) := dt_Ref_init_c12 12
theorem d_Ref_init_597 : decode (jm_cod M_Ref_init) 597 = .ok (.putfield 235, 3) := dt_Ref_init_c12 13
theorem d_Ref_init_600 : decode (jm_cod M_Ref_init) 600 = .ok (.aload_n 0, 1) := dt_Ref_init_c12 14
theorem d_Ref_init_601 : decode (jm_cod M_Ref_init) 601 = .ok (.bipush 10, 2) := dt_Ref_init_c12 15
theorem d_Ref_init_603 : decode (jm_cod M_Ref_init) 603 = .ok (.newarray .int, 2) := dt_Ref_init_c12 16
theorem d_Ref_init_605 : decode (jm_cod M_Ref_init) 605 = .ok (.putfield 238, 3) := dt_Ref_init_c12 17
theorem d_Ref_init_608 : decode (jm_cod M_Ref_init) 608 = .ok (.aload_n 0, 1) := dt_Ref_init_c12 18
theorem d_Ref_init_609 : decode (jm_cod M_Ref_init) 609 = .ok (.bipush 10, 2) := dt_Ref_init_c12 19
theorem d_Ref_init_611 : decode (jm_cod M_Ref_init) 611 = .ok (.newarray .int, 2) := dt_Ref_init_c12 20
theorem d_Ref_init_613 : decode (jm_cod M_Ref_init) 613 = .ok (.putfield 241, 3) := dt_Ref_init_c12 21
theorem d_Ref_init_616 : decode (jm_cod M_Ref_init) 616 = .ok (.aload_n 0, 1) := dt_Ref_init_c12 22
theorem d_Ref_init_617 : decode (jm_cod M_Ref_init) 617 = .ok (.bipush 10, 2) := dt_Ref_init_c12 23
def tab_Ref_init_c13 : List (Nat × Instr × Nat) := [(619, .newarray .int, 2), (621, .putfield 244, 3), (624, .aload_n 0, 1), (625, .bipush 10, 2), (627, .newarray .int, 2), (629, .putfield 247, 3), (632, .aload_n 0, 1), (633, .bipush 10, 2), (635, .newarray .int, 2), (637, .putfield 250, 3), (640, .aload_n 0, 1), (641, .sipush 160, 3), (644, .newarray .boolean, 2), (646, .putfield 253, 3), (649, .aload_n 0, 1), (650, .sipush 160, 3), (653, .newarray .long, 2), (655, .putfield 256, 3), (658, .aload_n 0, 1), (659, .sipush 160, 3), (662, .newarray .int, 2), (664, .putfield 259, 3), (667, .aload_n 0, 1), (668, .sipush 160, 3)]
theorem dt_Ref_init_c13 (i : Nat) : decode (jm_cod M_Ref_init) (tab_Ref_init_c13.getD i (619, .newarray .int, 2)).1 = .ok ((tab_Ref_init_c13.getD i (619, .newarray .int, 2)).2.1, (tab_Ref_init_c13.getD i (619, .newarray .int, 2)).2.2) := j_tab (by decide +kernel) i
theorem d_Ref_init_619 : decode (jm_cod M_Ref_init) 619 = .ok (.newarray .int, 2) := dt_Ref_init_c13 0
theorem d_Ref_init_621 : decode (jm_cod M_Ref_init) 621 = .ok (.putfield 244, 3) := dt_Ref_init_c13 1
theorem d_Ref_init_624 : decode (jm_cod M_Ref_init) 624 = .ok (.aload_n 0, 1) := dt_Ref_init_c13 2
theorem d_Ref_init_625 : decode (jm_cod M_Ref_init) 625 = .ok (.bipush 10, 2) := dt_Ref_init_c13 3
theorem d_Ref_init_627 : decode (jm_cod M_Ref_init) 627 = .ok (.newarray .int, 2) := dt_Ref_init_c13 4
theorem d_Ref_init_629 : decode (jm_cod M_Ref_init) 629 = .ok (.putfield 247, 3) := dt_Ref_init_c13 5
theorem d_Ref_init_632 : decode (jm_cod M_Ref_init) 632 = .ok (.aload_n 0, 1) := dt_Ref_init_c13 6
theorem d_Ref_init_633 : decode (jm_cod M_Ref_init) 633 = .ok (.bipush 10, 2) := dt_Ref_init_c13 7
theorem d_Ref_init_635 : decode (jm_cod M_Ref_init) 635 = .ok (.newarray .int, 2) := dt_Ref_init_c13 8
theorem d_Ref_init_637 : decode (jm_cod M_Ref_init) 637 = .ok (.putfield 250, 3) := dt_Ref_init_c13 9
theorem d_Ref_init_640 : decode (jm_cod M_Ref_init) 640 = .ok (.aload_n 0, 1) := dt_Ref_init_c13 10
theorem d_Ref_init_641 : decode (jm_cod M_Ref_init) 641 = .ok (.sipush 160, 3) := dt_Ref_init_c13 11
theorem d_Ref_init_644 : decode (jm_cod M_Ref_init) 644 = .ok (.newarray .boolean, 2) := dt_Ref_init_c13 12
theorem d_Ref_init_646 : decode (jm_cod M_Ref_init) 646 = .ok (.putfield 253, 3) := dt_Ref_init_c13 13
theorem d_Ref_init_649 : decode (jm_cod M_Ref_init) 649 = .ok (.aload_n 0, 1) := dt_Ref_init_c13 14
theorem d_Ref_init_650 : decode (jm_cod M_Ref_init) 650 = .ok (.sipush 160, 3) := dt_Ref_init_c13 15
theorem d_Ref_init_653 : decode (jm_cod M_Ref_init) 653 = .ok (.newarray .long, 2) := dt_Ref_init_c13 16
theorem d_Ref_init_655 : decode (jm_cod M_Ref_init) 655 = .ok (.putfield 256, 3) := dt_Ref_init_c13 17
theorem d_Ref_init_658 : decode (jm_cod M_Ref_init) 658 = .ok (.aload_n 0, 1) := dt_Ref_init_c13 18
theorem d_Ref_init_659 : decode (jm_cod M_Ref_init) 659 = .ok (.sipush 160, 3) := dt_Ref_init_c13 19
theorem d_Ref_init_662 : decode (jm_cod M_Ref_init) 662 = .ok (.newarray .int, 2) := dt_Ref_init_c13 20
theorem d_Ref_init_664 : decode (jm_cod M_Ref_init) 664 = .ok (.putfield 259, 3) := dt_Ref_init_c13 21
theorem d_Ref_init_667 : decode (jm_cod M_Ref_init) 667 = .ok (.aload_n 0, 1) := dt_Ref_init_c13 22
theorem d_Ref_init_668 : decode (jm_cod M_Ref_init) 668 = .ok (.sipush 160, 3) := dt_Ref_init_c13 23
def tab_Ref_init_c14 : List (Nat × Instr × Nat) := [(671, .newarray .boolean, 2), (673, .putfield 262, 3), (676, .aload_n 0, 1), (677, .sipush 2560, 3), (680, .newarray .int, 2), (682, .putfield 265, 3), (685, .aload_n 0, 1), (686, .sipush 160, 3), (689, .newarray .long, 2), (691, .putfield 268, 3), (694, .aload_n 0, 1), (695, .sipush 160, 3), (698, .newarray .int, 2), (700, .putfield 271, 3), (703, .aload_n 0, 1), (704, .bipush 10, 2), (706, .newarray .boolean, 2), (708, .putfield 274, 3), (711, .aload_n 0, 1), (712, .bipush 10, 2), (714, .newarray .boolean, 2), (716, .putfield 277, 3), (719, .aload_n 0, 1), (720, .bipush 10, 2)]
theorem dt_Ref_init_c14 (i : Nat) : decode (jm_cod M_Ref_init) (tab_Ref_init_c14.getD i (671, .newarray .boolean, 2)).1 = .ok ((tab_Ref_init_c14.getD i (671, .newarray .boolean, 2)).2.1, (tab_Ref_init_c14.getD i (671, .newarray .boolean, 2)).2.2) := j_tab (by decide +kernel) i
theorem d_Ref_init_671 : decode (jm_cod M_Ref_init) 671 = .ok (.newarray .boolean, 2) := dt_Ref_init_c14 0
theorem d_Ref_init_673 : decode (jm_cod M_Ref_init) 673 = .ok (.putfield 262, 3) := dt_Ref_init_c14 1
theorem d_Ref_init_676 : decode (jm_cod M_Ref_init) 676 = .ok (.aload_n 0, 1) := dt_Ref_init_c14 2
theorem d_Ref_init_677 : decode (jm_cod M_Ref_init) 677 = .ok (.sipush 2560, 3) := dt_Ref_init_c14 3
theorem d_Ref_init_680 : decode (jm_cod M_Ref_init) 680 = .ok (.newarray .int, 2) := dt_Ref_init_c14 4
theorem d_Ref_init_682 : decode (jm_cod M_Ref_init) 682 = .ok (.putfield 265, 3) := dt_Ref_init_c14 5
theorem d_Ref_init_685 : decode (jm_cod M_Ref_init) 685 = .ok (.aload_n 0, 1) := dt_Ref_init_c14 6
theorem d_Ref_init_686 : decode (jm_cod M_Ref_init) 686 = .ok (.sipush 160, 3) := dt_Ref_init_c14 7
theorem d_Ref_init_689 : decode (jm_cod M_Ref_init) 689 = .ok (.newarray .long, 2) := dt_Ref_init_c14 8
theorem d_Ref_init_691 : decode (jm_cod M_Ref_init) 691 = .ok (.putfield 268, 3) := dt_Ref_init_c14 9
theorem d_Ref_init_694 : decode (jm_cod M_Ref_init) 694 = .ok (.aload_n 0, 1) := dt_Ref_init_c14 10
theorem d_Ref_init_695 : decode (jm_cod M_Ref_init) 695 = .ok (.sipush 160, 3) := dt_Ref_init_c14 11
theorem d_Ref_init_698 : decode (jm_cod M_Ref_init) 698 = .ok (.newarray .int, 2) := dt_Ref_init_c14 12
theorem d_Ref_init_700 : decode (jm_cod M_Ref_init) 700 = .ok (.putfield 271, 3) := dt_Ref_init_c14 13
theorem d_Ref_init_703 : decode (jm_cod M_Ref_init) 703 = .ok (.aload_n 0, 1) := dt_Ref_init_c14 14
theorem d_Ref_init_704 : decode (jm_cod M_Ref_init) 704 = .ok (.bipush 10, 2) := dt_Ref_init_c14 15
theorem d_Ref_init_706 : decode (jm_cod M_Ref_init) 706 = .ok (.newarray .boolean, 2) := dt_Ref_init_c14 16
theorem d_Ref_init_708 : decode (jm_cod M_Ref_init) 708 = .ok (.putfield 274, 3) := dt_Ref_init_c14 17
theorem d_Ref_init_711 : decode (jm_cod M_Ref_init) 711 = .ok (.aload_n 0, 1) := dt_Ref_init_c14 18
theorem d_Ref_init_712 : decode (jm_cod M_Ref_init) 712 = .ok (.bipush 10, 2) := dt_Ref_init_c14 19
theorem d_Ref_init_714 : decode (jm_cod M_Ref_init) 714 = .ok (.newarray .boolean, 2) := dt_Ref_init_c14 20
theorem d_Ref_init_716 : decode (jm_cod M_Ref_init) 716 = .ok (.putfield 277, 3) := dt_Ref_init_c14 21
theorem d_Ref_init_719 : decode (jm_cod M_Ref_init) 719 = .ok (.aload_n 0, 1) := dt_Ref_init_c14 22
theorem d_Ref_init_720 : decode (jm_cod M_Ref_init) 720 = .ok (.bipush 10, 2) := dt_Ref_init_c14 23
def tab_Ref_init_c15 : List (Nat × Instr × Nat) := [(722, .newarray .long, 2), (724, .putfield 280, 3), (727, .aload_n 0, 1), (728, .bipush 10, 2), (730, .newarray .int, 2), (732, .putfield 283, 3), (735, .aload_n 0, 1), (736, .iload_n 1, 1), (737, .iconst 4, 1), (738, .invokestatic 286, 3), (741, .putfield 290, 3), (744, .aload_n 0, 1), (745, .iload_n 2, 1), (746, .iconst 4, 1), (747, .invokestatic 286, 3), (750, .putfield 294, 3), (753, .aload_n 0, 1), (754, .iload_n 3, 1), (755, .bipush 8, 2), (757, .invokestatic 286, 3), (760, .putfield 297, 3), (763, .aload_n 0, 1), (764, .invokevirtual 300, 3), (767, .return_, 1)]
theorem dt_Ref_init_c15 (i : Nat) : decode (jm_cod M_Ref_init) (tab_Ref_init_c15.getD i (722, .newarray .long, 2)).1 = .ok ((tab_Ref_init_c15.getD i (722, .newarray .long, 2)).2.1, (tab_Ref_init_c15.getD i (722, .newarray .long, 2)).2.2) := j_tab (by decide +kernel) i
theorem d_Ref_init_722 : decode (jm_cod M_Ref_init) 722 = .ok (.newarray .long, 2) := dt_Ref_init_c15 0
theorem d_Ref_init_724 : decode (jm_cod M_Ref_init) 724 = .ok (.putfield 280, 3) := dt_Ref_init_c15 1
theorem d_Ref_init_727 : decode (jm_cod M_Ref_init) 727 = .ok (.aload_n 0, 1) := dt_Ref_init_c15 2
theorem d_Ref_init_728 : decode (jm_cod M_Ref_init) 728 = .ok (.bipush 10, 2) := dt_Ref_init_c15 3
theorem d_Ref_init_730 : decode (jm_cod M_Ref_init) 730 = .ok (.newarray .int, 2) := dt_Ref_init_c15 4
theorem d_Ref_init_732 : decode (jm_cod M_Ref_init) 732 = .ok (.putfield 283, 3) := dt_Ref_init_c15 5
theorem d_Ref_init_735 : decode (jm_cod M_Ref_init) 735 = .ok (.aload_n 0, 1) := dt_Ref_init_c15 6
theorem d_Ref_init_736 : decode (jm_cod M_Ref_init) 736 = .ok (.iload_n 1, 1) := dt_Ref_init_c15 7
theorem d_Ref_init_737 : decode (jm_cod M_Ref_init) 737 = .ok (.iconst 4, 1) := dt_Ref_init_c15 8
theorem d_Ref_init_738 : decode (jm_cod M_Ref_init) 738 = .ok (.invokestatic 286, 3) := dt_Ref_init_c15 9
theorem d_Ref_init_741 : decode (jm_cod M_Ref_init) 741 = .ok (.putfield 290, 3) := dt_Ref_init_c15 10
theorem d_Ref_init_744 : decode (jm_cod M_Ref_init) 744 = .ok (.aload_n 0, 1) := dt_Ref_init_c15 11
theorem d_Ref_init_745 : decode (jm_cod M_Ref_init) 745 = .ok (.iload_n 2, 1) := dt_Ref_init_c15 12
theorem d_Ref_init_746 : decode (jm_cod M_Ref_init) 746 = .ok (.iconst 4, 1) := dt_Ref_init_c15 13
theorem d_Ref_init_747 : decode (jm_cod M_Ref_init) 747 = .ok (.invokestatic 286, 3) := dt_Ref_init_c15 14
theorem d_Ref_init_750 : decode (jm_cod M_Ref_init) 750 = .ok (.putfield 294, 3) := dt_Ref_init_c15 15
theorem d_Ref_init_753 : decode (jm_cod M_Ref_init) 753 = .ok (.aload_n 0, 1) := dt_Ref_init_c15 16
theorem d_Ref_init_754 : decode (jm_cod M_Ref_init) 754 = .ok (.iload_n 3, 1) := dt_Ref_init_c15 17
theorem d_Ref_init_755 : decode (jm_cod M_Ref_init) 755 = .ok (.bipush 8, 2) := dt_Ref_init_c15 18
theorem d_Ref_init_757 : decode (jm_cod M_Ref_init) 757 = .ok (.invokestatic 286, 3) := dt_Ref_init_c15 19
theorem d_Ref_init_760 : decode (jm_cod M_Ref_init) 760 = .ok (.putfield 297, 3) := dt_Ref_init_c15 20
theorem d_Ref_init_763 : decode (jm_cod M_Ref_init) 763 = .ok (.aload_n 0, 1) := dt_Ref_init_c15 21
theorem d_Ref_init_764 : decode (jm_cod M_Ref_init) 764 = .ok (.invokevirtual 300, 3) := dt_Ref_init_c15 22
theorem d_Ref_init_767 : decode (jm_cod M_Ref_init) 767 = .ok (.return_, 1) := dt_Ref_init_c15 23
def tab_Ref_near_c0 : List (Nat × Instr × Nat) := [(0, .iload_n 0, 1), (1, .iconst 1, 1), (2, .if_icmp .ge 7, 3), (5, .iconst 1, 1), (6, .goto 13, 3), (9, .iload_n 0, 1), (10, .iload_n 1, 1), (11, .if_icmp .le 7, 3), (14, .iload_n 1, 1), (15, .goto 4, 3), (18, .iload_n 0, 1), (19, .ireturn, 1)]
theorem dt_Ref_near_c0 (i : Nat) : decode (jm_cod M_Ref_near) (tab_Ref_near_c0.getD i (0, .iload_n 0, 1)).1 = .ok ((tab_Ref_near_c0.getD i (0, .iload_n 0, 1)).2.1, (tab_Ref_near_c0.getD i (0, .iload_n 0, 1)).2.2) := j_tab (by decide +kernel) i
theorem d_Ref_near_0 : decode (jm_cod M_Ref_near) 0 = .ok (.iload_n 0, 1) := dt_Ref_near_c0 0
theorem d_Ref_near_1 : decode (jm_cod M_Ref_near) 1 = .ok (.iconst 1, 1) := dt_Ref_near_c0 1
theorem d_Ref_near_2 : decode (jm_cod M_Ref_near) 2 = .ok (.if_icmp .ge 7, 3) := dt_Ref_near_c0 2
theorem d_Ref_near_5 : decode (jm_cod M_Ref_near) 5 = .ok (.iconst 1, 1) := dt_Ref_near_c0 3
theorem d_Ref_near_6 : decode (jm_cod M_Ref_near) 6 = .ok (.goto 13, 3) := dt_Ref_near_c0 4
theorem d_Ref_near_9 : decode (jm_cod M_Ref_near) 9 = .ok (.iload_n 0, 1) := dt_Ref_near_c0 5
theorem d_Ref_near_10 : decode (jm_cod M_Ref_near) 10 = .ok (.iload_n 1, 1) := dt_Ref_near_c0 6
theorem d_Ref_near_11 : decode (jm_cod M_Ref_near) 11 = .ok (.if_icmp .le 7, 3) := dt_Ref_near_c0 7
theorem d_Ref_near_14 : decode (jm_cod M_Ref_near) 14 = .ok (.iload_n 1, 1) := dt_Ref_near_c0 8
theorem d_Ref_near_15 : decode (jm_cod M_Ref_near) 15 = .ok (.goto 4, 3) := dt_Ref_near_c0 9
theorem d_Ref_near_18 : decode (jm_cod M_Ref_near) 18 = .ok (.iload_n 0, 1) := dt_Ref_near_c0 10
theorem d_Ref_near_19 : decode (jm_cod M_Ref_near) 19 = .ok (.ireturn, 1) := dt_Ref_near_c0 11
def tab_Ref_clear_c0 : List (Nat × Instr × Nat) := [(0, .aload_n 0, 1), (1, .iconst 0, 1), (2, .putfield 303, 3), (5, .aload_n 0, 1), (6, .iconst 1, 1), (7, .putfield 532, 3), (10, .aload_n 0, 1), (11, .iconst 0, 1), (12, .putfield 559, 3), (15, .aload_n 0, 1), (16, .iconst 0, 1), (17, .putfield 348, 3), (20, .aload_n 0, 1), (21, .iconst 0, 1), (22, .putfield 337, 3), (25, .aload_n 0, 1), (26, .iconst 0, 1), (27, .putfield 526, 3), (30, .aload_n 0, 1), (31, .iconst 0, 1), (32, .putfield 529, 3), (35, .aload_n 0, 1), (36, .iconst 0, 1), (37, .putfield 553, 3)]
theorem dt_Ref_clear_c0 (i : Nat) : decode (jm_cod M_Ref_clear) (tab_Ref_clear_c0.getD i (0, .aload_n 0, 1)).1 = .ok ((tab_Ref_clear_c0.getD i (0, .aload_n 0, 1)).2.1, (tab_Ref_clear_c0.getD i (0, .aload_n 0, 1)).2.2) := j_tab (by decide +kernel) i
theorem d_Ref_clear_0 : decode (jm_cod M_Ref_clear) 0 = .ok (.aload_n 0, 1) := dt_Ref_clear_c0 0
theorem d_Ref_clear_1 : decode (jm_cod M_Ref_clear) 1 = .ok (.iconst 0, 1) := dt_Ref_clear_c0 1
theorem d_Ref_clear_2 : decode (jm_cod M_Ref_clear) 2 = .ok (.putfield 303, 3) := dt_Ref_clear_c0 2
theorem d_Ref_clear_5 : decode (jm_cod M_Ref_clear) 5 = .ok (.aload_n 0, 1) := dt_Ref_clear_c0 3
theorem d_Ref_clear_6 : decode (jm_cod M_Ref_clear) 6 = .ok (.iconst 1, 1) := dt_Ref_clear_c0 4
theorem d_Ref_clear_7 : decode (jm_cod M_Ref_clear) 7 = .ok (.putfield 532, 3) := dt_Ref_clear_c0 5
theorem d_Ref_clear_10 : decode (jm_cod M_Ref_clear) 10 = .ok (.aload_n 0, 1) := dt_Ref_clear_c0 6
theorem d_Ref_clear_11 : decode (jm_cod M_Ref_clear) 11 = .ok (.iconst 0, 1) := dt_Ref_clear_c0 7
theorem d_Ref_clear_12 : decode (jm_cod M_Ref_clear) 12 = .ok (.putfield 559, 3) := dt_Ref_clear_c0 8
theorem d_Ref_clear_15 : decode (jm_cod M_Ref_clear) 15 = .ok (.aload_n 0, 1) := dt_Ref_clear_c0 9
theorem d_Ref_clear_16 : decode (jm_cod M_Ref_clear) 16 = .ok (.iconst 0, 1) := dt_Ref_clear_c0 10
theorem d_Ref_clear_17 : decode (jm_cod M_Ref_clear) 17 = .ok (.putfield 348, 3) := dt_Ref_clear_c0 11
theorem d_Ref_clear_20 : decode (jm_cod M_Ref_clear) 20 = .ok (.aload_n 0, 1) := dt_Ref_clear_c0 12
theorem d_Ref_clear_21 : decode (jm_cod M_Ref_clear) 21 = .ok (.iconst 0, 1) := dt_Ref_clear_c0 13
theorem d_Ref_clear_22 : decode (jm_cod M_Ref_clear) 22 = .ok (.putfield 337, 3) := dt_Ref_clear_c0 14
theorem d_Ref_clear_25 : decode (jm_cod M_Ref_clear) 25 = .ok (.aload_n 0, 1) := dt_Ref_clear_c0 15
theorem d_Ref_clear_26 : decode (jm_cod M_Ref_clear) 26 = .ok (.iconst 0, 1) := dt_Ref_clear_c0 16
theorem d_Ref_clear_27 : decode (jm_cod M_Ref_clear) 27 = .ok (.putfield 526, 3) := dt_Ref_clear_c0 17
theorem d_Ref_clear_30 : decode (jm_cod M_Ref_clear) 30 = .ok (.aload_n 0, 1) := dt_Ref_clear_c0 18
theorem d_Ref_clear_31 : decode (jm_cod M_Ref_clear) 31 = .ok (.iconst 0, 1) := dt_Ref_clear_c0 19
theorem d_Ref_clear_32 : decode (jm_cod M_Ref_clear) 32 = .ok (.putfield 529, 3) := dt_Ref_clear_c0 20
theorem d_Ref_clear_35 : decode (jm_cod M_Ref_clear) 35 = .ok (.aload_n 0, 1) := dt_Ref_clear_c0 21
theorem d_Ref_clear_36 : decode (jm_cod M_Ref_clear) 36 = .ok (.iconst 0, 1) := dt_Ref_clear_c0 22
theorem d_Ref_clear_37 : decode (jm_cod M_Ref_clear) 37 = .ok (.putfield 553, 3) := dt_Ref_clear_c0 23
def tab_Ref_clear_c1 : List (Nat × Instr × Nat) := [(40, .iconst 0, 1), (41, .istore_n 1, 1), (42, .iload_n 1, 1), (43, .bipush 16, 2), (45, .if_icmp .ge 35, 3), (48, .aload_n 0, 1), (49, .getfield 7, 3), (52, .iload_n 1, 1), (53, .iload_n 1, 1), (54, .aload_n 0, 1), (55, .getfield 294, 3), (58, .irem, 1), (59, .iastore, 1), (60, .aload_n 0, 1), (61, .getfield 160, 3), (64, .iload_n 1, 1), (65, .iconst 0, 1), (66, .bastore, 1), (67, .aload_n 0, 1), (68, .getfield 187, 3), (71, .iload_n 1, 1), (72, .iconst 0, 1), (73, .bastore, 1), (74, .iinc 1 1, 3)]
theorem dt_Ref_clear_c1 (i : Nat) : decode (jm_cod M_Ref_clear) (tab_Ref_clear_c1.getD i (40, .iconst 0, 1)).1 = .ok ((tab_Ref_clear_c1.getD i (40, .iconst 0, 1)).2.1, (tab_Ref_clear_c1.getD i (40, .iconst 0, 1)).2.2) := j_tab (by decide +kernel) i
theorem d_Ref_clear_40 : decode (jm_cod M_Ref_clear) 40 = .ok (.iconst 0, 1) := dt_Ref_clear_c1 0
theorem d_Ref_clear_41 : decode (jm_cod M_Ref_clear) 41 = .ok (.istore_n 1, 1) := dt_Ref_clear_c1 1
theorem d_Ref_clear_42 : decode (jm_cod M_Ref_clear) 42 = .ok (.iload_n 1, 1) := dt_Ref_clear_c1 2
theorem d_Ref_clear_43 : decode (jm_cod M_Ref_clear) 43 = .ok (.bipush 16, 2) := dt_Ref_clear_c1 3
theorem d_Ref_clear_45 : decode (jm_cod M_Ref_clear) 45 = .ok (.if_icmp .ge 35, 3) := dt_Ref_clear_c1 4
theorem d_Ref_clear_48 : decode (jm_cod M_Ref_clear) 48 = .ok (.aload_n 0, 1) := dt_Ref_clear_c1 5
theorem d_Ref_clear_49 : decode (jm_cod M_Ref_clear) 49 = .ok (.getfield 7, 3) := dt_Ref_clear_c1 6
theorem d_Ref_clear_52 : decode (jm_cod M_Ref_clear) 52 = .ok (.iload_n 1, 1) := dt_Ref_clear_c1 7
theorem d_Ref_clear_53 : decode (jm_cod M_Ref_clear) 53 = .ok (.iload_n 1, 1) := dt_Ref_clear_c1 8
theorem d_Ref_clear_54 : decode (jm_cod M_Ref_clear) 54 = .ok (.aload_n 0, 1) := dt_Ref_clear_c1 9
theorem d_Ref_clear_55 : decode (jm_cod M_Ref_clear) 55 = .ok (.getfield 294, 3) := dt_Ref_clear_c1 10
theorem d_Ref_clear_58 : decode (jm_cod M_Ref_clear) 58 = .ok (.irem, 1) := dt_Ref_clear_c1 11
theorem d_Ref_clear_59 : decode (jm_cod M_Ref_clear) 59 = .ok (.iastore, 1) := dt_Ref_clear_c1 12
theorem d_Ref_clear_60 : decode (jm_cod M_Ref_clear) 60 = .ok (.aload_n 0, 1) := dt_Ref_clear_c1 13
theorem d_Ref_clear_61 : decode (jm_cod M_Ref_clear) 61 = .ok (.getfield 160, 3) := dt_Ref_clear_c1 14
theorem d_Ref_clear_64 : decode (jm_cod M_Ref_clear) 64 = .ok (.iload_n 1, 1) := dt_Ref_clear_c1 15
theorem d_Ref_clear_65 : decode (jm_cod M_Ref_clear) 65 = .ok (.iconst 0, 1) := dt_Ref_clear_c1 16
theorem d_Ref_clear_66 : decode (jm_cod M_Ref_clear) 66 = .ok (.bastore, 1) := dt_Ref_clear_c1 17
theorem d_Ref_clear_67 : decode (jm_cod M_Ref_clear) 67 = .ok (.aload_n 0, 1) := dt_Ref_clear_c1 18
theorem d_Ref_clear_68 : decode (jm_cod M_Ref_clear) 68 = .ok (.getfield 187, 3) := dt_Ref_clear_c1 19
theorem d_Ref_clear_71 : decode (jm_cod M_Ref_clear) 71 = .ok (.iload_n 1, 1) := dt_Ref_clear_c1 20
theorem d_Ref_clear_72 : decode (jm_cod M_Ref_clear) 72 = .ok (.iconst 0, 1) := dt_Ref_clear_c1 21
theorem d_Ref_clear_73 : decode (jm_cod M_Ref_clear) 73 = .ok (.bastore, 1) := dt_Ref_clear_c1 22
theorem d_Ref_clear_74 : decode (jm_cod M_Ref_clear) 74 = .ok (.iinc 1 1, 3) := dt_Ref_clear_c1 23
def tab_Ref_clear_c2 : List (Nat × Instr × Nat) := [(77, .goto (-35), 3), (80, .iconst 0, 1), (81, .istore_n 1, 1), (82, .iload_n 1, 1), (83, .bipush 20, 2), (85, .if_icmp .ge 27, 3), (88, .aload_n 0, 1), (89, .getfield 13, 3), (92, .iload_n 1, 1), (93, .ldc_w 611, 3), (96, .iastore, 1), (97, .aload_n 0, 1), (98, .getfield 16, 3), (101, .iload_n 1, 1), (102, .ldc_w 611, 3), (105, .iastore, 1), (106, .iinc 1 1, 3), (109, .goto (-27), 3), (112, .iconst 0, 1), (113, .istore_n 1, 1), (114, .iload_n 1, 1), (115, .bipush 40, 2), (117, .if_icmp .ge 38, 3), (120, .aload_n 0, 1)]
theorem dt_Ref_clear_c2 (i : Nat) : decode (jm_cod M_Ref_clear) (tab_Ref_clear_c2.getD i (77, .goto (-35), 3)).1 = .ok ((tab_Ref_clear_c2.getD i (77, .goto (-35), 3)).2.1, (tab_Ref_clear_c2.getD i (77, .goto (-35), 3)).2.2) := j_tab (by decide +kernel) i
theorem d_Ref_clear_77 : decode (jm_cod M_Ref_clear) 77 = .ok (.goto (-35), 3) := dt_Ref_clear_c2 0
theorem d_Ref_clear_80 : decode (jm_cod M_Ref_clear) 80 = .ok (.iconst 0, 1) := dt_Ref_clear_c2 1
theorem d_Ref_clear_81 : decode (jm_cod M_Ref_clear) 81 = .ok (.istore_n 1, 1) := dt_Ref_clear_c2 2
theorem d_Ref_clear_82 : decode (jm_cod M_Ref_clear) 82 = .ok (.iload_n 1, 1) := dt_Ref_clear_c2 3
theorem d_Ref_clear_83 : decode (jm_cod M_Ref_clear) 83 = .ok (.bipush 20, 2) := dt_Ref_clear_c2 4
theorem d_Ref_clear_85 : decode (jm_cod M_Ref_clear) 85 = .ok (.if_icmp .ge 27, 3) := dt_Ref_clear_c2 5
theorem d_Ref_clear_88 : decode (jm_cod M_Ref_clear) 88 = .ok (.aload_n 0, 1) := dt_Ref_clear_c2 6
theorem d_Ref_clear_89 : decode (jm_cod M_Ref_clear) 89 = .ok (.getfield 13, 3) := dt_Ref_clear_c2 7
theorem d_Ref_clear_92 : decode (jm_cod M_Ref_clear) 92 = .ok (.iload_n 1, 1) := dt_Ref_clear_c2 8
theorem d_Ref_clear_93 : decode (jm_cod M_Ref_clear) 93 = .ok (.ldc_w 611, 3) := dt_Ref_clear_c2 9
theorem d_Ref_clear_96 : decode (jm_cod M_Ref_clear) 96 = .ok (.iastore, 1) := dt_Ref_clear_c2 10
theorem d_Ref_clear_97 : decode (jm_cod M_Ref_clear) 97 = .ok (.aload_n 0, 1) := dt_Ref_clear_c2 11
theorem d_Ref_clear_98 : decode (jm_cod M_Ref_clear) 98 = .ok (.getfield 16, 3) := dt_Ref_clear_c2 12
theorem d_Ref_clear_101 : decode (jm_cod M_Ref_clear) 101 = .ok (.iload_n 1, 1) := dt_Ref_clear_c2 13
theorem d_Ref_clear_102 : decode (jm_cod M_Ref_clear) 102 = .ok (.ldc_w 611, 3) := dt_Ref_clear_c2 14
theorem d_Ref_clear_105 : decode (jm_cod M_Ref_clear) 105 = .ok (.iastore, 1) := dt_Ref_clear_c2 15
theorem d_Ref_clear_106 : decode (jm_cod M_Ref_clear) 106 = .ok (.iinc 1 1, 3) := dt_Ref_clear_c2 16
theorem d_Ref_clear_109 : decode (jm_cod M_Ref_clear) 109 = .ok (.goto (-27), 3) := dt_Ref_clear_c2 17
theorem d_Ref_clear_112 : decode (jm_cod M_Ref_clear) 112 = .ok (.iconst 0, 1) := dt_Ref_clear_c2 18
theorem d_Ref_clear_113 : decode (jm_cod M_Ref_clear) 113 = .ok (.istore_n 1, 1) := dt_Ref_clear_c2 19
theorem d_Ref_clear_114 : decode (jm_cod M_Ref_clear) 114 = .ok (.iload_n 1, 1) := dt_Ref_clear_c2 20
theorem d_Ref_clear_115 : decode (jm_cod M_Ref_clear) 115 = .ok (.bipush 40, 2) := dt_Ref_clear_c2 21
theorem d_Ref_clear_117 : decode (jm_cod M_Ref_clear) 117 = .ok (.if_icmp .ge 38, 3) := dt_Ref_clear_c2 22
theorem d_Ref_clear_120 : decode (jm_cod M_Ref_clear) 120 = .ok (.aload_n 0, 1) := dt_Ref_clear_c2 23
def tab_Ref_clear_c3 : List (Nat × Instr × Nat) := [(121, .iload_n 1, 1), (122, .iconst 0, 1), (123, .lconst 0, 1), (124, .iconst 0, 1), (125, .invokevirtual 359, 3), (128, .aload_n 0, 1), (129, .getfield 91, 3), (132, .iload_n 1, 1), (133, .iconst 0, 1), (134, .bastore, 1), (135, .aload_n 0, 1), (136, .getfield 100, 3), (139, .iload_n 1, 1), (140, .iconst 0, 1), (141, .bastore, 1), (142, .aload_n 0, 1), (143, .getfield 103, 3), (146, .iload_n 1, 1), (147, .iconst 0, 1), (148, .iastore, 1), (149, .iinc 1 1, 3), (152, .goto (-38), 3), (155, .iconst 0, 1), (156, .istore_n 1, 1)]
theorem dt_Ref_clear_c3 (i : Nat) : decode (jm_cod M_Ref_clear) (tab_Ref_clear_c3.getD i (121, .iload_n 1, 1)).1 = .ok ((tab_Ref_clear_c3.getD i (121, .iload_n 1, 1)).2.1, (tab_Ref_clear_c3.getD i (121, .iload_n 1, 1)).2.2) := j_tab (by decide +kernel) i
theorem d_Ref_clear_121 : decode (jm_cod M_Ref_clear) 121 = .ok (.iload_n 1, 1) := dt_Ref_clear_c3 0
theorem d_Ref_clear_122 : decode (jm_cod M_Ref_clear) 122 = .ok (.iconst 0, 1) := dt_Ref_clear_c3 1
theorem d_Ref_clear_123 : decode (jm_cod M_Ref_clear) 123 = .ok (.lconst 0, 1) := dt_Ref_clear_c3 2
theorem d_Ref_clear_124 : decode (jm_cod M_Ref_clear) 124 = .ok (.iconst 0, 1) := dt_Ref_clear_c3 3
theorem d_Ref_clear_125 : decode (jm_cod M_Ref_clear) 125 = .ok (.invokevirtual 359, 3) := dt_Ref_clear_c3 4
theorem d_Ref_clear_128 : decode (jm_cod M_Ref_clear) 128 = .ok (.aload_n 0, 1) := dt_Ref_clear_c3 5
theorem d_Ref_clear_129 : decode (jm_cod M_Ref_clear) 129 = .ok (.getfield 91, 3) := dt_Ref_clear_c3 6
theorem d_Ref_clear_132 : decode (jm_cod M_Ref_clear) 132 = .ok (.iload_n 1, 1) := dt_Ref_clear_c3 7
theorem d_Ref_clear_133 : decode (jm_cod M_Ref_clear) 133 = .ok (.iconst 0, 1) := dt_Ref_clear_c3 8
theorem d_Ref_clear_134 : decode (jm_cod M_Ref_clear) 134 = .ok (.bastore, 1) := dt_Ref_clear_c3 9
theorem d_Ref_clear_135 : decode (jm_cod M_Ref_clear) 135 = .ok (.aload_n 0, 1) := dt_Ref_clear_c3 10
theorem d_Ref_clear_136 : decode (jm_cod M_Ref_clear) 136 = .ok (.getfield 100, 3) := dt_Ref_clear_c3 11
theorem d_Ref_clear_139 : decode (jm_cod M_Ref_clear) 139 = .ok (.iload_n 1, 1) := dt_Ref_clear_c3 12
theorem d_Ref_clear_140 : decode (jm_cod M_Ref_clear) 140 = .ok (.iconst 0, 1) := dt_Ref_clear_c3 13
theorem d_Ref_clear_141 : decode (jm_cod M_Ref_clear) 141 = .ok (.bastore, 1) := dt_Ref_clear_c3 14
theorem d_Ref_clear_142 : decode (jm_cod M_Ref_clear) 142 = .ok (.aload_n 0, 1) := dt_Ref_clear_c3 15
theorem d_Ref_clear_143 : decode (jm_cod M_Ref_clear) 143 = .ok (.getfield 103, 3) := dt_Ref_clear_c3 16
theorem d_Ref_clear_146 : decode (jm_cod M_Ref_clear) 146 = .ok (.iload_n 1, 1) := dt_Ref_clear_c3 17
theorem d_Ref_clear_147 : decode (jm_cod M_Ref_clear) 147 = .ok (.iconst 0, 1) := dt_Ref_clear_c3 18
theorem d_Ref_clear_148 : decode (jm_cod M_Ref_clear) 148 = .ok (.iastore, 1) := dt_Ref_clear_c3 19
theorem d_Ref_clear_149 : decode (jm_cod M_Ref_clear) 149 = .ok (.iinc 1 1, 3) := dt_Ref_clear_c3 20
theorem d_Ref_clear_152 : decode (jm_cod M_Ref_clear) 152 = .ok (.goto (-38), 3) := dt_Ref_clear_c3 21
theorem d_Ref_clear_155 : decode (jm_cod M_Ref_clear) 155 = .ok (.iconst 0, 1) := dt_Ref_clear_c3 22
theorem d_Ref_clear_156 : decode (jm_cod M_Ref_clear) 156 = .ok (.istore_n 1, 1) := dt_Ref_clear_c3 23
def tab_Ref_clear_c4 : List (Nat × Instr × Nat) := [(157, .iload_n 1, 1), (158, .bipush 45, 2), (160, .if_icmp .ge 16, 3), (163, .aload_n 0, 1), (164, .getfield 115, 3), (167, .iload_n 1, 1), (168, .iconst 0, 1), (169, .iastore, 1), (170, .iinc 1 1, 3), (173, .goto (-16), 3), (176, .iconst 0, 1), (177, .istore_n 1, 1), (178, .iload_n 1, 1), (179, .iconst 5, 1), (180, .if_icmp .ge 33, 3), (183, .aload_n 0, 1), (184, .getfield 139, 3), (187, .iload_n 1, 1), (188, .aload_n 0, 1), (189, .getfield 290, 3), (192, .iconst 1, 1), (193, .isub, 1), (194, .iastore, 1), (195, .aload_n 0, 1)]
theorem dt_Ref_clear_c4 (i : Nat) : decode (jm_cod M_Ref_clear) (tab_Ref_clear_c4.getD i (157, .iload_n 1, 1)).1 = .ok ((tab_Ref_clear_c4.getD i (157, .iload_n 1, 1)).2.1, (tab_Ref_clear_c4.getD i (157, .iload_n 1, 1)).2.2) := j_tab (by decide +kernel) i
theorem d_Ref_clear_157 : decode (jm_cod M_Ref_clear) 157 = .ok (.iload_n 1, 1) := dt_Ref_clear_c4 0
theorem d_Ref_clear_158 : decode (jm_cod M_Ref_clear) 158 = .ok (.bipush 45, 2) := dt_Ref_clear_c4 1
theorem d_Ref_clear_160 : decode (jm_cod M_Ref_clear) 160 = .ok (.if_icmp .ge 16, 3) := dt_Ref_clear_c4 2
theorem d_Ref_clear_163 : decode (jm_cod M_Ref_clear) 163 = .ok (.aload_n 0, 1) := dt_Ref_clear_c4 3
theorem d_Ref_clear_164 : decode (jm_cod M_Ref_clear) 164 = .ok (.getfield 115, 3) := dt_Ref_clear_c4 4
theorem d_Ref_clear_167 : decode (jm_cod M_Ref_clear) 167 = .ok (.iload_n 1, 1) := dt_Ref_clear_c4 5
theorem d_Ref_clear_168 : decode (jm_cod M_Ref_clear) 168 = .ok (.iconst 0, 1) := dt_Ref_clear_c4 6
theorem d_Ref_clear_169 : decode (jm_cod M_Ref_clear) 169 = .ok (.iastore, 1) := dt_Ref_clear_c4 7
theorem d_Ref_clear_170 : decode (jm_cod M_Ref_clear) 170 = .ok (.iinc 1 1, 3) := dt_Ref_clear_c4 8
theorem d_Ref_clear_173 : decode (jm_cod M_Ref_clear) 173 = .ok (.goto (-16), 3) := dt_Ref_clear_c4 9
theorem d_Ref_clear_176 : decode (jm_cod M_Ref_clear) 176 = .ok (.iconst 0, 1) := dt_Ref_clear_c4 10
theorem d_Ref_clear_177 : decode (jm_cod M_Ref_clear) 177 = .ok (.istore_n 1, 1) := dt_Ref_clear_c4 11
theorem d_Ref_clear_178 : decode (jm_cod M_Ref_clear) 178 = .ok (.iload_n 1, 1) := dt_Ref_clear_c4 12
theorem d_Ref_clear_179 : decode (jm_cod M_Ref_clear) 179 = .ok (.iconst 5, 1) := dt_Ref_clear_c4 13
theorem d_Ref_clear_180 : decode (jm_cod M_Ref_clear) 180 = .ok (.if_icmp .ge 33, 3) := dt_Ref_clear_c4 14
theorem d_Ref_clear_183 : decode (jm_cod M_Ref_clear) 183 = .ok (.aload_n 0, 1) := dt_Ref_clear_c4 15
theorem d_Ref_clear_184 : decode (jm_cod M_Ref_clear) 184 = .ok (.getfield 139, 3) := dt_Ref_clear_c4 16
theorem d_Ref_clear_187 : decode (jm_cod M_Ref_clear) 187 = .ok (.iload_n 1, 1) := dt_Ref_clear_c4 17
theorem d_Ref_clear_188 : decode (jm_cod M_Ref_clear) 188 = .ok (.aload_n 0, 1) := dt_Ref_clear_c4 18
theorem d_Ref_clear_189 : decode (jm_cod M_Ref_clear) 189 = .ok (.getfield 290, 3) := dt_Ref_clear_c4 19
theorem d_Ref_clear_192 : decode (jm_cod M_Ref_clear) 192 = .ok (.iconst 1, 1) := dt_Ref_clear_c4 20
theorem d_Ref_clear_193 : decode (jm_cod M_Ref_clear) 193 = .ok (.isub, 1) := dt_Ref_clear_c4 21
theorem d_Ref_clear_194 : decode (jm_cod M_Ref_clear) 194 = .ok (.iastore, 1) := dt_Ref_clear_c4 22
theorem d_Ref_clear_195 : decode (jm_cod M_Ref_clear) 195 = .ok (.aload_n 0, 1) := dt_Ref_clear_c4 23
def tab_Ref_clear_c5 : List (Nat × Instr × Nat) := [(196, .getfield 142, 3), (199, .iload_n 1, 1), (200, .aload_n 0, 1), (201, .getfield 290, 3), (204, .iconst 1, 1), (205, .isub, 1), (206, .iastore, 1), (207, .iinc 1 1, 3), (210, .goto (-32), 3), (213, .iconst 0, 1), (214, .istore_n 1, 1), (215, .iload_n 1, 1), (216, .iconst 4, 1), (217, .if_icmp .ge 85, 3), (220, .aload_n 0, 1), (221, .getfield 19, 3), (224, .iload_n 1, 1), (225, .iconst 0, 1), (226, .bastore, 1), (227, .aload_n 0, 1), (228, .getfield 23, 3), (231, .iload_n 1, 1), (232, .iconst 0, 1), (233, .iastore, 1)]
theorem dt_Ref_clear_c5 (i : Nat) : decode (jm_cod M_Ref_clear) (tab_Ref_clear_c5.getD i (196, .getfield 142, 3)).1 = .ok ((tab_Ref_clear_c5.getD i (196, .getfield 142, 3)).2.1, (tab_Ref_clear_c5.getD i (196, .getfield 142, 3)).2.2) := j_tab (by decide +kernel) i
theorem d_Ref_clear_196 : decode (jm_cod M_Ref_clear) 196 = .ok (.getfield 142, 3) := dt_Ref_clear_c5 0
theorem d_Ref_clear_199 : decode (jm_cod M_Ref_clear) 199 = .ok (.iload_n 1, 1) := dt_Ref_clear_c5 1
theorem d_Ref_clear_200 : decode (jm_cod M_Ref_clear) 200 = .ok (.aload_n 0, 1) := dt_Ref_clear_c5 2
theorem d_Ref_clear_201 : decode (jm_cod M_Ref_clear) 201 = .ok (.getfield 290, 3) := dt_Ref_clear_c5 3
theorem d_Ref_clear_204 : decode (jm_cod M_Ref_clear) 204 = .ok (.iconst 1, 1) := dt_Ref_clear_c5 4
theorem d_Ref_clear_205 : decode (jm_cod M_Ref_clear) 205 = .ok (.isub, 1) := dt_Ref_clear_c5 5
theorem d_Ref_clear_206 : decode (jm_cod M_Ref_clear) 206 = .ok (.iastore, 1) := dt_Ref_clear_c5 6
theorem d_Ref_clear_207 : decode (jm_cod M_Ref_clear) 207 = .ok (.iinc 1 1, 3) := dt_Ref_clear_c5 7
theorem d_Ref_clear_210 : decode (jm_cod M_Ref_clear) 210 = .ok (.goto (-32), 3) := dt_Ref_clear_c5 8
theorem d_Ref_clear_213 : decode (jm_cod M_Ref_clear) 213 = .ok (.iconst 0, 1) := dt_Ref_clear_c5 9
theorem d_Ref_clear_214 : decode (jm_cod M_Ref_clear) 214 = .ok (.istore_n 1, 1) := dt_Ref_clear_c5 10
theorem d_Ref_clear_215 : decode (jm_cod M_Ref_clear) 215 = .ok (.iload_n 1, 1) := dt_Ref_clear_c5 11
theorem d_Ref_clear_216 : decode (jm_cod M_Ref_clear) 216 = .ok (.iconst 4, 1) := dt_Ref_clear_c5 12
theorem d_Ref_clear_217 : decode (jm_cod M_Ref_clear) 217 = .ok (.if_icmp .ge 85, 3) := dt_Ref_clear_c5 13
theorem d_Ref_clear_220 : decode (jm_cod M_Ref_clear) 220 = .ok (.aload_n 0, 1) := dt_Ref_clear_c5 14
theorem d_Ref_clear_221 : decode (jm_cod M_Ref_clear) 221 = .ok (.getfield 19, 3) := dt_Ref_clear_c5 15
theorem d_Ref_clear_224 : decode (jm_cod M_Ref_clear) 224 = .ok (.iload_n 1, 1) := dt_Ref_clear_c5 16
theorem d_Ref_clear_225 : decode (jm_cod M_Ref_clear) 225 = .ok (.iconst 0, 1) := dt_Ref_clear_c5 17
theorem d_Ref_clear_226 : decode (jm_cod M_Ref_clear) 226 = .ok (.bastore, 1) := dt_Ref_clear_c5 18
theorem d_Ref_clear_227 : decode (jm_cod M_Ref_clear) 227 = .ok (.aload_n 0, 1) := dt_Ref_clear_c5 19
theorem d_Ref_clear_228 : decode (jm_cod M_Ref_clear) 228 = .ok (.getfield 23, 3) := dt_Ref_clear_c5 20
theorem d_Ref_clear_231 : decode (jm_cod M_Ref_clear) 231 = .ok (.iload_n 1, 1) := dt_Ref_clear_c5 21
theorem d_Ref_clear_232 : decode (jm_cod M_Ref_clear) 232 = .ok (.iconst 0, 1) := dt_Ref_clear_c5 22
theorem d_Ref_clear_233 : decode (jm_cod M_Ref_clear) 233 = .ok (.iastore, 1) := dt_Ref_clear_c5 23
def tab_Ref_clear_c6 : List (Nat × Instr × Nat) := [(234, .aload_n 0, 1), (235, .getfield 26, 3), (238, .iload_n 1, 1), (239, .iconst 0, 1), (240, .iastore, 1), (241, .aload_n 0, 1), (242, .getfield 145, 3), (245, .iload_n 1, 1), (246, .aload_n 0, 1), (247, .getfield 294, 3), (250, .iastore, 1), (251, .aload_n 0, 1), (252, .getfield 148, 3), (255, .iload_n 1, 1), (256, .aload_n 0, 1), (257, .getfield 294, 3), (260, .iastore, 1), (261, .aload_n 0, 1), (262, .getfield 151, 3), (265, .iload_n 1, 1), (266, .iconst 0, 1), (267, .bastore, 1), (268, .aload_n 0, 1), (269, .getfield 154, 3)]
theorem dt_Ref_clear_c6 (i : Nat) : decode (jm_cod M_Ref_clear) (tab_Ref_clear_c6.getD i (234, .aload_n 0, 1)).1 = .ok ((tab_Ref_clear_c6.getD i (234, .aload_n 0, 1)).2.1, (tab_Ref_clear_c6.getD i (234, .aload_n 0, 1)).2.2) := j_tab (by decide +kernel) i
theorem d_Ref_clear_234 : decode (jm_cod M_Ref_clear) 234 = .ok (.aload_n 0, 1) := dt_Ref_clear_c6 0
theorem d_Ref_clear_235 : decode (jm_cod M_Ref_clear) 235 = .ok (.getfield 26, 3) := dt_Ref_clear_c6 1
theorem d_Ref_clear_238 : decode (jm_cod M_Ref_clear) 238 = .ok (.iload_n 1, 1) := dt_Ref_clear_c6 2
theorem d_Ref_clear_239 : decode (jm_cod M_Ref_clear) 239 = .ok (.iconst 0, 1) := dt_Ref_clear_c6 3
theorem d_Ref_clear_240 : decode (jm_cod M_Ref_clear) 240 = .ok (.iastore, 1) := dt_Ref_clear_c6 4
theorem d_Ref_clear_241 : decode (jm_cod M_Ref_clear) 241 = .ok (.aload_n 0, 1) := dt_Ref_clear_c6 5
theorem d_Ref_clear_242 : decode (jm_cod M_Ref_clear) 242 = .ok (.getfield 145, 3) := dt_Ref_clear_c6 6
theorem d_Ref_clear_245 : decode (jm_cod M_Ref_clear) 245 = .ok (.iload_n 1, 1) := dt_Ref_clear_c6 7
theorem d_Ref_clear_246 : decode (jm_cod M_Ref_clear) 246 = .ok (.aload_n 0, 1) := dt_Ref_clear_c6 8
theorem d_Ref_clear_247 : decode (jm_cod M_Ref_clear) 247 = .ok (.getfield 294, 3) := dt_Ref_clear_c6 9
theorem d_Ref_clear_250 : decode (jm_cod M_Ref_clear) 250 = .ok (.iastore, 1) := dt_Ref_clear_c6 10
theorem d_Ref_clear_251 : decode (jm_cod M_Ref_clear) 251 = .ok (.aload_n 0, 1) := dt_Ref_clear_c6 11
theorem d_Ref_clear_252 : decode (jm_cod M_Ref_clear) 252 = .ok (.getfield 148, 3) := dt_Ref_clear_c6 12
theorem d_Ref_clear_255 : decode (jm_cod M_Ref_clear) 255 = .ok (.iload_n 1, 1) := dt_Ref_clear_c6 13
theorem d_Ref_clear_256 : decode (jm_cod M_Ref_clear) 256 = .ok (.aload_n 0, 1) := dt_Ref_clear_c6 14
theorem d_Ref_clear_257 : decode (jm_cod M_Ref_clear) 257 = .ok (.getfield 294, 3) := dt_Ref_clear_c6 15
theorem d_Ref_clear_260 : decode (jm_cod M_Ref_clear) 260 = .ok (.iastore, 1) := dt_Ref_clear_c6 16
theorem d_Ref_clear_261 : decode (jm_cod M_Ref_clear) 261 = .ok (.aload_n 0, 1) := dt_Ref_clear_c6 17
theorem d_Ref_clear_262 : decode (jm_cod M_Ref_clear) 262 = .ok (.getfield 151, 3) := dt_Ref_clear_c6 18
theorem d_Ref_clear_265 : decode (jm_cod M_Ref_clear) 265 = .ok (.iload_n 1, 1) := dt_Ref_clear_c6 19
theorem d_Ref_clear_266 : decode (jm_cod M_Ref_clear) 266 = .ok (.iconst 0, 1) := dt_Ref_clear_c6 20
theorem d_Ref_clear_267 : decode (jm_cod M_Ref_clear) 267 = .ok (.bastore, 1) := dt_Ref_clear_c6 21
theorem d_Ref_clear_268 : decode (jm_cod M_Ref_clear) 268 = .ok (.aload_n 0, 1) := dt_Ref_clear_c6 22
theorem d_Ref_clear_269 : decode (jm_cod M_Ref_clear) 269 = .ok (.getfield 154, 3) := dt_Ref_clear_c6 23
def tab_Ref_clear_c7 : List (Nat × Instr × Nat) := [(272, .iload_n 1, 1), (273, .iconst 0, 1), (274, .iastore, 1), (275, .aload_n 0, 1), (276, .getfield 181, 3), (279, .iload_n 1, 1), (280, .iconst 0, 1), (281, .iastore, 1), (282, .aload_n 0, 1), (283, .getfield 208, 3), (286, .iload_n 1, 1), (287, .iconst 0, 1), (288, .iastore, 1), (289, .aload_n 0, 1), (290, .getfield 211, 3), (293, .iload_n 1, 1), (294, .iconst (-1), 1), (295, .iastore, 1), (296, .iinc 1 1, 3), (299, .goto (-84), 3), (302, .iconst 0, 1), (303, .istore_n 1, 1), (304, .iload_n 1, 1), (305, .sipush 256, 3)]
theorem dt_Ref_clear_c7 (i : Nat) : decode (jm_cod M_Ref_clear) (tab_Ref_clear_c7.getD i (272, .iload_n 1, 1)).1 = .ok ((tab_Ref_clear_c7.getD i (272, .iload_n 1, 1)).2.1, (tab_Ref_clear_c7.getD i (272, .iload_n 1, 1)).2.2) := j_tab (by decide +kernel) i
theorem d_Ref_clear_272 : decode (jm_cod M_Ref_clear) 272 = .ok (.iload_n 1, 1) := dt_Ref_clear_c7 0
theorem d_Ref_clear_273 : decode (jm_cod M_Ref_clear) 273 = .ok (.iconst 0, 1) := dt_Ref_clear_c7 1
theorem d_Ref_clear_274 : decode (jm_cod M_Ref_clear) 274 = .ok (.iastore, 1) := dt_Ref_clear_c7 2
theorem d_Ref_clear_275 : decode (jm_cod M_Ref_clear) 275 = .ok (.aload_n 0, 1) := dt_Ref_clear_c7 3
theorem d_Ref_clear_276 : decode (jm_cod M_Ref_clear) 276 = .ok (.getfield 181, 3) := dt_Ref_clear_c7 4
theorem d_Ref_clear_279 : decode (jm_cod M_Ref_clear) 279 = .ok (.iload_n 1, 1) := dt_Ref_clear_c7 5
theorem d_Ref_clear_280 : decode (jm_cod M_Ref_clear) 280 = .ok (.iconst 0, 1) := dt_Ref_clear_c7 6
theorem d_Ref_clear_281 : decode (jm_cod M_Ref_clear) 281 = .ok (.iastore, 1) := dt_Ref_clear_c7 7
theorem d_Ref_clear_282 : decode (jm_cod M_Ref_clear) 282 = .ok (.aload_n 0, 1) := dt_Ref_clear_c7 8
theorem d_Ref_clear_283 : decode (jm_cod M_Ref_clear) 283 = .ok (.getfield 208, 3) := dt_Ref_clear_c7 9
theorem d_Ref_clear_286 : decode (jm_cod M_Ref_clear) 286 = .ok (.iload_n 1, 1) := dt_Ref_clear_c7 10
theorem d_Ref_clear_287 : decode (jm_cod M_Ref_clear) 287 = .ok (.iconst 0, 1) := dt_Ref_clear_c7 11
theorem d_Ref_clear_288 : decode (jm_cod M_Ref_clear) 288 = .ok (.iastore, 1) := dt_Ref_clear_c7 12
theorem d_Ref_clear_289 : decode (jm_cod M_Ref_clear) 289 = .ok (.aload_n 0, 1) := dt_Ref_clear_c7 13
theorem d_Ref_clear_290 : decode (jm_cod M_Ref_clear) 290 = .ok (.getfield 211, 3) := dt_Ref_clear_c7 14
theorem d_Ref_clear_293 : decode (jm_cod M_Ref_clear) 293 = .ok (.iload_n 1, 1) := dt_Ref_clear_c7 15
theorem d_Ref_clear_294 : decode (jm_cod M_Ref_clear) 294 = .ok (.iconst (-1), 1) := dt_Ref_clear_c7 16
theorem d_Ref_clear_295 : decode (jm_cod M_Ref_clear) 295 = .ok (.iastore, 1) := dt_Ref_clear_c7 17
theorem d_Ref_clear_296 : decode (jm_cod M_Ref_clear) 296 = .ok (.iinc 1 1, 3) := dt_Ref_clear_c7 18
theorem d_Ref_clear_299 : decode (jm_cod M_Ref_clear) 299 = .ok (.goto (-84), 3) := dt_Ref_clear_c7 19
theorem d_Ref_clear_302 : decode (jm_cod M_Ref_clear) 302 = .ok (.iconst 0, 1) := dt_Ref_clear_c7 20
theorem d_Ref_clear_303 : decode (jm_cod M_Ref_clear) 303 = .ok (.istore_n 1, 1) := dt_Ref_clear_c7 21
theorem d_Ref_clear_304 : decode (jm_cod M_Ref_clear) 304 = .ok (.iload_n 1, 1) := dt_Ref_clear_c7 22
theorem d_Ref_clear_305 : decode (jm_cod M_Ref_clear) 305 = .ok (.sipush 256, 3) := dt_Ref_clear_c7 23
def tab_Ref_clear_c8 : List (Nat × Instr × Nat) := [(308, .if_icmp .ge 16, 3), (311, .aload_n 0, 1), (312, .getfield 220, 3), (315, .iload_n 1, 1), (316, .iconst (-1), 1), (317, .iastore, 1), (318, .iinc 1 1, 3), (321, .goto (-17), 3), (324, .iconst 0, 1), (325, .istore_n 1, 1), (326, .iload_n 1, 1), (327, .ldc 29, 2), (329, .if_icmp .ge 23, 3), (332, .aload_n 0, 1), (333, .getfield 30, 3), (336, .iload_n 1, 1), (337, .iconst 0, 1), (338, .iastore, 1), (339, .aload_n 0, 1), (340, .getfield 33, 3), (343, .iload_n 1, 1), (344, .iconst 0, 1), (345, .bastore, 1), (346, .iinc 1 1, 3)]
theorem dt_Ref_clear_c8 (i : Nat) : decode (jm_cod M_Ref_clear) (tab_Ref_clear_c8.getD i (308, .if_icmp .ge 16, 3)).1 = .ok ((tab_Ref_clear_c8.getD i (308, .if_icmp .ge 16, 3)).2.1, (tab_Ref_clear_c8.getD i (308, .if_icmp .ge 16, 3)).2.2) := j_tab (by decide +kernel) i
theorem d_Ref_clear_308 : decode (jm_cod M_Ref_clear) 308 = .ok (.if_icmp .ge 16, 3) := dt_Ref_clear_c8 0
theorem d_Ref_clear_311 : decode (jm_cod M_Ref_clear) 311 = .ok (.aload_n 0, 1) := dt_Ref_clear_c8 1
theorem d_Ref_clear_312 : decode (jm_cod M_Ref_clear) 312 = .ok (.getfield 220, 3) := dt_Ref_clear_c8 2
theorem d_Ref_clear_315 : decode (jm_cod M_Ref_clear) 315 = .ok (.iload_n 1, 1) := dt_Ref_clear_c8 3
theorem d_Ref_clear_316 : decode (jm_cod M_Ref_clear) 316 = .ok (.iconst (-1), 1) := dt_Ref_clear_c8 4
theorem d_Ref_clear_317 : decode (jm_cod M_Ref_clear) 317 = .ok (.iastore, 1) := dt_Ref_clear_c8 5
theorem d_Ref_clear_318 : decode (jm_cod M_Ref_clear) 318 = .ok (.iinc 1 1, 3) := dt_Ref_clear_c8 6
theorem d_Ref_clear_321 : decode (jm_cod M_Ref_clear) 321 = .ok (.goto (-17), 3) := dt_Ref_clear_c8 7
theorem d_Ref_clear_324 : decode (jm_cod M_Ref_clear) 324 = .ok (.iconst 0, 1) := dt_Ref_clear_c8 8
theorem d_Ref_clear_325 : decode (jm_cod M_Ref_clear) 325 = .ok (.istore_n 1, 1) := dt_Ref_clear_c8 9
theorem d_Ref_clear_326 : decode (jm_cod M_Ref_clear) 326 = .ok (.iload_n 1, 1) := dt_Ref_clear_c8 10
theorem d_Ref_clear_327 : decode (jm_cod M_Ref_clear) 327 = .ok (.ldc 29, 2) := dt_Ref_clear_c8 11
theorem d_Ref_clear_329 : decode (jm_cod M_Ref_clear) 329 = .ok (.if_icmp .ge 23, 3) := dt_Ref_clear_c8 12
theorem d_Ref_clear_332 : decode (jm_cod M_Ref_clear) 332 = .ok (.aload_n 0, 1) := dt_Ref_clear_c8 13
theorem d_Ref_clear_333 : decode (jm_cod M_Ref_clear) 333 = .ok (.getfield 30, 3) := dt_Ref_clear_c8 14
theorem d_Ref_clear_336 : decode (jm_cod M_Ref_clear) 336 = .ok (.iload_n 1, 1) := dt_Ref_clear_c8 15
theorem d_Ref_clear_337 : decode (jm_cod M_Ref_clear) 337 = .ok (.iconst 0, 1) := dt_Ref_clear_c8 16
theorem d_Ref_clear_338 : decode (jm_cod M_Ref_clear) 338 = .ok (.iastore, 1) := dt_Ref_clear_c8 17
theorem d_Ref_clear_339 : decode (jm_cod M_Ref_clear) 339 = .ok (.aload_n 0, 1) := dt_Ref_clear_c8 18
theorem d_Ref_clear_340 : decode (jm_cod M_Ref_clear) 340 = .ok (.getfield 33, 3) := dt_Ref_clear_c8 19
theorem d_Ref_clear_343 : decode (jm_cod M_Ref_clear) 343 = .ok (.iload_n 1, 1) := dt_Ref_clear_c8 20
theorem d_Ref_clear_344 : decode (jm_cod M_Ref_clear) 344 = .ok (.iconst 0, 1) := dt_Ref_clear_c8 21
theorem d_Ref_clear_345 : decode (jm_cod M_Ref_clear) 345 = .ok (.bastore, 1) := dt_Ref_clear_c8 22
theorem d_Ref_clear_346 : decode (jm_cod M_Ref_clear) 346 = .ok (.iinc 1 1, 3) := dt_Ref_clear_c8 23
def tab_Ref_clear_c9 : List (Nat × Instr × Nat) := [(349, .goto (-23), 3), (352, .iconst 0, 1), (353, .istore_n 1, 1), (354, .iload_n 1, 1), (355, .bipush 10, 2), (357, .if_icmp .ge 14, 3), (360, .aload_n 0, 1), (361, .iload_n 1, 1), (362, .invokevirtual 647, 3), (365, .iinc 1 1, 3), (368, .goto (-14), 3), (371, .aload_n 0, 1), (372, .iconst 0, 1), (373, .invokevirtual 642, 3), (376, .aload_n 0, 1), (377, .iconst 1, 1), (378, .invokevirtual 642, 3), (381, .return_, 1)]
theorem dt_Ref_clear_c9 (i : Nat) : decode (jm_cod M_Ref_clear) (tab_Ref_clear_c9.getD i (349, .goto (-23), 3)).1 = .ok ((tab_Ref_clear_c9.getD i (349, .goto (-23), 3)).2.1, (tab_Ref_clear_c9.getD i (349, .goto (-23), 3)).2.2) := j_tab (by decide +kernel) i
theorem d_Ref_clear_349 : decode (jm_cod M_Ref_clear) 349 = .ok (.goto (-23), 3) := dt_Ref_clear_c9 0
theorem d_Ref_clear_352 : decode (jm_cod M_Ref_clear) 352 = .ok (.iconst 0, 1) := dt_Ref_clear_c9 1
theorem d_Ref_clear_353 : decode (jm_cod M_Ref_clear) 353 = .ok (.istore_n 1, 1) := dt_Ref_clear_c9 2
theorem d_Ref_clear_354 : decode (jm_cod M_Ref_clear) 354 = .ok (.iload_n 1, 1) := dt_Ref_clear_c9 3
theorem d_Ref_clear_355 : decode (jm_cod M_Ref_clear) 355 = .ok (.bipush 10, 2) := dt_Ref_clear_c9 4
theorem d_Ref_clear_357 : decode (jm_cod M_Ref_clear) 357 = .ok (.if_icmp .ge 14, 3) := dt_Ref_clear_c9 5
theorem d_Ref_clear_360 : decode (jm_cod M_Ref_clear) 360 = .ok (.aload_n 0, 1) := dt_Ref_clear_c9 6
theorem d_Ref_clear_361 : decode (jm_cod M_Ref_clear) 361 = .ok (.iload_n 1, 1) := dt_Ref_clear_c9 7
theorem d_Ref_clear_362 : decode (jm_cod M_Ref_clear) 362 = .ok (.invokevirtual 647, 3) := dt_Ref_clear_c9 8
theorem d_Ref_clear_365 : decode (jm_cod M_Ref_clear) 365 = .ok (.iinc 1 1, 3) := dt_Ref_clear_c9 9
theorem d_Ref_clear_368 : decode (jm_cod M_Ref_clear) 368 = .ok (.goto (-14), 3) := dt_Ref_clear_c9 10
theorem d_Ref_clear_371 : decode (jm_cod M_Ref_clear) 371 = .ok (.aload_n 0, 1) := dt_Ref_clear_c9 11
theorem d_Ref_clear_372 : decode (jm_cod M_Ref_clear) 372 = .ok (.iconst 0, 1) := dt_Ref_clear_c9 12
theorem d_Ref_clear_373 : decode (jm_cod M_Ref_clear) 373 = .ok (.invokevirtual 642, 3) := dt_Ref_clear_c9 13
theorem d_Ref_clear_376 : decode (jm_cod M_Ref_clear) 376 = .ok (.aload_n 0, 1) := dt_Ref_clear_c9 14
theorem d_Ref_clear_377 : decode (jm_cod M_Ref_clear) 377 = .ok (.iconst 1, 1) := dt_Ref_clear_c9 15
theorem d_Ref_clear_378 : decode (jm_cod M_Ref_clear) 378 = .ok (.invokevirtual 642, 3) := dt_Ref_clear_c9 16
theorem d_Ref_clear_381 : decode (jm_cod M_Ref_clear) 381 = .ok (.return_, 1) := dt_Ref_clear_c9 17
def tab_Ref_show_c0 : List (Nat × Instr × Nat) := [(0, .aload_n 0, 1), (1, .getfield 88, 3), (4, .iload_n 1, 1), (5, .iload_n 2, 1), (6, .bastore, 1), (7, .aload_n 0, 1), (8, .getfield 94, 3), (11, .iload_n 1, 1), (12, .iload_n 2, 1), (13, .ifCond .eq 7, 3), (16, .lload_n 3, 1), (17, .goto 4, 3), (20, .lconst 0, 1), (21, .lastore, 1), (22, .aload_n 0, 1), (23, .getfield 97, 3), (26, .iload_n 1, 1), (27, .iload_n 2, 1), (28, .ifCond .eq 8, 3), (31, .iload 5, 2), (33, .goto 4, 3), (36, .iconst 0, 1), (37, .iastore, 1), (38, .return_, 1)]
theorem dt_Ref_show_c0 (i : Nat) : decode (jm_cod M_Ref_show) (tab_Ref_show_c0.getD i (0, .aload_n 0, 1)).1 = .ok ((tab_Ref_show_c0.getD i (0, .aload_n 0, 1)).2.1, (tab_Ref_show_c0.getD i (0, .aload_n 0, 1)).2.2) := j_tab (by decide +kernel) i
theorem d_Ref_show_0 : decode (jm_cod M_Ref_show) 0 = .ok (.aload_n 0, 1) := dt_Ref_show_c0 0
theorem d_Ref_show_1 : decode (jm_cod M_Ref_show) 1 = .ok (.getfield 88, 3) := dt_Ref_show_c0 1
theorem d_Ref_show_4 : decode (jm_cod M_Ref_show) 4 = .ok (.iload_n 1, 1) := dt_Ref_show_c0 2
theorem d_Ref_show_5 : decode (jm_cod M_Ref_show) 5 = .ok (.iload_n 2, 1) := dt_Ref_show_c0 3
theorem d_Ref_show_6 : decode (jm_cod M_Ref_show) 6 = .ok (.bastore, 1) := dt_Ref_show_c0 4
theorem d_Ref_show_7 : decode (jm_cod M_Ref_show) 7 = .ok (.aload_n 0, 1) := dt_Ref_show_c0 5
theorem d_Ref_show_8 : decode (jm_cod M_Ref_show) 8 = .ok (.getfield 94, 3) := dt_Ref_show_c0 6
theorem d_Ref_show_11 : decode (jm_cod M_Ref_show) 11 = .ok (.iload_n 1, 1) := dt_Ref_show_c0 7
theorem d_Ref_show_12 : decode (jm_cod M_Ref_show) 12 = .ok (.iload_n 2, 1) := dt_Ref_show_c0 8
theorem d_Ref_show_13 : decode (jm_cod M_Ref_show) 13 = .ok (.ifCond .eq 7, 3) := dt_Ref_show_c0 9
theorem d_Ref_show_16 : decode (jm_cod M_Ref_show) 16 = .ok (.lload_n 3, 1) := dt_Ref_show_c0 10
theorem d_Ref_show_17 : decode (jm_cod M_Ref_show) 17 = .ok (.goto 4, 3) := dt_Ref_show_c0 11
theorem d_Ref_show_20 : decode (jm_cod M_Ref_show) 20 = .ok (.lconst 0, 1) := dt_Ref_show_c0 12
theorem d_Ref_show_21 : decode (jm_cod M_Ref_show) 21 = .ok (.lastore, 1) := dt_Ref_show_c0 13
theorem d_Ref_show_22 : decode (jm_cod M_Ref_show) 22 = .ok (.aload_n 0, 1) := dt_Ref_show_c0 14
theorem d_Ref_show_23 : decode (jm_cod M_Ref_show) 23 = .ok (.getfield 97, 3) := dt_Ref_show_c0 15
theorem d_Ref_show_26 : decode (jm_cod M_Ref_show) 26 = .ok (.iload_n 1, 1) := dt_Ref_show_c0 16
theorem d_Ref_show_27 : decode (jm_cod M_Ref_show) 27 = .ok (.iload_n 2, 1) := dt_Ref_show_c0 17
theorem d_Ref_show_28 : decode (jm_cod M_Ref_show) 28 = .ok (.ifCond .eq 8, 3) := dt_Ref_show_c0 18
theorem d_Ref_show_31 : decode (jm_cod M_Ref_show) 31 = .ok (.iload 5, 2) := dt_Ref_show_c0 19
theorem d_Ref_show_33 : decode (jm_cod M_Ref_show) 33 = .ok (.goto 4, 3) := dt_Ref_show_c0 20
theorem d_Ref_show_36 : decode (jm_cod M_Ref_show) 36 = .ok (.iconst 0, 1) := dt_Ref_show_c0 21
theorem d_Ref_show_37 : decode (jm_cod M_Ref_show) 37 = .ok (.iastore, 1) := dt_Ref_show_c0 22
theorem d_Ref_show_38 : decode (jm_cod M_Ref_show) 38 = .ok (.return_, 1) := dt_Ref_show_c0 23
def tab_Ref_beginMonitor_c0 : List (Nat × Instr × Nat) := [(0, .aload_n 0, 1), (1, .getfield 235, 3), (4, .iload_n 1, 1), (5, .iconst 0, 1), (6, .iastore, 1), (7, .aload_n 0, 1), (8, .getfield 238, 3), (11, .iload_n 1, 1), (12, .iconst 0, 1), (13, .iastore, 1), (14, .aload_n 0, 1), (15, .getfield 241, 3), (18, .iload_n 1, 1), (19, .iconst (-1), 1), (20, .iastore, 1), (21, .aload_n 0, 1), (22, .getfield 244, 3), (25, .iload_n 1, 1), (26, .iconst (-1), 1), (27, .iastore, 1), (28, .aload_n 0, 1), (29, .getfield 247, 3), (32, .iload_n 1, 1), (33, .iconst 0, 1)]
theorem dt_Ref_beginMonitor_c0 (i : Nat) : decode (jm_cod M_Ref_beginMonitor) (tab_Ref_beginMonitor_c0.getD i (0, .aload_n 0, 1)).1 = .ok ((tab_Ref_beginMonitor_c0.getD i (0, .aload_n 0, 1)).2.1, (tab_Ref_beginMonitor_c0.getD i (0, .aload_n 0, 1)).2.2) := j_tab (by decide +kernel) i
theorem d_Ref_beginMonitor_0 : decode (jm_cod M_Ref_beginMonitor) 0 = .ok (.aload_n 0, 1) := dt_Ref_beginMonitor_c0 0
theorem d_Ref_beginMonitor_1 : decode (jm_cod M_Ref_beginMonitor) 1 = .ok (.getfield 235, 3) := dt_Ref_beginMonitor_c0 1
theorem d_Ref_beginMonitor_4 : decode (jm_cod M_Ref_beginMonitor) 4 = .ok (.iload_n 1, 1) := dt_Ref_beginMonitor_c0 2
theorem d_Ref_beginMonitor_5 : decode (jm_cod M_Ref_beginMonitor) 5 = .ok (.iconst 0, 1) := dt_Ref_beginMonitor_c0 3
theorem d_Ref_beginMonitor_6 : decode (jm_cod M_Ref_beginMonitor) 6 = .ok (.iastore, 1) := dt_Ref_beginMonitor_c0 4
theorem d_Ref_beginMonitor_7 : decode (jm_cod M_Ref_beginMonitor) 7 = .ok (.aload_n 0, 1) := dt_Ref_beginMonitor_c0 5
theorem d_Ref_beginMonitor_8 : decode (jm_cod M_Ref_beginMonitor) 8 = .ok (.getfield 238, 3) := dt_Ref_beginMonitor_c0 6
theorem d_Ref_beginMonitor_11 : decode (jm_cod M_Ref_beginMonitor) 11 = .ok (.iload_n 1, 1) := dt_Ref_beginMonitor_c0 7
theorem d_Ref_beginMonitor_12 : decode (jm_cod M_Ref_beginMonitor) 12 = .ok (.iconst 0, 1) := dt_Ref_beginMonitor_c0 8
theorem d_Ref_beginMonitor_13 : decode (jm_cod M_Ref_beginMonitor) 13 = .ok (.iastore, 1) := dt_Ref_beginMonitor_c0 9
theorem d_Ref_beginMonitor_14 : decode (jm_cod M_Ref_beginMonitor) 14 = .ok (.aload_n 0, 1) := dt_Ref_beginMonitor_c0 10
theorem d_Ref_beginMonitor_15 : decode (jm_cod M_Ref_beginMonitor) 15 = .ok (.getfield 241, 3) := dt_Ref_beginMonitor_c0 11
theorem d_Ref_beginMonitor_18 : decode (jm_cod M_Ref_beginMonitor) 18 = .ok (.iload_n 1, 1) := dt_Ref_beginMonitor_c0 12
theorem d_Ref_beginMonitor_19 : decode (jm_cod M_Ref_beginMonitor) 19 = .ok (.iconst (-1), 1) := dt_Ref_beginMonitor_c0 13
theorem d_Ref_beginMonitor_20 : decode (jm_cod M_Ref_beginMonitor) 20 = .ok (.iastore, 1) := dt_Ref_beginMonitor_c0 14
theorem d_Ref_beginMonitor_21 : decode (jm_cod M_Ref_beginMonitor) 21 = .ok (.aload_n 0, 1) := dt_Ref_beginMonitor_c0 15
theorem d_Ref_beginMonitor_22 : decode (jm_cod M_Ref_beginMonitor) 22 = .ok (.getfield 244, 3) := dt_Ref_beginMonitor_c0 16
theorem d_Ref_beginMonitor_25 : decode (jm_cod M_Ref_beginMonitor) 25 = .ok (.iload_n 1, 1) := dt_Ref_beginMonitor_c0 17
theorem d_Ref_beginMonitor_26 : decode (jm_cod M_Ref_beginMonitor) 26 = .ok (.iconst (-1), 1) := dt_Ref_beginMonitor_c0 18
theorem d_Ref_beginMonitor_27 : decode (jm_cod M_Ref_beginMonitor) 27 = .ok (.iastore, 1) := dt_Ref_beginMonitor_c0 19
theorem d_Ref_beginMonitor_28 : decode (jm_cod M_Ref_beginMonitor) 28 = .ok (.aload_n 0, 1) := dt_Ref_beginMonitor_c0 20
theorem d_Ref_beginMonitor_29 : decode (jm_cod M_Ref_beginMonitor) 29 = .ok (.getfield 247, 3) := dt_Ref_beginMonitor_c0 21
theorem d_Ref_beginMonitor_32 : decode (jm_cod M_Ref_beginMonitor) 32 = .ok (.iload_n 1, 1) := dt_Ref_beginMonitor_c0 22
theorem d_Ref_beginMonitor_33 : decode (jm_cod M_Ref_beginMonitor) 33 = .ok (.iconst 0, 1) := dt_Ref_beginMonitor_c0 23
def tab_Ref_beginMonitor_c1 : List (Nat × Instr × Nat) := [(34, .iastore, 1), (35, .aload_n 0, 1), (36, .getfield 250, 3), (39, .iload_n 1, 1), (40, .iconst 0, 1), (41, .iastore, 1), (42, .iconst 0, 1), (43, .istore_n 2, 1), (44, .iload_n 2, 1), (45, .iconst 5, 1), (46, .if_icmp .ge 20, 3), (49, .aload_n 0, 1), (50, .getfield 226, 3), (53, .iconst 5, 1), (54, .iload_n 1, 1), (55, .imul, 1), (56, .iload_n 2, 1), (57, .iadd, 1), (58, .iconst 0, 1), (59, .bastore, 1), (60, .iinc 2 1, 3), (63, .goto (-19), 3), (66, .return_, 1)]
theorem dt_Ref_beginMonitor_c1 (i : Nat) : decode (jm_cod M_Ref_beginMonitor) (tab_Ref_beginMonitor_c1.getD i (34, .iastore, 1)).1 = .ok ((tab_Ref_beginMonitor_c1.getD i (34, .iastore, 1)).2.1, (tab_Ref_beginMonitor_c1.getD i (34, .iastore, 1)).2.2) := j_tab (by decide +kernel) i
theorem d_Ref_beginMonitor_34 : decode (jm_cod M_Ref_beginMonitor) 34 = .ok (.iastore, 1) := dt_Ref_beginMonitor_c1 0
theorem d_Ref_beginMonitor_35 : decode (jm_cod M_Ref_beginMonitor) 35 = .ok (.aload_n 0, 1) := dt_Ref_beginMonitor_c1 1
theorem d_Ref_beginMonitor_36 : decode (jm_cod M_Ref_beginMonitor) 36 = .ok (.getfield 250, 3) := dt_Ref_beginMonitor_c1 2
theorem d_Ref_beginMonitor_39 : decode (jm_cod M_Ref_beginMonitor) 39 = .ok (.iload_n 1, 1) := dt_Ref_beginMonitor_c1 3
theorem d_Ref_beginMonitor_40 : decode (jm_cod M_Ref_beginMonitor) 40 = .ok (.iconst 0, 1) := dt_Ref_beginMonitor_c1 4
theorem d_Ref_beginMonitor_41 : decode (jm_cod M_Ref_beginMonitor) 41 = .ok (.iastore, 1) := dt_Ref_beginMonitor_c1 5
theorem d_Ref_beginMonitor_42 : decode (jm_cod M_Ref_beginMonitor) 42 = .ok (.iconst 0, 1) := dt_Ref_beginMonitor_c1 6
theorem d_Ref_beginMonitor_43 : decode (jm_cod M_Ref_beginMonitor) 43 = .ok (.istore_n 2, 1) := dt_Ref_beginMonitor_c1 7
theorem d_Ref_beginMonitor_44 : decode (jm_cod M_Ref_beginMonitor) 44 = .ok (.iload_n 2, 1) := dt_Ref_beginMonitor_c1 8
theorem d_Ref_beginMonitor_45 : decode (jm_cod M_Ref_beginMonitor) 45 = .ok (.iconst 5, 1) := dt_Ref_beginMonitor_c1 9
theorem d_Ref_beginMonitor_46 : decode (jm_cod M_Ref_beginMonitor) 46 = .ok (.if_icmp .ge 20, 3) := dt_Ref_beginMonitor_c1 10
theorem d_Ref_beginMonitor_49 : decode (jm_cod M_Ref_beginMonitor) 49 = .ok (.aload_n 0, 1) := dt_Ref_beginMonitor_c1 11
theorem d_Ref_beginMonitor_50 : decode (jm_cod M_Ref_beginMonitor) 50 = .ok (.getfield 226, 3) := dt_Ref_beginMonitor_c1 12
theorem d_Ref_beginMonitor_53 : decode (jm_cod M_Ref_beginMonitor) 53 = .ok (.iconst 5, 1) := dt_Ref_beginMonitor_c1 13
theorem d_Ref_beginMonitor_54 : decode (jm_cod M_Ref_beginMonitor) 54 = .ok (.iload_n 1, 1) := dt_Ref_beginMonitor_c1 14
theorem d_Ref_beginMonitor_55 : decode (jm_cod M_Ref_beginMonitor) 55 = .ok (.imul, 1) := dt_Ref_beginMonitor_c1 15
theorem d_Ref_beginMonitor_56 : decode (jm_cod M_Ref_beginMonitor) 56 = .ok (.iload_n 2, 1) := dt_Ref_beginMonitor_c1 16
theorem d_Ref_beginMonitor_57 : decode (jm_cod M_Ref_beginMonitor) 57 = .ok (.iadd, 1) := dt_Ref_beginMonitor_c1 17
theorem d_Ref_beginMonitor_58 : decode (jm_cod M_Ref_beginMonitor) 58 = .ok (.iconst 0, 1) := dt_Ref_beginMonitor_c1 18
theorem d_Ref_beginMonitor_59 : decode (jm_cod M_Ref_beginMonitor) 59 = .ok (.bastore, 1) := dt_Ref_beginMonitor_c1 19
theorem d_Ref_beginMonitor_60 : decode (jm_cod M_Ref_beginMonitor) 60 = .ok (.iinc 2 1, 3) := dt_Ref_beginMonitor_c1 20
theorem d_Ref_beginMonitor_63 : decode (jm_cod M_Ref_beginMonitor) 63 = .ok (.goto (-19), 3) := dt_Ref_beginMonitor_c1 21
theorem d_Ref_beginMonitor_66 : decode (jm_cod M_Ref_beginMonitor) 66 = .ok (.return_, 1) := dt_Ref_beginMonitor_c1 22
def tab_Ref_blank_c0 : List (Nat × Instr × Nat) := [(0, .iconst 5, 1), (1, .iload_n 1, 1), (2, .imul, 1), (3, .istore_n 2, 1), (4, .iload_n 2, 1), (5, .iconst 5, 1), (6, .iload_n 1, 1), (7, .imul, 1), (8, .iconst 5, 1), (9, .iadd, 1), (10, .if_icmp .ge 37, 3), (13, .aload_n 0, 1), (14, .getfield 274, 3), (17, .iload_n 2, 1), (18, .iconst 0, 1), (19, .bastore, 1), (20, .aload_n 0, 1), (21, .getfield 277, 3), (24, .iload_n 2, 1), (25, .iconst 0, 1), (26, .bastore, 1), (27, .aload_n 0, 1), (28, .getfield 280, 3), (31, .iload_n 2, 1)]
theorem dt_Ref_blank_c0 (i : Nat) : decode (jm_cod M_Ref_blank) (tab_Ref_blank_c0.getD i (0, .iconst 5, 1)).1 = .ok ((tab_Ref_blank_c0.getD i (0, .iconst 5, 1)).2.1, (tab_Ref_blank_c0.getD i (0, .iconst 5, 1)).2.2) := j_tab (by decide +kernel) i
theorem d_Ref_blank_0 : decode (jm_cod M_Ref_blank) 0 = .ok (.iconst 5, 1) := dt_Ref_blank_c0 0
theorem d_Ref_blank_1 : decode (jm_cod M_Ref_blank) 1 = .ok (.iload_n 1, 1) := dt_Ref_blank_c0 1
theorem d_Ref_blank_2 : decode (jm_cod M_Ref_blank) 2 = .ok (.imul, 1) := dt_Ref_blank_c0 2
theorem d_Ref_blank_3 : decode (jm_cod M_Ref_blank) 3 = .ok (.istore_n 2, 1) := dt_Ref_blank_c0 3
theorem d_Ref_blank_4 : decode (jm_cod M_Ref_blank) 4 = .ok (.iload_n 2, 1) := dt_Ref_blank_c0 4
theorem d_Ref_blank_5 : decode (jm_cod M_Ref_blank) 5 = .ok (.iconst 5, 1) := dt_Ref_blank_c0 5
theorem d_Ref_blank_6 : decode (jm_cod M_Ref_blank) 6 = .ok (.iload_n 1, 1) := dt_Ref_blank_c0 6
theorem d_Ref_blank_7 : decode (jm_cod M_Ref_blank) 7 = .ok (.imul, 1) := dt_Ref_blank_c0 7
theorem d_Ref_blank_8 : decode (jm_cod M_Ref_blank) 8 = .ok (.iconst 5, 1) := dt_Ref_blank_c0 8
theorem d_Ref_blank_9 : decode (jm_cod M_Ref_blank) 9 = .ok (.iadd, 1) := dt_Ref_blank_c0 9
theorem d_Ref_blank_10 : decode (jm_cod M_Ref_blank) 10 = .ok (.if_icmp .ge 37, 3) := dt_Ref_blank_c0 10
theorem d_Ref_blank_13 : decode (jm_cod M_Ref_blank) 13 = .ok (.aload_n 0, 1) := dt_Ref_blank_c0 11
theorem d_Ref_blank_14 : decode (jm_cod M_Ref_blank) 14 = .ok (.getfield 274, 3) := dt_Ref_blank_c0 12
theorem d_Ref_blank_17 : decode (jm_cod M_Ref_blank) 17 = .ok (.iload_n 2, 1) := dt_Ref_blank_c0 13
theorem d_Ref_blank_18 : decode (jm_cod M_Ref_blank) 18 = .ok (.iconst 0, 1) := dt_Ref_blank_c0 14
theorem d_Ref_blank_19 : decode (jm_cod M_Ref_blank) 19 = .ok (.bastore, 1) := dt_Ref_blank_c0 15
theorem d_Ref_blank_20 : decode (jm_cod M_Ref_blank) 20 = .ok (.aload_n 0, 1) := dt_Ref_blank_c0 16
theorem d_Ref_blank_21 : decode (jm_cod M_Ref_blank) 21 = .ok (.getfield 277, 3) := dt_Ref_blank_c0 17
theorem d_Ref_blank_24 : decode (jm_cod M_Ref_blank) 24 = .ok (.iload_n 2, 1) := dt_Ref_blank_c0 18
theorem d_Ref_blank_25 : decode (jm_cod M_Ref_blank) 25 = .ok (.iconst 0, 1) := dt_Ref_blank_c0 19
theorem d_Ref_blank_26 : decode (jm_cod M_Ref_blank) 26 = .ok (.bastore, 1) := dt_Ref_blank_c0 20
theorem d_Ref_blank_27 : decode (jm_cod M_Ref_blank) 27 = .ok (.aload_n 0, 1) := dt_Ref_blank_c0 21
theorem d_Ref_blank_28 : decode (jm_cod M_Ref_blank) 28 = .ok (.getfield 280, 3) := dt_Ref_blank_c0 22
theorem d_Ref_blank_31 : decode (jm_cod M_Ref_blank) 31 = .ok (.iload_n 2, 1) := dt_Ref_blank_c0 23
def tab_Ref_blank_c1 : List (Nat × Instr × Nat) := [(32, .lconst 0, 1), (33, .lastore, 1), (34, .aload_n 0, 1), (35, .getfield 283, 3), (38, .iload_n 2, 1), (39, .iconst 0, 1), (40, .iastore, 1), (41, .iinc 2 1, 3), (44, .goto (-40), 3), (47, .return_, 1)]
theorem dt_Ref_blank_c1 (i : Nat) : decode (jm_cod M_Ref_blank) (tab_Ref_blank_c1.getD i (32, .lconst 0, 1)).1 = .ok ((tab_Ref_blank_c1.getD i (32, .lconst 0, 1)).2.1, (tab_Ref_blank_c1.getD i (32, .lconst 0, 1)).2.2) := j_tab (by decide +kernel) i
theorem d_Ref_blank_32 : decode (jm_cod M_Ref_blank) 32 = .ok (.lconst 0, 1) := dt_Ref_blank_c1 0
theorem d_Ref_blank_33 : decode (jm_cod M_Ref_blank) 33 = .ok (.lastore, 1) := dt_Ref_blank_c1 1
theorem d_Ref_blank_34 : decode (jm_cod M_Ref_blank) 34 = .ok (.aload_n 0, 1) := dt_Ref_blank_c1 2
theorem d_Ref_blank_35 : decode (jm_cod M_Ref_blank) 35 = .ok (.getfield 283, 3) := dt_Ref_blank_c1 3
theorem d_Ref_blank_38 : decode (jm_cod M_Ref_blank) 38 = .ok (.iload_n 2, 1) := dt_Ref_blank_c1 4
theorem d_Ref_blank_39 : decode (jm_cod M_Ref_blank) 39 = .ok (.iconst 0, 1) := dt_Ref_blank_c1 5
theorem d_Ref_blank_40 : decode (jm_cod M_Ref_blank) 40 = .ok (.iastore, 1) := dt_Ref_blank_c1 6
theorem d_Ref_blank_41 : decode (jm_cod M_Ref_blank) 41 = .ok (.iinc 2 1, 3) := dt_Ref_blank_c1 7
theorem d_Ref_blank_44 : decode (jm_cod M_Ref_blank) 44 = .ok (.goto (-40), 3) := dt_Ref_blank_c1 8
theorem d_Ref_blank_47 : decode (jm_cod M_Ref_blank) 47 = .ok (.return_, 1) := dt_Ref_blank_c1 9
def tab_Ref_thrown_c0 : List (Nat × Instr × Nat) := [(0, .aload_n 0, 1), (1, .getfield 303, 3), (4, .ireturn, 1)]
theorem dt_Ref_thrown_c0 (i : Nat) : decode (jm_cod M_Ref_thrown) (tab_Ref_thrown_c0.getD i (0, .aload_n 0, 1)).1 = .ok ((tab_Ref_thrown_c0.getD i (0, .aload_n 0, 1)).2.1, (tab_Ref_thrown_c0.getD i (0, .aload_n 0, 1)).2.2) := j_tab (by decide +kernel) i
theorem d_Ref_thrown_0 : decode (jm_cod M_Ref_thrown) 0 = .ok (.aload_n 0, 1) := dt_Ref_thrown_c0 0
theorem d_Ref_thrown_1 : decode (jm_cod M_Ref_thrown) 1 = .ok (.getfield 303, 3) := dt_Ref_thrown_c0 1
theorem d_Ref_thrown_4 : decode (jm_cod M_Ref_thrown) 4 = .ok (.ireturn, 1) := dt_Ref_thrown_c0 2
def tab_Ref_map_c0 : List (Nat × Instr × Nat) := [(0, .aload_n 0, 1), (1, .iload_n 1, 1), (2, .i2l, 1), (3, .lconst 0, 1), (4, .ldc2_w 310, 3), (7, .invokestatic 599, 3), (10, .ifCond .eq 21, 3), (13, .iload_n 2, 1), (14, .i2l, 1), (15, .ldc2_w 603, 3), (18, .aload_n 0, 1), (19, .getfield 294, 3), (22, .i2l, 1), (23, .lconst 1, 1), (24, .lsub, 1), (25, .invokestatic 599, 3), (28, .ifCond .ne 7, 3), (31, .iconst 1, 1), (32, .goto 15, 3), (35, .aload_n 0, 1), (36, .invokevirtual 605, 3), (39, .ifCond .le 7, 3), (42, .iconst 2, 1), (43, .goto 4, 3)]
theorem dt_Ref_map_c0 (i : Nat) : decode (jm_cod M_Ref_map) (tab_Ref_map_c0.getD i (0, .aload_n 0, 1)).1 = .ok ((tab_Ref_map_c0.getD i (0, .aload_n 0, 1)).2.1, (tab_Ref_map_c0.getD i (0, .aload_n 0, 1)).2.2) := j_tab (by decide +kernel) i
theorem d_Ref_map_0 : decode (jm_cod M_Ref_map) 0 = .ok (.aload_n 0, 1) := dt_Ref_map_c0 0
theorem d_Ref_map_1 : decode (jm_cod M_Ref_map) 1 = .ok (.iload_n 1, 1) := dt_Ref_map_c0 1
theorem d_Ref_map_2 : decode (jm_cod M_Ref_map) 2 = .ok (.i2l, 1) := dt_Ref_map_c0 2
theorem d_Ref_map_3 : decode (jm_cod M_Ref_map) 3 = .ok (.lconst 0, 1) := dt_Ref_map_c0 3
theorem d_Ref_map_4 : decode (jm_cod M_Ref_map) 4 = .ok (.ldc2_w 310, 3) := dt_Ref_map_c0 4
theorem d_Ref_map_7 : decode (jm_cod M_Ref_map) 7 = .ok (.invokestatic 599, 3) := dt_Ref_map_c0 5
theorem d_Ref_map_10 : decode (jm_cod M_Ref_map) 10 = .ok (.ifCond .eq 21, 3) := dt_Ref_map_c0 6
theorem d_Ref_map_13 : decode (jm_cod M_Ref_map) 13 = .ok (.iload_n 2, 1) := dt_Ref_map_c0 7
theorem d_Ref_map_14 : decode (jm_cod M_Ref_map) 14 = .ok (.i2l, 1) := dt_Ref_map_c0 8
theorem d_Ref_map_15 : decode (jm_cod M_Ref_map) 15 = .ok (.ldc2_w 603, 3) := dt_Ref_map_c0 9
theorem d_Ref_map_18 : decode (jm_cod M_Ref_map) 18 = .ok (.aload_n 0, 1) := dt_Ref_map_c0 10
theorem d_Ref_map_19 : decode (jm_cod M_Ref_map) 19 = .ok (.getfield 294, 3) := dt_Ref_map_c0 11
theorem d_Ref_map_22 : decode (jm_cod M_Ref_map) 22 = .ok (.i2l, 1) := dt_Ref_map_c0 12
theorem d_Ref_map_23 : decode (jm_cod M_Ref_map) 23 = .ok (.lconst 1, 1) := dt_Ref_map_c0 13
theorem d_Ref_map_24 : decode (jm_cod M_Ref_map) 24 = .ok (.lsub, 1) := dt_Ref_map_c0 14
theorem d_Ref_map_25 : decode (jm_cod M_Ref_map) 25 = .ok (.invokestatic 599, 3) := dt_Ref_map_c0 15
theorem d_Ref_map_28 : decode (jm_cod M_Ref_map) 28 = .ok (.ifCond .ne 7, 3) := dt_Ref_map_c0 16
theorem d_Ref_map_31 : decode (jm_cod M_Ref_map) 31 = .ok (.iconst 1, 1) := dt_Ref_map_c0 17
theorem d_Ref_map_32 : decode (jm_cod M_Ref_map) 32 = .ok (.goto 15, 3) := dt_Ref_map_c0 18
theorem d_Ref_map_35 : decode (jm_cod M_Ref_map) 35 = .ok (.aload_n 0, 1) := dt_Ref_map_c0 19
theorem d_Ref_map_36 : decode (jm_cod M_Ref_map) 36 = .ok (.invokevirtual 605, 3) := dt_Ref_map_c0 20
theorem d_Ref_map_39 : decode (jm_cod M_Ref_map) 39 = .ok (.ifCond .le 7, 3) := dt_Ref_map_c0 21
theorem d_Ref_map_42 : decode (jm_cod M_Ref_map) 42 = .ok (.iconst 2, 1) := dt_Ref_map_c0 22
theorem d_Ref_map_43 : decode (jm_cod M_Ref_map) 43 = .ok (.goto 4, 3) := dt_Ref_map_c0 23
def tab_Ref_map_c1 : List (Nat × Instr × Nat) := [(46, .iconst 0, 1), (47, .putfield 303, 3), (50, .aload_n 0, 1), (51, .getfield 303, 3), (54, .ifCond .le 5, 3), (57, .iconst 0, 1), (58, .ireturn, 1), (59, .aload_n 0, 1), (60, .getfield 7, 3), (63, .iload_n 1, 1), (64, .iaload, 1), (65, .istore_n 3, 1), (66, .aload_n 0, 1), (67, .getfield 7, 3), (70, .iload_n 1, 1), (71, .iload_n 2, 1), (72, .iastore, 1), (73, .iload_n 3, 1), (74, .ireturn, 1)]
theorem dt_Ref_map_c1 (i : Nat) : decode (jm_cod M_Ref_map) (tab_Ref_map_c1.getD i (46, .iconst 0, 1)).1 = .ok ((tab_Ref_map_c1.getD i (46, .iconst 0, 1)).2.1, (tab_Ref_map_c1.getD i (46, .iconst 0, 1)).2.2) := j_tab (by decide +kernel) i
theorem d_Ref_map_46 : decode (jm_cod M_Ref_map) 46 = .ok (.iconst 0, 1) := dt_Ref_map_c1 0
theorem d_Ref_map_47 : decode (jm_cod M_Ref_map) 47 = .ok (.putfield 303, 3) := dt_Ref_map_c1 1
theorem d_Ref_map_50 : decode (jm_cod M_Ref_map) 50 = .ok (.aload_n 0, 1) := dt_Ref_map_c1 2
theorem d_Ref_map_51 : decode (jm_cod M_Ref_map) 51 = .ok (.getfield 303, 3) := dt_Ref_map_c1 3
theorem d_Ref_map_54 : decode (jm_cod M_Ref_map) 54 = .ok (.ifCond .le 5, 3) := dt_Ref_map_c1 4
theorem d_Ref_map_57 : decode (jm_cod M_Ref_map) 57 = .ok (.iconst 0, 1) := dt_Ref_map_c1 5
theorem d_Ref_map_58 : decode (jm_cod M_Ref_map) 58 = .ok (.ireturn, 1) := dt_Ref_map_c1 6
theorem d_Ref_map_59 : decode (jm_cod M_Ref_map) 59 = .ok (.aload_n 0, 1) := dt_Ref_map_c1 7
theorem d_Ref_map_60 : decode (jm_cod M_Ref_map) 60 = .ok (.getfield 7, 3) := dt_Ref_map_c1 8
theorem d_Ref_map_63 : decode (jm_cod M_Ref_map) 63 = .ok (.iload_n 1, 1) := dt_Ref_map_c1 9
theorem d_Ref_map_64 : decode (jm_cod M_Ref_map) 64 = .ok (.iaload, 1) := dt_Ref_map_c1 10
theorem d_Ref_map_65 : decode (jm_cod M_Ref_map) 65 = .ok (.istore_n 3, 1) := dt_Ref_map_c1 11
theorem d_Ref_map_66 : decode (jm_cod M_Ref_map) 66 = .ok (.aload_n 0, 1) := dt_Ref_map_c1 12
theorem d_Ref_map_67 : decode (jm_cod M_Ref_map) 67 = .ok (.getfield 7, 3) := dt_Ref_map_c1 13
theorem d_Ref_map_70 : decode (jm_cod M_Ref_map) 70 = .ok (.iload_n 1, 1) := dt_Ref_map_c1 14
theorem d_Ref_map_71 : decode (jm_cod M_Ref_map) 71 = .ok (.iload_n 2, 1) := dt_Ref_map_c1 15
theorem d_Ref_map_72 : decode (jm_cod M_Ref_map) 72 = .ok (.iastore, 1) := dt_Ref_map_c1 16
theorem d_Ref_map_73 : decode (jm_cod M_Ref_map) 73 = .ok (.iload_n 3, 1) := dt_Ref_map_c1 17
theorem d_Ref_map_74 : decode (jm_cod M_Ref_map) 74 = .ok (.ireturn, 1) := dt_Ref_map_c1 18
def tab_Ref_in_c0 : List (Nat × Instr × Nat) := [(0, .lload_n 0, 1), (1, .lload_n 2, 1), (2, .lcmp, 1), (3, .ifCond .lt 14, 3), (6, .lload_n 0, 1), (7, .lload 4, 2), (9, .lcmp, 1), (10, .ifCond .gt 7, 3), (13, .iconst 1, 1), (14, .goto 4, 3), (17, .iconst 0, 1), (18, .ireturn, 1)]
theorem dt_Ref_in_c0 (i : Nat) : decode (jm_cod M_Ref_in) (tab_Ref_in_c0.getD i (0, .lload_n 0, 1)).1 = .ok ((tab_Ref_in_c0.getD i (0, .lload_n 0, 1)).2.1, (tab_Ref_in_c0.getD i (0, .lload_n 0, 1)).2.2) := j_tab (by decide +kernel) i
theorem d_Ref_in_0 : decode (jm_cod M_Ref_in) 0 = .ok (.lload_n 0, 1) := dt_Ref_in_c0 0
theorem d_Ref_in_1 : decode (jm_cod M_Ref_in) 1 = .ok (.lload_n 2, 1) := dt_Ref_in_c0 1
theorem d_Ref_in_2 : decode (jm_cod M_Ref_in) 2 = .ok (.lcmp, 1) := dt_Ref_in_c0 2
theorem d_Ref_in_3 : decode (jm_cod M_Ref_in) 3 = .ok (.ifCond .lt 14, 3) := dt_Ref_in_c0 3
theorem d_Ref_in_6 : decode (jm_cod M_Ref_in) 6 = .ok (.lload_n 0, 1) := dt_Ref_in_c0 4
theorem d_Ref_in_7 : decode (jm_cod M_Ref_in) 7 = .ok (.lload 4, 2) := dt_Ref_in_c0 5
theorem d_Ref_in_9 : decode (jm_cod M_Ref_in) 9 = .ok (.lcmp, 1) := dt_Ref_in_c0 6
theorem d_Ref_in_10 : decode (jm_cod M_Ref_in) 10 = .ok (.ifCond .gt 7, 3) := dt_Ref_in_c0 7
theorem d_Ref_in_13 : decode (jm_cod M_Ref_in) 13 = .ok (.iconst 1, 1) := dt_Ref_in_c0 8
theorem d_Ref_in_14 : decode (jm_cod M_Ref_in) 14 = .ok (.goto 4, 3) := dt_Ref_in_c0 9
theorem d_Ref_in_17 : decode (jm_cod M_Ref_in) 17 = .ok (.iconst 0, 1) := dt_Ref_in_c0 10
theorem d_Ref_in_18 : decode (jm_cod M_Ref_in) 18 = .ok (.ireturn, 1) := dt_Ref_in_c0 11
def tab_Ref_open_c0 : List (Nat × Instr × Nat) := [(0, .iconst 0, 1), (1, .istore_n 1, 1), (2, .iconst 0, 1), (3, .istore_n 2, 1), (4, .iload_n 2, 1), (5, .aload_n 0, 1), (6, .getfield 337, 3), (9, .if_icmp .ge 27, 3), (12, .iload_n 1, 1), (13, .aload_n 0, 1), (14, .getfield 76, 3), (17, .iload_n 2, 1), (18, .iaload, 1), (19, .iconst (-1), 1), (20, .if_icmp .ne 7, 3), (23, .iconst 1, 1), (24, .goto 4, 3), (27, .iconst 0, 1), (28, .iadd, 1), (29, .istore_n 1, 1), (30, .iinc 2 1, 3), (33, .goto (-29), 3), (36, .iload_n 1, 1), (37, .ireturn, 1)]
theorem dt_Ref_open_c0 (i : Nat) : decode (jm_cod M_Ref_open) (tab_Ref_open_c0.getD i (0, .iconst 0, 1)).1 = .ok ((tab_Ref_open_c0.getD i (0, .iconst 0, 1)).2.1, (tab_Ref_open_c0.getD i (0, .iconst 0, 1)).2.2) := j_tab (by decide +kernel) i
theorem d_Ref_open_0 : decode (jm_cod M_Ref_open) 0 = .ok (.iconst 0, 1) := dt_Ref_open_c0 0
theorem d_Ref_open_1 : decode (jm_cod M_Ref_open) 1 = .ok (.istore_n 1, 1) := dt_Ref_open_c0 1
theorem d_Ref_open_2 : decode (jm_cod M_Ref_open) 2 = .ok (.iconst 0, 1) := dt_Ref_open_c0 2
theorem d_Ref_open_3 : decode (jm_cod M_Ref_open) 3 = .ok (.istore_n 2, 1) := dt_Ref_open_c0 3
theorem d_Ref_open_4 : decode (jm_cod M_Ref_open) 4 = .ok (.iload_n 2, 1) := dt_Ref_open_c0 4
theorem d_Ref_open_5 : decode (jm_cod M_Ref_open) 5 = .ok (.aload_n 0, 1) := dt_Ref_open_c0 5
theorem d_Ref_open_6 : decode (jm_cod M_Ref_open) 6 = .ok (.getfield 337, 3) := dt_Ref_open_c0 6
theorem d_Ref_open_9 : decode (jm_cod M_Ref_open) 9 = .ok (.if_icmp .ge 27, 3) := dt_Ref_open_c0 7
theorem d_Ref_open_12 : decode (jm_cod M_Ref_open) 12 = .ok (.iload_n 1, 1) := dt_Ref_open_c0 8
theorem d_Ref_open_13 : decode (jm_cod M_Ref_open) 13 = .ok (.aload_n 0, 1) := dt_Ref_open_c0 9
theorem d_Ref_open_14 : decode (jm_cod M_Ref_open) 14 = .ok (.getfield 76, 3) := dt_Ref_open_c0 10
theorem d_Ref_open_17 : decode (jm_cod M_Ref_open) 17 = .ok (.iload_n 2, 1) := dt_Ref_open_c0 11
theorem d_Ref_open_18 : decode (jm_cod M_Ref_open) 18 = .ok (.iaload, 1) := dt_Ref_open_c0 12
theorem d_Ref_open_19 : decode (jm_cod M_Ref_open) 19 = .ok (.iconst (-1), 1) := dt_Ref_open_c0 13
theorem d_Ref_open_20 : decode (jm_cod M_Ref_open) 20 = .ok (.if_icmp .ne 7, 3) := dt_Ref_open_c0 14
theorem d_Ref_open_23 : decode (jm_cod M_Ref_open) 23 = .ok (.iconst 1, 1) := dt_Ref_open_c0 15
theorem d_Ref_open_24 : decode (jm_cod M_Ref_open) 24 = .ok (.goto 4, 3) := dt_Ref_open_c0 16
theorem d_Ref_open_27 : decode (jm_cod M_Ref_open) 27 = .ok (.iconst 0, 1) := dt_Ref_open_c0 17
theorem d_Ref_open_28 : decode (jm_cod M_Ref_open) 28 = .ok (.iadd, 1) := dt_Ref_open_c0 18
theorem d_Ref_open_29 : decode (jm_cod M_Ref_open) 29 = .ok (.istore_n 1, 1) := dt_Ref_open_c0 19
theorem d_Ref_open_30 : decode (jm_cod M_Ref_open) 30 = .ok (.iinc 2 1, 3) := dt_Ref_open_c0 20
theorem d_Ref_open_33 : decode (jm_cod M_Ref_open) 33 = .ok (.goto (-29), 3) := dt_Ref_open_c0 21
theorem d_Ref_open_36 : decode (jm_cod M_Ref_open) 36 = .ok (.iload_n 1, 1) := dt_Ref_open_c0 22
theorem d_Ref_open_37 : decode (jm_cod M_Ref_open) 37 = .ok (.ireturn, 1) := dt_Ref_open_c0 23
def tab_Ref_policy_c0 : List (Nat × Instr × Nat) := [(0, .aload_n 0, 1), (1, .iload_n 1, 1), (2, .i2l, 1), (3, .lconst 0, 1), (4, .ldc2_w 312, 3), (7, .invokestatic 599, 3), (10, .ifCond .eq 7, 3), (13, .iconst 0, 1), (14, .goto 4, 3), (17, .iconst 1, 1), (18, .putfield 303, 3), (21, .aload_n 0, 1), (22, .getfield 303, 3), (25, .ifCond .le 5, 3), (28, .iconst 0, 1), (29, .ireturn, 1), (30, .aload_n 0, 1), (31, .getfield 532, 3), (34, .istore_n 3, 1), (35, .aload_n 0, 1), (36, .iload_n 1, 1), (37, .putfield 532, 3), (40, .aload_n 0, 1), (41, .iload_n 2, 1)]
theorem dt_Ref_policy_c0 (i : Nat) : decode (jm_cod M_Ref_policy) (tab_Ref_policy_c0.getD i (0, .aload_n 0, 1)).1 = .ok ((tab_Ref_policy_c0.getD i (0, .aload_n 0, 1)).2.1, (tab_Ref_policy_c0.getD i (0, .aload_n 0, 1)).2.2) := j_tab (by decide +kernel) i
theorem d_Ref_policy_0 : decode (jm_cod M_Ref_policy) 0 = .ok (.aload_n 0, 1) := dt_Ref_policy_c0 0
theorem d_Ref_policy_1 : decode (jm_cod M_Ref_policy) 1 = .ok (.iload_n 1, 1) := dt_Ref_policy_c0 1
theorem d_Ref_policy_2 : decode (jm_cod M_Ref_policy) 2 = .ok (.i2l, 1) := dt_Ref_policy_c0 2
theorem d_Ref_policy_3 : decode (jm_cod M_Ref_policy) 3 = .ok (.lconst 0, 1) := dt_Ref_policy_c0 3
theorem d_Ref_policy_4 : decode (jm_cod M_Ref_policy) 4 = .ok (.ldc2_w 312, 3) := dt_Ref_policy_c0 4
theorem d_Ref_policy_7 : decode (jm_cod M_Ref_policy) 7 = .ok (.invokestatic 599, 3) := dt_Ref_policy_c0 5
theorem d_Ref_policy_10 : decode (jm_cod M_Ref_policy) 10 = .ok (.ifCond .eq 7, 3) := dt_Ref_policy_c0 6
theorem d_Ref_policy_13 : decode (jm_cod M_Ref_policy) 13 = .ok (.iconst 0, 1) := dt_Ref_policy_c0 7
theorem d_Ref_policy_14 : decode (jm_cod M_Ref_policy) 14 = .ok (.goto 4, 3) := dt_Ref_policy_c0 8
theorem d_Ref_policy_17 : decode (jm_cod M_Ref_policy) 17 = .ok (.iconst 1, 1) := dt_Ref_policy_c0 9
theorem d_Ref_policy_18 : decode (jm_cod M_Ref_policy) 18 = .ok (.putfield 303, 3) := dt_Ref_policy_c0 10
theorem d_Ref_policy_21 : decode (jm_cod M_Ref_policy) 21 = .ok (.aload_n 0, 1) := dt_Ref_policy_c0 11
theorem d_Ref_policy_22 : decode (jm_cod M_Ref_policy) 22 = .ok (.getfield 303, 3) := dt_Ref_policy_c0 12
theorem d_Ref_policy_25 : decode (jm_cod M_Ref_policy) 25 = .ok (.ifCond .le 5, 3) := dt_Ref_policy_c0 13
theorem d_Ref_policy_28 : decode (jm_cod M_Ref_policy) 28 = .ok (.iconst 0, 1) := dt_Ref_policy_c0 14
theorem d_Ref_policy_29 : decode (jm_cod M_Ref_policy) 29 = .ok (.ireturn, 1) := dt_Ref_policy_c0 15
theorem d_Ref_policy_30 : decode (jm_cod M_Ref_policy) 30 = .ok (.aload_n 0, 1) := dt_Ref_policy_c0 16
theorem d_Ref_policy_31 : decode (jm_cod M_Ref_policy) 31 = .ok (.getfield 532, 3) := dt_Ref_policy_c0 17
theorem d_Ref_policy_34 : decode (jm_cod M_Ref_policy) 34 = .ok (.istore_n 3, 1) := dt_Ref_policy_c0 18
theorem d_Ref_policy_35 : decode (jm_cod M_Ref_policy) 35 = .ok (.aload_n 0, 1) := dt_Ref_policy_c0 19
theorem d_Ref_policy_36 : decode (jm_cod M_Ref_policy) 36 = .ok (.iload_n 1, 1) := dt_Ref_policy_c0 20
theorem d_Ref_policy_37 : decode (jm_cod M_Ref_policy) 37 = .ok (.putfield 532, 3) := dt_Ref_policy_c0 21
theorem d_Ref_policy_40 : decode (jm_cod M_Ref_policy) 40 = .ok (.aload_n 0, 1) := dt_Ref_policy_c0 22
theorem d_Ref_policy_41 : decode (jm_cod M_Ref_policy) 41 = .ok (.iload_n 2, 1) := dt_Ref_policy_c0 23
def tab_Ref_policy_c1 : List (Nat × Instr × Nat) := [(42, .putfield 559, 3), (45, .iload_n 3, 1), (46, .ireturn, 1)]
theorem dt_Ref_policy_c1 (i : Nat) : decode (jm_cod M_Ref_policy) (tab_Ref_policy_c1.getD i (42, .putfield 559, 3)).1 = .ok ((tab_Ref_policy_c1.getD i (42, .putfield 559, 3)).2.1, (tab_Ref_policy_c1.getD i (42, .putfield 559, 3)).2.2) := j_tab (by decide +kernel) i
theorem d_Ref_policy_42 : decode (jm_cod M_Ref_policy) 42 = .ok (.putfield 559, 3) := dt_Ref_policy_c1 0
theorem d_Ref_policy_45 : decode (jm_cod M_Ref_policy) 45 = .ok (.iload_n 3, 1) := dt_Ref_policy_c1 1
theorem d_Ref_policy_46 : decode (jm_cod M_Ref_policy) 46 = .ok (.ireturn, 1) := dt_Ref_policy_c1 2
def tab_Ref_master_c0 : List (Nat × Instr × Nat) := [(0, .aload_n 0, 1), (1, .iload_n 1, 1), (2, .i2l, 1), (3, .lconst 0, 1), (4, .aload_n 0, 1), (5, .getfield 290, 3), (8, .i2l, 1), (9, .lconst 1, 1), (10, .lsub, 1), (11, .invokestatic 599, 3), (14, .ifCond .eq 19, 3), (17, .iload_n 2, 1), (18, .i2l, 1), (19, .lconst 0, 1), (20, .ldc2_w 609, 3), (23, .invokestatic 599, 3), (26, .ifCond .eq 7, 3), (29, .iconst 0, 1), (30, .goto 4, 3), (33, .iconst 1, 1), (34, .putfield 303, 3), (37, .aload_n 0, 1), (38, .getfield 303, 3), (41, .ifCond .le 5, 3)]
theorem dt_Ref_master_c0 (i : Nat) : decode (jm_cod M_Ref_master) (tab_Ref_master_c0.getD i (0, .aload_n 0, 1)).1 = .ok ((tab_Ref_master_c0.getD i (0, .aload_n 0, 1)).2.1, (tab_Ref_master_c0.getD i (0, .aload_n 0, 1)).2.2) := j_tab (by decide +kernel) i
theorem d_Ref_master_0 : decode (jm_cod M_Ref_master) 0 = .ok (.aload_n 0, 1) := dt_Ref_master_c0 0
theorem d_Ref_master_1 : decode (jm_cod M_Ref_master) 1 = .ok (.iload_n 1, 1) := dt_Ref_master_c0 1
theorem d_Ref_master_2 : decode (jm_cod M_Ref_master) 2 = .ok (.i2l, 1) := dt_Ref_master_c0 2
theorem d_Ref_master_3 : decode (jm_cod M_Ref_master) 3 = .ok (.lconst 0, 1) := dt_Ref_master_c0 3
theorem d_Ref_master_4 : decode (jm_cod M_Ref_master) 4 = .ok (.aload_n 0, 1) := dt_Ref_master_c0 4
theorem d_Ref_master_5 : decode (jm_cod M_Ref_master) 5 = .ok (.getfield 290, 3) := dt_Ref_master_c0 5
theorem d_Ref_master_8 : decode (jm_cod M_Ref_master) 8 = .ok (.i2l, 1) := dt_Ref_master_c0 6
theorem d_Ref_master_9 : decode (jm_cod M_Ref_master) 9 = .ok (.lconst 1, 1) := dt_Ref_master_c0 7
theorem d_Ref_master_10 : decode (jm_cod M_Ref_master) 10 = .ok (.lsub, 1) := dt_Ref_master_c0 8
theorem d_Ref_master_11 : decode (jm_cod M_Ref_master) 11 = .ok (.invokestatic 599, 3) := dt_Ref_master_c0 9
theorem d_Ref_master_14 : decode (jm_cod M_Ref_master) 14 = .ok (.ifCond .eq 19, 3) := dt_Ref_master_c0 10
theorem d_Ref_master_17 : decode (jm_cod M_Ref_master) 17 = .ok (.iload_n 2, 1) := dt_Ref_master_c0 11
theorem d_Ref_master_18 : decode (jm_cod M_Ref_master) 18 = .ok (.i2l, 1) := dt_Ref_master_c0 12
theorem d_Ref_master_19 : decode (jm_cod M_Ref_master) 19 = .ok (.lconst 0, 1) := dt_Ref_master_c0 13
theorem d_Ref_master_20 : decode (jm_cod M_Ref_master) 20 = .ok (.ldc2_w 609, 3) := dt_Ref_master_c0 14
theorem d_Ref_master_23 : decode (jm_cod M_Ref_master) 23 = .ok (.invokestatic 599, 3) := dt_Ref_master_c0 15
theorem d_Ref_master_26 : decode (jm_cod M_Ref_master) 26 = .ok (.ifCond .eq 7, 3) := dt_Ref_master_c0 16
theorem d_Ref_master_29 : decode (jm_cod M_Ref_master) 29 = .ok (.iconst 0, 1) := dt_Ref_master_c0 17
theorem d_Ref_master_30 : decode (jm_cod M_Ref_master) 30 = .ok (.goto 4, 3) := dt_Ref_master_c0 18
theorem d_Ref_master_33 : decode (jm_cod M_Ref_master) 33 = .ok (.iconst 1, 1) := dt_Ref_master_c0 19
theorem d_Ref_master_34 : decode (jm_cod M_Ref_master) 34 = .ok (.putfield 303, 3) := dt_Ref_master_c0 20
theorem d_Ref_master_37 : decode (jm_cod M_Ref_master) 37 = .ok (.aload_n 0, 1) := dt_Ref_master_c0 21
theorem d_Ref_master_38 : decode (jm_cod M_Ref_master) 38 = .ok (.getfield 303, 3) := dt_Ref_master_c0 22
theorem d_Ref_master_41 : decode (jm_cod M_Ref_master) 41 = .ok (.ifCond .le 5, 3) := dt_Ref_master_c0 23
def tab_Ref_master_c1 : List (Nat × Instr × Nat) := [(44, .iconst 0, 1), (45, .ireturn, 1), (46, .aload_n 0, 1), (47, .getfield 13, 3), (50, .iconst 5, 1), (51, .iload_n 1, 1), (52, .imul, 1), (53, .iload_n 2, 1), (54, .iadd, 1), (55, .iaload, 1), (56, .istore 4, 2), (58, .aload_n 0, 1), (59, .getfield 13, 3), (62, .iconst 5, 1), (63, .iload_n 1, 1), (64, .imul, 1), (65, .iload_n 2, 1), (66, .iadd, 1), (67, .iload_n 3, 1), (68, .ldc_w 611, 3), (71, .iand, 1), (72, .iastore, 1), (73, .iload 4, 2), (75, .ireturn, 1)]
theorem dt_Ref_master_c1 (i : Nat) : decode (jm_cod M_Ref_master) (tab_Ref_master_c1.getD i (44, .iconst 0, 1)).1 = .ok ((tab_Ref_master_c1.getD i (44, .iconst 0, 1)).2.1, (tab_Ref_master_c1.getD i (44, .iconst 0, 1)).2.2) := j_tab (by decide +kernel) i
theorem d_Ref_master_44 : decode (jm_cod M_Ref_master) 44 = .ok (.iconst 0, 1) := dt_Ref_master_c1 0
theorem d_Ref_master_45 : decode (jm_cod M_Ref_master) 45 = .ok (.ireturn, 1) := dt_Ref_master_c1 1
theorem d_Ref_master_46 : decode (jm_cod M_Ref_master) 46 = .ok (.aload_n 0, 1) := dt_Ref_master_c1 2
theorem d_Ref_master_47 : decode (jm_cod M_Ref_master) 47 = .ok (.getfield 13, 3) := dt_Ref_master_c1 3
theorem d_Ref_master_50 : decode (jm_cod M_Ref_master) 50 = .ok (.iconst 5, 1) := dt_Ref_master_c1 4
theorem d_Ref_master_51 : decode (jm_cod M_Ref_master) 51 = .ok (.iload_n 1, 1) := dt_Ref_master_c1 5
theorem d_Ref_master_52 : decode (jm_cod M_Ref_master) 52 = .ok (.imul, 1) := dt_Ref_master_c1 6
theorem d_Ref_master_53 : decode (jm_cod M_Ref_master) 53 = .ok (.iload_n 2, 1) := dt_Ref_master_c1 7
theorem d_Ref_master_54 : decode (jm_cod M_Ref_master) 54 = .ok (.iadd, 1) := dt_Ref_master_c1 8
theorem d_Ref_master_55 : decode (jm_cod M_Ref_master) 55 = .ok (.iaload, 1) := dt_Ref_master_c1 9
theorem d_Ref_master_56 : decode (jm_cod M_Ref_master) 56 = .ok (.istore 4, 2) := dt_Ref_master_c1 10
theorem d_Ref_master_58 : decode (jm_cod M_Ref_master) 58 = .ok (.aload_n 0, 1) := dt_Ref_master_c1 11
theorem d_Ref_master_59 : decode (jm_cod M_Ref_master) 59 = .ok (.getfield 13, 3) := dt_Ref_master_c1 12
theorem d_Ref_master_62 : decode (jm_cod M_Ref_master) 62 = .ok (.iconst 5, 1) := dt_Ref_master_c1 13
theorem d_Ref_master_63 : decode (jm_cod M_Ref_master) 63 = .ok (.iload_n 1, 1) := dt_Ref_master_c1 14
theorem d_Ref_master_64 : decode (jm_cod M_Ref_master) 64 = .ok (.imul, 1) := dt_Ref_master_c1 15
theorem d_Ref_master_65 : decode (jm_cod M_Ref_master) 65 = .ok (.iload_n 2, 1) := dt_Ref_master_c1 16
theorem d_Ref_master_66 : decode (jm_cod M_Ref_master) 66 = .ok (.iadd, 1) := dt_Ref_master_c1 17
theorem d_Ref_master_67 : decode (jm_cod M_Ref_master) 67 = .ok (.iload_n 3, 1) := dt_Ref_master_c1 18
theorem d_Ref_master_68 : decode (jm_cod M_Ref_master) 68 = .ok (.ldc_w 611, 3) := dt_Ref_master_c1 19
theorem d_Ref_master_71 : decode (jm_cod M_Ref_master) 71 = .ok (.iand, 1) := dt_Ref_master_c1 20
theorem d_Ref_master_72 : decode (jm_cod M_Ref_master) 72 = .ok (.iastore, 1) := dt_Ref_master_c1 21
theorem d_Ref_master_73 : decode (jm_cod M_Ref_master) 73 = .ok (.iload 4, 2) := dt_Ref_master_c1 22
theorem d_Ref_master_75 : decode (jm_cod M_Ref_master) 75 = .ok (.ireturn, 1) := dt_Ref_master_c1 23
def tab_Ref_early_c0 : List (Nat × Instr × Nat) := [(0, .aload_n 0, 1), (1, .iload_n 1, 1), (2, .i2l, 1), (3, .lconst 0, 1), (4, .aload_n 0, 1), (5, .getfield 290, 3), (8, .i2l, 1), (9, .lconst 1, 1), (10, .lsub, 1), (11, .invokestatic 599, 3), (14, .ifCond .eq 7, 3), (17, .iconst 0, 1), (18, .goto 4, 3), (21, .iconst 1, 1), (22, .putfield 303, 3), (25, .aload_n 0, 1), (26, .getfield 303, 3), (29, .ifCond .le 5, 3), (32, .iconst 0, 1), (33, .ireturn, 1), (34, .aload_n 0, 1), (35, .getfield 19, 3), (38, .iload_n 1, 1), (39, .baload, 1)]
theorem dt_Ref_early_c0 (i : Nat) : decode (jm_cod M_Ref_early) (tab_Ref_early_c0.getD i (0, .aload_n 0, 1)).1 = .ok ((tab_Ref_early_c0.getD i (0, .aload_n 0, 1)).2.1, (tab_Ref_early_c0.getD i (0, .aload_n 0, 1)).2.2) := j_tab (by decide +kernel) i
theorem d_Ref_early_0 : decode (jm_cod M_Ref_early) 0 = .ok (.aload_n 0, 1) := dt_Ref_early_c0 0
theorem d_Ref_early_1 : decode (jm_cod M_Ref_early) 1 = .ok (.iload_n 1, 1) := dt_Ref_early_c0 1
theorem d_Ref_early_2 : decode (jm_cod M_Ref_early) 2 = .ok (.i2l, 1) := dt_Ref_early_c0 2
theorem d_Ref_early_3 : decode (jm_cod M_Ref_early) 3 = .ok (.lconst 0, 1) := dt_Ref_early_c0 3
theorem d_Ref_early_4 : decode (jm_cod M_Ref_early) 4 = .ok (.aload_n 0, 1) := dt_Ref_early_c0 4
theorem d_Ref_early_5 : decode (jm_cod M_Ref_early) 5 = .ok (.getfield 290, 3) := dt_Ref_early_c0 5
theorem d_Ref_early_8 : decode (jm_cod M_Ref_early) 8 = .ok (.i2l, 1) := dt_Ref_early_c0 6
theorem d_Ref_early_9 : decode (jm_cod M_Ref_early) 9 = .ok (.lconst 1, 1) := dt_Ref_early_c0 7
theorem d_Ref_early_10 : decode (jm_cod M_Ref_early) 10 = .ok (.lsub, 1) := dt_Ref_early_c0 8
theorem d_Ref_early_11 : decode (jm_cod M_Ref_early) 11 = .ok (.invokestatic 599, 3) := dt_Ref_early_c0 9
theorem d_Ref_early_14 : decode (jm_cod M_Ref_early) 14 = .ok (.ifCond .eq 7, 3) := dt_Ref_early_c0 10
theorem d_Ref_early_17 : decode (jm_cod M_Ref_early) 17 = .ok (.iconst 0, 1) := dt_Ref_early_c0 11
theorem d_Ref_early_18 : decode (jm_cod M_Ref_early) 18 = .ok (.goto 4, 3) := dt_Ref_early_c0 12
theorem d_Ref_early_21 : decode (jm_cod M_Ref_early) 21 = .ok (.iconst 1, 1) := dt_Ref_early_c0 13
theorem d_Ref_early_22 : decode (jm_cod M_Ref_early) 22 = .ok (.putfield 303, 3) := dt_Ref_early_c0 14
theorem d_Ref_early_25 : decode (jm_cod M_Ref_early) 25 = .ok (.aload_n 0, 1) := dt_Ref_early_c0 15
theorem d_Ref_early_26 : decode (jm_cod M_Ref_early) 26 = .ok (.getfield 303, 3) := dt_Ref_early_c0 16
theorem d_Ref_early_29 : decode (jm_cod M_Ref_early) 29 = .ok (.ifCond .le 5, 3) := dt_Ref_early_c0 17
theorem d_Ref_early_32 : decode (jm_cod M_Ref_early) 32 = .ok (.iconst 0, 1) := dt_Ref_early_c0 18
theorem d_Ref_early_33 : decode (jm_cod M_Ref_early) 33 = .ok (.ireturn, 1) := dt_Ref_early_c0 19
theorem d_Ref_early_34 : decode (jm_cod M_Ref_early) 34 = .ok (.aload_n 0, 1) := dt_Ref_early_c0 20
theorem d_Ref_early_35 : decode (jm_cod M_Ref_early) 35 = .ok (.getfield 19, 3) := dt_Ref_early_c0 21
theorem d_Ref_early_38 : decode (jm_cod M_Ref_early) 38 = .ok (.iload_n 1, 1) := dt_Ref_early_c0 22
theorem d_Ref_early_39 : decode (jm_cod M_Ref_early) 39 = .ok (.baload, 1) := dt_Ref_early_c0 23
def tab_Ref_early_c1 : List (Nat × Instr × Nat) := [(40, .istore_n 3, 1), (41, .aload_n 0, 1), (42, .getfield 19, 3), (45, .iload_n 1, 1), (46, .iload_n 2, 1), (47, .bastore, 1), (48, .iload_n 3, 1), (49, .ireturn, 1)]
theorem dt_Ref_early_c1 (i : Nat) : decode (jm_cod M_Ref_early) (tab_Ref_early_c1.getD i (40, .istore_n 3, 1)).1 = .ok ((tab_Ref_early_c1.getD i (40, .istore_n 3, 1)).2.1, (tab_Ref_early_c1.getD i (40, .istore_n 3, 1)).2.2) := j_tab (by decide +kernel) i
theorem d_Ref_early_40 : decode (jm_cod M_Ref_early) 40 = .ok (.istore_n 3, 1) := dt_Ref_early_c1 0
theorem d_Ref_early_41 : decode (jm_cod M_Ref_early) 41 = .ok (.aload_n 0, 1) := dt_Ref_early_c1 1
theorem d_Ref_early_42 : decode (jm_cod M_Ref_early) 42 = .ok (.getfield 19, 3) := dt_Ref_early_c1 2
theorem d_Ref_early_45 : decode (jm_cod M_Ref_early) 45 = .ok (.iload_n 1, 1) := dt_Ref_early_c1 3
theorem d_Ref_early_46 : decode (jm_cod M_Ref_early) 46 = .ok (.iload_n 2, 1) := dt_Ref_early_c1 4
theorem d_Ref_early_47 : decode (jm_cod M_Ref_early) 47 = .ok (.bastore, 1) := dt_Ref_early_c1 5
theorem d_Ref_early_48 : decode (jm_cod M_Ref_early) 48 = .ok (.iload_n 3, 1) := dt_Ref_early_c1 6
theorem d_Ref_early_49 : decode (jm_cod M_Ref_early) 49 = .ok (.ireturn, 1) := dt_Ref_early_c1 7
def tab_Ref_slave_c0 : List (Nat × Instr × Nat) := [(0, .aload_n 0, 1), (1, .iload_n 1, 1), (2, .i2l, 1), (3, .lconst 0, 1), (4, .aload_n 0, 1), (5, .getfield 294, 3), (8, .i2l, 1), (9, .lconst 1, 1), (10, .lsub, 1), (11, .invokestatic 599, 3), (14, .ifCond .eq 19, 3), (17, .iload_n 2, 1), (18, .i2l, 1), (19, .lconst 0, 1), (20, .ldc2_w 609, 3), (23, .invokestatic 599, 3), (26, .ifCond .eq 7, 3), (29, .iconst 0, 1), (30, .goto 4, 3), (33, .iconst 1, 1), (34, .putfield 303, 3), (37, .aload_n 0, 1), (38, .getfield 303, 3), (41, .ifCond .le 5, 3)]
theorem dt_Ref_slave_c0 (i : Nat) : decode (jm_cod M_Ref_slave) (tab_Ref_slave_c0.getD i (0, .aload_n 0, 1)).1 = .ok ((tab_Ref_slave_c0.getD i (0, .aload_n 0, 1)).2.1, (tab_Ref_slave_c0.getD i (0, .aload_n 0, 1)).2.2) := j_tab (by decide +kernel) i
theorem d_Ref_slave_0 : decode (jm_cod M_Ref_slave) 0 = .ok (.aload_n 0, 1) := dt_Ref_slave_c0 0
theorem d_Ref_slave_1 : decode (jm_cod M_Ref_slave) 1 = .ok (.iload_n 1, 1) := dt_Ref_slave_c0 1
theorem d_Ref_slave_2 : decode (jm_cod M_Ref_slave) 2 = .ok (.i2l, 1) := dt_Ref_slave_c0 2
theorem d_Ref_slave_3 : decode (jm_cod M_Ref_slave) 3 = .ok (.lconst 0, 1) := dt_Ref_slave_c0 3
theorem d_Ref_slave_4 : decode (jm_cod M_Ref_slave) 4 = .ok (.aload_n 0, 1) := dt_Ref_slave_c0 4
theorem d_Ref_slave_5 : decode (jm_cod M_Ref_slave) 5 = .ok (.getfield 294, 3) := dt_Ref_slave_c0 5
theorem d_Ref_slave_8 : decode (jm_cod M_Ref_slave) 8 = .ok (.i2l, 1) := dt_Ref_slave_c0 6
theorem d_Ref_slave_9 : decode (jm_cod M_Ref_slave) 9 = .ok (.lconst 1, 1) := dt_Ref_slave_c0 7
theorem d_Ref_slave_10 : decode (jm_cod M_Ref_slave) 10 = .ok (.lsub, 1) := dt_Ref_slave_c0 8
theorem d_Ref_slave_11 : decode (jm_cod M_Ref_slave) 11 = .ok (.invokestatic 599, 3) := dt_Ref_slave_c0 9
theorem d_Ref_slave_14 : decode (jm_cod M_Ref_slave) 14 = .ok (.ifCond .eq 19, 3) := dt_Ref_slave_c0 10
theorem d_Ref_slave_17 : decode (jm_cod M_Ref_slave) 17 = .ok (.iload_n 2, 1) := dt_Ref_slave_c0 11
theorem d_Ref_slave_18 : decode (jm_cod M_Ref_slave) 18 = .ok (.i2l, 1) := dt_Ref_slave_c0 12
theorem d_Ref_slave_19 : decode (jm_cod M_Ref_slave) 19 = .ok (.lconst 0, 1) := dt_Ref_slave_c0 13
theorem d_Ref_slave_20 : decode (jm_cod M_Ref_slave) 20 = .ok (.ldc2_w 609, 3) := dt_Ref_slave_c0 14
theorem d_Ref_slave_23 : decode (jm_cod M_Ref_slave) 23 = .ok (.invokestatic 599, 3) := dt_Ref_slave_c0 15
theorem d_Ref_slave_26 : decode (jm_cod M_Ref_slave) 26 = .ok (.ifCond .eq 7, 3) := dt_Ref_slave_c0 16
theorem d_Ref_slave_29 : decode (jm_cod M_Ref_slave) 29 = .ok (.iconst 0, 1) := dt_Ref_slave_c0 17
theorem d_Ref_slave_30 : decode (jm_cod M_Ref_slave) 30 = .ok (.goto 4, 3) := dt_Ref_slave_c0 18
theorem d_Ref_slave_33 : decode (jm_cod M_Ref_slave) 33 = .ok (.iconst 1, 1) := dt_Ref_slave_c0 19
theorem d_Ref_slave_34 : decode (jm_cod M_Ref_slave) 34 = .ok (.putfield 303, 3) := dt_Ref_slave_c0 20
theorem d_Ref_slave_37 : decode (jm_cod M_Ref_slave) 37 = .ok (.aload_n 0, 1) := dt_Ref_slave_c0 21
theorem d_Ref_slave_38 : decode (jm_cod M_Ref_slave) 38 = .ok (.getfield 303, 3) := dt_Ref_slave_c0 22
theorem d_Ref_slave_41 : decode (jm_cod M_Ref_slave) 41 = .ok (.ifCond .le 5, 3) := dt_Ref_slave_c0 23
def tab_Ref_slave_c1 : List (Nat × Instr × Nat) := [(44, .iconst 0, 1), (45, .ireturn, 1), (46, .aload_n 0, 1), (47, .getfield 16, 3), (50, .iconst 5, 1), (51, .iload_n 1, 1), (52, .imul, 1), (53, .iload_n 2, 1), (54, .iadd, 1), (55, .iaload, 1), (56, .istore 4, 2), (58, .aload_n 0, 1), (59, .getfield 16, 3), (62, .iconst 5, 1), (63, .iload_n 1, 1), (64, .imul, 1), (65, .iload_n 2, 1), (66, .iadd, 1), (67, .iload_n 3, 1), (68, .ldc_w 611, 3), (71, .iand, 1), (72, .iastore, 1), (73, .iload 4, 2), (75, .ireturn, 1)]
theorem dt_Ref_slave_c1 (i : Nat) : decode (jm_cod M_Ref_slave) (tab_Ref_slave_c1.getD i (44, .iconst 0, 1)).1 = .ok ((tab_Ref_slave_c1.getD i (44, .iconst 0, 1)).2.1, (tab_Ref_slave_c1.getD i (44, .iconst 0, 1)).2.2) := j_tab (by decide +kernel) i
theorem d_Ref_slave_44 : decode (jm_cod M_Ref_slave) 44 = .ok (.iconst 0, 1) := dt_Ref_slave_c1 0
theorem d_Ref_slave_45 : decode (jm_cod M_Ref_slave) 45 = .ok (.ireturn, 1) := dt_Ref_slave_c1 1
theorem d_Ref_slave_46 : decode (jm_cod M_Ref_slave) 46 = .ok (.aload_n 0, 1) := dt_Ref_slave_c1 2
theorem d_Ref_slave_47 : decode (jm_cod M_Ref_slave) 47 = .ok (.getfield 16, 3) := dt_Ref_slave_c1 3
theorem d_Ref_slave_50 : decode (jm_cod M_Ref_slave) 50 = .ok (.iconst 5, 1) := dt_Ref_slave_c1 4
theorem d_Ref_slave_51 : decode (jm_cod M_Ref_slave) 51 = .ok (.iload_n 1, 1) := dt_Ref_slave_c1 5
theorem d_Ref_slave_52 : decode (jm_cod M_Ref_slave) 52 = .ok (.imul, 1) := dt_Ref_slave_c1 6
theorem d_Ref_slave_53 : decode (jm_cod M_Ref_slave) 53 = .ok (.iload_n 2, 1) := dt_Ref_slave_c1 7
theorem d_Ref_slave_54 : decode (jm_cod M_Ref_slave) 54 = .ok (.iadd, 1) := dt_Ref_slave_c1 8
theorem d_Ref_slave_55 : decode (jm_cod M_Ref_slave) 55 = .ok (.iaload, 1) := dt_Ref_slave_c1 9
theorem d_Ref_slave_56 : decode (jm_cod M_Ref_slave) 56 = .ok (.istore 4, 2) := dt_Ref_slave_c1 10
theorem d_Ref_slave_58 : decode (jm_cod M_Ref_slave) 58 = .ok (.aload_n 0, 1) := dt_Ref_slave_c1 11
theorem d_Ref_slave_59 : decode (jm_cod M_Ref_slave) 59 = .ok (.getfield 16, 3) := dt_Ref_slave_c1 12
theorem d_Ref_slave_62 : decode (jm_cod M_Ref_slave) 62 = .ok (.iconst 5, 1) := dt_Ref_slave_c1 13
theorem d_Ref_slave_63 : decode (jm_cod M_Ref_slave) 63 = .ok (.iload_n 1, 1) := dt_Ref_slave_c1 14
theorem d_Ref_slave_64 : decode (jm_cod M_Ref_slave) 64 = .ok (.imul, 1) := dt_Ref_slave_c1 15
theorem d_Ref_slave_65 : decode (jm_cod M_Ref_slave) 65 = .ok (.iload_n 2, 1) := dt_Ref_slave_c1 16
theorem d_Ref_slave_66 : decode (jm_cod M_Ref_slave) 66 = .ok (.iadd, 1) := dt_Ref_slave_c1 17
theorem d_Ref_slave_67 : decode (jm_cod M_Ref_slave) 67 = .ok (.iload_n 3, 1) := dt_Ref_slave_c1 18
theorem d_Ref_slave_68 : decode (jm_cod M_Ref_slave) 68 = .ok (.ldc_w 611, 3) := dt_Ref_slave_c1 19
theorem d_Ref_slave_71 : decode (jm_cod M_Ref_slave) 71 = .ok (.iand, 1) := dt_Ref_slave_c1 20
theorem d_Ref_slave_72 : decode (jm_cod M_Ref_slave) 72 = .ok (.iastore, 1) := dt_Ref_slave_c1 21
theorem d_Ref_slave_73 : decode (jm_cod M_Ref_slave) 73 = .ok (.iload 4, 2) := dt_Ref_slave_c1 22
theorem d_Ref_slave_75 : decode (jm_cod M_Ref_slave) 75 = .ok (.ireturn, 1) := dt_Ref_slave_c1 23
def tab_Ref_way_c0 : List (Nat × Instr × Nat) := [(0, .aload_n 0, 1), (1, .iload_n 1, 1), (2, .i2l, 1), (3, .lconst 0, 1), (4, .aload_n 0, 1), (5, .getfield 294, 3), (8, .i2l, 1), (9, .lconst 1, 1), (10, .lsub, 1), (11, .invokestatic 599, 3), (14, .ifCond .ne 7, 3), (17, .iconst 1, 1), (18, .goto 32, 3), (21, .iload_n 2, 1), (22, .i2l, 1), (23, .lconst 0, 1), (24, .ldc2_w 310, 3), (27, .invokestatic 599, 3), (30, .ifCond .eq 15, 3), (33, .iload_n 3, 1), (34, .i2l, 1), (35, .lconst 0, 1), (36, .ldc2_w 612, 3), (39, .invokestatic 599, 3)]
theorem dt_Ref_way_c0 (i : Nat) : decode (jm_cod M_Ref_way) (tab_Ref_way_c0.getD i (0, .aload_n 0, 1)).1 = .ok ((tab_Ref_way_c0.getD i (0, .aload_n 0, 1)).2.1, (tab_Ref_way_c0.getD i (0, .aload_n 0, 1)).2.2) := j_tab (by decide +kernel) i
theorem d_Ref_way_0 : decode (jm_cod M_Ref_way) 0 = .ok (.aload_n 0, 1) := dt_Ref_way_c0 0
theorem d_Ref_way_1 : decode (jm_cod M_Ref_way) 1 = .ok (.iload_n 1, 1) := dt_Ref_way_c0 1
theorem d_Ref_way_2 : decode (jm_cod M_Ref_way) 2 = .ok (.i2l, 1) := dt_Ref_way_c0 2
theorem d_Ref_way_3 : decode (jm_cod M_Ref_way) 3 = .ok (.lconst 0, 1) := dt_Ref_way_c0 3
theorem d_Ref_way_4 : decode (jm_cod M_Ref_way) 4 = .ok (.aload_n 0, 1) := dt_Ref_way_c0 4
theorem d_Ref_way_5 : decode (jm_cod M_Ref_way) 5 = .ok (.getfield 294, 3) := dt_Ref_way_c0 5
theorem d_Ref_way_8 : decode (jm_cod M_Ref_way) 8 = .ok (.i2l, 1) := dt_Ref_way_c0 6
theorem d_Ref_way_9 : decode (jm_cod M_Ref_way) 9 = .ok (.lconst 1, 1) := dt_Ref_way_c0 7
theorem d_Ref_way_10 : decode (jm_cod M_Ref_way) 10 = .ok (.lsub, 1) := dt_Ref_way_c0 8
theorem d_Ref_way_11 : decode (jm_cod M_Ref_way) 11 = .ok (.invokestatic 599, 3) := dt_Ref_way_c0 9
theorem d_Ref_way_14 : decode (jm_cod M_Ref_way) 14 = .ok (.ifCond .ne 7, 3) := dt_Ref_way_c0 10
theorem d_Ref_way_17 : decode (jm_cod M_Ref_way) 17 = .ok (.iconst 1, 1) := dt_Ref_way_c0 11
theorem d_Ref_way_18 : decode (jm_cod M_Ref_way) 18 = .ok (.goto 32, 3) := dt_Ref_way_c0 12
theorem d_Ref_way_21 : decode (jm_cod M_Ref_way) 21 = .ok (.iload_n 2, 1) := dt_Ref_way_c0 13
theorem d_Ref_way_22 : decode (jm_cod M_Ref_way) 22 = .ok (.i2l, 1) := dt_Ref_way_c0 14
theorem d_Ref_way_23 : decode (jm_cod M_Ref_way) 23 = .ok (.lconst 0, 1) := dt_Ref_way_c0 15
theorem d_Ref_way_24 : decode (jm_cod M_Ref_way) 24 = .ok (.ldc2_w 310, 3) := dt_Ref_way_c0 16
theorem d_Ref_way_27 : decode (jm_cod M_Ref_way) 27 = .ok (.invokestatic 599, 3) := dt_Ref_way_c0 17
theorem d_Ref_way_30 : decode (jm_cod M_Ref_way) 30 = .ok (.ifCond .eq 15, 3) := dt_Ref_way_c0 18
theorem d_Ref_way_33 : decode (jm_cod M_Ref_way) 33 = .ok (.iload_n 3, 1) := dt_Ref_way_c0 19
theorem d_Ref_way_34 : decode (jm_cod M_Ref_way) 34 = .ok (.i2l, 1) := dt_Ref_way_c0 20
theorem d_Ref_way_35 : decode (jm_cod M_Ref_way) 35 = .ok (.lconst 0, 1) := dt_Ref_way_c0 21
theorem d_Ref_way_36 : decode (jm_cod M_Ref_way) 36 = .ok (.ldc2_w 612, 3) := dt_Ref_way_c0 22
theorem d_Ref_way_39 : decode (jm_cod M_Ref_way) 39 = .ok (.invokestatic 599, 3) := dt_Ref_way_c0 23
def tab_Ref_way_c1 : List (Nat × Instr × Nat) := [(42, .ifCond .ne 7, 3), (45, .iconst 2, 1), (46, .goto 4, 3), (49, .iconst 0, 1), (50, .putfield 303, 3), (53, .aload_n 0, 1), (54, .getfield 303, 3), (57, .ifCond .le 5, 3), (60, .iconst 0, 1), (61, .ireturn, 1), (62, .bipush 16, 2), (64, .aload_n 0, 1), (65, .getfield 26, 3), (68, .iload_n 1, 1), (69, .iaload, 1), (70, .imul, 1), (71, .aload_n 0, 1), (72, .getfield 23, 3), (75, .iload_n 1, 1), (76, .iaload, 1), (77, .iadd, 1), (78, .istore 4, 2), (80, .aload_n 0, 1), (81, .getfield 26, 3)]
theorem dt_Ref_way_c1 (i : Nat) : decode (jm_cod M_Ref_way) (tab_Ref_way_c1.getD i (42, .ifCond .ne 7, 3)).1 = .ok ((tab_Ref_way_c1.getD i (42, .ifCond .ne 7, 3)).2.1, (tab_Ref_way_c1.getD i (42, .ifCond .ne 7, 3)).2.2) := j_tab (by decide +kernel) i
theorem d_Ref_way_42 : decode (jm_cod M_Ref_way) 42 = .ok (.ifCond .ne 7, 3) := dt_Ref_way_c1 0
theorem d_Ref_way_45 : decode (jm_cod M_Ref_way) 45 = .ok (.iconst 2, 1) := dt_Ref_way_c1 1
theorem d_Ref_way_46 : decode (jm_cod M_Ref_way) 46 = .ok (.goto 4, 3) := dt_Ref_way_c1 2
theorem d_Ref_way_49 : decode (jm_cod M_Ref_way) 49 = .ok (.iconst 0, 1) := dt_Ref_way_c1 3
theorem d_Ref_way_50 : decode (jm_cod M_Ref_way) 50 = .ok (.putfield 303, 3) := dt_Ref_way_c1 4
theorem d_Ref_way_53 : decode (jm_cod M_Ref_way) 53 = .ok (.aload_n 0, 1) := dt_Ref_way_c1 5
theorem d_Ref_way_54 : decode (jm_cod M_Ref_way) 54 = .ok (.getfield 303, 3) := dt_Ref_way_c1 6
theorem d_Ref_way_57 : decode (jm_cod M_Ref_way) 57 = .ok (.ifCond .le 5, 3) := dt_Ref_way_c1 7
theorem d_Ref_way_60 : decode (jm_cod M_Ref_way) 60 = .ok (.iconst 0, 1) := dt_Ref_way_c1 8
theorem d_Ref_way_61 : decode (jm_cod M_Ref_way) 61 = .ok (.ireturn, 1) := dt_Ref_way_c1 9
theorem d_Ref_way_62 : decode (jm_cod M_Ref_way) 62 = .ok (.bipush 16, 2) := dt_Ref_way_c1 10
theorem d_Ref_way_64 : decode (jm_cod M_Ref_way) 64 = .ok (.aload_n 0, 1) := dt_Ref_way_c1 11
theorem d_Ref_way_65 : decode (jm_cod M_Ref_way) 65 = .ok (.getfield 26, 3) := dt_Ref_way_c1 12
theorem d_Ref_way_68 : decode (jm_cod M_Ref_way) 68 = .ok (.iload_n 1, 1) := dt_Ref_way_c1 13
theorem d_Ref_way_69 : decode (jm_cod M_Ref_way) 69 = .ok (.iaload, 1) := dt_Ref_way_c1 14
theorem d_Ref_way_70 : decode (jm_cod M_Ref_way) 70 = .ok (.imul, 1) := dt_Ref_way_c1 15
theorem d_Ref_way_71 : decode (jm_cod M_Ref_way) 71 = .ok (.aload_n 0, 1) := dt_Ref_way_c1 16
theorem d_Ref_way_72 : decode (jm_cod M_Ref_way) 72 = .ok (.getfield 23, 3) := dt_Ref_way_c1 17
theorem d_Ref_way_75 : decode (jm_cod M_Ref_way) 75 = .ok (.iload_n 1, 1) := dt_Ref_way_c1 18
theorem d_Ref_way_76 : decode (jm_cod M_Ref_way) 76 = .ok (.iaload, 1) := dt_Ref_way_c1 19
theorem d_Ref_way_77 : decode (jm_cod M_Ref_way) 77 = .ok (.iadd, 1) := dt_Ref_way_c1 20
theorem d_Ref_way_78 : decode (jm_cod M_Ref_way) 78 = .ok (.istore 4, 2) := dt_Ref_way_c1 21
theorem d_Ref_way_80 : decode (jm_cod M_Ref_way) 80 = .ok (.aload_n 0, 1) := dt_Ref_way_c1 22
theorem d_Ref_way_81 : decode (jm_cod M_Ref_way) 81 = .ok (.getfield 26, 3) := dt_Ref_way_c1 23
def tab_Ref_way_c2 : List (Nat × Instr × Nat) := [(84, .iload_n 1, 1), (85, .iload_n 3, 1), (86, .iastore, 1), (87, .aload_n 0, 1), (88, .getfield 23, 3), (91, .iload_n 1, 1), (92, .iload_n 2, 1), (93, .iastore, 1), (94, .iload 4, 2), (96, .ireturn, 1)]
theorem dt_Ref_way_c2 (i : Nat) : decode (jm_cod M_Ref_way) (tab_Ref_way_c2.getD i (84, .iload_n 1, 1)).1 = .ok ((tab_Ref_way_c2.getD i (84, .iload_n 1, 1)).2.1, (tab_Ref_way_c2.getD i (84, .iload_n 1, 1)).2.2) := j_tab (by decide +kernel) i
theorem d_Ref_way_84 : decode (jm_cod M_Ref_way) 84 = .ok (.iload_n 1, 1) := dt_Ref_way_c2 0
theorem d_Ref_way_85 : decode (jm_cod M_Ref_way) 85 = .ok (.iload_n 3, 1) := dt_Ref_way_c2 1
theorem d_Ref_way_86 : decode (jm_cod M_Ref_way) 86 = .ok (.iastore, 1) := dt_Ref_way_c2 2
theorem d_Ref_way_87 : decode (jm_cod M_Ref_way) 87 = .ok (.aload_n 0, 1) := dt_Ref_way_c2 3
theorem d_Ref_way_88 : decode (jm_cod M_Ref_way) 88 = .ok (.getfield 23, 3) := dt_Ref_way_c2 4
theorem d_Ref_way_91 : decode (jm_cod M_Ref_way) 91 = .ok (.iload_n 1, 1) := dt_Ref_way_c2 5
theorem d_Ref_way_92 : decode (jm_cod M_Ref_way) 92 = .ok (.iload_n 2, 1) := dt_Ref_way_c2 6
theorem d_Ref_way_93 : decode (jm_cod M_Ref_way) 93 = .ok (.iastore, 1) := dt_Ref_way_c2 7
theorem d_Ref_way_94 : decode (jm_cod M_Ref_way) 94 = .ok (.iload 4, 2) := dt_Ref_way_c2 8
theorem d_Ref_way_96 : decode (jm_cod M_Ref_way) 96 = .ok (.ireturn, 1) := dt_Ref_way_c2 9
def tab_Ref_spoil_c0 : List (Nat × Instr × Nat) := [(0, .aload_n 0, 1), (1, .iload_n 1, 1), (2, .i2l, 1), (3, .lconst 0, 1), (4, .ldc2_w 308, 3), (7, .invokestatic 599, 3), (10, .ifCond .ne 7, 3), (13, .iconst 1, 1), (14, .goto 13, 3), (17, .iload_n 2, 1), (18, .iconst 1, 1), (19, .if_icmp .ge 7, 3), (22, .iconst 2, 1), (23, .goto 4, 3), (26, .iconst 0, 1), (27, .putfield 303, 3), (30, .iconst 0, 1), (31, .istore 4, 2), (33, .iload_n 1, 1), (34, .istore 5, 2), (36, .aload_n 0, 1), (37, .getfield 303, 3), (40, .ifCond .ne 53, 3), (43, .iload 5, 2)]
theorem dt_Ref_spoil_c0 (i : Nat) : decode (jm_cod M_Ref_spoil) (tab_Ref_spoil_c0.getD i (0, .aload_n 0, 1)).1 = .ok ((tab_Ref_spoil_c0.getD i (0, .aload_n 0, 1)).2.1, (tab_Ref_spoil_c0.getD i (0, .aload_n 0, 1)).2.2) := j_tab (by decide +kernel) i
theorem d_Ref_spoil_0 : decode (jm_cod M_Ref_spoil) 0 = .ok (.aload_n 0, 1) := dt_Ref_spoil_c0 0
theorem d_Ref_spoil_1 : decode (jm_cod M_Ref_spoil) 1 = .ok (.iload_n 1, 1) := dt_Ref_spoil_c0 1
theorem d_Ref_spoil_2 : decode (jm_cod M_Ref_spoil) 2 = .ok (.i2l, 1) := dt_Ref_spoil_c0 2
theorem d_Ref_spoil_3 : decode (jm_cod M_Ref_spoil) 3 = .ok (.lconst 0, 1) := dt_Ref_spoil_c0 3
theorem d_Ref_spoil_4 : decode (jm_cod M_Ref_spoil) 4 = .ok (.ldc2_w 308, 3) := dt_Ref_spoil_c0 4
theorem d_Ref_spoil_7 : decode (jm_cod M_Ref_spoil) 7 = .ok (.invokestatic 599, 3) := dt_Ref_spoil_c0 5
theorem d_Ref_spoil_10 : decode (jm_cod M_Ref_spoil) 10 = .ok (.ifCond .ne 7, 3) := dt_Ref_spoil_c0 6
theorem d_Ref_spoil_13 : decode (jm_cod M_Ref_spoil) 13 = .ok (.iconst 1, 1) := dt_Ref_spoil_c0 7
theorem d_Ref_spoil_14 : decode (jm_cod M_Ref_spoil) 14 = .ok (.goto 13, 3) := dt_Ref_spoil_c0 8
theorem d_Ref_spoil_17 : decode (jm_cod M_Ref_spoil) 17 = .ok (.iload_n 2, 1) := dt_Ref_spoil_c0 9
theorem d_Ref_spoil_18 : decode (jm_cod M_Ref_spoil) 18 = .ok (.iconst 1, 1) := dt_Ref_spoil_c0 10
theorem d_Ref_spoil_19 : decode (jm_cod M_Ref_spoil) 19 = .ok (.if_icmp .ge 7, 3) := dt_Ref_spoil_c0 11
theorem d_Ref_spoil_22 : decode (jm_cod M_Ref_spoil) 22 = .ok (.iconst 2, 1) := dt_Ref_spoil_c0 12
theorem d_Ref_spoil_23 : decode (jm_cod M_Ref_spoil) 23 = .ok (.goto 4, 3) := dt_Ref_spoil_c0 13
theorem d_Ref_spoil_26 : decode (jm_cod M_Ref_spoil) 26 = .ok (.iconst 0, 1) := dt_Ref_spoil_c0 14
theorem d_Ref_spoil_27 : decode (jm_cod M_Ref_spoil) 27 = .ok (.putfield 303, 3) := dt_Ref_spoil_c0 15
theorem d_Ref_spoil_30 : decode (jm_cod M_Ref_spoil) 30 = .ok (.iconst 0, 1) := dt_Ref_spoil_c0 16
theorem d_Ref_spoil_31 : decode (jm_cod M_Ref_spoil) 31 = .ok (.istore 4, 2) := dt_Ref_spoil_c0 17
theorem d_Ref_spoil_33 : decode (jm_cod M_Ref_spoil) 33 = .ok (.iload_n 1, 1) := dt_Ref_spoil_c0 18
theorem d_Ref_spoil_34 : decode (jm_cod M_Ref_spoil) 34 = .ok (.istore 5, 2) := dt_Ref_spoil_c0 19
theorem d_Ref_spoil_36 : decode (jm_cod M_Ref_spoil) 36 = .ok (.aload_n 0, 1) := dt_Ref_spoil_c0 20
theorem d_Ref_spoil_37 : decode (jm_cod M_Ref_spoil) 37 = .ok (.getfield 303, 3) := dt_Ref_spoil_c0 21
theorem d_Ref_spoil_40 : decode (jm_cod M_Ref_spoil) 40 = .ok (.ifCond .ne 53, 3) := dt_Ref_spoil_c0 22
theorem d_Ref_spoil_43 : decode (jm_cod M_Ref_spoil) 43 = .ok (.iload 5, 2) := dt_Ref_spoil_c0 23
def tab_Ref_spoil_c1 : List (Nat × Instr × Nat) := [(45, .ldc 29, 2), (47, .if_icmp .ge 46, 3), (50, .iload 5, 2), (52, .iload_n 1, 1), (53, .isub, 1), (54, .iload_n 2, 1), (55, .if_icmp .ge 38, 3), (58, .iload 4, 2), (60, .aload_n 0, 1), (61, .getfield 33, 3), (64, .iload 5, 2), (66, .baload, 1), (67, .iload_n 3, 1), (68, .if_icmp .eq 7, 3), (71, .iconst 1, 1), (72, .goto 4, 3), (75, .iconst 0, 1), (76, .iadd, 1), (77, .istore 4, 2), (79, .aload_n 0, 1), (80, .getfield 33, 3), (83, .iload 5, 2), (85, .iload_n 3, 1), (86, .bastore, 1)]
theorem dt_Ref_spoil_c1 (i : Nat) : decode (jm_cod M_Ref_spoil) (tab_Ref_spoil_c1.getD i (45, .ldc 29, 2)).1 = .ok ((tab_Ref_spoil_c1.getD i (45, .ldc 29, 2)).2.1, (tab_Ref_spoil_c1.getD i (45, .ldc 29, 2)).2.2) := j_tab (by decide +kernel) i
theorem d_Ref_spoil_45 : decode (jm_cod M_Ref_spoil) 45 = .ok (.ldc 29, 2) := dt_Ref_spoil_c1 0
theorem d_Ref_spoil_47 : decode (jm_cod M_Ref_spoil) 47 = .ok (.if_icmp .ge 46, 3) := dt_Ref_spoil_c1 1
theorem d_Ref_spoil_50 : decode (jm_cod M_Ref_spoil) 50 = .ok (.iload 5, 2) := dt_Ref_spoil_c1 2
theorem d_Ref_spoil_52 : decode (jm_cod M_Ref_spoil) 52 = .ok (.iload_n 1, 1) := dt_Ref_spoil_c1 3
theorem d_Ref_spoil_53 : decode (jm_cod M_Ref_spoil) 53 = .ok (.isub, 1) := dt_Ref_spoil_c1 4
theorem d_Ref_spoil_54 : decode (jm_cod M_Ref_spoil) 54 = .ok (.iload_n 2, 1) := dt_Ref_spoil_c1 5
theorem d_Ref_spoil_55 : decode (jm_cod M_Ref_spoil) 55 = .ok (.if_icmp .ge 38, 3) := dt_Ref_spoil_c1 6
theorem d_Ref_spoil_58 : decode (jm_cod M_Ref_spoil) 58 = .ok (.iload 4, 2) := dt_Ref_spoil_c1 7
theorem d_Ref_spoil_60 : decode (jm_cod M_Ref_spoil) 60 = .ok (.aload_n 0, 1) := dt_Ref_spoil_c1 8
theorem d_Ref_spoil_61 : decode (jm_cod M_Ref_spoil) 61 = .ok (.getfield 33, 3) := dt_Ref_spoil_c1 9
theorem d_Ref_spoil_64 : decode (jm_cod M_Ref_spoil) 64 = .ok (.iload 5, 2) := dt_Ref_spoil_c1 10
theorem d_Ref_spoil_66 : decode (jm_cod M_Ref_spoil) 66 = .ok (.baload, 1) := dt_Ref_spoil_c1 11
theorem d_Ref_spoil_67 : decode (jm_cod M_Ref_spoil) 67 = .ok (.iload_n 3, 1) := dt_Ref_spoil_c1 12
theorem d_Ref_spoil_68 : decode (jm_cod M_Ref_spoil) 68 = .ok (.if_icmp .eq 7, 3) := dt_Ref_spoil_c1 13
theorem d_Ref_spoil_71 : decode (jm_cod M_Ref_spoil) 71 = .ok (.iconst 1, 1) := dt_Ref_spoil_c1 14
theorem d_Ref_spoil_72 : decode (jm_cod M_Ref_spoil) 72 = .ok (.goto 4, 3) := dt_Ref_spoil_c1 15
theorem d_Ref_spoil_75 : decode (jm_cod M_Ref_spoil) 75 = .ok (.iconst 0, 1) := dt_Ref_spoil_c1 16
theorem d_Ref_spoil_76 : decode (jm_cod M_Ref_spoil) 76 = .ok (.iadd, 1) := dt_Ref_spoil_c1 17
theorem d_Ref_spoil_77 : decode (jm_cod M_Ref_spoil) 77 = .ok (.istore 4, 2) := dt_Ref_spoil_c1 18
theorem d_Ref_spoil_79 : decode (jm_cod M_Ref_spoil) 79 = .ok (.aload_n 0, 1) := dt_Ref_spoil_c1 19
theorem d_Ref_spoil_80 : decode (jm_cod M_Ref_spoil) 80 = .ok (.getfield 33, 3) := dt_Ref_spoil_c1 20
theorem d_Ref_spoil_83 : decode (jm_cod M_Ref_spoil) 83 = .ok (.iload 5, 2) := dt_Ref_spoil_c1 21
theorem d_Ref_spoil_85 : decode (jm_cod M_Ref_spoil) 85 = .ok (.iload_n 3, 1) := dt_Ref_spoil_c1 22
theorem d_Ref_spoil_86 : decode (jm_cod M_Ref_spoil) 86 = .ok (.bastore, 1) := dt_Ref_spoil_c1 23
def tab_Ref_spoil_c2 : List (Nat × Instr × Nat) := [(87, .iinc 5 1, 3), (90, .goto (-54), 3), (93, .iload 4, 2), (95, .ireturn, 1)]
theorem dt_Ref_spoil_c2 (i : Nat) : decode (jm_cod M_Ref_spoil) (tab_Ref_spoil_c2.getD i (87, .iinc 5 1, 3)).1 = .ok ((tab_Ref_spoil_c2.getD i (87, .iinc 5 1, 3)).2.1, (tab_Ref_spoil_c2.getD i (87, .iinc 5 1, 3)).2.2) := j_tab (by decide +kernel) i
theorem d_Ref_spoil_87 : decode (jm_cod M_Ref_spoil) 87 = .ok (.iinc 5 1, 3) := dt_Ref_spoil_c2 0
theorem d_Ref_spoil_90 : decode (jm_cod M_Ref_spoil) 90 = .ok (.goto (-54), 3) := dt_Ref_spoil_c2 1
theorem d_Ref_spoil_93 : decode (jm_cod M_Ref_spoil) 93 = .ok (.iload 4, 2) := dt_Ref_spoil_c2 2
theorem d_Ref_spoil_95 : decode (jm_cod M_Ref_spoil) 95 = .ok (.ireturn, 1) := dt_Ref_spoil_c2 3
def tab_Ref_poke_c0 : List (Nat × Instr × Nat) := [(0, .aload_n 0, 1), (1, .iload_n 1, 1), (2, .i2l, 1), (3, .lconst 0, 1), (4, .ldc2_w 308, 3), (7, .invokestatic 599, 3), (10, .ifCond .ne 7, 3), (13, .iconst 1, 1), (14, .goto 20, 3), (17, .iload_n 2, 1), (18, .i2l, 1), (19, .lconst 0, 1), (20, .ldc2_w 327, 3), (23, .invokestatic 599, 3), (26, .ifCond .ne 7, 3), (29, .iconst 2, 1), (30, .goto 4, 3), (33, .iconst 0, 1), (34, .putfield 303, 3), (37, .aload_n 0, 1), (38, .getfield 303, 3), (41, .ifCond .le 5, 3), (44, .iconst 0, 1), (45, .ireturn, 1)]
theorem dt_Ref_poke_c0 (i : Nat) : decode (jm_cod M_Ref_poke) (tab_Ref_poke_c0.getD i (0, .aload_n 0, 1)).1 = .ok ((tab_Ref_poke_c0.getD i (0, .aload_n 0, 1)).2.1, (tab_Ref_poke_c0.getD i (0, .aload_n 0, 1)).2.2) := j_tab (by decide +kernel) i
theorem d_Ref_poke_0 : decode (jm_cod M_Ref_poke) 0 = .ok (.aload_n 0, 1) := dt_Ref_poke_c0 0
theorem d_Ref_poke_1 : decode (jm_cod M_Ref_poke) 1 = .ok (.iload_n 1, 1) := dt_Ref_poke_c0 1
theorem d_Ref_poke_2 : decode (jm_cod M_Ref_poke) 2 = .ok (.i2l, 1) := dt_Ref_poke_c0 2
theorem d_Ref_poke_3 : decode (jm_cod M_Ref_poke) 3 = .ok (.lconst 0, 1) := dt_Ref_poke_c0 3
theorem d_Ref_poke_4 : decode (jm_cod M_Ref_poke) 4 = .ok (.ldc2_w 308, 3) := dt_Ref_poke_c0 4
theorem d_Ref_poke_7 : decode (jm_cod M_Ref_poke) 7 = .ok (.invokestatic 599, 3) := dt_Ref_poke_c0 5
theorem d_Ref_poke_10 : decode (jm_cod M_Ref_poke) 10 = .ok (.ifCond .ne 7, 3) := dt_Ref_poke_c0 6
theorem d_Ref_poke_13 : decode (jm_cod M_Ref_poke) 13 = .ok (.iconst 1, 1) := dt_Ref_poke_c0 7
theorem d_Ref_poke_14 : decode (jm_cod M_Ref_poke) 14 = .ok (.goto 20, 3) := dt_Ref_poke_c0 8
theorem d_Ref_poke_17 : decode (jm_cod M_Ref_poke) 17 = .ok (.iload_n 2, 1) := dt_Ref_poke_c0 9
theorem d_Ref_poke_18 : decode (jm_cod M_Ref_poke) 18 = .ok (.i2l, 1) := dt_Ref_poke_c0 10
theorem d_Ref_poke_19 : decode (jm_cod M_Ref_poke) 19 = .ok (.lconst 0, 1) := dt_Ref_poke_c0 11
theorem d_Ref_poke_20 : decode (jm_cod M_Ref_poke) 20 = .ok (.ldc2_w 327, 3) := dt_Ref_poke_c0 12
theorem d_Ref_poke_23 : decode (jm_cod M_Ref_poke) 23 = .ok (.invokestatic 599, 3) := dt_Ref_poke_c0 13
theorem d_Ref_poke_26 : decode (jm_cod M_Ref_poke) 26 = .ok (.ifCond .ne 7, 3) := dt_Ref_poke_c0 14
theorem d_Ref_poke_29 : decode (jm_cod M_Ref_poke) 29 = .ok (.iconst 2, 1) := dt_Ref_poke_c0 15
theorem d_Ref_poke_30 : decode (jm_cod M_Ref_poke) 30 = .ok (.goto 4, 3) := dt_Ref_poke_c0 16
theorem d_Ref_poke_33 : decode (jm_cod M_Ref_poke) 33 = .ok (.iconst 0, 1) := dt_Ref_poke_c0 17
theorem d_Ref_poke_34 : decode (jm_cod M_Ref_poke) 34 = .ok (.putfield 303, 3) := dt_Ref_poke_c0 18
theorem d_Ref_poke_37 : decode (jm_cod M_Ref_poke) 37 = .ok (.aload_n 0, 1) := dt_Ref_poke_c0 19
theorem d_Ref_poke_38 : decode (jm_cod M_Ref_poke) 38 = .ok (.getfield 303, 3) := dt_Ref_poke_c0 20
theorem d_Ref_poke_41 : decode (jm_cod M_Ref_poke) 41 = .ok (.ifCond .le 5, 3) := dt_Ref_poke_c0 21
theorem d_Ref_poke_44 : decode (jm_cod M_Ref_poke) 44 = .ok (.iconst 0, 1) := dt_Ref_poke_c0 22
theorem d_Ref_poke_45 : decode (jm_cod M_Ref_poke) 45 = .ok (.ireturn, 1) := dt_Ref_poke_c0 23
def tab_Ref_poke_c1 : List (Nat × Instr × Nat) := [(46, .aload_n 0, 1), (47, .getfield 30, 3), (50, .iload_n 1, 1), (51, .iaload, 1), (52, .istore_n 3, 1), (53, .aload_n 0, 1), (54, .getfield 30, 3), (57, .iload_n 1, 1), (58, .iload_n 2, 1), (59, .iastore, 1), (60, .iload_n 3, 1), (61, .ireturn, 1)]
theorem dt_Ref_poke_c1 (i : Nat) : decode (jm_cod M_Ref_poke) (tab_Ref_poke_c1.getD i (46, .aload_n 0, 1)).1 = .ok ((tab_Ref_poke_c1.getD i (46, .aload_n 0, 1)).2.1, (tab_Ref_poke_c1.getD i (46, .aload_n 0, 1)).2.2) := j_tab (by decide +kernel) i
theorem d_Ref_poke_46 : decode (jm_cod M_Ref_poke) 46 = .ok (.aload_n 0, 1) := dt_Ref_poke_c1 0
theorem d_Ref_poke_47 : decode (jm_cod M_Ref_poke) 47 = .ok (.getfield 30, 3) := dt_Ref_poke_c1 1
theorem d_Ref_poke_50 : decode (jm_cod M_Ref_poke) 50 = .ok (.iload_n 1, 1) := dt_Ref_poke_c1 2
theorem d_Ref_poke_51 : decode (jm_cod M_Ref_poke) 51 = .ok (.iaload, 1) := dt_Ref_poke_c1 3
theorem d_Ref_poke_52 : decode (jm_cod M_Ref_poke) 52 = .ok (.istore_n 3, 1) := dt_Ref_poke_c1 4
theorem d_Ref_poke_53 : decode (jm_cod M_Ref_poke) 53 = .ok (.aload_n 0, 1) := dt_Ref_poke_c1 5
theorem d_Ref_poke_54 : decode (jm_cod M_Ref_poke) 54 = .ok (.getfield 30, 3) := dt_Ref_poke_c1 6
theorem d_Ref_poke_57 : decode (jm_cod M_Ref_poke) 57 = .ok (.iload_n 1, 1) := dt_Ref_poke_c1 7
theorem d_Ref_poke_58 : decode (jm_cod M_Ref_poke) 58 = .ok (.iload_n 2, 1) := dt_Ref_poke_c1 8
theorem d_Ref_poke_59 : decode (jm_cod M_Ref_poke) 59 = .ok (.iastore, 1) := dt_Ref_poke_c1 9
theorem d_Ref_poke_60 : decode (jm_cod M_Ref_poke) 60 = .ok (.iload_n 3, 1) := dt_Ref_poke_c1 10
theorem d_Ref_poke_61 : decode (jm_cod M_Ref_poke) 61 = .ok (.ireturn, 1) := dt_Ref_poke_c1 11
def tab_Ref_peek_c0 : List (Nat × Instr × Nat) := [(0, .aload_n 0, 1), (1, .iload_n 1, 1), (2, .i2l, 1), (3, .lconst 0, 1), (4, .ldc2_w 308, 3), (7, .invokestatic 599, 3), (10, .ifCond .eq 7, 3), (13, .iconst 0, 1), (14, .goto 4, 3), (17, .iconst 1, 1), (18, .putfield 303, 3), (21, .aload_n 0, 1), (22, .getfield 303, 3), (25, .ifCond .le 7, 3), (28, .iconst 0, 1), (29, .goto 9, 3), (32, .aload_n 0, 1), (33, .getfield 30, 3), (36, .iload_n 1, 1), (37, .iaload, 1), (38, .ireturn, 1)]
theorem dt_Ref_peek_c0 (i : Nat) : decode (jm_cod M_Ref_peek) (tab_Ref_peek_c0.getD i (0, .aload_n 0, 1)).1 = .ok ((tab_Ref_peek_c0.getD i (0, .aload_n 0, 1)).2.1, (tab_Ref_peek_c0.getD i (0, .aload_n 0, 1)).2.2) := j_tab (by decide +kernel) i
theorem d_Ref_peek_0 : decode (jm_cod M_Ref_peek) 0 = .ok (.aload_n 0, 1) := dt_Ref_peek_c0 0
theorem d_Ref_peek_1 : decode (jm_cod M_Ref_peek) 1 = .ok (.iload_n 1, 1) := dt_Ref_peek_c0 1
theorem d_Ref_peek_2 : decode (jm_cod M_Ref_peek) 2 = .ok (.i2l, 1) := dt_Ref_peek_c0 2
theorem d_Ref_peek_3 : decode (jm_cod M_Ref_peek) 3 = .ok (.lconst 0, 1) := dt_Ref_peek_c0 3
theorem d_Ref_peek_4 : decode (jm_cod M_Ref_peek) 4 = .ok (.ldc2_w 308, 3) := dt_Ref_peek_c0 4
theorem d_Ref_peek_7 : decode (jm_cod M_Ref_peek) 7 = .ok (.invokestatic 599, 3) := dt_Ref_peek_c0 5
theorem d_Ref_peek_10 : decode (jm_cod M_Ref_peek) 10 = .ok (.ifCond .eq 7, 3) := dt_Ref_peek_c0 6
theorem d_Ref_peek_13 : decode (jm_cod M_Ref_peek) 13 = .ok (.iconst 0, 1) := dt_Ref_peek_c0 7
theorem d_Ref_peek_14 : decode (jm_cod M_Ref_peek) 14 = .ok (.goto 4, 3) := dt_Ref_peek_c0 8
theorem d_Ref_peek_17 : decode (jm_cod M_Ref_peek) 17 = .ok (.iconst 1, 1) := dt_Ref_peek_c0 9
theorem d_Ref_peek_18 : decode (jm_cod M_Ref_peek) 18 = .ok (.putfield 303, 3) := dt_Ref_peek_c0 10
theorem d_Ref_peek_21 : decode (jm_cod M_Ref_peek) 21 = .ok (.aload_n 0, 1) := dt_Ref_peek_c0 11
theorem d_Ref_peek_22 : decode (jm_cod M_Ref_peek) 22 = .ok (.getfield 303, 3) := dt_Ref_peek_c0 12
theorem d_Ref_peek_25 : decode (jm_cod M_Ref_peek) 25 = .ok (.ifCond .le 7, 3) := dt_Ref_peek_c0 13
theorem d_Ref_peek_28 : decode (jm_cod M_Ref_peek) 28 = .ok (.iconst 0, 1) := dt_Ref_peek_c0 14
theorem d_Ref_peek_29 : decode (jm_cod M_Ref_peek) 29 = .ok (.goto 9, 3) := dt_Ref_peek_c0 15
theorem d_Ref_peek_32 : decode (jm_cod M_Ref_peek) 32 = .ok (.aload_n 0, 1) := dt_Ref_peek_c0 16
theorem d_Ref_peek_33 : decode (jm_cod M_Ref_peek) 33 = .ok (.getfield 30, 3) := dt_Ref_peek_c0 17
theorem d_Ref_peek_36 : decode (jm_cod M_Ref_peek) 36 = .ok (.iload_n 1, 1) := dt_Ref_peek_c0 18
theorem d_Ref_peek_37 : decode (jm_cod M_Ref_peek) 37 = .ok (.iaload, 1) := dt_Ref_peek_c0 19
theorem d_Ref_peek_38 : decode (jm_cod M_Ref_peek) 38 = .ok (.ireturn, 1) := dt_Ref_peek_c0 20
def tab_Ref_request_c0 : List (Nat × Instr × Nat) := [(0, .aload_n 0, 1), (1, .getfield 337, 3), (4, .istore 7, 2), (6, .aload_n 0, 1), (7, .iload_n 1, 1), (8, .i2l, 1), (9, .lconst 0, 1), (10, .aload_n 0, 1), (11, .getfield 290, 3), (14, .i2l, 1), (15, .lconst 1, 1), (16, .lsub, 1), (17, .invokestatic 599, 3), (20, .ifCond .eq 15, 3), (23, .iload_n 3, 1), (24, .i2l, 1), (25, .lconst 0, 1), (26, .ldc2_w 308, 3), (29, .invokestatic 599, 3), (32, .ifCond .ne 7, 3), (35, .iconst 1, 1), (36, .goto 33, 3), (39, .iload_n 2, 1), (40, .i2l, 1)]
theorem dt_Ref_request_c0 (i : Nat) : decode (jm_cod M_Ref_request) (tab_Ref_request_c0.getD i (0, .aload_n 0, 1)).1 = .ok ((tab_Ref_request_c0.getD i (0, .aload_n 0, 1)).2.1, (tab_Ref_request_c0.getD i (0, .aload_n 0, 1)).2.2) := j_tab (by decide +kernel) i
theorem d_Ref_request_0 : decode (jm_cod M_Ref_request) 0 = .ok (.aload_n 0, 1) := dt_Ref_request_c0 0
theorem d_Ref_request_1 : decode (jm_cod M_Ref_request) 1 = .ok (.getfield 337, 3) := dt_Ref_request_c0 1
theorem d_Ref_request_4 : decode (jm_cod M_Ref_request) 4 = .ok (.istore 7, 2) := dt_Ref_request_c0 2
theorem d_Ref_request_6 : decode (jm_cod M_Ref_request) 6 = .ok (.aload_n 0, 1) := dt_Ref_request_c0 3
theorem d_Ref_request_7 : decode (jm_cod M_Ref_request) 7 = .ok (.iload_n 1, 1) := dt_Ref_request_c0 4
theorem d_Ref_request_8 : decode (jm_cod M_Ref_request) 8 = .ok (.i2l, 1) := dt_Ref_request_c0 5
theorem d_Ref_request_9 : decode (jm_cod M_Ref_request) 9 = .ok (.lconst 0, 1) := dt_Ref_request_c0 6
theorem d_Ref_request_10 : decode (jm_cod M_Ref_request) 10 = .ok (.aload_n 0, 1) := dt_Ref_request_c0 7
theorem d_Ref_request_11 : decode (jm_cod M_Ref_request) 11 = .ok (.getfield 290, 3) := dt_Ref_request_c0 8
theorem d_Ref_request_14 : decode (jm_cod M_Ref_request) 14 = .ok (.i2l, 1) := dt_Ref_request_c0 9
theorem d_Ref_request_15 : decode (jm_cod M_Ref_request) 15 = .ok (.lconst 1, 1) := dt_Ref_request_c0 10
theorem d_Ref_request_16 : decode (jm_cod M_Ref_request) 16 = .ok (.lsub, 1) := dt_Ref_request_c0 11
theorem d_Ref_request_17 : decode (jm_cod M_Ref_request) 17 = .ok (.invokestatic 599, 3) := dt_Ref_request_c0 12
theorem d_Ref_request_20 : decode (jm_cod M_Ref_request) 20 = .ok (.ifCond .eq 15, 3) := dt_Ref_request_c0 13
theorem d_Ref_request_23 : decode (jm_cod M_Ref_request) 23 = .ok (.iload_n 3, 1) := dt_Ref_request_c0 14
theorem d_Ref_request_24 : decode (jm_cod M_Ref_request) 24 = .ok (.i2l, 1) := dt_Ref_request_c0 15
theorem d_Ref_request_25 : decode (jm_cod M_Ref_request) 25 = .ok (.lconst 0, 1) := dt_Ref_request_c0 16
theorem d_Ref_request_26 : decode (jm_cod M_Ref_request) 26 = .ok (.ldc2_w 308, 3) := dt_Ref_request_c0 17
theorem d_Ref_request_29 : decode (jm_cod M_Ref_request) 29 = .ok (.invokestatic 599, 3) := dt_Ref_request_c0 18
theorem d_Ref_request_32 : decode (jm_cod M_Ref_request) 32 = .ok (.ifCond .ne 7, 3) := dt_Ref_request_c0 19
theorem d_Ref_request_35 : decode (jm_cod M_Ref_request) 35 = .ok (.iconst 1, 1) := dt_Ref_request_c0 20
theorem d_Ref_request_36 : decode (jm_cod M_Ref_request) 36 = .ok (.goto 33, 3) := dt_Ref_request_c0 21
theorem d_Ref_request_39 : decode (jm_cod M_Ref_request) 39 = .ok (.iload_n 2, 1) := dt_Ref_request_c0 22
theorem d_Ref_request_40 : decode (jm_cod M_Ref_request) 40 = .ok (.i2l, 1) := dt_Ref_request_c0 23
def tab_Ref_request_c1 : List (Nat × Instr × Nat) := [(41, .lconst 0, 1), (42, .ldc2_w 614, 3), (45, .invokestatic 599, 3), (48, .ifCond .eq 16, 3), (51, .iload 4, 2), (53, .i2l, 1), (54, .lconst 0, 1), (55, .ldc2_w 310, 3), (58, .invokestatic 599, 3), (61, .ifCond .ne 7, 3), (64, .iconst 2, 1), (65, .goto 4, 3), (68, .iconst 0, 1), (69, .putfield 303, 3), (72, .aload_n 0, 1), (73, .getfield 303, 3), (76, .ifCond .le 5, 3), (79, .iconst 0, 1), (80, .ireturn, 1), (81, .iload 4, 2), (83, .i2l, 1), (84, .ldc2_w 340, 3), (87, .iload_n 3, 1), (88, .i2l, 1)]
theorem dt_Ref_request_c1 (i : Nat) : decode (jm_cod M_Ref_request) (tab_Ref_request_c1.getD i (41, .lconst 0, 1)).1 = .ok ((tab_Ref_request_c1.getD i (41, .lconst 0, 1)).2.1, (tab_Ref_request_c1.getD i (41, .lconst 0, 1)).2.2) := j_tab (by decide +kernel) i
theorem d_Ref_request_41 : decode (jm_cod M_Ref_request) 41 = .ok (.lconst 0, 1) := dt_Ref_request_c1 0
theorem d_Ref_request_42 : decode (jm_cod M_Ref_request) 42 = .ok (.ldc2_w 614, 3) := dt_Ref_request_c1 1
theorem d_Ref_request_45 : decode (jm_cod M_Ref_request) 45 = .ok (.invokestatic 599, 3) := dt_Ref_request_c1 2
theorem d_Ref_request_48 : decode (jm_cod M_Ref_request) 48 = .ok (.ifCond .eq 16, 3) := dt_Ref_request_c1 3
theorem d_Ref_request_51 : decode (jm_cod M_Ref_request) 51 = .ok (.iload 4, 2) := dt_Ref_request_c1 4
theorem d_Ref_request_53 : decode (jm_cod M_Ref_request) 53 = .ok (.i2l, 1) := dt_Ref_request_c1 5
theorem d_Ref_request_54 : decode (jm_cod M_Ref_request) 54 = .ok (.lconst 0, 1) := dt_Ref_request_c1 6
theorem d_Ref_request_55 : decode (jm_cod M_Ref_request) 55 = .ok (.ldc2_w 310, 3) := dt_Ref_request_c1 7
theorem d_Ref_request_58 : decode (jm_cod M_Ref_request) 58 = .ok (.invokestatic 599, 3) := dt_Ref_request_c1 8
theorem d_Ref_request_61 : decode (jm_cod M_Ref_request) 61 = .ok (.ifCond .ne 7, 3) := dt_Ref_request_c1 9
theorem d_Ref_request_64 : decode (jm_cod M_Ref_request) 64 = .ok (.iconst 2, 1) := dt_Ref_request_c1 10
theorem d_Ref_request_65 : decode (jm_cod M_Ref_request) 65 = .ok (.goto 4, 3) := dt_Ref_request_c1 11
theorem d_Ref_request_68 : decode (jm_cod M_Ref_request) 68 = .ok (.iconst 0, 1) := dt_Ref_request_c1 12
theorem d_Ref_request_69 : decode (jm_cod M_Ref_request) 69 = .ok (.putfield 303, 3) := dt_Ref_request_c1 13
theorem d_Ref_request_72 : decode (jm_cod M_Ref_request) 72 = .ok (.aload_n 0, 1) := dt_Ref_request_c1 14
theorem d_Ref_request_73 : decode (jm_cod M_Ref_request) 73 = .ok (.getfield 303, 3) := dt_Ref_request_c1 15
theorem d_Ref_request_76 : decode (jm_cod M_Ref_request) 76 = .ok (.ifCond .le 5, 3) := dt_Ref_request_c1 16
theorem d_Ref_request_79 : decode (jm_cod M_Ref_request) 79 = .ok (.iconst 0, 1) := dt_Ref_request_c1 17
theorem d_Ref_request_80 : decode (jm_cod M_Ref_request) 80 = .ok (.ireturn, 1) := dt_Ref_request_c1 18
theorem d_Ref_request_81 : decode (jm_cod M_Ref_request) 81 = .ok (.iload 4, 2) := dt_Ref_request_c1 19
theorem d_Ref_request_83 : decode (jm_cod M_Ref_request) 83 = .ok (.i2l, 1) := dt_Ref_request_c1 20
theorem d_Ref_request_84 : decode (jm_cod M_Ref_request) 84 = .ok (.ldc2_w 340, 3) := dt_Ref_request_c1 21
theorem d_Ref_request_87 : decode (jm_cod M_Ref_request) 87 = .ok (.iload_n 3, 1) := dt_Ref_request_c1 22
theorem d_Ref_request_88 : decode (jm_cod M_Ref_request) 88 = .ok (.i2l, 1) := dt_Ref_request_c1 23
def tab_Ref_request_c2 : List (Nat × Instr × Nat) := [(89, .lmul, 1), (90, .ladd, 1), (91, .iload_n 2, 1), (92, .i2l, 1), (93, .ldc2_w 310, 3), (96, .land, 1), (97, .bipush 22, 2), (99, .lshl, 1), (100, .ladd, 1), (101, .iload_n 2, 1), (102, .iconst 4, 1), (103, .ishr, 1), (104, .i2l, 1), (105, .ldc2_w 312, 3), (108, .land, 1), (109, .bipush 26, 2), (111, .lshl, 1), (112, .ladd, 1), (113, .iload_n 2, 1), (114, .bipush 6, 2), (116, .ishr, 1), (117, .i2l, 1), (118, .ldc2_w 312, 3), (121, .land, 1)]
theorem dt_Ref_request_c2 (i : Nat) : decode (jm_cod M_Ref_request) (tab_Ref_request_c2.getD i (89, .lmul, 1)).1 = .ok ((tab_Ref_request_c2.getD i (89, .lmul, 1)).2.1, (tab_Ref_request_c2.getD i (89, .lmul, 1)).2.2) := j_tab (by decide +kernel) i
theorem d_Ref_request_89 : decode (jm_cod M_Ref_request) 89 = .ok (.lmul, 1) := dt_Ref_request_c2 0
theorem d_Ref_request_90 : decode (jm_cod M_Ref_request) 90 = .ok (.ladd, 1) := dt_Ref_request_c2 1
theorem d_Ref_request_91 : decode (jm_cod M_Ref_request) 91 = .ok (.iload_n 2, 1) := dt_Ref_request_c2 2
theorem d_Ref_request_92 : decode (jm_cod M_Ref_request) 92 = .ok (.i2l, 1) := dt_Ref_request_c2 3
theorem d_Ref_request_93 : decode (jm_cod M_Ref_request) 93 = .ok (.ldc2_w 310, 3) := dt_Ref_request_c2 4
theorem d_Ref_request_96 : decode (jm_cod M_Ref_request) 96 = .ok (.land, 1) := dt_Ref_request_c2 5
theorem d_Ref_request_97 : decode (jm_cod M_Ref_request) 97 = .ok (.bipush 22, 2) := dt_Ref_request_c2 6
theorem d_Ref_request_99 : decode (jm_cod M_Ref_request) 99 = .ok (.lshl, 1) := dt_Ref_request_c2 7
theorem d_Ref_request_100 : decode (jm_cod M_Ref_request) 100 = .ok (.ladd, 1) := dt_Ref_request_c2 8
theorem d_Ref_request_101 : decode (jm_cod M_Ref_request) 101 = .ok (.iload_n 2, 1) := dt_Ref_request_c2 9
theorem d_Ref_request_102 : decode (jm_cod M_Ref_request) 102 = .ok (.iconst 4, 1) := dt_Ref_request_c2 10
theorem d_Ref_request_103 : decode (jm_cod M_Ref_request) 103 = .ok (.ishr, 1) := dt_Ref_request_c2 11
theorem d_Ref_request_104 : decode (jm_cod M_Ref_request) 104 = .ok (.i2l, 1) := dt_Ref_request_c2 12
theorem d_Ref_request_105 : decode (jm_cod M_Ref_request) 105 = .ok (.ldc2_w 312, 3) := dt_Ref_request_c2 13
theorem d_Ref_request_108 : decode (jm_cod M_Ref_request) 108 = .ok (.land, 1) := dt_Ref_request_c2 14
theorem d_Ref_request_109 : decode (jm_cod M_Ref_request) 109 = .ok (.bipush 26, 2) := dt_Ref_request_c2 15
theorem d_Ref_request_111 : decode (jm_cod M_Ref_request) 111 = .ok (.lshl, 1) := dt_Ref_request_c2 16
theorem d_Ref_request_112 : decode (jm_cod M_Ref_request) 112 = .ok (.ladd, 1) := dt_Ref_request_c2 17
theorem d_Ref_request_113 : decode (jm_cod M_Ref_request) 113 = .ok (.iload_n 2, 1) := dt_Ref_request_c2 18
theorem d_Ref_request_114 : decode (jm_cod M_Ref_request) 114 = .ok (.bipush 6, 2) := dt_Ref_request_c2 19
theorem d_Ref_request_116 : decode (jm_cod M_Ref_request) 116 = .ok (.ishr, 1) := dt_Ref_request_c2 20
theorem d_Ref_request_117 : decode (jm_cod M_Ref_request) 117 = .ok (.i2l, 1) := dt_Ref_request_c2 21
theorem d_Ref_request_118 : decode (jm_cod M_Ref_request) 118 = .ok (.ldc2_w 312, 3) := dt_Ref_request_c2 22
theorem d_Ref_request_121 : decode (jm_cod M_Ref_request) 121 = .ok (.land, 1) := dt_Ref_request_c2 23
def tab_Ref_request_c3 : List (Nat × Instr × Nat) := [(122, .bipush 28, 2), (124, .lshl, 1), (125, .ladd, 1), (126, .iload_n 2, 1), (127, .bipush 9, 2), (129, .ishr, 1), (130, .i2l, 1), (131, .lconst 1, 1), (132, .land, 1), (133, .bipush 30, 2), (135, .lshl, 1), (136, .ladd, 1), (137, .lstore 8, 2), (139, .iload_n 2, 1), (140, .bipush 8, 2), (142, .ishr, 1), (143, .iconst 1, 1), (144, .iand, 1), (145, .iconst 1, 1), (146, .if_icmp .ne 7, 3), (149, .iconst 1, 1), (150, .goto 4, 3), (153, .iconst 0, 1), (154, .istore 10, 2)]
theorem dt_Ref_request_c3 (i : Nat) : decode (jm_cod M_Ref_request) (tab_Ref_request_c3.getD i (122, .bipush 28, 2)).1 = .ok ((tab_Ref_request_c3.getD i (122, .bipush 28, 2)).2.1, (tab_Ref_request_c3.getD i (122, .bipush 28, 2)).2.2) := j_tab (by decide +kernel) i
theorem d_Ref_request_122 : decode (jm_cod M_Ref_request) 122 = .ok (.bipush 28, 2) := dt_Ref_request_c3 0
theorem d_Ref_request_124 : decode (jm_cod M_Ref_request) 124 = .ok (.lshl, 1) := dt_Ref_request_c3 1
theorem d_Ref_request_125 : decode (jm_cod M_Ref_request) 125 = .ok (.ladd, 1) := dt_Ref_request_c3 2
theorem d_Ref_request_126 : decode (jm_cod M_Ref_request) 126 = .ok (.iload_n 2, 1) := dt_Ref_request_c3 3
theorem d_Ref_request_127 : decode (jm_cod M_Ref_request) 127 = .ok (.bipush 9, 2) := dt_Ref_request_c3 4
theorem d_Ref_request_129 : decode (jm_cod M_Ref_request) 129 = .ok (.ishr, 1) := dt_Ref_request_c3 5
theorem d_Ref_request_130 : decode (jm_cod M_Ref_request) 130 = .ok (.i2l, 1) := dt_Ref_request_c3 6
theorem d_Ref_request_131 : decode (jm_cod M_Ref_request) 131 = .ok (.lconst 1, 1) := dt_Ref_request_c3 7
theorem d_Ref_request_132 : decode (jm_cod M_Ref_request) 132 = .ok (.land, 1) := dt_Ref_request_c3 8
theorem d_Ref_request_133 : decode (jm_cod M_Ref_request) 133 = .ok (.bipush 30, 2) := dt_Ref_request_c3 9
theorem d_Ref_request_135 : decode (jm_cod M_Ref_request) 135 = .ok (.lshl, 1) := dt_Ref_request_c3 10
theorem d_Ref_request_136 : decode (jm_cod M_Ref_request) 136 = .ok (.ladd, 1) := dt_Ref_request_c3 11
theorem d_Ref_request_137 : decode (jm_cod M_Ref_request) 137 = .ok (.lstore 8, 2) := dt_Ref_request_c3 12
theorem d_Ref_request_139 : decode (jm_cod M_Ref_request) 139 = .ok (.iload_n 2, 1) := dt_Ref_request_c3 13
theorem d_Ref_request_140 : decode (jm_cod M_Ref_request) 140 = .ok (.bipush 8, 2) := dt_Ref_request_c3 14
theorem d_Ref_request_142 : decode (jm_cod M_Ref_request) 142 = .ok (.ishr, 1) := dt_Ref_request_c3 15
theorem d_Ref_request_143 : decode (jm_cod M_Ref_request) 143 = .ok (.iconst 1, 1) := dt_Ref_request_c3 16
theorem d_Ref_request_144 : decode (jm_cod M_Ref_request) 144 = .ok (.iand, 1) := dt_Ref_request_c3 17
theorem d_Ref_request_145 : decode (jm_cod M_Ref_request) 145 = .ok (.iconst 1, 1) := dt_Ref_request_c3 18
theorem d_Ref_request_146 : decode (jm_cod M_Ref_request) 146 = .ok (.if_icmp .ne 7, 3) := dt_Ref_request_c3 19
theorem d_Ref_request_149 : decode (jm_cod M_Ref_request) 149 = .ok (.iconst 1, 1) := dt_Ref_request_c3 20
theorem d_Ref_request_150 : decode (jm_cod M_Ref_request) 150 = .ok (.goto 4, 3) := dt_Ref_request_c3 21
theorem d_Ref_request_153 : decode (jm_cod M_Ref_request) 153 = .ok (.iconst 0, 1) := dt_Ref_request_c3 22
theorem d_Ref_request_154 : decode (jm_cod M_Ref_request) 154 = .ok (.istore 10, 2) := dt_Ref_request_c3 23
def tab_Ref_request_c4 : List (Nat × Instr × Nat) := [(156, .iconst 0, 1), (157, .istore 11, 2), (159, .iconst 0, 1), (160, .istore 12, 2), (162, .iload 12, 2), (164, .aload_n 0, 1), (165, .getfield 337, 3), (168, .if_icmp .ge 53, 3), (171, .iload 11, 2), (173, .aload_n 0, 1), (174, .getfield 36, 3), (177, .iload 12, 2), (179, .iaload, 1), (180, .iload_n 1, 1), (181, .if_icmp .ne 30, 3), (184, .aload_n 0, 1), (185, .getfield 48, 3), (188, .iload 12, 2), (190, .baload, 1), (191, .iload 10, 2), (193, .if_icmp .ne 18, 3), (196, .aload_n 0, 1), (197, .getfield 73, 3), (200, .iload 12, 2)]
theorem dt_Ref_request_c4 (i : Nat) : decode (jm_cod M_Ref_request) (tab_Ref_request_c4.getD i (156, .iconst 0, 1)).1 = .ok ((tab_Ref_request_c4.getD i (156, .iconst 0, 1)).2.1, (tab_Ref_request_c4.getD i (156, .iconst 0, 1)).2.2) := j_tab (by decide +kernel) i
theorem d_Ref_request_156 : decode (jm_cod M_Ref_request) 156 = .ok (.iconst 0, 1) := dt_Ref_request_c4 0
theorem d_Ref_request_157 : decode (jm_cod M_Ref_request) 157 = .ok (.istore 11, 2) := dt_Ref_request_c4 1
theorem d_Ref_request_159 : decode (jm_cod M_Ref_request) 159 = .ok (.iconst 0, 1) := dt_Ref_request_c4 2
theorem d_Ref_request_160 : decode (jm_cod M_Ref_request) 160 = .ok (.istore 12, 2) := dt_Ref_request_c4 3
theorem d_Ref_request_162 : decode (jm_cod M_Ref_request) 162 = .ok (.iload 12, 2) := dt_Ref_request_c4 4
theorem d_Ref_request_164 : decode (jm_cod M_Ref_request) 164 = .ok (.aload_n 0, 1) := dt_Ref_request_c4 5
theorem d_Ref_request_165 : decode (jm_cod M_Ref_request) 165 = .ok (.getfield 337, 3) := dt_Ref_request_c4 6
theorem d_Ref_request_168 : decode (jm_cod M_Ref_request) 168 = .ok (.if_icmp .ge 53, 3) := dt_Ref_request_c4 7
theorem d_Ref_request_171 : decode (jm_cod M_Ref_request) 171 = .ok (.iload 11, 2) := dt_Ref_request_c4 8
theorem d_Ref_request_173 : decode (jm_cod M_Ref_request) 173 = .ok (.aload_n 0, 1) := dt_Ref_request_c4 9
theorem d_Ref_request_174 : decode (jm_cod M_Ref_request) 174 = .ok (.getfield 36, 3) := dt_Ref_request_c4 10
theorem d_Ref_request_177 : decode (jm_cod M_Ref_request) 177 = .ok (.iload 12, 2) := dt_Ref_request_c4 11
theorem d_Ref_request_179 : decode (jm_cod M_Ref_request) 179 = .ok (.iaload, 1) := dt_Ref_request_c4 12
theorem d_Ref_request_180 : decode (jm_cod M_Ref_request) 180 = .ok (.iload_n 1, 1) := dt_Ref_request_c4 13
theorem d_Ref_request_181 : decode (jm_cod M_Ref_request) 181 = .ok (.if_icmp .ne 30, 3) := dt_Ref_request_c4 14
theorem d_Ref_request_184 : decode (jm_cod M_Ref_request) 184 = .ok (.aload_n 0, 1) := dt_Ref_request_c4 15
theorem d_Ref_request_185 : decode (jm_cod M_Ref_request) 185 = .ok (.getfield 48, 3) := dt_Ref_request_c4 16
theorem d_Ref_request_188 : decode (jm_cod M_Ref_request) 188 = .ok (.iload 12, 2) := dt_Ref_request_c4 17
theorem d_Ref_request_190 : decode (jm_cod M_Ref_request) 190 = .ok (.baload, 1) := dt_Ref_request_c4 18
theorem d_Ref_request_191 : decode (jm_cod M_Ref_request) 191 = .ok (.iload 10, 2) := dt_Ref_request_c4 19
theorem d_Ref_request_193 : decode (jm_cod M_Ref_request) 193 = .ok (.if_icmp .ne 18, 3) := dt_Ref_request_c4 20
theorem d_Ref_request_196 : decode (jm_cod M_Ref_request) 196 = .ok (.aload_n 0, 1) := dt_Ref_request_c4 21
theorem d_Ref_request_197 : decode (jm_cod M_Ref_request) 197 = .ok (.getfield 73, 3) := dt_Ref_request_c4 22
theorem d_Ref_request_200 : decode (jm_cod M_Ref_request) 200 = .ok (.iload 12, 2) := dt_Ref_request_c4 23
def tab_Ref_request_c5 : List (Nat × Instr × Nat) := [(202, .iaload, 1), (203, .iconst (-1), 1), (204, .if_icmp .ne 7, 3), (207, .iconst 1, 1), (208, .goto 4, 3), (211, .iconst 0, 1), (212, .iadd, 1), (213, .istore 11, 2), (215, .iinc 12 1, 3), (218, .goto (-56), 3), (221, .aload_n 0, 1), (222, .lload 8, 2), (224, .invokestatic 419, 3), (227, .ifCond .le 7, 3), (230, .iconst 2, 1), (231, .goto 24, 3), (234, .aload_n 0, 1), (235, .getfield 337, 3), (238, .bipush 64, 2), (240, .if_icmp .eq 10, 3), (243, .iload 11, 2), (245, .bipush 8, 2), (247, .if_icmp .ne 7, 3), (250, .iconst 3, 1)]
theorem dt_Ref_request_c5 (i : Nat) : decode (jm_cod M_Ref_request) (tab_Ref_request_c5.getD i (202, .iaload, 1)).1 = .ok ((tab_Ref_request_c5.getD i (202, .iaload, 1)).2.1, (tab_Ref_request_c5.getD i (202, .iaload, 1)).2.2) := j_tab (by decide +kernel) i
theorem d_Ref_request_202 : decode (jm_cod M_Ref_request) 202 = .ok (.iaload, 1) := dt_Ref_request_c5 0
theorem d_Ref_request_203 : decode (jm_cod M_Ref_request) 203 = .ok (.iconst (-1), 1) := dt_Ref_request_c5 1
theorem d_Ref_request_204 : decode (jm_cod M_Ref_request) 204 = .ok (.if_icmp .ne 7, 3) := dt_Ref_request_c5 2
theorem d_Ref_request_207 : decode (jm_cod M_Ref_request) 207 = .ok (.iconst 1, 1) := dt_Ref_request_c5 3
theorem d_Ref_request_208 : decode (jm_cod M_Ref_request) 208 = .ok (.goto 4, 3) := dt_Ref_request_c5 4
theorem d_Ref_request_211 : decode (jm_cod M_Ref_request) 211 = .ok (.iconst 0, 1) := dt_Ref_request_c5 5
theorem d_Ref_request_212 : decode (jm_cod M_Ref_request) 212 = .ok (.iadd, 1) := dt_Ref_request_c5 6
theorem d_Ref_request_213 : decode (jm_cod M_Ref_request) 213 = .ok (.istore 11, 2) := dt_Ref_request_c5 7
theorem d_Ref_request_215 : decode (jm_cod M_Ref_request) 215 = .ok (.iinc 12 1, 3) := dt_Ref_request_c5 8
theorem d_Ref_request_218 : decode (jm_cod M_Ref_request) 218 = .ok (.goto (-56), 3) := dt_Ref_request_c5 9
theorem d_Ref_request_221 : decode (jm_cod M_Ref_request) 221 = .ok (.aload_n 0, 1) := dt_Ref_request_c5 10
theorem d_Ref_request_222 : decode (jm_cod M_Ref_request) 222 = .ok (.lload 8, 2) := dt_Ref_request_c5 11
theorem d_Ref_request_224 : decode (jm_cod M_Ref_request) 224 = .ok (.invokestatic 419, 3) := dt_Ref_request_c5 12
theorem d_Ref_request_227 : decode (jm_cod M_Ref_request) 227 = .ok (.ifCond .le 7, 3) := dt_Ref_request_c5 13
theorem d_Ref_request_230 : decode (jm_cod M_Ref_request) 230 = .ok (.iconst 2, 1) := dt_Ref_request_c5 14
theorem d_Ref_request_231 : decode (jm_cod M_Ref_request) 231 = .ok (.goto 24, 3) := dt_Ref_request_c5 15
theorem d_Ref_request_234 : decode (jm_cod M_Ref_request) 234 = .ok (.aload_n 0, 1) := dt_Ref_request_c5 16
theorem d_Ref_request_235 : decode (jm_cod M_Ref_request) 235 = .ok (.getfield 337, 3) := dt_Ref_request_c5 17
theorem d_Ref_request_238 : decode (jm_cod M_Ref_request) 238 = .ok (.bipush 64, 2) := dt_Ref_request_c5 18
theorem d_Ref_request_240 : decode (jm_cod M_Ref_request) 240 = .ok (.if_icmp .eq 10, 3) := dt_Ref_request_c5 19
theorem d_Ref_request_243 : decode (jm_cod M_Ref_request) 243 = .ok (.iload 11, 2) := dt_Ref_request_c5 20
theorem d_Ref_request_245 : decode (jm_cod M_Ref_request) 245 = .ok (.bipush 8, 2) := dt_Ref_request_c5 21
theorem d_Ref_request_247 : decode (jm_cod M_Ref_request) 247 = .ok (.if_icmp .ne 7, 3) := dt_Ref_request_c5 22
theorem d_Ref_request_250 : decode (jm_cod M_Ref_request) 250 = .ok (.iconst 3, 1) := dt_Ref_request_c5 23
def tab_Ref_request_c6 : List (Nat × Instr × Nat) := [(251, .goto 4, 3), (254, .iconst 0, 1), (255, .putfield 303, 3), (258, .aload_n 0, 1), (259, .getfield 303, 3), (262, .ifCond .le 5, 3), (265, .iconst 0, 1), (266, .ireturn, 1), (267, .aload_n 0, 1), (268, .getfield 36, 3), (271, .iload 7, 2), (273, .iload_n 1, 1), (274, .iastore, 1), (275, .aload_n 0, 1), (276, .getfield 39, 3), (279, .iload 7, 2), (281, .iload_n 2, 1), (282, .bipush 15, 2), (284, .iand, 1), (285, .iconst 1, 1), (286, .iadd, 1), (287, .iastore, 1), (288, .aload_n 0, 1), (289, .getfield 42, 3)]
theorem dt_Ref_request_c6 (i : Nat) : decode (jm_cod M_Ref_request) (tab_Ref_request_c6.getD i (251, .goto 4, 3)).1 = .ok ((tab_Ref_request_c6.getD i (251, .goto 4, 3)).2.1, (tab_Ref_request_c6.getD i (251, .goto 4, 3)).2.2) := j_tab (by decide +kernel) i
theorem d_Ref_request_251 : decode (jm_cod M_Ref_request) 251 = .ok (.goto 4, 3) := dt_Ref_request_c6 0
theorem d_Ref_request_254 : decode (jm_cod M_Ref_request) 254 = .ok (.iconst 0, 1) := dt_Ref_request_c6 1
theorem d_Ref_request_255 : decode (jm_cod M_Ref_request) 255 = .ok (.putfield 303, 3) := dt_Ref_request_c6 2
theorem d_Ref_request_258 : decode (jm_cod M_Ref_request) 258 = .ok (.aload_n 0, 1) := dt_Ref_request_c6 3
theorem d_Ref_request_259 : decode (jm_cod M_Ref_request) 259 = .ok (.getfield 303, 3) := dt_Ref_request_c6 4
theorem d_Ref_request_262 : decode (jm_cod M_Ref_request) 262 = .ok (.ifCond .le 5, 3) := dt_Ref_request_c6 5
theorem d_Ref_request_265 : decode (jm_cod M_Ref_request) 265 = .ok (.iconst 0, 1) := dt_Ref_request_c6 6
theorem d_Ref_request_266 : decode (jm_cod M_Ref_request) 266 = .ok (.ireturn, 1) := dt_Ref_request_c6 7
theorem d_Ref_request_267 : decode (jm_cod M_Ref_request) 267 = .ok (.aload_n 0, 1) := dt_Ref_request_c6 8
theorem d_Ref_request_268 : decode (jm_cod M_Ref_request) 268 = .ok (.getfield 36, 3) := dt_Ref_request_c6 9
theorem d_Ref_request_271 : decode (jm_cod M_Ref_request) 271 = .ok (.iload 7, 2) := dt_Ref_request_c6 10
theorem d_Ref_request_273 : decode (jm_cod M_Ref_request) 273 = .ok (.iload_n 1, 1) := dt_Ref_request_c6 11
theorem d_Ref_request_274 : decode (jm_cod M_Ref_request) 274 = .ok (.iastore, 1) := dt_Ref_request_c6 12
theorem d_Ref_request_275 : decode (jm_cod M_Ref_request) 275 = .ok (.aload_n 0, 1) := dt_Ref_request_c6 13
theorem d_Ref_request_276 : decode (jm_cod M_Ref_request) 276 = .ok (.getfield 39, 3) := dt_Ref_request_c6 14
theorem d_Ref_request_279 : decode (jm_cod M_Ref_request) 279 = .ok (.iload 7, 2) := dt_Ref_request_c6 15
theorem d_Ref_request_281 : decode (jm_cod M_Ref_request) 281 = .ok (.iload_n 2, 1) := dt_Ref_request_c6 16
theorem d_Ref_request_282 : decode (jm_cod M_Ref_request) 282 = .ok (.bipush 15, 2) := dt_Ref_request_c6 17
theorem d_Ref_request_284 : decode (jm_cod M_Ref_request) 284 = .ok (.iand, 1) := dt_Ref_request_c6 18
theorem d_Ref_request_285 : decode (jm_cod M_Ref_request) 285 = .ok (.iconst 1, 1) := dt_Ref_request_c6 19
theorem d_Ref_request_286 : decode (jm_cod M_Ref_request) 286 = .ok (.iadd, 1) := dt_Ref_request_c6 20
theorem d_Ref_request_287 : decode (jm_cod M_Ref_request) 287 = .ok (.iastore, 1) := dt_Ref_request_c6 21
theorem d_Ref_request_288 : decode (jm_cod M_Ref_request) 288 = .ok (.aload_n 0, 1) := dt_Ref_request_c6 22
theorem d_Ref_request_289 : decode (jm_cod M_Ref_request) 289 = .ok (.getfield 42, 3) := dt_Ref_request_c6 23
def tab_Ref_request_c7 : List (Nat × Instr × Nat) := [(292, .iload 7, 2), (294, .iload_n 2, 1), (295, .iconst 4, 1), (296, .ishr, 1), (297, .iconst 3, 1), (298, .iand, 1), (299, .iastore, 1), (300, .aload_n 0, 1), (301, .getfield 45, 3), (304, .iload 7, 2), (306, .iload_n 2, 1), (307, .bipush 6, 2), (309, .ishr, 1), (310, .iconst 3, 1), (311, .iand, 1), (312, .iastore, 1), (313, .aload_n 0, 1), (314, .getfield 48, 3), (317, .iload 7, 2), (319, .iload 10, 2), (321, .bastore, 1), (322, .aload_n 0, 1), (323, .getfield 51, 3), (326, .iload 7, 2)]
theorem dt_Ref_request_c7 (i : Nat) : decode (jm_cod M_Ref_request) (tab_Ref_request_c7.getD i (292, .iload 7, 2)).1 = .ok ((tab_Ref_request_c7.getD i (292, .iload 7, 2)).2.1, (tab_Ref_request_c7.getD i (292, .iload 7, 2)).2.2) := j_tab (by decide +kernel) i
theorem d_Ref_request_292 : decode (jm_cod M_Ref_request) 292 = .ok (.iload 7, 2) := dt_Ref_request_c7 0
theorem d_Ref_request_294 : decode (jm_cod M_Ref_request) 294 = .ok (.iload_n 2, 1) := dt_Ref_request_c7 1
theorem d_Ref_request_295 : decode (jm_cod M_Ref_request) 295 = .ok (.iconst 4, 1) := dt_Ref_request_c7 2
theorem d_Ref_request_296 : decode (jm_cod M_Ref_request) 296 = .ok (.ishr, 1) := dt_Ref_request_c7 3
theorem d_Ref_request_297 : decode (jm_cod M_Ref_request) 297 = .ok (.iconst 3, 1) := dt_Ref_request_c7 4
theorem d_Ref_request_298 : decode (jm_cod M_Ref_request) 298 = .ok (.iand, 1) := dt_Ref_request_c7 5
theorem d_Ref_request_299 : decode (jm_cod M_Ref_request) 299 = .ok (.iastore, 1) := dt_Ref_request_c7 6
theorem d_Ref_request_300 : decode (jm_cod M_Ref_request) 300 = .ok (.aload_n 0, 1) := dt_Ref_request_c7 7
theorem d_Ref_request_301 : decode (jm_cod M_Ref_request) 301 = .ok (.getfield 45, 3) := dt_Ref_request_c7 8
theorem d_Ref_request_304 : decode (jm_cod M_Ref_request) 304 = .ok (.iload 7, 2) := dt_Ref_request_c7 9
theorem d_Ref_request_306 : decode (jm_cod M_Ref_request) 306 = .ok (.iload_n 2, 1) := dt_Ref_request_c7 10
theorem d_Ref_request_307 : decode (jm_cod M_Ref_request) 307 = .ok (.bipush 6, 2) := dt_Ref_request_c7 11
theorem d_Ref_request_309 : decode (jm_cod M_Ref_request) 309 = .ok (.ishr, 1) := dt_Ref_request_c7 12
theorem d_Ref_request_310 : decode (jm_cod M_Ref_request) 310 = .ok (.iconst 3, 1) := dt_Ref_request_c7 13
theorem d_Ref_request_311 : decode (jm_cod M_Ref_request) 311 = .ok (.iand, 1) := dt_Ref_request_c7 14
theorem d_Ref_request_312 : decode (jm_cod M_Ref_request) 312 = .ok (.iastore, 1) := dt_Ref_request_c7 15
theorem d_Ref_request_313 : decode (jm_cod M_Ref_request) 313 = .ok (.aload_n 0, 1) := dt_Ref_request_c7 16
theorem d_Ref_request_314 : decode (jm_cod M_Ref_request) 314 = .ok (.getfield 48, 3) := dt_Ref_request_c7 17
theorem d_Ref_request_317 : decode (jm_cod M_Ref_request) 317 = .ok (.iload 7, 2) := dt_Ref_request_c7 18
theorem d_Ref_request_319 : decode (jm_cod M_Ref_request) 319 = .ok (.iload 10, 2) := dt_Ref_request_c7 19
theorem d_Ref_request_321 : decode (jm_cod M_Ref_request) 321 = .ok (.bastore, 1) := dt_Ref_request_c7 20
theorem d_Ref_request_322 : decode (jm_cod M_Ref_request) 322 = .ok (.aload_n 0, 1) := dt_Ref_request_c7 21
theorem d_Ref_request_323 : decode (jm_cod M_Ref_request) 323 = .ok (.getfield 51, 3) := dt_Ref_request_c7 22
theorem d_Ref_request_326 : decode (jm_cod M_Ref_request) 326 = .ok (.iload 7, 2) := dt_Ref_request_c7 23
def tab_Ref_request_c8 : List (Nat × Instr × Nat) := [(328, .iload_n 2, 1), (329, .bipush 9, 2), (331, .ishr, 1), (332, .iconst 1, 1), (333, .iand, 1), (334, .iconst 1, 1), (335, .if_icmp .ne 7, 3), (338, .iconst 1, 1), (339, .goto 4, 3), (342, .iconst 0, 1), (343, .bastore, 1), (344, .aload_n 0, 1), (345, .getfield 54, 3), (348, .iload 7, 2), (350, .iload_n 2, 1), (351, .bipush 10, 2), (353, .ishr, 1), (354, .iconst 1, 1), (355, .iand, 1), (356, .iconst 1, 1), (357, .if_icmp .ne 7, 3), (360, .iconst 1, 1), (361, .goto 4, 3), (364, .iconst 0, 1)]
theorem dt_Ref_request_c8 (i : Nat) : decode (jm_cod M_Ref_request) (tab_Ref_request_c8.getD i (328, .iload_n 2, 1)).1 = .ok ((tab_Ref_request_c8.getD i (328, .iload_n 2, 1)).2.1, (tab_Ref_request_c8.getD i (328, .iload_n 2, 1)).2.2) := j_tab (by decide +kernel) i
theorem d_Ref_request_328 : decode (jm_cod M_Ref_request) 328 = .ok (.iload_n 2, 1) := dt_Ref_request_c8 0
theorem d_Ref_request_329 : decode (jm_cod M_Ref_request) 329 = .ok (.bipush 9, 2) := dt_Ref_request_c8 1
theorem d_Ref_request_331 : decode (jm_cod M_Ref_request) 331 = .ok (.ishr, 1) := dt_Ref_request_c8 2
theorem d_Ref_request_332 : decode (jm_cod M_Ref_request) 332 = .ok (.iconst 1, 1) := dt_Ref_request_c8 3
theorem d_Ref_request_333 : decode (jm_cod M_Ref_request) 333 = .ok (.iand, 1) := dt_Ref_request_c8 4
theorem d_Ref_request_334 : decode (jm_cod M_Ref_request) 334 = .ok (.iconst 1, 1) := dt_Ref_request_c8 5
theorem d_Ref_request_335 : decode (jm_cod M_Ref_request) 335 = .ok (.if_icmp .ne 7, 3) := dt_Ref_request_c8 6
theorem d_Ref_request_338 : decode (jm_cod M_Ref_request) 338 = .ok (.iconst 1, 1) := dt_Ref_request_c8 7
theorem d_Ref_request_339 : decode (jm_cod M_Ref_request) 339 = .ok (.goto 4, 3) := dt_Ref_request_c8 8
theorem d_Ref_request_342 : decode (jm_cod M_Ref_request) 342 = .ok (.iconst 0, 1) := dt_Ref_request_c8 9
theorem d_Ref_request_343 : decode (jm_cod M_Ref_request) 343 = .ok (.bastore, 1) := dt_Ref_request_c8 10
theorem d_Ref_request_344 : decode (jm_cod M_Ref_request) 344 = .ok (.aload_n 0, 1) := dt_Ref_request_c8 11
theorem d_Ref_request_345 : decode (jm_cod M_Ref_request) 345 = .ok (.getfield 54, 3) := dt_Ref_request_c8 12
theorem d_Ref_request_348 : decode (jm_cod M_Ref_request) 348 = .ok (.iload 7, 2) := dt_Ref_request_c8 13
theorem d_Ref_request_350 : decode (jm_cod M_Ref_request) 350 = .ok (.iload_n 2, 1) := dt_Ref_request_c8 14
theorem d_Ref_request_351 : decode (jm_cod M_Ref_request) 351 = .ok (.bipush 10, 2) := dt_Ref_request_c8 15
theorem d_Ref_request_353 : decode (jm_cod M_Ref_request) 353 = .ok (.ishr, 1) := dt_Ref_request_c8 16
theorem d_Ref_request_354 : decode (jm_cod M_Ref_request) 354 = .ok (.iconst 1, 1) := dt_Ref_request_c8 17
theorem d_Ref_request_355 : decode (jm_cod M_Ref_request) 355 = .ok (.iand, 1) := dt_Ref_request_c8 18
theorem d_Ref_request_356 : decode (jm_cod M_Ref_request) 356 = .ok (.iconst 1, 1) := dt_Ref_request_c8 19
theorem d_Ref_request_357 : decode (jm_cod M_Ref_request) 357 = .ok (.if_icmp .ne 7, 3) := dt_Ref_request_c8 20
theorem d_Ref_request_360 : decode (jm_cod M_Ref_request) 360 = .ok (.iconst 1, 1) := dt_Ref_request_c8 21
theorem d_Ref_request_361 : decode (jm_cod M_Ref_request) 361 = .ok (.goto 4, 3) := dt_Ref_request_c8 22
theorem d_Ref_request_364 : decode (jm_cod M_Ref_request) 364 = .ok (.iconst 0, 1) := dt_Ref_request_c8 23
def tab_Ref_request_c9 : List (Nat × Instr × Nat) := [(365, .bastore, 1), (366, .aload_n 0, 1), (367, .getfield 57, 3), (370, .iload 7, 2), (372, .iload_n 2, 1), (373, .bipush 11, 2), (375, .ishr, 1), (376, .iastore, 1), (377, .aload_n 0, 1), (378, .getfield 60, 3), (381, .iload 7, 2), (383, .iload_n 3, 1), (384, .iastore, 1), (385, .aload_n 0, 1), (386, .getfield 63, 3), (389, .iload 7, 2), (391, .iload 4, 2), (393, .iastore, 1), (394, .aload_n 0, 1), (395, .getfield 66, 3), (398, .iload 7, 2), (400, .lload 5, 2), (402, .lastore, 1), (403, .aload_n 0, 1)]
theorem dt_Ref_request_c9 (i : Nat) : decode (jm_cod M_Ref_request) (tab_Ref_request_c9.getD i (365, .bastore, 1)).1 = .ok ((tab_Ref_request_c9.getD i (365, .bastore, 1)).2.1, (tab_Ref_request_c9.getD i (365, .bastore, 1)).2.2) := j_tab (by decide +kernel) i
theorem d_Ref_request_365 : decode (jm_cod M_Ref_request) 365 = .ok (.bastore, 1) := dt_Ref_request_c9 0
theorem d_Ref_request_366 : decode (jm_cod M_Ref_request) 366 = .ok (.aload_n 0, 1) := dt_Ref_request_c9 1
theorem d_Ref_request_367 : decode (jm_cod M_Ref_request) 367 = .ok (.getfield 57, 3) := dt_Ref_request_c9 2
theorem d_Ref_request_370 : decode (jm_cod M_Ref_request) 370 = .ok (.iload 7, 2) := dt_Ref_request_c9 3
theorem d_Ref_request_372 : decode (jm_cod M_Ref_request) 372 = .ok (.iload_n 2, 1) := dt_Ref_request_c9 4
theorem d_Ref_request_373 : decode (jm_cod M_Ref_request) 373 = .ok (.bipush 11, 2) := dt_Ref_request_c9 5
theorem d_Ref_request_375 : decode (jm_cod M_Ref_request) 375 = .ok (.ishr, 1) := dt_Ref_request_c9 6
theorem d_Ref_request_376 : decode (jm_cod M_Ref_request) 376 = .ok (.iastore, 1) := dt_Ref_request_c9 7
theorem d_Ref_request_377 : decode (jm_cod M_Ref_request) 377 = .ok (.aload_n 0, 1) := dt_Ref_request_c9 8
theorem d_Ref_request_378 : decode (jm_cod M_Ref_request) 378 = .ok (.getfield 60, 3) := dt_Ref_request_c9 9
theorem d_Ref_request_381 : decode (jm_cod M_Ref_request) 381 = .ok (.iload 7, 2) := dt_Ref_request_c9 10
theorem d_Ref_request_383 : decode (jm_cod M_Ref_request) 383 = .ok (.iload_n 3, 1) := dt_Ref_request_c9 11
theorem d_Ref_request_384 : decode (jm_cod M_Ref_request) 384 = .ok (.iastore, 1) := dt_Ref_request_c9 12
theorem d_Ref_request_385 : decode (jm_cod M_Ref_request) 385 = .ok (.aload_n 0, 1) := dt_Ref_request_c9 13
theorem d_Ref_request_386 : decode (jm_cod M_Ref_request) 386 = .ok (.getfield 63, 3) := dt_Ref_request_c9 14
theorem d_Ref_request_389 : decode (jm_cod M_Ref_request) 389 = .ok (.iload 7, 2) := dt_Ref_request_c9 15
theorem d_Ref_request_391 : decode (jm_cod M_Ref_request) 391 = .ok (.iload 4, 2) := dt_Ref_request_c9 16
theorem d_Ref_request_393 : decode (jm_cod M_Ref_request) 393 = .ok (.iastore, 1) := dt_Ref_request_c9 17
theorem d_Ref_request_394 : decode (jm_cod M_Ref_request) 394 = .ok (.aload_n 0, 1) := dt_Ref_request_c9 18
theorem d_Ref_request_395 : decode (jm_cod M_Ref_request) 395 = .ok (.getfield 66, 3) := dt_Ref_request_c9 19
theorem d_Ref_request_398 : decode (jm_cod M_Ref_request) 398 = .ok (.iload 7, 2) := dt_Ref_request_c9 20
theorem d_Ref_request_400 : decode (jm_cod M_Ref_request) 400 = .ok (.lload 5, 2) := dt_Ref_request_c9 21
theorem d_Ref_request_402 : decode (jm_cod M_Ref_request) 402 = .ok (.lastore, 1) := dt_Ref_request_c9 22
theorem d_Ref_request_403 : decode (jm_cod M_Ref_request) 403 = .ok (.aload_n 0, 1) := dt_Ref_request_c9 23
