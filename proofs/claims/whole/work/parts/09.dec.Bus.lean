def tab_Bus_init_c0 : List (Nat × Instr × Nat) := [(0, .aload_n 0, 1), (1, .invokespecial 3, 3), (4, .iload_n 1, 1), (5, .iconst 4, 1), (6, .invokestatic 9, 3), (9, .istore 4, 2), (11, .iload_n 2, 1), (12, .iconst 4, 1), (13, .invokestatic 9, 3), (16, .istore 5, 2), (18, .new 13, 3), (21, .dup, 1), (22, .invokespecial 15, 3), (25, .astore 6, 2), (27, .aload_n 0, 1), (28, .aload 6, 2), (30, .putfield 16, 3), (33, .aload_n 0, 1), (34, .new 20, 3), (37, .dup, 1), (38, .iload 4, 2), (40, .iload 5, 2), (42, .iload_n 3, 1), (43, .bipush 8, 2)]
theorem dt_Bus_init_c0 (i : Nat) : decode (jm_cod M_Bus_init) (tab_Bus_init_c0.getD i (0, .aload_n 0, 1)).1 = .ok ((tab_Bus_init_c0.getD i (0, .aload_n 0, 1)).2.1, (tab_Bus_init_c0.getD i (0, .aload_n 0, 1)).2.2) := j_tab (by decide +kernel) i
theorem d_Bus_init_0 : decode (jm_cod M_Bus_init) 0 = .ok (.aload_n 0, 1) := dt_Bus_init_c0 0
theorem d_Bus_init_1 : decode (jm_cod M_Bus_init) 1 = .ok (.invokespecial 3, 3) := dt_Bus_init_c0 1
theorem d_Bus_init_4 : decode (jm_cod M_Bus_init) 4 = .ok (.iload_n 1, 1) := dt_Bus_init_c0 2
theorem d_Bus_init_5 : decode (jm_cod M_Bus_init) 5 = .ok (.iconst 4, 1) := dt_Bus_init_c0 3
theorem d_Bus_init_6 : decode (jm_cod M_Bus_init) 6 = .ok (.invokestatic 9, 3) := dt_Bus_init_c0 4
theorem d_Bus_init_9 : decode (jm_cod M_Bus_init) 9 = .ok (.istore 4, 2) := dt_Bus_init_c0 5
theorem d_Bus_init_11 : decode (jm_cod M_Bus_init) 11 = .ok (.iload_n 2, 1) := dt_Bus_init_c0 6
theorem d_Bus_init_12 : decode (jm_cod M_Bus_init) 12 = .ok (.iconst 4, 1) := dt_Bus_init_c0 7
theorem d_Bus_init_13 : decode (jm_cod M_Bus_init) 13 = .ok (.invokestatic 9, 3) := dt_Bus_init_c0 8
theorem d_Bus_init_16 : decode (jm_cod M_Bus_init) 16 = .ok (.istore 5, 2) := dt_Bus_init_c0 9
theorem d_Bus_init_18 : decode (jm_cod M_Bus_init) 18 = .ok (.new 13, 3) := dt_Bus_init_c0 10
theorem d_Bus_init_21 : decode (jm_cod M_Bus_init) 21 = .ok (.dup, 1) := dt_Bus_init_c0 11
theorem d_Bus_init_22 : decode (jm_cod M_Bus_init) 22 = .ok (.invokespecial 15, 3) := dt_Bus_init_c0 12
theorem d_Bus_init_25 : decode (jm_cod M_Bus_init) 25 = .ok (.astore 6, 2) := dt_Bus_init_c0 13
theorem d_Bus_init_27 : decode (jm_cod M_Bus_init) 27 = .ok (.aload_n 0, 1) := dt_Bus_init_c0 14
theorem d_Bus_init_28 : decode (jm_cod M_Bus_init) 28 = .ok (.aload 6, 2) := dt_Bus_init_c0 15
theorem d_Bus_init_30 : decode (jm_cod M_Bus_init) 30 = .ok (.putfield 16, 3) := dt_Bus_init_c0 16
theorem d_Bus_init_33 : decode (jm_cod M_Bus_init) 33 = .ok (.aload_n 0, 1) := dt_Bus_init_c0 17
theorem d_Bus_init_34 : decode (jm_cod M_Bus_init) 34 = .ok (.new 20, 3) := dt_Bus_init_c0 18
theorem d_Bus_init_37 : decode (jm_cod M_Bus_init) 37 = .ok (.dup, 1) := dt_Bus_init_c0 19
theorem d_Bus_init_38 : decode (jm_cod M_Bus_init) 38 = .ok (.iload 4, 2) := dt_Bus_init_c0 20
theorem d_Bus_init_40 : decode (jm_cod M_Bus_init) 40 = .ok (.iload 5, 2) := dt_Bus_init_c0 21
theorem d_Bus_init_42 : decode (jm_cod M_Bus_init) 42 = .ok (.iload_n 3, 1) := dt_Bus_init_c0 22
theorem d_Bus_init_43 : decode (jm_cod M_Bus_init) 43 = .ok (.bipush 8, 2) := dt_Bus_init_c0 23
def tab_Bus_init_c1 : List (Nat × Instr × Nat) := [(45, .invokestatic 9, 3), (48, .invokespecial 22, 3), (51, .putfield 25, 3), (54, .aload_n 0, 1), (55, .iload 4, 2), (57, .anewarray 29, 3), (60, .putfield 31, 3), (63, .aload_n 0, 1), (64, .iload 4, 2), (66, .anewarray 35, 3), (69, .putfield 37, 3), (72, .iconst 0, 1), (73, .istore 7, 2), (75, .iload 7, 2), (77, .iload 4, 2), (79, .if_icmp .ge 37, 3), (82, .aload_n 0, 1), (83, .getfield 31, 3), (86, .iload 7, 2), (88, .new 29, 3), (91, .dup, 1), (92, .invokespecial 41, 3), (95, .aastore, 1), (96, .aload_n 0, 1)]
theorem dt_Bus_init_c1 (i : Nat) : decode (jm_cod M_Bus_init) (tab_Bus_init_c1.getD i (45, .invokestatic 9, 3)).1 = .ok ((tab_Bus_init_c1.getD i (45, .invokestatic 9, 3)).2.1, (tab_Bus_init_c1.getD i (45, .invokestatic 9, 3)).2.2) := j_tab (by decide +kernel) i
theorem d_Bus_init_45 : decode (jm_cod M_Bus_init) 45 = .ok (.invokestatic 9, 3) := dt_Bus_init_c1 0
theorem d_Bus_init_48 : decode (jm_cod M_Bus_init) 48 = .ok (.invokespecial 22, 3) := dt_Bus_init_c1 1
theorem d_Bus_init_51 : decode (jm_cod M_Bus_init) 51 = .ok (.putfield 25, 3) := dt_Bus_init_c1 2
theorem d_Bus_init_54 : decode (jm_cod M_Bus_init) 54 = .ok (.aload_n 0, 1) := dt_Bus_init_c1 3
theorem d_Bus_init_55 : decode (jm_cod M_Bus_init) 55 = .ok (.iload 4, 2) := dt_Bus_init_c1 4
theorem d_Bus_init_57 : decode (jm_cod M_Bus_init) 57 = .ok (.anewarray 29, 3) := dt_Bus_init_c1 5
theorem d_Bus_init_60 : decode (jm_cod M_Bus_init) 60 = .ok (.putfield 31, 3) := dt_Bus_init_c1 6
theorem d_Bus_init_63 : decode (jm_cod M_Bus_init) 63 = .ok (.aload_n 0, 1) := dt_Bus_init_c1 7
theorem d_Bus_init_64 : decode (jm_cod M_Bus_init) 64 = .ok (.iload 4, 2) := dt_Bus_init_c1 8
theorem d_Bus_init_66 : decode (jm_cod M_Bus_init) 66 = .ok (.anewarray 35, 3) := dt_Bus_init_c1 9
theorem d_Bus_init_69 : decode (jm_cod M_Bus_init) 69 = .ok (.putfield 37, 3) := dt_Bus_init_c1 10
theorem d_Bus_init_72 : decode (jm_cod M_Bus_init) 72 = .ok (.iconst 0, 1) := dt_Bus_init_c1 11
theorem d_Bus_init_73 : decode (jm_cod M_Bus_init) 73 = .ok (.istore 7, 2) := dt_Bus_init_c1 12
theorem d_Bus_init_75 : decode (jm_cod M_Bus_init) 75 = .ok (.iload 7, 2) := dt_Bus_init_c1 13
theorem d_Bus_init_77 : decode (jm_cod M_Bus_init) 77 = .ok (.iload 4, 2) := dt_Bus_init_c1 14
theorem d_Bus_init_79 : decode (jm_cod M_Bus_init) 79 = .ok (.if_icmp .ge 37, 3) := dt_Bus_init_c1 15
theorem d_Bus_init_82 : decode (jm_cod M_Bus_init) 82 = .ok (.aload_n 0, 1) := dt_Bus_init_c1 16
theorem d_Bus_init_83 : decode (jm_cod M_Bus_init) 83 = .ok (.getfield 31, 3) := dt_Bus_init_c1 17
theorem d_Bus_init_86 : decode (jm_cod M_Bus_init) 86 = .ok (.iload 7, 2) := dt_Bus_init_c1 18
theorem d_Bus_init_88 : decode (jm_cod M_Bus_init) 88 = .ok (.new 29, 3) := dt_Bus_init_c1 19
theorem d_Bus_init_91 : decode (jm_cod M_Bus_init) 91 = .ok (.dup, 1) := dt_Bus_init_c1 20
theorem d_Bus_init_92 : decode (jm_cod M_Bus_init) 92 = .ok (.invokespecial 41, 3) := dt_Bus_init_c1 21
theorem d_Bus_init_95 : decode (jm_cod M_Bus_init) 95 = .ok (.aastore, 1) := dt_Bus_init_c1 22
theorem d_Bus_init_96 : decode (jm_cod M_Bus_init) 96 = .ok (.aload_n 0, 1) := dt_Bus_init_c1 23
def tab_Bus_init_c2 : List (Nat × Instr × Nat) := [(97, .getfield 37, 3), (100, .iload 7, 2), (102, .new 35, 3), (105, .dup, 1), (106, .invokespecial 42, 3), (109, .aastore, 1), (110, .iinc 7 1, 3), (113, .goto (-38), 3), (116, .aload_n 0, 1), (117, .iload 5, 2), (119, .anewarray 43, 3), (122, .putfield 45, 3), (125, .aload_n 0, 1), (126, .iload 5, 2), (128, .anewarray 35, 3), (131, .putfield 49, 3), (134, .iconst 0, 1), (135, .istore 7, 2), (137, .iload 7, 2), (139, .iload 5, 2), (141, .if_icmp .ge 39, 3), (144, .aload_n 0, 1), (145, .getfield 45, 3), (148, .iload 7, 2)]
theorem dt_Bus_init_c2 (i : Nat) : decode (jm_cod M_Bus_init) (tab_Bus_init_c2.getD i (97, .getfield 37, 3)).1 = .ok ((tab_Bus_init_c2.getD i (97, .getfield 37, 3)).2.1, (tab_Bus_init_c2.getD i (97, .getfield 37, 3)).2.2) := j_tab (by decide +kernel) i
theorem d_Bus_init_97 : decode (jm_cod M_Bus_init) 97 = .ok (.getfield 37, 3) := dt_Bus_init_c2 0
theorem d_Bus_init_100 : decode (jm_cod M_Bus_init) 100 = .ok (.iload 7, 2) := dt_Bus_init_c2 1
theorem d_Bus_init_102 : decode (jm_cod M_Bus_init) 102 = .ok (.new 35, 3) := dt_Bus_init_c2 2
theorem d_Bus_init_105 : decode (jm_cod M_Bus_init) 105 = .ok (.dup, 1) := dt_Bus_init_c2 3
theorem d_Bus_init_106 : decode (jm_cod M_Bus_init) 106 = .ok (.invokespecial 42, 3) := dt_Bus_init_c2 4
theorem d_Bus_init_109 : decode (jm_cod M_Bus_init) 109 = .ok (.aastore, 1) := dt_Bus_init_c2 5
theorem d_Bus_init_110 : decode (jm_cod M_Bus_init) 110 = .ok (.iinc 7 1, 3) := dt_Bus_init_c2 6
theorem d_Bus_init_113 : decode (jm_cod M_Bus_init) 113 = .ok (.goto (-38), 3) := dt_Bus_init_c2 7
theorem d_Bus_init_116 : decode (jm_cod M_Bus_init) 116 = .ok (.aload_n 0, 1) := dt_Bus_init_c2 8
theorem d_Bus_init_117 : decode (jm_cod M_Bus_init) 117 = .ok (.iload 5, 2) := dt_Bus_init_c2 9
theorem d_Bus_init_119 : decode (jm_cod M_Bus_init) 119 = .ok (.anewarray 43, 3) := dt_Bus_init_c2 10
theorem d_Bus_init_122 : decode (jm_cod M_Bus_init) 122 = .ok (.putfield 45, 3) := dt_Bus_init_c2 11
theorem d_Bus_init_125 : decode (jm_cod M_Bus_init) 125 = .ok (.aload_n 0, 1) := dt_Bus_init_c2 12
theorem d_Bus_init_126 : decode (jm_cod M_Bus_init) 126 = .ok (.iload 5, 2) := dt_Bus_init_c2 13
theorem d_Bus_init_128 : decode (jm_cod M_Bus_init) 128 = .ok (.anewarray 35, 3) := dt_Bus_init_c2 14
theorem d_Bus_init_131 : decode (jm_cod M_Bus_init) 131 = .ok (.putfield 49, 3) := dt_Bus_init_c2 15
theorem d_Bus_init_134 : decode (jm_cod M_Bus_init) 134 = .ok (.iconst 0, 1) := dt_Bus_init_c2 16
theorem d_Bus_init_135 : decode (jm_cod M_Bus_init) 135 = .ok (.istore 7, 2) := dt_Bus_init_c2 17
theorem d_Bus_init_137 : decode (jm_cod M_Bus_init) 137 = .ok (.iload 7, 2) := dt_Bus_init_c2 18
theorem d_Bus_init_139 : decode (jm_cod M_Bus_init) 139 = .ok (.iload 5, 2) := dt_Bus_init_c2 19
theorem d_Bus_init_141 : decode (jm_cod M_Bus_init) 141 = .ok (.if_icmp .ge 39, 3) := dt_Bus_init_c2 20
theorem d_Bus_init_144 : decode (jm_cod M_Bus_init) 144 = .ok (.aload_n 0, 1) := dt_Bus_init_c2 21
theorem d_Bus_init_145 : decode (jm_cod M_Bus_init) 145 = .ok (.getfield 45, 3) := dt_Bus_init_c2 22
theorem d_Bus_init_148 : decode (jm_cod M_Bus_init) 148 = .ok (.iload 7, 2) := dt_Bus_init_c2 23
def tab_Bus_init_c3 : List (Nat × Instr × Nat) := [(150, .new 43, 3), (153, .dup, 1), (154, .aload 6, 2), (156, .invokespecial 52, 3), (159, .aastore, 1), (160, .aload_n 0, 1), (161, .getfield 49, 3), (164, .iload 7, 2), (166, .new 35, 3), (169, .dup, 1), (170, .invokespecial 42, 3), (173, .aastore, 1), (174, .iinc 7 1, 3), (177, .goto (-40), 3), (180, .aload_n 0, 1), (181, .iconst 2, 1), (182, .anewarray 35, 3), (185, .putfield 55, 3), (188, .iconst 0, 1), (189, .istore 7, 2), (191, .iload 7, 2), (193, .iconst 2, 1), (194, .if_icmp .ge 23, 3), (197, .aload_n 0, 1)]
theorem dt_Bus_init_c3 (i : Nat) : decode (jm_cod M_Bus_init) (tab_Bus_init_c3.getD i (150, .new 43, 3)).1 = .ok ((tab_Bus_init_c3.getD i (150, .new 43, 3)).2.1, (tab_Bus_init_c3.getD i (150, .new 43, 3)).2.2) := j_tab (by decide +kernel) i
theorem d_Bus_init_150 : decode (jm_cod M_Bus_init) 150 = .ok (.new 43, 3) := dt_Bus_init_c3 0
theorem d_Bus_init_153 : decode (jm_cod M_Bus_init) 153 = .ok (.dup, 1) := dt_Bus_init_c3 1
theorem d_Bus_init_154 : decode (jm_cod M_Bus_init) 154 = .ok (.aload 6, 2) := dt_Bus_init_c3 2
theorem d_Bus_init_156 : decode (jm_cod M_Bus_init) 156 = .ok (.invokespecial 52, 3) := dt_Bus_init_c3 3
theorem d_Bus_init_159 : decode (jm_cod M_Bus_init) 159 = .ok (.aastore, 1) := dt_Bus_init_c3 4
theorem d_Bus_init_160 : decode (jm_cod M_Bus_init) 160 = .ok (.aload_n 0, 1) := dt_Bus_init_c3 5
theorem d_Bus_init_161 : decode (jm_cod M_Bus_init) 161 = .ok (.getfield 49, 3) := dt_Bus_init_c3 6
theorem d_Bus_init_164 : decode (jm_cod M_Bus_init) 164 = .ok (.iload 7, 2) := dt_Bus_init_c3 7
theorem d_Bus_init_166 : decode (jm_cod M_Bus_init) 166 = .ok (.new 35, 3) := dt_Bus_init_c3 8
theorem d_Bus_init_169 : decode (jm_cod M_Bus_init) 169 = .ok (.dup, 1) := dt_Bus_init_c3 9
theorem d_Bus_init_170 : decode (jm_cod M_Bus_init) 170 = .ok (.invokespecial 42, 3) := dt_Bus_init_c3 10
theorem d_Bus_init_173 : decode (jm_cod M_Bus_init) 173 = .ok (.aastore, 1) := dt_Bus_init_c3 11
theorem d_Bus_init_174 : decode (jm_cod M_Bus_init) 174 = .ok (.iinc 7 1, 3) := dt_Bus_init_c3 12
theorem d_Bus_init_177 : decode (jm_cod M_Bus_init) 177 = .ok (.goto (-40), 3) := dt_Bus_init_c3 13
theorem d_Bus_init_180 : decode (jm_cod M_Bus_init) 180 = .ok (.aload_n 0, 1) := dt_Bus_init_c3 14
theorem d_Bus_init_181 : decode (jm_cod M_Bus_init) 181 = .ok (.iconst 2, 1) := dt_Bus_init_c3 15
theorem d_Bus_init_182 : decode (jm_cod M_Bus_init) 182 = .ok (.anewarray 35, 3) := dt_Bus_init_c3 16
theorem d_Bus_init_185 : decode (jm_cod M_Bus_init) 185 = .ok (.putfield 55, 3) := dt_Bus_init_c3 17
theorem d_Bus_init_188 : decode (jm_cod M_Bus_init) 188 = .ok (.iconst 0, 1) := dt_Bus_init_c3 18
theorem d_Bus_init_189 : decode (jm_cod M_Bus_init) 189 = .ok (.istore 7, 2) := dt_Bus_init_c3 19
theorem d_Bus_init_191 : decode (jm_cod M_Bus_init) 191 = .ok (.iload 7, 2) := dt_Bus_init_c3 20
theorem d_Bus_init_193 : decode (jm_cod M_Bus_init) 193 = .ok (.iconst 2, 1) := dt_Bus_init_c3 21
theorem d_Bus_init_194 : decode (jm_cod M_Bus_init) 194 = .ok (.if_icmp .ge 23, 3) := dt_Bus_init_c3 22
theorem d_Bus_init_197 : decode (jm_cod M_Bus_init) 197 = .ok (.aload_n 0, 1) := dt_Bus_init_c3 23
def tab_Bus_init_c4 : List (Nat × Instr × Nat) := [(198, .getfield 55, 3), (201, .iload 7, 2), (203, .new 35, 3), (206, .dup, 1), (207, .invokespecial 42, 3), (210, .aastore, 1), (211, .iinc 7 1, 3), (214, .goto (-23), 3), (217, .aload_n 0, 1), (218, .bipush 64, 2), (220, .anewarray 58, 3), (223, .putfield 60, 3), (226, .iconst 0, 1), (227, .istore 7, 2), (229, .iload 7, 2), (231, .bipush 64, 2), (233, .if_icmp .ge 23, 3), (236, .aload_n 0, 1), (237, .getfield 60, 3), (240, .iload 7, 2), (242, .new 58, 3), (245, .dup, 1), (246, .invokespecial 64, 3), (249, .aastore, 1)]
theorem dt_Bus_init_c4 (i : Nat) : decode (jm_cod M_Bus_init) (tab_Bus_init_c4.getD i (198, .getfield 55, 3)).1 = .ok ((tab_Bus_init_c4.getD i (198, .getfield 55, 3)).2.1, (tab_Bus_init_c4.getD i (198, .getfield 55, 3)).2.2) := j_tab (by decide +kernel) i
theorem d_Bus_init_198 : decode (jm_cod M_Bus_init) 198 = .ok (.getfield 55, 3) := dt_Bus_init_c4 0
theorem d_Bus_init_201 : decode (jm_cod M_Bus_init) 201 = .ok (.iload 7, 2) := dt_Bus_init_c4 1
theorem d_Bus_init_203 : decode (jm_cod M_Bus_init) 203 = .ok (.new 35, 3) := dt_Bus_init_c4 2
theorem d_Bus_init_206 : decode (jm_cod M_Bus_init) 206 = .ok (.dup, 1) := dt_Bus_init_c4 3
theorem d_Bus_init_207 : decode (jm_cod M_Bus_init) 207 = .ok (.invokespecial 42, 3) := dt_Bus_init_c4 4
theorem d_Bus_init_210 : decode (jm_cod M_Bus_init) 210 = .ok (.aastore, 1) := dt_Bus_init_c4 5
theorem d_Bus_init_211 : decode (jm_cod M_Bus_init) 211 = .ok (.iinc 7 1, 3) := dt_Bus_init_c4 6
theorem d_Bus_init_214 : decode (jm_cod M_Bus_init) 214 = .ok (.goto (-23), 3) := dt_Bus_init_c4 7
theorem d_Bus_init_217 : decode (jm_cod M_Bus_init) 217 = .ok (.aload_n 0, 1) := dt_Bus_init_c4 8
theorem d_Bus_init_218 : decode (jm_cod M_Bus_init) 218 = .ok (.bipush 64, 2) := dt_Bus_init_c4 9
theorem d_Bus_init_220 : decode (jm_cod M_Bus_init) 220 = .ok (.anewarray 58, 3) := dt_Bus_init_c4 10
theorem d_Bus_init_223 : decode (jm_cod M_Bus_init) 223 = .ok (.putfield 60, 3) := dt_Bus_init_c4 11
theorem d_Bus_init_226 : decode (jm_cod M_Bus_init) 226 = .ok (.iconst 0, 1) := dt_Bus_init_c4 12
theorem d_Bus_init_227 : decode (jm_cod M_Bus_init) 227 = .ok (.istore 7, 2) := dt_Bus_init_c4 13
theorem d_Bus_init_229 : decode (jm_cod M_Bus_init) 229 = .ok (.iload 7, 2) := dt_Bus_init_c4 14
theorem d_Bus_init_231 : decode (jm_cod M_Bus_init) 231 = .ok (.bipush 64, 2) := dt_Bus_init_c4 15
theorem d_Bus_init_233 : decode (jm_cod M_Bus_init) 233 = .ok (.if_icmp .ge 23, 3) := dt_Bus_init_c4 16
theorem d_Bus_init_236 : decode (jm_cod M_Bus_init) 236 = .ok (.aload_n 0, 1) := dt_Bus_init_c4 17
theorem d_Bus_init_237 : decode (jm_cod M_Bus_init) 237 = .ok (.getfield 60, 3) := dt_Bus_init_c4 18
theorem d_Bus_init_240 : decode (jm_cod M_Bus_init) 240 = .ok (.iload 7, 2) := dt_Bus_init_c4 19
theorem d_Bus_init_242 : decode (jm_cod M_Bus_init) 242 = .ok (.new 58, 3) := dt_Bus_init_c4 20
theorem d_Bus_init_245 : decode (jm_cod M_Bus_init) 245 = .ok (.dup, 1) := dt_Bus_init_c4 21
theorem d_Bus_init_246 : decode (jm_cod M_Bus_init) 246 = .ok (.invokespecial 64, 3) := dt_Bus_init_c4 22
theorem d_Bus_init_249 : decode (jm_cod M_Bus_init) 249 = .ok (.aastore, 1) := dt_Bus_init_c4 23
def tab_Bus_init_c5 : List (Nat × Instr × Nat) := [(250, .iinc 7 1, 3), (253, .goto (-24), 3), (256, .return_, 1)]
theorem dt_Bus_init_c5 (i : Nat) : decode (jm_cod M_Bus_init) (tab_Bus_init_c5.getD i (250, .iinc 7 1, 3)).1 = .ok ((tab_Bus_init_c5.getD i (250, .iinc 7 1, 3)).2.1, (tab_Bus_init_c5.getD i (250, .iinc 7 1, 3)).2.2) := j_tab (by decide +kernel) i
theorem d_Bus_init_250 : decode (jm_cod M_Bus_init) 250 = .ok (.iinc 7 1, 3) := dt_Bus_init_c5 0
theorem d_Bus_init_253 : decode (jm_cod M_Bus_init) 253 = .ok (.goto (-24), 3) := dt_Bus_init_c5 1
theorem d_Bus_init_256 : decode (jm_cod M_Bus_init) 256 = .ok (.return_, 1) := dt_Bus_init_c5 2
def tab_Bus_nearest_c0 : List (Nat × Instr × Nat) := [(0, .iconst 1, 1), (1, .iload_n 0, 1), (2, .iload_n 1, 1), (3, .invokestatic 118, 3), (6, .invokestatic 340, 3), (9, .ireturn, 1)]
theorem dt_Bus_nearest_c0 (i : Nat) : decode (jm_cod M_Bus_nearest) (tab_Bus_nearest_c0.getD i (0, .iconst 1, 1)).1 = .ok ((tab_Bus_nearest_c0.getD i (0, .iconst 1, 1)).2.1, (tab_Bus_nearest_c0.getD i (0, .iconst 1, 1)).2.2) := j_tab (by decide +kernel) i
theorem d_Bus_nearest_0 : decode (jm_cod M_Bus_nearest) 0 = .ok (.iconst 1, 1) := dt_Bus_nearest_c0 0
theorem d_Bus_nearest_1 : decode (jm_cod M_Bus_nearest) 1 = .ok (.iload_n 0, 1) := dt_Bus_nearest_c0 1
theorem d_Bus_nearest_2 : decode (jm_cod M_Bus_nearest) 2 = .ok (.iload_n 1, 1) := dt_Bus_nearest_c0 2
theorem d_Bus_nearest_3 : decode (jm_cod M_Bus_nearest) 3 = .ok (.invokestatic 118, 3) := dt_Bus_nearest_c0 3
theorem d_Bus_nearest_6 : decode (jm_cod M_Bus_nearest) 6 = .ok (.invokestatic 340, 3) := dt_Bus_nearest_c0 4
theorem d_Bus_nearest_9 : decode (jm_cod M_Bus_nearest) 9 = .ok (.ireturn, 1) := dt_Bus_nearest_c0 5
def tab_Bus_told_c0 : List (Nat × Instr × Nat) := [(0, .iload_n 1, 1), (1, .tableswitch 86 0 6 #[43, 48, 53, 58, 64, 70, 78], 43), (44, .aload_n 0, 1), (45, .getfield 159, 3), (48, .ireturn, 1), (49, .aload_n 0, 1), (50, .getfield 147, 3), (53, .ireturn, 1), (54, .aload_n 0, 1), (55, .invokevirtual 69, 3), (58, .ireturn, 1), (59, .aload_n 0, 1), (60, .getfield 31, 3), (63, .arraylength, 1), (64, .ireturn, 1), (65, .aload_n 0, 1), (66, .getfield 45, 3), (69, .arraylength, 1), (70, .ireturn, 1), (71, .aload_n 0, 1), (72, .getfield 25, 3), (75, .getfield 261, 3), (78, .ireturn, 1), (79, .aload_n 0, 1)]
theorem dt_Bus_told_c0 (i : Nat) : decode (jm_cod M_Bus_told) (tab_Bus_told_c0.getD i (0, .iload_n 1, 1)).1 = .ok ((tab_Bus_told_c0.getD i (0, .iload_n 1, 1)).2.1, (tab_Bus_told_c0.getD i (0, .iload_n 1, 1)).2.2) := j_tab (by decide +kernel) i
theorem d_Bus_told_0 : decode (jm_cod M_Bus_told) 0 = .ok (.iload_n 1, 1) := dt_Bus_told_c0 0
theorem d_Bus_told_1 : decode (jm_cod M_Bus_told) 1 = .ok (.tableswitch 86 0 6 #[43, 48, 53, 58, 64, 70, 78], 43) := dt_Bus_told_c0 1
theorem d_Bus_told_44 : decode (jm_cod M_Bus_told) 44 = .ok (.aload_n 0, 1) := dt_Bus_told_c0 2
theorem d_Bus_told_45 : decode (jm_cod M_Bus_told) 45 = .ok (.getfield 159, 3) := dt_Bus_told_c0 3
theorem d_Bus_told_48 : decode (jm_cod M_Bus_told) 48 = .ok (.ireturn, 1) := dt_Bus_told_c0 4
theorem d_Bus_told_49 : decode (jm_cod M_Bus_told) 49 = .ok (.aload_n 0, 1) := dt_Bus_told_c0 5
theorem d_Bus_told_50 : decode (jm_cod M_Bus_told) 50 = .ok (.getfield 147, 3) := dt_Bus_told_c0 6
theorem d_Bus_told_53 : decode (jm_cod M_Bus_told) 53 = .ok (.ireturn, 1) := dt_Bus_told_c0 7
theorem d_Bus_told_54 : decode (jm_cod M_Bus_told) 54 = .ok (.aload_n 0, 1) := dt_Bus_told_c0 8
theorem d_Bus_told_55 : decode (jm_cod M_Bus_told) 55 = .ok (.invokevirtual 69, 3) := dt_Bus_told_c0 9
theorem d_Bus_told_58 : decode (jm_cod M_Bus_told) 58 = .ok (.ireturn, 1) := dt_Bus_told_c0 10
theorem d_Bus_told_59 : decode (jm_cod M_Bus_told) 59 = .ok (.aload_n 0, 1) := dt_Bus_told_c0 11
theorem d_Bus_told_60 : decode (jm_cod M_Bus_told) 60 = .ok (.getfield 31, 3) := dt_Bus_told_c0 12
theorem d_Bus_told_63 : decode (jm_cod M_Bus_told) 63 = .ok (.arraylength, 1) := dt_Bus_told_c0 13
theorem d_Bus_told_64 : decode (jm_cod M_Bus_told) 64 = .ok (.ireturn, 1) := dt_Bus_told_c0 14
theorem d_Bus_told_65 : decode (jm_cod M_Bus_told) 65 = .ok (.aload_n 0, 1) := dt_Bus_told_c0 15
theorem d_Bus_told_66 : decode (jm_cod M_Bus_told) 66 = .ok (.getfield 45, 3) := dt_Bus_told_c0 16
theorem d_Bus_told_69 : decode (jm_cod M_Bus_told) 69 = .ok (.arraylength, 1) := dt_Bus_told_c0 17
theorem d_Bus_told_70 : decode (jm_cod M_Bus_told) 70 = .ok (.ireturn, 1) := dt_Bus_told_c0 18
theorem d_Bus_told_71 : decode (jm_cod M_Bus_told) 71 = .ok (.aload_n 0, 1) := dt_Bus_told_c0 19
theorem d_Bus_told_72 : decode (jm_cod M_Bus_told) 72 = .ok (.getfield 25, 3) := dt_Bus_told_c0 20
theorem d_Bus_told_75 : decode (jm_cod M_Bus_told) 75 = .ok (.getfield 261, 3) := dt_Bus_told_c0 21
theorem d_Bus_told_78 : decode (jm_cod M_Bus_told) 78 = .ok (.ireturn, 1) := dt_Bus_told_c0 22
theorem d_Bus_told_79 : decode (jm_cod M_Bus_told) 79 = .ok (.aload_n 0, 1) := dt_Bus_told_c0 23
def tab_Bus_told_c1 : List (Nat × Instr × Nat) := [(80, .getfield 25, 3), (83, .getfield 87, 3), (86, .ireturn, 1), (87, .iconst (-1), 1), (88, .ireturn, 1)]
theorem dt_Bus_told_c1 (i : Nat) : decode (jm_cod M_Bus_told) (tab_Bus_told_c1.getD i (80, .getfield 25, 3)).1 = .ok ((tab_Bus_told_c1.getD i (80, .getfield 25, 3)).2.1, (tab_Bus_told_c1.getD i (80, .getfield 25, 3)).2.2) := j_tab (by decide +kernel) i
theorem d_Bus_told_80 : decode (jm_cod M_Bus_told) 80 = .ok (.getfield 25, 3) := dt_Bus_told_c1 0
theorem d_Bus_told_83 : decode (jm_cod M_Bus_told) 83 = .ok (.getfield 87, 3) := dt_Bus_told_c1 1
theorem d_Bus_told_86 : decode (jm_cod M_Bus_told) 86 = .ok (.ireturn, 1) := dt_Bus_told_c1 2
theorem d_Bus_told_87 : decode (jm_cod M_Bus_told) 87 = .ok (.iconst (-1), 1) := dt_Bus_told_c1 3
theorem d_Bus_told_88 : decode (jm_cod M_Bus_told) 88 = .ok (.ireturn, 1) := dt_Bus_told_c1 4
def tab_Bus_openRequests_c0 : List (Nat × Instr × Nat) := [(0, .iconst 0, 1), (1, .istore_n 1, 1), (2, .iconst 0, 1), (3, .istore_n 2, 1), (4, .iload_n 2, 1), (5, .aload_n 0, 1), (6, .getfield 31, 3), (9, .arraylength, 1), (10, .if_icmp .ge 21, 3), (13, .iload_n 1, 1), (14, .aload_n 0, 1), (15, .getfield 31, 3), (18, .iload_n 2, 1), (19, .aaload, 1), (20, .getfield 334, 3), (23, .iadd, 1), (24, .istore_n 1, 1), (25, .iinc 2 1, 3), (28, .goto (-24), 3), (31, .iload_n 1, 1), (32, .ireturn, 1)]
theorem dt_Bus_openRequests_c0 (i : Nat) : decode (jm_cod M_Bus_openRequests) (tab_Bus_openRequests_c0.getD i (0, .iconst 0, 1)).1 = .ok ((tab_Bus_openRequests_c0.getD i (0, .iconst 0, 1)).2.1, (tab_Bus_openRequests_c0.getD i (0, .iconst 0, 1)).2.2) := j_tab (by decide +kernel) i
theorem d_Bus_openRequests_0 : decode (jm_cod M_Bus_openRequests) 0 = .ok (.iconst 0, 1) := dt_Bus_openRequests_c0 0
theorem d_Bus_openRequests_1 : decode (jm_cod M_Bus_openRequests) 1 = .ok (.istore_n 1, 1) := dt_Bus_openRequests_c0 1
theorem d_Bus_openRequests_2 : decode (jm_cod M_Bus_openRequests) 2 = .ok (.iconst 0, 1) := dt_Bus_openRequests_c0 2
theorem d_Bus_openRequests_3 : decode (jm_cod M_Bus_openRequests) 3 = .ok (.istore_n 2, 1) := dt_Bus_openRequests_c0 3
theorem d_Bus_openRequests_4 : decode (jm_cod M_Bus_openRequests) 4 = .ok (.iload_n 2, 1) := dt_Bus_openRequests_c0 4
theorem d_Bus_openRequests_5 : decode (jm_cod M_Bus_openRequests) 5 = .ok (.aload_n 0, 1) := dt_Bus_openRequests_c0 5
theorem d_Bus_openRequests_6 : decode (jm_cod M_Bus_openRequests) 6 = .ok (.getfield 31, 3) := dt_Bus_openRequests_c0 6
theorem d_Bus_openRequests_9 : decode (jm_cod M_Bus_openRequests) 9 = .ok (.arraylength, 1) := dt_Bus_openRequests_c0 7
theorem d_Bus_openRequests_10 : decode (jm_cod M_Bus_openRequests) 10 = .ok (.if_icmp .ge 21, 3) := dt_Bus_openRequests_c0 8
theorem d_Bus_openRequests_13 : decode (jm_cod M_Bus_openRequests) 13 = .ok (.iload_n 1, 1) := dt_Bus_openRequests_c0 9
theorem d_Bus_openRequests_14 : decode (jm_cod M_Bus_openRequests) 14 = .ok (.aload_n 0, 1) := dt_Bus_openRequests_c0 10
theorem d_Bus_openRequests_15 : decode (jm_cod M_Bus_openRequests) 15 = .ok (.getfield 31, 3) := dt_Bus_openRequests_c0 11
theorem d_Bus_openRequests_18 : decode (jm_cod M_Bus_openRequests) 18 = .ok (.iload_n 2, 1) := dt_Bus_openRequests_c0 12
theorem d_Bus_openRequests_19 : decode (jm_cod M_Bus_openRequests) 19 = .ok (.aaload, 1) := dt_Bus_openRequests_c0 13
theorem d_Bus_openRequests_20 : decode (jm_cod M_Bus_openRequests) 20 = .ok (.getfield 334, 3) := dt_Bus_openRequests_c0 14
theorem d_Bus_openRequests_23 : decode (jm_cod M_Bus_openRequests) 23 = .ok (.iadd, 1) := dt_Bus_openRequests_c0 15
theorem d_Bus_openRequests_24 : decode (jm_cod M_Bus_openRequests) 24 = .ok (.istore_n 1, 1) := dt_Bus_openRequests_c0 16
theorem d_Bus_openRequests_25 : decode (jm_cod M_Bus_openRequests) 25 = .ok (.iinc 2 1, 3) := dt_Bus_openRequests_c0 17
theorem d_Bus_openRequests_28 : decode (jm_cod M_Bus_openRequests) 28 = .ok (.goto (-24), 3) := dt_Bus_openRequests_c0 18
theorem d_Bus_openRequests_31 : decode (jm_cod M_Bus_openRequests) 31 = .ok (.iload_n 1, 1) := dt_Bus_openRequests_c0 19
theorem d_Bus_openRequests_32 : decode (jm_cod M_Bus_openRequests) 32 = .ok (.ireturn, 1) := dt_Bus_openRequests_c0 20
def tab_Bus_clear_c0 : List (Nat × Instr × Nat) := [(0, .aload_n 0, 1), (1, .getfield 16, 3), (4, .invokevirtual 289, 3), (7, .aload_n 0, 1), (8, .getfield 25, 3), (11, .invokevirtual 290, 3), (14, .iconst 0, 1), (15, .istore_n 1, 1), (16, .iload_n 1, 1), (17, .aload_n 0, 1), (18, .getfield 31, 3), (21, .arraylength, 1), (22, .if_icmp .ge 27, 3), (25, .aload_n 0, 1), (26, .getfield 31, 3), (29, .iload_n 1, 1), (30, .aaload, 1), (31, .invokevirtual 291, 3), (34, .aload_n 0, 1), (35, .getfield 37, 3), (38, .iload_n 1, 1), (39, .aaload, 1), (40, .invokevirtual 286, 3), (43, .iinc 1 1, 3)]
theorem dt_Bus_clear_c0 (i : Nat) : decode (jm_cod M_Bus_clear) (tab_Bus_clear_c0.getD i (0, .aload_n 0, 1)).1 = .ok ((tab_Bus_clear_c0.getD i (0, .aload_n 0, 1)).2.1, (tab_Bus_clear_c0.getD i (0, .aload_n 0, 1)).2.2) := j_tab (by decide +kernel) i
theorem d_Bus_clear_0 : decode (jm_cod M_Bus_clear) 0 = .ok (.aload_n 0, 1) := dt_Bus_clear_c0 0
theorem d_Bus_clear_1 : decode (jm_cod M_Bus_clear) 1 = .ok (.getfield 16, 3) := dt_Bus_clear_c0 1
theorem d_Bus_clear_4 : decode (jm_cod M_Bus_clear) 4 = .ok (.invokevirtual 289, 3) := dt_Bus_clear_c0 2
theorem d_Bus_clear_7 : decode (jm_cod M_Bus_clear) 7 = .ok (.aload_n 0, 1) := dt_Bus_clear_c0 3
theorem d_Bus_clear_8 : decode (jm_cod M_Bus_clear) 8 = .ok (.getfield 25, 3) := dt_Bus_clear_c0 4
theorem d_Bus_clear_11 : decode (jm_cod M_Bus_clear) 11 = .ok (.invokevirtual 290, 3) := dt_Bus_clear_c0 5
theorem d_Bus_clear_14 : decode (jm_cod M_Bus_clear) 14 = .ok (.iconst 0, 1) := dt_Bus_clear_c0 6
theorem d_Bus_clear_15 : decode (jm_cod M_Bus_clear) 15 = .ok (.istore_n 1, 1) := dt_Bus_clear_c0 7
theorem d_Bus_clear_16 : decode (jm_cod M_Bus_clear) 16 = .ok (.iload_n 1, 1) := dt_Bus_clear_c0 8
theorem d_Bus_clear_17 : decode (jm_cod M_Bus_clear) 17 = .ok (.aload_n 0, 1) := dt_Bus_clear_c0 9
theorem d_Bus_clear_18 : decode (jm_cod M_Bus_clear) 18 = .ok (.getfield 31, 3) := dt_Bus_clear_c0 10
theorem d_Bus_clear_21 : decode (jm_cod M_Bus_clear) 21 = .ok (.arraylength, 1) := dt_Bus_clear_c0 11
theorem d_Bus_clear_22 : decode (jm_cod M_Bus_clear) 22 = .ok (.if_icmp .ge 27, 3) := dt_Bus_clear_c0 12
theorem d_Bus_clear_25 : decode (jm_cod M_Bus_clear) 25 = .ok (.aload_n 0, 1) := dt_Bus_clear_c0 13
theorem d_Bus_clear_26 : decode (jm_cod M_Bus_clear) 26 = .ok (.getfield 31, 3) := dt_Bus_clear_c0 14
theorem d_Bus_clear_29 : decode (jm_cod M_Bus_clear) 29 = .ok (.iload_n 1, 1) := dt_Bus_clear_c0 15
theorem d_Bus_clear_30 : decode (jm_cod M_Bus_clear) 30 = .ok (.aaload, 1) := dt_Bus_clear_c0 16
theorem d_Bus_clear_31 : decode (jm_cod M_Bus_clear) 31 = .ok (.invokevirtual 291, 3) := dt_Bus_clear_c0 17
theorem d_Bus_clear_34 : decode (jm_cod M_Bus_clear) 34 = .ok (.aload_n 0, 1) := dt_Bus_clear_c0 18
theorem d_Bus_clear_35 : decode (jm_cod M_Bus_clear) 35 = .ok (.getfield 37, 3) := dt_Bus_clear_c0 19
theorem d_Bus_clear_38 : decode (jm_cod M_Bus_clear) 38 = .ok (.iload_n 1, 1) := dt_Bus_clear_c0 20
theorem d_Bus_clear_39 : decode (jm_cod M_Bus_clear) 39 = .ok (.aaload, 1) := dt_Bus_clear_c0 21
theorem d_Bus_clear_40 : decode (jm_cod M_Bus_clear) 40 = .ok (.invokevirtual 286, 3) := dt_Bus_clear_c0 22
theorem d_Bus_clear_43 : decode (jm_cod M_Bus_clear) 43 = .ok (.iinc 1 1, 3) := dt_Bus_clear_c0 23
def tab_Bus_clear_c1 : List (Nat × Instr × Nat) := [(46, .goto (-30), 3), (49, .iconst 0, 1), (50, .istore_n 1, 1), (51, .iload_n 1, 1), (52, .aload_n 0, 1), (53, .getfield 45, 3), (56, .arraylength, 1), (57, .if_icmp .ge 27, 3), (60, .aload_n 0, 1), (61, .getfield 45, 3), (64, .iload_n 1, 1), (65, .aaload, 1), (66, .invokevirtual 294, 3), (69, .aload_n 0, 1), (70, .getfield 49, 3), (73, .iload_n 1, 1), (74, .aaload, 1), (75, .invokevirtual 286, 3), (78, .iinc 1 1, 3), (81, .goto (-30), 3), (84, .iconst 0, 1), (85, .istore_n 1, 1), (86, .iload_n 1, 1), (87, .iconst 2, 1)]
theorem dt_Bus_clear_c1 (i : Nat) : decode (jm_cod M_Bus_clear) (tab_Bus_clear_c1.getD i (46, .goto (-30), 3)).1 = .ok ((tab_Bus_clear_c1.getD i (46, .goto (-30), 3)).2.1, (tab_Bus_clear_c1.getD i (46, .goto (-30), 3)).2.2) := j_tab (by decide +kernel) i
theorem d_Bus_clear_46 : decode (jm_cod M_Bus_clear) 46 = .ok (.goto (-30), 3) := dt_Bus_clear_c1 0
theorem d_Bus_clear_49 : decode (jm_cod M_Bus_clear) 49 = .ok (.iconst 0, 1) := dt_Bus_clear_c1 1
theorem d_Bus_clear_50 : decode (jm_cod M_Bus_clear) 50 = .ok (.istore_n 1, 1) := dt_Bus_clear_c1 2
theorem d_Bus_clear_51 : decode (jm_cod M_Bus_clear) 51 = .ok (.iload_n 1, 1) := dt_Bus_clear_c1 3
theorem d_Bus_clear_52 : decode (jm_cod M_Bus_clear) 52 = .ok (.aload_n 0, 1) := dt_Bus_clear_c1 4
theorem d_Bus_clear_53 : decode (jm_cod M_Bus_clear) 53 = .ok (.getfield 45, 3) := dt_Bus_clear_c1 5
theorem d_Bus_clear_56 : decode (jm_cod M_Bus_clear) 56 = .ok (.arraylength, 1) := dt_Bus_clear_c1 6
theorem d_Bus_clear_57 : decode (jm_cod M_Bus_clear) 57 = .ok (.if_icmp .ge 27, 3) := dt_Bus_clear_c1 7
theorem d_Bus_clear_60 : decode (jm_cod M_Bus_clear) 60 = .ok (.aload_n 0, 1) := dt_Bus_clear_c1 8
theorem d_Bus_clear_61 : decode (jm_cod M_Bus_clear) 61 = .ok (.getfield 45, 3) := dt_Bus_clear_c1 9
theorem d_Bus_clear_64 : decode (jm_cod M_Bus_clear) 64 = .ok (.iload_n 1, 1) := dt_Bus_clear_c1 10
theorem d_Bus_clear_65 : decode (jm_cod M_Bus_clear) 65 = .ok (.aaload, 1) := dt_Bus_clear_c1 11
theorem d_Bus_clear_66 : decode (jm_cod M_Bus_clear) 66 = .ok (.invokevirtual 294, 3) := dt_Bus_clear_c1 12
theorem d_Bus_clear_69 : decode (jm_cod M_Bus_clear) 69 = .ok (.aload_n 0, 1) := dt_Bus_clear_c1 13
theorem d_Bus_clear_70 : decode (jm_cod M_Bus_clear) 70 = .ok (.getfield 49, 3) := dt_Bus_clear_c1 14
theorem d_Bus_clear_73 : decode (jm_cod M_Bus_clear) 73 = .ok (.iload_n 1, 1) := dt_Bus_clear_c1 15
theorem d_Bus_clear_74 : decode (jm_cod M_Bus_clear) 74 = .ok (.aaload, 1) := dt_Bus_clear_c1 16
theorem d_Bus_clear_75 : decode (jm_cod M_Bus_clear) 75 = .ok (.invokevirtual 286, 3) := dt_Bus_clear_c1 17
theorem d_Bus_clear_78 : decode (jm_cod M_Bus_clear) 78 = .ok (.iinc 1 1, 3) := dt_Bus_clear_c1 18
theorem d_Bus_clear_81 : decode (jm_cod M_Bus_clear) 81 = .ok (.goto (-30), 3) := dt_Bus_clear_c1 19
theorem d_Bus_clear_84 : decode (jm_cod M_Bus_clear) 84 = .ok (.iconst 0, 1) := dt_Bus_clear_c1 20
theorem d_Bus_clear_85 : decode (jm_cod M_Bus_clear) 85 = .ok (.istore_n 1, 1) := dt_Bus_clear_c1 21
theorem d_Bus_clear_86 : decode (jm_cod M_Bus_clear) 86 = .ok (.iload_n 1, 1) := dt_Bus_clear_c1 22
theorem d_Bus_clear_87 : decode (jm_cod M_Bus_clear) 87 = .ok (.iconst 2, 1) := dt_Bus_clear_c1 23
def tab_Bus_clear_c2 : List (Nat × Instr × Nat) := [(88, .if_icmp .ge 18, 3), (91, .aload_n 0, 1), (92, .getfield 55, 3), (95, .iload_n 1, 1), (96, .aaload, 1), (97, .invokevirtual 286, 3), (100, .iinc 1 1, 3), (103, .goto (-17), 3), (106, .aload_n 0, 1), (107, .invokevirtual 211, 3), (110, .aload_n 0, 1), (111, .iconst 0, 1), (112, .putfield 159, 3), (115, .return_, 1)]
theorem dt_Bus_clear_c2 (i : Nat) : decode (jm_cod M_Bus_clear) (tab_Bus_clear_c2.getD i (88, .if_icmp .ge 18, 3)).1 = .ok ((tab_Bus_clear_c2.getD i (88, .if_icmp .ge 18, 3)).2.1, (tab_Bus_clear_c2.getD i (88, .if_icmp .ge 18, 3)).2.2) := j_tab (by decide +kernel) i
theorem d_Bus_clear_88 : decode (jm_cod M_Bus_clear) 88 = .ok (.if_icmp .ge 18, 3) := dt_Bus_clear_c2 0
theorem d_Bus_clear_91 : decode (jm_cod M_Bus_clear) 91 = .ok (.aload_n 0, 1) := dt_Bus_clear_c2 1
theorem d_Bus_clear_92 : decode (jm_cod M_Bus_clear) 92 = .ok (.getfield 55, 3) := dt_Bus_clear_c2 2
theorem d_Bus_clear_95 : decode (jm_cod M_Bus_clear) 95 = .ok (.iload_n 1, 1) := dt_Bus_clear_c2 3
theorem d_Bus_clear_96 : decode (jm_cod M_Bus_clear) 96 = .ok (.aaload, 1) := dt_Bus_clear_c2 4
theorem d_Bus_clear_97 : decode (jm_cod M_Bus_clear) 97 = .ok (.invokevirtual 286, 3) := dt_Bus_clear_c2 5
theorem d_Bus_clear_100 : decode (jm_cod M_Bus_clear) 100 = .ok (.iinc 1 1, 3) := dt_Bus_clear_c2 6
theorem d_Bus_clear_103 : decode (jm_cod M_Bus_clear) 103 = .ok (.goto (-17), 3) := dt_Bus_clear_c2 7
theorem d_Bus_clear_106 : decode (jm_cod M_Bus_clear) 106 = .ok (.aload_n 0, 1) := dt_Bus_clear_c2 8
theorem d_Bus_clear_107 : decode (jm_cod M_Bus_clear) 107 = .ok (.invokevirtual 211, 3) := dt_Bus_clear_c2 9
theorem d_Bus_clear_110 : decode (jm_cod M_Bus_clear) 110 = .ok (.aload_n 0, 1) := dt_Bus_clear_c2 10
theorem d_Bus_clear_111 : decode (jm_cod M_Bus_clear) 111 = .ok (.iconst 0, 1) := dt_Bus_clear_c2 11
theorem d_Bus_clear_112 : decode (jm_cod M_Bus_clear) 112 = .ok (.putfield 159, 3) := dt_Bus_clear_c2 12
theorem d_Bus_clear_115 : decode (jm_cod M_Bus_clear) 115 = .ok (.return_, 1) := dt_Bus_clear_c2 13
def tab_Bus_dropTickets_c0 : List (Nat × Instr × Nat) := [(0, .iconst 0, 1), (1, .istore_n 1, 1), (2, .iload_n 1, 1), (3, .aload_n 0, 1), (4, .getfield 31, 3), (7, .arraylength, 1), (8, .if_icmp .ge 18, 3), (11, .aload_n 0, 1), (12, .getfield 31, 3), (15, .iload_n 1, 1), (16, .aaload, 1), (17, .invokevirtual 337, 3), (20, .iinc 1 1, 3), (23, .goto (-21), 3), (26, .aload_n 0, 1), (27, .iconst 0, 1), (28, .putfield 147, 3), (31, .return_, 1)]
theorem dt_Bus_dropTickets_c0 (i : Nat) : decode (jm_cod M_Bus_dropTickets) (tab_Bus_dropTickets_c0.getD i (0, .iconst 0, 1)).1 = .ok ((tab_Bus_dropTickets_c0.getD i (0, .iconst 0, 1)).2.1, (tab_Bus_dropTickets_c0.getD i (0, .iconst 0, 1)).2.2) := j_tab (by decide +kernel) i
theorem d_Bus_dropTickets_0 : decode (jm_cod M_Bus_dropTickets) 0 = .ok (.iconst 0, 1) := dt_Bus_dropTickets_c0 0
theorem d_Bus_dropTickets_1 : decode (jm_cod M_Bus_dropTickets) 1 = .ok (.istore_n 1, 1) := dt_Bus_dropTickets_c0 1
theorem d_Bus_dropTickets_2 : decode (jm_cod M_Bus_dropTickets) 2 = .ok (.iload_n 1, 1) := dt_Bus_dropTickets_c0 2
theorem d_Bus_dropTickets_3 : decode (jm_cod M_Bus_dropTickets) 3 = .ok (.aload_n 0, 1) := dt_Bus_dropTickets_c0 3
theorem d_Bus_dropTickets_4 : decode (jm_cod M_Bus_dropTickets) 4 = .ok (.getfield 31, 3) := dt_Bus_dropTickets_c0 4
theorem d_Bus_dropTickets_7 : decode (jm_cod M_Bus_dropTickets) 7 = .ok (.arraylength, 1) := dt_Bus_dropTickets_c0 5
theorem d_Bus_dropTickets_8 : decode (jm_cod M_Bus_dropTickets) 8 = .ok (.if_icmp .ge 18, 3) := dt_Bus_dropTickets_c0 6
theorem d_Bus_dropTickets_11 : decode (jm_cod M_Bus_dropTickets) 11 = .ok (.aload_n 0, 1) := dt_Bus_dropTickets_c0 7
theorem d_Bus_dropTickets_12 : decode (jm_cod M_Bus_dropTickets) 12 = .ok (.getfield 31, 3) := dt_Bus_dropTickets_c0 8
theorem d_Bus_dropTickets_15 : decode (jm_cod M_Bus_dropTickets) 15 = .ok (.iload_n 1, 1) := dt_Bus_dropTickets_c0 9
theorem d_Bus_dropTickets_16 : decode (jm_cod M_Bus_dropTickets) 16 = .ok (.aaload, 1) := dt_Bus_dropTickets_c0 10
theorem d_Bus_dropTickets_17 : decode (jm_cod M_Bus_dropTickets) 17 = .ok (.invokevirtual 337, 3) := dt_Bus_dropTickets_c0 11
theorem d_Bus_dropTickets_20 : decode (jm_cod M_Bus_dropTickets) 20 = .ok (.iinc 1 1, 3) := dt_Bus_dropTickets_c0 12
theorem d_Bus_dropTickets_23 : decode (jm_cod M_Bus_dropTickets) 23 = .ok (.goto (-21), 3) := dt_Bus_dropTickets_c0 13
theorem d_Bus_dropTickets_26 : decode (jm_cod M_Bus_dropTickets) 26 = .ok (.aload_n 0, 1) := dt_Bus_dropTickets_c0 14
theorem d_Bus_dropTickets_27 : decode (jm_cod M_Bus_dropTickets) 27 = .ok (.iconst 0, 1) := dt_Bus_dropTickets_c0 15
theorem d_Bus_dropTickets_28 : decode (jm_cod M_Bus_dropTickets) 28 = .ok (.putfield 147, 3) := dt_Bus_dropTickets_c0 16
theorem d_Bus_dropTickets_31 : decode (jm_cod M_Bus_dropTickets) 31 = .ok (.return_, 1) := dt_Bus_dropTickets_c0 17
def tab_Bus_map_c0 : List (Nat × Instr × Nat) := [(0, .iload_n 1, 1), (1, .bipush 16, 2), (3, .invokestatic 65, 3), (6, .iload_n 2, 1), (7, .iconst (-1), 1), (8, .if_icmp .eq 12, 3), (11, .iload_n 2, 1), (12, .aload_n 0, 1), (13, .getfield 45, 3), (16, .arraylength, 1), (17, .invokestatic 65, 3), (20, .aload_n 0, 1), (21, .invokevirtual 69, 3), (24, .ifCond .le 13, 3), (27, .new 73, 3), (30, .dup, 1), (31, .ldc 75, 2), (33, .invokespecial 77, 3), (36, .athrow, 1), (37, .aload_n 0, 1), (38, .getfield 25, 3), (41, .getfield 80, 3), (44, .iload_n 1, 1), (45, .iaload, 1)]
theorem dt_Bus_map_c0 (i : Nat) : decode (jm_cod M_Bus_map) (tab_Bus_map_c0.getD i (0, .iload_n 1, 1)).1 = .ok ((tab_Bus_map_c0.getD i (0, .iload_n 1, 1)).2.1, (tab_Bus_map_c0.getD i (0, .iload_n 1, 1)).2.2) := j_tab (by decide +kernel) i
theorem d_Bus_map_0 : decode (jm_cod M_Bus_map) 0 = .ok (.iload_n 1, 1) := dt_Bus_map_c0 0
theorem d_Bus_map_1 : decode (jm_cod M_Bus_map) 1 = .ok (.bipush 16, 2) := dt_Bus_map_c0 1
theorem d_Bus_map_3 : decode (jm_cod M_Bus_map) 3 = .ok (.invokestatic 65, 3) := dt_Bus_map_c0 2
theorem d_Bus_map_6 : decode (jm_cod M_Bus_map) 6 = .ok (.iload_n 2, 1) := dt_Bus_map_c0 3
theorem d_Bus_map_7 : decode (jm_cod M_Bus_map) 7 = .ok (.iconst (-1), 1) := dt_Bus_map_c0 4
theorem d_Bus_map_8 : decode (jm_cod M_Bus_map) 8 = .ok (.if_icmp .eq 12, 3) := dt_Bus_map_c0 5
theorem d_Bus_map_11 : decode (jm_cod M_Bus_map) 11 = .ok (.iload_n 2, 1) := dt_Bus_map_c0 6
theorem d_Bus_map_12 : decode (jm_cod M_Bus_map) 12 = .ok (.aload_n 0, 1) := dt_Bus_map_c0 7
theorem d_Bus_map_13 : decode (jm_cod M_Bus_map) 13 = .ok (.getfield 45, 3) := dt_Bus_map_c0 8
theorem d_Bus_map_16 : decode (jm_cod M_Bus_map) 16 = .ok (.arraylength, 1) := dt_Bus_map_c0 9
theorem d_Bus_map_17 : decode (jm_cod M_Bus_map) 17 = .ok (.invokestatic 65, 3) := dt_Bus_map_c0 10
theorem d_Bus_map_20 : decode (jm_cod M_Bus_map) 20 = .ok (.aload_n 0, 1) := dt_Bus_map_c0 11
theorem d_Bus_map_21 : decode (jm_cod M_Bus_map) 21 = .ok (.invokevirtual 69, 3) := dt_Bus_map_c0 12
theorem d_Bus_map_24 : decode (jm_cod M_Bus_map) 24 = .ok (.ifCond .le 13, 3) := dt_Bus_map_c0 13
theorem d_Bus_map_27 : decode (jm_cod M_Bus_map) 27 = .ok (.new 73, 3) := dt_Bus_map_c0 14
theorem d_Bus_map_30 : decode (jm_cod M_Bus_map) 30 = .ok (.dup, 1) := dt_Bus_map_c0 15
theorem d_Bus_map_31 : decode (jm_cod M_Bus_map) 31 = .ok (.ldc 75, 2) := dt_Bus_map_c0 16
theorem d_Bus_map_33 : decode (jm_cod M_Bus_map) 33 = .ok (.invokespecial 77, 3) := dt_Bus_map_c0 17
theorem d_Bus_map_36 : decode (jm_cod M_Bus_map) 36 = .ok (.athrow, 1) := dt_Bus_map_c0 18
theorem d_Bus_map_37 : decode (jm_cod M_Bus_map) 37 = .ok (.aload_n 0, 1) := dt_Bus_map_c0 19
theorem d_Bus_map_38 : decode (jm_cod M_Bus_map) 38 = .ok (.getfield 25, 3) := dt_Bus_map_c0 20
theorem d_Bus_map_41 : decode (jm_cod M_Bus_map) 41 = .ok (.getfield 80, 3) := dt_Bus_map_c0 21
theorem d_Bus_map_44 : decode (jm_cod M_Bus_map) 44 = .ok (.iload_n 1, 1) := dt_Bus_map_c0 22
theorem d_Bus_map_45 : decode (jm_cod M_Bus_map) 45 = .ok (.iaload, 1) := dt_Bus_map_c0 23
def tab_Bus_map_c1 : List (Nat × Instr × Nat) := [(46, .istore_n 3, 1), (47, .aload_n 0, 1), (48, .getfield 25, 3), (51, .getfield 80, 3), (54, .iload_n 1, 1), (55, .iload_n 2, 1), (56, .iconst (-1), 1), (57, .if_icmp .ne 11, 3), (60, .aload_n 0, 1), (61, .getfield 45, 3), (64, .arraylength, 1), (65, .goto 4, 3), (68, .iload_n 2, 1), (69, .iastore, 1), (70, .iload_n 3, 1), (71, .aload_n 0, 1), (72, .getfield 45, 3), (75, .arraylength, 1), (76, .if_icmp .ne 7, 3), (79, .iconst (-1), 1), (80, .goto 4, 3), (83, .iload_n 3, 1), (84, .ireturn, 1)]
theorem dt_Bus_map_c1 (i : Nat) : decode (jm_cod M_Bus_map) (tab_Bus_map_c1.getD i (46, .istore_n 3, 1)).1 = .ok ((tab_Bus_map_c1.getD i (46, .istore_n 3, 1)).2.1, (tab_Bus_map_c1.getD i (46, .istore_n 3, 1)).2.2) := j_tab (by decide +kernel) i
theorem d_Bus_map_46 : decode (jm_cod M_Bus_map) 46 = .ok (.istore_n 3, 1) := dt_Bus_map_c1 0
theorem d_Bus_map_47 : decode (jm_cod M_Bus_map) 47 = .ok (.aload_n 0, 1) := dt_Bus_map_c1 1
theorem d_Bus_map_48 : decode (jm_cod M_Bus_map) 48 = .ok (.getfield 25, 3) := dt_Bus_map_c1 2
theorem d_Bus_map_51 : decode (jm_cod M_Bus_map) 51 = .ok (.getfield 80, 3) := dt_Bus_map_c1 3
theorem d_Bus_map_54 : decode (jm_cod M_Bus_map) 54 = .ok (.iload_n 1, 1) := dt_Bus_map_c1 4
theorem d_Bus_map_55 : decode (jm_cod M_Bus_map) 55 = .ok (.iload_n 2, 1) := dt_Bus_map_c1 5
theorem d_Bus_map_56 : decode (jm_cod M_Bus_map) 56 = .ok (.iconst (-1), 1) := dt_Bus_map_c1 6
theorem d_Bus_map_57 : decode (jm_cod M_Bus_map) 57 = .ok (.if_icmp .ne 11, 3) := dt_Bus_map_c1 7
theorem d_Bus_map_60 : decode (jm_cod M_Bus_map) 60 = .ok (.aload_n 0, 1) := dt_Bus_map_c1 8
theorem d_Bus_map_61 : decode (jm_cod M_Bus_map) 61 = .ok (.getfield 45, 3) := dt_Bus_map_c1 9
theorem d_Bus_map_64 : decode (jm_cod M_Bus_map) 64 = .ok (.arraylength, 1) := dt_Bus_map_c1 10
theorem d_Bus_map_65 : decode (jm_cod M_Bus_map) 65 = .ok (.goto 4, 3) := dt_Bus_map_c1 11
theorem d_Bus_map_68 : decode (jm_cod M_Bus_map) 68 = .ok (.iload_n 2, 1) := dt_Bus_map_c1 12
theorem d_Bus_map_69 : decode (jm_cod M_Bus_map) 69 = .ok (.iastore, 1) := dt_Bus_map_c1 13
theorem d_Bus_map_70 : decode (jm_cod M_Bus_map) 70 = .ok (.iload_n 3, 1) := dt_Bus_map_c1 14
theorem d_Bus_map_71 : decode (jm_cod M_Bus_map) 71 = .ok (.aload_n 0, 1) := dt_Bus_map_c1 15
theorem d_Bus_map_72 : decode (jm_cod M_Bus_map) 72 = .ok (.getfield 45, 3) := dt_Bus_map_c1 16
theorem d_Bus_map_75 : decode (jm_cod M_Bus_map) 75 = .ok (.arraylength, 1) := dt_Bus_map_c1 17
theorem d_Bus_map_76 : decode (jm_cod M_Bus_map) 76 = .ok (.if_icmp .ne 7, 3) := dt_Bus_map_c1 18
theorem d_Bus_map_79 : decode (jm_cod M_Bus_map) 79 = .ok (.iconst (-1), 1) := dt_Bus_map_c1 19
theorem d_Bus_map_80 : decode (jm_cod M_Bus_map) 80 = .ok (.goto 4, 3) := dt_Bus_map_c1 20
theorem d_Bus_map_83 : decode (jm_cod M_Bus_map) 83 = .ok (.iload_n 3, 1) := dt_Bus_map_c1 21
theorem d_Bus_map_84 : decode (jm_cod M_Bus_map) 84 = .ok (.ireturn, 1) := dt_Bus_map_c1 22
def tab_Bus_needIndex_c0 : List (Nat × Instr × Nat) := [(0, .iload_n 0, 1), (1, .ifCond .lt 8, 3), (4, .iload_n 0, 1), (5, .iload_n 1, 1), (6, .if_icmp .lt 14, 3), (9, .new 344, 3), (12, .dup, 1), (13, .ldc_w 346, 3), (16, .invokespecial 348, 3), (19, .athrow, 1), (20, .return_, 1)]
theorem dt_Bus_needIndex_c0 (i : Nat) : decode (jm_cod M_Bus_needIndex) (tab_Bus_needIndex_c0.getD i (0, .iload_n 0, 1)).1 = .ok ((tab_Bus_needIndex_c0.getD i (0, .iload_n 0, 1)).2.1, (tab_Bus_needIndex_c0.getD i (0, .iload_n 0, 1)).2.2) := j_tab (by decide +kernel) i
theorem d_Bus_needIndex_0 : decode (jm_cod M_Bus_needIndex) 0 = .ok (.iload_n 0, 1) := dt_Bus_needIndex_c0 0
theorem d_Bus_needIndex_1 : decode (jm_cod M_Bus_needIndex) 1 = .ok (.ifCond .lt 8, 3) := dt_Bus_needIndex_c0 1
theorem d_Bus_needIndex_4 : decode (jm_cod M_Bus_needIndex) 4 = .ok (.iload_n 0, 1) := dt_Bus_needIndex_c0 2
theorem d_Bus_needIndex_5 : decode (jm_cod M_Bus_needIndex) 5 = .ok (.iload_n 1, 1) := dt_Bus_needIndex_c0 3
theorem d_Bus_needIndex_6 : decode (jm_cod M_Bus_needIndex) 6 = .ok (.if_icmp .lt 14, 3) := dt_Bus_needIndex_c0 4
theorem d_Bus_needIndex_9 : decode (jm_cod M_Bus_needIndex) 9 = .ok (.new 344, 3) := dt_Bus_needIndex_c0 5
theorem d_Bus_needIndex_12 : decode (jm_cod M_Bus_needIndex) 12 = .ok (.dup, 1) := dt_Bus_needIndex_c0 6
theorem d_Bus_needIndex_13 : decode (jm_cod M_Bus_needIndex) 13 = .ok (.ldc_w 346, 3) := dt_Bus_needIndex_c0 7
theorem d_Bus_needIndex_16 : decode (jm_cod M_Bus_needIndex) 16 = .ok (.invokespecial 348, 3) := dt_Bus_needIndex_c0 8
theorem d_Bus_needIndex_19 : decode (jm_cod M_Bus_needIndex) 19 = .ok (.athrow, 1) := dt_Bus_needIndex_c0 9
theorem d_Bus_needIndex_20 : decode (jm_cod M_Bus_needIndex) 20 = .ok (.return_, 1) := dt_Bus_needIndex_c0 10
def tab_Bus_policy_c0 : List (Nat × Instr × Nat) := [(0, .iload_n 1, 1), (1, .iconst 0, 1), (2, .iconst 3, 1), (3, .invokestatic 84, 3), (6, .aload_n 0, 1), (7, .getfield 25, 3), (10, .getfield 87, 3), (13, .istore_n 3, 1), (14, .aload_n 0, 1), (15, .getfield 25, 3), (18, .iload_n 1, 1), (19, .putfield 87, 3), (22, .aload_n 0, 1), (23, .getfield 25, 3), (26, .iload_n 2, 1), (27, .putfield 91, 3), (30, .iload_n 3, 1), (31, .ireturn, 1)]
theorem dt_Bus_policy_c0 (i : Nat) : decode (jm_cod M_Bus_policy) (tab_Bus_policy_c0.getD i (0, .iload_n 1, 1)).1 = .ok ((tab_Bus_policy_c0.getD i (0, .iload_n 1, 1)).2.1, (tab_Bus_policy_c0.getD i (0, .iload_n 1, 1)).2.2) := j_tab (by decide +kernel) i
theorem d_Bus_policy_0 : decode (jm_cod M_Bus_policy) 0 = .ok (.iload_n 1, 1) := dt_Bus_policy_c0 0
theorem d_Bus_policy_1 : decode (jm_cod M_Bus_policy) 1 = .ok (.iconst 0, 1) := dt_Bus_policy_c0 1
theorem d_Bus_policy_2 : decode (jm_cod M_Bus_policy) 2 = .ok (.iconst 3, 1) := dt_Bus_policy_c0 2
theorem d_Bus_policy_3 : decode (jm_cod M_Bus_policy) 3 = .ok (.invokestatic 84, 3) := dt_Bus_policy_c0 3
theorem d_Bus_policy_6 : decode (jm_cod M_Bus_policy) 6 = .ok (.aload_n 0, 1) := dt_Bus_policy_c0 4
theorem d_Bus_policy_7 : decode (jm_cod M_Bus_policy) 7 = .ok (.getfield 25, 3) := dt_Bus_policy_c0 5
theorem d_Bus_policy_10 : decode (jm_cod M_Bus_policy) 10 = .ok (.getfield 87, 3) := dt_Bus_policy_c0 6
theorem d_Bus_policy_13 : decode (jm_cod M_Bus_policy) 13 = .ok (.istore_n 3, 1) := dt_Bus_policy_c0 7
theorem d_Bus_policy_14 : decode (jm_cod M_Bus_policy) 14 = .ok (.aload_n 0, 1) := dt_Bus_policy_c0 8
theorem d_Bus_policy_15 : decode (jm_cod M_Bus_policy) 15 = .ok (.getfield 25, 3) := dt_Bus_policy_c0 9
theorem d_Bus_policy_18 : decode (jm_cod M_Bus_policy) 18 = .ok (.iload_n 1, 1) := dt_Bus_policy_c0 10
theorem d_Bus_policy_19 : decode (jm_cod M_Bus_policy) 19 = .ok (.putfield 87, 3) := dt_Bus_policy_c0 11
theorem d_Bus_policy_22 : decode (jm_cod M_Bus_policy) 22 = .ok (.aload_n 0, 1) := dt_Bus_policy_c0 12
theorem d_Bus_policy_23 : decode (jm_cod M_Bus_policy) 23 = .ok (.getfield 25, 3) := dt_Bus_policy_c0 13
theorem d_Bus_policy_26 : decode (jm_cod M_Bus_policy) 26 = .ok (.iload_n 2, 1) := dt_Bus_policy_c0 14
theorem d_Bus_policy_27 : decode (jm_cod M_Bus_policy) 27 = .ok (.putfield 91, 3) := dt_Bus_policy_c0 15
theorem d_Bus_policy_30 : decode (jm_cod M_Bus_policy) 30 = .ok (.iload_n 3, 1) := dt_Bus_policy_c0 16
theorem d_Bus_policy_31 : decode (jm_cod M_Bus_policy) 31 = .ok (.ireturn, 1) := dt_Bus_policy_c0 17
def tab_Bus_needNumber_c0 : List (Nat × Instr × Nat) := [(0, .iload_n 0, 1), (1, .iload_n 1, 1), (2, .if_icmp .lt 8, 3), (5, .iload_n 0, 1), (6, .iload_n 2, 1), (7, .if_icmp .le 14, 3), (10, .new 113, 3), (13, .dup, 1), (14, .ldc_w 349, 3), (17, .invokespecial 117, 3), (20, .athrow, 1), (21, .return_, 1)]
theorem dt_Bus_needNumber_c0 (i : Nat) : decode (jm_cod M_Bus_needNumber) (tab_Bus_needNumber_c0.getD i (0, .iload_n 0, 1)).1 = .ok ((tab_Bus_needNumber_c0.getD i (0, .iload_n 0, 1)).2.1, (tab_Bus_needNumber_c0.getD i (0, .iload_n 0, 1)).2.2) := j_tab (by decide +kernel) i
theorem d_Bus_needNumber_0 : decode (jm_cod M_Bus_needNumber) 0 = .ok (.iload_n 0, 1) := dt_Bus_needNumber_c0 0
theorem d_Bus_needNumber_1 : decode (jm_cod M_Bus_needNumber) 1 = .ok (.iload_n 1, 1) := dt_Bus_needNumber_c0 1
theorem d_Bus_needNumber_2 : decode (jm_cod M_Bus_needNumber) 2 = .ok (.if_icmp .lt 8, 3) := dt_Bus_needNumber_c0 2
theorem d_Bus_needNumber_5 : decode (jm_cod M_Bus_needNumber) 5 = .ok (.iload_n 0, 1) := dt_Bus_needNumber_c0 3
theorem d_Bus_needNumber_6 : decode (jm_cod M_Bus_needNumber) 6 = .ok (.iload_n 2, 1) := dt_Bus_needNumber_c0 4
theorem d_Bus_needNumber_7 : decode (jm_cod M_Bus_needNumber) 7 = .ok (.if_icmp .le 14, 3) := dt_Bus_needNumber_c0 5
theorem d_Bus_needNumber_10 : decode (jm_cod M_Bus_needNumber) 10 = .ok (.new 113, 3) := dt_Bus_needNumber_c0 6
theorem d_Bus_needNumber_13 : decode (jm_cod M_Bus_needNumber) 13 = .ok (.dup, 1) := dt_Bus_needNumber_c0 7
theorem d_Bus_needNumber_14 : decode (jm_cod M_Bus_needNumber) 14 = .ok (.ldc_w 349, 3) := dt_Bus_needNumber_c0 8
theorem d_Bus_needNumber_17 : decode (jm_cod M_Bus_needNumber) 17 = .ok (.invokespecial 117, 3) := dt_Bus_needNumber_c0 9
theorem d_Bus_needNumber_20 : decode (jm_cod M_Bus_needNumber) 20 = .ok (.athrow, 1) := dt_Bus_needNumber_c0 10
theorem d_Bus_needNumber_21 : decode (jm_cod M_Bus_needNumber) 21 = .ok (.return_, 1) := dt_Bus_needNumber_c0 11
def tab_Bus_master_c0 : List (Nat × Instr × Nat) := [(0, .iload_n 1, 1), (1, .aload_n 0, 1), (2, .getfield 31, 3), (5, .arraylength, 1), (6, .invokestatic 65, 3), (9, .iload_n 2, 1), (10, .iconst 5, 1), (11, .invokestatic 65, 3), (14, .aload_n 0, 1), (15, .getfield 31, 3), (18, .iload_n 1, 1), (19, .aaload, 1), (20, .getfield 95, 3), (23, .iload_n 2, 1), (24, .iload_n 3, 1), (25, .invokestatic 98, 3), (28, .ireturn, 1)]
theorem dt_Bus_master_c0 (i : Nat) : decode (jm_cod M_Bus_master) (tab_Bus_master_c0.getD i (0, .iload_n 1, 1)).1 = .ok ((tab_Bus_master_c0.getD i (0, .iload_n 1, 1)).2.1, (tab_Bus_master_c0.getD i (0, .iload_n 1, 1)).2.2) := j_tab (by decide +kernel) i
theorem d_Bus_master_0 : decode (jm_cod M_Bus_master) 0 = .ok (.iload_n 1, 1) := dt_Bus_master_c0 0
theorem d_Bus_master_1 : decode (jm_cod M_Bus_master) 1 = .ok (.aload_n 0, 1) := dt_Bus_master_c0 1
theorem d_Bus_master_2 : decode (jm_cod M_Bus_master) 2 = .ok (.getfield 31, 3) := dt_Bus_master_c0 2
theorem d_Bus_master_5 : decode (jm_cod M_Bus_master) 5 = .ok (.arraylength, 1) := dt_Bus_master_c0 3
theorem d_Bus_master_6 : decode (jm_cod M_Bus_master) 6 = .ok (.invokestatic 65, 3) := dt_Bus_master_c0 4
theorem d_Bus_master_9 : decode (jm_cod M_Bus_master) 9 = .ok (.iload_n 2, 1) := dt_Bus_master_c0 5
theorem d_Bus_master_10 : decode (jm_cod M_Bus_master) 10 = .ok (.iconst 5, 1) := dt_Bus_master_c0 6
theorem d_Bus_master_11 : decode (jm_cod M_Bus_master) 11 = .ok (.invokestatic 65, 3) := dt_Bus_master_c0 7
theorem d_Bus_master_14 : decode (jm_cod M_Bus_master) 14 = .ok (.aload_n 0, 1) := dt_Bus_master_c0 8
theorem d_Bus_master_15 : decode (jm_cod M_Bus_master) 15 = .ok (.getfield 31, 3) := dt_Bus_master_c0 9
theorem d_Bus_master_18 : decode (jm_cod M_Bus_master) 18 = .ok (.iload_n 1, 1) := dt_Bus_master_c0 10
theorem d_Bus_master_19 : decode (jm_cod M_Bus_master) 19 = .ok (.aaload, 1) := dt_Bus_master_c0 11
theorem d_Bus_master_20 : decode (jm_cod M_Bus_master) 20 = .ok (.getfield 95, 3) := dt_Bus_master_c0 12
theorem d_Bus_master_23 : decode (jm_cod M_Bus_master) 23 = .ok (.iload_n 2, 1) := dt_Bus_master_c0 13
theorem d_Bus_master_24 : decode (jm_cod M_Bus_master) 24 = .ok (.iload_n 3, 1) := dt_Bus_master_c0 14
theorem d_Bus_master_25 : decode (jm_cod M_Bus_master) 25 = .ok (.invokestatic 98, 3) := dt_Bus_master_c0 15
theorem d_Bus_master_28 : decode (jm_cod M_Bus_master) 28 = .ok (.ireturn, 1) := dt_Bus_master_c0 16
def tab_Bus_exchange_c0 : List (Nat × Instr × Nat) := [(0, .aload_n 0, 1), (1, .iload_n 1, 1), (2, .iaload, 1), (3, .istore_n 3, 1), (4, .aload_n 0, 1), (5, .iload_n 1, 1), (6, .iload_n 2, 1), (7, .ldc_w 343, 3), (10, .iand, 1), (11, .iastore, 1), (12, .iload_n 3, 1), (13, .ireturn, 1)]
theorem dt_Bus_exchange_c0 (i : Nat) : decode (jm_cod M_Bus_exchange) (tab_Bus_exchange_c0.getD i (0, .aload_n 0, 1)).1 = .ok ((tab_Bus_exchange_c0.getD i (0, .aload_n 0, 1)).2.1, (tab_Bus_exchange_c0.getD i (0, .aload_n 0, 1)).2.2) := j_tab (by decide +kernel) i
theorem d_Bus_exchange_0 : decode (jm_cod M_Bus_exchange) 0 = .ok (.aload_n 0, 1) := dt_Bus_exchange_c0 0
theorem d_Bus_exchange_1 : decode (jm_cod M_Bus_exchange) 1 = .ok (.iload_n 1, 1) := dt_Bus_exchange_c0 1
theorem d_Bus_exchange_2 : decode (jm_cod M_Bus_exchange) 2 = .ok (.iaload, 1) := dt_Bus_exchange_c0 2
theorem d_Bus_exchange_3 : decode (jm_cod M_Bus_exchange) 3 = .ok (.istore_n 3, 1) := dt_Bus_exchange_c0 3
theorem d_Bus_exchange_4 : decode (jm_cod M_Bus_exchange) 4 = .ok (.aload_n 0, 1) := dt_Bus_exchange_c0 4
theorem d_Bus_exchange_5 : decode (jm_cod M_Bus_exchange) 5 = .ok (.iload_n 1, 1) := dt_Bus_exchange_c0 5
theorem d_Bus_exchange_6 : decode (jm_cod M_Bus_exchange) 6 = .ok (.iload_n 2, 1) := dt_Bus_exchange_c0 6
theorem d_Bus_exchange_7 : decode (jm_cod M_Bus_exchange) 7 = .ok (.ldc_w 343, 3) := dt_Bus_exchange_c0 7
theorem d_Bus_exchange_10 : decode (jm_cod M_Bus_exchange) 10 = .ok (.iand, 1) := dt_Bus_exchange_c0 8
theorem d_Bus_exchange_11 : decode (jm_cod M_Bus_exchange) 11 = .ok (.iastore, 1) := dt_Bus_exchange_c0 9
theorem d_Bus_exchange_12 : decode (jm_cod M_Bus_exchange) 12 = .ok (.iload_n 3, 1) := dt_Bus_exchange_c0 10
theorem d_Bus_exchange_13 : decode (jm_cod M_Bus_exchange) 13 = .ok (.ireturn, 1) := dt_Bus_exchange_c0 11
def tab_Bus_early_c0 : List (Nat × Instr × Nat) := [(0, .iload_n 1, 1), (1, .aload_n 0, 1), (2, .getfield 31, 3), (5, .arraylength, 1), (6, .invokestatic 65, 3), (9, .aload_n 0, 1), (10, .getfield 31, 3), (13, .iload_n 1, 1), (14, .aaload, 1), (15, .getfield 102, 3), (18, .istore_n 3, 1), (19, .aload_n 0, 1), (20, .getfield 31, 3), (23, .iload_n 1, 1), (24, .aaload, 1), (25, .iload_n 2, 1), (26, .putfield 102, 3), (29, .iload_n 3, 1), (30, .ireturn, 1)]
theorem dt_Bus_early_c0 (i : Nat) : decode (jm_cod M_Bus_early) (tab_Bus_early_c0.getD i (0, .iload_n 1, 1)).1 = .ok ((tab_Bus_early_c0.getD i (0, .iload_n 1, 1)).2.1, (tab_Bus_early_c0.getD i (0, .iload_n 1, 1)).2.2) := j_tab (by decide +kernel) i
theorem d_Bus_early_0 : decode (jm_cod M_Bus_early) 0 = .ok (.iload_n 1, 1) := dt_Bus_early_c0 0
theorem d_Bus_early_1 : decode (jm_cod M_Bus_early) 1 = .ok (.aload_n 0, 1) := dt_Bus_early_c0 1
theorem d_Bus_early_2 : decode (jm_cod M_Bus_early) 2 = .ok (.getfield 31, 3) := dt_Bus_early_c0 2
theorem d_Bus_early_5 : decode (jm_cod M_Bus_early) 5 = .ok (.arraylength, 1) := dt_Bus_early_c0 3
theorem d_Bus_early_6 : decode (jm_cod M_Bus_early) 6 = .ok (.invokestatic 65, 3) := dt_Bus_early_c0 4
theorem d_Bus_early_9 : decode (jm_cod M_Bus_early) 9 = .ok (.aload_n 0, 1) := dt_Bus_early_c0 5
theorem d_Bus_early_10 : decode (jm_cod M_Bus_early) 10 = .ok (.getfield 31, 3) := dt_Bus_early_c0 6
theorem d_Bus_early_13 : decode (jm_cod M_Bus_early) 13 = .ok (.iload_n 1, 1) := dt_Bus_early_c0 7
theorem d_Bus_early_14 : decode (jm_cod M_Bus_early) 14 = .ok (.aaload, 1) := dt_Bus_early_c0 8
theorem d_Bus_early_15 : decode (jm_cod M_Bus_early) 15 = .ok (.getfield 102, 3) := dt_Bus_early_c0 9
theorem d_Bus_early_18 : decode (jm_cod M_Bus_early) 18 = .ok (.istore_n 3, 1) := dt_Bus_early_c0 10
theorem d_Bus_early_19 : decode (jm_cod M_Bus_early) 19 = .ok (.aload_n 0, 1) := dt_Bus_early_c0 11
theorem d_Bus_early_20 : decode (jm_cod M_Bus_early) 20 = .ok (.getfield 31, 3) := dt_Bus_early_c0 12
theorem d_Bus_early_23 : decode (jm_cod M_Bus_early) 23 = .ok (.iload_n 1, 1) := dt_Bus_early_c0 13
theorem d_Bus_early_24 : decode (jm_cod M_Bus_early) 24 = .ok (.aaload, 1) := dt_Bus_early_c0 14
theorem d_Bus_early_25 : decode (jm_cod M_Bus_early) 25 = .ok (.iload_n 2, 1) := dt_Bus_early_c0 15
theorem d_Bus_early_26 : decode (jm_cod M_Bus_early) 26 = .ok (.putfield 102, 3) := dt_Bus_early_c0 16
theorem d_Bus_early_29 : decode (jm_cod M_Bus_early) 29 = .ok (.iload_n 3, 1) := dt_Bus_early_c0 17
theorem d_Bus_early_30 : decode (jm_cod M_Bus_early) 30 = .ok (.ireturn, 1) := dt_Bus_early_c0 18
def tab_Bus_slave_c0 : List (Nat × Instr × Nat) := [(0, .iload_n 1, 1), (1, .aload_n 0, 1), (2, .getfield 45, 3), (5, .arraylength, 1), (6, .invokestatic 65, 3), (9, .iload_n 2, 1), (10, .iconst 5, 1), (11, .invokestatic 65, 3), (14, .aload_n 0, 1), (15, .getfield 45, 3), (18, .iload_n 1, 1), (19, .aaload, 1), (20, .getfield 105, 3), (23, .iload_n 2, 1), (24, .iload_n 3, 1), (25, .invokestatic 98, 3), (28, .ireturn, 1)]
theorem dt_Bus_slave_c0 (i : Nat) : decode (jm_cod M_Bus_slave) (tab_Bus_slave_c0.getD i (0, .iload_n 1, 1)).1 = .ok ((tab_Bus_slave_c0.getD i (0, .iload_n 1, 1)).2.1, (tab_Bus_slave_c0.getD i (0, .iload_n 1, 1)).2.2) := j_tab (by decide +kernel) i
theorem d_Bus_slave_0 : decode (jm_cod M_Bus_slave) 0 = .ok (.iload_n 1, 1) := dt_Bus_slave_c0 0
theorem d_Bus_slave_1 : decode (jm_cod M_Bus_slave) 1 = .ok (.aload_n 0, 1) := dt_Bus_slave_c0 1
theorem d_Bus_slave_2 : decode (jm_cod M_Bus_slave) 2 = .ok (.getfield 45, 3) := dt_Bus_slave_c0 2
theorem d_Bus_slave_5 : decode (jm_cod M_Bus_slave) 5 = .ok (.arraylength, 1) := dt_Bus_slave_c0 3
theorem d_Bus_slave_6 : decode (jm_cod M_Bus_slave) 6 = .ok (.invokestatic 65, 3) := dt_Bus_slave_c0 4
theorem d_Bus_slave_9 : decode (jm_cod M_Bus_slave) 9 = .ok (.iload_n 2, 1) := dt_Bus_slave_c0 5
theorem d_Bus_slave_10 : decode (jm_cod M_Bus_slave) 10 = .ok (.iconst 5, 1) := dt_Bus_slave_c0 6
theorem d_Bus_slave_11 : decode (jm_cod M_Bus_slave) 11 = .ok (.invokestatic 65, 3) := dt_Bus_slave_c0 7
theorem d_Bus_slave_14 : decode (jm_cod M_Bus_slave) 14 = .ok (.aload_n 0, 1) := dt_Bus_slave_c0 8
theorem d_Bus_slave_15 : decode (jm_cod M_Bus_slave) 15 = .ok (.getfield 45, 3) := dt_Bus_slave_c0 9
theorem d_Bus_slave_18 : decode (jm_cod M_Bus_slave) 18 = .ok (.iload_n 1, 1) := dt_Bus_slave_c0 10
theorem d_Bus_slave_19 : decode (jm_cod M_Bus_slave) 19 = .ok (.aaload, 1) := dt_Bus_slave_c0 11
theorem d_Bus_slave_20 : decode (jm_cod M_Bus_slave) 20 = .ok (.getfield 105, 3) := dt_Bus_slave_c0 12
theorem d_Bus_slave_23 : decode (jm_cod M_Bus_slave) 23 = .ok (.iload_n 2, 1) := dt_Bus_slave_c0 13
theorem d_Bus_slave_24 : decode (jm_cod M_Bus_slave) 24 = .ok (.iload_n 3, 1) := dt_Bus_slave_c0 14
theorem d_Bus_slave_25 : decode (jm_cod M_Bus_slave) 25 = .ok (.invokestatic 98, 3) := dt_Bus_slave_c0 15
theorem d_Bus_slave_28 : decode (jm_cod M_Bus_slave) 28 = .ok (.ireturn, 1) := dt_Bus_slave_c0 16
def tab_Bus_way_c0 : List (Nat × Instr × Nat) := [(0, .iload_n 1, 1), (1, .aload_n 0, 1), (2, .getfield 45, 3), (5, .arraylength, 1), (6, .invokestatic 65, 3), (9, .iload_n 2, 1), (10, .iconst 0, 1), (11, .bipush 15, 2), (13, .invokestatic 84, 3), (16, .iload_n 3, 1), (17, .iconst 0, 1), (18, .iconst 2, 1), (19, .invokestatic 84, 3), (22, .aload_n 0, 1), (23, .getfield 45, 3), (26, .iload_n 1, 1), (27, .aaload, 1), (28, .astore 4, 2), (30, .bipush 16, 2), (32, .aload 4, 2), (34, .getfield 106, 3), (37, .imul, 1), (38, .aload 4, 2), (40, .getfield 109, 3)]
theorem dt_Bus_way_c0 (i : Nat) : decode (jm_cod M_Bus_way) (tab_Bus_way_c0.getD i (0, .iload_n 1, 1)).1 = .ok ((tab_Bus_way_c0.getD i (0, .iload_n 1, 1)).2.1, (tab_Bus_way_c0.getD i (0, .iload_n 1, 1)).2.2) := j_tab (by decide +kernel) i
theorem d_Bus_way_0 : decode (jm_cod M_Bus_way) 0 = .ok (.iload_n 1, 1) := dt_Bus_way_c0 0
theorem d_Bus_way_1 : decode (jm_cod M_Bus_way) 1 = .ok (.aload_n 0, 1) := dt_Bus_way_c0 1
theorem d_Bus_way_2 : decode (jm_cod M_Bus_way) 2 = .ok (.getfield 45, 3) := dt_Bus_way_c0 2
theorem d_Bus_way_5 : decode (jm_cod M_Bus_way) 5 = .ok (.arraylength, 1) := dt_Bus_way_c0 3
theorem d_Bus_way_6 : decode (jm_cod M_Bus_way) 6 = .ok (.invokestatic 65, 3) := dt_Bus_way_c0 4
theorem d_Bus_way_9 : decode (jm_cod M_Bus_way) 9 = .ok (.iload_n 2, 1) := dt_Bus_way_c0 5
theorem d_Bus_way_10 : decode (jm_cod M_Bus_way) 10 = .ok (.iconst 0, 1) := dt_Bus_way_c0 6
theorem d_Bus_way_11 : decode (jm_cod M_Bus_way) 11 = .ok (.bipush 15, 2) := dt_Bus_way_c0 7
theorem d_Bus_way_13 : decode (jm_cod M_Bus_way) 13 = .ok (.invokestatic 84, 3) := dt_Bus_way_c0 8
theorem d_Bus_way_16 : decode (jm_cod M_Bus_way) 16 = .ok (.iload_n 3, 1) := dt_Bus_way_c0 9
theorem d_Bus_way_17 : decode (jm_cod M_Bus_way) 17 = .ok (.iconst 0, 1) := dt_Bus_way_c0 10
theorem d_Bus_way_18 : decode (jm_cod M_Bus_way) 18 = .ok (.iconst 2, 1) := dt_Bus_way_c0 11
theorem d_Bus_way_19 : decode (jm_cod M_Bus_way) 19 = .ok (.invokestatic 84, 3) := dt_Bus_way_c0 12
theorem d_Bus_way_22 : decode (jm_cod M_Bus_way) 22 = .ok (.aload_n 0, 1) := dt_Bus_way_c0 13
theorem d_Bus_way_23 : decode (jm_cod M_Bus_way) 23 = .ok (.getfield 45, 3) := dt_Bus_way_c0 14
theorem d_Bus_way_26 : decode (jm_cod M_Bus_way) 26 = .ok (.iload_n 1, 1) := dt_Bus_way_c0 15
theorem d_Bus_way_27 : decode (jm_cod M_Bus_way) 27 = .ok (.aaload, 1) := dt_Bus_way_c0 16
theorem d_Bus_way_28 : decode (jm_cod M_Bus_way) 28 = .ok (.astore 4, 2) := dt_Bus_way_c0 17
theorem d_Bus_way_30 : decode (jm_cod M_Bus_way) 30 = .ok (.bipush 16, 2) := dt_Bus_way_c0 18
theorem d_Bus_way_32 : decode (jm_cod M_Bus_way) 32 = .ok (.aload 4, 2) := dt_Bus_way_c0 19
theorem d_Bus_way_34 : decode (jm_cod M_Bus_way) 34 = .ok (.getfield 106, 3) := dt_Bus_way_c0 20
theorem d_Bus_way_37 : decode (jm_cod M_Bus_way) 37 = .ok (.imul, 1) := dt_Bus_way_c0 21
theorem d_Bus_way_38 : decode (jm_cod M_Bus_way) 38 = .ok (.aload 4, 2) := dt_Bus_way_c0 22
theorem d_Bus_way_40 : decode (jm_cod M_Bus_way) 40 = .ok (.getfield 109, 3) := dt_Bus_way_c0 23
def tab_Bus_way_c1 : List (Nat × Instr × Nat) := [(43, .iadd, 1), (44, .istore 5, 2), (46, .aload 4, 2), (48, .iload_n 2, 1), (49, .putfield 109, 3), (52, .aload 4, 2), (54, .iload_n 3, 1), (55, .putfield 106, 3), (58, .iload 5, 2), (60, .ireturn, 1)]
theorem dt_Bus_way_c1 (i : Nat) : decode (jm_cod M_Bus_way) (tab_Bus_way_c1.getD i (43, .iadd, 1)).1 = .ok ((tab_Bus_way_c1.getD i (43, .iadd, 1)).2.1, (tab_Bus_way_c1.getD i (43, .iadd, 1)).2.2) := j_tab (by decide +kernel) i
theorem d_Bus_way_43 : decode (jm_cod M_Bus_way) 43 = .ok (.iadd, 1) := dt_Bus_way_c1 0
theorem d_Bus_way_44 : decode (jm_cod M_Bus_way) 44 = .ok (.istore 5, 2) := dt_Bus_way_c1 1
theorem d_Bus_way_46 : decode (jm_cod M_Bus_way) 46 = .ok (.aload 4, 2) := dt_Bus_way_c1 2
theorem d_Bus_way_48 : decode (jm_cod M_Bus_way) 48 = .ok (.iload_n 2, 1) := dt_Bus_way_c1 3
theorem d_Bus_way_49 : decode (jm_cod M_Bus_way) 49 = .ok (.putfield 109, 3) := dt_Bus_way_c1 4
theorem d_Bus_way_52 : decode (jm_cod M_Bus_way) 52 = .ok (.aload 4, 2) := dt_Bus_way_c1 5
theorem d_Bus_way_54 : decode (jm_cod M_Bus_way) 54 = .ok (.iload_n 3, 1) := dt_Bus_way_c1 6
theorem d_Bus_way_55 : decode (jm_cod M_Bus_way) 55 = .ok (.putfield 106, 3) := dt_Bus_way_c1 7
theorem d_Bus_way_58 : decode (jm_cod M_Bus_way) 58 = .ok (.iload 5, 2) := dt_Bus_way_c1 8
theorem d_Bus_way_60 : decode (jm_cod M_Bus_way) 60 = .ok (.ireturn, 1) := dt_Bus_way_c1 9
def tab_Bus_spoil_c0 : List (Nat × Instr × Nat) := [(0, .iload_n 1, 1), (1, .ldc 112, 2), (3, .invokestatic 65, 3), (6, .iload_n 2, 1), (7, .iconst 1, 1), (8, .if_icmp .ge 13, 3), (11, .new 113, 3), (14, .dup, 1), (15, .ldc 115, 2), (17, .invokespecial 117, 3), (20, .athrow, 1), (21, .aload_n 0, 1), (22, .getfield 16, 3), (25, .iload_n 1, 1), (26, .iload_n 2, 1), (27, .ldc 112, 2), (29, .iload_n 1, 1), (30, .isub, 1), (31, .invokestatic 118, 3), (34, .iload_n 3, 1), (35, .invokevirtual 123, 3), (38, .ireturn, 1)]
theorem dt_Bus_spoil_c0 (i : Nat) : decode (jm_cod M_Bus_spoil) (tab_Bus_spoil_c0.getD i (0, .iload_n 1, 1)).1 = .ok ((tab_Bus_spoil_c0.getD i (0, .iload_n 1, 1)).2.1, (tab_Bus_spoil_c0.getD i (0, .iload_n 1, 1)).2.2) := j_tab (by decide +kernel) i
theorem d_Bus_spoil_0 : decode (jm_cod M_Bus_spoil) 0 = .ok (.iload_n 1, 1) := dt_Bus_spoil_c0 0
theorem d_Bus_spoil_1 : decode (jm_cod M_Bus_spoil) 1 = .ok (.ldc 112, 2) := dt_Bus_spoil_c0 1
theorem d_Bus_spoil_3 : decode (jm_cod M_Bus_spoil) 3 = .ok (.invokestatic 65, 3) := dt_Bus_spoil_c0 2
theorem d_Bus_spoil_6 : decode (jm_cod M_Bus_spoil) 6 = .ok (.iload_n 2, 1) := dt_Bus_spoil_c0 3
theorem d_Bus_spoil_7 : decode (jm_cod M_Bus_spoil) 7 = .ok (.iconst 1, 1) := dt_Bus_spoil_c0 4
theorem d_Bus_spoil_8 : decode (jm_cod M_Bus_spoil) 8 = .ok (.if_icmp .ge 13, 3) := dt_Bus_spoil_c0 5
theorem d_Bus_spoil_11 : decode (jm_cod M_Bus_spoil) 11 = .ok (.new 113, 3) := dt_Bus_spoil_c0 6
theorem d_Bus_spoil_14 : decode (jm_cod M_Bus_spoil) 14 = .ok (.dup, 1) := dt_Bus_spoil_c0 7
theorem d_Bus_spoil_15 : decode (jm_cod M_Bus_spoil) 15 = .ok (.ldc 115, 2) := dt_Bus_spoil_c0 8
theorem d_Bus_spoil_17 : decode (jm_cod M_Bus_spoil) 17 = .ok (.invokespecial 117, 3) := dt_Bus_spoil_c0 9
theorem d_Bus_spoil_20 : decode (jm_cod M_Bus_spoil) 20 = .ok (.athrow, 1) := dt_Bus_spoil_c0 10
theorem d_Bus_spoil_21 : decode (jm_cod M_Bus_spoil) 21 = .ok (.aload_n 0, 1) := dt_Bus_spoil_c0 11
theorem d_Bus_spoil_22 : decode (jm_cod M_Bus_spoil) 22 = .ok (.getfield 16, 3) := dt_Bus_spoil_c0 12
theorem d_Bus_spoil_25 : decode (jm_cod M_Bus_spoil) 25 = .ok (.iload_n 1, 1) := dt_Bus_spoil_c0 13
theorem d_Bus_spoil_26 : decode (jm_cod M_Bus_spoil) 26 = .ok (.iload_n 2, 1) := dt_Bus_spoil_c0 14
theorem d_Bus_spoil_27 : decode (jm_cod M_Bus_spoil) 27 = .ok (.ldc 112, 2) := dt_Bus_spoil_c0 15
theorem d_Bus_spoil_29 : decode (jm_cod M_Bus_spoil) 29 = .ok (.iload_n 1, 1) := dt_Bus_spoil_c0 16
theorem d_Bus_spoil_30 : decode (jm_cod M_Bus_spoil) 30 = .ok (.isub, 1) := dt_Bus_spoil_c0 17
theorem d_Bus_spoil_31 : decode (jm_cod M_Bus_spoil) 31 = .ok (.invokestatic 118, 3) := dt_Bus_spoil_c0 18
theorem d_Bus_spoil_34 : decode (jm_cod M_Bus_spoil) 34 = .ok (.iload_n 3, 1) := dt_Bus_spoil_c0 19
theorem d_Bus_spoil_35 : decode (jm_cod M_Bus_spoil) 35 = .ok (.invokevirtual 123, 3) := dt_Bus_spoil_c0 20
theorem d_Bus_spoil_38 : decode (jm_cod M_Bus_spoil) 38 = .ok (.ireturn, 1) := dt_Bus_spoil_c0 21
def tab_Bus_poke_c0 : List (Nat × Instr × Nat) := [(0, .iload_n 1, 1), (1, .ldc 112, 2), (3, .invokestatic 65, 3), (6, .iload_n 2, 1), (7, .iconst 0, 1), (8, .sipush 255, 3), (11, .invokestatic 84, 3), (14, .aload_n 0, 1), (15, .getfield 16, 3), (18, .iload_n 1, 1), (19, .invokevirtual 127, 3), (22, .istore_n 3, 1), (23, .iload_n 1, 1), (24, .bipush 7, 2), (26, .iand, 1), (27, .istore 4, 2), (29, .aload_n 0, 1), (30, .getfield 16, 3), (33, .iload_n 1, 1), (34, .iload_n 2, 1), (35, .i2l, 1), (36, .bipush 8, 2), (38, .iload 4, 2), (40, .imul, 1)]
theorem dt_Bus_poke_c0 (i : Nat) : decode (jm_cod M_Bus_poke) (tab_Bus_poke_c0.getD i (0, .iload_n 1, 1)).1 = .ok ((tab_Bus_poke_c0.getD i (0, .iload_n 1, 1)).2.1, (tab_Bus_poke_c0.getD i (0, .iload_n 1, 1)).2.2) := j_tab (by decide +kernel) i
theorem d_Bus_poke_0 : decode (jm_cod M_Bus_poke) 0 = .ok (.iload_n 1, 1) := dt_Bus_poke_c0 0
theorem d_Bus_poke_1 : decode (jm_cod M_Bus_poke) 1 = .ok (.ldc 112, 2) := dt_Bus_poke_c0 1
theorem d_Bus_poke_3 : decode (jm_cod M_Bus_poke) 3 = .ok (.invokestatic 65, 3) := dt_Bus_poke_c0 2
theorem d_Bus_poke_6 : decode (jm_cod M_Bus_poke) 6 = .ok (.iload_n 2, 1) := dt_Bus_poke_c0 3
theorem d_Bus_poke_7 : decode (jm_cod M_Bus_poke) 7 = .ok (.iconst 0, 1) := dt_Bus_poke_c0 4
theorem d_Bus_poke_8 : decode (jm_cod M_Bus_poke) 8 = .ok (.sipush 255, 3) := dt_Bus_poke_c0 5
theorem d_Bus_poke_11 : decode (jm_cod M_Bus_poke) 11 = .ok (.invokestatic 84, 3) := dt_Bus_poke_c0 6
theorem d_Bus_poke_14 : decode (jm_cod M_Bus_poke) 14 = .ok (.aload_n 0, 1) := dt_Bus_poke_c0 7
theorem d_Bus_poke_15 : decode (jm_cod M_Bus_poke) 15 = .ok (.getfield 16, 3) := dt_Bus_poke_c0 8
theorem d_Bus_poke_18 : decode (jm_cod M_Bus_poke) 18 = .ok (.iload_n 1, 1) := dt_Bus_poke_c0 9
theorem d_Bus_poke_19 : decode (jm_cod M_Bus_poke) 19 = .ok (.invokevirtual 127, 3) := dt_Bus_poke_c0 10
theorem d_Bus_poke_22 : decode (jm_cod M_Bus_poke) 22 = .ok (.istore_n 3, 1) := dt_Bus_poke_c0 11
theorem d_Bus_poke_23 : decode (jm_cod M_Bus_poke) 23 = .ok (.iload_n 1, 1) := dt_Bus_poke_c0 12
theorem d_Bus_poke_24 : decode (jm_cod M_Bus_poke) 24 = .ok (.bipush 7, 2) := dt_Bus_poke_c0 13
theorem d_Bus_poke_26 : decode (jm_cod M_Bus_poke) 26 = .ok (.iand, 1) := dt_Bus_poke_c0 14
theorem d_Bus_poke_27 : decode (jm_cod M_Bus_poke) 27 = .ok (.istore 4, 2) := dt_Bus_poke_c0 15
theorem d_Bus_poke_29 : decode (jm_cod M_Bus_poke) 29 = .ok (.aload_n 0, 1) := dt_Bus_poke_c0 16
theorem d_Bus_poke_30 : decode (jm_cod M_Bus_poke) 30 = .ok (.getfield 16, 3) := dt_Bus_poke_c0 17
theorem d_Bus_poke_33 : decode (jm_cod M_Bus_poke) 33 = .ok (.iload_n 1, 1) := dt_Bus_poke_c0 18
theorem d_Bus_poke_34 : decode (jm_cod M_Bus_poke) 34 = .ok (.iload_n 2, 1) := dt_Bus_poke_c0 19
theorem d_Bus_poke_35 : decode (jm_cod M_Bus_poke) 35 = .ok (.i2l, 1) := dt_Bus_poke_c0 20
theorem d_Bus_poke_36 : decode (jm_cod M_Bus_poke) 36 = .ok (.bipush 8, 2) := dt_Bus_poke_c0 21
theorem d_Bus_poke_38 : decode (jm_cod M_Bus_poke) 38 = .ok (.iload 4, 2) := dt_Bus_poke_c0 22
theorem d_Bus_poke_40 : decode (jm_cod M_Bus_poke) 40 = .ok (.imul, 1) := dt_Bus_poke_c0 23
def tab_Bus_poke_c1 : List (Nat × Instr × Nat) := [(41, .lshl, 1), (42, .iconst 1, 1), (43, .iload 4, 2), (45, .ishl, 1), (46, .invokevirtual 131, 3), (49, .iload_n 3, 1), (50, .ireturn, 1)]
theorem dt_Bus_poke_c1 (i : Nat) : decode (jm_cod M_Bus_poke) (tab_Bus_poke_c1.getD i (41, .lshl, 1)).1 = .ok ((tab_Bus_poke_c1.getD i (41, .lshl, 1)).2.1, (tab_Bus_poke_c1.getD i (41, .lshl, 1)).2.2) := j_tab (by decide +kernel) i
theorem d_Bus_poke_41 : decode (jm_cod M_Bus_poke) 41 = .ok (.lshl, 1) := dt_Bus_poke_c1 0
theorem d_Bus_poke_42 : decode (jm_cod M_Bus_poke) 42 = .ok (.iconst 1, 1) := dt_Bus_poke_c1 1
theorem d_Bus_poke_43 : decode (jm_cod M_Bus_poke) 43 = .ok (.iload 4, 2) := dt_Bus_poke_c1 2
theorem d_Bus_poke_45 : decode (jm_cod M_Bus_poke) 45 = .ok (.ishl, 1) := dt_Bus_poke_c1 3
theorem d_Bus_poke_46 : decode (jm_cod M_Bus_poke) 46 = .ok (.invokevirtual 131, 3) := dt_Bus_poke_c1 4
theorem d_Bus_poke_49 : decode (jm_cod M_Bus_poke) 49 = .ok (.iload_n 3, 1) := dt_Bus_poke_c1 5
theorem d_Bus_poke_50 : decode (jm_cod M_Bus_poke) 50 = .ok (.ireturn, 1) := dt_Bus_poke_c1 6
def tab_Bus_laneBits_c0 : List (Nat × Instr × Nat) := [(0, .lconst 0, 1), (1, .lstore_n 1, 1), (2, .iconst 0, 1), (3, .istore_n 3, 1), (4, .iload_n 3, 1), (5, .bipush 8, 2), (7, .if_icmp .ge 29, 3), (10, .iload_n 0, 1), (11, .iload_n 3, 1), (12, .ishr, 1), (13, .iconst 1, 1), (14, .iand, 1), (15, .iconst 1, 1), (16, .if_icmp .ne 14, 3), (19, .lload_n 1, 1), (20, .ldc2_w 351, 3), (23, .bipush 8, 2), (25, .iload_n 3, 1), (26, .imul, 1), (27, .lshl, 1), (28, .lor, 1), (29, .lstore_n 1, 1), (30, .iinc 3 1, 3), (33, .goto (-29), 3)]
theorem dt_Bus_laneBits_c0 (i : Nat) : decode (jm_cod M_Bus_laneBits) (tab_Bus_laneBits_c0.getD i (0, .lconst 0, 1)).1 = .ok ((tab_Bus_laneBits_c0.getD i (0, .lconst 0, 1)).2.1, (tab_Bus_laneBits_c0.getD i (0, .lconst 0, 1)).2.2) := j_tab (by decide +kernel) i
theorem d_Bus_laneBits_0 : decode (jm_cod M_Bus_laneBits) 0 = .ok (.lconst 0, 1) := dt_Bus_laneBits_c0 0
theorem d_Bus_laneBits_1 : decode (jm_cod M_Bus_laneBits) 1 = .ok (.lstore_n 1, 1) := dt_Bus_laneBits_c0 1
theorem d_Bus_laneBits_2 : decode (jm_cod M_Bus_laneBits) 2 = .ok (.iconst 0, 1) := dt_Bus_laneBits_c0 2
theorem d_Bus_laneBits_3 : decode (jm_cod M_Bus_laneBits) 3 = .ok (.istore_n 3, 1) := dt_Bus_laneBits_c0 3
theorem d_Bus_laneBits_4 : decode (jm_cod M_Bus_laneBits) 4 = .ok (.iload_n 3, 1) := dt_Bus_laneBits_c0 4
theorem d_Bus_laneBits_5 : decode (jm_cod M_Bus_laneBits) 5 = .ok (.bipush 8, 2) := dt_Bus_laneBits_c0 5
theorem d_Bus_laneBits_7 : decode (jm_cod M_Bus_laneBits) 7 = .ok (.if_icmp .ge 29, 3) := dt_Bus_laneBits_c0 6
theorem d_Bus_laneBits_10 : decode (jm_cod M_Bus_laneBits) 10 = .ok (.iload_n 0, 1) := dt_Bus_laneBits_c0 7
theorem d_Bus_laneBits_11 : decode (jm_cod M_Bus_laneBits) 11 = .ok (.iload_n 3, 1) := dt_Bus_laneBits_c0 8
theorem d_Bus_laneBits_12 : decode (jm_cod M_Bus_laneBits) 12 = .ok (.ishr, 1) := dt_Bus_laneBits_c0 9
theorem d_Bus_laneBits_13 : decode (jm_cod M_Bus_laneBits) 13 = .ok (.iconst 1, 1) := dt_Bus_laneBits_c0 10
theorem d_Bus_laneBits_14 : decode (jm_cod M_Bus_laneBits) 14 = .ok (.iand, 1) := dt_Bus_laneBits_c0 11
theorem d_Bus_laneBits_15 : decode (jm_cod M_Bus_laneBits) 15 = .ok (.iconst 1, 1) := dt_Bus_laneBits_c0 12
theorem d_Bus_laneBits_16 : decode (jm_cod M_Bus_laneBits) 16 = .ok (.if_icmp .ne 14, 3) := dt_Bus_laneBits_c0 13
theorem d_Bus_laneBits_19 : decode (jm_cod M_Bus_laneBits) 19 = .ok (.lload_n 1, 1) := dt_Bus_laneBits_c0 14
theorem d_Bus_laneBits_20 : decode (jm_cod M_Bus_laneBits) 20 = .ok (.ldc2_w 351, 3) := dt_Bus_laneBits_c0 15
theorem d_Bus_laneBits_23 : decode (jm_cod M_Bus_laneBits) 23 = .ok (.bipush 8, 2) := dt_Bus_laneBits_c0 16
theorem d_Bus_laneBits_25 : decode (jm_cod M_Bus_laneBits) 25 = .ok (.iload_n 3, 1) := dt_Bus_laneBits_c0 17
theorem d_Bus_laneBits_26 : decode (jm_cod M_Bus_laneBits) 26 = .ok (.imul, 1) := dt_Bus_laneBits_c0 18
theorem d_Bus_laneBits_27 : decode (jm_cod M_Bus_laneBits) 27 = .ok (.lshl, 1) := dt_Bus_laneBits_c0 19
theorem d_Bus_laneBits_28 : decode (jm_cod M_Bus_laneBits) 28 = .ok (.lor, 1) := dt_Bus_laneBits_c0 20
theorem d_Bus_laneBits_29 : decode (jm_cod M_Bus_laneBits) 29 = .ok (.lstore_n 1, 1) := dt_Bus_laneBits_c0 21
theorem d_Bus_laneBits_30 : decode (jm_cod M_Bus_laneBits) 30 = .ok (.iinc 3 1, 3) := dt_Bus_laneBits_c0 22
theorem d_Bus_laneBits_33 : decode (jm_cod M_Bus_laneBits) 33 = .ok (.goto (-29), 3) := dt_Bus_laneBits_c0 23
def tab_Bus_laneBits_c1 : List (Nat × Instr × Nat) := [(36, .lload_n 1, 1), (37, .lreturn, 1)]
theorem dt_Bus_laneBits_c1 (i : Nat) : decode (jm_cod M_Bus_laneBits) (tab_Bus_laneBits_c1.getD i (36, .lload_n 1, 1)).1 = .ok ((tab_Bus_laneBits_c1.getD i (36, .lload_n 1, 1)).2.1, (tab_Bus_laneBits_c1.getD i (36, .lload_n 1, 1)).2.2) := j_tab (by decide +kernel) i
theorem d_Bus_laneBits_36 : decode (jm_cod M_Bus_laneBits) 36 = .ok (.lload_n 1, 1) := dt_Bus_laneBits_c1 0
theorem d_Bus_laneBits_37 : decode (jm_cod M_Bus_laneBits) 37 = .ok (.lreturn, 1) := dt_Bus_laneBits_c1 1
def tab_Bus_peek_c0 : List (Nat × Instr × Nat) := [(0, .iload_n 1, 1), (1, .ldc 112, 2), (3, .invokestatic 65, 3), (6, .aload_n 0, 1), (7, .getfield 16, 3), (10, .iload_n 1, 1), (11, .invokevirtual 127, 3), (14, .ireturn, 1)]
theorem dt_Bus_peek_c0 (i : Nat) : decode (jm_cod M_Bus_peek) (tab_Bus_peek_c0.getD i (0, .iload_n 1, 1)).1 = .ok ((tab_Bus_peek_c0.getD i (0, .iload_n 1, 1)).2.1, (tab_Bus_peek_c0.getD i (0, .iload_n 1, 1)).2.2) := j_tab (by decide +kernel) i
theorem d_Bus_peek_0 : decode (jm_cod M_Bus_peek) 0 = .ok (.iload_n 1, 1) := dt_Bus_peek_c0 0
theorem d_Bus_peek_1 : decode (jm_cod M_Bus_peek) 1 = .ok (.ldc 112, 2) := dt_Bus_peek_c0 1
theorem d_Bus_peek_3 : decode (jm_cod M_Bus_peek) 3 = .ok (.invokestatic 65, 3) := dt_Bus_peek_c0 2
theorem d_Bus_peek_6 : decode (jm_cod M_Bus_peek) 6 = .ok (.aload_n 0, 1) := dt_Bus_peek_c0 3
theorem d_Bus_peek_7 : decode (jm_cod M_Bus_peek) 7 = .ok (.getfield 16, 3) := dt_Bus_peek_c0 4
theorem d_Bus_peek_10 : decode (jm_cod M_Bus_peek) 10 = .ok (.iload_n 1, 1) := dt_Bus_peek_c0 5
theorem d_Bus_peek_11 : decode (jm_cod M_Bus_peek) 11 = .ok (.invokevirtual 127, 3) := dt_Bus_peek_c0 6
theorem d_Bus_peek_14 : decode (jm_cod M_Bus_peek) 14 = .ok (.ireturn, 1) := dt_Bus_peek_c0 7
def tab_Bus_request_c0 : List (Nat × Instr × Nat) := [(0, .iload_n 1, 1), (1, .aload_n 0, 1), (2, .getfield 31, 3), (5, .arraylength, 1), (6, .invokestatic 65, 3), (9, .iload_n 3, 1), (10, .ldc 112, 2), (12, .invokestatic 65, 3), (15, .iload_n 2, 1), (16, .iconst 0, 1), (17, .sipush 32767, 3), (20, .invokestatic 84, 3), (23, .iload 4, 2), (25, .iconst 0, 1), (26, .bipush 15, 2), (28, .invokestatic 84, 3), (31, .iload_n 2, 1), (32, .iload_n 3, 1), (33, .iload 4, 2), (35, .invokestatic 135, 3), (38, .lstore 7, 2), (40, .lload 7, 2), (42, .invokestatic 141, 3), (45, .ifCond .eq 13, 3)]
theorem dt_Bus_request_c0 (i : Nat) : decode (jm_cod M_Bus_request) (tab_Bus_request_c0.getD i (0, .iload_n 1, 1)).1 = .ok ((tab_Bus_request_c0.getD i (0, .iload_n 1, 1)).2.1, (tab_Bus_request_c0.getD i (0, .iload_n 1, 1)).2.2) := j_tab (by decide +kernel) i
theorem d_Bus_request_0 : decode (jm_cod M_Bus_request) 0 = .ok (.iload_n 1, 1) := dt_Bus_request_c0 0
theorem d_Bus_request_1 : decode (jm_cod M_Bus_request) 1 = .ok (.aload_n 0, 1) := dt_Bus_request_c0 1
theorem d_Bus_request_2 : decode (jm_cod M_Bus_request) 2 = .ok (.getfield 31, 3) := dt_Bus_request_c0 2
theorem d_Bus_request_5 : decode (jm_cod M_Bus_request) 5 = .ok (.arraylength, 1) := dt_Bus_request_c0 3
theorem d_Bus_request_6 : decode (jm_cod M_Bus_request) 6 = .ok (.invokestatic 65, 3) := dt_Bus_request_c0 4
theorem d_Bus_request_9 : decode (jm_cod M_Bus_request) 9 = .ok (.iload_n 3, 1) := dt_Bus_request_c0 5
theorem d_Bus_request_10 : decode (jm_cod M_Bus_request) 10 = .ok (.ldc 112, 2) := dt_Bus_request_c0 6
theorem d_Bus_request_12 : decode (jm_cod M_Bus_request) 12 = .ok (.invokestatic 65, 3) := dt_Bus_request_c0 7
theorem d_Bus_request_15 : decode (jm_cod M_Bus_request) 15 = .ok (.iload_n 2, 1) := dt_Bus_request_c0 8
theorem d_Bus_request_16 : decode (jm_cod M_Bus_request) 16 = .ok (.iconst 0, 1) := dt_Bus_request_c0 9
theorem d_Bus_request_17 : decode (jm_cod M_Bus_request) 17 = .ok (.sipush 32767, 3) := dt_Bus_request_c0 10
theorem d_Bus_request_20 : decode (jm_cod M_Bus_request) 20 = .ok (.invokestatic 84, 3) := dt_Bus_request_c0 11
theorem d_Bus_request_23 : decode (jm_cod M_Bus_request) 23 = .ok (.iload 4, 2) := dt_Bus_request_c0 12
theorem d_Bus_request_25 : decode (jm_cod M_Bus_request) 25 = .ok (.iconst 0, 1) := dt_Bus_request_c0 13
theorem d_Bus_request_26 : decode (jm_cod M_Bus_request) 26 = .ok (.bipush 15, 2) := dt_Bus_request_c0 14
theorem d_Bus_request_28 : decode (jm_cod M_Bus_request) 28 = .ok (.invokestatic 84, 3) := dt_Bus_request_c0 15
theorem d_Bus_request_31 : decode (jm_cod M_Bus_request) 31 = .ok (.iload_n 2, 1) := dt_Bus_request_c0 16
theorem d_Bus_request_32 : decode (jm_cod M_Bus_request) 32 = .ok (.iload_n 3, 1) := dt_Bus_request_c0 17
theorem d_Bus_request_33 : decode (jm_cod M_Bus_request) 33 = .ok (.iload 4, 2) := dt_Bus_request_c0 18
theorem d_Bus_request_35 : decode (jm_cod M_Bus_request) 35 = .ok (.invokestatic 135, 3) := dt_Bus_request_c0 19
theorem d_Bus_request_38 : decode (jm_cod M_Bus_request) 38 = .ok (.lstore 7, 2) := dt_Bus_request_c0 20
theorem d_Bus_request_40 : decode (jm_cod M_Bus_request) 40 = .ok (.lload 7, 2) := dt_Bus_request_c0 21
theorem d_Bus_request_42 : decode (jm_cod M_Bus_request) 42 = .ok (.invokestatic 141, 3) := dt_Bus_request_c0 22
theorem d_Bus_request_45 : decode (jm_cod M_Bus_request) 45 = .ok (.ifCond .eq 13, 3) := dt_Bus_request_c0 23
def tab_Bus_request_c1 : List (Nat × Instr × Nat) := [(48, .new 113, 3), (51, .dup, 1), (52, .ldc 145, 2), (54, .invokespecial 117, 3), (57, .athrow, 1), (58, .iload_n 2, 1), (59, .sipush 256, 3), (62, .iand, 1), (63, .ifCond .eq 7, 3), (66, .iconst 1, 1), (67, .goto 4, 3), (70, .iconst 0, 1), (71, .istore 9, 2), (73, .aload_n 0, 1), (74, .getfield 147, 3), (77, .bipush 64, 2), (79, .if_icmp .ge 17, 3), (82, .aload_n 0, 1), (83, .getfield 31, 3), (86, .iload_n 1, 1), (87, .aaload, 1), (88, .iload 9, 2), (90, .invokevirtual 150, 3), (93, .ifCond .ne 13, 3)]
theorem dt_Bus_request_c1 (i : Nat) : decode (jm_cod M_Bus_request) (tab_Bus_request_c1.getD i (48, .new 113, 3)).1 = .ok ((tab_Bus_request_c1.getD i (48, .new 113, 3)).2.1, (tab_Bus_request_c1.getD i (48, .new 113, 3)).2.2) := j_tab (by decide +kernel) i
theorem d_Bus_request_48 : decode (jm_cod M_Bus_request) 48 = .ok (.new 113, 3) := dt_Bus_request_c1 0
theorem d_Bus_request_51 : decode (jm_cod M_Bus_request) 51 = .ok (.dup, 1) := dt_Bus_request_c1 1
theorem d_Bus_request_52 : decode (jm_cod M_Bus_request) 52 = .ok (.ldc 145, 2) := dt_Bus_request_c1 2
theorem d_Bus_request_54 : decode (jm_cod M_Bus_request) 54 = .ok (.invokespecial 117, 3) := dt_Bus_request_c1 3
theorem d_Bus_request_57 : decode (jm_cod M_Bus_request) 57 = .ok (.athrow, 1) := dt_Bus_request_c1 4
theorem d_Bus_request_58 : decode (jm_cod M_Bus_request) 58 = .ok (.iload_n 2, 1) := dt_Bus_request_c1 5
theorem d_Bus_request_59 : decode (jm_cod M_Bus_request) 59 = .ok (.sipush 256, 3) := dt_Bus_request_c1 6
theorem d_Bus_request_62 : decode (jm_cod M_Bus_request) 62 = .ok (.iand, 1) := dt_Bus_request_c1 7
theorem d_Bus_request_63 : decode (jm_cod M_Bus_request) 63 = .ok (.ifCond .eq 7, 3) := dt_Bus_request_c1 8
theorem d_Bus_request_66 : decode (jm_cod M_Bus_request) 66 = .ok (.iconst 1, 1) := dt_Bus_request_c1 9
theorem d_Bus_request_67 : decode (jm_cod M_Bus_request) 67 = .ok (.goto 4, 3) := dt_Bus_request_c1 10
theorem d_Bus_request_70 : decode (jm_cod M_Bus_request) 70 = .ok (.iconst 0, 1) := dt_Bus_request_c1 11
theorem d_Bus_request_71 : decode (jm_cod M_Bus_request) 71 = .ok (.istore 9, 2) := dt_Bus_request_c1 12
theorem d_Bus_request_73 : decode (jm_cod M_Bus_request) 73 = .ok (.aload_n 0, 1) := dt_Bus_request_c1 13
theorem d_Bus_request_74 : decode (jm_cod M_Bus_request) 74 = .ok (.getfield 147, 3) := dt_Bus_request_c1 14
theorem d_Bus_request_77 : decode (jm_cod M_Bus_request) 77 = .ok (.bipush 64, 2) := dt_Bus_request_c1 15
theorem d_Bus_request_79 : decode (jm_cod M_Bus_request) 79 = .ok (.if_icmp .ge 17, 3) := dt_Bus_request_c1 16
theorem d_Bus_request_82 : decode (jm_cod M_Bus_request) 82 = .ok (.aload_n 0, 1) := dt_Bus_request_c1 17
theorem d_Bus_request_83 : decode (jm_cod M_Bus_request) 83 = .ok (.getfield 31, 3) := dt_Bus_request_c1 18
theorem d_Bus_request_86 : decode (jm_cod M_Bus_request) 86 = .ok (.iload_n 1, 1) := dt_Bus_request_c1 19
theorem d_Bus_request_87 : decode (jm_cod M_Bus_request) 87 = .ok (.aaload, 1) := dt_Bus_request_c1 20
theorem d_Bus_request_88 : decode (jm_cod M_Bus_request) 88 = .ok (.iload 9, 2) := dt_Bus_request_c1 21
theorem d_Bus_request_90 : decode (jm_cod M_Bus_request) 90 = .ok (.invokevirtual 150, 3) := dt_Bus_request_c1 22
theorem d_Bus_request_93 : decode (jm_cod M_Bus_request) 93 = .ok (.ifCond .ne 13, 3) := dt_Bus_request_c1 23
def tab_Bus_request_c2 : List (Nat × Instr × Nat) := [(96, .new 154, 3), (99, .dup, 1), (100, .ldc 156, 2), (102, .invokespecial 158, 3), (105, .athrow, 1), (106, .aload_n 0, 1), (107, .getfield 60, 3), (110, .aload_n 0, 1), (111, .getfield 147, 3), (114, .aaload, 1), (115, .astore 10, 2), (117, .aload 10, 2), (119, .lload 7, 2), (121, .iload 9, 2), (123, .aload_n 0, 1), (124, .getfield 159, 3), (127, .invokevirtual 162, 3), (130, .iload 9, 2), (132, .ifCond .eq 26, 3), (135, .aload 10, 2), (137, .getfield 166, 3), (140, .lload 5, 2), (142, .iload_n 2, 1), (143, .sipush 1024, 3)]
theorem dt_Bus_request_c2 (i : Nat) : decode (jm_cod M_Bus_request) (tab_Bus_request_c2.getD i (96, .new 154, 3)).1 = .ok ((tab_Bus_request_c2.getD i (96, .new 154, 3)).2.1, (tab_Bus_request_c2.getD i (96, .new 154, 3)).2.2) := j_tab (by decide +kernel) i
theorem d_Bus_request_96 : decode (jm_cod M_Bus_request) 96 = .ok (.new 154, 3) := dt_Bus_request_c2 0
theorem d_Bus_request_99 : decode (jm_cod M_Bus_request) 99 = .ok (.dup, 1) := dt_Bus_request_c2 1
theorem d_Bus_request_100 : decode (jm_cod M_Bus_request) 100 = .ok (.ldc 156, 2) := dt_Bus_request_c2 2
theorem d_Bus_request_102 : decode (jm_cod M_Bus_request) 102 = .ok (.invokespecial 158, 3) := dt_Bus_request_c2 3
theorem d_Bus_request_105 : decode (jm_cod M_Bus_request) 105 = .ok (.athrow, 1) := dt_Bus_request_c2 4
theorem d_Bus_request_106 : decode (jm_cod M_Bus_request) 106 = .ok (.aload_n 0, 1) := dt_Bus_request_c2 5
theorem d_Bus_request_107 : decode (jm_cod M_Bus_request) 107 = .ok (.getfield 60, 3) := dt_Bus_request_c2 6
theorem d_Bus_request_110 : decode (jm_cod M_Bus_request) 110 = .ok (.aload_n 0, 1) := dt_Bus_request_c2 7
theorem d_Bus_request_111 : decode (jm_cod M_Bus_request) 111 = .ok (.getfield 147, 3) := dt_Bus_request_c2 8
theorem d_Bus_request_114 : decode (jm_cod M_Bus_request) 114 = .ok (.aaload, 1) := dt_Bus_request_c2 9
theorem d_Bus_request_115 : decode (jm_cod M_Bus_request) 115 = .ok (.astore 10, 2) := dt_Bus_request_c2 10
theorem d_Bus_request_117 : decode (jm_cod M_Bus_request) 117 = .ok (.aload 10, 2) := dt_Bus_request_c2 11
theorem d_Bus_request_119 : decode (jm_cod M_Bus_request) 119 = .ok (.lload 7, 2) := dt_Bus_request_c2 12
theorem d_Bus_request_121 : decode (jm_cod M_Bus_request) 121 = .ok (.iload 9, 2) := dt_Bus_request_c2 13
theorem d_Bus_request_123 : decode (jm_cod M_Bus_request) 123 = .ok (.aload_n 0, 1) := dt_Bus_request_c2 14
theorem d_Bus_request_124 : decode (jm_cod M_Bus_request) 124 = .ok (.getfield 159, 3) := dt_Bus_request_c2 15
theorem d_Bus_request_127 : decode (jm_cod M_Bus_request) 127 = .ok (.invokevirtual 162, 3) := dt_Bus_request_c2 16
theorem d_Bus_request_130 : decode (jm_cod M_Bus_request) 130 = .ok (.iload 9, 2) := dt_Bus_request_c2 17
theorem d_Bus_request_132 : decode (jm_cod M_Bus_request) 132 = .ok (.ifCond .eq 26, 3) := dt_Bus_request_c2 18
theorem d_Bus_request_135 : decode (jm_cod M_Bus_request) 135 = .ok (.aload 10, 2) := dt_Bus_request_c2 19
theorem d_Bus_request_137 : decode (jm_cod M_Bus_request) 137 = .ok (.getfield 166, 3) := dt_Bus_request_c2 20
theorem d_Bus_request_140 : decode (jm_cod M_Bus_request) 140 = .ok (.lload 5, 2) := dt_Bus_request_c2 21
theorem d_Bus_request_142 : decode (jm_cod M_Bus_request) 142 = .ok (.iload_n 2, 1) := dt_Bus_request_c2 22
theorem d_Bus_request_143 : decode (jm_cod M_Bus_request) 143 = .ok (.sipush 1024, 3) := dt_Bus_request_c2 23
def tab_Bus_request_c3 : List (Nat × Instr × Nat) := [(146, .iand, 1), (147, .ifCond .eq 7, 3), (150, .iconst 1, 1), (151, .goto 4, 3), (154, .iconst 0, 1), (155, .invokevirtual 170, 3), (158, .aload_n 0, 1), (159, .getfield 31, 3), (162, .iload_n 1, 1), (163, .aaload, 1), (164, .aload 10, 2), (166, .invokevirtual 174, 3), (169, .aload_n 0, 1), (170, .dup, 1), (171, .getfield 147, 3), (174, .iconst 1, 1), (175, .iadd, 1), (176, .putfield 147, 3), (179, .aload_n 0, 1), (180, .getfield 147, 3), (183, .iconst 1, 1), (184, .isub, 1), (185, .ireturn, 1)]
theorem dt_Bus_request_c3 (i : Nat) : decode (jm_cod M_Bus_request) (tab_Bus_request_c3.getD i (146, .iand, 1)).1 = .ok ((tab_Bus_request_c3.getD i (146, .iand, 1)).2.1, (tab_Bus_request_c3.getD i (146, .iand, 1)).2.2) := j_tab (by decide +kernel) i
theorem d_Bus_request_146 : decode (jm_cod M_Bus_request) 146 = .ok (.iand, 1) := dt_Bus_request_c3 0
theorem d_Bus_request_147 : decode (jm_cod M_Bus_request) 147 = .ok (.ifCond .eq 7, 3) := dt_Bus_request_c3 1
theorem d_Bus_request_150 : decode (jm_cod M_Bus_request) 150 = .ok (.iconst 1, 1) := dt_Bus_request_c3 2
theorem d_Bus_request_151 : decode (jm_cod M_Bus_request) 151 = .ok (.goto 4, 3) := dt_Bus_request_c3 3
theorem d_Bus_request_154 : decode (jm_cod M_Bus_request) 154 = .ok (.iconst 0, 1) := dt_Bus_request_c3 4
theorem d_Bus_request_155 : decode (jm_cod M_Bus_request) 155 = .ok (.invokevirtual 170, 3) := dt_Bus_request_c3 5
theorem d_Bus_request_158 : decode (jm_cod M_Bus_request) 158 = .ok (.aload_n 0, 1) := dt_Bus_request_c3 6
theorem d_Bus_request_159 : decode (jm_cod M_Bus_request) 159 = .ok (.getfield 31, 3) := dt_Bus_request_c3 7
theorem d_Bus_request_162 : decode (jm_cod M_Bus_request) 162 = .ok (.iload_n 1, 1) := dt_Bus_request_c3 8
theorem d_Bus_request_163 : decode (jm_cod M_Bus_request) 163 = .ok (.aaload, 1) := dt_Bus_request_c3 9
theorem d_Bus_request_164 : decode (jm_cod M_Bus_request) 164 = .ok (.aload 10, 2) := dt_Bus_request_c3 10
theorem d_Bus_request_166 : decode (jm_cod M_Bus_request) 166 = .ok (.invokevirtual 174, 3) := dt_Bus_request_c3 11
theorem d_Bus_request_169 : decode (jm_cod M_Bus_request) 169 = .ok (.aload_n 0, 1) := dt_Bus_request_c3 12
theorem d_Bus_request_170 : decode (jm_cod M_Bus_request) 170 = .ok (.dup, 1) := dt_Bus_request_c3 13
theorem d_Bus_request_171 : decode (jm_cod M_Bus_request) 171 = .ok (.getfield 147, 3) := dt_Bus_request_c3 14
theorem d_Bus_request_174 : decode (jm_cod M_Bus_request) 174 = .ok (.iconst 1, 1) := dt_Bus_request_c3 15
theorem d_Bus_request_175 : decode (jm_cod M_Bus_request) 175 = .ok (.iadd, 1) := dt_Bus_request_c3 16
theorem d_Bus_request_176 : decode (jm_cod M_Bus_request) 176 = .ok (.putfield 147, 3) := dt_Bus_request_c3 17
theorem d_Bus_request_179 : decode (jm_cod M_Bus_request) 179 = .ok (.aload_n 0, 1) := dt_Bus_request_c3 18
theorem d_Bus_request_180 : decode (jm_cod M_Bus_request) 180 = .ok (.getfield 147, 3) := dt_Bus_request_c3 19
theorem d_Bus_request_183 : decode (jm_cod M_Bus_request) 183 = .ok (.iconst 1, 1) := dt_Bus_request_c3 20
theorem d_Bus_request_184 : decode (jm_cod M_Bus_request) 184 = .ok (.isub, 1) := dt_Bus_request_c3 21
theorem d_Bus_request_185 : decode (jm_cod M_Bus_request) 185 = .ok (.ireturn, 1) := dt_Bus_request_c3 22
def tab_Bus_tick_c0 : List (Nat × Instr × Nat) := [(0, .iload_n 1, 1), (1, .iconst 1, 1), (2, .bipush 100, 2), (4, .invokestatic 84, 3), (7, .aload_n 0, 1), (8, .iload_n 1, 1), (9, .iconst 0, 1), (10, .invokevirtual 178, 3), (13, .ireturn, 1)]
theorem dt_Bus_tick_c0 (i : Nat) : decode (jm_cod M_Bus_tick) (tab_Bus_tick_c0.getD i (0, .iload_n 1, 1)).1 = .ok ((tab_Bus_tick_c0.getD i (0, .iload_n 1, 1)).2.1, (tab_Bus_tick_c0.getD i (0, .iload_n 1, 1)).2.2) := j_tab (by decide +kernel) i
theorem d_Bus_tick_0 : decode (jm_cod M_Bus_tick) 0 = .ok (.iload_n 1, 1) := dt_Bus_tick_c0 0
theorem d_Bus_tick_1 : decode (jm_cod M_Bus_tick) 1 = .ok (.iconst 1, 1) := dt_Bus_tick_c0 1
theorem d_Bus_tick_2 : decode (jm_cod M_Bus_tick) 2 = .ok (.bipush 100, 2) := dt_Bus_tick_c0 2
theorem d_Bus_tick_4 : decode (jm_cod M_Bus_tick) 4 = .ok (.invokestatic 84, 3) := dt_Bus_tick_c0 3
theorem d_Bus_tick_7 : decode (jm_cod M_Bus_tick) 7 = .ok (.aload_n 0, 1) := dt_Bus_tick_c0 4
theorem d_Bus_tick_8 : decode (jm_cod M_Bus_tick) 8 = .ok (.iload_n 1, 1) := dt_Bus_tick_c0 5
theorem d_Bus_tick_9 : decode (jm_cod M_Bus_tick) 9 = .ok (.iconst 0, 1) := dt_Bus_tick_c0 6
theorem d_Bus_tick_10 : decode (jm_cod M_Bus_tick) 10 = .ok (.invokevirtual 178, 3) := dt_Bus_tick_c0 7
theorem d_Bus_tick_13 : decode (jm_cod M_Bus_tick) 13 = .ok (.ireturn, 1) := dt_Bus_tick_c0 8
def tab_Bus_runTicks_c0 : List (Nat × Instr × Nat) := [(0, .iconst 0, 1), (1, .istore_n 3, 1), (2, .iconst 0, 1), (3, .istore 4, 2), (5, .iload 4, 2), (7, .iload_n 1, 1), (8, .if_icmp .ge 216, 3), (11, .iload_n 2, 1), (12, .ifCond .eq 10, 3), (15, .aload_n 0, 1), (16, .invokevirtual 69, 3), (19, .ifCond .eq 205, 3), (22, .iconst 0, 1), (23, .istore 5, 2), (25, .iload 5, 2), (27, .aload_n 0, 1), (28, .getfield 31, 3), (31, .arraylength, 1), (32, .if_icmp .ge 76, 3), (35, .aload_n 0, 1), (36, .getfield 37, 3), (39, .iload 5, 2), (41, .aaload, 1), (42, .invokevirtual 295, 3)]
theorem dt_Bus_runTicks_c0 (i : Nat) : decode (jm_cod M_Bus_runTicks) (tab_Bus_runTicks_c0.getD i (0, .iconst 0, 1)).1 = .ok ((tab_Bus_runTicks_c0.getD i (0, .iconst 0, 1)).2.1, (tab_Bus_runTicks_c0.getD i (0, .iconst 0, 1)).2.2) := j_tab (by decide +kernel) i
theorem d_Bus_runTicks_0 : decode (jm_cod M_Bus_runTicks) 0 = .ok (.iconst 0, 1) := dt_Bus_runTicks_c0 0
theorem d_Bus_runTicks_1 : decode (jm_cod M_Bus_runTicks) 1 = .ok (.istore_n 3, 1) := dt_Bus_runTicks_c0 1
theorem d_Bus_runTicks_2 : decode (jm_cod M_Bus_runTicks) 2 = .ok (.iconst 0, 1) := dt_Bus_runTicks_c0 2
theorem d_Bus_runTicks_3 : decode (jm_cod M_Bus_runTicks) 3 = .ok (.istore 4, 2) := dt_Bus_runTicks_c0 3
theorem d_Bus_runTicks_5 : decode (jm_cod M_Bus_runTicks) 5 = .ok (.iload 4, 2) := dt_Bus_runTicks_c0 4
theorem d_Bus_runTicks_7 : decode (jm_cod M_Bus_runTicks) 7 = .ok (.iload_n 1, 1) := dt_Bus_runTicks_c0 5
theorem d_Bus_runTicks_8 : decode (jm_cod M_Bus_runTicks) 8 = .ok (.if_icmp .ge 216, 3) := dt_Bus_runTicks_c0 6
theorem d_Bus_runTicks_11 : decode (jm_cod M_Bus_runTicks) 11 = .ok (.iload_n 2, 1) := dt_Bus_runTicks_c0 7
theorem d_Bus_runTicks_12 : decode (jm_cod M_Bus_runTicks) 12 = .ok (.ifCond .eq 10, 3) := dt_Bus_runTicks_c0 8
theorem d_Bus_runTicks_15 : decode (jm_cod M_Bus_runTicks) 15 = .ok (.aload_n 0, 1) := dt_Bus_runTicks_c0 9
theorem d_Bus_runTicks_16 : decode (jm_cod M_Bus_runTicks) 16 = .ok (.invokevirtual 69, 3) := dt_Bus_runTicks_c0 10
theorem d_Bus_runTicks_19 : decode (jm_cod M_Bus_runTicks) 19 = .ok (.ifCond .eq 205, 3) := dt_Bus_runTicks_c0 11
theorem d_Bus_runTicks_22 : decode (jm_cod M_Bus_runTicks) 22 = .ok (.iconst 0, 1) := dt_Bus_runTicks_c0 12
theorem d_Bus_runTicks_23 : decode (jm_cod M_Bus_runTicks) 23 = .ok (.istore 5, 2) := dt_Bus_runTicks_c0 13
theorem d_Bus_runTicks_25 : decode (jm_cod M_Bus_runTicks) 25 = .ok (.iload 5, 2) := dt_Bus_runTicks_c0 14
theorem d_Bus_runTicks_27 : decode (jm_cod M_Bus_runTicks) 27 = .ok (.aload_n 0, 1) := dt_Bus_runTicks_c0 15
theorem d_Bus_runTicks_28 : decode (jm_cod M_Bus_runTicks) 28 = .ok (.getfield 31, 3) := dt_Bus_runTicks_c0 16
theorem d_Bus_runTicks_31 : decode (jm_cod M_Bus_runTicks) 31 = .ok (.arraylength, 1) := dt_Bus_runTicks_c0 17
theorem d_Bus_runTicks_32 : decode (jm_cod M_Bus_runTicks) 32 = .ok (.if_icmp .ge 76, 3) := dt_Bus_runTicks_c0 18
theorem d_Bus_runTicks_35 : decode (jm_cod M_Bus_runTicks) 35 = .ok (.aload_n 0, 1) := dt_Bus_runTicks_c0 19
theorem d_Bus_runTicks_36 : decode (jm_cod M_Bus_runTicks) 36 = .ok (.getfield 37, 3) := dt_Bus_runTicks_c0 20
theorem d_Bus_runTicks_39 : decode (jm_cod M_Bus_runTicks) 39 = .ok (.iload 5, 2) := dt_Bus_runTicks_c0 21
theorem d_Bus_runTicks_41 : decode (jm_cod M_Bus_runTicks) 41 = .ok (.aaload, 1) := dt_Bus_runTicks_c0 22
theorem d_Bus_runTicks_42 : decode (jm_cod M_Bus_runTicks) 42 = .ok (.invokevirtual 295, 3) := dt_Bus_runTicks_c0 23
def tab_Bus_runTicks_c1 : List (Nat × Instr × Nat) := [(45, .aload_n 0, 1), (46, .getfield 31, 3), (49, .iload 5, 2), (51, .aaload, 1), (52, .aload_n 0, 1), (53, .getfield 37, 3), (56, .iload 5, 2), (58, .aaload, 1), (59, .aload_n 0, 1), (60, .getfield 159, 3), (63, .invokevirtual 298, 3), (66, .aload_n 0, 1), (67, .getfield 25, 3), (70, .aload_n 0, 1), (71, .getfield 37, 3), (74, .iload 5, 2), (76, .aaload, 1), (77, .iload 5, 2), (79, .invokevirtual 302, 3), (82, .aload_n 0, 1), (83, .getfield 37, 3), (86, .iload 5, 2), (88, .aaload, 1), (89, .getfield 234, 3)]
theorem dt_Bus_runTicks_c1 (i : Nat) : decode (jm_cod M_Bus_runTicks) (tab_Bus_runTicks_c1.getD i (45, .aload_n 0, 1)).1 = .ok ((tab_Bus_runTicks_c1.getD i (45, .aload_n 0, 1)).2.1, (tab_Bus_runTicks_c1.getD i (45, .aload_n 0, 1)).2.2) := j_tab (by decide +kernel) i
theorem d_Bus_runTicks_45 : decode (jm_cod M_Bus_runTicks) 45 = .ok (.aload_n 0, 1) := dt_Bus_runTicks_c1 0
theorem d_Bus_runTicks_46 : decode (jm_cod M_Bus_runTicks) 46 = .ok (.getfield 31, 3) := dt_Bus_runTicks_c1 1
theorem d_Bus_runTicks_49 : decode (jm_cod M_Bus_runTicks) 49 = .ok (.iload 5, 2) := dt_Bus_runTicks_c1 2
theorem d_Bus_runTicks_51 : decode (jm_cod M_Bus_runTicks) 51 = .ok (.aaload, 1) := dt_Bus_runTicks_c1 3
theorem d_Bus_runTicks_52 : decode (jm_cod M_Bus_runTicks) 52 = .ok (.aload_n 0, 1) := dt_Bus_runTicks_c1 4
theorem d_Bus_runTicks_53 : decode (jm_cod M_Bus_runTicks) 53 = .ok (.getfield 37, 3) := dt_Bus_runTicks_c1 5
theorem d_Bus_runTicks_56 : decode (jm_cod M_Bus_runTicks) 56 = .ok (.iload 5, 2) := dt_Bus_runTicks_c1 6
theorem d_Bus_runTicks_58 : decode (jm_cod M_Bus_runTicks) 58 = .ok (.aaload, 1) := dt_Bus_runTicks_c1 7
theorem d_Bus_runTicks_59 : decode (jm_cod M_Bus_runTicks) 59 = .ok (.aload_n 0, 1) := dt_Bus_runTicks_c1 8
theorem d_Bus_runTicks_60 : decode (jm_cod M_Bus_runTicks) 60 = .ok (.getfield 159, 3) := dt_Bus_runTicks_c1 9
theorem d_Bus_runTicks_63 : decode (jm_cod M_Bus_runTicks) 63 = .ok (.invokevirtual 298, 3) := dt_Bus_runTicks_c1 10
theorem d_Bus_runTicks_66 : decode (jm_cod M_Bus_runTicks) 66 = .ok (.aload_n 0, 1) := dt_Bus_runTicks_c1 11
theorem d_Bus_runTicks_67 : decode (jm_cod M_Bus_runTicks) 67 = .ok (.getfield 25, 3) := dt_Bus_runTicks_c1 12
theorem d_Bus_runTicks_70 : decode (jm_cod M_Bus_runTicks) 70 = .ok (.aload_n 0, 1) := dt_Bus_runTicks_c1 13
theorem d_Bus_runTicks_71 : decode (jm_cod M_Bus_runTicks) 71 = .ok (.getfield 37, 3) := dt_Bus_runTicks_c1 14
theorem d_Bus_runTicks_74 : decode (jm_cod M_Bus_runTicks) 74 = .ok (.iload 5, 2) := dt_Bus_runTicks_c1 15
theorem d_Bus_runTicks_76 : decode (jm_cod M_Bus_runTicks) 76 = .ok (.aaload, 1) := dt_Bus_runTicks_c1 16
theorem d_Bus_runTicks_77 : decode (jm_cod M_Bus_runTicks) 77 = .ok (.iload 5, 2) := dt_Bus_runTicks_c1 17
theorem d_Bus_runTicks_79 : decode (jm_cod M_Bus_runTicks) 79 = .ok (.invokevirtual 302, 3) := dt_Bus_runTicks_c1 18
theorem d_Bus_runTicks_82 : decode (jm_cod M_Bus_runTicks) 82 = .ok (.aload_n 0, 1) := dt_Bus_runTicks_c1 19
theorem d_Bus_runTicks_83 : decode (jm_cod M_Bus_runTicks) 83 = .ok (.getfield 37, 3) := dt_Bus_runTicks_c1 20
theorem d_Bus_runTicks_86 : decode (jm_cod M_Bus_runTicks) 86 = .ok (.iload 5, 2) := dt_Bus_runTicks_c1 21
theorem d_Bus_runTicks_88 : decode (jm_cod M_Bus_runTicks) 88 = .ok (.aaload, 1) := dt_Bus_runTicks_c1 22
theorem d_Bus_runTicks_89 : decode (jm_cod M_Bus_runTicks) 89 = .ok (.getfield 234, 3) := dt_Bus_runTicks_c1 23
def tab_Bus_runTicks_c2 : List (Nat × Instr × Nat) := [(92, .aload_n 0, 1), (93, .getfield 37, 3), (96, .iload 5, 2), (98, .aaload, 1), (99, .invokevirtual 271, 3), (102, .iinc 5 1, 3), (105, .goto (-80), 3), (108, .iconst 0, 1), (109, .istore 5, 2), (111, .iload 5, 2), (113, .aload_n 0, 1), (114, .getfield 45, 3), (117, .arraylength, 1), (118, .if_icmp .ge 76, 3), (121, .aload_n 0, 1), (122, .getfield 49, 3), (125, .iload 5, 2), (127, .aaload, 1), (128, .invokevirtual 295, 3), (131, .aload_n 0, 1), (132, .getfield 45, 3), (135, .iload 5, 2), (137, .aaload, 1), (138, .aload_n 0, 1)]
theorem dt_Bus_runTicks_c2 (i : Nat) : decode (jm_cod M_Bus_runTicks) (tab_Bus_runTicks_c2.getD i (92, .aload_n 0, 1)).1 = .ok ((tab_Bus_runTicks_c2.getD i (92, .aload_n 0, 1)).2.1, (tab_Bus_runTicks_c2.getD i (92, .aload_n 0, 1)).2.2) := j_tab (by decide +kernel) i
theorem d_Bus_runTicks_92 : decode (jm_cod M_Bus_runTicks) 92 = .ok (.aload_n 0, 1) := dt_Bus_runTicks_c2 0
theorem d_Bus_runTicks_93 : decode (jm_cod M_Bus_runTicks) 93 = .ok (.getfield 37, 3) := dt_Bus_runTicks_c2 1
theorem d_Bus_runTicks_96 : decode (jm_cod M_Bus_runTicks) 96 = .ok (.iload 5, 2) := dt_Bus_runTicks_c2 2
theorem d_Bus_runTicks_98 : decode (jm_cod M_Bus_runTicks) 98 = .ok (.aaload, 1) := dt_Bus_runTicks_c2 3
theorem d_Bus_runTicks_99 : decode (jm_cod M_Bus_runTicks) 99 = .ok (.invokevirtual 271, 3) := dt_Bus_runTicks_c2 4
theorem d_Bus_runTicks_102 : decode (jm_cod M_Bus_runTicks) 102 = .ok (.iinc 5 1, 3) := dt_Bus_runTicks_c2 5
theorem d_Bus_runTicks_105 : decode (jm_cod M_Bus_runTicks) 105 = .ok (.goto (-80), 3) := dt_Bus_runTicks_c2 6
theorem d_Bus_runTicks_108 : decode (jm_cod M_Bus_runTicks) 108 = .ok (.iconst 0, 1) := dt_Bus_runTicks_c2 7
theorem d_Bus_runTicks_109 : decode (jm_cod M_Bus_runTicks) 109 = .ok (.istore 5, 2) := dt_Bus_runTicks_c2 8
theorem d_Bus_runTicks_111 : decode (jm_cod M_Bus_runTicks) 111 = .ok (.iload 5, 2) := dt_Bus_runTicks_c2 9
theorem d_Bus_runTicks_113 : decode (jm_cod M_Bus_runTicks) 113 = .ok (.aload_n 0, 1) := dt_Bus_runTicks_c2 10
theorem d_Bus_runTicks_114 : decode (jm_cod M_Bus_runTicks) 114 = .ok (.getfield 45, 3) := dt_Bus_runTicks_c2 11
theorem d_Bus_runTicks_117 : decode (jm_cod M_Bus_runTicks) 117 = .ok (.arraylength, 1) := dt_Bus_runTicks_c2 12
theorem d_Bus_runTicks_118 : decode (jm_cod M_Bus_runTicks) 118 = .ok (.if_icmp .ge 76, 3) := dt_Bus_runTicks_c2 13
theorem d_Bus_runTicks_121 : decode (jm_cod M_Bus_runTicks) 121 = .ok (.aload_n 0, 1) := dt_Bus_runTicks_c2 14
theorem d_Bus_runTicks_122 : decode (jm_cod M_Bus_runTicks) 122 = .ok (.getfield 49, 3) := dt_Bus_runTicks_c2 15
theorem d_Bus_runTicks_125 : decode (jm_cod M_Bus_runTicks) 125 = .ok (.iload 5, 2) := dt_Bus_runTicks_c2 16
theorem d_Bus_runTicks_127 : decode (jm_cod M_Bus_runTicks) 127 = .ok (.aaload, 1) := dt_Bus_runTicks_c2 17
theorem d_Bus_runTicks_128 : decode (jm_cod M_Bus_runTicks) 128 = .ok (.invokevirtual 295, 3) := dt_Bus_runTicks_c2 18
theorem d_Bus_runTicks_131 : decode (jm_cod M_Bus_runTicks) 131 = .ok (.aload_n 0, 1) := dt_Bus_runTicks_c2 19
theorem d_Bus_runTicks_132 : decode (jm_cod M_Bus_runTicks) 132 = .ok (.getfield 45, 3) := dt_Bus_runTicks_c2 20
theorem d_Bus_runTicks_135 : decode (jm_cod M_Bus_runTicks) 135 = .ok (.iload 5, 2) := dt_Bus_runTicks_c2 21
theorem d_Bus_runTicks_137 : decode (jm_cod M_Bus_runTicks) 137 = .ok (.aaload, 1) := dt_Bus_runTicks_c2 22
theorem d_Bus_runTicks_138 : decode (jm_cod M_Bus_runTicks) 138 = .ok (.aload_n 0, 1) := dt_Bus_runTicks_c2 23
def tab_Bus_runTicks_c3 : List (Nat × Instr × Nat) := [(139, .getfield 49, 3), (142, .iload 5, 2), (144, .aaload, 1), (145, .aload_n 0, 1), (146, .getfield 159, 3), (149, .invokevirtual 305, 3), (152, .aload_n 0, 1), (153, .getfield 25, 3), (156, .aload_n 0, 1), (157, .getfield 49, 3), (160, .iload 5, 2), (162, .aaload, 1), (163, .iload 5, 2), (165, .invokevirtual 306, 3), (168, .aload_n 0, 1), (169, .getfield 49, 3), (172, .iload 5, 2), (174, .aaload, 1), (175, .getfield 234, 3), (178, .aload_n 0, 1), (179, .getfield 49, 3), (182, .iload 5, 2), (184, .aaload, 1), (185, .invokevirtual 271, 3)]
theorem dt_Bus_runTicks_c3 (i : Nat) : decode (jm_cod M_Bus_runTicks) (tab_Bus_runTicks_c3.getD i (139, .getfield 49, 3)).1 = .ok ((tab_Bus_runTicks_c3.getD i (139, .getfield 49, 3)).2.1, (tab_Bus_runTicks_c3.getD i (139, .getfield 49, 3)).2.2) := j_tab (by decide +kernel) i
theorem d_Bus_runTicks_139 : decode (jm_cod M_Bus_runTicks) 139 = .ok (.getfield 49, 3) := dt_Bus_runTicks_c3 0
theorem d_Bus_runTicks_142 : decode (jm_cod M_Bus_runTicks) 142 = .ok (.iload 5, 2) := dt_Bus_runTicks_c3 1
theorem d_Bus_runTicks_144 : decode (jm_cod M_Bus_runTicks) 144 = .ok (.aaload, 1) := dt_Bus_runTicks_c3 2
theorem d_Bus_runTicks_145 : decode (jm_cod M_Bus_runTicks) 145 = .ok (.aload_n 0, 1) := dt_Bus_runTicks_c3 3
theorem d_Bus_runTicks_146 : decode (jm_cod M_Bus_runTicks) 146 = .ok (.getfield 159, 3) := dt_Bus_runTicks_c3 4
theorem d_Bus_runTicks_149 : decode (jm_cod M_Bus_runTicks) 149 = .ok (.invokevirtual 305, 3) := dt_Bus_runTicks_c3 5
theorem d_Bus_runTicks_152 : decode (jm_cod M_Bus_runTicks) 152 = .ok (.aload_n 0, 1) := dt_Bus_runTicks_c3 6
theorem d_Bus_runTicks_153 : decode (jm_cod M_Bus_runTicks) 153 = .ok (.getfield 25, 3) := dt_Bus_runTicks_c3 7
theorem d_Bus_runTicks_156 : decode (jm_cod M_Bus_runTicks) 156 = .ok (.aload_n 0, 1) := dt_Bus_runTicks_c3 8
theorem d_Bus_runTicks_157 : decode (jm_cod M_Bus_runTicks) 157 = .ok (.getfield 49, 3) := dt_Bus_runTicks_c3 9
theorem d_Bus_runTicks_160 : decode (jm_cod M_Bus_runTicks) 160 = .ok (.iload 5, 2) := dt_Bus_runTicks_c3 10
theorem d_Bus_runTicks_162 : decode (jm_cod M_Bus_runTicks) 162 = .ok (.aaload, 1) := dt_Bus_runTicks_c3 11
theorem d_Bus_runTicks_163 : decode (jm_cod M_Bus_runTicks) 163 = .ok (.iload 5, 2) := dt_Bus_runTicks_c3 12
theorem d_Bus_runTicks_165 : decode (jm_cod M_Bus_runTicks) 165 = .ok (.invokevirtual 306, 3) := dt_Bus_runTicks_c3 13
theorem d_Bus_runTicks_168 : decode (jm_cod M_Bus_runTicks) 168 = .ok (.aload_n 0, 1) := dt_Bus_runTicks_c3 14
theorem d_Bus_runTicks_169 : decode (jm_cod M_Bus_runTicks) 169 = .ok (.getfield 49, 3) := dt_Bus_runTicks_c3 15
theorem d_Bus_runTicks_172 : decode (jm_cod M_Bus_runTicks) 172 = .ok (.iload 5, 2) := dt_Bus_runTicks_c3 16
theorem d_Bus_runTicks_174 : decode (jm_cod M_Bus_runTicks) 174 = .ok (.aaload, 1) := dt_Bus_runTicks_c3 17
theorem d_Bus_runTicks_175 : decode (jm_cod M_Bus_runTicks) 175 = .ok (.getfield 234, 3) := dt_Bus_runTicks_c3 18
theorem d_Bus_runTicks_178 : decode (jm_cod M_Bus_runTicks) 178 = .ok (.aload_n 0, 1) := dt_Bus_runTicks_c3 19
theorem d_Bus_runTicks_179 : decode (jm_cod M_Bus_runTicks) 179 = .ok (.getfield 49, 3) := dt_Bus_runTicks_c3 20
theorem d_Bus_runTicks_182 : decode (jm_cod M_Bus_runTicks) 182 = .ok (.iload 5, 2) := dt_Bus_runTicks_c3 21
theorem d_Bus_runTicks_184 : decode (jm_cod M_Bus_runTicks) 184 = .ok (.aaload, 1) := dt_Bus_runTicks_c3 22
theorem d_Bus_runTicks_185 : decode (jm_cod M_Bus_runTicks) 185 = .ok (.invokevirtual 271, 3) := dt_Bus_runTicks_c3 23
def tab_Bus_runTicks_c4 : List (Nat × Instr × Nat) := [(188, .iinc 5 1, 3), (191, .goto (-80), 3), (194, .iload_n 3, 1), (195, .aload_n 0, 1), (196, .invokevirtual 309, 3), (199, .iadd, 1), (200, .istore_n 3, 1), (201, .aload_n 0, 1), (202, .getfield 25, 3), (205, .invokevirtual 312, 3), (208, .aload_n 0, 1), (209, .dup, 1), (210, .getfield 159, 3), (213, .iconst 1, 1), (214, .iadd, 1), (215, .putfield 159, 3), (218, .iinc 4 1, 3), (221, .goto (-216), 3), (224, .iload_n 3, 1), (225, .ireturn, 1)]
theorem dt_Bus_runTicks_c4 (i : Nat) : decode (jm_cod M_Bus_runTicks) (tab_Bus_runTicks_c4.getD i (188, .iinc 5 1, 3)).1 = .ok ((tab_Bus_runTicks_c4.getD i (188, .iinc 5 1, 3)).2.1, (tab_Bus_runTicks_c4.getD i (188, .iinc 5 1, 3)).2.2) := j_tab (by decide +kernel) i
theorem d_Bus_runTicks_188 : decode (jm_cod M_Bus_runTicks) 188 = .ok (.iinc 5 1, 3) := dt_Bus_runTicks_c4 0
theorem d_Bus_runTicks_191 : decode (jm_cod M_Bus_runTicks) 191 = .ok (.goto (-80), 3) := dt_Bus_runTicks_c4 1
theorem d_Bus_runTicks_194 : decode (jm_cod M_Bus_runTicks) 194 = .ok (.iload_n 3, 1) := dt_Bus_runTicks_c4 2
theorem d_Bus_runTicks_195 : decode (jm_cod M_Bus_runTicks) 195 = .ok (.aload_n 0, 1) := dt_Bus_runTicks_c4 3
theorem d_Bus_runTicks_196 : decode (jm_cod M_Bus_runTicks) 196 = .ok (.invokevirtual 309, 3) := dt_Bus_runTicks_c4 4
theorem d_Bus_runTicks_199 : decode (jm_cod M_Bus_runTicks) 199 = .ok (.iadd, 1) := dt_Bus_runTicks_c4 5
theorem d_Bus_runTicks_200 : decode (jm_cod M_Bus_runTicks) 200 = .ok (.istore_n 3, 1) := dt_Bus_runTicks_c4 6
theorem d_Bus_runTicks_201 : decode (jm_cod M_Bus_runTicks) 201 = .ok (.aload_n 0, 1) := dt_Bus_runTicks_c4 7
theorem d_Bus_runTicks_202 : decode (jm_cod M_Bus_runTicks) 202 = .ok (.getfield 25, 3) := dt_Bus_runTicks_c4 8
theorem d_Bus_runTicks_205 : decode (jm_cod M_Bus_runTicks) 205 = .ok (.invokevirtual 312, 3) := dt_Bus_runTicks_c4 9
theorem d_Bus_runTicks_208 : decode (jm_cod M_Bus_runTicks) 208 = .ok (.aload_n 0, 1) := dt_Bus_runTicks_c4 10
theorem d_Bus_runTicks_209 : decode (jm_cod M_Bus_runTicks) 209 = .ok (.dup, 1) := dt_Bus_runTicks_c4 11
theorem d_Bus_runTicks_210 : decode (jm_cod M_Bus_runTicks) 210 = .ok (.getfield 159, 3) := dt_Bus_runTicks_c4 12
theorem d_Bus_runTicks_213 : decode (jm_cod M_Bus_runTicks) 213 = .ok (.iconst 1, 1) := dt_Bus_runTicks_c4 13
theorem d_Bus_runTicks_214 : decode (jm_cod M_Bus_runTicks) 214 = .ok (.iadd, 1) := dt_Bus_runTicks_c4 14
theorem d_Bus_runTicks_215 : decode (jm_cod M_Bus_runTicks) 215 = .ok (.putfield 159, 3) := dt_Bus_runTicks_c4 15
theorem d_Bus_runTicks_218 : decode (jm_cod M_Bus_runTicks) 218 = .ok (.iinc 4 1, 3) := dt_Bus_runTicks_c4 16
theorem d_Bus_runTicks_221 : decode (jm_cod M_Bus_runTicks) 221 = .ok (.goto (-216), 3) := dt_Bus_runTicks_c4 17
theorem d_Bus_runTicks_224 : decode (jm_cod M_Bus_runTicks) 224 = .ok (.iload_n 3, 1) := dt_Bus_runTicks_c4 18
theorem d_Bus_runTicks_225 : decode (jm_cod M_Bus_runTicks) 225 = .ok (.ireturn, 1) := dt_Bus_runTicks_c4 19
def tab_Bus_isOn_c0 : List (Nat × Instr × Nat) := [(0, .iload_n 0, 1), (1, .iload_n 1, 1), (2, .bipush 15, 2), (4, .iand, 1), (5, .ishr, 1), (6, .iconst 1, 1), (7, .iand, 1), (8, .iconst 1, 1), (9, .if_icmp .ne 7, 3), (12, .iconst 1, 1), (13, .goto 4, 3), (16, .iconst 0, 1), (17, .ireturn, 1)]
theorem dt_Bus_isOn_c0 (i : Nat) : decode (jm_cod M_Bus_isOn) (tab_Bus_isOn_c0.getD i (0, .iload_n 0, 1)).1 = .ok ((tab_Bus_isOn_c0.getD i (0, .iload_n 0, 1)).2.1, (tab_Bus_isOn_c0.getD i (0, .iload_n 0, 1)).2.2) := j_tab (by decide +kernel) i
theorem d_Bus_isOn_0 : decode (jm_cod M_Bus_isOn) 0 = .ok (.iload_n 0, 1) := dt_Bus_isOn_c0 0
theorem d_Bus_isOn_1 : decode (jm_cod M_Bus_isOn) 1 = .ok (.iload_n 1, 1) := dt_Bus_isOn_c0 1
theorem d_Bus_isOn_2 : decode (jm_cod M_Bus_isOn) 2 = .ok (.bipush 15, 2) := dt_Bus_isOn_c0 2
theorem d_Bus_isOn_4 : decode (jm_cod M_Bus_isOn) 4 = .ok (.iand, 1) := dt_Bus_isOn_c0 3
theorem d_Bus_isOn_5 : decode (jm_cod M_Bus_isOn) 5 = .ok (.ishr, 1) := dt_Bus_isOn_c0 4
theorem d_Bus_isOn_6 : decode (jm_cod M_Bus_isOn) 6 = .ok (.iconst 1, 1) := dt_Bus_isOn_c0 5
theorem d_Bus_isOn_7 : decode (jm_cod M_Bus_isOn) 7 = .ok (.iand, 1) := dt_Bus_isOn_c0 6
theorem d_Bus_isOn_8 : decode (jm_cod M_Bus_isOn) 8 = .ok (.iconst 1, 1) := dt_Bus_isOn_c0 7
theorem d_Bus_isOn_9 : decode (jm_cod M_Bus_isOn) 9 = .ok (.if_icmp .ne 7, 3) := dt_Bus_isOn_c0 8
theorem d_Bus_isOn_12 : decode (jm_cod M_Bus_isOn) 12 = .ok (.iconst 1, 1) := dt_Bus_isOn_c0 9
theorem d_Bus_isOn_13 : decode (jm_cod M_Bus_isOn) 13 = .ok (.goto 4, 3) := dt_Bus_isOn_c0 10
theorem d_Bus_isOn_16 : decode (jm_cod M_Bus_isOn) 16 = .ok (.iconst 0, 1) := dt_Bus_isOn_c0 11
theorem d_Bus_isOn_17 : decode (jm_cod M_Bus_isOn) 17 = .ok (.ireturn, 1) := dt_Bus_isOn_c0 12
def tab_Bus_toSlave_c0 : List (Nat × Instr × Nat) := [(0, .iload_n 0, 1), (1, .iconst 2, 1), (2, .if_icmp .eq 12, 3), (5, .iload_n 0, 1), (6, .iconst 4, 1), (7, .if_icmp .eq 7, 3), (10, .iconst 1, 1), (11, .goto 4, 3), (14, .iconst 0, 1), (15, .ireturn, 1)]
theorem dt_Bus_toSlave_c0 (i : Nat) : decode (jm_cod M_Bus_toSlave) (tab_Bus_toSlave_c0.getD i (0, .iload_n 0, 1)).1 = .ok ((tab_Bus_toSlave_c0.getD i (0, .iload_n 0, 1)).2.1, (tab_Bus_toSlave_c0.getD i (0, .iload_n 0, 1)).2.2) := j_tab (by decide +kernel) i
theorem d_Bus_toSlave_0 : decode (jm_cod M_Bus_toSlave) 0 = .ok (.iload_n 0, 1) := dt_Bus_toSlave_c0 0
theorem d_Bus_toSlave_1 : decode (jm_cod M_Bus_toSlave) 1 = .ok (.iconst 2, 1) := dt_Bus_toSlave_c0 1
theorem d_Bus_toSlave_2 : decode (jm_cod M_Bus_toSlave) 2 = .ok (.if_icmp .eq 12, 3) := dt_Bus_toSlave_c0 2
theorem d_Bus_toSlave_5 : decode (jm_cod M_Bus_toSlave) 5 = .ok (.iload_n 0, 1) := dt_Bus_toSlave_c0 3
theorem d_Bus_toSlave_6 : decode (jm_cod M_Bus_toSlave) 6 = .ok (.iconst 4, 1) := dt_Bus_toSlave_c0 4
theorem d_Bus_toSlave_7 : decode (jm_cod M_Bus_toSlave) 7 = .ok (.if_icmp .eq 7, 3) := dt_Bus_toSlave_c0 5
theorem d_Bus_toSlave_10 : decode (jm_cod M_Bus_toSlave) 10 = .ok (.iconst 1, 1) := dt_Bus_toSlave_c0 6
theorem d_Bus_toSlave_11 : decode (jm_cod M_Bus_toSlave) 11 = .ok (.goto 4, 3) := dt_Bus_toSlave_c0 7
theorem d_Bus_toSlave_14 : decode (jm_cod M_Bus_toSlave) 14 = .ok (.iconst 0, 1) := dt_Bus_toSlave_c0 8
theorem d_Bus_toSlave_15 : decode (jm_cod M_Bus_toSlave) 15 = .ok (.ireturn, 1) := dt_Bus_toSlave_c0 9
def tab_Bus_restId_c0 : List (Nat × Instr × Nat) := [(0, .iload_n 0, 1), (1, .bipush 63, 2), (3, .iand, 1), (4, .ireturn, 1)]
theorem dt_Bus_restId_c0 (i : Nat) : decode (jm_cod M_Bus_restId) (tab_Bus_restId_c0.getD i (0, .iload_n 0, 1)).1 = .ok ((tab_Bus_restId_c0.getD i (0, .iload_n 0, 1)).2.1, (tab_Bus_restId_c0.getD i (0, .iload_n 0, 1)).2.2) := j_tab (by decide +kernel) i
theorem d_Bus_restId_0 : decode (jm_cod M_Bus_restId) 0 = .ok (.iload_n 0, 1) := dt_Bus_restId_c0 0
theorem d_Bus_restId_1 : decode (jm_cod M_Bus_restId) 1 = .ok (.bipush 63, 2) := dt_Bus_restId_c0 1
theorem d_Bus_restId_3 : decode (jm_cod M_Bus_restId) 3 = .ok (.iand, 1) := dt_Bus_restId_c0 2
theorem d_Bus_restId_4 : decode (jm_cod M_Bus_restId) 4 = .ok (.ireturn, 1) := dt_Bus_restId_c0 3
def tab_Bus_restResponse_c0 : List (Nat × Instr × Nat) := [(0, .iload_n 0, 1), (1, .bipush 6, 2), (3, .ishr, 1), (4, .iconst 3, 1), (5, .iand, 1), (6, .ireturn, 1)]
theorem dt_Bus_restResponse_c0 (i : Nat) : decode (jm_cod M_Bus_restResponse) (tab_Bus_restResponse_c0.getD i (0, .iload_n 0, 1)).1 = .ok ((tab_Bus_restResponse_c0.getD i (0, .iload_n 0, 1)).2.1, (tab_Bus_restResponse_c0.getD i (0, .iload_n 0, 1)).2.2) := j_tab (by decide +kernel) i
theorem d_Bus_restResponse_0 : decode (jm_cod M_Bus_restResponse) 0 = .ok (.iload_n 0, 1) := dt_Bus_restResponse_c0 0
theorem d_Bus_restResponse_1 : decode (jm_cod M_Bus_restResponse) 1 = .ok (.bipush 6, 2) := dt_Bus_restResponse_c0 1
theorem d_Bus_restResponse_3 : decode (jm_cod M_Bus_restResponse) 3 = .ok (.ishr, 1) := dt_Bus_restResponse_c0 2
theorem d_Bus_restResponse_4 : decode (jm_cod M_Bus_restResponse) 4 = .ok (.iconst 3, 1) := dt_Bus_restResponse_c0 3
theorem d_Bus_restResponse_5 : decode (jm_cod M_Bus_restResponse) 5 = .ok (.iand, 1) := dt_Bus_restResponse_c0 4
theorem d_Bus_restResponse_6 : decode (jm_cod M_Bus_restResponse) 6 = .ok (.ireturn, 1) := dt_Bus_restResponse_c0 5
def tab_Bus_restLast_c0 : List (Nat × Instr × Nat) := [(0, .iload_n 0, 1), (1, .sipush 256, 3), (4, .iand, 1), (5, .ifCond .eq 7, 3), (8, .iconst 1, 1), (9, .goto 4, 3), (12, .iconst 0, 1), (13, .ireturn, 1)]
theorem dt_Bus_restLast_c0 (i : Nat) : decode (jm_cod M_Bus_restLast) (tab_Bus_restLast_c0.getD i (0, .iload_n 0, 1)).1 = .ok ((tab_Bus_restLast_c0.getD i (0, .iload_n 0, 1)).2.1, (tab_Bus_restLast_c0.getD i (0, .iload_n 0, 1)).2.2) := j_tab (by decide +kernel) i
theorem d_Bus_restLast_0 : decode (jm_cod M_Bus_restLast) 0 = .ok (.iload_n 0, 1) := dt_Bus_restLast_c0 0
theorem d_Bus_restLast_1 : decode (jm_cod M_Bus_restLast) 1 = .ok (.sipush 256, 3) := dt_Bus_restLast_c0 1
theorem d_Bus_restLast_4 : decode (jm_cod M_Bus_restLast) 4 = .ok (.iand, 1) := dt_Bus_restLast_c0 2
theorem d_Bus_restLast_5 : decode (jm_cod M_Bus_restLast) 5 = .ok (.ifCond .eq 7, 3) := dt_Bus_restLast_c0 3
theorem d_Bus_restLast_8 : decode (jm_cod M_Bus_restLast) 8 = .ok (.iconst 1, 1) := dt_Bus_restLast_c0 4
theorem d_Bus_restLast_9 : decode (jm_cod M_Bus_restLast) 9 = .ok (.goto 4, 3) := dt_Bus_restLast_c0 5
theorem d_Bus_restLast_12 : decode (jm_cod M_Bus_restLast) 12 = .ok (.iconst 0, 1) := dt_Bus_restLast_c0 6
theorem d_Bus_restLast_13 : decode (jm_cod M_Bus_restLast) 13 = .ok (.ireturn, 1) := dt_Bus_restLast_c0 7
def tab_Bus_answerRest_c0 : List (Nat × Instr × Nat) := [(0, .iload_n 0, 1), (1, .bipush 64, 2), (3, .iload_n 1, 1), (4, .imul, 1), (5, .iadd, 1), (6, .iload_n 2, 1), (7, .ifCond .eq 9, 3), (10, .sipush 256, 3), (13, .goto 4, 3), (16, .iconst 0, 1), (17, .iadd, 1), (18, .ireturn, 1)]
theorem dt_Bus_answerRest_c0 (i : Nat) : decode (jm_cod M_Bus_answerRest) (tab_Bus_answerRest_c0.getD i (0, .iload_n 0, 1)).1 = .ok ((tab_Bus_answerRest_c0.getD i (0, .iload_n 0, 1)).2.1, (tab_Bus_answerRest_c0.getD i (0, .iload_n 0, 1)).2.2) := j_tab (by decide +kernel) i
theorem d_Bus_answerRest_0 : decode (jm_cod M_Bus_answerRest) 0 = .ok (.iload_n 0, 1) := dt_Bus_answerRest_c0 0
theorem d_Bus_answerRest_1 : decode (jm_cod M_Bus_answerRest) 1 = .ok (.bipush 64, 2) := dt_Bus_answerRest_c0 1
theorem d_Bus_answerRest_3 : decode (jm_cod M_Bus_answerRest) 3 = .ok (.iload_n 1, 1) := dt_Bus_answerRest_c0 2
theorem d_Bus_answerRest_4 : decode (jm_cod M_Bus_answerRest) 4 = .ok (.imul, 1) := dt_Bus_answerRest_c0 3
theorem d_Bus_answerRest_5 : decode (jm_cod M_Bus_answerRest) 5 = .ok (.iadd, 1) := dt_Bus_answerRest_c0 4
theorem d_Bus_answerRest_6 : decode (jm_cod M_Bus_answerRest) 6 = .ok (.iload_n 2, 1) := dt_Bus_answerRest_c0 5
theorem d_Bus_answerRest_7 : decode (jm_cod M_Bus_answerRest) 7 = .ok (.ifCond .eq 9, 3) := dt_Bus_answerRest_c0 6
theorem d_Bus_answerRest_10 : decode (jm_cod M_Bus_answerRest) 10 = .ok (.sipush 256, 3) := dt_Bus_answerRest_c0 7
theorem d_Bus_answerRest_13 : decode (jm_cod M_Bus_answerRest) 13 = .ok (.goto 4, 3) := dt_Bus_answerRest_c0 8
theorem d_Bus_answerRest_16 : decode (jm_cod M_Bus_answerRest) 16 = .ok (.iconst 0, 1) := dt_Bus_answerRest_c0 9
theorem d_Bus_answerRest_17 : decode (jm_cod M_Bus_answerRest) 17 = .ok (.iadd, 1) := dt_Bus_answerRest_c0 10
theorem d_Bus_answerRest_18 : decode (jm_cod M_Bus_answerRest) 18 = .ok (.ireturn, 1) := dt_Bus_answerRest_c0 11
def tab_Bus_goOver_c0 : List (Nat × Instr × Nat) := [(0, .iconst 0, 1), (1, .istore_n 1, 1), (2, .iconst 0, 1), (3, .istore_n 2, 1), (4, .iload_n 2, 1), (5, .aload_n 0, 1), (6, .getfield 31, 3), (9, .arraylength, 1), (10, .if_icmp .ge 87, 3), (13, .iconst 0, 1), (14, .istore_n 3, 1), (15, .iload_n 3, 1), (16, .iconst 5, 1), (17, .if_icmp .ge 74, 3), (20, .aload_n 0, 1), (21, .getfield 37, 3), (24, .iload_n 2, 1), (25, .aaload, 1), (26, .iload_n 3, 1), (27, .invokevirtual 315, 3), (30, .ifCond .eq 55, 3), (33, .aload_n 0, 1), (34, .getfield 25, 3), (37, .aload_n 0, 1)]
theorem dt_Bus_goOver_c0 (i : Nat) : decode (jm_cod M_Bus_goOver) (tab_Bus_goOver_c0.getD i (0, .iconst 0, 1)).1 = .ok ((tab_Bus_goOver_c0.getD i (0, .iconst 0, 1)).2.1, (tab_Bus_goOver_c0.getD i (0, .iconst 0, 1)).2.2) := j_tab (by decide +kernel) i
theorem d_Bus_goOver_0 : decode (jm_cod M_Bus_goOver) 0 = .ok (.iconst 0, 1) := dt_Bus_goOver_c0 0
theorem d_Bus_goOver_1 : decode (jm_cod M_Bus_goOver) 1 = .ok (.istore_n 1, 1) := dt_Bus_goOver_c0 1
theorem d_Bus_goOver_2 : decode (jm_cod M_Bus_goOver) 2 = .ok (.iconst 0, 1) := dt_Bus_goOver_c0 2
theorem d_Bus_goOver_3 : decode (jm_cod M_Bus_goOver) 3 = .ok (.istore_n 2, 1) := dt_Bus_goOver_c0 3
theorem d_Bus_goOver_4 : decode (jm_cod M_Bus_goOver) 4 = .ok (.iload_n 2, 1) := dt_Bus_goOver_c0 4
theorem d_Bus_goOver_5 : decode (jm_cod M_Bus_goOver) 5 = .ok (.aload_n 0, 1) := dt_Bus_goOver_c0 5
theorem d_Bus_goOver_6 : decode (jm_cod M_Bus_goOver) 6 = .ok (.getfield 31, 3) := dt_Bus_goOver_c0 6
theorem d_Bus_goOver_9 : decode (jm_cod M_Bus_goOver) 9 = .ok (.arraylength, 1) := dt_Bus_goOver_c0 7
theorem d_Bus_goOver_10 : decode (jm_cod M_Bus_goOver) 10 = .ok (.if_icmp .ge 87, 3) := dt_Bus_goOver_c0 8
theorem d_Bus_goOver_13 : decode (jm_cod M_Bus_goOver) 13 = .ok (.iconst 0, 1) := dt_Bus_goOver_c0 9
theorem d_Bus_goOver_14 : decode (jm_cod M_Bus_goOver) 14 = .ok (.istore_n 3, 1) := dt_Bus_goOver_c0 10
theorem d_Bus_goOver_15 : decode (jm_cod M_Bus_goOver) 15 = .ok (.iload_n 3, 1) := dt_Bus_goOver_c0 11
theorem d_Bus_goOver_16 : decode (jm_cod M_Bus_goOver) 16 = .ok (.iconst 5, 1) := dt_Bus_goOver_c0 12
theorem d_Bus_goOver_17 : decode (jm_cod M_Bus_goOver) 17 = .ok (.if_icmp .ge 74, 3) := dt_Bus_goOver_c0 13
theorem d_Bus_goOver_20 : decode (jm_cod M_Bus_goOver) 20 = .ok (.aload_n 0, 1) := dt_Bus_goOver_c0 14
theorem d_Bus_goOver_21 : decode (jm_cod M_Bus_goOver) 21 = .ok (.getfield 37, 3) := dt_Bus_goOver_c0 15
theorem d_Bus_goOver_24 : decode (jm_cod M_Bus_goOver) 24 = .ok (.iload_n 2, 1) := dt_Bus_goOver_c0 16
theorem d_Bus_goOver_25 : decode (jm_cod M_Bus_goOver) 25 = .ok (.aaload, 1) := dt_Bus_goOver_c0 17
theorem d_Bus_goOver_26 : decode (jm_cod M_Bus_goOver) 26 = .ok (.iload_n 3, 1) := dt_Bus_goOver_c0 18
theorem d_Bus_goOver_27 : decode (jm_cod M_Bus_goOver) 27 = .ok (.invokevirtual 315, 3) := dt_Bus_goOver_c0 19
theorem d_Bus_goOver_30 : decode (jm_cod M_Bus_goOver) 30 = .ok (.ifCond .eq 55, 3) := dt_Bus_goOver_c0 20
theorem d_Bus_goOver_33 : decode (jm_cod M_Bus_goOver) 33 = .ok (.aload_n 0, 1) := dt_Bus_goOver_c0 21
theorem d_Bus_goOver_34 : decode (jm_cod M_Bus_goOver) 34 = .ok (.getfield 25, 3) := dt_Bus_goOver_c0 22
theorem d_Bus_goOver_37 : decode (jm_cod M_Bus_goOver) 37 = .ok (.aload_n 0, 1) := dt_Bus_goOver_c0 23
def tab_Bus_goOver_c1 : List (Nat × Instr × Nat) := [(38, .getfield 37, 3), (41, .iload_n 2, 1), (42, .aaload, 1), (43, .iload_n 2, 1), (44, .iload_n 3, 1), (45, .aload_n 0, 1), (46, .getfield 159, 3), (49, .invokevirtual 319, 3), (52, .aload_n 0, 1), (53, .getfield 31, 3), (56, .iload_n 2, 1), (57, .aaload, 1), (58, .aload_n 0, 1), (59, .getfield 37, 3), (62, .iload_n 2, 1), (63, .aaload, 1), (64, .iload_n 3, 1), (65, .aload_n 0, 1), (66, .getfield 159, 3), (69, .invokevirtual 323, 3), (72, .iload_n 1, 1), (73, .aload_n 0, 1), (74, .getfield 37, 3), (77, .iload_n 2, 1)]
theorem dt_Bus_goOver_c1 (i : Nat) : decode (jm_cod M_Bus_goOver) (tab_Bus_goOver_c1.getD i (38, .getfield 37, 3)).1 = .ok ((tab_Bus_goOver_c1.getD i (38, .getfield 37, 3)).2.1, (tab_Bus_goOver_c1.getD i (38, .getfield 37, 3)).2.2) := j_tab (by decide +kernel) i
theorem d_Bus_goOver_38 : decode (jm_cod M_Bus_goOver) 38 = .ok (.getfield 37, 3) := dt_Bus_goOver_c1 0
theorem d_Bus_goOver_41 : decode (jm_cod M_Bus_goOver) 41 = .ok (.iload_n 2, 1) := dt_Bus_goOver_c1 1
theorem d_Bus_goOver_42 : decode (jm_cod M_Bus_goOver) 42 = .ok (.aaload, 1) := dt_Bus_goOver_c1 2
theorem d_Bus_goOver_43 : decode (jm_cod M_Bus_goOver) 43 = .ok (.iload_n 2, 1) := dt_Bus_goOver_c1 3
theorem d_Bus_goOver_44 : decode (jm_cod M_Bus_goOver) 44 = .ok (.iload_n 3, 1) := dt_Bus_goOver_c1 4
theorem d_Bus_goOver_45 : decode (jm_cod M_Bus_goOver) 45 = .ok (.aload_n 0, 1) := dt_Bus_goOver_c1 5
theorem d_Bus_goOver_46 : decode (jm_cod M_Bus_goOver) 46 = .ok (.getfield 159, 3) := dt_Bus_goOver_c1 6
theorem d_Bus_goOver_49 : decode (jm_cod M_Bus_goOver) 49 = .ok (.invokevirtual 319, 3) := dt_Bus_goOver_c1 7
theorem d_Bus_goOver_52 : decode (jm_cod M_Bus_goOver) 52 = .ok (.aload_n 0, 1) := dt_Bus_goOver_c1 8
theorem d_Bus_goOver_53 : decode (jm_cod M_Bus_goOver) 53 = .ok (.getfield 31, 3) := dt_Bus_goOver_c1 9
theorem d_Bus_goOver_56 : decode (jm_cod M_Bus_goOver) 56 = .ok (.iload_n 2, 1) := dt_Bus_goOver_c1 10
theorem d_Bus_goOver_57 : decode (jm_cod M_Bus_goOver) 57 = .ok (.aaload, 1) := dt_Bus_goOver_c1 11
theorem d_Bus_goOver_58 : decode (jm_cod M_Bus_goOver) 58 = .ok (.aload_n 0, 1) := dt_Bus_goOver_c1 12
theorem d_Bus_goOver_59 : decode (jm_cod M_Bus_goOver) 59 = .ok (.getfield 37, 3) := dt_Bus_goOver_c1 13
theorem d_Bus_goOver_62 : decode (jm_cod M_Bus_goOver) 62 = .ok (.iload_n 2, 1) := dt_Bus_goOver_c1 14
theorem d_Bus_goOver_63 : decode (jm_cod M_Bus_goOver) 63 = .ok (.aaload, 1) := dt_Bus_goOver_c1 15
theorem d_Bus_goOver_64 : decode (jm_cod M_Bus_goOver) 64 = .ok (.iload_n 3, 1) := dt_Bus_goOver_c1 16
theorem d_Bus_goOver_65 : decode (jm_cod M_Bus_goOver) 65 = .ok (.aload_n 0, 1) := dt_Bus_goOver_c1 17
theorem d_Bus_goOver_66 : decode (jm_cod M_Bus_goOver) 66 = .ok (.getfield 159, 3) := dt_Bus_goOver_c1 18
theorem d_Bus_goOver_69 : decode (jm_cod M_Bus_goOver) 69 = .ok (.invokevirtual 323, 3) := dt_Bus_goOver_c1 19
theorem d_Bus_goOver_72 : decode (jm_cod M_Bus_goOver) 72 = .ok (.iload_n 1, 1) := dt_Bus_goOver_c1 20
theorem d_Bus_goOver_73 : decode (jm_cod M_Bus_goOver) 73 = .ok (.aload_n 0, 1) := dt_Bus_goOver_c1 21
theorem d_Bus_goOver_74 : decode (jm_cod M_Bus_goOver) 74 = .ok (.getfield 37, 3) := dt_Bus_goOver_c1 22
theorem d_Bus_goOver_77 : decode (jm_cod M_Bus_goOver) 77 = .ok (.iload_n 2, 1) := dt_Bus_goOver_c1 23
def tab_Bus_goOver_c2 : List (Nat × Instr × Nat) := [(78, .aaload, 1), (79, .iload_n 3, 1), (80, .invokevirtual 327, 3), (83, .iadd, 1), (84, .istore_n 1, 1), (85, .iinc 3 1, 3), (88, .goto (-73), 3), (91, .iinc 2 1, 3), (94, .goto (-90), 3), (97, .iconst 0, 1), (98, .istore_n 2, 1), (99, .iload_n 2, 1), (100, .aload_n 0, 1), (101, .getfield 45, 3), (104, .arraylength, 1), (105, .if_icmp .ge 87, 3), (108, .iconst 0, 1), (109, .istore_n 3, 1), (110, .iload_n 3, 1), (111, .iconst 5, 1), (112, .if_icmp .ge 74, 3), (115, .aload_n 0, 1), (116, .getfield 49, 3), (119, .iload_n 2, 1)]
theorem dt_Bus_goOver_c2 (i : Nat) : decode (jm_cod M_Bus_goOver) (tab_Bus_goOver_c2.getD i (78, .aaload, 1)).1 = .ok ((tab_Bus_goOver_c2.getD i (78, .aaload, 1)).2.1, (tab_Bus_goOver_c2.getD i (78, .aaload, 1)).2.2) := j_tab (by decide +kernel) i
theorem d_Bus_goOver_78 : decode (jm_cod M_Bus_goOver) 78 = .ok (.aaload, 1) := dt_Bus_goOver_c2 0
theorem d_Bus_goOver_79 : decode (jm_cod M_Bus_goOver) 79 = .ok (.iload_n 3, 1) := dt_Bus_goOver_c2 1
theorem d_Bus_goOver_80 : decode (jm_cod M_Bus_goOver) 80 = .ok (.invokevirtual 327, 3) := dt_Bus_goOver_c2 2
theorem d_Bus_goOver_83 : decode (jm_cod M_Bus_goOver) 83 = .ok (.iadd, 1) := dt_Bus_goOver_c2 3
theorem d_Bus_goOver_84 : decode (jm_cod M_Bus_goOver) 84 = .ok (.istore_n 1, 1) := dt_Bus_goOver_c2 4
theorem d_Bus_goOver_85 : decode (jm_cod M_Bus_goOver) 85 = .ok (.iinc 3 1, 3) := dt_Bus_goOver_c2 5
theorem d_Bus_goOver_88 : decode (jm_cod M_Bus_goOver) 88 = .ok (.goto (-73), 3) := dt_Bus_goOver_c2 6
theorem d_Bus_goOver_91 : decode (jm_cod M_Bus_goOver) 91 = .ok (.iinc 2 1, 3) := dt_Bus_goOver_c2 7
theorem d_Bus_goOver_94 : decode (jm_cod M_Bus_goOver) 94 = .ok (.goto (-90), 3) := dt_Bus_goOver_c2 8
theorem d_Bus_goOver_97 : decode (jm_cod M_Bus_goOver) 97 = .ok (.iconst 0, 1) := dt_Bus_goOver_c2 9
theorem d_Bus_goOver_98 : decode (jm_cod M_Bus_goOver) 98 = .ok (.istore_n 2, 1) := dt_Bus_goOver_c2 10
theorem d_Bus_goOver_99 : decode (jm_cod M_Bus_goOver) 99 = .ok (.iload_n 2, 1) := dt_Bus_goOver_c2 11
theorem d_Bus_goOver_100 : decode (jm_cod M_Bus_goOver) 100 = .ok (.aload_n 0, 1) := dt_Bus_goOver_c2 12
theorem d_Bus_goOver_101 : decode (jm_cod M_Bus_goOver) 101 = .ok (.getfield 45, 3) := dt_Bus_goOver_c2 13
theorem d_Bus_goOver_104 : decode (jm_cod M_Bus_goOver) 104 = .ok (.arraylength, 1) := dt_Bus_goOver_c2 14
theorem d_Bus_goOver_105 : decode (jm_cod M_Bus_goOver) 105 = .ok (.if_icmp .ge 87, 3) := dt_Bus_goOver_c2 15
theorem d_Bus_goOver_108 : decode (jm_cod M_Bus_goOver) 108 = .ok (.iconst 0, 1) := dt_Bus_goOver_c2 16
theorem d_Bus_goOver_109 : decode (jm_cod M_Bus_goOver) 109 = .ok (.istore_n 3, 1) := dt_Bus_goOver_c2 17
theorem d_Bus_goOver_110 : decode (jm_cod M_Bus_goOver) 110 = .ok (.iload_n 3, 1) := dt_Bus_goOver_c2 18
theorem d_Bus_goOver_111 : decode (jm_cod M_Bus_goOver) 111 = .ok (.iconst 5, 1) := dt_Bus_goOver_c2 19
theorem d_Bus_goOver_112 : decode (jm_cod M_Bus_goOver) 112 = .ok (.if_icmp .ge 74, 3) := dt_Bus_goOver_c2 20
theorem d_Bus_goOver_115 : decode (jm_cod M_Bus_goOver) 115 = .ok (.aload_n 0, 1) := dt_Bus_goOver_c2 21
theorem d_Bus_goOver_116 : decode (jm_cod M_Bus_goOver) 116 = .ok (.getfield 49, 3) := dt_Bus_goOver_c2 22
theorem d_Bus_goOver_119 : decode (jm_cod M_Bus_goOver) 119 = .ok (.iload_n 2, 1) := dt_Bus_goOver_c2 23
def tab_Bus_goOver_c3 : List (Nat × Instr × Nat) := [(120, .aaload, 1), (121, .iload_n 3, 1), (122, .invokevirtual 315, 3), (125, .ifCond .eq 55, 3), (128, .aload_n 0, 1), (129, .getfield 25, 3), (132, .aload_n 0, 1), (133, .getfield 49, 3), (136, .iload_n 2, 1), (137, .aaload, 1), (138, .iload_n 2, 1), (139, .iload_n 3, 1), (140, .aload_n 0, 1), (141, .getfield 159, 3), (144, .invokevirtual 330, 3), (147, .aload_n 0, 1), (148, .getfield 45, 3), (151, .iload_n 2, 1), (152, .aaload, 1), (153, .aload_n 0, 1), (154, .getfield 49, 3), (157, .iload_n 2, 1), (158, .aaload, 1), (159, .iload_n 3, 1)]
theorem dt_Bus_goOver_c3 (i : Nat) : decode (jm_cod M_Bus_goOver) (tab_Bus_goOver_c3.getD i (120, .aaload, 1)).1 = .ok ((tab_Bus_goOver_c3.getD i (120, .aaload, 1)).2.1, (tab_Bus_goOver_c3.getD i (120, .aaload, 1)).2.2) := j_tab (by decide +kernel) i
theorem d_Bus_goOver_120 : decode (jm_cod M_Bus_goOver) 120 = .ok (.aaload, 1) := dt_Bus_goOver_c3 0
theorem d_Bus_goOver_121 : decode (jm_cod M_Bus_goOver) 121 = .ok (.iload_n 3, 1) := dt_Bus_goOver_c3 1
theorem d_Bus_goOver_122 : decode (jm_cod M_Bus_goOver) 122 = .ok (.invokevirtual 315, 3) := dt_Bus_goOver_c3 2
theorem d_Bus_goOver_125 : decode (jm_cod M_Bus_goOver) 125 = .ok (.ifCond .eq 55, 3) := dt_Bus_goOver_c3 3
theorem d_Bus_goOver_128 : decode (jm_cod M_Bus_goOver) 128 = .ok (.aload_n 0, 1) := dt_Bus_goOver_c3 4
theorem d_Bus_goOver_129 : decode (jm_cod M_Bus_goOver) 129 = .ok (.getfield 25, 3) := dt_Bus_goOver_c3 5
theorem d_Bus_goOver_132 : decode (jm_cod M_Bus_goOver) 132 = .ok (.aload_n 0, 1) := dt_Bus_goOver_c3 6
theorem d_Bus_goOver_133 : decode (jm_cod M_Bus_goOver) 133 = .ok (.getfield 49, 3) := dt_Bus_goOver_c3 7
theorem d_Bus_goOver_136 : decode (jm_cod M_Bus_goOver) 136 = .ok (.iload_n 2, 1) := dt_Bus_goOver_c3 8
theorem d_Bus_goOver_137 : decode (jm_cod M_Bus_goOver) 137 = .ok (.aaload, 1) := dt_Bus_goOver_c3 9
theorem d_Bus_goOver_138 : decode (jm_cod M_Bus_goOver) 138 = .ok (.iload_n 2, 1) := dt_Bus_goOver_c3 10
theorem d_Bus_goOver_139 : decode (jm_cod M_Bus_goOver) 139 = .ok (.iload_n 3, 1) := dt_Bus_goOver_c3 11
theorem d_Bus_goOver_140 : decode (jm_cod M_Bus_goOver) 140 = .ok (.aload_n 0, 1) := dt_Bus_goOver_c3 12
theorem d_Bus_goOver_141 : decode (jm_cod M_Bus_goOver) 141 = .ok (.getfield 159, 3) := dt_Bus_goOver_c3 13
theorem d_Bus_goOver_144 : decode (jm_cod M_Bus_goOver) 144 = .ok (.invokevirtual 330, 3) := dt_Bus_goOver_c3 14
theorem d_Bus_goOver_147 : decode (jm_cod M_Bus_goOver) 147 = .ok (.aload_n 0, 1) := dt_Bus_goOver_c3 15
theorem d_Bus_goOver_148 : decode (jm_cod M_Bus_goOver) 148 = .ok (.getfield 45, 3) := dt_Bus_goOver_c3 16
theorem d_Bus_goOver_151 : decode (jm_cod M_Bus_goOver) 151 = .ok (.iload_n 2, 1) := dt_Bus_goOver_c3 17
theorem d_Bus_goOver_152 : decode (jm_cod M_Bus_goOver) 152 = .ok (.aaload, 1) := dt_Bus_goOver_c3 18
theorem d_Bus_goOver_153 : decode (jm_cod M_Bus_goOver) 153 = .ok (.aload_n 0, 1) := dt_Bus_goOver_c3 19
theorem d_Bus_goOver_154 : decode (jm_cod M_Bus_goOver) 154 = .ok (.getfield 49, 3) := dt_Bus_goOver_c3 20
theorem d_Bus_goOver_157 : decode (jm_cod M_Bus_goOver) 157 = .ok (.iload_n 2, 1) := dt_Bus_goOver_c3 21
theorem d_Bus_goOver_158 : decode (jm_cod M_Bus_goOver) 158 = .ok (.aaload, 1) := dt_Bus_goOver_c3 22
theorem d_Bus_goOver_159 : decode (jm_cod M_Bus_goOver) 159 = .ok (.iload_n 3, 1) := dt_Bus_goOver_c3 23
def tab_Bus_goOver_c4 : List (Nat × Instr × Nat) := [(160, .aload_n 0, 1), (161, .getfield 159, 3), (164, .invokevirtual 333, 3), (167, .iload_n 1, 1), (168, .aload_n 0, 1), (169, .getfield 49, 3), (172, .iload_n 2, 1), (173, .aaload, 1), (174, .iload_n 3, 1), (175, .invokevirtual 327, 3), (178, .iadd, 1), (179, .istore_n 1, 1), (180, .iinc 3 1, 3), (183, .goto (-73), 3), (186, .iinc 2 1, 3), (189, .goto (-90), 3), (192, .iload_n 1, 1), (193, .ireturn, 1)]
theorem dt_Bus_goOver_c4 (i : Nat) : decode (jm_cod M_Bus_goOver) (tab_Bus_goOver_c4.getD i (160, .aload_n 0, 1)).1 = .ok ((tab_Bus_goOver_c4.getD i (160, .aload_n 0, 1)).2.1, (tab_Bus_goOver_c4.getD i (160, .aload_n 0, 1)).2.2) := j_tab (by decide +kernel) i
theorem d_Bus_goOver_160 : decode (jm_cod M_Bus_goOver) 160 = .ok (.aload_n 0, 1) := dt_Bus_goOver_c4 0
theorem d_Bus_goOver_161 : decode (jm_cod M_Bus_goOver) 161 = .ok (.getfield 159, 3) := dt_Bus_goOver_c4 1
theorem d_Bus_goOver_164 : decode (jm_cod M_Bus_goOver) 164 = .ok (.invokevirtual 333, 3) := dt_Bus_goOver_c4 2
theorem d_Bus_goOver_167 : decode (jm_cod M_Bus_goOver) 167 = .ok (.iload_n 1, 1) := dt_Bus_goOver_c4 3
theorem d_Bus_goOver_168 : decode (jm_cod M_Bus_goOver) 168 = .ok (.aload_n 0, 1) := dt_Bus_goOver_c4 4
theorem d_Bus_goOver_169 : decode (jm_cod M_Bus_goOver) 169 = .ok (.getfield 49, 3) := dt_Bus_goOver_c4 5
theorem d_Bus_goOver_172 : decode (jm_cod M_Bus_goOver) 172 = .ok (.iload_n 2, 1) := dt_Bus_goOver_c4 6
theorem d_Bus_goOver_173 : decode (jm_cod M_Bus_goOver) 173 = .ok (.aaload, 1) := dt_Bus_goOver_c4 7
theorem d_Bus_goOver_174 : decode (jm_cod M_Bus_goOver) 174 = .ok (.iload_n 3, 1) := dt_Bus_goOver_c4 8
theorem d_Bus_goOver_175 : decode (jm_cod M_Bus_goOver) 175 = .ok (.invokevirtual 327, 3) := dt_Bus_goOver_c4 9
theorem d_Bus_goOver_178 : decode (jm_cod M_Bus_goOver) 178 = .ok (.iadd, 1) := dt_Bus_goOver_c4 10
theorem d_Bus_goOver_179 : decode (jm_cod M_Bus_goOver) 179 = .ok (.istore_n 1, 1) := dt_Bus_goOver_c4 11
theorem d_Bus_goOver_180 : decode (jm_cod M_Bus_goOver) 180 = .ok (.iinc 3 1, 3) := dt_Bus_goOver_c4 12
theorem d_Bus_goOver_183 : decode (jm_cod M_Bus_goOver) 183 = .ok (.goto (-73), 3) := dt_Bus_goOver_c4 13
theorem d_Bus_goOver_186 : decode (jm_cod M_Bus_goOver) 186 = .ok (.iinc 2 1, 3) := dt_Bus_goOver_c4 14
theorem d_Bus_goOver_189 : decode (jm_cod M_Bus_goOver) 189 = .ok (.goto (-90), 3) := dt_Bus_goOver_c4 15
theorem d_Bus_goOver_192 : decode (jm_cod M_Bus_goOver) 192 = .ok (.iload_n 1, 1) := dt_Bus_goOver_c4 16
theorem d_Bus_goOver_193 : decode (jm_cod M_Bus_goOver) 193 = .ok (.ireturn, 1) := dt_Bus_goOver_c4 17
def tab_Bus_drain_c0 : List (Nat × Instr × Nat) := [(0, .iload_n 1, 1), (1, .iconst 1, 1), (2, .sipush 1000, 3), (5, .invokestatic 84, 3), (8, .aload_n 0, 1), (9, .getfield 159, 3), (12, .istore_n 2, 1), (13, .aload_n 0, 1), (14, .iload_n 1, 1), (15, .iconst 1, 1), (16, .invokevirtual 178, 3), (19, .pop, 1), (20, .aload_n 0, 1), (21, .invokevirtual 69, 3), (24, .ifCond .le 7, 3), (27, .iconst (-1), 1), (28, .goto 9, 3), (31, .aload_n 0, 1), (32, .getfield 159, 3), (35, .iload_n 2, 1), (36, .isub, 1), (37, .ireturn, 1)]
theorem dt_Bus_drain_c0 (i : Nat) : decode (jm_cod M_Bus_drain) (tab_Bus_drain_c0.getD i (0, .iload_n 1, 1)).1 = .ok ((tab_Bus_drain_c0.getD i (0, .iload_n 1, 1)).2.1, (tab_Bus_drain_c0.getD i (0, .iload_n 1, 1)).2.2) := j_tab (by decide +kernel) i
theorem d_Bus_drain_0 : decode (jm_cod M_Bus_drain) 0 = .ok (.iload_n 1, 1) := dt_Bus_drain_c0 0
theorem d_Bus_drain_1 : decode (jm_cod M_Bus_drain) 1 = .ok (.iconst 1, 1) := dt_Bus_drain_c0 1
theorem d_Bus_drain_2 : decode (jm_cod M_Bus_drain) 2 = .ok (.sipush 1000, 3) := dt_Bus_drain_c0 2
theorem d_Bus_drain_5 : decode (jm_cod M_Bus_drain) 5 = .ok (.invokestatic 84, 3) := dt_Bus_drain_c0 3
theorem d_Bus_drain_8 : decode (jm_cod M_Bus_drain) 8 = .ok (.aload_n 0, 1) := dt_Bus_drain_c0 4
theorem d_Bus_drain_9 : decode (jm_cod M_Bus_drain) 9 = .ok (.getfield 159, 3) := dt_Bus_drain_c0 5
theorem d_Bus_drain_12 : decode (jm_cod M_Bus_drain) 12 = .ok (.istore_n 2, 1) := dt_Bus_drain_c0 6
theorem d_Bus_drain_13 : decode (jm_cod M_Bus_drain) 13 = .ok (.aload_n 0, 1) := dt_Bus_drain_c0 7
theorem d_Bus_drain_14 : decode (jm_cod M_Bus_drain) 14 = .ok (.iload_n 1, 1) := dt_Bus_drain_c0 8
theorem d_Bus_drain_15 : decode (jm_cod M_Bus_drain) 15 = .ok (.iconst 1, 1) := dt_Bus_drain_c0 9
theorem d_Bus_drain_16 : decode (jm_cod M_Bus_drain) 16 = .ok (.invokevirtual 178, 3) := dt_Bus_drain_c0 10
theorem d_Bus_drain_19 : decode (jm_cod M_Bus_drain) 19 = .ok (.pop, 1) := dt_Bus_drain_c0 11
theorem d_Bus_drain_20 : decode (jm_cod M_Bus_drain) 20 = .ok (.aload_n 0, 1) := dt_Bus_drain_c0 12
theorem d_Bus_drain_21 : decode (jm_cod M_Bus_drain) 21 = .ok (.invokevirtual 69, 3) := dt_Bus_drain_c0 13
theorem d_Bus_drain_24 : decode (jm_cod M_Bus_drain) 24 = .ok (.ifCond .le 7, 3) := dt_Bus_drain_c0 14
theorem d_Bus_drain_27 : decode (jm_cod M_Bus_drain) 27 = .ok (.iconst (-1), 1) := dt_Bus_drain_c0 15
theorem d_Bus_drain_28 : decode (jm_cod M_Bus_drain) 28 = .ok (.goto 9, 3) := dt_Bus_drain_c0 16
theorem d_Bus_drain_31 : decode (jm_cod M_Bus_drain) 31 = .ok (.aload_n 0, 1) := dt_Bus_drain_c0 17
theorem d_Bus_drain_32 : decode (jm_cod M_Bus_drain) 32 = .ok (.getfield 159, 3) := dt_Bus_drain_c0 18
theorem d_Bus_drain_35 : decode (jm_cod M_Bus_drain) 35 = .ok (.iload_n 2, 1) := dt_Bus_drain_c0 19
theorem d_Bus_drain_36 : decode (jm_cod M_Bus_drain) 36 = .ok (.isub, 1) := dt_Bus_drain_c0 20
theorem d_Bus_drain_37 : decode (jm_cod M_Bus_drain) 37 = .ok (.ireturn, 1) := dt_Bus_drain_c0 21
def tab_Bus_ticket_c0 : List (Nat × Instr × Nat) := [(0, .iload_n 1, 1), (1, .aload_n 0, 1), (2, .getfield 147, 3), (5, .invokestatic 65, 3), (8, .iload_n 2, 1), (9, .iconst 0, 1), (10, .bipush 6, 2), (12, .invokestatic 84, 3), (15, .aload_n 0, 1), (16, .getfield 60, 3), (19, .iload_n 1, 1), (20, .aaload, 1), (21, .astore_n 3, 1), (22, .iload_n 2, 1), (23, .tableswitch 70 0 5 #[37, 42, 47, 52, 57, 62], 37), (60, .aload_n 3, 1), (61, .invokevirtual 182, 3), (64, .ireturn, 1), (65, .aload_n 3, 1), (66, .getfield 185, 3), (69, .ireturn, 1), (70, .aload_n 3, 1), (71, .getfield 188, 3), (74, .ireturn, 1)]
theorem dt_Bus_ticket_c0 (i : Nat) : decode (jm_cod M_Bus_ticket) (tab_Bus_ticket_c0.getD i (0, .iload_n 1, 1)).1 = .ok ((tab_Bus_ticket_c0.getD i (0, .iload_n 1, 1)).2.1, (tab_Bus_ticket_c0.getD i (0, .iload_n 1, 1)).2.2) := j_tab (by decide +kernel) i
theorem d_Bus_ticket_0 : decode (jm_cod M_Bus_ticket) 0 = .ok (.iload_n 1, 1) := dt_Bus_ticket_c0 0
theorem d_Bus_ticket_1 : decode (jm_cod M_Bus_ticket) 1 = .ok (.aload_n 0, 1) := dt_Bus_ticket_c0 1
theorem d_Bus_ticket_2 : decode (jm_cod M_Bus_ticket) 2 = .ok (.getfield 147, 3) := dt_Bus_ticket_c0 2
theorem d_Bus_ticket_5 : decode (jm_cod M_Bus_ticket) 5 = .ok (.invokestatic 65, 3) := dt_Bus_ticket_c0 3
theorem d_Bus_ticket_8 : decode (jm_cod M_Bus_ticket) 8 = .ok (.iload_n 2, 1) := dt_Bus_ticket_c0 4
theorem d_Bus_ticket_9 : decode (jm_cod M_Bus_ticket) 9 = .ok (.iconst 0, 1) := dt_Bus_ticket_c0 5
theorem d_Bus_ticket_10 : decode (jm_cod M_Bus_ticket) 10 = .ok (.bipush 6, 2) := dt_Bus_ticket_c0 6
theorem d_Bus_ticket_12 : decode (jm_cod M_Bus_ticket) 12 = .ok (.invokestatic 84, 3) := dt_Bus_ticket_c0 7
theorem d_Bus_ticket_15 : decode (jm_cod M_Bus_ticket) 15 = .ok (.aload_n 0, 1) := dt_Bus_ticket_c0 8
theorem d_Bus_ticket_16 : decode (jm_cod M_Bus_ticket) 16 = .ok (.getfield 60, 3) := dt_Bus_ticket_c0 9
theorem d_Bus_ticket_19 : decode (jm_cod M_Bus_ticket) 19 = .ok (.iload_n 1, 1) := dt_Bus_ticket_c0 10
theorem d_Bus_ticket_20 : decode (jm_cod M_Bus_ticket) 20 = .ok (.aaload, 1) := dt_Bus_ticket_c0 11
theorem d_Bus_ticket_21 : decode (jm_cod M_Bus_ticket) 21 = .ok (.astore_n 3, 1) := dt_Bus_ticket_c0 12
theorem d_Bus_ticket_22 : decode (jm_cod M_Bus_ticket) 22 = .ok (.iload_n 2, 1) := dt_Bus_ticket_c0 13
theorem d_Bus_ticket_23 : decode (jm_cod M_Bus_ticket) 23 = .ok (.tableswitch 70 0 5 #[37, 42, 47, 52, 57, 62], 37) := dt_Bus_ticket_c0 14
theorem d_Bus_ticket_60 : decode (jm_cod M_Bus_ticket) 60 = .ok (.aload_n 3, 1) := dt_Bus_ticket_c0 15
theorem d_Bus_ticket_61 : decode (jm_cod M_Bus_ticket) 61 = .ok (.invokevirtual 182, 3) := dt_Bus_ticket_c0 16
theorem d_Bus_ticket_64 : decode (jm_cod M_Bus_ticket) 64 = .ok (.ireturn, 1) := dt_Bus_ticket_c0 17
theorem d_Bus_ticket_65 : decode (jm_cod M_Bus_ticket) 65 = .ok (.aload_n 3, 1) := dt_Bus_ticket_c0 18
theorem d_Bus_ticket_66 : decode (jm_cod M_Bus_ticket) 66 = .ok (.getfield 185, 3) := dt_Bus_ticket_c0 19
theorem d_Bus_ticket_69 : decode (jm_cod M_Bus_ticket) 69 = .ok (.ireturn, 1) := dt_Bus_ticket_c0 20
theorem d_Bus_ticket_70 : decode (jm_cod M_Bus_ticket) 70 = .ok (.aload_n 3, 1) := dt_Bus_ticket_c0 21
theorem d_Bus_ticket_71 : decode (jm_cod M_Bus_ticket) 71 = .ok (.getfield 188, 3) := dt_Bus_ticket_c0 22
theorem d_Bus_ticket_74 : decode (jm_cod M_Bus_ticket) 74 = .ok (.ireturn, 1) := dt_Bus_ticket_c0 23
def tab_Bus_ticket_c1 : List (Nat × Instr × Nat) := [(75, .aload_n 3, 1), (76, .getfield 191, 3), (79, .ireturn, 1), (80, .aload_n 3, 1), (81, .getfield 194, 3), (84, .ireturn, 1), (85, .aload_n 3, 1), (86, .getfield 166, 3), (89, .getfield 197, 3), (92, .ireturn, 1), (93, .aload_n 0, 1), (94, .getfield 25, 3), (97, .aload_n 3, 1), (98, .getfield 166, 3), (101, .getfield 200, 3), (104, .invokevirtual 204, 3), (107, .ireturn, 1)]
theorem dt_Bus_ticket_c1 (i : Nat) : decode (jm_cod M_Bus_ticket) (tab_Bus_ticket_c1.getD i (75, .aload_n 3, 1)).1 = .ok ((tab_Bus_ticket_c1.getD i (75, .aload_n 3, 1)).2.1, (tab_Bus_ticket_c1.getD i (75, .aload_n 3, 1)).2.2) := j_tab (by decide +kernel) i
theorem d_Bus_ticket_75 : decode (jm_cod M_Bus_ticket) 75 = .ok (.aload_n 3, 1) := dt_Bus_ticket_c1 0
theorem d_Bus_ticket_76 : decode (jm_cod M_Bus_ticket) 76 = .ok (.getfield 191, 3) := dt_Bus_ticket_c1 1
theorem d_Bus_ticket_79 : decode (jm_cod M_Bus_ticket) 79 = .ok (.ireturn, 1) := dt_Bus_ticket_c1 2
theorem d_Bus_ticket_80 : decode (jm_cod M_Bus_ticket) 80 = .ok (.aload_n 3, 1) := dt_Bus_ticket_c1 3
theorem d_Bus_ticket_81 : decode (jm_cod M_Bus_ticket) 81 = .ok (.getfield 194, 3) := dt_Bus_ticket_c1 4
theorem d_Bus_ticket_84 : decode (jm_cod M_Bus_ticket) 84 = .ok (.ireturn, 1) := dt_Bus_ticket_c1 5
theorem d_Bus_ticket_85 : decode (jm_cod M_Bus_ticket) 85 = .ok (.aload_n 3, 1) := dt_Bus_ticket_c1 6
theorem d_Bus_ticket_86 : decode (jm_cod M_Bus_ticket) 86 = .ok (.getfield 166, 3) := dt_Bus_ticket_c1 7
theorem d_Bus_ticket_89 : decode (jm_cod M_Bus_ticket) 89 = .ok (.getfield 197, 3) := dt_Bus_ticket_c1 8
theorem d_Bus_ticket_92 : decode (jm_cod M_Bus_ticket) 92 = .ok (.ireturn, 1) := dt_Bus_ticket_c1 9
theorem d_Bus_ticket_93 : decode (jm_cod M_Bus_ticket) 93 = .ok (.aload_n 0, 1) := dt_Bus_ticket_c1 10
theorem d_Bus_ticket_94 : decode (jm_cod M_Bus_ticket) 94 = .ok (.getfield 25, 3) := dt_Bus_ticket_c1 11
theorem d_Bus_ticket_97 : decode (jm_cod M_Bus_ticket) 97 = .ok (.aload_n 3, 1) := dt_Bus_ticket_c1 12
theorem d_Bus_ticket_98 : decode (jm_cod M_Bus_ticket) 98 = .ok (.getfield 166, 3) := dt_Bus_ticket_c1 13
theorem d_Bus_ticket_101 : decode (jm_cod M_Bus_ticket) 101 = .ok (.getfield 200, 3) := dt_Bus_ticket_c1 14
theorem d_Bus_ticket_104 : decode (jm_cod M_Bus_ticket) 104 = .ok (.invokevirtual 204, 3) := dt_Bus_ticket_c1 15
theorem d_Bus_ticket_107 : decode (jm_cod M_Bus_ticket) 107 = .ok (.ireturn, 1) := dt_Bus_ticket_c1 16
def tab_Bus_data_c0 : List (Nat × Instr × Nat) := [(0, .iload_n 1, 1), (1, .aload_n 0, 1), (2, .getfield 147, 3), (5, .invokestatic 65, 3), (8, .aload_n 0, 1), (9, .getfield 60, 3), (12, .iload_n 1, 1), (13, .aaload, 1), (14, .getfield 166, 3), (17, .astore_n 3, 1), (18, .iload_n 2, 1), (19, .aload_n 3, 1), (20, .getfield 197, 3), (23, .invokestatic 65, 3), (26, .aload_n 3, 1), (27, .getfield 207, 3), (30, .iload_n 2, 1), (31, .laload, 1), (32, .lreturn, 1)]
theorem dt_Bus_data_c0 (i : Nat) : decode (jm_cod M_Bus_data) (tab_Bus_data_c0.getD i (0, .iload_n 1, 1)).1 = .ok ((tab_Bus_data_c0.getD i (0, .iload_n 1, 1)).2.1, (tab_Bus_data_c0.getD i (0, .iload_n 1, 1)).2.2) := j_tab (by decide +kernel) i
theorem d_Bus_data_0 : decode (jm_cod M_Bus_data) 0 = .ok (.iload_n 1, 1) := dt_Bus_data_c0 0
theorem d_Bus_data_1 : decode (jm_cod M_Bus_data) 1 = .ok (.aload_n 0, 1) := dt_Bus_data_c0 1
theorem d_Bus_data_2 : decode (jm_cod M_Bus_data) 2 = .ok (.getfield 147, 3) := dt_Bus_data_c0 2
theorem d_Bus_data_5 : decode (jm_cod M_Bus_data) 5 = .ok (.invokestatic 65, 3) := dt_Bus_data_c0 3
theorem d_Bus_data_8 : decode (jm_cod M_Bus_data) 8 = .ok (.aload_n 0, 1) := dt_Bus_data_c0 4
theorem d_Bus_data_9 : decode (jm_cod M_Bus_data) 9 = .ok (.getfield 60, 3) := dt_Bus_data_c0 5
theorem d_Bus_data_12 : decode (jm_cod M_Bus_data) 12 = .ok (.iload_n 1, 1) := dt_Bus_data_c0 6
theorem d_Bus_data_13 : decode (jm_cod M_Bus_data) 13 = .ok (.aaload, 1) := dt_Bus_data_c0 7
theorem d_Bus_data_14 : decode (jm_cod M_Bus_data) 14 = .ok (.getfield 166, 3) := dt_Bus_data_c0 8
theorem d_Bus_data_17 : decode (jm_cod M_Bus_data) 17 = .ok (.astore_n 3, 1) := dt_Bus_data_c0 9
theorem d_Bus_data_18 : decode (jm_cod M_Bus_data) 18 = .ok (.iload_n 2, 1) := dt_Bus_data_c0 10
theorem d_Bus_data_19 : decode (jm_cod M_Bus_data) 19 = .ok (.aload_n 3, 1) := dt_Bus_data_c0 11
theorem d_Bus_data_20 : decode (jm_cod M_Bus_data) 20 = .ok (.getfield 197, 3) := dt_Bus_data_c0 12
theorem d_Bus_data_23 : decode (jm_cod M_Bus_data) 23 = .ok (.invokestatic 65, 3) := dt_Bus_data_c0 13
theorem d_Bus_data_26 : decode (jm_cod M_Bus_data) 26 = .ok (.aload_n 3, 1) := dt_Bus_data_c0 14
theorem d_Bus_data_27 : decode (jm_cod M_Bus_data) 27 = .ok (.getfield 207, 3) := dt_Bus_data_c0 15
theorem d_Bus_data_30 : decode (jm_cod M_Bus_data) 30 = .ok (.iload_n 2, 1) := dt_Bus_data_c0 16
theorem d_Bus_data_31 : decode (jm_cod M_Bus_data) 31 = .ok (.laload, 1) := dt_Bus_data_c0 17
theorem d_Bus_data_32 : decode (jm_cod M_Bus_data) 32 = .ok (.lreturn, 1) := dt_Bus_data_c0 18
def tab_Bus_forget_c0 : List (Nat × Instr × Nat) := [(0, .aload_n 0, 1), (1, .invokevirtual 69, 3), (4, .ifCond .le 13, 3), (7, .new 73, 3), (10, .dup, 1), (11, .ldc 75, 2), (13, .invokespecial 77, 3), (16, .athrow, 1), (17, .aload_n 0, 1), (18, .getfield 147, 3), (21, .istore_n 1, 1), (22, .aload_n 0, 1), (23, .invokevirtual 211, 3), (26, .iload_n 1, 1), (27, .ireturn, 1)]
theorem dt_Bus_forget_c0 (i : Nat) : decode (jm_cod M_Bus_forget) (tab_Bus_forget_c0.getD i (0, .aload_n 0, 1)).1 = .ok ((tab_Bus_forget_c0.getD i (0, .aload_n 0, 1)).2.1, (tab_Bus_forget_c0.getD i (0, .aload_n 0, 1)).2.2) := j_tab (by decide +kernel) i
theorem d_Bus_forget_0 : decode (jm_cod M_Bus_forget) 0 = .ok (.aload_n 0, 1) := dt_Bus_forget_c0 0
theorem d_Bus_forget_1 : decode (jm_cod M_Bus_forget) 1 = .ok (.invokevirtual 69, 3) := dt_Bus_forget_c0 1
theorem d_Bus_forget_4 : decode (jm_cod M_Bus_forget) 4 = .ok (.ifCond .le 13, 3) := dt_Bus_forget_c0 2
theorem d_Bus_forget_7 : decode (jm_cod M_Bus_forget) 7 = .ok (.new 73, 3) := dt_Bus_forget_c0 3
theorem d_Bus_forget_10 : decode (jm_cod M_Bus_forget) 10 = .ok (.dup, 1) := dt_Bus_forget_c0 4
theorem d_Bus_forget_11 : decode (jm_cod M_Bus_forget) 11 = .ok (.ldc 75, 2) := dt_Bus_forget_c0 5
theorem d_Bus_forget_13 : decode (jm_cod M_Bus_forget) 13 = .ok (.invokespecial 77, 3) := dt_Bus_forget_c0 6
theorem d_Bus_forget_16 : decode (jm_cod M_Bus_forget) 16 = .ok (.athrow, 1) := dt_Bus_forget_c0 7
theorem d_Bus_forget_17 : decode (jm_cod M_Bus_forget) 17 = .ok (.aload_n 0, 1) := dt_Bus_forget_c0 8
theorem d_Bus_forget_18 : decode (jm_cod M_Bus_forget) 18 = .ok (.getfield 147, 3) := dt_Bus_forget_c0 9
theorem d_Bus_forget_21 : decode (jm_cod M_Bus_forget) 21 = .ok (.istore_n 1, 1) := dt_Bus_forget_c0 10
theorem d_Bus_forget_22 : decode (jm_cod M_Bus_forget) 22 = .ok (.aload_n 0, 1) := dt_Bus_forget_c0 11
theorem d_Bus_forget_23 : decode (jm_cod M_Bus_forget) 23 = .ok (.invokevirtual 211, 3) := dt_Bus_forget_c0 12
theorem d_Bus_forget_26 : decode (jm_cod M_Bus_forget) 26 = .ok (.iload_n 1, 1) := dt_Bus_forget_c0 13
theorem d_Bus_forget_27 : decode (jm_cod M_Bus_forget) 27 = .ok (.ireturn, 1) := dt_Bus_forget_c0 14
def tab_Bus_wire_c0 : List (Nat × Instr × Nat) := [(0, .aload_n 0, 1), (1, .iload_n 1, 1), (2, .iload_n 2, 1), (3, .invokevirtual 214, 3), (6, .astore 5, 2), (8, .iload_n 3, 1), (9, .iconst 5, 1), (10, .invokestatic 65, 3), (13, .iload 4, 2), (15, .iconst 0, 1), (16, .iconst 2, 1), (17, .invokestatic 84, 3), (20, .iload 4, 2), (22, .lookupswitch 58 #[(0, 26), (1, 42)], 26), (48, .aload 5, 2), (50, .getfield 218, 3), (53, .iload_n 3, 1), (54, .baload, 1), (55, .ifCond .eq 7, 3), (58, .iconst 1, 1), (59, .goto 4, 3), (62, .iconst 0, 1), (63, .ireturn, 1), (64, .aload 5, 2)]
theorem dt_Bus_wire_c0 (i : Nat) : decode (jm_cod M_Bus_wire) (tab_Bus_wire_c0.getD i (0, .aload_n 0, 1)).1 = .ok ((tab_Bus_wire_c0.getD i (0, .aload_n 0, 1)).2.1, (tab_Bus_wire_c0.getD i (0, .aload_n 0, 1)).2.2) := j_tab (by decide +kernel) i
theorem d_Bus_wire_0 : decode (jm_cod M_Bus_wire) 0 = .ok (.aload_n 0, 1) := dt_Bus_wire_c0 0
theorem d_Bus_wire_1 : decode (jm_cod M_Bus_wire) 1 = .ok (.iload_n 1, 1) := dt_Bus_wire_c0 1
theorem d_Bus_wire_2 : decode (jm_cod M_Bus_wire) 2 = .ok (.iload_n 2, 1) := dt_Bus_wire_c0 2
theorem d_Bus_wire_3 : decode (jm_cod M_Bus_wire) 3 = .ok (.invokevirtual 214, 3) := dt_Bus_wire_c0 3
theorem d_Bus_wire_6 : decode (jm_cod M_Bus_wire) 6 = .ok (.astore 5, 2) := dt_Bus_wire_c0 4
theorem d_Bus_wire_8 : decode (jm_cod M_Bus_wire) 8 = .ok (.iload_n 3, 1) := dt_Bus_wire_c0 5
theorem d_Bus_wire_9 : decode (jm_cod M_Bus_wire) 9 = .ok (.iconst 5, 1) := dt_Bus_wire_c0 6
theorem d_Bus_wire_10 : decode (jm_cod M_Bus_wire) 10 = .ok (.invokestatic 65, 3) := dt_Bus_wire_c0 7
theorem d_Bus_wire_13 : decode (jm_cod M_Bus_wire) 13 = .ok (.iload 4, 2) := dt_Bus_wire_c0 8
theorem d_Bus_wire_15 : decode (jm_cod M_Bus_wire) 15 = .ok (.iconst 0, 1) := dt_Bus_wire_c0 9
theorem d_Bus_wire_16 : decode (jm_cod M_Bus_wire) 16 = .ok (.iconst 2, 1) := dt_Bus_wire_c0 10
theorem d_Bus_wire_17 : decode (jm_cod M_Bus_wire) 17 = .ok (.invokestatic 84, 3) := dt_Bus_wire_c0 11
theorem d_Bus_wire_20 : decode (jm_cod M_Bus_wire) 20 = .ok (.iload 4, 2) := dt_Bus_wire_c0 12
theorem d_Bus_wire_22 : decode (jm_cod M_Bus_wire) 22 = .ok (.lookupswitch 58 #[(0, 26), (1, 42)], 26) := dt_Bus_wire_c0 13
theorem d_Bus_wire_48 : decode (jm_cod M_Bus_wire) 48 = .ok (.aload 5, 2) := dt_Bus_wire_c0 14
theorem d_Bus_wire_50 : decode (jm_cod M_Bus_wire) 50 = .ok (.getfield 218, 3) := dt_Bus_wire_c0 15
theorem d_Bus_wire_53 : decode (jm_cod M_Bus_wire) 53 = .ok (.iload_n 3, 1) := dt_Bus_wire_c0 16
theorem d_Bus_wire_54 : decode (jm_cod M_Bus_wire) 54 = .ok (.baload, 1) := dt_Bus_wire_c0 17
theorem d_Bus_wire_55 : decode (jm_cod M_Bus_wire) 55 = .ok (.ifCond .eq 7, 3) := dt_Bus_wire_c0 18
theorem d_Bus_wire_58 : decode (jm_cod M_Bus_wire) 58 = .ok (.iconst 1, 1) := dt_Bus_wire_c0 19
theorem d_Bus_wire_59 : decode (jm_cod M_Bus_wire) 59 = .ok (.goto 4, 3) := dt_Bus_wire_c0 20
theorem d_Bus_wire_62 : decode (jm_cod M_Bus_wire) 62 = .ok (.iconst 0, 1) := dt_Bus_wire_c0 21
theorem d_Bus_wire_63 : decode (jm_cod M_Bus_wire) 63 = .ok (.ireturn, 1) := dt_Bus_wire_c0 22
theorem d_Bus_wire_64 : decode (jm_cod M_Bus_wire) 64 = .ok (.aload 5, 2) := dt_Bus_wire_c0 23
def tab_Bus_wire_c1 : List (Nat × Instr × Nat) := [(66, .getfield 222, 3), (69, .iload_n 3, 1), (70, .baload, 1), (71, .ifCond .eq 7, 3), (74, .iconst 1, 1), (75, .goto 4, 3), (78, .iconst 0, 1), (79, .ireturn, 1), (80, .aload 5, 2), (82, .getfield 225, 3), (85, .iload_n 3, 1), (86, .iaload, 1), (87, .ireturn, 1)]
theorem dt_Bus_wire_c1 (i : Nat) : decode (jm_cod M_Bus_wire) (tab_Bus_wire_c1.getD i (66, .getfield 222, 3)).1 = .ok ((tab_Bus_wire_c1.getD i (66, .getfield 222, 3)).2.1, (tab_Bus_wire_c1.getD i (66, .getfield 222, 3)).2.2) := j_tab (by decide +kernel) i
theorem d_Bus_wire_66 : decode (jm_cod M_Bus_wire) 66 = .ok (.getfield 222, 3) := dt_Bus_wire_c1 0
theorem d_Bus_wire_69 : decode (jm_cod M_Bus_wire) 69 = .ok (.iload_n 3, 1) := dt_Bus_wire_c1 1
theorem d_Bus_wire_70 : decode (jm_cod M_Bus_wire) 70 = .ok (.baload, 1) := dt_Bus_wire_c1 2
theorem d_Bus_wire_71 : decode (jm_cod M_Bus_wire) 71 = .ok (.ifCond .eq 7, 3) := dt_Bus_wire_c1 3
theorem d_Bus_wire_74 : decode (jm_cod M_Bus_wire) 74 = .ok (.iconst 1, 1) := dt_Bus_wire_c1 4
theorem d_Bus_wire_75 : decode (jm_cod M_Bus_wire) 75 = .ok (.goto 4, 3) := dt_Bus_wire_c1 5
theorem d_Bus_wire_78 : decode (jm_cod M_Bus_wire) 78 = .ok (.iconst 0, 1) := dt_Bus_wire_c1 6
theorem d_Bus_wire_79 : decode (jm_cod M_Bus_wire) 79 = .ok (.ireturn, 1) := dt_Bus_wire_c1 7
theorem d_Bus_wire_80 : decode (jm_cod M_Bus_wire) 80 = .ok (.aload 5, 2) := dt_Bus_wire_c1 8
theorem d_Bus_wire_82 : decode (jm_cod M_Bus_wire) 82 = .ok (.getfield 225, 3) := dt_Bus_wire_c1 9
theorem d_Bus_wire_85 : decode (jm_cod M_Bus_wire) 85 = .ok (.iload_n 3, 1) := dt_Bus_wire_c1 10
theorem d_Bus_wire_86 : decode (jm_cod M_Bus_wire) 86 = .ok (.iaload, 1) := dt_Bus_wire_c1 11
theorem d_Bus_wire_87 : decode (jm_cod M_Bus_wire) 87 = .ok (.ireturn, 1) := dt_Bus_wire_c1 12
def tab_Bus_portAt_c0 : List (Nat × Instr × Nat) := [(0, .iload_n 1, 1), (1, .iconst 2, 1), (2, .invokestatic 65, 3), (5, .iload_n 1, 1), (6, .ifCond .ne 10, 3), (9, .aload_n 0, 1), (10, .getfield 37, 3), (13, .goto 7, 3), (16, .aload_n 0, 1), (17, .getfield 49, 3), (20, .astore_n 3, 1), (21, .iload_n 2, 1), (22, .aload_n 3, 1), (23, .arraylength, 1), (24, .invokestatic 65, 3), (27, .aload_n 3, 1), (28, .iload_n 2, 1), (29, .aaload, 1), (30, .areturn, 1)]
theorem dt_Bus_portAt_c0 (i : Nat) : decode (jm_cod M_Bus_portAt) (tab_Bus_portAt_c0.getD i (0, .iload_n 1, 1)).1 = .ok ((tab_Bus_portAt_c0.getD i (0, .iload_n 1, 1)).2.1, (tab_Bus_portAt_c0.getD i (0, .iload_n 1, 1)).2.2) := j_tab (by decide +kernel) i
theorem d_Bus_portAt_0 : decode (jm_cod M_Bus_portAt) 0 = .ok (.iload_n 1, 1) := dt_Bus_portAt_c0 0
theorem d_Bus_portAt_1 : decode (jm_cod M_Bus_portAt) 1 = .ok (.iconst 2, 1) := dt_Bus_portAt_c0 1
theorem d_Bus_portAt_2 : decode (jm_cod M_Bus_portAt) 2 = .ok (.invokestatic 65, 3) := dt_Bus_portAt_c0 2
theorem d_Bus_portAt_5 : decode (jm_cod M_Bus_portAt) 5 = .ok (.iload_n 1, 1) := dt_Bus_portAt_c0 3
theorem d_Bus_portAt_6 : decode (jm_cod M_Bus_portAt) 6 = .ok (.ifCond .ne 10, 3) := dt_Bus_portAt_c0 4
theorem d_Bus_portAt_9 : decode (jm_cod M_Bus_portAt) 9 = .ok (.aload_n 0, 1) := dt_Bus_portAt_c0 5
theorem d_Bus_portAt_10 : decode (jm_cod M_Bus_portAt) 10 = .ok (.getfield 37, 3) := dt_Bus_portAt_c0 6
theorem d_Bus_portAt_13 : decode (jm_cod M_Bus_portAt) 13 = .ok (.goto 7, 3) := dt_Bus_portAt_c0 7
theorem d_Bus_portAt_16 : decode (jm_cod M_Bus_portAt) 16 = .ok (.aload_n 0, 1) := dt_Bus_portAt_c0 8
theorem d_Bus_portAt_17 : decode (jm_cod M_Bus_portAt) 17 = .ok (.getfield 49, 3) := dt_Bus_portAt_c0 9
theorem d_Bus_portAt_20 : decode (jm_cod M_Bus_portAt) 20 = .ok (.astore_n 3, 1) := dt_Bus_portAt_c0 10
theorem d_Bus_portAt_21 : decode (jm_cod M_Bus_portAt) 21 = .ok (.iload_n 2, 1) := dt_Bus_portAt_c0 11
theorem d_Bus_portAt_22 : decode (jm_cod M_Bus_portAt) 22 = .ok (.aload_n 3, 1) := dt_Bus_portAt_c0 12
theorem d_Bus_portAt_23 : decode (jm_cod M_Bus_portAt) 23 = .ok (.arraylength, 1) := dt_Bus_portAt_c0 13
theorem d_Bus_portAt_24 : decode (jm_cod M_Bus_portAt) 24 = .ok (.invokestatic 65, 3) := dt_Bus_portAt_c0 14
theorem d_Bus_portAt_27 : decode (jm_cod M_Bus_portAt) 27 = .ok (.aload_n 3, 1) := dt_Bus_portAt_c0 15
theorem d_Bus_portAt_28 : decode (jm_cod M_Bus_portAt) 28 = .ok (.iload_n 2, 1) := dt_Bus_portAt_c0 16
theorem d_Bus_portAt_29 : decode (jm_cod M_Bus_portAt) 29 = .ok (.aaload, 1) := dt_Bus_portAt_c0 17
theorem d_Bus_portAt_30 : decode (jm_cod M_Bus_portAt) 30 = .ok (.areturn, 1) := dt_Bus_portAt_c0 18
def tab_Bus_content_c0 : List (Nat × Instr × Nat) := [(0, .aload_n 0, 1), (1, .iload_n 1, 1), (2, .iload_n 2, 1), (3, .invokevirtual 214, 3), (6, .astore 4, 2), (8, .iload_n 3, 1), (9, .iconst 5, 1), (10, .invokestatic 65, 3), (13, .aload 4, 2), (15, .getfield 228, 3), (18, .iload_n 3, 1), (19, .laload, 1), (20, .lreturn, 1)]
theorem dt_Bus_content_c0 (i : Nat) : decode (jm_cod M_Bus_content) (tab_Bus_content_c0.getD i (0, .aload_n 0, 1)).1 = .ok ((tab_Bus_content_c0.getD i (0, .aload_n 0, 1)).2.1, (tab_Bus_content_c0.getD i (0, .aload_n 0, 1)).2.2) := j_tab (by decide +kernel) i
theorem d_Bus_content_0 : decode (jm_cod M_Bus_content) 0 = .ok (.aload_n 0, 1) := dt_Bus_content_c0 0
theorem d_Bus_content_1 : decode (jm_cod M_Bus_content) 1 = .ok (.iload_n 1, 1) := dt_Bus_content_c0 1
theorem d_Bus_content_2 : decode (jm_cod M_Bus_content) 2 = .ok (.iload_n 2, 1) := dt_Bus_content_c0 2
theorem d_Bus_content_3 : decode (jm_cod M_Bus_content) 3 = .ok (.invokevirtual 214, 3) := dt_Bus_content_c0 3
theorem d_Bus_content_6 : decode (jm_cod M_Bus_content) 6 = .ok (.astore 4, 2) := dt_Bus_content_c0 4
theorem d_Bus_content_8 : decode (jm_cod M_Bus_content) 8 = .ok (.iload_n 3, 1) := dt_Bus_content_c0 5
theorem d_Bus_content_9 : decode (jm_cod M_Bus_content) 9 = .ok (.iconst 5, 1) := dt_Bus_content_c0 6
theorem d_Bus_content_10 : decode (jm_cod M_Bus_content) 10 = .ok (.invokestatic 65, 3) := dt_Bus_content_c0 7
theorem d_Bus_content_13 : decode (jm_cod M_Bus_content) 13 = .ok (.aload 4, 2) := dt_Bus_content_c0 8
theorem d_Bus_content_15 : decode (jm_cod M_Bus_content) 15 = .ok (.getfield 228, 3) := dt_Bus_content_c0 9
theorem d_Bus_content_18 : decode (jm_cod M_Bus_content) 18 = .ok (.iload_n 3, 1) := dt_Bus_content_c0 10
theorem d_Bus_content_19 : decode (jm_cod M_Bus_content) 19 = .ok (.laload, 1) := dt_Bus_content_c0 11
theorem d_Bus_content_20 : decode (jm_cod M_Bus_content) 20 = .ok (.lreturn, 1) := dt_Bus_content_c0 12
def tab_Bus_port_c0 : List (Nat × Instr × Nat) := [(0, .aload_n 0, 1), (1, .iload_n 1, 1), (2, .iload_n 2, 1), (3, .invokevirtual 214, 3), (6, .astore 4, 2), (8, .iload_n 3, 1), (9, .iconst 0, 1), (10, .bipush 7, 2), (12, .invokestatic 84, 3), (15, .iload_n 3, 1), (16, .iconst 5, 1), (17, .if_icmp .ge 11, 3), (20, .aload 4, 2), (22, .getfield 231, 3), (25, .iload_n 3, 1), (26, .iaload, 1), (27, .ireturn, 1), (28, .aload 4, 2), (30, .getfield 234, 3), (33, .iload_n 3, 1), (34, .iconst 5, 1), (35, .isub, 1), (36, .invokevirtual 238, 3), (39, .ireturn, 1)]
theorem dt_Bus_port_c0 (i : Nat) : decode (jm_cod M_Bus_port) (tab_Bus_port_c0.getD i (0, .aload_n 0, 1)).1 = .ok ((tab_Bus_port_c0.getD i (0, .aload_n 0, 1)).2.1, (tab_Bus_port_c0.getD i (0, .aload_n 0, 1)).2.2) := j_tab (by decide +kernel) i
theorem d_Bus_port_0 : decode (jm_cod M_Bus_port) 0 = .ok (.aload_n 0, 1) := dt_Bus_port_c0 0
theorem d_Bus_port_1 : decode (jm_cod M_Bus_port) 1 = .ok (.iload_n 1, 1) := dt_Bus_port_c0 1
theorem d_Bus_port_2 : decode (jm_cod M_Bus_port) 2 = .ok (.iload_n 2, 1) := dt_Bus_port_c0 2
theorem d_Bus_port_3 : decode (jm_cod M_Bus_port) 3 = .ok (.invokevirtual 214, 3) := dt_Bus_port_c0 3
theorem d_Bus_port_6 : decode (jm_cod M_Bus_port) 6 = .ok (.astore 4, 2) := dt_Bus_port_c0 4
theorem d_Bus_port_8 : decode (jm_cod M_Bus_port) 8 = .ok (.iload_n 3, 1) := dt_Bus_port_c0 5
theorem d_Bus_port_9 : decode (jm_cod M_Bus_port) 9 = .ok (.iconst 0, 1) := dt_Bus_port_c0 6
theorem d_Bus_port_10 : decode (jm_cod M_Bus_port) 10 = .ok (.bipush 7, 2) := dt_Bus_port_c0 7
theorem d_Bus_port_12 : decode (jm_cod M_Bus_port) 12 = .ok (.invokestatic 84, 3) := dt_Bus_port_c0 8
theorem d_Bus_port_15 : decode (jm_cod M_Bus_port) 15 = .ok (.iload_n 3, 1) := dt_Bus_port_c0 9
theorem d_Bus_port_16 : decode (jm_cod M_Bus_port) 16 = .ok (.iconst 5, 1) := dt_Bus_port_c0 10
theorem d_Bus_port_17 : decode (jm_cod M_Bus_port) 17 = .ok (.if_icmp .ge 11, 3) := dt_Bus_port_c0 11
theorem d_Bus_port_20 : decode (jm_cod M_Bus_port) 20 = .ok (.aload 4, 2) := dt_Bus_port_c0 12
theorem d_Bus_port_22 : decode (jm_cod M_Bus_port) 22 = .ok (.getfield 231, 3) := dt_Bus_port_c0 13
theorem d_Bus_port_25 : decode (jm_cod M_Bus_port) 25 = .ok (.iload_n 3, 1) := dt_Bus_port_c0 14
theorem d_Bus_port_26 : decode (jm_cod M_Bus_port) 26 = .ok (.iaload, 1) := dt_Bus_port_c0 15
theorem d_Bus_port_27 : decode (jm_cod M_Bus_port) 27 = .ok (.ireturn, 1) := dt_Bus_port_c0 16
theorem d_Bus_port_28 : decode (jm_cod M_Bus_port) 28 = .ok (.aload 4, 2) := dt_Bus_port_c0 17
theorem d_Bus_port_30 : decode (jm_cod M_Bus_port) 30 = .ok (.getfield 234, 3) := dt_Bus_port_c0 18
theorem d_Bus_port_33 : decode (jm_cod M_Bus_port) 33 = .ok (.iload_n 3, 1) := dt_Bus_port_c0 19
theorem d_Bus_port_34 : decode (jm_cod M_Bus_port) 34 = .ok (.iconst 5, 1) := dt_Bus_port_c0 20
theorem d_Bus_port_35 : decode (jm_cod M_Bus_port) 35 = .ok (.isub, 1) := dt_Bus_port_c0 21
theorem d_Bus_port_36 : decode (jm_cod M_Bus_port) 36 = .ok (.invokevirtual 238, 3) := dt_Bus_port_c0 22
theorem d_Bus_port_39 : decode (jm_cod M_Bus_port) 39 = .ok (.ireturn, 1) := dt_Bus_port_c0 23
def tab_Bus_target_c0 : List (Nat × Instr × Nat) := [(0, .iload_n 1, 1), (1, .aload_n 0, 1), (2, .getfield 45, 3), (5, .arraylength, 1), (6, .iconst 1, 1), (7, .iadd, 1), (8, .invokestatic 65, 3), (11, .iload_n 2, 1), (12, .iconst 0, 1), (13, .iconst 3, 1), (14, .invokestatic 84, 3), (17, .iload_n 2, 1), (18, .ifCond .ne 13, 3), (21, .aload_n 0, 1), (22, .getfield 25, 3), (25, .iload_n 1, 1), (26, .iconst 0, 1), (27, .invokevirtual 243, 3), (30, .ireturn, 1), (31, .iload_n 2, 1), (32, .iconst 1, 1), (33, .if_icmp .ne 13, 3), (36, .aload_n 0, 1), (37, .getfield 25, 3)]
theorem dt_Bus_target_c0 (i : Nat) : decode (jm_cod M_Bus_target) (tab_Bus_target_c0.getD i (0, .iload_n 1, 1)).1 = .ok ((tab_Bus_target_c0.getD i (0, .iload_n 1, 1)).2.1, (tab_Bus_target_c0.getD i (0, .iload_n 1, 1)).2.2) := j_tab (by decide +kernel) i
theorem d_Bus_target_0 : decode (jm_cod M_Bus_target) 0 = .ok (.iload_n 1, 1) := dt_Bus_target_c0 0
theorem d_Bus_target_1 : decode (jm_cod M_Bus_target) 1 = .ok (.aload_n 0, 1) := dt_Bus_target_c0 1
theorem d_Bus_target_2 : decode (jm_cod M_Bus_target) 2 = .ok (.getfield 45, 3) := dt_Bus_target_c0 2
theorem d_Bus_target_5 : decode (jm_cod M_Bus_target) 5 = .ok (.arraylength, 1) := dt_Bus_target_c0 3
theorem d_Bus_target_6 : decode (jm_cod M_Bus_target) 6 = .ok (.iconst 1, 1) := dt_Bus_target_c0 4
theorem d_Bus_target_7 : decode (jm_cod M_Bus_target) 7 = .ok (.iadd, 1) := dt_Bus_target_c0 5
theorem d_Bus_target_8 : decode (jm_cod M_Bus_target) 8 = .ok (.invokestatic 65, 3) := dt_Bus_target_c0 6
theorem d_Bus_target_11 : decode (jm_cod M_Bus_target) 11 = .ok (.iload_n 2, 1) := dt_Bus_target_c0 7
theorem d_Bus_target_12 : decode (jm_cod M_Bus_target) 12 = .ok (.iconst 0, 1) := dt_Bus_target_c0 8
theorem d_Bus_target_13 : decode (jm_cod M_Bus_target) 13 = .ok (.iconst 3, 1) := dt_Bus_target_c0 9
theorem d_Bus_target_14 : decode (jm_cod M_Bus_target) 14 = .ok (.invokestatic 84, 3) := dt_Bus_target_c0 10
theorem d_Bus_target_17 : decode (jm_cod M_Bus_target) 17 = .ok (.iload_n 2, 1) := dt_Bus_target_c0 11
theorem d_Bus_target_18 : decode (jm_cod M_Bus_target) 18 = .ok (.ifCond .ne 13, 3) := dt_Bus_target_c0 12
theorem d_Bus_target_21 : decode (jm_cod M_Bus_target) 21 = .ok (.aload_n 0, 1) := dt_Bus_target_c0 13
theorem d_Bus_target_22 : decode (jm_cod M_Bus_target) 22 = .ok (.getfield 25, 3) := dt_Bus_target_c0 14
theorem d_Bus_target_25 : decode (jm_cod M_Bus_target) 25 = .ok (.iload_n 1, 1) := dt_Bus_target_c0 15
theorem d_Bus_target_26 : decode (jm_cod M_Bus_target) 26 = .ok (.iconst 0, 1) := dt_Bus_target_c0 16
theorem d_Bus_target_27 : decode (jm_cod M_Bus_target) 27 = .ok (.invokevirtual 243, 3) := dt_Bus_target_c0 17
theorem d_Bus_target_30 : decode (jm_cod M_Bus_target) 30 = .ok (.ireturn, 1) := dt_Bus_target_c0 18
theorem d_Bus_target_31 : decode (jm_cod M_Bus_target) 31 = .ok (.iload_n 2, 1) := dt_Bus_target_c0 19
theorem d_Bus_target_32 : decode (jm_cod M_Bus_target) 32 = .ok (.iconst 1, 1) := dt_Bus_target_c0 20
theorem d_Bus_target_33 : decode (jm_cod M_Bus_target) 33 = .ok (.if_icmp .ne 13, 3) := dt_Bus_target_c0 21
theorem d_Bus_target_36 : decode (jm_cod M_Bus_target) 36 = .ok (.aload_n 0, 1) := dt_Bus_target_c0 22
theorem d_Bus_target_37 : decode (jm_cod M_Bus_target) 37 = .ok (.getfield 25, 3) := dt_Bus_target_c0 23
def tab_Bus_target_c1 : List (Nat × Instr × Nat) := [(40, .iload_n 1, 1), (41, .iconst 3, 1), (42, .invokevirtual 243, 3), (45, .ireturn, 1), (46, .iload_n 1, 1), (47, .aload_n 0, 1), (48, .getfield 45, 3), (51, .arraylength, 1), (52, .if_icmp .ne 5, 3), (55, .iconst 0, 1), (56, .ireturn, 1), (57, .iload_n 2, 1), (58, .iconst 2, 1), (59, .if_icmp .ne 18, 3), (62, .aload_n 0, 1), (63, .getfield 45, 3), (66, .iload_n 1, 1), (67, .aaload, 1), (68, .getfield 246, 3), (71, .getfield 250, 3), (74, .goto 15, 3), (77, .aload_n 0, 1), (78, .getfield 45, 3), (81, .iload_n 1, 1)]
theorem dt_Bus_target_c1 (i : Nat) : decode (jm_cod M_Bus_target) (tab_Bus_target_c1.getD i (40, .iload_n 1, 1)).1 = .ok ((tab_Bus_target_c1.getD i (40, .iload_n 1, 1)).2.1, (tab_Bus_target_c1.getD i (40, .iload_n 1, 1)).2.2) := j_tab (by decide +kernel) i
theorem d_Bus_target_40 : decode (jm_cod M_Bus_target) 40 = .ok (.iload_n 1, 1) := dt_Bus_target_c1 0
theorem d_Bus_target_41 : decode (jm_cod M_Bus_target) 41 = .ok (.iconst 3, 1) := dt_Bus_target_c1 1
theorem d_Bus_target_42 : decode (jm_cod M_Bus_target) 42 = .ok (.invokevirtual 243, 3) := dt_Bus_target_c1 2
theorem d_Bus_target_45 : decode (jm_cod M_Bus_target) 45 = .ok (.ireturn, 1) := dt_Bus_target_c1 3
theorem d_Bus_target_46 : decode (jm_cod M_Bus_target) 46 = .ok (.iload_n 1, 1) := dt_Bus_target_c1 4
theorem d_Bus_target_47 : decode (jm_cod M_Bus_target) 47 = .ok (.aload_n 0, 1) := dt_Bus_target_c1 5
theorem d_Bus_target_48 : decode (jm_cod M_Bus_target) 48 = .ok (.getfield 45, 3) := dt_Bus_target_c1 6
theorem d_Bus_target_51 : decode (jm_cod M_Bus_target) 51 = .ok (.arraylength, 1) := dt_Bus_target_c1 7
theorem d_Bus_target_52 : decode (jm_cod M_Bus_target) 52 = .ok (.if_icmp .ne 5, 3) := dt_Bus_target_c1 8
theorem d_Bus_target_55 : decode (jm_cod M_Bus_target) 55 = .ok (.iconst 0, 1) := dt_Bus_target_c1 9
theorem d_Bus_target_56 : decode (jm_cod M_Bus_target) 56 = .ok (.ireturn, 1) := dt_Bus_target_c1 10
theorem d_Bus_target_57 : decode (jm_cod M_Bus_target) 57 = .ok (.iload_n 2, 1) := dt_Bus_target_c1 11
theorem d_Bus_target_58 : decode (jm_cod M_Bus_target) 58 = .ok (.iconst 2, 1) := dt_Bus_target_c1 12
theorem d_Bus_target_59 : decode (jm_cod M_Bus_target) 59 = .ok (.if_icmp .ne 18, 3) := dt_Bus_target_c1 13
theorem d_Bus_target_62 : decode (jm_cod M_Bus_target) 62 = .ok (.aload_n 0, 1) := dt_Bus_target_c1 14
theorem d_Bus_target_63 : decode (jm_cod M_Bus_target) 63 = .ok (.getfield 45, 3) := dt_Bus_target_c1 15
theorem d_Bus_target_66 : decode (jm_cod M_Bus_target) 66 = .ok (.iload_n 1, 1) := dt_Bus_target_c1 16
theorem d_Bus_target_67 : decode (jm_cod M_Bus_target) 67 = .ok (.aaload, 1) := dt_Bus_target_c1 17
theorem d_Bus_target_68 : decode (jm_cod M_Bus_target) 68 = .ok (.getfield 246, 3) := dt_Bus_target_c1 18
theorem d_Bus_target_71 : decode (jm_cod M_Bus_target) 71 = .ok (.getfield 250, 3) := dt_Bus_target_c1 19
theorem d_Bus_target_74 : decode (jm_cod M_Bus_target) 74 = .ok (.goto 15, 3) := dt_Bus_target_c1 20
theorem d_Bus_target_77 : decode (jm_cod M_Bus_target) 77 = .ok (.aload_n 0, 1) := dt_Bus_target_c1 21
theorem d_Bus_target_78 : decode (jm_cod M_Bus_target) 78 = .ok (.getfield 45, 3) := dt_Bus_target_c1 22
theorem d_Bus_target_81 : decode (jm_cod M_Bus_target) 81 = .ok (.iload_n 1, 1) := dt_Bus_target_c1 23
def tab_Bus_target_c2 : List (Nat × Instr × Nat) := [(82, .aaload, 1), (83, .getfield 255, 3), (86, .getfield 250, 3), (89, .ireturn, 1)]
theorem dt_Bus_target_c2 (i : Nat) : decode (jm_cod M_Bus_target) (tab_Bus_target_c2.getD i (82, .aaload, 1)).1 = .ok ((tab_Bus_target_c2.getD i (82, .aaload, 1)).2.1, (tab_Bus_target_c2.getD i (82, .aaload, 1)).2.2) := j_tab (by decide +kernel) i
theorem d_Bus_target_82 : decode (jm_cod M_Bus_target) 82 = .ok (.aaload, 1) := dt_Bus_target_c2 0
theorem d_Bus_target_83 : decode (jm_cod M_Bus_target) 83 = .ok (.getfield 255, 3) := dt_Bus_target_c2 1
theorem d_Bus_target_86 : decode (jm_cod M_Bus_target) 86 = .ok (.getfield 250, 3) := dt_Bus_target_c2 2
theorem d_Bus_target_89 : decode (jm_cod M_Bus_target) 89 = .ok (.ireturn, 1) := dt_Bus_target_c2 3
def tab_Bus_right_c0 : List (Nat × Instr × Nat) := [(0, .iload_n 1, 1), (1, .aload_n 0, 1), (2, .getfield 45, 3), (5, .arraylength, 1), (6, .invokestatic 65, 3), (9, .iload_n 2, 1), (10, .iconst 0, 1), (11, .bipush 63, 2), (13, .invokestatic 84, 3), (16, .aload_n 0, 1), (17, .getfield 45, 3), (20, .iload_n 1, 1), (21, .aaload, 1), (22, .getfield 258, 3), (25, .iload_n 2, 1), (26, .iaload, 1), (27, .ireturn, 1)]
theorem dt_Bus_right_c0 (i : Nat) : decode (jm_cod M_Bus_right) (tab_Bus_right_c0.getD i (0, .iload_n 1, 1)).1 = .ok ((tab_Bus_right_c0.getD i (0, .iload_n 1, 1)).2.1, (tab_Bus_right_c0.getD i (0, .iload_n 1, 1)).2.2) := j_tab (by decide +kernel) i
theorem d_Bus_right_0 : decode (jm_cod M_Bus_right) 0 = .ok (.iload_n 1, 1) := dt_Bus_right_c0 0
theorem d_Bus_right_1 : decode (jm_cod M_Bus_right) 1 = .ok (.aload_n 0, 1) := dt_Bus_right_c0 1
theorem d_Bus_right_2 : decode (jm_cod M_Bus_right) 2 = .ok (.getfield 45, 3) := dt_Bus_right_c0 2
theorem d_Bus_right_5 : decode (jm_cod M_Bus_right) 5 = .ok (.arraylength, 1) := dt_Bus_right_c0 3
theorem d_Bus_right_6 : decode (jm_cod M_Bus_right) 6 = .ok (.invokestatic 65, 3) := dt_Bus_right_c0 4
theorem d_Bus_right_9 : decode (jm_cod M_Bus_right) 9 = .ok (.iload_n 2, 1) := dt_Bus_right_c0 5
theorem d_Bus_right_10 : decode (jm_cod M_Bus_right) 10 = .ok (.iconst 0, 1) := dt_Bus_right_c0 6
theorem d_Bus_right_11 : decode (jm_cod M_Bus_right) 11 = .ok (.bipush 63, 2) := dt_Bus_right_c0 7
theorem d_Bus_right_13 : decode (jm_cod M_Bus_right) 13 = .ok (.invokestatic 84, 3) := dt_Bus_right_c0 8
theorem d_Bus_right_16 : decode (jm_cod M_Bus_right) 16 = .ok (.aload_n 0, 1) := dt_Bus_right_c0 9
theorem d_Bus_right_17 : decode (jm_cod M_Bus_right) 17 = .ok (.getfield 45, 3) := dt_Bus_right_c0 10
theorem d_Bus_right_20 : decode (jm_cod M_Bus_right) 20 = .ok (.iload_n 1, 1) := dt_Bus_right_c0 11
theorem d_Bus_right_21 : decode (jm_cod M_Bus_right) 21 = .ok (.aaload, 1) := dt_Bus_right_c0 12
theorem d_Bus_right_22 : decode (jm_cod M_Bus_right) 22 = .ok (.getfield 258, 3) := dt_Bus_right_c0 13
theorem d_Bus_right_25 : decode (jm_cod M_Bus_right) 25 = .ok (.iload_n 2, 1) := dt_Bus_right_c0 14
theorem d_Bus_right_26 : decode (jm_cod M_Bus_right) 26 = .ok (.iaload, 1) := dt_Bus_right_c0 15
theorem d_Bus_right_27 : decode (jm_cod M_Bus_right) 27 = .ok (.ireturn, 1) := dt_Bus_right_c0 16
def tab_Bus_see_c0 : List (Nat × Instr × Nat) := [(0, .iload_n 1, 1), (1, .iconst 2, 1), (2, .invokestatic 65, 3), (5, .iload_n 2, 1), (6, .iconst 5, 1), (7, .invokestatic 65, 3), (10, .iload_n 3, 1), (11, .iconst 0, 1), (12, .iconst 3, 1), (13, .invokestatic 84, 3), (16, .iload 6, 2), (18, .iconst 0, 1), (19, .sipush 511, 3), (22, .invokestatic 84, 3), (25, .aload_n 0, 1), (26, .getfield 55, 3), (29, .iload_n 1, 1), (30, .aaload, 1), (31, .astore 7, 2), (33, .aload 7, 2), (35, .iload_n 2, 1), (36, .invokevirtual 264, 3), (39, .iload_n 3, 1), (40, .iconst 1, 1)]
theorem dt_Bus_see_c0 (i : Nat) : decode (jm_cod M_Bus_see) (tab_Bus_see_c0.getD i (0, .iload_n 1, 1)).1 = .ok ((tab_Bus_see_c0.getD i (0, .iload_n 1, 1)).2.1, (tab_Bus_see_c0.getD i (0, .iload_n 1, 1)).2.2) := j_tab (by decide +kernel) i
theorem d_Bus_see_0 : decode (jm_cod M_Bus_see) 0 = .ok (.iload_n 1, 1) := dt_Bus_see_c0 0
theorem d_Bus_see_1 : decode (jm_cod M_Bus_see) 1 = .ok (.iconst 2, 1) := dt_Bus_see_c0 1
theorem d_Bus_see_2 : decode (jm_cod M_Bus_see) 2 = .ok (.invokestatic 65, 3) := dt_Bus_see_c0 2
theorem d_Bus_see_5 : decode (jm_cod M_Bus_see) 5 = .ok (.iload_n 2, 1) := dt_Bus_see_c0 3
theorem d_Bus_see_6 : decode (jm_cod M_Bus_see) 6 = .ok (.iconst 5, 1) := dt_Bus_see_c0 4
theorem d_Bus_see_7 : decode (jm_cod M_Bus_see) 7 = .ok (.invokestatic 65, 3) := dt_Bus_see_c0 5
theorem d_Bus_see_10 : decode (jm_cod M_Bus_see) 10 = .ok (.iload_n 3, 1) := dt_Bus_see_c0 6
theorem d_Bus_see_11 : decode (jm_cod M_Bus_see) 11 = .ok (.iconst 0, 1) := dt_Bus_see_c0 7
theorem d_Bus_see_12 : decode (jm_cod M_Bus_see) 12 = .ok (.iconst 3, 1) := dt_Bus_see_c0 8
theorem d_Bus_see_13 : decode (jm_cod M_Bus_see) 13 = .ok (.invokestatic 84, 3) := dt_Bus_see_c0 9
theorem d_Bus_see_16 : decode (jm_cod M_Bus_see) 16 = .ok (.iload 6, 2) := dt_Bus_see_c0 10
theorem d_Bus_see_18 : decode (jm_cod M_Bus_see) 18 = .ok (.iconst 0, 1) := dt_Bus_see_c0 11
theorem d_Bus_see_19 : decode (jm_cod M_Bus_see) 19 = .ok (.sipush 511, 3) := dt_Bus_see_c0 12
theorem d_Bus_see_22 : decode (jm_cod M_Bus_see) 22 = .ok (.invokestatic 84, 3) := dt_Bus_see_c0 13
theorem d_Bus_see_25 : decode (jm_cod M_Bus_see) 25 = .ok (.aload_n 0, 1) := dt_Bus_see_c0 14
theorem d_Bus_see_26 : decode (jm_cod M_Bus_see) 26 = .ok (.getfield 55, 3) := dt_Bus_see_c0 15
theorem d_Bus_see_29 : decode (jm_cod M_Bus_see) 29 = .ok (.iload_n 1, 1) := dt_Bus_see_c0 16
theorem d_Bus_see_30 : decode (jm_cod M_Bus_see) 30 = .ok (.aaload, 1) := dt_Bus_see_c0 17
theorem d_Bus_see_31 : decode (jm_cod M_Bus_see) 31 = .ok (.astore 7, 2) := dt_Bus_see_c0 18
theorem d_Bus_see_33 : decode (jm_cod M_Bus_see) 33 = .ok (.aload 7, 2) := dt_Bus_see_c0 19
theorem d_Bus_see_35 : decode (jm_cod M_Bus_see) 35 = .ok (.iload_n 2, 1) := dt_Bus_see_c0 20
theorem d_Bus_see_36 : decode (jm_cod M_Bus_see) 36 = .ok (.invokevirtual 264, 3) := dt_Bus_see_c0 21
theorem d_Bus_see_39 : decode (jm_cod M_Bus_see) 39 = .ok (.iload_n 3, 1) := dt_Bus_see_c0 22
theorem d_Bus_see_40 : decode (jm_cod M_Bus_see) 40 = .ok (.iconst 1, 1) := dt_Bus_see_c0 23
def tab_Bus_see_c1 : List (Nat × Instr × Nat) := [(41, .iand, 1), (42, .ifCond .eq 13, 3), (45, .aload 7, 2), (47, .iload_n 2, 1), (48, .lload 4, 2), (50, .iload 6, 2), (52, .invokevirtual 268, 3), (55, .aload 7, 2), (57, .getfield 222, 3), (60, .iload_n 2, 1), (61, .iload_n 3, 1), (62, .iconst 2, 1), (63, .iand, 1), (64, .ifCond .eq 7, 3), (67, .iconst 1, 1), (68, .goto 4, 3), (71, .iconst 0, 1), (72, .bastore, 1), (73, .return_, 1)]
theorem dt_Bus_see_c1 (i : Nat) : decode (jm_cod M_Bus_see) (tab_Bus_see_c1.getD i (41, .iand, 1)).1 = .ok ((tab_Bus_see_c1.getD i (41, .iand, 1)).2.1, (tab_Bus_see_c1.getD i (41, .iand, 1)).2.2) := j_tab (by decide +kernel) i
theorem d_Bus_see_41 : decode (jm_cod M_Bus_see) 41 = .ok (.iand, 1) := dt_Bus_see_c1 0
theorem d_Bus_see_42 : decode (jm_cod M_Bus_see) 42 = .ok (.ifCond .eq 13, 3) := dt_Bus_see_c1 1
theorem d_Bus_see_45 : decode (jm_cod M_Bus_see) 45 = .ok (.aload 7, 2) := dt_Bus_see_c1 2
theorem d_Bus_see_47 : decode (jm_cod M_Bus_see) 47 = .ok (.iload_n 2, 1) := dt_Bus_see_c1 3
theorem d_Bus_see_48 : decode (jm_cod M_Bus_see) 48 = .ok (.lload 4, 2) := dt_Bus_see_c1 4
theorem d_Bus_see_50 : decode (jm_cod M_Bus_see) 50 = .ok (.iload 6, 2) := dt_Bus_see_c1 5
theorem d_Bus_see_52 : decode (jm_cod M_Bus_see) 52 = .ok (.invokevirtual 268, 3) := dt_Bus_see_c1 6
theorem d_Bus_see_55 : decode (jm_cod M_Bus_see) 55 = .ok (.aload 7, 2) := dt_Bus_see_c1 7
theorem d_Bus_see_57 : decode (jm_cod M_Bus_see) 57 = .ok (.getfield 222, 3) := dt_Bus_see_c1 8
theorem d_Bus_see_60 : decode (jm_cod M_Bus_see) 60 = .ok (.iload_n 2, 1) := dt_Bus_see_c1 9
theorem d_Bus_see_61 : decode (jm_cod M_Bus_see) 61 = .ok (.iload_n 3, 1) := dt_Bus_see_c1 10
theorem d_Bus_see_62 : decode (jm_cod M_Bus_see) 62 = .ok (.iconst 2, 1) := dt_Bus_see_c1 11
theorem d_Bus_see_63 : decode (jm_cod M_Bus_see) 63 = .ok (.iand, 1) := dt_Bus_see_c1 12
theorem d_Bus_see_64 : decode (jm_cod M_Bus_see) 64 = .ok (.ifCond .eq 7, 3) := dt_Bus_see_c1 13
theorem d_Bus_see_67 : decode (jm_cod M_Bus_see) 67 = .ok (.iconst 1, 1) := dt_Bus_see_c1 14
theorem d_Bus_see_68 : decode (jm_cod M_Bus_see) 68 = .ok (.goto 4, 3) := dt_Bus_see_c1 15
theorem d_Bus_see_71 : decode (jm_cod M_Bus_see) 71 = .ok (.iconst 0, 1) := dt_Bus_see_c1 16
theorem d_Bus_see_72 : decode (jm_cod M_Bus_see) 72 = .ok (.bastore, 1) := dt_Bus_see_c1 17
theorem d_Bus_see_73 : decode (jm_cod M_Bus_see) 73 = .ok (.return_, 1) := dt_Bus_see_c1 18
def tab_Bus_judge_c0 : List (Nat × Instr × Nat) := [(0, .iload_n 1, 1), (1, .iconst 2, 1), (2, .invokestatic 65, 3), (5, .aload_n 0, 1), (6, .getfield 55, 3), (9, .iload_n 1, 1), (10, .aaload, 1), (11, .astore_n 2, 1), (12, .aload_n 2, 1), (13, .getfield 234, 3), (16, .aload_n 2, 1), (17, .invokevirtual 271, 3), (20, .aload_n 2, 1), (21, .invokevirtual 275, 3), (24, .aload_n 2, 1), (25, .getfield 234, 3), (28, .getfield 278, 3), (31, .ireturn, 1)]
theorem dt_Bus_judge_c0 (i : Nat) : decode (jm_cod M_Bus_judge) (tab_Bus_judge_c0.getD i (0, .iload_n 1, 1)).1 = .ok ((tab_Bus_judge_c0.getD i (0, .iload_n 1, 1)).2.1, (tab_Bus_judge_c0.getD i (0, .iload_n 1, 1)).2.2) := j_tab (by decide +kernel) i
theorem d_Bus_judge_0 : decode (jm_cod M_Bus_judge) 0 = .ok (.iload_n 1, 1) := dt_Bus_judge_c0 0
theorem d_Bus_judge_1 : decode (jm_cod M_Bus_judge) 1 = .ok (.iconst 2, 1) := dt_Bus_judge_c0 1
theorem d_Bus_judge_2 : decode (jm_cod M_Bus_judge) 2 = .ok (.invokestatic 65, 3) := dt_Bus_judge_c0 2
theorem d_Bus_judge_5 : decode (jm_cod M_Bus_judge) 5 = .ok (.aload_n 0, 1) := dt_Bus_judge_c0 3
theorem d_Bus_judge_6 : decode (jm_cod M_Bus_judge) 6 = .ok (.getfield 55, 3) := dt_Bus_judge_c0 4
theorem d_Bus_judge_9 : decode (jm_cod M_Bus_judge) 9 = .ok (.iload_n 1, 1) := dt_Bus_judge_c0 5
theorem d_Bus_judge_10 : decode (jm_cod M_Bus_judge) 10 = .ok (.aaload, 1) := dt_Bus_judge_c0 6
theorem d_Bus_judge_11 : decode (jm_cod M_Bus_judge) 11 = .ok (.astore_n 2, 1) := dt_Bus_judge_c0 7
theorem d_Bus_judge_12 : decode (jm_cod M_Bus_judge) 12 = .ok (.aload_n 2, 1) := dt_Bus_judge_c0 8
theorem d_Bus_judge_13 : decode (jm_cod M_Bus_judge) 13 = .ok (.getfield 234, 3) := dt_Bus_judge_c0 9
theorem d_Bus_judge_16 : decode (jm_cod M_Bus_judge) 16 = .ok (.aload_n 2, 1) := dt_Bus_judge_c0 10
theorem d_Bus_judge_17 : decode (jm_cod M_Bus_judge) 17 = .ok (.invokevirtual 271, 3) := dt_Bus_judge_c0 11
theorem d_Bus_judge_20 : decode (jm_cod M_Bus_judge) 20 = .ok (.aload_n 2, 1) := dt_Bus_judge_c0 12
theorem d_Bus_judge_21 : decode (jm_cod M_Bus_judge) 21 = .ok (.invokevirtual 275, 3) := dt_Bus_judge_c0 13
theorem d_Bus_judge_24 : decode (jm_cod M_Bus_judge) 24 = .ok (.aload_n 2, 1) := dt_Bus_judge_c0 14
theorem d_Bus_judge_25 : decode (jm_cod M_Bus_judge) 25 = .ok (.getfield 234, 3) := dt_Bus_judge_c0 15
theorem d_Bus_judge_28 : decode (jm_cod M_Bus_judge) 28 = .ok (.getfield 278, 3) := dt_Bus_judge_c0 16
theorem d_Bus_judge_31 : decode (jm_cod M_Bus_judge) 31 = .ok (.ireturn, 1) := dt_Bus_judge_c0 17
def tab_Bus_watched_c0 : List (Nat × Instr × Nat) := [(0, .iload_n 1, 1), (1, .iconst 2, 1), (2, .invokestatic 65, 3), (5, .iload_n 2, 1), (6, .iconst 0, 1), (7, .iconst 5, 1), (8, .invokestatic 84, 3), (11, .aload_n 0, 1), (12, .getfield 55, 3), (15, .iload_n 1, 1), (16, .aaload, 1), (17, .getfield 234, 3), (20, .astore_n 3, 1), (21, .iload_n 2, 1), (22, .tableswitch 47 3 5 #[26, 31, 39], 26), (48, .aload_n 3, 1), (49, .getfield 281, 3), (52, .ireturn, 1), (53, .aload_n 3, 1), (54, .getfield 284, 3), (57, .getfield 250, 3), (60, .ireturn, 1), (61, .aload_n 3, 1), (62, .getfield 285, 3)]
theorem dt_Bus_watched_c0 (i : Nat) : decode (jm_cod M_Bus_watched) (tab_Bus_watched_c0.getD i (0, .iload_n 1, 1)).1 = .ok ((tab_Bus_watched_c0.getD i (0, .iload_n 1, 1)).2.1, (tab_Bus_watched_c0.getD i (0, .iload_n 1, 1)).2.2) := j_tab (by decide +kernel) i
theorem d_Bus_watched_0 : decode (jm_cod M_Bus_watched) 0 = .ok (.iload_n 1, 1) := dt_Bus_watched_c0 0
theorem d_Bus_watched_1 : decode (jm_cod M_Bus_watched) 1 = .ok (.iconst 2, 1) := dt_Bus_watched_c0 1
theorem d_Bus_watched_2 : decode (jm_cod M_Bus_watched) 2 = .ok (.invokestatic 65, 3) := dt_Bus_watched_c0 2
theorem d_Bus_watched_5 : decode (jm_cod M_Bus_watched) 5 = .ok (.iload_n 2, 1) := dt_Bus_watched_c0 3
theorem d_Bus_watched_6 : decode (jm_cod M_Bus_watched) 6 = .ok (.iconst 0, 1) := dt_Bus_watched_c0 4
theorem d_Bus_watched_7 : decode (jm_cod M_Bus_watched) 7 = .ok (.iconst 5, 1) := dt_Bus_watched_c0 5
theorem d_Bus_watched_8 : decode (jm_cod M_Bus_watched) 8 = .ok (.invokestatic 84, 3) := dt_Bus_watched_c0 6
theorem d_Bus_watched_11 : decode (jm_cod M_Bus_watched) 11 = .ok (.aload_n 0, 1) := dt_Bus_watched_c0 7
theorem d_Bus_watched_12 : decode (jm_cod M_Bus_watched) 12 = .ok (.getfield 55, 3) := dt_Bus_watched_c0 8
theorem d_Bus_watched_15 : decode (jm_cod M_Bus_watched) 15 = .ok (.iload_n 1, 1) := dt_Bus_watched_c0 9
theorem d_Bus_watched_16 : decode (jm_cod M_Bus_watched) 16 = .ok (.aaload, 1) := dt_Bus_watched_c0 10
theorem d_Bus_watched_17 : decode (jm_cod M_Bus_watched) 17 = .ok (.getfield 234, 3) := dt_Bus_watched_c0 11
theorem d_Bus_watched_20 : decode (jm_cod M_Bus_watched) 20 = .ok (.astore_n 3, 1) := dt_Bus_watched_c0 12
theorem d_Bus_watched_21 : decode (jm_cod M_Bus_watched) 21 = .ok (.iload_n 2, 1) := dt_Bus_watched_c0 13
theorem d_Bus_watched_22 : decode (jm_cod M_Bus_watched) 22 = .ok (.tableswitch 47 3 5 #[26, 31, 39], 26) := dt_Bus_watched_c0 14
theorem d_Bus_watched_48 : decode (jm_cod M_Bus_watched) 48 = .ok (.aload_n 3, 1) := dt_Bus_watched_c0 15
theorem d_Bus_watched_49 : decode (jm_cod M_Bus_watched) 49 = .ok (.getfield 281, 3) := dt_Bus_watched_c0 16
theorem d_Bus_watched_52 : decode (jm_cod M_Bus_watched) 52 = .ok (.ireturn, 1) := dt_Bus_watched_c0 17
theorem d_Bus_watched_53 : decode (jm_cod M_Bus_watched) 53 = .ok (.aload_n 3, 1) := dt_Bus_watched_c0 18
theorem d_Bus_watched_54 : decode (jm_cod M_Bus_watched) 54 = .ok (.getfield 284, 3) := dt_Bus_watched_c0 19
theorem d_Bus_watched_57 : decode (jm_cod M_Bus_watched) 57 = .ok (.getfield 250, 3) := dt_Bus_watched_c0 20
theorem d_Bus_watched_60 : decode (jm_cod M_Bus_watched) 60 = .ok (.ireturn, 1) := dt_Bus_watched_c0 21
theorem d_Bus_watched_61 : decode (jm_cod M_Bus_watched) 61 = .ok (.aload_n 3, 1) := dt_Bus_watched_c0 22
theorem d_Bus_watched_62 : decode (jm_cod M_Bus_watched) 62 = .ok (.getfield 285, 3) := dt_Bus_watched_c0 23
def tab_Bus_watched_c1 : List (Nat × Instr × Nat) := [(65, .getfield 250, 3), (68, .ireturn, 1), (69, .aload_n 3, 1), (70, .iload_n 2, 1), (71, .invokevirtual 238, 3), (74, .ireturn, 1)]
theorem dt_Bus_watched_c1 (i : Nat) : decode (jm_cod M_Bus_watched) (tab_Bus_watched_c1.getD i (65, .getfield 250, 3)).1 = .ok ((tab_Bus_watched_c1.getD i (65, .getfield 250, 3)).2.1, (tab_Bus_watched_c1.getD i (65, .getfield 250, 3)).2.2) := j_tab (by decide +kernel) i
theorem d_Bus_watched_65 : decode (jm_cod M_Bus_watched) 65 = .ok (.getfield 250, 3) := dt_Bus_watched_c1 0
theorem d_Bus_watched_68 : decode (jm_cod M_Bus_watched) 68 = .ok (.ireturn, 1) := dt_Bus_watched_c1 1
theorem d_Bus_watched_69 : decode (jm_cod M_Bus_watched) 69 = .ok (.aload_n 3, 1) := dt_Bus_watched_c1 2
theorem d_Bus_watched_70 : decode (jm_cod M_Bus_watched) 70 = .ok (.iload_n 2, 1) := dt_Bus_watched_c1 3
theorem d_Bus_watched_71 : decode (jm_cod M_Bus_watched) 71 = .ok (.invokevirtual 238, 3) := dt_Bus_watched_c1 4
theorem d_Bus_watched_74 : decode (jm_cod M_Bus_watched) 74 = .ok (.ireturn, 1) := dt_Bus_watched_c1 5
def tab_Bus_again_c0 : List (Nat × Instr × Nat) := [(0, .iload_n 1, 1), (1, .iconst 2, 1), (2, .invokestatic 65, 3), (5, .aload_n 0, 1), (6, .getfield 55, 3), (9, .iload_n 1, 1), (10, .aaload, 1), (11, .invokevirtual 286, 3), (14, .return_, 1)]
theorem dt_Bus_again_c0 (i : Nat) : decode (jm_cod M_Bus_again) (tab_Bus_again_c0.getD i (0, .iload_n 1, 1)).1 = .ok ((tab_Bus_again_c0.getD i (0, .iload_n 1, 1)).2.1, (tab_Bus_again_c0.getD i (0, .iload_n 1, 1)).2.2) := j_tab (by decide +kernel) i
theorem d_Bus_again_0 : decode (jm_cod M_Bus_again) 0 = .ok (.iload_n 1, 1) := dt_Bus_again_c0 0
theorem d_Bus_again_1 : decode (jm_cod M_Bus_again) 1 = .ok (.iconst 2, 1) := dt_Bus_again_c0 1
theorem d_Bus_again_2 : decode (jm_cod M_Bus_again) 2 = .ok (.invokestatic 65, 3) := dt_Bus_again_c0 2
theorem d_Bus_again_5 : decode (jm_cod M_Bus_again) 5 = .ok (.aload_n 0, 1) := dt_Bus_again_c0 3
theorem d_Bus_again_6 : decode (jm_cod M_Bus_again) 6 = .ok (.getfield 55, 3) := dt_Bus_again_c0 4
theorem d_Bus_again_9 : decode (jm_cod M_Bus_again) 9 = .ok (.iload_n 1, 1) := dt_Bus_again_c0 5
theorem d_Bus_again_10 : decode (jm_cod M_Bus_again) 10 = .ok (.aaload, 1) := dt_Bus_again_c0 6
theorem d_Bus_again_11 : decode (jm_cod M_Bus_again) 11 = .ok (.invokevirtual 286, 3) := dt_Bus_again_c0 7
theorem d_Bus_again_14 : decode (jm_cod M_Bus_again) 14 = .ok (.return_, 1) := dt_Bus_again_c0 8
